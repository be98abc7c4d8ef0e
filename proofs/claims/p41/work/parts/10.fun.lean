def f_Tape_append  (p1 : Int32) (u : k_S) : Option (Unit × k_S) :=
  if (u.1 101) < 0 then some ((), u) else if (u.1 101) < 120 then k_ck (u.1 101) 120 (k_let (k_wA u 2 (u.1 101).toNatClampNeg (p1)) (fun u1 => k_let (k_wF u1 101 ((u1.1 101) + 1)) (fun u2 => some ((), u2)))) else some ((), u)
def f_W_feed  (p1 : Int32) (u : k_S) : Option (Int32 × k_S) :=
  if p1 < 0 then some ((-1), u) else if p1 ≤ 255 then if (u.1 101) < 120 then k_bind (f_Tape_append p1 u) (fun _ u1 => some (u1.1 101, u1)) else some ((-3), u) else some ((-1), u)
def f_R_in  (p0 : Int32) (p1 : Int32) (p2 : Int32) (u : k_S) : Option (Int32 × k_S) :=
  if p0 < p1 then some (0, u) else if p2 < p0 then some (0, u) else some (1, u)
def f_R_feed  (p1 : Int32) (u : k_S) : Option (Int32 × k_S) :=
  k_bind (f_R_in p1 0 255 u) (fun r2 u1 => if r2 = 0 then some ((-1), u1) else if (u1.1 4202) = 120 then some ((-3), u1) else k_ck (u1.1 4202) 120 (k_let (k_wA u1 43 (u1.1 4202).toNatClampNeg (((p1).toInt8.toInt32).toInt8.toInt32)) (fun u3 => k_let (k_wF u3 4202 ((u3.1 4202) + 1)) (fun u4 => some (u4.1 4202, u4)))))
def f_Tape_at  (p1 : Int32) (u : k_S) : Option (Int32 × k_S) :=
  if p1 < 0 then some ((-1), u) else if (u.1 101) ≤ p1 then some ((-1), u) else if 120 ≤ p1 then some ((-1), u) else k_ck (p1) 120 (some (u.2.1 2 (p1).toNatClampNeg, u))
def f_W_isTooth  (p0 : Int32) (u : k_S) : Option (Int32 × k_S) :=
  if p0 = 119 then some (1, u) else if p0 = 115 then some (1, u) else if p0 = 102 then some (1, u) else if p0 = 98 then some (1, u) else if p0 < 49 then some (0, u) else if 57 < p0 then some (0, u) else some (1, u)
def f_Wheels_faultOf_Tape_B2  (v2 : Int32) (u : k_S) : Option (((Int32) ⊕ (Int32 ⊕ Unit)) × k_S) :=
  if (u.1 101) ≤ v2 then some (.inr (.inr ()), u) else if 40 ≤ v2 then some (.inr (.inl v2), u) else k_bind (f_Tape_at v2 u) (fun r2 u1 => k_bind (f_W_isTooth r2 u1) (fun r4 u3 => if r4 = 0 then some (.inr (.inl v2), u3) else some (.inl (v2 + Int32.ofInt 1), u3)))
def f_Wheels_faultOf_Tape   (u : k_S) : Option (Int32 × k_S) :=
  k_bind (k_itr (fun (x : (Int32)) u => f_Wheels_faultOf_Tape_B2  x u) k_FU 0 u) (fun y6 u5 => k_cs y6 (fun r7 => some (r7, u5)) (fun y6 => if 2 ≤ (u5.1 101) then some ((-1), u5) else some (u5.1 101, u5)))
def f_Wheels_setLetter  (p1 : Int32) (p2 : Int32) (p3 : Int32) (u : k_S) : Option (Unit × k_S) :=
  k_let ((40 * p1) + p2) (fun t1 => if t1 < 0 then some ((), u) else if 160 ≤ t1 then some ((), u) else k_ck (t1) 160 (k_let (k_wA u 4 (t1).toNatClampNeg (p3)) (fun u2 => some ((), u2))))
def f_Wheels_cutFrom_Tape_B23  (v2 : Int32) (v3 : Int32) (u : k_S) : Option (((Int32) ⊕ Unit) × k_S) :=
  if (u.1 101) ≤ v3 then some (.inr (), u) else if 40 ≤ v3 then some (.inr (), u) else k_bind (f_Tape_at v3 u) (fun r3 u2 => k_bind (f_Wheels_setLetter v2 v3 r3 u2) (fun _ u4 => some (.inl (v3 + Int32.ofInt 1), u4)))
def f_Wheels_cutFrom_Tape_J54  (v2 : Int32) (u : k_S) : Option (Int32 × k_S) :=
  k_ck (v2) 4 (k_let (k_wA u 5 (v2).toNatClampNeg (u.1 101)) (fun u7 => k_let (k_wF u7 303 ((u7.1 303) + 1)) (fun u8 => some (v2, u8))))
def f_Wheels_cutFrom_Tape   (u : k_S) : Option (Int32 × k_S) :=
  k_let (u.1 303) (fun t1 => if t1 < 0 then some ((-3), u) else if t1 < 4 then k_bind (k_itr (fun (x : (Int32)) u => f_Wheels_cutFrom_Tape_B23  t1 x u) k_FU 0 u) (fun y6 u5 => f_Wheels_cutFrom_Tape_J54  t1 u5) else some ((-3), u))
def f_W_wheel_J49  (s0 : Int32) (u : k_S) : Option (Int32 × k_S) :=
  k_let (k_wF u 101 (0)) (fun u3 => some (s0, u3))
def f_W_wheel   (u : k_S) : Option (Int32 × k_S) :=
  if (u.1 303) < 4 then k_bind (f_Wheels_faultOf_Tape  u) (fun r2 u1 => if r2 = (-1) then k_bind (f_Wheels_cutFrom_Tape  u1) (fun r5 u4 => f_W_wheel_J49  r5 u4) else f_W_wheel_J49  ((-100) - r2) u1) else some ((-3), u)
def f_R_isTooth  (p0 : Int32) (u : k_S) : Option (Int32 × k_S) :=
  if p0 = 119 then some (1, u) else if p0 = 115 then some (1, u) else if p0 = 102 then some (1, u) else if p0 = 98 then some (1, u) else k_bind (f_R_in p0 49 57 u) (fun r2 u1 => if r2 = 0 then some (0, u1) else some (1, u1))
def f_R_wheel_B13  (v1 : Int32) (u : k_S) : Option (((Int32) ⊕ (Int32)) × k_S) :=
  if (u.1 4202) ≤ v1 then some (.inr v1, u) else if 40 ≤ v1 then some (.inr v1, u) else k_ck (v1) 120 (k_bind (f_R_isTooth (u.2.1 43 (v1).toNatClampNeg) u) (fun r2 u1 => if r2 = 0 then some (.inr v1, u1) else some (.inl (v1 + Int32.ofInt 1), u1)))
def f_R_wheel_B66  (v1 : Int32) (v2 : Int32) (v3 : Int32) (u : k_S) : Option (((Int32) ⊕ Unit) × k_S) :=
  if v1 ≤ v3 then some (.inr (), u) else k_ck (v3) 120 (k_ck ((40 * (u.1 4203)) + v3) 160 (k_let (k_wA u 44 ((40 * (u.1 4203)) + v3).toNatClampNeg (u.2.1 43 (v3).toNatClampNeg)) (fun u5 => some (.inl (v3 + Int32.ofInt 1), u5))))
def f_R_wheel_J63  (v1 : Int32) (s0 : Int32) (u : k_S) : Option (Int32 × k_S) :=
  k_bind (k_itr (fun (x : (Int32)) u => f_R_wheel_B66  v1 s0 x u) k_FU 0 u) (fun y7 u6 => k_let (k_wF u6 4202 (0)) (fun u8 => if s0 = 0 then some ((-100) - v1, u8) else k_ck (u8.1 4203) 4 (k_let (k_wA u8 45 (u8.1 4203).toNatClampNeg (v1)) (fun u9 => k_ck (u9.1 4203) 4 (k_let (k_wA u9 46 (u9.1 4203).toNatClampNeg (0)) (fun u10 => k_ck (u10.1 4203) 4 (k_let (k_wA u10 47 (u10.1 4203).toNatClampNeg (0)) (fun u11 => k_ck (u11.1 4203) 4 (k_let (k_wA u11 48 (u11.1 4203).toNatClampNeg (0)) (fun u12 => k_let (k_wF u12 4203 ((u12.1 4203) + 1)) (fun u13 => some ((u13.1 4203) - 1, u13))))))))))))
def f_R_wheel_J62  (v1 : Int32) (u : k_S) : Option (Int32 × k_S) :=
  f_R_wheel_J63  v1 0 u
def f_R_wheel_J45  (v1 : Int32) (u : k_S) : Option (Int32 × k_S) :=
  if v1 = (u.1 4202) then if v1 < 2 then f_R_wheel_J62  v1 u else f_R_wheel_J63  v1 1 u else f_R_wheel_J62  v1 u
def f_R_wheel   (u : k_S) : Option (Int32 × k_S) :=
  if (u.1 4203) = 4 then some ((-3), u) else k_bind (k_itr (fun (x : (Int32)) u => f_R_wheel_B13  x u) k_FU 0 u) (fun y4 u3 => f_R_wheel_J45  y4 u3)
def f_Reader_add  (p1 : Int32) (u : k_S) : Option (Unit × k_S) :=
  if (u.1 1002) < 0 then some ((), u) else if (u.1 1002) < 128 then k_ck (u.1 1002) 128 (k_let (k_wA u 11 (u.1 1002).toNatClampNeg (p1)) (fun u1 => k_let (k_wF u1 1002 ((u1.1 1002) + 1)) (fun u2 => some ((), u2)))) else some ((), u)
def f_Reader_multiplied_J50 (rc : Int32 → k_S → Option (Int32 × k_S)) (v1 : Int32) (v2 : Int32) (v3 : Int32) (u : k_S) : Option (((Int32) ⊕ (Int32 ⊕ Unit)) × k_S) :=
  k_let (k_wF u 1003 ((u.1 1003) + 1)) (fun u5 => k_bind (rc v1 u5) (fun r7 u6 => if r7 = 0 then some (.inr (.inl 0), u6) else k_bind (f_Reader_add (-v3) u6) (fun _ u8 => some (.inl (v2 + Int32.ofInt 1), u8))))
def f_Reader_multiplied_B12 (rc : Int32 → k_S → Option (Int32 × k_S)) (v1 : Int32) (v2 : Int32) (u : k_S) : Option (((Int32) ⊕ (Int32 ⊕ Unit)) × k_S) :=
  if 120 ≤ v2 then some (.inr (.inr ()), u) else k_bind (f_Tape_at (u.1 1003) u) (fun r4 u3 => if r4 = 42 then f_Reader_multiplied_J50 rc v1 v2 r4 u3 else if r4 = 47 then f_Reader_multiplied_J50 rc v1 v2 r4 u3 else if r4 = 37 then f_Reader_multiplied_J50 rc v1 v2 r4 u3 else some (.inr (.inl 1), u3))
def f_Reader_multiplied (rc : Int32 → k_S → Option (Int32 × k_S)) (p1 : Int32) (u : k_S) : Option (Int32 × k_S) :=
  k_bind (rc p1 u) (fun r2 u1 => if r2 = 0 then some (0, u1) else k_bind (k_itr (fun (x : (Int32)) u => f_Reader_multiplied_B12 rc p1 x u) k_FU 0 u1) (fun y10 u9 => k_cs y10 (fun r11 => some (r11, u9)) (fun y10 => some (1, u9))))
def f_Reader_summed_J44 (rc : Int32 → k_S → Option (Int32 × k_S)) (v1 : Int32) (v2 : Int32) (v3 : Int32) (u : k_S) : Option (((Int32) ⊕ (Int32 ⊕ Unit)) × k_S) :=
  k_let (k_wF u 1003 ((u.1 1003) + 1)) (fun u5 => k_bind (f_Reader_multiplied rc v1 u5) (fun r7 u6 => if r7 = 0 then some (.inr (.inl 0), u6) else k_bind (f_Reader_add (-v3) u6) (fun _ u8 => some (.inl (v2 + Int32.ofInt 1), u8))))
def f_Reader_summed_B12 (rc : Int32 → k_S → Option (Int32 × k_S)) (v1 : Int32) (v2 : Int32) (u : k_S) : Option (((Int32) ⊕ (Int32 ⊕ Unit)) × k_S) :=
  if 120 ≤ v2 then some (.inr (.inr ()), u) else k_bind (f_Tape_at (u.1 1003) u) (fun r4 u3 => if r4 = 43 then f_Reader_summed_J44 rc v1 v2 r4 u3 else if r4 = 45 then f_Reader_summed_J44 rc v1 v2 r4 u3 else some (.inr (.inl 1), u3))
def f_Reader_summed (rc : Int32 → k_S → Option (Int32 × k_S)) (p1 : Int32) (u : k_S) : Option (Int32 × k_S) :=
  k_bind (f_Reader_multiplied rc p1 u) (fun r2 u1 => if r2 = 0 then some (0, u1) else k_bind (k_itr (fun (x : (Int32)) u => f_Reader_summed_B12 rc p1 x u) k_FU 0 u1) (fun y10 u9 => k_cs y10 (fun r11 => some (r11, u9)) (fun y10 => some (1, u9))))
def f_Reader_compared_J42 (rc : Int32 → k_S → Option (Int32 × k_S)) (v1 : Int32) (v2 : Int32) (u : k_S) : Option (Int32 × k_S) :=
  k_let (k_wF u 1003 ((u.1 1003) + 1)) (fun u5 => k_bind (f_Reader_summed rc v1 u5) (fun r7 u6 => if r7 = 0 then some (0, u6) else k_bind (f_Reader_add (-v2) u6) (fun _ u8 => some (1, u8))))
def f_Reader_compared (rc : Int32 → k_S → Option (Int32 × k_S)) (p1 : Int32) (u : k_S) : Option (Int32 × k_S) :=
  k_bind (f_Reader_summed rc p1 u) (fun r2 u1 => if r2 = 0 then some (0, u1) else k_bind (f_Tape_at (u1.1 1003) u1) (fun r4 u3 => if r4 = 60 then f_Reader_compared_J42 rc p1 r4 u3 else if r4 = 61 then f_Reader_compared_J42 rc p1 r4 u3 else if r4 = 62 then f_Reader_compared_J42 rc p1 r4 u3 else some (1, u3)))
def f_Reader_passes  (p1 : Int32) (u : k_S) : Option (Int32 × k_S) :=
  k_bind (f_Tape_at (u.1 1003) u) (fun r2 u1 => if r2 = p1 then k_let (k_wF u1 1003 ((u1.1 1003) + 1)) (fun u3 => some (1, u3)) else some (0, u1))
def f_Reader_both_B12 (rc : Int32 → k_S → Option (Int32 × k_S)) (v1 : Int32) (v2 : Int32) (u : k_S) : Option (((Int32) ⊕ (Int32 ⊕ Unit)) × k_S) :=
  if 120 ≤ v2 then some (.inr (.inr ()), u) else k_bind (f_Reader_passes 38 u) (fun r4 u3 => if r4 = 0 then some (.inr (.inr ()), u3) else k_bind (f_Reader_compared rc v1 u3) (fun r6 u5 => if r6 = 0 then some (.inr (.inl 0), u5) else k_bind (f_Reader_add (-38) u5) (fun _ u7 => some (.inl (v2 + Int32.ofInt 1), u7))))
def f_Reader_both (rc : Int32 → k_S → Option (Int32 × k_S)) (p1 : Int32) (u : k_S) : Option (Int32 × k_S) :=
  k_bind (f_Reader_compared rc p1 u) (fun r2 u1 => if r2 = 0 then some (0, u1) else k_bind (k_itr (fun (x : (Int32)) u => f_Reader_both_B12 rc p1 x u) k_FU 0 u1) (fun y9 u8 => k_cs y9 (fun r10 => some (r10, u8)) (fun y9 => some (1, u8))))
def f_Reader_either_B12 (rc : Int32 → k_S → Option (Int32 × k_S)) (v1 : Int32) (v2 : Int32) (u : k_S) : Option (((Int32) ⊕ (Int32 ⊕ Unit)) × k_S) :=
  if 120 ≤ v2 then some (.inr (.inr ()), u) else k_bind (f_Reader_passes 124 u) (fun r4 u3 => if r4 = 0 then some (.inr (.inr ()), u3) else k_bind (f_Reader_both rc v1 u3) (fun r6 u5 => if r6 = 0 then some (.inr (.inl 0), u5) else k_bind (f_Reader_add (-124) u5) (fun _ u7 => some (.inl (v2 + Int32.ofInt 1), u7))))
def f_Reader_either (rc : Int32 → k_S → Option (Int32 × k_S)) (p1 : Int32) (u : k_S) : Option (Int32 × k_S) :=
  k_bind (f_Reader_both rc p1 u) (fun r2 u1 => if r2 = 0 then some (0, u1) else k_bind (k_itr (fun (x : (Int32)) u => f_Reader_either_B12 rc p1 x u) k_FU 0 u1) (fun y9 u8 => k_cs y9 (fun r10 => some (r10, u8)) (fun y9 => some (1, u8))))
def f_Reader_isDigit  (p0 : Int32) (u : k_S) : Option (Int32 × k_S) :=
  if p0 < 48 then some (0, u) else if 57 < p0 then some (0, u) else some (1, u)
def f_Reader_number_B4  (v1 : Int32) (v2 : Int32) (u : k_S) : Option (((Int32 × Int32) ⊕ (Int32)) × k_S) :=
  if 4 ≤ v2 then some (.inr v1, u) else k_bind (f_Tape_at (u.1 1003) u) (fun r2 u1 => k_bind (f_Reader_isDigit r2 u1) (fun r4 u3 => if r4 = 0 then some (.inr v1, u3) else k_bind (f_Tape_at (u3.1 1003) u3) (fun r6 u5 => k_let (((10 * v1) + r6) - 48) (fun t7 => k_let (k_wF u5 1003 ((u5.1 1003) + 1)) (fun u8 => some (.inl (t7, v2 + Int32.ofInt 1), u8))))))
def f_Reader_number_J62  (v1 : Int32) (u : k_S) : Option (Unit × k_S) :=
  k_bind (f_Reader_add v1 u) (fun _ u11 => some ((), u11))
def f_Reader_number   (u : k_S) : Option (Unit × k_S) :=
  k_bind (k_itr (fun (x : (Int32 × Int32)) u => f_Reader_number_B4  x.1 x.2 u) k_FU (0, 0) u) (fun y10 u9 => f_Reader_number_J62  y10 u9)
def f_Reader_single_J49 (rc : Int32 → k_S → Option (Int32 × k_S)) (v2 : Int32) (u : k_S) : Option (Int32 × k_S) :=
  k_let (k_wF u 1003 ((u.1 1003) + 1)) (fun u5 => k_bind (f_Reader_add (-v2) u5) (fun _ u6 => some (1, u6)))
def f_Reader_single_J161 (rc : Int32 → k_S → Option (Int32 × k_S)) (s1 : Int32) (u : k_S) : Option (Int32 × k_S) :=
  k_bind (f_Reader_add s1 u) (fun _ u10 => some (1, u10))
def f_Reader_single_J87 (rc : Int32 → k_S → Option (Int32 × k_S)) (v1 : Int32) (v2 : Int32) (u : k_S) : Option (Int32 × k_S) :=
  if v1 < 6 then k_let (k_wF u 1003 ((u.1 1003) + 1)) (fun u7 => if v2 = 40 then k_bind (f_Reader_either rc (v1 + 1) u7) (fun r12 u11 => if r12 = 0 then some (0, u11) else k_bind (f_Reader_passes 41 u11) (fun r14 u13 => if r14 = 0 then some (0, u13) else some (1, u13))) else k_bind (rc (v1 + 1) u7) (fun r9 u8 => if r9 = 0 then some (0, u8) else if v2 = 45 then f_Reader_single_J161 rc (-1) u8 else f_Reader_single_J161 rc (-v2) u8)) else some (0, u)
def f_Reader_single (rc : Int32 → k_S → Option (Int32 × k_S)) (p1 : Int32) (u : k_S) : Option (Int32 × k_S) :=
  k_bind (f_Tape_at (u.1 1003) u) (fun r2 u1 => k_bind (f_Reader_isDigit r2 u1) (fun r4 u3 => if r4 = 0 then if r2 = 116 then f_Reader_single_J49 rc r2 u3 else if r2 = 112 then f_Reader_single_J49 rc r2 u3 else if r2 = 107 then f_Reader_single_J49 rc r2 u3 else if r2 = 122 then f_Reader_single_J49 rc r2 u3 else if r2 = 40 then f_Reader_single_J87 rc p1 r2 u3 else if r2 = 33 then f_Reader_single_J87 rc p1 r2 u3 else if r2 = 45 then f_Reader_single_J87 rc p1 r2 u3 else some (0, u3) else k_bind (f_Reader_number  u3) (fun _ u15 => some (1, u15))))
def f_Reader_single_rec : Nat → Int32 → k_S → Option (Int32 × k_S)
  | 0, _, _ => none
  | n + 1, a0, w => f_Reader_single (f_Reader_single_rec n) a0 w
def d_Reader_single : Nat → Nat
  | 0 => 0
  | n + 1 => d_Reader_single n + 7
def f_Reader_line   (u : k_S) : Option (Int32 × k_S) :=
  k_bind (f_Reader_either (f_Reader_single_rec 8) 0 u) (fun r2 u1 => if r2 = 0 then some (0, u1) else k_bind (f_Reader_passes 63 u1) (fun r4 u3 => if r4 = 0 then k_bind (f_Reader_add (-59) u3) (fun _ u5 => some (1, u5)) else k_let (u3.1 1002) (fun t6 => k_bind (f_Reader_add 10000 u3) (fun _ u7 => k_bind (f_Reader_either (f_Reader_single_rec 8) 0 u7) (fun r9 u8 => if r9 = 0 then some (0, u8) else k_bind (f_Reader_add (-59) u8) (fun _ u10 => if 128 ≤ t6 then some (1, u10) else k_ck (t6) 128 (k_let (k_wA u10 11 (t6).toNatClampNeg (10000 + (u10.1 1002))) (fun u11 => some (1, u11)))))))))
def f_Reader_lines_B11  (v1 : Int32) (u : k_S) : Option (((Int32) ⊕ (Int32 ⊕ Unit)) × k_S) :=
  if 120 ≤ v1 then some (.inr (.inr ()), u) else k_bind (f_Reader_passes 59 u) (fun r4 u3 => if r4 = 0 then some (.inr (.inr ()), u3) else k_bind (f_Reader_line  u3) (fun r6 u5 => if r6 = 0 then some (.inr (.inl 0), u5) else some (.inl (v1 + Int32.ofInt 1), u5)))
def f_Reader_lines   (u : k_S) : Option (Int32 × k_S) :=
  k_bind (f_Reader_line  u) (fun r2 u1 => if r2 = 0 then some (0, u1) else k_bind (k_itr (fun (x : (Int32)) u => f_Reader_lines_B11  x u) k_FU 0 u1) (fun y8 u7 => k_cs y8 (fun r9 => some (r9, u7)) (fun y8 => some (1, u7))))
def f_Reader_readTape   (u : k_S) : Option (Int32 × k_S) :=
  k_let (k_wF u 1003 (0)) (fun u1 => k_let (k_wF u1 1002 (0)) (fun u2 => k_bind (f_Reader_lines  u2) (fun r4 u3 => if r4 = 0 then some (u3.1 1003, u3) else if (u3.1 1003) = (u3.1 101) then some ((-1), u3) else some (u3.1 1003, u3))))
def f_Reader_stepAt  (p1 : Int32) (u : k_S) : Option (Int32 × k_S) :=
  if p1 < 0 then some (0, u) else if 128 ≤ p1 then some (0, u) else k_ck (p1) 128 (some (u.2.1 11 (p1).toNatClampNeg, u))
def f_Law_takeFromTape_B28  (v2 : Int32) (u : k_S) : Option (((Int32) ⊕ Unit) × k_S) :=
  if (u.1 703) ≤ v2 then some (.inr (), u) else if 128 ≤ v2 then some (.inr (), u) else k_bind (f_Reader_stepAt v2 u) (fun r5 u4 => k_ck (v2) 128 (k_let (k_wA u4 8 (v2).toNatClampNeg (r5)) (fun u6 => some (.inl (v2 + Int32.ofInt 1), u6))))
def f_Law_takeFromTape   (u : k_S) : Option (Int32 × k_S) :=
  k_bind (f_Reader_readTape  u) (fun r2 u1 => if r2 = (-1) then k_let (k_wF u1 703 (u1.1 1002)) (fun u3 => k_bind (k_itr (fun (x : (Int32)) u => f_Law_takeFromTape_B28  x u) k_FU 0 u3) (fun y8 u7 => some ((-1), u7))) else some (r2, u1))
def f_W_law   (u : k_S) : Option (Int32 × k_S) :=
  k_bind (f_Law_takeFromTape  u) (fun r2 u1 => k_let (k_wF u1 101 (0)) (fun u3 => if r2 = (-1) then some (1, u3) else some ((-100) - r2, u3)))
def f_R_look   (u : k_S) : Option (Int32 × k_S) :=
  if (u.1 4202) ≤ (u.1 4212) then some ((-1), u) else k_ck (u.1 4212) 120 (some (u.2.1 43 (u.1 4212).toNatClampNeg, u))
def f_R_addStep  (p1 : Int32) (p2 : Int32) (u : k_S) : Option (Unit × k_S) :=
  k_ck (130 + (u.1 4215)) 260 (k_let (k_wA u 49 (130 + (u.1 4215)).toNatClampNeg (((p1).toInt8.toInt32).toInt8.toInt32)) (fun u1 => k_ck (130 + (u1.1 4215)) 260 (k_let (k_wA u1 50 (130 + (u1.1 4215)).toNatClampNeg (p2)) (fun u2 => k_let (k_wF u2 4215 ((u2.1 4215) + 1)) (fun u3 => some ((), u3))))))
def f_R_product_J38 (rc : k_S → Option (Unit × k_S))  (u : k_S) : Option ((Unit ⊕ Unit) × k_S) :=
  k_bind (f_R_look  u) (fun r5 u4 => k_let (k_wF u4 4212 ((u4.1 4212) + 1)) (fun u6 => k_bind (rc  u6) (fun _ u7 => k_bind (f_R_addStep r5 0 u7) (fun _ u8 => some (.inl (), u8)))))
def f_R_product_B4 (rc : k_S → Option (Unit × k_S))  (u : k_S) : Option ((Unit ⊕ Unit) × k_S) :=
  if 0 ≤ (u.1 4213) then some (.inr (), u) else k_bind (f_R_look  u) (fun r3 u2 => if r3 = 42 then f_R_product_J38 rc  u2 else k_bind (f_R_look  u2) (fun r10 u9 => if r10 = 47 then f_R_product_J38 rc  u9 else k_bind (f_R_look  u9) (fun r12 u11 => if r12 = 37 then f_R_product_J38 rc  u11 else some (.inr (), u11))))
def f_R_product (rc : k_S → Option (Unit × k_S))  (u : k_S) : Option (Unit × k_S) :=
  k_bind (rc  u) (fun _ u1 => k_bind (k_itr (fun (x : Unit) u => f_R_product_B4 rc  u) k_FU () u1) (fun y14 u13 => some ((), u13)))
def f_R_sum_J29 (rc : k_S → Option (Unit × k_S))  (u : k_S) : Option ((Unit ⊕ Unit) × k_S) :=
  k_bind (f_R_look  u) (fun r5 u4 => k_let (k_wF u4 4212 ((u4.1 4212) + 1)) (fun u6 => k_bind (f_R_product rc  u6) (fun _ u7 => k_bind (f_R_addStep r5 0 u7) (fun _ u8 => some (.inl (), u8)))))
def f_R_sum_B4 (rc : k_S → Option (Unit × k_S))  (u : k_S) : Option ((Unit ⊕ Unit) × k_S) :=
  if 0 ≤ (u.1 4213) then some (.inr (), u) else k_bind (f_R_look  u) (fun r3 u2 => if r3 = 43 then f_R_sum_J29 rc  u2 else k_bind (f_R_look  u2) (fun r10 u9 => if r10 = 45 then f_R_sum_J29 rc  u9 else some (.inr (), u9)))
def f_R_sum (rc : k_S → Option (Unit × k_S))  (u : k_S) : Option (Unit × k_S) :=
  k_bind (f_R_product rc  u) (fun _ u1 => k_bind (k_itr (fun (x : Unit) u => f_R_sum_B4 rc  u) k_FU () u1) (fun y12 u11 => some ((), u11)))
def f_R_compared_J35 (rc : k_S → Option (Unit × k_S)) (v1 : Int32) (u : k_S) : Option (Unit × k_S) :=
  k_let (k_wF u 4212 ((u.1 4212) + 1)) (fun u4 => k_bind (f_R_sum rc  u4) (fun _ u5 => k_bind (f_R_addStep v1 0 u5) (fun _ u6 => some ((), u6))))
def f_R_compared (rc : k_S → Option (Unit × k_S))  (u : k_S) : Option (Unit × k_S) :=
  k_bind (f_R_sum rc  u) (fun _ u1 => k_bind (f_R_look  u1) (fun r3 u2 => if 0 ≤ (u2.1 4213) then some ((), u2) else if r3 = 60 then f_R_compared_J35 rc r3 u2 else if r3 = 61 then f_R_compared_J35 rc r3 u2 else if r3 = 62 then f_R_compared_J35 rc r3 u2 else some ((), u2)))
def f_R_both_B4 (rc : k_S → Option (Unit × k_S))  (u : k_S) : Option ((Unit ⊕ Unit) × k_S) :=
  if 0 ≤ (u.1 4213) then some (.inr (), u) else k_bind (f_R_look  u) (fun r3 u2 => if r3 = 38 then k_let (k_wF u2 4212 ((u2.1 4212) + 1)) (fun u4 => k_bind (f_R_compared rc  u4) (fun _ u5 => k_bind (f_R_addStep 38 0 u5) (fun _ u6 => some (.inl (), u6)))) else some (.inr (), u2))
def f_R_both (rc : k_S → Option (Unit × k_S))  (u : k_S) : Option (Unit × k_S) :=
  k_bind (f_R_compared rc  u) (fun _ u1 => k_bind (k_itr (fun (x : Unit) u => f_R_both_B4 rc  u) k_FU () u1) (fun y8 u7 => some ((), u7)))
def f_R_either_B4 (rc : k_S → Option (Unit × k_S))  (u : k_S) : Option ((Unit ⊕ Unit) × k_S) :=
  if 0 ≤ (u.1 4213) then some (.inr (), u) else k_bind (f_R_look  u) (fun r3 u2 => if r3 = 124 then k_let (k_wF u2 4212 ((u2.1 4212) + 1)) (fun u4 => k_bind (f_R_both rc  u4) (fun _ u5 => k_bind (f_R_addStep 124 0 u5) (fun _ u6 => some (.inl (), u6)))) else some (.inr (), u2))
def f_R_either (rc : k_S → Option (Unit × k_S))  (u : k_S) : Option (Unit × k_S) :=
  k_bind (f_R_both rc  u) (fun _ u1 => k_bind (k_itr (fun (x : Unit) u => f_R_either_B4 rc  u) k_FU () u1) (fun y8 u7 => some ((), u7)))
def f_R_nameOf  (p0 : Int32) (u : k_S) : Option (Int32 × k_S) :=
  if p0 = 107 then some (2, u) else if p0 = 112 then some (1, u) else if p0 = 116 then some (0, u) else if p0 = 122 then some (3, u) else some ((-1), u)
def f_R_wrong   (u : k_S) : Option (Unit × k_S) :=
  if 0 ≤ (u.1 4213) then some ((), u) else k_let (k_wF u 4213 (u.1 4212)) (fun u1 => some ((), u1))
def f_R_opens   (u : k_S) : Option (Int32 × k_S) :=
  if (u.1 4214) = 6 then k_bind (f_R_wrong  u) (fun _ u3 => some (0, u3)) else k_let (k_wF u 4214 ((u.1 4214) + 1)) (fun u1 => k_let (k_wF u1 4212 ((u1.1 4212) + 1)) (fun u2 => some (1, u2)))
def f_R_figure_B4  (v1 : Int32) (v2 : Int32) (u : k_S) : Option (((Int32 × Int32) ⊕ (Int32 × Int32)) × k_S) :=
  if 4 ≤ v2 then some (.inr (v1, v2), u) else k_bind (f_R_look  u) (fun r2 u1 => k_bind (f_R_in r2 48 57 u1) (fun r4 u3 => if r4 = 0 then some (.inr (v1, v2), u3) else k_bind (f_R_look  u3) (fun r6 u5 => k_let (((10 * v1) + r6) - 48) (fun t7 => k_let (k_wF u5 4212 ((u5.1 4212) + 1)) (fun u8 => some (.inl (t7, v2 + Int32.ofInt 1), u8))))))
def f_R_figure_J74  (v1 : Int32) (u : k_S) : Option (Unit × k_S) :=
  k_bind (f_R_addStep 1 v1 u) (fun _ u12 => some ((), u12))
def f_R_figure_J70  (v1 : Int32) (u : k_S) : Option (Unit × k_S) :=
  k_bind (f_R_wrong  u) (fun _ u11 => f_R_figure_J74  v1 u11)
def f_R_figure_J52  (v1 : Int32) (v2 : Int32) (u : k_S) : Option (Unit × k_S) :=
  if v2 = 0 then f_R_figure_J70  v1 u else k_bind (f_R_look  u) (fun r14 u13 => k_bind (f_R_in r14 48 57 u13) (fun r16 u15 => if r16 = 0 then f_R_figure_J74  v1 u15 else f_R_figure_J70  v1 u15))
def f_R_figure   (u : k_S) : Option (Unit × k_S) :=
  k_bind (k_itr (fun (x : (Int32 × Int32)) u => f_R_figure_B4  x.1 x.2 u) k_FU (0, 0) u) (fun y10 u9 => f_R_figure_J52  y10.1 y10.2 u9)
def f_R_operand_J80 (rc : k_S → Option (Unit × k_S)) (s1 : Int32) (u : k_S) : Option (Unit × k_S) :=
  k_bind (f_R_addStep s1 0 u) (fun _ u9 => some ((), u9))
def f_R_operand_J46 (rc : k_S → Option (Unit × k_S)) (v1 : Int32) (u : k_S) : Option (Unit × k_S) :=
  k_bind (f_R_opens  u) (fun r6 u5 => if r6 = 0 then some ((), u5) else k_bind (rc  u5) (fun _ u7 => k_let (k_wF u7 4214 ((u7.1 4214) - 1)) (fun u8 => if v1 = 33 then f_R_operand_J80 rc 3 u8 else f_R_operand_J80 rc 4 u8)))
def f_R_operand (rc : k_S → Option (Unit × k_S))  (u : k_S) : Option (Unit × k_S) :=
  k_bind (f_R_look  u) (fun r2 u1 => k_bind (f_R_nameOf r2 u1) (fun r4 u3 => if r4 < 0 then if r2 = 33 then f_R_operand_J46 rc r2 u3 else if r2 = 45 then f_R_operand_J46 rc r2 u3 else if r2 = 40 then k_bind (f_R_opens  u3) (fun r12 u11 => if r12 = 0 then some ((), u11) else k_bind (f_R_either rc  u11) (fun _ u13 => if (u13.1 4213) < 0 then k_bind (f_R_look  u13) (fun r15 u14 => if r15 = 41 then k_let (k_wF u14 4212 ((u14.1 4212) + 1)) (fun u16 => k_let (k_wF u16 4214 ((u16.1 4214) - 1)) (fun u17 => some ((), u17))) else k_bind (f_R_wrong  u14) (fun _ u18 => some ((), u18))) else some ((), u13))) else k_bind (f_R_figure  u3) (fun _ u10 => some ((), u10)) else k_bind (f_R_nameOf r2 u3) (fun r20 u19 => k_bind (f_R_addStep 2 r20 u19) (fun _ u21 => k_let (k_wF u21 4212 ((u21.1 4212) + 1)) (fun u22 => some ((), u22))))))
def f_R_operand_rec : Nat → k_S → Option (Unit × k_S)
  | 0, _ => none
  | n + 1, w => f_R_operand (f_R_operand_rec n)  w
def d_R_operand : Nat → Nat
  | 0 => 0
  | n + 1 => d_R_operand n + 7
def f_R_line_J66  (v1 : Int32) (u : k_S) : Option (Unit × k_S) :=
  k_ck (v1) 122 (k_let (k_wA u 53 (v1).toNatClampNeg (((u.1 4215).toInt16.toInt32).toInt16.toInt32)) (fun u4 => k_ck (1) 2 (k_ck (1) 2 (k_let (k_wA u4 51 (1 : Int32).toNatClampNeg ((u4.2.1 51 (1 : Int32).toNatClampNeg) + 1)) (fun u5 => some ((), u5))))))
def f_R_line   (u : k_S) : Option (Unit × k_S) :=
  k_ck (1) 2 (k_let (61 + (u.2.1 51 (1 : Int32).toNatClampNeg)) (fun t1 => k_ck (t1) 122 (k_let (k_wA u 52 (t1).toNatClampNeg (((u.1 4215).toInt16.toInt32).toInt16.toInt32)) (fun u2 => k_bind (f_R_either (f_R_operand_rec 8)  u2) (fun _ u3 => if 0 ≤ (u3.1 4213) then f_R_line_J66  t1 u3 else k_bind (f_R_look  u3) (fun r7 u6 => if r7 = 63 then k_let (k_wF u6 4212 ((u6.1 4212) + 1)) (fun u8 => k_ck (t1) 122 (k_let (k_wA u8 52 (t1).toNatClampNeg (((u8.1 4215).toInt16.toInt32).toInt16.toInt32)) (fun u9 => k_bind (f_R_either (f_R_operand_rec 8)  u9) (fun _ u10 => f_R_line_J66  t1 u10)))) else f_R_line_J66  t1 u6))))))
def f_R_readText_B31  (v1 : Int32) (u : k_S) : Option ((Unit ⊕ Unit) × k_S) :=
  if 0 ≤ (u.1 4213) then some (.inr (), u) else k_bind (f_R_look  u) (fun r8 u7 => if r8 = 59 then k_let (k_wF u7 4212 ((u7.1 4212) + 1)) (fun u9 => k_bind (f_R_line  u9) (fun _ u10 => some (.inl (), u10))) else some (.inr (), u7))
def f_R_readText_B105  (v1 : Int32) (v2 : Int32) (u : k_S) : Option (((Int32) ⊕ Unit) × k_S) :=
  if (u.1 4215) ≤ v2 then some (.inr (), u) else k_ck (130 + v2) 260 (k_ck ((130 * v1) + v2) 260 (k_let (k_wA u 49 ((130 * v1) + v2).toNatClampNeg ((u.2.1 49 (130 + v2).toNatClampNeg).toInt8.toInt32)) (fun u14 => k_ck (130 + v2) 260 (k_ck ((130 * v1) + v2) 260 (k_let (k_wA u14 50 ((130 * v1) + v2).toNatClampNeg (u14.2.1 50 (130 + v2).toNatClampNeg)) (fun u15 => some (.inl (v2 + Int32.ofInt 1), u15)))))))
def f_R_readText_B177  (v1 : Int32) (v2 : Int32) (u : k_S) : Option (((Int32) ⊕ Unit) × k_S) :=
  k_ck (v1) 2 (if (u.2.1 51 (v1).toNatClampNeg) ≤ v2 then some (.inr (), u) else k_ck (61 + v2) 122 (k_ck ((61 * v1) + v2) 122 (k_let (k_wA u 52 ((61 * v1) + v2).toNatClampNeg ((u.2.1 52 (61 + v2).toNatClampNeg).toInt16.toInt32)) (fun u19 => k_ck (61 + v2) 122 (k_ck ((61 * v1) + v2) 122 (k_let (k_wA u19 53 ((61 * v1) + v2).toNatClampNeg ((u19.2.1 53 (61 + v2).toNatClampNeg).toInt16.toInt32)) (fun u20 => some (.inl (v2 + Int32.ofInt 1), u20))))))))
def f_R_readText_J86  (v1 : Int32) (u : k_S) : Option (Int32 × k_S) :=
  k_let (k_wF u 4202 (0)) (fun u13 => if (u13.1 4213) < 0 then k_bind (k_itr (fun (x : (Int32)) u => f_R_readText_B105  v1 x u) k_FU 0 u13) (fun y17 u16 => k_ck (1) 2 (k_ck (v1) 2 (k_let (k_wA u16 51 (v1).toNatClampNeg (u16.2.1 51 (1 : Int32).toNatClampNeg)) (fun u18 => k_bind (k_itr (fun (x : (Int32)) u => f_R_readText_B177  v1 x u) k_FU 0 u18) (fun y22 u21 => some ((-1), u21)))))) else some (u13.1 4213, u13))
def f_R_readText_J64  (v1 : Int32) (u : k_S) : Option (Int32 × k_S) :=
  if 0 ≤ (u.1 4213) then f_R_readText_J86  v1 u else if (u.1 4202) ≤ (u.1 4212) then f_R_readText_J86  v1 u else k_bind (f_R_wrong  u) (fun _ u23 => f_R_readText_J86  v1 u23)
def f_R_readText  (p1 : Int32) (u : k_S) : Option (Int32 × k_S) :=
  k_let (k_wF u 4212 (0)) (fun u1 => k_let (k_wF u1 4213 ((-1))) (fun u2 => k_let (k_wF u2 4214 (0)) (fun u3 => k_let (k_wF u3 4215 (0)) (fun u4 => k_ck (1) 2 (k_let (k_wA u4 51 (1 : Int32).toNatClampNeg (0)) (fun u5 => k_bind (f_R_line  u5) (fun _ u6 => k_bind (k_itr (fun (x : Unit) u => f_R_readText_B31  p1 u) k_FU () u6) (fun y12 u11 => f_R_readText_J64  p1 u11))))))))
def f_R_law   (u : k_S) : Option (Int32 × k_S) :=
  k_bind (f_R_readText 0 u) (fun r2 u1 => if r2 < 0 then k_let (k_wF u1 4223 (1)) (fun u3 => some (1, u3)) else some ((-100) - r2, u1))
def f_W_set_J33  (v1 : Int32) (v2 : Int32) (u : k_S) : Option (Int32 × k_S) :=
  if v1 = 1 then k_let (u.1 705) (fun t1 => k_let (k_wF u 705 (v2)) (fun u2 => some (t1, u2))) else some ((-2000000000), u)
def f_W_set  (p1 : Int32) (p2 : Int32) (u : k_S) : Option (Int32 × k_S) :=
  if p1 = 0 then if p2 < 1 then f_W_set_J33  p1 p2 u else if 9 < p2 then f_W_set_J33  p1 p2 u else k_let (u.1 1205) (fun t3 => k_let (k_wF u 1205 (p2)) (fun u4 => some (t3, u4))) else f_W_set_J33  p1 p2 u
def f_R_set_J26  (v1 : Int32) (v2 : Int32) (u : k_S) : Option (Int32 × k_S) :=
  if v1 = 1 then k_let (u.1 4211) (fun t1 => k_let (k_wF u 4211 (v2)) (fun u2 => some (t1, u2))) else some ((-2000000000), u)
def f_R_set  (p1 : Int32) (p2 : Int32) (u : k_S) : Option (Int32 × k_S) :=
  if p1 = 0 then k_bind (f_R_in p2 1 9 u) (fun r4 u3 => if r4 = 0 then f_R_set_J26  p1 p2 u3 else k_let (u3.1 4210) (fun t5 => k_let (k_wF u3 4210 (p2)) (fun u6 => some (t5, u6)))) else f_R_set_J26  p1 p2 u
def f_Wheels_has  (p1 : Int32) (u : k_S) : Option (Int32 × k_S) :=
  if p1 < 0 then some (0, u) else if (u.1 303) ≤ p1 then some (0, u) else if 4 ≤ p1 then some (0, u) else some (1, u)
def f_Wheels_breakOf  (p1 : Int32) (u : k_S) : Option (Int32 × k_S) :=
  if p1 < 0 then some (0, u) else if 4 ≤ p1 then some (0, u) else k_ck (p1) 4 (some (u.2.1 6 (p1).toNatClampNeg, u))
def f_Wheels_setBreak  (p1 : Int32) (p2 : Int32) (u : k_S) : Option (Unit × k_S) :=
  if p1 < 0 then some ((), u) else if 4 ≤ p1 then some ((), u) else k_ck (p1) 4 (k_let (k_wA u 6 (p1).toNatClampNeg (p2)) (fun u1 => some ((), u1)))
def f_Changes_write  (p1 : Int32) (p2 : Int32) (p3 : Int32) (p4 : Int32) (p5 : Int32) (u : k_S) : Option (Unit × k_S) :=
  if p1 < 0 then some ((), u) else if 40 ≤ p1 then some ((), u) else if p1 < 40 then if 40 ≤ p1 then some ((), u) else if p1 < 40 then k_ck (p1) 40 (k_let (k_wA u 31 (p1).toNatClampNeg (p2)) (fun u1 => k_ck (p1) 40 (k_let (k_wA u1 32 (p1).toNatClampNeg (p3)) (fun u2 => k_ck (p1) 40 (k_let (k_wA u2 33 (p1).toNatClampNeg (p4)) (fun u3 => k_ck (p1) 40 (k_let (k_wA u3 34 (p1).toNatClampNeg (p5)) (fun u4 => some ((), u4))))))))) else some ((), u) else some ((), u)
def f_Changes_wheelAt  (p1 : Int32) (u : k_S) : Option (Int32 × k_S) :=
  if p1 < 0 then some ((-1), u) else if 40 ≤ p1 then some ((-1), u) else k_ck (p1) 40 (some (u.2.1 31 (p1).toNatClampNeg, u))
def f_Changes_placeAt  (p1 : Int32) (u : k_S) : Option (Int32 × k_S) :=
  if p1 < 0 then some ((-1), u) else if 40 ≤ p1 then some ((-1), u) else k_ck (p1) 40 (some (u.2.1 32 (p1).toNatClampNeg, u))
def f_Changes_beforeAt  (p1 : Int32) (u : k_S) : Option (Int32 × k_S) :=
  if p1 < 0 then some (0, u) else if 40 ≤ p1 then some (0, u) else k_ck (p1) 40 (some (u.2.1 33 (p1).toNatClampNeg, u))
def f_Changes_afterAt  (p1 : Int32) (u : k_S) : Option (Int32 × k_S) :=
  if p1 < 0 then some (0, u) else if 40 ≤ p1 then some (0, u) else k_ck (p1) 40 (some (u.2.1 34 (p1).toNatClampNeg, u))
def f_Changes_dropOldest_B2  (v1 : Int32) (u : k_S) : Option (((Int32) ⊕ Unit) × k_S) :=
  if 40 ≤ v1 then some (.inr (), u) else k_bind (f_Changes_wheelAt v1 u) (fun r2 u1 => k_bind (f_Changes_placeAt v1 u1) (fun r4 u3 => k_bind (f_Changes_beforeAt v1 u3) (fun r6 u5 => k_bind (f_Changes_afterAt v1 u5) (fun r8 u7 => k_bind (f_Changes_write (v1 - 1) r2 r4 r6 r8 u7) (fun _ u9 => some (.inl (v1 + Int32.ofInt 1), u9))))))
def f_Changes_dropOldest   (u : k_S) : Option (Unit × k_S) :=
  k_bind (k_itr (fun (x : (Int32)) u => f_Changes_dropOldest_B2  x u) k_FU 1 u) (fun y11 u10 => k_let (k_wF u10 3004 (39)) (fun u12 => some ((), u12)))
def f_Changes_add_J20  (v1 : Int32) (v2 : Int32) (v3 : Int32) (v4 : Int32) (u : k_S) : Option (Unit × k_S) :=
  k_bind (f_Changes_write (u.1 3004) v1 v2 v3 v4 u) (fun _ u1 => k_let (k_wF u1 3004 ((u1.1 3004) + 1)) (fun u2 => k_let (k_wF u2 3005 (u2.1 3004)) (fun u3 => some ((), u3))))
def f_Changes_add  (p1 : Int32) (p2 : Int32) (p3 : Int32) (p4 : Int32) (u : k_S) : Option (Unit × k_S) :=
  if p3 = p4 then some ((), u) else if (u.1 3004) < 40 then f_Changes_add_J20  p1 p2 p3 p4 u else k_bind (f_Changes_dropOldest  u) (fun _ u4 => f_Changes_add_J20  p1 p2 p3 p4 u4)
def f_W_broke  (p1 : Int32) (p2 : Int32) (u : k_S) : Option (Int32 × k_S) :=
  k_bind (f_Wheels_has p1 u) (fun r2 u1 => if r2 = 0 then some ((-1), u1) else if p2 < 0 then some ((-1), u1) else if p2 ≤ 9999 then k_bind (f_Wheels_breakOf p1 u1) (fun r4 u3 => k_bind (f_Wheels_setBreak p1 p2 u3) (fun _ u5 => k_bind (f_Changes_add p1 (-1) r4 p2 u5) (fun _ u6 => some (r4, u6)))) else some ((-1), u1))
def f_R_isWheel  (p1 : Int32) (u : k_S) : Option (Int32 × k_S) :=
  k_bind (f_R_in p1 0 ((u.1 4203) - 1) u) (fun r2 u1 => k_zb r2 (some (r2, u1)))
def f_R_valueAt  (p1 : Int32) (p2 : Int32) (u : k_S) : Option (Int32 × k_S) :=
  if p1 = 0 then k_ck (p2) 160 (some (u.2.1 44 (p2).toNatClampNeg, u)) else k_ck (p2) 4 (some (u.2.1 48 (p2).toNatClampNeg, u))
def f_R_lays  (p1 : Int32) (p2 : Int32) (p3 : Int32) (u : k_S) : Option (Unit × k_S) :=
  if p1 = 0 then k_ck (p2) 160 (k_let (k_wA u 44 (p2).toNatClampNeg (p3)) (fun u2 => some ((), u2))) else k_ck (p2) 4 (k_let (k_wA u 48 (p2).toNatClampNeg (p3)) (fun u1 => some ((), u1)))
def f_R_changes_J121  (v1 : Int32) (v2 : Int32) (v3 : Int32) (v4 : Int32) (u : k_S) : Option (Int32 × k_S) :=
  k_ck (u.1 4224) 40 (k_let (k_wA u 56 (u.1 4224).toNatClampNeg (v1)) (fun u4 => k_ck (u4.1 4224) 40 (k_let (k_wA u4 57 (u4.1 4224).toNatClampNeg (v2)) (fun u5 => k_ck (u5.1 4224) 40 (k_let (k_wA u5 58 (u5.1 4224).toNatClampNeg (v4)) (fun u6 => k_ck (u6.1 4224) 40 (k_let (k_wA u6 59 (u6.1 4224).toNatClampNeg (v3)) (fun u7 => k_let (k_wF u7 4224 ((u7.1 4224) + 1)) (fun u8 => k_bind (f_R_lays v1 v2 v3 u8) (fun _ u9 => some (v4, u9)))))))))))
def f_R_changes_B34  (v1 : Int32) (v2 : Int32) (v3 : Int32) (v4 : Int32) (v5 : Int32) (u : k_S) : Option (((Int32) ⊕ Unit) × k_S) :=
  if 40 ≤ v5 then some (.inr (), u) else k_ck (v5) 40 (k_ck (v5 - 1) 40 (k_let (k_wA u 56 (v5 - 1).toNatClampNeg (u.2.1 56 (v5).toNatClampNeg)) (fun u10 => k_ck (v5) 40 (k_ck (v5 - 1) 40 (k_let (k_wA u10 57 (v5 - 1).toNatClampNeg (u10.2.1 57 (v5).toNatClampNeg)) (fun u11 => k_ck (v5) 40 (k_ck (v5 - 1) 40 (k_let (k_wA u11 58 (v5 - 1).toNatClampNeg (u11.2.1 58 (v5).toNatClampNeg)) (fun u12 => k_ck (v5) 40 (k_ck (v5 - 1) 40 (k_let (k_wA u12 59 (v5 - 1).toNatClampNeg (u12.2.1 59 (v5).toNatClampNeg)) (fun u13 => some (.inl (v5 + Int32.ofInt 1), u13)))))))))))))
def f_R_changes  (p1 : Int32) (p2 : Int32) (p3 : Int32) (u : k_S) : Option (Int32 × k_S) :=
  k_bind (f_R_valueAt p1 p2 u) (fun r2 u1 => if r2 = p3 then some (r2, u1) else k_let (k_wF u1 4225 (0)) (fun u3 => if (u3.1 4224) = 40 then k_bind (k_itr (fun (x : (Int32)) u => f_R_changes_B34  p1 p2 p3 r2 x u) k_FU 1 u3) (fun y15 u14 => k_let (k_wF u14 4224 ((u14.1 4224) - 1)) (fun u16 => f_R_changes_J121  p1 p2 p3 r2 u16)) else f_R_changes_J121  p1 p2 p3 r2 u3))
def f_R_broke  (p1 : Int32) (p2 : Int32) (u : k_S) : Option (Int32 × k_S) :=
  k_bind (f_R_isWheel p1 u) (fun r2 u1 => if r2 = 0 then some ((-1), u1) else k_bind (f_R_in p2 0 9999 u1) (fun r4 u3 => if r4 = 0 then some ((-1), u3) else k_bind (f_R_changes 1 p1 p2 u3) (fun r6 u5 => some (r6, u5))))
def f_Wheels_hasPlace  (p1 : Int32) (p2 : Int32) (u : k_S) : Option (Int32 × k_S) :=
  k_bind (f_Wheels_has p1 u) (fun r2 u1 => if r2 = 0 then some (0, u1) else if p2 < 0 then some (0, u1) else k_ck (p1) 4 (if (u1.2.1 5 (p1).toNatClampNeg) ≤ p2 then some (0, u1) else some (1, u1)))
def f_Wheels_letterAt  (p1 : Int32) (p2 : Int32) (u : k_S) : Option (Int32 × k_S) :=
  k_let ((40 * p1) + p2) (fun t1 => if t1 < 0 then some (0, u) else if 160 ≤ t1 then some (0, u) else k_ck (t1) 160 (some (u.2.1 4 (t1).toNatClampNeg, u)))
def f_W_tooth  (p1 : Int32) (p2 : Int32) (p3 : Int32) (u : k_S) : Option (Int32 × k_S) :=
  k_bind (f_Wheels_hasPlace p1 p2 u) (fun r2 u1 => if r2 = 0 then some ((-1), u1) else k_bind (f_W_isTooth p3 u1) (fun r4 u3 => if r4 = 0 then some ((-1), u3) else k_bind (f_Wheels_letterAt p1 p2 u3) (fun r6 u5 => k_bind (f_Wheels_setLetter p1 p2 p3 u5) (fun _ u7 => k_bind (f_Changes_add p1 p2 r6 p3 u7) (fun _ u8 => some (r6, u8))))))
def f_R_tooth  (p1 : Int32) (p2 : Int32) (p3 : Int32) (u : k_S) : Option (Int32 × k_S) :=
  k_bind (f_R_isWheel p1 u) (fun r2 u1 => if r2 = 0 then some ((-1), u1) else k_ck (p1) 4 (k_bind (f_R_in p2 0 ((u1.2.1 45 (p1).toNatClampNeg) - 1) u1) (fun r4 u3 => if r4 = 0 then some ((-1), u3) else k_bind (f_R_isTooth p3 u3) (fun r6 u5 => if r6 = 0 then some ((-1), u5) else k_bind (f_R_changes 0 ((40 * p1) + p2) p3 u5) (fun r8 u7 => some (r8, u7))))))
def f_Wheels_sizeOf  (p1 : Int32) (u : k_S) : Option (Int32 × k_S) :=
  if p1 < 0 then some (0, u) else if 4 ≤ p1 then some (0, u) else k_ck (p1) 4 (some (u.2.1 5 (p1).toNatClampNeg, u))
def f_Now_placeOf  (p1 : Int32) (u : k_S) : Option (Int32 × k_S) :=
  if p1 < 0 then some (0, u) else if 4 ≤ p1 then some (0, u) else k_ck (p1) 4 (some (u.2.1 15 (p1).toNatClampNeg, u))
def f_Now_waitsOf  (p1 : Int32) (u : k_S) : Option (Int32 × k_S) :=
  if p1 < 0 then some (0, u) else if 4 ≤ p1 then some (0, u) else k_ck (p1) 4 (some (u.2.1 16 (p1).toNatClampNeg, u))
def f_W_of  (p1 : Int32) (p2 : Int32) (u : k_S) : Option (Int32 × k_S) :=
  k_bind (f_Wheels_has p1 u) (fun r2 u1 => if r2 = 0 then some ((-1), u1) else if p2 = 0 then k_bind (f_Wheels_sizeOf p1 u1) (fun r4 u3 => some (r4, u3)) else if p2 = 1 then k_bind (f_Now_placeOf p1 u1) (fun r6 u5 => some (r6, u5)) else if p2 = 2 then k_bind (f_Now_waitsOf p1 u1) (fun r8 u7 => some (r8, u7)) else if p2 = 3 then k_bind (f_Wheels_breakOf p1 u1) (fun r10 u9 => some (r10, u9)) else if p2 < 100 then some ((-1), u1) else k_bind (f_Wheels_hasPlace p1 (p2 - 100) u1) (fun r12 u11 => if r12 = 0 then some ((-1), u11) else k_bind (f_Wheels_letterAt p1 (p2 - 100) u11) (fun r14 u13 => some (r14, u13))))
def f_R_of  (p1 : Int32) (p2 : Int32) (u : k_S) : Option (Int32 × k_S) :=
  k_bind (f_R_isWheel p1 u) (fun r2 u1 => if r2 = 0 then some ((-1), u1) else k_ck (p1) 4 (k_bind (f_R_in p2 100 (99 + (u1.2.1 45 (p1).toNatClampNeg)) u1) (fun r4 u3 => if r4 = 0 then if p2 = 0 then k_ck (p1) 4 (some (u3.2.1 45 (p1).toNatClampNeg, u3)) else if p2 = 1 then k_ck (p1) 4 (some (u3.2.1 46 (p1).toNatClampNeg, u3)) else if p2 = 2 then k_ck (p1) 4 (some (u3.2.1 47 (p1).toNatClampNeg, u3)) else if p2 = 3 then k_ck (p1) 4 (some (u3.2.1 48 (p1).toNatClampNeg, u3)) else some ((-1), u3) else k_ck (((40 * p1) + p2) - 100) 160 (some (u3.2.1 44 (((40 * p1) + p2) - 100).toNatClampNeg, u3)))))
def f_Now_stand  (p1 : Int32) (p2 : Int32) (p3 : Int32) (u : k_S) : Option (Unit × k_S) :=
  if p1 < 0 then some ((), u) else if 4 ≤ p1 then some ((), u) else if p1 < 4 then k_ck (p1) 4 (k_let (k_wA u 15 (p1).toNatClampNeg (p2)) (fun u1 => k_ck (p1) 4 (k_let (k_wA u1 16 (p1).toNatClampNeg (p3)) (fun u2 => some ((), u2))))) else some ((), u)
def f_W_left  (p0 : Int32) (p1 : Int32) (u : k_S) : Option (Int32 × k_S) :=
  if p1 = 0 then some (0, u) else k_nz (p1) (some (p0 % p1, u))
def f_Law_pop   (u : k_S) : Option (Int32 × k_S) :=
  if (u.1 704) ≤ 0 then some (0, u) else if (u.1 704) ≤ 128 then k_let (k_wF u 704 ((u.1 704) - 1)) (fun u1 => k_ck (u1.1 704) 128 (some (u1.2.1 9 (u1.1 704).toNatClampNeg, u1))) else some (0, u)
def f_Law_resultOf  (p1 : Int32) (p2 : Int32) (p3 : Int32) (p4 : Int32) (u : k_S) : Option (Int32 × k_S) :=
  if p1 = (-122) then some (((((p2 * 1103515245) + (u.1 705)).toUInt32 >>> ((8 : Int32).toUInt32 &&& Int32.toUInt32 31)).toInt32) % 10, u) else if p1 = (-116) then some (p2, u) else if p1 = (-112) then some (p3, u) else if p1 = (-107) then some (p4, u) else if p1 = (-33) then k_bind (f_Law_pop  u) (fun r2 u1 => if r2 = 0 then some (1, u1) else some (0, u1)) else if p1 = (-1) then k_bind (f_Law_pop  u) (fun r4 u3 => some (-r4, u3)) else k_bind (f_Law_pop  u) (fun r6 u5 => k_bind (f_Law_pop  u5) (fun r8 u7 => if p1 = (-124) then if r8 = 0 then if r6 = 0 then some (0, u7) else some (1, u7) else some (1, u7) else if p1 = (-62) then if r8 ≤ r6 then some (0, u7) else some (1, u7) else if p1 = (-61) then if r8 = r6 then some (1, u7) else some (0, u7) else if p1 = (-60) then if r6 ≤ r8 then some (0, u7) else some (1, u7) else if p1 = (-47) then if r6 = 0 then some (0, u7) else k_nz (r6) (some (r8 / r6, u7)) else if p1 = (-45) then some (r8 - r6, u7) else if p1 = (-43) then some (r8 + r6, u7) else if p1 = (-42) then some (r8 * r6, u7) else if p1 = (-38) then if r8 = 0 then some (0, u7) else if r6 = 0 then some (0, u7) else some (1, u7) else if p1 = (-37) then k_bind (f_W_left r8 r6 u7) (fun r10 u9 => some (r10, u9)) else some (0, u7)))
def f_Law_push  (p1 : Int32) (u : k_S) : Option (Unit × k_S) :=
  if (u.1 704) < 0 then some ((), u) else if (u.1 704) < 128 then k_ck (u.1 704) 128 (k_let (k_wA u 9 (u.1 704).toNatClampNeg (p1)) (fun u1 => k_let (k_wF u1 704 ((u1.1 704) + 1)) (fun u2 => some ((), u2)))) else some ((), u)
def f_J_max  (p0 : Int32) (p1 : Int32) (u : k_S) : Option (Int32 × k_S) :=
  if p0 < p1 then some (p1, u) else some (p0, u)
def f_Law_valueAt_B8  (v1 : Int32) (v2 : Int32) (v3 : Int32) (v4 : Int32) (u : k_S) : Option (((Int32) ⊕ (Int32 ⊕ Unit)) × k_S) :=
  if (u.1 703) ≤ v4 then some (.inr (.inl 0), u) else if 128 ≤ v4 then some (.inr (.inl 0), u) else k_ck (v4) 128 (k_let (u.2.1 8 (v4).toNatClampNeg) (fun t2 => if t2 = (-59) then some (.inr (.inr ()), u) else if t2 < 10000 then if t2 < 0 then k_bind (f_Law_resultOf t2 v1 v2 v3 u) (fun r4 u3 => k_bind (f_Law_push r4 u3) (fun _ u5 => some (.inl (v4 + Int32.ofInt 1), u5))) else k_bind (f_Law_push t2 u) (fun _ u6 => some (.inl (v4 + Int32.ofInt 1), u6)) else k_bind (f_Law_pop  u) (fun r8 u7 => if r8 = 0 then k_bind (f_J_max v4 ((t2 - 10000) - 1) u7) (fun r10 u9 => some (.inl (r10 + Int32.ofInt 1), u9)) else some (.inl (v4 + Int32.ofInt 1), u7))))
def f_Law_valueAt  (p1 : Int32) (p2 : Int32) (p3 : Int32) (u : k_S) : Option (Int32 × k_S) :=
  k_let (k_wF u 704 (0)) (fun u1 => k_bind (k_itr (fun (x : (Int32)) u => f_Law_valueAt_B8  p1 p2 p3 x u) k_FU 0 u1) (fun y12 u11 => k_cs y12 (fun r15 => some (r15, u11)) (fun y12 => k_bind (f_Law_pop  u11) (fun r14 u13 => some (r14, u13)))))
def f_Nights_pushed_Now_J209  (v4 : Int32) (v8 : Int32) (s1 : Int32) (s2 : Int32) (u : k_S) : Option (Int32 × k_S) :=
  k_bind (f_Now_stand s1 s2 v4 u) (fun _ u9 => k_zb v8 (some (v8, u9)))
def f_Nights_pushed_Now_J184  (v2 : Int32) (v3 : Int32) (v4 : Int32) (v6 : Int32) (v7 : Int32) (s0 : Int32) (u : k_S) : Option (Int32 × k_S) :=
  if s0 = 0 then f_Nights_pushed_Now_J209  v4 s0 v2 (v3 + v6) u else k_bind (f_W_left (v3 + v6) v7 u) (fun r11 u10 => f_Nights_pushed_Now_J209  v4 s0 v2 r11 u10)
def f_Nights_pushed_Now_J160  (v2 : Int32) (v3 : Int32) (v4 : Int32) (v6 : Int32) (u : k_S) : Option (Int32 × k_S) :=
  k_bind (f_Wheels_sizeOf v2 u) (fun r8 u7 => if (v3 + v6) < r8 then f_Nights_pushed_Now_J184  v2 v3 v4 v6 r8 0 u7 else f_Nights_pushed_Now_J184  v2 v3 v4 v6 r8 1 u7)
def f_Nights_pushed_Now_J158  (v2 : Int32) (v3 : Int32) (v6 : Int32) (s0 : Int32) (u : k_S) : Option (Int32 × k_S) :=
  f_Nights_pushed_Now_J160  v2 v3 s0 v6 u
def f_Nights_pushed_Now_J143  (v2 : Int32) (v3 : Int32) (v4 : Int32) (s0 : Int32) (u : k_S) : Option (Int32 × k_S) :=
  if s0 = 0 then f_Nights_pushed_Now_J158  v2 v3 s0 (v4 + 1) u else f_Nights_pushed_Now_J158  v2 v3 s0 0 u
def f_Nights_pushed_Now_J68  (v2 : Int32) (v3 : Int32) (v4 : Int32) (s0 : Int32) (u : k_S) : Option (Int32 × k_S) :=
  f_Nights_pushed_Now_J160  v2 v3 v4 s0 u
def f_Nights_pushed_Now  (p2 : Int32) (u : k_S) : Option (Int32 × k_S) :=
  k_bind (f_Now_placeOf p2 u) (fun r2 u1 => k_bind (f_Now_waitsOf p2 u1) (fun r4 u3 => k_bind (f_Wheels_letterAt p2 r2 u3) (fun r6 u5 => if r6 = 115 then f_Nights_pushed_Now_J160  p2 r2 r4 2 u5 else if r6 = 102 then k_bind (f_Law_valueAt (u5.1 1402) r2 p2 u5) (fun r16 u15 => if r16 = 0 then f_Nights_pushed_Now_J68  p2 r2 r4 1 u15 else f_Nights_pushed_Now_J68  p2 r2 r4 0 u15) else if r6 = 98 then k_bind (f_Wheels_breakOf p2 u5) (fun r13 u12 => if (u5.1 1402) < r13 then f_Nights_pushed_Now_J160  p2 r2 r4 1 u12 else if p2 = 0 then if (u12.1 1206) = (-1) then k_let (k_wF u12 1206 (u12.1 1402)) (fun u14 => f_Nights_pushed_Now_J160  p2 r2 r4 2 u14) else f_Nights_pushed_Now_J160  p2 r2 r4 2 u12 else f_Nights_pushed_Now_J160  p2 r2 r4 2 u12) else if r6 = 119 then f_Nights_pushed_Now_J160  p2 r2 r4 1 u5 else if (r6 - 48) ≤ r4 then f_Nights_pushed_Now_J143  p2 r2 r4 1 u5 else f_Nights_pushed_Now_J143  p2 r2 r4 0 u5)))
def f_Nights_pass_Now_B25  (v2 : Int32) (v3 : Int32) (v4 : Int32) (v5 : Int32) (v6 : Int32) (u : k_S) : Option (((Int32 × Int32) ⊕ Unit) × k_S) :=
  if v5 = 0 then some (.inr (), u) else if v3 ≤ v6 then some (.inr (), u) else if (u.1 303) ≤ v6 then some (.inr (), u) else k_bind (f_Nights_pushed_Now v6 u) (fun r3 u2 => some (.inl (r3, v6 + Int32.ofInt 1), u2))
def f_Nights_pass_Now_B3  (v2 : Int32) (v3 : Int32) (v4 : Int32) (u : k_S) : Option (((Int32) ⊕ Unit) × k_S) :=
  if v2 ≤ v4 then some (.inr (), u) else k_let (k_wF u 1402 ((u.1 1402) + 1)) (fun u1 => k_bind (k_itr (fun (x : (Int32 × Int32)) u => f_Nights_pass_Now_B25  v2 v3 v4 x.1 x.2 u) k_FU (1, 0) u1) (fun y5 u4 => some (.inl (v4 + Int32.ofInt 1), u4)))
def f_Nights_pass_Now  (p2 : Int32) (p3 : Int32) (u : k_S) : Option (Unit × k_S) :=
  k_bind (k_itr (fun (x : (Int32)) u => f_Nights_pass_Now_B3  p2 p3 x u) k_FU 0 u) (fun y7 u6 => some ((), u6))
def f_W_on  (p1 : Int32) (u : k_S) : Option (Int32 × k_S) :=
  if p1 < 1 then some ((-1), u) else if p1 ≤ 2000 then if (u.1 1402) ≤ (1000000 - p1) then k_bind (f_Nights_pass_Now p1 (u.1 303) u) (fun _ u1 => some (u1.1 1402, u1)) else some ((-3), u) else some ((-1), u)
def f_R_twoOf  (p0 : Int32) (p1 : Int32) (p2 : Int32) (u : k_S) : Option (Int32 × k_S) :=
  if p0 = 37 then if p2 = 0 then some (0, u) else if p2 = (-1) then some (0, u) else k_nz (p2) (some (p1 % p2, u)) else if p0 = 38 then if p1 = 0 then some (0, u) else if p2 = 0 then some (0, u) else some (1, u) else if p0 = 39 then if p1 = 0 then if p2 = 0 then some (0, u) else some (1, u) else some (1, u) else if p0 = 40 then if p1 = 0 then if p2 = 0 then some (0, u) else some (1, u) else some (1, u) else if p0 = 41 then if p1 = 0 then if p2 = 0 then some (0, u) else some (1, u) else some (1, u) else if p0 = 42 then some (p1 * p2, u) else if p0 = 43 then some (p1 + p2, u) else if p0 = 44 then if p1 = 0 then if p2 = 0 then some (0, u) else some (1, u) else some (1, u) else if p0 = 45 then some (p1 - p2, u) else if p0 = 46 then if p1 = 0 then if p2 = 0 then some (0, u) else some (1, u) else some (1, u) else if p0 = 47 then if p2 = 0 then some (0, u) else if p2 = (-1) then some (-p1, u) else k_nz (p2) (some (p1 / p2, u)) else if p0 = 48 then if p1 = 0 then if p2 = 0 then some (0, u) else some (1, u) else some (1, u) else if p0 = 49 then if p1 = 0 then if p2 = 0 then some (0, u) else some (1, u) else some (1, u) else if p0 = 50 then if p1 = 0 then if p2 = 0 then some (0, u) else some (1, u) else some (1, u) else if p0 = 51 then if p1 = 0 then if p2 = 0 then some (0, u) else some (1, u) else some (1, u) else if p0 = 52 then if p1 = 0 then if p2 = 0 then some (0, u) else some (1, u) else some (1, u) else if p0 = 53 then if p1 = 0 then if p2 = 0 then some (0, u) else some (1, u) else some (1, u) else if p0 = 54 then if p1 = 0 then if p2 = 0 then some (0, u) else some (1, u) else some (1, u) else if p0 = 55 then if p1 = 0 then if p2 = 0 then some (0, u) else some (1, u) else some (1, u) else if p0 = 56 then if p1 = 0 then if p2 = 0 then some (0, u) else some (1, u) else some (1, u) else if p0 = 57 then if p1 = 0 then if p2 = 0 then some (0, u) else some (1, u) else some (1, u) else if p0 = 58 then if p1 = 0 then if p2 = 0 then some (0, u) else some (1, u) else some (1, u) else if p0 = 59 then if p1 = 0 then if p2 = 0 then some (0, u) else some (1, u) else some (1, u) else if p0 = 60 then if p2 ≤ p1 then some (0, u) else some (1, u) else if p0 = 61 then if p1 = p2 then some (1, u) else some (0, u) else if p0 = 62 then if p1 ≤ p2 then some (0, u) else some (1, u) else if p1 = 0 then if p2 = 0 then some (0, u) else some (1, u) else some (1, u)
def f_R_worked_J45  (v1 : Int32) (v3 : Int32) (v4 : Int32) (v5 : Int32) (v6 : Int32) (u : k_S) : Option (((Int32 × Int32) ⊕ Unit) × k_S) :=
  if v6 = 1 then k_ck (v5) 260 (k_ck (v4) 130 (k_let (k_wA u 55 (v4).toNatClampNeg (u.2.1 50 (v5).toNatClampNeg)) (fun u4 => some (.inl (v4 + Int32.ofInt 1, v5 + Int32.ofInt 1), u4)))) else k_ck (v5) 260 (k_ck (u.2.1 50 (v5).toNatClampNeg) 4 (k_ck (v4) 130 (k_let (k_wA u 55 (v4).toNatClampNeg (u.2.1 54 (u.2.1 50 (v5).toNatClampNeg).toNatClampNeg)) (fun u3 => some (.inl (v4 + Int32.ofInt 1, v5 + Int32.ofInt 1), u3)))))
def f_R_worked_B12  (v1 : Int32) (v3 : Int32) (v4 : Int32) (v5 : Int32) (u : k_S) : Option (((Int32 × Int32) ⊕ Unit) × k_S) :=
  if ((130 * v1) + v3) ≤ v5 then some (.inr (), u) else k_ck (v5) 260 (k_let (u.2.1 49 (v5).toNatClampNeg) (fun t2 => if t2 = 1 then f_R_worked_J45  v1 v3 v4 v5 t2 u else if t2 = 2 then f_R_worked_J45  v1 v3 v4 v5 t2 u else if t2 = 3 then k_ck (v4 - 1) 130 (if (u.2.1 55 (v4 - 1).toNatClampNeg) = 0 then k_ck (v4 - 1) 130 (k_let (k_wA u 55 (v4 - 1).toNatClampNeg (1)) (fun u10 => some (.inl (v4, v5 + Int32.ofInt 1), u10))) else k_ck (v4 - 1) 130 (k_let (k_wA u 55 (v4 - 1).toNatClampNeg (0)) (fun u9 => some (.inl (v4, v5 + Int32.ofInt 1), u9)))) else if t2 = 4 then k_ck (v4 - 1) 130 (k_ck (v4 - 1) 130 (k_let (k_wA u 55 (v4 - 1).toNatClampNeg (-(u.2.1 55 (v4 - 1).toNatClampNeg))) (fun u8 => some (.inl (v4, v5 + Int32.ofInt 1), u8)))) else k_ck ((v4 + Int32.ofInt (-1)) - 1) 130 (k_ck (v4 + Int32.ofInt (-1)) 130 (k_bind (f_R_twoOf t2 (u.2.1 55 ((v4 + Int32.ofInt (-1)) - 1).toNatClampNeg) (u.2.1 55 (v4 + Int32.ofInt (-1)).toNatClampNeg) u) (fun r6 u5 => k_ck ((v4 + Int32.ofInt (-1)) - 1) 130 (k_let (k_wA u5 55 ((v4 + Int32.ofInt (-1)) - 1).toNatClampNeg (r6)) (fun u7 => some (.inl (v4 + Int32.ofInt (-1), v5 + Int32.ofInt 1), u7))))))))
def f_R_worked  (p1 : Int32) (p2 : Int32) (p3 : Int32) (u : k_S) : Option (Int32 × k_S) :=
  k_let ((130 * p1) + p2) (fun t1 => k_bind (k_itr (fun (x : (Int32 × Int32)) u => f_R_worked_B12  p1 p3 x.1 x.2 u) k_FU (0, t1) u) (fun y12 u11 => k_ck (0) 130 (some (u11.2.1 55 (0 : Int32).toNatClampNeg, u11))))
def f_R_gives_B7  (v1 : Int32) (v2 : Int32) (v3 : Int32) (u : k_S) : Option (((Int32 × Int32) ⊕ (Int32 ⊕ (Int32))) × k_S) :=
  k_ck (v1) 2 (if ((61 * v1) + (u.2.1 51 (v1).toNatClampNeg)) ≤ v3 then some (.inr (.inl 0), u) else k_ck (v3) 122 (if (u.2.1 52 (v3).toNatClampNeg) = v2 then some (.inr (.inr v3), u) else k_ck (v3) 122 (k_bind (f_R_worked v1 v2 (u.2.1 52 (v3).toNatClampNeg) u) (fun r3 u2 => if r3 = 0 then k_ck (v3) 122 (k_let (u2.2.1 53 (v3).toNatClampNeg) (fun t4 => some (.inl (t4, v3 + Int32.ofInt 1), u2))) else some (.inr (.inr v3), u2)))))
def f_R_gives_J47  (v1 : Int32) (v3 : Int32) (u : k_S) : Option (Int32 × k_S) :=
  k_ck (v3) 122 (k_ck (v3) 122 (k_bind (f_R_worked v1 (u.2.1 52 (v3).toNatClampNeg) (u.2.1 53 (v3).toNatClampNeg) u) (fun r8 u7 => some (r8, u7))))
def f_R_gives  (p1 : Int32) (u : k_S) : Option (Int32 × k_S) :=
  k_let (61 * p1) (fun t1 => k_bind (k_itr (fun (x : (Int32 × Int32)) u => f_R_gives_B7  p1 x.1 x.2 u) k_FU (0, t1) u) (fun y6 u5 => k_cs y6 (fun r9 => some (r9, u5)) (fun y6 => f_R_gives_J47  p1 y6 u5)))
def f_R_isCold  (p1 : Int32) (u : k_S) : Option (Int32 × k_S) :=
  if (u.1 4223) = 0 then some (0, u) else k_ck (0) 4 (k_let (k_wA u 54 (0 : Int32).toNatClampNeg (u.1 4209)) (fun u1 => k_ck (p1) 4 (k_ck (1) 4 (k_let (k_wA u1 54 (1 : Int32).toNatClampNeg (u1.2.1 46 (p1).toNatClampNeg)) (fun u2 => k_ck (2) 4 (k_let (k_wA u2 54 (2 : Int32).toNatClampNeg (p1)) (fun u3 => k_ck (3) 4 (k_let (k_wA u3 54 (3 : Int32).toNatClampNeg ((((((u3.1 4209) * 1103515245) + (u3.1 4211)).toUInt32 >>> ((8 : Int32).toUInt32 &&& Int32.toUInt32 31)).toInt32) % 10)) (fun u4 => k_bind (f_R_gives 0 u4) (fun r6 u5 => if r6 = 0 then some (0, u5) else some (1, u5)))))))))))
def f_R_step  (p1 : Int32) (u : k_S) : Option (Int32 × k_S) :=
  k_ck (p1) 4 (k_ck ((40 * p1) + (u.2.1 46 (p1).toNatClampNeg)) 160 (k_let (u.2.1 44 ((40 * p1) + (u.2.1 46 (p1).toNatClampNeg)).toNatClampNeg) (fun t1 => if t1 = 98 then k_ck (p1) 4 (if (u.2.1 48 (p1).toNatClampNeg) ≤ (u.1 4209) then some (2, u) else some (1, u)) else if t1 = 102 then k_bind (f_R_isCold p1 u) (fun r3 u2 => if r3 = 0 then some (1, u2) else some (0, u2)) else if t1 = 115 then some (2, u) else if t1 = 119 then some (1, u) else k_ck (p1) 4 (if (t1 - 48) ≤ (u.2.1 47 (p1).toNatClampNeg) then k_ck (p1) 4 (k_let (k_wA u 47 (p1).toNatClampNeg (0)) (fun u4 => some (1, u4))) else k_ck (p1) 4 (k_ck (p1) 4 (k_let (k_wA u 47 (p1).toNatClampNeg ((u.2.1 47 (p1).toNatClampNeg) + 1)) (fun u5 => some (0, u5))))))))
def f_R_goOn_J70  (v1 : Int32) (v3 : Int32) (s1 : Int32) (s2 : Int32) (u : k_S) : Option (((Int32) ⊕ Unit) × k_S) :=
  k_ck (s1) 4 (k_let (k_wA u 46 (s1).toNatClampNeg (s2)) (fun u5 => if v3 = 0 then k_let (u5.1 4203) (fun t6 => some (.inl t6, u5)) else k_let (v1 + 1) (fun t7 => some (.inl t7, u5))))
def f_R_goOn_J48  (v1 : Int32) (v2 : Int32) (s0 : Int32) (u : k_S) : Option (((Int32) ⊕ Unit) × k_S) :=
  if s0 = 0 then f_R_goOn_J70  v1 s0 v1 v2 u else k_ck (v1) 4 (f_R_goOn_J70  v1 s0 v1 (v2 - (u.2.1 45 (v1).toNatClampNeg)) u)
def f_R_goOn_B12  (v1 : Int32) (u : k_S) : Option (((Int32) ⊕ Unit) × k_S) :=
  if (u.1 4203) ≤ v1 then some (.inr (), u) else k_ck (v1) 4 (k_bind (f_R_step v1 u) (fun r3 u2 => k_let ((u.2.1 46 (v1).toNatClampNeg) + r3) (fun t4 => k_ck (v1) 4 (if t4 < (u2.2.1 45 (v1).toNatClampNeg) then f_R_goOn_J48  v1 t4 0 u2 else f_R_goOn_J48  v1 t4 1 u2))))
def f_R_goOn   (u : k_S) : Option (Unit × k_S) :=
  k_let (k_wF u 4209 ((u.1 4209) + 1)) (fun u1 => k_bind (k_itr (fun (x : (Int32)) u => f_R_goOn_B12  x u) k_FU 0 u1) (fun y9 u8 => some ((), u8)))
def f_R_on_B29  (v1 : Int32) (v2 : Int32) (u : k_S) : Option (((Int32) ⊕ Unit) × k_S) :=
  if v1 ≤ v2 then some (.inr (), u) else k_bind (f_R_goOn  u) (fun _ u3 => some (.inl (v2 + Int32.ofInt 1), u3))
def f_R_on  (p1 : Int32) (u : k_S) : Option (Int32 × k_S) :=
  k_bind (f_R_in p1 1 2000 u) (fun r2 u1 => if r2 = 0 then some ((-1), u1) else if ((u1.1 4209) + p1) ≤ 1000000 then k_bind (k_itr (fun (x : (Int32)) u => f_R_on_B29  p1 x u) k_FU 0 u1) (fun y5 u4 => some (u4.1 4209, u4)) else some ((-3), u1))
def f_W_lay  (p1 : Int32) (p2 : Int32) (u : k_S) : Option (Int32 × k_S) :=
  k_bind (f_Wheels_hasPlace p1 p2 u) (fun r2 u1 => if r2 = 0 then some ((-1), u1) else k_bind (f_Now_placeOf p1 u1) (fun r4 u3 => k_bind (f_Now_stand p1 p2 0 u3) (fun _ u5 => some (r4, u5))))
def f_R_lay  (p1 : Int32) (p2 : Int32) (u : k_S) : Option (Int32 × k_S) :=
  k_bind (f_R_isWheel p1 u) (fun r2 u1 => if r2 = 0 then some ((-1), u1) else k_ck (p1) 4 (k_bind (f_R_in p2 0 ((u1.2.1 45 (p1).toNatClampNeg) - 1) u1) (fun r4 u3 => if r4 = 0 then some ((-1), u3) else k_ck (p1) 4 (k_let (u3.2.1 46 (p1).toNatClampNeg) (fun t5 => k_ck (p1) 4 (k_let (k_wA u3 46 (p1).toNatClampNeg (p2)) (fun u6 => k_ck (p1) 4 (k_let (k_wA u6 47 (p1).toNatClampNeg (0)) (fun u7 => some (t5, u7))))))))))
def f_Thought_stand  (p1 : Int32) (p2 : Int32) (p3 : Int32) (u : k_S) : Option (Unit × k_S) :=
  if p1 < 0 then some ((), u) else if 4 ≤ p1 then some ((), u) else if p1 < 4 then k_ck (p1) 4 (k_let (k_wA u 18 (p1).toNatClampNeg (p2)) (fun u1 => k_ck (p1) 4 (k_let (k_wA u1 19 (p1).toNatClampNeg (p3)) (fun u2 => some ((), u2))))) else some ((), u)
def f_Thought_become_Now_B10  (v2 : Int32) (v3 : Int32) (u : k_S) : Option (((Int32) ⊕ Unit) × k_S) :=
  if v2 ≤ v3 then some (.inr (), u) else if 4 ≤ v3 then some (.inr (), u) else k_bind (f_Now_placeOf v3 u) (fun r3 u2 => k_bind (f_Now_waitsOf v3 u2) (fun r5 u4 => k_bind (f_Thought_stand v3 r3 r5 u4) (fun _ u6 => some (.inl (v3 + Int32.ofInt 1), u6))))
def f_Thought_become_Now  (p2 : Int32) (u : k_S) : Option (Unit × k_S) :=
  k_let (k_wF u 1702 (u.1 1402)) (fun u1 => k_bind (k_itr (fun (x : (Int32)) u => f_Thought_become_Now_B10  p2 x u) k_FU 0 u1) (fun y8 u7 => some ((), u7)))
def f_Nights_think   (u : k_S) : Option (Unit × k_S) :=
  k_bind (f_Thought_become_Now (u.1 303) u) (fun _ u1 => some ((), u1))
def f_Thought_placeOf  (p1 : Int32) (u : k_S) : Option (Int32 × k_S) :=
  if p1 < 0 then some (0, u) else if 4 ≤ p1 then some (0, u) else k_ck (p1) 4 (some (u.2.1 18 (p1).toNatClampNeg, u))
def f_Thought_waitsOf  (p1 : Int32) (u : k_S) : Option (Int32 × k_S) :=
  if p1 < 0 then some (0, u) else if 4 ≤ p1 then some (0, u) else k_ck (p1) 4 (some (u.2.1 19 (p1).toNatClampNeg, u))
def f_Nights_pushed_Thought_J209  (v4 : Int32) (v8 : Int32) (s1 : Int32) (s2 : Int32) (u : k_S) : Option (Int32 × k_S) :=
  k_bind (f_Thought_stand s1 s2 v4 u) (fun _ u9 => k_zb v8 (some (v8, u9)))
def f_Nights_pushed_Thought_J184  (v2 : Int32) (v3 : Int32) (v4 : Int32) (v6 : Int32) (v7 : Int32) (s0 : Int32) (u : k_S) : Option (Int32 × k_S) :=
  if s0 = 0 then f_Nights_pushed_Thought_J209  v4 s0 v2 (v3 + v6) u else k_bind (f_W_left (v3 + v6) v7 u) (fun r11 u10 => f_Nights_pushed_Thought_J209  v4 s0 v2 r11 u10)
def f_Nights_pushed_Thought_J160  (v2 : Int32) (v3 : Int32) (v4 : Int32) (v6 : Int32) (u : k_S) : Option (Int32 × k_S) :=
  k_bind (f_Wheels_sizeOf v2 u) (fun r8 u7 => if (v3 + v6) < r8 then f_Nights_pushed_Thought_J184  v2 v3 v4 v6 r8 0 u7 else f_Nights_pushed_Thought_J184  v2 v3 v4 v6 r8 1 u7)
def f_Nights_pushed_Thought_J158  (v2 : Int32) (v3 : Int32) (v6 : Int32) (s0 : Int32) (u : k_S) : Option (Int32 × k_S) :=
  f_Nights_pushed_Thought_J160  v2 v3 s0 v6 u
def f_Nights_pushed_Thought_J143  (v2 : Int32) (v3 : Int32) (v4 : Int32) (s0 : Int32) (u : k_S) : Option (Int32 × k_S) :=
  if s0 = 0 then f_Nights_pushed_Thought_J158  v2 v3 s0 (v4 + 1) u else f_Nights_pushed_Thought_J158  v2 v3 s0 0 u
def f_Nights_pushed_Thought_J68  (v2 : Int32) (v3 : Int32) (v4 : Int32) (s0 : Int32) (u : k_S) : Option (Int32 × k_S) :=
  f_Nights_pushed_Thought_J160  v2 v3 v4 s0 u
def f_Nights_pushed_Thought  (p2 : Int32) (u : k_S) : Option (Int32 × k_S) :=
  k_bind (f_Thought_placeOf p2 u) (fun r2 u1 => k_bind (f_Thought_waitsOf p2 u1) (fun r4 u3 => k_bind (f_Wheels_letterAt p2 r2 u3) (fun r6 u5 => if r6 = 115 then f_Nights_pushed_Thought_J160  p2 r2 r4 2 u5 else if r6 = 102 then k_bind (f_Law_valueAt (u5.1 1702) r2 p2 u5) (fun r16 u15 => if r16 = 0 then f_Nights_pushed_Thought_J68  p2 r2 r4 1 u15 else f_Nights_pushed_Thought_J68  p2 r2 r4 0 u15) else if r6 = 98 then k_bind (f_Wheels_breakOf p2 u5) (fun r13 u12 => if (u5.1 1702) < r13 then f_Nights_pushed_Thought_J160  p2 r2 r4 1 u12 else if p2 = 0 then if (u12.1 1206) = (-1) then k_let (k_wF u12 1206 (u12.1 1702)) (fun u14 => f_Nights_pushed_Thought_J160  p2 r2 r4 2 u14) else f_Nights_pushed_Thought_J160  p2 r2 r4 2 u12 else f_Nights_pushed_Thought_J160  p2 r2 r4 2 u12) else if r6 = 119 then f_Nights_pushed_Thought_J160  p2 r2 r4 1 u5 else if (r6 - 48) ≤ r4 then f_Nights_pushed_Thought_J143  p2 r2 r4 1 u5 else f_Nights_pushed_Thought_J143  p2 r2 r4 0 u5)))
def f_Nights_pass_Thought_B25  (v2 : Int32) (v3 : Int32) (v4 : Int32) (v5 : Int32) (v6 : Int32) (u : k_S) : Option (((Int32 × Int32) ⊕ Unit) × k_S) :=
  if v5 = 0 then some (.inr (), u) else if v3 ≤ v6 then some (.inr (), u) else if (u.1 303) ≤ v6 then some (.inr (), u) else k_bind (f_Nights_pushed_Thought v6 u) (fun r3 u2 => some (.inl (r3, v6 + Int32.ofInt 1), u2))
def f_Nights_pass_Thought_B3  (v2 : Int32) (v3 : Int32) (v4 : Int32) (u : k_S) : Option (((Int32) ⊕ Unit) × k_S) :=
  if v2 ≤ v4 then some (.inr (), u) else k_let (k_wF u 1702 ((u.1 1702) + 1)) (fun u1 => k_bind (k_itr (fun (x : (Int32 × Int32)) u => f_Nights_pass_Thought_B25  v2 v3 v4 x.1 x.2 u) k_FU (1, 0) u1) (fun y5 u4 => some (.inl (v4 + Int32.ofInt 1), u4)))
def f_Nights_pass_Thought  (p2 : Int32) (p3 : Int32) (u : k_S) : Option (Unit × k_S) :=
  k_bind (k_itr (fun (x : (Int32)) u => f_Nights_pass_Thought_B3  p2 p3 x u) k_FU 0 u) (fun y7 u6 => some ((), u6))
def f_W_shows  (p1 : Int32) (p2 : Int32) (u : k_S) : Option (Int32 × k_S) :=
  k_bind (f_Wheels_has p1 u) (fun r2 u1 => if r2 = 0 then some ((-1), u1) else if p2 < 0 then some ((-1), u1) else if p2 ≤ 20000 then k_bind (f_Nights_think  u1) (fun _ u3 => k_bind (f_Nights_pass_Thought p2 (p1 + 1) u3) (fun _ u4 => k_bind (f_Thought_placeOf p1 u4) (fun r6 u5 => some (r6, u5)))) else some ((-1), u1))
def f_R_keepNow_B10  (v1 : Int32) (u : k_S) : Option (((Int32) ⊕ Unit) × k_S) :=
  if 4 ≤ v1 then some (.inr (), u) else k_ck (v1) 4 (k_ck (v1) 4 (k_let (k_wA u 60 (v1).toNatClampNeg (u.2.1 46 (v1).toNatClampNeg)) (fun u2 => k_ck (v1) 4 (k_ck (v1) 4 (k_let (k_wA u2 61 (v1).toNatClampNeg (u2.2.1 47 (v1).toNatClampNeg)) (fun u3 => some (.inl (v1 + Int32.ofInt 1), u3)))))))
def f_R_keepNow   (u : k_S) : Option (Unit × k_S) :=
  k_let (k_wF u 4230 (u.1 4209)) (fun u1 => k_bind (k_itr (fun (x : (Int32)) u => f_R_keepNow_B10  x u) k_FU 0 u1) (fun y5 u4 => some ((), u4)))
def f_R_layBack_B10  (v1 : Int32) (u : k_S) : Option (((Int32) ⊕ Unit) × k_S) :=
  if 4 ≤ v1 then some (.inr (), u) else k_ck (v1) 4 (k_ck (v1) 4 (k_let (k_wA u 46 (v1).toNatClampNeg (u.2.1 60 (v1).toNatClampNeg)) (fun u2 => k_ck (v1) 4 (k_ck (v1) 4 (k_let (k_wA u2 47 (v1).toNatClampNeg (u2.2.1 61 (v1).toNatClampNeg)) (fun u3 => some (.inl (v1 + Int32.ofInt 1), u3)))))))
def f_R_layBack   (u : k_S) : Option (Unit × k_S) :=
  k_let (k_wF u 4209 (u.1 4230)) (fun u1 => k_bind (k_itr (fun (x : (Int32)) u => f_R_layBack_B10  x u) k_FU 0 u1) (fun y5 u4 => some ((), u4)))
def f_R_shows_B27  (v1 : Int32) (v2 : Int32) (v3 : Int32) (u : k_S) : Option (((Int32) ⊕ Unit) × k_S) :=
  if v2 ≤ v3 then some (.inr (), u) else k_bind (f_R_goOn  u) (fun _ u6 => some (.inl (v3 + Int32.ofInt 1), u6))
def f_R_shows  (p1 : Int32) (p2 : Int32) (u : k_S) : Option (Int32 × k_S) :=
  k_bind (f_R_isWheel p1 u) (fun r2 u1 => if r2 = 0 then some ((-1), u1) else k_bind (f_R_in p2 0 20000 u1) (fun r4 u3 => if r4 = 0 then some ((-1), u3) else k_bind (f_R_keepNow  u3) (fun _ u5 => k_bind (k_itr (fun (x : (Int32)) u => f_R_shows_B27  p1 p2 x u) k_FU 0 u5) (fun y8 u7 => k_ck (p1) 4 (k_let (u7.2.1 46 (p1).toNatClampNeg) (fun t9 => k_bind (f_R_layBack  u7) (fun _ u10 => some (t9, u10))))))))
def f_Nights_dayOf  (p1 : Int32) (u : k_S) : Option (Int32 × k_S) :=
  k_bind (f_W_left p1 (u.1 1205) u) (fun r2 u1 => some (r2, u1))
def f_W_day   (u : k_S) : Option (Int32 × k_S) :=
  if (u.1 303) = 0 then some ((-5), u) else k_bind (f_Now_placeOf 0 u) (fun r2 u1 => k_bind (f_Nights_dayOf r2 u1) (fun r4 u3 => some (r4, u3)))
def f_R_day   (u : k_S) : Option (Int32 × k_S) :=
  if (u.1 4203) = 0 then some ((-5), u) else k_ck (0) 4 (k_nz (u.1 4210) (some ((u.2.1 46 (0 : Int32).toNatClampNeg) % (u.1 4210), u)))
def f_Nights_timesOfDay_B9  (v1 : Int32) (v2 : Int32) (v3 : Int32) (v4 : Int32) (u : k_S) : Option (((Int32 × Int32) ⊕ (Int32)) × k_S) :=
  if v2 ≤ v4 then some (.inr v3, u) else k_bind (f_Nights_pass_Thought 1 1 u) (fun _ u2 => k_bind (f_Thought_placeOf 0 u2) (fun r4 u3 => k_bind (f_Nights_dayOf r4 u3) (fun r6 u5 => if r6 = v1 then some (.inl (v3 + Int32.ofInt 1, v4 + Int32.ofInt 1), u5) else some (.inl (v3, v4 + Int32.ofInt 1), u5))))
def f_Nights_timesOfDay  (p1 : Int32) (p2 : Int32) (u : k_S) : Option (Int32 × k_S) :=
  k_bind (f_Nights_think  u) (fun _ u1 => k_bind (k_itr (fun (x : (Int32 × Int32)) u => f_Nights_timesOfDay_B9  p1 p2 x.1 x.2 u) k_FU (0, 0) u1) (fun y8 u7 => some (y8, u7)))
def f_W_often  (p1 : Int32) (p2 : Int32) (u : k_S) : Option (Int32 × k_S) :=
  if p2 < 1 then some ((-1), u) else if 2000 < p2 then some ((-1), u) else if p1 < 0 then some ((-1), u) else if p1 < (u.1 1205) then if (u.1 303) = 0 then some ((-5), u) else k_bind (f_Nights_timesOfDay p1 p2 u) (fun r2 u1 => some (r2, u1)) else some ((-1), u)
def f_R_often_B46  (v1 : Int32) (v2 : Int32) (v3 : Int32) (v4 : Int32) (u : k_S) : Option (((Int32 × Int32) ⊕ (Int32)) × k_S) :=
  if v2 ≤ v4 then some (.inr v3, u) else k_bind (f_R_goOn  u) (fun _ u6 => k_ck (0) 4 (k_nz (u6.1 4210) (if ((u6.2.1 46 (0 : Int32).toNatClampNeg) % (u6.1 4210)) = v1 then some (.inl (v3 + Int32.ofInt 1, v4 + Int32.ofInt 1), u6) else some (.inl (v3, v4 + Int32.ofInt 1), u6))))
def f_R_often  (p1 : Int32) (p2 : Int32) (u : k_S) : Option (Int32 × k_S) :=
  k_bind (f_R_in p1 0 ((u.1 4210) - 1) u) (fun r2 u1 => if r2 = 0 then some ((-1), u1) else k_bind (f_R_in p2 1 2000 u1) (fun r4 u3 => if r4 = 0 then some ((-1), u3) else if (u3.1 4203) = 0 then some ((-5), u3) else k_bind (f_R_keepNow  u3) (fun _ u5 => k_bind (k_itr (fun (x : (Int32 × Int32)) u => f_R_often_B46  p1 p2 x.1 x.2 u) k_FU (0, 0) u5) (fun y8 u7 => k_bind (f_R_layBack  u7) (fun _ u9 => some (y8, u9))))))
def f_Nights_markShown   (u : k_S) : Option (Unit × k_S) :=
  k_bind (f_Thought_placeOf 0 u) (fun r2 u1 => if r2 < 0 then some ((), u1) else if 40 ≤ r2 then some ((), u1) else k_ck (r2) 40 (k_let (k_wA u1 13 (r2).toNatClampNeg (1)) (fun u3 => some ((), u3))))
def f_Nights_unshown_B2  (v1 : Int32) (v2 : Int32) (v3 : Int32) (u : k_S) : Option (((Int32) ⊕ Unit) × k_S) :=
  if 40 ≤ v3 then some (.inr (), u) else k_ck (v3) 40 (k_let (k_wA u 13 (v3).toNatClampNeg (0)) (fun u1 => some (.inl (v3 + Int32.ofInt 1), u1)))
def f_Nights_unshown_B34  (v1 : Int32) (v2 : Int32) (v3 : Int32) (u : k_S) : Option (((Int32) ⊕ Unit) × k_S) :=
  if v1 ≤ v3 then some (.inr (), u) else k_bind (f_Nights_pass_Thought 1 1 u) (fun _ u6 => k_bind (f_Nights_markShown  u6) (fun _ u7 => some (.inl (v3 + Int32.ofInt 1), u7)))
def f_Nights_unshown_B64  (v2 : Int32) (v3 : Int32) (v4 : Int32) (u : k_S) : Option (((Int32 × Int32) ⊕ (Int32 ⊕ (Int32))) × k_S) :=
  k_bind (f_Wheels_sizeOf 0 u) (fun r11 u10 => if r11 ≤ v4 then some (.inr (.inr v3), u10) else if 40 ≤ v4 then some (.inr (.inr v3), u10) else k_ck (v4) 40 (if (u10.2.1 13 (v4).toNatClampNeg) = 0 then if v2 = 0 then some (.inr (.inl v4), u10) else some (.inl (v3 + Int32.ofInt 1, v4 + Int32.ofInt 1), u10) else some (.inl (v3, v4 + Int32.ofInt 1), u10)))
def f_Nights_unshown_J113  (v2 : Int32) (v3 : Int32) (u : k_S) : Option (Int32 × k_S) :=
  if v2 = 0 then some ((-2), u) else some (v3, u)
def f_Nights_unshown  (p1 : Int32) (p2 : Int32) (u : k_S) : Option (Int32 × k_S) :=
  k_bind (k_itr (fun (x : (Int32)) u => f_Nights_unshown_B2  p1 p2 x u) k_FU 0 u) (fun y3 u2 => k_bind (f_Nights_think  u2) (fun _ u4 => k_bind (f_Nights_markShown  u4) (fun _ u5 => k_bind (k_itr (fun (x : (Int32)) u => f_Nights_unshown_B34  p1 p2 x u) k_FU 0 u5) (fun y9 u8 => k_bind (k_itr (fun (x : (Int32 × Int32)) u => f_Nights_unshown_B64  p2 x.1 x.2 u) k_FU (0, 0) u8) (fun y13 u12 => k_cs y13 (fun r14 => some (r14, u12)) (fun y13 => f_Nights_unshown_J113  p2 y13 u12))))))
def f_W_never_J50  (s1 : Int32) (s2 : Int32) (u : k_S) : Option (Int32 × k_S) :=
  k_bind (f_Nights_unshown s1 s2 u) (fun r2 u1 => some (r2, u1))
def f_W_never  (p1 : Int32) (p2 : Int32) (u : k_S) : Option (Int32 × k_S) :=
  if p1 < 1 then some ((-1), u) else if 2000 < p1 then some ((-1), u) else if p2 < 0 then some ((-1), u) else if p2 ≤ 1 then if (u.1 303) = 0 then some ((-5), u) else if p2 = 0 then f_W_never_J50  p1 1 u else f_W_never_J50  p1 0 u else some ((-1), u)
def f_R_never_B34  (v1 : Int32) (v2 : Int32) (v3 : Int32) (u : k_S) : Option (((Int32) ⊕ Unit) × k_S) :=
  if 40 ≤ v3 then some (.inr (), u) else k_ck (v3) 40 (k_let (k_wA u 62 (v3).toNatClampNeg (0 &&& 1)) (fun u5 => some (.inl (v3 + Int32.ofInt 1), u5)))
def f_R_never_B71  (v1 : Int32) (v2 : Int32) (v3 : Int32) (u : k_S) : Option (((Int32) ⊕ Unit) × k_S) :=
  if v1 ≤ v3 then some (.inr (), u) else k_bind (f_R_goOn  u) (fun _ u10 => k_ck (0) 4 (k_ck (u10.2.1 46 (0 : Int32).toNatClampNeg) 40 (k_let (k_wA u10 62 (u10.2.1 46 (0 : Int32).toNatClampNeg).toNatClampNeg (1 &&& 1)) (fun u11 => some (.inl (v3 + Int32.ofInt 1), u11)))))
def f_R_never_B118  (v2 : Int32) (v3 : Int32) (v4 : Int32) (v5 : Int32) (u : k_S) : Option (((Int32 × Int32 × Int32) ⊕ (Int32 × Int32)) × k_S) :=
  if v5 < 0 then some (.inr (v3, v4), u) else k_ck (v5) 40 (if (u.2.1 62 (v5).toNatClampNeg) = 0 then some (.inl (v3 + Int32.ofInt 1, v5, v5 + Int32.ofInt (-1)), u) else some (.inl (v3, v4, v5 + Int32.ofInt (-1)), u))
def f_R_never  (p1 : Int32) (p2 : Int32) (u : k_S) : Option (Int32 × k_S) :=
  k_bind (f_R_in p1 1 2000 u) (fun r2 u1 => if r2 = 0 then some ((-1), u1) else k_bind (f_R_in p2 0 1 u1) (fun r4 u3 => if r4 = 0 then some ((-1), u3) else if (u3.1 4203) = 0 then some ((-5), u3) else k_bind (k_itr (fun (x : (Int32)) u => f_R_never_B34  p1 p2 x u) k_FU 0 u3) (fun y7 u6 => k_bind (f_R_keepNow  u6) (fun _ u8 => k_ck (0) 4 (k_ck (u8.2.1 46 (0 : Int32).toNatClampNeg) 40 (k_let (k_wA u8 62 (u8.2.1 46 (0 : Int32).toNatClampNeg).toNatClampNeg (1 &&& 1)) (fun u9 => k_bind (k_itr (fun (x : (Int32)) u => f_R_never_B71  p1 p2 x u) k_FU 0 u9) (fun y13 u12 => k_bind (f_R_layBack  u12) (fun _ u14 => k_ck (0) 4 (k_let ((u14.2.1 45 (0 : Int32).toNatClampNeg) - 1) (fun t15 => k_bind (k_itr (fun (x : (Int32 × Int32 × Int32)) u => f_R_never_B118  p2 x.1 x.2.1 x.2.2 u) k_FU (0, (-2), t15) u14) (fun y17 u16 => if p2 = 0 then some (y17.1, u16) else some (y17.2, u16)))))))))))))
def f_W_isSpot  (p1 : Int32) (u : k_S) : Option (Int32 × k_S) :=
  if p1 < 0 then some (0, u) else k_bind (f_Wheels_hasPlace (p1 / 100) (p1 % 100) u) (fun r2 u1 => if r2 = 0 then some (0, u1) else some (1, u1))
def f_Nights_timesAt_B10  (v1 : Int32) (v2 : Int32) (v3 : Int32) (v4 : Int32) (v5 : Int32) (v6 : Int32) (u : k_S) : Option (((Int32 × Int32) ⊕ (Int32 ⊕ (Int32))) × k_S) :=
  if v3 < v6 then some (.inr (.inr v5), u) else k_bind (f_Nights_pass_Thought 1 (v1 + 1) u) (fun _ u2 => k_bind (f_Thought_placeOf v1 u2) (fun r4 u3 => if r4 = v2 then if v4 = 0 then some (.inl (v5 + Int32.ofInt 1, v6 + Int32.ofInt 1), u3) else some (.inr (.inl v6), u3) else some (.inl (v5, v6 + Int32.ofInt 1), u3)))
def f_Nights_timesAt  (p1 : Int32) (p2 : Int32) (p3 : Int32) (p4 : Int32) (u : k_S) : Option (Int32 × k_S) :=
  k_bind (f_Nights_think  u) (fun _ u1 => k_bind (k_itr (fun (x : (Int32 × Int32)) u => f_Nights_timesAt_B10  p1 p2 p3 p4 x.1 x.2 u) k_FU (0, 1) u1) (fun y6 u5 => k_cs y6 (fun r7 => some (r7, u5)) (fun y6 => if p4 = 0 then some (y6, u5) else some ((-2), u5))))
def f_W_meets_J54  (s1 : Int32) (s2 : Int32) (s3 : Int32) (s4 : Int32) (u : k_S) : Option (Int32 × k_S) :=
  k_bind (f_Nights_timesAt s1 s2 s3 s4 u) (fun r4 u3 => some (r4, u3))
def f_W_meets  (p1 : Int32) (p2 : Int32) (p3 : Int32) (u : k_S) : Option (Int32 × k_S) :=
  k_bind (f_W_isSpot p1 u) (fun r2 u1 => if r2 = 0 then some ((-1), u1) else if p2 < 1 then some ((-1), u1) else if 2000 < p2 then some ((-1), u1) else if p3 < 0 then some ((-1), u1) else if p3 ≤ 1 then if p3 = 1 then f_W_meets_J54  (p1 / 100) (p1 % 100) p2 1 u1 else f_W_meets_J54  (p1 / 100) (p1 % 100) p2 0 u1 else some ((-1), u1))
def f_R_isSpot  (p1 : Int32) (u : k_S) : Option (Int32 × k_S) :=
  if p1 < 0 then some (0, u) else k_bind (f_R_isWheel (p1 / 100) u) (fun r2 u1 => if r2 = 0 then some (0, u1) else k_ck (p1 / 100) 4 (if (u1.2.1 45 (p1 / 100).toNatClampNeg) ≤ (p1 % 100) then some (0, u1) else some (1, u1)))
def f_R_meets_B44  (v1 : Int32) (v2 : Int32) (v3 : Int32) (v4 : Int32) (v5 : Int32) (v6 : Int32) (u : k_S) : Option (((Int32 × Int32 × Int32) ⊕ (Int32 × Int32)) × k_S) :=
  if v2 < v6 then some (.inr (v4, v5), u) else k_bind (f_R_goOn  u) (fun _ u8 => k_ck (v1 / 100) 4 (if (u8.2.1 46 (v1 / 100).toNatClampNeg) = (v1 % 100) then if 0 ≤ v5 then some (.inl (v4 + Int32.ofInt 1, v5, v6 + Int32.ofInt 1), u8) else some (.inl (v4 + Int32.ofInt 1, v6, v6 + Int32.ofInt 1), u8) else some (.inl (v4, v5, v6 + Int32.ofInt 1), u8)))
def f_R_meets  (p1 : Int32) (p2 : Int32) (p3 : Int32) (u : k_S) : Option (Int32 × k_S) :=
  k_bind (f_R_isSpot p1 u) (fun r2 u1 => if r2 = 0 then some ((-1), u1) else k_bind (f_R_in p2 1 2000 u1) (fun r4 u3 => if r4 = 0 then some ((-1), u3) else k_bind (f_R_in p3 0 1 u3) (fun r6 u5 => if r6 = 0 then some ((-1), u5) else k_bind (f_R_keepNow  u5) (fun _ u7 => k_bind (k_itr (fun (x : (Int32 × Int32 × Int32)) u => f_R_meets_B44  p1 p2 p3 x.1 x.2.1 x.2.2 u) k_FU (0, (-2), 1) u7) (fun y10 u9 => k_bind (f_R_layBack  u9) (fun _ u11 => if p3 = 0 then some (y10.1, u11) else some (y10.2, u11)))))))
def f_Nights_firstOfBoth_B22  (v1 : Int32) (v2 : Int32) (v3 : Int32) (v4 : Int32) (v5 : Int32) (u : k_S) : Option (((Int32) ⊕ (Int32 ⊕ Unit)) × k_S) :=
  if v3 < v5 then some (.inr (.inr ()), u) else k_bind (f_Nights_pass_Thought 1 v4 u) (fun _ u5 => k_bind (f_Thought_placeOf (v1 / 100) u5) (fun r7 u6 => if r7 = (v1 % 100) then k_bind (f_Thought_placeOf (v2 / 100) u6) (fun r9 u8 => if r9 = (v2 % 100) then some (.inr (.inl v5), u8) else some (.inl (v5 + Int32.ofInt 1), u8)) else some (.inl (v5 + Int32.ofInt 1), u6)))
def f_Nights_firstOfBoth  (p1 : Int32) (p2 : Int32) (p3 : Int32) (u : k_S) : Option (Int32 × k_S) :=
  k_bind (f_J_max (p1 / 100) (p2 / 100) u) (fun r2 u1 => k_let (r2 + 1) (fun t3 => k_bind (f_Nights_think  u1) (fun _ u4 => k_bind (k_itr (fun (x : (Int32)) u => f_Nights_firstOfBoth_B22  p1 p2 p3 t3 x u) k_FU 1 u4) (fun y11 u10 => k_cs y11 (fun r12 => some (r12, u10)) (fun y11 => some ((-2), u10))))))
def f_W_two  (p1 : Int32) (p2 : Int32) (p3 : Int32) (u : k_S) : Option (Int32 × k_S) :=
  k_bind (f_W_isSpot p1 u) (fun r2 u1 => if r2 = 0 then some ((-1), u1) else k_bind (f_W_isSpot p2 u1) (fun r4 u3 => if r4 = 0 then some ((-1), u3) else if p3 < 1 then some ((-1), u3) else if p3 ≤ 20000 then k_bind (f_Nights_firstOfBoth p1 p2 p3 u3) (fun r6 u5 => some (r6, u5)) else some ((-1), u3)))
def f_R_two_B40  (v1 : Int32) (v2 : Int32) (v3 : Int32) (v4 : Int32) (v5 : Int32) (u : k_S) : Option (((Int32 × Int32) ⊕ (Int32)) × k_S) :=
  if v3 < v5 then some (.inr v4, u) else if 0 ≤ v4 then some (.inr v4, u) else k_bind (f_R_goOn  u) (fun _ u8 => k_ck (v1 / 100) 4 (if (u8.2.1 46 (v1 / 100).toNatClampNeg) = (v1 % 100) then k_ck (v2 / 100) 4 (if (u8.2.1 46 (v2 / 100).toNatClampNeg) = (v2 % 100) then some (.inl (v5, v5 + Int32.ofInt 1), u8) else some (.inl (v4, v5 + Int32.ofInt 1), u8)) else some (.inl (v4, v5 + Int32.ofInt 1), u8)))
def f_R_two_J97  (v4 : Int32) (u : k_S) : Option (Int32 × k_S) :=
  k_bind (f_R_layBack  u) (fun _ u11 => some (v4, u11))
def f_R_two  (p1 : Int32) (p2 : Int32) (p3 : Int32) (u : k_S) : Option (Int32 × k_S) :=
  k_bind (f_R_isSpot p1 u) (fun r2 u1 => if r2 = 0 then some ((-1), u1) else k_bind (f_R_isSpot p2 u1) (fun r4 u3 => if r4 = 0 then some ((-1), u3) else k_bind (f_R_in p3 1 20000 u3) (fun r6 u5 => if r6 = 0 then some ((-1), u5) else k_bind (f_R_keepNow  u5) (fun _ u7 => k_bind (k_itr (fun (x : (Int32 × Int32)) u => f_R_two_B40  p1 p2 p3 x.1 x.2 u) k_FU ((-2), 1) u7) (fun y10 u9 => f_R_two_J97  y10 u9)))))
def f_Thought_standsAs_Now_B2  (v2 : Int32) (v3 : Int32) (u : k_S) : Option (((Int32) ⊕ (Int32 ⊕ Unit)) × k_S) :=
  if v2 ≤ v3 then some (.inr (.inr ()), u) else if 4 ≤ v3 then some (.inr (.inr ()), u) else k_bind (f_Thought_placeOf v3 u) (fun r2 u1 => k_bind (f_Now_placeOf v3 u1) (fun r4 u3 => if r2 = r4 then k_bind (f_Thought_waitsOf v3 u3) (fun r6 u5 => k_bind (f_Now_waitsOf v3 u5) (fun r8 u7 => if r6 = r8 then some (.inl (v3 + Int32.ofInt 1), u7) else some (.inr (.inl 0), u7))) else some (.inr (.inl 0), u3)))
def f_Thought_standsAs_Now  (p2 : Int32) (u : k_S) : Option (Int32 × k_S) :=
  k_bind (k_itr (fun (x : (Int32)) u => f_Thought_standsAs_Now_B2  p2 x u) k_FU 0 u) (fun y10 u9 => k_cs y10 (fun r11 => some (r11, u9)) (fun y10 => some (1, u9)))
def f_Nights_firstAsNow_B6  (v1 : Int32) (v2 : Int32) (u : k_S) : Option (((Int32) ⊕ (Int32 ⊕ Unit)) × k_S) :=
  if v1 < v2 then some (.inr (.inr ()), u) else k_bind (f_Nights_pass_Thought 1 (u.1 303) u) (fun _ u2 => k_bind (f_Thought_standsAs_Now (u2.1 303) u2) (fun r4 u3 => if r4 = 0 then some (.inl (v2 + Int32.ofInt 1), u3) else some (.inr (.inl v2), u3)))
def f_Nights_firstAsNow  (p1 : Int32) (u : k_S) : Option (Int32 × k_S) :=
  k_bind (f_Nights_think  u) (fun _ u1 => k_bind (k_itr (fun (x : (Int32)) u => f_Nights_firstAsNow_B6  p1 x u) k_FU 1 u1) (fun y6 u5 => k_cs y6 (fun r7 => some (r7, u5)) (fun y6 => some ((-2), u5))))
def f_W_round  (p1 : Int32) (u : k_S) : Option (Int32 × k_S) :=
  if p1 < 1 then some ((-1), u) else if p1 ≤ 20000 then k_bind (f_Nights_firstAsNow p1 u) (fun r2 u1 => some (r2, u1)) else some ((-1), u)
def f_R_isAsWas_B2  (v1 : Int32) (u : k_S) : Option (((Int32) ⊕ (Int32 ⊕ Unit)) × k_S) :=
  if (u.1 4203) ≤ v1 then some (.inr (.inr ()), u) else k_ck (v1) 4 (k_ck (v1) 4 (if (u.2.1 46 (v1).toNatClampNeg) = (u.2.1 60 (v1).toNatClampNeg) then k_ck (v1) 4 (k_ck (v1) 4 (if (u.2.1 47 (v1).toNatClampNeg) = (u.2.1 61 (v1).toNatClampNeg) then some (.inl (v1 + Int32.ofInt 1), u) else some (.inr (.inl 0), u))) else some (.inr (.inl 0), u)))
def f_R_isAsWas   (u : k_S) : Option (Int32 × k_S) :=
  k_bind (k_itr (fun (x : (Int32)) u => f_R_isAsWas_B2  x u) k_FU 0 u) (fun y2 u1 => k_cs y2 (fun r3 => some (r3, u1)) (fun y2 => some (1, u1)))
def f_R_round_B22  (v1 : Int32) (v2 : Int32) (v3 : Int32) (u : k_S) : Option (((Int32 × Int32) ⊕ (Int32)) × k_S) :=
  if v1 < v3 then some (.inr v2, u) else if 0 ≤ v2 then some (.inr v2, u) else k_bind (f_R_goOn  u) (fun _ u4 => k_bind (f_R_isAsWas  u4) (fun r6 u5 => if r6 = 0 then some (.inl (v2, v3 + Int32.ofInt 1), u5) else some (.inl (v3, v3 + Int32.ofInt 1), u5)))
def f_R_round_J50  (v2 : Int32) (u : k_S) : Option (Int32 × k_S) :=
  k_bind (f_R_layBack  u) (fun _ u9 => some (v2, u9))
def f_R_round  (p1 : Int32) (u : k_S) : Option (Int32 × k_S) :=
  k_bind (f_R_in p1 1 20000 u) (fun r2 u1 => if r2 = 0 then some ((-1), u1) else k_bind (f_R_keepNow  u1) (fun _ u3 => k_bind (k_itr (fun (x : (Int32 × Int32)) u => f_R_round_B22  p1 x.1 x.2 u) k_FU ((-2), 1) u3) (fun y8 u7 => f_R_round_J50  y8 u7)))
def f_Nights_nightsTo_J24  (v1 : Int32) (v2 : Int32) (v3 : Int32) (v4 : Int32) (u : k_S) : Option (((Int32) ⊕ (Int32 ⊕ Unit)) × k_S) :=
  if v4 < v2 then some (.inl (v4 + Int32.ofInt 1), u) else k_bind (f_Thought_placeOf 0 u) (fun r2 u1 => if r2 = v1 then some (.inr (.inl v4), u1) else some (.inl (v4 + Int32.ofInt 1), u1))
def f_Nights_nightsTo_B3  (v1 : Int32) (v2 : Int32) (v3 : Int32) (v4 : Int32) (u : k_S) : Option (((Int32) ⊕ (Int32 ⊕ Unit)) × k_S) :=
  if v3 < v4 then some (.inr (.inr ()), u) else if v4 ≤ 0 then f_Nights_nightsTo_J24  v1 v2 v3 v4 u else k_bind (f_Nights_pass_Thought 1 1 u) (fun _ u3 => f_Nights_nightsTo_J24  v1 v2 v3 v4 u3)
def f_Nights_nightsTo  (p1 : Int32) (p2 : Int32) (p3 : Int32) (u : k_S) : Option (Int32 × k_S) :=
  k_bind (k_itr (fun (x : (Int32)) u => f_Nights_nightsTo_B3  p1 p2 p3 x u) k_FU 0 u) (fun y5 u4 => k_cs y5 (fun r6 => some (r6, u4)) (fun y5 => some ((-2), u4)))
def f_W_truth  (p1 : Int32) (u : k_S) : Option (Int32 × k_S) :=
  if p1 < 0 then some ((-1), u) else if 40 ≤ (p1 / 100) then some ((-1), u) else if (p1 % 100) < 40 then if (u.1 303) = 0 then some ((-5), u) else k_bind (f_Nights_think  u) (fun _ u1 => k_bind (f_Nights_nightsTo (p1 / 100) 0 2000 u1) (fun r3 u2 => if r3 = (-2) then some ((-2), u2) else k_bind (f_Nights_nightsTo (p1 % 100) 1 2000 u2) (fun r5 u4 => some (r5, u4)))) else some ((-1), u)
def f_R_truth_B74  (v1 : Int32) (v2 : Int32) (u : k_S) : Option (((Int32) ⊕ (Int32)) × k_S) :=
  if 2000 < v2 then some (.inr v2, u) else k_ck (0) 4 (if (u.2.1 46 (0 : Int32).toNatClampNeg) = (v1 / 100) then some (.inr v2, u) else k_bind (f_R_goOn  u) (fun _ u2 => some (.inl (v2 + Int32.ofInt 1), u2)))
def f_R_truth_J155  (v3 : Int32) (u : k_S) : Option (Int32 × k_S) :=
  k_bind (f_R_layBack  u) (fun _ u5 => some (v3, u5))
def f_R_truth_B117  (v1 : Int32) (v3 : Int32) (v4 : Int32) (u : k_S) : Option (((Int32 × Int32) ⊕ (Int32)) × k_S) :=
  if 2000 < v4 then some (.inr v3, u) else if 0 ≤ v3 then some (.inr v3, u) else k_bind (f_R_goOn  u) (fun _ u6 => k_ck (0) 4 (if (u6.2.1 46 (0 : Int32).toNatClampNeg) = (v1 % 100) then some (.inl (v4, v4 + Int32.ofInt 1), u6) else some (.inl (v3, v4 + Int32.ofInt 1), u6)))
def f_R_truth_J104  (v1 : Int32) (v2 : Int32) (u : k_S) : Option (Int32 × k_S) :=
  if 2000 < v2 then f_R_truth_J155  (-2) u else k_bind (k_itr (fun (x : (Int32 × Int32)) u => f_R_truth_B117  v1 x.1 x.2 u) k_FU ((-2), 1) u) (fun y8 u7 => f_R_truth_J155  y8 u7)
def f_R_truth  (p1 : Int32) (u : k_S) : Option (Int32 × k_S) :=
  if (u.1 4203) = 0 then if p1 < 0 then some ((-1), u) else if 40 ≤ (p1 % 100) then some ((-1), u) else if (p1 / 100) < 40 then some ((-5), u) else some ((-1), u) else if p1 < 0 then some ((-1), u) else k_ck (0) 4 (if (u.2.1 45 (0 : Int32).toNatClampNeg) ≤ (p1 / 100) then some ((-1), u) else k_ck (0) 4 (if (p1 % 100) < (u.2.1 45 (0 : Int32).toNatClampNeg) then k_bind (f_R_keepNow  u) (fun _ u1 => k_bind (k_itr (fun (x : (Int32)) u => f_R_truth_B74  p1 x u) k_FU 0 u1) (fun y4 u3 => f_R_truth_J104  p1 y4 u3)) else some ((-1), u)))
def f_Nights_wrongDays_B28  (v1 : Int32) (v2 : Int32) (v3 : Int32) (v4 : Int32) (v5 : Int32) (u : k_S) : Option (((Int32 × Int32) ⊕ (Int32)) × k_S) :=
  if v1 < v5 then some (.inr v2, u) else k_bind (f_Nights_pass_Thought 1 1 u) (fun _ u6 => k_bind (f_Thought_placeOf 0 u6) (fun r8 u7 => k_bind (f_Nights_dayOf r8 u7) (fun r10 u9 => k_bind (f_W_left (v3 + v5) v4 u9) (fun r12 u11 => k_bind (f_Nights_dayOf r12 u11) (fun r14 u13 => if r10 = r14 then some (.inl (v2, v5 + Int32.ofInt 1), u13) else some (.inl (v2 + Int32.ofInt 1, v5 + Int32.ofInt 1), u13))))))
def f_Nights_wrongDays  (p1 : Int32) (u : k_S) : Option (Int32 × k_S) :=
  k_bind (f_Now_placeOf 0 u) (fun r2 u1 => k_bind (f_Wheels_sizeOf 0 u1) (fun r4 u3 => k_bind (f_Nights_think  u3) (fun _ u5 => k_bind (k_itr (fun (x : (Int32 × Int32)) u => f_Nights_wrongDays_B28  p1 x.1 r2 r4 x.2 u) k_FU (0, 1) u5) (fun y16 u15 => some (y16, u15)))))
def f_Nights_nearest_B56  (v1 : Int32) (v2 : Int32) (v3 : Int32) (v4 : Int32) (v5 : Int32) (v6 : Int32) (v8 : Int32) (v9 : Int32) (u : k_S) : Option (((Int32 × Int32 × Int32) ⊕ (Int32 × Int32)) × k_S) :=
  if v8 ≤ v9 then some (.inr (v3, v4), u) else k_ck (v9) 3 (k_let (k_t100 (v9).toNatClampNeg) (fun t6 => if t6 = v6 then some (.inl (v3, v4, v9 + Int32.ofInt 1), u) else k_bind (f_Wheels_setLetter 0 v5 t6 u) (fun _ u7 => k_bind (f_Nights_wrongDays v1 u7) (fun r9 u8 => if v4 ≤ r9 then some (.inl (v3, v4, v9 + Int32.ofInt 1), u8) else k_let ((1000 * v5) + t6) (fun t10 => some (.inl (t10, r9, v9 + Int32.ofInt 1), u8))))))
def f_Nights_nearest_B11  (v1 : Int32) (v2 : Int32) (v3 : Int32) (v4 : Int32) (v5 : Int32) (u : k_S) : Option (((Int32 × Int32 × Int32) ⊕ (Int32 × Int32)) × k_S) :=
  k_bind (f_Wheels_sizeOf 0 u) (fun r3 u2 => if r3 ≤ v5 then some (.inr (v3, v4), u2) else if 40 ≤ v5 then some (.inr (v3, v4), u2) else k_bind (f_Wheels_letterAt 0 v5 u2) (fun r5 u4 => k_bind (k_itr (fun (x : (Int32 × Int32 × Int32)) u => f_Nights_nearest_B56  v1 v2 x.1 x.2.1 v5 r5 3 x.2.2 u) k_FU (v3, v4, 0) u4) (fun y12 u11 => k_bind (f_Wheels_setLetter 0 v5 r5 u11) (fun _ u13 => some (.inl (y12.1, y12.2, v5 + Int32.ofInt 1), u13)))))
def f_Nights_nearest_J144  (v2 : Int32) (v3 : Int32) (v4 : Int32) (u : k_S) : Option (Int32 × k_S) :=
  if v2 = 0 then some (v4, u) else some (v3, u)
def f_Nights_nearest  (p1 : Int32) (p2 : Int32) (u : k_S) : Option (Int32 × k_S) :=
  k_let (p1 + 1) (fun t1 => k_bind (k_itr (fun (x : (Int32 × Int32 × Int32)) u => f_Nights_nearest_B11  p1 p2 x.1 x.2.1 x.2.2 u) k_FU ((-2), t1, 0) u) (fun y15 u14 => f_Nights_nearest_J144  p2 y15.1 y15.2 u14))
def f_W_near_J66  (s1 : Int32) (s2 : Int32) (u : k_S) : Option (Int32 × k_S) :=
  k_bind (f_Nights_nearest s1 s2 u) (fun r2 u1 => some (r2, u1))
def f_W_near  (p1 : Int32) (p2 : Int32) (u : k_S) : Option (Int32 × k_S) :=
  if p1 < 1 then some ((-1), u) else if 400 < p1 then some ((-1), u) else if p2 < 0 then some ((-1), u) else if p2 ≤ 2 then if (u.1 303) = 0 then some ((-5), u) else if p2 = 2 then k_bind (f_Nights_wrongDays p1 u) (fun r4 u3 => some (r4, u3)) else if p2 = 0 then f_W_near_J66  p1 1 u else f_W_near_J66  p1 0 u else some ((-1), u)
def f_R_wrongIn_B8  (v1 : Int32) (v2 : Int32) (v3 : Int32) (u : k_S) : Option (((Int32 × Int32) ⊕ (Int32)) × k_S) :=
  if v1 < v3 then some (.inr v2, u) else k_bind (f_R_goOn  u) (fun _ u2 => k_ck (0) 4 (k_nz (u2.1 4210) (k_ck (0) 4 (k_ck (0) 4 (k_nz (u2.2.1 45 (0 : Int32).toNatClampNeg) (k_nz (u2.1 4210) (if ((u2.2.1 46 (0 : Int32).toNatClampNeg) % (u2.1 4210)) = ((((u2.2.1 60 (0 : Int32).toNatClampNeg) + v3) % (u2.2.1 45 (0 : Int32).toNatClampNeg)) % (u2.1 4210)) then some (.inl (v2, v3 + Int32.ofInt 1), u2) else some (.inl (v2 + Int32.ofInt 1, v3 + Int32.ofInt 1), u2))))))))
def f_R_wrongIn  (p1 : Int32) (u : k_S) : Option (Int32 × k_S) :=
  k_bind (f_R_keepNow  u) (fun _ u1 => k_bind (k_itr (fun (x : (Int32 × Int32)) u => f_R_wrongIn_B8  p1 x.1 x.2 u) k_FU (0, 1) u1) (fun y4 u3 => k_bind (f_R_layBack  u3) (fun _ u5 => some (y4, u5))))
def f_R_near_J130  (v1 : Int32) (v2 : Int32) (v5 : Int32) (v6 : Int32) (v7 : Int32) (v8 : Int32) (u : k_S) : Option (((Int32 × Int32 × Int32) ⊕ (Int32 × Int32)) × k_S) :=
  k_ck (v7) 3 (k_let ((1000 * v5) + (u.2.1 63 (v7).toNatClampNeg)) (fun t9 => some (.inl (t9, v8, v7 + Int32.ofInt 1), u)))
def f_R_near_B74  (v1 : Int32) (v2 : Int32) (v3 : Int32) (v4 : Int32) (v5 : Int32) (v6 : Int32) (v7 : Int32) (u : k_S) : Option (((Int32 × Int32 × Int32) ⊕ (Int32 × Int32)) × k_S) :=
  if 3 ≤ v7 then some (.inr (v3, v4), u) else k_ck (v7) 3 (if (u.2.1 63 (v7).toNatClampNeg) = v6 then some (.inl (v3, v4, v7 + Int32.ofInt 1), u) else k_ck (v7) 3 (k_ck (v5) 160 (k_let (k_wA u 44 (v5).toNatClampNeg (u.2.1 63 (v7).toNatClampNeg)) (fun u6 => k_bind (f_R_wrongIn v1 u6) (fun r8 u7 => if v3 < 0 then f_R_near_J130  v1 v2 v5 v6 v7 r8 u7 else if r8 < v4 then f_R_near_J130  v1 v2 v5 v6 v7 r8 u7 else some (.inl (v3, v4, v7 + Int32.ofInt 1), u7))))))
def f_R_near_B51  (v1 : Int32) (v2 : Int32) (v3 : Int32) (v4 : Int32) (v5 : Int32) (u : k_S) : Option (((Int32 × Int32 × Int32) ⊕ (Int32 × Int32)) × k_S) :=
  k_ck (0) 4 (if (u.2.1 45 (0 : Int32).toNatClampNeg) ≤ v5 then some (.inr (v3, v4), u) else k_ck (v5) 160 (k_let (u.2.1 44 (v5).toNatClampNeg) (fun t5 => k_bind (k_itr (fun (x : (Int32 × Int32 × Int32)) u => f_R_near_B74  v1 v2 x.1 x.2.1 v5 t5 x.2.2 u) k_FU (v3, v4, 0) u) (fun y11 u10 => k_ck (v5) 160 (k_let (k_wA u10 44 (v5).toNatClampNeg (t5)) (fun u12 => some (.inl (y11.1, y11.2, v5 + Int32.ofInt 1), u12)))))))
def f_R_near  (p1 : Int32) (p2 : Int32) (u : k_S) : Option (Int32 × k_S) :=
  k_bind (f_R_in p1 1 400 u) (fun r2 u1 => if r2 = 0 then some ((-1), u1) else k_bind (f_R_in p2 0 2 u1) (fun r4 u3 => if r4 = 0 then some ((-1), u3) else if (u3.1 4203) = 0 then some ((-5), u3) else if p2 = 2 then k_bind (f_R_wrongIn p1 u3) (fun r16 u15 => some (r16, u15)) else k_bind (k_itr (fun (x : (Int32 × Int32 × Int32)) u => f_R_near_B51  p1 p2 x.1 x.2.1 x.2.2 u) k_FU ((-1), 0, 0) u3) (fun y14 u13 => if p2 = 0 then some (y14.1, u13) else some (y14.2, u13))))
def f_W_isRecord  (p0 : Int32) (p1 : Int32) (u : k_S) : Option (Int32 × k_S) :=
  if p0 < 0 then some (0, u) else if 5000 < p0 then some (0, u) else if p1 < 0 then some (0, u) else if 40 ≤ p1 then some (0, u) else some (1, u)
def f_Records_nightOf  (p1 : Int32) (u : k_S) : Option (Int32 × k_S) :=
  if p1 < 0 then some (0, u) else if 40 ≤ p1 then some (0, u) else k_ck (p1) 40 (some (u.2.1 21 (p1).toNatClampNeg, u))
def f_Records_add_B59  (v1 : Int32) (v3 : Int32) (v4 : Int32) (v5 : Int32) (u : k_S) : Option (((Int32 × Int32) ⊕ (Int32)) × k_S) :=
  if v5 ≤ 0 then some (.inr v4, u) else k_ck (v5 - 1) 40 (k_bind (f_Records_nightOf (u.2.1 23 (v5 - 1).toNatClampNeg) u) (fun r5 u4 => if r5 ≤ v1 then some (.inr v4, u4) else k_ck (v5 - 1) 40 (k_ck (v5) 40 (k_let (k_wA u4 23 (v5).toNatClampNeg (u4.2.1 23 (v5 - 1).toNatClampNeg)) (fun u6 => k_let (v5 - 1) (fun t7 => some (.inl (t7, v5 + Int32.ofInt (-1)), u6)))))))
def f_Records_add_J109  (v3 : Int32) (v4 : Int32) (u : k_S) : Option (Int32 × k_S) :=
  k_ck (v4) 40 (k_let (k_wA u 23 (v4).toNatClampNeg (v3)) (fun u10 => k_let (k_wF u10 2003 ((u10.1 2003) + 1)) (fun u11 => some (v3, u11))))
def f_Records_add  (p1 : Int32) (p2 : Int32) (u : k_S) : Option (Int32 × k_S) :=
  k_let (u.1 2003) (fun t1 => if t1 < 0 then some ((-3), u) else if 40 ≤ t1 then some ((-3), u) else if 40 ≤ t1 then some ((-3), u) else if t1 < 40 then k_ck (t1) 40 (k_let (k_wA u 21 (t1).toNatClampNeg (p1)) (fun u2 => k_ck (t1) 40 (k_let (k_wA u2 22 (t1).toNatClampNeg (p2)) (fun u3 => k_bind (k_itr (fun (x : (Int32 × Int32)) u => f_Records_add_B59  p1 t1 x.1 x.2 u) k_FU (t1, t1) u3) (fun y9 u8 => f_Records_add_J109  t1 y9 u8))))) else some ((-3), u))
def f_W_record  (p1 : Int32) (p2 : Int32) (u : k_S) : Option (Int32 × k_S) :=
  k_bind (f_W_isRecord p1 p2 u) (fun r2 u1 => if r2 = 0 then some ((-1), u1) else if (u1.1 2003) < 40 then k_bind (f_Records_add p1 p2 u1) (fun r4 u3 => some (r4, u3)) else some ((-3), u1))
def f_R_isRecord  (p0 : Int32) (p1 : Int32) (u : k_S) : Option (Int32 × k_S) :=
  k_bind (f_R_in p0 0 5000 u) (fun r2 u1 => if r2 = 0 then some (0, u1) else k_bind (f_R_in p1 0 39 u1) (fun r4 u3 => if r4 = 0 then some (0, u3) else some (1, u3)))
def f_R_addRecord  (p1 : Int32) (p2 : Int32) (u : k_S) : Option (Unit × k_S) :=
  k_ck (u.1 4235) 40 (k_let (k_wA u 64 (u.1 4235).toNatClampNeg (p1)) (fun u1 => k_ck (u1.1 4235) 40 (k_let (k_wA u1 65 (u1.1 4235).toNatClampNeg (p2)) (fun u2 => k_let (k_wF u2 4235 ((u2.1 4235) + 1)) (fun u3 => some ((), u3))))))
def f_R_record  (p1 : Int32) (p2 : Int32) (u : k_S) : Option (Int32 × k_S) :=
  k_bind (f_R_isRecord p1 p2 u) (fun r2 u1 => if r2 = 0 then some ((-1), u1) else if (u1.1 4235) = 40 then some ((-3), u1) else k_bind (f_R_addRecord p1 p2 u1) (fun _ u3 => some ((u3.1 4235) - 1, u3)))
def f_Shelves_has  (p1 : Int32) (u : k_S) : Option (Int32 × k_S) :=
  if p1 < 0 then some (0, u) else if 6 ≤ p1 then some (0, u) else some (1, u)
def f_Shelves_heldBy  (p1 : Int32) (u : k_S) : Option (Int32 × k_S) :=
  k_bind (f_Shelves_has p1 u) (fun r2 u1 => if r2 = 0 then some ((-1), u1) else k_ck (p1) 6 (some (u1.2.1 39 (p1).toNatClampNeg, u1)))
def f_Shelves_sizeOf  (p1 : Int32) (u : k_S) : Option (Int32 × k_S) :=
  if p1 < 0 then some (0, u) else if 6 ≤ p1 then some (0, u) else k_ck (p1) 6 (some (u.2.1 40 (p1).toNatClampNeg, u))
def f_Shelves_hasElement  (p1 : Int32) (p2 : Int32) (u : k_S) : Option (Int32 × k_S) :=
  k_bind (f_Shelves_heldBy p1 u) (fun r2 u1 => if r2 = (-1) then some (0, u1) else if r2 = 5 then some (0, u1) else if p2 < 0 then some (0, u1) else k_bind (f_Shelves_sizeOf p1 u1) (fun r4 u3 => if r4 ≤ p2 then some (0, u3) else some (1, u3)))
def f_Shelves_valueAt  (p1 : Int32) (p2 : Int32) (u : k_S) : Option (Int64 × k_S) :=
  k_let ((60 * p1) + p2) (fun t1 => if t1 < 0 then some (0, u) else if 360 ≤ t1 then some (0, u) else k_ck (t1) 360 (some (u.2.2 41 (t1).toNatClampNeg, u)))
def f_W_records_B52  (v1 : Int32) (v2 : Int32) (v3 : Int32) (v5 : Int32) (u : k_S) : Option (((Int32) ⊕ (Int32 ⊕ Unit)) × k_S) :=
  if v3 ≤ v5 then some (.inr (.inr ()), u) else k_let (v2 + (2 * v5)) (fun t5 => k_bind (f_Shelves_hasElement v1 t5 u) (fun r7 u6 => if r7 = 0 then some (.inr (.inl v5), u6) else k_bind (f_Shelves_hasElement v1 (t5 + 1) u6) (fun r9 u8 => if r9 = 0 then some (.inr (.inl v5), u8) else k_bind (f_Shelves_valueAt v1 t5 u8) (fun r11 u10 => k_let ((r11).toInt32) (fun t12 => k_bind (f_Shelves_valueAt v1 (t5 + 1) u10) (fun r14 u13 => k_let ((r14).toInt32) (fun t15 => k_bind (f_W_isRecord t12 t15 u13) (fun r17 u16 => if r17 = 0 then some (.inr (.inl v5), u16) else if (u16.1 2003) < 40 then k_bind (f_Records_add t12 t15 u16) (fun r19 u18 => some (.inl (v5 + Int32.ofInt 1), u18)) else some (.inr (.inl v5), u16)))))))))
def f_W_records_J49  (v1 : Int32) (v2 : Int32) (v3 : Int32) (u : k_S) : Option (Int32 × k_S) :=
  k_bind (k_itr (fun (x : (Int32)) u => f_W_records_B52  v1 v2 v3 x u) k_FU 0 u) (fun y21 u20 => k_cs y21 (fun r22 => some (r22, u20)) (fun y21 => some (v3, u20)))
def f_W_records  (p1 : Int32) (p2 : Int32) (p3 : Int32) (u : k_S) : Option (Int32 × k_S) :=
  k_bind (f_Shelves_has p1 u) (fun r2 u1 => if r2 = 0 then some ((-1), u1) else if p3 < 1 then some ((-1), u1) else if p3 ≤ 30 then k_bind (f_Shelves_heldBy p1 u1) (fun r4 u3 => if r4 = (-1) then f_W_records_J49  p1 p2 p3 u3 else if r4 = 1 then f_W_records_J49  p1 p2 p3 u3 else some ((-12), u3)) else some ((-1), u1))
def f_R_isShelf  (p0 : Int32) (u : k_S) : Option (Int32 × k_S) :=
  k_bind (f_R_in p0 0 5 u) (fun r2 u1 => k_zb r2 (some (r2, u1)))
def f_R_records_B58  (v1 : Int32) (v2 : Int32) (v3 : Int32) (v4 : Int32) (u : k_S) : Option (((Int32) ⊕ (Int32 ⊕ Unit)) × k_S) :=
  if v3 ≤ v4 then some (.inr (.inr ()), u) else k_let (((v2).toInt64) + ((2 * v4).toInt64)) (fun t5 => if (lg_cmp t5 0) < 0 then some (.inr (.inl v4), u) else k_ck (v1) 6 (if 0 ≤ (lg_cmp (t5 + 1) ((u.2.1 73 (v1).toNatClampNeg).toInt64)) then some (.inr (.inl v4), u) else if (u.1 4235) = 40 then some (.inr (.inl v4), u) else k_let ((60 * v1) + ((t5).toInt32)) (fun t6 => k_ck (t6) 360 (k_ck (t6 + 1) 360 (k_bind (f_R_isRecord ((u.2.2 74 (t6).toNatClampNeg).toInt32) ((u.2.2 74 (t6 + 1).toNatClampNeg).toInt32) u) (fun r8 u7 => if r8 = 0 then some (.inr (.inl v4), u7) else k_ck (t6) 360 (k_ck (t6 + 1) 360 (k_bind (f_R_addRecord ((u7.2.2 74 (t6).toNatClampNeg).toInt32) ((u7.2.2 74 (t6 + 1).toNatClampNeg).toInt32) u7) (fun _ u9 => some (.inl (v4 + Int32.ofInt 1), u9))))))))))
def f_R_records_J43  (v1 : Int32) (v2 : Int32) (v3 : Int32) (u : k_S) : Option (Int32 × k_S) :=
  k_ck (v1) 6 (if (u.2.1 72 (v1).toNatClampNeg) = (-1) then some (0, u) else k_bind (k_itr (fun (x : (Int32)) u => f_R_records_B58  v1 v2 v3 x u) k_FU 0 u) (fun y11 u10 => k_cs y11 (fun r12 => some (r12, u10)) (fun y11 => some (v3, u10))))
def f_R_records  (p1 : Int32) (p2 : Int32) (p3 : Int32) (u : k_S) : Option (Int32 × k_S) :=
  k_bind (f_R_isShelf p1 u) (fun r2 u1 => if r2 = 0 then some ((-1), u1) else k_bind (f_R_in p3 1 30 u1) (fun r4 u3 => if r4 = 0 then some ((-1), u3) else k_ck (p1) 6 (if (u3.2.1 72 (p1).toNatClampNeg) = (-1) then f_R_records_J43  p1 p2 p3 u3 else k_ck (p1) 6 (if (u3.2.1 72 (p1).toNatClampNeg) = (-3) then f_R_records_J43  p1 p2 p3 u3 else some ((-12), u3)))))
def f_W_clear   (u : k_S) : Option (Int32 × k_S) :=
  k_let (u.1 2003) (fun t1 => k_let (k_wF u 2003 (0)) (fun u2 => some (t1, u2)))
def f_R_clear   (u : k_S) : Option (Int32 × k_S) :=
  k_let (u.1 4235) (fun t1 => k_let (k_wF u 4235 (0)) (fun u2 => some (t1, u2)))
def f_Records_inOrder  (p1 : Int32) (u : k_S) : Option (Int32 × k_S) :=
  if p1 < 0 then some (0, u) else if 40 ≤ p1 then some (0, u) else k_ck (p1) 40 (some (u.2.1 23 (p1).toNatClampNeg, u))
def f_Records_placeOf  (p1 : Int32) (u : k_S) : Option (Int32 × k_S) :=
  if p1 < 0 then some (0, u) else if 40 ≤ p1 then some (0, u) else k_ck (p1) 40 (some (u.2.1 22 (p1).toNatClampNeg, u))
def f_Judging_firstWrong_B21  (v1 : Int32) (v2 : Int32) (v4 : Int32) (u : k_S) : Option (((Int32 × Int32) ⊕ (Int32 ⊕ (Int32))) × k_S) :=
  if (u.1 2003) ≤ v4 then some (.inr (.inr v2), u) else k_bind (f_Records_inOrder v4 u) (fun r3 u2 => k_bind (f_Records_nightOf r3 u2) (fun r5 u4 => if (u4.1 1702) ≤ r5 then k_bind (f_Nights_pass_Thought (r5 - (u4.1 1702)) 1 u4) (fun _ u6 => k_bind (f_Thought_placeOf 0 u6) (fun r8 u7 => k_bind (f_Records_placeOf r3 u7) (fun r10 u9 => if r8 = r10 then some (.inl (v2, v4 + Int32.ofInt 1), u9) else if v1 = 0 then if v2 = (-2) then some (.inl (r3, v4 + Int32.ofInt 1), u9) else if v2 ≤ r3 then some (.inl (v2, v4 + Int32.ofInt 1), u9) else some (.inl (r3, v4 + Int32.ofInt 1), u9) else some (.inr (.inl r3), u9)))) else some (.inl (v2, v4 + Int32.ofInt 1), u4)))
def f_Judging_firstWrong  (p1 : Int32) (u : k_S) : Option (Int32 × k_S) :=
  k_bind (f_Nights_think  u) (fun _ u1 => k_bind (k_itr (fun (x : (Int32 × Int32)) u => f_Judging_firstWrong_B21  p1 x.1 x.2 u) k_FU ((-2), 0) u1) (fun y12 u11 => k_cs y12 (fun r13 => some (r13, u11)) (fun y12 => some (y12, u11))))
def f_W_judge   (u : k_S) : Option (Int32 × k_S) :=
  if (u.1 303) = 0 then some ((-5), u) else k_bind (f_Judging_firstWrong 0 u) (fun r2 u1 => some (r2, u1))
def f_R_firstWrong_B9  (v1 : Int32) (v2 : Int32) (u : k_S) : Option (((Int32 × Int32) ⊕ (Int32)) × k_S) :=
  if (u.1 4235) ≤ v2 then some (.inr v1, u) else k_ck (v2) 40 (if (u.2.1 64 (v2).toNatClampNeg) ≤ v1 then some (.inl (v1, v2 + Int32.ofInt 1), u) else k_ck (v2) 40 (k_let (u.2.1 64 (v2).toNatClampNeg) (fun t2 => some (.inl (t2, v2 + Int32.ofInt 1), u))))
def f_R_firstWrong_B57  (v1 : Int32) (v2 : Int32) (v3 : Int32) (u : k_S) : Option (((Int32 × Int32) ⊕ (Int32)) × k_S) :=
  if (u.1 4235) ≤ v3 then some (.inr v2, u) else k_ck (v3) 40 (if (u.2.1 64 (v3).toNatClampNeg) = (u.1 4209) then k_ck (v3) 40 (k_ck (0) 4 (if (u.2.1 65 (v3).toNatClampNeg) = (u.2.1 46 (0 : Int32).toNatClampNeg) then some (.inl (v2, v3 + Int32.ofInt 1), u) else if v2 < 0 then some (.inl (v3, v3 + Int32.ofInt 1), u) else if v2 ≤ v3 then some (.inl (v2, v3 + Int32.ofInt 1), u) else some (.inl (v3, v3 + Int32.ofInt 1), u))) else some (.inl (v2, v3 + Int32.ofInt 1), u))
def f_R_firstWrong_B47  (v1 : Int32) (v2 : Int32) (u : k_S) : Option (((Int32) ⊕ (Int32)) × k_S) :=
  if v1 < (u.1 4209) then some (.inr v2, u) else k_bind (k_itr (fun (x : (Int32 × Int32)) u => f_R_firstWrong_B57  v1 x.1 x.2 u) k_FU (v2, 0) u) (fun y7 u6 => k_bind (f_R_goOn  u6) (fun _ u8 => some (.inl y7, u8)))
def f_R_firstWrong   (u : k_S) : Option (Int32 × k_S) :=
  k_let ((u.1 4209) - 1) (fun t1 => k_bind (k_itr (fun (x : (Int32 × Int32)) u => f_R_firstWrong_B9  x.1 x.2 u) k_FU (t1, 0) u) (fun y4 u3 => k_bind (f_R_keepNow  u3) (fun _ u5 => k_bind (k_itr (fun (x : (Int32)) u => f_R_firstWrong_B47  y4 x u) k_FU (-2) u5) (fun y10 u9 => k_bind (f_R_layBack  u9) (fun _ u11 => some (y10, u11))))))
def f_R_judge   (u : k_S) : Option (Int32 × k_S) :=
  if (u.1 4203) = 0 then some ((-5), u) else k_bind (f_R_firstWrong  u) (fun r2 u1 => some (r2, u1))
def f_Judging_fitting_B15  (v1 : Int32) (v2 : Int32) (v3 : Int32) (v4 : Int32) (u : k_S) : Option (((Int32 × Int32) ⊕ (Int32)) × k_S) :=
  if 4 ≤ v4 then some (.inr v2, u) else k_ck (v4) 4 (k_bind (f_Wheels_setLetter 0 v1 (k_t101 (v4).toNatClampNeg) u) (fun _ u3 => k_bind (f_Judging_firstWrong 1 u3) (fun r5 u4 => if r5 = (-2) then k_let (v2 ||| (1 <<< (v4 &&& 31))) (fun t6 => some (.inl (t6, v4 + Int32.ofInt 1), u4)) else some (.inl (v2, v4 + Int32.ofInt 1), u4))))
def f_Judging_fitting  (p1 : Int32) (u : k_S) : Option (Int32 × k_S) :=
  k_bind (f_Wheels_letterAt 0 p1 u) (fun r2 u1 => k_bind (k_itr (fun (x : (Int32 × Int32)) u => f_Judging_fitting_B15  p1 x.1 r2 x.2 u) k_FU (0, 0) u1) (fun y8 u7 => k_bind (f_Wheels_setLetter 0 p1 r2 u7) (fun _ u9 => some (y8, u9))))
def f_W_fits  (p1 : Int32) (u : k_S) : Option (Int32 × k_S) :=
  k_bind (f_Wheels_hasPlace 0 p1 u) (fun r2 u1 => if r2 = 0 then some ((-1), u1) else k_bind (f_Judging_fitting p1 u1) (fun r4 u3 => some (r4, u3)))
def f_R_fitting_B12  (v1 : Int32) (v2 : Int32) (v3 : Int32) (v4 : Int32) (u : k_S) : Option (((Int32 × Int32) ⊕ (Int32)) × k_S) :=
  if 4 ≤ v4 then some (.inr v3, u) else k_ck (v4) 4 (k_ck (v1) 160 (k_let (k_wA u 44 (v1).toNatClampNeg (u.2.1 66 (v4).toNatClampNeg)) (fun u2 => k_bind (f_R_firstWrong  u2) (fun r4 u3 => if 0 ≤ r4 then some (.inl (v3, v4 + Int32.ofInt 1), u3) else k_let (v3 ||| (1 <<< (v4 &&& 31))) (fun t5 => some (.inl (t5, v4 + Int32.ofInt 1), u3))))))
def f_R_fitting  (p1 : Int32) (u : k_S) : Option (Int32 × k_S) :=
  k_ck (p1) 160 (k_let (u.2.1 44 (p1).toNatClampNeg) (fun t1 => k_bind (k_itr (fun (x : (Int32 × Int32)) u => f_R_fitting_B12  p1 t1 x.1 x.2 u) k_FU (0, 0) u) (fun y7 u6 => k_ck (p1) 160 (k_let (k_wA u6 44 (p1).toNatClampNeg (t1)) (fun u8 => some (y7, u8))))))
def f_R_fits  (p1 : Int32) (u : k_S) : Option (Int32 × k_S) :=
  if (u.1 4203) ≤ 0 then some ((-1), u) else k_ck (0) 4 (k_bind (f_R_in p1 0 ((u.2.1 45 (0 : Int32).toNatClampNeg) - 1) u) (fun r2 u1 => if r2 = 0 then some ((-1), u1) else k_bind (f_R_fitting p1 u1) (fun r4 u3 => some (r4, u3))))
def f_J_bitCount  (p0 : Int32) (u : k_S) : Option (Int32 × k_S) :=
  k_let (p0 - ((((p0).toUInt32 >>> ((1 : Int32).toUInt32 &&& Int32.toUInt32 31)).toInt32) &&& 1431655765)) (fun t1 => k_let ((t1 &&& 858993459) + ((((t1).toUInt32 >>> ((2 : Int32).toUInt32 &&& Int32.toUInt32 31)).toInt32) &&& 858993459)) (fun t2 => k_let ((t2 + (((t2).toUInt32 >>> ((4 : Int32).toUInt32 &&& Int32.toUInt32 31)).toInt32)) &&& 252645135) (fun t3 => k_let (t3 + (((t3).toUInt32 >>> ((8 : Int32).toUInt32 &&& Int32.toUInt32 31)).toInt32)) (fun t4 => k_let (t4 + (((t4).toUInt32 >>> ((16 : Int32).toUInt32 &&& Int32.toUInt32 31)).toInt32)) (fun t5 => some (t5 &&& 63, u))))))
def f_W_sure_B28  (v1 : Int32) (v2 : Int32) (v3 : Int32) (u : k_S) : Option (((Int32 × Int32) ⊕ (Int32 ⊕ (Int32))) × k_S) :=
  k_bind (f_Wheels_sizeOf 0 u) (fun r2 u1 => if r2 ≤ v3 then some (.inr (.inr v2), u1) else if 40 ≤ v3 then some (.inr (.inr v2), u1) else k_bind (f_Judging_fitting v3 u1) (fun r4 u3 => k_bind (f_J_bitCount r4 u3) (fun r6 u5 => if r6 = 1 then if v1 = 1 then some (.inr (.inl v3), u5) else some (.inl (v2 + Int32.ofInt 1, v3 + Int32.ofInt 1), u5) else some (.inl (v2, v3 + Int32.ofInt 1), u5))))
def f_W_sure_J77  (v1 : Int32) (v2 : Int32) (u : k_S) : Option (Int32 × k_S) :=
  if v1 = 1 then some ((-2), u) else some (v2, u)
def f_W_sure  (p1 : Int32) (u : k_S) : Option (Int32 × k_S) :=
  if p1 < 0 then some ((-1), u) else if p1 ≤ 1 then if (u.1 303) = 0 then some ((-5), u) else k_bind (k_itr (fun (x : (Int32 × Int32)) u => f_W_sure_B28  p1 x.1 x.2 u) k_FU (0, 0) u) (fun y8 u7 => k_cs y8 (fun r9 => some (r9, u7)) (fun y8 => f_W_sure_J77  p1 y8 u7)) else some ((-1), u)
def f_R_bitsOf_B4  (v1 : Int32) (v2 : Int32) (u : k_S) : Option (((Int32 × Int32) ⊕ (Int32)) × k_S) :=
  if v2 = 0 then some (.inr v1, u) else k_let (v2 &&& (v2 - 1)) (fun t1 => some (.inl (v1 + Int32.ofInt 1, t1), u))
def f_R_bitsOf  (p0 : Int32) (u : k_S) : Option (Int32 × k_S) :=
  k_bind (k_itr (fun (x : (Int32 × Int32)) u => f_R_bitsOf_B4  x.1 x.2 u) k_FU (0, p0) u) (fun y3 u2 => some (y3, u2))
def f_R_sure_B29  (v1 : Int32) (v2 : Int32) (v3 : Int32) (v4 : Int32) (u : k_S) : Option (((Int32 × Int32 × Int32) ⊕ (Int32 × Int32)) × k_S) :=
  k_ck (0) 4 (if (u.2.1 45 (0 : Int32).toNatClampNeg) ≤ v4 then some (.inr (v2, v3), u) else k_bind (f_R_fitting v4 u) (fun r4 u3 => k_bind (f_R_bitsOf r4 u3) (fun r6 u5 => if r6 = 1 then if 0 ≤ v3 then some (.inl (v2 + Int32.ofInt 1, v3, v4 + Int32.ofInt 1), u5) else some (.inl (v2 + Int32.ofInt 1, v4, v4 + Int32.ofInt 1), u5) else some (.inl (v2, v3, v4 + Int32.ofInt 1), u5))))
def f_R_sure  (p1 : Int32) (u : k_S) : Option (Int32 × k_S) :=
  k_bind (f_R_in p1 0 1 u) (fun r2 u1 => if r2 = 0 then some ((-1), u1) else if (u1.1 4203) = 0 then some ((-5), u1) else k_bind (k_itr (fun (x : (Int32 × Int32 × Int32)) u => f_R_sure_B29  p1 x.1 x.2.1 x.2.2 u) k_FU (0, (-2), 0) u1) (fun y8 u7 => if p1 = 0 then some (y8.1, u7) else some (y8.2, u7)))
def f_Judging_tryBreaks_J128  (v1 : Int32) (v2 : Int32) (v3 : Int32) (v4 : Int32) (u : k_S) : Option (((Int32 × Int32 × Int32) ⊕ Unit) × k_S) :=
  k_let (k_wF u 2406 (v4)) (fun u6 => k_let (k_wF u6 2407 ((u6.1 2407) + 1)) (fun u7 => some (.inl (v2, v3, v4 + Int32.ofInt 1), u7)))
def f_Judging_tryBreaks_J106  (v1 : Int32) (v2 : Int32) (v3 : Int32) (v4 : Int32) (u : k_S) : Option (((Int32 × Int32 × Int32) ⊕ Unit) × k_S) :=
  if v2 = 0 then some (.inl (v2, v3, v4 + Int32.ofInt 1), u) else if (u.1 2405) = (-2) then k_let (k_wF u 2405 (v4)) (fun u8 => f_Judging_tryBreaks_J128  v1 v2 v3 v4 u8) else f_Judging_tryBreaks_J128  v1 v2 v3 v4 u
def f_Judging_tryBreaks_J105  (v1 : Int32) (v2 : Int32) (v4 : Int32) (s0 : Int32) (u : k_S) : Option (((Int32 × Int32 × Int32) ⊕ Unit) × k_S) :=
  f_Judging_tryBreaks_J106  v1 v2 s0 v4 u
def f_Judging_tryBreaks_J80  (v1 : Int32) (v4 : Int32) (s0 : Int32) (u : k_S) : Option (((Int32 × Int32 × Int32) ⊕ Unit) × k_S) :=
  if (u.1 1206) = (-1) then f_Judging_tryBreaks_J105  v1 s0 v4 400 u else f_Judging_tryBreaks_J105  v1 s0 v4 (u.1 1206) u
def f_Judging_tryBreaks_B33  (v1 : Int32) (v2 : Int32) (v3 : Int32) (v4 : Int32) (u : k_S) : Option (((Int32 × Int32 × Int32) ⊕ Unit) × k_S) :=
  if 400 < v4 then some (.inr (), u) else if v4 ≤ v3 then f_Judging_tryBreaks_J106  v1 v2 v3 v4 u else k_bind (f_Wheels_setBreak 0 v4 u) (fun _ u9 => k_let (k_wF u9 1206 ((-1))) (fun u10 => k_bind (f_Judging_firstWrong 1 u10) (fun r12 u11 => if r12 = (-2) then f_Judging_tryBreaks_J80  v1 v4 1 u11 else f_Judging_tryBreaks_J80  v1 v4 0 u11)))
def f_Judging_tryBreaks   (u : k_S) : Option (Unit × k_S) :=
  k_bind (f_Wheels_breakOf 0 u) (fun r2 u1 => k_let (k_wF u1 2405 ((-2))) (fun u3 => k_let (k_wF u3 2406 ((-2))) (fun u4 => k_let (k_wF u4 2407 (0)) (fun u5 => k_bind (k_itr (fun (x : (Int32 × Int32 × Int32)) u => f_Judging_tryBreaks_B33  r2 x.1 x.2.1 x.2.2 u) k_FU (0, (-1), 0) u5) (fun y14 u13 => k_bind (f_Wheels_setBreak 0 r2 u13) (fun _ u15 => some ((), u15)))))))
def f_W_when  (p1 : Int32) (u : k_S) : Option (Int32 × k_S) :=
  if p1 < 0 then some ((-1), u) else if p1 ≤ 2 then if (u.1 303) = 0 then some ((-5), u) else k_bind (f_Judging_tryBreaks  u) (fun _ u1 => if p1 = 2 then some (u1.1 2407, u1) else if p1 = 0 then some (u1.1 2405, u1) else some (u1.1 2406, u1)) else some ((-1), u)
def f_R_when_B41  (v1 : Int32) (v2 : Int32) (v3 : Int32) (v4 : Int32) (v5 : Int32) (v6 : Int32) (u : k_S) : Option (((Int32 × Int32 × Int32 × Int32) ⊕ (Int32 × Int32 × Int32)) × k_S) :=
  if 400 < v6 then some (.inr (v3, v4, v5), u) else k_ck (0) 4 (k_let (k_wA u 48 (0 : Int32).toNatClampNeg (v6)) (fun u4 => k_bind (f_R_firstWrong  u4) (fun r6 u5 => if r6 < 0 then if 0 ≤ v3 then some (.inl (v3, v6, v5 + Int32.ofInt 1, v6 + Int32.ofInt 1), u5) else some (.inl (v6, v6, v5 + Int32.ofInt 1, v6 + Int32.ofInt 1), u5) else some (.inl (v3, v4, v5, v6 + Int32.ofInt 1), u5))))
def f_R_when  (p1 : Int32) (u : k_S) : Option (Int32 × k_S) :=
  k_bind (f_R_in p1 0 2 u) (fun r2 u1 => if r2 = 0 then some ((-1), u1) else if (u1.1 4203) = 0 then some ((-5), u1) else k_ck (0) 4 (k_let (u1.2.1 48 (0 : Int32).toNatClampNeg) (fun t3 => k_bind (k_itr (fun (x : (Int32 × Int32 × Int32 × Int32)) u => f_R_when_B41  p1 t3 x.1 x.2.1 x.2.2.1 x.2.2.2 u) k_FU ((-2), (-2), 0, 0) u1) (fun y8 u7 => k_ck (0) 4 (k_let (k_wA u7 48 (0 : Int32).toNatClampNeg (t3)) (fun u9 => if p1 = 0 then some (y8.1, u9) else if p1 = 1 then some (y8.2.1, u9) else some (y8.2.2, u9)))))))
def f_Judging_watchLetters_B44  (v1 : Int32) (v2 : Int32) (v3 : Int32) (v4 : Int32) (u : k_S) : Option (((Int32) ⊕ Unit) × k_S) :=
  if 10 ≤ v4 then some (.inr (), u) else k_bind (f_Nights_pass_Thought 1 1 u) (fun _ u5 => k_let ((10 * v3) + v4) (fun t6 => if 40 ≤ t6 then some (.inl (v4 + Int32.ofInt 1), u5) else k_bind (f_Thought_placeOf 0 u5) (fun r8 u7 => k_ck (t6) 40 (k_let (k_wA u7 25 (t6).toNatClampNeg (r8)) (fun u9 => some (.inl (v4 + Int32.ofInt 1), u9))))))
def f_Judging_watchLetters_B12  (v1 : Int32) (v2 : Int32) (v3 : Int32) (u : k_S) : Option (((Int32) ⊕ Unit) × k_S) :=
  if 4 ≤ v3 then some (.inr (), u) else k_ck (v3) 4 (k_bind (f_Wheels_setLetter 0 v1 (k_t101 (v3).toNatClampNeg) u) (fun _ u3 => k_bind (f_Nights_think  u3) (fun _ u4 => k_bind (k_itr (fun (x : (Int32)) u => f_Judging_watchLetters_B44  v1 v2 v3 x u) k_FU 0 u4) (fun y11 u10 => some (.inl (v3 + Int32.ofInt 1), u10)))))
def f_Judging_watchLetters  (p1 : Int32) (u : k_S) : Option (Unit × k_S) :=
  k_bind (f_Wheels_letterAt 0 p1 u) (fun r2 u1 => k_bind (k_itr (fun (x : (Int32)) u => f_Judging_watchLetters_B12  p1 r2 x u) k_FU 0 u1) (fun y13 u12 => k_bind (f_Wheels_setLetter 0 p1 r2 u12) (fun _ u14 => some ((), u14))))
def f_Judging_compareLetters_B15  (v1 : Int32) (v2 : Int32) (v3 : Int32) (u : k_S) : Option (((Int32 × Int32) ⊕ (Int32)) × k_S) :=
  if 10 ≤ v3 then some (.inr v2, u) else k_let ((10 * (v1 / 4)) + v3) (fun t1 => k_let ((10 * (v1 % 4)) + v3) (fun t2 => if 40 ≤ t1 then some (.inl (v2, v3 + Int32.ofInt 1), u) else if t2 < 40 then k_ck (t1) 40 (k_ck (t2) 40 (if (u.2.1 25 (t1).toNatClampNeg) = (u.2.1 25 (t2).toNatClampNeg) then some (.inl (v2, v3 + Int32.ofInt 1), u) else k_let (v2 ||| (1 <<< (v3 &&& 31))) (fun t3 => some (.inl (t3, v3 + Int32.ofInt 1), u)))) else some (.inl (v2, v3 + Int32.ofInt 1), u)))
def f_Judging_compareLetters_B2  (v1 : Int32) (u : k_S) : Option (((Int32) ⊕ Unit) × k_S) :=
  if 16 ≤ v1 then some (.inr (), u) else k_bind (k_itr (fun (x : (Int32 × Int32)) u => f_Judging_compareLetters_B15  v1 x.1 x.2 u) k_FU (0, 0) u) (fun y5 u4 => k_ck (v1) 16 (k_let (k_wA u4 26 (v1).toNatClampNeg (y5)) (fun u6 => some (.inl (v1 + Int32.ofInt 1), u6))))
def f_Judging_compareLetters   (u : k_S) : Option (Unit × k_S) :=
  k_bind (k_itr (fun (x : (Int32)) u => f_Judging_compareLetters_B2  x u) k_FU 0 u) (fun y8 u7 => some ((), u7))
def f_Judging_tellApart_J46  (v1 : Int32) (v2 : Int32) (v3 : Int32) (v4 : Int32) (v5 : Int32) (s0 : Int32) (u : k_S) : Option (((Int32) ⊕ (Int32 ⊕ Unit)) × k_S) :=
  if v5 ≤ v4 then some (.inl (v3 + Int32.ofInt 1), u) else if s0 = 0 then some (.inl (v3 + Int32.ofInt 1), u) else k_ck (v3) 16 (if ((u.2.1 26 (v3).toNatClampNeg) &&& v1) = 0 then some (.inr (.inl 0), u) else some (.inl (v3 + Int32.ofInt 1), u))
def f_Judging_tellApart_J45  (v1 : Int32) (v2 : Int32) (v3 : Int32) (v4 : Int32) (v5 : Int32) (u : k_S) : Option (((Int32) ⊕ (Int32 ⊕ Unit)) × k_S) :=
  f_Judging_tellApart_J46  v1 v2 v3 v4 v5 0 u
def f_Judging_tellApart_B2  (v1 : Int32) (v2 : Int32) (v3 : Int32) (u : k_S) : Option (((Int32) ⊕ (Int32 ⊕ Unit)) × k_S) :=
  if 16 ≤ v3 then some (.inr (.inr ()), u) else k_let (v3 / 4) (fun t1 => k_let (v3 % 4) (fun t2 => if ((v2 >>> (t1 &&& 31)) &&& 1) = 1 then if ((v2 >>> (t2 &&& 31)) &&& 1) = 1 then f_Judging_tellApart_J46  v1 v2 v3 t1 t2 1 u else f_Judging_tellApart_J45  v1 v2 v3 t1 t2 u else f_Judging_tellApart_J45  v1 v2 v3 t1 t2 u))
def f_Judging_tellApart  (p1 : Int32) (p2 : Int32) (u : k_S) : Option (Int32 × k_S) :=
  k_bind (k_itr (fun (x : (Int32)) u => f_Judging_tellApart_B2  p1 p2 x u) k_FU 0 u) (fun y4 u3 => k_cs y4 (fun r5 => some (r5, u3)) (fun y4 => some (1, u3)))
def f_Judging_fewestNights_B29  (v2 : Int32) (v3 : Int32) (v4 : Int32) (v5 : Int32) (u : k_S) : Option (((Int32 × Int32 × Int32) ⊕ (Int32)) × k_S) :=
  if 1024 ≤ v5 then some (.inr v3, u) else k_bind (f_J_bitCount v5 u) (fun r6 u5 => if v4 ≤ r6 then some (.inl (v3, v4, v5 + Int32.ofInt 1), u5) else k_bind (f_Judging_tellApart v5 v2 u5) (fun r8 u7 => if r8 = 0 then some (.inl (v3, v4, v5 + Int32.ofInt 1), u7) else some (.inl (v5, r6, v5 + Int32.ofInt 1), u7)))
def f_Judging_fewestNights  (p1 : Int32) (p2 : Int32) (u : k_S) : Option (Int32 × k_S) :=
  k_bind (f_J_bitCount p2 u) (fun r2 u1 => if 2 ≤ r2 then k_bind (f_Judging_watchLetters p1 u1) (fun _ u3 => k_bind (f_Judging_compareLetters  u3) (fun _ u4 => k_bind (k_itr (fun (x : (Int32 × Int32 × Int32)) u => f_Judging_fewestNights_B29  p2 x.1 x.2.1 x.2.2 u) k_FU ((-2), 11, 1) u4) (fun y10 u9 => some (y10, u9)))) else some (0, u1))
def f_W_watch  (p1 : Int32) (u : k_S) : Option (Int32 × k_S) :=
  k_bind (f_Wheels_hasPlace 0 p1 u) (fun r2 u1 => if r2 = 0 then some ((-1), u1) else k_bind (f_Judging_fitting p1 u1) (fun r4 u3 => k_bind (f_Judging_fewestNights p1 r4 u3) (fun r6 u5 => some (r6, u5))))
def f_R_doesPart_B44  (v1 : Int32) (v2 : Int32) (v3 : Int32) (v4 : Int32) (v5 : Int32) (v6 : Int32) (u : k_S) : Option (((Int32 × Int32) ⊕ (Int32)) × k_S) :=
  if 10 < v6 then some (.inr v5, u) else if ((v1 >>> ((v6 - 1) &&& 31)) &&& 1) = 1 then k_ck ((11 * v3) + v6) 44 (k_ck ((11 * v4) + v6) 44 (if (u.2.1 67 ((11 * v3) + v6).toNatClampNeg) = (u.2.1 67 ((11 * v4) + v6).toNatClampNeg) then some (.inl (v5, v6 + Int32.ofInt 1), u) else some (.inl (1, v6 + Int32.ofInt 1), u))) else some (.inl (v5, v6 + Int32.ofInt 1), u)
def f_R_doesPart_B12  (v1 : Int32) (v2 : Int32) (v3 : Int32) (v4 : Int32) (u : k_S) : Option (((Int32) ⊕ (Int32 ⊕ Unit)) × k_S) :=
  if 4 ≤ v4 then some (.inr (.inr ()), u) else if ((v2 >>> (v3 &&& 31)) &&& 1) = 0 then some (.inl (v4 + Int32.ofInt 1), u) else if ((v2 >>> (v4 &&& 31)) &&& 1) = 0 then some (.inl (v4 + Int32.ofInt 1), u) else k_bind (k_itr (fun (x : (Int32 × Int32)) u => f_R_doesPart_B44  v1 v2 v3 v4 x.1 x.2 u) k_FU (0, 1) u) (fun y3 u2 => if y3 = 0 then some (.inr (.inl 0), u2) else some (.inl (v4 + Int32.ofInt 1), u2))
def f_R_doesPart_B2  (v1 : Int32) (v2 : Int32) (v3 : Int32) (u : k_S) : Option (((Int32) ⊕ (Int32 ⊕ Unit)) × k_S) :=
  if 4 ≤ v3 then some (.inr (.inr ()), u) else k_let (v3 + 1) (fun t1 => k_bind (k_itr (fun (x : (Int32)) u => f_R_doesPart_B12  v1 v2 v3 x u) k_FU t1 u) (fun y5 u4 => k_cs y5 (fun r6 => some (.inr (.inl r6), u4)) (fun y5 => some (.inl (v3 + Int32.ofInt 1), u4))))
def f_R_doesPart  (p1 : Int32) (p2 : Int32) (u : k_S) : Option (Int32 × k_S) :=
  k_bind (k_itr (fun (x : (Int32)) u => f_R_doesPart_B2  p1 p2 x u) k_FU 0 u) (fun y8 u7 => k_cs y8 (fun r9 => some (r9, u7)) (fun y8 => some (1, u7)))
def f_R_watch_B77  (v1 : Int32) (v2 : Int32) (v3 : Int32) (v4 : Int32) (v5 : Int32) (u : k_S) : Option (((Int32) ⊕ Unit) × k_S) :=
  if 10 < v5 then some (.inr (), u) else k_bind (f_R_goOn  u) (fun _ u10 => k_ck (0) 4 (k_ck ((11 * v4) + v5) 44 (k_let (k_wA u10 67 ((11 * v4) + v5).toNatClampNeg (u10.2.1 46 (0 : Int32).toNatClampNeg)) (fun u11 => some (.inl (v5 + Int32.ofInt 1), u11)))))
def f_R_watch_B51  (v1 : Int32) (v2 : Int32) (v3 : Int32) (v4 : Int32) (u : k_S) : Option (((Int32) ⊕ Unit) × k_S) :=
  if 4 ≤ v4 then some (.inr (), u) else k_ck (v4) 4 (k_ck (v1) 160 (k_let (k_wA u 44 (v1).toNatClampNeg (u.2.1 66 (v4).toNatClampNeg)) (fun u8 => k_bind (f_R_keepNow  u8) (fun _ u9 => k_bind (k_itr (fun (x : (Int32)) u => f_R_watch_B77  v1 v2 v3 v4 x u) k_FU 1 u9) (fun y13 u12 => k_bind (f_R_layBack  u12) (fun _ u14 => some (.inl (v4 + Int32.ofInt 1), u14)))))))
def f_R_watch_J163  (v2 : Int32) (v4 : Int32) (v5 : Int32) (u : k_S) : Option (((Int32 × Int32) ⊕ (Int32)) × k_S) :=
  k_bind (f_R_doesPart v5 v2 u) (fun r19 u18 => if r19 = 0 then some (.inl (v4, v5 + Int32.ofInt 1), u18) else some (.inl (v5, v5 + Int32.ofInt 1), u18))
def f_R_watch_B137  (v2 : Int32) (v4 : Int32) (v5 : Int32) (u : k_S) : Option (((Int32 × Int32) ⊕ (Int32)) × k_S) :=
  if 1024 ≤ v5 then some (.inr v4, u) else if v4 < 0 then f_R_watch_J163  v2 v4 v5 u else k_bind (f_R_bitsOf v5 u) (fun r21 u20 => k_bind (f_R_bitsOf v4 u20) (fun r23 u22 => if r23 ≤ r21 then some (.inl (v4, v5 + Int32.ofInt 1), u22) else f_R_watch_J163  v2 v4 v5 u22))
def f_R_watch  (p1 : Int32) (u : k_S) : Option (Int32 × k_S) :=
  if (u.1 4203) = 0 then some ((-1), u) else k_ck (0) 4 (k_bind (f_R_in p1 0 ((u.2.1 45 (0 : Int32).toNatClampNeg) - 1) u) (fun r2 u1 => if r2 = 0 then some ((-1), u1) else k_bind (f_R_fitting p1 u1) (fun r4 u3 => k_bind (f_R_bitsOf r4 u3) (fun r6 u5 => if 2 ≤ r6 then k_ck (p1) 160 (k_let (u5.2.1 44 (p1).toNatClampNeg) (fun t7 => k_bind (k_itr (fun (x : (Int32)) u => f_R_watch_B51  p1 r4 t7 x u) k_FU 0 u5) (fun y16 u15 => k_ck (p1) 160 (k_let (k_wA u15 44 (p1).toNatClampNeg (t7)) (fun u17 => k_bind (k_itr (fun (x : (Int32 × Int32)) u => f_R_watch_B137  r4 x.1 x.2 u) k_FU ((-2), 0) u17) (fun y25 u24 => some (y25, u24))))))) else some (0, u5)))))
def f_Picture_stand  (p1 : Int32) (p2 : Int32) (p3 : Int32) (u : k_S) : Option (Unit × k_S) :=
  if p1 < 0 then some ((), u) else if 4 ≤ p1 then some ((), u) else if p1 < 4 then k_ck (p1) 4 (k_let (k_wA u 28 (p1).toNatClampNeg (p2)) (fun u1 => k_ck (p1) 4 (k_let (k_wA u1 29 (p1).toNatClampNeg (p3)) (fun u2 => some ((), u2))))) else some ((), u)
def f_Picture_become_Now_B10  (v2 : Int32) (v3 : Int32) (u : k_S) : Option (((Int32) ⊕ Unit) × k_S) :=
  if v2 ≤ v3 then some (.inr (), u) else if 4 ≤ v3 then some (.inr (), u) else k_bind (f_Now_placeOf v3 u) (fun r3 u2 => k_bind (f_Now_waitsOf v3 u2) (fun r5 u4 => k_bind (f_Picture_stand v3 r3 r5 u4) (fun _ u6 => some (.inl (v3 + Int32.ofInt 1), u6))))
def f_Picture_become_Now  (p2 : Int32) (u : k_S) : Option (Unit × k_S) :=
  k_let (k_wF u 2702 (u.1 1402)) (fun u1 => k_bind (k_itr (fun (x : (Int32)) u => f_Picture_become_Now_B10  p2 x u) k_FU 0 u1) (fun y8 u7 => some ((), u7)))
def f_W_image   (u : k_S) : Option (Int32 × k_S) :=
  k_bind (f_Picture_become_Now (u.1 303) u) (fun _ u1 => k_let (k_wF u1 10 (u1.1 303)) (fun u2 => some (u2.1 2702, u2)))
def f_R_image_B23  (v1 : Int32) (u : k_S) : Option (((Int32) ⊕ Unit) × k_S) :=
  if 4 ≤ v1 then some (.inr (), u) else k_ck (v1) 4 (k_ck (v1) 4 (k_let (k_wA u 68 (v1).toNatClampNeg (u.2.1 46 (v1).toNatClampNeg)) (fun u4 => k_ck (v1) 4 (k_ck (v1) 4 (k_let (k_wA u4 69 (v1).toNatClampNeg (u4.2.1 47 (v1).toNatClampNeg)) (fun u5 => some (.inl (v1 + Int32.ofInt 1), u5)))))))
def f_R_image   (u : k_S) : Option (Int32 × k_S) :=
  k_let (k_wF u 4240 (1)) (fun u1 => k_let (k_wF u1 4241 (u1.1 4203)) (fun u2 => k_let (k_wF u2 4242 (u2.1 4209)) (fun u3 => k_bind (k_itr (fun (x : (Int32)) u => f_R_image_B23  x u) k_FU 0 u3) (fun y7 u6 => some (u6.1 4209, u6)))))
def f_Picture_placeOf  (p1 : Int32) (u : k_S) : Option (Int32 × k_S) :=
  if p1 < 0 then some (0, u) else if 4 ≤ p1 then some (0, u) else k_ck (p1) 4 (some (u.2.1 28 (p1).toNatClampNeg, u))
def f_Picture_waitsOf  (p1 : Int32) (u : k_S) : Option (Int32 × k_S) :=
  if p1 < 0 then some (0, u) else if 4 ≤ p1 then some (0, u) else k_ck (p1) 4 (some (u.2.1 29 (p1).toNatClampNeg, u))
def f_Now_become_Picture_B10  (v2 : Int32) (v3 : Int32) (u : k_S) : Option (((Int32) ⊕ Unit) × k_S) :=
  if v2 ≤ v3 then some (.inr (), u) else if 4 ≤ v3 then some (.inr (), u) else k_bind (f_Picture_placeOf v3 u) (fun r3 u2 => k_bind (f_Picture_waitsOf v3 u2) (fun r5 u4 => k_bind (f_Now_stand v3 r3 r5 u4) (fun _ u6 => some (.inl (v3 + Int32.ofInt 1), u6))))
def f_Now_become_Picture  (p2 : Int32) (u : k_S) : Option (Unit × k_S) :=
  k_let (k_wF u 1402 (u.1 2702)) (fun u1 => k_bind (k_itr (fun (x : (Int32)) u => f_Now_become_Picture_B10  p2 x u) k_FU 0 u1) (fun y8 u7 => some ((), u7)))
def f_W_back   (u : k_S) : Option (Int32 × k_S) :=
  if (u.1 10) = (-1) then some ((-5), u) else k_bind (f_Now_become_Picture (u.1 10) u) (fun _ u1 => some (u1.1 1402, u1))
def f_R_back_B20  (v1 : Int32) (u : k_S) : Option (((Int32) ⊕ Unit) × k_S) :=
  if (u.1 4241) ≤ v1 then some (.inr (), u) else k_ck (v1) 4 (k_ck (v1) 4 (k_let (k_wA u 46 (v1).toNatClampNeg (u.2.1 68 (v1).toNatClampNeg)) (fun u2 => k_ck (v1) 4 (k_ck (v1) 4 (k_let (k_wA u2 47 (v1).toNatClampNeg (u2.2.1 69 (v1).toNatClampNeg)) (fun u3 => some (.inl (v1 + Int32.ofInt 1), u3)))))))
def f_R_back   (u : k_S) : Option (Int32 × k_S) :=
  if (u.1 4240) = 0 then some ((-5), u) else k_let (k_wF u 4209 (u.1 4242)) (fun u1 => k_bind (k_itr (fun (x : (Int32)) u => f_R_back_B20  x u) k_FU 0 u1) (fun y5 u4 => some (u4.1 4209, u4)))
def f_W_apply  (p1 : Int32) (p2 : Int32) (u : k_S) : Option (Unit × k_S) :=
  k_bind (f_Changes_wheelAt p1 u) (fun r2 u1 => k_bind (f_Changes_placeAt p1 u1) (fun r4 u3 => if r4 = (-1) then k_bind (f_Wheels_setBreak r2 p2 u3) (fun _ u6 => some ((), u6)) else k_bind (f_Wheels_setLetter r2 r4 p2 u3) (fun _ u5 => some ((), u5))))
def f_W_undo   (u : k_S) : Option (Int32 × k_S) :=
  if (u.1 3004) = 0 then some ((-5), u) else k_let (k_wF u 3004 ((u.1 3004) - 1)) (fun u1 => k_bind (f_Changes_beforeAt (u1.1 3004) u1) (fun r3 u2 => k_bind (f_W_apply (u1.1 3004) r3 u2) (fun _ u4 => some (u4.1 3004, u4))))
def f_R_undo   (u : k_S) : Option (Int32 × k_S) :=
  if (u.1 4224) = 0 then some ((-5), u) else k_let (k_wF u 4224 ((u.1 4224) - 1)) (fun u1 => k_let (k_wF u1 4225 ((u1.1 4225) + 1)) (fun u2 => k_ck (u2.1 4224) 40 (k_ck (u2.1 4224) 40 (k_ck (u2.1 4224) 40 (k_bind (f_R_lays (u2.2.1 56 (u2.1 4224).toNatClampNeg) (u2.2.1 57 (u2.1 4224).toNatClampNeg) (u2.2.1 58 (u2.1 4224).toNatClampNeg) u2) (fun _ u3 => some (u3.1 4224, u3)))))))
def f_W_redo   (u : k_S) : Option (Int32 × k_S) :=
  if (u.1 3004) < (u.1 3005) then k_bind (f_Changes_afterAt (u.1 3004) u) (fun r2 u1 => k_bind (f_W_apply (u.1 3004) r2 u1) (fun _ u3 => k_let (k_wF u3 3004 ((u3.1 3004) + 1)) (fun u4 => some ((u4.1 3005) - (u4.1 3004), u4)))) else some ((-5), u)
def f_R_redo   (u : k_S) : Option (Int32 × k_S) :=
  if (u.1 4225) = 0 then some ((-5), u) else k_ck (u.1 4224) 40 (k_ck (u.1 4224) 40 (k_ck (u.1 4224) 40 (k_bind (f_R_lays (u.2.1 56 (u.1 4224).toNatClampNeg) (u.2.1 57 (u.1 4224).toNatClampNeg) (u.2.1 59 (u.1 4224).toNatClampNeg) u) (fun _ u1 => k_let (k_wF u1 4224 ((u1.1 4224) + 1)) (fun u2 => k_let (k_wF u2 4225 ((u2.1 4225) - 1)) (fun u3 => some (u3.1 4225, u3)))))))
def f_Bodies_add  (p1 : Int32) (u : k_S) : Option (Int32 × k_S) :=
  if (u.1 3502) < 0 then some ((-3), u) else if (u.1 3502) < 50 then k_ck (u.1 3502) 50 (k_let (k_wA u 36 (u.1 3502).toNatClampNeg (p1)) (fun u1 => k_let (k_wF u1 3502 ((u1.1 3502) + 1)) (fun u2 => some ((u2.1 3502) - 1, u2)))) else some ((-3), u)
def f_W_body  (p1 : Int32) (u : k_S) : Option (Int32 × k_S) :=
  if p1 < 0 then some ((-1), u) else if p1 < 8 then if (u.1 3502) < 50 then k_bind (f_Bodies_add p1 u) (fun r2 u1 => some (r2, u1)) else some ((-3), u) else some ((-1), u)
def f_R_body  (p1 : Int32) (u : k_S) : Option (Int32 × k_S) :=
  k_bind (f_R_in p1 0 7 u) (fun r2 u1 => if r2 = 0 then some ((-1), u1) else if (u1.1 4245) = 50 then some ((-3), u1) else k_ck (u1.1 4245) 50 (k_let (k_wA u1 70 (u1.1 4245).toNatClampNeg (p1)) (fun u3 => k_let (k_wF u3 4245 ((u3.1 4245) + 1)) (fun u4 => some ((u4.1 4245) - 1, u4)))))
def f_Bodies_forgetTrace   (u : k_S) : Option (Unit × k_S) :=
  k_let (k_wF u 3503 (0)) (fun u1 => some ((), u1))
def f_Bodies_has  (p1 : Int32) (u : k_S) : Option (Int32 × k_S) :=
  if p1 < 0 then some (0, u) else if (u.1 3502) ≤ p1 then some (0, u) else if 50 ≤ p1 then some (0, u) else some (1, u)
def f_Bodies_kindOf  (p1 : Int32) (u : k_S) : Option (Int32 × k_S) :=
  if p1 < 0 then some ((-1), u) else if 50 ≤ p1 then some ((-1), u) else k_ck (p1) 50 (some (u.2.1 36 (p1).toNatClampNeg, u))
def f_Bodies_bodyFor_J59  (v1 : Int32) (v2 : Int32) (v3 : Int32) (u : k_S) : Option (((Int32 × Int32) ⊕ (Int32 ⊕ Unit)) × k_S) :=
  k_ck (v2) 8 (k_let (k_t102 (v2).toNatClampNeg) (fun t2 => some (.inl (t2, v3 + Int32.ofInt 1), u)))
def f_Bodies_bodyFor_B4  (v1 : Int32) (v2 : Int32) (v3 : Int32) (u : k_S) : Option (((Int32 × Int32) ⊕ (Int32 ⊕ Unit)) × k_S) :=
  if 8 ≤ v3 then some (.inr (.inr ()), u) else if v2 < 0 then some (.inr (.inr ()), u) else if 8 ≤ v2 then some (.inr (.inr ()), u) else k_let ((4 * v2) + v1) (fun t1 => if t1 < 0 then f_Bodies_bodyFor_J59  v1 v2 v3 u else if 32 ≤ t1 then f_Bodies_bodyFor_J59  v1 v2 v3 u else k_ck (t1) 32 (if (k_t103 (t1).toNatClampNeg) = 0 then f_Bodies_bodyFor_J59  v1 v2 v3 u else k_ck (t1) 32 (some (.inr (.inl (k_t103 (t1).toNatClampNeg)), u))))
def f_Bodies_bodyFor  (p0 : Int32) (p1 : Int32) (u : k_S) : Option (Int32 × k_S) :=
  k_bind (k_itr (fun (x : (Int32 × Int32)) u => f_Bodies_bodyFor_B4  p1 x.1 x.2 u) k_FU (p0, 0) u) (fun y4 u3 => k_cs y4 (fun r5 => some (r5, u3)) (fun y4 => some (0, u3)))
def f_Bodies_call (rc : Int32 → Int32 → Int32 → k_S → Option (Int32 × k_S)) (p1 : Int32) (p2 : Int32) (p3 : Int32) (u : k_S) : Option (Int32 × k_S) :=
  k_bind (f_Bodies_kindOf (u.1 3504) u) (fun r2 u1 => k_bind (f_Bodies_bodyFor r2 p1 u1) (fun r4 u3 => k_bind (rc r4 p2 (p3 + 1) u3) (fun r6 u5 => some (r6, u5))))
def f_Bodies_above_J21 (rc : Int32 → Int32 → Int32 → k_S → Option (Int32 × k_S)) (v2 : Int32) (v3 : Int32) (v4 : Int32) (s0 : Int32) (u : k_S) : Option (Int32 × k_S) :=
  k_bind (f_Bodies_bodyFor s0 v2 u) (fun r2 u1 => k_bind (rc r2 v3 (v4 + 1) u1) (fun r4 u3 => some (r4, u3)))
def f_Bodies_above_J20 (rc : Int32 → Int32 → Int32 → k_S → Option (Int32 × k_S)) (v2 : Int32) (v3 : Int32) (v4 : Int32) (u : k_S) : Option (Int32 × k_S) :=
  f_Bodies_above_J21 rc v2 v3 v4 (-1) u
def f_Bodies_above (rc : Int32 → Int32 → Int32 → k_S → Option (Int32 × k_S)) (p1 : Int32) (p2 : Int32) (p3 : Int32) (p4 : Int32) (u : k_S) : Option (Int32 × k_S) :=
  if p1 < 0 then f_Bodies_above_J20 rc p2 p3 p4 u else if 8 ≤ p1 then f_Bodies_above_J20 rc p2 p3 p4 u else k_ck (p1) 8 (f_Bodies_above_J21 rc p2 p3 p4 (k_t102 (p1).toNatClampNeg) u)
def f_Bodies_run_J37 (rc : Int32 → Int32 → Int32 → k_S → Option (Int32 × k_S)) (v1 : Int32) (v2 : Int32) (v3 : Int32) (u : k_S) : Option (Int32 × k_S) :=
  k_let (k_wF u 3503 ((u.1 3503) + 1)) (fun u1 => if v1 = 1 then some (v2 + (u1.1 3504), u1) else if v1 = 2 then k_bind (f_Bodies_call rc 1 v2 v3 u1) (fun r3 u2 => k_bind (f_Bodies_call rc 2 1 v3 u2) (fun r5 u4 => some (r3 - r5, u4))) else if v1 = 10 then k_bind (f_Bodies_call rc 0 v2 v3 u1) (fun r7 u6 => some (r7 * 2, u6)) else if v1 = 11 then some (v2 ^^^ (u1.1 3504), u1) else if v1 = 20 then k_bind (f_Bodies_above rc 1 0 v2 v3 u1) (fun r9 u8 => some (r9 + 3, u8)) else if v1 = 30 then k_bind (f_Bodies_above rc 2 1 v2 v3 u1) (fun r11 u10 => some (-r11, u10)) else if v1 = 40 then k_bind (f_Bodies_above rc 3 2 v2 v3 u1) (fun r13 u12 => some (r13 * 3, u12)) else if v1 = 41 then k_bind (f_Bodies_above rc 3 1 (v2 + 1) v3 u1) (fun r15 u14 => some (r15, u14)) else if v1 = 50 then k_bind (f_Bodies_above rc 4 3 v2 v3 u1) (fun r17 u16 => some (r17 ^^^ 5, u16)) else if v1 = 60 then k_bind (f_Bodies_above rc 5 2 v2 v3 u1) (fun r19 u18 => k_bind (f_Bodies_call rc 0 2 v3 u18) (fun r21 u20 => some (r19 - r21, u20))) else if v1 = 61 then k_bind (f_Bodies_above rc 5 3 v2 v3 u1) (fun r23 u22 => some (r23 + 1, u22)) else if v1 = 70 then k_bind (f_Bodies_above rc 6 0 v2 v3 u1) (fun r25 u24 => some (r25 * 2, u24)) else if v1 = 80 then k_bind (f_Bodies_above rc 7 1 v2 v3 u1) (fun r27 u26 => k_bind (f_Bodies_call rc 2 2 v3 u26) (fun r29 u28 => some (r27 + r29, u28))) else if v1 = 81 then k_bind (f_Bodies_above rc 7 0 v2 v3 u1) (fun r31 u30 => some (r31 - 1, u30)) else some (0, u1))
def f_Bodies_run (rc : Int32 → Int32 → Int32 → k_S → Option (Int32 × k_S)) (p1 : Int32) (p2 : Int32) (p3 : Int32) (u : k_S) : Option (Int32 × k_S) :=
  if p3 ≤ 40 then if (u.1 3503) < 0 then f_Bodies_run_J37 rc p1 p2 p3 u else if 24 ≤ (u.1 3503) then f_Bodies_run_J37 rc p1 p2 p3 u else k_ck (u.1 3503) 24 (k_let (k_wA u 37 (u.1 3503).toNatClampNeg (p1)) (fun u32 => f_Bodies_run_J37 rc p1 p2 p3 u32)) else some (0, u)
def f_Bodies_run_rec : Nat → Int32 → Int32 → Int32 → k_S → Option (Int32 × k_S)
  | 0, _, _, _, _ => none
  | n + 1, a0, a1, a2, w => f_Bodies_run (f_Bodies_run_rec n) a0 a1 a2 w
def d_Bodies_run : Nat → Nat
  | 0 => 0
  | n + 1 => d_Bodies_run n + 3
def f_Bodies_perform  (p1 : Int32) (p2 : Int32) (p3 : Int32) (u : k_S) : Option (Int32 × k_S) :=
  k_let (k_wF u 3504 (p1)) (fun u1 => k_bind (f_Bodies_call (f_Bodies_run_rec 12) p2 p3 0 u1) (fun r3 u2 => some (r3, u2)))
def f_W_act  (p1 : Int32) (p2 : Int32) (p3 : Int32) (u : k_S) : Option (Int32 × k_S) :=
  k_bind (f_Bodies_forgetTrace  u) (fun _ u1 => k_bind (f_Bodies_has p1 u1) (fun r3 u2 => if r3 = 0 then some (0, u2) else if p2 < 0 then some (0, u2) else if p2 < 4 then k_bind (f_Bodies_perform p1 p2 p3 u2) (fun r5 u4 => some (r5, u4)) else some (0, u2)))
def f_R_isBody  (p1 : Int32) (u : k_S) : Option (Int32 × k_S) :=
  k_bind (f_R_in p1 0 ((u.1 4245) - 1) u) (fun r2 u1 => k_zb r2 (some (r2, u1)))
def f_R_ran_J19   (u : k_S) : Option (Unit × k_S) :=
  k_let (k_wF u 4247 ((u.1 4247) + 1)) (fun u1 => some ((), u1))
def f_R_ran  (p1 : Int32) (u : k_S) : Option (Unit × k_S) :=
  if 24 ≤ (u.1 4247) then f_R_ran_J19   u else k_ck (u.1 4247) 24 (k_let (k_wA u 71 (u.1 4247).toNatClampNeg (p1)) (fun u2 => f_R_ran_J19   u2))
def f_R_isUnder_J44  (v0 : Int32) (v1 : Int32) (u : k_S) : Option (Int32 × k_S) :=
  if v1 = 6 then if v0 = 7 then some (1, u) else some (0, u) else some (0, u)
def f_R_isUnder_J34  (v0 : Int32) (v1 : Int32) (u : k_S) : Option (Int32 × k_S) :=
  if v1 = 4 then if v0 = 5 then some (1, u) else f_R_isUnder_J44  v0 v1 u else f_R_isUnder_J44  v0 v1 u
def f_R_isUnder_J24  (v0 : Int32) (v1 : Int32) (u : k_S) : Option (Int32 × k_S) :=
  if v1 = 2 then if v0 = 3 then some (1, u) else f_R_isUnder_J34  v0 v1 u else f_R_isUnder_J34  v0 v1 u
def f_R_isUnder  (p0 : Int32) (p1 : Int32) (u : k_S) : Option (Int32 × k_S) :=
  if p1 = 0 then some (1, u) else if p0 = p1 then some (1, u) else if p1 = 1 then if p0 = 4 then some (1, u) else if p0 = 5 then some (1, u) else f_R_isUnder_J24  p0 p1 u else f_R_isUnder_J24  p0 p1 u
def f_R_plainTurns  (p1 : Int32) (p2 : Int32) (u : k_S) : Option (Int32 × k_S) :=
  k_bind (f_R_ran 1 u) (fun _ u1 => some (p2 + p1, u1))
def f_R_toldTurns  (p1 : Int32) (p2 : Int32) (u : k_S) : Option (Int32 × k_S) :=
  k_bind (f_R_ran 70 u) (fun _ u1 => k_bind (f_R_plainTurns p1 p2 u1) (fun r3 u2 => some (r3 * 2, u2)))
def f_R_turning  (p1 : Int32) (p2 : Int32) (u : k_S) : Option (Int32 × k_S) :=
  k_ck (p1) 50 (k_bind (f_R_isUnder (u.2.1 70 (p1).toNatClampNeg) 1 u) (fun r2 u1 => if r2 = 0 then k_ck (p1) 50 (if (u1.2.1 70 (p1).toNatClampNeg) = 7 then k_bind (f_R_ran 81 u1) (fun _ u7 => k_bind (f_R_toldTurns p1 p2 u7) (fun r9 u8 => some (r9 - 1, u8))) else k_ck (p1) 50 (if (u1.2.1 70 (p1).toNatClampNeg) = 6 then k_bind (f_R_toldTurns p1 p2 u1) (fun r6 u5 => some (r6, u5)) else k_bind (f_R_plainTurns p1 p2 u1) (fun r4 u3 => some (r4, u3)))) else k_bind (f_R_ran 20 u1) (fun _ u10 => k_bind (f_R_plainTurns p1 p2 u10) (fun r12 u11 => some (r12 + 3, u11)))))
def f_R_plainShows  (p1 : Int32) (p2 : Int32) (u : k_S) : Option (Int32 × k_S) :=
  k_bind (f_R_ran 10 u) (fun _ u1 => k_bind (f_R_turning p1 p2 u1) (fun r3 u2 => some (r3 * 2, u2)))
def f_R_skipShows  (p1 : Int32) (p2 : Int32) (u : k_S) : Option (Int32 × k_S) :=
  k_bind (f_R_ran 30 u) (fun _ u1 => k_bind (f_R_plainShows p1 p2 u1) (fun r3 u2 => some (-r3, u2)))
def f_R_plainWaits  (p1 : Int32) (p2 : Int32) (u : k_S) : Option (Int32 × k_S) :=
  k_bind (f_R_ran 11 u) (fun _ u1 => some (p2 ^^^ p1, u1))
def f_R_waiting  (p1 : Int32) (p2 : Int32) (u : k_S) : Option (Int32 × k_S) :=
  k_ck (p1) 50 (if (u.2.1 70 (p1).toNatClampNeg) = 3 then k_bind (f_R_ran 40 u) (fun _ u8 => k_bind (f_R_plainWaits p1 p2 u8) (fun r10 u9 => some (r10 * 3, u9))) else k_ck (p1) 50 (if (u.2.1 70 (p1).toNatClampNeg) = 5 then k_bind (f_R_ran 60 u) (fun _ u3 => k_bind (f_R_plainWaits p1 p2 u3) (fun r5 u4 => k_bind (f_R_turning p1 2 u4) (fun r7 u6 => some (r5 - r7, u6)))) else k_bind (f_R_plainWaits p1 p2 u) (fun r2 u1 => some (r2, u1))))
def f_R_showing  (p1 : Int32) (p2 : Int32) (u : k_S) : Option (Int32 × k_S) :=
  k_ck (p1) 50 (if (u.2.1 70 (p1).toNatClampNeg) = 3 then k_bind (f_R_ran 41 u) (fun _ u10 => k_bind (f_R_skipShows p1 (p2 + 1) u10) (fun r12 u11 => some (r12, u11))) else k_ck (p1) 50 (if (u.2.1 70 (p1).toNatClampNeg) = 7 then k_bind (f_R_ran 80 u) (fun _ u5 => k_bind (f_R_plainShows p1 p2 u5) (fun r7 u6 => k_bind (f_R_waiting p1 2 u6) (fun r9 u8 => some (r7 + r9, u8)))) else k_ck (p1) 50 (if (u.2.1 70 (p1).toNatClampNeg) = 2 then k_bind (f_R_skipShows p1 p2 u) (fun r4 u3 => some (r4, u3)) else k_bind (f_R_plainShows p1 p2 u) (fun r2 u1 => some (r2, u1)))))
def f_R_plainTells  (p1 : Int32) (p2 : Int32) (u : k_S) : Option (Int32 × k_S) :=
  k_bind (f_R_ran 2 u) (fun _ u1 => k_bind (f_R_showing p1 p2 u1) (fun r3 u2 => k_bind (f_R_waiting p1 1 u2) (fun r5 u4 => some (r3 - r5, u4))))
def f_R_frostTells  (p1 : Int32) (p2 : Int32) (u : k_S) : Option (Int32 × k_S) :=
  k_bind (f_R_ran 50 u) (fun _ u1 => k_bind (f_R_plainTells p1 p2 u1) (fun r3 u2 => some (r3 ^^^ 5, u2)))
def f_R_telling  (p1 : Int32) (p2 : Int32) (u : k_S) : Option (Int32 × k_S) :=
  k_ck (p1) 50 (if (u.2.1 70 (p1).toNatClampNeg) = 5 then k_bind (f_R_ran 61 u) (fun _ u5 => k_bind (f_R_frostTells p1 p2 u5) (fun r7 u6 => some (r7 + 1, u6))) else k_ck (p1) 50 (if (u.2.1 70 (p1).toNatClampNeg) = 4 then k_bind (f_R_frostTells p1 p2 u) (fun r4 u3 => some (r4, u3)) else k_bind (f_R_plainTells p1 p2 u) (fun r2 u1 => some (r2, u1))))
def f_R_act  (p1 : Int32) (p2 : Int32) (p3 : Int32) (u : k_S) : Option (Int32 × k_S) :=
  k_let (k_wF u 4247 (0)) (fun u1 => k_bind (f_R_isBody p1 u1) (fun r3 u2 => if r3 = 0 then some (0, u2) else k_bind (f_R_in p2 0 3 u2) (fun r5 u4 => if r5 = 0 then some (0, u4) else if p2 = 0 then k_bind (f_R_turning p1 p3 u4) (fun r13 u12 => some (r13, u12)) else if p2 = 1 then k_bind (f_R_showing p1 p3 u4) (fun r11 u10 => some (r11, u10)) else if p2 = 2 then k_bind (f_R_waiting p1 p3 u4) (fun r9 u8 => some (r9, u8)) else k_bind (f_R_telling p1 p3 u4) (fun r7 u6 => some (r7, u6)))))
def f_Bodies_tracedAt  (p1 : Int32) (u : k_S) : Option (Int32 × k_S) :=
  if p1 < 0 then some ((-1), u) else if 24 ≤ p1 then some ((-1), u) else k_ck (p1) 24 (some (u.2.1 37 (p1).toNatClampNeg, u))
def f_W_trace  (p1 : Int32) (u : k_S) : Option (Int32 × k_S) :=
  if p1 < 0 then some ((-1), u) else if (u.1 3503) ≤ p1 then some ((-1), u) else if p1 < 24 then k_bind (f_Bodies_tracedAt p1 u) (fun r2 u1 => some (r2, u1)) else some ((-1), u)
def f_R_trace  (p1 : Int32) (u : k_S) : Option (Int32 × k_S) :=
  if p1 < 0 then some ((-1), u) else if (u.1 4247) ≤ p1 then some ((-1), u) else if 24 ≤ p1 then some ((-1), u) else k_ck (p1) 24 (some (u.2.1 71 (p1).toNatClampNeg, u))
def f_Shelves_hold_B41  (v4 : Int32) (v5 : Int32) (u : k_S) : Option (((Int32) ⊕ Unit) × k_S) :=
  if 60 ≤ v5 then some (.inr (), u) else if 360 ≤ (v4 + v5) then some (.inr (), u) else k_ck (v4 + v5) 360 (k_let (k_wL u 41 (v4 + v5).toNatClampNeg (0)) (fun u6 => some (.inl (v5 + Int32.ofInt 1), u6)))
def f_Shelves_hold  (p1 : Int32) (p2 : Int32) (p3 : Int32) (u : k_S) : Option (Unit × k_S) :=
  k_bind (f_Shelves_has p1 u) (fun r2 u1 => if r2 = 0 then some ((), u1) else if p1 < 6 then k_ck (p1) 6 (k_let (k_wA u1 39 (p1).toNatClampNeg (p2)) (fun u3 => k_ck (p1) 6 (k_let (k_wA u3 40 (p1).toNatClampNeg (p3)) (fun u4 => k_let (60 * p1) (fun t5 => k_bind (k_itr (fun (x : (Int32)) u => f_Shelves_hold_B41  t5 x u) k_FU 0 u4) (fun y8 u7 => some ((), u7))))))) else some ((), u1))
def f_W_keep_J46  (v2 : Int32) (s1 : Int32) (s2 : Int32) (u : k_S) : Option (Int32 × k_S) :=
  k_bind (f_Shelves_hold s1 s2 v2 u) (fun _ u3 => some (1, u3))
def f_W_keep_J31  (v1 : Int32) (v2 : Int32) (u : k_S) : Option (Int32 × k_S) :=
  if v2 = (-1) then f_W_keep_J46  v2 v1 (-1) u else f_W_keep_J46  v2 v1 5 u
def f_W_keep  (p1 : Int32) (p2 : Int32) (u : k_S) : Option (Int32 × k_S) :=
  k_bind (f_Shelves_has p1 u) (fun r2 u1 => if r2 = 0 then some ((-1), u1) else if p2 = (-1) then f_W_keep_J31  p1 p2 u1 else k_bind (f_Bodies_has p2 u1) (fun r5 u4 => if r5 = 0 then some ((-1), u4) else f_W_keep_J31  p1 p2 u4))
def f_R_keep_J22  (v1 : Int32) (v2 : Int32) (u : k_S) : Option (Int32 × k_S) :=
  k_ck (v1) 6 (k_let (k_wA u 72 (v1).toNatClampNeg (v2)) (fun u3 => some (1, u3)))
def f_R_keep  (p1 : Int32) (p2 : Int32) (u : k_S) : Option (Int32 × k_S) :=
  k_bind (f_R_isShelf p1 u) (fun r2 u1 => if r2 = 0 then some ((-1), u1) else if p2 = (-1) then f_R_keep_J22  p1 p2 u1 else k_bind (f_R_isBody p2 u1) (fun r5 u4 => if r5 = 0 then some ((-1), u4) else f_R_keep_J22  p1 p2 u4))
def f_W_row  (p1 : Int32) (p2 : Int32) (p3 : Int32) (u : k_S) : Option (Int32 × k_S) :=
  k_bind (f_Shelves_has p1 u) (fun r2 u1 => if r2 = 0 then some ((-1), u1) else if p2 < 0 then some ((-1), u1) else if 5 ≤ p2 then some ((-1), u1) else if p3 ≤ 60 then if 0 ≤ p3 then k_bind (f_Shelves_hold p1 p2 p3 u1) (fun _ u3 => some (1, u3)) else some ((-14), u1) else some ((-1), u1))
def f_R_row_B54  (v1 : Int32) (v4 : Int32) (u : k_S) : Option (((Int32) ⊕ Unit) × k_S) :=
  if ((60 * v1) + 60) ≤ v4 then some (.inr (), u) else k_ck (v4) 360 (k_let (k_wL u 74 (v4).toNatClampNeg (0)) (fun u8 => some (.inl (v4 + Int32.ofInt 1), u8)))
def f_R_row  (p1 : Int32) (p2 : Int32) (p3 : Int32) (u : k_S) : Option (Int32 × k_S) :=
  k_bind (f_R_isShelf p1 u) (fun r2 u1 => if r2 = 0 then some ((-1), u1) else k_bind (f_R_in p2 0 4 u1) (fun r4 u3 => if r4 = 0 then some ((-1), u3) else if p3 ≤ 60 then if 0 ≤ p3 then k_ck (p1) 6 (k_let (k_wA u3 72 (p1).toNatClampNeg ((-2) - p2)) (fun u5 => k_ck (p1) 6 (k_let (k_wA u5 73 (p1).toNatClampNeg (p3)) (fun u6 => k_let (60 * p1) (fun t7 => k_bind (k_itr (fun (x : (Int32)) u => f_R_row_B54  p1 x u) k_FU t7 u6) (fun y10 u9 => some (1, u9))))))) else some ((-14), u3) else some ((-1), u3)))
def f_Shelves_refusalAt  (p1 : Int32) (p2 : Int32) (u : k_S) : Option (Int32 × k_S) :=
  k_bind (f_Shelves_heldBy p1 u) (fun r2 u1 => if r2 = (-1) then some ((-11), u1) else if r2 = 5 then some ((-12), u1) else if p2 < 0 then some ((-13), u1) else k_bind (f_Shelves_sizeOf p1 u1) (fun r4 u3 => if r4 ≤ p2 then some ((-13), u3) else some (0, u3)))
def f_Shelves_lowest  (p0 : Int32) (p1 : Int64) (u : k_S) : Option (Int64 × k_S) :=
  if p0 = 0 then some ((((p1).toInt32).toInt8.toInt32).toInt64, u) else if p0 = 1 then some ((((p1).toInt32).toInt16.toInt32).toInt64, u) else if p0 = 2 then some (((p1).toInt32).toInt64, u) else if p0 = 3 then some (p1, u) else if (lg_cmp p1 0) = 0 then some (0, u) else some (1, u)
def f_Shelves_write  (p1 : Int32) (p2 : Int32) (p3 : Int64) (u : k_S) : Option (Unit × k_S) :=
  k_let ((60 * p1) + p2) (fun t1 => if t1 < 0 then some ((), u) else if 360 ≤ t1 then some ((), u) else k_bind (f_Shelves_heldBy p1 u) (fun r3 u2 => k_bind (f_Shelves_lowest r3 p3 u2) (fun r5 u4 => k_ck (t1) 360 (k_let (k_wL u4 41 (t1).toNatClampNeg (r5)) (fun u6 => some ((), u6))))))
def f_W_put  (p1 : Int32) (p2 : Int32) (p3 : Int64) (u : k_S) : Option (Int32 × k_S) :=
  k_bind (f_Shelves_has p1 u) (fun r2 u1 => if r2 = 0 then some ((-1), u1) else k_bind (f_Shelves_refusalAt p1 p2 u1) (fun r4 u3 => if r4 = 0 then k_bind (f_Shelves_write p1 p2 p3 u3) (fun _ u5 => some (1, u5)) else some (r4, u3)))
def f_R_whyNoPlace  (p1 : Int32) (p2 : Int32) (u : k_S) : Option (Int32 × k_S) :=
  k_bind (f_R_isShelf p1 u) (fun r2 u1 => if r2 = 0 then some ((-1), u1) else k_ck (p1) 6 (if (u1.2.1 72 (p1).toNatClampNeg) = (-1) then some ((-11), u1) else k_ck (p1) 6 (if (u1.2.1 72 (p1).toNatClampNeg) < 0 then k_ck (p1) 6 (k_bind (f_R_in p2 0 ((u1.2.1 73 (p1).toNatClampNeg) - 1) u1) (fun r4 u3 => if r4 = 0 then some ((-13), u3) else some (0, u3))) else some ((-12), u1))))
def f_R_put  (p1 : Int32) (p2 : Int32) (p3 : Int64) (u : k_S) : Option (Int32 × k_S) :=
  k_bind (f_R_whyNoPlace p1 p2 u) (fun r2 u1 => if 0 ≤ r2 then k_ck (p1) 6 (k_let ((-2) - (u1.2.1 72 (p1).toNatClampNeg)) (fun t3 => if t3 = 0 then k_ck ((60 * p1) + p2) 360 (k_let (k_wL u1 74 ((60 * p1) + p2).toNatClampNeg ((((p3).toInt32).toInt8.toInt32).toInt64)) (fun u9 => some (1, u9))) else if t3 = 1 then k_ck ((60 * p1) + p2) 360 (k_let (k_wL u1 74 ((60 * p1) + p2).toNatClampNeg ((((p3).toInt32).toInt16.toInt32).toInt64)) (fun u8 => some (1, u8))) else if t3 = 2 then k_ck ((60 * p1) + p2) 360 (k_let (k_wL u1 74 ((60 * p1) + p2).toNatClampNeg (((p3).toInt32).toInt64)) (fun u7 => some (1, u7))) else if t3 = 3 then k_ck ((60 * p1) + p2) 360 (k_let (k_wL u1 74 ((60 * p1) + p2).toNatClampNeg (p3)) (fun u6 => some (1, u6))) else if (lg_cmp p3 0) = 0 then k_ck ((60 * p1) + p2) 360 (k_let (k_wL u1 74 ((60 * p1) + p2).toNatClampNeg (0)) (fun u4 => some (1, u4))) else k_ck ((60 * p1) + p2) 360 (k_let (k_wL u1 74 ((60 * p1) + p2).toNatClampNeg (1)) (fun u5 => some (1, u5))))) else some (r2, u1))
def f_W_element  (p1 : Int32) (p2 : Int32) (u : k_S) : Option (Int64 × k_S) :=
  k_bind (f_Shelves_has p1 u) (fun r2 u1 => if r2 = 0 then some ((-9223372036854775808), u1) else k_bind (f_Shelves_refusalAt p1 p2 u1) (fun r4 u3 => if r4 = 0 then k_bind (f_Shelves_valueAt p1 p2 u3) (fun r6 u5 => some (r6, u5)) else some ((-9223372036854775808), u3)))
def f_R_element  (p1 : Int32) (p2 : Int32) (u : k_S) : Option (Int64 × k_S) :=
  k_bind (f_R_whyNoPlace p1 p2 u) (fun r2 u1 => if 0 ≤ r2 then k_ck ((60 * p1) + p2) 360 (some (u1.2.2 74 ((60 * p1) + p2).toNatClampNeg, u1)) else some ((-9223372036854775808), u1))
def f_Shelves_hasPart  (p1 : Int32) (p2 : Int32) (p3 : Int32) (u : k_S) : Option (Int32 × k_S) :=
  if p2 < 0 then some (0, u) else if p3 < 0 then some (0, u) else k_bind (f_Shelves_sizeOf p1 u) (fun r2 u1 => if r2 < p2 then some (0, u1) else k_bind (f_Shelves_sizeOf p1 u1) (fun r4 u3 => if (r4 - p2) < p3 then some (0, u3) else some (1, u3)))
def f_Shelves_move_J40  (v1 : Int32) (v2 : Int32) (v3 : Int32) (v4 : Int32) (v5 : Int32) (v6 : Int32) (v7 : Int32) (s0 : Int32) (u : k_S) : Option (((Int32) ⊕ Unit) × k_S) :=
  k_bind (f_Shelves_valueAt v1 (v2 + s0) u) (fun r2 u1 => k_bind (f_Shelves_write v3 (v4 + s0) r2 u1) (fun _ u3 => some (.inl (v7 + Int32.ofInt 1), u3)))
def f_Shelves_move_B16  (v1 : Int32) (v2 : Int32) (v3 : Int32) (v4 : Int32) (v5 : Int32) (v6 : Int32) (v7 : Int32) (u : k_S) : Option (((Int32) ⊕ Unit) × k_S) :=
  if v5 ≤ v7 then some (.inr (), u) else if v6 = 0 then f_Shelves_move_J40  v1 v2 v3 v4 v5 v6 v7 v7 u else f_Shelves_move_J40  v1 v2 v3 v4 v5 v6 v7 ((v5 - 1) - v7) u
def f_Shelves_move_J11  (v1 : Int32) (v2 : Int32) (v3 : Int32) (v4 : Int32) (v5 : Int32) (s0 : Int32) (u : k_S) : Option (Unit × k_S) :=
  k_bind (k_itr (fun (x : (Int32)) u => f_Shelves_move_B16  v1 v2 v3 v4 v5 s0 x u) k_FU 0 u) (fun y5 u4 => some ((), u4))
def f_Shelves_move  (p1 : Int32) (p2 : Int32) (p3 : Int32) (p4 : Int32) (p5 : Int32) (u : k_S) : Option (Unit × k_S) :=
  if p4 ≤ p2 then f_Shelves_move_J11  p1 p2 p3 p4 p5 0 u else f_Shelves_move_J11  p1 p2 p3 p4 p5 1 u
def f_W_shift  (p1 : Int32) (p2 : Int32) (p3 : Int32) (p4 : Int32) (p5 : Int32) (u : k_S) : Option (Int32 × k_S) :=
  k_bind (f_Shelves_has p1 u) (fun r2 u1 => if r2 = 0 then some ((-1), u1) else k_bind (f_Shelves_has p3 u1) (fun r4 u3 => if r4 = 0 then some ((-1), u3) else k_bind (f_Shelves_heldBy p1 u3) (fun r6 u5 => k_bind (f_Shelves_heldBy p3 u5) (fun r8 u7 => if r6 = (-1) then some ((-11), u7) else if r8 = (-1) then some ((-11), u7) else if r6 = 5 then some ((-12), u7) else if r6 = r8 then k_bind (f_Shelves_hasPart p1 p2 p5 u7) (fun r10 u9 => if r10 = 0 then some ((-13), u9) else k_bind (f_Shelves_hasPart p3 p4 p5 u9) (fun r12 u11 => if r12 = 0 then some ((-13), u11) else k_bind (f_Shelves_move p1 p2 p3 p4 p5 u11) (fun _ u13 => some (p5, u13)))) else some ((-12), u7)))))
def f_R_shift_B113  (v1 : Int32) (v2 : Int32) (v3 : Int32) (v4 : Int32) (v5 : Int32) (v6 : Int32) (u : k_S) : Option (((Int32) ⊕ Unit) × k_S) :=
  if v5 ≤ v6 then some (.inr (), u) else k_ck (((60 * v1) + v2) + v6) 360 (k_ck (v6) 60 (k_let (k_wL u 75 (v6).toNatClampNeg (u.2.2 74 (((60 * v1) + v2) + v6).toNatClampNeg)) (fun u5 => some (.inl (v6 + Int32.ofInt 1), u5))))
def f_R_shift_B150  (v3 : Int32) (v4 : Int32) (v5 : Int32) (v6 : Int32) (u : k_S) : Option (((Int32) ⊕ Unit) × k_S) :=
  if v5 ≤ v6 then some (.inr (), u) else k_ck (v6) 60 (k_ck (((60 * v3) + v4) + v6) 360 (k_let (k_wL u 74 (((60 * v3) + v4) + v6).toNatClampNeg (u.2.2 75 (v6).toNatClampNeg)) (fun u8 => some (.inl (v6 + Int32.ofInt 1), u8))))
def f_R_shift  (p1 : Int32) (p2 : Int32) (p3 : Int32) (p4 : Int32) (p5 : Int32) (u : k_S) : Option (Int32 × k_S) :=
  k_bind (f_R_isShelf p1 u) (fun r2 u1 => if r2 = 0 then some ((-1), u1) else k_bind (f_R_isShelf p3 u1) (fun r4 u3 => if r4 = 0 then some ((-1), u3) else k_ck (p1) 6 (if (u3.2.1 72 (p1).toNatClampNeg) = (-1) then some ((-11), u3) else k_ck (p3) 6 (if (u3.2.1 72 (p3).toNatClampNeg) = (-1) then some ((-11), u3) else k_ck (p1) 6 (if 0 ≤ (u3.2.1 72 (p1).toNatClampNeg) then some ((-12), u3) else k_ck (p1) 6 (k_ck (p3) 6 (if (u3.2.1 72 (p1).toNatClampNeg) = (u3.2.1 72 (p3).toNatClampNeg) then if p5 < 0 then some ((-13), u3) else if p2 < 0 then some ((-13), u3) else if p4 < 0 then some ((-13), u3) else k_ck (p1) 6 (if ((u3.2.1 73 (p1).toNatClampNeg) - p5) < p2 then some ((-13), u3) else k_ck (p3) 6 (if p4 ≤ ((u3.2.1 73 (p3).toNatClampNeg) - p5) then k_bind (k_itr (fun (x : (Int32)) u => f_R_shift_B113  p1 p2 p3 p4 p5 x u) k_FU 0 u3) (fun y7 u6 => k_bind (k_itr (fun (x : (Int32)) u => f_R_shift_B150  p3 p4 p5 x u) k_FU 0 u6) (fun y10 u9 => some (p5, u9))) else some ((-13), u3))) else some ((-12), u3))))))))
def f_Bodies_isUnder_B5  (v2 : Int32) (v3 : Int32) (v4 : Int32) (u : k_S) : Option (((Int32 × Int32) ⊕ (Int32 ⊕ Unit)) × k_S) :=
  if 8 ≤ v4 then some (.inr (.inr ()), u) else if v3 < 0 then some (.inr (.inr ()), u) else if 8 ≤ v3 then some (.inr (.inr ()), u) else if v3 = v2 then some (.inr (.inl 1), u) else k_ck (v3) 8 (k_let (k_t102 (v3).toNatClampNeg) (fun t1 => some (.inl (t1, v4 + Int32.ofInt 1), u)))
def f_Bodies_isUnder  (p1 : Int32) (p2 : Int32) (u : k_S) : Option (Int32 × k_S) :=
  k_bind (k_itr (fun (x : (Int32 × Int32)) u => f_Bodies_isUnder_B5  p2 x.1 x.2 u) k_FU (p1, 0) u) (fun y3 u2 => k_cs y3 (fun r4 => some (r4, u2)) (fun y3 => some (0, u2)))
def f_W_taken  (p1 : Int32) (p2 : Int32) (u : k_S) : Option (Int32 × k_S) :=
  k_bind (f_Shelves_has p1 u) (fun r2 u1 => if r2 = 0 then some ((-1), u1) else if p2 < 0 then some ((-1), u1) else if p2 < 8 then k_bind (f_Shelves_heldBy p1 u1) (fun r4 u3 => if r4 = (-1) then some ((-11), u3) else if r4 = 5 then k_bind (f_Shelves_sizeOf p1 u3) (fun r6 u5 => k_bind (f_Bodies_kindOf r6 u5) (fun r8 u7 => k_bind (f_Bodies_isUnder r8 p2 u7) (fun r10 u9 => if r10 = 0 then some ((-12), u9) else some (r8, u9)))) else some ((-12), u3)) else some ((-1), u1))
def f_R_taken  (p1 : Int32) (p2 : Int32) (u : k_S) : Option (Int32 × k_S) :=
  k_bind (f_R_isShelf p1 u) (fun r2 u1 => if r2 = 0 then some ((-1), u1) else k_bind (f_R_in p2 0 7 u1) (fun r4 u3 => if r4 = 0 then some ((-1), u3) else k_ck (p1) 6 (if (u3.2.1 72 (p1).toNatClampNeg) = (-1) then some ((-11), u3) else k_ck (p1) 6 (if (u3.2.1 72 (p1).toNatClampNeg) < 0 then some ((-12), u3) else k_ck (p1) 6 (k_ck (u3.2.1 72 (p1).toNatClampNeg) 50 (k_bind (f_R_isUnder (u3.2.1 70 (u3.2.1 72 (p1).toNatClampNeg).toNatClampNeg) p2 u3) (fun r6 u5 => if r6 = 0 then some ((-12), u5) else k_ck (p1) 6 (k_ck (u5.2.1 72 (p1).toNatClampNeg) 50 (some (u5.2.1 70 (u5.2.1 72 (p1).toNatClampNeg).toNatClampNeg, u5))))))))))
def f_W_count  (p1 : Int32) (u : k_S) : Option (Int32 × k_S) :=
  if p1 = 0 then some (u.1 303, u) else if p1 = 1 then some (u.1 1402, u) else if p1 = 2 then some (u.1 2003, u) else if p1 = 3 then some (u.1 101, u) else if p1 = 4 then some (u.1 3004, u) else if p1 = 5 then some (u.1 3502, u) else if p1 = 6 then some (u.1 3503, u) else some ((-1), u)
def f_R_count  (p1 : Int32) (u : k_S) : Option (Int32 × k_S) :=
  if p1 = 0 then some (u.1 4203, u) else if p1 = 1 then some (u.1 4209, u) else if p1 = 2 then some (u.1 4235, u) else if p1 = 3 then some (u.1 4202, u) else if p1 = 4 then some (u.1 4224, u) else if p1 = 5 then some (u.1 4245, u) else if p1 = 6 then some (u.1 4247, u) else some ((-1), u)
def f_law_B18 (sl : Nat) (sx : Nat → Int32) (v3 : Int32) (u : k_S) : Option (((Int32) ⊕ (Int32 ⊕ Unit)) × k_S) :=
  if ((Int32.ofNat sl) - 6) < v3 then some (.inr (.inr ()), u) else k_ck (v3) sl (if ((sx (v3).toNatClampNeg) &&& 63) = 0 then k_ck (v3 + 1) sl (k_bind (f_W_feed (sx (v3 + 1).toNatClampNeg) u) (fun r2 u1 => k_ck (v3 + 1) sl (k_bind (f_R_feed (sx (v3 + 1).toNatClampNeg) u1) (fun r4 u3 => some (.inl (v3 + Int32.ofInt 6), u3))))) else if ((sx (v3).toNatClampNeg) &&& 63) = 1 then k_bind (f_W_wheel  u) (fun r6 u5 => k_bind (f_R_wheel  u5) (fun r8 u7 => some (.inl (v3 + Int32.ofInt 6), u7))) else if ((sx (v3).toNatClampNeg) &&& 63) = 2 then k_bind (f_W_law  u) (fun r10 u9 => k_bind (f_R_law  u9) (fun r12 u11 => some (.inl (v3 + Int32.ofInt 6), u11))) else if ((sx (v3).toNatClampNeg) &&& 63) = 3 then k_ck (v3 + 1) sl (k_ck (v3 + 2) sl (k_bind (f_W_set (sx (v3 + 1).toNatClampNeg) (sx (v3 + 2).toNatClampNeg) u) (fun r14 u13 => k_ck (v3 + 1) sl (k_ck (v3 + 2) sl (k_bind (f_R_set (sx (v3 + 1).toNatClampNeg) (sx (v3 + 2).toNatClampNeg) u13) (fun r16 u15 => some (.inl (v3 + Int32.ofInt 6), u15))))))) else if ((sx (v3).toNatClampNeg) &&& 63) = 4 then k_ck (v3 + 1) sl (k_ck (v3 + 2) sl (k_bind (f_W_broke (sx (v3 + 1).toNatClampNeg) (sx (v3 + 2).toNatClampNeg) u) (fun r18 u17 => k_ck (v3 + 1) sl (k_ck (v3 + 2) sl (k_bind (f_R_broke (sx (v3 + 1).toNatClampNeg) (sx (v3 + 2).toNatClampNeg) u17) (fun r20 u19 => some (.inl (v3 + Int32.ofInt 6), u19))))))) else if ((sx (v3).toNatClampNeg) &&& 63) = 5 then k_ck (v3 + 1) sl (k_ck (v3 + 2) sl (k_ck (v3 + 3) sl (k_bind (f_W_tooth (sx (v3 + 1).toNatClampNeg) (sx (v3 + 2).toNatClampNeg) (sx (v3 + 3).toNatClampNeg) u) (fun r22 u21 => k_ck (v3 + 1) sl (k_ck (v3 + 2) sl (k_ck (v3 + 3) sl (k_bind (f_R_tooth (sx (v3 + 1).toNatClampNeg) (sx (v3 + 2).toNatClampNeg) (sx (v3 + 3).toNatClampNeg) u21) (fun r24 u23 => some (.inl (v3 + Int32.ofInt 6), u23))))))))) else if ((sx (v3).toNatClampNeg) &&& 63) = 6 then k_ck (v3 + 1) sl (k_ck (v3 + 2) sl (k_bind (f_W_of (sx (v3 + 1).toNatClampNeg) (sx (v3 + 2).toNatClampNeg) u) (fun r26 u25 => k_ck (v3 + 1) sl (k_ck (v3 + 2) sl (k_bind (f_R_of (sx (v3 + 1).toNatClampNeg) (sx (v3 + 2).toNatClampNeg) u25) (fun r28 u27 => some (.inl (v3 + Int32.ofInt 6), u27))))))) else if ((sx (v3).toNatClampNeg) &&& 63) = 7 then k_ck (v3 + 1) sl (k_bind (f_W_on (sx (v3 + 1).toNatClampNeg) u) (fun r30 u29 => k_ck (v3 + 1) sl (k_bind (f_R_on (sx (v3 + 1).toNatClampNeg) u29) (fun r32 u31 => some (.inl (v3 + Int32.ofInt 6), u31))))) else if ((sx (v3).toNatClampNeg) &&& 63) = 8 then k_ck (v3 + 1) sl (k_ck (v3 + 2) sl (k_bind (f_W_lay (sx (v3 + 1).toNatClampNeg) (sx (v3 + 2).toNatClampNeg) u) (fun r34 u33 => k_ck (v3 + 1) sl (k_ck (v3 + 2) sl (k_bind (f_R_lay (sx (v3 + 1).toNatClampNeg) (sx (v3 + 2).toNatClampNeg) u33) (fun r36 u35 => some (.inl (v3 + Int32.ofInt 6), u35))))))) else if ((sx (v3).toNatClampNeg) &&& 63) = 9 then k_ck (v3 + 1) sl (k_ck (v3 + 2) sl (k_bind (f_W_shows (sx (v3 + 1).toNatClampNeg) (sx (v3 + 2).toNatClampNeg) u) (fun r38 u37 => k_ck (v3 + 1) sl (k_ck (v3 + 2) sl (k_bind (f_R_shows (sx (v3 + 1).toNatClampNeg) (sx (v3 + 2).toNatClampNeg) u37) (fun r40 u39 => some (.inl (v3 + Int32.ofInt 6), u39))))))) else if ((sx (v3).toNatClampNeg) &&& 63) = 10 then k_bind (f_W_day  u) (fun r42 u41 => k_bind (f_R_day  u41) (fun r44 u43 => some (.inl (v3 + Int32.ofInt 6), u43))) else if ((sx (v3).toNatClampNeg) &&& 63) = 11 then k_ck (v3 + 1) sl (k_ck (v3 + 2) sl (k_bind (f_W_often (sx (v3 + 1).toNatClampNeg) (sx (v3 + 2).toNatClampNeg) u) (fun r46 u45 => k_ck (v3 + 1) sl (k_ck (v3 + 2) sl (k_bind (f_R_often (sx (v3 + 1).toNatClampNeg) (sx (v3 + 2).toNatClampNeg) u45) (fun r48 u47 => some (.inl (v3 + Int32.ofInt 6), u47))))))) else if ((sx (v3).toNatClampNeg) &&& 63) = 12 then k_ck (v3 + 1) sl (k_ck (v3 + 2) sl (k_bind (f_W_never (sx (v3 + 1).toNatClampNeg) (sx (v3 + 2).toNatClampNeg) u) (fun r50 u49 => k_ck (v3 + 1) sl (k_ck (v3 + 2) sl (k_bind (f_R_never (sx (v3 + 1).toNatClampNeg) (sx (v3 + 2).toNatClampNeg) u49) (fun r52 u51 => some (.inl (v3 + Int32.ofInt 6), u51))))))) else if ((sx (v3).toNatClampNeg) &&& 63) = 13 then k_ck (v3 + 1) sl (k_ck (v3 + 2) sl (k_ck (v3 + 3) sl (k_bind (f_W_meets (sx (v3 + 1).toNatClampNeg) (sx (v3 + 2).toNatClampNeg) (sx (v3 + 3).toNatClampNeg) u) (fun r54 u53 => k_ck (v3 + 1) sl (k_ck (v3 + 2) sl (k_ck (v3 + 3) sl (k_bind (f_R_meets (sx (v3 + 1).toNatClampNeg) (sx (v3 + 2).toNatClampNeg) (sx (v3 + 3).toNatClampNeg) u53) (fun r56 u55 => some (.inl (v3 + Int32.ofInt 6), u55))))))))) else if ((sx (v3).toNatClampNeg) &&& 63) = 14 then k_ck (v3 + 1) sl (k_ck (v3 + 2) sl (k_ck (v3 + 3) sl (k_bind (f_W_two (sx (v3 + 1).toNatClampNeg) (sx (v3 + 2).toNatClampNeg) (sx (v3 + 3).toNatClampNeg) u) (fun r58 u57 => k_ck (v3 + 1) sl (k_ck (v3 + 2) sl (k_ck (v3 + 3) sl (k_bind (f_R_two (sx (v3 + 1).toNatClampNeg) (sx (v3 + 2).toNatClampNeg) (sx (v3 + 3).toNatClampNeg) u57) (fun r60 u59 => some (.inl (v3 + Int32.ofInt 6), u59))))))))) else if ((sx (v3).toNatClampNeg) &&& 63) = 15 then k_ck (v3 + 1) sl (k_bind (f_W_round (sx (v3 + 1).toNatClampNeg) u) (fun r62 u61 => k_ck (v3 + 1) sl (k_bind (f_R_round (sx (v3 + 1).toNatClampNeg) u61) (fun r64 u63 => some (.inl (v3 + Int32.ofInt 6), u63))))) else if ((sx (v3).toNatClampNeg) &&& 63) = 16 then k_ck (v3 + 1) sl (k_bind (f_W_truth (sx (v3 + 1).toNatClampNeg) u) (fun r66 u65 => k_ck (v3 + 1) sl (k_bind (f_R_truth (sx (v3 + 1).toNatClampNeg) u65) (fun r68 u67 => some (.inl (v3 + Int32.ofInt 6), u67))))) else if ((sx (v3).toNatClampNeg) &&& 63) = 17 then k_ck (v3 + 1) sl (k_ck (v3 + 2) sl (k_bind (f_W_near (sx (v3 + 1).toNatClampNeg) (sx (v3 + 2).toNatClampNeg) u) (fun r70 u69 => k_ck (v3 + 1) sl (k_ck (v3 + 2) sl (k_bind (f_R_near (sx (v3 + 1).toNatClampNeg) (sx (v3 + 2).toNatClampNeg) u69) (fun r72 u71 => some (.inl (v3 + Int32.ofInt 6), u71))))))) else if ((sx (v3).toNatClampNeg) &&& 63) = 18 then k_ck (v3 + 1) sl (k_ck (v3 + 2) sl (k_bind (f_W_record (sx (v3 + 1).toNatClampNeg) (sx (v3 + 2).toNatClampNeg) u) (fun r74 u73 => k_ck (v3 + 1) sl (k_ck (v3 + 2) sl (k_bind (f_R_record (sx (v3 + 1).toNatClampNeg) (sx (v3 + 2).toNatClampNeg) u73) (fun r76 u75 => some (.inl (v3 + Int32.ofInt 6), u75))))))) else if ((sx (v3).toNatClampNeg) &&& 63) = 19 then k_ck (v3 + 1) sl (k_ck (v3 + 2) sl (k_ck (v3 + 3) sl (k_bind (f_W_records (sx (v3 + 1).toNatClampNeg) (sx (v3 + 2).toNatClampNeg) (sx (v3 + 3).toNatClampNeg) u) (fun r78 u77 => k_ck (v3 + 1) sl (k_ck (v3 + 2) sl (k_ck (v3 + 3) sl (k_bind (f_R_records (sx (v3 + 1).toNatClampNeg) (sx (v3 + 2).toNatClampNeg) (sx (v3 + 3).toNatClampNeg) u77) (fun r80 u79 => some (.inl (v3 + Int32.ofInt 6), u79))))))))) else if ((sx (v3).toNatClampNeg) &&& 63) = 20 then k_bind (f_W_clear  u) (fun r82 u81 => k_bind (f_R_clear  u81) (fun r84 u83 => some (.inl (v3 + Int32.ofInt 6), u83))) else if ((sx (v3).toNatClampNeg) &&& 63) = 21 then k_bind (f_W_judge  u) (fun r86 u85 => k_bind (f_R_judge  u85) (fun r88 u87 => some (.inl (v3 + Int32.ofInt 6), u87))) else if ((sx (v3).toNatClampNeg) &&& 63) = 22 then k_ck (v3 + 1) sl (k_bind (f_W_fits (sx (v3 + 1).toNatClampNeg) u) (fun r90 u89 => k_ck (v3 + 1) sl (k_bind (f_R_fits (sx (v3 + 1).toNatClampNeg) u89) (fun r92 u91 => some (.inl (v3 + Int32.ofInt 6), u91))))) else if ((sx (v3).toNatClampNeg) &&& 63) = 23 then k_ck (v3 + 1) sl (k_bind (f_W_sure (sx (v3 + 1).toNatClampNeg) u) (fun r94 u93 => k_ck (v3 + 1) sl (k_bind (f_R_sure (sx (v3 + 1).toNatClampNeg) u93) (fun r96 u95 => some (.inl (v3 + Int32.ofInt 6), u95))))) else if ((sx (v3).toNatClampNeg) &&& 63) = 24 then k_ck (v3 + 1) sl (k_bind (f_W_when (sx (v3 + 1).toNatClampNeg) u) (fun r98 u97 => k_ck (v3 + 1) sl (k_bind (f_R_when (sx (v3 + 1).toNatClampNeg) u97) (fun r100 u99 => some (.inl (v3 + Int32.ofInt 6), u99))))) else if ((sx (v3).toNatClampNeg) &&& 63) = 25 then k_ck (v3 + 1) sl (k_bind (f_W_watch (sx (v3 + 1).toNatClampNeg) u) (fun r102 u101 => k_ck (v3 + 1) sl (k_bind (f_R_watch (sx (v3 + 1).toNatClampNeg) u101) (fun r104 u103 => some (.inl (v3 + Int32.ofInt 6), u103))))) else if ((sx (v3).toNatClampNeg) &&& 63) = 26 then k_bind (f_W_image  u) (fun r106 u105 => k_bind (f_R_image  u105) (fun r108 u107 => some (.inl (v3 + Int32.ofInt 6), u107))) else if ((sx (v3).toNatClampNeg) &&& 63) = 27 then k_bind (f_W_back  u) (fun r110 u109 => k_bind (f_R_back  u109) (fun r112 u111 => some (.inl (v3 + Int32.ofInt 6), u111))) else if ((sx (v3).toNatClampNeg) &&& 63) = 28 then k_bind (f_W_undo  u) (fun r114 u113 => k_bind (f_R_undo  u113) (fun r116 u115 => some (.inl (v3 + Int32.ofInt 6), u115))) else if ((sx (v3).toNatClampNeg) &&& 63) = 29 then k_bind (f_W_redo  u) (fun r118 u117 => k_bind (f_R_redo  u117) (fun r120 u119 => some (.inl (v3 + Int32.ofInt 6), u119))) else if ((sx (v3).toNatClampNeg) &&& 63) = 30 then k_ck (v3 + 1) sl (k_bind (f_W_body (sx (v3 + 1).toNatClampNeg) u) (fun r122 u121 => k_ck (v3 + 1) sl (k_bind (f_R_body (sx (v3 + 1).toNatClampNeg) u121) (fun r124 u123 => some (.inl (v3 + Int32.ofInt 6), u123))))) else if ((sx (v3).toNatClampNeg) &&& 63) = 31 then k_ck (v3 + 1) sl (k_ck (v3 + 2) sl (k_ck (v3 + 3) sl (k_bind (f_W_act (sx (v3 + 1).toNatClampNeg) (sx (v3 + 2).toNatClampNeg) (sx (v3 + 3).toNatClampNeg) u) (fun r126 u125 => k_ck (v3 + 1) sl (k_ck (v3 + 2) sl (k_ck (v3 + 3) sl (k_bind (f_R_act (sx (v3 + 1).toNatClampNeg) (sx (v3 + 2).toNatClampNeg) (sx (v3 + 3).toNatClampNeg) u125) (fun r128 u127 => some (.inl (v3 + Int32.ofInt 6), u127))))))))) else if ((sx (v3).toNatClampNeg) &&& 63) = 32 then k_ck (v3 + 1) sl (k_bind (f_W_trace (sx (v3 + 1).toNatClampNeg) u) (fun r130 u129 => k_ck (v3 + 1) sl (k_bind (f_R_trace (sx (v3 + 1).toNatClampNeg) u129) (fun r132 u131 => some (.inl (v3 + Int32.ofInt 6), u131))))) else if ((sx (v3).toNatClampNeg) &&& 63) = 33 then k_ck (v3 + 1) sl (k_ck (v3 + 2) sl (k_bind (f_W_keep (sx (v3 + 1).toNatClampNeg) (sx (v3 + 2).toNatClampNeg) u) (fun r134 u133 => k_ck (v3 + 1) sl (k_ck (v3 + 2) sl (k_bind (f_R_keep (sx (v3 + 1).toNatClampNeg) (sx (v3 + 2).toNatClampNeg) u133) (fun r136 u135 => some (.inl (v3 + Int32.ofInt 6), u135))))))) else if ((sx (v3).toNatClampNeg) &&& 63) = 34 then k_ck (v3 + 1) sl (k_ck (v3 + 2) sl (k_ck (v3 + 3) sl (k_bind (f_W_row (sx (v3 + 1).toNatClampNeg) (sx (v3 + 2).toNatClampNeg) (sx (v3 + 3).toNatClampNeg) u) (fun r138 u137 => k_ck (v3 + 1) sl (k_ck (v3 + 2) sl (k_ck (v3 + 3) sl (k_bind (f_R_row (sx (v3 + 1).toNatClampNeg) (sx (v3 + 2).toNatClampNeg) (sx (v3 + 3).toNatClampNeg) u137) (fun r140 u139 => some (.inl (v3 + Int32.ofInt 6), u139))))))))) else if ((sx (v3).toNatClampNeg) &&& 63) = 35 then k_ck (v3 + 1) sl (k_ck (v3 + 2) sl (k_ck (v3 + 3) sl (k_ck (v3 + 4) sl (k_bind (f_W_put (sx (v3 + 1).toNatClampNeg) (sx (v3 + 2).toNatClampNeg) ((((sx (v3 + 3).toNatClampNeg).toInt64) <<< ((32 : Int32).toInt64 &&& 63)) ||| (((sx (v3 + 4).toNatClampNeg).toInt64) &&& 4294967295)) u) (fun r142 u141 => k_ck (v3 + 1) sl (k_ck (v3 + 2) sl (k_ck (v3 + 3) sl (k_ck (v3 + 4) sl (k_bind (f_R_put (sx (v3 + 1).toNatClampNeg) (sx (v3 + 2).toNatClampNeg) ((((sx (v3 + 3).toNatClampNeg).toInt64) <<< ((32 : Int32).toInt64 &&& 63)) ||| (((sx (v3 + 4).toNatClampNeg).toInt64) &&& 4294967295)) u141) (fun r144 u143 => some (.inl (v3 + Int32.ofInt 6), u143))))))))))) else if ((sx (v3).toNatClampNeg) &&& 63) = 36 then k_ck (v3 + 1) sl (k_ck (v3 + 2) sl (k_bind (f_W_element (sx (v3 + 1).toNatClampNeg) (sx (v3 + 2).toNatClampNeg) u) (fun r146 u145 => k_ck (v3 + 1) sl (k_ck (v3 + 2) sl (k_bind (f_R_element (sx (v3 + 1).toNatClampNeg) (sx (v3 + 2).toNatClampNeg) u145) (fun r148 u147 => some (.inl (v3 + Int32.ofInt 6), u147))))))) else if ((sx (v3).toNatClampNeg) &&& 63) = 37 then k_ck (v3 + 1) sl (k_ck (v3 + 2) sl (k_ck (v3 + 3) sl (k_ck (v3 + 4) sl (k_ck (v3 + 5) sl (k_bind (f_W_shift (sx (v3 + 1).toNatClampNeg) (sx (v3 + 2).toNatClampNeg) (sx (v3 + 3).toNatClampNeg) (sx (v3 + 4).toNatClampNeg) (sx (v3 + 5).toNatClampNeg) u) (fun r150 u149 => k_ck (v3 + 1) sl (k_ck (v3 + 2) sl (k_ck (v3 + 3) sl (k_ck (v3 + 4) sl (k_ck (v3 + 5) sl (k_bind (f_R_shift (sx (v3 + 1).toNatClampNeg) (sx (v3 + 2).toNatClampNeg) (sx (v3 + 3).toNatClampNeg) (sx (v3 + 4).toNatClampNeg) (sx (v3 + 5).toNatClampNeg) u149) (fun r152 u151 => some (.inl (v3 + Int32.ofInt 6), u151))))))))))))) else if ((sx (v3).toNatClampNeg) &&& 63) = 38 then k_ck (v3 + 1) sl (k_ck (v3 + 2) sl (k_bind (f_W_taken (sx (v3 + 1).toNatClampNeg) (sx (v3 + 2).toNatClampNeg) u) (fun r154 u153 => k_ck (v3 + 1) sl (k_ck (v3 + 2) sl (k_bind (f_R_taken (sx (v3 + 1).toNatClampNeg) (sx (v3 + 2).toNatClampNeg) u153) (fun r156 u155 => some (.inl (v3 + Int32.ofInt 6), u155))))))) else if ((sx (v3).toNatClampNeg) &&& 63) = 39 then k_ck (v3 + 1) sl (k_bind (f_W_count (sx (v3 + 1).toNatClampNeg) u) (fun r158 u157 => k_ck (v3 + 1) sl (k_bind (f_R_count (sx (v3 + 1).toNatClampNeg) u157) (fun r160 u159 => if r158 = r160 then some (.inl (v3 + Int32.ofInt 6), u159) else some (.inr (.inl 0), u159))))) else some (.inl (v3 + Int32.ofInt 6), u))
