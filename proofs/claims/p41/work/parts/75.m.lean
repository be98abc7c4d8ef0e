/-! shift -/
def z_shf (g : Nat → Int64) (src dst lo hi : Nat) (x : Nat) : Int64 := if dst + lo ≤ x ∧ x < dst + hi then g (src + (x - dst)) else g x
theorem z_hasP1 {s z p n : Nat} {u : k_S} (hs : s < 6) (hz : z ≤ 60) (e40 : u.2.1 40 s = J z) (h : p + n ≤ z) : f_Shelves_hasPart (J s) (J p) (J n) u = some (1, u) := by
  unfold f_Shelves_hasPart
  rw [if_neg (by (try simp (disch := omega) only [Int32.lt_iff_toInt_lt, Int32.le_iff_toInt_le, ← Int32.toInt_inj, Int32.toInt_add, Int32.toInt_sub, Int32.toInt_mul, Int32.toInt_neg, z_bm, z_bm2, J_ti, J_toInt, z_cn, Int32.reduceToInt]) <;> omega), if_neg (by (try simp (disch := omega) only [Int32.lt_iff_toInt_lt, Int32.le_iff_toInt_le, ← Int32.toInt_inj, Int32.toInt_add, Int32.toInt_sub, Int32.toInt_mul, Int32.toInt_neg, z_bm, z_bm2, J_ti, J_toInt, z_cn, Int32.reduceToInt]) <;> omega), z_Shelves_sizeOf hs, z_bind_some, e40, if_neg (by (try simp (disch := omega) only [Int32.lt_iff_toInt_lt, Int32.le_iff_toInt_le, ← Int32.toInt_inj, Int32.toInt_add, Int32.toInt_sub, Int32.toInt_mul, Int32.toInt_neg, z_bm, z_bm2, J_ti, J_toInt, z_cn, Int32.reduceToInt]) <;> omega), z_Shelves_sizeOf hs, z_bind_some, e40, J_sub (by omega), if_neg (by (try simp (disch := omega) only [Int32.lt_iff_toInt_lt, Int32.le_iff_toInt_le, ← Int32.toInt_inj, Int32.toInt_add, Int32.toInt_sub, Int32.toInt_mul, Int32.toInt_neg, z_bm, z_bm2, J_ti, J_toInt, z_cn, Int32.reduceToInt]) <;> omega)]
theorem z_hasP0 {s z : Nat} {a b : Int32} {u : k_S} (hs : s < 6) (hz : z ≤ 60) (e40 : u.2.1 40 s = J z) (h : ¬ (0 ≤ a.toInt ∧ 0 ≤ b.toInt ∧ a.toInt + b.toInt ≤ z)) : f_Shelves_hasPart (J s) a b u = some (0, u) := by
  unfold f_Shelves_hasPart
  by_cases h1 : a < 0
  · rw [if_pos h1]
  rw [if_neg h1]
  by_cases h2 : b < 0
  · rw [if_pos h2]
  rw [if_neg h2, z_Shelves_sizeOf hs, z_bind_some, e40]
  by_cases h3 : J z < a
  · rw [if_pos h3]
  obtain ⟨p, rfl, hp, -⟩ := J_of (x := a) (by ((try simp (disch := omega) only [Int32.lt_iff_toInt_lt, Int32.le_iff_toInt_le, ← Int32.toInt_inj, Int32.toInt_add, Int32.toInt_sub, Int32.toInt_mul, Int32.toInt_neg, z_bm, z_bm2, J_ti, J_toInt, z_cn, Int32.reduceToInt] at *); omega))
  rw [if_neg h3, z_Shelves_sizeOf hs, z_bind_some, e40, J_sub (by ((try simp (disch := omega) only [Int32.lt_iff_toInt_lt, Int32.le_iff_toInt_le, ← Int32.toInt_inj, Int32.toInt_add, Int32.toInt_sub, Int32.toInt_mul, Int32.toInt_neg, z_bm, z_bm2, J_ti, J_toInt, z_cn, Int32.reduceToInt] at *); omega)), if_pos (by ((try simp (disch := omega) only [Int32.lt_iff_toInt_lt, Int32.le_iff_toInt_le, ← Int32.toInt_inj, Int32.toInt_add, Int32.toInt_sub, Int32.toInt_mul, Int32.toInt_neg, z_bm, z_bm2, J_ti, J_toInt, z_cn, Int32.reduceToInt] at *); omega))]
theorem z_shW {u : k_S} {s1 p2 s3 p4 N k : Nat} (h1 : s1 < 6) (h3 : s3 < 6) (hk : k ≤ 4) (b1 : p2 + N ≤ 60) (b3 : p4 + N ≤ 60) (e39 : u.2.1 39 s3 = J k) (hl : ∀ j, j < 60 → z_low k (u.2.2 41 (60 * s1 + j)) = u.2.2 41 (60 * s1 + j)) : k_sat (f_Shelves_move (J s1) (J p2) (J s3) (J p4) (J N) u) (fun _ v => z_fr [] [41] u v ∧ v.2.2 41 = z_shf (u.2.2 41) (60 * s1 + p2) (60 * s3 + p4) 0 N) := by
  have step : ∀ (i : Nat) (v : k_S) (lo hi : Nat), i < N → z_fr [] [41] u v → v.2.2 41 = z_shf (u.2.2 41) (60 * s1 + p2) (60 * s3 + p4) lo hi → ¬ (60 * s3 + p4 + lo ≤ 60 * s1 + p2 + i ∧ 60 * s1 + p2 + i < 60 * s3 + p4 + hi) → ∀ (d c : Int32), k_sat (f_Shelves_move_J40 (J s1) (J p2) (J s3) (J p4) (J N) d c (J i) v) (fun z w => z = .inl (c + Int32.ofInt 1) ∧ z_fr [] [41] u w ∧ ∀ x, w.2.2 41 x = if x = 60 * s3 + p4 + i then u.2.2 41 (60 * s1 + p2 + i) else z_shf (u.2.2 41) (60 * s1 + p2) (60 * s3 + p4) lo hi x) := by
    intro i v lo hi hi' hf he hd d c
    unfold f_Shelves_move_J40
    rw [J_add, J_add, z_Svalue h1 (by omega), z_bind_some, he, show 60 * s1 + (p2 + i) = 60 * s1 + p2 + i by omega]
    rw [z_putW s3 (p4 + i) k h3 (by omega) hk _ v ((congrFun (hf.2.1 39 rfl) s3).trans e39), z_bind_some]
    have e1 : z_shf (u.2.2 41) (60 * s1 + p2) (60 * s3 + p4) lo hi (60 * s1 + p2 + i) = u.2.2 41 (60 * s1 + p2 + i) := by unfold z_shf; rw [if_neg hd]
    have e2 : z_low k (u.2.2 41 (60 * s1 + p2 + i)) = u.2.2 41 (60 * s1 + p2 + i) := by
      have := hl (p2 + i) (by omega)
      rw [show 60 * s1 + (p2 + i) = 60 * s1 + p2 + i by omega] at this
      exact this
    rw [e1, e2]
    refine k_sat_mk ⟨rfl, hf.tr (z_wL rfl), fun x => ?_⟩
    simp only [k_wL, if_true]
    rw [z_upL, he, show 60 * s3 + (p4 + i) = 60 * s3 + p4 + i by omega]
  unfold f_Shelves_move
  refine z_ite (fun q => ?_) (fun q => ?_)
  · have q : p4 ≤ p2 := by ((try simp (disch := omega) only [Int32.lt_iff_toInt_lt, Int32.le_iff_toInt_le, ← Int32.toInt_inj, Int32.toInt_add, Int32.toInt_sub, Int32.toInt_mul, Int32.toInt_neg, z_bm, z_bm2, J_ti, J_toInt, z_cn, Int32.reduceToInt] at *); omega)
    unfold f_Shelves_move_J11
    refine z_bind _ (z_for 0 N (fun c v => z_fr [] [41] u v ∧ v.2.2 41 = z_shf (u.2.2 41) (60 * s1 + p2) (60 * s3 + p4) 0 c) (K := fun _ v => z_fr [] [41] u v ∧ v.2.2 41 = z_shf (u.2.2 41) (60 * s1 + p2) (60 * s3 + p4) 0 N) (by omega) (Nat.zero_le N) ⟨z_fr.rf, ?_⟩ (fun c v _ hc hp => ?_) (fun v hp => ?_)) (fun _ v hv => k_sat_mk hv)
    · funext x
      unfold z_shf
      rw [if_neg (by omega)]
    · unfold f_Shelves_move_B16
      refine z_neg (by (try simp (disch := omega) only [Int32.lt_iff_toInt_lt, Int32.le_iff_toInt_le, ← Int32.toInt_inj, Int32.toInt_add, Int32.toInt_sub, Int32.toInt_mul, Int32.toInt_neg, z_bm, z_bm2, J_ti, J_toInt, z_cn, Int32.reduceToInt]) <;> omega) (z_pos rfl (z_mono (step c v 0 c hc hp.1 hp.2 (by omega) 0 (J c)) (fun z w hw => Or.inl ⟨hw.1, hw.2.1, ?_⟩)))
      funext x
      rw [hw.2.2 x]
      unfold z_shf
      by_cases e : x = 60 * s3 + p4 + c
      · rw [if_pos e, if_pos (by omega)]
        exact congrArg (u.2.2 41) (by omega)
      · rw [if_neg e]
        by_cases e2 : 60 * s3 + p4 + 0 ≤ x ∧ x < 60 * s3 + p4 + c
        · rw [if_pos e2, if_pos (by omega)]
        · rw [if_neg e2, if_neg (by omega)]
    · unfold f_Shelves_move_B16
      exact z_pos (Int32.le_refl _) (k_sat_mk ⟨_, rfl, hp⟩)
  · have q : p2 < p4 := by ((try simp (disch := omega) only [Int32.lt_iff_toInt_lt, Int32.le_iff_toInt_le, ← Int32.toInt_inj, Int32.toInt_add, Int32.toInt_sub, Int32.toInt_mul, Int32.toInt_neg, z_bm, z_bm2, J_ti, J_toInt, z_cn, Int32.reduceToInt] at *); omega)
    unfold f_Shelves_move_J11
    refine z_bind _ (z_for 0 N (fun c v => z_fr [] [41] u v ∧ v.2.2 41 = z_shf (u.2.2 41) (60 * s1 + p2) (60 * s3 + p4) (N - c) N) (K := fun _ v => z_fr [] [41] u v ∧ v.2.2 41 = z_shf (u.2.2 41) (60 * s1 + p2) (60 * s3 + p4) 0 N) (by omega) (Nat.zero_le N) ⟨z_fr.rf, ?_⟩ (fun c v _ hc hp => ?_) (fun v hp => ?_)) (fun _ v hv => k_sat_mk hv)
    · funext x
      unfold z_shf
      rw [if_neg (by omega)]
    · unfold f_Shelves_move_B16
      rw [z_Jm' (by omega), J_sub (by omega)]
      refine z_neg (by (try simp (disch := omega) only [Int32.lt_iff_toInt_lt, Int32.le_iff_toInt_le, ← Int32.toInt_inj, Int32.toInt_add, Int32.toInt_sub, Int32.toInt_mul, Int32.toInt_neg, z_bm, z_bm2, J_ti, J_toInt, z_cn, Int32.reduceToInt]) <;> omega) (z_neg (by decide) (z_mono (step (N - 1 - c) v (N - c) N (by omega) hp.1 hp.2 (by omega) 1 (J c)) (fun z w hw => Or.inl ⟨hw.1, hw.2.1, ?_⟩)))
      funext x
      rw [hw.2.2 x]
      unfold z_shf
      by_cases e : x = 60 * s3 + p4 + (N - 1 - c)
      · rw [if_pos e, if_pos (by omega)]
        exact congrArg (u.2.2 41) (by omega)
      · rw [if_neg e]
        by_cases e2 : 60 * s3 + p4 + (N - c) ≤ x ∧ x < 60 * s3 + p4 + N
        · rw [if_pos e2, if_pos (by omega)]
        · rw [if_neg e2, if_neg (by omega)]
    · unfold f_Shelves_move_B16
      rw [Nat.sub_self] at hp
      exact z_pos (Int32.le_refl _) (k_sat_mk ⟨_, rfl, hp⟩)
/-! shift: the reference, and both -/
theorem z_shR {u : k_S} {s1 p2 s3 p4 N : Nat} (h1 : s1 < 6) (h3 : s3 < 6) (b1 : p2 + N ≤ 60) (b3 : p4 + N ≤ 60) : k_sat (k_bind (k_itr (fun (x : (Int32)) u => f_R_shift_B113 (J s1) (J p2) (J s3) (J p4) (J N) x u) k_FU 0 u) (fun y7 u6 => k_bind (k_itr (fun (x : (Int32)) u => f_R_shift_B150 (J s3) (J p4) (J N) x u) k_FU 0 u6) (fun y10 u9 => some (J N, u9)))) (fun r v => r = J N ∧ z_fr [] [74, 75] u v ∧ v.2.2 74 = z_shf (u.2.2 74) (60 * s1 + p2) (60 * s3 + p4) 0 N) := by
  refine z_bind _ (z_for 0 N (fun c v => z_fr [] [75] u v ∧ ∀ i, i < c → v.2.2 75 i = u.2.2 74 (60 * s1 + p2 + i)) (K := fun _ v => z_fr [] [75] u v ∧ ∀ i, i < N → v.2.2 75 i = u.2.2 74 (60 * s1 + p2 + i)) (by omega) (Nat.zero_le N) ⟨z_fr.rf, fun i hi => by omega⟩ (fun c v _ hc hp => ?_) (fun v hp => ?_)) (fun _ w hw => ?_)
  · unfold f_R_shift_B113
    rw [J_60, J_add]
    refine z_neg (by (try simp (disch := omega) only [Int32.lt_iff_toInt_lt, Int32.le_iff_toInt_le, ← Int32.toInt_inj, Int32.toInt_add, Int32.toInt_sub, Int32.toInt_mul, Int32.toInt_neg, z_bm, z_bm2, J_ti, J_toInt, z_cn, Int32.reduceToInt]) <;> omega) (z_ck (by (try simp (disch := omega) only [Int32.lt_iff_toInt_lt, Int32.le_iff_toInt_le, ← Int32.toInt_inj, Int32.toInt_add, Int32.toInt_sub, Int32.toInt_mul, Int32.toInt_neg, z_bm, z_bm2, J_ti, J_toInt, z_cn, Int32.reduceToInt]) <;> omega) (by (try simp (disch := omega) only [Int32.lt_iff_toInt_lt, Int32.le_iff_toInt_le, ← Int32.toInt_inj, Int32.toInt_add, Int32.toInt_sub, Int32.toInt_mul, Int32.toInt_neg, z_bm, z_bm2, J_ti, J_toInt, z_cn, Int32.reduceToInt]) <;> omega) (z_ck (by (try simp (disch := omega) only [Int32.lt_iff_toInt_lt, Int32.le_iff_toInt_le, ← Int32.toInt_inj, Int32.toInt_add, Int32.toInt_sub, Int32.toInt_mul, Int32.toInt_neg, z_bm, z_bm2, J_ti, J_toInt, z_cn, Int32.reduceToInt]) <;> omega) (by (try simp (disch := omega) only [Int32.lt_iff_toInt_lt, Int32.le_iff_toInt_le, ← Int32.toInt_inj, Int32.toInt_add, Int32.toInt_sub, Int32.toInt_mul, Int32.toInt_neg, z_bm, z_bm2, J_ti, J_toInt, z_cn, Int32.reduceToInt]) <;> omega) (z_let (k_sat_mk (Or.inl ⟨rfl, hp.1.tr (z_wL rfl), fun i hi => ?_⟩)))))
    simp only [k_wL, if_true]
    rw [J_toNat (show c < 2147483648 by omega), J_toNat (show 60 * s1 + p2 + c < 2147483648 by omega), z_upL]
    by_cases e : i = c
    · rw [if_pos e, e, hp.1.2.2 74 rfl]
    · rw [if_neg e]; exact hp.2 i (by omega)
  · unfold f_R_shift_B113
    exact z_pos (Int32.le_refl _) (k_sat_mk ⟨_, rfl, hp⟩)
  · refine z_bind _ (z_for 0 N (fun c v => z_fr [] [74] w v ∧ v.2.2 74 = z_shf (u.2.2 74) (60 * s1 + p2) (60 * s3 + p4) 0 c) (K := fun _ v => z_fr [] [74] w v ∧ v.2.2 74 = z_shf (u.2.2 74) (60 * s1 + p2) (60 * s3 + p4) 0 N) (by omega) (Nat.zero_le N) ⟨z_fr.rf, ?_⟩ (fun c v _ hc hp => ?_) (fun v hp => ?_)) (fun _ v hv => k_sat_mk ⟨rfl, (hw.1.mono rfl rfl).tr (hv.1.mono rfl rfl), hv.2⟩)
    · rw [hw.1.2.2 74 rfl]
      funext x
      unfold z_shf
      rw [if_neg (by omega)]
    · unfold f_R_shift_B150
      rw [J_60, J_add]
      refine z_neg (by (try simp (disch := omega) only [Int32.lt_iff_toInt_lt, Int32.le_iff_toInt_le, ← Int32.toInt_inj, Int32.toInt_add, Int32.toInt_sub, Int32.toInt_mul, Int32.toInt_neg, z_bm, z_bm2, J_ti, J_toInt, z_cn, Int32.reduceToInt]) <;> omega) (z_ck (by (try simp (disch := omega) only [Int32.lt_iff_toInt_lt, Int32.le_iff_toInt_le, ← Int32.toInt_inj, Int32.toInt_add, Int32.toInt_sub, Int32.toInt_mul, Int32.toInt_neg, z_bm, z_bm2, J_ti, J_toInt, z_cn, Int32.reduceToInt]) <;> omega) (by (try simp (disch := omega) only [Int32.lt_iff_toInt_lt, Int32.le_iff_toInt_le, ← Int32.toInt_inj, Int32.toInt_add, Int32.toInt_sub, Int32.toInt_mul, Int32.toInt_neg, z_bm, z_bm2, J_ti, J_toInt, z_cn, Int32.reduceToInt]) <;> omega) (z_ck (by (try simp (disch := omega) only [Int32.lt_iff_toInt_lt, Int32.le_iff_toInt_le, ← Int32.toInt_inj, Int32.toInt_add, Int32.toInt_sub, Int32.toInt_mul, Int32.toInt_neg, z_bm, z_bm2, J_ti, J_toInt, z_cn, Int32.reduceToInt]) <;> omega) (by (try simp (disch := omega) only [Int32.lt_iff_toInt_lt, Int32.le_iff_toInt_le, ← Int32.toInt_inj, Int32.toInt_add, Int32.toInt_sub, Int32.toInt_mul, Int32.toInt_neg, z_bm, z_bm2, J_ti, J_toInt, z_cn, Int32.reduceToInt]) <;> omega) (z_let (k_sat_mk (Or.inl ⟨rfl, hp.1.tr (z_wL rfl), ?_⟩)))))
      simp only [k_wL, if_true]
      rw [J_toNat (show c < 2147483648 by omega), J_toNat (show 60 * s3 + p4 + c < 2147483648 by omega), hp.1.2.2 75 rfl, hw.2 c hc, hp.2]
      funext x
      rw [z_upL]
      unfold z_shf
      by_cases e : x = 60 * s3 + p4 + c
      · rw [if_pos e, if_pos (by omega)]
        exact congrArg (u.2.2 74) (by omega)
      · rw [if_neg e]
        by_cases e2 : 60 * s3 + p4 + 0 ≤ x ∧ x < 60 * s3 + p4 + c
        · rw [if_pos e2, if_pos (by omega)]
        · rw [if_neg e2, if_neg (by omega)]
    · unfold f_R_shift_B150
      exact z_pos (Int32.le_refl _) (k_sat_mk ⟨_, rfl, hp⟩)
theorem z_shBad {a1 a3 a4 : Int32} {z z' : Nat} (hz : z ≤ 60) (hz' : z' ≤ 60) (hb : ¬ (0 ≤ a1.toInt ∧ 0 ≤ a4.toInt ∧ a1.toInt + a4.toInt ≤ z) ∨ ¬ (0 ≤ a3.toInt ∧ 0 ≤ a4.toInt ∧ a3.toInt + a4.toInt ≤ z')) (q1 : ¬ a4 < 0) (q2 : ¬ a1 < 0) (q3 : ¬ a3 < 0) (q4 : ¬ (J z - a4) < a1) : ¬ a3 ≤ (J z' - a4) := by
  intro q5
  obtain ⟨N, rfl, hN, hN2⟩ := J_of (x := a4) (by ((try simp (disch := omega) only [Int32.lt_iff_toInt_lt, Int32.le_iff_toInt_le, ← Int32.toInt_inj, Int32.toInt_add, Int32.toInt_sub, Int32.toInt_mul, Int32.toInt_neg, z_bm, z_bm2, J_ti, J_toInt, z_cn, Int32.reduceToInt] at *); omega))
  obtain ⟨x1, rfl, hx1, hx12⟩ := J_of (x := a1) (by ((try simp (disch := omega) only [Int32.lt_iff_toInt_lt, Int32.le_iff_toInt_le, ← Int32.toInt_inj, Int32.toInt_add, Int32.toInt_sub, Int32.toInt_mul, Int32.toInt_neg, z_bm, z_bm2, J_ti, J_toInt, z_cn, Int32.reduceToInt] at *); omega))
  obtain ⟨x3, rfl, hx3, hx32⟩ := J_of (x := a3) (by ((try simp (disch := omega) only [Int32.lt_iff_toInt_lt, Int32.le_iff_toInt_le, ← Int32.toInt_inj, Int32.toInt_add, Int32.toInt_sub, Int32.toInt_mul, Int32.toInt_neg, z_bm, z_bm2, J_ti, J_toInt, z_cn, Int32.reduceToInt] at *); omega))
  have e1 : (J z - J N).toInt = z - N := by
    rw [Int32.toInt_sub, J_toInt (by omega), J_toInt hN2, z_bm2] <;> omega
  have e2 : (J z' - J N).toInt = z' - N := by
    rw [Int32.toInt_sub, J_toInt (by omega), J_toInt hN2, z_bm2] <;> omega
  rw [Int32.lt_iff_toInt_lt, e1] at q4
  rw [Int32.le_iff_toInt_le, e2] at q5
  omega
theorem z_shift (a0 a1 a2 a3 a4 : Int32) (u : k_S) (h : zI u) : z_pair (f_W_shift a0 a1 a2 a3 a4) (f_R_shift a0 a1 a2 a3 a4) u zI := by
  have hH := h.2.2.2.2.2.2.2.2.2.1
  refine z_pair_of ?_
  unfold f_W_shift
  rcases J_or a0 6 with ⟨s1, h1, rfl⟩ | ha
  · rcases J_or a2 6 with ⟨s3, h3, rfl⟩ | hb
    · rw [z_Shas (by (try simp (disch := omega) only [Int32.lt_iff_toInt_lt, Int32.le_iff_toInt_le, ← Int32.toInt_inj, Int32.toInt_add, Int32.toInt_sub, Int32.toInt_mul, Int32.toInt_neg, z_bm, z_bm2, J_ti, J_toInt, z_cn, Int32.reduceToInt]) <;> omega) (by (try simp (disch := omega) only [Int32.lt_iff_toInt_lt, Int32.le_iff_toInt_le, ← Int32.toInt_inj, Int32.toInt_add, Int32.toInt_sub, Int32.toInt_mul, Int32.toInt_neg, z_bm, z_bm2, J_ti, J_toInt, z_cn, Int32.reduceToInt]) <;> omega), z_bind_some]
      refine z_neg (by decide) ?_
      rw [z_Shas (by (try simp (disch := omega) only [Int32.lt_iff_toInt_lt, Int32.le_iff_toInt_le, ← Int32.toInt_inj, Int32.toInt_add, Int32.toInt_sub, Int32.toInt_mul, Int32.toInt_neg, z_bm, z_bm2, J_ti, J_toInt, z_cn, Int32.reduceToInt]) <;> omega) (by (try simp (disch := omega) only [Int32.lt_iff_toInt_lt, Int32.le_iff_toInt_le, ← Int32.toInt_inj, Int32.toInt_add, Int32.toInt_sub, Int32.toInt_mul, Int32.toInt_neg, z_bm, z_bm2, J_ti, J_toInt, z_cn, Int32.reduceToInt]) <;> omega), z_bind_some]
      refine z_neg (by decide) ?_
      rw [z_SheldBy (by (try simp (disch := omega) only [Int32.lt_iff_toInt_lt, Int32.le_iff_toInt_le, ← Int32.toInt_inj, Int32.toInt_add, Int32.toInt_sub, Int32.toInt_mul, Int32.toInt_neg, z_bm, z_bm2, J_ti, J_toInt, z_cn, Int32.reduceToInt]) <;> omega) (by (try simp (disch := omega) only [Int32.lt_iff_toInt_lt, Int32.le_iff_toInt_le, ← Int32.toInt_inj, Int32.toInt_add, Int32.toInt_sub, Int32.toInt_mul, Int32.toInt_neg, z_bm, z_bm2, J_ti, J_toInt, z_cn, Int32.reduceToInt]) <;> omega), z_bind_some, z_SheldBy (by (try simp (disch := omega) only [Int32.lt_iff_toInt_lt, Int32.le_iff_toInt_le, ← Int32.toInt_inj, Int32.toInt_add, Int32.toInt_sub, Int32.toInt_mul, Int32.toInt_neg, z_bm, z_bm2, J_ti, J_toInt, z_cn, Int32.reduceToInt]) <;> omega) (by (try simp (disch := omega) only [Int32.lt_iff_toInt_lt, Int32.le_iff_toInt_le, ← Int32.toInt_inj, Int32.toInt_add, Int32.toInt_sub, Int32.toInt_mul, Int32.toInt_neg, z_bm, z_bm2, J_ti, J_toInt, z_cn, Int32.reduceToInt]) <;> omega), z_bind_some, J_toNat (show s1 < 2147483648 by omega), J_toNat (show s3 < 2147483648 by omega)]
      have hR : ∀ {v : k_S} {Q : Int32 → k_S → Prop}, k_sat (if v.2.1 72 s1 = -1 then some ((-11), v) else if v.2.1 72 s3 = -1 then some ((-11), v) else if 0 ≤ v.2.1 72 s1 then some ((-12), v) else if v.2.1 72 s1 = v.2.1 72 s3 then (if a4 < 0 then some ((-13), v) else if a1 < 0 then some ((-13), v) else if a3 < 0 then some ((-13), v) else if (v.2.1 73 s1 - a4) < a1 then some ((-13), v) else if a3 ≤ (v.2.1 73 s3 - a4) then k_bind (k_itr (fun (x : (Int32)) u => f_R_shift_B113 (J s1) a1 (J s3) a3 a4 x u) k_FU 0 v) (fun y7 u6 => k_bind (k_itr (fun (x : (Int32)) u => f_R_shift_B150 (J s3) a3 a4 x u) k_FU 0 u6) (fun y10 u9 => some (a4, u9))) else some ((-13), v)) else some ((-12), v)) Q → k_sat (f_R_shift (J s1) a1 (J s3) a3 a4 v) Q := fun {v Q} hq => by
        unfold f_R_shift
        rw [z_RisShelf (by (try simp (disch := omega) only [Int32.lt_iff_toInt_lt, Int32.le_iff_toInt_le, ← Int32.toInt_inj, Int32.toInt_add, Int32.toInt_sub, Int32.toInt_mul, Int32.toInt_neg, z_bm, z_bm2, J_ti, J_toInt, z_cn, Int32.reduceToInt]) <;> omega) (by (try simp (disch := omega) only [Int32.lt_iff_toInt_lt, Int32.le_iff_toInt_le, ← Int32.toInt_inj, Int32.toInt_add, Int32.toInt_sub, Int32.toInt_mul, Int32.toInt_neg, z_bm, z_bm2, J_ti, J_toInt, z_cn, Int32.reduceToInt]) <;> omega), z_bind_some]
        refine z_neg (by decide) ?_
        rw [z_RisShelf (by (try simp (disch := omega) only [Int32.lt_iff_toInt_lt, Int32.le_iff_toInt_le, ← Int32.toInt_inj, Int32.toInt_add, Int32.toInt_sub, Int32.toInt_mul, Int32.toInt_neg, z_bm, z_bm2, J_ti, J_toInt, z_cn, Int32.reduceToInt]) <;> omega) (by (try simp (disch := omega) only [Int32.lt_iff_toInt_lt, Int32.le_iff_toInt_le, ← Int32.toInt_inj, Int32.toInt_add, Int32.toInt_sub, Int32.toInt_mul, Int32.toInt_neg, z_bm, z_bm2, J_ti, J_toInt, z_cn, Int32.reduceToInt]) <;> omega), z_bind_some, J_toNat (show s1 < 2147483648 by omega), J_toNat (show s3 < 2147483648 by omega)]
        have c1 : ∀ {α : Type} (o : Option α), k_ck (J s1) 6 o = o := fun o => z_cko o (by (try simp (disch := omega) only [Int32.lt_iff_toInt_lt, Int32.le_iff_toInt_le, ← Int32.toInt_inj, Int32.toInt_add, Int32.toInt_sub, Int32.toInt_mul, Int32.toInt_neg, z_bm, z_bm2, J_ti, J_toInt, z_cn, Int32.reduceToInt]) <;> omega) (by (try simp (disch := omega) only [Int32.lt_iff_toInt_lt, Int32.le_iff_toInt_le, ← Int32.toInt_inj, Int32.toInt_add, Int32.toInt_sub, Int32.toInt_mul, Int32.toInt_neg, z_bm, z_bm2, J_ti, J_toInt, z_cn, Int32.reduceToInt]) <;> omega)
        have c3 : ∀ {α : Type} (o : Option α), k_ck (J s3) 6 o = o := fun o => z_cko o (by (try simp (disch := omega) only [Int32.lt_iff_toInt_lt, Int32.le_iff_toInt_le, ← Int32.toInt_inj, Int32.toInt_add, Int32.toInt_sub, Int32.toInt_mul, Int32.toInt_neg, z_bm, z_bm2, J_ti, J_toInt, z_cn, Int32.reduceToInt]) <;> omega) (by (try simp (disch := omega) only [Int32.lt_iff_toInt_lt, Int32.le_iff_toInt_le, ← Int32.toInt_inj, Int32.toInt_add, Int32.toInt_sub, Int32.toInt_mul, Int32.toInt_neg, z_bm, z_bm2, J_ti, J_toInt, z_cn, Int32.reduceToInt]) <;> omega)
        simp only [c1, c3]
        exact z_neg (by decide) hq
      rcases hH s1 h1 with ⟨p39, p72⟩ | ⟨p39, b, hb, p72, p40⟩ | ⟨k, z, hk, hz, p39, p72, p40, p73, p74⟩
      · exact z_pos p39 (k_sat_mk (hR (z_pos p72 (k_sat_mk ⟨rfl, h⟩))))
      · have hb50 : b < 50 := by
          obtain ⟨⟨n, hn, b1, -⟩, -⟩ := h.2.2.2.2.2.2.2.2.1
          rw [b1, J_toInt (by omega)] at hb
          omega
        refine z_neg (by rw [p39]; decide) ?_
        rcases hH s3 h3 with ⟨r39, r72⟩ | ⟨r39, c, hc, r72, r40⟩ | ⟨k', z', hk', hz', r39, r72, r40, r73, r74⟩
        · exact z_pos r39 (k_sat_mk (hR (z_neg (by rw [p72]; (try simp (disch := omega) only [Int32.lt_iff_toInt_lt, Int32.le_iff_toInt_le, ← Int32.toInt_inj, Int32.toInt_add, Int32.toInt_sub, Int32.toInt_mul, Int32.toInt_neg, z_bm, z_bm2, J_ti, J_toInt, z_cn, Int32.reduceToInt]) <;> omega) (z_pos r72 (k_sat_mk ⟨rfl, h⟩)))))
        · have hc50 : c < 50 := by
            obtain ⟨⟨n, hn, b1, -⟩, -⟩ := h.2.2.2.2.2.2.2.2.1
            rw [b1, J_toInt (by omega)] at hc
            omega
          exact z_neg (by rw [r39]; decide) (z_pos p39 (k_sat_mk (hR (z_neg (by rw [p72]; (try simp (disch := omega) only [Int32.lt_iff_toInt_lt, Int32.le_iff_toInt_le, ← Int32.toInt_inj, Int32.toInt_add, Int32.toInt_sub, Int32.toInt_mul, Int32.toInt_neg, z_bm, z_bm2, J_ti, J_toInt, z_cn, Int32.reduceToInt]) <;> omega) (z_neg (by rw [r72]; (try simp (disch := omega) only [Int32.lt_iff_toInt_lt, Int32.le_iff_toInt_le, ← Int32.toInt_inj, Int32.toInt_add, Int32.toInt_sub, Int32.toInt_mul, Int32.toInt_neg, z_bm, z_bm2, J_ti, J_toInt, z_cn, Int32.reduceToInt]) <;> omega) (z_pos (by rw [p72]; (try simp (disch := omega) only [Int32.lt_iff_toInt_lt, Int32.le_iff_toInt_le, ← Int32.toInt_inj, Int32.toInt_add, Int32.toInt_sub, Int32.toInt_mul, Int32.toInt_neg, z_bm, z_bm2, J_ti, J_toInt, z_cn, Int32.reduceToInt]) <;> omega) (k_sat_mk ⟨rfl, h⟩)))))))
        · exact z_neg (by rw [r39]; (try simp (disch := omega) only [Int32.lt_iff_toInt_lt, Int32.le_iff_toInt_le, ← Int32.toInt_inj, Int32.toInt_add, Int32.toInt_sub, Int32.toInt_mul, Int32.toInt_neg, z_bm, z_bm2, J_ti, J_toInt, z_cn, Int32.reduceToInt]) <;> omega) (z_pos p39 (k_sat_mk (hR (z_neg (by rw [p72]; (try simp (disch := omega) only [Int32.lt_iff_toInt_lt, Int32.le_iff_toInt_le, ← Int32.toInt_inj, Int32.toInt_add, Int32.toInt_sub, Int32.toInt_mul, Int32.toInt_neg, z_bm, z_bm2, J_ti, J_toInt, z_cn, Int32.reduceToInt]) <;> omega) (z_neg (by rw [r72]; (try simp (disch := omega) only [Int32.lt_iff_toInt_lt, Int32.le_iff_toInt_le, ← Int32.toInt_inj, Int32.toInt_add, Int32.toInt_sub, Int32.toInt_mul, Int32.toInt_neg, z_bm, z_bm2, J_ti, J_toInt, z_cn, Int32.reduceToInt]) <;> omega) (z_pos (by rw [p72]; (try simp (disch := omega) only [Int32.lt_iff_toInt_lt, Int32.le_iff_toInt_le, ← Int32.toInt_inj, Int32.toInt_add, Int32.toInt_sub, Int32.toInt_mul, Int32.toInt_neg, z_bm, z_bm2, J_ti, J_toInt, z_cn, Int32.reduceToInt]) <;> omega) (k_sat_mk ⟨rfl, h⟩)))))))
      · refine z_neg (by rw [p39]; (try simp (disch := omega) only [Int32.lt_iff_toInt_lt, Int32.le_iff_toInt_le, ← Int32.toInt_inj, Int32.toInt_add, Int32.toInt_sub, Int32.toInt_mul, Int32.toInt_neg, z_bm, z_bm2, J_ti, J_toInt, z_cn, Int32.reduceToInt]) <;> omega) ?_
        rcases hH s3 h3 with ⟨r39, r72⟩ | ⟨r39, c, hc, r72, r40⟩ | ⟨k', z', hk', hz', r39, r72, r40, r73, r74⟩
        · exact z_pos r39 (k_sat_mk (hR (z_neg (by rw [p72]; (try simp (disch := omega) only [Int32.lt_iff_toInt_lt, Int32.le_iff_toInt_le, ← Int32.toInt_inj, Int32.toInt_add, Int32.toInt_sub, Int32.toInt_mul, Int32.toInt_neg, z_bm, z_bm2, J_ti, J_toInt, z_cn, Int32.reduceToInt]) <;> omega) (z_pos r72 (k_sat_mk ⟨rfl, h⟩)))))
        · have hc50 : c < 50 := by
            obtain ⟨⟨n, hn, b1, -⟩, -⟩ := h.2.2.2.2.2.2.2.2.1
            rw [b1, J_toInt (by omega)] at hc
            omega
          exact z_neg (by rw [r39]; decide) (z_neg (by rw [p39]; (try simp (disch := omega) only [Int32.lt_iff_toInt_lt, Int32.le_iff_toInt_le, ← Int32.toInt_inj, Int32.toInt_add, Int32.toInt_sub, Int32.toInt_mul, Int32.toInt_neg, z_bm, z_bm2, J_ti, J_toInt, z_cn, Int32.reduceToInt]) <;> omega) (z_neg (by rw [p39, r39]; (try simp (disch := omega) only [Int32.lt_iff_toInt_lt, Int32.le_iff_toInt_le, ← Int32.toInt_inj, Int32.toInt_add, Int32.toInt_sub, Int32.toInt_mul, Int32.toInt_neg, z_bm, z_bm2, J_ti, J_toInt, z_cn, Int32.reduceToInt]) <;> omega) (k_sat_mk (hR (z_neg (by rw [p72]; (try simp (disch := omega) only [Int32.lt_iff_toInt_lt, Int32.le_iff_toInt_le, ← Int32.toInt_inj, Int32.toInt_add, Int32.toInt_sub, Int32.toInt_mul, Int32.toInt_neg, z_bm, z_bm2, J_ti, J_toInt, z_cn, Int32.reduceToInt]) <;> omega) (z_neg (by rw [r72]; (try simp (disch := omega) only [Int32.lt_iff_toInt_lt, Int32.le_iff_toInt_le, ← Int32.toInt_inj, Int32.toInt_add, Int32.toInt_sub, Int32.toInt_mul, Int32.toInt_neg, z_bm, z_bm2, J_ti, J_toInt, z_cn, Int32.reduceToInt]) <;> omega) (z_neg (by rw [p72]; (try simp (disch := omega) only [Int32.lt_iff_toInt_lt, Int32.le_iff_toInt_le, ← Int32.toInt_inj, Int32.toInt_add, Int32.toInt_sub, Int32.toInt_mul, Int32.toInt_neg, z_bm, z_bm2, J_ti, J_toInt, z_cn, Int32.reduceToInt]) <;> omega) (z_neg (by rw [p72, r72]; (try simp (disch := omega) only [Int32.lt_iff_toInt_lt, Int32.le_iff_toInt_le, ← Int32.toInt_inj, Int32.toInt_add, Int32.toInt_sub, Int32.toInt_mul, Int32.toInt_neg, z_bm, z_bm2, J_ti, J_toInt, z_cn, Int32.reduceToInt]) <;> omega) (k_sat_mk ⟨rfl, h⟩)))))))))
        · refine z_neg (by rw [r39]; (try simp (disch := omega) only [Int32.lt_iff_toInt_lt, Int32.le_iff_toInt_le, ← Int32.toInt_inj, Int32.toInt_add, Int32.toInt_sub, Int32.toInt_mul, Int32.toInt_neg, z_bm, z_bm2, J_ti, J_toInt, z_cn, Int32.reduceToInt]) <;> omega) (z_neg (by rw [p39]; (try simp (disch := omega) only [Int32.lt_iff_toInt_lt, Int32.le_iff_toInt_le, ← Int32.toInt_inj, Int32.toInt_add, Int32.toInt_sub, Int32.toInt_mul, Int32.toInt_neg, z_bm, z_bm2, J_ti, J_toInt, z_cn, Int32.reduceToInt]) <;> omega) ?_)
          have pre : ∀ {v : k_S} {Q : Int32 → k_S → Prop}, v.2.1 72 = u.2.1 72 → v.2.1 73 = u.2.1 73 → k_sat (if (-2 : Int32) - J k = -2 - J k' then (if a4 < 0 then some ((-13), v) else if a1 < 0 then some ((-13), v) else if a3 < 0 then some ((-13), v) else if (J z - a4) < a1 then some ((-13), v) else if a3 ≤ (J z' - a4) then k_bind (k_itr (fun (x : (Int32)) u => f_R_shift_B113 (J s1) a1 (J s3) a3 a4 x u) k_FU 0 v) (fun y7 u6 => k_bind (k_itr (fun (x : (Int32)) u => f_R_shift_B150 (J s3) a3 a4 x u) k_FU 0 u6) (fun y10 u9 => some (a4, u9))) else some ((-13), v)) else some ((-12), v)) Q → k_sat (f_R_shift (J s1) a1 (J s3) a3 a4 v) Q := fun {v Q} e72 e73 hq => by
            refine hR ?_
            rw [e72, e73, p72, r72, p73, r73]
            exact z_neg (by (try simp (disch := omega) only [Int32.lt_iff_toInt_lt, Int32.le_iff_toInt_le, ← Int32.toInt_inj, Int32.toInt_add, Int32.toInt_sub, Int32.toInt_mul, Int32.toInt_neg, z_bm, z_bm2, J_ti, J_toInt, z_cn, Int32.reduceToInt]) <;> omega) (z_neg (by (try simp (disch := omega) only [Int32.lt_iff_toInt_lt, Int32.le_iff_toInt_le, ← Int32.toInt_inj, Int32.toInt_add, Int32.toInt_sub, Int32.toInt_mul, Int32.toInt_neg, z_bm, z_bm2, J_ti, J_toInt, z_cn, Int32.reduceToInt]) <;> omega) (z_neg (by (try simp (disch := omega) only [Int32.lt_iff_toInt_lt, Int32.le_iff_toInt_le, ← Int32.toInt_inj, Int32.toInt_add, Int32.toInt_sub, Int32.toInt_mul, Int32.toInt_neg, z_bm, z_bm2, J_ti, J_toInt, z_cn, Int32.reduceToInt]) <;> omega) hq))
          by_cases ek : k = k'
          · subst ek
            refine z_pos (by rw [p39, r39]) ?_
            have bad : (¬ (0 ≤ a1.toInt ∧ 0 ≤ a4.toInt ∧ a1.toInt + a4.toInt ≤ z) ∨ ¬ (0 ≤ a3.toInt ∧ 0 ≤ a4.toInt ∧ a3.toInt + a4.toInt ≤ z')) → k_sat (f_R_shift (J s1) a1 (J s3) a3 a4 u) (fun r' u2 => (-13 : Int32) = r' ∧ zI u2) := fun hb => by
              refine pre rfl rfl (z_pos rfl (z_ite (fun _ => k_sat_mk ⟨rfl, h⟩) (fun q1 => z_ite (fun _ => k_sat_mk ⟨rfl, h⟩) (fun q2 => z_ite (fun _ => k_sat_mk ⟨rfl, h⟩) (fun q3 => z_ite (fun _ => k_sat_mk ⟨rfl, h⟩) (fun q4 => z_neg (z_shBad hz hz' hb q1 q2 q3 q4) (k_sat_mk ⟨rfl, h⟩)))))))
            by_cases g1 : 0 ≤ a1.toInt ∧ 0 ≤ a4.toInt ∧ a1.toInt + a4.toInt ≤ z
            · obtain ⟨N, rfl, hN, -⟩ := J_of (x := a4) g1.2.1
              obtain ⟨x1, rfl, hx1, -⟩ := J_of (x := a1) g1.1
              rw [z_hasP1 h1 hz p40 (by omega), z_bind_some]
              refine z_neg (by decide) ?_
              by_cases g3 : 0 ≤ a3.toInt ∧ 0 ≤ (J N).toInt ∧ a3.toInt + (J N).toInt ≤ z'
              · obtain ⟨x3, rfl, hx3, -⟩ := J_of (x := a3) g3.1
                rw [z_hasP1 h3 hz' r40 (by omega), z_bind_some]
                refine z_neg (by decide) (z_bind _ (z_shW (k := k) h1 h3 hk (by omega) (by omega) r39 (fun j hj => (p74 j hj).2)) (fun _ v hv => k_sat_mk (pre (hv.1.2.1 72 rfl) (hv.1.2.1 73 rfl) (z_pos rfl (z_neg (by (try simp (disch := omega) only [Int32.lt_iff_toInt_lt, Int32.le_iff_toInt_le, ← Int32.toInt_inj, Int32.toInt_add, Int32.toInt_sub, Int32.toInt_mul, Int32.toInt_neg, z_bm, z_bm2, J_ti, J_toInt, z_cn, Int32.reduceToInt]) <;> omega) (z_neg (by (try simp (disch := omega) only [Int32.lt_iff_toInt_lt, Int32.le_iff_toInt_le, ← Int32.toInt_inj, Int32.toInt_add, Int32.toInt_sub, Int32.toInt_mul, Int32.toInt_neg, z_bm, z_bm2, J_ti, J_toInt, z_cn, Int32.reduceToInt]) <;> omega) (z_neg (by (try simp (disch := omega) only [Int32.lt_iff_toInt_lt, Int32.le_iff_toInt_le, ← Int32.toInt_inj, Int32.toInt_add, Int32.toInt_sub, Int32.toInt_mul, Int32.toInt_neg, z_bm, z_bm2, J_ti, J_toInt, z_cn, Int32.reduceToInt]) <;> omega) (z_neg (by rw [J_sub (by omega)]; (try simp (disch := omega) only [Int32.lt_iff_toInt_lt, Int32.le_iff_toInt_le, ← Int32.toInt_inj, Int32.toInt_add, Int32.toInt_sub, Int32.toInt_mul, Int32.toInt_neg, z_bm, z_bm2, J_ti, J_toInt, z_cn, Int32.reduceToInt]) <;> omega) (z_pos (by rw [J_sub (by omega)]; (try simp (disch := omega) only [Int32.lt_iff_toInt_lt, Int32.le_iff_toInt_le, ← Int32.toInt_inj, Int32.toInt_add, Int32.toInt_sub, Int32.toInt_mul, Int32.toInt_neg, z_bm, z_bm2, J_ti, J_toInt, z_cn, Int32.reduceToInt]) <;> omega) (z_mono (z_shR h1 h3 (by omega) (by omega)) (fun r w hw => ⟨hw.1.symm, ?_⟩)))))))))))
                have f2 : z_fr [] [41, 74, 75] u w := (hv.1.mono rfl rfl).tr (hw.2.1.mono rfl rfl)
                refine zI_H h (f2.mono rfl rfl) (fun s hs => ?_)
                have g41 : w.2.2 41 = z_shf (u.2.2 41) (60 * s1 + x1) (60 * s3 + x3) 0 N := (hw.2.1.2.2 41 rfl).trans hv.2
                have g74 : w.2.2 74 = z_shf (u.2.2 74) (60 * s1 + x1) (60 * s3 + x3) 0 N := by rw [hw.2.2, hv.1.2.2 74 rfl]
                rw [f2.2.1 39 rfl, f2.2.1 40 rfl, f2.2.1 72 rfl, f2.2.1 73 rfl, f2.1 3502 rfl, g41, g74]
                rcases hH s hs with q | q | ⟨kk, zz, q1, q2, q3, q4, q5, q6, q7⟩
                · exact Or.inl q
                · exact Or.inr (Or.inl q)
                · refine Or.inr (Or.inr ⟨kk, zz, q1, q2, q3, q4, q5, q6, fun j hj => ?_⟩)
                  unfold z_shf
                  by_cases e : 60 * s3 + x3 + 0 ≤ 60 * s + j ∧ 60 * s + j < 60 * s3 + x3 + N
                  · have es : s = s3 := by omega
                    subst es
                    have ekk : kk = k := by
                      rw [r39, J_inj (by omega) (by omega)] at q3
                      exact q3.symm
                    subst ekk
                    have := p74 (x1 + (j - x3)) (by omega)
                    rw [show 60 * s1 + (x1 + (j - x3)) = 60 * s1 + x1 + (60 * s + j - (60 * s + x3)) by omega] at this
                    rw [if_pos e, if_pos e]
                    exact this
                  · rw [if_neg e, if_neg e]
                    exact q7 j hj
              · rw [z_hasP0 h3 hz' r40 g3, z_bind_some]
                exact z_pos rfl (k_sat_mk (bad (Or.inr g3)))
            · rw [z_hasP0 h1 hz p40 g1, z_bind_some]
              exact z_pos rfl (k_sat_mk (bad (Or.inl g1)))
          · refine z_neg (by rw [p39, r39, J_inj (by omega) (by omega)]; exact ek) (k_sat_mk (pre rfl rfl (z_neg (by (try simp (disch := omega) only [Int32.lt_iff_toInt_lt, Int32.le_iff_toInt_le, ← Int32.toInt_inj, Int32.toInt_add, Int32.toInt_sub, Int32.toInt_mul, Int32.toInt_neg, z_bm, z_bm2, J_ti, J_toInt, z_cn, Int32.reduceToInt]) <;> omega) (k_sat_mk ⟨rfl, h⟩))))
    · rw [z_Shas (by (try simp (disch := omega) only [Int32.lt_iff_toInt_lt, Int32.le_iff_toInt_le, ← Int32.toInt_inj, Int32.toInt_add, Int32.toInt_sub, Int32.toInt_mul, Int32.toInt_neg, z_bm, z_bm2, J_ti, J_toInt, z_cn, Int32.reduceToInt]) <;> omega) (by (try simp (disch := omega) only [Int32.lt_iff_toInt_lt, Int32.le_iff_toInt_le, ← Int32.toInt_inj, Int32.toInt_add, Int32.toInt_sub, Int32.toInt_mul, Int32.toInt_neg, z_bm, z_bm2, J_ti, J_toInt, z_cn, Int32.reduceToInt]) <;> omega), z_bind_some]
      refine z_neg (by decide) ?_
      rw [z_Shas0 (by omega), z_bind_some]
      refine z_pos rfl (k_sat_mk ?_)
      unfold f_R_shift
      rw [z_RisShelf (by (try simp (disch := omega) only [Int32.lt_iff_toInt_lt, Int32.le_iff_toInt_le, ← Int32.toInt_inj, Int32.toInt_add, Int32.toInt_sub, Int32.toInt_mul, Int32.toInt_neg, z_bm, z_bm2, J_ti, J_toInt, z_cn, Int32.reduceToInt]) <;> omega) (by (try simp (disch := omega) only [Int32.lt_iff_toInt_lt, Int32.le_iff_toInt_le, ← Int32.toInt_inj, Int32.toInt_add, Int32.toInt_sub, Int32.toInt_mul, Int32.toInt_neg, z_bm, z_bm2, J_ti, J_toInt, z_cn, Int32.reduceToInt]) <;> omega), z_bind_some]
      refine z_neg (by decide) ?_
      rw [z_RisShelf0 (by omega), z_bind_some]
      exact z_pos rfl (k_sat_mk ⟨rfl, h⟩)
  · rw [z_Shas0 (by omega), z_bind_some]
    refine z_pos rfl (k_sat_mk ?_)
    unfold f_R_shift
    rw [z_RisShelf0 (by omega), z_bind_some]
    exact z_pos rfl (k_sat_mk ⟨rfl, h⟩)
/-! act: which body stands for a kind and an act; the trace -/
def z_bf (k a : Nat) : Int32 := ((([[1, 10, 11, 2], [20, 10, 11, 2], [1, 30, 11, 2], [1, 41, 40, 2], [20, 10, 11, 50], [20, 10, 60, 61], [70, 10, 11, 2], [81, 80, 11, 2]] : List (List Int32)).getD k []).getD a 0)
theorem z_bf0 {k a : Nat} (hk : k < 8) (ha : a < 4) (u : k_S) : k_itr (fun (x : Int32 × Int32) u => f_Bodies_bodyFor_B4 (J a) x.1 x.2 u) 9 (J k, 0) u = some (.inl (z_bf k a), u) := by
  rcases (show k = 0 ∨ k = 1 ∨ k = 2 ∨ k = 3 ∨ k = 4 ∨ k = 5 ∨ k = 6 ∨ k = 7 by omega) with rfl | rfl | rfl | rfl | rfl | rfl | rfl | rfl <;> rcases (show a = 0 ∨ a = 1 ∨ a = 2 ∨ a = 3 by omega) with rfl | rfl | rfl | rfl <;> rfl
theorem z_bodyFor {k a : Nat} (hk : k < 8) (ha : a < 4) (u : k_S) : f_Bodies_bodyFor (J k) (J a) u = some (z_bf k a, u) := by
  unfold f_Bodies_bodyFor
  rw [z_more 9 k_FU _ _ _ (by unfold k_FU; omega) (z_bf0 hk ha u)]
  rfl
/-- one code more in the class's trace, in the reference's -/
def z_apW (u : k_S) (c : Int32) : k_S := k_wF (k_wA u 37 (u.1 3503).toNatClampNeg c) 3503 (u.1 3503 + 1)
def z_apR (u : k_S) (c : Int32) : k_S := k_wF (k_wA u 71 (u.1 4247).toNatClampNeg c) 4247 (u.1 4247 + 1)
theorem z_ran {u : k_S} {m : Nat} (h : u.1 4247 = J m) (hm : m < 24) (c : Int32) : f_R_ran c u = some ((), z_apR u c) := by
  unfold f_R_ran f_R_ran_J19
  rw [h, if_neg (by (try simp (disch := omega) only [Int32.lt_iff_toInt_lt, Int32.le_iff_toInt_le, ← Int32.toInt_inj, Int32.toInt_add, Int32.toInt_sub, Int32.toInt_mul, Int32.toInt_neg, z_bm, z_bm2, J_ti, J_toInt, z_cn, Int32.reduceToInt]) <;> omega), z_cko _ (by (try simp (disch := omega) only [Int32.lt_iff_toInt_lt, Int32.le_iff_toInt_le, ← Int32.toInt_inj, Int32.toInt_add, Int32.toInt_sub, Int32.toInt_mul, Int32.toInt_neg, z_bm, z_bm2, J_ti, J_toInt, z_cn, Int32.reduceToInt]) <;> omega) (by (try simp (disch := omega) only [Int32.lt_iff_toInt_lt, Int32.le_iff_toInt_le, ← Int32.toInt_inj, Int32.toInt_add, Int32.toInt_sub, Int32.toInt_mul, Int32.toInt_neg, z_bm, z_bm2, J_ti, J_toInt, z_cn, Int32.reduceToInt]) <;> omega)]
  simp only [k_let]
  unfold z_apR
  rw [h]
  have : (k_wA u 71 (J m).toNatClampNeg c).1 4247 = J m := h
  rw [this]
theorem z_run_in {rc : Int32 → Int32 → Int32 → k_S → Option (Int32 × k_S)} {u : k_S} {m d : Nat} (h : u.1 3503 = J m) (hm : m < 24) (hd : d ≤ 40) (c x : Int32) : f_Bodies_run rc c x (J d) u = f_Bodies_run_J37 rc c x (J d) (k_wA u 37 m c) := by
  unfold f_Bodies_run
  rw [if_pos (by (try simp (disch := omega) only [Int32.lt_iff_toInt_lt, Int32.le_iff_toInt_le, ← Int32.toInt_inj, Int32.toInt_add, Int32.toInt_sub, Int32.toInt_mul, Int32.toInt_neg, z_bm, z_bm2, J_ti, J_toInt, z_cn, Int32.reduceToInt]) <;> omega), h, if_neg (by (try simp (disch := omega) only [Int32.lt_iff_toInt_lt, Int32.le_iff_toInt_le, ← Int32.toInt_inj, Int32.toInt_add, Int32.toInt_sub, Int32.toInt_mul, Int32.toInt_neg, z_bm, z_bm2, J_ti, J_toInt, z_cn, Int32.reduceToInt]) <;> omega), if_neg (by (try simp (disch := omega) only [Int32.lt_iff_toInt_lt, Int32.le_iff_toInt_le, ← Int32.toInt_inj, Int32.toInt_add, Int32.toInt_sub, Int32.toInt_mul, Int32.toInt_neg, z_bm, z_bm2, J_ti, J_toInt, z_cn, Int32.reduceToInt]) <;> omega), z_cko _ (by (try simp (disch := omega) only [Int32.lt_iff_toInt_lt, Int32.le_iff_toInt_le, ← Int32.toInt_inj, Int32.toInt_add, Int32.toInt_sub, Int32.toInt_mul, Int32.toInt_neg, z_bm, z_bm2, J_ti, J_toInt, z_cn, Int32.reduceToInt]) <;> omega) (by (try simp (disch := omega) only [Int32.lt_iff_toInt_lt, Int32.le_iff_toInt_le, ← Int32.toInt_inj, Int32.toInt_add, Int32.toInt_sub, Int32.toInt_mul, Int32.toInt_neg, z_bm, z_bm2, J_ti, J_toInt, z_cn, Int32.reduceToInt]) <;> omega), J_toNat (by omega)]
  rfl
theorem z_eta {α : Type} {o : Option (α × k_S)} : k_bind o (fun a u => some (a, u)) = o := by
  cases o with
  | none => rfl
  | some p => rfl
/-- the class in a body's act: m codes traced, b the body, k its kind -/
def z_gW (b k m : Nat) (u : k_S) : Prop := b < 50 ∧ k < 8 ∧ u.1 3503 = J m ∧ u.1 3504 = J b ∧ u.2.1 36 b = J k
theorem z_gW_ap {b k m : Nat} {u : k_S} (h : z_gW b k m u) (c : Int32) : z_gW b k (m + 1) (z_apW u c) := by
  obtain ⟨h1, h2, h3, h4, h5⟩ := h
  refine ⟨h1, h2, ?_, h4, h5⟩
  show u.1 3503 + 1 = J (m + 1)
  rw [h3, z_Jp]
theorem z_call {rc : Int32 → Int32 → Int32 → k_S → Option (Int32 × k_S)} {b k m a d : Nat} {u : k_S} (h : z_gW b k m u) (ha : a < 4) (x : Int32) : f_Bodies_call rc (J a) x (J d) u = rc (z_bf k a) x (J (d + 1)) u := by
  obtain ⟨h1, h2, h3, h4, h5⟩ := h
  unfold f_Bodies_call
  rw [h4, z_Bodies_kindOf h1, z_bind_some, h5, z_bodyFor h2 ha, z_bind_some, z_eta, z_Jp]
theorem z_above {rc : Int32 → Int32 → Int32 → k_S → Option (Int32 × k_S)} {k p a d : Nat} {u : k_S} (hk : k < 8) (hp : k_t102 k = J p) (hp8 : p < 8) (ha : a < 4) (x : Int32) : f_Bodies_above rc (J k) (J a) x (J d) u = rc (z_bf p a) x (J (d + 1)) u := by
  unfold f_Bodies_above f_Bodies_above_J21
  rw [if_neg (by (try simp (disch := omega) only [Int32.lt_iff_toInt_lt, Int32.le_iff_toInt_le, ← Int32.toInt_inj, Int32.toInt_add, Int32.toInt_sub, Int32.toInt_mul, Int32.toInt_neg, z_bm, z_bm2, J_ti, J_toInt, z_cn, Int32.reduceToInt]) <;> omega), if_neg (by (try simp (disch := omega) only [Int32.lt_iff_toInt_lt, Int32.le_iff_toInt_le, ← Int32.toInt_inj, Int32.toInt_add, Int32.toInt_sub, Int32.toInt_mul, Int32.toInt_neg, z_bm, z_bm2, J_ti, J_toInt, z_cn, Int32.reduceToInt]) <;> omega), z_cko _ (by (try simp (disch := omega) only [Int32.lt_iff_toInt_lt, Int32.le_iff_toInt_le, ← Int32.toInt_inj, Int32.toInt_add, Int32.toInt_sub, Int32.toInt_mul, Int32.toInt_neg, z_bm, z_bm2, J_ti, J_toInt, z_cn, Int32.reduceToInt]) <;> omega) (by (try simp (disch := omega) only [Int32.lt_iff_toInt_lt, Int32.le_iff_toInt_le, ← Int32.toInt_inj, Int32.toInt_add, Int32.toInt_sub, Int32.toInt_mul, Int32.toInt_neg, z_bm, z_bm2, J_ti, J_toInt, z_cn, Int32.reduceToInt]) <;> omega), J_toNat (by omega), hp, z_bodyFor hp8 ha, z_bind_some, z_eta, z_Jp]
theorem z_go {b k m d : Nat} {u : k_S} (h : z_gW b k m u) (hm : m < 24) (hd : d ≤ 40) (n : Nat) (c x : Int32) : f_Bodies_run_rec (n + 1) c x (J d) u = f_Bodies_run_J37 (f_Bodies_run_rec n) c x (J d) (k_wA u 37 m c) := z_run_in h.2.2.1 hm hd c x
theorem z_let_ap {α : Type} {b k m : Nat} {u : k_S} (h : z_gW b k m u) (hm : m < 24) (c : Int32) (F : k_S → Option (α × k_S)) : k_let (k_wF (k_wA u 37 m c) 3503 ((k_wA u 37 m c).1 3503 + 1)) F = F (z_apW u c) := by
  unfold z_apW
  rw [h.2.2.1, J_toNat (by omega)]
  have : (k_wA u 37 m c).1 3503 = J m := h.2.2.1
  rw [this]
  rfl
theorem z_w1 {b k m d : Nat} {u : k_S} (h : z_gW b k m u) (hm : m < 24) (hd : d ≤ 40) (n : Nat) (x : Int32) : f_Bodies_run_rec (n + 1) 1 x (J d) u = some (x + J b, z_apW u 1) := by
  rw [z_go h hm hd]
  unfold f_Bodies_run_J37
  rw [z_let_ap h hm, if_pos rfl, (z_gW_ap h 1).2.2.2.1]
theorem z_w20 {b k m d : Nat} {u : k_S} (h : z_gW b k m u) (hm : m < 23) (hd : d ≤ 39) (n : Nat) (x : Int32) : f_Bodies_run_rec (n + 2) 20 x (J d) u = some (x + J b + 3, z_apW (z_apW u 20) 1) := by
  rw [z_go h (by omega) (by omega)]
  unfold f_Bodies_run_J37
  rw [z_let_ap h (by omega), if_neg (by decide), if_neg (by decide), if_neg (by decide), if_neg (by decide), if_pos rfl]
  have := z_above (rc := f_Bodies_run_rec (n + 1)) (k := 1) (p := 0) (a := 0) (d := d) (u := z_apW u 20) (by omega) rfl (by omega) (by omega) x
  rw [show f_Bodies_above (f_Bodies_run_rec (n + 1)) 1 0 x (J d) (z_apW u 20) = _ from this]
  rw [show z_bf 0 0 = 1 from rfl, z_w1 (z_gW_ap h 20) (by omega) (by omega), z_bind_some]
theorem z_w11 {b k m d : Nat} {u : k_S} (h : z_gW b k m u) (hm : m < 24) (hd : d ≤ 40) (n : Nat) (x : Int32) : f_Bodies_run_rec (n + 1) 11 x (J d) u = some (x ^^^ J b, z_apW u 11) := by
  rw [z_go h hm hd]
  unfold f_Bodies_run_J37
  rw [z_let_ap h hm, if_neg (by decide), if_neg (by decide), if_neg (by decide), if_pos rfl, (z_gW_ap h 11).2.2.2.1]
theorem z_w70 {b k m d : Nat} {u : k_S} (h : z_gW b k m u) (hm : m < 23) (hd : d ≤ 39) (n : Nat) (x : Int32) : f_Bodies_run_rec (n + 2) 70 x (J d) u = some ((x + J b) * 2, z_apW (z_apW u 70) 1) := by
  rw [z_go h (by omega) (by omega)]
  unfold f_Bodies_run_J37
  rw [z_let_ap h (by omega), if_neg (by decide), if_neg (by decide), if_neg (by decide), if_neg (by decide), if_neg (by decide), if_neg (by decide), if_neg (by decide), if_neg (by decide), if_neg (by decide), if_neg (by decide), if_neg (by decide), if_pos rfl]
  have := z_above (rc := f_Bodies_run_rec (n + 1)) (k := 6) (p := 0) (a := 0) (d := d) (u := z_apW u 70) (by omega) rfl (by omega) (by omega) x
  rw [show f_Bodies_above (f_Bodies_run_rec (n + 1)) 6 0 x (J d) (z_apW u 70) = _ from this]
  rw [show z_bf 0 0 = 1 from rfl, z_w1 (z_gW_ap h 70) (by omega) (by omega), z_bind_some]
theorem z_w81 {b k m d : Nat} {u : k_S} (h : z_gW b k m u) (hm : m < 22) (hd : d ≤ 38) (n : Nat) (x : Int32) : f_Bodies_run_rec (n + 3) 81 x (J d) u = some ((x + J b) * 2 - 1, z_apW (z_apW (z_apW u 81) 70) 1) := by
  rw [z_go h (by omega) (by omega)]
  unfold f_Bodies_run_J37
  rw [z_let_ap h (by omega), if_neg (by decide), if_neg (by decide), if_neg (by decide), if_neg (by decide), if_neg (by decide), if_neg (by decide), if_neg (by decide), if_neg (by decide), if_neg (by decide), if_neg (by decide), if_neg (by decide), if_neg (by decide), if_neg (by decide), if_pos rfl]
  have := z_above (rc := f_Bodies_run_rec (n + 2)) (k := 7) (p := 6) (a := 0) (d := d) (u := z_apW u 81) (by omega) rfl (by omega) (by omega) x
  rw [show f_Bodies_above (f_Bodies_run_rec (n + 2)) 7 0 x (J d) (z_apW u 81) = _ from this]
  rw [show z_bf 6 0 = 70 from rfl, z_w70 (z_gW_ap h 81) (by omega) (by omega), z_bind_some]
/-- turning: its value and its codes, by the kind -/
def z_tuv (k : Nat) (x b : Int32) : Int32 := if k = 1 ∨ k = 4 ∨ k = 5 then x + b + 3 else if k = 6 then (x + b) * 2 else if k = 7 then (x + b) * 2 - 1 else x + b
def z_tuc (k : Nat) : List Int32 := if k = 1 ∨ k = 4 ∨ k = 5 then [20, 1] else if k = 6 then [70, 1] else if k = 7 then [81, 70, 1] else [1]
theorem z_tuW {b k m d : Nat} {u : k_S} (h : z_gW b k m u) (hm : m < 22) (hd : d ≤ 38) (n : Nat) (x : Int32) : f_Bodies_run_rec (n + 3) (z_bf k 0) x (J d) u = some (z_tuv k x (J b), (z_tuc k).foldl z_apW u) := by
  have hk := h.2.1
  rcases (show k = 0 ∨ k = 1 ∨ k = 2 ∨ k = 3 ∨ k = 4 ∨ k = 5 ∨ k = 6 ∨ k = 7 by omega) with rfl | rfl | rfl | rfl | rfl | rfl | rfl | rfl
  · exact z_w1 h (by omega) (by omega) (n + 2) x
  · exact z_w20 h (by omega) (by omega) (n + 1) x
  · exact z_w1 h (by omega) (by omega) (n + 2) x
  · exact z_w1 h (by omega) (by omega) (n + 2) x
  · exact z_w20 h (by omega) (by omega) (n + 1) x
  · exact z_w20 h (by omega) (by omega) (n + 1) x
  · exact z_w70 h (by omega) (by omega) (n + 1) x
  · exact z_w81 h (by omega) (by omega) n x
/-- the reference in a body's act -/
def z_gR (b k m : Nat) (u : k_S) : Prop := b < 50 ∧ k < 8 ∧ u.1 4247 = J m ∧ u.2.1 70 b = J k
theorem z_gR_ap {b k m : Nat} {u : k_S} (h : z_gR b k m u) (c : Int32) : z_gR b k (m + 1) (z_apR u c) := by
  obtain ⟨h1, h2, h3, h5⟩ := h
  refine ⟨h1, h2, ?_, h5⟩
  show u.1 4247 + 1 = J (m + 1)
  rw [h3, z_Jp]
theorem z_rPT {b k m : Nat} {u : k_S} (h : z_gR b k m u) (hm : m < 24) (x : Int32) : f_R_plainTurns (J b) x u = some (x + J b, z_apR u 1) := by
  unfold f_R_plainTurns
  rw [z_ran h.2.2.1 hm, z_bind_some]
theorem z_rTT {b k m : Nat} {u : k_S} (h : z_gR b k m u) (hm : m < 23) (x : Int32) : f_R_toldTurns (J b) x u = some ((x + J b) * 2, z_apR (z_apR u 70) 1) := by
  unfold f_R_toldTurns
  rw [z_ran h.2.2.1 (by omega), z_bind_some, z_rPT (z_gR_ap h 70) (by omega), z_bind_some]
theorem z_tuR {b k m : Nat} {u : k_S} (h : z_gR b k m u) (hm : m < 22) (x : Int32) : f_R_turning (J b) x u = some (z_tuv k x (J b), (z_tuc k).foldl z_apR u) := by
  obtain ⟨h1, h2, h3, h5⟩ := id h
  have cb : ∀ {α : Type} (o : Option α), k_ck (J b) 50 o = o := fun o => z_cko o (by (try simp (disch := omega) only [Int32.lt_iff_toInt_lt, Int32.le_iff_toInt_le, ← Int32.toInt_inj, Int32.toInt_add, Int32.toInt_sub, Int32.toInt_mul, Int32.toInt_neg, z_bm, z_bm2, J_ti, J_toInt, z_cn, Int32.reduceToInt]) <;> omega) (by (try simp (disch := omega) only [Int32.lt_iff_toInt_lt, Int32.le_iff_toInt_le, ← Int32.toInt_inj, Int32.toInt_add, Int32.toInt_sub, Int32.toInt_mul, Int32.toInt_neg, z_bm, z_bm2, J_ti, J_toInt, z_cn, Int32.reduceToInt]) <;> omega)
  unfold f_R_turning
  simp only [cb]
  rw [J_toNat (show b < 2147483648 by omega), h5]
  rcases (show k = 0 ∨ k = 1 ∨ k = 2 ∨ k = 3 ∨ k = 4 ∨ k = 5 ∨ k = 6 ∨ k = 7 by omega) with rfl | rfl | rfl | rfl | rfl | rfl | rfl | rfl
  · rw [show f_R_isUnder (J 0) 1 u = some (0, u) from rfl, z_bind_some, if_pos rfl, h5, if_neg (by decide), if_neg (by decide), z_rPT h (by omega), z_bind_some]; rfl
  · rw [show f_R_isUnder (J 1) 1 u = some (1, u) from rfl, z_bind_some, if_neg (by decide), z_ran h3 (by omega), z_bind_some, z_rPT (z_gR_ap h 20) (by omega), z_bind_some]; rfl
  · rw [show f_R_isUnder (J 2) 1 u = some (0, u) from rfl, z_bind_some, if_pos rfl, h5, if_neg (by decide), if_neg (by decide), z_rPT h (by omega), z_bind_some]; rfl
  · rw [show f_R_isUnder (J 3) 1 u = some (0, u) from rfl, z_bind_some, if_pos rfl, h5, if_neg (by decide), if_neg (by decide), z_rPT h (by omega), z_bind_some]; rfl
  · rw [show f_R_isUnder (J 4) 1 u = some (1, u) from rfl, z_bind_some, if_neg (by decide), z_ran h3 (by omega), z_bind_some, z_rPT (z_gR_ap h 20) (by omega), z_bind_some]; rfl
  · rw [show f_R_isUnder (J 5) 1 u = some (1, u) from rfl, z_bind_some, if_neg (by decide), z_ran h3 (by omega), z_bind_some, z_rPT (z_gR_ap h 20) (by omega), z_bind_some]; rfl
  · rw [show f_R_isUnder (J 6) 1 u = some (0, u) from rfl, z_bind_some, if_pos rfl, h5, if_neg (by decide), if_pos (show J 6 = 6 from rfl), z_rTT h (by omega), z_bind_some]; rfl
  · rw [show f_R_isUnder (J 7) 1 u = some (0, u) from rfl, z_bind_some, if_pos rfl, h5, if_pos (show J 7 = 7 from rfl), z_ran h3 (by omega), z_bind_some, z_rTT (z_gR_ap h 81) (by omega), z_bind_some]; rfl
/-! act: waiting, showing -/
theorem z_w10 {b k m d : Nat} {u : k_S} (h : z_gW b k m u) (hm : m < 21) (hd : d ≤ 37) (n : Nat) (x : Int32) : f_Bodies_run_rec (n + 4) 10 x (J d) u = some (z_tuv k x (J b) * 2, (10 :: z_tuc k).foldl z_apW u) := by
  rw [z_go h (by omega) (by omega)]
  unfold f_Bodies_run_J37
  rw [z_let_ap h (by omega), if_neg (by decide), if_neg (by decide), if_pos rfl]
  have := z_call (rc := f_Bodies_run_rec (n + 3)) (a := 0) (d := d) (z_gW_ap h 10) (by omega) x
  rw [show f_Bodies_call (f_Bodies_run_rec (n + 3)) 0 x (J d) (z_apW u 10) = _ from this]
  rw [z_tuW (z_gW_ap h 10) (by omega) (by omega), z_bind_some]
  rfl
theorem z_w30 {b k m d : Nat} {u : k_S} (h : z_gW b k m u) (hm : m < 20) (hd : d ≤ 36) (n : Nat) (x : Int32) : f_Bodies_run_rec (n + 5) 30 x (J d) u = some (-(z_tuv k x (J b) * 2), (30 :: 10 :: z_tuc k).foldl z_apW u) := by
  rw [z_go h (by omega) (by omega)]
  unfold f_Bodies_run_J37
  rw [z_let_ap h (by omega), if_neg (by decide), if_neg (by decide), if_neg (by decide), if_neg (by decide), if_neg (by decide), if_pos rfl]
  have := z_above (rc := f_Bodies_run_rec (n + 4)) (k := 2) (p := 0) (a := 1) (d := d) (u := z_apW u 30) (by omega) rfl (by omega) (by omega) x
  rw [show f_Bodies_above (f_Bodies_run_rec (n + 4)) 2 1 x (J d) (z_apW u 30) = _ from this]
  rw [show z_bf 0 1 = 10 from rfl, z_w10 (z_gW_ap h 30) (by omega) (by omega), z_bind_some]
  rfl
theorem z_w41 {b k m d : Nat} {u : k_S} (h : z_gW b k m u) (hm : m < 19) (hd : d ≤ 35) (n : Nat) (x : Int32) : f_Bodies_run_rec (n + 6) 41 x (J d) u = some (-(z_tuv k (x + 1) (J b) * 2), (41 :: 30 :: 10 :: z_tuc k).foldl z_apW u) := by
  rw [z_go h (by omega) (by omega)]
  unfold f_Bodies_run_J37
  rw [z_let_ap h (by omega), if_neg (by decide), if_neg (by decide), if_neg (by decide), if_neg (by decide), if_neg (by decide), if_neg (by decide), if_neg (by decide), if_pos rfl]
  have := z_above (rc := f_Bodies_run_rec (n + 5)) (k := 3) (p := 2) (a := 1) (d := d) (u := z_apW u 41) (by omega) rfl (by omega) (by omega) (x + 1)
  rw [show f_Bodies_above (f_Bodies_run_rec (n + 5)) 3 1 (x + 1) (J d) (z_apW u 41) = _ from this]
  rw [show z_bf 2 1 = 30 from rfl, z_w30 (z_gW_ap h 41) (by omega) (by omega), z_bind_some]
  rfl
theorem z_w40 {b k m d : Nat} {u : k_S} (h : z_gW b k m u) (hm : m < 23) (hd : d ≤ 39) (n : Nat) (x : Int32) : f_Bodies_run_rec (n + 2) 40 x (J d) u = some ((x ^^^ J b) * 3, [40, 11].foldl z_apW u) := by
  rw [z_go h (by omega) (by omega)]
  unfold f_Bodies_run_J37
  rw [z_let_ap h (by omega), if_neg (by decide), if_neg (by decide), if_neg (by decide), if_neg (by decide), if_neg (by decide), if_neg (by decide), if_pos rfl]
  have := z_above (rc := f_Bodies_run_rec (n + 1)) (k := 3) (p := 2) (a := 2) (d := d) (u := z_apW u 40) (by omega) rfl (by omega) (by omega) x
  rw [show f_Bodies_above (f_Bodies_run_rec (n + 1)) 3 2 x (J d) (z_apW u 40) = _ from this]
  rw [show z_bf 2 2 = 11 from rfl, z_w11 (z_gW_ap h 40) (by omega) (by omega), z_bind_some]
  rfl
theorem z_w60 {b k m d : Nat} {u : k_S} (h : z_gW b k m u) (hm : m < 20) (hd : d ≤ 37) (n : Nat) (x : Int32) : f_Bodies_run_rec (n + 4) 60 x (J d) u = some ((x ^^^ J b) - z_tuv k 2 (J b), (60 :: 11 :: z_tuc k).foldl z_apW u) := by
  rw [z_go h (by omega) (by omega)]
  unfold f_Bodies_run_J37
  rw [z_let_ap h (by omega), if_neg (by decide), if_neg (by decide), if_neg (by decide), if_neg (by decide), if_neg (by decide), if_neg (by decide), if_neg (by decide), if_neg (by decide), if_neg (by decide), if_pos rfl]
  have := z_above (rc := f_Bodies_run_rec (n + 3)) (k := 5) (p := 4) (a := 2) (d := d) (u := z_apW u 60) (by omega) rfl (by omega) (by omega) x
  rw [show f_Bodies_above (f_Bodies_run_rec (n + 3)) 5 2 x (J d) (z_apW u 60) = _ from this]
  rw [show z_bf 4 2 = 11 from rfl, z_w11 (z_gW_ap h 60) (by omega) (by omega), z_bind_some]
  have := z_call (rc := f_Bodies_run_rec (n + 3)) (a := 0) (d := d) (z_gW_ap (z_gW_ap h 60) 11) (by omega) 2
  rw [show f_Bodies_call (f_Bodies_run_rec (n + 3)) 0 2 (J d) (z_apW (z_apW u 60) 11) = _ from this]
  rw [z_tuW (z_gW_ap (z_gW_ap h 60) 11) (by omega) (by omega), z_bind_some]
  rfl
/-- waiting: its value and its codes -/
def z_wav (k : Nat) (x b : Int32) : Int32 := if k = 3 then (x ^^^ b) * 3 else if k = 5 then (x ^^^ b) - z_tuv k 2 b else x ^^^ b
def z_wac (k : Nat) : List Int32 := if k = 3 then [40, 11] else if k = 5 then 60 :: 11 :: z_tuc k else [11]
theorem z_waW {b k m d : Nat} {u : k_S} (h : z_gW b k m u) (hm : m < 20) (hd : d ≤ 37) (n : Nat) (x : Int32) : f_Bodies_run_rec (n + 4) (z_bf k 2) x (J d) u = some (z_wav k x (J b), (z_wac k).foldl z_apW u) := by
  have hk := h.2.1
  rcases (show k = 0 ∨ k = 1 ∨ k = 2 ∨ k = 3 ∨ k = 4 ∨ k = 5 ∨ k = 6 ∨ k = 7 by omega) with rfl | rfl | rfl | rfl | rfl | rfl | rfl | rfl
  · exact z_w11 h (by omega) (by omega) (n + 3) x
  · exact z_w11 h (by omega) (by omega) (n + 3) x
  · exact z_w11 h (by omega) (by omega) (n + 3) x
  · exact z_w40 h (by omega) (by omega) (n + 2) x
  · exact z_w11 h (by omega) (by omega) (n + 3) x
  · exact z_w60 h (by omega) (by omega) n x
  · exact z_w11 h (by omega) (by omega) (n + 3) x
  · exact z_w11 h (by omega) (by omega) (n + 3) x
/-! act: the reference's showing, waiting -/
theorem z_rPS {b k m : Nat} {u : k_S} (h : z_gR b k m u) (hm : m < 21) (x : Int32) : f_R_plainShows (J b) x u = some (z_tuv k x (J b) * 2, (10 :: z_tuc k).foldl z_apR u) := by
  unfold f_R_plainShows
  rw [z_ran h.2.2.1 (by omega), z_bind_some, z_tuR (z_gR_ap h 10) (by omega), z_bind_some]
  rfl
theorem z_rSS {b k m : Nat} {u : k_S} (h : z_gR b k m u) (hm : m < 20) (x : Int32) : f_R_skipShows (J b) x u = some (-(z_tuv k x (J b) * 2), (30 :: 10 :: z_tuc k).foldl z_apR u) := by
  unfold f_R_skipShows
  rw [z_ran h.2.2.1 (by omega), z_bind_some, z_rPS (z_gR_ap h 30) (by omega), z_bind_some]
  rfl
theorem z_rPW {b k m : Nat} {u : k_S} (h : z_gR b k m u) (hm : m < 24) (x : Int32) : f_R_plainWaits (J b) x u = some (x ^^^ J b, z_apR u 11) := by
  unfold f_R_plainWaits
  rw [z_ran h.2.2.1 (by omega), z_bind_some]
theorem z_waR {b k m : Nat} {u : k_S} (h : z_gR b k m u) (hm : m < 20) (x : Int32) : f_R_waiting (J b) x u = some (z_wav k x (J b), (z_wac k).foldl z_apR u) := by
  obtain ⟨h1, h2, h3, h5⟩ := id h
  have cb : ∀ {α : Type} (o : Option α), k_ck (J b) 50 o = o := fun o => z_cko o (by (try simp (disch := omega) only [Int32.lt_iff_toInt_lt, Int32.le_iff_toInt_le, ← Int32.toInt_inj, Int32.toInt_add, Int32.toInt_sub, Int32.toInt_mul, Int32.toInt_neg, z_bm, z_bm2, J_ti, J_toInt, z_cn, Int32.reduceToInt]) <;> omega) (by (try simp (disch := omega) only [Int32.lt_iff_toInt_lt, Int32.le_iff_toInt_le, ← Int32.toInt_inj, Int32.toInt_add, Int32.toInt_sub, Int32.toInt_mul, Int32.toInt_neg, z_bm, z_bm2, J_ti, J_toInt, z_cn, Int32.reduceToInt]) <;> omega)
  unfold f_R_waiting
  simp only [cb]
  rw [J_toNat (show b < 2147483648 by omega), h5]
  by_cases e3 : k = 3
  · subst e3
    rw [if_pos (show J 3 = 3 from rfl), z_ran h3 (by omega), z_bind_some, z_rPW (z_gR_ap h 40) (by omega), z_bind_some]
    rfl
  by_cases e5 : k = 5
  · subst e5
    rw [if_neg (show ¬ J 5 = 3 by decide), if_pos (show J 5 = 5 from rfl), z_ran h3 (by omega), z_bind_some, z_rPW (z_gR_ap h 60) (by omega), z_bind_some, z_tuR (z_gR_ap (z_gR_ap h 60) 11) (by omega), z_bind_some]
    rfl
  rw [if_neg (by (try simp (disch := omega) only [Int32.lt_iff_toInt_lt, Int32.le_iff_toInt_le, ← Int32.toInt_inj, Int32.toInt_add, Int32.toInt_sub, Int32.toInt_mul, Int32.toInt_neg, z_bm, z_bm2, J_ti, J_toInt, z_cn, Int32.reduceToInt]) <;> omega), if_neg (by (try simp (disch := omega) only [Int32.lt_iff_toInt_lt, Int32.le_iff_toInt_le, ← Int32.toInt_inj, Int32.toInt_add, Int32.toInt_sub, Int32.toInt_mul, Int32.toInt_neg, z_bm, z_bm2, J_ti, J_toInt, z_cn, Int32.reduceToInt]) <;> omega), z_rPW h (by omega), z_bind_some]
  unfold z_wav z_wac
  rw [if_neg e3, if_neg e5, if_neg e3, if_neg e5]
  rfl
/-- showing: its value and its codes -/
def z_shv (k : Nat) (x b : Int32) : Int32 := if k = 3 then -(z_tuv 3 (x + 1) b * 2) else if k = 7 then z_tuv 7 x b * 2 + z_wav 7 2 b else if k = 2 then -(z_tuv 2 x b * 2) else z_tuv k x b * 2
def z_shc (k : Nat) : List Int32 := if k = 3 then 41 :: 30 :: 10 :: z_tuc 3 else if k = 7 then 80 :: 10 :: (z_tuc 7 ++ z_wac 7) else if k = 2 then 30 :: 10 :: z_tuc 2 else 10 :: z_tuc k
theorem z_gR_fo {b k : Nat} : ∀ (cs : List Int32) {m : Nat} {u : k_S}, z_gR b k m u → z_gR b k (m + cs.length) (cs.foldl z_apR u)
  | [], _, _, h => h
  | c :: cs, m, u, h => by
    have := z_gR_fo cs (z_gR_ap h c)
    rw [show m + 1 + cs.length = m + (c :: cs).length by rw [List.length_cons]; omega] at this
    exact this
theorem z_gW_fo {b k : Nat} : ∀ (cs : List Int32) {m : Nat} {u : k_S}, z_gW b k m u → z_gW b k (m + cs.length) (cs.foldl z_apW u)
  | [], _, _, h => h
  | c :: cs, m, u, h => by
    have := z_gW_fo cs (z_gW_ap h c)
    rw [show m + 1 + cs.length = m + (c :: cs).length by rw [List.length_cons]; omega] at this
    exact this
theorem z_shR7 {b k m : Nat} {u : k_S} (h : z_gR b k m u) (hm : m < 12) (x : Int32) : f_R_showing (J b) x u = some (z_shv k x (J b), (z_shc k).foldl z_apR u) := by
  obtain ⟨h1, h2, h3, h5⟩ := id h
  have cb : ∀ {α : Type} (o : Option α), k_ck (J b) 50 o = o := fun o => z_cko o (by (try simp (disch := omega) only [Int32.lt_iff_toInt_lt, Int32.le_iff_toInt_le, ← Int32.toInt_inj, Int32.toInt_add, Int32.toInt_sub, Int32.toInt_mul, Int32.toInt_neg, z_bm, z_bm2, J_ti, J_toInt, z_cn, Int32.reduceToInt]) <;> omega) (by (try simp (disch := omega) only [Int32.lt_iff_toInt_lt, Int32.le_iff_toInt_le, ← Int32.toInt_inj, Int32.toInt_add, Int32.toInt_sub, Int32.toInt_mul, Int32.toInt_neg, z_bm, z_bm2, J_ti, J_toInt, z_cn, Int32.reduceToInt]) <;> omega)
  unfold f_R_showing
  simp only [cb]
  rw [J_toNat (show b < 2147483648 by omega), h5]
  by_cases e3 : k = 3
  · subst e3
    rw [if_pos (show J 3 = 3 from rfl), z_ran h3 (by omega), z_bind_some, z_rSS (z_gR_ap h 41) (by omega), z_bind_some]
    rfl
  by_cases e7 : k = 7
  · subst e7
    rw [if_neg (show ¬ J 7 = 3 by decide), if_pos (show J 7 = 7 from rfl), z_ran h3 (by omega), z_bind_some, z_rPS (z_gR_ap h 80) (by omega), z_bind_some]
    have g := z_gR_fo (10 :: z_tuc 7) (z_gR_ap h 80)
    rw [z_waR g (by rw [show (10 :: z_tuc 7).length = 4 from rfl]; omega), z_bind_some]
    rfl
  by_cases e2 : k = 2
  · subst e2
    rw [if_neg (show ¬ J 2 = 3 by decide), if_neg (show ¬ J 2 = 7 by decide), if_pos (show J 2 = 2 from rfl), z_rSS h (by omega), z_bind_some]
    rfl
  rw [if_neg (by (try simp (disch := omega) only [Int32.lt_iff_toInt_lt, Int32.le_iff_toInt_le, ← Int32.toInt_inj, Int32.toInt_add, Int32.toInt_sub, Int32.toInt_mul, Int32.toInt_neg, z_bm, z_bm2, J_ti, J_toInt, z_cn, Int32.reduceToInt]) <;> omega), if_neg (by (try simp (disch := omega) only [Int32.lt_iff_toInt_lt, Int32.le_iff_toInt_le, ← Int32.toInt_inj, Int32.toInt_add, Int32.toInt_sub, Int32.toInt_mul, Int32.toInt_neg, z_bm, z_bm2, J_ti, J_toInt, z_cn, Int32.reduceToInt]) <;> omega), if_neg (by (try simp (disch := omega) only [Int32.lt_iff_toInt_lt, Int32.le_iff_toInt_le, ← Int32.toInt_inj, Int32.toInt_add, Int32.toInt_sub, Int32.toInt_mul, Int32.toInt_neg, z_bm, z_bm2, J_ti, J_toInt, z_cn, Int32.reduceToInt]) <;> omega), z_rPS h (by omega), z_bind_some]
  unfold z_shv z_shc
  rw [if_neg e3, if_neg e7, if_neg e2, if_neg e3, if_neg e7, if_neg e2]
theorem z_w80 {b m d : Nat} {u : k_S} (h : z_gW b 7 m u) (hm : m < 12) (hd : d ≤ 30) (n : Nat) (x : Int32) : f_Bodies_run_rec (n + 6) 80 x (J d) u = some (z_shv 7 x (J b), (z_shc 7).foldl z_apW u) := by
  rw [z_go h (by omega) (by omega)]
  unfold f_Bodies_run_J37
  rw [z_let_ap h (by omega), if_neg (by decide), if_neg (by decide), if_neg (by decide), if_neg (by decide), if_neg (by decide), if_neg (by decide), if_neg (by decide), if_neg (by decide), if_neg (by decide), if_neg (by decide), if_neg (by decide), if_neg (by decide), if_pos rfl]
  have := z_above (rc := f_Bodies_run_rec (n + 5)) (k := 7) (p := 6) (a := 1) (d := d) (u := z_apW u 80) (by omega) rfl (by omega) (by omega) x
  rw [show f_Bodies_above (f_Bodies_run_rec (n + 5)) 7 1 x (J d) (z_apW u 80) = _ from this]
  rw [show z_bf 6 1 = 10 from rfl, z_w10 (z_gW_ap h 80) (by omega) (by omega) (n + 1), z_bind_some]
  have g := z_gW_fo (10 :: z_tuc 7) (z_gW_ap h 80)
  have := z_call (rc := f_Bodies_run_rec (n + 5)) (a := 2) (d := d) g (by omega) 2
  rw [show f_Bodies_call (f_Bodies_run_rec (n + 5)) 2 2 (J d) _ = _ from this]
  rw [z_waW g (by rw [show (10 :: z_tuc 7).length = 4 from rfl]; omega) (by omega) (n + 1), z_bind_some]
  rfl
theorem z_shW7 {b k m d : Nat} {u : k_S} (h : z_gW b k m u) (hm : m < 12) (hd : d ≤ 30) (n : Nat) (x : Int32) : f_Bodies_run_rec (n + 6) (z_bf k 1) x (J d) u = some (z_shv k x (J b), (z_shc k).foldl z_apW u) := by
  have hk := h.2.1
  rcases (show k = 0 ∨ k = 1 ∨ k = 2 ∨ k = 3 ∨ k = 4 ∨ k = 5 ∨ k = 6 ∨ k = 7 by omega) with rfl | rfl | rfl | rfl | rfl | rfl | rfl | rfl
  · exact z_w10 h (by omega) (by omega) (n + 2) x
  · exact z_w10 h (by omega) (by omega) (n + 2) x
  · exact z_w30 h (by omega) (by omega) (n + 1) x
  · exact z_w41 h (by omega) (by omega) n x
  · exact z_w10 h (by omega) (by omega) (n + 2) x
  · exact z_w10 h (by omega) (by omega) (n + 2) x
  · exact z_w10 h (by omega) (by omega) (n + 2) x
  · exact z_w80 h hm hd n x
/-! act: telling -/
theorem z_sl (k : Nat) (hk : k < 8) : (z_shc k).length ≤ 6 ∧ (z_wac k).length ≤ 4 := by
  rcases (show k = 0 ∨ k = 1 ∨ k = 2 ∨ k = 3 ∨ k = 4 ∨ k = 5 ∨ k = 6 ∨ k = 7 by omega) with rfl | rfl | rfl | rfl | rfl | rfl | rfl | rfl <;> decide
def z_ptv (k : Nat) (x b : Int32) : Int32 := z_shv k x b - z_wav k 1 b
def z_ptc (k : Nat) : List Int32 := 2 :: (z_shc k ++ z_wac k)
theorem z_w2 {b k m d : Nat} {u : k_S} (h : z_gW b k m u) (hm : m < 10) (hd : d ≤ 20) (n : Nat) (x : Int32) : f_Bodies_run_rec (n + 7) 2 x (J d) u = some (z_ptv k x (J b), (z_ptc k).foldl z_apW u) := by
  have hl := z_sl k h.2.1
  rw [z_go h (by omega) (by omega)]
  unfold f_Bodies_run_J37
  rw [z_let_ap h (by omega), if_neg (by decide), if_pos rfl]
  have := z_call (rc := f_Bodies_run_rec (n + 6)) (a := 1) (d := d) (z_gW_ap h 2) (by omega) x
  rw [show f_Bodies_call (f_Bodies_run_rec (n + 6)) 1 x (J d) (z_apW u 2) = _ from this]
  rw [z_shW7 (z_gW_ap h 2) (by omega) (by omega), z_bind_some]
  have g := z_gW_fo (z_shc k) (z_gW_ap h 2)
  have := z_call (rc := f_Bodies_run_rec (n + 6)) (a := 2) (d := d) g (by omega) 1
  rw [show f_Bodies_call (f_Bodies_run_rec (n + 6)) 2 1 (J d) _ = _ from this]
  rw [z_waW g (by omega) (by omega) (n + 2), z_bind_some]
  unfold z_ptv z_ptc
  rw [List.foldl_cons, List.foldl_append]
theorem z_rPTl {b k m : Nat} {u : k_S} (h : z_gR b k m u) (hm : m < 10) (x : Int32) : f_R_plainTells (J b) x u = some (z_ptv k x (J b), (z_ptc k).foldl z_apR u) := by
  have hl := z_sl k h.2.1
  unfold f_R_plainTells
  rw [z_ran h.2.2.1 (by omega), z_bind_some, z_shR7 (z_gR_ap h 2) (by omega), z_bind_some]
  have g := z_gR_fo (z_shc k) (z_gR_ap h 2)
  rw [z_waR g (by omega), z_bind_some]
  unfold z_ptv z_ptc
  rw [List.foldl_cons, List.foldl_append]
def z_tev (k : Nat) (x b : Int32) : Int32 := if k = 5 then (z_ptv 5 x b ^^^ 5) + 1 else if k = 4 then z_ptv 4 x b ^^^ 5 else z_ptv k x b
def z_tec (k : Nat) : List Int32 := if k = 5 then 61 :: 50 :: z_ptc 5 else if k = 4 then 50 :: z_ptc 4 else z_ptc k
theorem z_w50 {b k m d : Nat} {u : k_S} (h : z_gW b k m u) (hm : m < 9) (hd : d ≤ 19) (n : Nat) (x : Int32) : f_Bodies_run_rec (n + 8) 50 x (J d) u = some (z_ptv k x (J b) ^^^ 5, (50 :: z_ptc k).foldl z_apW u) := by
  rw [z_go h (by omega) (by omega)]
  unfold f_Bodies_run_J37
  rw [z_let_ap h (by omega), if_neg (by decide), if_neg (by decide), if_neg (by decide), if_neg (by decide), if_neg (by decide), if_neg (by decide), if_neg (by decide), if_neg (by decide), if_pos rfl]
  have := z_above (rc := f_Bodies_run_rec (n + 7)) (k := 4) (p := 1) (a := 3) (d := d) (u := z_apW u 50) (by omega) rfl (by omega) (by omega) x
  rw [show f_Bodies_above (f_Bodies_run_rec (n + 7)) 4 3 x (J d) (z_apW u 50) = _ from this]
  rw [show z_bf 1 3 = 2 from rfl, z_w2 (z_gW_ap h 50) (by omega) (by omega), z_bind_some]
  rfl
theorem z_w61 {b k m d : Nat} {u : k_S} (h : z_gW b k m u) (hm : m < 8) (hd : d ≤ 18) (n : Nat) (x : Int32) : f_Bodies_run_rec (n + 9) 61 x (J d) u = some ((z_ptv k x (J b) ^^^ 5) + 1, (61 :: 50 :: z_ptc k).foldl z_apW u) := by
  rw [z_go h (by omega) (by omega)]
  unfold f_Bodies_run_J37
  rw [z_let_ap h (by omega), if_neg (by decide), if_neg (by decide), if_neg (by decide), if_neg (by decide), if_neg (by decide), if_neg (by decide), if_neg (by decide), if_neg (by decide), if_neg (by decide), if_neg (by decide), if_pos rfl]
  have := z_above (rc := f_Bodies_run_rec (n + 8)) (k := 5) (p := 4) (a := 3) (d := d) (u := z_apW u 61) (by omega) rfl (by omega) (by omega) x
  rw [show f_Bodies_above (f_Bodies_run_rec (n + 8)) 5 3 x (J d) (z_apW u 61) = _ from this]
  rw [show z_bf 4 3 = 50 from rfl, z_w50 (z_gW_ap h 61) (by omega) (by omega), z_bind_some]
  rfl
theorem z_rFT {b k m : Nat} {u : k_S} (h : z_gR b k m u) (hm : m < 9) (x : Int32) : f_R_frostTells (J b) x u = some (z_ptv k x (J b) ^^^ 5, (50 :: z_ptc k).foldl z_apR u) := by
  unfold f_R_frostTells
  rw [z_ran h.2.2.1 (by omega), z_bind_some, z_rPTl (z_gR_ap h 50) (by omega), z_bind_some]
  rfl
theorem z_teW {b k m d : Nat} {u : k_S} (h : z_gW b k m u) (hm : m < 8) (hd : d ≤ 18) (n : Nat) (x : Int32) : f_Bodies_run_rec (n + 9) (z_bf k 3) x (J d) u = some (z_tev k x (J b), (z_tec k).foldl z_apW u) := by
  have hk := h.2.1
  unfold z_tev z_tec
  by_cases e5 : k = 5
  · subst e5
    rw [if_pos rfl, if_pos rfl, show z_bf 5 3 = 61 from rfl]
    exact z_w61 h hm hd n x
  by_cases e4 : k = 4
  · subst e4
    rw [if_neg (show ¬ (4 : Nat) = 5 by decide), if_pos rfl, if_neg (show ¬ (4 : Nat) = 5 by decide), if_pos rfl, show z_bf 4 3 = 50 from rfl]
    exact z_w50 h (by omega) (by omega) (n + 1) x
  have hb : z_bf k 3 = 2 := by
    rcases (show k = 0 ∨ k = 1 ∨ k = 2 ∨ k = 3 ∨ k = 6 ∨ k = 7 by omega) with rfl | rfl | rfl | rfl | rfl | rfl <;> rfl
  rw [if_neg e5, if_neg e4, if_neg e5, if_neg e4, hb]
  exact z_w2 h (by omega) (by omega) (n + 2) x
theorem z_teR {b k m : Nat} {u : k_S} (h : z_gR b k m u) (hm : m < 8) (x : Int32) : f_R_telling (J b) x u = some (z_tev k x (J b), (z_tec k).foldl z_apR u) := by
  obtain ⟨h1, h2, h3, h5⟩ := id h
  have cb : ∀ {α : Type} (o : Option α), k_ck (J b) 50 o = o := fun o => z_cko o (by (try simp (disch := omega) only [Int32.lt_iff_toInt_lt, Int32.le_iff_toInt_le, ← Int32.toInt_inj, Int32.toInt_add, Int32.toInt_sub, Int32.toInt_mul, Int32.toInt_neg, z_bm, z_bm2, J_ti, J_toInt, z_cn, Int32.reduceToInt]) <;> omega) (by (try simp (disch := omega) only [Int32.lt_iff_toInt_lt, Int32.le_iff_toInt_le, ← Int32.toInt_inj, Int32.toInt_add, Int32.toInt_sub, Int32.toInt_mul, Int32.toInt_neg, z_bm, z_bm2, J_ti, J_toInt, z_cn, Int32.reduceToInt]) <;> omega)
  unfold f_R_telling z_tev z_tec
  simp only [cb]
  rw [J_toNat (show b < 2147483648 by omega), h5]
  by_cases e5 : k = 5
  · subst e5
    rw [if_pos (show J 5 = 5 from rfl), z_ran h3 (by omega), z_bind_some, z_rFT (z_gR_ap h 61) (by omega), z_bind_some, if_pos (show (5 : Nat) = 5 from rfl), if_pos (show (5 : Nat) = 5 from rfl)]
    simp only [List.foldl_cons]
  by_cases e4 : k = 4
  · subst e4
    rw [if_neg (show ¬ J 4 = 5 by decide), if_pos (show J 4 = 4 from rfl), z_rFT h (by omega), z_bind_some, if_neg (show ¬ (4 : Nat) = 5 by decide), if_pos (show (4 : Nat) = 4 from rfl), if_neg (show ¬ (4 : Nat) = 5 by decide), if_pos (show (4 : Nat) = 4 from rfl)]
  rw [if_neg (by (try simp (disch := omega) only [Int32.lt_iff_toInt_lt, Int32.le_iff_toInt_le, ← Int32.toInt_inj, Int32.toInt_add, Int32.toInt_sub, Int32.toInt_mul, Int32.toInt_neg, z_bm, z_bm2, J_ti, J_toInt, z_cn, Int32.reduceToInt]) <;> omega), if_neg (by (try simp (disch := omega) only [Int32.lt_iff_toInt_lt, Int32.le_iff_toInt_le, ← Int32.toInt_inj, Int32.toInt_add, Int32.toInt_sub, Int32.toInt_mul, Int32.toInt_neg, z_bm, z_bm2, J_ti, J_toInt, z_cn, Int32.reduceToInt]) <;> omega), z_rPTl h (by omega), z_bind_some, if_neg e5, if_neg e4, if_neg e5, if_neg e4]
/-! act: both -/
theorem z_foW : ∀ (cs : List Int32) (u : k_S), z_fr [3503] [37] u (cs.foldl z_apW u)
  | [], _ => z_fr.rf
  | c :: cs, u => ((z_wA rfl).tr (z_wF rfl) : z_fr [3503] [37] u (z_apW u c)).tr (z_foW cs (z_apW u c))
theorem z_foR : ∀ (cs : List Int32) (u : k_S), z_fr [4247] [71] u (cs.foldl z_apR u)
  | [], _ => z_fr.rf
  | c :: cs, u => ((z_wA rfl).tr (z_wF rfl) : z_fr [4247] [71] u (z_apR u c)).tr (z_foR cs (z_apR u c))
theorem z_foE : ∀ (cs : List Int32) (m : Nat) (u v : k_S), u.1 3503 = J m → v.1 4247 = J m → (∀ i, i < m → v.2.1 71 i = u.2.1 37 i) → m + cs.length ≤ 24 → (cs.foldl z_apW u).1 3503 = J (m + cs.length) ∧ (cs.foldl z_apR v).1 4247 = J (m + cs.length) ∧ ∀ i, i < m + cs.length → (cs.foldl z_apR v).2.1 71 i = (cs.foldl z_apW u).2.1 37 i
  | [], _, _, _, h1, h2, h3, _ => ⟨h1, h2, h3⟩
  | c :: cs, m, u, v, h1, h2, h3, h4 => by
    rw [List.length_cons] at h4 ⊢
    have := z_foE cs (m + 1) (z_apW u c) (z_apR v c) (by show u.1 3503 + 1 = _; rw [h1, z_Jp]) (by show v.1 4247 + 1 = _; rw [h2, z_Jp]) (fun i hi => by
      show (k_wA v 71 (v.1 4247).toNatClampNeg c).2.1 71 i = (k_wA u 37 (u.1 3503).toNatClampNeg c).2.1 37 i
      rw [h1, h2, J_toNat (by omega)]
      simp only [k_wA, if_true]
      rw [z_up, z_up]
      by_cases e : i = m
      · rw [if_pos e, if_pos e]
      · rw [if_neg e, if_neg e]
        exact h3 i (by omega)) (by omega)
    rw [show m + 1 + cs.length = m + (cs.length + 1) by omega] at this
    exact this
def z_acv (k a : Nat) (x b : Int32) : Int32 := if a = 0 then z_tuv k x b else if a = 1 then z_shv k x b else if a = 2 then z_wav k x b else z_tev k x b
def z_acc (k a : Nat) : List Int32 := if a = 0 then z_tuc k else if a = 1 then z_shc k else if a = 2 then z_wac k else z_tec k
theorem z_acl (k a : Nat) (hk : k < 8) : (z_acc k a).length ≤ 24 := by
  unfold z_acc
  rcases (show k = 0 ∨ k = 1 ∨ k = 2 ∨ k = 3 ∨ k = 4 ∨ k = 5 ∨ k = 6 ∨ k = 7 by omega) with rfl | rfl | rfl | rfl | rfl | rfl | rfl | rfl <;> (repeat' split) <;> decide
theorem z_acW {b k a : Nat} {u : k_S} (h : z_gW b k 0 u) (ha : a < 4) (x : Int32) : f_Bodies_call (f_Bodies_run_rec 12) (J a) x 0 u = some (z_acv k a x (J b), (z_acc k a).foldl z_apW u) := by
  have := z_call (rc := f_Bodies_run_rec 12) (a := a) (d := 0) h ha x
  rw [show f_Bodies_call (f_Bodies_run_rec 12) (J a) x 0 u = _ from this]
  unfold z_acv z_acc
  rcases (show a = 0 ∨ a = 1 ∨ a = 2 ∨ a = 3 by omega) with rfl | rfl | rfl | rfl
  · rw [if_pos rfl, if_pos rfl]; exact z_tuW h (by omega) (by omega) 9 x
  · rw [if_neg (by decide), if_pos rfl, if_neg (by decide), if_pos rfl]; exact z_shW7 h (by omega) (by omega) 6 x
  · rw [if_neg (by decide), if_neg (by decide), if_pos rfl, if_neg (by decide), if_neg (by decide), if_pos rfl]; exact z_waW h (by omega) (by omega) 8 x
  · rw [if_neg (by decide), if_neg (by decide), if_neg (by decide), if_neg (by decide), if_neg (by decide), if_neg (by decide)]; exact z_teW h (by omega) (by omega) 3 x
theorem z_act (a0 a1 a2 : Int32) (u : k_S) (h : zI u) : z_pair (f_W_act a0 a1 a2) (f_R_act a0 a1 a2) u zI := by
  obtain ⟨⟨n, hn, b1, b2, hk⟩, -⟩ := id h.2.2.2.2.2.2.2.2.1
  refine z_pair_of ?_
  unfold f_W_act f_Bodies_forgetTrace
  simp only [k_let]
  rw [z_bind_some]
  have f1 : z_fr [3503] [] u (k_wF u 3503 0) := z_wF rfl
  have c1 : (k_wF u 3503 0).1 3502 = J n := b1
  have zero : ∀ {v : k_S}, z_fr [3503, 4247] [] u v → v.1 3503 = 0 → v.1 4247 = 0 → zI v := fun {v} hf e1 e2 => by
    refine zI_B h (hf.mono rfl rfl) ⟨⟨n, hn, (hf.1 3502 rfl).trans b1, (hf.1 4245 rfl).trans b2, fun i hi => ?_⟩, 0, by omega, e1, e2, fun i hi => by omega⟩
    rw [hf.2.1 36 rfl, hf.2.1 70 rfl]; exact hk i hi
  have z2 : zI (k_wF (k_wF u 3503 0) 4247 0) := zero ((f1.mono rfl rfl).tr (z_wF rfl)) rfl rfl
  rcases J_or a0 n with ⟨b, hb, rfl⟩ | hb
  · rw [z_Bhas c1 hn hb, z_bind_some]
    refine z_neg (by decide) ?_
    rcases J_or a1 4 with ⟨a, ha, rfl⟩ | ha
    · obtain ⟨k, hk8, k1, k2⟩ := hk b hb
      refine z_neg (by (try simp (disch := omega) only [Int32.lt_iff_toInt_lt, Int32.le_iff_toInt_le, ← Int32.toInt_inj, Int32.toInt_add, Int32.toInt_sub, Int32.toInt_mul, Int32.toInt_neg, z_bm, z_bm2, J_ti, J_toInt, z_cn, Int32.reduceToInt]) <;> omega) (z_pos (by (try simp (disch := omega) only [Int32.lt_iff_toInt_lt, Int32.le_iff_toInt_le, ← Int32.toInt_inj, Int32.toInt_add, Int32.toInt_sub, Int32.toInt_mul, Int32.toInt_neg, z_bm, z_bm2, J_ti, J_toInt, z_cn, Int32.reduceToInt]) <;> omega) ?_)
      unfold f_Bodies_perform
      simp only [k_let]
      generalize hw : k_wF (k_wF u 3503 0) 3504 (J b) = w
      have fw : z_fr [3503, 3504] [] u w := by rw [← hw]; exact (f1.mono rfl rfl).tr (z_wF rfl)
      have gW : z_gW b k 0 w := by rw [← hw]; exact ⟨by omega, hk8, rfl, rfl, k1⟩
      rw [z_acW gW ha, z_bind_some, z_bind_some]
      have fo := z_foW (z_acc k a) w
      refine k_sat_mk ?_
      unfold f_R_act
      refine z_let ?_
      generalize hv : k_wF ((z_acc k a).foldl z_apW w) 4247 0 = v
      have fv : z_fr [3503, 3504, 4247] [37] u v := by rw [← hv]; exact ((fw.mono rfl rfl).tr (fo.mono rfl rfl)).tr (z_wF rfl)
      have gR : z_gR b k 0 v := ⟨by omega, hk8, by rw [← hv]; rfl, by rw [fv.2.1 70 rfl]; exact k2⟩
      have hl := z_acl k a hk8
      obtain ⟨t1, t2, t3⟩ := z_foE (z_acc k a) 0 w v gW.2.2.1 gR.2.2.1 (fun i hi => by omega) (by omega)
      have fo2 := z_foR (z_acc k a) v
      have e37 : v.2.1 37 = ((z_acc k a).foldl z_apW w).2.1 37 := by rw [← hv]; rfl
      have e3503 : v.1 3503 = ((z_acc k a).foldl z_apW w).1 3503 := by rw [← hv]; rfl
      have fin : zI ((z_acc k a).foldl z_apR v) := by
        have ff : z_fr [3503, 3504, 4247] [37, 71] u ((z_acc k a).foldl z_apR v) := (fv.mono rfl rfl).tr (fo2.mono rfl rfl)
        refine zI_B h (ff.mono rfl rfl) ⟨⟨n, hn, (ff.1 3502 rfl).trans b1, (ff.1 4245 rfl).trans b2, fun i hi => ?_⟩, 0 + (z_acc k a).length, by omega, ?_, t2, fun i hi _ => ?_⟩
        · rw [ff.2.1 36 rfl, ff.2.1 70 rfl]; exact hk i hi
        · rw [fo2.1 3503 rfl, e3503]; exact t1
        · rw [fo2.2.1 37 rfl, e37]; exact t3 i hi
      rw [z_RisBody ((fv.1 4245 rfl).trans b2) hn hb, z_bind_some]
      refine z_neg (by decide) ?_
      rw [z_Rin1 (by (try simp (disch := omega) only [Int32.lt_iff_toInt_lt, Int32.le_iff_toInt_le, ← Int32.toInt_inj, Int32.toInt_add, Int32.toInt_sub, Int32.toInt_mul, Int32.toInt_neg, z_bm, z_bm2, J_ti, J_toInt, z_cn, Int32.reduceToInt]) <;> omega) (by (try simp (disch := omega) only [Int32.lt_iff_toInt_lt, Int32.le_iff_toInt_le, ← Int32.toInt_inj, Int32.toInt_add, Int32.toInt_sub, Int32.toInt_mul, Int32.toInt_neg, z_bm, z_bm2, J_ti, J_toInt, z_cn, Int32.reduceToInt]) <;> omega), z_bind_some]
      refine z_neg (by decide) ?_
      rcases (show a = 0 ∨ a = 1 ∨ a = 2 ∨ a = 3 by omega) with rfl | rfl | rfl | rfl
      · refine z_pos rfl ?_
        rw [z_tuR gR (by omega), z_bind_some]
        exact k_sat_mk ⟨rfl, fin⟩
      · refine z_neg (by decide) (z_pos rfl ?_)
        rw [z_shR7 gR (by omega), z_bind_some]
        exact k_sat_mk ⟨rfl, fin⟩
      · refine z_neg (by decide) (z_neg (by decide) (z_pos rfl ?_))
        rw [z_waR gR (by omega), z_bind_some]
        exact k_sat_mk ⟨rfl, fin⟩
      · refine z_neg (by decide) (z_neg (by decide) (z_neg (by decide) ?_))
        rw [z_teR gR (by omega), z_bind_some]
        exact k_sat_mk ⟨rfl, fin⟩
    · have eR : k_sat (f_R_act (J b) a1 a2 (k_wF u 3503 0)) (fun r' v => (0 : Int32) = r' ∧ zI v) := by
        unfold f_R_act
        refine z_let ?_
        rw [z_RisBody (show (k_wF (k_wF u 3503 0) 4247 0).1 4245 = J n from b2) hn hb, z_bind_some]
        refine z_neg (by decide) ?_
        rw [z_Rin0 (by ((try simp (disch := omega) only [Int32.lt_iff_toInt_lt, Int32.le_iff_toInt_le, ← Int32.toInt_inj, Int32.toInt_add, Int32.toInt_sub, Int32.toInt_mul, Int32.toInt_neg, z_bm, z_bm2, J_ti, J_toInt, z_cn, Int32.reduceToInt] at *); omega)), z_bind_some]
        exact z_pos rfl (k_sat_mk ⟨rfl, z2⟩)
      exact z_ite (fun _ => k_sat_mk eR) (fun q => z_neg (by have := q; rw [Int32.lt_iff_toInt_lt] at this ⊢; rw [show (4 : Int32).toInt = 4 from rfl]; rw [show (0 : Int32).toInt = 0 from rfl] at this; omega) (k_sat_mk eR))
  · rw [z_Bhas0 c1 hn hb, z_bind_some]
    refine z_pos rfl (k_sat_mk ?_)
    unfold f_R_act
    refine z_let ?_
    rw [z_RisBody0 (show (k_wF (k_wF u 3503 0) 4247 0).1 4245 = J n from b2) hn hb, z_bind_some]
    exact z_pos rfl (k_sat_mk ⟨rfl, z2⟩)
