/-! LAW: the class works steps out -/
def z_zz (t sd : Int32) : Int32 := ((((t * 1103515245) + sd).toUInt32 >>> ((8 : Int32).toUInt32 &&& Int32.toUInt32 31)).toInt32) % 10
theorem z_st_le {q : z_q} {s : Int32} {T T' : Nat} {S S' : Nat → Int32} (h : z_st q s T S = some (T', S')) : T' ≤ T + 1 := by
  unfold z_st at h
  repeat' split at h
  all_goals first
    | cases h; omega
    | cases h
theorem z_push {T : Nat} {x : Int32} {u : k_S} (e : u.1 704 = J T) (hT : T < 128) : f_Law_push x u = some ((), k_wF (k_wA u 9 T x) 704 (J (T + 1))) := by
  unfold f_Law_push
  rw [e, if_neg (by (try simp (disch := omega) only [Int32.lt_iff_toInt_lt, Int32.le_iff_toInt_le, ← Int32.toInt_inj, Int32.toInt_add, Int32.toInt_sub, Int32.toInt_mul, Int32.toInt_neg, z_bm, z_bm2, J_ti, J_toInt, z_cn, Int32.reduceToInt]) <;> omega), if_pos (by (try simp (disch := omega) only [Int32.lt_iff_toInt_lt, Int32.le_iff_toInt_le, ← Int32.toInt_inj, Int32.toInt_add, Int32.toInt_sub, Int32.toInt_mul, Int32.toInt_neg, z_bm, z_bm2, J_ti, J_toInt, z_cn, Int32.reduceToInt]) <;> omega), z_cko _ (by (try simp (disch := omega) only [Int32.lt_iff_toInt_lt, Int32.le_iff_toInt_le, ← Int32.toInt_inj, Int32.toInt_add, Int32.toInt_sub, Int32.toInt_mul, Int32.toInt_neg, z_bm, z_bm2, J_ti, J_toInt, z_cn, Int32.reduceToInt]) <;> omega) (by (try simp (disch := omega) only [Int32.lt_iff_toInt_lt, Int32.le_iff_toInt_le, ← Int32.toInt_inj, Int32.toInt_add, Int32.toInt_sub, Int32.toInt_mul, Int32.toInt_neg, z_bm, z_bm2, J_ti, J_toInt, z_cn, Int32.reduceToInt]) <;> omega)]
  simp only [k_let]
  rw [J_toNat (by omega), show (k_wA u 9 T x).1 704 = J T from e, z_Jp]
theorem z_pop {T : Nat} {u : k_S} (e : u.1 704 = J T) (hT : T ≤ 128) (h0 : 0 < T) : f_Law_pop u = some (u.2.1 9 (T - 1), k_wF u 704 (J (T - 1))) := by
  unfold f_Law_pop
  have e2 : (k_wF u 704 (J (T - 1))).1 704 = J (T - 1) := by simp [k_wF]
  rw [e, if_neg (by (try simp (disch := omega) only [Int32.lt_iff_toInt_lt, Int32.le_iff_toInt_le, ← Int32.toInt_inj, Int32.toInt_add, Int32.toInt_sub, Int32.toInt_mul, Int32.toInt_neg, z_bm, z_bm2, J_ti, J_toInt, z_cn, Int32.reduceToInt]) <;> omega), if_pos (by (try simp (disch := omega) only [Int32.lt_iff_toInt_lt, Int32.le_iff_toInt_le, ← Int32.toInt_inj, Int32.toInt_add, Int32.toInt_sub, Int32.toInt_mul, Int32.toInt_neg, z_bm, z_bm2, J_ti, J_toInt, z_cn, Int32.reduceToInt]) <;> omega), z_Jm' h0]
  simp only [k_let]
  rw [e2, z_cko _ (by (try simp (disch := omega) only [Int32.lt_iff_toInt_lt, Int32.le_iff_toInt_le, ← Int32.toInt_inj, Int32.toInt_add, Int32.toInt_sub, Int32.toInt_mul, Int32.toInt_neg, z_bm, z_bm2, J_ti, J_toInt, z_cn, Int32.reduceToInt]) <;> omega) (by (try simp (disch := omega) only [Int32.lt_iff_toInt_lt, Int32.le_iff_toInt_le, ← Int32.toInt_inj, Int32.toInt_add, Int32.toInt_sub, Int32.toInt_mul, Int32.toInt_neg, z_bm, z_bm2, J_ti, J_toInt, z_cn, Int32.reduceToInt]) <;> omega), J_toNat (by omega)]
  rfl
theorem z_resOp {c T : Nat} {t p k : Int32} {u : k_S} (hc : c ∈ z_ops) (e : u.1 704 = J T) (hT : T ≤ 128) (h2 : 2 ≤ T) : f_Law_resultOf (-(J c)) t p k u = some (z_op (-(J c)) (u.2.1 9 (T - 2)) (u.2.1 9 (T - 1)), k_wF (k_wF u 704 (J (T - 1))) 704 (J (T - 2))) := by
  have e2 : (k_wF u 704 (J (T - 1))).1 704 = J (T - 1) := by simp [k_wF]
  have p1 := z_pop e hT (by omega)
  have p2 := z_pop (u := k_wF u 704 (J (T - 1))) e2 (by omega) (by omega)
  have e3 : (k_wF u 704 (J (T - 1))).2.1 9 (T - 1 - 1) = u.2.1 9 (T - 2) := by rw [show T - 1 - 1 = T - 2 by omega]; rfl
  rw [e3, show T - 1 - 1 = T - 2 by omega] at p2
  generalize u.2.1 9 (T - 2) = a at *
  generalize u.2.1 9 (T - 1) = b at *
  unfold f_Law_resultOf f_W_left
  generalize k_wF (k_wF u 704 (J (T - 1))) 704 (J (T - 2)) = w at *
  unfold z_ops at hc
  simp only [List.mem_cons, List.not_mem_nil, or_false] at hc
  rcases hc with rfl | rfl | rfl | rfl | rfl | rfl | rfl | rfl | rfl | rfl
  all_goals rw [if_neg (by decide), if_neg (by decide), if_neg (by decide), if_neg (by decide), if_neg (by decide), if_neg (by decide), p1, z_bind_some, p2, z_bind_some]
  all_goals repeat (first | rw [if_neg (by decide)] | rw [if_pos (by decide)])
  · show _ = some ((if a = 0 then (if b = 0 then 0 else 1) else 1 : Int32), w)
    by_cases ha : a = 0 <;> by_cases hb : b = 0 <;> simp [ha, hb]
  · show _ = some ((if a ≤ b then 0 else 1 : Int32), w)
    by_cases ha : a ≤ b <;> simp [ha]
  · show _ = some ((if a = b then 1 else 0 : Int32), w)
    by_cases ha : a = b <;> simp [ha]
  · show _ = some ((if b ≤ a then 0 else 1 : Int32), w)
    by_cases ha : b ≤ a <;> simp [ha]
  · show _ = some ((if b = 0 then 0 else a / b : Int32), w)
    by_cases hb : b = 0 <;> simp [hb, k_nz]
  · rfl
  · rfl
  · rfl
  · show _ = some ((if a = 0 then 0 else if b = 0 then 0 else 1 : Int32), w)
    by_cases ha : a = 0 <;> by_cases hb : b = 0 <;> simp [ha, hb]
  · show _ = some ((if b = 0 then 0 else a % b : Int32), w)
    by_cases hb : b = 0 <;> simp [hb, k_nz, k_bind]
theorem z_stW {q : z_q} {s t p k : Int32} {T T' pc len : Nat} {S S' : Nat → Int32} {u : k_S} (hs : z_st q s T S = some (T', S')) (hc : z_cd s) (e1 : u.1 704 = J T) (e2 : u.2.1 9 = S) (hT : T < 128) (hq : q = (t, p, k, z_zz t (u.1 705))) (hpc : pc < len) (hlen : len ≤ 128) (e3 : u.1 703 = J len) (e4 : u.2.1 8 pc = s) : k_sat (f_Law_valueAt_B8 t p k (J pc) u) (fun z v => z = .inl (J (pc + 1)) ∧ z_fr [704] [9] u v ∧ v.1 704 = J T' ∧ v.2.1 9 = S') := by
  have hpush : ∀ (x : Int32) (w : k_S) (T0 : Nat), z_fr [704] [9] u w → w.1 704 = J T0 → T0 < 128 → k_sat (k_bind (f_Law_push x w) (fun _ u6 => some ((.inl (J pc + Int32.ofInt 1) : Int32 ⊕ (Int32 ⊕ Unit)), u6))) (fun z v => z = .inl (J (pc + 1)) ∧ z_fr [704] [9] u v ∧ v.1 704 = J (T0 + 1) ∧ v.2.1 9 = upd (w.2.1 9) T0 x) := by
    intro x w T0 hf hw hT0
    rw [z_push hw hT0, z_bind_some]
    refine k_sat_mk ⟨by rw [z_J1], (hf.tr (z_wA rfl)).tr (z_wF rfl), by simp [k_wF, k_wA], by simp [k_wF, k_wA]⟩
  unfold f_Law_valueAt_B8
  rw [e3, J_toNat (show pc < 2147483648 by omega), e4]
  refine z_neg (by (try simp (disch := omega) only [Int32.lt_iff_toInt_lt, Int32.le_iff_toInt_le, ← Int32.toInt_inj, Int32.toInt_add, Int32.toInt_sub, Int32.toInt_mul, Int32.toInt_neg, z_bm, z_bm2, J_ti, J_toInt, z_cn, Int32.reduceToInt]) <;> omega) (z_neg (by (try simp (disch := omega) only [Int32.lt_iff_toInt_lt, Int32.le_iff_toInt_le, ← Int32.toInt_inj, Int32.toInt_add, Int32.toInt_sub, Int32.toInt_mul, Int32.toInt_neg, z_bm, z_bm2, J_ti, J_toInt, z_cn, Int32.reduceToInt]) <;> omega) (z_ck (by (try simp (disch := omega) only [Int32.lt_iff_toInt_lt, Int32.le_iff_toInt_le, ← Int32.toInt_inj, Int32.toInt_add, Int32.toInt_sub, Int32.toInt_mul, Int32.toInt_neg, z_bm, z_bm2, J_ti, J_toInt, z_cn, Int32.reduceToInt]) <;> omega) (by (try simp (disch := omega) only [Int32.lt_iff_toInt_lt, Int32.le_iff_toInt_le, ← Int32.toInt_inj, Int32.toInt_add, Int32.toInt_sub, Int32.toInt_mul, Int32.toInt_neg, z_bm, z_bm2, J_ti, J_toInt, z_cn, Int32.reduceToInt]) <;> omega) (z_let ?_)))
  have hres : ∀ (x : Int32) (w : k_S) (T0 : Nat), ¬ s = -59 → s < 10000 → s < 0 → f_Law_resultOf s t p k u = some (x, w) → z_fr [704] [9] u w → w.1 704 = J T0 → T0 < 128 → T' = T0 + 1 → S' = upd (w.2.1 9) T0 x → k_sat (if s = (-59) then some ((.inr (.inr ()) : Int32 ⊕ (Int32 ⊕ Unit)), u) else if s < 10000 then if s < 0 then k_bind (f_Law_resultOf s t p k u) (fun r4 u3 => k_bind (f_Law_push r4 u3) (fun _ u5 => some (.inl (J pc + Int32.ofInt 1), u5))) else k_bind (f_Law_push s u) (fun _ u6 => some (.inl (J pc + Int32.ofInt 1), u6)) else k_bind (f_Law_pop u) (fun r8 u7 => if r8 = 0 then k_bind (f_J_max (J pc) ((s - 10000) - 1) u7) (fun r10 u9 => some (.inl (r10 + Int32.ofInt 1), u9)) else some (.inl (J pc + Int32.ofInt 1), u7))) (fun z v => z = .inl (J (pc + 1)) ∧ z_fr [704] [9] u v ∧ v.1 704 = J T' ∧ v.2.1 9 = S') := by
    intro x w T0 h1 h2 h3 h4 h5 h6 h7 h8 h9
    refine z_neg h1 (z_pos h2 (z_pos h3 ?_))
    rw [h4, z_bind_some, h8, h9]
    exact hpush x w T0 h5 h6 h7
  obtain ⟨a, wi, hra⟩ := hc
  rcases hra with ⟨v, hv, rfl, -, -⟩ | ⟨rfl, -, -⟩ | ⟨rfl, -, -⟩ | ⟨rfl, -, -⟩ | ⟨rfl, -, -⟩ | ⟨rfl, -⟩ | ⟨rfl, -⟩ | ⟨c, hco, rfl, -⟩
  · unfold z_st at hs
    rw [if_pos (by (try simp (disch := omega) only [Int32.lt_iff_toInt_lt, Int32.le_iff_toInt_le, ← Int32.toInt_inj, Int32.toInt_add, Int32.toInt_sub, Int32.toInt_mul, Int32.toInt_neg, z_bm, z_bm2, J_ti, J_toInt, z_cn, Int32.reduceToInt]) <;> omega)] at hs
    cases hs
    refine z_neg (by (try simp (disch := omega) only [Int32.lt_iff_toInt_lt, Int32.le_iff_toInt_le, ← Int32.toInt_inj, Int32.toInt_add, Int32.toInt_sub, Int32.toInt_mul, Int32.toInt_neg, z_bm, z_bm2, J_ti, J_toInt, z_cn, Int32.reduceToInt]) <;> omega) (z_pos (by (try simp (disch := omega) only [Int32.lt_iff_toInt_lt, Int32.le_iff_toInt_le, ← Int32.toInt_inj, Int32.toInt_add, Int32.toInt_sub, Int32.toInt_mul, Int32.toInt_neg, z_bm, z_bm2, J_ti, J_toInt, z_cn, Int32.reduceToInt]) <;> omega) (z_neg (by (try simp (disch := omega) only [Int32.lt_iff_toInt_lt, Int32.le_iff_toInt_le, ← Int32.toInt_inj, Int32.toInt_add, Int32.toInt_sub, Int32.toInt_mul, Int32.toInt_neg, z_bm, z_bm2, J_ti, J_toInt, z_cn, Int32.reduceToInt]) <;> omega) ?_))
    rw [← e2]
    exact hpush (J v) u T z_fr.rf e1 hT
  · have : z_st q (-116) T S = some (T + 1, upd S T q.1) := rfl
    rw [this] at hs
    cases hs
    exact hres t u T (by decide) (by decide) (by decide) rfl z_fr.rf e1 hT rfl (by rw [e2, hq])
  · have : z_st q (-112) T S = some (T + 1, upd S T q.2.1) := rfl
    rw [this] at hs
    cases hs
    exact hres p u T (by decide) (by decide) (by decide) rfl z_fr.rf e1 hT rfl (by rw [e2, hq])
  · have : z_st q (-107) T S = some (T + 1, upd S T q.2.2.1) := rfl
    rw [this] at hs
    cases hs
    exact hres k u T (by decide) (by decide) (by decide) rfl z_fr.rf e1 hT rfl (by rw [e2, hq])
  · have : z_st q (-122) T S = some (T + 1, upd S T q.2.2.2) := rfl
    rw [this] at hs
    cases hs
    exact hres (z_zz t (u.1 705)) u T (by decide) (by decide) (by decide) rfl z_fr.rf e1 hT rfl (by rw [e2, hq])
  · have : z_st q (-33) T S = if T = 0 then none else some (T, upd S (T - 1) (if S (T - 1) = 0 then 1 else 0)) := rfl
    rw [this] at hs
    by_cases h0 : T = 0
    · rw [if_pos h0] at hs; cases hs
    · rw [if_neg h0] at hs
      cases hs
      refine hres (if S (T - 1) = 0 then 1 else 0) (k_wF u 704 (J (T - 1))) (T - 1) (by decide) (by decide) (by decide) ?_ (z_wF rfl) (by simp [k_wF]) (by omega) (by omega) (by rw [← e2]; rfl)
      unfold f_Law_resultOf
      rw [if_neg (by decide), if_neg (by decide), if_neg (by decide), if_neg (by decide), if_pos rfl, z_pop e1 (by omega) (by omega), z_bind_some, e2]
      by_cases hx : S (T - 1) = 0
      · rw [if_pos hx, if_pos hx]
      · rw [if_neg hx, if_neg hx]
  · have : z_st q (-1) T S = if T = 0 then none else some (T, upd S (T - 1) (-(S (T - 1)))) := rfl
    rw [this] at hs
    by_cases h0 : T = 0
    · rw [if_pos h0] at hs; cases hs
    · rw [if_neg h0] at hs
      cases hs
      refine hres (-(S (T - 1))) (k_wF u 704 (J (T - 1))) (T - 1) (by decide) (by decide) (by decide) ?_ (z_wF rfl) (by simp [k_wF]) (by omega) (by omega) (by rw [← e2]; rfl)
      unfold f_Law_resultOf
      rw [if_neg (by decide), if_neg (by decide), if_neg (by decide), if_neg (by decide), if_neg (by decide), if_pos rfl, z_pop e1 (by omega) (by omega), z_bind_some, e2]
  · have hst : z_st q (-(J c)) T S = if T < 2 then none else some (T - 1, upd S (T - 2) (z_op (-(J c)) (S (T - 2)) (S (T - 1)))) := by
      clear hs e4 hres
      unfold z_ops at hco
      simp only [List.mem_cons, List.not_mem_nil, or_false] at hco
      rcases hco with rfl | rfl | rfl | rfl | rfl | rfl | rfl | rfl | rfl | rfl <;> rfl
    have hneg : ¬ (-(J c) : Int32) = -59 ∧ -(J c) < (10000 : Int32) ∧ -(J c) < (0 : Int32) := by
      clear hs e4 hres hst
      unfold z_ops at hco
      simp only [List.mem_cons, List.not_mem_nil, or_false] at hco
      rcases hco with rfl | rfl | rfl | rfl | rfl | rfl | rfl | rfl | rfl | rfl <;> decide
    rw [hst] at hs
    by_cases h0 : T < 2
    · rw [if_pos h0] at hs; cases hs
    · rw [if_neg h0] at hs
      cases hs
      refine hres _ _ (T - 2) hneg.1 hneg.2.1 hneg.2.2 (z_resOp hco e1 (by omega) (by omega)) ((z_wF rfl).tr (z_wF rfl)) (by simp [k_wF]) (by omega) (by omega) (by rw [← e2]; rfl)
theorem z_runW {q : z_q} {t p k : Int32} {len : Nat} {K : (Int32 ⊕ Unit) → k_S → Prop} (hlen : len ≤ 128) : ∀ (C : List Int32) (a T T' : Nat) (S S' : Nat → Int32) (u : k_S) (N : Nat), z_run q C T S = some (T', S') → (∀ s, s ∈ C → z_cd s) → (∀ i s, C[i]? = some s → u.2.1 8 (a + i) = s) → a + C.length ≤ len → T ≤ a → u.1 703 = J len → u.1 704 = J T → u.2.1 9 = S → q = (t, p, k, z_zz t (u.1 705)) → (∀ v, z_fr [704] [9] u v → v.1 704 = J T' → v.2.1 9 = S' → k_sat (k_itr (fun (x : (Int32)) u => f_Law_valueAt_B8 t p k x u) N (J (a + C.length)) v) K) → k_sat (k_itr (fun (x : (Int32)) u => f_Law_valueAt_B8 t p k x u) (N + C.length) (J a) u) K
  | [], a, T, T', S, S', u, N, h, _, _, _, _, _, e1, e2, _, hk => by
    cases h
    exact hk u z_fr.rf e1 e2
  | s :: C, a, T, T', S, S', u, N, h, hcd, hcode, hl, hTa, e3, e1, e2, hq, hk => by
    rw [List.length_cons] at hl hk ⊢
    rw [z_run] at h
    cases hm : z_st q s T S with
    | none => rw [hm] at h; cases h
    | some m =>
      rw [hm] at h
      obtain ⟨T1, S1⟩ := m
      have hle := z_st_le hm
      rw [show N + (C.length + 1) = (N + C.length) + 1 by omega]
      refine z_turn (z_mono (z_stW hm (hcd s (List.mem_cons_self)) e1 e2 (by omega) hq (by omega) hlen e3 (hcode 0 s rfl)) (fun z v hv => ⟨_, hv.1, ?_⟩))
      obtain ⟨-, g1, g2, g3⟩ := hv
      refine z_runW hlen C (a + 1) T1 T' S1 S' v N h (fun s' hs' => hcd s' (List.mem_cons_of_mem _ hs')) (fun i s' hs' => ?_) (by omega) (by omega) ((g1.1 703 rfl).trans e3) g2 g3 (by rw [g1.1 705 rfl]; exact hq) (fun w hw1 hw2 hw3 => ?_)
      · rw [g1.2.1 8 rfl, show a + 1 + i = a + (i + 1) by omega]
        exact hcode (i + 1) s' hs'
      · rw [show a + 1 + C.length = a + (C.length + 1) by omega]
        exact hk w (g1.tr hw1) hw2 hw3
