/-! LAW: the reference works steps out -/
theorem z_divm (a : Int32) : a / (-1) = -a := by
  apply Int32.toInt.inj
  rw [Int32.toInt_div, show (-1 : Int32).toInt = -1 from rfl, Int.tdiv_neg, Int.tdiv_one, Int32.toInt_neg]
theorem z_modm (a : Int32) : a % (-1) = 0 := by
  apply Int32.toInt.inj
  rw [Int32.toInt_mod, show (-1 : Int32).toInt = -1 from rfl, Int.tmod_neg, Int.tmod_one]
  rfl
theorem z_twoOp {c : Nat} {a b : Int32} {u : k_S} (hc : c ∈ z_ops) : f_R_twoOf (J c) a b u = some (z_op (-(J c)) a b, u) := by
  unfold z_ops at hc
  simp only [List.mem_cons, List.not_mem_nil, or_false] at hc
  unfold f_R_twoOf
  rcases hc with rfl | rfl | rfl | rfl | rfl | rfl | rfl | rfl | rfl | rfl
  all_goals repeat (first | rw [if_neg (by decide)] | rw [if_pos (by decide)])
  · show _ = some ((if a = 0 then (if b = 0 then 0 else 1) else 1 : Int32), u)
    by_cases ha : a = 0 <;> by_cases hb : b = 0 <;> simp [ha, hb]
  · show _ = some ((if a ≤ b then 0 else 1 : Int32), u)
    by_cases ha : a ≤ b <;> simp [ha]
  · show _ = some ((if a = b then 1 else 0 : Int32), u)
    by_cases ha : a = b <;> simp [ha]
  · show _ = some ((if b ≤ a then 0 else 1 : Int32), u)
    by_cases ha : b ≤ a <;> simp [ha]
  · show _ = some ((if b = 0 then 0 else a / b : Int32), u)
    by_cases hb : b = 0
    · simp [hb]
    · by_cases hb1 : b = -1
      · rw [if_neg hb, if_pos hb1, if_neg hb, hb1, z_divm]
      · rw [if_neg hb, if_neg hb1, if_neg hb]
        unfold k_nz
        rw [if_neg hb]
  · rfl
  · rfl
  · rfl
  · show _ = some ((if a = 0 then 0 else if b = 0 then 0 else 1 : Int32), u)
    by_cases ha : a = 0 <;> by_cases hb : b = 0 <;> simp [ha, hb]
  · show _ = some ((if b = 0 then 0 else a % b : Int32), u)
    by_cases hb : b = 0
    · simp [hb]
    · by_cases hb1 : b = -1
      · rw [if_neg hb, if_pos hb1, if_neg hb, hb1, z_modm]
      · rw [if_neg hb, if_neg hb1, if_neg hb]
        unfold k_nz
        rw [if_neg hb]
theorem z_Jn {n : Nat} (h : 0 < n) : J n + Int32.ofInt (-1) = J (n - 1) := by
  rw [← z_Jm' h, Int32.sub_eq_add_neg]
  rfl
theorem z_130 (e : Nat) : ((130 : Int32) * 0) + J e = J e := by rw [Int32.mul_zero, Int32.zero_add]
theorem z_stR {q : z_q} {s : Int32} {T T' pc e : Nat} {S S' : Nat → Int32} {u : k_S} (hs : z_st q s T S = some (T', S')) (hra : z_ra s (u.2.1 49 pc) (u.2.1 50 pc)) (e2 : u.2.1 55 = S) (hT : T < 130) (hpc : pc < e) (he : e ≤ 130) (q0 : u.2.1 54 0 = q.1) (q1 : u.2.1 54 1 = q.2.1) (q2 : u.2.1 54 2 = q.2.2.1) (q3 : u.2.1 54 3 = q.2.2.2) : k_sat (f_R_worked_B12 0 (J e) (J T) (J pc) u) (fun z v => z = .inl (J T', J (pc + 1)) ∧ z_fr [] [55] u v ∧ v.2.1 55 = S') := by
  have wr : ∀ (i : Nat) (x : Int32), i < 130 → upd S i x = S' → z_fr [] [55] u (k_wA u 55 i x) ∧ (k_wA u 55 i x).2.1 55 = S' := fun i x _ h => ⟨z_wA rfl, by simp only [k_wA, if_true]; rw [e2, h]⟩
  unfold f_R_worked_B12
  rw [z_130, J_toNat (show pc < 2147483648 by omega)]
  refine z_neg (by (try simp (disch := omega) only [Int32.lt_iff_toInt_lt, Int32.le_iff_toInt_le, ← Int32.toInt_inj, Int32.toInt_add, Int32.toInt_sub, Int32.toInt_mul, Int32.toInt_neg, z_bm, z_bm2, J_ti, J_toInt, z_cn, Int32.reduceToInt]) <;> omega) (z_ck (by (try simp (disch := omega) only [Int32.lt_iff_toInt_lt, Int32.le_iff_toInt_le, ← Int32.toInt_inj, Int32.toInt_add, Int32.toInt_sub, Int32.toInt_mul, Int32.toInt_neg, z_bm, z_bm2, J_ti, J_toInt, z_cn, Int32.reduceToInt]) <;> omega) (by (try simp (disch := omega) only [Int32.lt_iff_toInt_lt, Int32.le_iff_toInt_le, ← Int32.toInt_inj, Int32.toInt_add, Int32.toInt_sub, Int32.toInt_mul, Int32.toInt_neg, z_bm, z_bm2, J_ti, J_toInt, z_cn, Int32.reduceToInt]) <;> omega) (z_let ?_))
  have name : ∀ i : Nat, i < 4 → u.2.1 49 pc = 2 → u.2.1 50 pc = J i → T' = T + 1 → S' = upd S T (u.2.1 54 i) → k_sat (f_R_worked_J45 0 (J e) (J T) (J pc) 2 u) (fun z v => z = .inl (J T', J (pc + 1)) ∧ z_fr [] [55] u v ∧ v.2.1 55 = S') := by
    intro i hi h1 h2 h3 h4
    unfold f_R_worked_J45
    rw [J_toNat (show pc < 2147483648 by omega), h2, J_toNat (show i < 2147483648 by omega), J_toNat (show T < 2147483648 by omega)]
    refine z_neg (by decide) (z_ck (by (try simp (disch := omega) only [Int32.lt_iff_toInt_lt, Int32.le_iff_toInt_le, ← Int32.toInt_inj, Int32.toInt_add, Int32.toInt_sub, Int32.toInt_mul, Int32.toInt_neg, z_bm, z_bm2, J_ti, J_toInt, z_cn, Int32.reduceToInt]) <;> omega) (by (try simp (disch := omega) only [Int32.lt_iff_toInt_lt, Int32.le_iff_toInt_le, ← Int32.toInt_inj, Int32.toInt_add, Int32.toInt_sub, Int32.toInt_mul, Int32.toInt_neg, z_bm, z_bm2, J_ti, J_toInt, z_cn, Int32.reduceToInt]) <;> omega) (z_ck (by (try simp (disch := omega) only [Int32.lt_iff_toInt_lt, Int32.le_iff_toInt_le, ← Int32.toInt_inj, Int32.toInt_add, Int32.toInt_sub, Int32.toInt_mul, Int32.toInt_neg, z_bm, z_bm2, J_ti, J_toInt, z_cn, Int32.reduceToInt]) <;> omega) (by (try simp (disch := omega) only [Int32.lt_iff_toInt_lt, Int32.le_iff_toInt_le, ← Int32.toInt_inj, Int32.toInt_add, Int32.toInt_sub, Int32.toInt_mul, Int32.toInt_neg, z_bm, z_bm2, J_ti, J_toInt, z_cn, Int32.reduceToInt]) <;> omega) (z_ck (by (try simp (disch := omega) only [Int32.lt_iff_toInt_lt, Int32.le_iff_toInt_le, ← Int32.toInt_inj, Int32.toInt_add, Int32.toInt_sub, Int32.toInt_mul, Int32.toInt_neg, z_bm, z_bm2, J_ti, J_toInt, z_cn, Int32.reduceToInt]) <;> omega) (by (try simp (disch := omega) only [Int32.lt_iff_toInt_lt, Int32.le_iff_toInt_le, ← Int32.toInt_inj, Int32.toInt_add, Int32.toInt_sub, Int32.toInt_mul, Int32.toInt_neg, z_bm, z_bm2, J_ti, J_toInt, z_cn, Int32.reduceToInt]) <;> omega) (z_let (k_sat_mk ⟨?_, wr T _ hT h4.symm⟩)))))
    rw [z_J1, z_J1, h3]
  rcases hra with ⟨v, hv, rfl, h1, h2⟩ | ⟨rfl, h1, h2⟩ | ⟨rfl, h1, h2⟩ | ⟨rfl, h1, h2⟩ | ⟨rfl, h1, h2⟩ | ⟨rfl, h1⟩ | ⟨rfl, h1⟩ | ⟨c, hco, rfl, h1⟩
  · unfold z_st at hs
    rw [if_pos (by (try simp (disch := omega) only [Int32.lt_iff_toInt_lt, Int32.le_iff_toInt_le, ← Int32.toInt_inj, Int32.toInt_add, Int32.toInt_sub, Int32.toInt_mul, Int32.toInt_neg, z_bm, z_bm2, J_ti, J_toInt, z_cn, Int32.reduceToInt]) <;> omega)] at hs
    cases hs
    rw [h1]
    refine z_pos rfl ?_
    unfold f_R_worked_J45
    rw [J_toNat (show pc < 2147483648 by omega), h2, J_toNat (show T < 2147483648 by omega)]
    refine z_pos rfl (z_ck (by (try simp (disch := omega) only [Int32.lt_iff_toInt_lt, Int32.le_iff_toInt_le, ← Int32.toInt_inj, Int32.toInt_add, Int32.toInt_sub, Int32.toInt_mul, Int32.toInt_neg, z_bm, z_bm2, J_ti, J_toInt, z_cn, Int32.reduceToInt]) <;> omega) (by (try simp (disch := omega) only [Int32.lt_iff_toInt_lt, Int32.le_iff_toInt_le, ← Int32.toInt_inj, Int32.toInt_add, Int32.toInt_sub, Int32.toInt_mul, Int32.toInt_neg, z_bm, z_bm2, J_ti, J_toInt, z_cn, Int32.reduceToInt]) <;> omega) (z_ck (by (try simp (disch := omega) only [Int32.lt_iff_toInt_lt, Int32.le_iff_toInt_le, ← Int32.toInt_inj, Int32.toInt_add, Int32.toInt_sub, Int32.toInt_mul, Int32.toInt_neg, z_bm, z_bm2, J_ti, J_toInt, z_cn, Int32.reduceToInt]) <;> omega) (by (try simp (disch := omega) only [Int32.lt_iff_toInt_lt, Int32.le_iff_toInt_le, ← Int32.toInt_inj, Int32.toInt_add, Int32.toInt_sub, Int32.toInt_mul, Int32.toInt_neg, z_bm, z_bm2, J_ti, J_toInt, z_cn, Int32.reduceToInt]) <;> omega) (z_let (k_sat_mk ⟨?_, wr T _ hT rfl⟩))))
    rw [z_J1, z_J1]
  · have : z_st q (-116) T S = some (T + 1, upd S T q.1) := rfl
    rw [this] at hs
    cases hs
    have := name 0 (by omega) h1 h2 rfl (by rw [q0])
    rw [h1]
    exact z_neg (by decide) (z_pos rfl this)
  · have : z_st q (-112) T S = some (T + 1, upd S T q.2.1) := rfl
    rw [this] at hs
    cases hs
    have := name 1 (by omega) h1 h2 rfl (by rw [q1])
    rw [h1]
    exact z_neg (by decide) (z_pos rfl this)
  · have : z_st q (-107) T S = some (T + 1, upd S T q.2.2.1) := rfl
    rw [this] at hs
    cases hs
    have := name 2 (by omega) h1 h2 rfl (by rw [q2])
    rw [h1]
    exact z_neg (by decide) (z_pos rfl this)
  · have : z_st q (-122) T S = some (T + 1, upd S T q.2.2.2) := rfl
    rw [this] at hs
    cases hs
    have := name 3 (by omega) h1 h2 rfl (by rw [q3])
    rw [h1]
    exact z_neg (by decide) (z_pos rfl this)
  · have : z_st q (-33) T S = if T = 0 then none else some (T, upd S (T - 1) (if S (T - 1) = 0 then 1 else 0)) := rfl
    rw [this] at hs
    by_cases h0 : T = 0
    · rw [if_pos h0] at hs; cases hs
    · rw [if_neg h0] at hs
      cases hs
      rw [h1, z_Jm' (by omega), J_toNat (show T - 1 < 2147483648 by omega), e2]
      refine z_neg (by decide) (z_neg (by decide) (z_pos rfl (z_ck (by (try simp (disch := omega) only [Int32.lt_iff_toInt_lt, Int32.le_iff_toInt_le, ← Int32.toInt_inj, Int32.toInt_add, Int32.toInt_sub, Int32.toInt_mul, Int32.toInt_neg, z_bm, z_bm2, J_ti, J_toInt, z_cn, Int32.reduceToInt]) <;> omega) (by (try simp (disch := omega) only [Int32.lt_iff_toInt_lt, Int32.le_iff_toInt_le, ← Int32.toInt_inj, Int32.toInt_add, Int32.toInt_sub, Int32.toInt_mul, Int32.toInt_neg, z_bm, z_bm2, J_ti, J_toInt, z_cn, Int32.reduceToInt]) <;> omega) (z_ite (fun hx => z_ck (by (try simp (disch := omega) only [Int32.lt_iff_toInt_lt, Int32.le_iff_toInt_le, ← Int32.toInt_inj, Int32.toInt_add, Int32.toInt_sub, Int32.toInt_mul, Int32.toInt_neg, z_bm, z_bm2, J_ti, J_toInt, z_cn, Int32.reduceToInt]) <;> omega) (by (try simp (disch := omega) only [Int32.lt_iff_toInt_lt, Int32.le_iff_toInt_le, ← Int32.toInt_inj, Int32.toInt_add, Int32.toInt_sub, Int32.toInt_mul, Int32.toInt_neg, z_bm, z_bm2, J_ti, J_toInt, z_cn, Int32.reduceToInt]) <;> omega) (z_let (k_sat_mk ⟨by rw [z_J1], wr _ _ (by omega) (by rw [if_pos hx])⟩))) (fun hx => z_ck (by (try simp (disch := omega) only [Int32.lt_iff_toInt_lt, Int32.le_iff_toInt_le, ← Int32.toInt_inj, Int32.toInt_add, Int32.toInt_sub, Int32.toInt_mul, Int32.toInt_neg, z_bm, z_bm2, J_ti, J_toInt, z_cn, Int32.reduceToInt]) <;> omega) (by (try simp (disch := omega) only [Int32.lt_iff_toInt_lt, Int32.le_iff_toInt_le, ← Int32.toInt_inj, Int32.toInt_add, Int32.toInt_sub, Int32.toInt_mul, Int32.toInt_neg, z_bm, z_bm2, J_ti, J_toInt, z_cn, Int32.reduceToInt]) <;> omega) (z_let (k_sat_mk ⟨by rw [z_J1], wr _ _ (by omega) (by rw [if_neg hx])⟩)))))))
  · have : z_st q (-1) T S = if T = 0 then none else some (T, upd S (T - 1) (-(S (T - 1)))) := rfl
    rw [this] at hs
    by_cases h0 : T = 0
    · rw [if_pos h0] at hs; cases hs
    · rw [if_neg h0] at hs
      cases hs
      rw [h1, z_Jm' (by omega), J_toNat (show T - 1 < 2147483648 by omega), e2]
      exact z_neg (by decide) (z_neg (by decide) (z_neg (by decide) (z_pos rfl (z_ck (by (try simp (disch := omega) only [Int32.lt_iff_toInt_lt, Int32.le_iff_toInt_le, ← Int32.toInt_inj, Int32.toInt_add, Int32.toInt_sub, Int32.toInt_mul, Int32.toInt_neg, z_bm, z_bm2, J_ti, J_toInt, z_cn, Int32.reduceToInt]) <;> omega) (by (try simp (disch := omega) only [Int32.lt_iff_toInt_lt, Int32.le_iff_toInt_le, ← Int32.toInt_inj, Int32.toInt_add, Int32.toInt_sub, Int32.toInt_mul, Int32.toInt_neg, z_bm, z_bm2, J_ti, J_toInt, z_cn, Int32.reduceToInt]) <;> omega) (z_ck (by (try simp (disch := omega) only [Int32.lt_iff_toInt_lt, Int32.le_iff_toInt_le, ← Int32.toInt_inj, Int32.toInt_add, Int32.toInt_sub, Int32.toInt_mul, Int32.toInt_neg, z_bm, z_bm2, J_ti, J_toInt, z_cn, Int32.reduceToInt]) <;> omega) (by (try simp (disch := omega) only [Int32.lt_iff_toInt_lt, Int32.le_iff_toInt_le, ← Int32.toInt_inj, Int32.toInt_add, Int32.toInt_sub, Int32.toInt_mul, Int32.toInt_neg, z_bm, z_bm2, J_ti, J_toInt, z_cn, Int32.reduceToInt]) <;> omega) (z_let (k_sat_mk ⟨by rw [z_J1], wr _ _ (by omega) rfl⟩)))))))
  · have hst : z_st q (-(J c)) T S = if T < 2 then none else some (T - 1, upd S (T - 2) (z_op (-(J c)) (S (T - 2)) (S (T - 1)))) := by
      clear hs h1 wr name
      unfold z_ops at hco
      simp only [List.mem_cons, List.not_mem_nil, or_false] at hco
      rcases hco with rfl | rfl | rfl | rfl | rfl | rfl | rfl | rfl | rfl | rfl <;> rfl
    have hneg : ¬ (J c : Int32) = 1 ∧ ¬ (J c : Int32) = 2 ∧ ¬ (J c : Int32) = 3 ∧ ¬ (J c : Int32) = 4 := by
      clear hs h1 hst wr name
      unfold z_ops at hco
      simp only [List.mem_cons, List.not_mem_nil, or_false] at hco
      rcases hco with rfl | rfl | rfl | rfl | rfl | rfl | rfl | rfl | rfl | rfl <;> decide
    rw [hst] at hs
    by_cases h0 : T < 2
    · rw [if_pos h0] at hs; cases hs
    · rw [if_neg h0] at hs
      cases hs
      rw [h1, z_Jn (by omega), z_Jm' (show 0 < T - 1 by omega), show T - 1 - 1 = T - 2 by omega, J_toNat (show T - 1 < 2147483648 by omega), J_toNat (show T - 2 < 2147483648 by omega), e2]
      refine z_neg hneg.1 (z_neg hneg.2.1 (z_neg hneg.2.2.1 (z_neg hneg.2.2.2 (z_ck (by (try simp (disch := omega) only [Int32.lt_iff_toInt_lt, Int32.le_iff_toInt_le, ← Int32.toInt_inj, Int32.toInt_add, Int32.toInt_sub, Int32.toInt_mul, Int32.toInt_neg, z_bm, z_bm2, J_ti, J_toInt, z_cn, Int32.reduceToInt]) <;> omega) (by (try simp (disch := omega) only [Int32.lt_iff_toInt_lt, Int32.le_iff_toInt_le, ← Int32.toInt_inj, Int32.toInt_add, Int32.toInt_sub, Int32.toInt_mul, Int32.toInt_neg, z_bm, z_bm2, J_ti, J_toInt, z_cn, Int32.reduceToInt]) <;> omega) (z_ck (by (try simp (disch := omega) only [Int32.lt_iff_toInt_lt, Int32.le_iff_toInt_le, ← Int32.toInt_inj, Int32.toInt_add, Int32.toInt_sub, Int32.toInt_mul, Int32.toInt_neg, z_bm, z_bm2, J_ti, J_toInt, z_cn, Int32.reduceToInt]) <;> omega) (by (try simp (disch := omega) only [Int32.lt_iff_toInt_lt, Int32.le_iff_toInt_le, ← Int32.toInt_inj, Int32.toInt_add, Int32.toInt_sub, Int32.toInt_mul, Int32.toInt_neg, z_bm, z_bm2, J_ti, J_toInt, z_cn, Int32.reduceToInt]) <;> omega) ?_)))))
      rw [z_twoOp hco, z_bind_some]
      exact z_ck (by (try simp (disch := omega) only [Int32.lt_iff_toInt_lt, Int32.le_iff_toInt_le, ← Int32.toInt_inj, Int32.toInt_add, Int32.toInt_sub, Int32.toInt_mul, Int32.toInt_neg, z_bm, z_bm2, J_ti, J_toInt, z_cn, Int32.reduceToInt]) <;> omega) (by (try simp (disch := omega) only [Int32.lt_iff_toInt_lt, Int32.le_iff_toInt_le, ← Int32.toInt_inj, Int32.toInt_add, Int32.toInt_sub, Int32.toInt_mul, Int32.toInt_neg, z_bm, z_bm2, J_ti, J_toInt, z_cn, Int32.reduceToInt]) <;> omega) (z_let (k_sat_mk ⟨by rw [z_J1], wr _ _ (by omega) rfl⟩))
theorem z_runR {q : z_q} {e : Nat} {K : Unit → k_S → Prop} (he : e ≤ 130) : ∀ (C : List Int32) (a T T' : Nat) (S S' : Nat → Int32) (u : k_S) (N : Nat), z_run q C T S = some (T', S') → (∀ i s, C[i]? = some s → z_ra s (u.2.1 49 (a + i)) (u.2.1 50 (a + i))) → a + C.length ≤ e → T ≤ a → u.2.1 55 = S → u.2.1 54 0 = q.1 → u.2.1 54 1 = q.2.1 → u.2.1 54 2 = q.2.2.1 → u.2.1 54 3 = q.2.2.2 → (∀ v, z_fr [] [55] u v → v.2.1 55 = S' → k_sat (k_itr (fun (x : (Int32 × Int32)) u => f_R_worked_B12 0 (J e) x.1 x.2 u) N (J T', J (a + C.length)) v) K) → k_sat (k_itr (fun (x : (Int32 × Int32)) u => f_R_worked_B12 0 (J e) x.1 x.2 u) (N + C.length) (J T, J a) u) K
  | [], a, T, T', S, S', u, N, h, _, _, _, e2, _, _, _, _, hk => by
    cases h
    exact hk u z_fr.rf e2
  | s :: C, a, T, T', S, S', u, N, h, hcode, hl, hTa, e2, q0, q1, q2, q3, hk => by
    rw [List.length_cons] at hl hk ⊢
    rw [z_run] at h
    cases hm : z_st q s T S with
    | none => rw [hm] at h; cases h
    | some m =>
      rw [hm] at h
      obtain ⟨T1, S1⟩ := m
      have hle := z_st_le hm
      rw [show N + (C.length + 1) = (N + C.length) + 1 by omega]
      refine z_turn (z_mono (z_stR hm (hcode 0 s rfl) e2 (by omega) (by omega) he q0 q1 q2 q3) (fun z v hv => ⟨_, hv.1, ?_⟩))
      obtain ⟨-, g1, g3⟩ := hv
      have f54 : v.2.1 54 = u.2.1 54 := g1.2.1 54 rfl
      refine z_runR he C (a + 1) T1 T' S1 S' v N h (fun i s' hs' => ?_) (by omega) (by omega) g3 (by rw [f54]; exact q0) (by rw [f54]; exact q1) (by rw [f54]; exact q2) (by rw [f54]; exact q3) (fun w hw1 hw3 => ?_)
      · rw [g1.2.1 49 rfl, g1.2.1 50 rfl, show a + 1 + i = a + (i + 1) by omega]
        exact hcode (i + 1) s' hs'
      · rw [show a + 1 + C.length = a + (C.length + 1) by omega]
        exact hk w (g1.tr hw1) hw3
theorem z_worked {q : z_q} {C : List Int32} {a : Nat} {u : k_S} (hw : z_wf C) (hC : ∀ i s, C[i]? = some s → z_ra s (u.2.1 49 (a + i)) (u.2.1 50 (a + i))) (he : a + C.length ≤ 130) (q0 : u.2.1 54 0 = q.1) (q1 : u.2.1 54 1 = q.2.1) (q2 : u.2.1 54 2 = q.2.2.1) (q3 : u.2.1 54 3 = q.2.2.2) : k_sat (f_R_worked 0 (J a) (J (a + C.length)) u) (fun r v => z_fr [] [55] u v ∧ r = z_v q C) := by
  obtain ⟨S', a1, a2, a3⟩ := z_wf_v hw q 0 (u.2.1 55)
  unfold f_R_worked
  rw [z_130]
  have hN : k_FU = (4294967295 - C.length) + 1 + C.length := by unfold k_FU; omega
  refine z_let (z_bind (fun _ v => z_fr [] [55] u v ∧ v.2.1 55 = S') ?_ (fun _ v hv => z_ck (by decide) (by decide) (k_sat_mk ⟨hv.1, ?_⟩)))
  · rw [hN]
    refine z_runR he C a 0 1 (u.2.1 55) S' u _ a1 hC (Nat.le_refl _) (Nat.zero_le _) rfl q0 q1 q2 q3 (fun v hv1 hv2 => z_exit ?_)
    unfold f_R_worked_B12
    dsimp only
    rw [z_130]
    exact z_pos (Int32.le_refl _) (k_sat_mk ⟨_, rfl, hv1, hv2⟩)
  · rw [hv.2]
    exact a3
