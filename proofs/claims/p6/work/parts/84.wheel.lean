/-! wheel -/
def z_th (x : Int32) : Int32 := if x = 119 then 1 else if x = 115 then 1 else if x = 102 then 1 else if x = 98 then 1 else if x < 49 then 0 else if 57 < x then 0 else 1
theorem z_thW (x : Int32) (u : k_S) : f_W_isTooth x u = some (z_th x, u) := by
  unfold f_W_isTooth z_th
  by_cases h1 : x = 119
  · rw [if_pos h1, if_pos h1]
  rw [if_neg h1, if_neg h1]
  by_cases h2 : x = 115
  · rw [if_pos h2, if_pos h2]
  rw [if_neg h2, if_neg h2]
  by_cases h3 : x = 102
  · rw [if_pos h3, if_pos h3]
  rw [if_neg h3, if_neg h3]
  by_cases h4 : x = 98
  · rw [if_pos h4, if_pos h4]
  rw [if_neg h4, if_neg h4]
  by_cases h5 : x < 49
  · rw [if_pos h5, if_pos h5]
  rw [if_neg h5, if_neg h5]
  by_cases h6 : 57 < x
  · rw [if_pos h6, if_pos h6]
  · rw [if_neg h6, if_neg h6]
theorem z_thR (x : Int32) (u : k_S) : f_R_isTooth x u = some (z_th x, u) := by
  unfold f_R_isTooth z_th f_R_in
  by_cases h1 : x = 119
  · rw [if_pos h1, if_pos h1]
  rw [if_neg h1, if_neg h1]
  by_cases h2 : x = 115
  · rw [if_pos h2, if_pos h2]
  rw [if_neg h2, if_neg h2]
  by_cases h3 : x = 102
  · rw [if_pos h3, if_pos h3]
  rw [if_neg h3, if_neg h3]
  by_cases h4 : x = 98
  · rw [if_pos h4, if_pos h4]
  rw [if_neg h4, if_neg h4]
  by_cases h5 : x < 49
  · rw [if_pos h5, if_pos h5]; rfl
  rw [if_neg h5, if_neg h5]
  by_cases h6 : 57 < x
  · rw [if_pos h6, if_pos h6]; rfl
  · rw [if_neg h6, if_neg h6]; rfl
theorem z_th_all : ((List.range 256).all fun b => z_th (J b) == z_th (J b).toInt8.toInt32 && (z_th (J b) == 0 || (z_th (J b) == 1 && (J b).toInt8.toInt32 == J b))) = true := by decide +kernel
theorem z_th_b {b : Nat} (h : b ≤ 255) : z_th (J b) = z_th (J b).toInt8.toInt32 ∧ (z_th (J b) = 0 ∨ (z_th (J b) = 1 ∧ (J b).toInt8.toInt32 = J b)) := by
  have := List.all_eq_true.mp z_th_all b (List.mem_range.mpr (by omega))
  simp only [Bool.and_eq_true, Bool.or_eq_true, beq_iff_eq] at this
  exact this
/-- the tape: n bytes -/
def z_tp (u : k_S) (n : Nat) (b : Nat → Nat) : Prop := n ≤ 120 ∧ u.1 101 = J n ∧ u.1 4202 = J n ∧ ∀ i, i < n → b i ≤ 255 ∧ u.2.1 2 i = J (b i) ∧ u.2.1 43 i = (J (b i)).toInt8.toInt32
theorem z_tape {u : k_S} (h : zT u) : ∃ n b, z_tp u n b := by
  obtain ⟨n, hn, e1, e2, hb⟩ := h
  refine ⟨n, fun i => (u.2.1 2 i).toInt.toNat, hn, e1, e2, fun i hi => ?_⟩
  obtain ⟨b, b1, b2, b3⟩ := hb i hi
  have : (u.2.1 2 i).toInt.toNat = b := by rw [b2, J_toInt (by omega)]; rfl
  show (u.2.1 2 i).toInt.toNat ≤ 255 ∧ u.2.1 2 i = J (u.2.1 2 i).toInt.toNat ∧ u.2.1 43 i = (J (u.2.1 2 i).toInt.toNat).toInt8.toInt32
  rw [this]
  exact ⟨b1, b2, b3⟩
theorem z_tapeAt {n i : Nat} {x : Int32} {u : k_S} (h : u.1 101 = J n) (hn : n ≤ 120) (hi : i < n) (hx : u.2.1 2 i = x) : f_Tape_at (J i) u = some (x, u) := by
  unfold f_Tape_at
  rw [h, if_neg (by (try simp (disch := omega) only [Int32.lt_iff_toInt_lt, Int32.le_iff_toInt_le, ← Int32.toInt_inj, Int32.toInt_add, Int32.toInt_sub, Int32.toInt_mul, Int32.toInt_neg, z_bm, z_bm2, J_ti, J_toInt, z_cn, Int32.reduceToInt]) <;> omega), if_neg (by (try simp (disch := omega) only [Int32.lt_iff_toInt_lt, Int32.le_iff_toInt_le, ← Int32.toInt_inj, Int32.toInt_add, Int32.toInt_sub, Int32.toInt_mul, Int32.toInt_neg, z_bm, z_bm2, J_ti, J_toInt, z_cn, Int32.reduceToInt]) <;> omega), if_neg (by (try simp (disch := omega) only [Int32.lt_iff_toInt_lt, Int32.le_iff_toInt_le, ← Int32.toInt_inj, Int32.toInt_add, Int32.toInt_sub, Int32.toInt_mul, Int32.toInt_neg, z_bm, z_bm2, J_ti, J_toInt, z_cn, Int32.reduceToInt]) <;> omega), z_cko _ (by (try simp (disch := omega) only [Int32.lt_iff_toInt_lt, Int32.le_iff_toInt_le, ← Int32.toInt_inj, Int32.toInt_add, Int32.toInt_sub, Int32.toInt_mul, Int32.toInt_neg, z_bm, z_bm2, J_ti, J_toInt, z_cn, Int32.reduceToInt]) <;> omega) (by (try simp (disch := omega) only [Int32.lt_iff_toInt_lt, Int32.le_iff_toInt_le, ← Int32.toInt_inj, Int32.toInt_add, Int32.toInt_sub, Int32.toInt_mul, Int32.toInt_neg, z_bm, z_bm2, J_ti, J_toInt, z_cn, Int32.reduceToInt]) <;> omega), J_toNat (by omega), hx]
/-- where the teeth end -/
def z_stop (n : Nat) (b : Nat → Nat) (m : Nat) : Prop := m ≤ n ∧ m ≤ 40 ∧ (∀ i, i < m → z_th (J (b i)) = 1) ∧ (m = n ∨ m = 40 ∨ z_th (J (b m)) = 0)
theorem z_stop_u {n : Nat} {b : Nat → Nat} {m m' : Nat} (h : z_stop n b m) (h' : z_stop n b m') : m = m' := by
  obtain ⟨a1, a2, a3, a4⟩ := h
  obtain ⟨b1, b2, b3, b4⟩ := h'
  rcases Nat.lt_trichotomy m m' with q | q | q
  · rcases a4 with e | e | e
    · omega
    · omega
    · have := b3 m q; rw [e] at this; cases this
  · exact q
  · rcases b4 with e | e | e
    · omega
    · omega
    · have := a3 m' q; rw [e] at this; cases this
theorem z_faultOf {u : k_S} {n : Nat} {b : Nat → Nat} (h : z_tp u n b) : k_sat (f_Wheels_faultOf_Tape u) (fun r v => v = u ∧ ∃ m, z_stop n b m ∧ ((m = n ∧ 2 ≤ n ∧ r = -1) ∨ (¬ (m = n ∧ 2 ≤ n) ∧ r = J m))) := by
  obtain ⟨hn, e1, e2, hb⟩ := h
  unfold f_Wheels_faultOf_Tape
  refine z_bind _ (z_for 0 n (fun i v => v = u ∧ i ≤ 40 ∧ ∀ j, j < i → z_th (J (b j)) = 1) (K := fun y v => v = u ∧ ∃ m, z_stop n b m ∧ ((m = n ∧ y = .inr ()) ∨ (m < n ∧ y = .inl (J m)))) (by omega) (Nat.zero_le n) ⟨rfl, by omega, fun j hj => by omega⟩ (fun i v _ hi hp => ?_) (fun v hp => ?_)) (fun y v hv => ?_)
  · obtain ⟨rfl, h40, hp⟩ := hp
    unfold f_Wheels_faultOf_Tape_B2
    rw [e1]
    refine z_neg (by (try simp (disch := omega) only [Int32.lt_iff_toInt_lt, Int32.le_iff_toInt_le, ← Int32.toInt_inj, Int32.toInt_add, Int32.toInt_sub, Int32.toInt_mul, Int32.toInt_neg, z_bm, z_bm2, J_ti, J_toInt, z_cn, Int32.reduceToInt]) <;> omega) (z_ite (fun q => k_sat_mk (Or.inr ⟨_, rfl, rfl, i, ⟨by omega, by omega, hp, Or.inr (Or.inl (by ((try simp (disch := omega) only [Int32.lt_iff_toInt_lt, Int32.le_iff_toInt_le, ← Int32.toInt_inj, Int32.toInt_add, Int32.toInt_sub, Int32.toInt_mul, Int32.toInt_neg, z_bm, z_bm2, J_ti, J_toInt, z_cn, Int32.reduceToInt] at *); omega)))⟩, Or.inr ⟨hi, rfl⟩⟩)) (fun q => ?_))
    rw [z_tapeAt e1 hn hi (hb i hi).2.1, z_bind_some, z_thW, z_bind_some]
    refine z_ite (fun q2 => k_sat_mk (Or.inr ⟨_, rfl, rfl, i, ⟨by omega, by omega, hp, Or.inr (Or.inr q2)⟩, Or.inr ⟨hi, rfl⟩⟩)) (fun q2 => k_sat_mk (Or.inl ⟨rfl, rfl, by ((try simp (disch := omega) only [Int32.lt_iff_toInt_lt, Int32.le_iff_toInt_le, ← Int32.toInt_inj, Int32.toInt_add, Int32.toInt_sub, Int32.toInt_mul, Int32.toInt_neg, z_bm, z_bm2, J_ti, J_toInt, z_cn, Int32.reduceToInt] at *); omega), fun j hj => ?_⟩))
    by_cases e : j = i
    · subst e
      rcases (z_th_b (hb j hi).1).2 with q3 | q3
      · exact absurd q3 q2
      · exact q3.1
    · exact hp j (by omega)
  · obtain ⟨rfl, h40, hp⟩ := hp
    unfold f_Wheels_faultOf_Tape_B2
    rw [e1]
    exact z_pos (Int32.le_refl _) (k_sat_mk ⟨_, rfl, rfl, n, ⟨by omega, h40, hp, Or.inl rfl⟩, Or.inl ⟨rfl, rfl⟩⟩)
  · obtain ⟨rfl, m, hm, ⟨q, rfl⟩ | ⟨q, rfl⟩⟩ := hv
    · simp only [k_cs]
      rw [e1]
      refine z_ite (fun q2 => k_sat_mk ⟨rfl, m, hm, Or.inl ⟨q, by ((try simp (disch := omega) only [Int32.lt_iff_toInt_lt, Int32.le_iff_toInt_le, ← Int32.toInt_inj, Int32.toInt_add, Int32.toInt_sub, Int32.toInt_mul, Int32.toInt_neg, z_bm, z_bm2, J_ti, J_toInt, z_cn, Int32.reduceToInt] at *); omega), rfl⟩⟩) (fun q2 => k_sat_mk ⟨rfl, m, hm, Or.inr ⟨fun q3 => q2 ?_, by rw [q]⟩⟩)
      have := q3.2
      (try simp (disch := omega) only [Int32.lt_iff_toInt_lt, Int32.le_iff_toInt_le, ← Int32.toInt_inj, Int32.toInt_add, Int32.toInt_sub, Int32.toInt_mul, Int32.toInt_neg, z_bm, z_bm2, J_ti, J_toInt, z_cn, Int32.reduceToInt]) <;> omega
    · simp only [k_cs]
      exact k_sat_mk ⟨rfl, m, hm, Or.inr ⟨fun q3 => by omega, rfl⟩⟩
/-- letters laid into a row -/
def z_ly (f : Nat → Int32) (b : Nat → Nat) (w i : Nat) (j : Nat) : Int32 := if 40 * w ≤ j ∧ j < 40 * w + i then J (b (j - 40 * w)) else f j
theorem z_ly_s (f : Nat → Int32) (b : Nat → Nat) (w i : Nat) : upd (z_ly f b w i) (40 * w + i) (J (b i)) = z_ly f b w (i + 1) := by
  funext j
  rw [z_up]
  unfold z_ly
  by_cases e : j = 40 * w + i
  · rw [if_pos e, if_pos (by omega), e, Nat.add_sub_cancel_left]
  · rw [if_neg e]
    by_cases q : 40 * w ≤ j ∧ j < 40 * w + i
    · rw [if_pos q, if_pos (by omega)]
    · rw [if_neg q, if_neg (by omega)]
theorem z_cutFrom {u : k_S} {n w : Nat} {b : Nat → Nat} (h : z_tp u n b) (hw : w < 4) (e3 : u.1 303 = J w) (h40 : n ≤ 40) : k_sat (f_Wheels_cutFrom_Tape u) (fun r v => r = J w ∧ z_fr [303] [4, 5] u v ∧ v.1 303 = J (w + 1) ∧ v.2.1 4 = z_ly (u.2.1 4) b w n ∧ v.2.1 5 = upd (u.2.1 5) w (J n)) := by
  obtain ⟨hn, e1, e2, hb⟩ := h
  unfold f_Wheels_cutFrom_Tape
  rw [e3]
  refine z_let (z_neg (by (try simp (disch := omega) only [Int32.lt_iff_toInt_lt, Int32.le_iff_toInt_le, ← Int32.toInt_inj, Int32.toInt_add, Int32.toInt_sub, Int32.toInt_mul, Int32.toInt_neg, z_bm, z_bm2, J_ti, J_toInt, z_cn, Int32.reduceToInt]) <;> omega) (z_pos (by (try simp (disch := omega) only [Int32.lt_iff_toInt_lt, Int32.le_iff_toInt_le, ← Int32.toInt_inj, Int32.toInt_add, Int32.toInt_sub, Int32.toInt_mul, Int32.toInt_neg, z_bm, z_bm2, J_ti, J_toInt, z_cn, Int32.reduceToInt]) <;> omega) (z_bind _ (z_for 0 n (fun i v => z_fr [] [4] u v ∧ v.2.1 4 = z_ly (u.2.1 4) b w i) (K := fun _ v => z_fr [] [4] u v ∧ v.2.1 4 = z_ly (u.2.1 4) b w n) (by omega) (Nat.zero_le n) ⟨z_fr.rf, ?_⟩ (fun i v _ hi hp => ?_) (fun v hp => ?_)) (fun _ v hv => ?_))))
  · funext j
    unfold z_ly
    rw [if_neg (by omega)]
  · obtain ⟨g1, g2⟩ := hp
    unfold f_Wheels_cutFrom_Tape_B23
    have e1' : v.1 101 = J n := (g1.1 101 rfl).trans e1
    rw [e1']
    refine z_neg (by (try simp (disch := omega) only [Int32.lt_iff_toInt_lt, Int32.le_iff_toInt_le, ← Int32.toInt_inj, Int32.toInt_add, Int32.toInt_sub, Int32.toInt_mul, Int32.toInt_neg, z_bm, z_bm2, J_ti, J_toInt, z_cn, Int32.reduceToInt]) <;> omega) (z_neg (by (try simp (disch := omega) only [Int32.lt_iff_toInt_lt, Int32.le_iff_toInt_le, ← Int32.toInt_inj, Int32.toInt_add, Int32.toInt_sub, Int32.toInt_mul, Int32.toInt_neg, z_bm, z_bm2, J_ti, J_toInt, z_cn, Int32.reduceToInt]) <;> omega) ?_)
    rw [z_tapeAt (x := J (b i)) e1' hn hi ((congrFun (g1.2.1 2 rfl) i).trans (hb i hi).2.1), z_bind_some, z_setLetter hw (by omega), z_bind_some]
    refine k_sat_mk (Or.inl ⟨rfl, g1.tr (z_wA rfl), ?_⟩)
    simp only [k_wA, if_true]
    rw [g2, z_ly_s]
  · obtain ⟨g1, g2⟩ := hp
    unfold f_Wheels_cutFrom_Tape_B23
    rw [(g1.1 101 rfl).trans e1]
    exact z_pos (Int32.le_refl _) (k_sat_mk ⟨_, rfl, g1, g2⟩)
  · obtain ⟨g1, g2⟩ := hv
    unfold f_Wheels_cutFrom_Tape_J54
    refine z_ck (by (try simp (disch := omega) only [Int32.lt_iff_toInt_lt, Int32.le_iff_toInt_le, ← Int32.toInt_inj, Int32.toInt_add, Int32.toInt_sub, Int32.toInt_mul, Int32.toInt_neg, z_bm, z_bm2, J_ti, J_toInt, z_cn, Int32.reduceToInt]) <;> omega) (by (try simp (disch := omega) only [Int32.lt_iff_toInt_lt, Int32.le_iff_toInt_le, ← Int32.toInt_inj, Int32.toInt_add, Int32.toInt_sub, Int32.toInt_mul, Int32.toInt_neg, z_bm, z_bm2, J_ti, J_toInt, z_cn, Int32.reduceToInt]) <;> omega) (z_let (z_let (k_sat_mk ⟨rfl, ((g1.mono rfl rfl).tr (z_wA rfl)).tr (z_wF rfl), ?_, ?_, ?_⟩)))
    · simp [k_wF, k_wA, g1.1 303 rfl, e3, z_Jp]
    · simp [k_wF, k_wA, g2]
    · simp [k_wF, k_wA, g1.2.1 5 rfl, (g1.1 101 rfl).trans e1, J_toNat (show w < 2147483648 by omega)]
