/-! RECORDS: record, records -/
def z_RW (n : Nat) (A B : Nat → Nat) (u : k_S) : Prop := u.1 2003 = J n ∧ z_RC 21 22 n A B u ∧ ∃ f : Nat → Nat, (∀ i, i < n → f i < n ∧ u.2.1 23 i = J (f i)) ∧ (∀ r, r < n → ∃ i, i < n ∧ f i = r) ∧ ∀ i j, i < j → j < n → A (f i) ≤ A (f j)
def z_RR (n : Nat) (A B : Nat → Nat) (u : k_S) : Prop := u.1 4235 = J n ∧ z_RC 64 65 n A B u
theorem z_R_in {u : k_S} (h : zR u) : ∃ (n : Nat) (A B : Nat → Nat), n ≤ 40 ∧ z_RW n A B u ∧ z_RR n A B u := by
  obtain ⟨n, A, B, f, hn, r1, r2, r3, r4, hf, hsu, hso⟩ := z_recs h
  exact ⟨n, A, B, hn, ⟨r1, r3, f, hf, hsu, hso⟩, r2, r4⟩
theorem z_R_out {u : k_S} {n : Nat} {A B : Nat → Nat} (hn : n ≤ 40) (h1 : z_RW n A B u) (h2 : z_RR n A B u) : zR u := by
  obtain ⟨r1, r3, f, hf, hsu, hso⟩ := h1
  obtain ⟨r2, r4⟩ := h2
  refine ⟨n, hn, r1, r2, fun i hi => ?_, f, hf, hsu, fun i j hij hj => ?_⟩
  · obtain ⟨a1, a2, a3, a4⟩ := r3 i hi
    obtain ⟨b1, b2, b3, b4⟩ := r4 i hi
    exact ⟨A i, B i, a1, a2, a3, b3, a4, b4⟩
  · have k1 := hf i (by omega)
    have k2 := hf j hj
    have k3 := hso i j hij hj
    have a1 := r3 (f i) k1.1
    have a2 := r3 (f j) k2.1
    rw [a1.2.2.1, a2.2.2.1, J_toInt (by omega), J_toInt (by omega)]
    omega
theorem z_RC_c {c1 c2 n : Nat} {A B A' B' : Nat → Nat} {u : k_S} (e : ∀ i, i < n → A' i = A i ∧ B' i = B i) (h : z_RC c1 c2 n A B u) : z_RC c1 c2 n A' B' u := by
  intro i hi
  rw [(e i hi).1, (e i hi).2]
  exact h i hi
theorem z_RW_c {n : Nat} {A B A' B' : Nat → Nat} {u : k_S} (e : ∀ i, i < n → A' i = A i ∧ B' i = B i) (h : z_RW n A B u) : z_RW n A' B' u := by
  obtain ⟨r1, r3, f, hf, hsu, hso⟩ := h
  refine ⟨r1, z_RC_c e r3, f, hf, hsu, fun i j hij hj => ?_⟩
  rw [(e (f i) (hf i (by omega)).1).1, (e (f j) (hf j hj).1).1]
  exact hso i j hij hj
theorem z_RW_f {F C : List Nat} {n : Nat} {A B : Nat → Nat} {u v : k_S} (h : z_fr F C u v) (d : F.elem 2003 = false ∧ C.elem 21 = false ∧ C.elem 22 = false ∧ C.elem 23 = false) (k : z_RW n A B u) : z_RW n A B v := by
  obtain ⟨r1, r3, f, hf, hsu, hso⟩ := k
  exact ⟨(h.1 2003 d.1).trans r1, z_RC_f h d.2.1 d.2.2.1 r3, f, by rw [h.2.1 23 d.2.2.2]; exact hf, hsu, hso⟩
theorem z_RR_f {F C : List Nat} {n : Nat} {A B : Nat → Nat} {u v : k_S} (h : z_fr F C u v) (d : F.elem 4235 = false ∧ C.elem 64 = false ∧ C.elem 65 = false) (k : z_RR n A B u) : z_RR n A B v :=
  ⟨(h.1 4235 d.1).trans k.1, z_RC_f h d.2.1 d.2.2 k.2⟩
theorem z_RaddW {n : Nat} {A B : Nat → Nat} {u : k_S} (hn : n < 40) (ha : A n ≤ 5000) (hb : B n < 40) (h : z_RW n A B u) : k_sat (f_Records_add (J (A n)) (J (B n)) u) (fun r v => r = J n ∧ z_fr [2003] [21, 22, 23] u v ∧ z_RW (n + 1) A B v) := by
  obtain ⟨r1, r3, f, hf, hsu, hso⟩ := h
  unfold f_Records_add
  rw [r1]
  refine z_let (z_neg (by (try simp (disch := omega) only [Int32.lt_iff_toInt_lt, Int32.le_iff_toInt_le, ← Int32.toInt_inj, Int32.toInt_add, Int32.toInt_sub, Int32.toInt_mul, Int32.toInt_neg, z_bm, z_bm2, J_ti, J_toInt, z_cn, Int32.reduceToInt]) <;> omega) (z_neg (by (try simp (disch := omega) only [Int32.lt_iff_toInt_lt, Int32.le_iff_toInt_le, ← Int32.toInt_inj, Int32.toInt_add, Int32.toInt_sub, Int32.toInt_mul, Int32.toInt_neg, z_bm, z_bm2, J_ti, J_toInt, z_cn, Int32.reduceToInt]) <;> omega) (z_neg (by (try simp (disch := omega) only [Int32.lt_iff_toInt_lt, Int32.le_iff_toInt_le, ← Int32.toInt_inj, Int32.toInt_add, Int32.toInt_sub, Int32.toInt_mul, Int32.toInt_neg, z_bm, z_bm2, J_ti, J_toInt, z_cn, Int32.reduceToInt]) <;> omega) (z_pos (by (try simp (disch := omega) only [Int32.lt_iff_toInt_lt, Int32.le_iff_toInt_le, ← Int32.toInt_inj, Int32.toInt_add, Int32.toInt_sub, Int32.toInt_mul, Int32.toInt_neg, z_bm, z_bm2, J_ti, J_toInt, z_cn, Int32.reduceToInt]) <;> omega) (z_ck (by (try simp (disch := omega) only [Int32.lt_iff_toInt_lt, Int32.le_iff_toInt_le, ← Int32.toInt_inj, Int32.toInt_add, Int32.toInt_sub, Int32.toInt_mul, Int32.toInt_neg, z_bm, z_bm2, J_ti, J_toInt, z_cn, Int32.reduceToInt]) <;> omega) (by (try simp (disch := omega) only [Int32.lt_iff_toInt_lt, Int32.le_iff_toInt_le, ← Int32.toInt_inj, Int32.toInt_add, Int32.toInt_sub, Int32.toInt_mul, Int32.toInt_neg, z_bm, z_bm2, J_ti, J_toInt, z_cn, Int32.reduceToInt]) <;> omega) (z_let (z_ck (by (try simp (disch := omega) only [Int32.lt_iff_toInt_lt, Int32.le_iff_toInt_le, ← Int32.toInt_inj, Int32.toInt_add, Int32.toInt_sub, Int32.toInt_mul, Int32.toInt_neg, z_bm, z_bm2, J_ti, J_toInt, z_cn, Int32.reduceToInt]) <;> omega) (by (try simp (disch := omega) only [Int32.lt_iff_toInt_lt, Int32.le_iff_toInt_le, ← Int32.toInt_inj, Int32.toInt_add, Int32.toInt_sub, Int32.toInt_mul, Int32.toInt_neg, z_bm, z_bm2, J_ti, J_toInt, z_cn, Int32.reduceToInt]) <;> omega) (z_let ?_))))))))
  rw [J_toNat (show n < 2147483648 by omega)]
  generalize hu3 : k_wA (k_wA u 21 n (J (A n))) 22 n (J (B n)) = u3
  have f3 : z_fr [] [21, 22] u u3 := by rw [← hu3]; exact (z_wA rfl).tr (z_wA rfl)
  have c3 : ∀ i, i < n + 1 → u3.2.1 21 i = J (A i) ∧ u3.2.1 22 i = J (B i) := by
    intro i hi
    rw [← hu3]
    simp only [k_wA, if_true, if_false, z_up]
    by_cases e : i = n
    · subst e; simp [z_up]
    · have := r3 i (by omega)
      simp [z_up, e, this.2.2.1, this.2.2.2]
  refine z_bind (fun y v => z_fr [] [23] u3 v ∧ ∃ i, i ≤ n ∧ y = J i ∧ (∀ j, j < i → v.2.1 23 j = J (f j)) ∧ (∀ j, i < j → j ≤ n → v.2.1 23 j = J (f (j - 1)) ∧ A n < A (f (j - 1))) ∧ (0 < i → A (f (i - 1)) ≤ A n)) (z_itr (P := fun m x v => z_fr [] [23] u3 v ∧ ∃ i, i ≤ n ∧ m = i ∧ x = (J i, J i) ∧ (∀ j, j < i → v.2.1 23 j = J (f j)) ∧ (∀ j, i < j → j ≤ n → v.2.1 23 j = J (f (j - 1)) ∧ A n < A (f (j - 1)))) (fun m x v hp => ?_) k_FU n (J n, J n) u3 (by unfold k_FU; omega) ⟨z_fr.rf, n, Nat.le_refl n, rfl, rfl, fun j hj => by rw [f3.2.1 23 rfl]; exact (hf j hj).2, fun j h1 h2 => by omega⟩) (fun y v hv => ?_)
  · obtain ⟨g1, i, hi, rfl, rfl, g2, g3⟩ := hp
    unfold f_Records_add_B59
    dsimp only
    by_cases h0 : m = 0
    · subst h0
      exact z_pos (Int32.le_refl _) (k_sat_mk (Or.inr ⟨_, rfl, g1, 0, by omega, rfl, g2, g3, fun q => by omega⟩))
    · refine z_neg (by (try simp (disch := omega) only [Int32.lt_iff_toInt_lt, Int32.le_iff_toInt_le, ← Int32.toInt_inj, Int32.toInt_add, Int32.toInt_sub, Int32.toInt_mul, Int32.toInt_neg, z_bm, z_bm2, J_ti, J_toInt, z_cn, Int32.reduceToInt]) <;> omega) ?_
      rw [z_Jm' (by omega), J_toNat (show m - 1 < 2147483648 by omega), J_toNat (show m < 2147483648 by omega)]
      have hfm := (hf (m - 1) (by omega)).1
      refine z_ck (by (try simp (disch := omega) only [Int32.lt_iff_toInt_lt, Int32.le_iff_toInt_le, ← Int32.toInt_inj, Int32.toInt_add, Int32.toInt_sub, Int32.toInt_mul, Int32.toInt_neg, z_bm, z_bm2, J_ti, J_toInt, z_cn, Int32.reduceToInt]) <;> omega) (by (try simp (disch := omega) only [Int32.lt_iff_toInt_lt, Int32.le_iff_toInt_le, ← Int32.toInt_inj, Int32.toInt_add, Int32.toInt_sub, Int32.toInt_mul, Int32.toInt_neg, z_bm, z_bm2, J_ti, J_toInt, z_cn, Int32.reduceToInt]) <;> omega) ?_
      rw [g2 (m - 1) (by omega), z_Records_nightOf (by omega), z_bind_some, g1.2.1 21 rfl, (c3 _ (by omega)).1]
      have hA := (r3 _ hfm).1
      refine z_ite (fun q => k_sat_mk (Or.inr ⟨_, rfl, g1, m, hi, rfl, g2, g3, fun _ => by ((try simp (disch := omega) only [Int32.lt_iff_toInt_lt, Int32.le_iff_toInt_le, ← Int32.toInt_inj, Int32.toInt_add, Int32.toInt_sub, Int32.toInt_mul, Int32.toInt_neg, z_bm, z_bm2, J_ti, J_toInt, z_cn, Int32.reduceToInt] at *); omega)⟩)) (fun q => ?_)
      refine z_ck (by (try simp (disch := omega) only [Int32.lt_iff_toInt_lt, Int32.le_iff_toInt_le, ← Int32.toInt_inj, Int32.toInt_add, Int32.toInt_sub, Int32.toInt_mul, Int32.toInt_neg, z_bm, z_bm2, J_ti, J_toInt, z_cn, Int32.reduceToInt]) <;> omega) (by (try simp (disch := omega) only [Int32.lt_iff_toInt_lt, Int32.le_iff_toInt_le, ← Int32.toInt_inj, Int32.toInt_add, Int32.toInt_sub, Int32.toInt_mul, Int32.toInt_neg, z_bm, z_bm2, J_ti, J_toInt, z_cn, Int32.reduceToInt]) <;> omega) (z_ck (by (try simp (disch := omega) only [Int32.lt_iff_toInt_lt, Int32.le_iff_toInt_le, ← Int32.toInt_inj, Int32.toInt_add, Int32.toInt_sub, Int32.toInt_mul, Int32.toInt_neg, z_bm, z_bm2, J_ti, J_toInt, z_cn, Int32.reduceToInt]) <;> omega) (by (try simp (disch := omega) only [Int32.lt_iff_toInt_lt, Int32.le_iff_toInt_le, ← Int32.toInt_inj, Int32.toInt_add, Int32.toInt_sub, Int32.toInt_mul, Int32.toInt_neg, z_bm, z_bm2, J_ti, J_toInt, z_cn, Int32.reduceToInt]) <;> omega) (z_let (z_let (k_sat_mk (Or.inl ⟨_, m - 1, rfl, by omega, g1.tr (z_wA rfl), m - 1, by omega, rfl, ?_, fun j hj => ?_, fun j h1 h2 => ?_⟩)))))
      · have : J m + Int32.ofInt (-1) = J (m - 1) := by
          rw [← z_Jm' (by omega), Int32.sub_eq_add_neg]; rfl
        rw [this]
      · simp only [k_wA, if_true, z_up]
        rw [if_neg (by omega)]
        exact g2 j (by omega)
      · simp only [k_wA, if_true, z_up]
        by_cases e : j = m
        · subst e
          rw [if_pos rfl, g2 (j - 1) (by omega)]
          exact ⟨rfl, by ((try simp (disch := omega) only [Int32.lt_iff_toInt_lt, Int32.le_iff_toInt_le, ← Int32.toInt_inj, Int32.toInt_add, Int32.toInt_sub, Int32.toInt_mul, Int32.toInt_neg, z_bm, z_bm2, J_ti, J_toInt, z_cn, Int32.reduceToInt] at *); omega)⟩
        · rw [if_neg e]
          exact g3 j (by omega) h2
  · obtain ⟨g1, i, hi, rfl, g2, g3, g4⟩ := hv
    unfold f_Records_add_J109
    refine z_ck (by (try simp (disch := omega) only [Int32.lt_iff_toInt_lt, Int32.le_iff_toInt_le, ← Int32.toInt_inj, Int32.toInt_add, Int32.toInt_sub, Int32.toInt_mul, Int32.toInt_neg, z_bm, z_bm2, J_ti, J_toInt, z_cn, Int32.reduceToInt]) <;> omega) (by (try simp (disch := omega) only [Int32.lt_iff_toInt_lt, Int32.le_iff_toInt_le, ← Int32.toInt_inj, Int32.toInt_add, Int32.toInt_sub, Int32.toInt_mul, Int32.toInt_neg, z_bm, z_bm2, J_ti, J_toInt, z_cn, Int32.reduceToInt]) <;> omega) (z_let (z_let (k_sat_mk ⟨rfl, ?_, ?_⟩)))
    · exact (((f3.mono rfl rfl).tr (g1.mono rfl rfl)).tr (z_wA rfl)).tr (z_wF rfl)
    · rw [J_toNat (show i < 2147483648 by omega)]
      have e23 : ∀ j, (k_wF (k_wA v 23 i (J n)) 2003 ((k_wA v 23 i (J n)).1 2003 + 1)).2.1 23 j = if j = i then J n else v.2.1 23 j := fun j => by simp [k_wF, k_wA, z_up]
      have e21 : (k_wF (k_wA v 23 i (J n)) 2003 ((k_wA v 23 i (J n)).1 2003 + 1)).2.1 21 = u3.2.1 21 := by rw [← g1.2.1 21 rfl]; simp [k_wF, k_wA]
      have e22 : (k_wF (k_wA v 23 i (J n)) 2003 ((k_wA v 23 i (J n)).1 2003 + 1)).2.1 22 = u3.2.1 22 := by rw [← g1.2.1 22 rfl]; simp [k_wF, k_wA]
      refine ⟨?_, fun r hr => ?_, fun j => if j < i then f j else if j = i then n else f (j - 1), fun j hj => ?_, fun r hr => ?_, fun j k hjk hk => ?_⟩
      · have : v.1 2003 = J n := by rw [g1.1 2003 rfl, f3.1 2003 rfl, r1]
        simp [k_wF, k_wA, this, z_Jp]
      · rw [e21, e22]
        refine ⟨?_, ?_, (c3 r hr).1, (c3 r hr).2⟩
        · by_cases e : r = n
          · rw [e]; exact ha
          · exact (r3 r (by omega)).1
        · by_cases e : r = n
          · rw [e]; exact hb
          · exact (r3 r (by omega)).2.1
      · rw [e23]
        dsimp only
        by_cases q : j < i
        · rw [if_pos q, if_neg (by omega), g2 j q]
          exact ⟨by have := (hf j (by omega)).1; omega, rfl⟩
        · rw [if_neg q]
          by_cases q2 : j = i
          · rw [if_pos q2, if_pos q2]
            exact ⟨by omega, rfl⟩
          · rw [if_neg q2, if_neg q2, (g3 j (by omega) (by omega)).1]
            exact ⟨by have := (hf (j - 1) (by omega)).1; omega, rfl⟩
      · by_cases e : r = n
        · exact ⟨i, by omega, by dsimp only; rw [if_neg (Nat.lt_irrefl i), if_pos rfl, e]⟩
        · obtain ⟨j, hj, ej⟩ := hsu r (by omega)
          by_cases q : j < i
          · exact ⟨j, by omega, by dsimp only; rw [if_pos q]; exact ej⟩
          · exact ⟨j + 1, by omega, by dsimp only; rw [if_neg (by omega), if_neg (by omega)]; exact ej⟩
      · show A (if j < i then f j else if j = i then n else f (j - 1)) ≤ A (if k < i then f k else if k = i then n else f (k - 1))
        have hs' : ∀ x y, x ≤ y → y < n → A (f x) ≤ A (f y) := fun x y hxy hy => by
          by_cases e : x = y
          · rw [e]; exact Nat.le_refl _
          · exact hso x y (by omega) hy
        by_cases q : j < i
        · rw [if_pos q]
          by_cases q2 : k < i
          · rw [if_pos q2]; exact hs' j k (by omega) (by omega)
          · rw [if_neg q2]
            by_cases q3 : k = i
            · rw [if_pos q3]
              exact Nat.le_trans (hs' j (i - 1) (by omega) (by omega)) (g4 (by omega))
            · rw [if_neg q3]; exact hs' j (k - 1) (by omega) (by omega)
        · rw [if_neg q, if_neg (show ¬ k < i by omega), if_neg (show ¬ k = i by omega)]
          by_cases q3 : j = i
          · rw [if_pos q3]
            have := (g3 k (by omega) (by omega)).2
            omega
          · rw [if_neg q3]; exact hs' (j - 1) (k - 1) (by omega) (by omega)
theorem z_RaddR {n : Nat} {A B : Nat → Nat} {u : k_S} (hn : n < 40) (ha : A n ≤ 5000) (hb : B n < 40) (h : z_RR n A B u) : k_sat (f_R_addRecord (J (A n)) (J (B n)) u) (fun _ v => z_fr [4235] [64, 65] u v ∧ z_RR (n + 1) A B v) := by
  obtain ⟨r2, r4⟩ := h
  unfold f_R_addRecord
  have e1 : ∀ x, (k_wA u 64 n x).1 4235 = J n := fun x => r2
  have e2 : ∀ x y, (k_wA (k_wA u 64 n x) 65 n y).1 4235 = J n := fun x y => r2
  rw [r2, J_toNat (show n < 2147483648 by omega)]
  refine z_ck (by (try simp (disch := omega) only [Int32.lt_iff_toInt_lt, Int32.le_iff_toInt_le, ← Int32.toInt_inj, Int32.toInt_add, Int32.toInt_sub, Int32.toInt_mul, Int32.toInt_neg, z_bm, z_bm2, J_ti, J_toInt, z_cn, Int32.reduceToInt]) <;> omega) (by (try simp (disch := omega) only [Int32.lt_iff_toInt_lt, Int32.le_iff_toInt_le, ← Int32.toInt_inj, Int32.toInt_add, Int32.toInt_sub, Int32.toInt_mul, Int32.toInt_neg, z_bm, z_bm2, J_ti, J_toInt, z_cn, Int32.reduceToInt]) <;> omega) (z_let ?_)
  rw [e1, J_toNat (show n < 2147483648 by omega)]
  refine z_ck (by (try simp (disch := omega) only [Int32.lt_iff_toInt_lt, Int32.le_iff_toInt_le, ← Int32.toInt_inj, Int32.toInt_add, Int32.toInt_sub, Int32.toInt_mul, Int32.toInt_neg, z_bm, z_bm2, J_ti, J_toInt, z_cn, Int32.reduceToInt]) <;> omega) (by (try simp (disch := omega) only [Int32.lt_iff_toInt_lt, Int32.le_iff_toInt_le, ← Int32.toInt_inj, Int32.toInt_add, Int32.toInt_sub, Int32.toInt_mul, Int32.toInt_neg, z_bm, z_bm2, J_ti, J_toInt, z_cn, Int32.reduceToInt]) <;> omega) (z_let (z_let (k_sat_mk ⟨((z_wA rfl).tr (z_wA rfl)).tr (z_wF rfl), ?_, fun i hi => ?_⟩)))
  · simp [k_wF, k_wA, r2, z_Jp]
  · by_cases e : i = n
    · subst e
      refine ⟨ha, hb, ?_, ?_⟩ <;> simp [k_wF, k_wA, z_up]
    · obtain ⟨a1, a2, a3, a4⟩ := r4 i (by omega)
      refine ⟨a1, a2, ?_, ?_⟩
      · simp [k_wF, k_wA, z_up, e, a3]
      · simp [k_wF, k_wA, z_up, e, a4]
