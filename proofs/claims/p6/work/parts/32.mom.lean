/-! R's keeping and laying back; rows of a shelf cleared -/
theorem z_keepNow (u : k_S) : k_sat (f_R_keepNow u) (fun _ u' => z_fr [4230] [60, 61] u u' ∧ u'.1 4230 = u.1 4209 ∧ ∀ w, w < 4 → u'.2.1 60 w = u.2.1 46 w ∧ u'.2.1 61 w = u.2.1 47 w) := by
  unfold f_R_keepNow
  refine z_let (z_bind _ (z_for 0 4 (fun i u' => z_fr [4230] [60, 61] u u' ∧ u'.1 4230 = u.1 4209 ∧ ∀ w, w < i → u'.2.1 60 w = u.2.1 46 w ∧ u'.2.1 61 w = u.2.1 47 w) (K := fun _ u' => z_fr [4230] [60, 61] u u' ∧ u'.1 4230 = u.1 4209 ∧ ∀ w, w < 4 → u'.2.1 60 w = u.2.1 46 w ∧ u'.2.1 61 w = u.2.1 47 w) (by omega) (by omega) ⟨z_wF rfl, by simp [k_wF], fun w h => by omega⟩ (fun i u' _ hi hp => ?_) (fun u' hp => ?_)) (fun _ u' h => k_sat_mk h))
  · obtain ⟨h1, h2, h3⟩ := hp
    unfold f_R_keepNow_B10
    refine z_neg (by (try simp (disch := omega) only [Int32.lt_iff_toInt_lt, Int32.le_iff_toInt_le, ← Int32.toInt_inj, Int32.toInt_add, Int32.toInt_sub, Int32.toInt_mul, Int32.toInt_neg, z_bm, z_bm2, J_ti, J_toInt, z_cn, Int32.reduceToInt]) <;> omega) (z_ck (by (try simp (disch := omega) only [Int32.lt_iff_toInt_lt, Int32.le_iff_toInt_le, ← Int32.toInt_inj, Int32.toInt_add, Int32.toInt_sub, Int32.toInt_mul, Int32.toInt_neg, z_bm, z_bm2, J_ti, J_toInt, z_cn, Int32.reduceToInt]) <;> omega) (by (try simp (disch := omega) only [Int32.lt_iff_toInt_lt, Int32.le_iff_toInt_le, ← Int32.toInt_inj, Int32.toInt_add, Int32.toInt_sub, Int32.toInt_mul, Int32.toInt_neg, z_bm, z_bm2, J_ti, J_toInt, z_cn, Int32.reduceToInt]) <;> omega) (z_ck (by (try simp (disch := omega) only [Int32.lt_iff_toInt_lt, Int32.le_iff_toInt_le, ← Int32.toInt_inj, Int32.toInt_add, Int32.toInt_sub, Int32.toInt_mul, Int32.toInt_neg, z_bm, z_bm2, J_ti, J_toInt, z_cn, Int32.reduceToInt]) <;> omega) (by (try simp (disch := omega) only [Int32.lt_iff_toInt_lt, Int32.le_iff_toInt_le, ← Int32.toInt_inj, Int32.toInt_add, Int32.toInt_sub, Int32.toInt_mul, Int32.toInt_neg, z_bm, z_bm2, J_ti, J_toInt, z_cn, Int32.reduceToInt]) <;> omega) (z_let (z_ck (by (try simp (disch := omega) only [Int32.lt_iff_toInt_lt, Int32.le_iff_toInt_le, ← Int32.toInt_inj, Int32.toInt_add, Int32.toInt_sub, Int32.toInt_mul, Int32.toInt_neg, z_bm, z_bm2, J_ti, J_toInt, z_cn, Int32.reduceToInt]) <;> omega) (by (try simp (disch := omega) only [Int32.lt_iff_toInt_lt, Int32.le_iff_toInt_le, ← Int32.toInt_inj, Int32.toInt_add, Int32.toInt_sub, Int32.toInt_mul, Int32.toInt_neg, z_bm, z_bm2, J_ti, J_toInt, z_cn, Int32.reduceToInt]) <;> omega) (z_ck (by (try simp (disch := omega) only [Int32.lt_iff_toInt_lt, Int32.le_iff_toInt_le, ← Int32.toInt_inj, Int32.toInt_add, Int32.toInt_sub, Int32.toInt_mul, Int32.toInt_neg, z_bm, z_bm2, J_ti, J_toInt, z_cn, Int32.reduceToInt]) <;> omega) (by (try simp (disch := omega) only [Int32.lt_iff_toInt_lt, Int32.le_iff_toInt_le, ← Int32.toInt_inj, Int32.toInt_add, Int32.toInt_sub, Int32.toInt_mul, Int32.toInt_neg, z_bm, z_bm2, J_ti, J_toInt, z_cn, Int32.reduceToInt]) <;> omega) (z_let (k_sat_mk (Or.inl ⟨rfl, (h1.tr (z_wA rfl)).tr (z_wA rfl), h2, fun w hw => ?_⟩))))))))
    have e0 : u'.2.1 46 = u.2.1 46 := h1.2.1 46 rfl
    have e1 : u'.2.1 47 = u.2.1 47 := h1.2.1 47 rfl
    simp only [k_wA, z_up, J_toNat (show i < 2147483648 by omega)]
    by_cases e : w = i
    · subst e; simp [z_up, e0, e1]
    · simp [z_up, e, h3 w (by omega)]
  · unfold f_R_keepNow_B10
    exact z_pos (by (try simp (disch := omega) only [Int32.lt_iff_toInt_lt, Int32.le_iff_toInt_le, ← Int32.toInt_inj, Int32.toInt_add, Int32.toInt_sub, Int32.toInt_mul, Int32.toInt_neg, z_bm, z_bm2, J_ti, J_toInt, z_cn, Int32.reduceToInt]) <;> omega) (k_sat_mk ⟨_, rfl, hp⟩)
theorem z_layBack (u : k_S) : k_sat (f_R_layBack u) (fun _ u' => z_fr [4209] [46, 47] u u' ∧ u'.1 4209 = u.1 4230 ∧ (∀ w, w < 4 → u'.2.1 46 w = u.2.1 60 w ∧ u'.2.1 47 w = u.2.1 61 w) ∧ ∀ w, 4 ≤ w → u'.2.1 46 w = u.2.1 46 w ∧ u'.2.1 47 w = u.2.1 47 w) := by
  unfold f_R_layBack
  refine z_let (z_bind _ (z_for 0 4 (fun i u' => z_fr [4209] [46, 47] u u' ∧ u'.1 4209 = u.1 4230 ∧ (∀ w, w < i → u'.2.1 46 w = u.2.1 60 w ∧ u'.2.1 47 w = u.2.1 61 w) ∧ ∀ w, i ≤ w → u'.2.1 46 w = u.2.1 46 w ∧ u'.2.1 47 w = u.2.1 47 w) (K := fun _ u' => z_fr [4209] [46, 47] u u' ∧ u'.1 4209 = u.1 4230 ∧ (∀ w, w < 4 → u'.2.1 46 w = u.2.1 60 w ∧ u'.2.1 47 w = u.2.1 61 w) ∧ ∀ w, 4 ≤ w → u'.2.1 46 w = u.2.1 46 w ∧ u'.2.1 47 w = u.2.1 47 w) (by omega) (by omega) ⟨z_wF rfl, by simp [k_wF], fun w h => by omega, fun w h => ⟨rfl, rfl⟩⟩ (fun i u' _ hi hp => ?_) (fun u' hp => ?_)) (fun _ u' h => k_sat_mk h))
  · obtain ⟨h1, h2, h3, h4⟩ := hp
    unfold f_R_layBack_B10
    refine z_neg (by (try simp (disch := omega) only [Int32.lt_iff_toInt_lt, Int32.le_iff_toInt_le, ← Int32.toInt_inj, Int32.toInt_add, Int32.toInt_sub, Int32.toInt_mul, Int32.toInt_neg, z_bm, z_bm2, J_ti, J_toInt, z_cn, Int32.reduceToInt]) <;> omega) (z_ck (by (try simp (disch := omega) only [Int32.lt_iff_toInt_lt, Int32.le_iff_toInt_le, ← Int32.toInt_inj, Int32.toInt_add, Int32.toInt_sub, Int32.toInt_mul, Int32.toInt_neg, z_bm, z_bm2, J_ti, J_toInt, z_cn, Int32.reduceToInt]) <;> omega) (by (try simp (disch := omega) only [Int32.lt_iff_toInt_lt, Int32.le_iff_toInt_le, ← Int32.toInt_inj, Int32.toInt_add, Int32.toInt_sub, Int32.toInt_mul, Int32.toInt_neg, z_bm, z_bm2, J_ti, J_toInt, z_cn, Int32.reduceToInt]) <;> omega) (z_ck (by (try simp (disch := omega) only [Int32.lt_iff_toInt_lt, Int32.le_iff_toInt_le, ← Int32.toInt_inj, Int32.toInt_add, Int32.toInt_sub, Int32.toInt_mul, Int32.toInt_neg, z_bm, z_bm2, J_ti, J_toInt, z_cn, Int32.reduceToInt]) <;> omega) (by (try simp (disch := omega) only [Int32.lt_iff_toInt_lt, Int32.le_iff_toInt_le, ← Int32.toInt_inj, Int32.toInt_add, Int32.toInt_sub, Int32.toInt_mul, Int32.toInt_neg, z_bm, z_bm2, J_ti, J_toInt, z_cn, Int32.reduceToInt]) <;> omega) (z_let (z_ck (by (try simp (disch := omega) only [Int32.lt_iff_toInt_lt, Int32.le_iff_toInt_le, ← Int32.toInt_inj, Int32.toInt_add, Int32.toInt_sub, Int32.toInt_mul, Int32.toInt_neg, z_bm, z_bm2, J_ti, J_toInt, z_cn, Int32.reduceToInt]) <;> omega) (by (try simp (disch := omega) only [Int32.lt_iff_toInt_lt, Int32.le_iff_toInt_le, ← Int32.toInt_inj, Int32.toInt_add, Int32.toInt_sub, Int32.toInt_mul, Int32.toInt_neg, z_bm, z_bm2, J_ti, J_toInt, z_cn, Int32.reduceToInt]) <;> omega) (z_ck (by (try simp (disch := omega) only [Int32.lt_iff_toInt_lt, Int32.le_iff_toInt_le, ← Int32.toInt_inj, Int32.toInt_add, Int32.toInt_sub, Int32.toInt_mul, Int32.toInt_neg, z_bm, z_bm2, J_ti, J_toInt, z_cn, Int32.reduceToInt]) <;> omega) (by (try simp (disch := omega) only [Int32.lt_iff_toInt_lt, Int32.le_iff_toInt_le, ← Int32.toInt_inj, Int32.toInt_add, Int32.toInt_sub, Int32.toInt_mul, Int32.toInt_neg, z_bm, z_bm2, J_ti, J_toInt, z_cn, Int32.reduceToInt]) <;> omega) (z_let (k_sat_mk (Or.inl ⟨rfl, (h1.tr (z_wA rfl)).tr (z_wA rfl), h2, fun w hw => ?_, fun w hw => ?_⟩))))))))
    · have e0 : u'.2.1 60 = u.2.1 60 := h1.2.1 60 rfl
      have e1 : u'.2.1 61 = u.2.1 61 := h1.2.1 61 rfl
      simp only [k_wA, z_up, J_toNat (show i < 2147483648 by omega)]
      by_cases e : w = i
      · subst e; simp [z_up, e0, e1]
      · simp [z_up, e, h3 w (by omega)]
    · simp only [k_wA, z_up, J_toNat (show i < 2147483648 by omega)]
      simp [z_up, show ¬ w = i by omega, h4 w (by omega)]
  · unfold f_R_layBack_B10
    exact z_pos (by (try simp (disch := omega) only [Int32.lt_iff_toInt_lt, Int32.le_iff_toInt_le, ← Int32.toInt_inj, Int32.toInt_add, Int32.toInt_sub, Int32.toInt_mul, Int32.toInt_neg, z_bm, z_bm2, J_ti, J_toInt, z_cn, Int32.reduceToInt]) <;> omega) (k_sat_mk ⟨_, rfl, hp⟩)
/-- a shelf is held anew: its elements are noughts -/
theorem z_hold (p s n : Int32) (u : k_S) (h0 : 0 ≤ p.toInt) (h1 : p.toInt < 6) : k_sat (f_Shelves_hold p s n u) (fun _ u' => z_fr [] [39, 40, 41] u u' ∧ u'.2.1 39 = upd (u.2.1 39) p.toNatClampNeg s ∧ u'.2.1 40 = upd (u.2.1 40) p.toNatClampNeg n ∧ u'.2.1 41 = u.2.1 41 ∧ (∀ j, j < 60 → u'.2.2 41 (60 * p.toNatClampNeg + j) = 0) ∧ ∀ j, (j < 60 * p.toNatClampNeg ∨ 60 * p.toNatClampNeg + 60 ≤ j) → u'.2.2 41 j = u.2.2 41 j) := by
  obtain ⟨q, rfl, hq, -⟩ := J_of h0
  rw [← hq] at h1
  have eq := J_toNat (show q < 2147483648 by omega)
  unfold f_Shelves_hold
  rw [z_Shas (by (try simp (disch := omega) only [Int32.lt_iff_toInt_lt, Int32.le_iff_toInt_le, ← Int32.toInt_inj, Int32.toInt_add, Int32.toInt_sub, Int32.toInt_mul, Int32.toInt_neg, z_bm, z_bm2, J_ti, J_toInt, z_cn, Int32.reduceToInt]) <;> omega) (by (try simp (disch := omega) only [Int32.lt_iff_toInt_lt, Int32.le_iff_toInt_le, ← Int32.toInt_inj, Int32.toInt_add, Int32.toInt_sub, Int32.toInt_mul, Int32.toInt_neg, z_bm, z_bm2, J_ti, J_toInt, z_cn, Int32.reduceToInt]) <;> omega), z_bind_some]
  refine z_neg (by decide) (z_pos (by (try simp (disch := omega) only [Int32.lt_iff_toInt_lt, Int32.le_iff_toInt_le, ← Int32.toInt_inj, Int32.toInt_add, Int32.toInt_sub, Int32.toInt_mul, Int32.toInt_neg, z_bm, z_bm2, J_ti, J_toInt, z_cn, Int32.reduceToInt]) <;> omega) (z_ck (by (try simp (disch := omega) only [Int32.lt_iff_toInt_lt, Int32.le_iff_toInt_le, ← Int32.toInt_inj, Int32.toInt_add, Int32.toInt_sub, Int32.toInt_mul, Int32.toInt_neg, z_bm, z_bm2, J_ti, J_toInt, z_cn, Int32.reduceToInt]) <;> omega) (by (try simp (disch := omega) only [Int32.lt_iff_toInt_lt, Int32.le_iff_toInt_le, ← Int32.toInt_inj, Int32.toInt_add, Int32.toInt_sub, Int32.toInt_mul, Int32.toInt_neg, z_bm, z_bm2, J_ti, J_toInt, z_cn, Int32.reduceToInt]) <;> omega) (z_let (z_ck (by (try simp (disch := omega) only [Int32.lt_iff_toInt_lt, Int32.le_iff_toInt_le, ← Int32.toInt_inj, Int32.toInt_add, Int32.toInt_sub, Int32.toInt_mul, Int32.toInt_neg, z_bm, z_bm2, J_ti, J_toInt, z_cn, Int32.reduceToInt]) <;> omega) (by (try simp (disch := omega) only [Int32.lt_iff_toInt_lt, Int32.le_iff_toInt_le, ← Int32.toInt_inj, Int32.toInt_add, Int32.toInt_sub, Int32.toInt_mul, Int32.toInt_neg, z_bm, z_bm2, J_ti, J_toInt, z_cn, Int32.reduceToInt]) <;> omega) (z_let (z_let ?_))))))
  have hm : (60 : Int32) * J q = J (60 * q) := by
    apply Int32.toInt.inj
    (try simp (disch := omega) only [Int32.lt_iff_toInt_lt, Int32.le_iff_toInt_le, ← Int32.toInt_inj, Int32.toInt_add, Int32.toInt_sub, Int32.toInt_mul, Int32.toInt_neg, z_bm, z_bm2, J_ti, J_toInt, z_cn, Int32.reduceToInt]) <;> omega
  rw [hm]
  refine z_bind _ (z_for 0 60 (fun i u' => z_fr [] [39, 40, 41] u u' ∧ u'.2.1 39 = upd (u.2.1 39) q s ∧ u'.2.1 40 = upd (u.2.1 40) q n ∧ u'.2.1 41 = u.2.1 41 ∧ (∀ j, j < i → u'.2.2 41 (60 * q + j) = 0) ∧ ∀ j, (j < 60 * q ∨ 60 * q + 60 ≤ j) → u'.2.2 41 j = u.2.2 41 j) (K := fun _ u' => z_fr [] [39, 40, 41] u u' ∧ u'.2.1 39 = upd (u.2.1 39) q s ∧ u'.2.1 40 = upd (u.2.1 40) q n ∧ u'.2.1 41 = u.2.1 41 ∧ (∀ j, j < 60 → u'.2.2 41 (60 * q + j) = 0) ∧ ∀ j, (j < 60 * q ∨ 60 * q + 60 ≤ j) → u'.2.2 41 j = u.2.2 41 j) (by omega) (by omega) ⟨(z_wA rfl).tr (z_wA rfl), by simp [k_wA, eq], by simp [k_wA, eq], by simp [k_wA], fun w h => by omega, fun j _ => by simp [k_wA]⟩ (fun i u' _ hi hp => ?_) (fun u' hp => ?_)) (fun _ u' h => k_sat_mk (by rw [eq]; exact h))
  · obtain ⟨a1, a2, a3, a4, a5, a6⟩ := hp
    have hs : J (60 * q) + J i = J (60 * q + i) := J_add _ _
    unfold f_Shelves_hold_B41
    rw [hs]
    refine z_neg (by (try simp (disch := omega) only [Int32.lt_iff_toInt_lt, Int32.le_iff_toInt_le, ← Int32.toInt_inj, Int32.toInt_add, Int32.toInt_sub, Int32.toInt_mul, Int32.toInt_neg, z_bm, z_bm2, J_ti, J_toInt, z_cn, Int32.reduceToInt]) <;> omega) (z_neg (by (try simp (disch := omega) only [Int32.lt_iff_toInt_lt, Int32.le_iff_toInt_le, ← Int32.toInt_inj, Int32.toInt_add, Int32.toInt_sub, Int32.toInt_mul, Int32.toInt_neg, z_bm, z_bm2, J_ti, J_toInt, z_cn, Int32.reduceToInt]) <;> omega) (z_ck (by (try simp (disch := omega) only [Int32.lt_iff_toInt_lt, Int32.le_iff_toInt_le, ← Int32.toInt_inj, Int32.toInt_add, Int32.toInt_sub, Int32.toInt_mul, Int32.toInt_neg, z_bm, z_bm2, J_ti, J_toInt, z_cn, Int32.reduceToInt]) <;> omega) (by (try simp (disch := omega) only [Int32.lt_iff_toInt_lt, Int32.le_iff_toInt_le, ← Int32.toInt_inj, Int32.toInt_add, Int32.toInt_sub, Int32.toInt_mul, Int32.toInt_neg, z_bm, z_bm2, J_ti, J_toInt, z_cn, Int32.reduceToInt]) <;> omega) (z_let (k_sat_mk (Or.inl ⟨rfl, a1.tr (z_wL rfl), a2, a3, a4, fun j hj => ?_, fun j hj => ?_⟩)))))
    · simp only [k_wL, if_true, z_upL, J_toNat (show 60 * q + i < 2147483648 by omega)]
      by_cases e : j = i
      · subst e; simp
      · rw [if_neg (by omega)]; exact a5 j (by omega)
    · simp only [k_wL, if_true, z_upL, J_toNat (show 60 * q + i < 2147483648 by omega)]
      rw [if_neg (by omega)]; exact a6 j hj
  · unfold f_Shelves_hold_B41
    exact z_pos (by (try simp (disch := omega) only [Int32.lt_iff_toInt_lt, Int32.le_iff_toInt_le, ← Int32.toInt_inj, Int32.toInt_add, Int32.toInt_sub, Int32.toInt_mul, Int32.toInt_neg, z_bm, z_bm2, J_ti, J_toInt, z_cn, Int32.reduceToInt]) <;> omega) (k_sat_mk ⟨_, rfl, hp⟩)
theorem z_Rrow (p : Int32) (u : k_S) (h0 : 0 ≤ p.toInt) (h1 : p.toInt < 6) : k_sat (k_itr (fun (x : (Int32)) u => f_R_row_B54 p x u) k_FU (60 * p) u) (fun _ u' => z_fr [] [74] u u' ∧ u'.2.1 74 = u.2.1 74 ∧ (∀ j, j < 60 → u'.2.2 74 (60 * p.toNatClampNeg + j) = 0) ∧ ∀ j, (j < 60 * p.toNatClampNeg ∨ 60 * p.toNatClampNeg + 60 ≤ j) → u'.2.2 74 j = u.2.2 74 j) := by
  obtain ⟨q, rfl, hq, -⟩ := J_of h0
  rw [← hq] at h1
  rw [J_toNat (show q < 2147483648 by omega)]
  have hm : (60 : Int32) * J q = J (60 * q) := by
    apply Int32.toInt.inj
    (try simp (disch := omega) only [Int32.lt_iff_toInt_lt, Int32.le_iff_toInt_le, ← Int32.toInt_inj, Int32.toInt_add, Int32.toInt_sub, Int32.toInt_mul, Int32.toInt_neg, z_bm, z_bm2, J_ti, J_toInt, z_cn, Int32.reduceToInt]) <;> omega
  have hm2 : (60 : Int32) * J q + 60 = J (60 * q + 60) := by
    apply Int32.toInt.inj
    (try simp (disch := omega) only [Int32.lt_iff_toInt_lt, Int32.le_iff_toInt_le, ← Int32.toInt_inj, Int32.toInt_add, Int32.toInt_sub, Int32.toInt_mul, Int32.toInt_neg, z_bm, z_bm2, J_ti, J_toInt, z_cn, Int32.reduceToInt]) <;> omega
  rw [hm]
  refine z_for (60 * q) (60 * q + 60) (fun i u' => z_fr [] [74] u u' ∧ u'.2.1 74 = u.2.1 74 ∧ (∀ j, j < 60 → 60 * q + j < i → u'.2.2 74 (60 * q + j) = 0) ∧ ∀ j, (j < 60 * q ∨ 60 * q + 60 ≤ j) → u'.2.2 74 j = u.2.2 74 j) (by omega) (by omega) ⟨z_fr.rf, rfl, fun j h1 h2 => by omega, fun j _ => rfl⟩ (fun i u' hi0 hi hp => ?_) (fun u' hp => ?_)
  · obtain ⟨a1, a2, a3, a4⟩ := hp
    unfold f_R_row_B54
    rw [hm2]
    refine z_neg (by (try simp (disch := omega) only [Int32.lt_iff_toInt_lt, Int32.le_iff_toInt_le, ← Int32.toInt_inj, Int32.toInt_add, Int32.toInt_sub, Int32.toInt_mul, Int32.toInt_neg, z_bm, z_bm2, J_ti, J_toInt, z_cn, Int32.reduceToInt]) <;> omega) (z_ck (by (try simp (disch := omega) only [Int32.lt_iff_toInt_lt, Int32.le_iff_toInt_le, ← Int32.toInt_inj, Int32.toInt_add, Int32.toInt_sub, Int32.toInt_mul, Int32.toInt_neg, z_bm, z_bm2, J_ti, J_toInt, z_cn, Int32.reduceToInt]) <;> omega) (by (try simp (disch := omega) only [Int32.lt_iff_toInt_lt, Int32.le_iff_toInt_le, ← Int32.toInt_inj, Int32.toInt_add, Int32.toInt_sub, Int32.toInt_mul, Int32.toInt_neg, z_bm, z_bm2, J_ti, J_toInt, z_cn, Int32.reduceToInt]) <;> omega) (z_let (k_sat_mk (Or.inl ⟨rfl, a1.tr (z_wL rfl), a2, fun j hj hj2 => ?_, fun j hj => ?_⟩))))
    · simp only [k_wL, if_true, z_upL, J_toNat (show i < 2147483648 by omega)]
      by_cases e : 60 * q + j = i
      · rw [if_pos e]
      · rw [if_neg e]; exact a3 j hj (by omega)
    · simp only [k_wL, if_true, z_upL, J_toNat (show i < 2147483648 by omega)]
      rw [if_neg (by omega)]; exact a4 j hj
  · unfold f_R_row_B54
    rw [hm2]
    exact z_pos (by (try simp (disch := omega) only [Int32.lt_iff_toInt_lt, Int32.le_iff_toInt_le, ← Int32.toInt_inj, Int32.toInt_add, Int32.toInt_sub, Int32.toInt_mul, Int32.toInt_neg, z_bm, z_bm2, J_ti, J_toInt, z_cn, Int32.reduceToInt]) <;> omega) (k_sat_mk ⟨_, rfl, hp.1, hp.2.1, fun j hj => hp.2.2.1 j hj (by omega), hp.2.2.2⟩)
