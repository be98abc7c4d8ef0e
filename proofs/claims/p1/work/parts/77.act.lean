/-! act: which body stands for a kind and an act; the trace -/
def z_bf (k a : Nat) : Int32 := ((([[1, 10, 11, 2], [20, 10, 11, 2], [1, 30, 11, 2], [1, 41, 40, 2], [20, 10, 11, 50], [20, 10, 60, 61], [70, 10, 11, 2], [81, 80, 11, 2]] : List (List Int32)).getD k []).getD a 0)
theorem z_bf0 {k a : Nat} (hk : k < 8) (ha : a < 4) (u : k_S) : k_itr (fun (x : Int32 × Int32) u => f_Bodies_bodyFor_B4 (J a) x.1 x.2 u) 9 (J k, 0) u = some (.inl (z_bf k a), u) := by
  rcases (show k = 0 ∨ k = 1 ∨ k = 2 ∨ k = 3 ∨ k = 4 ∨ k = 5 ∨ k = 6 ∨ k = 7 by omega) with rfl | rfl | rfl | rfl | rfl | rfl | rfl | rfl <;> rcases (show a = 0 ∨ a = 1 ∨ a = 2 ∨ a = 3 by omega) with rfl | rfl | rfl | rfl <;> rfl
theorem z_bodyFor {k a : Nat} (hk : k < 8) (ha : a < 4) (u : k_S) : f_Bodies_bodyFor (J k) (J a) u = some (z_bf k a, u) := by
  unfold f_Bodies_bodyFor
  rw [z_more 9 k_FU _ _ _ (by unfold k_FU; omega) (z_bf0 hk ha u)]
  rfl
/-- one code more in the class's trace, in the reference's -/
def z_apW (u : k_S) (c : Int32) : k_S := k_wF (k_wA u 37 (u.1 3503).toNatClampNeg c) 3503 (u.1 3503 + 1)
def z_apR (u : k_S) (c : Int32) : k_S := k_wF (k_wA u 71 (u.1 4247).toNatClampNeg c) 4247 (u.1 4247 + 1)
theorem z_ran {u : k_S} {m : Nat} (h : u.1 4247 = J m) (hm : m < 24) (c : Int32) : f_R_ran c u = some ((), z_apR u c) := by
  unfold f_R_ran f_R_ran_J19
  rw [h, if_neg (by (try simp (disch := omega) only [Int32.lt_iff_toInt_lt, Int32.le_iff_toInt_le, ← Int32.toInt_inj, Int32.toInt_add, Int32.toInt_sub, Int32.toInt_mul, Int32.toInt_neg, z_bm, z_bm2, J_ti, J_toInt, z_cn, Int32.reduceToInt]) <;> omega), z_cko _ (by (try simp (disch := omega) only [Int32.lt_iff_toInt_lt, Int32.le_iff_toInt_le, ← Int32.toInt_inj, Int32.toInt_add, Int32.toInt_sub, Int32.toInt_mul, Int32.toInt_neg, z_bm, z_bm2, J_ti, J_toInt, z_cn, Int32.reduceToInt]) <;> omega) (by (try simp (disch := omega) only [Int32.lt_iff_toInt_lt, Int32.le_iff_toInt_le, ← Int32.toInt_inj, Int32.toInt_add, Int32.toInt_sub, Int32.toInt_mul, Int32.toInt_neg, z_bm, z_bm2, J_ti, J_toInt, z_cn, Int32.reduceToInt]) <;> omega)]
  simp only [k_let]
  unfold z_apR
  rw [h]
  have : (k_wA u 71 (J m).toNatClampNeg c).1 4247 = J m := h
  rw [this]
theorem z_run_in {rc : Int32 → Int32 → Int32 → k_S → Option (Int32 × k_S)} {u : k_S} {m d : Nat} (h : u.1 3503 = J m) (hm : m < 24) (hd : d ≤ 40) (c x : Int32) : f_Bodies_run rc c x (J d) u = f_Bodies_run_J37 rc c x (J d) (k_wA u 37 m c) := by
  unfold f_Bodies_run
  rw [if_pos (by (try simp (disch := omega) only [Int32.lt_iff_toInt_lt, Int32.le_iff_toInt_le, ← Int32.toInt_inj, Int32.toInt_add, Int32.toInt_sub, Int32.toInt_mul, Int32.toInt_neg, z_bm, z_bm2, J_ti, J_toInt, z_cn, Int32.reduceToInt]) <;> omega), h, if_neg (by (try simp (disch := omega) only [Int32.lt_iff_toInt_lt, Int32.le_iff_toInt_le, ← Int32.toInt_inj, Int32.toInt_add, Int32.toInt_sub, Int32.toInt_mul, Int32.toInt_neg, z_bm, z_bm2, J_ti, J_toInt, z_cn, Int32.reduceToInt]) <;> omega), if_neg (by (try simp (disch := omega) only [Int32.lt_iff_toInt_lt, Int32.le_iff_toInt_le, ← Int32.toInt_inj, Int32.toInt_add, Int32.toInt_sub, Int32.toInt_mul, Int32.toInt_neg, z_bm, z_bm2, J_ti, J_toInt, z_cn, Int32.reduceToInt]) <;> omega), z_cko _ (by (try simp (disch := omega) only [Int32.lt_iff_toInt_lt, Int32.le_iff_toInt_le, ← Int32.toInt_inj, Int32.toInt_add, Int32.toInt_sub, Int32.toInt_mul, Int32.toInt_neg, z_bm, z_bm2, J_ti, J_toInt, z_cn, Int32.reduceToInt]) <;> omega) (by (try simp (disch := omega) only [Int32.lt_iff_toInt_lt, Int32.le_iff_toInt_le, ← Int32.toInt_inj, Int32.toInt_add, Int32.toInt_sub, Int32.toInt_mul, Int32.toInt_neg, z_bm, z_bm2, J_ti, J_toInt, z_cn, Int32.reduceToInt]) <;> omega), J_toNat (by omega)]
  rfl
