/-! what small methods answer -/
theorem z_Rin1 {a b c : Int32} {u : k_S} (h1 : b.toInt ≤ a.toInt) (h2 : a.toInt ≤ c.toInt) : f_R_in a b c u = some (1, u) := by
  unfold f_R_in
  rw [if_neg (by (try simp (disch := omega) only [Int32.lt_iff_toInt_lt, Int32.le_iff_toInt_le, ← Int32.toInt_inj, Int32.toInt_add, Int32.toInt_sub, Int32.toInt_mul, Int32.toInt_neg, z_bm, z_bm2, J_ti, J_toInt, z_cn, Int32.reduceToInt]) <;> omega), if_neg (by (try simp (disch := omega) only [Int32.lt_iff_toInt_lt, Int32.le_iff_toInt_le, ← Int32.toInt_inj, Int32.toInt_add, Int32.toInt_sub, Int32.toInt_mul, Int32.toInt_neg, z_bm, z_bm2, J_ti, J_toInt, z_cn, Int32.reduceToInt]) <;> omega)]
theorem z_Rin0 {a b c : Int32} {u : k_S} (h : a.toInt < b.toInt ∨ c.toInt < a.toInt) : f_R_in a b c u = some (0, u) := by
  unfold f_R_in
  by_cases h1 : a < b
  · rw [if_pos h1]
  · rw [if_neg h1, if_pos (by ((try simp (disch := omega) only [Int32.lt_iff_toInt_lt, Int32.le_iff_toInt_le, ← Int32.toInt_inj, Int32.toInt_add, Int32.toInt_sub, Int32.toInt_mul, Int32.toInt_neg, z_bm, z_bm2, J_ti, J_toInt, z_cn, Int32.reduceToInt] at *); omega))]
theorem z_Shas {p : Int32} {u : k_S} (h0 : 0 ≤ p.toInt) (h1 : p.toInt < 6) : f_Shelves_has p u = some (1, u) := by
  unfold f_Shelves_has
  rw [if_neg (by (try simp (disch := omega) only [Int32.lt_iff_toInt_lt, Int32.le_iff_toInt_le, ← Int32.toInt_inj, Int32.toInt_add, Int32.toInt_sub, Int32.toInt_mul, Int32.toInt_neg, z_bm, z_bm2, J_ti, J_toInt, z_cn, Int32.reduceToInt]) <;> omega), if_neg (by (try simp (disch := omega) only [Int32.lt_iff_toInt_lt, Int32.le_iff_toInt_le, ← Int32.toInt_inj, Int32.toInt_add, Int32.toInt_sub, Int32.toInt_mul, Int32.toInt_neg, z_bm, z_bm2, J_ti, J_toInt, z_cn, Int32.reduceToInt]) <;> omega)]
theorem z_Shas0 {p : Int32} {u : k_S} (h : p.toInt < 0 ∨ 6 ≤ p.toInt) : f_Shelves_has p u = some (0, u) := by
  unfold f_Shelves_has
  by_cases h1 : p < 0
  · rw [if_pos h1]
  · rw [if_neg h1, if_pos (by ((try simp (disch := omega) only [Int32.lt_iff_toInt_lt, Int32.le_iff_toInt_le, ← Int32.toInt_inj, Int32.toInt_add, Int32.toInt_sub, Int32.toInt_mul, Int32.toInt_neg, z_bm, z_bm2, J_ti, J_toInt, z_cn, Int32.reduceToInt] at *); omega))]
theorem z_RisShelf {p : Int32} {u : k_S} (h0 : 0 ≤ p.toInt) (h1 : p.toInt < 6) : f_R_isShelf p u = some (1, u) := by
  unfold f_R_isShelf
  rw [z_Rin1 (by (try simp (disch := omega) only [Int32.lt_iff_toInt_lt, Int32.le_iff_toInt_le, ← Int32.toInt_inj, Int32.toInt_add, Int32.toInt_sub, Int32.toInt_mul, Int32.toInt_neg, z_bm, z_bm2, J_ti, J_toInt, z_cn, Int32.reduceToInt]) <;> omega) (by (try simp (disch := omega) only [Int32.lt_iff_toInt_lt, Int32.le_iff_toInt_le, ← Int32.toInt_inj, Int32.toInt_add, Int32.toInt_sub, Int32.toInt_mul, Int32.toInt_neg, z_bm, z_bm2, J_ti, J_toInt, z_cn, Int32.reduceToInt]) <;> omega), z_bind_some]
  unfold k_zb
  rw [if_pos (by decide)]
theorem z_RisShelf0 {p : Int32} {u : k_S} (h : p.toInt < 0 ∨ 6 ≤ p.toInt) : f_R_isShelf p u = some (0, u) := by
  unfold f_R_isShelf
  rw [z_Rin0 (by (try simp (disch := omega) only [Int32.lt_iff_toInt_lt, Int32.le_iff_toInt_le, ← Int32.toInt_inj, Int32.toInt_add, Int32.toInt_sub, Int32.toInt_mul, Int32.toInt_neg, z_bm, z_bm2, J_ti, J_toInt, z_cn, Int32.reduceToInt]) <;> omega), z_bind_some]
  unfold k_zb
  rw [if_pos (by decide)]
theorem z_SheldBy {p : Int32} {u : k_S} (h0 : 0 ≤ p.toInt) (h1 : p.toInt < 6) : f_Shelves_heldBy p u = some (u.2.1 39 p.toNatClampNeg, u) := by
  unfold f_Shelves_heldBy
  rw [z_Shas h0 h1, z_bind_some, if_neg (by decide), z_cko _ h0 (by omega)]
theorem z_SsizeOf {p : Int32} {u : k_S} (h0 : 0 ≤ p.toInt) (h1 : p.toInt < 6) : f_Shelves_sizeOf p u = some (u.2.1 40 p.toNatClampNeg, u) := by
  unfold f_Shelves_sizeOf
  rw [if_neg (by (try simp (disch := omega) only [Int32.lt_iff_toInt_lt, Int32.le_iff_toInt_le, ← Int32.toInt_inj, Int32.toInt_add, Int32.toInt_sub, Int32.toInt_mul, Int32.toInt_neg, z_bm, z_bm2, J_ti, J_toInt, z_cn, Int32.reduceToInt]) <;> omega), if_neg (by (try simp (disch := omega) only [Int32.lt_iff_toInt_lt, Int32.le_iff_toInt_le, ← Int32.toInt_inj, Int32.toInt_add, Int32.toInt_sub, Int32.toInt_mul, Int32.toInt_neg, z_bm, z_bm2, J_ti, J_toInt, z_cn, Int32.reduceToInt]) <;> omega), z_cko _ h0 (by omega)]
