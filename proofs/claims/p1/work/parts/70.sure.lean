/-! how many bits -/
def z_bc (x : Int32) : Int32 := ((f_J_bitCount x z_u0).map (fun r => r.1)).getD 0
theorem z_bcW (x : Int32) (u : k_S) : f_J_bitCount x u = some (z_bc x, u) := rfl
def z_bd : Nat → Int32 → Bool
  | 0, x => x == 0
  | m + 1, x => x == 0 || z_bd m (x &&& (x - 1))
def z_bo : Nat → Int32 → Int32 → Int32
  | 0, c, _ => c
  | m + 1, c, x => if x = 0 then c else z_bo m (c + Int32.ofInt 1) (x &&& (x - 1))
theorem z_bo_itr : ∀ (m N : Nat) (c x : Int32) (u : k_S), z_bd m x = true → m < N → k_itr (fun (x : Int32 × Int32) u => f_R_bitsOf_B4 x.1 x.2 u) N (c, x) u = some (z_bo m c x, u)
  | 0, N + 1, c, x, u, h, _ => by
    have : x = 0 := eq_of_beq h
    rw [k_itr]
    unfold f_R_bitsOf_B4
    rw [if_pos this]
    rfl
  | m + 1, N + 1, c, x, u, h, hN => by
    rw [k_itr]
    unfold f_R_bitsOf_B4
    by_cases q : x = 0
    · rw [if_pos q, z_bo, if_pos q]
    · rw [if_neg q, z_bo, if_neg q]
      have h' : z_bd m (x &&& (x - 1)) = true := by
        rw [z_bd] at h
        rcases Bool.or_eq_true _ _ |>.mp h with h | h
        · exact absurd (eq_of_beq h) q
        · exact h
      exact z_bo_itr m N _ _ u h' (by omega)
theorem z_bits_all : ((List.range 1024).all fun n => z_bd 10 (J n) && z_bo 10 0 (J n) == z_bc (J n) && (z_bc (J n)).toInt.toNat ≤ 10 && z_bc (J n) == J (z_bc (J n)).toInt.toNat) = true := by decide +kernel
theorem z_bcR {n : Nat} (h : n < 1024) (u : k_S) : f_R_bitsOf (J n) u = some (z_bc (J n), u) := by
  have := List.all_eq_true.mp z_bits_all n (List.mem_range.mpr h)
  simp only [Bool.and_eq_true] at this
  unfold f_R_bitsOf
  rw [z_bo_itr 10 k_FU 0 (J n) u this.1.1.1 (by unfold k_FU; omega), z_bind_some, eq_of_beq this.1.1.2]
