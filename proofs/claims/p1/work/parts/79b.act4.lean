/-! act: telling -/
theorem z_sl (k : Nat) (hk : k < 8) : (z_shc k).length ≤ 6 ∧ (z_wac k).length ≤ 4 := by
  rcases (show k = 0 ∨ k = 1 ∨ k = 2 ∨ k = 3 ∨ k = 4 ∨ k = 5 ∨ k = 6 ∨ k = 7 by omega) with rfl | rfl | rfl | rfl | rfl | rfl | rfl | rfl <;> decide
def z_ptv (k : Nat) (x b : Int32) : Int32 := z_shv k x b - z_wav k 1 b
def z_ptc (k : Nat) : List Int32 := 2 :: (z_shc k ++ z_wac k)
theorem z_w2 {b k m d : Nat} {u : k_S} (h : z_gW b k m u) (hm : m < 10) (hd : d ≤ 20) (n : Nat) (x : Int32) : f_Bodies_run_rec (n + 7) 2 x (J d) u = some (z_ptv k x (J b), (z_ptc k).foldl z_apW u) := by
  have hl := z_sl k h.2.1
  rw [z_go h (by omega) (by omega)]
  unfold f_Bodies_run_J37
  rw [z_let_ap h (by omega), if_neg (by decide), if_pos rfl]
  have := z_call (rc := f_Bodies_run_rec (n + 6)) (a := 1) (d := d) (z_gW_ap h 2) (by omega) x
  rw [show f_Bodies_call (f_Bodies_run_rec (n + 6)) 1 x (J d) (z_apW u 2) = _ from this]
  rw [z_shW7 (z_gW_ap h 2) (by omega) (by omega), z_bind_some]
  have g := z_gW_fo (z_shc k) (z_gW_ap h 2)
  have := z_call (rc := f_Bodies_run_rec (n + 6)) (a := 2) (d := d) g (by omega) 1
  rw [show f_Bodies_call (f_Bodies_run_rec (n + 6)) 2 1 (J d) _ = _ from this]
  rw [z_waW g (by omega) (by omega) (n + 2), z_bind_some]
  unfold z_ptv z_ptc
  rw [List.foldl_cons, List.foldl_append]
theorem z_rPTl {b k m : Nat} {u : k_S} (h : z_gR b k m u) (hm : m < 10) (x : Int32) : f_R_plainTells (J b) x u = some (z_ptv k x (J b), (z_ptc k).foldl z_apR u) := by
  have hl := z_sl k h.2.1
  unfold f_R_plainTells
  rw [z_ran h.2.2.1 (by omega), z_bind_some, z_shR7 (z_gR_ap h 2) (by omega), z_bind_some]
  have g := z_gR_fo (z_shc k) (z_gR_ap h 2)
  rw [z_waR g (by omega), z_bind_some]
  unfold z_ptv z_ptc
  rw [List.foldl_cons, List.foldl_append]
