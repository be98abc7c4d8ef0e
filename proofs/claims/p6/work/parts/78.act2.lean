/-! act: waiting, showing -/
theorem z_w10 {b k m d : Nat} {u : k_S} (h : z_gW b k m u) (hm : m < 21) (hd : d ≤ 37) (n : Nat) (x : Int32) : f_Bodies_run_rec (n + 4) 10 x (J d) u = some (z_tuv k x (J b) * 2, (10 :: z_tuc k).foldl z_apW u) := by
  rw [z_go h (by omega) (by omega)]
  unfold f_Bodies_run_J37
  rw [z_let_ap h (by omega), if_neg (by decide), if_neg (by decide), if_pos rfl]
  have := z_call (rc := f_Bodies_run_rec (n + 3)) (a := 0) (d := d) (z_gW_ap h 10) (by omega) x
  rw [show f_Bodies_call (f_Bodies_run_rec (n + 3)) 0 x (J d) (z_apW u 10) = _ from this]
  rw [z_tuW (z_gW_ap h 10) (by omega) (by omega), z_bind_some]
  rfl
theorem z_w30 {b k m d : Nat} {u : k_S} (h : z_gW b k m u) (hm : m < 20) (hd : d ≤ 36) (n : Nat) (x : Int32) : f_Bodies_run_rec (n + 5) 30 x (J d) u = some (-(z_tuv k x (J b) * 2), (30 :: 10 :: z_tuc k).foldl z_apW u) := by
  rw [z_go h (by omega) (by omega)]
  unfold f_Bodies_run_J37
  rw [z_let_ap h (by omega), if_neg (by decide), if_neg (by decide), if_neg (by decide), if_neg (by decide), if_neg (by decide), if_pos rfl]
  have := z_above (rc := f_Bodies_run_rec (n + 4)) (k := 2) (p := 0) (a := 1) (d := d) (u := z_apW u 30) (by omega) rfl (by omega) (by omega) x
  rw [show f_Bodies_above (f_Bodies_run_rec (n + 4)) 2 1 x (J d) (z_apW u 30) = _ from this]
  rw [show z_bf 0 1 = 10 from rfl, z_w10 (z_gW_ap h 30) (by omega) (by omega), z_bind_some]
  rfl
theorem z_w41 {b k m d : Nat} {u : k_S} (h : z_gW b k m u) (hm : m < 19) (hd : d ≤ 35) (n : Nat) (x : Int32) : f_Bodies_run_rec (n + 6) 41 x (J d) u = some (-(z_tuv k (x + 1) (J b) * 2), (41 :: 30 :: 10 :: z_tuc k).foldl z_apW u) := by
  rw [z_go h (by omega) (by omega)]
  unfold f_Bodies_run_J37
  rw [z_let_ap h (by omega), if_neg (by decide), if_neg (by decide), if_neg (by decide), if_neg (by decide), if_neg (by decide), if_neg (by decide), if_neg (by decide), if_pos rfl]
  have := z_above (rc := f_Bodies_run_rec (n + 5)) (k := 3) (p := 2) (a := 1) (d := d) (u := z_apW u 41) (by omega) rfl (by omega) (by omega) (x + 1)
  rw [show f_Bodies_above (f_Bodies_run_rec (n + 5)) 3 1 (x + 1) (J d) (z_apW u 41) = _ from this]
  rw [show z_bf 2 1 = 30 from rfl, z_w30 (z_gW_ap h 41) (by omega) (by omega), z_bind_some]
  rfl
theorem z_w40 {b k m d : Nat} {u : k_S} (h : z_gW b k m u) (hm : m < 23) (hd : d ≤ 39) (n : Nat) (x : Int32) : f_Bodies_run_rec (n + 2) 40 x (J d) u = some ((x ^^^ J b) * 3, [40, 11].foldl z_apW u) := by
  rw [z_go h (by omega) (by omega)]
  unfold f_Bodies_run_J37
  rw [z_let_ap h (by omega), if_neg (by decide), if_neg (by decide), if_neg (by decide), if_neg (by decide), if_neg (by decide), if_neg (by decide), if_pos rfl]
  have := z_above (rc := f_Bodies_run_rec (n + 1)) (k := 3) (p := 2) (a := 2) (d := d) (u := z_apW u 40) (by omega) rfl (by omega) (by omega) x
  rw [show f_Bodies_above (f_Bodies_run_rec (n + 1)) 3 2 x (J d) (z_apW u 40) = _ from this]
  rw [show z_bf 2 2 = 11 from rfl, z_w11 (z_gW_ap h 40) (by omega) (by omega), z_bind_some]
  rfl
theorem z_w60 {b k m d : Nat} {u : k_S} (h : z_gW b k m u) (hm : m < 20) (hd : d ≤ 37) (n : Nat) (x : Int32) : f_Bodies_run_rec (n + 4) 60 x (J d) u = some ((x ^^^ J b) - z_tuv k 2 (J b), (60 :: 11 :: z_tuc k).foldl z_apW u) := by
  rw [z_go h (by omega) (by omega)]
  unfold f_Bodies_run_J37
  rw [z_let_ap h (by omega), if_neg (by decide), if_neg (by decide), if_neg (by decide), if_neg (by decide), if_neg (by decide), if_neg (by decide), if_neg (by decide), if_neg (by decide), if_neg (by decide), if_pos rfl]
  have := z_above (rc := f_Bodies_run_rec (n + 3)) (k := 5) (p := 4) (a := 2) (d := d) (u := z_apW u 60) (by omega) rfl (by omega) (by omega) x
  rw [show f_Bodies_above (f_Bodies_run_rec (n + 3)) 5 2 x (J d) (z_apW u 60) = _ from this]
  rw [show z_bf 4 2 = 11 from rfl, z_w11 (z_gW_ap h 60) (by omega) (by omega), z_bind_some]
  have := z_call (rc := f_Bodies_run_rec (n + 3)) (a := 0) (d := d) (z_gW_ap (z_gW_ap h 60) 11) (by omega) 2
  rw [show f_Bodies_call (f_Bodies_run_rec (n + 3)) 0 2 (J d) (z_apW (z_apW u 60) 11) = _ from this]
  rw [z_tuW (z_gW_ap (z_gW_ap h 60) 11) (by omega) (by omega), z_bind_some]
  rfl
/-- waiting: its value and its codes -/
def z_wav (k : Nat) (x b : Int32) : Int32 := if k = 3 then (x ^^^ b) * 3 else if k = 5 then (x ^^^ b) - z_tuv k 2 b else x ^^^ b
def z_wac (k : Nat) : List Int32 := if k = 3 then [40, 11] else if k = 5 then 60 :: 11 :: z_tuc k else [11]
theorem z_waW {b k m d : Nat} {u : k_S} (h : z_gW b k m u) (hm : m < 20) (hd : d ≤ 37) (n : Nat) (x : Int32) : f_Bodies_run_rec (n + 4) (z_bf k 2) x (J d) u = some (z_wav k x (J b), (z_wac k).foldl z_apW u) := by
  have hk := h.2.1
  rcases (show k = 0 ∨ k = 1 ∨ k = 2 ∨ k = 3 ∨ k = 4 ∨ k = 5 ∨ k = 6 ∨ k = 7 by omega) with rfl | rfl | rfl | rfl | rfl | rfl | rfl | rfl
  · exact z_w11 h (by omega) (by omega) (n + 3) x
  · exact z_w11 h (by omega) (by omega) (n + 3) x
  · exact z_w11 h (by omega) (by omega) (n + 3) x
  · exact z_w40 h (by omega) (by omega) (n + 2) x
  · exact z_w11 h (by omega) (by omega) (n + 3) x
  · exact z_w60 h (by omega) (by omega) n x
  · exact z_w11 h (by omega) (by omega) (n + 3) x
  · exact z_w11 h (by omega) (by omega) (n + 3) x
