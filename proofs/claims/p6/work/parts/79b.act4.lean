/-! act: telling -/
theorem z_sl (k : Nat) (hk : k < 8) : (z_shc k).length ≤ 6 ∧ (z_wac k).length ≤ 4 := by
  rcases (show k = 0 ∨ k = 1 ∨ k = 2 ∨ k = 3 ∨ k = 4 ∨ k = 5 ∨ k = 6 ∨ k = 7 by omega) with rfl | rfl | rfl | rfl | rfl | rfl | rfl | rfl <;> decide
def z_ptv (k : Nat) (x b : Int32) : Int32 := z_shv k x b - z_wav k 1 b
def z_ptc (k : Nat) : List Int32 := 2 :: (z_shc k ++ z_wac k)
theorem z_w2 {b k m d : Nat} {u : k_S} (h : z_gW b k m u) (hm : m < 10) (hd : d ≤ 20) (n : Nat) (x : Int32) : f_Bodies_run_rec (n + 7) 2 x (J d) u = some (z_ptv k x (J b), (z_ptc k).foldl z_apW u) := by
  have hl := z_sl k h.2.1
  rw [z_go h (by omega) (by omega)]
  unfold f_Bodies_run_J37
  rw [z_let_ap h (by omega), if_neg (by decide), if_pos rfl]
  have := z_call (rc := f_Bodies_run_rec (n + 6)) (a := 1) (d := d) (z_gW_ap h 2) (by omega) x
  rw [show f_Bodies_call (f_Bodies_run_rec (n + 6)) 1 x (J d) (z_apW u 2) = _ from this]
  rw [z_shW7 (z_gW_ap h 2) (by omega) (by omega), z_bind_some]
  have g := z_gW_fo (z_shc k) (z_gW_ap h 2)
  have := z_call (rc := f_Bodies_run_rec (n + 6)) (a := 2) (d := d) g (by omega) 1
  rw [show f_Bodies_call (f_Bodies_run_rec (n + 6)) 2 1 (J d) _ = _ from this]
  rw [z_waW g (by omega) (by omega) (n + 2), z_bind_some]
  unfold z_ptv z_ptc
  rw [List.foldl_cons, List.foldl_append]
theorem z_rPTl {b k m : Nat} {u : k_S} (h : z_gR b k m u) (hm : m < 10) (x : Int32) : f_R_plainTells (J b) x u = some (z_ptv k x (J b), (z_ptc k).foldl z_apR u) := by
  have hl := z_sl k h.2.1
  unfold f_R_plainTells
  rw [z_ran h.2.2.1 (by omega), z_bind_some, z_shR7 (z_gR_ap h 2) (by omega), z_bind_some]
  have g := z_gR_fo (z_shc k) (z_gR_ap h 2)
  rw [z_waR g (by omega), z_bind_some]
  unfold z_ptv z_ptc
  rw [List.foldl_cons, List.foldl_append]
def z_tev (k : Nat) (x b : Int32) : Int32 := if k = 5 then (z_ptv 5 x b ^^^ 5) + 1 else if k = 4 then z_ptv 4 x b ^^^ 5 else z_ptv k x b
def z_tec (k : Nat) : List Int32 := if k = 5 then 61 :: 50 :: z_ptc 5 else if k = 4 then 50 :: z_ptc 4 else z_ptc k
theorem z_w50 {b k m d : Nat} {u : k_S} (h : z_gW b k m u) (hm : m < 9) (hd : d ≤ 19) (n : Nat) (x : Int32) : f_Bodies_run_rec (n + 8) 50 x (J d) u = some (z_ptv k x (J b) ^^^ 5, (50 :: z_ptc k).foldl z_apW u) := by
  rw [z_go h (by omega) (by omega)]
  unfold f_Bodies_run_J37
  rw [z_let_ap h (by omega), if_neg (by decide), if_neg (by decide), if_neg (by decide), if_neg (by decide), if_neg (by decide), if_neg (by decide), if_neg (by decide), if_neg (by decide), if_pos rfl]
  have := z_above (rc := f_Bodies_run_rec (n + 7)) (k := 4) (p := 1) (a := 3) (d := d) (u := z_apW u 50) (by omega) rfl (by omega) (by omega) x
  rw [show f_Bodies_above (f_Bodies_run_rec (n + 7)) 4 3 x (J d) (z_apW u 50) = _ from this]
  rw [show z_bf 1 3 = 2 from rfl, z_w2 (z_gW_ap h 50) (by omega) (by omega), z_bind_some]
  rfl
theorem z_w61 {b k m d : Nat} {u : k_S} (h : z_gW b k m u) (hm : m < 8) (hd : d ≤ 18) (n : Nat) (x : Int32) : f_Bodies_run_rec (n + 9) 61 x (J d) u = some ((z_ptv k x (J b) ^^^ 5) + 1, (61 :: 50 :: z_ptc k).foldl z_apW u) := by
  rw [z_go h (by omega) (by omega)]
  unfold f_Bodies_run_J37
  rw [z_let_ap h (by omega), if_neg (by decide), if_neg (by decide), if_neg (by decide), if_neg (by decide), if_neg (by decide), if_neg (by decide), if_neg (by decide), if_neg (by decide), if_neg (by decide), if_neg (by decide), if_pos rfl]
  have := z_above (rc := f_Bodies_run_rec (n + 8)) (k := 5) (p := 4) (a := 3) (d := d) (u := z_apW u 61) (by omega) rfl (by omega) (by omega) x
  rw [show f_Bodies_above (f_Bodies_run_rec (n + 8)) 5 3 x (J d) (z_apW u 61) = _ from this]
  rw [show z_bf 4 3 = 50 from rfl, z_w50 (z_gW_ap h 61) (by omega) (by omega), z_bind_some]
  rfl
theorem z_rFT {b k m : Nat} {u : k_S} (h : z_gR b k m u) (hm : m < 9) (x : Int32) : f_R_frostTells (J b) x u = some (z_ptv k x (J b) ^^^ 5, (50 :: z_ptc k).foldl z_apR u) := by
  unfold f_R_frostTells
  rw [z_ran h.2.2.1 (by omega), z_bind_some, z_rPTl (z_gR_ap h 50) (by omega), z_bind_some]
  rfl
theorem z_teW {b k m d : Nat} {u : k_S} (h : z_gW b k m u) (hm : m < 8) (hd : d ≤ 18) (n : Nat) (x : Int32) : f_Bodies_run_rec (n + 9) (z_bf k 3) x (J d) u = some (z_tev k x (J b), (z_tec k).foldl z_apW u) := by
  have hk := h.2.1
  unfold z_tev z_tec
  by_cases e5 : k = 5
  · subst e5
    rw [if_pos rfl, if_pos rfl, show z_bf 5 3 = 61 from rfl]
    exact z_w61 h hm hd n x
  by_cases e4 : k = 4
  · subst e4
    rw [if_neg (show ¬ (4 : Nat) = 5 by decide), if_pos rfl, if_neg (show ¬ (4 : Nat) = 5 by decide), if_pos rfl, show z_bf 4 3 = 50 from rfl]
    exact z_w50 h (by omega) (by omega) (n + 1) x
  have hb : z_bf k 3 = 2 := by
    rcases (show k = 0 ∨ k = 1 ∨ k = 2 ∨ k = 3 ∨ k = 6 ∨ k = 7 by omega) with rfl | rfl | rfl | rfl | rfl | rfl <;> rfl
  rw [if_neg e5, if_neg e4, if_neg e5, if_neg e4, hb]
  exact z_w2 h (by omega) (by omega) (n + 2) x
theorem z_teR {b k m : Nat} {u : k_S} (h : z_gR b k m u) (hm : m < 8) (x : Int32) : f_R_telling (J b) x u = some (z_tev k x (J b), (z_tec k).foldl z_apR u) := by
  obtain ⟨h1, h2, h3, h5⟩ := id h
  have cb : ∀ {α : Type} (o : Option α), k_ck (J b) 50 o = o := fun o => z_cko o (by (try simp (disch := omega) only [Int32.lt_iff_toInt_lt, Int32.le_iff_toInt_le, ← Int32.toInt_inj, Int32.toInt_add, Int32.toInt_sub, Int32.toInt_mul, Int32.toInt_neg, z_bm, z_bm2, J_ti, J_toInt, z_cn, Int32.reduceToInt]) <;> omega) (by (try simp (disch := omega) only [Int32.lt_iff_toInt_lt, Int32.le_iff_toInt_le, ← Int32.toInt_inj, Int32.toInt_add, Int32.toInt_sub, Int32.toInt_mul, Int32.toInt_neg, z_bm, z_bm2, J_ti, J_toInt, z_cn, Int32.reduceToInt]) <;> omega)
  unfold f_R_telling z_tev z_tec
  simp only [cb]
  rw [J_toNat (show b < 2147483648 by omega), h5]
  by_cases e5 : k = 5
  · subst e5
    rw [if_pos (show J 5 = 5 from rfl), z_ran h3 (by omega), z_bind_some, z_rFT (z_gR_ap h 61) (by omega), z_bind_some, if_pos (show (5 : Nat) = 5 from rfl), if_pos (show (5 : Nat) = 5 from rfl)]
    simp only [List.foldl_cons]
  by_cases e4 : k = 4
  · subst e4
    rw [if_neg (show ¬ J 4 = 5 by decide), if_pos (show J 4 = 4 from rfl), z_rFT h (by omega), z_bind_some, if_neg (show ¬ (4 : Nat) = 5 by decide), if_pos (show (4 : Nat) = 4 from rfl), if_neg (show ¬ (4 : Nat) = 5 by decide), if_pos (show (4 : Nat) = 4 from rfl)]
  rw [if_neg (by (try simp (disch := omega) only [Int32.lt_iff_toInt_lt, Int32.le_iff_toInt_le, ← Int32.toInt_inj, Int32.toInt_add, Int32.toInt_sub, Int32.toInt_mul, Int32.toInt_neg, z_bm, z_bm2, J_ti, J_toInt, z_cn, Int32.reduceToInt]) <;> omega), if_neg (by (try simp (disch := omega) only [Int32.lt_iff_toInt_lt, Int32.le_iff_toInt_le, ← Int32.toInt_inj, Int32.toInt_add, Int32.toInt_sub, Int32.toInt_mul, Int32.toInt_neg, z_bm, z_bm2, J_ti, J_toInt, z_cn, Int32.reduceToInt]) <;> omega), z_rPTl h (by omega), z_bind_some, if_neg e5, if_neg e4, if_neg e5, if_neg e4]
