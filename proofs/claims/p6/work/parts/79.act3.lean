/-! act: the reference's showing, waiting -/
theorem z_rPS {b k m : Nat} {u : k_S} (h : z_gR b k m u) (hm : m < 21) (x : Int32) : f_R_plainShows (J b) x u = some (z_tuv k x (J b) * 2, (10 :: z_tuc k).foldl z_apR u) := by
  unfold f_R_plainShows
  rw [z_ran h.2.2.1 (by omega), z_bind_some, z_tuR (z_gR_ap h 10) (by omega), z_bind_some]
  rfl
theorem z_rSS {b k m : Nat} {u : k_S} (h : z_gR b k m u) (hm : m < 20) (x : Int32) : f_R_skipShows (J b) x u = some (-(z_tuv k x (J b) * 2), (30 :: 10 :: z_tuc k).foldl z_apR u) := by
  unfold f_R_skipShows
  rw [z_ran h.2.2.1 (by omega), z_bind_some, z_rPS (z_gR_ap h 30) (by omega), z_bind_some]
  rfl
theorem z_rPW {b k m : Nat} {u : k_S} (h : z_gR b k m u) (hm : m < 24) (x : Int32) : f_R_plainWaits (J b) x u = some (x ^^^ J b, z_apR u 11) := by
  unfold f_R_plainWaits
  rw [z_ran h.2.2.1 (by omega), z_bind_some]
theorem z_waR {b k m : Nat} {u : k_S} (h : z_gR b k m u) (hm : m < 20) (x : Int32) : f_R_waiting (J b) x u = some (z_wav k x (J b), (z_wac k).foldl z_apR u) := by
  obtain ⟨h1, h2, h3, h5⟩ := id h
  have cb : ∀ {α : Type} (o : Option α), k_ck (J b) 50 o = o := fun o => z_cko o (by (try simp (disch := omega) only [Int32.lt_iff_toInt_lt, Int32.le_iff_toInt_le, ← Int32.toInt_inj, Int32.toInt_add, Int32.toInt_sub, Int32.toInt_mul, Int32.toInt_neg, z_bm, z_bm2, J_ti, J_toInt, z_cn, Int32.reduceToInt]) <;> omega) (by (try simp (disch := omega) only [Int32.lt_iff_toInt_lt, Int32.le_iff_toInt_le, ← Int32.toInt_inj, Int32.toInt_add, Int32.toInt_sub, Int32.toInt_mul, Int32.toInt_neg, z_bm, z_bm2, J_ti, J_toInt, z_cn, Int32.reduceToInt]) <;> omega)
  unfold f_R_waiting
  simp only [cb]
  rw [J_toNat (show b < 2147483648 by omega), h5]
  by_cases e3 : k = 3
  · subst e3
    rw [if_pos (show J 3 = 3 from rfl), z_ran h3 (by omega), z_bind_some, z_rPW (z_gR_ap h 40) (by omega), z_bind_some]
    rfl
  by_cases e5 : k = 5
  · subst e5
    rw [if_neg (show ¬ J 5 = 3 by decide), if_pos (show J 5 = 5 from rfl), z_ran h3 (by omega), z_bind_some, z_rPW (z_gR_ap h 60) (by omega), z_bind_some, z_tuR (z_gR_ap (z_gR_ap h 60) 11) (by omega), z_bind_some]
    rfl
  rw [if_neg (by (try simp (disch := omega) only [Int32.lt_iff_toInt_lt, Int32.le_iff_toInt_le, ← Int32.toInt_inj, Int32.toInt_add, Int32.toInt_sub, Int32.toInt_mul, Int32.toInt_neg, z_bm, z_bm2, J_ti, J_toInt, z_cn, Int32.reduceToInt]) <;> omega), if_neg (by (try simp (disch := omega) only [Int32.lt_iff_toInt_lt, Int32.le_iff_toInt_le, ← Int32.toInt_inj, Int32.toInt_add, Int32.toInt_sub, Int32.toInt_mul, Int32.toInt_neg, z_bm, z_bm2, J_ti, J_toInt, z_cn, Int32.reduceToInt]) <;> omega), z_rPW h (by omega), z_bind_some]
  unfold z_wav z_wac
  rw [if_neg e3, if_neg e5, if_neg e3, if_neg e5]
  rfl
/-- showing: its value and its codes -/
def z_shv (k : Nat) (x b : Int32) : Int32 := if k = 3 then -(z_tuv 3 (x + 1) b * 2) else if k = 7 then z_tuv 7 x b * 2 + z_wav 7 2 b else if k = 2 then -(z_tuv 2 x b * 2) else z_tuv k x b * 2
def z_shc (k : Nat) : List Int32 := if k = 3 then 41 :: 30 :: 10 :: z_tuc 3 else if k = 7 then 80 :: 10 :: (z_tuc 7 ++ z_wac 7) else if k = 2 then 30 :: 10 :: z_tuc 2 else 10 :: z_tuc k
theorem z_gR_fo {b k : Nat} : ∀ (cs : List Int32) {m : Nat} {u : k_S}, z_gR b k m u → z_gR b k (m + cs.length) (cs.foldl z_apR u)
  | [], _, _, h => h
  | c :: cs, m, u, h => by
    have := z_gR_fo cs (z_gR_ap h c)
    rw [show m + 1 + cs.length = m + (c :: cs).length by rw [List.length_cons]; omega] at this
    exact this
theorem z_gW_fo {b k : Nat} : ∀ (cs : List Int32) {m : Nat} {u : k_S}, z_gW b k m u → z_gW b k (m + cs.length) (cs.foldl z_apW u)
  | [], _, _, h => h
  | c :: cs, m, u, h => by
    have := z_gW_fo cs (z_gW_ap h c)
    rw [show m + 1 + cs.length = m + (c :: cs).length by rw [List.length_cons]; omega] at this
    exact this
theorem z_shR7 {b k m : Nat} {u : k_S} (h : z_gR b k m u) (hm : m < 12) (x : Int32) : f_R_showing (J b) x u = some (z_shv k x (J b), (z_shc k).foldl z_apR u) := by
  obtain ⟨h1, h2, h3, h5⟩ := id h
  have cb : ∀ {α : Type} (o : Option α), k_ck (J b) 50 o = o := fun o => z_cko o (by (try simp (disch := omega) only [Int32.lt_iff_toInt_lt, Int32.le_iff_toInt_le, ← Int32.toInt_inj, Int32.toInt_add, Int32.toInt_sub, Int32.toInt_mul, Int32.toInt_neg, z_bm, z_bm2, J_ti, J_toInt, z_cn, Int32.reduceToInt]) <;> omega) (by (try simp (disch := omega) only [Int32.lt_iff_toInt_lt, Int32.le_iff_toInt_le, ← Int32.toInt_inj, Int32.toInt_add, Int32.toInt_sub, Int32.toInt_mul, Int32.toInt_neg, z_bm, z_bm2, J_ti, J_toInt, z_cn, Int32.reduceToInt]) <;> omega)
  unfold f_R_showing
  simp only [cb]
  rw [J_toNat (show b < 2147483648 by omega), h5]
  by_cases e3 : k = 3
  · subst e3
    rw [if_pos (show J 3 = 3 from rfl), z_ran h3 (by omega), z_bind_some, z_rSS (z_gR_ap h 41) (by omega), z_bind_some]
    rfl
  by_cases e7 : k = 7
  · subst e7
    rw [if_neg (show ¬ J 7 = 3 by decide), if_pos (show J 7 = 7 from rfl), z_ran h3 (by omega), z_bind_some, z_rPS (z_gR_ap h 80) (by omega), z_bind_some]
    have g := z_gR_fo (10 :: z_tuc 7) (z_gR_ap h 80)
    rw [z_waR g (by rw [show (10 :: z_tuc 7).length = 4 from rfl]; omega), z_bind_some]
    rfl
  by_cases e2 : k = 2
  · subst e2
    rw [if_neg (show ¬ J 2 = 3 by decide), if_neg (show ¬ J 2 = 7 by decide), if_pos (show J 2 = 2 from rfl), z_rSS h (by omega), z_bind_some]
    rfl
  rw [if_neg (by (try simp (disch := omega) only [Int32.lt_iff_toInt_lt, Int32.le_iff_toInt_le, ← Int32.toInt_inj, Int32.toInt_add, Int32.toInt_sub, Int32.toInt_mul, Int32.toInt_neg, z_bm, z_bm2, J_ti, J_toInt, z_cn, Int32.reduceToInt]) <;> omega), if_neg (by (try simp (disch := omega) only [Int32.lt_iff_toInt_lt, Int32.le_iff_toInt_le, ← Int32.toInt_inj, Int32.toInt_add, Int32.toInt_sub, Int32.toInt_mul, Int32.toInt_neg, z_bm, z_bm2, J_ti, J_toInt, z_cn, Int32.reduceToInt]) <;> omega), if_neg (by (try simp (disch := omega) only [Int32.lt_iff_toInt_lt, Int32.le_iff_toInt_le, ← Int32.toInt_inj, Int32.toInt_add, Int32.toInt_sub, Int32.toInt_mul, Int32.toInt_neg, z_bm, z_bm2, J_ti, J_toInt, z_cn, Int32.reduceToInt]) <;> omega), z_rPS h (by omega), z_bind_some]
  unfold z_shv z_shc
  rw [if_neg e3, if_neg e7, if_neg e2, if_neg e3, if_neg e7, if_neg e2]
theorem z_w80 {b m d : Nat} {u : k_S} (h : z_gW b 7 m u) (hm : m < 12) (hd : d ≤ 30) (n : Nat) (x : Int32) : f_Bodies_run_rec (n + 6) 80 x (J d) u = some (z_shv 7 x (J b), (z_shc 7).foldl z_apW u) := by
  rw [z_go h (by omega) (by omega)]
  unfold f_Bodies_run_J37
  rw [z_let_ap h (by omega), if_neg (by decide), if_neg (by decide), if_neg (by decide), if_neg (by decide), if_neg (by decide), if_neg (by decide), if_neg (by decide), if_neg (by decide), if_neg (by decide), if_neg (by decide), if_neg (by decide), if_neg (by decide), if_pos rfl]
  have := z_above (rc := f_Bodies_run_rec (n + 5)) (k := 7) (p := 6) (a := 1) (d := d) (u := z_apW u 80) (by omega) rfl (by omega) (by omega) x
  rw [show f_Bodies_above (f_Bodies_run_rec (n + 5)) 7 1 x (J d) (z_apW u 80) = _ from this]
  rw [show z_bf 6 1 = 10 from rfl, z_w10 (z_gW_ap h 80) (by omega) (by omega) (n + 1), z_bind_some]
  have g := z_gW_fo (10 :: z_tuc 7) (z_gW_ap h 80)
  have := z_call (rc := f_Bodies_run_rec (n + 5)) (a := 2) (d := d) g (by omega) 2
  rw [show f_Bodies_call (f_Bodies_run_rec (n + 5)) 2 2 (J d) _ = _ from this]
  rw [z_waW g (by rw [show (10 :: z_tuc 7).length = 4 from rfl]; omega) (by omega) (n + 1), z_bind_some]
  rfl
theorem z_shW7 {b k m d : Nat} {u : k_S} (h : z_gW b k m u) (hm : m < 12) (hd : d ≤ 30) (n : Nat) (x : Int32) : f_Bodies_run_rec (n + 6) (z_bf k 1) x (J d) u = some (z_shv k x (J b), (z_shc k).foldl z_apW u) := by
  have hk := h.2.1
  rcases (show k = 0 ∨ k = 1 ∨ k = 2 ∨ k = 3 ∨ k = 4 ∨ k = 5 ∨ k = 6 ∨ k = 7 by omega) with rfl | rfl | rfl | rfl | rfl | rfl | rfl | rfl
  · exact z_w10 h (by omega) (by omega) (n + 2) x
  · exact z_w10 h (by omega) (by omega) (n + 2) x
  · exact z_w30 h (by omega) (by omega) (n + 1) x
  · exact z_w41 h (by omega) (by omega) n x
  · exact z_w10 h (by omega) (by omega) (n + 2) x
  · exact z_w10 h (by omega) (by omega) (n + 2) x
  · exact z_w10 h (by omega) (by omega) (n + 2) x
  · exact z_w80 h hm hd n x
