/-! act: both -/
theorem z_foW : ∀ (cs : List Int32) (u : k_S), z_fr [3503] [37] u (cs.foldl z_apW u)
  | [], _ => z_fr.rf
  | c :: cs, u => ((z_wA rfl).tr (z_wF rfl) : z_fr [3503] [37] u (z_apW u c)).tr (z_foW cs (z_apW u c))
theorem z_foR : ∀ (cs : List Int32) (u : k_S), z_fr [4247] [71] u (cs.foldl z_apR u)
  | [], _ => z_fr.rf
  | c :: cs, u => ((z_wA rfl).tr (z_wF rfl) : z_fr [4247] [71] u (z_apR u c)).tr (z_foR cs (z_apR u c))
theorem z_foE : ∀ (cs : List Int32) (m : Nat) (u v : k_S), u.1 3503 = J m → v.1 4247 = J m → (∀ i, i < m → v.2.1 71 i = u.2.1 37 i) → m + cs.length ≤ 24 → (cs.foldl z_apW u).1 3503 = J (m + cs.length) ∧ (cs.foldl z_apR v).1 4247 = J (m + cs.length) ∧ ∀ i, i < m + cs.length → (cs.foldl z_apR v).2.1 71 i = (cs.foldl z_apW u).2.1 37 i
  | [], _, _, _, h1, h2, h3, _ => ⟨h1, h2, h3⟩
  | c :: cs, m, u, v, h1, h2, h3, h4 => by
    rw [List.length_cons] at h4 ⊢
    have := z_foE cs (m + 1) (z_apW u c) (z_apR v c) (by show u.1 3503 + 1 = _; rw [h1, z_Jp]) (by show v.1 4247 + 1 = _; rw [h2, z_Jp]) (fun i hi => by
      show (k_wA v 71 (v.1 4247).toNatClampNeg c).2.1 71 i = (k_wA u 37 (u.1 3503).toNatClampNeg c).2.1 37 i
      rw [h1, h2, J_toNat (by omega)]
      simp only [k_wA, if_true]
      rw [z_up, z_up]
      by_cases e : i = m
      · rw [if_pos e, if_pos e]
      · rw [if_neg e, if_neg e]
        exact h3 i (by omega)) (by omega)
    rw [show m + 1 + cs.length = m + (cs.length + 1) by omega] at this
    exact this
def z_acv (k a : Nat) (x b : Int32) : Int32 := if a = 0 then z_tuv k x b else if a = 1 then z_shv k x b else if a = 2 then z_wav k x b else z_tev k x b
def z_acc (k a : Nat) : List Int32 := if a = 0 then z_tuc k else if a = 1 then z_shc k else if a = 2 then z_wac k else z_tec k
theorem z_acl (k a : Nat) (hk : k < 8) : (z_acc k a).length ≤ 24 := by
  unfold z_acc
  rcases (show k = 0 ∨ k = 1 ∨ k = 2 ∨ k = 3 ∨ k = 4 ∨ k = 5 ∨ k = 6 ∨ k = 7 by omega) with rfl | rfl | rfl | rfl | rfl | rfl | rfl | rfl <;> (repeat' split) <;> decide
theorem z_acW {b k a : Nat} {u : k_S} (h : z_gW b k 0 u) (ha : a < 4) (x : Int32) : f_Bodies_call (f_Bodies_run_rec 12) (J a) x 0 u = some (z_acv k a x (J b), (z_acc k a).foldl z_apW u) := by
  have := z_call (rc := f_Bodies_run_rec 12) (a := a) (d := 0) h ha x
  rw [show f_Bodies_call (f_Bodies_run_rec 12) (J a) x 0 u = _ from this]
  unfold z_acv z_acc
  rcases (show a = 0 ∨ a = 1 ∨ a = 2 ∨ a = 3 by omega) with rfl | rfl | rfl | rfl
  · rw [if_pos rfl, if_pos rfl]; exact z_tuW h (by omega) (by omega) 9 x
  · rw [if_neg (by decide), if_pos rfl, if_neg (by decide), if_pos rfl]; exact z_shW7 h (by omega) (by omega) 6 x
  · rw [if_neg (by decide), if_neg (by decide), if_pos rfl, if_neg (by decide), if_neg (by decide), if_pos rfl]; exact z_waW h (by omega) (by omega) 8 x
  · rw [if_neg (by decide), if_neg (by decide), if_neg (by decide), if_neg (by decide), if_neg (by decide), if_neg (by decide)]; exact z_teW h (by omega) (by omega) 3 x
