/-! act: both -/
theorem z_foW : ∀ (cs : List Int32) (u : k_S), z_fr [3503] [37] u (cs.foldl z_apW u)
  | [], _ => z_fr.rf
  | c :: cs, u => ((z_wA rfl).tr (z_wF rfl) : z_fr [3503] [37] u (z_apW u c)).tr (z_foW cs (z_apW u c))
theorem z_foR : ∀ (cs : List Int32) (u : k_S), z_fr [4247] [71] u (cs.foldl z_apR u)
  | [], _ => z_fr.rf
  | c :: cs, u => ((z_wA rfl).tr (z_wF rfl) : z_fr [4247] [71] u (z_apR u c)).tr (z_foR cs (z_apR u c))
theorem z_foE : ∀ (cs : List Int32) (m : Nat) (u v : k_S), u.1 3503 = J m → v.1 4247 = J m → (∀ i, i < m → v.2.1 71 i = u.2.1 37 i) → m + cs.length ≤ 24 → (cs.foldl z_apW u).1 3503 = J (m + cs.length) ∧ (cs.foldl z_apR v).1 4247 = J (m + cs.length) ∧ ∀ i, i < m + cs.length → (cs.foldl z_apR v).2.1 71 i = (cs.foldl z_apW u).2.1 37 i
  | [], _, _, _, h1, h2, h3, _ => ⟨h1, h2, h3⟩
  | c :: cs, m, u, v, h1, h2, h3, h4 => by
    rw [List.length_cons] at h4 ⊢
    have := z_foE cs (m + 1) (z_apW u c) (z_apR v c) (by show u.1 3503 + 1 = _; rw [h1, z_Jp]) (by show v.1 4247 + 1 = _; rw [h2, z_Jp]) (fun i hi => by
      show (k_wA v 71 (v.1 4247).toNatClampNeg c).2.1 71 i = (k_wA u 37 (u.1 3503).toNatClampNeg c).2.1 37 i
      rw [h1, h2, J_toNat (by omega)]
      simp only [k_wA, if_true]
      rw [z_up, z_up]
      by_cases e : i = m
      · rw [if_pos e, if_pos e]
      · rw [if_neg e, if_neg e]
        exact h3 i (by omega)) (by omega)
    rw [show m + 1 + cs.length = m + (cs.length + 1) by omega] at this
    exact this
