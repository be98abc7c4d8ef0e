/-! LAW: the reference's law; law -/
theorem z_ra_8 {s a w : Int32} (h : z_ra s a w) : a.toInt8.toInt32 = a := by
  rcases h with ⟨v, -, -, rfl, -⟩ | ⟨-, rfl, -⟩ | ⟨-, rfl, -⟩ | ⟨-, rfl, -⟩ | ⟨-, rfl, -⟩ | ⟨-, rfl⟩ | ⟨-, rfl⟩ | ⟨c, hc, -, rfl⟩
  · decide
  · decide
  · decide
  · decide
  · decide
  · decide
  · decide
  · have := z_ops_lt hc
    exact (z_b8 (by omega)).1 this
theorem z_1300 (x : Nat) : ((130 : Int32) * 0) + J x = J x := z_130 x
theorem z_610 (x : Nat) : ((61 : Int32) * 0) + J x = J x := by rw [Int32.mul_zero, Int32.zero_add]
theorem z_lt_of {L : List Int32} {i : Nat} {s : Int32} (h : L[i]? = some s) : i < L.length := by
  rcases Nat.lt_or_ge i L.length with q | q
  · exact q
  · rw [List.getElem?_eq_none q] at h; cases h
theorem z_get {L : List Int32} {i : Nat} (h : i < L.length) : ∃ s, L[i]? = some s := ⟨L[i], List.getElem?_eq_getElem h⟩
/-- a good text is kept -/
theorem z_keepR {n : Nat} {b : Nat → Nat} {ls : List z_Ln} {u : k_S} {i : Nat} (hs : z_rv n b u i ls) (hl : (z_rl ls).length ≤ 120) (hm : ls.length ≤ 61) : k_sat (f_R_readText_J86 0 u) (fun r v => r = -1 ∧ z_fr [4202] [49, 50, 51, 52, 53] u v ∧ v.1 4202 = 0 ∧ (∀ i s, (z_rl ls)[i]? = some s → z_ra s (v.2.1 49 i) (v.2.1 50 i)) ∧ v.2.1 51 0 = J ls.length ∧ z_ps (v.2.1 52) (v.2.1 53) 0 0 ls) := by
  obtain ⟨h1, h2, h3, h4⟩ := hs
  have hra : ∀ j, j < (z_rl ls).length → (u.2.1 49 (130 + j)).toInt8.toInt32 = u.2.1 49 (130 + j) := fun j hj => by
    obtain ⟨s, e⟩ := z_get hj
    exact z_ra_8 (h1.2.2.2.2.1.2 j s e)
  have hps : ∀ x, x < ls.length → (u.2.1 52 (61 + x)).toInt16.toInt32 = u.2.1 52 (61 + x) ∧ (u.2.1 53 (61 + x)).toInt16.toInt32 = u.2.1 53 (61 + x) := fun x hx => by
    have := z_ps_J ls 0 0 h4 (by omega) x hx
    rw [Nat.zero_add] at this
    exact this
  unfold f_R_readText_J86
  have f0 : z_fr [4202] [] u (k_wF u 4202 0) := z_wF rfl
  have e0 : (k_wF u 4202 0).1 4202 = 0 := by simp [k_wF]
  refine z_let ?_
  generalize k_wF u 4202 0 = w at *
  refine z_pos (by rw [f0.1 4213 rfl, h1.2.2.2.1]; decide) (z_bind _ (z_for 0 (z_rl ls).length (fun x v => z_fr [] [49, 50] w v ∧ (∀ j, j < x → v.2.1 49 j = u.2.1 49 (130 + j) ∧ v.2.1 50 j = u.2.1 50 (130 + j)) ∧ ∀ j, 130 ≤ j → v.2.1 49 j = u.2.1 49 j ∧ v.2.1 50 j = u.2.1 50 j) (K := fun _ v => z_fr [] [49, 50] w v ∧ ∀ j, j < (z_rl ls).length → v.2.1 49 j = u.2.1 49 (130 + j) ∧ v.2.1 50 j = u.2.1 50 (130 + j)) (by omega) (Nat.zero_le _) ⟨z_fr.rf, fun j hj => by omega, fun j hj => ⟨congrFun (f0.2.1 49 rfl) j, congrFun (f0.2.1 50 rfl) j⟩⟩ (fun x v _ hx hp => ?_) (fun v hp => ?_)) (fun _ v hv => ?_))
  · obtain ⟨p1, p2, p3⟩ := hp
    have ev : v.1 4215 = J (z_rl ls).length := ((p1.1 4215 rfl).trans (f0.1 4215 rfl)).trans h1.2.2.2.2.1.1
    have e130 : (130 : Int32) + J x = J (130 + x) := by rw [show (130 : Int32) = J 130 from rfl, J_add]
    unfold f_R_readText_B105
    rw [ev, z_1300, e130, J_toNat (show 130 + x < 2147483648 by omega), J_toNat (show x < 2147483648 by omega), (p3 (130 + x) (by omega)).1, hra x hx]
    refine z_neg (by (try simp (disch := omega) only [Int32.lt_iff_toInt_lt, Int32.le_iff_toInt_le, ← Int32.toInt_inj, Int32.toInt_add, Int32.toInt_sub, Int32.toInt_mul, Int32.toInt_neg, z_bm, z_bm2, J_ti, J_toInt, z_cn, Int32.reduceToInt]) <;> omega) (z_ck (by (try simp (disch := omega) only [Int32.lt_iff_toInt_lt, Int32.le_iff_toInt_le, ← Int32.toInt_inj, Int32.toInt_add, Int32.toInt_sub, Int32.toInt_mul, Int32.toInt_neg, z_bm, z_bm2, J_ti, J_toInt, z_cn, Int32.reduceToInt]) <;> omega) (by (try simp (disch := omega) only [Int32.lt_iff_toInt_lt, Int32.le_iff_toInt_le, ← Int32.toInt_inj, Int32.toInt_add, Int32.toInt_sub, Int32.toInt_mul, Int32.toInt_neg, z_bm, z_bm2, J_ti, J_toInt, z_cn, Int32.reduceToInt]) <;> omega) (z_ck (by (try simp (disch := omega) only [Int32.lt_iff_toInt_lt, Int32.le_iff_toInt_le, ← Int32.toInt_inj, Int32.toInt_add, Int32.toInt_sub, Int32.toInt_mul, Int32.toInt_neg, z_bm, z_bm2, J_ti, J_toInt, z_cn, Int32.reduceToInt]) <;> omega) (by (try simp (disch := omega) only [Int32.lt_iff_toInt_lt, Int32.le_iff_toInt_le, ← Int32.toInt_inj, Int32.toInt_add, Int32.toInt_sub, Int32.toInt_mul, Int32.toInt_neg, z_bm, z_bm2, J_ti, J_toInt, z_cn, Int32.reduceToInt]) <;> omega) (z_let (z_ck (by (try simp (disch := omega) only [Int32.lt_iff_toInt_lt, Int32.le_iff_toInt_le, ← Int32.toInt_inj, Int32.toInt_add, Int32.toInt_sub, Int32.toInt_mul, Int32.toInt_neg, z_bm, z_bm2, J_ti, J_toInt, z_cn, Int32.reduceToInt]) <;> omega) (by (try simp (disch := omega) only [Int32.lt_iff_toInt_lt, Int32.le_iff_toInt_le, ← Int32.toInt_inj, Int32.toInt_add, Int32.toInt_sub, Int32.toInt_mul, Int32.toInt_neg, z_bm, z_bm2, J_ti, J_toInt, z_cn, Int32.reduceToInt]) <;> omega) (z_ck (by (try simp (disch := omega) only [Int32.lt_iff_toInt_lt, Int32.le_iff_toInt_le, ← Int32.toInt_inj, Int32.toInt_add, Int32.toInt_sub, Int32.toInt_mul, Int32.toInt_neg, z_bm, z_bm2, J_ti, J_toInt, z_cn, Int32.reduceToInt]) <;> omega) (by (try simp (disch := omega) only [Int32.lt_iff_toInt_lt, Int32.le_iff_toInt_le, ← Int32.toInt_inj, Int32.toInt_add, Int32.toInt_sub, Int32.toInt_mul, Int32.toInt_neg, z_bm, z_bm2, J_ti, J_toInt, z_cn, Int32.reduceToInt]) <;> omega) (z_let (k_sat_mk (Or.inl ⟨rfl, (p1.tr (z_wA rfl)).tr (z_wA rfl), fun j hj => ?_, fun j hj => ?_⟩))))))))
    · simp only [k_wA, show ¬ (49 = 50) by decide, show ¬ (50 = 49) by decide, if_false, if_true, z_up]
      by_cases e : j = x
      · rw [if_pos e, if_pos e, e]
        exact ⟨rfl, (p3 (130 + x) (by omega)).2⟩
      · rw [if_neg e, if_neg e]
        exact p2 j (by omega)
    · simp only [k_wA, show ¬ (49 = 50) by decide, show ¬ (50 = 49) by decide, if_false, if_true, z_up]
      rw [if_neg (by omega), if_neg (by omega)]
      exact p3 j hj
  · unfold f_R_readText_B105
    have ev : v.1 4215 = J (z_rl ls).length := ((hp.1.1 4215 rfl).trans (f0.1 4215 rfl)).trans h1.2.2.2.2.1.1
    exact z_pos (by rw [ev]; exact Int32.le_refl _) (k_sat_mk ⟨_, rfl, hp.1, hp.2.1⟩)
  · obtain ⟨p1, p2⟩ := hv
    have k1 : z_fr [4202] [49, 50, 51, 52, 53] u v := (f0.mono rfl rfl).tr (p1.mono rfl rfl)
    have e51 : v.2.1 51 1 = J ls.length := by rw [p1.2.1 51 rfl, f0.2.1 51 rfl]; exact h3
    have e4202 : v.1 4202 = 0 := (p1.1 4202 rfl).trans e0
    rw [show (1 : Int32).toNatClampNeg = 1 from rfl, show (0 : Int32).toNatClampNeg = 0 from rfl, e51]
    refine z_ck (by decide) (by decide) (z_ck (by decide) (by decide) (z_let ?_))
    have k2 : z_fr [4202] [49, 50, 51, 52, 53] u (k_wA v 51 0 (J ls.length)) := k1.tr (z_wA rfl)
    have w51 : (k_wA v 51 0 (J ls.length)).2.1 51 0 = J ls.length := by simp [k_wA, z_up]
    have w49 : (k_wA v 51 0 (J ls.length)).2.1 49 = v.2.1 49 := rfl
    have w50 : (k_wA v 51 0 (J ls.length)).2.1 50 = v.2.1 50 := rfl
    have w52 : (k_wA v 51 0 (J ls.length)).2.1 52 = u.2.1 52 := (p1.2.1 52 rfl).trans (f0.2.1 52 rfl)
    have w53 : (k_wA v 51 0 (J ls.length)).2.1 53 = u.2.1 53 := (p1.2.1 53 rfl).trans (f0.2.1 53 rfl)
    have w4202 : (k_wA v 51 0 (J ls.length)).1 4202 = 0 := e4202
    generalize k_wA v 51 0 (J ls.length) = y at *
    refine z_bind _ (z_for 0 ls.length (fun x v => z_fr [] [52, 53] y v ∧ (∀ j, j < x → v.2.1 52 j = u.2.1 52 (61 + j) ∧ v.2.1 53 j = u.2.1 53 (61 + j)) ∧ ∀ j, 61 ≤ j → v.2.1 52 j = u.2.1 52 j ∧ v.2.1 53 j = u.2.1 53 j) (K := fun _ v => z_fr [] [52, 53] y v ∧ ∀ j, j < ls.length → v.2.1 52 j = u.2.1 52 (61 + j) ∧ v.2.1 53 j = u.2.1 53 (61 + j)) (by omega) (Nat.zero_le _) ⟨z_fr.rf, fun j hj => by omega, fun j hj => ⟨congrFun w52 j, congrFun w53 j⟩⟩ (fun x v _ hx hp => ?_) (fun v hp => ?_)) (fun _ v hv => k_sat_mk ⟨rfl, k2.tr (hv.1.mono rfl rfl), (hv.1.1 4202 rfl).trans w4202, fun i s hs => ?_, ?_, ?_⟩)
    · obtain ⟨r1, r2, r3⟩ := hp
      have e61 : (61 : Int32) + J x = J (61 + x) := by rw [show (61 : Int32) = J 61 from rfl, J_add]
      have e51' : v.2.1 51 0 = J ls.length := (congrFun (r1.2.1 51 rfl) 0).trans w51
      obtain ⟨q1, q2⟩ := r3 (61 + x) (by omega)
      obtain ⟨q3, q4⟩ := hps x hx
      unfold f_R_readText_B177
      rw [show (0 : Int32).toNatClampNeg = 0 from rfl, e51', z_610, e61, J_toNat (show 61 + x < 2147483648 by omega), J_toNat (show x < 2147483648 by omega), q1, q3]
      have e53 : ∀ z : Int32, (k_wA v 52 x z).2.1 53 (61 + x) = u.2.1 53 (61 + x) := fun z => q2
      simp only [k_let]
      rw [e53, q4]
      refine z_ck (by decide) (by decide) (z_neg (by (try simp (disch := omega) only [Int32.lt_iff_toInt_lt, Int32.le_iff_toInt_le, ← Int32.toInt_inj, Int32.toInt_add, Int32.toInt_sub, Int32.toInt_mul, Int32.toInt_neg, z_bm, z_bm2, J_ti, J_toInt, z_cn, Int32.reduceToInt]) <;> omega) (z_ck (by (try simp (disch := omega) only [Int32.lt_iff_toInt_lt, Int32.le_iff_toInt_le, ← Int32.toInt_inj, Int32.toInt_add, Int32.toInt_sub, Int32.toInt_mul, Int32.toInt_neg, z_bm, z_bm2, J_ti, J_toInt, z_cn, Int32.reduceToInt]) <;> omega) (by (try simp (disch := omega) only [Int32.lt_iff_toInt_lt, Int32.le_iff_toInt_le, ← Int32.toInt_inj, Int32.toInt_add, Int32.toInt_sub, Int32.toInt_mul, Int32.toInt_neg, z_bm, z_bm2, J_ti, J_toInt, z_cn, Int32.reduceToInt]) <;> omega) (z_ck (by (try simp (disch := omega) only [Int32.lt_iff_toInt_lt, Int32.le_iff_toInt_le, ← Int32.toInt_inj, Int32.toInt_add, Int32.toInt_sub, Int32.toInt_mul, Int32.toInt_neg, z_bm, z_bm2, J_ti, J_toInt, z_cn, Int32.reduceToInt]) <;> omega) (by (try simp (disch := omega) only [Int32.lt_iff_toInt_lt, Int32.le_iff_toInt_le, ← Int32.toInt_inj, Int32.toInt_add, Int32.toInt_sub, Int32.toInt_mul, Int32.toInt_neg, z_bm, z_bm2, J_ti, J_toInt, z_cn, Int32.reduceToInt]) <;> omega) (z_ck (by (try simp (disch := omega) only [Int32.lt_iff_toInt_lt, Int32.le_iff_toInt_le, ← Int32.toInt_inj, Int32.toInt_add, Int32.toInt_sub, Int32.toInt_mul, Int32.toInt_neg, z_bm, z_bm2, J_ti, J_toInt, z_cn, Int32.reduceToInt]) <;> omega) (by (try simp (disch := omega) only [Int32.lt_iff_toInt_lt, Int32.le_iff_toInt_le, ← Int32.toInt_inj, Int32.toInt_add, Int32.toInt_sub, Int32.toInt_mul, Int32.toInt_neg, z_bm, z_bm2, J_ti, J_toInt, z_cn, Int32.reduceToInt]) <;> omega) (z_ck (by (try simp (disch := omega) only [Int32.lt_iff_toInt_lt, Int32.le_iff_toInt_le, ← Int32.toInt_inj, Int32.toInt_add, Int32.toInt_sub, Int32.toInt_mul, Int32.toInt_neg, z_bm, z_bm2, J_ti, J_toInt, z_cn, Int32.reduceToInt]) <;> omega) (by (try simp (disch := omega) only [Int32.lt_iff_toInt_lt, Int32.le_iff_toInt_le, ← Int32.toInt_inj, Int32.toInt_add, Int32.toInt_sub, Int32.toInt_mul, Int32.toInt_neg, z_bm, z_bm2, J_ti, J_toInt, z_cn, Int32.reduceToInt]) <;> omega) (k_sat_mk (Or.inl ⟨rfl, (r1.tr (z_wA rfl)).tr (z_wA rfl), fun j hj => ?_, fun j hj => ?_⟩)))))))
      · simp only [k_wA, show ¬ (52 = 53) by decide, show ¬ (53 = 52) by decide, if_false, if_true, z_up]
        by_cases e : j = x
        · rw [if_pos e, if_pos e, e]
          exact ⟨rfl, rfl⟩
        · rw [if_neg e, if_neg e]
          exact r2 j (by omega)
      · simp only [k_wA, show ¬ (52 = 53) by decide, show ¬ (53 = 52) by decide, if_false, if_true, z_up]
        rw [if_neg (by omega), if_neg (by omega)]
        exact r3 j hj
    · unfold f_R_readText_B177
      have e51' : v.2.1 51 0 = J ls.length := (congrFun (hp.1.2.1 51 rfl) 0).trans w51
      rw [show (0 : Int32).toNatClampNeg = 0 from rfl, e51']
      exact z_ck (by decide) (by decide) (z_pos (Int32.le_refl _) (k_sat_mk ⟨_, rfl, hp.1, hp.2.1⟩))
    · have hi := z_lt_of hs
      obtain ⟨q1, q2⟩ := p2 i hi
      rw [hv.1.2.1 49 rfl, hv.1.2.1 50 rfl, w49, w50, q1, q2]
      exact h1.2.2.2.2.1.2 i s hs
    · exact (congrFun (hv.1.2.1 51 rfl) 0).trans w51
    · refine z_ps_M (M := ls.length) (fun x hx => ?_) ls 0 0 (by omega) h4
      exact hv.2 x hx
theorem z_badR {n j : Nat} {b : Nat → Nat} {u : k_S} (hx : z_rx n b u) (hj : j ≤ n) (h : u.1 4213 = J j) : k_sat (f_R_readText_J86 0 u) (fun r v => r = J j ∧ v = k_wF u 4202 0) := by
  have := hx.1
  unfold f_R_readText_J86
  have e : (k_wF u 4202 0).1 4213 = J j := h
  refine z_let (z_neg (by rw [e]; (try simp (disch := omega) only [Int32.lt_iff_toInt_lt, Int32.le_iff_toInt_le, ← Int32.toInt_inj, Int32.toInt_add, Int32.toInt_sub, Int32.toInt_mul, Int32.toInt_neg, z_bm, z_bm2, J_ti, J_toInt, z_cn, Int32.reduceToInt]) <;> omega) (k_sat_mk ⟨e, rfl⟩))
theorem z_readR {n : Nat} {b : Nat → Nat} {u : k_S} (hx : z_rx n b u) : k_sat (f_R_readText 0 u) (fun r v => z_fr [4202, 4212, 4213, 4214, 4215] [49, 50, 51, 52, 53] u v ∧ v.1 4202 = 0 ∧ ((z_good n b ∧ r = -1 ∧ (∀ i s, (z_rl (z_tx (z_ch n b)).2.2)[i]? = some s → z_ra s (v.2.1 49 i) (v.2.1 50 i)) ∧ v.2.1 51 0 = J (z_tx (z_ch n b)).2.2.length ∧ z_ps (v.2.1 52) (v.2.1 53) 0 0 (z_tx (z_ch n b)).2.2) ∨ (¬ z_good n b ∧ r = J (z_tx (z_ch n b)).2.1 ∧ z_lo u v))) := by
  have hn := hx.1
  have k5 : z_fk [4212, 4213, 4214, 4215] [49, 50, 51, 52, 53] u (k_wA (k_wF (k_wF (k_wF (k_wF u 4212 0) 4213 (-1)) 4214 0) 4215 0) 51 1 0) := ((((z_kF rfl).tr (z_kF rfl)).tr (z_kF rfl)).tr (z_kF rfl)).tr (z_kB rfl (by omega))
  have hv5 : z_rv n b (k_wA (k_wF (k_wF (k_wF (k_wF u 4212 0) 4213 (-1)) 4214 0) 4215 0) 51 1 0) 0 [] := by
    refine ⟨⟨z_rx_m hx k5, by simp [k_wA, k_wF, J_0], Nat.zero_le n, by simp [k_wA, k_wF], ⟨by simp [k_wA, k_wF, z_rl, J_0], fun j s hj => by cases hj⟩, Nat.le_refl _⟩, by simp [k_wA, k_wF, J_0], by simp [k_wA, k_wF, z_up, J_0], trivial⟩
  unfold f_R_readText
  refine z_let (z_let (z_let (z_let (z_ck (by decide) (by decide) (z_let ?_)))))
  rw [show (1 : Int32).toNatClampNeg = 1 from rfl]
  generalize k_wA (k_wF (k_wF (k_wF (k_wF u 4212 0) 4213 (-1)) 4214 0) 4215 0) 51 1 0 = w at *
  obtain ⟨tg1, tg2⟩ := z_tx_g (n := n) (b := b)
  obtain ⟨lg1, lg2, lg3⟩ := z_ln_g (b := b) 0 0 (Nat.zero_le n)
  have done : ∀ v : k_S, z_fk [4212, 4213, 4214, 4215] [49, 50, 51, 52, 53] u v → z_rx n b v → (((z_tx (z_ch n b)).1 = true ∧ z_rv n b v (z_tx (z_ch n b)).2.1 (z_tx (z_ch n b)).2.2) ∨ ((z_tx (z_ch n b)).1 = false ∧ v.1 4213 = J (z_tx (z_ch n b)).2.1)) → k_sat (f_R_readText_J64 0 v) (fun r v => z_fr [4202, 4212, 4213, 4214, 4215] [49, 50, 51, 52, 53] u v ∧ v.1 4202 = 0 ∧ ((z_good n b ∧ r = -1 ∧ (∀ i s, (z_rl (z_tx (z_ch n b)).2.2)[i]? = some s → z_ra s (v.2.1 49 i) (v.2.1 50 i)) ∧ v.2.1 51 0 = J (z_tx (z_ch n b)).2.2.length ∧ z_ps (v.2.1 52) (v.2.1 53) 0 0 (z_tx (z_ch n b)).2.2) ∨ (¬ z_good n b ∧ r = J (z_tx (z_ch n b)).2.1 ∧ z_lo u v))) := by
    intro v k1 k2 k3
    unfold f_R_readText_J64
    rcases k3 with ⟨q1, q2⟩ | ⟨q1, q2⟩
    · obtain ⟨g1, g2, g3⟩ := tg2 q1
      have e4212 : v.1 4212 = J (z_tx (z_ch n b)).2.1 := q2.1.2.1
      have e4202 : v.1 4202 = J n := k2.2.1
      refine z_neg (by rw [q2.1.2.2.2.1]; decide) ?_
      rw [e4202, e4212]
      refine z_ite (fun c => ?_) (fun c => ?_)
      · have hgood : z_good n b := ⟨q1, by
          have : n ≤ (z_tx (z_ch n b)).2.1 := by ((try simp (disch := omega) only [Int32.lt_iff_toInt_lt, Int32.le_iff_toInt_le, ← Int32.toInt_inj, Int32.toInt_add, Int32.toInt_sub, Int32.toInt_mul, Int32.toInt_neg, z_bm, z_bm2, J_ti, J_toInt, z_cn, Int32.reduceToInt] at *); omega)
          omega⟩
        exact z_mono (z_keepR q2 (by omega) (by omega)) (fun r x hx => ⟨(k1.fr.mono rfl rfl).tr (hx.2.1.mono rfl rfl), hx.2.2.1, Or.inl ⟨hgood, hx.1, hx.2.2.2⟩⟩)
      · have hbad : ¬ z_good n b := fun g => c (by rw [g.2]; exact Int32.le_refl _)
        rw [z_wrR q2.1, z_bind_some]
        have k4 : z_fk [4212, 4213, 4214, 4215] [49, 50, 51, 52, 53] u (k_wF v 4213 (J (z_tx (z_ch n b)).2.1)) := k1.tr (z_kF rfl)
        have e4213 : (k_wF v 4213 (J (z_tx (z_ch n b)).2.1)).1 4213 = J (z_tx (z_ch n b)).2.1 := by simp [k_wF]
        generalize k_wF v 4213 (J (z_tx (z_ch n b)).2.1) = y at *
        refine z_mono (z_badR (z_rx_m hx k4) tg1 e4213) (fun r x hx => ?_)
        obtain ⟨rfl, rfl⟩ := hx
        exact ⟨(k4.fr.mono rfl rfl).tr (z_wF rfl), by simp [k_wF], Or.inr ⟨hbad, rfl, k4.2.2.2⟩⟩
    · have hbad : ¬ z_good n b := fun g => absurd (q1.symm.trans g.1) (by decide)
      refine z_pos (by rw [q2]; (try simp (disch := omega) only [Int32.lt_iff_toInt_lt, Int32.le_iff_toInt_le, ← Int32.toInt_inj, Int32.toInt_add, Int32.toInt_sub, Int32.toInt_mul, Int32.toInt_neg, z_bm, z_bm2, J_ti, J_toInt, z_cn, Int32.reduceToInt]) <;> omega) (z_mono (z_badR k2 tg1 q2) (fun r x hx => ?_))
      obtain ⟨rfl, rfl⟩ := hx
      exact ⟨(k1.fr.mono rfl rfl).tr (z_wF rfl), by simp [k_wF], Or.inr ⟨hbad, rfl, k1.2.2.2⟩⟩
  refine z_bind _ (z_lineR hv5 (Nat.le_refl _)) (fun _ v hv => ?_)
  obtain ⟨m1, m2, m3⟩ := hv
  have k6 := k5.tr m1
  by_cases q : (z_ln (z_ch n b) 0).1 = true
  · have htx : z_tx (z_ch n b) = z_tl (z_ch n b) 120 (z_ln (z_ch n b) 0).2.1 [(z_ln (z_ch n b) 0).2.2] := by unfold z_tx; rw [if_pos q]
    have hlen := (lg3 q).1
    have m4 : z_rv n b v (z_ln (z_ch n b) 0).2.1 [(z_ln (z_ch n b) 0).2.2] := m2 q
    refine z_bind _ (z_linesR (p1 := 0) 120 v _ _ k_FU (by omega) (by unfold k_FU; omega) m4 (by rw [List.length_singleton]; omega)) (fun _ x hx' => ?_)
    obtain ⟨p1, p2, p3⟩ := hx'
    rw [← htx] at p2 p3
    refine done x (k6.tr p1) (z_rx_m hx (k6.tr p1)) ?_
    cases hz : (z_tx (z_ch n b)).1 with
    | true => exact Or.inl ⟨rfl, p2 hz⟩
    | false => exact Or.inr ⟨rfl, (p3 hz).2⟩
  · have q' : (z_ln (z_ch n b) 0).1 = false := by cases hq : (z_ln (z_ch n b) 0).1; rfl; exact absurd hq q
    have htx : z_tx (z_ch n b) = (false, (z_ln (z_ch n b) 0).2.1, []) := by unfold z_tx; rw [if_neg q]
    obtain ⟨m4, m5⟩ := m3 q'
    rw [z_FU]
    refine z_bind (fun _ x => x = v) (z_exit ?_) (fun _ x hx' => ?_)
    · unfold f_R_readText_B31
      exact z_pos (by rw [m5]; (try simp (disch := omega) only [Int32.lt_iff_toInt_lt, Int32.le_iff_toInt_le, ← Int32.toInt_inj, Int32.toInt_add, Int32.toInt_sub, Int32.toInt_mul, Int32.toInt_neg, z_bm, z_bm2, J_ti, J_toInt, z_cn, Int32.reduceToInt]) <;> omega) (k_sat_mk ⟨_, rfl, rfl⟩)
    · subst hx'
      exact done x k6 m4 (Or.inr ⟨by rw [htx], by rw [htx]; exact m5⟩)
theorem z_law (u : k_S) (h : zI u) : z_pair f_W_law f_R_law u zI := by
  obtain ⟨n, b, hn, t1, t2, hb⟩ := z_tape h.1
  obtain ⟨tg1, tg2⟩ := z_tx_g (n := n) (b := b)
  refine z_pair_of ?_
  unfold f_W_law
  refine z_bind _ (z_takeW hn t1 (fun j hj => ⟨(hb j hj).1, (hb j hj).2.1⟩)) (fun r v hv => z_let ?_)
  have hR : ∀ w : k_S, w.1 4202 = u.1 4202 → w.2.1 43 = u.2.1 43 → z_rx n b w := fun w e1 e2 => ⟨hn, e1.trans t2, fun j hj => by rw [e2]; exact ⟨(hb j hj).1, (hb j hj).2.2⟩⟩
  rcases hv with ⟨hgood, rfl, f1, hl, e703, hcode⟩ | ⟨hbad, rfl, f1⟩
  · refine z_pos rfl (k_sat_mk ?_)
    have f2 : z_fr [101, 1002, 1003, 703] [11, 8] u (k_wF v 101 0) := (f1.mono rfl rfl).tr (z_wF rfl)
    have w101 : (k_wF v 101 0).1 101 = 0 := by simp [k_wF]
    have w703 : (k_wF v 101 0).1 703 = J (z_cls 0 (z_tx (z_ch n b)).2.2).length := e703
    have w8 : (k_wF v 101 0).2.1 8 = v.2.1 8 := rfl
    generalize k_wF v 101 0 = w at *
    unfold f_R_law
    refine z_bind _ (z_readR (hR w (f2.1 4202 rfl) (f2.2.1 43 rfl))) (fun r x hx => ?_)
    obtain ⟨g1, g2, ⟨-, rfl, g4, g5, g6⟩ | ⟨g3, -⟩⟩ := hx
    · refine z_pos (by decide) (z_let (k_sat_mk ⟨rfl, ?_⟩))
      obtain ⟨q1, q2, q3⟩ := tg2 hgood.1
      have f3 : z_fr [101, 1002, 1003, 703, 4202, 4212, 4213, 4214, 4215, 4223] [11, 8, 49, 50, 51, 52, 53] u (k_wF x 4223 1) := ((f2.mono rfl rfl).tr (g1.mono rfl rfl)).tr (z_wF rfl)
      refine zI_TL h (f3.mono rfl rfl) (z_T0e ((g1.1 101 rfl).trans w101) g2) ⟨z_c (z_tx (z_ch n b)).2.2, ?_, ?_⟩
      · have e1 : (k_wF x 4223 1).1 703 = J (z_cls 0 (z_tx (z_ch n b)).2.2).length := (g1.1 703 rfl).trans w703
        have e2 : (k_wF x 4223 1).2.1 8 = v.2.1 8 := (g1.2.1 8 rfl).trans w8
        rw [e1, e2]
        exact z_cWl q1 hcode (by omega)
      · have e1 : (k_wF x 4223 1).1 4223 = 1 := by simp [k_wF]
        rw [e1]
        exact z_cRl q1 g6 g4 (by omega) (by omega) g5
    · exact absurd hgood g3
  · have hne : ¬ J (z_tx (z_ch n b)).2.1 = (-1 : Int32) := fun q => by
      have := congrArg Int32.toInt q
      rw [J_toInt (by omega)] at this
      simp at this
    refine z_neg hne (k_sat_mk ?_)
    have f2 : z_fr [101, 1002, 1003] [11] u (k_wF v 101 0) := (f1.mono rfl rfl).tr (z_wF rfl)
    have w101 : (k_wF v 101 0).1 101 = 0 := by simp [k_wF]
    generalize k_wF v 101 0 = w at *
    unfold f_R_law
    refine z_bind _ (z_readR (hR w (f2.1 4202 rfl) (f2.2.1 43 rfl))) (fun r x hx => ?_)
    obtain ⟨g1, g2, ⟨g3, -⟩ | ⟨-, rfl, g4⟩⟩ := hx
    · exact absurd g3 hbad
    · refine z_neg (by (try simp (disch := omega) only [Int32.lt_iff_toInt_lt, Int32.le_iff_toInt_le, ← Int32.toInt_inj, Int32.toInt_add, Int32.toInt_sub, Int32.toInt_mul, Int32.toInt_neg, z_bm, z_bm2, J_ti, J_toInt, z_cn, Int32.reduceToInt]) <;> omega) (k_sat_mk ⟨rfl, ?_⟩)
      have f3 : z_fr [101, 1002, 1003, 4202, 4212, 4213, 4214, 4215] [11, 49, 50, 51, 52, 53] u x := (f2.mono rfl rfl).tr (g1.mono rfl rfl)
      obtain ⟨c, c1, c2⟩ := h.2.2.2.2.1
      refine zI_TL h (f3.mono rfl rfl) (z_T0e ((g1.1 101 rfl).trans w101) g2) ⟨c, ?_, ?_⟩
      · rw [f3.1 703 rfl, f3.2.1 8 rfl]
        exact c1
      · intro y y1 y2 y3 y4
        have lo : ∀ j, j < 130 → x.2.1 49 j = u.2.1 49 j ∧ x.2.1 50 j = u.2.1 50 j := fun j hj => ⟨(g4.1 j hj).1.trans (congrFun (f2.2.1 49 rfl) j), (g4.1 j hj).2.trans (congrFun (f2.2.1 50 rfl) j)⟩
        refine c2 y (y1.trans (f3.1 4223 rfl)) (fun i hi => ⟨(y2 i hi).1.trans (lo i hi).1, (y2 i hi).2.trans (lo i hi).2⟩) (y3.trans (g4.2.1.trans (congrFun (f2.2.1 51 rfl) 0))) (fun i hi => ⟨(y4 i hi).1.trans ((g4.2.2 i hi).1.trans (congrFun (f2.2.1 52 rfl) i)), (y4 i hi).2.trans ((g4.2.2 i hi).2.trans (congrFun (f2.2.1 53 rfl) i))⟩)
