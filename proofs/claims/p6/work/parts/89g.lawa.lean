/-! LAW: the class's law, whole -/
theorem z_rl_app (l : z_Ln) : ∀ ls : List z_Ln, z_rl (ls ++ [l]) = z_rl ls ++ (l.1 ++ l.2)
  | [] => by
    show l.1 ++ (l.2 ++ []) = [] ++ (l.1 ++ l.2)
    rw [List.append_nil, List.nil_append]
  | a :: ls => by
    rw [List.cons_append, z_rl, z_rl_app l ls, z_rl]
    simp only [List.append_assoc]
theorem z_tl_g {n : Nat} {b : Nat → Nat} : ∀ (m i : Nat) (ls : List z_Ln), i ≤ n → (∀ l, l ∈ ls → z_gl l) → 2 * ls.length ≤ i + 1 → (z_rl ls).length ≤ i → (z_tl (z_ch n b) m i ls).2.1 ≤ n ∧ ((z_tl (z_ch n b) m i ls).1 = true → (∀ l, l ∈ (z_tl (z_ch n b) m i ls).2.2 → z_gl l) ∧ 2 * (z_tl (z_ch n b) m i ls).2.2.length ≤ (z_tl (z_ch n b) m i ls).2.1 + 1 ∧ (z_rl (z_tl (z_ch n b) m i ls).2.2).length ≤ (z_tl (z_ch n b) m i ls).2.1)
  | 0, i, ls, h1, h2, h3, h4 => ⟨h1, fun _ => ⟨h2, h3, h4⟩⟩
  | m + 1, i, ls, h1, h2, h3, h4 => by
    rw [z_tl]
    by_cases hc : z_ch n b i = 59
    · rw [if_pos hc]
      have hin : i < n := z_ch_n (b := b) (by omega)
      obtain ⟨g1, g2, g3⟩ := z_ln_g (b := b) (i + 1) 0 (show i + 1 ≤ n by omega)
      by_cases q : (z_ln (z_ch n b) (i + 1)).1 = true
      · rw [if_pos q]
        obtain ⟨k1, k2, k3, k4⟩ := g3 q
        refine z_tl_g m _ _ g2 (fun l hl => ?_) (by rw [List.length_append, List.length_singleton]; omega) (by rw [z_rl_app, List.length_append, List.length_append]; omega)
        rw [List.mem_append, List.mem_singleton] at hl
        rcases hl with hl | rfl
        · exact h2 l hl
        · exact k2
      · rw [if_neg q]
        exact ⟨g2, fun q => by cases q⟩
    · rw [if_neg hc]
      exact ⟨h1, fun _ => ⟨h2, h3, h4⟩⟩
theorem z_tx_g {n : Nat} {b : Nat → Nat} : (z_tx (z_ch n b)).2.1 ≤ n ∧ ((z_tx (z_ch n b)).1 = true → (∀ l, l ∈ (z_tx (z_ch n b)).2.2 → z_gl l) ∧ 2 * (z_tx (z_ch n b)).2.2.length ≤ (z_tx (z_ch n b)).2.1 + 1 ∧ (z_rl (z_tx (z_ch n b)).2.2).length ≤ (z_tx (z_ch n b)).2.1) := by
  obtain ⟨g1, g2, g3⟩ := z_ln_g (b := b) 0 0 (Nat.zero_le n)
  unfold z_tx
  by_cases q : (z_ln (z_ch n b) 0).1 = true
  · rw [if_pos q]
    obtain ⟨k1, k2, k3, k4⟩ := g3 q
    refine z_tl_g 120 _ _ g2 (fun l hl => ?_) (by rw [List.length_singleton]; omega) ?_
    · rw [List.mem_singleton] at hl
      rw [hl]
      exact k2
    · show ((z_ln (z_ch n b) 0).2.2.1 ++ ((z_ln (z_ch n b) 0).2.2.2 ++ [])).length ≤ _
      rw [List.append_nil, List.length_append]
      omega
  · rw [if_neg q]
    exact ⟨g2, fun q => by cases q⟩
def z_good (n : Nat) (b : Nat → Nat) : Prop := (z_tx (z_ch n b)).1 = true ∧ (z_tx (z_ch n b)).2.1 = n
theorem z_readW {n : Nat} {b : Nat → Nat} {u : k_S} (hn : n ≤ 120) (h1 : u.1 101 = J n) (h2 : ∀ j, j < n → b j ≤ 255 ∧ u.2.1 2 j = J (b j)) : k_sat (f_Reader_readTape u) (fun r v => z_fr [1002, 1003] [11] u v ∧ ((z_good n b ∧ r = -1 ∧ z_wcs v (z_cls 0 (z_tx (z_ch n b)).2.2) ∧ (z_cls 0 (z_tx (z_ch n b)).2.2).length ≤ 121) ∨ (¬ z_good n b ∧ r = J (z_tx (z_ch n b)).2.1))) := by
  have hf0 : z_fr [1002, 1003] [11] u (k_wF (k_wF u 1003 0) 1002 0) := (z_wF rfl).tr (z_wF rfl)
  have hx : z_wx n b (k_wF (k_wF u 1003 0) 1002 0) 0 := ⟨hn, (hf0.1 101 rfl).trans h1, fun j hj => by rw [hf0.2.1 2 rfl]; exact h2 j hj, by simp [k_wF, J_0], Nat.zero_le n⟩
  have hc : z_wcs (k_wF (k_wF u 1003 0) 1002 0) [] := ⟨by simp [k_wF, J_0], fun j s hj => by cases hj⟩
  unfold f_Reader_readTape
  refine z_let (z_let ?_)
  generalize k_wF (k_wF u 1003 0) 1002 0 = w at *
  have hgn : (z_tx (z_ch n b)).2.1 ≤ n := z_tx_g.1
  obtain ⟨lg1, lg2, lg3⟩ := z_ln_g (b := b) 0 0 (Nat.zero_le n)
  refine z_bind (fun r v => z_fr [1002, 1003] [11] u v ∧ z_wx n b v (z_tx (z_ch n b)).2.1 ∧ (((z_tx (z_ch n b)).1 = true ∧ r = 1 ∧ z_we n b v (z_tx (z_ch n b)).2.1 (z_tx (z_ch n b)).2.2) ∨ ((z_tx (z_ch n b)).1 = false ∧ (r = 0 ∨ (r = 1 ∧ 48 ≤ z_ch n b (z_tx (z_ch n b)).2.1 ∧ z_ch n b (z_tx (z_ch n b)).2.1 ≤ 57))))) ?_ (fun r v hv => ?_)
  · unfold f_Reader_lines
    refine z_bind _ (z_lineW hn (L := []) ⟨hx, hc, Nat.le_refl _⟩) (fun r v hv => ?_)
    obtain ⟨g1, g2, g3⟩ := hv
    have k1 := hf0.tr g1
    unfold z_tx
    by_cases q : (z_ln (z_ch n b) 0).1 = true
    · rw [if_pos q]
      obtain ⟨rfl, g4, g5⟩ := g2 q
      have e1 : z_cls 0 [(z_ln (z_ch n b) 0).2.2] = [] ++ z_l1 ([] : List Int32).length (z_ln (z_ch n b) 0).2.2 := by
        rw [z_cls, z_cls, List.append_nil]; rfl
      have hlen := (lg3 q).2.2.2
      refine z_neg (by decide) (z_bind _ (z_linesW hn 120 0 v _ [(z_ln (z_ch n b) 0).2.2] k_FU rfl (by unfold k_FU; omega) ⟨g4, by rw [e1]; exact g5, by rw [e1, List.nil_append]; exact hlen⟩) (fun y x hx => ?_))
      obtain ⟨p1, p2, p3⟩ := hx
      cases hz : (z_tl (z_ch n b) 120 (z_ln (z_ch n b) 0).2.1 [(z_ln (z_ch n b) 0).2.2]).1 with
      | true =>
        obtain ⟨rfl, p4⟩ := p2 hz
        simp only [k_cs]
        exact k_sat_mk ⟨k1.tr p1, p4.1, Or.inl ⟨by trivial, by trivial, p4⟩⟩
      | false =>
        obtain ⟨p4, rfl | ⟨rfl, p5⟩⟩ := p3 hz
        · simp only [k_cs]
          exact k_sat_mk ⟨k1.tr p1, p4, Or.inr ⟨by trivial, Or.inl (by trivial)⟩⟩
        · simp only [k_cs]
          exact k_sat_mk ⟨k1.tr p1, p4, Or.inr ⟨by trivial, Or.inr ⟨by trivial, p5⟩⟩⟩
    · rw [if_neg q]
      have q' : (z_ln (z_ch n b) 0).1 = false := by cases hq : (z_ln (z_ch n b) 0).1; rfl; exact absurd hq q
      obtain ⟨g4, rfl | ⟨rfl, g5⟩⟩ := g3 q'
      · exact z_pos rfl (k_sat_mk ⟨k1, g4, Or.inr ⟨rfl, Or.inl rfl⟩⟩)
      · refine z_neg (by decide) ?_
        rw [z_FU]
        have hp2 := z_passes g4 (c := 59) (by omega)
        rw [if_neg (by omega)] at hp2
        refine z_bind (fun y x => y = .inr () ∧ x = v) (z_exit ?_) (fun y x hx => ?_)
        · unfold f_Reader_lines_B11
          rw [show f_Reader_passes 59 v = _ from hp2, z_bind_some]
          exact z_neg (by decide) (z_pos rfl (k_sat_mk ⟨_, rfl, rfl, rfl⟩))
        · obtain ⟨rfl, rfl⟩ := hx
          simp only [k_cs]
          exact k_sat_mk ⟨k1, g4, Or.inr ⟨by trivial, Or.inr ⟨by trivial, g5⟩⟩⟩
  · obtain ⟨k1, k2, k3⟩ := hv
    have e1003 : v.1 1003 = J (z_tx (z_ch n b)).2.1 := k2.2.2.2.1
    have e101 : v.1 101 = J n := k2.2.1
    rw [e1003, e101]
    rcases k3 with ⟨q1, rfl, q2⟩ | ⟨q1, q2⟩
    · refine z_neg (by decide) (z_ite (fun c => k_sat_mk ⟨k1, Or.inl ⟨⟨q1, ?_⟩, rfl, q2.2.1, ?_⟩⟩) (fun c => k_sat_mk ⟨k1, Or.inr ⟨fun g => c (by rw [g.2]), rfl⟩⟩))
      · rw [J_inj (by omega) (by omega)] at c
        exact c
      · have := q2.2.2
        omega
    · have hng : ¬ z_good n b := fun g => by
        have := g.1
        rw [q1] at this
        cases this
      rcases q2 with rfl | ⟨rfl, q3⟩
      · exact z_pos rfl (k_sat_mk ⟨k1, Or.inr ⟨hng, rfl⟩⟩)
      · have : (z_tx (z_ch n b)).2.1 < n := z_ch_n (b := b) (by omega)
        refine z_neg (by decide) (z_neg ?_ (k_sat_mk ⟨k1, Or.inr ⟨hng, rfl⟩⟩))
        rw [J_inj (by omega) (by omega)]
        omega
theorem z_takeW {n : Nat} {b : Nat → Nat} {u : k_S} (hn : n ≤ 120) (h1 : u.1 101 = J n) (h2 : ∀ j, j < n → b j ≤ 255 ∧ u.2.1 2 j = J (b j)) : k_sat (f_Law_takeFromTape u) (fun r v => (z_good n b ∧ r = -1 ∧ z_fr [1002, 1003, 703] [11, 8] u v ∧ (z_cls 0 (z_tx (z_ch n b)).2.2).length ≤ 121 ∧ v.1 703 = J (z_cls 0 (z_tx (z_ch n b)).2.2).length ∧ ∀ i s, (z_cls 0 (z_tx (z_ch n b)).2.2)[i]? = some s → v.2.1 8 i = s) ∨ (¬ z_good n b ∧ r = J (z_tx (z_ch n b)).2.1 ∧ z_fr [1002, 1003] [11] u v)) := by
  unfold f_Law_takeFromTape
  refine z_bind _ (z_readW hn h1 h2) (fun r v hv => ?_)
  obtain ⟨k1, ⟨g, rfl, g2, g3⟩ | ⟨g, rfl⟩⟩ := hv
  · generalize z_cls 0 (z_tx (z_ch n b)).2.2 = L at *
    refine z_pos rfl (z_let ?_)
    rw [g2.1]
    have k2 : z_fr [1002, 1003, 703] [11, 8] u (k_wF v 703 (J L.length)) := (k1.mono rfl rfl).tr (z_wF rfl)
    have e703 : (k_wF v 703 (J L.length)).1 703 = J L.length := by simp [k_wF]
    have e11 : (k_wF v 703 (J L.length)).2.1 11 = v.2.1 11 := rfl
    generalize k_wF v 703 (J L.length) = w at *
    refine z_bind _ (z_for 0 L.length (fun i x => z_fr [] [8] w x ∧ ∀ j, j < i → x.2.1 8 j = v.2.1 11 j) (K := fun _ x => z_fr [] [8] w x ∧ ∀ j, j < L.length → x.2.1 8 j = v.2.1 11 j) (by omega) (Nat.zero_le _) ⟨z_fr.rf, fun j hj => by omega⟩ (fun i x _ hi hp => ?_) (fun x hp => ?_)) (fun _ x hx => k_sat_mk (Or.inl ⟨g, rfl, k2.tr (hx.1.mono rfl rfl), g3, (hx.1.1 703 rfl).trans e703, fun i s hs => ?_⟩))
    · obtain ⟨p1, p2⟩ := hp
      unfold f_Law_takeFromTape_B28
      rw [p1.1 703 rfl, e703, z_Reader_stepAt (by omega), z_bind_some]
      refine z_neg (by (try simp (disch := omega) only [Int32.lt_iff_toInt_lt, Int32.le_iff_toInt_le, ← Int32.toInt_inj, Int32.toInt_add, Int32.toInt_sub, Int32.toInt_mul, Int32.toInt_neg, z_bm, z_bm2, J_ti, J_toInt, z_cn, Int32.reduceToInt]) <;> omega) (z_neg (by (try simp (disch := omega) only [Int32.lt_iff_toInt_lt, Int32.le_iff_toInt_le, ← Int32.toInt_inj, Int32.toInt_add, Int32.toInt_sub, Int32.toInt_mul, Int32.toInt_neg, z_bm, z_bm2, J_ti, J_toInt, z_cn, Int32.reduceToInt]) <;> omega) (z_ck (by (try simp (disch := omega) only [Int32.lt_iff_toInt_lt, Int32.le_iff_toInt_le, ← Int32.toInt_inj, Int32.toInt_add, Int32.toInt_sub, Int32.toInt_mul, Int32.toInt_neg, z_bm, z_bm2, J_ti, J_toInt, z_cn, Int32.reduceToInt]) <;> omega) (by (try simp (disch := omega) only [Int32.lt_iff_toInt_lt, Int32.le_iff_toInt_le, ← Int32.toInt_inj, Int32.toInt_add, Int32.toInt_sub, Int32.toInt_mul, Int32.toInt_neg, z_bm, z_bm2, J_ti, J_toInt, z_cn, Int32.reduceToInt]) <;> omega) (z_let (k_sat_mk (Or.inl ⟨rfl, p1.tr (z_wA rfl), fun j hj => ?_⟩)))))
      simp only [k_wA, if_true, z_up, J_toNat (show i < 2147483648 by omega)]
      by_cases e : j = i
      · rw [if_pos e, e, p1.2.1 11 rfl, e11]
      · rw [if_neg e]
        exact p2 j (by omega)
    · unfold f_Law_takeFromTape_B28
      rw [hp.1.1 703 rfl, e703]
      exact z_pos (Int32.le_refl _) (k_sat_mk ⟨_, rfl, hp⟩)
    · have : i < L.length := by
        rcases Nat.lt_or_ge i L.length with x | x
        · exact x
        · rw [List.getElem?_eq_none x] at hs; cases hs
      rw [hx.2 i this]
      exact g2.2 i s hs
  · have := (z_tx_g (n := n) (b := b)).1
    refine z_neg (fun q => ?_) (k_sat_mk (Or.inr ⟨g, rfl, k1⟩))
    have := congrArg Int32.toInt q
    rw [J_toInt (by omega)] at this
    simp at this
