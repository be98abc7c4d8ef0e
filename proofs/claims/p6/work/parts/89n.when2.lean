/-! when, whole: the same way up to the first skip -/
theorem z_os_add (E : z_E) (K : Nat) (s : Int32) (i : Nat) (m : z_Mo) : ∀ j, z_os E K (z_os E K s i m) j (z_or E K i m) = z_os E K s (i + j) m
  | 0 => rfl
  | j + 1 => by
    show (if 0 < K ∧ 0 < E.1 then z_sk E ((z_or E K j (z_or E K i m)).1 + 1, (z_or E K j (z_or E K i m)).2) (z_os E K (z_os E K s i m) j (z_or E K i m)) else z_os E K (z_os E K s i m) j (z_or E K i m)) = (if 0 < K ∧ 0 < E.1 then z_sk E ((z_or E K (i + j) m).1 + 1, (z_or E K (i + j) m).2) (z_os E K s (i + j) m) else z_os E K s (i + j) m)
    rw [z_os_add E K s i m j, z_or_add]
theorem z_os_ag {E : z_E} {m m' : z_Mo} (h : z_ag 1 m m') (s : Int32) : ∀ i, z_os E 1 s i m = z_os E 4 s i m'
  | 0 => rfl
  | i + 1 => by
    have ag := z_or_ag (E := E) (K := 1) (by omega) h i
    show (if 0 < 1 ∧ 0 < E.1 then z_sk E ((z_or E 1 i m).1 + 1, (z_or E 1 i m).2) (z_os E 1 s i m) else z_os E 1 s i m) = (if 0 < 4 ∧ 0 < E.1 then z_sk E ((z_or E 4 i m').1 + 1, (z_or E 4 i m').2) (z_os E 4 s i m') else z_os E 4 s i m')
    rw [z_os_ag h s i]
    by_cases hE : 0 < E.1
    · rw [if_pos ⟨by omega, hE⟩, if_pos ⟨by omega, hE⟩]
      unfold z_sk
      rw [ag.1, (ag.2 0 (by omega)).1]
    · rw [if_neg (fun q => hE q.2), if_neg (fun q => hE q.2)]
/-- the class in thought, i nights on, and what it has seen of skips -/
def z_Wq (E : z_E) (u : k_S) (i : Nat) (v : k_S) : Prop := z_Wt E 1 u i v ∧ v.1 1206 = z_os E 4 (-1) i (z_moR u)
theorem z_Wq_n {E : z_E} {u v : k_S} {i n : Nat} (hE : z_EW E u) (hn : n < 2147483648) (h : z_Wq E u i v) : k_sat (f_Nights_pass_Thought (J n) 1 v) (fun _ v' => z_Wq E u (i + n) v') := by
  obtain ⟨⟨h1, h2, h3⟩, h4⟩ := h
  refine z_mono (z_pass_Thought E n 1 hn (by omega) v (z_EW_f h1 (by decide) hE) h2) (fun _ v' h' => ⟨⟨h1.tr (h'.1.mono rfl rfl), ?_, ?_⟩, ?_⟩)
  · rw [h'.2.1]; exact (z_or_ok h2 n).1
  · rw [h'.2.1, ← z_or_add]; exact z_or_ag (by omega) h3 n
  · rw [h'.2.2, h4, z_os_ag h3, z_os_add]
theorem z_Wq_0 {E : z_E} {u : k_S} (h : z_eW E u) (h0 : 0 < E.1) (e : u.1 1206 = -1) : k_sat (f_Nights_think u) (fun _ v => z_Wq E u 0 v) := by
  obtain ⟨h1, h3, h5⟩ := h
  unfold f_Nights_think
  rw [h1.2.1]
  refine z_bind _ (z_Thought_become_Now E.1 h1.1 u) (fun _ v hv => k_sat_mk ⟨⟨hv.1.mono rfl rfl, ⟨h1.1, fun w hw => ?_⟩, ?_, fun w hw => ?_⟩, ?_⟩)
  · obtain ⟨p, s, a1, a2, a3, a4, a5⟩ := h3.2 w hw
    exact ⟨p, s, a1, a2, a3, ((hv.2.2.1 w hw).1).trans a4, a5⟩
  · exact hv.2.1.trans h5.1
  · exact ⟨((hv.2.2.1 w (by omega)).1).trans (h5.2 w (by omega)).1, ((hv.2.2.1 w (by omega)).2).trans (h5.2 w (by omega)).2⟩
  · rw [hv.1.1 1206 rfl, e]; rfl
/-- the class's first wrong record in one try, with how far it went and what it saw -/
theorem z_firstQ {E : z_E} {u : k_S} {t nr : Nat} {A B f : Nat → Nat} (hE : z_eW E u) (h0 : 0 < E.1) (e12 : u.1 1206 = -1) (ht : t ≤ 1000000) (t1 : u.1 1402 = J t) (hnr : nr ≤ 40) (e20 : u.1 2003 = J nr) (hRC : z_RC 21 22 nr A B u) (hf : ∀ i, i < nr → f i < nr ∧ u.2.1 23 i = J (f i)) (hsu : ∀ r, r < nr → ∃ i, i < nr ∧ f i = r) (hso : ∀ i j, i < j → j < nr → A (f i) ≤ A (f j)) : k_sat (f_Judging_firstWrong 1 u) (fun r v => z_fr [1702, 1206, 704] [18, 19, 9, 13] u v ∧ ∃ d, d ≤ 5000 ∧ v.1 1206 = z_os E 4 (-1) d (z_moR u) ∧ ((r = -2 ∧ (∀ r', r' < nr → ¬ z_bad E u t A B r') ∧ ∀ r', r' < nr → t ≤ A r' → A r' - t ≤ d) ∨ (¬ r = -2 ∧ ∃ r', r' < nr ∧ z_bad E u t A B r' ∧ A r' - t ≤ d))) := by
  have tR : u.1 4209 = J t := by rw [← t1]; exact hE.2.2.1.symm
  unfold f_Judging_firstWrong
  refine z_bind _ (z_Wq_0 hE h0 e12) (fun _ u1 h1 => z_bind _ (z_for2 0 nr (-2) (fun i y v => ∃ d, z_Wq E u d v ∧ d ≤ 5000 ∧ (d = 0 ∨ ∃ i', i' < i ∧ t + d = A (f i')) ∧ y = -2 ∧ (∀ j, j < i → ¬ z_bad E u t A B (f j)) ∧ ∀ j, j < i → t ≤ A (f j) → A (f j) - t ≤ d) (K := fun y v => z_fr [1702, 1206, 704] [18, 19, 9, 13] u v ∧ ∃ d, d ≤ 5000 ∧ v.1 1206 = z_os E 4 (-1) d (z_moR u) ∧ ((y = .inr (-2) ∧ (∀ r', r' < nr → ¬ z_bad E u t A B r') ∧ ∀ r', r' < nr → t ≤ A r' → A r' - t ≤ d) ∨ ∃ r', r' < nr ∧ y = .inl (J r') ∧ z_bad E u t A B r' ∧ A r' - t ≤ d)) (by omega) (Nat.zero_le nr) ⟨0, h1, by omega, Or.inl rfl, rfl, fun j hj => by omega, fun j hj => by omega⟩ (fun i y v _ hi hp => ?_) (fun y v hp => ?_)) (fun y v hv => ?_))
  · obtain ⟨d, g1, gd, g2, g3, g4, g5⟩ := hp
    have g1f : z_fr [1702, 1206, 704] [18, 19, 9, 13] u v := g1.1.1
    have hnight : v.1 1702 = J (t + d) := by
      have : v.1 1702 = (z_or E 4 d (z_moR u)).1 := g1.1.2.2.1
      rw [this]
      have key : ∀ j, (z_or E 4 j (z_moR u)).1 = J t + J j := by
        intro j
        induction j with
        | zero => show u.1 4209 = _; rw [tR, J_0, Int32.add_zero]
        | succ j ih => show (z_nx E 4 (z_or E 4 j (z_moR u))).1 = _; rw [show (z_nx E 4 (z_or E 4 j (z_moR u))).1 = (z_or E 4 j (z_moR u)).1 + 1 from (z_pu_lo E 4 0 _).1, ih, Int32.add_assoc, z_Jp]
      rw [key, J_add]
    obtain ⟨hfi, e23⟩ := hf i hi
    obtain ⟨r1, r2, r3, r4⟩ := hRC (f i) hfi
    have e2003 : v.1 2003 = J nr := (g1f.1 2003 rfl).trans e20
    unfold f_Judging_firstWrong_B21
    dsimp only
    refine z_neg (by rw [e2003]; (try simp (disch := omega) only [Int32.lt_iff_toInt_lt, Int32.le_iff_toInt_le, ← Int32.toInt_inj, Int32.toInt_add, Int32.toInt_sub, Int32.toInt_mul, Int32.toInt_neg, z_bm, z_bm2, J_ti, J_toInt, z_cn, Int32.reduceToInt]) <;> omega) ?_
    rw [z_Records_inOrder (by omega), z_bind_some, g1f.2.1 23 rfl, e23, z_Records_nightOf (by omega), z_bind_some, g1f.2.1 21 rfl, r3, hnight]
    by_cases hle : t + d ≤ A (f i)
    · refine z_pos (by (try simp (disch := omega) only [Int32.lt_iff_toInt_lt, Int32.le_iff_toInt_le, ← Int32.toInt_inj, Int32.toInt_add, Int32.toInt_sub, Int32.toInt_mul, Int32.toInt_neg, z_bm, z_bm2, J_ti, J_toInt, z_cn, Int32.reduceToInt]) <;> omega) ?_
      rw [J_sub hle]
      refine z_bind _ (z_Wq_n hE.1 (by omega) g1) (fun _ v' hv' => ?_)
      rw [show d + (A (f i) - (t + d)) = A (f i) - t by omega] at hv'
      have hvf : z_fr [1702, 1206, 704] [18, 19, 9, 13] u v' := hv'.1.1
      rw [show (0 : Int32) = J 0 from rfl, z_Wt_p hv'.1 (by omega) (by omega), z_bind_some, z_Records_placeOf (by omega), z_bind_some, hvf.2.1 22 rfl, r4]
      refine z_ite (fun q => k_sat_mk (Or.inl ⟨_, rfl, A (f i) - t, hv', by omega, Or.inr ⟨i, by omega, by omega⟩, g3, fun j hj => ?_, fun j hj hj2 => ?_⟩)) (fun q => ?_)
      · by_cases e : j = i
        · subst e; exact fun b1 => b1.2 q
        · exact g4 j (by omega)
      · by_cases e : j = i
        · subst e; omega
        · have := g5 j (by omega) hj2
          omega
      · have hb : z_bad E u t A B (f i) := ⟨by omega, q⟩
        rw [show J 0 = (0 : Int32) from rfl]
        exact z_neg (by decide) (k_sat_mk (Or.inr ⟨_, rfl, hvf, A (f i) - t, by omega, hv'.2, Or.inr ⟨f i, hfi, rfl, hb, Nat.le_refl _⟩⟩))
    · have hd0 : d = 0 := by
        rcases g2 with g2 | ⟨i', a, b⟩
        · exact g2
        · have := hso i' i a hi; omega
      refine z_neg (by (try simp (disch := omega) only [Int32.lt_iff_toInt_lt, Int32.le_iff_toInt_le, ← Int32.toInt_inj, Int32.toInt_add, Int32.toInt_sub, Int32.toInt_mul, Int32.toInt_neg, z_bm, z_bm2, J_ti, J_toInt, z_cn, Int32.reduceToInt]) <;> omega) (k_sat_mk (Or.inl ⟨_, rfl, d, g1, gd, Or.inl hd0, g3, fun j hj => ?_, fun j hj hj2 => ?_⟩))
      · by_cases e : j = i
        · subst e; exact fun b1 => by have := b1.1; omega
        · exact g4 j (by omega)
      · by_cases e : j = i
        · subst e; omega
        · exact g5 j (by omega) hj2
  · obtain ⟨d, g1, gd, g2, g3, g4, g5⟩ := hp
    have g1f : z_fr [1702, 1206, 704] [18, 19, 9, 13] u v := g1.1.1
    have e2003 : v.1 2003 = J nr := (g1f.1 2003 rfl).trans e20
    unfold f_Judging_firstWrong_B21
    dsimp only
    refine z_pos (by rw [e2003]; exact Int32.le_refl _) (k_sat_mk ⟨_, rfl, g1f, d, gd, g1.2, Or.inl ⟨by rw [g3], fun r' hr' => ?_, fun r' hr' => ?_⟩⟩)
    · obtain ⟨i, a, rfl⟩ := hsu r' hr'
      exact g4 i a
    · obtain ⟨i, a, rfl⟩ := hsu r' hr'
      exact g5 i a
  · obtain ⟨g1, d, gd, g2, ⟨rfl, g3, g4⟩ | ⟨r', a1, rfl, a2, a3⟩⟩ := hv
    · exact k_sat_mk ⟨g1, d, gd, g2, Or.inl ⟨rfl, g3, g4⟩⟩
    · exact k_sat_mk ⟨g1, d, gd, g2, Or.inr ⟨by (try simp (disch := omega) only [Int32.lt_iff_toInt_lt, Int32.le_iff_toInt_le, ← Int32.toInt_inj, Int32.toInt_add, Int32.toInt_sub, Int32.toInt_mul, Int32.toInt_neg, z_bm, z_bm2, J_ti, J_toInt, z_cn, Int32.reduceToInt]) <;> omega, r', a1, a2, a3⟩⟩
