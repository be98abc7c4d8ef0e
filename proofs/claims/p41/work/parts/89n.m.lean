/-! when, whole: the same way up to the first skip -/
theorem z_os_add (E : z_E) (K : Nat) (s : Int32) (i : Nat) (m : z_Mo) : ∀ j, z_os E K (z_os E K s i m) j (z_or E K i m) = z_os E K s (i + j) m
  | 0 => rfl
  | j + 1 => by
    show (if 0 < K ∧ 0 < E.1 then z_sk E ((z_or E K j (z_or E K i m)).1 + 1, (z_or E K j (z_or E K i m)).2) (z_os E K (z_os E K s i m) j (z_or E K i m)) else z_os E K (z_os E K s i m) j (z_or E K i m)) = (if 0 < K ∧ 0 < E.1 then z_sk E ((z_or E K (i + j) m).1 + 1, (z_or E K (i + j) m).2) (z_os E K s (i + j) m) else z_os E K s (i + j) m)
    rw [z_os_add E K s i m j, z_or_add]
theorem z_os_ag {E : z_E} {m m' : z_Mo} (h : z_ag 1 m m') (s : Int32) : ∀ i, z_os E 1 s i m = z_os E 4 s i m'
  | 0 => rfl
  | i + 1 => by
    have ag := z_or_ag (E := E) (K := 1) (by omega) h i
    show (if 0 < 1 ∧ 0 < E.1 then z_sk E ((z_or E 1 i m).1 + 1, (z_or E 1 i m).2) (z_os E 1 s i m) else z_os E 1 s i m) = (if 0 < 4 ∧ 0 < E.1 then z_sk E ((z_or E 4 i m').1 + 1, (z_or E 4 i m').2) (z_os E 4 s i m') else z_os E 4 s i m')
    rw [z_os_ag h s i]
    by_cases hE : 0 < E.1
    · rw [if_pos ⟨by omega, hE⟩, if_pos ⟨by omega, hE⟩]
      unfold z_sk
      rw [ag.1, (ag.2 0 (by omega)).1]
    · rw [if_neg (fun q => hE q.2), if_neg (fun q => hE q.2)]
/-- the class in thought, i nights on, and what it has seen of skips -/
def z_Wq (E : z_E) (u : k_S) (i : Nat) (v : k_S) : Prop := z_Wt E 1 u i v ∧ v.1 1206 = z_os E 4 (-1) i (z_moR u)
theorem z_Wq_n {E : z_E} {u v : k_S} {i n : Nat} (hE : z_EW E u) (hn : n < 2147483648) (h : z_Wq E u i v) : k_sat (f_Nights_pass_Thought (J n) 1 v) (fun _ v' => z_Wq E u (i + n) v') := by
  obtain ⟨⟨h1, h2, h3⟩, h4⟩ := h
  refine z_mono (z_pass_Thought E n 1 hn (by omega) v (z_EW_f h1 (by decide) hE) h2) (fun _ v' h' => ⟨⟨h1.tr (h'.1.mono rfl rfl), ?_, ?_⟩, ?_⟩)
  · rw [h'.2.1]; exact (z_or_ok h2 n).1
  · rw [h'.2.1, ← z_or_add]; exact z_or_ag (by omega) h3 n
  · rw [h'.2.2, h4, z_os_ag h3, z_os_add]
theorem z_Wq_0 {E : z_E} {u : k_S} (h : z_eW E u) (h0 : 0 < E.1) (e : u.1 1206 = -1) : k_sat (f_Nights_think u) (fun _ v => z_Wq E u 0 v) := by
  obtain ⟨h1, h3, h5⟩ := h
  unfold f_Nights_think
  rw [h1.2.1]
  refine z_bind _ (z_Thought_become_Now E.1 h1.1 u) (fun _ v hv => k_sat_mk ⟨⟨hv.1.mono rfl rfl, ⟨h1.1, fun w hw => ?_⟩, ?_, fun w hw => ?_⟩, ?_⟩)
  · obtain ⟨p, s, a1, a2, a3, a4, a5⟩ := h3.2 w hw
    exact ⟨p, s, a1, a2, a3, ((hv.2.2.1 w hw).1).trans a4, a5⟩
  · exact hv.2.1.trans h5.1
  · exact ⟨((hv.2.2.1 w (by omega)).1).trans (h5.2 w (by omega)).1, ((hv.2.2.1 w (by omega)).2).trans (h5.2 w (by omega)).2⟩
  · rw [hv.1.1 1206 rfl, e]; rfl
/-- the class's first wrong record in one try, with how far it went and what it saw -/
theorem z_firstQ {E : z_E} {u : k_S} {t nr : Nat} {A B f : Nat → Nat} (hE : z_eW E u) (h0 : 0 < E.1) (e12 : u.1 1206 = -1) (ht : t ≤ 1000000) (t1 : u.1 1402 = J t) (hnr : nr ≤ 40) (e20 : u.1 2003 = J nr) (hRC : z_RC 21 22 nr A B u) (hf : ∀ i, i < nr → f i < nr ∧ u.2.1 23 i = J (f i)) (hsu : ∀ r, r < nr → ∃ i, i < nr ∧ f i = r) (hso : ∀ i j, i < j → j < nr → A (f i) ≤ A (f j)) : k_sat (f_Judging_firstWrong 1 u) (fun r v => z_fr [1702, 1206, 704] [18, 19, 9, 13] u v ∧ ∃ d, d ≤ 5000 ∧ v.1 1206 = z_os E 4 (-1) d (z_moR u) ∧ ((r = -2 ∧ (∀ r', r' < nr → ¬ z_bad E u t A B r') ∧ ∀ r', r' < nr → t ≤ A r' → A r' - t ≤ d) ∨ (¬ r = -2 ∧ ∃ r', r' < nr ∧ z_bad E u t A B r' ∧ A r' - t ≤ d))) := by
  have tR : u.1 4209 = J t := by rw [← t1]; exact hE.2.2.1.symm
  unfold f_Judging_firstWrong
  refine z_bind _ (z_Wq_0 hE h0 e12) (fun _ u1 h1 => z_bind _ (z_for2 0 nr (-2) (fun i y v => ∃ d, z_Wq E u d v ∧ d ≤ 5000 ∧ (d = 0 ∨ ∃ i', i' < i ∧ t + d = A (f i')) ∧ y = -2 ∧ (∀ j, j < i → ¬ z_bad E u t A B (f j)) ∧ ∀ j, j < i → t ≤ A (f j) → A (f j) - t ≤ d) (K := fun y v => z_fr [1702, 1206, 704] [18, 19, 9, 13] u v ∧ ∃ d, d ≤ 5000 ∧ v.1 1206 = z_os E 4 (-1) d (z_moR u) ∧ ((y = .inr (-2) ∧ (∀ r', r' < nr → ¬ z_bad E u t A B r') ∧ ∀ r', r' < nr → t ≤ A r' → A r' - t ≤ d) ∨ ∃ r', r' < nr ∧ y = .inl (J r') ∧ z_bad E u t A B r' ∧ A r' - t ≤ d)) (by omega) (Nat.zero_le nr) ⟨0, h1, by omega, Or.inl rfl, rfl, fun j hj => by omega, fun j hj => by omega⟩ (fun i y v _ hi hp => ?_) (fun y v hp => ?_)) (fun y v hv => ?_))
  · obtain ⟨d, g1, gd, g2, g3, g4, g5⟩ := hp
    have g1f : z_fr [1702, 1206, 704] [18, 19, 9, 13] u v := g1.1.1
    have hnight : v.1 1702 = J (t + d) := by
      have : v.1 1702 = (z_or E 4 d (z_moR u)).1 := g1.1.2.2.1
      rw [this]
      have key : ∀ j, (z_or E 4 j (z_moR u)).1 = J t + J j := by
        intro j
        induction j with
        | zero => show u.1 4209 = _; rw [tR, J_0, Int32.add_zero]
        | succ j ih => show (z_nx E 4 (z_or E 4 j (z_moR u))).1 = _; rw [show (z_nx E 4 (z_or E 4 j (z_moR u))).1 = (z_or E 4 j (z_moR u)).1 + 1 from (z_pu_lo E 4 0 _).1, ih, Int32.add_assoc, z_Jp]
      rw [key, J_add]
    obtain ⟨hfi, e23⟩ := hf i hi
    obtain ⟨r1, r2, r3, r4⟩ := hRC (f i) hfi
    have e2003 : v.1 2003 = J nr := (g1f.1 2003 rfl).trans e20
    unfold f_Judging_firstWrong_B21
    dsimp only
    refine z_neg (by rw [e2003]; (try simp (disch := omega) only [Int32.lt_iff_toInt_lt, Int32.le_iff_toInt_le, ← Int32.toInt_inj, Int32.toInt_add, Int32.toInt_sub, Int32.toInt_mul, Int32.toInt_neg, z_bm, z_bm2, J_ti, J_toInt, z_cn, Int32.reduceToInt]) <;> omega) ?_
    rw [z_Records_inOrder (by omega), z_bind_some, g1f.2.1 23 rfl, e23, z_Records_nightOf (by omega), z_bind_some, g1f.2.1 21 rfl, r3, hnight]
    by_cases hle : t + d ≤ A (f i)
    · refine z_pos (by (try simp (disch := omega) only [Int32.lt_iff_toInt_lt, Int32.le_iff_toInt_le, ← Int32.toInt_inj, Int32.toInt_add, Int32.toInt_sub, Int32.toInt_mul, Int32.toInt_neg, z_bm, z_bm2, J_ti, J_toInt, z_cn, Int32.reduceToInt]) <;> omega) ?_
      rw [J_sub hle]
      refine z_bind _ (z_Wq_n hE.1 (by omega) g1) (fun _ v' hv' => ?_)
      rw [show d + (A (f i) - (t + d)) = A (f i) - t by omega] at hv'
      have hvf : z_fr [1702, 1206, 704] [18, 19, 9, 13] u v' := hv'.1.1
      rw [show (0 : Int32) = J 0 from rfl, z_Wt_p hv'.1 (by omega) (by omega), z_bind_some, z_Records_placeOf (by omega), z_bind_some, hvf.2.1 22 rfl, r4]
      refine z_ite (fun q => k_sat_mk (Or.inl ⟨_, rfl, A (f i) - t, hv', by omega, Or.inr ⟨i, by omega, by omega⟩, g3, fun j hj => ?_, fun j hj hj2 => ?_⟩)) (fun q => ?_)
      · by_cases e : j = i
        · subst e; exact fun b1 => b1.2 q
        · exact g4 j (by omega)
      · by_cases e : j = i
        · subst e; omega
        · have := g5 j (by omega) hj2
          omega
      · have hb : z_bad E u t A B (f i) := ⟨by omega, q⟩
        rw [show J 0 = (0 : Int32) from rfl]
        exact z_neg (by decide) (k_sat_mk (Or.inr ⟨_, rfl, hvf, A (f i) - t, by omega, hv'.2, Or.inr ⟨f i, hfi, rfl, hb, Nat.le_refl _⟩⟩))
    · have hd0 : d = 0 := by
        rcases g2 with g2 | ⟨i', a, b⟩
        · exact g2
        · have := hso i' i a hi; omega
      refine z_neg (by (try simp (disch := omega) only [Int32.lt_iff_toInt_lt, Int32.le_iff_toInt_le, ← Int32.toInt_inj, Int32.toInt_add, Int32.toInt_sub, Int32.toInt_mul, Int32.toInt_neg, z_bm, z_bm2, J_ti, J_toInt, z_cn, Int32.reduceToInt]) <;> omega) (k_sat_mk (Or.inl ⟨_, rfl, d, g1, gd, Or.inl hd0, g3, fun j hj => ?_, fun j hj hj2 => ?_⟩))
      · by_cases e : j = i
        · subst e; exact fun b1 => by have := b1.1; omega
        · exact g4 j (by omega)
      · by_cases e : j = i
        · subst e; omega
        · exact g5 j (by omega) hj2
  · obtain ⟨d, g1, gd, g2, g3, g4, g5⟩ := hp
    have g1f : z_fr [1702, 1206, 704] [18, 19, 9, 13] u v := g1.1.1
    have e2003 : v.1 2003 = J nr := (g1f.1 2003 rfl).trans e20
    unfold f_Judging_firstWrong_B21
    dsimp only
    refine z_pos (by rw [e2003]; exact Int32.le_refl _) (k_sat_mk ⟨_, rfl, g1f, d, gd, g1.2, Or.inl ⟨by rw [g3], fun r' hr' => ?_, fun r' hr' => ?_⟩⟩)
    · obtain ⟨i, a, rfl⟩ := hsu r' hr'
      exact g4 i a
    · obtain ⟨i, a, rfl⟩ := hsu r' hr'
      exact g5 i a
  · obtain ⟨g1, d, gd, g2, ⟨rfl, g3, g4⟩ | ⟨r', a1, rfl, a2, a3⟩⟩ := hv
    · exact k_sat_mk ⟨g1, d, gd, g2, Or.inl ⟨rfl, g3, g4⟩⟩
    · exact k_sat_mk ⟨g1, d, gd, g2, Or.inr ⟨by (try simp (disch := omega) only [Int32.lt_iff_toInt_lt, Int32.le_iff_toInt_le, ← Int32.toInt_inj, Int32.toInt_add, Int32.toInt_sub, Int32.toInt_mul, Int32.toInt_neg, z_bm, z_bm2, J_ti, J_toInt, z_cn, Int32.reduceToInt]) <;> omega, r', a1, a2, a3⟩⟩
/-! when: breaks that go the same way -/
theorem z_sp_b (E : z_E) (l l' t p v : Int32) (w : Nat) (hw : 1 ≤ w) : z_sp (z_Eb E l) t p v w = z_sp (z_Eb E l') t p v w := by
  have e : ∀ x : Int32, (z_Eb E x).2.2.2.1 w = E.2.2.2.1 w := fun x => by
    show upd E.2.2.2.1 0 x w = _
    rw [z_up, if_neg (by omega)]
  unfold z_sp
  rw [e l, e l']
  rfl
theorem z_pu_b (E : z_E) (l l' : Int32) : ∀ (k w : Nat) (m : z_Mo), 1 ≤ w → z_pu (z_Eb E l) k w m = z_pu (z_Eb E l') k w m
  | 0, w, m, _ => rfl
  | k + 1, w, m, hw => by
    rw [z_pu, z_pu, z_sp_b E l l' _ _ _ w hw]
    have e : ∀ x : Int32, (z_Eb E x).1 = E.1 ∧ (z_Eb E x).2.2.1 = E.2.2.1 := fun x => ⟨rfl, rfl⟩
    rw [(e l).1, (e l').1, (e l).2, (e l').2]
    by_cases h1 : E.1 ≤ w
    · rw [if_pos h1, if_pos h1]
    · rw [if_neg h1, if_neg h1]
      split
      · rfl
      · exact z_pu_b E l l' k (w + 1) _ (by omega)
theorem z_pu_b0 (E : z_E) (l l' : Int32) (k : Nat) (m : z_Mo) (h : z_sp (z_Eb E l) m.1 (m.2.1 0) (m.2.2 0) 0 = z_sp (z_Eb E l') m.1 (m.2.1 0) (m.2.2 0) 0) : z_pu (z_Eb E l) (k + 1) 0 m = z_pu (z_Eb E l') (k + 1) 0 m := by
  rw [z_pu, z_pu, h]
  have e : ∀ x : Int32, (z_Eb E x).1 = E.1 ∧ (z_Eb E x).2.2.1 = E.2.2.1 := fun x => ⟨rfl, rfl⟩
  rw [(e l).1, (e l').1, (e l).2, (e l').2]
  by_cases h1 : E.1 ≤ 0
  · rw [if_pos h1, if_pos h1]
  · rw [if_neg h1, if_neg h1]
    split
    · rfl
    · exact z_pu_b E l l' k (0 + 1) _ (by omega)
theorem z_nx_b (E : z_E) (l l' : Int32) (m : z_Mo) (h : z_sp (z_Eb E l) (m.1 + 1) (m.2.1 0) (m.2.2 0) 0 = z_sp (z_Eb E l') (m.1 + 1) (m.2.1 0) (m.2.2 0) 0) : z_nx (z_Eb E l) 4 m = z_nx (z_Eb E l') 4 m := z_pu_b0 E l l' 3 (m.1 + 1, m.2) h
/-- what is seen of skips: nothing, or a night gone by; once seen it stays -/
theorem z_os_v {E : z_E} {m : z_Mo} {t : Nat} (hok : z_ok E m) (hm : m.1 = J t) : ∀ i, z_os E 4 (-1) i m = -1 ∨ ∃ k, 1 ≤ k ∧ k ≤ i ∧ z_os E 4 (-1) i m = J (t + k)
  | 0 => Or.inl rfl
  | i + 1 => by
    have ih := z_os_v hok hm i
    have h1 : (z_or E 4 i m).1 + 1 = J (t + (i + 1)) := by
      rw [(z_or_ok (K := 4) hok i).2, hm, J_add, z_Jp]; rfl
    show (if 0 < 4 ∧ 0 < E.1 then z_sk E ((z_or E 4 i m).1 + 1, (z_or E 4 i m).2) (z_os E 4 (-1) i m) else z_os E 4 (-1) i m) = -1 ∨ ∃ k, 1 ≤ k ∧ k ≤ i + 1 ∧ (if 0 < 4 ∧ 0 < E.1 then z_sk E ((z_or E 4 i m).1 + 1, (z_or E 4 i m).2) (z_os E 4 (-1) i m) else z_os E 4 (-1) i m) = J (t + k)
    have ih' : z_os E 4 (-1) i m = -1 ∨ ∃ k, 1 ≤ k ∧ k ≤ i + 1 ∧ z_os E 4 (-1) i m = J (t + k) := by
      rcases ih with ih | ⟨k, a, b, c⟩
      · exact Or.inl ih
      · exact Or.inr ⟨k, a, by omega, c⟩
    split
    · unfold z_sk
      split
      · exact Or.inr ⟨i + 1, by omega, by omega, h1⟩
      · exact ih'
    · exact ih'
theorem z_os_st {E : z_E} {m : z_Mo} {i : Nat} (h : ¬ z_os E 4 (-1) i m = -1) : ∀ j, z_os E 4 (-1) (i + j) m = z_os E 4 (-1) i m
  | 0 => rfl
  | j + 1 => by
    show (if 0 < 4 ∧ 0 < E.1 then z_sk E ((z_or E 4 (i + j) m).1 + 1, (z_or E 4 (i + j) m).2) (z_os E 4 (-1) (i + j) m) else z_os E 4 (-1) (i + j) m) = _
    rw [z_os_st h j]
    split
    · unfold z_sk
      rw [if_neg (fun q => h q.2.2)]
    · rfl
theorem z_same {E : z_E} {m : z_Mo} {t b b' d : Nat} (hok : z_ok E m) (h0 : 0 < E.1) (hm : m.1 = J t) (ht : t ≤ 1000000) (hd : d ≤ 5000) (hb : b ≤ b') (hb' : b' ≤ 400) (hs : z_os (z_Eb E (J b)) 4 (-1) d m = -1 ∨ J b' ≤ z_os (z_Eb E (J b)) 4 (-1) d m) : ∀ i, i ≤ d → z_or (z_Eb E (J b')) 4 i m = z_or (z_Eb E (J b)) 4 i m
  | 0, _ => rfl
  | i + 1, hi => by
    have ih := z_same hok h0 hm ht hd hb hb' hs i (by omega)
    show z_nx (z_Eb E (J b')) 4 (z_or (z_Eb E (J b')) 4 i m) = z_nx (z_Eb E (J b)) 4 (z_or (z_Eb E (J b)) 4 i m)
    rw [ih]
    have hokb : z_ok (z_Eb E (J b)) m := z_ok_b hok
    have h1 : (z_or (z_Eb E (J b)) 4 i m).1 + 1 = J (t + (i + 1)) := by
      rw [(z_or_ok (K := 4) hokb i).2, hm, J_add, z_Jp]; rfl
    refine z_nx_b E _ _ _ ?_
    generalize hM : z_or (z_Eb E (J b)) 4 i m = M at *
    have eb : ∀ x : Int32, (z_Eb E x).2.2.2.1 0 = x := fun x => by
      show upd E.2.2.2.1 0 x 0 = _
      rw [z_up, if_pos rfl]
    unfold z_sp
    rw [eb, eb]
    by_cases hl : E.2.1 (40 * 0 + (M.2.1 0).toNatClampNeg) = 98
    · rw [if_pos (show (z_Eb E (J b')).2.1 (40 * 0 + (M.2.1 0).toNatClampNeg) = 98 from hl), if_pos (show (z_Eb E (J b)).2.1 (40 * 0 + (M.2.1 0).toNatClampNeg) = 98 from hl), h1]
      by_cases c1 : b' ≤ t + (i + 1)
      · rw [if_pos (show J b' ≤ J (t + (i + 1)) by (try simp (disch := omega) only [Int32.lt_iff_toInt_lt, Int32.le_iff_toInt_le, ← Int32.toInt_inj, Int32.toInt_add, Int32.toInt_sub, Int32.toInt_mul, Int32.toInt_neg, z_bm, z_bm2, J_ti, J_toInt, z_cn, Int32.reduceToInt]) <;> omega), if_pos (show J b ≤ J (t + (i + 1)) by (try simp (disch := omega) only [Int32.lt_iff_toInt_lt, Int32.le_iff_toInt_le, ← Int32.toInt_inj, Int32.toInt_add, Int32.toInt_sub, Int32.toInt_mul, Int32.toInt_neg, z_bm, z_bm2, J_ti, J_toInt, z_cn, Int32.reduceToInt]) <;> omega)]
      · by_cases c2 : b ≤ t + (i + 1)
        · exfalso
          have hstep : ¬ z_os (z_Eb E (J b)) 4 (-1) (i + 1) m = -1 := by
            show ¬ (if 0 < 4 ∧ 0 < (z_Eb E (J b)).1 then z_sk (z_Eb E (J b)) ((z_or (z_Eb E (J b)) 4 i m).1 + 1, (z_or (z_Eb E (J b)) 4 i m).2) (z_os (z_Eb E (J b)) 4 (-1) i m) else z_os (z_Eb E (J b)) 4 (-1) i m) = -1
            rw [if_pos ⟨by omega, h0⟩, hM]
            unfold z_sk
            by_cases c3 : z_os (z_Eb E (J b)) 4 (-1) i m = -1
            · rw [if_pos]
              · rw [h1]
                intro q
                have := congrArg Int32.toInt q
                rw [J_toInt (by omega)] at this
                simp at this
                omega
              · refine ⟨?_, ?_, c3⟩
                · rw [Nat.mul_zero, Nat.zero_add] at hl
                  exact hl
                · show upd E.2.2.2.1 0 (J b) 0 ≤ M.1 + 1
                  rw [z_up, if_pos rfl, h1]
                  (try simp (disch := omega) only [Int32.lt_iff_toInt_lt, Int32.le_iff_toInt_le, ← Int32.toInt_inj, Int32.toInt_add, Int32.toInt_sub, Int32.toInt_mul, Int32.toInt_neg, z_bm, z_bm2, J_ti, J_toInt, z_cn, Int32.reduceToInt]) <;> omega
            · rw [if_neg (fun q => c3 q.2.2)]
              exact c3
          have hst := z_os_st hstep (d - (i + 1))
          rw [show i + 1 + (d - (i + 1)) = d by omega] at hst
          rw [hst] at hs
          rcases z_os_v hokb hm (i + 1) with q | ⟨k, k1, k2, k3⟩
          · exact hstep q
          · rcases hs with q | q
            · exact hstep q
            · rw [k3] at q
              have : b' ≤ t + k := by ((try simp (disch := omega) only [Int32.lt_iff_toInt_lt, Int32.le_iff_toInt_le, ← Int32.toInt_inj, Int32.toInt_add, Int32.toInt_sub, Int32.toInt_mul, Int32.toInt_neg, z_bm, z_bm2, J_ti, J_toInt, z_cn, Int32.reduceToInt] at *); omega)
              omega
        · rw [if_neg (show ¬ J b' ≤ J (t + (i + 1)) by (try simp (disch := omega) only [Int32.lt_iff_toInt_lt, Int32.le_iff_toInt_le, ← Int32.toInt_inj, Int32.toInt_add, Int32.toInt_sub, Int32.toInt_mul, Int32.toInt_neg, z_bm, z_bm2, J_ti, J_toInt, z_cn, Int32.reduceToInt]) <;> omega), if_neg (show ¬ J b ≤ J (t + (i + 1)) by (try simp (disch := omega) only [Int32.lt_iff_toInt_lt, Int32.le_iff_toInt_le, ← Int32.toInt_inj, Int32.toInt_add, Int32.toInt_sub, Int32.toInt_mul, Int32.toInt_neg, z_bm, z_bm2, J_ti, J_toInt, z_cn, Int32.reduceToInt]) <;> omega)]
    · rw [if_neg (show ¬ (z_Eb E (J b')).2.1 (40 * 0 + (M.2.1 0).toNatClampNeg) = 98 from hl), if_neg (show ¬ (z_Eb E (J b)).2.1 (40 * 0 + (M.2.1 0).toNatClampNeg) = 98 from hl)]
      rfl
/-- all records fit when it broke in night b -/
def z_gbr (E : z_E) (u : k_S) (t nr : Nat) (A B : Nat → Nat) (b : Nat) : Bool := decide (∀ r, r < nr → ¬ (t ≤ A r ∧ ¬ z_pl (z_Eb E (J b)) u 0 (A r - t) = J (B r)))
theorem z_gbr_m {E : z_E} {u v : k_S} (h : z_moR v = z_moR u) {t nr : Nat} {A B : Nat → Nat} : z_gbr E v t nr A B = z_gbr E u t nr A B := by
  funext b
  unfold z_gbr
  simp only [z_pl_m h]
theorem z_gbr_same {E : z_E} {u : k_S} {t nr b b' d : Nat} {A B : Nat → Nat} (hok : z_ok E (z_moR u)) (h0 : 0 < E.1) (hm : (z_moR u).1 = J t) (ht : t ≤ 1000000) (hd : d ≤ 5000) (hb : b ≤ b') (hb' : b' ≤ 400) (hs : z_os (z_Eb E (J b)) 4 (-1) d (z_moR u) = -1 ∨ J b' ≤ z_os (z_Eb E (J b)) 4 (-1) d (z_moR u)) (hr : ((∀ r, r < nr → ¬ z_bad (z_Eb E (J b)) u t A B r) ∧ ∀ r, r < nr → t ≤ A r → A r - t ≤ d) ∨ ∃ r, r < nr ∧ z_bad (z_Eb E (J b)) u t A B r ∧ A r - t ≤ d) : z_gbr E u t nr A B b' = z_gbr E u t nr A B b := by
  have key : ∀ i, i ≤ d → z_pl (z_Eb E (J b')) u 0 i = z_pl (z_Eb E (J b)) u 0 i := fun i hi => by
    unfold z_pl
    rw [z_same hok h0 hm ht hd hb hb' hs i hi]
  unfold z_gbr
  rcases hr with ⟨h1, h2⟩ | ⟨r, h1, h2, h3⟩
  · rw [decide_eq_true, decide_eq_true]
    · exact fun r hr q => h1 r hr q
    · intro r hr q
      rw [key _ (h2 r hr q.1)] at q
      exact h1 r hr q
  · rw [decide_eq_false, decide_eq_false]
    · exact fun q => q r h1 h2
    · intro q
      refine q r h1 ⟨h2.1, ?_⟩
      rw [key _ h3]
      exact h2.2
def z_wn1 (G : Nat → Bool) : Nat → Int32
  | 0 => -2
  | n + 1 => if G n = true then (if z_wn1 G n = -2 then J n else z_wn1 G n) else z_wn1 G n
def z_wn2 (G : Nat → Bool) : Nat → Int32
  | 0 => -2
  | n + 1 => if G n = true then J n else z_wn2 G n
def z_wn3 (G : Nat → Bool) : Nat → Int32
  | 0 => 0
  | n + 1 => if G n = true then z_wn3 G n + 1 else z_wn3 G n
theorem z_wn1_v (G : Nat → Bool) : ∀ n, z_wn1 G n = -2 ∨ ∃ k, k < n ∧ z_wn1 G n = J k
  | 0 => Or.inl rfl
  | n + 1 => by
    rw [z_wn1]
    rcases z_wn1_v G n with q | ⟨k, a, b⟩
    · rw [q, if_pos rfl]
      split
      · exact Or.inr ⟨n, by omega, rfl⟩
      · exact Or.inl rfl
    · rw [b]
      split
      · split
        · exact Or.inr ⟨n, by omega, rfl⟩
        · exact Or.inr ⟨k, by omega, rfl⟩
      · exact Or.inr ⟨k, by omega, rfl⟩
def z_tV (u v : k_S) (G : Nat → Bool) (n : Nat) : Prop := z_tW u v ∧ v.1 2405 = z_wn1 G n ∧ v.1 2406 = z_wn2 G n ∧ v.1 2407 = z_wn3 G n
theorem z_u106 {u v : k_S} {G : Nat → Bool} {n : Nat} (h : z_tV u v G n) (v1 v2 v3 : Int32) (h2 : (v2 = 1 ∧ G n = true) ∨ (v2 = 0 ∧ G n = false)) : k_sat (f_Judging_tryBreaks_J106 v1 v2 v3 (J n) v) (fun z v' => z = .inl (v2, v3, J n + Int32.ofInt 1) ∧ z_tV u v' G (n + 1)) := by
  obtain ⟨h1, h3, h4, h5⟩ := h
  unfold f_Judging_tryBreaks_J106
  rcases h2 with ⟨rfl, hG⟩ | ⟨rfl, hG⟩
  · have e1 : z_wn1 G (n + 1) = if z_wn1 G n = -2 then J n else z_wn1 G n := by rw [z_wn1, if_pos hG]
    have e2 : z_wn2 G (n + 1) = J n := by rw [z_wn2, if_pos hG]
    have e3 : z_wn3 G (n + 1) = z_wn3 G n + 1 := by rw [z_wn3, if_pos hG]
    have fin : ∀ w, z_tW u w → w.1 2405 = z_wn1 G (n + 1) → w.1 2407 = z_wn3 G n → k_sat (f_Judging_tryBreaks_J128 v1 1 v3 (J n) w) (fun z v' => z = .inl (1, v3, J n + Int32.ofInt 1) ∧ z_tV u v' G (n + 1)) := by
      intro w k1 k2 k3
      unfold f_Judging_tryBreaks_J128
      refine z_let (z_let (k_sat_mk ⟨rfl, z_tW_f (z_tW_f k1 (z_wF rfl)) (z_wF rfl), ?_, ?_, ?_⟩))
      · simp [k_wF, k2]
      · simp [k_wF, e2]
      · simp [k_wF, k3, e3]
    refine z_neg (by decide) ?_
    rw [h3]
    refine z_ite (fun q => z_let (fin _ (z_tW_f h1 (z_wF rfl)) ?_ ?_)) (fun q => fin v h1 ?_ h5)
    · rw [e1, if_pos q]; simp [k_wF]
    · exact h5
    · rw [e1, if_neg q, h3]
  · refine z_pos rfl (k_sat_mk ⟨rfl, h1, ?_, ?_, ?_⟩)
    · rw [h3, z_wn1, hG]; rfl
    · rw [h4, z_wn2, hG]; rfl
    · rw [h5, z_wn3, hG]; rfl
theorem z_tryF {E : z_E} {u : k_S} {t nr : Nat} {A B f : Nat → Nat} (hE : z_eW E u) (hokR : z_ok E (z_moR u)) (h0 : 0 < E.1) (ht : t ≤ 1000000) (t1 : u.1 1402 = J t) (t2 : u.1 4209 = J t) (hnr : nr ≤ 40) (e20 : u.1 2003 = J nr) (hRC : z_RC 21 22 nr A B u) (hf : ∀ i, i < nr → f i < nr ∧ u.2.1 23 i = J (f i)) (hsu : ∀ r, r < nr → ∃ i, i < nr ∧ f i = r) (hso : ∀ i j, i < j → j < nr → A (f i) ≤ A (f j)) : k_sat (f_Judging_tryBreaks u) (fun _ v => z_fr [1702, 1206, 704, 2405, 2406, 2407] [18, 19, 9, 13] u v ∧ v.1 2405 = z_wn1 (z_gbr E u t nr A B) 401 ∧ v.1 2406 = z_wn2 (z_gbr E u t nr A B) 401 ∧ v.1 2407 = z_wn3 (z_gbr E u t nr A B) 401) := by
  unfold f_Judging_tryBreaks
  rw [show f_Wheels_breakOf 0 u = some (u.2.1 6 0, u) from z_Wheels_breakOf (n := 0) (by omega), z_bind_some]
  refine z_let (z_let (z_let (z_bind _ (z_for3 0 401 0 (-1) (fun i x y v => z_tV u v (z_gbr E u t nr A B) i ∧ ∀ b, i ≤ b → b ≤ 400 → J b ≤ y → (x = 1 ∧ z_gbr E u t nr A B b = true) ∨ (x = 0 ∧ z_gbr E u t nr A B b = false)) (K := fun _ v => z_tV u v (z_gbr E u t nr A B) 401) (by omega) (by omega) ⟨⟨⟨((z_wF rfl).tr (z_wF rfl)).tr (z_wF rfl), u.2.1 6 0, by rw [z_up_self]; simp [k_wF]⟩, by simp [k_wF, z_wn1], by simp [k_wF, z_wn2], by simp [k_wF, z_wn3]⟩, fun b _ hb q => absurd q (by (try simp (disch := omega) only [Int32.lt_iff_toInt_lt, Int32.le_iff_toInt_le, ← Int32.toInt_inj, Int32.toInt_add, Int32.toInt_sub, Int32.toInt_mul, Int32.toInt_neg, z_bm, z_bm2, J_ti, J_toInt, z_cn, Int32.reduceToInt]) <;> omega)⟩ (fun i x y v _ hi hp => ?_) (fun x y v hp => ?_)) (fun _ v hv => ?_))))
  · obtain ⟨hp, hal⟩ := hp
    unfold f_Judging_tryBreaks_B33
    dsimp only
    refine z_neg (by (try simp (disch := omega) only [Int32.lt_iff_toInt_lt, Int32.le_iff_toInt_le, ← Int32.toInt_inj, Int32.toInt_add, Int32.toInt_sub, Int32.toInt_mul, Int32.toInt_neg, z_bm, z_bm2, J_ti, J_toInt, z_cn, Int32.reduceToInt]) <;> omega) (z_ite (fun hle => z_mono (z_u106 hp _ x y (hal i (Nat.le_refl i) (by omega) hle)) (fun z v' hz => Or.inl ⟨x, y, hz.1, hz.2, fun b h1 h2 h3 => hal b (by omega) h2 h3⟩)) (fun hle => ?_))
    rw [show f_Wheels_setBreak 0 (J i) v = some ((), k_wA v 6 0 (J i)) from z_setBreak (w := 0) (by omega), z_bind_some]
    refine z_let ?_
    obtain ⟨⟨g1, l, g2⟩, g3, g4, g5⟩ := hp
    have k4 : z_fr [1702, 1206, 704, 2405, 2406, 2407] [6, 18, 19, 9, 13] u (k_wF (k_wA v 6 0 (J i)) 1206 (-1)) := (g1.tr (z_wA rfl)).tr (z_wF rfl)
    have h6 : (k_wF (k_wA v 6 0 (J i)) 1206 (-1)).2.1 6 = upd (u.2.1 6) 0 (J i) := by
      simp only [k_wF, k_wA, if_true]
      exact z_upd2 g2
    have e12 : (k_wF (k_wA v 6 0 (J i)) 1206 (-1)).1 1206 = -1 := by simp [k_wF]
    have w3 : (k_wF (k_wA v 6 0 (J i)) 1206 (-1)).1 2405 = z_wn1 (z_gbr E u t nr A B) i := g3
    have w4 : (k_wF (k_wA v 6 0 (J i)) 1206 (-1)).1 2406 = z_wn2 (z_gbr E u t nr A B) i := g4
    have w5 : (k_wF (k_wA v 6 0 (J i)) 1206 (-1)).1 2407 = z_wn3 (z_gbr E u t nr A B) i := g5
    generalize k_wF (k_wA v 6 0 (J i)) 1206 (-1) = w at *
    have mN : z_moNow w = z_moNow u := by unfold z_moNow; rw [k4.1 1402 rfl, k4.2.1 15 rfl, k4.2.1 16 rfl]
    have mR : z_moR w = z_moR u := by unfold z_moR; rw [k4.1 4209 rfl, k4.2.1 46 rfl, k4.2.1 47 rfl]
    have hE' : z_eW (z_Eb E (J i)) w := ⟨z_EW_b hE.1 (k4.1 303 rfl) (k4.1 703 rfl) (k4.1 705 rfl) (k4.2.1 4 rfl) (k4.2.1 5 rfl) h6 (k4.2.1 8 rfl), by rw [mN]; exact z_ok_b hE.2.1, by rw [mN, mR]; exact hE.2.2⟩
    refine z_bind _ (z_firstQ (f := f) hE' h0 e12 ht ((k4.1 1402 rfl).trans t1) hnr ((k4.1 2003 rfl).trans e20) (z_RC_f k4 rfl rfl hRC) (by rw [k4.2.1 23 rfl]; exact hf) hsu hso) (fun r w2 hw2 => ?_)
    obtain ⟨f1, d, hd, hs, hres⟩ := hw2
    rw [mR] at hs
    have hT : z_tV u w2 (z_gbr E u t nr A B) i := ⟨z_tW_f ⟨k4, _, h6⟩ (f1.mono rfl rfl), (f1.1 2405 rfl).trans w3, (f1.1 2406 rfl).trans w4, (f1.1 2407 rfl).trans w5⟩
    have hm : (z_moR u).1 = J t := t2
    have hbm : ∀ r', z_bad (z_Eb E (J i)) w t A B r' ↔ z_bad (z_Eb E (J i)) u t A B r' := fun r' => z_bad_m mR
    have hres2 : (r = -2 ∧ z_gbr E u t nr A B i = true) ∨ (¬ r = -2 ∧ z_gbr E u t nr A B i = false) := by
      rcases hres with ⟨a1, a2, a3⟩ | ⟨a1, r', a2, a3, a4⟩
      · exact Or.inl ⟨a1, decide_eq_true (fun r' hr' q => a2 r' hr' ((hbm r').mpr q))⟩
      · exact Or.inr ⟨a1, decide_eq_false (fun q => q r' a2 ((hbm r').mp a3))⟩
    have hres3 : ((∀ r', r' < nr → ¬ z_bad (z_Eb E (J i)) u t A B r') ∧ ∀ r', r' < nr → t ≤ A r' → A r' - t ≤ d) ∨ ∃ r', r' < nr ∧ z_bad (z_Eb E (J i)) u t A B r' ∧ A r' - t ≤ d := by
      rcases hres with ⟨a1, a2, a3⟩ | ⟨a1, r', a2, a3, a4⟩
      · exact Or.inl ⟨fun r' hr' q => a2 r' hr' ((hbm r').mpr q), a3⟩
      · exact Or.inr ⟨r', a2, (hbm r').mp a3, a4⟩
    have fin : ∀ x' : Int32, ((x' = 1 ∧ z_gbr E u t nr A B i = true) ∨ (x' = 0 ∧ z_gbr E u t nr A B i = false)) → k_sat (f_Judging_tryBreaks_J80 (u.2.1 6 0) (J i) x' w2) (fun z u' => (∃ x' y', z = .inl (x', y', J i + Int32.ofInt 1) ∧ z_tV u u' (z_gbr E u t nr A B) (i + 1) ∧ ∀ b, i + 1 ≤ b → b ≤ 400 → J b ≤ y' → (x' = 1 ∧ z_gbr E u t nr A B b = true) ∨ (x' = 0 ∧ z_gbr E u t nr A B b = false)) ∨ ∃ r, z = .inr r ∧ z_tV u u' (z_gbr E u t nr A B) 401) := by
      intro x' hx'
      unfold f_Judging_tryBreaks_J80 f_Judging_tryBreaks_J105
      rw [hs]
      refine z_ite (fun q => z_mono (z_u106 hT _ x' 400 hx') (fun z v' hz => Or.inl ⟨x', 400, hz.1, hz.2, fun b h1 h2 h3 => ?_⟩)) (fun q => z_mono (z_u106 hT _ x' _ hx') (fun z v' hz => Or.inl ⟨x', _, hz.1, hz.2, fun b h1 h2 h3 => ?_⟩))
      · rw [z_gbr_same hokR h0 hm ht hd (by omega) h2 (Or.inl q) hres3]
        exact hx'
      · rw [z_gbr_same hokR h0 hm ht hd (by omega) h2 (Or.inr h3) hres3]
        exact hx'
    rcases hres2 with ⟨a1, a2⟩ | ⟨a1, a2⟩
    · exact z_pos a1 (fin 1 (Or.inl ⟨rfl, a2⟩))
    · exact z_neg a1 (fin 0 (Or.inr ⟨rfl, a2⟩))
  · unfold f_Judging_tryBreaks_B33
    exact z_pos (show (400 : Int32) < J 401 by decide) (k_sat_mk ⟨_, rfl, hp.1⟩)
  · obtain ⟨⟨g1, l, g2⟩, g3, g4, g5⟩ := hv
    rw [show f_Wheels_setBreak 0 (u.2.1 6 0) v = some ((), k_wA v 6 0 (u.2.1 6 0)) from z_setBreak (w := 0) (by omega), z_bind_some]
    refine k_sat_mk ⟨z_fr_less (c := 6) (g1.tr (z_wA rfl)) ?_ rfl, g3, g4, g5⟩
    simp only [k_wA, if_true]
    rw [z_upd2 g2, z_up_self]
theorem z_when (a : Int32) (u : k_S) (h : zI u) : z_pair (f_W_when a) (f_R_when a) u zI := by
  obtain ⟨E, hE, -, eS, -⟩ := z_env h
  obtain ⟨⟨t, ht, t1, t2⟩, -⟩ := h.2.2.1
  obtain ⟨nr, A, B, f, hnr, r1, r2, r3, r4, hf, hsu, hso⟩ := z_recs h.2.2.2.2.2.1
  have hE4 := hE.1.1
  have e1 := hE.1.2.1
  have e2 := hE.2.1.2.1
  refine z_pair_of ?_
  by_cases ha : 0 ≤ a.toInt ∧ a.toInt ≤ 2
  · unfold f_W_when
    refine z_neg (by (try simp (disch := omega) only [Int32.lt_iff_toInt_lt, Int32.le_iff_toInt_le, ← Int32.toInt_inj, Int32.toInt_add, Int32.toInt_sub, Int32.toInt_mul, Int32.toInt_neg, z_bm, z_bm2, J_ti, J_toInt, z_cn, Int32.reduceToInt]) <;> omega) (z_pos (by (try simp (disch := omega) only [Int32.lt_iff_toInt_lt, Int32.le_iff_toInt_le, ← Int32.toInt_inj, Int32.toInt_add, Int32.toInt_sub, Int32.toInt_mul, Int32.toInt_neg, z_bm, z_bm2, J_ti, J_toInt, z_cn, Int32.reduceToInt]) <;> omega) ?_)
    by_cases h0 : E.1 = 0
    · refine z_pos (by rw [e1, h0]; rfl) (k_sat_mk ?_)
      unfold f_R_when
      rw [z_Rin1 (by (try simp (disch := omega) only [Int32.lt_iff_toInt_lt, Int32.le_iff_toInt_le, ← Int32.toInt_inj, Int32.toInt_add, Int32.toInt_sub, Int32.toInt_mul, Int32.toInt_neg, z_bm, z_bm2, J_ti, J_toInt, z_cn, Int32.reduceToInt]) <;> omega) (by (try simp (disch := omega) only [Int32.lt_iff_toInt_lt, Int32.le_iff_toInt_le, ← Int32.toInt_inj, Int32.toInt_add, Int32.toInt_sub, Int32.toInt_mul, Int32.toInt_neg, z_bm, z_bm2, J_ti, J_toInt, z_cn, Int32.reduceToInt]) <;> omega), z_bind_some]
      exact z_neg (by decide) (z_pos (by rw [e2, h0]; rfl) (k_sat_mk ⟨rfl, h⟩))
    · refine z_neg (by rw [e1]; (try simp (disch := omega) only [Int32.lt_iff_toInt_lt, Int32.le_iff_toInt_le, ← Int32.toInt_inj, Int32.toInt_add, Int32.toInt_sub, Int32.toInt_mul, Int32.toInt_neg, z_bm, z_bm2, J_ti, J_toInt, z_cn, Int32.reduceToInt]) <;> omega) (z_bind _ (z_tryF (f := f) ⟨hE.1, hE.2.2.1, hE.2.2.2.2⟩ hE.2.2.2.1 (by omega) ht t1 t2 hnr r1 r3 hf hsu hso) (fun _ v hv => ?_))
      obtain ⟨hv, b1, b2, b3⟩ := hv
      have i2 : zI v := zI_0 h (hv.mono rfl rfl)
      have hE2 : z_en E v := z_en_f hv (by decide) (by decide) (by decide) hE
      have mv : z_moR v = z_moR u := by unfold z_moR; rw [hv.1 4209 rfl, hv.2.1 46 rfl, hv.2.1 47 rfl]
      have hR : k_sat (f_R_when a v) (fun r v' => r = (if a = 0 then z_wn1 (z_gbr E u t nr A B) 401 else if a = 1 then z_wn2 (z_gbr E u t nr A B) 401 else z_wn3 (z_gbr E u t nr A B) 401) ∧ zI v') := by
        unfold f_R_when
        rw [z_Rin1 (by (try simp (disch := omega) only [Int32.lt_iff_toInt_lt, Int32.le_iff_toInt_le, ← Int32.toInt_inj, Int32.toInt_add, Int32.toInt_sub, Int32.toInt_mul, Int32.toInt_neg, z_bm, z_bm2, J_ti, J_toInt, z_cn, Int32.reduceToInt]) <;> omega) (by (try simp (disch := omega) only [Int32.lt_iff_toInt_lt, Int32.le_iff_toInt_le, ← Int32.toInt_inj, Int32.toInt_add, Int32.toInt_sub, Int32.toInt_mul, Int32.toInt_neg, z_bm, z_bm2, J_ti, J_toInt, z_cn, Int32.reduceToInt]) <;> omega), z_bind_some]
        refine z_neg (by decide) (z_neg (by rw [hv.1 4203 rfl, e2]; (try simp (disch := omega) only [Int32.lt_iff_toInt_lt, Int32.le_iff_toInt_le, ← Int32.toInt_inj, Int32.toInt_add, Int32.toInt_sub, Int32.toInt_mul, Int32.toInt_neg, z_bm, z_bm2, J_ti, J_toInt, z_cn, Int32.reduceToInt]) <;> omega) (z_ck (by decide) (by decide) (z_let ?_)))
        refine z_bind (fun y w => y = (z_wn1 (z_gbr E u t nr A B) 401, z_wn2 (z_gbr E u t nr A B) 401, z_wn3 (z_gbr E u t nr A B) 401) ∧ z_fr [4230] [48, 54, 55, 60, 61, 62] v w ∧ ∃ l, w.2.1 48 = upd (v.2.1 48) 0 l) (z_itr (P := fun m x w => ∃ i : Nat, i ≤ 401 ∧ x = (z_wn1 (z_gbr E u t nr A B) i, z_wn2 (z_gbr E u t nr A B) i, z_wn3 (z_gbr E u t nr A B) i, J i) ∧ m = 401 - i ∧ z_fr [4230] [48, 54, 55, 60, 61, 62] v w ∧ ∃ l, w.2.1 48 = upd (v.2.1 48) 0 l) (fun m x w hw => ?_) k_FU 401 (-2, -2, 0, 0) v (by unfold k_FU; omega) ⟨0, by omega, rfl, rfl, z_fr.rf, v.2.1 48 0, by rw [z_up_self]⟩) (fun y w hw => ?_)
        · obtain ⟨i, hi, ex, em, g1, l, g2⟩ := hw
          rw [ex]
          unfold f_R_when_B41
          dsimp only
          by_cases hi2 : i = 401
          · refine z_pos (by rw [hi2]; decide) (k_sat_mk (Or.inr ⟨_, rfl, ?_, g1, l, g2⟩))
            rw [hi2]
          · refine z_neg (by (try simp (disch := omega) only [Int32.lt_iff_toInt_lt, Int32.le_iff_toInt_le, ← Int32.toInt_inj, Int32.toInt_add, Int32.toInt_sub, Int32.toInt_mul, Int32.toInt_neg, z_bm, z_bm2, J_ti, J_toInt, z_cn, Int32.reduceToInt]) <;> omega) (z_ck (by decide) (by decide) (z_let ?_))
            rw [show (0 : Int32).toNatClampNeg = 0 from rfl]
            have k4 : z_fr [4230] [48, 54, 55, 60, 61, 62] v (k_wA w 48 0 (J i)) := g1.tr (z_wA rfl)
            have h48 : (k_wA w 48 0 (J i)).2.1 48 = upd (v.2.1 48) 0 (J i) := by
              simp only [k_wA, if_true]
              exact z_upd2 g2
            have mR : z_moR (k_wA w 48 0 (J i)) = z_moR v := by unfold z_moR; rw [k4.1 4209 rfl, k4.2.1 46 rfl, k4.2.1 47 rfl]
            have hE' : z_ER (z_Eb E (J i)) (k_wA w 48 0 (J i)) := z_ER_b hE2.2.1 [4230] (k4.mono rfl rfl) (by decide) h48
            refine z_bind _ (z_firstR hE' (by rw [mR]; exact z_ok_b hE2.2.2.2.1) (show 0 < E.1 by omega) ht ((k4.1 4209 rfl).trans ((hv.1 4209 rfl).trans t2)) hnr ((k4.1 4235 rfl).trans ((hv.1 4235 rfl).trans r2)) (z_RC_f k4 rfl rfl (z_RC_f hv rfl rfl r4))) (fun r w2 hw2 => ?_)
            have k5 : z_fr [4230] [48, 54, 55, 60, 61, 62] v w2 := k4.tr (hw2.1.mono rfl rfl)
            have k6 : w2.2.1 48 = upd (v.2.1 48) 0 (J i) := (hw2.1.2.1 48 rfl).trans h48
            have mR2 := mR.trans mv
            have e1' : z_wn1 (z_gbr E u t nr A B) (i + 1) = if z_gbr E u t nr A B i = true then (if z_wn1 (z_gbr E u t nr A B) i = -2 then J i else z_wn1 (z_gbr E u t nr A B) i) else z_wn1 (z_gbr E u t nr A B) i := rfl
            have e2' : z_wn2 (z_gbr E u t nr A B) (i + 1) = if z_gbr E u t nr A B i = true then J i else z_wn2 (z_gbr E u t nr A B) i := rfl
            have e3' : z_wn3 (z_gbr E u t nr A B) (i + 1) = if z_gbr E u t nr A B i = true then z_wn3 (z_gbr E u t nr A B) i + 1 else z_wn3 (z_gbr E u t nr A B) i := rfl
            rcases hw2.2 with ⟨rfl, hb⟩ | ⟨m', m1, m2, rfl, -⟩
            · have hG : z_gbr E u t nr A B i = true := decide_eq_true (fun r' hr' q => hb r' hr' ((z_bad_m mR2).mpr q))
              rw [if_pos hG] at e1' e2' e3'
              refine z_pos (by decide) ?_
              rcases z_wn1_v (z_gbr E u t nr A B) i with q | ⟨k, q1, q2⟩
              · rw [if_pos q] at e1'
                rw [q]
                refine z_neg (by decide) (k_sat_mk (Or.inl ⟨_, 401 - (i + 1), rfl, by omega, i + 1, by omega, ?_, rfl, k5, _, k6⟩))
                rw [e1', e2', e3', z_J1]
                rfl
              · have hne : ¬ z_wn1 (z_gbr E u t nr A B) i = -2 := by rw [q2]; (try simp (disch := omega) only [Int32.lt_iff_toInt_lt, Int32.le_iff_toInt_le, ← Int32.toInt_inj, Int32.toInt_add, Int32.toInt_sub, Int32.toInt_mul, Int32.toInt_neg, z_bm, z_bm2, J_ti, J_toInt, z_cn, Int32.reduceToInt]) <;> omega
                rw [if_neg hne, q2] at e1'
                rw [q2]
                refine z_pos (by (try simp (disch := omega) only [Int32.lt_iff_toInt_lt, Int32.le_iff_toInt_le, ← Int32.toInt_inj, Int32.toInt_add, Int32.toInt_sub, Int32.toInt_mul, Int32.toInt_neg, z_bm, z_bm2, J_ti, J_toInt, z_cn, Int32.reduceToInt]) <;> omega) (k_sat_mk (Or.inl ⟨_, 401 - (i + 1), rfl, by omega, i + 1, by omega, ?_, rfl, k5, _, k6⟩))
                rw [e1', e2', e3', z_J1]
                rfl
            · have hG : z_gbr E u t nr A B i = false := decide_eq_false (fun q => q m' m1 ((z_bad_m mR2).mp m2))
              have hG' : ¬ z_gbr E u t nr A B i = true := by rw [hG]; decide
              rw [if_neg hG'] at e1' e2' e3'
              refine z_neg (by (try simp (disch := omega) only [Int32.lt_iff_toInt_lt, Int32.le_iff_toInt_le, ← Int32.toInt_inj, Int32.toInt_add, Int32.toInt_sub, Int32.toInt_mul, Int32.toInt_neg, z_bm, z_bm2, J_ti, J_toInt, z_cn, Int32.reduceToInt]) <;> omega) (k_sat_mk (Or.inl ⟨_, 401 - (i + 1), rfl, by omega, i + 1, by omega, ?_, rfl, k5, _, k6⟩))
              rw [e1', e2', e3', z_J1]
        · obtain ⟨ey, g1, l, g2⟩ := hw
          rw [ey]
          refine z_ck (by decide) (by decide) (z_let ?_)
          rw [show (0 : Int32).toNatClampNeg = 0 from rfl]
          have k5 : z_fr [4230] [54, 55, 60, 61, 62] v (k_wA w 48 0 (v.2.1 48 0)) := by
            refine z_fr_less (c := 48) (g1.tr (z_wA rfl)) ?_ rfl
            simp only [k_wA, if_true]
            rw [z_upd2 g2, z_up_self]
          have i3 := zI_0 i2 (k5.mono rfl rfl)
          refine z_ite (fun q => k_sat_mk ⟨by rw [if_pos q], i3⟩) (fun q => z_ite (fun q2 => k_sat_mk ⟨by rw [if_neg q, if_pos q2], i3⟩) (fun q2 => k_sat_mk ⟨by rw [if_neg q, if_neg q2], i3⟩))
      rw [b1, b2, b3]
      refine z_ite (fun q => k_sat_mk (z_mono hR (fun r v' hv' => ⟨?_, hv'.2⟩))) (fun q => z_ite (fun q2 => k_sat_mk (z_mono hR (fun r v' hv' => ⟨?_, hv'.2⟩))) (fun q2 => k_sat_mk (z_mono hR (fun r v' hv' => ⟨?_, hv'.2⟩))))
      · rw [hv'.1, if_neg (by rw [q]; decide), if_neg (by rw [q]; decide)]
      · rw [hv'.1, if_pos q2]
      · have h1 : a = 1 := by
          apply Int32.toInt.inj
          have n0 : ¬ a.toInt = 0 := fun c => q2 (Int32.toInt.inj c)
          have n2 : ¬ a.toInt = 2 := fun c => q (Int32.toInt.inj c)
          show a.toInt = 1
          omega
        rw [hv'.1, if_neg q2, if_pos h1]
  · have hR : k_sat (f_R_when a u) (fun r v' => (-1 : Int32) = r ∧ zI v') := by
      unfold f_R_when
      rw [z_Rin0 (by ((try simp (disch := omega) only [Int32.lt_iff_toInt_lt, Int32.le_iff_toInt_le, ← Int32.toInt_inj, Int32.toInt_add, Int32.toInt_sub, Int32.toInt_mul, Int32.toInt_neg, z_bm, z_bm2, J_ti, J_toInt, z_cn, Int32.reduceToInt] at *); omega)), z_bind_some]
      exact z_pos rfl (k_sat_mk ⟨rfl, h⟩)
    unfold f_W_when
    exact z_ite (fun _ => k_sat_mk hR) (fun q => z_neg (by ((try simp (disch := omega) only [Int32.lt_iff_toInt_lt, Int32.le_iff_toInt_le, ← Int32.toInt_inj, Int32.toInt_add, Int32.toInt_sub, Int32.toInt_mul, Int32.toInt_neg, z_bm, z_bm2, J_ti, J_toInt, z_cn, Int32.reduceToInt] at *); omega)) (k_sat_mk hR))
/-! THE LAW'S LOOP, all methods -/
theorem k_main (L : Nat) (xs : Nat → Int32) (hL : L ≤ 3072) : k_sat (k_itr (fun (x : (Int32)) u => f_law_B18 L xs x u) k_FU 0 z_u0) (fun y _ => y = .inr ()) :=
  k_loopmain L xs hL (fun _ u => zI u) z_u0_I (fun v u hv hu => k_body L xs zI zI z_feed z_wheel z_law z_set z_broke z_tooth z_of z_on z_lay z_shows z_day z_often z_never z_meets z_mtwo z_round z_truth z_near z_record z_records z_clear z_judge z_fits z_sure z_when z_watch z_image z_back z_undo z_redo z_body z_act z_trace z_keep z_row z_put z_element z_shift z_taken z_count (fun _ h => h) v hv hL u hu)
