/-! LAW: lines, the whole text; the class's law -/
def z_e6 (ch : Nat → Nat) : z_Pa := z_ei ch (z_sg ch 6)
def z_ln (ch : Nat → Nat) (i : Nat) : Bool × Nat × z_Ln := if (z_e6 ch i).1 = true then (if ch (z_e6 ch i).2.1 = 63 then (if (z_e6 ch ((z_e6 ch i).2.1 + 1)).1 = true then (true, (z_e6 ch ((z_e6 ch i).2.1 + 1)).2.1, ((z_e6 ch i).2.2, (z_e6 ch ((z_e6 ch i).2.1 + 1)).2.2)) else (false, (z_e6 ch ((z_e6 ch i).2.1 + 1)).2.1, ([], []))) else (true, (z_e6 ch i).2.1, ([], (z_e6 ch i).2.2))) else (false, (z_e6 ch i).2.1, ([], []))
def z_tl (ch : Nat → Nat) : Nat → Nat → List z_Ln → Bool × Nat × List z_Ln
  | 0, i, A => (true, i, A)
  | k + 1, i, A => if ch i = 59 then (if (z_ln ch (i + 1)).1 = true then z_tl ch k (z_ln ch (i + 1)).2.1 (A ++ [(z_ln ch (i + 1)).2.2]) else (false, (z_ln ch (i + 1)).2.1, [])) else (true, i, A)
def z_tx (ch : Nat → Nat) : Bool × Nat × List z_Ln := if (z_ln ch 0).1 = true then z_tl ch 120 (z_ln ch 0).2.1 [(z_ln ch 0).2.2] else (false, (z_ln ch 0).2.1, [])
theorem z_l1_len (o : Nat) (l : z_Ln) : (z_l1 o l).length = if l.1 = [] then l.2.length + 1 else l.1.length + l.2.length + 2 := by
  unfold z_l1
  by_cases h : l.1 = []
  · rw [if_pos h, if_pos h, List.length_append, List.length_singleton]
  · rw [if_neg h, if_neg h]
    simp only [List.length_append, List.length_singleton]
    omega
theorem z_wf_ne {C : List Int32} (h : z_wf C) : ¬ C = [] := by
  rintro rfl
  obtain ⟨f, hf⟩ := h
  obtain ⟨S', a, -⟩ := hf (0, 0, 0, 0) 0 (fun _ => 0)
  have : (0 : Nat) = 0 + 1 := by
    have := Option.some.inj a
    exact congrArg Prod.fst this
  omega
theorem z_ln_g {n : Nat} {b : Nat → Nat} (i o : Nat) (hi : i ≤ n) : i ≤ (z_ln (z_ch n b) i).2.1 ∧ (z_ln (z_ch n b) i).2.1 ≤ n ∧ ((z_ln (z_ch n b) i).1 = true → i < (z_ln (z_ch n b) i).2.1 ∧ z_gl (z_ln (z_ch n b) i).2.2 ∧ (z_ln (z_ch n b) i).2.2.1.length + (z_ln (z_ch n b) i).2.2.2.length + i ≤ (z_ln (z_ch n b) i).2.1 ∧ (z_l1 o (z_ln (z_ch n b) i).2.2).length + i ≤ (z_ln (z_ch n b) i).2.1 + 1) := by
  have he : z_gp n (z_e6 (z_ch n b)) := z_ei_g (z_sg_g 6)
  rw [z_l1_len]
  unfold z_ln
  obtain ⟨a1, a2, a3⟩ := he i hi
  by_cases q1 : (z_e6 (z_ch n b) i).1 = true
  · rw [if_pos q1]
    obtain ⟨b1, b2, b3, b4⟩ := a3 q1
    by_cases q2 : z_ch n b (z_e6 (z_ch n b) i).2.1 = 63
    · rw [if_pos q2]
      have hin : (z_e6 (z_ch n b) i).2.1 < n := z_ch_n (b := b) (by omega)
      obtain ⟨c1, c2, c3⟩ := he ((z_e6 (z_ch n b) i).2.1 + 1) (by omega)
      by_cases q3 : (z_e6 (z_ch n b) ((z_e6 (z_ch n b) i).2.1 + 1)).1 = true
      · rw [if_pos q3]
        obtain ⟨d1, d2, d3, d4⟩ := c3 q3
        refine ⟨by dsimp only; omega, c2, fun _ => ⟨by dsimp only; omega, ⟨Or.inr b3, d3, b4, d4⟩, by dsimp only; omega, ?_⟩⟩
        rw [if_neg (z_wf_ne b3)]
        dsimp only
        omega
      · rw [if_neg q3]
        exact ⟨by dsimp only; omega, c2, fun q => by cases q⟩
    · rw [if_neg q2]
      refine ⟨a1, a2, fun _ => ⟨b1, ⟨Or.inl rfl, b3, fun s hs => (by cases hs), b4⟩, ?_, ?_⟩⟩
      · show ([] : List Int32).length + (z_e6 (z_ch n b) i).2.2.length + i ≤ (z_e6 (z_ch n b) i).2.1
        rw [List.length_nil]
        omega
      · rw [if_pos rfl]
        dsimp only
        omega
  · rw [if_neg q1]
    exact ⟨a1, a2, fun q => by cases q⟩
theorem z_cls_app (l : z_Ln) : ∀ (ls : List z_Ln) (o : Nat), z_cls o (ls ++ [l]) = z_cls o ls ++ z_l1 (o + (z_cls o ls).length) l
  | [], o => by
    show z_l1 o l ++ z_cls _ [] = [] ++ z_l1 (o + 0) l
    rw [z_cls, List.append_nil, List.nil_append, Nat.add_zero]
  | a :: ls, o => by
    rw [List.cons_append, z_cls, z_cls_app l ls, z_cls, List.append_assoc, List.length_append, Nat.add_assoc]
theorem z_patch {M R : List Int32} {x y : Int32} {w : k_S} (h : z_wcs w (M ++ [x] ++ R)) : z_wcs (k_wA w 11 M.length y) (M ++ [y] ++ R) := by
  obtain ⟨h1, h2⟩ := h
  refine ⟨?_, fun j s hj => ?_⟩
  · rw [show (M ++ [y] ++ R).length = (M ++ [x] ++ R).length by simp only [List.length_append, List.length_singleton]]
    exact h1
  · have e : (k_wA w 11 M.length y).2.1 11 = upd (w.2.1 11) M.length y := by simp [k_wA]
    rw [e, z_up]
    rw [List.append_assoc] at hj h2
    by_cases q : j = M.length
    · rw [if_pos q]
      rw [q, List.getElem?_append_right (Nat.le_refl _), Nat.sub_self] at hj
      simpa using hj
    · rw [if_neg q]
      refine h2 j s ?_
      rcases Nat.lt_or_ge j M.length with q2 | q2
      · rw [List.getElem?_append_left q2] at hj ⊢; exact hj
      · rw [List.getElem?_append_right q2] at hj ⊢
        obtain ⟨k, hk⟩ : ∃ k, j - M.length = k + 1 := ⟨j - M.length - 1, by omega⟩
        rw [hk] at hj ⊢
        simpa using hj
theorem z_lineW {n i : Nat} {b : Nat → Nat} {L : List Int32} {u : k_S} (hn : n ≤ 120) (hs : z_ws n b u i L) : k_sat (f_Reader_line u) (fun r v => z_fr [1002, 1003] [11] u v ∧ ((z_ln (z_ch n b) i).1 = true → r = 1 ∧ z_wx n b v (z_ln (z_ch n b) i).2.1 ∧ z_wcs v (L ++ z_l1 L.length (z_ln (z_ch n b) i).2.2)) ∧ ((z_ln (z_ch n b) i).1 = false → z_wx n b v (z_ln (z_ch n b) i).2.1 ∧ (r = 0 ∨ (r = 1 ∧ 48 ≤ z_ch n b (z_ln (z_ch n b) i).2.1 ∧ z_ch n b (z_ln (z_ch n b) i).2.1 ≤ 57)))) := by
  have he : z_gp n (z_e6 (z_ch n b)) := z_ei_g (z_sg_g 6)
  have hrc : z_PW n b (f_Reader_single_rec 8 0) (z_sg (z_ch n b) 6) := z_sgW hn 6 (by omega) 8 (by omega)
  have hP : z_PW n b (f_Reader_either (f_Reader_single_rec 8) 0) (z_e6 (z_ch n b)) := z_eiW hn hrc (z_sg_g 6)
  have hi := hs.1.2.2.2.2
  have hl := hs.2.2
  obtain ⟨a1, a2, a3⟩ := he i hi
  unfold f_Reader_line
  refine z_bind _ (hP u i L hs) (fun r v hv => ?_)
  obtain ⟨h1, h2, h3⟩ := hv
  unfold z_ln
  by_cases q1 : (z_e6 (z_ch n b) i).1 = true
  · rw [if_pos q1]
    obtain ⟨rfl, h4⟩ := h2 q1
    obtain ⟨b1, b2, b3, b4⟩ := a3 q1
    generalize hj : (z_e6 (z_ch n b) i).2.1 = j at *
    generalize hA : (z_e6 (z_ch n b) i).2.2 = A at *
    refine z_neg (by decide) ?_
    have hp := z_passes h4.1 (c := 63) (by omega)
    rw [show f_Reader_passes 63 v = _ from hp]
    by_cases q2 : z_ch n b j = 63
    · rw [if_pos q2, if_pos q2, z_bind_some]
      have hin : j < n := z_ch_n (b := b) (by omega)
      obtain ⟨c1, c2, c3⟩ := he (j + 1) (by omega)
      have x1 := (z_nx1 h4.1 hin).2
      have k1 : z_fr [1002, 1003] [11] u (k_wF v 1003 (J (j + 1))) := h1.tr (z_wF rfl)
      have w1 : z_wcs (k_wF v 1003 (J (j + 1))) (L ++ A) := z_wcs_f h4.2.1 (by simp [k_wF]) rfl
      generalize k_wF v 1003 (J (j + 1)) = v1 at *
      have t6 : v1.1 1002 = J (L ++ A).length := w1.1
      have hLA : (L ++ A).length ≤ j := by rw [List.length_append]; omega
      rw [t6]
      refine z_neg (by decide) (z_let (z_bind _ (z_add (s := 10000) w1 (by omega)) (fun _ v2 hv2 => ?_)))
      have k2 := k1.tr (hv2.1.mono rfl rfl)
      have x2 := z_wx_f x1 (hv2.1.mono rfl rfl) ((hv2.1.1 1003 rfl).trans x1.2.2.2.1) x1.2.2.2.2
      refine z_bind _ (hP v2 (j + 1) (L ++ A ++ [10000]) ⟨x2, hv2.2, by rw [List.length_append, List.length_singleton]; omega⟩) (fun r3 v3 hv3 => ?_)
      obtain ⟨g1, g2, g3⟩ := hv3
      have k3 := k2.tr g1
      by_cases q3 : (z_e6 (z_ch n b) (j + 1)).1 = true
      · rw [if_pos q3]
        obtain ⟨rfl, g4⟩ := g2 q3
        obtain ⟨d1, d2, d3, d4⟩ := c3 q3
        generalize hB : (z_e6 (z_ch n b) (j + 1)).2.2 = B at *
        refine z_neg (by decide) (z_bind _ (z_add (s := -59) g4.2.1 (by rw [List.length_append, List.length_append, List.length_singleton]; omega)) (fun _ v4 hv4 => ?_))
        have k4 := k3.tr (hv4.1.mono rfl rfl)
        have x4 := z_wx_f g4.1 (hv4.1.mono rfl rfl) ((hv4.1.1 1003 rfl).trans g4.1.2.2.2.1) g4.1.2.2.2.2
        have w4 : z_wcs v4 (L ++ A ++ [10000] ++ (B ++ [-59])) := by
          rw [← List.append_assoc]
          exact hv4.2
        have e1002 : (10000 : Int32) + v4.1 1002 = J (10000 + (L.length + A.length + B.length + 2)) := by
          rw [w4.1, show (10000 : Int32) = J 10000 from rfl, J_add]
          simp only [List.length_append, List.length_singleton]
          congr 1
          omega
        rw [e1002, J_toNat (show (L ++ A).length < 2147483648 by omega)]
        have w5 := z_patch (y := J (10000 + (L.length + A.length + B.length + 2))) w4
        refine z_neg (by (try simp (disch := omega) only [Int32.lt_iff_toInt_lt, Int32.le_iff_toInt_le, ← Int32.toInt_inj, Int32.toInt_add, Int32.toInt_sub, Int32.toInt_mul, Int32.toInt_neg, z_bm, z_bm2, J_ti, J_toInt, z_cn, Int32.reduceToInt]) <;> omega) (z_ck (by (try simp (disch := omega) only [Int32.lt_iff_toInt_lt, Int32.le_iff_toInt_le, ← Int32.toInt_inj, Int32.toInt_add, Int32.toInt_sub, Int32.toInt_mul, Int32.toInt_neg, z_bm, z_bm2, J_ti, J_toInt, z_cn, Int32.reduceToInt]) <;> omega) (by (try simp (disch := omega) only [Int32.lt_iff_toInt_lt, Int32.le_iff_toInt_le, ← Int32.toInt_inj, Int32.toInt_add, Int32.toInt_sub, Int32.toInt_mul, Int32.toInt_neg, z_bm, z_bm2, J_ti, J_toInt, z_cn, Int32.reduceToInt]) <;> omega) (z_let (k_sat_mk ⟨k4.tr (z_wA rfl), fun _ => ⟨rfl, z_wx_f x4 (z_wA rfl) x4.2.2.2.1 x4.2.2.2.2, ?_⟩, fun q => (by cases q)⟩)))
        have : L ++ z_l1 L.length (A, B) = L ++ A ++ [J (10000 + (L.length + A.length + B.length + 2))] ++ (B ++ [-59]) := by
          unfold z_l1
          rw [if_neg (z_wf_ne b3)]
          simp only [List.append_assoc]
        rw [this]
        exact w5
      · rw [if_neg q3]
        obtain ⟨g4, rfl | ⟨rfl, g5⟩⟩ := g3 (by cases hq : (z_e6 (z_ch n b) (j + 1)).1; rfl; exact absurd hq q3)
        · exact z_pos rfl (k_sat_mk ⟨k3, fun q => (by cases q), fun _ => ⟨g4, Or.inl rfl⟩⟩)
        · refine z_neg (by decide) (z_bind _ (z_addT _ v3) (fun _ v4 hv4 => ?_))
          have k4 := k3.tr (hv4.mono rfl rfl)
          have x4 := z_wx_f g4 (hv4.mono rfl rfl) ((hv4.1 1003 rfl).trans g4.2.2.2.1) g4.2.2.2.2
          rw [J_toNat (show (L ++ A).length < 2147483648 by omega)]
          exact z_neg (by (try simp (disch := omega) only [Int32.lt_iff_toInt_lt, Int32.le_iff_toInt_le, ← Int32.toInt_inj, Int32.toInt_add, Int32.toInt_sub, Int32.toInt_mul, Int32.toInt_neg, z_bm, z_bm2, J_ti, J_toInt, z_cn, Int32.reduceToInt]) <;> omega) (z_ck (by (try simp (disch := omega) only [Int32.lt_iff_toInt_lt, Int32.le_iff_toInt_le, ← Int32.toInt_inj, Int32.toInt_add, Int32.toInt_sub, Int32.toInt_mul, Int32.toInt_neg, z_bm, z_bm2, J_ti, J_toInt, z_cn, Int32.reduceToInt]) <;> omega) (by (try simp (disch := omega) only [Int32.lt_iff_toInt_lt, Int32.le_iff_toInt_le, ← Int32.toInt_inj, Int32.toInt_add, Int32.toInt_sub, Int32.toInt_mul, Int32.toInt_neg, z_bm, z_bm2, J_ti, J_toInt, z_cn, Int32.reduceToInt]) <;> omega) (z_let (k_sat_mk ⟨k4.tr (z_wA rfl), fun q => (by cases q), fun _ => ⟨z_wx_f x4 (z_wA rfl) x4.2.2.2.1 x4.2.2.2.2, Or.inr ⟨rfl, g5⟩⟩⟩)))
    · rw [if_neg q2, if_neg q2, z_bind_some]
      refine z_pos rfl (z_bind _ (z_add (s := -59) h4.2.1 (by rw [List.length_append]; omega)) (fun _ w hw => k_sat_mk ⟨h1.tr (hw.1.mono rfl rfl), fun _ => ⟨rfl, z_wx_f h4.1 (hw.1.mono rfl rfl) ((hw.1.1 1003 rfl).trans h4.1.2.2.2.1) h4.1.2.2.2.2, ?_⟩, fun q => (by cases q)⟩))
      have : L ++ z_l1 L.length ([], A) = L ++ A ++ [-59] := by
        unfold z_l1
        rw [if_pos rfl, List.append_assoc]
      rw [this]
      exact hw.2
  · rw [if_neg q1]
    obtain ⟨h4, rfl | ⟨rfl, h5⟩⟩ := h3 (by cases hq : (z_e6 (z_ch n b) i).1; rfl; exact absurd hq q1)
    · exact z_pos rfl (k_sat_mk ⟨h1, fun q => (by cases q), fun _ => ⟨h4, Or.inl rfl⟩⟩)
    · have hp := z_passes h4 (c := 63) (by omega)
      rw [if_neg (by omega)] at hp
      rw [show f_Reader_passes 63 v = _ from hp, z_bind_some]
      refine z_neg (by decide) (z_pos rfl (z_bind _ (z_addT _ v) (fun _ w hw => k_sat_mk ⟨h1.tr (hw.mono rfl rfl), fun q => (by cases q), fun _ => ⟨z_wx_f h4 (hw.mono rfl rfl) ((hw.1 1003 rfl).trans h4.2.2.2.1) h4.2.2.2.2, Or.inr ⟨rfl, h5⟩⟩⟩)))
def z_we (n : Nat) (b : Nat → Nat) (u : k_S) (i : Nat) (ls : List z_Ln) : Prop := z_wx n b u i ∧ z_wcs u (z_cls 0 ls) ∧ (z_cls 0 ls).length ≤ i + 1
theorem z_linesW {n : Nat} {b : Nat → Nat} (hn : n ≤ 120) : ∀ (m k : Nat) (u : k_S) (i : Nat) (ls : List z_Ln) (N : Nat), k + m = 120 → m + 1 < N → z_we n b u i ls → k_sat (k_itr (fun (x : (Int32)) u => f_Reader_lines_B11 x u) N (J k) u) (fun y v => z_fr [1002, 1003] [11] u v ∧ ((z_tl (z_ch n b) m i ls).1 = true → y = .inr () ∧ z_we n b v (z_tl (z_ch n b) m i ls).2.1 (z_tl (z_ch n b) m i ls).2.2) ∧ ((z_tl (z_ch n b) m i ls).1 = false → z_wx n b v (z_tl (z_ch n b) m i ls).2.1 ∧ (y = .inl 0 ∨ (y = .inr () ∧ 48 ≤ z_ch n b (z_tl (z_ch n b) m i ls).2.1 ∧ z_ch n b (z_tl (z_ch n b) m i ls).2.1 ≤ 57))))
  | 0, k, u, i, ls, N, hk, hN, hs => by
    obtain ⟨M, rfl⟩ : ∃ M, N = M + 1 := ⟨N - 1, by omega⟩
    refine z_exit ?_
    unfold f_Reader_lines_B11
    exact z_pos (by (try simp (disch := omega) only [Int32.lt_iff_toInt_lt, Int32.le_iff_toInt_le, ← Int32.toInt_inj, Int32.toInt_add, Int32.toInt_sub, Int32.toInt_mul, Int32.toInt_neg, z_bm, z_bm2, J_ti, J_toInt, z_cn, Int32.reduceToInt]) <;> omega) (k_sat_mk ⟨_, rfl, z_fr.rf, fun _ => ⟨rfl, hs⟩, fun q => by cases q⟩)
  | m + 1, k, u, i, ls, N, hk, hN, hs => by
    obtain ⟨M, rfl⟩ : ∃ M, N = M + 1 := ⟨N - 1, by omega⟩
    have hp := z_passes hs.1 (c := 59) (by omega)
    rw [z_tl]
    by_cases hc : z_ch n b i = 59
    · rw [if_pos hc] at hp ⊢
      have hin : i < n := z_ch_n (b := b) (by omega)
      have h0 : z_ws n b (k_wF u 1003 (J (i + 1))) (i + 1) (z_cls 0 ls) := ⟨(z_nx1 hs.1 hin).2, z_wcs_f hs.2.1 (by simp [k_wF]) rfl, hs.2.2⟩
      have hf0 : z_fr [1002, 1003] [11] u (k_wF u 1003 (J (i + 1))) := z_wF rfl
      obtain ⟨⟨r, v⟩, e, h1, h2, h3⟩ := z_lineW hn h0
      have k1 : z_fr [1002, 1003] [11] u v := hf0.tr h1
      have hB : f_Reader_lines_B11 (J k) u = if r = 0 then some (.inr (.inl 0), v) else some (.inl (J k + Int32.ofInt 1), v) := by
        unfold f_Reader_lines_B11
        rw [if_neg (by (try simp (disch := omega) only [Int32.lt_iff_toInt_lt, Int32.le_iff_toInt_le, ← Int32.toInt_inj, Int32.toInt_add, Int32.toInt_sub, Int32.toInt_mul, Int32.toInt_neg, z_bm, z_bm2, J_ti, J_toInt, z_cn, Int32.reduceToInt]) <;> omega), show f_Reader_passes 59 u = _ from hp, z_bind_some, if_neg (by decide), e, z_bind_some]
      obtain ⟨g1, g2, g3⟩ := z_ln_g (b := b) (i + 1) (z_cls 0 ls).length (show i + 1 ≤ n by omega)
      by_cases q : (z_ln (z_ch n b) (i + 1)).1 = true
      · rw [if_pos q]
        obtain ⟨rfl, h4, h5⟩ := h2 q
        rw [if_neg (by decide)] at hB
        refine z_turn ?_
        rw [hB]
        refine k_sat_mk ⟨_, rfl, ?_⟩
        rw [z_J1]
        have e2 : z_cls 0 (ls ++ [(z_ln (z_ch n b) (i + 1)).2.2]) = z_cls 0 ls ++ z_l1 (z_cls 0 ls).length (z_ln (z_ch n b) (i + 1)).2.2 := by
          rw [z_cls_app, Nat.zero_add]
        have hlen := (g3 q).2.2.2
        have hs3 := h0.2.2
        refine z_mono (z_linesW hn m (k + 1) v _ (ls ++ [(z_ln (z_ch n b) (i + 1)).2.2]) M (by omega) (by omega) ⟨h4, by rw [e2]; exact h5, by rw [e2, List.length_append]; omega⟩) (fun y w hw => ⟨k1.tr hw.1, hw.2⟩)
      · rw [if_neg q]
        obtain ⟨h4, h5⟩ := h3 (by cases hq : (z_ln (z_ch n b) (i + 1)).1; rfl; exact absurd hq q)
        dsimp only at h4 h5
        rcases h5 with rfl | ⟨rfl, h5⟩
        · rw [if_pos rfl] at hB
          refine z_exit ?_
          rw [hB]
          exact k_sat_mk ⟨_, rfl, k1, fun q' => (by cases q'), fun _ => ⟨h4, Or.inl rfl⟩⟩
        · rw [if_neg (by decide)] at hB
          refine z_turn ?_
          rw [hB]
          refine k_sat_mk ⟨_, rfl, ?_⟩
          rw [z_J1]
          obtain ⟨M', rfl⟩ : ∃ M', M = M' + 1 := ⟨M - 1, by omega⟩
          refine z_exit ?_
          unfold f_Reader_lines_B11
          by_cases hm : m = 0
          · exact z_pos (by (try simp (disch := omega) only [Int32.lt_iff_toInt_lt, Int32.le_iff_toInt_le, ← Int32.toInt_inj, Int32.toInt_add, Int32.toInt_sub, Int32.toInt_mul, Int32.toInt_neg, z_bm, z_bm2, J_ti, J_toInt, z_cn, Int32.reduceToInt]) <;> omega) (k_sat_mk ⟨_, rfl, k1, fun q' => (by cases q'), fun _ => ⟨h4, Or.inr ⟨rfl, h5⟩⟩⟩)
          · have hp2 := z_passes h4 (c := 59) (by omega)
            rw [if_neg (by omega)] at hp2
            rw [show f_Reader_passes 59 v = _ from hp2, z_bind_some]
            exact z_neg (by (try simp (disch := omega) only [Int32.lt_iff_toInt_lt, Int32.le_iff_toInt_le, ← Int32.toInt_inj, Int32.toInt_add, Int32.toInt_sub, Int32.toInt_mul, Int32.toInt_neg, z_bm, z_bm2, J_ti, J_toInt, z_cn, Int32.reduceToInt]) <;> omega) (z_pos rfl (k_sat_mk ⟨_, rfl, k1, fun q' => (by cases q'), fun _ => ⟨h4, Or.inr ⟨rfl, h5⟩⟩⟩))
    · rw [if_neg hc] at hp ⊢
      refine z_exit ?_
      unfold f_Reader_lines_B11
      rw [show f_Reader_passes 59 u = _ from hp, z_bind_some]
      exact z_neg (by (try simp (disch := omega) only [Int32.lt_iff_toInt_lt, Int32.le_iff_toInt_le, ← Int32.toInt_inj, Int32.toInt_add, Int32.toInt_sub, Int32.toInt_mul, Int32.toInt_neg, z_bm, z_bm2, J_ti, J_toInt, z_cn, Int32.reduceToInt]) <;> omega) (z_pos rfl (k_sat_mk ⟨_, rfl, z_fr.rf, fun _ => ⟨rfl, hs⟩, fun q => by cases q⟩))
