/-! LAW: the class's levels -/
def z_hq (n : Nat) (b : Nat → Nat) (sg : z_Pa) (k : Nat) (L : List Int32) (i : Nat) (u : k_S) (s : Int32) (z : Int32 ⊕ (Int32 ⊕ Unit)) (v : k_S) : Prop := z_fr [1002, 1003] [11] u v ∧ ((sg (i + 1)).1 = true → z = .inl (J k + Int32.ofInt 1) ∧ z_ws n b v (sg (i + 1)).2.1 (L ++ (sg (i + 1)).2.2 ++ [s])) ∧ ((sg (i + 1)).1 = false → z_wx n b v (sg (i + 1)).2.1 ∧ (z = .inr (.inl 0) ∨ (z = .inl (J k + Int32.ofInt 1) ∧ 48 ≤ z_ch n b (sg (i + 1)).2.1 ∧ z_ch n b (sg (i + 1)).2.1 ≤ 57)))
theorem z_tailW {n i k : Nat} {b : Nat → Nat} {f : k_S → Option (Int32 × k_S)} {sg : z_Pa} {L : List Int32} {s : Int32} {u : k_S} (hn : n ≤ 120) (hf : z_PW n b f sg) (hg : z_gp n sg) (hi : i < n) (hs : z_ws n b u i L) : k_sat (k_bind (f (k_wF u 1003 (J (i + 1)))) (fun r7 u6 => if r7 = 0 then some ((.inr (.inl 0) : Int32 ⊕ (Int32 ⊕ Unit)), u6) else k_bind (f_Reader_add s u6) (fun _ u8 => some (.inl (J k + Int32.ofInt 1), u8)))) (z_hq n b sg k L i u s) := by
  have h0 : z_ws n b (k_wF u 1003 (J (i + 1))) (i + 1) L := ⟨(z_nx1 hs.1 hi).2, z_wcs_f hs.2.1 (by simp [k_wF]) rfl, by have := hs.2.2; omega⟩
  have hf0 : z_fr [1002, 1003] [11] u (k_wF u 1003 (J (i + 1))) := z_wF rfl
  obtain ⟨gp1, gp2, gp3⟩ := hg (i + 1) (by omega)
  refine z_bind _ (hf _ _ L h0) (fun r v hv => ?_)
  obtain ⟨h1, h2, h3⟩ := hv
  have h1 := hf0.tr h1
  cases q : (sg (i + 1)).1 with
  | true =>
    obtain ⟨rfl, h4⟩ := h2 q
    obtain ⟨-, gl, -, -⟩ := gp3 q
    have hl := hs.2.2
    refine z_neg (by decide) (z_bind _ (z_add (s := s) h4.2.1 (by rw [List.length_append]; omega)) (fun _ w hw => k_sat_mk ⟨h1.tr (hw.1.mono rfl rfl), fun _ => ⟨rfl, z_wx_f h4.1 (hw.1.mono rfl rfl) ((hw.1.1 1003 rfl).trans h4.1.2.2.2.1) h4.1.2.2.2.2, hw.2, ?_⟩, fun q' => absurd (q.symm.trans q') (by decide)⟩))
    rw [List.length_append, List.length_append, List.length_singleton]
    omega
  | false =>
    obtain ⟨h4, rfl | ⟨rfl, h5⟩⟩ := h3 q
    · exact z_pos rfl (k_sat_mk ⟨h1, fun q' => absurd (q.symm.trans q') (by decide), fun _ => ⟨h4, Or.inl rfl⟩⟩)
    · refine z_neg (by decide) (z_bind _ (z_addT s v) (fun _ w hw => k_sat_mk ⟨h1.tr (hw.mono rfl rfl), fun q' => absurd (q.symm.trans q') (by decide), fun _ => ⟨z_wx_f h4 (hw.mono rfl rfl) ((hw.1 1003 rfl).trans h4.2.2.2.1) h4.2.2.2.2, Or.inr ⟨rfl, h5⟩⟩⟩))
theorem z_mulW {n : Nat} {b : Nat → Nat} {rc : Int32 → k_S → Option (Int32 × k_S)} {p1 : Int32} {sg : z_Pa} (hn : n ≤ 120) (hf : z_PW n b (rc p1) sg) (hg : z_gp n sg) : z_PW n b (f_Reader_multiplied rc p1) (z_lv (z_ch n b) [42, 47, 37] 120 sg) := by
  refine z_lvW (bd := fun x u => f_Reader_multiplied_B12 rc p1 x u) hf (by omega) (by omega) (fun c hc => ?_) (fun k u i hk hx hc => ?_) (fun u => ?_) (fun k u i L hk hs hc => ?_)
  · simp only [List.mem_cons, List.not_mem_nil, or_false] at hc
    omega
  · obtain ⟨r, hr, hkk⟩ := z_at hx
    simp only [List.mem_cons, List.not_mem_nil, or_false] at hc
    unfold f_Reader_multiplied_B12
    rw [hr, z_bind_some]
    exact z_neg (by (try simp (disch := omega) only [Int32.lt_iff_toInt_lt, Int32.le_iff_toInt_le, ← Int32.toInt_inj, Int32.toInt_add, Int32.toInt_sub, Int32.toInt_mul, Int32.toInt_neg, z_bm, z_bm2, J_ti, J_toInt, z_cn, Int32.reduceToInt]) <;> omega) (z_neg (fun q => hc (Or.inl ((z_lk_eq hkk (k := 42) (by omega)).mp q))) (z_neg (fun q => hc (Or.inr (Or.inl ((z_lk_eq hkk (k := 47) (by omega)).mp q)))) (z_neg (fun q => hc (Or.inr (Or.inr ((z_lk_eq hkk (k := 37) (by omega)).mp q)))) (k_sat_mk ⟨rfl, Or.inl rfl⟩))))
  · unfold f_Reader_multiplied_B12
    exact z_pos (Int32.le_refl _) (k_sat_mk ⟨rfl, rfl⟩)
  · obtain ⟨r, hr, hkk⟩ := z_at hs.1
    have hi : i < n := z_ch_n (b := b) (fun q => by rw [q] at hc; simp at hc)
    simp only [List.mem_cons, List.not_mem_nil, or_false] at hc
    have er : r = J (z_ch n b i) := z_lk_J hkk (by omega)
    unfold f_Reader_multiplied_B12
    rw [hr, z_bind_some]
    have key : k_sat (f_Reader_multiplied_J50 rc p1 (J k) r u) (z_hq n b sg k L i u (-(J (z_ch n b i)))) := by
      unfold f_Reader_multiplied_J50
      rw [(z_nx1 hs.1 hi).1, er]
      exact z_let (z_tailW hn hf hg hi hs)
    refine z_neg (by (try simp (disch := omega) only [Int32.lt_iff_toInt_lt, Int32.le_iff_toInt_le, ← Int32.toInt_inj, Int32.toInt_add, Int32.toInt_sub, Int32.toInt_mul, Int32.toInt_neg, z_bm, z_bm2, J_ti, J_toInt, z_cn, Int32.reduceToInt]) <;> omega) (z_ite (fun _ => key) (fun q1 => z_ite (fun _ => key) (fun q2 => z_ite (fun _ => key) (fun q3 => ?_))))
    rcases hc with c | c | c
    · exact absurd ((z_lk_eq hkk (k := 42) (by omega)).mpr c) q1
    · exact absurd ((z_lk_eq hkk (k := 47) (by omega)).mpr c) q2
    · exact absurd ((z_lk_eq hkk (k := 37) (by omega)).mpr c) q3
theorem z_sumW {n : Nat} {b : Nat → Nat} {rc : Int32 → k_S → Option (Int32 × k_S)} {p1 : Int32} {sg : z_Pa} (hn : n ≤ 120) (hf : z_PW n b (f_Reader_multiplied rc p1) sg) (hg : z_gp n sg) : z_PW n b (f_Reader_summed rc p1) (z_lv (z_ch n b) [43, 45] 120 sg) := by
  refine z_lvW (bd := fun x u => f_Reader_summed_B12 rc p1 x u) hf (by omega) (by omega) (fun c hc => ?_) (fun k u i hk hx hc => ?_) (fun u => ?_) (fun k u i L hk hs hc => ?_)
  · simp only [List.mem_cons, List.not_mem_nil, or_false] at hc
    omega
  · obtain ⟨r, hr, hkk⟩ := z_at hx
    simp only [List.mem_cons, List.not_mem_nil, or_false] at hc
    unfold f_Reader_summed_B12
    rw [hr, z_bind_some]
    exact z_neg (by (try simp (disch := omega) only [Int32.lt_iff_toInt_lt, Int32.le_iff_toInt_le, ← Int32.toInt_inj, Int32.toInt_add, Int32.toInt_sub, Int32.toInt_mul, Int32.toInt_neg, z_bm, z_bm2, J_ti, J_toInt, z_cn, Int32.reduceToInt]) <;> omega) (z_neg (fun q => hc (Or.inl ((z_lk_eq hkk (k := 43) (by omega)).mp q))) (z_neg (fun q => hc (Or.inr ((z_lk_eq hkk (k := 45) (by omega)).mp q))) (k_sat_mk ⟨rfl, Or.inl rfl⟩)))
  · unfold f_Reader_summed_B12
    exact z_pos (Int32.le_refl _) (k_sat_mk ⟨rfl, rfl⟩)
  · obtain ⟨r, hr, hkk⟩ := z_at hs.1
    have hi : i < n := z_ch_n (b := b) (fun q => by rw [q] at hc; simp at hc)
    simp only [List.mem_cons, List.not_mem_nil, or_false] at hc
    have er : r = J (z_ch n b i) := z_lk_J hkk (by omega)
    unfold f_Reader_summed_B12
    rw [hr, z_bind_some]
    have key : k_sat (f_Reader_summed_J44 rc p1 (J k) r u) (z_hq n b sg k L i u (-(J (z_ch n b i)))) := by
      unfold f_Reader_summed_J44
      rw [(z_nx1 hs.1 hi).1, er]
      exact z_let (z_tailW hn hf hg hi hs)
    refine z_neg (by (try simp (disch := omega) only [Int32.lt_iff_toInt_lt, Int32.le_iff_toInt_le, ← Int32.toInt_inj, Int32.toInt_add, Int32.toInt_sub, Int32.toInt_mul, Int32.toInt_neg, z_bm, z_bm2, J_ti, J_toInt, z_cn, Int32.reduceToInt]) <;> omega) (z_ite (fun _ => key) (fun q1 => z_ite (fun _ => key) (fun q2 => ?_)))
    rcases hc with c | c
    · exact absurd ((z_lk_eq hkk (k := 43) (by omega)).mpr c) q1
    · exact absurd ((z_lk_eq hkk (k := 45) (by omega)).mpr c) q2
theorem z_cmpW {n : Nat} {b : Nat → Nat} {rc : Int32 → k_S → Option (Int32 × k_S)} {p1 : Int32} {sg : z_Pa} (hn : n ≤ 120) (hf : z_PW n b (f_Reader_summed rc p1) sg) (hg : z_gp n sg) : z_PW n b (f_Reader_compared rc p1) (z_lv (z_ch n b) [60, 61, 62] 1 sg) := by
  intro u i L hs
  obtain ⟨gp1, gp2, gp3⟩ := hg i hs.1.2.2.2.2
  unfold f_Reader_compared
  refine z_bind _ (hf u i L hs) (fun r v hv => ?_)
  obtain ⟨h1, h2, h3⟩ := hv
  unfold z_lv
  by_cases q : (sg i).1 = true
  · rw [if_pos q]
    obtain ⟨rfl, h4⟩ := h2 q
    refine z_neg (by decide) ?_
    generalize hj : (sg i).2.1 = j at *
    obtain ⟨r, hr, hkk⟩ := z_at h4.1
    rw [hr, z_bind_some, z_lp]
    by_cases hc : z_ch n b j ∈ [60, 61, 62]
    · rw [if_pos hc]
      have hi : j < n := z_ch_n (b := b) (fun q => by rw [q] at hc; simp at hc)
      simp only [List.mem_cons, List.not_mem_nil, or_false] at hc
      have er : r = J (z_ch n b j) := z_lk_J hkk (by omega)
      have h0 : z_ws n b (k_wF v 1003 (J (j + 1))) (j + 1) (L ++ (sg i).2.2) := ⟨(z_nx1 h4.1 hi).2, z_wcs_f h4.2.1 (by simp [k_wF]) rfl, by have := h4.2.2; omega⟩
      have hf0 : z_fr [1002, 1003] [11] v (k_wF v 1003 (J (j + 1))) := z_wF rfl
      obtain ⟨gp4, gp5, gp6⟩ := hg (j + 1) (by omega)
      have key : k_sat (f_Reader_compared_J42 rc p1 r v) (fun r v' => z_fr [1002, 1003] [11] v v' ∧ ((sg (j + 1)).1 = true → r = 1 ∧ z_ws n b v' (sg (j + 1)).2.1 (L ++ ((sg i).2.2 ++ (sg (j + 1)).2.2 ++ [-(J (z_ch n b j))]))) ∧ ((sg (j + 1)).1 = false → z_wx n b v' (sg (j + 1)).2.1 ∧ (r = 0 ∨ (r = 1 ∧ 48 ≤ z_ch n b (sg (j + 1)).2.1 ∧ z_ch n b (sg (j + 1)).2.1 ≤ 57)))) := by
        unfold f_Reader_compared_J42
        rw [(z_nx1 h4.1 hi).1, er]
        refine z_let (z_bind _ (hf _ _ _ h0) (fun r2 w hw => ?_))
        obtain ⟨k1, k2, k3⟩ := hw
        have k1 := hf0.tr k1
        cases q2 : (sg (j + 1)).1 with
        | true =>
          obtain ⟨rfl, k4⟩ := k2 q2
          obtain ⟨-, gl, -, -⟩ := gp6 q2
          have hl := h4.2.2
          refine z_neg (by decide) (z_bind _ (z_add (s := -(J (z_ch n b j))) k4.2.1 (by rw [List.length_append]; omega)) (fun _ x hx => k_sat_mk ⟨k1.tr (hx.1.mono rfl rfl), fun _ => ⟨rfl, z_wx_f k4.1 (hx.1.mono rfl rfl) ((hx.1.1 1003 rfl).trans k4.1.2.2.2.1) k4.1.2.2.2.2, ?_, ?_⟩, fun q => (by cases q)⟩))
          · rw [← List.append_assoc, ← List.append_assoc]
            exact hx.2
          · rw [← List.append_assoc, ← List.append_assoc, List.length_append, List.length_append, List.length_singleton]
            omega
        | false =>
          obtain ⟨k4, rfl | ⟨rfl, k5⟩⟩ := k3 q2
          · exact z_pos rfl (k_sat_mk ⟨k1, fun q => (by cases q), fun _ => ⟨k4, Or.inl rfl⟩⟩)
          · refine z_neg (by decide) (z_bind _ (z_addT _ w) (fun _ x hx => k_sat_mk ⟨k1.tr (hx.mono rfl rfl), fun q => (by cases q), fun _ => ⟨z_wx_f k4 (hx.mono rfl rfl) ((hx.1 1003 rfl).trans k4.2.2.2.1) k4.2.2.2.2, Or.inr ⟨rfl, k5⟩⟩⟩))
      have fin : k_sat (f_Reader_compared_J42 rc p1 r v) _ := z_mono key (fun r' v' hv' => (⟨h1.tr hv'.1, fun q' => ?_, fun q' => ?_⟩ : z_fr [1002, 1003] [11] u v' ∧ ((if (sg (j + 1)).1 = true then z_lp (z_ch n b) [60, 61, 62] sg 0 (sg (j + 1)).2.1 ((sg i).2.2 ++ (sg (j + 1)).2.2 ++ [-(J (z_ch n b j))]) else (false, (sg (j + 1)).2.1, [])).1 = true → r' = 1 ∧ z_ws n b v' (if (sg (j + 1)).1 = true then z_lp (z_ch n b) [60, 61, 62] sg 0 (sg (j + 1)).2.1 ((sg i).2.2 ++ (sg (j + 1)).2.2 ++ [-(J (z_ch n b j))]) else (false, (sg (j + 1)).2.1, [])).2.1 (L ++ (if (sg (j + 1)).1 = true then z_lp (z_ch n b) [60, 61, 62] sg 0 (sg (j + 1)).2.1 ((sg i).2.2 ++ (sg (j + 1)).2.2 ++ [-(J (z_ch n b j))]) else (false, (sg (j + 1)).2.1, [])).2.2) ) ∧ ((if (sg (j + 1)).1 = true then z_lp (z_ch n b) [60, 61, 62] sg 0 (sg (j + 1)).2.1 ((sg i).2.2 ++ (sg (j + 1)).2.2 ++ [-(J (z_ch n b j))]) else (false, (sg (j + 1)).2.1, [])).1 = false → z_wx n b v' (if (sg (j + 1)).1 = true then z_lp (z_ch n b) [60, 61, 62] sg 0 (sg (j + 1)).2.1 ((sg i).2.2 ++ (sg (j + 1)).2.2 ++ [-(J (z_ch n b j))]) else (false, (sg (j + 1)).2.1, [])).2.1 ∧ (r' = 0 ∨ (r' = 1 ∧ 48 ≤ z_ch n b (if (sg (j + 1)).1 = true then z_lp (z_ch n b) [60, 61, 62] sg 0 (sg (j + 1)).2.1 ((sg i).2.2 ++ (sg (j + 1)).2.2 ++ [-(J (z_ch n b j))]) else (false, (sg (j + 1)).2.1, [])).2.1 ∧ z_ch n b (if (sg (j + 1)).1 = true then z_lp (z_ch n b) [60, 61, 62] sg 0 (sg (j + 1)).2.1 ((sg i).2.2 ++ (sg (j + 1)).2.2 ++ [-(J (z_ch n b j))]) else (false, (sg (j + 1)).2.1, [])).2.1 ≤ 57)))))
      · refine z_ite (fun _ => fin) (fun q1 => z_ite (fun _ => fin) (fun q2 => z_ite (fun _ => fin) (fun q3 => ?_)))
        rcases hc with c | c | c
        · exact absurd ((z_lk_eq hkk (k := 60) (by omega)).mpr c) q1
        · exact absurd ((z_lk_eq hkk (k := 61) (by omega)).mpr c) q2
        · exact absurd ((z_lk_eq hkk (k := 62) (by omega)).mpr c) q3
      · cases q2 : (sg (j + 1)).1 with
        | true => rw [if_pos rfl, z_lp]; exact hv'.2.1 q2
        | false => rw [q2, if_neg (by decide)] at q'; cases q'
      · cases q2 : (sg (j + 1)).1 with
        | true => rw [q2, if_pos rfl, z_lp] at q'; cases q'
        | false => rw [if_neg (by decide)]; exact hv'.2.2 q2
    · rw [if_neg hc]
      simp only [List.mem_cons, List.not_mem_nil, or_false] at hc
      exact z_neg (fun q => hc (Or.inl ((z_lk_eq hkk (k := 60) (by omega)).mp q))) (z_neg (fun q => hc (Or.inr (Or.inl ((z_lk_eq hkk (k := 61) (by omega)).mp q)))) (z_neg (fun q => hc (Or.inr (Or.inr ((z_lk_eq hkk (k := 62) (by omega)).mp q)))) (k_sat_mk ⟨h1, fun _ => ⟨rfl, h4⟩, fun q => (by cases q)⟩)))
  · rw [if_neg q]
    obtain ⟨h4, rfl | ⟨rfl, h5⟩⟩ := h3 (by cases hq : (sg i).1; rfl; exact absurd hq q)
    · exact z_pos rfl (k_sat_mk ⟨h1, fun q => (by cases q), fun _ => ⟨h4, Or.inl rfl⟩⟩)
    · obtain ⟨r, hr, hkk⟩ := z_at h4
      rw [hr, z_bind_some]
      refine z_neg (by decide) (z_neg (fun q => ?_) (z_neg (fun q => ?_) (z_neg (fun q => ?_) (k_sat_mk ⟨h1, fun q => (by cases q), fun _ => ⟨h4, Or.inr ⟨rfl, h5⟩⟩⟩))))
      · have := (z_lk_eq hkk (k := 60) (by omega)).mp q; omega
      · have := (z_lk_eq hkk (k := 61) (by omega)).mp q; omega
      · have := (z_lk_eq hkk (k := 62) (by omega)).mp q; omega
