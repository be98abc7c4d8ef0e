/-! LAW: the reference's levels, numbers, operands -/
theorem z_fltR {n j i l : Nat} {b : Nat → Nat} {u : k_S} (h : z_rf n b u j i l) : (0 : Int32) ≤ u.1 4213 := by
  have h1 := h.1.1
  have h2 := h.2.2.1
  rw [h.2.1]
  (try simp (disch := omega) only [Int32.lt_iff_toInt_lt, Int32.le_iff_toInt_le, ← Int32.toInt_inj, Int32.toInt_add, Int32.toInt_sub, Int32.toInt_mul, Int32.toInt_neg, z_bm, z_bm2, J_ti, J_toInt, z_cn, Int32.reduceToInt]) <;> omega
theorem z_proR {n o : Nat} {b : Nat → Nat} {rc : k_S → Option (Unit × k_S)} {sg : z_Pa} (hn : n ≤ 120) (hf : z_PR n b o rc sg) (hg : z_gp n sg) : z_PR n b o (f_R_product rc) (z_lv (z_ch n b) [42, 47, 37] 120 sg) := by
  refine z_lvR (bd := fun u => f_R_product_B4 rc u) hf hn hg (fun u i L hs hc => ?_) (fun u j i l h => ?_) (fun c hc => ?_) (fun u i L hs ho hc => ?_)
  · obtain ⟨r, hr, hkk⟩ := z_look hs.1 hs.2.1 hs.2.2.1
    simp only [List.mem_cons, List.not_mem_nil, or_false] at hc
    unfold f_R_product_B4
    rw [hs.2.2.2.1, hr, z_bind_some, hr, z_bind_some, hr, z_bind_some]
    exact z_neg (by decide) (z_neg (fun q => hc (Or.inl ((z_lk_eq hkk (k := 42) (by omega)).mp q))) (z_neg (fun q => hc (Or.inr (Or.inl ((z_lk_eq hkk (k := 47) (by omega)).mp q)))) (z_neg (fun q => hc (Or.inr (Or.inr ((z_lk_eq hkk (k := 37) (by omega)).mp q)))) (k_sat_mk ⟨rfl, rfl⟩))))
  · unfold f_R_product_B4
    exact z_pos (z_fltR h) (k_sat_mk ⟨rfl, rfl⟩)
  · simp only [List.mem_cons, List.not_mem_nil, or_false] at hc
    omega
  · obtain ⟨r, hr, hkk⟩ := z_look hs.1 hs.2.1 hs.2.2.1
    have hi : i < n := z_ch_n (b := b) (fun q => by rw [q] at hc; simp at hc)
    have hco : z_ch n b i ∈ z_ops := by
      unfold z_ops
      simp only [List.mem_cons, List.not_mem_nil, or_false] at hc ⊢
      omega
    simp only [List.mem_cons, List.not_mem_nil, or_false] at hc
    have er : r = J (z_ch n b i) := z_lk_J hkk (by omega)
    have key : k_sat (f_R_product_J38 rc u) (z_hr n b o sg L i u (-(J (z_ch n b i)))) := by
      unfold f_R_product_J38
      rw [hr, z_bind_some, (z_nx2 hs hi).1, er]
      exact z_let (z_tailR hf hg hi hco hs ho)
    unfold f_R_product_B4
    rw [hs.2.2.2.1, hr, z_bind_some, hr, z_bind_some, hr, z_bind_some]
    refine z_neg (by decide) (z_ite (fun _ => key) (fun q1 => z_ite (fun _ => key) (fun q2 => z_ite (fun _ => key) (fun q3 => ?_))))
    rcases hc with c | c | c
    · exact absurd ((z_lk_eq hkk (k := 42) (by omega)).mpr c) q1
    · exact absurd ((z_lk_eq hkk (k := 47) (by omega)).mpr c) q2
    · exact absurd ((z_lk_eq hkk (k := 37) (by omega)).mpr c) q3
theorem z_smR {n o : Nat} {b : Nat → Nat} {rc : k_S → Option (Unit × k_S)} {sg : z_Pa} (hn : n ≤ 120) (hf : z_PR n b o (f_R_product rc) sg) (hg : z_gp n sg) : z_PR n b o (f_R_sum rc) (z_lv (z_ch n b) [43, 45] 120 sg) := by
  refine z_lvR (bd := fun u => f_R_sum_B4 rc u) hf hn hg (fun u i L hs hc => ?_) (fun u j i l h => ?_) (fun c hc => ?_) (fun u i L hs ho hc => ?_)
  · obtain ⟨r, hr, hkk⟩ := z_look hs.1 hs.2.1 hs.2.2.1
    simp only [List.mem_cons, List.not_mem_nil, or_false] at hc
    unfold f_R_sum_B4
    rw [hs.2.2.2.1, hr, z_bind_some, hr, z_bind_some]
    exact z_neg (by decide) (z_neg (fun q => hc (Or.inl ((z_lk_eq hkk (k := 43) (by omega)).mp q))) (z_neg (fun q => hc (Or.inr ((z_lk_eq hkk (k := 45) (by omega)).mp q))) (k_sat_mk ⟨rfl, rfl⟩)))
  · unfold f_R_sum_B4
    exact z_pos (z_fltR h) (k_sat_mk ⟨rfl, rfl⟩)
  · simp only [List.mem_cons, List.not_mem_nil, or_false] at hc
    omega
  · obtain ⟨r, hr, hkk⟩ := z_look hs.1 hs.2.1 hs.2.2.1
    have hi : i < n := z_ch_n (b := b) (fun q => by rw [q] at hc; simp at hc)
    have hco : z_ch n b i ∈ z_ops := by
      unfold z_ops
      simp only [List.mem_cons, List.not_mem_nil, or_false] at hc ⊢
      omega
    simp only [List.mem_cons, List.not_mem_nil, or_false] at hc
    have er : r = J (z_ch n b i) := z_lk_J hkk (by omega)
    have key : k_sat (f_R_sum_J29 rc u) (z_hr n b o sg L i u (-(J (z_ch n b i)))) := by
      unfold f_R_sum_J29
      rw [hr, z_bind_some, (z_nx2 hs hi).1, er]
      exact z_let (z_tailR hf hg hi hco hs ho)
    unfold f_R_sum_B4
    rw [hs.2.2.2.1, hr, z_bind_some, hr, z_bind_some]
    refine z_neg (by decide) (z_ite (fun _ => key) (fun q1 => z_ite (fun _ => key) (fun q2 => ?_)))
    rcases hc with c | c
    · exact absurd ((z_lk_eq hkk (k := 43) (by omega)).mpr c) q1
    · exact absurd ((z_lk_eq hkk (k := 45) (by omega)).mpr c) q2
theorem z_btR {n o : Nat} {b : Nat → Nat} {rc : k_S → Option (Unit × k_S)} {sg : z_Pa} (hn : n ≤ 120) (hf : z_PR n b o (f_R_compared rc) sg) (hg : z_gp n sg) : z_PR n b o (f_R_both rc) (z_lv (z_ch n b) [38] 120 sg) := by
  refine z_lvR (bd := fun u => f_R_both_B4 rc u) hf hn hg (fun u i L hs hc => ?_) (fun u j i l h => ?_) (fun c hc => ?_) (fun u i L hs ho hc => ?_)
  · obtain ⟨r, hr, hkk⟩ := z_look hs.1 hs.2.1 hs.2.2.1
    simp only [List.mem_cons, List.not_mem_nil, or_false] at hc
    unfold f_R_both_B4
    rw [hs.2.2.2.1, hr, z_bind_some]
    exact z_neg (by decide) (z_neg (fun q => hc ((z_lk_eq hkk (k := 38) (by omega)).mp q)) (k_sat_mk ⟨rfl, rfl⟩))
  · unfold f_R_both_B4
    exact z_pos (z_fltR h) (k_sat_mk ⟨rfl, rfl⟩)
  · simp only [List.mem_cons, List.not_mem_nil, or_false] at hc
    omega
  · obtain ⟨r, hr, hkk⟩ := z_look hs.1 hs.2.1 hs.2.2.1
    have hi : i < n := z_ch_n (b := b) (fun q => by rw [q] at hc; simp at hc)
    simp only [List.mem_cons, List.not_mem_nil, or_false] at hc
    unfold f_R_both_B4
    rw [hs.2.2.2.1, hr, z_bind_some, (z_nx2 hs hi).1, hc]
    exact z_neg (by decide) (z_pos ((z_lk_eq hkk (k := 38) (by omega)).mpr hc) (z_let (z_tailR (c := 38) hf hg hi (by decide) hs ho)))
theorem z_etR {n o : Nat} {b : Nat → Nat} {rc : k_S → Option (Unit × k_S)} {sg : z_Pa} (hn : n ≤ 120) (hf : z_PR n b o (f_R_both rc) sg) (hg : z_gp n sg) : z_PR n b o (f_R_either rc) (z_lv (z_ch n b) [124] 120 sg) := by
  refine z_lvR (bd := fun u => f_R_either_B4 rc u) hf hn hg (fun u i L hs hc => ?_) (fun u j i l h => ?_) (fun c hc => ?_) (fun u i L hs ho hc => ?_)
  · obtain ⟨r, hr, hkk⟩ := z_look hs.1 hs.2.1 hs.2.2.1
    simp only [List.mem_cons, List.not_mem_nil, or_false] at hc
    unfold f_R_either_B4
    rw [hs.2.2.2.1, hr, z_bind_some]
    exact z_neg (by decide) (z_neg (fun q => hc ((z_lk_eq hkk (k := 124) (by omega)).mp q)) (k_sat_mk ⟨rfl, rfl⟩))
  · unfold f_R_either_B4
    exact z_pos (z_fltR h) (k_sat_mk ⟨rfl, rfl⟩)
  · simp only [List.mem_cons, List.not_mem_nil, or_false] at hc
    omega
  · obtain ⟨r, hr, hkk⟩ := z_look hs.1 hs.2.1 hs.2.2.1
    have hi : i < n := z_ch_n (b := b) (fun q => by rw [q] at hc; simp at hc)
    simp only [List.mem_cons, List.not_mem_nil, or_false] at hc
    unfold f_R_either_B4
    rw [hs.2.2.2.1, hr, z_bind_some, (z_nx2 hs hi).1, hc]
    exact z_neg (by decide) (z_pos ((z_lk_eq hkk (k := 124) (by omega)).mpr hc) (z_let (z_tailR (c := 124) hf hg hi (by decide) hs ho)))
theorem z_cmR {n o : Nat} {b : Nat → Nat} {rc : k_S → Option (Unit × k_S)} {sg : z_Pa} (hn : n ≤ 120) (hf : z_PR n b o (f_R_sum rc) sg) (hg : z_gp n sg) : z_PR n b o (f_R_compared rc) (z_lv (z_ch n b) [60, 61, 62] 1 sg) := by
  intro u i L hs ho
  have hl := hs.2.2.2.2.2
  obtain ⟨gp1, gp2, gp3⟩ := hg i hs.2.2.1
  unfold f_R_compared
  refine z_bind _ (hf u i L hs ho) (fun _ v hv => ?_)
  obtain ⟨h1, h2, h3⟩ := hv
  unfold z_lv
  by_cases q : (sg i).1 = true
  · rw [if_pos q]
    obtain ⟨h4, h5⟩ := h2 q
    obtain ⟨-, gl, -, -⟩ := gp3 q
    generalize hj : (sg i).2.1 = j at *
    obtain ⟨r, hr, hkk⟩ := z_look h4.1 h4.2.1 h4.2.2.1
    rw [hr, z_bind_some, z_lp]
    refine z_neg (by rw [h4.2.2.2.1]; decide) ?_
    by_cases hc : z_ch n b j ∈ [60, 61, 62]
    · rw [if_pos hc]
      have hi : j < n := z_ch_n (b := b) (fun q => by rw [q] at hc; simp at hc)
      have hco : z_ch n b j ∈ z_ops := by
        unfold z_ops
        simp only [List.mem_cons, List.not_mem_nil, or_false] at hc ⊢
        omega
      simp only [List.mem_cons, List.not_mem_nil, or_false] at hc
      have er : r = J (z_ch n b j) := z_lk_J hkk (by omega)
      have key : k_sat (f_R_compared_J35 rc r v) (fun _ x => z_hr n b o sg (L ++ (sg i).2.2) j v (-(J (z_ch n b j))) (.inl ()) x) := by
        unfold f_R_compared_J35
        rw [(z_nx2 h4 hi).1, er]
        obtain ⟨⟨z, x⟩, e, hx⟩ := z_tailR (c := z_ch n b j) hf hg hi hco h4 h5
        refine z_let ?_
        unfold k_bind at e
        unfold k_bind
        cases h7 : f_R_sum rc (k_wF v 4212 (J (j + 1))) with
        | none => rw [h7] at e; cases e
        | some y =>
          obtain ⟨y1, y2⟩ := y
          rw [h7] at e
          dsimp only at e ⊢
          cases h8 : f_R_addStep (J (z_ch n b j)) 0 y2 with
          | none => rw [h8] at e; cases e
          | some t =>
            obtain ⟨t1, t2⟩ := t
            rw [h8] at e
            dsimp only at e ⊢
            cases e
            exact k_sat_mk hx
      have fin : k_sat (f_R_compared_J35 rc r v) (fun _ x => z_fk [4212, 4213, 4214, 4215] [49, 50] u x ∧ ((if (sg (j + 1)).1 = true then z_lp (z_ch n b) [60, 61, 62] sg 0 (sg (j + 1)).2.1 ((sg i).2.2 ++ (sg (j + 1)).2.2 ++ [-(J (z_ch n b j))]) else (false, (sg (j + 1)).2.1, [])).1 = true → z_rs n b x (if (sg (j + 1)).1 = true then z_lp (z_ch n b) [60, 61, 62] sg 0 (sg (j + 1)).2.1 ((sg i).2.2 ++ (sg (j + 1)).2.2 ++ [-(J (z_ch n b j))]) else (false, (sg (j + 1)).2.1, [])).2.1 (L ++ (if (sg (j + 1)).1 = true then z_lp (z_ch n b) [60, 61, 62] sg 0 (sg (j + 1)).2.1 ((sg i).2.2 ++ (sg (j + 1)).2.2 ++ [-(J (z_ch n b j))]) else (false, (sg (j + 1)).2.1, [])).2.2) ∧ x.1 4214 = J o) ∧ ((if (sg (j + 1)).1 = true then z_lp (z_ch n b) [60, 61, 62] sg 0 (sg (j + 1)).2.1 ((sg i).2.2 ++ (sg (j + 1)).2.2 ++ [-(J (z_ch n b j))]) else (false, (sg (j + 1)).2.1, [])).1 = false → z_rf n b x (if (sg (j + 1)).1 = true then z_lp (z_ch n b) [60, 61, 62] sg 0 (sg (j + 1)).2.1 ((sg i).2.2 ++ (sg (j + 1)).2.2 ++ [-(J (z_ch n b j))]) else (false, (sg (j + 1)).2.1, [])).2.1 i L.length)) := by
        refine z_mono key (fun _ x hx => ⟨h1.tr hx.2.1, fun q' => ?_, fun q' => ?_⟩)
        · by_cases q2 : (sg (j + 1)).1 = true
          · rw [if_pos q2, z_lp]
            have := hx.2.2.1 q2
            rw [List.append_assoc L, List.append_assoc L] at this
            exact this
          · rw [if_neg q2] at q'; cases q'
        · by_cases q2 : (sg (j + 1)).1 = true
          · rw [if_pos q2, z_lp] at q'; cases q'
          · rw [if_neg q2]
            have q3 : (sg (j + 1)).1 = false := by cases hq : (sg (j + 1)).1; rfl; exact absurd hq q2
            refine z_rf_w (hx.2.2.2 q3) gp1 ?_
            rw [List.length_append]
            omega
      refine z_ite (fun _ => fin) (fun q1 => z_ite (fun _ => fin) (fun q2 => z_ite (fun _ => fin) (fun q3 => ?_)))
      rcases hc with c | c | c
      · exact absurd ((z_lk_eq hkk (k := 60) (by omega)).mpr c) q1
      · exact absurd ((z_lk_eq hkk (k := 61) (by omega)).mpr c) q2
      · exact absurd ((z_lk_eq hkk (k := 62) (by omega)).mpr c) q3
    · rw [if_neg hc]
      simp only [List.mem_cons, List.not_mem_nil, or_false] at hc
      exact z_neg (fun q => hc (Or.inl ((z_lk_eq hkk (k := 60) (by omega)).mp q))) (z_neg (fun q => hc (Or.inr (Or.inl ((z_lk_eq hkk (k := 61) (by omega)).mp q)))) (z_neg (fun q => hc (Or.inr (Or.inr ((z_lk_eq hkk (k := 62) (by omega)).mp q)))) (k_sat_mk ⟨h1, fun _ => ⟨h4, h5⟩, fun q => (by cases q)⟩)))
  · rw [if_neg q]
    have h4 := h3 (by cases hq : (sg i).1; rfl; exact absurd hq q)
    obtain ⟨p1, p2, p3, x, y, p4, p5, p6, p7, p8⟩ := id h4
    obtain ⟨r, hr, hkk⟩ := z_look p1 p4 p5
    rw [hr, z_bind_some]
    exact z_pos (z_fltR h4) (k_sat_mk ⟨h1, fun q => (by cases q), fun _ => h4⟩)
theorem z_eiR {n o : Nat} {b : Nat → Nat} {rc : k_S → Option (Unit × k_S)} {sg : z_Pa} (hn : n ≤ 120) (hf : z_PR n b o rc sg) (hg : z_gp n sg) : z_PR n b o (f_R_either rc) (z_ei (z_ch n b) sg) := by
  have m1 : ∀ c, c ∈ [42, 47, 37] → c ∈ z_ops := z_mo (fun c hc => by simp only [List.mem_cons, List.not_mem_nil, or_false] at hc; omega)
  have m2 : ∀ c, c ∈ [43, 45] → c ∈ z_ops := z_mo (fun c hc => by simp only [List.mem_cons, List.not_mem_nil, or_false] at hc; omega)
  have m3 : ∀ c, c ∈ [60, 61, 62] → c ∈ z_ops := z_mo (fun c hc => by simp only [List.mem_cons, List.not_mem_nil, or_false] at hc; omega)
  have m4 : ∀ c, c ∈ [38] → c ∈ z_ops := z_mo (fun c hc => by simp only [List.mem_cons, List.not_mem_nil, or_false] at hc; omega)
  have g1 := z_lv_g (k := 120) (b := b) hg m1
  have g2 := z_lv_g (k := 120) (b := b) g1 m2
  have g3 := z_lv_g (k := 1) (b := b) g2 m3
  have g4 := z_lv_g (k := 120) (b := b) g3 m4
  exact z_etR hn (z_btR hn (z_cmR hn (z_smR hn (z_proR hn hf hg) g1) g2) g3) g4
theorem z_numR {n : Nat} {b : Nat → Nat} : ∀ (m k : Nat) (i v : Nat) (u : k_S) (L : List Int32) (N : Nat), k + m = 4 → m < N → z_rs n b u i L → v < 10 ^ k → k_sat (k_itr (fun (x : (Int32 × Int32)) u => f_R_figure_B4 x.1 x.2 u) N (J v, J k) u) (fun y w => z_fk [4212] [] u w ∧ y.1 = J (z_nm (z_ch n b) m i v).2 ∧ z_rs n b w (z_nm (z_ch n b) m i v).1 L ∧ ∃ c, k ≤ c ∧ c ≤ 4 ∧ y.2 = J c ∧ (c = k ↔ (m = 0 ∨ ¬ (48 ≤ z_ch n b i ∧ z_ch n b i ≤ 57))))
  | 0, k, i, v, u, L, N, hk, hN, hx, hv => by
    obtain ⟨M, rfl⟩ : ∃ M, N = M + 1 := ⟨N - 1, by omega⟩
    refine z_exit ?_
    unfold f_R_figure_B4
    dsimp only
    exact z_pos (by (try simp (disch := omega) only [Int32.lt_iff_toInt_lt, Int32.le_iff_toInt_le, ← Int32.toInt_inj, Int32.toInt_add, Int32.toInt_sub, Int32.toInt_mul, Int32.toInt_neg, z_bm, z_bm2, J_ti, J_toInt, z_cn, Int32.reduceToInt]) <;> omega) (k_sat_mk ⟨_, rfl, z_fk.rf, rfl, hx, k, Nat.le_refl _, by omega, rfl, fun _ => Or.inl rfl, fun _ => rfl⟩)
  | m + 1, k, i, v, u, L, N, hk, hN, hx, hv => by
    obtain ⟨M, rfl⟩ : ∃ M, N = M + 1 := ⟨N - 1, by omega⟩
    obtain ⟨r, hr, hkk⟩ := z_look hx.1 hx.2.1 hx.2.2.1
    have hv4 : v < 10000 := Nat.lt_of_lt_of_le hv (Nat.pow_le_pow_right (n := 10) (by omega) (show k ≤ 4 by omega))
    rw [z_nm]
    by_cases q : 48 ≤ z_ch n b i ∧ z_ch n b i ≤ 57
    · rw [if_pos q]
      have hi : i < n := z_ch_n (b := b) (by omega)
      have er : r = J (z_ch n b i) := z_lk_J hkk (by omega)
      refine z_turn ?_
      unfold f_R_figure_B4
      dsimp only
      rw [hr, z_bind_some, z_inR hkk, z_bind_some, if_pos q, hr, z_bind_some, er]
      have e10 : ((10 * J v) + J (z_ch n b i)) - 48 = J (10 * v + z_ch n b i - 48) := by
        rw [z_ten, show (48 : Int32) = J 48 from rfl, J_sub (by omega)]
      rw [e10, (z_nx2 hx hi).1]
      refine z_neg (by (try simp (disch := omega) only [Int32.lt_iff_toInt_lt, Int32.le_iff_toInt_le, ← Int32.toInt_inj, Int32.toInt_add, Int32.toInt_sub, Int32.toInt_mul, Int32.toInt_neg, z_bm, z_bm2, J_ti, J_toInt, z_cn, Int32.reduceToInt]) <;> omega) (z_neg (by decide) (z_let (z_let (k_sat_mk ⟨_, rfl, ?_⟩))))
      rw [z_J1]
      refine z_mono (z_numR m (k + 1) (i + 1) _ _ L M (by omega) (by omega) (z_nx2 hx hi).2 (by rw [Nat.pow_succ]; omega)) (fun y w hw => ⟨(z_kF rfl : z_fk [4212] [] u _).tr hw.1, hw.2.1, hw.2.2.1, ?_⟩)
      obtain ⟨c, c1, c2, c3, c4⟩ := hw.2.2.2
      refine ⟨c, by omega, c2, c3, fun x => by omega, fun x => ?_⟩
      rcases x with x | x
      · omega
      · exact absurd q x
    · rw [if_neg q]
      refine z_exit ?_
      unfold f_R_figure_B4
      dsimp only
      rw [hr, z_bind_some, z_inR hkk, z_bind_some, if_neg q]
      exact z_neg (by (try simp (disch := omega) only [Int32.lt_iff_toInt_lt, Int32.le_iff_toInt_le, ← Int32.toInt_inj, Int32.toInt_add, Int32.toInt_sub, Int32.toInt_mul, Int32.toInt_neg, z_bm, z_bm2, J_ti, J_toInt, z_cn, Int32.reduceToInt]) <;> omega) (z_pos rfl (k_sat_mk ⟨_, rfl, z_fk.rf, rfl, hx, k, Nat.le_refl _, by omega, rfl, fun _ => Or.inr q, fun _ => rfl⟩))
