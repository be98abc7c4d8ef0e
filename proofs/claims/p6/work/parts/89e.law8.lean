/-! LAW: the class's levels with a named sign; numbers; single expressions -/
theorem z_botW {n : Nat} {b : Nat → Nat} {rc : Int32 → k_S → Option (Int32 × k_S)} {p1 : Int32} {sg : z_Pa} (hn : n ≤ 120) (hf : z_PW n b (f_Reader_compared rc p1) sg) (hg : z_gp n sg) : z_PW n b (f_Reader_both rc p1) (z_lv (z_ch n b) [38] 120 sg) := by
  refine z_lvW (bd := fun x u => f_Reader_both_B12 rc p1 x u) hf (by omega) (by omega) (fun c hc => ?_) (fun k u i hk hx hc => ?_) (fun u => ?_) (fun k u i L hk hs hc => ?_)
  · simp only [List.mem_cons, List.not_mem_nil, or_false] at hc
    omega
  · simp only [List.mem_cons, List.not_mem_nil, or_false] at hc
    have hp := z_passes hx (c := 38) (by omega)
    rw [if_neg hc] at hp
    unfold f_Reader_both_B12
    rw [show f_Reader_passes 38 u = some (0, u) from hp, z_bind_some]
    exact z_neg (by (try simp (disch := omega) only [Int32.lt_iff_toInt_lt, Int32.le_iff_toInt_le, ← Int32.toInt_inj, Int32.toInt_add, Int32.toInt_sub, Int32.toInt_mul, Int32.toInt_neg, z_bm, z_bm2, J_ti, J_toInt, z_cn, Int32.reduceToInt]) <;> omega) (z_pos rfl (k_sat_mk ⟨rfl, Or.inr rfl⟩))
  · unfold f_Reader_both_B12
    exact z_pos (Int32.le_refl _) (k_sat_mk ⟨rfl, rfl⟩)
  · have hi : i < n := z_ch_n (b := b) (fun q => by rw [q] at hc; simp at hc)
    simp only [List.mem_cons, List.not_mem_nil, or_false] at hc
    have hp := z_passes hs.1 (c := 38) (by omega)
    rw [if_pos hc] at hp
    unfold f_Reader_both_B12
    rw [show f_Reader_passes 38 u = some (1, k_wF u 1003 (J (i + 1))) from hp, z_bind_some, hc]
    exact z_neg (by (try simp (disch := omega) only [Int32.lt_iff_toInt_lt, Int32.le_iff_toInt_le, ← Int32.toInt_inj, Int32.toInt_add, Int32.toInt_sub, Int32.toInt_mul, Int32.toInt_neg, z_bm, z_bm2, J_ti, J_toInt, z_cn, Int32.reduceToInt]) <;> omega) (z_neg (by decide) (z_tailW hn hf hg hi hs))
theorem z_eitW {n : Nat} {b : Nat → Nat} {rc : Int32 → k_S → Option (Int32 × k_S)} {p1 : Int32} {sg : z_Pa} (hn : n ≤ 120) (hf : z_PW n b (f_Reader_both rc p1) sg) (hg : z_gp n sg) : z_PW n b (f_Reader_either rc p1) (z_lv (z_ch n b) [124] 120 sg) := by
  refine z_lvW (bd := fun x u => f_Reader_either_B12 rc p1 x u) hf (by omega) (by omega) (fun c hc => ?_) (fun k u i hk hx hc => ?_) (fun u => ?_) (fun k u i L hk hs hc => ?_)
  · simp only [List.mem_cons, List.not_mem_nil, or_false] at hc
    omega
  · simp only [List.mem_cons, List.not_mem_nil, or_false] at hc
    have hp := z_passes hx (c := 124) (by omega)
    rw [if_neg hc] at hp
    unfold f_Reader_either_B12
    rw [show f_Reader_passes 124 u = some (0, u) from hp, z_bind_some]
    exact z_neg (by (try simp (disch := omega) only [Int32.lt_iff_toInt_lt, Int32.le_iff_toInt_le, ← Int32.toInt_inj, Int32.toInt_add, Int32.toInt_sub, Int32.toInt_mul, Int32.toInt_neg, z_bm, z_bm2, J_ti, J_toInt, z_cn, Int32.reduceToInt]) <;> omega) (z_pos rfl (k_sat_mk ⟨rfl, Or.inr rfl⟩))
  · unfold f_Reader_either_B12
    exact z_pos (Int32.le_refl _) (k_sat_mk ⟨rfl, rfl⟩)
  · have hi : i < n := z_ch_n (b := b) (fun q => by rw [q] at hc; simp at hc)
    simp only [List.mem_cons, List.not_mem_nil, or_false] at hc
    have hp := z_passes hs.1 (c := 124) (by omega)
    rw [if_pos hc] at hp
    unfold f_Reader_either_B12
    rw [show f_Reader_passes 124 u = some (1, k_wF u 1003 (J (i + 1))) from hp, z_bind_some, hc]
    exact z_neg (by (try simp (disch := omega) only [Int32.lt_iff_toInt_lt, Int32.le_iff_toInt_le, ← Int32.toInt_inj, Int32.toInt_add, Int32.toInt_sub, Int32.toInt_mul, Int32.toInt_neg, z_bm, z_bm2, J_ti, J_toInt, z_cn, Int32.reduceToInt]) <;> omega) (z_neg (by decide) (z_tailW hn hf hg hi hs))
theorem z_mo {os : List Nat} (h : ∀ c, c ∈ os → c = 124 ∨ c = 38 ∨ c = 60 ∨ c = 61 ∨ c = 62 ∨ c = 43 ∨ c = 45 ∨ c = 42 ∨ c = 47 ∨ c = 37) : ∀ c, c ∈ os → c ∈ z_ops := by
  intro c hc
  have := h c hc
  unfold z_ops
  simp only [List.mem_cons, List.not_mem_nil, or_false]
  omega
theorem z_eiW {n : Nat} {b : Nat → Nat} {rc : Int32 → k_S → Option (Int32 × k_S)} {p1 : Int32} {sg : z_Pa} (hn : n ≤ 120) (hf : z_PW n b (rc p1) sg) (hg : z_gp n sg) : z_PW n b (f_Reader_either rc p1) (z_ei (z_ch n b) sg) := by
  have m1 : ∀ c, c ∈ [42, 47, 37] → c ∈ z_ops := z_mo (fun c hc => by simp only [List.mem_cons, List.not_mem_nil, or_false] at hc; omega)
  have m2 : ∀ c, c ∈ [43, 45] → c ∈ z_ops := z_mo (fun c hc => by simp only [List.mem_cons, List.not_mem_nil, or_false] at hc; omega)
  have m3 : ∀ c, c ∈ [60, 61, 62] → c ∈ z_ops := z_mo (fun c hc => by simp only [List.mem_cons, List.not_mem_nil, or_false] at hc; omega)
  have m4 : ∀ c, c ∈ [38] → c ∈ z_ops := z_mo (fun c hc => by simp only [List.mem_cons, List.not_mem_nil, or_false] at hc; omega)
  have g1 := z_lv_g (k := 120) (b := b) hg m1
  have g2 := z_lv_g (k := 120) (b := b) g1 m2
  have g3 := z_lv_g (k := 1) (b := b) g2 m3
  have g4 := z_lv_g (k := 120) (b := b) g3 m4
  exact z_eitW hn (z_botW hn (z_cmpW hn (z_sumW hn (z_mulW hn hf hg) g1) g2) g3) g4
theorem z_numW {n : Nat} {b : Nat → Nat} : ∀ (m k : Nat) (i v : Nat) (u : k_S) (N : Nat), k + m = 4 → m < N → z_wx n b u i → v < 10 ^ k → k_sat (k_itr (fun (x : (Int32 × Int32)) u => f_Reader_number_B4 x.1 x.2 u) N (J v, J k) u) (fun y w => z_fr [1003] [] u w ∧ y = J (z_nm (z_ch n b) m i v).2 ∧ z_wx n b w (z_nm (z_ch n b) m i v).1)
  | 0, k, i, v, u, N, hk, hN, hx, hv => by
    obtain ⟨M, rfl⟩ : ∃ M, N = M + 1 := ⟨N - 1, by omega⟩
    refine z_exit ?_
    unfold f_Reader_number_B4
    dsimp only
    exact z_pos (by (try simp (disch := omega) only [Int32.lt_iff_toInt_lt, Int32.le_iff_toInt_le, ← Int32.toInt_inj, Int32.toInt_add, Int32.toInt_sub, Int32.toInt_mul, Int32.toInt_neg, z_bm, z_bm2, J_ti, J_toInt, z_cn, Int32.reduceToInt]) <;> omega) (k_sat_mk ⟨_, rfl, z_fr.rf, rfl, hx⟩)
  | m + 1, k, i, v, u, N, hk, hN, hx, hv => by
    obtain ⟨M, rfl⟩ : ∃ M, N = M + 1 := ⟨N - 1, by omega⟩
    obtain ⟨r, hr, hkk⟩ := z_at hx
    have hv4 : v < 10000 := Nat.lt_of_lt_of_le hv (Nat.pow_le_pow_right (n := 10) (by omega) (show k ≤ 4 by omega))
    rw [z_nm]
    by_cases q : 48 ≤ z_ch n b i ∧ z_ch n b i ≤ 57
    · rw [if_pos q]
      have hi : i < n := z_ch_n (b := b) (by omega)
      have er : r = J (z_ch n b i) := z_lk_J hkk (by omega)
      refine z_turn ?_
      unfold f_Reader_number_B4
      dsimp only
      rw [hr, z_bind_some, z_digW hkk, z_bind_some, if_pos q, hr, z_bind_some, er]
      have e10 : ((10 * J v) + J (z_ch n b i)) - 48 = J (10 * v + z_ch n b i - 48) := by
        rw [z_ten, show (48 : Int32) = J 48 from rfl, J_sub (by omega)]
      rw [e10, (z_nx1 hx hi).1]
      refine z_neg (by (try simp (disch := omega) only [Int32.lt_iff_toInt_lt, Int32.le_iff_toInt_le, ← Int32.toInt_inj, Int32.toInt_add, Int32.toInt_sub, Int32.toInt_mul, Int32.toInt_neg, z_bm, z_bm2, J_ti, J_toInt, z_cn, Int32.reduceToInt]) <;> omega) (z_neg (by decide) (z_let (z_let (k_sat_mk ⟨_, rfl, ?_⟩))))
      rw [z_J1]
      refine z_mono (z_numW m (k + 1) (i + 1) _ _ M (by omega) (by omega) (z_nx1 hx hi).2 (by rw [Nat.pow_succ]; omega)) (fun y w hw => ⟨(z_wF rfl : z_fr [1003] [] u _).tr hw.1, hw.2⟩)
    · rw [if_neg q]
      refine z_exit ?_
      unfold f_Reader_number_B4
      dsimp only
      rw [hr, z_bind_some, z_digW hkk, z_bind_some, if_neg q]
      exact z_neg (by (try simp (disch := omega) only [Int32.lt_iff_toInt_lt, Int32.le_iff_toInt_le, ← Int32.toInt_inj, Int32.toInt_add, Int32.toInt_sub, Int32.toInt_mul, Int32.toInt_neg, z_bm, z_bm2, J_ti, J_toInt, z_cn, Int32.reduceToInt]) <;> omega) (z_pos rfl (k_sat_mk ⟨_, rfl, z_fr.rf, rfl, hx⟩))
theorem z_sinW {n d : Nat} {b : Nat → Nat} {rc : Int32 → k_S → Option (Int32 × k_S)} {o : Option z_Pa} (hn : n ≤ 120) (hd : d ≤ 6) (h0 : d = 0 → o = none) (h1 : 0 < d → ∃ sg, o = some sg ∧ z_gp n sg ∧ z_PW n b (rc (J (6 - d + 1))) sg) : z_PW n b (f_Reader_single rc (J (6 - d))) (z_s1 (z_ch n b) o) := by
  intro u i L hs
  have hl := hs.2.2
  obtain ⟨r, hr, hkk⟩ := z_at hs.1
  unfold f_Reader_single z_s1
  rw [hr, z_bind_some, z_digW hkk, z_bind_some]
  by_cases q1 : 48 ≤ z_ch n b i ∧ z_ch n b i ≤ 57
  · have hnm : (z_nm (z_ch n b) 4 i 0).1 = (z_nm (z_ch n b) 3 (i + 1) (10 * 0 + z_ch n b i - 48)).1 := by rw [z_nm, if_pos q1]
    have hin : i < n := z_ch_n (b := b) (by omega)
    have hgm := z_nm_g (n := n) (b := b) 3 (i + 1) (10 * 0 + z_ch n b i - 48) (by omega)
    rw [if_pos q1, if_pos q1]
    refine z_neg (by decide) ?_
    unfold f_Reader_number f_Reader_number_J62
    have hnum : k_sat (k_itr (fun (x : (Int32 × Int32)) u => f_Reader_number_B4 x.1 x.2 u) k_FU (0, 0) u) _ := z_numW 4 0 i 0 u k_FU rfl (by unfold k_FU; omega) hs.1 (by decide)
    by_cases q2 : 48 ≤ z_ch n b (z_nm (z_ch n b) 4 i 0).1 ∧ z_ch n b (z_nm (z_ch n b) 4 i 0).1 ≤ 57
    · rw [if_pos q2]
      refine z_bind (fun _ w => z_fr [1002, 1003] [11] u w ∧ z_wx n b w (z_nm (z_ch n b) 4 i 0).1) (z_bind _ hnum (fun y w hw => z_bind _ (z_addT y w) (fun _ x hx => k_sat_mk ⟨(hw.1.mono rfl rfl).tr (hx.mono rfl rfl), ?_⟩))) (fun _ w hw => k_sat_mk ⟨hw.1, fun q => (by cases q), fun _ => ⟨hw.2, Or.inr ⟨rfl, q2⟩⟩⟩)
      exact z_wx_f hw.2.2 (hx.mono rfl rfl) ((hx.1 1003 rfl).trans hw.2.2.2.2.2.1) hw.2.2.2.2.2.2
    · rw [if_neg q2]
      refine z_bind (fun _ w => z_fr [1002, 1003] [11] u w ∧ z_wx n b w (z_nm (z_ch n b) 4 i 0).1 ∧ z_wcs w (L ++ [J (z_nm (z_ch n b) 4 i 0).2])) (z_bind _ hnum (fun y w hw => ?_)) (fun _ w hw => k_sat_mk ⟨hw.1, fun _ => ⟨rfl, hw.2.1, hw.2.2, ?_⟩, fun q => (by cases q)⟩)
      · obtain ⟨g1, rfl, g2⟩ := hw
        refine z_bind _ (z_add (z_wcs_f hs.2.1 (g1.1 1002 rfl) (g1.2.1 11 rfl)) (by omega)) (fun _ x hx => k_sat_mk ⟨(g1.mono rfl rfl).tr (hx.1.mono rfl rfl), ?_, hx.2⟩)
        exact z_wx_f g2 (hx.1.mono rfl rfl) ((hx.1.1 1003 rfl).trans g2.2.2.2.1) g2.2.2.2.2
      · dsimp only
        rw [List.length_append, List.length_singleton, hnm]
        omega
  rw [if_neg q1, if_neg q1]
  refine z_pos rfl ?_
  by_cases q2 : z_ch n b i = 116 ∨ z_ch n b i = 112 ∨ z_ch n b i = 107 ∨ z_ch n b i = 122
  · have hin : i < n := z_ch_n (b := b) (by omega)
    have er : r = J (z_ch n b i) := z_lk_J hkk (by omega)
    rw [if_pos q2]
    have key : k_sat (f_Reader_single_J49 rc r u) (fun r' v => z_fr [1002, 1003] [11] u v ∧ ((true, i + 1, [-(J (z_ch n b i))]).1 = true → r' = 1 ∧ z_ws n b v (true, i + 1, [-(J (z_ch n b i))]).2.1 (L ++ (true, i + 1, [-(J (z_ch n b i))]).2.2)) ∧ ((true, i + 1, [-(J (z_ch n b i))]).1 = false → z_wx n b v (true, i + 1, [-(J (z_ch n b i))]).2.1 ∧ (r' = 0 ∨ (r' = 1 ∧ 48 ≤ z_ch n b (true, i + 1, [-(J (z_ch n b i))]).2.1 ∧ z_ch n b (true, i + 1, [-(J (z_ch n b i))]).2.1 ≤ 57)))) := by
      unfold f_Reader_single_J49
      rw [(z_nx1 hs.1 hin).1, er]
      have hw := (z_nx1 hs.1 hin).2
      refine z_let (z_bind _ (z_add (s := -(J (z_ch n b i))) (z_wcs_f (v := k_wF u 1003 (J (i + 1))) hs.2.1 (by simp [k_wF]) rfl) (by omega)) (fun _ x hx => k_sat_mk ⟨(z_wF rfl).tr (hx.1.mono rfl rfl), fun _ => ⟨rfl, ?_, hx.2, ?_⟩, fun q => (by cases q)⟩))
      · exact z_wx_f hw (hx.1.mono rfl rfl) ((hx.1.1 1003 rfl).trans hw.2.2.2.1) hw.2.2.2.2
      · dsimp only
        rw [List.length_append, List.length_singleton]
        omega
    refine z_ite (fun _ => key) (fun c1 => z_ite (fun _ => key) (fun c2 => z_ite (fun _ => key) (fun c3 => z_ite (fun _ => key) (fun c4 => ?_))))
    rcases q2 with c | c | c | c
    · exact absurd ((z_lk_eq hkk (k := 116) (by omega)).mpr c) c1
    · exact absurd ((z_lk_eq hkk (k := 112) (by omega)).mpr c) c2
    · exact absurd ((z_lk_eq hkk (k := 107) (by omega)).mpr c) c3
    · exact absurd ((z_lk_eq hkk (k := 122) (by omega)).mpr c) c4
  rw [if_neg q2]
  refine z_neg (fun x => q2 (Or.inl ((z_lk_eq hkk (k := 116) (by omega)).mp x))) (z_neg (fun x => q2 (Or.inr (Or.inl ((z_lk_eq hkk (k := 112) (by omega)).mp x)))) (z_neg (fun x => q2 (Or.inr (Or.inr (Or.inl ((z_lk_eq hkk (k := 107) (by omega)).mp x))))) (z_neg (fun x => q2 (Or.inr (Or.inr (Or.inr ((z_lk_eq hkk (k := 122) (by omega)).mp x))))) ?_)))
  by_cases hd0 : d = 0
  · rw [h0 hd0]
    dsimp only
    have key : k_sat (f_Reader_single_J87 rc (J (6 - d)) r u) (fun r' v => z_fr [1002, 1003] [11] u v ∧ (false = true → r' = 1 ∧ z_ws n b v i (L ++ [])) ∧ (false = false → z_wx n b v i ∧ (r' = 0 ∨ (r' = 1 ∧ 48 ≤ z_ch n b i ∧ z_ch n b i ≤ 57)))) := by
      unfold f_Reader_single_J87
      exact z_neg (by (try simp (disch := omega) only [Int32.lt_iff_toInt_lt, Int32.le_iff_toInt_le, ← Int32.toInt_inj, Int32.toInt_add, Int32.toInt_sub, Int32.toInt_mul, Int32.toInt_neg, z_bm, z_bm2, J_ti, J_toInt, z_cn, Int32.reduceToInt]) <;> omega) (k_sat_mk ⟨z_fr.rf, fun q => (by cases q), fun _ => ⟨hs.1, Or.inl rfl⟩⟩)
    exact z_ite (fun _ => key) (fun _ => z_ite (fun _ => key) (fun _ => z_ite (fun _ => key) (fun _ => k_sat_mk ⟨z_fr.rf, fun q => (by cases q), fun _ => ⟨hs.1, Or.inl rfl⟩⟩)))
  obtain ⟨sg, rfl, hg, hrc⟩ := h1 (by omega)
  dsimp only
  by_cases q3 : z_ch n b i = 40
  · rw [if_pos q3]
    have hin : i < n := z_ch_n (b := b) (by omega)
    have h0' : z_ws n b (k_wF u 1003 (J (i + 1))) (i + 1) L := ⟨(z_nx1 hs.1 hin).2, z_wcs_f hs.2.1 (by simp [k_wF]) rfl, by omega⟩
    have hf0 : z_fr [1002, 1003] [11] u (k_wF u 1003 (J (i + 1))) := z_wF rfl
    obtain ⟨-, gp2, gp3⟩ := z_ei_g (b := b) hg (i + 1) (by omega)
    refine z_pos ((z_lk_eq hkk (k := 40) (by omega)).mpr q3) ?_
    unfold f_Reader_single_J87
    rw [(z_nx1 hs.1 hin).1, z_Jp]
    refine z_pos (by (try simp (disch := omega) only [Int32.lt_iff_toInt_lt, Int32.le_iff_toInt_le, ← Int32.toInt_inj, Int32.toInt_add, Int32.toInt_sub, Int32.toInt_mul, Int32.toInt_neg, z_bm, z_bm2, J_ti, J_toInt, z_cn, Int32.reduceToInt]) <;> omega) (z_let (z_pos ((z_lk_eq hkk (k := 40) (by omega)).mpr q3) (z_bind _ (z_eiW hn hrc hg _ _ _ h0') (fun r2 v hv => ?_))))
    obtain ⟨g1, g2, g3⟩ := hv
    have g1 := hf0.tr g1
    cases q4 : (z_ei (z_ch n b) sg (i + 1)).1 with
    | true =>
      obtain ⟨rfl, g4⟩ := g2 q4
      obtain ⟨k1, k2, -, -⟩ := gp3 q4
      rw [if_pos rfl]
      have hp := z_passes g4.1 (c := 41) (by omega)
      refine z_neg (by decide) ?_
      rw [show f_Reader_passes 41 v = _ from hp]
      by_cases q5 : z_ch n b (z_ei (z_ch n b) sg (i + 1)).2.1 = 41
      · have hin2 : (z_ei (z_ch n b) sg (i + 1)).2.1 < n := z_ch_n (b := b) (by omega)
        rw [if_pos q5, if_pos q5, z_bind_some]
        refine z_neg (by decide) (k_sat_mk ⟨g1.tr (z_wF rfl), fun _ => ⟨rfl, (z_nx1 g4.1 hin2).2, z_wcs_f g4.2.1 (by simp [k_wF]) rfl, ?_⟩, fun q => (by cases q)⟩)
        dsimp only
        rw [List.length_append]
        omega
      · rw [if_neg q5, if_neg q5, z_bind_some]
        exact z_pos rfl (k_sat_mk ⟨g1, fun q => (by cases q), fun _ => ⟨g4.1, Or.inl rfl⟩⟩)
    | false =>
      rw [if_neg (show ¬ (false = true) by decide)]
      obtain ⟨g4, rfl | ⟨rfl, g5⟩⟩ := g3 q4
      · exact z_pos rfl (k_sat_mk ⟨g1, fun q => (by cases q), fun _ => ⟨g4, Or.inl rfl⟩⟩)
      · have hp := z_passes g4 (c := 41) (by omega)
        rw [if_neg (by omega)] at hp
        rw [show f_Reader_passes 41 v = some (0, v) from hp, z_bind_some]
        exact z_neg (by decide) (z_pos rfl (k_sat_mk ⟨g1, fun q => (by cases q), fun _ => ⟨g4, Or.inl rfl⟩⟩))
  rw [if_neg q3]
  refine z_neg (fun x => q3 ((z_lk_eq hkk (k := 40) (by omega)).mp x)) ?_
  by_cases q4 : z_ch n b i = 33 ∨ z_ch n b i = 45
  · rw [if_pos q4]
    have hin : i < n := z_ch_n (b := b) (by omega)
    have er : r = J (z_ch n b i) := z_lk_J hkk (by omega)
    have h0' : z_ws n b (k_wF u 1003 (J (i + 1))) (i + 1) L := ⟨(z_nx1 hs.1 hin).2, z_wcs_f hs.2.1 (by simp [k_wF]) rfl, by omega⟩
    have hf0 : z_fr [1002, 1003] [11] u (k_wF u 1003 (J (i + 1))) := z_wF rfl
    obtain ⟨-, gp2, gp3⟩ := hg (i + 1) (by omega)
    have key : k_sat (f_Reader_single_J87 rc (J (6 - d)) r u) (fun r' v => z_fr [1002, 1003] [11] u v ∧ ((sg (i + 1)).1 = true → r' = 1 ∧ z_ws n b v (sg (i + 1)).2.1 (L ++ ((sg (i + 1)).2.2 ++ [if z_ch n b i = 45 then -1 else -33]))) ∧ ((sg (i + 1)).1 = false → z_wx n b v (sg (i + 1)).2.1 ∧ (r' = 0 ∨ (r' = 1 ∧ 48 ≤ z_ch n b (sg (i + 1)).2.1 ∧ z_ch n b (sg (i + 1)).2.1 ≤ 57)))) := by
      unfold f_Reader_single_J87
      rw [(z_nx1 hs.1 hin).1, z_Jp]
      refine z_pos (by (try simp (disch := omega) only [Int32.lt_iff_toInt_lt, Int32.le_iff_toInt_le, ← Int32.toInt_inj, Int32.toInt_add, Int32.toInt_sub, Int32.toInt_mul, Int32.toInt_neg, z_bm, z_bm2, J_ti, J_toInt, z_cn, Int32.reduceToInt]) <;> omega) (z_let (z_neg (fun x => q3 ((z_lk_eq hkk (k := 40) (by omega)).mp x)) (z_bind _ (hrc _ _ _ h0') (fun r2 v hv => ?_))))
      obtain ⟨g1, g2, g3⟩ := hv
      have g1 := hf0.tr g1
      have fin : ∀ s : Int32, s = (if z_ch n b i = 45 then -1 else -33) → r2 = 1 → k_sat (f_Reader_single_J161 rc s v) (fun r' v => z_fr [1002, 1003] [11] u v ∧ ((sg (i + 1)).1 = true → r' = 1 ∧ z_ws n b v (sg (i + 1)).2.1 (L ++ ((sg (i + 1)).2.2 ++ [if z_ch n b i = 45 then -1 else -33]))) ∧ ((sg (i + 1)).1 = false → z_wx n b v (sg (i + 1)).2.1 ∧ (r' = 0 ∨ (r' = 1 ∧ 48 ≤ z_ch n b (sg (i + 1)).2.1 ∧ z_ch n b (sg (i + 1)).2.1 ≤ 57)))) := by
        rintro s hss rfl
        unfold f_Reader_single_J161
        cases q5 : (sg (i + 1)).1 with
        | true =>
          obtain ⟨-, g4⟩ := g2 q5
          obtain ⟨k1, k2, -, -⟩ := gp3 q5
          refine z_bind _ (z_add (s := s) g4.2.1 (by rw [List.length_append]; omega)) (fun _ x hx => k_sat_mk ⟨g1.tr (hx.1.mono rfl rfl), fun _ => ⟨rfl, z_wx_f g4.1 (hx.1.mono rfl rfl) ((hx.1.1 1003 rfl).trans g4.1.2.2.2.1) g4.1.2.2.2.2, ?_, ?_⟩, fun q => (by cases q)⟩)
          · rw [← List.append_assoc, ← hss]
            exact hx.2
          · rw [List.length_append, List.length_append, List.length_singleton]
            omega
        | false =>
          obtain ⟨g4, g5⟩ := g3 q5
          have g6 : 48 ≤ z_ch n b (sg (i + 1)).2.1 ∧ z_ch n b (sg (i + 1)).2.1 ≤ 57 := by
            rcases g5 with g5 | g5
            · exact absurd g5 (by decide)
            · exact g5.2
          exact z_bind _ (z_addT s v) (fun _ x hx => k_sat_mk ⟨g1.tr (hx.mono rfl rfl), fun q => (by cases q), fun _ => ⟨z_wx_f g4 (hx.mono rfl rfl) ((hx.1 1003 rfl).trans g4.2.2.2.1) g4.2.2.2.2, Or.inr ⟨rfl, g6⟩⟩⟩)
      by_cases hr2 : r2 = 0
      · refine z_pos hr2 (k_sat_mk ⟨g1, fun q => ?_, fun q => ⟨(g3 q).1, Or.inl rfl⟩⟩)
        have := (g2 q).1
        rw [hr2] at this
        cases this
      · have hr1 : r2 = 1 := by
          cases q5 : (sg (i + 1)).1 with
          | true => exact (g2 q5).1
          | false =>
            rcases (g3 q5).2 with x | x
            · exact absurd x hr2
            · exact x.1
        refine z_neg hr2 (z_ite (fun c => fin _ ?_ hr1) (fun c => fin _ ?_ hr1))
        · rw [if_pos ((z_lk_eq hkk (k := 45) (by omega)).mp c)]
        · have c' : ¬ z_ch n b i = 45 := fun x => c ((z_lk_eq hkk (k := 45) (by omega)).mpr x)
          rw [if_neg c', er, show z_ch n b i = 33 by omega]
          rfl
    have fin2 : k_sat (f_Reader_single_J87 rc (J (6 - d)) r u) _ := z_mono key (fun r' v hv => (⟨hv.1, fun q => ?_, fun q => ?_⟩ : z_fr [1002, 1003] [11] u v ∧ ((if (sg (i + 1)).1 = true then (true, (sg (i + 1)).2.1, (sg (i + 1)).2.2 ++ [if z_ch n b i = 45 then -1 else -33]) else (false, (sg (i + 1)).2.1, ([] : List Int32))).1 = true → r' = 1 ∧ z_ws n b v (if (sg (i + 1)).1 = true then (true, (sg (i + 1)).2.1, (sg (i + 1)).2.2 ++ [if z_ch n b i = 45 then -1 else -33]) else (false, (sg (i + 1)).2.1, ([] : List Int32))).2.1 (L ++ (if (sg (i + 1)).1 = true then (true, (sg (i + 1)).2.1, (sg (i + 1)).2.2 ++ [if z_ch n b i = 45 then -1 else -33]) else (false, (sg (i + 1)).2.1, ([] : List Int32))).2.2)) ∧ ((if (sg (i + 1)).1 = true then (true, (sg (i + 1)).2.1, (sg (i + 1)).2.2 ++ [if z_ch n b i = 45 then -1 else -33]) else (false, (sg (i + 1)).2.1, ([] : List Int32))).1 = false → z_wx n b v (if (sg (i + 1)).1 = true then (true, (sg (i + 1)).2.1, (sg (i + 1)).2.2 ++ [if z_ch n b i = 45 then -1 else -33]) else (false, (sg (i + 1)).2.1, ([] : List Int32))).2.1 ∧ (r' = 0 ∨ (r' = 1 ∧ 48 ≤ z_ch n b (if (sg (i + 1)).1 = true then (true, (sg (i + 1)).2.1, (sg (i + 1)).2.2 ++ [if z_ch n b i = 45 then -1 else -33]) else (false, (sg (i + 1)).2.1, ([] : List Int32))).2.1 ∧ z_ch n b (if (sg (i + 1)).1 = true then (true, (sg (i + 1)).2.1, (sg (i + 1)).2.2 ++ [if z_ch n b i = 45 then -1 else -33]) else (false, (sg (i + 1)).2.1, ([] : List Int32))).2.1 ≤ 57)))))
    · refine z_ite (fun _ => fin2) (fun c1 => z_ite (fun _ => fin2) (fun c2 => ?_))
      rcases q4 with c | c
      · exact absurd ((z_lk_eq hkk (k := 33) (by omega)).mpr c) c1
      · exact absurd ((z_lk_eq hkk (k := 45) (by omega)).mpr c) c2
    · cases q5 : (sg (i + 1)).1 with
      | true => rw [if_pos rfl]; exact hv.2.1 q5
      | false => rw [q5, if_neg (by decide)] at q; cases q
    · cases q5 : (sg (i + 1)).1 with
      | true => rw [q5, if_pos rfl] at q; cases q
      | false => rw [if_neg (by decide)]; exact hv.2.2 q5
  · rw [if_neg q4]
    exact z_neg (fun x => q4 (Or.inl ((z_lk_eq hkk (k := 33) (by omega)).mp x))) (z_neg (fun x => q4 (Or.inr ((z_lk_eq hkk (k := 45) (by omega)).mp x))) (k_sat_mk ⟨z_fr.rf, fun q => (by cases q), fun _ => ⟨hs.1, Or.inl rfl⟩⟩))
theorem z_sgW {n : Nat} {b : Nat → Nat} (hn : n ≤ 120) : ∀ d, d ≤ 6 → ∀ k, d < k → z_PW n b (f_Reader_single_rec k (J (6 - d))) (z_sg (z_ch n b) d)
  | 0, hd, k, hk => by
    obtain ⟨k', rfl⟩ : ∃ k', k = k' + 1 := ⟨k - 1, by omega⟩
    exact z_sinW (d := 0) (rc := f_Reader_single_rec k') (o := none) hn hd (fun _ => rfl) (fun h => by omega)
  | d + 1, hd, k, hk => by
    obtain ⟨k', rfl⟩ : ∃ k', k = k' + 1 := ⟨k - 1, by omega⟩
    refine z_sinW (d := d + 1) (rc := f_Reader_single_rec k') (o := some (z_sg (z_ch n b) d)) hn hd (fun h => by omega) (fun _ => ⟨_, rfl, z_sg_g d, ?_⟩)
    rw [show 6 - (d + 1) + 1 = 6 - d by omega]
    exact z_sgW hn d (by omega) k' (by omega)
