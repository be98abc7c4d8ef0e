/-! LAW: the reference's operands -/
theorem z_wrR {n i : Nat} {b : Nat → Nat} {L : List Int32} {u : k_S} (h : z_rs n b u i L) : f_R_wrong u = some ((), k_wF u 4213 (J i)) := by
  unfold f_R_wrong
  rw [h.2.2.2.1, if_neg (by decide), h.2.1]
  rfl
theorem z_wr_f {n i i0 l0 : Nat} {b : Nat → Nat} {L : List Int32} {u : k_S} (h : z_rs n b u i L) (hi : i0 ≤ i) (hl : L.length + i0 ≤ l0 + i + 1) : z_rf n b (k_wF u 4213 (J i)) i i0 l0 := by
  obtain ⟨h1, h2, h3, h4, h5, h6⟩ := h
  exact ⟨z_rx_f h1 (z_kF rfl), by simp [k_wF], h3, i, L.length, h2, h3, hi, h5.1, hl⟩
theorem z_wr_a {n i i0 l0 : Nat} {b : Nat → Nat} {L : List Int32} {a w : Int32} {u : k_S} (h : z_rs n b u i L) (hi : i0 ≤ i) (hl : L.length + i0 ≤ l0 + i) : k_sat (f_R_addStep a w (k_wF u 4213 (J i))) (fun _ v => z_fk [4213, 4215] [49, 50] u v ∧ z_rf n b v i i0 l0) := by
  obtain ⟨h1, h2, h3, h4, h5, h6⟩ := h
  have := h1.1
  have e1 : (k_wF u 4213 (J i)).1 4215 = J L.length := h5.1
  rw [z_addRe e1 (by omega)]
  have hf : z_fk [4213, 4215] [49, 50] u (k_wF (k_wA (k_wA (k_wF u 4213 (J i)) 49 (130 + L.length) ((a).toInt8.toInt32).toInt8.toInt32) 50 (130 + L.length) w) 4215 (J (L.length + 1))) := (((z_kF rfl).tr (z_kB rfl (by omega))).tr (z_kB rfl (by omega))).tr (z_kF rfl)
  exact k_sat_mk ⟨hf, z_rx_f h1 (hf.mono rfl rfl), by simp [k_wF, k_wA], h3, i, L.length + 1, (hf.1 4212 rfl).trans h2, h3, hi, by simp [k_wF], by omega⟩
theorem z_figR {n i : Nat} {b : Nat → Nat} {L : List Int32} {u : k_S} (hs : z_rs n b u i L) : k_sat (f_R_figure u) (fun _ v => z_fk [4212, 4213, 4215] [49, 50] u v ∧ ((48 ≤ z_ch n b i ∧ z_ch n b i ≤ 57 ∧ ¬ (48 ≤ z_ch n b (z_nm (z_ch n b) 4 i 0).1 ∧ z_ch n b (z_nm (z_ch n b) 4 i 0).1 ≤ 57)) → z_rs n b v (z_nm (z_ch n b) 4 i 0).1 (L ++ [J (z_nm (z_ch n b) 4 i 0).2])) ∧ (¬ (48 ≤ z_ch n b i ∧ z_ch n b i ≤ 57) → z_rf n b v i i L.length) ∧ ((48 ≤ z_ch n b i ∧ z_ch n b i ≤ 57 ∧ (48 ≤ z_ch n b (z_nm (z_ch n b) 4 i 0).1 ∧ z_ch n b (z_nm (z_ch n b) 4 i 0).1 ≤ 57)) → z_rf n b v (z_nm (z_ch n b) 4 i 0).1 i L.length)) := by
  have hn := hs.1.1
  have hnum : k_sat (k_itr (fun (x : (Int32 × Int32)) u => f_R_figure_B4 x.1 x.2 u) k_FU (0, 0) u) _ := z_numR 4 0 i 0 u L k_FU rfl (by unfold k_FU; omega) hs (by decide)
  have hg := z_nm_g (n := n) (b := b) 4 i 0 hs.2.2.1
  have hv := z_nm_v (ch := z_ch n b) 4 i 0 0 (by decide)
  unfold f_R_figure
  refine z_bind _ hnum (fun y w hw => ?_)
  obtain ⟨g1, g2, g3, c, c1, c2, c3, c4⟩ := hw
  unfold f_R_figure_J52
  rw [g2, c3]
  have hn0 : ¬ (48 ≤ z_ch n b i ∧ z_ch n b i ≤ 57) → (z_nm (z_ch n b) 4 i 0).1 = i := fun q => by rw [z_nm, if_neg q]
  have j70 : k_sat (f_R_figure_J70 (J (z_nm (z_ch n b) 4 i 0).2) w) (fun _ v => z_fk [4212, 4213, 4215] [49, 50] u v ∧ z_rf n b v (z_nm (z_ch n b) 4 i 0).1 i L.length) := by
    unfold f_R_figure_J70 f_R_figure_J74
    rw [z_wrR g3, z_bind_some]
    exact z_bind _ (z_wr_a g3 hg.1 (by have := hg.1; omega)) (fun _ v hv => k_sat_mk ⟨(g1.mono rfl rfl).tr (hv.1.mono rfl rfl), hv.2⟩)
  by_cases q1 : 48 ≤ z_ch n b i ∧ z_ch n b i ≤ 57
  · have hc0 : ¬ c = 0 := fun q => by
      rcases c4.mp q with x | x
      · omega
      · exact x q1
    have hnm : (z_nm (z_ch n b) 4 i 0).1 = (z_nm (z_ch n b) 3 (i + 1) (10 * 0 + z_ch n b i - 48)).1 := by rw [z_nm, if_pos q1]
    have hin : i < n := z_ch_n (b := b) (by omega)
    have hgm := z_nm_g (n := n) (b := b) 3 (i + 1) (10 * 0 + z_ch n b i - 48) (by omega)
    refine z_neg (by (try simp (disch := omega) only [Int32.lt_iff_toInt_lt, Int32.le_iff_toInt_le, ← Int32.toInt_inj, Int32.toInt_add, Int32.toInt_sub, Int32.toInt_mul, Int32.toInt_neg, z_bm, z_bm2, J_ti, J_toInt, z_cn, Int32.reduceToInt]) <;> omega) ?_
    obtain ⟨r, hr, hkk⟩ := z_look g3.1 g3.2.1 g3.2.2.1
    rw [hr, z_bind_some, z_inR hkk, z_bind_some]
    by_cases q2 : 48 ≤ z_ch n b (z_nm (z_ch n b) 4 i 0).1 ∧ z_ch n b (z_nm (z_ch n b) 4 i 0).1 ≤ 57
    · rw [if_pos q2]
      exact z_neg (by decide) (z_mono j70 (fun _ v hv => ⟨hv.1, fun q => absurd q2 q.2.2, fun q => absurd q1 q, fun _ => hv.2⟩))
    · rw [if_neg q2]
      refine z_pos rfl ?_
      unfold f_R_figure_J74
      obtain ⟨p1, p2, p3, p4, p5, p6⟩ := g3
      have hl := hs.2.2.2.2.2
      refine z_bind _ (z_addR (k := 1) (s := J (z_nm (z_ch n b) 4 i 0).2) p5 (by omega) (by omega) (Or.inl ⟨_, ?_, rfl, rfl, rfl⟩)) (fun _ v hv => k_sat_mk ⟨(g1.mono rfl rfl).tr (hv.1.mono rfl rfl), fun _ => ⟨z_rx_f p1 (hv.1.mono rfl rfl), (hv.1.1 4212 rfl).trans p2, p3, (hv.1.1 4213 rfl).trans p4, hv.2, ?_⟩, fun q => absurd q1 q, fun q => absurd q.2.2 q2⟩)
      · have : (z_nm (z_ch n b) 4 i 0).2 < 10000 := hv
        omega
      · rw [List.length_append, List.length_singleton]
        omega
  · have hc0 : c = 0 := c4.mpr (Or.inr q1)
    rw [hc0]
    refine z_pos rfl (z_mono j70 (fun _ v hv => ⟨hv.1, fun q => absurd ⟨q.1, q.2.1⟩ q1, fun _ => ?_, fun q => absurd ⟨q.1, q.2.1⟩ q1⟩))
    have := hv.2
    rw [hn0 q1] at this
    exact this
theorem z_nameR {r : Int32} {c : Nat} (h : z_lk r c) (u : k_S) : f_R_nameOf r u = some (if c = 107 then 2 else if c = 112 then 1 else if c = 116 then 0 else if c = 122 then 3 else -1, u) := by
  unfold f_R_nameOf
  by_cases q1 : c = 107
  · rw [if_pos (show r = 107 from (z_lk_eq h (k := 107) (by omega)).mpr q1), if_pos q1]
  rw [if_neg (show ¬ r = 107 from fun x => q1 ((z_lk_eq h (k := 107) (by omega)).mp x)), if_neg q1]
  by_cases q2 : c = 112
  · rw [if_pos (show r = 112 from (z_lk_eq h (k := 112) (by omega)).mpr q2), if_pos q2]
  rw [if_neg (show ¬ r = 112 from fun x => q2 ((z_lk_eq h (k := 112) (by omega)).mp x)), if_neg q2]
  by_cases q3 : c = 116
  · rw [if_pos (show r = 116 from (z_lk_eq h (k := 116) (by omega)).mpr q3), if_pos q3]
  rw [if_neg (show ¬ r = 116 from fun x => q3 ((z_lk_eq h (k := 116) (by omega)).mp x)), if_neg q3]
  by_cases q4 : c = 122
  · rw [if_pos (show r = 122 from (z_lk_eq h (k := 122) (by omega)).mpr q4), if_pos q4]
  rw [if_neg (show ¬ r = 122 from fun x => q4 ((z_lk_eq h (k := 122) (by omega)).mp x)), if_neg q4]
theorem z_opR {n d : Nat} {b : Nat → Nat} {rc : k_S → Option (Unit × k_S)} {o : Option z_Pa} (hn : n ≤ 120) (hd : d ≤ 6) (h0 : d = 0 → o = none) (h1 : 0 < d → ∃ sg, o = some sg ∧ z_gp n sg ∧ z_PR n b (6 - d + 1) rc sg) : z_PR n b (6 - d) (f_R_operand rc) (z_s1 (z_ch n b) o) := by
  intro u i L hs ho
  have hl := hs.2.2.2.2.2
  obtain ⟨r, hr, hkk⟩ := z_look hs.1 hs.2.1 hs.2.2.1
  unfold f_R_operand z_s1
  rw [hr, z_bind_some, z_nameR hkk, z_bind_some]
  by_cases q1 : 48 ≤ z_ch n b i ∧ z_ch n b i ≤ 57
  · rw [if_pos q1, if_neg (by omega : ¬ z_ch n b i = 107), if_neg (by omega : ¬ z_ch n b i = 112), if_neg (by omega : ¬ z_ch n b i = 116), if_neg (by omega : ¬ z_ch n b i = 122)]
    refine z_pos (by decide) (z_neg (fun x => ?_) (z_neg (fun x => ?_) (z_neg (fun x => ?_) (z_bind _ (z_figR hs) (fun _ v hv => k_sat_mk ?_)))))
    · have := (z_lk_eq hkk (k := 33) (by omega)).mp x; omega
    · have := (z_lk_eq hkk (k := 45) (by omega)).mp x; omega
    · have := (z_lk_eq hkk (k := 40) (by omega)).mp x; omega
    · obtain ⟨g1, g2, g3, g4⟩ := hv
      by_cases q2 : 48 ≤ z_ch n b (z_nm (z_ch n b) 4 i 0).1 ∧ z_ch n b (z_nm (z_ch n b) 4 i 0).1 ≤ 57
      · rw [if_pos q2]
        exact ⟨g1.mono rfl rfl, fun q => (by cases q), fun _ => g4 ⟨q1.1, q1.2, q2⟩⟩
      · rw [if_neg q2]
        exact ⟨g1.mono rfl rfl, fun _ => ⟨g2 ⟨q1.1, q1.2, q2⟩, (g1.1 4214 rfl).trans ho⟩, fun q => (by cases q)⟩
  rw [if_neg q1]
  by_cases q2 : z_ch n b i = 116 ∨ z_ch n b i = 112 ∨ z_ch n b i = 107 ∨ z_ch n b i = 122
  · rw [if_pos q2]
    have hin : i < n := z_ch_n (b := b) (by omega)
    have fin : ∀ k : Nat, k < 4 → z_ra (-(J (z_ch n b i))) 2 (J k) → k_sat (k_bind (f_R_addStep 2 (J k) u) (fun _ u21 => k_let (k_wF u21 4212 ((u21.1 4212) + 1)) (fun u22 => some ((), u22)))) (fun _ v => z_fk [4212, 4213, 4214, 4215] [49, 50] u v ∧ ((true, i + 1, [-(J (z_ch n b i))]).1 = true → z_rs n b v (true, i + 1, [-(J (z_ch n b i))]).2.1 (L ++ (true, i + 1, [-(J (z_ch n b i))]).2.2) ∧ v.1 4214 = J (6 - d)) ∧ ((true, i + 1, [-(J (z_ch n b i))]).1 = false → z_rf n b v (true, i + 1, [-(J (z_ch n b i))]).2.1 i L.length)) := by
      intro k hk hra
      obtain ⟨p1, p2, p3, p4, p5, p6⟩ := hs
      refine z_bind _ (z_addR (k := 2) p5 (by omega) (by omega) hra) (fun _ v hv => ?_)
      rw [(hv.1.1 4212 rfl).trans p2, z_Jp]
      have hf2 : z_fk [4212, 4213, 4214, 4215] [49, 50] u (k_wF v 4212 (J (i + 1))) := (hv.1.mono rfl rfl).tr (z_kF rfl)
      refine z_let (k_sat_mk ⟨hf2, fun _ => ⟨⟨z_rx_f p1 hf2, by simp [k_wF], hin, ((hv.1.1 4213 rfl).trans p4), z_rc_f hv.2 (by simp [k_wF]) rfl rfl, ?_⟩, (hv.1.1 4214 rfl).trans ho⟩, fun q => (by cases q)⟩)
      dsimp only
      rw [List.length_append, List.length_singleton]
      omega
    rcases q2 with c | c | c | c
    · rw [c] at fin ⊢
      rw [if_neg (by decide), z_nameR hkk, c, z_bind_some]
      exact fin 0 (by omega) (Or.inr (Or.inl ⟨rfl, rfl, rfl⟩))
    · rw [c] at fin ⊢
      rw [if_neg (by decide), z_nameR hkk, c, z_bind_some]
      exact fin 1 (by omega) (Or.inr (Or.inr (Or.inl ⟨rfl, rfl, rfl⟩)))
    · rw [c] at fin ⊢
      rw [if_neg (by decide), z_nameR hkk, c, z_bind_some]
      exact fin 2 (by omega) (Or.inr (Or.inr (Or.inr (Or.inl ⟨rfl, rfl, rfl⟩))))
    · rw [c] at fin ⊢
      rw [if_neg (by decide), z_nameR hkk, c, z_bind_some]
      exact fin 3 (by omega) (Or.inr (Or.inr (Or.inr (Or.inr (Or.inl ⟨rfl, rfl, rfl⟩)))))
  rw [if_neg q2, if_neg (by omega : ¬ z_ch n b i = 107), if_neg (by omega : ¬ z_ch n b i = 112), if_neg (by omega : ¬ z_ch n b i = 116), if_neg (by omega : ¬ z_ch n b i = 122)]
  refine z_pos (by decide) ?_
  by_cases hd0 : d = 0
  · rw [h0 hd0]
    dsimp only
    subst hd0
    have ho6 : u.1 4214 = 6 := ho
    have hop : f_R_opens u = some (0, k_wF u 4213 (J i)) := by
      unfold f_R_opens
      rw [ho6, if_pos rfl, z_wrR hs, z_bind_some]
    have key : k_sat (f_R_operand_J46 rc r u) (fun _ v => z_fk [4212, 4213, 4214, 4215] [49, 50] u v ∧ (false = true → z_rs n b v i (L ++ []) ∧ v.1 4214 = J (6 - 0)) ∧ (false = false → z_rf n b v i i L.length)) := by
      unfold f_R_operand_J46
      rw [hop, z_bind_some]
      exact z_pos rfl (k_sat_mk ⟨z_kF rfl, fun q => (by cases q), fun _ => z_wr_f hs (Nat.le_refl _) (by omega)⟩)
    refine z_ite (fun _ => key) (fun _ => z_ite (fun _ => key) (fun _ => z_ite (fun _ => ?_) (fun c3 => ?_)))
    · rw [hop, z_bind_some]
      exact z_pos rfl (k_sat_mk ⟨z_kF rfl, fun q => (by cases q), fun _ => z_wr_f hs (Nat.le_refl _) (by omega)⟩)
    · exact z_bind _ (z_figR hs) (fun _ v hv => k_sat_mk ⟨hv.1.mono rfl rfl, fun q => (by cases q), fun _ => hv.2.2.1 q1⟩)
  obtain ⟨sg, rfl, hg, hrc⟩ := h1 (by omega)
  dsimp only
  have hop : f_R_opens u = some (1, k_wF (k_wF u 4214 (J (6 - d + 1))) 4212 (J (i + 1))) := by
    unfold f_R_opens
    rw [ho, if_neg (by (try simp (disch := omega) only [Int32.lt_iff_toInt_lt, Int32.le_iff_toInt_le, ← Int32.toInt_inj, Int32.toInt_add, Int32.toInt_sub, Int32.toInt_mul, Int32.toInt_neg, z_bm, z_bm2, J_ti, J_toInt, z_cn, Int32.reduceToInt]) <;> omega)]
    simp only [k_let]
    have : (k_wF u 4214 (J (6 - d) + 1)).1 4212 = J i := hs.2.1
    rw [this, z_Jp, z_Jp]
  have hN : i < n → z_rs n b (k_wF (k_wF u 4214 (J (6 - d + 1))) 4212 (J (i + 1))) (i + 1) L := fun hin => ⟨z_rx_f hs.1 ((z_kF rfl).tr (z_kF rfl)), by simp [k_wF], hin, hs.2.2.2.1, z_rc_f hs.2.2.2.2.1 (by simp [k_wF]) rfl rfl, by omega⟩
  have hO : (k_wF (k_wF u 4214 (J (6 - d + 1))) 4212 (J (i + 1))).1 4214 = J (6 - d + 1) := by simp [k_wF]
  have hF : z_fk [4212, 4213, 4214, 4215] [49, 50] u (k_wF (k_wF u 4214 (J (6 - d + 1))) 4212 (J (i + 1))) := (z_kF rfl).tr (z_kF rfl)
  generalize k_wF (k_wF u 4214 (J (6 - d + 1))) 4212 (J (i + 1)) = u' at *
  by_cases q3 : z_ch n b i = 40
  · rw [if_pos q3]
    have hin : i < n := z_ch_n (b := b) (by omega)
    obtain ⟨gp1, gp2, gp3⟩ := z_ei_g (b := b) hg (i + 1) (by omega)
    refine z_neg (fun x => ?_) (z_neg (fun x => ?_) (z_pos ((z_lk_eq hkk (k := 40) (by omega)).mpr q3) ?_))
    · have := (z_lk_eq hkk (k := 33) (by omega)).mp x; omega
    · have := (z_lk_eq hkk (k := 45) (by omega)).mp x; omega
    rw [hop, z_bind_some]
    refine z_neg (by decide) (z_bind _ (z_eiR hn hrc hg _ _ _ (hN hin) hO) (fun _ v hv => ?_))
    obtain ⟨g1, g2, g3⟩ := hv
    have k1 := hF.tr g1
    by_cases q4 : (z_ei (z_ch n b) sg (i + 1)).1 = true
    · rw [if_pos q4]
      obtain ⟨g4, g5⟩ := g2 q4
      obtain ⟨e1, e2, -, -⟩ := gp3 q4
      refine z_pos (by rw [g4.2.2.2.1]; decide) ?_
      obtain ⟨r2, hr2, hk2⟩ := z_look g4.1 g4.2.1 g4.2.2.1
      rw [hr2, z_bind_some]
      by_cases q5 : z_ch n b (z_ei (z_ch n b) sg (i + 1)).2.1 = 41
      · rw [if_pos q5]
        have hin2 : (z_ei (z_ch n b) sg (i + 1)).2.1 < n := z_ch_n (b := b) (by omega)
        obtain ⟨p1, p2, p3, p4, p5, p6⟩ := g4
        refine z_pos ((z_lk_eq hk2 (k := 41) (by omega)).mpr q5) (z_let (z_let (k_sat_mk ⟨(k1.tr (z_kF rfl)).tr (z_kF rfl), fun _ => ⟨⟨z_rx_f p1 ((z_kF rfl).tr (z_kF rfl)), ?_, hin2, p4, z_rc_f p5 (by simp [k_wF]) rfl rfl, ?_⟩, ?_⟩, fun q => (by cases q)⟩)))
        · simp [k_wF, p2, z_Jp]
        · dsimp only
          rw [List.length_append]
          omega
        · simp [k_wF, g5, z_Jm]
      · rw [if_neg q5]
        refine z_neg (fun x => q5 ((z_lk_eq hk2 (k := 41) (by omega)).mp x)) ?_
        rw [z_wrR g4, z_bind_some]
        refine k_sat_mk ⟨k1.tr (z_kF rfl), fun q => (by cases q), fun _ => z_wr_f g4 (by omega) ?_⟩
        rw [List.length_append]
        omega
    · rw [if_neg q4]
      have h4 := g3 (by cases hq : (z_ei (z_ch n b) sg (i + 1)).1; rfl; exact absurd hq q4)
      exact z_neg (by have := z_fltR h4; ((try simp (disch := omega) only [Int32.lt_iff_toInt_lt, Int32.le_iff_toInt_le, ← Int32.toInt_inj, Int32.toInt_add, Int32.toInt_sub, Int32.toInt_mul, Int32.toInt_neg, z_bm, z_bm2, J_ti, J_toInt, z_cn, Int32.reduceToInt] at *); omega)) (k_sat_mk ⟨k1, fun q => (by cases q), fun _ => z_rf_w h4 (by omega) (by omega)⟩)
  rw [if_neg q3]
  by_cases q4 : z_ch n b i = 33 ∨ z_ch n b i = 45
  · rw [if_pos q4]
    have hin : i < n := z_ch_n (b := b) (by omega)
    obtain ⟨gp1, gp2, gp3⟩ := hg (i + 1) (by omega)
    have key : k_sat (f_R_operand_J46 rc r u) (fun _ v => z_fk [4212, 4213, 4214, 4215] [49, 50] u v ∧ ((if (sg (i + 1)).1 = true then (true, (sg (i + 1)).2.1, (sg (i + 1)).2.2 ++ [if z_ch n b i = 45 then -1 else -33]) else (false, (sg (i + 1)).2.1, ([] : List Int32))).1 = true → z_rs n b v (if (sg (i + 1)).1 = true then (true, (sg (i + 1)).2.1, (sg (i + 1)).2.2 ++ [if z_ch n b i = 45 then -1 else -33]) else (false, (sg (i + 1)).2.1, ([] : List Int32))).2.1 (L ++ (if (sg (i + 1)).1 = true then (true, (sg (i + 1)).2.1, (sg (i + 1)).2.2 ++ [if z_ch n b i = 45 then -1 else -33]) else (false, (sg (i + 1)).2.1, ([] : List Int32))).2.2) ∧ v.1 4214 = J (6 - d)) ∧ ((if (sg (i + 1)).1 = true then (true, (sg (i + 1)).2.1, (sg (i + 1)).2.2 ++ [if z_ch n b i = 45 then -1 else -33]) else (false, (sg (i + 1)).2.1, ([] : List Int32))).1 = false → z_rf n b v (if (sg (i + 1)).1 = true then (true, (sg (i + 1)).2.1, (sg (i + 1)).2.2 ++ [if z_ch n b i = 45 then -1 else -33]) else (false, (sg (i + 1)).2.1, ([] : List Int32))).2.1 i L.length)) := by
      unfold f_R_operand_J46
      rw [hop, z_bind_some]
      refine z_neg (by decide) (z_bind _ (hrc _ _ _ (hN hin) hO) (fun _ v hv => ?_))
      obtain ⟨g1, g2, g3⟩ := hv
      have k1 := hF.tr g1
      by_cases q5 : (sg (i + 1)).1 = true
      · rw [if_pos q5]
        obtain ⟨g4, g5⟩ := g2 q5
        obtain ⟨e1, e2, -, -⟩ := gp3 q5
        obtain ⟨p1, p2, p3, p4, p5, p6⟩ := g4
        rw [g5, z_Jm]
        have k2 : z_fk [4212, 4213, 4214, 4215] [49, 50] u (k_wF v 4214 (J (6 - d))) := k1.tr (z_kF rfl)
        have x1 : z_rx n b (k_wF v 4214 (J (6 - d))) := z_rx_f p1 (z_kF rfl)
        have c1 : z_rc (k_wF v 4214 (J (6 - d))) (L ++ (sg (i + 1)).2.2) := z_rc_f p5 (by simp [k_wF]) rfl rfl
        have e4212 : (k_wF v 4214 (J (6 - d))).1 4212 = J (sg (i + 1)).2.1 := p2
        have e4213 : (k_wF v 4214 (J (6 - d))).1 4213 = -1 := p4
        have e4214 : (k_wF v 4214 (J (6 - d))).1 4214 = J (6 - d) := by simp [k_wF]
        generalize k_wF v 4214 (J (6 - d)) = w at *
        have fin : ∀ (k : Nat) (s : Int32), k < 128 → z_ra s (J k) 0 → s = (if z_ch n b i = 45 then -1 else -33) → k_sat (f_R_operand_J80 rc (J k) w) (fun _ v => z_fk [4212, 4213, 4214, 4215] [49, 50] u v ∧ (true = true → z_rs n b v (sg (i + 1)).2.1 (L ++ ((sg (i + 1)).2.2 ++ [if z_ch n b i = 45 then -1 else -33])) ∧ v.1 4214 = J (6 - d)) ∧ (true = false → z_rf n b v (sg (i + 1)).2.1 i L.length)) := by
          intro k s hk hra hss
          unfold f_R_operand_J80
          refine z_bind _ (z_addR c1 (by rw [List.length_append]; omega) hk hra) (fun _ x hx => k_sat_mk ⟨k2.tr (hx.1.mono rfl rfl), fun _ => ⟨⟨z_rx_f x1 (hx.1.mono rfl rfl), (hx.1.1 4212 rfl).trans e4212, p3, (hx.1.1 4213 rfl).trans e4213, ?_, ?_⟩, (hx.1.1 4214 rfl).trans e4214⟩, fun q => (by cases q)⟩)
          · rw [← List.append_assoc, ← hss]
            exact hx.2
          · rw [List.length_append, List.length_append, List.length_singleton]
            omega
        refine z_let (z_ite (fun c => fin 3 (-33) (by omega) (Or.inr (Or.inr (Or.inr (Or.inr (Or.inr (Or.inl ⟨rfl, rfl⟩)))))) ?_) (fun c => fin 4 (-1) (by omega) (Or.inr (Or.inr (Or.inr (Or.inr (Or.inr (Or.inr (Or.inl ⟨rfl, rfl⟩))))))) ?_))
        · have := (z_lk_eq hkk (k := 33) (by omega)).mp c
          rw [if_neg (by omega)]
        · rw [if_pos]
          rcases q4 with x | x
          · exact absurd ((z_lk_eq hkk (k := 33) (by omega)).mpr x) c
          · exact x
      · rw [if_neg q5]
        have h4 := g3 (by cases hq : (sg (i + 1)).1; rfl; exact absurd hq q5)
        have h5 : ∀ y : Int32, z_rf n b (k_wF v 4214 y) (sg (i + 1)).2.1 (i + 1) L.length := fun y => by
          obtain ⟨p1, p2, p3, x, l, p4, p5, p6, p7, p8⟩ := h4
          exact ⟨z_rx_f p1 (z_kF rfl), p2, p3, x, l, p4, p5, p6, p7, p8⟩
        have fin : ∀ (y s : Int32), k_sat (f_R_operand_J80 rc s (k_wF v 4214 y)) (fun _ v => z_fk [4212, 4213, 4214, 4215] [49, 50] u v ∧ (false = true → z_rs n b v (sg (i + 1)).2.1 (L ++ []) ∧ v.1 4214 = J (6 - d)) ∧ (false = false → z_rf n b v (sg (i + 1)).2.1 i L.length)) := by
          intro y s
          unfold f_R_operand_J80
          exact z_bind _ (z_addF (h5 y) hl) (fun _ x hx => k_sat_mk ⟨(k1.tr (z_kF rfl)).tr (hx.1.mono rfl rfl), fun q => (by cases q), fun _ => hx.2⟩)
        exact z_let (z_ite (fun _ => fin _ _) (fun _ => fin _ _))
    refine z_ite (fun _ => key) (fun c1 => z_ite (fun _ => key) (fun c2 => ?_))
    rcases q4 with c | c
    · exact absurd ((z_lk_eq hkk (k := 33) (by omega)).mpr c) c1
    · exact absurd ((z_lk_eq hkk (k := 45) (by omega)).mpr c) c2
  · rw [if_neg q4]
    exact z_neg (fun x => q4 (Or.inl ((z_lk_eq hkk (k := 33) (by omega)).mp x))) (z_neg (fun x => q4 (Or.inr ((z_lk_eq hkk (k := 45) (by omega)).mp x))) (z_neg (fun x => q3 ((z_lk_eq hkk (k := 40) (by omega)).mp x)) (z_bind _ (z_figR hs) (fun _ v hv => k_sat_mk ⟨hv.1.mono rfl rfl, fun q => (by cases q), fun _ => hv.2.2.1 q1⟩))))
theorem z_sgR {n : Nat} {b : Nat → Nat} (hn : n ≤ 120) : ∀ d, d ≤ 6 → ∀ k, d < k → z_PR n b (6 - d) (f_R_operand_rec k) (z_sg (z_ch n b) d)
  | 0, hd, k, hk => by
    obtain ⟨k', rfl⟩ : ∃ k', k = k' + 1 := ⟨k - 1, by omega⟩
    exact z_opR (d := 0) (rc := f_R_operand_rec k') (o := none) hn hd (fun _ => rfl) (fun h => by omega)
  | d + 1, hd, k, hk => by
    obtain ⟨k', rfl⟩ : ∃ k', k = k' + 1 := ⟨k - 1, by omega⟩
    refine z_opR (d := d + 1) (rc := f_R_operand_rec k') (o := some (z_sg (z_ch n b) d)) hn hd (fun h => by omega) (fun _ => ⟨_, rfl, z_sg_g d, ?_⟩)
    rw [show 6 - (d + 1) + 1 = 6 - d by omega]
    exact z_sgR hn d (by omega) k' (by omega)
