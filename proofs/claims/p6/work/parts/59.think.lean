/-! NIGHTS IN THOUGHT: both sides along one and the same orbit -/
def z_ag (K : Nat) (m m' : z_Mo) : Prop := m.1 = m'.1 ∧ ∀ w, w < K → m.2.1 w = m'.2.1 w ∧ m.2.2 w = m'.2.2 w
theorem z_pu_lo (E : z_E) : ∀ (k w : Nat) (m : z_Mo), (z_pu E k w m).1 = m.1 ∧ ∀ v, (v < w ∨ E.1 ≤ v) → (z_pu E k w m).2.1 v = m.2.1 v ∧ (z_pu E k w m).2.2 v = m.2.2 v
  | 0, w, m => ⟨rfl, fun v _ => ⟨rfl, rfl⟩⟩
  | k + 1, w, m => by
    rw [z_pu]
    by_cases h : E.1 ≤ w
    · rw [if_pos h]; exact ⟨rfl, fun v _ => ⟨rfl, rfl⟩⟩
    · rw [if_neg h]
      split
      · exact ⟨rfl, fun v hv => ⟨by show upd _ _ _ _ = _; rw [z_up, if_neg (by omega)], by show upd _ _ _ _ = _; rw [z_up, if_neg (by omega)]⟩⟩
      · obtain ⟨a, b⟩ := z_pu_lo E k (w + 1) (m.1, upd m.2.1 w (m.2.1 w + (z_sp E m.1 (m.2.1 w) (m.2.2 w) w).1 - E.2.2.1 w), upd m.2.2 w (z_sp E m.1 (m.2.1 w) (m.2.2 w) w).2)
        refine ⟨a, fun v hv => ?_⟩
        obtain ⟨c, d⟩ := b v (by omega)
        exact ⟨by rw [c]; show upd _ _ _ _ = _; rw [z_up, if_neg (by omega)], by rw [d]; show upd _ _ _ _ = _; rw [z_up, if_neg (by omega)]⟩
theorem z_pu_ag (E : z_E) : ∀ (k k' w : Nat) (m m' : z_Mo), k ≤ k' → z_ag (w + k) m m' → z_ag (w + k) (z_pu E k w m) (z_pu E k' w m')
  | 0, k', w, m, m', hk, h => by
    obtain ⟨a, b⟩ := z_pu_lo E k' w m'
    exact ⟨h.1.trans a.symm, fun v hv => by rw [(b v (by omega)).1, (b v (by omega)).2]; exact h.2 v hv⟩
  | k + 1, k', w, m, m', hk, h => by
    obtain ⟨j, rfl⟩ : ∃ j, k' = j + 1 := ⟨k' - 1, by omega⟩
    obtain ⟨h1, h2⟩ := h
    obtain ⟨a, b⟩ := h2 w (by omega)
    rw [z_pu, z_pu, ← h1, ← a, ← b]
    by_cases hE : E.1 ≤ w
    · rw [if_pos hE, if_pos hE]; exact ⟨h1, h2⟩
    · rw [if_neg hE, if_neg hE]
      have hu : ∀ x y : Int32, z_ag (w + (k + 1)) (m.1, upd m.2.1 w x, upd m.2.2 w y) (m.1, upd m'.2.1 w x, upd m'.2.2 w y) := fun x y => ⟨rfl, fun v hv => ⟨by show upd _ _ _ _ = upd _ _ _ _; rw [z_up, z_up, (h2 v hv).1], by show upd _ _ _ _ = upd _ _ _ _; rw [z_up, z_up, (h2 v hv).2]⟩⟩
      split
      · exact hu _ _
      · have e : w + (k + 1) = w + 1 + k := by omega
        rw [e]
        exact z_pu_ag E k j (w + 1) _ _ (by omega) (by rw [← e]; exact hu _ _)
theorem z_nx_ag {E : z_E} {K : Nat} {m m' : z_Mo} (hK : K ≤ 4) (h : z_ag K m m') : z_ag K (z_nx E K m) (z_nx E 4 m') := by
  have := z_pu_ag E K 4 0 (m.1 + 1, m.2) (m'.1 + 1, m'.2) hK (by rw [Nat.zero_add]; exact ⟨by show m.1 + 1 = m'.1 + 1; rw [h.1], h.2⟩)
  rw [Nat.zero_add] at this
  exact this
theorem z_or_ag {E : z_E} {K : Nat} {m m' : z_Mo} (hK : K ≤ 4) (h : z_ag K m m') : ∀ i, z_ag K (z_or E K i m) (z_or E 4 i m')
  | 0 => h
  | i + 1 => z_nx_ag hK (z_or_ag hK h i)
theorem z_or_hi {E : z_E} {K : Nat} {m : z_Mo} {v : Nat} (hv : E.1 ≤ v) : ∀ i, (z_or E K i m).2.1 v = m.2.1 v ∧ (z_or E K i m).2.2 v = m.2.2 v
  | 0 => ⟨rfl, rfl⟩
  | i + 1 => by
    obtain ⟨a, b⟩ := z_or_hi hv i
    obtain ⟨c, d⟩ := (z_pu_lo E K 0 ((z_or E K i m).1 + 1, (z_or E K i m).2)).2 v (Or.inr hv)
    exact ⟨c.trans a, d.trans b⟩
theorem z_or_add (E : z_E) (K i : Nat) (m : z_Mo) : ∀ j, z_or E K j (z_or E K i m) = z_or E K (i + j) m
  | 0 => rfl
  | j + 1 => by show z_nx E K (z_or E K j (z_or E K i m)) = z_nx E K (z_or E K (i + j) m); rw [z_or_add E K i m j]
/-- what stands between class and reference, for nights -/
def z_en (E : z_E) (u : k_S) : Prop := z_EW E u ∧ z_ER E u ∧ z_ok E (z_moNow u) ∧ z_ok E (z_moR u) ∧ z_ag E.1 (z_moNow u) (z_moR u)
theorem z_env {u : k_S} (h : zI u) : ∃ E, z_en E u ∧ E.2.1 = u.2.1 4 ∧ E.2.2.1 = u.2.1 5 ∧ E.2.2.2.1 = u.2.1 6 := by
  obtain ⟨n, hn, e1, e2, hw, hz⟩ := h.2.1
  obtain ⟨⟨t, ht, t1, t2⟩, hm, hm2⟩ := h.2.2.1
  obtain ⟨-, es⟩ := h.2.2.2.1
  obtain ⟨c, hcW, hcR⟩ := h.2.2.2.2.1
  have hok : ∀ w, w < n → ∃ p s : Nat, p < s ∧ 2 ≤ s ∧ s ≤ 40 ∧ u.2.1 15 w = J p ∧ u.2.1 46 w = J p ∧ u.2.1 5 w = J s := by
    intro w hwn
    obtain ⟨s, hs1, hs2, b1, b2, b3, b4⟩ := hw w hwn
    obtain ⟨⟨p, p1, p2, p3⟩, p4⟩ := hm w (by rw [e1, J_toInt (by omega)]; omega)
    rw [b1, J_toInt (by omega)] at p1
    exact ⟨p, s, by omega, hs1, hs2, p2, p3, b1⟩
  refine ⟨(n, u.2.1 4, u.2.1 5, u.2.1 6, c (u.1 705)), ⟨⟨hn, e1, rfl, rfl, rfl, fun v v1 v2 v3 t p w hw4 => ?_⟩, ⟨hn, e2, fun w hwn => ?_, fun v v1 v2 v3 v4 v5 v6 v7 w hw4 => ?_⟩, ⟨hn, fun w hwn => ?_⟩, ⟨hn, fun w hwn => ?_⟩, t1.trans t2.symm, fun w hwn => ?_⟩, rfl, rfl, rfl⟩
  · have := hcW v v1 v2 t p w hw4
    rw [v3] at this
    exact this
  · obtain ⟨s, hs1, hs2, b1, b2, b3, b4⟩ := hw w hwn
    refine ⟨b2.trans b1.symm, b3, fun p s' q1 q2 q3 => b4 p ?_⟩
    have : J s = J s' := b1.symm.trans q1
    rw [J_inj (by omega) (by omega)] at this
    omega
  · have := hcR v v1 (fun i _ => ⟨congrFun v3 i, congrFun v4 i⟩) (congrFun v5 0) (fun i _ => ⟨congrFun v6 i, congrFun v7 i⟩) w hw4
    rw [v2, es] at this
    exact this
  · obtain ⟨p, s, q1, q2, q3, q4, q5, q6⟩ := hok w hwn
    exact ⟨p, s, q1, q2, q3, q4, q6⟩
  · obtain ⟨p, s, q1, q2, q3, q4, q5, q6⟩ := hok w hwn
    exact ⟨p, s, q1, q2, q3, q5, q6⟩
  · obtain ⟨p, s, q1, q2, q3, q4, q5, q6⟩ := hok w hwn
    obtain ⟨-, p4⟩ := hm w (by rw [e1, J_toInt (by omega)]; exact Int.ofNat_lt.mpr hwn)
    exact ⟨q4.trans q5.symm, p4.symm⟩
/-- the reference in thought, i nights on -/
def z_Rt (E : z_E) (u : k_S) (i : Nat) (v : k_S) : Prop := z_fr [4209, 4230] [46, 47, 54, 55, 60, 61, 62] u v ∧ z_moR v = z_or E 4 i (z_moR u) ∧ v.1 4230 = u.1 4209 ∧ ∀ w, w < 4 → v.2.1 60 w = u.2.1 46 w ∧ v.2.1 61 w = u.2.1 47 w
theorem z_Rt_0 (E : z_E) (u : k_S) : k_sat (f_R_keepNow u) (fun _ v => z_Rt E u 0 v) :=
  z_mono (z_keepNow u) (fun _ v h => ⟨h.1.mono rfl rfl, by unfold z_moR; rw [h.1.1 4209 rfl, h.1.2.1 46 rfl, h.1.2.1 47 rfl]; rfl, h.2.1, h.2.2⟩)
theorem z_Rt_s {E : z_E} {u v : k_S} {i : Nat} (hE : z_ER E u) (hok : z_ok E (z_moR u)) (h : z_Rt E u i v) : k_sat (f_R_goOn v) (fun _ v' => z_Rt E u (i + 1) v') := by
  obtain ⟨h1, h2, h3, h4⟩ := h
  refine z_mono (z_goOn E v (z_ER_f h1 (by decide) hE) (by rw [h2]; exact (z_or_ok hok i).1)) (fun _ v' h' => ⟨h1.tr (h'.1.mono rfl rfl), ?_, ?_, ?_⟩)
  · rw [h'.2, h2]; rfl
  · rw [h'.1.1 4230 rfl, h3]
  · rw [h'.1.2.1 60 rfl, h'.1.2.1 61 rfl]; exact h4
theorem z_Rt_b {E : z_E} {u v : k_S} {i : Nat} (hE4 : E.1 ≤ 4) (h : z_Rt E u i v) : k_sat (f_R_layBack v) (fun _ v' => z_fr [4230] [54, 55, 60, 61, 62] u v') := by
  obtain ⟨h1, h2, h3, h4⟩ := h
  refine z_mono (z_layBack v) (fun _ v' h' => ?_)
  obtain ⟨g1, g2, g3, g4⟩ := h'
  have hv46 : v.2.1 46 = (z_or E 4 i (z_moR u)).2.1 := by rw [← h2]; rfl
  have hv47 : v.2.1 47 = (z_or E 4 i (z_moR u)).2.2 := by rw [← h2]; rfl
  refine z_fr_back ((h1.mono rfl rfl).tr (g1.mono rfl rfl)) (g2.trans h3) ?_ ?_
  · funext w
    by_cases hw : w < 4
    · rw [(g3 w hw).1, (h4 w hw).1]
    · rw [(g4 w (by omega)).1, hv46, (z_or_hi (by omega) i).1]; rfl
  · funext w
    by_cases hw : w < 4
    · rw [(g3 w hw).2, (h4 w hw).2]
    · rw [(g4 w (by omega)).2, hv47, (z_or_hi (by omega) i).2]; rfl
/-- the place of a wheel in the i-th night from now -/
def z_pl (E : z_E) (u : k_S) (w i : Nat) : Int32 := (z_or E 4 i (z_moR u)).2.1 w
theorem z_pl_m {E : z_E} {u v : k_S} (h : z_moR v = z_moR u) {w i : Nat} : z_pl E v w i = z_pl E u w i := by unfold z_pl; rw [h]
theorem z_Rt_p {E : z_E} {u v : k_S} {i : Nat} (h : z_Rt E u i v) (w : Nat) : v.2.1 46 w = z_pl E u w i ∧ v.2.1 47 w = (z_or E 4 i (z_moR u)).2.2 w := by
  unfold z_pl
  rw [← h.2.1]
  exact ⟨rfl, rfl⟩
/-- the class in thought, i nights on, its first K wheels -/
def z_Wt (E : z_E) (K : Nat) (u : k_S) (i : Nat) (v : k_S) : Prop := z_fr [1702, 1206, 704] [18, 19, 9, 13] u v ∧ z_ok E (z_moThought v) ∧ z_ag K (z_moThought v) (z_or E 4 i (z_moR u))
theorem z_Wt_0 {E : z_E} {u : k_S} (h : z_en E u) : k_sat (f_Nights_think u) (fun _ v => z_Wt E E.1 u 0 v) := by
  obtain ⟨h1, h2, h3, h4, h5⟩ := h
  unfold f_Nights_think
  rw [h1.2.1]
  refine z_bind _ (z_Thought_become_Now E.1 h1.1 u) (fun _ v hv => k_sat_mk ⟨hv.1.mono rfl rfl, ⟨h1.1, fun w hw => ?_⟩, ?_, fun w hw => ?_⟩)
  · obtain ⟨p, s, a1, a2, a3, a4, a5⟩ := h3.2 w hw
    exact ⟨p, s, a1, a2, a3, ((hv.2.2.1 w hw).1).trans a4, a5⟩
  · exact hv.2.1.trans h5.1
  · exact ⟨((hv.2.2.1 w hw).1).trans (h5.2 w hw).1, ((hv.2.2.1 w hw).2).trans (h5.2 w hw).2⟩
theorem z_Wt.le {E : z_E} {K K' : Nat} {u v : k_S} {i : Nat} (h : z_Wt E K u i v) (hK : K' ≤ K) : z_Wt E K' u i v := ⟨h.1, h.2.1, h.2.2.1, fun w hw => h.2.2.2 w (by omega)⟩
theorem z_Wt_n {E : z_E} {u v : k_S} {K i n : Nat} (hE : z_EW E u) (hn : n < 2147483648) (hK : K ≤ 4) (h : z_Wt E K u i v) : k_sat (f_Nights_pass_Thought (J n) (J K) v) (fun _ v' => z_Wt E K u (i + n) v') := by
  obtain ⟨h1, h2, h3⟩ := h
  refine z_mono (z_pass_Thought E n K hn hK v (z_EW_f h1 (by decide) hE) h2) (fun _ v' h' => ⟨h1.tr (h'.1.mono rfl rfl), ?_, ?_⟩)
  · rw [h'.2.1]; exact (z_or_ok h2 n).1
  · rw [h'.2.1, ← z_or_add]; exact z_or_ag hK h3 n
theorem z_Wt_s {E : z_E} {u v : k_S} {K i : Nat} (hE : z_EW E u) (hK : K ≤ 4) (h : z_Wt E K u i v) : k_sat (f_Nights_pass_Thought 1 (J K) v) (fun _ v' => z_Wt E K u (i + 1) v') := z_Wt_n (n := 1) hE (by omega) hK h
theorem z_Wt_p {E : z_E} {u v : k_S} {K i : Nat} (h : z_Wt E K u i v) {w : Nat} (hw : w < K) (hw4 : w < 4) : f_Thought_placeOf (J w) v = some (z_pl E u w i, v) := by
  unfold z_pl
  rw [z_Thought_placeOf hw4, ← (h.2.2.2 w hw).1]
  rfl
theorem z_en_f {E : z_E} {F A : List Nat} {u v : k_S} (h : z_fr F A u v) (hd : F.elem 303 = false ∧ F.elem 703 = false ∧ F.elem 705 = false ∧ A.elem 4 = false ∧ A.elem 5 = false ∧ A.elem 6 = false ∧ A.elem 8 = false) (hd2 : F.elem 4203 = false ∧ F.elem 4223 = false ∧ F.elem 4211 = false ∧ A.elem 44 = false ∧ A.elem 45 = false ∧ A.elem 48 = false ∧ A.elem 49 = false ∧ A.elem 50 = false ∧ A.elem 51 = false ∧ A.elem 52 = false ∧ A.elem 53 = false) (hd3 : F.elem 1402 = false ∧ A.elem 15 = false ∧ A.elem 16 = false ∧ F.elem 4209 = false ∧ A.elem 46 = false ∧ A.elem 47 = false) (hE : z_en E u) : z_en E v := by
  obtain ⟨a1, a2, a3, a4, a5, a6⟩ := hd3
  have m1 : z_moNow v = z_moNow u := by unfold z_moNow; rw [h.1 _ a1, h.2.1 _ a2, h.2.1 _ a3]
  have m2 : z_moR v = z_moR u := by unfold z_moR; rw [h.1 _ a4, h.2.1 _ a5, h.2.1 _ a6]
  exact ⟨z_EW_f h hd hE.1, z_ER_f h hd2 hE.2.1, by rw [m1]; exact hE.2.2.1, by rw [m2]; exact hE.2.2.2.1, by rw [m1, m2]; exact hE.2.2.2.2⟩
/-- the class has thought: the reference's part is as it was, all else as before -/
theorem z_Wdone {E : z_E} {u v : k_S} (h : zI u) (hE : z_en E u) (hf : z_fr [1702, 1206, 704] [18, 19, 9, 13] u v) : zI v ∧ z_en E v ∧ z_moR v = z_moR u ∧ v.1 4203 = u.1 4203 ∧ v.1 4210 = u.1 4210 ∧ v.2.1 45 = u.2.1 45 :=
  ⟨zI_0 h (hf.mono rfl rfl), z_en_f hf (by decide) (by decide) (by decide) hE, by unfold z_moR; rw [hf.1 4209 rfl, hf.2.1 46 rfl, hf.2.1 47 rfl], hf.1 4203 rfl, hf.1 4210 rfl, hf.2.1 45 rfl⟩
theorem z_shows (a b : Int32) (u : k_S) (h : zI u) : z_pair (f_W_shows a b) (f_R_shows a b) u zI := by
  obtain ⟨E, hE, -, -, -⟩ := z_env h
  have hE4 := hE.1.1
  have e1 := hE.1.2.1
  have e2 := hE.2.1.2.1
  refine z_pair_of ?_
  unfold f_W_shows
  rcases J_or a E.1 with ⟨w, hw, rfl⟩ | ha
  · rw [z_Whas e1 hE4 hw, z_bind_some]
    refine z_neg (by decide) ?_
    rcases J_or b 20001 with ⟨n, hn, rfl⟩ | hb
    · refine z_neg (by (try simp (disch := omega) only [Int32.lt_iff_toInt_lt, Int32.le_iff_toInt_le, ← Int32.toInt_inj, Int32.toInt_add, Int32.toInt_sub, Int32.toInt_mul, Int32.toInt_neg, z_bm, z_bm2, J_ti, J_toInt, z_cn, Int32.reduceToInt]) <;> omega) (z_pos (by (try simp (disch := omega) only [Int32.lt_iff_toInt_lt, Int32.le_iff_toInt_le, ← Int32.toInt_inj, Int32.toInt_add, Int32.toInt_sub, Int32.toInt_mul, Int32.toInt_neg, z_bm, z_bm2, J_ti, J_toInt, z_cn, Int32.reduceToInt]) <;> omega) (z_bind _ (z_Wt_0 hE) (fun _ u1 h1 => ?_)))
      rw [z_Jp]
      refine z_bind _ (z_Wt_n hE.1 (by omega) (by omega) (h1.le (show w + 1 ≤ E.1 by omega))) (fun _ u2 h2 => ?_)
      rw [z_Wt_p h2 (by omega) (by omega), z_bind_some]
      obtain ⟨i2, hE2, m2, q1, -, -⟩ := z_Wdone h hE h2.1
      refine k_sat_mk ?_
      unfold f_R_shows
      rw [z_RisWheel (q1.trans e2) hE4 hw, z_bind_some]
      refine z_neg (by decide) ?_
      rw [z_Rin1 (by (try simp (disch := omega) only [Int32.lt_iff_toInt_lt, Int32.le_iff_toInt_le, ← Int32.toInt_inj, Int32.toInt_add, Int32.toInt_sub, Int32.toInt_mul, Int32.toInt_neg, z_bm, z_bm2, J_ti, J_toInt, z_cn, Int32.reduceToInt]) <;> omega) (by (try simp (disch := omega) only [Int32.lt_iff_toInt_lt, Int32.le_iff_toInt_le, ← Int32.toInt_inj, Int32.toInt_add, Int32.toInt_sub, Int32.toInt_mul, Int32.toInt_neg, z_bm, z_bm2, J_ti, J_toInt, z_cn, Int32.reduceToInt]) <;> omega), z_bind_some]
      refine z_neg (by decide) (z_bind _ (z_Rt_0 E u2) (fun _ u3 h3 => z_bind _ (z_for 0 n (fun i v => z_Rt E u2 i v) (K := fun _ v => z_Rt E u2 n v) (by omega) (Nat.zero_le n) h3 (fun i v _ hi hp => ?_) (fun v hp => ?_)) (fun _ v hv => z_ck (by (try simp (disch := omega) only [Int32.lt_iff_toInt_lt, Int32.le_iff_toInt_le, ← Int32.toInt_inj, Int32.toInt_add, Int32.toInt_sub, Int32.toInt_mul, Int32.toInt_neg, z_bm, z_bm2, J_ti, J_toInt, z_cn, Int32.reduceToInt]) <;> omega) (by (try simp (disch := omega) only [Int32.lt_iff_toInt_lt, Int32.le_iff_toInt_le, ← Int32.toInt_inj, Int32.toInt_add, Int32.toInt_sub, Int32.toInt_mul, Int32.toInt_neg, z_bm, z_bm2, J_ti, J_toInt, z_cn, Int32.reduceToInt]) <;> omega) (z_let (z_bind _ (z_Rt_b hE4 hv) (fun _ v' hv' => k_sat_mk ⟨?_, zI_0 i2 (hv'.mono rfl rfl)⟩))))))
      · unfold f_R_shows_B27
        exact z_neg (by (try simp (disch := omega) only [Int32.lt_iff_toInt_lt, Int32.le_iff_toInt_le, ← Int32.toInt_inj, Int32.toInt_add, Int32.toInt_sub, Int32.toInt_mul, Int32.toInt_neg, z_bm, z_bm2, J_ti, J_toInt, z_cn, Int32.reduceToInt]) <;> omega) (z_bind _ (z_Rt_s hE2.2.1 hE2.2.2.2.1 hp) (fun _ v' hv' => k_sat_mk (Or.inl ⟨rfl, hv'⟩)))
      · unfold f_R_shows_B27
        exact z_pos (Int32.le_refl _) (k_sat_mk ⟨_, rfl, hp⟩)
      · rw [J_toNat (by omega), (z_Rt_p hv w).1, z_pl_m m2, Nat.zero_add]
    · have hR : k_sat (f_R_shows (J w) b u) (fun r' v => (-1 : Int32) = r' ∧ zI v) := by
        unfold f_R_shows
        rw [z_RisWheel e2 hE4 hw, z_bind_some]
        refine z_neg (by decide) ?_
        rw [z_Rin0 (by ((try simp (disch := omega) only [Int32.lt_iff_toInt_lt, Int32.le_iff_toInt_le, ← Int32.toInt_inj, Int32.toInt_add, Int32.toInt_sub, Int32.toInt_mul, Int32.toInt_neg, z_bm, z_bm2, J_ti, J_toInt, z_cn, Int32.reduceToInt] at *); omega)), z_bind_some]
        exact z_pos rfl (k_sat_mk ⟨rfl, h⟩)
      exact z_ite (fun _ => k_sat_mk hR) (fun _ => z_neg (by ((try simp (disch := omega) only [Int32.lt_iff_toInt_lt, Int32.le_iff_toInt_le, ← Int32.toInt_inj, Int32.toInt_add, Int32.toInt_sub, Int32.toInt_mul, Int32.toInt_neg, z_bm, z_bm2, J_ti, J_toInt, z_cn, Int32.reduceToInt] at *); omega)) (k_sat_mk hR))
  · rw [z_Whas0 e1 hE4 ha, z_bind_some]
    refine z_pos rfl (k_sat_mk ?_)
    unfold f_R_shows
    rw [z_RisWheel0 e2 hE4 ha, z_bind_some]
    exact z_pos rfl (k_sat_mk ⟨rfl, h⟩)
theorem z_on (a : Int32) (u : k_S) (h : zI u) : z_pair (f_W_on a) (f_R_on a) u zI := by
  obtain ⟨E, hE, -, eS, -⟩ := z_env h
  have hE4 := hE.1.1
  have e1 := hE.1.2.1
  obtain ⟨⟨t, ht, t1, t2⟩, hm, hm2⟩ := h.2.2.1
  refine z_pair_of ?_
  unfold f_W_on
  by_cases ha : 1 ≤ a.toInt ∧ a.toInt ≤ 2000
  · obtain ⟨n, rfl, hn1, hn2⟩ : ∃ n : Nat, a = J n ∧ 1 ≤ n ∧ n ≤ 2000 := by
      obtain ⟨n, hn, h1, h2⟩ := J_of (x := a) (by omega)
      exact ⟨n, hn, by omega, by omega⟩
    refine z_neg (by (try simp (disch := omega) only [Int32.lt_iff_toInt_lt, Int32.le_iff_toInt_le, ← Int32.toInt_inj, Int32.toInt_add, Int32.toInt_sub, Int32.toInt_mul, Int32.toInt_neg, z_bm, z_bm2, J_ti, J_toInt, z_cn, Int32.reduceToInt]) <;> omega) (z_pos (by (try simp (disch := omega) only [Int32.lt_iff_toInt_lt, Int32.le_iff_toInt_le, ← Int32.toInt_inj, Int32.toInt_add, Int32.toInt_sub, Int32.toInt_mul, Int32.toInt_neg, z_bm, z_bm2, J_ti, J_toInt, z_cn, Int32.reduceToInt]) <;> omega) ?_)
    by_cases hf : t + n ≤ 1000000
    · refine z_pos (by rw [t1]; (try simp (disch := omega) only [Int32.lt_iff_toInt_lt, Int32.le_iff_toInt_le, ← Int32.toInt_inj, Int32.toInt_add, Int32.toInt_sub, Int32.toInt_mul, Int32.toInt_neg, z_bm, z_bm2, J_ti, J_toInt, z_cn, Int32.reduceToInt]) <;> omega) ?_
      rw [e1]
      refine z_bind _ (z_pass_Now E n E.1 (by omega) hE4 u hE.1 hE.2.2.1) (fun _ u1 h1 => k_sat_mk ?_)
      obtain ⟨g1, g2, -⟩ := h1
      have mR : z_moR u1 = z_moR u := by unfold z_moR; rw [g1.1 4209 rfl, g1.2.1 46 rfl, g1.2.1 47 rfl]
      have hER1 := z_ER_f g1 (by decide) hE.2.1
      unfold f_R_on
      rw [z_Rin1 (by (try simp (disch := omega) only [Int32.lt_iff_toInt_lt, Int32.le_iff_toInt_le, ← Int32.toInt_inj, Int32.toInt_add, Int32.toInt_sub, Int32.toInt_mul, Int32.toInt_neg, z_bm, z_bm2, J_ti, J_toInt, z_cn, Int32.reduceToInt]) <;> omega) (by (try simp (disch := omega) only [Int32.lt_iff_toInt_lt, Int32.le_iff_toInt_le, ← Int32.toInt_inj, Int32.toInt_add, Int32.toInt_sub, Int32.toInt_mul, Int32.toInt_neg, z_bm, z_bm2, J_ti, J_toInt, z_cn, Int32.reduceToInt]) <;> omega), z_bind_some, g1.1 4209 rfl, t2, J_add]
      refine z_neg (by decide) (z_pos (by (try simp (disch := omega) only [Int32.lt_iff_toInt_lt, Int32.le_iff_toInt_le, ← Int32.toInt_inj, Int32.toInt_add, Int32.toInt_sub, Int32.toInt_mul, Int32.toInt_neg, z_bm, z_bm2, J_ti, J_toInt, z_cn, Int32.reduceToInt]) <;> omega) (z_bind _ (z_for 0 n (fun i v => z_fr [4209] [46, 47, 54, 55] u1 v ∧ z_moR v = z_or E 4 i (z_moR u)) (K := fun _ v => z_fr [4209] [46, 47, 54, 55] u1 v ∧ z_moR v = z_or E 4 n (z_moR u)) (by omega) (Nat.zero_le n) ⟨z_fr.rf, mR⟩ (fun i v _ hi hp => ?_) (fun v hp => ?_)) (fun _ v hv => k_sat_mk ⟨?_, ?_⟩)))
      · unfold f_R_on_B29
        refine z_neg (by (try simp (disch := omega) only [Int32.lt_iff_toInt_lt, Int32.le_iff_toInt_le, ← Int32.toInt_inj, Int32.toInt_add, Int32.toInt_sub, Int32.toInt_mul, Int32.toInt_neg, z_bm, z_bm2, J_ti, J_toInt, z_cn, Int32.reduceToInt]) <;> omega) (z_bind _ (z_goOn E v (z_ER_f hp.1 (by decide) hER1) (by rw [hp.2]; exact (z_or_ok hE.2.2.2.1 i).1)) (fun _ v' hv' => k_sat_mk (Or.inl ⟨rfl, hp.1.tr hv'.1, ?_⟩)))
        rw [hv'.2, hp.2]; rfl
      · unfold f_R_on_B29
        exact z_pos (Int32.le_refl _) (k_sat_mk ⟨_, rfl, hp⟩)
      · have a1 : u1.1 1402 = (z_or E E.1 n (z_moNow u)).1 := by rw [← g2]; rfl
        have a2 : v.1 4209 = (z_or E 4 n (z_moR u)).1 := by rw [← hv.2]; rfl
        rw [a1, a2]
        exact (z_or_ag hE4 hE.2.2.2.2 n).1
      · have ag := z_or_ag (E := E) hE4 hE.2.2.2.2 n
        have okR := z_or_ok (K := 4) hE.2.2.2.1 n
        have b1 : v.1 1402 = (z_or E E.1 n (z_moNow u)).1 := by rw [hv.1.1 1402 rfl, ← g2]; rfl
        have b2 : v.1 4209 = (z_or E 4 n (z_moR u)).1 := by rw [← hv.2]; rfl
        have b15 : v.2.1 15 = (z_or E E.1 n (z_moNow u)).2.1 := by rw [hv.1.2.1 15 rfl, ← g2]; rfl
        have b16 : v.2.1 16 = (z_or E E.1 n (z_moNow u)).2.2 := by rw [hv.1.2.1 16 rfl, ← g2]; rfl
        have b46 : v.2.1 46 = (z_or E 4 n (z_moR u)).2.1 := by rw [← hv.2]; rfl
        have b47 : v.2.1 47 = (z_or E 4 n (z_moR u)).2.2 := by rw [← hv.2]; rfl
        have hfr : z_fr [1402, 1206, 704, 4209] [15, 16, 9, 46, 47, 54, 55] u v := (g1.mono rfl rfl).tr (hv.1.mono rfl rfl)
        have et : (z_or E 4 n (z_moR u)).1 = J (t + n) := by rw [okR.2]; show u.1 4209 + J n = _; rw [t2, J_add]
        refine zI_M h (hfr.mono rfl rfl) ⟨⟨t + n, hf, by rw [b1, ag.1, et], by rw [b2, et]⟩, fun w hw => ?_, fun w hw hw4 => ?_⟩
        · rw [hfr.1 303 rfl, e1, J_toInt (by omega)] at hw
          have hw' : w < E.1 := by omega
          obtain ⟨p, s, p1, p2, p3, p4, p5⟩ := okR.1.2 w hw'
          rw [hfr.2.1 5 rfl, b15, b16, b46, b47, (ag.2 w hw').1, (ag.2 w hw').2, ← eS, p5, J_toInt (by omega)]
          exact ⟨⟨p, by omega, p4, p4⟩, rfl⟩
        · rw [hfr.1 303 rfl] at hw
          have hw2 := hw
          rw [e1, J_toInt (by omega)] at hw2
          rw [b15, b16, (z_or_hi (by omega) n).1, (z_or_hi (by omega) n).2]
          exact hm2 w hw hw4
    · refine z_neg (by rw [t1]; (try simp (disch := omega) only [Int32.lt_iff_toInt_lt, Int32.le_iff_toInt_le, ← Int32.toInt_inj, Int32.toInt_add, Int32.toInt_sub, Int32.toInt_mul, Int32.toInt_neg, z_bm, z_bm2, J_ti, J_toInt, z_cn, Int32.reduceToInt]) <;> omega) (k_sat_mk ?_)
      unfold f_R_on
      rw [z_Rin1 (by (try simp (disch := omega) only [Int32.lt_iff_toInt_lt, Int32.le_iff_toInt_le, ← Int32.toInt_inj, Int32.toInt_add, Int32.toInt_sub, Int32.toInt_mul, Int32.toInt_neg, z_bm, z_bm2, J_ti, J_toInt, z_cn, Int32.reduceToInt]) <;> omega) (by (try simp (disch := omega) only [Int32.lt_iff_toInt_lt, Int32.le_iff_toInt_le, ← Int32.toInt_inj, Int32.toInt_add, Int32.toInt_sub, Int32.toInt_mul, Int32.toInt_neg, z_bm, z_bm2, J_ti, J_toInt, z_cn, Int32.reduceToInt]) <;> omega), z_bind_some, t2, J_add]
      exact z_neg (by decide) (z_neg (by (try simp (disch := omega) only [Int32.lt_iff_toInt_lt, Int32.le_iff_toInt_le, ← Int32.toInt_inj, Int32.toInt_add, Int32.toInt_sub, Int32.toInt_mul, Int32.toInt_neg, z_bm, z_bm2, J_ti, J_toInt, z_cn, Int32.reduceToInt]) <;> omega) (k_sat_mk ⟨rfl, h⟩))
  · have hR : k_sat (f_R_on a u) (fun r' v => (-1 : Int32) = r' ∧ zI v) := by
      unfold f_R_on
      rw [z_Rin0 (by ((try simp (disch := omega) only [Int32.lt_iff_toInt_lt, Int32.le_iff_toInt_le, ← Int32.toInt_inj, Int32.toInt_add, Int32.toInt_sub, Int32.toInt_mul, Int32.toInt_neg, z_bm, z_bm2, J_ti, J_toInt, z_cn, Int32.reduceToInt] at *); omega)), z_bind_some]
      exact z_pos rfl (k_sat_mk ⟨rfl, h⟩)
    exact z_ite (fun _ => k_sat_mk hR) (fun _ => z_neg (by ((try simp (disch := omega) only [Int32.lt_iff_toInt_lt, Int32.le_iff_toInt_le, ← Int32.toInt_inj, Int32.toInt_add, Int32.toInt_sub, Int32.toInt_mul, Int32.toInt_neg, z_bm, z_bm2, J_ti, J_toInt, z_cn, Int32.reduceToInt] at *); omega)) (k_sat_mk hR))
