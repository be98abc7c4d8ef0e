/-! LAW: the reference's lines -/
theorem z_ps_M {te le te' le' : Nat → Int32} {M : Nat} (h : ∀ i, i < M → te' i = te i ∧ le' i = le i) : ∀ (ls : List z_Ln) (o j : Nat), j + ls.length ≤ M → z_ps te le o j ls → z_ps te' le' o j ls
  | [], o, j, _, _ => trivial
  | l :: r, o, j, hj, hp => by
    rw [List.length_cons] at hj
    rw [z_ps] at hp ⊢
    obtain ⟨a, b⟩ := h j (by omega)
    exact ⟨a.trans hp.1, b.trans hp.2.1, z_ps_M h r _ _ (by omega) hp.2.2⟩
theorem z_ps_app {te le : Nat → Int32} {l : z_Ln} : ∀ (ls : List z_Ln) (o j : Nat), z_ps te le o j ls → te (j + ls.length) = J (o + (z_rl ls).length + l.1.length) → le (j + ls.length) = J (o + (z_rl ls).length + l.1.length + l.2.length) → z_ps te le o j (ls ++ [l])
  | [], o, j, _, h1, h2 => ⟨h1, h2, trivial⟩
  | a :: r, o, j, hp, h1, h2 => by
    rw [List.cons_append, z_ps]
    rw [z_ps] at hp
    have e : (z_rl (a :: r)).length = a.1.length + a.2.length + (z_rl r).length := by
      rw [z_rl, List.length_append, List.length_append]
      omega
    rw [e, List.length_cons] at h1 h2
    refine ⟨hp.1, hp.2.1, z_ps_app r _ _ hp.2.2 ?_ ?_⟩
    · rw [show j + 1 + r.length = j + (r.length + 1) by omega, h1]
      congr 1
      omega
    · rw [show j + 1 + r.length = j + (r.length + 1) by omega, h2]
      congr 1
      omega
theorem z_ps_J {te le : Nat → Int32} : ∀ (ls : List z_Ln) (o j : Nat), z_ps te le o j ls → o + (z_rl ls).length ≤ 130 → ∀ x, x < ls.length → (te (j + x)).toInt16.toInt32 = te (j + x) ∧ (le (j + x)).toInt16.toInt32 = le (j + x)
  | [], o, j, _, _, x, hx => by cases hx
  | a :: r, o, j, hp, hl, x, hx => by
    rw [z_ps] at hp
    rw [z_rl, List.length_append, List.length_append] at hl
    rw [List.length_cons] at hx
    by_cases e : x = 0
    · subst e
      rw [Nat.add_zero, hp.1, hp.2.1]
      exact ⟨z_b16 (by omega), z_b16 (by omega)⟩
    · have := z_ps_J r _ _ hp.2.2 (by omega) (x - 1) (by omega)
      rw [show j + 1 + (x - 1) = j + x by omega] at this
      exact this
theorem z_rs_m {n i : Nat} {b : Nat → Nat} {L : List Int32} {u v : k_S} (h : z_rs n b u i L) (hf : z_fk [] [51, 52, 53] u v) : z_rs n b v i L := by
  obtain ⟨⟨a1, a2, a3⟩, h2, h3, h4, ⟨h5, h6⟩, h7⟩ := h
  refine ⟨⟨a1, (hf.1 4202 rfl).trans a2, ?_⟩, (hf.1 4212 rfl).trans h2, h3, (hf.1 4213 rfl).trans h4, ⟨(hf.1 4215 rfl).trans h5, ?_⟩, h7⟩
  · rw [hf.2.1 43 rfl]
    exact a3
  · rw [hf.2.1 49 rfl, hf.2.1 50 rfl]
    exact h6
theorem z_rx_m {n : Nat} {b : Nat → Nat} {u v : k_S} (h : z_rx n b u) (hf : z_fk [4212, 4213, 4214, 4215] [49, 50, 51, 52, 53] u v) : z_rx n b v :=
  ⟨h.1, (hf.1 4202 rfl).trans h.2.1, fun j hj => by rw [hf.2.1 43 rfl]; exact h.2.2 j hj⟩
def z_rv (n : Nat) (b : Nat → Nat) (u : k_S) (i : Nat) (ls : List z_Ln) : Prop := z_rs n b u i (z_rl ls) ∧ u.1 4214 = J 0 ∧ u.2.1 51 1 = J ls.length ∧ z_ps (fun j => u.2.1 52 (61 + j)) (fun j => u.2.1 53 (61 + j)) 0 0 ls
theorem z_l66 {t : Nat} {u : k_S} (ht : t < 122) (h61 : 61 ≤ t) : k_sat (f_R_line_J66 (J t) u) (fun _ v => z_fk [] [51, 53] u v ∧ v.2.1 53 = upd (u.2.1 53) t ((((u.1 4215).toInt16.toInt32).toInt16.toInt32)) ∧ v.2.1 51 = upd (u.2.1 51) 1 (u.2.1 51 1 + 1)) := by
  unfold f_R_line_J66
  rw [J_toNat (by omega), show (1 : Int32).toNatClampNeg = 1 from rfl]
  refine z_ck (by (try simp (disch := omega) only [Int32.lt_iff_toInt_lt, Int32.le_iff_toInt_le, ← Int32.toInt_inj, Int32.toInt_add, Int32.toInt_sub, Int32.toInt_mul, Int32.toInt_neg, z_bm, z_bm2, J_ti, J_toInt, z_cn, Int32.reduceToInt]) <;> omega) (by (try simp (disch := omega) only [Int32.lt_iff_toInt_lt, Int32.le_iff_toInt_le, ← Int32.toInt_inj, Int32.toInt_add, Int32.toInt_sub, Int32.toInt_mul, Int32.toInt_neg, z_bm, z_bm2, J_ti, J_toInt, z_cn, Int32.reduceToInt]) <;> omega) (z_let (z_ck (by decide) (by decide) (z_ck (by decide) (by decide) (z_let (k_sat_mk ⟨(z_kB rfl (by omega)).tr (z_kB rfl (by omega)), ?_, ?_⟩)))))
  · simp only [k_wA, show ¬ (53 = 51) by decide, if_false, if_true]
  · simp only [k_wA, show ¬ (51 = 53) by decide, if_false, if_true]
theorem z_lineR {n i : Nat} {b : Nat → Nat} {ls : List z_Ln} {u : k_S} (hs : z_rv n b u i ls) (hc : 2 * ls.length ≤ i) : k_sat (f_R_line u) (fun _ v => z_fk [4212, 4213, 4214, 4215] [49, 50, 51, 52, 53] u v ∧ ((z_ln (z_ch n b) i).1 = true → z_rv n b v (z_ln (z_ch n b) i).2.1 (ls ++ [(z_ln (z_ch n b) i).2.2])) ∧ ((z_ln (z_ch n b) i).1 = false → z_rx n b v ∧ v.1 4213 = J (z_ln (z_ch n b) i).2.1)) := by
  obtain ⟨h1, h2, h3, h4⟩ := hs
  have hn := h1.1.1
  have hin := h1.2.2.1
  have hl := h1.2.2.2.2.2
  have he : z_gp n (z_e6 (z_ch n b)) := z_ei_g (z_sg_g 6)
  have hP : z_PR n b 0 (f_R_either (f_R_operand_rec 8)) (z_e6 (z_ch n b)) := z_eiR hn (z_sgR hn 6 (by omega) 8 (by omega)) (z_sg_g 6)
  obtain ⟨a1, a2, a3⟩ := he i hin
  have e61 : ∀ x : Nat, (61 : Int32) + J x = J (61 + x) := fun x => by rw [show (61 : Int32) = J 61 from rfl, J_add]
  have e4215 : u.1 4215 = J (z_rl ls).length := h1.2.2.2.2.1.1
  -- what the last rows do, and mean
  have h66f : ∀ (v : k_S) (j : Nat), z_fk [4212, 4213, 4214, 4215] [49, 50, 51, 52, 53] u v → z_rx n b v → v.1 4213 = J j → k_sat (f_R_line_J66 (J (61 + ls.length)) v) (fun _ w => z_fk [4212, 4213, 4214, 4215] [49, 50, 51, 52, 53] u w ∧ z_rx n b w ∧ w.1 4213 = J j) := by
    intro v j k1 k2 k3
    refine z_mono (z_l66 (by omega) (by omega)) (fun _ w hw => ⟨k1.tr (hw.1.mono rfl rfl), z_rx_m k2 (hw.1.mono rfl rfl), (hw.1.1 4213 rfl).trans k3⟩)
  have h66 : ∀ (v : k_S) (j : Nat) (l : z_Ln), z_fk [4212, 4213, 4214, 4215] [49, 50, 51, 52, 53] u v → v.2.1 51 = u.2.1 51 → v.2.1 53 = u.2.1 53 → (∀ x, x < ls.length → v.2.1 52 (61 + x) = u.2.1 52 (61 + x)) → v.2.1 52 (61 + ls.length) = J ((z_rl ls).length + l.1.length) → z_rs n b v j (z_rl ls ++ (l.1 ++ l.2)) → v.1 4214 = J 0 → k_sat (f_R_line_J66 (J (61 + ls.length)) v) (fun _ w => z_fk [4212, 4213, 4214, 4215] [49, 50, 51, 52, 53] u w ∧ z_rv n b w j (ls ++ [l])) := by
    intro v j l k1 k2 k3 k4 k5 k6 k7
    refine z_mono (z_l66 (by omega) (by omega)) (fun _ w hw => ⟨k1.tr (hw.1.mono rfl rfl), ?_, (hw.1.1 4214 rfl).trans k7, ?_, ?_⟩)
    · rw [z_rl_app]
      exact z_rs_m k6 (hw.1.mono rfl rfl)
    · rw [hw.2.2, z_up, if_pos rfl, k2, h3, z_Jp, List.length_append, List.length_singleton]
    · have q1 := k6.2.2.2.2.1.1
      have q2 := k6.2.2.2.2.2
      have q3 := k6.2.2.1
      rw [List.length_append, List.length_append] at q1 q2
      have e53 : w.2.1 53 = upd (u.2.1 53) (61 + ls.length) (J ((z_rl ls).length + (l.1.length + l.2.length))) := by
        rw [hw.2.1, k3, q1, z_b16 (by omega), z_b16 (by omega)]
      have e52 : w.2.1 52 = v.2.1 52 := hw.1.2.1 52 rfl
      refine z_ps_app ls 0 0 (z_ps_M (M := ls.length) (fun x hx => ?_) ls 0 0 (by omega) h4) ?_ ?_
      · rw [e53, e52, z_up, if_neg (by omega)]
        exact ⟨k4 x hx, rfl⟩
      · rw [e52, Nat.zero_add, Nat.zero_add]
        exact k5
      · rw [e53, z_up, if_pos (by omega), Nat.zero_add, Nat.add_assoc]
  unfold f_R_line
  rw [show (1 : Int32).toNatClampNeg = 1 from rfl, h3, e61, e4215, z_b16 (by omega), z_b16 (by omega)]
  simp only [k_let]
  rw [J_toNat (show 61 + ls.length < 2147483648 by omega)]
  refine z_ck (by decide) (by decide) (z_ck (by (try simp (disch := omega) only [Int32.lt_iff_toInt_lt, Int32.le_iff_toInt_le, ← Int32.toInt_inj, Int32.toInt_add, Int32.toInt_sub, Int32.toInt_mul, Int32.toInt_neg, z_bm, z_bm2, J_ti, J_toInt, z_cn, Int32.reduceToInt]) <;> omega) (by (try simp (disch := omega) only [Int32.lt_iff_toInt_lt, Int32.le_iff_toInt_le, ← Int32.toInt_inj, Int32.toInt_add, Int32.toInt_sub, Int32.toInt_mul, Int32.toInt_neg, z_bm, z_bm2, J_ti, J_toInt, z_cn, Int32.reduceToInt]) <;> omega) ?_)
  have f0 : z_fk [] [52] u (k_wA u 52 (61 + ls.length) (J (z_rl ls).length)) := z_kB rfl (by omega)
  have f52 : (k_wA u 52 (61 + ls.length) (J (z_rl ls).length)).2.1 52 = upd (u.2.1 52) (61 + ls.length) (J (z_rl ls).length) := by simp [k_wA]
  have f51 : (k_wA u 52 (61 + ls.length) (J (z_rl ls).length)).2.1 51 = u.2.1 51 := rfl
  have f53 : (k_wA u 52 (61 + ls.length) (J (z_rl ls).length)).2.1 53 = u.2.1 53 := rfl
  generalize k_wA u 52 (61 + ls.length) (J (z_rl ls).length) = u1 at *
  refine z_bind _ (hP u1 i (z_rl ls) (z_rs_m h1 (f0.mono rfl rfl)) ((f0.1 4214 rfl).trans h2)) (fun _ v hv => ?_)
  obtain ⟨g1, g2, g3⟩ := hv
  have k1 : z_fk [4212, 4213, 4214, 4215] [49, 50, 51, 52, 53] u v := (f0.mono rfl rfl).tr (g1.mono rfl rfl)
  have v52 : v.2.1 52 = upd (u.2.1 52) (61 + ls.length) (J (z_rl ls).length) := (g1.2.1 52 rfl).trans f52
  have v51 : v.2.1 51 = u.2.1 51 := (g1.2.1 51 rfl).trans f51
  have v53 : v.2.1 53 = u.2.1 53 := (g1.2.1 53 rfl).trans f53
  unfold z_ln
  by_cases q1 : (z_e6 (z_ch n b) i).1 = true
  · rw [if_pos q1]
    obtain ⟨g4, g5⟩ := g2 q1
    obtain ⟨b1, b2, b3, b4⟩ := a3 q1
    generalize hj : (z_e6 (z_ch n b) i).2.1 = j at *
    generalize hA : (z_e6 (z_ch n b) i).2.2 = A at *
    refine z_neg (by rw [g4.2.2.2.1]; decide) ?_
    obtain ⟨r, hr, hkk⟩ := z_look g4.1 g4.2.1 g4.2.2.1
    rw [hr, z_bind_some]
    by_cases q2 : z_ch n b j = 63
    · rw [if_pos q2]
      have hjn : j < n := z_ch_n (b := b) (by omega)
      obtain ⟨c1, c2, c3⟩ := he (j + 1) (by omega)
      have x1 := (z_nx2 g4 hjn).2
      rw [(z_nx2 g4 hjn).1]
      have e2 : (k_wF v 4212 (J (j + 1))).1 4215 = J (z_rl ls ++ A).length := g4.2.2.2.2.1.1
      have hlA := g4.2.2.2.2.2
      rw [List.length_append] at e2 hlA
      rw [e2, z_b16 (by omega), z_b16 (by omega)]
      refine z_pos ((z_lk_eq hkk (k := 63) (by omega)).mpr q2) (z_ck (by (try simp (disch := omega) only [Int32.lt_iff_toInt_lt, Int32.le_iff_toInt_le, ← Int32.toInt_inj, Int32.toInt_add, Int32.toInt_sub, Int32.toInt_mul, Int32.toInt_neg, z_bm, z_bm2, J_ti, J_toInt, z_cn, Int32.reduceToInt]) <;> omega) (by (try simp (disch := omega) only [Int32.lt_iff_toInt_lt, Int32.le_iff_toInt_le, ← Int32.toInt_inj, Int32.toInt_add, Int32.toInt_sub, Int32.toInt_mul, Int32.toInt_neg, z_bm, z_bm2, J_ti, J_toInt, z_cn, Int32.reduceToInt]) <;> omega) ?_)
      have k2 : z_fk [4212, 4213, 4214, 4215] [49, 50, 51, 52, 53] u (k_wA (k_wF v 4212 (J (j + 1))) 52 (61 + ls.length) (J ((z_rl ls).length + A.length))) := (k1.tr (z_kF rfl)).tr (z_kB rfl (by omega))
      have x2 : z_rs n b (k_wA (k_wF v 4212 (J (j + 1))) 52 (61 + ls.length) (J ((z_rl ls).length + A.length))) (j + 1) (z_rl ls ++ A) := z_rs_m x1 (z_kB rfl (by omega))
      have w4214 : (k_wA (k_wF v 4212 (J (j + 1))) 52 (61 + ls.length) (J ((z_rl ls).length + A.length))).1 4214 = J 0 := g5
      have w51 : (k_wA (k_wF v 4212 (J (j + 1))) 52 (61 + ls.length) (J ((z_rl ls).length + A.length))).2.1 51 = u.2.1 51 := v51
      have w53 : (k_wA (k_wF v 4212 (J (j + 1))) 52 (61 + ls.length) (J ((z_rl ls).length + A.length))).2.1 53 = u.2.1 53 := v53
      have w52 : (k_wA (k_wF v 4212 (J (j + 1))) 52 (61 + ls.length) (J ((z_rl ls).length + A.length))).2.1 52 = upd (u.2.1 52) (61 + ls.length) (J ((z_rl ls).length + A.length)) := by
        have : (k_wA (k_wF v 4212 (J (j + 1))) 52 (61 + ls.length) (J ((z_rl ls).length + A.length))).2.1 52 = upd (v.2.1 52) (61 + ls.length) (J ((z_rl ls).length + A.length)) := by simp [k_wA, k_wF]
        rw [this]
        exact z_upd2 v52
      generalize k_wA (k_wF v 4212 (J (j + 1))) 52 (61 + ls.length) (J ((z_rl ls).length + A.length)) = w at *
      refine z_bind _ (hP w (j + 1) (z_rl ls ++ A) x2 w4214) (fun _ x hx => ?_)
      obtain ⟨m1, m2, m3⟩ := hx
      have k3 : z_fk [4212, 4213, 4214, 4215] [49, 50, 51, 52, 53] u x := k2.tr (m1.mono rfl rfl)
      have x52 : x.2.1 52 = upd (u.2.1 52) (61 + ls.length) (J ((z_rl ls).length + A.length)) := (m1.2.1 52 rfl).trans w52
      by_cases q3 : (z_e6 (z_ch n b) (j + 1)).1 = true
      · rw [if_pos q3]
        obtain ⟨m4, m5⟩ := m2 q3
        refine z_mono (h66 x (z_e6 (z_ch n b) (j + 1)).2.1 (A, (z_e6 (z_ch n b) (j + 1)).2.2) k3 ((m1.2.1 51 rfl).trans w51) ((m1.2.1 53 rfl).trans w53) (fun y hy => ?_) ?_ ?_ m5) (fun _ y hy => ⟨hy.1, fun _ => hy.2, fun q => by cases q⟩)
        · rw [x52, z_up, if_neg (by omega)]
        · rw [x52, z_up, if_pos rfl]
        · rw [← List.append_assoc]
          exact m4
      · rw [if_neg q3]
        have m4 := m3 (by cases hq : (z_e6 (z_ch n b) (j + 1)).1; rfl; exact absurd hq q3)
        exact z_mono (h66f x _ k3 m4.1 m4.2.1) (fun _ y hy => ⟨hy.1, fun q => (by cases q), fun _ => hy.2⟩)
    · rw [if_neg q2]
      refine z_neg (fun x => q2 ((z_lk_eq hkk (k := 63) (by omega)).mp x)) ?_
      refine z_mono (h66 v j ([], A) k1 v51 v53 (fun y hy => ?_) ?_ ?_ g5) (fun _ y hy => ⟨hy.1, fun _ => hy.2, fun q => by cases q⟩)
      · rw [v52, z_up, if_neg (by omega)]
      · rw [v52, z_up, if_pos rfl]; rfl
      · rw [List.nil_append]
        exact g4
  · rw [if_neg q1]
    have g4 := g3 (by cases hq : (z_e6 (z_ch n b) i).1; rfl; exact absurd hq q1)
    exact z_pos (z_fltR g4) (z_mono (h66f v _ k1 g4.1 g4.2.1) (fun _ y hy => ⟨hy.1, fun q => (by cases q), fun _ => hy.2⟩))
theorem z_linesR {n : Nat} {b : Nat → Nat} {p1 : Int32} : ∀ (m : Nat) (u : k_S) (i : Nat) (ls : List z_Ln) (N : Nat), n ≤ i + m → m + 1 < N → z_rv n b u i ls → 2 * ls.length ≤ i + 1 → k_sat (k_itr (fun (x : Unit) u => f_R_readText_B31 p1 u) N () u) (fun _ v => z_fk [4212, 4213, 4214, 4215] [49, 50, 51, 52, 53] u v ∧ ((z_tl (z_ch n b) m i ls).1 = true → z_rv n b v (z_tl (z_ch n b) m i ls).2.1 (z_tl (z_ch n b) m i ls).2.2) ∧ ((z_tl (z_ch n b) m i ls).1 = false → z_rx n b v ∧ v.1 4213 = J (z_tl (z_ch n b) m i ls).2.1))
  | 0, u, i, ls, N, hm, hN, hs, hc => by
    obtain ⟨M, rfl⟩ : ∃ M, N = M + 1 := ⟨N - 1, by omega⟩
    obtain ⟨r, hr, hkk⟩ := z_look hs.1.1 hs.1.2.1 hs.1.2.2.1
    have hne : ¬ z_ch n b i = 59 := fun q => by
      have := z_ch_n (n := n) (b := b) (i := i) (by omega)
      omega
    refine z_exit ?_
    unfold f_R_readText_B31
    rw [hs.1.2.2.2.1, hr, z_bind_some]
    exact z_neg (by decide) (z_neg (fun x => hne ((z_lk_eq hkk (k := 59) (by omega)).mp x)) (k_sat_mk ⟨_, rfl, z_fk.rf, fun _ => hs, fun q => by cases q⟩))
  | m + 1, u, i, ls, N, hm, hN, hs, hc => by
    obtain ⟨M, rfl⟩ : ∃ M, N = M + 1 := ⟨N - 1, by omega⟩
    obtain ⟨r, hr, hkk⟩ := z_look hs.1.1 hs.1.2.1 hs.1.2.2.1
    rw [z_tl]
    by_cases q1 : z_ch n b i = 59
    · rw [if_pos q1]
      have hin : i < n := z_ch_n (b := b) (by omega)
      have x1 := z_nx2 hs.1 hin
      have h0 : z_rv n b (k_wF u 4212 (J (i + 1))) (i + 1) ls := ⟨x1.2, hs.2.1, hs.2.2.1, hs.2.2.2⟩
      obtain ⟨g1, g2, g3⟩ := z_ln_g (b := b) (i + 1) 0 (show i + 1 ≤ n by omega)
      refine z_turn ?_
      unfold f_R_readText_B31
      rw [hs.1.2.2.2.1, hr, z_bind_some, x1.1]
      refine z_neg (by decide) (z_pos ((z_lk_eq hkk (k := 59) (by omega)).mpr q1) (z_let (z_bind _ (z_lineR h0 (by omega)) (fun _ v hv => k_sat_mk ⟨_, rfl, ?_⟩))))
      obtain ⟨m1, m2, m3⟩ := hv
      have k1 : z_fk [4212, 4213, 4214, 4215] [49, 50, 51, 52, 53] u v := (z_kF rfl).tr m1
      by_cases q2 : (z_ln (z_ch n b) (i + 1)).1 = true
      · rw [if_pos q2]
        have := (g3 q2).1
        exact z_mono (z_linesR (p1 := p1) m v _ (ls ++ [(z_ln (z_ch n b) (i + 1)).2.2]) M (by omega) (by omega) (m2 q2) (by rw [List.length_append, List.length_singleton]; omega)) (fun _ w hw => ⟨k1.tr hw.1, hw.2⟩)
      · rw [if_neg q2]
        obtain ⟨m4, m5⟩ := m3 (by cases hq : (z_ln (z_ch n b) (i + 1)).1; rfl; exact absurd hq q2)
        obtain ⟨M', rfl⟩ : ∃ M', M = M' + 1 := ⟨M - 1, by omega⟩
        refine z_exit ?_
        have hn := hs.1.1.1
        exact z_pos (by rw [m5]; (try simp (disch := omega) only [Int32.lt_iff_toInt_lt, Int32.le_iff_toInt_le, ← Int32.toInt_inj, Int32.toInt_add, Int32.toInt_sub, Int32.toInt_mul, Int32.toInt_neg, z_bm, z_bm2, J_ti, J_toInt, z_cn, Int32.reduceToInt]) <;> omega) (k_sat_mk ⟨_, rfl, k1, fun q => (by cases q), fun _ => ⟨m4, m5⟩⟩)
    · rw [if_neg q1]
      refine z_exit ?_
      unfold f_R_readText_B31
      rw [hs.1.2.2.2.1, hr, z_bind_some]
      exact z_neg (by decide) (z_neg (fun x => q1 ((z_lk_eq hkk (k := 59) (by omega)).mp x)) (k_sat_mk ⟨_, rfl, z_fk.rf, fun _ => hs, fun q => by cases q⟩))
