/-! LAW: lines, what they give, by the reference; frost by a text -/
def z_ps (te le : Nat → Int32) : Nat → Nat → List z_Ln → Prop
  | _, _, [] => True
  | o, j, l :: r => te j = J (o + l.1.length) ∧ le j = J (o + l.1.length + l.2.length) ∧ z_ps te le (o + l.1.length + l.2.length) (j + 1) r
def z_rl : List z_Ln → List Int32
  | [] => []
  | l :: r => l.1 ++ (l.2 ++ z_rl r)
theorem z_ps_c {te le te' le' : Nat → Int32} (h : ∀ i, i < 61 → te' i = te i ∧ le' i = le i) : ∀ (ls : List z_Ln) (o j : Nat), j + ls.length ≤ 61 → z_ps te le o j ls → z_ps te' le' o j ls
  | [], o, j, _, _ => trivial
  | l :: r, o, j, hj, hp => by
    rw [List.length_cons] at hj
    rw [z_ps] at hp ⊢
    obtain ⟨a, b⟩ := h j (by omega)
    exact ⟨a.trans hp.1, b.trans hp.2.1, z_ps_c h r _ _ (by omega) hp.2.2⟩
theorem z_givesR {q : z_q} {m : Nat} (hm : m ≤ 61) : ∀ (ls : List z_Ln) (o j : Nat) (u : k_S) (N : Nat), j + ls.length = m → (∀ l, l ∈ ls → z_gl l) → z_ps (u.2.1 52) (u.2.1 53) o j ls → (∀ i s, (z_rl ls)[i]? = some s → z_ra s (u.2.1 49 (o + i)) (u.2.1 50 (o + i))) → o + (z_rl ls).length ≤ 130 → u.2.1 51 0 = J m → u.2.1 54 0 = q.1 → u.2.1 54 1 = q.2.1 → u.2.1 54 2 = q.2.2.1 → u.2.1 54 3 = q.2.2.2 → ls.length < N → k_sat (k_itr (fun (x : (Int32 × Int32)) u => f_R_gives_B7 0 x.1 x.2 u) N (J o, J j) u) (fun y v => z_fr [] [55] u v ∧ ((y = .inl 0 ∧ z_val q ls = 0) ∨ ∃ l' o' C, y = .inr (J l') ∧ l' < 61 ∧ v.2.1 52 l' = J o' ∧ v.2.1 53 l' = J (o' + C.length) ∧ z_wf C ∧ (∀ i s, C[i]? = some s → z_ra s (v.2.1 49 (o' + i)) (v.2.1 50 (o' + i))) ∧ o' + C.length ≤ 130 ∧ z_val q ls = z_v q C))
  | [], o, j, u, N, hj, hg, hp, hc, hl, e51, q0, q1, q2, q3, hN => by
    obtain ⟨M, rfl⟩ : ∃ M, N = M + 1 := ⟨N - 1, by omega⟩
    have hj : j = m := hj
    refine z_exit ?_
    unfold f_R_gives_B7
    dsimp only
    rw [show (0 : Int32).toNatClampNeg = 0 from rfl, e51, Int32.mul_zero, Int32.zero_add, hj]
    exact z_ck (by decide) (by decide) (z_pos (Int32.le_refl _) (k_sat_mk ⟨_, rfl, z_fr.rf, Or.inl ⟨rfl, rfl⟩⟩))
  | l :: r, o, j, u, N, hj, hg, hp, hc, hl, e51, q0, q1, q2, q3, hN => by
    obtain ⟨M, rfl⟩ : ∃ M, N = M + 1 := ⟨N - 1, by omega⟩
    obtain ⟨g1, g2, g3, g4⟩ := hg l (List.mem_cons_self)
    rw [List.length_cons] at hj hN
    rw [z_ps] at hp
    rw [z_rl] at hc hl
    rw [List.length_append, List.length_append] at hl
    obtain ⟨p1, p2, p3⟩ := hp
    have cA : ∀ i s, l.1[i]? = some s → z_ra s (u.2.1 49 (o + i)) (u.2.1 50 (o + i)) := fun i s hs => hc i s (z_ga hs)
    have cB : ∀ i s, l.2[i]? = some s → z_ra s (u.2.1 49 (o + l.1.length + i)) (u.2.1 50 (o + l.1.length + i)) := fun i s hs => by
      have := hc (l.1.length + i) s (z_gb (z_ga hs))
      rw [show o + l.1.length + i = o + (l.1.length + i) by omega]
      exact this
    have cR : ∀ i s, (z_rl r)[i]? = some s → z_ra s (u.2.1 49 (o + l.1.length + l.2.length + i)) (u.2.1 50 (o + l.1.length + l.2.length + i)) := fun i s hs => by
      have := hc (l.1.length + (l.2.length + i)) s (z_gb (z_gb hs))
      rw [show o + l.1.length + l.2.length + i = o + (l.1.length + (l.2.length + i)) by omega]
      exact this
    have b7 : ∀ {Q : ((Int32 × Int32) ⊕ (Int32 ⊕ (Int32))) → k_S → Prop}, k_sat (if J (o + l.1.length) = J o then some ((.inr (.inr (J j)) : (Int32 × Int32) ⊕ (Int32 ⊕ (Int32))), u) else k_bind (f_R_worked 0 (J o) (J (o + l.1.length)) u) (fun r3 u2 => if r3 = 0 then k_ck (J j) 122 (k_let (u2.2.1 53 j) (fun t4 => some (.inl (t4, J j + Int32.ofInt 1), u2))) else some (.inr (.inr (J j)), u2))) Q → k_sat (f_R_gives_B7 0 (J o) (J j) u) Q := by
      intro Q h
      unfold f_R_gives_B7
      rw [show (0 : Int32).toNatClampNeg = 0 from rfl, e51, Int32.mul_zero, Int32.zero_add, J_toNat (show j < 2147483648 by omega), p1]
      refine z_ck (by decide) (by decide) (z_neg (by (try simp (disch := omega) only [Int32.lt_iff_toInt_lt, Int32.le_iff_toInt_le, ← Int32.toInt_inj, Int32.toInt_add, Int32.toInt_sub, Int32.toInt_mul, Int32.toInt_neg, z_bm, z_bm2, J_ti, J_toInt, z_cn, Int32.reduceToInt]) <;> omega) (z_ck (by (try simp (disch := omega) only [Int32.lt_iff_toInt_lt, Int32.le_iff_toInt_le, ← Int32.toInt_inj, Int32.toInt_add, Int32.toInt_sub, Int32.toInt_mul, Int32.toInt_neg, z_bm, z_bm2, J_ti, J_toInt, z_cn, Int32.reduceToInt]) <;> omega) (by (try simp (disch := omega) only [Int32.lt_iff_toInt_lt, Int32.le_iff_toInt_le, ← Int32.toInt_inj, Int32.toInt_add, Int32.toInt_sub, Int32.toInt_mul, Int32.toInt_neg, z_bm, z_bm2, J_ti, J_toInt, z_cn, Int32.reduceToInt]) <;> omega) ?_))
      by_cases hx : J (o + l.1.length) = J o
      · rw [if_pos hx] at h ⊢
        exact h
      · rw [if_neg hx] at h ⊢
        exact z_ck (by (try simp (disch := omega) only [Int32.lt_iff_toInt_lt, Int32.le_iff_toInt_le, ← Int32.toInt_inj, Int32.toInt_add, Int32.toInt_sub, Int32.toInt_mul, Int32.toInt_neg, z_bm, z_bm2, J_ti, J_toInt, z_cn, Int32.reduceToInt]) <;> omega) (by (try simp (disch := omega) only [Int32.lt_iff_toInt_lt, Int32.le_iff_toInt_le, ← Int32.toInt_inj, Int32.toInt_add, Int32.toInt_sub, Int32.toInt_mul, Int32.toInt_neg, z_bm, z_bm2, J_ti, J_toInt, z_cn, Int32.reduceToInt]) <;> omega) h
    have hres : ∀ v : k_S, z_fr [] [55] u v → z_val q (l :: r) = z_v q l.2 → ∃ l' o' C, (.inr (J j) : Int32 ⊕ Int32) = .inr (J l') ∧ l' < 61 ∧ v.2.1 52 l' = J o' ∧ v.2.1 53 l' = J (o' + C.length) ∧ z_wf C ∧ (∀ i s, C[i]? = some s → z_ra s (v.2.1 49 (o' + i)) (v.2.1 50 (o' + i))) ∧ o' + C.length ≤ 130 ∧ z_val q (l :: r) = z_v q C := by
      intro v hv hval
      refine ⟨j, o + l.1.length, l.2, rfl, by omega, by rw [hv.2.1 52 rfl]; exact p1, by rw [hv.2.1 53 rfl]; exact p2, g2, ?_, by omega, hval⟩
      rw [hv.2.1 49 rfl, hv.2.1 50 rfl]
      exact cB
    by_cases hA : l.1 = []
    · refine z_exit (b7 (z_pos (by rw [hA]; rfl) (k_sat_mk ⟨_, rfl, z_fr.rf, Or.inr (hres u z_fr.rf ?_)⟩)))
      rw [z_val, if_pos hA]
    · have hA1 : 0 < l.1.length := List.length_pos_iff.mpr hA
      have hne : ¬ J (o + l.1.length) = J o := by
        rw [J_inj (by omega) (by omega)]
        omega
      have hW := z_worked (q := q) (a := o) (g1.resolve_left hA) cA (by omega) q0 q1 q2 q3
      by_cases hx : z_v q l.1 = 0
      · refine z_turn (b7 (z_neg hne (z_bind _ hW (fun r3 v hv => ?_))))
        refine z_pos (hv.2.trans hx) (z_ck (by (try simp (disch := omega) only [Int32.lt_iff_toInt_lt, Int32.le_iff_toInt_le, ← Int32.toInt_inj, Int32.toInt_add, Int32.toInt_sub, Int32.toInt_mul, Int32.toInt_neg, z_bm, z_bm2, J_ti, J_toInt, z_cn, Int32.reduceToInt]) <;> omega) (by (try simp (disch := omega) only [Int32.lt_iff_toInt_lt, Int32.le_iff_toInt_le, ← Int32.toInt_inj, Int32.toInt_add, Int32.toInt_sub, Int32.toInt_mul, Int32.toInt_neg, z_bm, z_bm2, J_ti, J_toInt, z_cn, Int32.reduceToInt]) <;> omega) (z_let (k_sat_mk ⟨_, rfl, ?_⟩)))
        have f54 : v.2.1 54 = u.2.1 54 := hv.1.2.1 54 rfl
        rw [show v.2.1 53 j = J (o + l.1.length + l.2.length) by rw [hv.1.2.1 53 rfl]; exact p2, z_J1]
        refine z_mono (z_givesR hm r (o + l.1.length + l.2.length) (j + 1) v M (by omega) (fun l' h' => hg l' (List.mem_cons_of_mem _ h')) (by rw [hv.1.2.1 52 rfl, hv.1.2.1 53 rfl]; exact p3) (by rw [hv.1.2.1 49 rfl, hv.1.2.1 50 rfl]; exact cR) (by omega) (by rw [hv.1.2.1 51 rfl]; exact e51) (by rw [f54]; exact q0) (by rw [f54]; exact q1) (by rw [f54]; exact q2) (by rw [f54]; exact q3) (by omega)) (fun y w hw => ⟨hv.1.tr hw.1, ?_⟩)
        rw [z_val, if_neg hA, if_pos hx]
        exact hw.2
      · refine z_exit (b7 (z_neg hne (z_bind _ hW (fun r3 v hv => ?_))))
        refine z_neg (by rw [hv.2]; exact hx) (k_sat_mk ⟨_, rfl, hv.1, Or.inr (hres v hv.1 ?_)⟩)
        rw [z_val, if_neg hA, if_neg hx]
def z_c (ls : List z_Ln) : Int32 → Int32 → Int32 → Nat → Bool := fun sd t p w => decide (¬ z_val (t, p, J w, z_zz t sd) ls = 0)
theorem z_cWl {ls : List z_Ln} {code : Nat → Int32} (hg : ∀ l, l ∈ ls → z_gl l) (hc : ∀ i s, (z_cls 0 ls)[i]? = some s → code i = s) (hl : (z_cls 0 ls).length ≤ 128) : zCW (J (z_cls 0 ls).length) code (z_c ls) := by
  intro u h1 h2 t p w hw
  refine z_mono (z_valAt (t := t) (p := p) (k := J w) hg (by rw [h2]; exact hc) hl h1) (fun r v hv => ⟨hv.1, ?_⟩)
  rw [hv.2]
  unfold z_c
  exact ⟨fun h => of_decide_eq_true h, fun h => decide_eq_true h⟩
theorem z_cRl {ls : List z_Ln} {act wi many te le : Nat → Int32} (hg : ∀ l, l ∈ ls → z_gl l) (hps : z_ps te le 0 0 ls) (hc : ∀ i s, (z_rl ls)[i]? = some s → z_ra s (act i) (wi i)) (hl : (z_rl ls).length ≤ 130) (hm : ls.length ≤ 61) (hmany : many 0 = J ls.length) : zCR 1 act wi many te le (z_c ls) := by
  intro u h1 h2 h3 h4 w hw
  have hr : ∀ i s, (z_rl ls)[i]? = some s → i < 130 := fun i s hs => by
    rcases Nat.lt_or_ge i (z_rl ls).length with x | x
    · omega
    · rw [List.getElem?_eq_none x] at hs; cases hs
  unfold f_R_isCold
  rw [h1]
  have e0 : ∀ x : Int32, z_fr [] [54] u (k_wA u 54 0 x) := fun x => z_wA rfl
  have eJ : (J w).toNatClampNeg = w := J_toNat (by omega)
  simp only [k_let]
  rw [eJ]
  refine z_neg (by decide) (z_ck (by decide) (by decide) (z_ck (by (try simp (disch := omega) only [Int32.lt_iff_toInt_lt, Int32.le_iff_toInt_le, ← Int32.toInt_inj, Int32.toInt_add, Int32.toInt_sub, Int32.toInt_mul, Int32.toInt_neg, z_bm, z_bm2, J_ti, J_toInt, z_cn, Int32.reduceToInt]) <;> omega) (by (try simp (disch := omega) only [Int32.lt_iff_toInt_lt, Int32.le_iff_toInt_le, ← Int32.toInt_inj, Int32.toInt_add, Int32.toInt_sub, Int32.toInt_mul, Int32.toInt_neg, z_bm, z_bm2, J_ti, J_toInt, z_cn, Int32.reduceToInt]) <;> omega) (z_ck (by decide) (by decide) (z_ck (by decide) (by decide) (z_ck (by decide) (by decide) ?_)))))
  have k1 : z_fr [] [54] u (k_wA (k_wA (k_wA (k_wA u 54 0 (u.1 4209)) 54 1 (u.2.1 46 w)) 54 2 (J w)) 54 3 (z_zz (u.1 4209) (u.1 4211))) := (((z_wA rfl).tr (z_wA rfl)).tr (z_wA rfl)).tr (z_wA rfl)
  have f0 : (k_wA (k_wA (k_wA (k_wA u 54 0 (u.1 4209)) 54 1 (u.2.1 46 w)) 54 2 (J w)) 54 3 (z_zz (u.1 4209) (u.1 4211))).2.1 54 0 = u.1 4209 := by simp [k_wA, z_up]
  have f1 : (k_wA (k_wA (k_wA (k_wA u 54 0 (u.1 4209)) 54 1 (u.2.1 46 w)) 54 2 (J w)) 54 3 (z_zz (u.1 4209) (u.1 4211))).2.1 54 1 = u.2.1 46 w := by simp [k_wA, z_up]
  have f2 : (k_wA (k_wA (k_wA (k_wA u 54 0 (u.1 4209)) 54 1 (u.2.1 46 w)) 54 2 (J w)) 54 3 (z_zz (u.1 4209) (u.1 4211))).2.1 54 2 = J w := by simp [k_wA, z_up]
  have f3 : (k_wA (k_wA (k_wA (k_wA u 54 0 (u.1 4209)) 54 1 (u.2.1 46 w)) 54 2 (J w)) 54 3 (z_zz (u.1 4209) (u.1 4211))).2.1 54 3 = z_zz (u.1 4209) (u.1 4211) := by simp [k_wA, z_up]
  refine z_bind (fun r6 v => z_fr [] [54, 55] u v ∧ r6 = z_val (u.1 4209, u.2.1 46 w, J w, z_zz (u.1 4209) (u.1 4211)) ls) ?_ (fun r6 v hv => ?_)
  · show k_sat (f_R_gives 0 (k_wA (k_wA (k_wA (k_wA u 54 0 (u.1 4209)) 54 1 (u.2.1 46 w)) 54 2 (J w)) 54 3 (z_zz (u.1 4209) (u.1 4211)))) _
    generalize k_wA (k_wA (k_wA (k_wA u 54 0 (u.1 4209)) 54 1 (u.2.1 46 w)) 54 2 (J w)) 54 3 (z_zz (u.1 4209) (u.1 4211)) = x at *
    unfold f_R_gives
    refine z_let ?_
    rw [show (61 : Int32) * 0 = J 0 by rw [Int32.mul_zero, J_0], show ((0 : Int32), J 0) = (J 0, J 0) from rfl]
    refine z_bind _ (z_givesR (q := (u.1 4209, u.2.1 46 w, J w, z_zz (u.1 4209) (u.1 4211))) hm ls 0 0 x k_FU (Nat.zero_add _) hg ?_ (fun i s hs => ?_) (by omega) ?_ f0 f1 f2 f3 (by unfold k_FU; omega)) (fun y v hv => ?_)
    · rw [k1.2.1 52 rfl, k1.2.1 53 rfl]
      exact z_ps_c h4 ls 0 0 (by omega) hps
    · rw [Nat.zero_add, k1.2.1 49 rfl, k1.2.1 50 rfl, (h2 i (hr i s hs)).1, (h2 i (hr i s hs)).2]
      exact hc i s hs
    · rw [k1.2.1 51 rfl, h3, hmany]
    · obtain ⟨g1, ⟨rfl, g2⟩ | ⟨l', o', C, rfl, a1, a2, a3, a4, a5, a6, a7⟩⟩ := hv
      · simp only [k_cs]
        exact k_sat_mk ⟨(k1.mono rfl rfl).tr (g1.mono rfl rfl), g2.symm⟩
      · simp only [k_cs]
        unfold f_R_gives_J47
        rw [J_toNat (show l' < 2147483648 by omega), a2, a3]
        have f54 : v.2.1 54 = x.2.1 54 := g1.2.1 54 rfl
        refine z_ck (by (try simp (disch := omega) only [Int32.lt_iff_toInt_lt, Int32.le_iff_toInt_le, ← Int32.toInt_inj, Int32.toInt_add, Int32.toInt_sub, Int32.toInt_mul, Int32.toInt_neg, z_bm, z_bm2, J_ti, J_toInt, z_cn, Int32.reduceToInt]) <;> omega) (by (try simp (disch := omega) only [Int32.lt_iff_toInt_lt, Int32.le_iff_toInt_le, ← Int32.toInt_inj, Int32.toInt_add, Int32.toInt_sub, Int32.toInt_mul, Int32.toInt_neg, z_bm, z_bm2, J_ti, J_toInt, z_cn, Int32.reduceToInt]) <;> omega) (z_ck (by (try simp (disch := omega) only [Int32.lt_iff_toInt_lt, Int32.le_iff_toInt_le, ← Int32.toInt_inj, Int32.toInt_add, Int32.toInt_sub, Int32.toInt_mul, Int32.toInt_neg, z_bm, z_bm2, J_ti, J_toInt, z_cn, Int32.reduceToInt]) <;> omega) (by (try simp (disch := omega) only [Int32.lt_iff_toInt_lt, Int32.le_iff_toInt_le, ← Int32.toInt_inj, Int32.toInt_add, Int32.toInt_sub, Int32.toInt_mul, Int32.toInt_neg, z_bm, z_bm2, J_ti, J_toInt, z_cn, Int32.reduceToInt]) <;> omega) (z_bind _ (z_worked (q := (u.1 4209, u.2.1 46 w, J w, z_zz (u.1 4209) (u.1 4211))) a4 a5 a6 (by rw [f54]; exact f0) (by rw [f54]; exact f1) (by rw [f54]; exact f2) (by rw [f54]; exact f3)) (fun r v' hv' => k_sat_mk ⟨((k1.mono rfl rfl).tr (g1.mono rfl rfl)).tr (hv'.1.mono rfl rfl), ?_⟩)))
        rw [hv'.2, a7]
  · unfold z_c
    rw [hv.2]
    by_cases hx : z_val (u.1 4209, u.2.1 46 w, J w, z_zz (u.1 4209) (u.1 4211)) ls = 0
    · refine z_pos hx (k_sat_mk ⟨by rw [← hv.2] at hx; exact hv.1, ?_⟩)
      simp [hx]
    · refine z_neg hx (k_sat_mk ⟨hv.1, ?_⟩)
      simp [hx]
