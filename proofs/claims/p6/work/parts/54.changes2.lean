/-! CHANGES, both sides: broke, tooth, undo, redo -/
theorem z_wA_self (u : k_S) (c q : Nat) : k_wA u c q (u.2.1 c q) = u := by
  obtain ⟨a, b, d⟩ := u
  simp only [k_wA]
  congr 2
  funext e
  by_cases he : e = c
  · rw [if_pos he]
    funext j
    rw [z_up]
    by_cases hj : j = q
    · rw [if_pos hj, hj, he]
    · rw [if_neg hj, he]
  · rw [if_neg he]
theorem z_chg (kk w q n s : Nat) (p x : Int32) (u : k_S) (h : zI u) (en : u.1 303 = J n) (hn : n ≤ 4) (hw : w < n) (es : u.2.1 5 w = J s) (hs : s ≤ 40) (hp : (kk = 1 ∧ p = -1 ∧ q = w) ∨ (kk = 0 ∧ ∃ pp, pp < s ∧ p = J pp ∧ q = 40 * w + pp)) : k_sat (f_Changes_add (J w) p (u.2.1 (if kk = 0 then 4 else 6) q) x (k_wA u (if kk = 0 then 4 else 6) q x)) (fun _ u1 => z_fr [3004, 3005] [31, 32, 33, 34, 4, 6] u u1 ∧ k_sat (f_R_changes (J kk) (J q) x u1) (fun r u2 => u.2.1 (if kk = 0 then 4 else 6) q = r ∧ zI u2)) := by
  obtain ⟨n', hn', f1, f2, hN, hN2⟩ := h.2.1
  have : n' = n := by
    have := f1.symm.trans en
    rw [J_inj (by omega) (by omega)] at this
    exact this
  subst this
  obtain ⟨d, k, hdk, hk, c1, c2, c3, c4, hC⟩ := h.2.2.2.2.2.2.2.1
  have hkk : kk = 0 ∨ kk = 1 := by rcases hp with ⟨a, -⟩ | ⟨a, -⟩ <;> omega
  have hq0 : kk = 0 → q < 160 := by rcases hp with ⟨a, -⟩ | ⟨a, pp, a1, -, a2⟩ <;> omega
  have hq1 : kk = 1 → q < 4 := by rcases hp with ⟨a, -, a2⟩ | ⟨a, -⟩ <;> omega
  have hold : u.2.1 (if kk = 0 then 44 else 48) q = u.2.1 (if kk = 0 then 4 else 6) q := by
    obtain ⟨s', _, _, b1, b2, b3, b4⟩ := hN w hw
    rcases hp with ⟨rfl, -, rfl⟩ | ⟨rfl, pp, a1, -, rfl⟩
    · exact b3
    · have : s' = s := by
        have := b1.symm.trans es
        rw [J_inj (by omega) (by omega)] at this
        exact this
      subst this
      exact b4 pp a1
  by_cases hx : u.2.1 (if kk = 0 then 4 else 6) q = x
  · have e1 : k_wA u (if kk = 0 then 4 else 6) q x = u := by rw [← hx]; exact z_wA_self u _ q
    rw [e1]
    unfold f_Changes_add
    refine z_pos hx (k_sat_mk ⟨z_fr.rf, ?_⟩)
    unfold f_R_changes f_R_valueAt
    rcases hkk with rfl | rfl
    · rw [if_pos (show J 0 = 0 from rfl), z_cko _ (by (try simp (disch := omega) only [Int32.lt_iff_toInt_lt, Int32.le_iff_toInt_le, ← Int32.toInt_inj, Int32.toInt_add, Int32.toInt_sub, Int32.toInt_mul, Int32.toInt_neg, z_bm, z_bm2, J_ti, J_toInt, z_cn, Int32.reduceToInt]) <;> omega) (by have := hq0 rfl; (try simp (disch := omega) only [Int32.lt_iff_toInt_lt, Int32.le_iff_toInt_le, ← Int32.toInt_inj, Int32.toInt_add, Int32.toInt_sub, Int32.toInt_mul, Int32.toInt_neg, z_bm, z_bm2, J_ti, J_toInt, z_cn, Int32.reduceToInt]) <;> omega), J_toNat (by have := hq0 rfl; omega), z_bind_some]
      exact z_pos (hold.trans hx) (k_sat_mk ⟨hold.symm, h⟩)
    · rw [if_neg (show ¬ J 1 = 0 by decide), z_cko _ (by (try simp (disch := omega) only [Int32.lt_iff_toInt_lt, Int32.le_iff_toInt_le, ← Int32.toInt_inj, Int32.toInt_add, Int32.toInt_sub, Int32.toInt_mul, Int32.toInt_neg, z_bm, z_bm2, J_ti, J_toInt, z_cn, Int32.reduceToInt]) <;> omega) (by have := hq1 rfl; (try simp (disch := omega) only [Int32.lt_iff_toInt_lt, Int32.le_iff_toInt_le, ← Int32.toInt_inj, Int32.toInt_add, Int32.toInt_sub, Int32.toInt_mul, Int32.toInt_neg, z_bm, z_bm2, J_ti, J_toInt, z_cn, Int32.reduceToInt]) <;> omega), J_toNat (by have := hq1 rfl; omega), z_bind_some]
      exact z_pos (hold.trans hx) (k_sat_mk ⟨hold.symm, h⟩)
  · refine z_mono (z_Cadd (J w) p _ x (k_wA u (if kk = 0 then 4 else 6) q x) d (by omega) c1 hx) (fun _ u1 h1 => ?_)
    obtain ⟨g1, g2, g3, g4, g5, g6, g7, g8⟩ := h1
    refine ⟨(show z_fr [3004, 3005] [31, 32, 33, 34, 4, 6] u (k_wA u (if kk = 0 then 4 else 6) q x) by rcases hkk with rfl | rfl <;> exact z_wA rfl).tr (g1.mono rfl rfl), ?_⟩
    have f44 : u1.2.1 44 = u.2.1 44 := by rw [g1.2.1 44 rfl]; rcases hkk with rfl | rfl <;> rfl
    have f48 : u1.2.1 48 = u.2.1 48 := by rw [g1.2.1 48 rfl]; rcases hkk with rfl | rfl <;> rfl
    have fo : u1.2.1 (if kk = 0 then 44 else 48) q = u.2.1 (if kk = 0 then 4 else 6) q := by
      rw [← hold]
      rcases hkk with rfl | rfl
      · exact congrFun f44 q
      · exact congrFun f48 q
    refine z_mono (z_Rchanges kk (J q) x u1 d (by omega) ((g1.1 4224 rfl).trans c3) hkk q rfl hq0 hq1 (by rw [fo]; exact hx)) (fun r u2 h2 => ⟨?_, ?_⟩)
    · rw [h2.1, fo]
    obtain ⟨-, k1, k2, k3, k4, k5, k6, k7, k8, k9, k10⟩ := h2
    have hfr : z_fr ([3004, 3005, 4224, 4225] ++ [1702, 1206, 704, 1002, 1003, 2405, 2406, 2407, 3504, 4212, 4213, 4214, 4215, 4230]) ([31, 32, 33, 34, 56, 57, 58, 59, 4, 6, 44, 48] ++ [9, 11, 13, 18, 19, 25, 26, 54, 55, 60, 61, 62, 67, 75]) u u2 := by
      refine ((?_ : z_fr _ _ u _).tr (g1.mono rfl rfl)).tr (k1.mono rfl rfl)
      rcases hkk with rfl | rfl
      · exact z_wA rfl
      · exact z_wA rfl
    have l4 : u2.2.1 4 = if kk = 0 then upd (u.2.1 4) q x else u.2.1 4 := by
      rw [k1.2.1 4 rfl, g1.2.1 4 rfl]
      rcases hkk with rfl | rfl <;> rfl
    have l6 : u2.2.1 6 = if kk = 0 then u.2.1 6 else upd (u.2.1 6) q x := by
      rw [k1.2.1 6 rfl, g1.2.1 6 rfl]
      rcases hkk with rfl | rfl <;> rfl
    have l5 : u2.2.1 5 = u.2.1 5 := hfr.2.1 5 rfl
    have l303 : u2.1 303 = u.1 303 := hfr.1 303 rfl
    refine zI_NC h hfr ⟨n', hn', l303.trans f1, (hfr.1 4203 rfl).trans f2, fun v hv => ?_, fun v hv hv4 => ?_⟩ ⟨z_dd d + 1, z_dd d + 1, Nat.le_refl _, by unfold z_dd; split <;> omega, (k1.1 3004 rfl).trans g2, (k1.1 3005 rfl).trans g3, k2, by rw [k3, Nat.sub_self, J_0], fun i hi => ?_⟩
    · obtain ⟨s', b0, b00, b1, b2, b3, b4⟩ := hN v hv
      refine ⟨s', b0, b00, by rw [l5]; exact b1, by rw [hfr.2.1 45 rfl]; exact b2, ?_, fun p' hp' => ?_⟩
      · rw [k10, l6, f48]
        rcases hkk with rfl | rfl
        · exact b3
        · show upd (u.2.1 48) q x v = upd (u.2.1 6) q x v
          rw [z_up, z_up, b3]
      · rw [k9, l4, f44]
        rcases hkk with rfl | rfl
        · show upd (u.2.1 44) q x _ = upd (u.2.1 4) q x _
          rw [z_up, z_up, b4 p' hp']
        · exact b4 p' hp'
    · rw [l6]
      rcases hp with ⟨rfl, -, rfl⟩ | ⟨rfl, -⟩
      · show upd (u.2.1 6) q x v = 0
        rw [z_up, if_neg (by omega)]
        exact hN2 v hv hv4
      · exact hN2 v hv hv4
    · have m1 : ∀ c, c ∈ [31, 32, 33, 34] → u2.2.1 c = u1.2.1 c := by
        intro c hc
        simp only [List.mem_cons, List.not_mem_nil, or_false] at hc
        rcases hc with rfl | rfl | rfl | rfl <;> exact k1.2.1 _ rfl
      rw [m1 31 (by simp), m1 32 (by simp), m1 33 (by simp), m1 34 (by simp), l303, l5]
      by_cases e : i = z_dd d
      · subst e
        rw [k7, k8, k5, k6, g5, g6, g7, g8, fo]
        refine ⟨rfl, rfl, w, by rw [en, J_toInt (by omega)]; omega, rfl, ?_⟩
        rcases hp with ⟨rfl, rfl, rfl⟩ | ⟨rfl, pp, a1, rfl, rfl⟩
        · exact Or.inl ⟨rfl, rfl, rfl⟩
        · exact Or.inr ⟨pp, by rw [es, J_toInt (by omega)]; omega, rfl, rfl, rfl⟩
      · have hi' : i < z_dd d := by omega
        have r1 : ∀ c, z_c4 31 c → u1.2.1 c i = u.2.1 c (i + z_sh d) := fun c hc => by
          rw [g4 c hc i hi']
          rcases hkk with rfl | rfl <;> rcases hc with rfl | rfl | rfl | rfl <;> rfl
        have r2 : ∀ c, z_c4 56 c → u2.2.1 c i = u.2.1 c (i + z_sh d) := fun c hc => by
          rw [k4 c hc i hi', g1.2.1 c (by rcases hc with rfl | rfl | rfl | rfl <;> rfl)]
          rcases hkk with rfl | rfl <;> rcases hc with rfl | rfl | rfl | rfl <;> rfl
        rw [r1 31 (Or.inl rfl), r1 32 (Or.inr (Or.inl rfl)), r1 33 (Or.inr (Or.inr (Or.inl rfl))), r1 34 (Or.inr (Or.inr (Or.inr rfl))), r2 56 (Or.inl rfl), r2 57 (Or.inr (Or.inl rfl)), r2 58 (Or.inr (Or.inr (Or.inl rfl))), r2 59 (Or.inr (Or.inr (Or.inr rfl)))]
        exact hC (i + z_sh d) (by unfold z_dd at hi'; unfold z_sh; split at hi' <;> simp [*] <;> omega)
theorem z_broke (a b : Int32) (u : k_S) (h : zI u) : z_pair (f_W_broke a b) (f_R_broke a b) u zI := by
  obtain ⟨n, hn, e1, e2, hw, -⟩ := h.2.1
  refine z_pair_of ?_
  unfold f_W_broke
  rcases J_or a n with ⟨w, hwn, rfl⟩ | ha
  · obtain ⟨s, hs1, hs2, es, er, eb, hl⟩ := hw w hwn
    rw [z_Whas e1 hn hwn, z_bind_some]
    refine z_neg (by decide) ?_
    by_cases hb : 0 ≤ b.toInt ∧ b.toInt ≤ 9999
    · refine z_neg (by (try simp (disch := omega) only [Int32.lt_iff_toInt_lt, Int32.le_iff_toInt_le, ← Int32.toInt_inj, Int32.toInt_add, Int32.toInt_sub, Int32.toInt_mul, Int32.toInt_neg, z_bm, z_bm2, J_ti, J_toInt, z_cn, Int32.reduceToInt]) <;> omega) (z_pos (by (try simp (disch := omega) only [Int32.lt_iff_toInt_lt, Int32.le_iff_toInt_le, ← Int32.toInt_inj, Int32.toInt_add, Int32.toInt_sub, Int32.toInt_mul, Int32.toInt_neg, z_bm, z_bm2, J_ti, J_toInt, z_cn, Int32.reduceToInt]) <;> omega) ?_)
      rw [z_Wheels_breakOf (by omega), z_bind_some, z_setBreak (by omega), z_bind_some]
      refine z_bind _ (z_chg 1 w w n s (-1) b u h e1 hn hwn es hs2 (Or.inl ⟨rfl, rfl, rfl⟩)) (fun _ u1 h1 => k_sat_mk ?_)
      obtain ⟨g0, ⟨r, u2⟩, g1, g2, g3⟩ := h1
      unfold f_R_broke
      have q2 : u1.1 4203 = J n := (g0.1 4203 rfl).trans e2
      rw [z_RisWheel q2 hn hwn, z_bind_some]
      refine z_neg (by decide) ?_
      rw [z_Rin1 (by (try simp (disch := omega) only [Int32.lt_iff_toInt_lt, Int32.le_iff_toInt_le, ← Int32.toInt_inj, Int32.toInt_add, Int32.toInt_sub, Int32.toInt_mul, Int32.toInt_neg, z_bm, z_bm2, J_ti, J_toInt, z_cn, Int32.reduceToInt]) <;> omega) (by (try simp (disch := omega) only [Int32.lt_iff_toInt_lt, Int32.le_iff_toInt_le, ← Int32.toInt_inj, Int32.toInt_add, Int32.toInt_sub, Int32.toInt_mul, Int32.toInt_neg, z_bm, z_bm2, J_ti, J_toInt, z_cn, Int32.reduceToInt]) <;> omega), z_bind_some]
      refine z_neg (by decide) ?_
      have g1 : f_R_changes 1 (J w) b u1 = some (r, u2) := g1
      rw [g1, z_bind_some]
      exact k_sat_mk ⟨g2, g3⟩
    · have hR : k_sat (f_R_broke (J w) b u) (fun r' v => (-1 : Int32) = r' ∧ zI v) := by
        unfold f_R_broke
        rw [z_RisWheel e2 hn hwn, z_bind_some]
        refine z_neg (by decide) ?_
        rw [z_Rin0 (by ((try simp (disch := omega) only [Int32.lt_iff_toInt_lt, Int32.le_iff_toInt_le, ← Int32.toInt_inj, Int32.toInt_add, Int32.toInt_sub, Int32.toInt_mul, Int32.toInt_neg, z_bm, z_bm2, J_ti, J_toInt, z_cn, Int32.reduceToInt] at *); omega)), z_bind_some]
        exact z_pos rfl (k_sat_mk ⟨rfl, h⟩)
      exact z_ite (fun _ => k_sat_mk hR) (fun _ => z_neg (by ((try simp (disch := omega) only [Int32.lt_iff_toInt_lt, Int32.le_iff_toInt_le, ← Int32.toInt_inj, Int32.toInt_add, Int32.toInt_sub, Int32.toInt_mul, Int32.toInt_neg, z_bm, z_bm2, J_ti, J_toInt, z_cn, Int32.reduceToInt] at *); omega)) (k_sat_mk hR))
  · rw [z_Whas0 e1 hn ha, z_bind_some]
    refine z_pos rfl (k_sat_mk ?_)
    unfold f_R_broke
    rw [z_RisWheel0 e2 hn ha, z_bind_some]
    exact z_pos rfl (k_sat_mk ⟨rfl, h⟩)
theorem z_isTooth (x : Int32) (u v : k_S) : (f_W_isTooth x u = some (0, u) ∧ f_R_isTooth x v = some (0, v)) ∨ f_W_isTooth x u = some (1, u) ∧ f_R_isTooth x v = some (1, v) := by
  unfold f_W_isTooth f_R_isTooth
  by_cases h1 : x = 119
  · right; rw [if_pos h1, if_pos h1]; exact ⟨rfl, rfl⟩
  by_cases h2 : x = 115
  · right; rw [if_neg h1, if_neg h1, if_pos h2, if_pos h2]; exact ⟨rfl, rfl⟩
  by_cases h3 : x = 102
  · right; rw [if_neg h1, if_neg h1, if_neg h2, if_neg h2, if_pos h3, if_pos h3]; exact ⟨rfl, rfl⟩
  by_cases h4 : x = 98
  · right; rw [if_neg h1, if_neg h1, if_neg h2, if_neg h2, if_neg h3, if_neg h3, if_pos h4, if_pos h4]; exact ⟨rfl, rfl⟩
  rw [if_neg h1, if_neg h1, if_neg h2, if_neg h2, if_neg h3, if_neg h3, if_neg h4, if_neg h4]
  by_cases h5 : x < 49
  · left; rw [if_pos h5, z_Rin0 (by ((try simp (disch := omega) only [Int32.lt_iff_toInt_lt, Int32.le_iff_toInt_le, ← Int32.toInt_inj, Int32.toInt_add, Int32.toInt_sub, Int32.toInt_mul, Int32.toInt_neg, z_bm, z_bm2, J_ti, J_toInt, z_cn, Int32.reduceToInt] at *); omega)), z_bind_some, if_pos rfl]; exact ⟨rfl, rfl⟩
  by_cases h6 : 57 < x
  · left; rw [if_neg h5, if_pos h6, z_Rin0 (by ((try simp (disch := omega) only [Int32.lt_iff_toInt_lt, Int32.le_iff_toInt_le, ← Int32.toInt_inj, Int32.toInt_add, Int32.toInt_sub, Int32.toInt_mul, Int32.toInt_neg, z_bm, z_bm2, J_ti, J_toInt, z_cn, Int32.reduceToInt] at *); omega)), z_bind_some, if_pos rfl]; exact ⟨rfl, rfl⟩
  right; rw [if_neg h5, if_neg h6, z_Rin1 (by ((try simp (disch := omega) only [Int32.lt_iff_toInt_lt, Int32.le_iff_toInt_le, ← Int32.toInt_inj, Int32.toInt_add, Int32.toInt_sub, Int32.toInt_mul, Int32.toInt_neg, z_bm, z_bm2, J_ti, J_toInt, z_cn, Int32.reduceToInt] at *); omega)) (by ((try simp (disch := omega) only [Int32.lt_iff_toInt_lt, Int32.le_iff_toInt_le, ← Int32.toInt_inj, Int32.toInt_add, Int32.toInt_sub, Int32.toInt_mul, Int32.toInt_neg, z_bm, z_bm2, J_ti, J_toInt, z_cn, Int32.reduceToInt] at *); omega)), z_bind_some, if_neg (by decide)]; exact ⟨rfl, rfl⟩
theorem z_tooth (a b x : Int32) (u : k_S) (h : zI u) : z_pair (f_W_tooth a b x) (f_R_tooth a b x) u zI := by
  obtain ⟨n, hn, e1, e2, hw, -⟩ := h.2.1
  refine z_pair_of ?_
  unfold f_W_tooth
  rcases J_or a n with ⟨w, hwn, rfl⟩ | ha
  · obtain ⟨s, hs1, hs2, es, er, eb, hl⟩ := hw w hwn
    rcases J_or b s with ⟨q, hq, rfl⟩ | hb
    · rw [z_WhasP e1 hn hwn es hs2 hq, z_bind_some]
      refine z_neg (by decide) ?_
      have pre : ∀ v : k_S, v.1 4203 = J n → v.2.1 45 w = J s → f_R_tooth (J w) (J q) x v = k_bind (f_R_isTooth x v) (fun r6 u5 => if r6 = 0 then some ((-1), u5) else k_bind (f_R_changes 0 ((40 * J w) + J q) x u5) (fun r8 u7 => some (r8, u7))) := by
        intro v v1 v2
        unfold f_R_tooth
        rw [z_RisWheel v1 hn hwn, z_bind_some, if_neg (by decide), z_cko _ (by (try simp (disch := omega) only [Int32.lt_iff_toInt_lt, Int32.le_iff_toInt_le, ← Int32.toInt_inj, Int32.toInt_add, Int32.toInt_sub, Int32.toInt_mul, Int32.toInt_neg, z_bm, z_bm2, J_ti, J_toInt, z_cn, Int32.reduceToInt]) <;> omega) (by (try simp (disch := omega) only [Int32.lt_iff_toInt_lt, Int32.le_iff_toInt_le, ← Int32.toInt_inj, Int32.toInt_add, Int32.toInt_sub, Int32.toInt_mul, Int32.toInt_neg, z_bm, z_bm2, J_ti, J_toInt, z_cn, Int32.reduceToInt]) <;> omega), J_toNat (show w < 2147483648 by omega), v2, z_Rin1 (by (try simp (disch := omega) only [Int32.lt_iff_toInt_lt, Int32.le_iff_toInt_le, ← Int32.toInt_inj, Int32.toInt_add, Int32.toInt_sub, Int32.toInt_mul, Int32.toInt_neg, z_bm, z_bm2, J_ti, J_toInt, z_cn, Int32.reduceToInt]) <;> omega) (by rw [J_m1 (by omega)]; (try simp (disch := omega) only [Int32.lt_iff_toInt_lt, Int32.le_iff_toInt_le, ← Int32.toInt_inj, Int32.toInt_add, Int32.toInt_sub, Int32.toInt_mul, Int32.toInt_neg, z_bm, z_bm2, J_ti, J_toInt, z_cn, Int32.reduceToInt]) <;> omega), z_bind_some, if_neg (by decide)]
      rcases z_isTooth x u u with ⟨t1, t2⟩ | ⟨t1, t2⟩
      · rw [t1, z_bind_some]
        refine z_pos rfl (k_sat_mk ?_)
        rw [pre u e2 er, t2, z_bind_some]
        exact z_pos rfl (k_sat_mk ⟨rfl, h⟩)
      · rw [t1, z_bind_some]
        refine z_neg (by decide) ?_
        rw [z_letterAt (by omega) (by omega), z_bind_some, z_setLetter (by omega) (by omega), z_bind_some]
        refine z_bind _ (z_chg 0 w (40 * w + q) n s (J q) x u h e1 hn hwn es hs2 (Or.inr ⟨rfl, q, hq, rfl, rfl⟩)) (fun _ u1 h1 => k_sat_mk ?_)
        obtain ⟨g0, ⟨r, u2⟩, g1, g2, g3⟩ := h1
        have t3 : f_R_isTooth x u1 = some (1, u1) := by
          rcases z_isTooth x u u1 with ⟨t4, t5⟩ | ⟨t4, t5⟩
          · rw [t1] at t4; cases t4
          · exact t5
        rw [pre u1 ((g0.1 4203 rfl).trans e2) (by rw [g0.2.1 45 rfl]; exact er), t3, z_bind_some]
        refine z_neg (by decide) ?_
        have g1 : f_R_changes 0 (J (40 * w + q)) x u1 = some (r, u2) := g1
        rw [J_40, g1, z_bind_some]
        exact k_sat_mk ⟨g2, g3⟩
    · rw [z_WhasP0 e1 hn hwn es hs2 hb, z_bind_some]
      refine z_pos rfl (k_sat_mk ?_)
      unfold f_R_tooth
      rw [z_RisWheel e2 hn hwn, z_bind_some]
      refine z_neg (by decide) (z_ck (by (try simp (disch := omega) only [Int32.lt_iff_toInt_lt, Int32.le_iff_toInt_le, ← Int32.toInt_inj, Int32.toInt_add, Int32.toInt_sub, Int32.toInt_mul, Int32.toInt_neg, z_bm, z_bm2, J_ti, J_toInt, z_cn, Int32.reduceToInt]) <;> omega) (by (try simp (disch := omega) only [Int32.lt_iff_toInt_lt, Int32.le_iff_toInt_le, ← Int32.toInt_inj, Int32.toInt_add, Int32.toInt_sub, Int32.toInt_mul, Int32.toInt_neg, z_bm, z_bm2, J_ti, J_toInt, z_cn, Int32.reduceToInt]) <;> omega) ?_)
      rw [J_toNat (show w < 2147483648 by omega), er, z_Rin0 (by rw [J_m1 (by omega)]; ((try simp (disch := omega) only [Int32.lt_iff_toInt_lt, Int32.le_iff_toInt_le, ← Int32.toInt_inj, Int32.toInt_add, Int32.toInt_sub, Int32.toInt_mul, Int32.toInt_neg, z_bm, z_bm2, J_ti, J_toInt, z_cn, Int32.reduceToInt] at *); omega)), z_bind_some]
      exact z_pos rfl (k_sat_mk ⟨rfl, h⟩)
  · rw [z_WhasP00 e1 hn ha, z_bind_some]
    refine z_pos rfl (k_sat_mk ?_)
    unfold f_R_tooth
    rw [z_RisWheel0 e2 hn ha, z_bind_some]
    exact z_pos rfl (k_sat_mk ⟨rfl, h⟩)
/-- a kept change is laid, by both -/
theorem z_lays (i : Nat) (cw cr : Nat) (hc : (cw = 33 ∧ cr = 58) ∨ (cw = 34 ∧ cr = 59)) (u : k_S) (hN : zN u) (hi : i < 40) (hC : u.2.1 cr i = u.2.1 cw i ∧ ∃ w : Nat, (w : Int) < (u.1 303).toInt ∧ u.2.1 31 i = J w ∧ ((u.2.1 32 i = -1 ∧ u.2.1 56 i = 1 ∧ u.2.1 57 i = J w) ∨ ∃ p : Nat, (p : Int) < (u.2.1 5 w).toInt ∧ u.2.1 32 i = J p ∧ u.2.1 56 i = 0 ∧ u.2.1 57 i = J (40 * w + p))) : k_sat (f_W_apply (J i) (u.2.1 cw i) u) (fun _ v => z_fr [] [4, 6] u v ∧ ∀ v', z_fr [3004, 4224, 4225] [] v v' → k_sat (f_R_lays (u.2.1 56 i) (u.2.1 57 i) (u.2.1 cr i) v') (fun _ v2 => z_fr [] [44, 48] v' v2 ∧ zN v2)) := by
  obtain ⟨n, hn, e1, e2, hw, hz⟩ := hN
  obtain ⟨ec, w, hwn, c1, hcc⟩ := hC
  rw [e1, J_toInt (by omega)] at hwn
  have hwn' : w < n := by omega
  obtain ⟨s, hs1, hs2, es, er, eb, hl⟩ := hw w hwn'
  have nN : ∀ v2 : k_S, v2.1 303 = J n → v2.1 4203 = J n → v2.2.1 5 = u.2.1 5 → v2.2.1 45 = u.2.1 45 → (∀ v, v < n → v2.2.1 48 v = v2.2.1 6 v) → (∀ v p, v < n → (∀ s', u.2.1 5 v = J s' → s' ≤ 40 → p < s' → u.2.1 44 (40 * v + p) = u.2.1 4 (40 * v + p) → v2.2.1 44 (40 * v + p) = v2.2.1 4 (40 * v + p))) → (∀ v, n ≤ v → v < 4 → v2.2.1 6 v = 0) → zN v2 := by
    intro v2 a1 a2 a3 a4 a5 a6 a7
    refine ⟨n, hn, a1, a2, fun v hv => ?_, a7⟩
    obtain ⟨s', b0, b00, b1, b2, b3, b4⟩ := hw v hv
    exact ⟨s', b0, b00, by rw [a3]; exact b1, by rw [a4]; exact b2, a5 v hv, fun p hp => a6 v p hv s' b1 b00 hp (b4 p hp)⟩
  unfold f_W_apply
  rw [z_Changes_wheelAt hi, z_bind_some, z_Changes_placeAt hi, z_bind_some, c1]
  rcases hcc with ⟨d1, d2, d3⟩ | ⟨p, hp, d1, d2, d3⟩
  · rw [d1]
    refine z_pos rfl ?_
    rw [z_setBreak (by omega), z_bind_some]
    refine k_sat_mk ⟨z_wA rfl, fun v' hv' => ?_⟩
    unfold f_R_lays
    rw [d2, d3, ec]
    refine z_neg (by decide) (z_ck (by (try simp (disch := omega) only [Int32.lt_iff_toInt_lt, Int32.le_iff_toInt_le, ← Int32.toInt_inj, Int32.toInt_add, Int32.toInt_sub, Int32.toInt_mul, Int32.toInt_neg, z_bm, z_bm2, J_ti, J_toInt, z_cn, Int32.reduceToInt]) <;> omega) (by (try simp (disch := omega) only [Int32.lt_iff_toInt_lt, Int32.le_iff_toInt_le, ← Int32.toInt_inj, Int32.toInt_add, Int32.toInt_sub, Int32.toInt_mul, Int32.toInt_neg, z_bm, z_bm2, J_ti, J_toInt, z_cn, Int32.reduceToInt]) <;> omega) (z_let (k_sat_mk ⟨z_wA rfl, nN _ ?_ ?_ ?_ ?_ (fun v hv => ?_) (fun v p hv s' q1 q2 q3 q4 => ?_) (fun v hv hv4 => ?_)⟩)))
    · exact (hv'.1 303 rfl).trans e1
    · exact (hv'.1 4203 rfl).trans e2
    · exact hv'.2.1 5 rfl
    · exact hv'.2.1 45 rfl
    · have b6 : v'.2.1 6 = upd (u.2.1 6) w (u.2.1 cw i) := by rw [hv'.2.1 6 rfl]; simp [k_wA]
      have b48 : v'.2.1 48 = u.2.1 48 := by rw [hv'.2.1 48 rfl]; simp [k_wA]
      simp only [k_wA, if_true, J_toNat (show w < 2147483648 by omega)]
      rw [if_neg (by decide), b6, b48, z_up, z_up]
      obtain ⟨s', -, -, -, -, b3, -⟩ := hw v hv
      rw [b3]
    · have b4 : v'.2.1 4 = u.2.1 4 := by rw [hv'.2.1 4 rfl]; simp [k_wA]
      have b44 : v'.2.1 44 = u.2.1 44 := by rw [hv'.2.1 44 rfl]; simp [k_wA]
      simp only [k_wA]
      rw [if_neg (by decide), if_neg (by decide), b4, b44]
      exact q4
    · have b6 : v'.2.1 6 = upd (u.2.1 6) w (u.2.1 cw i) := by rw [hv'.2.1 6 rfl]; simp [k_wA]
      simp only [k_wA]
      rw [if_neg (by decide), b6, z_up, if_neg (by omega)]
      exact hz v hv hv4
  · rw [d1]
    rw [es, J_toInt (by omega)] at hp
    refine z_neg (by (try simp (disch := omega) only [Int32.lt_iff_toInt_lt, Int32.le_iff_toInt_le, ← Int32.toInt_inj, Int32.toInt_add, Int32.toInt_sub, Int32.toInt_mul, Int32.toInt_neg, z_bm, z_bm2, J_ti, J_toInt, z_cn, Int32.reduceToInt]) <;> omega) ?_
    rw [z_setLetter (by omega) (by omega), z_bind_some]
    refine k_sat_mk ⟨z_wA rfl, fun v' hv' => ?_⟩
    unfold f_R_lays
    rw [d2, d3, ec]
    refine z_pos rfl (z_ck (by (try simp (disch := omega) only [Int32.lt_iff_toInt_lt, Int32.le_iff_toInt_le, ← Int32.toInt_inj, Int32.toInt_add, Int32.toInt_sub, Int32.toInt_mul, Int32.toInt_neg, z_bm, z_bm2, J_ti, J_toInt, z_cn, Int32.reduceToInt]) <;> omega) (by (try simp (disch := omega) only [Int32.lt_iff_toInt_lt, Int32.le_iff_toInt_le, ← Int32.toInt_inj, Int32.toInt_add, Int32.toInt_sub, Int32.toInt_mul, Int32.toInt_neg, z_bm, z_bm2, J_ti, J_toInt, z_cn, Int32.reduceToInt]) <;> omega) (z_let (k_sat_mk ⟨z_wA rfl, nN _ ?_ ?_ ?_ ?_ (fun v hv => ?_) (fun v p' hv s' q1 q2 q3 q4 => ?_) (fun v hv hv4 => ?_)⟩)))
    · exact (hv'.1 303 rfl).trans e1
    · exact (hv'.1 4203 rfl).trans e2
    · exact hv'.2.1 5 rfl
    · exact hv'.2.1 45 rfl
    · have b6 : v'.2.1 6 = u.2.1 6 := by rw [hv'.2.1 6 rfl]; simp [k_wA]
      have b48 : v'.2.1 48 = u.2.1 48 := by rw [hv'.2.1 48 rfl]; simp [k_wA]
      simp only [k_wA]
      rw [if_neg (by decide), if_neg (by decide), b6, b48]
      obtain ⟨s', -, -, -, -, b3, -⟩ := hw v hv
      exact b3
    · have b4 : v'.2.1 4 = upd (u.2.1 4) (40 * w + p) (u.2.1 cw i) := by rw [hv'.2.1 4 rfl]; simp [k_wA]
      have b44 : v'.2.1 44 = u.2.1 44 := by rw [hv'.2.1 44 rfl]; simp [k_wA]
      simp only [k_wA, if_true, J_toNat (show 40 * w + p < 2147483648 by omega)]
      rw [if_neg (by decide), b4, b44, z_up, z_up, q4]
    · have b6 : v'.2.1 6 = u.2.1 6 := by rw [hv'.2.1 6 rfl]; simp [k_wA]
      simp only [k_wA]
      rw [if_neg (by decide), b6]
      exact hz v hv hv4
theorem J_sub {a b : Nat} (h : b ≤ a) : J a - J b = J (a - b) := by
  have : J (a - b) + J b = J a := by rw [J_add, Nat.sub_add_cancel h]
  rw [← this, Int32.add_sub_cancel]
theorem z_undo (u : k_S) (h : zI u) : z_pair f_W_undo f_R_undo u zI := by
  obtain ⟨d, k, hdk, hk, c1, c2, c3, c4, hC⟩ := h.2.2.2.2.2.2.2.1
  refine z_pair_of ?_
  unfold f_W_undo
  by_cases h0 : d = 0
  · subst h0
    refine z_pos c1 (k_sat_mk ?_)
    unfold f_R_undo
    exact z_pos c3 (k_sat_mk ⟨rfl, h⟩)
  · rw [c1, z_Jm' (by omega)]
    refine z_neg (by (try simp (disch := omega) only [Int32.lt_iff_toInt_lt, Int32.le_iff_toInt_le, ← Int32.toInt_inj, Int32.toInt_add, Int32.toInt_sub, Int32.toInt_mul, Int32.toInt_neg, z_bm, z_bm2, J_ti, J_toInt, z_cn, Int32.reduceToInt]) <;> omega) (z_let ?_)
    have e1 : (k_wF u 3004 (J (d - 1))).1 3004 = J (d - 1) := by simp [k_wF]
    have hfu : z_fr [3004] [] u (k_wF u 3004 (J (d - 1))) := z_wF rfl
    rw [e1, z_Changes_beforeAt (by omega), z_bind_some]
    refine z_bind _ (z_lays (d - 1) 33 58 (Or.inl ⟨rfl, rfl⟩) (k_wF u 3004 (J (d - 1))) (zN_f hfu (by decide) h.2.1) (by omega) ⟨(hC (d - 1) (by omega)).1, (hC (d - 1) (by omega)).2.2⟩) (fun _ v hv => k_sat_mk ?_)
    obtain ⟨hv1, hv2⟩ := hv
    unfold f_R_undo
    have e2 : v.1 4224 = J d := (hv1.1 4224 rfl).trans c3
    have e3 : v.1 4225 = J (k - d) := (hv1.1 4225 rfl).trans c4
    rw [e2, z_Jm' (by omega)]
    have e4 : (k_wF v 4224 (J (d - 1))).1 4225 + 1 = J (k - d + 1) := by
      rw [show (k_wF v 4224 (J (d - 1))).1 4225 = J (k - d) from e3, z_Jp]
    refine z_neg (by (try simp (disch := omega) only [Int32.lt_iff_toInt_lt, Int32.le_iff_toInt_le, ← Int32.toInt_inj, Int32.toInt_add, Int32.toInt_sub, Int32.toInt_mul, Int32.toInt_neg, z_bm, z_bm2, J_ti, J_toInt, z_cn, Int32.reduceToInt]) <;> omega) (z_let ?_)
    rw [e4]
    refine z_let ?_
    have e5 : (k_wF (k_wF v 4224 (J (d - 1))) 4225 (J (k - d + 1))).1 4224 = J (d - 1) := by simp [k_wF]
    rw [e5]
    refine z_ck (by (try simp (disch := omega) only [Int32.lt_iff_toInt_lt, Int32.le_iff_toInt_le, ← Int32.toInt_inj, Int32.toInt_add, Int32.toInt_sub, Int32.toInt_mul, Int32.toInt_neg, z_bm, z_bm2, J_ti, J_toInt, z_cn, Int32.reduceToInt]) <;> omega) (by (try simp (disch := omega) only [Int32.lt_iff_toInt_lt, Int32.le_iff_toInt_le, ← Int32.toInt_inj, Int32.toInt_add, Int32.toInt_sub, Int32.toInt_mul, Int32.toInt_neg, z_bm, z_bm2, J_ti, J_toInt, z_cn, Int32.reduceToInt]) <;> omega) (z_ck (by (try simp (disch := omega) only [Int32.lt_iff_toInt_lt, Int32.le_iff_toInt_le, ← Int32.toInt_inj, Int32.toInt_add, Int32.toInt_sub, Int32.toInt_mul, Int32.toInt_neg, z_bm, z_bm2, J_ti, J_toInt, z_cn, Int32.reduceToInt]) <;> omega) (by (try simp (disch := omega) only [Int32.lt_iff_toInt_lt, Int32.le_iff_toInt_le, ← Int32.toInt_inj, Int32.toInt_add, Int32.toInt_sub, Int32.toInt_mul, Int32.toInt_neg, z_bm, z_bm2, J_ti, J_toInt, z_cn, Int32.reduceToInt]) <;> omega) (z_ck (by (try simp (disch := omega) only [Int32.lt_iff_toInt_lt, Int32.le_iff_toInt_le, ← Int32.toInt_inj, Int32.toInt_add, Int32.toInt_sub, Int32.toInt_mul, Int32.toInt_neg, z_bm, z_bm2, J_ti, J_toInt, z_cn, Int32.reduceToInt]) <;> omega) (by (try simp (disch := omega) only [Int32.lt_iff_toInt_lt, Int32.le_iff_toInt_le, ← Int32.toInt_inj, Int32.toInt_add, Int32.toInt_sub, Int32.toInt_mul, Int32.toInt_neg, z_bm, z_bm2, J_ti, J_toInt, z_cn, Int32.reduceToInt]) <;> omega) ?_))
    rw [J_toNat (by omega)]
    have hv' : z_fr [3004, 4224, 4225] [] v (k_wF (k_wF v 4224 (J (d - 1))) 4225 (J (k - d + 1))) := (z_wF rfl).tr (z_wF rfl)
    have a1 : ∀ c, c = 56 ∨ c = 57 ∨ c = 58 → (k_wF (k_wF v 4224 (J (d - 1))) 4225 (J (k - d + 1))).2.1 c = (k_wF u 3004 (J (d - 1))).2.1 c := by
      intro c hc
      rcases hc with rfl | rfl | rfl <;> exact hv1.2.1 _ rfl
    rw [a1 56 (by simp), a1 57 (by simp), a1 58 (by simp)]
    refine z_bind _ (hv2 _ hv') (fun _ v2 h2 => k_sat_mk ⟨?_, ?_⟩)
    · rw [h2.1.1 4224 rfl, e5, hv1.1 3004 rfl, e1]
    · have hf : z_fr [3004, 4224, 4225] [4, 6, 44, 48] u v2 := (((hfu.mono rfl rfl).tr (hv1.mono rfl rfl)).tr (hv'.mono rfl rfl)).tr (h2.1.mono rfl rfl)
      refine zI_NC h (hf.mono rfl rfl) h2.2 ⟨d - 1, k, by omega, hk, ?_, (hf.1 3005 rfl).trans c2, ?_, ?_, fun i hi => ?_⟩
      · rw [h2.1.1 3004 rfl, show (k_wF (k_wF v 4224 (J (d - 1))) 4225 (J (k - d + 1))).1 3004 = v.1 3004 from rfl, hv1.1 3004 rfl, e1]
      · rw [h2.1.1 4224 rfl, e5]
      · rw [h2.1.1 4225 rfl]
        simp [k_wF]
        rw [show k - d + 1 = k - (d - 1) by omega]
      · have := hC i hi
        rw [hf.1 303 rfl, hf.2.1 31 rfl, hf.2.1 32 rfl, hf.2.1 33 rfl, hf.2.1 34 rfl, hf.2.1 56 rfl, hf.2.1 57 rfl, hf.2.1 58 rfl, hf.2.1 59 rfl, hf.2.1 5 rfl]
        exact this
theorem z_redo (u : k_S) (h : zI u) : z_pair f_W_redo f_R_redo u zI := by
  obtain ⟨d, k, hdk, hk, c1, c2, c3, c4, hC⟩ := h.2.2.2.2.2.2.2.1
  refine z_pair_of ?_
  unfold f_W_redo
  by_cases h0 : d = k
  · subst h0
    refine z_neg (by rw [c1, c2]; (try simp (disch := omega) only [Int32.lt_iff_toInt_lt, Int32.le_iff_toInt_le, ← Int32.toInt_inj, Int32.toInt_add, Int32.toInt_sub, Int32.toInt_mul, Int32.toInt_neg, z_bm, z_bm2, J_ti, J_toInt, z_cn, Int32.reduceToInt]) <;> omega) (k_sat_mk ?_)
    unfold f_R_redo
    exact z_pos (by rw [c4, Nat.sub_self]; rfl) (k_sat_mk ⟨rfl, h⟩)
  · refine z_pos (by rw [c1, c2]; (try simp (disch := omega) only [Int32.lt_iff_toInt_lt, Int32.le_iff_toInt_le, ← Int32.toInt_inj, Int32.toInt_add, Int32.toInt_sub, Int32.toInt_mul, Int32.toInt_neg, z_bm, z_bm2, J_ti, J_toInt, z_cn, Int32.reduceToInt]) <;> omega) ?_
    rw [c1, z_Changes_afterAt (by omega), z_bind_some]
    refine z_bind _ (z_lays d 34 59 (Or.inr ⟨rfl, rfl⟩) u h.2.1 (by omega) ⟨(hC d (by omega)).2.1, (hC d (by omega)).2.2⟩) (fun _ v hv => z_let (k_sat_mk ?_))
    obtain ⟨hv1, hv2⟩ := hv
    rw [hv1.1 3004 rfl, c1, z_Jp]
    unfold f_R_redo
    have hv' : z_fr [3004, 4224, 4225] [] v (k_wF v 3004 (J (d + 1))) := z_wF rfl
    have e2 : (k_wF v 3004 (J (d + 1))).1 4224 = J d := (hv1.1 4224 rfl).trans c3
    have e3 : (k_wF v 3004 (J (d + 1))).1 4225 = J (k - d) := (hv1.1 4225 rfl).trans c4
    rw [e2, e3]
    refine z_neg (by (try simp (disch := omega) only [Int32.lt_iff_toInt_lt, Int32.le_iff_toInt_le, ← Int32.toInt_inj, Int32.toInt_add, Int32.toInt_sub, Int32.toInt_mul, Int32.toInt_neg, z_bm, z_bm2, J_ti, J_toInt, z_cn, Int32.reduceToInt]) <;> omega) (z_ck (by (try simp (disch := omega) only [Int32.lt_iff_toInt_lt, Int32.le_iff_toInt_le, ← Int32.toInt_inj, Int32.toInt_add, Int32.toInt_sub, Int32.toInt_mul, Int32.toInt_neg, z_bm, z_bm2, J_ti, J_toInt, z_cn, Int32.reduceToInt]) <;> omega) (by (try simp (disch := omega) only [Int32.lt_iff_toInt_lt, Int32.le_iff_toInt_le, ← Int32.toInt_inj, Int32.toInt_add, Int32.toInt_sub, Int32.toInt_mul, Int32.toInt_neg, z_bm, z_bm2, J_ti, J_toInt, z_cn, Int32.reduceToInt]) <;> omega) (z_ck (by (try simp (disch := omega) only [Int32.lt_iff_toInt_lt, Int32.le_iff_toInt_le, ← Int32.toInt_inj, Int32.toInt_add, Int32.toInt_sub, Int32.toInt_mul, Int32.toInt_neg, z_bm, z_bm2, J_ti, J_toInt, z_cn, Int32.reduceToInt]) <;> omega) (by (try simp (disch := omega) only [Int32.lt_iff_toInt_lt, Int32.le_iff_toInt_le, ← Int32.toInt_inj, Int32.toInt_add, Int32.toInt_sub, Int32.toInt_mul, Int32.toInt_neg, z_bm, z_bm2, J_ti, J_toInt, z_cn, Int32.reduceToInt]) <;> omega) (z_ck (by (try simp (disch := omega) only [Int32.lt_iff_toInt_lt, Int32.le_iff_toInt_le, ← Int32.toInt_inj, Int32.toInt_add, Int32.toInt_sub, Int32.toInt_mul, Int32.toInt_neg, z_bm, z_bm2, J_ti, J_toInt, z_cn, Int32.reduceToInt]) <;> omega) (by (try simp (disch := omega) only [Int32.lt_iff_toInt_lt, Int32.le_iff_toInt_le, ← Int32.toInt_inj, Int32.toInt_add, Int32.toInt_sub, Int32.toInt_mul, Int32.toInt_neg, z_bm, z_bm2, J_ti, J_toInt, z_cn, Int32.reduceToInt]) <;> omega) ?_)))
    rw [J_toNat (by omega)]
    have a1 : ∀ c, c = 56 ∨ c = 57 ∨ c = 59 → (k_wF v 3004 (J (d + 1))).2.1 c = u.2.1 c := by
      intro c hc
      rcases hc with rfl | rfl | rfl <;> exact hv1.2.1 _ rfl
    rw [a1 56 (by simp), a1 57 (by simp), a1 59 (by simp)]
    refine z_bind _ (hv2 _ hv') (fun _ v2 h2 => z_let (z_let (k_sat_mk ⟨?_, ?_⟩)))
    · have b1 : v2.1 4225 = J (k - d) := (h2.1.1 4225 rfl).trans e3
      simp [k_wF, hv1.1 3005 rfl, c2, b1]
      rw [J_sub (by omega), z_Jm' (by omega), show k - (d + 1) = k - d - 1 by omega]
    · have b1 : v2.1 4225 = J (k - d) := (h2.1.1 4225 rfl).trans e3
      have b2 : v2.1 4224 = J d := (h2.1.1 4224 rfl).trans e2
      have hf : z_fr [3004, 4224, 4225] [4, 6, 44, 48] u (k_wF (k_wF v2 4224 (v2.1 4224 + 1)) 4225 ((k_wF v2 4224 (v2.1 4224 + 1)).1 4225 - 1)) := ((((hv1.mono rfl rfl).tr (hv'.mono rfl rfl)).tr (h2.1.mono rfl rfl)).tr (z_wF rfl)).tr (z_wF rfl)
      refine zI_NC h (hf.mono rfl rfl) (zN_f (F := [4224, 4225]) (A := []) ((z_wF rfl).tr (z_wF rfl)) (by decide) h2.2) ⟨d + 1, k, by omega, hk, ?_, (hf.1 3005 rfl).trans c2, ?_, ?_, fun i hi => ?_⟩
      · simp [k_wF, h2.1.1 3004 rfl]
      · simp [k_wF, b2, z_Jp]
      · simp [k_wF, b1]
        rw [z_Jm' (by omega), show k - d - 1 = k - (d + 1) by omega]
      · have := hC i hi
        rw [hf.1 303 rfl, hf.2.1 31 rfl, hf.2.1 32 rfl, hf.2.1 33 rfl, hf.2.1 34 rfl, hf.2.1 56 rfl, hf.2.1 57 rfl, hf.2.1 58 rfl, hf.2.1 59 rfl, hf.2.1 5 rfl]
        exact this
