/-! METHODS OF WHEELS: of, lay, day -/
theorem z_of (a b : Int32) (u : k_S) (h : zI u) : z_pair (f_W_of a b) (f_R_of a b) u zI := by
  obtain ⟨n, hn, e1, e2, hw, -⟩ := h.2.1
  obtain ⟨-, hm, -⟩ := h.2.2.1
  refine z_pair_of ?_
  unfold f_W_of
  rcases J_or a n with ⟨w, hwn, rfl⟩ | ha
  · obtain ⟨s, hs1, hs2, es, er, eb, hl⟩ := hw w hwn
    obtain ⟨⟨p, hp, ep, ep2⟩, ev⟩ := hm w (by rw [e1, J_toInt (by omega)]; omega)
    have eR : f_R_of (J w) b u = (if b = 0 then some (J s, u) else if b = 1 then some (J p, u) else if b = 2 then some (u.2.1 16 w, u) else if b = 3 then some (u.2.1 6 w, u) else if 100 ≤ b.toInt ∧ b.toInt < 100 + s then some (u.2.1 4 (40 * w + (b - 100).toNatClampNeg), u) else some (-1, u)) := by
      unfold f_R_of
      rw [z_RisWheel e2 hn hwn, z_bind_some, if_neg (by decide), z_cko _ (by (try simp (disch := omega) only [Int32.lt_iff_toInt_lt, Int32.le_iff_toInt_le, ← Int32.toInt_inj, Int32.toInt_add, Int32.toInt_sub, Int32.toInt_mul, Int32.toInt_neg, z_bm, z_bm2, J_ti, J_toInt, z_cn, Int32.reduceToInt]) <;> omega) (by (try simp (disch := omega) only [Int32.lt_iff_toInt_lt, Int32.le_iff_toInt_le, ← Int32.toInt_inj, Int32.toInt_add, Int32.toInt_sub, Int32.toInt_mul, Int32.toInt_neg, z_bm, z_bm2, J_ti, J_toInt, z_cn, Int32.reduceToInt]) <;> omega), J_toNat (show w < 2147483648 by omega), er]
      by_cases hb : 100 ≤ b.toInt ∧ b.toInt < 100 + s
      · obtain ⟨q, hq, hq2, -⟩ := J_of (x := b - 100) (by (try simp (disch := omega) only [Int32.lt_iff_toInt_lt, Int32.le_iff_toInt_le, ← Int32.toInt_inj, Int32.toInt_add, Int32.toInt_sub, Int32.toInt_mul, Int32.toInt_neg, z_bm, z_bm2, J_ti, J_toInt, z_cn, Int32.reduceToInt]) <;> omega)
        have hb2 : b = J (100 + q) := by
          apply Int32.toInt.inj
          rw [J_toInt (by ((try simp (disch := omega) only [Int32.lt_iff_toInt_lt, Int32.le_iff_toInt_le, ← Int32.toInt_inj, Int32.toInt_add, Int32.toInt_sub, Int32.toInt_mul, Int32.toInt_neg, z_bm, z_bm2, J_ti, J_toInt, z_cn, Int32.reduceToInt] at *); omega))]
          ((try simp (disch := omega) only [Int32.lt_iff_toInt_lt, Int32.le_iff_toInt_le, ← Int32.toInt_inj, Int32.toInt_add, Int32.toInt_sub, Int32.toInt_mul, Int32.toInt_neg, z_bm, z_bm2, J_ti, J_toInt, z_cn, Int32.reduceToInt] at *); omega)
        subst hb2
        have hqs : q < s := by ((try simp (disch := omega) only [Int32.lt_iff_toInt_lt, Int32.le_iff_toInt_le, ← Int32.toInt_inj, Int32.toInt_add, Int32.toInt_sub, Int32.toInt_mul, Int32.toInt_neg, z_bm, z_bm2, J_ti, J_toInt, z_cn, Int32.reduceToInt] at *); omega)
        rw [z_Rin1 (by (try simp (disch := omega) only [Int32.lt_iff_toInt_lt, Int32.le_iff_toInt_le, ← Int32.toInt_inj, Int32.toInt_add, Int32.toInt_sub, Int32.toInt_mul, Int32.toInt_neg, z_bm, z_bm2, J_ti, J_toInt, z_cn, Int32.reduceToInt]) <;> omega) (by (try simp (disch := omega) only [Int32.lt_iff_toInt_lt, Int32.le_iff_toInt_le, ← Int32.toInt_inj, Int32.toInt_add, Int32.toInt_sub, Int32.toInt_mul, Int32.toInt_neg, z_bm, z_bm2, J_ti, J_toInt, z_cn, Int32.reduceToInt]) <;> omega), z_bind_some, if_neg (by decide), if_neg (by (try simp (disch := omega) only [Int32.lt_iff_toInt_lt, Int32.le_iff_toInt_le, ← Int32.toInt_inj, Int32.toInt_add, Int32.toInt_sub, Int32.toInt_mul, Int32.toInt_neg, z_bm, z_bm2, J_ti, J_toInt, z_cn, Int32.reduceToInt]) <;> omega), if_neg (by (try simp (disch := omega) only [Int32.lt_iff_toInt_lt, Int32.le_iff_toInt_le, ← Int32.toInt_inj, Int32.toInt_add, Int32.toInt_sub, Int32.toInt_mul, Int32.toInt_neg, z_bm, z_bm2, J_ti, J_toInt, z_cn, Int32.reduceToInt]) <;> omega), if_neg (by (try simp (disch := omega) only [Int32.lt_iff_toInt_lt, Int32.le_iff_toInt_le, ← Int32.toInt_inj, Int32.toInt_add, Int32.toInt_sub, Int32.toInt_mul, Int32.toInt_neg, z_bm, z_bm2, J_ti, J_toInt, z_cn, Int32.reduceToInt]) <;> omega), if_neg (by (try simp (disch := omega) only [Int32.lt_iff_toInt_lt, Int32.le_iff_toInt_le, ← Int32.toInt_inj, Int32.toInt_add, Int32.toInt_sub, Int32.toInt_mul, Int32.toInt_neg, z_bm, z_bm2, J_ti, J_toInt, z_cn, Int32.reduceToInt]) <;> omega), if_pos hb]
        have e5 : (40 : Int32) * J w + J (100 + q) - 100 = J (40 * w + q) := by
          apply Int32.toInt.inj
          (try simp (disch := omega) only [Int32.lt_iff_toInt_lt, Int32.le_iff_toInt_le, ← Int32.toInt_inj, Int32.toInt_add, Int32.toInt_sub, Int32.toInt_mul, Int32.toInt_neg, z_bm, z_bm2, J_ti, J_toInt, z_cn, Int32.reduceToInt]) <;> omega
        rw [e5, z_cko _ (by (try simp (disch := omega) only [Int32.lt_iff_toInt_lt, Int32.le_iff_toInt_le, ← Int32.toInt_inj, Int32.toInt_add, Int32.toInt_sub, Int32.toInt_mul, Int32.toInt_neg, z_bm, z_bm2, J_ti, J_toInt, z_cn, Int32.reduceToInt]) <;> omega) (by (try simp (disch := omega) only [Int32.lt_iff_toInt_lt, Int32.le_iff_toInt_le, ← Int32.toInt_inj, Int32.toInt_add, Int32.toInt_sub, Int32.toInt_mul, Int32.toInt_neg, z_bm, z_bm2, J_ti, J_toInt, z_cn, Int32.reduceToInt]) <;> omega), J_toNat (by omega), hl q hqs, hq, J_toNat (by omega)]
      · rw [z_Rin0 (by ((try simp (disch := omega) only [Int32.lt_iff_toInt_lt, Int32.le_iff_toInt_le, ← Int32.toInt_inj, Int32.toInt_add, Int32.toInt_sub, Int32.toInt_mul, Int32.toInt_neg, z_bm, z_bm2, J_ti, J_toInt, z_cn, Int32.reduceToInt] at *); omega)), z_bind_some, if_pos rfl, if_neg hb, z_cko _ (by (try simp (disch := omega) only [Int32.lt_iff_toInt_lt, Int32.le_iff_toInt_le, ← Int32.toInt_inj, Int32.toInt_add, Int32.toInt_sub, Int32.toInt_mul, Int32.toInt_neg, z_bm, z_bm2, J_ti, J_toInt, z_cn, Int32.reduceToInt]) <;> omega) (by (try simp (disch := omega) only [Int32.lt_iff_toInt_lt, Int32.le_iff_toInt_le, ← Int32.toInt_inj, Int32.toInt_add, Int32.toInt_sub, Int32.toInt_mul, Int32.toInt_neg, z_bm, z_bm2, J_ti, J_toInt, z_cn, Int32.reduceToInt]) <;> omega), z_cko _ (by (try simp (disch := omega) only [Int32.lt_iff_toInt_lt, Int32.le_iff_toInt_le, ← Int32.toInt_inj, Int32.toInt_add, Int32.toInt_sub, Int32.toInt_mul, Int32.toInt_neg, z_bm, z_bm2, J_ti, J_toInt, z_cn, Int32.reduceToInt]) <;> omega) (by (try simp (disch := omega) only [Int32.lt_iff_toInt_lt, Int32.le_iff_toInt_le, ← Int32.toInt_inj, Int32.toInt_add, Int32.toInt_sub, Int32.toInt_mul, Int32.toInt_neg, z_bm, z_bm2, J_ti, J_toInt, z_cn, Int32.reduceToInt]) <;> omega), z_cko _ (by (try simp (disch := omega) only [Int32.lt_iff_toInt_lt, Int32.le_iff_toInt_le, ← Int32.toInt_inj, Int32.toInt_add, Int32.toInt_sub, Int32.toInt_mul, Int32.toInt_neg, z_bm, z_bm2, J_ti, J_toInt, z_cn, Int32.reduceToInt]) <;> omega) (by (try simp (disch := omega) only [Int32.lt_iff_toInt_lt, Int32.le_iff_toInt_le, ← Int32.toInt_inj, Int32.toInt_add, Int32.toInt_sub, Int32.toInt_mul, Int32.toInt_neg, z_bm, z_bm2, J_ti, J_toInt, z_cn, Int32.reduceToInt]) <;> omega), z_cko _ (by (try simp (disch := omega) only [Int32.lt_iff_toInt_lt, Int32.le_iff_toInt_le, ← Int32.toInt_inj, Int32.toInt_add, Int32.toInt_sub, Int32.toInt_mul, Int32.toInt_neg, z_bm, z_bm2, J_ti, J_toInt, z_cn, Int32.reduceToInt]) <;> omega) (by (try simp (disch := omega) only [Int32.lt_iff_toInt_lt, Int32.le_iff_toInt_le, ← Int32.toInt_inj, Int32.toInt_add, Int32.toInt_sub, Int32.toInt_mul, Int32.toInt_neg, z_bm, z_bm2, J_ti, J_toInt, z_cn, Int32.reduceToInt]) <;> omega), eb, ev, ep2, er]
    rw [z_Whas e1 hn hwn, z_bind_some]
    refine z_neg (by decide) ?_
    refine z_ite (fun g => ?_) (fun g => z_ite (fun g1 => ?_) (fun g1 => z_ite (fun g2 => ?_) (fun g2 => z_ite (fun g3 => ?_) (fun g3 => z_ite (fun g4 => ?_) (fun g4 => ?_)))))
    · rw [z_Wheels_sizeOf (by omega), z_bind_some]
      refine k_sat_mk ?_
      rw [eR, if_pos g]
      exact k_sat_mk ⟨es, h⟩
    · rw [z_Now_placeOf (by omega), z_bind_some]
      refine k_sat_mk ?_
      rw [eR, if_neg g, if_pos g1]
      exact k_sat_mk ⟨ep, h⟩
    · rw [z_Now_waitsOf (by omega), z_bind_some]
      refine k_sat_mk ?_
      rw [eR, if_neg g, if_neg g1, if_pos g2]
      exact k_sat_mk ⟨rfl, h⟩
    · rw [z_Wheels_breakOf (by omega), z_bind_some]
      refine k_sat_mk ?_
      rw [eR, if_neg g, if_neg g1, if_neg g2, if_pos g3]
      exact k_sat_mk ⟨rfl, h⟩
    · refine k_sat_mk ?_
      rw [eR, if_neg g, if_neg g1, if_neg g2, if_neg g3, if_neg (by ((try simp (disch := omega) only [Int32.lt_iff_toInt_lt, Int32.le_iff_toInt_le, ← Int32.toInt_inj, Int32.toInt_add, Int32.toInt_sub, Int32.toInt_mul, Int32.toInt_neg, z_bm, z_bm2, J_ti, J_toInt, z_cn, Int32.reduceToInt] at *); omega))]
      exact k_sat_mk ⟨rfl, h⟩
    · have g5 : 100 ≤ b.toInt := by ((try simp (disch := omega) only [Int32.lt_iff_toInt_lt, Int32.le_iff_toInt_le, ← Int32.toInt_inj, Int32.toInt_add, Int32.toInt_sub, Int32.toInt_mul, Int32.toInt_neg, z_bm, z_bm2, J_ti, J_toInt, z_cn, Int32.reduceToInt] at *); omega)
      have g6 := z_rg b
      rcases J_or (b - 100) s with ⟨q, hq, eq⟩ | hq
      · have hb2 : b.toInt < 100 + s := by
          have := congrArg Int32.toInt eq
          ((try simp (disch := omega) only [Int32.lt_iff_toInt_lt, Int32.le_iff_toInt_le, ← Int32.toInt_inj, Int32.toInt_add, Int32.toInt_sub, Int32.toInt_mul, Int32.toInt_neg, z_bm, z_bm2, J_ti, J_toInt, z_cn, Int32.reduceToInt] at *); omega)
        rw [eq, z_WhasP e1 hn hwn es hs2 hq, z_bind_some]
        refine z_neg (by decide) ?_
        rw [z_letterAt (by omega) (by omega), z_bind_some]
        refine k_sat_mk ?_
        rw [eR, if_neg g, if_neg g1, if_neg g2, if_neg g3, if_pos ⟨g5, hb2⟩, eq, J_toNat (by omega)]
        exact k_sat_mk ⟨rfl, h⟩
      · rw [z_WhasP0 e1 hn hwn es hs2 hq, z_bind_some]
        refine z_pos rfl (k_sat_mk ?_)
        rw [eR, if_neg g, if_neg g1, if_neg g2, if_neg g3, if_neg (by ((try simp (disch := omega) only [Int32.lt_iff_toInt_lt, Int32.le_iff_toInt_le, ← Int32.toInt_inj, Int32.toInt_add, Int32.toInt_sub, Int32.toInt_mul, Int32.toInt_neg, z_bm, z_bm2, J_ti, J_toInt, z_cn, Int32.reduceToInt] at *); omega))]
        exact k_sat_mk ⟨rfl, h⟩
  · rw [z_Whas0 e1 hn ha, z_bind_some]
    refine z_pos rfl (k_sat_mk ?_)
    unfold f_R_of
    rw [z_RisWheel0 e2 hn ha, z_bind_some]
    exact z_pos rfl (k_sat_mk ⟨rfl, h⟩)
theorem z_lay (a b : Int32) (u : k_S) (h : zI u) : z_pair (f_W_lay a b) (f_R_lay a b) u zI := by
  obtain ⟨n, hn, e1, e2, hw, -⟩ := h.2.1
  obtain ⟨hm0, hm, hm2⟩ := h.2.2.1
  refine z_pair_of ?_
  unfold f_W_lay
  rcases J_or a n with ⟨w, hwn, rfl⟩ | ha
  · obtain ⟨s, hs1, hs2, es, er, eb, hl⟩ := hw w hwn
    obtain ⟨⟨p, hp, ep, ep2⟩, ev⟩ := hm w (by rw [e1, J_toInt (by omega)]; omega)
    rcases J_or b s with ⟨q, hq, rfl⟩ | hb
    · rw [z_WhasP e1 hn hwn es hs2 hq, z_bind_some]
      refine z_neg (by decide) ?_
      rw [z_Now_placeOf (by omega), z_bind_some, z_Now_stand (by omega), z_bind_some]
      refine k_sat_mk ?_
      unfold f_R_lay
      rw [z_RisWheel (n := n) (by exact e2) hn hwn, z_bind_some]
      have er2 : (k_wA (k_wA u 15 w (J q)) 16 w 0).2.1 45 w = J s := er
      have ep3 : (k_wA (k_wA u 15 w (J q)) 16 w 0).2.1 46 w = J p := ep2
      refine z_neg (by decide) (z_ck (by (try simp (disch := omega) only [Int32.lt_iff_toInt_lt, Int32.le_iff_toInt_le, ← Int32.toInt_inj, Int32.toInt_add, Int32.toInt_sub, Int32.toInt_mul, Int32.toInt_neg, z_bm, z_bm2, J_ti, J_toInt, z_cn, Int32.reduceToInt]) <;> omega) (by (try simp (disch := omega) only [Int32.lt_iff_toInt_lt, Int32.le_iff_toInt_le, ← Int32.toInt_inj, Int32.toInt_add, Int32.toInt_sub, Int32.toInt_mul, Int32.toInt_neg, z_bm, z_bm2, J_ti, J_toInt, z_cn, Int32.reduceToInt]) <;> omega) ?_)
      rw [J_toNat (show w < 2147483648 by omega), er2, z_Rin1 (by (try simp (disch := omega) only [Int32.lt_iff_toInt_lt, Int32.le_iff_toInt_le, ← Int32.toInt_inj, Int32.toInt_add, Int32.toInt_sub, Int32.toInt_mul, Int32.toInt_neg, z_bm, z_bm2, J_ti, J_toInt, z_cn, Int32.reduceToInt]) <;> omega) (by rw [J_m1 (by omega)]; (try simp (disch := omega) only [Int32.lt_iff_toInt_lt, Int32.le_iff_toInt_le, ← Int32.toInt_inj, Int32.toInt_add, Int32.toInt_sub, Int32.toInt_mul, Int32.toInt_neg, z_bm, z_bm2, J_ti, J_toInt, z_cn, Int32.reduceToInt]) <;> omega), z_bind_some]
      refine z_neg (by decide) (z_ck (by (try simp (disch := omega) only [Int32.lt_iff_toInt_lt, Int32.le_iff_toInt_le, ← Int32.toInt_inj, Int32.toInt_add, Int32.toInt_sub, Int32.toInt_mul, Int32.toInt_neg, z_bm, z_bm2, J_ti, J_toInt, z_cn, Int32.reduceToInt]) <;> omega) (by (try simp (disch := omega) only [Int32.lt_iff_toInt_lt, Int32.le_iff_toInt_le, ← Int32.toInt_inj, Int32.toInt_add, Int32.toInt_sub, Int32.toInt_mul, Int32.toInt_neg, z_bm, z_bm2, J_ti, J_toInt, z_cn, Int32.reduceToInt]) <;> omega) (z_let (z_ck (by (try simp (disch := omega) only [Int32.lt_iff_toInt_lt, Int32.le_iff_toInt_le, ← Int32.toInt_inj, Int32.toInt_add, Int32.toInt_sub, Int32.toInt_mul, Int32.toInt_neg, z_bm, z_bm2, J_ti, J_toInt, z_cn, Int32.reduceToInt]) <;> omega) (by (try simp (disch := omega) only [Int32.lt_iff_toInt_lt, Int32.le_iff_toInt_le, ← Int32.toInt_inj, Int32.toInt_add, Int32.toInt_sub, Int32.toInt_mul, Int32.toInt_neg, z_bm, z_bm2, J_ti, J_toInt, z_cn, Int32.reduceToInt]) <;> omega) (z_let (z_ck (by (try simp (disch := omega) only [Int32.lt_iff_toInt_lt, Int32.le_iff_toInt_le, ← Int32.toInt_inj, Int32.toInt_add, Int32.toInt_sub, Int32.toInt_mul, Int32.toInt_neg, z_bm, z_bm2, J_ti, J_toInt, z_cn, Int32.reduceToInt]) <;> omega) (by (try simp (disch := omega) only [Int32.lt_iff_toInt_lt, Int32.le_iff_toInt_le, ← Int32.toInt_inj, Int32.toInt_add, Int32.toInt_sub, Int32.toInt_mul, Int32.toInt_neg, z_bm, z_bm2, J_ti, J_toInt, z_cn, Int32.reduceToInt]) <;> omega) (z_let (k_sat_mk ⟨?_, ?_⟩)))))))
      · rw [ep3]; exact ep
      · refine zI_M h ((((z_wA rfl).tr (z_wA rfl)).tr (z_wA rfl)).tr (z_wA rfl)) ⟨hm0, fun v hv => ?_, fun v hv hv4 => ?_⟩
        · by_cases e : v = w
          · subst e
            refine ⟨⟨q, ?_, by simp [k_wA, z_up], by simp [k_wA, z_up]⟩, by simp [k_wA, z_up]⟩
            have : (k_wA (k_wA (k_wA (k_wA u 15 v (J q)) 16 v 0) 46 v (J q)) 47 v 0).2.1 5 v = J s := es
            rw [this, J_toInt (by omega)]
            omega
          · obtain ⟨⟨p', b1, b2, b3⟩, b4⟩ := hm v hv
            exact ⟨⟨p', b1, by simp [k_wA, z_up, e, b2], by simp [k_wA, z_up, e, b3]⟩, by simp [k_wA, z_up, e, b4]⟩
        · have hv' : (u.1 303).toInt ≤ v := hv
          have e : ¬ v = w := by rw [e1, J_toInt (by omega)] at hv'; omega
          exact ⟨by simp [k_wA, z_up, e, (hm2 v hv' hv4).1], by simp [k_wA, z_up, e, (hm2 v hv' hv4).2]⟩
    · rw [z_WhasP0 e1 hn hwn es hs2 hb, z_bind_some]
      refine z_pos rfl (k_sat_mk ?_)
      unfold f_R_lay
      rw [z_RisWheel e2 hn hwn, z_bind_some]
      refine z_neg (by decide) (z_ck (by (try simp (disch := omega) only [Int32.lt_iff_toInt_lt, Int32.le_iff_toInt_le, ← Int32.toInt_inj, Int32.toInt_add, Int32.toInt_sub, Int32.toInt_mul, Int32.toInt_neg, z_bm, z_bm2, J_ti, J_toInt, z_cn, Int32.reduceToInt]) <;> omega) (by (try simp (disch := omega) only [Int32.lt_iff_toInt_lt, Int32.le_iff_toInt_le, ← Int32.toInt_inj, Int32.toInt_add, Int32.toInt_sub, Int32.toInt_mul, Int32.toInt_neg, z_bm, z_bm2, J_ti, J_toInt, z_cn, Int32.reduceToInt]) <;> omega) ?_)
      rw [J_toNat (show w < 2147483648 by omega), er, z_Rin0 (by rw [J_m1 (by omega)]; ((try simp (disch := omega) only [Int32.lt_iff_toInt_lt, Int32.le_iff_toInt_le, ← Int32.toInt_inj, Int32.toInt_add, Int32.toInt_sub, Int32.toInt_mul, Int32.toInt_neg, z_bm, z_bm2, J_ti, J_toInt, z_cn, Int32.reduceToInt] at *); omega)), z_bind_some]
      exact z_pos rfl (k_sat_mk ⟨rfl, h⟩)
  · rw [z_WhasP00 e1 hn ha, z_bind_some]
    refine z_pos rfl (k_sat_mk ?_)
    unfold f_R_lay
    rw [z_RisWheel0 e2 hn ha, z_bind_some]
    exact z_pos rfl (k_sat_mk ⟨rfl, h⟩)
theorem z_Wleft {a : Int32} {k : Nat} {u : k_S} (h1 : 1 ≤ k) (h2 : k ≤ 40) : f_W_left a (J k) u = some (a % J k, u) := by
  unfold f_W_left k_nz
  rw [if_neg (by (try simp (disch := omega) only [Int32.lt_iff_toInt_lt, Int32.le_iff_toInt_le, ← Int32.toInt_inj, Int32.toInt_add, Int32.toInt_sub, Int32.toInt_mul, Int32.toInt_neg, z_bm, z_bm2, J_ti, J_toInt, z_cn, Int32.reduceToInt]) <;> omega), if_neg (by (try simp (disch := omega) only [Int32.lt_iff_toInt_lt, Int32.le_iff_toInt_le, ← Int32.toInt_inj, Int32.toInt_add, Int32.toInt_sub, Int32.toInt_mul, Int32.toInt_neg, z_bm, z_bm2, J_ti, J_toInt, z_cn, Int32.reduceToInt]) <;> omega)]
theorem z_day (u : k_S) (h : zI u) : z_pair f_W_day f_R_day u zI := by
  obtain ⟨n, hn, e1, e2, hw, -⟩ := h.2.1
  obtain ⟨⟨k, hk1, hk2, c1, c2⟩, -⟩ := h.2.2.2.1
  obtain ⟨-, hm, -⟩ := h.2.2.1
  refine z_pair_of ?_
  unfold f_W_day
  by_cases h0 : n = 0
  · subst h0
    refine z_pos e1 (k_sat_mk ?_)
    unfold f_R_day
    exact z_pos e2 (k_sat_mk ⟨rfl, h⟩)
  · obtain ⟨⟨p, hp, ep, ep2⟩, ev⟩ := hm 0 (by rw [e1, J_toInt (by omega)]; omega)
    refine z_neg (by rw [e1]; (try simp (disch := omega) only [Int32.lt_iff_toInt_lt, Int32.le_iff_toInt_le, ← Int32.toInt_inj, Int32.toInt_add, Int32.toInt_sub, Int32.toInt_mul, Int32.toInt_neg, z_bm, z_bm2, J_ti, J_toInt, z_cn, Int32.reduceToInt]) <;> omega) ?_
    rw [show (0 : Int32) = J 0 from rfl, z_Now_placeOf (by omega), z_bind_some]
    unfold f_Nights_dayOf
    rw [c1, z_Wleft hk1 (by omega), z_bind_some, z_bind_some]
    refine k_sat_mk ?_
    unfold f_R_day
    refine z_neg (by rw [e2]; (try simp (disch := omega) only [Int32.lt_iff_toInt_lt, Int32.le_iff_toInt_le, ← Int32.toInt_inj, Int32.toInt_add, Int32.toInt_sub, Int32.toInt_mul, Int32.toInt_neg, z_bm, z_bm2, J_ti, J_toInt, z_cn, Int32.reduceToInt]) <;> omega) (z_ck (by decide) (by decide) (z_nz (by rw [c2]; (try simp (disch := omega) only [Int32.lt_iff_toInt_lt, Int32.le_iff_toInt_le, ← Int32.toInt_inj, Int32.toInt_add, Int32.toInt_sub, Int32.toInt_mul, Int32.toInt_neg, z_bm, z_bm2, J_ti, J_toInt, z_cn, Int32.reduceToInt]) <;> omega) (k_sat_mk ⟨?_, h⟩)))
    rw [c2, ep, show (0 : Int32).toNatClampNeg = 0 from rfl, ep2]
