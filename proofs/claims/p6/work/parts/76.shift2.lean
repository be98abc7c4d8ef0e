/-! shift: the reference, and both -/
theorem z_shR {u : k_S} {s1 p2 s3 p4 N : Nat} (h1 : s1 < 6) (h3 : s3 < 6) (b1 : p2 + N ≤ 60) (b3 : p4 + N ≤ 60) : k_sat (k_bind (k_itr (fun (x : (Int32)) u => f_R_shift_B113 (J s1) (J p2) (J s3) (J p4) (J N) x u) k_FU 0 u) (fun y7 u6 => k_bind (k_itr (fun (x : (Int32)) u => f_R_shift_B150 (J s3) (J p4) (J N) x u) k_FU 0 u6) (fun y10 u9 => some (J N, u9)))) (fun r v => r = J N ∧ z_fr [] [74, 75] u v ∧ v.2.2 74 = z_shf (u.2.2 74) (60 * s1 + p2) (60 * s3 + p4) 0 N) := by
  refine z_bind _ (z_for 0 N (fun c v => z_fr [] [75] u v ∧ ∀ i, i < c → v.2.2 75 i = u.2.2 74 (60 * s1 + p2 + i)) (K := fun _ v => z_fr [] [75] u v ∧ ∀ i, i < N → v.2.2 75 i = u.2.2 74 (60 * s1 + p2 + i)) (by omega) (Nat.zero_le N) ⟨z_fr.rf, fun i hi => by omega⟩ (fun c v _ hc hp => ?_) (fun v hp => ?_)) (fun _ w hw => ?_)
  · unfold f_R_shift_B113
    rw [J_60, J_add]
    refine z_neg (by (try simp (disch := omega) only [Int32.lt_iff_toInt_lt, Int32.le_iff_toInt_le, ← Int32.toInt_inj, Int32.toInt_add, Int32.toInt_sub, Int32.toInt_mul, Int32.toInt_neg, z_bm, z_bm2, J_ti, J_toInt, z_cn, Int32.reduceToInt]) <;> omega) (z_ck (by (try simp (disch := omega) only [Int32.lt_iff_toInt_lt, Int32.le_iff_toInt_le, ← Int32.toInt_inj, Int32.toInt_add, Int32.toInt_sub, Int32.toInt_mul, Int32.toInt_neg, z_bm, z_bm2, J_ti, J_toInt, z_cn, Int32.reduceToInt]) <;> omega) (by (try simp (disch := omega) only [Int32.lt_iff_toInt_lt, Int32.le_iff_toInt_le, ← Int32.toInt_inj, Int32.toInt_add, Int32.toInt_sub, Int32.toInt_mul, Int32.toInt_neg, z_bm, z_bm2, J_ti, J_toInt, z_cn, Int32.reduceToInt]) <;> omega) (z_ck (by (try simp (disch := omega) only [Int32.lt_iff_toInt_lt, Int32.le_iff_toInt_le, ← Int32.toInt_inj, Int32.toInt_add, Int32.toInt_sub, Int32.toInt_mul, Int32.toInt_neg, z_bm, z_bm2, J_ti, J_toInt, z_cn, Int32.reduceToInt]) <;> omega) (by (try simp (disch := omega) only [Int32.lt_iff_toInt_lt, Int32.le_iff_toInt_le, ← Int32.toInt_inj, Int32.toInt_add, Int32.toInt_sub, Int32.toInt_mul, Int32.toInt_neg, z_bm, z_bm2, J_ti, J_toInt, z_cn, Int32.reduceToInt]) <;> omega) (z_let (k_sat_mk (Or.inl ⟨rfl, hp.1.tr (z_wL rfl), fun i hi => ?_⟩)))))
    simp only [k_wL, if_true]
    rw [J_toNat (show c < 2147483648 by omega), J_toNat (show 60 * s1 + p2 + c < 2147483648 by omega), z_upL]
    by_cases e : i = c
    · rw [if_pos e, e, hp.1.2.2 74 rfl]
    · rw [if_neg e]; exact hp.2 i (by omega)
  · unfold f_R_shift_B113
    exact z_pos (Int32.le_refl _) (k_sat_mk ⟨_, rfl, hp⟩)
  · refine z_bind _ (z_for 0 N (fun c v => z_fr [] [74] w v ∧ v.2.2 74 = z_shf (u.2.2 74) (60 * s1 + p2) (60 * s3 + p4) 0 c) (K := fun _ v => z_fr [] [74] w v ∧ v.2.2 74 = z_shf (u.2.2 74) (60 * s1 + p2) (60 * s3 + p4) 0 N) (by omega) (Nat.zero_le N) ⟨z_fr.rf, ?_⟩ (fun c v _ hc hp => ?_) (fun v hp => ?_)) (fun _ v hv => k_sat_mk ⟨rfl, (hw.1.mono rfl rfl).tr (hv.1.mono rfl rfl), hv.2⟩)
    · rw [hw.1.2.2 74 rfl]
      funext x
      unfold z_shf
      rw [if_neg (by omega)]
    · unfold f_R_shift_B150
      rw [J_60, J_add]
      refine z_neg (by (try simp (disch := omega) only [Int32.lt_iff_toInt_lt, Int32.le_iff_toInt_le, ← Int32.toInt_inj, Int32.toInt_add, Int32.toInt_sub, Int32.toInt_mul, Int32.toInt_neg, z_bm, z_bm2, J_ti, J_toInt, z_cn, Int32.reduceToInt]) <;> omega) (z_ck (by (try simp (disch := omega) only [Int32.lt_iff_toInt_lt, Int32.le_iff_toInt_le, ← Int32.toInt_inj, Int32.toInt_add, Int32.toInt_sub, Int32.toInt_mul, Int32.toInt_neg, z_bm, z_bm2, J_ti, J_toInt, z_cn, Int32.reduceToInt]) <;> omega) (by (try simp (disch := omega) only [Int32.lt_iff_toInt_lt, Int32.le_iff_toInt_le, ← Int32.toInt_inj, Int32.toInt_add, Int32.toInt_sub, Int32.toInt_mul, Int32.toInt_neg, z_bm, z_bm2, J_ti, J_toInt, z_cn, Int32.reduceToInt]) <;> omega) (z_ck (by (try simp (disch := omega) only [Int32.lt_iff_toInt_lt, Int32.le_iff_toInt_le, ← Int32.toInt_inj, Int32.toInt_add, Int32.toInt_sub, Int32.toInt_mul, Int32.toInt_neg, z_bm, z_bm2, J_ti, J_toInt, z_cn, Int32.reduceToInt]) <;> omega) (by (try simp (disch := omega) only [Int32.lt_iff_toInt_lt, Int32.le_iff_toInt_le, ← Int32.toInt_inj, Int32.toInt_add, Int32.toInt_sub, Int32.toInt_mul, Int32.toInt_neg, z_bm, z_bm2, J_ti, J_toInt, z_cn, Int32.reduceToInt]) <;> omega) (z_let (k_sat_mk (Or.inl ⟨rfl, hp.1.tr (z_wL rfl), ?_⟩)))))
      simp only [k_wL, if_true]
      rw [J_toNat (show c < 2147483648 by omega), J_toNat (show 60 * s3 + p4 + c < 2147483648 by omega), hp.1.2.2 75 rfl, hw.2 c hc, hp.2]
      funext x
      rw [z_upL]
      unfold z_shf
      by_cases e : x = 60 * s3 + p4 + c
      · rw [if_pos e, if_pos (by omega)]
        exact congrArg (u.2.2 74) (by omega)
      · rw [if_neg e]
        by_cases e2 : 60 * s3 + p4 + 0 ≤ x ∧ x < 60 * s3 + p4 + c
        · rw [if_pos e2, if_pos (by omega)]
        · rw [if_neg e2, if_neg (by omega)]
    · unfold f_R_shift_B150
      exact z_pos (Int32.le_refl _) (k_sat_mk ⟨_, rfl, hp⟩)
theorem z_shBad {a1 a3 a4 : Int32} {z z' : Nat} (hz : z ≤ 60) (hz' : z' ≤ 60) (hb : ¬ (0 ≤ a1.toInt ∧ 0 ≤ a4.toInt ∧ a1.toInt + a4.toInt ≤ z) ∨ ¬ (0 ≤ a3.toInt ∧ 0 ≤ a4.toInt ∧ a3.toInt + a4.toInt ≤ z')) (q1 : ¬ a4 < 0) (q2 : ¬ a1 < 0) (q3 : ¬ a3 < 0) (q4 : ¬ (J z - a4) < a1) : ¬ a3 ≤ (J z' - a4) := by
  intro q5
  obtain ⟨N, rfl, hN, hN2⟩ := J_of (x := a4) (by ((try simp (disch := omega) only [Int32.lt_iff_toInt_lt, Int32.le_iff_toInt_le, ← Int32.toInt_inj, Int32.toInt_add, Int32.toInt_sub, Int32.toInt_mul, Int32.toInt_neg, z_bm, z_bm2, J_ti, J_toInt, z_cn, Int32.reduceToInt] at *); omega))
  obtain ⟨x1, rfl, hx1, hx12⟩ := J_of (x := a1) (by ((try simp (disch := omega) only [Int32.lt_iff_toInt_lt, Int32.le_iff_toInt_le, ← Int32.toInt_inj, Int32.toInt_add, Int32.toInt_sub, Int32.toInt_mul, Int32.toInt_neg, z_bm, z_bm2, J_ti, J_toInt, z_cn, Int32.reduceToInt] at *); omega))
  obtain ⟨x3, rfl, hx3, hx32⟩ := J_of (x := a3) (by ((try simp (disch := omega) only [Int32.lt_iff_toInt_lt, Int32.le_iff_toInt_le, ← Int32.toInt_inj, Int32.toInt_add, Int32.toInt_sub, Int32.toInt_mul, Int32.toInt_neg, z_bm, z_bm2, J_ti, J_toInt, z_cn, Int32.reduceToInt] at *); omega))
  have e1 : (J z - J N).toInt = z - N := by
    rw [Int32.toInt_sub, J_toInt (by omega), J_toInt hN2, z_bm2] <;> omega
  have e2 : (J z' - J N).toInt = z' - N := by
    rw [Int32.toInt_sub, J_toInt (by omega), J_toInt hN2, z_bm2] <;> omega
  rw [Int32.lt_iff_toInt_lt, e1] at q4
  rw [Int32.le_iff_toInt_le, e2] at q5
  omega
theorem z_shift (a0 a1 a2 a3 a4 : Int32) (u : k_S) (h : zI u) : z_pair (f_W_shift a0 a1 a2 a3 a4) (f_R_shift a0 a1 a2 a3 a4) u zI := by
  have hH := h.2.2.2.2.2.2.2.2.2.1
  refine z_pair_of ?_
  unfold f_W_shift
  rcases J_or a0 6 with ⟨s1, h1, rfl⟩ | ha
  · rcases J_or a2 6 with ⟨s3, h3, rfl⟩ | hb
    · rw [z_Shas (by (try simp (disch := omega) only [Int32.lt_iff_toInt_lt, Int32.le_iff_toInt_le, ← Int32.toInt_inj, Int32.toInt_add, Int32.toInt_sub, Int32.toInt_mul, Int32.toInt_neg, z_bm, z_bm2, J_ti, J_toInt, z_cn, Int32.reduceToInt]) <;> omega) (by (try simp (disch := omega) only [Int32.lt_iff_toInt_lt, Int32.le_iff_toInt_le, ← Int32.toInt_inj, Int32.toInt_add, Int32.toInt_sub, Int32.toInt_mul, Int32.toInt_neg, z_bm, z_bm2, J_ti, J_toInt, z_cn, Int32.reduceToInt]) <;> omega), z_bind_some]
      refine z_neg (by decide) ?_
      rw [z_Shas (by (try simp (disch := omega) only [Int32.lt_iff_toInt_lt, Int32.le_iff_toInt_le, ← Int32.toInt_inj, Int32.toInt_add, Int32.toInt_sub, Int32.toInt_mul, Int32.toInt_neg, z_bm, z_bm2, J_ti, J_toInt, z_cn, Int32.reduceToInt]) <;> omega) (by (try simp (disch := omega) only [Int32.lt_iff_toInt_lt, Int32.le_iff_toInt_le, ← Int32.toInt_inj, Int32.toInt_add, Int32.toInt_sub, Int32.toInt_mul, Int32.toInt_neg, z_bm, z_bm2, J_ti, J_toInt, z_cn, Int32.reduceToInt]) <;> omega), z_bind_some]
      refine z_neg (by decide) ?_
      rw [z_SheldBy (by (try simp (disch := omega) only [Int32.lt_iff_toInt_lt, Int32.le_iff_toInt_le, ← Int32.toInt_inj, Int32.toInt_add, Int32.toInt_sub, Int32.toInt_mul, Int32.toInt_neg, z_bm, z_bm2, J_ti, J_toInt, z_cn, Int32.reduceToInt]) <;> omega) (by (try simp (disch := omega) only [Int32.lt_iff_toInt_lt, Int32.le_iff_toInt_le, ← Int32.toInt_inj, Int32.toInt_add, Int32.toInt_sub, Int32.toInt_mul, Int32.toInt_neg, z_bm, z_bm2, J_ti, J_toInt, z_cn, Int32.reduceToInt]) <;> omega), z_bind_some, z_SheldBy (by (try simp (disch := omega) only [Int32.lt_iff_toInt_lt, Int32.le_iff_toInt_le, ← Int32.toInt_inj, Int32.toInt_add, Int32.toInt_sub, Int32.toInt_mul, Int32.toInt_neg, z_bm, z_bm2, J_ti, J_toInt, z_cn, Int32.reduceToInt]) <;> omega) (by (try simp (disch := omega) only [Int32.lt_iff_toInt_lt, Int32.le_iff_toInt_le, ← Int32.toInt_inj, Int32.toInt_add, Int32.toInt_sub, Int32.toInt_mul, Int32.toInt_neg, z_bm, z_bm2, J_ti, J_toInt, z_cn, Int32.reduceToInt]) <;> omega), z_bind_some, J_toNat (show s1 < 2147483648 by omega), J_toNat (show s3 < 2147483648 by omega)]
      have hR : ∀ {v : k_S} {Q : Int32 → k_S → Prop}, k_sat (if v.2.1 72 s1 = -1 then some ((-11), v) else if v.2.1 72 s3 = -1 then some ((-11), v) else if 0 ≤ v.2.1 72 s1 then some ((-12), v) else if v.2.1 72 s1 = v.2.1 72 s3 then (if a4 < 0 then some ((-13), v) else if a1 < 0 then some ((-13), v) else if a3 < 0 then some ((-13), v) else if (v.2.1 73 s1 - a4) < a1 then some ((-13), v) else if a3 ≤ (v.2.1 73 s3 - a4) then k_bind (k_itr (fun (x : (Int32)) u => f_R_shift_B113 (J s1) a1 (J s3) a3 a4 x u) k_FU 0 v) (fun y7 u6 => k_bind (k_itr (fun (x : (Int32)) u => f_R_shift_B150 (J s3) a3 a4 x u) k_FU 0 u6) (fun y10 u9 => some (a4, u9))) else some ((-13), v)) else some ((-12), v)) Q → k_sat (f_R_shift (J s1) a1 (J s3) a3 a4 v) Q := fun {v Q} hq => by
        unfold f_R_shift
        rw [z_RisShelf (by (try simp (disch := omega) only [Int32.lt_iff_toInt_lt, Int32.le_iff_toInt_le, ← Int32.toInt_inj, Int32.toInt_add, Int32.toInt_sub, Int32.toInt_mul, Int32.toInt_neg, z_bm, z_bm2, J_ti, J_toInt, z_cn, Int32.reduceToInt]) <;> omega) (by (try simp (disch := omega) only [Int32.lt_iff_toInt_lt, Int32.le_iff_toInt_le, ← Int32.toInt_inj, Int32.toInt_add, Int32.toInt_sub, Int32.toInt_mul, Int32.toInt_neg, z_bm, z_bm2, J_ti, J_toInt, z_cn, Int32.reduceToInt]) <;> omega), z_bind_some]
        refine z_neg (by decide) ?_
        rw [z_RisShelf (by (try simp (disch := omega) only [Int32.lt_iff_toInt_lt, Int32.le_iff_toInt_le, ← Int32.toInt_inj, Int32.toInt_add, Int32.toInt_sub, Int32.toInt_mul, Int32.toInt_neg, z_bm, z_bm2, J_ti, J_toInt, z_cn, Int32.reduceToInt]) <;> omega) (by (try simp (disch := omega) only [Int32.lt_iff_toInt_lt, Int32.le_iff_toInt_le, ← Int32.toInt_inj, Int32.toInt_add, Int32.toInt_sub, Int32.toInt_mul, Int32.toInt_neg, z_bm, z_bm2, J_ti, J_toInt, z_cn, Int32.reduceToInt]) <;> omega), z_bind_some, J_toNat (show s1 < 2147483648 by omega), J_toNat (show s3 < 2147483648 by omega)]
        have c1 : ∀ {α : Type} (o : Option α), k_ck (J s1) 6 o = o := fun o => z_cko o (by (try simp (disch := omega) only [Int32.lt_iff_toInt_lt, Int32.le_iff_toInt_le, ← Int32.toInt_inj, Int32.toInt_add, Int32.toInt_sub, Int32.toInt_mul, Int32.toInt_neg, z_bm, z_bm2, J_ti, J_toInt, z_cn, Int32.reduceToInt]) <;> omega) (by (try simp (disch := omega) only [Int32.lt_iff_toInt_lt, Int32.le_iff_toInt_le, ← Int32.toInt_inj, Int32.toInt_add, Int32.toInt_sub, Int32.toInt_mul, Int32.toInt_neg, z_bm, z_bm2, J_ti, J_toInt, z_cn, Int32.reduceToInt]) <;> omega)
        have c3 : ∀ {α : Type} (o : Option α), k_ck (J s3) 6 o = o := fun o => z_cko o (by (try simp (disch := omega) only [Int32.lt_iff_toInt_lt, Int32.le_iff_toInt_le, ← Int32.toInt_inj, Int32.toInt_add, Int32.toInt_sub, Int32.toInt_mul, Int32.toInt_neg, z_bm, z_bm2, J_ti, J_toInt, z_cn, Int32.reduceToInt]) <;> omega) (by (try simp (disch := omega) only [Int32.lt_iff_toInt_lt, Int32.le_iff_toInt_le, ← Int32.toInt_inj, Int32.toInt_add, Int32.toInt_sub, Int32.toInt_mul, Int32.toInt_neg, z_bm, z_bm2, J_ti, J_toInt, z_cn, Int32.reduceToInt]) <;> omega)
        simp only [c1, c3]
        exact z_neg (by decide) hq
      rcases hH s1 h1 with ⟨p39, p72⟩ | ⟨p39, b, hb, p72, p40⟩ | ⟨k, z, hk, hz, p39, p72, p40, p73, p74⟩
      · exact z_pos p39 (k_sat_mk (hR (z_pos p72 (k_sat_mk ⟨rfl, h⟩))))
      · have hb50 : b < 50 := by
          obtain ⟨⟨n, hn, b1, -⟩, -⟩ := h.2.2.2.2.2.2.2.2.1
          rw [b1, J_toInt (by omega)] at hb
          omega
        refine z_neg (by rw [p39]; decide) ?_
        rcases hH s3 h3 with ⟨r39, r72⟩ | ⟨r39, c, hc, r72, r40⟩ | ⟨k', z', hk', hz', r39, r72, r40, r73, r74⟩
        · exact z_pos r39 (k_sat_mk (hR (z_neg (by rw [p72]; (try simp (disch := omega) only [Int32.lt_iff_toInt_lt, Int32.le_iff_toInt_le, ← Int32.toInt_inj, Int32.toInt_add, Int32.toInt_sub, Int32.toInt_mul, Int32.toInt_neg, z_bm, z_bm2, J_ti, J_toInt, z_cn, Int32.reduceToInt]) <;> omega) (z_pos r72 (k_sat_mk ⟨rfl, h⟩)))))
        · have hc50 : c < 50 := by
            obtain ⟨⟨n, hn, b1, -⟩, -⟩ := h.2.2.2.2.2.2.2.2.1
            rw [b1, J_toInt (by omega)] at hc
            omega
          exact z_neg (by rw [r39]; decide) (z_pos p39 (k_sat_mk (hR (z_neg (by rw [p72]; (try simp (disch := omega) only [Int32.lt_iff_toInt_lt, Int32.le_iff_toInt_le, ← Int32.toInt_inj, Int32.toInt_add, Int32.toInt_sub, Int32.toInt_mul, Int32.toInt_neg, z_bm, z_bm2, J_ti, J_toInt, z_cn, Int32.reduceToInt]) <;> omega) (z_neg (by rw [r72]; (try simp (disch := omega) only [Int32.lt_iff_toInt_lt, Int32.le_iff_toInt_le, ← Int32.toInt_inj, Int32.toInt_add, Int32.toInt_sub, Int32.toInt_mul, Int32.toInt_neg, z_bm, z_bm2, J_ti, J_toInt, z_cn, Int32.reduceToInt]) <;> omega) (z_pos (by rw [p72]; (try simp (disch := omega) only [Int32.lt_iff_toInt_lt, Int32.le_iff_toInt_le, ← Int32.toInt_inj, Int32.toInt_add, Int32.toInt_sub, Int32.toInt_mul, Int32.toInt_neg, z_bm, z_bm2, J_ti, J_toInt, z_cn, Int32.reduceToInt]) <;> omega) (k_sat_mk ⟨rfl, h⟩)))))))
        · exact z_neg (by rw [r39]; (try simp (disch := omega) only [Int32.lt_iff_toInt_lt, Int32.le_iff_toInt_le, ← Int32.toInt_inj, Int32.toInt_add, Int32.toInt_sub, Int32.toInt_mul, Int32.toInt_neg, z_bm, z_bm2, J_ti, J_toInt, z_cn, Int32.reduceToInt]) <;> omega) (z_pos p39 (k_sat_mk (hR (z_neg (by rw [p72]; (try simp (disch := omega) only [Int32.lt_iff_toInt_lt, Int32.le_iff_toInt_le, ← Int32.toInt_inj, Int32.toInt_add, Int32.toInt_sub, Int32.toInt_mul, Int32.toInt_neg, z_bm, z_bm2, J_ti, J_toInt, z_cn, Int32.reduceToInt]) <;> omega) (z_neg (by rw [r72]; (try simp (disch := omega) only [Int32.lt_iff_toInt_lt, Int32.le_iff_toInt_le, ← Int32.toInt_inj, Int32.toInt_add, Int32.toInt_sub, Int32.toInt_mul, Int32.toInt_neg, z_bm, z_bm2, J_ti, J_toInt, z_cn, Int32.reduceToInt]) <;> omega) (z_pos (by rw [p72]; (try simp (disch := omega) only [Int32.lt_iff_toInt_lt, Int32.le_iff_toInt_le, ← Int32.toInt_inj, Int32.toInt_add, Int32.toInt_sub, Int32.toInt_mul, Int32.toInt_neg, z_bm, z_bm2, J_ti, J_toInt, z_cn, Int32.reduceToInt]) <;> omega) (k_sat_mk ⟨rfl, h⟩)))))))
      · refine z_neg (by rw [p39]; (try simp (disch := omega) only [Int32.lt_iff_toInt_lt, Int32.le_iff_toInt_le, ← Int32.toInt_inj, Int32.toInt_add, Int32.toInt_sub, Int32.toInt_mul, Int32.toInt_neg, z_bm, z_bm2, J_ti, J_toInt, z_cn, Int32.reduceToInt]) <;> omega) ?_
        rcases hH s3 h3 with ⟨r39, r72⟩ | ⟨r39, c, hc, r72, r40⟩ | ⟨k', z', hk', hz', r39, r72, r40, r73, r74⟩
        · exact z_pos r39 (k_sat_mk (hR (z_neg (by rw [p72]; (try simp (disch := omega) only [Int32.lt_iff_toInt_lt, Int32.le_iff_toInt_le, ← Int32.toInt_inj, Int32.toInt_add, Int32.toInt_sub, Int32.toInt_mul, Int32.toInt_neg, z_bm, z_bm2, J_ti, J_toInt, z_cn, Int32.reduceToInt]) <;> omega) (z_pos r72 (k_sat_mk ⟨rfl, h⟩)))))
        · have hc50 : c < 50 := by
            obtain ⟨⟨n, hn, b1, -⟩, -⟩ := h.2.2.2.2.2.2.2.2.1
            rw [b1, J_toInt (by omega)] at hc
            omega
          exact z_neg (by rw [r39]; decide) (z_neg (by rw [p39]; (try simp (disch := omega) only [Int32.lt_iff_toInt_lt, Int32.le_iff_toInt_le, ← Int32.toInt_inj, Int32.toInt_add, Int32.toInt_sub, Int32.toInt_mul, Int32.toInt_neg, z_bm, z_bm2, J_ti, J_toInt, z_cn, Int32.reduceToInt]) <;> omega) (z_neg (by rw [p39, r39]; (try simp (disch := omega) only [Int32.lt_iff_toInt_lt, Int32.le_iff_toInt_le, ← Int32.toInt_inj, Int32.toInt_add, Int32.toInt_sub, Int32.toInt_mul, Int32.toInt_neg, z_bm, z_bm2, J_ti, J_toInt, z_cn, Int32.reduceToInt]) <;> omega) (k_sat_mk (hR (z_neg (by rw [p72]; (try simp (disch := omega) only [Int32.lt_iff_toInt_lt, Int32.le_iff_toInt_le, ← Int32.toInt_inj, Int32.toInt_add, Int32.toInt_sub, Int32.toInt_mul, Int32.toInt_neg, z_bm, z_bm2, J_ti, J_toInt, z_cn, Int32.reduceToInt]) <;> omega) (z_neg (by rw [r72]; (try simp (disch := omega) only [Int32.lt_iff_toInt_lt, Int32.le_iff_toInt_le, ← Int32.toInt_inj, Int32.toInt_add, Int32.toInt_sub, Int32.toInt_mul, Int32.toInt_neg, z_bm, z_bm2, J_ti, J_toInt, z_cn, Int32.reduceToInt]) <;> omega) (z_neg (by rw [p72]; (try simp (disch := omega) only [Int32.lt_iff_toInt_lt, Int32.le_iff_toInt_le, ← Int32.toInt_inj, Int32.toInt_add, Int32.toInt_sub, Int32.toInt_mul, Int32.toInt_neg, z_bm, z_bm2, J_ti, J_toInt, z_cn, Int32.reduceToInt]) <;> omega) (z_neg (by rw [p72, r72]; (try simp (disch := omega) only [Int32.lt_iff_toInt_lt, Int32.le_iff_toInt_le, ← Int32.toInt_inj, Int32.toInt_add, Int32.toInt_sub, Int32.toInt_mul, Int32.toInt_neg, z_bm, z_bm2, J_ti, J_toInt, z_cn, Int32.reduceToInt]) <;> omega) (k_sat_mk ⟨rfl, h⟩)))))))))
        · refine z_neg (by rw [r39]; (try simp (disch := omega) only [Int32.lt_iff_toInt_lt, Int32.le_iff_toInt_le, ← Int32.toInt_inj, Int32.toInt_add, Int32.toInt_sub, Int32.toInt_mul, Int32.toInt_neg, z_bm, z_bm2, J_ti, J_toInt, z_cn, Int32.reduceToInt]) <;> omega) (z_neg (by rw [p39]; (try simp (disch := omega) only [Int32.lt_iff_toInt_lt, Int32.le_iff_toInt_le, ← Int32.toInt_inj, Int32.toInt_add, Int32.toInt_sub, Int32.toInt_mul, Int32.toInt_neg, z_bm, z_bm2, J_ti, J_toInt, z_cn, Int32.reduceToInt]) <;> omega) ?_)
          have pre : ∀ {v : k_S} {Q : Int32 → k_S → Prop}, v.2.1 72 = u.2.1 72 → v.2.1 73 = u.2.1 73 → k_sat (if (-2 : Int32) - J k = -2 - J k' then (if a4 < 0 then some ((-13), v) else if a1 < 0 then some ((-13), v) else if a3 < 0 then some ((-13), v) else if (J z - a4) < a1 then some ((-13), v) else if a3 ≤ (J z' - a4) then k_bind (k_itr (fun (x : (Int32)) u => f_R_shift_B113 (J s1) a1 (J s3) a3 a4 x u) k_FU 0 v) (fun y7 u6 => k_bind (k_itr (fun (x : (Int32)) u => f_R_shift_B150 (J s3) a3 a4 x u) k_FU 0 u6) (fun y10 u9 => some (a4, u9))) else some ((-13), v)) else some ((-12), v)) Q → k_sat (f_R_shift (J s1) a1 (J s3) a3 a4 v) Q := fun {v Q} e72 e73 hq => by
            refine hR ?_
            rw [e72, e73, p72, r72, p73, r73]
            exact z_neg (by (try simp (disch := omega) only [Int32.lt_iff_toInt_lt, Int32.le_iff_toInt_le, ← Int32.toInt_inj, Int32.toInt_add, Int32.toInt_sub, Int32.toInt_mul, Int32.toInt_neg, z_bm, z_bm2, J_ti, J_toInt, z_cn, Int32.reduceToInt]) <;> omega) (z_neg (by (try simp (disch := omega) only [Int32.lt_iff_toInt_lt, Int32.le_iff_toInt_le, ← Int32.toInt_inj, Int32.toInt_add, Int32.toInt_sub, Int32.toInt_mul, Int32.toInt_neg, z_bm, z_bm2, J_ti, J_toInt, z_cn, Int32.reduceToInt]) <;> omega) (z_neg (by (try simp (disch := omega) only [Int32.lt_iff_toInt_lt, Int32.le_iff_toInt_le, ← Int32.toInt_inj, Int32.toInt_add, Int32.toInt_sub, Int32.toInt_mul, Int32.toInt_neg, z_bm, z_bm2, J_ti, J_toInt, z_cn, Int32.reduceToInt]) <;> omega) hq))
          by_cases ek : k = k'
          · subst ek
            refine z_pos (by rw [p39, r39]) ?_
            have bad : (¬ (0 ≤ a1.toInt ∧ 0 ≤ a4.toInt ∧ a1.toInt + a4.toInt ≤ z) ∨ ¬ (0 ≤ a3.toInt ∧ 0 ≤ a4.toInt ∧ a3.toInt + a4.toInt ≤ z')) → k_sat (f_R_shift (J s1) a1 (J s3) a3 a4 u) (fun r' u2 => (-13 : Int32) = r' ∧ zI u2) := fun hb => by
              refine pre rfl rfl (z_pos rfl (z_ite (fun _ => k_sat_mk ⟨rfl, h⟩) (fun q1 => z_ite (fun _ => k_sat_mk ⟨rfl, h⟩) (fun q2 => z_ite (fun _ => k_sat_mk ⟨rfl, h⟩) (fun q3 => z_ite (fun _ => k_sat_mk ⟨rfl, h⟩) (fun q4 => z_neg (z_shBad hz hz' hb q1 q2 q3 q4) (k_sat_mk ⟨rfl, h⟩)))))))
            by_cases g1 : 0 ≤ a1.toInt ∧ 0 ≤ a4.toInt ∧ a1.toInt + a4.toInt ≤ z
            · obtain ⟨N, rfl, hN, -⟩ := J_of (x := a4) g1.2.1
              obtain ⟨x1, rfl, hx1, -⟩ := J_of (x := a1) g1.1
              rw [z_hasP1 h1 hz p40 (by omega), z_bind_some]
              refine z_neg (by decide) ?_
              by_cases g3 : 0 ≤ a3.toInt ∧ 0 ≤ (J N).toInt ∧ a3.toInt + (J N).toInt ≤ z'
              · obtain ⟨x3, rfl, hx3, -⟩ := J_of (x := a3) g3.1
                rw [z_hasP1 h3 hz' r40 (by omega), z_bind_some]
                refine z_neg (by decide) (z_bind _ (z_shW (k := k) h1 h3 hk (by omega) (by omega) r39 (fun j hj => (p74 j hj).2)) (fun _ v hv => k_sat_mk (pre (hv.1.2.1 72 rfl) (hv.1.2.1 73 rfl) (z_pos rfl (z_neg (by (try simp (disch := omega) only [Int32.lt_iff_toInt_lt, Int32.le_iff_toInt_le, ← Int32.toInt_inj, Int32.toInt_add, Int32.toInt_sub, Int32.toInt_mul, Int32.toInt_neg, z_bm, z_bm2, J_ti, J_toInt, z_cn, Int32.reduceToInt]) <;> omega) (z_neg (by (try simp (disch := omega) only [Int32.lt_iff_toInt_lt, Int32.le_iff_toInt_le, ← Int32.toInt_inj, Int32.toInt_add, Int32.toInt_sub, Int32.toInt_mul, Int32.toInt_neg, z_bm, z_bm2, J_ti, J_toInt, z_cn, Int32.reduceToInt]) <;> omega) (z_neg (by (try simp (disch := omega) only [Int32.lt_iff_toInt_lt, Int32.le_iff_toInt_le, ← Int32.toInt_inj, Int32.toInt_add, Int32.toInt_sub, Int32.toInt_mul, Int32.toInt_neg, z_bm, z_bm2, J_ti, J_toInt, z_cn, Int32.reduceToInt]) <;> omega) (z_neg (by rw [J_sub (by omega)]; (try simp (disch := omega) only [Int32.lt_iff_toInt_lt, Int32.le_iff_toInt_le, ← Int32.toInt_inj, Int32.toInt_add, Int32.toInt_sub, Int32.toInt_mul, Int32.toInt_neg, z_bm, z_bm2, J_ti, J_toInt, z_cn, Int32.reduceToInt]) <;> omega) (z_pos (by rw [J_sub (by omega)]; (try simp (disch := omega) only [Int32.lt_iff_toInt_lt, Int32.le_iff_toInt_le, ← Int32.toInt_inj, Int32.toInt_add, Int32.toInt_sub, Int32.toInt_mul, Int32.toInt_neg, z_bm, z_bm2, J_ti, J_toInt, z_cn, Int32.reduceToInt]) <;> omega) (z_mono (z_shR h1 h3 (by omega) (by omega)) (fun r w hw => ⟨hw.1.symm, ?_⟩)))))))))))
                have f2 : z_fr [] [41, 74, 75] u w := (hv.1.mono rfl rfl).tr (hw.2.1.mono rfl rfl)
                refine zI_H h (f2.mono rfl rfl) (fun s hs => ?_)
                have g41 : w.2.2 41 = z_shf (u.2.2 41) (60 * s1 + x1) (60 * s3 + x3) 0 N := (hw.2.1.2.2 41 rfl).trans hv.2
                have g74 : w.2.2 74 = z_shf (u.2.2 74) (60 * s1 + x1) (60 * s3 + x3) 0 N := by rw [hw.2.2, hv.1.2.2 74 rfl]
                rw [f2.2.1 39 rfl, f2.2.1 40 rfl, f2.2.1 72 rfl, f2.2.1 73 rfl, f2.1 3502 rfl, g41, g74]
                rcases hH s hs with q | q | ⟨kk, zz, q1, q2, q3, q4, q5, q6, q7⟩
                · exact Or.inl q
                · exact Or.inr (Or.inl q)
                · refine Or.inr (Or.inr ⟨kk, zz, q1, q2, q3, q4, q5, q6, fun j hj => ?_⟩)
                  unfold z_shf
                  by_cases e : 60 * s3 + x3 + 0 ≤ 60 * s + j ∧ 60 * s + j < 60 * s3 + x3 + N
                  · have es : s = s3 := by omega
                    subst es
                    have ekk : kk = k := by
                      rw [r39, J_inj (by omega) (by omega)] at q3
                      exact q3.symm
                    subst ekk
                    have := p74 (x1 + (j - x3)) (by omega)
                    rw [show 60 * s1 + (x1 + (j - x3)) = 60 * s1 + x1 + (60 * s + j - (60 * s + x3)) by omega] at this
                    rw [if_pos e, if_pos e]
                    exact this
                  · rw [if_neg e, if_neg e]
                    exact q7 j hj
              · rw [z_hasP0 h3 hz' r40 g3, z_bind_some]
                exact z_pos rfl (k_sat_mk (bad (Or.inr g3)))
            · rw [z_hasP0 h1 hz p40 g1, z_bind_some]
              exact z_pos rfl (k_sat_mk (bad (Or.inl g1)))
          · refine z_neg (by rw [p39, r39, J_inj (by omega) (by omega)]; exact ek) (k_sat_mk (pre rfl rfl (z_neg (by (try simp (disch := omega) only [Int32.lt_iff_toInt_lt, Int32.le_iff_toInt_le, ← Int32.toInt_inj, Int32.toInt_add, Int32.toInt_sub, Int32.toInt_mul, Int32.toInt_neg, z_bm, z_bm2, J_ti, J_toInt, z_cn, Int32.reduceToInt]) <;> omega) (k_sat_mk ⟨rfl, h⟩))))
    · rw [z_Shas (by (try simp (disch := omega) only [Int32.lt_iff_toInt_lt, Int32.le_iff_toInt_le, ← Int32.toInt_inj, Int32.toInt_add, Int32.toInt_sub, Int32.toInt_mul, Int32.toInt_neg, z_bm, z_bm2, J_ti, J_toInt, z_cn, Int32.reduceToInt]) <;> omega) (by (try simp (disch := omega) only [Int32.lt_iff_toInt_lt, Int32.le_iff_toInt_le, ← Int32.toInt_inj, Int32.toInt_add, Int32.toInt_sub, Int32.toInt_mul, Int32.toInt_neg, z_bm, z_bm2, J_ti, J_toInt, z_cn, Int32.reduceToInt]) <;> omega), z_bind_some]
      refine z_neg (by decide) ?_
      rw [z_Shas0 (by omega), z_bind_some]
      refine z_pos rfl (k_sat_mk ?_)
      unfold f_R_shift
      rw [z_RisShelf (by (try simp (disch := omega) only [Int32.lt_iff_toInt_lt, Int32.le_iff_toInt_le, ← Int32.toInt_inj, Int32.toInt_add, Int32.toInt_sub, Int32.toInt_mul, Int32.toInt_neg, z_bm, z_bm2, J_ti, J_toInt, z_cn, Int32.reduceToInt]) <;> omega) (by (try simp (disch := omega) only [Int32.lt_iff_toInt_lt, Int32.le_iff_toInt_le, ← Int32.toInt_inj, Int32.toInt_add, Int32.toInt_sub, Int32.toInt_mul, Int32.toInt_neg, z_bm, z_bm2, J_ti, J_toInt, z_cn, Int32.reduceToInt]) <;> omega), z_bind_some]
      refine z_neg (by decide) ?_
      rw [z_RisShelf0 (by omega), z_bind_some]
      exact z_pos rfl (k_sat_mk ⟨rfl, h⟩)
  · rw [z_Shas0 (by omega), z_bind_some]
    refine z_pos rfl (k_sat_mk ?_)
    unfold f_R_shift
    rw [z_RisShelf0 (by omega), z_bind_some]
    exact z_pos rfl (k_sat_mk ⟨rfl, h⟩)
