/-! METHODS WITHOUT NIGHTS: feed, set, body, trace, count, clear, record, image, back, day, of, lay -/
theorem z_feed (a : Int32) (u : k_S) (h : zI u) : z_pair (f_W_feed a) (f_R_feed a) u zI := by
  obtain ⟨n, hn, e1, e2, hT⟩ := h.1
  refine z_pair_of ?_
  unfold f_W_feed
  by_cases h1 : 0 ≤ a.toInt ∧ a.toInt ≤ 255
  · refine z_neg (by (try simp (disch := omega) only [Int32.lt_iff_toInt_lt, Int32.le_iff_toInt_le, ← Int32.toInt_inj, Int32.toInt_add, Int32.toInt_sub, Int32.toInt_mul, Int32.toInt_neg, z_bm, z_bm2, J_ti, J_toInt, z_cn, Int32.reduceToInt]) <;> omega) (z_pos (by (try simp (disch := omega) only [Int32.lt_iff_toInt_lt, Int32.le_iff_toInt_le, ← Int32.toInt_inj, Int32.toInt_add, Int32.toInt_sub, Int32.toInt_mul, Int32.toInt_neg, z_bm, z_bm2, J_ti, J_toInt, z_cn, Int32.reduceToInt]) <;> omega) ?_)
    by_cases h2 : n < 120
    · refine z_pos (by rw [e1]; (try simp (disch := omega) only [Int32.lt_iff_toInt_lt, Int32.le_iff_toInt_le, ← Int32.toInt_inj, Int32.toInt_add, Int32.toInt_sub, Int32.toInt_mul, Int32.toInt_neg, z_bm, z_bm2, J_ti, J_toInt, z_cn, Int32.reduceToInt]) <;> omega) ?_
      unfold f_Tape_append
      rw [e1]
      refine z_bind (fun _ v => v = k_wF (k_wA u 2 n a) 101 (J (n + 1))) (z_neg (by (try simp (disch := omega) only [Int32.lt_iff_toInt_lt, Int32.le_iff_toInt_le, ← Int32.toInt_inj, Int32.toInt_add, Int32.toInt_sub, Int32.toInt_mul, Int32.toInt_neg, z_bm, z_bm2, J_ti, J_toInt, z_cn, Int32.reduceToInt]) <;> omega) (z_pos (by (try simp (disch := omega) only [Int32.lt_iff_toInt_lt, Int32.le_iff_toInt_le, ← Int32.toInt_inj, Int32.toInt_add, Int32.toInt_sub, Int32.toInt_mul, Int32.toInt_neg, z_bm, z_bm2, J_ti, J_toInt, z_cn, Int32.reduceToInt]) <;> omega) (z_ck (by (try simp (disch := omega) only [Int32.lt_iff_toInt_lt, Int32.le_iff_toInt_le, ← Int32.toInt_inj, Int32.toInt_add, Int32.toInt_sub, Int32.toInt_mul, Int32.toInt_neg, z_bm, z_bm2, J_ti, J_toInt, z_cn, Int32.reduceToInt]) <;> omega) (by (try simp (disch := omega) only [Int32.lt_iff_toInt_lt, Int32.le_iff_toInt_le, ← Int32.toInt_inj, Int32.toInt_add, Int32.toInt_sub, Int32.toInt_mul, Int32.toInt_neg, z_bm, z_bm2, J_ti, J_toInt, z_cn, Int32.reduceToInt]) <;> omega) (z_let (z_let (k_sat_mk ?_)))))) (fun _ v hv => k_sat_mk ?_)
      · simp only [k_wA, e1, z_Jp, J_toNat (show n < 2147483648 by omega)]
      · subst hv
        unfold f_R_feed
        have e3 : (k_wF (k_wA u 2 n a) 101 (J (n + 1))).1 4202 = J n := e2
        rw [z_Rin1 (by (try simp (disch := omega) only [Int32.lt_iff_toInt_lt, Int32.le_iff_toInt_le, ← Int32.toInt_inj, Int32.toInt_add, Int32.toInt_sub, Int32.toInt_mul, Int32.toInt_neg, z_bm, z_bm2, J_ti, J_toInt, z_cn, Int32.reduceToInt]) <;> omega) (by (try simp (disch := omega) only [Int32.lt_iff_toInt_lt, Int32.le_iff_toInt_le, ← Int32.toInt_inj, Int32.toInt_add, Int32.toInt_sub, Int32.toInt_mul, Int32.toInt_neg, z_bm, z_bm2, J_ti, J_toInt, z_cn, Int32.reduceToInt]) <;> omega), z_bind_some, e3]
        refine z_neg (by decide) (z_neg (by ((try simp (disch := omega) only [Int32.lt_iff_toInt_lt, Int32.le_iff_toInt_le, ← Int32.toInt_inj, Int32.toInt_add, Int32.toInt_sub, Int32.toInt_mul, Int32.toInt_neg, z_bm, z_bm2, J_ti, J_toInt, z_cn, Int32.reduceToInt] at *); omega)) (z_ck (by (try simp (disch := omega) only [Int32.lt_iff_toInt_lt, Int32.le_iff_toInt_le, ← Int32.toInt_inj, Int32.toInt_add, Int32.toInt_sub, Int32.toInt_mul, Int32.toInt_neg, z_bm, z_bm2, J_ti, J_toInt, z_cn, Int32.reduceToInt]) <;> omega) (by (try simp (disch := omega) only [Int32.lt_iff_toInt_lt, Int32.le_iff_toInt_le, ← Int32.toInt_inj, Int32.toInt_add, Int32.toInt_sub, Int32.toInt_mul, Int32.toInt_neg, z_bm, z_bm2, J_ti, J_toInt, z_cn, Int32.reduceToInt]) <;> omega) (z_let (z_let (k_sat_mk ⟨?_, ?_⟩)))))
        · simp [k_wF, k_wA, e2, z_Jp]
        · refine zI_T h ((((z_wA rfl).tr (z_wF rfl)).tr (z_wA rfl)).tr (z_wF rfl)) ⟨n + 1, by omega, by simp [k_wF, k_wA], by simp [k_wF, k_wA, e2, z_Jp], fun i hi => ?_⟩
          simp only [J_toNat (show n < 2147483648 by omega)]
          by_cases e : i = n
          · subst e
            obtain ⟨b, hb, hb2, -⟩ := J_of h1.1
            exact ⟨b, by omega, by simp [k_wF, k_wA, z_up, hb], by simp [k_wF, k_wA, z_up, hb]⟩
          · obtain ⟨b, hb1, hb2, hb3⟩ := hT i (by omega)
            exact ⟨b, hb1, by simp [k_wF, k_wA, z_up, e, hb2], by simp [k_wF, k_wA, z_up, e, hb3]⟩
    · have hn' : n = 120 := by omega
      subst hn'
      refine z_neg (by rw [e1]; decide) (k_sat_mk ?_)
      unfold f_R_feed
      rw [z_Rin1 (by (try simp (disch := omega) only [Int32.lt_iff_toInt_lt, Int32.le_iff_toInt_le, ← Int32.toInt_inj, Int32.toInt_add, Int32.toInt_sub, Int32.toInt_mul, Int32.toInt_neg, z_bm, z_bm2, J_ti, J_toInt, z_cn, Int32.reduceToInt]) <;> omega) (by (try simp (disch := omega) only [Int32.lt_iff_toInt_lt, Int32.le_iff_toInt_le, ← Int32.toInt_inj, Int32.toInt_add, Int32.toInt_sub, Int32.toInt_mul, Int32.toInt_neg, z_bm, z_bm2, J_ti, J_toInt, z_cn, Int32.reduceToInt]) <;> omega), z_bind_some, e2]
      exact z_neg (by decide) (z_pos rfl (k_sat_mk ⟨rfl, h⟩))
  · have e : k_sat (f_R_feed a u) (fun r' v => (-1 : Int32) = r' ∧ zI v) := by
      unfold f_R_feed
      rw [z_Rin0 (by ((try simp (disch := omega) only [Int32.lt_iff_toInt_lt, Int32.le_iff_toInt_le, ← Int32.toInt_inj, Int32.toInt_add, Int32.toInt_sub, Int32.toInt_mul, Int32.toInt_neg, z_bm, z_bm2, J_ti, J_toInt, z_cn, Int32.reduceToInt] at *); omega)), z_bind_some]
      exact z_pos rfl (k_sat_mk ⟨rfl, h⟩)
    exact z_ite (fun _ => k_sat_mk e) (fun h3 => z_neg (by ((try simp (disch := omega) only [Int32.lt_iff_toInt_lt, Int32.le_iff_toInt_le, ← Int32.toInt_inj, Int32.toInt_add, Int32.toInt_sub, Int32.toInt_mul, Int32.toInt_neg, z_bm, z_bm2, J_ti, J_toInt, z_cn, Int32.reduceToInt] at *); omega)) (k_sat_mk e))
theorem z_set (a b : Int32) (u : k_S) (h : zI u) : z_pair (f_W_set a b) (f_R_set a b) u zI := by
  obtain ⟨⟨k, hk1, hk2, e1, e2⟩, e3⟩ := h.2.2.2.1
  refine z_pair_of ?_
  have hJ : ∀ (u : k_S), zI u → u.1 4211 = u.1 705 → (∃ k : Nat, 1 ≤ k ∧ k ≤ 9 ∧ u.1 1205 = J k ∧ u.1 4210 = J k) → k_sat (f_W_set_J33 a b u) (fun r u1 => k_sat (f_R_set_J26 a b u1) (fun r' u2 => r = r' ∧ zI u2)) := by
    intro u h e3 hk
    unfold f_W_set_J33 f_R_set_J26
    refine z_ite (fun h1 => z_let (z_let (k_sat_mk (z_pos h1 (z_let (z_let (k_sat_mk ⟨?_, ?_⟩))))))) (fun h1 => k_sat_mk (z_neg h1 (k_sat_mk ⟨rfl, h⟩)))
    · simp [k_wF, e3]
    · obtain ⟨k, hk1, hk2, e1, e2⟩ := hk
      exact zI_S h ((z_wF rfl).tr (z_wF rfl)) ⟨⟨k, hk1, hk2, by simp [k_wF, e1], by simp [k_wF, e2]⟩, by simp [k_wF]⟩
  unfold f_W_set
  have e26 : ∀ {u1 : k_S}, ¬ (a = 0 ∧ 1 ≤ b.toInt ∧ b.toInt ≤ 9) → f_R_set a b u1 = f_R_set_J26 a b u1 := by
    intro u1 hn
    unfold f_R_set
    by_cases h1 : a = 0
    · rw [if_pos h1, z_Rin0 (by ((try simp (disch := omega) only [Int32.lt_iff_toInt_lt, Int32.le_iff_toInt_le, ← Int32.toInt_inj, Int32.toInt_add, Int32.toInt_sub, Int32.toInt_mul, Int32.toInt_neg, z_bm, z_bm2, J_ti, J_toInt, z_cn, Int32.reduceToInt] at *); omega)), z_bind_some, if_pos rfl]
    · rw [if_neg h1]
  by_cases h1 : a = 0
  · refine z_pos h1 ?_
    by_cases h2 : 1 ≤ b.toInt ∧ b.toInt ≤ 9
    · refine z_neg (by (try simp (disch := omega) only [Int32.lt_iff_toInt_lt, Int32.le_iff_toInt_le, ← Int32.toInt_inj, Int32.toInt_add, Int32.toInt_sub, Int32.toInt_mul, Int32.toInt_neg, z_bm, z_bm2, J_ti, J_toInt, z_cn, Int32.reduceToInt]) <;> omega) (z_neg (by (try simp (disch := omega) only [Int32.lt_iff_toInt_lt, Int32.le_iff_toInt_le, ← Int32.toInt_inj, Int32.toInt_add, Int32.toInt_sub, Int32.toInt_mul, Int32.toInt_neg, z_bm, z_bm2, J_ti, J_toInt, z_cn, Int32.reduceToInt]) <;> omega) (z_let (z_let (k_sat_mk ?_))))
      unfold f_R_set
      refine z_pos h1 ?_
      rw [z_Rin1 (by (try simp (disch := omega) only [Int32.lt_iff_toInt_lt, Int32.le_iff_toInt_le, ← Int32.toInt_inj, Int32.toInt_add, Int32.toInt_sub, Int32.toInt_mul, Int32.toInt_neg, z_bm, z_bm2, J_ti, J_toInt, z_cn, Int32.reduceToInt]) <;> omega) (by (try simp (disch := omega) only [Int32.lt_iff_toInt_lt, Int32.le_iff_toInt_le, ← Int32.toInt_inj, Int32.toInt_add, Int32.toInt_sub, Int32.toInt_mul, Int32.toInt_neg, z_bm, z_bm2, J_ti, J_toInt, z_cn, Int32.reduceToInt]) <;> omega), z_bind_some]
      refine z_neg (by decide) (z_let (z_let (k_sat_mk ⟨?_, ?_⟩)))
      · simp [k_wF, e1, e2]
      · obtain ⟨n, hn, hn2, -⟩ := J_of (x := b) (by omega)
        exact zI_S h ((z_wF rfl).tr (z_wF rfl)) ⟨⟨n, by omega, by omega, by simp [k_wF, hn], by simp [k_wF, hn]⟩, by simp [k_wF, e3]⟩
    · have := hJ u h e3 ⟨k, hk1, hk2, e1, e2⟩
      have := z_mono this (fun r u1 hh => by rw [← e26 (u1 := u1) (fun q => h2 q.2)] at hh; exact hh)
      exact z_ite (fun _ => this) (fun h3 => z_pos (by ((try simp (disch := omega) only [Int32.lt_iff_toInt_lt, Int32.le_iff_toInt_le, ← Int32.toInt_inj, Int32.toInt_add, Int32.toInt_sub, Int32.toInt_mul, Int32.toInt_neg, z_bm, z_bm2, J_ti, J_toInt, z_cn, Int32.reduceToInt] at *); omega)) this)
  · refine z_neg h1 ?_
    exact z_mono (hJ u h e3 ⟨k, hk1, hk2, e1, e2⟩) (fun r u1 hh => by rw [← e26 (u1 := u1) (fun q => h1 q.1)] at hh; exact hh)
theorem z_count (a : Int32) (u : k_S) (h : zI u) : z_pair (f_W_count a) (f_R_count a) u zI := by
  obtain ⟨n1, -, a1, a2, -⟩ := h.1
  obtain ⟨n2, -, b1, b2, -⟩ := h.2.1
  obtain ⟨⟨n3, -, c1, c2⟩, -⟩ := h.2.2.1
  obtain ⟨n4, -, d1, d2, -⟩ := h.2.2.2.2.2.1
  obtain ⟨n5, m5, -, -, f1, -, f2, -⟩ := h.2.2.2.2.2.2.2.1
  obtain ⟨⟨n6, -, g1, g2, -⟩, n7, -, k1, k2, -⟩ := h.2.2.2.2.2.2.2.2.1
  refine z_pair_of ?_
  unfold f_W_count f_R_count
  exact z_ite (fun e => k_sat_mk (z_pos e (k_sat_mk ⟨b1.trans b2.symm, h⟩))) (fun e => z_ite (fun f => k_sat_mk (z_neg e (z_pos f (k_sat_mk ⟨c1.trans c2.symm, h⟩)))) (fun f => z_ite (fun g => k_sat_mk (z_neg e (z_neg f (z_pos g (k_sat_mk ⟨d1.trans d2.symm, h⟩))))) (fun g => z_ite (fun i => k_sat_mk (z_neg e (z_neg f (z_neg g (z_pos i (k_sat_mk ⟨a1.trans a2.symm, h⟩)))))) (fun i => z_ite (fun j => k_sat_mk (z_neg e (z_neg f (z_neg g (z_neg i (z_pos j (k_sat_mk ⟨f1.trans f2.symm, h⟩))))))) (fun j => z_ite (fun k => k_sat_mk (z_neg e (z_neg f (z_neg g (z_neg i (z_neg j (z_pos k (k_sat_mk ⟨g1.trans g2.symm, h⟩)))))))) (fun k => z_ite (fun l => k_sat_mk (z_neg e (z_neg f (z_neg g (z_neg i (z_neg j (z_neg k (z_pos l (k_sat_mk ⟨k1.trans k2.symm, h⟩))))))))) (fun l => k_sat_mk (z_neg e (z_neg f (z_neg g (z_neg i (z_neg j (z_neg k (z_neg l (k_sat_mk ⟨rfl, h⟩)))))))))))))))
theorem z_clear (u : k_S) (h : zI u) : z_pair f_W_clear f_R_clear u zI := by
  obtain ⟨n, hn, e1, e2, -, -⟩ := h.2.2.2.2.2.1
  refine z_pair_of ?_
  unfold f_W_clear f_R_clear
  refine z_let (z_let (k_sat_mk (z_let (z_let (k_sat_mk ⟨?_, ?_⟩)))))
  · simp [k_wF, e1, e2]
  · exact zI_R h ((z_wF rfl).tr (z_wF rfl)) ⟨0, by omega, by simp [k_wF, J_0], by simp [k_wF, J_0], fun i h => by omega, fun i => i, fun i h => by omega, fun r h => by omega, fun i j _ h => by omega⟩
theorem z_body (a : Int32) (u : k_S) (h : zI u) : z_pair (f_W_body a) (f_R_body a) u zI := by
  obtain ⟨⟨n, hn, e1, e2, hk⟩, m, hm, f1, f2, hm2⟩ := h.2.2.2.2.2.2.2.2.1
  refine z_pair_of ?_
  unfold f_W_body
  by_cases h1 : 0 ≤ a.toInt ∧ a.toInt < 8
  · refine z_neg (by (try simp (disch := omega) only [Int32.lt_iff_toInt_lt, Int32.le_iff_toInt_le, ← Int32.toInt_inj, Int32.toInt_add, Int32.toInt_sub, Int32.toInt_mul, Int32.toInt_neg, z_bm, z_bm2, J_ti, J_toInt, z_cn, Int32.reduceToInt]) <;> omega) (z_pos (by (try simp (disch := omega) only [Int32.lt_iff_toInt_lt, Int32.le_iff_toInt_le, ← Int32.toInt_inj, Int32.toInt_add, Int32.toInt_sub, Int32.toInt_mul, Int32.toInt_neg, z_bm, z_bm2, J_ti, J_toInt, z_cn, Int32.reduceToInt]) <;> omega) ?_)
    by_cases h2 : n < 50
    · refine z_pos (by rw [e1]; (try simp (disch := omega) only [Int32.lt_iff_toInt_lt, Int32.le_iff_toInt_le, ← Int32.toInt_inj, Int32.toInt_add, Int32.toInt_sub, Int32.toInt_mul, Int32.toInt_neg, z_bm, z_bm2, J_ti, J_toInt, z_cn, Int32.reduceToInt]) <;> omega) ?_
      unfold f_Bodies_add
      rw [e1]
      refine z_bind (fun r v => r = J n ∧ v = k_wF (k_wA u 36 n a) 3502 (J (n + 1))) (z_neg (by (try simp (disch := omega) only [Int32.lt_iff_toInt_lt, Int32.le_iff_toInt_le, ← Int32.toInt_inj, Int32.toInt_add, Int32.toInt_sub, Int32.toInt_mul, Int32.toInt_neg, z_bm, z_bm2, J_ti, J_toInt, z_cn, Int32.reduceToInt]) <;> omega) (z_pos (by (try simp (disch := omega) only [Int32.lt_iff_toInt_lt, Int32.le_iff_toInt_le, ← Int32.toInt_inj, Int32.toInt_add, Int32.toInt_sub, Int32.toInt_mul, Int32.toInt_neg, z_bm, z_bm2, J_ti, J_toInt, z_cn, Int32.reduceToInt]) <;> omega) (z_ck (by (try simp (disch := omega) only [Int32.lt_iff_toInt_lt, Int32.le_iff_toInt_le, ← Int32.toInt_inj, Int32.toInt_add, Int32.toInt_sub, Int32.toInt_mul, Int32.toInt_neg, z_bm, z_bm2, J_ti, J_toInt, z_cn, Int32.reduceToInt]) <;> omega) (by (try simp (disch := omega) only [Int32.lt_iff_toInt_lt, Int32.le_iff_toInt_le, ← Int32.toInt_inj, Int32.toInt_add, Int32.toInt_sub, Int32.toInt_mul, Int32.toInt_neg, z_bm, z_bm2, J_ti, J_toInt, z_cn, Int32.reduceToInt]) <;> omega) (z_let (z_let (k_sat_mk ⟨?_, ?_⟩)))))) (fun r v hv => k_sat_mk ?_)
      · simp [k_wF, k_wA, e1, z_Jp, z_Jm]
      · simp only [k_wA, e1, z_Jp, J_toNat (show n < 2147483648 by omega)]
      · obtain ⟨rfl, rfl⟩ := hv
        unfold f_R_body
        have e3 : (k_wF (k_wA u 36 n a) 3502 (J (n + 1))).1 4245 = J n := e2
        rw [z_Rin1 (by (try simp (disch := omega) only [Int32.lt_iff_toInt_lt, Int32.le_iff_toInt_le, ← Int32.toInt_inj, Int32.toInt_add, Int32.toInt_sub, Int32.toInt_mul, Int32.toInt_neg, z_bm, z_bm2, J_ti, J_toInt, z_cn, Int32.reduceToInt]) <;> omega) (by (try simp (disch := omega) only [Int32.lt_iff_toInt_lt, Int32.le_iff_toInt_le, ← Int32.toInt_inj, Int32.toInt_add, Int32.toInt_sub, Int32.toInt_mul, Int32.toInt_neg, z_bm, z_bm2, J_ti, J_toInt, z_cn, Int32.reduceToInt]) <;> omega), z_bind_some, e3]
        refine z_neg (by decide) (z_neg (by ((try simp (disch := omega) only [Int32.lt_iff_toInt_lt, Int32.le_iff_toInt_le, ← Int32.toInt_inj, Int32.toInt_add, Int32.toInt_sub, Int32.toInt_mul, Int32.toInt_neg, z_bm, z_bm2, J_ti, J_toInt, z_cn, Int32.reduceToInt] at *); omega)) (z_ck (by (try simp (disch := omega) only [Int32.lt_iff_toInt_lt, Int32.le_iff_toInt_le, ← Int32.toInt_inj, Int32.toInt_add, Int32.toInt_sub, Int32.toInt_mul, Int32.toInt_neg, z_bm, z_bm2, J_ti, J_toInt, z_cn, Int32.reduceToInt]) <;> omega) (by (try simp (disch := omega) only [Int32.lt_iff_toInt_lt, Int32.le_iff_toInt_le, ← Int32.toInt_inj, Int32.toInt_add, Int32.toInt_sub, Int32.toInt_mul, Int32.toInt_neg, z_bm, z_bm2, J_ti, J_toInt, z_cn, Int32.reduceToInt]) <;> omega) (z_let (z_let (k_sat_mk ⟨?_, ?_⟩)))))
        · simp [k_wF, k_wA, e2, z_Jp, z_Jm]
        · refine zI_BH h ((((z_wA rfl).tr (z_wF rfl)).tr (z_wA rfl)).tr (z_wF rfl)) ⟨⟨n + 1, by omega, by simp [k_wF, k_wA], by simp [k_wF, k_wA, e2, z_Jp], fun i hi => ?_⟩, m, hm, by simp [k_wF, k_wA, f1], by simp [k_wF, k_wA, f2], fun i h1 h2 => by simp [k_wF, k_wA, hm2 i h1 h2]⟩ (fun s hs => ?_)
          · simp only [J_toNat (show n < 2147483648 by omega)]
            by_cases e : i = n
            · subst e
              obtain ⟨b, hb, hb2, -⟩ := J_of h1.1
              exact ⟨b, by omega, by simp [k_wF, k_wA, z_up, hb], by simp [k_wF, k_wA, z_up, hb]⟩
            · obtain ⟨b, hb1, hb2, hb3⟩ := hk i (by omega)
              exact ⟨b, hb1, by simp [k_wF, k_wA, z_up, e, hb2], by simp [k_wF, k_wA, z_up, e, hb3]⟩
          · rcases h.2.2.2.2.2.2.2.2.2.1 s hs with q | ⟨q1, b, q2, q3, q4⟩ | q
            · exact Or.inl (by simpa [k_wF, k_wA] using q)
            · refine Or.inr (Or.inl ⟨by simpa [k_wF, k_wA] using q1, b, ?_, by simpa [k_wF, k_wA] using q3, by simpa [k_wF, k_wA] using q4⟩)
              have : ((k_wF (k_wA (k_wF (k_wA u 36 n a) 3502 (J (n + 1))) 70 (J n).toNatClampNeg a) 4245 ((k_wA (k_wF (k_wA u 36 n a) 3502 (J (n + 1))) 70 (J n).toNatClampNeg a).1 4245 + 1)).1 3502) = J (n + 1) := by simp [k_wF, k_wA]
              rw [this, J_toInt (by omega)]
              rw [e1, J_toInt (by omega)] at q2
              omega
            · exact Or.inr (Or.inr (by simpa [k_wF, k_wA] using q))
    · have hn' : n = 50 := by omega
      subst hn'
      refine z_neg (by rw [e1]; decide) (k_sat_mk ?_)
      unfold f_R_body
      rw [z_Rin1 (by (try simp (disch := omega) only [Int32.lt_iff_toInt_lt, Int32.le_iff_toInt_le, ← Int32.toInt_inj, Int32.toInt_add, Int32.toInt_sub, Int32.toInt_mul, Int32.toInt_neg, z_bm, z_bm2, J_ti, J_toInt, z_cn, Int32.reduceToInt]) <;> omega) (by (try simp (disch := omega) only [Int32.lt_iff_toInt_lt, Int32.le_iff_toInt_le, ← Int32.toInt_inj, Int32.toInt_add, Int32.toInt_sub, Int32.toInt_mul, Int32.toInt_neg, z_bm, z_bm2, J_ti, J_toInt, z_cn, Int32.reduceToInt]) <;> omega), z_bind_some, e2]
      exact z_neg (by decide) (z_pos rfl (k_sat_mk ⟨rfl, h⟩))
  · have e : k_sat (f_R_body a u) (fun r' v => (-1 : Int32) = r' ∧ zI v) := by
      unfold f_R_body
      rw [z_Rin0 (by ((try simp (disch := omega) only [Int32.lt_iff_toInt_lt, Int32.le_iff_toInt_le, ← Int32.toInt_inj, Int32.toInt_add, Int32.toInt_sub, Int32.toInt_mul, Int32.toInt_neg, z_bm, z_bm2, J_ti, J_toInt, z_cn, Int32.reduceToInt] at *); omega)), z_bind_some]
      exact z_pos rfl (k_sat_mk ⟨rfl, h⟩)
    exact z_ite (fun _ => k_sat_mk e) (fun h3 => z_neg (by ((try simp (disch := omega) only [Int32.lt_iff_toInt_lt, Int32.le_iff_toInt_le, ← Int32.toInt_inj, Int32.toInt_add, Int32.toInt_sub, Int32.toInt_mul, Int32.toInt_neg, z_bm, z_bm2, J_ti, J_toInt, z_cn, Int32.reduceToInt] at *); omega)) (k_sat_mk e))
theorem z_trace (a : Int32) (u : k_S) (h : zI u) : z_pair (f_W_trace a) (f_R_trace a) u zI := by
  obtain ⟨-, m, hm, f1, f2, hm2⟩ := h.2.2.2.2.2.2.2.2.1
  refine z_pair_of ?_
  unfold f_W_trace
  refine z_ite (fun e => k_sat_mk ?_) (fun e => z_ite (fun f => k_sat_mk ?_) (fun f => z_ite (fun g => ?_) (fun g => k_sat_mk ?_)))
  · unfold f_R_trace
    exact z_pos e (k_sat_mk ⟨rfl, h⟩)
  · unfold f_R_trace
    exact z_neg e (z_pos (by rw [f2, ← f1]; exact f) (k_sat_mk ⟨rfl, h⟩))
  · obtain ⟨n, rfl, hn, -⟩ := J_of (x := a) (by ((try simp (disch := omega) only [Int32.lt_iff_toInt_lt, Int32.le_iff_toInt_le, ← Int32.toInt_inj, Int32.toInt_add, Int32.toInt_sub, Int32.toInt_mul, Int32.toInt_neg, z_bm, z_bm2, J_ti, J_toInt, z_cn, Int32.reduceToInt] at *); omega))
    have hn2 : n < 24 := by ((try simp (disch := omega) only [Int32.lt_iff_toInt_lt, Int32.le_iff_toInt_le, ← Int32.toInt_inj, Int32.toInt_add, Int32.toInt_sub, Int32.toInt_mul, Int32.toInt_neg, z_bm, z_bm2, J_ti, J_toInt, z_cn, Int32.reduceToInt] at *); omega)
    rw [f1] at f
    have hn3 : n < m := by ((try simp (disch := omega) only [Int32.lt_iff_toInt_lt, Int32.le_iff_toInt_le, ← Int32.toInt_inj, Int32.toInt_add, Int32.toInt_sub, Int32.toInt_mul, Int32.toInt_neg, z_bm, z_bm2, J_ti, J_toInt, z_cn, Int32.reduceToInt] at *); omega)
    rw [z_Bodies_tracedAt hn2, z_bind_some]
    refine k_sat_mk ?_
    unfold f_R_trace
    refine z_neg e (z_neg (by rw [f2]; exact f) (z_neg (by (try simp (disch := omega) only [Int32.lt_iff_toInt_lt, Int32.le_iff_toInt_le, ← Int32.toInt_inj, Int32.toInt_add, Int32.toInt_sub, Int32.toInt_mul, Int32.toInt_neg, z_bm, z_bm2, J_ti, J_toInt, z_cn, Int32.reduceToInt]) <;> omega) (z_ck (by (try simp (disch := omega) only [Int32.lt_iff_toInt_lt, Int32.le_iff_toInt_le, ← Int32.toInt_inj, Int32.toInt_add, Int32.toInt_sub, Int32.toInt_mul, Int32.toInt_neg, z_bm, z_bm2, J_ti, J_toInt, z_cn, Int32.reduceToInt]) <;> omega) (by (try simp (disch := omega) only [Int32.lt_iff_toInt_lt, Int32.le_iff_toInt_le, ← Int32.toInt_inj, Int32.toInt_add, Int32.toInt_sub, Int32.toInt_mul, Int32.toInt_neg, z_bm, z_bm2, J_ti, J_toInt, z_cn, Int32.reduceToInt]) <;> omega) (k_sat_mk ⟨?_, h⟩))))
    rw [J_toNat (by omega), hm2 n hn3 hn2]
  · unfold f_R_trace
    exact z_neg e (z_neg (by rw [f2, ← f1]; exact f) (z_pos (by ((try simp (disch := omega) only [Int32.lt_iff_toInt_lt, Int32.le_iff_toInt_le, ← Int32.toInt_inj, Int32.toInt_add, Int32.toInt_sub, Int32.toInt_mul, Int32.toInt_neg, z_bm, z_bm2, J_ti, J_toInt, z_cn, Int32.reduceToInt] at *); omega)) (k_sat_mk ⟨rfl, h⟩)))
