/-! wheel, the reference's; both -/
theorem z_countR {u : k_S} {n : Nat} {b : Nat → Nat} (e2 : u.1 4202 = J n) (hn : n ≤ 120) (hb : ∀ i, i < n → b i ≤ 255 ∧ u.2.1 43 i = (J (b i)).toInt8.toInt32) : k_sat (k_itr (fun (x : (Int32)) u => f_R_wheel_B13 x u) k_FU 0 u) (fun y v => v = u ∧ ∃ m, z_stop n b m ∧ y = J m) := by
  refine z_for 0 n (fun i v => v = u ∧ i ≤ 40 ∧ ∀ j, j < i → z_th (J (b j)) = 1) (by omega) (Nat.zero_le n) ⟨rfl, by omega, fun j hj => by omega⟩ (fun i v _ hi hp => ?_) (fun v hp => ?_)
  · obtain ⟨rfl, h40, hp⟩ := hp
    unfold f_R_wheel_B13
    rw [e2]
    refine z_neg (by (try simp (disch := omega) only [Int32.lt_iff_toInt_lt, Int32.le_iff_toInt_le, ← Int32.toInt_inj, Int32.toInt_add, Int32.toInt_sub, Int32.toInt_mul, Int32.toInt_neg, z_bm, z_bm2, J_ti, J_toInt, z_cn, Int32.reduceToInt]) <;> omega) (z_ite (fun q => k_sat_mk (Or.inr ⟨_, rfl, rfl, i, ⟨by omega, by omega, hp, Or.inr (Or.inl (by ((try simp (disch := omega) only [Int32.lt_iff_toInt_lt, Int32.le_iff_toInt_le, ← Int32.toInt_inj, Int32.toInt_add, Int32.toInt_sub, Int32.toInt_mul, Int32.toInt_neg, z_bm, z_bm2, J_ti, J_toInt, z_cn, Int32.reduceToInt] at *); omega)))⟩, rfl⟩)) (fun q => z_ck (by (try simp (disch := omega) only [Int32.lt_iff_toInt_lt, Int32.le_iff_toInt_le, ← Int32.toInt_inj, Int32.toInt_add, Int32.toInt_sub, Int32.toInt_mul, Int32.toInt_neg, z_bm, z_bm2, J_ti, J_toInt, z_cn, Int32.reduceToInt]) <;> omega) (by (try simp (disch := omega) only [Int32.lt_iff_toInt_lt, Int32.le_iff_toInt_le, ← Int32.toInt_inj, Int32.toInt_add, Int32.toInt_sub, Int32.toInt_mul, Int32.toInt_neg, z_bm, z_bm2, J_ti, J_toInt, z_cn, Int32.reduceToInt]) <;> omega) ?_))
    rw [J_toNat (show i < 2147483648 by omega), (hb i hi).2, z_thR, z_bind_some, ← (z_th_b (hb i hi).1).1]
    refine z_ite (fun q2 => k_sat_mk (Or.inr ⟨_, rfl, rfl, i, ⟨by omega, by omega, hp, Or.inr (Or.inr q2)⟩, rfl⟩)) (fun q2 => k_sat_mk (Or.inl ⟨rfl, rfl, by ((try simp (disch := omega) only [Int32.lt_iff_toInt_lt, Int32.le_iff_toInt_le, ← Int32.toInt_inj, Int32.toInt_add, Int32.toInt_sub, Int32.toInt_mul, Int32.toInt_neg, z_bm, z_bm2, J_ti, J_toInt, z_cn, Int32.reduceToInt] at *); omega), fun j hj => ?_⟩))
    by_cases e : j = i
    · subst e
      rcases (z_th_b (hb j hi).1).2 with q3 | q3
      · exact absurd q3 q2
      · exact q3.1
    · exact hp j (by omega)
  · obtain ⟨rfl, h40, hp⟩ := hp
    unfold f_R_wheel_B13
    rw [e2]
    exact z_pos (Int32.le_refl _) (k_sat_mk ⟨_, rfl, rfl, n, ⟨by omega, h40, hp, Or.inl rfl⟩, rfl⟩)
theorem z_layR {u : k_S} {n m w : Nat} {b : Nat → Nat} {s0 : Int32} (hw : w < 4) (e3 : u.1 4203 = J w) (hn : n ≤ 120) (hb : ∀ i, i < n → b i ≤ 255 ∧ u.2.1 43 i = (J (b i)).toInt8.toInt32) (hm : z_stop n b m) : k_sat (k_itr (fun (x : (Int32)) u => f_R_wheel_B66 (J m) s0 x u) k_FU 0 u) (fun _ v => z_fr [] [44] u v ∧ v.2.1 44 = z_ly (u.2.1 44) b w m) := by
  obtain ⟨m1, m2, m3, -⟩ := hm
  refine z_for 0 m (fun i v => z_fr [] [44] u v ∧ v.2.1 44 = z_ly (u.2.1 44) b w i) (by omega) (Nat.zero_le m) ⟨z_fr.rf, ?_⟩ (fun i v _ hi hp => ?_) (fun v hp => ?_)
  · funext j
    unfold z_ly
    rw [if_neg (by omega)]
  · obtain ⟨g1, g2⟩ := hp
    unfold f_R_wheel_B66
    have hbi := hb i (by omega)
    have hb8 : v.2.1 43 i = J (b i) := by
      rw [g1.2.1 43 rfl, hbi.2]
      rcases (z_th_b hbi.1).2 with q | q
      · have := m3 i hi
        rw [q] at this
        cases this
      · exact q.2
    rw [(g1.1 4203 rfl).trans e3, J_40, J_toNat (show 40 * w + i < 2147483648 by omega), J_toNat (show i < 2147483648 by omega), hb8]
    refine z_neg (by (try simp (disch := omega) only [Int32.lt_iff_toInt_lt, Int32.le_iff_toInt_le, ← Int32.toInt_inj, Int32.toInt_add, Int32.toInt_sub, Int32.toInt_mul, Int32.toInt_neg, z_bm, z_bm2, J_ti, J_toInt, z_cn, Int32.reduceToInt]) <;> omega) (z_ck (by (try simp (disch := omega) only [Int32.lt_iff_toInt_lt, Int32.le_iff_toInt_le, ← Int32.toInt_inj, Int32.toInt_add, Int32.toInt_sub, Int32.toInt_mul, Int32.toInt_neg, z_bm, z_bm2, J_ti, J_toInt, z_cn, Int32.reduceToInt]) <;> omega) (by (try simp (disch := omega) only [Int32.lt_iff_toInt_lt, Int32.le_iff_toInt_le, ← Int32.toInt_inj, Int32.toInt_add, Int32.toInt_sub, Int32.toInt_mul, Int32.toInt_neg, z_bm, z_bm2, J_ti, J_toInt, z_cn, Int32.reduceToInt]) <;> omega) (z_ck (by (try simp (disch := omega) only [Int32.lt_iff_toInt_lt, Int32.le_iff_toInt_le, ← Int32.toInt_inj, Int32.toInt_add, Int32.toInt_sub, Int32.toInt_mul, Int32.toInt_neg, z_bm, z_bm2, J_ti, J_toInt, z_cn, Int32.reduceToInt]) <;> omega) (by (try simp (disch := omega) only [Int32.lt_iff_toInt_lt, Int32.le_iff_toInt_le, ← Int32.toInt_inj, Int32.toInt_add, Int32.toInt_sub, Int32.toInt_mul, Int32.toInt_neg, z_bm, z_bm2, J_ti, J_toInt, z_cn, Int32.reduceToInt]) <;> omega) (z_let (k_sat_mk (Or.inl ⟨rfl, g1.tr (z_wA rfl), ?_⟩)))))
    simp only [k_wA, if_true]
    rw [g2, z_ly_s]
  · unfold f_R_wheel_B66
    exact z_pos (Int32.le_refl _) (k_sat_mk ⟨_, rfl, hp⟩)
/-- a tape emptied -/
theorem z_T0e {v : k_S} (h1 : v.1 101 = 0) (h2 : v.1 4202 = 0) : zT v := ⟨0, by omega, h1, h2, fun i hi => by omega⟩
theorem z_wheel (u : k_S) (h : zI u) : z_pair f_W_wheel f_R_wheel u zI := by
  obtain ⟨n, b, hT⟩ := z_tape h.1
  obtain ⟨hn, t1, t2, hb⟩ := id hT
  obtain ⟨w, hw, e1, e2, hN, hZ⟩ := h.2.1
  refine z_pair_of ?_
  unfold f_W_wheel
  rw [e1]
  by_cases h4 : w < 4
  · refine z_pos (by (try simp (disch := omega) only [Int32.lt_iff_toInt_lt, Int32.le_iff_toInt_le, ← Int32.toInt_inj, Int32.toInt_add, Int32.toInt_sub, Int32.toInt_mul, Int32.toInt_neg, z_bm, z_bm2, J_ti, J_toInt, z_cn, Int32.reduceToInt]) <;> omega) (z_bind _ (z_faultOf hT) (fun r v hv => ?_))
    obtain ⟨rfl, m, hm, ⟨q1, q2, rfl⟩ | ⟨q1, rfl⟩⟩ := hv
    · subst q1
      have m40 := hm.2.1
      refine z_pos rfl (z_bind _ (z_cutFrom hT h4 e1 m40) (fun r v1 hv1 => ?_))
      obtain ⟨rfl, g1, g2, g3, g4⟩ := hv1
      unfold f_W_wheel_J49
      refine z_let (k_sat_mk ?_)
      have k1 : z_fr [101, 303] [4, 5] v (k_wF v1 101 0) := (g1.mono rfl rfl).tr (z_wF rfl)
      have w303 : (k_wF v1 101 0).1 303 = J (w + 1) := by simp [k_wF, g2]
      have w101 : (k_wF v1 101 0).1 101 = 0 := by simp [k_wF]
      have w4 : (k_wF v1 101 0).2.1 4 = z_ly (v.2.1 4) b w m := g3
      have w5 : (k_wF v1 101 0).2.1 5 = upd (v.2.1 5) w (J m) := g4
      generalize k_wF v1 101 0 = x at *
      have hb' : ∀ i, i < m → b i ≤ 255 ∧ x.2.1 43 i = (J (b i)).toInt8.toInt32 := fun i hi => ⟨(hb i hi).1, by rw [k1.2.1 43 rfl]; exact (hb i hi).2.2⟩
      unfold f_R_wheel
      rw [k1.1 4203 rfl, e2]
      refine z_neg (by (try simp (disch := omega) only [Int32.lt_iff_toInt_lt, Int32.le_iff_toInt_le, ← Int32.toInt_inj, Int32.toInt_add, Int32.toInt_sub, Int32.toInt_mul, Int32.toInt_neg, z_bm, z_bm2, J_ti, J_toInt, z_cn, Int32.reduceToInt]) <;> omega) (z_bind _ (z_countR ((k1.1 4202 rfl).trans t2) hn hb') (fun y x1 hx1 => ?_))
      obtain ⟨rfl, m', hm', rfl⟩ := hx1
      have em := z_stop_u hm' hm
      subst em
      unfold f_R_wheel_J45
      rw [(k1.1 4202 rfl).trans t2]
      refine z_pos rfl (z_neg (by (try simp (disch := omega) only [Int32.lt_iff_toInt_lt, Int32.le_iff_toInt_le, ← Int32.toInt_inj, Int32.toInt_add, Int32.toInt_sub, Int32.toInt_mul, Int32.toInt_neg, z_bm, z_bm2, J_ti, J_toInt, z_cn, Int32.reduceToInt]) <;> omega) ?_)
      unfold f_R_wheel_J63
      have x4203 : x1.1 4203 = J w := (k1.1 4203 rfl).trans e2
      refine z_bind _ (z_layR (u := x1) h4 x4203 hn hb' hm) (fun _ x2 hx2 => ?_)
      obtain ⟨p1, p2⟩ := hx2
      have y4203 : x2.1 4203 = J w := (p1.1 4203 rfl).trans x4203
      simp only [k_let]
      have y1 : (k_wF x2 4202 0).1 4203 = J w := y4203
      have y2 : (k_wA (k_wF x2 4202 0) 45 w (J m')).1 4203 = J w := y4203
      have y3 : (k_wA (k_wA (k_wF x2 4202 0) 45 w (J m')) 46 w 0).1 4203 = J w := y4203
      have y4 : (k_wA (k_wA (k_wA (k_wF x2 4202 0) 45 w (J m')) 46 w 0) 47 w 0).1 4203 = J w := y4203
      have y5 : (k_wA (k_wA (k_wA (k_wA (k_wF x2 4202 0) 45 w (J m')) 46 w 0) 47 w 0) 48 w 0).1 4203 = J w := y4203
      rw [y1, J_toNat (show w < 2147483648 by omega), y2, J_toNat (show w < 2147483648 by omega), y3, J_toNat (show w < 2147483648 by omega), y4, J_toNat (show w < 2147483648 by omega), y5]
      refine z_neg (by decide) (z_ck (by (try simp (disch := omega) only [Int32.lt_iff_toInt_lt, Int32.le_iff_toInt_le, ← Int32.toInt_inj, Int32.toInt_add, Int32.toInt_sub, Int32.toInt_mul, Int32.toInt_neg, z_bm, z_bm2, J_ti, J_toInt, z_cn, Int32.reduceToInt]) <;> omega) (by (try simp (disch := omega) only [Int32.lt_iff_toInt_lt, Int32.le_iff_toInt_le, ← Int32.toInt_inj, Int32.toInt_add, Int32.toInt_sub, Int32.toInt_mul, Int32.toInt_neg, z_bm, z_bm2, J_ti, J_toInt, z_cn, Int32.reduceToInt]) <;> omega) (z_ck (by (try simp (disch := omega) only [Int32.lt_iff_toInt_lt, Int32.le_iff_toInt_le, ← Int32.toInt_inj, Int32.toInt_add, Int32.toInt_sub, Int32.toInt_mul, Int32.toInt_neg, z_bm, z_bm2, J_ti, J_toInt, z_cn, Int32.reduceToInt]) <;> omega) (by (try simp (disch := omega) only [Int32.lt_iff_toInt_lt, Int32.le_iff_toInt_le, ← Int32.toInt_inj, Int32.toInt_add, Int32.toInt_sub, Int32.toInt_mul, Int32.toInt_neg, z_bm, z_bm2, J_ti, J_toInt, z_cn, Int32.reduceToInt]) <;> omega) (z_ck (by (try simp (disch := omega) only [Int32.lt_iff_toInt_lt, Int32.le_iff_toInt_le, ← Int32.toInt_inj, Int32.toInt_add, Int32.toInt_sub, Int32.toInt_mul, Int32.toInt_neg, z_bm, z_bm2, J_ti, J_toInt, z_cn, Int32.reduceToInt]) <;> omega) (by (try simp (disch := omega) only [Int32.lt_iff_toInt_lt, Int32.le_iff_toInt_le, ← Int32.toInt_inj, Int32.toInt_add, Int32.toInt_sub, Int32.toInt_mul, Int32.toInt_neg, z_bm, z_bm2, J_ti, J_toInt, z_cn, Int32.reduceToInt]) <;> omega) (z_ck (by (try simp (disch := omega) only [Int32.lt_iff_toInt_lt, Int32.le_iff_toInt_le, ← Int32.toInt_inj, Int32.toInt_add, Int32.toInt_sub, Int32.toInt_mul, Int32.toInt_neg, z_bm, z_bm2, J_ti, J_toInt, z_cn, Int32.reduceToInt]) <;> omega) (by (try simp (disch := omega) only [Int32.lt_iff_toInt_lt, Int32.le_iff_toInt_le, ← Int32.toInt_inj, Int32.toInt_add, Int32.toInt_sub, Int32.toInt_mul, Int32.toInt_neg, z_bm, z_bm2, J_ti, J_toInt, z_cn, Int32.reduceToInt]) <;> omega) ?_))))
      have k2 : z_fr [101, 303, 4202, 4203] [4, 5, 44, 45, 46, 47, 48] v (k_wF (k_wA (k_wA (k_wA (k_wA (k_wF x2 4202 0) 45 w (J m')) 46 w 0) 47 w 0) 48 w 0) 4203 (J w + 1)) := (((((((k1.mono rfl rfl).tr (p1.mono rfl rfl)).tr (z_wF rfl)).tr (z_wA rfl)).tr (z_wA rfl)).tr (z_wA rfl)).tr (z_wA rfl)).tr (z_wF rfl)
      have f303 : (k_wF (k_wA (k_wA (k_wA (k_wA (k_wF x2 4202 0) 45 w (J m')) 46 w 0) 47 w 0) 48 w 0) 4203 (J w + 1)).1 303 = J (w + 1) := (p1.1 303 rfl).trans w303
      have f101 : (k_wF (k_wA (k_wA (k_wA (k_wA (k_wF x2 4202 0) 45 w (J m')) 46 w 0) 47 w 0) 48 w 0) 4203 (J w + 1)).1 101 = 0 := (p1.1 101 rfl).trans w101
      have f4202 : (k_wF (k_wA (k_wA (k_wA (k_wA (k_wF x2 4202 0) 45 w (J m')) 46 w 0) 47 w 0) 48 w 0) 4203 (J w + 1)).1 4202 = 0 := rfl
      have f4203 : (k_wF (k_wA (k_wA (k_wA (k_wA (k_wF x2 4202 0) 45 w (J m')) 46 w 0) 47 w 0) 48 w 0) 4203 (J w + 1)).1 4203 = J (w + 1) := by simp [k_wF, z_Jp]
      have f4 : (k_wF (k_wA (k_wA (k_wA (k_wA (k_wF x2 4202 0) 45 w (J m')) 46 w 0) 47 w 0) 48 w 0) 4203 (J w + 1)).2.1 4 = z_ly (v.2.1 4) b w m' := (p1.2.1 4 rfl).trans w4
      have f5 : (k_wF (k_wA (k_wA (k_wA (k_wA (k_wF x2 4202 0) 45 w (J m')) 46 w 0) 47 w 0) 48 w 0) 4203 (J w + 1)).2.1 5 = upd (v.2.1 5) w (J m') := (p1.2.1 5 rfl).trans w5
      have f44 : (k_wF (k_wA (k_wA (k_wA (k_wA (k_wF x2 4202 0) 45 w (J m')) 46 w 0) 47 w 0) 48 w 0) 4203 (J w + 1)).2.1 44 = z_ly (v.2.1 44) b w m' := by
        rw [← k1.2.1 44 rfl]
        exact p2
      have f45 : (k_wF (k_wA (k_wA (k_wA (k_wA (k_wF x2 4202 0) 45 w (J m')) 46 w 0) 47 w 0) 48 w 0) 4203 (J w + 1)).2.1 45 = upd (v.2.1 45) w (J m') := by
        rw [← k1.2.1 45 rfl, ← p1.2.1 45 rfl]
        simp [k_wF, k_wA]
      have f46 : (k_wF (k_wA (k_wA (k_wA (k_wA (k_wF x2 4202 0) 45 w (J m')) 46 w 0) 47 w 0) 48 w 0) 4203 (J w + 1)).2.1 46 = upd (v.2.1 46) w 0 := by
        rw [← k1.2.1 46 rfl, ← p1.2.1 46 rfl]
        simp [k_wF, k_wA]
      have f47 : (k_wF (k_wA (k_wA (k_wA (k_wA (k_wF x2 4202 0) 45 w (J m')) 46 w 0) 47 w 0) 48 w 0) 4203 (J w + 1)).2.1 47 = upd (v.2.1 47) w 0 := by
        rw [← k1.2.1 47 rfl, ← p1.2.1 47 rfl]
        simp [k_wF, k_wA]
      have f48 : (k_wF (k_wA (k_wA (k_wA (k_wA (k_wF x2 4202 0) 45 w (J m')) 46 w 0) 47 w 0) 48 w 0) 4203 (J w + 1)).2.1 48 = upd (v.2.1 48) w 0 := by
        rw [← k1.2.1 48 rfl, ← p1.2.1 48 rfl]
        simp [k_wF, k_wA]
      generalize k_wF (k_wA (k_wA (k_wA (k_wA (k_wF x2 4202 0) 45 w (J m')) 46 w 0) 47 w 0) 48 w 0) 4203 (J w + 1) = z at *
      rw [f4203, z_Jm]
      refine k_sat_mk ⟨rfl, ?_⟩
      refine zI_NMPCT h (k2.mono rfl rfl) ⟨w + 1, by omega, f303, f4203, fun w' hw' => ?_, fun w' a c => by rw [k2.2.1 6 rfl]; exact hZ w' (by omega) c⟩ ?_ ?_ ?_ (z_T0e f101 f4202)
      · by_cases e : w' = w
        · subst e
          refine ⟨m', q2, m40, by rw [f5, z_up, if_pos rfl], by rw [f45, z_up, if_pos rfl], by rw [f48, z_up, if_pos rfl, k2.2.1 6 rfl, hZ w' (by omega) h4], fun p hp => ?_⟩
          rw [f4, f44]
          unfold z_ly
          rw [if_pos (by omega), if_pos (by omega)]
        · obtain ⟨s, a1, a2, a3, a4, a5, a6⟩ := hN w' (by omega)
          refine ⟨s, a1, a2, by rw [f5, z_up, if_neg e]; exact a3, by rw [f45, z_up, if_neg e]; exact a4, by rw [f48, z_up, if_neg e, k2.2.1 6 rfl]; exact a5, fun p hp => ?_⟩
          rw [f4, f44]
          unfold z_ly
          rw [if_neg (by omega), if_neg (by omega)]
          exact a6 p hp
      · obtain ⟨⟨t, ht, q5, q6⟩, hm1, hm2⟩ := h.2.2.1
        refine ⟨⟨t, ht, (k2.1 1402 rfl).trans q5, (k2.1 4209 rfl).trans q6⟩, fun w' hw' => ?_, fun w' hw1 hw2 => ?_⟩
        · rw [f303, J_toInt (by omega)] at hw'
          rw [f5, f46, f47, k2.2.1 15 rfl, k2.2.1 16 rfl, z_up, z_up, z_up]
          by_cases e : w' = w
          · subst e
            rw [if_pos rfl, if_pos rfl, if_pos rfl]
            obtain ⟨b1, b2⟩ := hm2 w' (by rw [e1, J_toInt (by omega)]; omega) h4
            exact ⟨⟨0, by rw [J_toInt (by omega)]; omega, b1, rfl⟩, b2.symm⟩
          · rw [if_neg e, if_neg e, if_neg e]
            exact hm1 w' (by rw [e1, J_toInt (by omega)]; omega)
        · rw [f303, J_toInt (by omega)] at hw1
          rw [k2.2.1 15 rfl, k2.2.1 16 rfl]
          exact hm2 w' (by rw [e1, J_toInt (by omega)]; omega) hw2
      · rcases h.2.2.2.2.2.2.1 with ⟨c1, c2⟩ | ⟨c1, k, t, c2, c3, c4, c5, c6, c7, c8⟩
        · exact Or.inl ⟨(k2.1 10 rfl).trans c1, (k2.1 4240 rfl).trans c2⟩
        · rw [e1, J_toInt (by omega)] at c2
          refine Or.inr ⟨(k2.1 4240 rfl).trans c1, k, t, by rw [f303, J_toInt (by omega)]; omega, c3, (k2.1 10 rfl).trans c4, (k2.1 4241 rfl).trans c5, (k2.1 2702 rfl).trans c6, (k2.1 4242 rfl).trans c7, fun w' hw' => ?_⟩
          rw [f5, z_up, if_neg (by omega), k2.2.1 28 rfl, k2.2.1 68 rfl, k2.2.1 29 rfl, k2.2.1 69 rfl]
          exact c8 w' hw'
      · obtain ⟨d, k, c1, c2, c3, c4, c5, c6, c7⟩ := h.2.2.2.2.2.2.2.1
        refine ⟨d, k, c1, c2, (k2.1 3004 rfl).trans c3, (k2.1 3005 rfl).trans c4, (k2.1 4224 rfl).trans c5, (k2.1 4225 rfl).trans c6, fun i hi => ?_⟩
        obtain ⟨d1, d2, w', d3, d4, d5⟩ := c7 i hi
        rw [e1, J_toInt (by omega)] at d3
        refine ⟨by rw [k2.2.1 58 rfl, k2.2.1 33 rfl]; exact d1, by rw [k2.2.1 59 rfl, k2.2.1 34 rfl]; exact d2, w', by rw [f303, J_toInt (by omega)]; omega, by rw [k2.2.1 31 rfl]; exact d4, ?_⟩
        rw [f5, z_up, if_neg (by omega), k2.2.1 32 rfl, k2.2.1 56 rfl, k2.2.1 57 rfl]
        exact d5
    · refine z_neg (by intro q; have := congrArg Int32.toInt q; rw [J_toInt (by have := hm.1; omega)] at this; simp at this) ?_
      unfold f_W_wheel_J49
      refine z_let (k_sat_mk ?_)
      have k1 : z_fr [101] [] v (k_wF v 101 0) := z_wF rfl
      have w101 : (k_wF v 101 0).1 101 = 0 := by simp [k_wF]
      generalize k_wF v 101 0 = x at *
      have hb' : ∀ i, i < n → b i ≤ 255 ∧ x.2.1 43 i = (J (b i)).toInt8.toInt32 := fun i hi => ⟨(hb i hi).1, by rw [k1.2.1 43 rfl]; exact (hb i hi).2.2⟩
      unfold f_R_wheel
      rw [k1.1 4203 rfl, e2]
      refine z_neg (by (try simp (disch := omega) only [Int32.lt_iff_toInt_lt, Int32.le_iff_toInt_le, ← Int32.toInt_inj, Int32.toInt_add, Int32.toInt_sub, Int32.toInt_mul, Int32.toInt_neg, z_bm, z_bm2, J_ti, J_toInt, z_cn, Int32.reduceToInt]) <;> omega) (z_bind _ (z_countR ((k1.1 4202 rfl).trans t2) hn hb') (fun y x1 hx1 => ?_))
      obtain ⟨rfl, m', hm', rfl⟩ := hx1
      have em := z_stop_u hm' hm
      subst em
      have x4203 : x1.1 4203 = J w := (k1.1 4203 rfl).trans e2
      have fin : k_sat (f_R_wheel_J62 (J m') x1) (fun r' v' => -100 - J m' = r' ∧ zI v') := by
        unfold f_R_wheel_J62 f_R_wheel_J63
        refine z_bind _ (z_layR (u := x1) h4 x4203 hn hb' hm) (fun _ x2 hx2 => z_let (z_pos rfl (k_sat_mk ⟨rfl, ?_⟩)))
        obtain ⟨p1, p2⟩ := hx2
        have k2 : z_fr [101, 4202] [44] v (k_wF x2 4202 0) := ((k1.mono rfl rfl).tr (p1.mono rfl rfl)).tr (z_wF rfl)
        refine zI_NMPCT h (k2.mono rfl rfl) ⟨w, hw, (k2.1 303 rfl).trans e1, (k2.1 4203 rfl).trans e2, fun w' hw' => ?_, fun w' a c => by rw [k2.2.1 6 rfl]; exact hZ w' a c⟩ ?_ (zP_f k2 (by decide) h.2.2.2.2.2.2.1) (zC_f k2 (by decide) h.2.2.2.2.2.2.2.1) (z_T0e ?_ ?_)
        · obtain ⟨s, a1, a2, a3, a4, a5, a6⟩ := hN w' hw'
          refine ⟨s, a1, a2, by rw [k2.2.1 5 rfl]; exact a3, by rw [k2.2.1 45 rfl]; exact a4, by rw [k2.2.1 48 rfl, k2.2.1 6 rfl]; exact a5, fun p hp => ?_⟩
          rw [k2.2.1 4 rfl, ← a6 p hp]
          show x2.2.1 44 _ = _
          rw [p2]
          unfold z_ly
          rw [if_neg (by omega), k1.2.1 44 rfl]
        · exact zM_f k2 (by decide) h.2.2.1
        · rw [← w101]; exact (show (k_wF x2 4202 0).1 101 = x2.1 101 from by simp [k_wF]).trans (p1.1 101 rfl)
        · simp [k_wF]
      unfold f_R_wheel_J45
      rw [(k1.1 4202 rfl).trans t2]
      refine z_ite (fun q => z_ite (fun q2 => fin) (fun q2 => absurd ⟨?_, ?_⟩ q1)) (fun q => fin)
      · have := hm.1
        rw [J_inj (by omega) (by omega)] at q
        exact q
      · have h1 := hm.1
        rw [J_inj (by omega) (by omega)] at q
        have : ¬ m' < 2 := fun c => q2 (by (try simp (disch := omega) only [Int32.lt_iff_toInt_lt, Int32.le_iff_toInt_le, ← Int32.toInt_inj, Int32.toInt_add, Int32.toInt_sub, Int32.toInt_mul, Int32.toInt_neg, z_bm, z_bm2, J_ti, J_toInt, z_cn, Int32.reduceToInt]) <;> omega)
        omega
  · have : w = 4 := by omega
    subst this
    refine z_neg (by decide) (k_sat_mk ?_)
    unfold f_R_wheel
    rw [e2]
    exact z_pos rfl (k_sat_mk ⟨rfl, h⟩)
