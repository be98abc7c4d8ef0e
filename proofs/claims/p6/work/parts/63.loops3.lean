/-! round, truth -/
theorem z_W303 {E : z_E} {K i : Nat} {u v : k_S} (hE : z_en E u) (h : z_Wt E K u i v) : v.1 303 = J E.1 := (h.1.1 303 rfl).trans hE.1.2.1
/-- all is as now, in the i-th night -/
def z_rd (E : z_E) (u : k_S) (i : Nat) : Bool := (List.range E.1).all (fun w => decide (z_pl E u w i = u.2.1 46 w ∧ (z_or E 4 i (z_moR u)).2.2 w = u.2.1 47 w))
theorem z_rd_t {E : z_E} {u : k_S} {i : Nat} : z_rd E u i = true ↔ ∀ w, w < E.1 → z_pl E u w i = u.2.1 46 w ∧ (z_or E 4 i (z_moR u)).2.2 w = u.2.1 47 w := by
  unfold z_rd
  rw [List.all_eq_true]
  constructor
  · intro h w hw
    have := h w (List.mem_range.mpr hw)
    simpa using this
  · intro h w hw
    have := h w (List.mem_range.mp hw)
    simpa using this
theorem z_standsAs {E : z_E} {u v : k_S} {i : Nat} (hE : z_en E u) (h : z_Wt E E.1 u i v) : k_sat (f_Thought_standsAs_Now (J E.1) v) (fun r v' => v' = v ∧ r = if z_rd E u i = true then 1 else 0) := by
  have hE4 := hE.1.1
  unfold f_Thought_standsAs_Now
  refine z_bind _ (z_for 0 E.1 (fun w v' => v' = v ∧ ∀ j, j < w → z_pl E u j i = u.2.1 46 j ∧ (z_or E 4 i (z_moR u)).2.2 j = u.2.1 47 j) (K := fun y v' => v' = v ∧ ((y = .inl 0 ∧ ¬ z_rd E u i = true) ∨ (y = .inr () ∧ z_rd E u i = true))) (by omega) (Nat.zero_le _) ⟨rfl, fun j hj => by omega⟩ (fun w v' _ hw hp => ?_) (fun v' hp => ?_)) (fun y v' hv => ?_)
  · obtain ⟨rfl, hp⟩ := hp
    unfold f_Thought_standsAs_Now_B2
    refine z_neg (by (try simp (disch := omega) only [Int32.lt_iff_toInt_lt, Int32.le_iff_toInt_le, ← Int32.toInt_inj, Int32.toInt_add, Int32.toInt_sub, Int32.toInt_mul, Int32.toInt_neg, z_bm, z_bm2, J_ti, J_toInt, z_cn, Int32.reduceToInt]) <;> omega) (z_neg (by (try simp (disch := omega) only [Int32.lt_iff_toInt_lt, Int32.le_iff_toInt_le, ← Int32.toInt_inj, Int32.toInt_add, Int32.toInt_sub, Int32.toInt_mul, Int32.toInt_neg, z_bm, z_bm2, J_ti, J_toInt, z_cn, Int32.reduceToInt]) <;> omega) ?_)
    rw [z_Wt_p h hw (by omega), z_bind_some, z_Now_placeOf (by omega), z_bind_some]
    have e15 : v'.2.1 15 w = u.2.1 46 w := by rw [h.1.2.1 15 rfl]; exact (hE.2.2.2.2.2 w hw).1
    have e16 : v'.2.1 16 w = u.2.1 47 w := by rw [h.1.2.1 16 rfl]; exact (hE.2.2.2.2.2 w hw).2
    have e19 : v'.2.1 19 w = (z_or E 4 i (z_moR u)).2.2 w := (h.2.2.2 w hw).2
    rw [e15]
    refine z_ite (fun q => ?_) (fun q => k_sat_mk (Or.inr ⟨_, rfl, rfl, Or.inl ⟨rfl, fun q2 => q (z_rd_t.mp q2 w hw).1⟩⟩))
    rw [z_Thought_waitsOf (by omega), z_bind_some, z_Now_waitsOf (by omega), z_bind_some, e16, e19]
    refine z_ite (fun q' => k_sat_mk (Or.inl ⟨rfl, rfl, fun j hj => ?_⟩)) (fun q' => k_sat_mk (Or.inr ⟨_, rfl, rfl, Or.inl ⟨rfl, fun q2 => q' (z_rd_t.mp q2 w hw).2⟩⟩))
    by_cases e : j = w
    · rw [e]; exact ⟨q, q'⟩
    · exact hp j (by omega)
  · obtain ⟨rfl, hp⟩ := hp
    unfold f_Thought_standsAs_Now_B2
    exact z_pos (Int32.le_refl _) (k_sat_mk ⟨_, rfl, rfl, Or.inr ⟨rfl, z_rd_t.mpr hp⟩⟩)
  · obtain ⟨rfl, ⟨rfl, q⟩ | ⟨rfl, q⟩⟩ := hv
    · exact k_sat_mk ⟨rfl, by rw [if_neg q]⟩
    · exact k_sat_mk ⟨rfl, by rw [if_pos q]⟩
theorem z_isAsWas {E : z_E} {u v : k_S} {i : Nat} (hE : z_en E u) (h : z_Rt E u i v) : k_sat (f_R_isAsWas v) (fun r v' => v' = v ∧ r = if z_rd E u i = true then 1 else 0) := by
  have hE4 := hE.1.1
  have e2 : v.1 4203 = J E.1 := (h.1.1 4203 rfl).trans hE.2.1.2.1
  unfold f_R_isAsWas
  refine z_bind _ (z_for 0 E.1 (fun w v' => v' = v ∧ ∀ j, j < w → z_pl E u j i = u.2.1 46 j ∧ (z_or E 4 i (z_moR u)).2.2 j = u.2.1 47 j) (K := fun y v' => v' = v ∧ ((y = .inl 0 ∧ ¬ z_rd E u i = true) ∨ (y = .inr () ∧ z_rd E u i = true))) (by omega) (Nat.zero_le _) ⟨rfl, fun j hj => by omega⟩ (fun w v' _ hw hp => ?_) (fun v' hp => ?_)) (fun y v' hv => ?_)
  · obtain ⟨rfl, hp⟩ := hp
    unfold f_R_isAsWas_B2
    rw [e2]
    refine z_neg (by (try simp (disch := omega) only [Int32.lt_iff_toInt_lt, Int32.le_iff_toInt_le, ← Int32.toInt_inj, Int32.toInt_add, Int32.toInt_sub, Int32.toInt_mul, Int32.toInt_neg, z_bm, z_bm2, J_ti, J_toInt, z_cn, Int32.reduceToInt]) <;> omega) (z_ck (by (try simp (disch := omega) only [Int32.lt_iff_toInt_lt, Int32.le_iff_toInt_le, ← Int32.toInt_inj, Int32.toInt_add, Int32.toInt_sub, Int32.toInt_mul, Int32.toInt_neg, z_bm, z_bm2, J_ti, J_toInt, z_cn, Int32.reduceToInt]) <;> omega) (by (try simp (disch := omega) only [Int32.lt_iff_toInt_lt, Int32.le_iff_toInt_le, ← Int32.toInt_inj, Int32.toInt_add, Int32.toInt_sub, Int32.toInt_mul, Int32.toInt_neg, z_bm, z_bm2, J_ti, J_toInt, z_cn, Int32.reduceToInt]) <;> omega) (z_ck (by (try simp (disch := omega) only [Int32.lt_iff_toInt_lt, Int32.le_iff_toInt_le, ← Int32.toInt_inj, Int32.toInt_add, Int32.toInt_sub, Int32.toInt_mul, Int32.toInt_neg, z_bm, z_bm2, J_ti, J_toInt, z_cn, Int32.reduceToInt]) <;> omega) (by (try simp (disch := omega) only [Int32.lt_iff_toInt_lt, Int32.le_iff_toInt_le, ← Int32.toInt_inj, Int32.toInt_add, Int32.toInt_sub, Int32.toInt_mul, Int32.toInt_neg, z_bm, z_bm2, J_ti, J_toInt, z_cn, Int32.reduceToInt]) <;> omega) ?_))
    rw [J_toNat (show w < 2147483648 by omega), (z_Rt_p h w).1, (z_Rt_p h w).2, (h.2.2.2 w (by omega)).1, (h.2.2.2 w (by omega)).2]
    refine z_ite (fun q => z_ck (by (try simp (disch := omega) only [Int32.lt_iff_toInt_lt, Int32.le_iff_toInt_le, ← Int32.toInt_inj, Int32.toInt_add, Int32.toInt_sub, Int32.toInt_mul, Int32.toInt_neg, z_bm, z_bm2, J_ti, J_toInt, z_cn, Int32.reduceToInt]) <;> omega) (by (try simp (disch := omega) only [Int32.lt_iff_toInt_lt, Int32.le_iff_toInt_le, ← Int32.toInt_inj, Int32.toInt_add, Int32.toInt_sub, Int32.toInt_mul, Int32.toInt_neg, z_bm, z_bm2, J_ti, J_toInt, z_cn, Int32.reduceToInt]) <;> omega) (z_ck (by (try simp (disch := omega) only [Int32.lt_iff_toInt_lt, Int32.le_iff_toInt_le, ← Int32.toInt_inj, Int32.toInt_add, Int32.toInt_sub, Int32.toInt_mul, Int32.toInt_neg, z_bm, z_bm2, J_ti, J_toInt, z_cn, Int32.reduceToInt]) <;> omega) (by (try simp (disch := omega) only [Int32.lt_iff_toInt_lt, Int32.le_iff_toInt_le, ← Int32.toInt_inj, Int32.toInt_add, Int32.toInt_sub, Int32.toInt_mul, Int32.toInt_neg, z_bm, z_bm2, J_ti, J_toInt, z_cn, Int32.reduceToInt]) <;> omega) ?_)) (fun q => k_sat_mk (Or.inr ⟨_, rfl, rfl, Or.inl ⟨rfl, fun q2 => q (z_rd_t.mp q2 w hw).1⟩⟩))
    refine z_ite (fun q' => k_sat_mk (Or.inl ⟨rfl, rfl, fun j hj => ?_⟩)) (fun q' => k_sat_mk (Or.inr ⟨_, rfl, rfl, Or.inl ⟨rfl, fun q2 => q' (z_rd_t.mp q2 w hw).2⟩⟩))
    by_cases e : j = w
    · rw [e]; exact ⟨q, q'⟩
    · exact hp j (by omega)
  · obtain ⟨rfl, hp⟩ := hp
    unfold f_R_isAsWas_B2
    exact z_pos (by rw [e2]; exact Int32.le_refl _) (k_sat_mk ⟨_, rfl, rfl, Or.inr ⟨rfl, z_rd_t.mpr hp⟩⟩)
  · obtain ⟨rfl, ⟨rfl, q⟩ | ⟨rfl, q⟩⟩ := hv
    · exact k_sat_mk ⟨rfl, by rw [if_neg q]⟩
    · exact k_sat_mk ⟨rfl, by rw [if_pos q]⟩
theorem z_rd_m {E : z_E} {u v : k_S} (h : z_moR v = z_moR u) (i : Nat) : z_rd E v i = z_rd E u i := by
  have h46 : v.2.1 46 = u.2.1 46 := congrArg (fun m : z_Mo => m.2.1) h
  have h47 : v.2.1 47 = u.2.1 47 := congrArg (fun m : z_Mo => m.2.2) h
  unfold z_rd
  rw [h, h46, h47]
  simp only [z_pl_m h]
theorem z_round (a : Int32) (u : k_S) (h : zI u) : z_pair (f_W_round a) (f_R_round a) u zI := by
  obtain ⟨E, hE, -, -, -⟩ := z_env h
  have hE4 := hE.1.1
  refine z_pair_of ?_
  unfold f_W_round
  by_cases hr : 1 ≤ a.toInt ∧ a.toInt ≤ 20000
  · obtain ⟨n, rfl, hn, -⟩ := J_of (x := a) (by omega)
    refine z_neg (by (try simp (disch := omega) only [Int32.lt_iff_toInt_lt, Int32.le_iff_toInt_le, ← Int32.toInt_inj, Int32.toInt_add, Int32.toInt_sub, Int32.toInt_mul, Int32.toInt_neg, z_bm, z_bm2, J_ti, J_toInt, z_cn, Int32.reduceToInt]) <;> omega) (z_pos (by (try simp (disch := omega) only [Int32.lt_iff_toInt_lt, Int32.le_iff_toInt_le, ← Int32.toInt_inj, Int32.toInt_add, Int32.toInt_sub, Int32.toInt_mul, Int32.toInt_neg, z_bm, z_bm2, J_ti, J_toInt, z_cn, Int32.reduceToInt]) <;> omega) (z_bind (fun r v => z_fr [1702, 1206, 704] [18, 19, 9, 13] u v ∧ z_hit (z_rd E u) n r) ?_ (fun r v hv => k_sat_mk ?_)))
    · unfold f_Nights_firstAsNow
      refine z_bind _ (z_Wt_0 hE) (fun _ u1 h1 => z_bind _ (z_for 1 (n + 1) (fun i v => z_Wt E E.1 u (i - 1) v ∧ ∀ j, 1 ≤ j → j < i → z_rd E u j = false) (K := fun y v => z_fr [1702, 1206, 704] [18, 19, 9, 13] u v ∧ ((∃ i, y = .inl (J i) ∧ 1 ≤ i ∧ i ≤ n ∧ z_rd E u i = true ∧ ∀ j, 1 ≤ j → j < i → z_rd E u j = false) ∨ (y = .inr () ∧ ∀ j, 1 ≤ j → j ≤ n → z_rd E u j = false))) (by omega) (by omega) ⟨h1, fun j _ _ => by omega⟩ (fun i v hi0 hi hp' => ?_) (fun v hp' => ?_)) (fun y v hv => ?_))
      · obtain ⟨g1, g3⟩ := hp'
        unfold f_Nights_firstAsNow_B6
        rw [z_W303 hE g1]
        refine z_neg (by (try simp (disch := omega) only [Int32.lt_iff_toInt_lt, Int32.le_iff_toInt_le, ← Int32.toInt_inj, Int32.toInt_add, Int32.toInt_sub, Int32.toInt_mul, Int32.toInt_neg, z_bm, z_bm2, J_ti, J_toInt, z_cn, Int32.reduceToInt]) <;> omega) (z_bind _ (z_Wt_s hE.1 hE4 g1) (fun _ v' hv' => ?_))
        rw [show i - 1 + 1 = i by omega] at hv'
        rw [z_W303 hE hv']
        refine z_bind _ (z_standsAs hE hv') (fun r v2 hr2 => ?_)
        obtain ⟨rfl, hr2⟩ := hr2
        by_cases q : z_rd E u i = true
        · rw [if_pos q] at hr2
          exact z_neg (by rw [hr2]; decide) (k_sat_mk (Or.inr ⟨_, rfl, hv'.1, Or.inl ⟨i, rfl, hi0, by omega, q, g3⟩⟩))
        · rw [if_neg q] at hr2
          refine z_pos hr2 (k_sat_mk (Or.inl ⟨rfl, by rw [show i + 1 - 1 = i by omega]; exact hv', fun j h1 h2 => ?_⟩))
          by_cases e : j = i
          · rw [e]; simpa using q
          · exact g3 j h1 (by omega)
      · unfold f_Nights_firstAsNow_B6
        exact z_pos (by (try simp (disch := omega) only [Int32.lt_iff_toInt_lt, Int32.le_iff_toInt_le, ← Int32.toInt_inj, Int32.toInt_add, Int32.toInt_sub, Int32.toInt_mul, Int32.toInt_neg, z_bm, z_bm2, J_ti, J_toInt, z_cn, Int32.reduceToInt]) <;> omega) (k_sat_mk ⟨_, rfl, hp'.1.1, Or.inr ⟨rfl, fun j h1 h2 => hp'.2 j h1 (by omega)⟩⟩)
      · obtain ⟨g1, ⟨i, rfl, g3, g4, g5, g6⟩ | ⟨rfl, g2⟩⟩ := hv
        · exact k_sat_mk ⟨g1, Or.inl ⟨i, g3, g4, g5, g6, rfl⟩⟩
        · exact k_sat_mk ⟨g1, Or.inr ⟨g2, rfl⟩⟩
    · obtain ⟨hv, hrr⟩ := hv
      obtain ⟨i2, hE2, m2, q1, q2, q3⟩ := z_Wdone h hE hv
      unfold f_R_round
      rw [z_Rin1 (by (try simp (disch := omega) only [Int32.lt_iff_toInt_lt, Int32.le_iff_toInt_le, ← Int32.toInt_inj, Int32.toInt_add, Int32.toInt_sub, Int32.toInt_mul, Int32.toInt_neg, z_bm, z_bm2, J_ti, J_toInt, z_cn, Int32.reduceToInt]) <;> omega) (by (try simp (disch := omega) only [Int32.lt_iff_toInt_lt, Int32.le_iff_toInt_le, ← Int32.toInt_inj, Int32.toInt_add, Int32.toInt_sub, Int32.toInt_mul, Int32.toInt_neg, z_bm, z_bm2, J_ti, J_toInt, z_cn, Int32.reduceToInt]) <;> omega), z_bind_some]
      refine z_neg (by decide) (z_bind _ (z_Rt_0 E v) (fun _ u3 h3 => z_bind _ (z_for2 1 (n + 1) (-2) (fun i y w' => (∃ i', z_Rt E v i' w') ∧ (y = -2 → z_Rt E v (i - 1) w') ∧ z_hit (z_rd E u) (i - 1) y) (K := fun y w' => (∃ i', z_Rt E v i' w') ∧ z_hit (z_rd E u) n y) (by omega) (by omega) ⟨⟨0, h3⟩, fun _ => h3, Or.inr ⟨fun j _ _ => by omega, rfl⟩⟩ (fun i y w' hi0 hi hp' => ?_) (fun y w' hp' => ?_)) (fun y w' hw' => ?_)))
      · obtain ⟨g1, g2, g3⟩ := hp'
        unfold f_R_round_B22
        dsimp only
        refine z_neg (by (try simp (disch := omega) only [Int32.lt_iff_toInt_lt, Int32.le_iff_toInt_le, ← Int32.toInt_inj, Int32.toInt_add, Int32.toInt_sub, Int32.toInt_mul, Int32.toInt_neg, z_bm, z_bm2, J_ti, J_toInt, z_cn, Int32.reduceToInt]) <;> omega) ?_
        rcases g3 with ⟨j, b1, b2, b3, b4, rfl⟩ | ⟨b1, rfl⟩
        · exact z_pos (by (try simp (disch := omega) only [Int32.lt_iff_toInt_lt, Int32.le_iff_toInt_le, ← Int32.toInt_inj, Int32.toInt_add, Int32.toInt_sub, Int32.toInt_mul, Int32.toInt_neg, z_bm, z_bm2, J_ti, J_toInt, z_cn, Int32.reduceToInt]) <;> omega) (k_sat_mk (Or.inr ⟨_, rfl, g1, Or.inl ⟨j, b1, by omega, b3, b4, rfl⟩⟩))
        · refine z_neg (by decide) (z_bind _ (z_Rt_s hE2.2.1 hE2.2.2.2.1 (g2 rfl)) (fun _ w3 hw3 => ?_))
          rw [show i - 1 + 1 = i by omega] at hw3
          refine z_bind _ (z_isAsWas hE2 hw3) (fun r w4 hr4 => ?_)
          obtain ⟨rfl, hr4⟩ := hr4
          rw [z_rd_m m2] at hr4
          by_cases q : z_rd E u i = true
          · rw [if_pos q] at hr4
            exact z_neg (by rw [hr4]; decide) (k_sat_mk (Or.inl ⟨_, rfl, ⟨i, hw3⟩, fun q4 => absurd q4 (by (try simp (disch := omega) only [Int32.lt_iff_toInt_lt, Int32.le_iff_toInt_le, ← Int32.toInt_inj, Int32.toInt_add, Int32.toInt_sub, Int32.toInt_mul, Int32.toInt_neg, z_bm, z_bm2, J_ti, J_toInt, z_cn, Int32.reduceToInt]) <;> omega), Or.inl ⟨i, hi0, by omega, q, fun j h1 h2 => b1 j h1 (by omega), rfl⟩⟩))
          · rw [if_neg q] at hr4
            refine z_pos hr4 (k_sat_mk (Or.inl ⟨_, rfl, ⟨i, hw3⟩, fun _ => by rw [show i + 1 - 1 = i by omega]; exact hw3, Or.inr ⟨fun j h1 h2 => ?_, rfl⟩⟩))
            by_cases e : j = i
            · rw [e]; simpa using q
            · exact b1 j h1 (by omega)
      · unfold f_R_round_B22
        exact z_pos (by (try simp (disch := omega) only [Int32.lt_iff_toInt_lt, Int32.le_iff_toInt_le, ← Int32.toInt_inj, Int32.toInt_add, Int32.toInt_sub, Int32.toInt_mul, Int32.toInt_neg, z_bm, z_bm2, J_ti, J_toInt, z_cn, Int32.reduceToInt]) <;> omega) (k_sat_mk ⟨_, rfl, hp'.1, hp'.2.2⟩)
      · obtain ⟨⟨i', g1⟩, g2⟩ := hw'
        unfold f_R_round_J50
        exact z_bind _ (z_Rt_b hE4 g1) (fun _ v2 hv2 => k_sat_mk ⟨z_hit_u hrr g2, zI_0 i2 (hv2.mono rfl rfl)⟩)
  · have hR : k_sat (f_R_round a u) (fun r' v => (-1 : Int32) = r' ∧ zI v) := by
      unfold f_R_round
      rw [z_Rin0 (by ((try simp (disch := omega) only [Int32.lt_iff_toInt_lt, Int32.le_iff_toInt_le, ← Int32.toInt_inj, Int32.toInt_add, Int32.toInt_sub, Int32.toInt_mul, Int32.toInt_neg, z_bm, z_bm2, J_ti, J_toInt, z_cn, Int32.reduceToInt] at *); omega)), z_bind_some]
      exact z_pos rfl (k_sat_mk ⟨rfl, h⟩)
    exact z_ite (fun _ => k_sat_mk hR) (fun _ => z_neg (by ((try simp (disch := omega) only [Int32.lt_iff_toInt_lt, Int32.le_iff_toInt_le, ← Int32.toInt_inj, Int32.toInt_add, Int32.toInt_sub, Int32.toInt_mul, Int32.toInt_neg, z_bm, z_bm2, J_ti, J_toInt, z_cn, Int32.reduceToInt] at *); omega)) (k_sat_mk hR))
/-- nightsTo comes to an end -/
theorem z_nightsTo {E : z_E} {u v : k_S} {i : Nat} (hE : z_en E u) (hE0 : 0 < E.1) (a b : Int32) (h : z_Wt E 1 u i v) : k_sat (f_Nights_nightsTo a b 2000 v) (fun _ v' => ∃ i', z_Wt E 1 u i' v') := by
  unfold f_Nights_nightsTo
  have hJ : ∀ (v' : k_S) (i' j : Nat), z_Wt E 1 u i' v' → k_sat (f_Nights_nightsTo_J24 a b 2000 (J j) v') (fun z u' => (z = .inl (J j + Int32.ofInt 1) ∧ ∃ i', z_Wt E 1 u i' u') ∨ ∃ y, z = .inr y ∧ ∃ i', z_Wt E 1 u i' u') := by
    intro v' i' j hv'
    unfold f_Nights_nightsTo_J24
    refine z_ite (fun _ => k_sat_mk (Or.inl ⟨rfl, i', hv'⟩)) (fun _ => ?_)
    rw [show (0 : Int32) = J 0 from rfl, z_Wt_p hv' (by omega) (by omega), z_bind_some]
    exact z_ite (fun _ => k_sat_mk (Or.inr ⟨_, rfl, i', hv'⟩)) (fun _ => k_sat_mk (Or.inl ⟨rfl, i', hv'⟩))
  refine z_bind _ (z_for 0 2001 (fun _ v' => ∃ i', z_Wt E 1 u i' v') (K := fun _ v' => ∃ i', z_Wt E 1 u i' v') (by omega) (by omega) ⟨i, h⟩ (fun j v' _ hj hp => ?_) (fun v' hp => ?_)) (fun y v' hv => ?_)
  · obtain ⟨i', hp⟩ := hp
    unfold f_Nights_nightsTo_B3
    refine z_neg (by (try simp (disch := omega) only [Int32.lt_iff_toInt_lt, Int32.le_iff_toInt_le, ← Int32.toInt_inj, Int32.toInt_add, Int32.toInt_sub, Int32.toInt_mul, Int32.toInt_neg, z_bm, z_bm2, J_ti, J_toInt, z_cn, Int32.reduceToInt]) <;> omega) (z_ite (fun _ => hJ v' i' j hp) (fun _ => z_bind _ (z_Wt_s (K := 1) hE.1 (by omega) hp) (fun _ v2 h2 => hJ v2 _ j h2)))
  · unfold f_Nights_nightsTo_B3
    exact z_pos (by decide) (k_sat_mk ⟨_, rfl, hp⟩)
  · cases y with
    | inl r => exact k_sat_mk hv
    | inr q => exact k_sat_mk hv
theorem z_truth (a : Int32) (u : k_S) (h : zI u) : z_two (f_W_truth a) (f_R_truth a) u zI := by
  obtain ⟨E, hE, -, -, -⟩ := z_env h
  have hE4 := hE.1.1
  refine z_two_of ?_
  have hR : ∀ v, zI v → z_en E v → k_sat (f_R_truth a v) (fun _ v2 => zI v2) := by
    intro v hv hEv
    unfold f_R_truth
    refine z_ite (fun _ => z_ite (fun _ => k_sat_mk hv) (fun _ => z_ite (fun _ => k_sat_mk hv) (fun _ => z_ite (fun _ => k_sat_mk hv) (fun _ => k_sat_mk hv)))) (fun h0 => z_ite (fun _ => k_sat_mk hv) (fun _ => z_ck (by decide) (by decide) (z_ite (fun _ => k_sat_mk hv) (fun _ => z_ck (by decide) (by decide) (z_ite (fun _ => z_bind _ (z_Rt_0 E v) (fun _ u3 h3 => z_bind _ (z_for 0 2001 (fun i w => z_Rt E v i w) (K := fun _ w => ∃ i, z_Rt E v i w) (by omega) (by omega) h3 (fun i w _ hi hp => ?_) (fun w hp => ?_)) (fun y w hw => ?_))) (fun _ => k_sat_mk hv))))))
    · unfold f_R_truth_B74
      exact z_neg (by (try simp (disch := omega) only [Int32.lt_iff_toInt_lt, Int32.le_iff_toInt_le, ← Int32.toInt_inj, Int32.toInt_add, Int32.toInt_sub, Int32.toInt_mul, Int32.toInt_neg, z_bm, z_bm2, J_ti, J_toInt, z_cn, Int32.reduceToInt]) <;> omega) (z_ck (by decide) (by decide) (z_ite (fun _ => k_sat_mk (Or.inr ⟨_, rfl, i, hp⟩)) (fun _ => z_bind _ (z_Rt_s hEv.2.1 hEv.2.2.2.1 hp) (fun _ w' hw' => k_sat_mk (Or.inl ⟨rfl, hw'⟩)))))
    · unfold f_R_truth_B74
      exact z_pos (by decide) (k_sat_mk ⟨_, rfl, _, hp⟩)
    · obtain ⟨i, hw⟩ := hw
      have fin : ∀ (x : Int32) (w' : k_S) (i' : Nat), z_Rt E v i' w' → k_sat (f_R_truth_J155 x w') (fun _ v2 => zI v2) := by
        intro x w' i' hw'
        unfold f_R_truth_J155
        exact z_bind _ (z_Rt_b hE4 hw') (fun _ v2 hv2 => k_sat_mk (zI_0 hv (hv2.mono rfl rfl)))
      unfold f_R_truth_J104
      refine z_ite (fun _ => fin _ w i hw) (fun _ => z_bind _ (z_for2 1 2001 (-2) (fun _ _ w' => ∃ i, z_Rt E v i w') (K := fun _ w' => ∃ i, z_Rt E v i w') (by omega) (by omega) ⟨i, hw⟩ (fun j y w' hj0 hj hp => ?_) (fun y w' hp => ?_)) (fun y w' hw' => ?_))
      · obtain ⟨i', hp⟩ := hp
        unfold f_R_truth_B117
        dsimp only
        exact z_neg (by (try simp (disch := omega) only [Int32.lt_iff_toInt_lt, Int32.le_iff_toInt_le, ← Int32.toInt_inj, Int32.toInt_add, Int32.toInt_sub, Int32.toInt_mul, Int32.toInt_neg, z_bm, z_bm2, J_ti, J_toInt, z_cn, Int32.reduceToInt]) <;> omega) (z_ite (fun _ => k_sat_mk (Or.inr ⟨_, rfl, i', hp⟩)) (fun _ => z_bind _ (z_Rt_s hEv.2.1 hEv.2.2.2.1 hp) (fun _ w2 hw2 => z_ck (by decide) (by decide) (z_ite (fun _ => k_sat_mk (Or.inl ⟨_, rfl, _, hw2⟩)) (fun _ => k_sat_mk (Or.inl ⟨_, rfl, _, hw2⟩))))))
      · unfold f_R_truth_B117
        exact z_pos (show (2000 : Int32) < J 2001 by decide) (k_sat_mk ⟨_, rfl, hp⟩)
      · obtain ⟨i', hw'⟩ := hw'
        exact fin _ w' i' hw'
  unfold f_W_truth
  refine z_ite (fun _ => k_sat_mk (hR u h hE)) (fun _ => z_ite (fun _ => k_sat_mk (hR u h hE)) (fun _ => z_ite (fun _ => z_ite (fun _ => k_sat_mk (hR u h hE)) (fun h0 => ?_)) (fun _ => k_sat_mk (hR u h hE))))
  have hE0 : 0 < E.1 := by
    rcases Nat.eq_zero_or_pos E.1 with q | q
    · exact absurd (by rw [hE.1.2.1, q]; rfl) h0
    · exact q
  refine z_bind _ (z_Wt_0 hE) (fun _ u1 h1 => z_bind _ (z_nightsTo hE hE0 _ _ (h1.le (by omega))) (fun r u2 h2 => ?_))
  obtain ⟨i, h2⟩ := h2
  obtain ⟨i2, hE2, -⟩ := z_Wdone h hE h2.1
  refine z_ite (fun _ => k_sat_mk (hR u2 i2 hE2)) (fun _ => z_bind _ (z_nightsTo hE hE0 _ _ h2) (fun r u3 h3 => ?_))
  obtain ⟨i', h3⟩ := h3
  obtain ⟨i3, hE3, -⟩ := z_Wdone h hE h3.1
  exact k_sat_mk (hR u3 i3 hE3)
