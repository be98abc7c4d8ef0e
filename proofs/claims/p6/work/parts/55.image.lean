/-! BECOMING; image, back -/
theorem z_Thought_become_Now (n : Nat) (hn : n ≤ 4) (u : k_S) : k_sat (f_Thought_become_Now (J n) u) (fun _ v => z_fr [1702] [18, 19] u v ∧ v.1 1702 = u.1 1402 ∧ (∀ w, w < n → v.2.1 18 w = u.2.1 15 w ∧ v.2.1 19 w = u.2.1 16 w) ∧ ∀ w, n ≤ w → v.2.1 18 w = u.2.1 18 w ∧ v.2.1 19 w = u.2.1 19 w) := by
  unfold f_Thought_become_Now
  refine z_let (z_bind _ (z_for 0 n (fun i v => z_fr [1702] [18, 19] u v ∧ v.1 1702 = u.1 1402 ∧ (∀ w, w < i → v.2.1 18 w = u.2.1 15 w ∧ v.2.1 19 w = u.2.1 16 w) ∧ ∀ w, i ≤ w → v.2.1 18 w = u.2.1 18 w ∧ v.2.1 19 w = u.2.1 19 w) (K := fun _ v => z_fr [1702] [18, 19] u v ∧ v.1 1702 = u.1 1402 ∧ (∀ w, w < n → v.2.1 18 w = u.2.1 15 w ∧ v.2.1 19 w = u.2.1 16 w) ∧ ∀ w, n ≤ w → v.2.1 18 w = u.2.1 18 w ∧ v.2.1 19 w = u.2.1 19 w) (by omega) (by omega) ⟨z_wF rfl, by simp [k_wF], fun w h => by omega, fun w _ => ⟨rfl, rfl⟩⟩ (fun i v _ hi hp => ?_) (fun v hp => ?_)) (fun _ v h => k_sat_mk h))
  · obtain ⟨h1, h2, h3, h4⟩ := hp
    unfold f_Thought_become_Now_B10
    refine z_neg (by (try simp (disch := omega) only [Int32.lt_iff_toInt_lt, Int32.le_iff_toInt_le, ← Int32.toInt_inj, Int32.toInt_add, Int32.toInt_sub, Int32.toInt_mul, Int32.toInt_neg, z_bm, z_bm2, J_ti, J_toInt, z_cn, Int32.reduceToInt]) <;> omega) (z_neg (by (try simp (disch := omega) only [Int32.lt_iff_toInt_lt, Int32.le_iff_toInt_le, ← Int32.toInt_inj, Int32.toInt_add, Int32.toInt_sub, Int32.toInt_mul, Int32.toInt_neg, z_bm, z_bm2, J_ti, J_toInt, z_cn, Int32.reduceToInt]) <;> omega) ?_)
    rw [z_Now_placeOf (by omega), z_bind_some, z_Now_waitsOf (by omega), z_bind_some, z_Thought_stand (by omega), z_bind_some, h1.2.1 15 rfl, h1.2.1 16 rfl]
    refine k_sat_mk (Or.inl ⟨rfl, h1.tr ((z_wA rfl).tr (z_wA rfl)), h2, fun w hw => ?_, fun w hw => ?_⟩)
    · by_cases e : w = i
      · subst e; simp [k_wA, z_up]
      · simp [k_wA, z_up, e, h3 w (by omega)]
    · simp [k_wA, z_up, show ¬ w = i by omega, h4 w (by omega)]
  · unfold f_Thought_become_Now_B10
    exact z_pos (by (try simp (disch := omega) only [Int32.lt_iff_toInt_lt, Int32.le_iff_toInt_le, ← Int32.toInt_inj, Int32.toInt_add, Int32.toInt_sub, Int32.toInt_mul, Int32.toInt_neg, z_bm, z_bm2, J_ti, J_toInt, z_cn, Int32.reduceToInt]) <;> omega) (k_sat_mk ⟨_, rfl, hp⟩)
theorem z_Picture_become_Now (n : Nat) (hn : n ≤ 4) (u : k_S) : k_sat (f_Picture_become_Now (J n) u) (fun _ v => z_fr [2702] [28, 29] u v ∧ v.1 2702 = u.1 1402 ∧ (∀ w, w < n → v.2.1 28 w = u.2.1 15 w ∧ v.2.1 29 w = u.2.1 16 w) ∧ ∀ w, n ≤ w → v.2.1 28 w = u.2.1 28 w ∧ v.2.1 29 w = u.2.1 29 w) := by
  unfold f_Picture_become_Now
  refine z_let (z_bind _ (z_for 0 n (fun i v => z_fr [2702] [28, 29] u v ∧ v.1 2702 = u.1 1402 ∧ (∀ w, w < i → v.2.1 28 w = u.2.1 15 w ∧ v.2.1 29 w = u.2.1 16 w) ∧ ∀ w, i ≤ w → v.2.1 28 w = u.2.1 28 w ∧ v.2.1 29 w = u.2.1 29 w) (K := fun _ v => z_fr [2702] [28, 29] u v ∧ v.1 2702 = u.1 1402 ∧ (∀ w, w < n → v.2.1 28 w = u.2.1 15 w ∧ v.2.1 29 w = u.2.1 16 w) ∧ ∀ w, n ≤ w → v.2.1 28 w = u.2.1 28 w ∧ v.2.1 29 w = u.2.1 29 w) (by omega) (by omega) ⟨z_wF rfl, by simp [k_wF], fun w h => by omega, fun w _ => ⟨rfl, rfl⟩⟩ (fun i v _ hi hp => ?_) (fun v hp => ?_)) (fun _ v h => k_sat_mk h))
  · obtain ⟨h1, h2, h3, h4⟩ := hp
    unfold f_Picture_become_Now_B10
    refine z_neg (by (try simp (disch := omega) only [Int32.lt_iff_toInt_lt, Int32.le_iff_toInt_le, ← Int32.toInt_inj, Int32.toInt_add, Int32.toInt_sub, Int32.toInt_mul, Int32.toInt_neg, z_bm, z_bm2, J_ti, J_toInt, z_cn, Int32.reduceToInt]) <;> omega) (z_neg (by (try simp (disch := omega) only [Int32.lt_iff_toInt_lt, Int32.le_iff_toInt_le, ← Int32.toInt_inj, Int32.toInt_add, Int32.toInt_sub, Int32.toInt_mul, Int32.toInt_neg, z_bm, z_bm2, J_ti, J_toInt, z_cn, Int32.reduceToInt]) <;> omega) ?_)
    rw [z_Now_placeOf (by omega), z_bind_some, z_Now_waitsOf (by omega), z_bind_some, z_Picture_stand (by omega), z_bind_some, h1.2.1 15 rfl, h1.2.1 16 rfl]
    refine k_sat_mk (Or.inl ⟨rfl, h1.tr ((z_wA rfl).tr (z_wA rfl)), h2, fun w hw => ?_, fun w hw => ?_⟩)
    · by_cases e : w = i
      · subst e; simp [k_wA, z_up]
      · simp [k_wA, z_up, e, h3 w (by omega)]
    · simp [k_wA, z_up, show ¬ w = i by omega, h4 w (by omega)]
  · unfold f_Picture_become_Now_B10
    exact z_pos (by (try simp (disch := omega) only [Int32.lt_iff_toInt_lt, Int32.le_iff_toInt_le, ← Int32.toInt_inj, Int32.toInt_add, Int32.toInt_sub, Int32.toInt_mul, Int32.toInt_neg, z_bm, z_bm2, J_ti, J_toInt, z_cn, Int32.reduceToInt]) <;> omega) (k_sat_mk ⟨_, rfl, hp⟩)
theorem z_Now_become_Picture (n : Nat) (hn : n ≤ 4) (u : k_S) : k_sat (f_Now_become_Picture (J n) u) (fun _ v => z_fr [1402] [15, 16] u v ∧ v.1 1402 = u.1 2702 ∧ (∀ w, w < n → v.2.1 15 w = u.2.1 28 w ∧ v.2.1 16 w = u.2.1 29 w) ∧ ∀ w, n ≤ w → v.2.1 15 w = u.2.1 15 w ∧ v.2.1 16 w = u.2.1 16 w) := by
  unfold f_Now_become_Picture
  refine z_let (z_bind _ (z_for 0 n (fun i v => z_fr [1402] [15, 16] u v ∧ v.1 1402 = u.1 2702 ∧ (∀ w, w < i → v.2.1 15 w = u.2.1 28 w ∧ v.2.1 16 w = u.2.1 29 w) ∧ ∀ w, i ≤ w → v.2.1 15 w = u.2.1 15 w ∧ v.2.1 16 w = u.2.1 16 w) (K := fun _ v => z_fr [1402] [15, 16] u v ∧ v.1 1402 = u.1 2702 ∧ (∀ w, w < n → v.2.1 15 w = u.2.1 28 w ∧ v.2.1 16 w = u.2.1 29 w) ∧ ∀ w, n ≤ w → v.2.1 15 w = u.2.1 15 w ∧ v.2.1 16 w = u.2.1 16 w) (by omega) (by omega) ⟨z_wF rfl, by simp [k_wF], fun w h => by omega, fun w _ => ⟨rfl, rfl⟩⟩ (fun i v _ hi hp => ?_) (fun v hp => ?_)) (fun _ v h => k_sat_mk h))
  · obtain ⟨h1, h2, h3, h4⟩ := hp
    unfold f_Now_become_Picture_B10
    refine z_neg (by (try simp (disch := omega) only [Int32.lt_iff_toInt_lt, Int32.le_iff_toInt_le, ← Int32.toInt_inj, Int32.toInt_add, Int32.toInt_sub, Int32.toInt_mul, Int32.toInt_neg, z_bm, z_bm2, J_ti, J_toInt, z_cn, Int32.reduceToInt]) <;> omega) (z_neg (by (try simp (disch := omega) only [Int32.lt_iff_toInt_lt, Int32.le_iff_toInt_le, ← Int32.toInt_inj, Int32.toInt_add, Int32.toInt_sub, Int32.toInt_mul, Int32.toInt_neg, z_bm, z_bm2, J_ti, J_toInt, z_cn, Int32.reduceToInt]) <;> omega) ?_)
    rw [z_Picture_placeOf (by omega), z_bind_some, z_Picture_waitsOf (by omega), z_bind_some, z_Now_stand (by omega), z_bind_some, h1.2.1 28 rfl, h1.2.1 29 rfl]
    refine k_sat_mk (Or.inl ⟨rfl, h1.tr ((z_wA rfl).tr (z_wA rfl)), h2, fun w hw => ?_, fun w hw => ?_⟩)
    · by_cases e : w = i
      · subst e; simp [k_wA, z_up]
      · simp [k_wA, z_up, e, h3 w (by omega)]
    · simp [k_wA, z_up, show ¬ w = i by omega, h4 w (by omega)]
  · unfold f_Now_become_Picture_B10
    exact z_pos (by (try simp (disch := omega) only [Int32.lt_iff_toInt_lt, Int32.le_iff_toInt_le, ← Int32.toInt_inj, Int32.toInt_add, Int32.toInt_sub, Int32.toInt_mul, Int32.toInt_neg, z_bm, z_bm2, J_ti, J_toInt, z_cn, Int32.reduceToInt]) <;> omega) (k_sat_mk ⟨_, rfl, hp⟩)
theorem z_image (u : k_S) (h : zI u) : z_pair f_W_image f_R_image u zI := by
  obtain ⟨n, hn, e1, e2, hw, hz⟩ := h.2.1
  obtain ⟨⟨t, ht, t1, t2⟩, hm, hm2⟩ := h.2.2.1
  refine z_pair_of ?_
  unfold f_W_image
  rw [e1]
  refine z_bind _ (z_Picture_become_Now n hn u) (fun _ v hv => z_let (k_sat_mk ?_))
  obtain ⟨v1, v2, v3, v4⟩ := hv
  rw [v1.1 303 rfl, e1]
  have f1 : z_fr [2702, 10] [28, 29] u (k_wF v 10 (J n)) := (v1.mono rfl rfl).tr (z_wF rfl)
  unfold f_R_image
  refine z_let (z_let (z_let (z_bind _ (z_for 0 4 (fun i w => z_fr [4240, 4241, 4242] [68, 69] (k_wF v 10 (J n)) w ∧ w.1 4240 = 1 ∧ w.1 4241 = J n ∧ w.1 4242 = J t ∧ ∀ j, j < i → w.2.1 68 j = u.2.1 46 j ∧ w.2.1 69 j = u.2.1 47 j) (K := fun _ w => z_fr [4240, 4241, 4242] [68, 69] (k_wF v 10 (J n)) w ∧ w.1 4240 = 1 ∧ w.1 4241 = J n ∧ w.1 4242 = J t ∧ ∀ j, j < 4 → w.2.1 68 j = u.2.1 46 j ∧ w.2.1 69 j = u.2.1 47 j) (by omega) (by omega) ⟨((z_wF rfl).tr (z_wF rfl)).tr (z_wF rfl), ?_, ?_, ?_, fun j hj => by omega⟩ (fun i w _ hi hp => ?_) (fun w hp => ?_)) (fun _ w hw' => k_sat_mk ⟨?_, ?_⟩))))
  · simp [k_wF]
  · simp [k_wF, v1.1 4203 rfl, e2]
  · simp [k_wF, v1.1 4209 rfl, t2]
  · obtain ⟨h1, h2, h3, h4, h5⟩ := hp
    unfold f_R_image_B23
    refine z_neg (by (try simp (disch := omega) only [Int32.lt_iff_toInt_lt, Int32.le_iff_toInt_le, ← Int32.toInt_inj, Int32.toInt_add, Int32.toInt_sub, Int32.toInt_mul, Int32.toInt_neg, z_bm, z_bm2, J_ti, J_toInt, z_cn, Int32.reduceToInt]) <;> omega) (z_ck (by (try simp (disch := omega) only [Int32.lt_iff_toInt_lt, Int32.le_iff_toInt_le, ← Int32.toInt_inj, Int32.toInt_add, Int32.toInt_sub, Int32.toInt_mul, Int32.toInt_neg, z_bm, z_bm2, J_ti, J_toInt, z_cn, Int32.reduceToInt]) <;> omega) (by (try simp (disch := omega) only [Int32.lt_iff_toInt_lt, Int32.le_iff_toInt_le, ← Int32.toInt_inj, Int32.toInt_add, Int32.toInt_sub, Int32.toInt_mul, Int32.toInt_neg, z_bm, z_bm2, J_ti, J_toInt, z_cn, Int32.reduceToInt]) <;> omega) (z_ck (by (try simp (disch := omega) only [Int32.lt_iff_toInt_lt, Int32.le_iff_toInt_le, ← Int32.toInt_inj, Int32.toInt_add, Int32.toInt_sub, Int32.toInt_mul, Int32.toInt_neg, z_bm, z_bm2, J_ti, J_toInt, z_cn, Int32.reduceToInt]) <;> omega) (by (try simp (disch := omega) only [Int32.lt_iff_toInt_lt, Int32.le_iff_toInt_le, ← Int32.toInt_inj, Int32.toInt_add, Int32.toInt_sub, Int32.toInt_mul, Int32.toInt_neg, z_bm, z_bm2, J_ti, J_toInt, z_cn, Int32.reduceToInt]) <;> omega) (z_let (z_ck (by (try simp (disch := omega) only [Int32.lt_iff_toInt_lt, Int32.le_iff_toInt_le, ← Int32.toInt_inj, Int32.toInt_add, Int32.toInt_sub, Int32.toInt_mul, Int32.toInt_neg, z_bm, z_bm2, J_ti, J_toInt, z_cn, Int32.reduceToInt]) <;> omega) (by (try simp (disch := omega) only [Int32.lt_iff_toInt_lt, Int32.le_iff_toInt_le, ← Int32.toInt_inj, Int32.toInt_add, Int32.toInt_sub, Int32.toInt_mul, Int32.toInt_neg, z_bm, z_bm2, J_ti, J_toInt, z_cn, Int32.reduceToInt]) <;> omega) (z_ck (by (try simp (disch := omega) only [Int32.lt_iff_toInt_lt, Int32.le_iff_toInt_le, ← Int32.toInt_inj, Int32.toInt_add, Int32.toInt_sub, Int32.toInt_mul, Int32.toInt_neg, z_bm, z_bm2, J_ti, J_toInt, z_cn, Int32.reduceToInt]) <;> omega) (by (try simp (disch := omega) only [Int32.lt_iff_toInt_lt, Int32.le_iff_toInt_le, ← Int32.toInt_inj, Int32.toInt_add, Int32.toInt_sub, Int32.toInt_mul, Int32.toInt_neg, z_bm, z_bm2, J_ti, J_toInt, z_cn, Int32.reduceToInt]) <;> omega) (z_let ?_))))))
    rw [J_toNat (show i < 2147483648 by omega)]
    refine k_sat_mk (Or.inl ⟨rfl, h1.tr ((z_wA rfl).tr (z_wA rfl)), h2, h3, h4, fun j hj => ?_⟩)
    have b46 : w.2.1 46 = u.2.1 46 := by rw [h1.2.1 46 rfl, f1.2.1 46 rfl]
    have b47 : w.2.1 47 = u.2.1 47 := by rw [h1.2.1 47 rfl, f1.2.1 47 rfl]
    by_cases e : j = i
    · subst e; simp [k_wA, z_up, b46, b47]
    · simp [k_wA, z_up, e, h5 j (by omega)]
  · unfold f_R_image_B23
    exact z_pos (by decide) (k_sat_mk ⟨_, rfl, hp⟩)
  · rw [hw'.1.1 4209 rfl, f1.1 4209 rfl, t2, ← t1, ← v2]
    simp [k_wF]
  · obtain ⟨w1, w2, w3, w4, w5⟩ := hw'
    have f2 : z_fr [10, 2702, 4240, 4241, 4242] [28, 29, 68, 69] u w := (f1.mono rfl rfl).tr (w1.mono rfl rfl)
    refine zI_P h (f2.mono rfl rfl) (Or.inr ⟨w2, n, t, ?_, ht, ?_, w3, ?_, w4, fun j hj => ?_⟩)
    · rw [f2.1 303 rfl, e1, J_toInt (by omega)]; omega
    · rw [w1.1 10 rfl]; simp [k_wF]
    · rw [w1.1 2702 rfl]; simp [k_wF, v2, t1]
    · obtain ⟨⟨p, p1, p2, p3⟩, p4⟩ := hm j (by rw [e1, J_toInt (by omega)]; omega)
      have q28 : w.2.1 28 = v.2.1 28 := w1.2.1 28 rfl
      have q29 : w.2.1 29 = v.2.1 29 := w1.2.1 29 rfl
      rw [q28, q29, (v3 j hj).1, (v3 j hj).2, (w5 j (by omega)).1, (w5 j (by omega)).2, f2.2.1 5 rfl]
      exact ⟨⟨p, p1, p2, p3⟩, p4⟩
theorem z_back (u : k_S) (h : zI u) : z_pair f_W_back f_R_back u zI := by
  obtain ⟨n, hn, e1, e2, hw, hz⟩ := h.2.1
  obtain ⟨⟨t0, ht0, t1, t2⟩, hm, hm2⟩ := h.2.2.1
  refine z_pair_of ?_
  unfold f_W_back
  rcases h.2.2.2.2.2.2.1 with ⟨c1, c2⟩ | ⟨c0, k, t, hk, ht, c1, c2, c3, c4, hP⟩
  · refine z_pos c1 (k_sat_mk ?_)
    unfold f_R_back
    exact z_pos c2 (k_sat_mk ⟨rfl, h⟩)
  · rw [e1, J_toInt (by omega)] at hk
    rw [c1]
    refine z_neg (by (try simp (disch := omega) only [Int32.lt_iff_toInt_lt, Int32.le_iff_toInt_le, ← Int32.toInt_inj, Int32.toInt_add, Int32.toInt_sub, Int32.toInt_mul, Int32.toInt_neg, z_bm, z_bm2, J_ti, J_toInt, z_cn, Int32.reduceToInt]) <;> omega) (z_bind _ (z_Now_become_Picture k (by omega) u) (fun _ v hv => k_sat_mk ?_))
    obtain ⟨v1, v2, v3, v4⟩ := hv
    unfold f_R_back
    refine z_neg (by rw [v1.1 4240 rfl, c0]; decide) (z_let (z_bind _ (z_for 0 k (fun i w => z_fr [4209] [46, 47] v w ∧ w.1 4209 = J t ∧ (∀ j, j < i → w.2.1 46 j = u.2.1 68 j ∧ w.2.1 47 j = u.2.1 69 j) ∧ ∀ j, i ≤ j → w.2.1 46 j = u.2.1 46 j ∧ w.2.1 47 j = u.2.1 47 j) (K := fun _ w => z_fr [4209] [46, 47] v w ∧ w.1 4209 = J t ∧ (∀ j, j < k → w.2.1 46 j = u.2.1 68 j ∧ w.2.1 47 j = u.2.1 69 j) ∧ ∀ j, k ≤ j → w.2.1 46 j = u.2.1 46 j ∧ w.2.1 47 j = u.2.1 47 j) (by omega) (by omega) ⟨z_wF rfl, ?_, fun j hj => by omega, fun j _ => ?_⟩ (fun i w _ hi hp => ?_) (fun w hp => ?_)) (fun _ w hw' => k_sat_mk ⟨?_, ?_⟩)))
    · simp [k_wF, v1.1 4242 rfl, c4]
    · simp [k_wF, v1.2.1 46 rfl, v1.2.1 47 rfl]
    · obtain ⟨h1, h2, h3, h4⟩ := hp
      unfold f_R_back_B20
      refine z_neg (by rw [h1.1 4241 rfl, v1.1 4241 rfl, c2]; (try simp (disch := omega) only [Int32.lt_iff_toInt_lt, Int32.le_iff_toInt_le, ← Int32.toInt_inj, Int32.toInt_add, Int32.toInt_sub, Int32.toInt_mul, Int32.toInt_neg, z_bm, z_bm2, J_ti, J_toInt, z_cn, Int32.reduceToInt]) <;> omega) (z_ck (by (try simp (disch := omega) only [Int32.lt_iff_toInt_lt, Int32.le_iff_toInt_le, ← Int32.toInt_inj, Int32.toInt_add, Int32.toInt_sub, Int32.toInt_mul, Int32.toInt_neg, z_bm, z_bm2, J_ti, J_toInt, z_cn, Int32.reduceToInt]) <;> omega) (by (try simp (disch := omega) only [Int32.lt_iff_toInt_lt, Int32.le_iff_toInt_le, ← Int32.toInt_inj, Int32.toInt_add, Int32.toInt_sub, Int32.toInt_mul, Int32.toInt_neg, z_bm, z_bm2, J_ti, J_toInt, z_cn, Int32.reduceToInt]) <;> omega) (z_ck (by (try simp (disch := omega) only [Int32.lt_iff_toInt_lt, Int32.le_iff_toInt_le, ← Int32.toInt_inj, Int32.toInt_add, Int32.toInt_sub, Int32.toInt_mul, Int32.toInt_neg, z_bm, z_bm2, J_ti, J_toInt, z_cn, Int32.reduceToInt]) <;> omega) (by (try simp (disch := omega) only [Int32.lt_iff_toInt_lt, Int32.le_iff_toInt_le, ← Int32.toInt_inj, Int32.toInt_add, Int32.toInt_sub, Int32.toInt_mul, Int32.toInt_neg, z_bm, z_bm2, J_ti, J_toInt, z_cn, Int32.reduceToInt]) <;> omega) (z_let (z_ck (by (try simp (disch := omega) only [Int32.lt_iff_toInt_lt, Int32.le_iff_toInt_le, ← Int32.toInt_inj, Int32.toInt_add, Int32.toInt_sub, Int32.toInt_mul, Int32.toInt_neg, z_bm, z_bm2, J_ti, J_toInt, z_cn, Int32.reduceToInt]) <;> omega) (by (try simp (disch := omega) only [Int32.lt_iff_toInt_lt, Int32.le_iff_toInt_le, ← Int32.toInt_inj, Int32.toInt_add, Int32.toInt_sub, Int32.toInt_mul, Int32.toInt_neg, z_bm, z_bm2, J_ti, J_toInt, z_cn, Int32.reduceToInt]) <;> omega) (z_ck (by (try simp (disch := omega) only [Int32.lt_iff_toInt_lt, Int32.le_iff_toInt_le, ← Int32.toInt_inj, Int32.toInt_add, Int32.toInt_sub, Int32.toInt_mul, Int32.toInt_neg, z_bm, z_bm2, J_ti, J_toInt, z_cn, Int32.reduceToInt]) <;> omega) (by (try simp (disch := omega) only [Int32.lt_iff_toInt_lt, Int32.le_iff_toInt_le, ← Int32.toInt_inj, Int32.toInt_add, Int32.toInt_sub, Int32.toInt_mul, Int32.toInt_neg, z_bm, z_bm2, J_ti, J_toInt, z_cn, Int32.reduceToInt]) <;> omega) (z_let ?_))))))
      rw [J_toNat (show i < 2147483648 by omega)]
      have b68 : w.2.1 68 = u.2.1 68 := by rw [h1.2.1 68 rfl, v1.2.1 68 rfl]
      have b69 : w.2.1 69 = u.2.1 69 := by rw [h1.2.1 69 rfl, v1.2.1 69 rfl]
      refine k_sat_mk (Or.inl ⟨rfl, h1.tr ((z_wA rfl).tr (z_wA rfl)), h2, fun j hj => ?_, fun j hj => ?_⟩)
      · by_cases e : j = i
        · subst e; simp [k_wA, z_up, b68, b69]
        · simp [k_wA, z_up, e, h3 j (by omega)]
      · simp [k_wA, z_up, show ¬ j = i by omega, h4 j (by omega)]
    · unfold f_R_back_B20
      exact z_pos (by rw [hp.1.1 4241 rfl, v1.1 4241 rfl, c2]; (try simp (disch := omega) only [Int32.lt_iff_toInt_lt, Int32.le_iff_toInt_le, ← Int32.toInt_inj, Int32.toInt_add, Int32.toInt_sub, Int32.toInt_mul, Int32.toInt_neg, z_bm, z_bm2, J_ti, J_toInt, z_cn, Int32.reduceToInt]) <;> omega) (k_sat_mk ⟨_, rfl, hp⟩)
    · rw [hw'.2.1, v2, c3]
    · obtain ⟨w1, w2, w3, w4⟩ := hw'
      have f2 : z_fr [1402, 4209] [15, 16, 46, 47] u w := (v1.mono rfl rfl).tr (w1.mono rfl rfl)
      have q15 : w.2.1 15 = v.2.1 15 := w1.2.1 15 rfl
      have q16 : w.2.1 16 = v.2.1 16 := w1.2.1 16 rfl
      refine zI_M h (f2.mono rfl rfl) ⟨⟨t, ht, ?_, w2⟩, fun j hj => ?_, fun j hj hj4 => ?_⟩
      · rw [w1.1 1402 rfl, v2, c3]
      · rw [f2.1 303 rfl] at hj
        rw [q15, q16, f2.2.1 5 rfl]
        by_cases e : j < k
        · obtain ⟨⟨p, p1, p2, p3⟩, p4⟩ := hP j e
          rw [(v3 j e).1, (v3 j e).2, (w3 j e).1, (w3 j e).2]
          exact ⟨⟨p, p1, p2, p3⟩, p4⟩
        · obtain ⟨⟨p, p1, p2, p3⟩, p4⟩ := hm j hj
          rw [(v4 j (by omega)).1, (v4 j (by omega)).2, (w4 j (by omega)).1, (w4 j (by omega)).2]
          exact ⟨⟨p, p1, p2, p3⟩, p4⟩
      · rw [f2.1 303 rfl] at hj
        rw [e1, J_toInt (by omega)] at hj
        rw [q15, q16, (v4 j (by omega)).1, (v4 j (by omega)).2]
        exact hm2 j (by rw [e1, J_toInt (by omega)]; omega) hj4
