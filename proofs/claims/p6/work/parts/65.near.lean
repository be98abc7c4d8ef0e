/-! near -/
def z_eW (E : z_E) (u : k_S) : Prop := z_EW E u ∧ z_ok E (z_moNow u) ∧ z_ag E.1 (z_moNow u) (z_moR u)
theorem z_Wt_w {E : z_E} {u : k_S} (h : z_eW E u) : k_sat (f_Nights_think u) (fun _ v => z_Wt E E.1 u 0 v) := by
  obtain ⟨h1, h3, h5⟩ := h
  unfold f_Nights_think
  rw [h1.2.1]
  refine z_bind _ (z_Thought_become_Now E.1 h1.1 u) (fun _ v hv => k_sat_mk ⟨hv.1.mono rfl rfl, ⟨h1.1, fun w hw => ?_⟩, ?_, fun w hw => ?_⟩)
  · obtain ⟨p, s, a1, a2, a3, a4, a5⟩ := h3.2 w hw
    exact ⟨p, s, a1, a2, a3, ((hv.2.2.1 w hw).1).trans a4, a5⟩
  · exact hv.2.1.trans h5.1
  · exact ⟨((hv.2.2.1 w hw).1).trans (h5.2 w hw).1, ((hv.2.2.1 w hw).2).trans (h5.2 w hw).2⟩
/-- wrong in the i-th night -/
def z_wr (E : z_E) (u : k_S) (k s : Nat) (i : Nat) : Bool := decide (¬ z_pl E u 0 i % J k = (u.2.1 46 0 + J i) % J s % J k)
theorem z_co_w (E : z_E) (u : k_S) (k s i : Nat) (hi : 1 ≤ i) : J (z_co (z_wr E u k s) (i + 1 - 1)) = if z_pl E u 0 i % J k = (u.2.1 46 0 + J i) % J s % J k then J (z_co (z_wr E u k s) (i - 1)) else J (z_co (z_wr E u k s) (i - 1)) + Int32.ofInt 1 := by
  rw [show i + 1 - 1 = (i - 1) + 1 by omega, z_co, show i - 1 + 1 = i by omega, J_c]
  by_cases q : z_pl E u 0 i % J k = (u.2.1 46 0 + J i) % J s % J k
  · rw [if_pos q, if_neg (by unfold z_wr; simp [q])]
  · rw [if_neg q, if_pos (by unfold z_wr; simp [q])]
theorem z_wrongW {E : z_E} {u : k_S} {k s n : Nat} (hE : z_eW E u) (h0 : 0 < E.1) (hk1 : 1 ≤ k) (hk2 : k ≤ 9) (c1 : u.1 1205 = J k) (hs1 : 1 ≤ s) (hs : s ≤ 40) (es : E.2.2.1 0 = J s) (hn : n ≤ 400) : k_sat (f_Nights_wrongDays (J n) u) (fun r v => r = J (z_co (z_wr E u k s) n) ∧ z_fr [1702, 1206, 704] [18, 19, 9, 13] u v) := by
  obtain ⟨p, s', -, -, -, ep, -⟩ := hE.2.1.2 0 h0
  have ep : u.2.1 15 0 = J p := ep
  have e46 : u.2.1 46 0 = J p := by rw [← ep]; exact ((hE.2.2.2 0 h0).1).symm
  have e5 : u.2.1 5 0 = J s := by rw [hE.1.2.2.2.1]; exact es
  unfold f_Nights_wrongDays
  rw [show (0 : Int32) = J 0 from rfl, z_Now_placeOf (by omega), z_bind_some, z_Wheels_sizeOf (by omega), z_bind_some, ep, e5]
  refine z_bind _ (z_Wt_w hE) (fun _ u1 h1 => z_bind _ (z_for2 1 (n + 1) (J 0) (fun i x v => z_Wt E 1 u (i - 1) v ∧ x = J (z_co (z_wr E u k s) (i - 1))) (K := fun y v => y = J (z_co (z_wr E u k s) n) ∧ z_fr [1702, 1206, 704] [18, 19, 9, 13] u v) (by omega) (by omega) ⟨h1.le (by omega), rfl⟩ (fun i x v hi0 hi hp' => ?_) (fun x v hp' => ?_)) (fun y v hv => k_sat_mk hv))
  · obtain ⟨g1, rfl⟩ := hp'
    unfold f_Nights_wrongDays_B28
    dsimp only
    refine z_neg (by (try simp (disch := omega) only [Int32.lt_iff_toInt_lt, Int32.le_iff_toInt_le, ← Int32.toInt_inj, Int32.toInt_add, Int32.toInt_sub, Int32.toInt_mul, Int32.toInt_neg, z_bm, z_bm2, J_ti, J_toInt, z_cn, Int32.reduceToInt]) <;> omega) (z_bind _ (z_Wt_s (K := 1) hE.1 (by omega) g1) (fun _ v' hv' => ?_))
    rw [show i - 1 + 1 = i by omega] at hv'
    rw [show (0 : Int32) = J 0 from rfl, z_Wt_p hv' (by omega) (by omega), z_bind_some]
    unfold f_Nights_dayOf
    rw [hv'.1.1 1205 rfl, c1, z_Wleft hk1 (by omega), z_bind_some, z_bind_some, z_Wleft hs1 hs, z_bind_some, hv'.1.1 1205 rfl, c1, z_Wleft hk1 (by omega), z_bind_some, z_bind_some]
    have hc := z_co_w E u k s i hi0
    rw [e46] at hc
    refine z_ite (fun q => k_sat_mk (Or.inl ⟨_, rfl, by rw [show i + 1 - 1 = i by omega]; exact hv', ?_⟩)) (fun q => k_sat_mk (Or.inl ⟨_, rfl, by rw [show i + 1 - 1 = i by omega]; exact hv', ?_⟩))
    · rw [hc, if_pos q]
    · rw [hc, if_neg q]
  · obtain ⟨g1, rfl⟩ := hp'
    unfold f_Nights_wrongDays_B28
    exact z_pos (by (try simp (disch := omega) only [Int32.lt_iff_toInt_lt, Int32.le_iff_toInt_le, ← Int32.toInt_inj, Int32.toInt_add, Int32.toInt_sub, Int32.toInt_mul, Int32.toInt_neg, z_bm, z_bm2, J_ti, J_toInt, z_cn, Int32.reduceToInt]) <;> omega) (k_sat_mk ⟨_, rfl, rfl, g1.1⟩)
theorem z_wrongR {E : z_E} {u : k_S} {k s n : Nat} (hE : z_ER E u) (hok : z_ok E (z_moR u)) (h0 : 0 < E.1) (hk1 : 1 ≤ k) (hk2 : k ≤ 9) (c2 : u.1 4210 = J k) (hs1 : 1 ≤ s) (hs : s ≤ 40) (es : E.2.2.1 0 = J s) (hn : n ≤ 400) : k_sat (f_R_wrongIn (J n) u) (fun r v => r = J (z_co (z_wr E u k s) n) ∧ z_fr [4230] [54, 55, 60, 61, 62] u v) := by
  have e45 : u.2.1 45 0 = J s := ((hE.2.2.1 0 h0).1).trans es
  unfold f_R_wrongIn
  refine z_bind _ (z_Rt_0 E u) (fun _ u1 h1 => z_bind _ (z_for2 1 (n + 1) 0 (fun i x v => z_Rt E u (i - 1) v ∧ x = J (z_co (z_wr E u k s) (i - 1))) (K := fun y v => y = J (z_co (z_wr E u k s) n) ∧ z_Rt E u n v) (by omega) (by omega) ⟨h1, rfl⟩ (fun i x v hi0 hi hp' => ?_) (fun x v hp' => ?_)) (fun y v hv => z_bind _ (z_Rt_b hE.1 hv.2) (fun _ v' hv' => k_sat_mk ⟨hv.1, hv'⟩)))
  · obtain ⟨g1, rfl⟩ := hp'
    unfold f_R_wrongIn_B8
    dsimp only
    refine z_neg (by (try simp (disch := omega) only [Int32.lt_iff_toInt_lt, Int32.le_iff_toInt_le, ← Int32.toInt_inj, Int32.toInt_add, Int32.toInt_sub, Int32.toInt_mul, Int32.toInt_neg, z_bm, z_bm2, J_ti, J_toInt, z_cn, Int32.reduceToInt]) <;> omega) (z_bind _ (z_Rt_s hE hok g1) (fun _ v' hv' => ?_))
    rw [show i - 1 + 1 = i by omega] at hv'
    have d10 : v'.1 4210 = J k := (hv'.1.1 4210 rfl).trans c2
    have d45 : v'.2.1 45 0 = J s := (congrFun (hv'.1.2.1 45 rfl) 0).trans e45
    rw [show (0 : Int32).toNatClampNeg = 0 from rfl, d10, d45, (z_Rt_p hv' 0).1, (hv'.2.2.2 0 (by omega)).1]
    refine z_ck (by decide) (by decide) (z_nz (by (try simp (disch := omega) only [Int32.lt_iff_toInt_lt, Int32.le_iff_toInt_le, ← Int32.toInt_inj, Int32.toInt_add, Int32.toInt_sub, Int32.toInt_mul, Int32.toInt_neg, z_bm, z_bm2, J_ti, J_toInt, z_cn, Int32.reduceToInt]) <;> omega) (z_ck (by decide) (by decide) (z_ck (by decide) (by decide) (z_nz (by (try simp (disch := omega) only [Int32.lt_iff_toInt_lt, Int32.le_iff_toInt_le, ← Int32.toInt_inj, Int32.toInt_add, Int32.toInt_sub, Int32.toInt_mul, Int32.toInt_neg, z_bm, z_bm2, J_ti, J_toInt, z_cn, Int32.reduceToInt]) <;> omega) (z_nz (by (try simp (disch := omega) only [Int32.lt_iff_toInt_lt, Int32.le_iff_toInt_le, ← Int32.toInt_inj, Int32.toInt_add, Int32.toInt_sub, Int32.toInt_mul, Int32.toInt_neg, z_bm, z_bm2, J_ti, J_toInt, z_cn, Int32.reduceToInt]) <;> omega) ?_)))))
    have hc := z_co_w E u k s i hi0
    refine z_ite (fun q => k_sat_mk (Or.inl ⟨_, rfl, by rw [show i + 1 - 1 = i by omega]; exact hv', ?_⟩)) (fun q => k_sat_mk (Or.inl ⟨_, rfl, by rw [show i + 1 - 1 = i by omega]; exact hv', ?_⟩))
    · rw [hc, if_pos q]
    · rw [hc, if_neg q]
  · obtain ⟨g1, rfl⟩ := hp'
    unfold f_R_wrongIn_B8
    exact z_pos (by (try simp (disch := omega) only [Int32.lt_iff_toInt_lt, Int32.le_iff_toInt_le, ← Int32.toInt_inj, Int32.toInt_add, Int32.toInt_sub, Int32.toInt_mul, Int32.toInt_neg, z_bm, z_bm2, J_ti, J_toInt, z_cn, Int32.reduceToInt]) <;> omega) (k_sat_mk ⟨_, rfl, rfl, by rw [show n + 1 - 1 = n by omega] at g1; exact g1⟩)
