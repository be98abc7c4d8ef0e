/-! THE LAW'S LOOP: one turn, all turns -/
theorem lg_cmp_self (r : Int64) : lg_cmp r r = 0 := by
  unfold lg_cmp
  simp
set_option maxHeartbeats 4000000 in
theorem k_body (L : Nat) (xs : Nat → Int32) (Pa Pb : k_S → Prop) (h_feed : ∀ (a0 : Int32) (u : k_S), Pa u → z_pair (f_W_feed a0) (f_R_feed a0) u Pb) (h_wheel : ∀ (u : k_S), Pa u → z_pair f_W_wheel f_R_wheel u Pb) (h_law : ∀ (u : k_S), Pa u → z_pair f_W_law f_R_law u Pb) (h_set : ∀ (a0 : Int32) (a1 : Int32) (u : k_S), Pa u → z_pair (f_W_set a0 a1) (f_R_set a0 a1) u Pb) (h_broke : ∀ (a0 : Int32) (a1 : Int32) (u : k_S), Pa u → z_pair (f_W_broke a0 a1) (f_R_broke a0 a1) u Pb) (h_tooth : ∀ (a0 : Int32) (a1 : Int32) (a2 : Int32) (u : k_S), Pa u → z_pair (f_W_tooth a0 a1 a2) (f_R_tooth a0 a1 a2) u Pb) (h_of : ∀ (a0 : Int32) (a1 : Int32) (u : k_S), Pa u → z_pair (f_W_of a0 a1) (f_R_of a0 a1) u Pb) (h_on : ∀ (a0 : Int32) (u : k_S), Pa u → z_pair (f_W_on a0) (f_R_on a0) u Pb) (h_lay : ∀ (a0 : Int32) (a1 : Int32) (u : k_S), Pa u → z_pair (f_W_lay a0 a1) (f_R_lay a0 a1) u Pb) (h_shows : ∀ (a0 : Int32) (a1 : Int32) (u : k_S), Pa u → z_pair (f_W_shows a0 a1) (f_R_shows a0 a1) u Pb) (h_day : ∀ (u : k_S), Pa u → z_pair f_W_day f_R_day u Pb) (h_often : ∀ (a0 : Int32) (a1 : Int32) (u : k_S), Pa u → z_pair (f_W_often a0 a1) (f_R_often a0 a1) u Pb) (h_never : ∀ (a0 : Int32) (a1 : Int32) (u : k_S), Pa u → z_pair (f_W_never a0 a1) (f_R_never a0 a1) u Pb) (h_meets : ∀ (a0 : Int32) (a1 : Int32) (a2 : Int32) (u : k_S), Pa u → z_pair (f_W_meets a0 a1 a2) (f_R_meets a0 a1 a2) u Pb) (h_two : ∀ (a0 : Int32) (a1 : Int32) (a2 : Int32) (u : k_S), Pa u → z_pair (f_W_two a0 a1 a2) (f_R_two a0 a1 a2) u Pb) (h_round : ∀ (a0 : Int32) (u : k_S), Pa u → z_pair (f_W_round a0) (f_R_round a0) u Pb) (h_truth : ∀ (a0 : Int32) (u : k_S), Pa u → z_two (f_W_truth a0) (f_R_truth a0) u Pb) (h_near : ∀ (a0 : Int32) (a1 : Int32) (u : k_S), Pa u → z_pair (f_W_near a0 a1) (f_R_near a0 a1) u Pb) (h_record : ∀ (a0 : Int32) (a1 : Int32) (u : k_S), Pa u → z_pair (f_W_record a0 a1) (f_R_record a0 a1) u Pb) (h_records : ∀ (a0 : Int32) (a1 : Int32) (a2 : Int32) (u : k_S), Pa u → z_pair (f_W_records a0 a1 a2) (f_R_records a0 a1 a2) u Pb) (h_clear : ∀ (u : k_S), Pa u → z_pair f_W_clear f_R_clear u Pb) (h_judge : ∀ (u : k_S), Pa u → z_pair f_W_judge f_R_judge u Pb) (h_fits : ∀ (a0 : Int32) (u : k_S), Pa u → z_pair (f_W_fits a0) (f_R_fits a0) u Pb) (h_sure : ∀ (a0 : Int32) (u : k_S), Pa u → z_pair (f_W_sure a0) (f_R_sure a0) u Pb) (h_when : ∀ (a0 : Int32) (u : k_S), Pa u → z_pair (f_W_when a0) (f_R_when a0) u Pb) (h_watch : ∀ (a0 : Int32) (u : k_S), Pa u → z_pair (f_W_watch a0) (f_R_watch a0) u Pb) (h_image : ∀ (u : k_S), Pa u → z_pair f_W_image f_R_image u Pb) (h_back : ∀ (u : k_S), Pa u → z_pair f_W_back f_R_back u Pb) (h_undo : ∀ (u : k_S), Pa u → z_pair f_W_undo f_R_undo u Pb) (h_redo : ∀ (u : k_S), Pa u → z_pair f_W_redo f_R_redo u Pb) (h_body : ∀ (a0 : Int32) (u : k_S), Pa u → z_pair (f_W_body a0) (f_R_body a0) u Pb) (h_act : ∀ (a0 : Int32) (a1 : Int32) (a2 : Int32) (u : k_S), Pa u → z_pair (f_W_act a0 a1 a2) (f_R_act a0 a1 a2) u Pb) (h_trace : ∀ (a0 : Int32) (u : k_S), Pa u → z_pair (f_W_trace a0) (f_R_trace a0) u Pb) (h_keep : ∀ (a0 : Int32) (a1 : Int32) (u : k_S), Pa u → z_pair (f_W_keep a0 a1) (f_R_keep a0 a1) u Pb) (h_row : ∀ (a0 : Int32) (a1 : Int32) (a2 : Int32) (u : k_S), Pa u → z_pair (f_W_row a0 a1 a2) (f_R_row a0 a1 a2) u Pb) (h_put : ∀ (a0 : Int32) (a1 : Int32) (a2 : Int64) (u : k_S), Pa u → z_pair (f_W_put a0 a1 a2) (f_R_put a0 a1 a2) u Pb) (h_element : ∀ (a0 : Int32) (a1 : Int32) (u : k_S), Pa u → z_pair (f_W_element a0 a1) (f_R_element a0 a1) u Pb) (h_shift : ∀ (a0 : Int32) (a1 : Int32) (a2 : Int32) (a3 : Int32) (a4 : Int32) (u : k_S), Pa u → z_pair (f_W_shift a0 a1 a2 a3 a4) (f_R_shift a0 a1 a2 a3 a4) u Pb) (h_taken : ∀ (a0 : Int32) (a1 : Int32) (u : k_S), Pa u → z_pair (f_W_taken a0 a1) (f_R_taken a0 a1) u Pb) (h_count : ∀ (a0 : Int32) (u : k_S), Pa u → z_pair (f_W_count a0) (f_R_count a0) u Pb) (h_none : ∀ u, Pa u → Pb u) (v : Nat) (hv : v + 6 ≤ L) (hL : L ≤ 3072) (u : k_S) (hu : Pa u) : k_sat (f_law_B18 L xs (J v) u) (fun y u' => y = .inl (J v + Int32.ofInt 6) ∧ Pb u') := by
  have hc0 : ∀ {α : Type} (o : Option α), k_ck (J v) L o = o := fun o => z_cko o (by (try simp (disch := omega) only [Int32.lt_iff_toInt_lt, Int32.le_iff_toInt_le, ← Int32.toInt_inj, Int32.toInt_add, Int32.toInt_sub, Int32.toInt_mul, Int32.toInt_neg, z_bm, z_bm2, J_ti, J_toInt, z_cn, Int32.reduceToInt]) <;> omega) (by (try simp (disch := omega) only [Int32.lt_iff_toInt_lt, Int32.le_iff_toInt_le, ← Int32.toInt_inj, Int32.toInt_add, Int32.toInt_sub, Int32.toInt_mul, Int32.toInt_neg, z_bm, z_bm2, J_ti, J_toInt, z_cn, Int32.reduceToInt]) <;> omega)
  have hc1 : ∀ {α : Type} (o : Option α), k_ck (J v + 1) L o = o := fun o => z_cko o (by (try simp (disch := omega) only [Int32.lt_iff_toInt_lt, Int32.le_iff_toInt_le, ← Int32.toInt_inj, Int32.toInt_add, Int32.toInt_sub, Int32.toInt_mul, Int32.toInt_neg, z_bm, z_bm2, J_ti, J_toInt, z_cn, Int32.reduceToInt]) <;> omega) (by (try simp (disch := omega) only [Int32.lt_iff_toInt_lt, Int32.le_iff_toInt_le, ← Int32.toInt_inj, Int32.toInt_add, Int32.toInt_sub, Int32.toInt_mul, Int32.toInt_neg, z_bm, z_bm2, J_ti, J_toInt, z_cn, Int32.reduceToInt]) <;> omega)
  have hc2 : ∀ {α : Type} (o : Option α), k_ck (J v + 2) L o = o := fun o => z_cko o (by (try simp (disch := omega) only [Int32.lt_iff_toInt_lt, Int32.le_iff_toInt_le, ← Int32.toInt_inj, Int32.toInt_add, Int32.toInt_sub, Int32.toInt_mul, Int32.toInt_neg, z_bm, z_bm2, J_ti, J_toInt, z_cn, Int32.reduceToInt]) <;> omega) (by (try simp (disch := omega) only [Int32.lt_iff_toInt_lt, Int32.le_iff_toInt_le, ← Int32.toInt_inj, Int32.toInt_add, Int32.toInt_sub, Int32.toInt_mul, Int32.toInt_neg, z_bm, z_bm2, J_ti, J_toInt, z_cn, Int32.reduceToInt]) <;> omega)
  have hc3 : ∀ {α : Type} (o : Option α), k_ck (J v + 3) L o = o := fun o => z_cko o (by (try simp (disch := omega) only [Int32.lt_iff_toInt_lt, Int32.le_iff_toInt_le, ← Int32.toInt_inj, Int32.toInt_add, Int32.toInt_sub, Int32.toInt_mul, Int32.toInt_neg, z_bm, z_bm2, J_ti, J_toInt, z_cn, Int32.reduceToInt]) <;> omega) (by (try simp (disch := omega) only [Int32.lt_iff_toInt_lt, Int32.le_iff_toInt_le, ← Int32.toInt_inj, Int32.toInt_add, Int32.toInt_sub, Int32.toInt_mul, Int32.toInt_neg, z_bm, z_bm2, J_ti, J_toInt, z_cn, Int32.reduceToInt]) <;> omega)
  have hc4 : ∀ {α : Type} (o : Option α), k_ck (J v + 4) L o = o := fun o => z_cko o (by (try simp (disch := omega) only [Int32.lt_iff_toInt_lt, Int32.le_iff_toInt_le, ← Int32.toInt_inj, Int32.toInt_add, Int32.toInt_sub, Int32.toInt_mul, Int32.toInt_neg, z_bm, z_bm2, J_ti, J_toInt, z_cn, Int32.reduceToInt]) <;> omega) (by (try simp (disch := omega) only [Int32.lt_iff_toInt_lt, Int32.le_iff_toInt_le, ← Int32.toInt_inj, Int32.toInt_add, Int32.toInt_sub, Int32.toInt_mul, Int32.toInt_neg, z_bm, z_bm2, J_ti, J_toInt, z_cn, Int32.reduceToInt]) <;> omega)
  have hc5 : ∀ {α : Type} (o : Option α), k_ck (J v + 5) L o = o := fun o => z_cko o (by (try simp (disch := omega) only [Int32.lt_iff_toInt_lt, Int32.le_iff_toInt_le, ← Int32.toInt_inj, Int32.toInt_add, Int32.toInt_sub, Int32.toInt_mul, Int32.toInt_neg, z_bm, z_bm2, J_ti, J_toInt, z_cn, Int32.reduceToInt]) <;> omega) (by (try simp (disch := omega) only [Int32.lt_iff_toInt_lt, Int32.le_iff_toInt_le, ← Int32.toInt_inj, Int32.toInt_add, Int32.toInt_sub, Int32.toInt_mul, Int32.toInt_neg, z_bm, z_bm2, J_ti, J_toInt, z_cn, Int32.reduceToInt]) <;> omega)
  unfold f_law_B18
  refine z_neg ?_ ?_
  · (try simp (disch := omega) only [Int32.lt_iff_toInt_lt, Int32.le_iff_toInt_le, ← Int32.toInt_inj, Int32.toInt_add, Int32.toInt_sub, Int32.toInt_mul, Int32.toInt_neg, z_bm, z_bm2, J_ti, J_toInt, z_cn, Int32.reduceToInt]) <;> omega
  rw [hc0]
  refine z_ite (fun _ => ?_) (fun _ => ?_)
  · obtain ⟨r, u1, u2, a, b, c⟩ := h_feed (xs (J v + 1).toNatClampNeg) u hu
    simp only [hc1, hc2, hc3, hc4, hc5, a, b, k_bind, if_true, lg_cmp_self]
    exact k_sat_mk ⟨rfl, c⟩
  refine z_ite (fun _ => ?_) (fun _ => ?_)
  · obtain ⟨r, u1, u2, a, b, c⟩ := h_wheel  u hu
    simp only [hc1, hc2, hc3, hc4, hc5, a, b, k_bind, if_true, lg_cmp_self]
    exact k_sat_mk ⟨rfl, c⟩
  refine z_ite (fun _ => ?_) (fun _ => ?_)
  · obtain ⟨r, u1, u2, a, b, c⟩ := h_law  u hu
    simp only [hc1, hc2, hc3, hc4, hc5, a, b, k_bind, if_true, lg_cmp_self]
    exact k_sat_mk ⟨rfl, c⟩
  refine z_ite (fun _ => ?_) (fun _ => ?_)
  · obtain ⟨r, u1, u2, a, b, c⟩ := h_set (xs (J v + 1).toNatClampNeg) (xs (J v + 2).toNatClampNeg) u hu
    simp only [hc1, hc2, hc3, hc4, hc5, a, b, k_bind, if_true, lg_cmp_self]
    exact k_sat_mk ⟨rfl, c⟩
  refine z_ite (fun _ => ?_) (fun _ => ?_)
  · obtain ⟨r, u1, u2, a, b, c⟩ := h_broke (xs (J v + 1).toNatClampNeg) (xs (J v + 2).toNatClampNeg) u hu
    simp only [hc1, hc2, hc3, hc4, hc5, a, b, k_bind, if_true, lg_cmp_self]
    exact k_sat_mk ⟨rfl, c⟩
  refine z_ite (fun _ => ?_) (fun _ => ?_)
  · obtain ⟨r, u1, u2, a, b, c⟩ := h_tooth (xs (J v + 1).toNatClampNeg) (xs (J v + 2).toNatClampNeg) (xs (J v + 3).toNatClampNeg) u hu
    simp only [hc1, hc2, hc3, hc4, hc5, a, b, k_bind, if_true, lg_cmp_self]
    exact k_sat_mk ⟨rfl, c⟩
  refine z_ite (fun _ => ?_) (fun _ => ?_)
  · obtain ⟨r, u1, u2, a, b, c⟩ := h_of (xs (J v + 1).toNatClampNeg) (xs (J v + 2).toNatClampNeg) u hu
    simp only [hc1, hc2, hc3, hc4, hc5, a, b, k_bind, if_true, lg_cmp_self]
    exact k_sat_mk ⟨rfl, c⟩
  refine z_ite (fun _ => ?_) (fun _ => ?_)
  · obtain ⟨r, u1, u2, a, b, c⟩ := h_on (xs (J v + 1).toNatClampNeg) u hu
    simp only [hc1, hc2, hc3, hc4, hc5, a, b, k_bind, if_true, lg_cmp_self]
    exact k_sat_mk ⟨rfl, c⟩
  refine z_ite (fun _ => ?_) (fun _ => ?_)
  · obtain ⟨r, u1, u2, a, b, c⟩ := h_lay (xs (J v + 1).toNatClampNeg) (xs (J v + 2).toNatClampNeg) u hu
    simp only [hc1, hc2, hc3, hc4, hc5, a, b, k_bind, if_true, lg_cmp_self]
    exact k_sat_mk ⟨rfl, c⟩
  refine z_ite (fun _ => ?_) (fun _ => ?_)
  · obtain ⟨r, u1, u2, a, b, c⟩ := h_shows (xs (J v + 1).toNatClampNeg) (xs (J v + 2).toNatClampNeg) u hu
    simp only [hc1, hc2, hc3, hc4, hc5, a, b, k_bind, if_true, lg_cmp_self]
    exact k_sat_mk ⟨rfl, c⟩
  refine z_ite (fun _ => ?_) (fun _ => ?_)
  · obtain ⟨r, u1, u2, a, b, c⟩ := h_day  u hu
    simp only [hc1, hc2, hc3, hc4, hc5, a, b, k_bind, if_true, lg_cmp_self]
    exact k_sat_mk ⟨rfl, c⟩
  refine z_ite (fun _ => ?_) (fun _ => ?_)
  · obtain ⟨r, u1, u2, a, b, c⟩ := h_often (xs (J v + 1).toNatClampNeg) (xs (J v + 2).toNatClampNeg) u hu
    simp only [hc1, hc2, hc3, hc4, hc5, a, b, k_bind, if_true, lg_cmp_self]
    exact k_sat_mk ⟨rfl, c⟩
  refine z_ite (fun _ => ?_) (fun _ => ?_)
  · obtain ⟨r, u1, u2, a, b, c⟩ := h_never (xs (J v + 1).toNatClampNeg) (xs (J v + 2).toNatClampNeg) u hu
    simp only [hc1, hc2, hc3, hc4, hc5, a, b, k_bind, if_true, lg_cmp_self]
    exact k_sat_mk ⟨rfl, c⟩
  refine z_ite (fun _ => ?_) (fun _ => ?_)
  · obtain ⟨r, u1, u2, a, b, c⟩ := h_meets (xs (J v + 1).toNatClampNeg) (xs (J v + 2).toNatClampNeg) (xs (J v + 3).toNatClampNeg) u hu
    simp only [hc1, hc2, hc3, hc4, hc5, a, b, k_bind, if_true, lg_cmp_self]
    exact k_sat_mk ⟨rfl, c⟩
  refine z_ite (fun _ => ?_) (fun _ => ?_)
  · obtain ⟨r, u1, u2, a, b, c⟩ := h_two (xs (J v + 1).toNatClampNeg) (xs (J v + 2).toNatClampNeg) (xs (J v + 3).toNatClampNeg) u hu
    simp only [hc1, hc2, hc3, hc4, hc5, a, b, k_bind, if_true, lg_cmp_self]
    exact k_sat_mk ⟨rfl, c⟩
  refine z_ite (fun _ => ?_) (fun _ => ?_)
  · obtain ⟨r, u1, u2, a, b, c⟩ := h_round (xs (J v + 1).toNatClampNeg) u hu
    simp only [hc1, hc2, hc3, hc4, hc5, a, b, k_bind, if_true, lg_cmp_self]
    exact k_sat_mk ⟨rfl, c⟩
  refine z_ite (fun _ => ?_) (fun _ => ?_)
  · obtain ⟨r, r', u1, u2, a, b, c⟩ := h_truth (xs (J v + 1).toNatClampNeg) u hu
    simp only [hc1, hc2, hc3, hc4, hc5, a, b, k_bind, if_true, lg_cmp_self]
    exact k_sat_mk ⟨rfl, c⟩
  refine z_ite (fun _ => ?_) (fun _ => ?_)
  · obtain ⟨r, u1, u2, a, b, c⟩ := h_near (xs (J v + 1).toNatClampNeg) (xs (J v + 2).toNatClampNeg) u hu
    simp only [hc1, hc2, hc3, hc4, hc5, a, b, k_bind, if_true, lg_cmp_self]
    exact k_sat_mk ⟨rfl, c⟩
  refine z_ite (fun _ => ?_) (fun _ => ?_)
  · obtain ⟨r, u1, u2, a, b, c⟩ := h_record (xs (J v + 1).toNatClampNeg) (xs (J v + 2).toNatClampNeg) u hu
    simp only [hc1, hc2, hc3, hc4, hc5, a, b, k_bind, if_true, lg_cmp_self]
    exact k_sat_mk ⟨rfl, c⟩
  refine z_ite (fun _ => ?_) (fun _ => ?_)
  · obtain ⟨r, u1, u2, a, b, c⟩ := h_records (xs (J v + 1).toNatClampNeg) (xs (J v + 2).toNatClampNeg) (xs (J v + 3).toNatClampNeg) u hu
    simp only [hc1, hc2, hc3, hc4, hc5, a, b, k_bind, if_true, lg_cmp_self]
    exact k_sat_mk ⟨rfl, c⟩
  refine z_ite (fun _ => ?_) (fun _ => ?_)
  · obtain ⟨r, u1, u2, a, b, c⟩ := h_clear  u hu
    simp only [hc1, hc2, hc3, hc4, hc5, a, b, k_bind, if_true, lg_cmp_self]
    exact k_sat_mk ⟨rfl, c⟩
  refine z_ite (fun _ => ?_) (fun _ => ?_)
  · obtain ⟨r, u1, u2, a, b, c⟩ := h_judge  u hu
    simp only [hc1, hc2, hc3, hc4, hc5, a, b, k_bind, if_true, lg_cmp_self]
    exact k_sat_mk ⟨rfl, c⟩
  refine z_ite (fun _ => ?_) (fun _ => ?_)
  · obtain ⟨r, u1, u2, a, b, c⟩ := h_fits (xs (J v + 1).toNatClampNeg) u hu
    simp only [hc1, hc2, hc3, hc4, hc5, a, b, k_bind, if_true, lg_cmp_self]
    exact k_sat_mk ⟨rfl, c⟩
  refine z_ite (fun _ => ?_) (fun _ => ?_)
  · obtain ⟨r, u1, u2, a, b, c⟩ := h_sure (xs (J v + 1).toNatClampNeg) u hu
    simp only [hc1, hc2, hc3, hc4, hc5, a, b, k_bind, if_true, lg_cmp_self]
    exact k_sat_mk ⟨rfl, c⟩
  refine z_ite (fun _ => ?_) (fun _ => ?_)
  · obtain ⟨r, u1, u2, a, b, c⟩ := h_when (xs (J v + 1).toNatClampNeg) u hu
    simp only [hc1, hc2, hc3, hc4, hc5, a, b, k_bind, if_true, lg_cmp_self]
    exact k_sat_mk ⟨rfl, c⟩
  refine z_ite (fun _ => ?_) (fun _ => ?_)
  · obtain ⟨r, u1, u2, a, b, c⟩ := h_watch (xs (J v + 1).toNatClampNeg) u hu
    simp only [hc1, hc2, hc3, hc4, hc5, a, b, k_bind, if_true, lg_cmp_self]
    exact k_sat_mk ⟨rfl, c⟩
  refine z_ite (fun _ => ?_) (fun _ => ?_)
  · obtain ⟨r, u1, u2, a, b, c⟩ := h_image  u hu
    simp only [hc1, hc2, hc3, hc4, hc5, a, b, k_bind, if_true, lg_cmp_self]
    exact k_sat_mk ⟨rfl, c⟩
  refine z_ite (fun _ => ?_) (fun _ => ?_)
  · obtain ⟨r, u1, u2, a, b, c⟩ := h_back  u hu
    simp only [hc1, hc2, hc3, hc4, hc5, a, b, k_bind, if_true, lg_cmp_self]
    exact k_sat_mk ⟨rfl, c⟩
  refine z_ite (fun _ => ?_) (fun _ => ?_)
  · obtain ⟨r, u1, u2, a, b, c⟩ := h_undo  u hu
    simp only [hc1, hc2, hc3, hc4, hc5, a, b, k_bind, if_true, lg_cmp_self]
    exact k_sat_mk ⟨rfl, c⟩
  refine z_ite (fun _ => ?_) (fun _ => ?_)
  · obtain ⟨r, u1, u2, a, b, c⟩ := h_redo  u hu
    simp only [hc1, hc2, hc3, hc4, hc5, a, b, k_bind, if_true, lg_cmp_self]
    exact k_sat_mk ⟨rfl, c⟩
  refine z_ite (fun _ => ?_) (fun _ => ?_)
  · obtain ⟨r, u1, u2, a, b, c⟩ := h_body (xs (J v + 1).toNatClampNeg) u hu
    simp only [hc1, hc2, hc3, hc4, hc5, a, b, k_bind, if_true, lg_cmp_self]
    exact k_sat_mk ⟨rfl, c⟩
  refine z_ite (fun _ => ?_) (fun _ => ?_)
  · obtain ⟨r, u1, u2, a, b, c⟩ := h_act (xs (J v + 1).toNatClampNeg) (xs (J v + 2).toNatClampNeg) (xs (J v + 3).toNatClampNeg) u hu
    simp only [hc1, hc2, hc3, hc4, hc5, a, b, k_bind, if_true, lg_cmp_self]
    exact k_sat_mk ⟨rfl, c⟩
  refine z_ite (fun _ => ?_) (fun _ => ?_)
  · obtain ⟨r, u1, u2, a, b, c⟩ := h_trace (xs (J v + 1).toNatClampNeg) u hu
    simp only [hc1, hc2, hc3, hc4, hc5, a, b, k_bind, if_true, lg_cmp_self]
    exact k_sat_mk ⟨rfl, c⟩
  refine z_ite (fun _ => ?_) (fun _ => ?_)
  · obtain ⟨r, u1, u2, a, b, c⟩ := h_keep (xs (J v + 1).toNatClampNeg) (xs (J v + 2).toNatClampNeg) u hu
    simp only [hc1, hc2, hc3, hc4, hc5, a, b, k_bind, if_true, lg_cmp_self]
    exact k_sat_mk ⟨rfl, c⟩
  refine z_ite (fun _ => ?_) (fun _ => ?_)
  · obtain ⟨r, u1, u2, a, b, c⟩ := h_row (xs (J v + 1).toNatClampNeg) (xs (J v + 2).toNatClampNeg) (xs (J v + 3).toNatClampNeg) u hu
    simp only [hc1, hc2, hc3, hc4, hc5, a, b, k_bind, if_true, lg_cmp_self]
    exact k_sat_mk ⟨rfl, c⟩
  refine z_ite (fun _ => ?_) (fun _ => ?_)
  · obtain ⟨r, u1, u2, a, b, c⟩ := h_put (xs (J v + 1).toNatClampNeg) (xs (J v + 2).toNatClampNeg) ((((xs (J v + 3).toNatClampNeg).toInt64) <<< ((32 : Int32).toInt64 &&& 63)) ||| (((xs (J v + 4).toNatClampNeg).toInt64) &&& 4294967295)) u hu
    simp only [hc1, hc2, hc3, hc4, hc5, a, b, k_bind, if_true, lg_cmp_self]
    exact k_sat_mk ⟨rfl, c⟩
  refine z_ite (fun _ => ?_) (fun _ => ?_)
  · obtain ⟨r, u1, u2, a, b, c⟩ := h_element (xs (J v + 1).toNatClampNeg) (xs (J v + 2).toNatClampNeg) u hu
    simp only [hc1, hc2, hc3, hc4, hc5, a, b, k_bind, if_true, lg_cmp_self]
    exact k_sat_mk ⟨rfl, c⟩
  refine z_ite (fun _ => ?_) (fun _ => ?_)
  · obtain ⟨r, u1, u2, a, b, c⟩ := h_shift (xs (J v + 1).toNatClampNeg) (xs (J v + 2).toNatClampNeg) (xs (J v + 3).toNatClampNeg) (xs (J v + 4).toNatClampNeg) (xs (J v + 5).toNatClampNeg) u hu
    simp only [hc1, hc2, hc3, hc4, hc5, a, b, k_bind, if_true, lg_cmp_self]
    exact k_sat_mk ⟨rfl, c⟩
  refine z_ite (fun _ => ?_) (fun _ => ?_)
  · obtain ⟨r, u1, u2, a, b, c⟩ := h_taken (xs (J v + 1).toNatClampNeg) (xs (J v + 2).toNatClampNeg) u hu
    simp only [hc1, hc2, hc3, hc4, hc5, a, b, k_bind, if_true, lg_cmp_self]
    exact k_sat_mk ⟨rfl, c⟩
  refine z_ite (fun _ => ?_) (fun _ => ?_)
  · obtain ⟨r, u1, u2, a, b, c⟩ := h_count (xs (J v + 1).toNatClampNeg) u hu
    simp only [hc1, hc2, hc3, hc4, hc5, a, b, k_bind, if_true, lg_cmp_self]
    exact k_sat_mk ⟨rfl, c⟩
  exact k_sat_mk ⟨rfl, h_none u hu⟩
theorem k_loopmain (L : Nat) (xs : Nat → Int32) (hL : L ≤ 3072) (I : Nat → k_S → Prop) {u : k_S} (h0 : I 0 u) (hb : ∀ v u, v + 6 ≤ L → I v u → k_sat (f_law_B18 L xs (J v) u) (fun y u' => y = .inl (J v + Int32.ofInt 6) ∧ I (v + 6) u')) : k_sat (k_itr (fun (x : (Int32)) u => f_law_B18 L xs x u) k_FU 0 u) (fun y _ => y = .inr ()) := by
  refine z_itr (P := fun m x u => ∃ v, x = J v ∧ m = L - v ∧ v ≤ L ∧ I v u) (fun m x u h => ?_) k_FU L 0 u (by unfold k_FU; omega) ⟨0, rfl, rfl, Nat.zero_le L, h0⟩
  obtain ⟨v, rfl, rfl, hv, hi⟩ := h
  by_cases e : v + 6 ≤ L
  · refine z_mono (hb v u e hi) (fun z u' h => Or.inl ⟨J (v + 6), L - (v + 6), ?_, by omega, v + 6, rfl, rfl, e, h.2⟩)
    rw [h.1, J, J, Int32.ofNat_add]
    rfl
  · unfold f_law_B18
    refine z_pos ?_ (k_sat_mk (Or.inr ⟨_, rfl, rfl⟩))
    (try simp (disch := omega) only [Int32.lt_iff_toInt_lt, Int32.le_iff_toInt_le, ← Int32.toInt_inj, Int32.toInt_add, Int32.toInt_sub, Int32.toInt_mul, Int32.toInt_neg, z_bm, z_bm2, J_ti, J_toInt, z_cn, Int32.reduceToInt]) <;> omega
