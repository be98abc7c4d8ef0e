theorem z_p1_keep (a0 a1 : Int32) (u : k_S) (hu : u = z_u0) : z_pair (f_W_keep a0 a1) (f_R_keep a0 a1) u (fun _ => True) := by
  subst hu
  refine z_pair_of ?_
  unfold f_W_keep
  by_cases h1 : 0 ≤ a0.toInt ∧ a0.toInt < 6
  · rw [z_Shas h1.1 h1.2, z_bind_some]
    refine z_neg (by decide) ?_
    by_cases h2 : a1 = -1
    · refine z_pos h2 ?_
      unfold f_W_keep_J31 f_W_keep_J46
      refine z_pos h2 (z_bind _ (z_hold a0 (-1) a1 z_u0 h1.1 h1.2) (fun _ u1 hu1 => k_sat_mk ?_))
      unfold f_R_keep f_R_keep_J22
      rw [z_RisShelf h1.1 h1.2, z_bind_some]
      exact z_neg (by decide) (z_pos h2 (z_ck h1.1 (by omega) (z_let (k_sat_mk ⟨rfl, trivial⟩))))
    · refine z_neg h2 ?_
      simp [f_Bodies_has, z_bi, z_bs, z_u0]
      have hR : ∀ u, u.1 4245 = 0 → f_R_isBody a1 u = some (0, u) := fun u hu => by
        unfold f_R_isBody
        rw [hu, z_Rin0 (by ((try simp (disch := omega) only [Int32.lt_iff_toInt_lt, Int32.le_iff_toInt_le, ← Int32.toInt_inj, Int32.toInt_add, Int32.toInt_sub, Int32.toInt_mul, Int32.toInt_neg, z_bm, z_bm2, J_ti, z_cn, Int32.reduceToInt] at *); omega)), z_bind_some]
        exact z_zb0
      refine z_ite (fun h3 => k_sat_mk ?_) (fun h3 => ?_)
      · unfold f_R_keep
        rw [z_RisShelf h1.1 h1.2, z_bind_some, hR _ (by simp)]
        exact z_neg (by decide) (z_neg h2 (by rw [z_bind_some]; exact z_pos rfl (k_sat_mk rfl)))
      · refine z_pos (by ((try simp (disch := omega) only [Int32.lt_iff_toInt_lt, Int32.le_iff_toInt_le, ← Int32.toInt_inj, Int32.toInt_add, Int32.toInt_sub, Int32.toInt_mul, Int32.toInt_neg, z_bm, z_bm2, J_ti, z_cn, Int32.reduceToInt] at *); omega)) (k_sat_mk ?_)
        unfold f_R_keep
        rw [z_RisShelf h1.1 h1.2, z_bind_some, hR _ (by simp)]
        exact z_neg (by decide) (z_neg h2 (by rw [z_bind_some]; exact z_pos rfl (k_sat_mk rfl)))
  · rw [z_Shas0 (by omega), z_bind_some]
    refine z_pos rfl (k_sat_mk ?_)
    unfold f_R_keep
    rw [z_RisShelf0 (by omega), z_bind_some]
    exact z_pos rfl (k_sat_mk ⟨rfl, trivial⟩)
theorem z_p1_put (a0 a1 : Int32) (a2 : Int64) (u : k_S) (hu : u = z_u0) : z_pair (f_W_put a0 a1 a2) (f_R_put a0 a1 a2) u (fun _ => True) := by
  subst hu
  refine z_pair_of ?_
  unfold f_W_put
  by_cases h1 : 0 ≤ a0.toInt ∧ a0.toInt < 6
  · rw [z_Shas h1.1 h1.2, z_bind_some]
    refine z_neg (by decide) ?_
    unfold f_Shelves_refusalAt
    rw [z_SheldBy h1.1 h1.2, z_bind_some, if_pos (z_u0a 39 (Or.inl rfl) h1.1 h1.2), z_bind_some]
    refine z_neg (by decide) (k_sat_mk ?_)
    unfold f_R_put f_R_whyNoPlace
    rw [z_RisShelf h1.1 h1.2, z_bind_some, if_neg (by decide), z_cko _ h1.1 (by omega), if_pos (z_u0a 72 (Or.inr rfl) h1.1 h1.2), z_bind_some]
    exact z_neg (by decide) (k_sat_mk ⟨rfl, trivial⟩)
  · rw [z_Shas0 (by omega), z_bind_some]
    refine z_pos rfl (k_sat_mk ?_)
    unfold f_R_put f_R_whyNoPlace
    rw [z_RisShelf0 (by omega), z_bind_some, if_pos rfl, z_bind_some]
    exact z_neg (by decide) (k_sat_mk ⟨rfl, trivial⟩)
theorem z_p1_records (a0 a1 a2 : Int32) (u : k_S) (hu : u = z_u0) : z_pair (f_W_records a0 a1 a2) (f_R_records a0 a1 a2) u (fun _ => True) := by
  subst hu
  refine z_pair_of ?_
  unfold f_W_records
  by_cases h1 : 0 ≤ a0.toInt ∧ a0.toInt < 6
  · rw [z_Shas h1.1 h1.2, z_bind_some]
    refine z_neg (by decide) ?_
    by_cases h2 : 1 ≤ a2.toInt ∧ a2.toInt ≤ 30
    · refine z_neg (by (try simp (disch := omega) only [Int32.lt_iff_toInt_lt, Int32.le_iff_toInt_le, ← Int32.toInt_inj, Int32.toInt_add, Int32.toInt_sub, Int32.toInt_mul, Int32.toInt_neg, z_bm, z_bm2, J_ti, z_cn, Int32.reduceToInt]) <;> omega) (z_pos (by (try simp (disch := omega) only [Int32.lt_iff_toInt_lt, Int32.le_iff_toInt_le, ← Int32.toInt_inj, Int32.toInt_add, Int32.toInt_sub, Int32.toInt_mul, Int32.toInt_neg, z_bm, z_bm2, J_ti, z_cn, Int32.reduceToInt]) <;> omega) ?_)
      rw [z_SheldBy h1.1 h1.2, z_bind_some]
      refine z_pos (z_u0a 39 (Or.inl rfl) h1.1 h1.2) ?_
      unfold f_W_records_J49
      refine z_bind (fun y u' => y = .inl 0 ∧ u' = z_u0) ?_ (fun y u' h => ?_)
      · rw [z_FU]
        refine z_exit ?_
        unfold f_W_records_B52 f_Shelves_hasElement
        refine z_neg (by (try simp (disch := omega) only [Int32.lt_iff_toInt_lt, Int32.le_iff_toInt_le, ← Int32.toInt_inj, Int32.toInt_add, Int32.toInt_sub, Int32.toInt_mul, Int32.toInt_neg, z_bm, z_bm2, J_ti, z_cn, Int32.reduceToInt]) <;> omega) (z_let ?_)
        rw [z_SheldBy h1.1 h1.2, z_bind_some, if_pos (z_u0a 39 (Or.inl rfl) h1.1 h1.2), z_bind_some]
        exact z_pos rfl (k_sat_mk ⟨_, rfl, rfl, rfl⟩)
      · rw [h.1, h.2]
        refine k_sat_mk ?_
        unfold f_R_records
        rw [z_RisShelf h1.1 h1.2, z_bind_some, z_Rin1 (by (try simp (disch := omega) only [Int32.lt_iff_toInt_lt, Int32.le_iff_toInt_le, ← Int32.toInt_inj, Int32.toInt_add, Int32.toInt_sub, Int32.toInt_mul, Int32.toInt_neg, z_bm, z_bm2, J_ti, z_cn, Int32.reduceToInt]) <;> omega) (by (try simp (disch := omega) only [Int32.lt_iff_toInt_lt, Int32.le_iff_toInt_le, ← Int32.toInt_inj, Int32.toInt_add, Int32.toInt_sub, Int32.toInt_mul, Int32.toInt_neg, z_bm, z_bm2, J_ti, z_cn, Int32.reduceToInt]) <;> omega), z_bind_some]
        refine z_neg (by decide) (z_neg (by decide) (z_ck h1.1 (by omega) (z_pos (z_u0a 72 (Or.inr rfl) h1.1 h1.2) ?_)))
        unfold f_R_records_J43
        exact z_ck h1.1 (by omega) (z_pos (z_u0a 72 (Or.inr rfl) h1.1 h1.2) (k_sat_mk ⟨rfl, trivial⟩))
    · have e : k_sat (f_R_records a0 a1 a2 z_u0) (fun r' _ => (-1 : Int32) = r' ∧ True) := by
        unfold f_R_records
        rw [z_RisShelf h1.1 h1.2, z_bind_some, z_Rin0 (by ((try simp (disch := omega) only [Int32.lt_iff_toInt_lt, Int32.le_iff_toInt_le, ← Int32.toInt_inj, Int32.toInt_add, Int32.toInt_sub, Int32.toInt_mul, Int32.toInt_neg, z_bm, z_bm2, J_ti, z_cn, Int32.reduceToInt] at *); omega)), z_bind_some]
        exact z_neg (by decide) (z_pos rfl (k_sat_mk ⟨rfl, trivial⟩))
      exact z_ite (fun _ => k_sat_mk e) (fun h3 => z_neg (by ((try simp (disch := omega) only [Int32.lt_iff_toInt_lt, Int32.le_iff_toInt_le, ← Int32.toInt_inj, Int32.toInt_add, Int32.toInt_sub, Int32.toInt_mul, Int32.toInt_neg, z_bm, z_bm2, J_ti, z_cn, Int32.reduceToInt] at *); omega)) (k_sat_mk e))
  · rw [z_Shas0 (by omega), z_bind_some]
    refine z_pos rfl (k_sat_mk ?_)
    unfold f_R_records
    rw [z_RisShelf0 (by omega), z_bind_some]
    exact z_pos rfl (k_sat_mk ⟨rfl, trivial⟩)
theorem z_at0 {u : k_S} (h : u.1 101 = 0) (h2 : u.1 1003 = 0) : f_Tape_at (u.1 1003) u = some (-1, u) := by simp [f_Tape_at, h, h2]
theorem z_ei0 {u : k_S} (h : u.1 101 = 0) (h2 : u.1 1003 = 0) : f_Reader_either (f_Reader_single_rec 8) 0 u = some (0, u) := by
  have h8 : f_Reader_single_rec 8 0 u = some (0, u) := by
    show f_Reader_single (f_Reader_single_rec 7) 0 u = _
    unfold f_Reader_single
    rw [z_at0 h h2]
    simp [z_bs, f_Reader_isDigit]
  have hm : f_Reader_multiplied (f_Reader_single_rec 8) 0 u = some (0, u) := by
    unfold f_Reader_multiplied
    rw [h8, z_bs, if_pos rfl]
  have hs : f_Reader_summed (f_Reader_single_rec 8) 0 u = some (0, u) := by
    unfold f_Reader_summed
    rw [hm, z_bs, if_pos rfl]
  have hc : f_Reader_compared (f_Reader_single_rec 8) 0 u = some (0, u) := by
    unfold f_Reader_compared
    rw [hs, z_bs, if_pos rfl]
  have hb : f_Reader_both (f_Reader_single_rec 8) 0 u = some (0, u) := by
    unfold f_Reader_both
    rw [hc, z_bs, if_pos rfl]
  unfold f_Reader_either
  rw [hb, z_bs, if_pos rfl]
theorem z_law0W : k_sat (f_W_law z_u0) (fun r u' => r = -100 ∧ z_fr [101, 1002, 1003] [] z_u0 u') := by
  unfold f_W_law f_Law_takeFromTape f_Reader_readTape
  refine z_bind (fun r u' => r = 0 ∧ z_fr [101, 1002, 1003] [] z_u0 u') (z_bind (fun r u' => r = 0 ∧ z_fr [101, 1002, 1003] [] z_u0 u') (z_let (z_let (z_bind (fun r u' => r = 0 ∧ u' = k_wF (k_wF z_u0 1003 0) 1002 0) ?_ (fun r u' h => ?_)))) (fun r u' h => by rw [h.1]; exact z_neg (by decide) (k_sat_mk ⟨rfl, h.2⟩))) (fun r u' h => by rw [h.1]; exact z_let (z_neg (by decide) (k_sat_mk ⟨by decide, h.2.tr (z_wF rfl)⟩)))
  · unfold f_Reader_lines f_Reader_line
    rw [z_ei0 (by simp [k_wF, z_u0]) (by simp [k_wF, z_u0]), z_bs, if_pos rfl, z_bs, if_pos rfl]
    exact k_sat_mk ⟨rfl, rfl⟩
  · obtain ⟨rfl, rfl⟩ := h
    exact z_pos rfl (k_sat_mk ⟨by simp [k_wF], (z_wF rfl).tr (z_wF rfl)⟩)
def z_q0 (u : k_S) : Prop := u.1 4202 = 0 ∧ u.1 4212 = 0 ∧ u.1 4213 = -1 ∧ u.1 4215 = 0 ∧ u.2.1 51 1 = 0
def z_q1 (u : k_S) : Prop := u.1 4202 = 0 ∧ u.1 4212 = 0 ∧ u.1 4213 = 0 ∧ u.1 4215 = 1 ∧ u.2.1 51 1 = 0
theorem z_look0 {u : k_S} (h : u.1 4202 = 0) (h2 : u.1 4212 = 0) : f_R_look u = some (-1, u) := by simp [f_R_look, h, h2]
theorem z_fig0 {u : k_S} (h : z_q0 u) : k_sat (f_R_figure u) (fun _ u' => z_q1 u') := by
  obtain ⟨h1, h2, h3, h4, h5⟩ := h
  unfold f_R_figure
  refine z_bind (fun y u' => y = (0, 0) ∧ u' = u) ?_ (fun y u' hy => ?_)
  · rw [z_FU]
    refine z_exit ?_
    unfold f_R_figure_B4
    rw [z_look0 h1 h2, z_bs, z_Rin0 (by (try simp (disch := omega) only [Int32.lt_iff_toInt_lt, Int32.le_iff_toInt_le, ← Int32.toInt_inj, Int32.toInt_add, Int32.toInt_sub, Int32.toInt_mul, Int32.toInt_neg, z_bm, z_bm2, J_ti, z_cn, Int32.reduceToInt]) <;> omega), z_bs]
    exact z_neg (by decide) (z_pos rfl (k_sat_mk ⟨_, rfl, rfl, rfl⟩))
  · obtain ⟨rfl, rfl⟩ := hy
    unfold f_R_figure_J52 f_R_figure_J70 f_R_figure_J74 f_R_wrong f_R_addStep
    refine z_pos rfl (z_bind (fun _ u2 => u2 = k_wF u' 4213 (u'.1 4212)) (z_neg (by rw [h3]; decide) (z_let (k_sat_mk rfl))) (fun _ u2 hu2 => ?_))
    subst hu2
    have e : (k_wF u' 4213 (u'.1 4212)).1 4215 = 0 := by simp [k_wF, h4]
    rw [e]
    refine z_bind (fun _ u3 => z_q1 u3) (z_ck (by decide) (by decide) (z_let (z_ck ?_ ?_ (z_let (z_let (k_sat_mk ?_)))))) (fun _ u3 h => k_sat_mk h)
    · simp [k_wA, k_wF, h4]
    · simp [k_wA, k_wF, h4]
    · simp [z_q1, k_wA, k_wF, h1, h2, h3, h4, h5]
theorem z_op0 {rc : k_S → Option (Unit × k_S)} {u : k_S} (h : z_q0 u) : k_sat (f_R_operand rc u) (fun _ u' => z_q1 u') := by
  unfold f_R_operand
  rw [z_look0 h.1 h.2.1, z_bs]
  have : f_R_nameOf (-1) u = some (-1, u) := by simp [f_R_nameOf]
  rw [this, z_bs]
  exact z_pos (by decide) (z_neg (by decide) (z_neg (by decide) (z_neg (by decide) (z_bind _ (z_fig0 h) (fun _ u' h => k_sat_mk h)))))
theorem z_out0 {b : Unit → k_S → Option ((Unit ⊕ Unit) × k_S)} (hb : ∀ u, z_q1 u → b () u = some (.inr (), u)) {u : k_S} (h : z_q1 u) : k_sat (k_itr b k_FU () u) (fun _ u' => z_q1 u') := by
  rw [z_FU]
  refine z_exit ?_
  rw [hb u h]
  exact k_sat_mk ⟨_, rfl, h⟩
theorem z_eiR0 {u : k_S} (h : z_q0 u) : k_sat (f_R_either (f_R_operand_rec 8) u) (fun _ u' => z_q1 u') := by
  have h8 : k_sat (f_R_operand_rec 8 u) (fun _ u' => z_q1 u') := z_op0 (rc := f_R_operand_rec 7) h
  have hp : k_sat (f_R_product (f_R_operand_rec 8) u) (fun _ u' => z_q1 u') := by
    unfold f_R_product
    exact z_bind _ h8 (fun _ u1 h1 => z_bind _ (z_out0 (fun u hu => by unfold f_R_product_B4; rw [if_pos (by rw [hu.2.2.1]; decide)]) h1) (fun _ u2 h2 => k_sat_mk h2))
  have hs : k_sat (f_R_sum (f_R_operand_rec 8) u) (fun _ u' => z_q1 u') := by
    unfold f_R_sum
    exact z_bind _ hp (fun _ u1 h1 => z_bind _ (z_out0 (fun u hu => by unfold f_R_sum_B4; rw [if_pos (by rw [hu.2.2.1]; decide)]) h1) (fun _ u2 h2 => k_sat_mk h2))
  have hc : k_sat (f_R_compared (f_R_operand_rec 8) u) (fun _ u' => z_q1 u') := by
    unfold f_R_compared
    refine z_bind _ hs (fun _ u1 h1 => ?_)
    rw [z_look0 h1.1 h1.2.1, z_bs]
    exact z_pos (by rw [h1.2.2.1]; decide) (k_sat_mk h1)
  have hb : k_sat (f_R_both (f_R_operand_rec 8) u) (fun _ u' => z_q1 u') := by
    unfold f_R_both
    exact z_bind _ hc (fun _ u1 h1 => z_bind _ (z_out0 (fun u hu => by unfold f_R_both_B4; rw [if_pos (by rw [hu.2.2.1]; decide)]) h1) (fun _ u2 h2 => k_sat_mk h2))
  unfold f_R_either
  exact z_bind _ hb (fun _ u1 h1 => z_bind _ (z_out0 (fun u hu => by unfold f_R_either_B4; rw [if_pos (by rw [hu.2.2.1]; decide)]) h1) (fun _ u2 h2 => k_sat_mk h2))
theorem z_law0R {u : k_S} (h : z_fr [101, 1002, 1003] [] z_u0 u) : k_sat (f_R_law u) (fun r _ => r = -100) := by
  have e2 : u.1 4202 = 0 := h.1 4202 rfl
  unfold f_R_law f_R_readText
  refine z_bind (fun r _ => r = 0) (z_let (z_let (z_let (z_let (z_ck (by decide) (by decide) (z_let (z_bind (fun _ u1 => u1.1 4202 = 0 ∧ u1.1 4212 = 0 ∧ u1.1 4213 = 0) ?_ (fun _ u1 h1 => ?_)))))))) (fun r u1 hr => ?_)
  · unfold f_R_line
    refine z_ck (by decide) (by decide) (z_let ?_)
    have e51 : (k_wA (k_wF (k_wF (k_wF (k_wF u 4212 0) 4213 (-1)) 4214 0) 4215 0) 51 (1 : Int32).toNatClampNeg 0).2.1 51 (1 : Int32).toNatClampNeg = 0 := by simp [k_wA, z_up]
    rw [e51]
    refine z_ck (by decide) (by decide) (z_let (z_bind _ (z_eiR0 ?_) (fun _ u2 h2 => z_pos (by rw [h2.2.2.1]; decide) ?_)))
    · simp [z_q0, k_wA, k_wF, e2, z_up]
    · unfold f_R_line_J66
      exact z_ck (by decide) (by decide) (z_let (z_ck (by decide) (by decide) (z_ck (by decide) (by decide) (z_let (k_sat_mk ⟨by simp [k_wA, h2.1], by simp [k_wA, h2.2.1], by simp [k_wA, h2.2.2.1]⟩)))))
  · refine z_bind (fun _ u2 => u2 = u1) ?_ (fun _ u2 h2 => ?_)
    · rw [z_FU]
      refine z_exit ?_
      unfold f_R_readText_B31
      exact z_pos (by rw [h1.2.2]; decide) (k_sat_mk ⟨_, rfl, rfl⟩)
    · subst h2
      unfold f_R_readText_J64 f_R_readText_J86
      have e3 : (k_wF u2 4202 0).1 4213 = 0 := by simp [k_wF, h1.2.2]
      exact z_pos (by rw [h1.2.2]; decide) (z_let (z_neg (by rw [e3]; decide) (k_sat_mk e3)))
  · subst hr
    exact z_neg (by decide) (k_sat_mk rfl)
theorem z_p1_law (u : k_S) (hu : u = z_u0) : z_pair f_W_law f_R_law u (fun _ => True) := by
  subst hu
  refine z_pair_of (z_mono z_law0W (fun r u1 h1 => z_mono (z_law0R h1.2) (fun r' u2 h2 => ⟨by rw [h1.1, h2], trivial⟩)))
theorem z_pass1 {u : k_S} (h : u.1 303 = 0) : k_sat (f_Nights_pass_Thought 1 0 u) (fun _ u' => z_fr [1702] [] u u') := by
  unfold f_Nights_pass_Thought
  refine z_bind (fun _ u' => z_fr [1702] [] u u') ?_ (fun _ u' h => k_sat_mk h)
  rw [z_FU]
  refine z_turn ?_
  unfold f_Nights_pass_Thought_B3
  refine z_neg (by decide) (z_let (z_bind (fun _ u' => z_fr [1702] [] u u') ?_ (fun _ u' h => k_sat_mk ⟨_, rfl, z_exit (z_pos (by decide) (k_sat_mk ⟨_, rfl, h⟩))⟩)))
  refine z_exit ?_
  unfold f_Nights_pass_Thought_B25
  exact z_neg (by decide) (z_pos (by decide) (k_sat_mk ⟨_, rfl, z_wF rfl⟩))
theorem z_p1_round (a0 : Int32) (u : k_S) (hu : u = z_u0) : z_pair (f_W_round a0) (f_R_round a0) u (fun _ => True) := by
  subst hu
  refine z_pair_of ?_
  unfold f_W_round
  by_cases h1 : 1 ≤ a0.toInt ∧ a0.toInt ≤ 20000
  · refine z_neg (by (try simp (disch := omega) only [Int32.lt_iff_toInt_lt, Int32.le_iff_toInt_le, ← Int32.toInt_inj, Int32.toInt_add, Int32.toInt_sub, Int32.toInt_mul, Int32.toInt_neg, z_bm, z_bm2, J_ti, z_cn, Int32.reduceToInt]) <;> omega) (z_pos (by (try simp (disch := omega) only [Int32.lt_iff_toInt_lt, Int32.le_iff_toInt_le, ← Int32.toInt_inj, Int32.toInt_add, Int32.toInt_sub, Int32.toInt_mul, Int32.toInt_neg, z_bm, z_bm2, J_ti, z_cn, Int32.reduceToInt]) <;> omega) (z_bind (fun r u' => r = 1 ∧ z_fr [1702] [] z_u0 u') ?_ (fun r u' h => k_sat_mk ?_)))
    · unfold f_Nights_firstAsNow f_Nights_think f_Thought_become_Now
      refine z_bind (fun _ u' => z_fr [1702] [] z_u0 u') (z_bind (fun _ u' => z_fr [1702] [] z_u0 u') (z_let (z_bind (fun _ u' => z_fr [1702] [] z_u0 u') ?_ (fun _ u' h => k_sat_mk h))) (fun _ u' h => k_sat_mk h)) (fun _ u1 h1' => ?_)
      · rw [z_FU]
        refine z_exit ?_
        unfold f_Thought_become_Now_B10
        exact z_pos (by decide) (k_sat_mk ⟨_, rfl, z_wF rfl⟩)
      · have e3 : u1.1 303 = 0 := h1'.1 303 rfl
        refine z_bind (fun y u' => y = .inl 1 ∧ z_fr [1702] [] z_u0 u') ?_ (fun y u' h => by rw [h.1]; exact k_sat_mk ⟨rfl, h.2⟩)
        rw [z_FU]
        refine z_exit ?_
        unfold f_Nights_firstAsNow_B6
        refine z_neg (by (try simp (disch := omega) only [Int32.lt_iff_toInt_lt, Int32.le_iff_toInt_le, ← Int32.toInt_inj, Int32.toInt_add, Int32.toInt_sub, Int32.toInt_mul, Int32.toInt_neg, z_bm, z_bm2, J_ti, z_cn, Int32.reduceToInt]) <;> omega) ?_
        rw [e3]
        refine z_bind _ (z_pass1 e3) (fun _ u2 h2 => ?_)
        have e4 : u2.1 303 = 0 := (h2.1 303 rfl).trans e3
        rw [e4]
        refine z_bind (fun r u' => r = 1 ∧ u' = u2) ?_ (fun r u3 h3 => by rw [h3.1, h3.2]; exact z_neg (by decide) (k_sat_mk ⟨_, rfl, rfl, h1'.tr h2⟩))
        unfold f_Thought_standsAs_Now
        refine z_bind (fun y u' => y = .inr () ∧ u' = u2) ?_ (fun y u3 h3 => by rw [h3.1, h3.2]; exact k_sat_mk ⟨rfl, rfl⟩)
        rw [z_FU]
        refine z_exit ?_
        unfold f_Thought_standsAs_Now_B2
        exact z_pos (by decide) (k_sat_mk ⟨_, rfl, rfl, rfl⟩)
    · obtain ⟨rfl, h⟩ := h
      have e3 : u'.1 4203 = 0 := h.1 4203 rfl
      unfold f_R_round
      rw [z_Rin1 (by (try simp (disch := omega) only [Int32.lt_iff_toInt_lt, Int32.le_iff_toInt_le, ← Int32.toInt_inj, Int32.toInt_add, Int32.toInt_sub, Int32.toInt_mul, Int32.toInt_neg, z_bm, z_bm2, J_ti, z_cn, Int32.reduceToInt]) <;> omega) (by (try simp (disch := omega) only [Int32.lt_iff_toInt_lt, Int32.le_iff_toInt_le, ← Int32.toInt_inj, Int32.toInt_add, Int32.toInt_sub, Int32.toInt_mul, Int32.toInt_neg, z_bm, z_bm2, J_ti, z_cn, Int32.reduceToInt]) <;> omega), z_bind_some]
      refine z_neg (by decide) (z_bind _ (z_keepNow u') (fun _ u2 h2 => ?_))
      have e4 : u2.1 4203 = 0 := (h2.1.1 4203 rfl).trans e3
      refine z_bind (fun y _ => y = 1) ?_ (fun y u3 hy => ?_)
      · rw [z_FU]
        refine z_turn ?_
        unfold f_R_round_B22
        refine z_neg (by (try simp (disch := omega) only [Int32.lt_iff_toInt_lt, Int32.le_iff_toInt_le, ← Int32.toInt_inj, Int32.toInt_add, Int32.toInt_sub, Int32.toInt_mul, Int32.toInt_neg, z_bm, z_bm2, J_ti, z_cn, Int32.reduceToInt]) <;> omega) (z_neg (by decide) (z_bind _ (z_goOn0 u2 e4) (fun _ u3 h3 => ?_)))
        have e5 : u3.1 4203 = 0 := by rw [h3]; simp [k_wF, e4]
        refine z_bind (fun r _ => r = 1) ?_ (fun r u4 h4 => by rw [h4]; exact z_neg (by decide) (k_sat_mk ⟨_, rfl, z_exit (z_ite (fun _ => k_sat_mk ⟨_, rfl, rfl⟩) (fun _ => z_pos (by decide) (k_sat_mk ⟨_, rfl, rfl⟩)))⟩))
        unfold f_R_isAsWas
        refine z_bind (fun y u' => y = .inr ()) ?_ (fun y u3 h3 => by rw [h3]; exact k_sat_mk rfl)
        rw [z_FU]
        refine z_exit ?_
        unfold f_R_isAsWas_B2
        exact z_pos (by rw [e5]; decide) (k_sat_mk ⟨_, rfl, rfl⟩)
      · unfold f_R_round_J50
        exact z_bind _ (z_layBack u3) (fun _ u4 h4 => k_sat_mk ⟨hy.symm, trivial⟩)
  · have e : k_sat (f_R_round a0 z_u0) (fun r' _ => (-1 : Int32) = r' ∧ True) := by
      unfold f_R_round
      rw [z_Rin0 (by ((try simp (disch := omega) only [Int32.lt_iff_toInt_lt, Int32.le_iff_toInt_le, ← Int32.toInt_inj, Int32.toInt_add, Int32.toInt_sub, Int32.toInt_mul, Int32.toInt_neg, z_bm, z_bm2, J_ti, z_cn, Int32.reduceToInt] at *); omega)), z_bind_some]
      exact z_pos rfl (k_sat_mk ⟨rfl, trivial⟩)
    exact z_ite (fun _ => k_sat_mk e) (fun h3 => z_neg (by ((try simp (disch := omega) only [Int32.lt_iff_toInt_lt, Int32.le_iff_toInt_le, ← Int32.toInt_inj, Int32.toInt_add, Int32.toInt_sub, Int32.toInt_mul, Int32.toInt_neg, z_bm, z_bm2, J_ti, z_cn, Int32.reduceToInt] at *); omega)) (k_sat_mk e))
theorem z_row_any (a0 a1 a2 : Int32) (u : k_S) : z_pair (f_W_row a0 a1 a2) (f_R_row a0 a1 a2) u (fun _ => True) := by
  refine z_pair_of ?_
  unfold f_W_row
  by_cases h1 : 0 ≤ a0.toInt ∧ a0.toInt < 6
  · rw [z_Shas h1.1 h1.2, z_bind_some]
    refine z_neg (by decide) ?_
    by_cases h2 : 0 ≤ a1.toInt ∧ a1.toInt < 5
    · have hR : ∀ u, f_R_in a1 0 4 u = some (1, u) := fun u => z_Rin1 (by (try simp (disch := omega) only [Int32.lt_iff_toInt_lt, Int32.le_iff_toInt_le, ← Int32.toInt_inj, Int32.toInt_add, Int32.toInt_sub, Int32.toInt_mul, Int32.toInt_neg, z_bm, z_bm2, J_ti, z_cn, Int32.reduceToInt]) <;> omega) (by (try simp (disch := omega) only [Int32.lt_iff_toInt_lt, Int32.le_iff_toInt_le, ← Int32.toInt_inj, Int32.toInt_add, Int32.toInt_sub, Int32.toInt_mul, Int32.toInt_neg, z_bm, z_bm2, J_ti, z_cn, Int32.reduceToInt]) <;> omega)
      refine z_neg (by (try simp (disch := omega) only [Int32.lt_iff_toInt_lt, Int32.le_iff_toInt_le, ← Int32.toInt_inj, Int32.toInt_add, Int32.toInt_sub, Int32.toInt_mul, Int32.toInt_neg, z_bm, z_bm2, J_ti, z_cn, Int32.reduceToInt]) <;> omega) (z_neg (by (try simp (disch := omega) only [Int32.lt_iff_toInt_lt, Int32.le_iff_toInt_le, ← Int32.toInt_inj, Int32.toInt_add, Int32.toInt_sub, Int32.toInt_mul, Int32.toInt_neg, z_bm, z_bm2, J_ti, z_cn, Int32.reduceToInt]) <;> omega) ?_)
      by_cases h3 : a2 ≤ 60
      · by_cases h4 : 0 ≤ a2
        · refine z_pos h3 (z_pos h4 (z_bind _ (z_hold a0 a1 a2 u h1.1 h1.2) (fun _ u1 hu1 => k_sat_mk ?_)))
          unfold f_R_row
          rw [z_RisShelf h1.1 h1.2, z_bind_some, hR, z_bind_some]
          exact z_neg (by decide) (z_neg (by decide) (z_pos h3 (z_pos h4 (z_ck h1.1 (by omega) (z_let (z_ck h1.1 (by omega) (z_let (z_let (z_bind _ (z_Rrow a0 _ h1.1 h1.2) (fun _ u2 h => k_sat_mk ⟨rfl, trivial⟩)))))))))) 
        · refine z_pos h3 (z_neg h4 (k_sat_mk ?_))
          unfold f_R_row
          rw [z_RisShelf h1.1 h1.2, z_bind_some, hR, z_bind_some]
          exact z_neg (by decide) (z_neg (by decide) (z_pos h3 (z_neg h4 (k_sat_mk ⟨rfl, trivial⟩))))
      · refine z_neg h3 (k_sat_mk ?_)
        unfold f_R_row
        rw [z_RisShelf h1.1 h1.2, z_bind_some, hR, z_bind_some]
        exact z_neg (by decide) (z_neg (by decide) (z_neg h3 (k_sat_mk ⟨rfl, trivial⟩)))
    · have hR : ∀ u, f_R_in a1 0 4 u = some (0, u) := fun u => z_Rin0 (by ((try simp (disch := omega) only [Int32.lt_iff_toInt_lt, Int32.le_iff_toInt_le, ← Int32.toInt_inj, Int32.toInt_add, Int32.toInt_sub, Int32.toInt_mul, Int32.toInt_neg, z_bm, z_bm2, J_ti, z_cn, Int32.reduceToInt] at *); omega))
      have e : k_sat (f_R_row a0 a1 a2 u) (fun r' _ => (-1 : Int32) = r' ∧ True) := by
        unfold f_R_row
        rw [z_RisShelf h1.1 h1.2, z_bind_some, hR, z_bind_some]
        exact z_neg (by decide) (z_pos rfl (k_sat_mk ⟨rfl, trivial⟩))
      exact z_ite (fun _ => k_sat_mk e) (fun h3 => z_pos (by ((try simp (disch := omega) only [Int32.lt_iff_toInt_lt, Int32.le_iff_toInt_le, ← Int32.toInt_inj, Int32.toInt_add, Int32.toInt_sub, Int32.toInt_mul, Int32.toInt_neg, z_bm, z_bm2, J_ti, z_cn, Int32.reduceToInt] at *); omega)) (k_sat_mk e))
  · rw [z_Shas0 (by omega), z_bind_some]
    refine z_pos rfl (k_sat_mk ?_)
    unfold f_R_row
    rw [z_RisShelf0 (by omega), z_bind_some]
    exact z_pos rfl (k_sat_mk ⟨rfl, trivial⟩)
theorem z_p1_row (a0 a1 a2 : Int32) (u : k_S) (_ : u = z_u0) : z_pair (f_W_row a0 a1 a2) (f_R_row a0 a1 a2) u (fun _ => True) := z_row_any a0 a1 a2 u

theorem k_main (L : Nat) (xs : Nat → Int32) (hL : L ≤ 6) : k_sat (k_itr (fun (x : (Int32)) u => f_law_B18 L xs x u) k_FU 0 z_u0) (fun y _ => y = .inr ()) :=
  k_loopmain L xs (by omega) (fun v u => v = 0 → u = z_u0) (fun _ => rfl) (fun v u hv hu => z_mono (k_body L xs (fun u => u = z_u0) (fun _ => True) z_p1_feed z_p1_wheel z_p1_law z_p1_set z_p1_broke z_p1_tooth z_p1_of z_p1_on z_p1_lay z_p1_shows z_p1_day z_p1_often z_p1_never z_p1_meets z_p1_two z_p1_round z_p1_truth z_p1_near z_p1_record z_p1_records z_p1_clear z_p1_judge z_p1_fits z_p1_sure z_p1_when z_p1_watch z_p1_image z_p1_back z_p1_undo z_p1_redo z_p1_body z_p1_act z_p1_trace z_p1_keep z_p1_row z_p1_put z_p1_element z_p1_shift z_p1_taken z_p1_count (fun _ _ => trivial) v hv (by omega) u (hu (by omega))) (fun y u' h => ⟨h.1, fun h0 => by omega⟩))
