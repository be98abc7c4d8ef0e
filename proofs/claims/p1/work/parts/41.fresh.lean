theorem z_bi {α β : Type} {c : Prop} {d : Decidable c} {a b : Option (α × k_S)} {f : α → k_S → Option (β × k_S)} : k_bind (if c then a else b) f = if c then k_bind a f else k_bind b f := by
  by_cases h : c
  · rw [if_pos h, if_pos h]
  · rw [if_neg h, if_neg h]
theorem z_bs {α β : Type} {a : α} {u : k_S} {f : α → k_S → Option (β × k_S)} : k_bind (some (a, u)) f = f a u := rfl
theorem z_bl {α β γ : Type} {a : γ} {g : γ → Option (α × k_S)} {f : α → k_S → Option (β × k_S)} : k_bind (k_let a g) f = k_let a (fun x => k_bind (g x) f) := rfl
theorem z_bc {α β : Type} {i : Int32} {n : Nat} {o : Option (α × k_S)} {f : α → k_S → Option (β × k_S)} : k_bind (k_ck i n o) f = k_ck i n (k_bind o f) := by
  unfold k_ck
  by_cases h : i < 0 ∨ n ≤ i.toNatClampNeg
  · rw [if_pos h, if_pos h]; rfl
  · rw [if_neg h, if_neg h]
theorem z_bb {α β γ : Type} {o : Option (α × k_S)} {f : α → k_S → Option (β × k_S)} {g : β → k_S → Option (γ × k_S)} : k_bind (k_bind o f) g = k_bind o (fun a u => k_bind (f a u) g) := by
  cases o <;> rfl
theorem z_bz {α β : Type} {x : Int32} {o : Option (α × k_S)} {f : α → k_S → Option (β × k_S)} : k_bind (k_zb x o) f = k_zb x (k_bind o f) := by
  unfold k_zb
  by_cases h : x &&& 1 = x
  · rw [if_pos h, if_pos h]
  · rw [if_neg h, if_neg h]; rfl
def z_cat {α : Type} (f g : k_S → Option (α × k_S)) (u : k_S) : Option ((α × α) × k_S) := k_bind (f u) (fun r u1 => k_bind (g u1) (fun r' u2 => some ((r, r'), u2)))
theorem z_pair_cat {α : Type} {f g : k_S → Option (α × k_S)} {u : k_S} {P : k_S → Prop} (h : k_sat (z_cat f g u) (fun p u' => p.1 = p.2 ∧ P u')) : z_pair f g u P := by
  refine z_pair_of ?_
  unfold z_cat at h
  refine z_mono (k_sat_bind h) (fun r u1 h1 => z_mono (k_sat_bind h1) (fun r' u2 h2 => ?_))
  exact k_sat_some h2
theorem z_zb0 {α : Type} {o : Option α} : k_zb 0 o = o := by unfold k_zb; rw [if_pos (by decide)]
theorem z_zb1 {α : Type} {o : Option α} : k_zb 1 o = o := by unfold k_zb; rw [if_pos (by decide)]

set_option maxHeartbeats 2000000 in
theorem z_p1_set (a0 a1 : Int32) (u : k_S) (hu : u = z_u0) : z_pair (f_W_set a0 a1) (f_R_set a0 a1) u (fun _ => True) := by
  subst hu
  refine z_pair_cat ?_
  simp [z_cat, z_bi, z_bs, z_bl, z_bc, z_bb, z_bz, z_zb0, z_zb1, k_let, f_W_set, f_R_set, f_W_set_J33, f_R_set_J26, f_R_in, f_R_isWheel, f_Wheels_has, f_Wheels_hasPlace, f_W_isSpot, f_R_isSpot, f_Tape_append, f_Tape_at, f_R_isShelf, f_Shelves_has, f_Shelves_heldBy, f_R_isBody, f_Bodies_has, f_Changes_add, f_Records_add, f_Shelves_refusalAt, f_R_whyNoPlace, f_Bodies_add, f_Bodies_forgetTrace, f_R_isRecord, f_W_isRecord, f_R_addRecord, z_u0, k_wF, k_wA]
  repeat' (first | exact k_sat_mk rfl | refine z_ite (fun _ => ?_) (fun _ => ?_))
  all_goals (exfalso; (try simp (disch := omega) only [Int32.lt_iff_toInt_lt, Int32.le_iff_toInt_le, ← Int32.toInt_inj, Int32.toInt_add, Int32.toInt_sub, Int32.toInt_mul, Int32.toInt_neg, z_bm, z_bm2, J_ti, z_cn, Int32.reduceToInt] at *); omega)
set_option maxHeartbeats 2000000 in
theorem z_p1_broke (a0 a1 : Int32) (u : k_S) (hu : u = z_u0) : z_pair (f_W_broke a0 a1) (f_R_broke a0 a1) u (fun _ => True) := by
  subst hu
  refine z_pair_cat ?_
  simp [z_cat, z_bi, z_bs, z_bl, z_bc, z_bb, z_bz, z_zb0, z_zb1, k_let, f_W_broke, f_R_broke, f_R_in, f_R_isWheel, f_Wheels_has, f_Wheels_hasPlace, f_W_isSpot, f_R_isSpot, f_Tape_append, f_Tape_at, f_R_isShelf, f_Shelves_has, f_Shelves_heldBy, f_R_isBody, f_Bodies_has, f_Changes_add, f_Records_add, f_Shelves_refusalAt, f_R_whyNoPlace, f_Bodies_add, f_Bodies_forgetTrace, f_R_isRecord, f_W_isRecord, f_R_addRecord, z_u0, k_wF, k_wA]
  repeat' (first | exact k_sat_mk rfl | refine z_ite (fun _ => ?_) (fun _ => ?_))
  all_goals (exfalso; (try simp (disch := omega) only [Int32.lt_iff_toInt_lt, Int32.le_iff_toInt_le, ← Int32.toInt_inj, Int32.toInt_add, Int32.toInt_sub, Int32.toInt_mul, Int32.toInt_neg, z_bm, z_bm2, J_ti, z_cn, Int32.reduceToInt] at *); omega)
set_option maxHeartbeats 2000000 in
theorem z_p1_tooth (a0 a1 a2 : Int32) (u : k_S) (hu : u = z_u0) : z_pair (f_W_tooth a0 a1 a2) (f_R_tooth a0 a1 a2) u (fun _ => True) := by
  subst hu
  refine z_pair_cat ?_
  simp [z_cat, z_bi, z_bs, z_bl, z_bc, z_bb, z_bz, z_zb0, z_zb1, k_let, f_W_tooth, f_R_tooth, f_R_in, f_R_isWheel, f_Wheels_has, f_Wheels_hasPlace, f_W_isSpot, f_R_isSpot, f_Tape_append, f_Tape_at, f_R_isShelf, f_Shelves_has, f_Shelves_heldBy, f_R_isBody, f_Bodies_has, f_Changes_add, f_Records_add, f_Shelves_refusalAt, f_R_whyNoPlace, f_Bodies_add, f_Bodies_forgetTrace, f_R_isRecord, f_W_isRecord, f_R_addRecord, z_u0, k_wF, k_wA]
  repeat' (first | exact k_sat_mk rfl | refine z_ite (fun _ => ?_) (fun _ => ?_))
  all_goals (exfalso; (try simp (disch := omega) only [Int32.lt_iff_toInt_lt, Int32.le_iff_toInt_le, ← Int32.toInt_inj, Int32.toInt_add, Int32.toInt_sub, Int32.toInt_mul, Int32.toInt_neg, z_bm, z_bm2, J_ti, z_cn, Int32.reduceToInt] at *); omega)
set_option maxHeartbeats 2000000 in
theorem z_p1_of (a0 a1 : Int32) (u : k_S) (hu : u = z_u0) : z_pair (f_W_of a0 a1) (f_R_of a0 a1) u (fun _ => True) := by
  subst hu
  refine z_pair_cat ?_
  simp [z_cat, z_bi, z_bs, z_bl, z_bc, z_bb, z_bz, z_zb0, z_zb1, k_let, f_W_of, f_R_of, f_R_in, f_R_isWheel, f_Wheels_has, f_Wheels_hasPlace, f_W_isSpot, f_R_isSpot, f_Tape_append, f_Tape_at, f_R_isShelf, f_Shelves_has, f_Shelves_heldBy, f_R_isBody, f_Bodies_has, f_Changes_add, f_Records_add, f_Shelves_refusalAt, f_R_whyNoPlace, f_Bodies_add, f_Bodies_forgetTrace, f_R_isRecord, f_W_isRecord, f_R_addRecord, z_u0, k_wF, k_wA]
  repeat' (first | exact k_sat_mk rfl | refine z_ite (fun _ => ?_) (fun _ => ?_))
  all_goals (exfalso; (try simp (disch := omega) only [Int32.lt_iff_toInt_lt, Int32.le_iff_toInt_le, ← Int32.toInt_inj, Int32.toInt_add, Int32.toInt_sub, Int32.toInt_mul, Int32.toInt_neg, z_bm, z_bm2, J_ti, z_cn, Int32.reduceToInt] at *); omega)
set_option maxHeartbeats 2000000 in
theorem z_p1_lay (a0 a1 : Int32) (u : k_S) (hu : u = z_u0) : z_pair (f_W_lay a0 a1) (f_R_lay a0 a1) u (fun _ => True) := by
  subst hu
  refine z_pair_cat ?_
  simp [z_cat, z_bi, z_bs, z_bl, z_bc, z_bb, z_bz, z_zb0, z_zb1, k_let, f_W_lay, f_R_lay, f_R_in, f_R_isWheel, f_Wheels_has, f_Wheels_hasPlace, f_W_isSpot, f_R_isSpot, f_Tape_append, f_Tape_at, f_R_isShelf, f_Shelves_has, f_Shelves_heldBy, f_R_isBody, f_Bodies_has, f_Changes_add, f_Records_add, f_Shelves_refusalAt, f_R_whyNoPlace, f_Bodies_add, f_Bodies_forgetTrace, f_R_isRecord, f_W_isRecord, f_R_addRecord, z_u0, k_wF, k_wA]
  repeat' (first | exact k_sat_mk rfl | refine z_ite (fun _ => ?_) (fun _ => ?_))
  all_goals (exfalso; (try simp (disch := omega) only [Int32.lt_iff_toInt_lt, Int32.le_iff_toInt_le, ← Int32.toInt_inj, Int32.toInt_add, Int32.toInt_sub, Int32.toInt_mul, Int32.toInt_neg, z_bm, z_bm2, J_ti, z_cn, Int32.reduceToInt] at *); omega)
set_option maxHeartbeats 2000000 in
theorem z_p1_shows (a0 a1 : Int32) (u : k_S) (hu : u = z_u0) : z_pair (f_W_shows a0 a1) (f_R_shows a0 a1) u (fun _ => True) := by
  subst hu
  refine z_pair_cat ?_
  simp [z_cat, z_bi, z_bs, z_bl, z_bc, z_bb, z_bz, z_zb0, z_zb1, k_let, f_W_shows, f_R_shows, f_R_in, f_R_isWheel, f_Wheels_has, f_Wheels_hasPlace, f_W_isSpot, f_R_isSpot, f_Tape_append, f_Tape_at, f_R_isShelf, f_Shelves_has, f_Shelves_heldBy, f_R_isBody, f_Bodies_has, f_Changes_add, f_Records_add, f_Shelves_refusalAt, f_R_whyNoPlace, f_Bodies_add, f_Bodies_forgetTrace, f_R_isRecord, f_W_isRecord, f_R_addRecord, z_u0, k_wF, k_wA]
  repeat' (first | exact k_sat_mk rfl | refine z_ite (fun _ => ?_) (fun _ => ?_))
  all_goals (exfalso; (try simp (disch := omega) only [Int32.lt_iff_toInt_lt, Int32.le_iff_toInt_le, ← Int32.toInt_inj, Int32.toInt_add, Int32.toInt_sub, Int32.toInt_mul, Int32.toInt_neg, z_bm, z_bm2, J_ti, z_cn, Int32.reduceToInt] at *); omega)
set_option maxHeartbeats 2000000 in
theorem z_p1_day (u : k_S) (hu : u = z_u0) : z_pair (f_W_day) (f_R_day) u (fun _ => True) := by
  subst hu
  refine z_pair_cat ?_
  simp [z_cat, z_bi, z_bs, z_bl, z_bc, z_bb, z_bz, z_zb0, z_zb1, k_let, f_W_day, f_R_day, f_R_in, f_R_isWheel, f_Wheels_has, f_Wheels_hasPlace, f_W_isSpot, f_R_isSpot, f_Tape_append, f_Tape_at, f_R_isShelf, f_Shelves_has, f_Shelves_heldBy, f_R_isBody, f_Bodies_has, f_Changes_add, f_Records_add, f_Shelves_refusalAt, f_R_whyNoPlace, f_Bodies_add, f_Bodies_forgetTrace, f_R_isRecord, f_W_isRecord, f_R_addRecord, z_u0, k_wF, k_wA]
  repeat' (first | exact k_sat_mk rfl | refine z_ite (fun _ => ?_) (fun _ => ?_))
  all_goals (exfalso; (try simp (disch := omega) only [Int32.lt_iff_toInt_lt, Int32.le_iff_toInt_le, ← Int32.toInt_inj, Int32.toInt_add, Int32.toInt_sub, Int32.toInt_mul, Int32.toInt_neg, z_bm, z_bm2, J_ti, z_cn, Int32.reduceToInt] at *); omega)
set_option maxHeartbeats 2000000 in
theorem z_p1_often (a0 a1 : Int32) (u : k_S) (hu : u = z_u0) : z_pair (f_W_often a0 a1) (f_R_often a0 a1) u (fun _ => True) := by
  subst hu
  refine z_pair_cat ?_
  simp [z_cat, z_bi, z_bs, z_bl, z_bc, z_bb, z_bz, z_zb0, z_zb1, k_let, f_W_often, f_R_often, f_R_in, f_R_isWheel, f_Wheels_has, f_Wheels_hasPlace, f_W_isSpot, f_R_isSpot, f_Tape_append, f_Tape_at, f_R_isShelf, f_Shelves_has, f_Shelves_heldBy, f_R_isBody, f_Bodies_has, f_Changes_add, f_Records_add, f_Shelves_refusalAt, f_R_whyNoPlace, f_Bodies_add, f_Bodies_forgetTrace, f_R_isRecord, f_W_isRecord, f_R_addRecord, z_u0, k_wF, k_wA]
  repeat' (first | exact k_sat_mk rfl | refine z_ite (fun _ => ?_) (fun _ => ?_))
  all_goals (exfalso; (try simp (disch := omega) only [Int32.lt_iff_toInt_lt, Int32.le_iff_toInt_le, ← Int32.toInt_inj, Int32.toInt_add, Int32.toInt_sub, Int32.toInt_mul, Int32.toInt_neg, z_bm, z_bm2, J_ti, z_cn, Int32.reduceToInt] at *); omega)
set_option maxHeartbeats 2000000 in
theorem z_p1_never (a0 a1 : Int32) (u : k_S) (hu : u = z_u0) : z_pair (f_W_never a0 a1) (f_R_never a0 a1) u (fun _ => True) := by
  subst hu
  refine z_pair_cat ?_
  simp [z_cat, z_bi, z_bs, z_bl, z_bc, z_bb, z_bz, z_zb0, z_zb1, k_let, f_W_never, f_R_never, f_W_never_J50, f_R_in, f_R_isWheel, f_Wheels_has, f_Wheels_hasPlace, f_W_isSpot, f_R_isSpot, f_Tape_append, f_Tape_at, f_R_isShelf, f_Shelves_has, f_Shelves_heldBy, f_R_isBody, f_Bodies_has, f_Changes_add, f_Records_add, f_Shelves_refusalAt, f_R_whyNoPlace, f_Bodies_add, f_Bodies_forgetTrace, f_R_isRecord, f_W_isRecord, f_R_addRecord, z_u0, k_wF, k_wA]
  repeat' (first | exact k_sat_mk rfl | refine z_ite (fun _ => ?_) (fun _ => ?_))
  all_goals (exfalso; (try simp (disch := omega) only [Int32.lt_iff_toInt_lt, Int32.le_iff_toInt_le, ← Int32.toInt_inj, Int32.toInt_add, Int32.toInt_sub, Int32.toInt_mul, Int32.toInt_neg, z_bm, z_bm2, J_ti, z_cn, Int32.reduceToInt] at *); omega)
set_option maxHeartbeats 2000000 in
theorem z_p1_meets (a0 a1 a2 : Int32) (u : k_S) (hu : u = z_u0) : z_pair (f_W_meets a0 a1 a2) (f_R_meets a0 a1 a2) u (fun _ => True) := by
  subst hu
  refine z_pair_cat ?_
  simp [z_cat, z_bi, z_bs, z_bl, z_bc, z_bb, z_bz, z_zb0, z_zb1, k_let, f_W_meets, f_R_meets, f_W_meets_J54, f_R_in, f_R_isWheel, f_Wheels_has, f_Wheels_hasPlace, f_W_isSpot, f_R_isSpot, f_Tape_append, f_Tape_at, f_R_isShelf, f_Shelves_has, f_Shelves_heldBy, f_R_isBody, f_Bodies_has, f_Changes_add, f_Records_add, f_Shelves_refusalAt, f_R_whyNoPlace, f_Bodies_add, f_Bodies_forgetTrace, f_R_isRecord, f_W_isRecord, f_R_addRecord, z_u0, k_wF, k_wA]
  repeat' (first | exact k_sat_mk rfl | refine z_ite (fun _ => ?_) (fun _ => ?_))
  all_goals (exfalso; (try simp (disch := omega) only [Int32.lt_iff_toInt_lt, Int32.le_iff_toInt_le, ← Int32.toInt_inj, Int32.toInt_add, Int32.toInt_sub, Int32.toInt_mul, Int32.toInt_neg, z_bm, z_bm2, J_ti, z_cn, Int32.reduceToInt] at *); omega)
set_option maxHeartbeats 2000000 in
theorem z_p1_two (a0 a1 a2 : Int32) (u : k_S) (hu : u = z_u0) : z_pair (f_W_two a0 a1 a2) (f_R_two a0 a1 a2) u (fun _ => True) := by
  subst hu
  refine z_pair_cat ?_
  simp [z_cat, z_bi, z_bs, z_bl, z_bc, z_bb, z_bz, z_zb0, z_zb1, k_let, f_W_two, f_R_two, f_R_two_J97, f_R_in, f_R_isWheel, f_Wheels_has, f_Wheels_hasPlace, f_W_isSpot, f_R_isSpot, f_Tape_append, f_Tape_at, f_R_isShelf, f_Shelves_has, f_Shelves_heldBy, f_R_isBody, f_Bodies_has, f_Changes_add, f_Records_add, f_Shelves_refusalAt, f_R_whyNoPlace, f_Bodies_add, f_Bodies_forgetTrace, f_R_isRecord, f_W_isRecord, f_R_addRecord, z_u0, k_wF, k_wA]
  repeat' (first | exact k_sat_mk rfl | refine z_ite (fun _ => ?_) (fun _ => ?_))
  all_goals (exfalso; (try simp (disch := omega) only [Int32.lt_iff_toInt_lt, Int32.le_iff_toInt_le, ← Int32.toInt_inj, Int32.toInt_add, Int32.toInt_sub, Int32.toInt_mul, Int32.toInt_neg, z_bm, z_bm2, J_ti, z_cn, Int32.reduceToInt] at *); omega)
set_option maxHeartbeats 2000000 in
theorem z_p1_truth (a0 : Int32) (u : k_S) (hu : u = z_u0) : z_pair (f_W_truth a0) (f_R_truth a0) u (fun _ => True) := by
  subst hu
  refine z_pair_cat ?_
  simp [z_cat, z_bi, z_bs, z_bl, z_bc, z_bb, z_bz, z_zb0, z_zb1, k_let, f_W_truth, f_R_truth, f_R_truth_J155, f_R_truth_J104, f_R_in, f_R_isWheel, f_Wheels_has, f_Wheels_hasPlace, f_W_isSpot, f_R_isSpot, f_Tape_append, f_Tape_at, f_R_isShelf, f_Shelves_has, f_Shelves_heldBy, f_R_isBody, f_Bodies_has, f_Changes_add, f_Records_add, f_Shelves_refusalAt, f_R_whyNoPlace, f_Bodies_add, f_Bodies_forgetTrace, f_R_isRecord, f_W_isRecord, f_R_addRecord, z_u0, k_wF, k_wA]
  repeat' (first | exact k_sat_mk rfl | refine z_ite (fun _ => ?_) (fun _ => ?_))
  all_goals (exfalso; (try simp (disch := omega) only [Int32.lt_iff_toInt_lt, Int32.le_iff_toInt_le, ← Int32.toInt_inj, Int32.toInt_add, Int32.toInt_sub, Int32.toInt_mul, Int32.toInt_neg, z_bm, z_bm2, J_ti, z_cn, Int32.reduceToInt] at *); omega)
set_option maxHeartbeats 2000000 in
theorem z_p1_near (a0 a1 : Int32) (u : k_S) (hu : u = z_u0) : z_pair (f_W_near a0 a1) (f_R_near a0 a1) u (fun _ => True) := by
  subst hu
  refine z_pair_cat ?_
  simp [z_cat, z_bi, z_bs, z_bl, z_bc, z_bb, z_bz, z_zb0, z_zb1, k_let, f_W_near, f_R_near, f_W_near_J66, f_R_near_J130, f_R_in, f_R_isWheel, f_Wheels_has, f_Wheels_hasPlace, f_W_isSpot, f_R_isSpot, f_Tape_append, f_Tape_at, f_R_isShelf, f_Shelves_has, f_Shelves_heldBy, f_R_isBody, f_Bodies_has, f_Changes_add, f_Records_add, f_Shelves_refusalAt, f_R_whyNoPlace, f_Bodies_add, f_Bodies_forgetTrace, f_R_isRecord, f_W_isRecord, f_R_addRecord, z_u0, k_wF, k_wA]
  repeat' (first | exact k_sat_mk rfl | refine z_ite (fun _ => ?_) (fun _ => ?_))
  all_goals (exfalso; (try simp (disch := omega) only [Int32.lt_iff_toInt_lt, Int32.le_iff_toInt_le, ← Int32.toInt_inj, Int32.toInt_add, Int32.toInt_sub, Int32.toInt_mul, Int32.toInt_neg, z_bm, z_bm2, J_ti, z_cn, Int32.reduceToInt] at *); omega)
set_option maxHeartbeats 2000000 in
theorem z_p1_clear (u : k_S) (hu : u = z_u0) : z_pair (f_W_clear) (f_R_clear) u (fun _ => True) := by
  subst hu
  refine z_pair_cat ?_
  simp [z_cat, z_bi, z_bs, z_bl, z_bc, z_bb, z_bz, z_zb0, z_zb1, k_let, f_W_clear, f_R_clear, f_R_in, f_R_isWheel, f_Wheels_has, f_Wheels_hasPlace, f_W_isSpot, f_R_isSpot, f_Tape_append, f_Tape_at, f_R_isShelf, f_Shelves_has, f_Shelves_heldBy, f_R_isBody, f_Bodies_has, f_Changes_add, f_Records_add, f_Shelves_refusalAt, f_R_whyNoPlace, f_Bodies_add, f_Bodies_forgetTrace, f_R_isRecord, f_W_isRecord, f_R_addRecord, z_u0, k_wF, k_wA]
  repeat' (first | exact k_sat_mk rfl | refine z_ite (fun _ => ?_) (fun _ => ?_))
  all_goals (exfalso; (try simp (disch := omega) only [Int32.lt_iff_toInt_lt, Int32.le_iff_toInt_le, ← Int32.toInt_inj, Int32.toInt_add, Int32.toInt_sub, Int32.toInt_mul, Int32.toInt_neg, z_bm, z_bm2, J_ti, z_cn, Int32.reduceToInt] at *); omega)
set_option maxHeartbeats 2000000 in
theorem z_p1_judge (u : k_S) (hu : u = z_u0) : z_pair (f_W_judge) (f_R_judge) u (fun _ => True) := by
  subst hu
  refine z_pair_cat ?_
  simp [z_cat, z_bi, z_bs, z_bl, z_bc, z_bb, z_bz, z_zb0, z_zb1, k_let, f_W_judge, f_R_judge, f_R_in, f_R_isWheel, f_Wheels_has, f_Wheels_hasPlace, f_W_isSpot, f_R_isSpot, f_Tape_append, f_Tape_at, f_R_isShelf, f_Shelves_has, f_Shelves_heldBy, f_R_isBody, f_Bodies_has, f_Changes_add, f_Records_add, f_Shelves_refusalAt, f_R_whyNoPlace, f_Bodies_add, f_Bodies_forgetTrace, f_R_isRecord, f_W_isRecord, f_R_addRecord, z_u0, k_wF, k_wA]
  repeat' (first | exact k_sat_mk rfl | refine z_ite (fun _ => ?_) (fun _ => ?_))
  all_goals (exfalso; (try simp (disch := omega) only [Int32.lt_iff_toInt_lt, Int32.le_iff_toInt_le, ← Int32.toInt_inj, Int32.toInt_add, Int32.toInt_sub, Int32.toInt_mul, Int32.toInt_neg, z_bm, z_bm2, J_ti, z_cn, Int32.reduceToInt] at *); omega)
set_option maxHeartbeats 2000000 in
theorem z_p1_fits (a0 : Int32) (u : k_S) (hu : u = z_u0) : z_pair (f_W_fits a0) (f_R_fits a0) u (fun _ => True) := by
  subst hu
  refine z_pair_cat ?_
  simp [z_cat, z_bi, z_bs, z_bl, z_bc, z_bb, z_bz, z_zb0, z_zb1, k_let, f_W_fits, f_R_fits, f_R_in, f_R_isWheel, f_Wheels_has, f_Wheels_hasPlace, f_W_isSpot, f_R_isSpot, f_Tape_append, f_Tape_at, f_R_isShelf, f_Shelves_has, f_Shelves_heldBy, f_R_isBody, f_Bodies_has, f_Changes_add, f_Records_add, f_Shelves_refusalAt, f_R_whyNoPlace, f_Bodies_add, f_Bodies_forgetTrace, f_R_isRecord, f_W_isRecord, f_R_addRecord, z_u0, k_wF, k_wA]
  repeat' (first | exact k_sat_mk rfl | refine z_ite (fun _ => ?_) (fun _ => ?_))
  all_goals (exfalso; (try simp (disch := omega) only [Int32.lt_iff_toInt_lt, Int32.le_iff_toInt_le, ← Int32.toInt_inj, Int32.toInt_add, Int32.toInt_sub, Int32.toInt_mul, Int32.toInt_neg, z_bm, z_bm2, J_ti, z_cn, Int32.reduceToInt] at *); omega)
set_option maxHeartbeats 2000000 in
theorem z_p1_sure (a0 : Int32) (u : k_S) (hu : u = z_u0) : z_pair (f_W_sure a0) (f_R_sure a0) u (fun _ => True) := by
  subst hu
  refine z_pair_cat ?_
  simp [z_cat, z_bi, z_bs, z_bl, z_bc, z_bb, z_bz, z_zb0, z_zb1, k_let, f_W_sure, f_R_sure, f_W_sure_J77, f_R_in, f_R_isWheel, f_Wheels_has, f_Wheels_hasPlace, f_W_isSpot, f_R_isSpot, f_Tape_append, f_Tape_at, f_R_isShelf, f_Shelves_has, f_Shelves_heldBy, f_R_isBody, f_Bodies_has, f_Changes_add, f_Records_add, f_Shelves_refusalAt, f_R_whyNoPlace, f_Bodies_add, f_Bodies_forgetTrace, f_R_isRecord, f_W_isRecord, f_R_addRecord, z_u0, k_wF, k_wA]
  repeat' (first | exact k_sat_mk rfl | refine z_ite (fun _ => ?_) (fun _ => ?_))
  all_goals (exfalso; (try simp (disch := omega) only [Int32.lt_iff_toInt_lt, Int32.le_iff_toInt_le, ← Int32.toInt_inj, Int32.toInt_add, Int32.toInt_sub, Int32.toInt_mul, Int32.toInt_neg, z_bm, z_bm2, J_ti, z_cn, Int32.reduceToInt] at *); omega)
set_option maxHeartbeats 2000000 in
theorem z_p1_when (a0 : Int32) (u : k_S) (hu : u = z_u0) : z_pair (f_W_when a0) (f_R_when a0) u (fun _ => True) := by
  subst hu
  refine z_pair_cat ?_
  simp [z_cat, z_bi, z_bs, z_bl, z_bc, z_bb, z_bz, z_zb0, z_zb1, k_let, f_W_when, f_R_when, f_R_in, f_R_isWheel, f_Wheels_has, f_Wheels_hasPlace, f_W_isSpot, f_R_isSpot, f_Tape_append, f_Tape_at, f_R_isShelf, f_Shelves_has, f_Shelves_heldBy, f_R_isBody, f_Bodies_has, f_Changes_add, f_Records_add, f_Shelves_refusalAt, f_R_whyNoPlace, f_Bodies_add, f_Bodies_forgetTrace, f_R_isRecord, f_W_isRecord, f_R_addRecord, z_u0, k_wF, k_wA]
  repeat' (first | exact k_sat_mk rfl | refine z_ite (fun _ => ?_) (fun _ => ?_))
  all_goals (exfalso; (try simp (disch := omega) only [Int32.lt_iff_toInt_lt, Int32.le_iff_toInt_le, ← Int32.toInt_inj, Int32.toInt_add, Int32.toInt_sub, Int32.toInt_mul, Int32.toInt_neg, z_bm, z_bm2, J_ti, z_cn, Int32.reduceToInt] at *); omega)
set_option maxHeartbeats 2000000 in
theorem z_p1_watch (a0 : Int32) (u : k_S) (hu : u = z_u0) : z_pair (f_W_watch a0) (f_R_watch a0) u (fun _ => True) := by
  subst hu
  refine z_pair_cat ?_
  simp [z_cat, z_bi, z_bs, z_bl, z_bc, z_bb, z_bz, z_zb0, z_zb1, k_let, f_W_watch, f_R_watch, f_R_watch_J163, f_R_in, f_R_isWheel, f_Wheels_has, f_Wheels_hasPlace, f_W_isSpot, f_R_isSpot, f_Tape_append, f_Tape_at, f_R_isShelf, f_Shelves_has, f_Shelves_heldBy, f_R_isBody, f_Bodies_has, f_Changes_add, f_Records_add, f_Shelves_refusalAt, f_R_whyNoPlace, f_Bodies_add, f_Bodies_forgetTrace, f_R_isRecord, f_W_isRecord, f_R_addRecord, z_u0, k_wF, k_wA]
  repeat' (first | exact k_sat_mk rfl | refine z_ite (fun _ => ?_) (fun _ => ?_))
  all_goals (exfalso; (try simp (disch := omega) only [Int32.lt_iff_toInt_lt, Int32.le_iff_toInt_le, ← Int32.toInt_inj, Int32.toInt_add, Int32.toInt_sub, Int32.toInt_mul, Int32.toInt_neg, z_bm, z_bm2, J_ti, z_cn, Int32.reduceToInt] at *); omega)
set_option maxHeartbeats 2000000 in
theorem z_p1_back (u : k_S) (hu : u = z_u0) : z_pair (f_W_back) (f_R_back) u (fun _ => True) := by
  subst hu
  refine z_pair_cat ?_
  simp [z_cat, z_bi, z_bs, z_bl, z_bc, z_bb, z_bz, z_zb0, z_zb1, k_let, f_W_back, f_R_back, f_R_in, f_R_isWheel, f_Wheels_has, f_Wheels_hasPlace, f_W_isSpot, f_R_isSpot, f_Tape_append, f_Tape_at, f_R_isShelf, f_Shelves_has, f_Shelves_heldBy, f_R_isBody, f_Bodies_has, f_Changes_add, f_Records_add, f_Shelves_refusalAt, f_R_whyNoPlace, f_Bodies_add, f_Bodies_forgetTrace, f_R_isRecord, f_W_isRecord, f_R_addRecord, z_u0, k_wF, k_wA]
  repeat' (first | exact k_sat_mk rfl | refine z_ite (fun _ => ?_) (fun _ => ?_))
  all_goals (exfalso; (try simp (disch := omega) only [Int32.lt_iff_toInt_lt, Int32.le_iff_toInt_le, ← Int32.toInt_inj, Int32.toInt_add, Int32.toInt_sub, Int32.toInt_mul, Int32.toInt_neg, z_bm, z_bm2, J_ti, z_cn, Int32.reduceToInt] at *); omega)
set_option maxHeartbeats 2000000 in
theorem z_p1_undo (u : k_S) (hu : u = z_u0) : z_pair (f_W_undo) (f_R_undo) u (fun _ => True) := by
  subst hu
  refine z_pair_cat ?_
  simp [z_cat, z_bi, z_bs, z_bl, z_bc, z_bb, z_bz, z_zb0, z_zb1, k_let, f_W_undo, f_R_undo, f_R_in, f_R_isWheel, f_Wheels_has, f_Wheels_hasPlace, f_W_isSpot, f_R_isSpot, f_Tape_append, f_Tape_at, f_R_isShelf, f_Shelves_has, f_Shelves_heldBy, f_R_isBody, f_Bodies_has, f_Changes_add, f_Records_add, f_Shelves_refusalAt, f_R_whyNoPlace, f_Bodies_add, f_Bodies_forgetTrace, f_R_isRecord, f_W_isRecord, f_R_addRecord, z_u0, k_wF, k_wA]
  repeat' (first | exact k_sat_mk rfl | refine z_ite (fun _ => ?_) (fun _ => ?_))
  all_goals (exfalso; (try simp (disch := omega) only [Int32.lt_iff_toInt_lt, Int32.le_iff_toInt_le, ← Int32.toInt_inj, Int32.toInt_add, Int32.toInt_sub, Int32.toInt_mul, Int32.toInt_neg, z_bm, z_bm2, J_ti, z_cn, Int32.reduceToInt] at *); omega)
set_option maxHeartbeats 2000000 in
theorem z_p1_redo (u : k_S) (hu : u = z_u0) : z_pair (f_W_redo) (f_R_redo) u (fun _ => True) := by
  subst hu
  refine z_pair_cat ?_
  simp [z_cat, z_bi, z_bs, z_bl, z_bc, z_bb, z_bz, z_zb0, z_zb1, k_let, f_W_redo, f_R_redo, f_R_in, f_R_isWheel, f_Wheels_has, f_Wheels_hasPlace, f_W_isSpot, f_R_isSpot, f_Tape_append, f_Tape_at, f_R_isShelf, f_Shelves_has, f_Shelves_heldBy, f_R_isBody, f_Bodies_has, f_Changes_add, f_Records_add, f_Shelves_refusalAt, f_R_whyNoPlace, f_Bodies_add, f_Bodies_forgetTrace, f_R_isRecord, f_W_isRecord, f_R_addRecord, z_u0, k_wF, k_wA]
  repeat' (first | exact k_sat_mk rfl | refine z_ite (fun _ => ?_) (fun _ => ?_))
  all_goals (exfalso; (try simp (disch := omega) only [Int32.lt_iff_toInt_lt, Int32.le_iff_toInt_le, ← Int32.toInt_inj, Int32.toInt_add, Int32.toInt_sub, Int32.toInt_mul, Int32.toInt_neg, z_bm, z_bm2, J_ti, z_cn, Int32.reduceToInt] at *); omega)
set_option maxHeartbeats 2000000 in
theorem z_p1_act (a0 a1 a2 : Int32) (u : k_S) (hu : u = z_u0) : z_pair (f_W_act a0 a1 a2) (f_R_act a0 a1 a2) u (fun _ => True) := by
  subst hu
  refine z_pair_cat ?_
  simp [z_cat, z_bi, z_bs, z_bl, z_bc, z_bb, z_bz, z_zb0, z_zb1, k_let, f_W_act, f_R_act, f_R_in, f_R_isWheel, f_Wheels_has, f_Wheels_hasPlace, f_W_isSpot, f_R_isSpot, f_Tape_append, f_Tape_at, f_R_isShelf, f_Shelves_has, f_Shelves_heldBy, f_R_isBody, f_Bodies_has, f_Changes_add, f_Records_add, f_Shelves_refusalAt, f_R_whyNoPlace, f_Bodies_add, f_Bodies_forgetTrace, f_R_isRecord, f_W_isRecord, f_R_addRecord, z_u0, k_wF, k_wA]
  repeat' (first | exact k_sat_mk rfl | refine z_ite (fun _ => ?_) (fun _ => ?_))
  all_goals (exfalso; (try simp (disch := omega) only [Int32.lt_iff_toInt_lt, Int32.le_iff_toInt_le, ← Int32.toInt_inj, Int32.toInt_add, Int32.toInt_sub, Int32.toInt_mul, Int32.toInt_neg, z_bm, z_bm2, J_ti, z_cn, Int32.reduceToInt] at *); omega)
set_option maxHeartbeats 2000000 in
theorem z_p1_trace (a0 : Int32) (u : k_S) (hu : u = z_u0) : z_pair (f_W_trace a0) (f_R_trace a0) u (fun _ => True) := by
  subst hu
  refine z_pair_cat ?_
  simp [z_cat, z_bi, z_bs, z_bl, z_bc, z_bb, z_bz, z_zb0, z_zb1, k_let, f_W_trace, f_R_trace, f_R_in, f_R_isWheel, f_Wheels_has, f_Wheels_hasPlace, f_W_isSpot, f_R_isSpot, f_Tape_append, f_Tape_at, f_R_isShelf, f_Shelves_has, f_Shelves_heldBy, f_R_isBody, f_Bodies_has, f_Changes_add, f_Records_add, f_Shelves_refusalAt, f_R_whyNoPlace, f_Bodies_add, f_Bodies_forgetTrace, f_R_isRecord, f_W_isRecord, f_R_addRecord, z_u0, k_wF, k_wA]
  repeat' (first | exact k_sat_mk rfl | refine z_ite (fun _ => ?_) (fun _ => ?_))
  all_goals (exfalso; (try simp (disch := omega) only [Int32.lt_iff_toInt_lt, Int32.le_iff_toInt_le, ← Int32.toInt_inj, Int32.toInt_add, Int32.toInt_sub, Int32.toInt_mul, Int32.toInt_neg, z_bm, z_bm2, J_ti, z_cn, Int32.reduceToInt] at *); omega)
set_option maxHeartbeats 2000000 in
theorem z_p1_count (a0 : Int32) (u : k_S) (hu : u = z_u0) : z_pair (f_W_count a0) (f_R_count a0) u (fun _ => True) := by
  subst hu
  refine z_pair_cat ?_
  simp [z_cat, z_bi, z_bs, z_bl, z_bc, z_bb, z_bz, z_zb0, z_zb1, k_let, f_W_count, f_R_count, f_R_in, f_R_isWheel, f_Wheels_has, f_Wheels_hasPlace, f_W_isSpot, f_R_isSpot, f_Tape_append, f_Tape_at, f_R_isShelf, f_Shelves_has, f_Shelves_heldBy, f_R_isBody, f_Bodies_has, f_Changes_add, f_Records_add, f_Shelves_refusalAt, f_R_whyNoPlace, f_Bodies_add, f_Bodies_forgetTrace, f_R_isRecord, f_W_isRecord, f_R_addRecord, z_u0, k_wF, k_wA]
  repeat' (first | exact k_sat_mk rfl | refine z_ite (fun _ => ?_) (fun _ => ?_))
  all_goals (exfalso; (try simp (disch := omega) only [Int32.lt_iff_toInt_lt, Int32.le_iff_toInt_le, ← Int32.toInt_inj, Int32.toInt_add, Int32.toInt_sub, Int32.toInt_mul, Int32.toInt_neg, z_bm, z_bm2, J_ti, z_cn, Int32.reduceToInt] at *); omega)
set_option maxHeartbeats 2000000 in
theorem z_p1_feed (a0 : Int32) (u : k_S) (hu : u = z_u0) : z_pair (f_W_feed a0) (f_R_feed a0) u (fun _ => True) := by
  subst hu
  refine z_pair_cat ?_
  simp [z_cat, z_bi, z_bs, z_bl, z_bc, z_bb, z_bz, z_zb0, z_zb1, k_let, f_W_feed, f_R_feed, f_R_in, f_R_isWheel, f_Wheels_has, f_Wheels_hasPlace, f_W_isSpot, f_R_isSpot, f_Tape_append, f_Tape_at, f_R_isShelf, f_Shelves_has, f_Shelves_heldBy, f_R_isBody, f_Bodies_has, f_Changes_add, f_Records_add, f_Shelves_refusalAt, f_R_whyNoPlace, f_Bodies_add, f_Bodies_forgetTrace, f_R_isRecord, f_W_isRecord, f_R_addRecord, z_u0, k_wF, k_wA]
  repeat' (first | exact k_sat_mk rfl | refine z_ite (fun _ => ?_) (fun _ => ?_))
  all_goals (exfalso; (try simp (disch := omega) only [Int32.lt_iff_toInt_lt, Int32.le_iff_toInt_le, ← Int32.toInt_inj, Int32.toInt_add, Int32.toInt_sub, Int32.toInt_mul, Int32.toInt_neg, z_bm, z_bm2, J_ti, z_cn, Int32.reduceToInt] at *); omega)
def k_nx {X Y : Type} (b : X → k_S → Option ((X ⊕ Y) × k_S)) (n : Nat) (z : X ⊕ Y) (u : k_S) : Option (Y × k_S) := match z with
  | .inl x => k_itr b n x u
  | .inr y => some (y, u)
theorem k_itS {X Y : Type} {b : X → k_S → Option ((X ⊕ Y) × k_S)} {n : Nat} {x : X} {u : k_S} : k_itr b (n + 1) x u = k_bind (b x u) (fun z u' => k_nx b n z u') := by
  rw [k_itr]
  cases b x u with
  | none => rfl
  | some q =>
    obtain ⟨z, u'⟩ := q
    cases z <;> rfl
theorem k_FUS : k_FU = 4294967295 + 1 := rfl
theorem z_p1_pass (n : Nat) (hn : n ≤ 2000) (u : k_S) (h3 : u.1 303 = 0) : k_sat (f_Nights_pass_Now (J n) 0 u) (fun _ u' => z_fr [1402] [] u u' ∧ u'.1 1402 = u.1 1402 + J n) := by
  unfold f_Nights_pass_Now
  refine z_bind (fun _ u' => z_fr [1402] [] u u' ∧ u'.1 1402 = u.1 1402 + J n) (z_for 0 n (fun i u' => z_fr [1402] [] u u' ∧ u'.1 1402 = u.1 1402 + J i) (by omega) (Nat.zero_le n) ⟨z_fr.rf, by simp [J]⟩ (fun i u' _ hi hp => ?_) (fun u' hp => ?_)) (fun _ u' h => k_sat_mk h)
  · unfold f_Nights_pass_Now_B3
    refine z_neg ?_ ?_
    · (try simp (disch := omega) only [Int32.lt_iff_toInt_lt, Int32.le_iff_toInt_le, ← Int32.toInt_inj, Int32.toInt_add, Int32.toInt_sub, Int32.toInt_mul, Int32.toInt_neg, z_bm, z_bm2, J_ti, z_cn, Int32.reduceToInt]) <;> omega
    refine z_let ?_
    rw [k_FUS, k_itS]
    simp only [f_Nights_pass_Now_B25, z_bi, z_bs, k_nx]
    refine k_sat_mk (Or.inl ⟨rfl, hp.1.tr (z_wF rfl), ?_⟩)
    simp only [k_wF, if_true]
    rw [hp.2, ← z_J1 i, Int32.add_assoc]
    rfl
  · unfold f_Nights_pass_Now_B3
    exact z_pos (Int32.le_refl _) (k_sat_mk ⟨_, rfl, hp⟩)
theorem z_goOn0 (u : k_S) (h : u.1 4203 = 0) : k_sat (f_R_goOn u) (fun _ u' => u' = k_wF u 4209 (u.1 4209 + 1)) := by
  unfold f_R_goOn
  refine z_let (z_bind (fun _ u' => u' = k_wF u 4209 (u.1 4209 + 1)) ?_ (fun _ u' h => k_sat_mk h))
  rw [z_FU]
  refine z_exit ?_
  unfold f_R_goOn_B12
  exact z_pos (by simp [k_wF, h]) (k_sat_mk ⟨_, rfl, rfl⟩)
theorem z_p1_Ron (n : Nat) (hn : n ≤ 2000) (u : k_S) (h3 : u.1 4203 = 0) : k_sat (k_itr (fun (x : (Int32)) u => f_R_on_B29 (J n) x u) k_FU 0 u) (fun _ u' => u'.1 4209 = u.1 4209 + J n) := by
  refine z_for 0 n (fun i u' => u'.1 4203 = 0 ∧ u'.1 4209 = u.1 4209 + J i) (by omega) (Nat.zero_le n) ⟨h3, by simp [J]⟩ (fun i u' _ hi hp => ?_) (fun u' hp => ?_)
  · unfold f_R_on_B29
    refine z_neg ?_ (z_bind _ (z_goOn0 u' hp.1) (fun _ u2 h2 => k_sat_mk (Or.inl ⟨rfl, ?_, ?_⟩)))
    · (try simp (disch := omega) only [Int32.lt_iff_toInt_lt, Int32.le_iff_toInt_le, ← Int32.toInt_inj, Int32.toInt_add, Int32.toInt_sub, Int32.toInt_mul, Int32.toInt_neg, z_bm, z_bm2, J_ti, z_cn, Int32.reduceToInt]) <;> omega
    · rw [h2]; simp [k_wF, hp.1]
    · rw [h2]
      simp only [k_wF, if_true]
      rw [hp.2, ← z_J1 i, Int32.add_assoc]
      rfl
  · unfold f_R_on_B29
    exact z_pos (Int32.le_refl _) (k_sat_mk ⟨_, rfl, hp.2⟩)
theorem z_p1_on (a0 : Int32) (u : k_S) (hu : u = z_u0) : z_pair (f_W_on a0) (f_R_on a0) u (fun _ => True) := by
  subst hu
  by_cases hr : 1 ≤ a0 ∧ a0 ≤ 2000
  · obtain ⟨n, rfl, hn⟩ : ∃ n : Nat, a0 = J n ∧ 1 ≤ n ∧ n ≤ 2000 := by
      obtain ⟨n, hn, h1, h2⟩ := J_of (x := a0) (by ((try simp (disch := omega) only [Int32.lt_iff_toInt_lt, Int32.le_iff_toInt_le, ← Int32.toInt_inj, Int32.toInt_add, Int32.toInt_sub, Int32.toInt_mul, Int32.toInt_neg, z_bm, z_bm2, J_ti, z_cn, Int32.reduceToInt] at *); omega))
      refine ⟨n, hn, ?_⟩
      subst hn
      ((try simp (disch := omega) only [Int32.lt_iff_toInt_lt, Int32.le_iff_toInt_le, ← Int32.toInt_inj, Int32.toInt_add, Int32.toInt_sub, Int32.toInt_mul, Int32.toInt_neg, z_bm, z_bm2, J_ti, z_cn, Int32.reduceToInt] at *); omega)
    refine z_pair_of ?_
    unfold f_W_on
    refine z_neg (by (try simp (disch := omega) only [Int32.lt_iff_toInt_lt, Int32.le_iff_toInt_le, ← Int32.toInt_inj, Int32.toInt_add, Int32.toInt_sub, Int32.toInt_mul, Int32.toInt_neg, z_bm, z_bm2, J_ti, z_cn, Int32.reduceToInt]) <;> omega) (z_pos (by (try simp (disch := omega) only [Int32.lt_iff_toInt_lt, Int32.le_iff_toInt_le, ← Int32.toInt_inj, Int32.toInt_add, Int32.toInt_sub, Int32.toInt_mul, Int32.toInt_neg, z_bm, z_bm2, J_ti, z_cn, Int32.reduceToInt]) <;> omega) (z_pos ?_ ?_))
    · simp [z_u0]
      (try simp (disch := omega) only [Int32.lt_iff_toInt_lt, Int32.le_iff_toInt_le, ← Int32.toInt_inj, Int32.toInt_add, Int32.toInt_sub, Int32.toInt_mul, Int32.toInt_neg, z_bm, z_bm2, J_ti, z_cn, Int32.reduceToInt]) <;> omega
    refine z_bind _ (z_p1_pass n hn.2 z_u0 rfl) (fun _ u1 h1 => k_sat_mk ?_)
    have e9 : u1.1 4209 = 0 := h1.1.1 4209 rfl
    have e3 : u1.1 4203 = 0 := h1.1.1 4203 rfl
    unfold f_R_on f_R_in
    rw [z_bi, if_neg (by (try simp (disch := omega) only [Int32.lt_iff_toInt_lt, Int32.le_iff_toInt_le, ← Int32.toInt_inj, Int32.toInt_add, Int32.toInt_sub, Int32.toInt_mul, Int32.toInt_neg, z_bm, z_bm2, J_ti, z_cn, Int32.reduceToInt]) <;> omega), z_bi, if_neg (by (try simp (disch := omega) only [Int32.lt_iff_toInt_lt, Int32.le_iff_toInt_le, ← Int32.toInt_inj, Int32.toInt_add, Int32.toInt_sub, Int32.toInt_mul, Int32.toInt_neg, z_bm, z_bm2, J_ti, z_cn, Int32.reduceToInt]) <;> omega), z_bs]
    refine z_neg (by decide) (z_pos ?_ ?_)
    · rw [e9]
      (try simp (disch := omega) only [Int32.lt_iff_toInt_lt, Int32.le_iff_toInt_le, ← Int32.toInt_inj, Int32.toInt_add, Int32.toInt_sub, Int32.toInt_mul, Int32.toInt_neg, z_bm, z_bm2, J_ti, z_cn, Int32.reduceToInt]) <;> omega
    refine z_bind _ (z_p1_Ron n hn.2 u1 e3) (fun _ u2 h2 => k_sat_mk ⟨?_, trivial⟩)
    rw [h1.2, h2, e9]
    rfl
  · by_cases h : a0 < 1
    · refine z_pair_of ?_
      unfold f_W_on
      refine z_pos h (k_sat_mk ?_)
      unfold f_R_on
      rw [z_Rin0 (by ((try simp (disch := omega) only [Int32.lt_iff_toInt_lt, Int32.le_iff_toInt_le, ← Int32.toInt_inj, Int32.toInt_add, Int32.toInt_sub, Int32.toInt_mul, Int32.toInt_neg, z_bm, z_bm2, J_ti, z_cn, Int32.reduceToInt] at *); omega)), z_bind_some]
      exact z_pos rfl (k_sat_mk ⟨rfl, trivial⟩)
    · refine z_pair_of ?_
      unfold f_W_on
      refine z_neg h (z_neg (by ((try simp (disch := omega) only [Int32.lt_iff_toInt_lt, Int32.le_iff_toInt_le, ← Int32.toInt_inj, Int32.toInt_add, Int32.toInt_sub, Int32.toInt_mul, Int32.toInt_neg, z_bm, z_bm2, J_ti, z_cn, Int32.reduceToInt] at *); omega)) (k_sat_mk ?_))
      unfold f_R_on
      rw [z_Rin0 (by ((try simp (disch := omega) only [Int32.lt_iff_toInt_lt, Int32.le_iff_toInt_le, ← Int32.toInt_inj, Int32.toInt_add, Int32.toInt_sub, Int32.toInt_mul, Int32.toInt_neg, z_bm, z_bm2, J_ti, z_cn, Int32.reduceToInt] at *); omega)), z_bind_some]
      exact z_pos rfl (k_sat_mk ⟨rfl, trivial⟩)
set_option maxHeartbeats 4000000 in
set_option maxRecDepth 10000 in
theorem z_p1_record (a0 a1 : Int32) (u : k_S) (hu : u = z_u0) : z_pair (f_W_record a0 a1) (f_R_record a0 a1) u (fun _ => True) := by
  subst hu
  refine z_pair_cat ?_
  simp [z_cat, z_bi, z_bs, z_bl, z_bc, z_bb, z_bz, z_zb0, z_zb1, k_let, f_W_record, f_R_record, f_W_isRecord, f_Records_add, f_R_isRecord, f_R_addRecord, f_Records_add_B59, f_Records_add_J109, f_R_in, f_Records_nightOf, z_u0, k_wF, k_wA, k_FU, k_nx, k_cs, upd]
  iterate 2 (try (rw [k_itS]; simp [z_cat, z_bi, z_bs, z_bl, z_bc, z_bb, z_bz, z_zb0, z_zb1, k_let, f_W_record, f_R_record, f_W_isRecord, f_Records_add, f_R_isRecord, f_R_addRecord, f_Records_add_B59, f_Records_add_J109, f_R_in, f_Records_nightOf, z_u0, k_wF, k_wA, k_FU, k_nx, k_cs, upd]))
  repeat' (first | exact k_sat_mk rfl | refine z_ck (by ((try simp (disch := omega) only [Int32.lt_iff_toInt_lt, Int32.le_iff_toInt_le, ← Int32.toInt_inj, Int32.toInt_add, Int32.toInt_sub, Int32.toInt_mul, Int32.toInt_neg, z_bm, z_bm2, J_ti, z_cn, Int32.reduceToInt] at *); omega)) (by ((try simp (disch := omega) only [Int32.lt_iff_toInt_lt, Int32.le_iff_toInt_le, ← Int32.toInt_inj, Int32.toInt_add, Int32.toInt_sub, Int32.toInt_mul, Int32.toInt_neg, z_bm, z_bm2, J_ti, z_cn, Int32.reduceToInt] at *); omega)) ?_ | refine z_ite (fun _ => ?_) (fun _ => ?_))
  all_goals (exfalso; (try simp (disch := omega) only [Int32.lt_iff_toInt_lt, Int32.le_iff_toInt_le, ← Int32.toInt_inj, Int32.toInt_add, Int32.toInt_sub, Int32.toInt_mul, Int32.toInt_neg, z_bm, z_bm2, J_ti, z_cn, Int32.reduceToInt] at *); omega)
set_option maxHeartbeats 4000000 in
set_option maxRecDepth 10000 in
theorem z_p1_image (u : k_S) (hu : u = z_u0) : z_pair (f_W_image) (f_R_image) u (fun _ => True) := by
  subst hu
  refine z_pair_cat ?_
  simp [z_cat, z_bi, z_bs, z_bl, z_bc, z_bb, z_bz, z_zb0, z_zb1, k_let, f_W_image, f_R_image, f_Picture_become_Now, f_R_image_B23, f_Picture_become_Now_B10, f_Now_placeOf, f_Now_waitsOf, f_Picture_stand, z_u0, k_wF, k_wA, k_FU, k_nx, k_cs, upd]
  iterate 6 (try (rw [k_itS]; simp [z_cat, z_bi, z_bs, z_bl, z_bc, z_bb, z_bz, z_zb0, z_zb1, k_let, f_W_image, f_R_image, f_Picture_become_Now, f_R_image_B23, f_Picture_become_Now_B10, f_Now_placeOf, f_Now_waitsOf, f_Picture_stand, z_u0, k_wF, k_wA, k_FU, k_nx, k_cs, upd]))
  repeat' (first | exact k_sat_mk rfl | refine z_ck (by ((try simp (disch := omega) only [Int32.lt_iff_toInt_lt, Int32.le_iff_toInt_le, ← Int32.toInt_inj, Int32.toInt_add, Int32.toInt_sub, Int32.toInt_mul, Int32.toInt_neg, z_bm, z_bm2, J_ti, z_cn, Int32.reduceToInt] at *); omega)) (by ((try simp (disch := omega) only [Int32.lt_iff_toInt_lt, Int32.le_iff_toInt_le, ← Int32.toInt_inj, Int32.toInt_add, Int32.toInt_sub, Int32.toInt_mul, Int32.toInt_neg, z_bm, z_bm2, J_ti, z_cn, Int32.reduceToInt] at *); omega)) ?_ | refine z_ite (fun _ => ?_) (fun _ => ?_))
  all_goals (exfalso; (try simp (disch := omega) only [Int32.lt_iff_toInt_lt, Int32.le_iff_toInt_le, ← Int32.toInt_inj, Int32.toInt_add, Int32.toInt_sub, Int32.toInt_mul, Int32.toInt_neg, z_bm, z_bm2, J_ti, z_cn, Int32.reduceToInt] at *); omega)
set_option maxHeartbeats 4000000 in
set_option maxRecDepth 10000 in
theorem z_p1_body (a0 : Int32) (u : k_S) (hu : u = z_u0) : z_pair (f_W_body a0) (f_R_body a0) u (fun _ => True) := by
  subst hu
  refine z_pair_cat ?_
  simp [z_cat, z_bi, z_bs, z_bl, z_bc, z_bb, z_bz, z_zb0, z_zb1, k_let, f_W_body, f_R_body, f_Bodies_add, f_R_in, z_u0, k_wF, k_wA, k_FU, k_nx, k_cs, upd]
  iterate 0 (try (rw [k_itS]; simp [z_cat, z_bi, z_bs, z_bl, z_bc, z_bb, z_bz, z_zb0, z_zb1, k_let, f_W_body, f_R_body, f_Bodies_add, f_R_in, z_u0, k_wF, k_wA, k_FU, k_nx, k_cs, upd]))
  repeat' (first | exact k_sat_mk rfl | refine z_ck (by ((try simp (disch := omega) only [Int32.lt_iff_toInt_lt, Int32.le_iff_toInt_le, ← Int32.toInt_inj, Int32.toInt_add, Int32.toInt_sub, Int32.toInt_mul, Int32.toInt_neg, z_bm, z_bm2, J_ti, z_cn, Int32.reduceToInt] at *); omega)) (by ((try simp (disch := omega) only [Int32.lt_iff_toInt_lt, Int32.le_iff_toInt_le, ← Int32.toInt_inj, Int32.toInt_add, Int32.toInt_sub, Int32.toInt_mul, Int32.toInt_neg, z_bm, z_bm2, J_ti, z_cn, Int32.reduceToInt] at *); omega)) ?_ | refine z_ite (fun _ => ?_) (fun _ => ?_))
  all_goals (exfalso; (try simp (disch := omega) only [Int32.lt_iff_toInt_lt, Int32.le_iff_toInt_le, ← Int32.toInt_inj, Int32.toInt_add, Int32.toInt_sub, Int32.toInt_mul, Int32.toInt_neg, z_bm, z_bm2, J_ti, z_cn, Int32.reduceToInt] at *); omega)
set_option maxHeartbeats 4000000 in
set_option maxRecDepth 10000 in
theorem z_p1_wheel (u : k_S) (hu : u = z_u0) : z_pair (f_W_wheel) (f_R_wheel) u (fun _ => True) := by
  subst hu
  refine z_pair_cat ?_
  simp [z_cat, z_bi, z_bs, z_bl, z_bc, z_bb, z_bz, z_zb0, z_zb1, k_let, f_W_wheel, f_R_wheel, f_Wheels_faultOf_Tape, f_Wheels_cutFrom_Tape, f_W_wheel_J49, f_R_wheel_B13, f_R_wheel_J45, f_Wheels_faultOf_Tape_B2, f_Wheels_cutFrom_Tape_B23, f_Wheels_cutFrom_Tape_J54, f_R_isTooth, f_R_wheel_J62, f_R_wheel_J63, f_Tape_at, f_W_isTooth, f_Wheels_setLetter, f_R_in, f_R_wheel_B66, z_u0, k_wF, k_wA, k_FU, k_nx, k_cs, upd]
  iterate 4 (try (rw [k_itS]; simp [z_cat, z_bi, z_bs, z_bl, z_bc, z_bb, z_bz, z_zb0, z_zb1, k_let, f_W_wheel, f_R_wheel, f_Wheels_faultOf_Tape, f_Wheels_cutFrom_Tape, f_W_wheel_J49, f_R_wheel_B13, f_R_wheel_J45, f_Wheels_faultOf_Tape_B2, f_Wheels_cutFrom_Tape_B23, f_Wheels_cutFrom_Tape_J54, f_R_isTooth, f_R_wheel_J62, f_R_wheel_J63, f_Tape_at, f_W_isTooth, f_Wheels_setLetter, f_R_in, f_R_wheel_B66, z_u0, k_wF, k_wA, k_FU, k_nx, k_cs, upd]))
  repeat' (first | exact k_sat_mk rfl | refine z_ck (by ((try simp (disch := omega) only [Int32.lt_iff_toInt_lt, Int32.le_iff_toInt_le, ← Int32.toInt_inj, Int32.toInt_add, Int32.toInt_sub, Int32.toInt_mul, Int32.toInt_neg, z_bm, z_bm2, J_ti, z_cn, Int32.reduceToInt] at *); omega)) (by ((try simp (disch := omega) only [Int32.lt_iff_toInt_lt, Int32.le_iff_toInt_le, ← Int32.toInt_inj, Int32.toInt_add, Int32.toInt_sub, Int32.toInt_mul, Int32.toInt_neg, z_bm, z_bm2, J_ti, z_cn, Int32.reduceToInt] at *); omega)) ?_ | refine z_ite (fun _ => ?_) (fun _ => ?_))
  all_goals (exfalso; (try simp (disch := omega) only [Int32.lt_iff_toInt_lt, Int32.le_iff_toInt_le, ← Int32.toInt_inj, Int32.toInt_add, Int32.toInt_sub, Int32.toInt_mul, Int32.toInt_neg, z_bm, z_bm2, J_ti, z_cn, Int32.reduceToInt] at *); omega)
theorem z_u0a (k : Nat) (hk : k = 39 ∨ k = 72) {p : Int32} (h0 : 0 ≤ p.toInt) (h1 : p.toInt < 6) : z_u0.2.1 k p.toNatClampNeg = -1 := by
  have : p.toNatClampNeg = 0 ∨ p.toNatClampNeg = 1 ∨ p.toNatClampNeg = 2 ∨ p.toNatClampNeg = 3 ∨ p.toNatClampNeg = 4 ∨ p.toNatClampNeg = 5 := by ((try simp (disch := omega) only [Int32.lt_iff_toInt_lt, Int32.le_iff_toInt_le, ← Int32.toInt_inj, Int32.toInt_add, Int32.toInt_sub, Int32.toInt_mul, Int32.toInt_neg, z_bm, z_bm2, J_ti, z_cn, Int32.reduceToInt] at *); omega)
  rcases hk with rfl | rfl <;> rcases this with e | e | e | e | e | e <;> rw [e] <;> rfl

theorem z_p1_element (a0 : Int32) (a1 : Int32) (u : k_S) (hu : u = z_u0) : z_pair (f_W_element a0 a1) (f_R_element a0 a1) u (fun _ => True) := by
  subst hu
  refine z_pair_cat ?_
  by_cases h1 : 0 ≤ a0.toInt ∧ a0.toInt < 6
  · have e1 : ∀ u, f_Shelves_has a0 u = some (1, u) := fun u => z_Shas h1.1 h1.2
    have e2 : ∀ u, f_R_isShelf a0 u = some (1, u) := fun u => z_RisShelf h1.1 h1.2
    have e3 : ∀ u, f_Shelves_heldBy a0 u = some (u.2.1 39 a0.toNatClampNeg, u) := fun u => z_SheldBy h1.1 h1.2
    have e4 : z_u0.2.1 39 a0.toNatClampNeg = -1 := z_u0a 39 (Or.inl rfl) h1.1 h1.2
    have e5 : z_u0.2.1 72 a0.toNatClampNeg = -1 := z_u0a 72 (Or.inr rfl) h1.1 h1.2
    have e6 : ∀ {α : Type} (o : Option α), k_ck a0 6 o = o := fun o => z_cko o h1.1 (by omega)
    simp [z_cat, z_bi, z_bs, z_bl, z_bc, z_bb, z_bz, z_zb0, z_zb1, k_let, f_W_element, f_R_element, f_Shelves_refusalAt, f_R_whyNoPlace, e1, e2, e3, e4, e5, e6]
    repeat' (first | exact k_sat_mk rfl | refine z_ite (fun _ => ?_) (fun _ => ?_))
    all_goals (exfalso; (try simp (disch := omega) only [Int32.lt_iff_toInt_lt, Int32.le_iff_toInt_le, ← Int32.toInt_inj, Int32.toInt_add, Int32.toInt_sub, Int32.toInt_mul, Int32.toInt_neg, z_bm, z_bm2, J_ti, z_cn, Int32.reduceToInt] at *); omega)
  · have e1 : ∀ u, f_Shelves_has a0 u = some (0, u) := fun u => z_Shas0 (by omega)
    have e2 : ∀ u, f_R_isShelf a0 u = some (0, u) := fun u => z_RisShelf0 (by omega)
    simp [z_cat, z_bi, z_bs, z_bl, z_bc, z_bb, z_bz, z_zb0, z_zb1, k_let, f_W_element, f_R_element, f_Shelves_refusalAt, f_R_whyNoPlace, e1, e2]
    repeat' (first | exact k_sat_mk rfl | refine z_ite (fun _ => ?_) (fun _ => ?_))
    all_goals (exfalso; (try simp (disch := omega) only [Int32.lt_iff_toInt_lt, Int32.le_iff_toInt_le, ← Int32.toInt_inj, Int32.toInt_add, Int32.toInt_sub, Int32.toInt_mul, Int32.toInt_neg, z_bm, z_bm2, J_ti, z_cn, Int32.reduceToInt] at *); omega)
theorem z_p1_taken (a0 : Int32) (a1 : Int32) (u : k_S) (hu : u = z_u0) : z_pair (f_W_taken a0 a1) (f_R_taken a0 a1) u (fun _ => True) := by
  subst hu
  refine z_pair_cat ?_
  by_cases h1 : 0 ≤ a0.toInt ∧ a0.toInt < 6
  · have e1 : ∀ u, f_Shelves_has a0 u = some (1, u) := fun u => z_Shas h1.1 h1.2
    have e2 : ∀ u, f_R_isShelf a0 u = some (1, u) := fun u => z_RisShelf h1.1 h1.2
    have e3 : ∀ u, f_Shelves_heldBy a0 u = some (u.2.1 39 a0.toNatClampNeg, u) := fun u => z_SheldBy h1.1 h1.2
    have e4 : z_u0.2.1 39 a0.toNatClampNeg = -1 := z_u0a 39 (Or.inl rfl) h1.1 h1.2
    have e5 : z_u0.2.1 72 a0.toNatClampNeg = -1 := z_u0a 72 (Or.inr rfl) h1.1 h1.2
    have e6 : ∀ {α : Type} (o : Option α), k_ck a0 6 o = o := fun o => z_cko o h1.1 (by omega)
    simp [z_cat, z_bi, z_bs, z_bl, z_bc, z_bb, z_bz, z_zb0, z_zb1, k_let, f_W_taken, f_R_taken, e1, e2, e3, e4, e5, e6, f_R_in]
    repeat' (first | exact k_sat_mk rfl | refine z_ite (fun _ => ?_) (fun _ => ?_))
    all_goals (exfalso; (try simp (disch := omega) only [Int32.lt_iff_toInt_lt, Int32.le_iff_toInt_le, ← Int32.toInt_inj, Int32.toInt_add, Int32.toInt_sub, Int32.toInt_mul, Int32.toInt_neg, z_bm, z_bm2, J_ti, z_cn, Int32.reduceToInt] at *); omega)
  · have e1 : ∀ u, f_Shelves_has a0 u = some (0, u) := fun u => z_Shas0 (by omega)
    have e2 : ∀ u, f_R_isShelf a0 u = some (0, u) := fun u => z_RisShelf0 (by omega)
    simp [z_cat, z_bi, z_bs, z_bl, z_bc, z_bb, z_bz, z_zb0, z_zb1, k_let, f_W_taken, f_R_taken, e1, e2]
    repeat' (first | exact k_sat_mk rfl | refine z_ite (fun _ => ?_) (fun _ => ?_))
    all_goals (exfalso; (try simp (disch := omega) only [Int32.lt_iff_toInt_lt, Int32.le_iff_toInt_le, ← Int32.toInt_inj, Int32.toInt_add, Int32.toInt_sub, Int32.toInt_mul, Int32.toInt_neg, z_bm, z_bm2, J_ti, z_cn, Int32.reduceToInt] at *); omega)
theorem z_p1_shift (a0 : Int32) (a1 : Int32) (a2 : Int32) (a3 : Int32) (a4 : Int32) (u : k_S) (hu : u = z_u0) : z_pair (f_W_shift a0 a1 a2 a3 a4) (f_R_shift a0 a1 a2 a3 a4) u (fun _ => True) := by
  subst hu
  refine z_pair_cat ?_
  by_cases h1 : 0 ≤ a0.toInt ∧ a0.toInt < 6
  · have e1 : ∀ u, f_Shelves_has a0 u = some (1, u) := fun u => z_Shas h1.1 h1.2
    have e2 : ∀ u, f_R_isShelf a0 u = some (1, u) := fun u => z_RisShelf h1.1 h1.2
    have e3 : ∀ u, f_Shelves_heldBy a0 u = some (u.2.1 39 a0.toNatClampNeg, u) := fun u => z_SheldBy h1.1 h1.2
    have e4 : z_u0.2.1 39 a0.toNatClampNeg = -1 := z_u0a 39 (Or.inl rfl) h1.1 h1.2
    have e5 : z_u0.2.1 72 a0.toNatClampNeg = -1 := z_u0a 72 (Or.inr rfl) h1.1 h1.2
    have e6 : ∀ {α : Type} (o : Option α), k_ck a0 6 o = o := fun o => z_cko o h1.1 (by omega)
    by_cases h2 : 0 ≤ a2.toInt ∧ a2.toInt < 6
    · have f1 : ∀ u, f_Shelves_has a2 u = some (1, u) := fun u => z_Shas h2.1 h2.2
      have f2 : ∀ u, f_R_isShelf a2 u = some (1, u) := fun u => z_RisShelf h2.1 h2.2
      have f3 : ∀ u, f_Shelves_heldBy a2 u = some (u.2.1 39 a2.toNatClampNeg, u) := fun u => z_SheldBy h2.1 h2.2
      simp [z_cat, z_bi, z_bs, z_bl, z_bc, z_bb, z_bz, z_zb0, z_zb1, k_let, f_W_shift, f_R_shift, e1, e2, e3, e4, e5, e6, f1, f2, f3]
      repeat' (first | exact k_sat_mk rfl | refine z_ite (fun _ => ?_) (fun _ => ?_))
      all_goals (exfalso; (try simp (disch := omega) only [Int32.lt_iff_toInt_lt, Int32.le_iff_toInt_le, ← Int32.toInt_inj, Int32.toInt_add, Int32.toInt_sub, Int32.toInt_mul, Int32.toInt_neg, z_bm, z_bm2, J_ti, z_cn, Int32.reduceToInt] at *); omega)
    · have f1 : ∀ u, f_Shelves_has a2 u = some (0, u) := fun u => z_Shas0 (by omega)
      have f2 : ∀ u, f_R_isShelf a2 u = some (0, u) := fun u => z_RisShelf0 (by omega)
      simp [z_cat, z_bi, z_bs, z_bl, z_bc, z_bb, z_bz, z_zb0, z_zb1, k_let, f_W_shift, f_R_shift, e1, e2, f1, f2]
      repeat' (first | exact k_sat_mk rfl | refine z_ite (fun _ => ?_) (fun _ => ?_))
      all_goals (exfalso; (try simp (disch := omega) only [Int32.lt_iff_toInt_lt, Int32.le_iff_toInt_le, ← Int32.toInt_inj, Int32.toInt_add, Int32.toInt_sub, Int32.toInt_mul, Int32.toInt_neg, z_bm, z_bm2, J_ti, z_cn, Int32.reduceToInt] at *); omega)
  · have e1 : ∀ u, f_Shelves_has a0 u = some (0, u) := fun u => z_Shas0 (by omega)
    have e2 : ∀ u, f_R_isShelf a0 u = some (0, u) := fun u => z_RisShelf0 (by omega)
    simp [z_cat, z_bi, z_bs, z_bl, z_bc, z_bb, z_bz, z_zb0, z_zb1, k_let, f_W_shift, f_R_shift, e1, e2]
    repeat' (first | exact k_sat_mk rfl | refine z_ite (fun _ => ?_) (fun _ => ?_))
    all_goals (exfalso; (try simp (disch := omega) only [Int32.lt_iff_toInt_lt, Int32.le_iff_toInt_le, ← Int32.toInt_inj, Int32.toInt_add, Int32.toInt_sub, Int32.toInt_mul, Int32.toInt_neg, z_bm, z_bm2, J_ti, z_cn, Int32.reduceToInt] at *); omega)
