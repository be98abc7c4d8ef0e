/-! watch: the fewest nights -/
def z_be (T : Nat → Bool) : Nat → Option Nat
  | 0 => none
  | n + 1 => match z_be T n with
    | none => if T n = true then some n else none
    | some m => if z_bc (J m) ≤ z_bc (J n) then some m else if T n = true then some n else some m
def z_bv (o : Option Nat) : Int32 := match o with
  | none => -2
  | some m => J m
def z_bw (o : Option Nat) : Int32 := match o with
  | none => 11
  | some m => z_bc (J m)
theorem z_be_lt (T : Nat → Bool) : ∀ n m, z_be T n = some m → m < n
  | 0, m, h => by cases h
  | n + 1, m, h => by
    rw [z_be] at h
    cases hq : z_be T n with
    | none =>
      rw [hq] at h
      dsimp only at h
      split at h
      · cases h; omega
      · cases h
    | some k =>
      have := z_be_lt T n k hq
      rw [hq] at h
      dsimp only at h
      split at h
      · cases h; omega
      · split at h
        · cases h; omega
        · cases h; omega
theorem z_bc_J {n : Nat} (h : n < 1024) : ∃ c, c ≤ 10 ∧ z_bc (J n) = J c := by
  have := List.all_eq_true.mp z_bits_all n (List.mem_range.mpr h)
  simp only [Bool.and_eq_true] at this
  exact ⟨_, of_decide_eq_true this.1.2, eq_of_beq this.2⟩
noncomputable def z_T (H : Nat → Nat → Int32) (m : Int32) (n : Nat) : Bool := @decide (z_pt H m (J n)) (Classical.propDecidable _)
theorem z_T1 {H : Nat → Nat → Int32} {m : Int32} {n : Nat} (h : z_pt H m (J n)) : z_T H m n = true := @decide_eq_true _ (Classical.propDecidable _) h
theorem z_T0 {H : Nat → Nat → Int32} {m : Int32} {n : Nat} (h : ¬ z_pt H m (J n)) : ¬ z_T H m n = true := fun q => h (@of_decide_eq_true _ (Classical.propDecidable _) q)
/-- no night tells nothing apart -/
theorem z_T00 {H : Nat → Nat → Int32} {m : Nat} (hm : m < 16) (h2 : 2 ≤ z_bc (J m)) : ¬ z_T H (J m) 0 = true := by
  refine z_T0 (fun hp => ?_)
  have := List.all_eq_true.mp z_bt_2 m (List.mem_range.mpr hm)
  rw [Bool.or_eq_true] at this
  rcases this with q | q
  · have := of_decide_eq_true q
    ((try simp (disch := omega) only [Int32.lt_iff_toInt_lt, Int32.le_iff_toInt_le, ← Int32.toInt_inj, Int32.toInt_add, Int32.toInt_sub, Int32.toInt_mul, Int32.toInt_neg, z_bm, z_bm2, J_ti, J_toInt, z_cn, Int32.reduceToInt] at *); omega)
  · obtain ⟨a, ha, q⟩ := List.any_eq_true.mp q
    obtain ⟨b, hb, q⟩ := List.any_eq_true.mp q
    simp only [Bool.and_eq_true] at q
    obtain ⟨i, hi, h3, -⟩ := hp a b (of_decide_eq_true q.1.1) (List.mem_range.mp hb) q.1.2 q.2
    have h0 := eq_of_beq (List.all_eq_true.mp z_bt_0 i (List.mem_range.mpr hi))
    rw [J_0, h0] at h3
    cases h3
theorem z_seaW (H : Nat → Nat → Int32) {u : k_S} {m : Nat} (h00 : ¬ z_T H (J m) 0 = true) (h26 : ∀ c, c < 16 → u.2.1 26 c = z_bits (z_dif H (c / 4) (c % 4)) 10) : k_sat (k_itr (fun (x : (Int32 × Int32 × Int32)) u => f_Judging_fewestNights_B29 (J m) x.1 x.2.1 x.2.2 u) k_FU (-2, 11, 1) u) (fun y v => v = u ∧ y = z_bv (z_be (z_T H (J m)) 1024)) := by
  refine z_for3 1 1024 (-2) 11 (fun n x y v => v = u ∧ x = z_bv (z_be (z_T H (J m)) n) ∧ y = z_bw (z_be (z_T H (J m)) n)) (by omega) (by omega) ⟨rfl, ?_, ?_⟩ (fun n x y v hn0 hn hp => ?_) (fun x y v hp => ?_)
  · rw [z_be, z_be]
    dsimp only
    rw [if_neg h00]
    rfl
  · rw [z_be, z_be]
    dsimp only
    rw [if_neg h00]
    rfl
  · obtain ⟨rfl, rfl, rfl⟩ := hp
    obtain ⟨c, hc, ec⟩ := z_bc_J hn
    unfold f_Judging_fewestNights_B29
    dsimp only
    rw [z_bcW, z_bind_some]
    have hst : z_be (z_T H (J m)) (n + 1) = match z_be (z_T H (J m)) n with
      | none => if z_T H (J m) n = true then some n else none
      | some k => if z_bc (J k) ≤ z_bc (J n) then some k else if z_T H (J m) n = true then some n else some k := rfl
    refine z_neg (by (try simp (disch := omega) only [Int32.lt_iff_toInt_lt, Int32.le_iff_toInt_le, ← Int32.toInt_inj, Int32.toInt_add, Int32.toInt_sub, Int32.toInt_mul, Int32.toInt_neg, z_bm, z_bm2, J_ti, J_toInt, z_cn, Int32.reduceToInt]) <;> omega) ?_
    cases hb : z_be (z_T H (J m)) n with
    | none =>
      rw [hb] at hst
      dsimp only at hst
      refine z_neg (by rw [ec]; show ¬ (11 : Int32) ≤ J c; (try simp (disch := omega) only [Int32.lt_iff_toInt_lt, Int32.le_iff_toInt_le, ← Int32.toInt_inj, Int32.toInt_add, Int32.toInt_sub, Int32.toInt_mul, Int32.toInt_neg, z_bm, z_bm2, J_ti, J_toInt, z_cn, Int32.reduceToInt]) <;> omega) (z_bind _ (z_tell H hn h26) (fun r v' hv' => ?_))
      obtain ⟨rfl, ⟨rfl, ht⟩ | ⟨rfl, ht⟩⟩ := hv'
      · refine z_neg (by decide) (k_sat_mk (Or.inl ⟨_, _, rfl, rfl, ?_, ?_⟩))
        · rw [hst, if_pos (z_T1 ht)]; rfl
        · rw [hst, if_pos (z_T1 ht)]; rfl
      · refine z_pos rfl (k_sat_mk (Or.inl ⟨_, _, rfl, rfl, ?_, ?_⟩))
        · rw [hst, if_neg (z_T0 ht)]
        · rw [hst, if_neg (z_T0 ht)]
    | some k =>
      rw [hb] at hst
      dsimp only at hst
      refine z_ite (fun q => k_sat_mk (Or.inl ⟨_, _, rfl, rfl, ?_, ?_⟩)) (fun q => z_bind _ (z_tell H hn h26) (fun r v' hv' => ?_))
      · have q : z_bc (J k) ≤ z_bc (J n) := q
        rw [hst, if_pos q]
      · have q : z_bc (J k) ≤ z_bc (J n) := q
        rw [hst, if_pos q]
      · have q : ¬ z_bc (J k) ≤ z_bc (J n) := q
        obtain ⟨rfl, ⟨rfl, ht⟩ | ⟨rfl, ht⟩⟩ := hv'
        · refine z_neg (by decide) (k_sat_mk (Or.inl ⟨_, _, rfl, rfl, ?_, ?_⟩))
          · rw [hst, if_neg q, if_pos (z_T1 ht)]; rfl
          · rw [hst, if_neg q, if_pos (z_T1 ht)]; rfl
        · refine z_pos rfl (k_sat_mk (Or.inl ⟨_, _, rfl, rfl, ?_, ?_⟩))
          · rw [hst, if_neg q, if_neg (z_T0 ht)]
          · rw [hst, if_neg q, if_neg (z_T0 ht)]
  · obtain ⟨hv, hx, -⟩ := hp
    unfold f_Judging_fewestNights_B29
    exact z_pos (Int32.le_refl _) (k_sat_mk ⟨_, rfl, hv, hx⟩)
theorem z_seaR (H : Nat → Nat → Int32) {u : k_S} {m : Nat} (hm : m < 16) (h67 : ∀ j i, j < 4 → i < 10 → u.2.1 67 (11 * j + (i + 1)) = H j i) : k_sat (k_itr (fun (x : (Int32 × Int32)) u => f_R_watch_B137 (J m) x.1 x.2 u) k_FU (-2, 0) u) (fun y v => v = u ∧ y = z_bv (z_be (z_T H (J m)) 1024)) := by
  refine z_for2 0 1024 (-2) (fun n x v => v = u ∧ x = z_bv (z_be (z_T H (J m)) n)) (by omega) (by omega) ⟨rfl, rfl⟩ (fun n x v _ hn hp => ?_) (fun x v hp => ?_)
  · obtain ⟨rfl, rfl⟩ := hp
    unfold f_R_watch_B137
    dsimp only
    have hst : z_be (z_T H (J m)) (n + 1) = match z_be (z_T H (J m)) n with
      | none => if z_T H (J m) n = true then some n else none
      | some k => if z_bc (J k) ≤ z_bc (J n) then some k else if z_T H (J m) n = true then some n else some k := rfl
    refine z_neg (by (try simp (disch := omega) only [Int32.lt_iff_toInt_lt, Int32.le_iff_toInt_le, ← Int32.toInt_inj, Int32.toInt_add, Int32.toInt_sub, Int32.toInt_mul, Int32.toInt_neg, z_bm, z_bm2, J_ti, J_toInt, z_cn, Int32.reduceToInt]) <;> omega) ?_
    cases hb : z_be (z_T H (J m)) n with
    | none =>
      rw [hb] at hst
      dsimp only at hst
      refine z_pos (by decide) ?_
      unfold f_R_watch_J163
      refine z_bind _ (z_part H hm h67) (fun r v' hv' => ?_)
      obtain ⟨rfl, ⟨rfl, ht⟩ | ⟨rfl, ht⟩⟩ := hv'
      · refine z_neg (by decide) (k_sat_mk (Or.inl ⟨_, rfl, rfl, ?_⟩))
        rw [hst, if_pos (z_T1 ht)]; rfl
      · refine z_pos rfl (k_sat_mk (Or.inl ⟨_, rfl, rfl, ?_⟩))
        rw [hst, if_neg (z_T0 ht)]
    | some k =>
      rw [hb] at hst
      dsimp only at hst
      have hk := z_be_lt _ _ _ hb
      refine z_neg (by show ¬ J k < 0; (try simp (disch := omega) only [Int32.lt_iff_toInt_lt, Int32.le_iff_toInt_le, ← Int32.toInt_inj, Int32.toInt_add, Int32.toInt_sub, Int32.toInt_mul, Int32.toInt_neg, z_bm, z_bm2, J_ti, J_toInt, z_cn, Int32.reduceToInt]) <;> omega) ?_
      rw [z_bcR hn, z_bind_some, show f_R_bitsOf (z_bv (some k)) v = some (z_bc (J k), v) from z_bcR (by omega) v, z_bind_some]
      refine z_ite (fun q => k_sat_mk (Or.inl ⟨_, rfl, rfl, ?_⟩)) (fun q => ?_)
      · rw [hst, if_pos q]
      · unfold f_R_watch_J163
        refine z_bind _ (z_part H hm h67) (fun r v' hv' => ?_)
        obtain ⟨rfl, ⟨rfl, ht⟩ | ⟨rfl, ht⟩⟩ := hv'
        · refine z_neg (by decide) (k_sat_mk (Or.inl ⟨_, rfl, rfl, ?_⟩))
          rw [hst, if_neg q, if_pos (z_T1 ht)]; rfl
        · refine z_pos rfl (k_sat_mk (Or.inl ⟨_, rfl, rfl, ?_⟩))
          rw [hst, if_neg q, if_neg (z_T0 ht)]
  · obtain ⟨hv, hx⟩ := hp
    unfold f_R_watch_B137
    exact z_pos (Int32.le_refl _) (k_sat_mk ⟨_, rfl, hv, hx⟩)
theorem z_watch (a : Int32) (u : k_S) (h : zI u) : z_pair (f_W_watch a) (f_R_watch a) u zI := by
  obtain ⟨E, hE, -, eS, -⟩ := z_env h
  obtain ⟨⟨t, ht, t1, t2⟩, -⟩ := h.2.2.1
  obtain ⟨nr, A, B, f, hnr, r1, r2, r3, r4, hf, hsu, hso⟩ := z_recs h.2.2.2.2.2.1
  have hE4 := hE.1.1
  have e1 := hE.1.2.1
  have e2 := hE.2.1.2.1
  refine z_pair_of ?_
  unfold f_W_watch
  by_cases h0 : E.1 = 0
  · have hw := z_WhasP00 (a := 0) (b := a) e1 hE4 (Or.inr (by rw [h0]; decide))
    rw [hw, z_bind_some]
    refine z_pos rfl (k_sat_mk ?_)
    unfold f_R_watch
    exact z_pos (by rw [e2, h0]; rfl) (k_sat_mk ⟨rfl, h⟩)
  · obtain ⟨p0, s, -, hs2, hs, -, es⟩ := hE.2.2.1.2 0 (by omega)
    have e5 : u.2.1 5 0 = J s := by rw [hE.1.2.2.2.1]; exact es
    have e45 : u.2.1 45 0 = J s := ((hE.2.1.2.2.1 0 (by omega)).1).trans es
    rcases J_or a s with ⟨p, hp, rfl⟩ | ha
    · have hw := z_WhasP (w := 0) (p := p) e1 hE4 (by omega) e5 hs hp
      rw [show f_Wheels_hasPlace 0 (J p) u = some (1, u) from hw, z_bind_some]
      refine z_neg (by decide) (z_bind _ (z_fitW ⟨hE.1, hE.2.2.1, hE.2.2.2.2⟩ (by omega) ht t1 hnr r1 r3 hf hsu hso (by omega)) (fun r v hv => ?_))
      obtain ⟨i2, hE2, m2, q1, q2, q3⟩ := z_Wdone h hE hv.2
      obtain ⟨m, hm, em⟩ := z_bits_J (z_gd E u t nr A B p)
      rw [hv.1]
      have fin : ∀ (r : Int32) (w : k_S), zI w → z_en E w → z_moR w = z_moR u → z_fr [1702, 1206, 704] [26, 25, 18, 19, 9, 13] u w → (¬ 2 ≤ z_bc (J m) → r = 0) → (2 ≤ z_bc (J m) → r = z_bv (z_be (z_T (z_hh E u p) (J m)) 1024)) → k_sat (f_R_watch (J p) w) (fun r' v' => r = r' ∧ zI v') := by
        intro r w i3 hE3 m3 hfr hr0 hr2
        unfold f_R_watch
        refine z_neg (by rw [hfr.1 4203 rfl, e2]; (try simp (disch := omega) only [Int32.lt_iff_toInt_lt, Int32.le_iff_toInt_le, ← Int32.toInt_inj, Int32.toInt_add, Int32.toInt_sub, Int32.toInt_mul, Int32.toInt_neg, z_bm, z_bm2, J_ti, J_toInt, z_cn, Int32.reduceToInt]) <;> omega) (z_ck (by decide) (by decide) ?_)
        rw [show (0 : Int32).toNatClampNeg = 0 from rfl, hfr.2.1 45 rfl, e45, z_Jm' (by omega), z_Rin1 (by (try simp (disch := omega) only [Int32.lt_iff_toInt_lt, Int32.le_iff_toInt_le, ← Int32.toInt_inj, Int32.toInt_add, Int32.toInt_sub, Int32.toInt_mul, Int32.toInt_neg, z_bm, z_bm2, J_ti, J_toInt, z_cn, Int32.reduceToInt]) <;> omega) (by (try simp (disch := omega) only [Int32.lt_iff_toInt_lt, Int32.le_iff_toInt_le, ← Int32.toInt_inj, Int32.toInt_add, Int32.toInt_sub, Int32.toInt_mul, Int32.toInt_neg, z_bm, z_bm2, J_ti, J_toInt, z_cn, Int32.reduceToInt]) <;> omega), z_bind_some]
        refine z_neg (by decide) (z_bind _ (z_fitR hE3.2.1 hE3.2.2.2.1 (by omega) ht ((hfr.1 4209 rfl).trans t2) hnr ((hfr.1 4235 rfl).trans r2) (z_RC_f hfr rfl rfl r4) es hs hp i3.2.2.2.2.2.2.2.2.2.2) (fun r' v' hv' => ?_))
        rw [hv'.1, (z_bcb _ v').2, z_bind_some, z_gd_m m3, em]
        have i4 : zI v' := zI_0 i3 (hv'.2.mono rfl rfl)
        have hE4' : z_en E v' := z_en_f hv'.2 (by decide) (by decide) (by decide) hE3
        have m4 : z_moR v' = z_moR u := by rw [← m3]; unfold z_moR; rw [hv'.2.1 4209 rfl, hv'.2.2.1 46 rfl, hv'.2.2.1 47 rfl]
        refine z_ite (fun c2 => z_ck (by (try simp (disch := omega) only [Int32.lt_iff_toInt_lt, Int32.le_iff_toInt_le, ← Int32.toInt_inj, Int32.toInt_add, Int32.toInt_sub, Int32.toInt_mul, Int32.toInt_neg, z_bm, z_bm2, J_ti, J_toInt, z_cn, Int32.reduceToInt]) <;> omega) (by (try simp (disch := omega) only [Int32.lt_iff_toInt_lt, Int32.le_iff_toInt_le, ← Int32.toInt_inj, Int32.toInt_add, Int32.toInt_sub, Int32.toInt_mul, Int32.toInt_neg, z_bm, z_bm2, J_ti, J_toInt, z_cn, Int32.reduceToInt]) <;> omega) (z_let (z_bind _ (z_letR hE4'.2.1 hE4'.2.2.2.1 es hs hp i4.2.2.2.2.2.2.2.2.2.2) (fun _ v2 hv2 => ?_)))) (fun c2 => k_sat_mk ⟨hr0 c2, i4⟩)
        obtain ⟨k2, ⟨l, k3⟩, k1⟩ := hv2
        rw [J_toNat (show p < 2147483648 by omega)]
        refine z_ck (by (try simp (disch := omega) only [Int32.lt_iff_toInt_lt, Int32.le_iff_toInt_le, ← Int32.toInt_inj, Int32.toInt_add, Int32.toInt_sub, Int32.toInt_mul, Int32.toInt_neg, z_bm, z_bm2, J_ti, J_toInt, z_cn, Int32.reduceToInt]) <;> omega) (by (try simp (disch := omega) only [Int32.lt_iff_toInt_lt, Int32.le_iff_toInt_le, ← Int32.toInt_inj, Int32.toInt_add, Int32.toInt_sub, Int32.toInt_mul, Int32.toInt_neg, z_bm, z_bm2, J_ti, J_toInt, z_cn, Int32.reduceToInt]) <;> omega) (z_let ?_)
        have k5 : z_fr [4230] [67, 54, 55, 60, 61, 62] v' (k_wA v2 44 p (v'.2.1 44 p)) := by
          refine z_fr_less (c := 44) (k2.tr (z_wA rfl)) ?_ rfl
          simp only [k_wA, if_true]
          rw [z_upd2 k3, z_up_self]
        refine z_bind _ (z_seaR (z_hh E u p) hm (u := k_wA v2 44 p (v'.2.1 44 p)) ?_) (fun y v3 hv3 => ?_)
        · rw [← z_hh_m m4]
          exact k1
        · obtain ⟨q3, q4⟩ := hv3
          rw [q3, q4]
          exact k_sat_mk ⟨hr2 c2, zI_0 i4 (k5.mono rfl rfl)⟩
      refine z_bind (fun r w => zI w ∧ z_en E w ∧ z_moR w = z_moR u ∧ z_fr [1702, 1206, 704] [26, 25, 18, 19, 9, 13] u w ∧ (¬ 2 ≤ z_bc (J m) → r = 0) ∧ (2 ≤ z_bc (J m) → r = z_bv (z_be (z_T (z_hh E u p) (J m)) 1024))) ?_ (fun r w hw => k_sat_mk (fin r w hw.1 hw.2.1 hw.2.2.1 hw.2.2.2.1 hw.2.2.2.2.1 hw.2.2.2.2.2))
      unfold f_Judging_fewestNights
      rw [em, z_bcW, z_bind_some]
      refine z_ite (fun c2 => ?_) (fun c2 => k_sat_mk ⟨i2, hE2, m2, hv.2.mono rfl rfl, fun _ => rfl, fun q => absurd q c2⟩)
      refine z_bind _ (z_letW ⟨hE2.1, hE2.2.2.1, hE2.2.2.2.2⟩ (by omega) (show p < 40 by omega)) (fun _ v1 hv1 => z_bind _ (z_cmpL (z_hh E v p) hv1.2) (fun _ v2 hv2 => ?_))
      rw [z_hh_m m2] at hv2
      refine z_bind _ (z_seaW (z_hh E u p) (z_T00 hm c2) hv2.2) (fun y v3 hv3 => ?_)
      obtain ⟨q3, q4⟩ := hv3
      rw [q3, q4]
      have k5 : z_fr [1702, 1206, 704] [26, 25, 18, 19, 9, 13] u v2 := ((hv.2.mono rfl rfl).tr (hv1.1.mono rfl rfl)).tr (hv2.1.mono rfl rfl)
      exact k_sat_mk ⟨zI_0 h (k5.mono rfl rfl), z_en_f k5 (by decide) (by decide) (by decide) hE, by unfold z_moR; rw [k5.1 4209 rfl, k5.2.1 46 rfl, k5.2.1 47 rfl], k5, fun q => absurd c2 q, fun _ => rfl⟩
    · have hw := z_WhasP0 (w := 0) (b := a) e1 hE4 (by omega) e5 hs ha
      rw [show f_Wheels_hasPlace 0 a u = some (0, u) from hw, z_bind_some]
      refine z_pos rfl (k_sat_mk ?_)
      unfold f_R_watch
      refine z_neg (by rw [e2]; (try simp (disch := omega) only [Int32.lt_iff_toInt_lt, Int32.le_iff_toInt_le, ← Int32.toInt_inj, Int32.toInt_add, Int32.toInt_sub, Int32.toInt_mul, Int32.toInt_neg, z_bm, z_bm2, J_ti, J_toInt, z_cn, Int32.reduceToInt]) <;> omega) (z_ck (by decide) (by decide) ?_)
      rw [show (0 : Int32).toNatClampNeg = 0 from rfl, e45, z_Jm' (by omega), z_Rin0 (by ((try simp (disch := omega) only [Int32.lt_iff_toInt_lt, Int32.le_iff_toInt_le, ← Int32.toInt_inj, Int32.toInt_add, Int32.toInt_sub, Int32.toInt_mul, Int32.toInt_neg, z_bm, z_bm2, J_ti, J_toInt, z_cn, Int32.reduceToInt] at *); omega)), z_bind_some]
      exact z_pos rfl (k_sat_mk ⟨rfl, h⟩)
