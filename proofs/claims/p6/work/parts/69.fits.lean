/-! judge, fits, sure -/
theorem z_recs {u : k_S} (h : zR u) : ∃ (n : Nat) (A B f : Nat → Nat), n ≤ 40 ∧ u.1 2003 = J n ∧ u.1 4235 = J n ∧ z_RC 21 22 n A B u ∧ z_RC 64 65 n A B u ∧ (∀ i, i < n → f i < n ∧ u.2.1 23 i = J (f i)) ∧ (∀ r, r < n → ∃ i, i < n ∧ f i = r) ∧ (∀ i j, i < j → j < n → A (f i) ≤ A (f j)) := by
  obtain ⟨n, hn, e1, e2, h1, f, h2, h3, h4⟩ := h
  have key : ∀ i, i < n → (u.2.1 21 i).toInt.toNat ≤ 5000 ∧ (u.2.1 22 i).toInt.toNat < 40 ∧ u.2.1 21 i = J (u.2.1 21 i).toInt.toNat ∧ u.2.1 22 i = J (u.2.1 22 i).toInt.toNat ∧ u.2.1 64 i = u.2.1 21 i ∧ u.2.1 65 i = u.2.1 22 i ∧ 0 ≤ (u.2.1 21 i).toInt := by
    intro i hi
    obtain ⟨a, b, ha, hb, a1, a2, b1, b2⟩ := h1 i hi
    rw [a1, a2, b1, b2, J_toInt (by omega), J_toInt (by omega)]
    simp only [Int.toNat_natCast]
    exact ⟨ha, hb, trivial, trivial, trivial, trivial, by omega⟩
  refine ⟨n, fun i => (u.2.1 21 i).toInt.toNat, fun i => (u.2.1 22 i).toInt.toNat, f, hn, e1, e2, fun i hi => ?_, fun i hi => ?_, h2, h3, fun i j hij hj => ?_⟩
  · obtain ⟨a, b, c, d, -, -, -⟩ := key i hi
    exact ⟨a, b, c, d⟩
  · obtain ⟨a, b, c, d, e, g, -⟩ := key i hi
    exact ⟨a, b, e.trans c, g.trans d⟩
  · have := h4 i j hij hj
    have k1 := (key (f i) (h2 i (by omega)).1).2.2.2.2.2.2
    have k2 := (key (f j) (h2 j hj).1).2.2.2.2.2.2
    show (u.2.1 21 (f i)).toInt.toNat ≤ (u.2.1 21 (f j)).toInt.toNat
    omega
theorem z_bad_m {E : z_E} {u v : k_S} (h : z_moR v = z_moR u) {t : Nat} {A B : Nat → Nat} {r : Nat} : z_bad E v t A B r ↔ z_bad E u t A B r := by unfold z_bad; rw [z_pl_m h]
theorem z_RC_f {F C : List Nat} {c1 c2 nr : Nat} {A B : Nat → Nat} {u v : k_S} (h : z_fr F C u v) (a : C.elem c1 = false) (b : C.elem c2 = false) (k : z_RC c1 c2 nr A B u) : z_RC c1 c2 nr A B v := by
  intro r hr
  rw [h.2.1 c1 a, h.2.1 c2 b]
  exact k r hr
theorem z_judge (u : k_S) (h : zI u) : z_pair f_W_judge f_R_judge u zI := by
  obtain ⟨E, hE, -, eS, -⟩ := z_env h
  obtain ⟨⟨t, ht, t1, t2⟩, -⟩ := h.2.2.1
  obtain ⟨nr, A, B, f, hnr, r1, r2, r3, r4, hf, hsu, hso⟩ := z_recs h.2.2.2.2.2.1
  have hE4 := hE.1.1
  have e1 := hE.1.2.1
  have e2 := hE.2.1.2.1
  refine z_pair_of ?_
  unfold f_W_judge
  by_cases h0 : E.1 = 0
  · refine z_pos (by rw [e1, h0]; rfl) (k_sat_mk ?_)
    unfold f_R_judge
    exact z_pos (by rw [e2, h0]; rfl) (k_sat_mk ⟨rfl, h⟩)
  · refine z_neg (by rw [e1]; (try simp (disch := omega) only [Int32.lt_iff_toInt_lt, Int32.le_iff_toInt_le, ← Int32.toInt_inj, Int32.toInt_add, Int32.toInt_sub, Int32.toInt_mul, Int32.toInt_neg, z_bm, z_bm2, J_ti, J_toInt, z_cn, Int32.reduceToInt]) <;> omega) (z_bind _ (z_firstW ⟨hE.1, hE.2.2.1, hE.2.2.2.2⟩ (by omega) ht t1 hnr r1 r3 hf hsu hso 0 (Or.inl rfl)) (fun r v hv => k_sat_mk ?_))
    obtain ⟨i2, hE2, m2, q1, q2, q3⟩ := z_Wdone h hE hv.1
    unfold f_R_judge
    refine z_neg (by rw [q1, e2]; (try simp (disch := omega) only [Int32.lt_iff_toInt_lt, Int32.le_iff_toInt_le, ← Int32.toInt_inj, Int32.toInt_add, Int32.toInt_sub, Int32.toInt_mul, Int32.toInt_neg, z_bm, z_bm2, J_ti, J_toInt, z_cn, Int32.reduceToInt]) <;> omega) (z_bind _ (z_firstR hE2.2.1 hE2.2.2.2.1 (by omega) ht ((hv.1.1 4209 rfl).trans t2) hnr ((hv.1.1 4235 rfl).trans r2) (z_RC_f hv.1 rfl rfl r4)) (fun r' v' hv' => k_sat_mk ⟨?_, zI_0 i2 (hv'.1.mono rfl rfl)⟩))
    exact z_mn_u (hv.2.1 rfl) hv'.2 (fun r _ => (z_bad_m m2).symm)
/-- a letter fits when no record is wrong -/
def z_gd (E : z_E) (u : k_S) (t nr : Nat) (A B : Nat → Nat) (p j : Nat) : Bool := decide (∀ r, r < nr → ¬ (t ≤ A r ∧ ¬ z_pl (z_Ex E p (k_t101 j)) u 0 (A r - t) = J (B r)))
theorem z_gd_m {E : z_E} {u v : k_S} (h : z_moR v = z_moR u) {t nr : Nat} {A B : Nat → Nat} : z_gd E v t nr A B = z_gd E u t nr A B := by
  funext p j
  unfold z_gd
  simp only [z_pl_m h]
def z_bits (g : Nat → Bool) : Nat → Int32
  | 0 => 0
  | j + 1 => if g j then z_bits g j ||| ((1 : Int32) <<< (J j &&& 31)) else z_bits g j
def z_b4 (a b c d : Bool) : Int32 :=
  let x0 : Int32 := if a then 0 ||| ((1 : Int32) <<< (J 0 &&& 31)) else 0
  let x1 : Int32 := if b then x0 ||| ((1 : Int32) <<< (J 1 &&& 31)) else x0
  let x2 : Int32 := if c then x1 ||| ((1 : Int32) <<< (J 2 &&& 31)) else x1
  if d then x2 ||| ((1 : Int32) <<< (J 3 &&& 31)) else x2
theorem z_b4_J (a b c d : Bool) : ((List.range 16).any fun m => z_b4 a b c d == J m) = true := by
  cases a <;> cases b <;> cases c <;> cases d <;> decide +kernel
theorem z_bits_J (g : Nat → Bool) : ∃ m, m < 16 ∧ z_bits g 4 = J m := by
  obtain ⟨m, hm, e⟩ := List.any_eq_true.mp (z_b4_J (g 0) (g 1) (g 2) (g 3))
  exact ⟨m, List.mem_range.mp hm, eq_of_beq e⟩
theorem z_fitW {E : z_E} {u : k_S} {t nr p : Nat} {A B f : Nat → Nat} (hE : z_eW E u) (h0 : 0 < E.1) (ht : t ≤ 1000000) (t1 : u.1 1402 = J t) (hnr : nr ≤ 40) (e20 : u.1 2003 = J nr) (hRC : z_RC 21 22 nr A B u) (hf : ∀ i, i < nr → f i < nr ∧ u.2.1 23 i = J (f i)) (hsu : ∀ r, r < nr → ∃ i, i < nr ∧ f i = r) (hso : ∀ i j, i < j → j < nr → A (f i) ≤ A (f j)) (hp : p < 40) : k_sat (f_Judging_fitting (J p) u) (fun r v => r = z_bits (z_gd E u t nr A B p) 4 ∧ z_fr [1702, 1206, 704] [18, 19, 9, 13] u v) := by
  unfold f_Judging_fitting
  rw [z_letA0 hp, z_bind_some]
  refine z_bind _ (z_for2 0 4 0 (fun j x v => x = z_bits (z_gd E u t nr A B p) j ∧ z_fr [1702, 1206, 704] [18, 19, 9, 13, 4] u v ∧ ∃ l, v.2.1 4 = upd (u.2.1 4) p l) (K := fun y v => y = z_bits (z_gd E u t nr A B p) 4 ∧ z_fr [1702, 1206, 704] [18, 19, 9, 13, 4] u v ∧ ∃ l, v.2.1 4 = upd (u.2.1 4) p l) (by omega) (by omega) ⟨rfl, z_fr.rf, u.2.1 4 p, by rw [z_up_self]⟩ (fun j x w _ hj hw => ?_) (fun x v hv => ?_)) (fun y v hv => ?_)
  · obtain ⟨k1, k2, l, k3⟩ := hw
    unfold f_Judging_fitting_B15
    dsimp only
    refine z_neg (by (try simp (disch := omega) only [Int32.lt_iff_toInt_lt, Int32.le_iff_toInt_le, ← Int32.toInt_inj, Int32.toInt_add, Int32.toInt_sub, Int32.toInt_mul, Int32.toInt_neg, z_bm, z_bm2, J_ti, J_toInt, z_cn, Int32.reduceToInt]) <;> omega) (z_ck (by (try simp (disch := omega) only [Int32.lt_iff_toInt_lt, Int32.le_iff_toInt_le, ← Int32.toInt_inj, Int32.toInt_add, Int32.toInt_sub, Int32.toInt_mul, Int32.toInt_neg, z_bm, z_bm2, J_ti, J_toInt, z_cn, Int32.reduceToInt]) <;> omega) (by (try simp (disch := omega) only [Int32.lt_iff_toInt_lt, Int32.le_iff_toInt_le, ← Int32.toInt_inj, Int32.toInt_add, Int32.toInt_sub, Int32.toInt_mul, Int32.toInt_neg, z_bm, z_bm2, J_ti, J_toInt, z_cn, Int32.reduceToInt]) <;> omega) ?_)
    rw [J_toNat (show j < 2147483648 by omega), z_setL0 hp, z_bind_some]
    have h4 : (k_wA w 4 p (k_t101 j)).2.1 4 = upd (u.2.1 4) p (k_t101 j) := by
      simp only [k_wA, if_true]
      rw [k3]
      funext i
      rw [z_up, z_up, z_up]
      by_cases e : i = p
      · rw [if_pos e, if_pos e]
      · rw [if_neg e, if_neg e, if_neg e]
    have k4 : z_fr [1702, 1206, 704] [18, 19, 9, 13, 4] u (k_wA w 4 p (k_t101 j)) := k2.tr (z_wA rfl)
    have mN : z_moNow (k_wA w 4 p (k_t101 j)) = z_moNow u := by unfold z_moNow; rw [k4.1 1402 rfl, k4.2.1 15 rfl, k4.2.1 16 rfl]
    have mR : z_moR (k_wA w 4 p (k_t101 j)) = z_moR u := by unfold z_moR; rw [k4.1 4209 rfl, k4.2.1 46 rfl, k4.2.1 47 rfl]
    have hE' : z_eW (z_Ex E p (k_t101 j)) (k_wA w 4 p (k_t101 j)) := ⟨z_EW_x hE.1 (k4.1 303 rfl) (k4.1 703 rfl) (k4.1 705 rfl) h4 (k4.2.1 5 rfl) (k4.2.1 6 rfl) (k4.2.1 8 rfl), by rw [mN]; exact z_ok_x hE.2.1, by rw [mN, mR]; exact hE.2.2⟩
    refine z_bind _ (z_firstW (f := f) hE' h0 ht ((k4.1 1402 rfl).trans t1) hnr ((k4.1 2003 rfl).trans e20) (z_RC_f k4 rfl rfl hRC) (by rw [k4.2.1 23 rfl]; exact hf) hsu hso 1 (Or.inr rfl)) (fun r w2 hw2 => ?_)
    have k5 : z_fr [1702, 1206, 704] [18, 19, 9, 13, 4] u w2 := k4.tr (hw2.1.mono rfl rfl)
    have k6 : w2.2.1 4 = upd (u.2.1 4) p (k_t101 j) := (hw2.1.2.1 4 rfl).trans h4
    have hr := (hw2.2.2 rfl).1
    have hst : z_bits (z_gd E u t nr A B p) (j + 1) = if z_gd E u t nr A B p j then x ||| ((1 : Int32) <<< (J j &&& 31)) else x := by rw [k1]; rfl
    refine z_ite (fun q => z_let (k_sat_mk (Or.inl ⟨_, rfl, ?_, k5, _, k6⟩))) (fun q => k_sat_mk (Or.inl ⟨_, rfl, ?_, k5, _, k6⟩))
    · rw [hst, if_pos]
      refine decide_eq_true (fun r' hr' b => hr.mp q r' hr' ((z_bad_m mR).mpr b))
    · rw [hst, if_neg]
      intro b
      exact q (hr.mpr (fun r' hr' c => of_decide_eq_true b r' hr' ((z_bad_m mR).mp c)))
  · unfold f_Judging_fitting_B15
    exact z_pos (Int32.le_refl _) (k_sat_mk ⟨_, rfl, hv⟩)
  · obtain ⟨k1, k2, l, k3⟩ := hv
    rw [z_setL0 hp, z_bind_some]
    refine k_sat_mk ⟨k1, z_fr_less (c := 4) ?_ ?_ rfl⟩
    · exact (k2.mono rfl rfl : z_fr [1702, 1206, 704] [4, 18, 19, 9, 13] u v).tr (z_wA rfl)
    · simp only [k_wA, if_true]
      rw [k3]
      funext i
      rw [z_up, z_up]
      by_cases e : i = p
      · rw [if_pos e, e]
      · rw [if_neg e, if_neg e]
theorem k_t101_K {u : k_S} (h : zK u) {j : Nat} (hj : j < 4) : u.2.1 66 j = k_t101 j := by
  obtain ⟨-, a, b, c, d⟩ := h
  rcases (show j = 0 ∨ j = 1 ∨ j = 2 ∨ j = 3 by omega) with rfl | rfl | rfl | rfl
  · exact a
  · exact b
  · exact c
  · exact d
theorem z_fitR {E : z_E} {u : k_S} {t nr p s : Nat} {A B : Nat → Nat} (hE : z_ER E u) (hok : z_ok E (z_moR u)) (h0 : 0 < E.1) (ht : t ≤ 1000000) (t2 : u.1 4209 = J t) (hnr : nr ≤ 40) (e42 : u.1 4235 = J nr) (hRC : z_RC 64 65 nr A B u) (es : E.2.2.1 0 = J s) (hs : s ≤ 40) (hp : p < s) (hK : zK u) : k_sat (f_R_fitting (J p) u) (fun r v => r = z_bits (z_gd E u t nr A B p) 4 ∧ z_fr [4230] [54, 55, 60, 61, 62] u v) := by
  unfold f_R_fitting
  refine z_ck (by (try simp (disch := omega) only [Int32.lt_iff_toInt_lt, Int32.le_iff_toInt_le, ← Int32.toInt_inj, Int32.toInt_add, Int32.toInt_sub, Int32.toInt_mul, Int32.toInt_neg, z_bm, z_bm2, J_ti, J_toInt, z_cn, Int32.reduceToInt]) <;> omega) (by (try simp (disch := omega) only [Int32.lt_iff_toInt_lt, Int32.le_iff_toInt_le, ← Int32.toInt_inj, Int32.toInt_add, Int32.toInt_sub, Int32.toInt_mul, Int32.toInt_neg, z_bm, z_bm2, J_ti, J_toInt, z_cn, Int32.reduceToInt]) <;> omega) (z_let ?_)
  rw [J_toNat (show p < 2147483648 by omega)]
  refine z_bind _ (z_for2 0 4 0 (fun j x v => x = z_bits (z_gd E u t nr A B p) j ∧ z_fr [4230] [44, 54, 55, 60, 61, 62] u v ∧ ∃ l, v.2.1 44 = upd (u.2.1 44) p l) (K := fun y v => y = z_bits (z_gd E u t nr A B p) 4 ∧ z_fr [4230] [44, 54, 55, 60, 61, 62] u v ∧ ∃ l, v.2.1 44 = upd (u.2.1 44) p l) (by omega) (by omega) ⟨rfl, z_fr.rf, u.2.1 44 p, by rw [z_up_self]⟩ (fun j x w _ hj hw => ?_) (fun x v hv => ?_)) (fun y v hv => ?_)
  · obtain ⟨k1, k2, l, k3⟩ := hw
    unfold f_R_fitting_B12
    dsimp only
    have e66 : w.2.1 66 j = k_t101 j := (congrFun (k2.2.1 66 rfl) j).trans (k_t101_K hK hj)
    rw [J_toNat (show j < 2147483648 by omega), J_toNat (show p < 2147483648 by omega), e66]
    refine z_neg (by (try simp (disch := omega) only [Int32.lt_iff_toInt_lt, Int32.le_iff_toInt_le, ← Int32.toInt_inj, Int32.toInt_add, Int32.toInt_sub, Int32.toInt_mul, Int32.toInt_neg, z_bm, z_bm2, J_ti, J_toInt, z_cn, Int32.reduceToInt]) <;> omega) (z_ck (by (try simp (disch := omega) only [Int32.lt_iff_toInt_lt, Int32.le_iff_toInt_le, ← Int32.toInt_inj, Int32.toInt_add, Int32.toInt_sub, Int32.toInt_mul, Int32.toInt_neg, z_bm, z_bm2, J_ti, J_toInt, z_cn, Int32.reduceToInt]) <;> omega) (by (try simp (disch := omega) only [Int32.lt_iff_toInt_lt, Int32.le_iff_toInt_le, ← Int32.toInt_inj, Int32.toInt_add, Int32.toInt_sub, Int32.toInt_mul, Int32.toInt_neg, z_bm, z_bm2, J_ti, J_toInt, z_cn, Int32.reduceToInt]) <;> omega) (z_ck (by (try simp (disch := omega) only [Int32.lt_iff_toInt_lt, Int32.le_iff_toInt_le, ← Int32.toInt_inj, Int32.toInt_add, Int32.toInt_sub, Int32.toInt_mul, Int32.toInt_neg, z_bm, z_bm2, J_ti, J_toInt, z_cn, Int32.reduceToInt]) <;> omega) (by (try simp (disch := omega) only [Int32.lt_iff_toInt_lt, Int32.le_iff_toInt_le, ← Int32.toInt_inj, Int32.toInt_add, Int32.toInt_sub, Int32.toInt_mul, Int32.toInt_neg, z_bm, z_bm2, J_ti, J_toInt, z_cn, Int32.reduceToInt]) <;> omega) (z_let ?_)))
    have h44 : (k_wA w 44 p (k_t101 j)).2.1 44 = upd (u.2.1 44) p (k_t101 j) := by
      simp only [k_wA, if_true]
      rw [k3]
      funext i
      rw [z_up, z_up, z_up]
      by_cases e : i = p
      · rw [if_pos e, if_pos e]
      · rw [if_neg e, if_neg e, if_neg e]
    have k4 : z_fr [4230] [44, 54, 55, 60, 61, 62] u (k_wA w 44 p (k_t101 j)) := k2.tr (z_wA rfl)
    have mR : z_moR (k_wA w 44 p (k_t101 j)) = z_moR u := by unfold z_moR; rw [k4.1 4209 rfl, k4.2.1 46 rfl, k4.2.1 47 rfl]
    have hE' : z_ER (z_Ex E p (k_t101 j)) (k_wA w 44 p (k_t101 j)) := z_ER_x hE es hs hp [4230] (k4.mono rfl rfl) (by decide) h44
    refine z_bind _ (z_firstR hE' (by rw [mR]; exact z_ok_x hok) h0 ht ((k4.1 4209 rfl).trans t2) hnr ((k4.1 4235 rfl).trans e42) (z_RC_f k4 rfl rfl hRC)) (fun r w2 hw2 => ?_)
    have k5 : z_fr [4230] [44, 54, 55, 60, 61, 62] u w2 := k4.tr (hw2.1.mono rfl rfl)
    have k6 : w2.2.1 44 = upd (u.2.1 44) p (k_t101 j) := (hw2.1.2.1 44 rfl).trans h44
    have hst : z_bits (z_gd E u t nr A B p) (j + 1) = if z_gd E u t nr A B p j then x ||| ((1 : Int32) <<< (J j &&& 31)) else x := by rw [k1]; rfl
    rcases hw2.2 with ⟨rfl, hb⟩ | ⟨m, m1, m2, rfl, -⟩
    · refine z_neg (by decide) (z_let (k_sat_mk (Or.inl ⟨_, rfl, ?_, k5, _, k6⟩)))
      rw [hst, if_pos]
      exact decide_eq_true (fun r' hr' b => hb r' hr' ((z_bad_m mR).mpr b))
    · refine z_pos (by (try simp (disch := omega) only [Int32.lt_iff_toInt_lt, Int32.le_iff_toInt_le, ← Int32.toInt_inj, Int32.toInt_add, Int32.toInt_sub, Int32.toInt_mul, Int32.toInt_neg, z_bm, z_bm2, J_ti, J_toInt, z_cn, Int32.reduceToInt]) <;> omega) (k_sat_mk (Or.inl ⟨_, rfl, ?_, k5, _, k6⟩))
      rw [hst, if_neg]
      intro b
      exact of_decide_eq_true b m m1 ((z_bad_m mR).mp m2)
  · unfold f_R_fitting_B12
    exact z_pos (Int32.le_refl _) (k_sat_mk ⟨_, rfl, hv⟩)
  · obtain ⟨k1, k2, l, k3⟩ := hv
    refine z_ck (by (try simp (disch := omega) only [Int32.lt_iff_toInt_lt, Int32.le_iff_toInt_le, ← Int32.toInt_inj, Int32.toInt_add, Int32.toInt_sub, Int32.toInt_mul, Int32.toInt_neg, z_bm, z_bm2, J_ti, J_toInt, z_cn, Int32.reduceToInt]) <;> omega) (by (try simp (disch := omega) only [Int32.lt_iff_toInt_lt, Int32.le_iff_toInt_le, ← Int32.toInt_inj, Int32.toInt_add, Int32.toInt_sub, Int32.toInt_mul, Int32.toInt_neg, z_bm, z_bm2, J_ti, J_toInt, z_cn, Int32.reduceToInt]) <;> omega) (z_let (k_sat_mk ⟨k1, z_fr_less (c := 44) (k2.tr (z_wA rfl)) ?_ rfl⟩))
    simp only [k_wA, if_true]
    rw [k3]
    funext i
    rw [z_up, z_up]
    by_cases e : i = p
    · rw [if_pos e, e]
    · rw [if_neg e, if_neg e]
