/-! when: both run to their ends and leave all as it was -/
def z_Eb (E : z_E) (l : Int32) : z_E := (E.1, E.2.1, E.2.2.1, upd E.2.2.2.1 0 l, E.2.2.2.2)
theorem z_EW_b {E : z_E} {u v : k_S} {l : Int32} (h : z_EW E u) (h303 : v.1 303 = u.1 303) (h703 : v.1 703 = u.1 703) (h705 : v.1 705 = u.1 705) (h4 : v.2.1 4 = u.2.1 4) (h5 : v.2.1 5 = u.2.1 5) (h6 : v.2.1 6 = upd (u.2.1 6) 0 l) (h8 : v.2.1 8 = u.2.1 8) : z_EW (z_Eb E l) v :=
  ⟨h.1, h303.trans h.2.1, by rw [h4, h.2.2.1]; rfl, by rw [h5, h.2.2.2.1]; rfl, by rw [h6, h.2.2.2.2.1]; rfl, fun w w1 w2 w3 => h.2.2.2.2.2 w (w1.trans h703) (w2.trans h8) (w3.trans h705)⟩
theorem z_ER_b {E : z_E} {u v : k_S} {l : Int32} (h : z_ER E u) (F : List Nat) (hf : z_fr F [54, 55, 60, 61, 62, 48] u v) (hd : F.elem 4203 = false ∧ F.elem 4223 = false ∧ F.elem 4211 = false) (h48 : v.2.1 48 = upd (u.2.1 48) 0 l) : z_ER (z_Eb E l) v := by
  refine ⟨h.1, (hf.1 4203 hd.1).trans h.2.1, fun w hw => ?_, fun w w1 w2 w3 w4 w5 w6 w7 => h.2.2.2 w (w1.trans (hf.1 4223 hd.2.1)) (w2.trans (hf.1 4211 hd.2.2)) (w3.trans (hf.2.1 49 rfl)) (w4.trans (hf.2.1 50 rfl)) (w5.trans (hf.2.1 51 rfl)) (w6.trans (hf.2.1 52 rfl)) (w7.trans (hf.2.1 53 rfl))⟩
  obtain ⟨b1, b2, b3⟩ := h.2.2.1 w hw
  refine ⟨by rw [hf.2.1 45 rfl]; exact b1, ?_, fun q s' e1 e2 e3 => by rw [hf.2.1 44 rfl]; exact b3 q s' e1 e2 e3⟩
  rw [h48]
  show upd _ _ _ _ = upd _ _ _ _
  rw [z_up, z_up, b2]
theorem z_ok_b {E : z_E} {l : Int32} {m : z_Mo} (h : z_ok E m) : z_ok (z_Eb E l) m := h
theorem z_upd2 {f g : Nat → Int32} {p : Nat} {x y : Int32} (h : g = upd f p x) : upd g p y = upd f p y := by
  rw [h]
  funext i
  rw [z_up, z_up, z_up]
  by_cases e : i = p
  · rw [if_pos e, if_pos e]
  · rw [if_neg e, if_neg e, if_neg e]
/-- while breaks are tried -/
def z_tW (u v : k_S) : Prop := z_fr [1702, 1206, 704, 2405, 2406, 2407] [6, 18, 19, 9, 13] u v ∧ ∃ l, v.2.1 6 = upd (u.2.1 6) 0 l
theorem z_tW_f {u v w : k_S} (h : z_tW u v) (k : z_fr [1702, 1206, 704, 2405, 2406, 2407] [18, 19, 9, 13] v w) : z_tW u w := by
  obtain ⟨l, e⟩ := h.2
  exact ⟨h.1.tr (k.mono rfl rfl), l, by rw [k.2.1 6 rfl]; exact e⟩
theorem z_t106 {u v : k_S} (h : z_tW u v) (v1 v2 v3 v4 : Int32) : k_sat (f_Judging_tryBreaks_J106 v1 v2 v3 v4 v) (fun z v' => (∃ x' y', z = .inl (x', y', v4 + Int32.ofInt 1)) ∧ z_tW u v') := by
  have hJ : ∀ w, z_tW u w → k_sat (f_Judging_tryBreaks_J128 v1 v2 v3 v4 w) (fun z v' => (∃ x' y', z = .inl (x', y', v4 + Int32.ofInt 1)) ∧ z_tW u v') := by
    intro w hw
    unfold f_Judging_tryBreaks_J128
    exact z_let (z_let (k_sat_mk ⟨⟨_, _, rfl⟩, z_tW_f (z_tW_f hw (z_wF rfl)) (z_wF rfl)⟩))
  unfold f_Judging_tryBreaks_J106
  exact z_ite (fun _ => k_sat_mk ⟨⟨_, _, rfl⟩, h⟩) (fun _ => z_ite (fun _ => z_let (hJ _ (z_tW_f h (z_wF rfl)))) (fun _ => hJ _ h))
theorem z_tryB {E : z_E} {u : k_S} {t nr : Nat} {A B f : Nat → Nat} (hE : z_eW E u) (h0 : 0 < E.1) (ht : t ≤ 1000000) (t1 : u.1 1402 = J t) (hnr : nr ≤ 40) (e20 : u.1 2003 = J nr) (hRC : z_RC 21 22 nr A B u) (hf : ∀ i, i < nr → f i < nr ∧ u.2.1 23 i = J (f i)) (hsu : ∀ r, r < nr → ∃ i, i < nr ∧ f i = r) (hso : ∀ i j, i < j → j < nr → A (f i) ≤ A (f j)) : k_sat (f_Judging_tryBreaks u) (fun _ v => z_fr [1702, 1206, 704, 2405, 2406, 2407] [18, 19, 9, 13] u v) := by
  unfold f_Judging_tryBreaks
  rw [show f_Wheels_breakOf 0 u = some (u.2.1 6 0, u) from z_Wheels_breakOf (n := 0) (by omega), z_bind_some]
  refine z_let (z_let (z_let (z_bind _ (z_for3 0 401 0 (-1) (fun _ _ _ v => z_tW u v) (K := fun _ v => z_tW u v) (by omega) (by omega) ⟨((z_wF rfl).tr (z_wF rfl)).tr (z_wF rfl), u.2.1 6 0, by rw [z_up_self]; simp [k_wF]⟩ (fun i x y v _ hi hp => ?_) (fun x y v hp => ?_)) (fun _ v hv => ?_))))
  · unfold f_Judging_tryBreaks_B33
    dsimp only
    refine z_neg (by (try simp (disch := omega) only [Int32.lt_iff_toInt_lt, Int32.le_iff_toInt_le, ← Int32.toInt_inj, Int32.toInt_add, Int32.toInt_sub, Int32.toInt_mul, Int32.toInt_neg, z_bm, z_bm2, J_ti, J_toInt, z_cn, Int32.reduceToInt]) <;> omega) (z_ite (fun _ => z_mono (z_t106 hp _ _ _ _) (fun z v' hz => ?_)) (fun _ => ?_))
    · obtain ⟨⟨x', y', e⟩, hz⟩ := hz
      exact Or.inl ⟨x', y', e, hz⟩
    · rw [show f_Wheels_setBreak 0 (J i) v = some ((), k_wA v 6 0 (J i)) from z_setBreak (w := 0) (by omega), z_bind_some]
      refine z_let ?_
      obtain ⟨g1, l, g2⟩ := hp
      have k4 : z_fr [1702, 1206, 704, 2405, 2406, 2407] [6, 18, 19, 9, 13] u (k_wF (k_wA v 6 0 (J i)) 1206 (-1)) := (g1.tr (z_wA rfl)).tr (z_wF rfl)
      have h6 : (k_wF (k_wA v 6 0 (J i)) 1206 (-1)).2.1 6 = upd (u.2.1 6) 0 (J i) := by
        simp only [k_wF, k_wA, if_true]
        exact z_upd2 g2
      have mN : z_moNow (k_wF (k_wA v 6 0 (J i)) 1206 (-1)) = z_moNow u := by unfold z_moNow; rw [k4.1 1402 rfl, k4.2.1 15 rfl, k4.2.1 16 rfl]
      have mR : z_moR (k_wF (k_wA v 6 0 (J i)) 1206 (-1)) = z_moR u := by unfold z_moR; rw [k4.1 4209 rfl, k4.2.1 46 rfl, k4.2.1 47 rfl]
      have hE' : z_eW (z_Eb E (J i)) (k_wF (k_wA v 6 0 (J i)) 1206 (-1)) := ⟨z_EW_b hE.1 (k4.1 303 rfl) (k4.1 703 rfl) (k4.1 705 rfl) (k4.2.1 4 rfl) (k4.2.1 5 rfl) h6 (k4.2.1 8 rfl), by rw [mN]; exact z_ok_b hE.2.1, by rw [mN, mR]; exact hE.2.2⟩
      refine z_bind _ (z_firstW (f := f) hE' h0 ht ((k4.1 1402 rfl).trans t1) hnr ((k4.1 2003 rfl).trans e20) (z_RC_f k4 rfl rfl hRC) (by rw [k4.2.1 23 rfl]; exact hf) hsu hso 1 (Or.inr rfl)) (fun r w2 hw2 => ?_)
      have hT : z_tW u w2 := z_tW_f ⟨k4, _, h6⟩ (hw2.1.mono rfl rfl)
      have fin : ∀ x : Int32, k_sat (f_Judging_tryBreaks_J80 (u.2.1 6 0) (J i) x w2) (fun z u' => (∃ x' y', z = .inl (x', y', J i + Int32.ofInt 1) ∧ z_tW u u') ∨ ∃ r, z = .inr r ∧ z_tW u u') := by
        intro x
        unfold f_Judging_tryBreaks_J80 f_Judging_tryBreaks_J105
        refine z_ite (fun _ => z_mono (z_t106 hT _ _ _ _) (fun z v' hz => ?_)) (fun _ => z_mono (z_t106 hT _ _ _ _) (fun z v' hz => ?_))
        · obtain ⟨⟨x', y', e⟩, hz⟩ := hz
          exact Or.inl ⟨x', y', e, hz⟩
        · obtain ⟨⟨x', y', e⟩, hz⟩ := hz
          exact Or.inl ⟨x', y', e, hz⟩
      exact z_ite (fun _ => fin 1) (fun _ => fin 0)
  · unfold f_Judging_tryBreaks_B33
    exact z_pos (show (400 : Int32) < J 401 by decide) (k_sat_mk ⟨_, rfl, hp⟩)
  · obtain ⟨g1, l, g2⟩ := hv
    rw [show f_Wheels_setBreak 0 (u.2.1 6 0) v = some ((), k_wA v 6 0 (u.2.1 6 0)) from z_setBreak (w := 0) (by omega), z_bind_some]
    refine k_sat_mk (z_fr_less (c := 6) (g1.tr (z_wA rfl)) ?_ rfl)
    simp only [k_wA, if_true]
    rw [z_upd2 g2, z_up_self]
theorem z_when2 (a : Int32) (u : k_S) (h : zI u) : z_two (f_W_when a) (f_R_when a) u zI := by
  obtain ⟨E, hE, -, eS, -⟩ := z_env h
  obtain ⟨⟨t, ht, t1, t2⟩, -⟩ := h.2.2.1
  obtain ⟨nr, A, B, f, hnr, r1, r2, r3, r4, hf, hsu, hso⟩ := z_recs h.2.2.2.2.2.1
  have hE4 := hE.1.1
  have e1 := hE.1.2.1
  have e2 := hE.2.1.2.1
  refine z_two_of ?_
  by_cases ha : 0 ≤ a.toInt ∧ a.toInt ≤ 2
  · unfold f_W_when
    refine z_neg (by (try simp (disch := omega) only [Int32.lt_iff_toInt_lt, Int32.le_iff_toInt_le, ← Int32.toInt_inj, Int32.toInt_add, Int32.toInt_sub, Int32.toInt_mul, Int32.toInt_neg, z_bm, z_bm2, J_ti, J_toInt, z_cn, Int32.reduceToInt]) <;> omega) (z_pos (by (try simp (disch := omega) only [Int32.lt_iff_toInt_lt, Int32.le_iff_toInt_le, ← Int32.toInt_inj, Int32.toInt_add, Int32.toInt_sub, Int32.toInt_mul, Int32.toInt_neg, z_bm, z_bm2, J_ti, J_toInt, z_cn, Int32.reduceToInt]) <;> omega) ?_)
    by_cases h0 : E.1 = 0
    · refine z_pos (by rw [e1, h0]; rfl) (k_sat_mk ?_)
      unfold f_R_when
      rw [z_Rin1 (by (try simp (disch := omega) only [Int32.lt_iff_toInt_lt, Int32.le_iff_toInt_le, ← Int32.toInt_inj, Int32.toInt_add, Int32.toInt_sub, Int32.toInt_mul, Int32.toInt_neg, z_bm, z_bm2, J_ti, J_toInt, z_cn, Int32.reduceToInt]) <;> omega) (by (try simp (disch := omega) only [Int32.lt_iff_toInt_lt, Int32.le_iff_toInt_le, ← Int32.toInt_inj, Int32.toInt_add, Int32.toInt_sub, Int32.toInt_mul, Int32.toInt_neg, z_bm, z_bm2, J_ti, J_toInt, z_cn, Int32.reduceToInt]) <;> omega), z_bind_some]
      exact z_neg (by decide) (z_pos (by rw [e2, h0]; rfl) (k_sat_mk h))
    · refine z_neg (by rw [e1]; (try simp (disch := omega) only [Int32.lt_iff_toInt_lt, Int32.le_iff_toInt_le, ← Int32.toInt_inj, Int32.toInt_add, Int32.toInt_sub, Int32.toInt_mul, Int32.toInt_neg, z_bm, z_bm2, J_ti, J_toInt, z_cn, Int32.reduceToInt]) <;> omega) (z_bind _ (z_tryB (f := f) ⟨hE.1, hE.2.2.1, hE.2.2.2.2⟩ (by omega) ht t1 hnr r1 r3 hf hsu hso) (fun _ v hv => ?_))
      have i2 : zI v := zI_0 h (hv.mono rfl rfl)
      have hE2 : z_en E v := z_en_f hv (by decide) (by decide) (by decide) hE
      have hR : k_sat (f_R_when a v) (fun _ v' => zI v') := by
        unfold f_R_when
        rw [z_Rin1 (by (try simp (disch := omega) only [Int32.lt_iff_toInt_lt, Int32.le_iff_toInt_le, ← Int32.toInt_inj, Int32.toInt_add, Int32.toInt_sub, Int32.toInt_mul, Int32.toInt_neg, z_bm, z_bm2, J_ti, J_toInt, z_cn, Int32.reduceToInt]) <;> omega) (by (try simp (disch := omega) only [Int32.lt_iff_toInt_lt, Int32.le_iff_toInt_le, ← Int32.toInt_inj, Int32.toInt_add, Int32.toInt_sub, Int32.toInt_mul, Int32.toInt_neg, z_bm, z_bm2, J_ti, J_toInt, z_cn, Int32.reduceToInt]) <;> omega), z_bind_some]
        refine z_neg (by decide) (z_neg (by rw [hv.1 4203 rfl, e2]; (try simp (disch := omega) only [Int32.lt_iff_toInt_lt, Int32.le_iff_toInt_le, ← Int32.toInt_inj, Int32.toInt_add, Int32.toInt_sub, Int32.toInt_mul, Int32.toInt_neg, z_bm, z_bm2, J_ti, J_toInt, z_cn, Int32.reduceToInt]) <;> omega) (z_ck (by decide) (by decide) (z_let ?_)))
        refine z_bind (fun _ w => z_fr [4230] [48, 54, 55, 60, 61, 62] v w ∧ ∃ l, w.2.1 48 = upd (v.2.1 48) 0 l) (z_itr (P := fun m x w => ∃ i : Nat, i ≤ 401 ∧ x.2.2.2 = J i ∧ m = 401 - i ∧ z_fr [4230] [48, 54, 55, 60, 61, 62] v w ∧ ∃ l, w.2.1 48 = upd (v.2.1 48) 0 l) (fun m x w hw => ?_) k_FU 401 (-2, -2, 0, 0) v (by unfold k_FU; omega) ⟨0, by omega, rfl, rfl, z_fr.rf, v.2.1 48 0, by rw [z_up_self]⟩) (fun y w hw => ?_)
        · obtain ⟨x1, x2, x3, x4⟩ := x
          obtain ⟨i, hi, ei, rfl, g1, l, g2⟩ := hw
          dsimp only at ei
          subst ei
          unfold f_R_when_B41
          dsimp only
          by_cases hi2 : i = 401
          · subst hi2
            exact z_pos (by decide) (k_sat_mk (Or.inr ⟨_, rfl, g1, l, g2⟩))
          · refine z_neg (by (try simp (disch := omega) only [Int32.lt_iff_toInt_lt, Int32.le_iff_toInt_le, ← Int32.toInt_inj, Int32.toInt_add, Int32.toInt_sub, Int32.toInt_mul, Int32.toInt_neg, z_bm, z_bm2, J_ti, J_toInt, z_cn, Int32.reduceToInt]) <;> omega) (z_ck (by decide) (by decide) (z_let ?_))
            rw [show (0 : Int32).toNatClampNeg = 0 from rfl]
            have k4 : z_fr [4230] [48, 54, 55, 60, 61, 62] v (k_wA w 48 0 (J i)) := g1.tr (z_wA rfl)
            have h48 : (k_wA w 48 0 (J i)).2.1 48 = upd (v.2.1 48) 0 (J i) := by
              simp only [k_wA, if_true]
              exact z_upd2 g2
            have mR : z_moR (k_wA w 48 0 (J i)) = z_moR v := by unfold z_moR; rw [k4.1 4209 rfl, k4.2.1 46 rfl, k4.2.1 47 rfl]
            have hE' : z_ER (z_Eb E (J i)) (k_wA w 48 0 (J i)) := z_ER_b hE2.2.1 [4230] (k4.mono rfl rfl) (by decide) h48
            refine z_bind _ (z_firstR hE' (by rw [mR]; exact z_ok_b hE2.2.2.2.1) (show 0 < E.1 by omega) ht ((k4.1 4209 rfl).trans ((hv.1 4209 rfl).trans t2)) hnr ((k4.1 4235 rfl).trans ((hv.1 4235 rfl).trans r2)) (z_RC_f k4 rfl rfl (z_RC_f hv rfl rfl r4))) (fun r w2 hw2 => ?_)
            have k5 : z_fr [4230] [48, 54, 55, 60, 61, 62] v w2 := k4.tr (hw2.1.mono rfl rfl)
            have k6 : w2.2.1 48 = upd (v.2.1 48) 0 (J i) := (hw2.1.2.1 48 rfl).trans h48
            exact z_ite (fun _ => z_ite (fun _ => k_sat_mk (Or.inl ⟨_, 401 - (i + 1), rfl, by omega, i + 1, by omega, z_J1 i, rfl, k5, _, k6⟩)) (fun _ => k_sat_mk (Or.inl ⟨_, 401 - (i + 1), rfl, by omega, i + 1, by omega, z_J1 i, rfl, k5, _, k6⟩))) (fun _ => k_sat_mk (Or.inl ⟨_, 401 - (i + 1), rfl, by omega, i + 1, by omega, z_J1 i, rfl, k5, _, k6⟩))
        · obtain ⟨g1, l, g2⟩ := hw
          refine z_ck (by decide) (by decide) (z_let ?_)
          rw [show (0 : Int32).toNatClampNeg = 0 from rfl]
          have k5 : z_fr [4230] [54, 55, 60, 61, 62] v (k_wA w 48 0 (v.2.1 48 0)) := by
            refine z_fr_less (c := 48) (g1.tr (z_wA rfl)) ?_ rfl
            simp only [k_wA, if_true]
            rw [z_upd2 g2, z_up_self]
          have i3 := zI_0 i2 (k5.mono rfl rfl)
          repeat' first
            | exact k_sat_mk i3
            | refine z_ite (fun _ => ?_) (fun _ => ?_)
      exact z_ite (fun _ => k_sat_mk hR) (fun _ => z_ite (fun _ => k_sat_mk hR) (fun _ => k_sat_mk hR))
  · have hR : k_sat (f_R_when a u) (fun _ v' => zI v') := by
      unfold f_R_when
      rw [z_Rin0 (by ((try simp (disch := omega) only [Int32.lt_iff_toInt_lt, Int32.le_iff_toInt_le, ← Int32.toInt_inj, Int32.toInt_add, Int32.toInt_sub, Int32.toInt_mul, Int32.toInt_neg, z_bm, z_bm2, J_ti, J_toInt, z_cn, Int32.reduceToInt] at *); omega)), z_bind_some]
      exact z_pos rfl (k_sat_mk h)
    unfold f_W_when
    exact z_ite (fun _ => k_sat_mk hR) (fun q => z_neg (by ((try simp (disch := omega) only [Int32.lt_iff_toInt_lt, Int32.le_iff_toInt_le, ← Int32.toInt_inj, Int32.toInt_add, Int32.toInt_sub, Int32.toInt_mul, Int32.toInt_neg, z_bm, z_bm2, J_ti, J_toInt, z_cn, Int32.reduceToInt] at *); omega)) (k_sat_mk hR))
/-! watch: which nights tell the letters apart -/
def z_bt (x : Int32) (i : Nat) : Bool := decide ((x >>> (J i &&& 31)) &&& 1 = 1)
theorem z_bt_all : ((List.range 1024).all fun n => (List.range 10).all fun i => (((1 : Int32) <<< (J i &&& 31)) &&& J n == 0) == !(z_bt (J n) i)) = true := by decide +kernel
theorem z_bt_16 : ((List.range 16).all fun m => (List.range 4).all fun i => z_bt (J m) i || ((J m >>> (J i &&& 31)) &&& 1 == 0)) = true := by decide +kernel
theorem z_bt_2 : ((List.range 16).all fun m => decide (z_bc (J m) < 2) || ((List.range 4).any fun a => (List.range 4).any fun b => decide (a < b) && z_bt (J m) a && z_bt (J m) b)) = true := by decide +kernel
theorem z_bt_0 : ((List.range 10).all fun i => z_bt 0 i == false) = true := by decide +kernel
theorem z_bt_n {m i : Nat} (hm : m < 16) (hi : i < 4) : z_bt (J m) i = false ↔ (J m >>> (J i &&& 31)) &&& 1 = 0 := by
  have := List.all_eq_true.mp (List.all_eq_true.mp z_bt_16 m (List.mem_range.mpr hm)) i (List.mem_range.mpr hi)
  constructor
  · intro q
    rw [q, Bool.false_or] at this
    exact eq_of_beq this
  · intro q
    unfold z_bt
    rw [q]
    rfl
theorem z_or0 (a b : Int32) : a ||| b = 0 ↔ a = 0 ∧ b = 0 := Int32.or_eq_zero_iff
theorem z_oad (a b c : Int32) : (a ||| b) &&& c = (a &&& c) ||| (b &&& c) := by
  apply Int32.toBitVec_inj.mp
  simp only [Int32.toBitVec_and, Int32.toBitVec_or]
  ext i hi
  simp [Bool.and_or_distrib_right]
theorem z_bits_and (g : Nat → Bool) {n : Nat} (hn : n < 1024) : ∀ k, k ≤ 10 → (z_bits g k &&& J n = 0 ↔ ∀ i, i < k → g i = true → z_bt (J n) i = false)
  | 0, _ => ⟨fun _ i hi => by omega, fun _ => by rw [z_bits]; exact Int32.zero_and⟩
  | k + 1, hk => by
    have ih := z_bits_and g hn k (by omega)
    have tb := eq_of_beq (List.all_eq_true.mp (List.all_eq_true.mp z_bt_all n (List.mem_range.mpr hn)) k (List.mem_range.mpr (by omega)))
    rw [z_bits]
    by_cases hg : g k = true
    · rw [if_pos hg, z_oad, z_or0, ih]
      constructor
      · rintro ⟨a, b⟩ i hi hgi
        by_cases e : i = k
        · subst e
          rw [b] at tb
          cases hq : z_bt (J n) i with
          | false => rfl
          | true => rw [hq] at tb; cases tb
        · exact a i (by omega) hgi
      · intro a
        refine ⟨fun i hi => a i (by omega), ?_⟩
        rw [a k (by omega) hg] at tb
        exact eq_of_beq tb
    · rw [if_neg hg, ih]
      constructor
      · intro a i hi hgi
        by_cases e : i = k
        · subst e; exact absurd hgi hg
        · exact a i (by omega) hgi
      · exact fun a i hi => a i (by omega)
/-- a night of the set tells letters a, b apart; every two that fit are told apart -/
def z_pc (H : Nat → Nat → Int32) (x : Int32) (a b : Nat) : Prop := ∃ i, i < 10 ∧ z_bt x i = true ∧ ¬ H a i = H b i
def z_pt (H : Nat → Nat → Int32) (m x : Int32) : Prop := ∀ a b, a < b → b < 4 → z_bt m a = true → z_bt m b = true → z_pc H x a b
def z_dif (H : Nat → Nat → Int32) (a b i : Nat) : Bool := decide (¬ H a i = H b i)
theorem z_pc_iff {H : Nat → Nat → Int32} {n a b : Nat} (hn : n < 1024) : z_pc H (J n) a b ↔ ¬ z_bits (z_dif H a b) 10 &&& J n = 0 := by
  rw [z_bits_and _ hn 10 (by omega)]
  constructor
  · rintro ⟨i, h1, h2, h3⟩ q
    have := q i h1 (decide_eq_true h3)
    rw [h2] at this
    cases this
  · intro q
    by_cases c : z_pc H (J n) a b
    · exact c
    · exact absurd (fun i hi hg => by
        cases hq : z_bt (J n) i with
        | false => rfl
        | true => exact absurd ⟨i, hi, hq, of_decide_eq_true hg⟩ c) q
theorem z_ten (j i : Nat) : (10 : Int32) * J j + J i = J (10 * j + i) := by
  rw [show (10 : Int32) = J 10 from rfl, J_mul, J_add]
theorem z_elev (j i : Nat) : (11 : Int32) * J j + J i = J (11 * j + i) := by
  rw [show (11 : Int32) = J 11 from rfl, J_mul, J_add]
theorem z_d4 {c : Nat} (h : c < 16) : J c / 4 = J (c / 4) ∧ J c % 4 = J (c % 4) := by
  rw [show (4 : Int32) = J 4 from rfl]
  exact ⟨J_div c 4 (by omega) (by omega), J_mod c 4 (by omega) (by omega)⟩
/-- the class compares -/
theorem z_cmpL (H : Nat → Nat → Int32) {u : k_S} (h25 : ∀ j i, j < 4 → i < 10 → u.2.1 25 (10 * j + i) = H j i) : k_sat (f_Judging_compareLetters u) (fun _ v => z_fr [] [26] u v ∧ ∀ c, c < 16 → v.2.1 26 c = z_bits (z_dif H (c / 4) (c % 4)) 10) := by
  unfold f_Judging_compareLetters
  refine z_bind _ (z_for 0 16 (fun k v => z_fr [] [26] u v ∧ ∀ c, c < k → v.2.1 26 c = z_bits (z_dif H (c / 4) (c % 4)) 10) (K := fun _ v => z_fr [] [26] u v ∧ ∀ c, c < 16 → v.2.1 26 c = z_bits (z_dif H (c / 4) (c % 4)) 10) (by omega) (by omega) ⟨z_fr.rf, fun c hc => by omega⟩ (fun c v _ hc hp => ?_) (fun v hp => ?_)) (fun _ v hv => k_sat_mk hv)
  · obtain ⟨g1, g2⟩ := hp
    unfold f_Judging_compareLetters_B2
    refine z_neg (by (try simp (disch := omega) only [Int32.lt_iff_toInt_lt, Int32.le_iff_toInt_le, ← Int32.toInt_inj, Int32.toInt_add, Int32.toInt_sub, Int32.toInt_mul, Int32.toInt_neg, z_bm, z_bm2, J_ti, J_toInt, z_cn, Int32.reduceToInt]) <;> omega) (z_bind (fun y v' => v' = v ∧ y = z_bits (z_dif H (c / 4) (c % 4)) 10) (z_for2 0 10 0 (fun i x v' => v' = v ∧ x = z_bits (z_dif H (c / 4) (c % 4)) i) (by omega) (by omega) ⟨rfl, rfl⟩ (fun i x v' _ hi hp => ?_) (fun x v' hp => ?_)) (fun y v' hv' => ?_))
    · obtain ⟨rfl, rfl⟩ := hp
      have hc4 : c / 4 < 4 := by omega
      have hm4 : c % 4 < 4 := by omega
      unfold f_Judging_compareLetters_B15
      dsimp only
      simp only [k_let]
      rw [(z_d4 hc).1, (z_d4 hc).2, z_ten, z_ten, J_toNat (show 10 * (c / 4) + i < 2147483648 by omega), J_toNat (show 10 * (c % 4) + i < 2147483648 by omega), g1.2.1 25 rfl, h25 _ i hc4 hi, h25 _ i hm4 hi]
      have hst : z_bits (z_dif H (c / 4) (c % 4)) (i + 1) = if z_dif H (c / 4) (c % 4) i then z_bits (z_dif H (c / 4) (c % 4)) i ||| ((1 : Int32) <<< (J i &&& 31)) else z_bits (z_dif H (c / 4) (c % 4)) i := rfl
      refine z_neg (by (try simp (disch := omega) only [Int32.lt_iff_toInt_lt, Int32.le_iff_toInt_le, ← Int32.toInt_inj, Int32.toInt_add, Int32.toInt_sub, Int32.toInt_mul, Int32.toInt_neg, z_bm, z_bm2, J_ti, J_toInt, z_cn, Int32.reduceToInt]) <;> omega) (z_neg (by (try simp (disch := omega) only [Int32.lt_iff_toInt_lt, Int32.le_iff_toInt_le, ← Int32.toInt_inj, Int32.toInt_add, Int32.toInt_sub, Int32.toInt_mul, Int32.toInt_neg, z_bm, z_bm2, J_ti, J_toInt, z_cn, Int32.reduceToInt]) <;> omega) (z_pos (by (try simp (disch := omega) only [Int32.lt_iff_toInt_lt, Int32.le_iff_toInt_le, ← Int32.toInt_inj, Int32.toInt_add, Int32.toInt_sub, Int32.toInt_mul, Int32.toInt_neg, z_bm, z_bm2, J_ti, J_toInt, z_cn, Int32.reduceToInt]) <;> omega) (z_ck (by (try simp (disch := omega) only [Int32.lt_iff_toInt_lt, Int32.le_iff_toInt_le, ← Int32.toInt_inj, Int32.toInt_add, Int32.toInt_sub, Int32.toInt_mul, Int32.toInt_neg, z_bm, z_bm2, J_ti, J_toInt, z_cn, Int32.reduceToInt]) <;> omega) (by (try simp (disch := omega) only [Int32.lt_iff_toInt_lt, Int32.le_iff_toInt_le, ← Int32.toInt_inj, Int32.toInt_add, Int32.toInt_sub, Int32.toInt_mul, Int32.toInt_neg, z_bm, z_bm2, J_ti, J_toInt, z_cn, Int32.reduceToInt]) <;> omega) (z_ck (by (try simp (disch := omega) only [Int32.lt_iff_toInt_lt, Int32.le_iff_toInt_le, ← Int32.toInt_inj, Int32.toInt_add, Int32.toInt_sub, Int32.toInt_mul, Int32.toInt_neg, z_bm, z_bm2, J_ti, J_toInt, z_cn, Int32.reduceToInt]) <;> omega) (by (try simp (disch := omega) only [Int32.lt_iff_toInt_lt, Int32.le_iff_toInt_le, ← Int32.toInt_inj, Int32.toInt_add, Int32.toInt_sub, Int32.toInt_mul, Int32.toInt_neg, z_bm, z_bm2, J_ti, J_toInt, z_cn, Int32.reduceToInt]) <;> omega) (z_ite (fun q => k_sat_mk (Or.inl ⟨_, rfl, rfl, ?_⟩)) (fun q => k_sat_mk (Or.inl ⟨_, rfl, rfl, ?_⟩)))))))
      · rw [hst, if_neg]
        unfold z_dif
        simp [q]
      · rw [hst, if_pos]
        unfold z_dif
        simp [q]
    · obtain ⟨rfl, rfl⟩ := hp
      unfold f_Judging_compareLetters_B15
      exact z_pos (Int32.le_refl _) (k_sat_mk ⟨_, rfl, rfl, rfl⟩)
    · obtain ⟨rfl, rfl⟩ := hv'
      refine z_ck (by (try simp (disch := omega) only [Int32.lt_iff_toInt_lt, Int32.le_iff_toInt_le, ← Int32.toInt_inj, Int32.toInt_add, Int32.toInt_sub, Int32.toInt_mul, Int32.toInt_neg, z_bm, z_bm2, J_ti, J_toInt, z_cn, Int32.reduceToInt]) <;> omega) (by (try simp (disch := omega) only [Int32.lt_iff_toInt_lt, Int32.le_iff_toInt_le, ← Int32.toInt_inj, Int32.toInt_add, Int32.toInt_sub, Int32.toInt_mul, Int32.toInt_neg, z_bm, z_bm2, J_ti, J_toInt, z_cn, Int32.reduceToInt]) <;> omega) (z_let (k_sat_mk (Or.inl ⟨rfl, g1.tr (z_wA rfl), fun c' hc' => ?_⟩)))
      simp only [k_wA, if_true, z_up, J_toNat (show c < 2147483648 by omega)]
      by_cases e : c' = c
      · rw [if_pos e, e]
      · rw [if_neg e]; exact g2 c' (by omega)
  · unfold f_Judging_compareLetters_B2
    exact z_pos (Int32.le_refl _) (k_sat_mk ⟨_, rfl, hp⟩)
theorem z_tell (H : Nat → Nat → Int32) {u : k_S} {n m : Nat} (hn : n < 1024) (h26 : ∀ c, c < 16 → u.2.1 26 c = z_bits (z_dif H (c / 4) (c % 4)) 10) : k_sat (f_Judging_tellApart (J n) (J m) u) (fun r v => v = u ∧ ((r = 1 ∧ z_pt H (J m) (J n)) ∨ (r = 0 ∧ ¬ z_pt H (J m) (J n)))) := by
  unfold f_Judging_tellApart
  refine z_bind _ (z_for 0 16 (fun k v => v = u ∧ ∀ c, c < k → c / 4 < c % 4 → z_bt (J m) (c / 4) = true → z_bt (J m) (c % 4) = true → z_pc H (J n) (c / 4) (c % 4)) (K := fun y v => v = u ∧ ((y = .inr () ∧ z_pt H (J m) (J n)) ∨ (y = .inl 0 ∧ ¬ z_pt H (J m) (J n)))) (by omega) (by omega) ⟨rfl, fun c hc => by omega⟩ (fun c v _ hc hp => ?_) (fun v hp => ?_)) (fun y v hv => ?_)
  · obtain ⟨rfl, hp⟩ := hp
    have hc4 : c / 4 < 4 := by omega
    have hm4 : c % 4 < 4 := by omega
    unfold f_Judging_tellApart_B2
    rw [(z_d4 hc).1, (z_d4 hc).2]
    have skip : ¬ (c / 4 < c % 4 ∧ z_bt (J m) (c / 4) = true ∧ z_bt (J m) (c % 4) = true) → ∀ c', c' < c + 1 → c' / 4 < c' % 4 → z_bt (J m) (c' / 4) = true → z_bt (J m) (c' % 4) = true → z_pc H (J n) (c' / 4) (c' % 4) := by
      intro q c' h1 h2 h3 h4
      by_cases e : c' = c
      · subst e; exact absurd ⟨h2, h3, h4⟩ q
      · exact hp c' (by omega) h2 h3 h4
    have j45 : ¬ (c / 4 < c % 4 ∧ z_bt (J m) (c / 4) = true ∧ z_bt (J m) (c % 4) = true) → k_sat (f_Judging_tellApart_J45 (J n) (J m) (J c) (J (c / 4)) (J (c % 4)) v) (fun z u' => (z = .inl (J c + Int32.ofInt 1) ∧ u' = v ∧ ∀ c', c' < c + 1 → c' / 4 < c' % 4 → z_bt (J m) (c' / 4) = true → z_bt (J m) (c' % 4) = true → z_pc H (J n) (c' / 4) (c' % 4)) ∨ ∃ y, z = .inr y ∧ u' = v ∧ ((y = .inr () ∧ z_pt H (J m) (J n)) ∨ (y = .inl 0 ∧ ¬ z_pt H (J m) (J n)))) := by
      intro q
      unfold f_Judging_tellApart_J45 f_Judging_tellApart_J46
      exact z_ite (fun _ => k_sat_mk (Or.inl ⟨rfl, rfl, skip q⟩)) (fun _ => z_pos rfl (k_sat_mk (Or.inl ⟨rfl, rfl, skip q⟩)))
    refine z_neg (by (try simp (disch := omega) only [Int32.lt_iff_toInt_lt, Int32.le_iff_toInt_le, ← Int32.toInt_inj, Int32.toInt_add, Int32.toInt_sub, Int32.toInt_mul, Int32.toInt_neg, z_bm, z_bm2, J_ti, J_toInt, z_cn, Int32.reduceToInt]) <;> omega) (z_let (z_let (z_ite (fun b1 => z_ite (fun b2 => ?_) (fun b2 => j45 (fun q => b2 (of_decide_eq_true q.2.2)))) (fun b1 => j45 (fun q => b1 (of_decide_eq_true q.2.1))))))
    unfold f_Judging_tellApart_J46
    by_cases hlt : c / 4 < c % 4
    · refine z_neg (by (try simp (disch := omega) only [Int32.lt_iff_toInt_lt, Int32.le_iff_toInt_le, ← Int32.toInt_inj, Int32.toInt_add, Int32.toInt_sub, Int32.toInt_mul, Int32.toInt_neg, z_bm, z_bm2, J_ti, J_toInt, z_cn, Int32.reduceToInt]) <;> omega) (z_neg (by decide) (z_ck (by (try simp (disch := omega) only [Int32.lt_iff_toInt_lt, Int32.le_iff_toInt_le, ← Int32.toInt_inj, Int32.toInt_add, Int32.toInt_sub, Int32.toInt_mul, Int32.toInt_neg, z_bm, z_bm2, J_ti, J_toInt, z_cn, Int32.reduceToInt]) <;> omega) (by (try simp (disch := omega) only [Int32.lt_iff_toInt_lt, Int32.le_iff_toInt_le, ← Int32.toInt_inj, Int32.toInt_add, Int32.toInt_sub, Int32.toInt_mul, Int32.toInt_neg, z_bm, z_bm2, J_ti, J_toInt, z_cn, Int32.reduceToInt]) <;> omega) ?_))
      rw [J_toNat (show c < 2147483648 by omega), h26 c hc]
      have hpi := z_pc_iff (H := H) (a := c / 4) (b := c % 4) hn
      refine z_ite (fun q => k_sat_mk (Or.inr ⟨_, rfl, rfl, Or.inr ⟨rfl, fun hpt => ?_⟩⟩)) (fun q => k_sat_mk (Or.inl ⟨rfl, rfl, fun c' h1 h2 h3 h4 => ?_⟩))
      · exact hpi.mp (hpt _ _ hlt hm4 (decide_eq_true b1) (decide_eq_true b2)) q
      · by_cases e : c' = c
        · subst e; exact hpi.mpr q
        · exact hp c' (by omega) h2 h3 h4
    · exact z_pos (by (try simp (disch := omega) only [Int32.lt_iff_toInt_lt, Int32.le_iff_toInt_le, ← Int32.toInt_inj, Int32.toInt_add, Int32.toInt_sub, Int32.toInt_mul, Int32.toInt_neg, z_bm, z_bm2, J_ti, J_toInt, z_cn, Int32.reduceToInt]) <;> omega) (k_sat_mk (Or.inl ⟨rfl, rfl, skip (fun q => hlt q.1)⟩))
  · obtain ⟨rfl, hp⟩ := hp
    unfold f_Judging_tellApart_B2
    refine z_pos (by decide) (k_sat_mk ⟨_, rfl, rfl, Or.inl ⟨rfl, fun a b h1 h2 h3 h4 => ?_⟩⟩)
    have ea : (4 * a + b) / 4 = a := by omega
    have eb : (4 * a + b) % 4 = b := by omega
    have := hp (4 * a + b) (by omega)
    rw [ea, eb] at this
    exact this h1 h3 h4
  · obtain ⟨rfl, ⟨rfl, hy⟩ | ⟨rfl, hy⟩⟩ := hv
    · exact k_sat_mk ⟨rfl, Or.inl ⟨rfl, hy⟩⟩
    · exact k_sat_mk ⟨rfl, Or.inr ⟨rfl, hy⟩⟩
/-- the reference's -/
theorem z_part (H : Nat → Nat → Int32) {u : k_S} {n m : Nat} (hm : m < 16) (h67 : ∀ j i, j < 4 → i < 10 → u.2.1 67 (11 * j + (i + 1)) = H j i) : k_sat (f_R_doesPart (J n) (J m) u) (fun r v => v = u ∧ ((r = 1 ∧ z_pt H (J m) (J n)) ∨ (r = 0 ∧ ¬ z_pt H (J m) (J n)))) := by
  unfold f_R_doesPart
  refine z_bind _ (z_for 0 4 (fun a v => v = u ∧ ∀ a' b, a' < a → a' < b → b < 4 → z_bt (J m) a' = true → z_bt (J m) b = true → z_pc H (J n) a' b) (K := fun y v => v = u ∧ ((y = .inr () ∧ z_pt H (J m) (J n)) ∨ (y = .inl 0 ∧ ¬ z_pt H (J m) (J n)))) (by omega) (by omega) ⟨rfl, fun a b hc => by omega⟩ (fun a v _ ha hp => ?_) (fun v hp => ?_)) (fun y v hv => ?_)
  · obtain ⟨rfl, hp⟩ := hp
    unfold f_R_doesPart_B2
    refine z_neg (by (try simp (disch := omega) only [Int32.lt_iff_toInt_lt, Int32.le_iff_toInt_le, ← Int32.toInt_inj, Int32.toInt_add, Int32.toInt_sub, Int32.toInt_mul, Int32.toInt_neg, z_bm, z_bm2, J_ti, J_toInt, z_cn, Int32.reduceToInt]) <;> omega) (z_let ?_)
    rw [z_Jp]
    refine z_bind (fun y v' => v' = v ∧ ((y = .inr () ∧ ∀ b, a < b → b < 4 → z_bt (J m) a = true → z_bt (J m) b = true → z_pc H (J n) a b) ∨ (y = .inl 0 ∧ ¬ z_pt H (J m) (J n)))) (z_for (a + 1) 4 (fun k v' => v' = v ∧ ∀ b, a < b → b < k → z_bt (J m) a = true → z_bt (J m) b = true → z_pc H (J n) a b) (by omega) (by omega) ⟨rfl, fun b h1 h2 => by omega⟩ (fun b v' hb0 hb hp2 => ?_) (fun v' hp2 => ?_)) (fun y v' hv' => ?_)
    · obtain ⟨rfl, hp2⟩ := hp2
      have skip : ¬ (z_bt (J m) a = true ∧ z_bt (J m) b = true) → ∀ b', a < b' → b' < b + 1 → z_bt (J m) a = true → z_bt (J m) b' = true → z_pc H (J n) a b' := by
        intro q b' h1 h2 h3 h4
        by_cases e : b' = b
        · subst e; exact absurd ⟨h3, h4⟩ q
        · exact hp2 b' h1 (by omega) h3 h4
      unfold f_R_doesPart_B12
      refine z_neg (by (try simp (disch := omega) only [Int32.lt_iff_toInt_lt, Int32.le_iff_toInt_le, ← Int32.toInt_inj, Int32.toInt_add, Int32.toInt_sub, Int32.toInt_mul, Int32.toInt_neg, z_bm, z_bm2, J_ti, J_toInt, z_cn, Int32.reduceToInt]) <;> omega) (z_ite (fun b1 => k_sat_mk (Or.inl ⟨rfl, rfl, skip (fun q => by rw [(z_bt_n hm ha).mpr b1] at q; cases q.1)⟩)) (fun b1 => z_ite (fun b2 => k_sat_mk (Or.inl ⟨rfl, rfl, skip (fun q => by rw [(z_bt_n hm hb).mpr b2] at q; cases q.2)⟩)) (fun b2 => ?_)))
      have c1 : z_bt (J m) a = true := by
        cases hq : z_bt (J m) a with
        | true => rfl
        | false => exact absurd ((z_bt_n hm ha).mp hq) b1
      have c2 : z_bt (J m) b = true := by
        cases hq : z_bt (J m) b with
        | true => rfl
        | false => exact absurd ((z_bt_n hm hb).mp hq) b2
      refine z_bind (fun y v2 => v2 = v' ∧ ((y = 1 ∧ z_pc H (J n) a b) ∨ (y = 0 ∧ ¬ z_pc H (J n) a b))) (z_for2 1 11 0 (fun k x v2 => v2 = v' ∧ ((x = 1 ∧ z_pc H (J n) a b) ∨ (x = 0 ∧ ∀ i, i + 1 < k → z_bt (J n) i = true → H a i = H b i))) (by omega) (by omega) ⟨rfl, Or.inr ⟨rfl, fun i hi => by omega⟩⟩ (fun k x v2 hk0 hk hp3 => ?_) (fun x v2 hp3 => ?_)) (fun y v2 hv2 => ?_)
      · obtain ⟨rfl, hp3⟩ := hp3
        obtain ⟨i, rfl⟩ : ∃ i, k = i + 1 := ⟨k - 1, by omega⟩
        unfold f_R_doesPart_B44
        dsimp only
        rw [z_Jm, z_elev, z_elev, J_toNat (show 11 * a + (i + 1) < 2147483648 by omega), J_toNat (show 11 * b + (i + 1) < 2147483648 by omega), h67 a i (by omega) (by omega), h67 b i hb (by omega)]
        have keep : (z_bt (J n) i = true → H a i = H b i) → (x = 1 ∧ z_pc H (J n) a b) ∨ (x = 0 ∧ ∀ i', i' + 1 < i + 1 + 1 → z_bt (J n) i' = true → H a i' = H b i') := by
          intro q
          rcases hp3 with hp3 | ⟨h1, h2⟩
          · exact Or.inl hp3
          · refine Or.inr ⟨h1, fun i' hi' hq => ?_⟩
            by_cases e : i' = i
            · subst e; exact q hq
            · exact h2 i' (by omega) hq
        refine z_neg (by (try simp (disch := omega) only [Int32.lt_iff_toInt_lt, Int32.le_iff_toInt_le, ← Int32.toInt_inj, Int32.toInt_add, Int32.toInt_sub, Int32.toInt_mul, Int32.toInt_neg, z_bm, z_bm2, J_ti, J_toInt, z_cn, Int32.reduceToInt]) <;> omega) (z_ite (fun q => z_ck (by (try simp (disch := omega) only [Int32.lt_iff_toInt_lt, Int32.le_iff_toInt_le, ← Int32.toInt_inj, Int32.toInt_add, Int32.toInt_sub, Int32.toInt_mul, Int32.toInt_neg, z_bm, z_bm2, J_ti, J_toInt, z_cn, Int32.reduceToInt]) <;> omega) (by (try simp (disch := omega) only [Int32.lt_iff_toInt_lt, Int32.le_iff_toInt_le, ← Int32.toInt_inj, Int32.toInt_add, Int32.toInt_sub, Int32.toInt_mul, Int32.toInt_neg, z_bm, z_bm2, J_ti, J_toInt, z_cn, Int32.reduceToInt]) <;> omega) (z_ck (by (try simp (disch := omega) only [Int32.lt_iff_toInt_lt, Int32.le_iff_toInt_le, ← Int32.toInt_inj, Int32.toInt_add, Int32.toInt_sub, Int32.toInt_mul, Int32.toInt_neg, z_bm, z_bm2, J_ti, J_toInt, z_cn, Int32.reduceToInt]) <;> omega) (by (try simp (disch := omega) only [Int32.lt_iff_toInt_lt, Int32.le_iff_toInt_le, ← Int32.toInt_inj, Int32.toInt_add, Int32.toInt_sub, Int32.toInt_mul, Int32.toInt_neg, z_bm, z_bm2, J_ti, J_toInt, z_cn, Int32.reduceToInt]) <;> omega) (z_ite (fun q2 => k_sat_mk (Or.inl ⟨_, rfl, rfl, keep (fun _ => q2)⟩)) (fun q2 => k_sat_mk (Or.inl ⟨_, rfl, rfl, Or.inl ⟨rfl, i, by omega, decide_eq_true q, q2⟩⟩))))) (fun q => k_sat_mk (Or.inl ⟨_, rfl, rfl, keep (fun q2 => absurd (of_decide_eq_true q2) q)⟩)))
      · obtain ⟨rfl, hp3⟩ := hp3
        unfold f_R_doesPart_B44
        refine z_pos (show (10 : Int32) < J 11 by decide) (k_sat_mk ⟨_, rfl, rfl, ?_⟩)
        rcases hp3 with hp3 | ⟨h1, h2⟩
        · exact Or.inl hp3
        · exact Or.inr ⟨h1, fun ⟨i, q1, q2, q3⟩ => q3 (h2 i (by omega) q2)⟩
      · obtain ⟨rfl, ⟨rfl, h1⟩ | ⟨rfl, h1⟩⟩ := hv2
        · refine z_neg (by decide) (k_sat_mk (Or.inl ⟨rfl, rfl, fun b' q1 q2 q3 q4 => ?_⟩))
          by_cases e : b' = b
          · subst e; exact h1
          · exact hp2 b' q1 (by omega) q3 q4
        · exact z_pos rfl (k_sat_mk (Or.inr ⟨_, rfl, rfl, Or.inr ⟨rfl, fun q => h1 (q a b (by omega) hb c1 c2)⟩⟩))
    · obtain ⟨rfl, hp2⟩ := hp2
      unfold f_R_doesPart_B12
      exact z_pos (Int32.le_refl _) (k_sat_mk ⟨_, rfl, rfl, Or.inl ⟨rfl, hp2⟩⟩)
    · obtain ⟨rfl, ⟨rfl, h1⟩ | ⟨rfl, h1⟩⟩ := hv'
      · refine k_sat_mk (Or.inl ⟨rfl, rfl, fun a' b q1 q2 q3 q4 q5 => ?_⟩)
        by_cases e : a' = a
        · subst e; exact h1 b q2 q3 q4 q5
        · exact hp a' b (by omega) q2 q3 q4 q5
      · exact k_sat_mk (Or.inr ⟨_, rfl, rfl, Or.inr ⟨rfl, h1⟩⟩)
  · obtain ⟨rfl, hp⟩ := hp
    unfold f_R_doesPart_B2
    exact z_pos (Int32.le_refl _) (k_sat_mk ⟨_, rfl, rfl, Or.inl ⟨rfl, fun a b h1 h2 => hp a b (by omega) h1 h2⟩⟩)
  · obtain ⟨rfl, ⟨rfl, hy⟩ | ⟨rfl, hy⟩⟩ := hv
    · exact k_sat_mk ⟨rfl, Or.inl ⟨rfl, hy⟩⟩
    · exact k_sat_mk ⟨rfl, Or.inr ⟨rfl, hy⟩⟩
/-! watch: the letters' places, the search -/
def z_hh (E : z_E) (u : k_S) (p j i : Nat) : Int32 := z_pl (z_Ex E p (k_t101 j)) u 0 (i + 1)
theorem z_hh_m {E : z_E} {u v : k_S} (h : z_moR v = z_moR u) {p : Nat} : z_hh E v p = z_hh E u p := by
  funext j i
  unfold z_hh
  rw [z_pl_m h]
theorem z_fr_wA {F A : List Nat} {u v : k_S} {k n : Nat} {x : Int32} (h : z_fr F A u v) (hk : A.elem k = false) : z_fr F A (k_wA u k n x) (k_wA v k n x) := by
  refine ⟨h.1, fun c hc => ?_, h.2.2⟩
  simp only [k_wA]
  by_cases e : c = k
  · rw [if_pos e, if_pos e, h.2.1 k hk]
  · rw [if_neg e, if_neg e]; exact h.2.1 c hc
theorem z_Wt_wA {E : z_E} {K i n : Nat} {x : Int32} {u v : k_S} (h : z_Wt E K u i v) : z_Wt E K (k_wA u 25 n x) i (k_wA v 25 n x) := ⟨z_fr_wA h.1 rfl, h.2.1, h.2.2⟩
theorem z_Rt_wA {E : z_E} {i n : Nat} {x : Int32} {u v : k_S} (h : z_Rt E u i v) : z_Rt E (k_wA u 67 n x) i (k_wA v 67 n x) := ⟨z_fr_wA h.1 rfl, h.2.1, h.2.2.1, h.2.2.2⟩
theorem z_letW {E : z_E} {u : k_S} {p : Nat} (hE : z_eW E u) (h0 : 0 < E.1) (hp : p < 40) : k_sat (f_Judging_watchLetters (J p) u) (fun _ v => z_fr [1702, 1206, 704] [25, 18, 19, 9, 13] u v ∧ ∀ j i, j < 4 → i < 10 → v.2.1 25 (10 * j + i) = z_hh E u p j i) := by
  unfold f_Judging_watchLetters
  rw [z_letA0 hp, z_bind_some]
  refine z_bind _ (z_for 0 4 (fun j v => z_fr [1702, 1206, 704] [4, 25, 18, 19, 9, 13] u v ∧ (∃ l, v.2.1 4 = upd (u.2.1 4) p l) ∧ ∀ j' i, j' < j → i < 10 → v.2.1 25 (10 * j' + i) = z_hh E u p j' i) (K := fun _ v => z_fr [1702, 1206, 704] [4, 25, 18, 19, 9, 13] u v ∧ (∃ l, v.2.1 4 = upd (u.2.1 4) p l) ∧ ∀ j' i, j' < 4 → i < 10 → v.2.1 25 (10 * j' + i) = z_hh E u p j' i) (by omega) (by omega) ⟨z_fr.rf, ⟨u.2.1 4 p, by rw [z_up_self]⟩, fun j' i h => by omega⟩ (fun j w _ hj hw => ?_) (fun v hv => ?_)) (fun _ v hv => ?_)
  · obtain ⟨k2, ⟨l, k3⟩, k1⟩ := hw
    unfold f_Judging_watchLetters_B12
    refine z_neg (by (try simp (disch := omega) only [Int32.lt_iff_toInt_lt, Int32.le_iff_toInt_le, ← Int32.toInt_inj, Int32.toInt_add, Int32.toInt_sub, Int32.toInt_mul, Int32.toInt_neg, z_bm, z_bm2, J_ti, J_toInt, z_cn, Int32.reduceToInt]) <;> omega) (z_ck (by (try simp (disch := omega) only [Int32.lt_iff_toInt_lt, Int32.le_iff_toInt_le, ← Int32.toInt_inj, Int32.toInt_add, Int32.toInt_sub, Int32.toInt_mul, Int32.toInt_neg, z_bm, z_bm2, J_ti, J_toInt, z_cn, Int32.reduceToInt]) <;> omega) (by (try simp (disch := omega) only [Int32.lt_iff_toInt_lt, Int32.le_iff_toInt_le, ← Int32.toInt_inj, Int32.toInt_add, Int32.toInt_sub, Int32.toInt_mul, Int32.toInt_neg, z_bm, z_bm2, J_ti, J_toInt, z_cn, Int32.reduceToInt]) <;> omega) ?_)
    rw [J_toNat (show j < 2147483648 by omega), z_setL0 hp, z_bind_some]
    have h4 : (k_wA w 4 p (k_t101 j)).2.1 4 = upd (u.2.1 4) p (k_t101 j) := by
      simp only [k_wA, if_true]
      exact z_upd2 k3
    have k4 : z_fr [1702, 1206, 704] [4, 25, 18, 19, 9, 13] u (k_wA w 4 p (k_t101 j)) := k2.tr (z_wA rfl)
    have k25 : ∀ j' i, j' < j → i < 10 → (k_wA w 4 p (k_t101 j)).2.1 25 (10 * j' + i) = z_hh E u p j' i := k1
    generalize hw1 : k_wA w 4 p (k_t101 j) = w1 at *
    have mN : z_moNow w1 = z_moNow u := by unfold z_moNow; rw [k4.1 1402 rfl, k4.2.1 15 rfl, k4.2.1 16 rfl]
    have mR : z_moR w1 = z_moR u := by unfold z_moR; rw [k4.1 4209 rfl, k4.2.1 46 rfl, k4.2.1 47 rfl]
    have hE' : z_eW (z_Ex E p (k_t101 j)) w1 := ⟨z_EW_x hE.1 (k4.1 303 rfl) (k4.1 703 rfl) (k4.1 705 rfl) h4 (k4.2.1 5 rfl) (k4.2.1 6 rfl) (k4.2.1 8 rfl), by rw [mN]; exact z_ok_x hE.2.1, by rw [mN, mR]; exact hE.2.2⟩
    refine z_bind _ (z_Wt_w hE') (fun _ w2 h2 => z_bind _ (z_for 0 10 (fun i v => ∃ b, z_Wt (z_Ex E p (k_t101 j)) 1 b i v ∧ z_fr [] [25] w1 b ∧ (∀ j' i', j' < j → i' < 10 → b.2.1 25 (10 * j' + i') = z_hh E u p j' i') ∧ ∀ i', i' < i → b.2.1 25 (10 * j + i') = z_hh E u p j i') (K := fun _ v => ∃ b, z_Wt (z_Ex E p (k_t101 j)) 1 b 10 v ∧ z_fr [] [25] w1 b ∧ (∀ j' i', j' < j → i' < 10 → b.2.1 25 (10 * j' + i') = z_hh E u p j' i') ∧ ∀ i', i' < 10 → b.2.1 25 (10 * j + i') = z_hh E u p j i') (by omega) (by omega) ⟨w1, h2.le (show 1 ≤ E.1 by omega), z_fr.rf, k25, fun i' h => by omega⟩ (fun i v _ hi hv => ?_) (fun v hv => ?_)) (fun _ v hv => ?_))
    · obtain ⟨b, g1, g2, g3, g4⟩ := hv
      have mb : z_moR b = z_moR u := by rw [← mR]; unfold z_moR; rw [g2.1 4209 rfl, g2.2.1 46 rfl, g2.2.1 47 rfl]
      unfold f_Judging_watchLetters_B44
      refine z_neg (by (try simp (disch := omega) only [Int32.lt_iff_toInt_lt, Int32.le_iff_toInt_le, ← Int32.toInt_inj, Int32.toInt_add, Int32.toInt_sub, Int32.toInt_mul, Int32.toInt_neg, z_bm, z_bm2, J_ti, J_toInt, z_cn, Int32.reduceToInt]) <;> omega) (z_bind _ (z_Wt_s (K := 1) (z_EW_f g2 (by decide) hE'.1) (by omega) g1) (fun _ v1 hv1 => z_let ?_))
      rw [z_ten, show f_Thought_placeOf 0 v1 = some (z_pl (z_Ex E p (k_t101 j)) b 0 (i + 1), v1) from z_Wt_p hv1 (w := 0) (by omega) (by omega), z_bind_some, z_pl_m mb]
      refine z_neg (by (try simp (disch := omega) only [Int32.lt_iff_toInt_lt, Int32.le_iff_toInt_le, ← Int32.toInt_inj, Int32.toInt_add, Int32.toInt_sub, Int32.toInt_mul, Int32.toInt_neg, z_bm, z_bm2, J_ti, J_toInt, z_cn, Int32.reduceToInt]) <;> omega) (z_ck (by (try simp (disch := omega) only [Int32.lt_iff_toInt_lt, Int32.le_iff_toInt_le, ← Int32.toInt_inj, Int32.toInt_add, Int32.toInt_sub, Int32.toInt_mul, Int32.toInt_neg, z_bm, z_bm2, J_ti, J_toInt, z_cn, Int32.reduceToInt]) <;> omega) (by (try simp (disch := omega) only [Int32.lt_iff_toInt_lt, Int32.le_iff_toInt_le, ← Int32.toInt_inj, Int32.toInt_add, Int32.toInt_sub, Int32.toInt_mul, Int32.toInt_neg, z_bm, z_bm2, J_ti, J_toInt, z_cn, Int32.reduceToInt]) <;> omega) (z_let (k_sat_mk (Or.inl ⟨rfl, _, z_Wt_wA hv1, g2.tr (z_wA rfl), fun j' i' hj' hi' => ?_, fun i' hi' => ?_⟩))))
      · simp only [k_wA, if_true, z_up, J_toNat (show 10 * j + i < 2147483648 by omega)]
        rw [if_neg (by omega)]
        exact g3 j' i' hj' hi'
      · simp only [k_wA, if_true, z_up, J_toNat (show 10 * j + i < 2147483648 by omega)]
        by_cases e : i' = i
        · rw [if_pos (by rw [e]), e]; rfl
        · rw [if_neg (by omega)]; exact g4 i' (by omega)
    · unfold f_Judging_watchLetters_B44
      exact z_pos (Int32.le_refl _) (k_sat_mk ⟨_, rfl, hv⟩)
    · obtain ⟨b, g1, g2, g3, g4⟩ := hv
      have k5 : z_fr [1702, 1206, 704] [4, 25, 18, 19, 9, 13] u v := (k4.tr (g2.mono rfl rfl)).tr (g1.1.mono rfl rfl)
      have e25 : v.2.1 25 = b.2.1 25 := g1.1.2.1 25 rfl
      refine k_sat_mk (Or.inl ⟨rfl, k5, ⟨k_t101 j, ?_⟩, fun j' i hj' hi => ?_⟩)
      · rw [g1.1.2.1 4 rfl, g2.2.1 4 rfl, h4]
      · rw [e25]
        by_cases e : j' = j
        · rw [e]; exact g4 i hi
        · exact g3 j' i (by omega) hi
  · unfold f_Judging_watchLetters_B12
    exact z_pos (Int32.le_refl _) (k_sat_mk ⟨_, rfl, hv⟩)
  · obtain ⟨k2, ⟨l, k3⟩, k1⟩ := hv
    rw [z_setL0 hp, z_bind_some]
    refine k_sat_mk ⟨z_fr_less (c := 4) (k2.tr (z_wA rfl)) ?_ rfl, k1⟩
    simp only [k_wA, if_true]
    rw [z_upd2 k3, z_up_self]
theorem z_ER_x2 {E : z_E} {u v : k_S} {p s : Nat} {x : Int32} (h : z_ER E u) (es : E.2.2.1 0 = J s) (hs : s ≤ 40) (hp : p < s) (hf : z_fr [4230] [44, 67, 54, 55, 60, 61, 62] u v) (h44 : v.2.1 44 = upd (u.2.1 44) p x) : z_ER (z_Ex E p x) v := by
  refine ⟨h.1, (hf.1 4203 rfl).trans h.2.1, fun w hw => ?_, fun w w1 w2 w3 w4 w5 w6 w7 => h.2.2.2 w (w1.trans (hf.1 4223 rfl)) (w2.trans (hf.1 4211 rfl)) (w3.trans (hf.2.1 49 rfl)) (w4.trans (hf.2.1 50 rfl)) (w5.trans (hf.2.1 51 rfl)) (w6.trans (hf.2.1 52 rfl)) (w7.trans (hf.2.1 53 rfl))⟩
  obtain ⟨b1, b2, b3⟩ := h.2.2.1 w hw
  refine ⟨by rw [hf.2.1 45 rfl]; exact b1, by rw [hf.2.1 48 rfl]; exact b2, fun q s' e1 e2 e3 => ?_⟩
  rw [h44]
  show upd _ _ _ _ = upd _ _ _ _
  rw [z_up, z_up, b3 q s' e1 e2 e3]
theorem z_letR {E : z_E} {u : k_S} {p s : Nat} {m t7 : Int32} (hE : z_ER E u) (hok : z_ok E (z_moR u)) (es : E.2.2.1 0 = J s) (hs : s ≤ 40) (hp : p < s) (hK : zK u) : k_sat (k_itr (fun (x : (Int32)) u => f_R_watch_B51 (J p) m t7 x u) k_FU 0 u) (fun _ v => z_fr [4230] [44, 67, 54, 55, 60, 61, 62] u v ∧ (∃ l, v.2.1 44 = upd (u.2.1 44) p l) ∧ ∀ j i, j < 4 → i < 10 → v.2.1 67 (11 * j + (i + 1)) = z_hh E u p j i) := by
  refine z_for 0 4 (fun j v => z_fr [4230] [44, 67, 54, 55, 60, 61, 62] u v ∧ (∃ l, v.2.1 44 = upd (u.2.1 44) p l) ∧ ∀ j' i, j' < j → i < 10 → v.2.1 67 (11 * j' + (i + 1)) = z_hh E u p j' i) (K := fun _ v => z_fr [4230] [44, 67, 54, 55, 60, 61, 62] u v ∧ (∃ l, v.2.1 44 = upd (u.2.1 44) p l) ∧ ∀ j' i, j' < 4 → i < 10 → v.2.1 67 (11 * j' + (i + 1)) = z_hh E u p j' i) (by omega) (by omega) ⟨z_fr.rf, ⟨u.2.1 44 p, by rw [z_up_self]⟩, fun j' i h => by omega⟩ (fun j w _ hj hw => ?_) (fun v hv => ?_)
  · obtain ⟨k2, ⟨l, k3⟩, k1⟩ := hw
    unfold f_R_watch_B51
    have e66 : w.2.1 66 j = k_t101 j := (congrFun (k2.2.1 66 rfl) j).trans (k_t101_K hK hj)
    rw [J_toNat (show j < 2147483648 by omega), J_toNat (show p < 2147483648 by omega), e66]
    refine z_neg (by (try simp (disch := omega) only [Int32.lt_iff_toInt_lt, Int32.le_iff_toInt_le, ← Int32.toInt_inj, Int32.toInt_add, Int32.toInt_sub, Int32.toInt_mul, Int32.toInt_neg, z_bm, z_bm2, J_ti, J_toInt, z_cn, Int32.reduceToInt]) <;> omega) (z_ck (by (try simp (disch := omega) only [Int32.lt_iff_toInt_lt, Int32.le_iff_toInt_le, ← Int32.toInt_inj, Int32.toInt_add, Int32.toInt_sub, Int32.toInt_mul, Int32.toInt_neg, z_bm, z_bm2, J_ti, J_toInt, z_cn, Int32.reduceToInt]) <;> omega) (by (try simp (disch := omega) only [Int32.lt_iff_toInt_lt, Int32.le_iff_toInt_le, ← Int32.toInt_inj, Int32.toInt_add, Int32.toInt_sub, Int32.toInt_mul, Int32.toInt_neg, z_bm, z_bm2, J_ti, J_toInt, z_cn, Int32.reduceToInt]) <;> omega) (z_ck (by (try simp (disch := omega) only [Int32.lt_iff_toInt_lt, Int32.le_iff_toInt_le, ← Int32.toInt_inj, Int32.toInt_add, Int32.toInt_sub, Int32.toInt_mul, Int32.toInt_neg, z_bm, z_bm2, J_ti, J_toInt, z_cn, Int32.reduceToInt]) <;> omega) (by (try simp (disch := omega) only [Int32.lt_iff_toInt_lt, Int32.le_iff_toInt_le, ← Int32.toInt_inj, Int32.toInt_add, Int32.toInt_sub, Int32.toInt_mul, Int32.toInt_neg, z_bm, z_bm2, J_ti, J_toInt, z_cn, Int32.reduceToInt]) <;> omega) (z_let ?_)))
    have h44 : (k_wA w 44 p (k_t101 j)).2.1 44 = upd (u.2.1 44) p (k_t101 j) := by
      simp only [k_wA, if_true]
      exact z_upd2 k3
    have k4 : z_fr [4230] [44, 67, 54, 55, 60, 61, 62] u (k_wA w 44 p (k_t101 j)) := k2.tr (z_wA rfl)
    have k67 : ∀ j' i, j' < j → i < 10 → (k_wA w 44 p (k_t101 j)).2.1 67 (11 * j' + (i + 1)) = z_hh E u p j' i := k1
    generalize hw1 : k_wA w 44 p (k_t101 j) = w1 at *
    have mR : z_moR w1 = z_moR u := by unfold z_moR; rw [k4.1 4209 rfl, k4.2.1 46 rfl, k4.2.1 47 rfl]
    have hE' : z_ER (z_Ex E p (k_t101 j)) w1 := z_ER_x2 hE es hs hp k4 h44
    have hok' : z_ok (z_Ex E p (k_t101 j)) (z_moR w1) := by rw [mR]; exact z_ok_x hok
    refine z_bind _ (z_Rt_0 (z_Ex E p (k_t101 j)) w1) (fun _ w2 h2 => z_bind _ (z_for 1 11 (fun k v => ∃ b, z_Rt (z_Ex E p (k_t101 j)) b (k - 1) v ∧ z_fr [] [67] w1 b ∧ (∀ j' i', j' < j → i' < 10 → b.2.1 67 (11 * j' + (i' + 1)) = z_hh E u p j' i') ∧ ∀ i', i' + 1 < k → b.2.1 67 (11 * j + (i' + 1)) = z_hh E u p j i') (K := fun _ v => ∃ b i, z_Rt (z_Ex E p (k_t101 j)) b i v ∧ z_fr [] [67] w1 b ∧ (∀ j' i', j' < j → i' < 10 → b.2.1 67 (11 * j' + (i' + 1)) = z_hh E u p j' i') ∧ ∀ i', i' < 10 → b.2.1 67 (11 * j + (i' + 1)) = z_hh E u p j i') (by omega) (by omega) ⟨w1, h2, z_fr.rf, k67, fun i' h => by omega⟩ (fun k v hk0 hk hv => ?_) (fun v hv => ?_)) (fun _ v hv => ?_))
    · obtain ⟨b, g1, g2, g3, g4⟩ := hv
      obtain ⟨i, rfl⟩ : ∃ i, k = i + 1 := ⟨k - 1, by omega⟩
      have mb' : z_moR b = z_moR w1 := by unfold z_moR; rw [g2.1 4209 rfl, g2.2.1 46 rfl, g2.2.1 47 rfl]
      unfold f_R_watch_B77
      refine z_neg (by (try simp (disch := omega) only [Int32.lt_iff_toInt_lt, Int32.le_iff_toInt_le, ← Int32.toInt_inj, Int32.toInt_add, Int32.toInt_sub, Int32.toInt_mul, Int32.toInt_neg, z_bm, z_bm2, J_ti, J_toInt, z_cn, Int32.reduceToInt]) <;> omega) (z_bind _ (z_Rt_s (z_ER_f g2 (by decide) hE') (by rw [mb']; exact hok') g1) (fun _ v1 hv1 => ?_))
      rw [z_elev, J_toNat (show 11 * j + (i + 1) < 2147483648 by omega), show (0 : Int32).toNatClampNeg = 0 from rfl, (z_Rt_p hv1 0).1, z_pl_m (mb'.trans mR)]
      refine z_ck (by decide) (by decide) (z_ck (by (try simp (disch := omega) only [Int32.lt_iff_toInt_lt, Int32.le_iff_toInt_le, ← Int32.toInt_inj, Int32.toInt_add, Int32.toInt_sub, Int32.toInt_mul, Int32.toInt_neg, z_bm, z_bm2, J_ti, J_toInt, z_cn, Int32.reduceToInt]) <;> omega) (by (try simp (disch := omega) only [Int32.lt_iff_toInt_lt, Int32.le_iff_toInt_le, ← Int32.toInt_inj, Int32.toInt_add, Int32.toInt_sub, Int32.toInt_mul, Int32.toInt_neg, z_bm, z_bm2, J_ti, J_toInt, z_cn, Int32.reduceToInt]) <;> omega) (z_let (k_sat_mk (Or.inl ⟨rfl, _, z_Rt_wA hv1, g2.tr (z_wA rfl), fun j' i' hj' hi' => ?_, fun i' hi' => ?_⟩))))
      · simp only [k_wA, if_true, z_up]
        rw [if_neg (by omega)]
        exact g3 j' i' hj' hi'
      · simp only [k_wA, if_true, z_up]
        by_cases e : i' = i
        · rw [if_pos (by rw [e]), e]; rfl
        · rw [if_neg (by omega)]; exact g4 i' (by omega)
    · obtain ⟨b, g1, g2, g3, g4⟩ := hv
      unfold f_R_watch_B77
      exact z_pos (by decide) (k_sat_mk ⟨_, rfl, b, _, g1, g2, g3, fun i' h => g4 i' (by omega)⟩)
    · obtain ⟨b, i0, g1, g2, g3, g4⟩ := hv
      refine z_bind _ (z_Rt_b (E := z_Ex E p (k_t101 j)) hE.1 g1) (fun _ v' hv' => ?_)
      have k5 : z_fr [4230] [44, 67, 54, 55, 60, 61, 62] u v' := (k4.tr (g2.mono rfl rfl)).tr (hv'.mono rfl rfl)
      have e67 : v'.2.1 67 = b.2.1 67 := hv'.2.1 67 rfl
      refine k_sat_mk (Or.inl ⟨rfl, k5, ⟨k_t101 j, ?_⟩, fun j' i hj' hi => ?_⟩)
      · rw [hv'.2.1 44 rfl, g2.2.1 44 rfl, h44]
      · rw [e67]
        by_cases e : j' = j
        · rw [e]; exact g4 i hi
        · exact g3 j' i (by omega) hi
  · unfold f_R_watch_B51
    exact z_pos (Int32.le_refl _) (k_sat_mk ⟨_, rfl, hv⟩)
/-! watch: the fewest nights -/
def z_be (T : Nat → Bool) : Nat → Option Nat
  | 0 => none
  | n + 1 => match z_be T n with
    | none => if T n = true then some n else none
    | some m => if z_bc (J m) ≤ z_bc (J n) then some m else if T n = true then some n else some m
def z_bv (o : Option Nat) : Int32 := match o with
  | none => -2
  | some m => J m
def z_bw (o : Option Nat) : Int32 := match o with
  | none => 11
  | some m => z_bc (J m)
theorem z_be_lt (T : Nat → Bool) : ∀ n m, z_be T n = some m → m < n
  | 0, m, h => by cases h
  | n + 1, m, h => by
    rw [z_be] at h
    cases hq : z_be T n with
    | none =>
      rw [hq] at h
      dsimp only at h
      split at h
      · cases h; omega
      · cases h
    | some k =>
      have := z_be_lt T n k hq
      rw [hq] at h
      dsimp only at h
      split at h
      · cases h; omega
      · split at h
        · cases h; omega
        · cases h; omega
theorem z_bc_J {n : Nat} (h : n < 1024) : ∃ c, c ≤ 10 ∧ z_bc (J n) = J c := by
  have := List.all_eq_true.mp z_bits_all n (List.mem_range.mpr h)
  simp only [Bool.and_eq_true] at this
  exact ⟨_, of_decide_eq_true this.1.2, eq_of_beq this.2⟩
noncomputable def z_T (H : Nat → Nat → Int32) (m : Int32) (n : Nat) : Bool := @decide (z_pt H m (J n)) (Classical.propDecidable _)
theorem z_T1 {H : Nat → Nat → Int32} {m : Int32} {n : Nat} (h : z_pt H m (J n)) : z_T H m n = true := @decide_eq_true _ (Classical.propDecidable _) h
theorem z_T0 {H : Nat → Nat → Int32} {m : Int32} {n : Nat} (h : ¬ z_pt H m (J n)) : ¬ z_T H m n = true := fun q => h (@of_decide_eq_true _ (Classical.propDecidable _) q)
/-- no night tells nothing apart -/
theorem z_T00 {H : Nat → Nat → Int32} {m : Nat} (hm : m < 16) (h2 : 2 ≤ z_bc (J m)) : ¬ z_T H (J m) 0 = true := by
  refine z_T0 (fun hp => ?_)
  have := List.all_eq_true.mp z_bt_2 m (List.mem_range.mpr hm)
  rw [Bool.or_eq_true] at this
  rcases this with q | q
  · have := of_decide_eq_true q
    ((try simp (disch := omega) only [Int32.lt_iff_toInt_lt, Int32.le_iff_toInt_le, ← Int32.toInt_inj, Int32.toInt_add, Int32.toInt_sub, Int32.toInt_mul, Int32.toInt_neg, z_bm, z_bm2, J_ti, J_toInt, z_cn, Int32.reduceToInt] at *); omega)
  · obtain ⟨a, ha, q⟩ := List.any_eq_true.mp q
    obtain ⟨b, hb, q⟩ := List.any_eq_true.mp q
    simp only [Bool.and_eq_true] at q
    obtain ⟨i, hi, h3, -⟩ := hp a b (of_decide_eq_true q.1.1) (List.mem_range.mp hb) q.1.2 q.2
    have h0 := eq_of_beq (List.all_eq_true.mp z_bt_0 i (List.mem_range.mpr hi))
    rw [J_0, h0] at h3
    cases h3
theorem z_seaW (H : Nat → Nat → Int32) {u : k_S} {m : Nat} (h00 : ¬ z_T H (J m) 0 = true) (h26 : ∀ c, c < 16 → u.2.1 26 c = z_bits (z_dif H (c / 4) (c % 4)) 10) : k_sat (k_itr (fun (x : (Int32 × Int32 × Int32)) u => f_Judging_fewestNights_B29 (J m) x.1 x.2.1 x.2.2 u) k_FU (-2, 11, 1) u) (fun y v => v = u ∧ y = z_bv (z_be (z_T H (J m)) 1024)) := by
  refine z_for3 1 1024 (-2) 11 (fun n x y v => v = u ∧ x = z_bv (z_be (z_T H (J m)) n) ∧ y = z_bw (z_be (z_T H (J m)) n)) (by omega) (by omega) ⟨rfl, ?_, ?_⟩ (fun n x y v hn0 hn hp => ?_) (fun x y v hp => ?_)
  · rw [z_be, z_be]
    dsimp only
    rw [if_neg h00]
    rfl
  · rw [z_be, z_be]
    dsimp only
    rw [if_neg h00]
    rfl
  · obtain ⟨rfl, rfl, rfl⟩ := hp
    obtain ⟨c, hc, ec⟩ := z_bc_J hn
    unfold f_Judging_fewestNights_B29
    dsimp only
    rw [z_bcW, z_bind_some]
    have hst : z_be (z_T H (J m)) (n + 1) = match z_be (z_T H (J m)) n with
      | none => if z_T H (J m) n = true then some n else none
      | some k => if z_bc (J k) ≤ z_bc (J n) then some k else if z_T H (J m) n = true then some n else some k := rfl
    refine z_neg (by (try simp (disch := omega) only [Int32.lt_iff_toInt_lt, Int32.le_iff_toInt_le, ← Int32.toInt_inj, Int32.toInt_add, Int32.toInt_sub, Int32.toInt_mul, Int32.toInt_neg, z_bm, z_bm2, J_ti, J_toInt, z_cn, Int32.reduceToInt]) <;> omega) ?_
    cases hb : z_be (z_T H (J m)) n with
    | none =>
      rw [hb] at hst
      dsimp only at hst
      refine z_neg (by rw [ec]; show ¬ (11 : Int32) ≤ J c; (try simp (disch := omega) only [Int32.lt_iff_toInt_lt, Int32.le_iff_toInt_le, ← Int32.toInt_inj, Int32.toInt_add, Int32.toInt_sub, Int32.toInt_mul, Int32.toInt_neg, z_bm, z_bm2, J_ti, J_toInt, z_cn, Int32.reduceToInt]) <;> omega) (z_bind _ (z_tell H hn h26) (fun r v' hv' => ?_))
      obtain ⟨rfl, ⟨rfl, ht⟩ | ⟨rfl, ht⟩⟩ := hv'
      · refine z_neg (by decide) (k_sat_mk (Or.inl ⟨_, _, rfl, rfl, ?_, ?_⟩))
        · rw [hst, if_pos (z_T1 ht)]; rfl
        · rw [hst, if_pos (z_T1 ht)]; rfl
      · refine z_pos rfl (k_sat_mk (Or.inl ⟨_, _, rfl, rfl, ?_, ?_⟩))
        · rw [hst, if_neg (z_T0 ht)]
        · rw [hst, if_neg (z_T0 ht)]
    | some k =>
      rw [hb] at hst
      dsimp only at hst
      refine z_ite (fun q => k_sat_mk (Or.inl ⟨_, _, rfl, rfl, ?_, ?_⟩)) (fun q => z_bind _ (z_tell H hn h26) (fun r v' hv' => ?_))
      · have q : z_bc (J k) ≤ z_bc (J n) := q
        rw [hst, if_pos q]
      · have q : z_bc (J k) ≤ z_bc (J n) := q
        rw [hst, if_pos q]
      · have q : ¬ z_bc (J k) ≤ z_bc (J n) := q
        obtain ⟨rfl, ⟨rfl, ht⟩ | ⟨rfl, ht⟩⟩ := hv'
        · refine z_neg (by decide) (k_sat_mk (Or.inl ⟨_, _, rfl, rfl, ?_, ?_⟩))
          · rw [hst, if_neg q, if_pos (z_T1 ht)]; rfl
          · rw [hst, if_neg q, if_pos (z_T1 ht)]; rfl
        · refine z_pos rfl (k_sat_mk (Or.inl ⟨_, _, rfl, rfl, ?_, ?_⟩))
          · rw [hst, if_neg q, if_neg (z_T0 ht)]
          · rw [hst, if_neg q, if_neg (z_T0 ht)]
  · obtain ⟨hv, hx, -⟩ := hp
    unfold f_Judging_fewestNights_B29
    exact z_pos (Int32.le_refl _) (k_sat_mk ⟨_, rfl, hv, hx⟩)
theorem z_seaR (H : Nat → Nat → Int32) {u : k_S} {m : Nat} (hm : m < 16) (h67 : ∀ j i, j < 4 → i < 10 → u.2.1 67 (11 * j + (i + 1)) = H j i) : k_sat (k_itr (fun (x : (Int32 × Int32)) u => f_R_watch_B137 (J m) x.1 x.2 u) k_FU (-2, 0) u) (fun y v => v = u ∧ y = z_bv (z_be (z_T H (J m)) 1024)) := by
  refine z_for2 0 1024 (-2) (fun n x v => v = u ∧ x = z_bv (z_be (z_T H (J m)) n)) (by omega) (by omega) ⟨rfl, rfl⟩ (fun n x v _ hn hp => ?_) (fun x v hp => ?_)
  · obtain ⟨rfl, rfl⟩ := hp
    unfold f_R_watch_B137
    dsimp only
    have hst : z_be (z_T H (J m)) (n + 1) = match z_be (z_T H (J m)) n with
      | none => if z_T H (J m) n = true then some n else none
      | some k => if z_bc (J k) ≤ z_bc (J n) then some k else if z_T H (J m) n = true then some n else some k := rfl
    refine z_neg (by (try simp (disch := omega) only [Int32.lt_iff_toInt_lt, Int32.le_iff_toInt_le, ← Int32.toInt_inj, Int32.toInt_add, Int32.toInt_sub, Int32.toInt_mul, Int32.toInt_neg, z_bm, z_bm2, J_ti, J_toInt, z_cn, Int32.reduceToInt]) <;> omega) ?_
    cases hb : z_be (z_T H (J m)) n with
    | none =>
      rw [hb] at hst
      dsimp only at hst
      refine z_pos (by decide) ?_
      unfold f_R_watch_J163
      refine z_bind _ (z_part H hm h67) (fun r v' hv' => ?_)
      obtain ⟨rfl, ⟨rfl, ht⟩ | ⟨rfl, ht⟩⟩ := hv'
      · refine z_neg (by decide) (k_sat_mk (Or.inl ⟨_, rfl, rfl, ?_⟩))
        rw [hst, if_pos (z_T1 ht)]; rfl
      · refine z_pos rfl (k_sat_mk (Or.inl ⟨_, rfl, rfl, ?_⟩))
        rw [hst, if_neg (z_T0 ht)]
    | some k =>
      rw [hb] at hst
      dsimp only at hst
      have hk := z_be_lt _ _ _ hb
      refine z_neg (by show ¬ J k < 0; (try simp (disch := omega) only [Int32.lt_iff_toInt_lt, Int32.le_iff_toInt_le, ← Int32.toInt_inj, Int32.toInt_add, Int32.toInt_sub, Int32.toInt_mul, Int32.toInt_neg, z_bm, z_bm2, J_ti, J_toInt, z_cn, Int32.reduceToInt]) <;> omega) ?_
      rw [z_bcR hn, z_bind_some, show f_R_bitsOf (z_bv (some k)) v = some (z_bc (J k), v) from z_bcR (by omega) v, z_bind_some]
      refine z_ite (fun q => k_sat_mk (Or.inl ⟨_, rfl, rfl, ?_⟩)) (fun q => ?_)
      · rw [hst, if_pos q]
      · unfold f_R_watch_J163
        refine z_bind _ (z_part H hm h67) (fun r v' hv' => ?_)
        obtain ⟨rfl, ⟨rfl, ht⟩ | ⟨rfl, ht⟩⟩ := hv'
        · refine z_neg (by decide) (k_sat_mk (Or.inl ⟨_, rfl, rfl, ?_⟩))
          rw [hst, if_neg q, if_pos (z_T1 ht)]; rfl
        · refine z_pos rfl (k_sat_mk (Or.inl ⟨_, rfl, rfl, ?_⟩))
          rw [hst, if_neg q, if_neg (z_T0 ht)]
  · obtain ⟨hv, hx⟩ := hp
    unfold f_R_watch_B137
    exact z_pos (Int32.le_refl _) (k_sat_mk ⟨_, rfl, hv, hx⟩)
theorem z_watch (a : Int32) (u : k_S) (h : zI u) : z_pair (f_W_watch a) (f_R_watch a) u zI := by
  obtain ⟨E, hE, -, eS, -⟩ := z_env h
  obtain ⟨⟨t, ht, t1, t2⟩, -⟩ := h.2.2.1
  obtain ⟨nr, A, B, f, hnr, r1, r2, r3, r4, hf, hsu, hso⟩ := z_recs h.2.2.2.2.2.1
  have hE4 := hE.1.1
  have e1 := hE.1.2.1
  have e2 := hE.2.1.2.1
  refine z_pair_of ?_
  unfold f_W_watch
  by_cases h0 : E.1 = 0
  · have hw := z_WhasP00 (a := 0) (b := a) e1 hE4 (Or.inr (by rw [h0]; decide))
    rw [hw, z_bind_some]
    refine z_pos rfl (k_sat_mk ?_)
    unfold f_R_watch
    exact z_pos (by rw [e2, h0]; rfl) (k_sat_mk ⟨rfl, h⟩)
  · obtain ⟨p0, s, -, hs2, hs, -, es⟩ := hE.2.2.1.2 0 (by omega)
    have e5 : u.2.1 5 0 = J s := by rw [hE.1.2.2.2.1]; exact es
    have e45 : u.2.1 45 0 = J s := ((hE.2.1.2.2.1 0 (by omega)).1).trans es
    rcases J_or a s with ⟨p, hp, rfl⟩ | ha
    · have hw := z_WhasP (w := 0) (p := p) e1 hE4 (by omega) e5 hs hp
      rw [show f_Wheels_hasPlace 0 (J p) u = some (1, u) from hw, z_bind_some]
      refine z_neg (by decide) (z_bind _ (z_fitW ⟨hE.1, hE.2.2.1, hE.2.2.2.2⟩ (by omega) ht t1 hnr r1 r3 hf hsu hso (by omega)) (fun r v hv => ?_))
      obtain ⟨i2, hE2, m2, q1, q2, q3⟩ := z_Wdone h hE hv.2
      obtain ⟨m, hm, em⟩ := z_bits_J (z_gd E u t nr A B p)
      rw [hv.1]
      have fin : ∀ (r : Int32) (w : k_S), zI w → z_en E w → z_moR w = z_moR u → z_fr [1702, 1206, 704] [26, 25, 18, 19, 9, 13] u w → (¬ 2 ≤ z_bc (J m) → r = 0) → (2 ≤ z_bc (J m) → r = z_bv (z_be (z_T (z_hh E u p) (J m)) 1024)) → k_sat (f_R_watch (J p) w) (fun r' v' => r = r' ∧ zI v') := by
        intro r w i3 hE3 m3 hfr hr0 hr2
        unfold f_R_watch
        refine z_neg (by rw [hfr.1 4203 rfl, e2]; (try simp (disch := omega) only [Int32.lt_iff_toInt_lt, Int32.le_iff_toInt_le, ← Int32.toInt_inj, Int32.toInt_add, Int32.toInt_sub, Int32.toInt_mul, Int32.toInt_neg, z_bm, z_bm2, J_ti, J_toInt, z_cn, Int32.reduceToInt]) <;> omega) (z_ck (by decide) (by decide) ?_)
        rw [show (0 : Int32).toNatClampNeg = 0 from rfl, hfr.2.1 45 rfl, e45, z_Jm' (by omega), z_Rin1 (by (try simp (disch := omega) only [Int32.lt_iff_toInt_lt, Int32.le_iff_toInt_le, ← Int32.toInt_inj, Int32.toInt_add, Int32.toInt_sub, Int32.toInt_mul, Int32.toInt_neg, z_bm, z_bm2, J_ti, J_toInt, z_cn, Int32.reduceToInt]) <;> omega) (by (try simp (disch := omega) only [Int32.lt_iff_toInt_lt, Int32.le_iff_toInt_le, ← Int32.toInt_inj, Int32.toInt_add, Int32.toInt_sub, Int32.toInt_mul, Int32.toInt_neg, z_bm, z_bm2, J_ti, J_toInt, z_cn, Int32.reduceToInt]) <;> omega), z_bind_some]
        refine z_neg (by decide) (z_bind _ (z_fitR hE3.2.1 hE3.2.2.2.1 (by omega) ht ((hfr.1 4209 rfl).trans t2) hnr ((hfr.1 4235 rfl).trans r2) (z_RC_f hfr rfl rfl r4) es hs hp i3.2.2.2.2.2.2.2.2.2.2) (fun r' v' hv' => ?_))
        rw [hv'.1, (z_bcb _ v').2, z_bind_some, z_gd_m m3, em]
        have i4 : zI v' := zI_0 i3 (hv'.2.mono rfl rfl)
        have hE4' : z_en E v' := z_en_f hv'.2 (by decide) (by decide) (by decide) hE3
        have m4 : z_moR v' = z_moR u := by rw [← m3]; unfold z_moR; rw [hv'.2.1 4209 rfl, hv'.2.2.1 46 rfl, hv'.2.2.1 47 rfl]
        refine z_ite (fun c2 => z_ck (by (try simp (disch := omega) only [Int32.lt_iff_toInt_lt, Int32.le_iff_toInt_le, ← Int32.toInt_inj, Int32.toInt_add, Int32.toInt_sub, Int32.toInt_mul, Int32.toInt_neg, z_bm, z_bm2, J_ti, J_toInt, z_cn, Int32.reduceToInt]) <;> omega) (by (try simp (disch := omega) only [Int32.lt_iff_toInt_lt, Int32.le_iff_toInt_le, ← Int32.toInt_inj, Int32.toInt_add, Int32.toInt_sub, Int32.toInt_mul, Int32.toInt_neg, z_bm, z_bm2, J_ti, J_toInt, z_cn, Int32.reduceToInt]) <;> omega) (z_let (z_bind _ (z_letR hE4'.2.1 hE4'.2.2.2.1 es hs hp i4.2.2.2.2.2.2.2.2.2.2) (fun _ v2 hv2 => ?_)))) (fun c2 => k_sat_mk ⟨hr0 c2, i4⟩)
        obtain ⟨k2, ⟨l, k3⟩, k1⟩ := hv2
        rw [J_toNat (show p < 2147483648 by omega)]
        refine z_ck (by (try simp (disch := omega) only [Int32.lt_iff_toInt_lt, Int32.le_iff_toInt_le, ← Int32.toInt_inj, Int32.toInt_add, Int32.toInt_sub, Int32.toInt_mul, Int32.toInt_neg, z_bm, z_bm2, J_ti, J_toInt, z_cn, Int32.reduceToInt]) <;> omega) (by (try simp (disch := omega) only [Int32.lt_iff_toInt_lt, Int32.le_iff_toInt_le, ← Int32.toInt_inj, Int32.toInt_add, Int32.toInt_sub, Int32.toInt_mul, Int32.toInt_neg, z_bm, z_bm2, J_ti, J_toInt, z_cn, Int32.reduceToInt]) <;> omega) (z_let ?_)
        have k5 : z_fr [4230] [67, 54, 55, 60, 61, 62] v' (k_wA v2 44 p (v'.2.1 44 p)) := by
          refine z_fr_less (c := 44) (k2.tr (z_wA rfl)) ?_ rfl
          simp only [k_wA, if_true]
          rw [z_upd2 k3, z_up_self]
        refine z_bind _ (z_seaR (z_hh E u p) hm (u := k_wA v2 44 p (v'.2.1 44 p)) ?_) (fun y v3 hv3 => ?_)
        · rw [← z_hh_m m4]
          exact k1
        · obtain ⟨q3, q4⟩ := hv3
          rw [q3, q4]
          exact k_sat_mk ⟨hr2 c2, zI_0 i4 (k5.mono rfl rfl)⟩
      refine z_bind (fun r w => zI w ∧ z_en E w ∧ z_moR w = z_moR u ∧ z_fr [1702, 1206, 704] [26, 25, 18, 19, 9, 13] u w ∧ (¬ 2 ≤ z_bc (J m) → r = 0) ∧ (2 ≤ z_bc (J m) → r = z_bv (z_be (z_T (z_hh E u p) (J m)) 1024))) ?_ (fun r w hw => k_sat_mk (fin r w hw.1 hw.2.1 hw.2.2.1 hw.2.2.2.1 hw.2.2.2.2.1 hw.2.2.2.2.2))
      unfold f_Judging_fewestNights
      rw [em, z_bcW, z_bind_some]
      refine z_ite (fun c2 => ?_) (fun c2 => k_sat_mk ⟨i2, hE2, m2, hv.2.mono rfl rfl, fun _ => rfl, fun q => absurd q c2⟩)
      refine z_bind _ (z_letW ⟨hE2.1, hE2.2.2.1, hE2.2.2.2.2⟩ (by omega) (show p < 40 by omega)) (fun _ v1 hv1 => z_bind _ (z_cmpL (z_hh E v p) hv1.2) (fun _ v2 hv2 => ?_))
      rw [z_hh_m m2] at hv2
      refine z_bind _ (z_seaW (z_hh E u p) (z_T00 hm c2) hv2.2) (fun y v3 hv3 => ?_)
      obtain ⟨q3, q4⟩ := hv3
      rw [q3, q4]
      have k5 : z_fr [1702, 1206, 704] [26, 25, 18, 19, 9, 13] u v2 := ((hv.2.mono rfl rfl).tr (hv1.1.mono rfl rfl)).tr (hv2.1.mono rfl rfl)
      exact k_sat_mk ⟨zI_0 h (k5.mono rfl rfl), z_en_f k5 (by decide) (by decide) (by decide) hE, by unfold z_moR; rw [k5.1 4209 rfl, k5.2.1 46 rfl, k5.2.1 47 rfl], k5, fun q => absurd c2 q, fun _ => rfl⟩
    · have hw := z_WhasP0 (w := 0) (b := a) e1 hE4 (by omega) e5 hs ha
      rw [show f_Wheels_hasPlace 0 a u = some (0, u) from hw, z_bind_some]
      refine z_pos rfl (k_sat_mk ?_)
      unfold f_R_watch
      refine z_neg (by rw [e2]; (try simp (disch := omega) only [Int32.lt_iff_toInt_lt, Int32.le_iff_toInt_le, ← Int32.toInt_inj, Int32.toInt_add, Int32.toInt_sub, Int32.toInt_mul, Int32.toInt_neg, z_bm, z_bm2, J_ti, J_toInt, z_cn, Int32.reduceToInt]) <;> omega) (z_ck (by decide) (by decide) ?_)
      rw [show (0 : Int32).toNatClampNeg = 0 from rfl, e45, z_Jm' (by omega), z_Rin0 (by ((try simp (disch := omega) only [Int32.lt_iff_toInt_lt, Int32.le_iff_toInt_le, ← Int32.toInt_inj, Int32.toInt_add, Int32.toInt_sub, Int32.toInt_mul, Int32.toInt_neg, z_bm, z_bm2, J_ti, J_toInt, z_cn, Int32.reduceToInt] at *); omega)), z_bind_some]
      exact z_pos rfl (k_sat_mk ⟨rfl, h⟩)
/-! wheel -/
def z_th (x : Int32) : Int32 := if x = 119 then 1 else if x = 115 then 1 else if x = 102 then 1 else if x = 98 then 1 else if x < 49 then 0 else if 57 < x then 0 else 1
theorem z_thW (x : Int32) (u : k_S) : f_W_isTooth x u = some (z_th x, u) := by
  unfold f_W_isTooth z_th
  by_cases h1 : x = 119
  · rw [if_pos h1, if_pos h1]
  rw [if_neg h1, if_neg h1]
  by_cases h2 : x = 115
  · rw [if_pos h2, if_pos h2]
  rw [if_neg h2, if_neg h2]
  by_cases h3 : x = 102
  · rw [if_pos h3, if_pos h3]
  rw [if_neg h3, if_neg h3]
  by_cases h4 : x = 98
  · rw [if_pos h4, if_pos h4]
  rw [if_neg h4, if_neg h4]
  by_cases h5 : x < 49
  · rw [if_pos h5, if_pos h5]
  rw [if_neg h5, if_neg h5]
  by_cases h6 : 57 < x
  · rw [if_pos h6, if_pos h6]
  · rw [if_neg h6, if_neg h6]
theorem z_thR (x : Int32) (u : k_S) : f_R_isTooth x u = some (z_th x, u) := by
  unfold f_R_isTooth z_th f_R_in
  by_cases h1 : x = 119
  · rw [if_pos h1, if_pos h1]
  rw [if_neg h1, if_neg h1]
  by_cases h2 : x = 115
  · rw [if_pos h2, if_pos h2]
  rw [if_neg h2, if_neg h2]
  by_cases h3 : x = 102
  · rw [if_pos h3, if_pos h3]
  rw [if_neg h3, if_neg h3]
  by_cases h4 : x = 98
  · rw [if_pos h4, if_pos h4]
  rw [if_neg h4, if_neg h4]
  by_cases h5 : x < 49
  · rw [if_pos h5, if_pos h5]; rfl
  rw [if_neg h5, if_neg h5]
  by_cases h6 : 57 < x
  · rw [if_pos h6, if_pos h6]; rfl
  · rw [if_neg h6, if_neg h6]; rfl
theorem z_th_all : ((List.range 256).all fun b => z_th (J b) == z_th (J b).toInt8.toInt32 && (z_th (J b) == 0 || (z_th (J b) == 1 && (J b).toInt8.toInt32 == J b))) = true := by decide +kernel
theorem z_th_b {b : Nat} (h : b ≤ 255) : z_th (J b) = z_th (J b).toInt8.toInt32 ∧ (z_th (J b) = 0 ∨ (z_th (J b) = 1 ∧ (J b).toInt8.toInt32 = J b)) := by
  have := List.all_eq_true.mp z_th_all b (List.mem_range.mpr (by omega))
  simp only [Bool.and_eq_true, Bool.or_eq_true, beq_iff_eq] at this
  exact this
/-- the tape: n bytes -/
def z_tp (u : k_S) (n : Nat) (b : Nat → Nat) : Prop := n ≤ 120 ∧ u.1 101 = J n ∧ u.1 4202 = J n ∧ ∀ i, i < n → b i ≤ 255 ∧ u.2.1 2 i = J (b i) ∧ u.2.1 43 i = (J (b i)).toInt8.toInt32
theorem z_tape {u : k_S} (h : zT u) : ∃ n b, z_tp u n b := by
  obtain ⟨n, hn, e1, e2, hb⟩ := h
  refine ⟨n, fun i => (u.2.1 2 i).toInt.toNat, hn, e1, e2, fun i hi => ?_⟩
  obtain ⟨b, b1, b2, b3⟩ := hb i hi
  have : (u.2.1 2 i).toInt.toNat = b := by rw [b2, J_toInt (by omega)]; rfl
  show (u.2.1 2 i).toInt.toNat ≤ 255 ∧ u.2.1 2 i = J (u.2.1 2 i).toInt.toNat ∧ u.2.1 43 i = (J (u.2.1 2 i).toInt.toNat).toInt8.toInt32
  rw [this]
  exact ⟨b1, b2, b3⟩
theorem z_tapeAt {n i : Nat} {x : Int32} {u : k_S} (h : u.1 101 = J n) (hn : n ≤ 120) (hi : i < n) (hx : u.2.1 2 i = x) : f_Tape_at (J i) u = some (x, u) := by
  unfold f_Tape_at
  rw [h, if_neg (by (try simp (disch := omega) only [Int32.lt_iff_toInt_lt, Int32.le_iff_toInt_le, ← Int32.toInt_inj, Int32.toInt_add, Int32.toInt_sub, Int32.toInt_mul, Int32.toInt_neg, z_bm, z_bm2, J_ti, J_toInt, z_cn, Int32.reduceToInt]) <;> omega), if_neg (by (try simp (disch := omega) only [Int32.lt_iff_toInt_lt, Int32.le_iff_toInt_le, ← Int32.toInt_inj, Int32.toInt_add, Int32.toInt_sub, Int32.toInt_mul, Int32.toInt_neg, z_bm, z_bm2, J_ti, J_toInt, z_cn, Int32.reduceToInt]) <;> omega), if_neg (by (try simp (disch := omega) only [Int32.lt_iff_toInt_lt, Int32.le_iff_toInt_le, ← Int32.toInt_inj, Int32.toInt_add, Int32.toInt_sub, Int32.toInt_mul, Int32.toInt_neg, z_bm, z_bm2, J_ti, J_toInt, z_cn, Int32.reduceToInt]) <;> omega), z_cko _ (by (try simp (disch := omega) only [Int32.lt_iff_toInt_lt, Int32.le_iff_toInt_le, ← Int32.toInt_inj, Int32.toInt_add, Int32.toInt_sub, Int32.toInt_mul, Int32.toInt_neg, z_bm, z_bm2, J_ti, J_toInt, z_cn, Int32.reduceToInt]) <;> omega) (by (try simp (disch := omega) only [Int32.lt_iff_toInt_lt, Int32.le_iff_toInt_le, ← Int32.toInt_inj, Int32.toInt_add, Int32.toInt_sub, Int32.toInt_mul, Int32.toInt_neg, z_bm, z_bm2, J_ti, J_toInt, z_cn, Int32.reduceToInt]) <;> omega), J_toNat (by omega), hx]
/-- where the teeth end -/
def z_stop (n : Nat) (b : Nat → Nat) (m : Nat) : Prop := m ≤ n ∧ m ≤ 40 ∧ (∀ i, i < m → z_th (J (b i)) = 1) ∧ (m = n ∨ m = 40 ∨ z_th (J (b m)) = 0)
theorem z_stop_u {n : Nat} {b : Nat → Nat} {m m' : Nat} (h : z_stop n b m) (h' : z_stop n b m') : m = m' := by
  obtain ⟨a1, a2, a3, a4⟩ := h
  obtain ⟨b1, b2, b3, b4⟩ := h'
  rcases Nat.lt_trichotomy m m' with q | q | q
  · rcases a4 with e | e | e
    · omega
    · omega
    · have := b3 m q; rw [e] at this; cases this
  · exact q
  · rcases b4 with e | e | e
    · omega
    · omega
    · have := a3 m' q; rw [e] at this; cases this
theorem z_faultOf {u : k_S} {n : Nat} {b : Nat → Nat} (h : z_tp u n b) : k_sat (f_Wheels_faultOf_Tape u) (fun r v => v = u ∧ ∃ m, z_stop n b m ∧ ((m = n ∧ 2 ≤ n ∧ r = -1) ∨ (¬ (m = n ∧ 2 ≤ n) ∧ r = J m))) := by
  obtain ⟨hn, e1, e2, hb⟩ := h
  unfold f_Wheels_faultOf_Tape
  refine z_bind _ (z_for 0 n (fun i v => v = u ∧ i ≤ 40 ∧ ∀ j, j < i → z_th (J (b j)) = 1) (K := fun y v => v = u ∧ ∃ m, z_stop n b m ∧ ((m = n ∧ y = .inr ()) ∨ (m < n ∧ y = .inl (J m)))) (by omega) (Nat.zero_le n) ⟨rfl, by omega, fun j hj => by omega⟩ (fun i v _ hi hp => ?_) (fun v hp => ?_)) (fun y v hv => ?_)
  · obtain ⟨rfl, h40, hp⟩ := hp
    unfold f_Wheels_faultOf_Tape_B2
    rw [e1]
    refine z_neg (by (try simp (disch := omega) only [Int32.lt_iff_toInt_lt, Int32.le_iff_toInt_le, ← Int32.toInt_inj, Int32.toInt_add, Int32.toInt_sub, Int32.toInt_mul, Int32.toInt_neg, z_bm, z_bm2, J_ti, J_toInt, z_cn, Int32.reduceToInt]) <;> omega) (z_ite (fun q => k_sat_mk (Or.inr ⟨_, rfl, rfl, i, ⟨by omega, by omega, hp, Or.inr (Or.inl (by ((try simp (disch := omega) only [Int32.lt_iff_toInt_lt, Int32.le_iff_toInt_le, ← Int32.toInt_inj, Int32.toInt_add, Int32.toInt_sub, Int32.toInt_mul, Int32.toInt_neg, z_bm, z_bm2, J_ti, J_toInt, z_cn, Int32.reduceToInt] at *); omega)))⟩, Or.inr ⟨hi, rfl⟩⟩)) (fun q => ?_))
    rw [z_tapeAt e1 hn hi (hb i hi).2.1, z_bind_some, z_thW, z_bind_some]
    refine z_ite (fun q2 => k_sat_mk (Or.inr ⟨_, rfl, rfl, i, ⟨by omega, by omega, hp, Or.inr (Or.inr q2)⟩, Or.inr ⟨hi, rfl⟩⟩)) (fun q2 => k_sat_mk (Or.inl ⟨rfl, rfl, by ((try simp (disch := omega) only [Int32.lt_iff_toInt_lt, Int32.le_iff_toInt_le, ← Int32.toInt_inj, Int32.toInt_add, Int32.toInt_sub, Int32.toInt_mul, Int32.toInt_neg, z_bm, z_bm2, J_ti, J_toInt, z_cn, Int32.reduceToInt] at *); omega), fun j hj => ?_⟩))
    by_cases e : j = i
    · subst e
      rcases (z_th_b (hb j hi).1).2 with q3 | q3
      · exact absurd q3 q2
      · exact q3.1
    · exact hp j (by omega)
  · obtain ⟨rfl, h40, hp⟩ := hp
    unfold f_Wheels_faultOf_Tape_B2
    rw [e1]
    exact z_pos (Int32.le_refl _) (k_sat_mk ⟨_, rfl, rfl, n, ⟨by omega, h40, hp, Or.inl rfl⟩, Or.inl ⟨rfl, rfl⟩⟩)
  · obtain ⟨rfl, m, hm, ⟨q, rfl⟩ | ⟨q, rfl⟩⟩ := hv
    · simp only [k_cs]
      rw [e1]
      refine z_ite (fun q2 => k_sat_mk ⟨rfl, m, hm, Or.inl ⟨q, by ((try simp (disch := omega) only [Int32.lt_iff_toInt_lt, Int32.le_iff_toInt_le, ← Int32.toInt_inj, Int32.toInt_add, Int32.toInt_sub, Int32.toInt_mul, Int32.toInt_neg, z_bm, z_bm2, J_ti, J_toInt, z_cn, Int32.reduceToInt] at *); omega), rfl⟩⟩) (fun q2 => k_sat_mk ⟨rfl, m, hm, Or.inr ⟨fun q3 => q2 ?_, by rw [q]⟩⟩)
      have := q3.2
      (try simp (disch := omega) only [Int32.lt_iff_toInt_lt, Int32.le_iff_toInt_le, ← Int32.toInt_inj, Int32.toInt_add, Int32.toInt_sub, Int32.toInt_mul, Int32.toInt_neg, z_bm, z_bm2, J_ti, J_toInt, z_cn, Int32.reduceToInt]) <;> omega
    · simp only [k_cs]
      exact k_sat_mk ⟨rfl, m, hm, Or.inr ⟨fun q3 => by omega, rfl⟩⟩
/-- letters laid into a row -/
def z_ly (f : Nat → Int32) (b : Nat → Nat) (w i : Nat) (j : Nat) : Int32 := if 40 * w ≤ j ∧ j < 40 * w + i then J (b (j - 40 * w)) else f j
theorem z_ly_s (f : Nat → Int32) (b : Nat → Nat) (w i : Nat) : upd (z_ly f b w i) (40 * w + i) (J (b i)) = z_ly f b w (i + 1) := by
  funext j
  rw [z_up]
  unfold z_ly
  by_cases e : j = 40 * w + i
  · rw [if_pos e, if_pos (by omega), e, Nat.add_sub_cancel_left]
  · rw [if_neg e]
    by_cases q : 40 * w ≤ j ∧ j < 40 * w + i
    · rw [if_pos q, if_pos (by omega)]
    · rw [if_neg q, if_neg (by omega)]
theorem z_cutFrom {u : k_S} {n w : Nat} {b : Nat → Nat} (h : z_tp u n b) (hw : w < 4) (e3 : u.1 303 = J w) (h40 : n ≤ 40) : k_sat (f_Wheels_cutFrom_Tape u) (fun r v => r = J w ∧ z_fr [303] [4, 5] u v ∧ v.1 303 = J (w + 1) ∧ v.2.1 4 = z_ly (u.2.1 4) b w n ∧ v.2.1 5 = upd (u.2.1 5) w (J n)) := by
  obtain ⟨hn, e1, e2, hb⟩ := h
  unfold f_Wheels_cutFrom_Tape
  rw [e3]
  refine z_let (z_neg (by (try simp (disch := omega) only [Int32.lt_iff_toInt_lt, Int32.le_iff_toInt_le, ← Int32.toInt_inj, Int32.toInt_add, Int32.toInt_sub, Int32.toInt_mul, Int32.toInt_neg, z_bm, z_bm2, J_ti, J_toInt, z_cn, Int32.reduceToInt]) <;> omega) (z_pos (by (try simp (disch := omega) only [Int32.lt_iff_toInt_lt, Int32.le_iff_toInt_le, ← Int32.toInt_inj, Int32.toInt_add, Int32.toInt_sub, Int32.toInt_mul, Int32.toInt_neg, z_bm, z_bm2, J_ti, J_toInt, z_cn, Int32.reduceToInt]) <;> omega) (z_bind _ (z_for 0 n (fun i v => z_fr [] [4] u v ∧ v.2.1 4 = z_ly (u.2.1 4) b w i) (K := fun _ v => z_fr [] [4] u v ∧ v.2.1 4 = z_ly (u.2.1 4) b w n) (by omega) (Nat.zero_le n) ⟨z_fr.rf, ?_⟩ (fun i v _ hi hp => ?_) (fun v hp => ?_)) (fun _ v hv => ?_))))
  · funext j
    unfold z_ly
    rw [if_neg (by omega)]
  · obtain ⟨g1, g2⟩ := hp
    unfold f_Wheels_cutFrom_Tape_B23
    have e1' : v.1 101 = J n := (g1.1 101 rfl).trans e1
    rw [e1']
    refine z_neg (by (try simp (disch := omega) only [Int32.lt_iff_toInt_lt, Int32.le_iff_toInt_le, ← Int32.toInt_inj, Int32.toInt_add, Int32.toInt_sub, Int32.toInt_mul, Int32.toInt_neg, z_bm, z_bm2, J_ti, J_toInt, z_cn, Int32.reduceToInt]) <;> omega) (z_neg (by (try simp (disch := omega) only [Int32.lt_iff_toInt_lt, Int32.le_iff_toInt_le, ← Int32.toInt_inj, Int32.toInt_add, Int32.toInt_sub, Int32.toInt_mul, Int32.toInt_neg, z_bm, z_bm2, J_ti, J_toInt, z_cn, Int32.reduceToInt]) <;> omega) ?_)
    rw [z_tapeAt (x := J (b i)) e1' hn hi ((congrFun (g1.2.1 2 rfl) i).trans (hb i hi).2.1), z_bind_some, z_setLetter hw (by omega), z_bind_some]
    refine k_sat_mk (Or.inl ⟨rfl, g1.tr (z_wA rfl), ?_⟩)
    simp only [k_wA, if_true]
    rw [g2, z_ly_s]
  · obtain ⟨g1, g2⟩ := hp
    unfold f_Wheels_cutFrom_Tape_B23
    rw [(g1.1 101 rfl).trans e1]
    exact z_pos (Int32.le_refl _) (k_sat_mk ⟨_, rfl, g1, g2⟩)
  · obtain ⟨g1, g2⟩ := hv
    unfold f_Wheels_cutFrom_Tape_J54
    refine z_ck (by (try simp (disch := omega) only [Int32.lt_iff_toInt_lt, Int32.le_iff_toInt_le, ← Int32.toInt_inj, Int32.toInt_add, Int32.toInt_sub, Int32.toInt_mul, Int32.toInt_neg, z_bm, z_bm2, J_ti, J_toInt, z_cn, Int32.reduceToInt]) <;> omega) (by (try simp (disch := omega) only [Int32.lt_iff_toInt_lt, Int32.le_iff_toInt_le, ← Int32.toInt_inj, Int32.toInt_add, Int32.toInt_sub, Int32.toInt_mul, Int32.toInt_neg, z_bm, z_bm2, J_ti, J_toInt, z_cn, Int32.reduceToInt]) <;> omega) (z_let (z_let (k_sat_mk ⟨rfl, ((g1.mono rfl rfl).tr (z_wA rfl)).tr (z_wF rfl), ?_, ?_, ?_⟩)))
    · simp [k_wF, k_wA, g1.1 303 rfl, e3, z_Jp]
    · simp [k_wF, k_wA, g2]
    · simp [k_wF, k_wA, g1.2.1 5 rfl, (g1.1 101 rfl).trans e1, J_toNat (show w < 2147483648 by omega)]
/-! wheel, the reference's; both -/
theorem z_countR {u : k_S} {n : Nat} {b : Nat → Nat} (e2 : u.1 4202 = J n) (hn : n ≤ 120) (hb : ∀ i, i < n → b i ≤ 255 ∧ u.2.1 43 i = (J (b i)).toInt8.toInt32) : k_sat (k_itr (fun (x : (Int32)) u => f_R_wheel_B13 x u) k_FU 0 u) (fun y v => v = u ∧ ∃ m, z_stop n b m ∧ y = J m) := by
  refine z_for 0 n (fun i v => v = u ∧ i ≤ 40 ∧ ∀ j, j < i → z_th (J (b j)) = 1) (by omega) (Nat.zero_le n) ⟨rfl, by omega, fun j hj => by omega⟩ (fun i v _ hi hp => ?_) (fun v hp => ?_)
  · obtain ⟨rfl, h40, hp⟩ := hp
    unfold f_R_wheel_B13
    rw [e2]
    refine z_neg (by (try simp (disch := omega) only [Int32.lt_iff_toInt_lt, Int32.le_iff_toInt_le, ← Int32.toInt_inj, Int32.toInt_add, Int32.toInt_sub, Int32.toInt_mul, Int32.toInt_neg, z_bm, z_bm2, J_ti, J_toInt, z_cn, Int32.reduceToInt]) <;> omega) (z_ite (fun q => k_sat_mk (Or.inr ⟨_, rfl, rfl, i, ⟨by omega, by omega, hp, Or.inr (Or.inl (by ((try simp (disch := omega) only [Int32.lt_iff_toInt_lt, Int32.le_iff_toInt_le, ← Int32.toInt_inj, Int32.toInt_add, Int32.toInt_sub, Int32.toInt_mul, Int32.toInt_neg, z_bm, z_bm2, J_ti, J_toInt, z_cn, Int32.reduceToInt] at *); omega)))⟩, rfl⟩)) (fun q => z_ck (by (try simp (disch := omega) only [Int32.lt_iff_toInt_lt, Int32.le_iff_toInt_le, ← Int32.toInt_inj, Int32.toInt_add, Int32.toInt_sub, Int32.toInt_mul, Int32.toInt_neg, z_bm, z_bm2, J_ti, J_toInt, z_cn, Int32.reduceToInt]) <;> omega) (by (try simp (disch := omega) only [Int32.lt_iff_toInt_lt, Int32.le_iff_toInt_le, ← Int32.toInt_inj, Int32.toInt_add, Int32.toInt_sub, Int32.toInt_mul, Int32.toInt_neg, z_bm, z_bm2, J_ti, J_toInt, z_cn, Int32.reduceToInt]) <;> omega) ?_))
    rw [J_toNat (show i < 2147483648 by omega), (hb i hi).2, z_thR, z_bind_some, ← (z_th_b (hb i hi).1).1]
    refine z_ite (fun q2 => k_sat_mk (Or.inr ⟨_, rfl, rfl, i, ⟨by omega, by omega, hp, Or.inr (Or.inr q2)⟩, rfl⟩)) (fun q2 => k_sat_mk (Or.inl ⟨rfl, rfl, by ((try simp (disch := omega) only [Int32.lt_iff_toInt_lt, Int32.le_iff_toInt_le, ← Int32.toInt_inj, Int32.toInt_add, Int32.toInt_sub, Int32.toInt_mul, Int32.toInt_neg, z_bm, z_bm2, J_ti, J_toInt, z_cn, Int32.reduceToInt] at *); omega), fun j hj => ?_⟩))
    by_cases e : j = i
    · subst e
      rcases (z_th_b (hb j hi).1).2 with q3 | q3
      · exact absurd q3 q2
      · exact q3.1
    · exact hp j (by omega)
  · obtain ⟨rfl, h40, hp⟩ := hp
    unfold f_R_wheel_B13
    rw [e2]
    exact z_pos (Int32.le_refl _) (k_sat_mk ⟨_, rfl, rfl, n, ⟨by omega, h40, hp, Or.inl rfl⟩, rfl⟩)
theorem z_layR {u : k_S} {n m w : Nat} {b : Nat → Nat} {s0 : Int32} (hw : w < 4) (e3 : u.1 4203 = J w) (hn : n ≤ 120) (hb : ∀ i, i < n → b i ≤ 255 ∧ u.2.1 43 i = (J (b i)).toInt8.toInt32) (hm : z_stop n b m) : k_sat (k_itr (fun (x : (Int32)) u => f_R_wheel_B66 (J m) s0 x u) k_FU 0 u) (fun _ v => z_fr [] [44] u v ∧ v.2.1 44 = z_ly (u.2.1 44) b w m) := by
  obtain ⟨m1, m2, m3, -⟩ := hm
  refine z_for 0 m (fun i v => z_fr [] [44] u v ∧ v.2.1 44 = z_ly (u.2.1 44) b w i) (by omega) (Nat.zero_le m) ⟨z_fr.rf, ?_⟩ (fun i v _ hi hp => ?_) (fun v hp => ?_)
  · funext j
    unfold z_ly
    rw [if_neg (by omega)]
  · obtain ⟨g1, g2⟩ := hp
    unfold f_R_wheel_B66
    have hbi := hb i (by omega)
    have hb8 : v.2.1 43 i = J (b i) := by
      rw [g1.2.1 43 rfl, hbi.2]
      rcases (z_th_b hbi.1).2 with q | q
      · have := m3 i hi
        rw [q] at this
        cases this
      · exact q.2
    rw [(g1.1 4203 rfl).trans e3, J_40, J_toNat (show 40 * w + i < 2147483648 by omega), J_toNat (show i < 2147483648 by omega), hb8]
    refine z_neg (by (try simp (disch := omega) only [Int32.lt_iff_toInt_lt, Int32.le_iff_toInt_le, ← Int32.toInt_inj, Int32.toInt_add, Int32.toInt_sub, Int32.toInt_mul, Int32.toInt_neg, z_bm, z_bm2, J_ti, J_toInt, z_cn, Int32.reduceToInt]) <;> omega) (z_ck (by (try simp (disch := omega) only [Int32.lt_iff_toInt_lt, Int32.le_iff_toInt_le, ← Int32.toInt_inj, Int32.toInt_add, Int32.toInt_sub, Int32.toInt_mul, Int32.toInt_neg, z_bm, z_bm2, J_ti, J_toInt, z_cn, Int32.reduceToInt]) <;> omega) (by (try simp (disch := omega) only [Int32.lt_iff_toInt_lt, Int32.le_iff_toInt_le, ← Int32.toInt_inj, Int32.toInt_add, Int32.toInt_sub, Int32.toInt_mul, Int32.toInt_neg, z_bm, z_bm2, J_ti, J_toInt, z_cn, Int32.reduceToInt]) <;> omega) (z_ck (by (try simp (disch := omega) only [Int32.lt_iff_toInt_lt, Int32.le_iff_toInt_le, ← Int32.toInt_inj, Int32.toInt_add, Int32.toInt_sub, Int32.toInt_mul, Int32.toInt_neg, z_bm, z_bm2, J_ti, J_toInt, z_cn, Int32.reduceToInt]) <;> omega) (by (try simp (disch := omega) only [Int32.lt_iff_toInt_lt, Int32.le_iff_toInt_le, ← Int32.toInt_inj, Int32.toInt_add, Int32.toInt_sub, Int32.toInt_mul, Int32.toInt_neg, z_bm, z_bm2, J_ti, J_toInt, z_cn, Int32.reduceToInt]) <;> omega) (z_let (k_sat_mk (Or.inl ⟨rfl, g1.tr (z_wA rfl), ?_⟩)))))
    simp only [k_wA, if_true]
    rw [g2, z_ly_s]
  · unfold f_R_wheel_B66
    exact z_pos (Int32.le_refl _) (k_sat_mk ⟨_, rfl, hp⟩)
/-- a tape emptied -/
theorem z_T0e {v : k_S} (h1 : v.1 101 = 0) (h2 : v.1 4202 = 0) : zT v := ⟨0, by omega, h1, h2, fun i hi => by omega⟩
theorem z_wheel (u : k_S) (h : zI u) : z_pair f_W_wheel f_R_wheel u zI := by
  obtain ⟨n, b, hT⟩ := z_tape h.1
  obtain ⟨hn, t1, t2, hb⟩ := id hT
  obtain ⟨w, hw, e1, e2, hN, hZ⟩ := h.2.1
  refine z_pair_of ?_
  unfold f_W_wheel
  rw [e1]
  by_cases h4 : w < 4
  · refine z_pos (by (try simp (disch := omega) only [Int32.lt_iff_toInt_lt, Int32.le_iff_toInt_le, ← Int32.toInt_inj, Int32.toInt_add, Int32.toInt_sub, Int32.toInt_mul, Int32.toInt_neg, z_bm, z_bm2, J_ti, J_toInt, z_cn, Int32.reduceToInt]) <;> omega) (z_bind _ (z_faultOf hT) (fun r v hv => ?_))
    obtain ⟨rfl, m, hm, ⟨q1, q2, rfl⟩ | ⟨q1, rfl⟩⟩ := hv
    · subst q1
      have m40 := hm.2.1
      refine z_pos rfl (z_bind _ (z_cutFrom hT h4 e1 m40) (fun r v1 hv1 => ?_))
      obtain ⟨rfl, g1, g2, g3, g4⟩ := hv1
      unfold f_W_wheel_J49
      refine z_let (k_sat_mk ?_)
      have k1 : z_fr [101, 303] [4, 5] v (k_wF v1 101 0) := (g1.mono rfl rfl).tr (z_wF rfl)
      have w303 : (k_wF v1 101 0).1 303 = J (w + 1) := by simp [k_wF, g2]
      have w101 : (k_wF v1 101 0).1 101 = 0 := by simp [k_wF]
      have w4 : (k_wF v1 101 0).2.1 4 = z_ly (v.2.1 4) b w m := g3
      have w5 : (k_wF v1 101 0).2.1 5 = upd (v.2.1 5) w (J m) := g4
      generalize k_wF v1 101 0 = x at *
      have hb' : ∀ i, i < m → b i ≤ 255 ∧ x.2.1 43 i = (J (b i)).toInt8.toInt32 := fun i hi => ⟨(hb i hi).1, by rw [k1.2.1 43 rfl]; exact (hb i hi).2.2⟩
      unfold f_R_wheel
      rw [k1.1 4203 rfl, e2]
      refine z_neg (by (try simp (disch := omega) only [Int32.lt_iff_toInt_lt, Int32.le_iff_toInt_le, ← Int32.toInt_inj, Int32.toInt_add, Int32.toInt_sub, Int32.toInt_mul, Int32.toInt_neg, z_bm, z_bm2, J_ti, J_toInt, z_cn, Int32.reduceToInt]) <;> omega) (z_bind _ (z_countR ((k1.1 4202 rfl).trans t2) hn hb') (fun y x1 hx1 => ?_))
      obtain ⟨rfl, m', hm', rfl⟩ := hx1
      have em := z_stop_u hm' hm
      subst em
      unfold f_R_wheel_J45
      rw [(k1.1 4202 rfl).trans t2]
      refine z_pos rfl (z_neg (by (try simp (disch := omega) only [Int32.lt_iff_toInt_lt, Int32.le_iff_toInt_le, ← Int32.toInt_inj, Int32.toInt_add, Int32.toInt_sub, Int32.toInt_mul, Int32.toInt_neg, z_bm, z_bm2, J_ti, J_toInt, z_cn, Int32.reduceToInt]) <;> omega) ?_)
      unfold f_R_wheel_J63
      have x4203 : x1.1 4203 = J w := (k1.1 4203 rfl).trans e2
      refine z_bind _ (z_layR (u := x1) h4 x4203 hn hb' hm) (fun _ x2 hx2 => ?_)
      obtain ⟨p1, p2⟩ := hx2
      have y4203 : x2.1 4203 = J w := (p1.1 4203 rfl).trans x4203
      simp only [k_let]
      have y1 : (k_wF x2 4202 0).1 4203 = J w := y4203
      have y2 : (k_wA (k_wF x2 4202 0) 45 w (J m')).1 4203 = J w := y4203
      have y3 : (k_wA (k_wA (k_wF x2 4202 0) 45 w (J m')) 46 w 0).1 4203 = J w := y4203
      have y4 : (k_wA (k_wA (k_wA (k_wF x2 4202 0) 45 w (J m')) 46 w 0) 47 w 0).1 4203 = J w := y4203
      have y5 : (k_wA (k_wA (k_wA (k_wA (k_wF x2 4202 0) 45 w (J m')) 46 w 0) 47 w 0) 48 w 0).1 4203 = J w := y4203
      rw [y1, J_toNat (show w < 2147483648 by omega), y2, J_toNat (show w < 2147483648 by omega), y3, J_toNat (show w < 2147483648 by omega), y4, J_toNat (show w < 2147483648 by omega), y5]
      refine z_neg (by decide) (z_ck (by (try simp (disch := omega) only [Int32.lt_iff_toInt_lt, Int32.le_iff_toInt_le, ← Int32.toInt_inj, Int32.toInt_add, Int32.toInt_sub, Int32.toInt_mul, Int32.toInt_neg, z_bm, z_bm2, J_ti, J_toInt, z_cn, Int32.reduceToInt]) <;> omega) (by (try simp (disch := omega) only [Int32.lt_iff_toInt_lt, Int32.le_iff_toInt_le, ← Int32.toInt_inj, Int32.toInt_add, Int32.toInt_sub, Int32.toInt_mul, Int32.toInt_neg, z_bm, z_bm2, J_ti, J_toInt, z_cn, Int32.reduceToInt]) <;> omega) (z_ck (by (try simp (disch := omega) only [Int32.lt_iff_toInt_lt, Int32.le_iff_toInt_le, ← Int32.toInt_inj, Int32.toInt_add, Int32.toInt_sub, Int32.toInt_mul, Int32.toInt_neg, z_bm, z_bm2, J_ti, J_toInt, z_cn, Int32.reduceToInt]) <;> omega) (by (try simp (disch := omega) only [Int32.lt_iff_toInt_lt, Int32.le_iff_toInt_le, ← Int32.toInt_inj, Int32.toInt_add, Int32.toInt_sub, Int32.toInt_mul, Int32.toInt_neg, z_bm, z_bm2, J_ti, J_toInt, z_cn, Int32.reduceToInt]) <;> omega) (z_ck (by (try simp (disch := omega) only [Int32.lt_iff_toInt_lt, Int32.le_iff_toInt_le, ← Int32.toInt_inj, Int32.toInt_add, Int32.toInt_sub, Int32.toInt_mul, Int32.toInt_neg, z_bm, z_bm2, J_ti, J_toInt, z_cn, Int32.reduceToInt]) <;> omega) (by (try simp (disch := omega) only [Int32.lt_iff_toInt_lt, Int32.le_iff_toInt_le, ← Int32.toInt_inj, Int32.toInt_add, Int32.toInt_sub, Int32.toInt_mul, Int32.toInt_neg, z_bm, z_bm2, J_ti, J_toInt, z_cn, Int32.reduceToInt]) <;> omega) (z_ck (by (try simp (disch := omega) only [Int32.lt_iff_toInt_lt, Int32.le_iff_toInt_le, ← Int32.toInt_inj, Int32.toInt_add, Int32.toInt_sub, Int32.toInt_mul, Int32.toInt_neg, z_bm, z_bm2, J_ti, J_toInt, z_cn, Int32.reduceToInt]) <;> omega) (by (try simp (disch := omega) only [Int32.lt_iff_toInt_lt, Int32.le_iff_toInt_le, ← Int32.toInt_inj, Int32.toInt_add, Int32.toInt_sub, Int32.toInt_mul, Int32.toInt_neg, z_bm, z_bm2, J_ti, J_toInt, z_cn, Int32.reduceToInt]) <;> omega) ?_))))
      have k2 : z_fr [101, 303, 4202, 4203] [4, 5, 44, 45, 46, 47, 48] v (k_wF (k_wA (k_wA (k_wA (k_wA (k_wF x2 4202 0) 45 w (J m')) 46 w 0) 47 w 0) 48 w 0) 4203 (J w + 1)) := (((((((k1.mono rfl rfl).tr (p1.mono rfl rfl)).tr (z_wF rfl)).tr (z_wA rfl)).tr (z_wA rfl)).tr (z_wA rfl)).tr (z_wA rfl)).tr (z_wF rfl)
      have f303 : (k_wF (k_wA (k_wA (k_wA (k_wA (k_wF x2 4202 0) 45 w (J m')) 46 w 0) 47 w 0) 48 w 0) 4203 (J w + 1)).1 303 = J (w + 1) := (p1.1 303 rfl).trans w303
      have f101 : (k_wF (k_wA (k_wA (k_wA (k_wA (k_wF x2 4202 0) 45 w (J m')) 46 w 0) 47 w 0) 48 w 0) 4203 (J w + 1)).1 101 = 0 := (p1.1 101 rfl).trans w101
      have f4202 : (k_wF (k_wA (k_wA (k_wA (k_wA (k_wF x2 4202 0) 45 w (J m')) 46 w 0) 47 w 0) 48 w 0) 4203 (J w + 1)).1 4202 = 0 := rfl
      have f4203 : (k_wF (k_wA (k_wA (k_wA (k_wA (k_wF x2 4202 0) 45 w (J m')) 46 w 0) 47 w 0) 48 w 0) 4203 (J w + 1)).1 4203 = J (w + 1) := by simp [k_wF, z_Jp]
      have f4 : (k_wF (k_wA (k_wA (k_wA (k_wA (k_wF x2 4202 0) 45 w (J m')) 46 w 0) 47 w 0) 48 w 0) 4203 (J w + 1)).2.1 4 = z_ly (v.2.1 4) b w m' := (p1.2.1 4 rfl).trans w4
      have f5 : (k_wF (k_wA (k_wA (k_wA (k_wA (k_wF x2 4202 0) 45 w (J m')) 46 w 0) 47 w 0) 48 w 0) 4203 (J w + 1)).2.1 5 = upd (v.2.1 5) w (J m') := (p1.2.1 5 rfl).trans w5
      have f44 : (k_wF (k_wA (k_wA (k_wA (k_wA (k_wF x2 4202 0) 45 w (J m')) 46 w 0) 47 w 0) 48 w 0) 4203 (J w + 1)).2.1 44 = z_ly (v.2.1 44) b w m' := by
        rw [← k1.2.1 44 rfl]
        exact p2
      have f45 : (k_wF (k_wA (k_wA (k_wA (k_wA (k_wF x2 4202 0) 45 w (J m')) 46 w 0) 47 w 0) 48 w 0) 4203 (J w + 1)).2.1 45 = upd (v.2.1 45) w (J m') := by
        rw [← k1.2.1 45 rfl, ← p1.2.1 45 rfl]
        simp [k_wF, k_wA]
      have f46 : (k_wF (k_wA (k_wA (k_wA (k_wA (k_wF x2 4202 0) 45 w (J m')) 46 w 0) 47 w 0) 48 w 0) 4203 (J w + 1)).2.1 46 = upd (v.2.1 46) w 0 := by
        rw [← k1.2.1 46 rfl, ← p1.2.1 46 rfl]
        simp [k_wF, k_wA]
      have f47 : (k_wF (k_wA (k_wA (k_wA (k_wA (k_wF x2 4202 0) 45 w (J m')) 46 w 0) 47 w 0) 48 w 0) 4203 (J w + 1)).2.1 47 = upd (v.2.1 47) w 0 := by
        rw [← k1.2.1 47 rfl, ← p1.2.1 47 rfl]
        simp [k_wF, k_wA]
      have f48 : (k_wF (k_wA (k_wA (k_wA (k_wA (k_wF x2 4202 0) 45 w (J m')) 46 w 0) 47 w 0) 48 w 0) 4203 (J w + 1)).2.1 48 = upd (v.2.1 48) w 0 := by
        rw [← k1.2.1 48 rfl, ← p1.2.1 48 rfl]
        simp [k_wF, k_wA]
      generalize k_wF (k_wA (k_wA (k_wA (k_wA (k_wF x2 4202 0) 45 w (J m')) 46 w 0) 47 w 0) 48 w 0) 4203 (J w + 1) = z at *
      rw [f4203, z_Jm]
      refine k_sat_mk ⟨rfl, ?_⟩
      refine zI_NMPCT h (k2.mono rfl rfl) ⟨w + 1, by omega, f303, f4203, fun w' hw' => ?_, fun w' a c => by rw [k2.2.1 6 rfl]; exact hZ w' (by omega) c⟩ ?_ ?_ ?_ (z_T0e f101 f4202)
      · by_cases e : w' = w
        · subst e
          refine ⟨m', q2, m40, by rw [f5, z_up, if_pos rfl], by rw [f45, z_up, if_pos rfl], by rw [f48, z_up, if_pos rfl, k2.2.1 6 rfl, hZ w' (by omega) h4], fun p hp => ?_⟩
          rw [f4, f44]
          unfold z_ly
          rw [if_pos (by omega), if_pos (by omega)]
        · obtain ⟨s, a1, a2, a3, a4, a5, a6⟩ := hN w' (by omega)
          refine ⟨s, a1, a2, by rw [f5, z_up, if_neg e]; exact a3, by rw [f45, z_up, if_neg e]; exact a4, by rw [f48, z_up, if_neg e, k2.2.1 6 rfl]; exact a5, fun p hp => ?_⟩
          rw [f4, f44]
          unfold z_ly
          rw [if_neg (by omega), if_neg (by omega)]
          exact a6 p hp
      · obtain ⟨⟨t, ht, q5, q6⟩, hm1, hm2⟩ := h.2.2.1
        refine ⟨⟨t, ht, (k2.1 1402 rfl).trans q5, (k2.1 4209 rfl).trans q6⟩, fun w' hw' => ?_, fun w' hw1 hw2 => ?_⟩
        · rw [f303, J_toInt (by omega)] at hw'
          rw [f5, f46, f47, k2.2.1 15 rfl, k2.2.1 16 rfl, z_up, z_up, z_up]
          by_cases e : w' = w
          · subst e
            rw [if_pos rfl, if_pos rfl, if_pos rfl]
            obtain ⟨b1, b2⟩ := hm2 w' (by rw [e1, J_toInt (by omega)]; omega) h4
            exact ⟨⟨0, by rw [J_toInt (by omega)]; omega, b1, rfl⟩, b2.symm⟩
          · rw [if_neg e, if_neg e, if_neg e]
            exact hm1 w' (by rw [e1, J_toInt (by omega)]; omega)
        · rw [f303, J_toInt (by omega)] at hw1
          rw [k2.2.1 15 rfl, k2.2.1 16 rfl]
          exact hm2 w' (by rw [e1, J_toInt (by omega)]; omega) hw2
      · rcases h.2.2.2.2.2.2.1 with ⟨c1, c2⟩ | ⟨c1, k, t, c2, c3, c4, c5, c6, c7, c8⟩
        · exact Or.inl ⟨(k2.1 10 rfl).trans c1, (k2.1 4240 rfl).trans c2⟩
        · rw [e1, J_toInt (by omega)] at c2
          refine Or.inr ⟨(k2.1 4240 rfl).trans c1, k, t, by rw [f303, J_toInt (by omega)]; omega, c3, (k2.1 10 rfl).trans c4, (k2.1 4241 rfl).trans c5, (k2.1 2702 rfl).trans c6, (k2.1 4242 rfl).trans c7, fun w' hw' => ?_⟩
          rw [f5, z_up, if_neg (by omega), k2.2.1 28 rfl, k2.2.1 68 rfl, k2.2.1 29 rfl, k2.2.1 69 rfl]
          exact c8 w' hw'
      · obtain ⟨d, k, c1, c2, c3, c4, c5, c6, c7⟩ := h.2.2.2.2.2.2.2.1
        refine ⟨d, k, c1, c2, (k2.1 3004 rfl).trans c3, (k2.1 3005 rfl).trans c4, (k2.1 4224 rfl).trans c5, (k2.1 4225 rfl).trans c6, fun i hi => ?_⟩
        obtain ⟨d1, d2, w', d3, d4, d5⟩ := c7 i hi
        rw [e1, J_toInt (by omega)] at d3
        refine ⟨by rw [k2.2.1 58 rfl, k2.2.1 33 rfl]; exact d1, by rw [k2.2.1 59 rfl, k2.2.1 34 rfl]; exact d2, w', by rw [f303, J_toInt (by omega)]; omega, by rw [k2.2.1 31 rfl]; exact d4, ?_⟩
        rw [f5, z_up, if_neg (by omega), k2.2.1 32 rfl, k2.2.1 56 rfl, k2.2.1 57 rfl]
        exact d5
    · refine z_neg (by intro q; have := congrArg Int32.toInt q; rw [J_toInt (by have := hm.1; omega)] at this; simp at this) ?_
      unfold f_W_wheel_J49
      refine z_let (k_sat_mk ?_)
      have k1 : z_fr [101] [] v (k_wF v 101 0) := z_wF rfl
      have w101 : (k_wF v 101 0).1 101 = 0 := by simp [k_wF]
      generalize k_wF v 101 0 = x at *
      have hb' : ∀ i, i < n → b i ≤ 255 ∧ x.2.1 43 i = (J (b i)).toInt8.toInt32 := fun i hi => ⟨(hb i hi).1, by rw [k1.2.1 43 rfl]; exact (hb i hi).2.2⟩
      unfold f_R_wheel
      rw [k1.1 4203 rfl, e2]
      refine z_neg (by (try simp (disch := omega) only [Int32.lt_iff_toInt_lt, Int32.le_iff_toInt_le, ← Int32.toInt_inj, Int32.toInt_add, Int32.toInt_sub, Int32.toInt_mul, Int32.toInt_neg, z_bm, z_bm2, J_ti, J_toInt, z_cn, Int32.reduceToInt]) <;> omega) (z_bind _ (z_countR ((k1.1 4202 rfl).trans t2) hn hb') (fun y x1 hx1 => ?_))
      obtain ⟨rfl, m', hm', rfl⟩ := hx1
      have em := z_stop_u hm' hm
      subst em
      have x4203 : x1.1 4203 = J w := (k1.1 4203 rfl).trans e2
      have fin : k_sat (f_R_wheel_J62 (J m') x1) (fun r' v' => -100 - J m' = r' ∧ zI v') := by
        unfold f_R_wheel_J62 f_R_wheel_J63
        refine z_bind _ (z_layR (u := x1) h4 x4203 hn hb' hm) (fun _ x2 hx2 => z_let (z_pos rfl (k_sat_mk ⟨rfl, ?_⟩)))
        obtain ⟨p1, p2⟩ := hx2
        have k2 : z_fr [101, 4202] [44] v (k_wF x2 4202 0) := ((k1.mono rfl rfl).tr (p1.mono rfl rfl)).tr (z_wF rfl)
        refine zI_NMPCT h (k2.mono rfl rfl) ⟨w, hw, (k2.1 303 rfl).trans e1, (k2.1 4203 rfl).trans e2, fun w' hw' => ?_, fun w' a c => by rw [k2.2.1 6 rfl]; exact hZ w' a c⟩ ?_ (zP_f k2 (by decide) h.2.2.2.2.2.2.1) (zC_f k2 (by decide) h.2.2.2.2.2.2.2.1) (z_T0e ?_ ?_)
        · obtain ⟨s, a1, a2, a3, a4, a5, a6⟩ := hN w' hw'
          refine ⟨s, a1, a2, by rw [k2.2.1 5 rfl]; exact a3, by rw [k2.2.1 45 rfl]; exact a4, by rw [k2.2.1 48 rfl, k2.2.1 6 rfl]; exact a5, fun p hp => ?_⟩
          rw [k2.2.1 4 rfl, ← a6 p hp]
          show x2.2.1 44 _ = _
          rw [p2]
          unfold z_ly
          rw [if_neg (by omega), k1.2.1 44 rfl]
        · exact zM_f k2 (by decide) h.2.2.1
        · rw [← w101]; exact (show (k_wF x2 4202 0).1 101 = x2.1 101 from by simp [k_wF]).trans (p1.1 101 rfl)
        · simp [k_wF]
      unfold f_R_wheel_J45
      rw [(k1.1 4202 rfl).trans t2]
      refine z_ite (fun q => z_ite (fun q2 => fin) (fun q2 => absurd ⟨?_, ?_⟩ q1)) (fun q => fin)
      · have := hm.1
        rw [J_inj (by omega) (by omega)] at q
        exact q
      · have h1 := hm.1
        rw [J_inj (by omega) (by omega)] at q
        have : ¬ m' < 2 := fun c => q2 (by (try simp (disch := omega) only [Int32.lt_iff_toInt_lt, Int32.le_iff_toInt_le, ← Int32.toInt_inj, Int32.toInt_add, Int32.toInt_sub, Int32.toInt_mul, Int32.toInt_neg, z_bm, z_bm2, J_ti, J_toInt, z_cn, Int32.reduceToInt]) <;> omega)
        omega
  · have : w = 4 := by omega
    subst this
    refine z_neg (by decide) (k_sat_mk ?_)
    unfold f_R_wheel
    rw [e2]
    exact z_pos rfl (k_sat_mk ⟨rfl, h⟩)
