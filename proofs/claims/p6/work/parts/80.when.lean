/-! when: both run to their ends and leave all as it was -/
def z_Eb (E : z_E) (l : Int32) : z_E := (E.1, E.2.1, E.2.2.1, upd E.2.2.2.1 0 l, E.2.2.2.2)
theorem z_EW_b {E : z_E} {u v : k_S} {l : Int32} (h : z_EW E u) (h303 : v.1 303 = u.1 303) (h703 : v.1 703 = u.1 703) (h705 : v.1 705 = u.1 705) (h4 : v.2.1 4 = u.2.1 4) (h5 : v.2.1 5 = u.2.1 5) (h6 : v.2.1 6 = upd (u.2.1 6) 0 l) (h8 : v.2.1 8 = u.2.1 8) : z_EW (z_Eb E l) v :=
  ⟨h.1, h303.trans h.2.1, by rw [h4, h.2.2.1]; rfl, by rw [h5, h.2.2.2.1]; rfl, by rw [h6, h.2.2.2.2.1]; rfl, fun w w1 w2 w3 => h.2.2.2.2.2 w (w1.trans h703) (w2.trans h8) (w3.trans h705)⟩
theorem z_ER_b {E : z_E} {u v : k_S} {l : Int32} (h : z_ER E u) (F : List Nat) (hf : z_fr F [54, 55, 60, 61, 62, 48] u v) (hd : F.elem 4203 = false ∧ F.elem 4223 = false ∧ F.elem 4211 = false) (h48 : v.2.1 48 = upd (u.2.1 48) 0 l) : z_ER (z_Eb E l) v := by
  refine ⟨h.1, (hf.1 4203 hd.1).trans h.2.1, fun w hw => ?_, fun w w1 w2 w3 w4 w5 w6 w7 => h.2.2.2 w (w1.trans (hf.1 4223 hd.2.1)) (w2.trans (hf.1 4211 hd.2.2)) (w3.trans (hf.2.1 49 rfl)) (w4.trans (hf.2.1 50 rfl)) (w5.trans (hf.2.1 51 rfl)) (w6.trans (hf.2.1 52 rfl)) (w7.trans (hf.2.1 53 rfl))⟩
  obtain ⟨b1, b2, b3⟩ := h.2.2.1 w hw
  refine ⟨by rw [hf.2.1 45 rfl]; exact b1, ?_, fun q s' e1 e2 e3 => by rw [hf.2.1 44 rfl]; exact b3 q s' e1 e2 e3⟩
  rw [h48]
  show upd _ _ _ _ = upd _ _ _ _
  rw [z_up, z_up, b2]
theorem z_ok_b {E : z_E} {l : Int32} {m : z_Mo} (h : z_ok E m) : z_ok (z_Eb E l) m := h
theorem z_upd2 {f g : Nat → Int32} {p : Nat} {x y : Int32} (h : g = upd f p x) : upd g p y = upd f p y := by
  rw [h]
  funext i
  rw [z_up, z_up, z_up]
  by_cases e : i = p
  · rw [if_pos e, if_pos e]
  · rw [if_neg e, if_neg e, if_neg e]
/-- while breaks are tried -/
def z_tW (u v : k_S) : Prop := z_fr [1702, 1206, 704, 2405, 2406, 2407] [6, 18, 19, 9, 13] u v ∧ ∃ l, v.2.1 6 = upd (u.2.1 6) 0 l
theorem z_tW_f {u v w : k_S} (h : z_tW u v) (k : z_fr [1702, 1206, 704, 2405, 2406, 2407] [18, 19, 9, 13] v w) : z_tW u w := by
  obtain ⟨l, e⟩ := h.2
  exact ⟨h.1.tr (k.mono rfl rfl), l, by rw [k.2.1 6 rfl]; exact e⟩
theorem z_t106 {u v : k_S} (h : z_tW u v) (v1 v2 v3 v4 : Int32) : k_sat (f_Judging_tryBreaks_J106 v1 v2 v3 v4 v) (fun z v' => (∃ x' y', z = .inl (x', y', v4 + Int32.ofInt 1)) ∧ z_tW u v') := by
  have hJ : ∀ w, z_tW u w → k_sat (f_Judging_tryBreaks_J128 v1 v2 v3 v4 w) (fun z v' => (∃ x' y', z = .inl (x', y', v4 + Int32.ofInt 1)) ∧ z_tW u v') := by
    intro w hw
    unfold f_Judging_tryBreaks_J128
    exact z_let (z_let (k_sat_mk ⟨⟨_, _, rfl⟩, z_tW_f (z_tW_f hw (z_wF rfl)) (z_wF rfl)⟩))
  unfold f_Judging_tryBreaks_J106
  exact z_ite (fun _ => k_sat_mk ⟨⟨_, _, rfl⟩, h⟩) (fun _ => z_ite (fun _ => z_let (hJ _ (z_tW_f h (z_wF rfl)))) (fun _ => hJ _ h))
theorem z_tryB {E : z_E} {u : k_S} {t nr : Nat} {A B f : Nat → Nat} (hE : z_eW E u) (h0 : 0 < E.1) (ht : t ≤ 1000000) (t1 : u.1 1402 = J t) (hnr : nr ≤ 40) (e20 : u.1 2003 = J nr) (hRC : z_RC 21 22 nr A B u) (hf : ∀ i, i < nr → f i < nr ∧ u.2.1 23 i = J (f i)) (hsu : ∀ r, r < nr → ∃ i, i < nr ∧ f i = r) (hso : ∀ i j, i < j → j < nr → A (f i) ≤ A (f j)) : k_sat (f_Judging_tryBreaks u) (fun _ v => z_fr [1702, 1206, 704, 2405, 2406, 2407] [18, 19, 9, 13] u v) := by
  unfold f_Judging_tryBreaks
  rw [show f_Wheels_breakOf 0 u = some (u.2.1 6 0, u) from z_Wheels_breakOf (n := 0) (by omega), z_bind_some]
  refine z_let (z_let (z_let (z_bind _ (z_for3 0 401 0 (-1) (fun _ _ _ v => z_tW u v) (K := fun _ v => z_tW u v) (by omega) (by omega) ⟨((z_wF rfl).tr (z_wF rfl)).tr (z_wF rfl), u.2.1 6 0, by rw [z_up_self]; simp [k_wF]⟩ (fun i x y v _ hi hp => ?_) (fun x y v hp => ?_)) (fun _ v hv => ?_))))
  · unfold f_Judging_tryBreaks_B33
    dsimp only
    refine z_neg (by (try simp (disch := omega) only [Int32.lt_iff_toInt_lt, Int32.le_iff_toInt_le, ← Int32.toInt_inj, Int32.toInt_add, Int32.toInt_sub, Int32.toInt_mul, Int32.toInt_neg, z_bm, z_bm2, J_ti, J_toInt, z_cn, Int32.reduceToInt]) <;> omega) (z_ite (fun _ => z_mono (z_t106 hp _ _ _ _) (fun z v' hz => ?_)) (fun _ => ?_))
    · obtain ⟨⟨x', y', e⟩, hz⟩ := hz
      exact Or.inl ⟨x', y', e, hz⟩
    · rw [show f_Wheels_setBreak 0 (J i) v = some ((), k_wA v 6 0 (J i)) from z_setBreak (w := 0) (by omega), z_bind_some]
      refine z_let ?_
      obtain ⟨g1, l, g2⟩ := hp
      have k4 : z_fr [1702, 1206, 704, 2405, 2406, 2407] [6, 18, 19, 9, 13] u (k_wF (k_wA v 6 0 (J i)) 1206 (-1)) := (g1.tr (z_wA rfl)).tr (z_wF rfl)
      have h6 : (k_wF (k_wA v 6 0 (J i)) 1206 (-1)).2.1 6 = upd (u.2.1 6) 0 (J i) := by
        simp only [k_wF, k_wA, if_true]
        exact z_upd2 g2
      have mN : z_moNow (k_wF (k_wA v 6 0 (J i)) 1206 (-1)) = z_moNow u := by unfold z_moNow; rw [k4.1 1402 rfl, k4.2.1 15 rfl, k4.2.1 16 rfl]
      have mR : z_moR (k_wF (k_wA v 6 0 (J i)) 1206 (-1)) = z_moR u := by unfold z_moR; rw [k4.1 4209 rfl, k4.2.1 46 rfl, k4.2.1 47 rfl]
      have hE' : z_eW (z_Eb E (J i)) (k_wF (k_wA v 6 0 (J i)) 1206 (-1)) := ⟨z_EW_b hE.1 (k4.1 303 rfl) (k4.1 703 rfl) (k4.1 705 rfl) (k4.2.1 4 rfl) (k4.2.1 5 rfl) h6 (k4.2.1 8 rfl), by rw [mN]; exact z_ok_b hE.2.1, by rw [mN, mR]; exact hE.2.2⟩
      refine z_bind _ (z_firstW (f := f) hE' h0 ht ((k4.1 1402 rfl).trans t1) hnr ((k4.1 2003 rfl).trans e20) (z_RC_f k4 rfl rfl hRC) (by rw [k4.2.1 23 rfl]; exact hf) hsu hso 1 (Or.inr rfl)) (fun r w2 hw2 => ?_)
      have hT : z_tW u w2 := z_tW_f ⟨k4, _, h6⟩ (hw2.1.mono rfl rfl)
      have fin : ∀ x : Int32, k_sat (f_Judging_tryBreaks_J80 (u.2.1 6 0) (J i) x w2) (fun z u' => (∃ x' y', z = .inl (x', y', J i + Int32.ofInt 1) ∧ z_tW u u') ∨ ∃ r, z = .inr r ∧ z_tW u u') := by
        intro x
        unfold f_Judging_tryBreaks_J80 f_Judging_tryBreaks_J105
        refine z_ite (fun _ => z_mono (z_t106 hT _ _ _ _) (fun z v' hz => ?_)) (fun _ => z_mono (z_t106 hT _ _ _ _) (fun z v' hz => ?_))
        · obtain ⟨⟨x', y', e⟩, hz⟩ := hz
          exact Or.inl ⟨x', y', e, hz⟩
        · obtain ⟨⟨x', y', e⟩, hz⟩ := hz
          exact Or.inl ⟨x', y', e, hz⟩
      exact z_ite (fun _ => fin 1) (fun _ => fin 0)
  · unfold f_Judging_tryBreaks_B33
    exact z_pos (show (400 : Int32) < J 401 by decide) (k_sat_mk ⟨_, rfl, hp⟩)
  · obtain ⟨g1, l, g2⟩ := hv
    rw [show f_Wheels_setBreak 0 (u.2.1 6 0) v = some ((), k_wA v 6 0 (u.2.1 6 0)) from z_setBreak (w := 0) (by omega), z_bind_some]
    refine k_sat_mk (z_fr_less (c := 6) (g1.tr (z_wA rfl)) ?_ rfl)
    simp only [k_wA, if_true]
    rw [z_upd2 g2, z_up_self]
theorem z_when2 (a : Int32) (u : k_S) (h : zI u) : z_two (f_W_when a) (f_R_when a) u zI := by
  obtain ⟨E, hE, -, eS, -⟩ := z_env h
  obtain ⟨⟨t, ht, t1, t2⟩, -⟩ := h.2.2.1
  obtain ⟨nr, A, B, f, hnr, r1, r2, r3, r4, hf, hsu, hso⟩ := z_recs h.2.2.2.2.2.1
  have hE4 := hE.1.1
  have e1 := hE.1.2.1
  have e2 := hE.2.1.2.1
  refine z_two_of ?_
  by_cases ha : 0 ≤ a.toInt ∧ a.toInt ≤ 2
  · unfold f_W_when
    refine z_neg (by (try simp (disch := omega) only [Int32.lt_iff_toInt_lt, Int32.le_iff_toInt_le, ← Int32.toInt_inj, Int32.toInt_add, Int32.toInt_sub, Int32.toInt_mul, Int32.toInt_neg, z_bm, z_bm2, J_ti, J_toInt, z_cn, Int32.reduceToInt]) <;> omega) (z_pos (by (try simp (disch := omega) only [Int32.lt_iff_toInt_lt, Int32.le_iff_toInt_le, ← Int32.toInt_inj, Int32.toInt_add, Int32.toInt_sub, Int32.toInt_mul, Int32.toInt_neg, z_bm, z_bm2, J_ti, J_toInt, z_cn, Int32.reduceToInt]) <;> omega) ?_)
    by_cases h0 : E.1 = 0
    · refine z_pos (by rw [e1, h0]; rfl) (k_sat_mk ?_)
      unfold f_R_when
      rw [z_Rin1 (by (try simp (disch := omega) only [Int32.lt_iff_toInt_lt, Int32.le_iff_toInt_le, ← Int32.toInt_inj, Int32.toInt_add, Int32.toInt_sub, Int32.toInt_mul, Int32.toInt_neg, z_bm, z_bm2, J_ti, J_toInt, z_cn, Int32.reduceToInt]) <;> omega) (by (try simp (disch := omega) only [Int32.lt_iff_toInt_lt, Int32.le_iff_toInt_le, ← Int32.toInt_inj, Int32.toInt_add, Int32.toInt_sub, Int32.toInt_mul, Int32.toInt_neg, z_bm, z_bm2, J_ti, J_toInt, z_cn, Int32.reduceToInt]) <;> omega), z_bind_some]
      exact z_neg (by decide) (z_pos (by rw [e2, h0]; rfl) (k_sat_mk h))
    · refine z_neg (by rw [e1]; (try simp (disch := omega) only [Int32.lt_iff_toInt_lt, Int32.le_iff_toInt_le, ← Int32.toInt_inj, Int32.toInt_add, Int32.toInt_sub, Int32.toInt_mul, Int32.toInt_neg, z_bm, z_bm2, J_ti, J_toInt, z_cn, Int32.reduceToInt]) <;> omega) (z_bind _ (z_tryB (f := f) ⟨hE.1, hE.2.2.1, hE.2.2.2.2⟩ (by omega) ht t1 hnr r1 r3 hf hsu hso) (fun _ v hv => ?_))
      have i2 : zI v := zI_0 h (hv.mono rfl rfl)
      have hE2 : z_en E v := z_en_f hv (by decide) (by decide) (by decide) hE
      have hR : k_sat (f_R_when a v) (fun _ v' => zI v') := by
        unfold f_R_when
        rw [z_Rin1 (by (try simp (disch := omega) only [Int32.lt_iff_toInt_lt, Int32.le_iff_toInt_le, ← Int32.toInt_inj, Int32.toInt_add, Int32.toInt_sub, Int32.toInt_mul, Int32.toInt_neg, z_bm, z_bm2, J_ti, J_toInt, z_cn, Int32.reduceToInt]) <;> omega) (by (try simp (disch := omega) only [Int32.lt_iff_toInt_lt, Int32.le_iff_toInt_le, ← Int32.toInt_inj, Int32.toInt_add, Int32.toInt_sub, Int32.toInt_mul, Int32.toInt_neg, z_bm, z_bm2, J_ti, J_toInt, z_cn, Int32.reduceToInt]) <;> omega), z_bind_some]
        refine z_neg (by decide) (z_neg (by rw [hv.1 4203 rfl, e2]; (try simp (disch := omega) only [Int32.lt_iff_toInt_lt, Int32.le_iff_toInt_le, ← Int32.toInt_inj, Int32.toInt_add, Int32.toInt_sub, Int32.toInt_mul, Int32.toInt_neg, z_bm, z_bm2, J_ti, J_toInt, z_cn, Int32.reduceToInt]) <;> omega) (z_ck (by decide) (by decide) (z_let ?_)))
        refine z_bind (fun _ w => z_fr [4230] [48, 54, 55, 60, 61, 62] v w ∧ ∃ l, w.2.1 48 = upd (v.2.1 48) 0 l) (z_itr (P := fun m x w => ∃ i : Nat, i ≤ 401 ∧ x.2.2.2 = J i ∧ m = 401 - i ∧ z_fr [4230] [48, 54, 55, 60, 61, 62] v w ∧ ∃ l, w.2.1 48 = upd (v.2.1 48) 0 l) (fun m x w hw => ?_) k_FU 401 (-2, -2, 0, 0) v (by unfold k_FU; omega) ⟨0, by omega, rfl, rfl, z_fr.rf, v.2.1 48 0, by rw [z_up_self]⟩) (fun y w hw => ?_)
        · obtain ⟨x1, x2, x3, x4⟩ := x
          obtain ⟨i, hi, ei, rfl, g1, l, g2⟩ := hw
          dsimp only at ei
          subst ei
          unfold f_R_when_B41
          dsimp only
          by_cases hi2 : i = 401
          · subst hi2
            exact z_pos (by decide) (k_sat_mk (Or.inr ⟨_, rfl, g1, l, g2⟩))
          · refine z_neg (by (try simp (disch := omega) only [Int32.lt_iff_toInt_lt, Int32.le_iff_toInt_le, ← Int32.toInt_inj, Int32.toInt_add, Int32.toInt_sub, Int32.toInt_mul, Int32.toInt_neg, z_bm, z_bm2, J_ti, J_toInt, z_cn, Int32.reduceToInt]) <;> omega) (z_ck (by decide) (by decide) (z_let ?_))
            rw [show (0 : Int32).toNatClampNeg = 0 from rfl]
            have k4 : z_fr [4230] [48, 54, 55, 60, 61, 62] v (k_wA w 48 0 (J i)) := g1.tr (z_wA rfl)
            have h48 : (k_wA w 48 0 (J i)).2.1 48 = upd (v.2.1 48) 0 (J i) := by
              simp only [k_wA, if_true]
              exact z_upd2 g2
            have mR : z_moR (k_wA w 48 0 (J i)) = z_moR v := by unfold z_moR; rw [k4.1 4209 rfl, k4.2.1 46 rfl, k4.2.1 47 rfl]
            have hE' : z_ER (z_Eb E (J i)) (k_wA w 48 0 (J i)) := z_ER_b hE2.2.1 [4230] (k4.mono rfl rfl) (by decide) h48
            refine z_bind _ (z_firstR hE' (by rw [mR]; exact z_ok_b hE2.2.2.2.1) (show 0 < E.1 by omega) ht ((k4.1 4209 rfl).trans ((hv.1 4209 rfl).trans t2)) hnr ((k4.1 4235 rfl).trans ((hv.1 4235 rfl).trans r2)) (z_RC_f k4 rfl rfl (z_RC_f hv rfl rfl r4))) (fun r w2 hw2 => ?_)
            have k5 : z_fr [4230] [48, 54, 55, 60, 61, 62] v w2 := k4.tr (hw2.1.mono rfl rfl)
            have k6 : w2.2.1 48 = upd (v.2.1 48) 0 (J i) := (hw2.1.2.1 48 rfl).trans h48
            exact z_ite (fun _ => z_ite (fun _ => k_sat_mk (Or.inl ⟨_, 401 - (i + 1), rfl, by omega, i + 1, by omega, z_J1 i, rfl, k5, _, k6⟩)) (fun _ => k_sat_mk (Or.inl ⟨_, 401 - (i + 1), rfl, by omega, i + 1, by omega, z_J1 i, rfl, k5, _, k6⟩))) (fun _ => k_sat_mk (Or.inl ⟨_, 401 - (i + 1), rfl, by omega, i + 1, by omega, z_J1 i, rfl, k5, _, k6⟩))
        · obtain ⟨g1, l, g2⟩ := hw
          refine z_ck (by decide) (by decide) (z_let ?_)
          rw [show (0 : Int32).toNatClampNeg = 0 from rfl]
          have k5 : z_fr [4230] [54, 55, 60, 61, 62] v (k_wA w 48 0 (v.2.1 48 0)) := by
            refine z_fr_less (c := 48) (g1.tr (z_wA rfl)) ?_ rfl
            simp only [k_wA, if_true]
            rw [z_upd2 g2, z_up_self]
          have i3 := zI_0 i2 (k5.mono rfl rfl)
          repeat' first
            | exact k_sat_mk i3
            | refine z_ite (fun _ => ?_) (fun _ => ?_)
      exact z_ite (fun _ => k_sat_mk hR) (fun _ => z_ite (fun _ => k_sat_mk hR) (fun _ => k_sat_mk hR))
  · have hR : k_sat (f_R_when a u) (fun _ v' => zI v') := by
      unfold f_R_when
      rw [z_Rin0 (by ((try simp (disch := omega) only [Int32.lt_iff_toInt_lt, Int32.le_iff_toInt_le, ← Int32.toInt_inj, Int32.toInt_add, Int32.toInt_sub, Int32.toInt_mul, Int32.toInt_neg, z_bm, z_bm2, J_ti, J_toInt, z_cn, Int32.reduceToInt] at *); omega)), z_bind_some]
      exact z_pos rfl (k_sat_mk h)
    unfold f_W_when
    exact z_ite (fun _ => k_sat_mk hR) (fun q => z_neg (by ((try simp (disch := omega) only [Int32.lt_iff_toInt_lt, Int32.le_iff_toInt_le, ← Int32.toInt_inj, Int32.toInt_add, Int32.toInt_sub, Int32.toInt_mul, Int32.toInt_neg, z_bm, z_bm2, J_ti, J_toInt, z_cn, Int32.reduceToInt] at *); omega)) (k_sat_mk hR))
