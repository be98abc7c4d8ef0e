/-! watch: the letters' places, the search -/
def z_hh (E : z_E) (u : k_S) (p j i : Nat) : Int32 := z_pl (z_Ex E p (k_t101 j)) u 0 (i + 1)
theorem z_hh_m {E : z_E} {u v : k_S} (h : z_moR v = z_moR u) {p : Nat} : z_hh E v p = z_hh E u p := by
  funext j i
  unfold z_hh
  rw [z_pl_m h]
theorem z_fr_wA {F A : List Nat} {u v : k_S} {k n : Nat} {x : Int32} (h : z_fr F A u v) (hk : A.elem k = false) : z_fr F A (k_wA u k n x) (k_wA v k n x) := by
  refine ⟨h.1, fun c hc => ?_, h.2.2⟩
  simp only [k_wA]
  by_cases e : c = k
  · rw [if_pos e, if_pos e, h.2.1 k hk]
  · rw [if_neg e, if_neg e]; exact h.2.1 c hc
theorem z_Wt_wA {E : z_E} {K i n : Nat} {x : Int32} {u v : k_S} (h : z_Wt E K u i v) : z_Wt E K (k_wA u 25 n x) i (k_wA v 25 n x) := ⟨z_fr_wA h.1 rfl, h.2.1, h.2.2⟩
theorem z_Rt_wA {E : z_E} {i n : Nat} {x : Int32} {u v : k_S} (h : z_Rt E u i v) : z_Rt E (k_wA u 67 n x) i (k_wA v 67 n x) := ⟨z_fr_wA h.1 rfl, h.2.1, h.2.2.1, h.2.2.2⟩
theorem z_letW {E : z_E} {u : k_S} {p : Nat} (hE : z_eW E u) (h0 : 0 < E.1) (hp : p < 40) : k_sat (f_Judging_watchLetters (J p) u) (fun _ v => z_fr [1702, 1206, 704] [25, 18, 19, 9, 13] u v ∧ ∀ j i, j < 4 → i < 10 → v.2.1 25 (10 * j + i) = z_hh E u p j i) := by
  unfold f_Judging_watchLetters
  rw [z_letA0 hp, z_bind_some]
  refine z_bind _ (z_for 0 4 (fun j v => z_fr [1702, 1206, 704] [4, 25, 18, 19, 9, 13] u v ∧ (∃ l, v.2.1 4 = upd (u.2.1 4) p l) ∧ ∀ j' i, j' < j → i < 10 → v.2.1 25 (10 * j' + i) = z_hh E u p j' i) (K := fun _ v => z_fr [1702, 1206, 704] [4, 25, 18, 19, 9, 13] u v ∧ (∃ l, v.2.1 4 = upd (u.2.1 4) p l) ∧ ∀ j' i, j' < 4 → i < 10 → v.2.1 25 (10 * j' + i) = z_hh E u p j' i) (by omega) (by omega) ⟨z_fr.rf, ⟨u.2.1 4 p, by rw [z_up_self]⟩, fun j' i h => by omega⟩ (fun j w _ hj hw => ?_) (fun v hv => ?_)) (fun _ v hv => ?_)
  · obtain ⟨k2, ⟨l, k3⟩, k1⟩ := hw
    unfold f_Judging_watchLetters_B12
    refine z_neg (by (try simp (disch := omega) only [Int32.lt_iff_toInt_lt, Int32.le_iff_toInt_le, ← Int32.toInt_inj, Int32.toInt_add, Int32.toInt_sub, Int32.toInt_mul, Int32.toInt_neg, z_bm, z_bm2, J_ti, J_toInt, z_cn, Int32.reduceToInt]) <;> omega) (z_ck (by (try simp (disch := omega) only [Int32.lt_iff_toInt_lt, Int32.le_iff_toInt_le, ← Int32.toInt_inj, Int32.toInt_add, Int32.toInt_sub, Int32.toInt_mul, Int32.toInt_neg, z_bm, z_bm2, J_ti, J_toInt, z_cn, Int32.reduceToInt]) <;> omega) (by (try simp (disch := omega) only [Int32.lt_iff_toInt_lt, Int32.le_iff_toInt_le, ← Int32.toInt_inj, Int32.toInt_add, Int32.toInt_sub, Int32.toInt_mul, Int32.toInt_neg, z_bm, z_bm2, J_ti, J_toInt, z_cn, Int32.reduceToInt]) <;> omega) ?_)
    rw [J_toNat (show j < 2147483648 by omega), z_setL0 hp, z_bind_some]
    have h4 : (k_wA w 4 p (k_t101 j)).2.1 4 = upd (u.2.1 4) p (k_t101 j) := by
      simp only [k_wA, if_true]
      exact z_upd2 k3
    have k4 : z_fr [1702, 1206, 704] [4, 25, 18, 19, 9, 13] u (k_wA w 4 p (k_t101 j)) := k2.tr (z_wA rfl)
    have k25 : ∀ j' i, j' < j → i < 10 → (k_wA w 4 p (k_t101 j)).2.1 25 (10 * j' + i) = z_hh E u p j' i := k1
    generalize hw1 : k_wA w 4 p (k_t101 j) = w1 at *
    have mN : z_moNow w1 = z_moNow u := by unfold z_moNow; rw [k4.1 1402 rfl, k4.2.1 15 rfl, k4.2.1 16 rfl]
    have mR : z_moR w1 = z_moR u := by unfold z_moR; rw [k4.1 4209 rfl, k4.2.1 46 rfl, k4.2.1 47 rfl]
    have hE' : z_eW (z_Ex E p (k_t101 j)) w1 := ⟨z_EW_x hE.1 (k4.1 303 rfl) (k4.1 703 rfl) (k4.1 705 rfl) h4 (k4.2.1 5 rfl) (k4.2.1 6 rfl) (k4.2.1 8 rfl), by rw [mN]; exact z_ok_x hE.2.1, by rw [mN, mR]; exact hE.2.2⟩
    refine z_bind _ (z_Wt_w hE') (fun _ w2 h2 => z_bind _ (z_for 0 10 (fun i v => ∃ b, z_Wt (z_Ex E p (k_t101 j)) 1 b i v ∧ z_fr [] [25] w1 b ∧ (∀ j' i', j' < j → i' < 10 → b.2.1 25 (10 * j' + i') = z_hh E u p j' i') ∧ ∀ i', i' < i → b.2.1 25 (10 * j + i') = z_hh E u p j i') (K := fun _ v => ∃ b, z_Wt (z_Ex E p (k_t101 j)) 1 b 10 v ∧ z_fr [] [25] w1 b ∧ (∀ j' i', j' < j → i' < 10 → b.2.1 25 (10 * j' + i') = z_hh E u p j' i') ∧ ∀ i', i' < 10 → b.2.1 25 (10 * j + i') = z_hh E u p j i') (by omega) (by omega) ⟨w1, h2.le (show 1 ≤ E.1 by omega), z_fr.rf, k25, fun i' h => by omega⟩ (fun i v _ hi hv => ?_) (fun v hv => ?_)) (fun _ v hv => ?_))
    · obtain ⟨b, g1, g2, g3, g4⟩ := hv
      have mb : z_moR b = z_moR u := by rw [← mR]; unfold z_moR; rw [g2.1 4209 rfl, g2.2.1 46 rfl, g2.2.1 47 rfl]
      unfold f_Judging_watchLetters_B44
      refine z_neg (by (try simp (disch := omega) only [Int32.lt_iff_toInt_lt, Int32.le_iff_toInt_le, ← Int32.toInt_inj, Int32.toInt_add, Int32.toInt_sub, Int32.toInt_mul, Int32.toInt_neg, z_bm, z_bm2, J_ti, J_toInt, z_cn, Int32.reduceToInt]) <;> omega) (z_bind _ (z_Wt_s (K := 1) (z_EW_f g2 (by decide) hE'.1) (by omega) g1) (fun _ v1 hv1 => z_let ?_))
      rw [z_ten, show f_Thought_placeOf 0 v1 = some (z_pl (z_Ex E p (k_t101 j)) b 0 (i + 1), v1) from z_Wt_p hv1 (w := 0) (by omega) (by omega), z_bind_some, z_pl_m mb]
      refine z_neg (by (try simp (disch := omega) only [Int32.lt_iff_toInt_lt, Int32.le_iff_toInt_le, ← Int32.toInt_inj, Int32.toInt_add, Int32.toInt_sub, Int32.toInt_mul, Int32.toInt_neg, z_bm, z_bm2, J_ti, J_toInt, z_cn, Int32.reduceToInt]) <;> omega) (z_ck (by (try simp (disch := omega) only [Int32.lt_iff_toInt_lt, Int32.le_iff_toInt_le, ← Int32.toInt_inj, Int32.toInt_add, Int32.toInt_sub, Int32.toInt_mul, Int32.toInt_neg, z_bm, z_bm2, J_ti, J_toInt, z_cn, Int32.reduceToInt]) <;> omega) (by (try simp (disch := omega) only [Int32.lt_iff_toInt_lt, Int32.le_iff_toInt_le, ← Int32.toInt_inj, Int32.toInt_add, Int32.toInt_sub, Int32.toInt_mul, Int32.toInt_neg, z_bm, z_bm2, J_ti, J_toInt, z_cn, Int32.reduceToInt]) <;> omega) (z_let (k_sat_mk (Or.inl ⟨rfl, _, z_Wt_wA hv1, g2.tr (z_wA rfl), fun j' i' hj' hi' => ?_, fun i' hi' => ?_⟩))))
      · simp only [k_wA, if_true, z_up, J_toNat (show 10 * j + i < 2147483648 by omega)]
        rw [if_neg (by omega)]
        exact g3 j' i' hj' hi'
      · simp only [k_wA, if_true, z_up, J_toNat (show 10 * j + i < 2147483648 by omega)]
        by_cases e : i' = i
        · rw [if_pos (by rw [e]), e]; rfl
        · rw [if_neg (by omega)]; exact g4 i' (by omega)
    · unfold f_Judging_watchLetters_B44
      exact z_pos (Int32.le_refl _) (k_sat_mk ⟨_, rfl, hv⟩)
    · obtain ⟨b, g1, g2, g3, g4⟩ := hv
      have k5 : z_fr [1702, 1206, 704] [4, 25, 18, 19, 9, 13] u v := (k4.tr (g2.mono rfl rfl)).tr (g1.1.mono rfl rfl)
      have e25 : v.2.1 25 = b.2.1 25 := g1.1.2.1 25 rfl
      refine k_sat_mk (Or.inl ⟨rfl, k5, ⟨k_t101 j, ?_⟩, fun j' i hj' hi => ?_⟩)
      · rw [g1.1.2.1 4 rfl, g2.2.1 4 rfl, h4]
      · rw [e25]
        by_cases e : j' = j
        · rw [e]; exact g4 i hi
        · exact g3 j' i (by omega) hi
  · unfold f_Judging_watchLetters_B12
    exact z_pos (Int32.le_refl _) (k_sat_mk ⟨_, rfl, hv⟩)
  · obtain ⟨k2, ⟨l, k3⟩, k1⟩ := hv
    rw [z_setL0 hp, z_bind_some]
    refine k_sat_mk ⟨z_fr_less (c := 4) (k2.tr (z_wA rfl)) ?_ rfl, k1⟩
    simp only [k_wA, if_true]
    rw [z_upd2 k3, z_up_self]
theorem z_ER_x2 {E : z_E} {u v : k_S} {p s : Nat} {x : Int32} (h : z_ER E u) (es : E.2.2.1 0 = J s) (hs : s ≤ 40) (hp : p < s) (hf : z_fr [4230] [44, 67, 54, 55, 60, 61, 62] u v) (h44 : v.2.1 44 = upd (u.2.1 44) p x) : z_ER (z_Ex E p x) v := by
  refine ⟨h.1, (hf.1 4203 rfl).trans h.2.1, fun w hw => ?_, fun w w1 w2 w3 w4 w5 w6 w7 => h.2.2.2 w (w1.trans (hf.1 4223 rfl)) (w2.trans (hf.1 4211 rfl)) (w3.trans (hf.2.1 49 rfl)) (w4.trans (hf.2.1 50 rfl)) (w5.trans (hf.2.1 51 rfl)) (w6.trans (hf.2.1 52 rfl)) (w7.trans (hf.2.1 53 rfl))⟩
  obtain ⟨b1, b2, b3⟩ := h.2.2.1 w hw
  refine ⟨by rw [hf.2.1 45 rfl]; exact b1, by rw [hf.2.1 48 rfl]; exact b2, fun q s' e1 e2 e3 => ?_⟩
  rw [h44]
  show upd _ _ _ _ = upd _ _ _ _
  rw [z_up, z_up, b3 q s' e1 e2 e3]
theorem z_letR {E : z_E} {u : k_S} {p s : Nat} {m t7 : Int32} (hE : z_ER E u) (hok : z_ok E (z_moR u)) (es : E.2.2.1 0 = J s) (hs : s ≤ 40) (hp : p < s) (hK : zK u) : k_sat (k_itr (fun (x : (Int32)) u => f_R_watch_B51 (J p) m t7 x u) k_FU 0 u) (fun _ v => z_fr [4230] [44, 67, 54, 55, 60, 61, 62] u v ∧ (∃ l, v.2.1 44 = upd (u.2.1 44) p l) ∧ ∀ j i, j < 4 → i < 10 → v.2.1 67 (11 * j + (i + 1)) = z_hh E u p j i) := by
  refine z_for 0 4 (fun j v => z_fr [4230] [44, 67, 54, 55, 60, 61, 62] u v ∧ (∃ l, v.2.1 44 = upd (u.2.1 44) p l) ∧ ∀ j' i, j' < j → i < 10 → v.2.1 67 (11 * j' + (i + 1)) = z_hh E u p j' i) (K := fun _ v => z_fr [4230] [44, 67, 54, 55, 60, 61, 62] u v ∧ (∃ l, v.2.1 44 = upd (u.2.1 44) p l) ∧ ∀ j' i, j' < 4 → i < 10 → v.2.1 67 (11 * j' + (i + 1)) = z_hh E u p j' i) (by omega) (by omega) ⟨z_fr.rf, ⟨u.2.1 44 p, by rw [z_up_self]⟩, fun j' i h => by omega⟩ (fun j w _ hj hw => ?_) (fun v hv => ?_)
  · obtain ⟨k2, ⟨l, k3⟩, k1⟩ := hw
    unfold f_R_watch_B51
    have e66 : w.2.1 66 j = k_t101 j := (congrFun (k2.2.1 66 rfl) j).trans (k_t101_K hK hj)
    rw [J_toNat (show j < 2147483648 by omega), J_toNat (show p < 2147483648 by omega), e66]
    refine z_neg (by (try simp (disch := omega) only [Int32.lt_iff_toInt_lt, Int32.le_iff_toInt_le, ← Int32.toInt_inj, Int32.toInt_add, Int32.toInt_sub, Int32.toInt_mul, Int32.toInt_neg, z_bm, z_bm2, J_ti, J_toInt, z_cn, Int32.reduceToInt]) <;> omega) (z_ck (by (try simp (disch := omega) only [Int32.lt_iff_toInt_lt, Int32.le_iff_toInt_le, ← Int32.toInt_inj, Int32.toInt_add, Int32.toInt_sub, Int32.toInt_mul, Int32.toInt_neg, z_bm, z_bm2, J_ti, J_toInt, z_cn, Int32.reduceToInt]) <;> omega) (by (try simp (disch := omega) only [Int32.lt_iff_toInt_lt, Int32.le_iff_toInt_le, ← Int32.toInt_inj, Int32.toInt_add, Int32.toInt_sub, Int32.toInt_mul, Int32.toInt_neg, z_bm, z_bm2, J_ti, J_toInt, z_cn, Int32.reduceToInt]) <;> omega) (z_ck (by (try simp (disch := omega) only [Int32.lt_iff_toInt_lt, Int32.le_iff_toInt_le, ← Int32.toInt_inj, Int32.toInt_add, Int32.toInt_sub, Int32.toInt_mul, Int32.toInt_neg, z_bm, z_bm2, J_ti, J_toInt, z_cn, Int32.reduceToInt]) <;> omega) (by (try simp (disch := omega) only [Int32.lt_iff_toInt_lt, Int32.le_iff_toInt_le, ← Int32.toInt_inj, Int32.toInt_add, Int32.toInt_sub, Int32.toInt_mul, Int32.toInt_neg, z_bm, z_bm2, J_ti, J_toInt, z_cn, Int32.reduceToInt]) <;> omega) (z_let ?_)))
    have h44 : (k_wA w 44 p (k_t101 j)).2.1 44 = upd (u.2.1 44) p (k_t101 j) := by
      simp only [k_wA, if_true]
      exact z_upd2 k3
    have k4 : z_fr [4230] [44, 67, 54, 55, 60, 61, 62] u (k_wA w 44 p (k_t101 j)) := k2.tr (z_wA rfl)
    have k67 : ∀ j' i, j' < j → i < 10 → (k_wA w 44 p (k_t101 j)).2.1 67 (11 * j' + (i + 1)) = z_hh E u p j' i := k1
    generalize hw1 : k_wA w 44 p (k_t101 j) = w1 at *
    have mR : z_moR w1 = z_moR u := by unfold z_moR; rw [k4.1 4209 rfl, k4.2.1 46 rfl, k4.2.1 47 rfl]
    have hE' : z_ER (z_Ex E p (k_t101 j)) w1 := z_ER_x2 hE es hs hp k4 h44
    have hok' : z_ok (z_Ex E p (k_t101 j)) (z_moR w1) := by rw [mR]; exact z_ok_x hok
    refine z_bind _ (z_Rt_0 (z_Ex E p (k_t101 j)) w1) (fun _ w2 h2 => z_bind _ (z_for 1 11 (fun k v => ∃ b, z_Rt (z_Ex E p (k_t101 j)) b (k - 1) v ∧ z_fr [] [67] w1 b ∧ (∀ j' i', j' < j → i' < 10 → b.2.1 67 (11 * j' + (i' + 1)) = z_hh E u p j' i') ∧ ∀ i', i' + 1 < k → b.2.1 67 (11 * j + (i' + 1)) = z_hh E u p j i') (K := fun _ v => ∃ b i, z_Rt (z_Ex E p (k_t101 j)) b i v ∧ z_fr [] [67] w1 b ∧ (∀ j' i', j' < j → i' < 10 → b.2.1 67 (11 * j' + (i' + 1)) = z_hh E u p j' i') ∧ ∀ i', i' < 10 → b.2.1 67 (11 * j + (i' + 1)) = z_hh E u p j i') (by omega) (by omega) ⟨w1, h2, z_fr.rf, k67, fun i' h => by omega⟩ (fun k v hk0 hk hv => ?_) (fun v hv => ?_)) (fun _ v hv => ?_))
    · obtain ⟨b, g1, g2, g3, g4⟩ := hv
      obtain ⟨i, rfl⟩ : ∃ i, k = i + 1 := ⟨k - 1, by omega⟩
      have mb' : z_moR b = z_moR w1 := by unfold z_moR; rw [g2.1 4209 rfl, g2.2.1 46 rfl, g2.2.1 47 rfl]
      unfold f_R_watch_B77
      refine z_neg (by (try simp (disch := omega) only [Int32.lt_iff_toInt_lt, Int32.le_iff_toInt_le, ← Int32.toInt_inj, Int32.toInt_add, Int32.toInt_sub, Int32.toInt_mul, Int32.toInt_neg, z_bm, z_bm2, J_ti, J_toInt, z_cn, Int32.reduceToInt]) <;> omega) (z_bind _ (z_Rt_s (z_ER_f g2 (by decide) hE') (by rw [mb']; exact hok') g1) (fun _ v1 hv1 => ?_))
      rw [z_elev, J_toNat (show 11 * j + (i + 1) < 2147483648 by omega), show (0 : Int32).toNatClampNeg = 0 from rfl, (z_Rt_p hv1 0).1, z_pl_m (mb'.trans mR)]
      refine z_ck (by decide) (by decide) (z_ck (by (try simp (disch := omega) only [Int32.lt_iff_toInt_lt, Int32.le_iff_toInt_le, ← Int32.toInt_inj, Int32.toInt_add, Int32.toInt_sub, Int32.toInt_mul, Int32.toInt_neg, z_bm, z_bm2, J_ti, J_toInt, z_cn, Int32.reduceToInt]) <;> omega) (by (try simp (disch := omega) only [Int32.lt_iff_toInt_lt, Int32.le_iff_toInt_le, ← Int32.toInt_inj, Int32.toInt_add, Int32.toInt_sub, Int32.toInt_mul, Int32.toInt_neg, z_bm, z_bm2, J_ti, J_toInt, z_cn, Int32.reduceToInt]) <;> omega) (z_let (k_sat_mk (Or.inl ⟨rfl, _, z_Rt_wA hv1, g2.tr (z_wA rfl), fun j' i' hj' hi' => ?_, fun i' hi' => ?_⟩))))
      · simp only [k_wA, if_true, z_up]
        rw [if_neg (by omega)]
        exact g3 j' i' hj' hi'
      · simp only [k_wA, if_true, z_up]
        by_cases e : i' = i
        · rw [if_pos (by rw [e]), e]; rfl
        · rw [if_neg (by omega)]; exact g4 i' (by omega)
    · obtain ⟨b, g1, g2, g3, g4⟩ := hv
      unfold f_R_watch_B77
      exact z_pos (by decide) (k_sat_mk ⟨_, rfl, b, _, g1, g2, g3, fun i' h => g4 i' (by omega)⟩)
    · obtain ⟨b, i0, g1, g2, g3, g4⟩ := hv
      refine z_bind _ (z_Rt_b (E := z_Ex E p (k_t101 j)) hE.1 g1) (fun _ v' hv' => ?_)
      have k5 : z_fr [4230] [44, 67, 54, 55, 60, 61, 62] u v' := (k4.tr (g2.mono rfl rfl)).tr (hv'.mono rfl rfl)
      have e67 : v'.2.1 67 = b.2.1 67 := hv'.2.1 67 rfl
      refine k_sat_mk (Or.inl ⟨rfl, k5, ⟨k_t101 j, ?_⟩, fun j' i hj' hi => ?_⟩)
      · rw [hv'.2.1 44 rfl, g2.2.1 44 rfl, h44]
      · rw [e67]
        by_cases e : j' = j
        · rw [e]; exact g4 i hi
        · exact g3 j' i (by omega) hi
  · unfold f_R_watch_B51
    exact z_pos (Int32.le_refl _) (k_sat_mk ⟨_, rfl, hv⟩)
