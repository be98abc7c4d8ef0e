/-! near: the folds over teeth and letters -/
theorem z_setL0 {p : Nat} {x : Int32} {u : k_S} (h : p < 40) : f_Wheels_setLetter 0 (J p) x u = some ((), k_wA u 4 p x) := by
  have := z_setLetter (w := 0) (x := x) (u := u) (by omega) h
  rw [show 40 * 0 + p = p by omega] at this
  exact this
theorem z_letA0 {p : Nat} {u : k_S} (h : p < 40) : f_Wheels_letterAt 0 (J p) u = some (u.2.1 4 p, u) := by
  have := z_letterAt (w := 0) (u := u) (by omega) h
  rw [show 40 * 0 + p = p by omega] at this
  exact this
/-- another letter at a place of wheel 0 -/
def z_Ex (E : z_E) (p : Nat) (x : Int32) : z_E := (E.1, upd E.2.1 p x, E.2.2)
theorem z_EW_x {E : z_E} {u v : k_S} {p : Nat} {x : Int32} (h : z_EW E u) (h303 : v.1 303 = u.1 303) (h703 : v.1 703 = u.1 703) (h705 : v.1 705 = u.1 705) (h4 : v.2.1 4 = upd (u.2.1 4) p x) (h5 : v.2.1 5 = u.2.1 5) (h6 : v.2.1 6 = u.2.1 6) (h8 : v.2.1 8 = u.2.1 8) : z_EW (z_Ex E p x) v :=
  ⟨h.1, h303.trans h.2.1, by rw [h4, h.2.2.1]; rfl, by rw [h5, h.2.2.2.1]; rfl, by rw [h6, h.2.2.2.2.1]; rfl, fun w w1 w2 w3 => h.2.2.2.2.2 w (w1.trans h703) (w2.trans h8) (w3.trans h705)⟩
theorem z_ER_x {E : z_E} {u v : k_S} {p s : Nat} {x : Int32} (h : z_ER E u) (es : E.2.2.1 0 = J s) (hs : s ≤ 40) (hp : p < s) (F : List Nat) (hf : z_fr F [54, 55, 60, 61, 62, 44] u v) (hd : F.elem 4203 = false ∧ F.elem 4223 = false ∧ F.elem 4211 = false) (h44 : v.2.1 44 = upd (u.2.1 44) p x) : z_ER (z_Ex E p x) v := by
  refine ⟨h.1, (hf.1 4203 hd.1).trans h.2.1, fun w hw => ?_, fun w w1 w2 w3 w4 w5 w6 w7 => h.2.2.2 w (w1.trans (hf.1 4223 hd.2.1)) (w2.trans (hf.1 4211 hd.2.2)) (w3.trans (hf.2.1 49 rfl)) (w4.trans (hf.2.1 50 rfl)) (w5.trans (hf.2.1 51 rfl)) (w6.trans (hf.2.1 52 rfl)) (w7.trans (hf.2.1 53 rfl))⟩
  obtain ⟨b1, b2, b3⟩ := h.2.2.1 w hw
  refine ⟨by rw [hf.2.1 45 rfl]; exact b1, by rw [hf.2.1 48 rfl]; exact b2, fun q s' e1 e2 e3 => ?_⟩
  rw [h44]
  show upd _ _ _ _ = upd _ _ _ _
  rw [z_up, z_up, b3 q s' e1 e2 e3]
theorem z_ok_x {E : z_E} {p : Nat} {x : Int32} {m : z_Mo} (h : z_ok E m) : z_ok (z_Ex E p x) m := h
def z_wc (E : z_E) (u : k_S) (k s n p : Nat) (x : Int32) : Nat := z_co (z_wr (z_Ex E p x) u k s) n
/-- one letter tried, by the class, by the reference -/
def z_sW (E : z_E) (u : k_S) (k s n p j : Nat) (x : Int32 × Int32) : Int32 × Int32 := if k_t100 j = E.2.1 p then x else if x.2 ≤ J (z_wc E u k s n p (k_t100 j)) then x else (1000 * J p + k_t100 j, J (z_wc E u k s n p (k_t100 j)))
def z_sR (E : z_E) (u : k_S) (k s n p j : Nat) (x : Int32 × Int32) : Int32 × Int32 := if k_t100 j = E.2.1 p then x else if x.1 < 0 then (1000 * J p + k_t100 j, J (z_wc E u k s n p (k_t100 j))) else if J (z_wc E u k s n p (k_t100 j)) < x.2 then (1000 * J p + k_t100 j, J (z_wc E u k s n p (k_t100 j))) else x
def z_f3 (st : Nat → Int32 × Int32 → Int32 × Int32) : Nat → Int32 × Int32 → Int32 × Int32
  | 0, x => x
  | j + 1, x => st j (z_f3 st j x)
def z_fo (st : Nat → Nat → Int32 × Int32 → Int32 × Int32) : Nat → Int32 × Int32 → Int32 × Int32
  | 0, x => x
  | p + 1, x => z_f3 (st p) 3 (z_fo st p x)
/-- both have found none yet, or the same -/
def z_rp (n : Nat) (x y : Int32 × Int32) : Prop := (x = (-2, J n + 1) ∧ y.1 < 0) ∨ (x = y ∧ ¬ y.1 < 0 ∧ ∃ m, m ≤ n ∧ x.2 = J m)
theorem k_t100_c (j : Nat) (hj : j < 3) : (j = 0 ∧ k_t100 j = 119) ∨ (j = 1 ∧ k_t100 j = 115) ∨ (j = 2 ∧ k_t100 j = 49) := by
  rcases (show j = 0 ∨ j = 1 ∨ j = 2 by omega) with rfl | rfl | rfl
  · exact Or.inl ⟨rfl, rfl⟩
  · exact Or.inr (Or.inl ⟨rfl, rfl⟩)
  · exact Or.inr (Or.inr ⟨rfl, rfl⟩)
theorem z_cand (p j : Nat) (hp : p < 40) (hj : j < 3) : ¬ (1000 : Int32) * J p + k_t100 j < 0 := by
  rw [show (1000 : Int32) = J 1000 from rfl, J_mul]
  rcases k_t100_c j hj with ⟨-, e⟩ | ⟨-, e⟩ | ⟨-, e⟩ <;> rw [e]
  · rw [show (119 : Int32) = J 119 from rfl, J_add]; (try simp (disch := omega) only [Int32.lt_iff_toInt_lt, Int32.le_iff_toInt_le, ← Int32.toInt_inj, Int32.toInt_add, Int32.toInt_sub, Int32.toInt_mul, Int32.toInt_neg, z_bm, z_bm2, J_ti, J_toInt, z_cn, Int32.reduceToInt]) <;> omega
  · rw [show (115 : Int32) = J 115 from rfl, J_add]; (try simp (disch := omega) only [Int32.lt_iff_toInt_lt, Int32.le_iff_toInt_le, ← Int32.toInt_inj, Int32.toInt_add, Int32.toInt_sub, Int32.toInt_mul, Int32.toInt_neg, z_bm, z_bm2, J_ti, J_toInt, z_cn, Int32.reduceToInt]) <;> omega
  · rw [show (49 : Int32) = J 49 from rfl, J_add]; (try simp (disch := omega) only [Int32.lt_iff_toInt_lt, Int32.le_iff_toInt_le, ← Int32.toInt_inj, Int32.toInt_add, Int32.toInt_sub, Int32.toInt_mul, Int32.toInt_neg, z_bm, z_bm2, J_ti, J_toInt, z_cn, Int32.reduceToInt]) <;> omega
theorem z_rp_s {E : z_E} {u : k_S} {k s n p j : Nat} {x y : Int32 × Int32} (hn : n ≤ 400) (hp : p < 40) (hj : j < 3) (h : z_rp n x y) : z_rp n (z_sW E u k s n p j x) (z_sR E u k s n p j y) ∧ (¬ k_t100 j = E.2.1 p → ¬ (z_sR E u k s n p j y).1 < 0) ∧ (¬ y.1 < 0 → ¬ (z_sR E u k s n p j y).1 < 0) := by
  have hc := z_cand p j hp hj
  have hw : z_wc E u k s n p (k_t100 j) ≤ n := z_co_le _ n
  unfold z_sW z_sR
  by_cases e : k_t100 j = E.2.1 p
  · rw [if_pos e, if_pos e]; exact ⟨h, fun q => absurd e q, fun q => q⟩
  · rw [if_neg e, if_neg e]
    rcases h with ⟨h1, h2⟩ | ⟨rfl, h2, m, h3, h4⟩
    · rw [if_pos h2, h1]
      have : ¬ (J n + 1) ≤ J (z_wc E u k s n p (k_t100 j)) := by rw [z_Jp]; (try simp (disch := omega) only [Int32.lt_iff_toInt_lt, Int32.le_iff_toInt_le, ← Int32.toInt_inj, Int32.toInt_add, Int32.toInt_sub, Int32.toInt_mul, Int32.toInt_neg, z_bm, z_bm2, J_ti, J_toInt, z_cn, Int32.reduceToInt]) <;> omega
      rw [if_neg (show ¬ ((-2, J n + 1) : Int32 × Int32).2 ≤ J (z_wc E u k s n p (k_t100 j)) from this)]
      exact ⟨Or.inr ⟨rfl, hc, _, hw, rfl⟩, fun _ => hc, fun _ => hc⟩
    · rw [if_neg h2]
      by_cases q : x.2 ≤ J (z_wc E u k s n p (k_t100 j))
      · rw [if_pos q, if_neg (by ((try simp (disch := omega) only [Int32.lt_iff_toInt_lt, Int32.le_iff_toInt_le, ← Int32.toInt_inj, Int32.toInt_add, Int32.toInt_sub, Int32.toInt_mul, Int32.toInt_neg, z_bm, z_bm2, J_ti, J_toInt, z_cn, Int32.reduceToInt] at *); omega))]
        exact ⟨Or.inr ⟨rfl, h2, m, h3, h4⟩, fun _ => h2, fun _ => h2⟩
      · rw [if_neg q, if_pos (by ((try simp (disch := omega) only [Int32.lt_iff_toInt_lt, Int32.le_iff_toInt_le, ← Int32.toInt_inj, Int32.toInt_add, Int32.toInt_sub, Int32.toInt_mul, Int32.toInt_neg, z_bm, z_bm2, J_ti, J_toInt, z_cn, Int32.reduceToInt] at *); omega))]
        exact ⟨Or.inr ⟨rfl, hc, _, hw, rfl⟩, fun _ => hc, fun _ => hc⟩
theorem z_rp_3 {E : z_E} {u : k_S} {k s n p : Nat} {x y : Int32 × Int32} (hn : n ≤ 400) (hp : p < 40) (h : z_rp n x y) : z_rp n (z_f3 (z_sW E u k s n p) 3 x) (z_f3 (z_sR E u k s n p) 3 y) ∧ ¬ (z_f3 (z_sR E u k s n p) 3 y).1 < 0 := by
  obtain ⟨a1, a2, a3⟩ := z_rp_s (E := E) (u := u) (k := k) (s := s) (j := 0) hn hp (by omega) h
  obtain ⟨b1, b2, b3⟩ := z_rp_s (E := E) (u := u) (k := k) (s := s) (j := 1) hn hp (by omega) a1
  obtain ⟨c1, c2, c3⟩ := z_rp_s (E := E) (u := u) (k := k) (s := s) (j := 2) hn hp (by omega) b1
  refine ⟨c1, c3 ?_⟩
  by_cases e : k_t100 0 = E.2.1 p
  · exact b2 (by rw [← e]; decide)
  · exact b3 (a2 e)
theorem z_rp_o {E : z_E} {u : k_S} {k s n : Nat} (hn : n ≤ 400) (hs : s ≤ 40) : ∀ p, p ≤ s → z_rp n (z_fo (z_sW E u k s n) p (-2, J n + 1)) (z_fo (z_sR E u k s n) p (-1, 0)) ∧ (0 < p → ¬ (z_fo (z_sR E u k s n) p (-1, 0)).1 < 0)
  | 0, _ => ⟨Or.inl ⟨rfl, show (-1 : Int32) < 0 by decide⟩, fun h => by omega⟩
  | p + 1, h => by
    obtain ⟨a, -⟩ := z_rp_o (E := E) (u := u) (k := k) hn hs p (by omega)
    obtain ⟨b, c⟩ := z_rp_3 (E := E) (u := u) (k := k) (s := s) (p := p) hn (by omega) a
    exact ⟨b, fun _ => c⟩
theorem z_nearW {E : z_E} {u : k_S} {k s n : Nat} (hE : z_eW E u) (h0 : 0 < E.1) (hk1 : 1 ≤ k) (hk2 : k ≤ 9) (c1 : u.1 1205 = J k) (hs1 : 1 ≤ s) (hs : s ≤ 40) (es : E.2.2.1 0 = J s) (hn : n ≤ 400) (fl : Int32) : k_sat (f_Nights_nearest (J n) fl u) (fun r v => z_fr [1702, 1206, 704] [18, 19, 9, 13] u v ∧ r = if fl = 0 then (z_fo (z_sW E u k s n) s (-2, J n + 1)).2 else (z_fo (z_sW E u k s n) s (-2, J n + 1)).1) := by
  have e5 : u.2.1 5 0 = J s := by rw [hE.1.2.2.2.1]; exact es
  have eL : u.2.1 4 = E.2.1 := hE.1.2.2.1
  unfold f_Nights_nearest
  refine z_let (z_bind _ (z_for3 0 s (-2) (J n + 1) (fun p x y v => (x, y) = z_fo (z_sW E u k s n) p (-2, J n + 1) ∧ z_fr [1702, 1206, 704] [18, 19, 9, 13] u v) (K := fun y v => y = z_fo (z_sW E u k s n) s (-2, J n + 1) ∧ z_fr [1702, 1206, 704] [18, 19, 9, 13] u v) (by omega) (Nat.zero_le s) ⟨rfl, z_fr.rf⟩ (fun p x y v _ hp hv => ?_) (fun x y v hv => ?_)) (fun y v hv => ?_))
  · obtain ⟨g1, g2⟩ := hv
    unfold f_Nights_nearest_B11
    dsimp only
    have e5v : v.2.1 5 0 = J s := (congrFun (g2.2.1 5 rfl) 0).trans e5
    rw [show (0 : Int32) = J 0 from rfl, z_Wheels_sizeOf (by omega), z_bind_some, e5v]
    refine z_neg (by (try simp (disch := omega) only [Int32.lt_iff_toInt_lt, Int32.le_iff_toInt_le, ← Int32.toInt_inj, Int32.toInt_add, Int32.toInt_sub, Int32.toInt_mul, Int32.toInt_neg, z_bm, z_bm2, J_ti, J_toInt, z_cn, Int32.reduceToInt]) <;> omega) (z_neg (by (try simp (disch := omega) only [Int32.lt_iff_toInt_lt, Int32.le_iff_toInt_le, ← Int32.toInt_inj, Int32.toInt_add, Int32.toInt_sub, Int32.toInt_mul, Int32.toInt_neg, z_bm, z_bm2, J_ti, J_toInt, z_cn, Int32.reduceToInt]) <;> omega) ?_)
    rw [show J 0 = (0 : Int32) from rfl, z_letA0 (by omega), z_bind_some]
    have el : v.2.1 4 p = E.2.1 p := by rw [g2.2.1 4 rfl, eL]
    refine z_bind _ (z_for3 0 3 x y (fun j x' y' w => (x', y') = z_f3 (z_sW E u k s n p) j (x, y) ∧ z_fr [1702, 1206, 704] [18, 19, 9, 13, 4] u w ∧ ∃ l, w.2.1 4 = upd (u.2.1 4) p l) (K := fun y' w => y' = z_f3 (z_sW E u k s n p) 3 (x, y) ∧ z_fr [1702, 1206, 704] [18, 19, 9, 13, 4] u w ∧ ∃ l, w.2.1 4 = upd (u.2.1 4) p l) (by omega) (by omega) ⟨rfl, g2.mono rfl rfl, u.2.1 4 p, by rw [z_up_self]; exact g2.2.1 4 rfl⟩ (fun j x' y' w _ hj hw => ?_) (fun x' y' w hw => ?_)) (fun y' w hw => ?_)
    · obtain ⟨k1, k2, l, k3⟩ := hw
      unfold f_Nights_nearest_B56
      dsimp only
      refine z_neg (by (try simp (disch := omega) only [Int32.lt_iff_toInt_lt, Int32.le_iff_toInt_le, ← Int32.toInt_inj, Int32.toInt_add, Int32.toInt_sub, Int32.toInt_mul, Int32.toInt_neg, z_bm, z_bm2, J_ti, J_toInt, z_cn, Int32.reduceToInt]) <;> omega) (z_ck (by (try simp (disch := omega) only [Int32.lt_iff_toInt_lt, Int32.le_iff_toInt_le, ← Int32.toInt_inj, Int32.toInt_add, Int32.toInt_sub, Int32.toInt_mul, Int32.toInt_neg, z_bm, z_bm2, J_ti, J_toInt, z_cn, Int32.reduceToInt]) <;> omega) (by (try simp (disch := omega) only [Int32.lt_iff_toInt_lt, Int32.le_iff_toInt_le, ← Int32.toInt_inj, Int32.toInt_add, Int32.toInt_sub, Int32.toInt_mul, Int32.toInt_neg, z_bm, z_bm2, J_ti, J_toInt, z_cn, Int32.reduceToInt]) <;> omega) (z_let ?_))
      rw [J_toNat (show j < 2147483648 by omega), el]
      have hst : z_f3 (z_sW E u k s n p) (j + 1) (x, y) = z_sW E u k s n p j (x', y') := by rw [k1]; rfl
      refine z_ite (fun q => k_sat_mk (Or.inl ⟨_, _, rfl, ?_, k2, l, k3⟩)) (fun q => ?_)
      · rw [hst]; unfold z_sW; rw [if_pos q]
      · rw [z_setL0 (by omega), z_bind_some]
        have h4 : (k_wA w 4 p (k_t100 j)).2.1 4 = upd (u.2.1 4) p (k_t100 j) := by
          simp only [k_wA, if_true]
          rw [k3]
          funext i
          rw [z_up, z_up, z_up]
          by_cases e : i = p
          · rw [if_pos e, if_pos e]
          · rw [if_neg e, if_neg e, if_neg e]
        have k4 : z_fr [1702, 1206, 704] [18, 19, 9, 13, 4] u (k_wA w 4 p (k_t100 j)) := k2.tr (z_wA rfl)
        have mN : z_moNow (k_wA w 4 p (k_t100 j)) = z_moNow u := by unfold z_moNow; rw [k4.1 1402 rfl, k4.2.1 15 rfl, k4.2.1 16 rfl]
        have mR : z_moR (k_wA w 4 p (k_t100 j)) = z_moR u := by unfold z_moR; rw [k4.1 4209 rfl, k4.2.1 46 rfl, k4.2.1 47 rfl]
        have hE' : z_eW (z_Ex E p (k_t100 j)) (k_wA w 4 p (k_t100 j)) := ⟨z_EW_x hE.1 (k4.1 303 rfl) (k4.1 703 rfl) (k4.1 705 rfl) h4 (k4.2.1 5 rfl) (k4.2.1 6 rfl) (k4.2.1 8 rfl), by rw [mN]; exact z_ok_x hE.2.1, by rw [mN, mR]; exact hE.2.2⟩
        refine z_bind _ (z_wrongW hE' h0 hk1 hk2 ((k4.1 1205 rfl).trans c1) hs1 hs es hn) (fun r w2 hw2 => ?_)
        have hr : r = J (z_wc E u k s n p (k_t100 j)) := by
          rw [hw2.1]
          unfold z_wc
          have : z_wr (z_Ex E p (k_t100 j)) (k_wA w 4 p (k_t100 j)) k s = z_wr (z_Ex E p (k_t100 j)) u k s := by
            funext i
            unfold z_wr
            rw [z_pl_m mR, k4.2.1 46 rfl]
          rw [this]
        have k5 : z_fr [1702, 1206, 704] [18, 19, 9, 13, 4] u w2 := k4.tr (hw2.2.mono rfl rfl)
        have k6 : w2.2.1 4 = upd (u.2.1 4) p (k_t100 j) := (hw2.2.2.1 4 rfl).trans h4
        rw [hr]
        refine z_ite (fun q2 => k_sat_mk (Or.inl ⟨_, _, rfl, ?_, k5, _, k6⟩)) (fun q2 => z_let (k_sat_mk (Or.inl ⟨_, _, rfl, ?_, k5, _, k6⟩)))
        · rw [hst]; unfold z_sW; rw [if_neg q, if_pos q2]
        · rw [hst]; unfold z_sW; rw [if_neg q, if_neg q2]
    · unfold f_Nights_nearest_B56
      exact z_pos (Int32.le_refl _) (k_sat_mk ⟨_, rfl, hw⟩)
    · obtain ⟨k1, k2, l, k3⟩ := hw
      rw [z_setL0 (by omega), z_bind_some]
      have h4 : (k_wA w 4 p (v.2.1 4 p)).2.1 4 = u.2.1 4 := by
        simp only [k_wA, if_true]
        rw [k3, g2.2.1 4 rfl]
        funext i
        rw [z_up, z_up]
        by_cases e : i = p
        · rw [if_pos e, e]
        · rw [if_neg e, if_neg e]
      refine k_sat_mk (Or.inl ⟨_, _, rfl, ?_, ?_⟩)
      · rw [k1, g1]; rfl
      · have k4 : z_fr [1702, 1206, 704] [18, 19, 9, 13, 4] u (k_wA w 4 p (v.2.1 4 p)) := k2.tr (z_wA rfl)
        refine ⟨k4.1, fun c hc => ?_, fun c hc => k4.2.2 c ?_⟩
        · by_cases e : c = 4
          · rw [e]; exact h4
          · refine k4.2.1 c ?_
            cases hx : ([18, 19, 9, 13, 4] : List Nat).elem c with
            | false => rfl
            | true =>
              exfalso
              have hm := List.elem_iff.mp hx
              simp only [List.mem_cons, List.not_mem_nil, or_false] at hm
              rcases hm with rfl | rfl | rfl | rfl | rfl
              · cases hc
              · cases hc
              · cases hc
              · cases hc
              · exact e rfl
        · unfold z_el at *
          by_cases e : c = 4
          · rw [e]; rfl
          · cases hx : (c == 41 || c == 74 || c == 75) with
            | false => rw [Bool.and_false]
            | true =>
              rw [hx, Bool.and_true] at hc
              rw [Bool.and_true]
              cases hy : ([18, 19, 9, 13, 4] : List Nat).elem c with
              | false => rfl
              | true =>
                exfalso
                have hm := List.elem_iff.mp hy
                simp only [List.mem_cons, List.not_mem_nil, or_false] at hm
                rcases hm with rfl | rfl | rfl | rfl | rfl
                · cases hc
                · cases hc
                · cases hc
                · cases hc
                · exact e rfl
  · obtain ⟨g1, g2⟩ := hv
    unfold f_Nights_nearest_B11
    dsimp only
    have e5v : v.2.1 5 0 = J s := (congrFun (g2.2.1 5 rfl) 0).trans e5
    rw [show (0 : Int32) = J 0 from rfl, z_Wheels_sizeOf (by omega), z_bind_some, e5v]
    exact z_pos (Int32.le_refl _) (k_sat_mk ⟨_, rfl, g1, g2⟩)
  · obtain ⟨rfl, g2⟩ := hv
    unfold f_Nights_nearest_J144
    refine z_ite (fun q => k_sat_mk ⟨g2, by rw [if_pos q]⟩) (fun q => k_sat_mk ⟨g2, by rw [if_neg q]⟩)
theorem z_fr_less {F A : List Nat} {c : Nat} {u v : k_S} (h : z_fr F (c :: A) u v) (h1 : v.2.1 c = u.2.1 c) (hc : (c == 41 || c == 74 || c == 75) = false) : z_fr F A u v := by
  refine ⟨h.1, fun i hi => ?_, fun i hi => ?_⟩
  · by_cases e : i = c
    · rw [e]; exact h1
    · exact h.2.1 i (by rw [z_ec e]; exact hi)
  · refine h.2.2 i ?_
    unfold z_el at *
    by_cases e : i = c
    · rw [e, hc, Bool.and_false]
    · rw [z_ec e]; exact hi
theorem z_nearR {E : z_E} {u : k_S} {k s n : Nat} (hE : z_ER E u) (hok : z_ok E (z_moR u)) (h0 : 0 < E.1) (hk1 : 1 ≤ k) (hk2 : k ≤ 9) (c2 : u.1 4210 = J k) (hs1 : 1 ≤ s) (hs : s ≤ 40) (es : E.2.2.1 0 = J s) (hn : n ≤ 400) (hK : zK u) (fl : Int32) : k_sat (k_itr (fun (x : (Int32 × Int32 × Int32)) u => f_R_near_B51 (J n) fl x.1 x.2.1 x.2.2 u) k_FU ((-1), 0, 0) u) (fun y v => z_fr [4230] [54, 55, 60, 61, 62] u v ∧ y = z_fo (z_sR E u k s n) s (-1, 0)) := by
  have e45 : u.2.1 45 0 = J s := ((hE.2.2.1 0 h0).1).trans es
  have e44 : ∀ p, p < s → u.2.1 44 p = E.2.1 p := fun p hp => by
    have := (hE.2.2.1 0 h0).2.2 p s es hp hs
    rw [show 40 * 0 + p = p by omega] at this
    exact this
  have eK : ∀ j, j < 3 → u.2.1 63 j = k_t100 j := fun j hj => by
    rcases k_t100_c j hj with ⟨rfl, e⟩ | ⟨rfl, e⟩ | ⟨rfl, e⟩ <;> rw [e]
    · exact hK.1.1
    · exact hK.1.2.1
    · exact hK.1.2.2
  refine z_for3 0 s (-1) 0 (fun p x y v => (x, y) = z_fo (z_sR E u k s n) p (-1, 0) ∧ z_fr [4230] [54, 55, 60, 61, 62] u v) (K := fun y v => z_fr [4230] [54, 55, 60, 61, 62] u v ∧ y = z_fo (z_sR E u k s n) s (-1, 0)) (by omega) (Nat.zero_le s) ⟨rfl, z_fr.rf⟩ (fun p x y v _ hp hv => ?_) (fun x y v hv => ?_)
  · obtain ⟨g1, g2⟩ := hv
    unfold f_R_near_B51
    dsimp only
    rw [show (0 : Int32).toNatClampNeg = 0 from rfl, congrFun (g2.2.1 45 rfl) 0, e45]
    refine z_ck (by decide) (by decide) (z_neg (by (try simp (disch := omega) only [Int32.lt_iff_toInt_lt, Int32.le_iff_toInt_le, ← Int32.toInt_inj, Int32.toInt_add, Int32.toInt_sub, Int32.toInt_mul, Int32.toInt_neg, z_bm, z_bm2, J_ti, J_toInt, z_cn, Int32.reduceToInt]) <;> omega) (z_ck (by (try simp (disch := omega) only [Int32.lt_iff_toInt_lt, Int32.le_iff_toInt_le, ← Int32.toInt_inj, Int32.toInt_add, Int32.toInt_sub, Int32.toInt_mul, Int32.toInt_neg, z_bm, z_bm2, J_ti, J_toInt, z_cn, Int32.reduceToInt]) <;> omega) (by (try simp (disch := omega) only [Int32.lt_iff_toInt_lt, Int32.le_iff_toInt_le, ← Int32.toInt_inj, Int32.toInt_add, Int32.toInt_sub, Int32.toInt_mul, Int32.toInt_neg, z_bm, z_bm2, J_ti, J_toInt, z_cn, Int32.reduceToInt]) <;> omega) (z_let ?_)))
    rw [J_toNat (show p < 2147483648 by omega), g2.2.1 44 rfl, e44 p hp]
    refine z_bind _ (z_for3 0 3 x y (fun j x' y' w => (x', y') = z_f3 (z_sR E u k s n p) j (x, y) ∧ z_fr [4230] [44, 54, 55, 60, 61, 62] u w ∧ ∃ l, w.2.1 44 = upd (u.2.1 44) p l) (K := fun y' w => y' = z_f3 (z_sR E u k s n p) 3 (x, y) ∧ z_fr [4230] [44, 54, 55, 60, 61, 62] u w ∧ ∃ l, w.2.1 44 = upd (u.2.1 44) p l) (by omega) (by omega) ⟨rfl, g2.mono rfl rfl, u.2.1 44 p, by rw [z_up_self]; exact g2.2.1 44 rfl⟩ (fun j x' y' w _ hj hw => ?_) (fun x' y' w hw => ?_)) (fun y' w hw => ?_)
    · obtain ⟨k1, k2, l, k3⟩ := hw
      unfold f_R_near_B74
      dsimp only
      have e63 : w.2.1 63 j = k_t100 j := (congrFun (k2.2.1 63 rfl) j).trans (eK j hj)
      rw [J_toNat (show j < 2147483648 by omega), e63, J_toNat (show p < 2147483648 by omega)]
      have hst : z_f3 (z_sR E u k s n p) (j + 1) (x, y) = z_sR E u k s n p j (x', y') := by rw [k1]; rfl
      refine z_neg (by (try simp (disch := omega) only [Int32.lt_iff_toInt_lt, Int32.le_iff_toInt_le, ← Int32.toInt_inj, Int32.toInt_add, Int32.toInt_sub, Int32.toInt_mul, Int32.toInt_neg, z_bm, z_bm2, J_ti, J_toInt, z_cn, Int32.reduceToInt]) <;> omega) (z_ck (by (try simp (disch := omega) only [Int32.lt_iff_toInt_lt, Int32.le_iff_toInt_le, ← Int32.toInt_inj, Int32.toInt_add, Int32.toInt_sub, Int32.toInt_mul, Int32.toInt_neg, z_bm, z_bm2, J_ti, J_toInt, z_cn, Int32.reduceToInt]) <;> omega) (by (try simp (disch := omega) only [Int32.lt_iff_toInt_lt, Int32.le_iff_toInt_le, ← Int32.toInt_inj, Int32.toInt_add, Int32.toInt_sub, Int32.toInt_mul, Int32.toInt_neg, z_bm, z_bm2, J_ti, J_toInt, z_cn, Int32.reduceToInt]) <;> omega) (z_ite (fun q => k_sat_mk (Or.inl ⟨_, _, rfl, ?_, k2, l, k3⟩)) (fun q => z_ck (by (try simp (disch := omega) only [Int32.lt_iff_toInt_lt, Int32.le_iff_toInt_le, ← Int32.toInt_inj, Int32.toInt_add, Int32.toInt_sub, Int32.toInt_mul, Int32.toInt_neg, z_bm, z_bm2, J_ti, J_toInt, z_cn, Int32.reduceToInt]) <;> omega) (by (try simp (disch := omega) only [Int32.lt_iff_toInt_lt, Int32.le_iff_toInt_le, ← Int32.toInt_inj, Int32.toInt_add, Int32.toInt_sub, Int32.toInt_mul, Int32.toInt_neg, z_bm, z_bm2, J_ti, J_toInt, z_cn, Int32.reduceToInt]) <;> omega) (z_ck (by (try simp (disch := omega) only [Int32.lt_iff_toInt_lt, Int32.le_iff_toInt_le, ← Int32.toInt_inj, Int32.toInt_add, Int32.toInt_sub, Int32.toInt_mul, Int32.toInt_neg, z_bm, z_bm2, J_ti, J_toInt, z_cn, Int32.reduceToInt]) <;> omega) (by (try simp (disch := omega) only [Int32.lt_iff_toInt_lt, Int32.le_iff_toInt_le, ← Int32.toInt_inj, Int32.toInt_add, Int32.toInt_sub, Int32.toInt_mul, Int32.toInt_neg, z_bm, z_bm2, J_ti, J_toInt, z_cn, Int32.reduceToInt]) <;> omega) (z_let ?_)))))
      · rw [hst]; unfold z_sR; rw [if_pos q]
      · have h44 : (k_wA w 44 p (k_t100 j)).2.1 44 = upd (u.2.1 44) p (k_t100 j) := by
          simp only [k_wA, if_true]
          rw [k3]
          funext i
          rw [z_up, z_up, z_up]
          by_cases e : i = p
          · rw [if_pos e, if_pos e]
          · rw [if_neg e, if_neg e, if_neg e]
        have k4 : z_fr [4230] [44, 54, 55, 60, 61, 62] u (k_wA w 44 p (k_t100 j)) := k2.tr (z_wA rfl)
        have mR : z_moR (k_wA w 44 p (k_t100 j)) = z_moR u := by unfold z_moR; rw [k4.1 4209 rfl, k4.2.1 46 rfl, k4.2.1 47 rfl]
        have hE' : z_ER (z_Ex E p (k_t100 j)) (k_wA w 44 p (k_t100 j)) := z_ER_x hE es hs hp [4230] (k4.mono rfl rfl) (by decide) h44
        refine z_bind _ (z_wrongR hE' (by rw [mR]; exact z_ok_x hok) h0 hk1 hk2 ((k4.1 4210 rfl).trans c2) hs1 hs es hn) (fun r w2 hw2 => ?_)
        have hr : r = J (z_wc E u k s n p (k_t100 j)) := by
          rw [hw2.1]
          unfold z_wc
          have : z_wr (z_Ex E p (k_t100 j)) (k_wA w 44 p (k_t100 j)) k s = z_wr (z_Ex E p (k_t100 j)) u k s := by
            funext i
            unfold z_wr
            rw [z_pl_m mR, k4.2.1 46 rfl]
          rw [this]
        have k5 : z_fr [4230] [44, 54, 55, 60, 61, 62] u w2 := k4.tr (hw2.2.mono rfl rfl)
        have k6 : w2.2.1 44 = upd (u.2.1 44) p (k_t100 j) := (hw2.2.2.1 44 rfl).trans h44
        have e63b : w2.2.1 63 j = k_t100 j := (congrFun (k5.2.1 63 rfl) j).trans (eK j hj)
        rw [hr]
        have take : z_sR E u k s n p j (x', y') = (1000 * J p + k_t100 j, J (z_wc E u k s n p (k_t100 j))) → k_sat (f_R_near_J130 (J n) fl (J p) (E.2.1 p) (J j) (J (z_wc E u k s n p (k_t100 j))) w2) (fun z u' => (∃ x'' y'', z = .inl (x'', y'', J j + Int32.ofInt 1) ∧ (x'', y'') = z_f3 (z_sR E u k s n p) (j + 1) (x, y) ∧ z_fr [4230] [44, 54, 55, 60, 61, 62] u u' ∧ ∃ l, u'.2.1 44 = upd (u.2.1 44) p l) ∨ ∃ r, z = .inr r ∧ r = z_f3 (z_sR E u k s n p) 3 (x, y) ∧ z_fr [4230] [44, 54, 55, 60, 61, 62] u u' ∧ ∃ l, u'.2.1 44 = upd (u.2.1 44) p l) := by
          intro ht
          unfold f_R_near_J130
          refine z_ck (by (try simp (disch := omega) only [Int32.lt_iff_toInt_lt, Int32.le_iff_toInt_le, ← Int32.toInt_inj, Int32.toInt_add, Int32.toInt_sub, Int32.toInt_mul, Int32.toInt_neg, z_bm, z_bm2, J_ti, J_toInt, z_cn, Int32.reduceToInt]) <;> omega) (by (try simp (disch := omega) only [Int32.lt_iff_toInt_lt, Int32.le_iff_toInt_le, ← Int32.toInt_inj, Int32.toInt_add, Int32.toInt_sub, Int32.toInt_mul, Int32.toInt_neg, z_bm, z_bm2, J_ti, J_toInt, z_cn, Int32.reduceToInt]) <;> omega) (z_let (k_sat_mk (Or.inl ⟨_, _, rfl, ?_, k5, _, k6⟩)))
          rw [hst, ht, J_toNat (show j < 2147483648 by omega), e63b]
        refine z_ite (fun q2 => take ?_) (fun q2 => z_ite (fun q3 => take ?_) (fun q3 => k_sat_mk (Or.inl ⟨_, _, rfl, ?_, k5, _, k6⟩)))
        · unfold z_sR; rw [if_neg q, if_pos q2]
        · unfold z_sR; rw [if_neg q, if_neg q2, if_pos q3]
        · rw [hst]; unfold z_sR; rw [if_neg q, if_neg q2, if_neg q3]
    · unfold f_R_near_B74
      exact z_pos (Int32.le_refl _) (k_sat_mk ⟨_, rfl, hw⟩)
    · obtain ⟨k1, k2, l, k3⟩ := hw
      refine z_ck (by (try simp (disch := omega) only [Int32.lt_iff_toInt_lt, Int32.le_iff_toInt_le, ← Int32.toInt_inj, Int32.toInt_add, Int32.toInt_sub, Int32.toInt_mul, Int32.toInt_neg, z_bm, z_bm2, J_ti, J_toInt, z_cn, Int32.reduceToInt]) <;> omega) (by (try simp (disch := omega) only [Int32.lt_iff_toInt_lt, Int32.le_iff_toInt_le, ← Int32.toInt_inj, Int32.toInt_add, Int32.toInt_sub, Int32.toInt_mul, Int32.toInt_neg, z_bm, z_bm2, J_ti, J_toInt, z_cn, Int32.reduceToInt]) <;> omega) (z_let (k_sat_mk (Or.inl ⟨_, _, rfl, ?_, ?_⟩)))
      · rw [k1, g1]; rfl
      · refine z_fr_less (c := 44) (k2.tr (z_wA rfl)) ?_ rfl
        simp only [k_wA, if_true]
        rw [k3]
        funext i
        rw [z_up, z_up]
        by_cases e : i = p
        · rw [if_pos e, e, e44 p hp]
        · rw [if_neg e, if_neg e]
  · obtain ⟨g1, g2⟩ := hv
    unfold f_R_near_B51
    dsimp only
    rw [show (0 : Int32).toNatClampNeg = 0 from rfl, congrFun (g2.2.1 45 rfl) 0, e45]
    exact z_ck (by decide) (by decide) (z_pos (Int32.le_refl _) (k_sat_mk ⟨_, rfl, g2, g1⟩))
theorem z_near (a b : Int32) (u : k_S) (h : zI u) : z_pair (f_W_near a b) (f_R_near a b) u zI := by
  obtain ⟨E, hE, -, eS, -⟩ := z_env h
  obtain ⟨⟨k, hk1, hk2, c1, c2⟩, -⟩ := h.2.2.2.1
  have hE4 := hE.1.1
  have e1 := hE.1.2.1
  have e2 := hE.2.1.2.1
  refine z_pair_of ?_
  by_cases hr : (1 ≤ a.toInt ∧ a.toInt ≤ 400) ∧ 0 ≤ b.toInt ∧ b.toInt ≤ 2
  · obtain ⟨⟨ha1, ha2⟩, hb1, hb2⟩ := hr
    obtain ⟨n, rfl, hn, -⟩ := J_of (x := a) (by omega)
    unfold f_W_near
    refine z_neg (by (try simp (disch := omega) only [Int32.lt_iff_toInt_lt, Int32.le_iff_toInt_le, ← Int32.toInt_inj, Int32.toInt_add, Int32.toInt_sub, Int32.toInt_mul, Int32.toInt_neg, z_bm, z_bm2, J_ti, J_toInt, z_cn, Int32.reduceToInt]) <;> omega) (z_neg (by (try simp (disch := omega) only [Int32.lt_iff_toInt_lt, Int32.le_iff_toInt_le, ← Int32.toInt_inj, Int32.toInt_add, Int32.toInt_sub, Int32.toInt_mul, Int32.toInt_neg, z_bm, z_bm2, J_ti, J_toInt, z_cn, Int32.reduceToInt]) <;> omega) (z_neg (by (try simp (disch := omega) only [Int32.lt_iff_toInt_lt, Int32.le_iff_toInt_le, ← Int32.toInt_inj, Int32.toInt_add, Int32.toInt_sub, Int32.toInt_mul, Int32.toInt_neg, z_bm, z_bm2, J_ti, J_toInt, z_cn, Int32.reduceToInt]) <;> omega) (z_pos (by (try simp (disch := omega) only [Int32.lt_iff_toInt_lt, Int32.le_iff_toInt_le, ← Int32.toInt_inj, Int32.toInt_add, Int32.toInt_sub, Int32.toInt_mul, Int32.toInt_neg, z_bm, z_bm2, J_ti, J_toInt, z_cn, Int32.reduceToInt]) <;> omega) ?_)))
    by_cases h0 : E.1 = 0
    · refine z_pos (by rw [e1, h0]; rfl) (k_sat_mk ?_)
      unfold f_R_near
      rw [z_Rin1 (by (try simp (disch := omega) only [Int32.lt_iff_toInt_lt, Int32.le_iff_toInt_le, ← Int32.toInt_inj, Int32.toInt_add, Int32.toInt_sub, Int32.toInt_mul, Int32.toInt_neg, z_bm, z_bm2, J_ti, J_toInt, z_cn, Int32.reduceToInt]) <;> omega) (by (try simp (disch := omega) only [Int32.lt_iff_toInt_lt, Int32.le_iff_toInt_le, ← Int32.toInt_inj, Int32.toInt_add, Int32.toInt_sub, Int32.toInt_mul, Int32.toInt_neg, z_bm, z_bm2, J_ti, J_toInt, z_cn, Int32.reduceToInt]) <;> omega), z_bind_some]
      refine z_neg (by decide) ?_
      rw [z_Rin1 (by (try simp (disch := omega) only [Int32.lt_iff_toInt_lt, Int32.le_iff_toInt_le, ← Int32.toInt_inj, Int32.toInt_add, Int32.toInt_sub, Int32.toInt_mul, Int32.toInt_neg, z_bm, z_bm2, J_ti, J_toInt, z_cn, Int32.reduceToInt]) <;> omega) (by (try simp (disch := omega) only [Int32.lt_iff_toInt_lt, Int32.le_iff_toInt_le, ← Int32.toInt_inj, Int32.toInt_add, Int32.toInt_sub, Int32.toInt_mul, Int32.toInt_neg, z_bm, z_bm2, J_ti, J_toInt, z_cn, Int32.reduceToInt]) <;> omega), z_bind_some]
      exact z_neg (by decide) (z_pos (by rw [e2, h0]; rfl) (k_sat_mk ⟨rfl, h⟩))
    · refine z_neg (by rw [e1]; (try simp (disch := omega) only [Int32.lt_iff_toInt_lt, Int32.le_iff_toInt_le, ← Int32.toInt_inj, Int32.toInt_add, Int32.toInt_sub, Int32.toInt_mul, Int32.toInt_neg, z_bm, z_bm2, J_ti, J_toInt, z_cn, Int32.reduceToInt]) <;> omega) ?_
      obtain ⟨p0, s, -, hs2, hs, -, es⟩ := hE.2.2.1.2 0 (by omega)
      have hn' : n ≤ 400 := by omega
      have hEW : z_eW E u := ⟨hE.1, hE.2.2.1, hE.2.2.2.2⟩
      have hRP := z_rp_o (E := E) (u := u) (k := k) hn' hs s (Nat.le_refl s)
      have hsame : z_fo (z_sW E u k s n) s (-2, J n + 1) = z_fo (z_sR E u k s n) s (-1, 0) := by
        rcases hRP.1 with ⟨-, q⟩ | ⟨q, -⟩
        · exact absurd q (hRP.2 (by omega))
        · exact q
      have wr_eq : ∀ {v : k_S}, z_moR v = z_moR u → z_wr E v k s = z_wr E u k s := fun {v} m => by
        funext i
        unfold z_wr
        rw [z_pl_m m, show v.2.1 46 = u.2.1 46 from congrArg (fun m : z_Mo => m.2.1) m]
      have sR_eq : ∀ {v : k_S}, z_moR v = z_moR u → z_sR E v k s n = z_sR E u k s n := fun {v} m => by
        have hw : ∀ p x, z_wc E v k s n p x = z_wc E u k s n p x := fun p x => by
          unfold z_wc
          have : z_wr (z_Ex E p x) v k s = z_wr (z_Ex E p x) u k s := by
            funext i
            unfold z_wr
            rw [z_pl_m m, show v.2.1 46 = u.2.1 46 from congrArg (fun m : z_Mo => m.2.1) m]
          rw [this]
        funext p j x
        unfold z_sR
        simp only [hw]
      by_cases hb2' : b = 2
      · refine z_pos hb2' (z_bind _ (z_wrongW (s := s) hEW (by omega) hk1 hk2 c1 (by omega) hs es hn') (fun r v hv => k_sat_mk ?_))
        obtain ⟨i2, hE2, m2, q1, q2, q3⟩ := z_Wdone h hE hv.2
        unfold f_R_near
        rw [z_Rin1 (by (try simp (disch := omega) only [Int32.lt_iff_toInt_lt, Int32.le_iff_toInt_le, ← Int32.toInt_inj, Int32.toInt_add, Int32.toInt_sub, Int32.toInt_mul, Int32.toInt_neg, z_bm, z_bm2, J_ti, J_toInt, z_cn, Int32.reduceToInt]) <;> omega) (by (try simp (disch := omega) only [Int32.lt_iff_toInt_lt, Int32.le_iff_toInt_le, ← Int32.toInt_inj, Int32.toInt_add, Int32.toInt_sub, Int32.toInt_mul, Int32.toInt_neg, z_bm, z_bm2, J_ti, J_toInt, z_cn, Int32.reduceToInt]) <;> omega), z_bind_some]
        refine z_neg (by decide) ?_
        rw [z_Rin1 (by (try simp (disch := omega) only [Int32.lt_iff_toInt_lt, Int32.le_iff_toInt_le, ← Int32.toInt_inj, Int32.toInt_add, Int32.toInt_sub, Int32.toInt_mul, Int32.toInt_neg, z_bm, z_bm2, J_ti, J_toInt, z_cn, Int32.reduceToInt]) <;> omega) (by (try simp (disch := omega) only [Int32.lt_iff_toInt_lt, Int32.le_iff_toInt_le, ← Int32.toInt_inj, Int32.toInt_add, Int32.toInt_sub, Int32.toInt_mul, Int32.toInt_neg, z_bm, z_bm2, J_ti, J_toInt, z_cn, Int32.reduceToInt]) <;> omega), z_bind_some]
        refine z_neg (by decide) (z_neg (by rw [q1, e2]; (try simp (disch := omega) only [Int32.lt_iff_toInt_lt, Int32.le_iff_toInt_le, ← Int32.toInt_inj, Int32.toInt_add, Int32.toInt_sub, Int32.toInt_mul, Int32.toInt_neg, z_bm, z_bm2, J_ti, J_toInt, z_cn, Int32.reduceToInt]) <;> omega) (z_pos hb2' (z_bind _ (z_wrongR (s := s) hE2.2.1 hE2.2.2.2.1 (by omega) hk1 hk2 (q2.trans c2) (by omega) hs es hn') (fun r' v' hv' => k_sat_mk ⟨?_, zI_0 i2 (hv'.2.mono rfl rfl)⟩))))
        rw [hv.1, hv'.1, wr_eq m2]
      · refine z_neg hb2' ?_
        have rest : ∀ (r : Int32) (v : k_S), z_fr [1702, 1206, 704] [18, 19, 9, 13] u v → (r = if b = 0 then (z_fo (z_sW E u k s n) s (-2, J n + 1)).1 else (z_fo (z_sW E u k s n) s (-2, J n + 1)).2) → k_sat (f_R_near (J n) b v) (fun r' v2 => r = r' ∧ zI v2) := by
          intro r v hv hr
          obtain ⟨i2, hE2, m2, q1, q2, q3⟩ := z_Wdone h hE hv
          unfold f_R_near
          rw [z_Rin1 (by (try simp (disch := omega) only [Int32.lt_iff_toInt_lt, Int32.le_iff_toInt_le, ← Int32.toInt_inj, Int32.toInt_add, Int32.toInt_sub, Int32.toInt_mul, Int32.toInt_neg, z_bm, z_bm2, J_ti, J_toInt, z_cn, Int32.reduceToInt]) <;> omega) (by (try simp (disch := omega) only [Int32.lt_iff_toInt_lt, Int32.le_iff_toInt_le, ← Int32.toInt_inj, Int32.toInt_add, Int32.toInt_sub, Int32.toInt_mul, Int32.toInt_neg, z_bm, z_bm2, J_ti, J_toInt, z_cn, Int32.reduceToInt]) <;> omega), z_bind_some]
          refine z_neg (by decide) ?_
          rw [z_Rin1 (by (try simp (disch := omega) only [Int32.lt_iff_toInt_lt, Int32.le_iff_toInt_le, ← Int32.toInt_inj, Int32.toInt_add, Int32.toInt_sub, Int32.toInt_mul, Int32.toInt_neg, z_bm, z_bm2, J_ti, J_toInt, z_cn, Int32.reduceToInt]) <;> omega) (by (try simp (disch := omega) only [Int32.lt_iff_toInt_lt, Int32.le_iff_toInt_le, ← Int32.toInt_inj, Int32.toInt_add, Int32.toInt_sub, Int32.toInt_mul, Int32.toInt_neg, z_bm, z_bm2, J_ti, J_toInt, z_cn, Int32.reduceToInt]) <;> omega), z_bind_some]
          refine z_neg (by decide) (z_neg (by rw [q1, e2]; (try simp (disch := omega) only [Int32.lt_iff_toInt_lt, Int32.le_iff_toInt_le, ← Int32.toInt_inj, Int32.toInt_add, Int32.toInt_sub, Int32.toInt_mul, Int32.toInt_neg, z_bm, z_bm2, J_ti, J_toInt, z_cn, Int32.reduceToInt]) <;> omega) (z_neg hb2' (z_bind _ (z_nearR (s := s) hE2.2.1 hE2.2.2.2.1 (by omega) hk1 hk2 (q2.trans c2) (by omega) hs es hn' i2.2.2.2.2.2.2.2.2.2.2 b) (fun y v' hv' => ?_))))
          have ey : y = z_fo (z_sW E u k s n) s (-2, J n + 1) := by rw [hv'.2, sR_eq m2, hsame]
          rw [ey]
          refine z_ite (fun q => k_sat_mk ⟨by rw [hr, if_pos q], zI_0 i2 (hv'.1.mono rfl rfl)⟩) (fun q => k_sat_mk ⟨by rw [hr, if_neg q], zI_0 i2 (hv'.1.mono rfl rfl)⟩)
        refine z_ite (fun q => ?_) (fun q => ?_)
        · unfold f_W_near_J66
          exact z_bind _ (z_nearW (s := s) hEW (by omega) hk1 hk2 c1 (by omega) hs es hn' 1) (fun r v hv => k_sat_mk (rest r v hv.1 (by rw [hv.2, if_neg (by decide), if_pos q])))
        · unfold f_W_near_J66
          exact z_bind _ (z_nearW (s := s) hEW (by omega) hk1 hk2 c1 (by omega) hs es hn' 0) (fun r v hv => k_sat_mk (rest r v hv.1 (by rw [hv.2, if_pos rfl, if_neg q])))
  · have hR : k_sat (f_R_near a b u) (fun r' v => (-1 : Int32) = r' ∧ zI v) := by
      unfold f_R_near
      by_cases q : 1 ≤ a.toInt ∧ a.toInt ≤ 400
      · rw [z_Rin1 (by (try simp (disch := omega) only [Int32.lt_iff_toInt_lt, Int32.le_iff_toInt_le, ← Int32.toInt_inj, Int32.toInt_add, Int32.toInt_sub, Int32.toInt_mul, Int32.toInt_neg, z_bm, z_bm2, J_ti, J_toInt, z_cn, Int32.reduceToInt]) <;> omega) (by (try simp (disch := omega) only [Int32.lt_iff_toInt_lt, Int32.le_iff_toInt_le, ← Int32.toInt_inj, Int32.toInt_add, Int32.toInt_sub, Int32.toInt_mul, Int32.toInt_neg, z_bm, z_bm2, J_ti, J_toInt, z_cn, Int32.reduceToInt]) <;> omega), z_bind_some]
        refine z_neg (by decide) ?_
        rw [z_Rin0 (by ((try simp (disch := omega) only [Int32.lt_iff_toInt_lt, Int32.le_iff_toInt_le, ← Int32.toInt_inj, Int32.toInt_add, Int32.toInt_sub, Int32.toInt_mul, Int32.toInt_neg, z_bm, z_bm2, J_ti, J_toInt, z_cn, Int32.reduceToInt] at *); omega)), z_bind_some]
        exact z_pos rfl (k_sat_mk ⟨rfl, h⟩)
      · rw [z_Rin0 (by ((try simp (disch := omega) only [Int32.lt_iff_toInt_lt, Int32.le_iff_toInt_le, ← Int32.toInt_inj, Int32.toInt_add, Int32.toInt_sub, Int32.toInt_mul, Int32.toInt_neg, z_bm, z_bm2, J_ti, J_toInt, z_cn, Int32.reduceToInt] at *); omega)), z_bind_some]
        exact z_pos rfl (k_sat_mk ⟨rfl, h⟩)
    unfold f_W_near
    exact z_ite (fun _ => k_sat_mk hR) (fun _ => z_ite (fun _ => k_sat_mk hR) (fun _ => z_ite (fun _ => k_sat_mk hR) (fun _ => z_neg (by ((try simp (disch := omega) only [Int32.lt_iff_toInt_lt, Int32.le_iff_toInt_le, ← Int32.toInt_inj, Int32.toInt_add, Int32.toInt_sub, Int32.toInt_mul, Int32.toInt_neg, z_bm, z_bm2, J_ti, J_toInt, z_cn, Int32.reduceToInt] at *); omega)) (k_sat_mk hR))))
