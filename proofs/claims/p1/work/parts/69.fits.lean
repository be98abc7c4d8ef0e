/-! judge, fits, sure -/
theorem z_recs {u : k_S} (h : zR u) : ∃ (n : Nat) (A B f : Nat → Nat), n ≤ 40 ∧ u.1 2003 = J n ∧ u.1 4235 = J n ∧ z_RC 21 22 n A B u ∧ z_RC 64 65 n A B u ∧ (∀ i, i < n → f i < n ∧ u.2.1 23 i = J (f i)) ∧ (∀ r, r < n → ∃ i, i < n ∧ f i = r) ∧ (∀ i j, i < j → j < n → A (f i) ≤ A (f j)) := by
  obtain ⟨n, hn, e1, e2, h1, f, h2, h3, h4⟩ := h
  have key : ∀ i, i < n → (u.2.1 21 i).toInt.toNat ≤ 5000 ∧ (u.2.1 22 i).toInt.toNat < 40 ∧ u.2.1 21 i = J (u.2.1 21 i).toInt.toNat ∧ u.2.1 22 i = J (u.2.1 22 i).toInt.toNat ∧ u.2.1 64 i = u.2.1 21 i ∧ u.2.1 65 i = u.2.1 22 i ∧ 0 ≤ (u.2.1 21 i).toInt := by
    intro i hi
    obtain ⟨a, b, ha, hb, a1, a2, b1, b2⟩ := h1 i hi
    rw [a1, a2, b1, b2, J_toInt (by omega), J_toInt (by omega)]
    simp only [Int.toNat_natCast]
    exact ⟨ha, hb, trivial, trivial, trivial, trivial, by omega⟩
  refine ⟨n, fun i => (u.2.1 21 i).toInt.toNat, fun i => (u.2.1 22 i).toInt.toNat, f, hn, e1, e2, fun i hi => ?_, fun i hi => ?_, h2, h3, fun i j hij hj => ?_⟩
  · obtain ⟨a, b, c, d, -, -, -⟩ := key i hi
    exact ⟨a, b, c, d⟩
  · obtain ⟨a, b, c, d, e, g, -⟩ := key i hi
    exact ⟨a, b, e.trans c, g.trans d⟩
  · have := h4 i j hij hj
    have k1 := (key (f i) (h2 i (by omega)).1).2.2.2.2.2.2
    have k2 := (key (f j) (h2 j hj).1).2.2.2.2.2.2
    show (u.2.1 21 (f i)).toInt.toNat ≤ (u.2.1 21 (f j)).toInt.toNat
    omega
theorem z_bad_m {E : z_E} {u v : k_S} (h : z_moR v = z_moR u) {t : Nat} {A B : Nat → Nat} {r : Nat} : z_bad E v t A B r ↔ z_bad E u t A B r := by unfold z_bad; rw [z_pl_m h]
theorem z_RC_f {F C : List Nat} {c1 c2 nr : Nat} {A B : Nat → Nat} {u v : k_S} (h : z_fr F C u v) (a : C.elem c1 = false) (b : C.elem c2 = false) (k : z_RC c1 c2 nr A B u) : z_RC c1 c2 nr A B v := by
  intro r hr
  rw [h.2.1 c1 a, h.2.1 c2 b]
  exact k r hr
theorem z_judge (u : k_S) (h : zI u) : z_pair f_W_judge f_R_judge u zI := by
  obtain ⟨E, hE, -, eS, -⟩ := z_env h
  obtain ⟨⟨t, ht, t1, t2⟩, -⟩ := h.2.2.1
  obtain ⟨nr, A, B, f, hnr, r1, r2, r3, r4, hf, hsu, hso⟩ := z_recs h.2.2.2.2.2.1
  have hE4 := hE.1.1
  have e1 := hE.1.2.1
  have e2 := hE.2.1.2.1
  refine z_pair_of ?_
  unfold f_W_judge
  by_cases h0 : E.1 = 0
  · refine z_pos (by rw [e1, h0]; rfl) (k_sat_mk ?_)
    unfold f_R_judge
    exact z_pos (by rw [e2, h0]; rfl) (k_sat_mk ⟨rfl, h⟩)
  · refine z_neg (by rw [e1]; (try simp (disch := omega) only [Int32.lt_iff_toInt_lt, Int32.le_iff_toInt_le, ← Int32.toInt_inj, Int32.toInt_add, Int32.toInt_sub, Int32.toInt_mul, Int32.toInt_neg, z_bm, z_bm2, J_ti, J_toInt, z_cn, Int32.reduceToInt]) <;> omega) (z_bind _ (z_firstW ⟨hE.1, hE.2.2.1, hE.2.2.2.2⟩ (by omega) ht t1 hnr r1 r3 hf hsu hso 0 (Or.inl rfl)) (fun r v hv => k_sat_mk ?_))
    obtain ⟨i2, hE2, m2, q1, q2, q3⟩ := z_Wdone h hE hv.1
    unfold f_R_judge
    refine z_neg (by rw [q1, e2]; (try simp (disch := omega) only [Int32.lt_iff_toInt_lt, Int32.le_iff_toInt_le, ← Int32.toInt_inj, Int32.toInt_add, Int32.toInt_sub, Int32.toInt_mul, Int32.toInt_neg, z_bm, z_bm2, J_ti, J_toInt, z_cn, Int32.reduceToInt]) <;> omega) (z_bind _ (z_firstR hE2.2.1 hE2.2.2.2.1 (by omega) ht ((hv.1.1 4209 rfl).trans t2) hnr ((hv.1.1 4235 rfl).trans r2) (z_RC_f hv.1 rfl rfl r4)) (fun r' v' hv' => k_sat_mk ⟨?_, zI_0 i2 (hv'.1.mono rfl rfl)⟩))
    exact z_mn_u (hv.2.1 rfl) hv'.2 (fun r _ => (z_bad_m m2).symm)
/-- a letter fits when no record is wrong -/
def z_gd (E : z_E) (u : k_S) (t nr : Nat) (A B : Nat → Nat) (p j : Nat) : Bool := decide (∀ r, r < nr → ¬ (t ≤ A r ∧ ¬ z_pl (z_Ex E p (k_t101 j)) u 0 (A r - t) = J (B r)))
theorem z_gd_m {E : z_E} {u v : k_S} (h : z_moR v = z_moR u) {t nr : Nat} {A B : Nat → Nat} : z_gd E v t nr A B = z_gd E u t nr A B := by
  funext p j
  unfold z_gd
  simp only [z_pl_m h]
def z_bits (g : Nat → Bool) : Nat → Int32
  | 0 => 0
  | j + 1 => if g j then z_bits g j ||| ((1 : Int32) <<< (J j &&& 31)) else z_bits g j
def z_b4 (a b c d : Bool) : Int32 :=
  let x0 : Int32 := if a then 0 ||| ((1 : Int32) <<< (J 0 &&& 31)) else 0
  let x1 : Int32 := if b then x0 ||| ((1 : Int32) <<< (J 1 &&& 31)) else x0
  let x2 : Int32 := if c then x1 ||| ((1 : Int32) <<< (J 2 &&& 31)) else x1
  if d then x2 ||| ((1 : Int32) <<< (J 3 &&& 31)) else x2
theorem z_b4_J (a b c d : Bool) : ((List.range 16).any fun m => z_b4 a b c d == J m) = true := by
  cases a <;> cases b <;> cases c <;> cases d <;> decide +kernel
theorem z_bits_J (g : Nat → Bool) : ∃ m, m < 16 ∧ z_bits g 4 = J m := by
  obtain ⟨m, hm, e⟩ := List.any_eq_true.mp (z_b4_J (g 0) (g 1) (g 2) (g 3))
  exact ⟨m, List.mem_range.mp hm, eq_of_beq e⟩
