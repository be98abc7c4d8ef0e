/-! watch: which nights tell the letters apart -/
def z_bt (x : Int32) (i : Nat) : Bool := decide ((x >>> (J i &&& 31)) &&& 1 = 1)
theorem z_bt_all : ((List.range 1024).all fun n => (List.range 10).all fun i => (((1 : Int32) <<< (J i &&& 31)) &&& J n == 0) == !(z_bt (J n) i)) = true := by decide +kernel
theorem z_bt_16 : ((List.range 16).all fun m => (List.range 4).all fun i => z_bt (J m) i || ((J m >>> (J i &&& 31)) &&& 1 == 0)) = true := by decide +kernel
theorem z_bt_2 : ((List.range 16).all fun m => decide (z_bc (J m) < 2) || ((List.range 4).any fun a => (List.range 4).any fun b => decide (a < b) && z_bt (J m) a && z_bt (J m) b)) = true := by decide +kernel
theorem z_bt_0 : ((List.range 10).all fun i => z_bt 0 i == false) = true := by decide +kernel
theorem z_bt_n {m i : Nat} (hm : m < 16) (hi : i < 4) : z_bt (J m) i = false ↔ (J m >>> (J i &&& 31)) &&& 1 = 0 := by
  have := List.all_eq_true.mp (List.all_eq_true.mp z_bt_16 m (List.mem_range.mpr hm)) i (List.mem_range.mpr hi)
  constructor
  · intro q
    rw [q, Bool.false_or] at this
    exact eq_of_beq this
  · intro q
    unfold z_bt
    rw [q]
    rfl
theorem z_or0 (a b : Int32) : a ||| b = 0 ↔ a = 0 ∧ b = 0 := Int32.or_eq_zero_iff
theorem z_oad (a b c : Int32) : (a ||| b) &&& c = (a &&& c) ||| (b &&& c) := by
  apply Int32.toBitVec_inj.mp
  simp only [Int32.toBitVec_and, Int32.toBitVec_or]
  ext i hi
  simp [Bool.and_or_distrib_right]
theorem z_bits_and (g : Nat → Bool) {n : Nat} (hn : n < 1024) : ∀ k, k ≤ 10 → (z_bits g k &&& J n = 0 ↔ ∀ i, i < k → g i = true → z_bt (J n) i = false)
  | 0, _ => ⟨fun _ i hi => by omega, fun _ => by rw [z_bits]; exact Int32.zero_and⟩
  | k + 1, hk => by
    have ih := z_bits_and g hn k (by omega)
    have tb := eq_of_beq (List.all_eq_true.mp (List.all_eq_true.mp z_bt_all n (List.mem_range.mpr hn)) k (List.mem_range.mpr (by omega)))
    rw [z_bits]
    by_cases hg : g k = true
    · rw [if_pos hg, z_oad, z_or0, ih]
      constructor
      · rintro ⟨a, b⟩ i hi hgi
        by_cases e : i = k
        · subst e
          rw [b] at tb
          cases hq : z_bt (J n) i with
          | false => rfl
          | true => rw [hq] at tb; cases tb
        · exact a i (by omega) hgi
      · intro a
        refine ⟨fun i hi => a i (by omega), ?_⟩
        rw [a k (by omega) hg] at tb
        exact eq_of_beq tb
    · rw [if_neg hg, ih]
      constructor
      · intro a i hi hgi
        by_cases e : i = k
        · subst e; exact absurd hgi hg
        · exact a i (by omega) hgi
      · exact fun a i hi => a i (by omega)
/-- a night of the set tells letters a, b apart; every two that fit are told apart -/
def z_pc (H : Nat → Nat → Int32) (x : Int32) (a b : Nat) : Prop := ∃ i, i < 10 ∧ z_bt x i = true ∧ ¬ H a i = H b i
def z_pt (H : Nat → Nat → Int32) (m x : Int32) : Prop := ∀ a b, a < b → b < 4 → z_bt m a = true → z_bt m b = true → z_pc H x a b
def z_dif (H : Nat → Nat → Int32) (a b i : Nat) : Bool := decide (¬ H a i = H b i)
theorem z_pc_iff {H : Nat → Nat → Int32} {n a b : Nat} (hn : n < 1024) : z_pc H (J n) a b ↔ ¬ z_bits (z_dif H a b) 10 &&& J n = 0 := by
  rw [z_bits_and _ hn 10 (by omega)]
  constructor
  · rintro ⟨i, h1, h2, h3⟩ q
    have := q i h1 (decide_eq_true h3)
    rw [h2] at this
    cases this
  · intro q
    by_cases c : z_pc H (J n) a b
    · exact c
    · exact absurd (fun i hi hg => by
        cases hq : z_bt (J n) i with
        | false => rfl
        | true => exact absurd ⟨i, hi, hq, of_decide_eq_true hg⟩ c) q
theorem z_ten (j i : Nat) : (10 : Int32) * J j + J i = J (10 * j + i) := by
  rw [show (10 : Int32) = J 10 from rfl, J_mul, J_add]
theorem z_elev (j i : Nat) : (11 : Int32) * J j + J i = J (11 * j + i) := by
  rw [show (11 : Int32) = J 11 from rfl, J_mul, J_add]
theorem z_d4 {c : Nat} (h : c < 16) : J c / 4 = J (c / 4) ∧ J c % 4 = J (c % 4) := by
  rw [show (4 : Int32) = J 4 from rfl]
  exact ⟨J_div c 4 (by omega) (by omega), J_mod c 4 (by omega) (by omega)⟩
/-- the class compares -/
theorem z_cmpL (H : Nat → Nat → Int32) {u : k_S} (h25 : ∀ j i, j < 4 → i < 10 → u.2.1 25 (10 * j + i) = H j i) : k_sat (f_Judging_compareLetters u) (fun _ v => z_fr [] [26] u v ∧ ∀ c, c < 16 → v.2.1 26 c = z_bits (z_dif H (c / 4) (c % 4)) 10) := by
  unfold f_Judging_compareLetters
  refine z_bind _ (z_for 0 16 (fun k v => z_fr [] [26] u v ∧ ∀ c, c < k → v.2.1 26 c = z_bits (z_dif H (c / 4) (c % 4)) 10) (K := fun _ v => z_fr [] [26] u v ∧ ∀ c, c < 16 → v.2.1 26 c = z_bits (z_dif H (c / 4) (c % 4)) 10) (by omega) (by omega) ⟨z_fr.rf, fun c hc => by omega⟩ (fun c v _ hc hp => ?_) (fun v hp => ?_)) (fun _ v hv => k_sat_mk hv)
  · obtain ⟨g1, g2⟩ := hp
    unfold f_Judging_compareLetters_B2
    refine z_neg (by (try simp (disch := omega) only [Int32.lt_iff_toInt_lt, Int32.le_iff_toInt_le, ← Int32.toInt_inj, Int32.toInt_add, Int32.toInt_sub, Int32.toInt_mul, Int32.toInt_neg, z_bm, z_bm2, J_ti, J_toInt, z_cn, Int32.reduceToInt]) <;> omega) (z_bind (fun y v' => v' = v ∧ y = z_bits (z_dif H (c / 4) (c % 4)) 10) (z_for2 0 10 0 (fun i x v' => v' = v ∧ x = z_bits (z_dif H (c / 4) (c % 4)) i) (by omega) (by omega) ⟨rfl, rfl⟩ (fun i x v' _ hi hp => ?_) (fun x v' hp => ?_)) (fun y v' hv' => ?_))
    · obtain ⟨rfl, rfl⟩ := hp
      have hc4 : c / 4 < 4 := by omega
      have hm4 : c % 4 < 4 := by omega
      unfold f_Judging_compareLetters_B15
      dsimp only
      simp only [k_let]
      rw [(z_d4 hc).1, (z_d4 hc).2, z_ten, z_ten, J_toNat (show 10 * (c / 4) + i < 2147483648 by omega), J_toNat (show 10 * (c % 4) + i < 2147483648 by omega), g1.2.1 25 rfl, h25 _ i hc4 hi, h25 _ i hm4 hi]
      have hst : z_bits (z_dif H (c / 4) (c % 4)) (i + 1) = if z_dif H (c / 4) (c % 4) i then z_bits (z_dif H (c / 4) (c % 4)) i ||| ((1 : Int32) <<< (J i &&& 31)) else z_bits (z_dif H (c / 4) (c % 4)) i := rfl
      refine z_neg (by (try simp (disch := omega) only [Int32.lt_iff_toInt_lt, Int32.le_iff_toInt_le, ← Int32.toInt_inj, Int32.toInt_add, Int32.toInt_sub, Int32.toInt_mul, Int32.toInt_neg, z_bm, z_bm2, J_ti, J_toInt, z_cn, Int32.reduceToInt]) <;> omega) (z_neg (by (try simp (disch := omega) only [Int32.lt_iff_toInt_lt, Int32.le_iff_toInt_le, ← Int32.toInt_inj, Int32.toInt_add, Int32.toInt_sub, Int32.toInt_mul, Int32.toInt_neg, z_bm, z_bm2, J_ti, J_toInt, z_cn, Int32.reduceToInt]) <;> omega) (z_pos (by (try simp (disch := omega) only [Int32.lt_iff_toInt_lt, Int32.le_iff_toInt_le, ← Int32.toInt_inj, Int32.toInt_add, Int32.toInt_sub, Int32.toInt_mul, Int32.toInt_neg, z_bm, z_bm2, J_ti, J_toInt, z_cn, Int32.reduceToInt]) <;> omega) (z_ck (by (try simp (disch := omega) only [Int32.lt_iff_toInt_lt, Int32.le_iff_toInt_le, ← Int32.toInt_inj, Int32.toInt_add, Int32.toInt_sub, Int32.toInt_mul, Int32.toInt_neg, z_bm, z_bm2, J_ti, J_toInt, z_cn, Int32.reduceToInt]) <;> omega) (by (try simp (disch := omega) only [Int32.lt_iff_toInt_lt, Int32.le_iff_toInt_le, ← Int32.toInt_inj, Int32.toInt_add, Int32.toInt_sub, Int32.toInt_mul, Int32.toInt_neg, z_bm, z_bm2, J_ti, J_toInt, z_cn, Int32.reduceToInt]) <;> omega) (z_ck (by (try simp (disch := omega) only [Int32.lt_iff_toInt_lt, Int32.le_iff_toInt_le, ← Int32.toInt_inj, Int32.toInt_add, Int32.toInt_sub, Int32.toInt_mul, Int32.toInt_neg, z_bm, z_bm2, J_ti, J_toInt, z_cn, Int32.reduceToInt]) <;> omega) (by (try simp (disch := omega) only [Int32.lt_iff_toInt_lt, Int32.le_iff_toInt_le, ← Int32.toInt_inj, Int32.toInt_add, Int32.toInt_sub, Int32.toInt_mul, Int32.toInt_neg, z_bm, z_bm2, J_ti, J_toInt, z_cn, Int32.reduceToInt]) <;> omega) (z_ite (fun q => k_sat_mk (Or.inl ⟨_, rfl, rfl, ?_⟩)) (fun q => k_sat_mk (Or.inl ⟨_, rfl, rfl, ?_⟩)))))))
      · rw [hst, if_neg]
        unfold z_dif
        simp [q]
      · rw [hst, if_pos]
        unfold z_dif
        simp [q]
    · obtain ⟨rfl, rfl⟩ := hp
      unfold f_Judging_compareLetters_B15
      exact z_pos (Int32.le_refl _) (k_sat_mk ⟨_, rfl, rfl, rfl⟩)
    · obtain ⟨rfl, rfl⟩ := hv'
      refine z_ck (by (try simp (disch := omega) only [Int32.lt_iff_toInt_lt, Int32.le_iff_toInt_le, ← Int32.toInt_inj, Int32.toInt_add, Int32.toInt_sub, Int32.toInt_mul, Int32.toInt_neg, z_bm, z_bm2, J_ti, J_toInt, z_cn, Int32.reduceToInt]) <;> omega) (by (try simp (disch := omega) only [Int32.lt_iff_toInt_lt, Int32.le_iff_toInt_le, ← Int32.toInt_inj, Int32.toInt_add, Int32.toInt_sub, Int32.toInt_mul, Int32.toInt_neg, z_bm, z_bm2, J_ti, J_toInt, z_cn, Int32.reduceToInt]) <;> omega) (z_let (k_sat_mk (Or.inl ⟨rfl, g1.tr (z_wA rfl), fun c' hc' => ?_⟩)))
      simp only [k_wA, if_true, z_up, J_toNat (show c < 2147483648 by omega)]
      by_cases e : c' = c
      · rw [if_pos e, e]
      · rw [if_neg e]; exact g2 c' (by omega)
  · unfold f_Judging_compareLetters_B2
    exact z_pos (Int32.le_refl _) (k_sat_mk ⟨_, rfl, hp⟩)
theorem z_tell (H : Nat → Nat → Int32) {u : k_S} {n m : Nat} (hn : n < 1024) (h26 : ∀ c, c < 16 → u.2.1 26 c = z_bits (z_dif H (c / 4) (c % 4)) 10) : k_sat (f_Judging_tellApart (J n) (J m) u) (fun r v => v = u ∧ ((r = 1 ∧ z_pt H (J m) (J n)) ∨ (r = 0 ∧ ¬ z_pt H (J m) (J n)))) := by
  unfold f_Judging_tellApart
  refine z_bind _ (z_for 0 16 (fun k v => v = u ∧ ∀ c, c < k → c / 4 < c % 4 → z_bt (J m) (c / 4) = true → z_bt (J m) (c % 4) = true → z_pc H (J n) (c / 4) (c % 4)) (K := fun y v => v = u ∧ ((y = .inr () ∧ z_pt H (J m) (J n)) ∨ (y = .inl 0 ∧ ¬ z_pt H (J m) (J n)))) (by omega) (by omega) ⟨rfl, fun c hc => by omega⟩ (fun c v _ hc hp => ?_) (fun v hp => ?_)) (fun y v hv => ?_)
  · obtain ⟨rfl, hp⟩ := hp
    have hc4 : c / 4 < 4 := by omega
    have hm4 : c % 4 < 4 := by omega
    unfold f_Judging_tellApart_B2
    rw [(z_d4 hc).1, (z_d4 hc).2]
    have skip : ¬ (c / 4 < c % 4 ∧ z_bt (J m) (c / 4) = true ∧ z_bt (J m) (c % 4) = true) → ∀ c', c' < c + 1 → c' / 4 < c' % 4 → z_bt (J m) (c' / 4) = true → z_bt (J m) (c' % 4) = true → z_pc H (J n) (c' / 4) (c' % 4) := by
      intro q c' h1 h2 h3 h4
      by_cases e : c' = c
      · subst e; exact absurd ⟨h2, h3, h4⟩ q
      · exact hp c' (by omega) h2 h3 h4
    have j45 : ¬ (c / 4 < c % 4 ∧ z_bt (J m) (c / 4) = true ∧ z_bt (J m) (c % 4) = true) → k_sat (f_Judging_tellApart_J45 (J n) (J m) (J c) (J (c / 4)) (J (c % 4)) v) (fun z u' => (z = .inl (J c + Int32.ofInt 1) ∧ u' = v ∧ ∀ c', c' < c + 1 → c' / 4 < c' % 4 → z_bt (J m) (c' / 4) = true → z_bt (J m) (c' % 4) = true → z_pc H (J n) (c' / 4) (c' % 4)) ∨ ∃ y, z = .inr y ∧ u' = v ∧ ((y = .inr () ∧ z_pt H (J m) (J n)) ∨ (y = .inl 0 ∧ ¬ z_pt H (J m) (J n)))) := by
      intro q
      unfold f_Judging_tellApart_J45 f_Judging_tellApart_J46
      exact z_ite (fun _ => k_sat_mk (Or.inl ⟨rfl, rfl, skip q⟩)) (fun _ => z_pos rfl (k_sat_mk (Or.inl ⟨rfl, rfl, skip q⟩)))
    refine z_neg (by (try simp (disch := omega) only [Int32.lt_iff_toInt_lt, Int32.le_iff_toInt_le, ← Int32.toInt_inj, Int32.toInt_add, Int32.toInt_sub, Int32.toInt_mul, Int32.toInt_neg, z_bm, z_bm2, J_ti, J_toInt, z_cn, Int32.reduceToInt]) <;> omega) (z_let (z_let (z_ite (fun b1 => z_ite (fun b2 => ?_) (fun b2 => j45 (fun q => b2 (of_decide_eq_true q.2.2)))) (fun b1 => j45 (fun q => b1 (of_decide_eq_true q.2.1))))))
    unfold f_Judging_tellApart_J46
    by_cases hlt : c / 4 < c % 4
    · refine z_neg (by (try simp (disch := omega) only [Int32.lt_iff_toInt_lt, Int32.le_iff_toInt_le, ← Int32.toInt_inj, Int32.toInt_add, Int32.toInt_sub, Int32.toInt_mul, Int32.toInt_neg, z_bm, z_bm2, J_ti, J_toInt, z_cn, Int32.reduceToInt]) <;> omega) (z_neg (by decide) (z_ck (by (try simp (disch := omega) only [Int32.lt_iff_toInt_lt, Int32.le_iff_toInt_le, ← Int32.toInt_inj, Int32.toInt_add, Int32.toInt_sub, Int32.toInt_mul, Int32.toInt_neg, z_bm, z_bm2, J_ti, J_toInt, z_cn, Int32.reduceToInt]) <;> omega) (by (try simp (disch := omega) only [Int32.lt_iff_toInt_lt, Int32.le_iff_toInt_le, ← Int32.toInt_inj, Int32.toInt_add, Int32.toInt_sub, Int32.toInt_mul, Int32.toInt_neg, z_bm, z_bm2, J_ti, J_toInt, z_cn, Int32.reduceToInt]) <;> omega) ?_))
      rw [J_toNat (show c < 2147483648 by omega), h26 c hc]
      have hpi := z_pc_iff (H := H) (a := c / 4) (b := c % 4) hn
      refine z_ite (fun q => k_sat_mk (Or.inr ⟨_, rfl, rfl, Or.inr ⟨rfl, fun hpt => ?_⟩⟩)) (fun q => k_sat_mk (Or.inl ⟨rfl, rfl, fun c' h1 h2 h3 h4 => ?_⟩))
      · exact hpi.mp (hpt _ _ hlt hm4 (decide_eq_true b1) (decide_eq_true b2)) q
      · by_cases e : c' = c
        · subst e; exact hpi.mpr q
        · exact hp c' (by omega) h2 h3 h4
    · exact z_pos (by (try simp (disch := omega) only [Int32.lt_iff_toInt_lt, Int32.le_iff_toInt_le, ← Int32.toInt_inj, Int32.toInt_add, Int32.toInt_sub, Int32.toInt_mul, Int32.toInt_neg, z_bm, z_bm2, J_ti, J_toInt, z_cn, Int32.reduceToInt]) <;> omega) (k_sat_mk (Or.inl ⟨rfl, rfl, skip (fun q => hlt q.1)⟩))
  · obtain ⟨rfl, hp⟩ := hp
    unfold f_Judging_tellApart_B2
    refine z_pos (by decide) (k_sat_mk ⟨_, rfl, rfl, Or.inl ⟨rfl, fun a b h1 h2 h3 h4 => ?_⟩⟩)
    have ea : (4 * a + b) / 4 = a := by omega
    have eb : (4 * a + b) % 4 = b := by omega
    have := hp (4 * a + b) (by omega)
    rw [ea, eb] at this
    exact this h1 h3 h4
  · obtain ⟨rfl, ⟨rfl, hy⟩ | ⟨rfl, hy⟩⟩ := hv
    · exact k_sat_mk ⟨rfl, Or.inl ⟨rfl, hy⟩⟩
    · exact k_sat_mk ⟨rfl, Or.inr ⟨rfl, hy⟩⟩
/-- the reference's -/
theorem z_part (H : Nat → Nat → Int32) {u : k_S} {n m : Nat} (hm : m < 16) (h67 : ∀ j i, j < 4 → i < 10 → u.2.1 67 (11 * j + (i + 1)) = H j i) : k_sat (f_R_doesPart (J n) (J m) u) (fun r v => v = u ∧ ((r = 1 ∧ z_pt H (J m) (J n)) ∨ (r = 0 ∧ ¬ z_pt H (J m) (J n)))) := by
  unfold f_R_doesPart
  refine z_bind _ (z_for 0 4 (fun a v => v = u ∧ ∀ a' b, a' < a → a' < b → b < 4 → z_bt (J m) a' = true → z_bt (J m) b = true → z_pc H (J n) a' b) (K := fun y v => v = u ∧ ((y = .inr () ∧ z_pt H (J m) (J n)) ∨ (y = .inl 0 ∧ ¬ z_pt H (J m) (J n)))) (by omega) (by omega) ⟨rfl, fun a b hc => by omega⟩ (fun a v _ ha hp => ?_) (fun v hp => ?_)) (fun y v hv => ?_)
  · obtain ⟨rfl, hp⟩ := hp
    unfold f_R_doesPart_B2
    refine z_neg (by (try simp (disch := omega) only [Int32.lt_iff_toInt_lt, Int32.le_iff_toInt_le, ← Int32.toInt_inj, Int32.toInt_add, Int32.toInt_sub, Int32.toInt_mul, Int32.toInt_neg, z_bm, z_bm2, J_ti, J_toInt, z_cn, Int32.reduceToInt]) <;> omega) (z_let ?_)
    rw [z_Jp]
    refine z_bind (fun y v' => v' = v ∧ ((y = .inr () ∧ ∀ b, a < b → b < 4 → z_bt (J m) a = true → z_bt (J m) b = true → z_pc H (J n) a b) ∨ (y = .inl 0 ∧ ¬ z_pt H (J m) (J n)))) (z_for (a + 1) 4 (fun k v' => v' = v ∧ ∀ b, a < b → b < k → z_bt (J m) a = true → z_bt (J m) b = true → z_pc H (J n) a b) (by omega) (by omega) ⟨rfl, fun b h1 h2 => by omega⟩ (fun b v' hb0 hb hp2 => ?_) (fun v' hp2 => ?_)) (fun y v' hv' => ?_)
    · obtain ⟨rfl, hp2⟩ := hp2
      have skip : ¬ (z_bt (J m) a = true ∧ z_bt (J m) b = true) → ∀ b', a < b' → b' < b + 1 → z_bt (J m) a = true → z_bt (J m) b' = true → z_pc H (J n) a b' := by
        intro q b' h1 h2 h3 h4
        by_cases e : b' = b
        · subst e; exact absurd ⟨h3, h4⟩ q
        · exact hp2 b' h1 (by omega) h3 h4
      unfold f_R_doesPart_B12
      refine z_neg (by (try simp (disch := omega) only [Int32.lt_iff_toInt_lt, Int32.le_iff_toInt_le, ← Int32.toInt_inj, Int32.toInt_add, Int32.toInt_sub, Int32.toInt_mul, Int32.toInt_neg, z_bm, z_bm2, J_ti, J_toInt, z_cn, Int32.reduceToInt]) <;> omega) (z_ite (fun b1 => k_sat_mk (Or.inl ⟨rfl, rfl, skip (fun q => by rw [(z_bt_n hm ha).mpr b1] at q; cases q.1)⟩)) (fun b1 => z_ite (fun b2 => k_sat_mk (Or.inl ⟨rfl, rfl, skip (fun q => by rw [(z_bt_n hm hb).mpr b2] at q; cases q.2)⟩)) (fun b2 => ?_)))
      have c1 : z_bt (J m) a = true := by
        cases hq : z_bt (J m) a with
        | true => rfl
        | false => exact absurd ((z_bt_n hm ha).mp hq) b1
      have c2 : z_bt (J m) b = true := by
        cases hq : z_bt (J m) b with
        | true => rfl
        | false => exact absurd ((z_bt_n hm hb).mp hq) b2
      refine z_bind (fun y v2 => v2 = v' ∧ ((y = 1 ∧ z_pc H (J n) a b) ∨ (y = 0 ∧ ¬ z_pc H (J n) a b))) (z_for2 1 11 0 (fun k x v2 => v2 = v' ∧ ((x = 1 ∧ z_pc H (J n) a b) ∨ (x = 0 ∧ ∀ i, i + 1 < k → z_bt (J n) i = true → H a i = H b i))) (by omega) (by omega) ⟨rfl, Or.inr ⟨rfl, fun i hi => by omega⟩⟩ (fun k x v2 hk0 hk hp3 => ?_) (fun x v2 hp3 => ?_)) (fun y v2 hv2 => ?_)
      · obtain ⟨rfl, hp3⟩ := hp3
        obtain ⟨i, rfl⟩ : ∃ i, k = i + 1 := ⟨k - 1, by omega⟩
        unfold f_R_doesPart_B44
        dsimp only
        rw [z_Jm, z_elev, z_elev, J_toNat (show 11 * a + (i + 1) < 2147483648 by omega), J_toNat (show 11 * b + (i + 1) < 2147483648 by omega), h67 a i (by omega) (by omega), h67 b i hb (by omega)]
        have keep : (z_bt (J n) i = true → H a i = H b i) → (x = 1 ∧ z_pc H (J n) a b) ∨ (x = 0 ∧ ∀ i', i' + 1 < i + 1 + 1 → z_bt (J n) i' = true → H a i' = H b i') := by
          intro q
          rcases hp3 with hp3 | ⟨h1, h2⟩
          · exact Or.inl hp3
          · refine Or.inr ⟨h1, fun i' hi' hq => ?_⟩
            by_cases e : i' = i
            · subst e; exact q hq
            · exact h2 i' (by omega) hq
        refine z_neg (by (try simp (disch := omega) only [Int32.lt_iff_toInt_lt, Int32.le_iff_toInt_le, ← Int32.toInt_inj, Int32.toInt_add, Int32.toInt_sub, Int32.toInt_mul, Int32.toInt_neg, z_bm, z_bm2, J_ti, J_toInt, z_cn, Int32.reduceToInt]) <;> omega) (z_ite (fun q => z_ck (by (try simp (disch := omega) only [Int32.lt_iff_toInt_lt, Int32.le_iff_toInt_le, ← Int32.toInt_inj, Int32.toInt_add, Int32.toInt_sub, Int32.toInt_mul, Int32.toInt_neg, z_bm, z_bm2, J_ti, J_toInt, z_cn, Int32.reduceToInt]) <;> omega) (by (try simp (disch := omega) only [Int32.lt_iff_toInt_lt, Int32.le_iff_toInt_le, ← Int32.toInt_inj, Int32.toInt_add, Int32.toInt_sub, Int32.toInt_mul, Int32.toInt_neg, z_bm, z_bm2, J_ti, J_toInt, z_cn, Int32.reduceToInt]) <;> omega) (z_ck (by (try simp (disch := omega) only [Int32.lt_iff_toInt_lt, Int32.le_iff_toInt_le, ← Int32.toInt_inj, Int32.toInt_add, Int32.toInt_sub, Int32.toInt_mul, Int32.toInt_neg, z_bm, z_bm2, J_ti, J_toInt, z_cn, Int32.reduceToInt]) <;> omega) (by (try simp (disch := omega) only [Int32.lt_iff_toInt_lt, Int32.le_iff_toInt_le, ← Int32.toInt_inj, Int32.toInt_add, Int32.toInt_sub, Int32.toInt_mul, Int32.toInt_neg, z_bm, z_bm2, J_ti, J_toInt, z_cn, Int32.reduceToInt]) <;> omega) (z_ite (fun q2 => k_sat_mk (Or.inl ⟨_, rfl, rfl, keep (fun _ => q2)⟩)) (fun q2 => k_sat_mk (Or.inl ⟨_, rfl, rfl, Or.inl ⟨rfl, i, by omega, decide_eq_true q, q2⟩⟩))))) (fun q => k_sat_mk (Or.inl ⟨_, rfl, rfl, keep (fun q2 => absurd (of_decide_eq_true q2) q)⟩)))
      · obtain ⟨rfl, hp3⟩ := hp3
        unfold f_R_doesPart_B44
        refine z_pos (show (10 : Int32) < J 11 by decide) (k_sat_mk ⟨_, rfl, rfl, ?_⟩)
        rcases hp3 with hp3 | ⟨h1, h2⟩
        · exact Or.inl hp3
        · exact Or.inr ⟨h1, fun ⟨i, q1, q2, q3⟩ => q3 (h2 i (by omega) q2)⟩
      · obtain ⟨rfl, ⟨rfl, h1⟩ | ⟨rfl, h1⟩⟩ := hv2
        · refine z_neg (by decide) (k_sat_mk (Or.inl ⟨rfl, rfl, fun b' q1 q2 q3 q4 => ?_⟩))
          by_cases e : b' = b
          · subst e; exact h1
          · exact hp2 b' q1 (by omega) q3 q4
        · exact z_pos rfl (k_sat_mk (Or.inr ⟨_, rfl, rfl, Or.inr ⟨rfl, fun q => h1 (q a b (by omega) hb c1 c2)⟩⟩))
    · obtain ⟨rfl, hp2⟩ := hp2
      unfold f_R_doesPart_B12
      exact z_pos (Int32.le_refl _) (k_sat_mk ⟨_, rfl, rfl, Or.inl ⟨rfl, hp2⟩⟩)
    · obtain ⟨rfl, ⟨rfl, h1⟩ | ⟨rfl, h1⟩⟩ := hv'
      · refine k_sat_mk (Or.inl ⟨rfl, rfl, fun a' b q1 q2 q3 q4 q5 => ?_⟩)
        by_cases e : a' = a
        · subst e; exact h1 b q2 q3 q4 q5
        · exact hp a' b (by omega) q2 q3 q4 q5
      · exact k_sat_mk (Or.inr ⟨_, rfl, rfl, Or.inr ⟨rfl, h1⟩⟩)
  · obtain ⟨rfl, hp⟩ := hp
    unfold f_R_doesPart_B2
    exact z_pos (Int32.le_refl _) (k_sat_mk ⟨_, rfl, rfl, Or.inl ⟨rfl, fun a b h1 h2 => hp a b (by omega) h1 h2⟩⟩)
  · obtain ⟨rfl, ⟨rfl, hy⟩ | ⟨rfl, hy⟩⟩ := hv
    · exact k_sat_mk ⟨rfl, Or.inl ⟨rfl, hy⟩⟩
    · exact k_sat_mk ⟨rfl, Or.inr ⟨rfl, hy⟩⟩
