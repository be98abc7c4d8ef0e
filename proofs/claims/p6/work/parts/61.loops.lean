/-! COUNTS AND FIRSTS in thought: often, never, meets, two, round, truth -/
/-- in how many of the nights 1 .. n -/
def z_co (f : Nat → Bool) : Nat → Nat
  | 0 => 0
  | i + 1 => z_co f i + (if f (i + 1) = true then 1 else 0)
theorem z_co_le (f : Nat → Bool) : ∀ n, z_co f n ≤ n
  | 0 => Nat.le_refl 0
  | n + 1 => by
    have := z_co_le f n
    rw [z_co]
    split <;> omega
/-- the first of the nights 1 .. n, or -2 -/
def z_hit (f : Nat → Bool) (n : Nat) (r : Int32) : Prop := (∃ i, 1 ≤ i ∧ i ≤ n ∧ f i = true ∧ (∀ j, 1 ≤ j → j < i → f j = false) ∧ r = J i) ∨ ((∀ j, 1 ≤ j → j ≤ n → f j = false) ∧ r = -2)
theorem z_hit_u {f : Nat → Bool} {n : Nat} {r r' : Int32} (h : z_hit f n r) (h' : z_hit f n r') : r = r' := by
  rcases h with ⟨i, a1, a2, a3, a4, rfl⟩ | ⟨a1, rfl⟩ <;> rcases h' with ⟨j, b1, b2, b3, b4, rfl⟩ | ⟨b1, rfl⟩
  · have : i = j := by
      rcases Nat.lt_trichotomy i j with q | q | q
      · have := b4 i a1 q; rw [a3] at this; cases this
      · exact q
      · have := a4 j b1 q; rw [b3] at this; cases this
    rw [this]
  · have := b1 i a1 a2; rw [a3] at this; cases this
  · have := a1 j b1 b2; rw [b3] at this; cases this
  · rfl
/-- a loop whose carried pair counts: (c, i) -/
theorem z_for2 {Y A : Type} {b : A × Int32 → k_S → Option (((A × Int32) ⊕ Y) × k_S)} {K : Y → k_S → Prop} (a n : Nat) (x0 : A) (P : Nat → A → k_S → Prop) {u : k_S} (hn : n < 2147483648) (ha : a ≤ n) (h0 : P a x0 u) (hs : ∀ i x u, a ≤ i → i < n → P i x u → k_sat (b (x, J i) u) (fun z u' => (∃ x', z = .inl (x', J i + Int32.ofInt 1) ∧ P (i + 1) x' u') ∨ ∃ y, z = .inr y ∧ K y u')) (he : ∀ x u, P n x u → k_sat (b (x, J n) u) (fun z u' => ∃ y, z = .inr y ∧ K y u')) : k_sat (k_itr b k_FU (x0, J a) u) K := by
  refine z_itr (P := fun m x u => ∃ i, a ≤ i ∧ i ≤ n ∧ x.2 = J i ∧ m = n - i ∧ P i x.1 u) (fun m x u h => ?_) k_FU (n - a) (x0, J a) u (by unfold k_FU; omega) ⟨a, Nat.le_refl a, ha, rfl, rfl, h0⟩
  obtain ⟨x1, x2⟩ := x
  obtain ⟨i, hi0, hi, e, rfl, hp⟩ := h
  simp only at e hp
  subst e
  by_cases e : i = n
  · subst e
    exact z_mono (he x1 u hp) (fun z u' h => Or.inr h)
  · refine z_mono (hs i x1 u hi0 (by omega) hp) (fun z u' h => ?_)
    rcases h with ⟨x', rfl, h⟩ | h
    · exact Or.inl ⟨_, n - (i + 1), rfl, by omega, i + 1, by omega, by omega, z_J1 i, rfl, h⟩
    · exact Or.inr h
theorem J_c (c : Nat) (b : Prop) (d : Decidable b) : J (c + if b then 1 else 0) = if b then J c + Int32.ofInt 1 else J c := by
  by_cases h : b
  · rw [if_pos h, if_pos h, z_J1]
  · rw [if_neg h, if_neg h]; rfl
theorem z_pl_ok {E : z_E} {u : k_S} (h : z_ok E (z_moR u)) {w : Nat} (hw : w < E.1) (i : Nat) : ∃ p s : Nat, p < s ∧ s ≤ 40 ∧ z_pl E u w i = J p ∧ E.2.2.1 w = J s := by
  obtain ⟨p, s, a, -, b, c, d⟩ := (z_or_ok (K := 4) h i).1.2 w hw
  exact ⟨p, s, a, b, c, d⟩
theorem z_often (a b : Int32) (u : k_S) (h : zI u) : z_pair (f_W_often a b) (f_R_often a b) u zI := by
  obtain ⟨E, hE, -, -, -⟩ := z_env h
  obtain ⟨⟨k, hk1, hk2, c1, c2⟩, -⟩ := h.2.2.2.1
  have hE4 := hE.1.1
  have e1 := hE.1.2.1
  have e2 := hE.2.1.2.1
  refine z_pair_of ?_
  by_cases hr : (0 ≤ a.toInt ∧ a.toInt < k) ∧ 1 ≤ b.toInt ∧ b.toInt ≤ 2000
  · obtain ⟨⟨ha1, ha2⟩, hb1, hb2⟩ := hr
    obtain ⟨n, rfl, hn, -⟩ := J_of (x := b) (by omega)
    unfold f_W_often
    refine z_neg (by (try simp (disch := omega) only [Int32.lt_iff_toInt_lt, Int32.le_iff_toInt_le, ← Int32.toInt_inj, Int32.toInt_add, Int32.toInt_sub, Int32.toInt_mul, Int32.toInt_neg, z_bm, z_bm2, J_ti, J_toInt, z_cn, Int32.reduceToInt]) <;> omega) (z_neg (by (try simp (disch := omega) only [Int32.lt_iff_toInt_lt, Int32.le_iff_toInt_le, ← Int32.toInt_inj, Int32.toInt_add, Int32.toInt_sub, Int32.toInt_mul, Int32.toInt_neg, z_bm, z_bm2, J_ti, J_toInt, z_cn, Int32.reduceToInt]) <;> omega) (z_neg (by (try simp (disch := omega) only [Int32.lt_iff_toInt_lt, Int32.le_iff_toInt_le, ← Int32.toInt_inj, Int32.toInt_add, Int32.toInt_sub, Int32.toInt_mul, Int32.toInt_neg, z_bm, z_bm2, J_ti, J_toInt, z_cn, Int32.reduceToInt]) <;> omega) (z_pos (by rw [c1]; (try simp (disch := omega) only [Int32.lt_iff_toInt_lt, Int32.le_iff_toInt_le, ← Int32.toInt_inj, Int32.toInt_add, Int32.toInt_sub, Int32.toInt_mul, Int32.toInt_neg, z_bm, z_bm2, J_ti, J_toInt, z_cn, Int32.reduceToInt]) <;> omega) ?_)))
    by_cases h0 : E.1 = 0
    · refine z_pos (by rw [e1, h0]; rfl) (k_sat_mk ?_)
      unfold f_R_often
      rw [c2, z_Rin1 (by (try simp (disch := omega) only [Int32.lt_iff_toInt_lt, Int32.le_iff_toInt_le, ← Int32.toInt_inj, Int32.toInt_add, Int32.toInt_sub, Int32.toInt_mul, Int32.toInt_neg, z_bm, z_bm2, J_ti, J_toInt, z_cn, Int32.reduceToInt]) <;> omega) (by rw [J_m1 (by omega)]; (try simp (disch := omega) only [Int32.lt_iff_toInt_lt, Int32.le_iff_toInt_le, ← Int32.toInt_inj, Int32.toInt_add, Int32.toInt_sub, Int32.toInt_mul, Int32.toInt_neg, z_bm, z_bm2, J_ti, J_toInt, z_cn, Int32.reduceToInt]) <;> omega), z_bind_some]
      refine z_neg (by decide) ?_
      rw [z_Rin1 (by (try simp (disch := omega) only [Int32.lt_iff_toInt_lt, Int32.le_iff_toInt_le, ← Int32.toInt_inj, Int32.toInt_add, Int32.toInt_sub, Int32.toInt_mul, Int32.toInt_neg, z_bm, z_bm2, J_ti, J_toInt, z_cn, Int32.reduceToInt]) <;> omega) (by (try simp (disch := omega) only [Int32.lt_iff_toInt_lt, Int32.le_iff_toInt_le, ← Int32.toInt_inj, Int32.toInt_add, Int32.toInt_sub, Int32.toInt_mul, Int32.toInt_neg, z_bm, z_bm2, J_ti, J_toInt, z_cn, Int32.reduceToInt]) <;> omega), z_bind_some]
      exact z_neg (by decide) (z_pos (by rw [e2, h0]; rfl) (k_sat_mk ⟨rfl, h⟩))
    · refine z_neg (by rw [e1]; (try simp (disch := omega) only [Int32.lt_iff_toInt_lt, Int32.le_iff_toInt_le, ← Int32.toInt_inj, Int32.toInt_add, Int32.toInt_sub, Int32.toInt_mul, Int32.toInt_neg, z_bm, z_bm2, J_ti, J_toInt, z_cn, Int32.reduceToInt]) <;> omega) ?_
      have hf : ∀ i, z_pl E u 0 i % J k = z_pl E u 0 i % J k := fun _ => rfl
      unfold f_Nights_timesOfDay
      refine z_bind (fun r v => r = J (z_co (fun i => decide (z_pl E u 0 i % J k = a)) n) ∧ z_fr [1702, 1206, 704] [18, 19, 9, 13] u v) (z_bind _ (z_Wt_0 hE) (fun _ u1 h1 => z_bind _ (z_for2 0 n 0 (fun i x v => x = J (z_co (fun i => decide (z_pl E u 0 i % J k = a)) i) ∧ z_Wt E 1 u i v) (K := fun y v => y = J (z_co (fun i => decide (z_pl E u 0 i % J k = a)) n) ∧ z_fr [1702, 1206, 704] [18, 19, 9, 13] u v) (by omega) (Nat.zero_le n) ⟨rfl, h1.le (by omega)⟩ (fun i x v _ hi hp => ?_) (fun x v hp => ?_)) (fun y v hv => k_sat_mk hv))) (fun r v hv => k_sat_mk ?_)
      · obtain ⟨rfl, hp⟩ := hp
        unfold f_Nights_timesOfDay_B9
        dsimp only
        refine z_neg (by (try simp (disch := omega) only [Int32.lt_iff_toInt_lt, Int32.le_iff_toInt_le, ← Int32.toInt_inj, Int32.toInt_add, Int32.toInt_sub, Int32.toInt_mul, Int32.toInt_neg, z_bm, z_bm2, J_ti, J_toInt, z_cn, Int32.reduceToInt]) <;> omega) (z_bind _ (z_Wt_s (K := 1) hE.1 (by omega) hp) (fun _ v' hv' => ?_))
        rw [show (0 : Int32) = J 0 from rfl, z_Wt_p hv' (by omega) (by omega), z_bind_some]
        unfold f_Nights_dayOf
        rw [hv'.1.1 1205 rfl, c1, z_Wleft hk1 (by omega), z_bind_some, z_bind_some]
        have hc : J (z_co (fun i => decide (z_pl E u 0 i % J k = a)) (i + 1)) = if z_pl E u 0 (i + 1) % J k = a then J (z_co (fun i => decide (z_pl E u 0 i % J k = a)) i) + Int32.ofInt 1 else J (z_co (fun i => decide (z_pl E u 0 i % J k = a)) i) := by
          rw [z_co, J_c]
          by_cases q : z_pl E u 0 (i + 1) % J k = a
          · rw [if_pos q, if_pos (by simpa using q)]
          · rw [if_neg q, if_neg (by simpa using q)]
        refine z_ite (fun q => k_sat_mk (Or.inl ⟨_, rfl, ?_, hv'⟩)) (fun q => k_sat_mk (Or.inl ⟨_, rfl, ?_, hv'⟩))
        · rw [hc, if_pos q]
        · rw [hc, if_neg q]
      · obtain ⟨rfl, hp⟩ := hp
        unfold f_Nights_timesOfDay_B9
        exact z_pos (Int32.le_refl _) (k_sat_mk ⟨_, rfl, rfl, hp.1⟩)
      · obtain ⟨rfl, hv⟩ := hv
        obtain ⟨i2, hE2, m2, q1, q2, -⟩ := z_Wdone h hE hv
        unfold f_R_often
        rw [q2, c2, z_Rin1 (by (try simp (disch := omega) only [Int32.lt_iff_toInt_lt, Int32.le_iff_toInt_le, ← Int32.toInt_inj, Int32.toInt_add, Int32.toInt_sub, Int32.toInt_mul, Int32.toInt_neg, z_bm, z_bm2, J_ti, J_toInt, z_cn, Int32.reduceToInt]) <;> omega) (by rw [J_m1 (by omega)]; (try simp (disch := omega) only [Int32.lt_iff_toInt_lt, Int32.le_iff_toInt_le, ← Int32.toInt_inj, Int32.toInt_add, Int32.toInt_sub, Int32.toInt_mul, Int32.toInt_neg, z_bm, z_bm2, J_ti, J_toInt, z_cn, Int32.reduceToInt]) <;> omega), z_bind_some]
        refine z_neg (by decide) ?_
        rw [z_Rin1 (by (try simp (disch := omega) only [Int32.lt_iff_toInt_lt, Int32.le_iff_toInt_le, ← Int32.toInt_inj, Int32.toInt_add, Int32.toInt_sub, Int32.toInt_mul, Int32.toInt_neg, z_bm, z_bm2, J_ti, J_toInt, z_cn, Int32.reduceToInt]) <;> omega) (by (try simp (disch := omega) only [Int32.lt_iff_toInt_lt, Int32.le_iff_toInt_le, ← Int32.toInt_inj, Int32.toInt_add, Int32.toInt_sub, Int32.toInt_mul, Int32.toInt_neg, z_bm, z_bm2, J_ti, J_toInt, z_cn, Int32.reduceToInt]) <;> omega), z_bind_some]
        refine z_neg (by decide) (z_neg (by rw [q1, e2]; (try simp (disch := omega) only [Int32.lt_iff_toInt_lt, Int32.le_iff_toInt_le, ← Int32.toInt_inj, Int32.toInt_add, Int32.toInt_sub, Int32.toInt_mul, Int32.toInt_neg, z_bm, z_bm2, J_ti, J_toInt, z_cn, Int32.reduceToInt]) <;> omega) (z_bind _ (z_Rt_0 E v) (fun _ u3 h3 => z_bind _ (z_for2 0 n 0 (fun i x w => x = J (z_co (fun i => decide (z_pl E u 0 i % J k = a)) i) ∧ z_Rt E v i w) (K := fun y w => y = J (z_co (fun i => decide (z_pl E u 0 i % J k = a)) n) ∧ z_Rt E v n w) (by omega) (Nat.zero_le n) ⟨rfl, h3⟩ (fun i x w _ hi hp => ?_) (fun x w hp => ?_)) (fun y w hw => z_bind _ (z_Rt_b hE4 hw.2) (fun _ w' hw' => k_sat_mk ⟨hw.1.symm, zI_0 i2 (hw'.mono rfl rfl)⟩)))))
        · obtain ⟨rfl, hp⟩ := hp
          unfold f_R_often_B46
          dsimp only
          refine z_neg (by (try simp (disch := omega) only [Int32.lt_iff_toInt_lt, Int32.le_iff_toInt_le, ← Int32.toInt_inj, Int32.toInt_add, Int32.toInt_sub, Int32.toInt_mul, Int32.toInt_neg, z_bm, z_bm2, J_ti, J_toInt, z_cn, Int32.reduceToInt]) <;> omega) (z_bind _ (z_Rt_s hE2.2.1 hE2.2.2.2.1 hp) (fun _ w' hw' => z_ck (by decide) (by decide) (z_nz (by rw [hw'.1.1 4210 rfl, q2, c2]; (try simp (disch := omega) only [Int32.lt_iff_toInt_lt, Int32.le_iff_toInt_le, ← Int32.toInt_inj, Int32.toInt_add, Int32.toInt_sub, Int32.toInt_mul, Int32.toInt_neg, z_bm, z_bm2, J_ti, J_toInt, z_cn, Int32.reduceToInt]) <;> omega) ?_)))
          rw [hw'.1.1 4210 rfl, q2, c2, show (0 : Int32).toNatClampNeg = 0 from rfl, (z_Rt_p hw' 0).1, z_pl_m m2]
          have hc : J (z_co (fun i => decide (z_pl E u 0 i % J k = a)) (i + 1)) = if z_pl E u 0 (i + 1) % J k = a then J (z_co (fun i => decide (z_pl E u 0 i % J k = a)) i) + Int32.ofInt 1 else J (z_co (fun i => decide (z_pl E u 0 i % J k = a)) i) := by
            rw [z_co, J_c]
            by_cases q : z_pl E u 0 (i + 1) % J k = a
            · rw [if_pos q, if_pos (by simpa using q)]
            · rw [if_neg q, if_neg (by simpa using q)]
          refine z_ite (fun q => k_sat_mk (Or.inl ⟨_, rfl, ?_, hw'⟩)) (fun q => k_sat_mk (Or.inl ⟨_, rfl, ?_, hw'⟩))
          · rw [hc, if_pos q]
          · rw [hc, if_neg q]
        · obtain ⟨rfl, hp⟩ := hp
          unfold f_R_often_B46
          exact z_pos (Int32.le_refl _) (k_sat_mk ⟨_, rfl, rfl, hp⟩)
  · have hR : k_sat (f_R_often a b u) (fun r' v => (-1 : Int32) = r' ∧ zI v) := by
      unfold f_R_often
      rw [c2]
      by_cases q : 0 ≤ a.toInt ∧ a.toInt < k
      · rw [z_Rin1 (by (try simp (disch := omega) only [Int32.lt_iff_toInt_lt, Int32.le_iff_toInt_le, ← Int32.toInt_inj, Int32.toInt_add, Int32.toInt_sub, Int32.toInt_mul, Int32.toInt_neg, z_bm, z_bm2, J_ti, J_toInt, z_cn, Int32.reduceToInt]) <;> omega) (by rw [J_m1 (by omega)]; (try simp (disch := omega) only [Int32.lt_iff_toInt_lt, Int32.le_iff_toInt_le, ← Int32.toInt_inj, Int32.toInt_add, Int32.toInt_sub, Int32.toInt_mul, Int32.toInt_neg, z_bm, z_bm2, J_ti, J_toInt, z_cn, Int32.reduceToInt]) <;> omega), z_bind_some]
        refine z_neg (by decide) ?_
        rw [z_Rin0 (by ((try simp (disch := omega) only [Int32.lt_iff_toInt_lt, Int32.le_iff_toInt_le, ← Int32.toInt_inj, Int32.toInt_add, Int32.toInt_sub, Int32.toInt_mul, Int32.toInt_neg, z_bm, z_bm2, J_ti, J_toInt, z_cn, Int32.reduceToInt] at *); omega)), z_bind_some]
        exact z_pos rfl (k_sat_mk ⟨rfl, h⟩)
      · rw [z_Rin0 (by rw [J_m1 (by omega)]; ((try simp (disch := omega) only [Int32.lt_iff_toInt_lt, Int32.le_iff_toInt_le, ← Int32.toInt_inj, Int32.toInt_add, Int32.toInt_sub, Int32.toInt_mul, Int32.toInt_neg, z_bm, z_bm2, J_ti, J_toInt, z_cn, Int32.reduceToInt] at *); omega)), z_bind_some]
        exact z_pos rfl (k_sat_mk ⟨rfl, h⟩)
    unfold f_W_often
    rw [c1]
    exact z_ite (fun _ => k_sat_mk hR) (fun _ => z_ite (fun _ => k_sat_mk hR) (fun _ => z_ite (fun _ => k_sat_mk hR) (fun _ => z_neg (by ((try simp (disch := omega) only [Int32.lt_iff_toInt_lt, Int32.le_iff_toInt_le, ← Int32.toInt_inj, Int32.toInt_add, Int32.toInt_sub, Int32.toInt_mul, Int32.toInt_neg, z_bm, z_bm2, J_ti, J_toInt, z_cn, Int32.reduceToInt] at *); omega)) (k_sat_mk hR))))
