/-! COUNTS AND FIRSTS in thought: often, never, meets, two, round, truth -/
/-- in how many of the nights 1 .. n -/
def z_co (f : Nat → Bool) : Nat → Nat
  | 0 => 0
  | i + 1 => z_co f i + (if f (i + 1) = true then 1 else 0)
theorem z_co_le (f : Nat → Bool) : ∀ n, z_co f n ≤ n
  | 0 => Nat.le_refl 0
  | n + 1 => by
    have := z_co_le f n
    rw [z_co]
    split <;> omega
/-- the first of the nights 1 .. n, or -2 -/
def z_hit (f : Nat → Bool) (n : Nat) (r : Int32) : Prop := (∃ i, 1 ≤ i ∧ i ≤ n ∧ f i = true ∧ (∀ j, 1 ≤ j → j < i → f j = false) ∧ r = J i) ∨ ((∀ j, 1 ≤ j → j ≤ n → f j = false) ∧ r = -2)
theorem z_hit_u {f : Nat → Bool} {n : Nat} {r r' : Int32} (h : z_hit f n r) (h' : z_hit f n r') : r = r' := by
  rcases h with ⟨i, a1, a2, a3, a4, rfl⟩ | ⟨a1, rfl⟩ <;> rcases h' with ⟨j, b1, b2, b3, b4, rfl⟩ | ⟨b1, rfl⟩
  · have : i = j := by
      rcases Nat.lt_trichotomy i j with q | q | q
      · have := b4 i a1 q; rw [a3] at this; cases this
      · exact q
      · have := a4 j b1 q; rw [b3] at this; cases this
    rw [this]
  · have := b1 i a1 a2; rw [a3] at this; cases this
  · have := a1 j b1 b2; rw [b3] at this; cases this
  · rfl
/-- a loop whose carried pair counts: (c, i) -/
theorem z_for2 {Y A : Type} {b : A × Int32 → k_S → Option (((A × Int32) ⊕ Y) × k_S)} {K : Y → k_S → Prop} (a n : Nat) (x0 : A) (P : Nat → A → k_S → Prop) {u : k_S} (hn : n < 2147483648) (ha : a ≤ n) (h0 : P a x0 u) (hs : ∀ i x u, a ≤ i → i < n → P i x u → k_sat (b (x, J i) u) (fun z u' => (∃ x', z = .inl (x', J i + Int32.ofInt 1) ∧ P (i + 1) x' u') ∨ ∃ y, z = .inr y ∧ K y u')) (he : ∀ x u, P n x u → k_sat (b (x, J n) u) (fun z u' => ∃ y, z = .inr y ∧ K y u')) : k_sat (k_itr b k_FU (x0, J a) u) K := by
  refine z_itr (P := fun m x u => ∃ i, a ≤ i ∧ i ≤ n ∧ x.2 = J i ∧ m = n - i ∧ P i x.1 u) (fun m x u h => ?_) k_FU (n - a) (x0, J a) u (by unfold k_FU; omega) ⟨a, Nat.le_refl a, ha, rfl, rfl, h0⟩
  obtain ⟨x1, x2⟩ := x
  obtain ⟨i, hi0, hi, e, rfl, hp⟩ := h
  simp only at e hp
  subst e
  by_cases e : i = n
  · subst e
    exact z_mono (he x1 u hp) (fun z u' h => Or.inr h)
  · refine z_mono (hs i x1 u hi0 (by omega) hp) (fun z u' h => ?_)
    rcases h with ⟨x', rfl, h⟩ | h
    · exact Or.inl ⟨_, n - (i + 1), rfl, by omega, i + 1, by omega, by omega, z_J1 i, rfl, h⟩
    · exact Or.inr h
theorem J_c (c : Nat) (b : Prop) (d : Decidable b) : J (c + if b then 1 else 0) = if b then J c + Int32.ofInt 1 else J c := by
  by_cases h : b
  · rw [if_pos h, if_pos h, z_J1]
  · rw [if_neg h, if_neg h]; rfl
theorem z_pl_ok {E : z_E} {u : k_S} (h : z_ok E (z_moR u)) {w : Nat} (hw : w < E.1) (i : Nat) : ∃ p s : Nat, p < s ∧ s ≤ 40 ∧ z_pl E u w i = J p ∧ E.2.2.1 w = J s := by
  obtain ⟨p, s, a, -, b, c, d⟩ := (z_or_ok (K := 4) h i).1.2 w hw
  exact ⟨p, s, a, b, c, d⟩
theorem z_often (a b : Int32) (u : k_S) (h : zI u) : z_pair (f_W_often a b) (f_R_often a b) u zI := by
  obtain ⟨E, hE, -, -, -⟩ := z_env h
  obtain ⟨⟨k, hk1, hk2, c1, c2⟩, -⟩ := h.2.2.2.1
  have hE4 := hE.1.1
  have e1 := hE.1.2.1
  have e2 := hE.2.1.2.1
  refine z_pair_of ?_
  by_cases hr : (0 ≤ a.toInt ∧ a.toInt < k) ∧ 1 ≤ b.toInt ∧ b.toInt ≤ 2000
  · obtain ⟨⟨ha1, ha2⟩, hb1, hb2⟩ := hr
    obtain ⟨n, rfl, hn, -⟩ := J_of (x := b) (by omega)
    unfold f_W_often
    refine z_neg (by (try simp (disch := omega) only [Int32.lt_iff_toInt_lt, Int32.le_iff_toInt_le, ← Int32.toInt_inj, Int32.toInt_add, Int32.toInt_sub, Int32.toInt_mul, Int32.toInt_neg, z_bm, z_bm2, J_ti, J_toInt, z_cn, Int32.reduceToInt]) <;> omega) (z_neg (by (try simp (disch := omega) only [Int32.lt_iff_toInt_lt, Int32.le_iff_toInt_le, ← Int32.toInt_inj, Int32.toInt_add, Int32.toInt_sub, Int32.toInt_mul, Int32.toInt_neg, z_bm, z_bm2, J_ti, J_toInt, z_cn, Int32.reduceToInt]) <;> omega) (z_neg (by (try simp (disch := omega) only [Int32.lt_iff_toInt_lt, Int32.le_iff_toInt_le, ← Int32.toInt_inj, Int32.toInt_add, Int32.toInt_sub, Int32.toInt_mul, Int32.toInt_neg, z_bm, z_bm2, J_ti, J_toInt, z_cn, Int32.reduceToInt]) <;> omega) (z_pos (by rw [c1]; (try simp (disch := omega) only [Int32.lt_iff_toInt_lt, Int32.le_iff_toInt_le, ← Int32.toInt_inj, Int32.toInt_add, Int32.toInt_sub, Int32.toInt_mul, Int32.toInt_neg, z_bm, z_bm2, J_ti, J_toInt, z_cn, Int32.reduceToInt]) <;> omega) ?_)))
    by_cases h0 : E.1 = 0
    · refine z_pos (by rw [e1, h0]; rfl) (k_sat_mk ?_)
      unfold f_R_often
      rw [c2, z_Rin1 (by (try simp (disch := omega) only [Int32.lt_iff_toInt_lt, Int32.le_iff_toInt_le, ← Int32.toInt_inj, Int32.toInt_add, Int32.toInt_sub, Int32.toInt_mul, Int32.toInt_neg, z_bm, z_bm2, J_ti, J_toInt, z_cn, Int32.reduceToInt]) <;> omega) (by rw [J_m1 (by omega)]; (try simp (disch := omega) only [Int32.lt_iff_toInt_lt, Int32.le_iff_toInt_le, ← Int32.toInt_inj, Int32.toInt_add, Int32.toInt_sub, Int32.toInt_mul, Int32.toInt_neg, z_bm, z_bm2, J_ti, J_toInt, z_cn, Int32.reduceToInt]) <;> omega), z_bind_some]
      refine z_neg (by decide) ?_
      rw [z_Rin1 (by (try simp (disch := omega) only [Int32.lt_iff_toInt_lt, Int32.le_iff_toInt_le, ← Int32.toInt_inj, Int32.toInt_add, Int32.toInt_sub, Int32.toInt_mul, Int32.toInt_neg, z_bm, z_bm2, J_ti, J_toInt, z_cn, Int32.reduceToInt]) <;> omega) (by (try simp (disch := omega) only [Int32.lt_iff_toInt_lt, Int32.le_iff_toInt_le, ← Int32.toInt_inj, Int32.toInt_add, Int32.toInt_sub, Int32.toInt_mul, Int32.toInt_neg, z_bm, z_bm2, J_ti, J_toInt, z_cn, Int32.reduceToInt]) <;> omega), z_bind_some]
      exact z_neg (by decide) (z_pos (by rw [e2, h0]; rfl) (k_sat_mk ⟨rfl, h⟩))
    · refine z_neg (by rw [e1]; (try simp (disch := omega) only [Int32.lt_iff_toInt_lt, Int32.le_iff_toInt_le, ← Int32.toInt_inj, Int32.toInt_add, Int32.toInt_sub, Int32.toInt_mul, Int32.toInt_neg, z_bm, z_bm2, J_ti, J_toInt, z_cn, Int32.reduceToInt]) <;> omega) ?_
      have hf : ∀ i, z_pl E u 0 i % J k = z_pl E u 0 i % J k := fun _ => rfl
      unfold f_Nights_timesOfDay
      refine z_bind (fun r v => r = J (z_co (fun i => decide (z_pl E u 0 i % J k = a)) n) ∧ z_fr [1702, 1206, 704] [18, 19, 9, 13] u v) (z_bind _ (z_Wt_0 hE) (fun _ u1 h1 => z_bind _ (z_for2 0 n 0 (fun i x v => x = J (z_co (fun i => decide (z_pl E u 0 i % J k = a)) i) ∧ z_Wt E 1 u i v) (K := fun y v => y = J (z_co (fun i => decide (z_pl E u 0 i % J k = a)) n) ∧ z_fr [1702, 1206, 704] [18, 19, 9, 13] u v) (by omega) (Nat.zero_le n) ⟨rfl, h1.le (by omega)⟩ (fun i x v _ hi hp => ?_) (fun x v hp => ?_)) (fun y v hv => k_sat_mk hv))) (fun r v hv => k_sat_mk ?_)
      · obtain ⟨rfl, hp⟩ := hp
        unfold f_Nights_timesOfDay_B9
        dsimp only
        refine z_neg (by (try simp (disch := omega) only [Int32.lt_iff_toInt_lt, Int32.le_iff_toInt_le, ← Int32.toInt_inj, Int32.toInt_add, Int32.toInt_sub, Int32.toInt_mul, Int32.toInt_neg, z_bm, z_bm2, J_ti, J_toInt, z_cn, Int32.reduceToInt]) <;> omega) (z_bind _ (z_Wt_s (K := 1) hE.1 (by omega) hp) (fun _ v' hv' => ?_))
        rw [show (0 : Int32) = J 0 from rfl, z_Wt_p hv' (by omega) (by omega), z_bind_some]
        unfold f_Nights_dayOf
        rw [hv'.1.1 1205 rfl, c1, z_Wleft hk1 (by omega), z_bind_some, z_bind_some]
        have hc : J (z_co (fun i => decide (z_pl E u 0 i % J k = a)) (i + 1)) = if z_pl E u 0 (i + 1) % J k = a then J (z_co (fun i => decide (z_pl E u 0 i % J k = a)) i) + Int32.ofInt 1 else J (z_co (fun i => decide (z_pl E u 0 i % J k = a)) i) := by
          rw [z_co, J_c]
          by_cases q : z_pl E u 0 (i + 1) % J k = a
          · rw [if_pos q, if_pos (by simpa using q)]
          · rw [if_neg q, if_neg (by simpa using q)]
        refine z_ite (fun q => k_sat_mk (Or.inl ⟨_, rfl, ?_, hv'⟩)) (fun q => k_sat_mk (Or.inl ⟨_, rfl, ?_, hv'⟩))
        · rw [hc, if_pos q]
        · rw [hc, if_neg q]
      · obtain ⟨rfl, hp⟩ := hp
        unfold f_Nights_timesOfDay_B9
        exact z_pos (Int32.le_refl _) (k_sat_mk ⟨_, rfl, rfl, hp.1⟩)
      · obtain ⟨rfl, hv⟩ := hv
        obtain ⟨i2, hE2, m2, q1, q2, -⟩ := z_Wdone h hE hv
        unfold f_R_often
        rw [q2, c2, z_Rin1 (by (try simp (disch := omega) only [Int32.lt_iff_toInt_lt, Int32.le_iff_toInt_le, ← Int32.toInt_inj, Int32.toInt_add, Int32.toInt_sub, Int32.toInt_mul, Int32.toInt_neg, z_bm, z_bm2, J_ti, J_toInt, z_cn, Int32.reduceToInt]) <;> omega) (by rw [J_m1 (by omega)]; (try simp (disch := omega) only [Int32.lt_iff_toInt_lt, Int32.le_iff_toInt_le, ← Int32.toInt_inj, Int32.toInt_add, Int32.toInt_sub, Int32.toInt_mul, Int32.toInt_neg, z_bm, z_bm2, J_ti, J_toInt, z_cn, Int32.reduceToInt]) <;> omega), z_bind_some]
        refine z_neg (by decide) ?_
        rw [z_Rin1 (by (try simp (disch := omega) only [Int32.lt_iff_toInt_lt, Int32.le_iff_toInt_le, ← Int32.toInt_inj, Int32.toInt_add, Int32.toInt_sub, Int32.toInt_mul, Int32.toInt_neg, z_bm, z_bm2, J_ti, J_toInt, z_cn, Int32.reduceToInt]) <;> omega) (by (try simp (disch := omega) only [Int32.lt_iff_toInt_lt, Int32.le_iff_toInt_le, ← Int32.toInt_inj, Int32.toInt_add, Int32.toInt_sub, Int32.toInt_mul, Int32.toInt_neg, z_bm, z_bm2, J_ti, J_toInt, z_cn, Int32.reduceToInt]) <;> omega), z_bind_some]
        refine z_neg (by decide) (z_neg (by rw [q1, e2]; (try simp (disch := omega) only [Int32.lt_iff_toInt_lt, Int32.le_iff_toInt_le, ← Int32.toInt_inj, Int32.toInt_add, Int32.toInt_sub, Int32.toInt_mul, Int32.toInt_neg, z_bm, z_bm2, J_ti, J_toInt, z_cn, Int32.reduceToInt]) <;> omega) (z_bind _ (z_Rt_0 E v) (fun _ u3 h3 => z_bind _ (z_for2 0 n 0 (fun i x w => x = J (z_co (fun i => decide (z_pl E u 0 i % J k = a)) i) ∧ z_Rt E v i w) (K := fun y w => y = J (z_co (fun i => decide (z_pl E u 0 i % J k = a)) n) ∧ z_Rt E v n w) (by omega) (Nat.zero_le n) ⟨rfl, h3⟩ (fun i x w _ hi hp => ?_) (fun x w hp => ?_)) (fun y w hw => z_bind _ (z_Rt_b hE4 hw.2) (fun _ w' hw' => k_sat_mk ⟨hw.1.symm, zI_0 i2 (hw'.mono rfl rfl)⟩)))))
        · obtain ⟨rfl, hp⟩ := hp
          unfold f_R_often_B46
          dsimp only
          refine z_neg (by (try simp (disch := omega) only [Int32.lt_iff_toInt_lt, Int32.le_iff_toInt_le, ← Int32.toInt_inj, Int32.toInt_add, Int32.toInt_sub, Int32.toInt_mul, Int32.toInt_neg, z_bm, z_bm2, J_ti, J_toInt, z_cn, Int32.reduceToInt]) <;> omega) (z_bind _ (z_Rt_s hE2.2.1 hE2.2.2.2.1 hp) (fun _ w' hw' => z_ck (by decide) (by decide) (z_nz (by rw [hw'.1.1 4210 rfl, q2, c2]; (try simp (disch := omega) only [Int32.lt_iff_toInt_lt, Int32.le_iff_toInt_le, ← Int32.toInt_inj, Int32.toInt_add, Int32.toInt_sub, Int32.toInt_mul, Int32.toInt_neg, z_bm, z_bm2, J_ti, J_toInt, z_cn, Int32.reduceToInt]) <;> omega) ?_)))
          rw [hw'.1.1 4210 rfl, q2, c2, show (0 : Int32).toNatClampNeg = 0 from rfl, (z_Rt_p hw' 0).1, z_pl_m m2]
          have hc : J (z_co (fun i => decide (z_pl E u 0 i % J k = a)) (i + 1)) = if z_pl E u 0 (i + 1) % J k = a then J (z_co (fun i => decide (z_pl E u 0 i % J k = a)) i) + Int32.ofInt 1 else J (z_co (fun i => decide (z_pl E u 0 i % J k = a)) i) := by
            rw [z_co, J_c]
            by_cases q : z_pl E u 0 (i + 1) % J k = a
            · rw [if_pos q, if_pos (by simpa using q)]
            · rw [if_neg q, if_neg (by simpa using q)]
          refine z_ite (fun q => k_sat_mk (Or.inl ⟨_, rfl, ?_, hw'⟩)) (fun q => k_sat_mk (Or.inl ⟨_, rfl, ?_, hw'⟩))
          · rw [hc, if_pos q]
          · rw [hc, if_neg q]
        · obtain ⟨rfl, hp⟩ := hp
          unfold f_R_often_B46
          exact z_pos (Int32.le_refl _) (k_sat_mk ⟨_, rfl, rfl, hp⟩)
  · have hR : k_sat (f_R_often a b u) (fun r' v => (-1 : Int32) = r' ∧ zI v) := by
      unfold f_R_often
      rw [c2]
      by_cases q : 0 ≤ a.toInt ∧ a.toInt < k
      · rw [z_Rin1 (by (try simp (disch := omega) only [Int32.lt_iff_toInt_lt, Int32.le_iff_toInt_le, ← Int32.toInt_inj, Int32.toInt_add, Int32.toInt_sub, Int32.toInt_mul, Int32.toInt_neg, z_bm, z_bm2, J_ti, J_toInt, z_cn, Int32.reduceToInt]) <;> omega) (by rw [J_m1 (by omega)]; (try simp (disch := omega) only [Int32.lt_iff_toInt_lt, Int32.le_iff_toInt_le, ← Int32.toInt_inj, Int32.toInt_add, Int32.toInt_sub, Int32.toInt_mul, Int32.toInt_neg, z_bm, z_bm2, J_ti, J_toInt, z_cn, Int32.reduceToInt]) <;> omega), z_bind_some]
        refine z_neg (by decide) ?_
        rw [z_Rin0 (by ((try simp (disch := omega) only [Int32.lt_iff_toInt_lt, Int32.le_iff_toInt_le, ← Int32.toInt_inj, Int32.toInt_add, Int32.toInt_sub, Int32.toInt_mul, Int32.toInt_neg, z_bm, z_bm2, J_ti, J_toInt, z_cn, Int32.reduceToInt] at *); omega)), z_bind_some]
        exact z_pos rfl (k_sat_mk ⟨rfl, h⟩)
      · rw [z_Rin0 (by rw [J_m1 (by omega)]; ((try simp (disch := omega) only [Int32.lt_iff_toInt_lt, Int32.le_iff_toInt_le, ← Int32.toInt_inj, Int32.toInt_add, Int32.toInt_sub, Int32.toInt_mul, Int32.toInt_neg, z_bm, z_bm2, J_ti, J_toInt, z_cn, Int32.reduceToInt] at *); omega)), z_bind_some]
        exact z_pos rfl (k_sat_mk ⟨rfl, h⟩)
    unfold f_W_often
    rw [c1]
    exact z_ite (fun _ => k_sat_mk hR) (fun _ => z_ite (fun _ => k_sat_mk hR) (fun _ => z_ite (fun _ => k_sat_mk hR) (fun _ => z_neg (by ((try simp (disch := omega) only [Int32.lt_iff_toInt_lt, Int32.le_iff_toInt_le, ← Int32.toInt_inj, Int32.toInt_add, Int32.toInt_sub, Int32.toInt_mul, Int32.toInt_neg, z_bm, z_bm2, J_ti, J_toInt, z_cn, Int32.reduceToInt] at *); omega)) (k_sat_mk hR))))
/-! meets, two, round -/
theorem z_for3 {Y A B : Type} {b : A × B × Int32 → k_S → Option (((A × B × Int32) ⊕ Y) × k_S)} {K : Y → k_S → Prop} (a n : Nat) (x0 : A) (y0 : B) (P : Nat → A → B → k_S → Prop) {u : k_S} (hn : n < 2147483648) (ha : a ≤ n) (h0 : P a x0 y0 u) (hs : ∀ i x y u, a ≤ i → i < n → P i x y u → k_sat (b (x, y, J i) u) (fun z u' => (∃ x' y', z = .inl (x', y', J i + Int32.ofInt 1) ∧ P (i + 1) x' y' u') ∨ ∃ r, z = .inr r ∧ K r u')) (he : ∀ x y u, P n x y u → k_sat (b (x, y, J n) u) (fun z u' => ∃ r, z = .inr r ∧ K r u')) : k_sat (k_itr b k_FU (x0, y0, J a) u) K := by
  refine z_itr (P := fun m x u => ∃ i, a ≤ i ∧ i ≤ n ∧ x.2.2 = J i ∧ m = n - i ∧ P i x.1 x.2.1 u) (fun m x u h => ?_) k_FU (n - a) (x0, y0, J a) u (by unfold k_FU; omega) ⟨a, Nat.le_refl a, ha, rfl, rfl, h0⟩
  obtain ⟨x1, x2, x3⟩ := x
  obtain ⟨i, hi0, hi, e, rfl, hp⟩ := h
  simp only at e hp
  subst e
  by_cases e : i = n
  · subst e
    exact z_mono (he x1 x2 u hp) (fun z u' h => Or.inr h)
  · refine z_mono (hs i x1 x2 u hi0 (by omega) hp) (fun z u' h => ?_)
    rcases h with ⟨x', y', rfl, h⟩ | h
    · exact Or.inl ⟨_, n - (i + 1), rfl, by omega, i + 1, by omega, by omega, z_J1 i, rfl, h⟩
    · exact Or.inr h
/-- a spot: a wheel and a place, or none -/
theorem z_spot {E : z_E} {u : k_S} (hE : z_en E u) (a : Int32) : (∃ w p s : Nat, w < E.1 ∧ p < s ∧ s ≤ 40 ∧ E.2.2.1 w = J s ∧ a / 100 = J w ∧ a % 100 = J p ∧ f_W_isSpot a u = some (1, u) ∧ ∀ v : k_S, v.1 4203 = u.1 4203 → v.2.1 45 = u.2.1 45 → f_R_isSpot a v = some (1, v)) ∨ (f_W_isSpot a u = some (0, u) ∧ f_R_isSpot a u = some (0, u)) := by
  have hE4 := hE.1.1
  have e1 := hE.1.2.1
  have e2 := hE.2.1.2.1
  unfold f_W_isSpot f_R_isSpot
  by_cases h0 : a < 0
  · rw [if_pos h0, if_pos h0]; exact Or.inr ⟨rfl, rfl⟩
  · rw [if_neg h0, if_neg h0]
    obtain ⟨q, rfl, hq, hq2⟩ := J_of (x := a) (by ((try simp (disch := omega) only [Int32.lt_iff_toInt_lt, Int32.le_iff_toInt_le, ← Int32.toInt_inj, Int32.toInt_add, Int32.toInt_sub, Int32.toInt_mul, Int32.toInt_neg, z_bm, z_bm2, J_ti, J_toInt, z_cn, Int32.reduceToInt] at *); omega))
    have hd : J q / 100 = J (q / 100) := J_div q 100 hq2 (by omega)
    have hm : J q % 100 = J (q % 100) := J_mod q 100 hq2 (by omega)
    rw [hd, hm]
    have hq3 : q / 100 < 2147483648 := by omega
    have hq4 : q % 100 < 100 := Nat.mod_lt _ (by omega)
    by_cases hw : q / 100 < E.1
    · obtain ⟨p', s, -, h2, hs, -, es⟩ := hE.2.2.1.2 _ hw
      have es5 : u.2.1 5 (q / 100) = J s := by rw [hE.1.2.2.2.1]; exact es
      have es45 : u.2.1 45 (q / 100) = J s := ((hE.2.1.2.2.1 _ hw).1).trans es
      by_cases hp : q % 100 < s
      · refine Or.inl ⟨q / 100, q % 100, s, hw, hp, hs, es, rfl, rfl, ?_, fun v v1 v2 => ?_⟩
        · rw [z_WhasP e1 hE4 hw es5 hs hp, z_bind_some, if_neg (by decide)]
        · rw [if_neg h0, z_RisWheel (v1.trans e2) hE4 hw, z_bind_some, if_neg (by decide), z_cko _ (by (try simp (disch := omega) only [Int32.lt_iff_toInt_lt, Int32.le_iff_toInt_le, ← Int32.toInt_inj, Int32.toInt_add, Int32.toInt_sub, Int32.toInt_mul, Int32.toInt_neg, z_bm, z_bm2, J_ti, J_toInt, z_cn, Int32.reduceToInt]) <;> omega) (by (try simp (disch := omega) only [Int32.lt_iff_toInt_lt, Int32.le_iff_toInt_le, ← Int32.toInt_inj, Int32.toInt_add, Int32.toInt_sub, Int32.toInt_mul, Int32.toInt_neg, z_bm, z_bm2, J_ti, J_toInt, z_cn, Int32.reduceToInt]) <;> omega), J_toNat (by omega), v2, es45, if_neg (by (try simp (disch := omega) only [Int32.lt_iff_toInt_lt, Int32.le_iff_toInt_le, ← Int32.toInt_inj, Int32.toInt_add, Int32.toInt_sub, Int32.toInt_mul, Int32.toInt_neg, z_bm, z_bm2, J_ti, J_toInt, z_cn, Int32.reduceToInt]) <;> omega)]
      · refine Or.inr ⟨?_, ?_⟩
        · rw [z_WhasP0 e1 hE4 hw es5 hs (by rw [J_toInt (by omega)]; omega), z_bind_some, if_pos rfl]
        · rw [z_RisWheel e2 hE4 hw, z_bind_some, if_neg (by decide), z_cko _ (by (try simp (disch := omega) only [Int32.lt_iff_toInt_lt, Int32.le_iff_toInt_le, ← Int32.toInt_inj, Int32.toInt_add, Int32.toInt_sub, Int32.toInt_mul, Int32.toInt_neg, z_bm, z_bm2, J_ti, J_toInt, z_cn, Int32.reduceToInt]) <;> omega) (by (try simp (disch := omega) only [Int32.lt_iff_toInt_lt, Int32.le_iff_toInt_le, ← Int32.toInt_inj, Int32.toInt_add, Int32.toInt_sub, Int32.toInt_mul, Int32.toInt_neg, z_bm, z_bm2, J_ti, J_toInt, z_cn, Int32.reduceToInt]) <;> omega), J_toNat (by omega), es45, if_pos (by (try simp (disch := omega) only [Int32.lt_iff_toInt_lt, Int32.le_iff_toInt_le, ← Int32.toInt_inj, Int32.toInt_add, Int32.toInt_sub, Int32.toInt_mul, Int32.toInt_neg, z_bm, z_bm2, J_ti, J_toInt, z_cn, Int32.reduceToInt]) <;> omega)]
    · refine Or.inr ⟨?_, ?_⟩
      · rw [z_WhasP00 e1 hE4 (by rw [J_toInt (by omega)]; omega), z_bind_some, if_pos rfl]
      · rw [z_RisWheel0 e2 hE4 (by rw [J_toInt (by omega)]; omega), z_bind_some, if_pos rfl]
theorem z_meets (a b c : Int32) (u : k_S) (h : zI u) : z_pair (f_W_meets a b c) (f_R_meets a b c) u zI := by
  obtain ⟨E, hE, -, -, -⟩ := z_env h
  have hE4 := hE.1.1
  refine z_pair_of ?_
  unfold f_W_meets
  rcases z_spot hE a with ⟨w, p, s, hw, hp, hs, es, ed, em, sW, sR⟩ | ⟨sW, sR⟩
  · rw [sW, z_bind_some]
    refine z_neg (by decide) ?_
    by_cases hr : (1 ≤ b.toInt ∧ b.toInt ≤ 2000) ∧ 0 ≤ c.toInt ∧ c.toInt ≤ 1
    · obtain ⟨⟨hb1, hb2⟩, hc1, hc2⟩ := hr
      obtain ⟨n, rfl, hn, -⟩ := J_of (x := b) (by omega)
      refine z_neg (by (try simp (disch := omega) only [Int32.lt_iff_toInt_lt, Int32.le_iff_toInt_le, ← Int32.toInt_inj, Int32.toInt_add, Int32.toInt_sub, Int32.toInt_mul, Int32.toInt_neg, z_bm, z_bm2, J_ti, J_toInt, z_cn, Int32.reduceToInt]) <;> omega) (z_neg (by (try simp (disch := omega) only [Int32.lt_iff_toInt_lt, Int32.le_iff_toInt_le, ← Int32.toInt_inj, Int32.toInt_add, Int32.toInt_sub, Int32.toInt_mul, Int32.toInt_neg, z_bm, z_bm2, J_ti, J_toInt, z_cn, Int32.reduceToInt]) <;> omega) (z_neg (by (try simp (disch := omega) only [Int32.lt_iff_toInt_lt, Int32.le_iff_toInt_le, ← Int32.toInt_inj, Int32.toInt_add, Int32.toInt_sub, Int32.toInt_mul, Int32.toInt_neg, z_bm, z_bm2, J_ti, J_toInt, z_cn, Int32.reduceToInt]) <;> omega) (z_pos (by (try simp (disch := omega) only [Int32.lt_iff_toInt_lt, Int32.le_iff_toInt_le, ← Int32.toInt_inj, Int32.toInt_add, Int32.toInt_sub, Int32.toInt_mul, Int32.toInt_neg, z_bm, z_bm2, J_ti, J_toInt, z_cn, Int32.reduceToInt]) <;> omega) ?_)))
      have hf : ∃ f : Nat → Bool, ∀ i, f i = decide (z_pl E u w i = J p) := ⟨_, fun _ => rfl⟩
      obtain ⟨f, hf⟩ := hf
      have key : ∀ fl : Int32, (fl = 0 ∨ fl = 1) → k_sat (f_Nights_timesAt (J w) (J p) (J n) fl u) (fun r v => z_fr [1702, 1206, 704] [18, 19, 9, 13] u v ∧ (fl = 0 → r = J (z_co f n)) ∧ (fl = 1 → z_hit f n r)) := by
        intro fl hfl
        unfold f_Nights_timesAt
        refine z_bind _ (z_Wt_0 hE) (fun _ u1 h1 => z_bind _ (z_for2 1 (n + 1) 0 (fun i x v => z_Wt E (w + 1) u (i - 1) v ∧ x = J (z_co f (i - 1)) ∧ (fl = 1 → ∀ j, 1 ≤ j → j < i → f j = false)) (K := fun y v => z_fr [1702, 1206, 704] [18, 19, 9, 13] u v ∧ ((∃ i, y = .inl (J i) ∧ fl = 1 ∧ 1 ≤ i ∧ i ≤ n ∧ f i = true ∧ ∀ j, 1 ≤ j → j < i → f j = false) ∨ (y = .inr (J (z_co f n)) ∧ (fl = 1 → ∀ j, 1 ≤ j → j ≤ n → f j = false)))) (by omega) (by omega) ⟨h1.le (by omega), rfl, fun _ j _ _ => by omega⟩ (fun i x v hi0 hi hp' => ?_) (fun x v hp' => ?_)) (fun y v hv => ?_))
        · obtain ⟨g1, rfl, g3⟩ := hp'
          unfold f_Nights_timesAt_B10
          dsimp only
          refine z_neg (by (try simp (disch := omega) only [Int32.lt_iff_toInt_lt, Int32.le_iff_toInt_le, ← Int32.toInt_inj, Int32.toInt_add, Int32.toInt_sub, Int32.toInt_mul, Int32.toInt_neg, z_bm, z_bm2, J_ti, J_toInt, z_cn, Int32.reduceToInt]) <;> omega) ?_
          rw [z_Jp]
          refine z_bind _ (z_Wt_s hE.1 (by omega) g1) (fun _ v' hv' => ?_)
          rw [show i - 1 + 1 = i by omega] at hv'
          rw [z_Wt_p hv' (by omega) (by omega), z_bind_some]
          have hco : z_co f (i + 1 - 1) = z_co f (i - 1) + (if f i = true then 1 else 0) := by
            rw [show i + 1 - 1 = (i - 1) + 1 by omega, z_co, show i - 1 + 1 = i by omega]
          refine z_ite (fun q => ?_) (fun q => ?_)
          · have hfi : f i = true := by rw [hf]; simpa using q
            rcases hfl with rfl | rfl
            · refine z_pos rfl (k_sat_mk (Or.inl ⟨_, rfl, by rw [show i + 1 - 1 = i by omega]; exact hv', ?_, fun q => absurd q (by decide)⟩))
              rw [hco, if_pos hfi, z_J1]
            · exact z_neg (by decide) (k_sat_mk (Or.inr ⟨_, rfl, hv'.1, Or.inl ⟨i, rfl, rfl, hi0, by omega, hfi, g3 rfl⟩⟩))
          · have hfi : f i = false := by rw [hf]; simpa using q
            refine k_sat_mk (Or.inl ⟨_, rfl, by rw [show i + 1 - 1 = i by omega]; exact hv', ?_, fun q j h1 h2 => ?_⟩)
            · rw [hco, hfi]; simp
            · by_cases e : j = i
              · rw [e]; exact hfi
              · exact g3 q j h1 (by omega)
        · obtain ⟨g1, rfl, g3⟩ := hp'
          unfold f_Nights_timesAt_B10
          exact z_pos (by (try simp (disch := omega) only [Int32.lt_iff_toInt_lt, Int32.le_iff_toInt_le, ← Int32.toInt_inj, Int32.toInt_add, Int32.toInt_sub, Int32.toInt_mul, Int32.toInt_neg, z_bm, z_bm2, J_ti, J_toInt, z_cn, Int32.reduceToInt]) <;> omega) (k_sat_mk ⟨_, rfl, g1.1, Or.inr ⟨rfl, fun q j h1 h2 => g3 q j h1 (by omega)⟩⟩)
        · obtain ⟨g1, ⟨i, rfl, g2, g3, g4, g5, g6⟩ | ⟨rfl, g2⟩⟩ := hv
          · exact k_sat_mk ⟨g1, fun q => absurd (q.symm.trans g2) (by decide), fun _ => Or.inl ⟨i, g3, g4, g5, g6, rfl⟩⟩
          · simp only [k_cs]
            rcases hfl with rfl | rfl
            · exact z_pos rfl (k_sat_mk ⟨g1, fun _ => rfl, fun q => absurd q (by decide)⟩)
            · exact z_neg (by decide) (k_sat_mk ⟨g1, fun q => absurd q (by decide), fun _ => Or.inr ⟨g2 rfl, rfl⟩⟩)
      have rest : ∀ (r : Int32) (v : k_S), z_fr [1702, 1206, 704] [18, 19, 9, 13] u v → ((c = 0 ∧ r = J (z_co f n)) ∨ (¬ c = 0 ∧ z_hit f n r)) → k_sat (f_R_meets a (J n) c v) (fun r' v2 => r = r' ∧ zI v2) := by
        intro r v hv hrr
        obtain ⟨i2, hE2, m2, q1, q2, q3⟩ := z_Wdone h hE hv
        unfold f_R_meets
        rw [sR v q1 q3, z_bind_some]
        refine z_neg (by decide) ?_
        rw [z_Rin1 (by (try simp (disch := omega) only [Int32.lt_iff_toInt_lt, Int32.le_iff_toInt_le, ← Int32.toInt_inj, Int32.toInt_add, Int32.toInt_sub, Int32.toInt_mul, Int32.toInt_neg, z_bm, z_bm2, J_ti, J_toInt, z_cn, Int32.reduceToInt]) <;> omega) (by (try simp (disch := omega) only [Int32.lt_iff_toInt_lt, Int32.le_iff_toInt_le, ← Int32.toInt_inj, Int32.toInt_add, Int32.toInt_sub, Int32.toInt_mul, Int32.toInt_neg, z_bm, z_bm2, J_ti, J_toInt, z_cn, Int32.reduceToInt]) <;> omega), z_bind_some]
        refine z_neg (by decide) ?_
        rw [z_Rin1 (by (try simp (disch := omega) only [Int32.lt_iff_toInt_lt, Int32.le_iff_toInt_le, ← Int32.toInt_inj, Int32.toInt_add, Int32.toInt_sub, Int32.toInt_mul, Int32.toInt_neg, z_bm, z_bm2, J_ti, J_toInt, z_cn, Int32.reduceToInt]) <;> omega) (by (try simp (disch := omega) only [Int32.lt_iff_toInt_lt, Int32.le_iff_toInt_le, ← Int32.toInt_inj, Int32.toInt_add, Int32.toInt_sub, Int32.toInt_mul, Int32.toInt_neg, z_bm, z_bm2, J_ti, J_toInt, z_cn, Int32.reduceToInt]) <;> omega), z_bind_some]
        refine z_neg (by decide) (z_bind _ (z_Rt_0 E v) (fun _ u3 h3 => z_bind _ (z_for3 1 (n + 1) 0 (-2) (fun i x y w' => z_Rt E v (i - 1) w' ∧ x = J (z_co f (i - 1)) ∧ z_hit f (i - 1) y) (K := fun y w' => z_Rt E v n w' ∧ y.1 = J (z_co f n) ∧ z_hit f n y.2) (by omega) (by omega) ⟨h3, rfl, Or.inr ⟨fun j _ _ => by omega, rfl⟩⟩ (fun i x y w' hi0 hi hp' => ?_) (fun x y w' hp' => ?_)) (fun y w' hw' => z_bind _ (z_Rt_b hE4 hw'.1) (fun _ v2 hv2 => ?_))))
        · obtain ⟨g1, rfl, g3⟩ := hp'
          unfold f_R_meets_B44
          dsimp only
          refine z_neg (by (try simp (disch := omega) only [Int32.lt_iff_toInt_lt, Int32.le_iff_toInt_le, ← Int32.toInt_inj, Int32.toInt_add, Int32.toInt_sub, Int32.toInt_mul, Int32.toInt_neg, z_bm, z_bm2, J_ti, J_toInt, z_cn, Int32.reduceToInt]) <;> omega) (z_bind _ (z_Rt_s hE2.2.1 hE2.2.2.2.1 g1) (fun _ w2 hw2 => ?_))
          rw [show i - 1 + 1 = i by omega] at hw2
          rw [ed, em]
          refine z_ck (by (try simp (disch := omega) only [Int32.lt_iff_toInt_lt, Int32.le_iff_toInt_le, ← Int32.toInt_inj, Int32.toInt_add, Int32.toInt_sub, Int32.toInt_mul, Int32.toInt_neg, z_bm, z_bm2, J_ti, J_toInt, z_cn, Int32.reduceToInt]) <;> omega) (by (try simp (disch := omega) only [Int32.lt_iff_toInt_lt, Int32.le_iff_toInt_le, ← Int32.toInt_inj, Int32.toInt_add, Int32.toInt_sub, Int32.toInt_mul, Int32.toInt_neg, z_bm, z_bm2, J_ti, J_toInt, z_cn, Int32.reduceToInt]) <;> omega) ?_
          rw [J_toNat (by omega), (z_Rt_p hw2 w).1, z_pl_m m2]
          have hco : z_co f (i + 1 - 1) = z_co f (i - 1) + (if f i = true then 1 else 0) := by
            rw [show i + 1 - 1 = (i - 1) + 1 by omega, z_co, show i - 1 + 1 = i by omega]
          refine z_ite (fun q => ?_) (fun q => ?_)
          · have hfi : f i = true := by rw [hf]; simpa using q
            have c1 : J (z_co f (i - 1)) + Int32.ofInt 1 = J (z_co f (i + 1 - 1)) := by rw [hco, if_pos hfi, z_J1]
            rcases g3 with ⟨j, b1, b2, b3, b4, rfl⟩ | ⟨b1, rfl⟩
            · exact z_pos (by (try simp (disch := omega) only [Int32.lt_iff_toInt_lt, Int32.le_iff_toInt_le, ← Int32.toInt_inj, Int32.toInt_add, Int32.toInt_sub, Int32.toInt_mul, Int32.toInt_neg, z_bm, z_bm2, J_ti, J_toInt, z_cn, Int32.reduceToInt]) <;> omega) (k_sat_mk (Or.inl ⟨_, _, rfl, by rw [show i + 1 - 1 = i by omega]; exact hw2, c1, Or.inl ⟨j, b1, by omega, b3, b4, rfl⟩⟩))
            · exact z_neg (by decide) (k_sat_mk (Or.inl ⟨_, _, rfl, by rw [show i + 1 - 1 = i by omega]; exact hw2, c1, Or.inl ⟨i, hi0, by omega, hfi, fun j h1 h2 => b1 j h1 (by omega), rfl⟩⟩))
          · have hfi : f i = false := by rw [hf]; simpa using q
            refine k_sat_mk (Or.inl ⟨_, _, rfl, by rw [show i + 1 - 1 = i by omega]; exact hw2, by rw [hco, hfi]; simp, ?_⟩)
            rcases g3 with ⟨j, b1, b2, b3, b4, rfl⟩ | ⟨b1, rfl⟩
            · exact Or.inl ⟨j, b1, by omega, b3, b4, rfl⟩
            · refine Or.inr ⟨fun j h1 h2 => ?_, rfl⟩
              by_cases e : j = i
              · rw [e]; exact hfi
              · exact b1 j h1 (by omega)
        · obtain ⟨g1, rfl, g3⟩ := hp'
          unfold f_R_meets_B44
          exact z_pos (by (try simp (disch := omega) only [Int32.lt_iff_toInt_lt, Int32.le_iff_toInt_le, ← Int32.toInt_inj, Int32.toInt_add, Int32.toInt_sub, Int32.toInt_mul, Int32.toInt_neg, z_bm, z_bm2, J_ti, J_toInt, z_cn, Int32.reduceToInt]) <;> omega) (k_sat_mk ⟨_, rfl, g1, rfl, g3⟩)
        · refine z_ite (fun q => k_sat_mk ⟨?_, zI_0 i2 (hv2.mono rfl rfl)⟩) (fun q => k_sat_mk ⟨?_, zI_0 i2 (hv2.mono rfl rfl)⟩)
          · rcases hrr with ⟨-, b⟩ | ⟨b, -⟩
            · rw [b, hw'.2.1]
            · exact absurd q b
          · rcases hrr with ⟨b, -⟩ | ⟨-, b⟩
            · exact absurd b q
            · exact z_hit_u b hw'.2.2
      unfold f_W_meets_J54
      rw [ed, em]
      by_cases hc0 : c = 0
      · refine z_neg (by rw [hc0]; decide) (z_bind _ (key 0 (Or.inl rfl)) (fun r v hv => k_sat_mk (rest r v hv.1 (Or.inl ⟨hc0, hv.2.1 rfl⟩))))
      · refine z_pos (by ((try simp (disch := omega) only [Int32.lt_iff_toInt_lt, Int32.le_iff_toInt_le, ← Int32.toInt_inj, Int32.toInt_add, Int32.toInt_sub, Int32.toInt_mul, Int32.toInt_neg, z_bm, z_bm2, J_ti, J_toInt, z_cn, Int32.reduceToInt] at *); omega)) (z_bind _ (key 1 (Or.inr rfl)) (fun r v hv => k_sat_mk (rest r v hv.1 (Or.inr ⟨hc0, hv.2.2 rfl⟩))))
    · have hR : k_sat (f_R_meets a b c u) (fun r' v => (-1 : Int32) = r' ∧ zI v) := by
        unfold f_R_meets
        rw [sR u rfl rfl, z_bind_some]
        refine z_neg (by decide) ?_
        by_cases q : 1 ≤ b.toInt ∧ b.toInt ≤ 2000
        · rw [z_Rin1 (by (try simp (disch := omega) only [Int32.lt_iff_toInt_lt, Int32.le_iff_toInt_le, ← Int32.toInt_inj, Int32.toInt_add, Int32.toInt_sub, Int32.toInt_mul, Int32.toInt_neg, z_bm, z_bm2, J_ti, J_toInt, z_cn, Int32.reduceToInt]) <;> omega) (by (try simp (disch := omega) only [Int32.lt_iff_toInt_lt, Int32.le_iff_toInt_le, ← Int32.toInt_inj, Int32.toInt_add, Int32.toInt_sub, Int32.toInt_mul, Int32.toInt_neg, z_bm, z_bm2, J_ti, J_toInt, z_cn, Int32.reduceToInt]) <;> omega), z_bind_some]
          refine z_neg (by decide) ?_
          rw [z_Rin0 (by ((try simp (disch := omega) only [Int32.lt_iff_toInt_lt, Int32.le_iff_toInt_le, ← Int32.toInt_inj, Int32.toInt_add, Int32.toInt_sub, Int32.toInt_mul, Int32.toInt_neg, z_bm, z_bm2, J_ti, J_toInt, z_cn, Int32.reduceToInt] at *); omega)), z_bind_some]
          exact z_pos rfl (k_sat_mk ⟨rfl, h⟩)
        · rw [z_Rin0 (by ((try simp (disch := omega) only [Int32.lt_iff_toInt_lt, Int32.le_iff_toInt_le, ← Int32.toInt_inj, Int32.toInt_add, Int32.toInt_sub, Int32.toInt_mul, Int32.toInt_neg, z_bm, z_bm2, J_ti, J_toInt, z_cn, Int32.reduceToInt] at *); omega)), z_bind_some]
          exact z_pos rfl (k_sat_mk ⟨rfl, h⟩)
      exact z_ite (fun _ => k_sat_mk hR) (fun _ => z_ite (fun _ => k_sat_mk hR) (fun _ => z_ite (fun _ => k_sat_mk hR) (fun _ => z_neg (by ((try simp (disch := omega) only [Int32.lt_iff_toInt_lt, Int32.le_iff_toInt_le, ← Int32.toInt_inj, Int32.toInt_add, Int32.toInt_sub, Int32.toInt_mul, Int32.toInt_neg, z_bm, z_bm2, J_ti, J_toInt, z_cn, Int32.reduceToInt] at *); omega)) (k_sat_mk hR))))
  · rw [sW, z_bind_some]
    refine z_pos rfl (k_sat_mk ?_)
    unfold f_R_meets
    rw [sR, z_bind_some]
    exact z_pos rfl (k_sat_mk ⟨rfl, h⟩)
theorem z_Jmax (a b : Nat) (ha : a < 2147483648) (hb : b < 2147483648) (u : k_S) : f_J_max (J a) (J b) u = some (J (if a < b then b else a), u) := by
  unfold f_J_max
  by_cases h : a < b
  · rw [if_pos h, if_pos (show J a < J b by (try simp (disch := omega) only [Int32.lt_iff_toInt_lt, Int32.le_iff_toInt_le, ← Int32.toInt_inj, Int32.toInt_add, Int32.toInt_sub, Int32.toInt_mul, Int32.toInt_neg, z_bm, z_bm2, J_ti, J_toInt, z_cn, Int32.reduceToInt]) <;> omega)]
  · rw [if_neg h, if_neg (show ¬ J a < J b by (try simp (disch := omega) only [Int32.lt_iff_toInt_lt, Int32.le_iff_toInt_le, ← Int32.toInt_inj, Int32.toInt_add, Int32.toInt_sub, Int32.toInt_mul, Int32.toInt_neg, z_bm, z_bm2, J_ti, J_toInt, z_cn, Int32.reduceToInt]) <;> omega)]
theorem z_mtwo (a b c : Int32) (u : k_S) (h : zI u) : z_pair (f_W_two a b c) (f_R_two a b c) u zI := by
  obtain ⟨E, hE, -, -, -⟩ := z_env h
  have hE4 := hE.1.1
  refine z_pair_of ?_
  unfold f_W_two
  rcases z_spot hE a with ⟨w, p, s, hw, hp, hs, es, ed, em, sW, sR⟩ | ⟨sW, sR⟩
  · rw [sW, z_bind_some]
    refine z_neg (by decide) ?_
    rcases z_spot hE b with ⟨w2, p2, s2, hw2, hp2, hs2, es2, ed2, em2, sW2, sR2⟩ | ⟨sW2, sR2⟩
    · rw [sW2, z_bind_some]
      refine z_neg (by decide) ?_
      by_cases hr : 1 ≤ c.toInt ∧ c.toInt ≤ 20000
      · obtain ⟨n, rfl, hn, -⟩ := J_of (x := c) (by omega)
        have hf : ∃ f : Nat → Bool, ∀ i, f i = decide (z_pl E u w i = J p ∧ z_pl E u w2 i = J p2) := ⟨_, fun _ => rfl⟩
        obtain ⟨f, hf⟩ := hf
        have step : ∀ i, 1 ≤ i → (z_pl E u w i = J p → z_pl E u w2 i = J p2 → f i = true) ∧ (¬ z_pl E u w i = J p → f i = false) ∧ (¬ z_pl E u w2 i = J p2 → f i = false) := fun i _ => ⟨fun q1 q2 => by rw [hf]; simpa using ⟨q1, q2⟩, fun q => by rw [hf]; simp [q], fun q => by rw [hf]; simp [q]⟩
        refine z_neg (by (try simp (disch := omega) only [Int32.lt_iff_toInt_lt, Int32.le_iff_toInt_le, ← Int32.toInt_inj, Int32.toInt_add, Int32.toInt_sub, Int32.toInt_mul, Int32.toInt_neg, z_bm, z_bm2, J_ti, J_toInt, z_cn, Int32.reduceToInt]) <;> omega) (z_pos (by (try simp (disch := omega) only [Int32.lt_iff_toInt_lt, Int32.le_iff_toInt_le, ← Int32.toInt_inj, Int32.toInt_add, Int32.toInt_sub, Int32.toInt_mul, Int32.toInt_neg, z_bm, z_bm2, J_ti, J_toInt, z_cn, Int32.reduceToInt]) <;> omega) (z_bind (fun r v => z_fr [1702, 1206, 704] [18, 19, 9, 13] u v ∧ z_hit f n r) ?_ (fun r v hv => k_sat_mk ?_)))
        · unfold f_Nights_firstOfBoth
          have hK : ∃ K, (if w < w2 then w2 else w) + 1 = K := ⟨_, rfl⟩
          obtain ⟨K, hK⟩ := hK
          have hK1 : w < K ∧ w2 < K ∧ K ≤ E.1 := by split at hK <;> omega
          rw [ed, ed2, z_Jmax w w2 (by omega) (by omega), z_bind_some]
          refine z_let ?_
          rw [z_Jp, hK]
          refine z_bind _ (z_Wt_0 hE) (fun _ u1 h1 => z_bind _ (z_for 1 (n + 1) (fun i v => z_Wt E K u (i - 1) v ∧ ∀ j, 1 ≤ j → j < i → f j = false) (K := fun y v => z_fr [1702, 1206, 704] [18, 19, 9, 13] u v ∧ ((∃ i, y = .inl (J i) ∧ 1 ≤ i ∧ i ≤ n ∧ f i = true ∧ ∀ j, 1 ≤ j → j < i → f j = false) ∨ (y = .inr () ∧ ∀ j, 1 ≤ j → j ≤ n → f j = false))) (by omega) (by omega) ⟨h1.le hK1.2.2, fun j _ _ => by omega⟩ (fun i v hi0 hi hp' => ?_) (fun v hp' => ?_)) (fun y v hv => ?_))
          · obtain ⟨g1, g3⟩ := hp'
            unfold f_Nights_firstOfBoth_B22
            refine z_neg (by (try simp (disch := omega) only [Int32.lt_iff_toInt_lt, Int32.le_iff_toInt_le, ← Int32.toInt_inj, Int32.toInt_add, Int32.toInt_sub, Int32.toInt_mul, Int32.toInt_neg, z_bm, z_bm2, J_ti, J_toInt, z_cn, Int32.reduceToInt]) <;> omega) (z_bind _ (z_Wt_s hE.1 (by omega) g1) (fun _ v' hv' => ?_))
            rw [show i - 1 + 1 = i by omega] at hv'
            have nxt : f i = false → k_sat (some ((.inl (J i + Int32.ofInt 1) : Int32 ⊕ (Int32 ⊕ Unit)), v')) (fun z u' => (z = .inl (J i + Int32.ofInt 1) ∧ z_Wt E K u (i + 1 - 1) u' ∧ ∀ j, 1 ≤ j → j < i + 1 → f j = false) ∨ ∃ y, z = .inr y ∧ z_fr [1702, 1206, 704] [18, 19, 9, 13] u u' ∧ ((∃ i, y = .inl (J i) ∧ 1 ≤ i ∧ i ≤ n ∧ f i = true ∧ ∀ j, 1 ≤ j → j < i → f j = false) ∨ (y = .inr () ∧ ∀ j, 1 ≤ j → j ≤ n → f j = false))) := fun hfi => k_sat_mk (Or.inl ⟨rfl, by rw [show i + 1 - 1 = i by omega]; exact hv', fun j h1 h2 => by
              by_cases e : j = i
              · rw [e]; exact hfi
              · exact g3 j h1 (by omega)⟩)
            rw [ed, z_Wt_p hv' hK1.1 (by omega), z_bind_some, em]
            refine z_ite (fun q => ?_) (fun q => nxt ((step i hi0).2.1 q))
            rw [ed2, z_Wt_p hv' hK1.2.1 (by omega), z_bind_some, em2]
            exact z_ite (fun q2 => k_sat_mk (Or.inr ⟨_, rfl, hv'.1, Or.inl ⟨i, rfl, hi0, by omega, (step i hi0).1 q q2, g3⟩⟩)) (fun q2 => nxt ((step i hi0).2.2 q2))
          · unfold f_Nights_firstOfBoth_B22
            exact z_pos (by (try simp (disch := omega) only [Int32.lt_iff_toInt_lt, Int32.le_iff_toInt_le, ← Int32.toInt_inj, Int32.toInt_add, Int32.toInt_sub, Int32.toInt_mul, Int32.toInt_neg, z_bm, z_bm2, J_ti, J_toInt, z_cn, Int32.reduceToInt]) <;> omega) (k_sat_mk ⟨_, rfl, hp'.1.1, Or.inr ⟨rfl, fun j h1 h2 => hp'.2 j h1 (by omega)⟩⟩)
          · obtain ⟨g1, ⟨i, rfl, g3, g4, g5, g6⟩ | ⟨rfl, g2⟩⟩ := hv
            · exact k_sat_mk ⟨g1, Or.inl ⟨i, g3, g4, g5, g6, rfl⟩⟩
            · exact k_sat_mk ⟨g1, Or.inr ⟨g2, rfl⟩⟩
        · obtain ⟨hv, hrr⟩ := hv
          obtain ⟨i2, hE2, m2, q1, q2, q3⟩ := z_Wdone h hE hv
          unfold f_R_two
          rw [sR v q1 q3, z_bind_some]
          refine z_neg (by decide) ?_
          rw [sR2 v q1 q3, z_bind_some]
          refine z_neg (by decide) ?_
          rw [z_Rin1 (by (try simp (disch := omega) only [Int32.lt_iff_toInt_lt, Int32.le_iff_toInt_le, ← Int32.toInt_inj, Int32.toInt_add, Int32.toInt_sub, Int32.toInt_mul, Int32.toInt_neg, z_bm, z_bm2, J_ti, J_toInt, z_cn, Int32.reduceToInt]) <;> omega) (by (try simp (disch := omega) only [Int32.lt_iff_toInt_lt, Int32.le_iff_toInt_le, ← Int32.toInt_inj, Int32.toInt_add, Int32.toInt_sub, Int32.toInt_mul, Int32.toInt_neg, z_bm, z_bm2, J_ti, J_toInt, z_cn, Int32.reduceToInt]) <;> omega), z_bind_some]
          refine z_neg (by decide) (z_bind _ (z_Rt_0 E v) (fun _ u3 h3 => z_bind _ (z_for2 1 (n + 1) (-2) (fun i y w' => (∃ i', z_Rt E v i' w') ∧ (y = -2 → z_Rt E v (i - 1) w') ∧ z_hit f (i - 1) y) (K := fun y w' => (∃ i', z_Rt E v i' w') ∧ z_hit f n y) (by omega) (by omega) ⟨⟨0, h3⟩, fun _ => h3, Or.inr ⟨fun j _ _ => by omega, rfl⟩⟩ (fun i y w' hi0 hi hp' => ?_) (fun y w' hp' => ?_)) (fun y w' hw' => ?_)))
          · obtain ⟨g1, g2, g3⟩ := hp'
            unfold f_R_two_B40
            dsimp only
            refine z_neg (by (try simp (disch := omega) only [Int32.lt_iff_toInt_lt, Int32.le_iff_toInt_le, ← Int32.toInt_inj, Int32.toInt_add, Int32.toInt_sub, Int32.toInt_mul, Int32.toInt_neg, z_bm, z_bm2, J_ti, J_toInt, z_cn, Int32.reduceToInt]) <;> omega) ?_
            rcases g3 with ⟨j, b1, b2, b3, b4, rfl⟩ | ⟨b1, rfl⟩
            · exact z_pos (by (try simp (disch := omega) only [Int32.lt_iff_toInt_lt, Int32.le_iff_toInt_le, ← Int32.toInt_inj, Int32.toInt_add, Int32.toInt_sub, Int32.toInt_mul, Int32.toInt_neg, z_bm, z_bm2, J_ti, J_toInt, z_cn, Int32.reduceToInt]) <;> omega) (k_sat_mk (Or.inr ⟨_, rfl, g1, Or.inl ⟨j, b1, by omega, b3, b4, rfl⟩⟩))
            · refine z_neg (by decide) (z_bind _ (z_Rt_s hE2.2.1 hE2.2.2.2.1 (g2 rfl)) (fun _ w3 hw3 => ?_))
              rw [show i - 1 + 1 = i by omega] at hw3
              rw [ed, em, ed2, em2]
              refine z_ck (by (try simp (disch := omega) only [Int32.lt_iff_toInt_lt, Int32.le_iff_toInt_le, ← Int32.toInt_inj, Int32.toInt_add, Int32.toInt_sub, Int32.toInt_mul, Int32.toInt_neg, z_bm, z_bm2, J_ti, J_toInt, z_cn, Int32.reduceToInt]) <;> omega) (by (try simp (disch := omega) only [Int32.lt_iff_toInt_lt, Int32.le_iff_toInt_le, ← Int32.toInt_inj, Int32.toInt_add, Int32.toInt_sub, Int32.toInt_mul, Int32.toInt_neg, z_bm, z_bm2, J_ti, J_toInt, z_cn, Int32.reduceToInt]) <;> omega) ?_
              rw [J_toNat (by omega), (z_Rt_p hw3 w).1, z_pl_m m2]
              have nf : f i = false → z_hit f (i + 1 - 1) (-2) := fun hfi => Or.inr ⟨fun j h1 h2 => by
                by_cases e : j = i
                · rw [e]; exact hfi
                · exact b1 j h1 (by omega), rfl⟩
              refine z_ite (fun q => z_ck (by (try simp (disch := omega) only [Int32.lt_iff_toInt_lt, Int32.le_iff_toInt_le, ← Int32.toInt_inj, Int32.toInt_add, Int32.toInt_sub, Int32.toInt_mul, Int32.toInt_neg, z_bm, z_bm2, J_ti, J_toInt, z_cn, Int32.reduceToInt]) <;> omega) (by (try simp (disch := omega) only [Int32.lt_iff_toInt_lt, Int32.le_iff_toInt_le, ← Int32.toInt_inj, Int32.toInt_add, Int32.toInt_sub, Int32.toInt_mul, Int32.toInt_neg, z_bm, z_bm2, J_ti, J_toInt, z_cn, Int32.reduceToInt]) <;> omega) ?_) (fun q => k_sat_mk (Or.inl ⟨_, rfl, ⟨i, hw3⟩, fun _ => by rw [show i + 1 - 1 = i by omega]; exact hw3, nf ((step i hi0).2.1 q)⟩))
              rw [J_toNat (by omega), (z_Rt_p hw3 w2).1, z_pl_m m2]
              refine z_ite (fun q' => k_sat_mk (Or.inl ⟨_, rfl, ⟨i, hw3⟩, fun q4 => absurd q4 (by (try simp (disch := omega) only [Int32.lt_iff_toInt_lt, Int32.le_iff_toInt_le, ← Int32.toInt_inj, Int32.toInt_add, Int32.toInt_sub, Int32.toInt_mul, Int32.toInt_neg, z_bm, z_bm2, J_ti, J_toInt, z_cn, Int32.reduceToInt]) <;> omega), Or.inl ⟨i, hi0, by omega, (step i hi0).1 q q', fun j h1 h2 => b1 j h1 (by omega), rfl⟩⟩)) (fun q' => k_sat_mk (Or.inl ⟨_, rfl, ⟨i, hw3⟩, fun _ => by rw [show i + 1 - 1 = i by omega]; exact hw3, nf ((step i hi0).2.2 q')⟩))
          · unfold f_R_two_B40
            exact z_pos (by (try simp (disch := omega) only [Int32.lt_iff_toInt_lt, Int32.le_iff_toInt_le, ← Int32.toInt_inj, Int32.toInt_add, Int32.toInt_sub, Int32.toInt_mul, Int32.toInt_neg, z_bm, z_bm2, J_ti, J_toInt, z_cn, Int32.reduceToInt]) <;> omega) (k_sat_mk ⟨_, rfl, hp'.1, hp'.2.2⟩)
          · obtain ⟨⟨i', g1⟩, g2⟩ := hw'
            unfold f_R_two_J97
            exact z_bind _ (z_Rt_b hE4 g1) (fun _ v2 hv2 => k_sat_mk ⟨z_hit_u hrr g2, zI_0 i2 (hv2.mono rfl rfl)⟩)
      · have hR : k_sat (f_R_two a b c u) (fun r' v => (-1 : Int32) = r' ∧ zI v) := by
          unfold f_R_two
          rw [sR u rfl rfl, z_bind_some]
          refine z_neg (by decide) ?_
          rw [sR2 u rfl rfl, z_bind_some]
          refine z_neg (by decide) ?_
          rw [z_Rin0 (by ((try simp (disch := omega) only [Int32.lt_iff_toInt_lt, Int32.le_iff_toInt_le, ← Int32.toInt_inj, Int32.toInt_add, Int32.toInt_sub, Int32.toInt_mul, Int32.toInt_neg, z_bm, z_bm2, J_ti, J_toInt, z_cn, Int32.reduceToInt] at *); omega)), z_bind_some]
          exact z_pos rfl (k_sat_mk ⟨rfl, h⟩)
        exact z_ite (fun _ => k_sat_mk hR) (fun _ => z_neg (by ((try simp (disch := omega) only [Int32.lt_iff_toInt_lt, Int32.le_iff_toInt_le, ← Int32.toInt_inj, Int32.toInt_add, Int32.toInt_sub, Int32.toInt_mul, Int32.toInt_neg, z_bm, z_bm2, J_ti, J_toInt, z_cn, Int32.reduceToInt] at *); omega)) (k_sat_mk hR))
    · rw [sW2, z_bind_some]
      refine z_pos rfl (k_sat_mk ?_)
      unfold f_R_two
      rw [sR u rfl rfl, z_bind_some]
      refine z_neg (by decide) ?_
      rw [sR2, z_bind_some]
      exact z_pos rfl (k_sat_mk ⟨rfl, h⟩)
  · rw [sW, z_bind_some]
    refine z_pos rfl (k_sat_mk ?_)
    unfold f_R_two
    rw [sR, z_bind_some]
    exact z_pos rfl (k_sat_mk ⟨rfl, h⟩)
/-! round, truth -/
theorem z_W303 {E : z_E} {K i : Nat} {u v : k_S} (hE : z_en E u) (h : z_Wt E K u i v) : v.1 303 = J E.1 := (h.1.1 303 rfl).trans hE.1.2.1
/-- all is as now, in the i-th night -/
def z_rd (E : z_E) (u : k_S) (i : Nat) : Bool := (List.range E.1).all (fun w => decide (z_pl E u w i = u.2.1 46 w ∧ (z_or E 4 i (z_moR u)).2.2 w = u.2.1 47 w))
theorem z_rd_t {E : z_E} {u : k_S} {i : Nat} : z_rd E u i = true ↔ ∀ w, w < E.1 → z_pl E u w i = u.2.1 46 w ∧ (z_or E 4 i (z_moR u)).2.2 w = u.2.1 47 w := by
  unfold z_rd
  rw [List.all_eq_true]
  constructor
  · intro h w hw
    have := h w (List.mem_range.mpr hw)
    simpa using this
  · intro h w hw
    have := h w (List.mem_range.mp hw)
    simpa using this
theorem z_standsAs {E : z_E} {u v : k_S} {i : Nat} (hE : z_en E u) (h : z_Wt E E.1 u i v) : k_sat (f_Thought_standsAs_Now (J E.1) v) (fun r v' => v' = v ∧ r = if z_rd E u i = true then 1 else 0) := by
  have hE4 := hE.1.1
  unfold f_Thought_standsAs_Now
  refine z_bind _ (z_for 0 E.1 (fun w v' => v' = v ∧ ∀ j, j < w → z_pl E u j i = u.2.1 46 j ∧ (z_or E 4 i (z_moR u)).2.2 j = u.2.1 47 j) (K := fun y v' => v' = v ∧ ((y = .inl 0 ∧ ¬ z_rd E u i = true) ∨ (y = .inr () ∧ z_rd E u i = true))) (by omega) (Nat.zero_le _) ⟨rfl, fun j hj => by omega⟩ (fun w v' _ hw hp => ?_) (fun v' hp => ?_)) (fun y v' hv => ?_)
  · obtain ⟨rfl, hp⟩ := hp
    unfold f_Thought_standsAs_Now_B2
    refine z_neg (by (try simp (disch := omega) only [Int32.lt_iff_toInt_lt, Int32.le_iff_toInt_le, ← Int32.toInt_inj, Int32.toInt_add, Int32.toInt_sub, Int32.toInt_mul, Int32.toInt_neg, z_bm, z_bm2, J_ti, J_toInt, z_cn, Int32.reduceToInt]) <;> omega) (z_neg (by (try simp (disch := omega) only [Int32.lt_iff_toInt_lt, Int32.le_iff_toInt_le, ← Int32.toInt_inj, Int32.toInt_add, Int32.toInt_sub, Int32.toInt_mul, Int32.toInt_neg, z_bm, z_bm2, J_ti, J_toInt, z_cn, Int32.reduceToInt]) <;> omega) ?_)
    rw [z_Wt_p h hw (by omega), z_bind_some, z_Now_placeOf (by omega), z_bind_some]
    have e15 : v'.2.1 15 w = u.2.1 46 w := by rw [h.1.2.1 15 rfl]; exact (hE.2.2.2.2.2 w hw).1
    have e16 : v'.2.1 16 w = u.2.1 47 w := by rw [h.1.2.1 16 rfl]; exact (hE.2.2.2.2.2 w hw).2
    have e19 : v'.2.1 19 w = (z_or E 4 i (z_moR u)).2.2 w := (h.2.2.2 w hw).2
    rw [e15]
    refine z_ite (fun q => ?_) (fun q => k_sat_mk (Or.inr ⟨_, rfl, rfl, Or.inl ⟨rfl, fun q2 => q (z_rd_t.mp q2 w hw).1⟩⟩))
    rw [z_Thought_waitsOf (by omega), z_bind_some, z_Now_waitsOf (by omega), z_bind_some, e16, e19]
    refine z_ite (fun q' => k_sat_mk (Or.inl ⟨rfl, rfl, fun j hj => ?_⟩)) (fun q' => k_sat_mk (Or.inr ⟨_, rfl, rfl, Or.inl ⟨rfl, fun q2 => q' (z_rd_t.mp q2 w hw).2⟩⟩))
    by_cases e : j = w
    · rw [e]; exact ⟨q, q'⟩
    · exact hp j (by omega)
  · obtain ⟨rfl, hp⟩ := hp
    unfold f_Thought_standsAs_Now_B2
    exact z_pos (Int32.le_refl _) (k_sat_mk ⟨_, rfl, rfl, Or.inr ⟨rfl, z_rd_t.mpr hp⟩⟩)
  · obtain ⟨rfl, ⟨rfl, q⟩ | ⟨rfl, q⟩⟩ := hv
    · exact k_sat_mk ⟨rfl, by rw [if_neg q]⟩
    · exact k_sat_mk ⟨rfl, by rw [if_pos q]⟩
theorem z_isAsWas {E : z_E} {u v : k_S} {i : Nat} (hE : z_en E u) (h : z_Rt E u i v) : k_sat (f_R_isAsWas v) (fun r v' => v' = v ∧ r = if z_rd E u i = true then 1 else 0) := by
  have hE4 := hE.1.1
  have e2 : v.1 4203 = J E.1 := (h.1.1 4203 rfl).trans hE.2.1.2.1
  unfold f_R_isAsWas
  refine z_bind _ (z_for 0 E.1 (fun w v' => v' = v ∧ ∀ j, j < w → z_pl E u j i = u.2.1 46 j ∧ (z_or E 4 i (z_moR u)).2.2 j = u.2.1 47 j) (K := fun y v' => v' = v ∧ ((y = .inl 0 ∧ ¬ z_rd E u i = true) ∨ (y = .inr () ∧ z_rd E u i = true))) (by omega) (Nat.zero_le _) ⟨rfl, fun j hj => by omega⟩ (fun w v' _ hw hp => ?_) (fun v' hp => ?_)) (fun y v' hv => ?_)
  · obtain ⟨rfl, hp⟩ := hp
    unfold f_R_isAsWas_B2
    rw [e2]
    refine z_neg (by (try simp (disch := omega) only [Int32.lt_iff_toInt_lt, Int32.le_iff_toInt_le, ← Int32.toInt_inj, Int32.toInt_add, Int32.toInt_sub, Int32.toInt_mul, Int32.toInt_neg, z_bm, z_bm2, J_ti, J_toInt, z_cn, Int32.reduceToInt]) <;> omega) (z_ck (by (try simp (disch := omega) only [Int32.lt_iff_toInt_lt, Int32.le_iff_toInt_le, ← Int32.toInt_inj, Int32.toInt_add, Int32.toInt_sub, Int32.toInt_mul, Int32.toInt_neg, z_bm, z_bm2, J_ti, J_toInt, z_cn, Int32.reduceToInt]) <;> omega) (by (try simp (disch := omega) only [Int32.lt_iff_toInt_lt, Int32.le_iff_toInt_le, ← Int32.toInt_inj, Int32.toInt_add, Int32.toInt_sub, Int32.toInt_mul, Int32.toInt_neg, z_bm, z_bm2, J_ti, J_toInt, z_cn, Int32.reduceToInt]) <;> omega) (z_ck (by (try simp (disch := omega) only [Int32.lt_iff_toInt_lt, Int32.le_iff_toInt_le, ← Int32.toInt_inj, Int32.toInt_add, Int32.toInt_sub, Int32.toInt_mul, Int32.toInt_neg, z_bm, z_bm2, J_ti, J_toInt, z_cn, Int32.reduceToInt]) <;> omega) (by (try simp (disch := omega) only [Int32.lt_iff_toInt_lt, Int32.le_iff_toInt_le, ← Int32.toInt_inj, Int32.toInt_add, Int32.toInt_sub, Int32.toInt_mul, Int32.toInt_neg, z_bm, z_bm2, J_ti, J_toInt, z_cn, Int32.reduceToInt]) <;> omega) ?_))
    rw [J_toNat (show w < 2147483648 by omega), (z_Rt_p h w).1, (z_Rt_p h w).2, (h.2.2.2 w (by omega)).1, (h.2.2.2 w (by omega)).2]
    refine z_ite (fun q => z_ck (by (try simp (disch := omega) only [Int32.lt_iff_toInt_lt, Int32.le_iff_toInt_le, ← Int32.toInt_inj, Int32.toInt_add, Int32.toInt_sub, Int32.toInt_mul, Int32.toInt_neg, z_bm, z_bm2, J_ti, J_toInt, z_cn, Int32.reduceToInt]) <;> omega) (by (try simp (disch := omega) only [Int32.lt_iff_toInt_lt, Int32.le_iff_toInt_le, ← Int32.toInt_inj, Int32.toInt_add, Int32.toInt_sub, Int32.toInt_mul, Int32.toInt_neg, z_bm, z_bm2, J_ti, J_toInt, z_cn, Int32.reduceToInt]) <;> omega) (z_ck (by (try simp (disch := omega) only [Int32.lt_iff_toInt_lt, Int32.le_iff_toInt_le, ← Int32.toInt_inj, Int32.toInt_add, Int32.toInt_sub, Int32.toInt_mul, Int32.toInt_neg, z_bm, z_bm2, J_ti, J_toInt, z_cn, Int32.reduceToInt]) <;> omega) (by (try simp (disch := omega) only [Int32.lt_iff_toInt_lt, Int32.le_iff_toInt_le, ← Int32.toInt_inj, Int32.toInt_add, Int32.toInt_sub, Int32.toInt_mul, Int32.toInt_neg, z_bm, z_bm2, J_ti, J_toInt, z_cn, Int32.reduceToInt]) <;> omega) ?_)) (fun q => k_sat_mk (Or.inr ⟨_, rfl, rfl, Or.inl ⟨rfl, fun q2 => q (z_rd_t.mp q2 w hw).1⟩⟩))
    refine z_ite (fun q' => k_sat_mk (Or.inl ⟨rfl, rfl, fun j hj => ?_⟩)) (fun q' => k_sat_mk (Or.inr ⟨_, rfl, rfl, Or.inl ⟨rfl, fun q2 => q' (z_rd_t.mp q2 w hw).2⟩⟩))
    by_cases e : j = w
    · rw [e]; exact ⟨q, q'⟩
    · exact hp j (by omega)
  · obtain ⟨rfl, hp⟩ := hp
    unfold f_R_isAsWas_B2
    exact z_pos (by rw [e2]; exact Int32.le_refl _) (k_sat_mk ⟨_, rfl, rfl, Or.inr ⟨rfl, z_rd_t.mpr hp⟩⟩)
  · obtain ⟨rfl, ⟨rfl, q⟩ | ⟨rfl, q⟩⟩ := hv
    · exact k_sat_mk ⟨rfl, by rw [if_neg q]⟩
    · exact k_sat_mk ⟨rfl, by rw [if_pos q]⟩
theorem z_rd_m {E : z_E} {u v : k_S} (h : z_moR v = z_moR u) (i : Nat) : z_rd E v i = z_rd E u i := by
  have h46 : v.2.1 46 = u.2.1 46 := congrArg (fun m : z_Mo => m.2.1) h
  have h47 : v.2.1 47 = u.2.1 47 := congrArg (fun m : z_Mo => m.2.2) h
  unfold z_rd
  rw [h, h46, h47]
  simp only [z_pl_m h]
theorem z_round (a : Int32) (u : k_S) (h : zI u) : z_pair (f_W_round a) (f_R_round a) u zI := by
  obtain ⟨E, hE, -, -, -⟩ := z_env h
  have hE4 := hE.1.1
  refine z_pair_of ?_
  unfold f_W_round
  by_cases hr : 1 ≤ a.toInt ∧ a.toInt ≤ 20000
  · obtain ⟨n, rfl, hn, -⟩ := J_of (x := a) (by omega)
    refine z_neg (by (try simp (disch := omega) only [Int32.lt_iff_toInt_lt, Int32.le_iff_toInt_le, ← Int32.toInt_inj, Int32.toInt_add, Int32.toInt_sub, Int32.toInt_mul, Int32.toInt_neg, z_bm, z_bm2, J_ti, J_toInt, z_cn, Int32.reduceToInt]) <;> omega) (z_pos (by (try simp (disch := omega) only [Int32.lt_iff_toInt_lt, Int32.le_iff_toInt_le, ← Int32.toInt_inj, Int32.toInt_add, Int32.toInt_sub, Int32.toInt_mul, Int32.toInt_neg, z_bm, z_bm2, J_ti, J_toInt, z_cn, Int32.reduceToInt]) <;> omega) (z_bind (fun r v => z_fr [1702, 1206, 704] [18, 19, 9, 13] u v ∧ z_hit (z_rd E u) n r) ?_ (fun r v hv => k_sat_mk ?_)))
    · unfold f_Nights_firstAsNow
      refine z_bind _ (z_Wt_0 hE) (fun _ u1 h1 => z_bind _ (z_for 1 (n + 1) (fun i v => z_Wt E E.1 u (i - 1) v ∧ ∀ j, 1 ≤ j → j < i → z_rd E u j = false) (K := fun y v => z_fr [1702, 1206, 704] [18, 19, 9, 13] u v ∧ ((∃ i, y = .inl (J i) ∧ 1 ≤ i ∧ i ≤ n ∧ z_rd E u i = true ∧ ∀ j, 1 ≤ j → j < i → z_rd E u j = false) ∨ (y = .inr () ∧ ∀ j, 1 ≤ j → j ≤ n → z_rd E u j = false))) (by omega) (by omega) ⟨h1, fun j _ _ => by omega⟩ (fun i v hi0 hi hp' => ?_) (fun v hp' => ?_)) (fun y v hv => ?_))
      · obtain ⟨g1, g3⟩ := hp'
        unfold f_Nights_firstAsNow_B6
        rw [z_W303 hE g1]
        refine z_neg (by (try simp (disch := omega) only [Int32.lt_iff_toInt_lt, Int32.le_iff_toInt_le, ← Int32.toInt_inj, Int32.toInt_add, Int32.toInt_sub, Int32.toInt_mul, Int32.toInt_neg, z_bm, z_bm2, J_ti, J_toInt, z_cn, Int32.reduceToInt]) <;> omega) (z_bind _ (z_Wt_s hE.1 hE4 g1) (fun _ v' hv' => ?_))
        rw [show i - 1 + 1 = i by omega] at hv'
        rw [z_W303 hE hv']
        refine z_bind _ (z_standsAs hE hv') (fun r v2 hr2 => ?_)
        obtain ⟨rfl, hr2⟩ := hr2
        by_cases q : z_rd E u i = true
        · rw [if_pos q] at hr2
          exact z_neg (by rw [hr2]; decide) (k_sat_mk (Or.inr ⟨_, rfl, hv'.1, Or.inl ⟨i, rfl, hi0, by omega, q, g3⟩⟩))
        · rw [if_neg q] at hr2
          refine z_pos hr2 (k_sat_mk (Or.inl ⟨rfl, by rw [show i + 1 - 1 = i by omega]; exact hv', fun j h1 h2 => ?_⟩))
          by_cases e : j = i
          · rw [e]; simpa using q
          · exact g3 j h1 (by omega)
      · unfold f_Nights_firstAsNow_B6
        exact z_pos (by (try simp (disch := omega) only [Int32.lt_iff_toInt_lt, Int32.le_iff_toInt_le, ← Int32.toInt_inj, Int32.toInt_add, Int32.toInt_sub, Int32.toInt_mul, Int32.toInt_neg, z_bm, z_bm2, J_ti, J_toInt, z_cn, Int32.reduceToInt]) <;> omega) (k_sat_mk ⟨_, rfl, hp'.1.1, Or.inr ⟨rfl, fun j h1 h2 => hp'.2 j h1 (by omega)⟩⟩)
      · obtain ⟨g1, ⟨i, rfl, g3, g4, g5, g6⟩ | ⟨rfl, g2⟩⟩ := hv
        · exact k_sat_mk ⟨g1, Or.inl ⟨i, g3, g4, g5, g6, rfl⟩⟩
        · exact k_sat_mk ⟨g1, Or.inr ⟨g2, rfl⟩⟩
    · obtain ⟨hv, hrr⟩ := hv
      obtain ⟨i2, hE2, m2, q1, q2, q3⟩ := z_Wdone h hE hv
      unfold f_R_round
      rw [z_Rin1 (by (try simp (disch := omega) only [Int32.lt_iff_toInt_lt, Int32.le_iff_toInt_le, ← Int32.toInt_inj, Int32.toInt_add, Int32.toInt_sub, Int32.toInt_mul, Int32.toInt_neg, z_bm, z_bm2, J_ti, J_toInt, z_cn, Int32.reduceToInt]) <;> omega) (by (try simp (disch := omega) only [Int32.lt_iff_toInt_lt, Int32.le_iff_toInt_le, ← Int32.toInt_inj, Int32.toInt_add, Int32.toInt_sub, Int32.toInt_mul, Int32.toInt_neg, z_bm, z_bm2, J_ti, J_toInt, z_cn, Int32.reduceToInt]) <;> omega), z_bind_some]
      refine z_neg (by decide) (z_bind _ (z_Rt_0 E v) (fun _ u3 h3 => z_bind _ (z_for2 1 (n + 1) (-2) (fun i y w' => (∃ i', z_Rt E v i' w') ∧ (y = -2 → z_Rt E v (i - 1) w') ∧ z_hit (z_rd E u) (i - 1) y) (K := fun y w' => (∃ i', z_Rt E v i' w') ∧ z_hit (z_rd E u) n y) (by omega) (by omega) ⟨⟨0, h3⟩, fun _ => h3, Or.inr ⟨fun j _ _ => by omega, rfl⟩⟩ (fun i y w' hi0 hi hp' => ?_) (fun y w' hp' => ?_)) (fun y w' hw' => ?_)))
      · obtain ⟨g1, g2, g3⟩ := hp'
        unfold f_R_round_B22
        dsimp only
        refine z_neg (by (try simp (disch := omega) only [Int32.lt_iff_toInt_lt, Int32.le_iff_toInt_le, ← Int32.toInt_inj, Int32.toInt_add, Int32.toInt_sub, Int32.toInt_mul, Int32.toInt_neg, z_bm, z_bm2, J_ti, J_toInt, z_cn, Int32.reduceToInt]) <;> omega) ?_
        rcases g3 with ⟨j, b1, b2, b3, b4, rfl⟩ | ⟨b1, rfl⟩
        · exact z_pos (by (try simp (disch := omega) only [Int32.lt_iff_toInt_lt, Int32.le_iff_toInt_le, ← Int32.toInt_inj, Int32.toInt_add, Int32.toInt_sub, Int32.toInt_mul, Int32.toInt_neg, z_bm, z_bm2, J_ti, J_toInt, z_cn, Int32.reduceToInt]) <;> omega) (k_sat_mk (Or.inr ⟨_, rfl, g1, Or.inl ⟨j, b1, by omega, b3, b4, rfl⟩⟩))
        · refine z_neg (by decide) (z_bind _ (z_Rt_s hE2.2.1 hE2.2.2.2.1 (g2 rfl)) (fun _ w3 hw3 => ?_))
          rw [show i - 1 + 1 = i by omega] at hw3
          refine z_bind _ (z_isAsWas hE2 hw3) (fun r w4 hr4 => ?_)
          obtain ⟨rfl, hr4⟩ := hr4
          rw [z_rd_m m2] at hr4
          by_cases q : z_rd E u i = true
          · rw [if_pos q] at hr4
            exact z_neg (by rw [hr4]; decide) (k_sat_mk (Or.inl ⟨_, rfl, ⟨i, hw3⟩, fun q4 => absurd q4 (by (try simp (disch := omega) only [Int32.lt_iff_toInt_lt, Int32.le_iff_toInt_le, ← Int32.toInt_inj, Int32.toInt_add, Int32.toInt_sub, Int32.toInt_mul, Int32.toInt_neg, z_bm, z_bm2, J_ti, J_toInt, z_cn, Int32.reduceToInt]) <;> omega), Or.inl ⟨i, hi0, by omega, q, fun j h1 h2 => b1 j h1 (by omega), rfl⟩⟩))
          · rw [if_neg q] at hr4
            refine z_pos hr4 (k_sat_mk (Or.inl ⟨_, rfl, ⟨i, hw3⟩, fun _ => by rw [show i + 1 - 1 = i by omega]; exact hw3, Or.inr ⟨fun j h1 h2 => ?_, rfl⟩⟩))
            by_cases e : j = i
            · rw [e]; simpa using q
            · exact b1 j h1 (by omega)
      · unfold f_R_round_B22
        exact z_pos (by (try simp (disch := omega) only [Int32.lt_iff_toInt_lt, Int32.le_iff_toInt_le, ← Int32.toInt_inj, Int32.toInt_add, Int32.toInt_sub, Int32.toInt_mul, Int32.toInt_neg, z_bm, z_bm2, J_ti, J_toInt, z_cn, Int32.reduceToInt]) <;> omega) (k_sat_mk ⟨_, rfl, hp'.1, hp'.2.2⟩)
      · obtain ⟨⟨i', g1⟩, g2⟩ := hw'
        unfold f_R_round_J50
        exact z_bind _ (z_Rt_b hE4 g1) (fun _ v2 hv2 => k_sat_mk ⟨z_hit_u hrr g2, zI_0 i2 (hv2.mono rfl rfl)⟩)
  · have hR : k_sat (f_R_round a u) (fun r' v => (-1 : Int32) = r' ∧ zI v) := by
      unfold f_R_round
      rw [z_Rin0 (by ((try simp (disch := omega) only [Int32.lt_iff_toInt_lt, Int32.le_iff_toInt_le, ← Int32.toInt_inj, Int32.toInt_add, Int32.toInt_sub, Int32.toInt_mul, Int32.toInt_neg, z_bm, z_bm2, J_ti, J_toInt, z_cn, Int32.reduceToInt] at *); omega)), z_bind_some]
      exact z_pos rfl (k_sat_mk ⟨rfl, h⟩)
    exact z_ite (fun _ => k_sat_mk hR) (fun _ => z_neg (by ((try simp (disch := omega) only [Int32.lt_iff_toInt_lt, Int32.le_iff_toInt_le, ← Int32.toInt_inj, Int32.toInt_add, Int32.toInt_sub, Int32.toInt_mul, Int32.toInt_neg, z_bm, z_bm2, J_ti, J_toInt, z_cn, Int32.reduceToInt] at *); omega)) (k_sat_mk hR))
/-- nightsTo comes to an end -/
theorem z_nightsTo {E : z_E} {u v : k_S} {i : Nat} (hE : z_en E u) (hE0 : 0 < E.1) (a b : Int32) (h : z_Wt E 1 u i v) : k_sat (f_Nights_nightsTo a b 2000 v) (fun _ v' => ∃ i', z_Wt E 1 u i' v') := by
  unfold f_Nights_nightsTo
  have hJ : ∀ (v' : k_S) (i' j : Nat), z_Wt E 1 u i' v' → k_sat (f_Nights_nightsTo_J24 a b 2000 (J j) v') (fun z u' => (z = .inl (J j + Int32.ofInt 1) ∧ ∃ i', z_Wt E 1 u i' u') ∨ ∃ y, z = .inr y ∧ ∃ i', z_Wt E 1 u i' u') := by
    intro v' i' j hv'
    unfold f_Nights_nightsTo_J24
    refine z_ite (fun _ => k_sat_mk (Or.inl ⟨rfl, i', hv'⟩)) (fun _ => ?_)
    rw [show (0 : Int32) = J 0 from rfl, z_Wt_p hv' (by omega) (by omega), z_bind_some]
    exact z_ite (fun _ => k_sat_mk (Or.inr ⟨_, rfl, i', hv'⟩)) (fun _ => k_sat_mk (Or.inl ⟨rfl, i', hv'⟩))
  refine z_bind _ (z_for 0 2001 (fun _ v' => ∃ i', z_Wt E 1 u i' v') (K := fun _ v' => ∃ i', z_Wt E 1 u i' v') (by omega) (by omega) ⟨i, h⟩ (fun j v' _ hj hp => ?_) (fun v' hp => ?_)) (fun y v' hv => ?_)
  · obtain ⟨i', hp⟩ := hp
    unfold f_Nights_nightsTo_B3
    refine z_neg (by (try simp (disch := omega) only [Int32.lt_iff_toInt_lt, Int32.le_iff_toInt_le, ← Int32.toInt_inj, Int32.toInt_add, Int32.toInt_sub, Int32.toInt_mul, Int32.toInt_neg, z_bm, z_bm2, J_ti, J_toInt, z_cn, Int32.reduceToInt]) <;> omega) (z_ite (fun _ => hJ v' i' j hp) (fun _ => z_bind _ (z_Wt_s (K := 1) hE.1 (by omega) hp) (fun _ v2 h2 => hJ v2 _ j h2)))
  · unfold f_Nights_nightsTo_B3
    exact z_pos (by decide) (k_sat_mk ⟨_, rfl, hp⟩)
  · cases y with
    | inl r => exact k_sat_mk hv
    | inr q => exact k_sat_mk hv
theorem z_truth (a : Int32) (u : k_S) (h : zI u) : z_two (f_W_truth a) (f_R_truth a) u zI := by
  obtain ⟨E, hE, -, -, -⟩ := z_env h
  have hE4 := hE.1.1
  refine z_two_of ?_
  have hR : ∀ v, zI v → z_en E v → k_sat (f_R_truth a v) (fun _ v2 => zI v2) := by
    intro v hv hEv
    unfold f_R_truth
    refine z_ite (fun _ => z_ite (fun _ => k_sat_mk hv) (fun _ => z_ite (fun _ => k_sat_mk hv) (fun _ => z_ite (fun _ => k_sat_mk hv) (fun _ => k_sat_mk hv)))) (fun h0 => z_ite (fun _ => k_sat_mk hv) (fun _ => z_ck (by decide) (by decide) (z_ite (fun _ => k_sat_mk hv) (fun _ => z_ck (by decide) (by decide) (z_ite (fun _ => z_bind _ (z_Rt_0 E v) (fun _ u3 h3 => z_bind _ (z_for 0 2001 (fun i w => z_Rt E v i w) (K := fun _ w => ∃ i, z_Rt E v i w) (by omega) (by omega) h3 (fun i w _ hi hp => ?_) (fun w hp => ?_)) (fun y w hw => ?_))) (fun _ => k_sat_mk hv))))))
    · unfold f_R_truth_B74
      exact z_neg (by (try simp (disch := omega) only [Int32.lt_iff_toInt_lt, Int32.le_iff_toInt_le, ← Int32.toInt_inj, Int32.toInt_add, Int32.toInt_sub, Int32.toInt_mul, Int32.toInt_neg, z_bm, z_bm2, J_ti, J_toInt, z_cn, Int32.reduceToInt]) <;> omega) (z_ck (by decide) (by decide) (z_ite (fun _ => k_sat_mk (Or.inr ⟨_, rfl, i, hp⟩)) (fun _ => z_bind _ (z_Rt_s hEv.2.1 hEv.2.2.2.1 hp) (fun _ w' hw' => k_sat_mk (Or.inl ⟨rfl, hw'⟩)))))
    · unfold f_R_truth_B74
      exact z_pos (by decide) (k_sat_mk ⟨_, rfl, _, hp⟩)
    · obtain ⟨i, hw⟩ := hw
      have fin : ∀ (x : Int32) (w' : k_S) (i' : Nat), z_Rt E v i' w' → k_sat (f_R_truth_J155 x w') (fun _ v2 => zI v2) := by
        intro x w' i' hw'
        unfold f_R_truth_J155
        exact z_bind _ (z_Rt_b hE4 hw') (fun _ v2 hv2 => k_sat_mk (zI_0 hv (hv2.mono rfl rfl)))
      unfold f_R_truth_J104
      refine z_ite (fun _ => fin _ w i hw) (fun _ => z_bind _ (z_for2 1 2001 (-2) (fun _ _ w' => ∃ i, z_Rt E v i w') (K := fun _ w' => ∃ i, z_Rt E v i w') (by omega) (by omega) ⟨i, hw⟩ (fun j y w' hj0 hj hp => ?_) (fun y w' hp => ?_)) (fun y w' hw' => ?_))
      · obtain ⟨i', hp⟩ := hp
        unfold f_R_truth_B117
        dsimp only
        exact z_neg (by (try simp (disch := omega) only [Int32.lt_iff_toInt_lt, Int32.le_iff_toInt_le, ← Int32.toInt_inj, Int32.toInt_add, Int32.toInt_sub, Int32.toInt_mul, Int32.toInt_neg, z_bm, z_bm2, J_ti, J_toInt, z_cn, Int32.reduceToInt]) <;> omega) (z_ite (fun _ => k_sat_mk (Or.inr ⟨_, rfl, i', hp⟩)) (fun _ => z_bind _ (z_Rt_s hEv.2.1 hEv.2.2.2.1 hp) (fun _ w2 hw2 => z_ck (by decide) (by decide) (z_ite (fun _ => k_sat_mk (Or.inl ⟨_, rfl, _, hw2⟩)) (fun _ => k_sat_mk (Or.inl ⟨_, rfl, _, hw2⟩))))))
      · unfold f_R_truth_B117
        exact z_pos (show (2000 : Int32) < J 2001 by decide) (k_sat_mk ⟨_, rfl, hp⟩)
      · obtain ⟨i', hw'⟩ := hw'
        exact fin _ w' i' hw'
  unfold f_W_truth
  refine z_ite (fun _ => k_sat_mk (hR u h hE)) (fun _ => z_ite (fun _ => k_sat_mk (hR u h hE)) (fun _ => z_ite (fun _ => z_ite (fun _ => k_sat_mk (hR u h hE)) (fun h0 => ?_)) (fun _ => k_sat_mk (hR u h hE))))
  have hE0 : 0 < E.1 := by
    rcases Nat.eq_zero_or_pos E.1 with q | q
    · exact absurd (by rw [hE.1.2.1, q]; rfl) h0
    · exact q
  refine z_bind _ (z_Wt_0 hE) (fun _ u1 h1 => z_bind _ (z_nightsTo hE hE0 _ _ (h1.le (by omega))) (fun r u2 h2 => ?_))
  obtain ⟨i, h2⟩ := h2
  obtain ⟨i2, hE2, -⟩ := z_Wdone h hE h2.1
  refine z_ite (fun _ => k_sat_mk (hR u2 i2 hE2)) (fun _ => z_bind _ (z_nightsTo hE hE0 _ _ h2) (fun r u3 h3 => ?_))
  obtain ⟨i', h3⟩ := h3
  obtain ⟨i3, hE3, -⟩ := z_Wdone h hE h3.1
  exact k_sat_mk (hR u3 i3 hE3)
/-! never -/
theorem z_and {α : Type} {o : Option (α × k_S)} {A B : α → k_S → Prop} (h : k_sat o A) (k : k_sat o B) : k_sat o (fun a u => A a u ∧ B a u) := by
  obtain ⟨x, e, a⟩ := h
  obtain ⟨y, e', b⟩ := k
  rw [e] at e'
  cases e'
  exact ⟨x, e, a, b⟩
theorem z_think_fr {E : z_E} {u : k_S} (hE : z_EW E u) : k_sat (f_Nights_think u) (fun _ v => z_fr [1702] [18, 19] u v) := by
  unfold f_Nights_think
  rw [hE.2.1]
  exact z_bind _ (z_Thought_become_Now E.1 hE.1 u) (fun _ v hv => k_sat_mk hv.1)
theorem z_Wt_ok {E : z_E} {K : Nat} {u : k_S} {i : Nat} {v : k_S} (hE : z_EW E u) (h : z_Wt E K u i v) : z_EW E v ∧ z_ok E (z_moThought v) := ⟨z_EW_f h.1 (by decide) hE, h.2.1⟩
theorem z_Rt_ok {E : z_E} {u : k_S} {i : Nat} {v : k_S} (hE : z_ER E u) (hok : z_ok E (z_moR u)) (h : z_Rt E u i v) : z_ER E v ∧ z_ok E (z_moR v) := ⟨z_ER_f h.1 (by decide) hE, by rw [h.2.1]; exact (z_or_ok hok i).1⟩
/-- a place is shown now or in n nights -/
def z_shn (E : z_E) (u : k_S) (n p : Nat) : Prop := ∃ i, i ≤ n ∧ z_pl E u 0 i = J p
/-- how many of the places p .. are not, by g -/
def z_cz (g : Nat → Bool) : Nat → Nat
  | 0 => 0
  | i + 1 => z_cz g i + (if g i = true then 1 else 0)
/-- the first, from 0 on, below n; or -2 -/
def z_hz (g : Nat → Bool) (a n : Nat) (r : Int32) : Prop := (∃ i, a ≤ i ∧ i < n ∧ g i = true ∧ (∀ j, a ≤ j → j < i → g j = false) ∧ r = J i) ∨ ((∀ j, a ≤ j → j < n → g j = false) ∧ r = -2)
theorem z_hz_u {g : Nat → Bool} {a n : Nat} {r r' : Int32} (h : z_hz g a n r) (h' : z_hz g a n r') : r = r' := by
  rcases h with ⟨i, a1, a2, a3, a4, rfl⟩ | ⟨a1, rfl⟩ <;> rcases h' with ⟨j, b1, b2, b3, b4, rfl⟩ | ⟨b1, rfl⟩
  · have : i = j := by
      rcases Nat.lt_trichotomy i j with q | q | q
      · have := b4 i a1 q; rw [a3] at this; cases this
      · exact q
      · have := a4 j b1 q; rw [b3] at this; cases this
    rw [this]
  · have := b1 i a1 a2; rw [a3] at this; cases this
  · have := a1 j b1 b2; rw [b3] at this; cases this
  · rfl
theorem z_shn_s {E : z_E} {u : k_S} {n p q : Nat} (h : z_pl E u 0 (n + 1) = J q) (hp : p < 40) (hq : q < 40) : z_shn E u (n + 1) p ↔ (p = q ∨ z_shn E u n p) := by
  constructor
  · rintro ⟨i, hi, e⟩
    by_cases e2 : i = n + 1
    · subst e2
      rw [h, J_inj (by omega) (by omega)] at e
      exact Or.inl e.symm
    · exact Or.inr ⟨i, by omega, e⟩
  · rintro (rfl | ⟨i, hi, e⟩)
    · exact ⟨n + 1, Nat.le_refl _, h⟩
    · exact ⟨i, by omega, e⟩
/-- the class's marks, the reference's marks -/
def z_mk (c : Nat) (E : z_E) (u : k_S) (n : Nat) (v : k_S) : Prop := ∀ p, p < 40 → (v.2.1 c p = 0 ∧ ¬ z_shn E u n p) ∨ (v.2.1 c p = 1 ∧ z_shn E u n p)
theorem z_mk_s {c : Nat} {E : z_E} {u v : k_S} {n q : Nat} (h : z_mk c E u n v) (hq : q < 40) (e : z_pl E u 0 (n + 1) = J q) (v' : k_S) (hv' : v'.2.1 c = upd (v.2.1 c) q 1) : z_mk c E u (n + 1) v' := by
  intro p hp
  rw [hv', z_up]
  by_cases e2 : p = q
  · rw [if_pos e2]; exact Or.inr ⟨rfl, (z_shn_s e hp hq).mpr (Or.inl e2)⟩
  · rw [if_neg e2]
    rcases h p hp with ⟨a, b⟩ | ⟨a, b⟩
    · exact Or.inl ⟨a, fun x => ((z_shn_s e hp hq).mp x).elim e2 b⟩
    · exact Or.inr ⟨a, (z_shn_s e hp hq).mpr (Or.inr b)⟩
theorem z_mk_0 {c : Nat} {E : z_E} {u v v' : k_S} {q : Nat} (h : ∀ p, p < 40 → v.2.1 c p = 0) (hq : q < 40) (e : z_pl E u 0 0 = J q) (hv' : v'.2.1 c = upd (v.2.1 c) q 1) : z_mk c E u 0 v' := by
  intro p hp
  rw [hv', z_up]
  by_cases e2 : p = q
  · rw [if_pos e2]; exact Or.inr ⟨rfl, 0, Nat.le_refl 0, by rw [e, e2]⟩
  · rw [if_neg e2]
    refine Or.inl ⟨h p hp, fun ⟨i, hi, x⟩ => ?_⟩
    have : i = 0 := by omega
    subst this
    rw [e, J_inj (by omega) (by omega)] at x
    exact e2 x.symm
theorem z_mark {E : z_E} {u v : k_S} {i q : Nat} (h : z_Wt E 1 u i v) (hq : q < 40) (e : z_pl E u 0 i = J q) : k_sat (f_Nights_markShown v) (fun _ v' => z_Wt E 1 u i v' ∧ v'.2.1 13 = upd (v.2.1 13) q 1) := by
  unfold f_Nights_markShown
  rw [show (0 : Int32) = J 0 from rfl, z_Wt_p h (by omega) (by omega), z_bind_some, e]
  refine z_neg (by (try simp (disch := omega) only [Int32.lt_iff_toInt_lt, Int32.le_iff_toInt_le, ← Int32.toInt_inj, Int32.toInt_add, Int32.toInt_sub, Int32.toInt_mul, Int32.toInt_neg, z_bm, z_bm2, J_ti, J_toInt, z_cn, Int32.reduceToInt]) <;> omega) (z_neg (by (try simp (disch := omega) only [Int32.lt_iff_toInt_lt, Int32.le_iff_toInt_le, ← Int32.toInt_inj, Int32.toInt_add, Int32.toInt_sub, Int32.toInt_mul, Int32.toInt_neg, z_bm, z_bm2, J_ti, J_toInt, z_cn, Int32.reduceToInt]) <;> omega) (z_ck (by (try simp (disch := omega) only [Int32.lt_iff_toInt_lt, Int32.le_iff_toInt_le, ← Int32.toInt_inj, Int32.toInt_add, Int32.toInt_sub, Int32.toInt_mul, Int32.toInt_neg, z_bm, z_bm2, J_ti, J_toInt, z_cn, Int32.reduceToInt]) <;> omega) (by (try simp (disch := omega) only [Int32.lt_iff_toInt_lt, Int32.le_iff_toInt_le, ← Int32.toInt_inj, Int32.toInt_add, Int32.toInt_sub, Int32.toInt_mul, Int32.toInt_neg, z_bm, z_bm2, J_ti, J_toInt, z_cn, Int32.reduceToInt]) <;> omega) (z_let ?_)))
  rw [J_toNat (by omega)]
  exact k_sat_mk ⟨⟨h.1.tr (z_wA rfl), h.2.1, h.2.2⟩, by simp [k_wA]⟩
theorem z_never (a b : Int32) (u : k_S) (h : zI u) : z_pair (f_W_never a b) (f_R_never a b) u zI := by
  obtain ⟨E, hE, -, eS, -⟩ := z_env h
  have hE4 := hE.1.1
  have e1 := hE.1.2.1
  have e2 := hE.2.1.2.1
  refine z_pair_of ?_
  by_cases hr : (1 ≤ a.toInt ∧ a.toInt ≤ 2000) ∧ 0 ≤ b.toInt ∧ b.toInt ≤ 1
  · obtain ⟨⟨ha1, ha2⟩, hb1, hb2⟩ := hr
    obtain ⟨n, rfl, hn, -⟩ := J_of (x := a) (by omega)
    unfold f_W_never
    refine z_neg (by (try simp (disch := omega) only [Int32.lt_iff_toInt_lt, Int32.le_iff_toInt_le, ← Int32.toInt_inj, Int32.toInt_add, Int32.toInt_sub, Int32.toInt_mul, Int32.toInt_neg, z_bm, z_bm2, J_ti, J_toInt, z_cn, Int32.reduceToInt]) <;> omega) (z_neg (by (try simp (disch := omega) only [Int32.lt_iff_toInt_lt, Int32.le_iff_toInt_le, ← Int32.toInt_inj, Int32.toInt_add, Int32.toInt_sub, Int32.toInt_mul, Int32.toInt_neg, z_bm, z_bm2, J_ti, J_toInt, z_cn, Int32.reduceToInt]) <;> omega) (z_neg (by (try simp (disch := omega) only [Int32.lt_iff_toInt_lt, Int32.le_iff_toInt_le, ← Int32.toInt_inj, Int32.toInt_add, Int32.toInt_sub, Int32.toInt_mul, Int32.toInt_neg, z_bm, z_bm2, J_ti, J_toInt, z_cn, Int32.reduceToInt]) <;> omega) (z_pos (by (try simp (disch := omega) only [Int32.lt_iff_toInt_lt, Int32.le_iff_toInt_le, ← Int32.toInt_inj, Int32.toInt_add, Int32.toInt_sub, Int32.toInt_mul, Int32.toInt_neg, z_bm, z_bm2, J_ti, J_toInt, z_cn, Int32.reduceToInt]) <;> omega) ?_)))
    by_cases h0 : E.1 = 0
    · refine z_pos (by rw [e1, h0]; rfl) (k_sat_mk ?_)
      unfold f_R_never
      rw [z_Rin1 (by (try simp (disch := omega) only [Int32.lt_iff_toInt_lt, Int32.le_iff_toInt_le, ← Int32.toInt_inj, Int32.toInt_add, Int32.toInt_sub, Int32.toInt_mul, Int32.toInt_neg, z_bm, z_bm2, J_ti, J_toInt, z_cn, Int32.reduceToInt]) <;> omega) (by (try simp (disch := omega) only [Int32.lt_iff_toInt_lt, Int32.le_iff_toInt_le, ← Int32.toInt_inj, Int32.toInt_add, Int32.toInt_sub, Int32.toInt_mul, Int32.toInt_neg, z_bm, z_bm2, J_ti, J_toInt, z_cn, Int32.reduceToInt]) <;> omega), z_bind_some]
      refine z_neg (by decide) ?_
      rw [z_Rin1 (by (try simp (disch := omega) only [Int32.lt_iff_toInt_lt, Int32.le_iff_toInt_le, ← Int32.toInt_inj, Int32.toInt_add, Int32.toInt_sub, Int32.toInt_mul, Int32.toInt_neg, z_bm, z_bm2, J_ti, J_toInt, z_cn, Int32.reduceToInt]) <;> omega) (by (try simp (disch := omega) only [Int32.lt_iff_toInt_lt, Int32.le_iff_toInt_le, ← Int32.toInt_inj, Int32.toInt_add, Int32.toInt_sub, Int32.toInt_mul, Int32.toInt_neg, z_bm, z_bm2, J_ti, J_toInt, z_cn, Int32.reduceToInt]) <;> omega), z_bind_some]
      exact z_neg (by decide) (z_pos (by rw [e2, h0]; rfl) (k_sat_mk ⟨rfl, h⟩))
    · refine z_neg (by rw [e1]; (try simp (disch := omega) only [Int32.lt_iff_toInt_lt, Int32.le_iff_toInt_le, ← Int32.toInt_inj, Int32.toInt_add, Int32.toInt_sub, Int32.toInt_mul, Int32.toInt_neg, z_bm, z_bm2, J_ti, J_toInt, z_cn, Int32.reduceToInt]) <;> omega) ?_
      have hpl : ∀ i, ∃ q, q < 40 ∧ z_pl E u 0 i = J q := fun i => by
        obtain ⟨p, s, x1, x2, x3, -⟩ := z_pl_ok hE.2.2.2.1 (show 0 < E.1 by omega) i
        exact ⟨p, by omega, x3⟩
      obtain ⟨p0, s, -, hs2, hs, -, es⟩ := hE.2.2.1.2 0 (by omega)
      have es5 : u.2.1 5 0 = J s := by rw [← eS]; exact es
      have es45 : u.2.1 45 0 = J s := ((hE.2.1.2.2.1 0 (by omega)).1).trans es
      have hg : ∃ g : Nat → Bool, ∀ p, g p = true ↔ ¬ z_shn E u n p := by
        classical
        exact ⟨fun p => decide (¬ z_shn E u n p), fun p => by simp⟩
      obtain ⟨g, hg⟩ := hg
      have gm : ∀ {c : Nat} {v : k_S}, z_mk c E u n v → ∀ p, p < 40 → (v.2.1 c p = 0 ↔ g p = true) := by
        intro c v hm p hp
        rcases hm p hp with ⟨x, y⟩ | ⟨x, y⟩
        · exact ⟨fun _ => (hg p).mpr y, fun _ => x⟩
        · exact ⟨fun q => absurd (q.symm.trans x) (by decide), fun q => absurd y ((hg p).mp q)⟩
      have key : ∀ fl : Int32, (fl = 0 ∨ fl = 1) → k_sat (f_Nights_unshown (J n) fl u) (fun r v => z_fr [1702, 1206, 704] [18, 19, 9, 13] u v ∧ (fl = 1 → r = J (z_cz g s)) ∧ (fl = 0 → z_hz g 0 s r)) := by
        intro fl hfl
        unfold f_Nights_unshown
        refine z_bind _ (z_for 0 40 (fun i v => z_fr [] [13] u v ∧ ∀ p, p < i → v.2.1 13 p = 0) (K := fun _ v => z_fr [] [13] u v ∧ ∀ p, p < 40 → v.2.1 13 p = 0) (by omega) (by omega) ⟨z_fr.rf, fun p hp => by omega⟩ (fun i v _ hi hp => ?_) (fun v hp => ?_)) (fun _ v0 hv0 => ?_)
        · unfold f_Nights_unshown_B2
          refine z_neg (by (try simp (disch := omega) only [Int32.lt_iff_toInt_lt, Int32.le_iff_toInt_le, ← Int32.toInt_inj, Int32.toInt_add, Int32.toInt_sub, Int32.toInt_mul, Int32.toInt_neg, z_bm, z_bm2, J_ti, J_toInt, z_cn, Int32.reduceToInt]) <;> omega) (z_ck (by (try simp (disch := omega) only [Int32.lt_iff_toInt_lt, Int32.le_iff_toInt_le, ← Int32.toInt_inj, Int32.toInt_add, Int32.toInt_sub, Int32.toInt_mul, Int32.toInt_neg, z_bm, z_bm2, J_ti, J_toInt, z_cn, Int32.reduceToInt]) <;> omega) (by (try simp (disch := omega) only [Int32.lt_iff_toInt_lt, Int32.le_iff_toInt_le, ← Int32.toInt_inj, Int32.toInt_add, Int32.toInt_sub, Int32.toInt_mul, Int32.toInt_neg, z_bm, z_bm2, J_ti, J_toInt, z_cn, Int32.reduceToInt]) <;> omega) (z_let (k_sat_mk (Or.inl ⟨rfl, hp.1.tr (z_wA rfl), fun p hp' => ?_⟩))))
          simp only [k_wA, if_true, J_toNat (show i < 2147483648 by omega)]
          rw [z_up]
          by_cases e : p = i
          · rw [if_pos e]
          · rw [if_neg e]; exact hp.2 p (by omega)
        · unfold f_Nights_unshown_B2
          exact z_pos (by decide) (k_sat_mk ⟨_, rfl, hp⟩)
        · have hE0 := z_en_f hv0.1 (by decide) (by decide) (by decide) hE
          have hWu : ∀ {K i : Nat} {v : k_S}, z_Wt E K v0 i v → z_Wt E K u i v := by
            intro K i v hv
            have : z_moR v0 = z_moR u := by unfold z_moR; rw [hv0.1.1 4209 rfl, hv0.1.2.1 46 rfl, hv0.1.2.1 47 rfl]
            exact ⟨(hv0.1.mono rfl rfl).tr hv.1, hv.2.1, by rw [← this]; exact hv.2.2⟩
          refine z_bind (fun _ v => z_Wt E 1 u 0 v ∧ ∀ p, p < 40 → v.2.1 13 p = 0) (z_mono (z_and (z_Wt_0 hE0) (z_think_fr hE0.1)) (fun _ v hv => ⟨(hWu hv.1).le (by omega), ?_⟩)) (fun _ v1 hv1 => ?_)
          · rw [hv.2.2.1 13 rfl]; exact hv0.2
          · obtain ⟨q, hq, eq⟩ := hpl 0
            refine z_bind _ (z_mark hv1.1 hq eq) (fun _ v2 hv2 => z_bind _ (z_for 0 n (fun i v => z_Wt E 1 u i v ∧ z_mk 13 E u i v) (K := fun _ v => z_Wt E 1 u n v ∧ z_mk 13 E u n v) (by omega) (Nat.zero_le n) ⟨hv2.1, z_mk_0 hv1.2 hq eq hv2.2⟩ (fun i v _ hi hp => ?_) (fun v hp => ?_)) (fun _ v3 hv3 => ?_))
            · unfold f_Nights_unshown_B34
              refine z_neg (by (try simp (disch := omega) only [Int32.lt_iff_toInt_lt, Int32.le_iff_toInt_le, ← Int32.toInt_inj, Int32.toInt_add, Int32.toInt_sub, Int32.toInt_mul, Int32.toInt_neg, z_bm, z_bm2, J_ti, J_toInt, z_cn, Int32.reduceToInt]) <;> omega) (z_bind (fun _ v' => z_Wt E 1 u (i + 1) v' ∧ v'.2.1 13 = v.2.1 13) (z_mono (z_and (z_Wt_s (K := 1) hE.1 (by omega) hp.1) (z_pass_Thought E 1 1 (by omega) (by omega) v (z_Wt_ok hE.1 hp.1).1 (z_Wt_ok hE.1 hp.1).2)) (fun _ v' hv' => ⟨hv'.1, hv'.2.1.2.1 13 rfl⟩)) (fun _ v' hv' => ?_))
              obtain ⟨q, hq, eq⟩ := hpl (i + 1)
              exact z_bind _ (z_mark hv'.1 hq eq) (fun _ v4 hv4 => k_sat_mk (Or.inl ⟨rfl, hv4.1, z_mk_s hp.2 hq eq v4 (by rw [hv4.2, hv'.2])⟩))
            · unfold f_Nights_unshown_B34
              exact z_pos (Int32.le_refl _) (k_sat_mk ⟨_, rfl, hp⟩)
            · have e53 : v3.2.1 5 0 = J s := by rw [hv3.1.1.2.1 5 rfl]; exact es5
              refine z_bind _ (z_for2 0 s 0 (fun i x v => v = v3 ∧ x = J (z_cz g i) ∧ (fl = 0 → ∀ j, j < i → g j = false)) (K := fun y v => v = v3 ∧ ((∃ i, y = .inl (J i) ∧ fl = 0 ∧ i < s ∧ g i = true ∧ ∀ j, j < i → g j = false) ∨ (y = .inr (J (z_cz g s)) ∧ (fl = 0 → ∀ j, j < s → g j = false)))) (by omega) (Nat.zero_le s) ⟨rfl, rfl, fun _ j hj => by omega⟩ (fun i x v _ hi hp => ?_) (fun x v hp => ?_)) (fun y v hv => ?_)
              · obtain ⟨rfl, rfl, g3⟩ := hp
                unfold f_Nights_unshown_B64
                dsimp only
                rw [show (0 : Int32) = J 0 from rfl, z_Wheels_sizeOf (by omega), z_bind_some, e53]
                refine z_neg (by (try simp (disch := omega) only [Int32.lt_iff_toInt_lt, Int32.le_iff_toInt_le, ← Int32.toInt_inj, Int32.toInt_add, Int32.toInt_sub, Int32.toInt_mul, Int32.toInt_neg, z_bm, z_bm2, J_ti, J_toInt, z_cn, Int32.reduceToInt]) <;> omega) (z_neg (by (try simp (disch := omega) only [Int32.lt_iff_toInt_lt, Int32.le_iff_toInt_le, ← Int32.toInt_inj, Int32.toInt_add, Int32.toInt_sub, Int32.toInt_mul, Int32.toInt_neg, z_bm, z_bm2, J_ti, J_toInt, z_cn, Int32.reduceToInt]) <;> omega) (z_ck (by (try simp (disch := omega) only [Int32.lt_iff_toInt_lt, Int32.le_iff_toInt_le, ← Int32.toInt_inj, Int32.toInt_add, Int32.toInt_sub, Int32.toInt_mul, Int32.toInt_neg, z_bm, z_bm2, J_ti, J_toInt, z_cn, Int32.reduceToInt]) <;> omega) (by (try simp (disch := omega) only [Int32.lt_iff_toInt_lt, Int32.le_iff_toInt_le, ← Int32.toInt_inj, Int32.toInt_add, Int32.toInt_sub, Int32.toInt_mul, Int32.toInt_neg, z_bm, z_bm2, J_ti, J_toInt, z_cn, Int32.reduceToInt]) <;> omega) ?_))
                rw [J_toNat (by omega)]
                refine z_ite (fun q => ?_) (fun q => ?_)
                · have hgi : g i = true := (gm hv3.2 i (by omega)).mp q
                  rcases hfl with rfl | rfl
                  · exact z_pos rfl (k_sat_mk (Or.inr ⟨_, rfl, rfl, Or.inl ⟨i, rfl, rfl, hi, hgi, g3 rfl⟩⟩))
                  · exact z_neg (by decide) (k_sat_mk (Or.inl ⟨_, rfl, rfl, by rw [z_cz, if_pos hgi, z_J1], fun q => absurd q (by decide)⟩))
                · have hgi : g i = false := by
                    cases hgi : g i with
                    | false => rfl
                    | true => exact absurd ((gm hv3.2 i (by omega)).mpr hgi) q
                  refine k_sat_mk (Or.inl ⟨_, rfl, rfl, by rw [z_cz, hgi]; simp, fun q j hj => ?_⟩)
                  by_cases e : j = i
                  · rw [e]; exact hgi
                  · exact g3 q j (by omega)
              · obtain ⟨rfl, rfl, g3⟩ := hp
                unfold f_Nights_unshown_B64
                dsimp only
                rw [show (0 : Int32) = J 0 from rfl, z_Wheels_sizeOf (by omega), z_bind_some, e53]
                exact z_pos (Int32.le_refl _) (k_sat_mk ⟨_, rfl, rfl, Or.inr ⟨rfl, g3⟩⟩)
              · obtain ⟨rfl, ⟨i, rfl, g2, g3, g4, g5⟩ | ⟨rfl, g2⟩⟩ := hv
                · exact k_sat_mk ⟨hv3.1.1, fun q => absurd (q.symm.trans g2) (by decide), fun _ => Or.inl ⟨i, Nat.zero_le i, g3, g4, fun j _ hj => g5 j hj, rfl⟩⟩
                · simp only [k_cs]
                  unfold f_Nights_unshown_J113
                  rcases hfl with rfl | rfl
                  · exact z_pos rfl (k_sat_mk ⟨hv3.1.1, fun q => absurd q (by decide), fun _ => Or.inr ⟨fun j _ hj => g2 rfl j hj, rfl⟩⟩)
                  · exact z_neg (by decide) (k_sat_mk ⟨hv3.1.1, fun _ => rfl, fun q => absurd q (by decide)⟩)
      have rest : ∀ (r : Int32) (v : k_S), z_fr [1702, 1206, 704] [18, 19, 9, 13] u v → ((b = 0 ∧ r = J (z_cz g s)) ∨ (¬ b = 0 ∧ z_hz g 0 s r)) → k_sat (f_R_never (J n) b v) (fun r' v2 => r = r' ∧ zI v2) := by
        intro r v hv hrr
        obtain ⟨i2, hE2, m2, q1, q2, q3⟩ := z_Wdone h hE hv
        unfold f_R_never
        rw [z_Rin1 (by (try simp (disch := omega) only [Int32.lt_iff_toInt_lt, Int32.le_iff_toInt_le, ← Int32.toInt_inj, Int32.toInt_add, Int32.toInt_sub, Int32.toInt_mul, Int32.toInt_neg, z_bm, z_bm2, J_ti, J_toInt, z_cn, Int32.reduceToInt]) <;> omega) (by (try simp (disch := omega) only [Int32.lt_iff_toInt_lt, Int32.le_iff_toInt_le, ← Int32.toInt_inj, Int32.toInt_add, Int32.toInt_sub, Int32.toInt_mul, Int32.toInt_neg, z_bm, z_bm2, J_ti, J_toInt, z_cn, Int32.reduceToInt]) <;> omega), z_bind_some]
        refine z_neg (by decide) ?_
        rw [z_Rin1 (by (try simp (disch := omega) only [Int32.lt_iff_toInt_lt, Int32.le_iff_toInt_le, ← Int32.toInt_inj, Int32.toInt_add, Int32.toInt_sub, Int32.toInt_mul, Int32.toInt_neg, z_bm, z_bm2, J_ti, J_toInt, z_cn, Int32.reduceToInt]) <;> omega) (by (try simp (disch := omega) only [Int32.lt_iff_toInt_lt, Int32.le_iff_toInt_le, ← Int32.toInt_inj, Int32.toInt_add, Int32.toInt_sub, Int32.toInt_mul, Int32.toInt_neg, z_bm, z_bm2, J_ti, J_toInt, z_cn, Int32.reduceToInt]) <;> omega), z_bind_some]
        refine z_neg (by decide) (z_neg (by rw [q1, e2]; (try simp (disch := omega) only [Int32.lt_iff_toInt_lt, Int32.le_iff_toInt_le, ← Int32.toInt_inj, Int32.toInt_add, Int32.toInt_sub, Int32.toInt_mul, Int32.toInt_neg, z_bm, z_bm2, J_ti, J_toInt, z_cn, Int32.reduceToInt]) <;> omega) (z_bind _ (z_for 0 40 (fun i w => z_fr [] [62] v w ∧ ∀ p, p < i → w.2.1 62 p = 0) (K := fun _ w => z_fr [] [62] v w ∧ ∀ p, p < 40 → w.2.1 62 p = 0) (by omega) (by omega) ⟨z_fr.rf, fun p hp => by omega⟩ (fun i w _ hi hp => ?_) (fun w hp => ?_)) (fun _ v0 hv0 => ?_)))
        · unfold f_R_never_B34
          refine z_neg (by (try simp (disch := omega) only [Int32.lt_iff_toInt_lt, Int32.le_iff_toInt_le, ← Int32.toInt_inj, Int32.toInt_add, Int32.toInt_sub, Int32.toInt_mul, Int32.toInt_neg, z_bm, z_bm2, J_ti, J_toInt, z_cn, Int32.reduceToInt]) <;> omega) (z_ck (by (try simp (disch := omega) only [Int32.lt_iff_toInt_lt, Int32.le_iff_toInt_le, ← Int32.toInt_inj, Int32.toInt_add, Int32.toInt_sub, Int32.toInt_mul, Int32.toInt_neg, z_bm, z_bm2, J_ti, J_toInt, z_cn, Int32.reduceToInt]) <;> omega) (by (try simp (disch := omega) only [Int32.lt_iff_toInt_lt, Int32.le_iff_toInt_le, ← Int32.toInt_inj, Int32.toInt_add, Int32.toInt_sub, Int32.toInt_mul, Int32.toInt_neg, z_bm, z_bm2, J_ti, J_toInt, z_cn, Int32.reduceToInt]) <;> omega) (z_let (k_sat_mk (Or.inl ⟨rfl, hp.1.tr (z_wA rfl), fun p hp' => ?_⟩))))
          simp only [k_wA, if_true, J_toNat (show i < 2147483648 by omega)]
          rw [z_up]
          by_cases e : p = i
          · rw [if_pos e]; rfl
          · rw [if_neg e]; exact hp.2 p (by omega)
        · unfold f_R_never_B34
          exact z_pos (by decide) (k_sat_mk ⟨_, rfl, hp⟩)
        · have m0 : z_moR v0 = z_moR v := by unfold z_moR; rw [hv0.1.1 4209 rfl, hv0.1.2.1 46 rfl, hv0.1.2.1 47 rfl]
          have hE0 := z_en_f hv0.1 (by decide) (by decide) (by decide) hE2
          have i0 : zI v0 := zI_0 i2 (hv0.1.mono rfl rfl)
          have epl : ∀ i, z_pl E v0 0 i = z_pl E u 0 i := fun i => by rw [z_pl_m m0, z_pl_m m2]
          have mkR : ∀ {i q : Nat} {w : k_S}, z_Rt E v0 i w → q < 40 → z_pl E u 0 i = J q → k_sat (k_ck (0 : Int32) 4 (k_ck (w.2.1 46 (0 : Int32).toNatClampNeg) 40 (k_let (k_wA w 62 (w.2.1 46 (0 : Int32).toNatClampNeg).toNatClampNeg (1 &&& 1)) (fun u9 => some ((), u9))))) (fun _ w' => z_Rt E v0 i w' ∧ w'.2.1 62 = upd (w.2.1 62) q 1) := by
            intro i q w hw hq eq
            have e0 : w.2.1 46 (0 : Int32).toNatClampNeg = J q := by rw [show (0 : Int32).toNatClampNeg = 0 from rfl, (z_Rt_p hw 0).1, epl, eq]
            rw [e0]
            refine z_ck (by decide) (by decide) (z_ck (by (try simp (disch := omega) only [Int32.lt_iff_toInt_lt, Int32.le_iff_toInt_le, ← Int32.toInt_inj, Int32.toInt_add, Int32.toInt_sub, Int32.toInt_mul, Int32.toInt_neg, z_bm, z_bm2, J_ti, J_toInt, z_cn, Int32.reduceToInt]) <;> omega) (by (try simp (disch := omega) only [Int32.lt_iff_toInt_lt, Int32.le_iff_toInt_le, ← Int32.toInt_inj, Int32.toInt_add, Int32.toInt_sub, Int32.toInt_mul, Int32.toInt_neg, z_bm, z_bm2, J_ti, J_toInt, z_cn, Int32.reduceToInt]) <;> omega) (z_let (k_sat_mk ⟨⟨hw.1.tr (z_wA rfl), hw.2.1, hw.2.2.1, hw.2.2.2⟩, ?_⟩)))
            rw [J_toNat (by omega)]
            simp [k_wA]
          refine z_bind _ (z_and (z_Rt_0 E v0) (z_keepNow v0)) (fun _ w1 hw1 => ?_)
          obtain ⟨q, hq, eq⟩ := hpl 0
          have e0 : w1.2.1 46 (0 : Int32).toNatClampNeg = J q := by rw [show (0 : Int32).toNatClampNeg = 0 from rfl, (z_Rt_p hw1.1 0).1, epl, eq]
          rw [e0]
          refine z_ck (by decide) (by decide) (z_ck (by (try simp (disch := omega) only [Int32.lt_iff_toInt_lt, Int32.le_iff_toInt_le, ← Int32.toInt_inj, Int32.toInt_add, Int32.toInt_sub, Int32.toInt_mul, Int32.toInt_neg, z_bm, z_bm2, J_ti, J_toInt, z_cn, Int32.reduceToInt]) <;> omega) (by (try simp (disch := omega) only [Int32.lt_iff_toInt_lt, Int32.le_iff_toInt_le, ← Int32.toInt_inj, Int32.toInt_add, Int32.toInt_sub, Int32.toInt_mul, Int32.toInt_neg, z_bm, z_bm2, J_ti, J_toInt, z_cn, Int32.reduceToInt]) <;> omega) (z_let ?_))
          rw [J_toNat (show q < 2147483648 by omega)]
          have hz1 : z_Rt E v0 0 (k_wA w1 62 q (1 &&& 1)) := ⟨hw1.1.1.tr (z_wA rfl), hw1.1.2.1, hw1.1.2.2.1, hw1.1.2.2.2⟩
          have hm1 : z_mk 62 E u 0 (k_wA w1 62 q (1 &&& 1)) := z_mk_0 (v := w1) (fun p hp => by rw [hw1.2.1.2.1 62 rfl]; exact hv0.2 p hp) hq eq (by simp [k_wA])
          refine z_bind _ (z_for 0 n (fun i w => z_Rt E v0 i w ∧ z_mk 62 E u i w) (K := fun _ w => z_Rt E v0 n w ∧ z_mk 62 E u n w) (by omega) (Nat.zero_le n) ⟨hz1, hm1⟩ (fun i w _ hi hp => ?_) (fun w hp => ?_)) (fun _ w2 hw2 => ?_)
          · unfold f_R_never_B71
            refine z_neg (by (try simp (disch := omega) only [Int32.lt_iff_toInt_lt, Int32.le_iff_toInt_le, ← Int32.toInt_inj, Int32.toInt_add, Int32.toInt_sub, Int32.toInt_mul, Int32.toInt_neg, z_bm, z_bm2, J_ti, J_toInt, z_cn, Int32.reduceToInt]) <;> omega) (z_bind _ (z_and (z_Rt_s hE0.2.1 hE0.2.2.2.1 hp.1) (z_goOn E w (z_Rt_ok hE0.2.1 hE0.2.2.2.1 hp.1).1 (z_Rt_ok hE0.2.1 hE0.2.2.2.1 hp.1).2)) (fun _ w' hw' => ?_))
            obtain ⟨q, hq, eq⟩ := hpl (i + 1)
            have e0 : w'.2.1 46 (0 : Int32).toNatClampNeg = J q := by rw [show (0 : Int32).toNatClampNeg = 0 from rfl, (z_Rt_p hw'.1 0).1, epl, eq]
            rw [e0]
            refine z_ck (by decide) (by decide) (z_ck (by (try simp (disch := omega) only [Int32.lt_iff_toInt_lt, Int32.le_iff_toInt_le, ← Int32.toInt_inj, Int32.toInt_add, Int32.toInt_sub, Int32.toInt_mul, Int32.toInt_neg, z_bm, z_bm2, J_ti, J_toInt, z_cn, Int32.reduceToInt]) <;> omega) (by (try simp (disch := omega) only [Int32.lt_iff_toInt_lt, Int32.le_iff_toInt_le, ← Int32.toInt_inj, Int32.toInt_add, Int32.toInt_sub, Int32.toInt_mul, Int32.toInt_neg, z_bm, z_bm2, J_ti, J_toInt, z_cn, Int32.reduceToInt]) <;> omega) (z_let ?_))
            rw [J_toNat (show q < 2147483648 by omega)]
            exact k_sat_mk (Or.inl ⟨rfl, ⟨hw'.1.1.tr (z_wA rfl), hw'.1.2.1, hw'.1.2.2.1, hw'.1.2.2.2⟩, z_mk_s hp.2 hq eq _ (by simp [k_wA, hw'.2.1.2.1 62 rfl])⟩)
          · unfold f_R_never_B71
            exact z_pos (Int32.le_refl _) (k_sat_mk ⟨_, rfl, hp⟩)
          · refine z_bind _ (z_and (z_Rt_b hE4 hw2.1) (z_layBack w2)) (fun _ w3 hw3 => ?_)
            have m3 : z_mk 62 E u n w3 := by unfold z_mk; rw [hw3.2.1.2.1 62 rfl]; exact hw2.2
            have e45 : w3.2.1 45 0 = J s := by rw [hw3.1.2.1 45 rfl, hv0.1.2.1 45 rfl, q3]; exact es45
            have i3 : zI w3 := zI_0 i0 (hw3.1.mono rfl rfl)
            rw [show (0 : Int32).toNatClampNeg = 0 from rfl, e45]
            refine z_ck (by decide) (by decide) (z_let ?_)
            refine z_bind (fun y v => v = w3 ∧ y.1 = J (z_cz g s) ∧ z_hz g 0 s y.2) (z_itr (P := fun m x v => ∃ p, p ≤ s ∧ x.2.2 = J p - 1 ∧ m = p ∧ v = w3 ∧ x.1 + J (z_cz g p) = J (z_cz g s) ∧ z_hz g p s x.2.1) (fun m x v h => ?_) k_FU s _ w3 (by unfold k_FU; omega) ⟨s, Nat.le_refl s, rfl, rfl, rfl, by rw [Int32.zero_add], Or.inr ⟨fun j h1 h2 => by omega, rfl⟩⟩) (fun y v hv => ?_)
            · obtain ⟨x1, x2, x3⟩ := x
              obtain ⟨p, hps, e3, rfl, rfl, g1, g2⟩ := h
              simp only at e3 g1 g2
              subst e3
              unfold f_R_never_B118
              dsimp only
              by_cases hp0 : m = 0
              · subst hp0
                refine z_pos (by decide) (k_sat_mk (Or.inr ⟨_, rfl, rfl, ?_, g2⟩))
                rw [← g1]; show x1 = x1 + J 0; rw [J_0, Int32.add_zero]
              · obtain ⟨p', rfl⟩ : ∃ p', m = p' + 1 := ⟨m - 1, by omega⟩
                rw [z_Jm]
                refine z_neg (by (try simp (disch := omega) only [Int32.lt_iff_toInt_lt, Int32.le_iff_toInt_le, ← Int32.toInt_inj, Int32.toInt_add, Int32.toInt_sub, Int32.toInt_mul, Int32.toInt_neg, z_bm, z_bm2, J_ti, J_toInt, z_cn, Int32.reduceToInt]) <;> omega) (z_ck (by (try simp (disch := omega) only [Int32.lt_iff_toInt_lt, Int32.le_iff_toInt_le, ← Int32.toInt_inj, Int32.toInt_add, Int32.toInt_sub, Int32.toInt_mul, Int32.toInt_neg, z_bm, z_bm2, J_ti, J_toInt, z_cn, Int32.reduceToInt]) <;> omega) (by (try simp (disch := omega) only [Int32.lt_iff_toInt_lt, Int32.le_iff_toInt_le, ← Int32.toInt_inj, Int32.toInt_add, Int32.toInt_sub, Int32.toInt_mul, Int32.toInt_neg, z_bm, z_bm2, J_ti, J_toInt, z_cn, Int32.reduceToInt]) <;> omega) ?_)
                rw [J_toNat (by omega)]
                have ed : J p' + Int32.ofInt (-1) = J p' - 1 := by
                  apply Int32.toInt.inj
                  rw [show Int32.ofInt (-1) = -1 from rfl]
                  (try simp (disch := omega) only [Int32.lt_iff_toInt_lt, Int32.le_iff_toInt_le, ← Int32.toInt_inj, Int32.toInt_add, Int32.toInt_sub, Int32.toInt_mul, Int32.toInt_neg, z_bm, z_bm2, J_ti, J_toInt, z_cn, Int32.reduceToInt]) <;> omega
                refine z_ite (fun q => ?_) (fun q => ?_)
                · have hg : g p' = true := (gm m3 p' (by omega)).mp q
                  refine k_sat_mk (Or.inl ⟨_, p', rfl, by omega, p', by omega, ed, rfl, rfl, ?_, Or.inl ⟨p', Nat.le_refl _, by omega, hg, fun j h1 h2 => by omega, rfl⟩⟩)
                  rw [← g1, z_cz, if_pos hg, ← z_J1, Int32.add_assoc, Int32.add_comm (Int32.ofInt 1)]
                · have hg : g p' = false := by
                    cases hg : g p' with
                    | false => rfl
                    | true => exact absurd ((gm m3 p' (by omega)).mpr hg) q
                  refine k_sat_mk (Or.inl ⟨_, p', rfl, by omega, p', by omega, ed, rfl, rfl, ?_, ?_⟩)
                  · rw [← g1, z_cz, hg]; simp
                  · rcases g2 with ⟨j, b1, b2, b3, b4, b5⟩ | ⟨b1, b2⟩
                    · refine Or.inl ⟨j, by omega, b2, b3, fun k h1 h2 => ?_, b5⟩
                      by_cases e : k = p'
                      · rw [e]; exact hg
                      · exact b4 k (by omega) h2
                    · refine Or.inr ⟨fun k h1 h2 => ?_, b2⟩
                      by_cases e : k = p'
                      · rw [e]; exact hg
                      · exact b1 k (by omega) h2
            · obtain ⟨rfl, hy1, hy2⟩ := hv
              refine z_ite (fun q => k_sat_mk ⟨?_, i3⟩) (fun q => k_sat_mk ⟨?_, i3⟩)
              · rcases hrr with ⟨-, x⟩ | ⟨x, -⟩
                · rw [x, hy1]
                · exact absurd q x
              · rcases hrr with ⟨x, -⟩ | ⟨-, x⟩
                · exact absurd x q
                · exact z_hz_u x hy2
      by_cases hb0 : b = 0
      · refine z_pos hb0 ?_
        unfold f_W_never_J50
        exact z_bind _ (key 1 (Or.inr rfl)) (fun r v hv => k_sat_mk (rest r v hv.1 (Or.inl ⟨hb0, hv.2.1 rfl⟩)))
      · refine z_neg hb0 ?_
        unfold f_W_never_J50
        exact z_bind _ (key 0 (Or.inl rfl)) (fun r v hv => k_sat_mk (rest r v hv.1 (Or.inr ⟨hb0, hv.2.2 rfl⟩)))
  · have hR : k_sat (f_R_never a b u) (fun r' v => (-1 : Int32) = r' ∧ zI v) := by
      unfold f_R_never
      by_cases q : 1 ≤ a.toInt ∧ a.toInt ≤ 2000
      · rw [z_Rin1 (by (try simp (disch := omega) only [Int32.lt_iff_toInt_lt, Int32.le_iff_toInt_le, ← Int32.toInt_inj, Int32.toInt_add, Int32.toInt_sub, Int32.toInt_mul, Int32.toInt_neg, z_bm, z_bm2, J_ti, J_toInt, z_cn, Int32.reduceToInt]) <;> omega) (by (try simp (disch := omega) only [Int32.lt_iff_toInt_lt, Int32.le_iff_toInt_le, ← Int32.toInt_inj, Int32.toInt_add, Int32.toInt_sub, Int32.toInt_mul, Int32.toInt_neg, z_bm, z_bm2, J_ti, J_toInt, z_cn, Int32.reduceToInt]) <;> omega), z_bind_some]
        refine z_neg (by decide) ?_
        rw [z_Rin0 (by ((try simp (disch := omega) only [Int32.lt_iff_toInt_lt, Int32.le_iff_toInt_le, ← Int32.toInt_inj, Int32.toInt_add, Int32.toInt_sub, Int32.toInt_mul, Int32.toInt_neg, z_bm, z_bm2, J_ti, J_toInt, z_cn, Int32.reduceToInt] at *); omega)), z_bind_some]
        exact z_pos rfl (k_sat_mk ⟨rfl, h⟩)
      · rw [z_Rin0 (by ((try simp (disch := omega) only [Int32.lt_iff_toInt_lt, Int32.le_iff_toInt_le, ← Int32.toInt_inj, Int32.toInt_add, Int32.toInt_sub, Int32.toInt_mul, Int32.toInt_neg, z_bm, z_bm2, J_ti, J_toInt, z_cn, Int32.reduceToInt] at *); omega)), z_bind_some]
        exact z_pos rfl (k_sat_mk ⟨rfl, h⟩)
    unfold f_W_never
    exact z_ite (fun _ => k_sat_mk hR) (fun _ => z_ite (fun _ => k_sat_mk hR) (fun _ => z_ite (fun _ => k_sat_mk hR) (fun _ => z_neg (by ((try simp (disch := omega) only [Int32.lt_iff_toInt_lt, Int32.le_iff_toInt_le, ← Int32.toInt_inj, Int32.toInt_add, Int32.toInt_sub, Int32.toInt_mul, Int32.toInt_neg, z_bm, z_bm2, J_ti, J_toInt, z_cn, Int32.reduceToInt] at *); omega)) (k_sat_mk hR))))
/-! near -/
def z_eW (E : z_E) (u : k_S) : Prop := z_EW E u ∧ z_ok E (z_moNow u) ∧ z_ag E.1 (z_moNow u) (z_moR u)
theorem z_Wt_w {E : z_E} {u : k_S} (h : z_eW E u) : k_sat (f_Nights_think u) (fun _ v => z_Wt E E.1 u 0 v) := by
  obtain ⟨h1, h3, h5⟩ := h
  unfold f_Nights_think
  rw [h1.2.1]
  refine z_bind _ (z_Thought_become_Now E.1 h1.1 u) (fun _ v hv => k_sat_mk ⟨hv.1.mono rfl rfl, ⟨h1.1, fun w hw => ?_⟩, ?_, fun w hw => ?_⟩)
  · obtain ⟨p, s, a1, a2, a3, a4, a5⟩ := h3.2 w hw
    exact ⟨p, s, a1, a2, a3, ((hv.2.2.1 w hw).1).trans a4, a5⟩
  · exact hv.2.1.trans h5.1
  · exact ⟨((hv.2.2.1 w hw).1).trans (h5.2 w hw).1, ((hv.2.2.1 w hw).2).trans (h5.2 w hw).2⟩
/-- wrong in the i-th night -/
def z_wr (E : z_E) (u : k_S) (k s : Nat) (i : Nat) : Bool := decide (¬ z_pl E u 0 i % J k = (u.2.1 46 0 + J i) % J s % J k)
theorem z_co_w (E : z_E) (u : k_S) (k s i : Nat) (hi : 1 ≤ i) : J (z_co (z_wr E u k s) (i + 1 - 1)) = if z_pl E u 0 i % J k = (u.2.1 46 0 + J i) % J s % J k then J (z_co (z_wr E u k s) (i - 1)) else J (z_co (z_wr E u k s) (i - 1)) + Int32.ofInt 1 := by
  rw [show i + 1 - 1 = (i - 1) + 1 by omega, z_co, show i - 1 + 1 = i by omega, J_c]
  by_cases q : z_pl E u 0 i % J k = (u.2.1 46 0 + J i) % J s % J k
  · rw [if_pos q, if_neg (by unfold z_wr; simp [q])]
  · rw [if_neg q, if_pos (by unfold z_wr; simp [q])]
theorem z_wrongW {E : z_E} {u : k_S} {k s n : Nat} (hE : z_eW E u) (h0 : 0 < E.1) (hk1 : 1 ≤ k) (hk2 : k ≤ 9) (c1 : u.1 1205 = J k) (hs1 : 1 ≤ s) (hs : s ≤ 40) (es : E.2.2.1 0 = J s) (hn : n ≤ 400) : k_sat (f_Nights_wrongDays (J n) u) (fun r v => r = J (z_co (z_wr E u k s) n) ∧ z_fr [1702, 1206, 704] [18, 19, 9, 13] u v) := by
  obtain ⟨p, s', -, -, -, ep, -⟩ := hE.2.1.2 0 h0
  have ep : u.2.1 15 0 = J p := ep
  have e46 : u.2.1 46 0 = J p := by rw [← ep]; exact ((hE.2.2.2 0 h0).1).symm
  have e5 : u.2.1 5 0 = J s := by rw [hE.1.2.2.2.1]; exact es
  unfold f_Nights_wrongDays
  rw [show (0 : Int32) = J 0 from rfl, z_Now_placeOf (by omega), z_bind_some, z_Wheels_sizeOf (by omega), z_bind_some, ep, e5]
  refine z_bind _ (z_Wt_w hE) (fun _ u1 h1 => z_bind _ (z_for2 1 (n + 1) (J 0) (fun i x v => z_Wt E 1 u (i - 1) v ∧ x = J (z_co (z_wr E u k s) (i - 1))) (K := fun y v => y = J (z_co (z_wr E u k s) n) ∧ z_fr [1702, 1206, 704] [18, 19, 9, 13] u v) (by omega) (by omega) ⟨h1.le (by omega), rfl⟩ (fun i x v hi0 hi hp' => ?_) (fun x v hp' => ?_)) (fun y v hv => k_sat_mk hv))
  · obtain ⟨g1, rfl⟩ := hp'
    unfold f_Nights_wrongDays_B28
    dsimp only
    refine z_neg (by (try simp (disch := omega) only [Int32.lt_iff_toInt_lt, Int32.le_iff_toInt_le, ← Int32.toInt_inj, Int32.toInt_add, Int32.toInt_sub, Int32.toInt_mul, Int32.toInt_neg, z_bm, z_bm2, J_ti, J_toInt, z_cn, Int32.reduceToInt]) <;> omega) (z_bind _ (z_Wt_s (K := 1) hE.1 (by omega) g1) (fun _ v' hv' => ?_))
    rw [show i - 1 + 1 = i by omega] at hv'
    rw [show (0 : Int32) = J 0 from rfl, z_Wt_p hv' (by omega) (by omega), z_bind_some]
    unfold f_Nights_dayOf
    rw [hv'.1.1 1205 rfl, c1, z_Wleft hk1 (by omega), z_bind_some, z_bind_some, z_Wleft hs1 hs, z_bind_some, hv'.1.1 1205 rfl, c1, z_Wleft hk1 (by omega), z_bind_some, z_bind_some]
    have hc := z_co_w E u k s i hi0
    rw [e46] at hc
    refine z_ite (fun q => k_sat_mk (Or.inl ⟨_, rfl, by rw [show i + 1 - 1 = i by omega]; exact hv', ?_⟩)) (fun q => k_sat_mk (Or.inl ⟨_, rfl, by rw [show i + 1 - 1 = i by omega]; exact hv', ?_⟩))
    · rw [hc, if_pos q]
    · rw [hc, if_neg q]
  · obtain ⟨g1, rfl⟩ := hp'
    unfold f_Nights_wrongDays_B28
    exact z_pos (by (try simp (disch := omega) only [Int32.lt_iff_toInt_lt, Int32.le_iff_toInt_le, ← Int32.toInt_inj, Int32.toInt_add, Int32.toInt_sub, Int32.toInt_mul, Int32.toInt_neg, z_bm, z_bm2, J_ti, J_toInt, z_cn, Int32.reduceToInt]) <;> omega) (k_sat_mk ⟨_, rfl, rfl, g1.1⟩)
theorem z_wrongR {E : z_E} {u : k_S} {k s n : Nat} (hE : z_ER E u) (hok : z_ok E (z_moR u)) (h0 : 0 < E.1) (hk1 : 1 ≤ k) (hk2 : k ≤ 9) (c2 : u.1 4210 = J k) (hs1 : 1 ≤ s) (hs : s ≤ 40) (es : E.2.2.1 0 = J s) (hn : n ≤ 400) : k_sat (f_R_wrongIn (J n) u) (fun r v => r = J (z_co (z_wr E u k s) n) ∧ z_fr [4230] [54, 55, 60, 61, 62] u v) := by
  have e45 : u.2.1 45 0 = J s := ((hE.2.2.1 0 h0).1).trans es
  unfold f_R_wrongIn
  refine z_bind _ (z_Rt_0 E u) (fun _ u1 h1 => z_bind _ (z_for2 1 (n + 1) 0 (fun i x v => z_Rt E u (i - 1) v ∧ x = J (z_co (z_wr E u k s) (i - 1))) (K := fun y v => y = J (z_co (z_wr E u k s) n) ∧ z_Rt E u n v) (by omega) (by omega) ⟨h1, rfl⟩ (fun i x v hi0 hi hp' => ?_) (fun x v hp' => ?_)) (fun y v hv => z_bind _ (z_Rt_b hE.1 hv.2) (fun _ v' hv' => k_sat_mk ⟨hv.1, hv'⟩)))
  · obtain ⟨g1, rfl⟩ := hp'
    unfold f_R_wrongIn_B8
    dsimp only
    refine z_neg (by (try simp (disch := omega) only [Int32.lt_iff_toInt_lt, Int32.le_iff_toInt_le, ← Int32.toInt_inj, Int32.toInt_add, Int32.toInt_sub, Int32.toInt_mul, Int32.toInt_neg, z_bm, z_bm2, J_ti, J_toInt, z_cn, Int32.reduceToInt]) <;> omega) (z_bind _ (z_Rt_s hE hok g1) (fun _ v' hv' => ?_))
    rw [show i - 1 + 1 = i by omega] at hv'
    have d10 : v'.1 4210 = J k := (hv'.1.1 4210 rfl).trans c2
    have d45 : v'.2.1 45 0 = J s := (congrFun (hv'.1.2.1 45 rfl) 0).trans e45
    rw [show (0 : Int32).toNatClampNeg = 0 from rfl, d10, d45, (z_Rt_p hv' 0).1, (hv'.2.2.2 0 (by omega)).1]
    refine z_ck (by decide) (by decide) (z_nz (by (try simp (disch := omega) only [Int32.lt_iff_toInt_lt, Int32.le_iff_toInt_le, ← Int32.toInt_inj, Int32.toInt_add, Int32.toInt_sub, Int32.toInt_mul, Int32.toInt_neg, z_bm, z_bm2, J_ti, J_toInt, z_cn, Int32.reduceToInt]) <;> omega) (z_ck (by decide) (by decide) (z_ck (by decide) (by decide) (z_nz (by (try simp (disch := omega) only [Int32.lt_iff_toInt_lt, Int32.le_iff_toInt_le, ← Int32.toInt_inj, Int32.toInt_add, Int32.toInt_sub, Int32.toInt_mul, Int32.toInt_neg, z_bm, z_bm2, J_ti, J_toInt, z_cn, Int32.reduceToInt]) <;> omega) (z_nz (by (try simp (disch := omega) only [Int32.lt_iff_toInt_lt, Int32.le_iff_toInt_le, ← Int32.toInt_inj, Int32.toInt_add, Int32.toInt_sub, Int32.toInt_mul, Int32.toInt_neg, z_bm, z_bm2, J_ti, J_toInt, z_cn, Int32.reduceToInt]) <;> omega) ?_)))))
    have hc := z_co_w E u k s i hi0
    refine z_ite (fun q => k_sat_mk (Or.inl ⟨_, rfl, by rw [show i + 1 - 1 = i by omega]; exact hv', ?_⟩)) (fun q => k_sat_mk (Or.inl ⟨_, rfl, by rw [show i + 1 - 1 = i by omega]; exact hv', ?_⟩))
    · rw [hc, if_pos q]
    · rw [hc, if_neg q]
  · obtain ⟨g1, rfl⟩ := hp'
    unfold f_R_wrongIn_B8
    exact z_pos (by (try simp (disch := omega) only [Int32.lt_iff_toInt_lt, Int32.le_iff_toInt_le, ← Int32.toInt_inj, Int32.toInt_add, Int32.toInt_sub, Int32.toInt_mul, Int32.toInt_neg, z_bm, z_bm2, J_ti, J_toInt, z_cn, Int32.reduceToInt]) <;> omega) (k_sat_mk ⟨_, rfl, rfl, by rw [show n + 1 - 1 = n by omega] at g1; exact g1⟩)
/-! near: the folds over teeth and letters -/
theorem z_setL0 {p : Nat} {x : Int32} {u : k_S} (h : p < 40) : f_Wheels_setLetter 0 (J p) x u = some ((), k_wA u 4 p x) := by
  have := z_setLetter (w := 0) (x := x) (u := u) (by omega) h
  rw [show 40 * 0 + p = p by omega] at this
  exact this
theorem z_letA0 {p : Nat} {u : k_S} (h : p < 40) : f_Wheels_letterAt 0 (J p) u = some (u.2.1 4 p, u) := by
  have := z_letterAt (w := 0) (u := u) (by omega) h
  rw [show 40 * 0 + p = p by omega] at this
  exact this
/-- another letter at a place of wheel 0 -/
def z_Ex (E : z_E) (p : Nat) (x : Int32) : z_E := (E.1, upd E.2.1 p x, E.2.2)
theorem z_EW_x {E : z_E} {u v : k_S} {p : Nat} {x : Int32} (h : z_EW E u) (h303 : v.1 303 = u.1 303) (h703 : v.1 703 = u.1 703) (h705 : v.1 705 = u.1 705) (h4 : v.2.1 4 = upd (u.2.1 4) p x) (h5 : v.2.1 5 = u.2.1 5) (h6 : v.2.1 6 = u.2.1 6) (h8 : v.2.1 8 = u.2.1 8) : z_EW (z_Ex E p x) v :=
  ⟨h.1, h303.trans h.2.1, by rw [h4, h.2.2.1]; rfl, by rw [h5, h.2.2.2.1]; rfl, by rw [h6, h.2.2.2.2.1]; rfl, fun w w1 w2 w3 => h.2.2.2.2.2 w (w1.trans h703) (w2.trans h8) (w3.trans h705)⟩
theorem z_ER_x {E : z_E} {u v : k_S} {p s : Nat} {x : Int32} (h : z_ER E u) (es : E.2.2.1 0 = J s) (hs : s ≤ 40) (hp : p < s) (F : List Nat) (hf : z_fr F [54, 55, 60, 61, 62, 44] u v) (hd : F.elem 4203 = false ∧ F.elem 4223 = false ∧ F.elem 4211 = false) (h44 : v.2.1 44 = upd (u.2.1 44) p x) : z_ER (z_Ex E p x) v := by
  refine ⟨h.1, (hf.1 4203 hd.1).trans h.2.1, fun w hw => ?_, fun w w1 w2 w3 w4 w5 w6 w7 => h.2.2.2 w (w1.trans (hf.1 4223 hd.2.1)) (w2.trans (hf.1 4211 hd.2.2)) (w3.trans (hf.2.1 49 rfl)) (w4.trans (hf.2.1 50 rfl)) (w5.trans (hf.2.1 51 rfl)) (w6.trans (hf.2.1 52 rfl)) (w7.trans (hf.2.1 53 rfl))⟩
  obtain ⟨b1, b2, b3⟩ := h.2.2.1 w hw
  refine ⟨by rw [hf.2.1 45 rfl]; exact b1, by rw [hf.2.1 48 rfl]; exact b2, fun q s' e1 e2 e3 => ?_⟩
  rw [h44]
  show upd _ _ _ _ = upd _ _ _ _
  rw [z_up, z_up, b3 q s' e1 e2 e3]
theorem z_ok_x {E : z_E} {p : Nat} {x : Int32} {m : z_Mo} (h : z_ok E m) : z_ok (z_Ex E p x) m := h
def z_wc (E : z_E) (u : k_S) (k s n p : Nat) (x : Int32) : Nat := z_co (z_wr (z_Ex E p x) u k s) n
/-- one letter tried, by the class, by the reference -/
def z_sW (E : z_E) (u : k_S) (k s n p j : Nat) (x : Int32 × Int32) : Int32 × Int32 := if k_t100 j = E.2.1 p then x else if x.2 ≤ J (z_wc E u k s n p (k_t100 j)) then x else (1000 * J p + k_t100 j, J (z_wc E u k s n p (k_t100 j)))
def z_sR (E : z_E) (u : k_S) (k s n p j : Nat) (x : Int32 × Int32) : Int32 × Int32 := if k_t100 j = E.2.1 p then x else if x.1 < 0 then (1000 * J p + k_t100 j, J (z_wc E u k s n p (k_t100 j))) else if J (z_wc E u k s n p (k_t100 j)) < x.2 then (1000 * J p + k_t100 j, J (z_wc E u k s n p (k_t100 j))) else x
def z_f3 (st : Nat → Int32 × Int32 → Int32 × Int32) : Nat → Int32 × Int32 → Int32 × Int32
  | 0, x => x
  | j + 1, x => st j (z_f3 st j x)
def z_fo (st : Nat → Nat → Int32 × Int32 → Int32 × Int32) : Nat → Int32 × Int32 → Int32 × Int32
  | 0, x => x
  | p + 1, x => z_f3 (st p) 3 (z_fo st p x)
/-- both have found none yet, or the same -/
def z_rp (n : Nat) (x y : Int32 × Int32) : Prop := (x = (-2, J n + 1) ∧ y.1 < 0) ∨ (x = y ∧ ¬ y.1 < 0 ∧ ∃ m, m ≤ n ∧ x.2 = J m)
theorem k_t100_c (j : Nat) (hj : j < 3) : (j = 0 ∧ k_t100 j = 119) ∨ (j = 1 ∧ k_t100 j = 115) ∨ (j = 2 ∧ k_t100 j = 49) := by
  rcases (show j = 0 ∨ j = 1 ∨ j = 2 by omega) with rfl | rfl | rfl
  · exact Or.inl ⟨rfl, rfl⟩
  · exact Or.inr (Or.inl ⟨rfl, rfl⟩)
  · exact Or.inr (Or.inr ⟨rfl, rfl⟩)
theorem z_cand (p j : Nat) (hp : p < 40) (hj : j < 3) : ¬ (1000 : Int32) * J p + k_t100 j < 0 := by
  rw [show (1000 : Int32) = J 1000 from rfl, J_mul]
  rcases k_t100_c j hj with ⟨-, e⟩ | ⟨-, e⟩ | ⟨-, e⟩ <;> rw [e]
  · rw [show (119 : Int32) = J 119 from rfl, J_add]; (try simp (disch := omega) only [Int32.lt_iff_toInt_lt, Int32.le_iff_toInt_le, ← Int32.toInt_inj, Int32.toInt_add, Int32.toInt_sub, Int32.toInt_mul, Int32.toInt_neg, z_bm, z_bm2, J_ti, J_toInt, z_cn, Int32.reduceToInt]) <;> omega
  · rw [show (115 : Int32) = J 115 from rfl, J_add]; (try simp (disch := omega) only [Int32.lt_iff_toInt_lt, Int32.le_iff_toInt_le, ← Int32.toInt_inj, Int32.toInt_add, Int32.toInt_sub, Int32.toInt_mul, Int32.toInt_neg, z_bm, z_bm2, J_ti, J_toInt, z_cn, Int32.reduceToInt]) <;> omega
  · rw [show (49 : Int32) = J 49 from rfl, J_add]; (try simp (disch := omega) only [Int32.lt_iff_toInt_lt, Int32.le_iff_toInt_le, ← Int32.toInt_inj, Int32.toInt_add, Int32.toInt_sub, Int32.toInt_mul, Int32.toInt_neg, z_bm, z_bm2, J_ti, J_toInt, z_cn, Int32.reduceToInt]) <;> omega
theorem z_rp_s {E : z_E} {u : k_S} {k s n p j : Nat} {x y : Int32 × Int32} (hn : n ≤ 400) (hp : p < 40) (hj : j < 3) (h : z_rp n x y) : z_rp n (z_sW E u k s n p j x) (z_sR E u k s n p j y) ∧ (¬ k_t100 j = E.2.1 p → ¬ (z_sR E u k s n p j y).1 < 0) ∧ (¬ y.1 < 0 → ¬ (z_sR E u k s n p j y).1 < 0) := by
  have hc := z_cand p j hp hj
  have hw : z_wc E u k s n p (k_t100 j) ≤ n := z_co_le _ n
  unfold z_sW z_sR
  by_cases e : k_t100 j = E.2.1 p
  · rw [if_pos e, if_pos e]; exact ⟨h, fun q => absurd e q, fun q => q⟩
  · rw [if_neg e, if_neg e]
    rcases h with ⟨h1, h2⟩ | ⟨rfl, h2, m, h3, h4⟩
    · rw [if_pos h2, h1]
      have : ¬ (J n + 1) ≤ J (z_wc E u k s n p (k_t100 j)) := by rw [z_Jp]; (try simp (disch := omega) only [Int32.lt_iff_toInt_lt, Int32.le_iff_toInt_le, ← Int32.toInt_inj, Int32.toInt_add, Int32.toInt_sub, Int32.toInt_mul, Int32.toInt_neg, z_bm, z_bm2, J_ti, J_toInt, z_cn, Int32.reduceToInt]) <;> omega
      rw [if_neg (show ¬ ((-2, J n + 1) : Int32 × Int32).2 ≤ J (z_wc E u k s n p (k_t100 j)) from this)]
      exact ⟨Or.inr ⟨rfl, hc, _, hw, rfl⟩, fun _ => hc, fun _ => hc⟩
    · rw [if_neg h2]
      by_cases q : x.2 ≤ J (z_wc E u k s n p (k_t100 j))
      · rw [if_pos q, if_neg (by ((try simp (disch := omega) only [Int32.lt_iff_toInt_lt, Int32.le_iff_toInt_le, ← Int32.toInt_inj, Int32.toInt_add, Int32.toInt_sub, Int32.toInt_mul, Int32.toInt_neg, z_bm, z_bm2, J_ti, J_toInt, z_cn, Int32.reduceToInt] at *); omega))]
        exact ⟨Or.inr ⟨rfl, h2, m, h3, h4⟩, fun _ => h2, fun _ => h2⟩
      · rw [if_neg q, if_pos (by ((try simp (disch := omega) only [Int32.lt_iff_toInt_lt, Int32.le_iff_toInt_le, ← Int32.toInt_inj, Int32.toInt_add, Int32.toInt_sub, Int32.toInt_mul, Int32.toInt_neg, z_bm, z_bm2, J_ti, J_toInt, z_cn, Int32.reduceToInt] at *); omega))]
        exact ⟨Or.inr ⟨rfl, hc, _, hw, rfl⟩, fun _ => hc, fun _ => hc⟩
theorem z_rp_3 {E : z_E} {u : k_S} {k s n p : Nat} {x y : Int32 × Int32} (hn : n ≤ 400) (hp : p < 40) (h : z_rp n x y) : z_rp n (z_f3 (z_sW E u k s n p) 3 x) (z_f3 (z_sR E u k s n p) 3 y) ∧ ¬ (z_f3 (z_sR E u k s n p) 3 y).1 < 0 := by
  obtain ⟨a1, a2, a3⟩ := z_rp_s (E := E) (u := u) (k := k) (s := s) (j := 0) hn hp (by omega) h
  obtain ⟨b1, b2, b3⟩ := z_rp_s (E := E) (u := u) (k := k) (s := s) (j := 1) hn hp (by omega) a1
  obtain ⟨c1, c2, c3⟩ := z_rp_s (E := E) (u := u) (k := k) (s := s) (j := 2) hn hp (by omega) b1
  refine ⟨c1, c3 ?_⟩
  by_cases e : k_t100 0 = E.2.1 p
  · exact b2 (by rw [← e]; decide)
  · exact b3 (a2 e)
theorem z_rp_o {E : z_E} {u : k_S} {k s n : Nat} (hn : n ≤ 400) (hs : s ≤ 40) : ∀ p, p ≤ s → z_rp n (z_fo (z_sW E u k s n) p (-2, J n + 1)) (z_fo (z_sR E u k s n) p (-1, 0)) ∧ (0 < p → ¬ (z_fo (z_sR E u k s n) p (-1, 0)).1 < 0)
  | 0, _ => ⟨Or.inl ⟨rfl, show (-1 : Int32) < 0 by decide⟩, fun h => by omega⟩
  | p + 1, h => by
    obtain ⟨a, -⟩ := z_rp_o (E := E) (u := u) (k := k) hn hs p (by omega)
    obtain ⟨b, c⟩ := z_rp_3 (E := E) (u := u) (k := k) (s := s) (p := p) hn (by omega) a
    exact ⟨b, fun _ => c⟩
theorem z_nearW {E : z_E} {u : k_S} {k s n : Nat} (hE : z_eW E u) (h0 : 0 < E.1) (hk1 : 1 ≤ k) (hk2 : k ≤ 9) (c1 : u.1 1205 = J k) (hs1 : 1 ≤ s) (hs : s ≤ 40) (es : E.2.2.1 0 = J s) (hn : n ≤ 400) (fl : Int32) : k_sat (f_Nights_nearest (J n) fl u) (fun r v => z_fr [1702, 1206, 704] [18, 19, 9, 13] u v ∧ r = if fl = 0 then (z_fo (z_sW E u k s n) s (-2, J n + 1)).2 else (z_fo (z_sW E u k s n) s (-2, J n + 1)).1) := by
  have e5 : u.2.1 5 0 = J s := by rw [hE.1.2.2.2.1]; exact es
  have eL : u.2.1 4 = E.2.1 := hE.1.2.2.1
  unfold f_Nights_nearest
  refine z_let (z_bind _ (z_for3 0 s (-2) (J n + 1) (fun p x y v => (x, y) = z_fo (z_sW E u k s n) p (-2, J n + 1) ∧ z_fr [1702, 1206, 704] [18, 19, 9, 13] u v) (K := fun y v => y = z_fo (z_sW E u k s n) s (-2, J n + 1) ∧ z_fr [1702, 1206, 704] [18, 19, 9, 13] u v) (by omega) (Nat.zero_le s) ⟨rfl, z_fr.rf⟩ (fun p x y v _ hp hv => ?_) (fun x y v hv => ?_)) (fun y v hv => ?_))
  · obtain ⟨g1, g2⟩ := hv
    unfold f_Nights_nearest_B11
    dsimp only
    have e5v : v.2.1 5 0 = J s := (congrFun (g2.2.1 5 rfl) 0).trans e5
    rw [show (0 : Int32) = J 0 from rfl, z_Wheels_sizeOf (by omega), z_bind_some, e5v]
    refine z_neg (by (try simp (disch := omega) only [Int32.lt_iff_toInt_lt, Int32.le_iff_toInt_le, ← Int32.toInt_inj, Int32.toInt_add, Int32.toInt_sub, Int32.toInt_mul, Int32.toInt_neg, z_bm, z_bm2, J_ti, J_toInt, z_cn, Int32.reduceToInt]) <;> omega) (z_neg (by (try simp (disch := omega) only [Int32.lt_iff_toInt_lt, Int32.le_iff_toInt_le, ← Int32.toInt_inj, Int32.toInt_add, Int32.toInt_sub, Int32.toInt_mul, Int32.toInt_neg, z_bm, z_bm2, J_ti, J_toInt, z_cn, Int32.reduceToInt]) <;> omega) ?_)
    rw [show J 0 = (0 : Int32) from rfl, z_letA0 (by omega), z_bind_some]
    have el : v.2.1 4 p = E.2.1 p := by rw [g2.2.1 4 rfl, eL]
    refine z_bind _ (z_for3 0 3 x y (fun j x' y' w => (x', y') = z_f3 (z_sW E u k s n p) j (x, y) ∧ z_fr [1702, 1206, 704] [18, 19, 9, 13, 4] u w ∧ ∃ l, w.2.1 4 = upd (u.2.1 4) p l) (K := fun y' w => y' = z_f3 (z_sW E u k s n p) 3 (x, y) ∧ z_fr [1702, 1206, 704] [18, 19, 9, 13, 4] u w ∧ ∃ l, w.2.1 4 = upd (u.2.1 4) p l) (by omega) (by omega) ⟨rfl, g2.mono rfl rfl, u.2.1 4 p, by rw [z_up_self]; exact g2.2.1 4 rfl⟩ (fun j x' y' w _ hj hw => ?_) (fun x' y' w hw => ?_)) (fun y' w hw => ?_)
    · obtain ⟨k1, k2, l, k3⟩ := hw
      unfold f_Nights_nearest_B56
      dsimp only
      refine z_neg (by (try simp (disch := omega) only [Int32.lt_iff_toInt_lt, Int32.le_iff_toInt_le, ← Int32.toInt_inj, Int32.toInt_add, Int32.toInt_sub, Int32.toInt_mul, Int32.toInt_neg, z_bm, z_bm2, J_ti, J_toInt, z_cn, Int32.reduceToInt]) <;> omega) (z_ck (by (try simp (disch := omega) only [Int32.lt_iff_toInt_lt, Int32.le_iff_toInt_le, ← Int32.toInt_inj, Int32.toInt_add, Int32.toInt_sub, Int32.toInt_mul, Int32.toInt_neg, z_bm, z_bm2, J_ti, J_toInt, z_cn, Int32.reduceToInt]) <;> omega) (by (try simp (disch := omega) only [Int32.lt_iff_toInt_lt, Int32.le_iff_toInt_le, ← Int32.toInt_inj, Int32.toInt_add, Int32.toInt_sub, Int32.toInt_mul, Int32.toInt_neg, z_bm, z_bm2, J_ti, J_toInt, z_cn, Int32.reduceToInt]) <;> omega) (z_let ?_))
      rw [J_toNat (show j < 2147483648 by omega), el]
      have hst : z_f3 (z_sW E u k s n p) (j + 1) (x, y) = z_sW E u k s n p j (x', y') := by rw [k1]; rfl
      refine z_ite (fun q => k_sat_mk (Or.inl ⟨_, _, rfl, ?_, k2, l, k3⟩)) (fun q => ?_)
      · rw [hst]; unfold z_sW; rw [if_pos q]
      · rw [z_setL0 (by omega), z_bind_some]
        have h4 : (k_wA w 4 p (k_t100 j)).2.1 4 = upd (u.2.1 4) p (k_t100 j) := by
          simp only [k_wA, if_true]
          rw [k3]
          funext i
          rw [z_up, z_up, z_up]
          by_cases e : i = p
          · rw [if_pos e, if_pos e]
          · rw [if_neg e, if_neg e, if_neg e]
        have k4 : z_fr [1702, 1206, 704] [18, 19, 9, 13, 4] u (k_wA w 4 p (k_t100 j)) := k2.tr (z_wA rfl)
        have mN : z_moNow (k_wA w 4 p (k_t100 j)) = z_moNow u := by unfold z_moNow; rw [k4.1 1402 rfl, k4.2.1 15 rfl, k4.2.1 16 rfl]
        have mR : z_moR (k_wA w 4 p (k_t100 j)) = z_moR u := by unfold z_moR; rw [k4.1 4209 rfl, k4.2.1 46 rfl, k4.2.1 47 rfl]
        have hE' : z_eW (z_Ex E p (k_t100 j)) (k_wA w 4 p (k_t100 j)) := ⟨z_EW_x hE.1 (k4.1 303 rfl) (k4.1 703 rfl) (k4.1 705 rfl) h4 (k4.2.1 5 rfl) (k4.2.1 6 rfl) (k4.2.1 8 rfl), by rw [mN]; exact z_ok_x hE.2.1, by rw [mN, mR]; exact hE.2.2⟩
        refine z_bind _ (z_wrongW hE' h0 hk1 hk2 ((k4.1 1205 rfl).trans c1) hs1 hs es hn) (fun r w2 hw2 => ?_)
        have hr : r = J (z_wc E u k s n p (k_t100 j)) := by
          rw [hw2.1]
          unfold z_wc
          have : z_wr (z_Ex E p (k_t100 j)) (k_wA w 4 p (k_t100 j)) k s = z_wr (z_Ex E p (k_t100 j)) u k s := by
            funext i
            unfold z_wr
            rw [z_pl_m mR, k4.2.1 46 rfl]
          rw [this]
        have k5 : z_fr [1702, 1206, 704] [18, 19, 9, 13, 4] u w2 := k4.tr (hw2.2.mono rfl rfl)
        have k6 : w2.2.1 4 = upd (u.2.1 4) p (k_t100 j) := (hw2.2.2.1 4 rfl).trans h4
        rw [hr]
        refine z_ite (fun q2 => k_sat_mk (Or.inl ⟨_, _, rfl, ?_, k5, _, k6⟩)) (fun q2 => z_let (k_sat_mk (Or.inl ⟨_, _, rfl, ?_, k5, _, k6⟩)))
        · rw [hst]; unfold z_sW; rw [if_neg q, if_pos q2]
        · rw [hst]; unfold z_sW; rw [if_neg q, if_neg q2]
    · unfold f_Nights_nearest_B56
      exact z_pos (Int32.le_refl _) (k_sat_mk ⟨_, rfl, hw⟩)
    · obtain ⟨k1, k2, l, k3⟩ := hw
      rw [z_setL0 (by omega), z_bind_some]
      have h4 : (k_wA w 4 p (v.2.1 4 p)).2.1 4 = u.2.1 4 := by
        simp only [k_wA, if_true]
        rw [k3, g2.2.1 4 rfl]
        funext i
        rw [z_up, z_up]
        by_cases e : i = p
        · rw [if_pos e, e]
        · rw [if_neg e, if_neg e]
      refine k_sat_mk (Or.inl ⟨_, _, rfl, ?_, ?_⟩)
      · rw [k1, g1]; rfl
      · have k4 : z_fr [1702, 1206, 704] [18, 19, 9, 13, 4] u (k_wA w 4 p (v.2.1 4 p)) := k2.tr (z_wA rfl)
        refine ⟨k4.1, fun c hc => ?_, fun c hc => k4.2.2 c ?_⟩
        · by_cases e : c = 4
          · rw [e]; exact h4
          · refine k4.2.1 c ?_
            cases hx : ([18, 19, 9, 13, 4] : List Nat).elem c with
            | false => rfl
            | true =>
              exfalso
              have hm := List.elem_iff.mp hx
              simp only [List.mem_cons, List.not_mem_nil, or_false] at hm
              rcases hm with rfl | rfl | rfl | rfl | rfl
              · cases hc
              · cases hc
              · cases hc
              · cases hc
              · exact e rfl
        · unfold z_el at *
          by_cases e : c = 4
          · rw [e]; rfl
          · cases hx : (c == 41 || c == 74 || c == 75) with
            | false => rw [Bool.and_false]
            | true =>
              rw [hx, Bool.and_true] at hc
              rw [Bool.and_true]
              cases hy : ([18, 19, 9, 13, 4] : List Nat).elem c with
              | false => rfl
              | true =>
                exfalso
                have hm := List.elem_iff.mp hy
                simp only [List.mem_cons, List.not_mem_nil, or_false] at hm
                rcases hm with rfl | rfl | rfl | rfl | rfl
                · cases hc
                · cases hc
                · cases hc
                · cases hc
                · exact e rfl
  · obtain ⟨g1, g2⟩ := hv
    unfold f_Nights_nearest_B11
    dsimp only
    have e5v : v.2.1 5 0 = J s := (congrFun (g2.2.1 5 rfl) 0).trans e5
    rw [show (0 : Int32) = J 0 from rfl, z_Wheels_sizeOf (by omega), z_bind_some, e5v]
    exact z_pos (Int32.le_refl _) (k_sat_mk ⟨_, rfl, g1, g2⟩)
  · obtain ⟨rfl, g2⟩ := hv
    unfold f_Nights_nearest_J144
    refine z_ite (fun q => k_sat_mk ⟨g2, by rw [if_pos q]⟩) (fun q => k_sat_mk ⟨g2, by rw [if_neg q]⟩)
theorem z_fr_less {F A : List Nat} {c : Nat} {u v : k_S} (h : z_fr F (c :: A) u v) (h1 : v.2.1 c = u.2.1 c) (hc : (c == 41 || c == 74 || c == 75) = false) : z_fr F A u v := by
  refine ⟨h.1, fun i hi => ?_, fun i hi => ?_⟩
  · by_cases e : i = c
    · rw [e]; exact h1
    · exact h.2.1 i (by rw [z_ec e]; exact hi)
  · refine h.2.2 i ?_
    unfold z_el at *
    by_cases e : i = c
    · rw [e, hc, Bool.and_false]
    · rw [z_ec e]; exact hi
theorem z_nearR {E : z_E} {u : k_S} {k s n : Nat} (hE : z_ER E u) (hok : z_ok E (z_moR u)) (h0 : 0 < E.1) (hk1 : 1 ≤ k) (hk2 : k ≤ 9) (c2 : u.1 4210 = J k) (hs1 : 1 ≤ s) (hs : s ≤ 40) (es : E.2.2.1 0 = J s) (hn : n ≤ 400) (hK : zK u) (fl : Int32) : k_sat (k_itr (fun (x : (Int32 × Int32 × Int32)) u => f_R_near_B51 (J n) fl x.1 x.2.1 x.2.2 u) k_FU ((-1), 0, 0) u) (fun y v => z_fr [4230] [54, 55, 60, 61, 62] u v ∧ y = z_fo (z_sR E u k s n) s (-1, 0)) := by
  have e45 : u.2.1 45 0 = J s := ((hE.2.2.1 0 h0).1).trans es
  have e44 : ∀ p, p < s → u.2.1 44 p = E.2.1 p := fun p hp => by
    have := (hE.2.2.1 0 h0).2.2 p s es hp hs
    rw [show 40 * 0 + p = p by omega] at this
    exact this
  have eK : ∀ j, j < 3 → u.2.1 63 j = k_t100 j := fun j hj => by
    rcases k_t100_c j hj with ⟨rfl, e⟩ | ⟨rfl, e⟩ | ⟨rfl, e⟩ <;> rw [e]
    · exact hK.1.1
    · exact hK.1.2.1
    · exact hK.1.2.2
  refine z_for3 0 s (-1) 0 (fun p x y v => (x, y) = z_fo (z_sR E u k s n) p (-1, 0) ∧ z_fr [4230] [54, 55, 60, 61, 62] u v) (K := fun y v => z_fr [4230] [54, 55, 60, 61, 62] u v ∧ y = z_fo (z_sR E u k s n) s (-1, 0)) (by omega) (Nat.zero_le s) ⟨rfl, z_fr.rf⟩ (fun p x y v _ hp hv => ?_) (fun x y v hv => ?_)
  · obtain ⟨g1, g2⟩ := hv
    unfold f_R_near_B51
    dsimp only
    rw [show (0 : Int32).toNatClampNeg = 0 from rfl, congrFun (g2.2.1 45 rfl) 0, e45]
    refine z_ck (by decide) (by decide) (z_neg (by (try simp (disch := omega) only [Int32.lt_iff_toInt_lt, Int32.le_iff_toInt_le, ← Int32.toInt_inj, Int32.toInt_add, Int32.toInt_sub, Int32.toInt_mul, Int32.toInt_neg, z_bm, z_bm2, J_ti, J_toInt, z_cn, Int32.reduceToInt]) <;> omega) (z_ck (by (try simp (disch := omega) only [Int32.lt_iff_toInt_lt, Int32.le_iff_toInt_le, ← Int32.toInt_inj, Int32.toInt_add, Int32.toInt_sub, Int32.toInt_mul, Int32.toInt_neg, z_bm, z_bm2, J_ti, J_toInt, z_cn, Int32.reduceToInt]) <;> omega) (by (try simp (disch := omega) only [Int32.lt_iff_toInt_lt, Int32.le_iff_toInt_le, ← Int32.toInt_inj, Int32.toInt_add, Int32.toInt_sub, Int32.toInt_mul, Int32.toInt_neg, z_bm, z_bm2, J_ti, J_toInt, z_cn, Int32.reduceToInt]) <;> omega) (z_let ?_)))
    rw [J_toNat (show p < 2147483648 by omega), g2.2.1 44 rfl, e44 p hp]
    refine z_bind _ (z_for3 0 3 x y (fun j x' y' w => (x', y') = z_f3 (z_sR E u k s n p) j (x, y) ∧ z_fr [4230] [44, 54, 55, 60, 61, 62] u w ∧ ∃ l, w.2.1 44 = upd (u.2.1 44) p l) (K := fun y' w => y' = z_f3 (z_sR E u k s n p) 3 (x, y) ∧ z_fr [4230] [44, 54, 55, 60, 61, 62] u w ∧ ∃ l, w.2.1 44 = upd (u.2.1 44) p l) (by omega) (by omega) ⟨rfl, g2.mono rfl rfl, u.2.1 44 p, by rw [z_up_self]; exact g2.2.1 44 rfl⟩ (fun j x' y' w _ hj hw => ?_) (fun x' y' w hw => ?_)) (fun y' w hw => ?_)
    · obtain ⟨k1, k2, l, k3⟩ := hw
      unfold f_R_near_B74
      dsimp only
      have e63 : w.2.1 63 j = k_t100 j := (congrFun (k2.2.1 63 rfl) j).trans (eK j hj)
      rw [J_toNat (show j < 2147483648 by omega), e63, J_toNat (show p < 2147483648 by omega)]
      have hst : z_f3 (z_sR E u k s n p) (j + 1) (x, y) = z_sR E u k s n p j (x', y') := by rw [k1]; rfl
      refine z_neg (by (try simp (disch := omega) only [Int32.lt_iff_toInt_lt, Int32.le_iff_toInt_le, ← Int32.toInt_inj, Int32.toInt_add, Int32.toInt_sub, Int32.toInt_mul, Int32.toInt_neg, z_bm, z_bm2, J_ti, J_toInt, z_cn, Int32.reduceToInt]) <;> omega) (z_ck (by (try simp (disch := omega) only [Int32.lt_iff_toInt_lt, Int32.le_iff_toInt_le, ← Int32.toInt_inj, Int32.toInt_add, Int32.toInt_sub, Int32.toInt_mul, Int32.toInt_neg, z_bm, z_bm2, J_ti, J_toInt, z_cn, Int32.reduceToInt]) <;> omega) (by (try simp (disch := omega) only [Int32.lt_iff_toInt_lt, Int32.le_iff_toInt_le, ← Int32.toInt_inj, Int32.toInt_add, Int32.toInt_sub, Int32.toInt_mul, Int32.toInt_neg, z_bm, z_bm2, J_ti, J_toInt, z_cn, Int32.reduceToInt]) <;> omega) (z_ite (fun q => k_sat_mk (Or.inl ⟨_, _, rfl, ?_, k2, l, k3⟩)) (fun q => z_ck (by (try simp (disch := omega) only [Int32.lt_iff_toInt_lt, Int32.le_iff_toInt_le, ← Int32.toInt_inj, Int32.toInt_add, Int32.toInt_sub, Int32.toInt_mul, Int32.toInt_neg, z_bm, z_bm2, J_ti, J_toInt, z_cn, Int32.reduceToInt]) <;> omega) (by (try simp (disch := omega) only [Int32.lt_iff_toInt_lt, Int32.le_iff_toInt_le, ← Int32.toInt_inj, Int32.toInt_add, Int32.toInt_sub, Int32.toInt_mul, Int32.toInt_neg, z_bm, z_bm2, J_ti, J_toInt, z_cn, Int32.reduceToInt]) <;> omega) (z_ck (by (try simp (disch := omega) only [Int32.lt_iff_toInt_lt, Int32.le_iff_toInt_le, ← Int32.toInt_inj, Int32.toInt_add, Int32.toInt_sub, Int32.toInt_mul, Int32.toInt_neg, z_bm, z_bm2, J_ti, J_toInt, z_cn, Int32.reduceToInt]) <;> omega) (by (try simp (disch := omega) only [Int32.lt_iff_toInt_lt, Int32.le_iff_toInt_le, ← Int32.toInt_inj, Int32.toInt_add, Int32.toInt_sub, Int32.toInt_mul, Int32.toInt_neg, z_bm, z_bm2, J_ti, J_toInt, z_cn, Int32.reduceToInt]) <;> omega) (z_let ?_)))))
      · rw [hst]; unfold z_sR; rw [if_pos q]
      · have h44 : (k_wA w 44 p (k_t100 j)).2.1 44 = upd (u.2.1 44) p (k_t100 j) := by
          simp only [k_wA, if_true]
          rw [k3]
          funext i
          rw [z_up, z_up, z_up]
          by_cases e : i = p
          · rw [if_pos e, if_pos e]
          · rw [if_neg e, if_neg e, if_neg e]
        have k4 : z_fr [4230] [44, 54, 55, 60, 61, 62] u (k_wA w 44 p (k_t100 j)) := k2.tr (z_wA rfl)
        have mR : z_moR (k_wA w 44 p (k_t100 j)) = z_moR u := by unfold z_moR; rw [k4.1 4209 rfl, k4.2.1 46 rfl, k4.2.1 47 rfl]
        have hE' : z_ER (z_Ex E p (k_t100 j)) (k_wA w 44 p (k_t100 j)) := z_ER_x hE es hs hp [4230] (k4.mono rfl rfl) (by decide) h44
        refine z_bind _ (z_wrongR hE' (by rw [mR]; exact z_ok_x hok) h0 hk1 hk2 ((k4.1 4210 rfl).trans c2) hs1 hs es hn) (fun r w2 hw2 => ?_)
        have hr : r = J (z_wc E u k s n p (k_t100 j)) := by
          rw [hw2.1]
          unfold z_wc
          have : z_wr (z_Ex E p (k_t100 j)) (k_wA w 44 p (k_t100 j)) k s = z_wr (z_Ex E p (k_t100 j)) u k s := by
            funext i
            unfold z_wr
            rw [z_pl_m mR, k4.2.1 46 rfl]
          rw [this]
        have k5 : z_fr [4230] [44, 54, 55, 60, 61, 62] u w2 := k4.tr (hw2.2.mono rfl rfl)
        have k6 : w2.2.1 44 = upd (u.2.1 44) p (k_t100 j) := (hw2.2.2.1 44 rfl).trans h44
        have e63b : w2.2.1 63 j = k_t100 j := (congrFun (k5.2.1 63 rfl) j).trans (eK j hj)
        rw [hr]
        have take : z_sR E u k s n p j (x', y') = (1000 * J p + k_t100 j, J (z_wc E u k s n p (k_t100 j))) → k_sat (f_R_near_J130 (J n) fl (J p) (E.2.1 p) (J j) (J (z_wc E u k s n p (k_t100 j))) w2) (fun z u' => (∃ x'' y'', z = .inl (x'', y'', J j + Int32.ofInt 1) ∧ (x'', y'') = z_f3 (z_sR E u k s n p) (j + 1) (x, y) ∧ z_fr [4230] [44, 54, 55, 60, 61, 62] u u' ∧ ∃ l, u'.2.1 44 = upd (u.2.1 44) p l) ∨ ∃ r, z = .inr r ∧ r = z_f3 (z_sR E u k s n p) 3 (x, y) ∧ z_fr [4230] [44, 54, 55, 60, 61, 62] u u' ∧ ∃ l, u'.2.1 44 = upd (u.2.1 44) p l) := by
          intro ht
          unfold f_R_near_J130
          refine z_ck (by (try simp (disch := omega) only [Int32.lt_iff_toInt_lt, Int32.le_iff_toInt_le, ← Int32.toInt_inj, Int32.toInt_add, Int32.toInt_sub, Int32.toInt_mul, Int32.toInt_neg, z_bm, z_bm2, J_ti, J_toInt, z_cn, Int32.reduceToInt]) <;> omega) (by (try simp (disch := omega) only [Int32.lt_iff_toInt_lt, Int32.le_iff_toInt_le, ← Int32.toInt_inj, Int32.toInt_add, Int32.toInt_sub, Int32.toInt_mul, Int32.toInt_neg, z_bm, z_bm2, J_ti, J_toInt, z_cn, Int32.reduceToInt]) <;> omega) (z_let (k_sat_mk (Or.inl ⟨_, _, rfl, ?_, k5, _, k6⟩)))
          rw [hst, ht, J_toNat (show j < 2147483648 by omega), e63b]
        refine z_ite (fun q2 => take ?_) (fun q2 => z_ite (fun q3 => take ?_) (fun q3 => k_sat_mk (Or.inl ⟨_, _, rfl, ?_, k5, _, k6⟩)))
        · unfold z_sR; rw [if_neg q, if_pos q2]
        · unfold z_sR; rw [if_neg q, if_neg q2, if_pos q3]
        · rw [hst]; unfold z_sR; rw [if_neg q, if_neg q2, if_neg q3]
    · unfold f_R_near_B74
      exact z_pos (Int32.le_refl _) (k_sat_mk ⟨_, rfl, hw⟩)
    · obtain ⟨k1, k2, l, k3⟩ := hw
      refine z_ck (by (try simp (disch := omega) only [Int32.lt_iff_toInt_lt, Int32.le_iff_toInt_le, ← Int32.toInt_inj, Int32.toInt_add, Int32.toInt_sub, Int32.toInt_mul, Int32.toInt_neg, z_bm, z_bm2, J_ti, J_toInt, z_cn, Int32.reduceToInt]) <;> omega) (by (try simp (disch := omega) only [Int32.lt_iff_toInt_lt, Int32.le_iff_toInt_le, ← Int32.toInt_inj, Int32.toInt_add, Int32.toInt_sub, Int32.toInt_mul, Int32.toInt_neg, z_bm, z_bm2, J_ti, J_toInt, z_cn, Int32.reduceToInt]) <;> omega) (z_let (k_sat_mk (Or.inl ⟨_, _, rfl, ?_, ?_⟩)))
      · rw [k1, g1]; rfl
      · refine z_fr_less (c := 44) (k2.tr (z_wA rfl)) ?_ rfl
        simp only [k_wA, if_true]
        rw [k3]
        funext i
        rw [z_up, z_up]
        by_cases e : i = p
        · rw [if_pos e, e, e44 p hp]
        · rw [if_neg e, if_neg e]
  · obtain ⟨g1, g2⟩ := hv
    unfold f_R_near_B51
    dsimp only
    rw [show (0 : Int32).toNatClampNeg = 0 from rfl, congrFun (g2.2.1 45 rfl) 0, e45]
    exact z_ck (by decide) (by decide) (z_pos (Int32.le_refl _) (k_sat_mk ⟨_, rfl, g2, g1⟩))
theorem z_near (a b : Int32) (u : k_S) (h : zI u) : z_pair (f_W_near a b) (f_R_near a b) u zI := by
  obtain ⟨E, hE, -, eS, -⟩ := z_env h
  obtain ⟨⟨k, hk1, hk2, c1, c2⟩, -⟩ := h.2.2.2.1
  have hE4 := hE.1.1
  have e1 := hE.1.2.1
  have e2 := hE.2.1.2.1
  refine z_pair_of ?_
  by_cases hr : (1 ≤ a.toInt ∧ a.toInt ≤ 400) ∧ 0 ≤ b.toInt ∧ b.toInt ≤ 2
  · obtain ⟨⟨ha1, ha2⟩, hb1, hb2⟩ := hr
    obtain ⟨n, rfl, hn, -⟩ := J_of (x := a) (by omega)
    unfold f_W_near
    refine z_neg (by (try simp (disch := omega) only [Int32.lt_iff_toInt_lt, Int32.le_iff_toInt_le, ← Int32.toInt_inj, Int32.toInt_add, Int32.toInt_sub, Int32.toInt_mul, Int32.toInt_neg, z_bm, z_bm2, J_ti, J_toInt, z_cn, Int32.reduceToInt]) <;> omega) (z_neg (by (try simp (disch := omega) only [Int32.lt_iff_toInt_lt, Int32.le_iff_toInt_le, ← Int32.toInt_inj, Int32.toInt_add, Int32.toInt_sub, Int32.toInt_mul, Int32.toInt_neg, z_bm, z_bm2, J_ti, J_toInt, z_cn, Int32.reduceToInt]) <;> omega) (z_neg (by (try simp (disch := omega) only [Int32.lt_iff_toInt_lt, Int32.le_iff_toInt_le, ← Int32.toInt_inj, Int32.toInt_add, Int32.toInt_sub, Int32.toInt_mul, Int32.toInt_neg, z_bm, z_bm2, J_ti, J_toInt, z_cn, Int32.reduceToInt]) <;> omega) (z_pos (by (try simp (disch := omega) only [Int32.lt_iff_toInt_lt, Int32.le_iff_toInt_le, ← Int32.toInt_inj, Int32.toInt_add, Int32.toInt_sub, Int32.toInt_mul, Int32.toInt_neg, z_bm, z_bm2, J_ti, J_toInt, z_cn, Int32.reduceToInt]) <;> omega) ?_)))
    by_cases h0 : E.1 = 0
    · refine z_pos (by rw [e1, h0]; rfl) (k_sat_mk ?_)
      unfold f_R_near
      rw [z_Rin1 (by (try simp (disch := omega) only [Int32.lt_iff_toInt_lt, Int32.le_iff_toInt_le, ← Int32.toInt_inj, Int32.toInt_add, Int32.toInt_sub, Int32.toInt_mul, Int32.toInt_neg, z_bm, z_bm2, J_ti, J_toInt, z_cn, Int32.reduceToInt]) <;> omega) (by (try simp (disch := omega) only [Int32.lt_iff_toInt_lt, Int32.le_iff_toInt_le, ← Int32.toInt_inj, Int32.toInt_add, Int32.toInt_sub, Int32.toInt_mul, Int32.toInt_neg, z_bm, z_bm2, J_ti, J_toInt, z_cn, Int32.reduceToInt]) <;> omega), z_bind_some]
      refine z_neg (by decide) ?_
      rw [z_Rin1 (by (try simp (disch := omega) only [Int32.lt_iff_toInt_lt, Int32.le_iff_toInt_le, ← Int32.toInt_inj, Int32.toInt_add, Int32.toInt_sub, Int32.toInt_mul, Int32.toInt_neg, z_bm, z_bm2, J_ti, J_toInt, z_cn, Int32.reduceToInt]) <;> omega) (by (try simp (disch := omega) only [Int32.lt_iff_toInt_lt, Int32.le_iff_toInt_le, ← Int32.toInt_inj, Int32.toInt_add, Int32.toInt_sub, Int32.toInt_mul, Int32.toInt_neg, z_bm, z_bm2, J_ti, J_toInt, z_cn, Int32.reduceToInt]) <;> omega), z_bind_some]
      exact z_neg (by decide) (z_pos (by rw [e2, h0]; rfl) (k_sat_mk ⟨rfl, h⟩))
    · refine z_neg (by rw [e1]; (try simp (disch := omega) only [Int32.lt_iff_toInt_lt, Int32.le_iff_toInt_le, ← Int32.toInt_inj, Int32.toInt_add, Int32.toInt_sub, Int32.toInt_mul, Int32.toInt_neg, z_bm, z_bm2, J_ti, J_toInt, z_cn, Int32.reduceToInt]) <;> omega) ?_
      obtain ⟨p0, s, -, hs2, hs, -, es⟩ := hE.2.2.1.2 0 (by omega)
      have hn' : n ≤ 400 := by omega
      have hEW : z_eW E u := ⟨hE.1, hE.2.2.1, hE.2.2.2.2⟩
      have hRP := z_rp_o (E := E) (u := u) (k := k) hn' hs s (Nat.le_refl s)
      have hsame : z_fo (z_sW E u k s n) s (-2, J n + 1) = z_fo (z_sR E u k s n) s (-1, 0) := by
        rcases hRP.1 with ⟨-, q⟩ | ⟨q, -⟩
        · exact absurd q (hRP.2 (by omega))
        · exact q
      have wr_eq : ∀ {v : k_S}, z_moR v = z_moR u → z_wr E v k s = z_wr E u k s := fun {v} m => by
        funext i
        unfold z_wr
        rw [z_pl_m m, show v.2.1 46 = u.2.1 46 from congrArg (fun m : z_Mo => m.2.1) m]
      have sR_eq : ∀ {v : k_S}, z_moR v = z_moR u → z_sR E v k s n = z_sR E u k s n := fun {v} m => by
        have hw : ∀ p x, z_wc E v k s n p x = z_wc E u k s n p x := fun p x => by
          unfold z_wc
          have : z_wr (z_Ex E p x) v k s = z_wr (z_Ex E p x) u k s := by
            funext i
            unfold z_wr
            rw [z_pl_m m, show v.2.1 46 = u.2.1 46 from congrArg (fun m : z_Mo => m.2.1) m]
          rw [this]
        funext p j x
        unfold z_sR
        simp only [hw]
      by_cases hb2' : b = 2
      · refine z_pos hb2' (z_bind _ (z_wrongW (s := s) hEW (by omega) hk1 hk2 c1 (by omega) hs es hn') (fun r v hv => k_sat_mk ?_))
        obtain ⟨i2, hE2, m2, q1, q2, q3⟩ := z_Wdone h hE hv.2
        unfold f_R_near
        rw [z_Rin1 (by (try simp (disch := omega) only [Int32.lt_iff_toInt_lt, Int32.le_iff_toInt_le, ← Int32.toInt_inj, Int32.toInt_add, Int32.toInt_sub, Int32.toInt_mul, Int32.toInt_neg, z_bm, z_bm2, J_ti, J_toInt, z_cn, Int32.reduceToInt]) <;> omega) (by (try simp (disch := omega) only [Int32.lt_iff_toInt_lt, Int32.le_iff_toInt_le, ← Int32.toInt_inj, Int32.toInt_add, Int32.toInt_sub, Int32.toInt_mul, Int32.toInt_neg, z_bm, z_bm2, J_ti, J_toInt, z_cn, Int32.reduceToInt]) <;> omega), z_bind_some]
        refine z_neg (by decide) ?_
        rw [z_Rin1 (by (try simp (disch := omega) only [Int32.lt_iff_toInt_lt, Int32.le_iff_toInt_le, ← Int32.toInt_inj, Int32.toInt_add, Int32.toInt_sub, Int32.toInt_mul, Int32.toInt_neg, z_bm, z_bm2, J_ti, J_toInt, z_cn, Int32.reduceToInt]) <;> omega) (by (try simp (disch := omega) only [Int32.lt_iff_toInt_lt, Int32.le_iff_toInt_le, ← Int32.toInt_inj, Int32.toInt_add, Int32.toInt_sub, Int32.toInt_mul, Int32.toInt_neg, z_bm, z_bm2, J_ti, J_toInt, z_cn, Int32.reduceToInt]) <;> omega), z_bind_some]
        refine z_neg (by decide) (z_neg (by rw [q1, e2]; (try simp (disch := omega) only [Int32.lt_iff_toInt_lt, Int32.le_iff_toInt_le, ← Int32.toInt_inj, Int32.toInt_add, Int32.toInt_sub, Int32.toInt_mul, Int32.toInt_neg, z_bm, z_bm2, J_ti, J_toInt, z_cn, Int32.reduceToInt]) <;> omega) (z_pos hb2' (z_bind _ (z_wrongR (s := s) hE2.2.1 hE2.2.2.2.1 (by omega) hk1 hk2 (q2.trans c2) (by omega) hs es hn') (fun r' v' hv' => k_sat_mk ⟨?_, zI_0 i2 (hv'.2.mono rfl rfl)⟩))))
        rw [hv.1, hv'.1, wr_eq m2]
      · refine z_neg hb2' ?_
        have rest : ∀ (r : Int32) (v : k_S), z_fr [1702, 1206, 704] [18, 19, 9, 13] u v → (r = if b = 0 then (z_fo (z_sW E u k s n) s (-2, J n + 1)).1 else (z_fo (z_sW E u k s n) s (-2, J n + 1)).2) → k_sat (f_R_near (J n) b v) (fun r' v2 => r = r' ∧ zI v2) := by
          intro r v hv hr
          obtain ⟨i2, hE2, m2, q1, q2, q3⟩ := z_Wdone h hE hv
          unfold f_R_near
          rw [z_Rin1 (by (try simp (disch := omega) only [Int32.lt_iff_toInt_lt, Int32.le_iff_toInt_le, ← Int32.toInt_inj, Int32.toInt_add, Int32.toInt_sub, Int32.toInt_mul, Int32.toInt_neg, z_bm, z_bm2, J_ti, J_toInt, z_cn, Int32.reduceToInt]) <;> omega) (by (try simp (disch := omega) only [Int32.lt_iff_toInt_lt, Int32.le_iff_toInt_le, ← Int32.toInt_inj, Int32.toInt_add, Int32.toInt_sub, Int32.toInt_mul, Int32.toInt_neg, z_bm, z_bm2, J_ti, J_toInt, z_cn, Int32.reduceToInt]) <;> omega), z_bind_some]
          refine z_neg (by decide) ?_
          rw [z_Rin1 (by (try simp (disch := omega) only [Int32.lt_iff_toInt_lt, Int32.le_iff_toInt_le, ← Int32.toInt_inj, Int32.toInt_add, Int32.toInt_sub, Int32.toInt_mul, Int32.toInt_neg, z_bm, z_bm2, J_ti, J_toInt, z_cn, Int32.reduceToInt]) <;> omega) (by (try simp (disch := omega) only [Int32.lt_iff_toInt_lt, Int32.le_iff_toInt_le, ← Int32.toInt_inj, Int32.toInt_add, Int32.toInt_sub, Int32.toInt_mul, Int32.toInt_neg, z_bm, z_bm2, J_ti, J_toInt, z_cn, Int32.reduceToInt]) <;> omega), z_bind_some]
          refine z_neg (by decide) (z_neg (by rw [q1, e2]; (try simp (disch := omega) only [Int32.lt_iff_toInt_lt, Int32.le_iff_toInt_le, ← Int32.toInt_inj, Int32.toInt_add, Int32.toInt_sub, Int32.toInt_mul, Int32.toInt_neg, z_bm, z_bm2, J_ti, J_toInt, z_cn, Int32.reduceToInt]) <;> omega) (z_neg hb2' (z_bind _ (z_nearR (s := s) hE2.2.1 hE2.2.2.2.1 (by omega) hk1 hk2 (q2.trans c2) (by omega) hs es hn' i2.2.2.2.2.2.2.2.2.2.2 b) (fun y v' hv' => ?_))))
          have ey : y = z_fo (z_sW E u k s n) s (-2, J n + 1) := by rw [hv'.2, sR_eq m2, hsame]
          rw [ey]
          refine z_ite (fun q => k_sat_mk ⟨by rw [hr, if_pos q], zI_0 i2 (hv'.1.mono rfl rfl)⟩) (fun q => k_sat_mk ⟨by rw [hr, if_neg q], zI_0 i2 (hv'.1.mono rfl rfl)⟩)
        refine z_ite (fun q => ?_) (fun q => ?_)
        · unfold f_W_near_J66
          exact z_bind _ (z_nearW (s := s) hEW (by omega) hk1 hk2 c1 (by omega) hs es hn' 1) (fun r v hv => k_sat_mk (rest r v hv.1 (by rw [hv.2, if_neg (by decide), if_pos q])))
        · unfold f_W_near_J66
          exact z_bind _ (z_nearW (s := s) hEW (by omega) hk1 hk2 c1 (by omega) hs es hn' 0) (fun r v hv => k_sat_mk (rest r v hv.1 (by rw [hv.2, if_pos rfl, if_neg q])))
  · have hR : k_sat (f_R_near a b u) (fun r' v => (-1 : Int32) = r' ∧ zI v) := by
      unfold f_R_near
      by_cases q : 1 ≤ a.toInt ∧ a.toInt ≤ 400
      · rw [z_Rin1 (by (try simp (disch := omega) only [Int32.lt_iff_toInt_lt, Int32.le_iff_toInt_le, ← Int32.toInt_inj, Int32.toInt_add, Int32.toInt_sub, Int32.toInt_mul, Int32.toInt_neg, z_bm, z_bm2, J_ti, J_toInt, z_cn, Int32.reduceToInt]) <;> omega) (by (try simp (disch := omega) only [Int32.lt_iff_toInt_lt, Int32.le_iff_toInt_le, ← Int32.toInt_inj, Int32.toInt_add, Int32.toInt_sub, Int32.toInt_mul, Int32.toInt_neg, z_bm, z_bm2, J_ti, J_toInt, z_cn, Int32.reduceToInt]) <;> omega), z_bind_some]
        refine z_neg (by decide) ?_
        rw [z_Rin0 (by ((try simp (disch := omega) only [Int32.lt_iff_toInt_lt, Int32.le_iff_toInt_le, ← Int32.toInt_inj, Int32.toInt_add, Int32.toInt_sub, Int32.toInt_mul, Int32.toInt_neg, z_bm, z_bm2, J_ti, J_toInt, z_cn, Int32.reduceToInt] at *); omega)), z_bind_some]
        exact z_pos rfl (k_sat_mk ⟨rfl, h⟩)
      · rw [z_Rin0 (by ((try simp (disch := omega) only [Int32.lt_iff_toInt_lt, Int32.le_iff_toInt_le, ← Int32.toInt_inj, Int32.toInt_add, Int32.toInt_sub, Int32.toInt_mul, Int32.toInt_neg, z_bm, z_bm2, J_ti, J_toInt, z_cn, Int32.reduceToInt] at *); omega)), z_bind_some]
        exact z_pos rfl (k_sat_mk ⟨rfl, h⟩)
    unfold f_W_near
    exact z_ite (fun _ => k_sat_mk hR) (fun _ => z_ite (fun _ => k_sat_mk hR) (fun _ => z_ite (fun _ => k_sat_mk hR) (fun _ => z_neg (by ((try simp (disch := omega) only [Int32.lt_iff_toInt_lt, Int32.le_iff_toInt_le, ← Int32.toInt_inj, Int32.toInt_add, Int32.toInt_sub, Int32.toInt_mul, Int32.toInt_neg, z_bm, z_bm2, J_ti, J_toInt, z_cn, Int32.reduceToInt] at *); omega)) (k_sat_mk hR))))
