/-! meets, two, round -/
theorem z_for3 {Y A B : Type} {b : A × B × Int32 → k_S → Option (((A × B × Int32) ⊕ Y) × k_S)} {K : Y → k_S → Prop} (a n : Nat) (x0 : A) (y0 : B) (P : Nat → A → B → k_S → Prop) {u : k_S} (hn : n < 2147483648) (ha : a ≤ n) (h0 : P a x0 y0 u) (hs : ∀ i x y u, a ≤ i → i < n → P i x y u → k_sat (b (x, y, J i) u) (fun z u' => (∃ x' y', z = .inl (x', y', J i + Int32.ofInt 1) ∧ P (i + 1) x' y' u') ∨ ∃ r, z = .inr r ∧ K r u')) (he : ∀ x y u, P n x y u → k_sat (b (x, y, J n) u) (fun z u' => ∃ r, z = .inr r ∧ K r u')) : k_sat (k_itr b k_FU (x0, y0, J a) u) K := by
  refine z_itr (P := fun m x u => ∃ i, a ≤ i ∧ i ≤ n ∧ x.2.2 = J i ∧ m = n - i ∧ P i x.1 x.2.1 u) (fun m x u h => ?_) k_FU (n - a) (x0, y0, J a) u (by unfold k_FU; omega) ⟨a, Nat.le_refl a, ha, rfl, rfl, h0⟩
  obtain ⟨x1, x2, x3⟩ := x
  obtain ⟨i, hi0, hi, e, rfl, hp⟩ := h
  simp only at e hp
  subst e
  by_cases e : i = n
  · subst e
    exact z_mono (he x1 x2 u hp) (fun z u' h => Or.inr h)
  · refine z_mono (hs i x1 x2 u hi0 (by omega) hp) (fun z u' h => ?_)
    rcases h with ⟨x', y', rfl, h⟩ | h
    · exact Or.inl ⟨_, n - (i + 1), rfl, by omega, i + 1, by omega, by omega, z_J1 i, rfl, h⟩
    · exact Or.inr h
/-- a spot: a wheel and a place, or none -/
theorem z_spot {E : z_E} {u : k_S} (hE : z_en E u) (a : Int32) : (∃ w p s : Nat, w < E.1 ∧ p < s ∧ s ≤ 40 ∧ E.2.2.1 w = J s ∧ a / 100 = J w ∧ a % 100 = J p ∧ f_W_isSpot a u = some (1, u) ∧ ∀ v : k_S, v.1 4203 = u.1 4203 → v.2.1 45 = u.2.1 45 → f_R_isSpot a v = some (1, v)) ∨ (f_W_isSpot a u = some (0, u) ∧ f_R_isSpot a u = some (0, u)) := by
  have hE4 := hE.1.1
  have e1 := hE.1.2.1
  have e2 := hE.2.1.2.1
  unfold f_W_isSpot f_R_isSpot
  by_cases h0 : a < 0
  · rw [if_pos h0, if_pos h0]; exact Or.inr ⟨rfl, rfl⟩
  · rw [if_neg h0, if_neg h0]
    obtain ⟨q, rfl, hq, hq2⟩ := J_of (x := a) (by ((try simp (disch := omega) only [Int32.lt_iff_toInt_lt, Int32.le_iff_toInt_le, ← Int32.toInt_inj, Int32.toInt_add, Int32.toInt_sub, Int32.toInt_mul, Int32.toInt_neg, z_bm, z_bm2, J_ti, J_toInt, z_cn, Int32.reduceToInt] at *); omega))
    have hd : J q / 100 = J (q / 100) := J_div q 100 hq2 (by omega)
    have hm : J q % 100 = J (q % 100) := J_mod q 100 hq2 (by omega)
    rw [hd, hm]
    have hq3 : q / 100 < 2147483648 := by omega
    have hq4 : q % 100 < 100 := Nat.mod_lt _ (by omega)
    by_cases hw : q / 100 < E.1
    · obtain ⟨p', s, -, h2, hs, -, es⟩ := hE.2.2.1.2 _ hw
      have es5 : u.2.1 5 (q / 100) = J s := by rw [hE.1.2.2.2.1]; exact es
      have es45 : u.2.1 45 (q / 100) = J s := ((hE.2.1.2.2.1 _ hw).1).trans es
      by_cases hp : q % 100 < s
      · refine Or.inl ⟨q / 100, q % 100, s, hw, hp, hs, es, rfl, rfl, ?_, fun v v1 v2 => ?_⟩
        · rw [z_WhasP e1 hE4 hw es5 hs hp, z_bind_some, if_neg (by decide)]
        · rw [if_neg h0, z_RisWheel (v1.trans e2) hE4 hw, z_bind_some, if_neg (by decide), z_cko _ (by (try simp (disch := omega) only [Int32.lt_iff_toInt_lt, Int32.le_iff_toInt_le, ← Int32.toInt_inj, Int32.toInt_add, Int32.toInt_sub, Int32.toInt_mul, Int32.toInt_neg, z_bm, z_bm2, J_ti, J_toInt, z_cn, Int32.reduceToInt]) <;> omega) (by (try simp (disch := omega) only [Int32.lt_iff_toInt_lt, Int32.le_iff_toInt_le, ← Int32.toInt_inj, Int32.toInt_add, Int32.toInt_sub, Int32.toInt_mul, Int32.toInt_neg, z_bm, z_bm2, J_ti, J_toInt, z_cn, Int32.reduceToInt]) <;> omega), J_toNat (by omega), v2, es45, if_neg (by (try simp (disch := omega) only [Int32.lt_iff_toInt_lt, Int32.le_iff_toInt_le, ← Int32.toInt_inj, Int32.toInt_add, Int32.toInt_sub, Int32.toInt_mul, Int32.toInt_neg, z_bm, z_bm2, J_ti, J_toInt, z_cn, Int32.reduceToInt]) <;> omega)]
      · refine Or.inr ⟨?_, ?_⟩
        · rw [z_WhasP0 e1 hE4 hw es5 hs (by rw [J_toInt (by omega)]; omega), z_bind_some, if_pos rfl]
        · rw [z_RisWheel e2 hE4 hw, z_bind_some, if_neg (by decide), z_cko _ (by (try simp (disch := omega) only [Int32.lt_iff_toInt_lt, Int32.le_iff_toInt_le, ← Int32.toInt_inj, Int32.toInt_add, Int32.toInt_sub, Int32.toInt_mul, Int32.toInt_neg, z_bm, z_bm2, J_ti, J_toInt, z_cn, Int32.reduceToInt]) <;> omega) (by (try simp (disch := omega) only [Int32.lt_iff_toInt_lt, Int32.le_iff_toInt_le, ← Int32.toInt_inj, Int32.toInt_add, Int32.toInt_sub, Int32.toInt_mul, Int32.toInt_neg, z_bm, z_bm2, J_ti, J_toInt, z_cn, Int32.reduceToInt]) <;> omega), J_toNat (by omega), es45, if_pos (by (try simp (disch := omega) only [Int32.lt_iff_toInt_lt, Int32.le_iff_toInt_le, ← Int32.toInt_inj, Int32.toInt_add, Int32.toInt_sub, Int32.toInt_mul, Int32.toInt_neg, z_bm, z_bm2, J_ti, J_toInt, z_cn, Int32.reduceToInt]) <;> omega)]
    · refine Or.inr ⟨?_, ?_⟩
      · rw [z_WhasP00 e1 hE4 (by rw [J_toInt (by omega)]; omega), z_bind_some, if_pos rfl]
      · rw [z_RisWheel0 e2 hE4 (by rw [J_toInt (by omega)]; omega), z_bind_some, if_pos rfl]
theorem z_meets (a b c : Int32) (u : k_S) (h : zI u) : z_pair (f_W_meets a b c) (f_R_meets a b c) u zI := by
  obtain ⟨E, hE, -, -, -⟩ := z_env h
  have hE4 := hE.1.1
  refine z_pair_of ?_
  unfold f_W_meets
  rcases z_spot hE a with ⟨w, p, s, hw, hp, hs, es, ed, em, sW, sR⟩ | ⟨sW, sR⟩
  · rw [sW, z_bind_some]
    refine z_neg (by decide) ?_
    by_cases hr : (1 ≤ b.toInt ∧ b.toInt ≤ 2000) ∧ 0 ≤ c.toInt ∧ c.toInt ≤ 1
    · obtain ⟨⟨hb1, hb2⟩, hc1, hc2⟩ := hr
      obtain ⟨n, rfl, hn, -⟩ := J_of (x := b) (by omega)
      refine z_neg (by (try simp (disch := omega) only [Int32.lt_iff_toInt_lt, Int32.le_iff_toInt_le, ← Int32.toInt_inj, Int32.toInt_add, Int32.toInt_sub, Int32.toInt_mul, Int32.toInt_neg, z_bm, z_bm2, J_ti, J_toInt, z_cn, Int32.reduceToInt]) <;> omega) (z_neg (by (try simp (disch := omega) only [Int32.lt_iff_toInt_lt, Int32.le_iff_toInt_le, ← Int32.toInt_inj, Int32.toInt_add, Int32.toInt_sub, Int32.toInt_mul, Int32.toInt_neg, z_bm, z_bm2, J_ti, J_toInt, z_cn, Int32.reduceToInt]) <;> omega) (z_neg (by (try simp (disch := omega) only [Int32.lt_iff_toInt_lt, Int32.le_iff_toInt_le, ← Int32.toInt_inj, Int32.toInt_add, Int32.toInt_sub, Int32.toInt_mul, Int32.toInt_neg, z_bm, z_bm2, J_ti, J_toInt, z_cn, Int32.reduceToInt]) <;> omega) (z_pos (by (try simp (disch := omega) only [Int32.lt_iff_toInt_lt, Int32.le_iff_toInt_le, ← Int32.toInt_inj, Int32.toInt_add, Int32.toInt_sub, Int32.toInt_mul, Int32.toInt_neg, z_bm, z_bm2, J_ti, J_toInt, z_cn, Int32.reduceToInt]) <;> omega) ?_)))
      have hf : ∃ f : Nat → Bool, ∀ i, f i = decide (z_pl E u w i = J p) := ⟨_, fun _ => rfl⟩
      obtain ⟨f, hf⟩ := hf
      have key : ∀ fl : Int32, (fl = 0 ∨ fl = 1) → k_sat (f_Nights_timesAt (J w) (J p) (J n) fl u) (fun r v => z_fr [1702, 1206, 704] [18, 19, 9, 13] u v ∧ (fl = 0 → r = J (z_co f n)) ∧ (fl = 1 → z_hit f n r)) := by
        intro fl hfl
        unfold f_Nights_timesAt
        refine z_bind _ (z_Wt_0 hE) (fun _ u1 h1 => z_bind _ (z_for2 1 (n + 1) 0 (fun i x v => z_Wt E (w + 1) u (i - 1) v ∧ x = J (z_co f (i - 1)) ∧ (fl = 1 → ∀ j, 1 ≤ j → j < i → f j = false)) (K := fun y v => z_fr [1702, 1206, 704] [18, 19, 9, 13] u v ∧ ((∃ i, y = .inl (J i) ∧ fl = 1 ∧ 1 ≤ i ∧ i ≤ n ∧ f i = true ∧ ∀ j, 1 ≤ j → j < i → f j = false) ∨ (y = .inr (J (z_co f n)) ∧ (fl = 1 → ∀ j, 1 ≤ j → j ≤ n → f j = false)))) (by omega) (by omega) ⟨h1.le (by omega), rfl, fun _ j _ _ => by omega⟩ (fun i x v hi0 hi hp' => ?_) (fun x v hp' => ?_)) (fun y v hv => ?_))
        · obtain ⟨g1, rfl, g3⟩ := hp'
          unfold f_Nights_timesAt_B10
          dsimp only
          refine z_neg (by (try simp (disch := omega) only [Int32.lt_iff_toInt_lt, Int32.le_iff_toInt_le, ← Int32.toInt_inj, Int32.toInt_add, Int32.toInt_sub, Int32.toInt_mul, Int32.toInt_neg, z_bm, z_bm2, J_ti, J_toInt, z_cn, Int32.reduceToInt]) <;> omega) ?_
          rw [z_Jp]
          refine z_bind _ (z_Wt_s hE.1 (by omega) g1) (fun _ v' hv' => ?_)
          rw [show i - 1 + 1 = i by omega] at hv'
          rw [z_Wt_p hv' (by omega) (by omega), z_bind_some]
          have hco : z_co f (i + 1 - 1) = z_co f (i - 1) + (if f i = true then 1 else 0) := by
            rw [show i + 1 - 1 = (i - 1) + 1 by omega, z_co, show i - 1 + 1 = i by omega]
          refine z_ite (fun q => ?_) (fun q => ?_)
          · have hfi : f i = true := by rw [hf]; simpa using q
            rcases hfl with rfl | rfl
            · refine z_pos rfl (k_sat_mk (Or.inl ⟨_, rfl, by rw [show i + 1 - 1 = i by omega]; exact hv', ?_, fun q => absurd q (by decide)⟩))
              rw [hco, if_pos hfi, z_J1]
            · exact z_neg (by decide) (k_sat_mk (Or.inr ⟨_, rfl, hv'.1, Or.inl ⟨i, rfl, rfl, hi0, by omega, hfi, g3 rfl⟩⟩))
          · have hfi : f i = false := by rw [hf]; simpa using q
            refine k_sat_mk (Or.inl ⟨_, rfl, by rw [show i + 1 - 1 = i by omega]; exact hv', ?_, fun q j h1 h2 => ?_⟩)
            · rw [hco, hfi]; simp
            · by_cases e : j = i
              · rw [e]; exact hfi
              · exact g3 q j h1 (by omega)
        · obtain ⟨g1, rfl, g3⟩ := hp'
          unfold f_Nights_timesAt_B10
          exact z_pos (by (try simp (disch := omega) only [Int32.lt_iff_toInt_lt, Int32.le_iff_toInt_le, ← Int32.toInt_inj, Int32.toInt_add, Int32.toInt_sub, Int32.toInt_mul, Int32.toInt_neg, z_bm, z_bm2, J_ti, J_toInt, z_cn, Int32.reduceToInt]) <;> omega) (k_sat_mk ⟨_, rfl, g1.1, Or.inr ⟨rfl, fun q j h1 h2 => g3 q j h1 (by omega)⟩⟩)
        · obtain ⟨g1, ⟨i, rfl, g2, g3, g4, g5, g6⟩ | ⟨rfl, g2⟩⟩ := hv
          · exact k_sat_mk ⟨g1, fun q => absurd (q.symm.trans g2) (by decide), fun _ => Or.inl ⟨i, g3, g4, g5, g6, rfl⟩⟩
          · simp only [k_cs]
            rcases hfl with rfl | rfl
            · exact z_pos rfl (k_sat_mk ⟨g1, fun _ => rfl, fun q => absurd q (by decide)⟩)
            · exact z_neg (by decide) (k_sat_mk ⟨g1, fun q => absurd q (by decide), fun _ => Or.inr ⟨g2 rfl, rfl⟩⟩)
      have rest : ∀ (r : Int32) (v : k_S), z_fr [1702, 1206, 704] [18, 19, 9, 13] u v → ((c = 0 ∧ r = J (z_co f n)) ∨ (¬ c = 0 ∧ z_hit f n r)) → k_sat (f_R_meets a (J n) c v) (fun r' v2 => r = r' ∧ zI v2) := by
        intro r v hv hrr
        obtain ⟨i2, hE2, m2, q1, q2, q3⟩ := z_Wdone h hE hv
        unfold f_R_meets
        rw [sR v q1 q3, z_bind_some]
        refine z_neg (by decide) ?_
        rw [z_Rin1 (by (try simp (disch := omega) only [Int32.lt_iff_toInt_lt, Int32.le_iff_toInt_le, ← Int32.toInt_inj, Int32.toInt_add, Int32.toInt_sub, Int32.toInt_mul, Int32.toInt_neg, z_bm, z_bm2, J_ti, J_toInt, z_cn, Int32.reduceToInt]) <;> omega) (by (try simp (disch := omega) only [Int32.lt_iff_toInt_lt, Int32.le_iff_toInt_le, ← Int32.toInt_inj, Int32.toInt_add, Int32.toInt_sub, Int32.toInt_mul, Int32.toInt_neg, z_bm, z_bm2, J_ti, J_toInt, z_cn, Int32.reduceToInt]) <;> omega), z_bind_some]
        refine z_neg (by decide) ?_
        rw [z_Rin1 (by (try simp (disch := omega) only [Int32.lt_iff_toInt_lt, Int32.le_iff_toInt_le, ← Int32.toInt_inj, Int32.toInt_add, Int32.toInt_sub, Int32.toInt_mul, Int32.toInt_neg, z_bm, z_bm2, J_ti, J_toInt, z_cn, Int32.reduceToInt]) <;> omega) (by (try simp (disch := omega) only [Int32.lt_iff_toInt_lt, Int32.le_iff_toInt_le, ← Int32.toInt_inj, Int32.toInt_add, Int32.toInt_sub, Int32.toInt_mul, Int32.toInt_neg, z_bm, z_bm2, J_ti, J_toInt, z_cn, Int32.reduceToInt]) <;> omega), z_bind_some]
        refine z_neg (by decide) (z_bind _ (z_Rt_0 E v) (fun _ u3 h3 => z_bind _ (z_for3 1 (n + 1) 0 (-2) (fun i x y w' => z_Rt E v (i - 1) w' ∧ x = J (z_co f (i - 1)) ∧ z_hit f (i - 1) y) (K := fun y w' => z_Rt E v n w' ∧ y.1 = J (z_co f n) ∧ z_hit f n y.2) (by omega) (by omega) ⟨h3, rfl, Or.inr ⟨fun j _ _ => by omega, rfl⟩⟩ (fun i x y w' hi0 hi hp' => ?_) (fun x y w' hp' => ?_)) (fun y w' hw' => z_bind _ (z_Rt_b hE4 hw'.1) (fun _ v2 hv2 => ?_))))
        · obtain ⟨g1, rfl, g3⟩ := hp'
          unfold f_R_meets_B44
          dsimp only
          refine z_neg (by (try simp (disch := omega) only [Int32.lt_iff_toInt_lt, Int32.le_iff_toInt_le, ← Int32.toInt_inj, Int32.toInt_add, Int32.toInt_sub, Int32.toInt_mul, Int32.toInt_neg, z_bm, z_bm2, J_ti, J_toInt, z_cn, Int32.reduceToInt]) <;> omega) (z_bind _ (z_Rt_s hE2.2.1 hE2.2.2.2.1 g1) (fun _ w2 hw2 => ?_))
          rw [show i - 1 + 1 = i by omega] at hw2
          rw [ed, em]
          refine z_ck (by (try simp (disch := omega) only [Int32.lt_iff_toInt_lt, Int32.le_iff_toInt_le, ← Int32.toInt_inj, Int32.toInt_add, Int32.toInt_sub, Int32.toInt_mul, Int32.toInt_neg, z_bm, z_bm2, J_ti, J_toInt, z_cn, Int32.reduceToInt]) <;> omega) (by (try simp (disch := omega) only [Int32.lt_iff_toInt_lt, Int32.le_iff_toInt_le, ← Int32.toInt_inj, Int32.toInt_add, Int32.toInt_sub, Int32.toInt_mul, Int32.toInt_neg, z_bm, z_bm2, J_ti, J_toInt, z_cn, Int32.reduceToInt]) <;> omega) ?_
          rw [J_toNat (by omega), (z_Rt_p hw2 w).1, z_pl_m m2]
          have hco : z_co f (i + 1 - 1) = z_co f (i - 1) + (if f i = true then 1 else 0) := by
            rw [show i + 1 - 1 = (i - 1) + 1 by omega, z_co, show i - 1 + 1 = i by omega]
          refine z_ite (fun q => ?_) (fun q => ?_)
          · have hfi : f i = true := by rw [hf]; simpa using q
            have c1 : J (z_co f (i - 1)) + Int32.ofInt 1 = J (z_co f (i + 1 - 1)) := by rw [hco, if_pos hfi, z_J1]
            rcases g3 with ⟨j, b1, b2, b3, b4, rfl⟩ | ⟨b1, rfl⟩
            · exact z_pos (by (try simp (disch := omega) only [Int32.lt_iff_toInt_lt, Int32.le_iff_toInt_le, ← Int32.toInt_inj, Int32.toInt_add, Int32.toInt_sub, Int32.toInt_mul, Int32.toInt_neg, z_bm, z_bm2, J_ti, J_toInt, z_cn, Int32.reduceToInt]) <;> omega) (k_sat_mk (Or.inl ⟨_, _, rfl, by rw [show i + 1 - 1 = i by omega]; exact hw2, c1, Or.inl ⟨j, b1, by omega, b3, b4, rfl⟩⟩))
            · exact z_neg (by decide) (k_sat_mk (Or.inl ⟨_, _, rfl, by rw [show i + 1 - 1 = i by omega]; exact hw2, c1, Or.inl ⟨i, hi0, by omega, hfi, fun j h1 h2 => b1 j h1 (by omega), rfl⟩⟩))
          · have hfi : f i = false := by rw [hf]; simpa using q
            refine k_sat_mk (Or.inl ⟨_, _, rfl, by rw [show i + 1 - 1 = i by omega]; exact hw2, by rw [hco, hfi]; simp, ?_⟩)
            rcases g3 with ⟨j, b1, b2, b3, b4, rfl⟩ | ⟨b1, rfl⟩
            · exact Or.inl ⟨j, b1, by omega, b3, b4, rfl⟩
            · refine Or.inr ⟨fun j h1 h2 => ?_, rfl⟩
              by_cases e : j = i
              · rw [e]; exact hfi
              · exact b1 j h1 (by omega)
        · obtain ⟨g1, rfl, g3⟩ := hp'
          unfold f_R_meets_B44
          exact z_pos (by (try simp (disch := omega) only [Int32.lt_iff_toInt_lt, Int32.le_iff_toInt_le, ← Int32.toInt_inj, Int32.toInt_add, Int32.toInt_sub, Int32.toInt_mul, Int32.toInt_neg, z_bm, z_bm2, J_ti, J_toInt, z_cn, Int32.reduceToInt]) <;> omega) (k_sat_mk ⟨_, rfl, g1, rfl, g3⟩)
        · refine z_ite (fun q => k_sat_mk ⟨?_, zI_0 i2 (hv2.mono rfl rfl)⟩) (fun q => k_sat_mk ⟨?_, zI_0 i2 (hv2.mono rfl rfl)⟩)
          · rcases hrr with ⟨-, b⟩ | ⟨b, -⟩
            · rw [b, hw'.2.1]
            · exact absurd q b
          · rcases hrr with ⟨b, -⟩ | ⟨-, b⟩
            · exact absurd b q
            · exact z_hit_u b hw'.2.2
      unfold f_W_meets_J54
      rw [ed, em]
      by_cases hc0 : c = 0
      · refine z_neg (by rw [hc0]; decide) (z_bind _ (key 0 (Or.inl rfl)) (fun r v hv => k_sat_mk (rest r v hv.1 (Or.inl ⟨hc0, hv.2.1 rfl⟩))))
      · refine z_pos (by ((try simp (disch := omega) only [Int32.lt_iff_toInt_lt, Int32.le_iff_toInt_le, ← Int32.toInt_inj, Int32.toInt_add, Int32.toInt_sub, Int32.toInt_mul, Int32.toInt_neg, z_bm, z_bm2, J_ti, J_toInt, z_cn, Int32.reduceToInt] at *); omega)) (z_bind _ (key 1 (Or.inr rfl)) (fun r v hv => k_sat_mk (rest r v hv.1 (Or.inr ⟨hc0, hv.2.2 rfl⟩))))
    · have hR : k_sat (f_R_meets a b c u) (fun r' v => (-1 : Int32) = r' ∧ zI v) := by
        unfold f_R_meets
        rw [sR u rfl rfl, z_bind_some]
        refine z_neg (by decide) ?_
        by_cases q : 1 ≤ b.toInt ∧ b.toInt ≤ 2000
        · rw [z_Rin1 (by (try simp (disch := omega) only [Int32.lt_iff_toInt_lt, Int32.le_iff_toInt_le, ← Int32.toInt_inj, Int32.toInt_add, Int32.toInt_sub, Int32.toInt_mul, Int32.toInt_neg, z_bm, z_bm2, J_ti, J_toInt, z_cn, Int32.reduceToInt]) <;> omega) (by (try simp (disch := omega) only [Int32.lt_iff_toInt_lt, Int32.le_iff_toInt_le, ← Int32.toInt_inj, Int32.toInt_add, Int32.toInt_sub, Int32.toInt_mul, Int32.toInt_neg, z_bm, z_bm2, J_ti, J_toInt, z_cn, Int32.reduceToInt]) <;> omega), z_bind_some]
          refine z_neg (by decide) ?_
          rw [z_Rin0 (by ((try simp (disch := omega) only [Int32.lt_iff_toInt_lt, Int32.le_iff_toInt_le, ← Int32.toInt_inj, Int32.toInt_add, Int32.toInt_sub, Int32.toInt_mul, Int32.toInt_neg, z_bm, z_bm2, J_ti, J_toInt, z_cn, Int32.reduceToInt] at *); omega)), z_bind_some]
          exact z_pos rfl (k_sat_mk ⟨rfl, h⟩)
        · rw [z_Rin0 (by ((try simp (disch := omega) only [Int32.lt_iff_toInt_lt, Int32.le_iff_toInt_le, ← Int32.toInt_inj, Int32.toInt_add, Int32.toInt_sub, Int32.toInt_mul, Int32.toInt_neg, z_bm, z_bm2, J_ti, J_toInt, z_cn, Int32.reduceToInt] at *); omega)), z_bind_some]
          exact z_pos rfl (k_sat_mk ⟨rfl, h⟩)
      exact z_ite (fun _ => k_sat_mk hR) (fun _ => z_ite (fun _ => k_sat_mk hR) (fun _ => z_ite (fun _ => k_sat_mk hR) (fun _ => z_neg (by ((try simp (disch := omega) only [Int32.lt_iff_toInt_lt, Int32.le_iff_toInt_le, ← Int32.toInt_inj, Int32.toInt_add, Int32.toInt_sub, Int32.toInt_mul, Int32.toInt_neg, z_bm, z_bm2, J_ti, J_toInt, z_cn, Int32.reduceToInt] at *); omega)) (k_sat_mk hR))))
  · rw [sW, z_bind_some]
    refine z_pos rfl (k_sat_mk ?_)
    unfold f_R_meets
    rw [sR, z_bind_some]
    exact z_pos rfl (k_sat_mk ⟨rfl, h⟩)
theorem z_Jmax (a b : Nat) (ha : a < 2147483648) (hb : b < 2147483648) (u : k_S) : f_J_max (J a) (J b) u = some (J (if a < b then b else a), u) := by
  unfold f_J_max
  by_cases h : a < b
  · rw [if_pos h, if_pos (show J a < J b by (try simp (disch := omega) only [Int32.lt_iff_toInt_lt, Int32.le_iff_toInt_le, ← Int32.toInt_inj, Int32.toInt_add, Int32.toInt_sub, Int32.toInt_mul, Int32.toInt_neg, z_bm, z_bm2, J_ti, J_toInt, z_cn, Int32.reduceToInt]) <;> omega)]
  · rw [if_neg h, if_neg (show ¬ J a < J b by (try simp (disch := omega) only [Int32.lt_iff_toInt_lt, Int32.le_iff_toInt_le, ← Int32.toInt_inj, Int32.toInt_add, Int32.toInt_sub, Int32.toInt_mul, Int32.toInt_neg, z_bm, z_bm2, J_ti, J_toInt, z_cn, Int32.reduceToInt]) <;> omega)]
theorem z_mtwo (a b c : Int32) (u : k_S) (h : zI u) : z_pair (f_W_two a b c) (f_R_two a b c) u zI := by
  obtain ⟨E, hE, -, -, -⟩ := z_env h
  have hE4 := hE.1.1
  refine z_pair_of ?_
  unfold f_W_two
  rcases z_spot hE a with ⟨w, p, s, hw, hp, hs, es, ed, em, sW, sR⟩ | ⟨sW, sR⟩
  · rw [sW, z_bind_some]
    refine z_neg (by decide) ?_
    rcases z_spot hE b with ⟨w2, p2, s2, hw2, hp2, hs2, es2, ed2, em2, sW2, sR2⟩ | ⟨sW2, sR2⟩
    · rw [sW2, z_bind_some]
      refine z_neg (by decide) ?_
      by_cases hr : 1 ≤ c.toInt ∧ c.toInt ≤ 20000
      · obtain ⟨n, rfl, hn, -⟩ := J_of (x := c) (by omega)
        have hf : ∃ f : Nat → Bool, ∀ i, f i = decide (z_pl E u w i = J p ∧ z_pl E u w2 i = J p2) := ⟨_, fun _ => rfl⟩
        obtain ⟨f, hf⟩ := hf
        have step : ∀ i, 1 ≤ i → (z_pl E u w i = J p → z_pl E u w2 i = J p2 → f i = true) ∧ (¬ z_pl E u w i = J p → f i = false) ∧ (¬ z_pl E u w2 i = J p2 → f i = false) := fun i _ => ⟨fun q1 q2 => by rw [hf]; simpa using ⟨q1, q2⟩, fun q => by rw [hf]; simp [q], fun q => by rw [hf]; simp [q]⟩
        refine z_neg (by (try simp (disch := omega) only [Int32.lt_iff_toInt_lt, Int32.le_iff_toInt_le, ← Int32.toInt_inj, Int32.toInt_add, Int32.toInt_sub, Int32.toInt_mul, Int32.toInt_neg, z_bm, z_bm2, J_ti, J_toInt, z_cn, Int32.reduceToInt]) <;> omega) (z_pos (by (try simp (disch := omega) only [Int32.lt_iff_toInt_lt, Int32.le_iff_toInt_le, ← Int32.toInt_inj, Int32.toInt_add, Int32.toInt_sub, Int32.toInt_mul, Int32.toInt_neg, z_bm, z_bm2, J_ti, J_toInt, z_cn, Int32.reduceToInt]) <;> omega) (z_bind (fun r v => z_fr [1702, 1206, 704] [18, 19, 9, 13] u v ∧ z_hit f n r) ?_ (fun r v hv => k_sat_mk ?_)))
        · unfold f_Nights_firstOfBoth
          have hK : ∃ K, (if w < w2 then w2 else w) + 1 = K := ⟨_, rfl⟩
          obtain ⟨K, hK⟩ := hK
          have hK1 : w < K ∧ w2 < K ∧ K ≤ E.1 := by split at hK <;> omega
          rw [ed, ed2, z_Jmax w w2 (by omega) (by omega), z_bind_some]
          refine z_let ?_
          rw [z_Jp, hK]
          refine z_bind _ (z_Wt_0 hE) (fun _ u1 h1 => z_bind _ (z_for 1 (n + 1) (fun i v => z_Wt E K u (i - 1) v ∧ ∀ j, 1 ≤ j → j < i → f j = false) (K := fun y v => z_fr [1702, 1206, 704] [18, 19, 9, 13] u v ∧ ((∃ i, y = .inl (J i) ∧ 1 ≤ i ∧ i ≤ n ∧ f i = true ∧ ∀ j, 1 ≤ j → j < i → f j = false) ∨ (y = .inr () ∧ ∀ j, 1 ≤ j → j ≤ n → f j = false))) (by omega) (by omega) ⟨h1.le hK1.2.2, fun j _ _ => by omega⟩ (fun i v hi0 hi hp' => ?_) (fun v hp' => ?_)) (fun y v hv => ?_))
          · obtain ⟨g1, g3⟩ := hp'
            unfold f_Nights_firstOfBoth_B22
            refine z_neg (by (try simp (disch := omega) only [Int32.lt_iff_toInt_lt, Int32.le_iff_toInt_le, ← Int32.toInt_inj, Int32.toInt_add, Int32.toInt_sub, Int32.toInt_mul, Int32.toInt_neg, z_bm, z_bm2, J_ti, J_toInt, z_cn, Int32.reduceToInt]) <;> omega) (z_bind _ (z_Wt_s hE.1 (by omega) g1) (fun _ v' hv' => ?_))
            rw [show i - 1 + 1 = i by omega] at hv'
            have nxt : f i = false → k_sat (some ((.inl (J i + Int32.ofInt 1) : Int32 ⊕ (Int32 ⊕ Unit)), v')) (fun z u' => (z = .inl (J i + Int32.ofInt 1) ∧ z_Wt E K u (i + 1 - 1) u' ∧ ∀ j, 1 ≤ j → j < i + 1 → f j = false) ∨ ∃ y, z = .inr y ∧ z_fr [1702, 1206, 704] [18, 19, 9, 13] u u' ∧ ((∃ i, y = .inl (J i) ∧ 1 ≤ i ∧ i ≤ n ∧ f i = true ∧ ∀ j, 1 ≤ j → j < i → f j = false) ∨ (y = .inr () ∧ ∀ j, 1 ≤ j → j ≤ n → f j = false))) := fun hfi => k_sat_mk (Or.inl ⟨rfl, by rw [show i + 1 - 1 = i by omega]; exact hv', fun j h1 h2 => by
              by_cases e : j = i
              · rw [e]; exact hfi
              · exact g3 j h1 (by omega)⟩)
            rw [ed, z_Wt_p hv' hK1.1 (by omega), z_bind_some, em]
            refine z_ite (fun q => ?_) (fun q => nxt ((step i hi0).2.1 q))
            rw [ed2, z_Wt_p hv' hK1.2.1 (by omega), z_bind_some, em2]
            exact z_ite (fun q2 => k_sat_mk (Or.inr ⟨_, rfl, hv'.1, Or.inl ⟨i, rfl, hi0, by omega, (step i hi0).1 q q2, g3⟩⟩)) (fun q2 => nxt ((step i hi0).2.2 q2))
          · unfold f_Nights_firstOfBoth_B22
            exact z_pos (by (try simp (disch := omega) only [Int32.lt_iff_toInt_lt, Int32.le_iff_toInt_le, ← Int32.toInt_inj, Int32.toInt_add, Int32.toInt_sub, Int32.toInt_mul, Int32.toInt_neg, z_bm, z_bm2, J_ti, J_toInt, z_cn, Int32.reduceToInt]) <;> omega) (k_sat_mk ⟨_, rfl, hp'.1.1, Or.inr ⟨rfl, fun j h1 h2 => hp'.2 j h1 (by omega)⟩⟩)
          · obtain ⟨g1, ⟨i, rfl, g3, g4, g5, g6⟩ | ⟨rfl, g2⟩⟩ := hv
            · exact k_sat_mk ⟨g1, Or.inl ⟨i, g3, g4, g5, g6, rfl⟩⟩
            · exact k_sat_mk ⟨g1, Or.inr ⟨g2, rfl⟩⟩
        · obtain ⟨hv, hrr⟩ := hv
          obtain ⟨i2, hE2, m2, q1, q2, q3⟩ := z_Wdone h hE hv
          unfold f_R_two
          rw [sR v q1 q3, z_bind_some]
          refine z_neg (by decide) ?_
          rw [sR2 v q1 q3, z_bind_some]
          refine z_neg (by decide) ?_
          rw [z_Rin1 (by (try simp (disch := omega) only [Int32.lt_iff_toInt_lt, Int32.le_iff_toInt_le, ← Int32.toInt_inj, Int32.toInt_add, Int32.toInt_sub, Int32.toInt_mul, Int32.toInt_neg, z_bm, z_bm2, J_ti, J_toInt, z_cn, Int32.reduceToInt]) <;> omega) (by (try simp (disch := omega) only [Int32.lt_iff_toInt_lt, Int32.le_iff_toInt_le, ← Int32.toInt_inj, Int32.toInt_add, Int32.toInt_sub, Int32.toInt_mul, Int32.toInt_neg, z_bm, z_bm2, J_ti, J_toInt, z_cn, Int32.reduceToInt]) <;> omega), z_bind_some]
          refine z_neg (by decide) (z_bind _ (z_Rt_0 E v) (fun _ u3 h3 => z_bind _ (z_for2 1 (n + 1) (-2) (fun i y w' => (∃ i', z_Rt E v i' w') ∧ (y = -2 → z_Rt E v (i - 1) w') ∧ z_hit f (i - 1) y) (K := fun y w' => (∃ i', z_Rt E v i' w') ∧ z_hit f n y) (by omega) (by omega) ⟨⟨0, h3⟩, fun _ => h3, Or.inr ⟨fun j _ _ => by omega, rfl⟩⟩ (fun i y w' hi0 hi hp' => ?_) (fun y w' hp' => ?_)) (fun y w' hw' => ?_)))
          · obtain ⟨g1, g2, g3⟩ := hp'
            unfold f_R_two_B40
            dsimp only
            refine z_neg (by (try simp (disch := omega) only [Int32.lt_iff_toInt_lt, Int32.le_iff_toInt_le, ← Int32.toInt_inj, Int32.toInt_add, Int32.toInt_sub, Int32.toInt_mul, Int32.toInt_neg, z_bm, z_bm2, J_ti, J_toInt, z_cn, Int32.reduceToInt]) <;> omega) ?_
            rcases g3 with ⟨j, b1, b2, b3, b4, rfl⟩ | ⟨b1, rfl⟩
            · exact z_pos (by (try simp (disch := omega) only [Int32.lt_iff_toInt_lt, Int32.le_iff_toInt_le, ← Int32.toInt_inj, Int32.toInt_add, Int32.toInt_sub, Int32.toInt_mul, Int32.toInt_neg, z_bm, z_bm2, J_ti, J_toInt, z_cn, Int32.reduceToInt]) <;> omega) (k_sat_mk (Or.inr ⟨_, rfl, g1, Or.inl ⟨j, b1, by omega, b3, b4, rfl⟩⟩))
            · refine z_neg (by decide) (z_bind _ (z_Rt_s hE2.2.1 hE2.2.2.2.1 (g2 rfl)) (fun _ w3 hw3 => ?_))
              rw [show i - 1 + 1 = i by omega] at hw3
              rw [ed, em, ed2, em2]
              refine z_ck (by (try simp (disch := omega) only [Int32.lt_iff_toInt_lt, Int32.le_iff_toInt_le, ← Int32.toInt_inj, Int32.toInt_add, Int32.toInt_sub, Int32.toInt_mul, Int32.toInt_neg, z_bm, z_bm2, J_ti, J_toInt, z_cn, Int32.reduceToInt]) <;> omega) (by (try simp (disch := omega) only [Int32.lt_iff_toInt_lt, Int32.le_iff_toInt_le, ← Int32.toInt_inj, Int32.toInt_add, Int32.toInt_sub, Int32.toInt_mul, Int32.toInt_neg, z_bm, z_bm2, J_ti, J_toInt, z_cn, Int32.reduceToInt]) <;> omega) ?_
              rw [J_toNat (by omega), (z_Rt_p hw3 w).1, z_pl_m m2]
              have nf : f i = false → z_hit f (i + 1 - 1) (-2) := fun hfi => Or.inr ⟨fun j h1 h2 => by
                by_cases e : j = i
                · rw [e]; exact hfi
                · exact b1 j h1 (by omega), rfl⟩
              refine z_ite (fun q => z_ck (by (try simp (disch := omega) only [Int32.lt_iff_toInt_lt, Int32.le_iff_toInt_le, ← Int32.toInt_inj, Int32.toInt_add, Int32.toInt_sub, Int32.toInt_mul, Int32.toInt_neg, z_bm, z_bm2, J_ti, J_toInt, z_cn, Int32.reduceToInt]) <;> omega) (by (try simp (disch := omega) only [Int32.lt_iff_toInt_lt, Int32.le_iff_toInt_le, ← Int32.toInt_inj, Int32.toInt_add, Int32.toInt_sub, Int32.toInt_mul, Int32.toInt_neg, z_bm, z_bm2, J_ti, J_toInt, z_cn, Int32.reduceToInt]) <;> omega) ?_) (fun q => k_sat_mk (Or.inl ⟨_, rfl, ⟨i, hw3⟩, fun _ => by rw [show i + 1 - 1 = i by omega]; exact hw3, nf ((step i hi0).2.1 q)⟩))
              rw [J_toNat (by omega), (z_Rt_p hw3 w2).1, z_pl_m m2]
              refine z_ite (fun q' => k_sat_mk (Or.inl ⟨_, rfl, ⟨i, hw3⟩, fun q4 => absurd q4 (by (try simp (disch := omega) only [Int32.lt_iff_toInt_lt, Int32.le_iff_toInt_le, ← Int32.toInt_inj, Int32.toInt_add, Int32.toInt_sub, Int32.toInt_mul, Int32.toInt_neg, z_bm, z_bm2, J_ti, J_toInt, z_cn, Int32.reduceToInt]) <;> omega), Or.inl ⟨i, hi0, by omega, (step i hi0).1 q q', fun j h1 h2 => b1 j h1 (by omega), rfl⟩⟩)) (fun q' => k_sat_mk (Or.inl ⟨_, rfl, ⟨i, hw3⟩, fun _ => by rw [show i + 1 - 1 = i by omega]; exact hw3, nf ((step i hi0).2.2 q')⟩))
          · unfold f_R_two_B40
            exact z_pos (by (try simp (disch := omega) only [Int32.lt_iff_toInt_lt, Int32.le_iff_toInt_le, ← Int32.toInt_inj, Int32.toInt_add, Int32.toInt_sub, Int32.toInt_mul, Int32.toInt_neg, z_bm, z_bm2, J_ti, J_toInt, z_cn, Int32.reduceToInt]) <;> omega) (k_sat_mk ⟨_, rfl, hp'.1, hp'.2.2⟩)
          · obtain ⟨⟨i', g1⟩, g2⟩ := hw'
            unfold f_R_two_J97
            exact z_bind _ (z_Rt_b hE4 g1) (fun _ v2 hv2 => k_sat_mk ⟨z_hit_u hrr g2, zI_0 i2 (hv2.mono rfl rfl)⟩)
      · have hR : k_sat (f_R_two a b c u) (fun r' v => (-1 : Int32) = r' ∧ zI v) := by
          unfold f_R_two
          rw [sR u rfl rfl, z_bind_some]
          refine z_neg (by decide) ?_
          rw [sR2 u rfl rfl, z_bind_some]
          refine z_neg (by decide) ?_
          rw [z_Rin0 (by ((try simp (disch := omega) only [Int32.lt_iff_toInt_lt, Int32.le_iff_toInt_le, ← Int32.toInt_inj, Int32.toInt_add, Int32.toInt_sub, Int32.toInt_mul, Int32.toInt_neg, z_bm, z_bm2, J_ti, J_toInt, z_cn, Int32.reduceToInt] at *); omega)), z_bind_some]
          exact z_pos rfl (k_sat_mk ⟨rfl, h⟩)
        exact z_ite (fun _ => k_sat_mk hR) (fun _ => z_neg (by ((try simp (disch := omega) only [Int32.lt_iff_toInt_lt, Int32.le_iff_toInt_le, ← Int32.toInt_inj, Int32.toInt_add, Int32.toInt_sub, Int32.toInt_mul, Int32.toInt_neg, z_bm, z_bm2, J_ti, J_toInt, z_cn, Int32.reduceToInt] at *); omega)) (k_sat_mk hR))
    · rw [sW2, z_bind_some]
      refine z_pos rfl (k_sat_mk ?_)
      unfold f_R_two
      rw [sR u rfl rfl, z_bind_some]
      refine z_neg (by decide) ?_
      rw [sR2, z_bind_some]
      exact z_pos rfl (k_sat_mk ⟨rfl, h⟩)
  · rw [sW, z_bind_some]
    refine z_pos rfl (k_sat_mk ?_)
    unfold f_R_two
    rw [sR, z_bind_some]
    exact z_pos rfl (k_sat_mk ⟨rfl, h⟩)
