/-! how many bits -/
def z_bc (x : Int32) : Int32 := ((f_J_bitCount x z_u0).map (fun r => r.1)).getD 0
theorem z_bcW (x : Int32) (u : k_S) : f_J_bitCount x u = some (z_bc x, u) := rfl
def z_bd : Nat → Int32 → Bool
  | 0, x => x == 0
  | m + 1, x => x == 0 || z_bd m (x &&& (x - 1))
def z_bo : Nat → Int32 → Int32 → Int32
  | 0, c, _ => c
  | m + 1, c, x => if x = 0 then c else z_bo m (c + Int32.ofInt 1) (x &&& (x - 1))
theorem z_bo_itr : ∀ (m N : Nat) (c x : Int32) (u : k_S), z_bd m x = true → m < N → k_itr (fun (x : Int32 × Int32) u => f_R_bitsOf_B4 x.1 x.2 u) N (c, x) u = some (z_bo m c x, u)
  | 0, N + 1, c, x, u, h, _ => by
    have : x = 0 := eq_of_beq h
    rw [k_itr]
    unfold f_R_bitsOf_B4
    rw [if_pos this]
    rfl
  | m + 1, N + 1, c, x, u, h, hN => by
    rw [k_itr]
    unfold f_R_bitsOf_B4
    by_cases q : x = 0
    · rw [if_pos q, z_bo, if_pos q]
    · rw [if_neg q, z_bo, if_neg q]
      have h' : z_bd m (x &&& (x - 1)) = true := by
        rw [z_bd] at h
        rcases Bool.or_eq_true _ _ |>.mp h with h | h
        · exact absurd (eq_of_beq h) q
        · exact h
      exact z_bo_itr m N _ _ u h' (by omega)
theorem z_bits_all : ((List.range 1024).all fun n => z_bd 10 (J n) && z_bo 10 0 (J n) == z_bc (J n) && (z_bc (J n)).toInt.toNat ≤ 10 && z_bc (J n) == J (z_bc (J n)).toInt.toNat) = true := by decide +kernel
theorem z_bcR {n : Nat} (h : n < 1024) (u : k_S) : f_R_bitsOf (J n) u = some (z_bc (J n), u) := by
  have := List.all_eq_true.mp z_bits_all n (List.mem_range.mpr h)
  simp only [Bool.and_eq_true] at this
  unfold f_R_bitsOf
  rw [z_bo_itr 10 k_FU 0 (J n) u this.1.1.1 (by unfold k_FU; omega), z_bind_some, eq_of_beq this.1.1.2]
/-! fits, sure -/
theorem z_fits (a : Int32) (u : k_S) (h : zI u) : z_pair (f_W_fits a) (f_R_fits a) u zI := by
  obtain ⟨E, hE, -, eS, -⟩ := z_env h
  obtain ⟨⟨t, ht, t1, t2⟩, -⟩ := h.2.2.1
  obtain ⟨nr, A, B, f, hnr, r1, r2, r3, r4, hf, hsu, hso⟩ := z_recs h.2.2.2.2.2.1
  have hE4 := hE.1.1
  have e1 := hE.1.2.1
  have e2 := hE.2.1.2.1
  refine z_pair_of ?_
  unfold f_W_fits
  by_cases h0 : E.1 = 0
  · have hw := z_WhasP00 (a := 0) (b := a) e1 hE4 (Or.inr (by rw [h0]; decide))
    rw [hw, z_bind_some]
    refine z_pos rfl (k_sat_mk ?_)
    unfold f_R_fits
    exact z_pos (by rw [e2, h0]; exact Int32.le_refl _) (k_sat_mk ⟨rfl, h⟩)
  · obtain ⟨p0, s, -, hs2, hs, -, es⟩ := hE.2.2.1.2 0 (by omega)
    have e5 : u.2.1 5 0 = J s := by rw [hE.1.2.2.2.1]; exact es
    have e45 : u.2.1 45 0 = J s := ((hE.2.1.2.2.1 0 (by omega)).1).trans es
    rcases J_or a s with ⟨p, hp, rfl⟩ | ha
    · have hw := z_WhasP (w := 0) (p := p) e1 hE4 (by omega) e5 hs hp
      rw [show f_Wheels_hasPlace 0 (J p) u = some (1, u) from hw, z_bind_some]
      refine z_neg (by decide) (z_bind _ (z_fitW ⟨hE.1, hE.2.2.1, hE.2.2.2.2⟩ (by omega) ht t1 hnr r1 r3 hf hsu hso (by omega)) (fun r v hv => k_sat_mk ?_))
      obtain ⟨i2, hE2, m2, q1, q2, q3⟩ := z_Wdone h hE hv.2
      unfold f_R_fits
      refine z_neg (by rw [q1, e2]; (try simp (disch := omega) only [Int32.lt_iff_toInt_lt, Int32.le_iff_toInt_le, ← Int32.toInt_inj, Int32.toInt_add, Int32.toInt_sub, Int32.toInt_mul, Int32.toInt_neg, z_bm, z_bm2, J_ti, J_toInt, z_cn, Int32.reduceToInt]) <;> omega) (z_ck (by decide) (by decide) ?_)
      rw [show (0 : Int32).toNatClampNeg = 0 from rfl, q3, e45, z_Jm' (by omega), z_Rin1 (by (try simp (disch := omega) only [Int32.lt_iff_toInt_lt, Int32.le_iff_toInt_le, ← Int32.toInt_inj, Int32.toInt_add, Int32.toInt_sub, Int32.toInt_mul, Int32.toInt_neg, z_bm, z_bm2, J_ti, J_toInt, z_cn, Int32.reduceToInt]) <;> omega) (by (try simp (disch := omega) only [Int32.lt_iff_toInt_lt, Int32.le_iff_toInt_le, ← Int32.toInt_inj, Int32.toInt_add, Int32.toInt_sub, Int32.toInt_mul, Int32.toInt_neg, z_bm, z_bm2, J_ti, J_toInt, z_cn, Int32.reduceToInt]) <;> omega), z_bind_some]
      refine z_neg (by decide) (z_bind _ (z_fitR hE2.2.1 hE2.2.2.2.1 (by omega) ht ((hv.2.1 4209 rfl).trans t2) hnr ((hv.2.1 4235 rfl).trans r2) (z_RC_f hv.2 rfl rfl r4) es hs hp i2.2.2.2.2.2.2.2.2.2.2) (fun r' v' hv' => k_sat_mk ⟨?_, zI_0 i2 (hv'.2.mono rfl rfl)⟩))
      rw [hv.1, hv'.1, z_gd_m m2]
    · have hw := z_WhasP0 (w := 0) (b := a) e1 hE4 (by omega) e5 hs ha
      rw [show f_Wheels_hasPlace 0 a u = some (0, u) from hw, z_bind_some]
      refine z_pos rfl (k_sat_mk ?_)
      unfold f_R_fits
      refine z_neg (by rw [e2]; (try simp (disch := omega) only [Int32.lt_iff_toInt_lt, Int32.le_iff_toInt_le, ← Int32.toInt_inj, Int32.toInt_add, Int32.toInt_sub, Int32.toInt_mul, Int32.toInt_neg, z_bm, z_bm2, J_ti, J_toInt, z_cn, Int32.reduceToInt]) <;> omega) (z_ck (by decide) (by decide) ?_)
      rw [show (0 : Int32).toNatClampNeg = 0 from rfl, e45, z_Jm' (by omega), z_Rin0 (by ((try simp (disch := omega) only [Int32.lt_iff_toInt_lt, Int32.le_iff_toInt_le, ← Int32.toInt_inj, Int32.toInt_add, Int32.toInt_sub, Int32.toInt_mul, Int32.toInt_neg, z_bm, z_bm2, J_ti, J_toInt, z_cn, Int32.reduceToInt] at *); omega)), z_bind_some]
      exact z_pos rfl (k_sat_mk ⟨rfl, h⟩)
def z_c0 (g : Nat → Bool) : Nat → Int32
  | 0 => 0
  | n + 1 => if g n then z_c0 g n + Int32.ofInt 1 else z_c0 g n
def z_fi (g : Nat → Bool) : Nat → Int32
  | 0 => -2
  | n + 1 => if g n then (if 0 ≤ z_fi g n then z_fi g n else J n) else z_fi g n
theorem z_fi_no {g : Nat → Bool} : ∀ n, (∀ i, i < n → g i = false) → z_fi g n = -2
  | 0, _ => rfl
  | n + 1, h => by
    rw [z_fi, h n (by omega), if_neg (by decide), z_fi_no n (fun i hi => h i (by omega))]
theorem z_fi_at {g : Nat → Bool} {i : Nat} (hi : i < 2147483648) (h : ∀ j, j < i → g j = false) (hg : g i = true) : ∀ k, z_fi g (i + 1 + k) = J i
  | 0 => by
    rw [Nat.add_zero, z_fi, if_pos hg, z_fi_no i h, if_neg (by decide)]
  | k + 1 => by
    rw [show i + 1 + (k + 1) = (i + 1 + k) + 1 by omega, z_fi, z_fi_at hi h hg k]
    have : (0 : Int32) ≤ J i := by (try simp (disch := omega) only [Int32.lt_iff_toInt_lt, Int32.le_iff_toInt_le, ← Int32.toInt_inj, Int32.toInt_add, Int32.toInt_sub, Int32.toInt_mul, Int32.toInt_neg, z_bm, z_bm2, J_ti, J_toInt, z_cn, Int32.reduceToInt]) <;> omega
    rw [if_pos this]
    by_cases q : g (i + 1 + k) = true
    · rw [if_pos q]
    · rw [if_neg q]
/-- sure of a place: one letter alone fits -/
def z_su (E : z_E) (u : k_S) (t nr : Nat) (A B : Nat → Nat) (p : Nat) : Bool := decide (z_bc (z_bits (z_gd E u t nr A B p) 4) = 1)
theorem z_bcb (g : Nat → Bool) (u : k_S) : f_J_bitCount (z_bits g 4) u = some (z_bc (z_bits g 4), u) ∧ f_R_bitsOf (z_bits g 4) u = some (z_bc (z_bits g 4), u) := by
  obtain ⟨m, hm, e⟩ := z_bits_J g
  rw [e]
  exact ⟨z_bcW _ u, z_bcR (by omega) u⟩
theorem z_sure (a : Int32) (u : k_S) (h : zI u) : z_pair (f_W_sure a) (f_R_sure a) u zI := by
  obtain ⟨E, hE, -, eS, -⟩ := z_env h
  obtain ⟨⟨t, ht, t1, t2⟩, -⟩ := h.2.2.1
  obtain ⟨nr, A, B, f, hnr, r1, r2, r3, r4, hf, hsu, hso⟩ := z_recs h.2.2.2.2.2.1
  have hE4 := hE.1.1
  have e1 := hE.1.2.1
  have e2 := hE.2.1.2.1
  refine z_pair_of ?_
  by_cases ha : a.toInt = 0 ∨ a.toInt = 1
  · have ha' : a = 0 ∨ a = 1 := by
      rcases ha with ha | ha
      · exact Or.inl (Int32.toInt.inj ha)
      · exact Or.inr (Int32.toInt.inj ha)
    unfold f_W_sure
    refine z_neg (by ((try simp (disch := omega) only [Int32.lt_iff_toInt_lt, Int32.le_iff_toInt_le, ← Int32.toInt_inj, Int32.toInt_add, Int32.toInt_sub, Int32.toInt_mul, Int32.toInt_neg, z_bm, z_bm2, J_ti, J_toInt, z_cn, Int32.reduceToInt] at *); omega)) (z_pos (by ((try simp (disch := omega) only [Int32.lt_iff_toInt_lt, Int32.le_iff_toInt_le, ← Int32.toInt_inj, Int32.toInt_add, Int32.toInt_sub, Int32.toInt_mul, Int32.toInt_neg, z_bm, z_bm2, J_ti, J_toInt, z_cn, Int32.reduceToInt] at *); omega)) ?_)
    by_cases h0 : E.1 = 0
    · refine z_pos (by rw [e1, h0]; rfl) (k_sat_mk ?_)
      unfold f_R_sure
      rw [z_Rin1 (by ((try simp (disch := omega) only [Int32.lt_iff_toInt_lt, Int32.le_iff_toInt_le, ← Int32.toInt_inj, Int32.toInt_add, Int32.toInt_sub, Int32.toInt_mul, Int32.toInt_neg, z_bm, z_bm2, J_ti, J_toInt, z_cn, Int32.reduceToInt] at *); omega)) (by ((try simp (disch := omega) only [Int32.lt_iff_toInt_lt, Int32.le_iff_toInt_le, ← Int32.toInt_inj, Int32.toInt_add, Int32.toInt_sub, Int32.toInt_mul, Int32.toInt_neg, z_bm, z_bm2, J_ti, J_toInt, z_cn, Int32.reduceToInt] at *); omega)), z_bind_some]
      exact z_neg (by decide) (z_pos (by rw [e2, h0]; rfl) (k_sat_mk ⟨rfl, h⟩))
    · refine z_neg (by rw [e1]; (try simp (disch := omega) only [Int32.lt_iff_toInt_lt, Int32.le_iff_toInt_le, ← Int32.toInt_inj, Int32.toInt_add, Int32.toInt_sub, Int32.toInt_mul, Int32.toInt_neg, z_bm, z_bm2, J_ti, J_toInt, z_cn, Int32.reduceToInt]) <;> omega) ?_
      obtain ⟨p0, s, -, hs2, hs, -, es⟩ := hE.2.2.1.2 0 (by omega)
      have e5 : u.2.1 5 0 = J s := by rw [hE.1.2.2.2.1]; exact es
      have e45 : u.2.1 45 0 = J s := ((hE.2.1.2.2.1 0 (by omega)).1).trans es
      refine z_bind (fun y v => z_fr [1702, 1206, 704] [18, 19, 9, 13] u v ∧ ((y = .inr (z_c0 (z_su E u t nr A B) s) ∧ (a = 1 → ∀ i, i < s → z_su E u t nr A B i = false)) ∨ ∃ i, i < s ∧ a = 1 ∧ y = .inl (J i) ∧ z_su E u t nr A B i = true ∧ ∀ j, j < i → z_su E u t nr A B j = false)) (z_for2 0 s 0 (fun i x v => z_fr [1702, 1206, 704] [18, 19, 9, 13] u v ∧ x = z_c0 (z_su E u t nr A B) i ∧ (a = 1 → ∀ j, j < i → z_su E u t nr A B j = false)) (by omega) (Nat.zero_le s) ⟨z_fr.rf, rfl, fun _ j hj => by omega⟩ (fun i x v _ hi hp => ?_) (fun x v hp => ?_)) (fun y v hv => ?_)
      · obtain ⟨g1, rfl, g3⟩ := hp
        obtain ⟨i2, hE2, m2, q1, q2, q3⟩ := z_Wdone h hE g1
        unfold f_W_sure_B28
        dsimp only
        rw [show f_Wheels_sizeOf 0 v = some (J s, v) by rw [show (0 : Int32) = J 0 from rfl, z_Wheels_sizeOf (by omega), g1.2.1 5 rfl, e5], z_bind_some]
        refine z_neg (by (try simp (disch := omega) only [Int32.lt_iff_toInt_lt, Int32.le_iff_toInt_le, ← Int32.toInt_inj, Int32.toInt_add, Int32.toInt_sub, Int32.toInt_mul, Int32.toInt_neg, z_bm, z_bm2, J_ti, J_toInt, z_cn, Int32.reduceToInt]) <;> omega) (z_neg (by (try simp (disch := omega) only [Int32.lt_iff_toInt_lt, Int32.le_iff_toInt_le, ← Int32.toInt_inj, Int32.toInt_add, Int32.toInt_sub, Int32.toInt_mul, Int32.toInt_neg, z_bm, z_bm2, J_ti, J_toInt, z_cn, Int32.reduceToInt]) <;> omega) (z_bind _ (z_fitW (f := f) ⟨hE2.1, hE2.2.2.1, hE2.2.2.2.2⟩ (by omega) ht ((g1.1 1402 rfl).trans t1) hnr ((g1.1 2003 rfl).trans r1) (z_RC_f g1 rfl rfl r3) (by rw [g1.2.1 23 rfl]; exact hf) hsu hso (by omega)) (fun r w hw => ?_)))
        rw [hw.1, (z_bcb _ w).1, z_bind_some, z_gd_m m2]
        have g4 := g1.tr hw.2
        have hst : z_c0 (z_su E u t nr A B) (i + 1) = if z_su E u t nr A B i = true then z_c0 (z_su E u t nr A B) i + Int32.ofInt 1 else z_c0 (z_su E u t nr A B) i := rfl
        refine z_ite (fun q => ?_) (fun q => ?_)
        · have qs : z_su E u t nr A B i = true := decide_eq_true q
          refine z_ite (fun qa => k_sat_mk (Or.inr ⟨_, rfl, g4, Or.inr ⟨i, hi, qa, rfl, qs, g3 qa⟩⟩)) (fun qa => k_sat_mk (Or.inl ⟨_, rfl, g4, ?_, fun e => absurd e qa⟩))
          rw [hst, if_pos qs]
        · have qs : z_su E u t nr A B i = false := decide_eq_false q
          refine k_sat_mk (Or.inl ⟨_, rfl, g4, ?_, fun e j hj => ?_⟩)
          · rw [hst, if_neg (by rw [qs]; decide)]
          · by_cases ej : j = i
            · rw [ej]; exact qs
            · exact g3 e j (by omega)
      · obtain ⟨g1, rfl, g3⟩ := hp
        unfold f_W_sure_B28
        dsimp only
        rw [show f_Wheels_sizeOf 0 v = some (J s, v) by rw [show (0 : Int32) = J 0 from rfl, z_Wheels_sizeOf (by omega), g1.2.1 5 rfl, e5], z_bind_some]
        exact z_pos (Int32.le_refl _) (k_sat_mk ⟨_, rfl, g1, Or.inl ⟨rfl, g3⟩⟩)
      · obtain ⟨g1, hy⟩ := hv
        obtain ⟨i2, hE2, m2, q1, q2, q3⟩ := z_Wdone h hE g1
        have hR : k_sat (f_R_sure a v) (fun r v' => r = (if a = 0 then z_c0 (z_su E u t nr A B) s else z_fi (z_su E u t nr A B) s) ∧ zI v') := by
          unfold f_R_sure
          rw [z_Rin1 (by ((try simp (disch := omega) only [Int32.lt_iff_toInt_lt, Int32.le_iff_toInt_le, ← Int32.toInt_inj, Int32.toInt_add, Int32.toInt_sub, Int32.toInt_mul, Int32.toInt_neg, z_bm, z_bm2, J_ti, J_toInt, z_cn, Int32.reduceToInt] at *); omega)) (by ((try simp (disch := omega) only [Int32.lt_iff_toInt_lt, Int32.le_iff_toInt_le, ← Int32.toInt_inj, Int32.toInt_add, Int32.toInt_sub, Int32.toInt_mul, Int32.toInt_neg, z_bm, z_bm2, J_ti, J_toInt, z_cn, Int32.reduceToInt] at *); omega)), z_bind_some]
          refine z_neg (by decide) (z_neg (by rw [q1, e2]; (try simp (disch := omega) only [Int32.lt_iff_toInt_lt, Int32.le_iff_toInt_le, ← Int32.toInt_inj, Int32.toInt_add, Int32.toInt_sub, Int32.toInt_mul, Int32.toInt_neg, z_bm, z_bm2, J_ti, J_toInt, z_cn, Int32.reduceToInt]) <;> omega) (z_bind (fun y v' => z_fr [4230] [54, 55, 60, 61, 62] v v' ∧ y = (z_c0 (z_su E u t nr A B) s, z_fi (z_su E u t nr A B) s)) (z_for3 0 s 0 (-2) (fun i x y v' => z_fr [4230] [54, 55, 60, 61, 62] v v' ∧ x = z_c0 (z_su E u t nr A B) i ∧ y = z_fi (z_su E u t nr A B) i) (by omega) (Nat.zero_le s) ⟨z_fr.rf, rfl, rfl⟩ (fun i x y v' _ hi hp => ?_) (fun x y v' hp => ?_)) (fun y v' hv' => ?_)))
          · obtain ⟨k1, rfl, rfl⟩ := hp
            have i3 : zI v' := zI_0 i2 (k1.mono rfl rfl)
            have m3 : z_moR v' = z_moR u := by rw [← m2]; unfold z_moR; rw [k1.1 4209 rfl, k1.2.1 46 rfl, k1.2.1 47 rfl]
            have hE3 : z_en E v' := z_en_f k1 (by decide) (by decide) (by decide) hE2
            have g5 := g1.1
            unfold f_R_sure_B29
            dsimp only
            rw [show (0 : Int32).toNatClampNeg = 0 from rfl, k1.2.1 45 rfl, q3, e45]
            refine z_ck (by decide) (by decide) (z_neg (by (try simp (disch := omega) only [Int32.lt_iff_toInt_lt, Int32.le_iff_toInt_le, ← Int32.toInt_inj, Int32.toInt_add, Int32.toInt_sub, Int32.toInt_mul, Int32.toInt_neg, z_bm, z_bm2, J_ti, J_toInt, z_cn, Int32.reduceToInt]) <;> omega) (z_bind _ (z_fitR hE3.2.1 hE3.2.2.2.1 (by omega) ht ((k1.1 4209 rfl).trans ((g1.1 4209 rfl).trans t2)) hnr ((k1.1 4235 rfl).trans ((g1.1 4235 rfl).trans r2)) (z_RC_f k1 rfl rfl (z_RC_f g1 rfl rfl r4)) es hs hi i3.2.2.2.2.2.2.2.2.2.2) (fun r w hw => ?_)))
            rw [hw.1, (z_bcb _ w).2, z_bind_some, z_gd_m m3]
            have k4 := k1.tr hw.2
            have hst : z_c0 (z_su E u t nr A B) (i + 1) = if z_su E u t nr A B i = true then z_c0 (z_su E u t nr A B) i + Int32.ofInt 1 else z_c0 (z_su E u t nr A B) i := rfl
            have hsf : z_fi (z_su E u t nr A B) (i + 1) = if z_su E u t nr A B i = true then (if 0 ≤ z_fi (z_su E u t nr A B) i then z_fi (z_su E u t nr A B) i else J i) else z_fi (z_su E u t nr A B) i := rfl
            refine z_ite (fun q => ?_) (fun q => ?_)
            · have qs : z_su E u t nr A B i = true := decide_eq_true q
              refine z_ite (fun qa => k_sat_mk (Or.inl ⟨_, _, rfl, k4, ?_, ?_⟩)) (fun qa => k_sat_mk (Or.inl ⟨_, _, rfl, k4, ?_, ?_⟩))
              · rw [hst, if_pos qs]
              · rw [hsf, if_pos qs, if_pos qa]
              · rw [hst, if_pos qs]
              · rw [hsf, if_pos qs, if_neg qa]
            · have qs : ¬ z_su E u t nr A B i = true := fun c => q (of_decide_eq_true c)
              refine k_sat_mk (Or.inl ⟨_, _, rfl, k4, ?_, ?_⟩)
              · rw [hst, if_neg qs]
              · rw [hsf, if_neg qs]
          · obtain ⟨k1, rfl, rfl⟩ := hp
            unfold f_R_sure_B29
            dsimp only
            rw [show (0 : Int32).toNatClampNeg = 0 from rfl, k1.2.1 45 rfl, q3, e45]
            exact z_ck (by decide) (by decide) (z_pos (Int32.le_refl _) (k_sat_mk ⟨_, rfl, k1, rfl⟩))
          · obtain ⟨k1, rfl⟩ := hv'
            refine z_ite (fun q => k_sat_mk ⟨by rw [if_pos q], zI_0 i2 (k1.mono rfl rfl)⟩) (fun q => k_sat_mk ⟨by rw [if_neg q], zI_0 i2 (k1.mono rfl rfl)⟩)
        rcases hy with ⟨rfl, hy⟩ | ⟨i, hi, rfl, rfl, hs1, hs3⟩
        · simp only [k_cs]
          unfold f_W_sure_J77
          refine z_ite (fun q => k_sat_mk (z_mono hR (fun r v' hv' => ⟨?_, hv'.2⟩))) (fun q => k_sat_mk (z_mono hR (fun r v' hv' => ⟨?_, hv'.2⟩)))
          · rw [hv'.1, if_neg (by rw [q]; decide), z_fi_no s (hy q)]
          · rw [hv'.1, if_pos (by rcases ha' with e | e; exact e; exact absurd e q)]
        · simp only [k_cs]
          refine k_sat_mk (z_mono hR (fun r v' hv' => ⟨?_, hv'.2⟩))
          have := z_fi_at (g := z_su E u t nr A B) (by omega) hs3 hs1 (s - (i + 1))
          rw [show i + 1 + (s - (i + 1)) = s by omega] at this
          rw [hv'.1, if_neg (by decide), this]
  · have hR : k_sat (f_R_sure a u) (fun r' v => (-1 : Int32) = r' ∧ zI v) := by
      unfold f_R_sure
      rw [z_Rin0 (by ((try simp (disch := omega) only [Int32.lt_iff_toInt_lt, Int32.le_iff_toInt_le, ← Int32.toInt_inj, Int32.toInt_add, Int32.toInt_sub, Int32.toInt_mul, Int32.toInt_neg, z_bm, z_bm2, J_ti, J_toInt, z_cn, Int32.reduceToInt] at *); omega)), z_bind_some]
      exact z_pos rfl (k_sat_mk ⟨rfl, h⟩)
    unfold f_W_sure
    exact z_ite (fun _ => k_sat_mk hR) (fun q => z_neg (by ((try simp (disch := omega) only [Int32.lt_iff_toInt_lt, Int32.le_iff_toInt_le, ← Int32.toInt_inj, Int32.toInt_add, Int32.toInt_sub, Int32.toInt_mul, Int32.toInt_neg, z_bm, z_bm2, J_ti, J_toInt, z_cn, Int32.reduceToInt] at *); omega)) (k_sat_mk hR))
