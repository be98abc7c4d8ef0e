/-! SHELVES: keep, row, put, element -/
theorem z_low_0 (k : Nat) : z_low k 0 = 0 := by
  unfold z_low
  split
  · rfl
  split
  · rfl
  split
  · rfl
  split
  · rfl
  · rfl
theorem z_low_i (k : Nat) (x : Int64) : z_low k (z_low k x) = z_low k x := by
  unfold z_low
  by_cases h0 : k = 0
  · simp only [h0, if_true]
    simp
  by_cases h1 : k = 1
  · simp only [h1, if_true]
    simp
  by_cases h2 : k = 2
  · simp only [h2, if_true]
    simp
  by_cases h3 : k = 3
  · simp only [h3, if_true]
    simp
  rw [if_neg h0, if_neg h1, if_neg h2, if_neg h3, if_neg h0, if_neg h1, if_neg h2, if_neg h3]
  by_cases h4 : lg_cmp x 0 = 0
  · rw [if_pos h4]; rfl
  · rw [if_neg h4]; rfl
theorem z_Bhas {b n : Nat} {u : k_S} (e : u.1 3502 = J n) (hn : n ≤ 50) (h : b < n) : f_Bodies_has (J b) u = some (1, u) := by
  unfold f_Bodies_has
  rw [e, if_neg (by (try simp (disch := omega) only [Int32.lt_iff_toInt_lt, Int32.le_iff_toInt_le, ← Int32.toInt_inj, Int32.toInt_add, Int32.toInt_sub, Int32.toInt_mul, Int32.toInt_neg, z_bm, z_bm2, J_ti, J_toInt, z_cn, Int32.reduceToInt]) <;> omega), if_neg (by (try simp (disch := omega) only [Int32.lt_iff_toInt_lt, Int32.le_iff_toInt_le, ← Int32.toInt_inj, Int32.toInt_add, Int32.toInt_sub, Int32.toInt_mul, Int32.toInt_neg, z_bm, z_bm2, J_ti, J_toInt, z_cn, Int32.reduceToInt]) <;> omega), if_neg (by (try simp (disch := omega) only [Int32.lt_iff_toInt_lt, Int32.le_iff_toInt_le, ← Int32.toInt_inj, Int32.toInt_add, Int32.toInt_sub, Int32.toInt_mul, Int32.toInt_neg, z_bm, z_bm2, J_ti, J_toInt, z_cn, Int32.reduceToInt]) <;> omega)]
theorem z_Bhas0 {a : Int32} {n : Nat} {u : k_S} (e : u.1 3502 = J n) (hn : n ≤ 50) (h : a.toInt < 0 ∨ (n : Int) ≤ a.toInt) : f_Bodies_has a u = some (0, u) := by
  unfold f_Bodies_has
  rw [e]
  by_cases h1 : a < 0
  · rw [if_pos h1]
  · rw [if_neg h1, if_pos (by ((try simp (disch := omega) only [Int32.lt_iff_toInt_lt, Int32.le_iff_toInt_le, ← Int32.toInt_inj, Int32.toInt_add, Int32.toInt_sub, Int32.toInt_mul, Int32.toInt_neg, z_bm, z_bm2, J_ti, J_toInt, z_cn, Int32.reduceToInt] at *); omega))]
theorem z_RisBody {b n : Nat} {u : k_S} (e : u.1 4245 = J n) (hn : n ≤ 50) (h : b < n) : f_R_isBody (J b) u = some (1, u) := by
  unfold f_R_isBody
  rw [e, z_Rin1 (by (try simp (disch := omega) only [Int32.lt_iff_toInt_lt, Int32.le_iff_toInt_le, ← Int32.toInt_inj, Int32.toInt_add, Int32.toInt_sub, Int32.toInt_mul, Int32.toInt_neg, z_bm, z_bm2, J_ti, J_toInt, z_cn, Int32.reduceToInt]) <;> omega) (by rw [J_m1 (by omega)]; (try simp (disch := omega) only [Int32.lt_iff_toInt_lt, Int32.le_iff_toInt_le, ← Int32.toInt_inj, Int32.toInt_add, Int32.toInt_sub, Int32.toInt_mul, Int32.toInt_neg, z_bm, z_bm2, J_ti, J_toInt, z_cn, Int32.reduceToInt]) <;> omega), z_bind_some]
  unfold k_zb
  rw [if_pos (by decide)]
theorem z_RisBody0 {a : Int32} {n : Nat} {u : k_S} (e : u.1 4245 = J n) (hn : n ≤ 50) (h : a.toInt < 0 ∨ (n : Int) ≤ a.toInt) : f_R_isBody a u = some (0, u) := by
  unfold f_R_isBody
  rw [e, z_Rin0 (by rw [J_m1 (by omega)]; ((try simp (disch := omega) only [Int32.lt_iff_toInt_lt, Int32.le_iff_toInt_le, ← Int32.toInt_inj, Int32.toInt_add, Int32.toInt_sub, Int32.toInt_mul, Int32.toInt_neg, z_bm, z_bm2, J_ti, J_toInt, z_cn, Int32.reduceToInt] at *); omega)), z_bind_some]
  unfold k_zb
  rw [if_pos (by decide)]
theorem z_keep (a b : Int32) (u : k_S) (h : zI u) : z_pair (f_W_keep a b) (f_R_keep a b) u zI := by
  obtain ⟨⟨n, hn, b1, b2, hk⟩, -⟩ := h.2.2.2.2.2.2.2.2.1
  have hH := h.2.2.2.2.2.2.2.2.2.1
  refine z_pair_of ?_
  unfold f_W_keep
  rcases J_or a 6 with ⟨s, hs, rfl⟩ | ha
  · rw [z_Shas (by (try simp (disch := omega) only [Int32.lt_iff_toInt_lt, Int32.le_iff_toInt_le, ← Int32.toInt_inj, Int32.toInt_add, Int32.toInt_sub, Int32.toInt_mul, Int32.toInt_neg, z_bm, z_bm2, J_ti, J_toInt, z_cn, Int32.reduceToInt]) <;> omega) (by (try simp (disch := omega) only [Int32.lt_iff_toInt_lt, Int32.le_iff_toInt_le, ← Int32.toInt_inj, Int32.toInt_add, Int32.toInt_sub, Int32.toInt_mul, Int32.toInt_neg, z_bm, z_bm2, J_ti, J_toInt, z_cn, Int32.reduceToInt]) <;> omega), z_bind_some]
    refine z_neg (by decide) ?_
    have done : ∀ (so : Int32) (v : k_S), z_fr [] [39, 40, 41] u v → v.2.1 39 = upd (u.2.1 39) s so → v.2.1 40 = upd (u.2.1 40) s b → (∀ j, (j < 60 * s ∨ 60 * s + 60 ≤ j) → v.2.2 41 j = u.2.2 41 j) → ((so = -1 ∧ b = -1) ∨ (so = 5 ∧ ∃ q : Nat, q < n ∧ b = J q)) → k_sat (f_R_keep_J22 (J s) b v) (fun r' v2 => (1 : Int32) = r' ∧ zI v2) := by
      intro so v v1 v2 v3 v4 hso
      unfold f_R_keep_J22
      refine z_ck (by (try simp (disch := omega) only [Int32.lt_iff_toInt_lt, Int32.le_iff_toInt_le, ← Int32.toInt_inj, Int32.toInt_add, Int32.toInt_sub, Int32.toInt_mul, Int32.toInt_neg, z_bm, z_bm2, J_ti, J_toInt, z_cn, Int32.reduceToInt]) <;> omega) (by (try simp (disch := omega) only [Int32.lt_iff_toInt_lt, Int32.le_iff_toInt_le, ← Int32.toInt_inj, Int32.toInt_add, Int32.toInt_sub, Int32.toInt_mul, Int32.toInt_neg, z_bm, z_bm2, J_ti, J_toInt, z_cn, Int32.reduceToInt]) <;> omega) (z_let (k_sat_mk ⟨rfl, ?_⟩))
      rw [J_toNat (show s < 2147483648 by omega)]
      have f2 : z_fr [] [39, 40, 41, 72] u (k_wA v 72 s b) := (v1.mono rfl rfl).tr (z_wA rfl)
      refine zI_H h (f2.mono rfl rfl) (fun s' hs' => ?_)
      have g39 : (k_wA v 72 s b).2.1 39 = upd (u.2.1 39) s so := v2
      have g40 : (k_wA v 72 s b).2.1 40 = upd (u.2.1 40) s b := v3
      have g72 : (k_wA v 72 s b).2.1 72 = upd (u.2.1 72) s b := by simp [k_wA, v1.2.1 72 rfl]
      have g41 : ∀ j, (j < 60 * s ∨ 60 * s + 60 ≤ j) → (k_wA v 72 s b).2.2 41 j = u.2.2 41 j := v4
      have g73 : (k_wA v 72 s b).2.1 73 = u.2.1 73 := f2.2.1 73 rfl
      have g74 : (k_wA v 72 s b).2.2 74 = u.2.2 74 := f2.2.2 74 rfl
      have g3502 : (k_wA v 72 s b).1 3502 = u.1 3502 := f2.1 3502 rfl
      rw [g39, g40, g72, g73, g3502, z_up, z_up, z_up]
      by_cases e : s' = s
      · subst e
        rw [if_pos rfl, if_pos rfl, if_pos rfl]
        rcases hso with ⟨rfl, rfl⟩ | ⟨rfl, q, hq, rfl⟩
        · exact Or.inl ⟨rfl, rfl⟩
        · exact Or.inr (Or.inl ⟨rfl, q, by rw [b1, J_toInt (by omega)]; omega, rfl, rfl⟩)
      · rw [if_neg e, if_neg e, if_neg e]
        rcases hH s' hs' with q | q | ⟨k, z, q1, q2, q3, q4, q5, q6, q7⟩
        · exact Or.inl q
        · exact Or.inr (Or.inl q)
        · exact Or.inr (Or.inr ⟨k, z, q1, q2, q3, q4, q5, q6, fun j hj => by rw [g74, g41 _ (by omega)]; exact q7 j hj⟩)
    by_cases hb : b = -1
    · refine z_pos hb ?_
      unfold f_W_keep_J31 f_W_keep_J46
      refine z_pos hb (z_bind _ (z_hold (J s) (-1) b u (by (try simp (disch := omega) only [Int32.lt_iff_toInt_lt, Int32.le_iff_toInt_le, ← Int32.toInt_inj, Int32.toInt_add, Int32.toInt_sub, Int32.toInt_mul, Int32.toInt_neg, z_bm, z_bm2, J_ti, J_toInt, z_cn, Int32.reduceToInt]) <;> omega) (by (try simp (disch := omega) only [Int32.lt_iff_toInt_lt, Int32.le_iff_toInt_le, ← Int32.toInt_inj, Int32.toInt_add, Int32.toInt_sub, Int32.toInt_mul, Int32.toInt_neg, z_bm, z_bm2, J_ti, J_toInt, z_cn, Int32.reduceToInt]) <;> omega)) (fun _ v hv => k_sat_mk ?_))
      rw [J_toNat (show s < 2147483648 by omega)] at hv
      unfold f_R_keep
      rw [z_RisShelf (by (try simp (disch := omega) only [Int32.lt_iff_toInt_lt, Int32.le_iff_toInt_le, ← Int32.toInt_inj, Int32.toInt_add, Int32.toInt_sub, Int32.toInt_mul, Int32.toInt_neg, z_bm, z_bm2, J_ti, J_toInt, z_cn, Int32.reduceToInt]) <;> omega) (by (try simp (disch := omega) only [Int32.lt_iff_toInt_lt, Int32.le_iff_toInt_le, ← Int32.toInt_inj, Int32.toInt_add, Int32.toInt_sub, Int32.toInt_mul, Int32.toInt_neg, z_bm, z_bm2, J_ti, J_toInt, z_cn, Int32.reduceToInt]) <;> omega), z_bind_some]
      exact z_neg (by decide) (z_pos hb (done (-1) v hv.1 hv.2.1 hv.2.2.1 hv.2.2.2.2.2 (Or.inl ⟨rfl, hb⟩)))
    · refine z_neg hb ?_
      rcases J_or b n with ⟨q, hq, rfl⟩ | hb2
      · rw [z_Bhas b1 hn hq, z_bind_some]
        refine z_neg (by decide) ?_
        unfold f_W_keep_J31 f_W_keep_J46
        refine z_neg hb (z_bind _ (z_hold (J s) 5 (J q) u (by (try simp (disch := omega) only [Int32.lt_iff_toInt_lt, Int32.le_iff_toInt_le, ← Int32.toInt_inj, Int32.toInt_add, Int32.toInt_sub, Int32.toInt_mul, Int32.toInt_neg, z_bm, z_bm2, J_ti, J_toInt, z_cn, Int32.reduceToInt]) <;> omega) (by (try simp (disch := omega) only [Int32.lt_iff_toInt_lt, Int32.le_iff_toInt_le, ← Int32.toInt_inj, Int32.toInt_add, Int32.toInt_sub, Int32.toInt_mul, Int32.toInt_neg, z_bm, z_bm2, J_ti, J_toInt, z_cn, Int32.reduceToInt]) <;> omega)) (fun _ v hv => k_sat_mk ?_))
        rw [J_toNat (show s < 2147483648 by omega)] at hv
        unfold f_R_keep
        rw [z_RisShelf (by (try simp (disch := omega) only [Int32.lt_iff_toInt_lt, Int32.le_iff_toInt_le, ← Int32.toInt_inj, Int32.toInt_add, Int32.toInt_sub, Int32.toInt_mul, Int32.toInt_neg, z_bm, z_bm2, J_ti, J_toInt, z_cn, Int32.reduceToInt]) <;> omega) (by (try simp (disch := omega) only [Int32.lt_iff_toInt_lt, Int32.le_iff_toInt_le, ← Int32.toInt_inj, Int32.toInt_add, Int32.toInt_sub, Int32.toInt_mul, Int32.toInt_neg, z_bm, z_bm2, J_ti, J_toInt, z_cn, Int32.reduceToInt]) <;> omega), z_bind_some]
        refine z_neg (by decide) (z_neg hb ?_)
        rw [z_RisBody ((hv.1.1 4245 rfl).trans b2) hn hq, z_bind_some]
        exact z_neg (by decide) (done 5 v hv.1 hv.2.1 hv.2.2.1 hv.2.2.2.2.2 (Or.inr ⟨rfl, q, hq, rfl⟩))
      · rw [z_Bhas0 b1 hn hb2, z_bind_some]
        refine z_pos rfl (k_sat_mk ?_)
        unfold f_R_keep
        rw [z_RisShelf (by (try simp (disch := omega) only [Int32.lt_iff_toInt_lt, Int32.le_iff_toInt_le, ← Int32.toInt_inj, Int32.toInt_add, Int32.toInt_sub, Int32.toInt_mul, Int32.toInt_neg, z_bm, z_bm2, J_ti, J_toInt, z_cn, Int32.reduceToInt]) <;> omega) (by (try simp (disch := omega) only [Int32.lt_iff_toInt_lt, Int32.le_iff_toInt_le, ← Int32.toInt_inj, Int32.toInt_add, Int32.toInt_sub, Int32.toInt_mul, Int32.toInt_neg, z_bm, z_bm2, J_ti, J_toInt, z_cn, Int32.reduceToInt]) <;> omega), z_bind_some]
        refine z_neg (by decide) (z_neg hb ?_)
        rw [z_RisBody0 b2 hn hb2, z_bind_some]
        exact z_pos rfl (k_sat_mk ⟨rfl, h⟩)
  · rw [z_Shas0 (by omega), z_bind_some]
    refine z_pos rfl (k_sat_mk ?_)
    unfold f_R_keep
    rw [z_RisShelf0 (by omega), z_bind_some]
    exact z_pos rfl (k_sat_mk ⟨rfl, h⟩)
theorem z_row (a0 a1 a2 : Int32) (u : k_S) (h : zI u) : z_pair (f_W_row a0 a1 a2) (f_R_row a0 a1 a2) u zI := by
  have hH := h.2.2.2.2.2.2.2.2.2.1
  refine z_pair_of ?_
  unfold f_W_row
  rcases J_or a0 6 with ⟨s, hs, rfl⟩ | ha
  · rw [z_Shas (by (try simp (disch := omega) only [Int32.lt_iff_toInt_lt, Int32.le_iff_toInt_le, ← Int32.toInt_inj, Int32.toInt_add, Int32.toInt_sub, Int32.toInt_mul, Int32.toInt_neg, z_bm, z_bm2, J_ti, J_toInt, z_cn, Int32.reduceToInt]) <;> omega) (by (try simp (disch := omega) only [Int32.lt_iff_toInt_lt, Int32.le_iff_toInt_le, ← Int32.toInt_inj, Int32.toInt_add, Int32.toInt_sub, Int32.toInt_mul, Int32.toInt_neg, z_bm, z_bm2, J_ti, J_toInt, z_cn, Int32.reduceToInt]) <;> omega), z_bind_some]
    refine z_neg (by decide) ?_
    rcases J_or a1 5 with ⟨k, hk, rfl⟩ | h2
    · have hR : ∀ u, f_R_in (J k) 0 4 u = some (1, u) := fun u => z_Rin1 (by (try simp (disch := omega) only [Int32.lt_iff_toInt_lt, Int32.le_iff_toInt_le, ← Int32.toInt_inj, Int32.toInt_add, Int32.toInt_sub, Int32.toInt_mul, Int32.toInt_neg, z_bm, z_bm2, J_ti, J_toInt, z_cn, Int32.reduceToInt]) <;> omega) (by (try simp (disch := omega) only [Int32.lt_iff_toInt_lt, Int32.le_iff_toInt_le, ← Int32.toInt_inj, Int32.toInt_add, Int32.toInt_sub, Int32.toInt_mul, Int32.toInt_neg, z_bm, z_bm2, J_ti, J_toInt, z_cn, Int32.reduceToInt]) <;> omega)
      refine z_neg (by (try simp (disch := omega) only [Int32.lt_iff_toInt_lt, Int32.le_iff_toInt_le, ← Int32.toInt_inj, Int32.toInt_add, Int32.toInt_sub, Int32.toInt_mul, Int32.toInt_neg, z_bm, z_bm2, J_ti, J_toInt, z_cn, Int32.reduceToInt]) <;> omega) (z_neg (by (try simp (disch := omega) only [Int32.lt_iff_toInt_lt, Int32.le_iff_toInt_le, ← Int32.toInt_inj, Int32.toInt_add, Int32.toInt_sub, Int32.toInt_mul, Int32.toInt_neg, z_bm, z_bm2, J_ti, J_toInt, z_cn, Int32.reduceToInt]) <;> omega) ?_)
      by_cases h3 : a2 ≤ 60
      · by_cases h4 : 0 ≤ a2
        · obtain ⟨z, rfl, hz, -⟩ := J_of (x := a2) (by ((try simp (disch := omega) only [Int32.lt_iff_toInt_lt, Int32.le_iff_toInt_le, ← Int32.toInt_inj, Int32.toInt_add, Int32.toInt_sub, Int32.toInt_mul, Int32.toInt_neg, z_bm, z_bm2, J_ti, J_toInt, z_cn, Int32.reduceToInt] at *); omega))
          have hz2 : z ≤ 60 := by ((try simp (disch := omega) only [Int32.lt_iff_toInt_lt, Int32.le_iff_toInt_le, ← Int32.toInt_inj, Int32.toInt_add, Int32.toInt_sub, Int32.toInt_mul, Int32.toInt_neg, z_bm, z_bm2, J_ti, J_toInt, z_cn, Int32.reduceToInt] at *); omega)
          refine z_pos h3 (z_pos h4 (z_bind _ (z_hold (J s) (J k) (J z) u (by (try simp (disch := omega) only [Int32.lt_iff_toInt_lt, Int32.le_iff_toInt_le, ← Int32.toInt_inj, Int32.toInt_add, Int32.toInt_sub, Int32.toInt_mul, Int32.toInt_neg, z_bm, z_bm2, J_ti, J_toInt, z_cn, Int32.reduceToInt]) <;> omega) (by (try simp (disch := omega) only [Int32.lt_iff_toInt_lt, Int32.le_iff_toInt_le, ← Int32.toInt_inj, Int32.toInt_add, Int32.toInt_sub, Int32.toInt_mul, Int32.toInt_neg, z_bm, z_bm2, J_ti, J_toInt, z_cn, Int32.reduceToInt]) <;> omega)) (fun _ u1 hv => k_sat_mk ?_)))
          rw [J_toNat (show s < 2147483648 by omega)] at hv
          obtain ⟨v1, v2, v3, v4, v5, v6⟩ := hv
          unfold f_R_row
          rw [z_RisShelf (by (try simp (disch := omega) only [Int32.lt_iff_toInt_lt, Int32.le_iff_toInt_le, ← Int32.toInt_inj, Int32.toInt_add, Int32.toInt_sub, Int32.toInt_mul, Int32.toInt_neg, z_bm, z_bm2, J_ti, J_toInt, z_cn, Int32.reduceToInt]) <;> omega) (by (try simp (disch := omega) only [Int32.lt_iff_toInt_lt, Int32.le_iff_toInt_le, ← Int32.toInt_inj, Int32.toInt_add, Int32.toInt_sub, Int32.toInt_mul, Int32.toInt_neg, z_bm, z_bm2, J_ti, J_toInt, z_cn, Int32.reduceToInt]) <;> omega), z_bind_some, hR, z_bind_some]
          refine z_neg (by decide) (z_neg (by decide) (z_pos h3 (z_pos h4 (z_ck (by (try simp (disch := omega) only [Int32.lt_iff_toInt_lt, Int32.le_iff_toInt_le, ← Int32.toInt_inj, Int32.toInt_add, Int32.toInt_sub, Int32.toInt_mul, Int32.toInt_neg, z_bm, z_bm2, J_ti, J_toInt, z_cn, Int32.reduceToInt]) <;> omega) (by (try simp (disch := omega) only [Int32.lt_iff_toInt_lt, Int32.le_iff_toInt_le, ← Int32.toInt_inj, Int32.toInt_add, Int32.toInt_sub, Int32.toInt_mul, Int32.toInt_neg, z_bm, z_bm2, J_ti, J_toInt, z_cn, Int32.reduceToInt]) <;> omega) (z_let (z_ck (by (try simp (disch := omega) only [Int32.lt_iff_toInt_lt, Int32.le_iff_toInt_le, ← Int32.toInt_inj, Int32.toInt_add, Int32.toInt_sub, Int32.toInt_mul, Int32.toInt_neg, z_bm, z_bm2, J_ti, J_toInt, z_cn, Int32.reduceToInt]) <;> omega) (by (try simp (disch := omega) only [Int32.lt_iff_toInt_lt, Int32.le_iff_toInt_le, ← Int32.toInt_inj, Int32.toInt_add, Int32.toInt_sub, Int32.toInt_mul, Int32.toInt_neg, z_bm, z_bm2, J_ti, J_toInt, z_cn, Int32.reduceToInt]) <;> omega) (z_let (z_let (z_bind _ (z_Rrow (J s) _ (by (try simp (disch := omega) only [Int32.lt_iff_toInt_lt, Int32.le_iff_toInt_le, ← Int32.toInt_inj, Int32.toInt_add, Int32.toInt_sub, Int32.toInt_mul, Int32.toInt_neg, z_bm, z_bm2, J_ti, J_toInt, z_cn, Int32.reduceToInt]) <;> omega) (by (try simp (disch := omega) only [Int32.lt_iff_toInt_lt, Int32.le_iff_toInt_le, ← Int32.toInt_inj, Int32.toInt_add, Int32.toInt_sub, Int32.toInt_mul, Int32.toInt_neg, z_bm, z_bm2, J_ti, J_toInt, z_cn, Int32.reduceToInt]) <;> omega)) (fun _ u2 hw => k_sat_mk ⟨rfl, ?_⟩)))))))))) 
          rw [J_toNat (show s < 2147483648 by omega)] at hw
          obtain ⟨w1, w2, w3, w4⟩ := hw
          have f2 : z_fr [] [39, 40, 41, 72, 73, 74] u u2 := (((v1.mono rfl rfl).tr (z_wA rfl)).tr (z_wA rfl)).tr (w1.mono rfl rfl)
          refine zI_H h (f2.mono rfl rfl) (fun s' hs' => ?_)
          have g39 : u2.2.1 39 = upd (u.2.1 39) s (J k) := by rw [w1.2.1 39 rfl]; simpa [k_wA] using v2
          have g40 : u2.2.1 40 = upd (u.2.1 40) s (J z) := by rw [w1.2.1 40 rfl]; simpa [k_wA] using v3
          have g41 : u2.2.2 41 = u1.2.2 41 := by rw [w1.2.2 41 rfl]; simp [k_wA]
          have g72 : u2.2.1 72 = upd (u.2.1 72) s (-2 - J k) := by rw [w1.2.1 72 rfl]; simp [k_wA, v1.2.1 72 rfl]
          have g73 : u2.2.1 73 = upd (u.2.1 73) s (J z) := by rw [w1.2.1 73 rfl]; simp [k_wA, v1.2.1 73 rfl]
          have g74 : ∀ j, (j < 60 * s ∨ 60 * s + 60 ≤ j) → u2.2.2 74 j = u.2.2 74 j := fun j hj => by rw [w4 j hj]; simp [k_wA, v1.2.2 74 rfl]
          have g3502 : u2.1 3502 = u.1 3502 := f2.1 3502 rfl
          rw [g39, g40, g72, g73, g41, g3502, z_up, z_up, z_up, z_up]
          by_cases e : s' = s
          · subst e
            rw [if_pos rfl, if_pos rfl, if_pos rfl, if_pos rfl]
            exact Or.inr (Or.inr ⟨k, z, by omega, hz2, rfl, rfl, rfl, rfl, fun j hj => ⟨by rw [w3 j hj, v5 j hj], by rw [v5 j hj]; exact z_low_0 k⟩⟩)
          · rw [if_neg e, if_neg e, if_neg e, if_neg e]
            rcases hH s' hs' with q | q | ⟨k', z', q1, q2, q3, q4, q5, q6, q7⟩
            · exact Or.inl q
            · exact Or.inr (Or.inl q)
            · exact Or.inr (Or.inr ⟨k', z', q1, q2, q3, q4, q5, q6, fun j hj => by rw [g74 _ (by omega), v6 _ (by omega)]; exact q7 j hj⟩)
        · refine z_pos h3 (z_neg h4 (k_sat_mk ?_))
          unfold f_R_row
          rw [z_RisShelf (by (try simp (disch := omega) only [Int32.lt_iff_toInt_lt, Int32.le_iff_toInt_le, ← Int32.toInt_inj, Int32.toInt_add, Int32.toInt_sub, Int32.toInt_mul, Int32.toInt_neg, z_bm, z_bm2, J_ti, J_toInt, z_cn, Int32.reduceToInt]) <;> omega) (by (try simp (disch := omega) only [Int32.lt_iff_toInt_lt, Int32.le_iff_toInt_le, ← Int32.toInt_inj, Int32.toInt_add, Int32.toInt_sub, Int32.toInt_mul, Int32.toInt_neg, z_bm, z_bm2, J_ti, J_toInt, z_cn, Int32.reduceToInt]) <;> omega), z_bind_some, hR, z_bind_some]
          exact z_neg (by decide) (z_neg (by decide) (z_pos h3 (z_neg h4 (k_sat_mk ⟨rfl, h⟩))))
      · refine z_neg h3 (k_sat_mk ?_)
        unfold f_R_row
        rw [z_RisShelf (by (try simp (disch := omega) only [Int32.lt_iff_toInt_lt, Int32.le_iff_toInt_le, ← Int32.toInt_inj, Int32.toInt_add, Int32.toInt_sub, Int32.toInt_mul, Int32.toInt_neg, z_bm, z_bm2, J_ti, J_toInt, z_cn, Int32.reduceToInt]) <;> omega) (by (try simp (disch := omega) only [Int32.lt_iff_toInt_lt, Int32.le_iff_toInt_le, ← Int32.toInt_inj, Int32.toInt_add, Int32.toInt_sub, Int32.toInt_mul, Int32.toInt_neg, z_bm, z_bm2, J_ti, J_toInt, z_cn, Int32.reduceToInt]) <;> omega), z_bind_some, hR, z_bind_some]
        exact z_neg (by decide) (z_neg (by decide) (z_neg h3 (k_sat_mk ⟨rfl, h⟩)))
    · have hR : ∀ u, f_R_in a1 0 4 u = some (0, u) := fun u => z_Rin0 (by ((try simp (disch := omega) only [Int32.lt_iff_toInt_lt, Int32.le_iff_toInt_le, ← Int32.toInt_inj, Int32.toInt_add, Int32.toInt_sub, Int32.toInt_mul, Int32.toInt_neg, z_bm, z_bm2, J_ti, J_toInt, z_cn, Int32.reduceToInt] at *); omega))
      have e : k_sat (f_R_row (J s) a1 a2 u) (fun r' v => (-1 : Int32) = r' ∧ zI v) := by
        unfold f_R_row
        rw [z_RisShelf (by (try simp (disch := omega) only [Int32.lt_iff_toInt_lt, Int32.le_iff_toInt_le, ← Int32.toInt_inj, Int32.toInt_add, Int32.toInt_sub, Int32.toInt_mul, Int32.toInt_neg, z_bm, z_bm2, J_ti, J_toInt, z_cn, Int32.reduceToInt]) <;> omega) (by (try simp (disch := omega) only [Int32.lt_iff_toInt_lt, Int32.le_iff_toInt_le, ← Int32.toInt_inj, Int32.toInt_add, Int32.toInt_sub, Int32.toInt_mul, Int32.toInt_neg, z_bm, z_bm2, J_ti, J_toInt, z_cn, Int32.reduceToInt]) <;> omega), z_bind_some, hR, z_bind_some]
        exact z_neg (by decide) (z_pos rfl (k_sat_mk ⟨rfl, h⟩))
      exact z_ite (fun _ => k_sat_mk e) (fun h3 => z_pos (by ((try simp (disch := omega) only [Int32.lt_iff_toInt_lt, Int32.le_iff_toInt_le, ← Int32.toInt_inj, Int32.toInt_add, Int32.toInt_sub, Int32.toInt_mul, Int32.toInt_neg, z_bm, z_bm2, J_ti, J_toInt, z_cn, Int32.reduceToInt] at *); omega)) (k_sat_mk e))
  · rw [z_Shas0 (by omega), z_bind_some]
    refine z_pos rfl (k_sat_mk ?_)
    unfold f_R_row
    rw [z_RisShelf0 (by omega), z_bind_some]
    exact z_pos rfl (k_sat_mk ⟨rfl, h⟩)
/-- why there is no such element, on both sides; or where it lies -/
theorem z_why (a0 a1 : Int32) (u : k_S) (h : zI u) : (∃ s i k z : Nat, s < 6 ∧ i < z ∧ z ≤ 60 ∧ k ≤ 4 ∧ a0 = J s ∧ a1 = J i ∧ u.2.1 39 s = J k ∧ u.2.1 72 s = -2 - J k ∧ f_Shelves_has a0 u = some (1, u) ∧ f_Shelves_refusalAt a0 a1 u = some (0, u) ∧ ∀ v, z_fr [] [41] u v → f_R_whyNoPlace a0 a1 v = some (0, v)) ∨ (∃ r : Int32, r < 0 ∧ ((f_Shelves_has a0 u = some (0, u) ∧ r = -1) ∨ (f_Shelves_has a0 u = some (1, u) ∧ f_Shelves_refusalAt a0 a1 u = some (r, u))) ∧ f_R_whyNoPlace a0 a1 u = some (r, u)) := by
  have hH := h.2.2.2.2.2.2.2.2.2.1
  rcases J_or a0 6 with ⟨s, hs, rfl⟩ | ha
  · have hh : ∀ v, f_Shelves_heldBy (J s) v = some (v.2.1 39 s, v) := fun v => by
      rw [z_SheldBy (by (try simp (disch := omega) only [Int32.lt_iff_toInt_lt, Int32.le_iff_toInt_le, ← Int32.toInt_inj, Int32.toInt_add, Int32.toInt_sub, Int32.toInt_mul, Int32.toInt_neg, z_bm, z_bm2, J_ti, J_toInt, z_cn, Int32.reduceToInt]) <;> omega) (by (try simp (disch := omega) only [Int32.lt_iff_toInt_lt, Int32.le_iff_toInt_le, ← Int32.toInt_inj, Int32.toInt_add, Int32.toInt_sub, Int32.toInt_mul, Int32.toInt_neg, z_bm, z_bm2, J_ti, J_toInt, z_cn, Int32.reduceToInt]) <;> omega), J_toNat (by omega)]
    have hR : ∀ v, f_R_whyNoPlace (J s) a1 v = if v.2.1 72 s = -1 then some (-11, v) else if v.2.1 72 s < 0 then k_bind (f_R_in a1 0 (v.2.1 73 s - 1) v) (fun r4 u3 => if r4 = 0 then some ((-13), u3) else some (0, u3)) else some (-12, v) := by
      intro v
      unfold f_R_whyNoPlace
      rw [z_RisShelf (by (try simp (disch := omega) only [Int32.lt_iff_toInt_lt, Int32.le_iff_toInt_le, ← Int32.toInt_inj, Int32.toInt_add, Int32.toInt_sub, Int32.toInt_mul, Int32.toInt_neg, z_bm, z_bm2, J_ti, J_toInt, z_cn, Int32.reduceToInt]) <;> omega) (by (try simp (disch := omega) only [Int32.lt_iff_toInt_lt, Int32.le_iff_toInt_le, ← Int32.toInt_inj, Int32.toInt_add, Int32.toInt_sub, Int32.toInt_mul, Int32.toInt_neg, z_bm, z_bm2, J_ti, J_toInt, z_cn, Int32.reduceToInt]) <;> omega), z_bind_some, if_neg (by decide), z_cko _ (by (try simp (disch := omega) only [Int32.lt_iff_toInt_lt, Int32.le_iff_toInt_le, ← Int32.toInt_inj, Int32.toInt_add, Int32.toInt_sub, Int32.toInt_mul, Int32.toInt_neg, z_bm, z_bm2, J_ti, J_toInt, z_cn, Int32.reduceToInt]) <;> omega) (by (try simp (disch := omega) only [Int32.lt_iff_toInt_lt, Int32.le_iff_toInt_le, ← Int32.toInt_inj, Int32.toInt_add, Int32.toInt_sub, Int32.toInt_mul, Int32.toInt_neg, z_bm, z_bm2, J_ti, J_toInt, z_cn, Int32.reduceToInt]) <;> omega), z_cko _ (by (try simp (disch := omega) only [Int32.lt_iff_toInt_lt, Int32.le_iff_toInt_le, ← Int32.toInt_inj, Int32.toInt_add, Int32.toInt_sub, Int32.toInt_mul, Int32.toInt_neg, z_bm, z_bm2, J_ti, J_toInt, z_cn, Int32.reduceToInt]) <;> omega) (by (try simp (disch := omega) only [Int32.lt_iff_toInt_lt, Int32.le_iff_toInt_le, ← Int32.toInt_inj, Int32.toInt_add, Int32.toInt_sub, Int32.toInt_mul, Int32.toInt_neg, z_bm, z_bm2, J_ti, J_toInt, z_cn, Int32.reduceToInt]) <;> omega), z_cko _ (by (try simp (disch := omega) only [Int32.lt_iff_toInt_lt, Int32.le_iff_toInt_le, ← Int32.toInt_inj, Int32.toInt_add, Int32.toInt_sub, Int32.toInt_mul, Int32.toInt_neg, z_bm, z_bm2, J_ti, J_toInt, z_cn, Int32.reduceToInt]) <;> omega) (by (try simp (disch := omega) only [Int32.lt_iff_toInt_lt, Int32.le_iff_toInt_le, ← Int32.toInt_inj, Int32.toInt_add, Int32.toInt_sub, Int32.toInt_mul, Int32.toInt_neg, z_bm, z_bm2, J_ti, J_toInt, z_cn, Int32.reduceToInt]) <;> omega), J_toNat (by omega)]
    have h1 : f_Shelves_has (J s) u = some (1, u) := z_Shas (by (try simp (disch := omega) only [Int32.lt_iff_toInt_lt, Int32.le_iff_toInt_le, ← Int32.toInt_inj, Int32.toInt_add, Int32.toInt_sub, Int32.toInt_mul, Int32.toInt_neg, z_bm, z_bm2, J_ti, J_toInt, z_cn, Int32.reduceToInt]) <;> omega) (by (try simp (disch := omega) only [Int32.lt_iff_toInt_lt, Int32.le_iff_toInt_le, ← Int32.toInt_inj, Int32.toInt_add, Int32.toInt_sub, Int32.toInt_mul, Int32.toInt_neg, z_bm, z_bm2, J_ti, J_toInt, z_cn, Int32.reduceToInt]) <;> omega)
    rcases hH s hs with ⟨q1, q2⟩ | ⟨q1, b, q2, q3, q4⟩ | ⟨k, z, q1, q2, q3, q4, q5, q6, q7⟩
    · refine Or.inr ⟨-11, by decide, Or.inr ⟨h1, ?_⟩, ?_⟩
      · unfold f_Shelves_refusalAt
        rw [hh, z_bind_some, if_pos q1]
      · rw [hR, if_pos q2]
    · refine Or.inr ⟨-12, by decide, Or.inr ⟨h1, ?_⟩, ?_⟩
      · unfold f_Shelves_refusalAt
        rw [hh, z_bind_some, q1, if_neg (by decide), if_pos rfl]
      · have := z_rg (u.1 3502)
        rw [hR, q3, if_neg (by ((try simp (disch := omega) only [Int32.lt_iff_toInt_lt, Int32.le_iff_toInt_le, ← Int32.toInt_inj, Int32.toInt_add, Int32.toInt_sub, Int32.toInt_mul, Int32.toInt_neg, z_bm, z_bm2, J_ti, J_toInt, z_cn, Int32.reduceToInt] at *); omega)), if_neg (by ((try simp (disch := omega) only [Int32.lt_iff_toInt_lt, Int32.le_iff_toInt_le, ← Int32.toInt_inj, Int32.toInt_add, Int32.toInt_sub, Int32.toInt_mul, Int32.toInt_neg, z_bm, z_bm2, J_ti, J_toInt, z_cn, Int32.reduceToInt] at *); omega))]
    · have r1 : ¬ u.2.1 72 s = -1 := by rw [q4]; (try simp (disch := omega) only [Int32.lt_iff_toInt_lt, Int32.le_iff_toInt_le, ← Int32.toInt_inj, Int32.toInt_add, Int32.toInt_sub, Int32.toInt_mul, Int32.toInt_neg, z_bm, z_bm2, J_ti, J_toInt, z_cn, Int32.reduceToInt]) <;> omega
      have r2 : u.2.1 72 s < 0 := by rw [q4]; (try simp (disch := omega) only [Int32.lt_iff_toInt_lt, Int32.le_iff_toInt_le, ← Int32.toInt_inj, Int32.toInt_add, Int32.toInt_sub, Int32.toInt_mul, Int32.toInt_neg, z_bm, z_bm2, J_ti, J_toInt, z_cn, Int32.reduceToInt]) <;> omega
      have w1 : f_Shelves_refusalAt (J s) a1 u = if a1 < 0 then some (-13, u) else if J z ≤ a1 then some (-13, u) else some (0, u) := by
        unfold f_Shelves_refusalAt
        rw [hh, z_bind_some, q3, if_neg (by (try simp (disch := omega) only [Int32.lt_iff_toInt_lt, Int32.le_iff_toInt_le, ← Int32.toInt_inj, Int32.toInt_add, Int32.toInt_sub, Int32.toInt_mul, Int32.toInt_neg, z_bm, z_bm2, J_ti, J_toInt, z_cn, Int32.reduceToInt]) <;> omega), if_neg (by (try simp (disch := omega) only [Int32.lt_iff_toInt_lt, Int32.le_iff_toInt_le, ← Int32.toInt_inj, Int32.toInt_add, Int32.toInt_sub, Int32.toInt_mul, Int32.toInt_neg, z_bm, z_bm2, J_ti, J_toInt, z_cn, Int32.reduceToInt]) <;> omega), z_Shelves_sizeOf (by omega), z_bind_some, q5]
      rcases J_or a1 z with ⟨i, hi, rfl⟩ | hi
      · refine Or.inl ⟨s, i, k, z, hs, hi, q2, q1, rfl, rfl, q3, q4, h1, ?_, fun v hv => ?_⟩
        · rw [w1, if_neg (by (try simp (disch := omega) only [Int32.lt_iff_toInt_lt, Int32.le_iff_toInt_le, ← Int32.toInt_inj, Int32.toInt_add, Int32.toInt_sub, Int32.toInt_mul, Int32.toInt_neg, z_bm, z_bm2, J_ti, J_toInt, z_cn, Int32.reduceToInt]) <;> omega), if_neg (by (try simp (disch := omega) only [Int32.lt_iff_toInt_lt, Int32.le_iff_toInt_le, ← Int32.toInt_inj, Int32.toInt_add, Int32.toInt_sub, Int32.toInt_mul, Int32.toInt_neg, z_bm, z_bm2, J_ti, J_toInt, z_cn, Int32.reduceToInt]) <;> omega)]
        · rw [hR, hv.2.1 72 rfl, if_neg r1, if_pos r2, hv.2.1 73 rfl, q6, z_Rin1 (by (try simp (disch := omega) only [Int32.lt_iff_toInt_lt, Int32.le_iff_toInt_le, ← Int32.toInt_inj, Int32.toInt_add, Int32.toInt_sub, Int32.toInt_mul, Int32.toInt_neg, z_bm, z_bm2, J_ti, J_toInt, z_cn, Int32.reduceToInt]) <;> omega) (by rw [J_m1 (by omega)]; (try simp (disch := omega) only [Int32.lt_iff_toInt_lt, Int32.le_iff_toInt_le, ← Int32.toInt_inj, Int32.toInt_add, Int32.toInt_sub, Int32.toInt_mul, Int32.toInt_neg, z_bm, z_bm2, J_ti, J_toInt, z_cn, Int32.reduceToInt]) <;> omega), z_bind_some, if_neg (by decide)]
      · refine Or.inr ⟨-13, by decide, Or.inr ⟨h1, ?_⟩, ?_⟩
        · rw [w1]
          by_cases hn : a1 < 0
          · rw [if_pos hn]
          · rw [if_neg hn, if_pos (by ((try simp (disch := omega) only [Int32.lt_iff_toInt_lt, Int32.le_iff_toInt_le, ← Int32.toInt_inj, Int32.toInt_add, Int32.toInt_sub, Int32.toInt_mul, Int32.toInt_neg, z_bm, z_bm2, J_ti, J_toInt, z_cn, Int32.reduceToInt] at *); omega))]
        · rw [hR, if_neg r1, if_pos r2, q6, z_Rin0 (by rw [J_m1 (by omega)]; ((try simp (disch := omega) only [Int32.lt_iff_toInt_lt, Int32.le_iff_toInt_le, ← Int32.toInt_inj, Int32.toInt_add, Int32.toInt_sub, Int32.toInt_mul, Int32.toInt_neg, z_bm, z_bm2, J_ti, J_toInt, z_cn, Int32.reduceToInt] at *); omega)), z_bind_some, if_pos rfl]
  · refine Or.inr ⟨-1, by decide, Or.inl ⟨z_Shas0 (by omega), rfl⟩, ?_⟩
    unfold f_R_whyNoPlace
    rw [z_RisShelf0 (by omega), z_bind_some, if_pos rfl]
theorem J_60 (s i : Nat) : (60 : Int32) * J s + J i = J (60 * s + i) := by
  rw [show (60 : Int32) = J 60 from rfl, J_mul, J_add]
theorem z_lowest (k : Nat) (hk : k ≤ 4) (x : Int64) (u : k_S) : f_Shelves_lowest (J k) x u = some (z_low k x, u) := by
  unfold f_Shelves_lowest z_low
  by_cases h0 : k = 0
  · rw [if_pos (show J k = 0 by rw [h0]; rfl), if_pos h0]
  rw [if_neg (show ¬ J k = 0 by (try simp (disch := omega) only [Int32.lt_iff_toInt_lt, Int32.le_iff_toInt_le, ← Int32.toInt_inj, Int32.toInt_add, Int32.toInt_sub, Int32.toInt_mul, Int32.toInt_neg, z_bm, z_bm2, J_ti, J_toInt, z_cn, Int32.reduceToInt]) <;> omega), if_neg h0]
  by_cases h1 : k = 1
  · rw [if_pos (show J k = 1 by rw [h1]; rfl), if_pos h1]
  rw [if_neg (show ¬ J k = 1 by (try simp (disch := omega) only [Int32.lt_iff_toInt_lt, Int32.le_iff_toInt_le, ← Int32.toInt_inj, Int32.toInt_add, Int32.toInt_sub, Int32.toInt_mul, Int32.toInt_neg, z_bm, z_bm2, J_ti, J_toInt, z_cn, Int32.reduceToInt]) <;> omega), if_neg h1]
  by_cases h2 : k = 2
  · rw [if_pos (show J k = 2 by rw [h2]; rfl), if_pos h2]
  rw [if_neg (show ¬ J k = 2 by (try simp (disch := omega) only [Int32.lt_iff_toInt_lt, Int32.le_iff_toInt_le, ← Int32.toInt_inj, Int32.toInt_add, Int32.toInt_sub, Int32.toInt_mul, Int32.toInt_neg, z_bm, z_bm2, J_ti, J_toInt, z_cn, Int32.reduceToInt]) <;> omega), if_neg h2]
  by_cases h3 : k = 3
  · rw [if_pos (show J k = 3 by rw [h3]; rfl), if_pos h3]
  rw [if_neg (show ¬ J k = 3 by (try simp (disch := omega) only [Int32.lt_iff_toInt_lt, Int32.le_iff_toInt_le, ← Int32.toInt_inj, Int32.toInt_add, Int32.toInt_sub, Int32.toInt_mul, Int32.toInt_neg, z_bm, z_bm2, J_ti, J_toInt, z_cn, Int32.reduceToInt]) <;> omega), if_neg h3]
  by_cases h4 : lg_cmp x 0 = 0
  · rw [if_pos h4, if_pos h4]
  · rw [if_neg h4, if_neg h4]
theorem z_low0 (x : Int64) : z_low 0 x = ((((x).toInt32).toInt8.toInt32).toInt64) := by unfold z_low; rw [if_pos rfl]
theorem z_low1 (x : Int64) : z_low 1 x = ((((x).toInt32).toInt16.toInt32).toInt64) := by unfold z_low; rw [if_neg (by decide), if_pos rfl]
theorem z_low2 (x : Int64) : z_low 2 x = (((x).toInt32).toInt64) := by unfold z_low; rw [if_neg (by decide), if_neg (by decide), if_pos rfl]
theorem z_low3 (x : Int64) : z_low 3 x = x := by unfold z_low; rw [if_neg (by decide), if_neg (by decide), if_neg (by decide), if_pos rfl]
theorem z_low4 (x : Int64) : z_low 4 x = if lg_cmp x 0 = 0 then 0 else 1 := by unfold z_low; rw [if_neg (by decide), if_neg (by decide), if_neg (by decide), if_neg (by decide)]
theorem z_putR0 (t q : Int32) (x : Int64) (v : k_S) (n k : Nat) (hk : k ≤ 4) (ht : t = J k) (hc : ∀ o : Option (Int32 × k_S), k_ck q 360 o = o) (hn : q.toNatClampNeg = n) {F : Int32 → Option (Int32 × k_S)} (hF : ∀ t, F t = if t = 0 then k_ck q 360 (k_let (k_wL v 74 q.toNatClampNeg ((((x).toInt32).toInt8.toInt32).toInt64)) (fun u9 => some (1, u9))) else if t = 1 then k_ck q 360 (k_let (k_wL v 74 q.toNatClampNeg ((((x).toInt32).toInt16.toInt32).toInt64)) (fun u8 => some (1, u8))) else if t = 2 then k_ck q 360 (k_let (k_wL v 74 q.toNatClampNeg (((x).toInt32).toInt64)) (fun u7 => some (1, u7))) else if t = 3 then k_ck q 360 (k_let (k_wL v 74 q.toNatClampNeg x) (fun u6 => some (1, u6))) else if (lg_cmp x 0) = 0 then k_ck q 360 (k_let (k_wL v 74 q.toNatClampNeg 0) (fun u4 => some (1, u4))) else k_ck q 360 (k_let (k_wL v 74 q.toNatClampNeg 1) (fun u5 => some (1, u5)))) : k_let t F = some (1, k_wL v 74 n (z_low k x)) := by
  subst hn
  rw [k_let, hF, ht]
  rcases (show k = 0 ∨ k = 1 ∨ k = 2 ∨ k = 3 ∨ k = 4 by omega) with rfl | rfl | rfl | rfl | rfl
  · rw [z_low0, if_pos (show J 0 = 0 from rfl), hc, k_let]
  · rw [z_low1, if_neg (show ¬ J 1 = 0 by decide), if_pos (show J 1 = 1 from rfl), hc, k_let]
  · rw [z_low2, if_neg (show ¬ J 2 = 0 by decide), if_neg (show ¬ J 2 = 1 by decide), if_pos (show J 2 = 2 from rfl), hc, k_let]
  · rw [z_low3, if_neg (show ¬ J 3 = 0 by decide), if_neg (show ¬ J 3 = 1 by decide), if_neg (show ¬ J 3 = 2 by decide), if_pos (show J 3 = 3 from rfl), hc, k_let]
  · rw [z_low4, if_neg (show ¬ J 4 = 0 by decide), if_neg (show ¬ J 4 = 1 by decide), if_neg (show ¬ J 4 = 2 by decide), if_neg (show ¬ J 4 = 3 by decide)]
    by_cases h4 : lg_cmp x 0 = 0
    · rw [if_pos h4, if_pos h4, hc, k_let]
    · rw [if_neg h4, if_neg h4, hc, k_let]
theorem z_putR (s i k : Nat) (hs : s < 6) (hi : i < 60) (hk : k ≤ 4) (x : Int64) (v : k_S) (h3 : f_R_whyNoPlace (J s) (J i) v = some (0, v)) (e72 : v.2.1 72 s = -2 - J k) : f_R_put (J s) (J i) x v = some (1, k_wL v 74 (60 * s + i) (z_low k x)) := by
  have ek : (-2 : Int32) - v.2.1 72 s = J k := by
    rw [e72]
    apply Int32.toInt.inj
    (try simp (disch := omega) only [Int32.lt_iff_toInt_lt, Int32.le_iff_toInt_le, ← Int32.toInt_inj, Int32.toInt_add, Int32.toInt_sub, Int32.toInt_mul, Int32.toInt_neg, z_bm, z_bm2, J_ti, J_toInt, z_cn, Int32.reduceToInt]) <;> omega
  unfold f_R_put
  rw [h3, z_bind_some, if_pos (by decide), z_cko _ (by (try simp (disch := omega) only [Int32.lt_iff_toInt_lt, Int32.le_iff_toInt_le, ← Int32.toInt_inj, Int32.toInt_add, Int32.toInt_sub, Int32.toInt_mul, Int32.toInt_neg, z_bm, z_bm2, J_ti, J_toInt, z_cn, Int32.reduceToInt]) <;> omega) (by (try simp (disch := omega) only [Int32.lt_iff_toInt_lt, Int32.le_iff_toInt_le, ← Int32.toInt_inj, Int32.toInt_add, Int32.toInt_sub, Int32.toInt_mul, Int32.toInt_neg, z_bm, z_bm2, J_ti, J_toInt, z_cn, Int32.reduceToInt]) <;> omega), J_toNat (show s < 2147483648 by omega), J_60]
  exact z_putR0 _ (J (60 * s + i)) x v (60 * s + i) k hk ek (fun o => z_cko o (by (try simp (disch := omega) only [Int32.lt_iff_toInt_lt, Int32.le_iff_toInt_le, ← Int32.toInt_inj, Int32.toInt_add, Int32.toInt_sub, Int32.toInt_mul, Int32.toInt_neg, z_bm, z_bm2, J_ti, J_toInt, z_cn, Int32.reduceToInt]) <;> omega) (by (try simp (disch := omega) only [Int32.lt_iff_toInt_lt, Int32.le_iff_toInt_le, ← Int32.toInt_inj, Int32.toInt_add, Int32.toInt_sub, Int32.toInt_mul, Int32.toInt_neg, z_bm, z_bm2, J_ti, J_toInt, z_cn, Int32.reduceToInt]) <;> omega)) (J_toNat (by omega)) (fun t => rfl)
theorem z_putW (s i k : Nat) (hs : s < 6) (hi : i < 60) (hk : k ≤ 4) (x : Int64) (u : k_S) (e39 : u.2.1 39 s = J k) : f_Shelves_write (J s) (J i) x u = some ((), k_wL u 41 (60 * s + i) (z_low k x)) := by
  unfold f_Shelves_write
  simp only [k_let]
  rw [J_60, if_neg (by (try simp (disch := omega) only [Int32.lt_iff_toInt_lt, Int32.le_iff_toInt_le, ← Int32.toInt_inj, Int32.toInt_add, Int32.toInt_sub, Int32.toInt_mul, Int32.toInt_neg, z_bm, z_bm2, J_ti, J_toInt, z_cn, Int32.reduceToInt]) <;> omega), if_neg (by (try simp (disch := omega) only [Int32.lt_iff_toInt_lt, Int32.le_iff_toInt_le, ← Int32.toInt_inj, Int32.toInt_add, Int32.toInt_sub, Int32.toInt_mul, Int32.toInt_neg, z_bm, z_bm2, J_ti, J_toInt, z_cn, Int32.reduceToInt]) <;> omega), z_SheldBy (by (try simp (disch := omega) only [Int32.lt_iff_toInt_lt, Int32.le_iff_toInt_le, ← Int32.toInt_inj, Int32.toInt_add, Int32.toInt_sub, Int32.toInt_mul, Int32.toInt_neg, z_bm, z_bm2, J_ti, J_toInt, z_cn, Int32.reduceToInt]) <;> omega) (by (try simp (disch := omega) only [Int32.lt_iff_toInt_lt, Int32.le_iff_toInt_le, ← Int32.toInt_inj, Int32.toInt_add, Int32.toInt_sub, Int32.toInt_mul, Int32.toInt_neg, z_bm, z_bm2, J_ti, J_toInt, z_cn, Int32.reduceToInt]) <;> omega), J_toNat (show s < 2147483648 by omega), z_bind_some, e39, z_lowest k hk, z_bind_some, z_cko _ (by (try simp (disch := omega) only [Int32.lt_iff_toInt_lt, Int32.le_iff_toInt_le, ← Int32.toInt_inj, Int32.toInt_add, Int32.toInt_sub, Int32.toInt_mul, Int32.toInt_neg, z_bm, z_bm2, J_ti, J_toInt, z_cn, Int32.reduceToInt]) <;> omega) (by (try simp (disch := omega) only [Int32.lt_iff_toInt_lt, Int32.le_iff_toInt_le, ← Int32.toInt_inj, Int32.toInt_add, Int32.toInt_sub, Int32.toInt_mul, Int32.toInt_neg, z_bm, z_bm2, J_ti, J_toInt, z_cn, Int32.reduceToInt]) <;> omega), J_toNat (show 60 * s + i < 2147483648 by omega)]
theorem z_putI (u : k_S) (h : zI u) {s i k : Nat} (hs : s < 6) (hi : i < 60) (hk : k ≤ 4) (e39 : u.2.1 39 s = J k) (x : Int64) : zI (k_wL (k_wL u 41 (60 * s + i) (z_low k x)) 74 (60 * s + i) (z_low k x)) := by
  have f2 : z_fr [] [41, 74] u (k_wL (k_wL u 41 (60 * s + i) (z_low k x)) 74 (60 * s + i) (z_low k x)) := (z_wL rfl).tr (z_wL rfl)
  refine zI_H h (f2.mono rfl rfl) (fun s' hs' => ?_)
  rcases h.2.2.2.2.2.2.2.2.2.1 s' hs' with q | q | ⟨k', z', q1, q2, q3, q4, q5, q6, q7⟩
  · exact Or.inl q
  · exact Or.inr (Or.inl q)
  · refine Or.inr (Or.inr ⟨k', z', q1, q2, q3, q4, q5, q6, fun j hj => ?_⟩)
    simp only [k_wL, if_true]
    rw [if_neg (by decide), if_neg (by decide), z_upL, z_upL, (q7 j hj).1]
    refine ⟨rfl, ?_⟩
    by_cases e : 60 * s' + j = 60 * s + i
    · have es : s' = s := by omega
      subst es
      have ek : k' = k := by
        rw [e39, J_inj (by omega) (by omega)] at q3
        exact q3.symm
      rw [if_pos e, ek, z_low_i]
    · rw [if_neg e]
      exact (q7 j hj).2
theorem z_put (a0 a1 : Int32) (a2 : Int64) (u : k_S) (h : zI u) : z_pair (f_W_put a0 a1 a2) (f_R_put a0 a1 a2) u zI := by
  refine z_pair_of ?_
  unfold f_W_put
  rcases z_why a0 a1 u h with ⟨s, i, k, z, hs, hi, hz, hk, rfl, rfl, e39, e72, h1, h2, h3⟩ | ⟨r, hr, hW, hR⟩
  · rw [h1, z_bind_some]
    refine z_neg (by decide) ?_
    rw [h2, z_bind_some]
    refine z_pos rfl ?_
    rw [z_putW s i k hs (by omega) hk a2 u e39, z_bind_some]
    refine k_sat_mk ?_
    rw [z_putR s i k hs (by omega) hk a2 _ (h3 _ (z_wL rfl)) e72]
    exact k_sat_mk ⟨rfl, z_putI u h hs (by omega) hk e39 a2⟩
  · have eR : k_sat (f_R_put a0 a1 a2 u) (fun r' v => r = r' ∧ zI v) := by
      unfold f_R_put
      rw [hR, z_bind_some]
      exact z_neg (by ((try simp (disch := omega) only [Int32.lt_iff_toInt_lt, Int32.le_iff_toInt_le, ← Int32.toInt_inj, Int32.toInt_add, Int32.toInt_sub, Int32.toInt_mul, Int32.toInt_neg, z_bm, z_bm2, J_ti, J_toInt, z_cn, Int32.reduceToInt] at *); omega)) (k_sat_mk ⟨rfl, h⟩)
    rcases hW with ⟨h1, rfl⟩ | ⟨h1, h2⟩
    · rw [h1, z_bind_some]
      exact z_pos rfl (k_sat_mk eR)
    · rw [h1, z_bind_some]
      refine z_neg (by decide) ?_
      rw [h2, z_bind_some]
      exact z_neg (by ((try simp (disch := omega) only [Int32.lt_iff_toInt_lt, Int32.le_iff_toInt_le, ← Int32.toInt_inj, Int32.toInt_add, Int32.toInt_sub, Int32.toInt_mul, Int32.toInt_neg, z_bm, z_bm2, J_ti, J_toInt, z_cn, Int32.reduceToInt] at *); omega)) (k_sat_mk eR)
theorem z_element (a0 a1 : Int32) (u : k_S) (h : zI u) : z_pair (f_W_element a0 a1) (f_R_element a0 a1) u zI := by
  have hH := h.2.2.2.2.2.2.2.2.2.1
  refine z_pair_of ?_
  unfold f_W_element
  rcases z_why a0 a1 u h with ⟨s, i, k, z, hs, hi, hz, hk, rfl, rfl, e39, e72, h1, h2, h3⟩ | ⟨r, hr, hW, hR⟩
  · rw [h1, z_bind_some]
    refine z_neg (by decide) ?_
    rw [h2, z_bind_some]
    refine z_pos rfl ?_
    unfold f_Shelves_valueAt
    simp only [k_let]
    rw [J_60, if_neg (by (try simp (disch := omega) only [Int32.lt_iff_toInt_lt, Int32.le_iff_toInt_le, ← Int32.toInt_inj, Int32.toInt_add, Int32.toInt_sub, Int32.toInt_mul, Int32.toInt_neg, z_bm, z_bm2, J_ti, J_toInt, z_cn, Int32.reduceToInt]) <;> omega), if_neg (by (try simp (disch := omega) only [Int32.lt_iff_toInt_lt, Int32.le_iff_toInt_le, ← Int32.toInt_inj, Int32.toInt_add, Int32.toInt_sub, Int32.toInt_mul, Int32.toInt_neg, z_bm, z_bm2, J_ti, J_toInt, z_cn, Int32.reduceToInt]) <;> omega), z_cko _ (by (try simp (disch := omega) only [Int32.lt_iff_toInt_lt, Int32.le_iff_toInt_le, ← Int32.toInt_inj, Int32.toInt_add, Int32.toInt_sub, Int32.toInt_mul, Int32.toInt_neg, z_bm, z_bm2, J_ti, J_toInt, z_cn, Int32.reduceToInt]) <;> omega) (by (try simp (disch := omega) only [Int32.lt_iff_toInt_lt, Int32.le_iff_toInt_le, ← Int32.toInt_inj, Int32.toInt_add, Int32.toInt_sub, Int32.toInt_mul, Int32.toInt_neg, z_bm, z_bm2, J_ti, J_toInt, z_cn, Int32.reduceToInt]) <;> omega), z_bind_some]
    refine k_sat_mk ?_
    unfold f_R_element
    rw [h3 u z_fr.rf, z_bind_some, J_60]
    refine z_pos (by decide) (z_ck (by (try simp (disch := omega) only [Int32.lt_iff_toInt_lt, Int32.le_iff_toInt_le, ← Int32.toInt_inj, Int32.toInt_add, Int32.toInt_sub, Int32.toInt_mul, Int32.toInt_neg, z_bm, z_bm2, J_ti, J_toInt, z_cn, Int32.reduceToInt]) <;> omega) (by (try simp (disch := omega) only [Int32.lt_iff_toInt_lt, Int32.le_iff_toInt_le, ← Int32.toInt_inj, Int32.toInt_add, Int32.toInt_sub, Int32.toInt_mul, Int32.toInt_neg, z_bm, z_bm2, J_ti, J_toInt, z_cn, Int32.reduceToInt]) <;> omega) (k_sat_mk ⟨?_, h⟩))
    rw [J_toNat (show 60 * s + i < 2147483648 by omega)]
    rcases hH s hs with ⟨q, -⟩ | ⟨q, -⟩ | ⟨k', z', q1, q2, q3, q4, q5, q6, q7⟩
    · rw [e39] at q
      exact absurd q (by (try simp (disch := omega) only [Int32.lt_iff_toInt_lt, Int32.le_iff_toInt_le, ← Int32.toInt_inj, Int32.toInt_add, Int32.toInt_sub, Int32.toInt_mul, Int32.toInt_neg, z_bm, z_bm2, J_ti, J_toInt, z_cn, Int32.reduceToInt]) <;> omega)
    · rw [e39] at q
      exact absurd q (by (try simp (disch := omega) only [Int32.lt_iff_toInt_lt, Int32.le_iff_toInt_le, ← Int32.toInt_inj, Int32.toInt_add, Int32.toInt_sub, Int32.toInt_mul, Int32.toInt_neg, z_bm, z_bm2, J_ti, J_toInt, z_cn, Int32.reduceToInt]) <;> omega)
    · exact (q7 i (by omega)).1.symm
  · have eR : k_sat (f_R_element a0 a1 u) (fun r' v => (-9223372036854775808 : Int64) = r' ∧ zI v) := by
      unfold f_R_element
      rw [hR, z_bind_some]
      exact z_neg (by ((try simp (disch := omega) only [Int32.lt_iff_toInt_lt, Int32.le_iff_toInt_le, ← Int32.toInt_inj, Int32.toInt_add, Int32.toInt_sub, Int32.toInt_mul, Int32.toInt_neg, z_bm, z_bm2, J_ti, J_toInt, z_cn, Int32.reduceToInt] at *); omega)) (k_sat_mk ⟨rfl, h⟩)
    rcases hW with ⟨h1, rfl⟩ | ⟨h1, h2⟩
    · rw [h1, z_bind_some]
      exact z_pos rfl (k_sat_mk eR)
    · rw [h1, z_bind_some]
      refine z_neg (by decide) ?_
      rw [h2, z_bind_some]
      exact z_neg (by ((try simp (disch := omega) only [Int32.lt_iff_toInt_lt, Int32.le_iff_toInt_le, ← Int32.toInt_inj, Int32.toInt_add, Int32.toInt_sub, Int32.toInt_mul, Int32.toInt_neg, z_bm, z_bm2, J_ti, J_toInt, z_cn, Int32.reduceToInt] at *); omega)) (k_sat_mk eR)
/-! NIGHTS: what a push is, a night, nights; the class's and the reference's do it -/
abbrev z_Mo : Type := Int32 × (Nat → Int32) × (Nat → Int32)
/-- how many wheels, letters, sizes, breaks, whether it is cold -/
abbrev z_E : Type := Nat × (Nat → Int32) × (Nat → Int32) × (Nat → Int32) × (Int32 → Int32 → Nat → Bool)
/-- by how much a wheel goes on, what it waits then -/
def z_sp (E : z_E) (t p v : Int32) (w : Nat) : Int32 × Int32 :=
  if E.2.1 (40 * w + p.toNatClampNeg) = 98 then (if E.2.2.2.1 w ≤ t then (2, v) else (1, v)) else if E.2.1 (40 * w + p.toNatClampNeg) = 102 then (if E.2.2.2.2 t p w = true then (0, v) else (1, v)) else if E.2.1 (40 * w + p.toNatClampNeg) = 115 then (2, v) else if E.2.1 (40 * w + p.toNatClampNeg) = 119 then (1, v) else if E.2.1 (40 * w + p.toNatClampNeg) - 48 ≤ v then (1, 0) else (0, v + 1)
def z_pu (E : z_E) : Nat → Nat → z_Mo → z_Mo
  | 0, _, m => m
  | k + 1, w, m => if E.1 ≤ w then m else if m.2.1 w + (z_sp E m.1 (m.2.1 w) (m.2.2 w) w).1 < E.2.2.1 w then (m.1, upd m.2.1 w (m.2.1 w + (z_sp E m.1 (m.2.1 w) (m.2.2 w) w).1), upd m.2.2 w (z_sp E m.1 (m.2.1 w) (m.2.2 w) w).2) else z_pu E k (w + 1) (m.1, upd m.2.1 w (m.2.1 w + (z_sp E m.1 (m.2.1 w) (m.2.2 w) w).1 - E.2.2.1 w), upd m.2.2 w (z_sp E m.1 (m.2.1 w) (m.2.2 w) w).2)
def z_nx (E : z_E) (K : Nat) (m : z_Mo) : z_Mo := z_pu E K 0 (m.1 + 1, m.2)
def z_or (E : z_E) (K : Nat) : Nat → z_Mo → z_Mo
  | 0, m => m
  | i + 1, m => z_nx E K (z_or E K i m)
/-- the first night in which a broken tooth of wheel 0 skipped -/
def z_sk (E : z_E) (m : z_Mo) (s : Int32) : Int32 := if E.2.1 (m.2.1 0).toNatClampNeg = 98 ∧ E.2.2.2.1 0 ≤ m.1 ∧ s = -1 then m.1 else s
def z_os (E : z_E) (K : Nat) (s : Int32) : Nat → z_Mo → Int32
  | 0, _ => s
  | i + 1, m => if 0 < K ∧ 0 < E.1 then z_sk E ((z_or E K i m).1 + 1, (z_or E K i m).2) (z_os E K s i m) else z_os E K s i m
/-- places that are there, sizes as they may be -/
def z_ok (E : z_E) (m : z_Mo) : Prop := E.1 ≤ 4 ∧ ∀ w, w < E.1 → ∃ p s : Nat, p < s ∧ 2 ≤ s ∧ s ≤ 40 ∧ m.2.1 w = J p ∧ E.2.2.1 w = J s
theorem z_sp_r (E : z_E) (t p v : Int32) (w : Nat) : ∃ r : Nat, r ≤ 2 ∧ (z_sp E t p v w).1 = J r := by
  unfold z_sp
  repeat' split
  all_goals first
    | exact ⟨0, by omega, rfl⟩
    | exact ⟨1, by omega, rfl⟩
    | exact ⟨2, by omega, rfl⟩
/-- where a wheel comes to -/
def z_to (p r s : Nat) : Nat := if p + r < s then p + r else p + r - s
theorem z_pu_s (E : z_E) (k w : Nat) (m : z_Mo) (p s r : Nat) (hp : p < s) (h2 : 2 ≤ s) (hs : s ≤ 40) (hw : w < E.1) (ep : m.2.1 w = J p) (es : E.2.2.1 w = J s) (hr : r ≤ 2) (er : (z_sp E m.1 (m.2.1 w) (m.2.2 w) w).1 = J r) : z_pu E (k + 1) w m = if p + r < s then (m.1, upd m.2.1 w (J (z_to p r s)), upd m.2.2 w (z_sp E m.1 (m.2.1 w) (m.2.2 w) w).2) else z_pu E k (w + 1) (m.1, upd m.2.1 w (J (z_to p r s)), upd m.2.2 w (z_sp E m.1 (m.2.1 w) (m.2.2 w) w).2) := by
  rw [z_pu, if_neg (by omega), er]
  have e1 : m.2.1 w + J r = J (p + r) := by rw [ep, J_add]
  rw [e1, es]
  unfold z_to
  by_cases h : p + r < s
  · rw [if_pos h, if_pos h, if_pos (show J (p + r) < J s by (try simp (disch := omega) only [Int32.lt_iff_toInt_lt, Int32.le_iff_toInt_le, ← Int32.toInt_inj, Int32.toInt_add, Int32.toInt_sub, Int32.toInt_mul, Int32.toInt_neg, z_bm, z_bm2, J_ti, J_toInt, z_cn, Int32.reduceToInt]) <;> omega)]
  · rw [if_neg h, if_neg h, if_neg (show ¬ J (p + r) < J s by (try simp (disch := omega) only [Int32.lt_iff_toInt_lt, Int32.le_iff_toInt_le, ← Int32.toInt_inj, Int32.toInt_add, Int32.toInt_sub, Int32.toInt_mul, Int32.toInt_neg, z_bm, z_bm2, J_ti, J_toInt, z_cn, Int32.reduceToInt]) <;> omega), J_sub (by omega)]
theorem z_to_lt {p r s : Nat} (hp : p < s) (h2 : 2 ≤ s) (hr : r ≤ 2) : z_to p r s < s := by
  unfold z_to
  split <;> omega
theorem z_pu_ok (E : z_E) : ∀ (k w : Nat) (m : z_Mo), z_ok E m → z_ok E (z_pu E k w m) ∧ (z_pu E k w m).1 = m.1
  | 0, w, m, h => ⟨h, rfl⟩
  | k + 1, w, m, h => by
    by_cases hw : E.1 ≤ w
    · rw [z_pu, if_pos hw]; exact ⟨h, rfl⟩
    · obtain ⟨p, s, hp, h2, hs, ep, es⟩ := h.2 w (by omega)
      obtain ⟨r, hr, er⟩ := z_sp_r E m.1 (m.2.1 w) (m.2.2 w) w
      have hm : ∀ x : Nat → Int32, z_ok E (m.1, upd m.2.1 w (J (z_to p r s)), x) := fun x => ⟨h.1, fun v hv => by
        by_cases e : v = w
        · subst e
          exact ⟨_, s, z_to_lt hp h2 hr, h2, hs, by show upd _ _ _ _ = _; rw [z_up, if_pos rfl], es⟩
        · obtain ⟨p', s', a1, a2, a3, a4, a5⟩ := h.2 v hv
          exact ⟨p', s', a1, a2, a3, by show upd _ _ _ _ = _; rw [z_up, if_neg e]; exact a4, a5⟩⟩
      rw [z_pu_s E k w m p s r hp h2 hs (by omega) ep es hr er]
      split
      · exact ⟨hm _, rfl⟩
      · exact z_pu_ok E k (w + 1) _ (hm _)
theorem z_nx_ok {E : z_E} {K : Nat} {m : z_Mo} (h : z_ok E m) : z_ok E (z_nx E K m) ∧ (z_nx E K m).1 = m.1 + 1 := z_pu_ok E K 0 (m.1 + 1, m.2) h
theorem z_or_ok {E : z_E} {K : Nat} {m : z_Mo} (h : z_ok E m) : ∀ i, z_ok E (z_or E K i m) ∧ (z_or E K i m).1 = m.1 + J i
  | 0 => ⟨h, by show m.1 = m.1 + J 0; rw [J_0, Int32.add_zero]⟩
  | i + 1 => by
    obtain ⟨a, b⟩ := z_or_ok h i
    obtain ⟨c, d⟩ := z_nx_ok (K := K) a
    exact ⟨c, by show (z_nx E K (z_or E K i m)).1 = _; rw [d, b, Int32.add_assoc, z_Jp]⟩
theorem J_mod (a b : Nat) (ha : a < 2147483648) (hb : b < 2147483648) : J a % J b = J (a % b) := by
  apply Int32.toInt.inj
  have : a % b ≤ a := Nat.mod_le a b
  rw [Int32.toInt_mod, J_toInt ha, J_toInt hb, J_toInt (by omega), Int.ofNat_tmod]
theorem J_div (a b : Nat) (ha : a < 2147483648) (hb : b < 2147483648) : J a / J b = J (a / b) := by
  apply Int32.toInt.inj
  have : a / b ≤ a := Nat.div_le_self a b
  have hb1 : J b ≠ -1 := fun q => by have := congrArg Int32.toInt q; rw [J_toInt hb] at this; simp at this
  rw [Int32.toInt_div_of_ne_right _ _ hb1, J_toInt ha, J_toInt hb, J_toInt (by omega), Int.ofNat_tdiv]
/-- what the class's wheels, breaks, frost are -/
def z_EW (E : z_E) (u : k_S) : Prop := E.1 ≤ 4 ∧ u.1 303 = J E.1 ∧ u.2.1 4 = E.2.1 ∧ u.2.1 5 = E.2.2.1 ∧ u.2.1 6 = E.2.2.2.1 ∧ ∀ v : k_S, v.1 703 = u.1 703 → v.2.1 8 = u.2.1 8 → v.1 705 = u.1 705 → ∀ (t p : Int32) (w : Nat), w < 4 → k_sat (f_Law_valueAt t p (J w) v) (fun r v' => z_fr [704] [9] v v' ∧ (E.2.2.2.2 t p w = true ↔ ¬ r = 0))
theorem z_EW_f {E : z_E} {F A : List Nat} {u v : k_S} (h : z_fr F A u v) (hd : F.elem 303 = false ∧ F.elem 703 = false ∧ F.elem 705 = false ∧ A.elem 4 = false ∧ A.elem 5 = false ∧ A.elem 6 = false ∧ A.elem 8 = false) (hE : z_EW E u) : z_EW E v := by
  obtain ⟨a1, a2, a3, a4, a5, a6, a7⟩ := hd
  obtain ⟨b0, b1, b2, b3, b4, b5⟩ := hE
  exact ⟨b0, by rw [h.1 _ a1]; exact b1, by rw [h.2.1 _ a4]; exact b2, by rw [h.2.1 _ a5]; exact b3, by rw [h.2.1 _ a6]; exact b4, fun x x1 x2 x3 => b5 x (x1.trans (h.1 _ a2)) (x2.trans (h.2.1 _ a7)) (x3.trans (h.1 _ a3))⟩
def z_moNow (u : k_S) : z_Mo := (u.1 1402, u.2.1 15, u.2.1 16)
theorem z_J160_Now (w p s r : Nat) (nv : Int32) (u : k_S) (hw : w < 4) (hp : p < s) (h2 : 2 ≤ s) (hs : s ≤ 40) (hr : r ≤ 2) (es : u.2.1 5 w = J s) : k_sat (f_Nights_pushed_Now_J160 (J w) (J p) nv (J r) u) (fun x v => v = k_wA (k_wA u 15 w (J (z_to p r s))) 16 w nv ∧ x = if p + r < s then 0 else 1) := by
  unfold f_Nights_pushed_Now_J160
  rw [z_Wheels_sizeOf hw, z_bind_some, es, J_add]
  unfold z_to
  by_cases h : p + r < s
  · rw [if_pos h, if_pos h]
    refine z_pos (by rw [J_lt (by omega) (by omega)]; exact h) ?_
    unfold f_Nights_pushed_Now_J184 f_Nights_pushed_Now_J209
    rw [if_pos rfl, J_add, z_Now_stand hw, z_bind_some]
    exact z_zb (by decide) (k_sat_mk ⟨rfl, rfl⟩)
  · rw [if_neg h, if_neg h]
    refine z_neg (by rw [J_lt (by omega) (by omega)]; exact h) ?_
    unfold f_Nights_pushed_Now_J184 f_Nights_pushed_Now_J209
    rw [if_neg (by decide), J_add, z_Wleft (by omega) hs, z_bind_some, J_mod _ _ (by omega) (by omega), z_Now_stand hw, z_bind_some, show (p + r) % s = p + r - s by rw [Nat.mod_eq_sub_mod (by omega), Nat.mod_eq_of_lt (by omega)]]
    exact z_zb (by decide) (k_sat_mk ⟨rfl, rfl⟩)
def z_pqNow (E : z_E) (u : k_S) (w p s r : Nat) (x : Int32) (v : k_S) : Prop := z_fr [1206, 704] [15, 16, 9] u v ∧ v.2.1 15 = upd (u.2.1 15) w (J (z_to p r s)) ∧ v.2.1 16 = upd (u.2.1 16) w (z_sp E (u.1 1402) (u.2.1 15 w) (u.2.1 16 w) w).2 ∧ (x = if p + r < s then 0 else 1) ∧ v.1 1206 = if w = 0 then z_sk E (z_moNow u) (u.1 1206) else u.1 1206
theorem z_pushed_Now (E : z_E) (w p s r : Nat) (u : k_S) (hE : z_EW E u) (hw : w < E.1) (hp : p < s) (h2 : 2 ≤ s) (hs : s ≤ 40) (hr : r ≤ 2) (ep : u.2.1 15 w = J p) (es : E.2.2.1 w = J s) (er : (z_sp E (u.1 1402) (u.2.1 15 w) (u.2.1 16 w) w).1 = J r) : k_sat (f_Nights_pushed_Now (J w) u) (z_pqNow E u w p s r) := by
  have hE' := hE
  obtain ⟨hE4, e303, eL, eS, eB, hc⟩ := hE
  have hw4 : w < 4 := by omega
  have key : ∀ (v : k_S) (q : Nat) (nv : Int32), z_fr [1206, 704] [9] u v → q ≤ 2 → (J q, nv) = z_sp E (u.1 1402) (u.2.1 15 w) (u.2.1 16 w) w → v.1 1206 = (if w = 0 then z_sk E (z_moNow u) (u.1 1206) else u.1 1206) → k_sat (f_Nights_pushed_Now_J160 (J w) (J p) nv (J q) v) (z_pqNow E u w p s r) := by
    intro v q nv hv hq hsp hsk
    have : q = r := by
      rw [← hsp] at er
      rw [← J_toNat (show q < 2147483648 by omega), ← J_toNat (show r < 2147483648 by omega)]
      exact congrArg Int32.toNatClampNeg er
    subst this
    refine z_mono (z_J160_Now w p s q nv v hw4 hp h2 hs hq (by rw [hv.2.1 5 rfl, eS]; exact es)) (fun x v' h' => ?_)
    obtain ⟨rfl, rfl⟩ := h'
    refine ⟨(hv.mono rfl rfl).tr ((z_wA rfl).tr (z_wA rfl)), ?_, ?_, rfl, hsk⟩
    · simp [k_wA, hv.2.1 15 rfl]
    · rw [← hsp]; simp [k_wA, hv.2.1 16 rfl]
  have hsk : ¬ u.2.1 4 (40 * w + p) = 98 → u.1 1206 = if w = 0 then z_sk E (z_moNow u) (u.1 1206) else u.1 1206 := by
    intro h
    by_cases h0 : w = 0
    · subst h0
      rw [if_pos rfl]
      unfold z_sk z_moNow
      rw [if_neg]
      intro hh
      apply h
      rw [eL, show 40 * 0 + p = p by omega]
      have := hh.1
      rw [show ((u.1 1402, u.2.1 15, u.2.1 16) : z_Mo).2.1 0 = u.2.1 15 0 from rfl, ep, J_toNat (by omega)] at this
      exact this
    · rw [if_neg h0]
  have hspe : z_sp E (u.1 1402) (u.2.1 15 w) (u.2.1 16 w) w = if u.2.1 4 (40 * w + p) = 98 then (if u.2.1 6 w ≤ u.1 1402 then (2, u.2.1 16 w) else (1, u.2.1 16 w)) else if u.2.1 4 (40 * w + p) = 102 then (if E.2.2.2.2 (u.1 1402) (u.2.1 15 w) w = true then (0, u.2.1 16 w) else (1, u.2.1 16 w)) else if u.2.1 4 (40 * w + p) = 115 then (2, u.2.1 16 w) else if u.2.1 4 (40 * w + p) = 119 then (1, u.2.1 16 w) else if u.2.1 4 (40 * w + p) - 48 ≤ u.2.1 16 w then (1, 0) else (0, u.2.1 16 w + 1) := by
    unfold z_sp
    rw [ep, J_toNat (show p < 2147483648 by omega), eL, eB]
  unfold f_Nights_pushed_Now
  rw [z_Now_placeOf hw4, z_bind_some, z_Now_waitsOf hw4, z_bind_some, ep, z_letterAt hw4 (by omega), z_bind_some]
  by_cases l1 : u.2.1 4 (40 * w + p) = 115
  · refine z_pos l1 (key u 2 _ z_fr.rf (by omega) ?_ (hsk (by rw [l1]; decide)))
    rw [hspe, l1, if_neg (by decide), if_neg (by decide), if_pos rfl]; rfl
  refine z_neg l1 ?_
  by_cases l2 : u.2.1 4 (40 * w + p) = 102
  · refine z_pos l2 (z_bind _ (hc u rfl rfl rfl (u.1 1402) (J p) w hw4) (fun x v hv => ?_))
    have hcold : z_sp E (u.1 1402) (u.2.1 15 w) (u.2.1 16 w) w = if E.2.2.2.2 (u.1 1402) (u.2.1 15 w) w = true then (0, u.2.1 16 w) else (1, u.2.1 16 w) := by
      rw [hspe, l2, if_neg (by decide), if_pos rfl]
    have hsk2 : v.1 1206 = if w = 0 then z_sk E (z_moNow u) (u.1 1206) else u.1 1206 := (hv.1.1 1206 rfl).trans (hsk (by rw [l2]; decide))
    refine z_ite (fun hx => ?_) (fun hx => ?_)
    · unfold f_Nights_pushed_Now_J68
      refine key v 1 _ (hv.1.mono rfl rfl) (by omega) ?_ hsk2
      rw [hcold, ep, if_neg (fun q => (hv.2.mp q) hx)]; rfl
    · unfold f_Nights_pushed_Now_J68
      refine key v 0 _ (hv.1.mono rfl rfl) (by omega) ?_ hsk2
      rw [hcold, ep, if_pos (hv.2.mpr hx)]; rfl
  refine z_neg l2 ?_
  by_cases l3 : u.2.1 4 (40 * w + p) = 98
  · refine z_pos l3 ?_
    rw [z_Wheels_breakOf hw4, z_bind_some]
    have hb : z_sp E (u.1 1402) (u.2.1 15 w) (u.2.1 16 w) w = if u.2.1 6 w ≤ u.1 1402 then (2, u.2.1 16 w) else (1, u.2.1 16 w) := by
      rw [hspe, l3, if_pos rfl]
    have hl0 : w = 0 → E.2.1 ((z_moNow u).2.1 0).toNatClampNeg = 98 := by
      intro h0
      subst h0
      rw [show (z_moNow u).2.1 0 = u.2.1 15 0 from rfl, ep, J_toNat (by omega), ← eL]
      rw [show 40 * 0 + p = p by omega] at l3
      exact l3
    by_cases l4 : u.1 1402 < u.2.1 6 w
    · refine z_pos l4 (key u 1 _ z_fr.rf (by omega) ?_ ?_)
      · rw [hb, if_neg (by ((try simp (disch := omega) only [Int32.lt_iff_toInt_lt, Int32.le_iff_toInt_le, ← Int32.toInt_inj, Int32.toInt_add, Int32.toInt_sub, Int32.toInt_mul, Int32.toInt_neg, z_bm, z_bm2, J_ti, J_toInt, z_cn, Int32.reduceToInt] at *); omega))]; rfl
      · by_cases h0 : w = 0
        · subst h0
          rw [if_pos rfl]
          unfold z_sk
          rw [if_neg]
          rintro ⟨-, q, -⟩
          rw [← eB] at q
          have : u.2.1 6 0 ≤ u.1 1402 := q
          ((try simp (disch := omega) only [Int32.lt_iff_toInt_lt, Int32.le_iff_toInt_le, ← Int32.toInt_inj, Int32.toInt_add, Int32.toInt_sub, Int32.toInt_mul, Int32.toInt_neg, z_bm, z_bm2, J_ti, J_toInt, z_cn, Int32.reduceToInt] at *); omega)
        · rw [if_neg h0]
    · refine z_neg l4 ?_
      have e2 : (J 2, u.2.1 16 w) = z_sp E (u.1 1402) (u.2.1 15 w) (u.2.1 16 w) w := by rw [hb, if_pos (by ((try simp (disch := omega) only [Int32.lt_iff_toInt_lt, Int32.le_iff_toInt_le, ← Int32.toInt_inj, Int32.toInt_add, Int32.toInt_sub, Int32.toInt_mul, Int32.toInt_neg, z_bm, z_bm2, J_ti, J_toInt, z_cn, Int32.reduceToInt] at *); omega))]; rfl
      by_cases h0 : w = 0
      · subst h0
        refine z_pos rfl ?_
        have hq : E.2.2.2.1 0 ≤ (z_moNow u).1 := by
          rw [← eB]
          show u.2.1 6 0 ≤ u.1 1402
          ((try simp (disch := omega) only [Int32.lt_iff_toInt_lt, Int32.le_iff_toInt_le, ← Int32.toInt_inj, Int32.toInt_add, Int32.toInt_sub, Int32.toInt_mul, Int32.toInt_neg, z_bm, z_bm2, J_ti, J_toInt, z_cn, Int32.reduceToInt] at *); omega)
        refine z_ite (fun h5 => z_let (key _ 2 _ (z_wF rfl) (by omega) e2 ?_)) (fun h5 => key u 2 _ z_fr.rf (by omega) e2 ?_)
        · rw [if_pos rfl]
          unfold z_sk
          rw [if_pos ⟨hl0 rfl, hq, h5⟩]
          simp [k_wF, z_moNow]
        · rw [if_pos rfl]
          unfold z_sk
          rw [if_neg (fun q => h5 q.2.2)]
      · exact z_neg (by (try simp (disch := omega) only [Int32.lt_iff_toInt_lt, Int32.le_iff_toInt_le, ← Int32.toInt_inj, Int32.toInt_add, Int32.toInt_sub, Int32.toInt_mul, Int32.toInt_neg, z_bm, z_bm2, J_ti, J_toInt, z_cn, Int32.reduceToInt]) <;> omega) (key u 2 _ z_fr.rf (by omega) e2 (by rw [if_neg h0]))
  refine z_neg l3 ?_
  by_cases l4 : u.2.1 4 (40 * w + p) = 119
  · refine z_pos l4 (key u 1 _ z_fr.rf (by omega) ?_ (hsk l3))
    rw [hspe, l4, if_neg (by decide), if_neg (by decide), if_neg (by decide), if_pos rfl]; rfl
  refine z_neg l4 ?_
  unfold f_Nights_pushed_Now_J143 f_Nights_pushed_Now_J158
  refine z_ite (fun l5 => ?_) (fun l5 => ?_)
  · refine z_neg (by decide) (key u 1 0 z_fr.rf (by omega) ?_ (hsk l3))
    rw [hspe, if_neg l3, if_neg l2, if_neg l1, if_neg l4, if_pos l5]; rfl
  · refine z_pos rfl (key u 0 _ z_fr.rf (by omega) ?_ (hsk l3))
    rw [hspe, if_neg l3, if_neg l2, if_neg l1, if_neg l4, if_neg l5]; rfl
def z_moThought (u : k_S) : z_Mo := (u.1 1702, u.2.1 18, u.2.1 19)
theorem z_J160_Thought (w p s r : Nat) (nv : Int32) (u : k_S) (hw : w < 4) (hp : p < s) (h2 : 2 ≤ s) (hs : s ≤ 40) (hr : r ≤ 2) (es : u.2.1 5 w = J s) : k_sat (f_Nights_pushed_Thought_J160 (J w) (J p) nv (J r) u) (fun x v => v = k_wA (k_wA u 18 w (J (z_to p r s))) 19 w nv ∧ x = if p + r < s then 0 else 1) := by
  unfold f_Nights_pushed_Thought_J160
  rw [z_Wheels_sizeOf hw, z_bind_some, es, J_add]
  unfold z_to
  by_cases h : p + r < s
  · rw [if_pos h, if_pos h]
    refine z_pos (by rw [J_lt (by omega) (by omega)]; exact h) ?_
    unfold f_Nights_pushed_Thought_J184 f_Nights_pushed_Thought_J209
    rw [if_pos rfl, J_add, z_Thought_stand hw, z_bind_some]
    exact z_zb (by decide) (k_sat_mk ⟨rfl, rfl⟩)
  · rw [if_neg h, if_neg h]
    refine z_neg (by rw [J_lt (by omega) (by omega)]; exact h) ?_
    unfold f_Nights_pushed_Thought_J184 f_Nights_pushed_Thought_J209
    rw [if_neg (by decide), J_add, z_Wleft (by omega) hs, z_bind_some, J_mod _ _ (by omega) (by omega), z_Thought_stand hw, z_bind_some, show (p + r) % s = p + r - s by rw [Nat.mod_eq_sub_mod (by omega), Nat.mod_eq_of_lt (by omega)]]
    exact z_zb (by decide) (k_sat_mk ⟨rfl, rfl⟩)
def z_pqThought (E : z_E) (u : k_S) (w p s r : Nat) (x : Int32) (v : k_S) : Prop := z_fr [1206, 704] [18, 19, 9] u v ∧ v.2.1 18 = upd (u.2.1 18) w (J (z_to p r s)) ∧ v.2.1 19 = upd (u.2.1 19) w (z_sp E (u.1 1702) (u.2.1 18 w) (u.2.1 19 w) w).2 ∧ (x = if p + r < s then 0 else 1) ∧ v.1 1206 = if w = 0 then z_sk E (z_moThought u) (u.1 1206) else u.1 1206
theorem z_pushed_Thought (E : z_E) (w p s r : Nat) (u : k_S) (hE : z_EW E u) (hw : w < E.1) (hp : p < s) (h2 : 2 ≤ s) (hs : s ≤ 40) (hr : r ≤ 2) (ep : u.2.1 18 w = J p) (es : E.2.2.1 w = J s) (er : (z_sp E (u.1 1702) (u.2.1 18 w) (u.2.1 19 w) w).1 = J r) : k_sat (f_Nights_pushed_Thought (J w) u) (z_pqThought E u w p s r) := by
  have hE' := hE
  obtain ⟨hE4, e303, eL, eS, eB, hc⟩ := hE
  have hw4 : w < 4 := by omega
  have key : ∀ (v : k_S) (q : Nat) (nv : Int32), z_fr [1206, 704] [9] u v → q ≤ 2 → (J q, nv) = z_sp E (u.1 1702) (u.2.1 18 w) (u.2.1 19 w) w → v.1 1206 = (if w = 0 then z_sk E (z_moThought u) (u.1 1206) else u.1 1206) → k_sat (f_Nights_pushed_Thought_J160 (J w) (J p) nv (J q) v) (z_pqThought E u w p s r) := by
    intro v q nv hv hq hsp hsk
    have : q = r := by
      rw [← hsp] at er
      rw [← J_toNat (show q < 2147483648 by omega), ← J_toNat (show r < 2147483648 by omega)]
      exact congrArg Int32.toNatClampNeg er
    subst this
    refine z_mono (z_J160_Thought w p s q nv v hw4 hp h2 hs hq (by rw [hv.2.1 5 rfl, eS]; exact es)) (fun x v' h' => ?_)
    obtain ⟨rfl, rfl⟩ := h'
    refine ⟨(hv.mono rfl rfl).tr ((z_wA rfl).tr (z_wA rfl)), ?_, ?_, rfl, hsk⟩
    · simp [k_wA, hv.2.1 18 rfl]
    · rw [← hsp]; simp [k_wA, hv.2.1 19 rfl]
  have hsk : ¬ u.2.1 4 (40 * w + p) = 98 → u.1 1206 = if w = 0 then z_sk E (z_moThought u) (u.1 1206) else u.1 1206 := by
    intro h
    by_cases h0 : w = 0
    · subst h0
      rw [if_pos rfl]
      unfold z_sk z_moThought
      rw [if_neg]
      intro hh
      apply h
      rw [eL, show 40 * 0 + p = p by omega]
      have := hh.1
      rw [show ((u.1 1702, u.2.1 18, u.2.1 19) : z_Mo).2.1 0 = u.2.1 18 0 from rfl, ep, J_toNat (by omega)] at this
      exact this
    · rw [if_neg h0]
  have hspe : z_sp E (u.1 1702) (u.2.1 18 w) (u.2.1 19 w) w = if u.2.1 4 (40 * w + p) = 98 then (if u.2.1 6 w ≤ u.1 1702 then (2, u.2.1 19 w) else (1, u.2.1 19 w)) else if u.2.1 4 (40 * w + p) = 102 then (if E.2.2.2.2 (u.1 1702) (u.2.1 18 w) w = true then (0, u.2.1 19 w) else (1, u.2.1 19 w)) else if u.2.1 4 (40 * w + p) = 115 then (2, u.2.1 19 w) else if u.2.1 4 (40 * w + p) = 119 then (1, u.2.1 19 w) else if u.2.1 4 (40 * w + p) - 48 ≤ u.2.1 19 w then (1, 0) else (0, u.2.1 19 w + 1) := by
    unfold z_sp
    rw [ep, J_toNat (show p < 2147483648 by omega), eL, eB]
  unfold f_Nights_pushed_Thought
  rw [z_Thought_placeOf hw4, z_bind_some, z_Thought_waitsOf hw4, z_bind_some, ep, z_letterAt hw4 (by omega), z_bind_some]
  by_cases l1 : u.2.1 4 (40 * w + p) = 115
  · refine z_pos l1 (key u 2 _ z_fr.rf (by omega) ?_ (hsk (by rw [l1]; decide)))
    rw [hspe, l1, if_neg (by decide), if_neg (by decide), if_pos rfl]; rfl
  refine z_neg l1 ?_
  by_cases l2 : u.2.1 4 (40 * w + p) = 102
  · refine z_pos l2 (z_bind _ (hc u rfl rfl rfl (u.1 1702) (J p) w hw4) (fun x v hv => ?_))
    have hcold : z_sp E (u.1 1702) (u.2.1 18 w) (u.2.1 19 w) w = if E.2.2.2.2 (u.1 1702) (u.2.1 18 w) w = true then (0, u.2.1 19 w) else (1, u.2.1 19 w) := by
      rw [hspe, l2, if_neg (by decide), if_pos rfl]
    have hsk2 : v.1 1206 = if w = 0 then z_sk E (z_moThought u) (u.1 1206) else u.1 1206 := (hv.1.1 1206 rfl).trans (hsk (by rw [l2]; decide))
    refine z_ite (fun hx => ?_) (fun hx => ?_)
    · unfold f_Nights_pushed_Thought_J68
      refine key v 1 _ (hv.1.mono rfl rfl) (by omega) ?_ hsk2
      rw [hcold, ep, if_neg (fun q => (hv.2.mp q) hx)]; rfl
    · unfold f_Nights_pushed_Thought_J68
      refine key v 0 _ (hv.1.mono rfl rfl) (by omega) ?_ hsk2
      rw [hcold, ep, if_pos (hv.2.mpr hx)]; rfl
  refine z_neg l2 ?_
  by_cases l3 : u.2.1 4 (40 * w + p) = 98
  · refine z_pos l3 ?_
    rw [z_Wheels_breakOf hw4, z_bind_some]
    have hb : z_sp E (u.1 1702) (u.2.1 18 w) (u.2.1 19 w) w = if u.2.1 6 w ≤ u.1 1702 then (2, u.2.1 19 w) else (1, u.2.1 19 w) := by
      rw [hspe, l3, if_pos rfl]
    have hl0 : w = 0 → E.2.1 ((z_moThought u).2.1 0).toNatClampNeg = 98 := by
      intro h0
      subst h0
      rw [show (z_moThought u).2.1 0 = u.2.1 18 0 from rfl, ep, J_toNat (by omega), ← eL]
      rw [show 40 * 0 + p = p by omega] at l3
      exact l3
    by_cases l4 : u.1 1702 < u.2.1 6 w
    · refine z_pos l4 (key u 1 _ z_fr.rf (by omega) ?_ ?_)
      · rw [hb, if_neg (by ((try simp (disch := omega) only [Int32.lt_iff_toInt_lt, Int32.le_iff_toInt_le, ← Int32.toInt_inj, Int32.toInt_add, Int32.toInt_sub, Int32.toInt_mul, Int32.toInt_neg, z_bm, z_bm2, J_ti, J_toInt, z_cn, Int32.reduceToInt] at *); omega))]; rfl
      · by_cases h0 : w = 0
        · subst h0
          rw [if_pos rfl]
          unfold z_sk
          rw [if_neg]
          rintro ⟨-, q, -⟩
          rw [← eB] at q
          have : u.2.1 6 0 ≤ u.1 1702 := q
          ((try simp (disch := omega) only [Int32.lt_iff_toInt_lt, Int32.le_iff_toInt_le, ← Int32.toInt_inj, Int32.toInt_add, Int32.toInt_sub, Int32.toInt_mul, Int32.toInt_neg, z_bm, z_bm2, J_ti, J_toInt, z_cn, Int32.reduceToInt] at *); omega)
        · rw [if_neg h0]
    · refine z_neg l4 ?_
      have e2 : (J 2, u.2.1 19 w) = z_sp E (u.1 1702) (u.2.1 18 w) (u.2.1 19 w) w := by rw [hb, if_pos (by ((try simp (disch := omega) only [Int32.lt_iff_toInt_lt, Int32.le_iff_toInt_le, ← Int32.toInt_inj, Int32.toInt_add, Int32.toInt_sub, Int32.toInt_mul, Int32.toInt_neg, z_bm, z_bm2, J_ti, J_toInt, z_cn, Int32.reduceToInt] at *); omega))]; rfl
      by_cases h0 : w = 0
      · subst h0
        refine z_pos rfl ?_
        have hq : E.2.2.2.1 0 ≤ (z_moThought u).1 := by
          rw [← eB]
          show u.2.1 6 0 ≤ u.1 1702
          ((try simp (disch := omega) only [Int32.lt_iff_toInt_lt, Int32.le_iff_toInt_le, ← Int32.toInt_inj, Int32.toInt_add, Int32.toInt_sub, Int32.toInt_mul, Int32.toInt_neg, z_bm, z_bm2, J_ti, J_toInt, z_cn, Int32.reduceToInt] at *); omega)
        refine z_ite (fun h5 => z_let (key _ 2 _ (z_wF rfl) (by omega) e2 ?_)) (fun h5 => key u 2 _ z_fr.rf (by omega) e2 ?_)
        · rw [if_pos rfl]
          unfold z_sk
          rw [if_pos ⟨hl0 rfl, hq, h5⟩]
          simp [k_wF, z_moThought]
        · rw [if_pos rfl]
          unfold z_sk
          rw [if_neg (fun q => h5 q.2.2)]
      · exact z_neg (by (try simp (disch := omega) only [Int32.lt_iff_toInt_lt, Int32.le_iff_toInt_le, ← Int32.toInt_inj, Int32.toInt_add, Int32.toInt_sub, Int32.toInt_mul, Int32.toInt_neg, z_bm, z_bm2, J_ti, J_toInt, z_cn, Int32.reduceToInt]) <;> omega) (key u 2 _ z_fr.rf (by omega) e2 (by rw [if_neg h0]))
  refine z_neg l3 ?_
  by_cases l4 : u.2.1 4 (40 * w + p) = 119
  · refine z_pos l4 (key u 1 _ z_fr.rf (by omega) ?_ (hsk l3))
    rw [hspe, l4, if_neg (by decide), if_neg (by decide), if_neg (by decide), if_pos rfl]; rfl
  refine z_neg l4 ?_
  unfold f_Nights_pushed_Thought_J143 f_Nights_pushed_Thought_J158
  refine z_ite (fun l5 => ?_) (fun l5 => ?_)
  · refine z_neg (by decide) (key u 1 0 z_fr.rf (by omega) ?_ (hsk l3))
    rw [hspe, if_neg l3, if_neg l2, if_neg l1, if_neg l4, if_pos l5]; rfl
  · refine z_pos rfl (key u 0 _ z_fr.rf (by omega) ?_ (hsk l3))
    rw [hspe, if_neg l3, if_neg l2, if_neg l1, if_neg l4, if_neg l5]; rfl
/-! NIGHTS PASS: the class's, the reference's -/
theorem z_moX_Now {E : z_E} {u v : k_S} {w p s r : Nat} {x : Int32} (hv : z_pqNow E u w p s r x v) : z_moNow v = ((z_moNow u).1, upd (z_moNow u).2.1 w (J (z_to p r s)), upd (z_moNow u).2.2 w (z_sp E (z_moNow u).1 ((z_moNow u).2.1 w) ((z_moNow u).2.2 w) w).2) := by
  obtain ⟨h1, h2, h3, -⟩ := hv
  unfold z_moNow
  rw [h1.1 1402 rfl, h2, h3]
theorem z_inner_Now (E : z_E) (v2 v4 : Int32) (K : Nat) (hK : K ≤ 4) : ∀ (k w N : Nat) (u : k_S), w + k = K → k + 1 < N → z_EW E u → z_ok E (z_moNow u) → k_sat (k_itr (fun (x : (Int32 × Int32)) u => f_Nights_pass_Now_B25 v2 (J K) v4 x.1 x.2 u) N (1, J w) u) (fun _ v => z_fr [1206, 704] [15, 16, 9] u v ∧ z_moNow v = z_pu E k w (z_moNow u) ∧ v.1 1206 = if w = 0 ∧ 0 < k ∧ 0 < E.1 then z_sk E (z_moNow u) (u.1 1206) else u.1 1206)
  | 0, w, N, u, hw, hN, hE, hok => by
    obtain ⟨n, rfl⟩ : ∃ n, N = n + 1 := ⟨N - 1, by omega⟩
    refine z_exit ?_
    unfold f_Nights_pass_Now_B25
    dsimp only
    exact z_neg (by decide) (z_pos (by (try simp (disch := omega) only [Int32.lt_iff_toInt_lt, Int32.le_iff_toInt_le, ← Int32.toInt_inj, Int32.toInt_add, Int32.toInt_sub, Int32.toInt_mul, Int32.toInt_neg, z_bm, z_bm2, J_ti, J_toInt, z_cn, Int32.reduceToInt]) <;> omega) (k_sat_mk ⟨_, rfl, z_fr.rf, rfl, by rw [if_neg (by omega)]⟩))
  | k + 1, w, N, u, hw, hN, hE, hok => by
    obtain ⟨n, rfl⟩ : ∃ n, N = n + 1 := ⟨N - 1, by omega⟩
    by_cases hwE : E.1 ≤ w
    · refine z_exit ?_
      unfold f_Nights_pass_Now_B25
      dsimp only
      refine z_neg (by decide) (z_neg (by (try simp (disch := omega) only [Int32.lt_iff_toInt_lt, Int32.le_iff_toInt_le, ← Int32.toInt_inj, Int32.toInt_add, Int32.toInt_sub, Int32.toInt_mul, Int32.toInt_neg, z_bm, z_bm2, J_ti, J_toInt, z_cn, Int32.reduceToInt]) <;> omega) (z_pos (by rw [hE.2.1]; have := hE.1; (try simp (disch := omega) only [Int32.lt_iff_toInt_lt, Int32.le_iff_toInt_le, ← Int32.toInt_inj, Int32.toInt_add, Int32.toInt_sub, Int32.toInt_mul, Int32.toInt_neg, z_bm, z_bm2, J_ti, J_toInt, z_cn, Int32.reduceToInt]) <;> omega) (k_sat_mk ⟨_, rfl, z_fr.rf, ?_, ?_⟩)))
      · rw [z_pu, if_pos hwE]
      · rw [if_neg (by omega)]
    · obtain ⟨p, s, hp, h2, hs, ep, es⟩ := hok.2 w (by omega)
      obtain ⟨r, hr, er⟩ := z_sp_r E (u.1 1402) (u.2.1 15 w) (u.2.1 16 w) w
      refine z_turn ?_
      unfold f_Nights_pass_Now_B25
      dsimp only
      refine z_neg (by decide) (z_neg (by (try simp (disch := omega) only [Int32.lt_iff_toInt_lt, Int32.le_iff_toInt_le, ← Int32.toInt_inj, Int32.toInt_add, Int32.toInt_sub, Int32.toInt_mul, Int32.toInt_neg, z_bm, z_bm2, J_ti, J_toInt, z_cn, Int32.reduceToInt]) <;> omega) (z_neg (by rw [hE.2.1]; have := hE.1; (try simp (disch := omega) only [Int32.lt_iff_toInt_lt, Int32.le_iff_toInt_le, ← Int32.toInt_inj, Int32.toInt_add, Int32.toInt_sub, Int32.toInt_mul, Int32.toInt_neg, z_bm, z_bm2, J_ti, J_toInt, z_cn, Int32.reduceToInt]) <;> omega) (z_bind _ (z_pushed_Now E w p s r u hE (by omega) hp h2 hs hr ep es er) (fun x v hv => k_sat_mk ⟨_, rfl, ?_⟩))))
      have hm := z_moX_Now hv
      have hpu := z_pu_s E k w (z_moNow u) p s r hp h2 hs (by omega) ep es hr er
      obtain ⟨g1, g2, g3, g4, g5⟩ := hv
      by_cases h : p + r < s
      · rw [if_pos h] at g4 hpu
        subst g4
        obtain ⟨n', rfl⟩ : ∃ n', n = n' + 1 := ⟨n - 1, by omega⟩
        refine z_exit (z_pos rfl (k_sat_mk ⟨_, rfl, g1, ?_, ?_⟩))
        · rw [hm, hpu]
        · rw [g5]
          by_cases h0 : w = 0
          · rw [if_pos h0, if_pos ⟨h0, by omega, by omega⟩]
          · rw [if_neg h0, if_neg (fun q => h0 q.1)]
      · rw [if_neg h] at g4 hpu
        subst g4
        have hok1 : z_ok E (z_moNow v) := by
          have := (z_pu_ok E 1 w (z_moNow u) hok).1
          rw [z_pu_s E 0 w (z_moNow u) p s r hp h2 hs (by omega) ep es hr er, if_neg h] at this
          rw [hm]
          exact this
        rw [z_J1]
        refine z_mono (z_inner_Now E v2 v4 K hK k (w + 1) n v (by omega) (by omega) (z_EW_f g1 (by decide) hE) hok1) (fun _ v' h' => ⟨g1.tr h'.1, ?_, ?_⟩)
        · rw [h'.2.1, hm, hpu]
        · rw [h'.2.2, if_neg (by omega), g5]
          by_cases h0 : w = 0
          · rw [if_pos h0, if_pos ⟨h0, by omega, by omega⟩]
          · rw [if_neg h0, if_neg (fun q => h0 q.1)]
theorem z_pass_Now (E : z_E) (n K : Nat) (hn : n < 2147483648) (hK : K ≤ 4) (u : k_S) (hE : z_EW E u) (hok : z_ok E (z_moNow u)) : k_sat (f_Nights_pass_Now (J n) (J K) u) (fun _ v => z_fr [1402, 1206, 704] [15, 16, 9] u v ∧ z_moNow v = z_or E K n (z_moNow u) ∧ v.1 1206 = z_os E K (u.1 1206) n (z_moNow u)) := by
  unfold f_Nights_pass_Now
  refine z_bind _ (z_for 0 n (fun i v => z_fr [1402, 1206, 704] [15, 16, 9] u v ∧ z_moNow v = z_or E K i (z_moNow u) ∧ v.1 1206 = z_os E K (u.1 1206) i (z_moNow u)) (K := fun _ v => z_fr [1402, 1206, 704] [15, 16, 9] u v ∧ z_moNow v = z_or E K n (z_moNow u) ∧ v.1 1206 = z_os E K (u.1 1206) n (z_moNow u)) hn (Nat.zero_le n) ⟨z_fr.rf, rfl, rfl⟩ (fun i v _ hi hp => ?_) (fun v hp => ?_)) (fun _ v h => k_sat_mk h)
  · obtain ⟨h1, h2, h3⟩ := hp
    unfold f_Nights_pass_Now_B3
    refine z_neg (by (try simp (disch := omega) only [Int32.lt_iff_toInt_lt, Int32.le_iff_toInt_le, ← Int32.toInt_inj, Int32.toInt_add, Int32.toInt_sub, Int32.toInt_mul, Int32.toInt_neg, z_bm, z_bm2, J_ti, J_toInt, z_cn, Int32.reduceToInt]) <;> omega) (z_let ?_)
    have hm1 : z_moNow (k_wF v 1402 (v.1 1402 + 1)) = ((z_or E K i (z_moNow u)).1 + 1, (z_or E K i (z_moNow u)).2) := by
      rw [← h2]
      unfold z_moNow
      simp [k_wF]
    have hf1 : z_fr [1402] [] v (k_wF v 1402 (v.1 1402 + 1)) := z_wF rfl
    have hokv := (z_or_ok (K := K) hok i).1
    refine z_bind _ (z_inner_Now E _ _ K hK K 0 k_FU (k_wF v 1402 (v.1 1402 + 1)) (by omega) (by unfold k_FU; omega) (z_EW_f hf1 (by decide) (z_EW_f h1 (by decide) hE)) (by rw [hm1]; exact hokv)) (fun _ v' h' => k_sat_mk (Or.inl ⟨rfl, ?_, ?_, ?_⟩))
    · exact (h1.tr (hf1.mono rfl rfl)).tr (h'.1.mono rfl rfl)
    · rw [h'.2.1, hm1]; rfl
    · rw [h'.2.2, hm1]
      show _ = if 0 < K ∧ 0 < E.1 then _ else _
      have e6 : (k_wF v 1402 (v.1 1402 + 1)).1 1206 = z_os E K (u.1 1206) i (z_moNow u) := by
        rw [← h3]
        simp [k_wF]
      rw [e6]
      by_cases hc : 0 < K ∧ 0 < E.1
      · rw [if_pos ⟨rfl, hc⟩, if_pos hc]
      · rw [if_neg (fun q => hc q.2), if_neg hc]
  · unfold f_Nights_pass_Now_B3
    exact z_pos (Int32.le_refl _) (k_sat_mk ⟨_, rfl, hp⟩)
theorem z_moX_Thought {E : z_E} {u v : k_S} {w p s r : Nat} {x : Int32} (hv : z_pqThought E u w p s r x v) : z_moThought v = ((z_moThought u).1, upd (z_moThought u).2.1 w (J (z_to p r s)), upd (z_moThought u).2.2 w (z_sp E (z_moThought u).1 ((z_moThought u).2.1 w) ((z_moThought u).2.2 w) w).2) := by
  obtain ⟨h1, h2, h3, -⟩ := hv
  unfold z_moThought
  rw [h1.1 1702 rfl, h2, h3]
theorem z_inner_Thought (E : z_E) (v2 v4 : Int32) (K : Nat) (hK : K ≤ 4) : ∀ (k w N : Nat) (u : k_S), w + k = K → k + 1 < N → z_EW E u → z_ok E (z_moThought u) → k_sat (k_itr (fun (x : (Int32 × Int32)) u => f_Nights_pass_Thought_B25 v2 (J K) v4 x.1 x.2 u) N (1, J w) u) (fun _ v => z_fr [1206, 704] [18, 19, 9] u v ∧ z_moThought v = z_pu E k w (z_moThought u) ∧ v.1 1206 = if w = 0 ∧ 0 < k ∧ 0 < E.1 then z_sk E (z_moThought u) (u.1 1206) else u.1 1206)
  | 0, w, N, u, hw, hN, hE, hok => by
    obtain ⟨n, rfl⟩ : ∃ n, N = n + 1 := ⟨N - 1, by omega⟩
    refine z_exit ?_
    unfold f_Nights_pass_Thought_B25
    dsimp only
    exact z_neg (by decide) (z_pos (by (try simp (disch := omega) only [Int32.lt_iff_toInt_lt, Int32.le_iff_toInt_le, ← Int32.toInt_inj, Int32.toInt_add, Int32.toInt_sub, Int32.toInt_mul, Int32.toInt_neg, z_bm, z_bm2, J_ti, J_toInt, z_cn, Int32.reduceToInt]) <;> omega) (k_sat_mk ⟨_, rfl, z_fr.rf, rfl, by rw [if_neg (by omega)]⟩))
  | k + 1, w, N, u, hw, hN, hE, hok => by
    obtain ⟨n, rfl⟩ : ∃ n, N = n + 1 := ⟨N - 1, by omega⟩
    by_cases hwE : E.1 ≤ w
    · refine z_exit ?_
      unfold f_Nights_pass_Thought_B25
      dsimp only
      refine z_neg (by decide) (z_neg (by (try simp (disch := omega) only [Int32.lt_iff_toInt_lt, Int32.le_iff_toInt_le, ← Int32.toInt_inj, Int32.toInt_add, Int32.toInt_sub, Int32.toInt_mul, Int32.toInt_neg, z_bm, z_bm2, J_ti, J_toInt, z_cn, Int32.reduceToInt]) <;> omega) (z_pos (by rw [hE.2.1]; have := hE.1; (try simp (disch := omega) only [Int32.lt_iff_toInt_lt, Int32.le_iff_toInt_le, ← Int32.toInt_inj, Int32.toInt_add, Int32.toInt_sub, Int32.toInt_mul, Int32.toInt_neg, z_bm, z_bm2, J_ti, J_toInt, z_cn, Int32.reduceToInt]) <;> omega) (k_sat_mk ⟨_, rfl, z_fr.rf, ?_, ?_⟩)))
      · rw [z_pu, if_pos hwE]
      · rw [if_neg (by omega)]
    · obtain ⟨p, s, hp, h2, hs, ep, es⟩ := hok.2 w (by omega)
      obtain ⟨r, hr, er⟩ := z_sp_r E (u.1 1702) (u.2.1 18 w) (u.2.1 19 w) w
      refine z_turn ?_
      unfold f_Nights_pass_Thought_B25
      dsimp only
      refine z_neg (by decide) (z_neg (by (try simp (disch := omega) only [Int32.lt_iff_toInt_lt, Int32.le_iff_toInt_le, ← Int32.toInt_inj, Int32.toInt_add, Int32.toInt_sub, Int32.toInt_mul, Int32.toInt_neg, z_bm, z_bm2, J_ti, J_toInt, z_cn, Int32.reduceToInt]) <;> omega) (z_neg (by rw [hE.2.1]; have := hE.1; (try simp (disch := omega) only [Int32.lt_iff_toInt_lt, Int32.le_iff_toInt_le, ← Int32.toInt_inj, Int32.toInt_add, Int32.toInt_sub, Int32.toInt_mul, Int32.toInt_neg, z_bm, z_bm2, J_ti, J_toInt, z_cn, Int32.reduceToInt]) <;> omega) (z_bind _ (z_pushed_Thought E w p s r u hE (by omega) hp h2 hs hr ep es er) (fun x v hv => k_sat_mk ⟨_, rfl, ?_⟩))))
      have hm := z_moX_Thought hv
      have hpu := z_pu_s E k w (z_moThought u) p s r hp h2 hs (by omega) ep es hr er
      obtain ⟨g1, g2, g3, g4, g5⟩ := hv
      by_cases h : p + r < s
      · rw [if_pos h] at g4 hpu
        subst g4
        obtain ⟨n', rfl⟩ : ∃ n', n = n' + 1 := ⟨n - 1, by omega⟩
        refine z_exit (z_pos rfl (k_sat_mk ⟨_, rfl, g1, ?_, ?_⟩))
        · rw [hm, hpu]
        · rw [g5]
          by_cases h0 : w = 0
          · rw [if_pos h0, if_pos ⟨h0, by omega, by omega⟩]
          · rw [if_neg h0, if_neg (fun q => h0 q.1)]
      · rw [if_neg h] at g4 hpu
        subst g4
        have hok1 : z_ok E (z_moThought v) := by
          have := (z_pu_ok E 1 w (z_moThought u) hok).1
          rw [z_pu_s E 0 w (z_moThought u) p s r hp h2 hs (by omega) ep es hr er, if_neg h] at this
          rw [hm]
          exact this
        rw [z_J1]
        refine z_mono (z_inner_Thought E v2 v4 K hK k (w + 1) n v (by omega) (by omega) (z_EW_f g1 (by decide) hE) hok1) (fun _ v' h' => ⟨g1.tr h'.1, ?_, ?_⟩)
        · rw [h'.2.1, hm, hpu]
        · rw [h'.2.2, if_neg (by omega), g5]
          by_cases h0 : w = 0
          · rw [if_pos h0, if_pos ⟨h0, by omega, by omega⟩]
          · rw [if_neg h0, if_neg (fun q => h0 q.1)]
theorem z_pass_Thought (E : z_E) (n K : Nat) (hn : n < 2147483648) (hK : K ≤ 4) (u : k_S) (hE : z_EW E u) (hok : z_ok E (z_moThought u)) : k_sat (f_Nights_pass_Thought (J n) (J K) u) (fun _ v => z_fr [1702, 1206, 704] [18, 19, 9] u v ∧ z_moThought v = z_or E K n (z_moThought u) ∧ v.1 1206 = z_os E K (u.1 1206) n (z_moThought u)) := by
  unfold f_Nights_pass_Thought
  refine z_bind _ (z_for 0 n (fun i v => z_fr [1702, 1206, 704] [18, 19, 9] u v ∧ z_moThought v = z_or E K i (z_moThought u) ∧ v.1 1206 = z_os E K (u.1 1206) i (z_moThought u)) (K := fun _ v => z_fr [1702, 1206, 704] [18, 19, 9] u v ∧ z_moThought v = z_or E K n (z_moThought u) ∧ v.1 1206 = z_os E K (u.1 1206) n (z_moThought u)) hn (Nat.zero_le n) ⟨z_fr.rf, rfl, rfl⟩ (fun i v _ hi hp => ?_) (fun v hp => ?_)) (fun _ v h => k_sat_mk h)
  · obtain ⟨h1, h2, h3⟩ := hp
    unfold f_Nights_pass_Thought_B3
    refine z_neg (by (try simp (disch := omega) only [Int32.lt_iff_toInt_lt, Int32.le_iff_toInt_le, ← Int32.toInt_inj, Int32.toInt_add, Int32.toInt_sub, Int32.toInt_mul, Int32.toInt_neg, z_bm, z_bm2, J_ti, J_toInt, z_cn, Int32.reduceToInt]) <;> omega) (z_let ?_)
    have hm1 : z_moThought (k_wF v 1702 (v.1 1702 + 1)) = ((z_or E K i (z_moThought u)).1 + 1, (z_or E K i (z_moThought u)).2) := by
      rw [← h2]
      unfold z_moThought
      simp [k_wF]
    have hf1 : z_fr [1702] [] v (k_wF v 1702 (v.1 1702 + 1)) := z_wF rfl
    have hokv := (z_or_ok (K := K) hok i).1
    refine z_bind _ (z_inner_Thought E _ _ K hK K 0 k_FU (k_wF v 1702 (v.1 1702 + 1)) (by omega) (by unfold k_FU; omega) (z_EW_f hf1 (by decide) (z_EW_f h1 (by decide) hE)) (by rw [hm1]; exact hokv)) (fun _ v' h' => k_sat_mk (Or.inl ⟨rfl, ?_, ?_, ?_⟩))
    · exact (h1.tr (hf1.mono rfl rfl)).tr (h'.1.mono rfl rfl)
    · rw [h'.2.1, hm1]; rfl
    · rw [h'.2.2, hm1]
      show _ = if 0 < K ∧ 0 < E.1 then _ else _
      have e6 : (k_wF v 1702 (v.1 1702 + 1)).1 1206 = z_os E K (u.1 1206) i (z_moThought u) := by
        rw [← h3]
        simp [k_wF]
      rw [e6]
      by_cases hc : 0 < K ∧ 0 < E.1
      · rw [if_pos ⟨rfl, hc⟩, if_pos hc]
      · rw [if_neg (fun q => hc q.2), if_neg hc]
  · unfold f_Nights_pass_Thought_B3
    exact z_pos (Int32.le_refl _) (k_sat_mk ⟨_, rfl, hp⟩)
def z_moR (u : k_S) : z_Mo := (u.1 4209, u.2.1 46, u.2.1 47)
def z_ER (E : z_E) (u : k_S) : Prop := E.1 ≤ 4 ∧ u.1 4203 = J E.1 ∧ (∀ w, w < E.1 → u.2.1 45 w = E.2.2.1 w ∧ u.2.1 48 w = E.2.2.2.1 w ∧ ∀ p s : Nat, E.2.2.1 w = J s → p < s → s ≤ 40 → u.2.1 44 (40 * w + p) = E.2.1 (40 * w + p)) ∧ ∀ v : k_S, v.1 4223 = u.1 4223 → v.1 4211 = u.1 4211 → v.2.1 49 = u.2.1 49 → v.2.1 50 = u.2.1 50 → v.2.1 51 = u.2.1 51 → v.2.1 52 = u.2.1 52 → v.2.1 53 = u.2.1 53 → ∀ w : Nat, w < 4 → k_sat (f_R_isCold (J w) v) (fun r v' => z_fr [] [54, 55] v v' ∧ r = if E.2.2.2.2 (v.1 4209) (v.2.1 46 w) w = true then 1 else 0)
theorem z_ER_f {E : z_E} {F A : List Nat} {u v : k_S} (h : z_fr F A u v) (hd : F.elem 4203 = false ∧ F.elem 4223 = false ∧ F.elem 4211 = false ∧ A.elem 44 = false ∧ A.elem 45 = false ∧ A.elem 48 = false ∧ A.elem 49 = false ∧ A.elem 50 = false ∧ A.elem 51 = false ∧ A.elem 52 = false ∧ A.elem 53 = false) (hE : z_ER E u) : z_ER E v := by
  obtain ⟨a1, a2, a3, a4, a5, a6, a7, a8, a9, a10, a11⟩ := hd
  obtain ⟨b0, b1, b2, b3⟩ := hE
  refine ⟨b0, by rw [h.1 _ a1]; exact b1, fun w hw => ?_, fun x x1 x2 x3 x4 x5 x6 x7 => b3 x (x1.trans (h.1 _ a2)) (x2.trans (h.1 _ a3)) (x3.trans (h.2.1 _ a7)) (x4.trans (h.2.1 _ a8)) (x5.trans (h.2.1 _ a9)) (x6.trans (h.2.1 _ a10)) (x7.trans (h.2.1 _ a11))⟩
  rw [h.2.1 _ a5, h.2.1 _ a6, h.2.1 _ a4]
  exact b2 w hw
theorem z_up_self (f : Nat → Int32) (w : Nat) : upd f w (f w) = f := by
  funext j
  rw [z_up]
  by_cases h : j = w
  · rw [if_pos h, h]
  · rw [if_neg h]
theorem z_Rstep (E : z_E) (w p s : Nat) (u : k_S) (hE : z_ER E u) (hw : w < E.1) (hp : p < s) (hs : s ≤ 40) (ep : u.2.1 46 w = J p) (es : E.2.2.1 w = J s) : k_sat (f_R_step (J w) u) (fun x v => z_fr [] [47, 54, 55] u v ∧ x = (z_sp E (u.1 4209) (u.2.1 46 w) (u.2.1 47 w) w).1 ∧ v.2.1 47 = upd (u.2.1 47) w (z_sp E (u.1 4209) (u.2.1 46 w) (u.2.1 47 w) w).2) := by
  obtain ⟨hE4, e1, hA, hc⟩ := hE
  obtain ⟨a1, a2, a3⟩ := hA w hw
  have hw4 : w < 4 := by omega
  have hsp : z_sp E (u.1 4209) (u.2.1 46 w) (u.2.1 47 w) w = if u.2.1 44 (40 * w + p) = 98 then (if u.2.1 48 w ≤ u.1 4209 then (2, u.2.1 47 w) else (1, u.2.1 47 w)) else if u.2.1 44 (40 * w + p) = 102 then (if E.2.2.2.2 (u.1 4209) (u.2.1 46 w) w = true then (0, u.2.1 47 w) else (1, u.2.1 47 w)) else if u.2.1 44 (40 * w + p) = 115 then (2, u.2.1 47 w) else if u.2.1 44 (40 * w + p) = 119 then (1, u.2.1 47 w) else if u.2.1 44 (40 * w + p) - 48 ≤ u.2.1 47 w then (1, 0) else (0, u.2.1 47 w + 1) := by
    unfold z_sp
    rw [ep, J_toNat (show p < 2147483648 by omega), a3 p s es hp hs, a2]
  have hJw : (J w).toNatClampNeg = w := J_toNat (by omega)
  unfold f_R_step
  rw [hJw, ep, J_40]
  refine z_ck (by (try simp (disch := omega) only [Int32.lt_iff_toInt_lt, Int32.le_iff_toInt_le, ← Int32.toInt_inj, Int32.toInt_add, Int32.toInt_sub, Int32.toInt_mul, Int32.toInt_neg, z_bm, z_bm2, J_ti, J_toInt, z_cn, Int32.reduceToInt]) <;> omega) (by (try simp (disch := omega) only [Int32.lt_iff_toInt_lt, Int32.le_iff_toInt_le, ← Int32.toInt_inj, Int32.toInt_add, Int32.toInt_sub, Int32.toInt_mul, Int32.toInt_neg, z_bm, z_bm2, J_ti, J_toInt, z_cn, Int32.reduceToInt]) <;> omega) (z_ck (by (try simp (disch := omega) only [Int32.lt_iff_toInt_lt, Int32.le_iff_toInt_le, ← Int32.toInt_inj, Int32.toInt_add, Int32.toInt_sub, Int32.toInt_mul, Int32.toInt_neg, z_bm, z_bm2, J_ti, J_toInt, z_cn, Int32.reduceToInt]) <;> omega) (by (try simp (disch := omega) only [Int32.lt_iff_toInt_lt, Int32.le_iff_toInt_le, ← Int32.toInt_inj, Int32.toInt_add, Int32.toInt_sub, Int32.toInt_mul, Int32.toInt_neg, z_bm, z_bm2, J_ti, J_toInt, z_cn, Int32.reduceToInt]) <;> omega) (z_let ?_))
  rw [J_toNat (show 40 * w + p < 2147483648 by omega)]
  rw [← ep]
  by_cases l1 : u.2.1 44 (40 * w + p) = 98
  · rw [if_pos l1] at hsp
    refine z_pos l1 (z_ck (by (try simp (disch := omega) only [Int32.lt_iff_toInt_lt, Int32.le_iff_toInt_le, ← Int32.toInt_inj, Int32.toInt_add, Int32.toInt_sub, Int32.toInt_mul, Int32.toInt_neg, z_bm, z_bm2, J_ti, J_toInt, z_cn, Int32.reduceToInt]) <;> omega) (by (try simp (disch := omega) only [Int32.lt_iff_toInt_lt, Int32.le_iff_toInt_le, ← Int32.toInt_inj, Int32.toInt_add, Int32.toInt_sub, Int32.toInt_mul, Int32.toInt_neg, z_bm, z_bm2, J_ti, J_toInt, z_cn, Int32.reduceToInt]) <;> omega) (z_ite (fun l => k_sat_mk ⟨z_fr.rf, ?_, ?_⟩) (fun l => k_sat_mk ⟨z_fr.rf, ?_, ?_⟩)))
    · rw [hsp, if_pos l]
    · rw [hsp, if_pos l, z_up_self]
    · rw [hsp, if_neg l]
    · rw [hsp, if_neg l, z_up_self]
  refine z_neg l1 ?_
  rw [if_neg l1] at hsp
  by_cases l2 : u.2.1 44 (40 * w + p) = 102
  · rw [if_pos l2] at hsp
    refine z_pos l2 (z_bind _ (hc u rfl rfl rfl rfl rfl rfl rfl w hw4) (fun x v hv => ?_))
    by_cases hq : E.2.2.2.2 (u.1 4209) (u.2.1 46 w) w = true
    · rw [if_pos hq] at hv hsp
      refine z_neg (by rw [hv.2]; decide) (k_sat_mk ⟨hv.1.mono rfl rfl, ?_, ?_⟩)
      · rw [hsp]
      · rw [hsp, z_up_self]; exact hv.1.2.1 47 rfl
    · rw [if_neg hq] at hv hsp
      refine z_pos hv.2 (k_sat_mk ⟨hv.1.mono rfl rfl, ?_, ?_⟩)
      · rw [hsp]
      · rw [hsp, z_up_self]; exact hv.1.2.1 47 rfl
  refine z_neg l2 ?_
  rw [if_neg l2] at hsp
  by_cases l3 : u.2.1 44 (40 * w + p) = 115
  · rw [if_pos l3] at hsp
    exact z_pos l3 (k_sat_mk ⟨z_fr.rf, by rw [hsp], by rw [hsp, z_up_self]⟩)
  refine z_neg l3 ?_
  rw [if_neg l3] at hsp
  by_cases l4 : u.2.1 44 (40 * w + p) = 119
  · rw [if_pos l4] at hsp
    exact z_pos l4 (k_sat_mk ⟨z_fr.rf, by rw [hsp], by rw [hsp, z_up_self]⟩)
  refine z_neg l4 ?_
  rw [if_neg l4] at hsp
  refine z_ck (by (try simp (disch := omega) only [Int32.lt_iff_toInt_lt, Int32.le_iff_toInt_le, ← Int32.toInt_inj, Int32.toInt_add, Int32.toInt_sub, Int32.toInt_mul, Int32.toInt_neg, z_bm, z_bm2, J_ti, J_toInt, z_cn, Int32.reduceToInt]) <;> omega) (by (try simp (disch := omega) only [Int32.lt_iff_toInt_lt, Int32.le_iff_toInt_le, ← Int32.toInt_inj, Int32.toInt_add, Int32.toInt_sub, Int32.toInt_mul, Int32.toInt_neg, z_bm, z_bm2, J_ti, J_toInt, z_cn, Int32.reduceToInt]) <;> omega) (z_ite (fun l => z_ck (by (try simp (disch := omega) only [Int32.lt_iff_toInt_lt, Int32.le_iff_toInt_le, ← Int32.toInt_inj, Int32.toInt_add, Int32.toInt_sub, Int32.toInt_mul, Int32.toInt_neg, z_bm, z_bm2, J_ti, J_toInt, z_cn, Int32.reduceToInt]) <;> omega) (by (try simp (disch := omega) only [Int32.lt_iff_toInt_lt, Int32.le_iff_toInt_le, ← Int32.toInt_inj, Int32.toInt_add, Int32.toInt_sub, Int32.toInt_mul, Int32.toInt_neg, z_bm, z_bm2, J_ti, J_toInt, z_cn, Int32.reduceToInt]) <;> omega) (z_let (k_sat_mk ⟨z_wA rfl, ?_, ?_⟩))) (fun l => z_ck (by (try simp (disch := omega) only [Int32.lt_iff_toInt_lt, Int32.le_iff_toInt_le, ← Int32.toInt_inj, Int32.toInt_add, Int32.toInt_sub, Int32.toInt_mul, Int32.toInt_neg, z_bm, z_bm2, J_ti, J_toInt, z_cn, Int32.reduceToInt]) <;> omega) (by (try simp (disch := omega) only [Int32.lt_iff_toInt_lt, Int32.le_iff_toInt_le, ← Int32.toInt_inj, Int32.toInt_add, Int32.toInt_sub, Int32.toInt_mul, Int32.toInt_neg, z_bm, z_bm2, J_ti, J_toInt, z_cn, Int32.reduceToInt]) <;> omega) (z_ck (by (try simp (disch := omega) only [Int32.lt_iff_toInt_lt, Int32.le_iff_toInt_le, ← Int32.toInt_inj, Int32.toInt_add, Int32.toInt_sub, Int32.toInt_mul, Int32.toInt_neg, z_bm, z_bm2, J_ti, J_toInt, z_cn, Int32.reduceToInt]) <;> omega) (by (try simp (disch := omega) only [Int32.lt_iff_toInt_lt, Int32.le_iff_toInt_le, ← Int32.toInt_inj, Int32.toInt_add, Int32.toInt_sub, Int32.toInt_mul, Int32.toInt_neg, z_bm, z_bm2, J_ti, J_toInt, z_cn, Int32.reduceToInt]) <;> omega) (z_let (k_sat_mk ⟨z_wA rfl, ?_, ?_⟩)))))
  · rw [hsp, if_pos l]
  · rw [hsp, if_pos l]; simp [k_wA]
  · rw [hsp, if_neg l]
  · rw [hsp, if_neg l]; simp [k_wA]
theorem z_innerR (E : z_E) : ∀ (k w N : Nat) (u : k_S), w + k = 4 → k + 1 < N → z_ER E u → z_ok E (z_moR u) → k_sat (k_itr (fun (x : (Int32)) u => f_R_goOn_B12 x u) N (J w) u) (fun _ v => z_fr [] [46, 47, 54, 55] u v ∧ z_moR v = z_pu E k w (z_moR u))
  | 0, w, N, u, hw, hN, hE, hok => by
    obtain ⟨n, rfl⟩ : ∃ n, N = n + 1 := ⟨N - 1, by omega⟩
    refine z_exit ?_
    unfold f_R_goOn_B12
    exact z_pos (by rw [hE.2.1]; have := hE.1; (try simp (disch := omega) only [Int32.lt_iff_toInt_lt, Int32.le_iff_toInt_le, ← Int32.toInt_inj, Int32.toInt_add, Int32.toInt_sub, Int32.toInt_mul, Int32.toInt_neg, z_bm, z_bm2, J_ti, J_toInt, z_cn, Int32.reduceToInt]) <;> omega) (k_sat_mk ⟨_, rfl, z_fr.rf, rfl⟩)
  | k + 1, w, N, u, hw, hN, hE, hok => by
    obtain ⟨n, rfl⟩ : ∃ n, N = n + 1 := ⟨N - 1, by omega⟩
    have hE4 := hE.1
    by_cases hwE : E.1 ≤ w
    · refine z_exit ?_
      unfold f_R_goOn_B12
      exact z_pos (by rw [hE.2.1]; (try simp (disch := omega) only [Int32.lt_iff_toInt_lt, Int32.le_iff_toInt_le, ← Int32.toInt_inj, Int32.toInt_add, Int32.toInt_sub, Int32.toInt_mul, Int32.toInt_neg, z_bm, z_bm2, J_ti, J_toInt, z_cn, Int32.reduceToInt]) <;> omega) (k_sat_mk ⟨_, rfl, z_fr.rf, by rw [z_pu, if_pos hwE]⟩)
    · obtain ⟨p, s, hp, h2, hs, ep, es⟩ := hok.2 w (by omega)
      obtain ⟨r, hr, er⟩ := z_sp_r E (u.1 4209) (u.2.1 46 w) (u.2.1 47 w) w
      have ep : u.2.1 46 w = J p := ep
      have hJw : (J w).toNatClampNeg = w := J_toNat (by omega)
      have hpu := z_pu_s E k w (z_moR u) p s r hp h2 hs (by omega) ep es hr er
      refine z_turn ?_
      unfold f_R_goOn_B12
      rw [hJw]
      refine z_neg (by rw [hE.2.1]; (try simp (disch := omega) only [Int32.lt_iff_toInt_lt, Int32.le_iff_toInt_le, ← Int32.toInt_inj, Int32.toInt_add, Int32.toInt_sub, Int32.toInt_mul, Int32.toInt_neg, z_bm, z_bm2, J_ti, J_toInt, z_cn, Int32.reduceToInt]) <;> omega) (z_ck (by (try simp (disch := omega) only [Int32.lt_iff_toInt_lt, Int32.le_iff_toInt_le, ← Int32.toInt_inj, Int32.toInt_add, Int32.toInt_sub, Int32.toInt_mul, Int32.toInt_neg, z_bm, z_bm2, J_ti, J_toInt, z_cn, Int32.reduceToInt]) <;> omega) (by (try simp (disch := omega) only [Int32.lt_iff_toInt_lt, Int32.le_iff_toInt_le, ← Int32.toInt_inj, Int32.toInt_add, Int32.toInt_sub, Int32.toInt_mul, Int32.toInt_neg, z_bm, z_bm2, J_ti, J_toInt, z_cn, Int32.reduceToInt]) <;> omega) (z_bind _ (z_Rstep E w p s u hE (by omega) hp hs ep es) (fun x v hv => z_let (z_ck (by (try simp (disch := omega) only [Int32.lt_iff_toInt_lt, Int32.le_iff_toInt_le, ← Int32.toInt_inj, Int32.toInt_add, Int32.toInt_sub, Int32.toInt_mul, Int32.toInt_neg, z_bm, z_bm2, J_ti, J_toInt, z_cn, Int32.reduceToInt]) <;> omega) (by (try simp (disch := omega) only [Int32.lt_iff_toInt_lt, Int32.le_iff_toInt_le, ← Int32.toInt_inj, Int32.toInt_add, Int32.toInt_sub, Int32.toInt_mul, Int32.toInt_neg, z_bm, z_bm2, J_ti, J_toInt, z_cn, Int32.reduceToInt]) <;> omega) ?_))))
      obtain ⟨g1, g2, g3⟩ := hv
      have e45 : v.2.1 45 w = J s := by rw [g1.2.1 45 rfl, (hE.2.2.1 w (by omega)).1]; exact es
      rw [g2, er, ep, J_add, e45]
      have hfin : ∀ q : Nat, q = z_to p r s → z_moR (k_wA v 46 w (J q)) = ((z_moR u).1, upd (z_moR u).2.1 w (J (z_to p r s)), upd (z_moR u).2.2 w (z_sp E (z_moR u).1 ((z_moR u).2.1 w) ((z_moR u).2.2 w) w).2) := by
        intro q hq
        subst hq
        unfold z_moR
        simp [k_wA, g1.1 4209 rfl, g1.2.1 46 rfl, g3]
      have hf2 : ∀ q : Nat, z_fr [] [46, 47, 54, 55] u (k_wA v 46 w (J q)) := fun q => (g1.mono rfl rfl).tr (z_wA rfl)
      by_cases h : p + r < s
      · refine z_pos (by (try simp (disch := omega) only [Int32.lt_iff_toInt_lt, Int32.le_iff_toInt_le, ← Int32.toInt_inj, Int32.toInt_add, Int32.toInt_sub, Int32.toInt_mul, Int32.toInt_neg, z_bm, z_bm2, J_ti, J_toInt, z_cn, Int32.reduceToInt]) <;> omega) ?_
        unfold f_R_goOn_J48 f_R_goOn_J70
        rw [if_pos rfl]
        refine z_ck (by (try simp (disch := omega) only [Int32.lt_iff_toInt_lt, Int32.le_iff_toInt_le, ← Int32.toInt_inj, Int32.toInt_add, Int32.toInt_sub, Int32.toInt_mul, Int32.toInt_neg, z_bm, z_bm2, J_ti, J_toInt, z_cn, Int32.reduceToInt]) <;> omega) (by (try simp (disch := omega) only [Int32.lt_iff_toInt_lt, Int32.le_iff_toInt_le, ← Int32.toInt_inj, Int32.toInt_add, Int32.toInt_sub, Int32.toInt_mul, Int32.toInt_neg, z_bm, z_bm2, J_ti, J_toInt, z_cn, Int32.reduceToInt]) <;> omega) (z_let (z_pos rfl (z_let (k_sat_mk ⟨_, rfl, ?_⟩))))
        rw [hJw]
        obtain ⟨n', rfl⟩ : ∃ n', n = n' + 1 := ⟨n - 1, by omega⟩
        refine z_exit (z_pos (Int32.le_refl _) (k_sat_mk ⟨_, rfl, hf2 _, ?_⟩))
        rw [if_pos h] at hpu
        rw [hfin _ (by unfold z_to; rw [if_pos h]), hpu]
      · refine z_neg (by (try simp (disch := omega) only [Int32.lt_iff_toInt_lt, Int32.le_iff_toInt_le, ← Int32.toInt_inj, Int32.toInt_add, Int32.toInt_sub, Int32.toInt_mul, Int32.toInt_neg, z_bm, z_bm2, J_ti, J_toInt, z_cn, Int32.reduceToInt]) <;> omega) ?_
        unfold f_R_goOn_J48 f_R_goOn_J70
        rw [if_neg (by decide), hJw, e45, J_sub (by omega)]
        refine z_ck (by (try simp (disch := omega) only [Int32.lt_iff_toInt_lt, Int32.le_iff_toInt_le, ← Int32.toInt_inj, Int32.toInt_add, Int32.toInt_sub, Int32.toInt_mul, Int32.toInt_neg, z_bm, z_bm2, J_ti, J_toInt, z_cn, Int32.reduceToInt]) <;> omega) (by (try simp (disch := omega) only [Int32.lt_iff_toInt_lt, Int32.le_iff_toInt_le, ← Int32.toInt_inj, Int32.toInt_add, Int32.toInt_sub, Int32.toInt_mul, Int32.toInt_neg, z_bm, z_bm2, J_ti, J_toInt, z_cn, Int32.reduceToInt]) <;> omega) (z_ck (by (try simp (disch := omega) only [Int32.lt_iff_toInt_lt, Int32.le_iff_toInt_le, ← Int32.toInt_inj, Int32.toInt_add, Int32.toInt_sub, Int32.toInt_mul, Int32.toInt_neg, z_bm, z_bm2, J_ti, J_toInt, z_cn, Int32.reduceToInt]) <;> omega) (by (try simp (disch := omega) only [Int32.lt_iff_toInt_lt, Int32.le_iff_toInt_le, ← Int32.toInt_inj, Int32.toInt_add, Int32.toInt_sub, Int32.toInt_mul, Int32.toInt_neg, z_bm, z_bm2, J_ti, J_toInt, z_cn, Int32.reduceToInt]) <;> omega) (z_let (z_neg (by decide) (z_let (k_sat_mk ⟨_, rfl, ?_⟩)))))
        rw [z_Jp]
        have hq : p + r - s = z_to p r s := by unfold z_to; rw [if_neg h]
        have hm := hfin _ hq
        have hok1 : z_ok E (z_moR (k_wA v 46 w (J (p + r - s)))) := by
          have := (z_pu_ok E 1 w (z_moR u) hok).1
          rw [z_pu_s E 0 w (z_moR u) p s r hp h2 hs (by omega) ep es hr er, if_neg h] at this
          rw [hm]
          exact this
        rw [if_neg h] at hpu
        refine z_mono (z_innerR E k (w + 1) n _ (by omega) (by omega) (z_ER_f (hf2 _) (by decide) hE) hok1) (fun _ v' h' => ⟨(hf2 _).tr h'.1, ?_⟩)
        rw [h'.2, hm, hpu]
theorem z_goOn (E : z_E) (u : k_S) (hE : z_ER E u) (hok : z_ok E (z_moR u)) : k_sat (f_R_goOn u) (fun _ v => z_fr [4209] [46, 47, 54, 55] u v ∧ z_moR v = z_nx E 4 (z_moR u)) := by
  unfold f_R_goOn
  have hf1 : z_fr [4209] [] u (k_wF u 4209 (u.1 4209 + 1)) := z_wF rfl
  have hm1 : z_moR (k_wF u 4209 (u.1 4209 + 1)) = ((z_moR u).1 + 1, (z_moR u).2) := by
    unfold z_moR
    simp [k_wF]
  refine z_let (z_bind _ (z_innerR E 4 0 k_FU _ (by omega) (by unfold k_FU; omega) (z_ER_f hf1 (by decide) hE) (by rw [hm1]; exact hok)) (fun _ v h => k_sat_mk ⟨(hf1.mono rfl rfl).tr (h.1.mono rfl rfl), ?_⟩))
  rw [h.2, hm1]
  rfl
/-! NIGHTS IN THOUGHT: both sides along one and the same orbit -/
def z_ag (K : Nat) (m m' : z_Mo) : Prop := m.1 = m'.1 ∧ ∀ w, w < K → m.2.1 w = m'.2.1 w ∧ m.2.2 w = m'.2.2 w
theorem z_pu_lo (E : z_E) : ∀ (k w : Nat) (m : z_Mo), (z_pu E k w m).1 = m.1 ∧ ∀ v, (v < w ∨ E.1 ≤ v) → (z_pu E k w m).2.1 v = m.2.1 v ∧ (z_pu E k w m).2.2 v = m.2.2 v
  | 0, w, m => ⟨rfl, fun v _ => ⟨rfl, rfl⟩⟩
  | k + 1, w, m => by
    rw [z_pu]
    by_cases h : E.1 ≤ w
    · rw [if_pos h]; exact ⟨rfl, fun v _ => ⟨rfl, rfl⟩⟩
    · rw [if_neg h]
      split
      · exact ⟨rfl, fun v hv => ⟨by show upd _ _ _ _ = _; rw [z_up, if_neg (by omega)], by show upd _ _ _ _ = _; rw [z_up, if_neg (by omega)]⟩⟩
      · obtain ⟨a, b⟩ := z_pu_lo E k (w + 1) (m.1, upd m.2.1 w (m.2.1 w + (z_sp E m.1 (m.2.1 w) (m.2.2 w) w).1 - E.2.2.1 w), upd m.2.2 w (z_sp E m.1 (m.2.1 w) (m.2.2 w) w).2)
        refine ⟨a, fun v hv => ?_⟩
        obtain ⟨c, d⟩ := b v (by omega)
        exact ⟨by rw [c]; show upd _ _ _ _ = _; rw [z_up, if_neg (by omega)], by rw [d]; show upd _ _ _ _ = _; rw [z_up, if_neg (by omega)]⟩
theorem z_pu_ag (E : z_E) : ∀ (k k' w : Nat) (m m' : z_Mo), k ≤ k' → z_ag (w + k) m m' → z_ag (w + k) (z_pu E k w m) (z_pu E k' w m')
  | 0, k', w, m, m', hk, h => by
    obtain ⟨a, b⟩ := z_pu_lo E k' w m'
    exact ⟨h.1.trans a.symm, fun v hv => by rw [(b v (by omega)).1, (b v (by omega)).2]; exact h.2 v hv⟩
  | k + 1, k', w, m, m', hk, h => by
    obtain ⟨j, rfl⟩ : ∃ j, k' = j + 1 := ⟨k' - 1, by omega⟩
    obtain ⟨h1, h2⟩ := h
    obtain ⟨a, b⟩ := h2 w (by omega)
    rw [z_pu, z_pu, ← h1, ← a, ← b]
    by_cases hE : E.1 ≤ w
    · rw [if_pos hE, if_pos hE]; exact ⟨h1, h2⟩
    · rw [if_neg hE, if_neg hE]
      have hu : ∀ x y : Int32, z_ag (w + (k + 1)) (m.1, upd m.2.1 w x, upd m.2.2 w y) (m.1, upd m'.2.1 w x, upd m'.2.2 w y) := fun x y => ⟨rfl, fun v hv => ⟨by show upd _ _ _ _ = upd _ _ _ _; rw [z_up, z_up, (h2 v hv).1], by show upd _ _ _ _ = upd _ _ _ _; rw [z_up, z_up, (h2 v hv).2]⟩⟩
      split
      · exact hu _ _
      · have e : w + (k + 1) = w + 1 + k := by omega
        rw [e]
        exact z_pu_ag E k j (w + 1) _ _ (by omega) (by rw [← e]; exact hu _ _)
theorem z_nx_ag {E : z_E} {K : Nat} {m m' : z_Mo} (hK : K ≤ 4) (h : z_ag K m m') : z_ag K (z_nx E K m) (z_nx E 4 m') := by
  have := z_pu_ag E K 4 0 (m.1 + 1, m.2) (m'.1 + 1, m'.2) hK (by rw [Nat.zero_add]; exact ⟨by show m.1 + 1 = m'.1 + 1; rw [h.1], h.2⟩)
  rw [Nat.zero_add] at this
  exact this
theorem z_or_ag {E : z_E} {K : Nat} {m m' : z_Mo} (hK : K ≤ 4) (h : z_ag K m m') : ∀ i, z_ag K (z_or E K i m) (z_or E 4 i m')
  | 0 => h
  | i + 1 => z_nx_ag hK (z_or_ag hK h i)
theorem z_or_hi {E : z_E} {K : Nat} {m : z_Mo} {v : Nat} (hv : E.1 ≤ v) : ∀ i, (z_or E K i m).2.1 v = m.2.1 v ∧ (z_or E K i m).2.2 v = m.2.2 v
  | 0 => ⟨rfl, rfl⟩
  | i + 1 => by
    obtain ⟨a, b⟩ := z_or_hi hv i
    obtain ⟨c, d⟩ := (z_pu_lo E K 0 ((z_or E K i m).1 + 1, (z_or E K i m).2)).2 v (Or.inr hv)
    exact ⟨c.trans a, d.trans b⟩
theorem z_or_add (E : z_E) (K i : Nat) (m : z_Mo) : ∀ j, z_or E K j (z_or E K i m) = z_or E K (i + j) m
  | 0 => rfl
  | j + 1 => by show z_nx E K (z_or E K j (z_or E K i m)) = z_nx E K (z_or E K (i + j) m); rw [z_or_add E K i m j]
/-- what stands between class and reference, for nights -/
def z_en (E : z_E) (u : k_S) : Prop := z_EW E u ∧ z_ER E u ∧ z_ok E (z_moNow u) ∧ z_ok E (z_moR u) ∧ z_ag E.1 (z_moNow u) (z_moR u)
theorem z_env {u : k_S} (h : zI u) : ∃ E, z_en E u ∧ E.2.1 = u.2.1 4 ∧ E.2.2.1 = u.2.1 5 ∧ E.2.2.2.1 = u.2.1 6 := by
  obtain ⟨n, hn, e1, e2, hw, hz⟩ := h.2.1
  obtain ⟨⟨t, ht, t1, t2⟩, hm, hm2⟩ := h.2.2.1
  obtain ⟨-, es⟩ := h.2.2.2.1
  obtain ⟨c, hcW, hcR⟩ := h.2.2.2.2.1
  have hok : ∀ w, w < n → ∃ p s : Nat, p < s ∧ 2 ≤ s ∧ s ≤ 40 ∧ u.2.1 15 w = J p ∧ u.2.1 46 w = J p ∧ u.2.1 5 w = J s := by
    intro w hwn
    obtain ⟨s, hs1, hs2, b1, b2, b3, b4⟩ := hw w hwn
    obtain ⟨⟨p, p1, p2, p3⟩, p4⟩ := hm w (by rw [e1, J_toInt (by omega)]; omega)
    rw [b1, J_toInt (by omega)] at p1
    exact ⟨p, s, by omega, hs1, hs2, p2, p3, b1⟩
  refine ⟨(n, u.2.1 4, u.2.1 5, u.2.1 6, c (u.1 705)), ⟨⟨hn, e1, rfl, rfl, rfl, fun v v1 v2 v3 t p w hw4 => ?_⟩, ⟨hn, e2, fun w hwn => ?_, fun v v1 v2 v3 v4 v5 v6 v7 w hw4 => ?_⟩, ⟨hn, fun w hwn => ?_⟩, ⟨hn, fun w hwn => ?_⟩, t1.trans t2.symm, fun w hwn => ?_⟩, rfl, rfl, rfl⟩
  · have := hcW v v1 v2 t p w hw4
    rw [v3] at this
    exact this
  · obtain ⟨s, hs1, hs2, b1, b2, b3, b4⟩ := hw w hwn
    refine ⟨b2.trans b1.symm, b3, fun p s' q1 q2 q3 => b4 p ?_⟩
    have : J s = J s' := b1.symm.trans q1
    rw [J_inj (by omega) (by omega)] at this
    omega
  · have := hcR v v1 (fun i _ => ⟨congrFun v3 i, congrFun v4 i⟩) (congrFun v5 0) (fun i _ => ⟨congrFun v6 i, congrFun v7 i⟩) w hw4
    rw [v2, es] at this
    exact this
  · obtain ⟨p, s, q1, q2, q3, q4, q5, q6⟩ := hok w hwn
    exact ⟨p, s, q1, q2, q3, q4, q6⟩
  · obtain ⟨p, s, q1, q2, q3, q4, q5, q6⟩ := hok w hwn
    exact ⟨p, s, q1, q2, q3, q5, q6⟩
  · obtain ⟨p, s, q1, q2, q3, q4, q5, q6⟩ := hok w hwn
    obtain ⟨-, p4⟩ := hm w (by rw [e1, J_toInt (by omega)]; exact Int.ofNat_lt.mpr hwn)
    exact ⟨q4.trans q5.symm, p4.symm⟩
/-- the reference in thought, i nights on -/
def z_Rt (E : z_E) (u : k_S) (i : Nat) (v : k_S) : Prop := z_fr [4209, 4230] [46, 47, 54, 55, 60, 61, 62] u v ∧ z_moR v = z_or E 4 i (z_moR u) ∧ v.1 4230 = u.1 4209 ∧ ∀ w, w < 4 → v.2.1 60 w = u.2.1 46 w ∧ v.2.1 61 w = u.2.1 47 w
theorem z_Rt_0 (E : z_E) (u : k_S) : k_sat (f_R_keepNow u) (fun _ v => z_Rt E u 0 v) :=
  z_mono (z_keepNow u) (fun _ v h => ⟨h.1.mono rfl rfl, by unfold z_moR; rw [h.1.1 4209 rfl, h.1.2.1 46 rfl, h.1.2.1 47 rfl]; rfl, h.2.1, h.2.2⟩)
theorem z_Rt_s {E : z_E} {u v : k_S} {i : Nat} (hE : z_ER E u) (hok : z_ok E (z_moR u)) (h : z_Rt E u i v) : k_sat (f_R_goOn v) (fun _ v' => z_Rt E u (i + 1) v') := by
  obtain ⟨h1, h2, h3, h4⟩ := h
  refine z_mono (z_goOn E v (z_ER_f h1 (by decide) hE) (by rw [h2]; exact (z_or_ok hok i).1)) (fun _ v' h' => ⟨h1.tr (h'.1.mono rfl rfl), ?_, ?_, ?_⟩)
  · rw [h'.2, h2]; rfl
  · rw [h'.1.1 4230 rfl, h3]
  · rw [h'.1.2.1 60 rfl, h'.1.2.1 61 rfl]; exact h4
theorem z_Rt_b {E : z_E} {u v : k_S} {i : Nat} (hE4 : E.1 ≤ 4) (h : z_Rt E u i v) : k_sat (f_R_layBack v) (fun _ v' => z_fr [4230] [54, 55, 60, 61, 62] u v') := by
  obtain ⟨h1, h2, h3, h4⟩ := h
  refine z_mono (z_layBack v) (fun _ v' h' => ?_)
  obtain ⟨g1, g2, g3, g4⟩ := h'
  have hv46 : v.2.1 46 = (z_or E 4 i (z_moR u)).2.1 := by rw [← h2]; rfl
  have hv47 : v.2.1 47 = (z_or E 4 i (z_moR u)).2.2 := by rw [← h2]; rfl
  refine z_fr_back ((h1.mono rfl rfl).tr (g1.mono rfl rfl)) (g2.trans h3) ?_ ?_
  · funext w
    by_cases hw : w < 4
    · rw [(g3 w hw).1, (h4 w hw).1]
    · rw [(g4 w (by omega)).1, hv46, (z_or_hi (by omega) i).1]; rfl
  · funext w
    by_cases hw : w < 4
    · rw [(g3 w hw).2, (h4 w hw).2]
    · rw [(g4 w (by omega)).2, hv47, (z_or_hi (by omega) i).2]; rfl
/-- the place of a wheel in the i-th night from now -/
def z_pl (E : z_E) (u : k_S) (w i : Nat) : Int32 := (z_or E 4 i (z_moR u)).2.1 w
theorem z_pl_m {E : z_E} {u v : k_S} (h : z_moR v = z_moR u) {w i : Nat} : z_pl E v w i = z_pl E u w i := by unfold z_pl; rw [h]
theorem z_Rt_p {E : z_E} {u v : k_S} {i : Nat} (h : z_Rt E u i v) (w : Nat) : v.2.1 46 w = z_pl E u w i ∧ v.2.1 47 w = (z_or E 4 i (z_moR u)).2.2 w := by
  unfold z_pl
  rw [← h.2.1]
  exact ⟨rfl, rfl⟩
/-- the class in thought, i nights on, its first K wheels -/
def z_Wt (E : z_E) (K : Nat) (u : k_S) (i : Nat) (v : k_S) : Prop := z_fr [1702, 1206, 704] [18, 19, 9, 13] u v ∧ z_ok E (z_moThought v) ∧ z_ag K (z_moThought v) (z_or E 4 i (z_moR u))
theorem z_Wt_0 {E : z_E} {u : k_S} (h : z_en E u) : k_sat (f_Nights_think u) (fun _ v => z_Wt E E.1 u 0 v) := by
  obtain ⟨h1, h2, h3, h4, h5⟩ := h
  unfold f_Nights_think
  rw [h1.2.1]
  refine z_bind _ (z_Thought_become_Now E.1 h1.1 u) (fun _ v hv => k_sat_mk ⟨hv.1.mono rfl rfl, ⟨h1.1, fun w hw => ?_⟩, ?_, fun w hw => ?_⟩)
  · obtain ⟨p, s, a1, a2, a3, a4, a5⟩ := h3.2 w hw
    exact ⟨p, s, a1, a2, a3, ((hv.2.2.1 w hw).1).trans a4, a5⟩
  · exact hv.2.1.trans h5.1
  · exact ⟨((hv.2.2.1 w hw).1).trans (h5.2 w hw).1, ((hv.2.2.1 w hw).2).trans (h5.2 w hw).2⟩
theorem z_Wt.le {E : z_E} {K K' : Nat} {u v : k_S} {i : Nat} (h : z_Wt E K u i v) (hK : K' ≤ K) : z_Wt E K' u i v := ⟨h.1, h.2.1, h.2.2.1, fun w hw => h.2.2.2 w (by omega)⟩
theorem z_Wt_n {E : z_E} {u v : k_S} {K i n : Nat} (hE : z_EW E u) (hn : n < 2147483648) (hK : K ≤ 4) (h : z_Wt E K u i v) : k_sat (f_Nights_pass_Thought (J n) (J K) v) (fun _ v' => z_Wt E K u (i + n) v') := by
  obtain ⟨h1, h2, h3⟩ := h
  refine z_mono (z_pass_Thought E n K hn hK v (z_EW_f h1 (by decide) hE) h2) (fun _ v' h' => ⟨h1.tr (h'.1.mono rfl rfl), ?_, ?_⟩)
  · rw [h'.2.1]; exact (z_or_ok h2 n).1
  · rw [h'.2.1, ← z_or_add]; exact z_or_ag hK h3 n
theorem z_Wt_s {E : z_E} {u v : k_S} {K i : Nat} (hE : z_EW E u) (hK : K ≤ 4) (h : z_Wt E K u i v) : k_sat (f_Nights_pass_Thought 1 (J K) v) (fun _ v' => z_Wt E K u (i + 1) v') := z_Wt_n (n := 1) hE (by omega) hK h
theorem z_Wt_p {E : z_E} {u v : k_S} {K i : Nat} (h : z_Wt E K u i v) {w : Nat} (hw : w < K) (hw4 : w < 4) : f_Thought_placeOf (J w) v = some (z_pl E u w i, v) := by
  unfold z_pl
  rw [z_Thought_placeOf hw4, ← (h.2.2.2 w hw).1]
  rfl
theorem z_en_f {E : z_E} {F A : List Nat} {u v : k_S} (h : z_fr F A u v) (hd : F.elem 303 = false ∧ F.elem 703 = false ∧ F.elem 705 = false ∧ A.elem 4 = false ∧ A.elem 5 = false ∧ A.elem 6 = false ∧ A.elem 8 = false) (hd2 : F.elem 4203 = false ∧ F.elem 4223 = false ∧ F.elem 4211 = false ∧ A.elem 44 = false ∧ A.elem 45 = false ∧ A.elem 48 = false ∧ A.elem 49 = false ∧ A.elem 50 = false ∧ A.elem 51 = false ∧ A.elem 52 = false ∧ A.elem 53 = false) (hd3 : F.elem 1402 = false ∧ A.elem 15 = false ∧ A.elem 16 = false ∧ F.elem 4209 = false ∧ A.elem 46 = false ∧ A.elem 47 = false) (hE : z_en E u) : z_en E v := by
  obtain ⟨a1, a2, a3, a4, a5, a6⟩ := hd3
  have m1 : z_moNow v = z_moNow u := by unfold z_moNow; rw [h.1 _ a1, h.2.1 _ a2, h.2.1 _ a3]
  have m2 : z_moR v = z_moR u := by unfold z_moR; rw [h.1 _ a4, h.2.1 _ a5, h.2.1 _ a6]
  exact ⟨z_EW_f h hd hE.1, z_ER_f h hd2 hE.2.1, by rw [m1]; exact hE.2.2.1, by rw [m2]; exact hE.2.2.2.1, by rw [m1, m2]; exact hE.2.2.2.2⟩
/-- the class has thought: the reference's part is as it was, all else as before -/
theorem z_Wdone {E : z_E} {u v : k_S} (h : zI u) (hE : z_en E u) (hf : z_fr [1702, 1206, 704] [18, 19, 9, 13] u v) : zI v ∧ z_en E v ∧ z_moR v = z_moR u ∧ v.1 4203 = u.1 4203 ∧ v.1 4210 = u.1 4210 ∧ v.2.1 45 = u.2.1 45 :=
  ⟨zI_0 h (hf.mono rfl rfl), z_en_f hf (by decide) (by decide) (by decide) hE, by unfold z_moR; rw [hf.1 4209 rfl, hf.2.1 46 rfl, hf.2.1 47 rfl], hf.1 4203 rfl, hf.1 4210 rfl, hf.2.1 45 rfl⟩
theorem z_shows (a b : Int32) (u : k_S) (h : zI u) : z_pair (f_W_shows a b) (f_R_shows a b) u zI := by
  obtain ⟨E, hE, -, -, -⟩ := z_env h
  have hE4 := hE.1.1
  have e1 := hE.1.2.1
  have e2 := hE.2.1.2.1
  refine z_pair_of ?_
  unfold f_W_shows
  rcases J_or a E.1 with ⟨w, hw, rfl⟩ | ha
  · rw [z_Whas e1 hE4 hw, z_bind_some]
    refine z_neg (by decide) ?_
    rcases J_or b 20001 with ⟨n, hn, rfl⟩ | hb
    · refine z_neg (by (try simp (disch := omega) only [Int32.lt_iff_toInt_lt, Int32.le_iff_toInt_le, ← Int32.toInt_inj, Int32.toInt_add, Int32.toInt_sub, Int32.toInt_mul, Int32.toInt_neg, z_bm, z_bm2, J_ti, J_toInt, z_cn, Int32.reduceToInt]) <;> omega) (z_pos (by (try simp (disch := omega) only [Int32.lt_iff_toInt_lt, Int32.le_iff_toInt_le, ← Int32.toInt_inj, Int32.toInt_add, Int32.toInt_sub, Int32.toInt_mul, Int32.toInt_neg, z_bm, z_bm2, J_ti, J_toInt, z_cn, Int32.reduceToInt]) <;> omega) (z_bind _ (z_Wt_0 hE) (fun _ u1 h1 => ?_)))
      rw [z_Jp]
      refine z_bind _ (z_Wt_n hE.1 (by omega) (by omega) (h1.le (show w + 1 ≤ E.1 by omega))) (fun _ u2 h2 => ?_)
      rw [z_Wt_p h2 (by omega) (by omega), z_bind_some]
      obtain ⟨i2, hE2, m2, q1, -, -⟩ := z_Wdone h hE h2.1
      refine k_sat_mk ?_
      unfold f_R_shows
      rw [z_RisWheel (q1.trans e2) hE4 hw, z_bind_some]
      refine z_neg (by decide) ?_
      rw [z_Rin1 (by (try simp (disch := omega) only [Int32.lt_iff_toInt_lt, Int32.le_iff_toInt_le, ← Int32.toInt_inj, Int32.toInt_add, Int32.toInt_sub, Int32.toInt_mul, Int32.toInt_neg, z_bm, z_bm2, J_ti, J_toInt, z_cn, Int32.reduceToInt]) <;> omega) (by (try simp (disch := omega) only [Int32.lt_iff_toInt_lt, Int32.le_iff_toInt_le, ← Int32.toInt_inj, Int32.toInt_add, Int32.toInt_sub, Int32.toInt_mul, Int32.toInt_neg, z_bm, z_bm2, J_ti, J_toInt, z_cn, Int32.reduceToInt]) <;> omega), z_bind_some]
      refine z_neg (by decide) (z_bind _ (z_Rt_0 E u2) (fun _ u3 h3 => z_bind _ (z_for 0 n (fun i v => z_Rt E u2 i v) (K := fun _ v => z_Rt E u2 n v) (by omega) (Nat.zero_le n) h3 (fun i v _ hi hp => ?_) (fun v hp => ?_)) (fun _ v hv => z_ck (by (try simp (disch := omega) only [Int32.lt_iff_toInt_lt, Int32.le_iff_toInt_le, ← Int32.toInt_inj, Int32.toInt_add, Int32.toInt_sub, Int32.toInt_mul, Int32.toInt_neg, z_bm, z_bm2, J_ti, J_toInt, z_cn, Int32.reduceToInt]) <;> omega) (by (try simp (disch := omega) only [Int32.lt_iff_toInt_lt, Int32.le_iff_toInt_le, ← Int32.toInt_inj, Int32.toInt_add, Int32.toInt_sub, Int32.toInt_mul, Int32.toInt_neg, z_bm, z_bm2, J_ti, J_toInt, z_cn, Int32.reduceToInt]) <;> omega) (z_let (z_bind _ (z_Rt_b hE4 hv) (fun _ v' hv' => k_sat_mk ⟨?_, zI_0 i2 (hv'.mono rfl rfl)⟩))))))
      · unfold f_R_shows_B27
        exact z_neg (by (try simp (disch := omega) only [Int32.lt_iff_toInt_lt, Int32.le_iff_toInt_le, ← Int32.toInt_inj, Int32.toInt_add, Int32.toInt_sub, Int32.toInt_mul, Int32.toInt_neg, z_bm, z_bm2, J_ti, J_toInt, z_cn, Int32.reduceToInt]) <;> omega) (z_bind _ (z_Rt_s hE2.2.1 hE2.2.2.2.1 hp) (fun _ v' hv' => k_sat_mk (Or.inl ⟨rfl, hv'⟩)))
      · unfold f_R_shows_B27
        exact z_pos (Int32.le_refl _) (k_sat_mk ⟨_, rfl, hp⟩)
      · rw [J_toNat (by omega), (z_Rt_p hv w).1, z_pl_m m2, Nat.zero_add]
    · have hR : k_sat (f_R_shows (J w) b u) (fun r' v => (-1 : Int32) = r' ∧ zI v) := by
        unfold f_R_shows
        rw [z_RisWheel e2 hE4 hw, z_bind_some]
        refine z_neg (by decide) ?_
        rw [z_Rin0 (by ((try simp (disch := omega) only [Int32.lt_iff_toInt_lt, Int32.le_iff_toInt_le, ← Int32.toInt_inj, Int32.toInt_add, Int32.toInt_sub, Int32.toInt_mul, Int32.toInt_neg, z_bm, z_bm2, J_ti, J_toInt, z_cn, Int32.reduceToInt] at *); omega)), z_bind_some]
        exact z_pos rfl (k_sat_mk ⟨rfl, h⟩)
      exact z_ite (fun _ => k_sat_mk hR) (fun _ => z_neg (by ((try simp (disch := omega) only [Int32.lt_iff_toInt_lt, Int32.le_iff_toInt_le, ← Int32.toInt_inj, Int32.toInt_add, Int32.toInt_sub, Int32.toInt_mul, Int32.toInt_neg, z_bm, z_bm2, J_ti, J_toInt, z_cn, Int32.reduceToInt] at *); omega)) (k_sat_mk hR))
  · rw [z_Whas0 e1 hE4 ha, z_bind_some]
    refine z_pos rfl (k_sat_mk ?_)
    unfold f_R_shows
    rw [z_RisWheel0 e2 hE4 ha, z_bind_some]
    exact z_pos rfl (k_sat_mk ⟨rfl, h⟩)
theorem z_on (a : Int32) (u : k_S) (h : zI u) : z_pair (f_W_on a) (f_R_on a) u zI := by
  obtain ⟨E, hE, -, eS, -⟩ := z_env h
  have hE4 := hE.1.1
  have e1 := hE.1.2.1
  obtain ⟨⟨t, ht, t1, t2⟩, hm, hm2⟩ := h.2.2.1
  refine z_pair_of ?_
  unfold f_W_on
  by_cases ha : 1 ≤ a.toInt ∧ a.toInt ≤ 2000
  · obtain ⟨n, rfl, hn1, hn2⟩ : ∃ n : Nat, a = J n ∧ 1 ≤ n ∧ n ≤ 2000 := by
      obtain ⟨n, hn, h1, h2⟩ := J_of (x := a) (by omega)
      exact ⟨n, hn, by omega, by omega⟩
    refine z_neg (by (try simp (disch := omega) only [Int32.lt_iff_toInt_lt, Int32.le_iff_toInt_le, ← Int32.toInt_inj, Int32.toInt_add, Int32.toInt_sub, Int32.toInt_mul, Int32.toInt_neg, z_bm, z_bm2, J_ti, J_toInt, z_cn, Int32.reduceToInt]) <;> omega) (z_pos (by (try simp (disch := omega) only [Int32.lt_iff_toInt_lt, Int32.le_iff_toInt_le, ← Int32.toInt_inj, Int32.toInt_add, Int32.toInt_sub, Int32.toInt_mul, Int32.toInt_neg, z_bm, z_bm2, J_ti, J_toInt, z_cn, Int32.reduceToInt]) <;> omega) ?_)
    by_cases hf : t + n ≤ 1000000
    · refine z_pos (by rw [t1]; (try simp (disch := omega) only [Int32.lt_iff_toInt_lt, Int32.le_iff_toInt_le, ← Int32.toInt_inj, Int32.toInt_add, Int32.toInt_sub, Int32.toInt_mul, Int32.toInt_neg, z_bm, z_bm2, J_ti, J_toInt, z_cn, Int32.reduceToInt]) <;> omega) ?_
      rw [e1]
      refine z_bind _ (z_pass_Now E n E.1 (by omega) hE4 u hE.1 hE.2.2.1) (fun _ u1 h1 => k_sat_mk ?_)
      obtain ⟨g1, g2, -⟩ := h1
      have mR : z_moR u1 = z_moR u := by unfold z_moR; rw [g1.1 4209 rfl, g1.2.1 46 rfl, g1.2.1 47 rfl]
      have hER1 := z_ER_f g1 (by decide) hE.2.1
      unfold f_R_on
      rw [z_Rin1 (by (try simp (disch := omega) only [Int32.lt_iff_toInt_lt, Int32.le_iff_toInt_le, ← Int32.toInt_inj, Int32.toInt_add, Int32.toInt_sub, Int32.toInt_mul, Int32.toInt_neg, z_bm, z_bm2, J_ti, J_toInt, z_cn, Int32.reduceToInt]) <;> omega) (by (try simp (disch := omega) only [Int32.lt_iff_toInt_lt, Int32.le_iff_toInt_le, ← Int32.toInt_inj, Int32.toInt_add, Int32.toInt_sub, Int32.toInt_mul, Int32.toInt_neg, z_bm, z_bm2, J_ti, J_toInt, z_cn, Int32.reduceToInt]) <;> omega), z_bind_some, g1.1 4209 rfl, t2, J_add]
      refine z_neg (by decide) (z_pos (by (try simp (disch := omega) only [Int32.lt_iff_toInt_lt, Int32.le_iff_toInt_le, ← Int32.toInt_inj, Int32.toInt_add, Int32.toInt_sub, Int32.toInt_mul, Int32.toInt_neg, z_bm, z_bm2, J_ti, J_toInt, z_cn, Int32.reduceToInt]) <;> omega) (z_bind _ (z_for 0 n (fun i v => z_fr [4209] [46, 47, 54, 55] u1 v ∧ z_moR v = z_or E 4 i (z_moR u)) (K := fun _ v => z_fr [4209] [46, 47, 54, 55] u1 v ∧ z_moR v = z_or E 4 n (z_moR u)) (by omega) (Nat.zero_le n) ⟨z_fr.rf, mR⟩ (fun i v _ hi hp => ?_) (fun v hp => ?_)) (fun _ v hv => k_sat_mk ⟨?_, ?_⟩)))
      · unfold f_R_on_B29
        refine z_neg (by (try simp (disch := omega) only [Int32.lt_iff_toInt_lt, Int32.le_iff_toInt_le, ← Int32.toInt_inj, Int32.toInt_add, Int32.toInt_sub, Int32.toInt_mul, Int32.toInt_neg, z_bm, z_bm2, J_ti, J_toInt, z_cn, Int32.reduceToInt]) <;> omega) (z_bind _ (z_goOn E v (z_ER_f hp.1 (by decide) hER1) (by rw [hp.2]; exact (z_or_ok hE.2.2.2.1 i).1)) (fun _ v' hv' => k_sat_mk (Or.inl ⟨rfl, hp.1.tr hv'.1, ?_⟩)))
        rw [hv'.2, hp.2]; rfl
      · unfold f_R_on_B29
        exact z_pos (Int32.le_refl _) (k_sat_mk ⟨_, rfl, hp⟩)
      · have a1 : u1.1 1402 = (z_or E E.1 n (z_moNow u)).1 := by rw [← g2]; rfl
        have a2 : v.1 4209 = (z_or E 4 n (z_moR u)).1 := by rw [← hv.2]; rfl
        rw [a1, a2]
        exact (z_or_ag hE4 hE.2.2.2.2 n).1
      · have ag := z_or_ag (E := E) hE4 hE.2.2.2.2 n
        have okR := z_or_ok (K := 4) hE.2.2.2.1 n
        have b1 : v.1 1402 = (z_or E E.1 n (z_moNow u)).1 := by rw [hv.1.1 1402 rfl, ← g2]; rfl
        have b2 : v.1 4209 = (z_or E 4 n (z_moR u)).1 := by rw [← hv.2]; rfl
        have b15 : v.2.1 15 = (z_or E E.1 n (z_moNow u)).2.1 := by rw [hv.1.2.1 15 rfl, ← g2]; rfl
        have b16 : v.2.1 16 = (z_or E E.1 n (z_moNow u)).2.2 := by rw [hv.1.2.1 16 rfl, ← g2]; rfl
        have b46 : v.2.1 46 = (z_or E 4 n (z_moR u)).2.1 := by rw [← hv.2]; rfl
        have b47 : v.2.1 47 = (z_or E 4 n (z_moR u)).2.2 := by rw [← hv.2]; rfl
        have hfr : z_fr [1402, 1206, 704, 4209] [15, 16, 9, 46, 47, 54, 55] u v := (g1.mono rfl rfl).tr (hv.1.mono rfl rfl)
        have et : (z_or E 4 n (z_moR u)).1 = J (t + n) := by rw [okR.2]; show u.1 4209 + J n = _; rw [t2, J_add]
        refine zI_M h (hfr.mono rfl rfl) ⟨⟨t + n, hf, by rw [b1, ag.1, et], by rw [b2, et]⟩, fun w hw => ?_, fun w hw hw4 => ?_⟩
        · rw [hfr.1 303 rfl, e1, J_toInt (by omega)] at hw
          have hw' : w < E.1 := by omega
          obtain ⟨p, s, p1, p2, p3, p4, p5⟩ := okR.1.2 w hw'
          rw [hfr.2.1 5 rfl, b15, b16, b46, b47, (ag.2 w hw').1, (ag.2 w hw').2, ← eS, p5, J_toInt (by omega)]
          exact ⟨⟨p, by omega, p4, p4⟩, rfl⟩
        · rw [hfr.1 303 rfl] at hw
          have hw2 := hw
          rw [e1, J_toInt (by omega)] at hw2
          rw [b15, b16, (z_or_hi (by omega) n).1, (z_or_hi (by omega) n).2]
          exact hm2 w hw hw4
    · refine z_neg (by rw [t1]; (try simp (disch := omega) only [Int32.lt_iff_toInt_lt, Int32.le_iff_toInt_le, ← Int32.toInt_inj, Int32.toInt_add, Int32.toInt_sub, Int32.toInt_mul, Int32.toInt_neg, z_bm, z_bm2, J_ti, J_toInt, z_cn, Int32.reduceToInt]) <;> omega) (k_sat_mk ?_)
      unfold f_R_on
      rw [z_Rin1 (by (try simp (disch := omega) only [Int32.lt_iff_toInt_lt, Int32.le_iff_toInt_le, ← Int32.toInt_inj, Int32.toInt_add, Int32.toInt_sub, Int32.toInt_mul, Int32.toInt_neg, z_bm, z_bm2, J_ti, J_toInt, z_cn, Int32.reduceToInt]) <;> omega) (by (try simp (disch := omega) only [Int32.lt_iff_toInt_lt, Int32.le_iff_toInt_le, ← Int32.toInt_inj, Int32.toInt_add, Int32.toInt_sub, Int32.toInt_mul, Int32.toInt_neg, z_bm, z_bm2, J_ti, J_toInt, z_cn, Int32.reduceToInt]) <;> omega), z_bind_some, t2, J_add]
      exact z_neg (by decide) (z_neg (by (try simp (disch := omega) only [Int32.lt_iff_toInt_lt, Int32.le_iff_toInt_le, ← Int32.toInt_inj, Int32.toInt_add, Int32.toInt_sub, Int32.toInt_mul, Int32.toInt_neg, z_bm, z_bm2, J_ti, J_toInt, z_cn, Int32.reduceToInt]) <;> omega) (k_sat_mk ⟨rfl, h⟩))
  · have hR : k_sat (f_R_on a u) (fun r' v => (-1 : Int32) = r' ∧ zI v) := by
      unfold f_R_on
      rw [z_Rin0 (by ((try simp (disch := omega) only [Int32.lt_iff_toInt_lt, Int32.le_iff_toInt_le, ← Int32.toInt_inj, Int32.toInt_add, Int32.toInt_sub, Int32.toInt_mul, Int32.toInt_neg, z_bm, z_bm2, J_ti, J_toInt, z_cn, Int32.reduceToInt] at *); omega)), z_bind_some]
      exact z_pos rfl (k_sat_mk ⟨rfl, h⟩)
    exact z_ite (fun _ => k_sat_mk hR) (fun _ => z_neg (by ((try simp (disch := omega) only [Int32.lt_iff_toInt_lt, Int32.le_iff_toInt_le, ← Int32.toInt_inj, Int32.toInt_add, Int32.toInt_sub, Int32.toInt_mul, Int32.toInt_neg, z_bm, z_bm2, J_ti, J_toInt, z_cn, Int32.reduceToInt] at *); omega)) (k_sat_mk hR))
