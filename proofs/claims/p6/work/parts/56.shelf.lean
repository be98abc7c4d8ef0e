/-! SHELVES: keep, row, put, element -/
theorem z_low_0 (k : Nat) : z_low k 0 = 0 := by
  unfold z_low
  split
  · rfl
  split
  · rfl
  split
  · rfl
  split
  · rfl
  · rfl
theorem z_low_i (k : Nat) (x : Int64) : z_low k (z_low k x) = z_low k x := by
  unfold z_low
  by_cases h0 : k = 0
  · simp only [h0, if_true]
    simp
  by_cases h1 : k = 1
  · simp only [h1, if_true]
    simp
  by_cases h2 : k = 2
  · simp only [h2, if_true]
    simp
  by_cases h3 : k = 3
  · simp only [h3, if_true]
    simp
  rw [if_neg h0, if_neg h1, if_neg h2, if_neg h3, if_neg h0, if_neg h1, if_neg h2, if_neg h3]
  by_cases h4 : lg_cmp x 0 = 0
  · rw [if_pos h4]; rfl
  · rw [if_neg h4]; rfl
theorem z_Bhas {b n : Nat} {u : k_S} (e : u.1 3502 = J n) (hn : n ≤ 50) (h : b < n) : f_Bodies_has (J b) u = some (1, u) := by
  unfold f_Bodies_has
  rw [e, if_neg (by (try simp (disch := omega) only [Int32.lt_iff_toInt_lt, Int32.le_iff_toInt_le, ← Int32.toInt_inj, Int32.toInt_add, Int32.toInt_sub, Int32.toInt_mul, Int32.toInt_neg, z_bm, z_bm2, J_ti, J_toInt, z_cn, Int32.reduceToInt]) <;> omega), if_neg (by (try simp (disch := omega) only [Int32.lt_iff_toInt_lt, Int32.le_iff_toInt_le, ← Int32.toInt_inj, Int32.toInt_add, Int32.toInt_sub, Int32.toInt_mul, Int32.toInt_neg, z_bm, z_bm2, J_ti, J_toInt, z_cn, Int32.reduceToInt]) <;> omega), if_neg (by (try simp (disch := omega) only [Int32.lt_iff_toInt_lt, Int32.le_iff_toInt_le, ← Int32.toInt_inj, Int32.toInt_add, Int32.toInt_sub, Int32.toInt_mul, Int32.toInt_neg, z_bm, z_bm2, J_ti, J_toInt, z_cn, Int32.reduceToInt]) <;> omega)]
theorem z_Bhas0 {a : Int32} {n : Nat} {u : k_S} (e : u.1 3502 = J n) (hn : n ≤ 50) (h : a.toInt < 0 ∨ (n : Int) ≤ a.toInt) : f_Bodies_has a u = some (0, u) := by
  unfold f_Bodies_has
  rw [e]
  by_cases h1 : a < 0
  · rw [if_pos h1]
  · rw [if_neg h1, if_pos (by ((try simp (disch := omega) only [Int32.lt_iff_toInt_lt, Int32.le_iff_toInt_le, ← Int32.toInt_inj, Int32.toInt_add, Int32.toInt_sub, Int32.toInt_mul, Int32.toInt_neg, z_bm, z_bm2, J_ti, J_toInt, z_cn, Int32.reduceToInt] at *); omega))]
theorem z_RisBody {b n : Nat} {u : k_S} (e : u.1 4245 = J n) (hn : n ≤ 50) (h : b < n) : f_R_isBody (J b) u = some (1, u) := by
  unfold f_R_isBody
  rw [e, z_Rin1 (by (try simp (disch := omega) only [Int32.lt_iff_toInt_lt, Int32.le_iff_toInt_le, ← Int32.toInt_inj, Int32.toInt_add, Int32.toInt_sub, Int32.toInt_mul, Int32.toInt_neg, z_bm, z_bm2, J_ti, J_toInt, z_cn, Int32.reduceToInt]) <;> omega) (by rw [J_m1 (by omega)]; (try simp (disch := omega) only [Int32.lt_iff_toInt_lt, Int32.le_iff_toInt_le, ← Int32.toInt_inj, Int32.toInt_add, Int32.toInt_sub, Int32.toInt_mul, Int32.toInt_neg, z_bm, z_bm2, J_ti, J_toInt, z_cn, Int32.reduceToInt]) <;> omega), z_bind_some]
  unfold k_zb
  rw [if_pos (by decide)]
theorem z_RisBody0 {a : Int32} {n : Nat} {u : k_S} (e : u.1 4245 = J n) (hn : n ≤ 50) (h : a.toInt < 0 ∨ (n : Int) ≤ a.toInt) : f_R_isBody a u = some (0, u) := by
  unfold f_R_isBody
  rw [e, z_Rin0 (by rw [J_m1 (by omega)]; ((try simp (disch := omega) only [Int32.lt_iff_toInt_lt, Int32.le_iff_toInt_le, ← Int32.toInt_inj, Int32.toInt_add, Int32.toInt_sub, Int32.toInt_mul, Int32.toInt_neg, z_bm, z_bm2, J_ti, J_toInt, z_cn, Int32.reduceToInt] at *); omega)), z_bind_some]
  unfold k_zb
  rw [if_pos (by decide)]
theorem z_keep (a b : Int32) (u : k_S) (h : zI u) : z_pair (f_W_keep a b) (f_R_keep a b) u zI := by
  obtain ⟨⟨n, hn, b1, b2, hk⟩, -⟩ := h.2.2.2.2.2.2.2.2.1
  have hH := h.2.2.2.2.2.2.2.2.2.1
  refine z_pair_of ?_
  unfold f_W_keep
  rcases J_or a 6 with ⟨s, hs, rfl⟩ | ha
  · rw [z_Shas (by (try simp (disch := omega) only [Int32.lt_iff_toInt_lt, Int32.le_iff_toInt_le, ← Int32.toInt_inj, Int32.toInt_add, Int32.toInt_sub, Int32.toInt_mul, Int32.toInt_neg, z_bm, z_bm2, J_ti, J_toInt, z_cn, Int32.reduceToInt]) <;> omega) (by (try simp (disch := omega) only [Int32.lt_iff_toInt_lt, Int32.le_iff_toInt_le, ← Int32.toInt_inj, Int32.toInt_add, Int32.toInt_sub, Int32.toInt_mul, Int32.toInt_neg, z_bm, z_bm2, J_ti, J_toInt, z_cn, Int32.reduceToInt]) <;> omega), z_bind_some]
    refine z_neg (by decide) ?_
    have done : ∀ (so : Int32) (v : k_S), z_fr [] [39, 40, 41] u v → v.2.1 39 = upd (u.2.1 39) s so → v.2.1 40 = upd (u.2.1 40) s b → (∀ j, (j < 60 * s ∨ 60 * s + 60 ≤ j) → v.2.2 41 j = u.2.2 41 j) → ((so = -1 ∧ b = -1) ∨ (so = 5 ∧ ∃ q : Nat, q < n ∧ b = J q)) → k_sat (f_R_keep_J22 (J s) b v) (fun r' v2 => (1 : Int32) = r' ∧ zI v2) := by
      intro so v v1 v2 v3 v4 hso
      unfold f_R_keep_J22
      refine z_ck (by (try simp (disch := omega) only [Int32.lt_iff_toInt_lt, Int32.le_iff_toInt_le, ← Int32.toInt_inj, Int32.toInt_add, Int32.toInt_sub, Int32.toInt_mul, Int32.toInt_neg, z_bm, z_bm2, J_ti, J_toInt, z_cn, Int32.reduceToInt]) <;> omega) (by (try simp (disch := omega) only [Int32.lt_iff_toInt_lt, Int32.le_iff_toInt_le, ← Int32.toInt_inj, Int32.toInt_add, Int32.toInt_sub, Int32.toInt_mul, Int32.toInt_neg, z_bm, z_bm2, J_ti, J_toInt, z_cn, Int32.reduceToInt]) <;> omega) (z_let (k_sat_mk ⟨rfl, ?_⟩))
      rw [J_toNat (show s < 2147483648 by omega)]
      have f2 : z_fr [] [39, 40, 41, 72] u (k_wA v 72 s b) := (v1.mono rfl rfl).tr (z_wA rfl)
      refine zI_H h (f2.mono rfl rfl) (fun s' hs' => ?_)
      have g39 : (k_wA v 72 s b).2.1 39 = upd (u.2.1 39) s so := v2
      have g40 : (k_wA v 72 s b).2.1 40 = upd (u.2.1 40) s b := v3
      have g72 : (k_wA v 72 s b).2.1 72 = upd (u.2.1 72) s b := by simp [k_wA, v1.2.1 72 rfl]
      have g41 : ∀ j, (j < 60 * s ∨ 60 * s + 60 ≤ j) → (k_wA v 72 s b).2.2 41 j = u.2.2 41 j := v4
      have g73 : (k_wA v 72 s b).2.1 73 = u.2.1 73 := f2.2.1 73 rfl
      have g74 : (k_wA v 72 s b).2.2 74 = u.2.2 74 := f2.2.2 74 rfl
      have g3502 : (k_wA v 72 s b).1 3502 = u.1 3502 := f2.1 3502 rfl
      rw [g39, g40, g72, g73, g3502, z_up, z_up, z_up]
      by_cases e : s' = s
      · subst e
        rw [if_pos rfl, if_pos rfl, if_pos rfl]
        rcases hso with ⟨rfl, rfl⟩ | ⟨rfl, q, hq, rfl⟩
        · exact Or.inl ⟨rfl, rfl⟩
        · exact Or.inr (Or.inl ⟨rfl, q, by rw [b1, J_toInt (by omega)]; omega, rfl, rfl⟩)
      · rw [if_neg e, if_neg e, if_neg e]
        rcases hH s' hs' with q | q | ⟨k, z, q1, q2, q3, q4, q5, q6, q7⟩
        · exact Or.inl q
        · exact Or.inr (Or.inl q)
        · exact Or.inr (Or.inr ⟨k, z, q1, q2, q3, q4, q5, q6, fun j hj => by rw [g74, g41 _ (by omega)]; exact q7 j hj⟩)
    by_cases hb : b = -1
    · refine z_pos hb ?_
      unfold f_W_keep_J31 f_W_keep_J46
      refine z_pos hb (z_bind _ (z_hold (J s) (-1) b u (by (try simp (disch := omega) only [Int32.lt_iff_toInt_lt, Int32.le_iff_toInt_le, ← Int32.toInt_inj, Int32.toInt_add, Int32.toInt_sub, Int32.toInt_mul, Int32.toInt_neg, z_bm, z_bm2, J_ti, J_toInt, z_cn, Int32.reduceToInt]) <;> omega) (by (try simp (disch := omega) only [Int32.lt_iff_toInt_lt, Int32.le_iff_toInt_le, ← Int32.toInt_inj, Int32.toInt_add, Int32.toInt_sub, Int32.toInt_mul, Int32.toInt_neg, z_bm, z_bm2, J_ti, J_toInt, z_cn, Int32.reduceToInt]) <;> omega)) (fun _ v hv => k_sat_mk ?_))
      rw [J_toNat (show s < 2147483648 by omega)] at hv
      unfold f_R_keep
      rw [z_RisShelf (by (try simp (disch := omega) only [Int32.lt_iff_toInt_lt, Int32.le_iff_toInt_le, ← Int32.toInt_inj, Int32.toInt_add, Int32.toInt_sub, Int32.toInt_mul, Int32.toInt_neg, z_bm, z_bm2, J_ti, J_toInt, z_cn, Int32.reduceToInt]) <;> omega) (by (try simp (disch := omega) only [Int32.lt_iff_toInt_lt, Int32.le_iff_toInt_le, ← Int32.toInt_inj, Int32.toInt_add, Int32.toInt_sub, Int32.toInt_mul, Int32.toInt_neg, z_bm, z_bm2, J_ti, J_toInt, z_cn, Int32.reduceToInt]) <;> omega), z_bind_some]
      exact z_neg (by decide) (z_pos hb (done (-1) v hv.1 hv.2.1 hv.2.2.1 hv.2.2.2.2.2 (Or.inl ⟨rfl, hb⟩)))
    · refine z_neg hb ?_
      rcases J_or b n with ⟨q, hq, rfl⟩ | hb2
      · rw [z_Bhas b1 hn hq, z_bind_some]
        refine z_neg (by decide) ?_
        unfold f_W_keep_J31 f_W_keep_J46
        refine z_neg hb (z_bind _ (z_hold (J s) 5 (J q) u (by (try simp (disch := omega) only [Int32.lt_iff_toInt_lt, Int32.le_iff_toInt_le, ← Int32.toInt_inj, Int32.toInt_add, Int32.toInt_sub, Int32.toInt_mul, Int32.toInt_neg, z_bm, z_bm2, J_ti, J_toInt, z_cn, Int32.reduceToInt]) <;> omega) (by (try simp (disch := omega) only [Int32.lt_iff_toInt_lt, Int32.le_iff_toInt_le, ← Int32.toInt_inj, Int32.toInt_add, Int32.toInt_sub, Int32.toInt_mul, Int32.toInt_neg, z_bm, z_bm2, J_ti, J_toInt, z_cn, Int32.reduceToInt]) <;> omega)) (fun _ v hv => k_sat_mk ?_))
        rw [J_toNat (show s < 2147483648 by omega)] at hv
        unfold f_R_keep
        rw [z_RisShelf (by (try simp (disch := omega) only [Int32.lt_iff_toInt_lt, Int32.le_iff_toInt_le, ← Int32.toInt_inj, Int32.toInt_add, Int32.toInt_sub, Int32.toInt_mul, Int32.toInt_neg, z_bm, z_bm2, J_ti, J_toInt, z_cn, Int32.reduceToInt]) <;> omega) (by (try simp (disch := omega) only [Int32.lt_iff_toInt_lt, Int32.le_iff_toInt_le, ← Int32.toInt_inj, Int32.toInt_add, Int32.toInt_sub, Int32.toInt_mul, Int32.toInt_neg, z_bm, z_bm2, J_ti, J_toInt, z_cn, Int32.reduceToInt]) <;> omega), z_bind_some]
        refine z_neg (by decide) (z_neg hb ?_)
        rw [z_RisBody ((hv.1.1 4245 rfl).trans b2) hn hq, z_bind_some]
        exact z_neg (by decide) (done 5 v hv.1 hv.2.1 hv.2.2.1 hv.2.2.2.2.2 (Or.inr ⟨rfl, q, hq, rfl⟩))
      · rw [z_Bhas0 b1 hn hb2, z_bind_some]
        refine z_pos rfl (k_sat_mk ?_)
        unfold f_R_keep
        rw [z_RisShelf (by (try simp (disch := omega) only [Int32.lt_iff_toInt_lt, Int32.le_iff_toInt_le, ← Int32.toInt_inj, Int32.toInt_add, Int32.toInt_sub, Int32.toInt_mul, Int32.toInt_neg, z_bm, z_bm2, J_ti, J_toInt, z_cn, Int32.reduceToInt]) <;> omega) (by (try simp (disch := omega) only [Int32.lt_iff_toInt_lt, Int32.le_iff_toInt_le, ← Int32.toInt_inj, Int32.toInt_add, Int32.toInt_sub, Int32.toInt_mul, Int32.toInt_neg, z_bm, z_bm2, J_ti, J_toInt, z_cn, Int32.reduceToInt]) <;> omega), z_bind_some]
        refine z_neg (by decide) (z_neg hb ?_)
        rw [z_RisBody0 b2 hn hb2, z_bind_some]
        exact z_pos rfl (k_sat_mk ⟨rfl, h⟩)
  · rw [z_Shas0 (by omega), z_bind_some]
    refine z_pos rfl (k_sat_mk ?_)
    unfold f_R_keep
    rw [z_RisShelf0 (by omega), z_bind_some]
    exact z_pos rfl (k_sat_mk ⟨rfl, h⟩)
theorem z_row (a0 a1 a2 : Int32) (u : k_S) (h : zI u) : z_pair (f_W_row a0 a1 a2) (f_R_row a0 a1 a2) u zI := by
  have hH := h.2.2.2.2.2.2.2.2.2.1
  refine z_pair_of ?_
  unfold f_W_row
  rcases J_or a0 6 with ⟨s, hs, rfl⟩ | ha
  · rw [z_Shas (by (try simp (disch := omega) only [Int32.lt_iff_toInt_lt, Int32.le_iff_toInt_le, ← Int32.toInt_inj, Int32.toInt_add, Int32.toInt_sub, Int32.toInt_mul, Int32.toInt_neg, z_bm, z_bm2, J_ti, J_toInt, z_cn, Int32.reduceToInt]) <;> omega) (by (try simp (disch := omega) only [Int32.lt_iff_toInt_lt, Int32.le_iff_toInt_le, ← Int32.toInt_inj, Int32.toInt_add, Int32.toInt_sub, Int32.toInt_mul, Int32.toInt_neg, z_bm, z_bm2, J_ti, J_toInt, z_cn, Int32.reduceToInt]) <;> omega), z_bind_some]
    refine z_neg (by decide) ?_
    rcases J_or a1 5 with ⟨k, hk, rfl⟩ | h2
    · have hR : ∀ u, f_R_in (J k) 0 4 u = some (1, u) := fun u => z_Rin1 (by (try simp (disch := omega) only [Int32.lt_iff_toInt_lt, Int32.le_iff_toInt_le, ← Int32.toInt_inj, Int32.toInt_add, Int32.toInt_sub, Int32.toInt_mul, Int32.toInt_neg, z_bm, z_bm2, J_ti, J_toInt, z_cn, Int32.reduceToInt]) <;> omega) (by (try simp (disch := omega) only [Int32.lt_iff_toInt_lt, Int32.le_iff_toInt_le, ← Int32.toInt_inj, Int32.toInt_add, Int32.toInt_sub, Int32.toInt_mul, Int32.toInt_neg, z_bm, z_bm2, J_ti, J_toInt, z_cn, Int32.reduceToInt]) <;> omega)
      refine z_neg (by (try simp (disch := omega) only [Int32.lt_iff_toInt_lt, Int32.le_iff_toInt_le, ← Int32.toInt_inj, Int32.toInt_add, Int32.toInt_sub, Int32.toInt_mul, Int32.toInt_neg, z_bm, z_bm2, J_ti, J_toInt, z_cn, Int32.reduceToInt]) <;> omega) (z_neg (by (try simp (disch := omega) only [Int32.lt_iff_toInt_lt, Int32.le_iff_toInt_le, ← Int32.toInt_inj, Int32.toInt_add, Int32.toInt_sub, Int32.toInt_mul, Int32.toInt_neg, z_bm, z_bm2, J_ti, J_toInt, z_cn, Int32.reduceToInt]) <;> omega) ?_)
      by_cases h3 : a2 ≤ 60
      · by_cases h4 : 0 ≤ a2
        · obtain ⟨z, rfl, hz, -⟩ := J_of (x := a2) (by ((try simp (disch := omega) only [Int32.lt_iff_toInt_lt, Int32.le_iff_toInt_le, ← Int32.toInt_inj, Int32.toInt_add, Int32.toInt_sub, Int32.toInt_mul, Int32.toInt_neg, z_bm, z_bm2, J_ti, J_toInt, z_cn, Int32.reduceToInt] at *); omega))
          have hz2 : z ≤ 60 := by ((try simp (disch := omega) only [Int32.lt_iff_toInt_lt, Int32.le_iff_toInt_le, ← Int32.toInt_inj, Int32.toInt_add, Int32.toInt_sub, Int32.toInt_mul, Int32.toInt_neg, z_bm, z_bm2, J_ti, J_toInt, z_cn, Int32.reduceToInt] at *); omega)
          refine z_pos h3 (z_pos h4 (z_bind _ (z_hold (J s) (J k) (J z) u (by (try simp (disch := omega) only [Int32.lt_iff_toInt_lt, Int32.le_iff_toInt_le, ← Int32.toInt_inj, Int32.toInt_add, Int32.toInt_sub, Int32.toInt_mul, Int32.toInt_neg, z_bm, z_bm2, J_ti, J_toInt, z_cn, Int32.reduceToInt]) <;> omega) (by (try simp (disch := omega) only [Int32.lt_iff_toInt_lt, Int32.le_iff_toInt_le, ← Int32.toInt_inj, Int32.toInt_add, Int32.toInt_sub, Int32.toInt_mul, Int32.toInt_neg, z_bm, z_bm2, J_ti, J_toInt, z_cn, Int32.reduceToInt]) <;> omega)) (fun _ u1 hv => k_sat_mk ?_)))
          rw [J_toNat (show s < 2147483648 by omega)] at hv
          obtain ⟨v1, v2, v3, v4, v5, v6⟩ := hv
          unfold f_R_row
          rw [z_RisShelf (by (try simp (disch := omega) only [Int32.lt_iff_toInt_lt, Int32.le_iff_toInt_le, ← Int32.toInt_inj, Int32.toInt_add, Int32.toInt_sub, Int32.toInt_mul, Int32.toInt_neg, z_bm, z_bm2, J_ti, J_toInt, z_cn, Int32.reduceToInt]) <;> omega) (by (try simp (disch := omega) only [Int32.lt_iff_toInt_lt, Int32.le_iff_toInt_le, ← Int32.toInt_inj, Int32.toInt_add, Int32.toInt_sub, Int32.toInt_mul, Int32.toInt_neg, z_bm, z_bm2, J_ti, J_toInt, z_cn, Int32.reduceToInt]) <;> omega), z_bind_some, hR, z_bind_some]
          refine z_neg (by decide) (z_neg (by decide) (z_pos h3 (z_pos h4 (z_ck (by (try simp (disch := omega) only [Int32.lt_iff_toInt_lt, Int32.le_iff_toInt_le, ← Int32.toInt_inj, Int32.toInt_add, Int32.toInt_sub, Int32.toInt_mul, Int32.toInt_neg, z_bm, z_bm2, J_ti, J_toInt, z_cn, Int32.reduceToInt]) <;> omega) (by (try simp (disch := omega) only [Int32.lt_iff_toInt_lt, Int32.le_iff_toInt_le, ← Int32.toInt_inj, Int32.toInt_add, Int32.toInt_sub, Int32.toInt_mul, Int32.toInt_neg, z_bm, z_bm2, J_ti, J_toInt, z_cn, Int32.reduceToInt]) <;> omega) (z_let (z_ck (by (try simp (disch := omega) only [Int32.lt_iff_toInt_lt, Int32.le_iff_toInt_le, ← Int32.toInt_inj, Int32.toInt_add, Int32.toInt_sub, Int32.toInt_mul, Int32.toInt_neg, z_bm, z_bm2, J_ti, J_toInt, z_cn, Int32.reduceToInt]) <;> omega) (by (try simp (disch := omega) only [Int32.lt_iff_toInt_lt, Int32.le_iff_toInt_le, ← Int32.toInt_inj, Int32.toInt_add, Int32.toInt_sub, Int32.toInt_mul, Int32.toInt_neg, z_bm, z_bm2, J_ti, J_toInt, z_cn, Int32.reduceToInt]) <;> omega) (z_let (z_let (z_bind _ (z_Rrow (J s) _ (by (try simp (disch := omega) only [Int32.lt_iff_toInt_lt, Int32.le_iff_toInt_le, ← Int32.toInt_inj, Int32.toInt_add, Int32.toInt_sub, Int32.toInt_mul, Int32.toInt_neg, z_bm, z_bm2, J_ti, J_toInt, z_cn, Int32.reduceToInt]) <;> omega) (by (try simp (disch := omega) only [Int32.lt_iff_toInt_lt, Int32.le_iff_toInt_le, ← Int32.toInt_inj, Int32.toInt_add, Int32.toInt_sub, Int32.toInt_mul, Int32.toInt_neg, z_bm, z_bm2, J_ti, J_toInt, z_cn, Int32.reduceToInt]) <;> omega)) (fun _ u2 hw => k_sat_mk ⟨rfl, ?_⟩)))))))))) 
          rw [J_toNat (show s < 2147483648 by omega)] at hw
          obtain ⟨w1, w2, w3, w4⟩ := hw
          have f2 : z_fr [] [39, 40, 41, 72, 73, 74] u u2 := (((v1.mono rfl rfl).tr (z_wA rfl)).tr (z_wA rfl)).tr (w1.mono rfl rfl)
          refine zI_H h (f2.mono rfl rfl) (fun s' hs' => ?_)
          have g39 : u2.2.1 39 = upd (u.2.1 39) s (J k) := by rw [w1.2.1 39 rfl]; simpa [k_wA] using v2
          have g40 : u2.2.1 40 = upd (u.2.1 40) s (J z) := by rw [w1.2.1 40 rfl]; simpa [k_wA] using v3
          have g41 : u2.2.2 41 = u1.2.2 41 := by rw [w1.2.2 41 rfl]; simp [k_wA]
          have g72 : u2.2.1 72 = upd (u.2.1 72) s (-2 - J k) := by rw [w1.2.1 72 rfl]; simp [k_wA, v1.2.1 72 rfl]
          have g73 : u2.2.1 73 = upd (u.2.1 73) s (J z) := by rw [w1.2.1 73 rfl]; simp [k_wA, v1.2.1 73 rfl]
          have g74 : ∀ j, (j < 60 * s ∨ 60 * s + 60 ≤ j) → u2.2.2 74 j = u.2.2 74 j := fun j hj => by rw [w4 j hj]; simp [k_wA, v1.2.2 74 rfl]
          have g3502 : u2.1 3502 = u.1 3502 := f2.1 3502 rfl
          rw [g39, g40, g72, g73, g41, g3502, z_up, z_up, z_up, z_up]
          by_cases e : s' = s
          · subst e
            rw [if_pos rfl, if_pos rfl, if_pos rfl, if_pos rfl]
            exact Or.inr (Or.inr ⟨k, z, by omega, hz2, rfl, rfl, rfl, rfl, fun j hj => ⟨by rw [w3 j hj, v5 j hj], by rw [v5 j hj]; exact z_low_0 k⟩⟩)
          · rw [if_neg e, if_neg e, if_neg e, if_neg e]
            rcases hH s' hs' with q | q | ⟨k', z', q1, q2, q3, q4, q5, q6, q7⟩
            · exact Or.inl q
            · exact Or.inr (Or.inl q)
            · exact Or.inr (Or.inr ⟨k', z', q1, q2, q3, q4, q5, q6, fun j hj => by rw [g74 _ (by omega), v6 _ (by omega)]; exact q7 j hj⟩)
        · refine z_pos h3 (z_neg h4 (k_sat_mk ?_))
          unfold f_R_row
          rw [z_RisShelf (by (try simp (disch := omega) only [Int32.lt_iff_toInt_lt, Int32.le_iff_toInt_le, ← Int32.toInt_inj, Int32.toInt_add, Int32.toInt_sub, Int32.toInt_mul, Int32.toInt_neg, z_bm, z_bm2, J_ti, J_toInt, z_cn, Int32.reduceToInt]) <;> omega) (by (try simp (disch := omega) only [Int32.lt_iff_toInt_lt, Int32.le_iff_toInt_le, ← Int32.toInt_inj, Int32.toInt_add, Int32.toInt_sub, Int32.toInt_mul, Int32.toInt_neg, z_bm, z_bm2, J_ti, J_toInt, z_cn, Int32.reduceToInt]) <;> omega), z_bind_some, hR, z_bind_some]
          exact z_neg (by decide) (z_neg (by decide) (z_pos h3 (z_neg h4 (k_sat_mk ⟨rfl, h⟩))))
      · refine z_neg h3 (k_sat_mk ?_)
        unfold f_R_row
        rw [z_RisShelf (by (try simp (disch := omega) only [Int32.lt_iff_toInt_lt, Int32.le_iff_toInt_le, ← Int32.toInt_inj, Int32.toInt_add, Int32.toInt_sub, Int32.toInt_mul, Int32.toInt_neg, z_bm, z_bm2, J_ti, J_toInt, z_cn, Int32.reduceToInt]) <;> omega) (by (try simp (disch := omega) only [Int32.lt_iff_toInt_lt, Int32.le_iff_toInt_le, ← Int32.toInt_inj, Int32.toInt_add, Int32.toInt_sub, Int32.toInt_mul, Int32.toInt_neg, z_bm, z_bm2, J_ti, J_toInt, z_cn, Int32.reduceToInt]) <;> omega), z_bind_some, hR, z_bind_some]
        exact z_neg (by decide) (z_neg (by decide) (z_neg h3 (k_sat_mk ⟨rfl, h⟩)))
    · have hR : ∀ u, f_R_in a1 0 4 u = some (0, u) := fun u => z_Rin0 (by ((try simp (disch := omega) only [Int32.lt_iff_toInt_lt, Int32.le_iff_toInt_le, ← Int32.toInt_inj, Int32.toInt_add, Int32.toInt_sub, Int32.toInt_mul, Int32.toInt_neg, z_bm, z_bm2, J_ti, J_toInt, z_cn, Int32.reduceToInt] at *); omega))
      have e : k_sat (f_R_row (J s) a1 a2 u) (fun r' v => (-1 : Int32) = r' ∧ zI v) := by
        unfold f_R_row
        rw [z_RisShelf (by (try simp (disch := omega) only [Int32.lt_iff_toInt_lt, Int32.le_iff_toInt_le, ← Int32.toInt_inj, Int32.toInt_add, Int32.toInt_sub, Int32.toInt_mul, Int32.toInt_neg, z_bm, z_bm2, J_ti, J_toInt, z_cn, Int32.reduceToInt]) <;> omega) (by (try simp (disch := omega) only [Int32.lt_iff_toInt_lt, Int32.le_iff_toInt_le, ← Int32.toInt_inj, Int32.toInt_add, Int32.toInt_sub, Int32.toInt_mul, Int32.toInt_neg, z_bm, z_bm2, J_ti, J_toInt, z_cn, Int32.reduceToInt]) <;> omega), z_bind_some, hR, z_bind_some]
        exact z_neg (by decide) (z_pos rfl (k_sat_mk ⟨rfl, h⟩))
      exact z_ite (fun _ => k_sat_mk e) (fun h3 => z_pos (by ((try simp (disch := omega) only [Int32.lt_iff_toInt_lt, Int32.le_iff_toInt_le, ← Int32.toInt_inj, Int32.toInt_add, Int32.toInt_sub, Int32.toInt_mul, Int32.toInt_neg, z_bm, z_bm2, J_ti, J_toInt, z_cn, Int32.reduceToInt] at *); omega)) (k_sat_mk e))
  · rw [z_Shas0 (by omega), z_bind_some]
    refine z_pos rfl (k_sat_mk ?_)
    unfold f_R_row
    rw [z_RisShelf0 (by omega), z_bind_some]
    exact z_pos rfl (k_sat_mk ⟨rfl, h⟩)
/-- why there is no such element, on both sides; or where it lies -/
theorem z_why (a0 a1 : Int32) (u : k_S) (h : zI u) : (∃ s i k z : Nat, s < 6 ∧ i < z ∧ z ≤ 60 ∧ k ≤ 4 ∧ a0 = J s ∧ a1 = J i ∧ u.2.1 39 s = J k ∧ u.2.1 72 s = -2 - J k ∧ f_Shelves_has a0 u = some (1, u) ∧ f_Shelves_refusalAt a0 a1 u = some (0, u) ∧ ∀ v, z_fr [] [41] u v → f_R_whyNoPlace a0 a1 v = some (0, v)) ∨ (∃ r : Int32, r < 0 ∧ ((f_Shelves_has a0 u = some (0, u) ∧ r = -1) ∨ (f_Shelves_has a0 u = some (1, u) ∧ f_Shelves_refusalAt a0 a1 u = some (r, u))) ∧ f_R_whyNoPlace a0 a1 u = some (r, u)) := by
  have hH := h.2.2.2.2.2.2.2.2.2.1
  rcases J_or a0 6 with ⟨s, hs, rfl⟩ | ha
  · have hh : ∀ v, f_Shelves_heldBy (J s) v = some (v.2.1 39 s, v) := fun v => by
      rw [z_SheldBy (by (try simp (disch := omega) only [Int32.lt_iff_toInt_lt, Int32.le_iff_toInt_le, ← Int32.toInt_inj, Int32.toInt_add, Int32.toInt_sub, Int32.toInt_mul, Int32.toInt_neg, z_bm, z_bm2, J_ti, J_toInt, z_cn, Int32.reduceToInt]) <;> omega) (by (try simp (disch := omega) only [Int32.lt_iff_toInt_lt, Int32.le_iff_toInt_le, ← Int32.toInt_inj, Int32.toInt_add, Int32.toInt_sub, Int32.toInt_mul, Int32.toInt_neg, z_bm, z_bm2, J_ti, J_toInt, z_cn, Int32.reduceToInt]) <;> omega), J_toNat (by omega)]
    have hR : ∀ v, f_R_whyNoPlace (J s) a1 v = if v.2.1 72 s = -1 then some (-11, v) else if v.2.1 72 s < 0 then k_bind (f_R_in a1 0 (v.2.1 73 s - 1) v) (fun r4 u3 => if r4 = 0 then some ((-13), u3) else some (0, u3)) else some (-12, v) := by
      intro v
      unfold f_R_whyNoPlace
      rw [z_RisShelf (by (try simp (disch := omega) only [Int32.lt_iff_toInt_lt, Int32.le_iff_toInt_le, ← Int32.toInt_inj, Int32.toInt_add, Int32.toInt_sub, Int32.toInt_mul, Int32.toInt_neg, z_bm, z_bm2, J_ti, J_toInt, z_cn, Int32.reduceToInt]) <;> omega) (by (try simp (disch := omega) only [Int32.lt_iff_toInt_lt, Int32.le_iff_toInt_le, ← Int32.toInt_inj, Int32.toInt_add, Int32.toInt_sub, Int32.toInt_mul, Int32.toInt_neg, z_bm, z_bm2, J_ti, J_toInt, z_cn, Int32.reduceToInt]) <;> omega), z_bind_some, if_neg (by decide), z_cko _ (by (try simp (disch := omega) only [Int32.lt_iff_toInt_lt, Int32.le_iff_toInt_le, ← Int32.toInt_inj, Int32.toInt_add, Int32.toInt_sub, Int32.toInt_mul, Int32.toInt_neg, z_bm, z_bm2, J_ti, J_toInt, z_cn, Int32.reduceToInt]) <;> omega) (by (try simp (disch := omega) only [Int32.lt_iff_toInt_lt, Int32.le_iff_toInt_le, ← Int32.toInt_inj, Int32.toInt_add, Int32.toInt_sub, Int32.toInt_mul, Int32.toInt_neg, z_bm, z_bm2, J_ti, J_toInt, z_cn, Int32.reduceToInt]) <;> omega), z_cko _ (by (try simp (disch := omega) only [Int32.lt_iff_toInt_lt, Int32.le_iff_toInt_le, ← Int32.toInt_inj, Int32.toInt_add, Int32.toInt_sub, Int32.toInt_mul, Int32.toInt_neg, z_bm, z_bm2, J_ti, J_toInt, z_cn, Int32.reduceToInt]) <;> omega) (by (try simp (disch := omega) only [Int32.lt_iff_toInt_lt, Int32.le_iff_toInt_le, ← Int32.toInt_inj, Int32.toInt_add, Int32.toInt_sub, Int32.toInt_mul, Int32.toInt_neg, z_bm, z_bm2, J_ti, J_toInt, z_cn, Int32.reduceToInt]) <;> omega), z_cko _ (by (try simp (disch := omega) only [Int32.lt_iff_toInt_lt, Int32.le_iff_toInt_le, ← Int32.toInt_inj, Int32.toInt_add, Int32.toInt_sub, Int32.toInt_mul, Int32.toInt_neg, z_bm, z_bm2, J_ti, J_toInt, z_cn, Int32.reduceToInt]) <;> omega) (by (try simp (disch := omega) only [Int32.lt_iff_toInt_lt, Int32.le_iff_toInt_le, ← Int32.toInt_inj, Int32.toInt_add, Int32.toInt_sub, Int32.toInt_mul, Int32.toInt_neg, z_bm, z_bm2, J_ti, J_toInt, z_cn, Int32.reduceToInt]) <;> omega), J_toNat (by omega)]
    have h1 : f_Shelves_has (J s) u = some (1, u) := z_Shas (by (try simp (disch := omega) only [Int32.lt_iff_toInt_lt, Int32.le_iff_toInt_le, ← Int32.toInt_inj, Int32.toInt_add, Int32.toInt_sub, Int32.toInt_mul, Int32.toInt_neg, z_bm, z_bm2, J_ti, J_toInt, z_cn, Int32.reduceToInt]) <;> omega) (by (try simp (disch := omega) only [Int32.lt_iff_toInt_lt, Int32.le_iff_toInt_le, ← Int32.toInt_inj, Int32.toInt_add, Int32.toInt_sub, Int32.toInt_mul, Int32.toInt_neg, z_bm, z_bm2, J_ti, J_toInt, z_cn, Int32.reduceToInt]) <;> omega)
    rcases hH s hs with ⟨q1, q2⟩ | ⟨q1, b, q2, q3, q4⟩ | ⟨k, z, q1, q2, q3, q4, q5, q6, q7⟩
    · refine Or.inr ⟨-11, by decide, Or.inr ⟨h1, ?_⟩, ?_⟩
      · unfold f_Shelves_refusalAt
        rw [hh, z_bind_some, if_pos q1]
      · rw [hR, if_pos q2]
    · refine Or.inr ⟨-12, by decide, Or.inr ⟨h1, ?_⟩, ?_⟩
      · unfold f_Shelves_refusalAt
        rw [hh, z_bind_some, q1, if_neg (by decide), if_pos rfl]
      · have := z_rg (u.1 3502)
        rw [hR, q3, if_neg (by ((try simp (disch := omega) only [Int32.lt_iff_toInt_lt, Int32.le_iff_toInt_le, ← Int32.toInt_inj, Int32.toInt_add, Int32.toInt_sub, Int32.toInt_mul, Int32.toInt_neg, z_bm, z_bm2, J_ti, J_toInt, z_cn, Int32.reduceToInt] at *); omega)), if_neg (by ((try simp (disch := omega) only [Int32.lt_iff_toInt_lt, Int32.le_iff_toInt_le, ← Int32.toInt_inj, Int32.toInt_add, Int32.toInt_sub, Int32.toInt_mul, Int32.toInt_neg, z_bm, z_bm2, J_ti, J_toInt, z_cn, Int32.reduceToInt] at *); omega))]
    · have r1 : ¬ u.2.1 72 s = -1 := by rw [q4]; (try simp (disch := omega) only [Int32.lt_iff_toInt_lt, Int32.le_iff_toInt_le, ← Int32.toInt_inj, Int32.toInt_add, Int32.toInt_sub, Int32.toInt_mul, Int32.toInt_neg, z_bm, z_bm2, J_ti, J_toInt, z_cn, Int32.reduceToInt]) <;> omega
      have r2 : u.2.1 72 s < 0 := by rw [q4]; (try simp (disch := omega) only [Int32.lt_iff_toInt_lt, Int32.le_iff_toInt_le, ← Int32.toInt_inj, Int32.toInt_add, Int32.toInt_sub, Int32.toInt_mul, Int32.toInt_neg, z_bm, z_bm2, J_ti, J_toInt, z_cn, Int32.reduceToInt]) <;> omega
      have w1 : f_Shelves_refusalAt (J s) a1 u = if a1 < 0 then some (-13, u) else if J z ≤ a1 then some (-13, u) else some (0, u) := by
        unfold f_Shelves_refusalAt
        rw [hh, z_bind_some, q3, if_neg (by (try simp (disch := omega) only [Int32.lt_iff_toInt_lt, Int32.le_iff_toInt_le, ← Int32.toInt_inj, Int32.toInt_add, Int32.toInt_sub, Int32.toInt_mul, Int32.toInt_neg, z_bm, z_bm2, J_ti, J_toInt, z_cn, Int32.reduceToInt]) <;> omega), if_neg (by (try simp (disch := omega) only [Int32.lt_iff_toInt_lt, Int32.le_iff_toInt_le, ← Int32.toInt_inj, Int32.toInt_add, Int32.toInt_sub, Int32.toInt_mul, Int32.toInt_neg, z_bm, z_bm2, J_ti, J_toInt, z_cn, Int32.reduceToInt]) <;> omega), z_Shelves_sizeOf (by omega), z_bind_some, q5]
      rcases J_or a1 z with ⟨i, hi, rfl⟩ | hi
      · refine Or.inl ⟨s, i, k, z, hs, hi, q2, q1, rfl, rfl, q3, q4, h1, ?_, fun v hv => ?_⟩
        · rw [w1, if_neg (by (try simp (disch := omega) only [Int32.lt_iff_toInt_lt, Int32.le_iff_toInt_le, ← Int32.toInt_inj, Int32.toInt_add, Int32.toInt_sub, Int32.toInt_mul, Int32.toInt_neg, z_bm, z_bm2, J_ti, J_toInt, z_cn, Int32.reduceToInt]) <;> omega), if_neg (by (try simp (disch := omega) only [Int32.lt_iff_toInt_lt, Int32.le_iff_toInt_le, ← Int32.toInt_inj, Int32.toInt_add, Int32.toInt_sub, Int32.toInt_mul, Int32.toInt_neg, z_bm, z_bm2, J_ti, J_toInt, z_cn, Int32.reduceToInt]) <;> omega)]
        · rw [hR, hv.2.1 72 rfl, if_neg r1, if_pos r2, hv.2.1 73 rfl, q6, z_Rin1 (by (try simp (disch := omega) only [Int32.lt_iff_toInt_lt, Int32.le_iff_toInt_le, ← Int32.toInt_inj, Int32.toInt_add, Int32.toInt_sub, Int32.toInt_mul, Int32.toInt_neg, z_bm, z_bm2, J_ti, J_toInt, z_cn, Int32.reduceToInt]) <;> omega) (by rw [J_m1 (by omega)]; (try simp (disch := omega) only [Int32.lt_iff_toInt_lt, Int32.le_iff_toInt_le, ← Int32.toInt_inj, Int32.toInt_add, Int32.toInt_sub, Int32.toInt_mul, Int32.toInt_neg, z_bm, z_bm2, J_ti, J_toInt, z_cn, Int32.reduceToInt]) <;> omega), z_bind_some, if_neg (by decide)]
      · refine Or.inr ⟨-13, by decide, Or.inr ⟨h1, ?_⟩, ?_⟩
        · rw [w1]
          by_cases hn : a1 < 0
          · rw [if_pos hn]
          · rw [if_neg hn, if_pos (by ((try simp (disch := omega) only [Int32.lt_iff_toInt_lt, Int32.le_iff_toInt_le, ← Int32.toInt_inj, Int32.toInt_add, Int32.toInt_sub, Int32.toInt_mul, Int32.toInt_neg, z_bm, z_bm2, J_ti, J_toInt, z_cn, Int32.reduceToInt] at *); omega))]
        · rw [hR, if_neg r1, if_pos r2, q6, z_Rin0 (by rw [J_m1 (by omega)]; ((try simp (disch := omega) only [Int32.lt_iff_toInt_lt, Int32.le_iff_toInt_le, ← Int32.toInt_inj, Int32.toInt_add, Int32.toInt_sub, Int32.toInt_mul, Int32.toInt_neg, z_bm, z_bm2, J_ti, J_toInt, z_cn, Int32.reduceToInt] at *); omega)), z_bind_some, if_pos rfl]
  · refine Or.inr ⟨-1, by decide, Or.inl ⟨z_Shas0 (by omega), rfl⟩, ?_⟩
    unfold f_R_whyNoPlace
    rw [z_RisShelf0 (by omega), z_bind_some, if_pos rfl]
theorem J_60 (s i : Nat) : (60 : Int32) * J s + J i = J (60 * s + i) := by
  rw [show (60 : Int32) = J 60 from rfl, J_mul, J_add]
theorem z_lowest (k : Nat) (hk : k ≤ 4) (x : Int64) (u : k_S) : f_Shelves_lowest (J k) x u = some (z_low k x, u) := by
  unfold f_Shelves_lowest z_low
  by_cases h0 : k = 0
  · rw [if_pos (show J k = 0 by rw [h0]; rfl), if_pos h0]
  rw [if_neg (show ¬ J k = 0 by (try simp (disch := omega) only [Int32.lt_iff_toInt_lt, Int32.le_iff_toInt_le, ← Int32.toInt_inj, Int32.toInt_add, Int32.toInt_sub, Int32.toInt_mul, Int32.toInt_neg, z_bm, z_bm2, J_ti, J_toInt, z_cn, Int32.reduceToInt]) <;> omega), if_neg h0]
  by_cases h1 : k = 1
  · rw [if_pos (show J k = 1 by rw [h1]; rfl), if_pos h1]
  rw [if_neg (show ¬ J k = 1 by (try simp (disch := omega) only [Int32.lt_iff_toInt_lt, Int32.le_iff_toInt_le, ← Int32.toInt_inj, Int32.toInt_add, Int32.toInt_sub, Int32.toInt_mul, Int32.toInt_neg, z_bm, z_bm2, J_ti, J_toInt, z_cn, Int32.reduceToInt]) <;> omega), if_neg h1]
  by_cases h2 : k = 2
  · rw [if_pos (show J k = 2 by rw [h2]; rfl), if_pos h2]
  rw [if_neg (show ¬ J k = 2 by (try simp (disch := omega) only [Int32.lt_iff_toInt_lt, Int32.le_iff_toInt_le, ← Int32.toInt_inj, Int32.toInt_add, Int32.toInt_sub, Int32.toInt_mul, Int32.toInt_neg, z_bm, z_bm2, J_ti, J_toInt, z_cn, Int32.reduceToInt]) <;> omega), if_neg h2]
  by_cases h3 : k = 3
  · rw [if_pos (show J k = 3 by rw [h3]; rfl), if_pos h3]
  rw [if_neg (show ¬ J k = 3 by (try simp (disch := omega) only [Int32.lt_iff_toInt_lt, Int32.le_iff_toInt_le, ← Int32.toInt_inj, Int32.toInt_add, Int32.toInt_sub, Int32.toInt_mul, Int32.toInt_neg, z_bm, z_bm2, J_ti, J_toInt, z_cn, Int32.reduceToInt]) <;> omega), if_neg h3]
  by_cases h4 : lg_cmp x 0 = 0
  · rw [if_pos h4, if_pos h4]
  · rw [if_neg h4, if_neg h4]
theorem z_low0 (x : Int64) : z_low 0 x = ((((x).toInt32).toInt8.toInt32).toInt64) := by unfold z_low; rw [if_pos rfl]
theorem z_low1 (x : Int64) : z_low 1 x = ((((x).toInt32).toInt16.toInt32).toInt64) := by unfold z_low; rw [if_neg (by decide), if_pos rfl]
theorem z_low2 (x : Int64) : z_low 2 x = (((x).toInt32).toInt64) := by unfold z_low; rw [if_neg (by decide), if_neg (by decide), if_pos rfl]
theorem z_low3 (x : Int64) : z_low 3 x = x := by unfold z_low; rw [if_neg (by decide), if_neg (by decide), if_neg (by decide), if_pos rfl]
theorem z_low4 (x : Int64) : z_low 4 x = if lg_cmp x 0 = 0 then 0 else 1 := by unfold z_low; rw [if_neg (by decide), if_neg (by decide), if_neg (by decide), if_neg (by decide)]
theorem z_putR0 (t q : Int32) (x : Int64) (v : k_S) (n k : Nat) (hk : k ≤ 4) (ht : t = J k) (hc : ∀ o : Option (Int32 × k_S), k_ck q 360 o = o) (hn : q.toNatClampNeg = n) {F : Int32 → Option (Int32 × k_S)} (hF : ∀ t, F t = if t = 0 then k_ck q 360 (k_let (k_wL v 74 q.toNatClampNeg ((((x).toInt32).toInt8.toInt32).toInt64)) (fun u9 => some (1, u9))) else if t = 1 then k_ck q 360 (k_let (k_wL v 74 q.toNatClampNeg ((((x).toInt32).toInt16.toInt32).toInt64)) (fun u8 => some (1, u8))) else if t = 2 then k_ck q 360 (k_let (k_wL v 74 q.toNatClampNeg (((x).toInt32).toInt64)) (fun u7 => some (1, u7))) else if t = 3 then k_ck q 360 (k_let (k_wL v 74 q.toNatClampNeg x) (fun u6 => some (1, u6))) else if (lg_cmp x 0) = 0 then k_ck q 360 (k_let (k_wL v 74 q.toNatClampNeg 0) (fun u4 => some (1, u4))) else k_ck q 360 (k_let (k_wL v 74 q.toNatClampNeg 1) (fun u5 => some (1, u5)))) : k_let t F = some (1, k_wL v 74 n (z_low k x)) := by
  subst hn
  rw [k_let, hF, ht]
  rcases (show k = 0 ∨ k = 1 ∨ k = 2 ∨ k = 3 ∨ k = 4 by omega) with rfl | rfl | rfl | rfl | rfl
  · rw [z_low0, if_pos (show J 0 = 0 from rfl), hc, k_let]
  · rw [z_low1, if_neg (show ¬ J 1 = 0 by decide), if_pos (show J 1 = 1 from rfl), hc, k_let]
  · rw [z_low2, if_neg (show ¬ J 2 = 0 by decide), if_neg (show ¬ J 2 = 1 by decide), if_pos (show J 2 = 2 from rfl), hc, k_let]
  · rw [z_low3, if_neg (show ¬ J 3 = 0 by decide), if_neg (show ¬ J 3 = 1 by decide), if_neg (show ¬ J 3 = 2 by decide), if_pos (show J 3 = 3 from rfl), hc, k_let]
  · rw [z_low4, if_neg (show ¬ J 4 = 0 by decide), if_neg (show ¬ J 4 = 1 by decide), if_neg (show ¬ J 4 = 2 by decide), if_neg (show ¬ J 4 = 3 by decide)]
    by_cases h4 : lg_cmp x 0 = 0
    · rw [if_pos h4, if_pos h4, hc, k_let]
    · rw [if_neg h4, if_neg h4, hc, k_let]
theorem z_putR (s i k : Nat) (hs : s < 6) (hi : i < 60) (hk : k ≤ 4) (x : Int64) (v : k_S) (h3 : f_R_whyNoPlace (J s) (J i) v = some (0, v)) (e72 : v.2.1 72 s = -2 - J k) : f_R_put (J s) (J i) x v = some (1, k_wL v 74 (60 * s + i) (z_low k x)) := by
  have ek : (-2 : Int32) - v.2.1 72 s = J k := by
    rw [e72]
    apply Int32.toInt.inj
    (try simp (disch := omega) only [Int32.lt_iff_toInt_lt, Int32.le_iff_toInt_le, ← Int32.toInt_inj, Int32.toInt_add, Int32.toInt_sub, Int32.toInt_mul, Int32.toInt_neg, z_bm, z_bm2, J_ti, J_toInt, z_cn, Int32.reduceToInt]) <;> omega
  unfold f_R_put
  rw [h3, z_bind_some, if_pos (by decide), z_cko _ (by (try simp (disch := omega) only [Int32.lt_iff_toInt_lt, Int32.le_iff_toInt_le, ← Int32.toInt_inj, Int32.toInt_add, Int32.toInt_sub, Int32.toInt_mul, Int32.toInt_neg, z_bm, z_bm2, J_ti, J_toInt, z_cn, Int32.reduceToInt]) <;> omega) (by (try simp (disch := omega) only [Int32.lt_iff_toInt_lt, Int32.le_iff_toInt_le, ← Int32.toInt_inj, Int32.toInt_add, Int32.toInt_sub, Int32.toInt_mul, Int32.toInt_neg, z_bm, z_bm2, J_ti, J_toInt, z_cn, Int32.reduceToInt]) <;> omega), J_toNat (show s < 2147483648 by omega), J_60]
  exact z_putR0 _ (J (60 * s + i)) x v (60 * s + i) k hk ek (fun o => z_cko o (by (try simp (disch := omega) only [Int32.lt_iff_toInt_lt, Int32.le_iff_toInt_le, ← Int32.toInt_inj, Int32.toInt_add, Int32.toInt_sub, Int32.toInt_mul, Int32.toInt_neg, z_bm, z_bm2, J_ti, J_toInt, z_cn, Int32.reduceToInt]) <;> omega) (by (try simp (disch := omega) only [Int32.lt_iff_toInt_lt, Int32.le_iff_toInt_le, ← Int32.toInt_inj, Int32.toInt_add, Int32.toInt_sub, Int32.toInt_mul, Int32.toInt_neg, z_bm, z_bm2, J_ti, J_toInt, z_cn, Int32.reduceToInt]) <;> omega)) (J_toNat (by omega)) (fun t => rfl)
theorem z_putW (s i k : Nat) (hs : s < 6) (hi : i < 60) (hk : k ≤ 4) (x : Int64) (u : k_S) (e39 : u.2.1 39 s = J k) : f_Shelves_write (J s) (J i) x u = some ((), k_wL u 41 (60 * s + i) (z_low k x)) := by
  unfold f_Shelves_write
  simp only [k_let]
  rw [J_60, if_neg (by (try simp (disch := omega) only [Int32.lt_iff_toInt_lt, Int32.le_iff_toInt_le, ← Int32.toInt_inj, Int32.toInt_add, Int32.toInt_sub, Int32.toInt_mul, Int32.toInt_neg, z_bm, z_bm2, J_ti, J_toInt, z_cn, Int32.reduceToInt]) <;> omega), if_neg (by (try simp (disch := omega) only [Int32.lt_iff_toInt_lt, Int32.le_iff_toInt_le, ← Int32.toInt_inj, Int32.toInt_add, Int32.toInt_sub, Int32.toInt_mul, Int32.toInt_neg, z_bm, z_bm2, J_ti, J_toInt, z_cn, Int32.reduceToInt]) <;> omega), z_SheldBy (by (try simp (disch := omega) only [Int32.lt_iff_toInt_lt, Int32.le_iff_toInt_le, ← Int32.toInt_inj, Int32.toInt_add, Int32.toInt_sub, Int32.toInt_mul, Int32.toInt_neg, z_bm, z_bm2, J_ti, J_toInt, z_cn, Int32.reduceToInt]) <;> omega) (by (try simp (disch := omega) only [Int32.lt_iff_toInt_lt, Int32.le_iff_toInt_le, ← Int32.toInt_inj, Int32.toInt_add, Int32.toInt_sub, Int32.toInt_mul, Int32.toInt_neg, z_bm, z_bm2, J_ti, J_toInt, z_cn, Int32.reduceToInt]) <;> omega), J_toNat (show s < 2147483648 by omega), z_bind_some, e39, z_lowest k hk, z_bind_some, z_cko _ (by (try simp (disch := omega) only [Int32.lt_iff_toInt_lt, Int32.le_iff_toInt_le, ← Int32.toInt_inj, Int32.toInt_add, Int32.toInt_sub, Int32.toInt_mul, Int32.toInt_neg, z_bm, z_bm2, J_ti, J_toInt, z_cn, Int32.reduceToInt]) <;> omega) (by (try simp (disch := omega) only [Int32.lt_iff_toInt_lt, Int32.le_iff_toInt_le, ← Int32.toInt_inj, Int32.toInt_add, Int32.toInt_sub, Int32.toInt_mul, Int32.toInt_neg, z_bm, z_bm2, J_ti, J_toInt, z_cn, Int32.reduceToInt]) <;> omega), J_toNat (show 60 * s + i < 2147483648 by omega)]
theorem z_putI (u : k_S) (h : zI u) {s i k : Nat} (hs : s < 6) (hi : i < 60) (hk : k ≤ 4) (e39 : u.2.1 39 s = J k) (x : Int64) : zI (k_wL (k_wL u 41 (60 * s + i) (z_low k x)) 74 (60 * s + i) (z_low k x)) := by
  have f2 : z_fr [] [41, 74] u (k_wL (k_wL u 41 (60 * s + i) (z_low k x)) 74 (60 * s + i) (z_low k x)) := (z_wL rfl).tr (z_wL rfl)
  refine zI_H h (f2.mono rfl rfl) (fun s' hs' => ?_)
  rcases h.2.2.2.2.2.2.2.2.2.1 s' hs' with q | q | ⟨k', z', q1, q2, q3, q4, q5, q6, q7⟩
  · exact Or.inl q
  · exact Or.inr (Or.inl q)
  · refine Or.inr (Or.inr ⟨k', z', q1, q2, q3, q4, q5, q6, fun j hj => ?_⟩)
    simp only [k_wL, if_true]
    rw [if_neg (by decide), if_neg (by decide), z_upL, z_upL, (q7 j hj).1]
    refine ⟨rfl, ?_⟩
    by_cases e : 60 * s' + j = 60 * s + i
    · have es : s' = s := by omega
      subst es
      have ek : k' = k := by
        rw [e39, J_inj (by omega) (by omega)] at q3
        exact q3.symm
      rw [if_pos e, ek, z_low_i]
    · rw [if_neg e]
      exact (q7 j hj).2
theorem z_put (a0 a1 : Int32) (a2 : Int64) (u : k_S) (h : zI u) : z_pair (f_W_put a0 a1 a2) (f_R_put a0 a1 a2) u zI := by
  refine z_pair_of ?_
  unfold f_W_put
  rcases z_why a0 a1 u h with ⟨s, i, k, z, hs, hi, hz, hk, rfl, rfl, e39, e72, h1, h2, h3⟩ | ⟨r, hr, hW, hR⟩
  · rw [h1, z_bind_some]
    refine z_neg (by decide) ?_
    rw [h2, z_bind_some]
    refine z_pos rfl ?_
    rw [z_putW s i k hs (by omega) hk a2 u e39, z_bind_some]
    refine k_sat_mk ?_
    rw [z_putR s i k hs (by omega) hk a2 _ (h3 _ (z_wL rfl)) e72]
    exact k_sat_mk ⟨rfl, z_putI u h hs (by omega) hk e39 a2⟩
  · have eR : k_sat (f_R_put a0 a1 a2 u) (fun r' v => r = r' ∧ zI v) := by
      unfold f_R_put
      rw [hR, z_bind_some]
      exact z_neg (by ((try simp (disch := omega) only [Int32.lt_iff_toInt_lt, Int32.le_iff_toInt_le, ← Int32.toInt_inj, Int32.toInt_add, Int32.toInt_sub, Int32.toInt_mul, Int32.toInt_neg, z_bm, z_bm2, J_ti, J_toInt, z_cn, Int32.reduceToInt] at *); omega)) (k_sat_mk ⟨rfl, h⟩)
    rcases hW with ⟨h1, rfl⟩ | ⟨h1, h2⟩
    · rw [h1, z_bind_some]
      exact z_pos rfl (k_sat_mk eR)
    · rw [h1, z_bind_some]
      refine z_neg (by decide) ?_
      rw [h2, z_bind_some]
      exact z_neg (by ((try simp (disch := omega) only [Int32.lt_iff_toInt_lt, Int32.le_iff_toInt_le, ← Int32.toInt_inj, Int32.toInt_add, Int32.toInt_sub, Int32.toInt_mul, Int32.toInt_neg, z_bm, z_bm2, J_ti, J_toInt, z_cn, Int32.reduceToInt] at *); omega)) (k_sat_mk eR)
theorem z_element (a0 a1 : Int32) (u : k_S) (h : zI u) : z_pair (f_W_element a0 a1) (f_R_element a0 a1) u zI := by
  have hH := h.2.2.2.2.2.2.2.2.2.1
  refine z_pair_of ?_
  unfold f_W_element
  rcases z_why a0 a1 u h with ⟨s, i, k, z, hs, hi, hz, hk, rfl, rfl, e39, e72, h1, h2, h3⟩ | ⟨r, hr, hW, hR⟩
  · rw [h1, z_bind_some]
    refine z_neg (by decide) ?_
    rw [h2, z_bind_some]
    refine z_pos rfl ?_
    unfold f_Shelves_valueAt
    simp only [k_let]
    rw [J_60, if_neg (by (try simp (disch := omega) only [Int32.lt_iff_toInt_lt, Int32.le_iff_toInt_le, ← Int32.toInt_inj, Int32.toInt_add, Int32.toInt_sub, Int32.toInt_mul, Int32.toInt_neg, z_bm, z_bm2, J_ti, J_toInt, z_cn, Int32.reduceToInt]) <;> omega), if_neg (by (try simp (disch := omega) only [Int32.lt_iff_toInt_lt, Int32.le_iff_toInt_le, ← Int32.toInt_inj, Int32.toInt_add, Int32.toInt_sub, Int32.toInt_mul, Int32.toInt_neg, z_bm, z_bm2, J_ti, J_toInt, z_cn, Int32.reduceToInt]) <;> omega), z_cko _ (by (try simp (disch := omega) only [Int32.lt_iff_toInt_lt, Int32.le_iff_toInt_le, ← Int32.toInt_inj, Int32.toInt_add, Int32.toInt_sub, Int32.toInt_mul, Int32.toInt_neg, z_bm, z_bm2, J_ti, J_toInt, z_cn, Int32.reduceToInt]) <;> omega) (by (try simp (disch := omega) only [Int32.lt_iff_toInt_lt, Int32.le_iff_toInt_le, ← Int32.toInt_inj, Int32.toInt_add, Int32.toInt_sub, Int32.toInt_mul, Int32.toInt_neg, z_bm, z_bm2, J_ti, J_toInt, z_cn, Int32.reduceToInt]) <;> omega), z_bind_some]
    refine k_sat_mk ?_
    unfold f_R_element
    rw [h3 u z_fr.rf, z_bind_some, J_60]
    refine z_pos (by decide) (z_ck (by (try simp (disch := omega) only [Int32.lt_iff_toInt_lt, Int32.le_iff_toInt_le, ← Int32.toInt_inj, Int32.toInt_add, Int32.toInt_sub, Int32.toInt_mul, Int32.toInt_neg, z_bm, z_bm2, J_ti, J_toInt, z_cn, Int32.reduceToInt]) <;> omega) (by (try simp (disch := omega) only [Int32.lt_iff_toInt_lt, Int32.le_iff_toInt_le, ← Int32.toInt_inj, Int32.toInt_add, Int32.toInt_sub, Int32.toInt_mul, Int32.toInt_neg, z_bm, z_bm2, J_ti, J_toInt, z_cn, Int32.reduceToInt]) <;> omega) (k_sat_mk ⟨?_, h⟩))
    rw [J_toNat (show 60 * s + i < 2147483648 by omega)]
    rcases hH s hs with ⟨q, -⟩ | ⟨q, -⟩ | ⟨k', z', q1, q2, q3, q4, q5, q6, q7⟩
    · rw [e39] at q
      exact absurd q (by (try simp (disch := omega) only [Int32.lt_iff_toInt_lt, Int32.le_iff_toInt_le, ← Int32.toInt_inj, Int32.toInt_add, Int32.toInt_sub, Int32.toInt_mul, Int32.toInt_neg, z_bm, z_bm2, J_ti, J_toInt, z_cn, Int32.reduceToInt]) <;> omega)
    · rw [e39] at q
      exact absurd q (by (try simp (disch := omega) only [Int32.lt_iff_toInt_lt, Int32.le_iff_toInt_le, ← Int32.toInt_inj, Int32.toInt_add, Int32.toInt_sub, Int32.toInt_mul, Int32.toInt_neg, z_bm, z_bm2, J_ti, J_toInt, z_cn, Int32.reduceToInt]) <;> omega)
    · exact (q7 i (by omega)).1.symm
  · have eR : k_sat (f_R_element a0 a1 u) (fun r' v => (-9223372036854775808 : Int64) = r' ∧ zI v) := by
      unfold f_R_element
      rw [hR, z_bind_some]
      exact z_neg (by ((try simp (disch := omega) only [Int32.lt_iff_toInt_lt, Int32.le_iff_toInt_le, ← Int32.toInt_inj, Int32.toInt_add, Int32.toInt_sub, Int32.toInt_mul, Int32.toInt_neg, z_bm, z_bm2, J_ti, J_toInt, z_cn, Int32.reduceToInt] at *); omega)) (k_sat_mk ⟨rfl, h⟩)
    rcases hW with ⟨h1, rfl⟩ | ⟨h1, h2⟩
    · rw [h1, z_bind_some]
      exact z_pos rfl (k_sat_mk eR)
    · rw [h1, z_bind_some]
      refine z_neg (by decide) ?_
      rw [h2, z_bind_some]
      exact z_neg (by ((try simp (disch := omega) only [Int32.lt_iff_toInt_lt, Int32.le_iff_toInt_le, ← Int32.toInt_inj, Int32.toInt_add, Int32.toInt_sub, Int32.toInt_mul, Int32.toInt_neg, z_bm, z_bm2, J_ti, J_toInt, z_cn, Int32.reduceToInt] at *); omega)) (k_sat_mk eR)
