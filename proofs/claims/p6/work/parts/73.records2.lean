/-! records -/
theorem z_recsR {u : k_S} {n0 s q z N : Nat} {A B : Nat → Nat} {X : Nat → Int64} (hs : s < 6) (hz : z ≤ 60) (hq : q < 60) (hN : N ≤ 30) (e72 : u.2.1 72 s = -3) (e73 : u.2.1 73 s = J z) (hX : ∀ j, j < 60 → u.2.2 74 (60 * s + j) = X j) (hn : n0 ≤ 40) (h : z_RR n0 (z_apA X q n0 A) (z_apB X q n0 B) u) : k_sat (f_R_records_J43 (J s) (J q) (J N) u) (fun r v => z_fr [4235] [64, 65] u v ∧ ∃ m, m ≤ N ∧ r = J m ∧ z_RR (n0 + m) (z_apA X q n0 A) (z_apB X q n0 B) v ∧ (∀ k, k < m → z_rk X q z n0 k) ∧ (m = N ∨ ¬ z_rk X q z n0 m)) := by
  unfold f_R_records_J43
  rw [J_toNat (show s < 2147483648 by omega), e72]
  refine z_ck (by (try simp (disch := omega) only [Int32.lt_iff_toInt_lt, Int32.le_iff_toInt_le, ← Int32.toInt_inj, Int32.toInt_add, Int32.toInt_sub, Int32.toInt_mul, Int32.toInt_neg, z_bm, z_bm2, J_ti, J_toInt, z_cn, Int32.reduceToInt]) <;> omega) (by (try simp (disch := omega) only [Int32.lt_iff_toInt_lt, Int32.le_iff_toInt_le, ← Int32.toInt_inj, Int32.toInt_add, Int32.toInt_sub, Int32.toInt_mul, Int32.toInt_neg, z_bm, z_bm2, J_ti, J_toInt, z_cn, Int32.reduceToInt]) <;> omega) (z_neg (by decide) (z_bind (fun y v => z_fr [4235] [64, 65] u v ∧ ∃ m, m ≤ N ∧ (y = .inl (J m) ∨ y = .inr () ∧ m = N) ∧ z_RR (n0 + m) (z_apA X q n0 A) (z_apB X q n0 B) v ∧ (∀ k, k < m → z_rk X q z n0 k) ∧ (m = N ∨ ¬ z_rk X q z n0 m)) (z_for 0 N (fun k v => z_fr [4235] [64, 65] u v ∧ z_RR (n0 + k) (z_apA X q n0 A) (z_apB X q n0 B) v ∧ n0 + k ≤ 40 ∧ ∀ k', k' < k → z_rk X q z n0 k') (by omega) (Nat.zero_le N) ⟨z_fr.rf, h, hn, fun k hk => by omega⟩ (fun k v _ hk hp => ?_) (fun v hp => ?_)) (fun y v hv => ?_)))
  · obtain ⟨g1, g2, g5, g3⟩ := hp
    have stop : ¬ z_rk X q z n0 k → k_sat (some ((Sum.inr (Sum.inl (J k)) : Int32 ⊕ (Int32 ⊕ Unit)), v)) (fun z_1 u' => (z_1 = .inl (J k + Int32.ofInt 1) ∧ z_fr [4235] [64, 65] u u' ∧ z_RR (n0 + (k + 1)) (z_apA X q n0 A) (z_apB X q n0 B) u' ∧ n0 + (k + 1) ≤ 40 ∧ ∀ k', k' < k + 1 → z_rk X q z n0 k') ∨ ∃ y, z_1 = .inr y ∧ z_fr [4235] [64, 65] u u' ∧ ∃ m, m ≤ N ∧ (y = .inl (J m) ∨ y = .inr () ∧ m = N) ∧ z_RR (n0 + m) (z_apA X q n0 A) (z_apB X q n0 B) u' ∧ (∀ k, k < m → z_rk X q z n0 k) ∧ (m = N ∨ ¬ z_rk X q z n0 m)) := fun c => k_sat_mk (Or.inr ⟨_, rfl, g1, k, by omega, Or.inl rfl, g2, g3, Or.inr c⟩)
    have d73 : v.2.1 73 s = J z := (congrFun (g1.2.1 73 rfl) s).trans e73
    have dX : ∀ j, j < 60 → v.2.2 74 (60 * s + j) = X j := fun j hj => by rw [g1.2.2 74 rfl]; exact hX j hj
    have t5 := z_t5 (p := J q) (k := k) (by omega)
    have t6 := z_t6 (p := J q) (k := k) (by omega)
    rw [J_toInt (by omega)] at t5 t6
    unfold f_R_records_B58
    rw [J_toNat (show s < 2147483648 by omega), d73]
    refine z_neg (by (try simp (disch := omega) only [Int32.lt_iff_toInt_lt, Int32.le_iff_toInt_le, ← Int32.toInt_inj, Int32.toInt_add, Int32.toInt_sub, Int32.toInt_mul, Int32.toInt_neg, z_bm, z_bm2, J_ti, J_toInt, z_cn, Int32.reduceToInt]) <;> omega) (z_let (z_neg ?_ (z_ck (by (try simp (disch := omega) only [Int32.lt_iff_toInt_lt, Int32.le_iff_toInt_le, ← Int32.toInt_inj, Int32.toInt_add, Int32.toInt_sub, Int32.toInt_mul, Int32.toInt_neg, z_bm, z_bm2, J_ti, J_toInt, z_cn, Int32.reduceToInt]) <;> omega) (by (try simp (disch := omega) only [Int32.lt_iff_toInt_lt, Int32.le_iff_toInt_le, ← Int32.toInt_inj, Int32.toInt_add, Int32.toInt_sub, Int32.toInt_mul, Int32.toInt_neg, z_bm, z_bm2, J_ti, J_toInt, z_cn, Int32.reduceToInt]) <;> omega) ?_)))
    · rw [z_cl, t5, show (0 : Int64).toInt = 0 from rfl]
      omega
    · by_cases c2 : q + 2 * k + 1 < z
      · refine z_neg ?_ ?_
        · rw [z_cg, t6, Int32.toInt_toInt64, J_toInt (by omega)]
          omega
        · by_cases c4 : n0 + k < 40
          · refine z_neg (by rw [g2.1]; (try simp (disch := omega) only [Int32.lt_iff_toInt_lt, Int32.le_iff_toInt_le, ← Int32.toInt_inj, Int32.toInt_add, Int32.toInt_sub, Int32.toInt_mul, Int32.toInt_neg, z_bm, z_bm2, J_ti, J_toInt, z_cn, Int32.reduceToInt]) <;> omega) (z_let ?_)
            rw [z_t7 hq (by omega), J_60, z_Jp, J_toNat (show 60 * s + (q + 2 * k) < 2147483648 by omega), J_toNat (show 60 * s + (q + 2 * k) + 1 < 2147483648 by omega), dX _ (by omega), show 60 * s + (q + 2 * k) + 1 = 60 * s + (q + 2 * k + 1) by omega, dX _ (by omega)]
            refine z_ck (by (try simp (disch := omega) only [Int32.lt_iff_toInt_lt, Int32.le_iff_toInt_le, ← Int32.toInt_inj, Int32.toInt_add, Int32.toInt_sub, Int32.toInt_mul, Int32.toInt_neg, z_bm, z_bm2, J_ti, J_toInt, z_cn, Int32.reduceToInt]) <;> omega) (by (try simp (disch := omega) only [Int32.lt_iff_toInt_lt, Int32.le_iff_toInt_le, ← Int32.toInt_inj, Int32.toInt_add, Int32.toInt_sub, Int32.toInt_mul, Int32.toInt_neg, z_bm, z_bm2, J_ti, J_toInt, z_cn, Int32.reduceToInt]) <;> omega) (z_ck (by (try simp (disch := omega) only [Int32.lt_iff_toInt_lt, Int32.le_iff_toInt_le, ← Int32.toInt_inj, Int32.toInt_add, Int32.toInt_sub, Int32.toInt_mul, Int32.toInt_neg, z_bm, z_bm2, J_ti, J_toInt, z_cn, Int32.reduceToInt]) <;> omega) (by (try simp (disch := omega) only [Int32.lt_iff_toInt_lt, Int32.le_iff_toInt_le, ← Int32.toInt_inj, Int32.toInt_add, Int32.toInt_sub, Int32.toInt_mul, Int32.toInt_neg, z_bm, z_bm2, J_ti, J_toInt, z_cn, Int32.reduceToInt]) <;> omega) ?_)
            rcases z_isRec (X (q + 2 * k)).toInt32 (X (q + 2 * k + 1)).toInt32 with ⟨c3, hi⟩ | ⟨c3, hi⟩
            · rw [(hi v).2, z_bind_some]
              have hk2 : z_rk X q z n0 k := ⟨c2, c4, c3⟩
              obtain ⟨a1, a2, a3, a4⟩ := z_ap_k (A := A) (B := B) hk2
              refine z_neg (by decide) (z_ck (by (try simp (disch := omega) only [Int32.lt_iff_toInt_lt, Int32.le_iff_toInt_le, ← Int32.toInt_inj, Int32.toInt_add, Int32.toInt_sub, Int32.toInt_mul, Int32.toInt_neg, z_bm, z_bm2, J_ti, J_toInt, z_cn, Int32.reduceToInt]) <;> omega) (by (try simp (disch := omega) only [Int32.lt_iff_toInt_lt, Int32.le_iff_toInt_le, ← Int32.toInt_inj, Int32.toInt_add, Int32.toInt_sub, Int32.toInt_mul, Int32.toInt_neg, z_bm, z_bm2, J_ti, J_toInt, z_cn, Int32.reduceToInt]) <;> omega) (z_ck (by (try simp (disch := omega) only [Int32.lt_iff_toInt_lt, Int32.le_iff_toInt_le, ← Int32.toInt_inj, Int32.toInt_add, Int32.toInt_sub, Int32.toInt_mul, Int32.toInt_neg, z_bm, z_bm2, J_ti, J_toInt, z_cn, Int32.reduceToInt]) <;> omega) (by (try simp (disch := omega) only [Int32.lt_iff_toInt_lt, Int32.le_iff_toInt_le, ← Int32.toInt_inj, Int32.toInt_add, Int32.toInt_sub, Int32.toInt_mul, Int32.toInt_neg, z_bm, z_bm2, J_ti, J_toInt, z_cn, Int32.reduceToInt]) <;> omega) ?_))
              rw [dX _ (by omega), dX _ (by omega), a3, a4]
              refine z_bind _ (z_RaddR c4 a1 a2 g2) (fun r w hw => k_sat_mk (Or.inl ⟨rfl, g1.tr hw.1, hw.2, by omega, fun k' hk' => ?_⟩))
              by_cases e : k' = k
              · rw [e]; exact hk2
              · exact g3 k' (by omega)
            · rw [(hi v).2, z_bind_some]
              exact z_pos rfl (stop (fun c => c3 c.2.2))
          · exact z_pos (by rw [g2.1, show n0 + k = 40 by omega]; rfl) (stop (fun c => c4 c.2.1))
      · refine z_pos ?_ (stop (fun c => c2 c.1))
        rw [z_cg, t6, Int32.toInt_toInt64, J_toInt (by omega)]
        omega
  · obtain ⟨g1, g2, -, g3⟩ := hp
    unfold f_R_records_B58
    exact z_pos (Int32.le_refl _) (k_sat_mk ⟨_, rfl, g1, N, Nat.le_refl N, Or.inr ⟨rfl, rfl⟩, g2, g3, Or.inl rfl⟩)
  · obtain ⟨g1, m, g2, rfl | ⟨rfl, rfl⟩, g4⟩ := hv
    · exact k_sat_mk ⟨g1, m, g2, rfl, g4⟩
    · exact k_sat_mk ⟨g1, m, g2, rfl, g4⟩
theorem z_recs0 {u : k_S} {s N : Nat} {p : Int32} (hN : 0 < N) (hN2 : N ≤ 30) (h : f_Shelves_hasElement (J s) p u = some (0, u) ∨ (f_Shelves_hasElement (J s) p u = some (1, u) ∧ f_Shelves_hasElement (J s) (p + 1) u = some (0, u))) : f_W_records_J49 (J s) p (J N) u = some (0, u) := by
  have key : k_sat (f_W_records_J49 (J s) p (J N) u) (fun r v => r = 0 ∧ v = u) := by
    unfold f_W_records_J49
    refine z_bind (fun y v => y = .inl 0 ∧ v = u) ?_ (fun y v hv => by rw [hv.1, hv.2]; exact k_sat_mk ⟨rfl, rfl⟩)
    rw [z_FU]
    refine z_exit ?_
    unfold f_W_records_B52
    rw [show (2 : Int32) * 0 = 0 from rfl, Int32.add_zero]
    refine z_neg (by (try simp (disch := omega) only [Int32.lt_iff_toInt_lt, Int32.le_iff_toInt_le, ← Int32.toInt_inj, Int32.toInt_add, Int32.toInt_sub, Int32.toInt_mul, Int32.toInt_neg, z_bm, z_bm2, J_ti, J_toInt, z_cn, Int32.reduceToInt]) <;> omega) (z_let ?_)
    rcases h with h | ⟨h1, h2⟩
    · rw [h, z_bind_some]
      exact z_pos rfl (k_sat_mk ⟨_, rfl, rfl, rfl⟩)
    · rw [h1, z_bind_some]
      refine z_neg (by decide) ?_
      rw [h2, z_bind_some]
      exact z_pos rfl (k_sat_mk ⟨_, rfl, rfl, rfl⟩)
  obtain ⟨⟨r, v⟩, e, h1, h2⟩ := key
  rw [e]
  simp only at h1 h2
  rw [h1, h2]
theorem z_records (a0 a1 a2 : Int32) (u : k_S) (h : zI u) : z_pair (f_W_records a0 a1 a2) (f_R_records a0 a1 a2) u zI := by
  have hH := h.2.2.2.2.2.2.2.2.2.1
  refine z_pair_of ?_
  unfold f_W_records
  rcases J_or a0 6 with ⟨s, hs, rfl⟩ | ha
  · rw [z_Shas (by (try simp (disch := omega) only [Int32.lt_iff_toInt_lt, Int32.le_iff_toInt_le, ← Int32.toInt_inj, Int32.toInt_add, Int32.toInt_sub, Int32.toInt_mul, Int32.toInt_neg, z_bm, z_bm2, J_ti, J_toInt, z_cn, Int32.reduceToInt]) <;> omega) (by (try simp (disch := omega) only [Int32.lt_iff_toInt_lt, Int32.le_iff_toInt_le, ← Int32.toInt_inj, Int32.toInt_add, Int32.toInt_sub, Int32.toInt_mul, Int32.toInt_neg, z_bm, z_bm2, J_ti, J_toInt, z_cn, Int32.reduceToInt]) <;> omega), z_bind_some]
    refine z_neg (by decide) ?_
    by_cases hN : 1 ≤ a2.toInt ∧ a2.toInt ≤ 30
    · obtain ⟨hN1, hN2⟩ := hN
      obtain ⟨N, rfl, hN3, -⟩ := J_of (x := a2) (by omega)
      have hR : ∀ {v : k_S} {Q : Int32 → k_S → Prop}, k_sat (if v.2.1 72 s = -1 then f_R_records_J43 (J s) a1 (J N) v else if v.2.1 72 s = -3 then f_R_records_J43 (J s) a1 (J N) v else some ((-12), v)) Q → k_sat (f_R_records (J s) a1 (J N) v) Q := fun {v Q} hq => by
        unfold f_R_records
        rw [z_RisShelf (by (try simp (disch := omega) only [Int32.lt_iff_toInt_lt, Int32.le_iff_toInt_le, ← Int32.toInt_inj, Int32.toInt_add, Int32.toInt_sub, Int32.toInt_mul, Int32.toInt_neg, z_bm, z_bm2, J_ti, J_toInt, z_cn, Int32.reduceToInt]) <;> omega) (by (try simp (disch := omega) only [Int32.lt_iff_toInt_lt, Int32.le_iff_toInt_le, ← Int32.toInt_inj, Int32.toInt_add, Int32.toInt_sub, Int32.toInt_mul, Int32.toInt_neg, z_bm, z_bm2, J_ti, J_toInt, z_cn, Int32.reduceToInt]) <;> omega), z_bind_some]
        refine z_neg (by decide) ?_
        rw [z_Rin1 (by ((try simp (disch := omega) only [Int32.lt_iff_toInt_lt, Int32.le_iff_toInt_le, ← Int32.toInt_inj, Int32.toInt_add, Int32.toInt_sub, Int32.toInt_mul, Int32.toInt_neg, z_bm, z_bm2, J_ti, J_toInt, z_cn, Int32.reduceToInt] at *); omega)) (by ((try simp (disch := omega) only [Int32.lt_iff_toInt_lt, Int32.le_iff_toInt_le, ← Int32.toInt_inj, Int32.toInt_add, Int32.toInt_sub, Int32.toInt_mul, Int32.toInt_neg, z_bm, z_bm2, J_ti, J_toInt, z_cn, Int32.reduceToInt] at *); omega)), z_bind_some, J_toNat (show s < 2147483648 by omega), z_cko _ (by (try simp (disch := omega) only [Int32.lt_iff_toInt_lt, Int32.le_iff_toInt_le, ← Int32.toInt_inj, Int32.toInt_add, Int32.toInt_sub, Int32.toInt_mul, Int32.toInt_neg, z_bm, z_bm2, J_ti, J_toInt, z_cn, Int32.reduceToInt]) <;> omega) (by (try simp (disch := omega) only [Int32.lt_iff_toInt_lt, Int32.le_iff_toInt_le, ← Int32.toInt_inj, Int32.toInt_add, Int32.toInt_sub, Int32.toInt_mul, Int32.toInt_neg, z_bm, z_bm2, J_ti, J_toInt, z_cn, Int32.reduceToInt]) <;> omega), z_cko _ (by (try simp (disch := omega) only [Int32.lt_iff_toInt_lt, Int32.le_iff_toInt_le, ← Int32.toInt_inj, Int32.toInt_add, Int32.toInt_sub, Int32.toInt_mul, Int32.toInt_neg, z_bm, z_bm2, J_ti, J_toInt, z_cn, Int32.reduceToInt]) <;> omega) (by (try simp (disch := omega) only [Int32.lt_iff_toInt_lt, Int32.le_iff_toInt_le, ← Int32.toInt_inj, Int32.toInt_add, Int32.toInt_sub, Int32.toInt_mul, Int32.toInt_neg, z_bm, z_bm2, J_ti, J_toInt, z_cn, Int32.reduceToInt]) <;> omega)]
        exact z_neg (by decide) hq
      refine z_neg (by ((try simp (disch := omega) only [Int32.lt_iff_toInt_lt, Int32.le_iff_toInt_le, ← Int32.toInt_inj, Int32.toInt_add, Int32.toInt_sub, Int32.toInt_mul, Int32.toInt_neg, z_bm, z_bm2, J_ti, J_toInt, z_cn, Int32.reduceToInt] at *); omega)) (z_pos (by ((try simp (disch := omega) only [Int32.lt_iff_toInt_lt, Int32.le_iff_toInt_le, ← Int32.toInt_inj, Int32.toInt_add, Int32.toInt_sub, Int32.toInt_mul, Int32.toInt_neg, z_bm, z_bm2, J_ti, J_toInt, z_cn, Int32.reduceToInt] at *); omega)) ?_)
      rw [z_SheldBy (by (try simp (disch := omega) only [Int32.lt_iff_toInt_lt, Int32.le_iff_toInt_le, ← Int32.toInt_inj, Int32.toInt_add, Int32.toInt_sub, Int32.toInt_mul, Int32.toInt_neg, z_bm, z_bm2, J_ti, J_toInt, z_cn, Int32.reduceToInt]) <;> omega) (by (try simp (disch := omega) only [Int32.lt_iff_toInt_lt, Int32.le_iff_toInt_le, ← Int32.toInt_inj, Int32.toInt_add, Int32.toInt_sub, Int32.toInt_mul, Int32.toInt_neg, z_bm, z_bm2, J_ti, J_toInt, z_cn, Int32.reduceToInt]) <;> omega), z_bind_some, J_toNat (show s < 2147483648 by omega)]
      rcases hH s hs with ⟨p39, p72⟩ | ⟨p39, b, hb, p72, p40⟩ | ⟨k, z, hk, hz, p39, p72, p40, p73, p74⟩
      · refine z_pos p39 ?_
        rw [z_recs0 (by omega) (by omega) (Or.inl (by unfold f_Shelves_hasElement; rw [z_SheldBy (by (try simp (disch := omega) only [Int32.lt_iff_toInt_lt, Int32.le_iff_toInt_le, ← Int32.toInt_inj, Int32.toInt_add, Int32.toInt_sub, Int32.toInt_mul, Int32.toInt_neg, z_bm, z_bm2, J_ti, J_toInt, z_cn, Int32.reduceToInt]) <;> omega) (by (try simp (disch := omega) only [Int32.lt_iff_toInt_lt, Int32.le_iff_toInt_le, ← Int32.toInt_inj, Int32.toInt_add, Int32.toInt_sub, Int32.toInt_mul, Int32.toInt_neg, z_bm, z_bm2, J_ti, J_toInt, z_cn, Int32.reduceToInt]) <;> omega), z_bind_some, J_toNat (show s < 2147483648 by omega), p39, if_pos rfl]))]
        refine k_sat_mk (hR (z_pos p72 ?_))
        unfold f_R_records_J43
        rw [J_toNat (show s < 2147483648 by omega)]
        exact z_ck (by (try simp (disch := omega) only [Int32.lt_iff_toInt_lt, Int32.le_iff_toInt_le, ← Int32.toInt_inj, Int32.toInt_add, Int32.toInt_sub, Int32.toInt_mul, Int32.toInt_neg, z_bm, z_bm2, J_ti, J_toInt, z_cn, Int32.reduceToInt]) <;> omega) (by (try simp (disch := omega) only [Int32.lt_iff_toInt_lt, Int32.le_iff_toInt_le, ← Int32.toInt_inj, Int32.toInt_add, Int32.toInt_sub, Int32.toInt_mul, Int32.toInt_neg, z_bm, z_bm2, J_ti, J_toInt, z_cn, Int32.reduceToInt]) <;> omega) (z_pos p72 (k_sat_mk ⟨rfl, h⟩))
      · have hb50 : b < 50 := by
          obtain ⟨⟨n, hn, b1, -⟩, -⟩ := h.2.2.2.2.2.2.2.2.1
          rw [b1, J_toInt (by omega)] at hb
          omega
        refine z_neg (by rw [p39]; decide) (z_neg (by rw [p39]; decide) (k_sat_mk (hR (z_neg (by rw [p72]; (try simp (disch := omega) only [Int32.lt_iff_toInt_lt, Int32.le_iff_toInt_le, ← Int32.toInt_inj, Int32.toInt_add, Int32.toInt_sub, Int32.toInt_mul, Int32.toInt_neg, z_bm, z_bm2, J_ti, J_toInt, z_cn, Int32.reduceToInt]) <;> omega) (z_neg (by rw [p72]; (try simp (disch := omega) only [Int32.lt_iff_toInt_lt, Int32.le_iff_toInt_le, ← Int32.toInt_inj, Int32.toInt_add, Int32.toInt_sub, Int32.toInt_mul, Int32.toInt_neg, z_bm, z_bm2, J_ti, J_toInt, z_cn, Int32.reduceToInt]) <;> omega) (k_sat_mk ⟨rfl, h⟩))))))
      · by_cases k1 : k = 1
        · subst k1
          have p72' : u.2.1 72 s = -3 := p72
          refine z_neg (by rw [p39]; decide) (z_pos p39 ?_)
          by_cases hq : 0 ≤ a1.toInt ∧ a1.toInt < 60
          · obtain ⟨q, rfl, hq2, -⟩ := J_of hq.1
            obtain ⟨n, A, B, hn, hW, hR0⟩ := z_R_in h.2.2.2.2.2.1
            have ec : ∀ i, i < n → z_apA (fun j => u.2.2 41 (60 * s + j)) q n A i = A i ∧ z_apB (fun j => u.2.2 41 (60 * s + j)) q n B i = B i := fun i hi => ⟨if_pos hi, if_pos hi⟩
            refine z_mono (z_recsW (N := N) (X := fun j => u.2.2 41 (60 * s + j)) hs hz (by omega) (by ((try simp (disch := omega) only [Int32.lt_iff_toInt_lt, Int32.le_iff_toInt_le, ← Int32.toInt_inj, Int32.toInt_add, Int32.toInt_sub, Int32.toInt_mul, Int32.toInt_neg, z_bm, z_bm2, J_ti, J_toInt, z_cn, Int32.reduceToInt] at *); omega)) p39 p40 (fun j hj => rfl) hn (z_RW_c ec hW)) (fun r v hv => hR ?_)
            obtain ⟨g1, m, hm, rfl, g2, g3, g4⟩ := hv
            have d72 : v.2.1 72 s = -3 := (congrFun (g1.2.1 72 rfl) s).trans p72'
            refine z_neg (by rw [d72]; decide) (z_pos d72 (z_mono (z_recsR (X := fun j => u.2.2 41 (60 * s + j)) hs hz (by omega) (by omega) d72 ((congrFun (g1.2.1 73 rfl) s).trans p73) (fun j hj => by rw [g1.2.2 74 rfl]; exact (p74 j hj).1) hn (z_RR_f g1 (by decide) ⟨hR0.1, z_RC_c ec hR0.2⟩)) (fun r' v2 hv2 => ?_)))
            obtain ⟨w1, m', hm', rfl, w2, w3, w4⟩ := hv2
            have em : m = m' := by
              rcases Nat.lt_trichotomy m m' with c | c | c
              · rcases g4 with g4 | g4
                · omega
                · exact absurd (w3 m c) g4
              · exact c
              · rcases w4 with w4 | w4
                · omega
                · exact absurd (g3 m' c) w4
            subst em
            have hnm : n + m ≤ 40 := by
              by_cases e : m = 0
              · omega
              · have := (g3 (m - 1) (by omega)).2.1
                omega
            exact ⟨rfl, zI_R h ((g1.mono rfl rfl).tr (w1.mono rfl rfl)) (z_R_out hnm (z_RW_f w1 (by decide) g2) w2)⟩
          · have hq' : a1.toInt < 0 ∨ (z : Int) ≤ a1.toInt := by omega
            rw [z_recs0 (by omega) (by omega) (Or.inl (z_hasE0 hs hz p39 p40 hq'))]
            refine k_sat_mk (hR (z_neg (by rw [p72']; decide) (z_pos p72' ?_)))
            unfold f_R_records_J43
            rw [J_toNat (show s < 2147483648 by omega), p72']
            refine z_ck (by (try simp (disch := omega) only [Int32.lt_iff_toInt_lt, Int32.le_iff_toInt_le, ← Int32.toInt_inj, Int32.toInt_add, Int32.toInt_sub, Int32.toInt_mul, Int32.toInt_neg, z_bm, z_bm2, J_ti, J_toInt, z_cn, Int32.reduceToInt]) <;> omega) (by (try simp (disch := omega) only [Int32.lt_iff_toInt_lt, Int32.le_iff_toInt_le, ← Int32.toInt_inj, Int32.toInt_add, Int32.toInt_sub, Int32.toInt_mul, Int32.toInt_neg, z_bm, z_bm2, J_ti, J_toInt, z_cn, Int32.reduceToInt]) <;> omega) (z_neg (by decide) (z_bind (fun y v => y = .inl 0 ∧ v = u) ?_ (fun y v hv => by rw [hv.1, hv.2]; exact k_sat_mk ⟨rfl, h⟩)))
            rw [z_FU]
            refine z_exit ?_
            unfold f_R_records_B58
            have t5 := z_t5 (p := a1) (k := 0) (by omega)
            have t6 := z_t6 (p := a1) (k := 0) (by omega)
            rw [show J 0 = (0 : Int32) from rfl] at t5 t6
            refine z_neg (by (try simp (disch := omega) only [Int32.lt_iff_toInt_lt, Int32.le_iff_toInt_le, ← Int32.toInt_inj, Int32.toInt_add, Int32.toInt_sub, Int32.toInt_mul, Int32.toInt_neg, z_bm, z_bm2, J_ti, J_toInt, z_cn, Int32.reduceToInt]) <;> omega) (z_let (z_ite (fun _ => k_sat_mk ⟨_, rfl, rfl, rfl⟩) (fun c => z_ck (by (try simp (disch := omega) only [Int32.lt_iff_toInt_lt, Int32.le_iff_toInt_le, ← Int32.toInt_inj, Int32.toInt_add, Int32.toInt_sub, Int32.toInt_mul, Int32.toInt_neg, z_bm, z_bm2, J_ti, J_toInt, z_cn, Int32.reduceToInt]) <;> omega) (by (try simp (disch := omega) only [Int32.lt_iff_toInt_lt, Int32.le_iff_toInt_le, ← Int32.toInt_inj, Int32.toInt_add, Int32.toInt_sub, Int32.toInt_mul, Int32.toInt_neg, z_bm, z_bm2, J_ti, J_toInt, z_cn, Int32.reduceToInt]) <;> omega) (z_pos ?_ (k_sat_mk ⟨_, rfl, rfl, rfl⟩)))))
            rw [z_cl, t5, show (0 : Int64).toInt = 0 from rfl] at c
            rw [z_cg, t6, Int32.toInt_toInt64, J_toNat (show s < 2147483648 by omega), p73, J_toInt (by omega)]
            omega
        · refine z_neg (by rw [p39]; (try simp (disch := omega) only [Int32.lt_iff_toInt_lt, Int32.le_iff_toInt_le, ← Int32.toInt_inj, Int32.toInt_add, Int32.toInt_sub, Int32.toInt_mul, Int32.toInt_neg, z_bm, z_bm2, J_ti, J_toInt, z_cn, Int32.reduceToInt]) <;> omega) (z_neg (by rw [p39]; (try simp (disch := omega) only [Int32.lt_iff_toInt_lt, Int32.le_iff_toInt_le, ← Int32.toInt_inj, Int32.toInt_add, Int32.toInt_sub, Int32.toInt_mul, Int32.toInt_neg, z_bm, z_bm2, J_ti, J_toInt, z_cn, Int32.reduceToInt]) <;> omega) (k_sat_mk (hR (z_neg (by rw [p72]; (try simp (disch := omega) only [Int32.lt_iff_toInt_lt, Int32.le_iff_toInt_le, ← Int32.toInt_inj, Int32.toInt_add, Int32.toInt_sub, Int32.toInt_mul, Int32.toInt_neg, z_bm, z_bm2, J_ti, J_toInt, z_cn, Int32.reduceToInt]) <;> omega) (z_neg (by rw [p72]; (try simp (disch := omega) only [Int32.lt_iff_toInt_lt, Int32.le_iff_toInt_le, ← Int32.toInt_inj, Int32.toInt_add, Int32.toInt_sub, Int32.toInt_mul, Int32.toInt_neg, z_bm, z_bm2, J_ti, J_toInt, z_cn, Int32.reduceToInt]) <;> omega) (k_sat_mk ⟨rfl, h⟩))))))
    · have eR : k_sat (f_R_records (J s) a1 a2 u) (fun r' v => (-1 : Int32) = r' ∧ zI v) := by
        unfold f_R_records
        rw [z_RisShelf (by (try simp (disch := omega) only [Int32.lt_iff_toInt_lt, Int32.le_iff_toInt_le, ← Int32.toInt_inj, Int32.toInt_add, Int32.toInt_sub, Int32.toInt_mul, Int32.toInt_neg, z_bm, z_bm2, J_ti, J_toInt, z_cn, Int32.reduceToInt]) <;> omega) (by (try simp (disch := omega) only [Int32.lt_iff_toInt_lt, Int32.le_iff_toInt_le, ← Int32.toInt_inj, Int32.toInt_add, Int32.toInt_sub, Int32.toInt_mul, Int32.toInt_neg, z_bm, z_bm2, J_ti, J_toInt, z_cn, Int32.reduceToInt]) <;> omega), z_bind_some]
        refine z_neg (by decide) ?_
        rw [z_Rin0 (by ((try simp (disch := omega) only [Int32.lt_iff_toInt_lt, Int32.le_iff_toInt_le, ← Int32.toInt_inj, Int32.toInt_add, Int32.toInt_sub, Int32.toInt_mul, Int32.toInt_neg, z_bm, z_bm2, J_ti, J_toInt, z_cn, Int32.reduceToInt] at *); omega)), z_bind_some]
        exact z_pos rfl (k_sat_mk ⟨rfl, h⟩)
      exact z_ite (fun _ => k_sat_mk eR) (fun c => z_neg (by ((try simp (disch := omega) only [Int32.lt_iff_toInt_lt, Int32.le_iff_toInt_le, ← Int32.toInt_inj, Int32.toInt_add, Int32.toInt_sub, Int32.toInt_mul, Int32.toInt_neg, z_bm, z_bm2, J_ti, J_toInt, z_cn, Int32.reduceToInt] at *); omega)) (k_sat_mk eR))
  · rw [z_Shas0 (by omega), z_bind_some]
    refine z_pos rfl (k_sat_mk ?_)
    unfold f_R_records
    rw [z_RisShelf0 (by omega), z_bind_some]
    exact z_pos rfl (k_sat_mk ⟨rfl, h⟩)
