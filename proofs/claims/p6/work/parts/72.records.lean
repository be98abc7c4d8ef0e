/-! record -/
theorem z_isRec (x y : Int32) : ((0 ≤ x.toInt ∧ x.toInt ≤ 5000 ∧ 0 ≤ y.toInt ∧ y.toInt < 40) ∧ ∀ u, f_W_isRecord x y u = some (1, u) ∧ f_R_isRecord x y u = some (1, u)) ∨ (¬ (0 ≤ x.toInt ∧ x.toInt ≤ 5000 ∧ 0 ≤ y.toInt ∧ y.toInt < 40) ∧ ∀ u, f_W_isRecord x y u = some (0, u) ∧ f_R_isRecord x y u = some (0, u)) := by
  unfold f_W_isRecord f_R_isRecord
  by_cases hx : 0 ≤ x.toInt ∧ x.toInt ≤ 5000
  · obtain ⟨h1, h2⟩ := hx
    by_cases hy : 0 ≤ y.toInt ∧ y.toInt < 40
    · obtain ⟨h3, h4⟩ := hy
      refine Or.inl ⟨⟨h1, h2, h3, h4⟩, fun u => ⟨?_, ?_⟩⟩
      · rw [if_neg (by (try simp (disch := omega) only [Int32.lt_iff_toInt_lt, Int32.le_iff_toInt_le, ← Int32.toInt_inj, Int32.toInt_add, Int32.toInt_sub, Int32.toInt_mul, Int32.toInt_neg, z_bm, z_bm2, J_ti, J_toInt, z_cn, Int32.reduceToInt]) <;> omega), if_neg (by (try simp (disch := omega) only [Int32.lt_iff_toInt_lt, Int32.le_iff_toInt_le, ← Int32.toInt_inj, Int32.toInt_add, Int32.toInt_sub, Int32.toInt_mul, Int32.toInt_neg, z_bm, z_bm2, J_ti, J_toInt, z_cn, Int32.reduceToInt]) <;> omega), if_neg (by (try simp (disch := omega) only [Int32.lt_iff_toInt_lt, Int32.le_iff_toInt_le, ← Int32.toInt_inj, Int32.toInt_add, Int32.toInt_sub, Int32.toInt_mul, Int32.toInt_neg, z_bm, z_bm2, J_ti, J_toInt, z_cn, Int32.reduceToInt]) <;> omega), if_neg (by (try simp (disch := omega) only [Int32.lt_iff_toInt_lt, Int32.le_iff_toInt_le, ← Int32.toInt_inj, Int32.toInt_add, Int32.toInt_sub, Int32.toInt_mul, Int32.toInt_neg, z_bm, z_bm2, J_ti, J_toInt, z_cn, Int32.reduceToInt]) <;> omega)]
      · rw [z_Rin1 (by (try simp (disch := omega) only [Int32.lt_iff_toInt_lt, Int32.le_iff_toInt_le, ← Int32.toInt_inj, Int32.toInt_add, Int32.toInt_sub, Int32.toInt_mul, Int32.toInt_neg, z_bm, z_bm2, J_ti, J_toInt, z_cn, Int32.reduceToInt]) <;> omega) (by (try simp (disch := omega) only [Int32.lt_iff_toInt_lt, Int32.le_iff_toInt_le, ← Int32.toInt_inj, Int32.toInt_add, Int32.toInt_sub, Int32.toInt_mul, Int32.toInt_neg, z_bm, z_bm2, J_ti, J_toInt, z_cn, Int32.reduceToInt]) <;> omega), z_bind_some, if_neg (by decide), z_Rin1 (by (try simp (disch := omega) only [Int32.lt_iff_toInt_lt, Int32.le_iff_toInt_le, ← Int32.toInt_inj, Int32.toInt_add, Int32.toInt_sub, Int32.toInt_mul, Int32.toInt_neg, z_bm, z_bm2, J_ti, J_toInt, z_cn, Int32.reduceToInt]) <;> omega) (by (try simp (disch := omega) only [Int32.lt_iff_toInt_lt, Int32.le_iff_toInt_le, ← Int32.toInt_inj, Int32.toInt_add, Int32.toInt_sub, Int32.toInt_mul, Int32.toInt_neg, z_bm, z_bm2, J_ti, J_toInt, z_cn, Int32.reduceToInt]) <;> omega), z_bind_some, if_neg (by decide)]
    · refine Or.inr ⟨fun q => hy ⟨q.2.2.1, q.2.2.2⟩, fun u => ⟨?_, ?_⟩⟩
      · rw [if_neg (by (try simp (disch := omega) only [Int32.lt_iff_toInt_lt, Int32.le_iff_toInt_le, ← Int32.toInt_inj, Int32.toInt_add, Int32.toInt_sub, Int32.toInt_mul, Int32.toInt_neg, z_bm, z_bm2, J_ti, J_toInt, z_cn, Int32.reduceToInt]) <;> omega), if_neg (by (try simp (disch := omega) only [Int32.lt_iff_toInt_lt, Int32.le_iff_toInt_le, ← Int32.toInt_inj, Int32.toInt_add, Int32.toInt_sub, Int32.toInt_mul, Int32.toInt_neg, z_bm, z_bm2, J_ti, J_toInt, z_cn, Int32.reduceToInt]) <;> omega)]
        by_cases a : y < 0
        · rw [if_pos a]
        · rw [if_neg a, if_pos (by ((try simp (disch := omega) only [Int32.lt_iff_toInt_lt, Int32.le_iff_toInt_le, ← Int32.toInt_inj, Int32.toInt_add, Int32.toInt_sub, Int32.toInt_mul, Int32.toInt_neg, z_bm, z_bm2, J_ti, J_toInt, z_cn, Int32.reduceToInt] at *); omega))]
      · rw [z_Rin1 (by (try simp (disch := omega) only [Int32.lt_iff_toInt_lt, Int32.le_iff_toInt_le, ← Int32.toInt_inj, Int32.toInt_add, Int32.toInt_sub, Int32.toInt_mul, Int32.toInt_neg, z_bm, z_bm2, J_ti, J_toInt, z_cn, Int32.reduceToInt]) <;> omega) (by (try simp (disch := omega) only [Int32.lt_iff_toInt_lt, Int32.le_iff_toInt_le, ← Int32.toInt_inj, Int32.toInt_add, Int32.toInt_sub, Int32.toInt_mul, Int32.toInt_neg, z_bm, z_bm2, J_ti, J_toInt, z_cn, Int32.reduceToInt]) <;> omega), z_bind_some, if_neg (by decide), z_Rin0 (by ((try simp (disch := omega) only [Int32.lt_iff_toInt_lt, Int32.le_iff_toInt_le, ← Int32.toInt_inj, Int32.toInt_add, Int32.toInt_sub, Int32.toInt_mul, Int32.toInt_neg, z_bm, z_bm2, J_ti, J_toInt, z_cn, Int32.reduceToInt] at *); omega)), z_bind_some, if_pos rfl]
  · refine Or.inr ⟨fun q => hx ⟨q.1, q.2.1⟩, fun u => ⟨?_, ?_⟩⟩
    · by_cases a : x < 0
      · rw [if_pos a]
      · rw [if_neg a, if_pos (by ((try simp (disch := omega) only [Int32.lt_iff_toInt_lt, Int32.le_iff_toInt_le, ← Int32.toInt_inj, Int32.toInt_add, Int32.toInt_sub, Int32.toInt_mul, Int32.toInt_neg, z_bm, z_bm2, J_ti, J_toInt, z_cn, Int32.reduceToInt] at *); omega))]
    · rw [z_Rin0 (by ((try simp (disch := omega) only [Int32.lt_iff_toInt_lt, Int32.le_iff_toInt_le, ← Int32.toInt_inj, Int32.toInt_add, Int32.toInt_sub, Int32.toInt_mul, Int32.toInt_neg, z_bm, z_bm2, J_ti, J_toInt, z_cn, Int32.reduceToInt] at *); omega)), z_bind_some, if_pos rfl]
def z_uN (A : Nat → Nat) (n a : Nat) : Nat → Nat := fun i => if i = n then a else A i
theorem z_record (a b : Int32) (u : k_S) (h : zI u) : z_pair (f_W_record a b) (f_R_record a b) u zI := by
  refine z_pair_of ?_
  unfold f_W_record
  rcases z_isRec a b with ⟨⟨h1, h2, h3, h4⟩, hi⟩ | ⟨-, hi⟩
  · rw [(hi u).1, z_bind_some]
    refine z_neg (by decide) ?_
    obtain ⟨x, rfl, hx, -⟩ := J_of h1
    obtain ⟨y, rfl, hy, -⟩ := J_of h3
    obtain ⟨n, A, B, hn, hW, hR⟩ := z_R_in h.2.2.2.2.2.1
    by_cases e : n = 40
    · refine z_neg (by rw [hW.1]; (try simp (disch := omega) only [Int32.lt_iff_toInt_lt, Int32.le_iff_toInt_le, ← Int32.toInt_inj, Int32.toInt_add, Int32.toInt_sub, Int32.toInt_mul, Int32.toInt_neg, z_bm, z_bm2, J_ti, J_toInt, z_cn, Int32.reduceToInt]) <;> omega) (k_sat_mk ?_)
      unfold f_R_record
      rw [(hi u).2, z_bind_some]
      exact z_neg (by decide) (z_pos (by rw [hR.1, e]; rfl) (k_sat_mk ⟨rfl, h⟩))
    · have eA : z_uN A n x n = x := if_pos rfl
      have eB : z_uN B n y n = y := if_pos rfl
      have ec : ∀ i, i < n → z_uN A n x i = A i ∧ z_uN B n y i = B i := fun i hi => ⟨if_neg (by omega), if_neg (by omega)⟩
      have kW := z_RaddW (A := z_uN A n x) (B := z_uN B n y) (by omega) (by rw [eA]; omega) (by rw [eB]; omega) (z_RW_c ec hW)
      rw [eA, eB] at kW
      refine z_pos (by rw [hW.1]; (try simp (disch := omega) only [Int32.lt_iff_toInt_lt, Int32.le_iff_toInt_le, ← Int32.toInt_inj, Int32.toInt_add, Int32.toInt_sub, Int32.toInt_mul, Int32.toInt_neg, z_bm, z_bm2, J_ti, J_toInt, z_cn, Int32.reduceToInt]) <;> omega) (z_bind _ kW (fun r v hv => k_sat_mk ?_))
      obtain ⟨rfl, g1, g2⟩ := hv
      have hR2 : z_RR n (z_uN A n x) (z_uN B n y) v := z_RR_f g1 (by decide) ⟨hR.1, z_RC_c ec hR.2⟩
      have kR := z_RaddR (A := z_uN A n x) (B := z_uN B n y) (by omega) (by rw [eA]; omega) (by rw [eB]; omega) hR2
      rw [eA, eB] at kR
      unfold f_R_record
      rw [(hi v).2, z_bind_some]
      refine z_neg (by decide) (z_neg (by rw [hR2.1]; (try simp (disch := omega) only [Int32.lt_iff_toInt_lt, Int32.le_iff_toInt_le, ← Int32.toInt_inj, Int32.toInt_add, Int32.toInt_sub, Int32.toInt_mul, Int32.toInt_neg, z_bm, z_bm2, J_ti, J_toInt, z_cn, Int32.reduceToInt]) <;> omega) (z_bind _ kR (fun _ v2 hv2 => k_sat_mk ⟨?_, ?_⟩)))
      · rw [hv2.2.1, z_Jm]
      · exact zI_R h ((g1.mono rfl rfl).tr (hv2.1.mono rfl rfl)) (z_R_out (by omega) (z_RW_f hv2.1 (by decide) g2) hv2.2)
  · rw [(hi u).1, z_bind_some]
    refine z_pos rfl (k_sat_mk ?_)
    unfold f_R_record
    rw [(hi u).2, z_bind_some]
    exact z_pos rfl (k_sat_mk ⟨rfl, h⟩)
/-! records: the loops -/
theorem z_cl {x y : Int64} : (lg_cmp x y < 0) ↔ x.toInt < y.toInt := by
  have := lg_cmp_ge x y
  rw [Int64.le_iff_toInt_le] at this
  constructor
  · intro h
    apply Int.not_le.mp
    intro q
    have := this.mpr q
    ((try simp (disch := omega) only [Int32.lt_iff_toInt_lt, Int32.le_iff_toInt_le, ← Int32.toInt_inj, Int32.toInt_add, Int32.toInt_sub, Int32.toInt_mul, Int32.toInt_neg, z_bm, z_bm2, J_ti, J_toInt, z_cn, Int32.reduceToInt] at *); omega)
  · intro h
    have h2 : ¬ (0 ≤ lg_cmp x y) := fun q => by have := this.mp q; omega
    ((try simp (disch := omega) only [Int32.lt_iff_toInt_lt, Int32.le_iff_toInt_le, ← Int32.toInt_inj, Int32.toInt_add, Int32.toInt_sub, Int32.toInt_mul, Int32.toInt_neg, z_bm, z_bm2, J_ti, J_toInt, z_cn, Int32.reduceToInt] at *); omega)
theorem z_cg {x y : Int64} : (0 ≤ lg_cmp x y) ↔ y.toInt ≤ x.toInt := by
  rw [lg_cmp_ge x y, Int64.le_iff_toInt_le]
theorem z_t5 {p : Int32} {k : Nat} (hk : k ≤ 40) : (p.toInt64 + (2 * J k).toInt64).toInt = p.toInt + 2 * k := by
  rw [show (2 : Int32) = J 2 from rfl, J_mul, Int64.toInt_add, Int32.toInt_toInt64, Int32.toInt_toInt64, J_toInt (by omega)]
  have := z_rg p
  rw [Int.bmod_eq_of_le_mul_two] <;> omega
theorem z_t6 {p : Int32} {k : Nat} (hk : k ≤ 40) : (p.toInt64 + (2 * J k).toInt64 + 1).toInt = p.toInt + 2 * k + 1 := by
  rw [Int64.toInt_add, z_t5 hk, show (1 : Int64).toInt = 1 from rfl]
  have := z_rg p
  rw [Int.bmod_eq_of_le_mul_two] <;> omega
theorem z_t7 {q k : Nat} (hq : q < 60) (hk : k ≤ 40) : ((J q).toInt64 + (2 * J k).toInt64).toInt32 = J (q + 2 * k) := by
  apply Int32.toInt.inj
  rw [Int64.toInt_toInt32, z_t5 hk, J_toInt (by omega), J_toInt (by omega)]
  rw [Int.bmod_eq_of_le_mul_two] <;> omega
theorem z_hasE {s z : Nat} {u : k_S} (hs : s < 6) (hz : z ≤ 60) (e39 : u.2.1 39 s = 1) (e40 : u.2.1 40 s = J z) (i : Int32) : f_Shelves_hasElement (J s) i u = some (if 0 ≤ i.toInt ∧ i.toInt < z then 1 else 0, u) := by
  unfold f_Shelves_hasElement
  rw [z_SheldBy (by (try simp (disch := omega) only [Int32.lt_iff_toInt_lt, Int32.le_iff_toInt_le, ← Int32.toInt_inj, Int32.toInt_add, Int32.toInt_sub, Int32.toInt_mul, Int32.toInt_neg, z_bm, z_bm2, J_ti, J_toInt, z_cn, Int32.reduceToInt]) <;> omega) (by (try simp (disch := omega) only [Int32.lt_iff_toInt_lt, Int32.le_iff_toInt_le, ← Int32.toInt_inj, Int32.toInt_add, Int32.toInt_sub, Int32.toInt_mul, Int32.toInt_neg, z_bm, z_bm2, J_ti, J_toInt, z_cn, Int32.reduceToInt]) <;> omega), z_bind_some, J_toNat (by omega), e39, if_neg (by decide), if_neg (by decide)]
  by_cases a : i < 0
  · rw [if_pos a, if_neg (by ((try simp (disch := omega) only [Int32.lt_iff_toInt_lt, Int32.le_iff_toInt_le, ← Int32.toInt_inj, Int32.toInt_add, Int32.toInt_sub, Int32.toInt_mul, Int32.toInt_neg, z_bm, z_bm2, J_ti, J_toInt, z_cn, Int32.reduceToInt] at *); omega))]
  · rw [if_neg a, z_Shelves_sizeOf hs, z_bind_some, e40]
    by_cases b : J z ≤ i
    · rw [if_pos b, if_neg (by ((try simp (disch := omega) only [Int32.lt_iff_toInt_lt, Int32.le_iff_toInt_le, ← Int32.toInt_inj, Int32.toInt_add, Int32.toInt_sub, Int32.toInt_mul, Int32.toInt_neg, z_bm, z_bm2, J_ti, J_toInt, z_cn, Int32.reduceToInt] at *); omega))]
    · rw [if_neg b, if_pos (by ((try simp (disch := omega) only [Int32.lt_iff_toInt_lt, Int32.le_iff_toInt_le, ← Int32.toInt_inj, Int32.toInt_add, Int32.toInt_sub, Int32.toInt_mul, Int32.toInt_neg, z_bm, z_bm2, J_ti, J_toInt, z_cn, Int32.reduceToInt] at *); omega))]
theorem z_hasE1 {s z j : Nat} {u : k_S} (hs : s < 6) (hz : z ≤ 60) (e39 : u.2.1 39 s = 1) (e40 : u.2.1 40 s = J z) (h : j < z) : f_Shelves_hasElement (J s) (J j) u = some (1, u) := by
  rw [z_hasE hs hz e39 e40, if_pos (by rw [J_toInt (by omega)]; omega)]
theorem z_hasE0 {s z : Nat} {i : Int32} {u : k_S} (hs : s < 6) (hz : z ≤ 60) (e39 : u.2.1 39 s = 1) (e40 : u.2.1 40 s = J z) (h : i.toInt < 0 ∨ (z : Int) ≤ i.toInt) : f_Shelves_hasElement (J s) i u = some (0, u) := by
  rw [z_hasE hs hz e39 e40, if_neg (by omega)]
def z_rk (X : Nat → Int64) (q z n0 k : Nat) : Prop := q + 2 * k + 1 < z ∧ n0 + k < 40 ∧ 0 ≤ ((X (q + 2 * k)).toInt32).toInt ∧ ((X (q + 2 * k)).toInt32).toInt ≤ 5000 ∧ 0 ≤ ((X (q + 2 * k + 1)).toInt32).toInt ∧ ((X (q + 2 * k + 1)).toInt32).toInt < 40
def z_apA (X : Nat → Int64) (q n0 : Nat) (A : Nat → Nat) (i : Nat) : Nat := if i < n0 then A i else ((X (q + 2 * (i - n0))).toInt32).toInt.toNat
def z_apB (X : Nat → Int64) (q n0 : Nat) (A : Nat → Nat) (i : Nat) : Nat := if i < n0 then A i else ((X (q + 2 * (i - n0) + 1)).toInt32).toInt.toNat
theorem z_ap_k {X : Nat → Int64} {q z n0 k : Nat} {A B : Nat → Nat} (h : z_rk X q z n0 k) : z_apA X q n0 A (n0 + k) ≤ 5000 ∧ z_apB X q n0 B (n0 + k) < 40 ∧ (X (q + 2 * k)).toInt32 = J (z_apA X q n0 A (n0 + k)) ∧ (X (q + 2 * k + 1)).toInt32 = J (z_apB X q n0 B (n0 + k)) := by
  obtain ⟨-, -, h1, h2, h3, h4⟩ := h
  have a : z_apA X q n0 A (n0 + k) = ((X (q + 2 * k)).toInt32).toInt.toNat := by unfold z_apA; rw [if_neg (by omega), show n0 + k - n0 = k by omega]
  have b : z_apB X q n0 B (n0 + k) = ((X (q + 2 * k + 1)).toInt32).toInt.toNat := by unfold z_apB; rw [if_neg (by omega), show n0 + k - n0 = k by omega]
  rw [a, b]
  refine ⟨by omega, by omega, ?_, ?_⟩
  · apply Int32.toInt.inj
    rw [J_toInt (by omega)]; omega
  · apply Int32.toInt.inj
    rw [J_toInt (by omega)]; omega
theorem z_Svalue {s j : Nat} {u : k_S} (hs : s < 6) (hj : j < 60) : f_Shelves_valueAt (J s) (J j) u = some (u.2.2 41 (60 * s + j), u) := by
  unfold f_Shelves_valueAt
  simp only [k_let]
  rw [J_60, if_neg (by (try simp (disch := omega) only [Int32.lt_iff_toInt_lt, Int32.le_iff_toInt_le, ← Int32.toInt_inj, Int32.toInt_add, Int32.toInt_sub, Int32.toInt_mul, Int32.toInt_neg, z_bm, z_bm2, J_ti, J_toInt, z_cn, Int32.reduceToInt]) <;> omega), if_neg (by (try simp (disch := omega) only [Int32.lt_iff_toInt_lt, Int32.le_iff_toInt_le, ← Int32.toInt_inj, Int32.toInt_add, Int32.toInt_sub, Int32.toInt_mul, Int32.toInt_neg, z_bm, z_bm2, J_ti, J_toInt, z_cn, Int32.reduceToInt]) <;> omega), z_cko _ (by (try simp (disch := omega) only [Int32.lt_iff_toInt_lt, Int32.le_iff_toInt_le, ← Int32.toInt_inj, Int32.toInt_add, Int32.toInt_sub, Int32.toInt_mul, Int32.toInt_neg, z_bm, z_bm2, J_ti, J_toInt, z_cn, Int32.reduceToInt]) <;> omega) (by (try simp (disch := omega) only [Int32.lt_iff_toInt_lt, Int32.le_iff_toInt_le, ← Int32.toInt_inj, Int32.toInt_add, Int32.toInt_sub, Int32.toInt_mul, Int32.toInt_neg, z_bm, z_bm2, J_ti, J_toInt, z_cn, Int32.reduceToInt]) <;> omega), J_toNat (show 60 * s + j < 2147483648 by omega)]
theorem z_recsW {u : k_S} {n0 s q z N : Nat} {A B : Nat → Nat} {X : Nat → Int64} (hs : s < 6) (hz : z ≤ 60) (hq : q < 60) (hN : N ≤ 30) (e39 : u.2.1 39 s = 1) (e40 : u.2.1 40 s = J z) (hX : ∀ j, j < 60 → u.2.2 41 (60 * s + j) = X j) (hn : n0 ≤ 40) (h : z_RW n0 (z_apA X q n0 A) (z_apB X q n0 B) u) : k_sat (f_W_records_J49 (J s) (J q) (J N) u) (fun r v => z_fr [2003] [21, 22, 23] u v ∧ ∃ m, m ≤ N ∧ r = J m ∧ z_RW (n0 + m) (z_apA X q n0 A) (z_apB X q n0 B) v ∧ (∀ k, k < m → z_rk X q z n0 k) ∧ (m = N ∨ ¬ z_rk X q z n0 m)) := by
  unfold f_W_records_J49
  refine z_bind (fun y v => z_fr [2003] [21, 22, 23] u v ∧ ∃ m, m ≤ N ∧ (y = .inl (J m) ∨ y = .inr () ∧ m = N) ∧ z_RW (n0 + m) (z_apA X q n0 A) (z_apB X q n0 B) v ∧ (∀ k, k < m → z_rk X q z n0 k) ∧ (m = N ∨ ¬ z_rk X q z n0 m)) (z_for 0 N (fun k v => z_fr [2003] [21, 22, 23] u v ∧ z_RW (n0 + k) (z_apA X q n0 A) (z_apB X q n0 B) v ∧ ∀ k', k' < k → z_rk X q z n0 k') (by omega) (Nat.zero_le N) ⟨z_fr.rf, h, fun k hk => by omega⟩ (fun k v _ hk hp => ?_) (fun v hp => ?_)) (fun y v hv => ?_)
  · obtain ⟨g1, g2, g3⟩ := hp
    have stop : ¬ z_rk X q z n0 k → k_sat (some ((Sum.inr (Sum.inl (J k)) : Int32 ⊕ (Int32 ⊕ Unit)), v)) (fun z_1 u' => (z_1 = .inl (J k + Int32.ofInt 1) ∧ z_fr [2003] [21, 22, 23] u u' ∧ z_RW (n0 + (k + 1)) (z_apA X q n0 A) (z_apB X q n0 B) u' ∧ ∀ k', k' < k + 1 → z_rk X q z n0 k') ∨ ∃ y, z_1 = .inr y ∧ z_fr [2003] [21, 22, 23] u u' ∧ ∃ m, m ≤ N ∧ (y = .inl (J m) ∨ y = .inr () ∧ m = N) ∧ z_RW (n0 + m) (z_apA X q n0 A) (z_apB X q n0 B) u' ∧ (∀ k, k < m → z_rk X q z n0 k) ∧ (m = N ∨ ¬ z_rk X q z n0 m)) := fun c => k_sat_mk (Or.inr ⟨_, rfl, g1, k, by omega, Or.inl rfl, g2, g3, Or.inr c⟩)
    have d39 : v.2.1 39 s = 1 := (congrFun (g1.2.1 39 rfl) s).trans e39
    have d40 : v.2.1 40 s = J z := (congrFun (g1.2.1 40 rfl) s).trans e40
    have dX : ∀ j, j < 60 → v.2.2 41 (60 * s + j) = X j := fun j hj => by rw [g1.2.2 41 rfl]; exact hX j hj
    unfold f_W_records_B52
    rw [show (2 : Int32) = J 2 from rfl, J_mul, J_add]
    refine z_neg (by (try simp (disch := omega) only [Int32.lt_iff_toInt_lt, Int32.le_iff_toInt_le, ← Int32.toInt_inj, Int32.toInt_add, Int32.toInt_sub, Int32.toInt_mul, Int32.toInt_neg, z_bm, z_bm2, J_ti, J_toInt, z_cn, Int32.reduceToInt]) <;> omega) (z_let ?_)
    rw [z_Jp]
    by_cases c1 : q + 2 * k < z
    · rw [z_hasE1 hs hz d39 d40 c1, z_bind_some]
      refine z_neg (by decide) ?_
      by_cases c2 : q + 2 * k + 1 < z
      · rw [z_hasE1 hs hz d39 d40 c2, z_bind_some]
        refine z_neg (by decide) ?_
        rw [z_Svalue hs (by omega), z_bind_some, dX _ (by omega)]
        refine z_let ?_
        rw [z_Svalue hs (by omega), z_bind_some, dX _ (by omega)]
        refine z_let ?_
        rcases z_isRec (X (q + 2 * k)).toInt32 (X (q + 2 * k + 1)).toInt32 with ⟨c3, hi⟩ | ⟨c3, hi⟩
        · rw [(hi v).1, z_bind_some]
          refine z_neg (by decide) ?_
          by_cases c4 : n0 + k < 40
          · have hk2 : z_rk X q z n0 k := ⟨c2, c4, c3⟩
            obtain ⟨a1, a2, a3, a4⟩ := z_ap_k (A := A) (B := B) hk2
            rw [a3, a4]
            refine z_pos (by rw [g2.1]; (try simp (disch := omega) only [Int32.lt_iff_toInt_lt, Int32.le_iff_toInt_le, ← Int32.toInt_inj, Int32.toInt_add, Int32.toInt_sub, Int32.toInt_mul, Int32.toInt_neg, z_bm, z_bm2, J_ti, J_toInt, z_cn, Int32.reduceToInt]) <;> omega) (z_bind _ (z_RaddW c4 a1 a2 g2) (fun r w hw => k_sat_mk (Or.inl ⟨rfl, g1.tr hw.2.1, hw.2.2, fun k' hk' => ?_⟩)))
            by_cases e : k' = k
            · rw [e]; exact hk2
            · exact g3 k' (by omega)
          · exact z_neg (by rw [g2.1]; (try simp (disch := omega) only [Int32.lt_iff_toInt_lt, Int32.le_iff_toInt_le, ← Int32.toInt_inj, Int32.toInt_add, Int32.toInt_sub, Int32.toInt_mul, Int32.toInt_neg, z_bm, z_bm2, J_ti, J_toInt, z_cn, Int32.reduceToInt]) <;> omega) (stop (fun c => c4 c.2.1))
        · rw [(hi v).1, z_bind_some]
          exact z_pos rfl (stop (fun c => c3 c.2.2))
      · rw [z_hasE0 hs hz d39 d40 (by rw [J_toInt (by omega)]; omega), z_bind_some]
        exact z_pos rfl (stop (fun c => c2 c.1))
    · rw [z_hasE0 hs hz d39 d40 (by rw [J_toInt (by omega)]; omega), z_bind_some]
      exact z_pos rfl (stop (fun c => c1 (by have := c.1; omega)))
  · obtain ⟨g1, g2, g3⟩ := hp
    unfold f_W_records_B52
    exact z_pos (Int32.le_refl _) (k_sat_mk ⟨_, rfl, g1, N, Nat.le_refl N, Or.inr ⟨rfl, rfl⟩, g2, g3, Or.inl rfl⟩)
  · obtain ⟨g1, m, g2, rfl | ⟨rfl, rfl⟩, g4⟩ := hv
    · exact k_sat_mk ⟨g1, m, g2, rfl, g4⟩
    · exact k_sat_mk ⟨g1, m, g2, rfl, g4⟩
