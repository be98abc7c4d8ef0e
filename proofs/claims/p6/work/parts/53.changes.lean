/-! CHANGES: broke, tooth, undo, redo -/
theorem z_Cwrite {i : Nat} {a b x y : Int32} {u : k_S} (h : i < 40) : f_Changes_write (J i) a b x y u = some ((), k_wA (k_wA (k_wA (k_wA u 31 i a) 32 i b) 33 i x) 34 i y) := by
  unfold f_Changes_write
  simp only [k_let]
  rw [if_neg (by (try simp (disch := omega) only [Int32.lt_iff_toInt_lt, Int32.le_iff_toInt_le, ← Int32.toInt_inj, Int32.toInt_add, Int32.toInt_sub, Int32.toInt_mul, Int32.toInt_neg, z_bm, z_bm2, J_ti, J_toInt, z_cn, Int32.reduceToInt]) <;> omega), if_neg (by (try simp (disch := omega) only [Int32.lt_iff_toInt_lt, Int32.le_iff_toInt_le, ← Int32.toInt_inj, Int32.toInt_add, Int32.toInt_sub, Int32.toInt_mul, Int32.toInt_neg, z_bm, z_bm2, J_ti, J_toInt, z_cn, Int32.reduceToInt]) <;> omega), if_pos (by (try simp (disch := omega) only [Int32.lt_iff_toInt_lt, Int32.le_iff_toInt_le, ← Int32.toInt_inj, Int32.toInt_add, Int32.toInt_sub, Int32.toInt_mul, Int32.toInt_neg, z_bm, z_bm2, J_ti, J_toInt, z_cn, Int32.reduceToInt]) <;> omega), if_neg (by (try simp (disch := omega) only [Int32.lt_iff_toInt_lt, Int32.le_iff_toInt_le, ← Int32.toInt_inj, Int32.toInt_add, Int32.toInt_sub, Int32.toInt_mul, Int32.toInt_neg, z_bm, z_bm2, J_ti, J_toInt, z_cn, Int32.reduceToInt]) <;> omega), if_pos (by (try simp (disch := omega) only [Int32.lt_iff_toInt_lt, Int32.le_iff_toInt_le, ← Int32.toInt_inj, Int32.toInt_add, Int32.toInt_sub, Int32.toInt_mul, Int32.toInt_neg, z_bm, z_bm2, J_ti, J_toInt, z_cn, Int32.reduceToInt]) <;> omega), z_cko _ (by (try simp (disch := omega) only [Int32.lt_iff_toInt_lt, Int32.le_iff_toInt_le, ← Int32.toInt_inj, Int32.toInt_add, Int32.toInt_sub, Int32.toInt_mul, Int32.toInt_neg, z_bm, z_bm2, J_ti, J_toInt, z_cn, Int32.reduceToInt]) <;> omega) (by (try simp (disch := omega) only [Int32.lt_iff_toInt_lt, Int32.le_iff_toInt_le, ← Int32.toInt_inj, Int32.toInt_add, Int32.toInt_sub, Int32.toInt_mul, Int32.toInt_neg, z_bm, z_bm2, J_ti, J_toInt, z_cn, Int32.reduceToInt]) <;> omega), z_cko _ (by (try simp (disch := omega) only [Int32.lt_iff_toInt_lt, Int32.le_iff_toInt_le, ← Int32.toInt_inj, Int32.toInt_add, Int32.toInt_sub, Int32.toInt_mul, Int32.toInt_neg, z_bm, z_bm2, J_ti, J_toInt, z_cn, Int32.reduceToInt]) <;> omega) (by (try simp (disch := omega) only [Int32.lt_iff_toInt_lt, Int32.le_iff_toInt_le, ← Int32.toInt_inj, Int32.toInt_add, Int32.toInt_sub, Int32.toInt_mul, Int32.toInt_neg, z_bm, z_bm2, J_ti, J_toInt, z_cn, Int32.reduceToInt]) <;> omega), z_cko _ (by (try simp (disch := omega) only [Int32.lt_iff_toInt_lt, Int32.le_iff_toInt_le, ← Int32.toInt_inj, Int32.toInt_add, Int32.toInt_sub, Int32.toInt_mul, Int32.toInt_neg, z_bm, z_bm2, J_ti, J_toInt, z_cn, Int32.reduceToInt]) <;> omega) (by (try simp (disch := omega) only [Int32.lt_iff_toInt_lt, Int32.le_iff_toInt_le, ← Int32.toInt_inj, Int32.toInt_add, Int32.toInt_sub, Int32.toInt_mul, Int32.toInt_neg, z_bm, z_bm2, J_ti, J_toInt, z_cn, Int32.reduceToInt]) <;> omega), z_cko _ (by (try simp (disch := omega) only [Int32.lt_iff_toInt_lt, Int32.le_iff_toInt_le, ← Int32.toInt_inj, Int32.toInt_add, Int32.toInt_sub, Int32.toInt_mul, Int32.toInt_neg, z_bm, z_bm2, J_ti, J_toInt, z_cn, Int32.reduceToInt]) <;> omega) (by (try simp (disch := omega) only [Int32.lt_iff_toInt_lt, Int32.le_iff_toInt_le, ← Int32.toInt_inj, Int32.toInt_add, Int32.toInt_sub, Int32.toInt_mul, Int32.toInt_neg, z_bm, z_bm2, J_ti, J_toInt, z_cn, Int32.reduceToInt]) <;> omega), J_toNat (by omega)]
def z_c4 (a c : Nat) : Prop := c = a ∨ c = a + 1 ∨ c = a + 2 ∨ c = a + 3
theorem z_Cdrop (u : k_S) : k_sat (f_Changes_dropOldest u) (fun _ v => z_fr [3004] [31, 32, 33, 34] u v ∧ v.1 3004 = J 39 ∧ ∀ c, z_c4 31 c → ∀ j, j < 39 → v.2.1 c j = u.2.1 c (j + 1)) := by
  unfold f_Changes_dropOldest
  refine z_bind _ (z_for 1 40 (fun i v => z_fr [3004] [31, 32, 33, 34] u v ∧ ∀ c, z_c4 31 c → (∀ j, j + 1 < i → v.2.1 c j = u.2.1 c (j + 1)) ∧ ∀ j, i ≤ j → v.2.1 c j = u.2.1 c j) (K := fun _ v => z_fr [3004] [31, 32, 33, 34] u v ∧ ∀ c, z_c4 31 c → ∀ j, j < 39 → v.2.1 c j = u.2.1 c (j + 1)) (by omega) (by omega) ⟨z_fr.rf, fun c _ => ⟨fun j hj => by omega, fun j _ => rfl⟩⟩ (fun i v hi0 hi hp => ?_) (fun v hp => ?_)) (fun _ v hv => z_let (k_sat_mk ⟨hv.1.tr (z_wF rfl), by simp [k_wF]; rfl, hv.2⟩))
  · unfold f_Changes_dropOldest_B2
    refine z_neg (by (try simp (disch := omega) only [Int32.lt_iff_toInt_lt, Int32.le_iff_toInt_le, ← Int32.toInt_inj, Int32.toInt_add, Int32.toInt_sub, Int32.toInt_mul, Int32.toInt_neg, z_bm, z_bm2, J_ti, J_toInt, z_cn, Int32.reduceToInt]) <;> omega) ?_
    rw [z_Changes_wheelAt hi, z_bind_some, z_Changes_placeAt hi, z_bind_some, z_Changes_beforeAt hi, z_bind_some, z_Changes_afterAt hi, z_bind_some, z_Jm' (by omega), z_Cwrite (by omega), z_bind_some]
    refine k_sat_mk (Or.inl ⟨rfl, hp.1.tr ((((z_wA rfl).tr (z_wA rfl)).tr (z_wA rfl)).tr (z_wA rfl)), fun c hc => ?_⟩)
    obtain ⟨a1, a2⟩ := hp.2 c hc
    rcases hc with rfl | rfl | rfl | rfl <;> refine ⟨fun j hj => ?_, fun j hj => ?_⟩ <;> simp [k_wA, z_up] <;> by_cases e : j = i - 1
    all_goals first
      | (subst e; simp [a2 i (Nat.le_refl i), show i - 1 + 1 = i by omega]; done)
      | (simp [e, a1 j (by omega)]; done)
      | (simp [e, a2 j (by omega)]; done)
      | omega
  · unfold f_Changes_dropOldest_B2
    exact z_pos (by decide) (k_sat_mk ⟨_, rfl, hp.1, fun c hc j hj => (hp.2 c hc).1 j (by omega)⟩)
/-- what is left of the kept ones behind a new one: how many, and by how much they went on -/
def z_dd (d : Nat) : Nat := if d < 40 then d else 39
def z_sh (d : Nat) : Nat := if d < 40 then 0 else 1
theorem z_Cadd (w p b a : Int32) (u : k_S) (d : Nat) (hd : d ≤ 40) (e : u.1 3004 = J d) (hn : ¬ b = a) : k_sat (f_Changes_add w p b a u) (fun _ v => z_fr [3004, 3005] [31, 32, 33, 34] u v ∧ v.1 3004 = J (z_dd d + 1) ∧ v.1 3005 = J (z_dd d + 1) ∧ (∀ c, z_c4 31 c → ∀ j, j < z_dd d → v.2.1 c j = u.2.1 c (j + z_sh d)) ∧ v.2.1 31 (z_dd d) = w ∧ v.2.1 32 (z_dd d) = p ∧ v.2.1 33 (z_dd d) = b ∧ v.2.1 34 (z_dd d) = a) := by
  have key : ∀ (v : k_S) (k : Nat), k < 40 → v.1 3004 = J k → k_sat (f_Changes_add_J20 w p b a v) (fun _ v' => z_fr [3004, 3005] [31, 32, 33, 34] v v' ∧ v'.1 3004 = J (k + 1) ∧ v'.1 3005 = J (k + 1) ∧ (∀ c, z_c4 31 c → ∀ j, j < k → v'.2.1 c j = v.2.1 c j) ∧ v'.2.1 31 k = w ∧ v'.2.1 32 k = p ∧ v'.2.1 33 k = b ∧ v'.2.1 34 k = a) := by
    intro v k hk ek
    unfold f_Changes_add_J20
    rw [ek, z_Cwrite hk, z_bind_some]
    refine z_let (z_let (k_sat_mk ⟨(((((z_wA rfl).tr (z_wA rfl)).tr (z_wA rfl)).tr (z_wA rfl)).tr (z_wF rfl)).tr (z_wF rfl), ?_, ?_, fun c hc j hj => ?_, ?_, ?_, ?_, ?_⟩))
    · simp [k_wF, k_wA, ek, z_Jp]
    · simp [k_wF, k_wA, ek, z_Jp]
    · rcases hc with rfl | rfl | rfl | rfl <;> simp [k_wF, k_wA, z_up, show ¬ j = k by omega]
    all_goals simp [k_wF, k_wA, z_up]
  unfold f_Changes_add
  refine z_neg hn ?_
  rw [e]
  by_cases h : d < 40
  · have e1 : z_dd d = d := if_pos h
    have e2 : z_sh d = 0 := if_pos h
    rw [e1, e2]
    exact z_pos (by (try simp (disch := omega) only [Int32.lt_iff_toInt_lt, Int32.le_iff_toInt_le, ← Int32.toInt_inj, Int32.toInt_add, Int32.toInt_sub, Int32.toInt_mul, Int32.toInt_neg, z_bm, z_bm2, J_ti, J_toInt, z_cn, Int32.reduceToInt]) <;> omega) (key u d h e)
  · have e1 : z_dd d = 39 := if_neg h
    have e2 : z_sh d = 1 := if_neg h
    rw [e1, e2]
    refine z_neg (by (try simp (disch := omega) only [Int32.lt_iff_toInt_lt, Int32.le_iff_toInt_le, ← Int32.toInt_inj, Int32.toInt_add, Int32.toInt_sub, Int32.toInt_mul, Int32.toInt_neg, z_bm, z_bm2, J_ti, J_toInt, z_cn, Int32.reduceToInt]) <;> omega) (z_bind _ (z_Cdrop u) (fun _ v hv => z_mono (key v 39 (by omega) hv.2.1) (fun _ v' h' => ?_)))
    exact ⟨(hv.1.mono rfl rfl).tr h'.1, h'.2.1, h'.2.2.1, fun c hc j hj => by rw [h'.2.2.2.1 c hc j hj, hv.2.2 c hc j hj], h'.2.2.2.2⟩
/-- the reference's change: of 0 a tooth (at of all letters), 1 a break -/
theorem z_Rchanges (k : Nat) (at_ x : Int32) (u : k_S) (d : Nat) (hd : d ≤ 40) (e : u.1 4224 = J d) (hk : k = 0 ∨ k = 1) (q : Nat) (hq : at_ = J q) (hq0 : k = 0 → q < 160) (hq1 : k = 1 → q < 4) (hn : ¬ u.2.1 (if k = 0 then 44 else 48) q = x) : k_sat (f_R_changes (J k) at_ x u) (fun r v => r = u.2.1 (if k = 0 then 44 else 48) q ∧ z_fr [4224, 4225] [56, 57, 58, 59, 44, 48] u v ∧ v.1 4224 = J (z_dd d + 1) ∧ v.1 4225 = 0 ∧ (∀ c, z_c4 56 c → ∀ j, j < z_dd d → v.2.1 c j = u.2.1 c (j + z_sh d)) ∧ v.2.1 56 (z_dd d) = J k ∧ v.2.1 57 (z_dd d) = J q ∧ v.2.1 58 (z_dd d) = u.2.1 (if k = 0 then 44 else 48) q ∧ v.2.1 59 (z_dd d) = x ∧ v.2.1 44 = (if k = 0 then upd (u.2.1 44) q x else u.2.1 44) ∧ v.2.1 48 = (if k = 0 then u.2.1 48 else upd (u.2.1 48) q x)) := by
  subst hq
  have hv : ∀ v : k_S, f_R_valueAt (J k) (J q) v = some (v.2.1 (if k = 0 then 44 else 48) q, v) := by
    intro v
    unfold f_R_valueAt
    rcases hk with rfl | rfl
    · rw [if_pos rfl, z_cko _ (by (try simp (disch := omega) only [Int32.lt_iff_toInt_lt, Int32.le_iff_toInt_le, ← Int32.toInt_inj, Int32.toInt_add, Int32.toInt_sub, Int32.toInt_mul, Int32.toInt_neg, z_bm, z_bm2, J_ti, J_toInt, z_cn, Int32.reduceToInt]) <;> omega) (by have := hq0 rfl; (try simp (disch := omega) only [Int32.lt_iff_toInt_lt, Int32.le_iff_toInt_le, ← Int32.toInt_inj, Int32.toInt_add, Int32.toInt_sub, Int32.toInt_mul, Int32.toInt_neg, z_bm, z_bm2, J_ti, J_toInt, z_cn, Int32.reduceToInt]) <;> omega), J_toNat (by have := hq0 rfl; omega)]; rfl
    · rw [if_neg (by decide), z_cko _ (by (try simp (disch := omega) only [Int32.lt_iff_toInt_lt, Int32.le_iff_toInt_le, ← Int32.toInt_inj, Int32.toInt_add, Int32.toInt_sub, Int32.toInt_mul, Int32.toInt_neg, z_bm, z_bm2, J_ti, J_toInt, z_cn, Int32.reduceToInt]) <;> omega) (by have := hq1 rfl; (try simp (disch := omega) only [Int32.lt_iff_toInt_lt, Int32.le_iff_toInt_le, ← Int32.toInt_inj, Int32.toInt_add, Int32.toInt_sub, Int32.toInt_mul, Int32.toInt_neg, z_bm, z_bm2, J_ti, J_toInt, z_cn, Int32.reduceToInt]) <;> omega), J_toNat (by have := hq1 rfl; omega)]; rfl
  have hl : ∀ v : k_S, f_R_lays (J k) (J q) x v = some ((), if k = 0 then k_wA v 44 q x else k_wA v 48 q x) := by
    intro v
    unfold f_R_lays
    simp only [k_let]
    rcases hk with rfl | rfl
    · rw [if_pos rfl, z_cko _ (by (try simp (disch := omega) only [Int32.lt_iff_toInt_lt, Int32.le_iff_toInt_le, ← Int32.toInt_inj, Int32.toInt_add, Int32.toInt_sub, Int32.toInt_mul, Int32.toInt_neg, z_bm, z_bm2, J_ti, J_toInt, z_cn, Int32.reduceToInt]) <;> omega) (by have := hq0 rfl; (try simp (disch := omega) only [Int32.lt_iff_toInt_lt, Int32.le_iff_toInt_le, ← Int32.toInt_inj, Int32.toInt_add, Int32.toInt_sub, Int32.toInt_mul, Int32.toInt_neg, z_bm, z_bm2, J_ti, J_toInt, z_cn, Int32.reduceToInt]) <;> omega), J_toNat (by have := hq0 rfl; omega)]; rfl
    · rw [if_neg (by decide), z_cko _ (by (try simp (disch := omega) only [Int32.lt_iff_toInt_lt, Int32.le_iff_toInt_le, ← Int32.toInt_inj, Int32.toInt_add, Int32.toInt_sub, Int32.toInt_mul, Int32.toInt_neg, z_bm, z_bm2, J_ti, J_toInt, z_cn, Int32.reduceToInt]) <;> omega) (by have := hq1 rfl; (try simp (disch := omega) only [Int32.lt_iff_toInt_lt, Int32.le_iff_toInt_le, ← Int32.toInt_inj, Int32.toInt_add, Int32.toInt_sub, Int32.toInt_mul, Int32.toInt_neg, z_bm, z_bm2, J_ti, J_toInt, z_cn, Int32.reduceToInt]) <;> omega), J_toNat (by have := hq1 rfl; omega)]; rfl
  have key : ∀ (v : k_S) (m : Nat) (y : Int32), m < 40 → v.1 4224 = J m → v.1 4225 = 0 → k_sat (f_R_changes_J121 (J k) (J q) x y v) (fun r v' => r = y ∧ z_fr [4224, 4225] [56, 57, 58, 59, 44, 48] v v' ∧ v'.1 4224 = J (m + 1) ∧ v'.1 4225 = 0 ∧ (∀ c, z_c4 56 c → ∀ j, j < m → v'.2.1 c j = v.2.1 c j) ∧ v'.2.1 56 m = J k ∧ v'.2.1 57 m = J q ∧ v'.2.1 58 m = y ∧ v'.2.1 59 m = x ∧ v'.2.1 44 = (if k = 0 then upd (v.2.1 44) q x else v.2.1 44) ∧ v'.2.1 48 = (if k = 0 then v.2.1 48 else upd (v.2.1 48) q x)) := by
    intro v m y hm em e0
    unfold f_R_changes_J121
    simp only [k_let]
    rw [em]
    have e2 : (k_wA v 56 (J m).toNatClampNeg (J k)).1 4224 = J m := em
    rw [z_cko _ (by (try simp (disch := omega) only [Int32.lt_iff_toInt_lt, Int32.le_iff_toInt_le, ← Int32.toInt_inj, Int32.toInt_add, Int32.toInt_sub, Int32.toInt_mul, Int32.toInt_neg, z_bm, z_bm2, J_ti, J_toInt, z_cn, Int32.reduceToInt]) <;> omega) (by (try simp (disch := omega) only [Int32.lt_iff_toInt_lt, Int32.le_iff_toInt_le, ← Int32.toInt_inj, Int32.toInt_add, Int32.toInt_sub, Int32.toInt_mul, Int32.toInt_neg, z_bm, z_bm2, J_ti, J_toInt, z_cn, Int32.reduceToInt]) <;> omega), e2]
    have e3 : (k_wA (k_wA v 56 (J m).toNatClampNeg (J k)) 57 (J m).toNatClampNeg (J q)).1 4224 = J m := em
    rw [z_cko _ (by (try simp (disch := omega) only [Int32.lt_iff_toInt_lt, Int32.le_iff_toInt_le, ← Int32.toInt_inj, Int32.toInt_add, Int32.toInt_sub, Int32.toInt_mul, Int32.toInt_neg, z_bm, z_bm2, J_ti, J_toInt, z_cn, Int32.reduceToInt]) <;> omega) (by (try simp (disch := omega) only [Int32.lt_iff_toInt_lt, Int32.le_iff_toInt_le, ← Int32.toInt_inj, Int32.toInt_add, Int32.toInt_sub, Int32.toInt_mul, Int32.toInt_neg, z_bm, z_bm2, J_ti, J_toInt, z_cn, Int32.reduceToInt]) <;> omega), e3]
    have e4 : (k_wA (k_wA (k_wA v 56 (J m).toNatClampNeg (J k)) 57 (J m).toNatClampNeg (J q)) 58 (J m).toNatClampNeg y).1 4224 = J m := em
    rw [z_cko _ (by (try simp (disch := omega) only [Int32.lt_iff_toInt_lt, Int32.le_iff_toInt_le, ← Int32.toInt_inj, Int32.toInt_add, Int32.toInt_sub, Int32.toInt_mul, Int32.toInt_neg, z_bm, z_bm2, J_ti, J_toInt, z_cn, Int32.reduceToInt]) <;> omega) (by (try simp (disch := omega) only [Int32.lt_iff_toInt_lt, Int32.le_iff_toInt_le, ← Int32.toInt_inj, Int32.toInt_add, Int32.toInt_sub, Int32.toInt_mul, Int32.toInt_neg, z_bm, z_bm2, J_ti, J_toInt, z_cn, Int32.reduceToInt]) <;> omega), e4, z_cko _ (by (try simp (disch := omega) only [Int32.lt_iff_toInt_lt, Int32.le_iff_toInt_le, ← Int32.toInt_inj, Int32.toInt_add, Int32.toInt_sub, Int32.toInt_mul, Int32.toInt_neg, z_bm, z_bm2, J_ti, J_toInt, z_cn, Int32.reduceToInt]) <;> omega) (by (try simp (disch := omega) only [Int32.lt_iff_toInt_lt, Int32.le_iff_toInt_le, ← Int32.toInt_inj, Int32.toInt_add, Int32.toInt_sub, Int32.toInt_mul, Int32.toInt_neg, z_bm, z_bm2, J_ti, J_toInt, z_cn, Int32.reduceToInt]) <;> omega), hl, z_bind_some, J_toNat (show m < 2147483648 by omega)]
    rcases hk with rfl | rfl
    · refine k_sat_mk ⟨rfl, ((((((z_wA rfl).tr (z_wA rfl)).tr (z_wA rfl)).tr (z_wA rfl)).tr (z_wF rfl)).tr (z_wA rfl)), ?_, ?_, fun c hc j hj => ?_, ?_, ?_, ?_, ?_, ?_, ?_⟩
      · simp [k_wF, k_wA, em, z_Jp]
      · simp [k_wF, k_wA, e0]
      · rcases hc with rfl | rfl | rfl | rfl <;> simp [k_wF, k_wA, z_up, show ¬ j = m by omega]
      all_goals simp [k_wF, k_wA, z_up]
    · refine k_sat_mk ⟨rfl, ((((((z_wA rfl).tr (z_wA rfl)).tr (z_wA rfl)).tr (z_wA rfl)).tr (z_wF rfl)).tr (z_wA rfl)), ?_, ?_, fun c hc j hj => ?_, ?_, ?_, ?_, ?_, ?_, ?_⟩
      · simp [k_wF, k_wA, em, z_Jp]
      · simp [k_wF, k_wA, e0]
      · rcases hc with rfl | rfl | rfl | rfl <;> simp [k_wF, k_wA, z_up, show ¬ j = m by omega]
      all_goals simp [k_wF, k_wA, z_up]
  unfold f_R_changes
  rw [hv, z_bind_some]
  refine z_neg hn (z_let ?_)
  have e4 : (k_wF u 4225 0).1 4224 = J d := e
  rw [e4]
  by_cases h : d < 40
  · have e1 : z_dd d = d := if_pos h
    have e2 : z_sh d = 0 := if_pos h
    rw [e1, e2]
    refine z_neg (by (try simp (disch := omega) only [Int32.lt_iff_toInt_lt, Int32.le_iff_toInt_le, ← Int32.toInt_inj, Int32.toInt_add, Int32.toInt_sub, Int32.toInt_mul, Int32.toInt_neg, z_bm, z_bm2, J_ti, J_toInt, z_cn, Int32.reduceToInt]) <;> omega) (z_mono (key _ d _ h e4 (by simp [k_wF])) (fun r v' h' => ?_))
    exact ⟨h'.1, (z_wF rfl).tr h'.2.1, h'.2.2⟩
  · have e1 : z_dd d = 39 := if_neg h
    have e2 : z_sh d = 1 := if_neg h
    have e3 : d = 40 := by omega
    subst e3
    rw [e1, e2]
    refine z_pos rfl (z_bind _ (z_for 1 40 (fun i v => z_fr [4225] [56, 57, 58, 59] u v ∧ v.1 4225 = 0 ∧ ∀ c, z_c4 56 c → (∀ j, j + 1 < i → v.2.1 c j = u.2.1 c (j + 1)) ∧ ∀ j, i ≤ j → v.2.1 c j = u.2.1 c j) (K := fun _ v => z_fr [4225] [56, 57, 58, 59] u v ∧ v.1 4225 = 0 ∧ ∀ c, z_c4 56 c → ∀ j, j < 39 → v.2.1 c j = u.2.1 c (j + 1)) (by omega) (by omega) ⟨z_wF rfl, by simp [k_wF], fun c _ => ⟨fun j hj => by omega, fun j _ => rfl⟩⟩ (fun i v hi0 hi hp => ?_) (fun v hp => ?_)) (fun _ v hv => z_let ?_))
    · unfold f_R_changes_B34
      rw [z_Jm' (show 0 < i by omega)]
      refine z_neg (by (try simp (disch := omega) only [Int32.lt_iff_toInt_lt, Int32.le_iff_toInt_le, ← Int32.toInt_inj, Int32.toInt_add, Int32.toInt_sub, Int32.toInt_mul, Int32.toInt_neg, z_bm, z_bm2, J_ti, J_toInt, z_cn, Int32.reduceToInt]) <;> omega) (z_ck (by (try simp (disch := omega) only [Int32.lt_iff_toInt_lt, Int32.le_iff_toInt_le, ← Int32.toInt_inj, Int32.toInt_add, Int32.toInt_sub, Int32.toInt_mul, Int32.toInt_neg, z_bm, z_bm2, J_ti, J_toInt, z_cn, Int32.reduceToInt]) <;> omega) (by (try simp (disch := omega) only [Int32.lt_iff_toInt_lt, Int32.le_iff_toInt_le, ← Int32.toInt_inj, Int32.toInt_add, Int32.toInt_sub, Int32.toInt_mul, Int32.toInt_neg, z_bm, z_bm2, J_ti, J_toInt, z_cn, Int32.reduceToInt]) <;> omega) (z_ck (by (try simp (disch := omega) only [Int32.lt_iff_toInt_lt, Int32.le_iff_toInt_le, ← Int32.toInt_inj, Int32.toInt_add, Int32.toInt_sub, Int32.toInt_mul, Int32.toInt_neg, z_bm, z_bm2, J_ti, J_toInt, z_cn, Int32.reduceToInt]) <;> omega) (by (try simp (disch := omega) only [Int32.lt_iff_toInt_lt, Int32.le_iff_toInt_le, ← Int32.toInt_inj, Int32.toInt_add, Int32.toInt_sub, Int32.toInt_mul, Int32.toInt_neg, z_bm, z_bm2, J_ti, J_toInt, z_cn, Int32.reduceToInt]) <;> omega) (z_let (z_ck (by (try simp (disch := omega) only [Int32.lt_iff_toInt_lt, Int32.le_iff_toInt_le, ← Int32.toInt_inj, Int32.toInt_add, Int32.toInt_sub, Int32.toInt_mul, Int32.toInt_neg, z_bm, z_bm2, J_ti, J_toInt, z_cn, Int32.reduceToInt]) <;> omega) (by (try simp (disch := omega) only [Int32.lt_iff_toInt_lt, Int32.le_iff_toInt_le, ← Int32.toInt_inj, Int32.toInt_add, Int32.toInt_sub, Int32.toInt_mul, Int32.toInt_neg, z_bm, z_bm2, J_ti, J_toInt, z_cn, Int32.reduceToInt]) <;> omega) (z_ck (by (try simp (disch := omega) only [Int32.lt_iff_toInt_lt, Int32.le_iff_toInt_le, ← Int32.toInt_inj, Int32.toInt_add, Int32.toInt_sub, Int32.toInt_mul, Int32.toInt_neg, z_bm, z_bm2, J_ti, J_toInt, z_cn, Int32.reduceToInt]) <;> omega) (by (try simp (disch := omega) only [Int32.lt_iff_toInt_lt, Int32.le_iff_toInt_le, ← Int32.toInt_inj, Int32.toInt_add, Int32.toInt_sub, Int32.toInt_mul, Int32.toInt_neg, z_bm, z_bm2, J_ti, J_toInt, z_cn, Int32.reduceToInt]) <;> omega) (z_let (z_ck (by (try simp (disch := omega) only [Int32.lt_iff_toInt_lt, Int32.le_iff_toInt_le, ← Int32.toInt_inj, Int32.toInt_add, Int32.toInt_sub, Int32.toInt_mul, Int32.toInt_neg, z_bm, z_bm2, J_ti, J_toInt, z_cn, Int32.reduceToInt]) <;> omega) (by (try simp (disch := omega) only [Int32.lt_iff_toInt_lt, Int32.le_iff_toInt_le, ← Int32.toInt_inj, Int32.toInt_add, Int32.toInt_sub, Int32.toInt_mul, Int32.toInt_neg, z_bm, z_bm2, J_ti, J_toInt, z_cn, Int32.reduceToInt]) <;> omega) (z_ck (by (try simp (disch := omega) only [Int32.lt_iff_toInt_lt, Int32.le_iff_toInt_le, ← Int32.toInt_inj, Int32.toInt_add, Int32.toInt_sub, Int32.toInt_mul, Int32.toInt_neg, z_bm, z_bm2, J_ti, J_toInt, z_cn, Int32.reduceToInt]) <;> omega) (by (try simp (disch := omega) only [Int32.lt_iff_toInt_lt, Int32.le_iff_toInt_le, ← Int32.toInt_inj, Int32.toInt_add, Int32.toInt_sub, Int32.toInt_mul, Int32.toInt_neg, z_bm, z_bm2, J_ti, J_toInt, z_cn, Int32.reduceToInt]) <;> omega) (z_let (z_ck (by (try simp (disch := omega) only [Int32.lt_iff_toInt_lt, Int32.le_iff_toInt_le, ← Int32.toInt_inj, Int32.toInt_add, Int32.toInt_sub, Int32.toInt_mul, Int32.toInt_neg, z_bm, z_bm2, J_ti, J_toInt, z_cn, Int32.reduceToInt]) <;> omega) (by (try simp (disch := omega) only [Int32.lt_iff_toInt_lt, Int32.le_iff_toInt_le, ← Int32.toInt_inj, Int32.toInt_add, Int32.toInt_sub, Int32.toInt_mul, Int32.toInt_neg, z_bm, z_bm2, J_ti, J_toInt, z_cn, Int32.reduceToInt]) <;> omega) (z_ck (by (try simp (disch := omega) only [Int32.lt_iff_toInt_lt, Int32.le_iff_toInt_le, ← Int32.toInt_inj, Int32.toInt_add, Int32.toInt_sub, Int32.toInt_mul, Int32.toInt_neg, z_bm, z_bm2, J_ti, J_toInt, z_cn, Int32.reduceToInt]) <;> omega) (by (try simp (disch := omega) only [Int32.lt_iff_toInt_lt, Int32.le_iff_toInt_le, ← Int32.toInt_inj, Int32.toInt_add, Int32.toInt_sub, Int32.toInt_mul, Int32.toInt_neg, z_bm, z_bm2, J_ti, J_toInt, z_cn, Int32.reduceToInt]) <;> omega) (z_let ?_))))))))))))
      rw [J_toNat (show i < 2147483648 by omega), J_toNat (show i - 1 < 2147483648 by omega)]
      refine k_sat_mk (Or.inl ⟨rfl, hp.1.tr ((((z_wA rfl).tr (z_wA rfl)).tr (z_wA rfl)).tr (z_wA rfl)), hp.2.1, fun c hc => ?_⟩)
      obtain ⟨a1, a2⟩ := hp.2.2 c hc
      rcases hc with rfl | rfl | rfl | rfl <;> refine ⟨fun j hj => ?_, fun j hj => ?_⟩ <;> simp [k_wA, z_up] <;> by_cases e : j = i - 1
      all_goals first
        | (subst e; simp [a2 i (Nat.le_refl i), show i - 1 + 1 = i by omega]; done)
        | (simp [e, a1 j (by omega)]; done)
        | (simp [e, a2 j (by omega)]; done)
        | omega
    · unfold f_R_changes_B34
      exact z_pos (by decide) (k_sat_mk ⟨_, rfl, hp.1, hp.2.1, fun c hc j hj => (hp.2.2 c hc).1 j (by omega)⟩)
    · have e5 : v.1 4224 = J 40 := (hv.1.1 4224 rfl).trans e
      rw [e5, show J 40 - 1 = J 39 from z_Jm 39]
      refine z_mono (key _ 39 _ (by omega) (by simp [k_wF]) (by simp [k_wF, hv.2.1])) (fun r v' h' => ?_)
      obtain ⟨b1, b2, b3, b4, b5, b6, b7, b8, b9, b10, b11⟩ := h'
      exact ⟨b1, (hv.1.mono rfl rfl).tr ((z_wF rfl).tr b2), b3, b4, fun c hc j hj => by rw [b5 c hc j hj]; exact hv.2.2 c hc j hj, b6, b7, b8, b9, by rw [b10, show (k_wF v 4224 (J 39)).2.1 44 = u.2.1 44 from hv.1.2.1 44 rfl], by rw [b11, show (k_wF v 4224 (J 39)).2.1 48 = u.2.1 48 from hv.1.2.1 48 rfl]⟩
