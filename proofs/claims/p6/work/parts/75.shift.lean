/-! shift -/
def z_shf (g : Nat → Int64) (src dst lo hi : Nat) (x : Nat) : Int64 := if dst + lo ≤ x ∧ x < dst + hi then g (src + (x - dst)) else g x
theorem z_hasP1 {s z p n : Nat} {u : k_S} (hs : s < 6) (hz : z ≤ 60) (e40 : u.2.1 40 s = J z) (h : p + n ≤ z) : f_Shelves_hasPart (J s) (J p) (J n) u = some (1, u) := by
  unfold f_Shelves_hasPart
  rw [if_neg (by (try simp (disch := omega) only [Int32.lt_iff_toInt_lt, Int32.le_iff_toInt_le, ← Int32.toInt_inj, Int32.toInt_add, Int32.toInt_sub, Int32.toInt_mul, Int32.toInt_neg, z_bm, z_bm2, J_ti, J_toInt, z_cn, Int32.reduceToInt]) <;> omega), if_neg (by (try simp (disch := omega) only [Int32.lt_iff_toInt_lt, Int32.le_iff_toInt_le, ← Int32.toInt_inj, Int32.toInt_add, Int32.toInt_sub, Int32.toInt_mul, Int32.toInt_neg, z_bm, z_bm2, J_ti, J_toInt, z_cn, Int32.reduceToInt]) <;> omega), z_Shelves_sizeOf hs, z_bind_some, e40, if_neg (by (try simp (disch := omega) only [Int32.lt_iff_toInt_lt, Int32.le_iff_toInt_le, ← Int32.toInt_inj, Int32.toInt_add, Int32.toInt_sub, Int32.toInt_mul, Int32.toInt_neg, z_bm, z_bm2, J_ti, J_toInt, z_cn, Int32.reduceToInt]) <;> omega), z_Shelves_sizeOf hs, z_bind_some, e40, J_sub (by omega), if_neg (by (try simp (disch := omega) only [Int32.lt_iff_toInt_lt, Int32.le_iff_toInt_le, ← Int32.toInt_inj, Int32.toInt_add, Int32.toInt_sub, Int32.toInt_mul, Int32.toInt_neg, z_bm, z_bm2, J_ti, J_toInt, z_cn, Int32.reduceToInt]) <;> omega)]
theorem z_hasP0 {s z : Nat} {a b : Int32} {u : k_S} (hs : s < 6) (hz : z ≤ 60) (e40 : u.2.1 40 s = J z) (h : ¬ (0 ≤ a.toInt ∧ 0 ≤ b.toInt ∧ a.toInt + b.toInt ≤ z)) : f_Shelves_hasPart (J s) a b u = some (0, u) := by
  unfold f_Shelves_hasPart
  by_cases h1 : a < 0
  · rw [if_pos h1]
  rw [if_neg h1]
  by_cases h2 : b < 0
  · rw [if_pos h2]
  rw [if_neg h2, z_Shelves_sizeOf hs, z_bind_some, e40]
  by_cases h3 : J z < a
  · rw [if_pos h3]
  obtain ⟨p, rfl, hp, -⟩ := J_of (x := a) (by ((try simp (disch := omega) only [Int32.lt_iff_toInt_lt, Int32.le_iff_toInt_le, ← Int32.toInt_inj, Int32.toInt_add, Int32.toInt_sub, Int32.toInt_mul, Int32.toInt_neg, z_bm, z_bm2, J_ti, J_toInt, z_cn, Int32.reduceToInt] at *); omega))
  rw [if_neg h3, z_Shelves_sizeOf hs, z_bind_some, e40, J_sub (by ((try simp (disch := omega) only [Int32.lt_iff_toInt_lt, Int32.le_iff_toInt_le, ← Int32.toInt_inj, Int32.toInt_add, Int32.toInt_sub, Int32.toInt_mul, Int32.toInt_neg, z_bm, z_bm2, J_ti, J_toInt, z_cn, Int32.reduceToInt] at *); omega)), if_pos (by ((try simp (disch := omega) only [Int32.lt_iff_toInt_lt, Int32.le_iff_toInt_le, ← Int32.toInt_inj, Int32.toInt_add, Int32.toInt_sub, Int32.toInt_mul, Int32.toInt_neg, z_bm, z_bm2, J_ti, J_toInt, z_cn, Int32.reduceToInt] at *); omega))]
theorem z_shW {u : k_S} {s1 p2 s3 p4 N k : Nat} (h1 : s1 < 6) (h3 : s3 < 6) (hk : k ≤ 4) (b1 : p2 + N ≤ 60) (b3 : p4 + N ≤ 60) (e39 : u.2.1 39 s3 = J k) (hl : ∀ j, j < 60 → z_low k (u.2.2 41 (60 * s1 + j)) = u.2.2 41 (60 * s1 + j)) : k_sat (f_Shelves_move (J s1) (J p2) (J s3) (J p4) (J N) u) (fun _ v => z_fr [] [41] u v ∧ v.2.2 41 = z_shf (u.2.2 41) (60 * s1 + p2) (60 * s3 + p4) 0 N) := by
  have step : ∀ (i : Nat) (v : k_S) (lo hi : Nat), i < N → z_fr [] [41] u v → v.2.2 41 = z_shf (u.2.2 41) (60 * s1 + p2) (60 * s3 + p4) lo hi → ¬ (60 * s3 + p4 + lo ≤ 60 * s1 + p2 + i ∧ 60 * s1 + p2 + i < 60 * s3 + p4 + hi) → ∀ (d c : Int32), k_sat (f_Shelves_move_J40 (J s1) (J p2) (J s3) (J p4) (J N) d c (J i) v) (fun z w => z = .inl (c + Int32.ofInt 1) ∧ z_fr [] [41] u w ∧ ∀ x, w.2.2 41 x = if x = 60 * s3 + p4 + i then u.2.2 41 (60 * s1 + p2 + i) else z_shf (u.2.2 41) (60 * s1 + p2) (60 * s3 + p4) lo hi x) := by
    intro i v lo hi hi' hf he hd d c
    unfold f_Shelves_move_J40
    rw [J_add, J_add, z_Svalue h1 (by omega), z_bind_some, he, show 60 * s1 + (p2 + i) = 60 * s1 + p2 + i by omega]
    rw [z_putW s3 (p4 + i) k h3 (by omega) hk _ v ((congrFun (hf.2.1 39 rfl) s3).trans e39), z_bind_some]
    have e1 : z_shf (u.2.2 41) (60 * s1 + p2) (60 * s3 + p4) lo hi (60 * s1 + p2 + i) = u.2.2 41 (60 * s1 + p2 + i) := by unfold z_shf; rw [if_neg hd]
    have e2 : z_low k (u.2.2 41 (60 * s1 + p2 + i)) = u.2.2 41 (60 * s1 + p2 + i) := by
      have := hl (p2 + i) (by omega)
      rw [show 60 * s1 + (p2 + i) = 60 * s1 + p2 + i by omega] at this
      exact this
    rw [e1, e2]
    refine k_sat_mk ⟨rfl, hf.tr (z_wL rfl), fun x => ?_⟩
    simp only [k_wL, if_true]
    rw [z_upL, he, show 60 * s3 + (p4 + i) = 60 * s3 + p4 + i by omega]
  unfold f_Shelves_move
  refine z_ite (fun q => ?_) (fun q => ?_)
  · have q : p4 ≤ p2 := by ((try simp (disch := omega) only [Int32.lt_iff_toInt_lt, Int32.le_iff_toInt_le, ← Int32.toInt_inj, Int32.toInt_add, Int32.toInt_sub, Int32.toInt_mul, Int32.toInt_neg, z_bm, z_bm2, J_ti, J_toInt, z_cn, Int32.reduceToInt] at *); omega)
    unfold f_Shelves_move_J11
    refine z_bind _ (z_for 0 N (fun c v => z_fr [] [41] u v ∧ v.2.2 41 = z_shf (u.2.2 41) (60 * s1 + p2) (60 * s3 + p4) 0 c) (K := fun _ v => z_fr [] [41] u v ∧ v.2.2 41 = z_shf (u.2.2 41) (60 * s1 + p2) (60 * s3 + p4) 0 N) (by omega) (Nat.zero_le N) ⟨z_fr.rf, ?_⟩ (fun c v _ hc hp => ?_) (fun v hp => ?_)) (fun _ v hv => k_sat_mk hv)
    · funext x
      unfold z_shf
      rw [if_neg (by omega)]
    · unfold f_Shelves_move_B16
      refine z_neg (by (try simp (disch := omega) only [Int32.lt_iff_toInt_lt, Int32.le_iff_toInt_le, ← Int32.toInt_inj, Int32.toInt_add, Int32.toInt_sub, Int32.toInt_mul, Int32.toInt_neg, z_bm, z_bm2, J_ti, J_toInt, z_cn, Int32.reduceToInt]) <;> omega) (z_pos rfl (z_mono (step c v 0 c hc hp.1 hp.2 (by omega) 0 (J c)) (fun z w hw => Or.inl ⟨hw.1, hw.2.1, ?_⟩)))
      funext x
      rw [hw.2.2 x]
      unfold z_shf
      by_cases e : x = 60 * s3 + p4 + c
      · rw [if_pos e, if_pos (by omega)]
        exact congrArg (u.2.2 41) (by omega)
      · rw [if_neg e]
        by_cases e2 : 60 * s3 + p4 + 0 ≤ x ∧ x < 60 * s3 + p4 + c
        · rw [if_pos e2, if_pos (by omega)]
        · rw [if_neg e2, if_neg (by omega)]
    · unfold f_Shelves_move_B16
      exact z_pos (Int32.le_refl _) (k_sat_mk ⟨_, rfl, hp⟩)
  · have q : p2 < p4 := by ((try simp (disch := omega) only [Int32.lt_iff_toInt_lt, Int32.le_iff_toInt_le, ← Int32.toInt_inj, Int32.toInt_add, Int32.toInt_sub, Int32.toInt_mul, Int32.toInt_neg, z_bm, z_bm2, J_ti, J_toInt, z_cn, Int32.reduceToInt] at *); omega)
    unfold f_Shelves_move_J11
    refine z_bind _ (z_for 0 N (fun c v => z_fr [] [41] u v ∧ v.2.2 41 = z_shf (u.2.2 41) (60 * s1 + p2) (60 * s3 + p4) (N - c) N) (K := fun _ v => z_fr [] [41] u v ∧ v.2.2 41 = z_shf (u.2.2 41) (60 * s1 + p2) (60 * s3 + p4) 0 N) (by omega) (Nat.zero_le N) ⟨z_fr.rf, ?_⟩ (fun c v _ hc hp => ?_) (fun v hp => ?_)) (fun _ v hv => k_sat_mk hv)
    · funext x
      unfold z_shf
      rw [if_neg (by omega)]
    · unfold f_Shelves_move_B16
      rw [z_Jm' (by omega), J_sub (by omega)]
      refine z_neg (by (try simp (disch := omega) only [Int32.lt_iff_toInt_lt, Int32.le_iff_toInt_le, ← Int32.toInt_inj, Int32.toInt_add, Int32.toInt_sub, Int32.toInt_mul, Int32.toInt_neg, z_bm, z_bm2, J_ti, J_toInt, z_cn, Int32.reduceToInt]) <;> omega) (z_neg (by decide) (z_mono (step (N - 1 - c) v (N - c) N (by omega) hp.1 hp.2 (by omega) 1 (J c)) (fun z w hw => Or.inl ⟨hw.1, hw.2.1, ?_⟩)))
      funext x
      rw [hw.2.2 x]
      unfold z_shf
      by_cases e : x = 60 * s3 + p4 + (N - 1 - c)
      · rw [if_pos e, if_pos (by omega)]
        exact congrArg (u.2.2 41) (by omega)
      · rw [if_neg e]
        by_cases e2 : 60 * s3 + p4 + (N - c) ≤ x ∧ x < 60 * s3 + p4 + N
        · rw [if_pos e2, if_pos (by omega)]
        · rw [if_neg e2, if_neg (by omega)]
    · unfold f_Shelves_move_B16
      rw [Nat.sub_self] at hp
      exact z_pos (Int32.le_refl _) (k_sat_mk ⟨_, rfl, hp⟩)
