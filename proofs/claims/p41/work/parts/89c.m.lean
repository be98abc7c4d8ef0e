/-! LAW: the class reads expressions -/
def z_lk (r : Int32) (c : Nat) : Prop := (c < 128 ∧ r = J c) ∨ (c = 200 ∧ (r.toInt < 0 ∨ 128 ≤ r.toInt))
theorem z_lk_eq {r : Int32} {c k : Nat} (h : z_lk r c) (hk : k < 128) : r = J k ↔ c = k := by
  rcases h with ⟨h1, rfl⟩ | ⟨rfl, h1⟩
  · rw [J_inj (by omega) (by omega)]
  · constructor
    · rintro rfl
      rw [J_toInt (by omega)] at h1
      omega
    · intro q; omega
theorem z_lk_J {r : Int32} {c : Nat} (h : z_lk r c) (hc : c < 128) : r = J c := (z_lk_eq h hc).mpr rfl
theorem z_digW {r : Int32} {c : Nat} (h : z_lk r c) (u : k_S) : f_Reader_isDigit r u = some (if 48 ≤ c ∧ c ≤ 57 then 1 else 0, u) := by
  unfold f_Reader_isDigit
  rcases h with ⟨h1, rfl⟩ | ⟨rfl, h1⟩
  · by_cases q1 : c < 48
    · rw [if_pos (by (try simp (disch := omega) only [Int32.lt_iff_toInt_lt, Int32.le_iff_toInt_le, ← Int32.toInt_inj, Int32.toInt_add, Int32.toInt_sub, Int32.toInt_mul, Int32.toInt_neg, z_bm, z_bm2, J_ti, J_toInt, z_cn, Int32.reduceToInt]) <;> omega), if_neg (by omega)]
    · by_cases q2 : 57 < c
      · rw [if_neg (by (try simp (disch := omega) only [Int32.lt_iff_toInt_lt, Int32.le_iff_toInt_le, ← Int32.toInt_inj, Int32.toInt_add, Int32.toInt_sub, Int32.toInt_mul, Int32.toInt_neg, z_bm, z_bm2, J_ti, J_toInt, z_cn, Int32.reduceToInt]) <;> omega), if_pos (by (try simp (disch := omega) only [Int32.lt_iff_toInt_lt, Int32.le_iff_toInt_le, ← Int32.toInt_inj, Int32.toInt_add, Int32.toInt_sub, Int32.toInt_mul, Int32.toInt_neg, z_bm, z_bm2, J_ti, J_toInt, z_cn, Int32.reduceToInt]) <;> omega), if_neg (by omega)]
      · rw [if_neg (by (try simp (disch := omega) only [Int32.lt_iff_toInt_lt, Int32.le_iff_toInt_le, ← Int32.toInt_inj, Int32.toInt_add, Int32.toInt_sub, Int32.toInt_mul, Int32.toInt_neg, z_bm, z_bm2, J_ti, J_toInt, z_cn, Int32.reduceToInt]) <;> omega), if_neg (by (try simp (disch := omega) only [Int32.lt_iff_toInt_lt, Int32.le_iff_toInt_le, ← Int32.toInt_inj, Int32.toInt_add, Int32.toInt_sub, Int32.toInt_mul, Int32.toInt_neg, z_bm, z_bm2, J_ti, J_toInt, z_cn, Int32.reduceToInt]) <;> omega), if_pos (by omega)]
  · rw [if_neg (by omega : ¬ (48 ≤ 200 ∧ 200 ≤ 57))]
    rcases h1 with h1 | h1
    · rw [if_pos (by ((try simp (disch := omega) only [Int32.lt_iff_toInt_lt, Int32.le_iff_toInt_le, ← Int32.toInt_inj, Int32.toInt_add, Int32.toInt_sub, Int32.toInt_mul, Int32.toInt_neg, z_bm, z_bm2, J_ti, J_toInt, z_cn, Int32.reduceToInt] at *); omega))]
    · rw [if_neg (by ((try simp (disch := omega) only [Int32.lt_iff_toInt_lt, Int32.le_iff_toInt_le, ← Int32.toInt_inj, Int32.toInt_add, Int32.toInt_sub, Int32.toInt_mul, Int32.toInt_neg, z_bm, z_bm2, J_ti, J_toInt, z_cn, Int32.reduceToInt] at *); omega)), if_pos (by ((try simp (disch := omega) only [Int32.lt_iff_toInt_lt, Int32.le_iff_toInt_le, ← Int32.toInt_inj, Int32.toInt_add, Int32.toInt_sub, Int32.toInt_mul, Int32.toInt_neg, z_bm, z_bm2, J_ti, J_toInt, z_cn, Int32.reduceToInt] at *); omega))]
/-- the class's tape, where it reads, what it has -/
def z_wx (n : Nat) (b : Nat → Nat) (u : k_S) (i : Nat) : Prop := n ≤ 120 ∧ u.1 101 = J n ∧ (∀ j, j < n → b j ≤ 255 ∧ u.2.1 2 j = J (b j)) ∧ u.1 1003 = J i ∧ i ≤ n
def z_wcs (u : k_S) (L : List Int32) : Prop := u.1 1002 = J L.length ∧ ∀ j s, L[j]? = some s → u.2.1 11 j = s
def z_ws (n : Nat) (b : Nat → Nat) (u : k_S) (i : Nat) (L : List Int32) : Prop := z_wx n b u i ∧ z_wcs u L ∧ L.length ≤ i
theorem z_wx_f {n i j : Nat} {b : Nat → Nat} {u v : k_S} (h : z_wx n b u i) (hf : z_fr [1002, 1003] [11] u v) (e : v.1 1003 = J j) (hj : j ≤ n) : z_wx n b v j := by
  obtain ⟨h1, h2, h3, -, -⟩ := h
  refine ⟨h1, (hf.1 101 rfl).trans h2, fun k hk => ?_, e, hj⟩
  rw [hf.2.1 2 rfl]
  exact h3 k hk
theorem z_at {n i : Nat} {b : Nat → Nat} {u : k_S} (h : z_wx n b u i) : ∃ r, f_Tape_at (u.1 1003) u = some (r, u) ∧ z_lk r (z_ch n b i) := by
  obtain ⟨h1, h2, h3, h4, h5⟩ := h
  rw [h4]
  by_cases q : i < n
  · refine ⟨J (b i), z_tapeAt h2 h1 q (h3 i q).2, ?_⟩
    unfold z_ch
    rw [if_pos q]
    by_cases q2 : b i < 128
    · rw [if_pos q2]
      exact Or.inl ⟨q2, rfl⟩
    · rw [if_neg q2]
      have := (h3 i q).1
      exact Or.inr ⟨rfl, Or.inr (by rw [J_toInt (by omega)]; omega)⟩
  · refine ⟨-1, ?_, ?_⟩
    · unfold f_Tape_at
      rw [h2, if_neg (by (try simp (disch := omega) only [Int32.lt_iff_toInt_lt, Int32.le_iff_toInt_le, ← Int32.toInt_inj, Int32.toInt_add, Int32.toInt_sub, Int32.toInt_mul, Int32.toInt_neg, z_bm, z_bm2, J_ti, J_toInt, z_cn, Int32.reduceToInt]) <;> omega), if_pos (by (try simp (disch := omega) only [Int32.lt_iff_toInt_lt, Int32.le_iff_toInt_le, ← Int32.toInt_inj, Int32.toInt_add, Int32.toInt_sub, Int32.toInt_mul, Int32.toInt_neg, z_bm, z_bm2, J_ti, J_toInt, z_cn, Int32.reduceToInt]) <;> omega)]
    · unfold z_ch
      rw [if_neg q]
      exact Or.inr ⟨rfl, Or.inl (by decide)⟩
theorem z_addT (s : Int32) (u : k_S) : k_sat (f_Reader_add s u) (fun _ v => z_fr [1002] [11] u v) := by
  unfold f_Reader_add
  refine z_ite (fun _ => k_sat_mk z_fr.rf) (fun q => z_ite (fun q2 => z_ck (by ((try simp (disch := omega) only [Int32.lt_iff_toInt_lt, Int32.le_iff_toInt_le, ← Int32.toInt_inj, Int32.toInt_add, Int32.toInt_sub, Int32.toInt_mul, Int32.toInt_neg, z_bm, z_bm2, J_ti, J_toInt, z_cn, Int32.reduceToInt] at *); omega)) (by ((try simp (disch := omega) only [Int32.lt_iff_toInt_lt, Int32.le_iff_toInt_le, ← Int32.toInt_inj, Int32.toInt_add, Int32.toInt_sub, Int32.toInt_mul, Int32.toInt_neg, z_bm, z_bm2, J_ti, J_toInt, z_cn, Int32.reduceToInt] at *); omega)) (z_let (z_let (k_sat_mk ((z_wA rfl).tr (z_wF rfl)))))) (fun _ => k_sat_mk z_fr.rf))
theorem z_add {L : List Int32} {s : Int32} {u : k_S} (h : z_wcs u L) (hl : L.length < 128) : k_sat (f_Reader_add s u) (fun _ v => z_fr [1002] [11] u v ∧ z_wcs v (L ++ [s])) := by
  obtain ⟨h1, h2⟩ := h
  unfold f_Reader_add
  rw [h1, J_toNat (by omega)]
  refine z_neg (by (try simp (disch := omega) only [Int32.lt_iff_toInt_lt, Int32.le_iff_toInt_le, ← Int32.toInt_inj, Int32.toInt_add, Int32.toInt_sub, Int32.toInt_mul, Int32.toInt_neg, z_bm, z_bm2, J_ti, J_toInt, z_cn, Int32.reduceToInt]) <;> omega) (z_pos (by (try simp (disch := omega) only [Int32.lt_iff_toInt_lt, Int32.le_iff_toInt_le, ← Int32.toInt_inj, Int32.toInt_add, Int32.toInt_sub, Int32.toInt_mul, Int32.toInt_neg, z_bm, z_bm2, J_ti, J_toInt, z_cn, Int32.reduceToInt]) <;> omega) (z_ck (by (try simp (disch := omega) only [Int32.lt_iff_toInt_lt, Int32.le_iff_toInt_le, ← Int32.toInt_inj, Int32.toInt_add, Int32.toInt_sub, Int32.toInt_mul, Int32.toInt_neg, z_bm, z_bm2, J_ti, J_toInt, z_cn, Int32.reduceToInt]) <;> omega) (by (try simp (disch := omega) only [Int32.lt_iff_toInt_lt, Int32.le_iff_toInt_le, ← Int32.toInt_inj, Int32.toInt_add, Int32.toInt_sub, Int32.toInt_mul, Int32.toInt_neg, z_bm, z_bm2, J_ti, J_toInt, z_cn, Int32.reduceToInt]) <;> omega) (z_let (z_let (k_sat_mk ⟨(z_wA rfl).tr (z_wF rfl), ?_, fun j x hj => ?_⟩)))))
  · rw [List.length_append, List.length_singleton]
    simp [k_wF, k_wA, h1, z_Jp]
  · simp only [k_wF, k_wA, if_true, z_up]
    by_cases e : j = L.length
    · rw [if_pos e]
      rw [e, List.getElem?_append_right (Nat.le_refl _), Nat.sub_self] at hj
      simpa using hj
    · rw [if_neg e]
      refine h2 j x ?_
      rcases Nat.lt_or_ge j L.length with q | q
      · rw [List.getElem?_append_left q] at hj; exact hj
      · rw [List.getElem?_append_right q, List.getElem?_eq_none (by rw [List.length_singleton]; omega)] at hj
        cases hj
theorem z_wcs_f {L : List Int32} {u v : k_S} (h : z_wcs u L) (h1 : v.1 1002 = u.1 1002) (h2 : v.2.1 11 = u.2.1 11) : z_wcs v L := ⟨h1.trans h.1, fun j s hs => (congrFun h2 j).trans (h.2 j s hs)⟩
theorem z_nx1 {n i : Nat} {b : Nat → Nat} {u : k_S} (h : z_wx n b u i) (hi : i < n) : k_wF u 1003 (u.1 1003 + 1) = k_wF u 1003 (J (i + 1)) ∧ z_wx n b (k_wF u 1003 (J (i + 1))) (i + 1) := by
  refine ⟨by rw [h.2.2.2.1, z_Jp], z_wx_f h (z_wF rfl) (by simp [k_wF]) hi⟩
theorem z_passes {n i c : Nat} {b : Nat → Nat} {u : k_S} (h : z_wx n b u i) (hc : c < 128) : f_Reader_passes (J c) u = if z_ch n b i = c then some (1, k_wF u 1003 (J (i + 1))) else some (0, u) := by
  obtain ⟨r, hr, hk⟩ := z_at h
  unfold f_Reader_passes
  rw [hr, z_bind_some]
  by_cases q : z_ch n b i = c
  · rw [if_pos q, if_pos ((z_lk_eq hk hc).mpr q)]
    simp only [k_let]
    rw [h.2.2.2.1, z_Jp]
  · rw [if_neg q, if_neg (fun x => q ((z_lk_eq hk hc).mp x))]
/-- the class reads as the pure reader does -/
def z_PW (n : Nat) (b : Nat → Nat) (g : k_S → Option (Int32 × k_S)) (P : z_Pa) : Prop := ∀ u i L, z_ws n b u i L → k_sat (g u) (fun r v => z_fr [1002, 1003] [11] u v ∧ ((P i).1 = true → r = 1 ∧ z_ws n b v (P i).2.1 (L ++ (P i).2.2)) ∧ ((P i).1 = false → z_wx n b v (P i).2.1 ∧ (r = 0 ∨ (r = 1 ∧ 48 ≤ z_ch n b (P i).2.1 ∧ z_ch n b (P i).2.1 ≤ 57))))
theorem z_loopW {n kk : Nat} {b : Nat → Nat} {os : List Nat} {sg : z_Pa} {bd : Int32 → k_S → Option ((Int32 ⊕ (Int32 ⊕ Unit)) × k_S)} (hdg : ∀ c, c ∈ os → ¬ (48 ≤ c ∧ c ≤ 57)) (hex : ∀ k u i, k < kk → z_wx n b u i → ¬ z_ch n b i ∈ os → k_sat (bd (J k) u) (fun z v => v = u ∧ (z = .inr (.inl 1) ∨ z = .inr (.inr ())))) (hend : ∀ u, k_sat (bd (J kk) u) (fun z v => v = u ∧ z = .inr (.inr ()))) (hop : ∀ k u i L, k < kk → z_ws n b u i L → z_ch n b i ∈ os → k_sat (bd (J k) u) (fun z v => z_fr [1002, 1003] [11] u v ∧ ((sg (i + 1)).1 = true → z = .inl (J k + Int32.ofInt 1) ∧ z_ws n b v (sg (i + 1)).2.1 (L ++ (sg (i + 1)).2.2 ++ [-(J (z_ch n b i))])) ∧ ((sg (i + 1)).1 = false → z_wx n b v (sg (i + 1)).2.1 ∧ (z = .inr (.inl 0) ∨ (z = .inl (J k + Int32.ofInt 1) ∧ 48 ≤ z_ch n b (sg (i + 1)).2.1 ∧ z_ch n b (sg (i + 1)).2.1 ≤ 57))))) : ∀ (m k : Nat) (u : k_S) (i : Nat) (L C : List Int32) (N : Nat), k + m = kk → m + 1 < N → z_ws n b u i (L ++ C) → k_sat (k_itr bd N (J k) u) (fun y v => z_fr [1002, 1003] [11] u v ∧ ((z_lp (z_ch n b) os sg m i C).1 = true → (y = .inl 1 ∨ y = .inr ()) ∧ z_ws n b v (z_lp (z_ch n b) os sg m i C).2.1 (L ++ (z_lp (z_ch n b) os sg m i C).2.2)) ∧ ((z_lp (z_ch n b) os sg m i C).1 = false → z_wx n b v (z_lp (z_ch n b) os sg m i C).2.1 ∧ (y = .inl 0 ∨ ((y = .inl 1 ∨ y = .inr ()) ∧ 48 ≤ z_ch n b (z_lp (z_ch n b) os sg m i C).2.1 ∧ z_ch n b (z_lp (z_ch n b) os sg m i C).2.1 ≤ 57))))
  | 0, k, u, i, L, C, N, hk, hN, hs => by
    obtain ⟨M, rfl⟩ : ∃ M, N = M + 1 := ⟨N - 1, by omega⟩
    have hk : k = kk := hk
    subst hk
    refine z_exit (z_mono (hend u) (fun z v hv => ?_))
    obtain ⟨rfl, rfl⟩ := hv
    exact ⟨_, rfl, z_fr.rf, fun _ => ⟨Or.inr rfl, hs⟩, fun q => by cases q⟩
  | m + 1, k, u, i, L, C, N, hk, hN, hs => by
    obtain ⟨M, rfl⟩ : ∃ M, N = M + 1 := ⟨N - 1, by omega⟩
    rw [z_lp]
    by_cases hc : z_ch n b i ∈ os
    · rw [if_pos hc]
      obtain ⟨⟨z, v⟩, e, h1, h2, h3⟩ := hop k u i (L ++ C) (by omega) hs hc
      by_cases q : (sg (i + 1)).1 = true
      · rw [if_pos q]
        obtain ⟨rfl, h4⟩ := h2 q
        refine z_turn ?_
        rw [e]
        refine k_sat_mk ⟨_, rfl, ?_⟩
        dsimp only at h1 h4
        rw [z_J1]
        rw [List.append_assoc L, List.append_assoc L] at h4
        refine z_mono (z_loopW hdg hex hend hop m (k + 1) v _ L (C ++ (sg (i + 1)).2.2 ++ [-(J (z_ch n b i))]) M (by omega) (by omega) h4) (fun y w hw => ⟨h1.tr hw.1, hw.2⟩)
      · rw [if_neg q]
        obtain ⟨h4, h5⟩ := h3 (by cases hq : (sg (i + 1)).1; rfl; exact absurd hq q)
        dsimp only at h1 h4 h5
        rcases h5 with rfl | ⟨rfl, h5⟩
        · refine z_exit ?_
          rw [e]
          exact k_sat_mk ⟨_, rfl, h1, fun q' => (by cases q'), fun _ => ⟨h4, Or.inl rfl⟩⟩
        · refine z_turn ?_
          rw [e]
          refine k_sat_mk ⟨_, rfl, ?_⟩
          rw [z_J1]
          obtain ⟨M', rfl⟩ : ∃ M', M = M' + 1 := ⟨M - 1, by omega⟩
          by_cases hm : m = 0
          · have hk1 : k + 1 = kk := by omega
            rw [hk1]
            refine z_exit (z_mono (hend v) (fun z w hw => ?_))
            obtain ⟨rfl, rfl⟩ := hw
            exact ⟨_, rfl, h1, fun q' => (by cases q'), fun _ => ⟨h4, Or.inr ⟨Or.inr rfl, h5⟩⟩⟩
          · refine z_exit (z_mono (hex (k + 1) v _ (by omega) h4 (fun x => hdg _ x h5)) (fun z w hw => ?_))
            obtain ⟨rfl, rfl | rfl⟩ := hw
            · exact ⟨_, rfl, h1, fun q' => (by cases q'), fun _ => ⟨h4, Or.inr ⟨Or.inl rfl, h5⟩⟩⟩
            · exact ⟨_, rfl, h1, fun q' => (by cases q'), fun _ => ⟨h4, Or.inr ⟨Or.inr rfl, h5⟩⟩⟩
    · rw [if_neg hc]
      refine z_exit (z_mono (hex k u i (by omega) hs.1 hc) (fun z v hv => ?_))
      obtain ⟨rfl, rfl | rfl⟩ := hv
      · exact ⟨_, rfl, z_fr.rf, fun _ => ⟨Or.inl rfl, hs⟩, fun q => by cases q⟩
      · exact ⟨_, rfl, z_fr.rf, fun _ => ⟨Or.inr rfl, hs⟩, fun q => by cases q⟩
theorem z_lvW {n kk : Nat} {b : Nat → Nat} {os : List Nat} {sg : z_Pa} {f : k_S → Option (Int32 × k_S)} {bd : Int32 → k_S → Option ((Int32 ⊕ (Int32 ⊕ Unit)) × k_S)} (hf : z_PW n b f sg) (hkk : 0 < kk) (hkk2 : kk ≤ 120) (hdg : ∀ c, c ∈ os → ¬ (48 ≤ c ∧ c ≤ 57)) (hex : ∀ k u i, k < kk → z_wx n b u i → ¬ z_ch n b i ∈ os → k_sat (bd (J k) u) (fun z v => v = u ∧ (z = .inr (.inl 1) ∨ z = .inr (.inr ())))) (hend : ∀ u, k_sat (bd (J kk) u) (fun z v => v = u ∧ z = .inr (.inr ()))) (hop : ∀ k u i L, k < kk → z_ws n b u i L → z_ch n b i ∈ os → k_sat (bd (J k) u) (fun z v => z_fr [1002, 1003] [11] u v ∧ ((sg (i + 1)).1 = true → z = .inl (J k + Int32.ofInt 1) ∧ z_ws n b v (sg (i + 1)).2.1 (L ++ (sg (i + 1)).2.2 ++ [-(J (z_ch n b i))])) ∧ ((sg (i + 1)).1 = false → z_wx n b v (sg (i + 1)).2.1 ∧ (z = .inr (.inl 0) ∨ (z = .inl (J k + Int32.ofInt 1) ∧ 48 ≤ z_ch n b (sg (i + 1)).2.1 ∧ z_ch n b (sg (i + 1)).2.1 ≤ 57))))) : z_PW n b (fun u => k_bind (f u) (fun r2 u1 => if r2 = 0 then some (0, u1) else k_bind (k_itr bd k_FU 0 u1) (fun y u9 => k_cs y (fun r => some (r, u9)) (fun _ => some (1, u9))))) (z_lv (z_ch n b) os kk sg) := by
  intro u i L hs
  refine z_bind _ (hf u i L hs) (fun r v hv => ?_)
  obtain ⟨h1, h2, h3⟩ := hv
  unfold z_lv
  by_cases q : (sg i).1 = true
  · rw [if_pos q]
    obtain ⟨rfl, h4⟩ := h2 q
    refine z_neg (by decide) (z_bind _ (z_loopW hdg hex hend hop kk 0 v _ L (sg i).2.2 k_FU (by omega) (by unfold k_FU; omega) h4) (fun y w hw => ?_))
    obtain ⟨g1, g2, g3⟩ := hw
    cases hz : (z_lp (z_ch n b) os sg kk (sg i).2.1 (sg i).2.2).1 with
    | true =>
      obtain ⟨rfl | rfl, g4⟩ := g2 hz
      · simp only [k_cs]
        exact k_sat_mk ⟨h1.tr g1, fun _ => ⟨rfl, g4⟩, fun q => (by cases q)⟩
      · simp only [k_cs]
        exact k_sat_mk ⟨h1.tr g1, fun _ => ⟨rfl, g4⟩, fun q => (by cases q)⟩
    | false =>
      obtain ⟨g4, rfl | ⟨rfl | rfl, g5⟩⟩ := g3 hz
      · simp only [k_cs]
        exact k_sat_mk ⟨h1.tr g1, fun q => (by cases q), fun _ => ⟨g4, Or.inl rfl⟩⟩
      · simp only [k_cs]
        exact k_sat_mk ⟨h1.tr g1, fun q => (by cases q), fun _ => ⟨g4, Or.inr ⟨rfl, g5⟩⟩⟩
      · simp only [k_cs]
        exact k_sat_mk ⟨h1.tr g1, fun q => (by cases q), fun _ => ⟨g4, Or.inr ⟨rfl, g5⟩⟩⟩
  · rw [if_neg q]
    obtain ⟨h4, rfl | ⟨rfl, h5⟩⟩ := h3 (by cases hq : (sg i).1; rfl; exact absurd hq q)
    · exact z_pos rfl (k_sat_mk ⟨h1, fun q => (by cases q), fun _ => ⟨h4, Or.inl rfl⟩⟩)
    · refine z_neg (by decide) ?_
      rw [z_FU]
      refine z_bind (fun y w => w = v ∧ (y = .inl 1 ∨ y = .inr ())) (z_exit (z_mono (hex 0 v _ hkk h4 (fun x => hdg _ x h5)) (fun z w hw => ?_))) (fun y w hw => ?_)
      · obtain ⟨rfl, rfl | rfl⟩ := hw
        · exact ⟨_, rfl, rfl, Or.inl rfl⟩
        · exact ⟨_, rfl, rfl, Or.inr rfl⟩
      · obtain ⟨rfl, rfl | rfl⟩ := hw
        · simp only [k_cs]
          exact k_sat_mk ⟨h1, fun q => (by cases q), fun _ => ⟨h4, Or.inr ⟨rfl, h5⟩⟩⟩
        · simp only [k_cs]
          exact k_sat_mk ⟨h1, fun q => (by cases q), fun _ => ⟨h4, Or.inr ⟨rfl, h5⟩⟩⟩
/-! LAW: the class's levels -/
def z_hq (n : Nat) (b : Nat → Nat) (sg : z_Pa) (k : Nat) (L : List Int32) (i : Nat) (u : k_S) (s : Int32) (z : Int32 ⊕ (Int32 ⊕ Unit)) (v : k_S) : Prop := z_fr [1002, 1003] [11] u v ∧ ((sg (i + 1)).1 = true → z = .inl (J k + Int32.ofInt 1) ∧ z_ws n b v (sg (i + 1)).2.1 (L ++ (sg (i + 1)).2.2 ++ [s])) ∧ ((sg (i + 1)).1 = false → z_wx n b v (sg (i + 1)).2.1 ∧ (z = .inr (.inl 0) ∨ (z = .inl (J k + Int32.ofInt 1) ∧ 48 ≤ z_ch n b (sg (i + 1)).2.1 ∧ z_ch n b (sg (i + 1)).2.1 ≤ 57)))
theorem z_tailW {n i k : Nat} {b : Nat → Nat} {f : k_S → Option (Int32 × k_S)} {sg : z_Pa} {L : List Int32} {s : Int32} {u : k_S} (hn : n ≤ 120) (hf : z_PW n b f sg) (hg : z_gp n sg) (hi : i < n) (hs : z_ws n b u i L) : k_sat (k_bind (f (k_wF u 1003 (J (i + 1)))) (fun r7 u6 => if r7 = 0 then some ((.inr (.inl 0) : Int32 ⊕ (Int32 ⊕ Unit)), u6) else k_bind (f_Reader_add s u6) (fun _ u8 => some (.inl (J k + Int32.ofInt 1), u8)))) (z_hq n b sg k L i u s) := by
  have h0 : z_ws n b (k_wF u 1003 (J (i + 1))) (i + 1) L := ⟨(z_nx1 hs.1 hi).2, z_wcs_f hs.2.1 (by simp [k_wF]) rfl, by have := hs.2.2; omega⟩
  have hf0 : z_fr [1002, 1003] [11] u (k_wF u 1003 (J (i + 1))) := z_wF rfl
  obtain ⟨gp1, gp2, gp3⟩ := hg (i + 1) (by omega)
  refine z_bind _ (hf _ _ L h0) (fun r v hv => ?_)
  obtain ⟨h1, h2, h3⟩ := hv
  have h1 := hf0.tr h1
  cases q : (sg (i + 1)).1 with
  | true =>
    obtain ⟨rfl, h4⟩ := h2 q
    obtain ⟨-, gl, -, -⟩ := gp3 q
    have hl := hs.2.2
    refine z_neg (by decide) (z_bind _ (z_add (s := s) h4.2.1 (by rw [List.length_append]; omega)) (fun _ w hw => k_sat_mk ⟨h1.tr (hw.1.mono rfl rfl), fun _ => ⟨rfl, z_wx_f h4.1 (hw.1.mono rfl rfl) ((hw.1.1 1003 rfl).trans h4.1.2.2.2.1) h4.1.2.2.2.2, hw.2, ?_⟩, fun q' => absurd (q.symm.trans q') (by decide)⟩))
    rw [List.length_append, List.length_append, List.length_singleton]
    omega
  | false =>
    obtain ⟨h4, rfl | ⟨rfl, h5⟩⟩ := h3 q
    · exact z_pos rfl (k_sat_mk ⟨h1, fun q' => absurd (q.symm.trans q') (by decide), fun _ => ⟨h4, Or.inl rfl⟩⟩)
    · refine z_neg (by decide) (z_bind _ (z_addT s v) (fun _ w hw => k_sat_mk ⟨h1.tr (hw.mono rfl rfl), fun q' => absurd (q.symm.trans q') (by decide), fun _ => ⟨z_wx_f h4 (hw.mono rfl rfl) ((hw.1 1003 rfl).trans h4.2.2.2.1) h4.2.2.2.2, Or.inr ⟨rfl, h5⟩⟩⟩))
theorem z_mulW {n : Nat} {b : Nat → Nat} {rc : Int32 → k_S → Option (Int32 × k_S)} {p1 : Int32} {sg : z_Pa} (hn : n ≤ 120) (hf : z_PW n b (rc p1) sg) (hg : z_gp n sg) : z_PW n b (f_Reader_multiplied rc p1) (z_lv (z_ch n b) [42, 47, 37] 120 sg) := by
  refine z_lvW (bd := fun x u => f_Reader_multiplied_B12 rc p1 x u) hf (by omega) (by omega) (fun c hc => ?_) (fun k u i hk hx hc => ?_) (fun u => ?_) (fun k u i L hk hs hc => ?_)
  · simp only [List.mem_cons, List.not_mem_nil, or_false] at hc
    omega
  · obtain ⟨r, hr, hkk⟩ := z_at hx
    simp only [List.mem_cons, List.not_mem_nil, or_false] at hc
    unfold f_Reader_multiplied_B12
    rw [hr, z_bind_some]
    exact z_neg (by (try simp (disch := omega) only [Int32.lt_iff_toInt_lt, Int32.le_iff_toInt_le, ← Int32.toInt_inj, Int32.toInt_add, Int32.toInt_sub, Int32.toInt_mul, Int32.toInt_neg, z_bm, z_bm2, J_ti, J_toInt, z_cn, Int32.reduceToInt]) <;> omega) (z_neg (fun q => hc (Or.inl ((z_lk_eq hkk (k := 42) (by omega)).mp q))) (z_neg (fun q => hc (Or.inr (Or.inl ((z_lk_eq hkk (k := 47) (by omega)).mp q)))) (z_neg (fun q => hc (Or.inr (Or.inr ((z_lk_eq hkk (k := 37) (by omega)).mp q)))) (k_sat_mk ⟨rfl, Or.inl rfl⟩))))
  · unfold f_Reader_multiplied_B12
    exact z_pos (Int32.le_refl _) (k_sat_mk ⟨rfl, rfl⟩)
  · obtain ⟨r, hr, hkk⟩ := z_at hs.1
    have hi : i < n := z_ch_n (b := b) (fun q => by rw [q] at hc; simp at hc)
    simp only [List.mem_cons, List.not_mem_nil, or_false] at hc
    have er : r = J (z_ch n b i) := z_lk_J hkk (by omega)
    unfold f_Reader_multiplied_B12
    rw [hr, z_bind_some]
    have key : k_sat (f_Reader_multiplied_J50 rc p1 (J k) r u) (z_hq n b sg k L i u (-(J (z_ch n b i)))) := by
      unfold f_Reader_multiplied_J50
      rw [(z_nx1 hs.1 hi).1, er]
      exact z_let (z_tailW hn hf hg hi hs)
    refine z_neg (by (try simp (disch := omega) only [Int32.lt_iff_toInt_lt, Int32.le_iff_toInt_le, ← Int32.toInt_inj, Int32.toInt_add, Int32.toInt_sub, Int32.toInt_mul, Int32.toInt_neg, z_bm, z_bm2, J_ti, J_toInt, z_cn, Int32.reduceToInt]) <;> omega) (z_ite (fun _ => key) (fun q1 => z_ite (fun _ => key) (fun q2 => z_ite (fun _ => key) (fun q3 => ?_))))
    rcases hc with c | c | c
    · exact absurd ((z_lk_eq hkk (k := 42) (by omega)).mpr c) q1
    · exact absurd ((z_lk_eq hkk (k := 47) (by omega)).mpr c) q2
    · exact absurd ((z_lk_eq hkk (k := 37) (by omega)).mpr c) q3
theorem z_sumW {n : Nat} {b : Nat → Nat} {rc : Int32 → k_S → Option (Int32 × k_S)} {p1 : Int32} {sg : z_Pa} (hn : n ≤ 120) (hf : z_PW n b (f_Reader_multiplied rc p1) sg) (hg : z_gp n sg) : z_PW n b (f_Reader_summed rc p1) (z_lv (z_ch n b) [43, 45] 120 sg) := by
  refine z_lvW (bd := fun x u => f_Reader_summed_B12 rc p1 x u) hf (by omega) (by omega) (fun c hc => ?_) (fun k u i hk hx hc => ?_) (fun u => ?_) (fun k u i L hk hs hc => ?_)
  · simp only [List.mem_cons, List.not_mem_nil, or_false] at hc
    omega
  · obtain ⟨r, hr, hkk⟩ := z_at hx
    simp only [List.mem_cons, List.not_mem_nil, or_false] at hc
    unfold f_Reader_summed_B12
    rw [hr, z_bind_some]
    exact z_neg (by (try simp (disch := omega) only [Int32.lt_iff_toInt_lt, Int32.le_iff_toInt_le, ← Int32.toInt_inj, Int32.toInt_add, Int32.toInt_sub, Int32.toInt_mul, Int32.toInt_neg, z_bm, z_bm2, J_ti, J_toInt, z_cn, Int32.reduceToInt]) <;> omega) (z_neg (fun q => hc (Or.inl ((z_lk_eq hkk (k := 43) (by omega)).mp q))) (z_neg (fun q => hc (Or.inr ((z_lk_eq hkk (k := 45) (by omega)).mp q))) (k_sat_mk ⟨rfl, Or.inl rfl⟩)))
  · unfold f_Reader_summed_B12
    exact z_pos (Int32.le_refl _) (k_sat_mk ⟨rfl, rfl⟩)
  · obtain ⟨r, hr, hkk⟩ := z_at hs.1
    have hi : i < n := z_ch_n (b := b) (fun q => by rw [q] at hc; simp at hc)
    simp only [List.mem_cons, List.not_mem_nil, or_false] at hc
    have er : r = J (z_ch n b i) := z_lk_J hkk (by omega)
    unfold f_Reader_summed_B12
    rw [hr, z_bind_some]
    have key : k_sat (f_Reader_summed_J44 rc p1 (J k) r u) (z_hq n b sg k L i u (-(J (z_ch n b i)))) := by
      unfold f_Reader_summed_J44
      rw [(z_nx1 hs.1 hi).1, er]
      exact z_let (z_tailW hn hf hg hi hs)
    refine z_neg (by (try simp (disch := omega) only [Int32.lt_iff_toInt_lt, Int32.le_iff_toInt_le, ← Int32.toInt_inj, Int32.toInt_add, Int32.toInt_sub, Int32.toInt_mul, Int32.toInt_neg, z_bm, z_bm2, J_ti, J_toInt, z_cn, Int32.reduceToInt]) <;> omega) (z_ite (fun _ => key) (fun q1 => z_ite (fun _ => key) (fun q2 => ?_)))
    rcases hc with c | c
    · exact absurd ((z_lk_eq hkk (k := 43) (by omega)).mpr c) q1
    · exact absurd ((z_lk_eq hkk (k := 45) (by omega)).mpr c) q2
theorem z_cmpW {n : Nat} {b : Nat → Nat} {rc : Int32 → k_S → Option (Int32 × k_S)} {p1 : Int32} {sg : z_Pa} (hn : n ≤ 120) (hf : z_PW n b (f_Reader_summed rc p1) sg) (hg : z_gp n sg) : z_PW n b (f_Reader_compared rc p1) (z_lv (z_ch n b) [60, 61, 62] 1 sg) := by
  intro u i L hs
  obtain ⟨gp1, gp2, gp3⟩ := hg i hs.1.2.2.2.2
  unfold f_Reader_compared
  refine z_bind _ (hf u i L hs) (fun r v hv => ?_)
  obtain ⟨h1, h2, h3⟩ := hv
  unfold z_lv
  by_cases q : (sg i).1 = true
  · rw [if_pos q]
    obtain ⟨rfl, h4⟩ := h2 q
    refine z_neg (by decide) ?_
    generalize hj : (sg i).2.1 = j at *
    obtain ⟨r, hr, hkk⟩ := z_at h4.1
    rw [hr, z_bind_some, z_lp]
    by_cases hc : z_ch n b j ∈ [60, 61, 62]
    · rw [if_pos hc]
      have hi : j < n := z_ch_n (b := b) (fun q => by rw [q] at hc; simp at hc)
      simp only [List.mem_cons, List.not_mem_nil, or_false] at hc
      have er : r = J (z_ch n b j) := z_lk_J hkk (by omega)
      have h0 : z_ws n b (k_wF v 1003 (J (j + 1))) (j + 1) (L ++ (sg i).2.2) := ⟨(z_nx1 h4.1 hi).2, z_wcs_f h4.2.1 (by simp [k_wF]) rfl, by have := h4.2.2; omega⟩
      have hf0 : z_fr [1002, 1003] [11] v (k_wF v 1003 (J (j + 1))) := z_wF rfl
      obtain ⟨gp4, gp5, gp6⟩ := hg (j + 1) (by omega)
      have key : k_sat (f_Reader_compared_J42 rc p1 r v) (fun r v' => z_fr [1002, 1003] [11] v v' ∧ ((sg (j + 1)).1 = true → r = 1 ∧ z_ws n b v' (sg (j + 1)).2.1 (L ++ ((sg i).2.2 ++ (sg (j + 1)).2.2 ++ [-(J (z_ch n b j))]))) ∧ ((sg (j + 1)).1 = false → z_wx n b v' (sg (j + 1)).2.1 ∧ (r = 0 ∨ (r = 1 ∧ 48 ≤ z_ch n b (sg (j + 1)).2.1 ∧ z_ch n b (sg (j + 1)).2.1 ≤ 57)))) := by
        unfold f_Reader_compared_J42
        rw [(z_nx1 h4.1 hi).1, er]
        refine z_let (z_bind _ (hf _ _ _ h0) (fun r2 w hw => ?_))
        obtain ⟨k1, k2, k3⟩ := hw
        have k1 := hf0.tr k1
        cases q2 : (sg (j + 1)).1 with
        | true =>
          obtain ⟨rfl, k4⟩ := k2 q2
          obtain ⟨-, gl, -, -⟩ := gp6 q2
          have hl := h4.2.2
          refine z_neg (by decide) (z_bind _ (z_add (s := -(J (z_ch n b j))) k4.2.1 (by rw [List.length_append]; omega)) (fun _ x hx => k_sat_mk ⟨k1.tr (hx.1.mono rfl rfl), fun _ => ⟨rfl, z_wx_f k4.1 (hx.1.mono rfl rfl) ((hx.1.1 1003 rfl).trans k4.1.2.2.2.1) k4.1.2.2.2.2, ?_, ?_⟩, fun q => (by cases q)⟩))
          · rw [← List.append_assoc, ← List.append_assoc]
            exact hx.2
          · rw [← List.append_assoc, ← List.append_assoc, List.length_append, List.length_append, List.length_singleton]
            omega
        | false =>
          obtain ⟨k4, rfl | ⟨rfl, k5⟩⟩ := k3 q2
          · exact z_pos rfl (k_sat_mk ⟨k1, fun q => (by cases q), fun _ => ⟨k4, Or.inl rfl⟩⟩)
          · refine z_neg (by decide) (z_bind _ (z_addT _ w) (fun _ x hx => k_sat_mk ⟨k1.tr (hx.mono rfl rfl), fun q => (by cases q), fun _ => ⟨z_wx_f k4 (hx.mono rfl rfl) ((hx.1 1003 rfl).trans k4.2.2.2.1) k4.2.2.2.2, Or.inr ⟨rfl, k5⟩⟩⟩))
      have fin : k_sat (f_Reader_compared_J42 rc p1 r v) _ := z_mono key (fun r' v' hv' => (⟨h1.tr hv'.1, fun q' => ?_, fun q' => ?_⟩ : z_fr [1002, 1003] [11] u v' ∧ ((if (sg (j + 1)).1 = true then z_lp (z_ch n b) [60, 61, 62] sg 0 (sg (j + 1)).2.1 ((sg i).2.2 ++ (sg (j + 1)).2.2 ++ [-(J (z_ch n b j))]) else (false, (sg (j + 1)).2.1, [])).1 = true → r' = 1 ∧ z_ws n b v' (if (sg (j + 1)).1 = true then z_lp (z_ch n b) [60, 61, 62] sg 0 (sg (j + 1)).2.1 ((sg i).2.2 ++ (sg (j + 1)).2.2 ++ [-(J (z_ch n b j))]) else (false, (sg (j + 1)).2.1, [])).2.1 (L ++ (if (sg (j + 1)).1 = true then z_lp (z_ch n b) [60, 61, 62] sg 0 (sg (j + 1)).2.1 ((sg i).2.2 ++ (sg (j + 1)).2.2 ++ [-(J (z_ch n b j))]) else (false, (sg (j + 1)).2.1, [])).2.2) ) ∧ ((if (sg (j + 1)).1 = true then z_lp (z_ch n b) [60, 61, 62] sg 0 (sg (j + 1)).2.1 ((sg i).2.2 ++ (sg (j + 1)).2.2 ++ [-(J (z_ch n b j))]) else (false, (sg (j + 1)).2.1, [])).1 = false → z_wx n b v' (if (sg (j + 1)).1 = true then z_lp (z_ch n b) [60, 61, 62] sg 0 (sg (j + 1)).2.1 ((sg i).2.2 ++ (sg (j + 1)).2.2 ++ [-(J (z_ch n b j))]) else (false, (sg (j + 1)).2.1, [])).2.1 ∧ (r' = 0 ∨ (r' = 1 ∧ 48 ≤ z_ch n b (if (sg (j + 1)).1 = true then z_lp (z_ch n b) [60, 61, 62] sg 0 (sg (j + 1)).2.1 ((sg i).2.2 ++ (sg (j + 1)).2.2 ++ [-(J (z_ch n b j))]) else (false, (sg (j + 1)).2.1, [])).2.1 ∧ z_ch n b (if (sg (j + 1)).1 = true then z_lp (z_ch n b) [60, 61, 62] sg 0 (sg (j + 1)).2.1 ((sg i).2.2 ++ (sg (j + 1)).2.2 ++ [-(J (z_ch n b j))]) else (false, (sg (j + 1)).2.1, [])).2.1 ≤ 57)))))
      · refine z_ite (fun _ => fin) (fun q1 => z_ite (fun _ => fin) (fun q2 => z_ite (fun _ => fin) (fun q3 => ?_)))
        rcases hc with c | c | c
        · exact absurd ((z_lk_eq hkk (k := 60) (by omega)).mpr c) q1
        · exact absurd ((z_lk_eq hkk (k := 61) (by omega)).mpr c) q2
        · exact absurd ((z_lk_eq hkk (k := 62) (by omega)).mpr c) q3
      · cases q2 : (sg (j + 1)).1 with
        | true => rw [if_pos rfl, z_lp]; exact hv'.2.1 q2
        | false => rw [q2, if_neg (by decide)] at q'; cases q'
      · cases q2 : (sg (j + 1)).1 with
        | true => rw [q2, if_pos rfl, z_lp] at q'; cases q'
        | false => rw [if_neg (by decide)]; exact hv'.2.2 q2
    · rw [if_neg hc]
      simp only [List.mem_cons, List.not_mem_nil, or_false] at hc
      exact z_neg (fun q => hc (Or.inl ((z_lk_eq hkk (k := 60) (by omega)).mp q))) (z_neg (fun q => hc (Or.inr (Or.inl ((z_lk_eq hkk (k := 61) (by omega)).mp q)))) (z_neg (fun q => hc (Or.inr (Or.inr ((z_lk_eq hkk (k := 62) (by omega)).mp q)))) (k_sat_mk ⟨h1, fun _ => ⟨rfl, h4⟩, fun q => (by cases q)⟩)))
  · rw [if_neg q]
    obtain ⟨h4, rfl | ⟨rfl, h5⟩⟩ := h3 (by cases hq : (sg i).1; rfl; exact absurd hq q)
    · exact z_pos rfl (k_sat_mk ⟨h1, fun q => (by cases q), fun _ => ⟨h4, Or.inl rfl⟩⟩)
    · obtain ⟨r, hr, hkk⟩ := z_at h4
      rw [hr, z_bind_some]
      refine z_neg (by decide) (z_neg (fun q => ?_) (z_neg (fun q => ?_) (z_neg (fun q => ?_) (k_sat_mk ⟨h1, fun q => (by cases q), fun _ => ⟨h4, Or.inr ⟨rfl, h5⟩⟩⟩))))
      · have := (z_lk_eq hkk (k := 60) (by omega)).mp q; omega
      · have := (z_lk_eq hkk (k := 61) (by omega)).mp q; omega
      · have := (z_lk_eq hkk (k := 62) (by omega)).mp q; omega
/-! LAW: the class's levels with a named sign; numbers; single expressions -/
theorem z_botW {n : Nat} {b : Nat → Nat} {rc : Int32 → k_S → Option (Int32 × k_S)} {p1 : Int32} {sg : z_Pa} (hn : n ≤ 120) (hf : z_PW n b (f_Reader_compared rc p1) sg) (hg : z_gp n sg) : z_PW n b (f_Reader_both rc p1) (z_lv (z_ch n b) [38] 120 sg) := by
  refine z_lvW (bd := fun x u => f_Reader_both_B12 rc p1 x u) hf (by omega) (by omega) (fun c hc => ?_) (fun k u i hk hx hc => ?_) (fun u => ?_) (fun k u i L hk hs hc => ?_)
  · simp only [List.mem_cons, List.not_mem_nil, or_false] at hc
    omega
  · simp only [List.mem_cons, List.not_mem_nil, or_false] at hc
    have hp := z_passes hx (c := 38) (by omega)
    rw [if_neg hc] at hp
    unfold f_Reader_both_B12
    rw [show f_Reader_passes 38 u = some (0, u) from hp, z_bind_some]
    exact z_neg (by (try simp (disch := omega) only [Int32.lt_iff_toInt_lt, Int32.le_iff_toInt_le, ← Int32.toInt_inj, Int32.toInt_add, Int32.toInt_sub, Int32.toInt_mul, Int32.toInt_neg, z_bm, z_bm2, J_ti, J_toInt, z_cn, Int32.reduceToInt]) <;> omega) (z_pos rfl (k_sat_mk ⟨rfl, Or.inr rfl⟩))
  · unfold f_Reader_both_B12
    exact z_pos (Int32.le_refl _) (k_sat_mk ⟨rfl, rfl⟩)
  · have hi : i < n := z_ch_n (b := b) (fun q => by rw [q] at hc; simp at hc)
    simp only [List.mem_cons, List.not_mem_nil, or_false] at hc
    have hp := z_passes hs.1 (c := 38) (by omega)
    rw [if_pos hc] at hp
    unfold f_Reader_both_B12
    rw [show f_Reader_passes 38 u = some (1, k_wF u 1003 (J (i + 1))) from hp, z_bind_some, hc]
    exact z_neg (by (try simp (disch := omega) only [Int32.lt_iff_toInt_lt, Int32.le_iff_toInt_le, ← Int32.toInt_inj, Int32.toInt_add, Int32.toInt_sub, Int32.toInt_mul, Int32.toInt_neg, z_bm, z_bm2, J_ti, J_toInt, z_cn, Int32.reduceToInt]) <;> omega) (z_neg (by decide) (z_tailW hn hf hg hi hs))
theorem z_eitW {n : Nat} {b : Nat → Nat} {rc : Int32 → k_S → Option (Int32 × k_S)} {p1 : Int32} {sg : z_Pa} (hn : n ≤ 120) (hf : z_PW n b (f_Reader_both rc p1) sg) (hg : z_gp n sg) : z_PW n b (f_Reader_either rc p1) (z_lv (z_ch n b) [124] 120 sg) := by
  refine z_lvW (bd := fun x u => f_Reader_either_B12 rc p1 x u) hf (by omega) (by omega) (fun c hc => ?_) (fun k u i hk hx hc => ?_) (fun u => ?_) (fun k u i L hk hs hc => ?_)
  · simp only [List.mem_cons, List.not_mem_nil, or_false] at hc
    omega
  · simp only [List.mem_cons, List.not_mem_nil, or_false] at hc
    have hp := z_passes hx (c := 124) (by omega)
    rw [if_neg hc] at hp
    unfold f_Reader_either_B12
    rw [show f_Reader_passes 124 u = some (0, u) from hp, z_bind_some]
    exact z_neg (by (try simp (disch := omega) only [Int32.lt_iff_toInt_lt, Int32.le_iff_toInt_le, ← Int32.toInt_inj, Int32.toInt_add, Int32.toInt_sub, Int32.toInt_mul, Int32.toInt_neg, z_bm, z_bm2, J_ti, J_toInt, z_cn, Int32.reduceToInt]) <;> omega) (z_pos rfl (k_sat_mk ⟨rfl, Or.inr rfl⟩))
  · unfold f_Reader_either_B12
    exact z_pos (Int32.le_refl _) (k_sat_mk ⟨rfl, rfl⟩)
  · have hi : i < n := z_ch_n (b := b) (fun q => by rw [q] at hc; simp at hc)
    simp only [List.mem_cons, List.not_mem_nil, or_false] at hc
    have hp := z_passes hs.1 (c := 124) (by omega)
    rw [if_pos hc] at hp
    unfold f_Reader_either_B12
    rw [show f_Reader_passes 124 u = some (1, k_wF u 1003 (J (i + 1))) from hp, z_bind_some, hc]
    exact z_neg (by (try simp (disch := omega) only [Int32.lt_iff_toInt_lt, Int32.le_iff_toInt_le, ← Int32.toInt_inj, Int32.toInt_add, Int32.toInt_sub, Int32.toInt_mul, Int32.toInt_neg, z_bm, z_bm2, J_ti, J_toInt, z_cn, Int32.reduceToInt]) <;> omega) (z_neg (by decide) (z_tailW hn hf hg hi hs))
theorem z_mo {os : List Nat} (h : ∀ c, c ∈ os → c = 124 ∨ c = 38 ∨ c = 60 ∨ c = 61 ∨ c = 62 ∨ c = 43 ∨ c = 45 ∨ c = 42 ∨ c = 47 ∨ c = 37) : ∀ c, c ∈ os → c ∈ z_ops := by
  intro c hc
  have := h c hc
  unfold z_ops
  simp only [List.mem_cons, List.not_mem_nil, or_false]
  omega
theorem z_eiW {n : Nat} {b : Nat → Nat} {rc : Int32 → k_S → Option (Int32 × k_S)} {p1 : Int32} {sg : z_Pa} (hn : n ≤ 120) (hf : z_PW n b (rc p1) sg) (hg : z_gp n sg) : z_PW n b (f_Reader_either rc p1) (z_ei (z_ch n b) sg) := by
  have m1 : ∀ c, c ∈ [42, 47, 37] → c ∈ z_ops := z_mo (fun c hc => by simp only [List.mem_cons, List.not_mem_nil, or_false] at hc; omega)
  have m2 : ∀ c, c ∈ [43, 45] → c ∈ z_ops := z_mo (fun c hc => by simp only [List.mem_cons, List.not_mem_nil, or_false] at hc; omega)
  have m3 : ∀ c, c ∈ [60, 61, 62] → c ∈ z_ops := z_mo (fun c hc => by simp only [List.mem_cons, List.not_mem_nil, or_false] at hc; omega)
  have m4 : ∀ c, c ∈ [38] → c ∈ z_ops := z_mo (fun c hc => by simp only [List.mem_cons, List.not_mem_nil, or_false] at hc; omega)
  have g1 := z_lv_g (k := 120) (b := b) hg m1
  have g2 := z_lv_g (k := 120) (b := b) g1 m2
  have g3 := z_lv_g (k := 1) (b := b) g2 m3
  have g4 := z_lv_g (k := 120) (b := b) g3 m4
  exact z_eitW hn (z_botW hn (z_cmpW hn (z_sumW hn (z_mulW hn hf hg) g1) g2) g3) g4
theorem z_numW {n : Nat} {b : Nat → Nat} : ∀ (m k : Nat) (i v : Nat) (u : k_S) (N : Nat), k + m = 4 → m < N → z_wx n b u i → v < 10 ^ k → k_sat (k_itr (fun (x : (Int32 × Int32)) u => f_Reader_number_B4 x.1 x.2 u) N (J v, J k) u) (fun y w => z_fr [1003] [] u w ∧ y = J (z_nm (z_ch n b) m i v).2 ∧ z_wx n b w (z_nm (z_ch n b) m i v).1)
  | 0, k, i, v, u, N, hk, hN, hx, hv => by
    obtain ⟨M, rfl⟩ : ∃ M, N = M + 1 := ⟨N - 1, by omega⟩
    refine z_exit ?_
    unfold f_Reader_number_B4
    dsimp only
    exact z_pos (by (try simp (disch := omega) only [Int32.lt_iff_toInt_lt, Int32.le_iff_toInt_le, ← Int32.toInt_inj, Int32.toInt_add, Int32.toInt_sub, Int32.toInt_mul, Int32.toInt_neg, z_bm, z_bm2, J_ti, J_toInt, z_cn, Int32.reduceToInt]) <;> omega) (k_sat_mk ⟨_, rfl, z_fr.rf, rfl, hx⟩)
  | m + 1, k, i, v, u, N, hk, hN, hx, hv => by
    obtain ⟨M, rfl⟩ : ∃ M, N = M + 1 := ⟨N - 1, by omega⟩
    obtain ⟨r, hr, hkk⟩ := z_at hx
    have hv4 : v < 10000 := Nat.lt_of_lt_of_le hv (Nat.pow_le_pow_right (n := 10) (by omega) (show k ≤ 4 by omega))
    rw [z_nm]
    by_cases q : 48 ≤ z_ch n b i ∧ z_ch n b i ≤ 57
    · rw [if_pos q]
      have hi : i < n := z_ch_n (b := b) (by omega)
      have er : r = J (z_ch n b i) := z_lk_J hkk (by omega)
      refine z_turn ?_
      unfold f_Reader_number_B4
      dsimp only
      rw [hr, z_bind_some, z_digW hkk, z_bind_some, if_pos q, hr, z_bind_some, er]
      have e10 : ((10 * J v) + J (z_ch n b i)) - 48 = J (10 * v + z_ch n b i - 48) := by
        rw [z_ten, show (48 : Int32) = J 48 from rfl, J_sub (by omega)]
      rw [e10, (z_nx1 hx hi).1]
      refine z_neg (by (try simp (disch := omega) only [Int32.lt_iff_toInt_lt, Int32.le_iff_toInt_le, ← Int32.toInt_inj, Int32.toInt_add, Int32.toInt_sub, Int32.toInt_mul, Int32.toInt_neg, z_bm, z_bm2, J_ti, J_toInt, z_cn, Int32.reduceToInt]) <;> omega) (z_neg (by decide) (z_let (z_let (k_sat_mk ⟨_, rfl, ?_⟩))))
      rw [z_J1]
      refine z_mono (z_numW m (k + 1) (i + 1) _ _ M (by omega) (by omega) (z_nx1 hx hi).2 (by rw [Nat.pow_succ]; omega)) (fun y w hw => ⟨(z_wF rfl : z_fr [1003] [] u _).tr hw.1, hw.2⟩)
    · rw [if_neg q]
      refine z_exit ?_
      unfold f_Reader_number_B4
      dsimp only
      rw [hr, z_bind_some, z_digW hkk, z_bind_some, if_neg q]
      exact z_neg (by (try simp (disch := omega) only [Int32.lt_iff_toInt_lt, Int32.le_iff_toInt_le, ← Int32.toInt_inj, Int32.toInt_add, Int32.toInt_sub, Int32.toInt_mul, Int32.toInt_neg, z_bm, z_bm2, J_ti, J_toInt, z_cn, Int32.reduceToInt]) <;> omega) (z_pos rfl (k_sat_mk ⟨_, rfl, z_fr.rf, rfl, hx⟩))
theorem z_sinW {n d : Nat} {b : Nat → Nat} {rc : Int32 → k_S → Option (Int32 × k_S)} {o : Option z_Pa} (hn : n ≤ 120) (hd : d ≤ 6) (h0 : d = 0 → o = none) (h1 : 0 < d → ∃ sg, o = some sg ∧ z_gp n sg ∧ z_PW n b (rc (J (6 - d + 1))) sg) : z_PW n b (f_Reader_single rc (J (6 - d))) (z_s1 (z_ch n b) o) := by
  intro u i L hs
  have hl := hs.2.2
  obtain ⟨r, hr, hkk⟩ := z_at hs.1
  unfold f_Reader_single z_s1
  rw [hr, z_bind_some, z_digW hkk, z_bind_some]
  by_cases q1 : 48 ≤ z_ch n b i ∧ z_ch n b i ≤ 57
  · have hnm : (z_nm (z_ch n b) 4 i 0).1 = (z_nm (z_ch n b) 3 (i + 1) (10 * 0 + z_ch n b i - 48)).1 := by rw [z_nm, if_pos q1]
    have hin : i < n := z_ch_n (b := b) (by omega)
    have hgm := z_nm_g (n := n) (b := b) 3 (i + 1) (10 * 0 + z_ch n b i - 48) (by omega)
    rw [if_pos q1, if_pos q1]
    refine z_neg (by decide) ?_
    unfold f_Reader_number f_Reader_number_J62
    have hnum : k_sat (k_itr (fun (x : (Int32 × Int32)) u => f_Reader_number_B4 x.1 x.2 u) k_FU (0, 0) u) _ := z_numW 4 0 i 0 u k_FU rfl (by unfold k_FU; omega) hs.1 (by decide)
    by_cases q2 : 48 ≤ z_ch n b (z_nm (z_ch n b) 4 i 0).1 ∧ z_ch n b (z_nm (z_ch n b) 4 i 0).1 ≤ 57
    · rw [if_pos q2]
      refine z_bind (fun _ w => z_fr [1002, 1003] [11] u w ∧ z_wx n b w (z_nm (z_ch n b) 4 i 0).1) (z_bind _ hnum (fun y w hw => z_bind _ (z_addT y w) (fun _ x hx => k_sat_mk ⟨(hw.1.mono rfl rfl).tr (hx.mono rfl rfl), ?_⟩))) (fun _ w hw => k_sat_mk ⟨hw.1, fun q => (by cases q), fun _ => ⟨hw.2, Or.inr ⟨rfl, q2⟩⟩⟩)
      exact z_wx_f hw.2.2 (hx.mono rfl rfl) ((hx.1 1003 rfl).trans hw.2.2.2.2.2.1) hw.2.2.2.2.2.2
    · rw [if_neg q2]
      refine z_bind (fun _ w => z_fr [1002, 1003] [11] u w ∧ z_wx n b w (z_nm (z_ch n b) 4 i 0).1 ∧ z_wcs w (L ++ [J (z_nm (z_ch n b) 4 i 0).2])) (z_bind _ hnum (fun y w hw => ?_)) (fun _ w hw => k_sat_mk ⟨hw.1, fun _ => ⟨rfl, hw.2.1, hw.2.2, ?_⟩, fun q => (by cases q)⟩)
      · obtain ⟨g1, rfl, g2⟩ := hw
        refine z_bind _ (z_add (z_wcs_f hs.2.1 (g1.1 1002 rfl) (g1.2.1 11 rfl)) (by omega)) (fun _ x hx => k_sat_mk ⟨(g1.mono rfl rfl).tr (hx.1.mono rfl rfl), ?_, hx.2⟩)
        exact z_wx_f g2 (hx.1.mono rfl rfl) ((hx.1.1 1003 rfl).trans g2.2.2.2.1) g2.2.2.2.2
      · dsimp only
        rw [List.length_append, List.length_singleton, hnm]
        omega
  rw [if_neg q1, if_neg q1]
  refine z_pos rfl ?_
  by_cases q2 : z_ch n b i = 116 ∨ z_ch n b i = 112 ∨ z_ch n b i = 107 ∨ z_ch n b i = 122
  · have hin : i < n := z_ch_n (b := b) (by omega)
    have er : r = J (z_ch n b i) := z_lk_J hkk (by omega)
    rw [if_pos q2]
    have key : k_sat (f_Reader_single_J49 rc r u) (fun r' v => z_fr [1002, 1003] [11] u v ∧ ((true, i + 1, [-(J (z_ch n b i))]).1 = true → r' = 1 ∧ z_ws n b v (true, i + 1, [-(J (z_ch n b i))]).2.1 (L ++ (true, i + 1, [-(J (z_ch n b i))]).2.2)) ∧ ((true, i + 1, [-(J (z_ch n b i))]).1 = false → z_wx n b v (true, i + 1, [-(J (z_ch n b i))]).2.1 ∧ (r' = 0 ∨ (r' = 1 ∧ 48 ≤ z_ch n b (true, i + 1, [-(J (z_ch n b i))]).2.1 ∧ z_ch n b (true, i + 1, [-(J (z_ch n b i))]).2.1 ≤ 57)))) := by
      unfold f_Reader_single_J49
      rw [(z_nx1 hs.1 hin).1, er]
      have hw := (z_nx1 hs.1 hin).2
      refine z_let (z_bind _ (z_add (s := -(J (z_ch n b i))) (z_wcs_f (v := k_wF u 1003 (J (i + 1))) hs.2.1 (by simp [k_wF]) rfl) (by omega)) (fun _ x hx => k_sat_mk ⟨(z_wF rfl).tr (hx.1.mono rfl rfl), fun _ => ⟨rfl, ?_, hx.2, ?_⟩, fun q => (by cases q)⟩))
      · exact z_wx_f hw (hx.1.mono rfl rfl) ((hx.1.1 1003 rfl).trans hw.2.2.2.1) hw.2.2.2.2
      · dsimp only
        rw [List.length_append, List.length_singleton]
        omega
    refine z_ite (fun _ => key) (fun c1 => z_ite (fun _ => key) (fun c2 => z_ite (fun _ => key) (fun c3 => z_ite (fun _ => key) (fun c4 => ?_))))
    rcases q2 with c | c | c | c
    · exact absurd ((z_lk_eq hkk (k := 116) (by omega)).mpr c) c1
    · exact absurd ((z_lk_eq hkk (k := 112) (by omega)).mpr c) c2
    · exact absurd ((z_lk_eq hkk (k := 107) (by omega)).mpr c) c3
    · exact absurd ((z_lk_eq hkk (k := 122) (by omega)).mpr c) c4
  rw [if_neg q2]
  refine z_neg (fun x => q2 (Or.inl ((z_lk_eq hkk (k := 116) (by omega)).mp x))) (z_neg (fun x => q2 (Or.inr (Or.inl ((z_lk_eq hkk (k := 112) (by omega)).mp x)))) (z_neg (fun x => q2 (Or.inr (Or.inr (Or.inl ((z_lk_eq hkk (k := 107) (by omega)).mp x))))) (z_neg (fun x => q2 (Or.inr (Or.inr (Or.inr ((z_lk_eq hkk (k := 122) (by omega)).mp x))))) ?_)))
  by_cases hd0 : d = 0
  · rw [h0 hd0]
    dsimp only
    have key : k_sat (f_Reader_single_J87 rc (J (6 - d)) r u) (fun r' v => z_fr [1002, 1003] [11] u v ∧ (false = true → r' = 1 ∧ z_ws n b v i (L ++ [])) ∧ (false = false → z_wx n b v i ∧ (r' = 0 ∨ (r' = 1 ∧ 48 ≤ z_ch n b i ∧ z_ch n b i ≤ 57)))) := by
      unfold f_Reader_single_J87
      exact z_neg (by (try simp (disch := omega) only [Int32.lt_iff_toInt_lt, Int32.le_iff_toInt_le, ← Int32.toInt_inj, Int32.toInt_add, Int32.toInt_sub, Int32.toInt_mul, Int32.toInt_neg, z_bm, z_bm2, J_ti, J_toInt, z_cn, Int32.reduceToInt]) <;> omega) (k_sat_mk ⟨z_fr.rf, fun q => (by cases q), fun _ => ⟨hs.1, Or.inl rfl⟩⟩)
    exact z_ite (fun _ => key) (fun _ => z_ite (fun _ => key) (fun _ => z_ite (fun _ => key) (fun _ => k_sat_mk ⟨z_fr.rf, fun q => (by cases q), fun _ => ⟨hs.1, Or.inl rfl⟩⟩)))
  obtain ⟨sg, rfl, hg, hrc⟩ := h1 (by omega)
  dsimp only
  by_cases q3 : z_ch n b i = 40
  · rw [if_pos q3]
    have hin : i < n := z_ch_n (b := b) (by omega)
    have h0' : z_ws n b (k_wF u 1003 (J (i + 1))) (i + 1) L := ⟨(z_nx1 hs.1 hin).2, z_wcs_f hs.2.1 (by simp [k_wF]) rfl, by omega⟩
    have hf0 : z_fr [1002, 1003] [11] u (k_wF u 1003 (J (i + 1))) := z_wF rfl
    obtain ⟨-, gp2, gp3⟩ := z_ei_g (b := b) hg (i + 1) (by omega)
    refine z_pos ((z_lk_eq hkk (k := 40) (by omega)).mpr q3) ?_
    unfold f_Reader_single_J87
    rw [(z_nx1 hs.1 hin).1, z_Jp]
    refine z_pos (by (try simp (disch := omega) only [Int32.lt_iff_toInt_lt, Int32.le_iff_toInt_le, ← Int32.toInt_inj, Int32.toInt_add, Int32.toInt_sub, Int32.toInt_mul, Int32.toInt_neg, z_bm, z_bm2, J_ti, J_toInt, z_cn, Int32.reduceToInt]) <;> omega) (z_let (z_pos ((z_lk_eq hkk (k := 40) (by omega)).mpr q3) (z_bind _ (z_eiW hn hrc hg _ _ _ h0') (fun r2 v hv => ?_))))
    obtain ⟨g1, g2, g3⟩ := hv
    have g1 := hf0.tr g1
    cases q4 : (z_ei (z_ch n b) sg (i + 1)).1 with
    | true =>
      obtain ⟨rfl, g4⟩ := g2 q4
      obtain ⟨k1, k2, -, -⟩ := gp3 q4
      rw [if_pos rfl]
      have hp := z_passes g4.1 (c := 41) (by omega)
      refine z_neg (by decide) ?_
      rw [show f_Reader_passes 41 v = _ from hp]
      by_cases q5 : z_ch n b (z_ei (z_ch n b) sg (i + 1)).2.1 = 41
      · have hin2 : (z_ei (z_ch n b) sg (i + 1)).2.1 < n := z_ch_n (b := b) (by omega)
        rw [if_pos q5, if_pos q5, z_bind_some]
        refine z_neg (by decide) (k_sat_mk ⟨g1.tr (z_wF rfl), fun _ => ⟨rfl, (z_nx1 g4.1 hin2).2, z_wcs_f g4.2.1 (by simp [k_wF]) rfl, ?_⟩, fun q => (by cases q)⟩)
        dsimp only
        rw [List.length_append]
        omega
      · rw [if_neg q5, if_neg q5, z_bind_some]
        exact z_pos rfl (k_sat_mk ⟨g1, fun q => (by cases q), fun _ => ⟨g4.1, Or.inl rfl⟩⟩)
    | false =>
      rw [if_neg (show ¬ (false = true) by decide)]
      obtain ⟨g4, rfl | ⟨rfl, g5⟩⟩ := g3 q4
      · exact z_pos rfl (k_sat_mk ⟨g1, fun q => (by cases q), fun _ => ⟨g4, Or.inl rfl⟩⟩)
      · have hp := z_passes g4 (c := 41) (by omega)
        rw [if_neg (by omega)] at hp
        rw [show f_Reader_passes 41 v = some (0, v) from hp, z_bind_some]
        exact z_neg (by decide) (z_pos rfl (k_sat_mk ⟨g1, fun q => (by cases q), fun _ => ⟨g4, Or.inl rfl⟩⟩))
  rw [if_neg q3]
  refine z_neg (fun x => q3 ((z_lk_eq hkk (k := 40) (by omega)).mp x)) ?_
  by_cases q4 : z_ch n b i = 33 ∨ z_ch n b i = 45
  · rw [if_pos q4]
    have hin : i < n := z_ch_n (b := b) (by omega)
    have er : r = J (z_ch n b i) := z_lk_J hkk (by omega)
    have h0' : z_ws n b (k_wF u 1003 (J (i + 1))) (i + 1) L := ⟨(z_nx1 hs.1 hin).2, z_wcs_f hs.2.1 (by simp [k_wF]) rfl, by omega⟩
    have hf0 : z_fr [1002, 1003] [11] u (k_wF u 1003 (J (i + 1))) := z_wF rfl
    obtain ⟨-, gp2, gp3⟩ := hg (i + 1) (by omega)
    have key : k_sat (f_Reader_single_J87 rc (J (6 - d)) r u) (fun r' v => z_fr [1002, 1003] [11] u v ∧ ((sg (i + 1)).1 = true → r' = 1 ∧ z_ws n b v (sg (i + 1)).2.1 (L ++ ((sg (i + 1)).2.2 ++ [if z_ch n b i = 45 then -1 else -33]))) ∧ ((sg (i + 1)).1 = false → z_wx n b v (sg (i + 1)).2.1 ∧ (r' = 0 ∨ (r' = 1 ∧ 48 ≤ z_ch n b (sg (i + 1)).2.1 ∧ z_ch n b (sg (i + 1)).2.1 ≤ 57)))) := by
      unfold f_Reader_single_J87
      rw [(z_nx1 hs.1 hin).1, z_Jp]
      refine z_pos (by (try simp (disch := omega) only [Int32.lt_iff_toInt_lt, Int32.le_iff_toInt_le, ← Int32.toInt_inj, Int32.toInt_add, Int32.toInt_sub, Int32.toInt_mul, Int32.toInt_neg, z_bm, z_bm2, J_ti, J_toInt, z_cn, Int32.reduceToInt]) <;> omega) (z_let (z_neg (fun x => q3 ((z_lk_eq hkk (k := 40) (by omega)).mp x)) (z_bind _ (hrc _ _ _ h0') (fun r2 v hv => ?_))))
      obtain ⟨g1, g2, g3⟩ := hv
      have g1 := hf0.tr g1
      have fin : ∀ s : Int32, s = (if z_ch n b i = 45 then -1 else -33) → r2 = 1 → k_sat (f_Reader_single_J161 rc s v) (fun r' v => z_fr [1002, 1003] [11] u v ∧ ((sg (i + 1)).1 = true → r' = 1 ∧ z_ws n b v (sg (i + 1)).2.1 (L ++ ((sg (i + 1)).2.2 ++ [if z_ch n b i = 45 then -1 else -33]))) ∧ ((sg (i + 1)).1 = false → z_wx n b v (sg (i + 1)).2.1 ∧ (r' = 0 ∨ (r' = 1 ∧ 48 ≤ z_ch n b (sg (i + 1)).2.1 ∧ z_ch n b (sg (i + 1)).2.1 ≤ 57)))) := by
        rintro s hss rfl
        unfold f_Reader_single_J161
        cases q5 : (sg (i + 1)).1 with
        | true =>
          obtain ⟨-, g4⟩ := g2 q5
          obtain ⟨k1, k2, -, -⟩ := gp3 q5
          refine z_bind _ (z_add (s := s) g4.2.1 (by rw [List.length_append]; omega)) (fun _ x hx => k_sat_mk ⟨g1.tr (hx.1.mono rfl rfl), fun _ => ⟨rfl, z_wx_f g4.1 (hx.1.mono rfl rfl) ((hx.1.1 1003 rfl).trans g4.1.2.2.2.1) g4.1.2.2.2.2, ?_, ?_⟩, fun q => (by cases q)⟩)
          · rw [← List.append_assoc, ← hss]
            exact hx.2
          · rw [List.length_append, List.length_append, List.length_singleton]
            omega
        | false =>
          obtain ⟨g4, g5⟩ := g3 q5
          have g6 : 48 ≤ z_ch n b (sg (i + 1)).2.1 ∧ z_ch n b (sg (i + 1)).2.1 ≤ 57 := by
            rcases g5 with g5 | g5
            · exact absurd g5 (by decide)
            · exact g5.2
          exact z_bind _ (z_addT s v) (fun _ x hx => k_sat_mk ⟨g1.tr (hx.mono rfl rfl), fun q => (by cases q), fun _ => ⟨z_wx_f g4 (hx.mono rfl rfl) ((hx.1 1003 rfl).trans g4.2.2.2.1) g4.2.2.2.2, Or.inr ⟨rfl, g6⟩⟩⟩)
      by_cases hr2 : r2 = 0
      · refine z_pos hr2 (k_sat_mk ⟨g1, fun q => ?_, fun q => ⟨(g3 q).1, Or.inl rfl⟩⟩)
        have := (g2 q).1
        rw [hr2] at this
        cases this
      · have hr1 : r2 = 1 := by
          cases q5 : (sg (i + 1)).1 with
          | true => exact (g2 q5).1
          | false =>
            rcases (g3 q5).2 with x | x
            · exact absurd x hr2
            · exact x.1
        refine z_neg hr2 (z_ite (fun c => fin _ ?_ hr1) (fun c => fin _ ?_ hr1))
        · rw [if_pos ((z_lk_eq hkk (k := 45) (by omega)).mp c)]
        · have c' : ¬ z_ch n b i = 45 := fun x => c ((z_lk_eq hkk (k := 45) (by omega)).mpr x)
          rw [if_neg c', er, show z_ch n b i = 33 by omega]
          rfl
    have fin2 : k_sat (f_Reader_single_J87 rc (J (6 - d)) r u) _ := z_mono key (fun r' v hv => (⟨hv.1, fun q => ?_, fun q => ?_⟩ : z_fr [1002, 1003] [11] u v ∧ ((if (sg (i + 1)).1 = true then (true, (sg (i + 1)).2.1, (sg (i + 1)).2.2 ++ [if z_ch n b i = 45 then -1 else -33]) else (false, (sg (i + 1)).2.1, ([] : List Int32))).1 = true → r' = 1 ∧ z_ws n b v (if (sg (i + 1)).1 = true then (true, (sg (i + 1)).2.1, (sg (i + 1)).2.2 ++ [if z_ch n b i = 45 then -1 else -33]) else (false, (sg (i + 1)).2.1, ([] : List Int32))).2.1 (L ++ (if (sg (i + 1)).1 = true then (true, (sg (i + 1)).2.1, (sg (i + 1)).2.2 ++ [if z_ch n b i = 45 then -1 else -33]) else (false, (sg (i + 1)).2.1, ([] : List Int32))).2.2)) ∧ ((if (sg (i + 1)).1 = true then (true, (sg (i + 1)).2.1, (sg (i + 1)).2.2 ++ [if z_ch n b i = 45 then -1 else -33]) else (false, (sg (i + 1)).2.1, ([] : List Int32))).1 = false → z_wx n b v (if (sg (i + 1)).1 = true then (true, (sg (i + 1)).2.1, (sg (i + 1)).2.2 ++ [if z_ch n b i = 45 then -1 else -33]) else (false, (sg (i + 1)).2.1, ([] : List Int32))).2.1 ∧ (r' = 0 ∨ (r' = 1 ∧ 48 ≤ z_ch n b (if (sg (i + 1)).1 = true then (true, (sg (i + 1)).2.1, (sg (i + 1)).2.2 ++ [if z_ch n b i = 45 then -1 else -33]) else (false, (sg (i + 1)).2.1, ([] : List Int32))).2.1 ∧ z_ch n b (if (sg (i + 1)).1 = true then (true, (sg (i + 1)).2.1, (sg (i + 1)).2.2 ++ [if z_ch n b i = 45 then -1 else -33]) else (false, (sg (i + 1)).2.1, ([] : List Int32))).2.1 ≤ 57)))))
    · refine z_ite (fun _ => fin2) (fun c1 => z_ite (fun _ => fin2) (fun c2 => ?_))
      rcases q4 with c | c
      · exact absurd ((z_lk_eq hkk (k := 33) (by omega)).mpr c) c1
      · exact absurd ((z_lk_eq hkk (k := 45) (by omega)).mpr c) c2
    · cases q5 : (sg (i + 1)).1 with
      | true => rw [if_pos rfl]; exact hv.2.1 q5
      | false => rw [q5, if_neg (by decide)] at q; cases q
    · cases q5 : (sg (i + 1)).1 with
      | true => rw [q5, if_pos rfl] at q; cases q
      | false => rw [if_neg (by decide)]; exact hv.2.2 q5
  · rw [if_neg q4]
    exact z_neg (fun x => q4 (Or.inl ((z_lk_eq hkk (k := 33) (by omega)).mp x))) (z_neg (fun x => q4 (Or.inr ((z_lk_eq hkk (k := 45) (by omega)).mp x))) (k_sat_mk ⟨z_fr.rf, fun q => (by cases q), fun _ => ⟨hs.1, Or.inl rfl⟩⟩))
theorem z_sgW {n : Nat} {b : Nat → Nat} (hn : n ≤ 120) : ∀ d, d ≤ 6 → ∀ k, d < k → z_PW n b (f_Reader_single_rec k (J (6 - d))) (z_sg (z_ch n b) d)
  | 0, hd, k, hk => by
    obtain ⟨k', rfl⟩ : ∃ k', k = k' + 1 := ⟨k - 1, by omega⟩
    exact z_sinW (d := 0) (rc := f_Reader_single_rec k') (o := none) hn hd (fun _ => rfl) (fun h => by omega)
  | d + 1, hd, k, hk => by
    obtain ⟨k', rfl⟩ : ∃ k', k = k' + 1 := ⟨k - 1, by omega⟩
    refine z_sinW (d := d + 1) (rc := f_Reader_single_rec k') (o := some (z_sg (z_ch n b) d)) hn hd (fun h => by omega) (fun _ => ⟨_, rfl, z_sg_g d, ?_⟩)
    rw [show 6 - (d + 1) + 1 = 6 - d by omega]
    exact z_sgW hn d (by omega) k' (by omega)
/-! LAW: lines, the whole text; the class's law -/
def z_e6 (ch : Nat → Nat) : z_Pa := z_ei ch (z_sg ch 6)
def z_ln (ch : Nat → Nat) (i : Nat) : Bool × Nat × z_Ln := if (z_e6 ch i).1 = true then (if ch (z_e6 ch i).2.1 = 63 then (if (z_e6 ch ((z_e6 ch i).2.1 + 1)).1 = true then (true, (z_e6 ch ((z_e6 ch i).2.1 + 1)).2.1, ((z_e6 ch i).2.2, (z_e6 ch ((z_e6 ch i).2.1 + 1)).2.2)) else (false, (z_e6 ch ((z_e6 ch i).2.1 + 1)).2.1, ([], []))) else (true, (z_e6 ch i).2.1, ([], (z_e6 ch i).2.2))) else (false, (z_e6 ch i).2.1, ([], []))
def z_tl (ch : Nat → Nat) : Nat → Nat → List z_Ln → Bool × Nat × List z_Ln
  | 0, i, A => (true, i, A)
  | k + 1, i, A => if ch i = 59 then (if (z_ln ch (i + 1)).1 = true then z_tl ch k (z_ln ch (i + 1)).2.1 (A ++ [(z_ln ch (i + 1)).2.2]) else (false, (z_ln ch (i + 1)).2.1, [])) else (true, i, A)
def z_tx (ch : Nat → Nat) : Bool × Nat × List z_Ln := if (z_ln ch 0).1 = true then z_tl ch 120 (z_ln ch 0).2.1 [(z_ln ch 0).2.2] else (false, (z_ln ch 0).2.1, [])
theorem z_l1_len (o : Nat) (l : z_Ln) : (z_l1 o l).length = if l.1 = [] then l.2.length + 1 else l.1.length + l.2.length + 2 := by
  unfold z_l1
  by_cases h : l.1 = []
  · rw [if_pos h, if_pos h, List.length_append, List.length_singleton]
  · rw [if_neg h, if_neg h]
    simp only [List.length_append, List.length_singleton]
    omega
theorem z_wf_ne {C : List Int32} (h : z_wf C) : ¬ C = [] := by
  rintro rfl
  obtain ⟨f, hf⟩ := h
  obtain ⟨S', a, -⟩ := hf (0, 0, 0, 0) 0 (fun _ => 0)
  have : (0 : Nat) = 0 + 1 := by
    have := Option.some.inj a
    exact congrArg Prod.fst this
  omega
theorem z_ln_g {n : Nat} {b : Nat → Nat} (i o : Nat) (hi : i ≤ n) : i ≤ (z_ln (z_ch n b) i).2.1 ∧ (z_ln (z_ch n b) i).2.1 ≤ n ∧ ((z_ln (z_ch n b) i).1 = true → i < (z_ln (z_ch n b) i).2.1 ∧ z_gl (z_ln (z_ch n b) i).2.2 ∧ (z_ln (z_ch n b) i).2.2.1.length + (z_ln (z_ch n b) i).2.2.2.length + i ≤ (z_ln (z_ch n b) i).2.1 ∧ (z_l1 o (z_ln (z_ch n b) i).2.2).length + i ≤ (z_ln (z_ch n b) i).2.1 + 1) := by
  have he : z_gp n (z_e6 (z_ch n b)) := z_ei_g (z_sg_g 6)
  rw [z_l1_len]
  unfold z_ln
  obtain ⟨a1, a2, a3⟩ := he i hi
  by_cases q1 : (z_e6 (z_ch n b) i).1 = true
  · rw [if_pos q1]
    obtain ⟨b1, b2, b3, b4⟩ := a3 q1
    by_cases q2 : z_ch n b (z_e6 (z_ch n b) i).2.1 = 63
    · rw [if_pos q2]
      have hin : (z_e6 (z_ch n b) i).2.1 < n := z_ch_n (b := b) (by omega)
      obtain ⟨c1, c2, c3⟩ := he ((z_e6 (z_ch n b) i).2.1 + 1) (by omega)
      by_cases q3 : (z_e6 (z_ch n b) ((z_e6 (z_ch n b) i).2.1 + 1)).1 = true
      · rw [if_pos q3]
        obtain ⟨d1, d2, d3, d4⟩ := c3 q3
        refine ⟨by dsimp only; omega, c2, fun _ => ⟨by dsimp only; omega, ⟨Or.inr b3, d3, b4, d4⟩, by dsimp only; omega, ?_⟩⟩
        rw [if_neg (z_wf_ne b3)]
        dsimp only
        omega
      · rw [if_neg q3]
        exact ⟨by dsimp only; omega, c2, fun q => by cases q⟩
    · rw [if_neg q2]
      refine ⟨a1, a2, fun _ => ⟨b1, ⟨Or.inl rfl, b3, fun s hs => (by cases hs), b4⟩, ?_, ?_⟩⟩
      · show ([] : List Int32).length + (z_e6 (z_ch n b) i).2.2.length + i ≤ (z_e6 (z_ch n b) i).2.1
        rw [List.length_nil]
        omega
      · rw [if_pos rfl]
        dsimp only
        omega
  · rw [if_neg q1]
    exact ⟨a1, a2, fun q => by cases q⟩
theorem z_cls_app (l : z_Ln) : ∀ (ls : List z_Ln) (o : Nat), z_cls o (ls ++ [l]) = z_cls o ls ++ z_l1 (o + (z_cls o ls).length) l
  | [], o => by
    show z_l1 o l ++ z_cls _ [] = [] ++ z_l1 (o + 0) l
    rw [z_cls, List.append_nil, List.nil_append, Nat.add_zero]
  | a :: ls, o => by
    rw [List.cons_append, z_cls, z_cls_app l ls, z_cls, List.append_assoc, List.length_append, Nat.add_assoc]
theorem z_patch {M R : List Int32} {x y : Int32} {w : k_S} (h : z_wcs w (M ++ [x] ++ R)) : z_wcs (k_wA w 11 M.length y) (M ++ [y] ++ R) := by
  obtain ⟨h1, h2⟩ := h
  refine ⟨?_, fun j s hj => ?_⟩
  · rw [show (M ++ [y] ++ R).length = (M ++ [x] ++ R).length by simp only [List.length_append, List.length_singleton]]
    exact h1
  · have e : (k_wA w 11 M.length y).2.1 11 = upd (w.2.1 11) M.length y := by simp [k_wA]
    rw [e, z_up]
    rw [List.append_assoc] at hj h2
    by_cases q : j = M.length
    · rw [if_pos q]
      rw [q, List.getElem?_append_right (Nat.le_refl _), Nat.sub_self] at hj
      simpa using hj
    · rw [if_neg q]
      refine h2 j s ?_
      rcases Nat.lt_or_ge j M.length with q2 | q2
      · rw [List.getElem?_append_left q2] at hj ⊢; exact hj
      · rw [List.getElem?_append_right q2] at hj ⊢
        obtain ⟨k, hk⟩ : ∃ k, j - M.length = k + 1 := ⟨j - M.length - 1, by omega⟩
        rw [hk] at hj ⊢
        simpa using hj
theorem z_lineW {n i : Nat} {b : Nat → Nat} {L : List Int32} {u : k_S} (hn : n ≤ 120) (hs : z_ws n b u i L) : k_sat (f_Reader_line u) (fun r v => z_fr [1002, 1003] [11] u v ∧ ((z_ln (z_ch n b) i).1 = true → r = 1 ∧ z_wx n b v (z_ln (z_ch n b) i).2.1 ∧ z_wcs v (L ++ z_l1 L.length (z_ln (z_ch n b) i).2.2)) ∧ ((z_ln (z_ch n b) i).1 = false → z_wx n b v (z_ln (z_ch n b) i).2.1 ∧ (r = 0 ∨ (r = 1 ∧ 48 ≤ z_ch n b (z_ln (z_ch n b) i).2.1 ∧ z_ch n b (z_ln (z_ch n b) i).2.1 ≤ 57)))) := by
  have he : z_gp n (z_e6 (z_ch n b)) := z_ei_g (z_sg_g 6)
  have hrc : z_PW n b (f_Reader_single_rec 8 0) (z_sg (z_ch n b) 6) := z_sgW hn 6 (by omega) 8 (by omega)
  have hP : z_PW n b (f_Reader_either (f_Reader_single_rec 8) 0) (z_e6 (z_ch n b)) := z_eiW hn hrc (z_sg_g 6)
  have hi := hs.1.2.2.2.2
  have hl := hs.2.2
  obtain ⟨a1, a2, a3⟩ := he i hi
  unfold f_Reader_line
  refine z_bind _ (hP u i L hs) (fun r v hv => ?_)
  obtain ⟨h1, h2, h3⟩ := hv
  unfold z_ln
  by_cases q1 : (z_e6 (z_ch n b) i).1 = true
  · rw [if_pos q1]
    obtain ⟨rfl, h4⟩ := h2 q1
    obtain ⟨b1, b2, b3, b4⟩ := a3 q1
    generalize hj : (z_e6 (z_ch n b) i).2.1 = j at *
    generalize hA : (z_e6 (z_ch n b) i).2.2 = A at *
    refine z_neg (by decide) ?_
    have hp := z_passes h4.1 (c := 63) (by omega)
    rw [show f_Reader_passes 63 v = _ from hp]
    by_cases q2 : z_ch n b j = 63
    · rw [if_pos q2, if_pos q2, z_bind_some]
      have hin : j < n := z_ch_n (b := b) (by omega)
      obtain ⟨c1, c2, c3⟩ := he (j + 1) (by omega)
      have x1 := (z_nx1 h4.1 hin).2
      have k1 : z_fr [1002, 1003] [11] u (k_wF v 1003 (J (j + 1))) := h1.tr (z_wF rfl)
      have w1 : z_wcs (k_wF v 1003 (J (j + 1))) (L ++ A) := z_wcs_f h4.2.1 (by simp [k_wF]) rfl
      generalize k_wF v 1003 (J (j + 1)) = v1 at *
      have t6 : v1.1 1002 = J (L ++ A).length := w1.1
      have hLA : (L ++ A).length ≤ j := by rw [List.length_append]; omega
      rw [t6]
      refine z_neg (by decide) (z_let (z_bind _ (z_add (s := 10000) w1 (by omega)) (fun _ v2 hv2 => ?_)))
      have k2 := k1.tr (hv2.1.mono rfl rfl)
      have x2 := z_wx_f x1 (hv2.1.mono rfl rfl) ((hv2.1.1 1003 rfl).trans x1.2.2.2.1) x1.2.2.2.2
      refine z_bind _ (hP v2 (j + 1) (L ++ A ++ [10000]) ⟨x2, hv2.2, by rw [List.length_append, List.length_singleton]; omega⟩) (fun r3 v3 hv3 => ?_)
      obtain ⟨g1, g2, g3⟩ := hv3
      have k3 := k2.tr g1
      by_cases q3 : (z_e6 (z_ch n b) (j + 1)).1 = true
      · rw [if_pos q3]
        obtain ⟨rfl, g4⟩ := g2 q3
        obtain ⟨d1, d2, d3, d4⟩ := c3 q3
        generalize hB : (z_e6 (z_ch n b) (j + 1)).2.2 = B at *
        refine z_neg (by decide) (z_bind _ (z_add (s := -59) g4.2.1 (by rw [List.length_append, List.length_append, List.length_singleton]; omega)) (fun _ v4 hv4 => ?_))
        have k4 := k3.tr (hv4.1.mono rfl rfl)
        have x4 := z_wx_f g4.1 (hv4.1.mono rfl rfl) ((hv4.1.1 1003 rfl).trans g4.1.2.2.2.1) g4.1.2.2.2.2
        have w4 : z_wcs v4 (L ++ A ++ [10000] ++ (B ++ [-59])) := by
          rw [← List.append_assoc]
          exact hv4.2
        have e1002 : (10000 : Int32) + v4.1 1002 = J (10000 + (L.length + A.length + B.length + 2)) := by
          rw [w4.1, show (10000 : Int32) = J 10000 from rfl, J_add]
          simp only [List.length_append, List.length_singleton]
          congr 1
          omega
        rw [e1002, J_toNat (show (L ++ A).length < 2147483648 by omega)]
        have w5 := z_patch (y := J (10000 + (L.length + A.length + B.length + 2))) w4
        refine z_neg (by (try simp (disch := omega) only [Int32.lt_iff_toInt_lt, Int32.le_iff_toInt_le, ← Int32.toInt_inj, Int32.toInt_add, Int32.toInt_sub, Int32.toInt_mul, Int32.toInt_neg, z_bm, z_bm2, J_ti, J_toInt, z_cn, Int32.reduceToInt]) <;> omega) (z_ck (by (try simp (disch := omega) only [Int32.lt_iff_toInt_lt, Int32.le_iff_toInt_le, ← Int32.toInt_inj, Int32.toInt_add, Int32.toInt_sub, Int32.toInt_mul, Int32.toInt_neg, z_bm, z_bm2, J_ti, J_toInt, z_cn, Int32.reduceToInt]) <;> omega) (by (try simp (disch := omega) only [Int32.lt_iff_toInt_lt, Int32.le_iff_toInt_le, ← Int32.toInt_inj, Int32.toInt_add, Int32.toInt_sub, Int32.toInt_mul, Int32.toInt_neg, z_bm, z_bm2, J_ti, J_toInt, z_cn, Int32.reduceToInt]) <;> omega) (z_let (k_sat_mk ⟨k4.tr (z_wA rfl), fun _ => ⟨rfl, z_wx_f x4 (z_wA rfl) x4.2.2.2.1 x4.2.2.2.2, ?_⟩, fun q => (by cases q)⟩)))
        have : L ++ z_l1 L.length (A, B) = L ++ A ++ [J (10000 + (L.length + A.length + B.length + 2))] ++ (B ++ [-59]) := by
          unfold z_l1
          rw [if_neg (z_wf_ne b3)]
          simp only [List.append_assoc]
        rw [this]
        exact w5
      · rw [if_neg q3]
        obtain ⟨g4, rfl | ⟨rfl, g5⟩⟩ := g3 (by cases hq : (z_e6 (z_ch n b) (j + 1)).1; rfl; exact absurd hq q3)
        · exact z_pos rfl (k_sat_mk ⟨k3, fun q => (by cases q), fun _ => ⟨g4, Or.inl rfl⟩⟩)
        · refine z_neg (by decide) (z_bind _ (z_addT _ v3) (fun _ v4 hv4 => ?_))
          have k4 := k3.tr (hv4.mono rfl rfl)
          have x4 := z_wx_f g4 (hv4.mono rfl rfl) ((hv4.1 1003 rfl).trans g4.2.2.2.1) g4.2.2.2.2
          rw [J_toNat (show (L ++ A).length < 2147483648 by omega)]
          exact z_neg (by (try simp (disch := omega) only [Int32.lt_iff_toInt_lt, Int32.le_iff_toInt_le, ← Int32.toInt_inj, Int32.toInt_add, Int32.toInt_sub, Int32.toInt_mul, Int32.toInt_neg, z_bm, z_bm2, J_ti, J_toInt, z_cn, Int32.reduceToInt]) <;> omega) (z_ck (by (try simp (disch := omega) only [Int32.lt_iff_toInt_lt, Int32.le_iff_toInt_le, ← Int32.toInt_inj, Int32.toInt_add, Int32.toInt_sub, Int32.toInt_mul, Int32.toInt_neg, z_bm, z_bm2, J_ti, J_toInt, z_cn, Int32.reduceToInt]) <;> omega) (by (try simp (disch := omega) only [Int32.lt_iff_toInt_lt, Int32.le_iff_toInt_le, ← Int32.toInt_inj, Int32.toInt_add, Int32.toInt_sub, Int32.toInt_mul, Int32.toInt_neg, z_bm, z_bm2, J_ti, J_toInt, z_cn, Int32.reduceToInt]) <;> omega) (z_let (k_sat_mk ⟨k4.tr (z_wA rfl), fun q => (by cases q), fun _ => ⟨z_wx_f x4 (z_wA rfl) x4.2.2.2.1 x4.2.2.2.2, Or.inr ⟨rfl, g5⟩⟩⟩)))
    · rw [if_neg q2, if_neg q2, z_bind_some]
      refine z_pos rfl (z_bind _ (z_add (s := -59) h4.2.1 (by rw [List.length_append]; omega)) (fun _ w hw => k_sat_mk ⟨h1.tr (hw.1.mono rfl rfl), fun _ => ⟨rfl, z_wx_f h4.1 (hw.1.mono rfl rfl) ((hw.1.1 1003 rfl).trans h4.1.2.2.2.1) h4.1.2.2.2.2, ?_⟩, fun q => (by cases q)⟩))
      have : L ++ z_l1 L.length ([], A) = L ++ A ++ [-59] := by
        unfold z_l1
        rw [if_pos rfl, List.append_assoc]
      rw [this]
      exact hw.2
  · rw [if_neg q1]
    obtain ⟨h4, rfl | ⟨rfl, h5⟩⟩ := h3 (by cases hq : (z_e6 (z_ch n b) i).1; rfl; exact absurd hq q1)
    · exact z_pos rfl (k_sat_mk ⟨h1, fun q => (by cases q), fun _ => ⟨h4, Or.inl rfl⟩⟩)
    · have hp := z_passes h4 (c := 63) (by omega)
      rw [if_neg (by omega)] at hp
      rw [show f_Reader_passes 63 v = _ from hp, z_bind_some]
      refine z_neg (by decide) (z_pos rfl (z_bind _ (z_addT _ v) (fun _ w hw => k_sat_mk ⟨h1.tr (hw.mono rfl rfl), fun q => (by cases q), fun _ => ⟨z_wx_f h4 (hw.mono rfl rfl) ((hw.1 1003 rfl).trans h4.2.2.2.1) h4.2.2.2.2, Or.inr ⟨rfl, h5⟩⟩⟩)))
def z_we (n : Nat) (b : Nat → Nat) (u : k_S) (i : Nat) (ls : List z_Ln) : Prop := z_wx n b u i ∧ z_wcs u (z_cls 0 ls) ∧ (z_cls 0 ls).length ≤ i + 1
theorem z_linesW {n : Nat} {b : Nat → Nat} (hn : n ≤ 120) : ∀ (m k : Nat) (u : k_S) (i : Nat) (ls : List z_Ln) (N : Nat), k + m = 120 → m + 1 < N → z_we n b u i ls → k_sat (k_itr (fun (x : (Int32)) u => f_Reader_lines_B11 x u) N (J k) u) (fun y v => z_fr [1002, 1003] [11] u v ∧ ((z_tl (z_ch n b) m i ls).1 = true → y = .inr () ∧ z_we n b v (z_tl (z_ch n b) m i ls).2.1 (z_tl (z_ch n b) m i ls).2.2) ∧ ((z_tl (z_ch n b) m i ls).1 = false → z_wx n b v (z_tl (z_ch n b) m i ls).2.1 ∧ (y = .inl 0 ∨ (y = .inr () ∧ 48 ≤ z_ch n b (z_tl (z_ch n b) m i ls).2.1 ∧ z_ch n b (z_tl (z_ch n b) m i ls).2.1 ≤ 57))))
  | 0, k, u, i, ls, N, hk, hN, hs => by
    obtain ⟨M, rfl⟩ : ∃ M, N = M + 1 := ⟨N - 1, by omega⟩
    refine z_exit ?_
    unfold f_Reader_lines_B11
    exact z_pos (by (try simp (disch := omega) only [Int32.lt_iff_toInt_lt, Int32.le_iff_toInt_le, ← Int32.toInt_inj, Int32.toInt_add, Int32.toInt_sub, Int32.toInt_mul, Int32.toInt_neg, z_bm, z_bm2, J_ti, J_toInt, z_cn, Int32.reduceToInt]) <;> omega) (k_sat_mk ⟨_, rfl, z_fr.rf, fun _ => ⟨rfl, hs⟩, fun q => by cases q⟩)
  | m + 1, k, u, i, ls, N, hk, hN, hs => by
    obtain ⟨M, rfl⟩ : ∃ M, N = M + 1 := ⟨N - 1, by omega⟩
    have hp := z_passes hs.1 (c := 59) (by omega)
    rw [z_tl]
    by_cases hc : z_ch n b i = 59
    · rw [if_pos hc] at hp ⊢
      have hin : i < n := z_ch_n (b := b) (by omega)
      have h0 : z_ws n b (k_wF u 1003 (J (i + 1))) (i + 1) (z_cls 0 ls) := ⟨(z_nx1 hs.1 hin).2, z_wcs_f hs.2.1 (by simp [k_wF]) rfl, hs.2.2⟩
      have hf0 : z_fr [1002, 1003] [11] u (k_wF u 1003 (J (i + 1))) := z_wF rfl
      obtain ⟨⟨r, v⟩, e, h1, h2, h3⟩ := z_lineW hn h0
      have k1 : z_fr [1002, 1003] [11] u v := hf0.tr h1
      have hB : f_Reader_lines_B11 (J k) u = if r = 0 then some (.inr (.inl 0), v) else some (.inl (J k + Int32.ofInt 1), v) := by
        unfold f_Reader_lines_B11
        rw [if_neg (by (try simp (disch := omega) only [Int32.lt_iff_toInt_lt, Int32.le_iff_toInt_le, ← Int32.toInt_inj, Int32.toInt_add, Int32.toInt_sub, Int32.toInt_mul, Int32.toInt_neg, z_bm, z_bm2, J_ti, J_toInt, z_cn, Int32.reduceToInt]) <;> omega), show f_Reader_passes 59 u = _ from hp, z_bind_some, if_neg (by decide), e, z_bind_some]
      obtain ⟨g1, g2, g3⟩ := z_ln_g (b := b) (i + 1) (z_cls 0 ls).length (show i + 1 ≤ n by omega)
      by_cases q : (z_ln (z_ch n b) (i + 1)).1 = true
      · rw [if_pos q]
        obtain ⟨rfl, h4, h5⟩ := h2 q
        rw [if_neg (by decide)] at hB
        refine z_turn ?_
        rw [hB]
        refine k_sat_mk ⟨_, rfl, ?_⟩
        rw [z_J1]
        have e2 : z_cls 0 (ls ++ [(z_ln (z_ch n b) (i + 1)).2.2]) = z_cls 0 ls ++ z_l1 (z_cls 0 ls).length (z_ln (z_ch n b) (i + 1)).2.2 := by
          rw [z_cls_app, Nat.zero_add]
        have hlen := (g3 q).2.2.2
        have hs3 := h0.2.2
        refine z_mono (z_linesW hn m (k + 1) v _ (ls ++ [(z_ln (z_ch n b) (i + 1)).2.2]) M (by omega) (by omega) ⟨h4, by rw [e2]; exact h5, by rw [e2, List.length_append]; omega⟩) (fun y w hw => ⟨k1.tr hw.1, hw.2⟩)
      · rw [if_neg q]
        obtain ⟨h4, h5⟩ := h3 (by cases hq : (z_ln (z_ch n b) (i + 1)).1; rfl; exact absurd hq q)
        dsimp only at h4 h5
        rcases h5 with rfl | ⟨rfl, h5⟩
        · rw [if_pos rfl] at hB
          refine z_exit ?_
          rw [hB]
          exact k_sat_mk ⟨_, rfl, k1, fun q' => (by cases q'), fun _ => ⟨h4, Or.inl rfl⟩⟩
        · rw [if_neg (by decide)] at hB
          refine z_turn ?_
          rw [hB]
          refine k_sat_mk ⟨_, rfl, ?_⟩
          rw [z_J1]
          obtain ⟨M', rfl⟩ : ∃ M', M = M' + 1 := ⟨M - 1, by omega⟩
          refine z_exit ?_
          unfold f_Reader_lines_B11
          by_cases hm : m = 0
          · exact z_pos (by (try simp (disch := omega) only [Int32.lt_iff_toInt_lt, Int32.le_iff_toInt_le, ← Int32.toInt_inj, Int32.toInt_add, Int32.toInt_sub, Int32.toInt_mul, Int32.toInt_neg, z_bm, z_bm2, J_ti, J_toInt, z_cn, Int32.reduceToInt]) <;> omega) (k_sat_mk ⟨_, rfl, k1, fun q' => (by cases q'), fun _ => ⟨h4, Or.inr ⟨rfl, h5⟩⟩⟩)
          · have hp2 := z_passes h4 (c := 59) (by omega)
            rw [if_neg (by omega)] at hp2
            rw [show f_Reader_passes 59 v = _ from hp2, z_bind_some]
            exact z_neg (by (try simp (disch := omega) only [Int32.lt_iff_toInt_lt, Int32.le_iff_toInt_le, ← Int32.toInt_inj, Int32.toInt_add, Int32.toInt_sub, Int32.toInt_mul, Int32.toInt_neg, z_bm, z_bm2, J_ti, J_toInt, z_cn, Int32.reduceToInt]) <;> omega) (z_pos rfl (k_sat_mk ⟨_, rfl, k1, fun q' => (by cases q'), fun _ => ⟨h4, Or.inr ⟨rfl, h5⟩⟩⟩))
    · rw [if_neg hc] at hp ⊢
      refine z_exit ?_
      unfold f_Reader_lines_B11
      rw [show f_Reader_passes 59 u = _ from hp, z_bind_some]
      exact z_neg (by (try simp (disch := omega) only [Int32.lt_iff_toInt_lt, Int32.le_iff_toInt_le, ← Int32.toInt_inj, Int32.toInt_add, Int32.toInt_sub, Int32.toInt_mul, Int32.toInt_neg, z_bm, z_bm2, J_ti, J_toInt, z_cn, Int32.reduceToInt]) <;> omega) (z_pos rfl (k_sat_mk ⟨_, rfl, z_fr.rf, fun _ => ⟨rfl, hs⟩, fun q => by cases q⟩))
/-! LAW: the class's law, whole -/
theorem z_rl_app (l : z_Ln) : ∀ ls : List z_Ln, z_rl (ls ++ [l]) = z_rl ls ++ (l.1 ++ l.2)
  | [] => by
    show l.1 ++ (l.2 ++ []) = [] ++ (l.1 ++ l.2)
    rw [List.append_nil, List.nil_append]
  | a :: ls => by
    rw [List.cons_append, z_rl, z_rl_app l ls, z_rl]
    simp only [List.append_assoc]
theorem z_tl_g {n : Nat} {b : Nat → Nat} : ∀ (m i : Nat) (ls : List z_Ln), i ≤ n → (∀ l, l ∈ ls → z_gl l) → 2 * ls.length ≤ i + 1 → (z_rl ls).length ≤ i → (z_tl (z_ch n b) m i ls).2.1 ≤ n ∧ ((z_tl (z_ch n b) m i ls).1 = true → (∀ l, l ∈ (z_tl (z_ch n b) m i ls).2.2 → z_gl l) ∧ 2 * (z_tl (z_ch n b) m i ls).2.2.length ≤ (z_tl (z_ch n b) m i ls).2.1 + 1 ∧ (z_rl (z_tl (z_ch n b) m i ls).2.2).length ≤ (z_tl (z_ch n b) m i ls).2.1)
  | 0, i, ls, h1, h2, h3, h4 => ⟨h1, fun _ => ⟨h2, h3, h4⟩⟩
  | m + 1, i, ls, h1, h2, h3, h4 => by
    rw [z_tl]
    by_cases hc : z_ch n b i = 59
    · rw [if_pos hc]
      have hin : i < n := z_ch_n (b := b) (by omega)
      obtain ⟨g1, g2, g3⟩ := z_ln_g (b := b) (i + 1) 0 (show i + 1 ≤ n by omega)
      by_cases q : (z_ln (z_ch n b) (i + 1)).1 = true
      · rw [if_pos q]
        obtain ⟨k1, k2, k3, k4⟩ := g3 q
        refine z_tl_g m _ _ g2 (fun l hl => ?_) (by rw [List.length_append, List.length_singleton]; omega) (by rw [z_rl_app, List.length_append, List.length_append]; omega)
        rw [List.mem_append, List.mem_singleton] at hl
        rcases hl with hl | rfl
        · exact h2 l hl
        · exact k2
      · rw [if_neg q]
        exact ⟨g2, fun q => by cases q⟩
    · rw [if_neg hc]
      exact ⟨h1, fun _ => ⟨h2, h3, h4⟩⟩
theorem z_tx_g {n : Nat} {b : Nat → Nat} : (z_tx (z_ch n b)).2.1 ≤ n ∧ ((z_tx (z_ch n b)).1 = true → (∀ l, l ∈ (z_tx (z_ch n b)).2.2 → z_gl l) ∧ 2 * (z_tx (z_ch n b)).2.2.length ≤ (z_tx (z_ch n b)).2.1 + 1 ∧ (z_rl (z_tx (z_ch n b)).2.2).length ≤ (z_tx (z_ch n b)).2.1) := by
  obtain ⟨g1, g2, g3⟩ := z_ln_g (b := b) 0 0 (Nat.zero_le n)
  unfold z_tx
  by_cases q : (z_ln (z_ch n b) 0).1 = true
  · rw [if_pos q]
    obtain ⟨k1, k2, k3, k4⟩ := g3 q
    refine z_tl_g 120 _ _ g2 (fun l hl => ?_) (by rw [List.length_singleton]; omega) ?_
    · rw [List.mem_singleton] at hl
      rw [hl]
      exact k2
    · show ((z_ln (z_ch n b) 0).2.2.1 ++ ((z_ln (z_ch n b) 0).2.2.2 ++ [])).length ≤ _
      rw [List.append_nil, List.length_append]
      omega
  · rw [if_neg q]
    exact ⟨g2, fun q => by cases q⟩
def z_good (n : Nat) (b : Nat → Nat) : Prop := (z_tx (z_ch n b)).1 = true ∧ (z_tx (z_ch n b)).2.1 = n
theorem z_readW {n : Nat} {b : Nat → Nat} {u : k_S} (hn : n ≤ 120) (h1 : u.1 101 = J n) (h2 : ∀ j, j < n → b j ≤ 255 ∧ u.2.1 2 j = J (b j)) : k_sat (f_Reader_readTape u) (fun r v => z_fr [1002, 1003] [11] u v ∧ ((z_good n b ∧ r = -1 ∧ z_wcs v (z_cls 0 (z_tx (z_ch n b)).2.2) ∧ (z_cls 0 (z_tx (z_ch n b)).2.2).length ≤ 121) ∨ (¬ z_good n b ∧ r = J (z_tx (z_ch n b)).2.1))) := by
  have hf0 : z_fr [1002, 1003] [11] u (k_wF (k_wF u 1003 0) 1002 0) := (z_wF rfl).tr (z_wF rfl)
  have hx : z_wx n b (k_wF (k_wF u 1003 0) 1002 0) 0 := ⟨hn, (hf0.1 101 rfl).trans h1, fun j hj => by rw [hf0.2.1 2 rfl]; exact h2 j hj, by simp [k_wF, J_0], Nat.zero_le n⟩
  have hc : z_wcs (k_wF (k_wF u 1003 0) 1002 0) [] := ⟨by simp [k_wF, J_0], fun j s hj => by cases hj⟩
  unfold f_Reader_readTape
  refine z_let (z_let ?_)
  generalize k_wF (k_wF u 1003 0) 1002 0 = w at *
  have hgn : (z_tx (z_ch n b)).2.1 ≤ n := z_tx_g.1
  obtain ⟨lg1, lg2, lg3⟩ := z_ln_g (b := b) 0 0 (Nat.zero_le n)
  refine z_bind (fun r v => z_fr [1002, 1003] [11] u v ∧ z_wx n b v (z_tx (z_ch n b)).2.1 ∧ (((z_tx (z_ch n b)).1 = true ∧ r = 1 ∧ z_we n b v (z_tx (z_ch n b)).2.1 (z_tx (z_ch n b)).2.2) ∨ ((z_tx (z_ch n b)).1 = false ∧ (r = 0 ∨ (r = 1 ∧ 48 ≤ z_ch n b (z_tx (z_ch n b)).2.1 ∧ z_ch n b (z_tx (z_ch n b)).2.1 ≤ 57))))) ?_ (fun r v hv => ?_)
  · unfold f_Reader_lines
    refine z_bind _ (z_lineW hn (L := []) ⟨hx, hc, Nat.le_refl _⟩) (fun r v hv => ?_)
    obtain ⟨g1, g2, g3⟩ := hv
    have k1 := hf0.tr g1
    unfold z_tx
    by_cases q : (z_ln (z_ch n b) 0).1 = true
    · rw [if_pos q]
      obtain ⟨rfl, g4, g5⟩ := g2 q
      have e1 : z_cls 0 [(z_ln (z_ch n b) 0).2.2] = [] ++ z_l1 ([] : List Int32).length (z_ln (z_ch n b) 0).2.2 := by
        rw [z_cls, z_cls, List.append_nil]; rfl
      have hlen := (lg3 q).2.2.2
      refine z_neg (by decide) (z_bind _ (z_linesW hn 120 0 v _ [(z_ln (z_ch n b) 0).2.2] k_FU rfl (by unfold k_FU; omega) ⟨g4, by rw [e1]; exact g5, by rw [e1, List.nil_append]; exact hlen⟩) (fun y x hx => ?_))
      obtain ⟨p1, p2, p3⟩ := hx
      cases hz : (z_tl (z_ch n b) 120 (z_ln (z_ch n b) 0).2.1 [(z_ln (z_ch n b) 0).2.2]).1 with
      | true =>
        obtain ⟨rfl, p4⟩ := p2 hz
        simp only [k_cs]
        exact k_sat_mk ⟨k1.tr p1, p4.1, Or.inl ⟨by trivial, by trivial, p4⟩⟩
      | false =>
        obtain ⟨p4, rfl | ⟨rfl, p5⟩⟩ := p3 hz
        · simp only [k_cs]
          exact k_sat_mk ⟨k1.tr p1, p4, Or.inr ⟨by trivial, Or.inl (by trivial)⟩⟩
        · simp only [k_cs]
          exact k_sat_mk ⟨k1.tr p1, p4, Or.inr ⟨by trivial, Or.inr ⟨by trivial, p5⟩⟩⟩
    · rw [if_neg q]
      have q' : (z_ln (z_ch n b) 0).1 = false := by cases hq : (z_ln (z_ch n b) 0).1; rfl; exact absurd hq q
      obtain ⟨g4, rfl | ⟨rfl, g5⟩⟩ := g3 q'
      · exact z_pos rfl (k_sat_mk ⟨k1, g4, Or.inr ⟨rfl, Or.inl rfl⟩⟩)
      · refine z_neg (by decide) ?_
        rw [z_FU]
        have hp2 := z_passes g4 (c := 59) (by omega)
        rw [if_neg (by omega)] at hp2
        refine z_bind (fun y x => y = .inr () ∧ x = v) (z_exit ?_) (fun y x hx => ?_)
        · unfold f_Reader_lines_B11
          rw [show f_Reader_passes 59 v = _ from hp2, z_bind_some]
          exact z_neg (by decide) (z_pos rfl (k_sat_mk ⟨_, rfl, rfl, rfl⟩))
        · obtain ⟨rfl, rfl⟩ := hx
          simp only [k_cs]
          exact k_sat_mk ⟨k1, g4, Or.inr ⟨by trivial, Or.inr ⟨by trivial, g5⟩⟩⟩
  · obtain ⟨k1, k2, k3⟩ := hv
    have e1003 : v.1 1003 = J (z_tx (z_ch n b)).2.1 := k2.2.2.2.1
    have e101 : v.1 101 = J n := k2.2.1
    rw [e1003, e101]
    rcases k3 with ⟨q1, rfl, q2⟩ | ⟨q1, q2⟩
    · refine z_neg (by decide) (z_ite (fun c => k_sat_mk ⟨k1, Or.inl ⟨⟨q1, ?_⟩, rfl, q2.2.1, ?_⟩⟩) (fun c => k_sat_mk ⟨k1, Or.inr ⟨fun g => c (by rw [g.2]), rfl⟩⟩))
      · rw [J_inj (by omega) (by omega)] at c
        exact c
      · have := q2.2.2
        omega
    · have hng : ¬ z_good n b := fun g => by
        have := g.1
        rw [q1] at this
        cases this
      rcases q2 with rfl | ⟨rfl, q3⟩
      · exact z_pos rfl (k_sat_mk ⟨k1, Or.inr ⟨hng, rfl⟩⟩)
      · have : (z_tx (z_ch n b)).2.1 < n := z_ch_n (b := b) (by omega)
        refine z_neg (by decide) (z_neg ?_ (k_sat_mk ⟨k1, Or.inr ⟨hng, rfl⟩⟩))
        rw [J_inj (by omega) (by omega)]
        omega
theorem z_takeW {n : Nat} {b : Nat → Nat} {u : k_S} (hn : n ≤ 120) (h1 : u.1 101 = J n) (h2 : ∀ j, j < n → b j ≤ 255 ∧ u.2.1 2 j = J (b j)) : k_sat (f_Law_takeFromTape u) (fun r v => (z_good n b ∧ r = -1 ∧ z_fr [1002, 1003, 703] [11, 8] u v ∧ (z_cls 0 (z_tx (z_ch n b)).2.2).length ≤ 121 ∧ v.1 703 = J (z_cls 0 (z_tx (z_ch n b)).2.2).length ∧ ∀ i s, (z_cls 0 (z_tx (z_ch n b)).2.2)[i]? = some s → v.2.1 8 i = s) ∨ (¬ z_good n b ∧ r = J (z_tx (z_ch n b)).2.1 ∧ z_fr [1002, 1003] [11] u v)) := by
  unfold f_Law_takeFromTape
  refine z_bind _ (z_readW hn h1 h2) (fun r v hv => ?_)
  obtain ⟨k1, ⟨g, rfl, g2, g3⟩ | ⟨g, rfl⟩⟩ := hv
  · generalize z_cls 0 (z_tx (z_ch n b)).2.2 = L at *
    refine z_pos rfl (z_let ?_)
    rw [g2.1]
    have k2 : z_fr [1002, 1003, 703] [11, 8] u (k_wF v 703 (J L.length)) := (k1.mono rfl rfl).tr (z_wF rfl)
    have e703 : (k_wF v 703 (J L.length)).1 703 = J L.length := by simp [k_wF]
    have e11 : (k_wF v 703 (J L.length)).2.1 11 = v.2.1 11 := rfl
    generalize k_wF v 703 (J L.length) = w at *
    refine z_bind _ (z_for 0 L.length (fun i x => z_fr [] [8] w x ∧ ∀ j, j < i → x.2.1 8 j = v.2.1 11 j) (K := fun _ x => z_fr [] [8] w x ∧ ∀ j, j < L.length → x.2.1 8 j = v.2.1 11 j) (by omega) (Nat.zero_le _) ⟨z_fr.rf, fun j hj => by omega⟩ (fun i x _ hi hp => ?_) (fun x hp => ?_)) (fun _ x hx => k_sat_mk (Or.inl ⟨g, rfl, k2.tr (hx.1.mono rfl rfl), g3, (hx.1.1 703 rfl).trans e703, fun i s hs => ?_⟩))
    · obtain ⟨p1, p2⟩ := hp
      unfold f_Law_takeFromTape_B28
      rw [p1.1 703 rfl, e703, z_Reader_stepAt (by omega), z_bind_some]
      refine z_neg (by (try simp (disch := omega) only [Int32.lt_iff_toInt_lt, Int32.le_iff_toInt_le, ← Int32.toInt_inj, Int32.toInt_add, Int32.toInt_sub, Int32.toInt_mul, Int32.toInt_neg, z_bm, z_bm2, J_ti, J_toInt, z_cn, Int32.reduceToInt]) <;> omega) (z_neg (by (try simp (disch := omega) only [Int32.lt_iff_toInt_lt, Int32.le_iff_toInt_le, ← Int32.toInt_inj, Int32.toInt_add, Int32.toInt_sub, Int32.toInt_mul, Int32.toInt_neg, z_bm, z_bm2, J_ti, J_toInt, z_cn, Int32.reduceToInt]) <;> omega) (z_ck (by (try simp (disch := omega) only [Int32.lt_iff_toInt_lt, Int32.le_iff_toInt_le, ← Int32.toInt_inj, Int32.toInt_add, Int32.toInt_sub, Int32.toInt_mul, Int32.toInt_neg, z_bm, z_bm2, J_ti, J_toInt, z_cn, Int32.reduceToInt]) <;> omega) (by (try simp (disch := omega) only [Int32.lt_iff_toInt_lt, Int32.le_iff_toInt_le, ← Int32.toInt_inj, Int32.toInt_add, Int32.toInt_sub, Int32.toInt_mul, Int32.toInt_neg, z_bm, z_bm2, J_ti, J_toInt, z_cn, Int32.reduceToInt]) <;> omega) (z_let (k_sat_mk (Or.inl ⟨rfl, p1.tr (z_wA rfl), fun j hj => ?_⟩)))))
      simp only [k_wA, if_true, z_up, J_toNat (show i < 2147483648 by omega)]
      by_cases e : j = i
      · rw [if_pos e, e, p1.2.1 11 rfl, e11]
      · rw [if_neg e]
        exact p2 j (by omega)
    · unfold f_Law_takeFromTape_B28
      rw [hp.1.1 703 rfl, e703]
      exact z_pos (Int32.le_refl _) (k_sat_mk ⟨_, rfl, hp⟩)
    · have : i < L.length := by
        rcases Nat.lt_or_ge i L.length with x | x
        · exact x
        · rw [List.getElem?_eq_none x] at hs; cases hs
      rw [hx.2 i this]
      exact g2.2 i s hs
  · have := (z_tx_g (n := n) (b := b)).1
    refine z_neg (fun q => ?_) (k_sat_mk (Or.inr ⟨g, rfl, k1⟩))
    have := congrArg Int32.toInt q
    rw [J_toInt (by omega)] at this
    simp at this
