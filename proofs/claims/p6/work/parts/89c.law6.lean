/-! LAW: the class reads expressions -/
def z_lk (r : Int32) (c : Nat) : Prop := (c < 128 ∧ r = J c) ∨ (c = 200 ∧ (r.toInt < 0 ∨ 128 ≤ r.toInt))
theorem z_lk_eq {r : Int32} {c k : Nat} (h : z_lk r c) (hk : k < 128) : r = J k ↔ c = k := by
  rcases h with ⟨h1, rfl⟩ | ⟨rfl, h1⟩
  · rw [J_inj (by omega) (by omega)]
  · constructor
    · rintro rfl
      rw [J_toInt (by omega)] at h1
      omega
    · intro q; omega
theorem z_lk_J {r : Int32} {c : Nat} (h : z_lk r c) (hc : c < 128) : r = J c := (z_lk_eq h hc).mpr rfl
theorem z_digW {r : Int32} {c : Nat} (h : z_lk r c) (u : k_S) : f_Reader_isDigit r u = some (if 48 ≤ c ∧ c ≤ 57 then 1 else 0, u) := by
  unfold f_Reader_isDigit
  rcases h with ⟨h1, rfl⟩ | ⟨rfl, h1⟩
  · by_cases q1 : c < 48
    · rw [if_pos (by (try simp (disch := omega) only [Int32.lt_iff_toInt_lt, Int32.le_iff_toInt_le, ← Int32.toInt_inj, Int32.toInt_add, Int32.toInt_sub, Int32.toInt_mul, Int32.toInt_neg, z_bm, z_bm2, J_ti, J_toInt, z_cn, Int32.reduceToInt]) <;> omega), if_neg (by omega)]
    · by_cases q2 : 57 < c
      · rw [if_neg (by (try simp (disch := omega) only [Int32.lt_iff_toInt_lt, Int32.le_iff_toInt_le, ← Int32.toInt_inj, Int32.toInt_add, Int32.toInt_sub, Int32.toInt_mul, Int32.toInt_neg, z_bm, z_bm2, J_ti, J_toInt, z_cn, Int32.reduceToInt]) <;> omega), if_pos (by (try simp (disch := omega) only [Int32.lt_iff_toInt_lt, Int32.le_iff_toInt_le, ← Int32.toInt_inj, Int32.toInt_add, Int32.toInt_sub, Int32.toInt_mul, Int32.toInt_neg, z_bm, z_bm2, J_ti, J_toInt, z_cn, Int32.reduceToInt]) <;> omega), if_neg (by omega)]
      · rw [if_neg (by (try simp (disch := omega) only [Int32.lt_iff_toInt_lt, Int32.le_iff_toInt_le, ← Int32.toInt_inj, Int32.toInt_add, Int32.toInt_sub, Int32.toInt_mul, Int32.toInt_neg, z_bm, z_bm2, J_ti, J_toInt, z_cn, Int32.reduceToInt]) <;> omega), if_neg (by (try simp (disch := omega) only [Int32.lt_iff_toInt_lt, Int32.le_iff_toInt_le, ← Int32.toInt_inj, Int32.toInt_add, Int32.toInt_sub, Int32.toInt_mul, Int32.toInt_neg, z_bm, z_bm2, J_ti, J_toInt, z_cn, Int32.reduceToInt]) <;> omega), if_pos (by omega)]
  · rw [if_neg (by omega : ¬ (48 ≤ 200 ∧ 200 ≤ 57))]
    rcases h1 with h1 | h1
    · rw [if_pos (by ((try simp (disch := omega) only [Int32.lt_iff_toInt_lt, Int32.le_iff_toInt_le, ← Int32.toInt_inj, Int32.toInt_add, Int32.toInt_sub, Int32.toInt_mul, Int32.toInt_neg, z_bm, z_bm2, J_ti, J_toInt, z_cn, Int32.reduceToInt] at *); omega))]
    · rw [if_neg (by ((try simp (disch := omega) only [Int32.lt_iff_toInt_lt, Int32.le_iff_toInt_le, ← Int32.toInt_inj, Int32.toInt_add, Int32.toInt_sub, Int32.toInt_mul, Int32.toInt_neg, z_bm, z_bm2, J_ti, J_toInt, z_cn, Int32.reduceToInt] at *); omega)), if_pos (by ((try simp (disch := omega) only [Int32.lt_iff_toInt_lt, Int32.le_iff_toInt_le, ← Int32.toInt_inj, Int32.toInt_add, Int32.toInt_sub, Int32.toInt_mul, Int32.toInt_neg, z_bm, z_bm2, J_ti, J_toInt, z_cn, Int32.reduceToInt] at *); omega))]
/-- the class's tape, where it reads, what it has -/
def z_wx (n : Nat) (b : Nat → Nat) (u : k_S) (i : Nat) : Prop := n ≤ 120 ∧ u.1 101 = J n ∧ (∀ j, j < n → b j ≤ 255 ∧ u.2.1 2 j = J (b j)) ∧ u.1 1003 = J i ∧ i ≤ n
def z_wcs (u : k_S) (L : List Int32) : Prop := u.1 1002 = J L.length ∧ ∀ j s, L[j]? = some s → u.2.1 11 j = s
def z_ws (n : Nat) (b : Nat → Nat) (u : k_S) (i : Nat) (L : List Int32) : Prop := z_wx n b u i ∧ z_wcs u L ∧ L.length ≤ i
theorem z_wx_f {n i j : Nat} {b : Nat → Nat} {u v : k_S} (h : z_wx n b u i) (hf : z_fr [1002, 1003] [11] u v) (e : v.1 1003 = J j) (hj : j ≤ n) : z_wx n b v j := by
  obtain ⟨h1, h2, h3, -, -⟩ := h
  refine ⟨h1, (hf.1 101 rfl).trans h2, fun k hk => ?_, e, hj⟩
  rw [hf.2.1 2 rfl]
  exact h3 k hk
theorem z_at {n i : Nat} {b : Nat → Nat} {u : k_S} (h : z_wx n b u i) : ∃ r, f_Tape_at (u.1 1003) u = some (r, u) ∧ z_lk r (z_ch n b i) := by
  obtain ⟨h1, h2, h3, h4, h5⟩ := h
  rw [h4]
  by_cases q : i < n
  · refine ⟨J (b i), z_tapeAt h2 h1 q (h3 i q).2, ?_⟩
    unfold z_ch
    rw [if_pos q]
    by_cases q2 : b i < 128
    · rw [if_pos q2]
      exact Or.inl ⟨q2, rfl⟩
    · rw [if_neg q2]
      have := (h3 i q).1
      exact Or.inr ⟨rfl, Or.inr (by rw [J_toInt (by omega)]; omega)⟩
  · refine ⟨-1, ?_, ?_⟩
    · unfold f_Tape_at
      rw [h2, if_neg (by (try simp (disch := omega) only [Int32.lt_iff_toInt_lt, Int32.le_iff_toInt_le, ← Int32.toInt_inj, Int32.toInt_add, Int32.toInt_sub, Int32.toInt_mul, Int32.toInt_neg, z_bm, z_bm2, J_ti, J_toInt, z_cn, Int32.reduceToInt]) <;> omega), if_pos (by (try simp (disch := omega) only [Int32.lt_iff_toInt_lt, Int32.le_iff_toInt_le, ← Int32.toInt_inj, Int32.toInt_add, Int32.toInt_sub, Int32.toInt_mul, Int32.toInt_neg, z_bm, z_bm2, J_ti, J_toInt, z_cn, Int32.reduceToInt]) <;> omega)]
    · unfold z_ch
      rw [if_neg q]
      exact Or.inr ⟨rfl, Or.inl (by decide)⟩
theorem z_addT (s : Int32) (u : k_S) : k_sat (f_Reader_add s u) (fun _ v => z_fr [1002] [11] u v) := by
  unfold f_Reader_add
  refine z_ite (fun _ => k_sat_mk z_fr.rf) (fun q => z_ite (fun q2 => z_ck (by ((try simp (disch := omega) only [Int32.lt_iff_toInt_lt, Int32.le_iff_toInt_le, ← Int32.toInt_inj, Int32.toInt_add, Int32.toInt_sub, Int32.toInt_mul, Int32.toInt_neg, z_bm, z_bm2, J_ti, J_toInt, z_cn, Int32.reduceToInt] at *); omega)) (by ((try simp (disch := omega) only [Int32.lt_iff_toInt_lt, Int32.le_iff_toInt_le, ← Int32.toInt_inj, Int32.toInt_add, Int32.toInt_sub, Int32.toInt_mul, Int32.toInt_neg, z_bm, z_bm2, J_ti, J_toInt, z_cn, Int32.reduceToInt] at *); omega)) (z_let (z_let (k_sat_mk ((z_wA rfl).tr (z_wF rfl)))))) (fun _ => k_sat_mk z_fr.rf))
theorem z_add {L : List Int32} {s : Int32} {u : k_S} (h : z_wcs u L) (hl : L.length < 128) : k_sat (f_Reader_add s u) (fun _ v => z_fr [1002] [11] u v ∧ z_wcs v (L ++ [s])) := by
  obtain ⟨h1, h2⟩ := h
  unfold f_Reader_add
  rw [h1, J_toNat (by omega)]
  refine z_neg (by (try simp (disch := omega) only [Int32.lt_iff_toInt_lt, Int32.le_iff_toInt_le, ← Int32.toInt_inj, Int32.toInt_add, Int32.toInt_sub, Int32.toInt_mul, Int32.toInt_neg, z_bm, z_bm2, J_ti, J_toInt, z_cn, Int32.reduceToInt]) <;> omega) (z_pos (by (try simp (disch := omega) only [Int32.lt_iff_toInt_lt, Int32.le_iff_toInt_le, ← Int32.toInt_inj, Int32.toInt_add, Int32.toInt_sub, Int32.toInt_mul, Int32.toInt_neg, z_bm, z_bm2, J_ti, J_toInt, z_cn, Int32.reduceToInt]) <;> omega) (z_ck (by (try simp (disch := omega) only [Int32.lt_iff_toInt_lt, Int32.le_iff_toInt_le, ← Int32.toInt_inj, Int32.toInt_add, Int32.toInt_sub, Int32.toInt_mul, Int32.toInt_neg, z_bm, z_bm2, J_ti, J_toInt, z_cn, Int32.reduceToInt]) <;> omega) (by (try simp (disch := omega) only [Int32.lt_iff_toInt_lt, Int32.le_iff_toInt_le, ← Int32.toInt_inj, Int32.toInt_add, Int32.toInt_sub, Int32.toInt_mul, Int32.toInt_neg, z_bm, z_bm2, J_ti, J_toInt, z_cn, Int32.reduceToInt]) <;> omega) (z_let (z_let (k_sat_mk ⟨(z_wA rfl).tr (z_wF rfl), ?_, fun j x hj => ?_⟩)))))
  · rw [List.length_append, List.length_singleton]
    simp [k_wF, k_wA, h1, z_Jp]
  · simp only [k_wF, k_wA, if_true, z_up]
    by_cases e : j = L.length
    · rw [if_pos e]
      rw [e, List.getElem?_append_right (Nat.le_refl _), Nat.sub_self] at hj
      simpa using hj
    · rw [if_neg e]
      refine h2 j x ?_
      rcases Nat.lt_or_ge j L.length with q | q
      · rw [List.getElem?_append_left q] at hj; exact hj
      · rw [List.getElem?_append_right q, List.getElem?_eq_none (by rw [List.length_singleton]; omega)] at hj
        cases hj
theorem z_wcs_f {L : List Int32} {u v : k_S} (h : z_wcs u L) (h1 : v.1 1002 = u.1 1002) (h2 : v.2.1 11 = u.2.1 11) : z_wcs v L := ⟨h1.trans h.1, fun j s hs => (congrFun h2 j).trans (h.2 j s hs)⟩
theorem z_nx1 {n i : Nat} {b : Nat → Nat} {u : k_S} (h : z_wx n b u i) (hi : i < n) : k_wF u 1003 (u.1 1003 + 1) = k_wF u 1003 (J (i + 1)) ∧ z_wx n b (k_wF u 1003 (J (i + 1))) (i + 1) := by
  refine ⟨by rw [h.2.2.2.1, z_Jp], z_wx_f h (z_wF rfl) (by simp [k_wF]) hi⟩
theorem z_passes {n i c : Nat} {b : Nat → Nat} {u : k_S} (h : z_wx n b u i) (hc : c < 128) : f_Reader_passes (J c) u = if z_ch n b i = c then some (1, k_wF u 1003 (J (i + 1))) else some (0, u) := by
  obtain ⟨r, hr, hk⟩ := z_at h
  unfold f_Reader_passes
  rw [hr, z_bind_some]
  by_cases q : z_ch n b i = c
  · rw [if_pos q, if_pos ((z_lk_eq hk hc).mpr q)]
    simp only [k_let]
    rw [h.2.2.2.1, z_Jp]
  · rw [if_neg q, if_neg (fun x => q ((z_lk_eq hk hc).mp x))]
/-- the class reads as the pure reader does -/
def z_PW (n : Nat) (b : Nat → Nat) (g : k_S → Option (Int32 × k_S)) (P : z_Pa) : Prop := ∀ u i L, z_ws n b u i L → k_sat (g u) (fun r v => z_fr [1002, 1003] [11] u v ∧ ((P i).1 = true → r = 1 ∧ z_ws n b v (P i).2.1 (L ++ (P i).2.2)) ∧ ((P i).1 = false → z_wx n b v (P i).2.1 ∧ (r = 0 ∨ (r = 1 ∧ 48 ≤ z_ch n b (P i).2.1 ∧ z_ch n b (P i).2.1 ≤ 57))))
theorem z_loopW {n kk : Nat} {b : Nat → Nat} {os : List Nat} {sg : z_Pa} {bd : Int32 → k_S → Option ((Int32 ⊕ (Int32 ⊕ Unit)) × k_S)} (hdg : ∀ c, c ∈ os → ¬ (48 ≤ c ∧ c ≤ 57)) (hex : ∀ k u i, k < kk → z_wx n b u i → ¬ z_ch n b i ∈ os → k_sat (bd (J k) u) (fun z v => v = u ∧ (z = .inr (.inl 1) ∨ z = .inr (.inr ())))) (hend : ∀ u, k_sat (bd (J kk) u) (fun z v => v = u ∧ z = .inr (.inr ()))) (hop : ∀ k u i L, k < kk → z_ws n b u i L → z_ch n b i ∈ os → k_sat (bd (J k) u) (fun z v => z_fr [1002, 1003] [11] u v ∧ ((sg (i + 1)).1 = true → z = .inl (J k + Int32.ofInt 1) ∧ z_ws n b v (sg (i + 1)).2.1 (L ++ (sg (i + 1)).2.2 ++ [-(J (z_ch n b i))])) ∧ ((sg (i + 1)).1 = false → z_wx n b v (sg (i + 1)).2.1 ∧ (z = .inr (.inl 0) ∨ (z = .inl (J k + Int32.ofInt 1) ∧ 48 ≤ z_ch n b (sg (i + 1)).2.1 ∧ z_ch n b (sg (i + 1)).2.1 ≤ 57))))) : ∀ (m k : Nat) (u : k_S) (i : Nat) (L C : List Int32) (N : Nat), k + m = kk → m + 1 < N → z_ws n b u i (L ++ C) → k_sat (k_itr bd N (J k) u) (fun y v => z_fr [1002, 1003] [11] u v ∧ ((z_lp (z_ch n b) os sg m i C).1 = true → (y = .inl 1 ∨ y = .inr ()) ∧ z_ws n b v (z_lp (z_ch n b) os sg m i C).2.1 (L ++ (z_lp (z_ch n b) os sg m i C).2.2)) ∧ ((z_lp (z_ch n b) os sg m i C).1 = false → z_wx n b v (z_lp (z_ch n b) os sg m i C).2.1 ∧ (y = .inl 0 ∨ ((y = .inl 1 ∨ y = .inr ()) ∧ 48 ≤ z_ch n b (z_lp (z_ch n b) os sg m i C).2.1 ∧ z_ch n b (z_lp (z_ch n b) os sg m i C).2.1 ≤ 57))))
  | 0, k, u, i, L, C, N, hk, hN, hs => by
    obtain ⟨M, rfl⟩ : ∃ M, N = M + 1 := ⟨N - 1, by omega⟩
    have hk : k = kk := hk
    subst hk
    refine z_exit (z_mono (hend u) (fun z v hv => ?_))
    obtain ⟨rfl, rfl⟩ := hv
    exact ⟨_, rfl, z_fr.rf, fun _ => ⟨Or.inr rfl, hs⟩, fun q => by cases q⟩
  | m + 1, k, u, i, L, C, N, hk, hN, hs => by
    obtain ⟨M, rfl⟩ : ∃ M, N = M + 1 := ⟨N - 1, by omega⟩
    rw [z_lp]
    by_cases hc : z_ch n b i ∈ os
    · rw [if_pos hc]
      obtain ⟨⟨z, v⟩, e, h1, h2, h3⟩ := hop k u i (L ++ C) (by omega) hs hc
      by_cases q : (sg (i + 1)).1 = true
      · rw [if_pos q]
        obtain ⟨rfl, h4⟩ := h2 q
        refine z_turn ?_
        rw [e]
        refine k_sat_mk ⟨_, rfl, ?_⟩
        dsimp only at h1 h4
        rw [z_J1]
        rw [List.append_assoc L, List.append_assoc L] at h4
        refine z_mono (z_loopW hdg hex hend hop m (k + 1) v _ L (C ++ (sg (i + 1)).2.2 ++ [-(J (z_ch n b i))]) M (by omega) (by omega) h4) (fun y w hw => ⟨h1.tr hw.1, hw.2⟩)
      · rw [if_neg q]
        obtain ⟨h4, h5⟩ := h3 (by cases hq : (sg (i + 1)).1; rfl; exact absurd hq q)
        dsimp only at h1 h4 h5
        rcases h5 with rfl | ⟨rfl, h5⟩
        · refine z_exit ?_
          rw [e]
          exact k_sat_mk ⟨_, rfl, h1, fun q' => (by cases q'), fun _ => ⟨h4, Or.inl rfl⟩⟩
        · refine z_turn ?_
          rw [e]
          refine k_sat_mk ⟨_, rfl, ?_⟩
          rw [z_J1]
          obtain ⟨M', rfl⟩ : ∃ M', M = M' + 1 := ⟨M - 1, by omega⟩
          by_cases hm : m = 0
          · have hk1 : k + 1 = kk := by omega
            rw [hk1]
            refine z_exit (z_mono (hend v) (fun z w hw => ?_))
            obtain ⟨rfl, rfl⟩ := hw
            exact ⟨_, rfl, h1, fun q' => (by cases q'), fun _ => ⟨h4, Or.inr ⟨Or.inr rfl, h5⟩⟩⟩
          · refine z_exit (z_mono (hex (k + 1) v _ (by omega) h4 (fun x => hdg _ x h5)) (fun z w hw => ?_))
            obtain ⟨rfl, rfl | rfl⟩ := hw
            · exact ⟨_, rfl, h1, fun q' => (by cases q'), fun _ => ⟨h4, Or.inr ⟨Or.inl rfl, h5⟩⟩⟩
            · exact ⟨_, rfl, h1, fun q' => (by cases q'), fun _ => ⟨h4, Or.inr ⟨Or.inr rfl, h5⟩⟩⟩
    · rw [if_neg hc]
      refine z_exit (z_mono (hex k u i (by omega) hs.1 hc) (fun z v hv => ?_))
      obtain ⟨rfl, rfl | rfl⟩ := hv
      · exact ⟨_, rfl, z_fr.rf, fun _ => ⟨Or.inl rfl, hs⟩, fun q => by cases q⟩
      · exact ⟨_, rfl, z_fr.rf, fun _ => ⟨Or.inr rfl, hs⟩, fun q => by cases q⟩
theorem z_lvW {n kk : Nat} {b : Nat → Nat} {os : List Nat} {sg : z_Pa} {f : k_S → Option (Int32 × k_S)} {bd : Int32 → k_S → Option ((Int32 ⊕ (Int32 ⊕ Unit)) × k_S)} (hf : z_PW n b f sg) (hkk : 0 < kk) (hkk2 : kk ≤ 120) (hdg : ∀ c, c ∈ os → ¬ (48 ≤ c ∧ c ≤ 57)) (hex : ∀ k u i, k < kk → z_wx n b u i → ¬ z_ch n b i ∈ os → k_sat (bd (J k) u) (fun z v => v = u ∧ (z = .inr (.inl 1) ∨ z = .inr (.inr ())))) (hend : ∀ u, k_sat (bd (J kk) u) (fun z v => v = u ∧ z = .inr (.inr ()))) (hop : ∀ k u i L, k < kk → z_ws n b u i L → z_ch n b i ∈ os → k_sat (bd (J k) u) (fun z v => z_fr [1002, 1003] [11] u v ∧ ((sg (i + 1)).1 = true → z = .inl (J k + Int32.ofInt 1) ∧ z_ws n b v (sg (i + 1)).2.1 (L ++ (sg (i + 1)).2.2 ++ [-(J (z_ch n b i))])) ∧ ((sg (i + 1)).1 = false → z_wx n b v (sg (i + 1)).2.1 ∧ (z = .inr (.inl 0) ∨ (z = .inl (J k + Int32.ofInt 1) ∧ 48 ≤ z_ch n b (sg (i + 1)).2.1 ∧ z_ch n b (sg (i + 1)).2.1 ≤ 57))))) : z_PW n b (fun u => k_bind (f u) (fun r2 u1 => if r2 = 0 then some (0, u1) else k_bind (k_itr bd k_FU 0 u1) (fun y u9 => k_cs y (fun r => some (r, u9)) (fun _ => some (1, u9))))) (z_lv (z_ch n b) os kk sg) := by
  intro u i L hs
  refine z_bind _ (hf u i L hs) (fun r v hv => ?_)
  obtain ⟨h1, h2, h3⟩ := hv
  unfold z_lv
  by_cases q : (sg i).1 = true
  · rw [if_pos q]
    obtain ⟨rfl, h4⟩ := h2 q
    refine z_neg (by decide) (z_bind _ (z_loopW hdg hex hend hop kk 0 v _ L (sg i).2.2 k_FU (by omega) (by unfold k_FU; omega) h4) (fun y w hw => ?_))
    obtain ⟨g1, g2, g3⟩ := hw
    cases hz : (z_lp (z_ch n b) os sg kk (sg i).2.1 (sg i).2.2).1 with
    | true =>
      obtain ⟨rfl | rfl, g4⟩ := g2 hz
      · simp only [k_cs]
        exact k_sat_mk ⟨h1.tr g1, fun _ => ⟨rfl, g4⟩, fun q => (by cases q)⟩
      · simp only [k_cs]
        exact k_sat_mk ⟨h1.tr g1, fun _ => ⟨rfl, g4⟩, fun q => (by cases q)⟩
    | false =>
      obtain ⟨g4, rfl | ⟨rfl | rfl, g5⟩⟩ := g3 hz
      · simp only [k_cs]
        exact k_sat_mk ⟨h1.tr g1, fun q => (by cases q), fun _ => ⟨g4, Or.inl rfl⟩⟩
      · simp only [k_cs]
        exact k_sat_mk ⟨h1.tr g1, fun q => (by cases q), fun _ => ⟨g4, Or.inr ⟨rfl, g5⟩⟩⟩
      · simp only [k_cs]
        exact k_sat_mk ⟨h1.tr g1, fun q => (by cases q), fun _ => ⟨g4, Or.inr ⟨rfl, g5⟩⟩⟩
  · rw [if_neg q]
    obtain ⟨h4, rfl | ⟨rfl, h5⟩⟩ := h3 (by cases hq : (sg i).1; rfl; exact absurd hq q)
    · exact z_pos rfl (k_sat_mk ⟨h1, fun q => (by cases q), fun _ => ⟨h4, Or.inl rfl⟩⟩)
    · refine z_neg (by decide) ?_
      rw [z_FU]
      refine z_bind (fun y w => w = v ∧ (y = .inl 1 ∨ y = .inr ())) (z_exit (z_mono (hex 0 v _ hkk h4 (fun x => hdg _ x h5)) (fun z w hw => ?_))) (fun y w hw => ?_)
      · obtain ⟨rfl, rfl | rfl⟩ := hw
        · exact ⟨_, rfl, rfl, Or.inl rfl⟩
        · exact ⟨_, rfl, rfl, Or.inr rfl⟩
      · obtain ⟨rfl, rfl | rfl⟩ := hw
        · simp only [k_cs]
          exact k_sat_mk ⟨h1, fun q => (by cases q), fun _ => ⟨h4, Or.inr ⟨rfl, h5⟩⟩⟩
        · simp only [k_cs]
          exact k_sat_mk ⟨h1, fun q => (by cases q), fun _ => ⟨h4, Or.inr ⟨rfl, h5⟩⟩⟩
