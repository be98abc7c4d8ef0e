/-! LAW: the reference reads expressions -/
/-- what stays, and what a text that is read but not kept leaves as it was -/
def z_lo (u v : k_S) : Prop := (∀ j, j < 130 → v.2.1 49 j = u.2.1 49 j ∧ v.2.1 50 j = u.2.1 50 j) ∧ v.2.1 51 0 = u.2.1 51 0 ∧ ∀ j, j < 61 → v.2.1 52 j = u.2.1 52 j ∧ v.2.1 53 j = u.2.1 53 j
def z_fk (F A : List Nat) (u v : k_S) : Prop := (∀ i, F.elem i = false → v.1 i = u.1 i) ∧ (∀ c, A.elem c = false → v.2.1 c = u.2.1 c) ∧ (∀ c, z_el A c = false → v.2.2 c = u.2.2 c) ∧ z_lo u v
theorem z_fk.fr {F A : List Nat} {u v : k_S} (h : z_fk F A u v) : z_fr F A u v := ⟨h.1, h.2.1, h.2.2.1⟩
theorem z_lo_r (u : k_S) : z_lo u u := ⟨fun _ _ => ⟨rfl, rfl⟩, rfl, fun _ _ => ⟨rfl, rfl⟩⟩
theorem z_lo_t {u v w : k_S} (h : z_lo u v) (k : z_lo v w) : z_lo u w := ⟨fun j hj => ⟨(k.1 j hj).1.trans (h.1 j hj).1, (k.1 j hj).2.trans (h.1 j hj).2⟩, k.2.1.trans h.2.1, fun j hj => ⟨(k.2.2 j hj).1.trans (h.2.2 j hj).1, (k.2.2 j hj).2.trans (h.2.2 j hj).2⟩⟩
theorem z_fk_of {F A : List Nat} {u v : k_S} (h : z_fr F A u v) (k : z_lo u v) : z_fk F A u v := ⟨h.1, h.2.1, h.2.2, k⟩
theorem z_fk.rf {F A : List Nat} {u : k_S} : z_fk F A u u := z_fk_of z_fr.rf (z_lo_r u)
theorem z_fk.tr {F A : List Nat} {u v w : k_S} (h : z_fk F A u v) (k : z_fk F A v w) : z_fk F A u w := z_fk_of (h.fr.tr k.fr) (z_lo_t h.2.2.2 k.2.2.2)
theorem z_fk.mono {F A F' A' : List Nat} {u v : k_S} (h : z_fk F A u v) (h1 : z_sub F F' = true) (h2 : z_sub A A' = true) : z_fk F' A' u v := z_fk_of (h.fr.mono h1 h2) h.2.2.2
theorem z_kF {F A : List Nat} {u : k_S} {i : Nat} {v : Int32} (h : F.elem i = true) : z_fk F A u (k_wF u i v) := z_fk_of (z_wF h) (z_lo_r u)
theorem z_kB {F A : List Nat} {u : k_S} {k i : Nat} {v : Int32} (h : A.elem k = true) (hi : (k = 49 → 130 ≤ i) ∧ (k = 50 → 130 ≤ i) ∧ (k = 51 → 1 ≤ i) ∧ (k = 52 → 61 ≤ i) ∧ (k = 53 → 61 ≤ i)) : z_fk F A u (k_wA u k i v) := by
  refine z_fk_of (z_wA h) ⟨fun j hj => ?_, ?_, fun j hj => ?_⟩
  · have key : ∀ c, (c = 49 ∨ c = 50) → (k_wA u k i v).2.1 c j = u.2.1 c j := fun c hc => by
      simp only [k_wA]
      by_cases e : c = k
      · rw [if_pos e, z_up, if_neg (by omega), e]
      · rw [if_neg e]
    exact ⟨key 49 (Or.inl rfl), key 50 (Or.inr rfl)⟩
  · simp only [k_wA]
    by_cases e : 51 = k
    · rw [if_pos e, z_up, if_neg (by omega), e]
    · rw [if_neg e]
  · have key : ∀ c, (c = 52 ∨ c = 53) → (k_wA u k i v).2.1 c j = u.2.1 c j := fun c hc => by
      simp only [k_wA]
      by_cases e : c = k
      · rw [if_pos e, z_up, if_neg (by omega), e]
      · rw [if_neg e]
    exact ⟨key 52 (Or.inl rfl), key 53 (Or.inr rfl)⟩
theorem z_b8_all : ((List.range 256).all fun b => if b < 128 then (J b).toInt8.toInt32 == J b else decide ((J b).toInt8.toInt32.toInt < 0)) = true := by decide +kernel
theorem z_b8 {b : Nat} (h : b ≤ 255) : (b < 128 → (J b).toInt8.toInt32 = J b) ∧ (¬ b < 128 → (J b).toInt8.toInt32.toInt < 0) := by
  have := List.all_eq_true.mp z_b8_all b (List.mem_range.mpr (by omega))
  constructor
  · intro q
    rw [if_pos q] at this
    exact eq_of_beq this
  · intro q
    rw [if_neg q] at this
    exact of_decide_eq_true this
theorem z_b16_all : ((List.range 131).all fun b => (J b).toInt16.toInt32 == J b) = true := by decide +kernel
theorem z_b16 {b : Nat} (h : b ≤ 130) : (J b).toInt16.toInt32 = J b := eq_of_beq (List.all_eq_true.mp z_b16_all b (List.mem_range.mpr (by omega)))
def z_rx (n : Nat) (b : Nat → Nat) (u : k_S) : Prop := n ≤ 120 ∧ u.1 4202 = J n ∧ ∀ j, j < n → b j ≤ 255 ∧ u.2.1 43 j = (J (b j)).toInt8.toInt32
def z_rc (u : k_S) (L : List Int32) : Prop := u.1 4215 = J L.length ∧ ∀ j s, L[j]? = some s → z_ra s (u.2.1 49 (130 + j)) (u.2.1 50 (130 + j))
def z_rs (n : Nat) (b : Nat → Nat) (u : k_S) (i : Nat) (L : List Int32) : Prop := z_rx n b u ∧ u.1 4212 = J i ∧ i ≤ n ∧ u.1 4213 = -1 ∧ z_rc u L ∧ L.length ≤ i
/-- a fault at j; since place i there are few steps more -/
def z_rf (n : Nat) (b : Nat → Nat) (u : k_S) (j i l0 : Nat) : Prop := z_rx n b u ∧ u.1 4213 = J j ∧ j ≤ n ∧ ∃ h l, u.1 4212 = J h ∧ h ≤ n ∧ i ≤ h ∧ u.1 4215 = J l ∧ l + i ≤ l0 + h + 1
theorem z_rx_f {n : Nat} {b : Nat → Nat} {u v : k_S} (h : z_rx n b u) (hf : z_fk [4212, 4213, 4214, 4215] [49, 50] u v) : z_rx n b v :=
  ⟨h.1, (hf.1 4202 rfl).trans h.2.1, fun j hj => by rw [hf.2.1 43 rfl]; exact h.2.2 j hj⟩
theorem z_rc_f {L : List Int32} {u v : k_S} (h : z_rc u L) (h1 : v.1 4215 = u.1 4215) (h2 : v.2.1 49 = u.2.1 49) (h3 : v.2.1 50 = u.2.1 50) : z_rc v L := ⟨h1.trans h.1, by rw [h2, h3]; exact h.2⟩
theorem z_rf_w {n j i i' l l' : Nat} {b : Nat → Nat} {u : k_S} (h : z_rf n b u j i l) (hi : i' ≤ i) (hl : l + i' ≤ l' + i) : z_rf n b u j i' l' := by
  obtain ⟨h1, h2, h3, x, y, h4, h5, h6, h7, h8⟩ := h
  exact ⟨h1, h2, h3, x, y, h4, h5, by omega, h7, by omega⟩
theorem z_look {n i : Nat} {b : Nat → Nat} {u : k_S} (h : z_rx n b u) (e : u.1 4212 = J i) (hi : i ≤ n) : ∃ r, f_R_look u = some (r, u) ∧ z_lk r (z_ch n b i) := by
  obtain ⟨h1, h2, h3⟩ := h
  unfold f_R_look
  rw [e, h2]
  by_cases q : i < n
  · refine ⟨(J (b i)).toInt8.toInt32, ?_, ?_⟩
    · rw [if_neg (by (try simp (disch := omega) only [Int32.lt_iff_toInt_lt, Int32.le_iff_toInt_le, ← Int32.toInt_inj, Int32.toInt_add, Int32.toInt_sub, Int32.toInt_mul, Int32.toInt_neg, z_bm, z_bm2, J_ti, J_toInt, z_cn, Int32.reduceToInt]) <;> omega), z_cko _ (by (try simp (disch := omega) only [Int32.lt_iff_toInt_lt, Int32.le_iff_toInt_le, ← Int32.toInt_inj, Int32.toInt_add, Int32.toInt_sub, Int32.toInt_mul, Int32.toInt_neg, z_bm, z_bm2, J_ti, J_toInt, z_cn, Int32.reduceToInt]) <;> omega) (by (try simp (disch := omega) only [Int32.lt_iff_toInt_lt, Int32.le_iff_toInt_le, ← Int32.toInt_inj, Int32.toInt_add, Int32.toInt_sub, Int32.toInt_mul, Int32.toInt_neg, z_bm, z_bm2, J_ti, J_toInt, z_cn, Int32.reduceToInt]) <;> omega), J_toNat (by omega), (h3 i q).2]
    · unfold z_ch
      rw [if_pos q]
      obtain ⟨a1, a2⟩ := z_b8 (h3 i q).1
      by_cases q2 : b i < 128
      · rw [if_pos q2]
        exact Or.inl ⟨q2, a1 q2⟩
      · rw [if_neg q2]
        exact Or.inr ⟨rfl, Or.inl (a2 q2)⟩
  · refine ⟨-1, ?_, ?_⟩
    · rw [if_pos (by (try simp (disch := omega) only [Int32.lt_iff_toInt_lt, Int32.le_iff_toInt_le, ← Int32.toInt_inj, Int32.toInt_add, Int32.toInt_sub, Int32.toInt_mul, Int32.toInt_neg, z_bm, z_bm2, J_ti, J_toInt, z_cn, Int32.reduceToInt]) <;> omega)]
    · unfold z_ch
      rw [if_neg q]
      exact Or.inr ⟨rfl, Or.inl (by decide)⟩
theorem z_inR {r : Int32} {c : Nat} (h : z_lk r c) (u : k_S) : f_R_in r 48 57 u = some (if 48 ≤ c ∧ c ≤ 57 then 1 else 0, u) := z_digW h u
theorem z_addRe {l : Nat} {a w : Int32} {u : k_S} (h : u.1 4215 = J l) (hl : l < 130) : f_R_addStep a w u = some ((), k_wF (k_wA (k_wA u 49 (130 + l) ((a).toInt8.toInt32).toInt8.toInt32) 50 (130 + l) w) 4215 (J (l + 1))) := by
  unfold f_R_addStep
  have e1 : (130 : Int32) + J l = J (130 + l) := by rw [show (130 : Int32) = J 130 from rfl, J_add]
  rw [h, e1, z_cko _ (by (try simp (disch := omega) only [Int32.lt_iff_toInt_lt, Int32.le_iff_toInt_le, ← Int32.toInt_inj, Int32.toInt_add, Int32.toInt_sub, Int32.toInt_mul, Int32.toInt_neg, z_bm, z_bm2, J_ti, J_toInt, z_cn, Int32.reduceToInt]) <;> omega) (by (try simp (disch := omega) only [Int32.lt_iff_toInt_lt, Int32.le_iff_toInt_le, ← Int32.toInt_inj, Int32.toInt_add, Int32.toInt_sub, Int32.toInt_mul, Int32.toInt_neg, z_bm, z_bm2, J_ti, J_toInt, z_cn, Int32.reduceToInt]) <;> omega)]
  simp only [k_let]
  have e2 : ∀ x : Int32, (k_wA u 49 (130 + l) x).1 4215 = J l := fun x => h
  rw [J_toNat (by omega), e2, e1, z_cko _ (by (try simp (disch := omega) only [Int32.lt_iff_toInt_lt, Int32.le_iff_toInt_le, ← Int32.toInt_inj, Int32.toInt_add, Int32.toInt_sub, Int32.toInt_mul, Int32.toInt_neg, z_bm, z_bm2, J_ti, J_toInt, z_cn, Int32.reduceToInt]) <;> omega) (by (try simp (disch := omega) only [Int32.lt_iff_toInt_lt, Int32.le_iff_toInt_le, ← Int32.toInt_inj, Int32.toInt_add, Int32.toInt_sub, Int32.toInt_mul, Int32.toInt_neg, z_bm, z_bm2, J_ti, J_toInt, z_cn, Int32.reduceToInt]) <;> omega), J_toNat (by omega)]
  have e3 : ∀ x y : Int32, (k_wA (k_wA u 49 (130 + l) x) 50 (130 + l) y).1 4215 = J l := fun x y => h
  rw [e3, z_Jp]
theorem z_addR {k : Nat} {L : List Int32} {s w : Int32} {u : k_S} (h : z_rc u L) (hl : L.length < 130) (hk : k < 128) (hra : z_ra s (J k) w) : k_sat (f_R_addStep (J k) w u) (fun _ v => z_fk [4215] [49, 50] u v ∧ z_rc v (L ++ [s])) := by
  obtain ⟨h1, h2⟩ := h
  rw [z_addRe h1 hl]
  refine k_sat_mk ⟨((z_kB rfl (by omega)).tr (z_kB rfl (by omega))).tr (z_kF rfl), ?_, fun j x hj => ?_⟩
  · rw [List.length_append, List.length_singleton]
    simp [k_wF]
  · have e8 : (((J k).toInt8.toInt32).toInt8.toInt32) = J k := by rw [(z_b8 (show k ≤ 255 by omega)).1 hk, (z_b8 (show k ≤ 255 by omega)).1 hk]
    have e49 : (k_wF (k_wA (k_wA u 49 (130 + L.length) ((J k).toInt8.toInt32).toInt8.toInt32) 50 (130 + L.length) w) 4215 (J (L.length + 1))).2.1 49 = upd (u.2.1 49) (130 + L.length) (J k) := by rw [e8]; simp [k_wF, k_wA]
    have e50 : (k_wF (k_wA (k_wA u 49 (130 + L.length) ((J k).toInt8.toInt32).toInt8.toInt32) 50 (130 + L.length) w) 4215 (J (L.length + 1))).2.1 50 = upd (u.2.1 50) (130 + L.length) w := by simp [k_wF, k_wA]
    rw [e49, e50, z_up, z_up]
    by_cases e : j = L.length
    · rw [if_pos (by omega), if_pos (by omega)]
      rw [e, List.getElem?_append_right (Nat.le_refl _), Nat.sub_self] at hj
      have : s = x := by simpa using hj
      rw [← this]
      exact hra
    · rw [if_neg (by omega), if_neg (by omega)]
      refine h2 j x ?_
      rcases Nat.lt_or_ge j L.length with q | q
      · rw [List.getElem?_append_left q] at hj; exact hj
      · rw [List.getElem?_append_right q, List.getElem?_eq_none (by rw [List.length_singleton]; omega)] at hj
        cases hj
/-- a step laid after a fault -/
theorem z_addF {n j i l0 : Nat} {b : Nat → Nat} {a w : Int32} {u : k_S} (h : z_rf n b u j (i + 1) l0) (hl : l0 ≤ i) : k_sat (f_R_addStep a w u) (fun _ v => z_fk [4215] [49, 50] u v ∧ z_rf n b v j i l0) := by
  obtain ⟨h1, h2, h3, x, y, h4, h5, h6, h7, h8⟩ := h
  have := h1.1
  rw [z_addRe h7 (by omega)]
  have hf : z_fk [4215] [49, 50] u (k_wF (k_wA (k_wA u 49 (130 + y) ((a).toInt8.toInt32).toInt8.toInt32) 50 (130 + y) w) 4215 (J (y + 1))) := ((z_kB rfl (by omega)).tr (z_kB rfl (by omega))).tr (z_kF rfl)
  exact k_sat_mk ⟨hf, z_rx_f h1 (hf.mono rfl rfl), (hf.1 4213 rfl).trans h2, h3, x, y + 1, (hf.1 4212 rfl).trans h4, h5, by omega, by simp [k_wF], by omega⟩
def z_PR (n : Nat) (b : Nat → Nat) (o : Nat) (g : k_S → Option (Unit × k_S)) (P : z_Pa) : Prop := ∀ u i L, z_rs n b u i L → u.1 4214 = J o → k_sat (g u) (fun _ v => z_fk [4212, 4213, 4214, 4215] [49, 50] u v ∧ ((P i).1 = true → z_rs n b v (P i).2.1 (L ++ (P i).2.2) ∧ v.1 4214 = J o) ∧ ((P i).1 = false → z_rf n b v (P i).2.1 i L.length))
def z_hr (n : Nat) (b : Nat → Nat) (o : Nat) (sg : z_Pa) (L : List Int32) (i : Nat) (u : k_S) (s : Int32) (z : Unit ⊕ Unit) (v : k_S) : Prop := z = .inl () ∧ z_fk [4212, 4213, 4214, 4215] [49, 50] u v ∧ ((sg (i + 1)).1 = true → z_rs n b v (sg (i + 1)).2.1 (L ++ (sg (i + 1)).2.2 ++ [s]) ∧ v.1 4214 = J o) ∧ ((sg (i + 1)).1 = false → z_rf n b v (sg (i + 1)).2.1 i L.length)
theorem z_loopR {n o : Nat} {b : Nat → Nat} {os : List Nat} {sg : z_Pa} {bd : k_S → Option ((Unit ⊕ Unit) × k_S)} (hg : z_gp n sg) (hex : ∀ u i L, z_rs n b u i L → ¬ z_ch n b i ∈ os → k_sat (bd u) (fun z v => v = u ∧ z = .inr ())) (hfx : ∀ u j i l, z_rf n b u j i l → k_sat (bd u) (fun z v => v = u ∧ z = .inr ())) (hos : ∀ c, c ∈ os → ¬ c = 200) (hop : ∀ u i L, z_rs n b u i L → u.1 4214 = J o → z_ch n b i ∈ os → k_sat (bd u) (z_hr n b o sg L i u (-(J (z_ch n b i))))) : ∀ (m : Nat) (u : k_S) (i i0 : Nat) (L C : List Int32) (N : Nat), n ≤ i + m → m + 1 < N → z_rs n b u i (L ++ C) → u.1 4214 = J o → i0 ≤ i → C.length + i0 ≤ i → k_sat (k_itr (fun (_ : Unit) u => bd u) N () u) (fun _ v => z_fk [4212, 4213, 4214, 4215] [49, 50] u v ∧ ((z_lp (z_ch n b) os sg m i C).1 = true → z_rs n b v (z_lp (z_ch n b) os sg m i C).2.1 (L ++ (z_lp (z_ch n b) os sg m i C).2.2) ∧ v.1 4214 = J o) ∧ ((z_lp (z_ch n b) os sg m i C).1 = false → z_rf n b v (z_lp (z_ch n b) os sg m i C).2.1 i0 L.length))
  | 0, u, i, i0, L, C, N, hm, hN, hs, ho, hi, hC => by
    obtain ⟨M, rfl⟩ : ∃ M, N = M + 1 := ⟨N - 1, by omega⟩
    have hc : ¬ z_ch n b i ∈ os := fun q => by
      have := z_ch_n (b := b) (hos _ q)
      omega
    refine z_exit (z_mono (hex u i _ hs hc) (fun z v hv => ?_))
    obtain ⟨rfl, rfl⟩ := hv
    exact ⟨_, rfl, z_fk.rf, fun _ => ⟨hs, ho⟩, fun q => by cases q⟩
  | m + 1, u, i, i0, L, C, N, hm, hN, hs, ho, hi, hC => by
    obtain ⟨M, rfl⟩ : ∃ M, N = M + 1 := ⟨N - 1, by omega⟩
    rw [z_lp]
    by_cases hc : z_ch n b i ∈ os
    · rw [if_pos hc]
      have hin : i < n := z_ch_n (b := b) (hos _ hc)
      obtain ⟨gp1, gp2, gp3⟩ := hg (i + 1) (by omega)
      refine z_turn (z_mono (hop u i _ hs ho hc) (fun z v hv => ?_))
      obtain ⟨rfl, h1, h2, h3⟩ := hv
      refine ⟨_, rfl, ?_⟩
      by_cases q : (sg (i + 1)).1 = true
      · rw [if_pos q]
        obtain ⟨h4, h5⟩ := h2 q
        obtain ⟨k1, k2, -, -⟩ := gp3 q
        rw [List.append_assoc L, List.append_assoc L] at h4
        refine z_mono (z_loopR hg hex hfx hos hop m v _ i0 L (C ++ (sg (i + 1)).2.2 ++ [-(J (z_ch n b i))]) M (by omega) (by omega) h4 h5 (by omega) (by rw [List.length_append, List.length_append, List.length_singleton]; omega)) (fun y w hw => ⟨h1.tr hw.1, hw.2⟩)
      · rw [if_neg q]
        have h4 := h3 (by cases hq : (sg (i + 1)).1; rfl; exact absurd hq q)
        obtain ⟨M', rfl⟩ : ∃ M', M = M' + 1 := ⟨M - 1, by omega⟩
        refine z_exit (z_mono (hfx v _ _ _ h4) (fun z w hw => ?_))
        obtain ⟨rfl, rfl⟩ := hw
        refine ⟨_, rfl, h1, fun q' => (by cases q'), fun _ => z_rf_w h4 hi ?_⟩
        rw [List.length_append]
        omega
    · rw [if_neg hc]
      refine z_exit (z_mono (hex u i _ hs hc) (fun z v hv => ?_))
      obtain ⟨rfl, rfl⟩ := hv
      exact ⟨_, rfl, z_fk.rf, fun _ => ⟨hs, ho⟩, fun q => by cases q⟩
theorem z_lvR {n o : Nat} {b : Nat → Nat} {os : List Nat} {sg : z_Pa} {f : k_S → Option (Unit × k_S)} {bd : k_S → Option ((Unit ⊕ Unit) × k_S)} (hf : z_PR n b o f sg) (hn : n ≤ 120) (hg : z_gp n sg) (hex : ∀ u i L, z_rs n b u i L → ¬ z_ch n b i ∈ os → k_sat (bd u) (fun z v => v = u ∧ z = .inr ())) (hfx : ∀ u j i l, z_rf n b u j i l → k_sat (bd u) (fun z v => v = u ∧ z = .inr ())) (hos : ∀ c, c ∈ os → ¬ c = 200) (hop : ∀ u i L, z_rs n b u i L → u.1 4214 = J o → z_ch n b i ∈ os → k_sat (bd u) (z_hr n b o sg L i u (-(J (z_ch n b i))))) : z_PR n b o (fun u => k_bind (f u) (fun _ u1 => k_bind (k_itr (fun (_ : Unit) u => bd u) k_FU () u1) (fun _ u9 => some ((), u9)))) (z_lv (z_ch n b) os 120 sg) := by
  intro u i L hs ho
  have hi := hs.2.2.1
  obtain ⟨gp1, gp2, gp3⟩ := hg i hi
  refine z_bind _ (hf u i L hs ho) (fun _ v hv => ?_)
  obtain ⟨h1, h2, h3⟩ := hv
  unfold z_lv
  by_cases q : (sg i).1 = true
  · rw [if_pos q]
    obtain ⟨h4, h5⟩ := h2 q
    obtain ⟨k1, k2, -, -⟩ := gp3 q
    exact z_bind _ (z_loopR hg hex hfx hos hop 120 v _ i L (sg i).2.2 k_FU (by omega) (by unfold k_FU; omega) h4 h5 gp1 k2) (fun _ w hw => k_sat_mk ⟨h1.tr hw.1, hw.2⟩)
  · rw [if_neg q]
    have h4 := h3 (by cases hq : (sg i).1; rfl; exact absurd hq q)
    rw [z_FU]
    refine z_bind (fun _ w => w = v) (z_exit (z_mono (hfx v _ _ _ h4) (fun z w hw => ⟨_, hw.2, hw.1⟩))) (fun _ w hw => ?_)
    subst hw
    exact k_sat_mk ⟨h1, fun q' => (by cases q'), fun _ => h4⟩
theorem z_nx2 {n i : Nat} {b : Nat → Nat} {L : List Int32} {u : k_S} (h : z_rs n b u i L) (hi : i < n) : k_wF u 4212 (u.1 4212 + 1) = k_wF u 4212 (J (i + 1)) ∧ z_rs n b (k_wF u 4212 (J (i + 1))) (i + 1) L := by
  obtain ⟨h1, h2, h3, h4, h5, h6⟩ := h
  refine ⟨by rw [h2, z_Jp], z_rx_f h1 (z_kF rfl), by simp [k_wF], hi, h4, z_rc_f h5 (by simp [k_wF]) rfl rfl, by omega⟩
theorem z_ra_o {c : Nat} (hc : c ∈ z_ops) : z_ra (-(J c)) (J c) 0 := Or.inr (Or.inr (Or.inr (Or.inr (Or.inr (Or.inr (Or.inr ⟨c, hc, rfl, rfl⟩))))))
theorem z_ops_lt {c : Nat} (hc : c ∈ z_ops) : c < 128 := by
  unfold z_ops at hc
  simp only [List.mem_cons, List.not_mem_nil, or_false] at hc
  omega
theorem z_tailR {n i o c : Nat} {b : Nat → Nat} {f : k_S → Option (Unit × k_S)} {sg : z_Pa} {L : List Int32} {u : k_S} (hf : z_PR n b o f sg) (hg : z_gp n sg) (hi : i < n) (hc : c ∈ z_ops) (hs : z_rs n b u i L) (ho : u.1 4214 = J o) : k_sat (k_bind (f (k_wF u 4212 (J (i + 1)))) (fun _ u7 => k_bind (f_R_addStep (J c) 0 u7) (fun _ u8 => some ((.inl () : Unit ⊕ Unit), u8)))) (z_hr n b o sg L i u (-(J c))) := by
  have h0 := (z_nx2 hs hi).2
  have hf0 : z_fk [4212, 4213, 4214, 4215] [49, 50] u (k_wF u 4212 (J (i + 1))) := z_kF rfl
  have hn := hs.1.1
  have hl := hs.2.2.2.2.2
  obtain ⟨gp1, gp2, gp3⟩ := hg (i + 1) (by omega)
  refine z_bind _ (hf _ _ L h0 (by simp [k_wF]; exact ho)) (fun _ v hv => ?_)
  obtain ⟨h1, h2, h3⟩ := hv
  have k1 := hf0.tr h1
  cases q : (sg (i + 1)).1 with
  | true =>
    obtain ⟨h4, h5⟩ := h2 q
    obtain ⟨g1, g2, -, -⟩ := gp3 q
    obtain ⟨p1, p2, p3, p4, p5, p6⟩ := h4
    refine z_bind _ (z_addR p5 (by rw [List.length_append]; omega) (z_ops_lt hc) (z_ra_o hc)) (fun _ w hw => k_sat_mk ⟨rfl, k1.tr (hw.1.mono rfl rfl), fun _ => ⟨⟨z_rx_f p1 (hw.1.mono rfl rfl), (hw.1.1 4212 rfl).trans p2, p3, (hw.1.1 4213 rfl).trans p4, hw.2, ?_⟩, (hw.1.1 4214 rfl).trans h5⟩, fun q' => absurd (q.symm.trans q') (by decide)⟩)
    rw [List.length_append, List.length_append, List.length_singleton]
    omega
  | false =>
    exact z_bind _ (z_addF (h3 q) hl) (fun _ w hw => k_sat_mk ⟨rfl, k1.tr (hw.1.mono rfl rfl), fun q' => absurd (q.symm.trans q') (by decide), fun _ => hw.2⟩)
/-! LAW: the reference's levels, numbers, operands -/
theorem z_fltR {n j i l : Nat} {b : Nat → Nat} {u : k_S} (h : z_rf n b u j i l) : (0 : Int32) ≤ u.1 4213 := by
  have h1 := h.1.1
  have h2 := h.2.2.1
  rw [h.2.1]
  (try simp (disch := omega) only [Int32.lt_iff_toInt_lt, Int32.le_iff_toInt_le, ← Int32.toInt_inj, Int32.toInt_add, Int32.toInt_sub, Int32.toInt_mul, Int32.toInt_neg, z_bm, z_bm2, J_ti, J_toInt, z_cn, Int32.reduceToInt]) <;> omega
theorem z_proR {n o : Nat} {b : Nat → Nat} {rc : k_S → Option (Unit × k_S)} {sg : z_Pa} (hn : n ≤ 120) (hf : z_PR n b o rc sg) (hg : z_gp n sg) : z_PR n b o (f_R_product rc) (z_lv (z_ch n b) [42, 47, 37] 120 sg) := by
  refine z_lvR (bd := fun u => f_R_product_B4 rc u) hf hn hg (fun u i L hs hc => ?_) (fun u j i l h => ?_) (fun c hc => ?_) (fun u i L hs ho hc => ?_)
  · obtain ⟨r, hr, hkk⟩ := z_look hs.1 hs.2.1 hs.2.2.1
    simp only [List.mem_cons, List.not_mem_nil, or_false] at hc
    unfold f_R_product_B4
    rw [hs.2.2.2.1, hr, z_bind_some, hr, z_bind_some, hr, z_bind_some]
    exact z_neg (by decide) (z_neg (fun q => hc (Or.inl ((z_lk_eq hkk (k := 42) (by omega)).mp q))) (z_neg (fun q => hc (Or.inr (Or.inl ((z_lk_eq hkk (k := 47) (by omega)).mp q)))) (z_neg (fun q => hc (Or.inr (Or.inr ((z_lk_eq hkk (k := 37) (by omega)).mp q)))) (k_sat_mk ⟨rfl, rfl⟩))))
  · unfold f_R_product_B4
    exact z_pos (z_fltR h) (k_sat_mk ⟨rfl, rfl⟩)
  · simp only [List.mem_cons, List.not_mem_nil, or_false] at hc
    omega
  · obtain ⟨r, hr, hkk⟩ := z_look hs.1 hs.2.1 hs.2.2.1
    have hi : i < n := z_ch_n (b := b) (fun q => by rw [q] at hc; simp at hc)
    have hco : z_ch n b i ∈ z_ops := by
      unfold z_ops
      simp only [List.mem_cons, List.not_mem_nil, or_false] at hc ⊢
      omega
    simp only [List.mem_cons, List.not_mem_nil, or_false] at hc
    have er : r = J (z_ch n b i) := z_lk_J hkk (by omega)
    have key : k_sat (f_R_product_J38 rc u) (z_hr n b o sg L i u (-(J (z_ch n b i)))) := by
      unfold f_R_product_J38
      rw [hr, z_bind_some, (z_nx2 hs hi).1, er]
      exact z_let (z_tailR hf hg hi hco hs ho)
    unfold f_R_product_B4
    rw [hs.2.2.2.1, hr, z_bind_some, hr, z_bind_some, hr, z_bind_some]
    refine z_neg (by decide) (z_ite (fun _ => key) (fun q1 => z_ite (fun _ => key) (fun q2 => z_ite (fun _ => key) (fun q3 => ?_))))
    rcases hc with c | c | c
    · exact absurd ((z_lk_eq hkk (k := 42) (by omega)).mpr c) q1
    · exact absurd ((z_lk_eq hkk (k := 47) (by omega)).mpr c) q2
    · exact absurd ((z_lk_eq hkk (k := 37) (by omega)).mpr c) q3
theorem z_smR {n o : Nat} {b : Nat → Nat} {rc : k_S → Option (Unit × k_S)} {sg : z_Pa} (hn : n ≤ 120) (hf : z_PR n b o (f_R_product rc) sg) (hg : z_gp n sg) : z_PR n b o (f_R_sum rc) (z_lv (z_ch n b) [43, 45] 120 sg) := by
  refine z_lvR (bd := fun u => f_R_sum_B4 rc u) hf hn hg (fun u i L hs hc => ?_) (fun u j i l h => ?_) (fun c hc => ?_) (fun u i L hs ho hc => ?_)
  · obtain ⟨r, hr, hkk⟩ := z_look hs.1 hs.2.1 hs.2.2.1
    simp only [List.mem_cons, List.not_mem_nil, or_false] at hc
    unfold f_R_sum_B4
    rw [hs.2.2.2.1, hr, z_bind_some, hr, z_bind_some]
    exact z_neg (by decide) (z_neg (fun q => hc (Or.inl ((z_lk_eq hkk (k := 43) (by omega)).mp q))) (z_neg (fun q => hc (Or.inr ((z_lk_eq hkk (k := 45) (by omega)).mp q))) (k_sat_mk ⟨rfl, rfl⟩)))
  · unfold f_R_sum_B4
    exact z_pos (z_fltR h) (k_sat_mk ⟨rfl, rfl⟩)
  · simp only [List.mem_cons, List.not_mem_nil, or_false] at hc
    omega
  · obtain ⟨r, hr, hkk⟩ := z_look hs.1 hs.2.1 hs.2.2.1
    have hi : i < n := z_ch_n (b := b) (fun q => by rw [q] at hc; simp at hc)
    have hco : z_ch n b i ∈ z_ops := by
      unfold z_ops
      simp only [List.mem_cons, List.not_mem_nil, or_false] at hc ⊢
      omega
    simp only [List.mem_cons, List.not_mem_nil, or_false] at hc
    have er : r = J (z_ch n b i) := z_lk_J hkk (by omega)
    have key : k_sat (f_R_sum_J29 rc u) (z_hr n b o sg L i u (-(J (z_ch n b i)))) := by
      unfold f_R_sum_J29
      rw [hr, z_bind_some, (z_nx2 hs hi).1, er]
      exact z_let (z_tailR hf hg hi hco hs ho)
    unfold f_R_sum_B4
    rw [hs.2.2.2.1, hr, z_bind_some, hr, z_bind_some]
    refine z_neg (by decide) (z_ite (fun _ => key) (fun q1 => z_ite (fun _ => key) (fun q2 => ?_)))
    rcases hc with c | c
    · exact absurd ((z_lk_eq hkk (k := 43) (by omega)).mpr c) q1
    · exact absurd ((z_lk_eq hkk (k := 45) (by omega)).mpr c) q2
theorem z_btR {n o : Nat} {b : Nat → Nat} {rc : k_S → Option (Unit × k_S)} {sg : z_Pa} (hn : n ≤ 120) (hf : z_PR n b o (f_R_compared rc) sg) (hg : z_gp n sg) : z_PR n b o (f_R_both rc) (z_lv (z_ch n b) [38] 120 sg) := by
  refine z_lvR (bd := fun u => f_R_both_B4 rc u) hf hn hg (fun u i L hs hc => ?_) (fun u j i l h => ?_) (fun c hc => ?_) (fun u i L hs ho hc => ?_)
  · obtain ⟨r, hr, hkk⟩ := z_look hs.1 hs.2.1 hs.2.2.1
    simp only [List.mem_cons, List.not_mem_nil, or_false] at hc
    unfold f_R_both_B4
    rw [hs.2.2.2.1, hr, z_bind_some]
    exact z_neg (by decide) (z_neg (fun q => hc ((z_lk_eq hkk (k := 38) (by omega)).mp q)) (k_sat_mk ⟨rfl, rfl⟩))
  · unfold f_R_both_B4
    exact z_pos (z_fltR h) (k_sat_mk ⟨rfl, rfl⟩)
  · simp only [List.mem_cons, List.not_mem_nil, or_false] at hc
    omega
  · obtain ⟨r, hr, hkk⟩ := z_look hs.1 hs.2.1 hs.2.2.1
    have hi : i < n := z_ch_n (b := b) (fun q => by rw [q] at hc; simp at hc)
    simp only [List.mem_cons, List.not_mem_nil, or_false] at hc
    unfold f_R_both_B4
    rw [hs.2.2.2.1, hr, z_bind_some, (z_nx2 hs hi).1, hc]
    exact z_neg (by decide) (z_pos ((z_lk_eq hkk (k := 38) (by omega)).mpr hc) (z_let (z_tailR (c := 38) hf hg hi (by decide) hs ho)))
theorem z_etR {n o : Nat} {b : Nat → Nat} {rc : k_S → Option (Unit × k_S)} {sg : z_Pa} (hn : n ≤ 120) (hf : z_PR n b o (f_R_both rc) sg) (hg : z_gp n sg) : z_PR n b o (f_R_either rc) (z_lv (z_ch n b) [124] 120 sg) := by
  refine z_lvR (bd := fun u => f_R_either_B4 rc u) hf hn hg (fun u i L hs hc => ?_) (fun u j i l h => ?_) (fun c hc => ?_) (fun u i L hs ho hc => ?_)
  · obtain ⟨r, hr, hkk⟩ := z_look hs.1 hs.2.1 hs.2.2.1
    simp only [List.mem_cons, List.not_mem_nil, or_false] at hc
    unfold f_R_either_B4
    rw [hs.2.2.2.1, hr, z_bind_some]
    exact z_neg (by decide) (z_neg (fun q => hc ((z_lk_eq hkk (k := 124) (by omega)).mp q)) (k_sat_mk ⟨rfl, rfl⟩))
  · unfold f_R_either_B4
    exact z_pos (z_fltR h) (k_sat_mk ⟨rfl, rfl⟩)
  · simp only [List.mem_cons, List.not_mem_nil, or_false] at hc
    omega
  · obtain ⟨r, hr, hkk⟩ := z_look hs.1 hs.2.1 hs.2.2.1
    have hi : i < n := z_ch_n (b := b) (fun q => by rw [q] at hc; simp at hc)
    simp only [List.mem_cons, List.not_mem_nil, or_false] at hc
    unfold f_R_either_B4
    rw [hs.2.2.2.1, hr, z_bind_some, (z_nx2 hs hi).1, hc]
    exact z_neg (by decide) (z_pos ((z_lk_eq hkk (k := 124) (by omega)).mpr hc) (z_let (z_tailR (c := 124) hf hg hi (by decide) hs ho)))
theorem z_cmR {n o : Nat} {b : Nat → Nat} {rc : k_S → Option (Unit × k_S)} {sg : z_Pa} (hn : n ≤ 120) (hf : z_PR n b o (f_R_sum rc) sg) (hg : z_gp n sg) : z_PR n b o (f_R_compared rc) (z_lv (z_ch n b) [60, 61, 62] 1 sg) := by
  intro u i L hs ho
  have hl := hs.2.2.2.2.2
  obtain ⟨gp1, gp2, gp3⟩ := hg i hs.2.2.1
  unfold f_R_compared
  refine z_bind _ (hf u i L hs ho) (fun _ v hv => ?_)
  obtain ⟨h1, h2, h3⟩ := hv
  unfold z_lv
  by_cases q : (sg i).1 = true
  · rw [if_pos q]
    obtain ⟨h4, h5⟩ := h2 q
    obtain ⟨-, gl, -, -⟩ := gp3 q
    generalize hj : (sg i).2.1 = j at *
    obtain ⟨r, hr, hkk⟩ := z_look h4.1 h4.2.1 h4.2.2.1
    rw [hr, z_bind_some, z_lp]
    refine z_neg (by rw [h4.2.2.2.1]; decide) ?_
    by_cases hc : z_ch n b j ∈ [60, 61, 62]
    · rw [if_pos hc]
      have hi : j < n := z_ch_n (b := b) (fun q => by rw [q] at hc; simp at hc)
      have hco : z_ch n b j ∈ z_ops := by
        unfold z_ops
        simp only [List.mem_cons, List.not_mem_nil, or_false] at hc ⊢
        omega
      simp only [List.mem_cons, List.not_mem_nil, or_false] at hc
      have er : r = J (z_ch n b j) := z_lk_J hkk (by omega)
      have key : k_sat (f_R_compared_J35 rc r v) (fun _ x => z_hr n b o sg (L ++ (sg i).2.2) j v (-(J (z_ch n b j))) (.inl ()) x) := by
        unfold f_R_compared_J35
        rw [(z_nx2 h4 hi).1, er]
        obtain ⟨⟨z, x⟩, e, hx⟩ := z_tailR (c := z_ch n b j) hf hg hi hco h4 h5
        refine z_let ?_
        unfold k_bind at e
        unfold k_bind
        cases h7 : f_R_sum rc (k_wF v 4212 (J (j + 1))) with
        | none => rw [h7] at e; cases e
        | some y =>
          obtain ⟨y1, y2⟩ := y
          rw [h7] at e
          dsimp only at e ⊢
          cases h8 : f_R_addStep (J (z_ch n b j)) 0 y2 with
          | none => rw [h8] at e; cases e
          | some t =>
            obtain ⟨t1, t2⟩ := t
            rw [h8] at e
            dsimp only at e ⊢
            cases e
            exact k_sat_mk hx
      have fin : k_sat (f_R_compared_J35 rc r v) (fun _ x => z_fk [4212, 4213, 4214, 4215] [49, 50] u x ∧ ((if (sg (j + 1)).1 = true then z_lp (z_ch n b) [60, 61, 62] sg 0 (sg (j + 1)).2.1 ((sg i).2.2 ++ (sg (j + 1)).2.2 ++ [-(J (z_ch n b j))]) else (false, (sg (j + 1)).2.1, [])).1 = true → z_rs n b x (if (sg (j + 1)).1 = true then z_lp (z_ch n b) [60, 61, 62] sg 0 (sg (j + 1)).2.1 ((sg i).2.2 ++ (sg (j + 1)).2.2 ++ [-(J (z_ch n b j))]) else (false, (sg (j + 1)).2.1, [])).2.1 (L ++ (if (sg (j + 1)).1 = true then z_lp (z_ch n b) [60, 61, 62] sg 0 (sg (j + 1)).2.1 ((sg i).2.2 ++ (sg (j + 1)).2.2 ++ [-(J (z_ch n b j))]) else (false, (sg (j + 1)).2.1, [])).2.2) ∧ x.1 4214 = J o) ∧ ((if (sg (j + 1)).1 = true then z_lp (z_ch n b) [60, 61, 62] sg 0 (sg (j + 1)).2.1 ((sg i).2.2 ++ (sg (j + 1)).2.2 ++ [-(J (z_ch n b j))]) else (false, (sg (j + 1)).2.1, [])).1 = false → z_rf n b x (if (sg (j + 1)).1 = true then z_lp (z_ch n b) [60, 61, 62] sg 0 (sg (j + 1)).2.1 ((sg i).2.2 ++ (sg (j + 1)).2.2 ++ [-(J (z_ch n b j))]) else (false, (sg (j + 1)).2.1, [])).2.1 i L.length)) := by
        refine z_mono key (fun _ x hx => ⟨h1.tr hx.2.1, fun q' => ?_, fun q' => ?_⟩)
        · by_cases q2 : (sg (j + 1)).1 = true
          · rw [if_pos q2, z_lp]
            have := hx.2.2.1 q2
            rw [List.append_assoc L, List.append_assoc L] at this
            exact this
          · rw [if_neg q2] at q'; cases q'
        · by_cases q2 : (sg (j + 1)).1 = true
          · rw [if_pos q2, z_lp] at q'; cases q'
          · rw [if_neg q2]
            have q3 : (sg (j + 1)).1 = false := by cases hq : (sg (j + 1)).1; rfl; exact absurd hq q2
            refine z_rf_w (hx.2.2.2 q3) gp1 ?_
            rw [List.length_append]
            omega
      refine z_ite (fun _ => fin) (fun q1 => z_ite (fun _ => fin) (fun q2 => z_ite (fun _ => fin) (fun q3 => ?_)))
      rcases hc with c | c | c
      · exact absurd ((z_lk_eq hkk (k := 60) (by omega)).mpr c) q1
      · exact absurd ((z_lk_eq hkk (k := 61) (by omega)).mpr c) q2
      · exact absurd ((z_lk_eq hkk (k := 62) (by omega)).mpr c) q3
    · rw [if_neg hc]
      simp only [List.mem_cons, List.not_mem_nil, or_false] at hc
      exact z_neg (fun q => hc (Or.inl ((z_lk_eq hkk (k := 60) (by omega)).mp q))) (z_neg (fun q => hc (Or.inr (Or.inl ((z_lk_eq hkk (k := 61) (by omega)).mp q)))) (z_neg (fun q => hc (Or.inr (Or.inr ((z_lk_eq hkk (k := 62) (by omega)).mp q)))) (k_sat_mk ⟨h1, fun _ => ⟨h4, h5⟩, fun q => (by cases q)⟩)))
  · rw [if_neg q]
    have h4 := h3 (by cases hq : (sg i).1; rfl; exact absurd hq q)
    obtain ⟨p1, p2, p3, x, y, p4, p5, p6, p7, p8⟩ := id h4
    obtain ⟨r, hr, hkk⟩ := z_look p1 p4 p5
    rw [hr, z_bind_some]
    exact z_pos (z_fltR h4) (k_sat_mk ⟨h1, fun q => (by cases q), fun _ => h4⟩)
theorem z_eiR {n o : Nat} {b : Nat → Nat} {rc : k_S → Option (Unit × k_S)} {sg : z_Pa} (hn : n ≤ 120) (hf : z_PR n b o rc sg) (hg : z_gp n sg) : z_PR n b o (f_R_either rc) (z_ei (z_ch n b) sg) := by
  have m1 : ∀ c, c ∈ [42, 47, 37] → c ∈ z_ops := z_mo (fun c hc => by simp only [List.mem_cons, List.not_mem_nil, or_false] at hc; omega)
  have m2 : ∀ c, c ∈ [43, 45] → c ∈ z_ops := z_mo (fun c hc => by simp only [List.mem_cons, List.not_mem_nil, or_false] at hc; omega)
  have m3 : ∀ c, c ∈ [60, 61, 62] → c ∈ z_ops := z_mo (fun c hc => by simp only [List.mem_cons, List.not_mem_nil, or_false] at hc; omega)
  have m4 : ∀ c, c ∈ [38] → c ∈ z_ops := z_mo (fun c hc => by simp only [List.mem_cons, List.not_mem_nil, or_false] at hc; omega)
  have g1 := z_lv_g (k := 120) (b := b) hg m1
  have g2 := z_lv_g (k := 120) (b := b) g1 m2
  have g3 := z_lv_g (k := 1) (b := b) g2 m3
  have g4 := z_lv_g (k := 120) (b := b) g3 m4
  exact z_etR hn (z_btR hn (z_cmR hn (z_smR hn (z_proR hn hf hg) g1) g2) g3) g4
theorem z_numR {n : Nat} {b : Nat → Nat} : ∀ (m k : Nat) (i v : Nat) (u : k_S) (L : List Int32) (N : Nat), k + m = 4 → m < N → z_rs n b u i L → v < 10 ^ k → k_sat (k_itr (fun (x : (Int32 × Int32)) u => f_R_figure_B4 x.1 x.2 u) N (J v, J k) u) (fun y w => z_fk [4212] [] u w ∧ y.1 = J (z_nm (z_ch n b) m i v).2 ∧ z_rs n b w (z_nm (z_ch n b) m i v).1 L ∧ ∃ c, k ≤ c ∧ c ≤ 4 ∧ y.2 = J c ∧ (c = k ↔ (m = 0 ∨ ¬ (48 ≤ z_ch n b i ∧ z_ch n b i ≤ 57))))
  | 0, k, i, v, u, L, N, hk, hN, hx, hv => by
    obtain ⟨M, rfl⟩ : ∃ M, N = M + 1 := ⟨N - 1, by omega⟩
    refine z_exit ?_
    unfold f_R_figure_B4
    dsimp only
    exact z_pos (by (try simp (disch := omega) only [Int32.lt_iff_toInt_lt, Int32.le_iff_toInt_le, ← Int32.toInt_inj, Int32.toInt_add, Int32.toInt_sub, Int32.toInt_mul, Int32.toInt_neg, z_bm, z_bm2, J_ti, J_toInt, z_cn, Int32.reduceToInt]) <;> omega) (k_sat_mk ⟨_, rfl, z_fk.rf, rfl, hx, k, Nat.le_refl _, by omega, rfl, fun _ => Or.inl rfl, fun _ => rfl⟩)
  | m + 1, k, i, v, u, L, N, hk, hN, hx, hv => by
    obtain ⟨M, rfl⟩ : ∃ M, N = M + 1 := ⟨N - 1, by omega⟩
    obtain ⟨r, hr, hkk⟩ := z_look hx.1 hx.2.1 hx.2.2.1
    have hv4 : v < 10000 := Nat.lt_of_lt_of_le hv (Nat.pow_le_pow_right (n := 10) (by omega) (show k ≤ 4 by omega))
    rw [z_nm]
    by_cases q : 48 ≤ z_ch n b i ∧ z_ch n b i ≤ 57
    · rw [if_pos q]
      have hi : i < n := z_ch_n (b := b) (by omega)
      have er : r = J (z_ch n b i) := z_lk_J hkk (by omega)
      refine z_turn ?_
      unfold f_R_figure_B4
      dsimp only
      rw [hr, z_bind_some, z_inR hkk, z_bind_some, if_pos q, hr, z_bind_some, er]
      have e10 : ((10 * J v) + J (z_ch n b i)) - 48 = J (10 * v + z_ch n b i - 48) := by
        rw [z_ten, show (48 : Int32) = J 48 from rfl, J_sub (by omega)]
      rw [e10, (z_nx2 hx hi).1]
      refine z_neg (by (try simp (disch := omega) only [Int32.lt_iff_toInt_lt, Int32.le_iff_toInt_le, ← Int32.toInt_inj, Int32.toInt_add, Int32.toInt_sub, Int32.toInt_mul, Int32.toInt_neg, z_bm, z_bm2, J_ti, J_toInt, z_cn, Int32.reduceToInt]) <;> omega) (z_neg (by decide) (z_let (z_let (k_sat_mk ⟨_, rfl, ?_⟩))))
      rw [z_J1]
      refine z_mono (z_numR m (k + 1) (i + 1) _ _ L M (by omega) (by omega) (z_nx2 hx hi).2 (by rw [Nat.pow_succ]; omega)) (fun y w hw => ⟨(z_kF rfl : z_fk [4212] [] u _).tr hw.1, hw.2.1, hw.2.2.1, ?_⟩)
      obtain ⟨c, c1, c2, c3, c4⟩ := hw.2.2.2
      refine ⟨c, by omega, c2, c3, fun x => by omega, fun x => ?_⟩
      rcases x with x | x
      · omega
      · exact absurd q x
    · rw [if_neg q]
      refine z_exit ?_
      unfold f_R_figure_B4
      dsimp only
      rw [hr, z_bind_some, z_inR hkk, z_bind_some, if_neg q]
      exact z_neg (by (try simp (disch := omega) only [Int32.lt_iff_toInt_lt, Int32.le_iff_toInt_le, ← Int32.toInt_inj, Int32.toInt_add, Int32.toInt_sub, Int32.toInt_mul, Int32.toInt_neg, z_bm, z_bm2, J_ti, J_toInt, z_cn, Int32.reduceToInt]) <;> omega) (z_pos rfl (k_sat_mk ⟨_, rfl, z_fk.rf, rfl, hx, k, Nat.le_refl _, by omega, rfl, fun _ => Or.inr q, fun _ => rfl⟩))
/-! LAW: the reference's operands -/
theorem z_wrR {n i : Nat} {b : Nat → Nat} {L : List Int32} {u : k_S} (h : z_rs n b u i L) : f_R_wrong u = some ((), k_wF u 4213 (J i)) := by
  unfold f_R_wrong
  rw [h.2.2.2.1, if_neg (by decide), h.2.1]
  rfl
theorem z_wr_f {n i i0 l0 : Nat} {b : Nat → Nat} {L : List Int32} {u : k_S} (h : z_rs n b u i L) (hi : i0 ≤ i) (hl : L.length + i0 ≤ l0 + i + 1) : z_rf n b (k_wF u 4213 (J i)) i i0 l0 := by
  obtain ⟨h1, h2, h3, h4, h5, h6⟩ := h
  exact ⟨z_rx_f h1 (z_kF rfl), by simp [k_wF], h3, i, L.length, h2, h3, hi, h5.1, hl⟩
theorem z_wr_a {n i i0 l0 : Nat} {b : Nat → Nat} {L : List Int32} {a w : Int32} {u : k_S} (h : z_rs n b u i L) (hi : i0 ≤ i) (hl : L.length + i0 ≤ l0 + i) : k_sat (f_R_addStep a w (k_wF u 4213 (J i))) (fun _ v => z_fk [4213, 4215] [49, 50] u v ∧ z_rf n b v i i0 l0) := by
  obtain ⟨h1, h2, h3, h4, h5, h6⟩ := h
  have := h1.1
  have e1 : (k_wF u 4213 (J i)).1 4215 = J L.length := h5.1
  rw [z_addRe e1 (by omega)]
  have hf : z_fk [4213, 4215] [49, 50] u (k_wF (k_wA (k_wA (k_wF u 4213 (J i)) 49 (130 + L.length) ((a).toInt8.toInt32).toInt8.toInt32) 50 (130 + L.length) w) 4215 (J (L.length + 1))) := (((z_kF rfl).tr (z_kB rfl (by omega))).tr (z_kB rfl (by omega))).tr (z_kF rfl)
  exact k_sat_mk ⟨hf, z_rx_f h1 (hf.mono rfl rfl), by simp [k_wF, k_wA], h3, i, L.length + 1, (hf.1 4212 rfl).trans h2, h3, hi, by simp [k_wF], by omega⟩
theorem z_figR {n i : Nat} {b : Nat → Nat} {L : List Int32} {u : k_S} (hs : z_rs n b u i L) : k_sat (f_R_figure u) (fun _ v => z_fk [4212, 4213, 4215] [49, 50] u v ∧ ((48 ≤ z_ch n b i ∧ z_ch n b i ≤ 57 ∧ ¬ (48 ≤ z_ch n b (z_nm (z_ch n b) 4 i 0).1 ∧ z_ch n b (z_nm (z_ch n b) 4 i 0).1 ≤ 57)) → z_rs n b v (z_nm (z_ch n b) 4 i 0).1 (L ++ [J (z_nm (z_ch n b) 4 i 0).2])) ∧ (¬ (48 ≤ z_ch n b i ∧ z_ch n b i ≤ 57) → z_rf n b v i i L.length) ∧ ((48 ≤ z_ch n b i ∧ z_ch n b i ≤ 57 ∧ (48 ≤ z_ch n b (z_nm (z_ch n b) 4 i 0).1 ∧ z_ch n b (z_nm (z_ch n b) 4 i 0).1 ≤ 57)) → z_rf n b v (z_nm (z_ch n b) 4 i 0).1 i L.length)) := by
  have hn := hs.1.1
  have hnum : k_sat (k_itr (fun (x : (Int32 × Int32)) u => f_R_figure_B4 x.1 x.2 u) k_FU (0, 0) u) _ := z_numR 4 0 i 0 u L k_FU rfl (by unfold k_FU; omega) hs (by decide)
  have hg := z_nm_g (n := n) (b := b) 4 i 0 hs.2.2.1
  have hv := z_nm_v (ch := z_ch n b) 4 i 0 0 (by decide)
  unfold f_R_figure
  refine z_bind _ hnum (fun y w hw => ?_)
  obtain ⟨g1, g2, g3, c, c1, c2, c3, c4⟩ := hw
  unfold f_R_figure_J52
  rw [g2, c3]
  have hn0 : ¬ (48 ≤ z_ch n b i ∧ z_ch n b i ≤ 57) → (z_nm (z_ch n b) 4 i 0).1 = i := fun q => by rw [z_nm, if_neg q]
  have j70 : k_sat (f_R_figure_J70 (J (z_nm (z_ch n b) 4 i 0).2) w) (fun _ v => z_fk [4212, 4213, 4215] [49, 50] u v ∧ z_rf n b v (z_nm (z_ch n b) 4 i 0).1 i L.length) := by
    unfold f_R_figure_J70 f_R_figure_J74
    rw [z_wrR g3, z_bind_some]
    exact z_bind _ (z_wr_a g3 hg.1 (by have := hg.1; omega)) (fun _ v hv => k_sat_mk ⟨(g1.mono rfl rfl).tr (hv.1.mono rfl rfl), hv.2⟩)
  by_cases q1 : 48 ≤ z_ch n b i ∧ z_ch n b i ≤ 57
  · have hc0 : ¬ c = 0 := fun q => by
      rcases c4.mp q with x | x
      · omega
      · exact x q1
    have hnm : (z_nm (z_ch n b) 4 i 0).1 = (z_nm (z_ch n b) 3 (i + 1) (10 * 0 + z_ch n b i - 48)).1 := by rw [z_nm, if_pos q1]
    have hin : i < n := z_ch_n (b := b) (by omega)
    have hgm := z_nm_g (n := n) (b := b) 3 (i + 1) (10 * 0 + z_ch n b i - 48) (by omega)
    refine z_neg (by (try simp (disch := omega) only [Int32.lt_iff_toInt_lt, Int32.le_iff_toInt_le, ← Int32.toInt_inj, Int32.toInt_add, Int32.toInt_sub, Int32.toInt_mul, Int32.toInt_neg, z_bm, z_bm2, J_ti, J_toInt, z_cn, Int32.reduceToInt]) <;> omega) ?_
    obtain ⟨r, hr, hkk⟩ := z_look g3.1 g3.2.1 g3.2.2.1
    rw [hr, z_bind_some, z_inR hkk, z_bind_some]
    by_cases q2 : 48 ≤ z_ch n b (z_nm (z_ch n b) 4 i 0).1 ∧ z_ch n b (z_nm (z_ch n b) 4 i 0).1 ≤ 57
    · rw [if_pos q2]
      exact z_neg (by decide) (z_mono j70 (fun _ v hv => ⟨hv.1, fun q => absurd q2 q.2.2, fun q => absurd q1 q, fun _ => hv.2⟩))
    · rw [if_neg q2]
      refine z_pos rfl ?_
      unfold f_R_figure_J74
      obtain ⟨p1, p2, p3, p4, p5, p6⟩ := g3
      have hl := hs.2.2.2.2.2
      refine z_bind _ (z_addR (k := 1) (s := J (z_nm (z_ch n b) 4 i 0).2) p5 (by omega) (by omega) (Or.inl ⟨_, ?_, rfl, rfl, rfl⟩)) (fun _ v hv => k_sat_mk ⟨(g1.mono rfl rfl).tr (hv.1.mono rfl rfl), fun _ => ⟨z_rx_f p1 (hv.1.mono rfl rfl), (hv.1.1 4212 rfl).trans p2, p3, (hv.1.1 4213 rfl).trans p4, hv.2, ?_⟩, fun q => absurd q1 q, fun q => absurd q.2.2 q2⟩)
      · have : (z_nm (z_ch n b) 4 i 0).2 < 10000 := hv
        omega
      · rw [List.length_append, List.length_singleton]
        omega
  · have hc0 : c = 0 := c4.mpr (Or.inr q1)
    rw [hc0]
    refine z_pos rfl (z_mono j70 (fun _ v hv => ⟨hv.1, fun q => absurd ⟨q.1, q.2.1⟩ q1, fun _ => ?_, fun q => absurd ⟨q.1, q.2.1⟩ q1⟩))
    have := hv.2
    rw [hn0 q1] at this
    exact this
theorem z_nameR {r : Int32} {c : Nat} (h : z_lk r c) (u : k_S) : f_R_nameOf r u = some (if c = 107 then 2 else if c = 112 then 1 else if c = 116 then 0 else if c = 122 then 3 else -1, u) := by
  unfold f_R_nameOf
  by_cases q1 : c = 107
  · rw [if_pos (show r = 107 from (z_lk_eq h (k := 107) (by omega)).mpr q1), if_pos q1]
  rw [if_neg (show ¬ r = 107 from fun x => q1 ((z_lk_eq h (k := 107) (by omega)).mp x)), if_neg q1]
  by_cases q2 : c = 112
  · rw [if_pos (show r = 112 from (z_lk_eq h (k := 112) (by omega)).mpr q2), if_pos q2]
  rw [if_neg (show ¬ r = 112 from fun x => q2 ((z_lk_eq h (k := 112) (by omega)).mp x)), if_neg q2]
  by_cases q3 : c = 116
  · rw [if_pos (show r = 116 from (z_lk_eq h (k := 116) (by omega)).mpr q3), if_pos q3]
  rw [if_neg (show ¬ r = 116 from fun x => q3 ((z_lk_eq h (k := 116) (by omega)).mp x)), if_neg q3]
  by_cases q4 : c = 122
  · rw [if_pos (show r = 122 from (z_lk_eq h (k := 122) (by omega)).mpr q4), if_pos q4]
  rw [if_neg (show ¬ r = 122 from fun x => q4 ((z_lk_eq h (k := 122) (by omega)).mp x)), if_neg q4]
theorem z_opR {n d : Nat} {b : Nat → Nat} {rc : k_S → Option (Unit × k_S)} {o : Option z_Pa} (hn : n ≤ 120) (hd : d ≤ 6) (h0 : d = 0 → o = none) (h1 : 0 < d → ∃ sg, o = some sg ∧ z_gp n sg ∧ z_PR n b (6 - d + 1) rc sg) : z_PR n b (6 - d) (f_R_operand rc) (z_s1 (z_ch n b) o) := by
  intro u i L hs ho
  have hl := hs.2.2.2.2.2
  obtain ⟨r, hr, hkk⟩ := z_look hs.1 hs.2.1 hs.2.2.1
  unfold f_R_operand z_s1
  rw [hr, z_bind_some, z_nameR hkk, z_bind_some]
  by_cases q1 : 48 ≤ z_ch n b i ∧ z_ch n b i ≤ 57
  · rw [if_pos q1, if_neg (by omega : ¬ z_ch n b i = 107), if_neg (by omega : ¬ z_ch n b i = 112), if_neg (by omega : ¬ z_ch n b i = 116), if_neg (by omega : ¬ z_ch n b i = 122)]
    refine z_pos (by decide) (z_neg (fun x => ?_) (z_neg (fun x => ?_) (z_neg (fun x => ?_) (z_bind _ (z_figR hs) (fun _ v hv => k_sat_mk ?_)))))
    · have := (z_lk_eq hkk (k := 33) (by omega)).mp x; omega
    · have := (z_lk_eq hkk (k := 45) (by omega)).mp x; omega
    · have := (z_lk_eq hkk (k := 40) (by omega)).mp x; omega
    · obtain ⟨g1, g2, g3, g4⟩ := hv
      by_cases q2 : 48 ≤ z_ch n b (z_nm (z_ch n b) 4 i 0).1 ∧ z_ch n b (z_nm (z_ch n b) 4 i 0).1 ≤ 57
      · rw [if_pos q2]
        exact ⟨g1.mono rfl rfl, fun q => (by cases q), fun _ => g4 ⟨q1.1, q1.2, q2⟩⟩
      · rw [if_neg q2]
        exact ⟨g1.mono rfl rfl, fun _ => ⟨g2 ⟨q1.1, q1.2, q2⟩, (g1.1 4214 rfl).trans ho⟩, fun q => (by cases q)⟩
  rw [if_neg q1]
  by_cases q2 : z_ch n b i = 116 ∨ z_ch n b i = 112 ∨ z_ch n b i = 107 ∨ z_ch n b i = 122
  · rw [if_pos q2]
    have hin : i < n := z_ch_n (b := b) (by omega)
    have fin : ∀ k : Nat, k < 4 → z_ra (-(J (z_ch n b i))) 2 (J k) → k_sat (k_bind (f_R_addStep 2 (J k) u) (fun _ u21 => k_let (k_wF u21 4212 ((u21.1 4212) + 1)) (fun u22 => some ((), u22)))) (fun _ v => z_fk [4212, 4213, 4214, 4215] [49, 50] u v ∧ ((true, i + 1, [-(J (z_ch n b i))]).1 = true → z_rs n b v (true, i + 1, [-(J (z_ch n b i))]).2.1 (L ++ (true, i + 1, [-(J (z_ch n b i))]).2.2) ∧ v.1 4214 = J (6 - d)) ∧ ((true, i + 1, [-(J (z_ch n b i))]).1 = false → z_rf n b v (true, i + 1, [-(J (z_ch n b i))]).2.1 i L.length)) := by
      intro k hk hra
      obtain ⟨p1, p2, p3, p4, p5, p6⟩ := hs
      refine z_bind _ (z_addR (k := 2) p5 (by omega) (by omega) hra) (fun _ v hv => ?_)
      rw [(hv.1.1 4212 rfl).trans p2, z_Jp]
      have hf2 : z_fk [4212, 4213, 4214, 4215] [49, 50] u (k_wF v 4212 (J (i + 1))) := (hv.1.mono rfl rfl).tr (z_kF rfl)
      refine z_let (k_sat_mk ⟨hf2, fun _ => ⟨⟨z_rx_f p1 hf2, by simp [k_wF], hin, ((hv.1.1 4213 rfl).trans p4), z_rc_f hv.2 (by simp [k_wF]) rfl rfl, ?_⟩, (hv.1.1 4214 rfl).trans ho⟩, fun q => (by cases q)⟩)
      dsimp only
      rw [List.length_append, List.length_singleton]
      omega
    rcases q2 with c | c | c | c
    · rw [c] at fin ⊢
      rw [if_neg (by decide), z_nameR hkk, c, z_bind_some]
      exact fin 0 (by omega) (Or.inr (Or.inl ⟨rfl, rfl, rfl⟩))
    · rw [c] at fin ⊢
      rw [if_neg (by decide), z_nameR hkk, c, z_bind_some]
      exact fin 1 (by omega) (Or.inr (Or.inr (Or.inl ⟨rfl, rfl, rfl⟩)))
    · rw [c] at fin ⊢
      rw [if_neg (by decide), z_nameR hkk, c, z_bind_some]
      exact fin 2 (by omega) (Or.inr (Or.inr (Or.inr (Or.inl ⟨rfl, rfl, rfl⟩))))
    · rw [c] at fin ⊢
      rw [if_neg (by decide), z_nameR hkk, c, z_bind_some]
      exact fin 3 (by omega) (Or.inr (Or.inr (Or.inr (Or.inr (Or.inl ⟨rfl, rfl, rfl⟩)))))
  rw [if_neg q2, if_neg (by omega : ¬ z_ch n b i = 107), if_neg (by omega : ¬ z_ch n b i = 112), if_neg (by omega : ¬ z_ch n b i = 116), if_neg (by omega : ¬ z_ch n b i = 122)]
  refine z_pos (by decide) ?_
  by_cases hd0 : d = 0
  · rw [h0 hd0]
    dsimp only
    subst hd0
    have ho6 : u.1 4214 = 6 := ho
    have hop : f_R_opens u = some (0, k_wF u 4213 (J i)) := by
      unfold f_R_opens
      rw [ho6, if_pos rfl, z_wrR hs, z_bind_some]
    have key : k_sat (f_R_operand_J46 rc r u) (fun _ v => z_fk [4212, 4213, 4214, 4215] [49, 50] u v ∧ (false = true → z_rs n b v i (L ++ []) ∧ v.1 4214 = J (6 - 0)) ∧ (false = false → z_rf n b v i i L.length)) := by
      unfold f_R_operand_J46
      rw [hop, z_bind_some]
      exact z_pos rfl (k_sat_mk ⟨z_kF rfl, fun q => (by cases q), fun _ => z_wr_f hs (Nat.le_refl _) (by omega)⟩)
    refine z_ite (fun _ => key) (fun _ => z_ite (fun _ => key) (fun _ => z_ite (fun _ => ?_) (fun c3 => ?_)))
    · rw [hop, z_bind_some]
      exact z_pos rfl (k_sat_mk ⟨z_kF rfl, fun q => (by cases q), fun _ => z_wr_f hs (Nat.le_refl _) (by omega)⟩)
    · exact z_bind _ (z_figR hs) (fun _ v hv => k_sat_mk ⟨hv.1.mono rfl rfl, fun q => (by cases q), fun _ => hv.2.2.1 q1⟩)
  obtain ⟨sg, rfl, hg, hrc⟩ := h1 (by omega)
  dsimp only
  have hop : f_R_opens u = some (1, k_wF (k_wF u 4214 (J (6 - d + 1))) 4212 (J (i + 1))) := by
    unfold f_R_opens
    rw [ho, if_neg (by (try simp (disch := omega) only [Int32.lt_iff_toInt_lt, Int32.le_iff_toInt_le, ← Int32.toInt_inj, Int32.toInt_add, Int32.toInt_sub, Int32.toInt_mul, Int32.toInt_neg, z_bm, z_bm2, J_ti, J_toInt, z_cn, Int32.reduceToInt]) <;> omega)]
    simp only [k_let]
    have : (k_wF u 4214 (J (6 - d) + 1)).1 4212 = J i := hs.2.1
    rw [this, z_Jp, z_Jp]
  have hN : i < n → z_rs n b (k_wF (k_wF u 4214 (J (6 - d + 1))) 4212 (J (i + 1))) (i + 1) L := fun hin => ⟨z_rx_f hs.1 ((z_kF rfl).tr (z_kF rfl)), by simp [k_wF], hin, hs.2.2.2.1, z_rc_f hs.2.2.2.2.1 (by simp [k_wF]) rfl rfl, by omega⟩
  have hO : (k_wF (k_wF u 4214 (J (6 - d + 1))) 4212 (J (i + 1))).1 4214 = J (6 - d + 1) := by simp [k_wF]
  have hF : z_fk [4212, 4213, 4214, 4215] [49, 50] u (k_wF (k_wF u 4214 (J (6 - d + 1))) 4212 (J (i + 1))) := (z_kF rfl).tr (z_kF rfl)
  generalize k_wF (k_wF u 4214 (J (6 - d + 1))) 4212 (J (i + 1)) = u' at *
  by_cases q3 : z_ch n b i = 40
  · rw [if_pos q3]
    have hin : i < n := z_ch_n (b := b) (by omega)
    obtain ⟨gp1, gp2, gp3⟩ := z_ei_g (b := b) hg (i + 1) (by omega)
    refine z_neg (fun x => ?_) (z_neg (fun x => ?_) (z_pos ((z_lk_eq hkk (k := 40) (by omega)).mpr q3) ?_))
    · have := (z_lk_eq hkk (k := 33) (by omega)).mp x; omega
    · have := (z_lk_eq hkk (k := 45) (by omega)).mp x; omega
    rw [hop, z_bind_some]
    refine z_neg (by decide) (z_bind _ (z_eiR hn hrc hg _ _ _ (hN hin) hO) (fun _ v hv => ?_))
    obtain ⟨g1, g2, g3⟩ := hv
    have k1 := hF.tr g1
    by_cases q4 : (z_ei (z_ch n b) sg (i + 1)).1 = true
    · rw [if_pos q4]
      obtain ⟨g4, g5⟩ := g2 q4
      obtain ⟨e1, e2, -, -⟩ := gp3 q4
      refine z_pos (by rw [g4.2.2.2.1]; decide) ?_
      obtain ⟨r2, hr2, hk2⟩ := z_look g4.1 g4.2.1 g4.2.2.1
      rw [hr2, z_bind_some]
      by_cases q5 : z_ch n b (z_ei (z_ch n b) sg (i + 1)).2.1 = 41
      · rw [if_pos q5]
        have hin2 : (z_ei (z_ch n b) sg (i + 1)).2.1 < n := z_ch_n (b := b) (by omega)
        obtain ⟨p1, p2, p3, p4, p5, p6⟩ := g4
        refine z_pos ((z_lk_eq hk2 (k := 41) (by omega)).mpr q5) (z_let (z_let (k_sat_mk ⟨(k1.tr (z_kF rfl)).tr (z_kF rfl), fun _ => ⟨⟨z_rx_f p1 ((z_kF rfl).tr (z_kF rfl)), ?_, hin2, p4, z_rc_f p5 (by simp [k_wF]) rfl rfl, ?_⟩, ?_⟩, fun q => (by cases q)⟩)))
        · simp [k_wF, p2, z_Jp]
        · dsimp only
          rw [List.length_append]
          omega
        · simp [k_wF, g5, z_Jm]
      · rw [if_neg q5]
        refine z_neg (fun x => q5 ((z_lk_eq hk2 (k := 41) (by omega)).mp x)) ?_
        rw [z_wrR g4, z_bind_some]
        refine k_sat_mk ⟨k1.tr (z_kF rfl), fun q => (by cases q), fun _ => z_wr_f g4 (by omega) ?_⟩
        rw [List.length_append]
        omega
    · rw [if_neg q4]
      have h4 := g3 (by cases hq : (z_ei (z_ch n b) sg (i + 1)).1; rfl; exact absurd hq q4)
      exact z_neg (by have := z_fltR h4; ((try simp (disch := omega) only [Int32.lt_iff_toInt_lt, Int32.le_iff_toInt_le, ← Int32.toInt_inj, Int32.toInt_add, Int32.toInt_sub, Int32.toInt_mul, Int32.toInt_neg, z_bm, z_bm2, J_ti, J_toInt, z_cn, Int32.reduceToInt] at *); omega)) (k_sat_mk ⟨k1, fun q => (by cases q), fun _ => z_rf_w h4 (by omega) (by omega)⟩)
  rw [if_neg q3]
  by_cases q4 : z_ch n b i = 33 ∨ z_ch n b i = 45
  · rw [if_pos q4]
    have hin : i < n := z_ch_n (b := b) (by omega)
    obtain ⟨gp1, gp2, gp3⟩ := hg (i + 1) (by omega)
    have key : k_sat (f_R_operand_J46 rc r u) (fun _ v => z_fk [4212, 4213, 4214, 4215] [49, 50] u v ∧ ((if (sg (i + 1)).1 = true then (true, (sg (i + 1)).2.1, (sg (i + 1)).2.2 ++ [if z_ch n b i = 45 then -1 else -33]) else (false, (sg (i + 1)).2.1, ([] : List Int32))).1 = true → z_rs n b v (if (sg (i + 1)).1 = true then (true, (sg (i + 1)).2.1, (sg (i + 1)).2.2 ++ [if z_ch n b i = 45 then -1 else -33]) else (false, (sg (i + 1)).2.1, ([] : List Int32))).2.1 (L ++ (if (sg (i + 1)).1 = true then (true, (sg (i + 1)).2.1, (sg (i + 1)).2.2 ++ [if z_ch n b i = 45 then -1 else -33]) else (false, (sg (i + 1)).2.1, ([] : List Int32))).2.2) ∧ v.1 4214 = J (6 - d)) ∧ ((if (sg (i + 1)).1 = true then (true, (sg (i + 1)).2.1, (sg (i + 1)).2.2 ++ [if z_ch n b i = 45 then -1 else -33]) else (false, (sg (i + 1)).2.1, ([] : List Int32))).1 = false → z_rf n b v (if (sg (i + 1)).1 = true then (true, (sg (i + 1)).2.1, (sg (i + 1)).2.2 ++ [if z_ch n b i = 45 then -1 else -33]) else (false, (sg (i + 1)).2.1, ([] : List Int32))).2.1 i L.length)) := by
      unfold f_R_operand_J46
      rw [hop, z_bind_some]
      refine z_neg (by decide) (z_bind _ (hrc _ _ _ (hN hin) hO) (fun _ v hv => ?_))
      obtain ⟨g1, g2, g3⟩ := hv
      have k1 := hF.tr g1
      by_cases q5 : (sg (i + 1)).1 = true
      · rw [if_pos q5]
        obtain ⟨g4, g5⟩ := g2 q5
        obtain ⟨e1, e2, -, -⟩ := gp3 q5
        obtain ⟨p1, p2, p3, p4, p5, p6⟩ := g4
        rw [g5, z_Jm]
        have k2 : z_fk [4212, 4213, 4214, 4215] [49, 50] u (k_wF v 4214 (J (6 - d))) := k1.tr (z_kF rfl)
        have x1 : z_rx n b (k_wF v 4214 (J (6 - d))) := z_rx_f p1 (z_kF rfl)
        have c1 : z_rc (k_wF v 4214 (J (6 - d))) (L ++ (sg (i + 1)).2.2) := z_rc_f p5 (by simp [k_wF]) rfl rfl
        have e4212 : (k_wF v 4214 (J (6 - d))).1 4212 = J (sg (i + 1)).2.1 := p2
        have e4213 : (k_wF v 4214 (J (6 - d))).1 4213 = -1 := p4
        have e4214 : (k_wF v 4214 (J (6 - d))).1 4214 = J (6 - d) := by simp [k_wF]
        generalize k_wF v 4214 (J (6 - d)) = w at *
        have fin : ∀ (k : Nat) (s : Int32), k < 128 → z_ra s (J k) 0 → s = (if z_ch n b i = 45 then -1 else -33) → k_sat (f_R_operand_J80 rc (J k) w) (fun _ v => z_fk [4212, 4213, 4214, 4215] [49, 50] u v ∧ (true = true → z_rs n b v (sg (i + 1)).2.1 (L ++ ((sg (i + 1)).2.2 ++ [if z_ch n b i = 45 then -1 else -33])) ∧ v.1 4214 = J (6 - d)) ∧ (true = false → z_rf n b v (sg (i + 1)).2.1 i L.length)) := by
          intro k s hk hra hss
          unfold f_R_operand_J80
          refine z_bind _ (z_addR c1 (by rw [List.length_append]; omega) hk hra) (fun _ x hx => k_sat_mk ⟨k2.tr (hx.1.mono rfl rfl), fun _ => ⟨⟨z_rx_f x1 (hx.1.mono rfl rfl), (hx.1.1 4212 rfl).trans e4212, p3, (hx.1.1 4213 rfl).trans e4213, ?_, ?_⟩, (hx.1.1 4214 rfl).trans e4214⟩, fun q => (by cases q)⟩)
          · rw [← List.append_assoc, ← hss]
            exact hx.2
          · rw [List.length_append, List.length_append, List.length_singleton]
            omega
        refine z_let (z_ite (fun c => fin 3 (-33) (by omega) (Or.inr (Or.inr (Or.inr (Or.inr (Or.inr (Or.inl ⟨rfl, rfl⟩)))))) ?_) (fun c => fin 4 (-1) (by omega) (Or.inr (Or.inr (Or.inr (Or.inr (Or.inr (Or.inr (Or.inl ⟨rfl, rfl⟩))))))) ?_))
        · have := (z_lk_eq hkk (k := 33) (by omega)).mp c
          rw [if_neg (by omega)]
        · rw [if_pos]
          rcases q4 with x | x
          · exact absurd ((z_lk_eq hkk (k := 33) (by omega)).mpr x) c
          · exact x
      · rw [if_neg q5]
        have h4 := g3 (by cases hq : (sg (i + 1)).1; rfl; exact absurd hq q5)
        have h5 : ∀ y : Int32, z_rf n b (k_wF v 4214 y) (sg (i + 1)).2.1 (i + 1) L.length := fun y => by
          obtain ⟨p1, p2, p3, x, l, p4, p5, p6, p7, p8⟩ := h4
          exact ⟨z_rx_f p1 (z_kF rfl), p2, p3, x, l, p4, p5, p6, p7, p8⟩
        have fin : ∀ (y s : Int32), k_sat (f_R_operand_J80 rc s (k_wF v 4214 y)) (fun _ v => z_fk [4212, 4213, 4214, 4215] [49, 50] u v ∧ (false = true → z_rs n b v (sg (i + 1)).2.1 (L ++ []) ∧ v.1 4214 = J (6 - d)) ∧ (false = false → z_rf n b v (sg (i + 1)).2.1 i L.length)) := by
          intro y s
          unfold f_R_operand_J80
          exact z_bind _ (z_addF (h5 y) hl) (fun _ x hx => k_sat_mk ⟨(k1.tr (z_kF rfl)).tr (hx.1.mono rfl rfl), fun q => (by cases q), fun _ => hx.2⟩)
        exact z_let (z_ite (fun _ => fin _ _) (fun _ => fin _ _))
    refine z_ite (fun _ => key) (fun c1 => z_ite (fun _ => key) (fun c2 => ?_))
    rcases q4 with c | c
    · exact absurd ((z_lk_eq hkk (k := 33) (by omega)).mpr c) c1
    · exact absurd ((z_lk_eq hkk (k := 45) (by omega)).mpr c) c2
  · rw [if_neg q4]
    exact z_neg (fun x => q4 (Or.inl ((z_lk_eq hkk (k := 33) (by omega)).mp x))) (z_neg (fun x => q4 (Or.inr ((z_lk_eq hkk (k := 45) (by omega)).mp x))) (z_neg (fun x => q3 ((z_lk_eq hkk (k := 40) (by omega)).mp x)) (z_bind _ (z_figR hs) (fun _ v hv => k_sat_mk ⟨hv.1.mono rfl rfl, fun q => (by cases q), fun _ => hv.2.2.1 q1⟩))))
theorem z_sgR {n : Nat} {b : Nat → Nat} (hn : n ≤ 120) : ∀ d, d ≤ 6 → ∀ k, d < k → z_PR n b (6 - d) (f_R_operand_rec k) (z_sg (z_ch n b) d)
  | 0, hd, k, hk => by
    obtain ⟨k', rfl⟩ : ∃ k', k = k' + 1 := ⟨k - 1, by omega⟩
    exact z_opR (d := 0) (rc := f_R_operand_rec k') (o := none) hn hd (fun _ => rfl) (fun h => by omega)
  | d + 1, hd, k, hk => by
    obtain ⟨k', rfl⟩ : ∃ k', k = k' + 1 := ⟨k - 1, by omega⟩
    refine z_opR (d := d + 1) (rc := f_R_operand_rec k') (o := some (z_sg (z_ch n b) d)) hn hd (fun h => by omega) (fun _ => ⟨_, rfl, z_sg_g d, ?_⟩)
    rw [show 6 - (d + 1) + 1 = 6 - d by omega]
    exact z_sgR hn d (by omega) k' (by omega)
/-! LAW: the reference's lines -/
theorem z_ps_M {te le te' le' : Nat → Int32} {M : Nat} (h : ∀ i, i < M → te' i = te i ∧ le' i = le i) : ∀ (ls : List z_Ln) (o j : Nat), j + ls.length ≤ M → z_ps te le o j ls → z_ps te' le' o j ls
  | [], o, j, _, _ => trivial
  | l :: r, o, j, hj, hp => by
    rw [List.length_cons] at hj
    rw [z_ps] at hp ⊢
    obtain ⟨a, b⟩ := h j (by omega)
    exact ⟨a.trans hp.1, b.trans hp.2.1, z_ps_M h r _ _ (by omega) hp.2.2⟩
theorem z_ps_app {te le : Nat → Int32} {l : z_Ln} : ∀ (ls : List z_Ln) (o j : Nat), z_ps te le o j ls → te (j + ls.length) = J (o + (z_rl ls).length + l.1.length) → le (j + ls.length) = J (o + (z_rl ls).length + l.1.length + l.2.length) → z_ps te le o j (ls ++ [l])
  | [], o, j, _, h1, h2 => ⟨h1, h2, trivial⟩
  | a :: r, o, j, hp, h1, h2 => by
    rw [List.cons_append, z_ps]
    rw [z_ps] at hp
    have e : (z_rl (a :: r)).length = a.1.length + a.2.length + (z_rl r).length := by
      rw [z_rl, List.length_append, List.length_append]
      omega
    rw [e, List.length_cons] at h1 h2
    refine ⟨hp.1, hp.2.1, z_ps_app r _ _ hp.2.2 ?_ ?_⟩
    · rw [show j + 1 + r.length = j + (r.length + 1) by omega, h1]
      congr 1
      omega
    · rw [show j + 1 + r.length = j + (r.length + 1) by omega, h2]
      congr 1
      omega
theorem z_ps_J {te le : Nat → Int32} : ∀ (ls : List z_Ln) (o j : Nat), z_ps te le o j ls → o + (z_rl ls).length ≤ 130 → ∀ x, x < ls.length → (te (j + x)).toInt16.toInt32 = te (j + x) ∧ (le (j + x)).toInt16.toInt32 = le (j + x)
  | [], o, j, _, _, x, hx => by cases hx
  | a :: r, o, j, hp, hl, x, hx => by
    rw [z_ps] at hp
    rw [z_rl, List.length_append, List.length_append] at hl
    rw [List.length_cons] at hx
    by_cases e : x = 0
    · subst e
      rw [Nat.add_zero, hp.1, hp.2.1]
      exact ⟨z_b16 (by omega), z_b16 (by omega)⟩
    · have := z_ps_J r _ _ hp.2.2 (by omega) (x - 1) (by omega)
      rw [show j + 1 + (x - 1) = j + x by omega] at this
      exact this
theorem z_rs_m {n i : Nat} {b : Nat → Nat} {L : List Int32} {u v : k_S} (h : z_rs n b u i L) (hf : z_fk [] [51, 52, 53] u v) : z_rs n b v i L := by
  obtain ⟨⟨a1, a2, a3⟩, h2, h3, h4, ⟨h5, h6⟩, h7⟩ := h
  refine ⟨⟨a1, (hf.1 4202 rfl).trans a2, ?_⟩, (hf.1 4212 rfl).trans h2, h3, (hf.1 4213 rfl).trans h4, ⟨(hf.1 4215 rfl).trans h5, ?_⟩, h7⟩
  · rw [hf.2.1 43 rfl]
    exact a3
  · rw [hf.2.1 49 rfl, hf.2.1 50 rfl]
    exact h6
theorem z_rx_m {n : Nat} {b : Nat → Nat} {u v : k_S} (h : z_rx n b u) (hf : z_fk [4212, 4213, 4214, 4215] [49, 50, 51, 52, 53] u v) : z_rx n b v :=
  ⟨h.1, (hf.1 4202 rfl).trans h.2.1, fun j hj => by rw [hf.2.1 43 rfl]; exact h.2.2 j hj⟩
def z_rv (n : Nat) (b : Nat → Nat) (u : k_S) (i : Nat) (ls : List z_Ln) : Prop := z_rs n b u i (z_rl ls) ∧ u.1 4214 = J 0 ∧ u.2.1 51 1 = J ls.length ∧ z_ps (fun j => u.2.1 52 (61 + j)) (fun j => u.2.1 53 (61 + j)) 0 0 ls
theorem z_l66 {t : Nat} {u : k_S} (ht : t < 122) (h61 : 61 ≤ t) : k_sat (f_R_line_J66 (J t) u) (fun _ v => z_fk [] [51, 53] u v ∧ v.2.1 53 = upd (u.2.1 53) t ((((u.1 4215).toInt16.toInt32).toInt16.toInt32)) ∧ v.2.1 51 = upd (u.2.1 51) 1 (u.2.1 51 1 + 1)) := by
  unfold f_R_line_J66
  rw [J_toNat (by omega), show (1 : Int32).toNatClampNeg = 1 from rfl]
  refine z_ck (by (try simp (disch := omega) only [Int32.lt_iff_toInt_lt, Int32.le_iff_toInt_le, ← Int32.toInt_inj, Int32.toInt_add, Int32.toInt_sub, Int32.toInt_mul, Int32.toInt_neg, z_bm, z_bm2, J_ti, J_toInt, z_cn, Int32.reduceToInt]) <;> omega) (by (try simp (disch := omega) only [Int32.lt_iff_toInt_lt, Int32.le_iff_toInt_le, ← Int32.toInt_inj, Int32.toInt_add, Int32.toInt_sub, Int32.toInt_mul, Int32.toInt_neg, z_bm, z_bm2, J_ti, J_toInt, z_cn, Int32.reduceToInt]) <;> omega) (z_let (z_ck (by decide) (by decide) (z_ck (by decide) (by decide) (z_let (k_sat_mk ⟨(z_kB rfl (by omega)).tr (z_kB rfl (by omega)), ?_, ?_⟩)))))
  · simp only [k_wA, show ¬ (53 = 51) by decide, if_false, if_true]
  · simp only [k_wA, show ¬ (51 = 53) by decide, if_false, if_true]
theorem z_lineR {n i : Nat} {b : Nat → Nat} {ls : List z_Ln} {u : k_S} (hs : z_rv n b u i ls) (hc : 2 * ls.length ≤ i) : k_sat (f_R_line u) (fun _ v => z_fk [4212, 4213, 4214, 4215] [49, 50, 51, 52, 53] u v ∧ ((z_ln (z_ch n b) i).1 = true → z_rv n b v (z_ln (z_ch n b) i).2.1 (ls ++ [(z_ln (z_ch n b) i).2.2])) ∧ ((z_ln (z_ch n b) i).1 = false → z_rx n b v ∧ v.1 4213 = J (z_ln (z_ch n b) i).2.1)) := by
  obtain ⟨h1, h2, h3, h4⟩ := hs
  have hn := h1.1.1
  have hin := h1.2.2.1
  have hl := h1.2.2.2.2.2
  have he : z_gp n (z_e6 (z_ch n b)) := z_ei_g (z_sg_g 6)
  have hP : z_PR n b 0 (f_R_either (f_R_operand_rec 8)) (z_e6 (z_ch n b)) := z_eiR hn (z_sgR hn 6 (by omega) 8 (by omega)) (z_sg_g 6)
  obtain ⟨a1, a2, a3⟩ := he i hin
  have e61 : ∀ x : Nat, (61 : Int32) + J x = J (61 + x) := fun x => by rw [show (61 : Int32) = J 61 from rfl, J_add]
  have e4215 : u.1 4215 = J (z_rl ls).length := h1.2.2.2.2.1.1
  -- what the last rows do, and mean
  have h66f : ∀ (v : k_S) (j : Nat), z_fk [4212, 4213, 4214, 4215] [49, 50, 51, 52, 53] u v → z_rx n b v → v.1 4213 = J j → k_sat (f_R_line_J66 (J (61 + ls.length)) v) (fun _ w => z_fk [4212, 4213, 4214, 4215] [49, 50, 51, 52, 53] u w ∧ z_rx n b w ∧ w.1 4213 = J j) := by
    intro v j k1 k2 k3
    refine z_mono (z_l66 (by omega) (by omega)) (fun _ w hw => ⟨k1.tr (hw.1.mono rfl rfl), z_rx_m k2 (hw.1.mono rfl rfl), (hw.1.1 4213 rfl).trans k3⟩)
  have h66 : ∀ (v : k_S) (j : Nat) (l : z_Ln), z_fk [4212, 4213, 4214, 4215] [49, 50, 51, 52, 53] u v → v.2.1 51 = u.2.1 51 → v.2.1 53 = u.2.1 53 → (∀ x, x < ls.length → v.2.1 52 (61 + x) = u.2.1 52 (61 + x)) → v.2.1 52 (61 + ls.length) = J ((z_rl ls).length + l.1.length) → z_rs n b v j (z_rl ls ++ (l.1 ++ l.2)) → v.1 4214 = J 0 → k_sat (f_R_line_J66 (J (61 + ls.length)) v) (fun _ w => z_fk [4212, 4213, 4214, 4215] [49, 50, 51, 52, 53] u w ∧ z_rv n b w j (ls ++ [l])) := by
    intro v j l k1 k2 k3 k4 k5 k6 k7
    refine z_mono (z_l66 (by omega) (by omega)) (fun _ w hw => ⟨k1.tr (hw.1.mono rfl rfl), ?_, (hw.1.1 4214 rfl).trans k7, ?_, ?_⟩)
    · rw [z_rl_app]
      exact z_rs_m k6 (hw.1.mono rfl rfl)
    · rw [hw.2.2, z_up, if_pos rfl, k2, h3, z_Jp, List.length_append, List.length_singleton]
    · have q1 := k6.2.2.2.2.1.1
      have q2 := k6.2.2.2.2.2
      have q3 := k6.2.2.1
      rw [List.length_append, List.length_append] at q1 q2
      have e53 : w.2.1 53 = upd (u.2.1 53) (61 + ls.length) (J ((z_rl ls).length + (l.1.length + l.2.length))) := by
        rw [hw.2.1, k3, q1, z_b16 (by omega), z_b16 (by omega)]
      have e52 : w.2.1 52 = v.2.1 52 := hw.1.2.1 52 rfl
      refine z_ps_app ls 0 0 (z_ps_M (M := ls.length) (fun x hx => ?_) ls 0 0 (by omega) h4) ?_ ?_
      · rw [e53, e52, z_up, if_neg (by omega)]
        exact ⟨k4 x hx, rfl⟩
      · rw [e52, Nat.zero_add, Nat.zero_add]
        exact k5
      · rw [e53, z_up, if_pos (by omega), Nat.zero_add, Nat.add_assoc]
  unfold f_R_line
  rw [show (1 : Int32).toNatClampNeg = 1 from rfl, h3, e61, e4215, z_b16 (by omega), z_b16 (by omega)]
  simp only [k_let]
  rw [J_toNat (show 61 + ls.length < 2147483648 by omega)]
  refine z_ck (by decide) (by decide) (z_ck (by (try simp (disch := omega) only [Int32.lt_iff_toInt_lt, Int32.le_iff_toInt_le, ← Int32.toInt_inj, Int32.toInt_add, Int32.toInt_sub, Int32.toInt_mul, Int32.toInt_neg, z_bm, z_bm2, J_ti, J_toInt, z_cn, Int32.reduceToInt]) <;> omega) (by (try simp (disch := omega) only [Int32.lt_iff_toInt_lt, Int32.le_iff_toInt_le, ← Int32.toInt_inj, Int32.toInt_add, Int32.toInt_sub, Int32.toInt_mul, Int32.toInt_neg, z_bm, z_bm2, J_ti, J_toInt, z_cn, Int32.reduceToInt]) <;> omega) ?_)
  have f0 : z_fk [] [52] u (k_wA u 52 (61 + ls.length) (J (z_rl ls).length)) := z_kB rfl (by omega)
  have f52 : (k_wA u 52 (61 + ls.length) (J (z_rl ls).length)).2.1 52 = upd (u.2.1 52) (61 + ls.length) (J (z_rl ls).length) := by simp [k_wA]
  have f51 : (k_wA u 52 (61 + ls.length) (J (z_rl ls).length)).2.1 51 = u.2.1 51 := rfl
  have f53 : (k_wA u 52 (61 + ls.length) (J (z_rl ls).length)).2.1 53 = u.2.1 53 := rfl
  generalize k_wA u 52 (61 + ls.length) (J (z_rl ls).length) = u1 at *
  refine z_bind _ (hP u1 i (z_rl ls) (z_rs_m h1 (f0.mono rfl rfl)) ((f0.1 4214 rfl).trans h2)) (fun _ v hv => ?_)
  obtain ⟨g1, g2, g3⟩ := hv
  have k1 : z_fk [4212, 4213, 4214, 4215] [49, 50, 51, 52, 53] u v := (f0.mono rfl rfl).tr (g1.mono rfl rfl)
  have v52 : v.2.1 52 = upd (u.2.1 52) (61 + ls.length) (J (z_rl ls).length) := (g1.2.1 52 rfl).trans f52
  have v51 : v.2.1 51 = u.2.1 51 := (g1.2.1 51 rfl).trans f51
  have v53 : v.2.1 53 = u.2.1 53 := (g1.2.1 53 rfl).trans f53
  unfold z_ln
  by_cases q1 : (z_e6 (z_ch n b) i).1 = true
  · rw [if_pos q1]
    obtain ⟨g4, g5⟩ := g2 q1
    obtain ⟨b1, b2, b3, b4⟩ := a3 q1
    generalize hj : (z_e6 (z_ch n b) i).2.1 = j at *
    generalize hA : (z_e6 (z_ch n b) i).2.2 = A at *
    refine z_neg (by rw [g4.2.2.2.1]; decide) ?_
    obtain ⟨r, hr, hkk⟩ := z_look g4.1 g4.2.1 g4.2.2.1
    rw [hr, z_bind_some]
    by_cases q2 : z_ch n b j = 63
    · rw [if_pos q2]
      have hjn : j < n := z_ch_n (b := b) (by omega)
      obtain ⟨c1, c2, c3⟩ := he (j + 1) (by omega)
      have x1 := (z_nx2 g4 hjn).2
      rw [(z_nx2 g4 hjn).1]
      have e2 : (k_wF v 4212 (J (j + 1))).1 4215 = J (z_rl ls ++ A).length := g4.2.2.2.2.1.1
      have hlA := g4.2.2.2.2.2
      rw [List.length_append] at e2 hlA
      rw [e2, z_b16 (by omega), z_b16 (by omega)]
      refine z_pos ((z_lk_eq hkk (k := 63) (by omega)).mpr q2) (z_ck (by (try simp (disch := omega) only [Int32.lt_iff_toInt_lt, Int32.le_iff_toInt_le, ← Int32.toInt_inj, Int32.toInt_add, Int32.toInt_sub, Int32.toInt_mul, Int32.toInt_neg, z_bm, z_bm2, J_ti, J_toInt, z_cn, Int32.reduceToInt]) <;> omega) (by (try simp (disch := omega) only [Int32.lt_iff_toInt_lt, Int32.le_iff_toInt_le, ← Int32.toInt_inj, Int32.toInt_add, Int32.toInt_sub, Int32.toInt_mul, Int32.toInt_neg, z_bm, z_bm2, J_ti, J_toInt, z_cn, Int32.reduceToInt]) <;> omega) ?_)
      have k2 : z_fk [4212, 4213, 4214, 4215] [49, 50, 51, 52, 53] u (k_wA (k_wF v 4212 (J (j + 1))) 52 (61 + ls.length) (J ((z_rl ls).length + A.length))) := (k1.tr (z_kF rfl)).tr (z_kB rfl (by omega))
      have x2 : z_rs n b (k_wA (k_wF v 4212 (J (j + 1))) 52 (61 + ls.length) (J ((z_rl ls).length + A.length))) (j + 1) (z_rl ls ++ A) := z_rs_m x1 (z_kB rfl (by omega))
      have w4214 : (k_wA (k_wF v 4212 (J (j + 1))) 52 (61 + ls.length) (J ((z_rl ls).length + A.length))).1 4214 = J 0 := g5
      have w51 : (k_wA (k_wF v 4212 (J (j + 1))) 52 (61 + ls.length) (J ((z_rl ls).length + A.length))).2.1 51 = u.2.1 51 := v51
      have w53 : (k_wA (k_wF v 4212 (J (j + 1))) 52 (61 + ls.length) (J ((z_rl ls).length + A.length))).2.1 53 = u.2.1 53 := v53
      have w52 : (k_wA (k_wF v 4212 (J (j + 1))) 52 (61 + ls.length) (J ((z_rl ls).length + A.length))).2.1 52 = upd (u.2.1 52) (61 + ls.length) (J ((z_rl ls).length + A.length)) := by
        have : (k_wA (k_wF v 4212 (J (j + 1))) 52 (61 + ls.length) (J ((z_rl ls).length + A.length))).2.1 52 = upd (v.2.1 52) (61 + ls.length) (J ((z_rl ls).length + A.length)) := by simp [k_wA, k_wF]
        rw [this]
        exact z_upd2 v52
      generalize k_wA (k_wF v 4212 (J (j + 1))) 52 (61 + ls.length) (J ((z_rl ls).length + A.length)) = w at *
      refine z_bind _ (hP w (j + 1) (z_rl ls ++ A) x2 w4214) (fun _ x hx => ?_)
      obtain ⟨m1, m2, m3⟩ := hx
      have k3 : z_fk [4212, 4213, 4214, 4215] [49, 50, 51, 52, 53] u x := k2.tr (m1.mono rfl rfl)
      have x52 : x.2.1 52 = upd (u.2.1 52) (61 + ls.length) (J ((z_rl ls).length + A.length)) := (m1.2.1 52 rfl).trans w52
      by_cases q3 : (z_e6 (z_ch n b) (j + 1)).1 = true
      · rw [if_pos q3]
        obtain ⟨m4, m5⟩ := m2 q3
        refine z_mono (h66 x (z_e6 (z_ch n b) (j + 1)).2.1 (A, (z_e6 (z_ch n b) (j + 1)).2.2) k3 ((m1.2.1 51 rfl).trans w51) ((m1.2.1 53 rfl).trans w53) (fun y hy => ?_) ?_ ?_ m5) (fun _ y hy => ⟨hy.1, fun _ => hy.2, fun q => by cases q⟩)
        · rw [x52, z_up, if_neg (by omega)]
        · rw [x52, z_up, if_pos rfl]
        · rw [← List.append_assoc]
          exact m4
      · rw [if_neg q3]
        have m4 := m3 (by cases hq : (z_e6 (z_ch n b) (j + 1)).1; rfl; exact absurd hq q3)
        exact z_mono (h66f x _ k3 m4.1 m4.2.1) (fun _ y hy => ⟨hy.1, fun q => (by cases q), fun _ => hy.2⟩)
    · rw [if_neg q2]
      refine z_neg (fun x => q2 ((z_lk_eq hkk (k := 63) (by omega)).mp x)) ?_
      refine z_mono (h66 v j ([], A) k1 v51 v53 (fun y hy => ?_) ?_ ?_ g5) (fun _ y hy => ⟨hy.1, fun _ => hy.2, fun q => by cases q⟩)
      · rw [v52, z_up, if_neg (by omega)]
      · rw [v52, z_up, if_pos rfl]; rfl
      · rw [List.nil_append]
        exact g4
  · rw [if_neg q1]
    have g4 := g3 (by cases hq : (z_e6 (z_ch n b) i).1; rfl; exact absurd hq q1)
    exact z_pos (z_fltR g4) (z_mono (h66f v _ k1 g4.1 g4.2.1) (fun _ y hy => ⟨hy.1, fun q => (by cases q), fun _ => hy.2⟩))
theorem z_linesR {n : Nat} {b : Nat → Nat} {p1 : Int32} : ∀ (m : Nat) (u : k_S) (i : Nat) (ls : List z_Ln) (N : Nat), n ≤ i + m → m + 1 < N → z_rv n b u i ls → 2 * ls.length ≤ i + 1 → k_sat (k_itr (fun (x : Unit) u => f_R_readText_B31 p1 u) N () u) (fun _ v => z_fk [4212, 4213, 4214, 4215] [49, 50, 51, 52, 53] u v ∧ ((z_tl (z_ch n b) m i ls).1 = true → z_rv n b v (z_tl (z_ch n b) m i ls).2.1 (z_tl (z_ch n b) m i ls).2.2) ∧ ((z_tl (z_ch n b) m i ls).1 = false → z_rx n b v ∧ v.1 4213 = J (z_tl (z_ch n b) m i ls).2.1))
  | 0, u, i, ls, N, hm, hN, hs, hc => by
    obtain ⟨M, rfl⟩ : ∃ M, N = M + 1 := ⟨N - 1, by omega⟩
    obtain ⟨r, hr, hkk⟩ := z_look hs.1.1 hs.1.2.1 hs.1.2.2.1
    have hne : ¬ z_ch n b i = 59 := fun q => by
      have := z_ch_n (n := n) (b := b) (i := i) (by omega)
      omega
    refine z_exit ?_
    unfold f_R_readText_B31
    rw [hs.1.2.2.2.1, hr, z_bind_some]
    exact z_neg (by decide) (z_neg (fun x => hne ((z_lk_eq hkk (k := 59) (by omega)).mp x)) (k_sat_mk ⟨_, rfl, z_fk.rf, fun _ => hs, fun q => by cases q⟩))
  | m + 1, u, i, ls, N, hm, hN, hs, hc => by
    obtain ⟨M, rfl⟩ : ∃ M, N = M + 1 := ⟨N - 1, by omega⟩
    obtain ⟨r, hr, hkk⟩ := z_look hs.1.1 hs.1.2.1 hs.1.2.2.1
    rw [z_tl]
    by_cases q1 : z_ch n b i = 59
    · rw [if_pos q1]
      have hin : i < n := z_ch_n (b := b) (by omega)
      have x1 := z_nx2 hs.1 hin
      have h0 : z_rv n b (k_wF u 4212 (J (i + 1))) (i + 1) ls := ⟨x1.2, hs.2.1, hs.2.2.1, hs.2.2.2⟩
      obtain ⟨g1, g2, g3⟩ := z_ln_g (b := b) (i + 1) 0 (show i + 1 ≤ n by omega)
      refine z_turn ?_
      unfold f_R_readText_B31
      rw [hs.1.2.2.2.1, hr, z_bind_some, x1.1]
      refine z_neg (by decide) (z_pos ((z_lk_eq hkk (k := 59) (by omega)).mpr q1) (z_let (z_bind _ (z_lineR h0 (by omega)) (fun _ v hv => k_sat_mk ⟨_, rfl, ?_⟩))))
      obtain ⟨m1, m2, m3⟩ := hv
      have k1 : z_fk [4212, 4213, 4214, 4215] [49, 50, 51, 52, 53] u v := (z_kF rfl).tr m1
      by_cases q2 : (z_ln (z_ch n b) (i + 1)).1 = true
      · rw [if_pos q2]
        have := (g3 q2).1
        exact z_mono (z_linesR (p1 := p1) m v _ (ls ++ [(z_ln (z_ch n b) (i + 1)).2.2]) M (by omega) (by omega) (m2 q2) (by rw [List.length_append, List.length_singleton]; omega)) (fun _ w hw => ⟨k1.tr hw.1, hw.2⟩)
      · rw [if_neg q2]
        obtain ⟨m4, m5⟩ := m3 (by cases hq : (z_ln (z_ch n b) (i + 1)).1; rfl; exact absurd hq q2)
        obtain ⟨M', rfl⟩ : ∃ M', M = M' + 1 := ⟨M - 1, by omega⟩
        refine z_exit ?_
        have hn := hs.1.1.1
        exact z_pos (by rw [m5]; (try simp (disch := omega) only [Int32.lt_iff_toInt_lt, Int32.le_iff_toInt_le, ← Int32.toInt_inj, Int32.toInt_add, Int32.toInt_sub, Int32.toInt_mul, Int32.toInt_neg, z_bm, z_bm2, J_ti, J_toInt, z_cn, Int32.reduceToInt]) <;> omega) (k_sat_mk ⟨_, rfl, k1, fun q => (by cases q), fun _ => ⟨m4, m5⟩⟩)
    · rw [if_neg q1]
      refine z_exit ?_
      unfold f_R_readText_B31
      rw [hs.1.2.2.2.1, hr, z_bind_some]
      exact z_neg (by decide) (z_neg (fun x => q1 ((z_lk_eq hkk (k := 59) (by omega)).mp x)) (k_sat_mk ⟨_, rfl, z_fk.rf, fun _ => hs, fun q => by cases q⟩))
/-! LAW: the reference's law; law -/
theorem z_ra_8 {s a w : Int32} (h : z_ra s a w) : a.toInt8.toInt32 = a := by
  rcases h with ⟨v, -, -, rfl, -⟩ | ⟨-, rfl, -⟩ | ⟨-, rfl, -⟩ | ⟨-, rfl, -⟩ | ⟨-, rfl, -⟩ | ⟨-, rfl⟩ | ⟨-, rfl⟩ | ⟨c, hc, -, rfl⟩
  · decide
  · decide
  · decide
  · decide
  · decide
  · decide
  · decide
  · have := z_ops_lt hc
    exact (z_b8 (by omega)).1 this
theorem z_1300 (x : Nat) : ((130 : Int32) * 0) + J x = J x := z_130 x
theorem z_610 (x : Nat) : ((61 : Int32) * 0) + J x = J x := by rw [Int32.mul_zero, Int32.zero_add]
theorem z_lt_of {L : List Int32} {i : Nat} {s : Int32} (h : L[i]? = some s) : i < L.length := by
  rcases Nat.lt_or_ge i L.length with q | q
  · exact q
  · rw [List.getElem?_eq_none q] at h; cases h
theorem z_get {L : List Int32} {i : Nat} (h : i < L.length) : ∃ s, L[i]? = some s := ⟨L[i], List.getElem?_eq_getElem h⟩
/-- a good text is kept -/
theorem z_keepR {n : Nat} {b : Nat → Nat} {ls : List z_Ln} {u : k_S} {i : Nat} (hs : z_rv n b u i ls) (hl : (z_rl ls).length ≤ 120) (hm : ls.length ≤ 61) : k_sat (f_R_readText_J86 0 u) (fun r v => r = -1 ∧ z_fr [4202] [49, 50, 51, 52, 53] u v ∧ v.1 4202 = 0 ∧ (∀ i s, (z_rl ls)[i]? = some s → z_ra s (v.2.1 49 i) (v.2.1 50 i)) ∧ v.2.1 51 0 = J ls.length ∧ z_ps (v.2.1 52) (v.2.1 53) 0 0 ls) := by
  obtain ⟨h1, h2, h3, h4⟩ := hs
  have hra : ∀ j, j < (z_rl ls).length → (u.2.1 49 (130 + j)).toInt8.toInt32 = u.2.1 49 (130 + j) := fun j hj => by
    obtain ⟨s, e⟩ := z_get hj
    exact z_ra_8 (h1.2.2.2.2.1.2 j s e)
  have hps : ∀ x, x < ls.length → (u.2.1 52 (61 + x)).toInt16.toInt32 = u.2.1 52 (61 + x) ∧ (u.2.1 53 (61 + x)).toInt16.toInt32 = u.2.1 53 (61 + x) := fun x hx => by
    have := z_ps_J ls 0 0 h4 (by omega) x hx
    rw [Nat.zero_add] at this
    exact this
  unfold f_R_readText_J86
  have f0 : z_fr [4202] [] u (k_wF u 4202 0) := z_wF rfl
  have e0 : (k_wF u 4202 0).1 4202 = 0 := by simp [k_wF]
  refine z_let ?_
  generalize k_wF u 4202 0 = w at *
  refine z_pos (by rw [f0.1 4213 rfl, h1.2.2.2.1]; decide) (z_bind _ (z_for 0 (z_rl ls).length (fun x v => z_fr [] [49, 50] w v ∧ (∀ j, j < x → v.2.1 49 j = u.2.1 49 (130 + j) ∧ v.2.1 50 j = u.2.1 50 (130 + j)) ∧ ∀ j, 130 ≤ j → v.2.1 49 j = u.2.1 49 j ∧ v.2.1 50 j = u.2.1 50 j) (K := fun _ v => z_fr [] [49, 50] w v ∧ ∀ j, j < (z_rl ls).length → v.2.1 49 j = u.2.1 49 (130 + j) ∧ v.2.1 50 j = u.2.1 50 (130 + j)) (by omega) (Nat.zero_le _) ⟨z_fr.rf, fun j hj => by omega, fun j hj => ⟨congrFun (f0.2.1 49 rfl) j, congrFun (f0.2.1 50 rfl) j⟩⟩ (fun x v _ hx hp => ?_) (fun v hp => ?_)) (fun _ v hv => ?_))
  · obtain ⟨p1, p2, p3⟩ := hp
    have ev : v.1 4215 = J (z_rl ls).length := ((p1.1 4215 rfl).trans (f0.1 4215 rfl)).trans h1.2.2.2.2.1.1
    have e130 : (130 : Int32) + J x = J (130 + x) := by rw [show (130 : Int32) = J 130 from rfl, J_add]
    unfold f_R_readText_B105
    rw [ev, z_1300, e130, J_toNat (show 130 + x < 2147483648 by omega), J_toNat (show x < 2147483648 by omega), (p3 (130 + x) (by omega)).1, hra x hx]
    refine z_neg (by (try simp (disch := omega) only [Int32.lt_iff_toInt_lt, Int32.le_iff_toInt_le, ← Int32.toInt_inj, Int32.toInt_add, Int32.toInt_sub, Int32.toInt_mul, Int32.toInt_neg, z_bm, z_bm2, J_ti, J_toInt, z_cn, Int32.reduceToInt]) <;> omega) (z_ck (by (try simp (disch := omega) only [Int32.lt_iff_toInt_lt, Int32.le_iff_toInt_le, ← Int32.toInt_inj, Int32.toInt_add, Int32.toInt_sub, Int32.toInt_mul, Int32.toInt_neg, z_bm, z_bm2, J_ti, J_toInt, z_cn, Int32.reduceToInt]) <;> omega) (by (try simp (disch := omega) only [Int32.lt_iff_toInt_lt, Int32.le_iff_toInt_le, ← Int32.toInt_inj, Int32.toInt_add, Int32.toInt_sub, Int32.toInt_mul, Int32.toInt_neg, z_bm, z_bm2, J_ti, J_toInt, z_cn, Int32.reduceToInt]) <;> omega) (z_ck (by (try simp (disch := omega) only [Int32.lt_iff_toInt_lt, Int32.le_iff_toInt_le, ← Int32.toInt_inj, Int32.toInt_add, Int32.toInt_sub, Int32.toInt_mul, Int32.toInt_neg, z_bm, z_bm2, J_ti, J_toInt, z_cn, Int32.reduceToInt]) <;> omega) (by (try simp (disch := omega) only [Int32.lt_iff_toInt_lt, Int32.le_iff_toInt_le, ← Int32.toInt_inj, Int32.toInt_add, Int32.toInt_sub, Int32.toInt_mul, Int32.toInt_neg, z_bm, z_bm2, J_ti, J_toInt, z_cn, Int32.reduceToInt]) <;> omega) (z_let (z_ck (by (try simp (disch := omega) only [Int32.lt_iff_toInt_lt, Int32.le_iff_toInt_le, ← Int32.toInt_inj, Int32.toInt_add, Int32.toInt_sub, Int32.toInt_mul, Int32.toInt_neg, z_bm, z_bm2, J_ti, J_toInt, z_cn, Int32.reduceToInt]) <;> omega) (by (try simp (disch := omega) only [Int32.lt_iff_toInt_lt, Int32.le_iff_toInt_le, ← Int32.toInt_inj, Int32.toInt_add, Int32.toInt_sub, Int32.toInt_mul, Int32.toInt_neg, z_bm, z_bm2, J_ti, J_toInt, z_cn, Int32.reduceToInt]) <;> omega) (z_ck (by (try simp (disch := omega) only [Int32.lt_iff_toInt_lt, Int32.le_iff_toInt_le, ← Int32.toInt_inj, Int32.toInt_add, Int32.toInt_sub, Int32.toInt_mul, Int32.toInt_neg, z_bm, z_bm2, J_ti, J_toInt, z_cn, Int32.reduceToInt]) <;> omega) (by (try simp (disch := omega) only [Int32.lt_iff_toInt_lt, Int32.le_iff_toInt_le, ← Int32.toInt_inj, Int32.toInt_add, Int32.toInt_sub, Int32.toInt_mul, Int32.toInt_neg, z_bm, z_bm2, J_ti, J_toInt, z_cn, Int32.reduceToInt]) <;> omega) (z_let (k_sat_mk (Or.inl ⟨rfl, (p1.tr (z_wA rfl)).tr (z_wA rfl), fun j hj => ?_, fun j hj => ?_⟩))))))))
    · simp only [k_wA, show ¬ (49 = 50) by decide, show ¬ (50 = 49) by decide, if_false, if_true, z_up]
      by_cases e : j = x
      · rw [if_pos e, if_pos e, e]
        exact ⟨rfl, (p3 (130 + x) (by omega)).2⟩
      · rw [if_neg e, if_neg e]
        exact p2 j (by omega)
    · simp only [k_wA, show ¬ (49 = 50) by decide, show ¬ (50 = 49) by decide, if_false, if_true, z_up]
      rw [if_neg (by omega), if_neg (by omega)]
      exact p3 j hj
  · unfold f_R_readText_B105
    have ev : v.1 4215 = J (z_rl ls).length := ((hp.1.1 4215 rfl).trans (f0.1 4215 rfl)).trans h1.2.2.2.2.1.1
    exact z_pos (by rw [ev]; exact Int32.le_refl _) (k_sat_mk ⟨_, rfl, hp.1, hp.2.1⟩)
  · obtain ⟨p1, p2⟩ := hv
    have k1 : z_fr [4202] [49, 50, 51, 52, 53] u v := (f0.mono rfl rfl).tr (p1.mono rfl rfl)
    have e51 : v.2.1 51 1 = J ls.length := by rw [p1.2.1 51 rfl, f0.2.1 51 rfl]; exact h3
    have e4202 : v.1 4202 = 0 := (p1.1 4202 rfl).trans e0
    rw [show (1 : Int32).toNatClampNeg = 1 from rfl, show (0 : Int32).toNatClampNeg = 0 from rfl, e51]
    refine z_ck (by decide) (by decide) (z_ck (by decide) (by decide) (z_let ?_))
    have k2 : z_fr [4202] [49, 50, 51, 52, 53] u (k_wA v 51 0 (J ls.length)) := k1.tr (z_wA rfl)
    have w51 : (k_wA v 51 0 (J ls.length)).2.1 51 0 = J ls.length := by simp [k_wA, z_up]
    have w49 : (k_wA v 51 0 (J ls.length)).2.1 49 = v.2.1 49 := rfl
    have w50 : (k_wA v 51 0 (J ls.length)).2.1 50 = v.2.1 50 := rfl
    have w52 : (k_wA v 51 0 (J ls.length)).2.1 52 = u.2.1 52 := (p1.2.1 52 rfl).trans (f0.2.1 52 rfl)
    have w53 : (k_wA v 51 0 (J ls.length)).2.1 53 = u.2.1 53 := (p1.2.1 53 rfl).trans (f0.2.1 53 rfl)
    have w4202 : (k_wA v 51 0 (J ls.length)).1 4202 = 0 := e4202
    generalize k_wA v 51 0 (J ls.length) = y at *
    refine z_bind _ (z_for 0 ls.length (fun x v => z_fr [] [52, 53] y v ∧ (∀ j, j < x → v.2.1 52 j = u.2.1 52 (61 + j) ∧ v.2.1 53 j = u.2.1 53 (61 + j)) ∧ ∀ j, 61 ≤ j → v.2.1 52 j = u.2.1 52 j ∧ v.2.1 53 j = u.2.1 53 j) (K := fun _ v => z_fr [] [52, 53] y v ∧ ∀ j, j < ls.length → v.2.1 52 j = u.2.1 52 (61 + j) ∧ v.2.1 53 j = u.2.1 53 (61 + j)) (by omega) (Nat.zero_le _) ⟨z_fr.rf, fun j hj => by omega, fun j hj => ⟨congrFun w52 j, congrFun w53 j⟩⟩ (fun x v _ hx hp => ?_) (fun v hp => ?_)) (fun _ v hv => k_sat_mk ⟨rfl, k2.tr (hv.1.mono rfl rfl), (hv.1.1 4202 rfl).trans w4202, fun i s hs => ?_, ?_, ?_⟩)
    · obtain ⟨r1, r2, r3⟩ := hp
      have e61 : (61 : Int32) + J x = J (61 + x) := by rw [show (61 : Int32) = J 61 from rfl, J_add]
      have e51' : v.2.1 51 0 = J ls.length := (congrFun (r1.2.1 51 rfl) 0).trans w51
      obtain ⟨q1, q2⟩ := r3 (61 + x) (by omega)
      obtain ⟨q3, q4⟩ := hps x hx
      unfold f_R_readText_B177
      rw [show (0 : Int32).toNatClampNeg = 0 from rfl, e51', z_610, e61, J_toNat (show 61 + x < 2147483648 by omega), J_toNat (show x < 2147483648 by omega), q1, q3]
      have e53 : ∀ z : Int32, (k_wA v 52 x z).2.1 53 (61 + x) = u.2.1 53 (61 + x) := fun z => q2
      simp only [k_let]
      rw [e53, q4]
      refine z_ck (by decide) (by decide) (z_neg (by (try simp (disch := omega) only [Int32.lt_iff_toInt_lt, Int32.le_iff_toInt_le, ← Int32.toInt_inj, Int32.toInt_add, Int32.toInt_sub, Int32.toInt_mul, Int32.toInt_neg, z_bm, z_bm2, J_ti, J_toInt, z_cn, Int32.reduceToInt]) <;> omega) (z_ck (by (try simp (disch := omega) only [Int32.lt_iff_toInt_lt, Int32.le_iff_toInt_le, ← Int32.toInt_inj, Int32.toInt_add, Int32.toInt_sub, Int32.toInt_mul, Int32.toInt_neg, z_bm, z_bm2, J_ti, J_toInt, z_cn, Int32.reduceToInt]) <;> omega) (by (try simp (disch := omega) only [Int32.lt_iff_toInt_lt, Int32.le_iff_toInt_le, ← Int32.toInt_inj, Int32.toInt_add, Int32.toInt_sub, Int32.toInt_mul, Int32.toInt_neg, z_bm, z_bm2, J_ti, J_toInt, z_cn, Int32.reduceToInt]) <;> omega) (z_ck (by (try simp (disch := omega) only [Int32.lt_iff_toInt_lt, Int32.le_iff_toInt_le, ← Int32.toInt_inj, Int32.toInt_add, Int32.toInt_sub, Int32.toInt_mul, Int32.toInt_neg, z_bm, z_bm2, J_ti, J_toInt, z_cn, Int32.reduceToInt]) <;> omega) (by (try simp (disch := omega) only [Int32.lt_iff_toInt_lt, Int32.le_iff_toInt_le, ← Int32.toInt_inj, Int32.toInt_add, Int32.toInt_sub, Int32.toInt_mul, Int32.toInt_neg, z_bm, z_bm2, J_ti, J_toInt, z_cn, Int32.reduceToInt]) <;> omega) (z_ck (by (try simp (disch := omega) only [Int32.lt_iff_toInt_lt, Int32.le_iff_toInt_le, ← Int32.toInt_inj, Int32.toInt_add, Int32.toInt_sub, Int32.toInt_mul, Int32.toInt_neg, z_bm, z_bm2, J_ti, J_toInt, z_cn, Int32.reduceToInt]) <;> omega) (by (try simp (disch := omega) only [Int32.lt_iff_toInt_lt, Int32.le_iff_toInt_le, ← Int32.toInt_inj, Int32.toInt_add, Int32.toInt_sub, Int32.toInt_mul, Int32.toInt_neg, z_bm, z_bm2, J_ti, J_toInt, z_cn, Int32.reduceToInt]) <;> omega) (z_ck (by (try simp (disch := omega) only [Int32.lt_iff_toInt_lt, Int32.le_iff_toInt_le, ← Int32.toInt_inj, Int32.toInt_add, Int32.toInt_sub, Int32.toInt_mul, Int32.toInt_neg, z_bm, z_bm2, J_ti, J_toInt, z_cn, Int32.reduceToInt]) <;> omega) (by (try simp (disch := omega) only [Int32.lt_iff_toInt_lt, Int32.le_iff_toInt_le, ← Int32.toInt_inj, Int32.toInt_add, Int32.toInt_sub, Int32.toInt_mul, Int32.toInt_neg, z_bm, z_bm2, J_ti, J_toInt, z_cn, Int32.reduceToInt]) <;> omega) (k_sat_mk (Or.inl ⟨rfl, (r1.tr (z_wA rfl)).tr (z_wA rfl), fun j hj => ?_, fun j hj => ?_⟩)))))))
      · simp only [k_wA, show ¬ (52 = 53) by decide, show ¬ (53 = 52) by decide, if_false, if_true, z_up]
        by_cases e : j = x
        · rw [if_pos e, if_pos e, e]
          exact ⟨rfl, rfl⟩
        · rw [if_neg e, if_neg e]
          exact r2 j (by omega)
      · simp only [k_wA, show ¬ (52 = 53) by decide, show ¬ (53 = 52) by decide, if_false, if_true, z_up]
        rw [if_neg (by omega), if_neg (by omega)]
        exact r3 j hj
    · unfold f_R_readText_B177
      have e51' : v.2.1 51 0 = J ls.length := (congrFun (hp.1.2.1 51 rfl) 0).trans w51
      rw [show (0 : Int32).toNatClampNeg = 0 from rfl, e51']
      exact z_ck (by decide) (by decide) (z_pos (Int32.le_refl _) (k_sat_mk ⟨_, rfl, hp.1, hp.2.1⟩))
    · have hi := z_lt_of hs
      obtain ⟨q1, q2⟩ := p2 i hi
      rw [hv.1.2.1 49 rfl, hv.1.2.1 50 rfl, w49, w50, q1, q2]
      exact h1.2.2.2.2.1.2 i s hs
    · exact (congrFun (hv.1.2.1 51 rfl) 0).trans w51
    · refine z_ps_M (M := ls.length) (fun x hx => ?_) ls 0 0 (by omega) h4
      exact hv.2 x hx
theorem z_badR {n j : Nat} {b : Nat → Nat} {u : k_S} (hx : z_rx n b u) (hj : j ≤ n) (h : u.1 4213 = J j) : k_sat (f_R_readText_J86 0 u) (fun r v => r = J j ∧ v = k_wF u 4202 0) := by
  have := hx.1
  unfold f_R_readText_J86
  have e : (k_wF u 4202 0).1 4213 = J j := h
  refine z_let (z_neg (by rw [e]; (try simp (disch := omega) only [Int32.lt_iff_toInt_lt, Int32.le_iff_toInt_le, ← Int32.toInt_inj, Int32.toInt_add, Int32.toInt_sub, Int32.toInt_mul, Int32.toInt_neg, z_bm, z_bm2, J_ti, J_toInt, z_cn, Int32.reduceToInt]) <;> omega) (k_sat_mk ⟨e, rfl⟩))
theorem z_readR {n : Nat} {b : Nat → Nat} {u : k_S} (hx : z_rx n b u) : k_sat (f_R_readText 0 u) (fun r v => z_fr [4202, 4212, 4213, 4214, 4215] [49, 50, 51, 52, 53] u v ∧ v.1 4202 = 0 ∧ ((z_good n b ∧ r = -1 ∧ (∀ i s, (z_rl (z_tx (z_ch n b)).2.2)[i]? = some s → z_ra s (v.2.1 49 i) (v.2.1 50 i)) ∧ v.2.1 51 0 = J (z_tx (z_ch n b)).2.2.length ∧ z_ps (v.2.1 52) (v.2.1 53) 0 0 (z_tx (z_ch n b)).2.2) ∨ (¬ z_good n b ∧ r = J (z_tx (z_ch n b)).2.1 ∧ z_lo u v))) := by
  have hn := hx.1
  have k5 : z_fk [4212, 4213, 4214, 4215] [49, 50, 51, 52, 53] u (k_wA (k_wF (k_wF (k_wF (k_wF u 4212 0) 4213 (-1)) 4214 0) 4215 0) 51 1 0) := ((((z_kF rfl).tr (z_kF rfl)).tr (z_kF rfl)).tr (z_kF rfl)).tr (z_kB rfl (by omega))
  have hv5 : z_rv n b (k_wA (k_wF (k_wF (k_wF (k_wF u 4212 0) 4213 (-1)) 4214 0) 4215 0) 51 1 0) 0 [] := by
    refine ⟨⟨z_rx_m hx k5, by simp [k_wA, k_wF, J_0], Nat.zero_le n, by simp [k_wA, k_wF], ⟨by simp [k_wA, k_wF, z_rl, J_0], fun j s hj => by cases hj⟩, Nat.le_refl _⟩, by simp [k_wA, k_wF, J_0], by simp [k_wA, k_wF, z_up, J_0], trivial⟩
  unfold f_R_readText
  refine z_let (z_let (z_let (z_let (z_ck (by decide) (by decide) (z_let ?_)))))
  rw [show (1 : Int32).toNatClampNeg = 1 from rfl]
  generalize k_wA (k_wF (k_wF (k_wF (k_wF u 4212 0) 4213 (-1)) 4214 0) 4215 0) 51 1 0 = w at *
  obtain ⟨tg1, tg2⟩ := z_tx_g (n := n) (b := b)
  obtain ⟨lg1, lg2, lg3⟩ := z_ln_g (b := b) 0 0 (Nat.zero_le n)
  have done : ∀ v : k_S, z_fk [4212, 4213, 4214, 4215] [49, 50, 51, 52, 53] u v → z_rx n b v → (((z_tx (z_ch n b)).1 = true ∧ z_rv n b v (z_tx (z_ch n b)).2.1 (z_tx (z_ch n b)).2.2) ∨ ((z_tx (z_ch n b)).1 = false ∧ v.1 4213 = J (z_tx (z_ch n b)).2.1)) → k_sat (f_R_readText_J64 0 v) (fun r v => z_fr [4202, 4212, 4213, 4214, 4215] [49, 50, 51, 52, 53] u v ∧ v.1 4202 = 0 ∧ ((z_good n b ∧ r = -1 ∧ (∀ i s, (z_rl (z_tx (z_ch n b)).2.2)[i]? = some s → z_ra s (v.2.1 49 i) (v.2.1 50 i)) ∧ v.2.1 51 0 = J (z_tx (z_ch n b)).2.2.length ∧ z_ps (v.2.1 52) (v.2.1 53) 0 0 (z_tx (z_ch n b)).2.2) ∨ (¬ z_good n b ∧ r = J (z_tx (z_ch n b)).2.1 ∧ z_lo u v))) := by
    intro v k1 k2 k3
    unfold f_R_readText_J64
    rcases k3 with ⟨q1, q2⟩ | ⟨q1, q2⟩
    · obtain ⟨g1, g2, g3⟩ := tg2 q1
      have e4212 : v.1 4212 = J (z_tx (z_ch n b)).2.1 := q2.1.2.1
      have e4202 : v.1 4202 = J n := k2.2.1
      refine z_neg (by rw [q2.1.2.2.2.1]; decide) ?_
      rw [e4202, e4212]
      refine z_ite (fun c => ?_) (fun c => ?_)
      · have hgood : z_good n b := ⟨q1, by
          have : n ≤ (z_tx (z_ch n b)).2.1 := by ((try simp (disch := omega) only [Int32.lt_iff_toInt_lt, Int32.le_iff_toInt_le, ← Int32.toInt_inj, Int32.toInt_add, Int32.toInt_sub, Int32.toInt_mul, Int32.toInt_neg, z_bm, z_bm2, J_ti, J_toInt, z_cn, Int32.reduceToInt] at *); omega)
          omega⟩
        exact z_mono (z_keepR q2 (by omega) (by omega)) (fun r x hx => ⟨(k1.fr.mono rfl rfl).tr (hx.2.1.mono rfl rfl), hx.2.2.1, Or.inl ⟨hgood, hx.1, hx.2.2.2⟩⟩)
      · have hbad : ¬ z_good n b := fun g => c (by rw [g.2]; exact Int32.le_refl _)
        rw [z_wrR q2.1, z_bind_some]
        have k4 : z_fk [4212, 4213, 4214, 4215] [49, 50, 51, 52, 53] u (k_wF v 4213 (J (z_tx (z_ch n b)).2.1)) := k1.tr (z_kF rfl)
        have e4213 : (k_wF v 4213 (J (z_tx (z_ch n b)).2.1)).1 4213 = J (z_tx (z_ch n b)).2.1 := by simp [k_wF]
        generalize k_wF v 4213 (J (z_tx (z_ch n b)).2.1) = y at *
        refine z_mono (z_badR (z_rx_m hx k4) tg1 e4213) (fun r x hx => ?_)
        obtain ⟨rfl, rfl⟩ := hx
        exact ⟨(k4.fr.mono rfl rfl).tr (z_wF rfl), by simp [k_wF], Or.inr ⟨hbad, rfl, k4.2.2.2⟩⟩
    · have hbad : ¬ z_good n b := fun g => absurd (q1.symm.trans g.1) (by decide)
      refine z_pos (by rw [q2]; (try simp (disch := omega) only [Int32.lt_iff_toInt_lt, Int32.le_iff_toInt_le, ← Int32.toInt_inj, Int32.toInt_add, Int32.toInt_sub, Int32.toInt_mul, Int32.toInt_neg, z_bm, z_bm2, J_ti, J_toInt, z_cn, Int32.reduceToInt]) <;> omega) (z_mono (z_badR k2 tg1 q2) (fun r x hx => ?_))
      obtain ⟨rfl, rfl⟩ := hx
      exact ⟨(k1.fr.mono rfl rfl).tr (z_wF rfl), by simp [k_wF], Or.inr ⟨hbad, rfl, k1.2.2.2⟩⟩
  refine z_bind _ (z_lineR hv5 (Nat.le_refl _)) (fun _ v hv => ?_)
  obtain ⟨m1, m2, m3⟩ := hv
  have k6 := k5.tr m1
  by_cases q : (z_ln (z_ch n b) 0).1 = true
  · have htx : z_tx (z_ch n b) = z_tl (z_ch n b) 120 (z_ln (z_ch n b) 0).2.1 [(z_ln (z_ch n b) 0).2.2] := by unfold z_tx; rw [if_pos q]
    have hlen := (lg3 q).1
    have m4 : z_rv n b v (z_ln (z_ch n b) 0).2.1 [(z_ln (z_ch n b) 0).2.2] := m2 q
    refine z_bind _ (z_linesR (p1 := 0) 120 v _ _ k_FU (by omega) (by unfold k_FU; omega) m4 (by rw [List.length_singleton]; omega)) (fun _ x hx' => ?_)
    obtain ⟨p1, p2, p3⟩ := hx'
    rw [← htx] at p2 p3
    refine done x (k6.tr p1) (z_rx_m hx (k6.tr p1)) ?_
    cases hz : (z_tx (z_ch n b)).1 with
    | true => exact Or.inl ⟨rfl, p2 hz⟩
    | false => exact Or.inr ⟨rfl, (p3 hz).2⟩
  · have q' : (z_ln (z_ch n b) 0).1 = false := by cases hq : (z_ln (z_ch n b) 0).1; rfl; exact absurd hq q
    have htx : z_tx (z_ch n b) = (false, (z_ln (z_ch n b) 0).2.1, []) := by unfold z_tx; rw [if_neg q]
    obtain ⟨m4, m5⟩ := m3 q'
    rw [z_FU]
    refine z_bind (fun _ x => x = v) (z_exit ?_) (fun _ x hx' => ?_)
    · unfold f_R_readText_B31
      exact z_pos (by rw [m5]; (try simp (disch := omega) only [Int32.lt_iff_toInt_lt, Int32.le_iff_toInt_le, ← Int32.toInt_inj, Int32.toInt_add, Int32.toInt_sub, Int32.toInt_mul, Int32.toInt_neg, z_bm, z_bm2, J_ti, J_toInt, z_cn, Int32.reduceToInt]) <;> omega) (k_sat_mk ⟨_, rfl, rfl⟩)
    · subst hx'
      exact done x k6 m4 (Or.inr ⟨by rw [htx], by rw [htx]; exact m5⟩)
theorem z_law (u : k_S) (h : zI u) : z_pair f_W_law f_R_law u zI := by
  obtain ⟨n, b, hn, t1, t2, hb⟩ := z_tape h.1
  obtain ⟨tg1, tg2⟩ := z_tx_g (n := n) (b := b)
  refine z_pair_of ?_
  unfold f_W_law
  refine z_bind _ (z_takeW hn t1 (fun j hj => ⟨(hb j hj).1, (hb j hj).2.1⟩)) (fun r v hv => z_let ?_)
  have hR : ∀ w : k_S, w.1 4202 = u.1 4202 → w.2.1 43 = u.2.1 43 → z_rx n b w := fun w e1 e2 => ⟨hn, e1.trans t2, fun j hj => by rw [e2]; exact ⟨(hb j hj).1, (hb j hj).2.2⟩⟩
  rcases hv with ⟨hgood, rfl, f1, hl, e703, hcode⟩ | ⟨hbad, rfl, f1⟩
  · refine z_pos rfl (k_sat_mk ?_)
    have f2 : z_fr [101, 1002, 1003, 703] [11, 8] u (k_wF v 101 0) := (f1.mono rfl rfl).tr (z_wF rfl)
    have w101 : (k_wF v 101 0).1 101 = 0 := by simp [k_wF]
    have w703 : (k_wF v 101 0).1 703 = J (z_cls 0 (z_tx (z_ch n b)).2.2).length := e703
    have w8 : (k_wF v 101 0).2.1 8 = v.2.1 8 := rfl
    generalize k_wF v 101 0 = w at *
    unfold f_R_law
    refine z_bind _ (z_readR (hR w (f2.1 4202 rfl) (f2.2.1 43 rfl))) (fun r x hx => ?_)
    obtain ⟨g1, g2, ⟨-, rfl, g4, g5, g6⟩ | ⟨g3, -⟩⟩ := hx
    · refine z_pos (by decide) (z_let (k_sat_mk ⟨rfl, ?_⟩))
      obtain ⟨q1, q2, q3⟩ := tg2 hgood.1
      have f3 : z_fr [101, 1002, 1003, 703, 4202, 4212, 4213, 4214, 4215, 4223] [11, 8, 49, 50, 51, 52, 53] u (k_wF x 4223 1) := ((f2.mono rfl rfl).tr (g1.mono rfl rfl)).tr (z_wF rfl)
      refine zI_TL h (f3.mono rfl rfl) (z_T0e ((g1.1 101 rfl).trans w101) g2) ⟨z_c (z_tx (z_ch n b)).2.2, ?_, ?_⟩
      · have e1 : (k_wF x 4223 1).1 703 = J (z_cls 0 (z_tx (z_ch n b)).2.2).length := (g1.1 703 rfl).trans w703
        have e2 : (k_wF x 4223 1).2.1 8 = v.2.1 8 := (g1.2.1 8 rfl).trans w8
        rw [e1, e2]
        exact z_cWl q1 hcode (by omega)
      · have e1 : (k_wF x 4223 1).1 4223 = 1 := by simp [k_wF]
        rw [e1]
        exact z_cRl q1 g6 g4 (by omega) (by omega) g5
    · exact absurd hgood g3
  · have hne : ¬ J (z_tx (z_ch n b)).2.1 = (-1 : Int32) := fun q => by
      have := congrArg Int32.toInt q
      rw [J_toInt (by omega)] at this
      simp at this
    refine z_neg hne (k_sat_mk ?_)
    have f2 : z_fr [101, 1002, 1003] [11] u (k_wF v 101 0) := (f1.mono rfl rfl).tr (z_wF rfl)
    have w101 : (k_wF v 101 0).1 101 = 0 := by simp [k_wF]
    generalize k_wF v 101 0 = w at *
    unfold f_R_law
    refine z_bind _ (z_readR (hR w (f2.1 4202 rfl) (f2.2.1 43 rfl))) (fun r x hx => ?_)
    obtain ⟨g1, g2, ⟨g3, -⟩ | ⟨-, rfl, g4⟩⟩ := hx
    · exact absurd g3 hbad
    · refine z_neg (by (try simp (disch := omega) only [Int32.lt_iff_toInt_lt, Int32.le_iff_toInt_le, ← Int32.toInt_inj, Int32.toInt_add, Int32.toInt_sub, Int32.toInt_mul, Int32.toInt_neg, z_bm, z_bm2, J_ti, J_toInt, z_cn, Int32.reduceToInt]) <;> omega) (k_sat_mk ⟨rfl, ?_⟩)
      have f3 : z_fr [101, 1002, 1003, 4202, 4212, 4213, 4214, 4215] [11, 49, 50, 51, 52, 53] u x := (f2.mono rfl rfl).tr (g1.mono rfl rfl)
      obtain ⟨c, c1, c2⟩ := h.2.2.2.2.1
      refine zI_TL h (f3.mono rfl rfl) (z_T0e ((g1.1 101 rfl).trans w101) g2) ⟨c, ?_, ?_⟩
      · rw [f3.1 703 rfl, f3.2.1 8 rfl]
        exact c1
      · intro y y1 y2 y3 y4
        have lo : ∀ j, j < 130 → x.2.1 49 j = u.2.1 49 j ∧ x.2.1 50 j = u.2.1 50 j := fun j hj => ⟨(g4.1 j hj).1.trans (congrFun (f2.2.1 49 rfl) j), (g4.1 j hj).2.trans (congrFun (f2.2.1 50 rfl) j)⟩
        refine c2 y (y1.trans (f3.1 4223 rfl)) (fun i hi => ⟨(y2 i hi).1.trans (lo i hi).1, (y2 i hi).2.trans (lo i hi).2⟩) (y3.trans (g4.2.1.trans (congrFun (f2.2.1 51 rfl) 0))) (fun i hi => ⟨(y4 i hi).1.trans ((g4.2.2 i hi).1.trans (congrFun (f2.2.1 52 rfl) i)), (y4 i hi).2.trans ((g4.2.2 i hi).2.trans (congrFun (f2.2.1 53 rfl) i))⟩)
