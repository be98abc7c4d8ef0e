/-! LAW: the reference reads expressions -/
/-- what stays, and what a text that is read but not kept leaves as it was -/
def z_lo (u v : k_S) : Prop := (∀ j, j < 130 → v.2.1 49 j = u.2.1 49 j ∧ v.2.1 50 j = u.2.1 50 j) ∧ v.2.1 51 0 = u.2.1 51 0 ∧ ∀ j, j < 61 → v.2.1 52 j = u.2.1 52 j ∧ v.2.1 53 j = u.2.1 53 j
def z_fk (F A : List Nat) (u v : k_S) : Prop := (∀ i, F.elem i = false → v.1 i = u.1 i) ∧ (∀ c, A.elem c = false → v.2.1 c = u.2.1 c) ∧ (∀ c, z_el A c = false → v.2.2 c = u.2.2 c) ∧ z_lo u v
theorem z_fk.fr {F A : List Nat} {u v : k_S} (h : z_fk F A u v) : z_fr F A u v := ⟨h.1, h.2.1, h.2.2.1⟩
theorem z_lo_r (u : k_S) : z_lo u u := ⟨fun _ _ => ⟨rfl, rfl⟩, rfl, fun _ _ => ⟨rfl, rfl⟩⟩
theorem z_lo_t {u v w : k_S} (h : z_lo u v) (k : z_lo v w) : z_lo u w := ⟨fun j hj => ⟨(k.1 j hj).1.trans (h.1 j hj).1, (k.1 j hj).2.trans (h.1 j hj).2⟩, k.2.1.trans h.2.1, fun j hj => ⟨(k.2.2 j hj).1.trans (h.2.2 j hj).1, (k.2.2 j hj).2.trans (h.2.2 j hj).2⟩⟩
theorem z_fk_of {F A : List Nat} {u v : k_S} (h : z_fr F A u v) (k : z_lo u v) : z_fk F A u v := ⟨h.1, h.2.1, h.2.2, k⟩
theorem z_fk.rf {F A : List Nat} {u : k_S} : z_fk F A u u := z_fk_of z_fr.rf (z_lo_r u)
theorem z_fk.tr {F A : List Nat} {u v w : k_S} (h : z_fk F A u v) (k : z_fk F A v w) : z_fk F A u w := z_fk_of (h.fr.tr k.fr) (z_lo_t h.2.2.2 k.2.2.2)
theorem z_fk.mono {F A F' A' : List Nat} {u v : k_S} (h : z_fk F A u v) (h1 : z_sub F F' = true) (h2 : z_sub A A' = true) : z_fk F' A' u v := z_fk_of (h.fr.mono h1 h2) h.2.2.2
theorem z_kF {F A : List Nat} {u : k_S} {i : Nat} {v : Int32} (h : F.elem i = true) : z_fk F A u (k_wF u i v) := z_fk_of (z_wF h) (z_lo_r u)
theorem z_kB {F A : List Nat} {u : k_S} {k i : Nat} {v : Int32} (h : A.elem k = true) (hi : (k = 49 → 130 ≤ i) ∧ (k = 50 → 130 ≤ i) ∧ (k = 51 → 1 ≤ i) ∧ (k = 52 → 61 ≤ i) ∧ (k = 53 → 61 ≤ i)) : z_fk F A u (k_wA u k i v) := by
  refine z_fk_of (z_wA h) ⟨fun j hj => ?_, ?_, fun j hj => ?_⟩
  · have key : ∀ c, (c = 49 ∨ c = 50) → (k_wA u k i v).2.1 c j = u.2.1 c j := fun c hc => by
      simp only [k_wA]
      by_cases e : c = k
      · rw [if_pos e, z_up, if_neg (by omega), e]
      · rw [if_neg e]
    exact ⟨key 49 (Or.inl rfl), key 50 (Or.inr rfl)⟩
  · simp only [k_wA]
    by_cases e : 51 = k
    · rw [if_pos e, z_up, if_neg (by omega), e]
    · rw [if_neg e]
  · have key : ∀ c, (c = 52 ∨ c = 53) → (k_wA u k i v).2.1 c j = u.2.1 c j := fun c hc => by
      simp only [k_wA]
      by_cases e : c = k
      · rw [if_pos e, z_up, if_neg (by omega), e]
      · rw [if_neg e]
    exact ⟨key 52 (Or.inl rfl), key 53 (Or.inr rfl)⟩
theorem z_b8_all : ((List.range 256).all fun b => if b < 128 then (J b).toInt8.toInt32 == J b else decide ((J b).toInt8.toInt32.toInt < 0)) = true := by decide +kernel
theorem z_b8 {b : Nat} (h : b ≤ 255) : (b < 128 → (J b).toInt8.toInt32 = J b) ∧ (¬ b < 128 → (J b).toInt8.toInt32.toInt < 0) := by
  have := List.all_eq_true.mp z_b8_all b (List.mem_range.mpr (by omega))
  constructor
  · intro q
    rw [if_pos q] at this
    exact eq_of_beq this
  · intro q
    rw [if_neg q] at this
    exact of_decide_eq_true this
theorem z_b16_all : ((List.range 131).all fun b => (J b).toInt16.toInt32 == J b) = true := by decide +kernel
theorem z_b16 {b : Nat} (h : b ≤ 130) : (J b).toInt16.toInt32 = J b := eq_of_beq (List.all_eq_true.mp z_b16_all b (List.mem_range.mpr (by omega)))
def z_rx (n : Nat) (b : Nat → Nat) (u : k_S) : Prop := n ≤ 120 ∧ u.1 4202 = J n ∧ ∀ j, j < n → b j ≤ 255 ∧ u.2.1 43 j = (J (b j)).toInt8.toInt32
def z_rc (u : k_S) (L : List Int32) : Prop := u.1 4215 = J L.length ∧ ∀ j s, L[j]? = some s → z_ra s (u.2.1 49 (130 + j)) (u.2.1 50 (130 + j))
def z_rs (n : Nat) (b : Nat → Nat) (u : k_S) (i : Nat) (L : List Int32) : Prop := z_rx n b u ∧ u.1 4212 = J i ∧ i ≤ n ∧ u.1 4213 = -1 ∧ z_rc u L ∧ L.length ≤ i
/-- a fault at j; since place i there are few steps more -/
def z_rf (n : Nat) (b : Nat → Nat) (u : k_S) (j i l0 : Nat) : Prop := z_rx n b u ∧ u.1 4213 = J j ∧ j ≤ n ∧ ∃ h l, u.1 4212 = J h ∧ h ≤ n ∧ i ≤ h ∧ u.1 4215 = J l ∧ l + i ≤ l0 + h + 1
theorem z_rx_f {n : Nat} {b : Nat → Nat} {u v : k_S} (h : z_rx n b u) (hf : z_fk [4212, 4213, 4214, 4215] [49, 50] u v) : z_rx n b v :=
  ⟨h.1, (hf.1 4202 rfl).trans h.2.1, fun j hj => by rw [hf.2.1 43 rfl]; exact h.2.2 j hj⟩
theorem z_rc_f {L : List Int32} {u v : k_S} (h : z_rc u L) (h1 : v.1 4215 = u.1 4215) (h2 : v.2.1 49 = u.2.1 49) (h3 : v.2.1 50 = u.2.1 50) : z_rc v L := ⟨h1.trans h.1, by rw [h2, h3]; exact h.2⟩
theorem z_rf_w {n j i i' l l' : Nat} {b : Nat → Nat} {u : k_S} (h : z_rf n b u j i l) (hi : i' ≤ i) (hl : l + i' ≤ l' + i) : z_rf n b u j i' l' := by
  obtain ⟨h1, h2, h3, x, y, h4, h5, h6, h7, h8⟩ := h
  exact ⟨h1, h2, h3, x, y, h4, h5, by omega, h7, by omega⟩
theorem z_look {n i : Nat} {b : Nat → Nat} {u : k_S} (h : z_rx n b u) (e : u.1 4212 = J i) (hi : i ≤ n) : ∃ r, f_R_look u = some (r, u) ∧ z_lk r (z_ch n b i) := by
  obtain ⟨h1, h2, h3⟩ := h
  unfold f_R_look
  rw [e, h2]
  by_cases q : i < n
  · refine ⟨(J (b i)).toInt8.toInt32, ?_, ?_⟩
    · rw [if_neg (by (try simp (disch := omega) only [Int32.lt_iff_toInt_lt, Int32.le_iff_toInt_le, ← Int32.toInt_inj, Int32.toInt_add, Int32.toInt_sub, Int32.toInt_mul, Int32.toInt_neg, z_bm, z_bm2, J_ti, J_toInt, z_cn, Int32.reduceToInt]) <;> omega), z_cko _ (by (try simp (disch := omega) only [Int32.lt_iff_toInt_lt, Int32.le_iff_toInt_le, ← Int32.toInt_inj, Int32.toInt_add, Int32.toInt_sub, Int32.toInt_mul, Int32.toInt_neg, z_bm, z_bm2, J_ti, J_toInt, z_cn, Int32.reduceToInt]) <;> omega) (by (try simp (disch := omega) only [Int32.lt_iff_toInt_lt, Int32.le_iff_toInt_le, ← Int32.toInt_inj, Int32.toInt_add, Int32.toInt_sub, Int32.toInt_mul, Int32.toInt_neg, z_bm, z_bm2, J_ti, J_toInt, z_cn, Int32.reduceToInt]) <;> omega), J_toNat (by omega), (h3 i q).2]
    · unfold z_ch
      rw [if_pos q]
      obtain ⟨a1, a2⟩ := z_b8 (h3 i q).1
      by_cases q2 : b i < 128
      · rw [if_pos q2]
        exact Or.inl ⟨q2, a1 q2⟩
      · rw [if_neg q2]
        exact Or.inr ⟨rfl, Or.inl (a2 q2)⟩
  · refine ⟨-1, ?_, ?_⟩
    · rw [if_pos (by (try simp (disch := omega) only [Int32.lt_iff_toInt_lt, Int32.le_iff_toInt_le, ← Int32.toInt_inj, Int32.toInt_add, Int32.toInt_sub, Int32.toInt_mul, Int32.toInt_neg, z_bm, z_bm2, J_ti, J_toInt, z_cn, Int32.reduceToInt]) <;> omega)]
    · unfold z_ch
      rw [if_neg q]
      exact Or.inr ⟨rfl, Or.inl (by decide)⟩
theorem z_inR {r : Int32} {c : Nat} (h : z_lk r c) (u : k_S) : f_R_in r 48 57 u = some (if 48 ≤ c ∧ c ≤ 57 then 1 else 0, u) := z_digW h u
theorem z_addRe {l : Nat} {a w : Int32} {u : k_S} (h : u.1 4215 = J l) (hl : l < 130) : f_R_addStep a w u = some ((), k_wF (k_wA (k_wA u 49 (130 + l) ((a).toInt8.toInt32).toInt8.toInt32) 50 (130 + l) w) 4215 (J (l + 1))) := by
  unfold f_R_addStep
  have e1 : (130 : Int32) + J l = J (130 + l) := by rw [show (130 : Int32) = J 130 from rfl, J_add]
  rw [h, e1, z_cko _ (by (try simp (disch := omega) only [Int32.lt_iff_toInt_lt, Int32.le_iff_toInt_le, ← Int32.toInt_inj, Int32.toInt_add, Int32.toInt_sub, Int32.toInt_mul, Int32.toInt_neg, z_bm, z_bm2, J_ti, J_toInt, z_cn, Int32.reduceToInt]) <;> omega) (by (try simp (disch := omega) only [Int32.lt_iff_toInt_lt, Int32.le_iff_toInt_le, ← Int32.toInt_inj, Int32.toInt_add, Int32.toInt_sub, Int32.toInt_mul, Int32.toInt_neg, z_bm, z_bm2, J_ti, J_toInt, z_cn, Int32.reduceToInt]) <;> omega)]
  simp only [k_let]
  have e2 : ∀ x : Int32, (k_wA u 49 (130 + l) x).1 4215 = J l := fun x => h
  rw [J_toNat (by omega), e2, e1, z_cko _ (by (try simp (disch := omega) only [Int32.lt_iff_toInt_lt, Int32.le_iff_toInt_le, ← Int32.toInt_inj, Int32.toInt_add, Int32.toInt_sub, Int32.toInt_mul, Int32.toInt_neg, z_bm, z_bm2, J_ti, J_toInt, z_cn, Int32.reduceToInt]) <;> omega) (by (try simp (disch := omega) only [Int32.lt_iff_toInt_lt, Int32.le_iff_toInt_le, ← Int32.toInt_inj, Int32.toInt_add, Int32.toInt_sub, Int32.toInt_mul, Int32.toInt_neg, z_bm, z_bm2, J_ti, J_toInt, z_cn, Int32.reduceToInt]) <;> omega), J_toNat (by omega)]
  have e3 : ∀ x y : Int32, (k_wA (k_wA u 49 (130 + l) x) 50 (130 + l) y).1 4215 = J l := fun x y => h
  rw [e3, z_Jp]
theorem z_addR {k : Nat} {L : List Int32} {s w : Int32} {u : k_S} (h : z_rc u L) (hl : L.length < 130) (hk : k < 128) (hra : z_ra s (J k) w) : k_sat (f_R_addStep (J k) w u) (fun _ v => z_fk [4215] [49, 50] u v ∧ z_rc v (L ++ [s])) := by
  obtain ⟨h1, h2⟩ := h
  rw [z_addRe h1 hl]
  refine k_sat_mk ⟨((z_kB rfl (by omega)).tr (z_kB rfl (by omega))).tr (z_kF rfl), ?_, fun j x hj => ?_⟩
  · rw [List.length_append, List.length_singleton]
    simp [k_wF]
  · have e8 : (((J k).toInt8.toInt32).toInt8.toInt32) = J k := by rw [(z_b8 (show k ≤ 255 by omega)).1 hk, (z_b8 (show k ≤ 255 by omega)).1 hk]
    have e49 : (k_wF (k_wA (k_wA u 49 (130 + L.length) ((J k).toInt8.toInt32).toInt8.toInt32) 50 (130 + L.length) w) 4215 (J (L.length + 1))).2.1 49 = upd (u.2.1 49) (130 + L.length) (J k) := by rw [e8]; simp [k_wF, k_wA]
    have e50 : (k_wF (k_wA (k_wA u 49 (130 + L.length) ((J k).toInt8.toInt32).toInt8.toInt32) 50 (130 + L.length) w) 4215 (J (L.length + 1))).2.1 50 = upd (u.2.1 50) (130 + L.length) w := by simp [k_wF, k_wA]
    rw [e49, e50, z_up, z_up]
    by_cases e : j = L.length
    · rw [if_pos (by omega), if_pos (by omega)]
      rw [e, List.getElem?_append_right (Nat.le_refl _), Nat.sub_self] at hj
      have : s = x := by simpa using hj
      rw [← this]
      exact hra
    · rw [if_neg (by omega), if_neg (by omega)]
      refine h2 j x ?_
      rcases Nat.lt_or_ge j L.length with q | q
      · rw [List.getElem?_append_left q] at hj; exact hj
      · rw [List.getElem?_append_right q, List.getElem?_eq_none (by rw [List.length_singleton]; omega)] at hj
        cases hj
/-- a step laid after a fault -/
theorem z_addF {n j i l0 : Nat} {b : Nat → Nat} {a w : Int32} {u : k_S} (h : z_rf n b u j (i + 1) l0) (hl : l0 ≤ i) : k_sat (f_R_addStep a w u) (fun _ v => z_fk [4215] [49, 50] u v ∧ z_rf n b v j i l0) := by
  obtain ⟨h1, h2, h3, x, y, h4, h5, h6, h7, h8⟩ := h
  have := h1.1
  rw [z_addRe h7 (by omega)]
  have hf : z_fk [4215] [49, 50] u (k_wF (k_wA (k_wA u 49 (130 + y) ((a).toInt8.toInt32).toInt8.toInt32) 50 (130 + y) w) 4215 (J (y + 1))) := ((z_kB rfl (by omega)).tr (z_kB rfl (by omega))).tr (z_kF rfl)
  exact k_sat_mk ⟨hf, z_rx_f h1 (hf.mono rfl rfl), (hf.1 4213 rfl).trans h2, h3, x, y + 1, (hf.1 4212 rfl).trans h4, h5, by omega, by simp [k_wF], by omega⟩
def z_PR (n : Nat) (b : Nat → Nat) (o : Nat) (g : k_S → Option (Unit × k_S)) (P : z_Pa) : Prop := ∀ u i L, z_rs n b u i L → u.1 4214 = J o → k_sat (g u) (fun _ v => z_fk [4212, 4213, 4214, 4215] [49, 50] u v ∧ ((P i).1 = true → z_rs n b v (P i).2.1 (L ++ (P i).2.2) ∧ v.1 4214 = J o) ∧ ((P i).1 = false → z_rf n b v (P i).2.1 i L.length))
def z_hr (n : Nat) (b : Nat → Nat) (o : Nat) (sg : z_Pa) (L : List Int32) (i : Nat) (u : k_S) (s : Int32) (z : Unit ⊕ Unit) (v : k_S) : Prop := z = .inl () ∧ z_fk [4212, 4213, 4214, 4215] [49, 50] u v ∧ ((sg (i + 1)).1 = true → z_rs n b v (sg (i + 1)).2.1 (L ++ (sg (i + 1)).2.2 ++ [s]) ∧ v.1 4214 = J o) ∧ ((sg (i + 1)).1 = false → z_rf n b v (sg (i + 1)).2.1 i L.length)
theorem z_loopR {n o : Nat} {b : Nat → Nat} {os : List Nat} {sg : z_Pa} {bd : k_S → Option ((Unit ⊕ Unit) × k_S)} (hg : z_gp n sg) (hex : ∀ u i L, z_rs n b u i L → ¬ z_ch n b i ∈ os → k_sat (bd u) (fun z v => v = u ∧ z = .inr ())) (hfx : ∀ u j i l, z_rf n b u j i l → k_sat (bd u) (fun z v => v = u ∧ z = .inr ())) (hos : ∀ c, c ∈ os → ¬ c = 200) (hop : ∀ u i L, z_rs n b u i L → u.1 4214 = J o → z_ch n b i ∈ os → k_sat (bd u) (z_hr n b o sg L i u (-(J (z_ch n b i))))) : ∀ (m : Nat) (u : k_S) (i i0 : Nat) (L C : List Int32) (N : Nat), n ≤ i + m → m + 1 < N → z_rs n b u i (L ++ C) → u.1 4214 = J o → i0 ≤ i → C.length + i0 ≤ i → k_sat (k_itr (fun (_ : Unit) u => bd u) N () u) (fun _ v => z_fk [4212, 4213, 4214, 4215] [49, 50] u v ∧ ((z_lp (z_ch n b) os sg m i C).1 = true → z_rs n b v (z_lp (z_ch n b) os sg m i C).2.1 (L ++ (z_lp (z_ch n b) os sg m i C).2.2) ∧ v.1 4214 = J o) ∧ ((z_lp (z_ch n b) os sg m i C).1 = false → z_rf n b v (z_lp (z_ch n b) os sg m i C).2.1 i0 L.length))
  | 0, u, i, i0, L, C, N, hm, hN, hs, ho, hi, hC => by
    obtain ⟨M, rfl⟩ : ∃ M, N = M + 1 := ⟨N - 1, by omega⟩
    have hc : ¬ z_ch n b i ∈ os := fun q => by
      have := z_ch_n (b := b) (hos _ q)
      omega
    refine z_exit (z_mono (hex u i _ hs hc) (fun z v hv => ?_))
    obtain ⟨rfl, rfl⟩ := hv
    exact ⟨_, rfl, z_fk.rf, fun _ => ⟨hs, ho⟩, fun q => by cases q⟩
  | m + 1, u, i, i0, L, C, N, hm, hN, hs, ho, hi, hC => by
    obtain ⟨M, rfl⟩ : ∃ M, N = M + 1 := ⟨N - 1, by omega⟩
    rw [z_lp]
    by_cases hc : z_ch n b i ∈ os
    · rw [if_pos hc]
      have hin : i < n := z_ch_n (b := b) (hos _ hc)
      obtain ⟨gp1, gp2, gp3⟩ := hg (i + 1) (by omega)
      refine z_turn (z_mono (hop u i _ hs ho hc) (fun z v hv => ?_))
      obtain ⟨rfl, h1, h2, h3⟩ := hv
      refine ⟨_, rfl, ?_⟩
      by_cases q : (sg (i + 1)).1 = true
      · rw [if_pos q]
        obtain ⟨h4, h5⟩ := h2 q
        obtain ⟨k1, k2, -, -⟩ := gp3 q
        rw [List.append_assoc L, List.append_assoc L] at h4
        refine z_mono (z_loopR hg hex hfx hos hop m v _ i0 L (C ++ (sg (i + 1)).2.2 ++ [-(J (z_ch n b i))]) M (by omega) (by omega) h4 h5 (by omega) (by rw [List.length_append, List.length_append, List.length_singleton]; omega)) (fun y w hw => ⟨h1.tr hw.1, hw.2⟩)
      · rw [if_neg q]
        have h4 := h3 (by cases hq : (sg (i + 1)).1; rfl; exact absurd hq q)
        obtain ⟨M', rfl⟩ : ∃ M', M = M' + 1 := ⟨M - 1, by omega⟩
        refine z_exit (z_mono (hfx v _ _ _ h4) (fun z w hw => ?_))
        obtain ⟨rfl, rfl⟩ := hw
        refine ⟨_, rfl, h1, fun q' => (by cases q'), fun _ => z_rf_w h4 hi ?_⟩
        rw [List.length_append]
        omega
    · rw [if_neg hc]
      refine z_exit (z_mono (hex u i _ hs hc) (fun z v hv => ?_))
      obtain ⟨rfl, rfl⟩ := hv
      exact ⟨_, rfl, z_fk.rf, fun _ => ⟨hs, ho⟩, fun q => by cases q⟩
theorem z_lvR {n o : Nat} {b : Nat → Nat} {os : List Nat} {sg : z_Pa} {f : k_S → Option (Unit × k_S)} {bd : k_S → Option ((Unit ⊕ Unit) × k_S)} (hf : z_PR n b o f sg) (hn : n ≤ 120) (hg : z_gp n sg) (hex : ∀ u i L, z_rs n b u i L → ¬ z_ch n b i ∈ os → k_sat (bd u) (fun z v => v = u ∧ z = .inr ())) (hfx : ∀ u j i l, z_rf n b u j i l → k_sat (bd u) (fun z v => v = u ∧ z = .inr ())) (hos : ∀ c, c ∈ os → ¬ c = 200) (hop : ∀ u i L, z_rs n b u i L → u.1 4214 = J o → z_ch n b i ∈ os → k_sat (bd u) (z_hr n b o sg L i u (-(J (z_ch n b i))))) : z_PR n b o (fun u => k_bind (f u) (fun _ u1 => k_bind (k_itr (fun (_ : Unit) u => bd u) k_FU () u1) (fun _ u9 => some ((), u9)))) (z_lv (z_ch n b) os 120 sg) := by
  intro u i L hs ho
  have hi := hs.2.2.1
  obtain ⟨gp1, gp2, gp3⟩ := hg i hi
  refine z_bind _ (hf u i L hs ho) (fun _ v hv => ?_)
  obtain ⟨h1, h2, h3⟩ := hv
  unfold z_lv
  by_cases q : (sg i).1 = true
  · rw [if_pos q]
    obtain ⟨h4, h5⟩ := h2 q
    obtain ⟨k1, k2, -, -⟩ := gp3 q
    exact z_bind _ (z_loopR hg hex hfx hos hop 120 v _ i L (sg i).2.2 k_FU (by omega) (by unfold k_FU; omega) h4 h5 gp1 k2) (fun _ w hw => k_sat_mk ⟨h1.tr hw.1, hw.2⟩)
  · rw [if_neg q]
    have h4 := h3 (by cases hq : (sg i).1; rfl; exact absurd hq q)
    rw [z_FU]
    refine z_bind (fun _ w => w = v) (z_exit (z_mono (hfx v _ _ _ h4) (fun z w hw => ⟨_, hw.2, hw.1⟩))) (fun _ w hw => ?_)
    subst hw
    exact k_sat_mk ⟨h1, fun q' => (by cases q'), fun _ => h4⟩
theorem z_nx2 {n i : Nat} {b : Nat → Nat} {L : List Int32} {u : k_S} (h : z_rs n b u i L) (hi : i < n) : k_wF u 4212 (u.1 4212 + 1) = k_wF u 4212 (J (i + 1)) ∧ z_rs n b (k_wF u 4212 (J (i + 1))) (i + 1) L := by
  obtain ⟨h1, h2, h3, h4, h5, h6⟩ := h
  refine ⟨by rw [h2, z_Jp], z_rx_f h1 (z_kF rfl), by simp [k_wF], hi, h4, z_rc_f h5 (by simp [k_wF]) rfl rfl, by omega⟩
theorem z_ra_o {c : Nat} (hc : c ∈ z_ops) : z_ra (-(J c)) (J c) 0 := Or.inr (Or.inr (Or.inr (Or.inr (Or.inr (Or.inr (Or.inr ⟨c, hc, rfl, rfl⟩))))))
theorem z_ops_lt {c : Nat} (hc : c ∈ z_ops) : c < 128 := by
  unfold z_ops at hc
  simp only [List.mem_cons, List.not_mem_nil, or_false] at hc
  omega
theorem z_tailR {n i o c : Nat} {b : Nat → Nat} {f : k_S → Option (Unit × k_S)} {sg : z_Pa} {L : List Int32} {u : k_S} (hf : z_PR n b o f sg) (hg : z_gp n sg) (hi : i < n) (hc : c ∈ z_ops) (hs : z_rs n b u i L) (ho : u.1 4214 = J o) : k_sat (k_bind (f (k_wF u 4212 (J (i + 1)))) (fun _ u7 => k_bind (f_R_addStep (J c) 0 u7) (fun _ u8 => some ((.inl () : Unit ⊕ Unit), u8)))) (z_hr n b o sg L i u (-(J c))) := by
  have h0 := (z_nx2 hs hi).2
  have hf0 : z_fk [4212, 4213, 4214, 4215] [49, 50] u (k_wF u 4212 (J (i + 1))) := z_kF rfl
  have hn := hs.1.1
  have hl := hs.2.2.2.2.2
  obtain ⟨gp1, gp2, gp3⟩ := hg (i + 1) (by omega)
  refine z_bind _ (hf _ _ L h0 (by simp [k_wF]; exact ho)) (fun _ v hv => ?_)
  obtain ⟨h1, h2, h3⟩ := hv
  have k1 := hf0.tr h1
  cases q : (sg (i + 1)).1 with
  | true =>
    obtain ⟨h4, h5⟩ := h2 q
    obtain ⟨g1, g2, -, -⟩ := gp3 q
    obtain ⟨p1, p2, p3, p4, p5, p6⟩ := h4
    refine z_bind _ (z_addR p5 (by rw [List.length_append]; omega) (z_ops_lt hc) (z_ra_o hc)) (fun _ w hw => k_sat_mk ⟨rfl, k1.tr (hw.1.mono rfl rfl), fun _ => ⟨⟨z_rx_f p1 (hw.1.mono rfl rfl), (hw.1.1 4212 rfl).trans p2, p3, (hw.1.1 4213 rfl).trans p4, hw.2, ?_⟩, (hw.1.1 4214 rfl).trans h5⟩, fun q' => absurd (q.symm.trans q') (by decide)⟩)
    rw [List.length_append, List.length_append, List.length_singleton]
    omega
  | false =>
    exact z_bind _ (z_addF (h3 q) hl) (fun _ w hw => k_sat_mk ⟨rfl, k1.tr (hw.1.mono rfl rfl), fun q' => absurd (q.symm.trans q') (by decide), fun _ => hw.2⟩)
