/-! LAW: steps, what they do; the text, how it is read -/
abbrev z_q : Type := Int32 × Int32 × Int32 × Int32
def z_op (s a b : Int32) : Int32 := if s = -124 then (if a = 0 then (if b = 0 then 0 else 1) else 1) else if s = -62 then (if a ≤ b then 0 else 1) else if s = -61 then (if a = b then 1 else 0) else if s = -60 then (if b ≤ a then 0 else 1) else if s = -47 then (if b = 0 then 0 else a / b) else if s = -45 then a - b else if s = -43 then a + b else if s = -42 then a * b else if s = -38 then (if a = 0 then 0 else if b = 0 then 0 else 1) else (if b = 0 then 0 else a % b)
/-- one step: how high the pile, what lies on it -/
def z_st (q : z_q) (s : Int32) (T : Nat) (S : Nat → Int32) : Option (Nat × (Nat → Int32)) :=
  if 0 ≤ s then some (T + 1, upd S T s) else if s = -122 then some (T + 1, upd S T q.2.2.2) else if s = -116 then some (T + 1, upd S T q.1) else if s = -112 then some (T + 1, upd S T q.2.1) else if s = -107 then some (T + 1, upd S T q.2.2.1) else if s = -33 then (if T = 0 then none else some (T, upd S (T - 1) (if S (T - 1) = 0 then 1 else 0))) else if s = -1 then (if T = 0 then none else some (T, upd S (T - 1) (-(S (T - 1))))) else (if T < 2 then none else some (T - 1, upd S (T - 2) (z_op s (S (T - 2)) (S (T - 1)))))
def z_run (q : z_q) : List Int32 → Nat → (Nat → Int32) → Option (Nat × (Nat → Int32))
  | [], T, S => some (T, S)
  | s :: C, T, S => match z_st q s T S with
    | none => none
    | some m => z_run q C m.1 m.2
theorem z_run_app (q : z_q) (D : List Int32) : ∀ (C : List Int32) (T T' : Nat) (S S' : Nat → Int32), z_run q C T S = some (T', S') → z_run q (C ++ D) T S = z_run q D T' S'
  | [], T, T', S, S', h => by cases h; rfl
  | s :: C, T, T', S, S', h => by
    rw [List.cons_append]
    rw [z_run] at h ⊢
    cases hs : z_st q s T S with
    | none => rw [hs] at h; cases h
    | some m =>
      rw [hs] at h
      exact z_run_app q D C m.1 T' m.2 S' h
/-- steps that lay one value onto the pile -/
def z_wf (C : List Int32) : Prop := ∃ f : z_q → Int32, ∀ q T S, ∃ S', z_run q C T S = some (T + 1, S') ∧ (∀ i, i < T → S' i = S i) ∧ S' T = f q
def z_v (q : z_q) (C : List Int32) : Int32 := ((z_run q C 0 (fun _ => 0)).getD (0, fun _ => 0)).2 0
theorem z_wf_v {C : List Int32} (h : z_wf C) (q : z_q) (T : Nat) (S : Nat → Int32) : ∃ S', z_run q C T S = some (T + 1, S') ∧ (∀ i, i < T → S' i = S i) ∧ S' T = z_v q C := by
  obtain ⟨f, hf⟩ := h
  obtain ⟨S', a, b, c⟩ := hf q T S
  obtain ⟨S0, a0, -, c0⟩ := hf q 0 (fun _ => 0)
  refine ⟨S', a, b, ?_⟩
  unfold z_v
  rw [a0, c]
  exact c0.symm
theorem z_wf_1 {s : Int32} (h : 0 ≤ s ∨ s = -122 ∨ s = -116 ∨ s = -112 ∨ s = -107) : z_wf [s] := by
  rcases h with h | rfl | rfl | rfl | rfl
  · refine ⟨fun _ => s, fun q T S => ⟨upd S T s, ?_, fun i hi => ?_, ?_⟩⟩
    · rw [z_run]
      unfold z_st
      rw [if_pos h]
      rfl
    · rw [z_up, if_neg (by omega)]
    · rw [z_up, if_pos rfl]
  · exact ⟨fun q => q.2.2.2, fun q T S => ⟨upd S T q.2.2.2, rfl, fun i hi => by rw [z_up, if_neg (by omega)], by rw [z_up, if_pos rfl]⟩⟩
  · exact ⟨fun q => q.1, fun q T S => ⟨upd S T q.1, rfl, fun i hi => by rw [z_up, if_neg (by omega)], by rw [z_up, if_pos rfl]⟩⟩
  · exact ⟨fun q => q.2.1, fun q T S => ⟨upd S T q.2.1, rfl, fun i hi => by rw [z_up, if_neg (by omega)], by rw [z_up, if_pos rfl]⟩⟩
  · exact ⟨fun q => q.2.2.1, fun q T S => ⟨upd S T q.2.2.1, rfl, fun i hi => by rw [z_up, if_neg (by omega)], by rw [z_up, if_pos rfl]⟩⟩
theorem z_wf_u {s : Int32} {C : List Int32} (h : z_wf C) (hs : s = -33 ∨ s = -1) : z_wf (C ++ [s]) := by
  obtain ⟨f, hf⟩ := h
  rcases hs with rfl | rfl
  · refine ⟨fun q => if f q = 0 then 1 else 0, fun q T S => ?_⟩
    obtain ⟨S', a, b, c⟩ := hf q T S
    refine ⟨upd S' T (if S' T = 0 then 1 else 0), ?_, fun i hi => ?_, ?_⟩
    · rw [z_run_app q _ C T (T + 1) S S' a]; rfl
    · rw [z_up, if_neg (by omega)]; exact b i hi
    · rw [z_up, if_pos rfl, c]
  · refine ⟨fun q => -(f q), fun q T S => ?_⟩
    obtain ⟨S', a, b, c⟩ := hf q T S
    refine ⟨upd S' T (-(S' T)), ?_, fun i hi => ?_, ?_⟩
    · rw [z_run_app q _ C T (T + 1) S S' a]; rfl
    · rw [z_up, if_neg (by omega)]; exact b i hi
    · rw [z_up, if_pos rfl, c]
def z_ops : List Nat := [124, 62, 61, 60, 47, 45, 43, 42, 38, 37]
theorem z_wf_o {c : Nat} {C D : List Int32} (h : z_wf C) (k : z_wf D) (hc : c ∈ z_ops) : z_wf (C ++ D ++ [-(J c)]) := by
  obtain ⟨f, hf⟩ := h
  obtain ⟨g, hg⟩ := k
  refine ⟨fun q => z_op (-(J c)) (f q) (g q), fun q T S => ?_⟩
  obtain ⟨S', a, b, d⟩ := hf q T S
  obtain ⟨S2, a2, b2, d2⟩ := hg q (T + 1) S'
  refine ⟨upd S2 T (z_op (-(J c)) (S2 T) (S2 (T + 1))), ?_, fun i hi => ?_, ?_⟩
  · have e1 : z_run q (C ++ D) T S = some (T + 1 + 1, S2) := by rw [z_run_app q D C T (T + 1) S S' a]; exact a2
    rw [z_run_app q _ (C ++ D) T (T + 1 + 1) S S2 e1, z_run]
    have : z_st q (-(J c)) (T + 1 + 1) S2 = some (T + 1, upd S2 T (z_op (-(J c)) (S2 T) (S2 (T + 1)))) := by
      unfold z_ops at hc
      simp only [List.mem_cons, List.not_mem_nil, or_false] at hc
      rcases hc with rfl | rfl | rfl | rfl | rfl | rfl | rfl | rfl | rfl | rfl <;> rfl
    rw [this]
    rfl
  · rw [z_up, if_neg (by omega), b2 i (by omega)]; exact b i hi
  · rw [z_up, if_pos rfl, d2, b2 T (by omega), d]
/-- a step of the class, of the reference -/
def z_ra (s a w : Int32) : Prop := (∃ v : Nat, v ≤ 9999 ∧ s = J v ∧ a = 1 ∧ w = J v) ∨ (s = -116 ∧ a = 2 ∧ w = 0) ∨ (s = -112 ∧ a = 2 ∧ w = 1) ∨ (s = -107 ∧ a = 2 ∧ w = 2) ∨ (s = -122 ∧ a = 2 ∧ w = 3) ∨ (s = -33 ∧ a = 3) ∨ (s = -1 ∧ a = 4) ∨ ∃ c, c ∈ z_ops ∧ s = -(J c) ∧ a = J c
def z_cd (s : Int32) : Prop := ∃ a w, z_ra s a w
/-- the text: bytes below 128, else 200 -/
def z_ch (n : Nat) (b : Nat → Nat) (i : Nat) : Nat := if i < n then (if b i < 128 then b i else 200) else 200
def z_dg (c : Nat) : Prop := 48 ≤ c ∧ c ≤ 57
abbrev z_Pa : Type := Nat → Bool × Nat × List Int32
def z_lp (ch : Nat → Nat) (os : List Nat) (sg : z_Pa) : Nat → Nat → List Int32 → Bool × Nat × List Int32
  | 0, i, C => (true, i, C)
  | k + 1, i, C => if ch i ∈ os then (if (sg (i + 1)).1 = true then z_lp ch os sg k (sg (i + 1)).2.1 (C ++ (sg (i + 1)).2.2 ++ [-(J (ch i))]) else (false, (sg (i + 1)).2.1, [])) else (true, i, C)
def z_lv (ch : Nat → Nat) (os : List Nat) (k : Nat) (sg : z_Pa) : z_Pa := fun i => if (sg i).1 = true then z_lp ch os sg k (sg i).2.1 (sg i).2.2 else (false, (sg i).2.1, [])
def z_ei (ch : Nat → Nat) (sg : z_Pa) : z_Pa := z_lv ch [124] 120 (z_lv ch [38] 120 (z_lv ch [60, 61, 62] 1 (z_lv ch [43, 45] 120 (z_lv ch [42, 47, 37] 120 sg))))
def z_nm (ch : Nat → Nat) : Nat → Nat → Nat → Nat × Nat
  | 0, i, v => (i, v)
  | k + 1, i, v => if 48 ≤ ch i ∧ ch i ≤ 57 then z_nm ch k (i + 1) (10 * v + ch i - 48) else (i, v)
def z_s1 (ch : Nat → Nat) (o : Option z_Pa) : z_Pa := fun i =>
  if 48 ≤ ch i ∧ ch i ≤ 57 then (if 48 ≤ ch (z_nm ch 4 i 0).1 ∧ ch (z_nm ch 4 i 0).1 ≤ 57 then (false, (z_nm ch 4 i 0).1, []) else (true, (z_nm ch 4 i 0).1, [J (z_nm ch 4 i 0).2])) else if ch i = 116 ∨ ch i = 112 ∨ ch i = 107 ∨ ch i = 122 then (true, i + 1, [-(J (ch i))]) else match o with
  | none => (false, i, [])
  | some sg => if ch i = 40 then (if (z_ei ch sg (i + 1)).1 = true then (if ch (z_ei ch sg (i + 1)).2.1 = 41 then (true, (z_ei ch sg (i + 1)).2.1 + 1, (z_ei ch sg (i + 1)).2.2) else (false, (z_ei ch sg (i + 1)).2.1, [])) else (false, (z_ei ch sg (i + 1)).2.1, [])) else if ch i = 33 ∨ ch i = 45 then (if (sg (i + 1)).1 = true then (true, (sg (i + 1)).2.1, (sg (i + 1)).2.2 ++ [if ch i = 45 then -1 else -33]) else (false, (sg (i + 1)).2.1, [])) else (false, i, [])
def z_sg (ch : Nat → Nat) : Nat → z_Pa
  | 0 => z_s1 ch none
  | d + 1 => z_s1 ch (some (z_sg ch d))
/-- what a reader of expressions must be -/
def z_gp (n : Nat) (P : z_Pa) : Prop := ∀ i, i ≤ n → i ≤ (P i).2.1 ∧ (P i).2.1 ≤ n ∧ ((P i).1 = true → i < (P i).2.1 ∧ (P i).2.2.length + i ≤ (P i).2.1 ∧ z_wf (P i).2.2 ∧ ∀ s, s ∈ (P i).2.2 → z_cd s)
theorem z_ch_n {n : Nat} {b : Nat → Nat} {i : Nat} (h : ¬ z_ch n b i = 200) : i < n := by
  unfold z_ch at h
  by_cases q : i < n
  · exact q
  · rw [if_neg q] at h; exact absurd rfl h
theorem z_lp_g {n : Nat} {b : Nat → Nat} {os : List Nat} {sg : z_Pa} (hs : z_gp n sg) (ho : ∀ c, c ∈ os → c ∈ z_ops) : ∀ (k i i0 : Nat) (C : List Int32), i0 < i → i ≤ n → C.length + i0 ≤ i → z_wf C → (∀ s, s ∈ C → z_cd s) → i0 ≤ (z_lp (z_ch n b) os sg k i C).2.1 ∧ (z_lp (z_ch n b) os sg k i C).2.1 ≤ n ∧ ((z_lp (z_ch n b) os sg k i C).1 = true → i0 < (z_lp (z_ch n b) os sg k i C).2.1 ∧ (z_lp (z_ch n b) os sg k i C).2.2.length + i0 ≤ (z_lp (z_ch n b) os sg k i C).2.1 ∧ z_wf (z_lp (z_ch n b) os sg k i C).2.2 ∧ ∀ s, s ∈ (z_lp (z_ch n b) os sg k i C).2.2 → z_cd s)
  | 0, i, i0, C, h0, h1, h2, h3, h4 => by
    rw [z_lp]
    exact ⟨by dsimp only; omega, h1, fun _ => ⟨h0, h2, h3, h4⟩⟩
  | k + 1, i, i0, C, h0, h1, h2, h3, h4 => by
    rw [z_lp]
    by_cases hc : z_ch n b i ∈ os
    · rw [if_pos hc]
      have hi : i < n := z_ch_n (b := b) (fun q => by
        have := ho _ hc
        rw [q] at this
        unfold z_ops at this
        simp at this)
      obtain ⟨a1, a2, a3⟩ := hs (i + 1) (by omega)
      by_cases q : (sg (i + 1)).1 = true
      · rw [if_pos q]
        obtain ⟨b1, b2, b3, b4⟩ := a3 q
        refine z_lp_g hs ho k _ i0 _ (by omega) a2 ?_ (z_wf_o h3 b3 (ho _ hc)) (fun s hs' => ?_)
        · rw [List.length_append, List.length_append, List.length_singleton]; omega
        · rw [List.mem_append, List.mem_append, List.mem_singleton] at hs'
          rcases hs' with (h | h) | h
          · exact h4 s h
          · exact b4 s h
          · exact ⟨_, 0, Or.inr (Or.inr (Or.inr (Or.inr (Or.inr (Or.inr (Or.inr ⟨_, ho _ hc, h, rfl⟩))))))⟩
      · rw [if_neg q]
        exact ⟨by dsimp only; omega, a2, fun q' => by cases q'⟩
    · rw [if_neg hc]
      exact ⟨by dsimp only; omega, h1, fun _ => ⟨h0, h2, h3, h4⟩⟩
theorem z_lv_g {n k : Nat} {b : Nat → Nat} {os : List Nat} {sg : z_Pa} (hs : z_gp n sg) (ho : ∀ c, c ∈ os → c ∈ z_ops) : z_gp n (z_lv (z_ch n b) os k sg) := by
  intro i hi
  obtain ⟨a1, a2, a3⟩ := hs i hi
  unfold z_lv
  by_cases q : (sg i).1 = true
  · rw [if_pos q]
    obtain ⟨b1, b2, b3, b4⟩ := a3 q
    exact z_lp_g hs ho k _ i _ b1 a2 b2 b3 b4
  · rw [if_neg q]
    exact ⟨a1, a2, fun q' => by cases q'⟩
theorem z_ei_g {n : Nat} {b : Nat → Nat} {sg : z_Pa} (hs : z_gp n sg) : z_gp n (z_ei (z_ch n b) sg) := by
  unfold z_ei
  refine z_lv_g (z_lv_g (z_lv_g (z_lv_g (z_lv_g hs ?_) ?_) ?_) ?_) ?_ <;> intro c hc <;> unfold z_ops <;> simp only [List.mem_cons, List.not_mem_nil, or_false] at hc ⊢ <;> omega
theorem z_nm_g {n : Nat} {b : Nat → Nat} : ∀ (k i v : Nat), i ≤ n → i ≤ (z_nm (z_ch n b) k i v).1 ∧ (z_nm (z_ch n b) k i v).1 ≤ n
  | 0, i, v, h => ⟨Nat.le_refl i, h⟩
  | k + 1, i, v, h => by
    rw [z_nm]
    by_cases q : 48 ≤ z_ch n b i ∧ z_ch n b i ≤ 57
    · rw [if_pos q]
      have hi : i < n := z_ch_n (b := b) (by omega)
      obtain ⟨a1, a2⟩ := z_nm_g (n := n) (b := b) k (i + 1) (10 * v + z_ch n b i - 48) (by omega)
      exact ⟨by omega, a2⟩
    · rw [if_neg q]
      exact ⟨Nat.le_refl i, h⟩
theorem z_nm_v {ch : Nat → Nat} : ∀ (k i v m : Nat), v < 10 ^ m → (z_nm ch k i v).2 < 10 ^ (m + k)
  | 0, i, v, m, h => h
  | k + 1, i, v, m, h => by
    rw [z_nm]
    by_cases q : 48 ≤ ch i ∧ ch i ≤ 57
    · rw [if_pos q]
      have := z_nm_v (ch := ch) k (i + 1) (10 * v + ch i - 48) (m + 1) (by rw [Nat.pow_succ]; omega)
      rw [show m + (k + 1) = m + 1 + k by omega]
      exact this
    · rw [if_neg q]
      exact Nat.lt_of_lt_of_le h (Nat.pow_le_pow_right (by omega) (by omega))
theorem z_s1_g {n : Nat} {b : Nat → Nat} {o : Option z_Pa} (hs : ∀ sg, o = some sg → z_gp n sg) : z_gp n (z_s1 (z_ch n b) o) := by
  intro i hi
  unfold z_s1
  by_cases q1 : 48 ≤ z_ch n b i ∧ z_ch n b i ≤ 57
  · rw [if_pos q1]
    have hin : i < n := z_ch_n (b := b) (by omega)
    have hg := z_nm_g (n := n) (b := b) 4 i 0 hi
    have hv := z_nm_v (ch := z_ch n b) 4 i 0 0 (by decide)
    have h1 : i < (z_nm (z_ch n b) 4 i 0).1 := by
      rw [z_nm, if_pos q1]
      have := (z_nm_g (n := n) (b := b) 3 (i + 1) (10 * 0 + z_ch n b i - 48) (by omega)).1
      omega
    by_cases q2 : 48 ≤ z_ch n b (z_nm (z_ch n b) 4 i 0).1 ∧ z_ch n b (z_nm (z_ch n b) 4 i 0).1 ≤ 57
    · rw [if_pos q2]
      exact ⟨hg.1, hg.2, fun q' => by cases q'⟩
    · rw [if_neg q2]
      refine ⟨hg.1, hg.2, fun _ => ⟨h1, by show 1 + i ≤ (z_nm (z_ch n b) 4 i 0).1; omega, z_wf_1 (Or.inl ?_), fun s hs' => ?_⟩⟩
      · have : (z_nm (z_ch n b) 4 i 0).2 < 10000 := hv
        generalize (z_nm (z_ch n b) 4 i 0).2 = y at this
        (try simp (disch := omega) only [Int32.lt_iff_toInt_lt, Int32.le_iff_toInt_le, ← Int32.toInt_inj, Int32.toInt_add, Int32.toInt_sub, Int32.toInt_mul, Int32.toInt_neg, z_bm, z_bm2, J_ti, J_toInt, z_cn, Int32.reduceToInt]) <;> omega
      · rw [List.mem_singleton] at hs'
        exact ⟨1, s, Or.inl ⟨_, by omega, hs', rfl, hs'⟩⟩
  rw [if_neg q1]
  by_cases q2 : z_ch n b i = 116 ∨ z_ch n b i = 112 ∨ z_ch n b i = 107 ∨ z_ch n b i = 122
  · rw [if_pos q2]
    have hin : i < n := z_ch_n (b := b) (by omega)
    refine ⟨by dsimp only; omega, hin, fun _ => ⟨by dsimp only; omega, by show 1 + i ≤ i + 1; omega, z_wf_1 (Or.inr ?_), fun s hs' => ?_⟩⟩
    · rcases q2 with q | q | q | q <;> rw [q]
      · exact Or.inr (Or.inl rfl)
      · exact Or.inr (Or.inr (Or.inl rfl))
      · exact Or.inr (Or.inr (Or.inr rfl))
      · exact Or.inl rfl
    · rw [List.mem_singleton] at hs'
      subst hs'
      rcases q2 with q | q | q | q <;> rw [q]
      · exact ⟨2, 0, Or.inr (Or.inl ⟨rfl, rfl, rfl⟩)⟩
      · exact ⟨2, 1, Or.inr (Or.inr (Or.inl ⟨rfl, rfl, rfl⟩))⟩
      · exact ⟨2, 2, Or.inr (Or.inr (Or.inr (Or.inl ⟨rfl, rfl, rfl⟩)))⟩
      · exact ⟨2, 3, Or.inr (Or.inr (Or.inr (Or.inr (Or.inl ⟨rfl, rfl, rfl⟩))))⟩
  rw [if_neg q2]
  cases o with
  | none => exact ⟨Nat.le_refl i, hi, fun q' => by cases q'⟩
  | some sg =>
    have hsg := hs sg rfl
    dsimp only
    by_cases q3 : z_ch n b i = 40
    · rw [if_pos q3]
      have hin : i < n := z_ch_n (b := b) (by omega)
      obtain ⟨a1, a2, a3⟩ := z_ei_g (b := b) hsg (i + 1) (by omega)
      by_cases q4 : (z_ei (z_ch n b) sg (i + 1)).1 = true
      · rw [if_pos q4]
        obtain ⟨b1, b2, b3, b4⟩ := a3 q4
        by_cases q5 : z_ch n b (z_ei (z_ch n b) sg (i + 1)).2.1 = 41
        · rw [if_pos q5]
          have hin2 : (z_ei (z_ch n b) sg (i + 1)).2.1 < n := z_ch_n (b := b) (by omega)
          exact ⟨by dsimp only; omega, hin2, fun _ => ⟨by dsimp only; omega, by dsimp only; omega, b3, b4⟩⟩
        · rw [if_neg q5]
          exact ⟨by dsimp only; omega, a2, fun q' => by cases q'⟩
      · rw [if_neg q4]
        exact ⟨by dsimp only; omega, a2, fun q' => by cases q'⟩
    rw [if_neg q3]
    by_cases q4 : z_ch n b i = 33 ∨ z_ch n b i = 45
    · rw [if_pos q4]
      have hin : i < n := z_ch_n (b := b) (by omega)
      obtain ⟨a1, a2, a3⟩ := hsg (i + 1) (by omega)
      by_cases q5 : (sg (i + 1)).1 = true
      · rw [if_pos q5]
        obtain ⟨b1, b2, b3, b4⟩ := a3 q5
        refine ⟨by dsimp only; omega, a2, fun _ => ⟨by dsimp only; omega, ?_, z_wf_u b3 ?_, fun s hs' => ?_⟩⟩
        · dsimp only
          rw [List.length_append, List.length_singleton]; omega
        · split
          · exact Or.inr rfl
          · exact Or.inl rfl
        · rw [List.mem_append, List.mem_singleton] at hs'
          rcases hs' with h | h
          · exact b4 s h
          · split at h
            · exact ⟨4, 0, Or.inr (Or.inr (Or.inr (Or.inr (Or.inr (Or.inr (Or.inl ⟨h, rfl⟩))))))⟩
            · exact ⟨3, 0, Or.inr (Or.inr (Or.inr (Or.inr (Or.inr (Or.inl ⟨h, rfl⟩)))))⟩
      · rw [if_neg q5]
        exact ⟨by dsimp only; omega, a2, fun q' => by cases q'⟩
    · rw [if_neg q4]
      exact ⟨Nat.le_refl i, hi, fun q' => by cases q'⟩
theorem z_sg_g {n : Nat} {b : Nat → Nat} : ∀ d, z_gp n (z_sg (z_ch n b) d)
  | 0 => z_s1_g (fun sg h => by cases h)
  | d + 1 => z_s1_g (fun sg h => by cases h; exact z_sg_g d)
/-! LAW: the class works steps out -/
def z_zz (t sd : Int32) : Int32 := ((((t * 1103515245) + sd).toUInt32 >>> ((8 : Int32).toUInt32 &&& Int32.toUInt32 31)).toInt32) % 10
theorem z_st_le {q : z_q} {s : Int32} {T T' : Nat} {S S' : Nat → Int32} (h : z_st q s T S = some (T', S')) : T' ≤ T + 1 := by
  unfold z_st at h
  repeat' split at h
  all_goals first
    | cases h; omega
    | cases h
theorem z_push {T : Nat} {x : Int32} {u : k_S} (e : u.1 704 = J T) (hT : T < 128) : f_Law_push x u = some ((), k_wF (k_wA u 9 T x) 704 (J (T + 1))) := by
  unfold f_Law_push
  rw [e, if_neg (by (try simp (disch := omega) only [Int32.lt_iff_toInt_lt, Int32.le_iff_toInt_le, ← Int32.toInt_inj, Int32.toInt_add, Int32.toInt_sub, Int32.toInt_mul, Int32.toInt_neg, z_bm, z_bm2, J_ti, J_toInt, z_cn, Int32.reduceToInt]) <;> omega), if_pos (by (try simp (disch := omega) only [Int32.lt_iff_toInt_lt, Int32.le_iff_toInt_le, ← Int32.toInt_inj, Int32.toInt_add, Int32.toInt_sub, Int32.toInt_mul, Int32.toInt_neg, z_bm, z_bm2, J_ti, J_toInt, z_cn, Int32.reduceToInt]) <;> omega), z_cko _ (by (try simp (disch := omega) only [Int32.lt_iff_toInt_lt, Int32.le_iff_toInt_le, ← Int32.toInt_inj, Int32.toInt_add, Int32.toInt_sub, Int32.toInt_mul, Int32.toInt_neg, z_bm, z_bm2, J_ti, J_toInt, z_cn, Int32.reduceToInt]) <;> omega) (by (try simp (disch := omega) only [Int32.lt_iff_toInt_lt, Int32.le_iff_toInt_le, ← Int32.toInt_inj, Int32.toInt_add, Int32.toInt_sub, Int32.toInt_mul, Int32.toInt_neg, z_bm, z_bm2, J_ti, J_toInt, z_cn, Int32.reduceToInt]) <;> omega)]
  simp only [k_let]
  rw [J_toNat (by omega), show (k_wA u 9 T x).1 704 = J T from e, z_Jp]
theorem z_pop {T : Nat} {u : k_S} (e : u.1 704 = J T) (hT : T ≤ 128) (h0 : 0 < T) : f_Law_pop u = some (u.2.1 9 (T - 1), k_wF u 704 (J (T - 1))) := by
  unfold f_Law_pop
  have e2 : (k_wF u 704 (J (T - 1))).1 704 = J (T - 1) := by simp [k_wF]
  rw [e, if_neg (by (try simp (disch := omega) only [Int32.lt_iff_toInt_lt, Int32.le_iff_toInt_le, ← Int32.toInt_inj, Int32.toInt_add, Int32.toInt_sub, Int32.toInt_mul, Int32.toInt_neg, z_bm, z_bm2, J_ti, J_toInt, z_cn, Int32.reduceToInt]) <;> omega), if_pos (by (try simp (disch := omega) only [Int32.lt_iff_toInt_lt, Int32.le_iff_toInt_le, ← Int32.toInt_inj, Int32.toInt_add, Int32.toInt_sub, Int32.toInt_mul, Int32.toInt_neg, z_bm, z_bm2, J_ti, J_toInt, z_cn, Int32.reduceToInt]) <;> omega), z_Jm' h0]
  simp only [k_let]
  rw [e2, z_cko _ (by (try simp (disch := omega) only [Int32.lt_iff_toInt_lt, Int32.le_iff_toInt_le, ← Int32.toInt_inj, Int32.toInt_add, Int32.toInt_sub, Int32.toInt_mul, Int32.toInt_neg, z_bm, z_bm2, J_ti, J_toInt, z_cn, Int32.reduceToInt]) <;> omega) (by (try simp (disch := omega) only [Int32.lt_iff_toInt_lt, Int32.le_iff_toInt_le, ← Int32.toInt_inj, Int32.toInt_add, Int32.toInt_sub, Int32.toInt_mul, Int32.toInt_neg, z_bm, z_bm2, J_ti, J_toInt, z_cn, Int32.reduceToInt]) <;> omega), J_toNat (by omega)]
  rfl
theorem z_resOp {c T : Nat} {t p k : Int32} {u : k_S} (hc : c ∈ z_ops) (e : u.1 704 = J T) (hT : T ≤ 128) (h2 : 2 ≤ T) : f_Law_resultOf (-(J c)) t p k u = some (z_op (-(J c)) (u.2.1 9 (T - 2)) (u.2.1 9 (T - 1)), k_wF (k_wF u 704 (J (T - 1))) 704 (J (T - 2))) := by
  have e2 : (k_wF u 704 (J (T - 1))).1 704 = J (T - 1) := by simp [k_wF]
  have p1 := z_pop e hT (by omega)
  have p2 := z_pop (u := k_wF u 704 (J (T - 1))) e2 (by omega) (by omega)
  have e3 : (k_wF u 704 (J (T - 1))).2.1 9 (T - 1 - 1) = u.2.1 9 (T - 2) := by rw [show T - 1 - 1 = T - 2 by omega]; rfl
  rw [e3, show T - 1 - 1 = T - 2 by omega] at p2
  generalize u.2.1 9 (T - 2) = a at *
  generalize u.2.1 9 (T - 1) = b at *
  unfold f_Law_resultOf f_W_left
  generalize k_wF (k_wF u 704 (J (T - 1))) 704 (J (T - 2)) = w at *
  unfold z_ops at hc
  simp only [List.mem_cons, List.not_mem_nil, or_false] at hc
  rcases hc with rfl | rfl | rfl | rfl | rfl | rfl | rfl | rfl | rfl | rfl
  all_goals rw [if_neg (by decide), if_neg (by decide), if_neg (by decide), if_neg (by decide), if_neg (by decide), if_neg (by decide), p1, z_bind_some, p2, z_bind_some]
  all_goals repeat (first | rw [if_neg (by decide)] | rw [if_pos (by decide)])
  · show _ = some ((if a = 0 then (if b = 0 then 0 else 1) else 1 : Int32), w)
    by_cases ha : a = 0 <;> by_cases hb : b = 0 <;> simp [ha, hb]
  · show _ = some ((if a ≤ b then 0 else 1 : Int32), w)
    by_cases ha : a ≤ b <;> simp [ha]
  · show _ = some ((if a = b then 1 else 0 : Int32), w)
    by_cases ha : a = b <;> simp [ha]
  · show _ = some ((if b ≤ a then 0 else 1 : Int32), w)
    by_cases ha : b ≤ a <;> simp [ha]
  · show _ = some ((if b = 0 then 0 else a / b : Int32), w)
    by_cases hb : b = 0 <;> simp [hb, k_nz]
  · rfl
  · rfl
  · rfl
  · show _ = some ((if a = 0 then 0 else if b = 0 then 0 else 1 : Int32), w)
    by_cases ha : a = 0 <;> by_cases hb : b = 0 <;> simp [ha, hb]
  · show _ = some ((if b = 0 then 0 else a % b : Int32), w)
    by_cases hb : b = 0 <;> simp [hb, k_nz, k_bind]
theorem z_stW {q : z_q} {s t p k : Int32} {T T' pc len : Nat} {S S' : Nat → Int32} {u : k_S} (hs : z_st q s T S = some (T', S')) (hc : z_cd s) (e1 : u.1 704 = J T) (e2 : u.2.1 9 = S) (hT : T < 128) (hq : q = (t, p, k, z_zz t (u.1 705))) (hpc : pc < len) (hlen : len ≤ 128) (e3 : u.1 703 = J len) (e4 : u.2.1 8 pc = s) : k_sat (f_Law_valueAt_B8 t p k (J pc) u) (fun z v => z = .inl (J (pc + 1)) ∧ z_fr [704] [9] u v ∧ v.1 704 = J T' ∧ v.2.1 9 = S') := by
  have hpush : ∀ (x : Int32) (w : k_S) (T0 : Nat), z_fr [704] [9] u w → w.1 704 = J T0 → T0 < 128 → k_sat (k_bind (f_Law_push x w) (fun _ u6 => some ((.inl (J pc + Int32.ofInt 1) : Int32 ⊕ (Int32 ⊕ Unit)), u6))) (fun z v => z = .inl (J (pc + 1)) ∧ z_fr [704] [9] u v ∧ v.1 704 = J (T0 + 1) ∧ v.2.1 9 = upd (w.2.1 9) T0 x) := by
    intro x w T0 hf hw hT0
    rw [z_push hw hT0, z_bind_some]
    refine k_sat_mk ⟨by rw [z_J1], (hf.tr (z_wA rfl)).tr (z_wF rfl), by simp [k_wF, k_wA], by simp [k_wF, k_wA]⟩
  unfold f_Law_valueAt_B8
  rw [e3, J_toNat (show pc < 2147483648 by omega), e4]
  refine z_neg (by (try simp (disch := omega) only [Int32.lt_iff_toInt_lt, Int32.le_iff_toInt_le, ← Int32.toInt_inj, Int32.toInt_add, Int32.toInt_sub, Int32.toInt_mul, Int32.toInt_neg, z_bm, z_bm2, J_ti, J_toInt, z_cn, Int32.reduceToInt]) <;> omega) (z_neg (by (try simp (disch := omega) only [Int32.lt_iff_toInt_lt, Int32.le_iff_toInt_le, ← Int32.toInt_inj, Int32.toInt_add, Int32.toInt_sub, Int32.toInt_mul, Int32.toInt_neg, z_bm, z_bm2, J_ti, J_toInt, z_cn, Int32.reduceToInt]) <;> omega) (z_ck (by (try simp (disch := omega) only [Int32.lt_iff_toInt_lt, Int32.le_iff_toInt_le, ← Int32.toInt_inj, Int32.toInt_add, Int32.toInt_sub, Int32.toInt_mul, Int32.toInt_neg, z_bm, z_bm2, J_ti, J_toInt, z_cn, Int32.reduceToInt]) <;> omega) (by (try simp (disch := omega) only [Int32.lt_iff_toInt_lt, Int32.le_iff_toInt_le, ← Int32.toInt_inj, Int32.toInt_add, Int32.toInt_sub, Int32.toInt_mul, Int32.toInt_neg, z_bm, z_bm2, J_ti, J_toInt, z_cn, Int32.reduceToInt]) <;> omega) (z_let ?_)))
  have hres : ∀ (x : Int32) (w : k_S) (T0 : Nat), ¬ s = -59 → s < 10000 → s < 0 → f_Law_resultOf s t p k u = some (x, w) → z_fr [704] [9] u w → w.1 704 = J T0 → T0 < 128 → T' = T0 + 1 → S' = upd (w.2.1 9) T0 x → k_sat (if s = (-59) then some ((.inr (.inr ()) : Int32 ⊕ (Int32 ⊕ Unit)), u) else if s < 10000 then if s < 0 then k_bind (f_Law_resultOf s t p k u) (fun r4 u3 => k_bind (f_Law_push r4 u3) (fun _ u5 => some (.inl (J pc + Int32.ofInt 1), u5))) else k_bind (f_Law_push s u) (fun _ u6 => some (.inl (J pc + Int32.ofInt 1), u6)) else k_bind (f_Law_pop u) (fun r8 u7 => if r8 = 0 then k_bind (f_J_max (J pc) ((s - 10000) - 1) u7) (fun r10 u9 => some (.inl (r10 + Int32.ofInt 1), u9)) else some (.inl (J pc + Int32.ofInt 1), u7))) (fun z v => z = .inl (J (pc + 1)) ∧ z_fr [704] [9] u v ∧ v.1 704 = J T' ∧ v.2.1 9 = S') := by
    intro x w T0 h1 h2 h3 h4 h5 h6 h7 h8 h9
    refine z_neg h1 (z_pos h2 (z_pos h3 ?_))
    rw [h4, z_bind_some, h8, h9]
    exact hpush x w T0 h5 h6 h7
  obtain ⟨a, wi, hra⟩ := hc
  rcases hra with ⟨v, hv, rfl, -, -⟩ | ⟨rfl, -, -⟩ | ⟨rfl, -, -⟩ | ⟨rfl, -, -⟩ | ⟨rfl, -, -⟩ | ⟨rfl, -⟩ | ⟨rfl, -⟩ | ⟨c, hco, rfl, -⟩
  · unfold z_st at hs
    rw [if_pos (by (try simp (disch := omega) only [Int32.lt_iff_toInt_lt, Int32.le_iff_toInt_le, ← Int32.toInt_inj, Int32.toInt_add, Int32.toInt_sub, Int32.toInt_mul, Int32.toInt_neg, z_bm, z_bm2, J_ti, J_toInt, z_cn, Int32.reduceToInt]) <;> omega)] at hs
    cases hs
    refine z_neg (by (try simp (disch := omega) only [Int32.lt_iff_toInt_lt, Int32.le_iff_toInt_le, ← Int32.toInt_inj, Int32.toInt_add, Int32.toInt_sub, Int32.toInt_mul, Int32.toInt_neg, z_bm, z_bm2, J_ti, J_toInt, z_cn, Int32.reduceToInt]) <;> omega) (z_pos (by (try simp (disch := omega) only [Int32.lt_iff_toInt_lt, Int32.le_iff_toInt_le, ← Int32.toInt_inj, Int32.toInt_add, Int32.toInt_sub, Int32.toInt_mul, Int32.toInt_neg, z_bm, z_bm2, J_ti, J_toInt, z_cn, Int32.reduceToInt]) <;> omega) (z_neg (by (try simp (disch := omega) only [Int32.lt_iff_toInt_lt, Int32.le_iff_toInt_le, ← Int32.toInt_inj, Int32.toInt_add, Int32.toInt_sub, Int32.toInt_mul, Int32.toInt_neg, z_bm, z_bm2, J_ti, J_toInt, z_cn, Int32.reduceToInt]) <;> omega) ?_))
    rw [← e2]
    exact hpush (J v) u T z_fr.rf e1 hT
  · have : z_st q (-116) T S = some (T + 1, upd S T q.1) := rfl
    rw [this] at hs
    cases hs
    exact hres t u T (by decide) (by decide) (by decide) rfl z_fr.rf e1 hT rfl (by rw [e2, hq])
  · have : z_st q (-112) T S = some (T + 1, upd S T q.2.1) := rfl
    rw [this] at hs
    cases hs
    exact hres p u T (by decide) (by decide) (by decide) rfl z_fr.rf e1 hT rfl (by rw [e2, hq])
  · have : z_st q (-107) T S = some (T + 1, upd S T q.2.2.1) := rfl
    rw [this] at hs
    cases hs
    exact hres k u T (by decide) (by decide) (by decide) rfl z_fr.rf e1 hT rfl (by rw [e2, hq])
  · have : z_st q (-122) T S = some (T + 1, upd S T q.2.2.2) := rfl
    rw [this] at hs
    cases hs
    exact hres (z_zz t (u.1 705)) u T (by decide) (by decide) (by decide) rfl z_fr.rf e1 hT rfl (by rw [e2, hq])
  · have : z_st q (-33) T S = if T = 0 then none else some (T, upd S (T - 1) (if S (T - 1) = 0 then 1 else 0)) := rfl
    rw [this] at hs
    by_cases h0 : T = 0
    · rw [if_pos h0] at hs; cases hs
    · rw [if_neg h0] at hs
      cases hs
      refine hres (if S (T - 1) = 0 then 1 else 0) (k_wF u 704 (J (T - 1))) (T - 1) (by decide) (by decide) (by decide) ?_ (z_wF rfl) (by simp [k_wF]) (by omega) (by omega) (by rw [← e2]; rfl)
      unfold f_Law_resultOf
      rw [if_neg (by decide), if_neg (by decide), if_neg (by decide), if_neg (by decide), if_pos rfl, z_pop e1 (by omega) (by omega), z_bind_some, e2]
      by_cases hx : S (T - 1) = 0
      · rw [if_pos hx, if_pos hx]
      · rw [if_neg hx, if_neg hx]
  · have : z_st q (-1) T S = if T = 0 then none else some (T, upd S (T - 1) (-(S (T - 1)))) := rfl
    rw [this] at hs
    by_cases h0 : T = 0
    · rw [if_pos h0] at hs; cases hs
    · rw [if_neg h0] at hs
      cases hs
      refine hres (-(S (T - 1))) (k_wF u 704 (J (T - 1))) (T - 1) (by decide) (by decide) (by decide) ?_ (z_wF rfl) (by simp [k_wF]) (by omega) (by omega) (by rw [← e2]; rfl)
      unfold f_Law_resultOf
      rw [if_neg (by decide), if_neg (by decide), if_neg (by decide), if_neg (by decide), if_neg (by decide), if_pos rfl, z_pop e1 (by omega) (by omega), z_bind_some, e2]
  · have hst : z_st q (-(J c)) T S = if T < 2 then none else some (T - 1, upd S (T - 2) (z_op (-(J c)) (S (T - 2)) (S (T - 1)))) := by
      clear hs e4 hres
      unfold z_ops at hco
      simp only [List.mem_cons, List.not_mem_nil, or_false] at hco
      rcases hco with rfl | rfl | rfl | rfl | rfl | rfl | rfl | rfl | rfl | rfl <;> rfl
    have hneg : ¬ (-(J c) : Int32) = -59 ∧ -(J c) < (10000 : Int32) ∧ -(J c) < (0 : Int32) := by
      clear hs e4 hres hst
      unfold z_ops at hco
      simp only [List.mem_cons, List.not_mem_nil, or_false] at hco
      rcases hco with rfl | rfl | rfl | rfl | rfl | rfl | rfl | rfl | rfl | rfl <;> decide
    rw [hst] at hs
    by_cases h0 : T < 2
    · rw [if_pos h0] at hs; cases hs
    · rw [if_neg h0] at hs
      cases hs
      refine hres _ _ (T - 2) hneg.1 hneg.2.1 hneg.2.2 (z_resOp hco e1 (by omega) (by omega)) ((z_wF rfl).tr (z_wF rfl)) (by simp [k_wF]) (by omega) (by omega) (by rw [← e2]; rfl)
theorem z_runW {q : z_q} {t p k : Int32} {len : Nat} {K : (Int32 ⊕ Unit) → k_S → Prop} (hlen : len ≤ 128) : ∀ (C : List Int32) (a T T' : Nat) (S S' : Nat → Int32) (u : k_S) (N : Nat), z_run q C T S = some (T', S') → (∀ s, s ∈ C → z_cd s) → (∀ i s, C[i]? = some s → u.2.1 8 (a + i) = s) → a + C.length ≤ len → T ≤ a → u.1 703 = J len → u.1 704 = J T → u.2.1 9 = S → q = (t, p, k, z_zz t (u.1 705)) → (∀ v, z_fr [704] [9] u v → v.1 704 = J T' → v.2.1 9 = S' → k_sat (k_itr (fun (x : (Int32)) u => f_Law_valueAt_B8 t p k x u) N (J (a + C.length)) v) K) → k_sat (k_itr (fun (x : (Int32)) u => f_Law_valueAt_B8 t p k x u) (N + C.length) (J a) u) K
  | [], a, T, T', S, S', u, N, h, _, _, _, _, _, e1, e2, _, hk => by
    cases h
    exact hk u z_fr.rf e1 e2
  | s :: C, a, T, T', S, S', u, N, h, hcd, hcode, hl, hTa, e3, e1, e2, hq, hk => by
    rw [List.length_cons] at hl hk ⊢
    rw [z_run] at h
    cases hm : z_st q s T S with
    | none => rw [hm] at h; cases h
    | some m =>
      rw [hm] at h
      obtain ⟨T1, S1⟩ := m
      have hle := z_st_le hm
      rw [show N + (C.length + 1) = (N + C.length) + 1 by omega]
      refine z_turn (z_mono (z_stW hm (hcd s (List.mem_cons_self)) e1 e2 (by omega) hq (by omega) hlen e3 (hcode 0 s rfl)) (fun z v hv => ⟨_, hv.1, ?_⟩))
      obtain ⟨-, g1, g2, g3⟩ := hv
      refine z_runW hlen C (a + 1) T1 T' S1 S' v N h (fun s' hs' => hcd s' (List.mem_cons_of_mem _ hs')) (fun i s' hs' => ?_) (by omega) (by omega) ((g1.1 703 rfl).trans e3) g2 g3 (by rw [g1.1 705 rfl]; exact hq) (fun w hw1 hw2 hw3 => ?_)
      · rw [g1.2.1 8 rfl, show a + 1 + i = a + (i + 1) by omega]
        exact hcode (i + 1) s' hs'
      · rw [show a + 1 + C.length = a + (C.length + 1) by omega]
        exact hk w (g1.tr hw1) hw2 hw3
/-! LAW: lines, what they give, by the class -/
abbrev z_Ln : Type := List Int32 × List Int32
def z_l1 (o : Nat) (l : z_Ln) : List Int32 := if l.1 = [] then l.2 ++ [-59] else l.1 ++ [J (10000 + (o + l.1.length + l.2.length + 2))] ++ l.2 ++ [-59]
def z_cls : Nat → List z_Ln → List Int32
  | _, [] => []
  | o, l :: r => z_l1 o l ++ z_cls (o + (z_l1 o l).length) r
def z_val (q : z_q) : List z_Ln → Int32
  | [] => 0
  | l :: r => if l.1 = [] then z_v q l.2 else if z_v q l.1 = 0 then z_val q r else z_v q l.2
def z_gl (l : z_Ln) : Prop := (l.1 = [] ∨ z_wf l.1) ∧ z_wf l.2 ∧ (∀ s, s ∈ l.1 → z_cd s) ∧ ∀ s, s ∈ l.2 → z_cd s
theorem z_ga {A B : List Int32} {i : Nat} {s : Int32} (h : A[i]? = some s) : (A ++ B)[i]? = some s := by
  have : i < A.length := by
    rcases Nat.lt_or_ge i A.length with q | q
    · exact q
    · rw [List.getElem?_eq_none q] at h; cases h
  rw [List.getElem?_append_left this]
  exact h
theorem z_gb {A B : List Int32} {i : Nat} {s : Int32} (h : B[i]? = some s) : (A ++ B)[A.length + i]? = some s := by
  rw [List.getElem?_append_right (by omega), Nat.add_sub_cancel_left]
  exact h
theorem z_endW {t p k : Int32} {pc len : Nat} {u : k_S} (hpc : pc < len) (hlen : len ≤ 128) (e3 : u.1 703 = J len) (e4 : u.2.1 8 pc = -59) : f_Law_valueAt_B8 t p k (J pc) u = some (.inr (.inr ()), u) := by
  unfold f_Law_valueAt_B8
  rw [e3, if_neg (by (try simp (disch := omega) only [Int32.lt_iff_toInt_lt, Int32.le_iff_toInt_le, ← Int32.toInt_inj, Int32.toInt_add, Int32.toInt_sub, Int32.toInt_mul, Int32.toInt_neg, z_bm, z_bm2, J_ti, J_toInt, z_cn, Int32.reduceToInt]) <;> omega), if_neg (by (try simp (disch := omega) only [Int32.lt_iff_toInt_lt, Int32.le_iff_toInt_le, ← Int32.toInt_inj, Int32.toInt_add, Int32.toInt_sub, Int32.toInt_mul, Int32.toInt_neg, z_bm, z_bm2, J_ti, J_toInt, z_cn, Int32.reduceToInt]) <;> omega), z_cko _ (by (try simp (disch := omega) only [Int32.lt_iff_toInt_lt, Int32.le_iff_toInt_le, ← Int32.toInt_inj, Int32.toInt_add, Int32.toInt_sub, Int32.toInt_mul, Int32.toInt_neg, z_bm, z_bm2, J_ti, J_toInt, z_cn, Int32.reduceToInt]) <;> omega) (by (try simp (disch := omega) only [Int32.lt_iff_toInt_lt, Int32.le_iff_toInt_le, ← Int32.toInt_inj, Int32.toInt_add, Int32.toInt_sub, Int32.toInt_mul, Int32.toInt_neg, z_bm, z_bm2, J_ti, J_toInt, z_cn, Int32.reduceToInt]) <;> omega), J_toNat (by omega), e4]
  rfl
theorem z_jumpW {t p k : Int32} {pc len e : Nat} {x : Int32} {u : k_S} (hpc : pc < len) (hlen : len ≤ 128) (e3 : u.1 703 = J len) (he : pc + 2 ≤ e) (he2 : e ≤ 128) (e4 : u.2.1 8 pc = J (10000 + e)) (e1 : u.1 704 = J 1) (e2 : u.2.1 9 0 = x) : f_Law_valueAt_B8 t p k (J pc) u = some (.inl (if x = 0 then J e else J (pc + 1)), k_wF u 704 (J 0)) := by
  have hp := z_pop e1 (by omega) (by omega)
  rw [show 1 - 1 = 0 from rfl, e2] at hp
  unfold f_Law_valueAt_B8
  rw [e3, if_neg (by (try simp (disch := omega) only [Int32.lt_iff_toInt_lt, Int32.le_iff_toInt_le, ← Int32.toInt_inj, Int32.toInt_add, Int32.toInt_sub, Int32.toInt_mul, Int32.toInt_neg, z_bm, z_bm2, J_ti, J_toInt, z_cn, Int32.reduceToInt]) <;> omega), if_neg (by (try simp (disch := omega) only [Int32.lt_iff_toInt_lt, Int32.le_iff_toInt_le, ← Int32.toInt_inj, Int32.toInt_add, Int32.toInt_sub, Int32.toInt_mul, Int32.toInt_neg, z_bm, z_bm2, J_ti, J_toInt, z_cn, Int32.reduceToInt]) <;> omega), z_cko _ (by (try simp (disch := omega) only [Int32.lt_iff_toInt_lt, Int32.le_iff_toInt_le, ← Int32.toInt_inj, Int32.toInt_add, Int32.toInt_sub, Int32.toInt_mul, Int32.toInt_neg, z_bm, z_bm2, J_ti, J_toInt, z_cn, Int32.reduceToInt]) <;> omega) (by (try simp (disch := omega) only [Int32.lt_iff_toInt_lt, Int32.le_iff_toInt_le, ← Int32.toInt_inj, Int32.toInt_add, Int32.toInt_sub, Int32.toInt_mul, Int32.toInt_neg, z_bm, z_bm2, J_ti, J_toInt, z_cn, Int32.reduceToInt]) <;> omega), J_toNat (by omega), e4]
  simp only [k_let]
  have hj : (J (10000 + e) - 10000) - 1 = J (e - 1) := by
    rw [show (10000 : Int32) = J 10000 from rfl, J_sub (by omega), show 10000 + e - 10000 = e by omega, z_Jm' (by omega)]
  rw [if_neg (by (try simp (disch := omega) only [Int32.lt_iff_toInt_lt, Int32.le_iff_toInt_le, ← Int32.toInt_inj, Int32.toInt_add, Int32.toInt_sub, Int32.toInt_mul, Int32.toInt_neg, z_bm, z_bm2, J_ti, J_toInt, z_cn, Int32.reduceToInt]) <;> omega), if_neg (by (try simp (disch := omega) only [Int32.lt_iff_toInt_lt, Int32.le_iff_toInt_le, ← Int32.toInt_inj, Int32.toInt_add, Int32.toInt_sub, Int32.toInt_mul, Int32.toInt_neg, z_bm, z_bm2, J_ti, J_toInt, z_cn, Int32.reduceToInt]) <;> omega), hp, z_bind_some, hj]
  by_cases hx : x = 0
  · rw [if_pos hx, if_pos hx]
    unfold f_J_max
    rw [if_pos (by (try simp (disch := omega) only [Int32.lt_iff_toInt_lt, Int32.le_iff_toInt_le, ← Int32.toInt_inj, Int32.toInt_add, Int32.toInt_sub, Int32.toInt_mul, Int32.toInt_neg, z_bm, z_bm2, J_ti, J_toInt, z_cn, Int32.reduceToInt]) <;> omega), z_bind_some, z_J1, show e - 1 + 1 = e by omega]
  · rw [if_neg hx, if_neg hx, z_J1]
theorem z_valW {q : z_q} {t p k : Int32} {len : Nat} (hlen : len ≤ 128) : ∀ (ls : List z_Ln) (o : Nat) (u : k_S) (N : Nat), (∀ l, l ∈ ls → z_gl l) → (∀ i s, (z_cls o ls)[i]? = some s → u.2.1 8 (o + i) = s) → o + (z_cls o ls).length = len → u.1 703 = J len → u.1 704 = J 0 → q = (t, p, k, z_zz t (u.1 705)) → (z_cls o ls).length < N → k_sat (k_itr (fun (x : (Int32)) u => f_Law_valueAt_B8 t p k x u) N (J o) u) (fun y v => z_fr [704] [9] u v ∧ ((y = .inl 0 ∧ z_val q ls = 0) ∨ (y = .inr () ∧ v.1 704 = J 1 ∧ v.2.1 9 0 = z_val q ls)))
  | [], o, u, N, hg, hc, hl, e3, e1, hq, hN => by
    obtain ⟨M, rfl⟩ : ∃ M, N = M + 1 := ⟨N - 1, by omega⟩
    have hl : o = len := hl
    refine z_exit ?_
    unfold f_Law_valueAt_B8
    exact z_pos (by rw [e3, hl]; exact Int32.le_refl _) (k_sat_mk ⟨_, rfl, z_fr.rf, Or.inl ⟨rfl, rfl⟩⟩)
  | l :: r, o, u, N, hg, hc, hl, e3, e1, hq, hN => by
    obtain ⟨g1, g2, g3, g4⟩ := hg l (List.mem_cons_self)
    rw [z_cls] at hc hl hN
    rw [List.length_append] at hl hN
    by_cases hA : l.1 = []
    · have hl1 : z_l1 o l = l.2 ++ [-59] := by unfold z_l1; rw [if_pos hA]
      rw [hl1] at hc hl hN
      rw [List.length_append, List.length_singleton] at hl hN
      obtain ⟨S', a1, a2, a3⟩ := z_wf_v g2 q 0 (u.2.1 9)
      obtain ⟨M, rfl⟩ : ∃ M, N = M + l.2.length := ⟨N - l.2.length, by omega⟩
      obtain ⟨M', rfl⟩ : ∃ M', M = M' + 1 := ⟨M - 1, by omega⟩
      refine z_runW hlen l.2 o 0 1 (u.2.1 9) S' u (M' + 1) a1 g4 (fun i s hs => hc i s (z_ga (z_ga hs))) (by omega) (by omega) e3 e1 rfl hq (fun v hv1 hv2 hv3 => ?_)
      refine z_exit ?_
      rw [z_endW (by omega) hlen ((hv1.1 703 rfl).trans e3) ?_]
      · refine k_sat_mk ⟨_, rfl, hv1, Or.inr ⟨rfl, hv2, ?_⟩⟩
        rw [hv3, a3, z_val, if_pos hA]
      · rw [hv1.2.1 8 rfl]
        exact hc l.2.length (-59) (z_ga (by have := z_gb (A := l.2) (B := [-59]) (i := 0) (s := -59) rfl; exact this))
    · have hl1 : z_l1 o l = l.1 ++ [J (10000 + (o + l.1.length + l.2.length + 2))] ++ l.2 ++ [-59] := by unfold z_l1; rw [if_neg hA]
      have hwf : z_wf l.1 := g1.resolve_left hA
      have hln : (z_l1 o l).length = l.1.length + l.2.length + 2 := by
        rw [hl1]
        simp only [List.length_append, List.length_singleton]
        omega
      rw [hln] at hl hN
      have cA : ∀ i s, l.1[i]? = some s → u.2.1 8 (o + i) = s := fun i s hs => hc i s (z_ga (by rw [hl1]; exact z_ga (z_ga (z_ga hs))))
      have cJ : u.2.1 8 (o + l.1.length) = J (10000 + (o + l.1.length + l.2.length + 2)) := hc l.1.length _ (z_ga (by rw [hl1]; exact z_ga (z_ga (z_gb (i := 0) rfl))))
      have cB : ∀ i s, l.2[i]? = some s → u.2.1 8 (o + l.1.length + 1 + i) = s := fun i s hs => by
        have := hc (l.1.length + 1 + i) s (z_ga (by
          rw [hl1]
          refine z_ga ?_
          have := z_gb (A := l.1 ++ [J (10000 + (o + l.1.length + l.2.length + 2))]) hs
          rw [List.length_append, List.length_singleton] at this
          exact this))
        rw [show o + l.1.length + 1 + i = o + (l.1.length + 1 + i) by omega]
        exact this
      have cE : u.2.1 8 (o + l.1.length + 1 + l.2.length) = -59 := by
        have := hc (l.1.length + 1 + l.2.length) (-59) (z_ga (by
          rw [hl1]
          have := z_gb (A := l.1 ++ [J (10000 + (o + l.1.length + l.2.length + 2))] ++ l.2) (B := [-59]) (i := 0) (s := -59) rfl
          simp only [List.length_append, List.length_singleton] at this
          exact this))
        rw [show o + l.1.length + 1 + l.2.length = o + (l.1.length + 1 + l.2.length) by omega]
        exact this
      have cR : ∀ i s, (z_cls (o + (z_l1 o l).length) r)[i]? = some s → u.2.1 8 (o + l.1.length + l.2.length + 2 + i) = s := fun i s hs => by
        have := hc ((z_l1 o l).length + i) s (z_gb hs)
        rw [hln] at this
        rw [show o + l.1.length + l.2.length + 2 + i = o + (l.1.length + l.2.length + 2 + i) by omega]
        exact this
      rw [hln] at cR
      rw [show o + (l.1.length + l.2.length + 2) = o + l.1.length + l.2.length + 2 by omega] at cR hl hN
      obtain ⟨S', a1, a2, a3⟩ := z_wf_v hwf q 0 (u.2.1 9)
      obtain ⟨M, rfl⟩ : ∃ M, N = M + l.1.length := ⟨N - l.1.length, by omega⟩
      obtain ⟨M', rfl⟩ : ∃ M', M = M' + 1 := ⟨M - 1, by omega⟩
      refine z_runW hlen l.1 o 0 1 (u.2.1 9) S' u (M' + 1) a1 g3 cA (by omega) (by omega) e3 e1 rfl hq (fun v hv1 hv2 hv3 => ?_)
      have v8 : ∀ i, v.2.1 8 i = u.2.1 8 i := fun i => congrFun (hv1.2.1 8 rfl) i
      refine z_turn ?_
      rw [z_jumpW (x := z_v q l.1) (e := o + l.1.length + l.2.length + 2) (by omega) hlen ((hv1.1 703 rfl).trans e3) (by omega) (by omega) ((v8 _).trans cJ) hv2 (by rw [hv3, a3])]
      refine k_sat_mk ⟨_, rfl, ?_⟩
      have hf : z_fr [704] [9] u (k_wF v 704 (J 0)) := hv1.tr (z_wF rfl)
      have h704 : (k_wF v 704 (J 0)).1 704 = J 0 := by simp [k_wF]
      generalize k_wF v 704 (J 0) = v' at *
      have v8' : ∀ i, v'.2.1 8 i = u.2.1 8 i := fun i => congrFun (hf.2.1 8 rfl) i
      have hq' : q = (t, p, k, z_zz t (v'.1 705)) := by rw [hf.1 705 rfl]; exact hq
      rw [z_val, if_neg hA]
      by_cases hx : z_v q l.1 = 0
      · rw [if_pos hx, if_pos hx]
        refine z_mono (z_valW hlen r (o + l.1.length + l.2.length + 2) v' M' (fun l' h' => hg l' (List.mem_cons_of_mem _ h')) (fun i s hs => (v8' _).trans (cR i s hs)) (by omega) ((hf.1 703 rfl).trans e3) h704 hq' (by omega)) (fun y w hw => ⟨hf.tr hw.1, hw.2⟩)
      · rw [if_neg hx, if_neg hx]
        obtain ⟨S2, b1, b2, b3⟩ := z_wf_v g2 q 0 (v'.2.1 9)
        obtain ⟨M2, rfl⟩ : ∃ M2, M' = M2 + l.2.length := ⟨M' - l.2.length, by omega⟩
        obtain ⟨M3, rfl⟩ : ∃ M3, M2 = M3 + 1 := ⟨M2 - 1, by omega⟩
        refine z_runW hlen l.2 (o + l.1.length + 1) 0 1 (v'.2.1 9) S2 v' (M3 + 1) b1 g4 (fun i s hs => (v8' _).trans (cB i s hs)) (by omega) (by omega) ((hf.1 703 rfl).trans e3) h704 rfl hq' (fun w hw1 hw2 hw3 => ?_)
        refine z_exit ?_
        rw [z_endW (by omega) hlen (((hw1.1 703 rfl).trans (hf.1 703 rfl)).trans e3) (((congrFun (hw1.2.1 8 rfl) _).trans (v8' _)).trans cE)]
        exact k_sat_mk ⟨_, rfl, hf.tr hw1, Or.inr ⟨rfl, hw2, by rw [hw3, b3]⟩⟩
theorem z_valAt {t p k : Int32} {ls : List z_Ln} {u : k_S} (hg : ∀ l, l ∈ ls → z_gl l) (hc : ∀ i s, (z_cls 0 ls)[i]? = some s → u.2.1 8 i = s) (hl : (z_cls 0 ls).length ≤ 128) (e3 : u.1 703 = J (z_cls 0 ls).length) : k_sat (f_Law_valueAt t p k u) (fun r v => z_fr [704] [9] u v ∧ r = z_val (t, p, k, z_zz t (u.1 705)) ls) := by
  unfold f_Law_valueAt
  have hf : z_fr [704] [9] u (k_wF u 704 0) := z_wF rfl
  refine z_let (z_bind _ (z_valW hl ls 0 (k_wF u 704 0) k_FU hg (fun i s hs => by rw [Nat.zero_add]; exact hc i s hs) (Nat.zero_add _) ((hf.1 703 rfl).trans e3) (by simp [k_wF, J_0]) rfl (by unfold k_FU; omega)) (fun y v hv => ?_))
  rw [hf.1 705 rfl] at hv
  obtain ⟨h1, ⟨rfl, h2⟩ | ⟨rfl, h2, h3⟩⟩ := hv
  · simp only [k_cs]
    exact k_sat_mk ⟨hf.tr h1, h2.symm⟩
  · simp only [k_cs]
    rw [z_pop h2 (by omega) (by omega), z_bind_some]
    exact k_sat_mk ⟨(hf.tr h1).tr (z_wF rfl), h3⟩
/-! LAW: the reference works steps out -/
theorem z_divm (a : Int32) : a / (-1) = -a := by
  apply Int32.toInt.inj
  rw [Int32.toInt_div, show (-1 : Int32).toInt = -1 from rfl, Int.tdiv_neg, Int.tdiv_one, Int32.toInt_neg]
theorem z_modm (a : Int32) : a % (-1) = 0 := by
  apply Int32.toInt.inj
  rw [Int32.toInt_mod, show (-1 : Int32).toInt = -1 from rfl, Int.tmod_neg, Int.tmod_one]
  rfl
theorem z_twoOp {c : Nat} {a b : Int32} {u : k_S} (hc : c ∈ z_ops) : f_R_twoOf (J c) a b u = some (z_op (-(J c)) a b, u) := by
  unfold z_ops at hc
  simp only [List.mem_cons, List.not_mem_nil, or_false] at hc
  unfold f_R_twoOf
  rcases hc with rfl | rfl | rfl | rfl | rfl | rfl | rfl | rfl | rfl | rfl
  all_goals repeat (first | rw [if_neg (by decide)] | rw [if_pos (by decide)])
  · show _ = some ((if a = 0 then (if b = 0 then 0 else 1) else 1 : Int32), u)
    by_cases ha : a = 0 <;> by_cases hb : b = 0 <;> simp [ha, hb]
  · show _ = some ((if a ≤ b then 0 else 1 : Int32), u)
    by_cases ha : a ≤ b <;> simp [ha]
  · show _ = some ((if a = b then 1 else 0 : Int32), u)
    by_cases ha : a = b <;> simp [ha]
  · show _ = some ((if b ≤ a then 0 else 1 : Int32), u)
    by_cases ha : b ≤ a <;> simp [ha]
  · show _ = some ((if b = 0 then 0 else a / b : Int32), u)
    by_cases hb : b = 0
    · simp [hb]
    · by_cases hb1 : b = -1
      · rw [if_neg hb, if_pos hb1, if_neg hb, hb1, z_divm]
      · rw [if_neg hb, if_neg hb1, if_neg hb]
        unfold k_nz
        rw [if_neg hb]
  · rfl
  · rfl
  · rfl
  · show _ = some ((if a = 0 then 0 else if b = 0 then 0 else 1 : Int32), u)
    by_cases ha : a = 0 <;> by_cases hb : b = 0 <;> simp [ha, hb]
  · show _ = some ((if b = 0 then 0 else a % b : Int32), u)
    by_cases hb : b = 0
    · simp [hb]
    · by_cases hb1 : b = -1
      · rw [if_neg hb, if_pos hb1, if_neg hb, hb1, z_modm]
      · rw [if_neg hb, if_neg hb1, if_neg hb]
        unfold k_nz
        rw [if_neg hb]
theorem z_Jn {n : Nat} (h : 0 < n) : J n + Int32.ofInt (-1) = J (n - 1) := by
  rw [← z_Jm' h, Int32.sub_eq_add_neg]
  rfl
theorem z_130 (e : Nat) : ((130 : Int32) * 0) + J e = J e := by rw [Int32.mul_zero, Int32.zero_add]
theorem z_stR {q : z_q} {s : Int32} {T T' pc e : Nat} {S S' : Nat → Int32} {u : k_S} (hs : z_st q s T S = some (T', S')) (hra : z_ra s (u.2.1 49 pc) (u.2.1 50 pc)) (e2 : u.2.1 55 = S) (hT : T < 130) (hpc : pc < e) (he : e ≤ 130) (q0 : u.2.1 54 0 = q.1) (q1 : u.2.1 54 1 = q.2.1) (q2 : u.2.1 54 2 = q.2.2.1) (q3 : u.2.1 54 3 = q.2.2.2) : k_sat (f_R_worked_B12 0 (J e) (J T) (J pc) u) (fun z v => z = .inl (J T', J (pc + 1)) ∧ z_fr [] [55] u v ∧ v.2.1 55 = S') := by
  have wr : ∀ (i : Nat) (x : Int32), i < 130 → upd S i x = S' → z_fr [] [55] u (k_wA u 55 i x) ∧ (k_wA u 55 i x).2.1 55 = S' := fun i x _ h => ⟨z_wA rfl, by simp only [k_wA, if_true]; rw [e2, h]⟩
  unfold f_R_worked_B12
  rw [z_130, J_toNat (show pc < 2147483648 by omega)]
  refine z_neg (by (try simp (disch := omega) only [Int32.lt_iff_toInt_lt, Int32.le_iff_toInt_le, ← Int32.toInt_inj, Int32.toInt_add, Int32.toInt_sub, Int32.toInt_mul, Int32.toInt_neg, z_bm, z_bm2, J_ti, J_toInt, z_cn, Int32.reduceToInt]) <;> omega) (z_ck (by (try simp (disch := omega) only [Int32.lt_iff_toInt_lt, Int32.le_iff_toInt_le, ← Int32.toInt_inj, Int32.toInt_add, Int32.toInt_sub, Int32.toInt_mul, Int32.toInt_neg, z_bm, z_bm2, J_ti, J_toInt, z_cn, Int32.reduceToInt]) <;> omega) (by (try simp (disch := omega) only [Int32.lt_iff_toInt_lt, Int32.le_iff_toInt_le, ← Int32.toInt_inj, Int32.toInt_add, Int32.toInt_sub, Int32.toInt_mul, Int32.toInt_neg, z_bm, z_bm2, J_ti, J_toInt, z_cn, Int32.reduceToInt]) <;> omega) (z_let ?_))
  have name : ∀ i : Nat, i < 4 → u.2.1 49 pc = 2 → u.2.1 50 pc = J i → T' = T + 1 → S' = upd S T (u.2.1 54 i) → k_sat (f_R_worked_J45 0 (J e) (J T) (J pc) 2 u) (fun z v => z = .inl (J T', J (pc + 1)) ∧ z_fr [] [55] u v ∧ v.2.1 55 = S') := by
    intro i hi h1 h2 h3 h4
    unfold f_R_worked_J45
    rw [J_toNat (show pc < 2147483648 by omega), h2, J_toNat (show i < 2147483648 by omega), J_toNat (show T < 2147483648 by omega)]
    refine z_neg (by decide) (z_ck (by (try simp (disch := omega) only [Int32.lt_iff_toInt_lt, Int32.le_iff_toInt_le, ← Int32.toInt_inj, Int32.toInt_add, Int32.toInt_sub, Int32.toInt_mul, Int32.toInt_neg, z_bm, z_bm2, J_ti, J_toInt, z_cn, Int32.reduceToInt]) <;> omega) (by (try simp (disch := omega) only [Int32.lt_iff_toInt_lt, Int32.le_iff_toInt_le, ← Int32.toInt_inj, Int32.toInt_add, Int32.toInt_sub, Int32.toInt_mul, Int32.toInt_neg, z_bm, z_bm2, J_ti, J_toInt, z_cn, Int32.reduceToInt]) <;> omega) (z_ck (by (try simp (disch := omega) only [Int32.lt_iff_toInt_lt, Int32.le_iff_toInt_le, ← Int32.toInt_inj, Int32.toInt_add, Int32.toInt_sub, Int32.toInt_mul, Int32.toInt_neg, z_bm, z_bm2, J_ti, J_toInt, z_cn, Int32.reduceToInt]) <;> omega) (by (try simp (disch := omega) only [Int32.lt_iff_toInt_lt, Int32.le_iff_toInt_le, ← Int32.toInt_inj, Int32.toInt_add, Int32.toInt_sub, Int32.toInt_mul, Int32.toInt_neg, z_bm, z_bm2, J_ti, J_toInt, z_cn, Int32.reduceToInt]) <;> omega) (z_ck (by (try simp (disch := omega) only [Int32.lt_iff_toInt_lt, Int32.le_iff_toInt_le, ← Int32.toInt_inj, Int32.toInt_add, Int32.toInt_sub, Int32.toInt_mul, Int32.toInt_neg, z_bm, z_bm2, J_ti, J_toInt, z_cn, Int32.reduceToInt]) <;> omega) (by (try simp (disch := omega) only [Int32.lt_iff_toInt_lt, Int32.le_iff_toInt_le, ← Int32.toInt_inj, Int32.toInt_add, Int32.toInt_sub, Int32.toInt_mul, Int32.toInt_neg, z_bm, z_bm2, J_ti, J_toInt, z_cn, Int32.reduceToInt]) <;> omega) (z_let (k_sat_mk ⟨?_, wr T _ hT h4.symm⟩)))))
    rw [z_J1, z_J1, h3]
  rcases hra with ⟨v, hv, rfl, h1, h2⟩ | ⟨rfl, h1, h2⟩ | ⟨rfl, h1, h2⟩ | ⟨rfl, h1, h2⟩ | ⟨rfl, h1, h2⟩ | ⟨rfl, h1⟩ | ⟨rfl, h1⟩ | ⟨c, hco, rfl, h1⟩
  · unfold z_st at hs
    rw [if_pos (by (try simp (disch := omega) only [Int32.lt_iff_toInt_lt, Int32.le_iff_toInt_le, ← Int32.toInt_inj, Int32.toInt_add, Int32.toInt_sub, Int32.toInt_mul, Int32.toInt_neg, z_bm, z_bm2, J_ti, J_toInt, z_cn, Int32.reduceToInt]) <;> omega)] at hs
    cases hs
    rw [h1]
    refine z_pos rfl ?_
    unfold f_R_worked_J45
    rw [J_toNat (show pc < 2147483648 by omega), h2, J_toNat (show T < 2147483648 by omega)]
    refine z_pos rfl (z_ck (by (try simp (disch := omega) only [Int32.lt_iff_toInt_lt, Int32.le_iff_toInt_le, ← Int32.toInt_inj, Int32.toInt_add, Int32.toInt_sub, Int32.toInt_mul, Int32.toInt_neg, z_bm, z_bm2, J_ti, J_toInt, z_cn, Int32.reduceToInt]) <;> omega) (by (try simp (disch := omega) only [Int32.lt_iff_toInt_lt, Int32.le_iff_toInt_le, ← Int32.toInt_inj, Int32.toInt_add, Int32.toInt_sub, Int32.toInt_mul, Int32.toInt_neg, z_bm, z_bm2, J_ti, J_toInt, z_cn, Int32.reduceToInt]) <;> omega) (z_ck (by (try simp (disch := omega) only [Int32.lt_iff_toInt_lt, Int32.le_iff_toInt_le, ← Int32.toInt_inj, Int32.toInt_add, Int32.toInt_sub, Int32.toInt_mul, Int32.toInt_neg, z_bm, z_bm2, J_ti, J_toInt, z_cn, Int32.reduceToInt]) <;> omega) (by (try simp (disch := omega) only [Int32.lt_iff_toInt_lt, Int32.le_iff_toInt_le, ← Int32.toInt_inj, Int32.toInt_add, Int32.toInt_sub, Int32.toInt_mul, Int32.toInt_neg, z_bm, z_bm2, J_ti, J_toInt, z_cn, Int32.reduceToInt]) <;> omega) (z_let (k_sat_mk ⟨?_, wr T _ hT rfl⟩))))
    rw [z_J1, z_J1]
  · have : z_st q (-116) T S = some (T + 1, upd S T q.1) := rfl
    rw [this] at hs
    cases hs
    have := name 0 (by omega) h1 h2 rfl (by rw [q0])
    rw [h1]
    exact z_neg (by decide) (z_pos rfl this)
  · have : z_st q (-112) T S = some (T + 1, upd S T q.2.1) := rfl
    rw [this] at hs
    cases hs
    have := name 1 (by omega) h1 h2 rfl (by rw [q1])
    rw [h1]
    exact z_neg (by decide) (z_pos rfl this)
  · have : z_st q (-107) T S = some (T + 1, upd S T q.2.2.1) := rfl
    rw [this] at hs
    cases hs
    have := name 2 (by omega) h1 h2 rfl (by rw [q2])
    rw [h1]
    exact z_neg (by decide) (z_pos rfl this)
  · have : z_st q (-122) T S = some (T + 1, upd S T q.2.2.2) := rfl
    rw [this] at hs
    cases hs
    have := name 3 (by omega) h1 h2 rfl (by rw [q3])
    rw [h1]
    exact z_neg (by decide) (z_pos rfl this)
  · have : z_st q (-33) T S = if T = 0 then none else some (T, upd S (T - 1) (if S (T - 1) = 0 then 1 else 0)) := rfl
    rw [this] at hs
    by_cases h0 : T = 0
    · rw [if_pos h0] at hs; cases hs
    · rw [if_neg h0] at hs
      cases hs
      rw [h1, z_Jm' (by omega), J_toNat (show T - 1 < 2147483648 by omega), e2]
      refine z_neg (by decide) (z_neg (by decide) (z_pos rfl (z_ck (by (try simp (disch := omega) only [Int32.lt_iff_toInt_lt, Int32.le_iff_toInt_le, ← Int32.toInt_inj, Int32.toInt_add, Int32.toInt_sub, Int32.toInt_mul, Int32.toInt_neg, z_bm, z_bm2, J_ti, J_toInt, z_cn, Int32.reduceToInt]) <;> omega) (by (try simp (disch := omega) only [Int32.lt_iff_toInt_lt, Int32.le_iff_toInt_le, ← Int32.toInt_inj, Int32.toInt_add, Int32.toInt_sub, Int32.toInt_mul, Int32.toInt_neg, z_bm, z_bm2, J_ti, J_toInt, z_cn, Int32.reduceToInt]) <;> omega) (z_ite (fun hx => z_ck (by (try simp (disch := omega) only [Int32.lt_iff_toInt_lt, Int32.le_iff_toInt_le, ← Int32.toInt_inj, Int32.toInt_add, Int32.toInt_sub, Int32.toInt_mul, Int32.toInt_neg, z_bm, z_bm2, J_ti, J_toInt, z_cn, Int32.reduceToInt]) <;> omega) (by (try simp (disch := omega) only [Int32.lt_iff_toInt_lt, Int32.le_iff_toInt_le, ← Int32.toInt_inj, Int32.toInt_add, Int32.toInt_sub, Int32.toInt_mul, Int32.toInt_neg, z_bm, z_bm2, J_ti, J_toInt, z_cn, Int32.reduceToInt]) <;> omega) (z_let (k_sat_mk ⟨by rw [z_J1], wr _ _ (by omega) (by rw [if_pos hx])⟩))) (fun hx => z_ck (by (try simp (disch := omega) only [Int32.lt_iff_toInt_lt, Int32.le_iff_toInt_le, ← Int32.toInt_inj, Int32.toInt_add, Int32.toInt_sub, Int32.toInt_mul, Int32.toInt_neg, z_bm, z_bm2, J_ti, J_toInt, z_cn, Int32.reduceToInt]) <;> omega) (by (try simp (disch := omega) only [Int32.lt_iff_toInt_lt, Int32.le_iff_toInt_le, ← Int32.toInt_inj, Int32.toInt_add, Int32.toInt_sub, Int32.toInt_mul, Int32.toInt_neg, z_bm, z_bm2, J_ti, J_toInt, z_cn, Int32.reduceToInt]) <;> omega) (z_let (k_sat_mk ⟨by rw [z_J1], wr _ _ (by omega) (by rw [if_neg hx])⟩)))))))
  · have : z_st q (-1) T S = if T = 0 then none else some (T, upd S (T - 1) (-(S (T - 1)))) := rfl
    rw [this] at hs
    by_cases h0 : T = 0
    · rw [if_pos h0] at hs; cases hs
    · rw [if_neg h0] at hs
      cases hs
      rw [h1, z_Jm' (by omega), J_toNat (show T - 1 < 2147483648 by omega), e2]
      exact z_neg (by decide) (z_neg (by decide) (z_neg (by decide) (z_pos rfl (z_ck (by (try simp (disch := omega) only [Int32.lt_iff_toInt_lt, Int32.le_iff_toInt_le, ← Int32.toInt_inj, Int32.toInt_add, Int32.toInt_sub, Int32.toInt_mul, Int32.toInt_neg, z_bm, z_bm2, J_ti, J_toInt, z_cn, Int32.reduceToInt]) <;> omega) (by (try simp (disch := omega) only [Int32.lt_iff_toInt_lt, Int32.le_iff_toInt_le, ← Int32.toInt_inj, Int32.toInt_add, Int32.toInt_sub, Int32.toInt_mul, Int32.toInt_neg, z_bm, z_bm2, J_ti, J_toInt, z_cn, Int32.reduceToInt]) <;> omega) (z_ck (by (try simp (disch := omega) only [Int32.lt_iff_toInt_lt, Int32.le_iff_toInt_le, ← Int32.toInt_inj, Int32.toInt_add, Int32.toInt_sub, Int32.toInt_mul, Int32.toInt_neg, z_bm, z_bm2, J_ti, J_toInt, z_cn, Int32.reduceToInt]) <;> omega) (by (try simp (disch := omega) only [Int32.lt_iff_toInt_lt, Int32.le_iff_toInt_le, ← Int32.toInt_inj, Int32.toInt_add, Int32.toInt_sub, Int32.toInt_mul, Int32.toInt_neg, z_bm, z_bm2, J_ti, J_toInt, z_cn, Int32.reduceToInt]) <;> omega) (z_let (k_sat_mk ⟨by rw [z_J1], wr _ _ (by omega) rfl⟩)))))))
  · have hst : z_st q (-(J c)) T S = if T < 2 then none else some (T - 1, upd S (T - 2) (z_op (-(J c)) (S (T - 2)) (S (T - 1)))) := by
      clear hs h1 wr name
      unfold z_ops at hco
      simp only [List.mem_cons, List.not_mem_nil, or_false] at hco
      rcases hco with rfl | rfl | rfl | rfl | rfl | rfl | rfl | rfl | rfl | rfl <;> rfl
    have hneg : ¬ (J c : Int32) = 1 ∧ ¬ (J c : Int32) = 2 ∧ ¬ (J c : Int32) = 3 ∧ ¬ (J c : Int32) = 4 := by
      clear hs h1 hst wr name
      unfold z_ops at hco
      simp only [List.mem_cons, List.not_mem_nil, or_false] at hco
      rcases hco with rfl | rfl | rfl | rfl | rfl | rfl | rfl | rfl | rfl | rfl <;> decide
    rw [hst] at hs
    by_cases h0 : T < 2
    · rw [if_pos h0] at hs; cases hs
    · rw [if_neg h0] at hs
      cases hs
      rw [h1, z_Jn (by omega), z_Jm' (show 0 < T - 1 by omega), show T - 1 - 1 = T - 2 by omega, J_toNat (show T - 1 < 2147483648 by omega), J_toNat (show T - 2 < 2147483648 by omega), e2]
      refine z_neg hneg.1 (z_neg hneg.2.1 (z_neg hneg.2.2.1 (z_neg hneg.2.2.2 (z_ck (by (try simp (disch := omega) only [Int32.lt_iff_toInt_lt, Int32.le_iff_toInt_le, ← Int32.toInt_inj, Int32.toInt_add, Int32.toInt_sub, Int32.toInt_mul, Int32.toInt_neg, z_bm, z_bm2, J_ti, J_toInt, z_cn, Int32.reduceToInt]) <;> omega) (by (try simp (disch := omega) only [Int32.lt_iff_toInt_lt, Int32.le_iff_toInt_le, ← Int32.toInt_inj, Int32.toInt_add, Int32.toInt_sub, Int32.toInt_mul, Int32.toInt_neg, z_bm, z_bm2, J_ti, J_toInt, z_cn, Int32.reduceToInt]) <;> omega) (z_ck (by (try simp (disch := omega) only [Int32.lt_iff_toInt_lt, Int32.le_iff_toInt_le, ← Int32.toInt_inj, Int32.toInt_add, Int32.toInt_sub, Int32.toInt_mul, Int32.toInt_neg, z_bm, z_bm2, J_ti, J_toInt, z_cn, Int32.reduceToInt]) <;> omega) (by (try simp (disch := omega) only [Int32.lt_iff_toInt_lt, Int32.le_iff_toInt_le, ← Int32.toInt_inj, Int32.toInt_add, Int32.toInt_sub, Int32.toInt_mul, Int32.toInt_neg, z_bm, z_bm2, J_ti, J_toInt, z_cn, Int32.reduceToInt]) <;> omega) ?_)))))
      rw [z_twoOp hco, z_bind_some]
      exact z_ck (by (try simp (disch := omega) only [Int32.lt_iff_toInt_lt, Int32.le_iff_toInt_le, ← Int32.toInt_inj, Int32.toInt_add, Int32.toInt_sub, Int32.toInt_mul, Int32.toInt_neg, z_bm, z_bm2, J_ti, J_toInt, z_cn, Int32.reduceToInt]) <;> omega) (by (try simp (disch := omega) only [Int32.lt_iff_toInt_lt, Int32.le_iff_toInt_le, ← Int32.toInt_inj, Int32.toInt_add, Int32.toInt_sub, Int32.toInt_mul, Int32.toInt_neg, z_bm, z_bm2, J_ti, J_toInt, z_cn, Int32.reduceToInt]) <;> omega) (z_let (k_sat_mk ⟨by rw [z_J1], wr _ _ (by omega) rfl⟩))
theorem z_runR {q : z_q} {e : Nat} {K : Unit → k_S → Prop} (he : e ≤ 130) : ∀ (C : List Int32) (a T T' : Nat) (S S' : Nat → Int32) (u : k_S) (N : Nat), z_run q C T S = some (T', S') → (∀ i s, C[i]? = some s → z_ra s (u.2.1 49 (a + i)) (u.2.1 50 (a + i))) → a + C.length ≤ e → T ≤ a → u.2.1 55 = S → u.2.1 54 0 = q.1 → u.2.1 54 1 = q.2.1 → u.2.1 54 2 = q.2.2.1 → u.2.1 54 3 = q.2.2.2 → (∀ v, z_fr [] [55] u v → v.2.1 55 = S' → k_sat (k_itr (fun (x : (Int32 × Int32)) u => f_R_worked_B12 0 (J e) x.1 x.2 u) N (J T', J (a + C.length)) v) K) → k_sat (k_itr (fun (x : (Int32 × Int32)) u => f_R_worked_B12 0 (J e) x.1 x.2 u) (N + C.length) (J T, J a) u) K
  | [], a, T, T', S, S', u, N, h, _, _, _, e2, _, _, _, _, hk => by
    cases h
    exact hk u z_fr.rf e2
  | s :: C, a, T, T', S, S', u, N, h, hcode, hl, hTa, e2, q0, q1, q2, q3, hk => by
    rw [List.length_cons] at hl hk ⊢
    rw [z_run] at h
    cases hm : z_st q s T S with
    | none => rw [hm] at h; cases h
    | some m =>
      rw [hm] at h
      obtain ⟨T1, S1⟩ := m
      have hle := z_st_le hm
      rw [show N + (C.length + 1) = (N + C.length) + 1 by omega]
      refine z_turn (z_mono (z_stR hm (hcode 0 s rfl) e2 (by omega) (by omega) he q0 q1 q2 q3) (fun z v hv => ⟨_, hv.1, ?_⟩))
      obtain ⟨-, g1, g3⟩ := hv
      have f54 : v.2.1 54 = u.2.1 54 := g1.2.1 54 rfl
      refine z_runR he C (a + 1) T1 T' S1 S' v N h (fun i s' hs' => ?_) (by omega) (by omega) g3 (by rw [f54]; exact q0) (by rw [f54]; exact q1) (by rw [f54]; exact q2) (by rw [f54]; exact q3) (fun w hw1 hw3 => ?_)
      · rw [g1.2.1 49 rfl, g1.2.1 50 rfl, show a + 1 + i = a + (i + 1) by omega]
        exact hcode (i + 1) s' hs'
      · rw [show a + 1 + C.length = a + (C.length + 1) by omega]
        exact hk w (g1.tr hw1) hw3
theorem z_worked {q : z_q} {C : List Int32} {a : Nat} {u : k_S} (hw : z_wf C) (hC : ∀ i s, C[i]? = some s → z_ra s (u.2.1 49 (a + i)) (u.2.1 50 (a + i))) (he : a + C.length ≤ 130) (q0 : u.2.1 54 0 = q.1) (q1 : u.2.1 54 1 = q.2.1) (q2 : u.2.1 54 2 = q.2.2.1) (q3 : u.2.1 54 3 = q.2.2.2) : k_sat (f_R_worked 0 (J a) (J (a + C.length)) u) (fun r v => z_fr [] [55] u v ∧ r = z_v q C) := by
  obtain ⟨S', a1, a2, a3⟩ := z_wf_v hw q 0 (u.2.1 55)
  unfold f_R_worked
  rw [z_130]
  have hN : k_FU = (4294967295 - C.length) + 1 + C.length := by unfold k_FU; omega
  refine z_let (z_bind (fun _ v => z_fr [] [55] u v ∧ v.2.1 55 = S') ?_ (fun _ v hv => z_ck (by decide) (by decide) (k_sat_mk ⟨hv.1, ?_⟩)))
  · rw [hN]
    refine z_runR he C a 0 1 (u.2.1 55) S' u _ a1 hC (Nat.le_refl _) (Nat.zero_le _) rfl q0 q1 q2 q3 (fun v hv1 hv2 => z_exit ?_)
    unfold f_R_worked_B12
    dsimp only
    rw [z_130]
    exact z_pos (Int32.le_refl _) (k_sat_mk ⟨_, rfl, hv1, hv2⟩)
  · rw [hv.2]
    exact a3
/-! LAW: lines, what they give, by the reference; frost by a text -/
def z_ps (te le : Nat → Int32) : Nat → Nat → List z_Ln → Prop
  | _, _, [] => True
  | o, j, l :: r => te j = J (o + l.1.length) ∧ le j = J (o + l.1.length + l.2.length) ∧ z_ps te le (o + l.1.length + l.2.length) (j + 1) r
def z_rl : List z_Ln → List Int32
  | [] => []
  | l :: r => l.1 ++ (l.2 ++ z_rl r)
theorem z_ps_c {te le te' le' : Nat → Int32} (h : ∀ i, i < 61 → te' i = te i ∧ le' i = le i) : ∀ (ls : List z_Ln) (o j : Nat), j + ls.length ≤ 61 → z_ps te le o j ls → z_ps te' le' o j ls
  | [], o, j, _, _ => trivial
  | l :: r, o, j, hj, hp => by
    rw [List.length_cons] at hj
    rw [z_ps] at hp ⊢
    obtain ⟨a, b⟩ := h j (by omega)
    exact ⟨a.trans hp.1, b.trans hp.2.1, z_ps_c h r _ _ (by omega) hp.2.2⟩
theorem z_givesR {q : z_q} {m : Nat} (hm : m ≤ 61) : ∀ (ls : List z_Ln) (o j : Nat) (u : k_S) (N : Nat), j + ls.length = m → (∀ l, l ∈ ls → z_gl l) → z_ps (u.2.1 52) (u.2.1 53) o j ls → (∀ i s, (z_rl ls)[i]? = some s → z_ra s (u.2.1 49 (o + i)) (u.2.1 50 (o + i))) → o + (z_rl ls).length ≤ 130 → u.2.1 51 0 = J m → u.2.1 54 0 = q.1 → u.2.1 54 1 = q.2.1 → u.2.1 54 2 = q.2.2.1 → u.2.1 54 3 = q.2.2.2 → ls.length < N → k_sat (k_itr (fun (x : (Int32 × Int32)) u => f_R_gives_B7 0 x.1 x.2 u) N (J o, J j) u) (fun y v => z_fr [] [55] u v ∧ ((y = .inl 0 ∧ z_val q ls = 0) ∨ ∃ l' o' C, y = .inr (J l') ∧ l' < 61 ∧ v.2.1 52 l' = J o' ∧ v.2.1 53 l' = J (o' + C.length) ∧ z_wf C ∧ (∀ i s, C[i]? = some s → z_ra s (v.2.1 49 (o' + i)) (v.2.1 50 (o' + i))) ∧ o' + C.length ≤ 130 ∧ z_val q ls = z_v q C))
  | [], o, j, u, N, hj, hg, hp, hc, hl, e51, q0, q1, q2, q3, hN => by
    obtain ⟨M, rfl⟩ : ∃ M, N = M + 1 := ⟨N - 1, by omega⟩
    have hj : j = m := hj
    refine z_exit ?_
    unfold f_R_gives_B7
    dsimp only
    rw [show (0 : Int32).toNatClampNeg = 0 from rfl, e51, Int32.mul_zero, Int32.zero_add, hj]
    exact z_ck (by decide) (by decide) (z_pos (Int32.le_refl _) (k_sat_mk ⟨_, rfl, z_fr.rf, Or.inl ⟨rfl, rfl⟩⟩))
  | l :: r, o, j, u, N, hj, hg, hp, hc, hl, e51, q0, q1, q2, q3, hN => by
    obtain ⟨M, rfl⟩ : ∃ M, N = M + 1 := ⟨N - 1, by omega⟩
    obtain ⟨g1, g2, g3, g4⟩ := hg l (List.mem_cons_self)
    rw [List.length_cons] at hj hN
    rw [z_ps] at hp
    rw [z_rl] at hc hl
    rw [List.length_append, List.length_append] at hl
    obtain ⟨p1, p2, p3⟩ := hp
    have cA : ∀ i s, l.1[i]? = some s → z_ra s (u.2.1 49 (o + i)) (u.2.1 50 (o + i)) := fun i s hs => hc i s (z_ga hs)
    have cB : ∀ i s, l.2[i]? = some s → z_ra s (u.2.1 49 (o + l.1.length + i)) (u.2.1 50 (o + l.1.length + i)) := fun i s hs => by
      have := hc (l.1.length + i) s (z_gb (z_ga hs))
      rw [show o + l.1.length + i = o + (l.1.length + i) by omega]
      exact this
    have cR : ∀ i s, (z_rl r)[i]? = some s → z_ra s (u.2.1 49 (o + l.1.length + l.2.length + i)) (u.2.1 50 (o + l.1.length + l.2.length + i)) := fun i s hs => by
      have := hc (l.1.length + (l.2.length + i)) s (z_gb (z_gb hs))
      rw [show o + l.1.length + l.2.length + i = o + (l.1.length + (l.2.length + i)) by omega]
      exact this
    have b7 : ∀ {Q : ((Int32 × Int32) ⊕ (Int32 ⊕ (Int32))) → k_S → Prop}, k_sat (if J (o + l.1.length) = J o then some ((.inr (.inr (J j)) : (Int32 × Int32) ⊕ (Int32 ⊕ (Int32))), u) else k_bind (f_R_worked 0 (J o) (J (o + l.1.length)) u) (fun r3 u2 => if r3 = 0 then k_ck (J j) 122 (k_let (u2.2.1 53 j) (fun t4 => some (.inl (t4, J j + Int32.ofInt 1), u2))) else some (.inr (.inr (J j)), u2))) Q → k_sat (f_R_gives_B7 0 (J o) (J j) u) Q := by
      intro Q h
      unfold f_R_gives_B7
      rw [show (0 : Int32).toNatClampNeg = 0 from rfl, e51, Int32.mul_zero, Int32.zero_add, J_toNat (show j < 2147483648 by omega), p1]
      refine z_ck (by decide) (by decide) (z_neg (by (try simp (disch := omega) only [Int32.lt_iff_toInt_lt, Int32.le_iff_toInt_le, ← Int32.toInt_inj, Int32.toInt_add, Int32.toInt_sub, Int32.toInt_mul, Int32.toInt_neg, z_bm, z_bm2, J_ti, J_toInt, z_cn, Int32.reduceToInt]) <;> omega) (z_ck (by (try simp (disch := omega) only [Int32.lt_iff_toInt_lt, Int32.le_iff_toInt_le, ← Int32.toInt_inj, Int32.toInt_add, Int32.toInt_sub, Int32.toInt_mul, Int32.toInt_neg, z_bm, z_bm2, J_ti, J_toInt, z_cn, Int32.reduceToInt]) <;> omega) (by (try simp (disch := omega) only [Int32.lt_iff_toInt_lt, Int32.le_iff_toInt_le, ← Int32.toInt_inj, Int32.toInt_add, Int32.toInt_sub, Int32.toInt_mul, Int32.toInt_neg, z_bm, z_bm2, J_ti, J_toInt, z_cn, Int32.reduceToInt]) <;> omega) ?_))
      by_cases hx : J (o + l.1.length) = J o
      · rw [if_pos hx] at h ⊢
        exact h
      · rw [if_neg hx] at h ⊢
        exact z_ck (by (try simp (disch := omega) only [Int32.lt_iff_toInt_lt, Int32.le_iff_toInt_le, ← Int32.toInt_inj, Int32.toInt_add, Int32.toInt_sub, Int32.toInt_mul, Int32.toInt_neg, z_bm, z_bm2, J_ti, J_toInt, z_cn, Int32.reduceToInt]) <;> omega) (by (try simp (disch := omega) only [Int32.lt_iff_toInt_lt, Int32.le_iff_toInt_le, ← Int32.toInt_inj, Int32.toInt_add, Int32.toInt_sub, Int32.toInt_mul, Int32.toInt_neg, z_bm, z_bm2, J_ti, J_toInt, z_cn, Int32.reduceToInt]) <;> omega) h
    have hres : ∀ v : k_S, z_fr [] [55] u v → z_val q (l :: r) = z_v q l.2 → ∃ l' o' C, (.inr (J j) : Int32 ⊕ Int32) = .inr (J l') ∧ l' < 61 ∧ v.2.1 52 l' = J o' ∧ v.2.1 53 l' = J (o' + C.length) ∧ z_wf C ∧ (∀ i s, C[i]? = some s → z_ra s (v.2.1 49 (o' + i)) (v.2.1 50 (o' + i))) ∧ o' + C.length ≤ 130 ∧ z_val q (l :: r) = z_v q C := by
      intro v hv hval
      refine ⟨j, o + l.1.length, l.2, rfl, by omega, by rw [hv.2.1 52 rfl]; exact p1, by rw [hv.2.1 53 rfl]; exact p2, g2, ?_, by omega, hval⟩
      rw [hv.2.1 49 rfl, hv.2.1 50 rfl]
      exact cB
    by_cases hA : l.1 = []
    · refine z_exit (b7 (z_pos (by rw [hA]; rfl) (k_sat_mk ⟨_, rfl, z_fr.rf, Or.inr (hres u z_fr.rf ?_)⟩)))
      rw [z_val, if_pos hA]
    · have hA1 : 0 < l.1.length := List.length_pos_iff.mpr hA
      have hne : ¬ J (o + l.1.length) = J o := by
        rw [J_inj (by omega) (by omega)]
        omega
      have hW := z_worked (q := q) (a := o) (g1.resolve_left hA) cA (by omega) q0 q1 q2 q3
      by_cases hx : z_v q l.1 = 0
      · refine z_turn (b7 (z_neg hne (z_bind _ hW (fun r3 v hv => ?_))))
        refine z_pos (hv.2.trans hx) (z_ck (by (try simp (disch := omega) only [Int32.lt_iff_toInt_lt, Int32.le_iff_toInt_le, ← Int32.toInt_inj, Int32.toInt_add, Int32.toInt_sub, Int32.toInt_mul, Int32.toInt_neg, z_bm, z_bm2, J_ti, J_toInt, z_cn, Int32.reduceToInt]) <;> omega) (by (try simp (disch := omega) only [Int32.lt_iff_toInt_lt, Int32.le_iff_toInt_le, ← Int32.toInt_inj, Int32.toInt_add, Int32.toInt_sub, Int32.toInt_mul, Int32.toInt_neg, z_bm, z_bm2, J_ti, J_toInt, z_cn, Int32.reduceToInt]) <;> omega) (z_let (k_sat_mk ⟨_, rfl, ?_⟩)))
        have f54 : v.2.1 54 = u.2.1 54 := hv.1.2.1 54 rfl
        rw [show v.2.1 53 j = J (o + l.1.length + l.2.length) by rw [hv.1.2.1 53 rfl]; exact p2, z_J1]
        refine z_mono (z_givesR hm r (o + l.1.length + l.2.length) (j + 1) v M (by omega) (fun l' h' => hg l' (List.mem_cons_of_mem _ h')) (by rw [hv.1.2.1 52 rfl, hv.1.2.1 53 rfl]; exact p3) (by rw [hv.1.2.1 49 rfl, hv.1.2.1 50 rfl]; exact cR) (by omega) (by rw [hv.1.2.1 51 rfl]; exact e51) (by rw [f54]; exact q0) (by rw [f54]; exact q1) (by rw [f54]; exact q2) (by rw [f54]; exact q3) (by omega)) (fun y w hw => ⟨hv.1.tr hw.1, ?_⟩)
        rw [z_val, if_neg hA, if_pos hx]
        exact hw.2
      · refine z_exit (b7 (z_neg hne (z_bind _ hW (fun r3 v hv => ?_))))
        refine z_neg (by rw [hv.2]; exact hx) (k_sat_mk ⟨_, rfl, hv.1, Or.inr (hres v hv.1 ?_)⟩)
        rw [z_val, if_neg hA, if_neg hx]
def z_c (ls : List z_Ln) : Int32 → Int32 → Int32 → Nat → Bool := fun sd t p w => decide (¬ z_val (t, p, J w, z_zz t sd) ls = 0)
theorem z_cWl {ls : List z_Ln} {code : Nat → Int32} (hg : ∀ l, l ∈ ls → z_gl l) (hc : ∀ i s, (z_cls 0 ls)[i]? = some s → code i = s) (hl : (z_cls 0 ls).length ≤ 128) : zCW (J (z_cls 0 ls).length) code (z_c ls) := by
  intro u h1 h2 t p w hw
  refine z_mono (z_valAt (t := t) (p := p) (k := J w) hg (by rw [h2]; exact hc) hl h1) (fun r v hv => ⟨hv.1, ?_⟩)
  rw [hv.2]
  unfold z_c
  exact ⟨fun h => of_decide_eq_true h, fun h => decide_eq_true h⟩
theorem z_cRl {ls : List z_Ln} {act wi many te le : Nat → Int32} (hg : ∀ l, l ∈ ls → z_gl l) (hps : z_ps te le 0 0 ls) (hc : ∀ i s, (z_rl ls)[i]? = some s → z_ra s (act i) (wi i)) (hl : (z_rl ls).length ≤ 130) (hm : ls.length ≤ 61) (hmany : many 0 = J ls.length) : zCR 1 act wi many te le (z_c ls) := by
  intro u h1 h2 h3 h4 w hw
  have hr : ∀ i s, (z_rl ls)[i]? = some s → i < 130 := fun i s hs => by
    rcases Nat.lt_or_ge i (z_rl ls).length with x | x
    · omega
    · rw [List.getElem?_eq_none x] at hs; cases hs
  unfold f_R_isCold
  rw [h1]
  have e0 : ∀ x : Int32, z_fr [] [54] u (k_wA u 54 0 x) := fun x => z_wA rfl
  have eJ : (J w).toNatClampNeg = w := J_toNat (by omega)
  simp only [k_let]
  rw [eJ]
  refine z_neg (by decide) (z_ck (by decide) (by decide) (z_ck (by (try simp (disch := omega) only [Int32.lt_iff_toInt_lt, Int32.le_iff_toInt_le, ← Int32.toInt_inj, Int32.toInt_add, Int32.toInt_sub, Int32.toInt_mul, Int32.toInt_neg, z_bm, z_bm2, J_ti, J_toInt, z_cn, Int32.reduceToInt]) <;> omega) (by (try simp (disch := omega) only [Int32.lt_iff_toInt_lt, Int32.le_iff_toInt_le, ← Int32.toInt_inj, Int32.toInt_add, Int32.toInt_sub, Int32.toInt_mul, Int32.toInt_neg, z_bm, z_bm2, J_ti, J_toInt, z_cn, Int32.reduceToInt]) <;> omega) (z_ck (by decide) (by decide) (z_ck (by decide) (by decide) (z_ck (by decide) (by decide) ?_)))))
  have k1 : z_fr [] [54] u (k_wA (k_wA (k_wA (k_wA u 54 0 (u.1 4209)) 54 1 (u.2.1 46 w)) 54 2 (J w)) 54 3 (z_zz (u.1 4209) (u.1 4211))) := (((z_wA rfl).tr (z_wA rfl)).tr (z_wA rfl)).tr (z_wA rfl)
  have f0 : (k_wA (k_wA (k_wA (k_wA u 54 0 (u.1 4209)) 54 1 (u.2.1 46 w)) 54 2 (J w)) 54 3 (z_zz (u.1 4209) (u.1 4211))).2.1 54 0 = u.1 4209 := by simp [k_wA, z_up]
  have f1 : (k_wA (k_wA (k_wA (k_wA u 54 0 (u.1 4209)) 54 1 (u.2.1 46 w)) 54 2 (J w)) 54 3 (z_zz (u.1 4209) (u.1 4211))).2.1 54 1 = u.2.1 46 w := by simp [k_wA, z_up]
  have f2 : (k_wA (k_wA (k_wA (k_wA u 54 0 (u.1 4209)) 54 1 (u.2.1 46 w)) 54 2 (J w)) 54 3 (z_zz (u.1 4209) (u.1 4211))).2.1 54 2 = J w := by simp [k_wA, z_up]
  have f3 : (k_wA (k_wA (k_wA (k_wA u 54 0 (u.1 4209)) 54 1 (u.2.1 46 w)) 54 2 (J w)) 54 3 (z_zz (u.1 4209) (u.1 4211))).2.1 54 3 = z_zz (u.1 4209) (u.1 4211) := by simp [k_wA, z_up]
  refine z_bind (fun r6 v => z_fr [] [54, 55] u v ∧ r6 = z_val (u.1 4209, u.2.1 46 w, J w, z_zz (u.1 4209) (u.1 4211)) ls) ?_ (fun r6 v hv => ?_)
  · show k_sat (f_R_gives 0 (k_wA (k_wA (k_wA (k_wA u 54 0 (u.1 4209)) 54 1 (u.2.1 46 w)) 54 2 (J w)) 54 3 (z_zz (u.1 4209) (u.1 4211)))) _
    generalize k_wA (k_wA (k_wA (k_wA u 54 0 (u.1 4209)) 54 1 (u.2.1 46 w)) 54 2 (J w)) 54 3 (z_zz (u.1 4209) (u.1 4211)) = x at *
    unfold f_R_gives
    refine z_let ?_
    rw [show (61 : Int32) * 0 = J 0 by rw [Int32.mul_zero, J_0], show ((0 : Int32), J 0) = (J 0, J 0) from rfl]
    refine z_bind _ (z_givesR (q := (u.1 4209, u.2.1 46 w, J w, z_zz (u.1 4209) (u.1 4211))) hm ls 0 0 x k_FU (Nat.zero_add _) hg ?_ (fun i s hs => ?_) (by omega) ?_ f0 f1 f2 f3 (by unfold k_FU; omega)) (fun y v hv => ?_)
    · rw [k1.2.1 52 rfl, k1.2.1 53 rfl]
      exact z_ps_c h4 ls 0 0 (by omega) hps
    · rw [Nat.zero_add, k1.2.1 49 rfl, k1.2.1 50 rfl, (h2 i (hr i s hs)).1, (h2 i (hr i s hs)).2]
      exact hc i s hs
    · rw [k1.2.1 51 rfl, h3, hmany]
    · obtain ⟨g1, ⟨rfl, g2⟩ | ⟨l', o', C, rfl, a1, a2, a3, a4, a5, a6, a7⟩⟩ := hv
      · simp only [k_cs]
        exact k_sat_mk ⟨(k1.mono rfl rfl).tr (g1.mono rfl rfl), g2.symm⟩
      · simp only [k_cs]
        unfold f_R_gives_J47
        rw [J_toNat (show l' < 2147483648 by omega), a2, a3]
        have f54 : v.2.1 54 = x.2.1 54 := g1.2.1 54 rfl
        refine z_ck (by (try simp (disch := omega) only [Int32.lt_iff_toInt_lt, Int32.le_iff_toInt_le, ← Int32.toInt_inj, Int32.toInt_add, Int32.toInt_sub, Int32.toInt_mul, Int32.toInt_neg, z_bm, z_bm2, J_ti, J_toInt, z_cn, Int32.reduceToInt]) <;> omega) (by (try simp (disch := omega) only [Int32.lt_iff_toInt_lt, Int32.le_iff_toInt_le, ← Int32.toInt_inj, Int32.toInt_add, Int32.toInt_sub, Int32.toInt_mul, Int32.toInt_neg, z_bm, z_bm2, J_ti, J_toInt, z_cn, Int32.reduceToInt]) <;> omega) (z_ck (by (try simp (disch := omega) only [Int32.lt_iff_toInt_lt, Int32.le_iff_toInt_le, ← Int32.toInt_inj, Int32.toInt_add, Int32.toInt_sub, Int32.toInt_mul, Int32.toInt_neg, z_bm, z_bm2, J_ti, J_toInt, z_cn, Int32.reduceToInt]) <;> omega) (by (try simp (disch := omega) only [Int32.lt_iff_toInt_lt, Int32.le_iff_toInt_le, ← Int32.toInt_inj, Int32.toInt_add, Int32.toInt_sub, Int32.toInt_mul, Int32.toInt_neg, z_bm, z_bm2, J_ti, J_toInt, z_cn, Int32.reduceToInt]) <;> omega) (z_bind _ (z_worked (q := (u.1 4209, u.2.1 46 w, J w, z_zz (u.1 4209) (u.1 4211))) a4 a5 a6 (by rw [f54]; exact f0) (by rw [f54]; exact f1) (by rw [f54]; exact f2) (by rw [f54]; exact f3)) (fun r v' hv' => k_sat_mk ⟨((k1.mono rfl rfl).tr (g1.mono rfl rfl)).tr (hv'.1.mono rfl rfl), ?_⟩)))
        rw [hv'.2, a7]
  · unfold z_c
    rw [hv.2]
    by_cases hx : z_val (u.1 4209, u.2.1 46 w, J w, z_zz (u.1 4209) (u.1 4211)) ls = 0
    · refine z_pos hx (k_sat_mk ⟨by rw [← hv.2] at hx; exact hv.1, ?_⟩)
      simp [hx]
    · refine z_neg hx (k_sat_mk ⟨hv.1, ?_⟩)
      simp [hx]
