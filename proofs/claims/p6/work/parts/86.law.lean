/-! LAW: steps, what they do; the text, how it is read -/
abbrev z_q : Type := Int32 × Int32 × Int32 × Int32
def z_op (s a b : Int32) : Int32 := if s = -124 then (if a = 0 then (if b = 0 then 0 else 1) else 1) else if s = -62 then (if a ≤ b then 0 else 1) else if s = -61 then (if a = b then 1 else 0) else if s = -60 then (if b ≤ a then 0 else 1) else if s = -47 then (if b = 0 then 0 else a / b) else if s = -45 then a - b else if s = -43 then a + b else if s = -42 then a * b else if s = -38 then (if a = 0 then 0 else if b = 0 then 0 else 1) else (if b = 0 then 0 else a % b)
/-- one step: how high the pile, what lies on it -/
def z_st (q : z_q) (s : Int32) (T : Nat) (S : Nat → Int32) : Option (Nat × (Nat → Int32)) :=
  if 0 ≤ s then some (T + 1, upd S T s) else if s = -122 then some (T + 1, upd S T q.2.2.2) else if s = -116 then some (T + 1, upd S T q.1) else if s = -112 then some (T + 1, upd S T q.2.1) else if s = -107 then some (T + 1, upd S T q.2.2.1) else if s = -33 then (if T = 0 then none else some (T, upd S (T - 1) (if S (T - 1) = 0 then 1 else 0))) else if s = -1 then (if T = 0 then none else some (T, upd S (T - 1) (-(S (T - 1))))) else (if T < 2 then none else some (T - 1, upd S (T - 2) (z_op s (S (T - 2)) (S (T - 1)))))
def z_run (q : z_q) : List Int32 → Nat → (Nat → Int32) → Option (Nat × (Nat → Int32))
  | [], T, S => some (T, S)
  | s :: C, T, S => match z_st q s T S with
    | none => none
    | some m => z_run q C m.1 m.2
theorem z_run_app (q : z_q) (D : List Int32) : ∀ (C : List Int32) (T T' : Nat) (S S' : Nat → Int32), z_run q C T S = some (T', S') → z_run q (C ++ D) T S = z_run q D T' S'
  | [], T, T', S, S', h => by cases h; rfl
  | s :: C, T, T', S, S', h => by
    rw [List.cons_append]
    rw [z_run] at h ⊢
    cases hs : z_st q s T S with
    | none => rw [hs] at h; cases h
    | some m =>
      rw [hs] at h
      exact z_run_app q D C m.1 T' m.2 S' h
/-- steps that lay one value onto the pile -/
def z_wf (C : List Int32) : Prop := ∃ f : z_q → Int32, ∀ q T S, ∃ S', z_run q C T S = some (T + 1, S') ∧ (∀ i, i < T → S' i = S i) ∧ S' T = f q
def z_v (q : z_q) (C : List Int32) : Int32 := ((z_run q C 0 (fun _ => 0)).getD (0, fun _ => 0)).2 0
theorem z_wf_v {C : List Int32} (h : z_wf C) (q : z_q) (T : Nat) (S : Nat → Int32) : ∃ S', z_run q C T S = some (T + 1, S') ∧ (∀ i, i < T → S' i = S i) ∧ S' T = z_v q C := by
  obtain ⟨f, hf⟩ := h
  obtain ⟨S', a, b, c⟩ := hf q T S
  obtain ⟨S0, a0, -, c0⟩ := hf q 0 (fun _ => 0)
  refine ⟨S', a, b, ?_⟩
  unfold z_v
  rw [a0, c]
  exact c0.symm
theorem z_wf_1 {s : Int32} (h : 0 ≤ s ∨ s = -122 ∨ s = -116 ∨ s = -112 ∨ s = -107) : z_wf [s] := by
  rcases h with h | rfl | rfl | rfl | rfl
  · refine ⟨fun _ => s, fun q T S => ⟨upd S T s, ?_, fun i hi => ?_, ?_⟩⟩
    · rw [z_run]
      unfold z_st
      rw [if_pos h]
      rfl
    · rw [z_up, if_neg (by omega)]
    · rw [z_up, if_pos rfl]
  · exact ⟨fun q => q.2.2.2, fun q T S => ⟨upd S T q.2.2.2, rfl, fun i hi => by rw [z_up, if_neg (by omega)], by rw [z_up, if_pos rfl]⟩⟩
  · exact ⟨fun q => q.1, fun q T S => ⟨upd S T q.1, rfl, fun i hi => by rw [z_up, if_neg (by omega)], by rw [z_up, if_pos rfl]⟩⟩
  · exact ⟨fun q => q.2.1, fun q T S => ⟨upd S T q.2.1, rfl, fun i hi => by rw [z_up, if_neg (by omega)], by rw [z_up, if_pos rfl]⟩⟩
  · exact ⟨fun q => q.2.2.1, fun q T S => ⟨upd S T q.2.2.1, rfl, fun i hi => by rw [z_up, if_neg (by omega)], by rw [z_up, if_pos rfl]⟩⟩
theorem z_wf_u {s : Int32} {C : List Int32} (h : z_wf C) (hs : s = -33 ∨ s = -1) : z_wf (C ++ [s]) := by
  obtain ⟨f, hf⟩ := h
  rcases hs with rfl | rfl
  · refine ⟨fun q => if f q = 0 then 1 else 0, fun q T S => ?_⟩
    obtain ⟨S', a, b, c⟩ := hf q T S
    refine ⟨upd S' T (if S' T = 0 then 1 else 0), ?_, fun i hi => ?_, ?_⟩
    · rw [z_run_app q _ C T (T + 1) S S' a]; rfl
    · rw [z_up, if_neg (by omega)]; exact b i hi
    · rw [z_up, if_pos rfl, c]
  · refine ⟨fun q => -(f q), fun q T S => ?_⟩
    obtain ⟨S', a, b, c⟩ := hf q T S
    refine ⟨upd S' T (-(S' T)), ?_, fun i hi => ?_, ?_⟩
    · rw [z_run_app q _ C T (T + 1) S S' a]; rfl
    · rw [z_up, if_neg (by omega)]; exact b i hi
    · rw [z_up, if_pos rfl, c]
def z_ops : List Nat := [124, 62, 61, 60, 47, 45, 43, 42, 38, 37]
theorem z_wf_o {c : Nat} {C D : List Int32} (h : z_wf C) (k : z_wf D) (hc : c ∈ z_ops) : z_wf (C ++ D ++ [-(J c)]) := by
  obtain ⟨f, hf⟩ := h
  obtain ⟨g, hg⟩ := k
  refine ⟨fun q => z_op (-(J c)) (f q) (g q), fun q T S => ?_⟩
  obtain ⟨S', a, b, d⟩ := hf q T S
  obtain ⟨S2, a2, b2, d2⟩ := hg q (T + 1) S'
  refine ⟨upd S2 T (z_op (-(J c)) (S2 T) (S2 (T + 1))), ?_, fun i hi => ?_, ?_⟩
  · have e1 : z_run q (C ++ D) T S = some (T + 1 + 1, S2) := by rw [z_run_app q D C T (T + 1) S S' a]; exact a2
    rw [z_run_app q _ (C ++ D) T (T + 1 + 1) S S2 e1, z_run]
    have : z_st q (-(J c)) (T + 1 + 1) S2 = some (T + 1, upd S2 T (z_op (-(J c)) (S2 T) (S2 (T + 1)))) := by
      unfold z_ops at hc
      simp only [List.mem_cons, List.not_mem_nil, or_false] at hc
      rcases hc with rfl | rfl | rfl | rfl | rfl | rfl | rfl | rfl | rfl | rfl <;> rfl
    rw [this]
    rfl
  · rw [z_up, if_neg (by omega), b2 i (by omega)]; exact b i hi
  · rw [z_up, if_pos rfl, d2, b2 T (by omega), d]
/-- a step of the class, of the reference -/
def z_ra (s a w : Int32) : Prop := (∃ v : Nat, v ≤ 9999 ∧ s = J v ∧ a = 1 ∧ w = J v) ∨ (s = -116 ∧ a = 2 ∧ w = 0) ∨ (s = -112 ∧ a = 2 ∧ w = 1) ∨ (s = -107 ∧ a = 2 ∧ w = 2) ∨ (s = -122 ∧ a = 2 ∧ w = 3) ∨ (s = -33 ∧ a = 3) ∨ (s = -1 ∧ a = 4) ∨ ∃ c, c ∈ z_ops ∧ s = -(J c) ∧ a = J c
def z_cd (s : Int32) : Prop := ∃ a w, z_ra s a w
/-- the text: bytes below 128, else 200 -/
def z_ch (n : Nat) (b : Nat → Nat) (i : Nat) : Nat := if i < n then (if b i < 128 then b i else 200) else 200
def z_dg (c : Nat) : Prop := 48 ≤ c ∧ c ≤ 57
abbrev z_Pa : Type := Nat → Bool × Nat × List Int32
def z_lp (ch : Nat → Nat) (os : List Nat) (sg : z_Pa) : Nat → Nat → List Int32 → Bool × Nat × List Int32
  | 0, i, C => (true, i, C)
  | k + 1, i, C => if ch i ∈ os then (if (sg (i + 1)).1 = true then z_lp ch os sg k (sg (i + 1)).2.1 (C ++ (sg (i + 1)).2.2 ++ [-(J (ch i))]) else (false, (sg (i + 1)).2.1, [])) else (true, i, C)
def z_lv (ch : Nat → Nat) (os : List Nat) (k : Nat) (sg : z_Pa) : z_Pa := fun i => if (sg i).1 = true then z_lp ch os sg k (sg i).2.1 (sg i).2.2 else (false, (sg i).2.1, [])
def z_ei (ch : Nat → Nat) (sg : z_Pa) : z_Pa := z_lv ch [124] 120 (z_lv ch [38] 120 (z_lv ch [60, 61, 62] 1 (z_lv ch [43, 45] 120 (z_lv ch [42, 47, 37] 120 sg))))
def z_nm (ch : Nat → Nat) : Nat → Nat → Nat → Nat × Nat
  | 0, i, v => (i, v)
  | k + 1, i, v => if 48 ≤ ch i ∧ ch i ≤ 57 then z_nm ch k (i + 1) (10 * v + ch i - 48) else (i, v)
def z_s1 (ch : Nat → Nat) (o : Option z_Pa) : z_Pa := fun i =>
  if 48 ≤ ch i ∧ ch i ≤ 57 then (if 48 ≤ ch (z_nm ch 4 i 0).1 ∧ ch (z_nm ch 4 i 0).1 ≤ 57 then (false, (z_nm ch 4 i 0).1, []) else (true, (z_nm ch 4 i 0).1, [J (z_nm ch 4 i 0).2])) else if ch i = 116 ∨ ch i = 112 ∨ ch i = 107 ∨ ch i = 122 then (true, i + 1, [-(J (ch i))]) else match o with
  | none => (false, i, [])
  | some sg => if ch i = 40 then (if (z_ei ch sg (i + 1)).1 = true then (if ch (z_ei ch sg (i + 1)).2.1 = 41 then (true, (z_ei ch sg (i + 1)).2.1 + 1, (z_ei ch sg (i + 1)).2.2) else (false, (z_ei ch sg (i + 1)).2.1, [])) else (false, (z_ei ch sg (i + 1)).2.1, [])) else if ch i = 33 ∨ ch i = 45 then (if (sg (i + 1)).1 = true then (true, (sg (i + 1)).2.1, (sg (i + 1)).2.2 ++ [if ch i = 45 then -1 else -33]) else (false, (sg (i + 1)).2.1, [])) else (false, i, [])
def z_sg (ch : Nat → Nat) : Nat → z_Pa
  | 0 => z_s1 ch none
  | d + 1 => z_s1 ch (some (z_sg ch d))
/-- what a reader of expressions must be -/
def z_gp (n : Nat) (P : z_Pa) : Prop := ∀ i, i ≤ n → i ≤ (P i).2.1 ∧ (P i).2.1 ≤ n ∧ ((P i).1 = true → i < (P i).2.1 ∧ (P i).2.2.length + i ≤ (P i).2.1 ∧ z_wf (P i).2.2 ∧ ∀ s, s ∈ (P i).2.2 → z_cd s)
theorem z_ch_n {n : Nat} {b : Nat → Nat} {i : Nat} (h : ¬ z_ch n b i = 200) : i < n := by
  unfold z_ch at h
  by_cases q : i < n
  · exact q
  · rw [if_neg q] at h; exact absurd rfl h
theorem z_lp_g {n : Nat} {b : Nat → Nat} {os : List Nat} {sg : z_Pa} (hs : z_gp n sg) (ho : ∀ c, c ∈ os → c ∈ z_ops) : ∀ (k i i0 : Nat) (C : List Int32), i0 < i → i ≤ n → C.length + i0 ≤ i → z_wf C → (∀ s, s ∈ C → z_cd s) → i0 ≤ (z_lp (z_ch n b) os sg k i C).2.1 ∧ (z_lp (z_ch n b) os sg k i C).2.1 ≤ n ∧ ((z_lp (z_ch n b) os sg k i C).1 = true → i0 < (z_lp (z_ch n b) os sg k i C).2.1 ∧ (z_lp (z_ch n b) os sg k i C).2.2.length + i0 ≤ (z_lp (z_ch n b) os sg k i C).2.1 ∧ z_wf (z_lp (z_ch n b) os sg k i C).2.2 ∧ ∀ s, s ∈ (z_lp (z_ch n b) os sg k i C).2.2 → z_cd s)
  | 0, i, i0, C, h0, h1, h2, h3, h4 => by
    rw [z_lp]
    exact ⟨by dsimp only; omega, h1, fun _ => ⟨h0, h2, h3, h4⟩⟩
  | k + 1, i, i0, C, h0, h1, h2, h3, h4 => by
    rw [z_lp]
    by_cases hc : z_ch n b i ∈ os
    · rw [if_pos hc]
      have hi : i < n := z_ch_n (b := b) (fun q => by
        have := ho _ hc
        rw [q] at this
        unfold z_ops at this
        simp at this)
      obtain ⟨a1, a2, a3⟩ := hs (i + 1) (by omega)
      by_cases q : (sg (i + 1)).1 = true
      · rw [if_pos q]
        obtain ⟨b1, b2, b3, b4⟩ := a3 q
        refine z_lp_g hs ho k _ i0 _ (by omega) a2 ?_ (z_wf_o h3 b3 (ho _ hc)) (fun s hs' => ?_)
        · rw [List.length_append, List.length_append, List.length_singleton]; omega
        · rw [List.mem_append, List.mem_append, List.mem_singleton] at hs'
          rcases hs' with (h | h) | h
          · exact h4 s h
          · exact b4 s h
          · exact ⟨_, 0, Or.inr (Or.inr (Or.inr (Or.inr (Or.inr (Or.inr (Or.inr ⟨_, ho _ hc, h, rfl⟩))))))⟩
      · rw [if_neg q]
        exact ⟨by dsimp only; omega, a2, fun q' => by cases q'⟩
    · rw [if_neg hc]
      exact ⟨by dsimp only; omega, h1, fun _ => ⟨h0, h2, h3, h4⟩⟩
theorem z_lv_g {n k : Nat} {b : Nat → Nat} {os : List Nat} {sg : z_Pa} (hs : z_gp n sg) (ho : ∀ c, c ∈ os → c ∈ z_ops) : z_gp n (z_lv (z_ch n b) os k sg) := by
  intro i hi
  obtain ⟨a1, a2, a3⟩ := hs i hi
  unfold z_lv
  by_cases q : (sg i).1 = true
  · rw [if_pos q]
    obtain ⟨b1, b2, b3, b4⟩ := a3 q
    exact z_lp_g hs ho k _ i _ b1 a2 b2 b3 b4
  · rw [if_neg q]
    exact ⟨a1, a2, fun q' => by cases q'⟩
theorem z_ei_g {n : Nat} {b : Nat → Nat} {sg : z_Pa} (hs : z_gp n sg) : z_gp n (z_ei (z_ch n b) sg) := by
  unfold z_ei
  refine z_lv_g (z_lv_g (z_lv_g (z_lv_g (z_lv_g hs ?_) ?_) ?_) ?_) ?_ <;> intro c hc <;> unfold z_ops <;> simp only [List.mem_cons, List.not_mem_nil, or_false] at hc ⊢ <;> omega
theorem z_nm_g {n : Nat} {b : Nat → Nat} : ∀ (k i v : Nat), i ≤ n → i ≤ (z_nm (z_ch n b) k i v).1 ∧ (z_nm (z_ch n b) k i v).1 ≤ n
  | 0, i, v, h => ⟨Nat.le_refl i, h⟩
  | k + 1, i, v, h => by
    rw [z_nm]
    by_cases q : 48 ≤ z_ch n b i ∧ z_ch n b i ≤ 57
    · rw [if_pos q]
      have hi : i < n := z_ch_n (b := b) (by omega)
      obtain ⟨a1, a2⟩ := z_nm_g (n := n) (b := b) k (i + 1) (10 * v + z_ch n b i - 48) (by omega)
      exact ⟨by omega, a2⟩
    · rw [if_neg q]
      exact ⟨Nat.le_refl i, h⟩
theorem z_nm_v {ch : Nat → Nat} : ∀ (k i v m : Nat), v < 10 ^ m → (z_nm ch k i v).2 < 10 ^ (m + k)
  | 0, i, v, m, h => h
  | k + 1, i, v, m, h => by
    rw [z_nm]
    by_cases q : 48 ≤ ch i ∧ ch i ≤ 57
    · rw [if_pos q]
      have := z_nm_v (ch := ch) k (i + 1) (10 * v + ch i - 48) (m + 1) (by rw [Nat.pow_succ]; omega)
      rw [show m + (k + 1) = m + 1 + k by omega]
      exact this
    · rw [if_neg q]
      exact Nat.lt_of_lt_of_le h (Nat.pow_le_pow_right (by omega) (by omega))
theorem z_s1_g {n : Nat} {b : Nat → Nat} {o : Option z_Pa} (hs : ∀ sg, o = some sg → z_gp n sg) : z_gp n (z_s1 (z_ch n b) o) := by
  intro i hi
  unfold z_s1
  by_cases q1 : 48 ≤ z_ch n b i ∧ z_ch n b i ≤ 57
  · rw [if_pos q1]
    have hin : i < n := z_ch_n (b := b) (by omega)
    have hg := z_nm_g (n := n) (b := b) 4 i 0 hi
    have hv := z_nm_v (ch := z_ch n b) 4 i 0 0 (by decide)
    have h1 : i < (z_nm (z_ch n b) 4 i 0).1 := by
      rw [z_nm, if_pos q1]
      have := (z_nm_g (n := n) (b := b) 3 (i + 1) (10 * 0 + z_ch n b i - 48) (by omega)).1
      omega
    by_cases q2 : 48 ≤ z_ch n b (z_nm (z_ch n b) 4 i 0).1 ∧ z_ch n b (z_nm (z_ch n b) 4 i 0).1 ≤ 57
    · rw [if_pos q2]
      exact ⟨hg.1, hg.2, fun q' => by cases q'⟩
    · rw [if_neg q2]
      refine ⟨hg.1, hg.2, fun _ => ⟨h1, by show 1 + i ≤ (z_nm (z_ch n b) 4 i 0).1; omega, z_wf_1 (Or.inl ?_), fun s hs' => ?_⟩⟩
      · have : (z_nm (z_ch n b) 4 i 0).2 < 10000 := hv
        generalize (z_nm (z_ch n b) 4 i 0).2 = y at this
        (try simp (disch := omega) only [Int32.lt_iff_toInt_lt, Int32.le_iff_toInt_le, ← Int32.toInt_inj, Int32.toInt_add, Int32.toInt_sub, Int32.toInt_mul, Int32.toInt_neg, z_bm, z_bm2, J_ti, J_toInt, z_cn, Int32.reduceToInt]) <;> omega
      · rw [List.mem_singleton] at hs'
        exact ⟨1, s, Or.inl ⟨_, by omega, hs', rfl, hs'⟩⟩
  rw [if_neg q1]
  by_cases q2 : z_ch n b i = 116 ∨ z_ch n b i = 112 ∨ z_ch n b i = 107 ∨ z_ch n b i = 122
  · rw [if_pos q2]
    have hin : i < n := z_ch_n (b := b) (by omega)
    refine ⟨by dsimp only; omega, hin, fun _ => ⟨by dsimp only; omega, by show 1 + i ≤ i + 1; omega, z_wf_1 (Or.inr ?_), fun s hs' => ?_⟩⟩
    · rcases q2 with q | q | q | q <;> rw [q]
      · exact Or.inr (Or.inl rfl)
      · exact Or.inr (Or.inr (Or.inl rfl))
      · exact Or.inr (Or.inr (Or.inr rfl))
      · exact Or.inl rfl
    · rw [List.mem_singleton] at hs'
      subst hs'
      rcases q2 with q | q | q | q <;> rw [q]
      · exact ⟨2, 0, Or.inr (Or.inl ⟨rfl, rfl, rfl⟩)⟩
      · exact ⟨2, 1, Or.inr (Or.inr (Or.inl ⟨rfl, rfl, rfl⟩))⟩
      · exact ⟨2, 2, Or.inr (Or.inr (Or.inr (Or.inl ⟨rfl, rfl, rfl⟩)))⟩
      · exact ⟨2, 3, Or.inr (Or.inr (Or.inr (Or.inr (Or.inl ⟨rfl, rfl, rfl⟩))))⟩
  rw [if_neg q2]
  cases o with
  | none => exact ⟨Nat.le_refl i, hi, fun q' => by cases q'⟩
  | some sg =>
    have hsg := hs sg rfl
    dsimp only
    by_cases q3 : z_ch n b i = 40
    · rw [if_pos q3]
      have hin : i < n := z_ch_n (b := b) (by omega)
      obtain ⟨a1, a2, a3⟩ := z_ei_g (b := b) hsg (i + 1) (by omega)
      by_cases q4 : (z_ei (z_ch n b) sg (i + 1)).1 = true
      · rw [if_pos q4]
        obtain ⟨b1, b2, b3, b4⟩ := a3 q4
        by_cases q5 : z_ch n b (z_ei (z_ch n b) sg (i + 1)).2.1 = 41
        · rw [if_pos q5]
          have hin2 : (z_ei (z_ch n b) sg (i + 1)).2.1 < n := z_ch_n (b := b) (by omega)
          exact ⟨by dsimp only; omega, hin2, fun _ => ⟨by dsimp only; omega, by dsimp only; omega, b3, b4⟩⟩
        · rw [if_neg q5]
          exact ⟨by dsimp only; omega, a2, fun q' => by cases q'⟩
      · rw [if_neg q4]
        exact ⟨by dsimp only; omega, a2, fun q' => by cases q'⟩
    rw [if_neg q3]
    by_cases q4 : z_ch n b i = 33 ∨ z_ch n b i = 45
    · rw [if_pos q4]
      have hin : i < n := z_ch_n (b := b) (by omega)
      obtain ⟨a1, a2, a3⟩ := hsg (i + 1) (by omega)
      by_cases q5 : (sg (i + 1)).1 = true
      · rw [if_pos q5]
        obtain ⟨b1, b2, b3, b4⟩ := a3 q5
        refine ⟨by dsimp only; omega, a2, fun _ => ⟨by dsimp only; omega, ?_, z_wf_u b3 ?_, fun s hs' => ?_⟩⟩
        · dsimp only
          rw [List.length_append, List.length_singleton]; omega
        · split
          · exact Or.inr rfl
          · exact Or.inl rfl
        · rw [List.mem_append, List.mem_singleton] at hs'
          rcases hs' with h | h
          · exact b4 s h
          · split at h
            · exact ⟨4, 0, Or.inr (Or.inr (Or.inr (Or.inr (Or.inr (Or.inr (Or.inl ⟨h, rfl⟩))))))⟩
            · exact ⟨3, 0, Or.inr (Or.inr (Or.inr (Or.inr (Or.inr (Or.inl ⟨h, rfl⟩)))))⟩
      · rw [if_neg q5]
        exact ⟨by dsimp only; omega, a2, fun q' => by cases q'⟩
    · rw [if_neg q4]
      exact ⟨Nat.le_refl i, hi, fun q' => by cases q'⟩
theorem z_sg_g {n : Nat} {b : Nat → Nat} : ∀ d, z_gp n (z_sg (z_ch n b) d)
  | 0 => z_s1_g (fun sg h => by cases h)
  | d + 1 => z_s1_g (fun sg h => by cases h; exact z_sg_g d)
