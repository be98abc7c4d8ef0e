/-! DECODING OUT OF A SLICE: what is read out of a piece of the bytes is read out of the whole -/
def dc_S (b b' : ByteArray) (k : Nat) {α : Type} (r r' : Jvm.ClassFile.Decoder α) : Prop := ∀ (p : Nat) (a : α) (p' : Nat), r' b' p = .ok (a, p') → r b (k + p) = .ok (a, k + p')
theorem dc_bind {b b' : ByteArray} {k : Nat} {α β : Type} {r r' : Jvm.ClassFile.Decoder α} {f f' : α → Jvm.ClassFile.Decoder β} (h : dc_S b b' k r r') (hf : ∀ a, dc_S b b' k (f a) (f' a)) : dc_S b b' k (r >>= f) (r' >>= f') := by
  intro p c p' hr
  have e' : (r' >>= f') b' p = (match r' b' p with | .ok x => f' x.1 b' x.2 | .error e => .error e) := by
    show (r' b' p >>= fun x => f' x.1 b' x.2) = _
    cases r' b' p <;> rfl
  have e : (r >>= f) b (k + p) = (match r b (k + p) with | .ok x => f x.1 b x.2 | .error e => .error e) := by
    show (r b (k + p) >>= fun x => f x.1 b x.2) = _
    cases r b (k + p) <;> rfl
  rw [e'] at hr
  cases hq : r' b' p with
  | error x => rw [hq] at hr; cases hr
  | ok x =>
    obtain ⟨a, p1⟩ := x
    rw [hq] at hr
    rw [e, h p a p1 hq]
    exact hf a p1 c p' hr
theorem dc_pure {b b' : ByteArray} {k : Nat} {α : Type} (a : α) : dc_S b b' k (pure a) (pure a) := by
  intro p c p' hr
  have : (Except.ok (a, p) : Except Jvm.ClassFile.DecodeError (α × Nat)) = .ok (c, p') := hr
  cases this
  rfl
theorem dc_throw {b b' : ByteArray} {k : Nat} {α : Type} {r : Jvm.ClassFile.Decoder α} (x : Jvm.ClassFile.DecodeError) : dc_S b b' k r (throw x) := by
  intro p c p' hr
  have : (Except.error x : Except Jvm.ClassFile.DecodeError (α × Nat)) = .ok (c, p') := hr
  cases this
/-- the piece b' of b that begins at k -/
def dc_P (b b' : ByteArray) (k : Nat) : Prop := k + b'.size ≤ b.size ∧ ∀ p (h : p < b'.size) (h2 : k + p < b.size), b[k + p] = b'[p]
theorem dc_u1 {b b' : ByteArray} {k : Nat} (hp : dc_P b b' k) : dc_S b b' k Jvm.ClassFile.Reader.u1 Jvm.ClassFile.Reader.u1 := by
  intro p a p' hr
  have e' : (Jvm.ClassFile.Reader.u1 : Jvm.ClassFile.Decoder Nat) b' p = if h : p < b'.size then .ok ((b'[p]).toNat, p + 1) else .error (Jvm.ClassFile.HasTruncated.truncated p) := by
    show (if h : p < b'.size then _ else _ : Jvm.ClassFile.Decoder Nat) b' p = _
    split <;> rfl
  have e : (Jvm.ClassFile.Reader.u1 : Jvm.ClassFile.Decoder Nat) b (k + p) = if h : k + p < b.size then .ok ((b[k + p]).toNat, k + p + 1) else .error (Jvm.ClassFile.HasTruncated.truncated (k + p)) := by
    show (if h : k + p < b.size then _ else _ : Jvm.ClassFile.Decoder Nat) b (k + p) = _
    split <;> rfl
  rw [e'] at hr
  by_cases h : p < b'.size
  · rw [dif_pos h] at hr
    cases hr
    have h2 : k + p < b.size := by have := hp.1; omega
    rw [e, dif_pos h2, hp.2 p h h2]
    rfl
  · rw [dif_neg h] at hr
    cases hr
theorem dc_map {b b' : ByteArray} {k : Nat} {α β : Type} {r r' : Jvm.ClassFile.Decoder α} (g : α → β) (h : dc_S b b' k r r') : dc_S b b' k (g <$> r) (g <$> r') := dc_bind (f := fun a => pure (g a)) (f' := fun a => pure (g a)) h (fun a => dc_pure (g a))
theorem dc_u2 {b b' : ByteArray} {k : Nat} (hp : dc_P b b' k) : dc_S b b' k Jvm.ClassFile.Reader.u2 Jvm.ClassFile.Reader.u2 := dc_bind (dc_u1 hp) (fun _ => dc_bind (dc_u1 hp) (fun _ => dc_pure _))
theorem dc_u4 {b b' : ByteArray} {k : Nat} (hp : dc_P b b' k) : dc_S b b' k Jvm.ClassFile.Reader.u4 Jvm.ClassFile.Reader.u4 := dc_bind (dc_u2 hp) (fun _ => dc_bind (dc_u2 hp) (fun _ => dc_pure _))
theorem dc_s1 {b b' : ByteArray} {k : Nat} (hp : dc_P b b' k) : dc_S b b' k Jvm.ClassFile.Reader.s1 Jvm.ClassFile.Reader.s1 := dc_map _ (dc_u1 hp)
theorem dc_s2 {b b' : ByteArray} {k : Nat} (hp : dc_P b b' k) : dc_S b b' k Jvm.ClassFile.Reader.s2 Jvm.ClassFile.Reader.s2 := dc_map _ (dc_u2 hp)
theorem dc_s4 {b b' : ByteArray} {k : Nat} (hp : dc_P b b' k) : dc_S b b' k Jvm.ClassFile.Reader.s4 Jvm.ClassFile.Reader.s4 := dc_map _ (dc_u4 hp)
/-- the opcodes that are not read out of a piece here -/
def dc_no (n : Nat) : Bool := n == 170 || n == 171 || n == 185 || n == 186 || n == 188 || n == 196 || n == 197
theorem dc_bind1 {b b' : ByteArray} {k : Nat} {β : Type} {f f' : Nat → Jvm.ClassFile.Decoder β} (hp : dc_P b b' k) (p : Nat) (c : β) (p' : Nat) (hn : ∀ h : p < b'.size, dc_no (b'[p]).toNat = false) (hf : ∀ a, dc_no a = false → dc_S b b' k (f a) (f' a)) (hr : (Jvm.ClassFile.Reader.u1 >>= f' : Jvm.ClassFile.Decoder β) b' p = .ok (c, p')) : (Jvm.ClassFile.Reader.u1 >>= f : Jvm.ClassFile.Decoder β) b (k + p) = .ok (c, k + p') := by
  have e' : (Jvm.ClassFile.Reader.u1 : Jvm.ClassFile.Decoder Nat) b' p = if h : p < b'.size then .ok ((b'[p]).toNat, p + 1) else .error (Jvm.ClassFile.HasTruncated.truncated p) := by
    show (if h : p < b'.size then _ else _ : Jvm.ClassFile.Decoder Nat) b' p = _
    split <;> rfl
  have b1 : (Jvm.ClassFile.Reader.u1 >>= f' : Jvm.ClassFile.Decoder β) b' p = (match (Jvm.ClassFile.Reader.u1 : Jvm.ClassFile.Decoder Nat) b' p with | .ok x => f' x.1 b' x.2 | .error e => .error e) := by
    show ((Jvm.ClassFile.Reader.u1 : Jvm.ClassFile.Decoder Nat) b' p >>= fun x => f' x.1 b' x.2) = _
    cases (Jvm.ClassFile.Reader.u1 : Jvm.ClassFile.Decoder Nat) b' p <;> rfl
  have b2 : (Jvm.ClassFile.Reader.u1 >>= f : Jvm.ClassFile.Decoder β) b (k + p) = (match (Jvm.ClassFile.Reader.u1 : Jvm.ClassFile.Decoder Nat) b (k + p) with | .ok x => f x.1 b x.2 | .error e => .error e) := by
    show ((Jvm.ClassFile.Reader.u1 : Jvm.ClassFile.Decoder Nat) b (k + p) >>= fun x => f x.1 b x.2) = _
    cases (Jvm.ClassFile.Reader.u1 : Jvm.ClassFile.Decoder Nat) b (k + p) <;> rfl
  by_cases h : p < b'.size
  · rw [dif_pos h] at e'
    have e := dc_u1 hp p _ _ e'
    rw [b1, e'] at hr
    rw [b2, e]
    exact hf _ (hn h) _ _ _ hr
  · rw [dif_neg h] at e'
    rw [b1, e'] at hr
    cases hr
set_option maxHeartbeats 8000000 in
set_option maxRecDepth 10000 in
theorem dc_ins {b b' : ByteArray} {k pc : Nat} (hp : dc_P b b' k) (p : Nat) (i : Instr) (p' : Nat) (hn : ∀ h : p < b'.size, dc_no (b'[p]).toNat = false) (hr : Jvm.ClassFile.Decoder.instr pc b' p = .ok (i, p')) : Jvm.ClassFile.Decoder.instr pc b (k + p) = .ok (i, k + p') := by
  unfold Jvm.ClassFile.Decoder.instr at hr ⊢
  refine dc_bind1 hp p i p' hn (fun a ha => ?_) hr
  clear hr hn
  split
  all_goals first
    | exact dc_pure _
    | exact dc_bind (dc_u2 hp) (fun _ => dc_pure _)
    | exact dc_bind (dc_s2 hp) (fun _ => dc_pure _)
    | exact dc_bind (dc_u1 hp) (fun _ => dc_pure _)
    | exact dc_bind (dc_s1 hp) (fun _ => dc_pure _)
    | exact dc_bind (dc_s4 hp) (fun _ => dc_pure _)
    | exact dc_bind (dc_u1 hp) (fun _ => dc_bind (dc_s1 hp) (fun _ => dc_pure _))
    | exact absurd ha (by decide)
    | exact dc_throw _
theorem dc_decode {b b' : ByteArray} {k pc l : Nat} {i : Instr} (hp : dc_P b b' k) (hk : k ≤ pc) (hn : ∀ h : pc - k < b'.size, dc_no (b'[pc - k]).toNat = false) (h : Jvm.ClassFile.Decoder.instr pc b' (pc - k) = .ok (i, pc - k + l)) : decode b pc = .ok (i, l) := by
  have h1 := dc_ins hp (pc - k) i (pc - k + l) hn h
  rw [show k + (pc - k) = pc by omega, show k + (pc - k + l) = pc + l by omega] at h1
  have e : decode b pc = (match Jvm.ClassFile.Decoder.instr pc b pc with | .ok x => .ok (x.1, x.2 - pc) | .error e => .error e) := by
    show (Jvm.ClassFile.Decoder.instr pc b pc >>= fun x => pure (x.1, x.2 - pc)) = _
    cases Jvm.ClassFile.Decoder.instr pc b pc <;> rfl
  rw [e, h1]
  show Except.ok (i, pc + l - pc) = _
  rw [Nat.add_sub_cancel_left]
def dc_sl (b b' : ByteArray) (k : Nat) : Bool := decide (k + b'.size ≤ b.size) && decide (((b.data.toList).drop k).take b'.size = b'.data.toList)
theorem dc_P_of {b b' : ByteArray} {k : Nat} (h : dc_sl b b' k = true) : dc_P b b' k := by
  unfold dc_sl at h
  rw [Bool.and_eq_true] at h
  obtain ⟨h1, h2⟩ := h
  have h1 := of_decide_eq_true h1
  have h2 := of_decide_eq_true h2
  refine ⟨h1, fun p hp1 hp2 => ?_⟩
  have e1 : b[k + p] = b.data.toList[k + p]'(by rw [Array.length_toList]; exact hp2) := rfl
  have e2 : b'[p] = b'.data.toList[p]'(by rw [Array.length_toList]; exact hp1) := rfl
  have h3 : b'.data.toList[p]? = b.data.toList[k + p]? := by
    rw [← h2, List.getElem?_take, if_pos hp1, List.getElem?_drop]
  rw [List.getElem?_eq_getElem (by rw [Array.length_toList]; exact hp1), List.getElem?_eq_getElem (by rw [Array.length_toList]; exact hp2)] at h3
  rw [e1, e2]
  exact (Option.some.inj h3).symm
def dc_row (b' : ByteArray) (k : Nat) (e : Nat × Instr × Nat) : Bool := decide (k ≤ e.1) && (match b'[e.1 - k]? with | some x => !(dc_no x.toNat) | none => false) && decide (Jvm.ClassFile.Decoder.instr e.1 b' (e.1 - k) = .ok (e.2.1, e.1 - k + e.2.2))
theorem dc_rows {b b' : ByteArray} {k : Nat} {r : List (Nat × Instr × Nat)} (hp : dc_P b b' k) (h : r.all (dc_row b' k) = true) : r.all (fun e => decide (decode b e.1 = .ok (e.2.1, e.2.2))) = true := by
  rw [List.all_eq_true] at h ⊢
  intro e he
  have := h e he
  unfold dc_row at this
  rw [Bool.and_eq_true, Bool.and_eq_true] at this
  obtain ⟨⟨h1, h2⟩, h3⟩ := this
  refine decide_eq_true (dc_decode hp (of_decide_eq_true h1) (fun hlt => ?_) (of_decide_eq_true h3))
  have e1 : b'[e.1 - k]? = some b'[e.1 - k] := by simp [hlt]
  rw [e1] at h2
  simpa using h2
def k_dec (b : ByteArray) (t : List (List (Nat × Instr × Nat))) : Bool := t.all (fun r => r.all (fun e => decide (decode b e.1 = .ok (e.2.1, e.2.2))))
theorem k_dec_app {b : ByteArray} {s t : List (List (Nat × Instr × Nat))} (h1 : k_dec b s = true) (h2 : k_dec b t = true) : k_dec b (s ++ t) = true := by
  unfold k_dec at *
  rw [List.all_append, h1, h2]; rfl
theorem dc_nil {b : ByteArray} : k_dec b [] = true := rfl
theorem dc_cons {b : ByteArray} {r : List (Nat × Instr × Nat)} {t : List (List (Nat × Instr × Nat))} (h1 : r.all (fun e => decide (decode b e.1 = .ok (e.2.1, e.2.2))) = true) (h2 : k_dec b t = true) : k_dec b (r :: t) = true := by
  unfold k_dec at *
  rw [List.all_cons, h1, h2]; rfl
