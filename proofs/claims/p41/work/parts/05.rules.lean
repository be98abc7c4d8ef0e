def k_nth {α : Type} : List α → Nat → Option α
  | [], _ => none
  | a :: _, 0 => some a
  | _ :: r, n + 1 => k_nth r n
theorem k_nth_eq {α : Type} : ∀ (l : List α) (n : Nat), k_nth l n = l[n]?
  | [], n => by simp [k_nth]
  | a :: r, 0 => by simp [k_nth]
  | a :: r, n + 1 => by simp [k_nth, k_nth_eq r n]
/-- the instruction at place j of row i of a method's table -/
def k_i (M : k_M) (i j : Nat) : Option (Nat × Instr × Nat) := match k_nth M.2.2.2.2 i with
  | some r => k_nth r j
  | none => none
theorem k_i_dec {M : k_M} (h : k_tab M) {i j pc n : Nat} {ins : Instr} (hi : k_i M i j = some (pc, ins, n)) : decode M.2.1 pc = .ok (ins, n) := by
  unfold k_i at hi
  rw [k_nth_eq] at hi
  cases hr : M.2.2.2.2[i]? with
  | none => rw [hr] at hi; cases hi
  | some r =>
    rw [hr] at hi
    simp only [k_nth_eq] at hi
    exact h i j r (pc, ins, n) hr hi
/-- what a partial function gives is so -/
def k_sat {α : Type} (o : Option (α × k_S)) (Q : α → k_S → Prop) : Prop := ∃ x : α × k_S, o = some x ∧ Q x.1 x.2
theorem k_sat_none {α : Type} {Q : α → k_S → Prop} (h : k_sat none Q) : False := by
  obtain ⟨x, h, _⟩ := h
  cases h
theorem k_sat_some {α : Type} {a : α} {w : k_S} {Q : α → k_S → Prop} (h : k_sat (some (a, w)) Q) : Q a w := by
  obtain ⟨x, h, hq⟩ := h
  cases h
  exact hq
theorem k_sat_mk {α : Type} {a : α} {w : k_S} {Q : α → k_S → Prop} (h : Q a w) : k_sat (some (a, w)) Q := ⟨(a, w), rfl, h⟩
def k_bind {α β : Type} (o : Option (α × k_S)) (f : α → k_S → Option (β × k_S)) : Option (β × k_S) := match o with
  | none => none
  | some x => f x.1 x.2
def k_let {α β : Type} (a : α) (f : α → β) : β := f a
def k_ck {α : Type} (i : Int32) (n : Nat) (o : Option α) : Option α := if i < 0 ∨ n ≤ i.toNatClampNeg then none else o
def k_nz {α : Type} (y : Int32) (o : Option α) : Option α := if y = 0 then none else o
theorem k_sat_bind {α β : Type} {o : Option (α × k_S)} {f : α → k_S → Option (β × k_S)} {Q : β → k_S → Prop} (h : k_sat (k_bind o f) Q) : k_sat o (fun a u => k_sat (f a u) Q) := by
  cases o with
  | none => exact (k_sat_none h).elim
  | some x => exact ⟨x, rfl, h⟩
theorem k_sat_ck {α : Type} {i : Int32} {n : Nat} {o : Option (α × k_S)} {Q : α → k_S → Prop} (h : k_sat (k_ck i n o) Q) : vp_in i n ∧ k_sat o Q := by
  unfold k_ck at h
  split at h
  · exact (k_sat_none h).elim
  · rename_i hn
    exact ⟨hn, h⟩
theorem k_sat_nz {α : Type} {y : Int32} {o : Option (α × k_S)} {Q : α → k_S → Prop} (h : k_sat (k_nz y o) Q) : ¬ y = 0 ∧ k_sat o Q := by
  unfold k_nz at h
  split at h
  · exact (k_sat_none h).elim
  · rename_i hn
    exact ⟨hn, h⟩
theorem k_sat_pos {α : Type} {c : Prop} {hd : Decidable c} {a b : Option (α × k_S)} {Q : α → k_S → Prop} (h : k_sat (if c then a else b) Q) (hc : c) : k_sat a Q := by rw [if_pos hc] at h; exact h
theorem k_sat_neg {α : Type} {c : Prop} {hd : Decidable c} {a b : Option (α × k_S)} {Q : α → k_S → Prop} (h : k_sat (if c then a else b) Q) (hc : ¬ c) : k_sat b Q := by rw [if_neg hc] at h; exact h
/-- loops: at most n turns; a turn goes on, or comes out -/
def k_itr {X Y : Type} (b : X → k_S → Option ((X ⊕ Y) × k_S)) : Nat → X → k_S → Option (Y × k_S)
  | 0, _, _ => none
  | n + 1, x, u => match b x u with
    | none => none
    | some (.inl x', u') => k_itr b n x' u'
    | some (.inr y, u') => some (y, u')
def k_out {X Y : Type} (P : X → k_S → Prop) (K : Y → k_S → Prop) : X ⊕ Y → k_S → Prop
  | .inl x, u => P x u
  | .inr y, u => K y u
theorem k_loop {X Y : Type} {b : X → k_S → Option ((X ⊕ Y) × k_S)} {P : X → k_S → Prop} {K : Y → k_S → Prop} (hs : ∀ x u, k_sat (b x u) (k_out P K) → P x u) : ∀ (n : Nat) (x : X) (u : k_S), k_sat (k_itr b n x u) K → P x u
  | 0, x, u, h => (k_sat_none h).elim
  | n + 1, x, u, h => by
    refine hs x u ?_
    unfold k_itr at h
    match hb : b x u with
    | none => rw [hb] at h; exact (k_sat_none h).elim
    | some (.inl x', u') =>
      rw [hb] at h
      exact k_sat_mk (k_loop hs n x' u' h)
    | some (.inr y, u') =>
      rw [hb] at h
      have h : k_sat (some (y, u')) K := h
      have h2 : K y u' := k_sat_some h
      exact k_sat_mk (Q := k_out P K) h2
section KR
variable {g : k_G} {d : Nat} {M : k_M} {pc : Nat} {l : List (Nat × Value)} {st : List Value} {u : k_S} {Q : Option Value → k_S → Prop}
theorem s_iconst {n : Int} (i j : Nat) (hd : k_i M i j = some (pc, .iconst n, 1))  (k : k_W g d M (pc + 1) l (.int (Int32.ofInt n) :: st) u Q) : k_W g d M pc l (st) u Q := by
  intro p e R s m args below meth c H locs cells slots ls Z F h1 h2 h3 h4 hP hS hl hR
  have hx := F.1
  have hb := F.2.1
  have hown := F.2.2.2.1
  have hts := F.2.2.2.2.1
  have hK := F.2.2.2.2.2.1
  have hO := F.2.2.2.2.2.2.1
  have hZ := F.2.2.2.2.2.2.2.1
  have hap := F.2.2.2.2.2.2.2.2.1
  have ht := F.2.2.2.2.2.2.2.2.2.1
  have hNw := F.2.2.2.2.2.2.2.2.2.2
  exact lv_iconst hx hb (k_i_dec ht hd) rfl (k p e R s m args below meth c H locs cells slots ls Z F h1 h2 h3 h4 hP hS hl hR)
theorem s_const {n : Int} (v : Int32) (i j : Nat) (hd : k_i M i j = some (pc, .iconst n, 1)) (hv : Int32.ofInt n = v) (k : k_W g d M (pc + 1) l (.int v :: st) u Q) : k_W g d M pc l st u Q := by
  intro p e R s m args below meth c H locs cells slots ls Z F h1 h2 h3 h4 hP hS hl hR
  have hx := F.1
  have hb := F.2.1
  have hown := F.2.2.2.1
  have hts := F.2.2.2.2.1
  have hK := F.2.2.2.2.2.1
  have hO := F.2.2.2.2.2.2.1
  have hZ := F.2.2.2.2.2.2.2.1
  have hap := F.2.2.2.2.2.2.2.2.1
  have ht := F.2.2.2.2.2.2.2.2.2.1
  have hNw := F.2.2.2.2.2.2.2.2.2.2
  exact lv_iconst hx hb (k_i_dec ht hd) hv (k p e R s m args below meth c H locs cells slots ls Z F h1 h2 h3 h4 hP hS hl hR)
theorem s_bipush {n : Int} (v : Int32) (i j : Nat) (hd : k_i M i j = some (pc, .bipush n, 2)) (hv : (Int8.ofInt n).toInt32 = v) (k : k_W g d M (pc + 2) l (.int v :: st) u Q) : k_W g d M pc l st u Q := by
  intro p e R s m args below meth c H locs cells slots ls Z F h1 h2 h3 h4 hP hS hl hR
  have hx := F.1
  have hb := F.2.1
  have hown := F.2.2.2.1
  have hts := F.2.2.2.2.1
  have hK := F.2.2.2.2.2.1
  have hO := F.2.2.2.2.2.2.1
  have hZ := F.2.2.2.2.2.2.2.1
  have hap := F.2.2.2.2.2.2.2.2.1
  have ht := F.2.2.2.2.2.2.2.2.2.1
  have hNw := F.2.2.2.2.2.2.2.2.2.2
  exact lv_bipush hx hb (k_i_dec ht hd) hv (k p e R s m args below meth c H locs cells slots ls Z F h1 h2 h3 h4 hP hS hl hR)
theorem s_sipush {n : Int} (v : Int32) (i j : Nat) (hd : k_i M i j = some (pc, .sipush n, 3)) (hv : (Int16.ofInt n).toInt32 = v) (k : k_W g d M (pc + 3) l (.int v :: st) u Q) : k_W g d M pc l st u Q := by
  intro p e R s m args below meth c H locs cells slots ls Z F h1 h2 h3 h4 hP hS hl hR
  have hx := F.1
  have hb := F.2.1
  have hown := F.2.2.2.1
  have hts := F.2.2.2.2.1
  have hK := F.2.2.2.2.2.1
  have hO := F.2.2.2.2.2.2.1
  have hZ := F.2.2.2.2.2.2.2.1
  have hap := F.2.2.2.2.2.2.2.2.1
  have ht := F.2.2.2.2.2.2.2.2.2.1
  have hNw := F.2.2.2.2.2.2.2.2.2.2
  exact lv_sipush hx hb (k_i_dec ht hd) hv (k p e R s m args below meth c H locs cells slots ls Z F h1 h2 h3 h4 hP hS hl hR)
theorem s_lconst {n : Fin 2} (v : Int64) (i j : Nat) (hd : k_i M i j = some (pc, .lconst n, 1)) (hv : Int64.ofNat (n : Nat) = v) (k : k_W g d M (pc + 1) l (.long v :: st) u Q) : k_W g d M pc l st u Q := by
  intro p e R s m args below meth c H locs cells slots ls Z F h1 h2 h3 h4 hP hS hl hR
  have hx := F.1
  have hb := F.2.1
  have hown := F.2.2.2.1
  have hts := F.2.2.2.2.1
  have hK := F.2.2.2.2.2.1
  have hO := F.2.2.2.2.2.2.1
  have hZ := F.2.2.2.2.2.2.2.1
  have hap := F.2.2.2.2.2.2.2.2.1
  have ht := F.2.2.2.2.2.2.2.2.2.1
  have hNw := F.2.2.2.2.2.2.2.2.2.2
  exact lv_lconst hx hb (k_i_dec ht hd) hv (k p e R s m args below meth c H locs cells slots ls Z F h1 h2 h3 h4 hP hS hl hR)
theorem s_ldc {n : Nat} (v : Int32) (i j : Nat) (hd : k_i M i j = some (pc, .ldc n, 2)) (hw : Cond.constant M.1.cls n v ∈ k_tbl) (k : k_W g d M (pc + 2) l (.int v :: st) u Q) : k_W g d M pc l st u Q := by
  intro p e R s m args below meth c H locs cells slots ls Z F h1 h2 h3 h4 hP hS hl hR
  have hx := F.1
  have hb := F.2.1
  have hown := F.2.2.2.1
  have hts := F.2.2.2.2.1
  have hK := F.2.2.2.2.2.1
  have hO := F.2.2.2.2.2.2.1
  have hZ := F.2.2.2.2.2.2.2.1
  have hap := F.2.2.2.2.2.2.2.2.1
  have ht := F.2.2.2.2.2.2.2.2.2.1
  have hNw := F.2.2.2.2.2.2.2.2.2.2
  exact lv_ldc hx hb hown (hts _ hw) (k_i_dec ht hd) (k p e R s m args below meth c H locs cells slots ls Z F h1 h2 h3 h4 hP hS hl hR)
theorem s_ldcw {n : Nat} (v : Int32) (i j : Nat) (hd : k_i M i j = some (pc, .ldc_w n, 3)) (hw : Cond.constant M.1.cls n v ∈ k_tbl) (k : k_W g d M (pc + 3) l (.int v :: st) u Q) : k_W g d M pc l st u Q := by
  intro p e R s m args below meth c H locs cells slots ls Z F h1 h2 h3 h4 hP hS hl hR
  have hx := F.1
  have hb := F.2.1
  have hown := F.2.2.2.1
  have hts := F.2.2.2.2.1
  have hK := F.2.2.2.2.2.1
  have hO := F.2.2.2.2.2.2.1
  have hZ := F.2.2.2.2.2.2.2.1
  have hap := F.2.2.2.2.2.2.2.2.1
  have ht := F.2.2.2.2.2.2.2.2.2.1
  have hNw := F.2.2.2.2.2.2.2.2.2.2
  exact lv_ldcw hx hb hown (hts _ hw) (k_i_dec ht hd) (k p e R s m args below meth c H locs cells slots ls Z F h1 h2 h3 h4 hP hS hl hR)
theorem s_ldc2 {n : Nat} (v : Int64) (i j : Nat) (hd : k_i M i j = some (pc, .ldc2_w n, 3)) (hw : Cond.constantLong M.1.cls n v ∈ k_tbl) (k : k_W g d M (pc + 3) l (.long v :: st) u Q) : k_W g d M pc l st u Q := by
  intro p e R s m args below meth c H locs cells slots ls Z F h1 h2 h3 h4 hP hS hl hR
  have hx := F.1
  have hb := F.2.1
  have hown := F.2.2.2.1
  have hts := F.2.2.2.2.1
  have hK := F.2.2.2.2.2.1
  have hO := F.2.2.2.2.2.2.1
  have hZ := F.2.2.2.2.2.2.2.1
  have hap := F.2.2.2.2.2.2.2.2.1
  have ht := F.2.2.2.2.2.2.2.2.2.1
  have hNw := F.2.2.2.2.2.2.2.2.2.2
  exact lv_ldc2 hx hb hown (hts _ hw) (k_i_dec ht hd) (k p e R s m args below meth c H locs cells slots ls Z F h1 h2 h3 h4 hP hS hl hR)
theorem s_iloadn {q : Fin 4} {x : Int32} (i j : Nat) (hd : k_i M i j = some (pc, .iload_n q, 1)) (hv : k_at l q = some (.int x)) (k : k_W g d M (pc + 1) l (.int x :: st) u Q) : k_W g d M pc l st u Q := by
  intro p e R s m args below meth c H locs cells slots ls Z F h1 h2 h3 h4 hP hS hl hR
  have hx := F.1
  have hb := F.2.1
  have hown := F.2.2.2.1
  have hts := F.2.2.2.2.1
  have hK := F.2.2.2.2.2.1
  have hO := F.2.2.2.2.2.2.1
  have hZ := F.2.2.2.2.2.2.2.1
  have hap := F.2.2.2.2.2.2.2.2.1
  have ht := F.2.2.2.2.2.2.2.2.2.1
  have hNw := F.2.2.2.2.2.2.2.2.2.2
  exact lv_iload_n hx hb (k_i_dec ht hd) rfl (k_has_at hl hv) (k p e R s m args below meth c H locs cells slots ls Z F h1 h2 h3 h4 hP hS hl hR)
theorem s_iload {q : Nat} {x : Int32} (i j : Nat) (hd : k_i M i j = some (pc, .iload q, 2)) (hv : k_at l q = some (.int x)) (k : k_W g d M (pc + 2) l (.int x :: st) u Q) : k_W g d M pc l st u Q := by
  intro p e R s m args below meth c H locs cells slots ls Z F h1 h2 h3 h4 hP hS hl hR
  have hx := F.1
  have hb := F.2.1
  have hown := F.2.2.2.1
  have hts := F.2.2.2.2.1
  have hK := F.2.2.2.2.2.1
  have hO := F.2.2.2.2.2.2.1
  have hZ := F.2.2.2.2.2.2.2.1
  have hap := F.2.2.2.2.2.2.2.2.1
  have ht := F.2.2.2.2.2.2.2.2.2.1
  have hNw := F.2.2.2.2.2.2.2.2.2.2
  exact lv_iload hx hb (k_i_dec ht hd) (k_has_at hl hv) (k p e R s m args below meth c H locs cells slots ls Z F h1 h2 h3 h4 hP hS hl hR)
theorem s_lloadn {q : Fin 4} {x : Int64} (i j : Nat) (hd : k_i M i j = some (pc, .lload_n q, 1)) (hv : k_at l q = some (.long x)) (k : k_W g d M (pc + 1) l (.long x :: st) u Q) : k_W g d M pc l st u Q := by
  intro p e R s m args below meth c H locs cells slots ls Z F h1 h2 h3 h4 hP hS hl hR
  have hx := F.1
  have hb := F.2.1
  have hown := F.2.2.2.1
  have hts := F.2.2.2.2.1
  have hK := F.2.2.2.2.2.1
  have hO := F.2.2.2.2.2.2.1
  have hZ := F.2.2.2.2.2.2.2.1
  have hap := F.2.2.2.2.2.2.2.2.1
  have ht := F.2.2.2.2.2.2.2.2.2.1
  have hNw := F.2.2.2.2.2.2.2.2.2.2
  exact lv_lload_n hx hb (k_i_dec ht hd) rfl (k_has_at hl hv) (k p e R s m args below meth c H locs cells slots ls Z F h1 h2 h3 h4 hP hS hl hR)
theorem s_lload {q : Nat} {x : Int64} (i j : Nat) (hd : k_i M i j = some (pc, .lload q, 2)) (hv : k_at l q = some (.long x)) (k : k_W g d M (pc + 2) l (.long x :: st) u Q) : k_W g d M pc l st u Q := by
  intro p e R s m args below meth c H locs cells slots ls Z F h1 h2 h3 h4 hP hS hl hR
  have hx := F.1
  have hb := F.2.1
  have hown := F.2.2.2.1
  have hts := F.2.2.2.2.1
  have hK := F.2.2.2.2.2.1
  have hO := F.2.2.2.2.2.2.1
  have hZ := F.2.2.2.2.2.2.2.1
  have hap := F.2.2.2.2.2.2.2.2.1
  have ht := F.2.2.2.2.2.2.2.2.2.1
  have hNw := F.2.2.2.2.2.2.2.2.2.2
  exact lv_lload hx hb (k_i_dec ht hd) (k_has_at hl hv) (k p e R s m args below meth c H locs cells slots ls Z F h1 h2 h3 h4 hP hS hl hR)
theorem s_aloadn {q : Fin 4} {x : Nat} (i j : Nat) (hd : k_i M i j = some (pc, .aload_n q, 1)) (hv : k_at l q = some (.ref x)) (k : k_W g d M (pc + 1) l (.ref x :: st) u Q) : k_W g d M pc l st u Q := by
  intro p e R s m args below meth c H locs cells slots ls Z F h1 h2 h3 h4 hP hS hl hR
  have hx := F.1
  have hb := F.2.1
  have hown := F.2.2.2.1
  have hts := F.2.2.2.2.1
  have hK := F.2.2.2.2.2.1
  have hO := F.2.2.2.2.2.2.1
  have hZ := F.2.2.2.2.2.2.2.1
  have hap := F.2.2.2.2.2.2.2.2.1
  have ht := F.2.2.2.2.2.2.2.2.2.1
  have hNw := F.2.2.2.2.2.2.2.2.2.2
  exact lv_aload_n hx hb (k_i_dec ht hd) rfl (k_has_at hl hv) (k p e R s m args below meth c H locs cells slots ls Z F h1 h2 h3 h4 hP hS hl hR)
theorem s_aload {q : Nat} {x : Nat} (i j : Nat) (hd : k_i M i j = some (pc, .aload q, 2)) (hv : k_at l q = some (.ref x)) (k : k_W g d M (pc + 2) l (.ref x :: st) u Q) : k_W g d M pc l st u Q := by
  intro p e R s m args below meth c H locs cells slots ls Z F h1 h2 h3 h4 hP hS hl hR
  have hx := F.1
  have hb := F.2.1
  have hown := F.2.2.2.1
  have hts := F.2.2.2.2.1
  have hK := F.2.2.2.2.2.1
  have hO := F.2.2.2.2.2.2.1
  have hZ := F.2.2.2.2.2.2.2.1
  have hap := F.2.2.2.2.2.2.2.2.1
  have ht := F.2.2.2.2.2.2.2.2.2.1
  have hNw := F.2.2.2.2.2.2.2.2.2.2
  exact lv_aload hx hb (k_i_dec ht hd) (k_has_at hl hv) (k p e R s m args below meth c H locs cells slots ls Z F h1 h2 h3 h4 hP hS hl hR)
theorem s_istoren {q : Fin 4} {x : Int32} (i j : Nat) (hd : k_i M i j = some (pc, .istore_n q, 1)) (hn : Nat.blt q M.2.2.1 = true) (k : k_W g d M (pc + 1) (k_put q (.int x) l) st u Q) : k_W g d M pc l (.int x :: st) u Q := by
  intro p e R s m args below meth c H locs cells slots ls Z F h1 h2 h3 h4 hP hS hl hR
  have hx := F.1
  have hb := F.2.1
  have hown := F.2.2.2.1
  have hts := F.2.2.2.2.1
  have hK := F.2.2.2.2.2.1
  have hO := F.2.2.2.2.2.2.1
  have hZ := F.2.2.2.2.2.2.2.1
  have hap := F.2.2.2.2.2.2.2.2.1
  have ht := F.2.2.2.2.2.2.2.2.2.1
  have hNw := F.2.2.2.2.2.2.2.2.2.2
  exact lv_istore_n hx hb (k_i_dec ht hd) rfl hl (Nat.blt_eq.mp hn) rfl (fun ls hl => k p e R s m args below meth c H locs cells slots ls Z F h1 h2 h3 h4 hP hS (k_has_put hl) hR)
theorem s_istore {q : Nat} {x : Int32} (i j : Nat) (hd : k_i M i j = some (pc, .istore q, 2)) (hn : Nat.blt q M.2.2.1 = true) (k : k_W g d M (pc + 2) (k_put q (.int x) l) st u Q) : k_W g d M pc l (.int x :: st) u Q := by
  intro p e R s m args below meth c H locs cells slots ls Z F h1 h2 h3 h4 hP hS hl hR
  have hx := F.1
  have hb := F.2.1
  have hown := F.2.2.2.1
  have hts := F.2.2.2.2.1
  have hK := F.2.2.2.2.2.1
  have hO := F.2.2.2.2.2.2.1
  have hZ := F.2.2.2.2.2.2.2.1
  have hap := F.2.2.2.2.2.2.2.2.1
  have ht := F.2.2.2.2.2.2.2.2.2.1
  have hNw := F.2.2.2.2.2.2.2.2.2.2
  exact lv_istore hx hb (k_i_dec ht hd) hl (Nat.blt_eq.mp hn) rfl (fun ls hl => k p e R s m args below meth c H locs cells slots ls Z F h1 h2 h3 h4 hP hS (k_has_put hl) hR)
theorem s_astoren {q : Fin 4} {x : Nat} (i j : Nat) (hd : k_i M i j = some (pc, .astore_n q, 1)) (hn : Nat.blt q M.2.2.1 = true) (k : k_W g d M (pc + 1) (k_put q (.ref x) l) st u Q) : k_W g d M pc l (.ref x :: st) u Q := by
  intro p e R s m args below meth c H locs cells slots ls Z F h1 h2 h3 h4 hP hS hl hR
  have hx := F.1
  have hb := F.2.1
  have hown := F.2.2.2.1
  have hts := F.2.2.2.2.1
  have hK := F.2.2.2.2.2.1
  have hO := F.2.2.2.2.2.2.1
  have hZ := F.2.2.2.2.2.2.2.1
  have hap := F.2.2.2.2.2.2.2.2.1
  have ht := F.2.2.2.2.2.2.2.2.2.1
  have hNw := F.2.2.2.2.2.2.2.2.2.2
  exact lv_astore_n hx hb (k_i_dec ht hd) rfl hl (Nat.blt_eq.mp hn) rfl (fun ls hl => k p e R s m args below meth c H locs cells slots ls Z F h1 h2 h3 h4 hP hS (k_has_put hl) hR)
theorem s_astore {q : Nat} {x : Nat} (i j : Nat) (hd : k_i M i j = some (pc, .astore q, 2)) (hn : Nat.blt q M.2.2.1 = true) (k : k_W g d M (pc + 2) (k_put q (.ref x) l) st u Q) : k_W g d M pc l (.ref x :: st) u Q := by
  intro p e R s m args below meth c H locs cells slots ls Z F h1 h2 h3 h4 hP hS hl hR
  have hx := F.1
  have hb := F.2.1
  have hown := F.2.2.2.1
  have hts := F.2.2.2.2.1
  have hK := F.2.2.2.2.2.1
  have hO := F.2.2.2.2.2.2.1
  have hZ := F.2.2.2.2.2.2.2.1
  have hap := F.2.2.2.2.2.2.2.2.1
  have ht := F.2.2.2.2.2.2.2.2.2.1
  have hNw := F.2.2.2.2.2.2.2.2.2.2
  exact lv_astore hx hb (k_i_dec ht hd) hl (Nat.blt_eq.mp hn) rfl (fun ls hl => k p e R s m args below meth c H locs cells slots ls Z F h1 h2 h3 h4 hP hS (k_has_put hl) hR)
theorem s_lstoren {q : Fin 4} {x : Int64} (i j : Nat) (hd : k_i M i j = some (pc, .lstore_n q, 1)) (hn : Nat.blt (q + 1) M.2.2.1 = true) (k : k_W g d M (pc + 1) (k_put2 q (.long x) l) st u Q) : k_W g d M pc l (.long x :: st) u Q := by
  intro p e R s m args below meth c H locs cells slots ls Z F h1 h2 h3 h4 hP hS hl hR
  have hx := F.1
  have hb := F.2.1
  have hown := F.2.2.2.1
  have hts := F.2.2.2.2.1
  have hK := F.2.2.2.2.2.1
  have hO := F.2.2.2.2.2.2.1
  have hZ := F.2.2.2.2.2.2.2.1
  have hap := F.2.2.2.2.2.2.2.2.1
  have ht := F.2.2.2.2.2.2.2.2.2.1
  have hNw := F.2.2.2.2.2.2.2.2.2.2
  exact lv_lstore_n hx hb (k_i_dec ht hd) rfl hl (Nat.blt_eq.mp hn) rfl (fun ls hl => k p e R s m args below meth c H locs cells slots ls Z F h1 h2 h3 h4 hP hS (k_has_put2 hl) hR)
theorem s_lstore {q : Nat} {x : Int64} (i j : Nat) (hd : k_i M i j = some (pc, .lstore q, 2)) (hn : Nat.blt (q + 1) M.2.2.1 = true) (k : k_W g d M (pc + 2) (k_put2 q (.long x) l) st u Q) : k_W g d M pc l (.long x :: st) u Q := by
  intro p e R s m args below meth c H locs cells slots ls Z F h1 h2 h3 h4 hP hS hl hR
  have hx := F.1
  have hb := F.2.1
  have hown := F.2.2.2.1
  have hts := F.2.2.2.2.1
  have hK := F.2.2.2.2.2.1
  have hO := F.2.2.2.2.2.2.1
  have hZ := F.2.2.2.2.2.2.2.1
  have hap := F.2.2.2.2.2.2.2.2.1
  have ht := F.2.2.2.2.2.2.2.2.2.1
  have hNw := F.2.2.2.2.2.2.2.2.2.2
  exact lv_lstore hx hb (k_i_dec ht hd) hl (Nat.blt_eq.mp hn) rfl (fun ls hl => k p e R s m args below meth c H locs cells slots ls Z F h1 h2 h3 h4 hP hS (k_has_put2 hl) hR)
theorem s_iinc {q : Nat} {n : Int} {x : Int32} (i j : Nat) (hd : k_i M i j = some (pc, .iinc q n, 3)) (hv : k_at l q = some (.int x)) (hn : Nat.blt q M.2.2.1 = true) (k : k_W g d M (pc + 3) (k_put q (.int (x + Int32.ofInt n)) l) st u Q) : k_W g d M pc l st u Q := by
  intro p e R s m args below meth c H locs cells slots ls Z F h1 h2 h3 h4 hP hS hl hR
  have hx := F.1
  have hb := F.2.1
  have hown := F.2.2.2.1
  have hts := F.2.2.2.2.1
  have hK := F.2.2.2.2.2.1
  have hO := F.2.2.2.2.2.2.1
  have hZ := F.2.2.2.2.2.2.2.1
  have hap := F.2.2.2.2.2.2.2.2.1
  have ht := F.2.2.2.2.2.2.2.2.2.1
  have hNw := F.2.2.2.2.2.2.2.2.2.2
  obtain ⟨t, ht1⟩ := List.getElem?_of_mem (List.mem_map.mpr ⟨(q, Value.int x), k_at_mem hv, rfl⟩ : (q, k_v g (.int x)) ∈ l.map fun q => (q.1, k_v g q.2))
  exact lv_iinc hx hb (k_i_dec ht hd) hl ht1 rfl (Nat.blt_eq.mp hn) rfl (fun ls hl => k p e R s m args below meth c H locs cells slots ls Z F h1 h2 h3 h4 hP hS (k_has_put hl) hR)
theorem s_iadd {x y : Int32} (i j : Nat) (hd : k_i M i j = some (pc, .iadd, 1))  (k : k_W g d M (pc + 1) l (.int (x + y) :: st) u Q) : k_W g d M pc l (.int y :: .int x :: st) u Q := by
  intro p e R s m args below meth c H locs cells slots ls Z F h1 h2 h3 h4 hP hS hl hR
  have hx := F.1
  have hb := F.2.1
  have hown := F.2.2.2.1
  have hts := F.2.2.2.2.1
  have hK := F.2.2.2.2.2.1
  have hO := F.2.2.2.2.2.2.1
  have hZ := F.2.2.2.2.2.2.2.1
  have hap := F.2.2.2.2.2.2.2.2.1
  have ht := F.2.2.2.2.2.2.2.2.2.1
  have hNw := F.2.2.2.2.2.2.2.2.2.2
  exact lv_iadd hx hb (k_i_dec ht hd) (k p e R s m args below meth c H locs cells slots ls Z F h1 h2 h3 h4 hP hS hl hR)
theorem s_isub {x y : Int32} (i j : Nat) (hd : k_i M i j = some (pc, .isub, 1))  (k : k_W g d M (pc + 1) l (.int (x - y) :: st) u Q) : k_W g d M pc l (.int y :: .int x :: st) u Q := by
  intro p e R s m args below meth c H locs cells slots ls Z F h1 h2 h3 h4 hP hS hl hR
  have hx := F.1
  have hb := F.2.1
  have hown := F.2.2.2.1
  have hts := F.2.2.2.2.1
  have hK := F.2.2.2.2.2.1
  have hO := F.2.2.2.2.2.2.1
  have hZ := F.2.2.2.2.2.2.2.1
  have hap := F.2.2.2.2.2.2.2.2.1
  have ht := F.2.2.2.2.2.2.2.2.2.1
  have hNw := F.2.2.2.2.2.2.2.2.2.2
  exact lv_isub hx hb (k_i_dec ht hd) (k p e R s m args below meth c H locs cells slots ls Z F h1 h2 h3 h4 hP hS hl hR)
theorem s_imul {x y : Int32} (i j : Nat) (hd : k_i M i j = some (pc, .imul, 1))  (k : k_W g d M (pc + 1) l (.int (x * y) :: st) u Q) : k_W g d M pc l (.int y :: .int x :: st) u Q := by
  intro p e R s m args below meth c H locs cells slots ls Z F h1 h2 h3 h4 hP hS hl hR
  have hx := F.1
  have hb := F.2.1
  have hown := F.2.2.2.1
  have hts := F.2.2.2.2.1
  have hK := F.2.2.2.2.2.1
  have hO := F.2.2.2.2.2.2.1
  have hZ := F.2.2.2.2.2.2.2.1
  have hap := F.2.2.2.2.2.2.2.2.1
  have ht := F.2.2.2.2.2.2.2.2.2.1
  have hNw := F.2.2.2.2.2.2.2.2.2.2
  exact lv_imul hx hb (k_i_dec ht hd) (k p e R s m args below meth c H locs cells slots ls Z F h1 h2 h3 h4 hP hS hl hR)
theorem s_iand {x y : Int32} (i j : Nat) (hd : k_i M i j = some (pc, .iand, 1))  (k : k_W g d M (pc + 1) l (.int (x &&& y) :: st) u Q) : k_W g d M pc l (.int y :: .int x :: st) u Q := by
  intro p e R s m args below meth c H locs cells slots ls Z F h1 h2 h3 h4 hP hS hl hR
  have hx := F.1
  have hb := F.2.1
  have hown := F.2.2.2.1
  have hts := F.2.2.2.2.1
  have hK := F.2.2.2.2.2.1
  have hO := F.2.2.2.2.2.2.1
  have hZ := F.2.2.2.2.2.2.2.1
  have hap := F.2.2.2.2.2.2.2.2.1
  have ht := F.2.2.2.2.2.2.2.2.2.1
  have hNw := F.2.2.2.2.2.2.2.2.2.2
  exact lv_iand hx hb (k_i_dec ht hd) (k p e R s m args below meth c H locs cells slots ls Z F h1 h2 h3 h4 hP hS hl hR)
theorem s_ior {x y : Int32} (i j : Nat) (hd : k_i M i j = some (pc, .ior, 1))  (k : k_W g d M (pc + 1) l (.int (x ||| y) :: st) u Q) : k_W g d M pc l (.int y :: .int x :: st) u Q := by
  intro p e R s m args below meth c H locs cells slots ls Z F h1 h2 h3 h4 hP hS hl hR
  have hx := F.1
  have hb := F.2.1
  have hown := F.2.2.2.1
  have hts := F.2.2.2.2.1
  have hK := F.2.2.2.2.2.1
  have hO := F.2.2.2.2.2.2.1
  have hZ := F.2.2.2.2.2.2.2.1
  have hap := F.2.2.2.2.2.2.2.2.1
  have ht := F.2.2.2.2.2.2.2.2.2.1
  have hNw := F.2.2.2.2.2.2.2.2.2.2
  exact lv_ior hx hb (k_i_dec ht hd) (k p e R s m args below meth c H locs cells slots ls Z F h1 h2 h3 h4 hP hS hl hR)
theorem s_ixor {x y : Int32} (i j : Nat) (hd : k_i M i j = some (pc, .ixor, 1))  (k : k_W g d M (pc + 1) l (.int (x ^^^ y) :: st) u Q) : k_W g d M pc l (.int y :: .int x :: st) u Q := by
  intro p e R s m args below meth c H locs cells slots ls Z F h1 h2 h3 h4 hP hS hl hR
  have hx := F.1
  have hb := F.2.1
  have hown := F.2.2.2.1
  have hts := F.2.2.2.2.1
  have hK := F.2.2.2.2.2.1
  have hO := F.2.2.2.2.2.2.1
  have hZ := F.2.2.2.2.2.2.2.1
  have hap := F.2.2.2.2.2.2.2.2.1
  have ht := F.2.2.2.2.2.2.2.2.2.1
  have hNw := F.2.2.2.2.2.2.2.2.2.2
  exact lv_ixor hx hb (k_i_dec ht hd) (k p e R s m args below meth c H locs cells slots ls Z F h1 h2 h3 h4 hP hS hl hR)
theorem s_ishl {x y : Int32} (i j : Nat) (hd : k_i M i j = some (pc, .ishl, 1))  (k : k_W g d M (pc + 1) l (.int (x <<< (y &&& 31)) :: st) u Q) : k_W g d M pc l (.int y :: .int x :: st) u Q := by
  intro p e R s m args below meth c H locs cells slots ls Z F h1 h2 h3 h4 hP hS hl hR
  have hx := F.1
  have hb := F.2.1
  have hown := F.2.2.2.1
  have hts := F.2.2.2.2.1
  have hK := F.2.2.2.2.2.1
  have hO := F.2.2.2.2.2.2.1
  have hZ := F.2.2.2.2.2.2.2.1
  have hap := F.2.2.2.2.2.2.2.2.1
  have ht := F.2.2.2.2.2.2.2.2.2.1
  have hNw := F.2.2.2.2.2.2.2.2.2.2
  exact lv_ishl hx hb (k_i_dec ht hd) (k p e R s m args below meth c H locs cells slots ls Z F h1 h2 h3 h4 hP hS hl hR)
theorem s_ishr {x y : Int32} (i j : Nat) (hd : k_i M i j = some (pc, .ishr, 1))  (k : k_W g d M (pc + 1) l (.int (x >>> (y &&& 31)) :: st) u Q) : k_W g d M pc l (.int y :: .int x :: st) u Q := by
  intro p e R s m args below meth c H locs cells slots ls Z F h1 h2 h3 h4 hP hS hl hR
  have hx := F.1
  have hb := F.2.1
  have hown := F.2.2.2.1
  have hts := F.2.2.2.2.1
  have hK := F.2.2.2.2.2.1
  have hO := F.2.2.2.2.2.2.1
  have hZ := F.2.2.2.2.2.2.2.1
  have hap := F.2.2.2.2.2.2.2.2.1
  have ht := F.2.2.2.2.2.2.2.2.2.1
  have hNw := F.2.2.2.2.2.2.2.2.2.2
  exact lv_ishr hx hb (k_i_dec ht hd) (k p e R s m args below meth c H locs cells slots ls Z F h1 h2 h3 h4 hP hS hl hR)
theorem s_iushr {x y : Int32} (i j : Nat) (hd : k_i M i j = some (pc, .iushr, 1))  (k : k_W g d M (pc + 1) l (.int ((x.toUInt32 >>> (y.toUInt32 &&& Int32.toUInt32 31)).toInt32) :: st) u Q) : k_W g d M pc l (.int y :: .int x :: st) u Q := by
  intro p e R s m args below meth c H locs cells slots ls Z F h1 h2 h3 h4 hP hS hl hR
  have hx := F.1
  have hb := F.2.1
  have hown := F.2.2.2.1
  have hts := F.2.2.2.2.1
  have hK := F.2.2.2.2.2.1
  have hO := F.2.2.2.2.2.2.1
  have hZ := F.2.2.2.2.2.2.2.1
  have hap := F.2.2.2.2.2.2.2.2.1
  have ht := F.2.2.2.2.2.2.2.2.2.1
  have hNw := F.2.2.2.2.2.2.2.2.2.2
  exact lv_iushr hx hb (k_i_dec ht hd) rfl (k p e R s m args below meth c H locs cells slots ls Z F h1 h2 h3 h4 hP hS hl hR)
theorem s_ineg {x : Int32} (i j : Nat) (hd : k_i M i j = some (pc, .ineg, 1))  (k : k_W g d M (pc + 1) l (.int (-x) :: st) u Q) : k_W g d M pc l (.int x :: st) u Q := by
  intro p e R s m args below meth c H locs cells slots ls Z F h1 h2 h3 h4 hP hS hl hR
  have hx := F.1
  have hb := F.2.1
  have hown := F.2.2.2.1
  have hts := F.2.2.2.2.1
  have hK := F.2.2.2.2.2.1
  have hO := F.2.2.2.2.2.2.1
  have hZ := F.2.2.2.2.2.2.2.1
  have hap := F.2.2.2.2.2.2.2.2.1
  have ht := F.2.2.2.2.2.2.2.2.2.1
  have hNw := F.2.2.2.2.2.2.2.2.2.2
  exact lv_ineg hx hb (k_i_dec ht hd) (k p e R s m args below meth c H locs cells slots ls Z F h1 h2 h3 h4 hP hS hl hR)
theorem s_idiv {x y : Int32} (i j : Nat) (hd : k_i M i j = some (pc, .idiv, 1)) (hne : ¬ y = 0) (k : k_W g d M (pc + 1) l (.int (x / y) :: st) u Q) : k_W g d M pc l (.int y :: .int x :: st) u Q := by
  intro p e R s m args below meth c H locs cells slots ls Z F h1 h2 h3 h4 hP hS hl hR
  have hx := F.1
  have hb := F.2.1
  have hown := F.2.2.2.1
  have hts := F.2.2.2.2.1
  have hK := F.2.2.2.2.2.1
  have hO := F.2.2.2.2.2.2.1
  have hZ := F.2.2.2.2.2.2.2.1
  have hap := F.2.2.2.2.2.2.2.2.1
  have ht := F.2.2.2.2.2.2.2.2.2.1
  have hNw := F.2.2.2.2.2.2.2.2.2.2
  exact lv_idiv hx hb (k_i_dec ht hd) hne (k p e R s m args below meth c H locs cells slots ls Z F h1 h2 h3 h4 hP hS hl hR)
theorem s_irem {x y : Int32} (i j : Nat) (hd : k_i M i j = some (pc, .irem, 1)) (hne : ¬ y = 0) (k : k_W g d M (pc + 1) l (.int (x % y) :: st) u Q) : k_W g d M pc l (.int y :: .int x :: st) u Q := by
  intro p e R s m args below meth c H locs cells slots ls Z F h1 h2 h3 h4 hP hS hl hR
  have hx := F.1
  have hb := F.2.1
  have hown := F.2.2.2.1
  have hts := F.2.2.2.2.1
  have hK := F.2.2.2.2.2.1
  have hO := F.2.2.2.2.2.2.1
  have hZ := F.2.2.2.2.2.2.2.1
  have hap := F.2.2.2.2.2.2.2.2.1
  have ht := F.2.2.2.2.2.2.2.2.2.1
  have hNw := F.2.2.2.2.2.2.2.2.2.2
  refine lv_irem hx hb (k_i_dec ht hd) hne ?_
  rw [irem_eq_mod]
  exact (k p e R s m args below meth c H locs cells slots ls Z F h1 h2 h3 h4 hP hS hl hR)
theorem s_ladd {x y : Int64} (i j : Nat) (hd : k_i M i j = some (pc, .ladd, 1))  (k : k_W g d M (pc + 1) l (.long (x + y) :: st) u Q) : k_W g d M pc l (.long y :: .long x :: st) u Q := by
  intro p e R s m args below meth c H locs cells slots ls Z F h1 h2 h3 h4 hP hS hl hR
  have hx := F.1
  have hb := F.2.1
  have hown := F.2.2.2.1
  have hts := F.2.2.2.2.1
  have hK := F.2.2.2.2.2.1
  have hO := F.2.2.2.2.2.2.1
  have hZ := F.2.2.2.2.2.2.2.1
  have hap := F.2.2.2.2.2.2.2.2.1
  have ht := F.2.2.2.2.2.2.2.2.2.1
  have hNw := F.2.2.2.2.2.2.2.2.2.2
  exact lv_ladd hx hb (k_i_dec ht hd) (k p e R s m args below meth c H locs cells slots ls Z F h1 h2 h3 h4 hP hS hl hR)
theorem s_land {x y : Int64} (i j : Nat) (hd : k_i M i j = some (pc, .land, 1))  (k : k_W g d M (pc + 1) l (.long (x &&& y) :: st) u Q) : k_W g d M pc l (.long y :: .long x :: st) u Q := by
  intro p e R s m args below meth c H locs cells slots ls Z F h1 h2 h3 h4 hP hS hl hR
  have hx := F.1
  have hb := F.2.1
  have hown := F.2.2.2.1
  have hts := F.2.2.2.2.1
  have hK := F.2.2.2.2.2.1
  have hO := F.2.2.2.2.2.2.1
  have hZ := F.2.2.2.2.2.2.2.1
  have hap := F.2.2.2.2.2.2.2.2.1
  have ht := F.2.2.2.2.2.2.2.2.2.1
  have hNw := F.2.2.2.2.2.2.2.2.2.2
  exact lv_land hx hb (k_i_dec ht hd) (k p e R s m args below meth c H locs cells slots ls Z F h1 h2 h3 h4 hP hS hl hR)
theorem s_lor {x y : Int64} (i j : Nat) (hd : k_i M i j = some (pc, .lor, 1))  (k : k_W g d M (pc + 1) l (.long (x ||| y) :: st) u Q) : k_W g d M pc l (.long y :: .long x :: st) u Q := by
  intro p e R s m args below meth c H locs cells slots ls Z F h1 h2 h3 h4 hP hS hl hR
  have hx := F.1
  have hb := F.2.1
  have hown := F.2.2.2.1
  have hts := F.2.2.2.2.1
  have hK := F.2.2.2.2.2.1
  have hO := F.2.2.2.2.2.2.1
  have hZ := F.2.2.2.2.2.2.2.1
  have hap := F.2.2.2.2.2.2.2.2.1
  have ht := F.2.2.2.2.2.2.2.2.2.1
  have hNw := F.2.2.2.2.2.2.2.2.2.2
  exact lv_lor hx hb (k_i_dec ht hd) (k p e R s m args below meth c H locs cells slots ls Z F h1 h2 h3 h4 hP hS hl hR)
theorem s_lsub {x y : Int64} (i j : Nat) (hd : k_i M i j = some (pc, .lsub, 1))  (k : k_W g d M (pc + 1) l (.long (x - y) :: st) u Q) : k_W g d M pc l (.long y :: .long x :: st) u Q := by
  intro p e R s m args below meth c H locs cells slots ls Z F h1 h2 h3 h4 hP hS hl hR
  have hx := F.1
  have hb := F.2.1
  have hown := F.2.2.2.1
  have hts := F.2.2.2.2.1
  have hK := F.2.2.2.2.2.1
  have hO := F.2.2.2.2.2.2.1
  have hZ := F.2.2.2.2.2.2.2.1
  have hap := F.2.2.2.2.2.2.2.2.1
  have ht := F.2.2.2.2.2.2.2.2.2.1
  have hNw := F.2.2.2.2.2.2.2.2.2.2
  exact lv_lsub hx hb (k_i_dec ht hd) (k p e R s m args below meth c H locs cells slots ls Z F h1 h2 h3 h4 hP hS hl hR)
theorem s_lmul {x y : Int64} (i j : Nat) (hd : k_i M i j = some (pc, .lmul, 1))  (k : k_W g d M (pc + 1) l (.long (x * y) :: st) u Q) : k_W g d M pc l (.long y :: .long x :: st) u Q := by
  intro p e R s m args below meth c H locs cells slots ls Z F h1 h2 h3 h4 hP hS hl hR
  have hx := F.1
  have hb := F.2.1
  have hown := F.2.2.2.1
  have hts := F.2.2.2.2.1
  have hK := F.2.2.2.2.2.1
  have hO := F.2.2.2.2.2.2.1
  have hZ := F.2.2.2.2.2.2.2.1
  have hap := F.2.2.2.2.2.2.2.2.1
  have ht := F.2.2.2.2.2.2.2.2.2.1
  have hNw := F.2.2.2.2.2.2.2.2.2.2
  exact lv_lmul hx hb (k_i_dec ht hd) (k p e R s m args below meth c H locs cells slots ls Z F h1 h2 h3 h4 hP hS hl hR)
theorem s_lshl {x : Int64} {y : Int32} (i j : Nat) (hd : k_i M i j = some (pc, .lshl, 1))  (k : k_W g d M (pc + 1) l (.long (x <<< (y.toInt64 &&& 63)) :: st) u Q) : k_W g d M pc l (.int y :: .long x :: st) u Q := by
  intro p e R s m args below meth c H locs cells slots ls Z F h1 h2 h3 h4 hP hS hl hR
  have hx := F.1
  have hb := F.2.1
  have hown := F.2.2.2.1
  have hts := F.2.2.2.2.1
  have hK := F.2.2.2.2.2.1
  have hO := F.2.2.2.2.2.2.1
  have hZ := F.2.2.2.2.2.2.2.1
  have hap := F.2.2.2.2.2.2.2.2.1
  have ht := F.2.2.2.2.2.2.2.2.2.1
  have hNw := F.2.2.2.2.2.2.2.2.2.2
  exact lv_lshl hx hb (k_i_dec ht hd) rfl (k p e R s m args below meth c H locs cells slots ls Z F h1 h2 h3 h4 hP hS hl hR)
theorem s_lcmp {x y : Int64} (i j : Nat) (hd : k_i M i j = some (pc, .lcmp, 1))  (k : k_W g d M (pc + 1) l (.int (lg_cmp x y) :: st) u Q) : k_W g d M pc l (.long y :: .long x :: st) u Q := by
  intro p e R s m args below meth c H locs cells slots ls Z F h1 h2 h3 h4 hP hS hl hR
  have hx := F.1
  have hb := F.2.1
  have hown := F.2.2.2.1
  have hts := F.2.2.2.2.1
  have hK := F.2.2.2.2.2.1
  have hO := F.2.2.2.2.2.2.1
  have hZ := F.2.2.2.2.2.2.2.1
  have hap := F.2.2.2.2.2.2.2.2.1
  have ht := F.2.2.2.2.2.2.2.2.2.1
  have hNw := F.2.2.2.2.2.2.2.2.2.2
  exact W.lcmp hx hb (k_i_dec ht hd) (k p e R s m args below meth c H locs cells slots ls Z F h1 h2 h3 h4 hP hS hl hR)
theorem s_i2l {x : Int32} (i j : Nat) (hd : k_i M i j = some (pc, .i2l, 1))  (k : k_W g d M (pc + 1) l (.long x.toInt64 :: st) u Q) : k_W g d M pc l (.int x :: st) u Q := by
  intro p e R s m args below meth c H locs cells slots ls Z F h1 h2 h3 h4 hP hS hl hR
  have hx := F.1
  have hb := F.2.1
  have hown := F.2.2.2.1
  have hts := F.2.2.2.2.1
  have hK := F.2.2.2.2.2.1
  have hO := F.2.2.2.2.2.2.1
  have hZ := F.2.2.2.2.2.2.2.1
  have hap := F.2.2.2.2.2.2.2.2.1
  have ht := F.2.2.2.2.2.2.2.2.2.1
  have hNw := F.2.2.2.2.2.2.2.2.2.2
  exact lv_i2l hx hb (k_i_dec ht hd) rfl (k p e R s m args below meth c H locs cells slots ls Z F h1 h2 h3 h4 hP hS hl hR)
theorem s_l2i {x : Int64} (i j : Nat) (hd : k_i M i j = some (pc, .l2i, 1))  (k : k_W g d M (pc + 1) l (.int x.toInt32 :: st) u Q) : k_W g d M pc l (.long x :: st) u Q := by
  intro p e R s m args below meth c H locs cells slots ls Z F h1 h2 h3 h4 hP hS hl hR
  have hx := F.1
  have hb := F.2.1
  have hown := F.2.2.2.1
  have hts := F.2.2.2.2.1
  have hK := F.2.2.2.2.2.1
  have hO := F.2.2.2.2.2.2.1
  have hZ := F.2.2.2.2.2.2.2.1
  have hap := F.2.2.2.2.2.2.2.2.1
  have ht := F.2.2.2.2.2.2.2.2.2.1
  have hNw := F.2.2.2.2.2.2.2.2.2.2
  exact lv_l2i hx hb (k_i_dec ht hd) rfl (k p e R s m args below meth c H locs cells slots ls Z F h1 h2 h3 h4 hP hS hl hR)
theorem s_i2b {x : Int32} (i j : Nat) (hd : k_i M i j = some (pc, .i2b, 1))  (k : k_W g d M (pc + 1) l (.int x.toInt8.toInt32 :: st) u Q) : k_W g d M pc l (.int x :: st) u Q := by
  intro p e R s m args below meth c H locs cells slots ls Z F h1 h2 h3 h4 hP hS hl hR
  have hx := F.1
  have hb := F.2.1
  have hown := F.2.2.2.1
  have hts := F.2.2.2.2.1
  have hK := F.2.2.2.2.2.1
  have hO := F.2.2.2.2.2.2.1
  have hZ := F.2.2.2.2.2.2.2.1
  have hap := F.2.2.2.2.2.2.2.2.1
  have ht := F.2.2.2.2.2.2.2.2.2.1
  have hNw := F.2.2.2.2.2.2.2.2.2.2
  exact lv_i2b hx hb (k_i_dec ht hd) rfl (k p e R s m args below meth c H locs cells slots ls Z F h1 h2 h3 h4 hP hS hl hR)
theorem s_i2s {x : Int32} (i j : Nat) (hd : k_i M i j = some (pc, .i2s, 1))  (k : k_W g d M (pc + 1) l (.int x.toInt16.toInt32 :: st) u Q) : k_W g d M pc l (.int x :: st) u Q := by
  intro p e R s m args below meth c H locs cells slots ls Z F h1 h2 h3 h4 hP hS hl hR
  have hx := F.1
  have hb := F.2.1
  have hown := F.2.2.2.1
  have hts := F.2.2.2.2.1
  have hK := F.2.2.2.2.2.1
  have hO := F.2.2.2.2.2.2.1
  have hZ := F.2.2.2.2.2.2.2.1
  have hap := F.2.2.2.2.2.2.2.2.1
  have ht := F.2.2.2.2.2.2.2.2.2.1
  have hNw := F.2.2.2.2.2.2.2.2.2.2
  exact lv_i2s hx hb (k_i_dec ht hd) rfl (k p e R s m args below meth c H locs cells slots ls Z F h1 h2 h3 h4 hP hS hl hR)
theorem s_dupi {x : Int32} (i j : Nat) (hd : k_i M i j = some (pc, .dup, 1))  (k : k_W g d M (pc + 1) l (.int x :: .int x :: st) u Q) : k_W g d M pc l (.int x :: st) u Q := by
  intro p e R s m args below meth c H locs cells slots ls Z F h1 h2 h3 h4 hP hS hl hR
  have hx := F.1
  have hb := F.2.1
  have hown := F.2.2.2.1
  have hts := F.2.2.2.2.1
  have hK := F.2.2.2.2.2.1
  have hO := F.2.2.2.2.2.2.1
  have hZ := F.2.2.2.2.2.2.2.1
  have hap := F.2.2.2.2.2.2.2.2.1
  have ht := F.2.2.2.2.2.2.2.2.2.1
  have hNw := F.2.2.2.2.2.2.2.2.2.2
  exact lv_dup hx hb (k_i_dec ht hd) rfl (k p e R s m args below meth c H locs cells slots ls Z F h1 h2 h3 h4 hP hS hl hR)
theorem s_popi {x : Int32} (i j : Nat) (hd : k_i M i j = some (pc, .pop, 1))  (k : k_W g d M (pc + 1) l (st) u Q) : k_W g d M pc l (.int x :: st) u Q := by
  intro p e R s m args below meth c H locs cells slots ls Z F h1 h2 h3 h4 hP hS hl hR
  have hx := F.1
  have hb := F.2.1
  have hown := F.2.2.2.1
  have hts := F.2.2.2.2.1
  have hK := F.2.2.2.2.2.1
  have hO := F.2.2.2.2.2.2.1
  have hZ := F.2.2.2.2.2.2.2.1
  have hap := F.2.2.2.2.2.2.2.2.1
  have ht := F.2.2.2.2.2.2.2.2.2.1
  have hNw := F.2.2.2.2.2.2.2.2.2.2
  exact lv_pop hx hb (k_i_dec ht hd) rfl (k p e R s m args below meth c H locs cells slots ls Z F h1 h2 h3 h4 hP hS hl hR)
theorem s_dupr {x : Nat} (i j : Nat) (hd : k_i M i j = some (pc, .dup, 1))  (k : k_W g d M (pc + 1) l (.ref x :: .ref x :: st) u Q) : k_W g d M pc l (.ref x :: st) u Q := by
  intro p e R s m args below meth c H locs cells slots ls Z F h1 h2 h3 h4 hP hS hl hR
  have hx := F.1
  have hb := F.2.1
  have hown := F.2.2.2.1
  have hts := F.2.2.2.2.1
  have hK := F.2.2.2.2.2.1
  have hO := F.2.2.2.2.2.2.1
  have hZ := F.2.2.2.2.2.2.2.1
  have hap := F.2.2.2.2.2.2.2.2.1
  have ht := F.2.2.2.2.2.2.2.2.2.1
  have hNw := F.2.2.2.2.2.2.2.2.2.2
  exact lv_dup hx hb (k_i_dec ht hd) rfl (k p e R s m args below meth c H locs cells slots ls Z F h1 h2 h3 h4 hP hS hl hR)
theorem s_popr {x : Nat} (i j : Nat) (hd : k_i M i j = some (pc, .pop, 1))  (k : k_W g d M (pc + 1) l (st) u Q) : k_W g d M pc l (.ref x :: st) u Q := by
  intro p e R s m args below meth c H locs cells slots ls Z F h1 h2 h3 h4 hP hS hl hR
  have hx := F.1
  have hb := F.2.1
  have hown := F.2.2.2.1
  have hts := F.2.2.2.2.1
  have hK := F.2.2.2.2.2.1
  have hO := F.2.2.2.2.2.2.1
  have hZ := F.2.2.2.2.2.2.2.1
  have hap := F.2.2.2.2.2.2.2.2.1
  have ht := F.2.2.2.2.2.2.2.2.2.1
  have hNw := F.2.2.2.2.2.2.2.2.2.2
  exact lv_pop hx hb (k_i_dec ht hd) rfl (k p e R s m args below meth c H locs cells slots ls Z F h1 h2 h3 h4 hP hS hl hR)
theorem s_pop2 {x : Int64} (i j : Nat) (hd : k_i M i j = some (pc, .pop2, 1))  (k : k_W g d M (pc + 1) l (st) u Q) : k_W g d M pc l (.long x :: st) u Q := by
  intro p e R s m args below meth c H locs cells slots ls Z F h1 h2 h3 h4 hP hS hl hR
  have hx := F.1
  have hb := F.2.1
  have hown := F.2.2.2.1
  have hts := F.2.2.2.2.1
  have hK := F.2.2.2.2.2.1
  have hO := F.2.2.2.2.2.2.1
  have hZ := F.2.2.2.2.2.2.2.1
  have hap := F.2.2.2.2.2.2.2.2.1
  have ht := F.2.2.2.2.2.2.2.2.2.1
  have hNw := F.2.2.2.2.2.2.2.2.2.2
  exact lv_pop2_2 hx hb (k_i_dec ht hd) rfl (k p e R s m args below meth c H locs cells slots ls Z F h1 h2 h3 h4 hP hS hl hR)
theorem s_dup2 {x : Int32} {a : Nat} (i j : Nat) (hd : k_i M i j = some (pc, .dup2, 1))  (k : k_W g d M (pc + 1) l (.int x :: .ref a :: .int x :: .ref a :: st) u Q) : k_W g d M pc l (.int x :: .ref a :: st) u Q := by
  intro p e R s m args below meth c H locs cells slots ls Z F h1 h2 h3 h4 hP hS hl hR
  have hx := F.1
  have hb := F.2.1
  have hown := F.2.2.2.1
  have hts := F.2.2.2.2.1
  have hK := F.2.2.2.2.2.1
  have hO := F.2.2.2.2.2.2.1
  have hZ := F.2.2.2.2.2.2.2.1
  have hap := F.2.2.2.2.2.2.2.2.1
  have ht := F.2.2.2.2.2.2.2.2.2.1
  have hNw := F.2.2.2.2.2.2.2.2.2.2
  exact lv_dup2_11 hx hb (k_i_dec ht hd) rfl rfl (k p e R s m args below meth c H locs cells slots ls Z F h1 h2 h3 h4 hP hS hl hR)
theorem s_if_eq {α : Type} {QQ : α → k_S → Prop} {A B : Option (α × k_S)} {x : Int32} {off : Int} (i j tgt : Nat) (hd : k_i M i j = some (pc, .ifCond .eq off, 3)) (hg : (pc : Int) + off = (tgt : Int)) (HH : k_sat (if x = 0 then A else B) QQ) (kt : x = 0 → k_sat A QQ → k_W g d M tgt l st u Q) (kf : ¬ x = 0 → k_sat B QQ → k_W g d M (pc + 3) l st u Q) : k_W g d M pc l (.int x :: st) u Q := by
  intro p e R s m args below meth c H locs cells slots ls Z F h1 h2 h3 h4 hP hS hl hR
  have hx := F.1
  have hb := F.2.1
  have hown := F.2.2.2.1
  have hts := F.2.2.2.2.1
  have hK := F.2.2.2.2.2.1
  have hO := F.2.2.2.2.2.2.1
  have hZ := F.2.2.2.2.2.2.2.1
  have hap := F.2.2.2.2.2.2.2.2.1
  have ht := F.2.2.2.2.2.2.2.2.2.1
  have hNw := F.2.2.2.2.2.2.2.2.2.2
  exact lv_if_eq hx hb (k_i_dec ht hd) hg (fun hc => kt hc (k_sat_pos HH hc) p e R s m args below meth c H locs cells slots ls Z F h1 h2 h3 h4 hP hS hl hR) (fun hc => kf hc (k_sat_neg HH hc) p e R s m args below meth c H locs cells slots ls Z F h1 h2 h3 h4 hP hS hl hR)
theorem s_if_ne {α : Type} {QQ : α → k_S → Prop} {A B : Option (α × k_S)} {x : Int32} {off : Int} (i j tgt : Nat) (hd : k_i M i j = some (pc, .ifCond .ne off, 3)) (hg : (pc : Int) + off = (tgt : Int)) (HH : k_sat (if x = 0 then B else A) QQ) (kt : ¬ x = 0 → k_sat A QQ → k_W g d M tgt l st u Q) (kf : x = 0 → k_sat B QQ → k_W g d M (pc + 3) l st u Q) : k_W g d M pc l (.int x :: st) u Q := by
  intro p e R s m args below meth c H locs cells slots ls Z F h1 h2 h3 h4 hP hS hl hR
  have hx := F.1
  have hb := F.2.1
  have hown := F.2.2.2.1
  have hts := F.2.2.2.2.1
  have hK := F.2.2.2.2.2.1
  have hO := F.2.2.2.2.2.2.1
  have hZ := F.2.2.2.2.2.2.2.1
  have hap := F.2.2.2.2.2.2.2.2.1
  have ht := F.2.2.2.2.2.2.2.2.2.1
  have hNw := F.2.2.2.2.2.2.2.2.2.2
  exact lv_if_ne hx hb (k_i_dec ht hd) hg (fun hc => kt hc (k_sat_neg HH hc) p e R s m args below meth c H locs cells slots ls Z F h1 h2 h3 h4 hP hS hl hR) (fun hc => kf hc (k_sat_pos HH hc) p e R s m args below meth c H locs cells slots ls Z F h1 h2 h3 h4 hP hS hl hR)
theorem s_if_lt {α : Type} {QQ : α → k_S → Prop} {A B : Option (α × k_S)} {x : Int32} {off : Int} (i j tgt : Nat) (hd : k_i M i j = some (pc, .ifCond .lt off, 3)) (hg : (pc : Int) + off = (tgt : Int)) (HH : k_sat (if x < 0 then A else B) QQ) (kt : x < 0 → k_sat A QQ → k_W g d M tgt l st u Q) (kf : ¬ x < 0 → k_sat B QQ → k_W g d M (pc + 3) l st u Q) : k_W g d M pc l (.int x :: st) u Q := by
  intro p e R s m args below meth c H locs cells slots ls Z F h1 h2 h3 h4 hP hS hl hR
  have hx := F.1
  have hb := F.2.1
  have hown := F.2.2.2.1
  have hts := F.2.2.2.2.1
  have hK := F.2.2.2.2.2.1
  have hO := F.2.2.2.2.2.2.1
  have hZ := F.2.2.2.2.2.2.2.1
  have hap := F.2.2.2.2.2.2.2.2.1
  have ht := F.2.2.2.2.2.2.2.2.2.1
  have hNw := F.2.2.2.2.2.2.2.2.2.2
  exact lv_if_lt hx hb (k_i_dec ht hd) hg (fun hc => kt hc (k_sat_pos HH hc) p e R s m args below meth c H locs cells slots ls Z F h1 h2 h3 h4 hP hS hl hR) (fun hc => kf hc (k_sat_neg HH hc) p e R s m args below meth c H locs cells slots ls Z F h1 h2 h3 h4 hP hS hl hR)
theorem s_if_ge {α : Type} {QQ : α → k_S → Prop} {A B : Option (α × k_S)} {x : Int32} {off : Int} (i j tgt : Nat) (hd : k_i M i j = some (pc, .ifCond .ge off, 3)) (hg : (pc : Int) + off = (tgt : Int)) (HH : k_sat (if 0 ≤ x then A else B) QQ) (kt : 0 ≤ x → k_sat A QQ → k_W g d M tgt l st u Q) (kf : ¬ 0 ≤ x → k_sat B QQ → k_W g d M (pc + 3) l st u Q) : k_W g d M pc l (.int x :: st) u Q := by
  intro p e R s m args below meth c H locs cells slots ls Z F h1 h2 h3 h4 hP hS hl hR
  have hx := F.1
  have hb := F.2.1
  have hown := F.2.2.2.1
  have hts := F.2.2.2.2.1
  have hK := F.2.2.2.2.2.1
  have hO := F.2.2.2.2.2.2.1
  have hZ := F.2.2.2.2.2.2.2.1
  have hap := F.2.2.2.2.2.2.2.2.1
  have ht := F.2.2.2.2.2.2.2.2.2.1
  have hNw := F.2.2.2.2.2.2.2.2.2.2
  exact lv_if_ge hx hb (k_i_dec ht hd) hg (fun hc => kt hc (k_sat_pos HH hc) p e R s m args below meth c H locs cells slots ls Z F h1 h2 h3 h4 hP hS hl hR) (fun hc => kf hc (k_sat_neg HH hc) p e R s m args below meth c H locs cells slots ls Z F h1 h2 h3 h4 hP hS hl hR)
theorem s_if_gt {α : Type} {QQ : α → k_S → Prop} {A B : Option (α × k_S)} {x : Int32} {off : Int} (i j tgt : Nat) (hd : k_i M i j = some (pc, .ifCond .gt off, 3)) (hg : (pc : Int) + off = (tgt : Int)) (HH : k_sat (if 0 < x then A else B) QQ) (kt : 0 < x → k_sat A QQ → k_W g d M tgt l st u Q) (kf : ¬ 0 < x → k_sat B QQ → k_W g d M (pc + 3) l st u Q) : k_W g d M pc l (.int x :: st) u Q := by
  intro p e R s m args below meth c H locs cells slots ls Z F h1 h2 h3 h4 hP hS hl hR
  have hx := F.1
  have hb := F.2.1
  have hown := F.2.2.2.1
  have hts := F.2.2.2.2.1
  have hK := F.2.2.2.2.2.1
  have hO := F.2.2.2.2.2.2.1
  have hZ := F.2.2.2.2.2.2.2.1
  have hap := F.2.2.2.2.2.2.2.2.1
  have ht := F.2.2.2.2.2.2.2.2.2.1
  have hNw := F.2.2.2.2.2.2.2.2.2.2
  exact lv_if_gt hx hb (k_i_dec ht hd) hg (fun hc => kt hc (k_sat_pos HH hc) p e R s m args below meth c H locs cells slots ls Z F h1 h2 h3 h4 hP hS hl hR) (fun hc => kf hc (k_sat_neg HH hc) p e R s m args below meth c H locs cells slots ls Z F h1 h2 h3 h4 hP hS hl hR)
theorem s_if_le {α : Type} {QQ : α → k_S → Prop} {A B : Option (α × k_S)} {x : Int32} {off : Int} (i j tgt : Nat) (hd : k_i M i j = some (pc, .ifCond .le off, 3)) (hg : (pc : Int) + off = (tgt : Int)) (HH : k_sat (if x ≤ 0 then A else B) QQ) (kt : x ≤ 0 → k_sat A QQ → k_W g d M tgt l st u Q) (kf : ¬ x ≤ 0 → k_sat B QQ → k_W g d M (pc + 3) l st u Q) : k_W g d M pc l (.int x :: st) u Q := by
  intro p e R s m args below meth c H locs cells slots ls Z F h1 h2 h3 h4 hP hS hl hR
  have hx := F.1
  have hb := F.2.1
  have hown := F.2.2.2.1
  have hts := F.2.2.2.2.1
  have hK := F.2.2.2.2.2.1
  have hO := F.2.2.2.2.2.2.1
  have hZ := F.2.2.2.2.2.2.2.1
  have hap := F.2.2.2.2.2.2.2.2.1
  have ht := F.2.2.2.2.2.2.2.2.2.1
  have hNw := F.2.2.2.2.2.2.2.2.2.2
  exact lv_if_le hx hb (k_i_dec ht hd) hg (fun hc => kt hc (k_sat_pos HH hc) p e R s m args below meth c H locs cells slots ls Z F h1 h2 h3 h4 hP hS hl hR) (fun hc => kf hc (k_sat_neg HH hc) p e R s m args below meth c H locs cells slots ls Z F h1 h2 h3 h4 hP hS hl hR)
theorem s_icmp_eq {α : Type} {QQ : α → k_S → Prop} {A B : Option (α × k_S)} {x y : Int32} {off : Int} (i j tgt : Nat) (hd : k_i M i j = some (pc, .if_icmp .eq off, 3)) (hg : (pc : Int) + off = (tgt : Int)) (HH : k_sat (if x = y then A else B) QQ) (kt : x = y → k_sat A QQ → k_W g d M tgt l st u Q) (kf : ¬ x = y → k_sat B QQ → k_W g d M (pc + 3) l st u Q) : k_W g d M pc l (.int y :: .int x :: st) u Q := by
  intro p e R s m args below meth c H locs cells slots ls Z F h1 h2 h3 h4 hP hS hl hR
  have hx := F.1
  have hb := F.2.1
  have hown := F.2.2.2.1
  have hts := F.2.2.2.2.1
  have hK := F.2.2.2.2.2.1
  have hO := F.2.2.2.2.2.2.1
  have hZ := F.2.2.2.2.2.2.2.1
  have hap := F.2.2.2.2.2.2.2.2.1
  have ht := F.2.2.2.2.2.2.2.2.2.1
  have hNw := F.2.2.2.2.2.2.2.2.2.2
  exact lv_icmp_eq hx hb (k_i_dec ht hd) hg (fun hc => kt hc (k_sat_pos HH hc) p e R s m args below meth c H locs cells slots ls Z F h1 h2 h3 h4 hP hS hl hR) (fun hc => kf hc (k_sat_neg HH hc) p e R s m args below meth c H locs cells slots ls Z F h1 h2 h3 h4 hP hS hl hR)
theorem s_icmp_ne {α : Type} {QQ : α → k_S → Prop} {A B : Option (α × k_S)} {x y : Int32} {off : Int} (i j tgt : Nat) (hd : k_i M i j = some (pc, .if_icmp .ne off, 3)) (hg : (pc : Int) + off = (tgt : Int)) (HH : k_sat (if x = y then B else A) QQ) (kt : ¬ x = y → k_sat A QQ → k_W g d M tgt l st u Q) (kf : x = y → k_sat B QQ → k_W g d M (pc + 3) l st u Q) : k_W g d M pc l (.int y :: .int x :: st) u Q := by
  intro p e R s m args below meth c H locs cells slots ls Z F h1 h2 h3 h4 hP hS hl hR
  have hx := F.1
  have hb := F.2.1
  have hown := F.2.2.2.1
  have hts := F.2.2.2.2.1
  have hK := F.2.2.2.2.2.1
  have hO := F.2.2.2.2.2.2.1
  have hZ := F.2.2.2.2.2.2.2.1
  have hap := F.2.2.2.2.2.2.2.2.1
  have ht := F.2.2.2.2.2.2.2.2.2.1
  have hNw := F.2.2.2.2.2.2.2.2.2.2
  exact lv_icmp_ne hx hb (k_i_dec ht hd) hg (fun hc => kt hc (k_sat_neg HH hc) p e R s m args below meth c H locs cells slots ls Z F h1 h2 h3 h4 hP hS hl hR) (fun hc => kf hc (k_sat_pos HH hc) p e R s m args below meth c H locs cells slots ls Z F h1 h2 h3 h4 hP hS hl hR)
theorem s_icmp_lt {α : Type} {QQ : α → k_S → Prop} {A B : Option (α × k_S)} {x y : Int32} {off : Int} (i j tgt : Nat) (hd : k_i M i j = some (pc, .if_icmp .lt off, 3)) (hg : (pc : Int) + off = (tgt : Int)) (HH : k_sat (if x < y then A else B) QQ) (kt : x < y → k_sat A QQ → k_W g d M tgt l st u Q) (kf : ¬ x < y → k_sat B QQ → k_W g d M (pc + 3) l st u Q) : k_W g d M pc l (.int y :: .int x :: st) u Q := by
  intro p e R s m args below meth c H locs cells slots ls Z F h1 h2 h3 h4 hP hS hl hR
  have hx := F.1
  have hb := F.2.1
  have hown := F.2.2.2.1
  have hts := F.2.2.2.2.1
  have hK := F.2.2.2.2.2.1
  have hO := F.2.2.2.2.2.2.1
  have hZ := F.2.2.2.2.2.2.2.1
  have hap := F.2.2.2.2.2.2.2.2.1
  have ht := F.2.2.2.2.2.2.2.2.2.1
  have hNw := F.2.2.2.2.2.2.2.2.2.2
  exact lv_icmp_lt hx hb (k_i_dec ht hd) hg (fun hc => kt hc (k_sat_pos HH hc) p e R s m args below meth c H locs cells slots ls Z F h1 h2 h3 h4 hP hS hl hR) (fun hc => kf hc (k_sat_neg HH hc) p e R s m args below meth c H locs cells slots ls Z F h1 h2 h3 h4 hP hS hl hR)
theorem s_icmp_ge {α : Type} {QQ : α → k_S → Prop} {A B : Option (α × k_S)} {x y : Int32} {off : Int} (i j tgt : Nat) (hd : k_i M i j = some (pc, .if_icmp .ge off, 3)) (hg : (pc : Int) + off = (tgt : Int)) (HH : k_sat (if y ≤ x then A else B) QQ) (kt : y ≤ x → k_sat A QQ → k_W g d M tgt l st u Q) (kf : ¬ y ≤ x → k_sat B QQ → k_W g d M (pc + 3) l st u Q) : k_W g d M pc l (.int y :: .int x :: st) u Q := by
  intro p e R s m args below meth c H locs cells slots ls Z F h1 h2 h3 h4 hP hS hl hR
  have hx := F.1
  have hb := F.2.1
  have hown := F.2.2.2.1
  have hts := F.2.2.2.2.1
  have hK := F.2.2.2.2.2.1
  have hO := F.2.2.2.2.2.2.1
  have hZ := F.2.2.2.2.2.2.2.1
  have hap := F.2.2.2.2.2.2.2.2.1
  have ht := F.2.2.2.2.2.2.2.2.2.1
  have hNw := F.2.2.2.2.2.2.2.2.2.2
  exact lv_icmp_ge hx hb (k_i_dec ht hd) hg (fun hc => kt hc (k_sat_pos HH hc) p e R s m args below meth c H locs cells slots ls Z F h1 h2 h3 h4 hP hS hl hR) (fun hc => kf hc (k_sat_neg HH hc) p e R s m args below meth c H locs cells slots ls Z F h1 h2 h3 h4 hP hS hl hR)
theorem s_icmp_gt {α : Type} {QQ : α → k_S → Prop} {A B : Option (α × k_S)} {x y : Int32} {off : Int} (i j tgt : Nat) (hd : k_i M i j = some (pc, .if_icmp .gt off, 3)) (hg : (pc : Int) + off = (tgt : Int)) (HH : k_sat (if y < x then A else B) QQ) (kt : y < x → k_sat A QQ → k_W g d M tgt l st u Q) (kf : ¬ y < x → k_sat B QQ → k_W g d M (pc + 3) l st u Q) : k_W g d M pc l (.int y :: .int x :: st) u Q := by
  intro p e R s m args below meth c H locs cells slots ls Z F h1 h2 h3 h4 hP hS hl hR
  have hx := F.1
  have hb := F.2.1
  have hown := F.2.2.2.1
  have hts := F.2.2.2.2.1
  have hK := F.2.2.2.2.2.1
  have hO := F.2.2.2.2.2.2.1
  have hZ := F.2.2.2.2.2.2.2.1
  have hap := F.2.2.2.2.2.2.2.2.1
  have ht := F.2.2.2.2.2.2.2.2.2.1
  have hNw := F.2.2.2.2.2.2.2.2.2.2
  exact lv_icmp_gt hx hb (k_i_dec ht hd) hg (fun hc => kt hc (k_sat_pos HH hc) p e R s m args below meth c H locs cells slots ls Z F h1 h2 h3 h4 hP hS hl hR) (fun hc => kf hc (k_sat_neg HH hc) p e R s m args below meth c H locs cells slots ls Z F h1 h2 h3 h4 hP hS hl hR)
theorem s_icmp_le {α : Type} {QQ : α → k_S → Prop} {A B : Option (α × k_S)} {x y : Int32} {off : Int} (i j tgt : Nat) (hd : k_i M i j = some (pc, .if_icmp .le off, 3)) (hg : (pc : Int) + off = (tgt : Int)) (HH : k_sat (if x ≤ y then A else B) QQ) (kt : x ≤ y → k_sat A QQ → k_W g d M tgt l st u Q) (kf : ¬ x ≤ y → k_sat B QQ → k_W g d M (pc + 3) l st u Q) : k_W g d M pc l (.int y :: .int x :: st) u Q := by
  intro p e R s m args below meth c H locs cells slots ls Z F h1 h2 h3 h4 hP hS hl hR
  have hx := F.1
  have hb := F.2.1
  have hown := F.2.2.2.1
  have hts := F.2.2.2.2.1
  have hK := F.2.2.2.2.2.1
  have hO := F.2.2.2.2.2.2.1
  have hZ := F.2.2.2.2.2.2.2.1
  have hap := F.2.2.2.2.2.2.2.2.1
  have ht := F.2.2.2.2.2.2.2.2.2.1
  have hNw := F.2.2.2.2.2.2.2.2.2.2
  exact lv_icmp_le hx hb (k_i_dec ht hd) hg (fun hc => kt hc (k_sat_pos HH hc) p e R s m args below meth c H locs cells slots ls Z F h1 h2 h3 h4 hP hS hl hR) (fun hc => kf hc (k_sat_neg HH hc) p e R s m args below meth c H locs cells slots ls Z F h1 h2 h3 h4 hP hS hl hR)
theorem s_goto {off : Int} (i j tgt : Nat) (hd : k_i M i j = some (pc, .goto off, 3)) (hg : (pc : Int) + off = (tgt : Int)) (k : k_W g d M tgt l st u Q) : k_W g d M pc l st u Q := by
  intro p e R s m args below meth c H locs cells slots ls Z F h1 h2 h3 h4 hP hS hl hR
  have hx := F.1
  have hb := F.2.1
  have hown := F.2.2.2.1
  have hts := F.2.2.2.2.1
  have hK := F.2.2.2.2.2.1
  have hO := F.2.2.2.2.2.2.1
  have hZ := F.2.2.2.2.2.2.2.1
  have hap := F.2.2.2.2.2.2.2.2.1
  have ht := F.2.2.2.2.2.2.2.2.2.1
  have hNw := F.2.2.2.2.2.2.2.2.2.2
  exact lv_goto hx hb (k_i_dec ht hd) hg (k p e R s m args below meth c H locs cells slots ls Z F h1 h2 h3 h4 hP hS hl hR)
theorem s_table {dflt lo hi : Int} {offs : Array Int} {len : Nat} {x : Int32} {off : Int} (i j tgt : Nat) (hd : k_i M i j = some (pc, .tableswitch dflt lo hi offs, len)) (a : Int32) (hxa : x = a) (ha1 : ¬ a.toInt < lo) (ha2 : ¬ hi < a.toInt) (ho : offs[(a.toInt - lo).toNat]? = some off) (hg : (pc : Int) + off = (tgt : Int)) (k : k_W g d M tgt l st u Q) : k_W g d M pc l (.int x :: st) u Q := by
  subst hxa
  intro p e R s m args below meth c H locs cells slots ls Z F h1 h2 h3 h4 hP hS hl hR
  have hx := F.1
  have hb := F.2.1
  have hown := F.2.2.2.1
  have hts := F.2.2.2.2.1
  have hK := F.2.2.2.2.2.1
  have hO := F.2.2.2.2.2.2.1
  have hZ := F.2.2.2.2.2.2.2.1
  have hap := F.2.2.2.2.2.2.2.2.1
  have ht := F.2.2.2.2.2.2.2.2.2.1
  have hNw := F.2.2.2.2.2.2.2.2.2.2
  exact lv_tableIn hx hb (k_i_dec ht hd) ha1 ha2 ho hg (k p e R s m args below meth c H locs cells slots ls Z F h1 h2 h3 h4 hP hS hl hR)
theorem s_tableOut {dflt lo hi : Int} {offs : Array Int} {len : Nat} {x : Int32} (i j tgt : Nat) (hd : k_i M i j = some (pc, .tableswitch dflt lo hi offs, len)) (h0 : x.toInt < lo ∨ hi < x.toInt) (hg : (pc : Int) + dflt = (tgt : Int)) (k : k_W g d M tgt l st u Q) : k_W g d M pc l (.int x :: st) u Q := by
  intro p e R s m args below meth c H locs cells slots ls Z F h1 h2 h3 h4 hP hS hl hR
  have hx := F.1
  have hb := F.2.1
  have hown := F.2.2.2.1
  have hts := F.2.2.2.2.1
  have hK := F.2.2.2.2.2.1
  have hO := F.2.2.2.2.2.2.1
  have hZ := F.2.2.2.2.2.2.2.1
  have hap := F.2.2.2.2.2.2.2.2.1
  have ht := F.2.2.2.2.2.2.2.2.2.1
  have hNw := F.2.2.2.2.2.2.2.2.2.2
  exact lv_tableOut hx hb (k_i_dec ht hd) h0 hg (k p e R s m args below meth c H locs cells slots ls Z F h1 h2 h3 h4 hP hS hl hR)
theorem s_lookup {dflt : Int} {ps : Array (Int × Int)} {len : Nat} {x : Int32} {off : Int} (i j tgt : Nat) (hd : k_i M i j = some (pc, .lookupswitch dflt ps, len)) (hp : (ps.toList.zip (ps.toList.drop 1)).all (fun (a, next) => a.1 < next.1) = true) (ho : Op.lookupswitch.offset ps.toList dflt x.toInt = off) (hg : (pc : Int) + off = (tgt : Int)) (k : k_W g d M tgt l st u Q) : k_W g d M pc l (.int x :: st) u Q := by
  intro p e R s m args below meth c H locs cells slots ls Z F h1 h2 h3 h4 hP hS hl hR
  have hx := F.1
  have hb := F.2.1
  have hown := F.2.2.2.1
  have hts := F.2.2.2.2.1
  have hK := F.2.2.2.2.2.1
  have hO := F.2.2.2.2.2.2.1
  have hZ := F.2.2.2.2.2.2.2.1
  have hap := F.2.2.2.2.2.2.2.2.1
  have ht := F.2.2.2.2.2.2.2.2.2.1
  have hNw := F.2.2.2.2.2.2.2.2.2.2
  exact lv_lookup hx hb (k_i_dec ht hd) hp ho hg (k p e R s m args below meth c H locs cells slots ls Z F h1 h2 h3 h4 hP hS hl hR)
end KR
