/-! THE LAYER: what the system is between constructors and calls: numbered cells that never move, ints in fields and arrays by number; a judgement k_W at a place of a method's code; contracts k_OK; partial functions, and k_sat of what they give -/
abbrev k_S : Type := (Nat → Int32) × (Nat → Nat → Int32) × (Nat → Nat → Int64)
def k_wF (u : k_S) (i : Nat) (v : Int32) : k_S := (fun j => if j = i then v else u.1 j, u.2)
def k_wA (u : k_S) (k : Nat) (i : Nat) (v : Int32) : k_S := (u.1, fun c => if c = k then upd (u.2.1 k) i v else u.2.1 c, u.2.2)
def k_wL (u : k_S) (k : Nat) (i : Nat) (v : Int64) : k_S := (u.1, u.2.1, fun c => if c = k then vp_updL (u.2.2 k) i v else u.2.2 c)
/-- launch, first address of the system's cells, addresses, array classes, classes and slots, the script's length and ints -/
abbrev k_G : Type := Launch × Nat × (Nat → Nat) × (Nat → ClassId) × va_G × Nat × (Nat → Int32)
abbrev k_z (g : k_G) : Nat := g.2.1
abbrev k_ad (g : k_G) : Nat → Nat := g.2.2.1
abbrev k_ca (g : k_G) : Nat → ClassId := g.2.2.2.1
abbrev k_D (g : k_G) : va_G := g.2.2.2.2.1
abbrev k_sl (g : k_G) : Nat := g.2.2.2.2.2.1
abbrev k_sx (g : k_G) : Nat → Int32 := g.2.2.2.2.2.2
abbrev k_A (g : k_G) : Nat → Prop := fun q => k_z g ≤ q
def k_fs (g : k_G) (u : k_S) (k : Nat) : Nat → List (Option Nat) → List Value
  | _, [] => []
  | j, some t :: r => .ref (k_ad g t) :: k_fs g u k (j + 1) r
  | j, none :: r => .int (u.1 (100 * k + j)) :: k_fs g u k (j + 1) r
def k_e (g : k_G) (u : k_S) (k : Nat) : k_C → va_E
  | .inl (ci, fs) => .inr (ci, k_fs g u k 0 fs)
  | .inr (_, n, false) => .inl (k_ca g k, n, .inl (u.2.1 k))
  | .inr (_, n, true) => .inl (k_ca g k, n, .inr (.inl (u.2.2 k)))
def k_w (g : k_G) (u : k_S) : Nat → List k_C → va_W
  | _, [] => []
  | k, c :: r => (k_ad g k, k_e g u k c) :: k_w g u (k + 1) r
abbrev k_wd (g : k_G) (u : k_S) : va_W := k_w g u 0 k_lay
def k_tys (g : k_G) : Nat → List k_C → List (ClassId × FieldType)
  | _, [] => []
  | k, .inl _ :: r => k_tys g (k + 1) r
  | k, .inr (ty, _, _) :: r => (k_ca g k, ty) :: k_tys g (k + 1) r
theorem k_fs_get (g : k_G) (u : k_S) (k : Nat) : ∀ (fs : List (Option Nat)) (j0 i : Nat), (k_fs g u k j0 fs)[i]? = (fs[i]?).map (fun f => match f with | some t => .ref (k_ad g t) | none => .int (u.1 (100 * k + (j0 + i))))
  | [], j0, i => by simp [k_fs]
  | some t :: r, j0, 0 => by simp [k_fs]
  | none :: r, j0, 0 => by simp [k_fs]
  | some t :: r, j0, i + 1 => by
    simp only [k_fs, List.getElem?_cons_succ]
    rw [k_fs_get g u k r (j0 + 1) i, show j0 + 1 + i = j0 + (i + 1) by omega]
  | none :: r, j0, i + 1 => by
    simp only [k_fs, List.getElem?_cons_succ]
    rw [k_fs_get g u k r (j0 + 1) i, show j0 + 1 + i = j0 + (i + 1) by omega]
theorem k_w_get (g : k_G) (u : k_S) : ∀ (cs : List k_C) (k0 i : Nat), (k_w g u k0 cs)[i]? = (cs[i]?).map (fun c => (k_ad g (k0 + i), k_e g u (k0 + i) c))
  | [], k0, i => by simp [k_w]
  | c :: r, k0, 0 => by simp [k_w]
  | c :: r, k0, i + 1 => by
    simp only [k_w, List.getElem?_cons_succ]
    rw [k_w_get g u r (k0 + 1) i, show k0 + 1 + i = k0 + (i + 1) by omega]
theorem k_wd_get (g : k_G) (u : k_S) {k : Nat} {c : k_C} (h : k_lay[k]? = some c) : (k_wd g u)[k]? = some (k_ad g k, k_e g u k c) := by
  rw [k_wd, k_w_get, h]; simp
theorem k_tys_get (g : k_G) : ∀ (cs : List k_C) (k0 i : Nat) (ty : FieldType) (n : Nat) (b : Bool), cs[i]? = some (.inr (ty, n, b)) → ∃ t0 : Nat, (k_tys g k0 cs)[t0]? = some (k_ca g (k0 + i), ty)
  | [], k0, i, ty, n, b, h => by simp at h
  | .inl _ :: r, k0, 0, ty, n, b, h => by simp at h
  | .inr (ty', n', b') :: r, k0, 0, ty, n, b, h => by
    simp at h
    exact ⟨0, by simp [k_tys, h.1]⟩
  | .inl _ :: r, k0, i + 1, ty, n, b, h => by
    obtain ⟨t0, h0⟩ := k_tys_get g r (k0 + 1) i ty n b (by simpa using h)
    exact ⟨t0, by rw [show k0 + (i + 1) = k0 + 1 + i by omega]; simpa [k_tys] using h0⟩
  | .inr (ty', n', b') :: r, k0, i + 1, ty, n, b, h => by
    obtain ⟨t0, h0⟩ := k_tys_get g r (k0 + 1) i ty n b (by simpa using h)
    exact ⟨t0 + 1, by rw [show k0 + (i + 1) = k0 + 1 + i by omega]; simpa [k_tys] using h0⟩
/-- fields of an object are fewer than a hundred -/
theorem k_lay_small : ∀ (k : Nat) (ci : Nat) (fs : List (Option Nat)), k_lay[k]? = some (.inl (ci, fs)) → fs.length ≤ 100 := by
  intro k ci fs h
  have h1 : (k_lay.all (fun c => match c with | .inl (_, fs) => decide (fs.length ≤ 100) | .inr _ => true)) = true := by decide +kernel
  have h2 := List.all_eq_true.mp h1 _ (List.mem_of_getElem? h)
  simpa using h2
theorem k_fs_same (g : k_G) (u v : k_S) (k : Nat) (fs : List (Option Nat)) (j0 : Nat) (h : ∀ j, j0 ≤ j → j < j0 + fs.length → u.1 (100 * k + j) = v.1 (100 * k + j)) : k_fs g u k j0 fs = k_fs g v k j0 fs := by
  induction fs generalizing j0 with
  | nil => rfl
  | cons f r ih =>
    have ih' := ih (j0 + 1) (fun j h1 h2 => h j (by omega) (by simp; omega))
    cases f with
    | some t => simp only [k_fs, ih']
    | none => simp only [k_fs, ih', h j0 (Nat.le_refl _) (by simp)]
theorem k_wd_F (g : k_G) (u : k_S) {k j ci : Nat} {fs : List (Option Nat)} (v : Int32) (hk : k_lay[k]? = some (.inl (ci, fs))) (hj : fs[j]? = some none) : k_wd g (k_wF u (100 * k + j) v) = (k_wd g u).set k (k_ad g k, .inr (ci, (k_fs g u k 0 fs).set j (.int v))) := by
  have hjl : j < fs.length := (List.getElem?_eq_some_iff.mp hj).1
  have hj100 : j < 100 := Nat.lt_of_lt_of_le hjl (k_lay_small k ci fs hk)
  apply List.ext_getElem?
  intro i
  rw [List.getElem?_set, k_w_get, k_w_get]
  have hlen : k < (k_wd g u).length := (List.getElem?_eq_some_iff.mp (k_wd_get g u hk)).1
  by_cases hi : k = i
  · subst hi
    rw [if_pos rfl, if_pos hlen, hk]
    simp only [Option.map_some, Nat.zero_add, k_e]
    congr 4
    apply List.ext_getElem?
    intro t
    rw [List.getElem?_set, k_fs_get, k_fs_get]
    have hl2 : j < (k_fs g u k 0 fs).length := by
      have := k_fs_get g u k fs 0 j
      rw [hj] at this
      exact (List.getElem?_eq_some_iff.mp this).1
    by_cases ht : j = t
    · subst ht
      rw [if_pos rfl, if_pos hl2, hj]
      simp [k_wF]
    · rw [if_neg ht]
      cases hft : fs[t]? with
      | none => rfl
      | some f =>
        cases f with
        | some w => rfl
        | none => simp [k_wF, show ¬ t = j by omega]
  · rw [if_neg hi]
    cases hc : k_lay[i]? with
    | none => rfl
    | some c =>
      simp only [Option.map_some, Nat.zero_add]
      match c, hc with
      | .inl (ci', fs'), hc =>
        simp only [k_e]
        have := k_lay_small i ci' fs' hc
        rw [k_fs_same g (k_wF u (100 * k + j) v) u i fs' 0 (fun t _ ht => by simp only [k_wF]; rw [if_neg (by omega)])]
      | .inr (ty, n, false), hc => rfl
      | .inr (ty, n, true), hc => rfl
theorem k_wd_A (g : k_G) (u : k_S) {k n : Nat} {ty : FieldType} (i : Nat) (v : Int32) (hk : k_lay[k]? = some (.inr (ty, n, false))) : k_wd g (k_wA u k i v) = (k_wd g u).set k (k_ad g k, .inl (k_ca g k, n, .inl (upd (u.2.1 k) i v))) := by
  apply List.ext_getElem?
  intro t
  rw [List.getElem?_set, k_w_get, k_w_get]
  have hlen : k < (k_wd g u).length := (List.getElem?_eq_some_iff.mp (k_wd_get g u hk)).1
  by_cases hi : k = t
  · subst hi
    rw [if_pos rfl, if_pos hlen, hk]
    simp [k_e, k_wA]
  · rw [if_neg hi]
    cases hc : k_lay[t]? with
    | none => rfl
    | some c =>
      simp only [Option.map_some, Nat.zero_add]
      match c, hc with
      | .inl (ci', fs'), hc => simp only [k_e]; rw [k_fs_same g (k_wA u k i v) u t fs' 0 (fun _ _ _ => rfl)]
      | .inr (ty, n, false), hc => simp [k_e, k_wA, show ¬ t = k by omega]
      | .inr (ty, n, true), hc => rfl
theorem k_wd_L (g : k_G) (u : k_S) {k n : Nat} {ty : FieldType} (i : Nat) (v : Int64) (hk : k_lay[k]? = some (.inr (ty, n, true))) : k_wd g (k_wL u k i v) = (k_wd g u).set k (k_ad g k, .inl (k_ca g k, n, .inr (.inl (vp_updL (u.2.2 k) i v)))) := by
  apply List.ext_getElem?
  intro t
  rw [List.getElem?_set, k_w_get, k_w_get]
  have hlen : k < (k_wd g u).length := (List.getElem?_eq_some_iff.mp (k_wd_get g u hk)).1
  by_cases hi : k = t
  · subst hi
    rw [if_pos rfl, if_pos hlen, hk]
    simp [k_e, k_wL]
  · rw [if_neg hi]
    cases hc : k_lay[t]? with
    | none => rfl
    | some c =>
      simp only [Option.map_some, Nat.zero_add]
      match c, hc with
      | .inl (ci', fs'), hc => simp only [k_e]; rw [k_fs_same g (k_wL u k i v) u t fs' 0 (fun _ _ _ => rfl)]
      | .inr (ty, n, false), hc => rfl
      | .inr (ty, n, true), hc => simp [k_e, k_wL, show ¬ t = k by omega]
/-- the cells lie apart, from the system's first address on -/
def k_apart (g : k_G) : Prop := ∀ i j, i < k_lay.length → j < k_lay.length → (k_ad g i = k_ad g j → i = j) ∧ k_z g ≤ k_ad g i
theorem k_wd_len (g : k_G) (u : k_S) : ∀ (cs : List k_C) (k0 : Nat), (k_w g u k0 cs).length = cs.length
  | [], _ => rfl
  | c :: r, k0 => by simp [k_w, k_wd_len g u r]
theorem k_wd_D {g : k_G} (h : k_apart g) (u : k_S) : va_D (k_A g) (k_wd g u) := by
  have key : ∀ (k : Nat) (q : Nat × va_E), (k_wd g u)[k]? = some q → k < k_lay.length ∧ q.1 = k_ad g k := by
    intro k q hq
    have hl := (List.getElem?_eq_some_iff.mp hq).1
    rw [k_wd_len] at hl
    rw [k_w_get] at hq
    cases hc : k_lay[k]? with
    | none => rw [hc] at hq; cases hq
    | some c => rw [hc] at hq; simp at hq; exact ⟨hl, by rw [← hq]⟩
  refine ⟨fun i j p q hp hq e => ?_, fun k q hq => ?_⟩
  · obtain ⟨h1, e1⟩ := key i p hp
    obtain ⟨h2, e2⟩ := key j q hq
    exact (h i j h1 h2).1 (by rw [← e1, ← e2]; exact e)
  · obtain ⟨h1, e1⟩ := key k q hq
    show k_z g ≤ q.1
    rw [e1]
    exact (h k k h1 h1).2
def k_t100 (j : Nat) : Int32 := [119, 115, 49].getD j 0
def k_t101 (j : Nat) : Int32 := [119, 115, 102, 49].getD j 0
def k_t102 (j : Nat) : Int32 := [-1, 0, 0, 2, 1, 4, 0, 6].getD j 0
def k_t103 (j : Nat) : Int32 := [1, 10, 11, 2, 20, 0, 0, 0, 0, 30, 0, 0, 0, 41, 40, 0, 0, 0, 0, 50, 0, 0, 60, 61, 70, 0, 0, 0, 81, 80, 0, 0].getD j 0
/-- old arrays of ints that nobody writes: the class's tables and the script -/
def k_st (g : k_G) : Nat → Option (Nat × (Nat → Int32))
  | 100 => some (3, k_t100)
  | 101 => some (4, k_t101)
  | 102 => some (8, k_t102)
  | 103 => some (32, k_t103)
  | 104 => some (g.2.2.2.2.2.1, g.2.2.2.2.2.2)
  | _ => none
def k_O (g : k_G) (U : State) (H : Heap) : Prop := ∀ (k n : Nat) (f : Nat → Int32), k_st g k = some (n, f) → va_T .int (k_ad g k) n (fun j => .int (f j)) (k_A g) U H
def k_sf : List (String × String × Nat) := [("WheelSkips$Nights", "NEAR_LETTERS", 100), ("WheelSkips$Judging", "FIT_LETTERS", 101), ("WheelSkips$Bodies", "ABOVE", 102), ("WheelSkips$Bodies", "OWN", 103)]
def k_Zs (g : k_G) (U : State) (H : Heap) : Prop := ∀ e ∈ k_sf, va_Z e.1 e.2.1 "[I" (.ref (k_ad g e.2.2)) (k_A g) U H
def k_v (g : k_G) : Value → Value
  | .ref k => .ref (k_ad g k)
  | v => v
def k_tab (M : k_M) : Prop := ∀ (i j : Nat) (r : List (Nat × Instr × Nat)) (e : Nat × Instr × Nat), M.2.2.2.2[i]? = some r → r[j]? = some e → decode M.2.1 e.1 = .ok (e.2.1, e.2.2)
theorem k_tab_of {M : k_M} (h : k_dec M.2.1 M.2.2.2.2 = true) : k_tab M := by
  intro i j r e hi hj
  have h1 := List.all_eq_true.mp h _ (List.mem_of_getElem? hi)
  have h2 := List.all_eq_true.mp h1 _ (List.mem_of_getElem? hj)
  exact of_decide_eq_true h2
def k_Nw (U : State) : Prop := ∀ w ∈ k_nest, va_Nw w U
theorem k_Nw.warm {s U : State} (hW : s.WarmedH U.vm) (h : k_Nw s) : k_Nw U := by
  intro w hw
  have hn := (List.mem_filter.mp hw).2
  have h1 := h w hw
  cases w <;> simp [k_isN] at hn
  · exact va_Nw.warmM hW h1
  · exact va_Nw.warmF hW h1
theorem k_Nw.same {u U : State} (hv : u.vm = U.vm) (h : k_Nw u) : k_Nw U := by
  intro w hw
  have hn := (List.mem_filter.mp hw).2
  have h1 := h w hw
  cases w <;> simp [k_isN] at hn
  · exact va_Nw.same rfl hv h1
  · exact va_Nw.same rfl hv h1
/-- what holds of the machine all through a method -/
def k_Fx (g : k_G) (M : k_M) (p : Program) (s : State) (m : MethodId) (args : Array Value) (c : Code) : Prop :=
  p.tables.exec = Jvm.exec ∧ c.code = M.2.1 ∧ c.maxLocals = M.2.2.1 ∧ s.vm.findClass M.1.cls = some m.cls ∧ (∀ w ∈ k_tbl, w.before args s = true) ∧ va_K (k_D g) vwCl (k_tys g 0 k_lay) s ∧ k_O g s s.heap ∧ k_Zs g s s.heap ∧ k_apart g ∧ k_tab M ∧ k_Nw s
/-- which instruction gives an answer -/
def k_ri (M : k_M) (pc : Nat) : Option Value → Prop
  | none => decode M.2.1 pc = .ok (.return_, 1) ∧ M.2.2.2.1 = none
  | some (.int v) => decode M.2.1 pc = .ok (.ireturn, 1) ∧ ∃ ty, M.2.2.2.1 = some ty ∧ narrow ty (.int v) = .int v
  | some (.long _) => decode M.2.1 pc = .ok (.lreturn, 1) ∧ M.2.2.2.1 = some .long
  | _ => False
def k_R (g : k_G) (M : k_M) (Q : Option Value → k_S → Prop) (p : Program) (e : Env) (R : Room) (s : State) (m : MethodId) (args : Array Value) (below : List Frame) (meth : Method) (c : Code) (cells slots : Nat) (Z : State → Prop) : Prop :=
  ∀ (r : Option Value) (u : k_S) (H : Heap) (locs : List Loc) (pc : Nat) (ls : Array Slot), Q r u → va_P (k_D g) vwCl (k_wd g u) H → va_S (k_A g) s.heap H locs → k_ri M pc r → W p g.1 e R s m args below meth c H locs cells slots Z (F0 m pc ls r.toList)
def k_W (g : k_G) (d : Nat) (M : k_M) (pc : Nat) (l : List (Nat × Value)) (st : List Value) (u : k_S) (Q : Option Value → k_S → Prop) : Prop :=
  ∀ (p : Program) (e : Env) (R : Room) (s : State) (m : MethodId) (args : Array Value) (below : List Frame) (meth : Method) (c : Code) (H : Heap) (locs : List Loc) (cells slots : Nat) (ls : Array Slot) (Z : State → Prop),
    k_Fx g M p s m args c → d ≤ R.frames → 32 * d ≤ R.locals → cells ≤ R.cells → slots ≤ R.slots → va_P (k_D g) vwCl (k_wd g u) H → va_S (k_A g) s.heap H locs → lv_has ls M.2.2.1 (l.map fun q => (q.1, k_v g q.2)) → k_R g M Q p e R s m args below meth c cells slots Z →
    W p g.1 e R s m args below meth c H locs cells slots Z (F0 m pc ls (st.map (k_v g)))
/-! locals by number -/
def k_at : List (Nat × Value) → Nat → Option Value
  | [], _ => none
  | q :: r, i => match Nat.beq q.1 i with
    | true => some q.2
    | false => k_at r i
def k_cl (i : Nat) : List (Nat × Value) → List (Nat × Value)
  | [] => []
  | q :: r => match Nat.beq q.1 i with
    | true => k_cl i r
    | false => match Nat.beq (q.1 + 1) i, q.2 with
      | true, .long _ => k_cl i r
      | true, .double _ => k_cl i r
      | _, _ => q :: k_cl i r
def k_put (i : Nat) (v : Value) (l : List (Nat × Value)) : List (Nat × Value) := (i, v) :: k_cl i l
def k_put2 (i : Nat) (v : Value) (l : List (Nat × Value)) : List (Nat × Value) := (i, v) :: k_cl (i + 1) (k_cl i l)
theorem k_at_mem : ∀ {l : List (Nat × Value)} {i : Nat} {v : Value}, k_at l i = some v → (i, v) ∈ l
  | [], i, v, h => by simp [k_at] at h
  | q :: r, i, v, h => by
    obtain ⟨a, w⟩ := q
    simp only [k_at] at h
    cases hb : Nat.beq a i with
    | true =>
      rw [hb] at h
      simp at h
      rw [Nat.eq_of_beq_eq_true hb, h]
      exact List.mem_cons_self
    | false =>
      rw [hb] at h
      exact List.mem_cons_of_mem _ (k_at_mem h)
theorem k_cl_mem {i : Nat} : ∀ {l : List (Nat × Value)} {q : Nat × Value}, q ∈ k_cl i l → q ∈ l ∧ ¬ q.1 = i ∧ ¬ (q.1 + 1 = i ∧ q.2.category = 2)
  | [], q, h => by simp [k_cl] at h
  | t :: r, q, h => by
    obtain ⟨a, w⟩ := t
    have keep : ∀ {q : Nat × Value}, q ∈ k_cl i r → q ∈ (a, w) :: r ∧ ¬ q.1 = i ∧ ¬ (q.1 + 1 = i ∧ q.2.category = 2) := fun h => ⟨List.mem_cons_of_mem _ (k_cl_mem h).1, (k_cl_mem h).2⟩
    simp only [k_cl] at h
    cases hb : Nat.beq a i with
    | true => rw [hb] at h; exact keep h
    | false =>
      rw [hb] at h
      have hne : ¬ a = i := Nat.ne_of_beq_eq_false hb
      cases hb2 : Nat.beq (a + 1) i with
      | false =>
        rw [hb2] at h
        have hne2 : ¬ a + 1 = i := Nat.ne_of_beq_eq_false hb2
        rcases List.mem_cons.mp h with rfl | h
        · exact ⟨List.mem_cons_self, hne, fun z => hne2 z.1⟩
        · exact keep h
      | true =>
        rw [hb2] at h
        cases w <;> first
          | exact keep h
          | (rcases List.mem_cons.mp h with rfl | h
             · exact ⟨List.mem_cons_self, hne, fun z => by simp [Value.category] at z⟩
             · exact keep h)
theorem k_v_cat (g : k_G) (v : Value) : (k_v g v).category = v.category := by cases v <;> rfl
theorem k_has_sub {ls : Array Slot} {n : Nat} {l l' : List (Nat × Value)} (h : lv_has ls n l) (hs : ∀ q ∈ l', q ∈ l) : lv_has ls n l' := ⟨h.1, h.2.1, fun q hq => h.2.2 q (hs q hq)⟩
theorem k_has_at {g : k_G} {ls : Array Slot} {n : Nat} {l : List (Nat × Value)} (h : lv_has ls n (l.map fun q => (q.1, k_v g q.2))) {i : Nat} {v : Value} (hk : k_at l i = some v) : ls[i]? = some (.val (k_v g v)) :=
  h.2.2 (i, k_v g v) (List.mem_map.mpr ⟨(i, v), k_at_mem hk, rfl⟩)
theorem k_has_put {g : k_G} {ls : Array Slot} {n i : Nat} {v : Value} {l : List (Nat × Value)} (h : lv_has ls n ((i, k_v g v) :: (l.map fun q => (q.1, k_v g q.2)).filter (fun q => !(q.1 == i) && !(q.1 + 1 == i && q.2.category == 2)))) : lv_has ls n ((k_put i v l).map fun q => (q.1, k_v g q.2)) := by
  refine k_has_sub h (fun q hq => ?_)
  obtain ⟨t, ht, rfl⟩ := List.mem_map.mp hq
  rcases List.mem_cons.mp ht with rfl | ht
  · exact List.mem_cons_self
  · obtain ⟨h1, h2, h3⟩ := k_cl_mem ht
    refine List.mem_cons_of_mem _ (List.mem_filter.mpr ⟨List.mem_map.mpr ⟨t, h1, rfl⟩, ?_⟩)
    simp only [k_v_cat, Bool.and_eq_true, Bool.not_eq_true', beq_eq_false_iff_ne, Bool.and_eq_false_iff]
    refine ⟨h2, ?_⟩
    by_cases e : t.1 + 1 = i
    · exact Or.inr (fun z => h3 ⟨e, z⟩)
    · exact Or.inl e
theorem k_has_put2 {g : k_G} {ls : Array Slot} {n i : Nat} {v : Value} {l : List (Nat × Value)} (h : lv_has ls n ((i, k_v g v) :: (l.map fun q => (q.1, k_v g q.2)).filter (fun q => !(q.1 == i) && (!(q.1 == i + 1) && !(q.1 + 1 == i && q.2.category == 2))))) : lv_has ls n ((k_put2 i v l).map fun q => (q.1, k_v g q.2)) := by
  refine k_has_sub h (fun q hq => ?_)
  obtain ⟨t, ht, rfl⟩ := List.mem_map.mp hq
  rcases List.mem_cons.mp ht with rfl | ht
  · exact List.mem_cons_self
  · obtain ⟨h0, h02, -⟩ := k_cl_mem ht
    obtain ⟨h1, h2, h3⟩ := k_cl_mem h0
    refine List.mem_cons_of_mem _ (List.mem_filter.mpr ⟨List.mem_map.mpr ⟨t, h1, rfl⟩, ?_⟩)
    simp only [k_v_cat, Bool.and_eq_true, Bool.not_eq_true', beq_eq_false_iff_ne, Bool.and_eq_false_iff]
    refine ⟨h2, h02, ?_⟩
    by_cases e : t.1 + 1 = i
    · exact Or.inr (fun z => h3 ⟨e, z⟩)
    · exact Or.inl e
/-- fewer locals are told -/
def k_sub (l : List (Nat × Value)) : List (Nat × Value) → Prop
  | [] => True
  | q :: r => k_at l q.1 = some q.2 ∧ k_sub l r
theorem k_sub_mem {l : List (Nat × Value)} : ∀ {l' : List (Nat × Value)}, k_sub l l' → ∀ q ∈ l', q ∈ l
  | [], _, q, hq => by cases hq
  | t :: r, h, q, hq => by
    rcases List.mem_cons.mp hq with rfl | hq
    · exact k_at_mem h.1
    · exact k_sub_mem h.2 q hq
section KL
variable {g : k_G} {d : Nat} {M : k_M} {pc : Nat} {l : List (Nat × Value)} {st : List Value} {u : k_S} {Q : Option Value → k_S → Prop}
theorem k_W.sub {l' : List (Nat × Value)} (h : k_sub l l') (k : k_W g d M pc l' st u Q) : k_W g d M pc l st u Q := by
  intro p e R s m args below meth c H locs cells slots ls Z F h1 h2 h3 h4 hP hS hl hR
  refine k p e R s m args below meth c H locs cells slots ls Z F h1 h2 h3 h4 hP hS (k_has_sub hl fun q hq => ?_) hR
  obtain ⟨t, ht, rfl⟩ := List.mem_map.mp hq
  exact List.mem_map.mpr ⟨t, k_sub_mem h t ht, rfl⟩
end KL
