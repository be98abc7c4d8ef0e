/-! THE CLAIM OUT OF ONE WALK OF THE LAW'S BODY. Your part is whole_start (and what it stands on); all else here is the same for every law, but numbers. -/
def R_law : String := "WheelSkipsLaw"
def lw_P (b : Addr) (xs : List Int32) (args : Array Value) (s : State) : Prop := args = #[.ref b] ∧ s.IntsAt b xs ∧ xs.length ≤ 3072 ∧ (Jvm.Cond.and given_1 narrow_1).before args s = true
def lw_Q (_ : Array Value) (s : State) (o : Outcome) (t : State) : Prop := o = .returned (some (.int 1)) ∧ Framed s o t [] 600000 7302250
def lw_Z (below : List Frame) (a : Array Value) (s : State) : State → Prop := fun t => ∃ o, t.status = .running ∧ Ended t below o ∧ lw_Q a s o t
/-- the law's own end, with 1 on the stack, nothing written that was there before, its room as the claim has it -/
theorem lw_ret {p : Program} {l : Launch} {e : Env} {s : State} {m : MethodId} {below : List Frame} {meth : Method} {c : Code} {b : Nat} (hx : p.tables.exec = Jvm.exec) (hb : c.code = code) (hr : meth.sig.returnType = ret) (hlocks : meth.locks = false) {pc : Nat} {H : Heap} {ls : Array Slot} (hdg : decode code pc = .ok (.ireturn, 1)) : W p l e room_1 s m #[Value.ref b] below meth c H [] 600000 7302250 (lw_Z below #[Value.ref b] s) (F0 m pc ls [.int 1]) := by
  intro T hT X
  obtain ⟨fs, hret, hrun, hended, hW, hframe⟩ := X.leave (v := some (.int 1)) (hlocks := hlocks) (fun h => by rw [hr] at h; cases h)
  have hmeth' : T.vm.method? m = some meth := X.method'
  refine ⟨T.setFrames fs, ?_, .returned (some (.int 1)), hrun, hended, rfl, ⟨_, rfl⟩, hW, hframe⟩
  jvm_step X.here [X.here.top, hx, hb, hdg, hmeth', hr, ret, narrow_b1]
  (try refine ⟨rfl, ?_⟩); (try refine ⟨rfl, ?_⟩)
  first | (intro acts; rw [hret _ acts rfl rfl rfl]) | rw [hret _ _ rfl rfl rfl]
  exact Steps.refl _
/-- what holds at the law's entry: the machine, the code, the tables' words (any of lw_tbl by 'hts w (by decide +kernel)'), the script of L ints xs at the cell b, what the Statement gives of the start (any of its parts by flat_of_before) -/
def lw_At (p : Program) (s : State) (m : MethodId) (meth : Method) (c : Code) (b L : Nat) (xs : Nat → Int32) : Prop :=
  p.tables.exec = Jvm.exec ∧ c.code = code ∧ meth.sig.returnType = ret ∧ c.maxLocals = 4 ∧ s.vm.findClass R_law = some m.cls ∧ (∀ w ∈ lw_tbl, w.before #[Value.ref b] s = true) ∧ va_X b L xs s s.heap ∧ b < s.heap.size ∧ meth.locks = false ∧ (Jvm.Cond.and given_1 narrow_1).before #[Value.ref b] s = true

/-- statics and the script: old arrays that nobody writes -/
theorem k_O_mk {g : k_G} {U : State} {H : Heap} (h0 : va_T .int (k_ad g 100) 3 (fun j => .int (k_t100 j)) (k_A g) U H) (h1 : va_T .int (k_ad g 101) 4 (fun j => .int (k_t101 j)) (k_A g) U H) (h2 : va_T .int (k_ad g 102) 8 (fun j => .int (k_t102 j)) (k_A g) U H) (h3 : va_T .int (k_ad g 103) 32 (fun j => .int (k_t103 j)) (k_A g) U H) (h4 : va_T .int (k_ad g 104) (k_sl g) (fun j => .int (k_sx g j)) (k_A g) U H) : k_O g U H := by
  intro k n f hk
  unfold k_st at hk
  split at hk
  · cases hk; exact h0
  · cases hk; exact h1
  · cases hk; exact h2
  · cases hk; exact h3
  · cases hk; exact h4
  · cases hk
theorem k_apart_of {g : k_G} {u : k_S} (h : va_D (k_A g) (k_wd g u)) : k_apart g := by
  have key : ∀ i, i < k_lay.length → ∃ q, (k_wd g u)[i]? = some q ∧ q.1 = k_ad g i := fun i hi => by
    have h1 : k_lay[i]? = some k_lay[i] := List.getElem?_eq_getElem hi
    exact ⟨_, k_wd_get g u h1, rfl⟩
  intro i j hi hj
  obtain ⟨p, hp, e1⟩ := key i hi
  obtain ⟨q, hq, e2⟩ := key j hj
  exact ⟨fun e => h.1 i j p q hp hq (by rw [e1, e2]; exact e), by have := h.2 i p hp; rw [e1] at this; exact this⟩

theorem k_stat100 {args : Array Value} {s : State} {A : Nat → Prop} (hts0 : ∀ w ∈ lw_tbl, w.before args s = true) (hts : ∀ w ∈ k_tbl, w.before args s = true) (hs : ∀ c ∈ flatC (Jvm.Cond.and given_1 narrow_1), c.before args s = true) (hA : ∀ a : Nat, a < s.heap.size → ¬ A a) : ∃ t : Nat, va_Z "WheelSkips$Nights" "NEAR_LETTERS" "[I" (.ref t) A s s.heap ∧ va_T .int t 3 (fun j => .int (k_t100 j)) A s s.heap := by
  obtain ⟨t, ht, hT⟩ := va_Tof (tm := .static "WheelSkips$Nights" "NEAR_LETTERS" "[I") (ty := .int) (N := 3) (f := fun j => .int (k_t100 j)) (A := A) (by decide) (hs _ (List.mem_of_getElem? (i := 5) (by decide +kernel))) (va_eqt (z := 3) (hs _ (List.mem_of_getElem? (i := 6) (by decide +kernel)))) (fun j hj => by
    match j, hj with
    | 0, _ => exact va_eqt (z := 119) (hs _ (List.mem_of_getElem? (i := 7) (by decide +kernel)))
    | 1, _ => exact va_eqt (z := 115) (hs _ (List.mem_of_getElem? (i := 8) (by decide +kernel)))
    | 2, _ => exact va_eqt (z := 49) (hs _ (List.mem_of_getElem? (i := 9) (by decide +kernel)))
    | j + 3, h => omega) hA
  exact ⟨t, va_Zref (hts0 _ (lw_T2 (List.mem_of_getElem? (i := 165) (by decide +kernel)))) (hts _ (k_in (lw_T0 (List.mem_of_getElem? (i := 6) (by decide +kernel))) rfl)) ht hA, hT⟩
theorem k_stat101 {args : Array Value} {s : State} {A : Nat → Prop} (hts0 : ∀ w ∈ lw_tbl, w.before args s = true) (hts : ∀ w ∈ k_tbl, w.before args s = true) (hs : ∀ c ∈ flatC (Jvm.Cond.and given_1 narrow_1), c.before args s = true) (hA : ∀ a : Nat, a < s.heap.size → ¬ A a) : ∃ t : Nat, va_Z "WheelSkips$Judging" "FIT_LETTERS" "[I" (.ref t) A s s.heap ∧ va_T .int t 4 (fun j => .int (k_t101 j)) A s s.heap := by
  obtain ⟨t, ht, hT⟩ := va_Tof (tm := .static "WheelSkips$Judging" "FIT_LETTERS" "[I") (ty := .int) (N := 4) (f := fun j => .int (k_t101 j)) (A := A) (by decide) (hs _ (List.mem_of_getElem? (i := 11) (by decide +kernel))) (va_eqt (z := 4) (hs _ (List.mem_of_getElem? (i := 12) (by decide +kernel)))) (fun j hj => by
    match j, hj with
    | 0, _ => exact va_eqt (z := 119) (hs _ (List.mem_of_getElem? (i := 13) (by decide +kernel)))
    | 1, _ => exact va_eqt (z := 115) (hs _ (List.mem_of_getElem? (i := 14) (by decide +kernel)))
    | 2, _ => exact va_eqt (z := 102) (hs _ (List.mem_of_getElem? (i := 15) (by decide +kernel)))
    | 3, _ => exact va_eqt (z := 49) (hs _ (List.mem_of_getElem? (i := 16) (by decide +kernel)))
    | j + 4, h => omega) hA
  exact ⟨t, va_Zref (hts0 _ (lw_T3 (List.mem_of_getElem? (i := 3) (by decide +kernel)))) (hts _ (k_in (lw_T0 (List.mem_of_getElem? (i := 9) (by decide +kernel))) rfl)) ht hA, hT⟩
theorem k_stat102 {args : Array Value} {s : State} {A : Nat → Prop} (hts0 : ∀ w ∈ lw_tbl, w.before args s = true) (hts : ∀ w ∈ k_tbl, w.before args s = true) (hs : ∀ c ∈ flatC (Jvm.Cond.and given_1 narrow_1), c.before args s = true) (hA : ∀ a : Nat, a < s.heap.size → ¬ A a) : ∃ t : Nat, va_Z "WheelSkips$Bodies" "ABOVE" "[I" (.ref t) A s s.heap ∧ va_T .int t 8 (fun j => .int (k_t102 j)) A s s.heap := by
  obtain ⟨t, ht, hT⟩ := va_Tof (tm := .static "WheelSkips$Bodies" "ABOVE" "[I") (ty := .int) (N := 8) (f := fun j => .int (k_t102 j)) (A := A) (by decide) (hs _ (List.mem_of_getElem? (i := 18) (by decide +kernel))) (va_eqt (z := 8) (hs _ (List.mem_of_getElem? (i := 19) (by decide +kernel)))) (fun j hj => by
    match j, hj with
    | 0, _ => exact va_eqt (z := (-1)) (hs _ (List.mem_of_getElem? (i := 20) (by decide +kernel)))
    | 1, _ => exact va_eqt (z := 0) (hs _ (List.mem_of_getElem? (i := 21) (by decide +kernel)))
    | 2, _ => exact va_eqt (z := 0) (hs _ (List.mem_of_getElem? (i := 22) (by decide +kernel)))
    | 3, _ => exact va_eqt (z := 2) (hs _ (List.mem_of_getElem? (i := 23) (by decide +kernel)))
    | 4, _ => exact va_eqt (z := 1) (hs _ (List.mem_of_getElem? (i := 24) (by decide +kernel)))
    | 5, _ => exact va_eqt (z := 4) (hs _ (List.mem_of_getElem? (i := 25) (by decide +kernel)))
    | 6, _ => exact va_eqt (z := 0) (hs _ (List.mem_of_getElem? (i := 26) (by decide +kernel)))
    | 7, _ => exact va_eqt (z := 6) (hs _ (List.mem_of_getElem? (i := 27) (by decide +kernel)))
    | j + 8, h => omega) hA
  exact ⟨t, va_Zref (hts0 _ (lw_T3 (List.mem_of_getElem? (i := 108) (by decide +kernel)))) (hts _ (k_in (lw_T0 (List.mem_of_getElem? (i := 11) (by decide +kernel))) rfl)) ht hA, hT⟩
theorem k_stat103 {args : Array Value} {s : State} {A : Nat → Prop} (hts0 : ∀ w ∈ lw_tbl, w.before args s = true) (hts : ∀ w ∈ k_tbl, w.before args s = true) (hs : ∀ c ∈ flatC (Jvm.Cond.and given_1 narrow_1), c.before args s = true) (hA : ∀ a : Nat, a < s.heap.size → ¬ A a) : ∃ t : Nat, va_Z "WheelSkips$Bodies" "OWN" "[I" (.ref t) A s s.heap ∧ va_T .int t 32 (fun j => .int (k_t103 j)) A s s.heap := by
  obtain ⟨t, ht, hT⟩ := va_Tof (tm := .static "WheelSkips$Bodies" "OWN" "[I") (ty := .int) (N := 32) (f := fun j => .int (k_t103 j)) (A := A) (by decide) (hs _ (List.mem_of_getElem? (i := 29) (by decide +kernel))) (va_eqt (z := 32) (hs _ (List.mem_of_getElem? (i := 30) (by decide +kernel)))) (fun j hj => by
    match j, hj with
    | 0, _ => exact va_eqt (z := 1) (hs _ (List.mem_of_getElem? (i := 31) (by decide +kernel)))
    | 1, _ => exact va_eqt (z := 10) (hs _ (List.mem_of_getElem? (i := 32) (by decide +kernel)))
    | 2, _ => exact va_eqt (z := 11) (hs _ (List.mem_of_getElem? (i := 33) (by decide +kernel)))
    | 3, _ => exact va_eqt (z := 2) (hs _ (List.mem_of_getElem? (i := 34) (by decide +kernel)))
    | 4, _ => exact va_eqt (z := 20) (hs _ (List.mem_of_getElem? (i := 35) (by decide +kernel)))
    | 5, _ => exact va_eqt (z := 0) (hs _ (List.mem_of_getElem? (i := 36) (by decide +kernel)))
    | 6, _ => exact va_eqt (z := 0) (hs _ (List.mem_of_getElem? (i := 37) (by decide +kernel)))
    | 7, _ => exact va_eqt (z := 0) (hs _ (List.mem_of_getElem? (i := 38) (by decide +kernel)))
    | 8, _ => exact va_eqt (z := 0) (hs _ (List.mem_of_getElem? (i := 39) (by decide +kernel)))
    | 9, _ => exact va_eqt (z := 30) (hs _ (List.mem_of_getElem? (i := 40) (by decide +kernel)))
    | 10, _ => exact va_eqt (z := 0) (hs _ (List.mem_of_getElem? (i := 41) (by decide +kernel)))
    | 11, _ => exact va_eqt (z := 0) (hs _ (List.mem_of_getElem? (i := 42) (by decide +kernel)))
    | 12, _ => exact va_eqt (z := 0) (hs _ (List.mem_of_getElem? (i := 43) (by decide +kernel)))
    | 13, _ => exact va_eqt (z := 41) (hs _ (List.mem_of_getElem? (i := 44) (by decide +kernel)))
    | 14, _ => exact va_eqt (z := 40) (hs _ (List.mem_of_getElem? (i := 45) (by decide +kernel)))
    | 15, _ => exact va_eqt (z := 0) (hs _ (List.mem_of_getElem? (i := 46) (by decide +kernel)))
    | 16, _ => exact va_eqt (z := 0) (hs _ (List.mem_of_getElem? (i := 47) (by decide +kernel)))
    | 17, _ => exact va_eqt (z := 0) (hs _ (List.mem_of_getElem? (i := 48) (by decide +kernel)))
    | 18, _ => exact va_eqt (z := 0) (hs _ (List.mem_of_getElem? (i := 49) (by decide +kernel)))
    | 19, _ => exact va_eqt (z := 50) (hs _ (List.mem_of_getElem? (i := 50) (by decide +kernel)))
    | 20, _ => exact va_eqt (z := 0) (hs _ (List.mem_of_getElem? (i := 51) (by decide +kernel)))
    | 21, _ => exact va_eqt (z := 0) (hs _ (List.mem_of_getElem? (i := 52) (by decide +kernel)))
    | 22, _ => exact va_eqt (z := 60) (hs _ (List.mem_of_getElem? (i := 53) (by decide +kernel)))
    | 23, _ => exact va_eqt (z := 61) (hs _ (List.mem_of_getElem? (i := 54) (by decide +kernel)))
    | 24, _ => exact va_eqt (z := 70) (hs _ (List.mem_of_getElem? (i := 55) (by decide +kernel)))
    | 25, _ => exact va_eqt (z := 0) (hs _ (List.mem_of_getElem? (i := 56) (by decide +kernel)))
    | 26, _ => exact va_eqt (z := 0) (hs _ (List.mem_of_getElem? (i := 57) (by decide +kernel)))
    | 27, _ => exact va_eqt (z := 0) (hs _ (List.mem_of_getElem? (i := 58) (by decide +kernel)))
    | 28, _ => exact va_eqt (z := 81) (hs _ (List.mem_of_getElem? (i := 59) (by decide +kernel)))
    | 29, _ => exact va_eqt (z := 80) (hs _ (List.mem_of_getElem? (i := 60) (by decide +kernel)))
    | 30, _ => exact va_eqt (z := 0) (hs _ (List.mem_of_getElem? (i := 61) (by decide +kernel)))
    | 31, _ => exact va_eqt (z := 0) (hs _ (List.mem_of_getElem? (i := 62) (by decide +kernel)))
    | j + 32, h => omega) hA
  exact ⟨t, va_Zref (hts0 _ (lw_T3 (List.mem_of_getElem? (i := 110) (by decide +kernel)))) (hts _ (k_in (lw_T0 (List.mem_of_getElem? (i := 11) (by decide +kernel))) rfl)) ht hA, hT⟩
