/-! contracts -/
def k_ent (i : Nat) : List Value → List (Nat × Value)
  | [] => []
  | v :: r => (i, v) :: k_ent (match v with | .long _ => i + 2 | .double _ => i + 2 | _ => i + 1) r
theorem k_ent_eq (g : k_G) : ∀ (vs : List Value) (i : Nat), lv_args i (vs.map (k_v g)) = (k_ent i vs).map fun q => (q.1, k_v g q.2)
  | [], i => rfl
  | v :: r, i => by
    simp only [List.map_cons, lv_args, k_ent, k_v_cat]
    rw [k_ent_eq g r]
    cases v <;> rfl
def k_Pc (g : k_G) (As : List Value) (u : k_S) : Array Value → State → Prop := fun v U =>
  v = (As.map (k_v g)).toArray ∧ va_P (k_D g) vwCl (k_wd g u) U.heap ∧ va_K (k_D g) vwCl (k_tys g 0 k_lay) U ∧ k_O g U U.heap ∧ k_Zs g U U.heap ∧ k_apart g ∧ k_Nw U
def k_Qc (g : k_G) (Q : Option Value → k_S → Prop) : Array Value → State → Outcome → State → Prop := fun _ st o t =>
  (∃ (r : Option Value) (u : k_S), o = .returned r ∧ Q r u ∧ va_P (k_D g) vwCl (k_wd g u) t.heap) ∧ va_F (k_A g) st t
abbrev k_rm (d : Nat) : Room := { frames := d, cells := 0, slots := 0, locals := 32 * d }
abbrev k_ws (M : k_M) : List Cond := Cond.code M.1 M.2.1 M.2.2.1 M.2.2.2.1 :: k_tbl
def k_OK (g : k_G) (d : Nat) (M : k_M) (As : List Value) (u : k_S) (Q : Option Value → k_S → Prop) : Prop :=
  Met g.1 M.1 (k_ws M) (k_rm d) (k_Pc g As u) (k_Qc g Q) 0 0 (k_A g)
theorem k_O.moved {g : k_G} {u U : State} {H : Heap} (hvm : u.vm.Alike U.vm) (h : k_O g u H) : k_O g U H := fun k n f hk => (h k n f hk).moved hvm
theorem k_Zs.moved {g : k_G} {u U : State} {H : Heap} (hvm : u.vm.Alike U.vm) (h : k_Zs g u H) : k_Zs g U H := fun e he => (h e he).moved hvm
theorem k_O.kept {g : k_G} {U : State} {H H1 : Heap} (h : k_O g U H) (hq : ∀ a : Nat, a < H.size → ¬ k_A g a → H1[a]? = H[a]?) : k_O g U H1 := fun k n f hk => (h k n f hk).kept hq
theorem k_Zs.kept {g : k_G} {U : State} {H H1 : Heap} (h : k_Zs g U H) (hq : ∀ a : Nat, a < H.size → ¬ k_A g a → H1[a]? = H[a]?) : k_Zs g U H1 := fun e he => (h e he).kept hq
theorem k_Pc.blind {g : k_G} {As : List Value} {u : k_S} : FrameBlind (k_Pc g As u) := by
  intro a U f mk h
  obtain ⟨h1, h2, h3, h4, h5, h6, h7⟩ := h
  exact ⟨h1, h2, va_K.moved (u := U) (U := U.calling f mk a) (Vm.Alike.refl U.vm) h3, k_O.moved (u := U) (U := U.calling f mk a) (Vm.Alike.refl U.vm) h4, k_Zs.moved (u := U) (U := U.calling f mk a) (Vm.Alike.refl U.vm) h5, h6, k_Nw.same (u := U) (U := U.calling f mk a) rfl h7⟩
theorem k_OK.ofW {g : k_G} {d : Nat} {M : k_M} {As : List Value} {u : k_S} {Q : Option Value → k_S → Prop} (hp : plainFor M.1 = true) (hM : k_tab M) (hn : Nat.ble (lg_sl (As.map (k_v g))).length M.2.2.1 = true) (k : k_W g d M 0 (k_ent 0 As) [] u Q) : k_OK g d M As u Q := by
  refine va_MetF (cc := M.2.1) (maxL := M.2.2.1) (ret := M.2.2.2.1) hp rfl ?_
  intro p e s m args below meth c s₁ B hml hv
  obtain ⟨rfl, hP, hK, hO, hZ, hap, hNw⟩ := hv
  have hts : ∀ w ∈ k_tbl, w.before (As.map (k_v g)).toArray s = true := fun w hw => atoms_spec (ws := k_ws M) B.pre w (List.mem_cons_of_mem _ hw)
  have hown : s.vm.findClass M.1.cls = some m.cls := findClass_of_methodNamed B.named
  have hlocks := B.notSynchronized
  have hr := B.returns
  have hx := B.exec
  have hb := B.bytes
  have hl := lv_entry (As.map (k_v g)) (n := M.2.2.1) (Nat.le_of_ble_eq_true hn)
  rw [lg_entry_eq]
  rw [k_ent_eq] at hl
  have hS : va_S (k_A g) s.heap s.heap [] := va_S.rf
  refine k p e _ s m _ below meth c s.heap [] 0 0 _ _ ⟨hx, hb, hml, hown, hts, hK, hO, hZ, hap, hM, hNw⟩ (Nat.le_refl d) (Nat.le_refl (32 * d)) (Nat.le_refl 0) (Nat.le_refl 0) hP hS hl ?_
  intro r u' H locs pc ls hq hP' hS' hri
  match r, hq, hri with
  | none, hq, hri =>
    exact W.vret hx hb (hr.trans hri.2) (fun t ht hW => ⟨⟨none, u', rfl, hq, by rw [ht]; exact hP'⟩, hS'.F ht⟩) hS'.2.2 hri.1
  | some (.int v), hq, hri =>
    obtain ⟨h1, ty, h2, h3⟩ := hri
    exact W.zret hx hb (hr.trans h2) h3 (fun t ht hW => ⟨⟨some (.int v), u', rfl, hq, by rw [ht]; exact hP'⟩, hS'.F ht⟩) hS'.2.2 h1
  | some (.long v), hq, hri =>
    exact W.lret hx hb (hr.trans hri.2) (fun t ht hW => ⟨⟨some (.long v), u', rfl, hq, by rw [ht]; exact hP'⟩, hS'.F ht⟩) hS'.2.2 hri.1
theorem k_good_tbl : ∀ w ∈ k_tbl, (w.onTables && w.keeps) = true ∨ ∃ ty, w = .arrayClass ty := fun _ hw => good_of_word (List.mem_filter.mp hw).2
theorem k_good {M : k_M} (h : Cond.code M.1 M.2.1 M.2.2.1 M.2.2.2.1 ∈ k_tbl) : GoodIn k_tbl (k_ws M) := by
  intro w hw
  rcases List.mem_cons.mp hw with rfl | hw
  · exact ⟨h, k_good_tbl _ h⟩
  · exact ⟨hw, k_good_tbl _ hw⟩
/-- what the tables say of a method: an instance's, a class's -/
def k_mv (M : k_M) (n : Nat) : Prop := Cond.code M.1 M.2.1 M.2.2.1 M.2.2.2.1 ∈ k_tbl ∧ Cond.initialized M.1.cls ∈ k_tbl ∧ Cond.instanceMethod M.1 ∈ k_tbl ∧ Cond.selects M.1.cls M.1 M.1 ∈ k_tbl ∧ (M.1.cls ≠ "java/lang/invoke/MethodHandle" ∧ M.1.cls ≠ "java/lang/invoke/VarHandle" ∧ (parseMethodDescriptor M.1.desc).map (fun d => d.parameters.length) = some n) ∧ M.2.2.1 ≤ 12
def k_ms (M : k_M) (n : Nat) : Prop := Cond.code M.1 M.2.1 M.2.2.1 M.2.2.2.1 ∈ k_tbl ∧ Cond.initialized M.1.cls ∈ k_tbl ∧ Cond.static M.1 ∈ k_tbl ∧ (M.1.cls ≠ "java/lang/invoke/MethodHandle" ∧ M.1.cls ≠ "java/lang/invoke/VarHandle" ∧ (parseMethodDescriptor M.1.desc).map (fun d => d.parameters.length) = some n) ∧ M.2.2.1 ≤ 12
section KC
variable {p : Program} {l : Launch} {e : Env} {R : Room} {s : State} {m : MethodId} {args : Array Value} {below : List Frame} {meth : Method} {c : Code} {H : Heap} {locs : List Loc} {cells slots : Nat} {Z : State → Prop}
theorem k_after {g : k_G} {Q1 : Option Value → k_S → Prop} {pc : Nat} {ls : Array Slot} {st0 rest : List Value} {a : Array Value} {H0 : Heap} (hr : va_Run p l e R s m args below meth c H locs cells slots 0 0 (F0 m pc ls st0) rest (k_Qc g Q1 a) (k_A g)) (hS : va_S (k_A g) H0 H locs)
    (kk : ∀ (r : Option Value) (u : k_S) (H1 : Heap) (locs1 : List Loc), Q1 r u → va_P (k_D g) vwCl (k_wd g u) H1 → va_S (k_A g) H0 H1 locs1 → W p l e R s m args below meth c H1 locs1 cells slots Z (F0 m (pc + 3) ls (r.toList ++ rest))) : W p l e R s m args below meth c H locs cells slots Z (F0 m pc ls st0) := by
  intro T hT X
  obtain ⟨v, st₀, t, T', L, h0, X', hL, e1, e2, ⟨⟨r, u, hv, hq, hP⟩, hz, hk⟩, st⟩ := hr T hT X
  have hv : v = r := by cases hv; rfl
  subst hv
  rw [h0] at hz hk
  obtain ⟨t2, a1, b1⟩ := kk v u T'.heap (locs ++ L) hq (by rw [e1]; exact hP)
    ⟨Nat.le_trans hS.1 (by rw [e1]; exact hz), fun q h1 h2 => by rw [e1, hk q (Nat.lt_of_lt_of_le h1 hS.1) h2]; exact hS.2.1 q h1 h2, fun q hq => by
      rcases List.mem_append.mp hq with h | h
      · exact hS.2.2 q h
      · exact hL q h⟩ T' rfl X'
  exact ⟨t2, st t2 a1, b1⟩
end KC
section KCC
variable {g : k_G} {d : Nat} {M : k_M} {pc : Nat} {l : List (Nat × Value)} {st : List Value} {u : k_S} {Q : Option Value → k_S → Prop}
theorem k_cat_map (g : k_G) (st : List Value) : ((st.map (k_v g)).map fun v => v.category).sum = (st.map fun v => v.category).sum := by
  rw [List.map_map]
  congr 1
  exact List.map_congr_left fun v _ => k_v_cat g v
/-- a call of an instance's method: by the plain link -/
theorem k_callv {M' : k_M} {As : List Value} {idx b ci n : Nat} {fs : List (Option Nat)} {T : u_T} {N d' : Nat} {Q1 : Option Value → k_S → Prop} (i j : Nat) (hd : k_i M i j = some (pc, .invokevirtual idx, 3)) (hl : Cond.methodLink M.1.cls idx M'.1 ∈ k_tbl) (hM : k_mv M' n) (hn : As.length = n) (hb : k_nth k_lay b = some (.inl (ci, fs))) (hc : k_nth vwCl ci = some (M'.1.cls, T, N)) (hdd : d' + 1 ≤ d) (hst : Nat.ble (st.map fun v => v.category).sum 8 = true) (hOK : k_OK g d' M' (.ref b :: As) u Q1) (k : ∀ r u', Q1 r u' → (∀ x, r = some x → k_v g x = x) → k_W g d M (pc + 3) l (r.toList ++ st) u' Q) (hpr : ∀ r u', Q1 r u' → ∀ x, r = some x → k_v g x = x) : k_W g d M pc l (As.reverse ++ .ref b :: st) u Q := by
  intro p e R s m args below meth c H locs cells slots ls Z F h1 h2 h3 h4 hP hS hl' hR
  have hx := F.1
  have hbb := F.2.1
  have hml := F.2.2.1
  have hown := F.2.2.2.1
  have hts := F.2.2.2.2.1
  have hK := F.2.2.2.2.2.1
  have hO := F.2.2.2.2.2.2.1
  have hZ := F.2.2.2.2.2.2.2.1
  have hap := F.2.2.2.2.2.2.2.2.1
  have ht := F.2.2.2.2.2.2.2.2.2.1
  have hNw := F.2.2.2.2.2.2.2.2.2.2
  obtain ⟨hcode, hini, hinst, hsel, hdd2, hmax⟩ := hM
  have cw : CallW R s args M.1.cls M'.1.cls idx M'.1 M'.2.1 M'.2.2.1 M'.2.2.2.1 (k_ws M') (k_rm d') 0 0 n :=
    ⟨callB_of n hts (k_good hcode) rfl rfl rfl (hts _ hini) (hts _ hl) hdd2 ⟨Nat.le_trans hdd h1, by show 8 + (M'.2.2.1 + 11) + 32 * d' ≤ R.locals; omega⟩, hts _ hinst, hts _ hsel⟩
  have hp : PreV s H M'.1.cls (k_ad g b) (k_Pc g (.ref b :: As) u) (As.map (k_v g)) := by
    refine ⟨k_Pc.blind, va_recv hK hP (by rw [← k_nth_eq]; exact hc) (k_obj hb), fun U hU hW => ⟨rfl, by rw [hU]; exact hP, va_K.moved hW.alike hK, ?_, ?_, hap, k_Nw.warm hW hNw⟩⟩
    · rw [hU]; exact (k_O.moved hW.alike hO).kept hS.2.1
    · rw [hU]; exact (k_Zs.moved hW.alike hZ).kept hS.2.1
  have hrun := va_runV (l := g.1) (below := below) (meth := meth) (locs := locs) (cells := cells) (slots := slots) (e := e) (g := F0 m pc ls ((As.reverse ++ .ref b :: st).map (k_v g))) (rest := st.map (k_v g)) ⟨hx, hbb, hml, hown, hts⟩ hOK cw hp rfl (by rw [List.length_map]; exact hn) hl'.1 (by rw [List.map_append, List.map_reverse]; rfl) (lv_room (by rw [k_cat_map]; exact Nat.le_of_ble_eq_true hst)) (k_i_dec ht hd) ⟨h3, h4⟩
  refine k_after hrun hS (fun r u' H1 locs1 hq hP1 hS1 => ?_)
  have e1 : r.toList ++ st.map (k_v g) = (r.toList ++ st).map (k_v g) := by
    cases r with
    | none => rfl
    | some x => simp [hpr (some x) u' hq x rfl]
  rw [e1]
  exact k r u' hq (hpr r u' hq) p e R s m args below meth c H1 locs1 cells slots ls Z F h1 h2 h3 h4 hP1 hS1 hl' hR
/-- a call of a class's method, by the plain link -/
theorem k_calls {M' : k_M} {As : List Value} {idx n d' : Nat} {Q1 : Option Value → k_S → Prop} (i j : Nat) (hd : k_i M i j = some (pc, .invokestatic idx, 3)) (hl : Cond.methodLink M.1.cls idx M'.1 ∈ k_tbl) (hM : k_ms M' n) (hn : As.length = n) (hdd : d' + 1 ≤ d) (hst : Nat.ble (st.map fun v => v.category).sum 8 = true) (hOK : k_OK g d' M' As u Q1) (k : ∀ r u', Q1 r u' → (∀ x, r = some x → k_v g x = x) → k_W g d M (pc + 3) l (r.toList ++ st) u' Q) (hpr : ∀ r u', Q1 r u' → ∀ x, r = some x → k_v g x = x) : k_W g d M pc l (As.reverse ++ st) u Q := by
  intro p e R s m args below meth c H locs cells slots ls Z F h1 h2 h3 h4 hP hS hl' hR
  have hx := F.1
  have hbb := F.2.1
  have hml := F.2.2.1
  have hown := F.2.2.2.1
  have hts := F.2.2.2.2.1
  have hK := F.2.2.2.2.2.1
  have hO := F.2.2.2.2.2.2.1
  have hZ := F.2.2.2.2.2.2.2.1
  have hap := F.2.2.2.2.2.2.2.2.1
  have ht := F.2.2.2.2.2.2.2.2.2.1
  have hNw := F.2.2.2.2.2.2.2.2.2.2
  obtain ⟨hcode, hini, hstat, hdd2, hmax⟩ := hM
  have cw : CallB R s args M.1.cls idx M'.1 M'.2.1 M'.2.2.1 M'.2.2.2.1 (k_ws M') (k_rm d') 0 0 n ∧ (Cond.static M'.1).before args s = true :=
    ⟨callB_of n hts (k_good hcode) rfl rfl rfl (hts _ hini) (hts _ hl) hdd2 ⟨Nat.le_trans hdd h1, by show 8 + (M'.2.2.1 + 11) + 32 * d' ≤ R.locals; omega⟩, hts _ hstat⟩
  have hp : PreS s H (k_Pc g As u) (As.map (k_v g)) := by
    refine ⟨k_Pc.blind, fun U hU hW => ⟨rfl, by rw [hU]; exact hP, va_K.moved hW.alike hK, ?_, ?_, hap, k_Nw.warm hW hNw⟩⟩
    · rw [hU]; exact (k_O.moved hW.alike hO).kept hS.2.1
    · rw [hU]; exact (k_Zs.moved hW.alike hZ).kept hS.2.1
  have hrun := va_runS (l := g.1) (below := below) (meth := meth) (locs := locs) (cells := cells) (slots := slots) (e := e) (g := F0 m pc ls ((As.reverse ++ st).map (k_v g))) (rest := st.map (k_v g)) ⟨hx, hbb, hml, hown, hts⟩ hOK cw hp rfl (by rw [List.length_map]; exact hn) hl'.1 (by rw [List.map_append, List.map_reverse]) (lv_room (by rw [k_cat_map]; exact Nat.le_of_ble_eq_true hst)) (k_i_dec ht hd) ⟨h3, h4⟩
  refine k_after hrun hS (fun r u' H1 locs1 hq hP1 hS1 => ?_)
  have e1 : r.toList ++ st.map (k_v g) = (r.toList ++ st).map (k_v g) := by
    cases r with
    | none => rfl
    | some x => simp [hpr (some x) u' hq x rfl]
  rw [e1]
  exact k r u' hq (hpr r u' hq) p e R s m args below meth c H1 locs1 cells slots ls Z F h1 h2 h3 h4 hP1 hS1 hl' hR
/-- the same, of a nest mate's private one -/
theorem k_callsN {M' : k_M} {As : List Value} {idx n d' : Nat} {Q1 : Option Value → k_S → Prop} (i j : Nat) (hd : k_i M i j = some (pc, .invokestatic idx, 3)) (hl : Cond.methodLinkNest M.1.cls idx M'.1 "WheelSkips" ∈ k_nest) (hM : k_ms M' n) (hn : As.length = n) (hdd : d' + 1 ≤ d) (hst : Nat.ble (st.map fun v => v.category).sum 8 = true) (hOK : k_OK g d' M' As u Q1) (k : ∀ r u', Q1 r u' → (∀ x, r = some x → k_v g x = x) → k_W g d M (pc + 3) l (r.toList ++ st) u' Q) (hpr : ∀ r u', Q1 r u' → ∀ x, r = some x → k_v g x = x) : k_W g d M pc l (As.reverse ++ st) u Q := by
  intro p e R s m args below meth c H locs cells slots ls Z F h1 h2 h3 h4 hP hS hl' hR
  have hx := F.1
  have hbb := F.2.1
  have hml := F.2.2.1
  have hown := F.2.2.2.1
  have hts := F.2.2.2.2.1
  have hK := F.2.2.2.2.2.1
  have hO := F.2.2.2.2.2.2.1
  have hZ := F.2.2.2.2.2.2.2.1
  have hap := F.2.2.2.2.2.2.2.2.1
  have ht := F.2.2.2.2.2.2.2.2.2.1
  have hNw := F.2.2.2.2.2.2.2.2.2.2
  obtain ⟨hcode, hini, hstat, hdd2, hmax⟩ := hM
  have cw : va_CN R s args M.1.cls idx M'.1 "WheelSkips" M'.2.1 M'.2.2.1 M'.2.2.2.1 (k_ws M') (k_rm d') 0 0 n ∧ (Cond.static M'.1).before args s = true ∧ True :=
    ⟨va_cnB n hts (k_good hcode) rfl rfl rfl (hNw _ hl) (hts _ hini) hdd2 ⟨Nat.le_trans hdd h1, by show 8 + (M'.2.2.1 + 11) + 32 * d' ≤ R.locals; omega⟩, hts _ hstat, trivial⟩
  have hp : PreS s H (k_Pc g As u) (As.map (k_v g)) := by
    refine ⟨k_Pc.blind, fun U hU hW => ⟨rfl, by rw [hU]; exact hP, va_K.moved hW.alike hK, ?_, ?_, hap, k_Nw.warm hW hNw⟩⟩
    · rw [hU]; exact (k_O.moved hW.alike hO).kept hS.2.1
    · rw [hU]; exact (k_Zs.moved hW.alike hZ).kept hS.2.1
  have hrun := va_runSN (l := g.1) (below := below) (meth := meth) (locs := locs) (cells := cells) (slots := slots) (e := e) (g := F0 m pc ls ((As.reverse ++ st).map (k_v g))) (rest := st.map (k_v g)) ⟨hx, hbb, hml, hown, hts⟩ hOK cw hp rfl (by rw [List.length_map]; exact hn) hl'.1 (by rw [List.map_append, List.map_reverse]) (lv_room (by rw [k_cat_map]; exact Nat.le_of_ble_eq_true hst)) (k_i_dec ht hd) ⟨h3, h4⟩
  refine k_after hrun hS (fun r u' H1 locs1 hq hP1 hS1 => ?_)
  have e1 : r.toList ++ st.map (k_v g) = (r.toList ++ st).map (k_v g) := by
    cases r with
    | none => rfl
    | some x => simp [hpr (some x) u' hq x rfl]
  rw [e1]
  exact k r u' hq (hpr r u' hq) p e R s m args below meth c H1 locs1 cells slots ls Z F h1 h2 h3 h4 hP1 hS1 hl' hR
/-! the end of a method, by its answer -/
theorem s_ret (i j : Nat) (hd : k_i M i j = some (pc, .return_, 1)) (hr : M.2.2.2.1 = none) (h : Q none u) : k_W g d M pc l [] u Q := by
  intro p e R s m args below meth c H locs cells slots ls Z F h1 h2 h3 h4 hP hS hl hR
  exact hR none u H locs pc ls h hP hS ⟨k_i_dec F.2.2.2.2.2.2.2.2.2.1 hd, hr⟩
theorem s_iret {x : Int32} (i j : Nat) (hd : k_i M i j = some (pc, .ireturn, 1)) (hr : M.2.2.2.1 = some .int) (h : Q (some (.int x)) u) : k_W g d M pc l [.int x] u Q := by
  intro p e R s m args below meth c H locs cells slots ls Z F h1 h2 h3 h4 hP hS hl hR
  exact hR (some (.int x)) u H locs pc ls h hP hS ⟨k_i_dec F.2.2.2.2.2.2.2.2.2.1 hd, .int, hr, rfl⟩
theorem s_zret {x : Int32} (i j : Nat) (hd : k_i M i j = some (pc, .ireturn, 1)) (hr : M.2.2.2.1 = some .boolean) (hx : x &&& 1 = x) (h : Q (some (.int x)) u) : k_W g d M pc l [.int x] u Q := by
  intro p e R s m args below meth c H locs cells slots ls Z F h1 h2 h3 h4 hP hS hl hR
  exact hR (some (.int x)) u H locs pc ls h hP hS ⟨k_i_dec F.2.2.2.2.2.2.2.2.2.1 hd, .boolean, hr, by show Value.int (x &&& 1) = Value.int x; rw [hx]⟩
theorem s_lret {x : Int64} (i j : Nat) (hd : k_i M i j = some (pc, .lreturn, 1)) (hr : M.2.2.2.1 = some .long) (h : Q (some (.long x)) u) : k_W g d M pc l [.long x] u Q := by
  intro p e R s m args below meth c H locs cells slots ls Z F h1 h2 h3 h4 hP hS hl hR
  exact hR (some (.long x)) u H locs pc ls h hP hS ⟨k_i_dec F.2.2.2.2.2.2.2.2.2.1 hd, hr⟩
end KCC
/-! answers by kind -/
def k_qi (P : Int32 → k_S → Prop) : Option Value → k_S → Prop := fun r u => ∃ x, r = some (.int x) ∧ P x u
def k_ql (P : Int64 → k_S → Prop) : Option Value → k_S → Prop := fun r u => ∃ x, r = some (.long x) ∧ P x u
def k_qv (P : Unit → k_S → Prop) : Option Value → k_S → Prop := fun r u => r = none ∧ P () u
theorem k_qi_pr {g : k_G} {P : Int32 → k_S → Prop} : ∀ r u', k_qi P r u' → ∀ x, r = some x → k_v g x = x := by
  intro r u' ⟨y, h, _⟩ x hx
  rw [h] at hx
  cases hx
  rfl
theorem k_ql_pr {g : k_G} {P : Int64 → k_S → Prop} : ∀ r u', k_ql P r u' → ∀ x, r = some x → k_v g x = x := by
  intro r u' ⟨y, h, _⟩ x hx
  rw [h] at hx
  cases hx
  rfl
theorem k_qv_pr {g : k_G} {P : Unit → k_S → Prop} : ∀ r u', k_qv P r u' → ∀ x, r = some x → k_v g x = x := by
  intro r u' ⟨h, _⟩ x hx
  rw [h] at hx
  cases hx
