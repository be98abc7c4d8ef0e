/-! a constructor whose many rows come one behind another: the object first, then the rows, the newest first; what is done isn't looked at again -/
def x_W (D : va_G) (A : Nat → Prop) (p : Program) (l : Launch) (e : Env) (R : Room) (s : State) (m : MethodId) (args : Array Value) (below : List Frame) (meth : Method) (c : Code) (Z : State → Prop) (ls : Array Slot) (ci h0 N : Nat) (fs : List Value) (ws : va_W) (tys : List (ClassId × FieldType)) (kc ks pc : Nat) (st : List Value) : Prop :=
  ∀ (H : Heap) (locs : List Loc), fs.length = N → va_P D vwCl ((h0, .inr (ci, fs)) :: ws) H → va_K D vwCl tys s → va_D A ((h0, .inr (ci, fs)) :: ws) → va_S A s.heap H locs → W p l e R s m args below meth c H locs kc ks Z (F0 m pc ls st)
def x_ix (n : Nat) : Nat → Nat
  | 0 => 0
  | 1 => n + 1
  | k + 2 => k + 1
theorem x_key {α : Type} {a x : α} {ws : List α} : ∀ (k : Nat) (q : α), (a :: x :: ws)[k]? = some q → (a :: ws ++ [x])[x_ix ws.length k]? = some q ∧ k < ws.length + 2
  | 0, q, h => ⟨h, by omega⟩
  | 1, q, h => by
    refine ⟨?_, by omega⟩
    simp at h
    subst h
    simp [x_ix]
  | k + 2, q, h => by
    simp only [List.getElem?_cons_succ] at h
    have hk : k < ws.length := (List.getElem?_eq_some_iff.mp h).1
    refine ⟨?_, by omega⟩
    simp only [x_ix, List.cons_append, List.getElem?_cons_succ]
    rw [List.getElem?_append_left hk]
    exact h
theorem x_ix_inj {n i j : Nat} (hi : i < n + 2) (hj : j < n + 2) (h : x_ix n i = x_ix n j) : i = j := by
  match i, j with
  | 0, 0 => rfl
  | 0, 1 => simp [x_ix] at h
  | 0, j + 2 => simp [x_ix] at h
  | 1, 0 => simp [x_ix] at h
  | 1, 1 => rfl
  | 1, j + 2 => simp [x_ix] at h; omega
  | i + 2, 0 => simp [x_ix] at h
  | i + 2, 1 => simp [x_ix] at h; omega
  | i + 2, j + 2 => simp [x_ix] at h; omega
theorem x_pP {D : va_G} {a x : Nat × va_E} {ws : va_W} {H : Heap} (h : va_P D vwCl (a :: ws ++ [x]) H) : va_P D vwCl (a :: x :: ws) H := fun k q hk => h _ q (x_key k q hk).1
theorem x_pD {A : Nat → Prop} {a x : Nat × va_E} {ws : va_W} (h : va_D A (a :: ws ++ [x])) : va_D A (a :: x :: ws) :=
  ⟨fun i j p q hp hq e => x_ix_inj (x_key i p hp).2 (x_key j q hq).2 (h.1 _ _ p q (x_key i p hp).1 (x_key j q hq).1 e), fun k q hk => h.2 _ q (x_key k q hk).1⟩
theorem x_pK {D : va_G} {x : ClassId × FieldType} {tys : List (ClassId × FieldType)} {s : State} (h : va_K D vwCl (tys ++ [x]) s) : va_K D vwCl (x :: tys) s := ⟨h.1, fun k q hk => by
  match k, hk with
  | 0, hk => exact h.2 tys.length q (by simpa using hk)
  | k + 1, hk =>
    simp only [List.getElem?_cons_succ] at hk
    exact h.2 k q (by rw [List.getElem?_append_left (List.getElem?_eq_some_iff.mp hk).1]; exact hk)⟩
section XS
variable {D : va_G} {A : Nat → Prop} {p : Program} {l : Launch} {e : Env} {R : Room} {s : State} {m : MethodId} {args : Array Value} {below : List Frame} {meth : Method} {c : Code} {Z : State → Prop} {ls : Array Slot} {ci h0 N0 : Nat} {fs : List Value} {ws : va_W} {tys : List (ClassId × FieldType)} {kc ks pc : Nat} {st : List Value} {cc : ByteArray}
theorem x_low {pc' : Nat} {st' : List Value} (h : ∀ (H : Heap) (locs : List Loc), W p l e R s m args below meth c H locs kc ks Z (F0 m pc' ls st') → W p l e R s m args below meth c H locs kc ks Z (F0 m pc ls st)) (k : x_W D A p l e R s m args below meth c Z ls ci h0 N0 fs ws tys kc ks pc' st') : x_W D A p l e R s m args below meth c Z ls ci h0 N0 fs ws tys kc ks pc st := fun H locs a1 a2 a3 a4 a5 => h H locs (k H locs a1 a2 a3 a4 a5)
theorem x_new (hexec : p.tables.exec = Jvm.exec) (hb : c.code = cc) {atype : ArrayType} (harr : (Cond.arrayClass (newarray.typeOf atype)).before args s = true) {ty : FieldType} (hty : newarray.typeOf atype = ty) (hA : ∀ q, s.heap.size ≤ q → A q)
    {n : Int32} {N' : Nat} {a0 : vp_A} (ha : ∀ cA : ClassId, vp_cell cA a0 = arrV cA N' (fun _ => defaultValue ty)) (hn : ¬ n < 0) (hN : n.toNatClampNeg = N') (hbytes : N' * componentBytes ty ≤ 536870912) (hcells : kc + 1 ≤ R.cells) (hslots : ks + N' ≤ R.slots) (hdg : decode cc pc = .ok (.newarray atype, 2))
    (kk : ∀ (q : Nat) (cA : ClassId), x_W D A p l e R s m args below meth c Z ls ci h0 N0 fs ((q, .inl (cA, a0)) :: ws) ((cA, ty) :: tys) (kc + 1) (ks + N') (pc + 2) (.ref q :: st)) : x_W D A p l e R s m args below meth c Z ls ci h0 N0 fs ws tys kc ks pc (.int n :: st) :=
  fun _ locs a1 hP hK hD hS => va_newa hexec hb harr hty hK hP hD hS hA ha hn hN hbytes hcells hslots hdg (fun q cA H1 hK hP hD hS => kk q cA H1 locs a1 (x_pP hP) (x_pK hK) (x_pD hD) hS)
theorem x_putF (hexec : p.tables.exec = Jvm.exec) (hb : c.code = cc) {own ref C : String} {T : u_T} {N index : Nat} {Ts : List Cond} (hts : ∀ w ∈ Ts, w.before args s = true) (hin : ∀ w ∈ u_ws C T N, w ∈ Ts) (ty0 : Nat → FieldType) (hty : ∀ k, k < N → parseFieldDescriptor (T k).2.2.1 = some (ty0 k)) (hnm : ∀ a, a < N → ∀ b, b < N → a ≠ b → (T a).2.1 ≠ (T b).2.1) (hown : s.vm.findClass own = some m.cls) (hc : vwCl[ci]? = some (C, T, N)) (k : Nat) (hk : k < N) (hkl : k < N0) (hlink : (Cond.fieldLink own index ref (T k).2.1 (T k).2.2.1).before args s = true) (hsame : ∀ x, s.fieldFound? (T k).1 (T k).2.1 (T k).2.2.1 = some x → s.fieldFound? ref (T k).2.1 (T k).2.2.1 = some x) (hfin : (T k).2.2.2 = true) (hin2 : meth.name = "<init>") (hdecl : (T k).1 = own) {ty : FieldType} {v : Value} (hd : parseFieldDescriptor (T k).2.2.1 = some ty) (hn : narrow ty v = v) (hfit : fits ty v = true)
    (hdg : decode cc pc = .ok (.putfield index, 3)) (kk : x_W D A p l e R s m args below meth c Z ls ci h0 N0 (fs.set k v) ws tys kc ks (pc + 3) st) : x_W D A p l e R s m args below meth c Z ls ci h0 N0 fs ws tys kc ks pc (v :: .ref h0 :: st) :=
  fun _ _ a1 hP hK hD hS => va_putF hexec hb hts hin ty0 hty hnm hown hK hP hD hS 0 rfl hc k hk hlink hsame hfin hin2 hdecl hd hn hfit (by rw [a1]; exact hkl) hdg (fun H1 locs1 hP hD hS => kk H1 locs1 (by rw [List.length_set]; exact a1) hP hK hD hS)
theorem x_put (hexec : p.tables.exec = Jvm.exec) (hb : c.code = cc) {own ref C : String} {T : u_T} {N index : Nat} {Ts : List Cond} (hts : ∀ w ∈ Ts, w.before args s = true) (hin : ∀ w ∈ u_ws C T N, w ∈ Ts) (ty0 : Nat → FieldType) (hty : ∀ k, k < N → parseFieldDescriptor (T k).2.2.1 = some (ty0 k)) (hnm : ∀ a, a < N → ∀ b, b < N → a ≠ b → (T a).2.1 ≠ (T b).2.1) (hown : s.vm.findClass own = some m.cls) (hc : vwCl[ci]? = some (C, T, N)) (k : Nat) (hk : k < N) (hkl : k < N0) (hlink : (Cond.fieldLink own index ref (T k).2.1 (T k).2.2.1).before args s = true) (hsame : ∀ x, s.fieldFound? (T k).1 (T k).2.1 (T k).2.2.1 = some x → s.fieldFound? ref (T k).2.1 (T k).2.2.1 = some x) (hfin : (T k).2.2.2 = false) {ty : FieldType} {v : Value} (hd : parseFieldDescriptor (T k).2.2.1 = some ty) (hn : narrow ty v = v) (hfit : fits ty v = true)
    (hdg : decode cc pc = .ok (.putfield index, 3)) (kk : x_W D A p l e R s m args below meth c Z ls ci h0 N0 (fs.set k v) ws tys kc ks (pc + 3) st) : x_W D A p l e R s m args below meth c Z ls ci h0 N0 fs ws tys kc ks pc (v :: .ref h0 :: st) :=
  fun _ _ a1 hP hK hD hS => va_put hexec hb hts hin ty0 hty hnm hown hK hP hD hS 0 rfl hc k hk hlink hsame hfin hd hn hfit (by rw [a1]; exact hkl) hdg (fun H1 locs1 hP hD hS => kk H1 locs1 (by rw [List.length_set]; exact a1) hP hK hD hS)
theorem x_iast (hexec : p.tables.exec = Jvm.exec) (hb : c.code = cc) {q : Nat} {cA : ClassId} {n : Nat} {f : Nat → Int32} {i : Int32} {x : Int32} (hin : vp_in i n) (hdg : decode cc pc = .ok (.iastore, 1))
    (kk : x_W D A p l e R s m args below meth c Z ls ci h0 N0 fs ((q, .inl (cA, n, .inl (upd f i.toNatClampNeg x))) :: ws) ((cA, .int) :: tys) kc ks (pc + 1) st) : x_W D A p l e R s m args below meth c Z ls ci h0 N0 fs ((q, .inl (cA, n, .inl f)) :: ws) ((cA, .int) :: tys) kc ks pc (.int x :: .int i :: .ref q :: st) :=
  fun _ _ a1 hP hK hD hS => va_iast hexec hb hK hP hD hS 1 0 rfl rfl hin hdg (fun H1 locs1 hP hD hS => kk H1 locs1 a1 hP hK hD hS)
end XS
def MX12_init_t0 : List (List (Nat × Instr × Nat)) := [[(0, .aload_n 0, 1), (1, .invokespecial 1, 3), (4, .aload_n 0, 1), (5, .bipush 120, 2), (7, .newarray .byte, 2), (9, .putfield 7, 3), (12, .aload_n 0, 1), (13, .sipush 160, 3), (16, .newarray .int, 2), (18, .putfield 13, 3), (21, .aload_n 0, 1), (22, .iconst 4, 1), (23, .newarray .int, 2), (25, .putfield 17, 3), (28, .aload_n 0, 1), (29, .iconst 4, 1)], [(30, .newarray .int, 2), (32, .putfield 20, 3), (35, .aload_n 0, 1), (36, .iconst 4, 1), (37, .newarray .int, 2), (39, .putfield 23, 3), (42, .aload_n 0, 1), (43, .iconst 4, 1), (44, .newarray .int, 2), (46, .putfield 26, 3), (49, .aload_n 0, 1), (50, .bipush 7, 2), (52, .putfield 29, 3), (55, .aload_n 0, 1), (56, .sipush 260, 3), (59, .newarray .byte, 2)], [(61, .putfield 33, 3), (64, .aload_n 0, 1), (65, .sipush 260, 3), (68, .newarray .int, 2), (70, .putfield 36, 3), (73, .aload_n 0, 1), (74, .iconst 2, 1), (75, .newarray .int, 2), (77, .putfield 39, 3), (80, .aload_n 0, 1), (81, .bipush 122, 2), (83, .newarray .short, 2), (85, .putfield 42, 3), (88, .aload_n 0, 1), (89, .bipush 122, 2), (91, .newarray .short, 2)]]
set_option maxRecDepth 100000 in
theorem MX12_init_d0 : k_dec cX12_init MX12_init_t0 = true := by decide +kernel
def MX12_init_t1 : List (List (Nat × Instr × Nat)) := [[(93, .putfield 46, 3), (96, .aload_n 0, 1), (97, .iconst 4, 1), (98, .newarray .int, 2), (100, .putfield 49, 3), (103, .aload_n 0, 1), (104, .sipush 130, 3), (107, .newarray .int, 2), (109, .putfield 52, 3), (112, .aload_n 0, 1), (113, .bipush 40, 2), (115, .newarray .int, 2), (117, .putfield 55, 3), (120, .aload_n 0, 1), (121, .bipush 40, 2), (123, .newarray .int, 2)], [(125, .putfield 58, 3), (128, .aload_n 0, 1), (129, .bipush 40, 2), (131, .newarray .int, 2), (133, .putfield 61, 3), (136, .aload_n 0, 1), (137, .bipush 40, 2), (139, .newarray .int, 2), (141, .putfield 64, 3), (144, .aload_n 0, 1), (145, .iconst 4, 1), (146, .newarray .int, 2), (148, .putfield 67, 3), (151, .aload_n 0, 1), (152, .iconst 4, 1), (153, .newarray .int, 2)], [(155, .putfield 70, 3), (158, .aload_n 0, 1), (159, .bipush 40, 2), (161, .newarray .boolean, 2), (163, .putfield 73, 3), (166, .aload_n 0, 1), (167, .iconst 3, 1), (168, .newarray .int, 2), (170, .dup, 1), (171, .iconst 0, 1), (172, .bipush 119, 2), (174, .iastore, 1), (175, .dup, 1), (176, .iconst 1, 1), (177, .bipush 115, 2), (179, .iastore, 1)]]
set_option maxRecDepth 100000 in
theorem MX12_init_d1 : k_dec cX12_init MX12_init_t1 = true := by decide +kernel
def MX12_init_t2 : List (List (Nat × Instr × Nat)) := [[(180, .dup, 1), (181, .iconst 2, 1), (182, .bipush 49, 2), (184, .iastore, 1), (185, .putfield 77, 3), (188, .aload_n 0, 1), (189, .bipush 40, 2), (191, .newarray .int, 2), (193, .putfield 80, 3), (196, .aload_n 0, 1), (197, .bipush 40, 2), (199, .newarray .int, 2), (201, .putfield 83, 3), (204, .aload_n 0, 1), (205, .iconst 4, 1), (206, .newarray .int, 2)], [(208, .dup, 1), (209, .iconst 0, 1), (210, .bipush 119, 2), (212, .iastore, 1), (213, .dup, 1), (214, .iconst 1, 1), (215, .bipush 115, 2), (217, .iastore, 1), (218, .dup, 1), (219, .iconst 2, 1), (220, .bipush 102, 2), (222, .iastore, 1), (223, .dup, 1), (224, .iconst 3, 1), (225, .bipush 49, 2), (227, .iastore, 1)], [(228, .putfield 86, 3), (231, .aload_n 0, 1), (232, .bipush 44, 2), (234, .newarray .int, 2), (236, .putfield 89, 3), (239, .aload_n 0, 1), (240, .iconst 4, 1), (241, .newarray .int, 2), (243, .putfield 92, 3), (246, .aload_n 0, 1), (247, .iconst 4, 1), (248, .newarray .int, 2), (250, .putfield 95, 3), (253, .aload_n 0, 1), (254, .bipush 50, 2), (256, .newarray .int, 2)]]
set_option maxRecDepth 100000 in
theorem MX12_init_d2 : k_dec cX12_init MX12_init_t2 = true := by decide +kernel
def MX12_init_t3 : List (List (Nat × Instr × Nat)) := [[(258, .putfield 98, 3), (261, .aload_n 0, 1), (262, .bipush 24, 2), (264, .newarray .int, 2), (266, .putfield 101, 3), (269, .aload_n 0, 1), (270, .bipush 6, 2), (272, .newarray .int, 2), (274, .dup, 1), (275, .iconst 0, 1), (276, .iconst (-1), 1), (277, .iastore, 1), (278, .dup, 1), (279, .iconst 1, 1), (280, .iconst (-1), 1), (281, .iastore, 1)], [(282, .dup, 1), (283, .iconst 2, 1), (284, .iconst (-1), 1), (285, .iastore, 1), (286, .dup, 1), (287, .iconst 3, 1), (288, .iconst (-1), 1), (289, .iastore, 1), (290, .dup, 1), (291, .iconst 4, 1), (292, .iconst (-1), 1), (293, .iastore, 1), (294, .dup, 1), (295, .iconst 5, 1), (296, .iconst (-1), 1), (297, .iastore, 1)], [(298, .putfield 104, 3), (301, .aload_n 0, 1), (302, .bipush 6, 2), (304, .newarray .int, 2), (306, .putfield 107, 3), (309, .aload_n 0, 1), (310, .sipush 360, 3), (313, .newarray .long, 2), (315, .putfield 110, 3), (318, .aload_n 0, 1), (319, .bipush 60, 2), (321, .newarray .long, 2), (323, .putfield 114, 3), (326, .return_, 1)]]
set_option maxRecDepth 100000 in
theorem MX12_init_d3 : k_dec cX12_init MX12_init_t3 = true := by decide +kernel
def MX12_init : k_M := (yX12_init, cX12_init, 1, none, MX12_init_t0 ++ (MX12_init_t1 ++ (MX12_init_t2 ++ (MX12_init_t3))))
theorem MX12_init_dec : k_dec MX12_init.2.1 MX12_init.2.2.2.2 = true := k_dec_app MX12_init_d0 (k_dec_app MX12_init_d1 (k_dec_app MX12_init_d2 (MX12_init_d3)))
theorem vcX12_init : Cond.code MX12_init.1 MX12_init.2.1 MX12_init.2.2.1 MX12_init.2.2.2.1 ∈ k_tbl := (k_in (lw_T3 (List.mem_of_getElem? (i := 191) rfl)) rfl)
set_option maxHeartbeats 4000000 in
set_option maxRecDepth 100000 in
theorem i_X12_init (l : Launch) (dC : Nat → ClassId) (dI : Nat → Nat → Nat) (h0 sz : Nat) : Met l MX12_init.1 (k_ws MX12_init) ({ frames := 1, cells := 33, slots := 2049, locals := 32 }) (va_Pc [.ref h0] (fun U => U.heap.size = sz ∧ va_P (dC, dI) vwCl [(h0, .inr (12, [.int 0, .null, .int 0, .int 0, .null, .null, .null, .null, .null, .int 0, .int 0, .int 0, .int 0, .int 0, .int 0, .int 0, .null, .null, .null, .null, .null, .null, .null, .int 0, .int 0, .int 0, .null, .null, .null, .null, .int 0, .null, .null, .null, .null, .int 0, .null, .null, .null, .null, .int 0, .int 0, .int 0, .null, .null, .int 0, .null, .int 0, .null, .null, .null, .null, .null]))] U.heap ∧ va_K (dC, dI) vwCl [] U ∧ va_D (fun _ => True) [(h0, .inr (12, [.int 0, .null, .int 0, .int 0, .null, .null, .null, .null, .null, .int 0, .int 0, .int 0, .int 0, .int 0, .int 0, .int 0, .null, .null, .null, .null, .null, .null, .null, .int 0, .int 0, .int 0, .null, .null, .null, .null, .int 0, .null, .null, .null, .null, .int 0, .null, .null, .null, .null, .int 0, .int 0, .int 0, .null, .null, .int 0, .null, .int 0, .null, .null, .null, .null, .null]))] ∧ k_Nw U)) (va_Qv (fun _ : Unit => True) (fun (_ : Unit) t => ∃ (ad : Nat → Nat) (ca : Nat → ClassId), ad 42 = h0 ∧ va_P (dC, dI) vwCl (k_w (x_g l (dC, dI) ad ca) z_u0 42 x_layM) t.heap ∧ va_K (dC, dI) vwCl (k_tys (x_g l (dC, dI) ad ca) 42 x_layM) t ∧ va_D (va_A [(h0, .inr (12, [.int 0, .null, .int 0, .int 0, .null, .null, .null, .null, .null, .int 0, .int 0, .int 0, .int 0, .int 0, .int 0, .int 0, .null, .null, .null, .null, .null, .null, .null, .int 0, .int 0, .int 0, .null, .null, .null, .null, .int 0, .null, .null, .null, .null, .int 0, .null, .null, .null, .null, .int 0, .int 0, .int 0, .null, .null, .int 0, .null, .int 0, .null, .null, .null, .null, .null]))] sz) (k_w (x_g l (dC, dI) ad ca) z_u0 42 x_layM)) (va_A [(h0, .inr (12, [.int 0, .null, .int 0, .int 0, .null, .null, .null, .null, .null, .int 0, .int 0, .int 0, .int 0, .int 0, .int 0, .int 0, .null, .null, .null, .null, .null, .null, .null, .int 0, .int 0, .int 0, .null, .null, .null, .null, .int 0, .null, .null, .null, .null, .int 0, .null, .null, .null, .null, .int 0, .int 0, .int 0, .null, .null, .int 0, .null, .int 0, .null, .null, .null, .null, .null]))] sz)) 33 2049 (va_A [(h0, .inr (12, [.int 0, .null, .int 0, .int 0, .null, .null, .null, .null, .null, .int 0, .int 0, .int 0, .int 0, .int 0, .int 0, .int 0, .null, .null, .null, .null, .null, .null, .null, .int 0, .int 0, .int 0, .null, .null, .null, .null, .int 0, .null, .null, .null, .null, .int 0, .null, .null, .null, .null, .int 0, .int 0, .int 0, .null, .null, .int 0, .null, .int 0, .null, .null, .null, .null, .null]))] sz) := by
  refine Met.ofW (cc := MX12_init.2.1) (maxL := 1) (ret := none) (by decide) rfl ?_
  intro p e s m args below meth c s₁ B hml hv
  obtain ⟨rfl, hsz, hP, hK, hD0, hNw⟩ := hv
  have hx := B.exec
  have hb := B.bytes
  have hr := B.returns
  have hts : ∀ w ∈ k_tbl, w.before [.ref h0].toArray s = true := fun w hw => atoms_spec (ws := k_ws MX12_init) B.pre w (List.mem_cons_of_mem _ hw)
  have hown : s.vm.findClass RX12 = some m.cls := findClass_of_methodNamed B.named
  have hlocks := B.notSynchronized
  have hin : meth.name = "<init>" := (name_of_methodNamed B.named B.method).1
  have ht := k_tab_of MX12_init_dec
  subst hsz
  have hD := hD0.self (sz := s.heap.size)
  generalize hAe : va_A [(h0, .inr (12, [.int 0, .null, .int 0, .int 0, .null, .null, .null, .null, .null, .int 0, .int 0, .int 0, .int 0, .int 0, .int 0, .int 0, .null, .null, .null, .null, .null, .null, .null, .int 0, .int 0, .int 0, .null, .null, .null, .null, .int 0, .null, .null, .null, .null, .int 0, .null, .null, .null, .null, .int 0, .int 0, .int 0, .null, .null, .int 0, .null, .int 0, .null, .null, .null, .null, .null]))] s.heap.size = A at hD ⊢
  have hA : ∀ q : Nat, s.heap.size ≤ q → A q := fun q h => by rw [← hAe]; exact Or.inr h
  have hl := lv_entry ([.ref h0]) (n := 1) (Nat.le_of_ble_eq_true rfl)
  rw [lg_entry_eq]
  generalize (lg_sl ([.ref h0]) ++ List.replicate (1 - (lg_sl ([.ref h0])).length) Slot.unset).toArray = ls at hl ⊢
  have hl : lv_has ls 1 [(0, .ref h0)] := hl
  refine (?_ : x_W (dC, dI) A p l e _ s m [.ref h0].toArray below meth c _ ls 12 h0 53 [.int 0, .null, .int 0, .int 0, .null, .null, .null, .null, .null, .int 0, .int 0, .int 0, .int 0, .int 0, .int 0, .int 0, .null, .null, .null, .null, .null, .null, .null, .int 0, .int 0, .int 0, .null, .null, .null, .null, .int 0, .null, .null, .null, .null, .int 0, .null, .null, .null, .null, .int 0, .int 0, .int 0, .null, .null, .int 0, .null, .int 0, .null, .null, .null, .null, .null] [] [] 0 0 0 []) s.heap [] rfl hP hK hD va_S.rf
  refine x_low (pc' := 1) (st' := [.ref h0]) (fun H locs k => lv_aload_n hx hb (k_i_dec ht (i := 0) (j := 0) rfl) rfl (lv_at hl 0 rfl) k) ?_
  refine x_low (pc' := 4) (st' := []) (fun H locs k => W.objInit hx hb hown (hts (.methodLink RX12 1 objectInit) (k_in (lw_T3 (List.mem_of_getElem? (i := 192) rfl)) rfl)) (hts (.instanceMethod objectInit) (k_in (lw_T0 (List.mem_of_getElem? (i := 22) rfl)) rfl)) (hts (.code objectInit ⟨#[0xb1]⟩ 1 none) (k_in (lw_T0 (List.mem_of_getElem? (i := 23) rfl)) rfl)) rfl (by rw [hml]; exact hl.1) rfl (k_i_dec ht (i := 0) (j := 1) rfl) (Nat.le_of_ble_eq_true rfl) (Nat.le_of_ble_eq_true rfl) (W.eq (g2 := F0 m 4 ls []) rfl k)) ?_
  refine x_low (pc' := 5) (st' := [.ref h0]) (fun H locs k => lv_aload_n hx hb (k_i_dec ht (i := 0) (j := 2) rfl) rfl (lv_at hl 0 rfl) k) ?_
  refine x_low (pc' := 7) (st' := [.int 120, .ref h0]) (fun H locs k => lv_bipush (v := 120) hx hb (k_i_dec ht (i := 0) (j := 3) rfl) (by decide) k) ?_
  refine x_new (atype := .byte) (ty := .byte) (a0 := (120, .inl (fun _ => 0))) (N' := 120) hx hb (hts (.arrayClass .byte) (k_in (lw_T4 (List.mem_of_getElem? (i := 112) rfl)) rfl)) rfl hA (fun _ => rfl) (by decide) (by decide) (Nat.le_of_ble_eq_true rfl) (Nat.le_of_ble_eq_true rfl) (Nat.le_of_ble_eq_true rfl) (k_i_dec ht (i := 0) (j := 4) rfl) (fun q131 c132 => ?_)
  refine x_putF (ty := .array .byte) (v := .ref q131) (C := RX12) (T := TX12) (N := 53) hx hb hts k_u12 tyX12 tyX12_ok nmX12 hown rfl 1 (by decide) (by decide) (hts _ k_fl87) (fun _ z => z) rfl hin rfl (by decide +kernel) rfl rfl (k_i_dec ht (i := 0) (j := 5) rfl) ?_
  refine x_low (pc' := 13) (st' := [.ref h0]) (fun H locs k => lv_aload_n hx hb (k_i_dec ht (i := 0) (j := 6) rfl) rfl (lv_at hl 0 rfl) k) ?_
  refine x_low (pc' := 16) (st' := [.int 160, .ref h0]) (fun H locs k => lv_sipush (v := 160) hx hb (k_i_dec ht (i := 0) (j := 7) rfl) (by decide) k) ?_
  refine x_new (atype := .int) (ty := .int) (a0 := (160, .inl (fun _ => 0))) (N' := 160) hx hb (hts (.arrayClass .int) (k_in (lw_T0 (List.mem_of_getElem? (i := 40) rfl)) rfl)) rfl hA (fun _ => rfl) (by decide) (by decide) (Nat.le_of_ble_eq_true rfl) (Nat.le_of_ble_eq_true rfl) (Nat.le_of_ble_eq_true rfl) (k_i_dec ht (i := 0) (j := 8) rfl) (fun q133 c134 => ?_)
  refine x_putF (ty := .array .int) (v := .ref q133) (C := RX12) (T := TX12) (N := 53) hx hb hts k_u12 tyX12 tyX12_ok nmX12 hown rfl 4 (by decide) (by decide) (hts _ k_fl88) (fun _ z => z) rfl hin rfl (by decide +kernel) rfl rfl (k_i_dec ht (i := 0) (j := 9) rfl) ?_
  refine x_low (pc' := 22) (st' := [.ref h0]) (fun H locs k => lv_aload_n hx hb (k_i_dec ht (i := 0) (j := 10) rfl) rfl (lv_at hl 0 rfl) k) ?_
  refine x_low (pc' := 23) (st' := [.int 4, .ref h0]) (fun H locs k => lv_iconst (v := 4) hx hb (k_i_dec ht (i := 0) (j := 11) rfl) (by decide) k) ?_
  refine x_new (atype := .int) (ty := .int) (a0 := (4, .inl (fun _ => 0))) (N' := 4) hx hb (hts (.arrayClass .int) (k_in (lw_T0 (List.mem_of_getElem? (i := 40) rfl)) rfl)) rfl hA (fun _ => rfl) (by decide) (by decide) (Nat.le_of_ble_eq_true rfl) (Nat.le_of_ble_eq_true rfl) (Nat.le_of_ble_eq_true rfl) (k_i_dec ht (i := 0) (j := 12) rfl) (fun q135 c136 => ?_)
  refine x_putF (ty := .array .int) (v := .ref q135) (C := RX12) (T := TX12) (N := 53) hx hb hts k_u12 tyX12 tyX12_ok nmX12 hown rfl 5 (by decide) (by decide) (hts _ k_fl89) (fun _ z => z) rfl hin rfl (by decide +kernel) rfl rfl (k_i_dec ht (i := 0) (j := 13) rfl) ?_
  refine x_low (pc' := 29) (st' := [.ref h0]) (fun H locs k => lv_aload_n hx hb (k_i_dec ht (i := 0) (j := 14) rfl) rfl (lv_at hl 0 rfl) k) ?_
  refine x_low (pc' := 30) (st' := [.int 4, .ref h0]) (fun H locs k => lv_iconst (v := 4) hx hb (k_i_dec ht (i := 0) (j := 15) rfl) (by decide) k) ?_
  refine x_new (atype := .int) (ty := .int) (a0 := (4, .inl (fun _ => 0))) (N' := 4) hx hb (hts (.arrayClass .int) (k_in (lw_T0 (List.mem_of_getElem? (i := 40) rfl)) rfl)) rfl hA (fun _ => rfl) (by decide) (by decide) (Nat.le_of_ble_eq_true rfl) (Nat.le_of_ble_eq_true rfl) (Nat.le_of_ble_eq_true rfl) (k_i_dec ht (i := 1) (j := 0) rfl) (fun q137 c138 => ?_)
  refine x_putF (ty := .array .int) (v := .ref q137) (C := RX12) (T := TX12) (N := 53) hx hb hts k_u12 tyX12 tyX12_ok nmX12 hown rfl 6 (by decide) (by decide) (hts _ k_fl90) (fun _ z => z) rfl hin rfl (by decide +kernel) rfl rfl (k_i_dec ht (i := 1) (j := 1) rfl) ?_
  refine x_low (pc' := 36) (st' := [.ref h0]) (fun H locs k => lv_aload_n hx hb (k_i_dec ht (i := 1) (j := 2) rfl) rfl (lv_at hl 0 rfl) k) ?_
  refine x_low (pc' := 37) (st' := [.int 4, .ref h0]) (fun H locs k => lv_iconst (v := 4) hx hb (k_i_dec ht (i := 1) (j := 3) rfl) (by decide) k) ?_
  refine x_new (atype := .int) (ty := .int) (a0 := (4, .inl (fun _ => 0))) (N' := 4) hx hb (hts (.arrayClass .int) (k_in (lw_T0 (List.mem_of_getElem? (i := 40) rfl)) rfl)) rfl hA (fun _ => rfl) (by decide) (by decide) (Nat.le_of_ble_eq_true rfl) (Nat.le_of_ble_eq_true rfl) (Nat.le_of_ble_eq_true rfl) (k_i_dec ht (i := 1) (j := 4) rfl) (fun q139 c140 => ?_)
  refine x_putF (ty := .array .int) (v := .ref q139) (C := RX12) (T := TX12) (N := 53) hx hb hts k_u12 tyX12 tyX12_ok nmX12 hown rfl 7 (by decide) (by decide) (hts _ k_fl91) (fun _ z => z) rfl hin rfl (by decide +kernel) rfl rfl (k_i_dec ht (i := 1) (j := 5) rfl) ?_
  refine x_low (pc' := 43) (st' := [.ref h0]) (fun H locs k => lv_aload_n hx hb (k_i_dec ht (i := 1) (j := 6) rfl) rfl (lv_at hl 0 rfl) k) ?_
  refine x_low (pc' := 44) (st' := [.int 4, .ref h0]) (fun H locs k => lv_iconst (v := 4) hx hb (k_i_dec ht (i := 1) (j := 7) rfl) (by decide) k) ?_
  refine x_new (atype := .int) (ty := .int) (a0 := (4, .inl (fun _ => 0))) (N' := 4) hx hb (hts (.arrayClass .int) (k_in (lw_T0 (List.mem_of_getElem? (i := 40) rfl)) rfl)) rfl hA (fun _ => rfl) (by decide) (by decide) (Nat.le_of_ble_eq_true rfl) (Nat.le_of_ble_eq_true rfl) (Nat.le_of_ble_eq_true rfl) (k_i_dec ht (i := 1) (j := 8) rfl) (fun q141 c142 => ?_)
  refine x_putF (ty := .array .int) (v := .ref q141) (C := RX12) (T := TX12) (N := 53) hx hb hts k_u12 tyX12 tyX12_ok nmX12 hown rfl 8 (by decide) (by decide) (hts _ k_fl92) (fun _ z => z) rfl hin rfl (by decide +kernel) rfl rfl (k_i_dec ht (i := 1) (j := 9) rfl) ?_
  refine x_low (pc' := 50) (st' := [.ref h0]) (fun H locs k => lv_aload_n hx hb (k_i_dec ht (i := 1) (j := 10) rfl) rfl (lv_at hl 0 rfl) k) ?_
  refine x_low (pc' := 52) (st' := [.int 7, .ref h0]) (fun H locs k => lv_bipush (v := 7) hx hb (k_i_dec ht (i := 1) (j := 11) rfl) (by decide) k) ?_
  refine x_put (ty := .int) (v := .int 7) (C := RX12) (T := TX12) (N := 53) hx hb hts k_u12 tyX12 tyX12_ok nmX12 hown rfl 10 (by decide) (by decide) (hts _ k_fl93) (fun _ z => z) rfl (by decide +kernel) rfl rfl (k_i_dec ht (i := 1) (j := 12) rfl) ?_
  refine x_low (pc' := 56) (st' := [.ref h0]) (fun H locs k => lv_aload_n hx hb (k_i_dec ht (i := 1) (j := 13) rfl) rfl (lv_at hl 0 rfl) k) ?_
  refine x_low (pc' := 59) (st' := [.int 260, .ref h0]) (fun H locs k => lv_sipush (v := 260) hx hb (k_i_dec ht (i := 1) (j := 14) rfl) (by decide) k) ?_
  refine x_new (atype := .byte) (ty := .byte) (a0 := (260, .inl (fun _ => 0))) (N' := 260) hx hb (hts (.arrayClass .byte) (k_in (lw_T4 (List.mem_of_getElem? (i := 112) rfl)) rfl)) rfl hA (fun _ => rfl) (by decide) (by decide) (Nat.le_of_ble_eq_true rfl) (Nat.le_of_ble_eq_true rfl) (Nat.le_of_ble_eq_true rfl) (k_i_dec ht (i := 1) (j := 15) rfl) (fun q143 c144 => ?_)
  refine x_putF (ty := .array .byte) (v := .ref q143) (C := RX12) (T := TX12) (N := 53) hx hb hts k_u12 tyX12 tyX12_ok nmX12 hown rfl 16 (by decide) (by decide) (hts _ k_fl94) (fun _ z => z) rfl hin rfl (by decide +kernel) rfl rfl (k_i_dec ht (i := 2) (j := 0) rfl) ?_
  refine x_low (pc' := 65) (st' := [.ref h0]) (fun H locs k => lv_aload_n hx hb (k_i_dec ht (i := 2) (j := 1) rfl) rfl (lv_at hl 0 rfl) k) ?_
  refine x_low (pc' := 68) (st' := [.int 260, .ref h0]) (fun H locs k => lv_sipush (v := 260) hx hb (k_i_dec ht (i := 2) (j := 2) rfl) (by decide) k) ?_
  refine x_new (atype := .int) (ty := .int) (a0 := (260, .inl (fun _ => 0))) (N' := 260) hx hb (hts (.arrayClass .int) (k_in (lw_T0 (List.mem_of_getElem? (i := 40) rfl)) rfl)) rfl hA (fun _ => rfl) (by decide) (by decide) (Nat.le_of_ble_eq_true rfl) (Nat.le_of_ble_eq_true rfl) (Nat.le_of_ble_eq_true rfl) (k_i_dec ht (i := 2) (j := 3) rfl) (fun q145 c146 => ?_)
  refine x_putF (ty := .array .int) (v := .ref q145) (C := RX12) (T := TX12) (N := 53) hx hb hts k_u12 tyX12 tyX12_ok nmX12 hown rfl 17 (by decide) (by decide) (hts _ k_fl95) (fun _ z => z) rfl hin rfl (by decide +kernel) rfl rfl (k_i_dec ht (i := 2) (j := 4) rfl) ?_
  refine x_low (pc' := 74) (st' := [.ref h0]) (fun H locs k => lv_aload_n hx hb (k_i_dec ht (i := 2) (j := 5) rfl) rfl (lv_at hl 0 rfl) k) ?_
  refine x_low (pc' := 75) (st' := [.int 2, .ref h0]) (fun H locs k => lv_iconst (v := 2) hx hb (k_i_dec ht (i := 2) (j := 6) rfl) (by decide) k) ?_
  refine x_new (atype := .int) (ty := .int) (a0 := (2, .inl (fun _ => 0))) (N' := 2) hx hb (hts (.arrayClass .int) (k_in (lw_T0 (List.mem_of_getElem? (i := 40) rfl)) rfl)) rfl hA (fun _ => rfl) (by decide) (by decide) (Nat.le_of_ble_eq_true rfl) (Nat.le_of_ble_eq_true rfl) (Nat.le_of_ble_eq_true rfl) (k_i_dec ht (i := 2) (j := 7) rfl) (fun q147 c148 => ?_)
  refine x_putF (ty := .array .int) (v := .ref q147) (C := RX12) (T := TX12) (N := 53) hx hb hts k_u12 tyX12 tyX12_ok nmX12 hown rfl 18 (by decide) (by decide) (hts _ k_fl96) (fun _ z => z) rfl hin rfl (by decide +kernel) rfl rfl (k_i_dec ht (i := 2) (j := 8) rfl) ?_
  refine x_low (pc' := 81) (st' := [.ref h0]) (fun H locs k => lv_aload_n hx hb (k_i_dec ht (i := 2) (j := 9) rfl) rfl (lv_at hl 0 rfl) k) ?_
  refine x_low (pc' := 83) (st' := [.int 122, .ref h0]) (fun H locs k => lv_bipush (v := 122) hx hb (k_i_dec ht (i := 2) (j := 10) rfl) (by decide) k) ?_
  refine x_new (atype := .short) (ty := .short) (a0 := (122, .inl (fun _ => 0))) (N' := 122) hx hb (hts (.arrayClass .short) (k_in (lw_T4 (List.mem_of_getElem? (i := 113) rfl)) rfl)) rfl hA (fun _ => rfl) (by decide) (by decide) (Nat.le_of_ble_eq_true rfl) (Nat.le_of_ble_eq_true rfl) (Nat.le_of_ble_eq_true rfl) (k_i_dec ht (i := 2) (j := 11) rfl) (fun q149 c150 => ?_)
  refine x_putF (ty := .array .short) (v := .ref q149) (C := RX12) (T := TX12) (N := 53) hx hb hts k_u12 tyX12 tyX12_ok nmX12 hown rfl 19 (by decide) (by decide) (hts _ k_fl97) (fun _ z => z) rfl hin rfl (by decide +kernel) rfl rfl (k_i_dec ht (i := 2) (j := 12) rfl) ?_
  refine x_low (pc' := 89) (st' := [.ref h0]) (fun H locs k => lv_aload_n hx hb (k_i_dec ht (i := 2) (j := 13) rfl) rfl (lv_at hl 0 rfl) k) ?_
  refine x_low (pc' := 91) (st' := [.int 122, .ref h0]) (fun H locs k => lv_bipush (v := 122) hx hb (k_i_dec ht (i := 2) (j := 14) rfl) (by decide) k) ?_
  refine x_new (atype := .short) (ty := .short) (a0 := (122, .inl (fun _ => 0))) (N' := 122) hx hb (hts (.arrayClass .short) (k_in (lw_T4 (List.mem_of_getElem? (i := 113) rfl)) rfl)) rfl hA (fun _ => rfl) (by decide) (by decide) (Nat.le_of_ble_eq_true rfl) (Nat.le_of_ble_eq_true rfl) (Nat.le_of_ble_eq_true rfl) (k_i_dec ht (i := 2) (j := 15) rfl) (fun q151 c152 => ?_)
  refine x_putF (ty := .array .short) (v := .ref q151) (C := RX12) (T := TX12) (N := 53) hx hb hts k_u12 tyX12 tyX12_ok nmX12 hown rfl 20 (by decide) (by decide) (hts _ k_fl98) (fun _ z => z) rfl hin rfl (by decide +kernel) rfl rfl (k_i_dec ht (i := 3) (j := 0) rfl) ?_
  refine x_low (pc' := 97) (st' := [.ref h0]) (fun H locs k => lv_aload_n hx hb (k_i_dec ht (i := 3) (j := 1) rfl) rfl (lv_at hl 0 rfl) k) ?_
  refine x_low (pc' := 98) (st' := [.int 4, .ref h0]) (fun H locs k => lv_iconst (v := 4) hx hb (k_i_dec ht (i := 3) (j := 2) rfl) (by decide) k) ?_
  refine x_new (atype := .int) (ty := .int) (a0 := (4, .inl (fun _ => 0))) (N' := 4) hx hb (hts (.arrayClass .int) (k_in (lw_T0 (List.mem_of_getElem? (i := 40) rfl)) rfl)) rfl hA (fun _ => rfl) (by decide) (by decide) (Nat.le_of_ble_eq_true rfl) (Nat.le_of_ble_eq_true rfl) (Nat.le_of_ble_eq_true rfl) (k_i_dec ht (i := 3) (j := 3) rfl) (fun q153 c154 => ?_)
  refine x_putF (ty := .array .int) (v := .ref q153) (C := RX12) (T := TX12) (N := 53) hx hb hts k_u12 tyX12 tyX12_ok nmX12 hown rfl 21 (by decide) (by decide) (hts _ k_fl99) (fun _ z => z) rfl hin rfl (by decide +kernel) rfl rfl (k_i_dec ht (i := 3) (j := 4) rfl) ?_
  refine x_low (pc' := 104) (st' := [.ref h0]) (fun H locs k => lv_aload_n hx hb (k_i_dec ht (i := 3) (j := 5) rfl) rfl (lv_at hl 0 rfl) k) ?_
  refine x_low (pc' := 107) (st' := [.int 130, .ref h0]) (fun H locs k => lv_sipush (v := 130) hx hb (k_i_dec ht (i := 3) (j := 6) rfl) (by decide) k) ?_
  refine x_new (atype := .int) (ty := .int) (a0 := (130, .inl (fun _ => 0))) (N' := 130) hx hb (hts (.arrayClass .int) (k_in (lw_T0 (List.mem_of_getElem? (i := 40) rfl)) rfl)) rfl hA (fun _ => rfl) (by decide) (by decide) (Nat.le_of_ble_eq_true rfl) (Nat.le_of_ble_eq_true rfl) (Nat.le_of_ble_eq_true rfl) (k_i_dec ht (i := 3) (j := 7) rfl) (fun q155 c156 => ?_)
  refine x_putF (ty := .array .int) (v := .ref q155) (C := RX12) (T := TX12) (N := 53) hx hb hts k_u12 tyX12 tyX12_ok nmX12 hown rfl 22 (by decide) (by decide) (hts _ k_fl100) (fun _ z => z) rfl hin rfl (by decide +kernel) rfl rfl (k_i_dec ht (i := 3) (j := 8) rfl) ?_
  refine x_low (pc' := 113) (st' := [.ref h0]) (fun H locs k => lv_aload_n hx hb (k_i_dec ht (i := 3) (j := 9) rfl) rfl (lv_at hl 0 rfl) k) ?_
  refine x_low (pc' := 115) (st' := [.int 40, .ref h0]) (fun H locs k => lv_bipush (v := 40) hx hb (k_i_dec ht (i := 3) (j := 10) rfl) (by decide) k) ?_
  refine x_new (atype := .int) (ty := .int) (a0 := (40, .inl (fun _ => 0))) (N' := 40) hx hb (hts (.arrayClass .int) (k_in (lw_T0 (List.mem_of_getElem? (i := 40) rfl)) rfl)) rfl hA (fun _ => rfl) (by decide) (by decide) (Nat.le_of_ble_eq_true rfl) (Nat.le_of_ble_eq_true rfl) (Nat.le_of_ble_eq_true rfl) (k_i_dec ht (i := 3) (j := 11) rfl) (fun q157 c158 => ?_)
  refine x_putF (ty := .array .int) (v := .ref q157) (C := RX12) (T := TX12) (N := 53) hx hb hts k_u12 tyX12 tyX12_ok nmX12 hown rfl 26 (by decide) (by decide) (hts _ k_fl101) (fun _ z => z) rfl hin rfl (by decide +kernel) rfl rfl (k_i_dec ht (i := 3) (j := 12) rfl) ?_
  refine x_low (pc' := 121) (st' := [.ref h0]) (fun H locs k => lv_aload_n hx hb (k_i_dec ht (i := 3) (j := 13) rfl) rfl (lv_at hl 0 rfl) k) ?_
  refine x_low (pc' := 123) (st' := [.int 40, .ref h0]) (fun H locs k => lv_bipush (v := 40) hx hb (k_i_dec ht (i := 3) (j := 14) rfl) (by decide) k) ?_
  refine x_new (atype := .int) (ty := .int) (a0 := (40, .inl (fun _ => 0))) (N' := 40) hx hb (hts (.arrayClass .int) (k_in (lw_T0 (List.mem_of_getElem? (i := 40) rfl)) rfl)) rfl hA (fun _ => rfl) (by decide) (by decide) (Nat.le_of_ble_eq_true rfl) (Nat.le_of_ble_eq_true rfl) (Nat.le_of_ble_eq_true rfl) (k_i_dec ht (i := 3) (j := 15) rfl) (fun q159 c160 => ?_)
  refine x_putF (ty := .array .int) (v := .ref q159) (C := RX12) (T := TX12) (N := 53) hx hb hts k_u12 tyX12 tyX12_ok nmX12 hown rfl 27 (by decide) (by decide) (hts _ k_fl102) (fun _ z => z) rfl hin rfl (by decide +kernel) rfl rfl (k_i_dec ht (i := 4) (j := 0) rfl) ?_
  refine x_low (pc' := 129) (st' := [.ref h0]) (fun H locs k => lv_aload_n hx hb (k_i_dec ht (i := 4) (j := 1) rfl) rfl (lv_at hl 0 rfl) k) ?_
  refine x_low (pc' := 131) (st' := [.int 40, .ref h0]) (fun H locs k => lv_bipush (v := 40) hx hb (k_i_dec ht (i := 4) (j := 2) rfl) (by decide) k) ?_
  refine x_new (atype := .int) (ty := .int) (a0 := (40, .inl (fun _ => 0))) (N' := 40) hx hb (hts (.arrayClass .int) (k_in (lw_T0 (List.mem_of_getElem? (i := 40) rfl)) rfl)) rfl hA (fun _ => rfl) (by decide) (by decide) (Nat.le_of_ble_eq_true rfl) (Nat.le_of_ble_eq_true rfl) (Nat.le_of_ble_eq_true rfl) (k_i_dec ht (i := 4) (j := 3) rfl) (fun q161 c162 => ?_)
  refine x_putF (ty := .array .int) (v := .ref q161) (C := RX12) (T := TX12) (N := 53) hx hb hts k_u12 tyX12 tyX12_ok nmX12 hown rfl 28 (by decide) (by decide) (hts _ k_fl103) (fun _ z => z) rfl hin rfl (by decide +kernel) rfl rfl (k_i_dec ht (i := 4) (j := 4) rfl) ?_
  refine x_low (pc' := 137) (st' := [.ref h0]) (fun H locs k => lv_aload_n hx hb (k_i_dec ht (i := 4) (j := 5) rfl) rfl (lv_at hl 0 rfl) k) ?_
  refine x_low (pc' := 139) (st' := [.int 40, .ref h0]) (fun H locs k => lv_bipush (v := 40) hx hb (k_i_dec ht (i := 4) (j := 6) rfl) (by decide) k) ?_
  refine x_new (atype := .int) (ty := .int) (a0 := (40, .inl (fun _ => 0))) (N' := 40) hx hb (hts (.arrayClass .int) (k_in (lw_T0 (List.mem_of_getElem? (i := 40) rfl)) rfl)) rfl hA (fun _ => rfl) (by decide) (by decide) (Nat.le_of_ble_eq_true rfl) (Nat.le_of_ble_eq_true rfl) (Nat.le_of_ble_eq_true rfl) (k_i_dec ht (i := 4) (j := 7) rfl) (fun q163 c164 => ?_)
  refine x_putF (ty := .array .int) (v := .ref q163) (C := RX12) (T := TX12) (N := 53) hx hb hts k_u12 tyX12 tyX12_ok nmX12 hown rfl 29 (by decide) (by decide) (hts _ k_fl104) (fun _ z => z) rfl hin rfl (by decide +kernel) rfl rfl (k_i_dec ht (i := 4) (j := 8) rfl) ?_
  refine x_low (pc' := 145) (st' := [.ref h0]) (fun H locs k => lv_aload_n hx hb (k_i_dec ht (i := 4) (j := 9) rfl) rfl (lv_at hl 0 rfl) k) ?_
  refine x_low (pc' := 146) (st' := [.int 4, .ref h0]) (fun H locs k => lv_iconst (v := 4) hx hb (k_i_dec ht (i := 4) (j := 10) rfl) (by decide) k) ?_
  refine x_new (atype := .int) (ty := .int) (a0 := (4, .inl (fun _ => 0))) (N' := 4) hx hb (hts (.arrayClass .int) (k_in (lw_T0 (List.mem_of_getElem? (i := 40) rfl)) rfl)) rfl hA (fun _ => rfl) (by decide) (by decide) (Nat.le_of_ble_eq_true rfl) (Nat.le_of_ble_eq_true rfl) (Nat.le_of_ble_eq_true rfl) (k_i_dec ht (i := 4) (j := 11) rfl) (fun q165 c166 => ?_)
  refine x_putF (ty := .array .int) (v := .ref q165) (C := RX12) (T := TX12) (N := 53) hx hb hts k_u12 tyX12 tyX12_ok nmX12 hown rfl 31 (by decide) (by decide) (hts _ k_fl105) (fun _ z => z) rfl hin rfl (by decide +kernel) rfl rfl (k_i_dec ht (i := 4) (j := 12) rfl) ?_
  refine x_low (pc' := 152) (st' := [.ref h0]) (fun H locs k => lv_aload_n hx hb (k_i_dec ht (i := 4) (j := 13) rfl) rfl (lv_at hl 0 rfl) k) ?_
  refine x_low (pc' := 153) (st' := [.int 4, .ref h0]) (fun H locs k => lv_iconst (v := 4) hx hb (k_i_dec ht (i := 4) (j := 14) rfl) (by decide) k) ?_
  refine x_new (atype := .int) (ty := .int) (a0 := (4, .inl (fun _ => 0))) (N' := 4) hx hb (hts (.arrayClass .int) (k_in (lw_T0 (List.mem_of_getElem? (i := 40) rfl)) rfl)) rfl hA (fun _ => rfl) (by decide) (by decide) (Nat.le_of_ble_eq_true rfl) (Nat.le_of_ble_eq_true rfl) (Nat.le_of_ble_eq_true rfl) (k_i_dec ht (i := 4) (j := 15) rfl) (fun q167 c168 => ?_)
  refine x_putF (ty := .array .int) (v := .ref q167) (C := RX12) (T := TX12) (N := 53) hx hb hts k_u12 tyX12 tyX12_ok nmX12 hown rfl 32 (by decide) (by decide) (hts _ k_fl106) (fun _ z => z) rfl hin rfl (by decide +kernel) rfl rfl (k_i_dec ht (i := 5) (j := 0) rfl) ?_
  refine x_low (pc' := 159) (st' := [.ref h0]) (fun H locs k => lv_aload_n hx hb (k_i_dec ht (i := 5) (j := 1) rfl) rfl (lv_at hl 0 rfl) k) ?_
  refine x_low (pc' := 161) (st' := [.int 40, .ref h0]) (fun H locs k => lv_bipush (v := 40) hx hb (k_i_dec ht (i := 5) (j := 2) rfl) (by decide) k) ?_
  refine x_new (atype := .boolean) (ty := .boolean) (a0 := (40, .inl (fun _ => 0))) (N' := 40) hx hb (hts (.arrayClass .boolean) (k_in (lw_T4 (List.mem_of_getElem? (i := 114) rfl)) rfl)) rfl hA (fun _ => rfl) (by decide) (by decide) (Nat.le_of_ble_eq_true rfl) (Nat.le_of_ble_eq_true rfl) (Nat.le_of_ble_eq_true rfl) (k_i_dec ht (i := 5) (j := 3) rfl) (fun q169 c170 => ?_)
  refine x_putF (ty := .array .boolean) (v := .ref q169) (C := RX12) (T := TX12) (N := 53) hx hb hts k_u12 tyX12 tyX12_ok nmX12 hown rfl 33 (by decide) (by decide) (hts _ k_fl107) (fun _ z => z) rfl hin rfl (by decide +kernel) rfl rfl (k_i_dec ht (i := 5) (j := 4) rfl) ?_
  refine x_low (pc' := 167) (st' := [.ref h0]) (fun H locs k => lv_aload_n hx hb (k_i_dec ht (i := 5) (j := 5) rfl) rfl (lv_at hl 0 rfl) k) ?_
  refine x_low (pc' := 168) (st' := [.int 3, .ref h0]) (fun H locs k => lv_iconst (v := 3) hx hb (k_i_dec ht (i := 5) (j := 6) rfl) (by decide) k) ?_
  refine x_new (atype := .int) (ty := .int) (a0 := (3, .inl (fun _ => 0))) (N' := 3) hx hb (hts (.arrayClass .int) (k_in (lw_T0 (List.mem_of_getElem? (i := 40) rfl)) rfl)) rfl hA (fun _ => rfl) (by decide) (by decide) (Nat.le_of_ble_eq_true rfl) (Nat.le_of_ble_eq_true rfl) (Nat.le_of_ble_eq_true rfl) (k_i_dec ht (i := 5) (j := 7) rfl) (fun q171 c172 => ?_)
  refine x_low (pc' := 171) (st' := [.ref q171, .ref q171, .ref h0]) (fun H locs k => lv_dup hx hb (k_i_dec ht (i := 5) (j := 8) rfl) rfl k) ?_
  refine x_low (pc' := 172) (st' := [.int 0, .ref q171, .ref q171, .ref h0]) (fun H locs k => lv_iconst (v := 0) hx hb (k_i_dec ht (i := 5) (j := 9) rfl) (by decide) k) ?_
  refine x_low (pc' := 174) (st' := [.int 119, .int 0, .ref q171, .ref q171, .ref h0]) (fun H locs k => lv_bipush (v := 119) hx hb (k_i_dec ht (i := 5) (j := 10) rfl) (by decide) k) ?_
  refine x_iast hx hb (show vp_in 0 3 by unfold vp_in; decide) (k_i_dec ht (i := 5) (j := 11) rfl) ?_
  refine x_low (pc' := 176) (st' := [.ref q171, .ref q171, .ref h0]) (fun H locs k => lv_dup hx hb (k_i_dec ht (i := 5) (j := 12) rfl) rfl k) ?_
  refine x_low (pc' := 177) (st' := [.int 1, .ref q171, .ref q171, .ref h0]) (fun H locs k => lv_iconst (v := 1) hx hb (k_i_dec ht (i := 5) (j := 13) rfl) (by decide) k) ?_
  refine x_low (pc' := 179) (st' := [.int 115, .int 1, .ref q171, .ref q171, .ref h0]) (fun H locs k => lv_bipush (v := 115) hx hb (k_i_dec ht (i := 5) (j := 14) rfl) (by decide) k) ?_
  refine x_iast hx hb (show vp_in 1 3 by unfold vp_in; decide) (k_i_dec ht (i := 5) (j := 15) rfl) ?_
  refine x_low (pc' := 181) (st' := [.ref q171, .ref q171, .ref h0]) (fun H locs k => lv_dup hx hb (k_i_dec ht (i := 6) (j := 0) rfl) rfl k) ?_
  refine x_low (pc' := 182) (st' := [.int 2, .ref q171, .ref q171, .ref h0]) (fun H locs k => lv_iconst (v := 2) hx hb (k_i_dec ht (i := 6) (j := 1) rfl) (by decide) k) ?_
  refine x_low (pc' := 184) (st' := [.int 49, .int 2, .ref q171, .ref q171, .ref h0]) (fun H locs k => lv_bipush (v := 49) hx hb (k_i_dec ht (i := 6) (j := 2) rfl) (by decide) k) ?_
  refine x_iast hx hb (show vp_in 2 3 by unfold vp_in; decide) (k_i_dec ht (i := 6) (j := 3) rfl) ?_
  refine x_putF (ty := .array .int) (v := .ref q171) (C := RX12) (T := TX12) (N := 53) hx hb hts k_u12 tyX12 tyX12_ok nmX12 hown rfl 34 (by decide) (by decide) (hts _ k_fl108) (fun _ z => z) rfl hin rfl (by decide +kernel) rfl rfl (k_i_dec ht (i := 6) (j := 4) rfl) ?_
  refine x_low (pc' := 189) (st' := [.ref h0]) (fun H locs k => lv_aload_n hx hb (k_i_dec ht (i := 6) (j := 5) rfl) rfl (lv_at hl 0 rfl) k) ?_
  refine x_low (pc' := 191) (st' := [.int 40, .ref h0]) (fun H locs k => lv_bipush (v := 40) hx hb (k_i_dec ht (i := 6) (j := 6) rfl) (by decide) k) ?_
  refine x_new (atype := .int) (ty := .int) (a0 := (40, .inl (fun _ => 0))) (N' := 40) hx hb (hts (.arrayClass .int) (k_in (lw_T0 (List.mem_of_getElem? (i := 40) rfl)) rfl)) rfl hA (fun _ => rfl) (by decide) (by decide) (Nat.le_of_ble_eq_true rfl) (Nat.le_of_ble_eq_true rfl) (Nat.le_of_ble_eq_true rfl) (k_i_dec ht (i := 6) (j := 7) rfl) (fun q173 c174 => ?_)
  refine x_putF (ty := .array .int) (v := .ref q173) (C := RX12) (T := TX12) (N := 53) hx hb hts k_u12 tyX12 tyX12_ok nmX12 hown rfl 36 (by decide) (by decide) (hts _ k_fl109) (fun _ z => z) rfl hin rfl (by decide +kernel) rfl rfl (k_i_dec ht (i := 6) (j := 8) rfl) ?_
  refine x_low (pc' := 197) (st' := [.ref h0]) (fun H locs k => lv_aload_n hx hb (k_i_dec ht (i := 6) (j := 9) rfl) rfl (lv_at hl 0 rfl) k) ?_
  refine x_low (pc' := 199) (st' := [.int 40, .ref h0]) (fun H locs k => lv_bipush (v := 40) hx hb (k_i_dec ht (i := 6) (j := 10) rfl) (by decide) k) ?_
  refine x_new (atype := .int) (ty := .int) (a0 := (40, .inl (fun _ => 0))) (N' := 40) hx hb (hts (.arrayClass .int) (k_in (lw_T0 (List.mem_of_getElem? (i := 40) rfl)) rfl)) rfl hA (fun _ => rfl) (by decide) (by decide) (Nat.le_of_ble_eq_true rfl) (Nat.le_of_ble_eq_true rfl) (Nat.le_of_ble_eq_true rfl) (k_i_dec ht (i := 6) (j := 11) rfl) (fun q175 c176 => ?_)
  refine x_putF (ty := .array .int) (v := .ref q175) (C := RX12) (T := TX12) (N := 53) hx hb hts k_u12 tyX12 tyX12_ok nmX12 hown rfl 37 (by decide) (by decide) (hts _ k_fl110) (fun _ z => z) rfl hin rfl (by decide +kernel) rfl rfl (k_i_dec ht (i := 6) (j := 12) rfl) ?_
  refine x_low (pc' := 205) (st' := [.ref h0]) (fun H locs k => lv_aload_n hx hb (k_i_dec ht (i := 6) (j := 13) rfl) rfl (lv_at hl 0 rfl) k) ?_
  refine x_low (pc' := 206) (st' := [.int 4, .ref h0]) (fun H locs k => lv_iconst (v := 4) hx hb (k_i_dec ht (i := 6) (j := 14) rfl) (by decide) k) ?_
  refine x_new (atype := .int) (ty := .int) (a0 := (4, .inl (fun _ => 0))) (N' := 4) hx hb (hts (.arrayClass .int) (k_in (lw_T0 (List.mem_of_getElem? (i := 40) rfl)) rfl)) rfl hA (fun _ => rfl) (by decide) (by decide) (Nat.le_of_ble_eq_true rfl) (Nat.le_of_ble_eq_true rfl) (Nat.le_of_ble_eq_true rfl) (k_i_dec ht (i := 6) (j := 15) rfl) (fun q177 c178 => ?_)
  refine x_low (pc' := 209) (st' := [.ref q177, .ref q177, .ref h0]) (fun H locs k => lv_dup hx hb (k_i_dec ht (i := 7) (j := 0) rfl) rfl k) ?_
  refine x_low (pc' := 210) (st' := [.int 0, .ref q177, .ref q177, .ref h0]) (fun H locs k => lv_iconst (v := 0) hx hb (k_i_dec ht (i := 7) (j := 1) rfl) (by decide) k) ?_
  refine x_low (pc' := 212) (st' := [.int 119, .int 0, .ref q177, .ref q177, .ref h0]) (fun H locs k => lv_bipush (v := 119) hx hb (k_i_dec ht (i := 7) (j := 2) rfl) (by decide) k) ?_
  refine x_iast hx hb (show vp_in 0 4 by unfold vp_in; decide) (k_i_dec ht (i := 7) (j := 3) rfl) ?_
  refine x_low (pc' := 214) (st' := [.ref q177, .ref q177, .ref h0]) (fun H locs k => lv_dup hx hb (k_i_dec ht (i := 7) (j := 4) rfl) rfl k) ?_
  refine x_low (pc' := 215) (st' := [.int 1, .ref q177, .ref q177, .ref h0]) (fun H locs k => lv_iconst (v := 1) hx hb (k_i_dec ht (i := 7) (j := 5) rfl) (by decide) k) ?_
  refine x_low (pc' := 217) (st' := [.int 115, .int 1, .ref q177, .ref q177, .ref h0]) (fun H locs k => lv_bipush (v := 115) hx hb (k_i_dec ht (i := 7) (j := 6) rfl) (by decide) k) ?_
  refine x_iast hx hb (show vp_in 1 4 by unfold vp_in; decide) (k_i_dec ht (i := 7) (j := 7) rfl) ?_
  refine x_low (pc' := 219) (st' := [.ref q177, .ref q177, .ref h0]) (fun H locs k => lv_dup hx hb (k_i_dec ht (i := 7) (j := 8) rfl) rfl k) ?_
  refine x_low (pc' := 220) (st' := [.int 2, .ref q177, .ref q177, .ref h0]) (fun H locs k => lv_iconst (v := 2) hx hb (k_i_dec ht (i := 7) (j := 9) rfl) (by decide) k) ?_
  refine x_low (pc' := 222) (st' := [.int 102, .int 2, .ref q177, .ref q177, .ref h0]) (fun H locs k => lv_bipush (v := 102) hx hb (k_i_dec ht (i := 7) (j := 10) rfl) (by decide) k) ?_
  refine x_iast hx hb (show vp_in 2 4 by unfold vp_in; decide) (k_i_dec ht (i := 7) (j := 11) rfl) ?_
  refine x_low (pc' := 224) (st' := [.ref q177, .ref q177, .ref h0]) (fun H locs k => lv_dup hx hb (k_i_dec ht (i := 7) (j := 12) rfl) rfl k) ?_
  refine x_low (pc' := 225) (st' := [.int 3, .ref q177, .ref q177, .ref h0]) (fun H locs k => lv_iconst (v := 3) hx hb (k_i_dec ht (i := 7) (j := 13) rfl) (by decide) k) ?_
  refine x_low (pc' := 227) (st' := [.int 49, .int 3, .ref q177, .ref q177, .ref h0]) (fun H locs k => lv_bipush (v := 49) hx hb (k_i_dec ht (i := 7) (j := 14) rfl) (by decide) k) ?_
  refine x_iast hx hb (show vp_in 3 4 by unfold vp_in; decide) (k_i_dec ht (i := 7) (j := 15) rfl) ?_
  refine x_putF (ty := .array .int) (v := .ref q177) (C := RX12) (T := TX12) (N := 53) hx hb hts k_u12 tyX12 tyX12_ok nmX12 hown rfl 38 (by decide) (by decide) (hts _ k_fl111) (fun _ z => z) rfl hin rfl (by decide +kernel) rfl rfl (k_i_dec ht (i := 8) (j := 0) rfl) ?_
  refine x_low (pc' := 232) (st' := [.ref h0]) (fun H locs k => lv_aload_n hx hb (k_i_dec ht (i := 8) (j := 1) rfl) rfl (lv_at hl 0 rfl) k) ?_
  refine x_low (pc' := 234) (st' := [.int 44, .ref h0]) (fun H locs k => lv_bipush (v := 44) hx hb (k_i_dec ht (i := 8) (j := 2) rfl) (by decide) k) ?_
  refine x_new (atype := .int) (ty := .int) (a0 := (44, .inl (fun _ => 0))) (N' := 44) hx hb (hts (.arrayClass .int) (k_in (lw_T0 (List.mem_of_getElem? (i := 40) rfl)) rfl)) rfl hA (fun _ => rfl) (by decide) (by decide) (Nat.le_of_ble_eq_true rfl) (Nat.le_of_ble_eq_true rfl) (Nat.le_of_ble_eq_true rfl) (k_i_dec ht (i := 8) (j := 3) rfl) (fun q179 c180 => ?_)
  refine x_putF (ty := .array .int) (v := .ref q179) (C := RX12) (T := TX12) (N := 53) hx hb hts k_u12 tyX12 tyX12_ok nmX12 hown rfl 39 (by decide) (by decide) (hts _ k_fl112) (fun _ z => z) rfl hin rfl (by decide +kernel) rfl rfl (k_i_dec ht (i := 8) (j := 4) rfl) ?_
  refine x_low (pc' := 240) (st' := [.ref h0]) (fun H locs k => lv_aload_n hx hb (k_i_dec ht (i := 8) (j := 5) rfl) rfl (lv_at hl 0 rfl) k) ?_
  refine x_low (pc' := 241) (st' := [.int 4, .ref h0]) (fun H locs k => lv_iconst (v := 4) hx hb (k_i_dec ht (i := 8) (j := 6) rfl) (by decide) k) ?_
  refine x_new (atype := .int) (ty := .int) (a0 := (4, .inl (fun _ => 0))) (N' := 4) hx hb (hts (.arrayClass .int) (k_in (lw_T0 (List.mem_of_getElem? (i := 40) rfl)) rfl)) rfl hA (fun _ => rfl) (by decide) (by decide) (Nat.le_of_ble_eq_true rfl) (Nat.le_of_ble_eq_true rfl) (Nat.le_of_ble_eq_true rfl) (k_i_dec ht (i := 8) (j := 7) rfl) (fun q181 c182 => ?_)
  refine x_putF (ty := .array .int) (v := .ref q181) (C := RX12) (T := TX12) (N := 53) hx hb hts k_u12 tyX12 tyX12_ok nmX12 hown rfl 43 (by decide) (by decide) (hts _ k_fl113) (fun _ z => z) rfl hin rfl (by decide +kernel) rfl rfl (k_i_dec ht (i := 8) (j := 8) rfl) ?_
  refine x_low (pc' := 247) (st' := [.ref h0]) (fun H locs k => lv_aload_n hx hb (k_i_dec ht (i := 8) (j := 9) rfl) rfl (lv_at hl 0 rfl) k) ?_
  refine x_low (pc' := 248) (st' := [.int 4, .ref h0]) (fun H locs k => lv_iconst (v := 4) hx hb (k_i_dec ht (i := 8) (j := 10) rfl) (by decide) k) ?_
  refine x_new (atype := .int) (ty := .int) (a0 := (4, .inl (fun _ => 0))) (N' := 4) hx hb (hts (.arrayClass .int) (k_in (lw_T0 (List.mem_of_getElem? (i := 40) rfl)) rfl)) rfl hA (fun _ => rfl) (by decide) (by decide) (Nat.le_of_ble_eq_true rfl) (Nat.le_of_ble_eq_true rfl) (Nat.le_of_ble_eq_true rfl) (k_i_dec ht (i := 8) (j := 11) rfl) (fun q183 c184 => ?_)
  refine x_putF (ty := .array .int) (v := .ref q183) (C := RX12) (T := TX12) (N := 53) hx hb hts k_u12 tyX12 tyX12_ok nmX12 hown rfl 44 (by decide) (by decide) (hts _ k_fl114) (fun _ z => z) rfl hin rfl (by decide +kernel) rfl rfl (k_i_dec ht (i := 8) (j := 12) rfl) ?_
  refine x_low (pc' := 254) (st' := [.ref h0]) (fun H locs k => lv_aload_n hx hb (k_i_dec ht (i := 8) (j := 13) rfl) rfl (lv_at hl 0 rfl) k) ?_
  refine x_low (pc' := 256) (st' := [.int 50, .ref h0]) (fun H locs k => lv_bipush (v := 50) hx hb (k_i_dec ht (i := 8) (j := 14) rfl) (by decide) k) ?_
  refine x_new (atype := .int) (ty := .int) (a0 := (50, .inl (fun _ => 0))) (N' := 50) hx hb (hts (.arrayClass .int) (k_in (lw_T0 (List.mem_of_getElem? (i := 40) rfl)) rfl)) rfl hA (fun _ => rfl) (by decide) (by decide) (Nat.le_of_ble_eq_true rfl) (Nat.le_of_ble_eq_true rfl) (Nat.le_of_ble_eq_true rfl) (k_i_dec ht (i := 8) (j := 15) rfl) (fun q185 c186 => ?_)
  refine x_putF (ty := .array .int) (v := .ref q185) (C := RX12) (T := TX12) (N := 53) hx hb hts k_u12 tyX12 tyX12_ok nmX12 hown rfl 46 (by decide) (by decide) (hts _ k_fl115) (fun _ z => z) rfl hin rfl (by decide +kernel) rfl rfl (k_i_dec ht (i := 9) (j := 0) rfl) ?_
  refine x_low (pc' := 262) (st' := [.ref h0]) (fun H locs k => lv_aload_n hx hb (k_i_dec ht (i := 9) (j := 1) rfl) rfl (lv_at hl 0 rfl) k) ?_
  refine x_low (pc' := 264) (st' := [.int 24, .ref h0]) (fun H locs k => lv_bipush (v := 24) hx hb (k_i_dec ht (i := 9) (j := 2) rfl) (by decide) k) ?_
  refine x_new (atype := .int) (ty := .int) (a0 := (24, .inl (fun _ => 0))) (N' := 24) hx hb (hts (.arrayClass .int) (k_in (lw_T0 (List.mem_of_getElem? (i := 40) rfl)) rfl)) rfl hA (fun _ => rfl) (by decide) (by decide) (Nat.le_of_ble_eq_true rfl) (Nat.le_of_ble_eq_true rfl) (Nat.le_of_ble_eq_true rfl) (k_i_dec ht (i := 9) (j := 3) rfl) (fun q187 c188 => ?_)
  refine x_putF (ty := .array .int) (v := .ref q187) (C := RX12) (T := TX12) (N := 53) hx hb hts k_u12 tyX12 tyX12_ok nmX12 hown rfl 48 (by decide) (by decide) (hts _ k_fl116) (fun _ z => z) rfl hin rfl (by decide +kernel) rfl rfl (k_i_dec ht (i := 9) (j := 4) rfl) ?_
  refine x_low (pc' := 270) (st' := [.ref h0]) (fun H locs k => lv_aload_n hx hb (k_i_dec ht (i := 9) (j := 5) rfl) rfl (lv_at hl 0 rfl) k) ?_
  refine x_low (pc' := 272) (st' := [.int 6, .ref h0]) (fun H locs k => lv_bipush (v := 6) hx hb (k_i_dec ht (i := 9) (j := 6) rfl) (by decide) k) ?_
  refine x_new (atype := .int) (ty := .int) (a0 := (6, .inl (fun _ => 0))) (N' := 6) hx hb (hts (.arrayClass .int) (k_in (lw_T0 (List.mem_of_getElem? (i := 40) rfl)) rfl)) rfl hA (fun _ => rfl) (by decide) (by decide) (Nat.le_of_ble_eq_true rfl) (Nat.le_of_ble_eq_true rfl) (Nat.le_of_ble_eq_true rfl) (k_i_dec ht (i := 9) (j := 7) rfl) (fun q189 c190 => ?_)
  refine x_low (pc' := 275) (st' := [.ref q189, .ref q189, .ref h0]) (fun H locs k => lv_dup hx hb (k_i_dec ht (i := 9) (j := 8) rfl) rfl k) ?_
  refine x_low (pc' := 276) (st' := [.int 0, .ref q189, .ref q189, .ref h0]) (fun H locs k => lv_iconst (v := 0) hx hb (k_i_dec ht (i := 9) (j := 9) rfl) (by decide) k) ?_
  refine x_low (pc' := 277) (st' := [.int (-1), .int 0, .ref q189, .ref q189, .ref h0]) (fun H locs k => lv_iconst (v := (-1)) hx hb (k_i_dec ht (i := 9) (j := 10) rfl) (by decide) k) ?_
  refine x_iast hx hb (show vp_in 0 6 by unfold vp_in; decide) (k_i_dec ht (i := 9) (j := 11) rfl) ?_
  refine x_low (pc' := 279) (st' := [.ref q189, .ref q189, .ref h0]) (fun H locs k => lv_dup hx hb (k_i_dec ht (i := 9) (j := 12) rfl) rfl k) ?_
  refine x_low (pc' := 280) (st' := [.int 1, .ref q189, .ref q189, .ref h0]) (fun H locs k => lv_iconst (v := 1) hx hb (k_i_dec ht (i := 9) (j := 13) rfl) (by decide) k) ?_
  refine x_low (pc' := 281) (st' := [.int (-1), .int 1, .ref q189, .ref q189, .ref h0]) (fun H locs k => lv_iconst (v := (-1)) hx hb (k_i_dec ht (i := 9) (j := 14) rfl) (by decide) k) ?_
  refine x_iast hx hb (show vp_in 1 6 by unfold vp_in; decide) (k_i_dec ht (i := 9) (j := 15) rfl) ?_
  refine x_low (pc' := 283) (st' := [.ref q189, .ref q189, .ref h0]) (fun H locs k => lv_dup hx hb (k_i_dec ht (i := 10) (j := 0) rfl) rfl k) ?_
  refine x_low (pc' := 284) (st' := [.int 2, .ref q189, .ref q189, .ref h0]) (fun H locs k => lv_iconst (v := 2) hx hb (k_i_dec ht (i := 10) (j := 1) rfl) (by decide) k) ?_
  refine x_low (pc' := 285) (st' := [.int (-1), .int 2, .ref q189, .ref q189, .ref h0]) (fun H locs k => lv_iconst (v := (-1)) hx hb (k_i_dec ht (i := 10) (j := 2) rfl) (by decide) k) ?_
  refine x_iast hx hb (show vp_in 2 6 by unfold vp_in; decide) (k_i_dec ht (i := 10) (j := 3) rfl) ?_
  refine x_low (pc' := 287) (st' := [.ref q189, .ref q189, .ref h0]) (fun H locs k => lv_dup hx hb (k_i_dec ht (i := 10) (j := 4) rfl) rfl k) ?_
  refine x_low (pc' := 288) (st' := [.int 3, .ref q189, .ref q189, .ref h0]) (fun H locs k => lv_iconst (v := 3) hx hb (k_i_dec ht (i := 10) (j := 5) rfl) (by decide) k) ?_
  refine x_low (pc' := 289) (st' := [.int (-1), .int 3, .ref q189, .ref q189, .ref h0]) (fun H locs k => lv_iconst (v := (-1)) hx hb (k_i_dec ht (i := 10) (j := 6) rfl) (by decide) k) ?_
  refine x_iast hx hb (show vp_in 3 6 by unfold vp_in; decide) (k_i_dec ht (i := 10) (j := 7) rfl) ?_
  refine x_low (pc' := 291) (st' := [.ref q189, .ref q189, .ref h0]) (fun H locs k => lv_dup hx hb (k_i_dec ht (i := 10) (j := 8) rfl) rfl k) ?_
  refine x_low (pc' := 292) (st' := [.int 4, .ref q189, .ref q189, .ref h0]) (fun H locs k => lv_iconst (v := 4) hx hb (k_i_dec ht (i := 10) (j := 9) rfl) (by decide) k) ?_
  refine x_low (pc' := 293) (st' := [.int (-1), .int 4, .ref q189, .ref q189, .ref h0]) (fun H locs k => lv_iconst (v := (-1)) hx hb (k_i_dec ht (i := 10) (j := 10) rfl) (by decide) k) ?_
  refine x_iast hx hb (show vp_in 4 6 by unfold vp_in; decide) (k_i_dec ht (i := 10) (j := 11) rfl) ?_
  refine x_low (pc' := 295) (st' := [.ref q189, .ref q189, .ref h0]) (fun H locs k => lv_dup hx hb (k_i_dec ht (i := 10) (j := 12) rfl) rfl k) ?_
  refine x_low (pc' := 296) (st' := [.int 5, .ref q189, .ref q189, .ref h0]) (fun H locs k => lv_iconst (v := 5) hx hb (k_i_dec ht (i := 10) (j := 13) rfl) (by decide) k) ?_
  refine x_low (pc' := 297) (st' := [.int (-1), .int 5, .ref q189, .ref q189, .ref h0]) (fun H locs k => lv_iconst (v := (-1)) hx hb (k_i_dec ht (i := 10) (j := 14) rfl) (by decide) k) ?_
  refine x_iast hx hb (show vp_in 5 6 by unfold vp_in; decide) (k_i_dec ht (i := 10) (j := 15) rfl) ?_
  refine x_putF (ty := .array .int) (v := .ref q189) (C := RX12) (T := TX12) (N := 53) hx hb hts k_u12 tyX12 tyX12_ok nmX12 hown rfl 49 (by decide) (by decide) (hts _ k_fl117) (fun _ z => z) rfl hin rfl (by decide +kernel) rfl rfl (k_i_dec ht (i := 11) (j := 0) rfl) ?_
  refine x_low (pc' := 302) (st' := [.ref h0]) (fun H locs k => lv_aload_n hx hb (k_i_dec ht (i := 11) (j := 1) rfl) rfl (lv_at hl 0 rfl) k) ?_
  refine x_low (pc' := 304) (st' := [.int 6, .ref h0]) (fun H locs k => lv_bipush (v := 6) hx hb (k_i_dec ht (i := 11) (j := 2) rfl) (by decide) k) ?_
  refine x_new (atype := .int) (ty := .int) (a0 := (6, .inl (fun _ => 0))) (N' := 6) hx hb (hts (.arrayClass .int) (k_in (lw_T0 (List.mem_of_getElem? (i := 40) rfl)) rfl)) rfl hA (fun _ => rfl) (by decide) (by decide) (Nat.le_of_ble_eq_true rfl) (Nat.le_of_ble_eq_true rfl) (Nat.le_of_ble_eq_true rfl) (k_i_dec ht (i := 11) (j := 3) rfl) (fun q191 c192 => ?_)
  refine x_putF (ty := .array .int) (v := .ref q191) (C := RX12) (T := TX12) (N := 53) hx hb hts k_u12 tyX12 tyX12_ok nmX12 hown rfl 50 (by decide) (by decide) (hts _ k_fl118) (fun _ z => z) rfl hin rfl (by decide +kernel) rfl rfl (k_i_dec ht (i := 11) (j := 4) rfl) ?_
  refine x_low (pc' := 310) (st' := [.ref h0]) (fun H locs k => lv_aload_n hx hb (k_i_dec ht (i := 11) (j := 5) rfl) rfl (lv_at hl 0 rfl) k) ?_
  refine x_low (pc' := 313) (st' := [.int 360, .ref h0]) (fun H locs k => lv_sipush (v := 360) hx hb (k_i_dec ht (i := 11) (j := 6) rfl) (by decide) k) ?_
  refine x_new (atype := .long) (ty := .long) (a0 := (360, .inr (.inl (fun _ => 0)))) (N' := 360) hx hb (hts (.arrayClass .long) (k_in (lw_T1 (List.mem_of_getElem? (i := 44) rfl)) rfl)) rfl hA (fun _ => rfl) (by decide) (by decide) (Nat.le_of_ble_eq_true rfl) (Nat.le_of_ble_eq_true rfl) (Nat.le_of_ble_eq_true rfl) (k_i_dec ht (i := 11) (j := 7) rfl) (fun q193 c194 => ?_)
  refine x_putF (ty := .array .long) (v := .ref q193) (C := RX12) (T := TX12) (N := 53) hx hb hts k_u12 tyX12 tyX12_ok nmX12 hown rfl 51 (by decide) (by decide) (hts _ k_fl119) (fun _ z => z) rfl hin rfl (by decide +kernel) rfl rfl (k_i_dec ht (i := 11) (j := 8) rfl) ?_
  refine x_low (pc' := 319) (st' := [.ref h0]) (fun H locs k => lv_aload_n hx hb (k_i_dec ht (i := 11) (j := 9) rfl) rfl (lv_at hl 0 rfl) k) ?_
  refine x_low (pc' := 321) (st' := [.int 60, .ref h0]) (fun H locs k => lv_bipush (v := 60) hx hb (k_i_dec ht (i := 11) (j := 10) rfl) (by decide) k) ?_
  refine x_new (atype := .long) (ty := .long) (a0 := (60, .inr (.inl (fun _ => 0)))) (N' := 60) hx hb (hts (.arrayClass .long) (k_in (lw_T1 (List.mem_of_getElem? (i := 44) rfl)) rfl)) rfl hA (fun _ => rfl) (by decide) (by decide) (Nat.le_of_ble_eq_true rfl) (Nat.le_of_ble_eq_true rfl) (Nat.le_of_ble_eq_true rfl) (k_i_dec ht (i := 11) (j := 11) rfl) (fun q195 c196 => ?_)
  refine x_putF (ty := .array .long) (v := .ref q195) (C := RX12) (T := TX12) (N := 53) hx hb hts k_u12 tyX12 tyX12_ok nmX12 hown rfl 52 (by decide) (by decide) (hts _ k_fl120) (fun _ z => z) rfl hin rfl (by decide +kernel) rfl rfl (k_i_dec ht (i := 11) (j := 12) rfl) ?_
  intro H locs _ hP hK hD hS
  simp only [List.set_cons_zero, List.set_cons_succ] at hP hD
  have hP : va_P (dC, dI) vwCl [(h0, .inr (12, [.int 0, .ref q131, .int 0, .int 0, .ref q133, .ref q135, .ref q137, .ref q139, .ref q141, .int 0, .int 7, .int 0, .int 0, .int 0, .int 0, .int 0, .ref q143, .ref q145, .ref q147, .ref q149, .ref q151, .ref q153, .ref q155, .int 0, .int 0, .int 0, .ref q157, .ref q159, .ref q161, .ref q163, .int 0, .ref q165, .ref q167, .ref q169, .ref q171, .int 0, .ref q173, .ref q175, .ref q177, .ref q179, .int 0, .int 0, .int 0, .ref q181, .ref q183, .int 0, .ref q185, .int 0, .ref q187, .ref q189, .ref q191, .ref q193, .ref q195])), (q195, .inl (c196, 60, .inr (.inl (fun _ => 0)))), (q193, .inl (c194, 360, .inr (.inl (fun _ => 0)))), (q191, .inl (c192, 6, .inl (fun _ => 0))), (q189, .inl (c190, 6, .inl (upd (upd (upd (upd (upd (upd (fun _ => 0) 0 (-1)) 1 (-1)) 2 (-1)) 3 (-1)) 4 (-1)) 5 (-1)))), (q187, .inl (c188, 24, .inl (fun _ => 0))), (q185, .inl (c186, 50, .inl (fun _ => 0))), (q183, .inl (c184, 4, .inl (fun _ => 0))), (q181, .inl (c182, 4, .inl (fun _ => 0))), (q179, .inl (c180, 44, .inl (fun _ => 0))), (q177, .inl (c178, 4, .inl (upd (upd (upd (upd (fun _ => 0) 0 119) 1 115) 2 102) 3 49))), (q175, .inl (c176, 40, .inl (fun _ => 0))), (q173, .inl (c174, 40, .inl (fun _ => 0))), (q171, .inl (c172, 3, .inl (upd (upd (upd (fun _ => 0) 0 119) 1 115) 2 49))), (q169, .inl (c170, 40, .inl (fun _ => 0))), (q167, .inl (c168, 4, .inl (fun _ => 0))), (q165, .inl (c166, 4, .inl (fun _ => 0))), (q163, .inl (c164, 40, .inl (fun _ => 0))), (q161, .inl (c162, 40, .inl (fun _ => 0))), (q159, .inl (c160, 40, .inl (fun _ => 0))), (q157, .inl (c158, 40, .inl (fun _ => 0))), (q155, .inl (c156, 130, .inl (fun _ => 0))), (q153, .inl (c154, 4, .inl (fun _ => 0))), (q151, .inl (c152, 122, .inl (fun _ => 0))), (q149, .inl (c150, 122, .inl (fun _ => 0))), (q147, .inl (c148, 2, .inl (fun _ => 0))), (q145, .inl (c146, 260, .inl (fun _ => 0))), (q143, .inl (c144, 260, .inl (fun _ => 0))), (q141, .inl (c142, 4, .inl (fun _ => 0))), (q139, .inl (c140, 4, .inl (fun _ => 0))), (q137, .inl (c138, 4, .inl (fun _ => 0))), (q135, .inl (c136, 4, .inl (fun _ => 0))), (q133, .inl (c134, 160, .inl (fun _ => 0))), (q131, .inl (c132, 120, .inl (fun _ => 0)))] H := hP
  have hD : va_D A [(h0, .inr (12, [.int 0, .ref q131, .int 0, .int 0, .ref q133, .ref q135, .ref q137, .ref q139, .ref q141, .int 0, .int 7, .int 0, .int 0, .int 0, .int 0, .int 0, .ref q143, .ref q145, .ref q147, .ref q149, .ref q151, .ref q153, .ref q155, .int 0, .int 0, .int 0, .ref q157, .ref q159, .ref q161, .ref q163, .int 0, .ref q165, .ref q167, .ref q169, .ref q171, .int 0, .ref q173, .ref q175, .ref q177, .ref q179, .int 0, .int 0, .int 0, .ref q181, .ref q183, .int 0, .ref q185, .int 0, .ref q187, .ref q189, .ref q191, .ref q193, .ref q195])), (q195, .inl (c196, 60, .inr (.inl (fun _ => 0)))), (q193, .inl (c194, 360, .inr (.inl (fun _ => 0)))), (q191, .inl (c192, 6, .inl (fun _ => 0))), (q189, .inl (c190, 6, .inl (upd (upd (upd (upd (upd (upd (fun _ => 0) 0 (-1)) 1 (-1)) 2 (-1)) 3 (-1)) 4 (-1)) 5 (-1)))), (q187, .inl (c188, 24, .inl (fun _ => 0))), (q185, .inl (c186, 50, .inl (fun _ => 0))), (q183, .inl (c184, 4, .inl (fun _ => 0))), (q181, .inl (c182, 4, .inl (fun _ => 0))), (q179, .inl (c180, 44, .inl (fun _ => 0))), (q177, .inl (c178, 4, .inl (upd (upd (upd (upd (fun _ => 0) 0 119) 1 115) 2 102) 3 49))), (q175, .inl (c176, 40, .inl (fun _ => 0))), (q173, .inl (c174, 40, .inl (fun _ => 0))), (q171, .inl (c172, 3, .inl (upd (upd (upd (fun _ => 0) 0 119) 1 115) 2 49))), (q169, .inl (c170, 40, .inl (fun _ => 0))), (q167, .inl (c168, 4, .inl (fun _ => 0))), (q165, .inl (c166, 4, .inl (fun _ => 0))), (q163, .inl (c164, 40, .inl (fun _ => 0))), (q161, .inl (c162, 40, .inl (fun _ => 0))), (q159, .inl (c160, 40, .inl (fun _ => 0))), (q157, .inl (c158, 40, .inl (fun _ => 0))), (q155, .inl (c156, 130, .inl (fun _ => 0))), (q153, .inl (c154, 4, .inl (fun _ => 0))), (q151, .inl (c152, 122, .inl (fun _ => 0))), (q149, .inl (c150, 122, .inl (fun _ => 0))), (q147, .inl (c148, 2, .inl (fun _ => 0))), (q145, .inl (c146, 260, .inl (fun _ => 0))), (q143, .inl (c144, 260, .inl (fun _ => 0))), (q141, .inl (c142, 4, .inl (fun _ => 0))), (q139, .inl (c140, 4, .inl (fun _ => 0))), (q137, .inl (c138, 4, .inl (fun _ => 0))), (q135, .inl (c136, 4, .inl (fun _ => 0))), (q133, .inl (c134, 160, .inl (fun _ => 0))), (q131, .inl (c132, 120, .inl (fun _ => 0)))] := hD
  have hP := hP.sub (ws' := [(h0, .inr (12, [.int 0, .ref q131, .int 0, .int 0, .ref q133, .ref q135, .ref q137, .ref q139, .ref q141, .int 0, .int 7, .int 0, .int 0, .int 0, .int 0, .int 0, .ref q143, .ref q145, .ref q147, .ref q149, .ref q151, .ref q153, .ref q155, .int 0, .int 0, .int 0, .ref q157, .ref q159, .ref q161, .ref q163, .int 0, .ref q165, .ref q167, .ref q169, .ref q171, .int 0, .ref q173, .ref q175, .ref q177, .ref q179, .int 0, .int 0, .int 0, .ref q181, .ref q183, .int 0, .ref q185, .int 0, .ref q187, .ref q189, .ref q191, .ref q193, .ref q195])), (q131, .inl (c132, 120, .inl (fun _ => 0))), (q133, .inl (c134, 160, .inl (fun _ => 0))), (q135, .inl (c136, 4, .inl (fun _ => 0))), (q137, .inl (c138, 4, .inl (fun _ => 0))), (q139, .inl (c140, 4, .inl (fun _ => 0))), (q141, .inl (c142, 4, .inl (fun _ => 0))), (q143, .inl (c144, 260, .inl (fun _ => 0))), (q145, .inl (c146, 260, .inl (fun _ => 0))), (q147, .inl (c148, 2, .inl (fun _ => 0))), (q149, .inl (c150, 122, .inl (fun _ => 0))), (q151, .inl (c152, 122, .inl (fun _ => 0))), (q153, .inl (c154, 4, .inl (fun _ => 0))), (q155, .inl (c156, 130, .inl (fun _ => 0))), (q157, .inl (c158, 40, .inl (fun _ => 0))), (q159, .inl (c160, 40, .inl (fun _ => 0))), (q161, .inl (c162, 40, .inl (fun _ => 0))), (q163, .inl (c164, 40, .inl (fun _ => 0))), (q165, .inl (c166, 4, .inl (fun _ => 0))), (q167, .inl (c168, 4, .inl (fun _ => 0))), (q169, .inl (c170, 40, .inl (fun _ => 0))), (q171, .inl (c172, 3, .inl (upd (upd (upd (fun _ => 0) 0 119) 1 115) 2 49))), (q173, .inl (c174, 40, .inl (fun _ => 0))), (q175, .inl (c176, 40, .inl (fun _ => 0))), (q177, .inl (c178, 4, .inl (upd (upd (upd (upd (fun _ => 0) 0 119) 1 115) 2 102) 3 49))), (q179, .inl (c180, 44, .inl (fun _ => 0))), (q181, .inl (c182, 4, .inl (fun _ => 0))), (q183, .inl (c184, 4, .inl (fun _ => 0))), (q185, .inl (c186, 50, .inl (fun _ => 0))), (q187, .inl (c188, 24, .inl (fun _ => 0))), (q189, .inl (c190, 6, .inl (upd (upd (upd (upd (upd (upd (fun _ => 0) 0 (-1)) 1 (-1)) 2 (-1)) 3 (-1)) 4 (-1)) 5 (-1)))), (q191, .inl (c192, 6, .inl (fun _ => 0))), (q193, .inl (c194, 360, .inr (.inl (fun _ => 0)))), (q195, .inl (c196, 60, .inr (.inl (fun _ => 0))))]) [0, 33, 32, 31, 30, 29, 28, 27, 26, 25, 24, 23, 22, 21, 20, 19, 18, 17, 16, 15, 14, 13, 12, 11, 10, 9, 8, 7, 6, 5, 4, 3, 2, 1] rfl
  have hD := hD.sub (ws' := [(h0, .inr (12, [.int 0, .ref q131, .int 0, .int 0, .ref q133, .ref q135, .ref q137, .ref q139, .ref q141, .int 0, .int 7, .int 0, .int 0, .int 0, .int 0, .int 0, .ref q143, .ref q145, .ref q147, .ref q149, .ref q151, .ref q153, .ref q155, .int 0, .int 0, .int 0, .ref q157, .ref q159, .ref q161, .ref q163, .int 0, .ref q165, .ref q167, .ref q169, .ref q171, .int 0, .ref q173, .ref q175, .ref q177, .ref q179, .int 0, .int 0, .int 0, .ref q181, .ref q183, .int 0, .ref q185, .int 0, .ref q187, .ref q189, .ref q191, .ref q193, .ref q195])), (q131, .inl (c132, 120, .inl (fun _ => 0))), (q133, .inl (c134, 160, .inl (fun _ => 0))), (q135, .inl (c136, 4, .inl (fun _ => 0))), (q137, .inl (c138, 4, .inl (fun _ => 0))), (q139, .inl (c140, 4, .inl (fun _ => 0))), (q141, .inl (c142, 4, .inl (fun _ => 0))), (q143, .inl (c144, 260, .inl (fun _ => 0))), (q145, .inl (c146, 260, .inl (fun _ => 0))), (q147, .inl (c148, 2, .inl (fun _ => 0))), (q149, .inl (c150, 122, .inl (fun _ => 0))), (q151, .inl (c152, 122, .inl (fun _ => 0))), (q153, .inl (c154, 4, .inl (fun _ => 0))), (q155, .inl (c156, 130, .inl (fun _ => 0))), (q157, .inl (c158, 40, .inl (fun _ => 0))), (q159, .inl (c160, 40, .inl (fun _ => 0))), (q161, .inl (c162, 40, .inl (fun _ => 0))), (q163, .inl (c164, 40, .inl (fun _ => 0))), (q165, .inl (c166, 4, .inl (fun _ => 0))), (q167, .inl (c168, 4, .inl (fun _ => 0))), (q169, .inl (c170, 40, .inl (fun _ => 0))), (q171, .inl (c172, 3, .inl (upd (upd (upd (fun _ => 0) 0 119) 1 115) 2 49))), (q173, .inl (c174, 40, .inl (fun _ => 0))), (q175, .inl (c176, 40, .inl (fun _ => 0))), (q177, .inl (c178, 4, .inl (upd (upd (upd (upd (fun _ => 0) 0 119) 1 115) 2 102) 3 49))), (q179, .inl (c180, 44, .inl (fun _ => 0))), (q181, .inl (c182, 4, .inl (fun _ => 0))), (q183, .inl (c184, 4, .inl (fun _ => 0))), (q185, .inl (c186, 50, .inl (fun _ => 0))), (q187, .inl (c188, 24, .inl (fun _ => 0))), (q189, .inl (c190, 6, .inl (upd (upd (upd (upd (upd (upd (fun _ => 0) 0 (-1)) 1 (-1)) 2 (-1)) 3 (-1)) 4 (-1)) 5 (-1)))), (q191, .inl (c192, 6, .inl (fun _ => 0))), (q193, .inl (c194, 360, .inr (.inl (fun _ => 0)))), (q195, .inl (c196, 60, .inr (.inl (fun _ => 0))))]) [0, 33, 32, 31, 30, 29, 28, 27, 26, 25, 24, 23, 22, 21, 20, 19, 18, 17, 16, 15, 14, 13, 12, 11, 10, 9, 8, 7, 6, 5, 4, 3, 2, 1] (by decide) rfl
  have hP2 : va_P (dC, dI) vwCl (k_w (x_g l (dC, dI) (fun k => ([0, 0, 0, 0, 0, 0, 0, 0, 0, 0, 0, 0, 0, 0, 0, 0, 0, 0, 0, 0, 0, 0, 0, 0, 0, 0, 0, 0, 0, 0, 0, 0, 0, 0, 0, 0, 0, 0, 0, 0, 0, 0, h0, q131, q133, q135, q137, q139, q141, q143, q145, q147, q149, q151, q153, q155, q157, q159, q161, q163, q165, q167, q169, q171, q173, q175, q177, q179, q181, q183, q185, q187, q189, q191, q193, q195] : List Nat).getD k 0) (fun k => ([0, 0, 0, 0, 0, 0, 0, 0, 0, 0, 0, 0, 0, 0, 0, 0, 0, 0, 0, 0, 0, 0, 0, 0, 0, 0, 0, 0, 0, 0, 0, 0, 0, 0, 0, 0, 0, 0, 0, 0, 0, 0, 0, c132, c134, c136, c138, c140, c142, c144, c146, c148, c150, c152, c154, c156, c158, c160, c162, c164, c166, c168, c170, c172, c174, c176, c178, c180, c182, c184, c186, c188, c190, c192, c194, c196] : List ClassId).getD k 0)) z_u0 42 x_layM) H := by
    refine x_pts (fun i c hc => ?_)
    match i, hc with
    | 0, hc =>
      have e := Option.some.inj hc
      subst e
      exact hP 0 _ rfl
    | 1, hc =>
      have e := Option.some.inj hc
      subst e
      exact hP 1 _ rfl
    | 2, hc =>
      have e := Option.some.inj hc
      subst e
      exact hP 2 _ rfl
    | 3, hc =>
      have e := Option.some.inj hc
      subst e
      exact hP 3 _ rfl
    | 4, hc =>
      have e := Option.some.inj hc
      subst e
      exact hP 4 _ rfl
    | 5, hc =>
      have e := Option.some.inj hc
      subst e
      exact hP 5 _ rfl
    | 6, hc =>
      have e := Option.some.inj hc
      subst e
      exact hP 6 _ rfl
    | 7, hc =>
      have e := Option.some.inj hc
      subst e
      exact hP 7 _ rfl
    | 8, hc =>
      have e := Option.some.inj hc
      subst e
      exact hP 8 _ rfl
    | 9, hc =>
      have e := Option.some.inj hc
      subst e
      exact hP 9 _ rfl
    | 10, hc =>
      have e := Option.some.inj hc
      subst e
      exact hP 10 _ rfl
    | 11, hc =>
      have e := Option.some.inj hc
      subst e
      exact hP 11 _ rfl
    | 12, hc =>
      have e := Option.some.inj hc
      subst e
      exact hP 12 _ rfl
    | 13, hc =>
      have e := Option.some.inj hc
      subst e
      exact hP 13 _ rfl
    | 14, hc =>
      have e := Option.some.inj hc
      subst e
      exact hP 14 _ rfl
    | 15, hc =>
      have e := Option.some.inj hc
      subst e
      exact hP 15 _ rfl
    | 16, hc =>
      have e := Option.some.inj hc
      subst e
      exact hP 16 _ rfl
    | 17, hc =>
      have e := Option.some.inj hc
      subst e
      exact hP 17 _ rfl
    | 18, hc =>
      have e := Option.some.inj hc
      subst e
      exact hP 18 _ rfl
    | 19, hc =>
      have e := Option.some.inj hc
      subst e
      exact hP 19 _ rfl
    | 20, hc =>
      have e := Option.some.inj hc
      subst e
      exact hP 20 _ rfl
    | 21, hc =>
      have e := Option.some.inj hc
      subst e
      exact hP 21 _ rfl
    | 22, hc =>
      have e := Option.some.inj hc
      subst e
      exact hP 22 _ rfl
    | 23, hc =>
      have e := Option.some.inj hc
      subst e
      exact hP 23 _ rfl
    | 24, hc =>
      have e := Option.some.inj hc
      subst e
      exact hP 24 _ rfl
    | 25, hc =>
      have e := Option.some.inj hc
      subst e
      exact hP 25 _ rfl
    | 26, hc =>
      have e := Option.some.inj hc
      subst e
      exact hP 26 _ rfl
    | 27, hc =>
      have e := Option.some.inj hc
      subst e
      exact hP 27 _ rfl
    | 28, hc =>
      have e := Option.some.inj hc
      subst e
      exact hP 28 _ rfl
    | 29, hc =>
      have e := Option.some.inj hc
      subst e
      exact hP 29 _ rfl
    | 30, hc =>
      have e := Option.some.inj hc
      subst e
      exact hP 30 _ rfl
    | 31, hc =>
      have e := Option.some.inj hc
      subst e
      exact hP 31 _ rfl
    | 32, hc =>
      have e := Option.some.inj hc
      subst e
      exact hP 32 _ rfl
    | 33, hc =>
      have e := Option.some.inj hc
      subst e
      exact hP 33 _ rfl
    | i + 34, hc => exact absurd (List.getElem?_eq_some_iff.mp hc).1 (by show ¬ (i + 34 < 34); omega)
  have hD2 : va_D A (k_w (x_g l (dC, dI) (fun k => ([0, 0, 0, 0, 0, 0, 0, 0, 0, 0, 0, 0, 0, 0, 0, 0, 0, 0, 0, 0, 0, 0, 0, 0, 0, 0, 0, 0, 0, 0, 0, 0, 0, 0, 0, 0, 0, 0, 0, 0, 0, 0, h0, q131, q133, q135, q137, q139, q141, q143, q145, q147, q149, q151, q153, q155, q157, q159, q161, q163, q165, q167, q169, q171, q173, q175, q177, q179, q181, q183, q185, q187, q189, q191, q193, q195] : List Nat).getD k 0) (fun k => ([0, 0, 0, 0, 0, 0, 0, 0, 0, 0, 0, 0, 0, 0, 0, 0, 0, 0, 0, 0, 0, 0, 0, 0, 0, 0, 0, 0, 0, 0, 0, 0, 0, 0, 0, 0, 0, 0, 0, 0, 0, 0, 0, c132, c134, c136, c138, c140, c142, c144, c146, c148, c150, c152, c154, c156, c158, c160, c162, c164, c166, c168, c170, c172, c174, c176, c178, c180, c182, c184, c186, c188, c190, c192, c194, c196] : List ClassId).getD k 0)) z_u0 42 x_layM) := x_mapD hD rfl
  have hK2 : va_K (dC, dI) vwCl (k_tys (x_g l (dC, dI) (fun k => ([0, 0, 0, 0, 0, 0, 0, 0, 0, 0, 0, 0, 0, 0, 0, 0, 0, 0, 0, 0, 0, 0, 0, 0, 0, 0, 0, 0, 0, 0, 0, 0, 0, 0, 0, 0, 0, 0, 0, 0, 0, 0, h0, q131, q133, q135, q137, q139, q141, q143, q145, q147, q149, q151, q153, q155, q157, q159, q161, q163, q165, q167, q169, q171, q173, q175, q177, q179, q181, q183, q185, q187, q189, q191, q193, q195] : List Nat).getD k 0) (fun k => ([0, 0, 0, 0, 0, 0, 0, 0, 0, 0, 0, 0, 0, 0, 0, 0, 0, 0, 0, 0, 0, 0, 0, 0, 0, 0, 0, 0, 0, 0, 0, 0, 0, 0, 0, 0, 0, 0, 0, 0, 0, 0, 0, c132, c134, c136, c138, c140, c142, c144, c146, c148, c150, c152, c154, c156, c158, c160, c162, c164, c166, c168, c170, c172, c174, c176, c178, c180, c182, c184, c186, c188, c190, c192, c194, c196] : List ClassId).getD k 0)) 42 x_layM) s := hK.sub [32, 31, 30, 29, 28, 27, 26, 25, 24, 23, 22, 21, 20, 19, 18, 17, 16, 15, 14, 13, 12, 11, 10, 9, 8, 7, 6, 5, 4, 3, 2, 1, 0] rfl
  exact W.vret hx hb hr (fun t ht hW => ⟨⟨(), rfl, trivial, (fun k => ([0, 0, 0, 0, 0, 0, 0, 0, 0, 0, 0, 0, 0, 0, 0, 0, 0, 0, 0, 0, 0, 0, 0, 0, 0, 0, 0, 0, 0, 0, 0, 0, 0, 0, 0, 0, 0, 0, 0, 0, 0, 0, h0, q131, q133, q135, q137, q139, q141, q143, q145, q147, q149, q151, q153, q155, q157, q159, q161, q163, q165, q167, q169, q171, q173, q175, q177, q179, q181, q183, q185, q187, q189, q191, q193, q195] : List Nat).getD k 0), (fun k => ([0, 0, 0, 0, 0, 0, 0, 0, 0, 0, 0, 0, 0, 0, 0, 0, 0, 0, 0, 0, 0, 0, 0, 0, 0, 0, 0, 0, 0, 0, 0, 0, 0, 0, 0, 0, 0, 0, 0, 0, 0, 0, 0, c132, c134, c136, c138, c140, c142, c144, c146, c148, c150, c152, c154, c156, c158, c160, c162, c164, c166, c168, c170, c172, c174, c176, c178, c180, c182, c184, c186, c188, c190, c192, c194, c196] : List ClassId).getD k 0), rfl, by rw [ht]; exact hP2, va_K.moved hW.alike hK2, hD2⟩, hS.F ht⟩) hS.2.2 (k_i_dec ht (i := 11) (j := 13) rfl)
