theorem k_cls_ty : ∀ q ∈ vwCl, ∀ k, k < q.2.2 → parseFieldDescriptor (q.2.1 k).2.2.1 = some ((parseFieldDescriptor (q.2.1 k).2.2.1).getD .int) := by decide +kernel
theorem k_cls_nm : ∀ q ∈ vwCl, ∀ a, a < q.2.2 → ∀ b, b < q.2.2 → a ≠ b → (q.2.1 a).2.1 ≠ (q.2.1 b).2.1 := by decide +kernel
section KH
variable {g : k_G} {d : Nat} {M : k_M} {pc : Nat} {l : List (Nat × Value)} {st : List Value} {u : k_S} {Q : Option Value → k_S → Prop}
theorem k_obj {a ci : Nat} {fs : List (Option Nat)} (ha : k_nth k_lay a = some (.inl (ci, fs))) : (k_wd g u)[a]? = some (k_ad g a, .inr (ci, k_fs g u a 0 fs)) := by
  rw [k_nth_eq] at ha
  exact k_wd_get g u ha
theorem k_arr {a n : Nat} {ty : FieldType} (ha : k_nth k_lay a = some (.inr (ty, n, false))) : (k_wd g u)[a]? = some (k_ad g a, .inl (k_ca g a, n, .inl (u.2.1 a))) := by
  rw [k_nth_eq] at ha
  exact k_wd_get g u ha
theorem k_arl {a n : Nat} {ty : FieldType} (ha : k_nth k_lay a = some (.inr (ty, n, true))) : (k_wd g u)[a]? = some (k_ad g a, .inl (k_ca g a, n, .inr (.inl (u.2.2 a)))) := by
  rw [k_nth_eq] at ha
  exact k_wd_get g u ha
theorem k_ty {a n : Nat} {ty : FieldType} {b : Bool} (ha : k_nth k_lay a = some (.inr (ty, n, b))) : ∃ t0 : Nat, (k_tys g 0 k_lay)[t0]? = some (k_ca g a, ty) := by
  rw [k_nth_eq] at ha
  simpa using k_tys_get g k_lay 0 a ty n b ha
/-- a field that holds a cell -/
theorem s_getr {idx a ci f t : Nat} {fs : List (Option Nat)} {b : Bool} {C : String} {T : u_T} {N : Nat} (i j : Nat) (hd : k_i M i j = some (pc, .getfield idx, 3)) (hw : k_flw (M.1.cls, idx, ci, f, b) ∈ k_sel b) (ha : k_nth k_lay a = some (.inl (ci, fs))) (hf : k_nth fs f = some (some t)) (hc : k_nth vwCl ci = some (C, T, N)) (hN : Nat.blt f N = true) (k : k_W g d M (pc + 3) l (.ref t :: st) u Q) : k_W g d M pc l (.ref a :: st) u Q := by
  intro p e R s m args below meth c H locs cells slots ls Z F h1 h2 h3 h4 hP hS hl hR
  have hx := F.1
  have hb := F.2.1
  have hown := F.2.2.2.1
  have hts := F.2.2.2.2.1
  have hK := F.2.2.2.2.2.1
  have hO := F.2.2.2.2.2.2.1
  have hZ := F.2.2.2.2.2.2.2.1
  have hap := F.2.2.2.2.2.2.2.2.1
  have ht := F.2.2.2.2.2.2.2.2.2.1
  have hNw := F.2.2.2.2.2.2.2.2.2.2
  rw [k_nth_eq] at hc
  have hin : ∀ w ∈ u_ws C T N, w ∈ k_tbl := k_cls_in _ (List.mem_of_getElem? hc)
  have hv : (k_fs g u a 0 fs)[f]? = some (.ref (k_ad g t)) := by rw [k_fs_get, ← k_nth_eq, hf]; rfl
  cases b with
  | true =>
    simp only [k_flw, hc, if_true, k_sel] at hw
    have hw := va_Nw.use (A := args) rfl (hNw _ hw)
    exact va_getN hx hb hts hin hown hK hP a (k_obj ha) hc f (Nat.blt_eq.mp hN) hw (fun _ z => z) hv (k_i_dec ht hd) (k p e R s m args below meth c H locs cells slots ls Z F h1 h2 h3 h4 hP hS hl hR)
  | false =>
    simp only [k_flw, hc, Bool.false_eq_true, if_false, k_sel] at hw
    exact va_get hx hb hts hin hown hK hP a (k_obj ha) hc f (Nat.blt_eq.mp hN) (hts _ hw) (fun _ z => z) hv (k_i_dec ht hd) (k p e R s m args below meth c H locs cells slots ls Z F h1 h2 h3 h4 hP hS hl hR)
/-- a field that holds an int -/
theorem s_geti {idx a ci f : Nat} {fs : List (Option Nat)} {b : Bool} {C : String} {T : u_T} {N : Nat} (n i j : Nat) (hd : k_i M i j = some (pc, .getfield idx, 3)) (hw : k_flw (M.1.cls, idx, ci, f, b) ∈ k_sel b) (ha : k_nth k_lay a = some (.inl (ci, fs))) (hf : k_nth fs f = some none) (hc : k_nth vwCl ci = some (C, T, N)) (hN : Nat.blt f N = true) (hn : 100 * a + f = n) (k : k_W g d M (pc + 3) l (.int (u.1 n) :: st) u Q) : k_W g d M pc l (.ref a :: st) u Q := by
  subst hn
  intro p e R s m args below meth c H locs cells slots ls Z F h1 h2 h3 h4 hP hS hl hR
  have hx := F.1
  have hb := F.2.1
  have hown := F.2.2.2.1
  have hts := F.2.2.2.2.1
  have hK := F.2.2.2.2.2.1
  have hO := F.2.2.2.2.2.2.1
  have hZ := F.2.2.2.2.2.2.2.1
  have hap := F.2.2.2.2.2.2.2.2.1
  have ht := F.2.2.2.2.2.2.2.2.2.1
  have hNw := F.2.2.2.2.2.2.2.2.2.2
  rw [k_nth_eq] at hc
  have hin : ∀ w ∈ u_ws C T N, w ∈ k_tbl := k_cls_in _ (List.mem_of_getElem? hc)
  have hv : (k_fs g u a 0 fs)[f]? = some (.int (u.1 (100 * a + f))) := by rw [k_fs_get, ← k_nth_eq, hf]; simp
  cases b with
  | true =>
    simp only [k_flw, hc, if_true, k_sel] at hw
    have hw := va_Nw.use (A := args) rfl (hNw _ hw)
    exact va_getN hx hb hts hin hown hK hP a (k_obj ha) hc f (Nat.blt_eq.mp hN) hw (fun _ z => z) hv (k_i_dec ht hd) (k p e R s m args below meth c H locs cells slots ls Z F h1 h2 h3 h4 hP hS hl hR)
  | false =>
    simp only [k_flw, hc, Bool.false_eq_true, if_false, k_sel] at hw
    exact va_get hx hb hts hin hown hK hP a (k_obj ha) hc f (Nat.blt_eq.mp hN) (hts _ hw) (fun _ z => z) hv (k_i_dec ht hd) (k p e R s m args below meth c H locs cells slots ls Z F h1 h2 h3 h4 hP hS hl hR)
/-- an int is put into a field -/
theorem s_puti {α : Type} {QQ : α → k_S → Prop} {B : k_S → Option (α × k_S)} {idx a ci f : Nat} {fs : List (Option Nat)} {b : Bool} {C : String} {T : u_T} {N : Nat} {v : Int32} {ty : FieldType} (n i j : Nat) (hd : k_i M i j = some (pc, .putfield idx, 3)) (hw : k_flw (M.1.cls, idx, ci, f, b) ∈ k_sel b) (ha : k_nth k_lay a = some (.inl (ci, fs))) (hf : k_nth fs f = some none) (hc : k_nth vwCl ci = some (C, T, N)) (hN : Nat.blt f N = true) (hn : 100 * a + f = n) (hfin : (T f).2.2.2 = false) (hty : parseFieldDescriptor (T f).2.2.1 = some ty) (hnar : narrow ty (.int v) = .int v) (hfit : fits ty (.int v) = true) (HH : k_sat (k_let (k_wF u n v) B) QQ) (k : ∀ u', k_sat (B u') QQ → k_W g d M (pc + 3) l st u' Q) : k_W g d M pc l (.int v :: .ref a :: st) u Q := by
  subst hn
  intro p e R s m args below meth c H locs cells slots ls Z F h1 h2 h3 h4 hP hS hl hR
  have hx := F.1
  have hb := F.2.1
  have hown := F.2.2.2.1
  have hts := F.2.2.2.2.1
  have hK := F.2.2.2.2.2.1
  have hO := F.2.2.2.2.2.2.1
  have hZ := F.2.2.2.2.2.2.2.1
  have hap := F.2.2.2.2.2.2.2.2.1
  have ht := F.2.2.2.2.2.2.2.2.2.1
  have hNw := F.2.2.2.2.2.2.2.2.2.2
  rw [k_nth_eq] at hc
  have hin : ∀ w ∈ u_ws C T N, w ∈ k_tbl := k_cls_in _ (List.mem_of_getElem? hc)
  have hfl : f < (k_fs g u a 0 fs).length := by
    have := k_fs_get g u a fs 0 f
    rw [← k_nth_eq fs, hf] at this
    exact (List.getElem?_eq_some_iff.mp this).1
  have hset := k_wd_F g u v (by rw [← k_nth_eq]; exact ha) (by rw [← k_nth_eq]; exact hf)
  have kk : ∀ (H1 : Heap) (locs1 : List Loc), va_P (k_D g) vwCl ((k_wd g u).set a (k_ad g a, .inr (ci, (k_fs g u a 0 fs).set f (.int v)))) H1 → va_D (k_A g) ((k_wd g u).set a (k_ad g a, .inr (ci, (k_fs g u a 0 fs).set f (.int v)))) → va_S (k_A g) s.heap H1 locs1 → W p g.1 e R s m args below meth c H1 locs1 cells slots Z (F0 m (pc + 3) ls (st.map (k_v g))) := by
    intro H1 locs1 hP1 _ hS1
    rw [← hset] at hP1
    exact k _ HH p e R s m args below meth c H1 locs1 cells slots ls Z F h1 h2 h3 h4 hP1 hS1 hl hR
  cases b with
  | true =>
    simp only [k_flw, hc, if_true, k_sel] at hw
    have hw := va_Nw.use (A := args) rfl (hNw _ hw)
    exact va_putN hx hb hts hin _ (k_cls_ty _ (List.mem_of_getElem? hc)) (k_cls_nm _ (List.mem_of_getElem? hc)) hown hK hP (k_wd_D hap u) hS a (k_obj ha) hc f (Nat.blt_eq.mp hN) hw (fun _ z => z) hfin hty hnar hfit hfl (k_i_dec ht hd) kk
  | false =>
    simp only [k_flw, hc, Bool.false_eq_true, if_false, k_sel] at hw
    exact va_put hx hb hts hin _ (k_cls_ty _ (List.mem_of_getElem? hc)) (k_cls_nm _ (List.mem_of_getElem? hc)) hown hK hP (k_wd_D hap u) hS a (k_obj ha) hc f (Nat.blt_eq.mp hN) (hts _ hw) (fun _ z => z) hfin hty hnar hfit hfl (k_i_dec ht hd) kk
theorem s_alen {a n : Nat} {ty : FieldType} {b : Bool} (v : Int32) (i j : Nat) (hd : k_i M i j = some (pc, .arraylength, 1)) (ha : k_nth k_lay a = some (.inr (ty, n, b))) (hv : Int32.ofNat n = v) (k : k_W g d M (pc + 1) l (.int v :: st) u Q) : k_W g d M pc l (.ref a :: st) u Q := by
  intro p e R s m args below meth c H locs cells slots ls Z F h1 h2 h3 h4 hP hS hl hR
  have hx := F.1
  have hb := F.2.1
  have hown := F.2.2.2.1
  have hts := F.2.2.2.2.1
  have hK := F.2.2.2.2.2.1
  have hO := F.2.2.2.2.2.2.1
  have hZ := F.2.2.2.2.2.2.2.1
  have hap := F.2.2.2.2.2.2.2.2.1
  have ht := F.2.2.2.2.2.2.2.2.2.1
  have hNw := F.2.2.2.2.2.2.2.2.2.2
  obtain ⟨t0, h0⟩ := k_ty (g := g) ha
  cases b with
  | false => exact va_alen hx hb hK hP a t0 (k_arr ha) h0 hv (k_i_dec ht hd) (k p e R s m args below meth c H locs cells slots ls Z F h1 h2 h3 h4 hP hS hl hR)
  | true => exact va_alen hx hb hK hP a t0 (k_arl ha) h0 hv (k_i_dec ht hd) (k p e R s m args below meth c H locs cells slots ls Z F h1 h2 h3 h4 hP hS hl hR)
theorem s_olen {a n : Nat} {f : Nat → Int32} (v : Int32) (i j : Nat) (hd : k_i M i j = some (pc, .arraylength, 1)) (ha : k_st g a = some (n, f)) (hv : Int32.ofNat n = v) (k : k_W g d M (pc + 1) l (.int v :: st) u Q) : k_W g d M pc l (.ref a :: st) u Q := by
  intro p e R s m args below meth c H locs cells slots ls Z F h1 h2 h3 h4 hP hS hl hR
  have hx := F.1
  have hb := F.2.1
  have hown := F.2.2.2.1
  have hts := F.2.2.2.2.1
  have hK := F.2.2.2.2.2.1
  have hO := F.2.2.2.2.2.2.1
  have hZ := F.2.2.2.2.2.2.2.1
  have hap := F.2.2.2.2.2.2.2.2.1
  have ht := F.2.2.2.2.2.2.2.2.2.1
  have hNw := F.2.2.2.2.2.2.2.2.2.2
  exact va_tlen hx hb (hO a n f ha) hS hv (k_i_dec ht hd) (k p e R s m args below meth c H locs cells slots ls Z F h1 h2 h3 h4 hP hS hl hR)
theorem s_oald {α : Type} {QQ : α → k_S → Prop} {B : Option (α × k_S)} {a n : Nat} {f : Nat → Int32} {x : Int32} (i j : Nat) (hd : k_i M i j = some (pc, .iaload, 1)) (ha : k_st g a = some (n, f)) (HH : k_sat (k_ck x n B) QQ) (k : vp_in x n → k_sat B QQ → k_W g d M (pc + 1) l (.int (f x.toNatClampNeg) :: st) u Q) : k_W g d M pc l (.int x :: .ref a :: st) u Q := by
  intro p e R s m args below meth c H locs cells slots ls Z F h1 h2 h3 h4 hP hS hl hR
  have hx := F.1
  have hb := F.2.1
  have hown := F.2.2.2.1
  have hts := F.2.2.2.2.1
  have hK := F.2.2.2.2.2.1
  have hO := F.2.2.2.2.2.2.1
  have hZ := F.2.2.2.2.2.2.2.1
  have hap := F.2.2.2.2.2.2.2.2.1
  have ht := F.2.2.2.2.2.2.2.2.2.1
  have hNw := F.2.2.2.2.2.2.2.2.2.2
  obtain ⟨hin, hB⟩ := k_sat_ck HH
  exact va_ti hx hb (hO a n f ha) hS hin rfl (k_i_dec ht hd) (k hin hB p e R s m args below meth c H locs cells slots ls Z F h1 h2 h3 h4 hP hS hl hR)
theorem s_gets {idx a : Nat} {C nm : String} (i j n : Nat) (hd : k_i M i j = some (pc, .getstatic idx, 3)) (hs : k_nth k_sf n = some (C, nm, a)) (hw : Cond.fieldLink M.1.cls idx C nm "[I" ∈ k_tbl) (k : k_W g d M (pc + 3) l (.ref a :: st) u Q) : k_W g d M pc l st u Q := by
  intro p e R s m args below meth c H locs cells slots ls Z F h1 h2 h3 h4 hP hS hl hR
  have hx := F.1
  have hb := F.2.1
  have hown := F.2.2.2.1
  have hts := F.2.2.2.2.1
  have hK := F.2.2.2.2.2.1
  have hO := F.2.2.2.2.2.2.1
  have hZ := F.2.2.2.2.2.2.2.1
  have hap := F.2.2.2.2.2.2.2.2.1
  have ht := F.2.2.2.2.2.2.2.2.2.1
  have hNw := F.2.2.2.2.2.2.2.2.2.2
  rw [k_nth_eq] at hs
  exact va_gets hx hb (hZ _ (List.mem_of_getElem? hs)) hS hown (hts _ hw) (fun _ z => z) (k_i_dec ht hd) (k p e R s m args below meth c H locs cells slots ls Z F h1 h2 h3 h4 hP hS hl hR)
theorem s_iald {α : Type} {QQ : α → k_S → Prop} {B : Option (α × k_S)} {a n : Nat} {x : Int32} (i j : Nat) (hd : k_i M i j = some (pc, .iaload, 1)) (ha : k_nth k_lay a = some (.inr (.int, n, false))) (HH : k_sat (k_ck x n B) QQ) (k : vp_in x n → k_sat B QQ → k_W g d M (pc + 1) l (.int (u.2.1 a x.toNatClampNeg) :: st) u Q) : k_W g d M pc l (.int x :: .ref a :: st) u Q := by
  intro p e R s m args below meth c H locs cells slots ls Z F h1 h2 h3 h4 hP hS hl hR
  have hx := F.1
  have hb := F.2.1
  have hown := F.2.2.2.1
  have hts := F.2.2.2.2.1
  have hK := F.2.2.2.2.2.1
  have hO := F.2.2.2.2.2.2.1
  have hZ := F.2.2.2.2.2.2.2.1
  have hap := F.2.2.2.2.2.2.2.2.1
  have ht := F.2.2.2.2.2.2.2.2.2.1
  have hNw := F.2.2.2.2.2.2.2.2.2.2
  obtain ⟨hin, hB⟩ := k_sat_ck HH
  obtain ⟨t0, h0⟩ := k_ty (g := g) ha
  exact va_iald hx hb hK hP a t0 (k_arr ha) h0 hin (k_i_dec ht hd) (k hin hB p e R s m args below meth c H locs cells slots ls Z F h1 h2 h3 h4 hP hS hl hR)
theorem s_bald {α : Type} {QQ : α → k_S → Prop} {B : Option (α × k_S)} {a n : Nat} {x : Int32} (i j : Nat) (hd : k_i M i j = some (pc, .baload, 1)) (ha : k_nth k_lay a = some (.inr (.byte, n, false))) (HH : k_sat (k_ck x n B) QQ) (k : vp_in x n → k_sat B QQ → k_W g d M (pc + 1) l (.int (u.2.1 a x.toNatClampNeg) :: st) u Q) : k_W g d M pc l (.int x :: .ref a :: st) u Q := by
  intro p e R s m args below meth c H locs cells slots ls Z F h1 h2 h3 h4 hP hS hl hR
  have hx := F.1
  have hb := F.2.1
  have hown := F.2.2.2.1
  have hts := F.2.2.2.2.1
  have hK := F.2.2.2.2.2.1
  have hO := F.2.2.2.2.2.2.1
  have hZ := F.2.2.2.2.2.2.2.1
  have hap := F.2.2.2.2.2.2.2.2.1
  have ht := F.2.2.2.2.2.2.2.2.2.1
  have hNw := F.2.2.2.2.2.2.2.2.2.2
  obtain ⟨hin, hB⟩ := k_sat_ck HH
  obtain ⟨t0, h0⟩ := k_ty (g := g) ha
  exact va_bald hx hb hK hP a t0 (k_arr ha) h0 hin (k_i_dec ht hd) (k hin hB p e R s m args below meth c H locs cells slots ls Z F h1 h2 h3 h4 hP hS hl hR)
theorem s_zald {α : Type} {QQ : α → k_S → Prop} {B : Option (α × k_S)} {a n : Nat} {x : Int32} (i j : Nat) (hd : k_i M i j = some (pc, .baload, 1)) (ha : k_nth k_lay a = some (.inr (.boolean, n, false))) (HH : k_sat (k_ck x n B) QQ) (k : vp_in x n → k_sat B QQ → k_W g d M (pc + 1) l (.int (u.2.1 a x.toNatClampNeg) :: st) u Q) : k_W g d M pc l (.int x :: .ref a :: st) u Q := by
  intro p e R s m args below meth c H locs cells slots ls Z F h1 h2 h3 h4 hP hS hl hR
  have hx := F.1
  have hb := F.2.1
  have hown := F.2.2.2.1
  have hts := F.2.2.2.2.1
  have hK := F.2.2.2.2.2.1
  have hO := F.2.2.2.2.2.2.1
  have hZ := F.2.2.2.2.2.2.2.1
  have hap := F.2.2.2.2.2.2.2.2.1
  have ht := F.2.2.2.2.2.2.2.2.2.1
  have hNw := F.2.2.2.2.2.2.2.2.2.2
  obtain ⟨hin, hB⟩ := k_sat_ck HH
  obtain ⟨t0, h0⟩ := k_ty (g := g) ha
  exact va_zald hx hb hK hP a t0 (k_arr ha) h0 hin (k_i_dec ht hd) (k hin hB p e R s m args below meth c H locs cells slots ls Z F h1 h2 h3 h4 hP hS hl hR)
theorem s_sald {α : Type} {QQ : α → k_S → Prop} {B : Option (α × k_S)} {a n : Nat} {x : Int32} (i j : Nat) (hd : k_i M i j = some (pc, .saload, 1)) (ha : k_nth k_lay a = some (.inr (.short, n, false))) (HH : k_sat (k_ck x n B) QQ) (k : vp_in x n → k_sat B QQ → k_W g d M (pc + 1) l (.int (u.2.1 a x.toNatClampNeg) :: st) u Q) : k_W g d M pc l (.int x :: .ref a :: st) u Q := by
  intro p e R s m args below meth c H locs cells slots ls Z F h1 h2 h3 h4 hP hS hl hR
  have hx := F.1
  have hb := F.2.1
  have hown := F.2.2.2.1
  have hts := F.2.2.2.2.1
  have hK := F.2.2.2.2.2.1
  have hO := F.2.2.2.2.2.2.1
  have hZ := F.2.2.2.2.2.2.2.1
  have hap := F.2.2.2.2.2.2.2.2.1
  have ht := F.2.2.2.2.2.2.2.2.2.1
  have hNw := F.2.2.2.2.2.2.2.2.2.2
  obtain ⟨hin, hB⟩ := k_sat_ck HH
  obtain ⟨t0, h0⟩ := k_ty (g := g) ha
  exact va_sald hx hb hK hP a t0 (k_arr ha) h0 hin (k_i_dec ht hd) (k hin hB p e R s m args below meth c H locs cells slots ls Z F h1 h2 h3 h4 hP hS hl hR)
theorem s_lald {α : Type} {QQ : α → k_S → Prop} {B : Option (α × k_S)} {a n : Nat} {x : Int32} (i j : Nat) (hd : k_i M i j = some (pc, .laload, 1)) (ha : k_nth k_lay a = some (.inr (.long, n, true))) (HH : k_sat (k_ck x n B) QQ) (k : vp_in x n → k_sat B QQ → k_W g d M (pc + 1) l (.long (u.2.2 a x.toNatClampNeg) :: st) u Q) : k_W g d M pc l (.int x :: .ref a :: st) u Q := by
  intro p e R s m args below meth c H locs cells slots ls Z F h1 h2 h3 h4 hP hS hl hR
  have hx := F.1
  have hb := F.2.1
  have hown := F.2.2.2.1
  have hts := F.2.2.2.2.1
  have hK := F.2.2.2.2.2.1
  have hO := F.2.2.2.2.2.2.1
  have hZ := F.2.2.2.2.2.2.2.1
  have hap := F.2.2.2.2.2.2.2.2.1
  have ht := F.2.2.2.2.2.2.2.2.2.1
  have hNw := F.2.2.2.2.2.2.2.2.2.2
  obtain ⟨hin, hB⟩ := k_sat_ck HH
  obtain ⟨t0, h0⟩ := k_ty (g := g) ha
  exact va_lald hx hb hK hP a t0 (k_arl ha) h0 hin (k_i_dec ht hd) (k hin hB p e R s m args below meth c H locs cells slots ls Z F h1 h2 h3 h4 hP hS hl hR)
theorem s_iast {α : Type} {QQ : α → k_S → Prop} {B : k_S → Option (α × k_S)} {a n : Nat} {x : Int32} {v : Int32} (i j : Nat) (hd : k_i M i j = some (pc, .iastore, 1)) (ha : k_nth k_lay a = some (.inr (.int, n, false))) (HH : k_sat (k_ck x n (k_let (k_wA u a x.toNatClampNeg v) B)) QQ) (k : ∀ u', k_sat (B u') QQ → k_W g d M (pc + 1) l st u' Q) : k_W g d M pc l (.int v :: .int x :: .ref a :: st) u Q := by
  intro p e R s m args below meth c H locs cells slots ls Z F h1 h2 h3 h4 hP hS hl hR
  have hx := F.1
  have hb := F.2.1
  have hown := F.2.2.2.1
  have hts := F.2.2.2.2.1
  have hK := F.2.2.2.2.2.1
  have hO := F.2.2.2.2.2.2.1
  have hZ := F.2.2.2.2.2.2.2.1
  have hap := F.2.2.2.2.2.2.2.2.1
  have ht := F.2.2.2.2.2.2.2.2.2.1
  have hNw := F.2.2.2.2.2.2.2.2.2.2
  obtain ⟨hin, hB⟩ := k_sat_ck HH
  obtain ⟨t0, h0⟩ := k_ty (g := g) ha
  have hset := k_wd_A g u (k := a) x.toNatClampNeg v (by rw [← k_nth_eq]; exact ha)
  refine va_iast hx hb hK hP (k_wd_D hap u) hS a t0 (k_arr ha) h0 hin (k_i_dec ht hd) (fun H1 locs1 hP1 _ hS1 => ?_)
  have hP1 : va_P (k_D g) vwCl (k_wd g (k_wA u a x.toNatClampNeg v)) H1 := by rw [hset]; exact hP1
  exact k _ hB p e R s m args below meth c H1 locs1 cells slots ls Z F h1 h2 h3 h4 hP1 hS1 hl hR
theorem s_bast {α : Type} {QQ : α → k_S → Prop} {B : k_S → Option (α × k_S)} {a n : Nat} {x : Int32} {v : Int32} (i j : Nat) (hd : k_i M i j = some (pc, .bastore, 1)) (ha : k_nth k_lay a = some (.inr (.byte, n, false))) (HH : k_sat (k_ck x n (k_let (k_wA u a x.toNatClampNeg v.toInt8.toInt32) B)) QQ) (k : ∀ u', k_sat (B u') QQ → k_W g d M (pc + 1) l st u' Q) : k_W g d M pc l (.int v :: .int x :: .ref a :: st) u Q := by
  intro p e R s m args below meth c H locs cells slots ls Z F h1 h2 h3 h4 hP hS hl hR
  have hx := F.1
  have hb := F.2.1
  have hown := F.2.2.2.1
  have hts := F.2.2.2.2.1
  have hK := F.2.2.2.2.2.1
  have hO := F.2.2.2.2.2.2.1
  have hZ := F.2.2.2.2.2.2.2.1
  have hap := F.2.2.2.2.2.2.2.2.1
  have ht := F.2.2.2.2.2.2.2.2.2.1
  have hNw := F.2.2.2.2.2.2.2.2.2.2
  obtain ⟨hin, hB⟩ := k_sat_ck HH
  obtain ⟨t0, h0⟩ := k_ty (g := g) ha
  have hset := k_wd_A g u (k := a) x.toNatClampNeg v.toInt8.toInt32 (by rw [← k_nth_eq]; exact ha)
  refine va_bast hx hb hK hP (k_wd_D hap u) hS a t0 (k_arr ha) h0 hin (k_i_dec ht hd) (fun H1 locs1 hP1 _ hS1 => ?_)
  have hP1 : va_P (k_D g) vwCl (k_wd g (k_wA u a x.toNatClampNeg v.toInt8.toInt32)) H1 := by rw [hset]; exact hP1
  exact k _ hB p e R s m args below meth c H1 locs1 cells slots ls Z F h1 h2 h3 h4 hP1 hS1 hl hR
theorem s_zast {α : Type} {QQ : α → k_S → Prop} {B : k_S → Option (α × k_S)} {a n : Nat} {x : Int32} {v : Int32} (i j : Nat) (hd : k_i M i j = some (pc, .bastore, 1)) (ha : k_nth k_lay a = some (.inr (.boolean, n, false))) (HH : k_sat (k_ck x n (k_let (k_wA u a x.toNatClampNeg (v &&& 1)) B)) QQ) (k : ∀ u', k_sat (B u') QQ → k_W g d M (pc + 1) l st u' Q) : k_W g d M pc l (.int v :: .int x :: .ref a :: st) u Q := by
  intro p e R s m args below meth c H locs cells slots ls Z F h1 h2 h3 h4 hP hS hl hR
  have hx := F.1
  have hb := F.2.1
  have hown := F.2.2.2.1
  have hts := F.2.2.2.2.1
  have hK := F.2.2.2.2.2.1
  have hO := F.2.2.2.2.2.2.1
  have hZ := F.2.2.2.2.2.2.2.1
  have hap := F.2.2.2.2.2.2.2.2.1
  have ht := F.2.2.2.2.2.2.2.2.2.1
  have hNw := F.2.2.2.2.2.2.2.2.2.2
  obtain ⟨hin, hB⟩ := k_sat_ck HH
  obtain ⟨t0, h0⟩ := k_ty (g := g) ha
  have hset := k_wd_A g u (k := a) x.toNatClampNeg (v &&& 1) (by rw [← k_nth_eq]; exact ha)
  refine va_zast hx hb hK hP (k_wd_D hap u) hS a t0 (k_arr ha) h0 hin (k_i_dec ht hd) (fun H1 locs1 hP1 _ hS1 => ?_)
  have hP1 : va_P (k_D g) vwCl (k_wd g (k_wA u a x.toNatClampNeg (v &&& 1))) H1 := by rw [hset]; exact hP1
  exact k _ hB p e R s m args below meth c H1 locs1 cells slots ls Z F h1 h2 h3 h4 hP1 hS1 hl hR
theorem s_sast {α : Type} {QQ : α → k_S → Prop} {B : k_S → Option (α × k_S)} {a n : Nat} {x : Int32} {v : Int32} (i j : Nat) (hd : k_i M i j = some (pc, .sastore, 1)) (ha : k_nth k_lay a = some (.inr (.short, n, false))) (HH : k_sat (k_ck x n (k_let (k_wA u a x.toNatClampNeg v.toInt16.toInt32) B)) QQ) (k : ∀ u', k_sat (B u') QQ → k_W g d M (pc + 1) l st u' Q) : k_W g d M pc l (.int v :: .int x :: .ref a :: st) u Q := by
  intro p e R s m args below meth c H locs cells slots ls Z F h1 h2 h3 h4 hP hS hl hR
  have hx := F.1
  have hb := F.2.1
  have hown := F.2.2.2.1
  have hts := F.2.2.2.2.1
  have hK := F.2.2.2.2.2.1
  have hO := F.2.2.2.2.2.2.1
  have hZ := F.2.2.2.2.2.2.2.1
  have hap := F.2.2.2.2.2.2.2.2.1
  have ht := F.2.2.2.2.2.2.2.2.2.1
  have hNw := F.2.2.2.2.2.2.2.2.2.2
  obtain ⟨hin, hB⟩ := k_sat_ck HH
  obtain ⟨t0, h0⟩ := k_ty (g := g) ha
  have hset := k_wd_A g u (k := a) x.toNatClampNeg v.toInt16.toInt32 (by rw [← k_nth_eq]; exact ha)
  refine va_sast hx hb hK hP (k_wd_D hap u) hS a t0 (k_arr ha) h0 hin (k_i_dec ht hd) (fun H1 locs1 hP1 _ hS1 => ?_)
  have hP1 : va_P (k_D g) vwCl (k_wd g (k_wA u a x.toNatClampNeg v.toInt16.toInt32)) H1 := by rw [hset]; exact hP1
  exact k _ hB p e R s m args below meth c H1 locs1 cells slots ls Z F h1 h2 h3 h4 hP1 hS1 hl hR
theorem s_last {α : Type} {QQ : α → k_S → Prop} {B : k_S → Option (α × k_S)} {a n : Nat} {x : Int32} {v : Int64} (i j : Nat) (hd : k_i M i j = some (pc, .lastore, 1)) (ha : k_nth k_lay a = some (.inr (.long, n, true))) (HH : k_sat (k_ck x n (k_let (k_wL u a x.toNatClampNeg v) B)) QQ) (k : ∀ u', k_sat (B u') QQ → k_W g d M (pc + 1) l st u' Q) : k_W g d M pc l (.long v :: .int x :: .ref a :: st) u Q := by
  intro p e R s m args below meth c H locs cells slots ls Z F h1 h2 h3 h4 hP hS hl hR
  have hx := F.1
  have hb := F.2.1
  have hown := F.2.2.2.1
  have hts := F.2.2.2.2.1
  have hK := F.2.2.2.2.2.1
  have hO := F.2.2.2.2.2.2.1
  have hZ := F.2.2.2.2.2.2.2.1
  have hap := F.2.2.2.2.2.2.2.2.1
  have ht := F.2.2.2.2.2.2.2.2.2.1
  have hNw := F.2.2.2.2.2.2.2.2.2.2
  obtain ⟨hin, hB⟩ := k_sat_ck HH
  obtain ⟨t0, h0⟩ := k_ty (g := g) ha
  have hset := k_wd_L g u (k := a) x.toNatClampNeg v (by rw [← k_nth_eq]; exact ha)
  refine va_last hx hb hK hP (k_wd_D hap u) hS a t0 (k_arl ha) h0 hin (k_i_dec ht hd) (fun H1 locs1 hP1 _ hS1 => ?_)
  have hP1 : va_P (k_D g) vwCl (k_wd g (k_wL u a x.toNatClampNeg v)) H1 := by rw [hset]; exact hP1
  exact k _ hB p e R s m args below meth c H1 locs1 cells slots ls Z F h1 h2 h3 h4 hP1 hS1 hl hR
end KH
