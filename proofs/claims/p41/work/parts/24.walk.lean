set_option maxHeartbeats 8000000 in
set_option maxRecDepth 100000 in
theorem k_start {p : Program} {e : Env} {s : State} {m : MethodId} {below : List Frame} {meth : Method} {c : Code} (l : Launch) {b L : Nat} {xs : Nat → Int32} (C0 : lw_At p s m meth c b L xs) (hsat : k_sat (k_itr (fun (x : (Int32)) u => f_law_B18 L xs x u) k_FU 0 z_u0) (fun y _ => y = .inr ())) : W p l e room_1 s m #[Value.ref b] below meth c s.heap [] 0 0 (lw_Z below #[Value.ref b] s) (entryFrame m ([Value.ref b] : List Value).toArray 4) := by
  obtain ⟨hx, hb, hr, hml, hown, hts0, hX, hbl, hlocks, hgv⟩ := id C0
  have hown : s.vm.findClass RL = some m.cls := hown
  have hts : ∀ w ∈ k_tbl, w.before #[Value.ref b] s = true := fun w hw => hts0 w (List.mem_filter.mp hw).1
  have hNw : k_Nw s := fun w hw => by
    have hn := (List.mem_filter.mp hw).2
    have h1 := hts0 w (List.mem_filter.mp hw).1
    cases w <;> simp [k_isN] at hn
    · exact va_Nw.of rfl h1
    · exact va_Nw.of rfl h1
  obtain ⟨c0, iS0, hKn0⟩ := u_known (C := RX0) (T := TX0) (N := 5) (n := 5) hts k_u0 (hts (.instantiable RX0 5) (k_in (lw_T1 (List.mem_of_getElem? (i := 5) (by decide +kernel))) rfl))
  obtain ⟨c1, iS1, hKn1⟩ := u_known (C := RX1) (T := TX1) (N := 6) (n := 6) hts k_u1 (hts (.instantiable RX1 6) (k_in (lw_T0 (List.mem_of_getElem? (i := 218) (by decide +kernel))) rfl))
  obtain ⟨c2, iS2, hKn2⟩ := u_known (C := RX2) (T := TX2) (N := 8) (n := 8) hts k_u2 (hts (.instantiable RX2 8) (k_in (lw_T0 (List.mem_of_getElem? (i := 182) (by decide +kernel))) rfl))
  obtain ⟨c3, iS3, hKn3⟩ := u_known (C := RX3) (T := TX3) (N := 6) (n := 6) hts k_u3 (hts (.instantiable RX3 6) (k_in (lw_T0 (List.mem_of_getElem? (i := 63) (by decide +kernel))) rfl))
  obtain ⟨c4, iS4, hKn4⟩ := u_known (C := RX4) (T := TX4) (N := 4) (n := 4) hts k_u4 (hts (.instantiable RX4 4) (k_in (lw_T0 (List.mem_of_getElem? (i := 69) (by decide +kernel))) rfl))
  obtain ⟨c5, iS5, hKn5⟩ := u_known (C := RX5) (T := TX5) (N := 3) (n := 3) hts k_u5 (hts (.instantiable RX5 3) (k_in (lw_T0 (List.mem_of_getElem? (i := 115) (by decide +kernel))) rfl))
  obtain ⟨c6, iS6, hKn6⟩ := u_known (C := RX6) (T := TX6) (N := 7) (n := 7) hts k_u6 (hts (.instantiable RX6 7) (k_in (lw_T0 (List.mem_of_getElem? (i := 109) (by decide +kernel))) rfl))
  obtain ⟨c7, iS7, hKn7⟩ := u_known (C := RX7) (T := TX7) (N := 4) (n := 4) hts k_u7 (hts (.instantiable RX7 4) (k_in (lw_T0 (List.mem_of_getElem? (i := 161) (by decide +kernel))) rfl))
  obtain ⟨c8, iS8, hKn8⟩ := u_known (C := RX8) (T := TX8) (N := 3) (n := 3) hts k_u8 (hts (.instantiable RX8 3) (k_in (lw_T1 (List.mem_of_getElem? (i := 29) (by decide +kernel))) rfl))
  obtain ⟨c9, iS9, hKn9⟩ := u_known (C := RX9) (T := TX9) (N := 2) (n := 2) hts k_u9 (hts (.instantiable RX9 2) (k_in (lw_T0 (List.mem_of_getElem? (i := 25) (by decide +kernel))) rfl))
  obtain ⟨c10, iS10, hKn10⟩ := u_known (C := RX10) (T := TX10) (N := 4) (n := 4) hts k_u10 (hts (.instantiable RX10 4) (k_in (lw_T0 (List.mem_of_getElem? (i := 42) (by decide +kernel))) rfl))
  obtain ⟨c11, iS11, hKn11⟩ := u_known (C := RX11) (T := TX11) (N := 11) (n := 11) hts k_u11 (hts (.instantiable RX11 11) (k_in (lw_T0 (List.mem_of_getElem? (i := 17) (by decide +kernel))) rfl))
  obtain ⟨c12, iS12, hKn12⟩ := u_known (C := RX12) (T := TX12) (N := 53) (n := 53) hts k_u12 (hts (.instantiable RX12 53) (k_in (lw_T3 (List.mem_of_getElem? (i := 188) (by decide +kernel))) rfl))
  obtain ⟨dC, dI, hKc⟩ : ∃ (dC : Nat → ClassId) (dI : Nat → Nat → Nat), ∀ (k : Nat) (q : vw_C), vwCl[k]? = some q → u_Kn s q.1 q.2.1 q.2.2 (dC k) (dI k) := by
    refine ⟨fun k => [c0, c1, c2, c3, c4, c5, c6, c7, c8, c9, c10, c11, c12].getD k 0, fun k => [iS0, iS1, iS2, iS3, iS4, iS5, iS6, iS7, iS8, iS9, iS10, iS11, iS12].getD k (fun _ => 0), ?_⟩
    intro k q hq
    match k, hq with
    | 0, hq => cases hq; exact hKn0
    | 1, hq => cases hq; exact hKn1
    | 2, hq => cases hq; exact hKn2
    | 3, hq => cases hq; exact hKn3
    | 4, hq => cases hq; exact hKn4
    | 5, hq => cases hq; exact hKn5
    | 6, hq => cases hq; exact hKn6
    | 7, hq => cases hq; exact hKn7
    | 8, hq => cases hq; exact hKn8
    | 9, hq => cases hq; exact hKn9
    | 10, hq => cases hq; exact hKn10
    | 11, hq => cases hq; exact hKn11
    | 12, hq => cases hq; exact hKn12
    | k + 13, hq => simp [vwCl] at hq
  obtain ⟨A, hAe⟩ : ∃ A : Nat → Prop, A = (fun q : Nat => s.heap.size ≤ q) := ⟨_, rfl⟩
  have hA : ∀ q : Nat, s.heap.size ≤ q → A q := fun q h => by rw [hAe]; exact h
  have hAn : ∀ a : Nat, a < s.heap.size → ¬ A a := fun a h => by rw [hAe]; exact Nat.not_le.mpr h
  have hfl := flat_of_before _ hgv
  obtain ⟨t100, hZ0, hT0⟩ := k_stat100 hts0 hts hfl hAn
  obtain ⟨t101, hZ1, hT1⟩ := k_stat101 hts0 hts hfl hAn
  obtain ⟨t102, hZ2, hT2⟩ := k_stat102 hts0 hts hfl hAn
  obtain ⟨t103, hZ3, hT3⟩ := k_stat103 hts0 hts hfl hAn
  have hT4 : va_T .int b L (fun j => .int (xs j)) A s s.heap := by
    obtain ⟨scr, a1, a2, a3, a4, a5⟩ := hX
    exact ⟨scr, a1, a2, a3, Nat.le_of_eq a4.symm, by rw [a4], a5, hAn b hbl⟩
  have hS : va_S A s.heap s.heap [] := va_S.rf
  have hK : va_K (dC, dI) vwCl [] s := ⟨hKc, fun k q h => by simp at h⟩
  have hP : va_P (dC, dI) vwCl [] s.heap := fun k q h => by simp at h
  have hD : va_D A [] := ⟨fun i j p q h => by simp at h, fun k q h => by simp at h⟩
  have ht := k_tab_of ML_law_dec
  have hl := lv_entry ([.ref b]) (n := 4) (Nat.le_of_ble_eq_true rfl)
  rw [lg_entry_eq]
  generalize (lg_sl ([.ref b]) ++ List.replicate (4 - (lg_sl ([.ref b])).length) Slot.unset).toArray = ls at hl ⊢
  have hl : lv_has ls 4 [(0, .ref b)] := hl
  refine va_new (ci := 11) (fs := [.null, .null, .null, .null, .null, .null, .null, .null, .null, .null, .int 0]) (C := RX11) (T := TX11) (N := 11) hx hb hts k_u11 tyX11 tyX11_ok hown (hts (.classLink RL 7 RX11) (k_in (lw_T0 (List.mem_of_getElem? (i := 16) (by decide +kernel))) rfl)) (hts (.instantiable RX11 11) (k_in (lw_T0 (List.mem_of_getElem? (i := 17) (by decide +kernel))) rfl)) (hts (.initialized RX11) (k_in (lw_T0 (List.mem_of_getElem? (i := 1) (by decide +kernel))) rfl)) hK hP hD hS hA rfl (k_all 11 (by simp only [List.range, List.range.loop, List.mem_cons, forall_eq_or_imp, List.not_mem_nil, false_imp_iff, implies_true, and_true]; exact ⟨rfl, rfl, rfl, rfl, rfl, rfl, rfl, rfl, rfl, rfl, rfl⟩)) (Nat.le_of_ble_eq_true rfl) (Nat.le_of_ble_eq_true rfl) (k_i_dec ht (i := 0) (j := 0) rfl) (fun q H hP hD hS => ?_)
  refine lv_dup hx hb (k_i_dec ht (i := 0) (j := 1) rfl) rfl ?_
  have hPc : va_P (dC, dI) vwCl [(q, .inr (11, [.null, .null, .null, .null, .null, .null, .null, .null, .null, .null, .int 0]))] H := hP.sub [0] rfl
  have hDc : va_D A [(q, .inr (11, [.null, .null, .null, .null, .null, .null, .null, .null, .null, .null, .int 0]))] := hD.sub [0] rfl rfl
  have hKc := hK.sub (tys' := []) [] rfl
  have hFc := va_free (wc := [(q, .inr (11, [.null, .null, .null, .null, .null, .null, .null, .null, .null, .null, .int 0]))]) hD hS hA [0] rfl
  refine va_callv (va_runI (y := yX11_init) (As := []) (rest := [.ref q]) ⟨hx, hb, hml, hown, hts⟩ (i_X11_init l dC dI q H.size) (cwI 0 hts (k_good vcX11_init) rfl rfl rfl (hts (.initialized RX11) (k_in (lw_T0 (List.mem_of_getElem? (i := 1) (by decide +kernel))) rfl)) (hts (.methodLink RL 9 yX11_init) (k_in (lw_T0 (List.mem_of_getElem? (i := 18) (by decide +kernel))) rfl)) (hts (.instanceMethod yX11_init) (k_in (lw_T0 (List.mem_of_getElem? (i := 19) (by decide +kernel))) rfl)) rfl (by decide +kernel) ⟨Nat.le_of_ble_eq_true rfl, Nat.le_of_ble_eq_true rfl⟩) ⟨fun a U g mk q => by obtain ⟨q0, q1, qP, qK, qD, qN⟩ := q; exact ⟨q0, q1, qP, va_K.moved (u := U) (U := U.calling g mk a) (Vm.Alike.refl U.vm) qK, qD, k_Nw.same (u := U) (U := U.calling g mk a) rfl qN⟩, fun U hU hW => ⟨rfl, by rw [hU], by rw [hU]; exact hPc, va_K.moved hW.alike hKc, hDc.weaken (fun _ _ _ _ => trivial), k_Nw.warm hW hNw⟩⟩ rfl rfl hl.1 rfl (lv_room (Nat.le_of_ble_eq_true rfl)) (k_i_dec ht (i := 0) (j := 2) rfl) ⟨Nat.le_of_ble_eq_true rfl, Nat.le_of_ble_eq_true rfl⟩) hS (fun q _ h => hFc q h) hFc (fun u t H1 locs ht1 hvm hw hB hz1 hk1 hS => ?_)
  obtain ⟨ad1, ca1, ha1, hP1, hK1, hD1⟩ := hB
  rw [ht1] at hP1
  have hK1 := va_K.moved hvm.symm hK1
  have hD1 : va_D A _ := hD1.weaken (fun k q _ h => hFc q.1 h)
  obtain ⟨W1, hW1⟩ : ∃ W1, W1 = k_w (x_g l (dC, dI) ad1 ca1) z_u0 0 x_layW := ⟨_, rfl⟩
  obtain ⟨K1, hKe1⟩ : ∃ K1, K1 = k_tys (x_g l (dC, dI) ad1 ca1) 0 x_layW := ⟨_, rfl⟩
  rw [← hW1] at hP1 hD1
  rw [← hKe1] at hK1
  generalize H1 = H at hP1 hS ⊢
  clear hP hD hK hPc hDc hKc hFc hk1 hz1 ht1 hvm hw
  have hP := hP1
  have hD := hD1
  have hK := hK1
  refine lv_astore_n (lv' := [(1, .ref q), (0, .ref b)]) hx hb (k_i_dec ht (i := 0) (j := 3) rfl) rfl hl (by decide) rfl (fun ls hl => ?_)
  generalize hqe : q = q1 at hl ha1 ⊢
  refine va_new (ci := 12) (fs := [.int 0, .null, .int 0, .int 0, .null, .null, .null, .null, .null, .int 0, .int 0, .int 0, .int 0, .int 0, .int 0, .int 0, .null, .null, .null, .null, .null, .null, .null, .int 0, .int 0, .int 0, .null, .null, .null, .null, .int 0, .null, .null, .null, .null, .int 0, .null, .null, .null, .null, .int 0, .int 0, .int 0, .null, .null, .int 0, .null, .int 0, .null, .null, .null, .null, .null]) (C := RX12) (T := TX12) (N := 53) hx hb hts k_u12 tyX12 tyX12_ok hown (hts (.classLink RL 10 RX12) (k_in (lw_T3 (List.mem_of_getElem? (i := 187) (by decide +kernel))) rfl)) (hts (.instantiable RX12 53) (k_in (lw_T3 (List.mem_of_getElem? (i := 188) (by decide +kernel))) rfl)) (hts (.initialized RX12) (k_in (lw_T0 (List.mem_of_getElem? (i := 13) (by decide +kernel))) rfl)) hK hP hD hS hA rfl (k_all 53 (by simp only [List.range, List.range.loop, List.mem_cons, forall_eq_or_imp, List.not_mem_nil, false_imp_iff, implies_true, and_true]; exact ⟨rfl, rfl, rfl, rfl, rfl, rfl, rfl, rfl, rfl, rfl, rfl, rfl, rfl, rfl, rfl, rfl, rfl, rfl, rfl, rfl, rfl, rfl, rfl, rfl, rfl, rfl, rfl, rfl, rfl, rfl, rfl, rfl, rfl, rfl, rfl, rfl, rfl, rfl, rfl, rfl, rfl, rfl, rfl, rfl, rfl, rfl, rfl, rfl, rfl, rfl, rfl, rfl, rfl⟩)) (Nat.le_of_ble_eq_true rfl) (Nat.le_of_ble_eq_true rfl) (k_i_dec ht (i := 0) (j := 4) rfl) (fun q H hP hD hS => ?_)
  refine lv_dup hx hb (k_i_dec ht (i := 0) (j := 5) rfl) rfl ?_
  have hPc : va_P (dC, dI) vwCl [(q, .inr (12, [.int 0, .null, .int 0, .int 0, .null, .null, .null, .null, .null, .int 0, .int 0, .int 0, .int 0, .int 0, .int 0, .int 0, .null, .null, .null, .null, .null, .null, .null, .int 0, .int 0, .int 0, .null, .null, .null, .null, .int 0, .null, .null, .null, .null, .int 0, .null, .null, .null, .null, .int 0, .int 0, .int 0, .null, .null, .int 0, .null, .int 0, .null, .null, .null, .null, .null]))] H := hP.sub [W1.length] (by simp)
  have hDc : va_D A [(q, .inr (12, [.int 0, .null, .int 0, .int 0, .null, .null, .null, .null, .null, .int 0, .int 0, .int 0, .int 0, .int 0, .int 0, .int 0, .null, .null, .null, .null, .null, .null, .null, .int 0, .int 0, .int 0, .null, .null, .null, .null, .int 0, .null, .null, .null, .null, .int 0, .null, .null, .null, .null, .int 0, .int 0, .int 0, .null, .null, .int 0, .null, .int 0, .null, .null, .null, .null, .null]))] := hD.sub [W1.length] rfl (by simp)
  have hKc := hK.sub (tys' := []) [] rfl
  have hFc := va_free (wc := [(q, .inr (12, [.int 0, .null, .int 0, .int 0, .null, .null, .null, .null, .null, .int 0, .int 0, .int 0, .int 0, .int 0, .int 0, .int 0, .null, .null, .null, .null, .null, .null, .null, .int 0, .int 0, .int 0, .null, .null, .null, .null, .int 0, .null, .null, .null, .null, .int 0, .null, .null, .null, .null, .int 0, .int 0, .int 0, .null, .null, .int 0, .null, .int 0, .null, .null, .null, .null, .null]))]) hD hS hA [W1.length] (by simp)
  refine va_callv (va_runI (y := yX12_init) (As := []) (rest := [.ref q]) ⟨hx, hb, hml, hown, hts⟩ (i_X12_init l dC dI q H.size) (cwI 0 hts (k_good vcX12_init) rfl rfl rfl (hts (.initialized RX12) (k_in (lw_T0 (List.mem_of_getElem? (i := 13) (by decide +kernel))) rfl)) (hts (.methodLink RL 12 yX12_init) (k_in (lw_T3 (List.mem_of_getElem? (i := 189) (by decide +kernel))) rfl)) (hts (.instanceMethod yX12_init) (k_in (lw_T3 (List.mem_of_getElem? (i := 190) (by decide +kernel))) rfl)) rfl (by decide +kernel) ⟨Nat.le_of_ble_eq_true rfl, Nat.le_of_ble_eq_true rfl⟩) ⟨fun a U g mk q => by obtain ⟨q0, q1, qP, qK, qD, qN⟩ := q; exact ⟨q0, q1, qP, va_K.moved (u := U) (U := U.calling g mk a) (Vm.Alike.refl U.vm) qK, qD, k_Nw.same (u := U) (U := U.calling g mk a) rfl qN⟩, fun U hU hW => ⟨rfl, by rw [hU], by rw [hU]; exact hPc, va_K.moved hW.alike hKc, hDc.weaken (fun _ _ _ _ => trivial), k_Nw.warm hW hNw⟩⟩ rfl rfl hl.1 rfl (lv_room (Nat.le_of_ble_eq_true rfl)) (k_i_dec ht (i := 0) (j := 6) rfl) ⟨Nat.le_of_ble_eq_true rfl, Nat.le_of_ble_eq_true rfl⟩) hS (fun q _ h => hFc q h) hFc (fun u t H1 locs ht1 hvm hw hB hz1 hk1 hS => ?_)
  obtain ⟨ad2, ca2, ha2, hP2, hK2, hD2⟩ := hB
  rw [ht1] at hP2
  have hK2 := va_K.moved hvm.symm hK2
  obtain ⟨hP, hD⟩ := x_join hP hD hk1 hFc hP2 hD2
  have hK := hK.app hK2
  refine lv_astore_n (lv' := [(2, .ref q), (1, .ref q1), (0, .ref b)]) hx hb (k_i_dec ht (i := 0) (j := 7) rfl) rfl hl (by decide) rfl (fun ls hl => ?_)
  refine lv_iconst (v := 0) hx hb (k_i_dec ht (i := 0) (j := 8) rfl) (by decide) ?_
  refine lv_istore_n (lv' := [(3, .int 0), (2, .ref q), (1, .ref q1), (0, .ref b)]) hx hb (k_i_dec ht (i := 0) (j := 9) rfl) rfl hl (by decide) rfl (fun ls hl => ?_)
  subst hAe
  obtain ⟨g, hge⟩ : ∃ g : k_G, g = (l, s.heap.size, (fun k => if k < 42 then ad1 k else if k < 76 then ad2 k else if k = 100 then t100 else if k = 101 then t101 else if k = 102 then t102 else if k = 103 then t103 else b), (fun k => if k < 42 then ca1 k else ca2 k), (dC, dI), L, xs) := ⟨_, rfl⟩
  have gA : k_A g = (fun q : Nat => s.heap.size ≤ q) := by rw [hge]
  have gD : k_D g = (dC, dI) := by rw [hge]
  have ad_1 : ∀ i, 0 ≤ i → i < 42 → k_ad (x_g l (dC, dI) ad1 ca1) i = k_ad g i := fun i _ h => by rw [hge]; exact (if_pos h).symm
  have ad_2 : ∀ i, 42 ≤ i → i < 76 → k_ad (x_g l (dC, dI) ad2 ca2) i = k_ad g i := fun i h1 h2 => by rw [hge]; exact (((if_neg (by omega)).trans (if_pos h2))).symm
  have ca_1 : ∀ i, 0 ≤ i → i < 42 → k_ca (x_g l (dC, dI) ad1 ca1) i = k_ca g i := fun i _ h => by rw [hge]; exact (if_pos h).symm
  have ca_2 : ∀ i, 42 ≤ i → i < 76 → k_ca (x_g l (dC, dI) ad2 ca2) i = k_ca g i := fun i h1 h2 => by rw [hge]; exact (if_neg (by omega)).symm
  have eW : W1 ++ k_w (x_g l (dC, dI) ad2 ca2) z_u0 42 x_layM = k_wd g z_u0 := by
    rw [hW1, k_w_congr ad_1 ca_1 x_layW 0 (Nat.le_refl 0) (Nat.le_of_ble_eq_true rfl) (by decide +kernel), k_w_congr ad_2 ca_2 x_layM 42 (Nat.le_refl _) (Nat.le_of_ble_eq_true rfl) (by decide +kernel), k_wd, x_lay, k_w_app]
    rfl
  have eK : K1 ++ k_tys (x_g l (dC, dI) ad2 ca2) 42 x_layM = k_tys g 0 k_lay := by
    rw [hKe1, k_tys_congr ca_1 x_layW 0 (Nat.le_refl 0) (Nat.le_of_ble_eq_true rfl), k_tys_congr ca_2 x_layM 42 (Nat.le_refl _) (Nat.le_of_ble_eq_true rfl), x_lay, k_tys_app]
    rfl
  rw [eW] at hP hD
  rw [eK] at hK
  have hP' : va_P (k_D g) vwCl (k_wd g z_u0) H1 := by rw [gD]; exact hP
  have hD' : va_D (k_A g) (k_wd g z_u0) := by rw [gA]; exact hD
  have hK' : va_K (k_D g) vwCl (k_tys g 0 k_lay) s := by rw [gD]; exact hK
  have hS' : va_S (k_A g) s.heap H1 locs := by rw [gA]; exact hS
  have hO' : k_O g s s.heap := by
    rw [hge]
    exact k_O_mk hT0 hT1 hT2 hT3 hT4
  have hZ' : k_Zs g s s.heap := by
    rw [hge]
    intro e he
    simp only [k_sf, List.mem_cons, List.not_mem_nil, or_false] at he
    rcases he with rfl | rfl | rfl | rfl
    · exact hZ0
    · exact hZ1
    · exact hZ2
    · exact hZ3
  have hq1 : k_ad g 0 = q1 := by rw [hge]; exact ha1
  have hq2 : k_ad g 42 = q := by rw [hge]; exact ha2
  have hl' : lv_has ls 4 [(3, .int 0), (2, .ref (k_ad g 42)), (1, .ref (k_ad g 0)), (0, .ref b)] := by rw [hq1, hq2]; exact hl
  have hg1 : g.1 = l := by rw [hge]
  have C1 : lw_At p s m meth c b (k_sl g) (k_sx g) := by rw [hge]; exact C0
  have hs1 : k_sat (k_itr (fun (x : (Int32)) u => f_law_B18 (k_sl g) (k_sx g) x u) k_FU 0 z_u0) (fun y _ => y = .inr ()) := by rw [hge]; exact hsat
  have := k_go (p := p) (e := e) (below := below) (cells := 76) (slots := 3689) g C1 (by rw [hge]) (by rw [hge]; rfl) hK' hO' hZ' hD' hNw hP' hS' hl' (Nat.le_of_ble_eq_true rfl) (Nat.le_of_ble_eq_true rfl) hs1
  rw [hg1] at this
  exact this

