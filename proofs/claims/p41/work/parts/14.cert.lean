set_option maxRecDepth 100000 in
theorem l_R_when_B41 (g : k_G)  (v1 : Int32) (v2 : Int32) {Q : Option Value → k_S → Prop} {K : (Int32 × Int32 × Int32) → k_S → Prop} (he : ∀ (y : (Int32 × Int32 × Int32)) (u' : k_S), K (y) u' → k_W g 8 MX12_when 87 [(0, .ref 42), (1, .int v1), (2, .int v2), (3, .int y.1), (4, .int y.2.1), (5, .int y.2.2)] [] u' Q) : ∀ (n : Nat) (x : (Int32 × Int32 × Int32 × Int32)) (u : k_S), k_sat (k_itr (fun (x : (Int32 × Int32 × Int32 × Int32)) u => f_R_when_B41  v1 v2 x.1 x.2.1 x.2.2.1 x.2.2.2 u) n x u) K → k_W g 8 MX12_when 41 [(0, .ref 42), (1, .int v1), (2, .int v2), (3, .int x.1), (4, .int x.2.1), (5, .int x.2.2.1), (6, .int x.2.2.2)] [] u Q :=
  k_loop (P := fun (x : (Int32 × Int32 × Int32 × Int32)) u => k_W g 8 MX12_when 41 [(0, .ref 42), (1, .int v1), (2, .int v2), (3, .int x.1), (4, .int x.2.1), (5, .int x.2.2.1), (6, .int x.2.2.2)] [] u Q) (fun (x : (Int32 × Int32 × Int32 × Int32)) u H => t_R_when_B41 g  v1 v2 x.1 x.2.1 x.2.2.1 x.2.2.2  (fun x u' h => h) (fun y u' h => he y u' h) H)
set_option maxRecDepth 100000 in
theorem c_R_when (g : k_G)  (p1 : Int32) {u : k_S} {QQ : Int32 → k_S → Prop} (H : k_sat (f_R_when  p1 u) QQ) : k_OK g 8 MX12_when [.ref 42, .int p1] u (k_qi QQ) := by
  have hr : ∀ (r : Int32) (u' : k_S), QQ (r) u' → (k_qi QQ) (some (.int r)) u' := fun r u' h => ⟨_, rfl, h⟩
  refine k_OK.ofW pfX12_when (k_tab_of MX12_when_dec) rfl ?_
  refine s_iloadn 0 0 rfl rfl ?_
  refine s_const 0 0 1 rfl k_ic_0 ?_
  refine s_const 2 0 2 rfl k_ic_2 ?_
  refine s_csi3 (M' := MX12_in) 0 3 rfl k_ml230 vvX12_in (Nat.le_of_ble_eq_true rfl) rfl (c_R_in g _ _ _ (k_sat_bind H)) (fun r2 u1 H => ?_)
  refine s_if_ne 0 4 11 rfl (by decide) H (fun _ H => ?_) (fun _ H => ?_)
  · refine s_aloadn 0 7 rfl rfl ?_
    refine s_geti 4203 0 8 rfl k_fl122 rfl rfl rfl rfl rfl ?_
    refine s_if_ne 0 9 21 rfl (by decide) H (fun _ H => ?_) (fun _ H => ?_)
    · refine s_aloadn 0 12 rfl rfl ?_
      refine s_getr 0 13 rfl k_fl92 rfl rfl rfl rfl ?_
      refine s_const 0 0 14 rfl k_ic_0 ?_
      refine s_iald 0 15 rfl rfl H (fun _ H => ?_)
      refine k_topi H (fun t3 H => ?_)
      refine s_istoren 1 0 rfl rfl ?_
      refine s_bipush (-2) 1 1 rfl k_ib_m2 ?_
      refine s_istoren 1 2 rfl rfl ?_
      refine s_bipush (-2) 1 3 rfl k_ib_m2 ?_
      refine s_istore 1 4 rfl rfl ?_
      refine s_const 0 1 5 rfl k_ic_0 ?_
      refine s_istore 1 6 rfl rfl ?_
      refine s_const 0 1 7 rfl k_ic_0 ?_
      refine s_istore 1 8 rfl rfl ?_
      refine k_via (l_R_when_B41 g  p1 t3 ?_ _ _ _ (k_sat_bind H)) ⟨rfl, rfl, rfl, rfl, rfl, rfl, rfl, trivial⟩
      · intro y8 u7 H
        refine s_aloadn 2 14 rfl rfl ?_
        refine s_getr 2 15 rfl k_fl92 rfl rfl rfl rfl ?_
        refine s_const 0 3 0 rfl k_ic_0 ?_
        refine s_iloadn 3 1 rfl rfl ?_
        refine s_iast 3 2 rfl rfl H (fun u9 H => ?_)
        refine s_iloadn 3 3 rfl rfl ?_
        refine s_if_ne 3 4 102 rfl (by decide) H (fun _ H => ?_) (fun _ H => ?_)
        · refine s_iloadn 3 7 rfl rfl ?_
          refine s_const 1 3 8 rfl k_ic_1 ?_
          refine s_icmp_ne 3 9 112 rfl (by decide) H (fun _ H => ?_) (fun _ H => ?_)
          · refine s_iload 3 12 rfl rfl ?_
            exact s_iret 3 13 rfl rfl (hr _ _ (k_sat_some H))
          · refine s_iload 3 10 rfl rfl ?_
            refine s_goto 3 11 114 rfl (by decide) ?_
            exact s_iret 3 13 rfl rfl (hr _ _ (k_sat_some H))
        · refine s_iloadn 3 5 rfl rfl ?_
          refine s_goto 3 6 114 rfl (by decide) ?_
          exact s_iret 3 13 rfl rfl (hr _ _ (k_sat_some H))
    · refine s_bipush (-5) 0 10 rfl k_ib_m5 ?_
      exact s_iret 0 11 rfl rfl (hr _ _ (k_sat_some H))
  · refine s_const (-1) 0 5 rfl k_ic_m1 ?_
    exact s_iret 0 6 rfl rfl (hr _ _ (k_sat_some H))
set_option maxRecDepth 100000 in
theorem t_Judging_watchLetters_B44 (g : k_G)  (v1 : Int32) (v2 : Int32) (v3 : Int32) (v4 : Int32)  {u : k_S} {QQ : ((Int32) ⊕ Unit) → k_S → Prop} {Q : Option Value → k_S → Prop} (hb : ∀ (x : (Int32)) (u' : k_S), QQ (.inl x) u' → k_W g 6 MX2_watchLetters 44 [(0, .ref 24), (1, .int v1), (2, .int v2), (3, .int v3), (4, .int x)] [] u' Q) (he : ∀ (y : Unit) (u' : k_S), QQ (.inr y) u' → k_W g 6 MX2_watchLetters 110 [(0, .ref 24), (1, .int v1), (2, .int v2), (3, .int v3)] [] u' Q) (H : k_sat (f_Judging_watchLetters_B44  v1 v2 v3 v4 u) QQ) : k_W g 6 MX2_watchLetters 44 [(0, .ref 24), (1, .int v1), (2, .int v2), (3, .int v3), (4, .int v4)] [] u Q := by
  refine s_iload 1 9 rfl rfl ?_
  refine s_bipush 10 1 10 rfl k_ib_10 ?_
  refine s_icmp_ge 1 11 110 rfl (by decide) H (fun _ H => ?_) (fun _ H => ?_)
  · exact k_via (he _ _ (k_sat_some H)) ⟨rfl, rfl, rfl, rfl, trivial⟩
  · refine s_aloadn 1 12 rfl rfl ?_
    refine s_getr 1 13 rfl k_fl40 rfl rfl rfl rfl ?_
    refine s_aloadn 1 14 rfl rfl ?_
    refine s_getr 1 15 rfl k_fl40 rfl rfl rfl rfl ?_
    refine s_getr 2 0 rfl k_fl42 rfl rfl rfl rfl ?_
    refine s_const 1 2 1 rfl k_ic_1 ?_
    refine s_const 1 2 2 rfl k_ic_1 ?_
    refine s_cvv3 (M' := MX6_pass) 2 3 rfl k_ml82 vvX6_pass rfl rfl (Nat.le_of_ble_eq_true rfl) rfl (c_Nights_pass_Thought g _ _ (k_sat_bind H)) (fun _ u5 H => ?_)
    refine s_bipush 10 2 4 rfl k_ib_10 ?_
    refine s_iloadn 2 5 rfl rfl ?_
    refine s_imul 2 6 rfl ?_
    refine s_iload 2 7 rfl rfl ?_
    refine s_iadd 2 8 rfl ?_
    refine k_topi H (fun t6 H => ?_)
    refine s_istore 2 9 rfl rfl ?_
    refine s_iload 2 10 rfl rfl ?_
    refine s_aloadn 2 11 rfl rfl ?_
    refine s_getr 2 12 rfl k_fl37 rfl rfl rfl rfl ?_
    refine s_alen 40 2 13 rfl rfl k_ln_40 ?_
    refine s_icmp_ge 2 14 104 rfl (by decide) H (fun _ H => ?_) (fun _ H => ?_)
    · refine s_iinc 3 8 rfl rfl rfl ?_
      refine s_goto 3 9 44 rfl (by decide) ?_
      exact k_via (hb _ _ (k_sat_some H)) ⟨rfl, rfl, rfl, rfl, rfl, trivial⟩
    · refine s_aloadn 2 15 rfl rfl ?_
      refine s_getr 3 0 rfl k_fl37 rfl rfl rfl rfl ?_
      refine s_iload 3 1 rfl rfl ?_
      refine s_aloadn 3 2 rfl rfl ?_
      refine s_getr 3 3 rfl k_fl40 rfl rfl rfl rfl ?_
      refine s_getr 3 4 rfl k_fl42 rfl rfl rfl rfl ?_
      refine s_const 0 3 5 rfl k_ic_0 ?_
      refine s_cvi1 (M' := MX5_placeOf) 3 6 rfl k_ml83 vvX5_placeOf rfl rfl (Nat.le_of_ble_eq_true rfl) rfl (c_Thought_placeOf g _ (k_sat_bind H)) (fun r8 u7 H => ?_)
      refine s_iast 3 7 rfl rfl H (fun u9 H => ?_)
      refine s_iinc 3 8 rfl rfl rfl ?_
      refine s_goto 3 9 44 rfl (by decide) ?_
      exact k_via (hb _ _ (k_sat_some H)) ⟨rfl, rfl, rfl, rfl, rfl, trivial⟩
set_option maxRecDepth 100000 in
theorem l_Judging_watchLetters_B44 (g : k_G)  (v1 : Int32) (v2 : Int32) (v3 : Int32) {Q : Option Value → k_S → Prop} {K : Unit → k_S → Prop} (he : ∀ (y : Unit) (u' : k_S), K (y) u' → k_W g 6 MX2_watchLetters 110 [(0, .ref 24), (1, .int v1), (2, .int v2), (3, .int v3)] [] u' Q) : ∀ (n : Nat) (x : (Int32)) (u : k_S), k_sat (k_itr (fun (x : (Int32)) u => f_Judging_watchLetters_B44  v1 v2 v3 x u) n x u) K → k_W g 6 MX2_watchLetters 44 [(0, .ref 24), (1, .int v1), (2, .int v2), (3, .int v3), (4, .int x)] [] u Q :=
  k_loop (P := fun (x : (Int32)) u => k_W g 6 MX2_watchLetters 44 [(0, .ref 24), (1, .int v1), (2, .int v2), (3, .int v3), (4, .int x)] [] u Q) (fun (x : (Int32)) u H => t_Judging_watchLetters_B44 g  v1 v2 v3 x  (fun x u' h => h) (fun y u' h => he y u' h) H)
set_option maxRecDepth 100000 in
theorem t_Judging_watchLetters_B12 (g : k_G)  (v1 : Int32) (v2 : Int32) (v3 : Int32)  {u : k_S} {QQ : ((Int32) ⊕ Unit) → k_S → Prop} {Q : Option Value → k_S → Prop} (hb : ∀ (x : (Int32)) (u' : k_S), QQ (.inl x) u' → k_W g 6 MX2_watchLetters 12 [(0, .ref 24), (1, .int v1), (2, .int v2), (3, .int x)] [] u' Q) (he : ∀ (y : Unit) (u' : k_S), QQ (.inr y) u' → k_W g 6 MX2_watchLetters 116 [(0, .ref 24), (1, .int v1), (2, .int v2)] [] u' Q) (H : k_sat (f_Judging_watchLetters_B12  v1 v2 v3 u) QQ) : k_W g 6 MX2_watchLetters 12 [(0, .ref 24), (1, .int v1), (2, .int v2), (3, .int v3)] [] u Q := by
  refine s_iloadn 0 8 rfl rfl ?_
  refine s_gets 0 9 1 rfl rfl (k_in (lw_T3 (List.mem_of_getElem? (i := 2) (by decide +kernel))) rfl) ?_
  refine s_olen 4 0 10 rfl rfl k_ln_4 ?_
  refine s_icmp_ge 0 11 116 rfl (by decide) H (fun _ H => ?_) (fun _ H => ?_)
  · exact k_via (he _ _ (k_sat_some H)) ⟨rfl, rfl, rfl, trivial⟩
  · refine s_aloadn 0 12 rfl rfl ?_
    refine s_getr 0 13 rfl k_fl39 rfl rfl rfl rfl ?_
    refine s_const 0 0 14 rfl k_ic_0 ?_
    refine s_iloadn 0 15 rfl rfl ?_
    refine s_gets 1 0 1 rfl rfl (k_in (lw_T3 (List.mem_of_getElem? (i := 2) (by decide +kernel))) rfl) ?_
    refine s_iloadn 1 1 rfl rfl ?_
    refine s_oald 1 2 rfl rfl H (fun _ H => ?_)
    refine s_cvv3 (M' := MX10_setLetter) 1 3 rfl k_ml86 vvX10_setLetter rfl rfl (Nat.le_of_ble_eq_true rfl) rfl (c_Wheels_setLetter g _ _ _ (k_sat_bind H)) (fun _ u3 H => ?_)
    refine s_aloadn 1 4 rfl rfl ?_
    refine s_getr 1 5 rfl k_fl40 rfl rfl rfl rfl ?_
    refine s_cvv0 (M' := MX6_think) 1 6 rfl k_ml79 vvX6_think rfl rfl (Nat.le_of_ble_eq_true rfl) rfl (c_Nights_think g (k_sat_bind H)) (fun _ u4 H => ?_)
    refine s_const 0 1 7 rfl k_ic_0 ?_
    refine s_istore 1 8 rfl rfl ?_
    refine k_via (l_Judging_watchLetters_B44 g  v1 v2 v3 ?_ _ _ _ (k_sat_bind H)) ⟨rfl, rfl, rfl, rfl, rfl, trivial⟩
    · intro y11 u10 H
      refine s_iinc 3 10 rfl rfl rfl ?_
      refine s_goto 3 11 12 rfl (by decide) ?_
      exact k_via (hb _ _ (k_sat_some H)) ⟨rfl, rfl, rfl, rfl, trivial⟩
set_option maxRecDepth 100000 in
theorem l_Judging_watchLetters_B12 (g : k_G)  (v1 : Int32) (v2 : Int32) {Q : Option Value → k_S → Prop} {K : Unit → k_S → Prop} (he : ∀ (y : Unit) (u' : k_S), K (y) u' → k_W g 6 MX2_watchLetters 116 [(0, .ref 24), (1, .int v1), (2, .int v2)] [] u' Q) : ∀ (n : Nat) (x : (Int32)) (u : k_S), k_sat (k_itr (fun (x : (Int32)) u => f_Judging_watchLetters_B12  v1 v2 x u) n x u) K → k_W g 6 MX2_watchLetters 12 [(0, .ref 24), (1, .int v1), (2, .int v2), (3, .int x)] [] u Q :=
  k_loop (P := fun (x : (Int32)) u => k_W g 6 MX2_watchLetters 12 [(0, .ref 24), (1, .int v1), (2, .int v2), (3, .int x)] [] u Q) (fun (x : (Int32)) u H => t_Judging_watchLetters_B12 g  v1 v2 x  (fun x u' h => h) (fun y u' h => he y u' h) H)
set_option maxRecDepth 100000 in
theorem c_Judging_watchLetters (g : k_G)  (p1 : Int32) {u : k_S} {QQ : Unit → k_S → Prop} (H : k_sat (f_Judging_watchLetters  p1 u) QQ) : k_OK g 6 MX2_watchLetters [.ref 24, .int p1] u (k_qv QQ) := by
  have hr : ∀ (r : Unit) (u' : k_S), QQ (r) u' → (k_qv QQ) (none) u' := fun r u' h => ⟨rfl, h⟩
  refine k_OK.ofW pfX2_watchLetters (k_tab_of MX2_watchLetters_dec) rfl ?_
  refine s_aloadn 0 0 rfl rfl ?_
  refine s_getr 0 1 rfl k_fl39 rfl rfl rfl rfl ?_
  refine s_const 0 0 2 rfl k_ic_0 ?_
  refine s_iloadn 0 3 rfl rfl ?_
  refine s_cvi2 (M' := MX10_letterAt) 0 4 rfl k_ml85 vvX10_letterAt rfl rfl (Nat.le_of_ble_eq_true rfl) rfl (c_Wheels_letterAt g _ _ (k_sat_bind H)) (fun r2 u1 H => ?_)
  refine s_istoren 0 5 rfl rfl ?_
  refine s_const 0 0 6 rfl k_ic_0 ?_
  refine s_istoren 0 7 rfl rfl ?_
  refine k_via (l_Judging_watchLetters_B12 g  p1 r2 ?_ _ _ _ (k_sat_bind H)) ⟨rfl, rfl, rfl, rfl, trivial⟩
  · intro y13 u12 H
    refine s_aloadn 3 12 rfl rfl ?_
    refine s_getr 3 13 rfl k_fl39 rfl rfl rfl rfl ?_
    refine s_const 0 3 14 rfl k_ic_0 ?_
    refine s_iloadn 3 15 rfl rfl ?_
    refine s_iloadn 4 0 rfl rfl ?_
    refine s_cvv3 (M' := MX10_setLetter) 4 1 rfl k_ml86 vvX10_setLetter rfl rfl (Nat.le_of_ble_eq_true rfl) rfl (c_Wheels_setLetter g _ _ _ (k_sat_bind H)) (fun _ u14 H => ?_)
    exact s_ret 4 2 rfl rfl (hr _ _ (k_sat_some H))
set_option maxRecDepth 100000 in
theorem t_Judging_compareLetters_B15 (g : k_G)  (v1 : Int32) (v2 : Int32) (v3 : Int32)  {u : k_S} {QQ : ((Int32 × Int32) ⊕ (Int32)) → k_S → Prop} {Q : Option Value → k_S → Prop} (hb : ∀ (x : (Int32 × Int32)) (u' : k_S), QQ (.inl x) u' → k_W g 1 MX2_compareLetters 15 [(0, .ref 24), (1, .int v1), (2, .int x.1), (3, .int x.2)] [] u' Q) (he : ∀ (y : (Int32)) (u' : k_S), QQ (.inr y) u' → k_W g 1 MX2_compareLetters 93 [(0, .ref 24), (1, .int v1), (2, .int y)] [] u' Q) (H : k_sat (f_Judging_compareLetters_B15  v1 v2 v3 u) QQ) : k_W g 1 MX2_compareLetters 15 [(0, .ref 24), (1, .int v1), (2, .int v2), (3, .int v3)] [] u Q := by
  refine s_iloadn 0 11 rfl rfl ?_
  refine s_bipush 10 0 12 rfl k_ib_10 ?_
  refine s_icmp_ge 0 13 93 rfl (by decide) H (fun _ H => ?_) (fun _ H => ?_)
  · exact k_via (he _ _ (k_sat_some H)) ⟨rfl, rfl, rfl, trivial⟩
  · refine s_bipush 10 0 14 rfl k_ib_10 ?_
    refine s_iloadn 0 15 rfl rfl ?_
    refine s_const 4 1 0 rfl k_ic_4 ?_
    refine s_idiv 1 1 rfl k_nz_4 ?_
    refine s_imul 1 2 rfl ?_
    refine s_iloadn 1 3 rfl rfl ?_
    refine s_iadd 1 4 rfl ?_
    refine k_topi H (fun t1 H => ?_)
    refine s_istore 1 5 rfl rfl ?_
    refine s_bipush 10 1 6 rfl k_ib_10 ?_
    refine s_iloadn 1 7 rfl rfl ?_
    refine s_const 4 1 8 rfl k_ic_4 ?_
    refine s_irem 1 9 rfl k_nz_4 ?_
    refine s_imul 1 10 rfl ?_
    refine s_iloadn 1 11 rfl rfl ?_
    refine s_iadd 1 12 rfl ?_
    refine k_topi H (fun t2 H => ?_)
    refine s_istore 1 13 rfl rfl ?_
    refine s_iload 1 14 rfl rfl ?_
    refine s_aloadn 1 15 rfl rfl ?_
    refine s_getr 2 0 rfl k_fl37 rfl rfl rfl rfl ?_
    refine s_alen 40 2 1 rfl rfl k_ln_40 ?_
    refine s_icmp_ge 2 2 87 rfl (by decide) H (fun _ H => ?_) (fun _ H => ?_)
    · refine s_iinc 3 8 rfl rfl rfl ?_
      refine s_goto 3 9 15 rfl (by decide) ?_
      exact k_via (hb _ _ (k_sat_some H)) ⟨rfl, rfl, rfl, rfl, trivial⟩
    · refine s_iload 2 3 rfl rfl ?_
      refine s_aloadn 2 4 rfl rfl ?_
      refine s_getr 2 5 rfl k_fl37 rfl rfl rfl rfl ?_
      refine s_alen 40 2 6 rfl rfl k_ln_40 ?_
      refine s_icmp_lt 2 7 64 rfl (by decide) H (fun _ H => ?_) (fun _ H => ?_)
      · refine s_aloadn 2 9 rfl rfl ?_
        refine s_getr 2 10 rfl k_fl37 rfl rfl rfl rfl ?_
        refine s_iload 2 11 rfl rfl ?_
        refine s_iald 2 12 rfl rfl H (fun _ H => ?_)
        refine s_aloadn 2 13 rfl rfl ?_
        refine s_getr 2 14 rfl k_fl37 rfl rfl rfl rfl ?_
        refine s_iload 2 15 rfl rfl ?_
        refine s_iald 3 0 rfl rfl H (fun _ H => ?_)
        refine s_icmp_eq 3 1 87 rfl (by decide) H (fun _ H => ?_) (fun _ H => ?_)
        · refine s_iinc 3 8 rfl rfl rfl ?_
          refine s_goto 3 9 15 rfl (by decide) ?_
          exact k_via (hb _ _ (k_sat_some H)) ⟨rfl, rfl, rfl, rfl, trivial⟩
        · refine s_iloadn 3 2 rfl rfl ?_
          refine s_const 1 3 3 rfl k_ic_1 ?_
          refine s_iloadn 3 4 rfl rfl ?_
          refine s_ishl 3 5 rfl ?_
          refine s_ior 3 6 rfl ?_
          refine k_topi H (fun t3 H => ?_)
          refine s_istoren 3 7 rfl rfl ?_
          refine s_iinc 3 8 rfl rfl rfl ?_
          refine s_goto 3 9 15 rfl (by decide) ?_
          exact k_via (hb _ _ (k_sat_some H)) ⟨rfl, rfl, rfl, rfl, trivial⟩
      · refine s_goto 2 8 87 rfl (by decide) ?_
        refine s_iinc 3 8 rfl rfl rfl ?_
        refine s_goto 3 9 15 rfl (by decide) ?_
        exact k_via (hb _ _ (k_sat_some H)) ⟨rfl, rfl, rfl, rfl, trivial⟩
set_option maxRecDepth 100000 in
theorem l_Judging_compareLetters_B15 (g : k_G)  (v1 : Int32) {Q : Option Value → k_S → Prop} {K : (Int32) → k_S → Prop} (he : ∀ (y : (Int32)) (u' : k_S), K (y) u' → k_W g 1 MX2_compareLetters 93 [(0, .ref 24), (1, .int v1), (2, .int y)] [] u' Q) : ∀ (n : Nat) (x : (Int32 × Int32)) (u : k_S), k_sat (k_itr (fun (x : (Int32 × Int32)) u => f_Judging_compareLetters_B15  v1 x.1 x.2 u) n x u) K → k_W g 1 MX2_compareLetters 15 [(0, .ref 24), (1, .int v1), (2, .int x.1), (3, .int x.2)] [] u Q :=
  k_loop (P := fun (x : (Int32 × Int32)) u => k_W g 1 MX2_compareLetters 15 [(0, .ref 24), (1, .int v1), (2, .int x.1), (3, .int x.2)] [] u Q) (fun (x : (Int32 × Int32)) u H => t_Judging_compareLetters_B15 g  v1 x.1 x.2  (fun x u' h => h) (fun y u' h => he y u' h) H)
set_option maxRecDepth 100000 in
theorem t_Judging_compareLetters_B2 (g : k_G)  (v1 : Int32)  {u : k_S} {QQ : ((Int32) ⊕ Unit) → k_S → Prop} {Q : Option Value → k_S → Prop} (hb : ∀ (x : (Int32)) (u' : k_S), QQ (.inl x) u' → k_W g 1 MX2_compareLetters 2 [(0, .ref 24), (1, .int x)] [] u' Q) (he : ∀ (y : Unit) (u' : k_S), QQ (.inr y) u' → k_W g 1 MX2_compareLetters 106 [] [] u' Q) (H : k_sat (f_Judging_compareLetters_B2  v1 u) QQ) : k_W g 1 MX2_compareLetters 2 [(0, .ref 24), (1, .int v1)] [] u Q := by
  refine s_iloadn 0 2 rfl rfl ?_
  refine s_aloadn 0 3 rfl rfl ?_
  refine s_getr 0 4 rfl k_fl38 rfl rfl rfl rfl ?_
  refine s_alen 16 0 5 rfl rfl k_ln_16 ?_
  refine s_icmp_ge 0 6 106 rfl (by decide) H (fun _ H => ?_) (fun _ H => ?_)
  · exact k_via (he _ _ (k_sat_some H)) trivial
  · refine s_const 0 0 7 rfl k_ic_0 ?_
    refine s_istoren 0 8 rfl rfl ?_
    refine s_const 0 0 9 rfl k_ic_0 ?_
    refine s_istoren 0 10 rfl rfl ?_
    refine k_via (l_Judging_compareLetters_B15 g  v1 ?_ _ _ _ (k_sat_bind H)) ⟨rfl, rfl, rfl, rfl, trivial⟩
    · intro y5 u4 H
      refine s_aloadn 3 10 rfl rfl ?_
      refine s_getr 3 11 rfl k_fl38 rfl rfl rfl rfl ?_
      refine s_iloadn 3 12 rfl rfl ?_
      refine s_iloadn 3 13 rfl rfl ?_
      refine s_iast 3 14 rfl rfl H (fun u6 H => ?_)
      refine s_iinc 3 15 rfl rfl rfl ?_
      refine s_goto 4 0 2 rfl (by decide) ?_
      exact k_via (hb _ _ (k_sat_some H)) ⟨rfl, rfl, trivial⟩
set_option maxRecDepth 100000 in
theorem l_Judging_compareLetters_B2 (g : k_G)   {Q : Option Value → k_S → Prop} {K : Unit → k_S → Prop} (he : ∀ (y : Unit) (u' : k_S), K (y) u' → k_W g 1 MX2_compareLetters 106 [] [] u' Q) : ∀ (n : Nat) (x : (Int32)) (u : k_S), k_sat (k_itr (fun (x : (Int32)) u => f_Judging_compareLetters_B2  x u) n x u) K → k_W g 1 MX2_compareLetters 2 [(0, .ref 24), (1, .int x)] [] u Q :=
  k_loop (P := fun (x : (Int32)) u => k_W g 1 MX2_compareLetters 2 [(0, .ref 24), (1, .int x)] [] u Q) (fun (x : (Int32)) u H => t_Judging_compareLetters_B2 g  x  (fun x u' h => h) (fun y u' h => he y u' h) H)
set_option maxRecDepth 100000 in
theorem c_Judging_compareLetters (g : k_G)   {u : k_S} {QQ : Unit → k_S → Prop} (H : k_sat (f_Judging_compareLetters   u) QQ) : k_OK g 1 MX2_compareLetters [.ref 24] u (k_qv QQ) := by
  have hr : ∀ (r : Unit) (u' : k_S), QQ (r) u' → (k_qv QQ) (none) u' := fun r u' h => ⟨rfl, h⟩
  refine k_OK.ofW pfX2_compareLetters (k_tab_of MX2_compareLetters_dec) rfl ?_
  refine s_const 0 0 0 rfl k_ic_0 ?_
  refine s_istoren 0 1 rfl rfl ?_
  refine k_via (l_Judging_compareLetters_B2 g   ?_ _ _ _ (k_sat_bind H)) ⟨rfl, rfl, trivial⟩
  · intro y8 u7 H
    exact s_ret 4 1 rfl rfl (hr _ _ (k_sat_some H))
set_option maxRecDepth 100000 in
theorem t_Judging_tellApart_J46 (g : k_G)  (v1 : Int32) (v2 : Int32) (v3 : Int32) (v4 : Int32) (v5 : Int32) (s0 : Int32)  {u : k_S} {QQ : ((Int32) ⊕ (Int32 ⊕ Unit)) → k_S → Prop} {Q : Option Value → k_S → Prop} (hr : ∀ (r : Int32) (u' : k_S), QQ (.inr (.inl r)) u' → (Q) (some (.int r)) u') (hb : ∀ (x : (Int32)) (u' : k_S), QQ (.inl x) u' → k_W g 1 MX2_tellApart 2 [(0, .ref 24), (1, .int v1), (2, .int v2), (3, .int x)] [] u' Q) (he : ∀ (y : Unit) (u' : k_S), QQ (.inr (.inr y)) u' → k_W g 1 MX2_tellApart 79 [] [] u' Q) (H : k_sat (f_Judging_tellApart_J46  v1 v2 v3 v4 v5 s0 u) QQ) : k_W g 1 MX2_tellApart 46 [(0, .ref 24), (1, .int v1), (2, .int v2), (3, .int v3), (4, .int v4), (5, .int v5)] [.int s0] u Q := by
  refine s_istore 2 0 rfl rfl ?_
  refine s_iload 2 1 rfl rfl ?_
  refine s_iload 2 2 rfl rfl ?_
  refine s_icmp_ge 2 3 73 rfl (by decide) H (fun _ H => ?_) (fun _ H => ?_)
  · refine s_iinc 2 15 rfl rfl rfl ?_
    refine s_goto 3 0 2 rfl (by decide) ?_
    exact k_via (hb _ _ (k_sat_some H)) ⟨rfl, rfl, rfl, rfl, trivial⟩
  · refine s_iload 2 4 rfl rfl ?_
    refine s_if_eq 2 5 73 rfl (by decide) H (fun _ H => ?_) (fun _ H => ?_)
    · refine s_iinc 2 15 rfl rfl rfl ?_
      refine s_goto 3 0 2 rfl (by decide) ?_
      exact k_via (hb _ _ (k_sat_some H)) ⟨rfl, rfl, rfl, rfl, trivial⟩
    · refine s_aloadn 2 6 rfl rfl ?_
      refine s_getr 2 7 rfl k_fl38 rfl rfl rfl rfl ?_
      refine s_iloadn 2 8 rfl rfl ?_
      refine s_iald 2 9 rfl rfl H (fun _ H => ?_)
      refine s_iloadn 2 10 rfl rfl ?_
      refine s_iand 2 11 rfl ?_
      refine s_if_ne 2 12 73 rfl (by decide) H (fun _ H => ?_) (fun _ H => ?_)
      · refine s_iinc 2 15 rfl rfl rfl ?_
        refine s_goto 3 0 2 rfl (by decide) ?_
        exact k_via (hb _ _ (k_sat_some H)) ⟨rfl, rfl, rfl, rfl, trivial⟩
      · refine s_const 0 2 13 rfl k_ic_0 ?_
        exact s_zret 2 14 rfl rfl k_z0 (hr _ _ (k_sat_some H))
set_option maxRecDepth 100000 in
theorem t_Judging_tellApart_J45 (g : k_G)  (v1 : Int32) (v2 : Int32) (v3 : Int32) (v4 : Int32) (v5 : Int32)  {u : k_S} {QQ : ((Int32) ⊕ (Int32 ⊕ Unit)) → k_S → Prop} {Q : Option Value → k_S → Prop} (hr : ∀ (r : Int32) (u' : k_S), QQ (.inr (.inl r)) u' → (Q) (some (.int r)) u') (hb : ∀ (x : (Int32)) (u' : k_S), QQ (.inl x) u' → k_W g 1 MX2_tellApart 2 [(0, .ref 24), (1, .int v1), (2, .int v2), (3, .int x)] [] u' Q) (he : ∀ (y : Unit) (u' : k_S), QQ (.inr (.inr y)) u' → k_W g 1 MX2_tellApart 79 [] [] u' Q) (H : k_sat (f_Judging_tellApart_J45  v1 v2 v3 v4 v5 u) QQ) : k_W g 1 MX2_tellApart 45 [(0, .ref 24), (1, .int v1), (2, .int v2), (3, .int v3), (4, .int v4), (5, .int v5)] [] u Q := by
  refine s_const 0 1 15 rfl k_ic_0 ?_
  exact k_via (t_Judging_tellApart_J46 g  _ _ _ _ _ _  hr hb he H) ⟨rfl, rfl, rfl, rfl, rfl, rfl, trivial⟩
set_option maxRecDepth 100000 in
theorem t_Judging_tellApart_B2 (g : k_G)  (v1 : Int32) (v2 : Int32) (v3 : Int32)  {u : k_S} {QQ : ((Int32) ⊕ (Int32 ⊕ Unit)) → k_S → Prop} {Q : Option Value → k_S → Prop} (hr : ∀ (r : Int32) (u' : k_S), QQ (.inr (.inl r)) u' → (Q) (some (.int r)) u') (hb : ∀ (x : (Int32)) (u' : k_S), QQ (.inl x) u' → k_W g 1 MX2_tellApart 2 [(0, .ref 24), (1, .int v1), (2, .int v2), (3, .int x)] [] u' Q) (he : ∀ (y : Unit) (u' : k_S), QQ (.inr (.inr y)) u' → k_W g 1 MX2_tellApart 79 [] [] u' Q) (H : k_sat (f_Judging_tellApart_B2  v1 v2 v3 u) QQ) : k_W g 1 MX2_tellApart 2 [(0, .ref 24), (1, .int v1), (2, .int v2), (3, .int v3)] [] u Q := by
  refine s_iloadn 0 2 rfl rfl ?_
  refine s_aloadn 0 3 rfl rfl ?_
  refine s_getr 0 4 rfl k_fl38 rfl rfl rfl rfl ?_
  refine s_alen 16 0 5 rfl rfl k_ln_16 ?_
  refine s_icmp_ge 0 6 79 rfl (by decide) H (fun _ H => ?_) (fun _ H => ?_)
  · exact k_via (he _ _ (k_sat_some H)) trivial
  · refine s_iloadn 0 7 rfl rfl ?_
    refine s_const 4 0 8 rfl k_ic_4 ?_
    refine s_idiv 0 9 rfl k_nz_4 ?_
    refine k_topi H (fun t1 H => ?_)
    refine s_istore 0 10 rfl rfl ?_
    refine s_iloadn 0 11 rfl rfl ?_
    refine s_const 4 0 12 rfl k_ic_4 ?_
    refine s_irem 0 13 rfl k_nz_4 ?_
    refine k_topi H (fun t2 H => ?_)
    refine s_istore 0 14 rfl rfl ?_
    refine s_iloadn 0 15 rfl rfl ?_
    refine s_iload 1 0 rfl rfl ?_
    refine s_ishr 1 1 rfl ?_
    refine s_const 1 1 2 rfl k_ic_1 ?_
    refine s_iand 1 3 rfl ?_
    refine s_const 1 1 4 rfl k_ic_1 ?_
    refine s_icmp_ne 1 5 45 rfl (by decide) H (fun _ H => ?_) (fun _ H => ?_)
    · exact k_via (t_Judging_tellApart_J45 g  _ _ _ _ _  hr hb he H) ⟨rfl, rfl, rfl, rfl, rfl, rfl, trivial⟩
    · refine s_iloadn 1 6 rfl rfl ?_
      refine s_iload 1 7 rfl rfl ?_
      refine s_ishr 1 8 rfl ?_
      refine s_const 1 1 9 rfl k_ic_1 ?_
      refine s_iand 1 10 rfl ?_
      refine s_const 1 1 11 rfl k_ic_1 ?_
      refine s_icmp_ne 1 12 45 rfl (by decide) H (fun _ H => ?_) (fun _ H => ?_)
      · exact k_via (t_Judging_tellApart_J45 g  _ _ _ _ _  hr hb he H) ⟨rfl, rfl, rfl, rfl, rfl, rfl, trivial⟩
      · refine s_const 1 1 13 rfl k_ic_1 ?_
        refine s_goto 1 14 46 rfl (by decide) ?_
        exact k_via (t_Judging_tellApart_J46 g  _ _ _ _ _ _  hr hb he H) ⟨rfl, rfl, rfl, rfl, rfl, rfl, trivial⟩
set_option maxRecDepth 100000 in
theorem l_Judging_tellApart_B2 (g : k_G)  (v1 : Int32) (v2 : Int32) {Q : Option Value → k_S → Prop} {K : (Int32 ⊕ Unit) → k_S → Prop} (hr : ∀ (r : Int32) (u' : k_S), K (.inl r) u' → Q (some (.int r)) u') (he : ∀ (y : Unit) (u' : k_S), K (.inr y) u' → k_W g 1 MX2_tellApart 79 [] [] u' Q) : ∀ (n : Nat) (x : (Int32)) (u : k_S), k_sat (k_itr (fun (x : (Int32)) u => f_Judging_tellApart_B2  v1 v2 x u) n x u) K → k_W g 1 MX2_tellApart 2 [(0, .ref 24), (1, .int v1), (2, .int v2), (3, .int x)] [] u Q :=
  k_loop (P := fun (x : (Int32)) u => k_W g 1 MX2_tellApart 2 [(0, .ref 24), (1, .int v1), (2, .int v2), (3, .int x)] [] u Q) (fun (x : (Int32)) u H => t_Judging_tellApart_B2 g  v1 v2 x  (fun r u' h => hr r u' h) (fun x u' h => h) (fun y u' h => he y u' h) H)
set_option maxRecDepth 100000 in
theorem c_Judging_tellApart (g : k_G)  (p1 : Int32) (p2 : Int32) {u : k_S} {QQ : Int32 → k_S → Prop} (H : k_sat (f_Judging_tellApart  p1 p2 u) QQ) : k_OK g 1 MX2_tellApart [.ref 24, .int p1, .int p2] u (k_qi QQ) := by
  have hr : ∀ (r : Int32) (u' : k_S), QQ (r) u' → (k_qi QQ) (some (.int r)) u' := fun r u' h => ⟨_, rfl, h⟩
  refine k_OK.ofW pfX2_tellApart (k_tab_of MX2_tellApart_dec) rfl ?_
  refine s_const 0 0 0 rfl k_ic_0 ?_
  refine s_istoren 0 1 rfl rfl ?_
  refine k_via (l_Judging_tellApart_B2 g  p1 p2 ?_ ?_ _ _ _ (k_sat_bind H)) ⟨rfl, rfl, rfl, rfl, trivial⟩
  · exact fun r u' h => hr r u' (k_sat_some h)
  · intro y4 u3 H
    replace H := k_sat_csr H
    refine s_const 1 3 1 rfl k_ic_1 ?_
    exact s_zret 3 2 rfl rfl k_z1 (hr _ _ (k_sat_some H))
set_option maxRecDepth 100000 in
theorem t_Judging_fewestNights_B29 (g : k_G)  (v2 : Int32) (v3 : Int32) (v4 : Int32) (v5 : Int32)  {u : k_S} {QQ : ((Int32 × Int32 × Int32) ⊕ (Int32)) → k_S → Prop} {Q : Option Value → k_S → Prop} (hb : ∀ (x : (Int32 × Int32 × Int32)) (u' : k_S), QQ (.inl x) u' → k_W g 7 MX2_fewestNights 29 [(0, .ref 24), (2, .int v2), (3, .int x.1), (4, .int x.2.1), (5, .int x.2.2)] [] u' Q) (he : ∀ (y : (Int32)) (u' : k_S), QQ (.inr y) u' → k_W g 7 MX2_fewestNights 74 [(3, .int y)] [] u' Q) (H : k_sat (f_Judging_fewestNights_B29  v2 v3 v4 v5 u) QQ) : k_W g 7 MX2_fewestNights 29 [(0, .ref 24), (2, .int v2), (3, .int v3), (4, .int v4), (5, .int v5)] [] u Q := by
  refine s_iload 1 1 rfl rfl ?_
  refine s_sipush 1024 1 2 rfl k_is_1024 ?_
  refine s_icmp_ge 1 3 74 rfl (by decide) H (fun _ H => ?_) (fun _ H => ?_)
  · exact k_via (he _ _ (k_sat_some H)) ⟨rfl, trivial⟩
  · refine s_iload 1 4 rfl rfl ?_
    refine s_csi1 (M' := MJ6_bitCount_0f7a4) 1 5 rfl k_ml90 vvJ6_bitCount_0f7a4 (Nat.le_of_ble_eq_true rfl) rfl (c_J_bitCount g _ (k_sat_bind H)) (fun r6 u5 H => ?_)
    refine s_istore 1 6 rfl rfl ?_
    refine s_iload 1 7 rfl rfl ?_
    refine s_iload 1 8 rfl rfl ?_
    refine s_icmp_ge 1 9 68 rfl (by decide) H (fun _ H => ?_) (fun _ H => ?_)
    · refine s_iinc 2 3 rfl rfl rfl ?_
      refine s_goto 2 4 29 rfl (by decide) ?_
      exact k_via (hb _ _ (k_sat_some H)) ⟨rfl, rfl, rfl, rfl, rfl, trivial⟩
    · refine s_aloadn 1 10 rfl rfl ?_
      refine s_iload 1 11 rfl rfl ?_
      refine s_iloadn 1 12 rfl rfl ?_
      refine s_cvi2 (M' := MX2_tellApart) 1 13 rfl k_ml93 vvX2_tellApart rfl rfl (Nat.le_of_ble_eq_true rfl) rfl (c_Judging_tellApart g _ _ (k_sat_bind H)) (fun r8 u7 H => ?_)
      refine s_if_eq 1 14 68 rfl (by decide) H (fun _ H => ?_) (fun _ H => ?_)
      · refine s_iinc 2 3 rfl rfl rfl ?_
        refine s_goto 2 4 29 rfl (by decide) ?_
        exact k_via (hb _ _ (k_sat_some H)) ⟨rfl, rfl, rfl, rfl, rfl, trivial⟩
      · refine s_iload 1 15 rfl rfl ?_
        refine s_istoren 2 0 rfl rfl ?_
        refine s_iload 2 1 rfl rfl ?_
        refine s_istore 2 2 rfl rfl ?_
        refine s_iinc 2 3 rfl rfl rfl ?_
        refine s_goto 2 4 29 rfl (by decide) ?_
        exact k_via (hb _ _ (k_sat_some H)) ⟨rfl, rfl, rfl, rfl, rfl, trivial⟩
set_option maxRecDepth 100000 in
theorem l_Judging_fewestNights_B29 (g : k_G)  (v2 : Int32) {Q : Option Value → k_S → Prop} {K : (Int32) → k_S → Prop} (he : ∀ (y : (Int32)) (u' : k_S), K (y) u' → k_W g 7 MX2_fewestNights 74 [(3, .int y)] [] u' Q) : ∀ (n : Nat) (x : (Int32 × Int32 × Int32)) (u : k_S), k_sat (k_itr (fun (x : (Int32 × Int32 × Int32)) u => f_Judging_fewestNights_B29  v2 x.1 x.2.1 x.2.2 u) n x u) K → k_W g 7 MX2_fewestNights 29 [(0, .ref 24), (2, .int v2), (3, .int x.1), (4, .int x.2.1), (5, .int x.2.2)] [] u Q :=
  k_loop (P := fun (x : (Int32 × Int32 × Int32)) u => k_W g 7 MX2_fewestNights 29 [(0, .ref 24), (2, .int v2), (3, .int x.1), (4, .int x.2.1), (5, .int x.2.2)] [] u Q) (fun (x : (Int32 × Int32 × Int32)) u H => t_Judging_fewestNights_B29 g  v2 x.1 x.2.1 x.2.2  (fun x u' h => h) (fun y u' h => he y u' h) H)
set_option maxRecDepth 100000 in
theorem c_Judging_fewestNights (g : k_G)  (p1 : Int32) (p2 : Int32) {u : k_S} {QQ : Int32 → k_S → Prop} (H : k_sat (f_Judging_fewestNights  p1 p2 u) QQ) : k_OK g 7 MX2_fewestNights [.ref 24, .int p1, .int p2] u (k_qi QQ) := by
  have hr : ∀ (r : Int32) (u' : k_S), QQ (r) u' → (k_qi QQ) (some (.int r)) u' := fun r u' h => ⟨_, rfl, h⟩
  refine k_OK.ofW pfX2_fewestNights (k_tab_of MX2_fewestNights_dec) rfl ?_
  refine s_iloadn 0 0 rfl rfl ?_
  refine s_csi1 (M' := MJ6_bitCount_0f7a4) 0 1 rfl k_ml90 vvJ6_bitCount_0f7a4 (Nat.le_of_ble_eq_true rfl) rfl (c_J_bitCount g _ (k_sat_bind H)) (fun r2 u1 H => ?_)
  refine s_const 2 0 2 rfl k_ic_2 ?_
  refine s_icmp_ge 0 3 10 rfl (by decide) H (fun _ H => ?_) (fun _ H => ?_)
  · refine s_aloadn 0 6 rfl rfl ?_
    refine s_iloadn 0 7 rfl rfl ?_
    refine s_cvv1 (M' := MX2_watchLetters) 0 8 rfl k_ml91 vvX2_watchLetters rfl rfl (Nat.le_of_ble_eq_true rfl) rfl (c_Judging_watchLetters g _ (k_sat_bind H)) (fun _ u3 H => ?_)
    refine s_aloadn 0 9 rfl rfl ?_
    refine s_cvv0 (M' := MX2_compareLetters) 0 10 rfl k_ml92 vvX2_compareLetters rfl rfl (Nat.le_of_ble_eq_true rfl) rfl (c_Judging_compareLetters g (k_sat_bind H)) (fun _ u4 H => ?_)
    refine s_bipush (-2) 0 11 rfl k_ib_m2 ?_
    refine s_istoren 0 12 rfl rfl ?_
    refine s_bipush 11 0 13 rfl k_ib_11 ?_
    refine s_istore 0 14 rfl rfl ?_
    refine s_const 1 0 15 rfl k_ic_1 ?_
    refine s_istore 1 0 rfl rfl ?_
    refine k_via (l_Judging_fewestNights_B29 g  p2 ?_ _ _ _ (k_sat_bind H)) ⟨rfl, rfl, rfl, rfl, rfl, trivial⟩
    · intro y10 u9 H
      refine s_iloadn 2 5 rfl rfl ?_
      exact s_iret 2 6 rfl rfl (hr _ _ (k_sat_some H))
  · refine s_const 0 0 4 rfl k_ic_0 ?_
    exact s_iret 0 5 rfl rfl (hr _ _ (k_sat_some H))
set_option maxRecDepth 100000 in
theorem c_W_watch (g : k_G)  (p1 : Int32) {u : k_S} {QQ : Int32 → k_S → Prop} (H : k_sat (f_W_watch  p1 u) QQ) : k_OK g 8 MX11_watch [.ref 0, .int p1] u (k_qi QQ) := by
  have hr : ∀ (r : Int32) (u' : k_S), QQ (r) u' → (k_qi QQ) (some (.int r)) u' := fun r u' h => ⟨_, rfl, h⟩
  refine k_OK.ofW pfX11_watch (k_tab_of MX11_watch_dec) rfl ?_
  refine s_aloadn 0 0 rfl rfl ?_
  refine s_getr 0 1 rfl k_fl1 rfl rfl rfl rfl ?_
  refine s_const 0 0 2 rfl k_ic_0 ?_
  refine s_iloadn 0 3 rfl rfl ?_
  refine s_cvi2 (M' := MX10_hasPlace) 0 4 rfl k_ml18 vvX10_hasPlace rfl rfl (Nat.le_of_ble_eq_true rfl) rfl (c_Wheels_hasPlace g _ _ (k_sat_bind H)) (fun r2 u1 H => ?_)
  refine s_if_ne 0 5 14 rfl (by decide) H (fun _ H => ?_) (fun _ H => ?_)
  · refine s_aloadn 0 8 rfl rfl ?_
    refine s_getr 0 9 rfl k_fl5 rfl rfl rfl rfl ?_
    refine s_iloadn 0 10 rfl rfl ?_
    refine s_aloadn 0 11 rfl rfl ?_
    refine s_getr 0 12 rfl k_fl5 rfl rfl rfl rfl ?_
    refine s_iloadn 0 13 rfl rfl ?_
    refine s_cvi1 (M' := MX2_fitting) 0 14 rfl k_ml45 vvX2_fitting rfl rfl (Nat.le_of_ble_eq_true rfl) rfl (c_Judging_fitting g _ (k_sat_bind H)) (fun r4 u3 H => ?_)
    refine s_cvi2 (M' := MX2_fewestNights) 0 15 rfl k_ml48 vvX2_fewestNights rfl rfl (Nat.le_of_ble_eq_true rfl) rfl (c_Judging_fewestNights g _ _ (k_sat_bind H)) (fun r6 u5 H => ?_)
    exact s_iret 1 0 rfl rfl (hr _ _ (k_sat_some H))
  · refine s_const (-1) 0 6 rfl k_ic_m1 ?_
    exact s_iret 0 7 rfl rfl (hr _ _ (k_sat_some H))
set_option maxRecDepth 100000 in
theorem t_R_doesPart_B44 (g : k_G)  (v1 : Int32) (v2 : Int32) (v3 : Int32) (v4 : Int32) (v5 : Int32) (v6 : Int32)  {u : k_S} {QQ : ((Int32 × Int32) ⊕ (Int32)) → k_S → Prop} {Q : Option Value → k_S → Prop} (hb : ∀ (x : (Int32 × Int32)) (u' : k_S), QQ (.inl x) u' → k_W g 1 MX12_doesPart 44 [(0, .ref 42), (1, .int v1), (2, .int v2), (3, .int v3), (4, .int v4), (5, .int x.1), (6, .int x.2)] [] u' Q) (he : ∀ (y : (Int32)) (u' : k_S), QQ (.inr y) u' → k_W g 1 MX12_doesPart 100 [(0, .ref 42), (1, .int v1), (2, .int v2), (3, .int v3), (4, .int v4), (5, .int y)] [] u' Q) (H : k_sat (f_R_doesPart_B44  v1 v2 v3 v4 v5 v6 u) QQ) : k_W g 1 MX12_doesPart 44 [(0, .ref 42), (1, .int v1), (2, .int v2), (3, .int v3), (4, .int v4), (5, .int v5), (6, .int v6)] [] u Q := by
  refine s_iload 1 13 rfl rfl ?_
  refine s_bipush 10 1 14 rfl k_ib_10 ?_
  refine s_icmp_gt 1 15 100 rfl (by decide) H (fun _ H => ?_) (fun _ H => ?_)
  · exact k_via (he _ _ (k_sat_some H)) ⟨rfl, rfl, rfl, rfl, rfl, rfl, trivial⟩
  · refine s_iloadn 2 0 rfl rfl ?_
    refine s_iload 2 1 rfl rfl ?_
    refine s_const 1 2 2 rfl k_ic_1 ?_
    refine s_isub 2 3 rfl ?_
    refine s_ishr 2 4 rfl ?_
    refine s_const 1 2 5 rfl k_ic_1 ?_
    refine s_iand 2 6 rfl ?_
    refine s_const 1 2 7 rfl k_ic_1 ?_
    refine s_icmp_ne 2 8 94 rfl (by decide) H (fun _ H => ?_) (fun _ H => ?_)
    · refine s_iinc 3 12 rfl rfl rfl ?_
      refine s_goto 3 13 44 rfl (by decide) ?_
      exact k_via (hb _ _ (k_sat_some H)) ⟨rfl, rfl, rfl, rfl, rfl, rfl, rfl, trivial⟩
    · refine s_aloadn 2 9 rfl rfl ?_
      refine s_getr 2 10 rfl k_fl112 rfl rfl rfl rfl ?_
      refine s_bipush 11 2 11 rfl k_ib_11 ?_
      refine s_iloadn 2 12 rfl rfl ?_
      refine s_imul 2 13 rfl ?_
      refine s_iload 2 14 rfl rfl ?_
      refine s_iadd 2 15 rfl ?_
      refine s_iald 3 0 rfl rfl H (fun _ H => ?_)
      refine s_aloadn 3 1 rfl rfl ?_
      refine s_getr 3 2 rfl k_fl112 rfl rfl rfl rfl ?_
      refine s_bipush 11 3 3 rfl k_ib_11 ?_
      refine s_iload 3 4 rfl rfl ?_
      refine s_imul 3 5 rfl ?_
      refine s_iload 3 6 rfl rfl ?_
      refine s_iadd 3 7 rfl ?_
      refine s_iald 3 8 rfl rfl H (fun _ H => ?_)
      refine s_icmp_eq 3 9 94 rfl (by decide) H (fun _ H => ?_) (fun _ H => ?_)
      · refine s_iinc 3 12 rfl rfl rfl ?_
        refine s_goto 3 13 44 rfl (by decide) ?_
        exact k_via (hb _ _ (k_sat_some H)) ⟨rfl, rfl, rfl, rfl, rfl, rfl, rfl, trivial⟩
      · refine s_const 1 3 10 rfl k_ic_1 ?_
        refine s_istore 3 11 rfl rfl ?_
        refine s_iinc 3 12 rfl rfl rfl ?_
        refine s_goto 3 13 44 rfl (by decide) ?_
        exact k_via (hb _ _ (k_sat_some H)) ⟨rfl, rfl, rfl, rfl, rfl, rfl, rfl, trivial⟩
set_option maxRecDepth 100000 in
theorem l_R_doesPart_B44 (g : k_G)  (v1 : Int32) (v2 : Int32) (v3 : Int32) (v4 : Int32) {Q : Option Value → k_S → Prop} {K : (Int32) → k_S → Prop} (he : ∀ (y : (Int32)) (u' : k_S), K (y) u' → k_W g 1 MX12_doesPart 100 [(0, .ref 42), (1, .int v1), (2, .int v2), (3, .int v3), (4, .int v4), (5, .int y)] [] u' Q) : ∀ (n : Nat) (x : (Int32 × Int32)) (u : k_S), k_sat (k_itr (fun (x : (Int32 × Int32)) u => f_R_doesPart_B44  v1 v2 v3 v4 x.1 x.2 u) n x u) K → k_W g 1 MX12_doesPart 44 [(0, .ref 42), (1, .int v1), (2, .int v2), (3, .int v3), (4, .int v4), (5, .int x.1), (6, .int x.2)] [] u Q :=
  k_loop (P := fun (x : (Int32 × Int32)) u => k_W g 1 MX12_doesPart 44 [(0, .ref 42), (1, .int v1), (2, .int v2), (3, .int v3), (4, .int v4), (5, .int x.1), (6, .int x.2)] [] u Q) (fun (x : (Int32 × Int32)) u H => t_R_doesPart_B44 g  v1 v2 v3 v4 x.1 x.2  (fun x u' h => h) (fun y u' h => he y u' h) H)
set_option maxRecDepth 100000 in
theorem t_R_doesPart_B12 (g : k_G)  (v1 : Int32) (v2 : Int32) (v3 : Int32) (v4 : Int32)  {u : k_S} {QQ : ((Int32) ⊕ (Int32 ⊕ Unit)) → k_S → Prop} {Q : Option Value → k_S → Prop} (hr : ∀ (r : Int32) (u' : k_S), QQ (.inr (.inl r)) u' → (Q) (some (.int r)) u') (hb : ∀ (x : (Int32)) (u' : k_S), QQ (.inl x) u' → k_W g 1 MX12_doesPart 12 [(0, .ref 42), (1, .int v1), (2, .int v2), (3, .int v3), (4, .int x)] [] u' Q) (he : ∀ (y : Unit) (u' : k_S), QQ (.inr (.inr y)) u' → k_W g 1 MX12_doesPart 113 [(0, .ref 42), (1, .int v1), (2, .int v2), (3, .int v3)] [] u' Q) (H : k_sat (f_R_doesPart_B12  v1 v2 v3 v4 u) QQ) : k_W g 1 MX12_doesPart 12 [(0, .ref 42), (1, .int v1), (2, .int v2), (3, .int v3), (4, .int v4)] [] u Q := by
  refine s_iload 0 9 rfl rfl ?_
  refine s_const 4 0 10 rfl k_ic_4 ?_
  refine s_icmp_ge 0 11 113 rfl (by decide) H (fun _ H => ?_) (fun _ H => ?_)
  · exact k_via (he _ _ (k_sat_some H)) ⟨rfl, rfl, rfl, rfl, trivial⟩
  · refine s_iloadn 0 12 rfl rfl ?_
    refine s_iloadn 0 13 rfl rfl ?_
    refine s_ishr 0 14 rfl ?_
    refine s_const 1 0 15 rfl k_ic_1 ?_
    refine s_iand 1 0 rfl ?_
    refine s_if_eq 1 1 107 rfl (by decide) H (fun _ H => ?_) (fun _ H => ?_)
    · refine s_iinc 4 2 rfl rfl rfl ?_
      refine s_goto 4 3 12 rfl (by decide) ?_
      exact k_via (hb _ _ (k_sat_some H)) ⟨rfl, rfl, rfl, rfl, rfl, trivial⟩
    · refine s_iloadn 1 2 rfl rfl ?_
      refine s_iload 1 3 rfl rfl ?_
      refine s_ishr 1 4 rfl ?_
      refine s_const 1 1 5 rfl k_ic_1 ?_
      refine s_iand 1 6 rfl ?_
      refine s_if_ne 1 7 38 rfl (by decide) H (fun _ H => ?_) (fun _ H => ?_)
      · refine s_const 0 1 9 rfl k_ic_0 ?_
        refine s_istore 1 10 rfl rfl ?_
        refine s_const 1 1 11 rfl k_ic_1 ?_
        refine s_istore 1 12 rfl rfl ?_
        refine k_via (l_R_doesPart_B44 g  v1 v2 v3 v4 ?_ _ _ _ (k_sat_bind H)) ⟨rfl, rfl, rfl, rfl, rfl, rfl, rfl, trivial⟩
        · intro y3 u2 H
          refine s_iload 3 14 rfl rfl ?_
          refine s_if_ne 3 15 107 rfl (by decide) H (fun _ H => ?_) (fun _ H => ?_)
          · refine s_iinc 4 2 rfl rfl rfl ?_
            refine s_goto 4 3 12 rfl (by decide) ?_
            exact k_via (hb _ _ (k_sat_some H)) ⟨rfl, rfl, rfl, rfl, rfl, trivial⟩
          · refine s_const 0 4 0 rfl k_ic_0 ?_
            exact s_zret 4 1 rfl rfl k_z0 (hr _ _ (k_sat_some H))
      · refine s_goto 1 8 107 rfl (by decide) ?_
        refine s_iinc 4 2 rfl rfl rfl ?_
        refine s_goto 4 3 12 rfl (by decide) ?_
        exact k_via (hb _ _ (k_sat_some H)) ⟨rfl, rfl, rfl, rfl, rfl, trivial⟩
set_option maxRecDepth 100000 in
theorem l_R_doesPart_B12 (g : k_G)  (v1 : Int32) (v2 : Int32) (v3 : Int32) {Q : Option Value → k_S → Prop} {K : (Int32 ⊕ Unit) → k_S → Prop} (hr : ∀ (r : Int32) (u' : k_S), K (.inl r) u' → Q (some (.int r)) u') (he : ∀ (y : Unit) (u' : k_S), K (.inr y) u' → k_W g 1 MX12_doesPart 113 [(0, .ref 42), (1, .int v1), (2, .int v2), (3, .int v3)] [] u' Q) : ∀ (n : Nat) (x : (Int32)) (u : k_S), k_sat (k_itr (fun (x : (Int32)) u => f_R_doesPart_B12  v1 v2 v3 x u) n x u) K → k_W g 1 MX12_doesPart 12 [(0, .ref 42), (1, .int v1), (2, .int v2), (3, .int v3), (4, .int x)] [] u Q :=
  k_loop (P := fun (x : (Int32)) u => k_W g 1 MX12_doesPart 12 [(0, .ref 42), (1, .int v1), (2, .int v2), (3, .int v3), (4, .int x)] [] u Q) (fun (x : (Int32)) u H => t_R_doesPart_B12 g  v1 v2 v3 x  (fun r u' h => hr r u' h) (fun x u' h => h) (fun y u' h => he y u' h) H)
set_option maxRecDepth 100000 in
theorem t_R_doesPart_B2 (g : k_G)  (v1 : Int32) (v2 : Int32) (v3 : Int32)  {u : k_S} {QQ : ((Int32) ⊕ (Int32 ⊕ Unit)) → k_S → Prop} {Q : Option Value → k_S → Prop} (hr : ∀ (r : Int32) (u' : k_S), QQ (.inr (.inl r)) u' → (Q) (some (.int r)) u') (hb : ∀ (x : (Int32)) (u' : k_S), QQ (.inl x) u' → k_W g 1 MX12_doesPart 2 [(0, .ref 42), (1, .int v1), (2, .int v2), (3, .int x)] [] u' Q) (he : ∀ (y : Unit) (u' : k_S), QQ (.inr (.inr y)) u' → k_W g 1 MX12_doesPart 119 [] [] u' Q) (H : k_sat (f_R_doesPart_B2  v1 v2 v3 u) QQ) : k_W g 1 MX12_doesPart 2 [(0, .ref 42), (1, .int v1), (2, .int v2), (3, .int v3)] [] u Q := by
  refine s_iloadn 0 2 rfl rfl ?_
  refine s_const 4 0 3 rfl k_ic_4 ?_
  refine s_icmp_ge 0 4 119 rfl (by decide) H (fun _ H => ?_) (fun _ H => ?_)
  · exact k_via (he _ _ (k_sat_some H)) trivial
  · refine s_iloadn 0 5 rfl rfl ?_
    refine s_const 1 0 6 rfl k_ic_1 ?_
    refine s_iadd 0 7 rfl ?_
    refine k_topi H (fun t1 H => ?_)
    refine s_istore 0 8 rfl rfl ?_
    refine k_via (l_R_doesPart_B12 g  v1 v2 v3 ?_ ?_ _ _ _ (k_sat_bind H)) ⟨rfl, rfl, rfl, rfl, rfl, trivial⟩
    · exact fun r u' h => hr r u' (k_sat_some h)
    · intro y5 u4 H
      replace H := k_sat_csr H
      refine s_iinc 4 4 rfl rfl rfl ?_
      refine s_goto 4 5 2 rfl (by decide) ?_
      exact k_via (hb _ _ (k_sat_some H)) ⟨rfl, rfl, rfl, rfl, trivial⟩
set_option maxRecDepth 100000 in
theorem l_R_doesPart_B2 (g : k_G)  (v1 : Int32) (v2 : Int32) {Q : Option Value → k_S → Prop} {K : (Int32 ⊕ Unit) → k_S → Prop} (hr : ∀ (r : Int32) (u' : k_S), K (.inl r) u' → Q (some (.int r)) u') (he : ∀ (y : Unit) (u' : k_S), K (.inr y) u' → k_W g 1 MX12_doesPart 119 [] [] u' Q) : ∀ (n : Nat) (x : (Int32)) (u : k_S), k_sat (k_itr (fun (x : (Int32)) u => f_R_doesPart_B2  v1 v2 x u) n x u) K → k_W g 1 MX12_doesPart 2 [(0, .ref 42), (1, .int v1), (2, .int v2), (3, .int x)] [] u Q :=
  k_loop (P := fun (x : (Int32)) u => k_W g 1 MX12_doesPart 2 [(0, .ref 42), (1, .int v1), (2, .int v2), (3, .int x)] [] u Q) (fun (x : (Int32)) u H => t_R_doesPart_B2 g  v1 v2 x  (fun r u' h => hr r u' h) (fun x u' h => h) (fun y u' h => he y u' h) H)
set_option maxRecDepth 100000 in
theorem c_R_doesPart (g : k_G)  (p1 : Int32) (p2 : Int32) {u : k_S} {QQ : Int32 → k_S → Prop} (H : k_sat (f_R_doesPart  p1 p2 u) QQ) : k_OK g 1 MX12_doesPart [.ref 42, .int p1, .int p2] u (k_qi QQ) := by
  have hr : ∀ (r : Int32) (u' : k_S), QQ (r) u' → (k_qi QQ) (some (.int r)) u' := fun r u' h => ⟨_, rfl, h⟩
  refine k_OK.ofW pfX12_doesPart (k_tab_of MX12_doesPart_dec) rfl ?_
  refine s_const 0 0 0 rfl k_ic_0 ?_
  refine s_istoren 0 1 rfl rfl ?_
  refine k_via (l_R_doesPart_B2 g  p1 p2 ?_ ?_ _ _ _ (k_sat_bind H)) ⟨rfl, rfl, rfl, rfl, trivial⟩
  · exact fun r u' h => hr r u' (k_sat_some h)
  · intro y8 u7 H
    replace H := k_sat_csr H
    refine s_const 1 4 6 rfl k_ic_1 ?_
    exact s_zret 4 7 rfl rfl k_z1 (hr _ _ (k_sat_some H))
set_option maxRecDepth 100000 in
theorem t_R_watch_B77 (g : k_G)  (v1 : Int32) (v2 : Int32) (v3 : Int32) (v4 : Int32) (v5 : Int32)  {u : k_S} {QQ : ((Int32) ⊕ Unit) → k_S → Prop} {Q : Option Value → k_S → Prop} (hb : ∀ (x : (Int32)) (u' : k_S), QQ (.inl x) u' → k_W g 9 MX12_watch 77 [(0, .ref 42), (1, .int v1), (2, .int v2), (3, .int v3), (4, .int v4), (5, .int x)] [] u' Q) (he : ∀ (y : Unit) (u' : k_S), QQ (.inr y) u' → k_W g 9 MX12_watch 113 [(0, .ref 42), (1, .int v1), (2, .int v2), (3, .int v3), (4, .int v4)] [] u' Q) (H : k_sat (f_R_watch_B77  v1 v2 v3 v4 v5 u) QQ) : k_W g 9 MX12_watch 77 [(0, .ref 42), (1, .int v1), (2, .int v2), (3, .int v3), (4, .int v4), (5, .int v5)] [] u Q := by
  refine s_iload 2 15 rfl rfl ?_
  refine s_bipush 10 3 0 rfl k_ib_10 ?_
  refine s_icmp_gt 3 1 113 rfl (by decide) H (fun _ H => ?_) (fun _ H => ?_)
  · exact k_via (he _ _ (k_sat_some H)) ⟨rfl, rfl, rfl, rfl, rfl, trivial⟩
  · refine s_aloadn 3 2 rfl rfl ?_
    refine s_cvv0 (M' := MX12_goOn) 3 3 rfl k_ml255 vvX12_goOn rfl rfl (Nat.le_of_ble_eq_true rfl) rfl (c_R_goOn g (k_sat_bind H)) (fun _ u10 H => ?_)
    refine s_aloadn 3 4 rfl rfl ?_
    refine s_getr 3 5 rfl k_fl112 rfl rfl rfl rfl ?_
    refine s_bipush 11 3 6 rfl k_ib_11 ?_
    refine s_iload 3 7 rfl rfl ?_
    refine s_imul 3 8 rfl ?_
    refine s_iload 3 9 rfl rfl ?_
    refine s_iadd 3 10 rfl ?_
    refine s_aloadn 3 11 rfl rfl ?_
    refine s_getr 3 12 rfl k_fl90 rfl rfl rfl rfl ?_
    refine s_const 0 3 13 rfl k_ic_0 ?_
    refine s_iald 3 14 rfl rfl H (fun _ H => ?_)
    refine s_iast 3 15 rfl rfl H (fun u11 H => ?_)
    refine s_iinc 4 0 rfl rfl rfl ?_
    refine s_goto 4 1 77 rfl (by decide) ?_
    exact k_via (hb _ _ (k_sat_some H)) ⟨rfl, rfl, rfl, rfl, rfl, rfl, trivial⟩
set_option maxRecDepth 100000 in
theorem l_R_watch_B77 (g : k_G)  (v1 : Int32) (v2 : Int32) (v3 : Int32) (v4 : Int32) {Q : Option Value → k_S → Prop} {K : Unit → k_S → Prop} (he : ∀ (y : Unit) (u' : k_S), K (y) u' → k_W g 9 MX12_watch 113 [(0, .ref 42), (1, .int v1), (2, .int v2), (3, .int v3), (4, .int v4)] [] u' Q) : ∀ (n : Nat) (x : (Int32)) (u : k_S), k_sat (k_itr (fun (x : (Int32)) u => f_R_watch_B77  v1 v2 v3 v4 x u) n x u) K → k_W g 9 MX12_watch 77 [(0, .ref 42), (1, .int v1), (2, .int v2), (3, .int v3), (4, .int v4), (5, .int x)] [] u Q :=
  k_loop (P := fun (x : (Int32)) u => k_W g 9 MX12_watch 77 [(0, .ref 42), (1, .int v1), (2, .int v2), (3, .int v3), (4, .int v4), (5, .int x)] [] u Q) (fun (x : (Int32)) u H => t_R_watch_B77 g  v1 v2 v3 v4 x  (fun x u' h => h) (fun y u' h => he y u' h) H)
set_option maxRecDepth 100000 in
theorem t_R_watch_B51 (g : k_G)  (v1 : Int32) (v2 : Int32) (v3 : Int32) (v4 : Int32)  {u : k_S} {QQ : ((Int32) ⊕ Unit) → k_S → Prop} {Q : Option Value → k_S → Prop} (hb : ∀ (x : (Int32)) (u' : k_S), QQ (.inl x) u' → k_W g 9 MX12_watch 51 [(0, .ref 42), (1, .int v1), (2, .int v2), (3, .int v3), (4, .int x)] [] u' Q) (he : ∀ (y : Unit) (u' : k_S), QQ (.inr y) u' → k_W g 9 MX12_watch 123 [(0, .ref 42), (1, .int v1), (2, .int v2), (3, .int v3)] [] u' Q) (H : k_sat (f_R_watch_B51  v1 v2 v3 v4 u) QQ) : k_W g 9 MX12_watch 51 [(0, .ref 42), (1, .int v1), (2, .int v2), (3, .int v3), (4, .int v4)] [] u Q := by
  refine s_iload 2 0 rfl rfl ?_
  refine s_const 4 2 1 rfl k_ic_4 ?_
  refine s_icmp_ge 2 2 123 rfl (by decide) H (fun _ H => ?_) (fun _ H => ?_)
  · exact k_via (he _ _ (k_sat_some H)) ⟨rfl, rfl, rfl, rfl, trivial⟩
  · refine s_aloadn 2 3 rfl rfl ?_
    refine s_getr 2 4 rfl k_fl88 rfl rfl rfl rfl ?_
    refine s_iloadn 2 5 rfl rfl ?_
    refine s_aloadn 2 6 rfl rfl ?_
    refine s_getr 2 7 rfl k_fl111 rfl rfl rfl rfl ?_
    refine s_iload 2 8 rfl rfl ?_
    refine s_iald 2 9 rfl rfl H (fun _ H => ?_)
    refine s_iast 2 10 rfl rfl H (fun u8 H => ?_)
    refine s_aloadn 2 11 rfl rfl ?_
    refine s_cvv0 (M' := MX12_keepNow) 2 12 rfl k_ml256 vvX12_keepNow rfl rfl (Nat.le_of_ble_eq_true rfl) rfl (c_R_keepNow g (k_sat_bind H)) (fun _ u9 H => ?_)
    refine s_const 1 2 13 rfl k_ic_1 ?_
    refine s_istore 2 14 rfl rfl ?_
    refine k_via (l_R_watch_B77 g  v1 v2 v3 v4 ?_ _ _ _ (k_sat_bind H)) ⟨rfl, rfl, rfl, rfl, rfl, rfl, trivial⟩
    · intro y13 u12 H
      refine s_aloadn 4 2 rfl rfl ?_
      refine s_cvv0 (M' := MX12_layBack) 4 3 rfl k_ml257 vvX12_layBack rfl rfl (Nat.le_of_ble_eq_true rfl) rfl (c_R_layBack g (k_sat_bind H)) (fun _ u14 H => ?_)
      refine s_iinc 4 4 rfl rfl rfl ?_
      refine s_goto 4 5 51 rfl (by decide) ?_
      exact k_via (hb _ _ (k_sat_some H)) ⟨rfl, rfl, rfl, rfl, rfl, trivial⟩
set_option maxRecDepth 100000 in
theorem l_R_watch_B51 (g : k_G)  (v1 : Int32) (v2 : Int32) (v3 : Int32) {Q : Option Value → k_S → Prop} {K : Unit → k_S → Prop} (he : ∀ (y : Unit) (u' : k_S), K (y) u' → k_W g 9 MX12_watch 123 [(0, .ref 42), (1, .int v1), (2, .int v2), (3, .int v3)] [] u' Q) : ∀ (n : Nat) (x : (Int32)) (u : k_S), k_sat (k_itr (fun (x : (Int32)) u => f_R_watch_B51  v1 v2 v3 x u) n x u) K → k_W g 9 MX12_watch 51 [(0, .ref 42), (1, .int v1), (2, .int v2), (3, .int v3), (4, .int x)] [] u Q :=
  k_loop (P := fun (x : (Int32)) u => k_W g 9 MX12_watch 51 [(0, .ref 42), (1, .int v1), (2, .int v2), (3, .int v3), (4, .int x)] [] u Q) (fun (x : (Int32)) u H => t_R_watch_B51 g  v1 v2 v3 x  (fun x u' h => h) (fun y u' h => he y u' h) H)
set_option maxRecDepth 100000 in
theorem t_R_watch_J163 (g : k_G)  (v2 : Int32) (v4 : Int32) (v5 : Int32)  {u : k_S} {QQ : ((Int32 × Int32) ⊕ (Int32)) → k_S → Prop} {Q : Option Value → k_S → Prop} (hb : ∀ (x : (Int32 × Int32)) (u' : k_S), QQ (.inl x) u' → k_W g 9 MX12_watch 137 [(0, .ref 42), (2, .int v2), (4, .int x.1), (5, .int x.2)] [] u' Q) (he : ∀ (y : (Int32)) (u' : k_S), QQ (.inr y) u' → k_W g 9 MX12_watch 183 [(4, .int y)] [] u' Q) (H : k_sat (f_R_watch_J163  v2 v4 v5 u) QQ) : k_W g 9 MX12_watch 163 [(0, .ref 42), (2, .int v2), (4, .int v4), (5, .int v5)] [] u Q := by
  refine s_aloadn 5 9 rfl rfl ?_
  refine s_iload 5 10 rfl rfl ?_
  refine s_iloadn 5 11 rfl rfl ?_
  refine s_cvi2 (M' := MX12_doesPart) 5 12 rfl k_ml267 vvX12_doesPart rfl rfl (Nat.le_of_ble_eq_true rfl) rfl (c_R_doesPart g _ _ (k_sat_bind H)) (fun r19 u18 H => ?_)
  refine s_if_eq 5 13 177 rfl (by decide) H (fun _ H => ?_) (fun _ H => ?_)
  · refine s_iinc 6 0 rfl rfl rfl ?_
    refine s_goto 6 1 137 rfl (by decide) ?_
    exact k_via (hb _ _ (k_sat_some H)) ⟨rfl, rfl, rfl, rfl, trivial⟩
  · refine s_iload 5 14 rfl rfl ?_
    refine s_istore 5 15 rfl rfl ?_
    refine s_iinc 6 0 rfl rfl rfl ?_
    refine s_goto 6 1 137 rfl (by decide) ?_
    exact k_via (hb _ _ (k_sat_some H)) ⟨rfl, rfl, rfl, rfl, trivial⟩
set_option maxRecDepth 100000 in
theorem t_R_watch_B137 (g : k_G)  (v2 : Int32) (v4 : Int32) (v5 : Int32)  {u : k_S} {QQ : ((Int32 × Int32) ⊕ (Int32)) → k_S → Prop} {Q : Option Value → k_S → Prop} (hb : ∀ (x : (Int32 × Int32)) (u' : k_S), QQ (.inl x) u' → k_W g 9 MX12_watch 137 [(0, .ref 42), (2, .int v2), (4, .int x.1), (5, .int x.2)] [] u' Q) (he : ∀ (y : (Int32)) (u' : k_S), QQ (.inr y) u' → k_W g 9 MX12_watch 183 [(4, .int y)] [] u' Q) (H : k_sat (f_R_watch_B137  v2 v4 v5 u) QQ) : k_W g 9 MX12_watch 137 [(0, .ref 42), (2, .int v2), (4, .int v4), (5, .int v5)] [] u Q := by
  refine s_iload 4 15 rfl rfl ?_
  refine s_sipush 1024 5 0 rfl k_is_1024 ?_
  refine s_icmp_ge 5 1 183 rfl (by decide) H (fun _ H => ?_) (fun _ H => ?_)
  · exact k_via (he _ _ (k_sat_some H)) ⟨rfl, trivial⟩
  · refine s_iload 5 2 rfl rfl ?_
    refine s_if_lt 5 3 163 rfl (by decide) H (fun _ H => ?_) (fun _ H => ?_)
    · exact k_via (t_R_watch_J163 g  _ _ _  hb he H) ⟨rfl, rfl, rfl, rfl, trivial⟩
    · refine s_iload 5 4 rfl rfl ?_
      refine s_csi1 (M' := MX12_bitsOf) 5 5 rfl k_ml266 vvX12_bitsOf (Nat.le_of_ble_eq_true rfl) rfl (c_R_bitsOf g _ (k_sat_bind H)) (fun r21 u20 H => ?_)
      refine s_iload 5 6 rfl rfl ?_
      refine s_csi1 (M' := MX12_bitsOf) 5 7 rfl k_ml266 vvX12_bitsOf (Nat.le_of_ble_eq_true rfl) rfl (c_R_bitsOf g _ (k_sat_bind H)) (fun r23 u22 H => ?_)
      refine s_icmp_ge 5 8 177 rfl (by decide) H (fun _ H => ?_) (fun _ H => ?_)
      · refine s_iinc 6 0 rfl rfl rfl ?_
        refine s_goto 6 1 137 rfl (by decide) ?_
        exact k_via (hb _ _ (k_sat_some H)) ⟨rfl, rfl, rfl, rfl, trivial⟩
      · exact k_via (t_R_watch_J163 g  _ _ _  hb he H) ⟨rfl, rfl, rfl, rfl, trivial⟩
set_option maxRecDepth 100000 in
theorem l_R_watch_B137 (g : k_G)  (v2 : Int32) {Q : Option Value → k_S → Prop} {K : (Int32) → k_S → Prop} (he : ∀ (y : (Int32)) (u' : k_S), K (y) u' → k_W g 9 MX12_watch 183 [(4, .int y)] [] u' Q) : ∀ (n : Nat) (x : (Int32 × Int32)) (u : k_S), k_sat (k_itr (fun (x : (Int32 × Int32)) u => f_R_watch_B137  v2 x.1 x.2 u) n x u) K → k_W g 9 MX12_watch 137 [(0, .ref 42), (2, .int v2), (4, .int x.1), (5, .int x.2)] [] u Q :=
  k_loop (P := fun (x : (Int32 × Int32)) u => k_W g 9 MX12_watch 137 [(0, .ref 42), (2, .int v2), (4, .int x.1), (5, .int x.2)] [] u Q) (fun (x : (Int32 × Int32)) u H => t_R_watch_B137 g  v2 x.1 x.2  (fun x u' h => h) (fun y u' h => he y u' h) H)
set_option maxRecDepth 100000 in
theorem c_R_watch (g : k_G)  (p1 : Int32) {u : k_S} {QQ : Int32 → k_S → Prop} (H : k_sat (f_R_watch  p1 u) QQ) : k_OK g 9 MX12_watch [.ref 42, .int p1] u (k_qi QQ) := by
  have hr : ∀ (r : Int32) (u' : k_S), QQ (r) u' → (k_qi QQ) (some (.int r)) u' := fun r u' h => ⟨_, rfl, h⟩
  refine k_OK.ofW pfX12_watch (k_tab_of MX12_watch_dec) rfl ?_
  refine s_aloadn 0 0 rfl rfl ?_
  refine s_geti 4203 0 1 rfl k_fl122 rfl rfl rfl rfl rfl ?_
  refine s_if_eq 0 2 23 rfl (by decide) H (fun _ H => ?_) (fun _ H => ?_)
  · refine s_const (-1) 0 13 rfl k_ic_m1 ?_
    exact s_iret 0 14 rfl rfl (hr _ _ (k_sat_some H))
  · refine s_iloadn 0 3 rfl rfl ?_
    refine s_const 0 0 4 rfl k_ic_0 ?_
    refine s_aloadn 0 5 rfl rfl ?_
    refine s_getr 0 6 rfl k_fl89 rfl rfl rfl rfl ?_
    refine s_const 0 0 7 rfl k_ic_0 ?_
    refine s_iald 0 8 rfl rfl H (fun _ H => ?_)
    refine s_const 1 0 9 rfl k_ic_1 ?_
    refine s_isub 0 10 rfl ?_
    refine s_csi3 (M' := MX12_in) 0 11 rfl k_ml230 vvX12_in (Nat.le_of_ble_eq_true rfl) rfl (c_R_in g _ _ _ (k_sat_bind H)) (fun r2 u1 H => ?_)
    refine s_if_ne 0 12 25 rfl (by decide) H (fun _ H => ?_) (fun _ H => ?_)
    · refine s_aloadn 0 15 rfl rfl ?_
      refine s_iloadn 1 0 rfl rfl ?_
      refine s_cvi1 (M' := MX12_fitting) 1 1 rfl k_ml265 vvX12_fitting rfl rfl (Nat.le_of_ble_eq_true rfl) rfl (c_R_fitting g _ (k_sat_bind H)) (fun r4 u3 H => ?_)
      refine s_istoren 1 2 rfl rfl ?_
      refine s_iloadn 1 3 rfl rfl ?_
      refine s_csi1 (M' := MX12_bitsOf) 1 4 rfl k_ml266 vvX12_bitsOf (Nat.le_of_ble_eq_true rfl) rfl (c_R_bitsOf g _ (k_sat_bind H)) (fun r6 u5 H => ?_)
      refine s_const 2 1 5 rfl k_ic_2 ?_
      refine s_icmp_ge 1 6 41 rfl (by decide) H (fun _ H => ?_) (fun _ H => ?_)
      · refine s_aloadn 1 9 rfl rfl ?_
        refine s_getr 1 10 rfl k_fl88 rfl rfl rfl rfl ?_
        refine s_iloadn 1 11 rfl rfl ?_
        refine s_iald 1 12 rfl rfl H (fun _ H => ?_)
        refine k_topi H (fun t7 H => ?_)
        refine s_istoren 1 13 rfl rfl ?_
        refine s_const 0 1 14 rfl k_ic_0 ?_
        refine s_istore 1 15 rfl rfl ?_
        refine k_via (l_R_watch_B51 g  p1 r4 t7 ?_ _ _ _ (k_sat_bind H)) ⟨rfl, rfl, rfl, rfl, rfl, trivial⟩
        · intro y16 u15 H
          refine s_aloadn 4 6 rfl rfl ?_
          refine s_getr 4 7 rfl k_fl88 rfl rfl rfl rfl ?_
          refine s_iloadn 4 8 rfl rfl ?_
          refine s_iloadn 4 9 rfl rfl ?_
          refine s_iast 4 10 rfl rfl H (fun u17 H => ?_)
          refine s_bipush (-2) 4 11 rfl k_ib_m2 ?_
          refine s_istore 4 12 rfl rfl ?_
          refine s_const 0 4 13 rfl k_ic_0 ?_
          refine s_istore 4 14 rfl rfl ?_
          refine k_via (l_R_watch_B137 g  r4 ?_ _ _ _ (k_sat_bind H)) ⟨rfl, rfl, rfl, rfl, trivial⟩
          · intro y25 u24 H
            refine s_iload 6 2 rfl rfl ?_
            exact s_iret 6 3 rfl rfl (hr _ _ (k_sat_some H))
      · refine s_const 0 1 7 rfl k_ic_0 ?_
        exact s_iret 1 8 rfl rfl (hr _ _ (k_sat_some H))
    · refine s_const (-1) 0 13 rfl k_ic_m1 ?_
      exact s_iret 0 14 rfl rfl (hr _ _ (k_sat_some H))
set_option maxRecDepth 100000 in
theorem c_Picture_stand (g : k_G)  (p1 : Int32) (p2 : Int32) (p3 : Int32) {u : k_S} {QQ : Unit → k_S → Prop} (H : k_sat (f_Picture_stand  p1 p2 p3 u) QQ) : k_OK g 1 MX5_stand [.ref 27, .int p1, .int p2, .int p3] u (k_qv QQ) := by
  have hr : ∀ (r : Unit) (u' : k_S), QQ (r) u' → (k_qv QQ) (none) u' := fun r u' h => ⟨rfl, h⟩
  refine k_OK.ofW pfX5_stand (k_tab_of MX5_stand_dec) rfl ?_
  refine s_iloadn 0 0 rfl rfl ?_
  refine s_if_lt 0 1 22 rfl (by decide) H (fun _ H => ?_) (fun _ H => ?_)
  · exact s_ret 0 12 rfl rfl (hr _ _ (k_sat_some H))
  · refine s_iloadn 0 2 rfl rfl ?_
    refine s_aloadn 0 3 rfl rfl ?_
    refine s_getr 0 4 rfl k_fl61 rfl rfl rfl rfl ?_
    refine s_alen 4 0 5 rfl rfl k_ln_4 ?_
    refine s_icmp_ge 0 6 22 rfl (by decide) H (fun _ H => ?_) (fun _ H => ?_)
    · exact s_ret 0 12 rfl rfl (hr _ _ (k_sat_some H))
    · refine s_iloadn 0 7 rfl rfl ?_
      refine s_aloadn 0 8 rfl rfl ?_
      refine s_getr 0 9 rfl k_fl62 rfl rfl rfl rfl ?_
      refine s_alen 4 0 10 rfl rfl k_ln_4 ?_
      refine s_icmp_lt 0 11 23 rfl (by decide) H (fun _ H => ?_) (fun _ H => ?_)
      · refine s_aloadn 0 13 rfl rfl ?_
        refine s_getr 0 14 rfl k_fl61 rfl rfl rfl rfl ?_
        refine s_iloadn 0 15 rfl rfl ?_
        refine s_iloadn 1 0 rfl rfl ?_
        refine s_iast 1 1 rfl rfl H (fun u1 H => ?_)
        refine s_aloadn 1 2 rfl rfl ?_
        refine s_getr 1 3 rfl k_fl62 rfl rfl rfl rfl ?_
        refine s_iloadn 1 4 rfl rfl ?_
        refine s_iloadn 1 5 rfl rfl ?_
        refine s_iast 1 6 rfl rfl H (fun u2 H => ?_)
        exact s_ret 1 7 rfl rfl (hr _ _ (k_sat_some H))
      · exact s_ret 0 12 rfl rfl (hr _ _ (k_sat_some H))
set_option maxRecDepth 100000 in
theorem t_Picture_become_Now_B10 (g : k_G)  (v2 : Int32) (v3 : Int32)  {u : k_S} {QQ : ((Int32) ⊕ Unit) → k_S → Prop} {Q : Option Value → k_S → Prop} (hb : ∀ (x : (Int32)) (u' : k_S), QQ (.inl x) u' → k_W g 2 MX5_become 10 [(0, .ref 27), (1, .ref 14), (2, .int v2), (3, .int x)] [] u' Q) (he : ∀ (y : Unit) (u' : k_S), QQ (.inr y) u' → k_W g 2 MX5_become 45 [] [] u' Q) (H : k_sat (f_Picture_become_Now_B10  v2 v3 u) QQ) : k_W g 2 MX5_become 10 [(0, .ref 27), (1, .ref 14), (2, .int v2), (3, .int v3)] [] u Q := by
  refine s_iloadn 0 6 rfl rfl ?_
  refine s_iloadn 0 7 rfl rfl ?_
  refine s_icmp_ge 0 8 45 rfl (by decide) H (fun _ H => ?_) (fun _ H => ?_)
  · exact k_via (he _ _ (k_sat_some H)) trivial
  · refine s_iloadn 0 9 rfl rfl ?_
    refine s_aloadn 0 10 rfl rfl ?_
    refine s_getr 0 11 rfl k_fl61 rfl rfl rfl rfl ?_
    refine s_alen 4 0 12 rfl rfl k_ln_4 ?_
    refine s_icmp_ge 0 13 45 rfl (by decide) H (fun _ H => ?_) (fun _ H => ?_)
    · exact k_via (he _ _ (k_sat_some H)) trivial
    · refine s_aloadn 0 14 rfl rfl ?_
      refine s_iloadn 0 15 rfl rfl ?_
      refine s_aloadn 1 0 rfl rfl ?_
      refine s_iloadn 1 1 rfl rfl ?_
      refine s_cvi1 (M' := MX5_placeOf) 1 2 rfl k_ml115 vvX5_placeOf rfl rfl (Nat.le_of_ble_eq_true rfl) rfl (c_Now_placeOf g _ (k_sat_bind H)) (fun r3 u2 H => ?_)
      refine s_aloadn 1 3 rfl rfl ?_
      refine s_iloadn 1 4 rfl rfl ?_
      refine s_cvi1 (M' := MX5_waitsOf) 1 5 rfl k_ml116 vvX5_waitsOf rfl rfl (Nat.le_of_ble_eq_true rfl) rfl (c_Now_waitsOf g _ (k_sat_bind H)) (fun r5 u4 H => ?_)
      refine s_cvv3 (M' := MX5_stand) 1 6 rfl k_ml117 vvX5_stand rfl rfl (Nat.le_of_ble_eq_true rfl) rfl (c_Picture_stand g _ _ _ (k_sat_bind H)) (fun _ u6 H => ?_)
      refine s_iinc 1 7 rfl rfl rfl ?_
      refine s_goto 1 8 10 rfl (by decide) ?_
      exact k_via (hb _ _ (k_sat_some H)) ⟨rfl, rfl, rfl, rfl, trivial⟩
set_option maxRecDepth 100000 in
theorem l_Picture_become_Now_B10 (g : k_G)  (v2 : Int32) {Q : Option Value → k_S → Prop} {K : Unit → k_S → Prop} (he : ∀ (y : Unit) (u' : k_S), K (y) u' → k_W g 2 MX5_become 45 [] [] u' Q) : ∀ (n : Nat) (x : (Int32)) (u : k_S), k_sat (k_itr (fun (x : (Int32)) u => f_Picture_become_Now_B10  v2 x u) n x u) K → k_W g 2 MX5_become 10 [(0, .ref 27), (1, .ref 14), (2, .int v2), (3, .int x)] [] u Q :=
  k_loop (P := fun (x : (Int32)) u => k_W g 2 MX5_become 10 [(0, .ref 27), (1, .ref 14), (2, .int v2), (3, .int x)] [] u Q) (fun (x : (Int32)) u H => t_Picture_become_Now_B10 g  v2 x  (fun x u' h => h) (fun y u' h => he y u' h) H)
set_option maxRecDepth 100000 in
theorem c_Picture_become_Now (g : k_G)  (p2 : Int32) {u : k_S} {QQ : Unit → k_S → Prop} (H : k_sat (f_Picture_become_Now  p2 u) QQ) : k_OK g 2 MX5_become [.ref 27, .ref 14, .int p2] u (k_qv QQ) := by
  have hr : ∀ (r : Unit) (u' : k_S), QQ (r) u' → (k_qv QQ) (none) u' := fun r u' h => ⟨rfl, h⟩
  refine k_OK.ofW pfX5_become (k_tab_of MX5_become_dec) rfl ?_
  refine s_aloadn 0 0 rfl rfl ?_
  refine s_aloadn 0 1 rfl rfl ?_
  refine s_geti 1402 0 2 rfl k_fl63 rfl rfl rfl rfl rfl ?_
  refine s_puti 2702 0 3 rfl k_fl63 rfl rfl rfl rfl rfl rfl rfl rfl rfl H (fun u1 H => ?_)
  refine s_const 0 0 4 rfl k_ic_0 ?_
  refine s_istoren 0 5 rfl rfl ?_
  refine k_via (l_Picture_become_Now_B10 g  p2 ?_ _ _ _ (k_sat_bind H)) ⟨rfl, rfl, rfl, rfl, trivial⟩
  · intro y8 u7 H
    exact s_ret 1 9 rfl rfl (hr _ _ (k_sat_some H))
set_option maxRecDepth 100000 in
theorem c_W_image (g : k_G)   {u : k_S} {QQ : Int32 → k_S → Prop} (H : k_sat (f_W_image   u) QQ) : k_OK g 3 MX11_image [.ref 0] u (k_qi QQ) := by
  have hr : ∀ (r : Int32) (u' : k_S), QQ (r) u' → (k_qi QQ) (some (.int r)) u' := fun r u' h => ⟨_, rfl, h⟩
  refine k_OK.ofW pfX11_image (k_tab_of MX11_image_dec) rfl ?_
  refine s_aloadn 0 0 rfl rfl ?_
  refine s_getr 0 1 rfl k_fl6 rfl rfl rfl rfl ?_
  refine s_aloadn 0 2 rfl rfl ?_
  refine s_getr 0 3 rfl k_fl3 rfl rfl rfl rfl ?_
  refine s_getr 0 4 rfl k_fl15 rfl rfl rfl rfl ?_
  refine s_aloadn 0 5 rfl rfl ?_
  refine s_getr 0 6 rfl k_fl1 rfl rfl rfl rfl ?_
  refine s_geti 303 0 7 rfl k_fl12 rfl rfl rfl rfl rfl ?_
  refine s_cvv2 (M' := MX5_become) 0 8 rfl k_ml49 vvX5_become rfl rfl (Nat.le_of_ble_eq_true rfl) rfl (c_Picture_become_Now g _ (k_sat_bind H)) (fun _ u1 H => ?_)
  refine s_aloadn 0 9 rfl rfl ?_
  refine s_aloadn 0 10 rfl rfl ?_
  refine s_getr 0 11 rfl k_fl1 rfl rfl rfl rfl ?_
  refine s_geti 303 0 12 rfl k_fl12 rfl rfl rfl rfl rfl ?_
  refine s_puti 10 0 13 rfl k_fl10 rfl rfl rfl rfl rfl rfl rfl rfl rfl H (fun u2 H => ?_)
  refine s_aloadn 0 14 rfl rfl ?_
  refine s_getr 0 15 rfl k_fl6 rfl rfl rfl rfl ?_
  refine s_geti 2702 1 0 rfl k_fl16 rfl rfl rfl rfl rfl ?_
  exact s_iret 1 1 rfl rfl (hr _ _ (k_sat_some H))
set_option maxRecDepth 100000 in
theorem t_R_image_B23 (g : k_G)  (v1 : Int32)  {u : k_S} {QQ : ((Int32) ⊕ Unit) → k_S → Prop} {Q : Option Value → k_S → Prop} (hb : ∀ (x : (Int32)) (u' : k_S), QQ (.inl x) u' → k_W g 1 MX12_image 23 [(0, .ref 42), (1, .int x)] [] u' Q) (he : ∀ (y : Unit) (u' : k_S), QQ (.inr y) u' → k_W g 1 MX12_image 58 [(0, .ref 42)] [] u' Q) (H : k_sat (f_R_image_B23  v1 u) QQ) : k_W g 1 MX12_image 23 [(0, .ref 42), (1, .int v1)] [] u Q := by
  refine s_iloadn 0 13 rfl rfl ?_
  refine s_const 4 0 14 rfl k_ic_4 ?_
  refine s_icmp_ge 0 15 58 rfl (by decide) H (fun _ H => ?_) (fun _ H => ?_)
  · exact k_via (he _ _ (k_sat_some H)) ⟨rfl, trivial⟩
  · refine s_aloadn 1 0 rfl rfl ?_
    refine s_getr 1 1 rfl k_fl113 rfl rfl rfl rfl ?_
    refine s_iloadn 1 2 rfl rfl ?_
    refine s_aloadn 1 3 rfl rfl ?_
    refine s_getr 1 4 rfl k_fl90 rfl rfl rfl rfl ?_
    refine s_iloadn 1 5 rfl rfl ?_
    refine s_iald 1 6 rfl rfl H (fun _ H => ?_)
    refine s_iast 1 7 rfl rfl H (fun u4 H => ?_)
    refine s_aloadn 1 8 rfl rfl ?_
    refine s_getr 1 9 rfl k_fl114 rfl rfl rfl rfl ?_
    refine s_iloadn 1 10 rfl rfl ?_
    refine s_aloadn 1 11 rfl rfl ?_
    refine s_getr 1 12 rfl k_fl91 rfl rfl rfl rfl ?_
    refine s_iloadn 1 13 rfl rfl ?_
    refine s_iald 1 14 rfl rfl H (fun _ H => ?_)
    refine s_iast 1 15 rfl rfl H (fun u5 H => ?_)
    refine s_iinc 2 0 rfl rfl rfl ?_
    refine s_goto 2 1 23 rfl (by decide) ?_
    exact k_via (hb _ _ (k_sat_some H)) ⟨rfl, rfl, trivial⟩
set_option maxRecDepth 100000 in
theorem l_R_image_B23 (g : k_G)   {Q : Option Value → k_S → Prop} {K : Unit → k_S → Prop} (he : ∀ (y : Unit) (u' : k_S), K (y) u' → k_W g 1 MX12_image 58 [(0, .ref 42)] [] u' Q) : ∀ (n : Nat) (x : (Int32)) (u : k_S), k_sat (k_itr (fun (x : (Int32)) u => f_R_image_B23  x u) n x u) K → k_W g 1 MX12_image 23 [(0, .ref 42), (1, .int x)] [] u Q :=
  k_loop (P := fun (x : (Int32)) u => k_W g 1 MX12_image 23 [(0, .ref 42), (1, .int x)] [] u Q) (fun (x : (Int32)) u H => t_R_image_B23 g  x  (fun x u' h => h) (fun y u' h => he y u' h) H)
set_option maxRecDepth 100000 in
theorem c_R_image (g : k_G)   {u : k_S} {QQ : Int32 → k_S → Prop} (H : k_sat (f_R_image   u) QQ) : k_OK g 1 MX12_image [.ref 42] u (k_qi QQ) := by
  have hr : ∀ (r : Int32) (u' : k_S), QQ (r) u' → (k_qi QQ) (some (.int r)) u' := fun r u' h => ⟨_, rfl, h⟩
  refine k_OK.ofW pfX12_image (k_tab_of MX12_image_dec) rfl ?_
  refine s_aloadn 0 0 rfl rfl ?_
  refine s_const 1 0 1 rfl k_ic_1 ?_
  refine s_puti 4240 0 2 rfl k_fl134 rfl rfl rfl rfl rfl rfl rfl rfl rfl H (fun u1 H => ?_)
  refine s_aloadn 0 3 rfl rfl ?_
  refine s_aloadn 0 4 rfl rfl ?_
  refine s_geti 4203 0 5 rfl k_fl122 rfl rfl rfl rfl rfl ?_
  refine s_puti 4241 0 6 rfl k_fl135 rfl rfl rfl rfl rfl rfl rfl rfl rfl H (fun u2 H => ?_)
  refine s_aloadn 0 7 rfl rfl ?_
  refine s_aloadn 0 8 rfl rfl ?_
  refine s_geti 4209 0 9 rfl k_fl128 rfl rfl rfl rfl rfl ?_
  refine s_puti 4242 0 10 rfl k_fl136 rfl rfl rfl rfl rfl rfl rfl rfl rfl H (fun u3 H => ?_)
  refine s_const 0 0 11 rfl k_ic_0 ?_
  refine s_istoren 0 12 rfl rfl ?_
  refine k_via (l_R_image_B23 g   ?_ _ _ _ (k_sat_bind H)) ⟨rfl, rfl, trivial⟩
  · intro y7 u6 H
    refine s_aloadn 2 2 rfl rfl ?_
    refine s_geti 4209 2 3 rfl k_fl128 rfl rfl rfl rfl rfl ?_
    exact s_iret 2 4 rfl rfl (hr _ _ (k_sat_some H))
set_option maxRecDepth 100000 in
theorem c_Picture_placeOf (g : k_G)  (p1 : Int32) {u : k_S} {QQ : Int32 → k_S → Prop} (H : k_sat (f_Picture_placeOf  p1 u) QQ) : k_OK g 1 MX5_placeOf [.ref 27, .int p1] u (k_qi QQ) := by
  have hr : ∀ (r : Int32) (u' : k_S), QQ (r) u' → (k_qi QQ) (some (.int r)) u' := fun r u' h => ⟨_, rfl, h⟩
  refine k_OK.ofW pfX5_placeOf (k_tab_of MX5_placeOf_dec) rfl ?_
  refine s_iloadn 0 0 rfl rfl ?_
  refine s_if_lt 0 1 22 rfl (by decide) H (fun _ H => ?_) (fun _ H => ?_)
  · refine s_const 0 0 12 rfl k_ic_0 ?_
    exact s_iret 0 13 rfl rfl (hr _ _ (k_sat_some H))
  · refine s_iloadn 0 2 rfl rfl ?_
    refine s_aloadn 0 3 rfl rfl ?_
    refine s_getr 0 4 rfl k_fl61 rfl rfl rfl rfl ?_
    refine s_alen 4 0 5 rfl rfl k_ln_4 ?_
    refine s_icmp_ge 0 6 22 rfl (by decide) H (fun _ H => ?_) (fun _ H => ?_)
    · refine s_const 0 0 12 rfl k_ic_0 ?_
      exact s_iret 0 13 rfl rfl (hr _ _ (k_sat_some H))
    · refine s_aloadn 0 7 rfl rfl ?_
      refine s_getr 0 8 rfl k_fl61 rfl rfl rfl rfl ?_
      refine s_iloadn 0 9 rfl rfl ?_
      refine s_iald 0 10 rfl rfl H (fun _ H => ?_)
      refine s_goto 0 11 23 rfl (by decide) ?_
      exact s_iret 0 13 rfl rfl (hr _ _ (k_sat_some H))
set_option maxRecDepth 100000 in
theorem c_Picture_waitsOf (g : k_G)  (p1 : Int32) {u : k_S} {QQ : Int32 → k_S → Prop} (H : k_sat (f_Picture_waitsOf  p1 u) QQ) : k_OK g 1 MX5_waitsOf [.ref 27, .int p1] u (k_qi QQ) := by
  have hr : ∀ (r : Int32) (u' : k_S), QQ (r) u' → (k_qi QQ) (some (.int r)) u' := fun r u' h => ⟨_, rfl, h⟩
  refine k_OK.ofW pfX5_waitsOf (k_tab_of MX5_waitsOf_dec) rfl ?_
  refine s_iloadn 0 0 rfl rfl ?_
  refine s_if_lt 0 1 22 rfl (by decide) H (fun _ H => ?_) (fun _ H => ?_)
  · refine s_const 0 0 12 rfl k_ic_0 ?_
    exact s_iret 0 13 rfl rfl (hr _ _ (k_sat_some H))
  · refine s_iloadn 0 2 rfl rfl ?_
    refine s_aloadn 0 3 rfl rfl ?_
    refine s_getr 0 4 rfl k_fl62 rfl rfl rfl rfl ?_
    refine s_alen 4 0 5 rfl rfl k_ln_4 ?_
    refine s_icmp_ge 0 6 22 rfl (by decide) H (fun _ H => ?_) (fun _ H => ?_)
    · refine s_const 0 0 12 rfl k_ic_0 ?_
      exact s_iret 0 13 rfl rfl (hr _ _ (k_sat_some H))
    · refine s_aloadn 0 7 rfl rfl ?_
      refine s_getr 0 8 rfl k_fl62 rfl rfl rfl rfl ?_
      refine s_iloadn 0 9 rfl rfl ?_
      refine s_iald 0 10 rfl rfl H (fun _ H => ?_)
      refine s_goto 0 11 23 rfl (by decide) ?_
      exact s_iret 0 13 rfl rfl (hr _ _ (k_sat_some H))
set_option maxRecDepth 100000 in
theorem t_Now_become_Picture_B10 (g : k_G)  (v2 : Int32) (v3 : Int32)  {u : k_S} {QQ : ((Int32) ⊕ Unit) → k_S → Prop} {Q : Option Value → k_S → Prop} (hb : ∀ (x : (Int32)) (u' : k_S), QQ (.inl x) u' → k_W g 2 MX5_become 10 [(0, .ref 14), (1, .ref 27), (2, .int v2), (3, .int x)] [] u' Q) (he : ∀ (y : Unit) (u' : k_S), QQ (.inr y) u' → k_W g 2 MX5_become 45 [] [] u' Q) (H : k_sat (f_Now_become_Picture_B10  v2 v3 u) QQ) : k_W g 2 MX5_become 10 [(0, .ref 14), (1, .ref 27), (2, .int v2), (3, .int v3)] [] u Q := by
  refine s_iloadn 0 6 rfl rfl ?_
  refine s_iloadn 0 7 rfl rfl ?_
  refine s_icmp_ge 0 8 45 rfl (by decide) H (fun _ H => ?_) (fun _ H => ?_)
  · exact k_via (he _ _ (k_sat_some H)) trivial
  · refine s_iloadn 0 9 rfl rfl ?_
    refine s_aloadn 0 10 rfl rfl ?_
    refine s_getr 0 11 rfl k_fl61 rfl rfl rfl rfl ?_
    refine s_alen 4 0 12 rfl rfl k_ln_4 ?_
    refine s_icmp_ge 0 13 45 rfl (by decide) H (fun _ H => ?_) (fun _ H => ?_)
    · exact k_via (he _ _ (k_sat_some H)) trivial
    · refine s_aloadn 0 14 rfl rfl ?_
      refine s_iloadn 0 15 rfl rfl ?_
      refine s_aloadn 1 0 rfl rfl ?_
      refine s_iloadn 1 1 rfl rfl ?_
      refine s_cvi1 (M' := MX5_placeOf) 1 2 rfl k_ml115 vvX5_placeOf rfl rfl (Nat.le_of_ble_eq_true rfl) rfl (c_Picture_placeOf g _ (k_sat_bind H)) (fun r3 u2 H => ?_)
      refine s_aloadn 1 3 rfl rfl ?_
      refine s_iloadn 1 4 rfl rfl ?_
      refine s_cvi1 (M' := MX5_waitsOf) 1 5 rfl k_ml116 vvX5_waitsOf rfl rfl (Nat.le_of_ble_eq_true rfl) rfl (c_Picture_waitsOf g _ (k_sat_bind H)) (fun r5 u4 H => ?_)
      refine s_cvv3 (M' := MX5_stand) 1 6 rfl k_ml117 vvX5_stand rfl rfl (Nat.le_of_ble_eq_true rfl) rfl (c_Now_stand g _ _ _ (k_sat_bind H)) (fun _ u6 H => ?_)
      refine s_iinc 1 7 rfl rfl rfl ?_
      refine s_goto 1 8 10 rfl (by decide) ?_
      exact k_via (hb _ _ (k_sat_some H)) ⟨rfl, rfl, rfl, rfl, trivial⟩
set_option maxRecDepth 100000 in
theorem l_Now_become_Picture_B10 (g : k_G)  (v2 : Int32) {Q : Option Value → k_S → Prop} {K : Unit → k_S → Prop} (he : ∀ (y : Unit) (u' : k_S), K (y) u' → k_W g 2 MX5_become 45 [] [] u' Q) : ∀ (n : Nat) (x : (Int32)) (u : k_S), k_sat (k_itr (fun (x : (Int32)) u => f_Now_become_Picture_B10  v2 x u) n x u) K → k_W g 2 MX5_become 10 [(0, .ref 14), (1, .ref 27), (2, .int v2), (3, .int x)] [] u Q :=
  k_loop (P := fun (x : (Int32)) u => k_W g 2 MX5_become 10 [(0, .ref 14), (1, .ref 27), (2, .int v2), (3, .int x)] [] u Q) (fun (x : (Int32)) u H => t_Now_become_Picture_B10 g  v2 x  (fun x u' h => h) (fun y u' h => he y u' h) H)
set_option maxRecDepth 100000 in
theorem c_Now_become_Picture (g : k_G)  (p2 : Int32) {u : k_S} {QQ : Unit → k_S → Prop} (H : k_sat (f_Now_become_Picture  p2 u) QQ) : k_OK g 2 MX5_become [.ref 14, .ref 27, .int p2] u (k_qv QQ) := by
  have hr : ∀ (r : Unit) (u' : k_S), QQ (r) u' → (k_qv QQ) (none) u' := fun r u' h => ⟨rfl, h⟩
  refine k_OK.ofW pfX5_become (k_tab_of MX5_become_dec) rfl ?_
  refine s_aloadn 0 0 rfl rfl ?_
  refine s_aloadn 0 1 rfl rfl ?_
  refine s_geti 2702 0 2 rfl k_fl63 rfl rfl rfl rfl rfl ?_
  refine s_puti 1402 0 3 rfl k_fl63 rfl rfl rfl rfl rfl rfl rfl rfl rfl H (fun u1 H => ?_)
  refine s_const 0 0 4 rfl k_ic_0 ?_
  refine s_istoren 0 5 rfl rfl ?_
  refine k_via (l_Now_become_Picture_B10 g  p2 ?_ _ _ _ (k_sat_bind H)) ⟨rfl, rfl, rfl, rfl, trivial⟩
  · intro y8 u7 H
    exact s_ret 1 9 rfl rfl (hr _ _ (k_sat_some H))
set_option maxRecDepth 100000 in
theorem c_W_back (g : k_G)   {u : k_S} {QQ : Int32 → k_S → Prop} (H : k_sat (f_W_back   u) QQ) : k_OK g 3 MX11_back [.ref 0] u (k_qi QQ) := by
  have hr : ∀ (r : Int32) (u' : k_S), QQ (r) u' → (k_qi QQ) (some (.int r)) u' := fun r u' h => ⟨_, rfl, h⟩
  refine k_OK.ofW pfX11_back (k_tab_of MX11_back_dec) rfl ?_
  refine s_aloadn 0 0 rfl rfl ?_
  refine s_geti 10 0 1 rfl k_fl10 rfl rfl rfl rfl rfl ?_
  refine s_const (-1) 0 2 rfl k_ic_m1 ?_
  refine s_icmp_ne 0 3 11 rfl (by decide) H (fun _ H => ?_) (fun _ H => ?_)
  · refine s_aloadn 0 6 rfl rfl ?_
    refine s_getr 0 7 rfl k_fl3 rfl rfl rfl rfl ?_
    refine s_getr 0 8 rfl k_fl15 rfl rfl rfl rfl ?_
    refine s_aloadn 0 9 rfl rfl ?_
    refine s_getr 0 10 rfl k_fl6 rfl rfl rfl rfl ?_
    refine s_aloadn 0 11 rfl rfl ?_
    refine s_geti 10 0 12 rfl k_fl10 rfl rfl rfl rfl rfl ?_
    refine s_cvv2 (M' := MX5_become) 0 13 rfl k_ml49 vvX5_become rfl rfl (Nat.le_of_ble_eq_true rfl) rfl (c_Now_become_Picture g _ (k_sat_bind H)) (fun _ u1 H => ?_)
    refine s_aloadn 0 14 rfl rfl ?_
    refine s_getr 0 15 rfl k_fl3 rfl rfl rfl rfl ?_
    refine s_getr 1 0 rfl k_fl15 rfl rfl rfl rfl ?_
    refine s_geti 1402 1 1 rfl k_fl16 rfl rfl rfl rfl rfl ?_
    exact s_iret 1 2 rfl rfl (hr _ _ (k_sat_some H))
  · refine s_bipush (-5) 0 4 rfl k_ib_m5 ?_
    exact s_iret 0 5 rfl rfl (hr _ _ (k_sat_some H))
set_option maxRecDepth 100000 in
theorem t_R_back_B20 (g : k_G)  (v1 : Int32)  {u : k_S} {QQ : ((Int32) ⊕ Unit) → k_S → Prop} {Q : Option Value → k_S → Prop} (hb : ∀ (x : (Int32)) (u' : k_S), QQ (.inl x) u' → k_W g 1 MX12_back 20 [(0, .ref 42), (1, .int x)] [] u' Q) (he : ∀ (y : Unit) (u' : k_S), QQ (.inr y) u' → k_W g 1 MX12_back 58 [(0, .ref 42)] [] u' Q) (H : k_sat (f_R_back_B20  v1 u) QQ) : k_W g 1 MX12_back 20 [(0, .ref 42), (1, .int v1)] [] u Q := by
  refine s_iloadn 0 11 rfl rfl ?_
  refine s_aloadn 0 12 rfl rfl ?_
  refine s_geti 4241 0 13 rfl k_fl135 rfl rfl rfl rfl rfl ?_
  refine s_icmp_ge 0 14 58 rfl (by decide) H (fun _ H => ?_) (fun _ H => ?_)
  · exact k_via (he _ _ (k_sat_some H)) ⟨rfl, trivial⟩
  · refine s_aloadn 0 15 rfl rfl ?_
    refine s_getr 1 0 rfl k_fl90 rfl rfl rfl rfl ?_
    refine s_iloadn 1 1 rfl rfl ?_
    refine s_aloadn 1 2 rfl rfl ?_
    refine s_getr 1 3 rfl k_fl113 rfl rfl rfl rfl ?_
    refine s_iloadn 1 4 rfl rfl ?_
    refine s_iald 1 5 rfl rfl H (fun _ H => ?_)
    refine s_iast 1 6 rfl rfl H (fun u2 H => ?_)
    refine s_aloadn 1 7 rfl rfl ?_
    refine s_getr 1 8 rfl k_fl91 rfl rfl rfl rfl ?_
    refine s_iloadn 1 9 rfl rfl ?_
    refine s_aloadn 1 10 rfl rfl ?_
    refine s_getr 1 11 rfl k_fl114 rfl rfl rfl rfl ?_
    refine s_iloadn 1 12 rfl rfl ?_
    refine s_iald 1 13 rfl rfl H (fun _ H => ?_)
    refine s_iast 1 14 rfl rfl H (fun u3 H => ?_)
    refine s_iinc 1 15 rfl rfl rfl ?_
    refine s_goto 2 0 20 rfl (by decide) ?_
    exact k_via (hb _ _ (k_sat_some H)) ⟨rfl, rfl, trivial⟩
set_option maxRecDepth 100000 in
theorem l_R_back_B20 (g : k_G)   {Q : Option Value → k_S → Prop} {K : Unit → k_S → Prop} (he : ∀ (y : Unit) (u' : k_S), K (y) u' → k_W g 1 MX12_back 58 [(0, .ref 42)] [] u' Q) : ∀ (n : Nat) (x : (Int32)) (u : k_S), k_sat (k_itr (fun (x : (Int32)) u => f_R_back_B20  x u) n x u) K → k_W g 1 MX12_back 20 [(0, .ref 42), (1, .int x)] [] u Q :=
  k_loop (P := fun (x : (Int32)) u => k_W g 1 MX12_back 20 [(0, .ref 42), (1, .int x)] [] u Q) (fun (x : (Int32)) u H => t_R_back_B20 g  x  (fun x u' h => h) (fun y u' h => he y u' h) H)
set_option maxRecDepth 100000 in
theorem c_R_back (g : k_G)   {u : k_S} {QQ : Int32 → k_S → Prop} (H : k_sat (f_R_back   u) QQ) : k_OK g 1 MX12_back [.ref 42] u (k_qi QQ) := by
  have hr : ∀ (r : Int32) (u' : k_S), QQ (r) u' → (k_qi QQ) (some (.int r)) u' := fun r u' h => ⟨_, rfl, h⟩
  refine k_OK.ofW pfX12_back (k_tab_of MX12_back_dec) rfl ?_
  refine s_aloadn 0 0 rfl rfl ?_
  refine s_geti 4240 0 1 rfl k_fl134 rfl rfl rfl rfl rfl ?_
  refine s_if_ne 0 2 10 rfl (by decide) H (fun _ H => ?_) (fun _ H => ?_)
  · refine s_aloadn 0 5 rfl rfl ?_
    refine s_aloadn 0 6 rfl rfl ?_
    refine s_geti 4242 0 7 rfl k_fl136 rfl rfl rfl rfl rfl ?_
    refine s_puti 4209 0 8 rfl k_fl128 rfl rfl rfl rfl rfl rfl rfl rfl rfl H (fun u1 H => ?_)
    refine s_const 0 0 9 rfl k_ic_0 ?_
    refine s_istoren 0 10 rfl rfl ?_
    refine k_via (l_R_back_B20 g   ?_ _ _ _ (k_sat_bind H)) ⟨rfl, rfl, trivial⟩
    · intro y5 u4 H
      refine s_aloadn 2 1 rfl rfl ?_
      refine s_geti 4209 2 2 rfl k_fl128 rfl rfl rfl rfl rfl ?_
      exact s_iret 2 3 rfl rfl (hr _ _ (k_sat_some H))
  · refine s_bipush (-5) 0 3 rfl k_ib_m5 ?_
    exact s_iret 0 4 rfl rfl (hr _ _ (k_sat_some H))
set_option maxRecDepth 100000 in
theorem c_W_apply (g : k_G)  (p1 : Int32) (p2 : Int32) {u : k_S} {QQ : Unit → k_S → Prop} (H : k_sat (f_W_apply  p1 p2 u) QQ) : k_OK g 2 MX11_apply [.ref 0, .int p1, .int p2] u (k_qv QQ) := by
  have hr : ∀ (r : Unit) (u' : k_S), QQ (r) u' → (k_qv QQ) (none) u' := fun r u' h => ⟨rfl, h⟩
  refine k_OK.ofW pfX11_apply (k_tab_of MX11_apply_dec) rfl ?_
  refine s_aloadn 0 0 rfl rfl ?_
  refine s_getr 0 1 rfl k_fl7 rfl rfl rfl rfl ?_
  refine s_iloadn 0 2 rfl rfl ?_
  refine s_cvi1 (M' := MX1_wheelAt) 0 3 rfl k_ml66 vvX1_wheelAt rfl rfl (Nat.le_of_ble_eq_true rfl) rfl (c_Changes_wheelAt g _ (k_sat_bind H)) (fun r2 u1 H => ?_)
  refine s_istoren 0 4 rfl rfl ?_
  refine s_aloadn 0 5 rfl rfl ?_
  refine s_getr 0 6 rfl k_fl7 rfl rfl rfl rfl ?_
  refine s_iloadn 0 7 rfl rfl ?_
  refine s_cvi1 (M' := MX1_placeAt) 0 8 rfl k_ml67 vvX1_placeAt rfl rfl (Nat.le_of_ble_eq_true rfl) rfl (c_Changes_placeAt g _ (k_sat_bind H)) (fun r4 u3 H => ?_)
  refine s_istore 0 9 rfl rfl ?_
  refine s_iload 0 10 rfl rfl ?_
  refine s_const (-1) 0 11 rfl k_ic_m1 ?_
  refine s_icmp_ne 0 12 37 rfl (by decide) H (fun _ H => ?_) (fun _ H => ?_)
  · refine s_aloadn 1 3 rfl rfl ?_
    refine s_getr 1 4 rfl k_fl1 rfl rfl rfl rfl ?_
    refine s_iloadn 1 5 rfl rfl ?_
    refine s_iload 1 6 rfl rfl ?_
    refine s_iloadn 1 7 rfl rfl ?_
    refine s_cvv3 (M' := MX10_setLetter) 1 8 rfl k_ml21 vvX10_setLetter rfl rfl (Nat.le_of_ble_eq_true rfl) rfl (c_Wheels_setLetter g _ _ _ (k_sat_bind H)) (fun _ u5 H => ?_)
    exact s_ret 1 9 rfl rfl (hr _ _ (k_sat_some H))
  · refine s_aloadn 0 13 rfl rfl ?_
    refine s_getr 0 14 rfl k_fl1 rfl rfl rfl rfl ?_
    refine s_iloadn 0 15 rfl rfl ?_
    refine s_iloadn 1 0 rfl rfl ?_
    refine s_cvv2 (M' := MX10_setBreak) 1 1 rfl k_ml16 vvX10_setBreak rfl rfl (Nat.le_of_ble_eq_true rfl) rfl (c_Wheels_setBreak g _ _ (k_sat_bind H)) (fun _ u6 H => ?_)
    refine s_goto 1 2 48 rfl (by decide) ?_
    exact s_ret 1 9 rfl rfl (hr _ _ (k_sat_some H))
set_option maxRecDepth 100000 in
theorem c_W_undo (g : k_G)   {u : k_S} {QQ : Int32 → k_S → Prop} (H : k_sat (f_W_undo   u) QQ) : k_OK g 3 MX11_undo [.ref 0] u (k_qi QQ) := by
  have hr : ∀ (r : Int32) (u' : k_S), QQ (r) u' → (k_qi QQ) (some (.int r)) u' := fun r u' h => ⟨_, rfl, h⟩
  refine k_OK.ofW pfX11_undo (k_tab_of MX11_undo_dec) rfl ?_
  refine s_aloadn 0 0 rfl rfl ?_
  refine s_getr 0 1 rfl k_fl7 rfl rfl rfl rfl ?_
  refine s_geti 3004 0 2 rfl k_fl22 rfl rfl rfl rfl rfl ?_
  refine s_if_ne 0 3 13 rfl (by decide) H (fun _ H => ?_) (fun _ H => ?_)
  · refine s_aloadn 0 6 rfl rfl ?_
    refine s_getr 0 7 rfl k_fl7 rfl rfl rfl rfl ?_
    refine s_dupr 0 8 rfl ?_
    refine s_geti 3004 0 9 rfl k_fl22 rfl rfl rfl rfl rfl ?_
    refine s_const 1 0 10 rfl k_ic_1 ?_
    refine s_isub 0 11 rfl ?_
    refine s_puti 3004 0 12 rfl k_fl22 rfl rfl rfl rfl rfl rfl rfl rfl rfl H (fun u1 H => ?_)
    refine s_aloadn 0 13 rfl rfl ?_
    refine s_aloadn 0 14 rfl rfl ?_
    refine s_getr 0 15 rfl k_fl7 rfl rfl rfl rfl ?_
    refine s_geti 3004 1 0 rfl k_fl22 rfl rfl rfl rfl rfl ?_
    refine s_aloadn 1 1 rfl rfl ?_
    refine s_getr 1 2 rfl k_fl7 rfl rfl rfl rfl ?_
    refine s_aloadn 1 3 rfl rfl ?_
    refine s_getr 1 4 rfl k_fl7 rfl rfl rfl rfl ?_
    refine s_geti 3004 1 5 rfl k_fl22 rfl rfl rfl rfl rfl ?_
    refine s_cvi1 (M' := MX1_beforeAt) 1 6 rfl k_ml50 vvX1_beforeAt rfl rfl (Nat.le_of_ble_eq_true rfl) rfl (c_Changes_beforeAt g _ (k_sat_bind H)) (fun r3 u2 H => ?_)
    refine s_cvv2 (M' := MX11_apply) 1 7 rfl k_ml51 vvX11_apply rfl rfl (Nat.le_of_ble_eq_true rfl) rfl (c_W_apply g _ _ (k_sat_bind H)) (fun _ u4 H => ?_)
    refine s_aloadn 1 8 rfl rfl ?_
    refine s_getr 1 9 rfl k_fl7 rfl rfl rfl rfl ?_
    refine s_geti 3004 1 10 rfl k_fl22 rfl rfl rfl rfl rfl ?_
    exact s_iret 1 11 rfl rfl (hr _ _ (k_sat_some H))
  · refine s_bipush (-5) 0 4 rfl k_ib_m5 ?_
    exact s_iret 0 5 rfl rfl (hr _ _ (k_sat_some H))
set_option maxRecDepth 100000 in
theorem c_R_undo (g : k_G)   {u : k_S} {QQ : Int32 → k_S → Prop} (H : k_sat (f_R_undo   u) QQ) : k_OK g 2 MX12_undo [.ref 42] u (k_qi QQ) := by
  have hr : ∀ (r : Int32) (u' : k_S), QQ (r) u' → (k_qi QQ) (some (.int r)) u' := fun r u' h => ⟨_, rfl, h⟩
  refine k_OK.ofW pfX12_undo (k_tab_of MX12_undo_dec) rfl ?_
  refine s_aloadn 0 0 rfl rfl ?_
  refine s_geti 4224 0 1 rfl k_fl131 rfl rfl rfl rfl rfl ?_
  refine s_if_ne 0 2 10 rfl (by decide) H (fun _ H => ?_) (fun _ H => ?_)
  · refine s_aloadn 0 5 rfl rfl ?_
    refine s_dupr 0 6 rfl ?_
    refine s_geti 4224 0 7 rfl k_fl131 rfl rfl rfl rfl rfl ?_
    refine s_const 1 0 8 rfl k_ic_1 ?_
    refine s_isub 0 9 rfl ?_
    refine s_puti 4224 0 10 rfl k_fl131 rfl rfl rfl rfl rfl rfl rfl rfl rfl H (fun u1 H => ?_)
    refine s_aloadn 0 11 rfl rfl ?_
    refine s_dupr 0 12 rfl ?_
    refine s_geti 4225 0 13 rfl k_fl130 rfl rfl rfl rfl rfl ?_
    refine s_const 1 0 14 rfl k_ic_1 ?_
    refine s_iadd 0 15 rfl ?_
    refine s_puti 4225 1 0 rfl k_fl130 rfl rfl rfl rfl rfl rfl rfl rfl rfl H (fun u2 H => ?_)
    refine s_aloadn 1 1 rfl rfl ?_
    refine s_aloadn 1 2 rfl rfl ?_
    refine s_getr 1 3 rfl k_fl101 rfl rfl rfl rfl ?_
    refine s_aloadn 1 4 rfl rfl ?_
    refine s_geti 4224 1 5 rfl k_fl131 rfl rfl rfl rfl rfl ?_
    refine s_iald 1 6 rfl rfl H (fun _ H => ?_)
    refine s_aloadn 1 7 rfl rfl ?_
    refine s_getr 1 8 rfl k_fl102 rfl rfl rfl rfl ?_
    refine s_aloadn 1 9 rfl rfl ?_
    refine s_geti 4224 1 10 rfl k_fl131 rfl rfl rfl rfl rfl ?_
    refine s_iald 1 11 rfl rfl H (fun _ H => ?_)
    refine s_aloadn 1 12 rfl rfl ?_
    refine s_getr 1 13 rfl k_fl103 rfl rfl rfl rfl ?_
    refine s_aloadn 1 14 rfl rfl ?_
    refine s_geti 4224 1 15 rfl k_fl131 rfl rfl rfl rfl rfl ?_
    refine s_iald 2 0 rfl rfl H (fun _ H => ?_)
    refine s_cvv3 (M' := MX12_lays) 2 1 rfl k_ml250 vvX12_lays rfl rfl (Nat.le_of_ble_eq_true rfl) rfl (c_R_lays g _ _ _ (k_sat_bind H)) (fun _ u3 H => ?_)
    refine s_aloadn 2 2 rfl rfl ?_
    refine s_geti 4224 2 3 rfl k_fl131 rfl rfl rfl rfl rfl ?_
    exact s_iret 2 4 rfl rfl (hr _ _ (k_sat_some H))
  · refine s_bipush (-5) 0 3 rfl k_ib_m5 ?_
    exact s_iret 0 4 rfl rfl (hr _ _ (k_sat_some H))
set_option maxRecDepth 100000 in
theorem c_W_redo (g : k_G)   {u : k_S} {QQ : Int32 → k_S → Prop} (H : k_sat (f_W_redo   u) QQ) : k_OK g 3 MX11_redo [.ref 0] u (k_qi QQ) := by
  have hr : ∀ (r : Int32) (u' : k_S), QQ (r) u' → (k_qi QQ) (some (.int r)) u' := fun r u' h => ⟨_, rfl, h⟩
  refine k_OK.ofW pfX11_redo (k_tab_of MX11_redo_dec) rfl ?_
  refine s_aloadn 0 0 rfl rfl ?_
  refine s_getr 0 1 rfl k_fl7 rfl rfl rfl rfl ?_
  refine s_geti 3004 0 2 rfl k_fl22 rfl rfl rfl rfl rfl ?_
  refine s_aloadn 0 3 rfl rfl ?_
  refine s_getr 0 4 rfl k_fl7 rfl rfl rfl rfl ?_
  refine s_geti 3005 0 5 rfl k_fl23 rfl rfl rfl rfl rfl ?_
  refine s_icmp_lt 0 6 20 rfl (by decide) H (fun _ H => ?_) (fun _ H => ?_)
  · refine s_aloadn 0 9 rfl rfl ?_
    refine s_aloadn 0 10 rfl rfl ?_
    refine s_getr 0 11 rfl k_fl7 rfl rfl rfl rfl ?_
    refine s_geti 3004 0 12 rfl k_fl22 rfl rfl rfl rfl rfl ?_
    refine s_aloadn 0 13 rfl rfl ?_
    refine s_getr 0 14 rfl k_fl7 rfl rfl rfl rfl ?_
    refine s_aloadn 0 15 rfl rfl ?_
    refine s_getr 1 0 rfl k_fl7 rfl rfl rfl rfl ?_
    refine s_geti 3004 1 1 rfl k_fl22 rfl rfl rfl rfl rfl ?_
    refine s_cvi1 (M' := MX1_afterAt) 1 2 rfl k_ml52 vvX1_afterAt rfl rfl (Nat.le_of_ble_eq_true rfl) rfl (c_Changes_afterAt g _ (k_sat_bind H)) (fun r2 u1 H => ?_)
    refine s_cvv2 (M' := MX11_apply) 1 3 rfl k_ml51 vvX11_apply rfl rfl (Nat.le_of_ble_eq_true rfl) rfl (c_W_apply g _ _ (k_sat_bind H)) (fun _ u3 H => ?_)
    refine s_aloadn 1 4 rfl rfl ?_
    refine s_getr 1 5 rfl k_fl7 rfl rfl rfl rfl ?_
    refine s_dupr 1 6 rfl ?_
    refine s_geti 3004 1 7 rfl k_fl22 rfl rfl rfl rfl rfl ?_
    refine s_const 1 1 8 rfl k_ic_1 ?_
    refine s_iadd 1 9 rfl ?_
    refine s_puti 3004 1 10 rfl k_fl22 rfl rfl rfl rfl rfl rfl rfl rfl rfl H (fun u4 H => ?_)
    refine s_aloadn 1 11 rfl rfl ?_
    refine s_getr 1 12 rfl k_fl7 rfl rfl rfl rfl ?_
    refine s_geti 3005 1 13 rfl k_fl23 rfl rfl rfl rfl rfl ?_
    refine s_aloadn 1 14 rfl rfl ?_
    refine s_getr 1 15 rfl k_fl7 rfl rfl rfl rfl ?_
    refine s_geti 3004 2 0 rfl k_fl22 rfl rfl rfl rfl rfl ?_
    refine s_isub 2 1 rfl ?_
    exact s_iret 2 2 rfl rfl (hr _ _ (k_sat_some H))
  · refine s_bipush (-5) 0 7 rfl k_ib_m5 ?_
    exact s_iret 0 8 rfl rfl (hr _ _ (k_sat_some H))
set_option maxRecDepth 100000 in
theorem c_R_redo (g : k_G)   {u : k_S} {QQ : Int32 → k_S → Prop} (H : k_sat (f_R_redo   u) QQ) : k_OK g 2 MX12_redo [.ref 42] u (k_qi QQ) := by
  have hr : ∀ (r : Int32) (u' : k_S), QQ (r) u' → (k_qi QQ) (some (.int r)) u' := fun r u' h => ⟨_, rfl, h⟩
  refine k_OK.ofW pfX12_redo (k_tab_of MX12_redo_dec) rfl ?_
  refine s_aloadn 0 0 rfl rfl ?_
  refine s_geti 4225 0 1 rfl k_fl130 rfl rfl rfl rfl rfl ?_
  refine s_if_ne 0 2 10 rfl (by decide) H (fun _ H => ?_) (fun _ H => ?_)
  · refine s_aloadn 0 5 rfl rfl ?_
    refine s_aloadn 0 6 rfl rfl ?_
    refine s_getr 0 7 rfl k_fl101 rfl rfl rfl rfl ?_
    refine s_aloadn 0 8 rfl rfl ?_
    refine s_geti 4224 0 9 rfl k_fl131 rfl rfl rfl rfl rfl ?_
    refine s_iald 0 10 rfl rfl H (fun _ H => ?_)
    refine s_aloadn 0 11 rfl rfl ?_
    refine s_getr 0 12 rfl k_fl102 rfl rfl rfl rfl ?_
    refine s_aloadn 0 13 rfl rfl ?_
    refine s_geti 4224 0 14 rfl k_fl131 rfl rfl rfl rfl rfl ?_
    refine s_iald 0 15 rfl rfl H (fun _ H => ?_)
    refine s_aloadn 1 0 rfl rfl ?_
    refine s_getr 1 1 rfl k_fl104 rfl rfl rfl rfl ?_
    refine s_aloadn 1 2 rfl rfl ?_
    refine s_geti 4224 1 3 rfl k_fl131 rfl rfl rfl rfl rfl ?_
    refine s_iald 1 4 rfl rfl H (fun _ H => ?_)
    refine s_cvv3 (M' := MX12_lays) 1 5 rfl k_ml250 vvX12_lays rfl rfl (Nat.le_of_ble_eq_true rfl) rfl (c_R_lays g _ _ _ (k_sat_bind H)) (fun _ u1 H => ?_)
    refine s_aloadn 1 6 rfl rfl ?_
    refine s_dupr 1 7 rfl ?_
    refine s_geti 4224 1 8 rfl k_fl131 rfl rfl rfl rfl rfl ?_
    refine s_const 1 1 9 rfl k_ic_1 ?_
    refine s_iadd 1 10 rfl ?_
    refine s_puti 4224 1 11 rfl k_fl131 rfl rfl rfl rfl rfl rfl rfl rfl rfl H (fun u2 H => ?_)
    refine s_aloadn 1 12 rfl rfl ?_
    refine s_dupr 1 13 rfl ?_
    refine s_geti 4225 1 14 rfl k_fl130 rfl rfl rfl rfl rfl ?_
    refine s_const 1 1 15 rfl k_ic_1 ?_
    refine s_isub 2 0 rfl ?_
    refine s_puti 4225 2 1 rfl k_fl130 rfl rfl rfl rfl rfl rfl rfl rfl rfl H (fun u3 H => ?_)
    refine s_aloadn 2 2 rfl rfl ?_
    refine s_geti 4225 2 3 rfl k_fl130 rfl rfl rfl rfl rfl ?_
    exact s_iret 2 4 rfl rfl (hr _ _ (k_sat_some H))
  · refine s_bipush (-5) 0 3 rfl k_ib_m5 ?_
    exact s_iret 0 4 rfl rfl (hr _ _ (k_sat_some H))
set_option maxRecDepth 100000 in
theorem c_Bodies_add (g : k_G)  (p1 : Int32) {u : k_S} {QQ : Int32 → k_S → Prop} (H : k_sat (f_Bodies_add  p1 u) QQ) : k_OK g 1 MX0_add [.ref 35, .int p1] u (k_qi QQ) := by
  have hr : ∀ (r : Int32) (u' : k_S), QQ (r) u' → (k_qi QQ) (some (.int r)) u' := fun r u' h => ⟨_, rfl, h⟩
  refine k_OK.ofW pfX0_add (k_tab_of MX0_add_dec) rfl ?_
  refine s_aloadn 0 0 rfl rfl ?_
  refine s_geti 3502 0 1 rfl k_fl28 rfl rfl rfl rfl rfl ?_
  refine s_if_lt 0 2 19 rfl (by decide) H (fun _ H => ?_) (fun _ H => ?_)
  · refine s_bipush (-3) 0 9 rfl k_ib_m3 ?_
    exact s_iret 0 10 rfl rfl (hr _ _ (k_sat_some H))
  · refine s_aloadn 0 3 rfl rfl ?_
    refine s_geti 3502 0 4 rfl k_fl28 rfl rfl rfl rfl rfl ?_
    refine s_aloadn 0 5 rfl rfl ?_
    refine s_getr 0 6 rfl k_fl26 rfl rfl rfl rfl ?_
    refine s_alen 50 0 7 rfl rfl k_ln_50 ?_
    refine s_icmp_lt 0 8 22 rfl (by decide) H (fun _ H => ?_) (fun _ H => ?_)
    · refine s_aloadn 0 11 rfl rfl ?_
      refine s_getr 0 12 rfl k_fl26 rfl rfl rfl rfl ?_
      refine s_aloadn 0 13 rfl rfl ?_
      refine s_geti 3502 0 14 rfl k_fl28 rfl rfl rfl rfl rfl ?_
      refine s_iloadn 0 15 rfl rfl ?_
      refine s_iast 1 0 rfl rfl H (fun u1 H => ?_)
      refine s_aloadn 1 1 rfl rfl ?_
      refine s_dupr 1 2 rfl ?_
      refine s_geti 3502 1 3 rfl k_fl28 rfl rfl rfl rfl rfl ?_
      refine s_const 1 1 4 rfl k_ic_1 ?_
      refine s_iadd 1 5 rfl ?_
      refine s_puti 3502 1 6 rfl k_fl28 rfl rfl rfl rfl rfl rfl rfl rfl rfl H (fun u2 H => ?_)
      refine s_aloadn 1 7 rfl rfl ?_
      refine s_geti 3502 1 8 rfl k_fl28 rfl rfl rfl rfl rfl ?_
      refine s_const 1 1 9 rfl k_ic_1 ?_
      refine s_isub 1 10 rfl ?_
      exact s_iret 1 11 rfl rfl (hr _ _ (k_sat_some H))
    · refine s_bipush (-3) 0 9 rfl k_ib_m3 ?_
      exact s_iret 0 10 rfl rfl (hr _ _ (k_sat_some H))
set_option maxRecDepth 100000 in
theorem c_W_body (g : k_G)  (p1 : Int32) {u : k_S} {QQ : Int32 → k_S → Prop} (H : k_sat (f_W_body  p1 u) QQ) : k_OK g 2 MX11_body [.ref 0, .int p1] u (k_qi QQ) := by
  have hr : ∀ (r : Int32) (u' : k_S), QQ (r) u' → (k_qi QQ) (some (.int r)) u' := fun r u' h => ⟨_, rfl, h⟩
  refine k_OK.ofW pfX11_body (k_tab_of MX11_body_dec) rfl ?_
  refine s_iloadn 0 0 rfl rfl ?_
  refine s_if_lt 0 1 10 rfl (by decide) H (fun _ H => ?_) (fun _ H => ?_)
  · refine s_const (-1) 0 5 rfl k_ic_m1 ?_
    exact s_iret 0 6 rfl rfl (hr _ _ (k_sat_some H))
  · refine s_iloadn 0 2 rfl rfl ?_
    refine s_bipush 8 0 3 rfl k_ib_8 ?_
    refine s_icmp_lt 0 4 12 rfl (by decide) H (fun _ H => ?_) (fun _ H => ?_)
    · refine s_aloadn 0 7 rfl rfl ?_
      refine s_getr 0 8 rfl k_fl8 rfl rfl rfl rfl ?_
      refine s_geti 3502 0 9 rfl k_fl24 rfl rfl rfl rfl rfl ?_
      refine s_bipush 50 0 10 rfl k_ib_50 ?_
      refine s_icmp_lt 0 11 27 rfl (by decide) H (fun _ H => ?_) (fun _ H => ?_)
      · refine s_aloadn 0 14 rfl rfl ?_
        refine s_getr 0 15 rfl k_fl8 rfl rfl rfl rfl ?_
        refine s_iloadn 1 0 rfl rfl ?_
        refine s_cvi1 (M' := MX0_add) 1 1 rfl k_ml53 vvX0_add rfl rfl (Nat.le_of_ble_eq_true rfl) rfl (c_Bodies_add g _ (k_sat_bind H)) (fun r2 u1 H => ?_)
        exact s_iret 1 2 rfl rfl (hr _ _ (k_sat_some H))
      · refine s_bipush (-3) 0 12 rfl k_ib_m3 ?_
        exact s_iret 0 13 rfl rfl (hr _ _ (k_sat_some H))
    · refine s_const (-1) 0 5 rfl k_ic_m1 ?_
      exact s_iret 0 6 rfl rfl (hr _ _ (k_sat_some H))
set_option maxRecDepth 100000 in
theorem c_R_body (g : k_G)  (p1 : Int32) {u : k_S} {QQ : Int32 → k_S → Prop} (H : k_sat (f_R_body  p1 u) QQ) : k_OK g 2 MX12_body [.ref 42, .int p1] u (k_qi QQ) := by
  have hr : ∀ (r : Int32) (u' : k_S), QQ (r) u' → (k_qi QQ) (some (.int r)) u' := fun r u' h => ⟨_, rfl, h⟩
  refine k_OK.ofW pfX12_body (k_tab_of MX12_body_dec) rfl ?_
  refine s_iloadn 0 0 rfl rfl ?_
  refine s_const 0 0 1 rfl k_ic_0 ?_
  refine s_bipush 7 0 2 rfl k_ib_7 ?_
  refine s_csi3 (M' := MX12_in) 0 3 rfl k_ml230 vvX12_in (Nat.le_of_ble_eq_true rfl) rfl (c_R_in g _ _ _ (k_sat_bind H)) (fun r2 u1 H => ?_)
  refine s_if_ne 0 4 12 rfl (by decide) H (fun _ H => ?_) (fun _ H => ?_)
  · refine s_aloadn 0 7 rfl rfl ?_
    refine s_geti 4245 0 8 rfl k_fl137 rfl rfl rfl rfl rfl ?_
    refine s_bipush 50 0 9 rfl k_ib_50 ?_
    refine s_icmp_ne 0 10 24 rfl (by decide) H (fun _ H => ?_) (fun _ H => ?_)
    · refine s_aloadn 0 13 rfl rfl ?_
      refine s_getr 0 14 rfl k_fl115 rfl rfl rfl rfl ?_
      refine s_aloadn 0 15 rfl rfl ?_
      refine s_geti 4245 1 0 rfl k_fl137 rfl rfl rfl rfl rfl ?_
      refine s_iloadn 1 1 rfl rfl ?_
      refine s_iast 1 2 rfl rfl H (fun u3 H => ?_)
      refine s_aloadn 1 3 rfl rfl ?_
      refine s_dupr 1 4 rfl ?_
      refine s_geti 4245 1 5 rfl k_fl137 rfl rfl rfl rfl rfl ?_
      refine s_const 1 1 6 rfl k_ic_1 ?_
      refine s_iadd 1 7 rfl ?_
      refine s_puti 4245 1 8 rfl k_fl137 rfl rfl rfl rfl rfl rfl rfl rfl rfl H (fun u4 H => ?_)
      refine s_aloadn 1 9 rfl rfl ?_
      refine s_geti 4245 1 10 rfl k_fl137 rfl rfl rfl rfl rfl ?_
      refine s_const 1 1 11 rfl k_ic_1 ?_
      refine s_isub 1 12 rfl ?_
      exact s_iret 1 13 rfl rfl (hr _ _ (k_sat_some H))
    · refine s_bipush (-3) 0 11 rfl k_ib_m3 ?_
      exact s_iret 0 12 rfl rfl (hr _ _ (k_sat_some H))
  · refine s_const (-1) 0 5 rfl k_ic_m1 ?_
    exact s_iret 0 6 rfl rfl (hr _ _ (k_sat_some H))
set_option maxRecDepth 100000 in
theorem c_Bodies_forgetTrace (g : k_G)   {u : k_S} {QQ : Unit → k_S → Prop} (H : k_sat (f_Bodies_forgetTrace   u) QQ) : k_OK g 1 MX0_forgetTrace [.ref 35] u (k_qv QQ) := by
  have hr : ∀ (r : Unit) (u' : k_S), QQ (r) u' → (k_qv QQ) (none) u' := fun r u' h => ⟨rfl, h⟩
  refine k_OK.ofW pfX0_forgetTrace (k_tab_of MX0_forgetTrace_dec) rfl ?_
  refine s_aloadn 0 0 rfl rfl ?_
  refine s_const 0 0 1 rfl k_ic_0 ?_
  refine s_puti 3503 0 2 rfl k_fl29 rfl rfl rfl rfl rfl rfl rfl rfl rfl H (fun u1 H => ?_)
  exact s_ret 0 3 rfl rfl (hr _ _ (k_sat_some H))
set_option maxRecDepth 100000 in
theorem c_Bodies_has (g : k_G)  (p1 : Int32) {u : k_S} {QQ : Int32 → k_S → Prop} (H : k_sat (f_Bodies_has  p1 u) QQ) : k_OK g 1 MX0_has [.ref 35, .int p1] u (k_qi QQ) := by
  have hr : ∀ (r : Int32) (u' : k_S), QQ (r) u' → (k_qi QQ) (some (.int r)) u' := fun r u' h => ⟨_, rfl, h⟩
  refine k_OK.ofW pfX0_has (k_tab_of MX0_has_dec) rfl ?_
  refine s_iloadn 0 0 rfl rfl ?_
  refine s_if_lt 0 1 25 rfl (by decide) H (fun _ H => ?_) (fun _ H => ?_)
  · refine s_const 0 0 13 rfl k_ic_0 ?_
    exact s_zret 0 14 rfl rfl k_z0 (hr _ _ (k_sat_some H))
  · refine s_iloadn 0 2 rfl rfl ?_
    refine s_aloadn 0 3 rfl rfl ?_
    refine s_geti 3502 0 4 rfl k_fl28 rfl rfl rfl rfl rfl ?_
    refine s_icmp_ge 0 5 25 rfl (by decide) H (fun _ H => ?_) (fun _ H => ?_)
    · refine s_const 0 0 13 rfl k_ic_0 ?_
      exact s_zret 0 14 rfl rfl k_z0 (hr _ _ (k_sat_some H))
    · refine s_iloadn 0 6 rfl rfl ?_
      refine s_aloadn 0 7 rfl rfl ?_
      refine s_getr 0 8 rfl k_fl26 rfl rfl rfl rfl ?_
      refine s_alen 50 0 9 rfl rfl k_ln_50 ?_
      refine s_icmp_ge 0 10 25 rfl (by decide) H (fun _ H => ?_) (fun _ H => ?_)
      · refine s_const 0 0 13 rfl k_ic_0 ?_
        exact s_zret 0 14 rfl rfl k_z0 (hr _ _ (k_sat_some H))
      · refine s_const 1 0 11 rfl k_ic_1 ?_
        refine s_goto 0 12 26 rfl (by decide) ?_
        exact s_zret 0 14 rfl rfl k_z1 (hr _ _ (k_sat_some H))
set_option maxRecDepth 100000 in
theorem c_Bodies_kindOf (g : k_G)  (p1 : Int32) {u : k_S} {QQ : Int32 → k_S → Prop} (H : k_sat (f_Bodies_kindOf  p1 u) QQ) : k_OK g 1 MX0_kindOf [.ref 35, .int p1] u (k_qi QQ) := by
  have hr : ∀ (r : Int32) (u' : k_S), QQ (r) u' → (k_qi QQ) (some (.int r)) u' := fun r u' h => ⟨_, rfl, h⟩
  refine k_OK.ofW pfX0_kindOf (k_tab_of MX0_kindOf_dec) rfl ?_
  refine s_iloadn 0 0 rfl rfl ?_
  refine s_if_lt 0 1 22 rfl (by decide) H (fun _ H => ?_) (fun _ H => ?_)
  · refine s_const (-1) 0 12 rfl k_ic_m1 ?_
    exact s_iret 0 13 rfl rfl (hr _ _ (k_sat_some H))
  · refine s_iloadn 0 2 rfl rfl ?_
    refine s_aloadn 0 3 rfl rfl ?_
    refine s_getr 0 4 rfl k_fl26 rfl rfl rfl rfl ?_
    refine s_alen 50 0 5 rfl rfl k_ln_50 ?_
    refine s_icmp_ge 0 6 22 rfl (by decide) H (fun _ H => ?_) (fun _ H => ?_)
    · refine s_const (-1) 0 12 rfl k_ic_m1 ?_
      exact s_iret 0 13 rfl rfl (hr _ _ (k_sat_some H))
    · refine s_aloadn 0 7 rfl rfl ?_
      refine s_getr 0 8 rfl k_fl26 rfl rfl rfl rfl ?_
      refine s_iloadn 0 9 rfl rfl ?_
      refine s_iald 0 10 rfl rfl H (fun _ H => ?_)
      refine s_goto 0 11 23 rfl (by decide) ?_
      exact s_iret 0 13 rfl rfl (hr _ _ (k_sat_some H))
set_option maxRecDepth 100000 in
theorem t_Bodies_bodyFor_J59 (g : k_G)  (v1 : Int32) (v2 : Int32) (v3 : Int32)  {u : k_S} {QQ : ((Int32 × Int32) ⊕ (Int32 ⊕ Unit)) → k_S → Prop} {Q : Option Value → k_S → Prop} (hr : ∀ (r : Int32) (u' : k_S), QQ (.inr (.inl r)) u' → (Q) (some (.int r)) u') (hb : ∀ (x : (Int32 × Int32)) (u' : k_S), QQ (.inl x) u' → k_W g 1 MX0_bodyFor 4 [(1, .int v1), (2, .int x.1), (3, .int x.2)] [] u' Q) (he : ∀ (y : Unit) (u' : k_S), QQ (.inr (.inr y)) u' → k_W g 1 MX0_bodyFor 71 [] [] u' Q) (H : k_sat (f_Bodies_bodyFor_J59  v1 v2 v3 u) QQ) : k_W g 1 MX0_bodyFor 59 [(1, .int v1), (2, .int v2), (3, .int v3)] [] u Q := by
  refine s_gets 2 1 2 rfl rfl (k_in (lw_T3 (List.mem_of_getElem? (i := 107) (by decide +kernel))) rfl) ?_
  refine s_iloadn 2 2 rfl rfl ?_
  refine s_oald 2 3 rfl rfl H (fun _ H => ?_)
  refine k_topi H (fun t2 H => ?_)
  refine s_istoren 2 4 rfl rfl ?_
  refine s_iinc 2 5 rfl rfl rfl ?_
  refine s_goto 2 6 4 rfl (by decide) ?_
  exact k_via (hb _ _ (k_sat_some H)) ⟨rfl, rfl, rfl, trivial⟩
set_option maxRecDepth 100000 in
theorem t_Bodies_bodyFor_B4 (g : k_G)  (v1 : Int32) (v2 : Int32) (v3 : Int32)  {u : k_S} {QQ : ((Int32 × Int32) ⊕ (Int32 ⊕ Unit)) → k_S → Prop} {Q : Option Value → k_S → Prop} (hr : ∀ (r : Int32) (u' : k_S), QQ (.inr (.inl r)) u' → (Q) (some (.int r)) u') (hb : ∀ (x : (Int32 × Int32)) (u' : k_S), QQ (.inl x) u' → k_W g 1 MX0_bodyFor 4 [(1, .int v1), (2, .int x.1), (3, .int x.2)] [] u' Q) (he : ∀ (y : Unit) (u' : k_S), QQ (.inr (.inr y)) u' → k_W g 1 MX0_bodyFor 71 [] [] u' Q) (H : k_sat (f_Bodies_bodyFor_B4  v1 v2 v3 u) QQ) : k_W g 1 MX0_bodyFor 4 [(1, .int v1), (2, .int v2), (3, .int v3)] [] u Q := by
  refine s_iloadn 0 4 rfl rfl ?_
  refine s_bipush 8 0 5 rfl k_ib_8 ?_
  refine s_icmp_ge 0 6 71 rfl (by decide) H (fun _ H => ?_) (fun _ H => ?_)
  · exact k_via (he _ _ (k_sat_some H)) trivial
  · refine s_iloadn 0 7 rfl rfl ?_
    refine s_if_lt 0 8 71 rfl (by decide) H (fun _ H => ?_) (fun _ H => ?_)
    · exact k_via (he _ _ (k_sat_some H)) trivial
    · refine s_iloadn 0 9 rfl rfl ?_
      refine s_gets 0 10 2 rfl rfl (k_in (lw_T3 (List.mem_of_getElem? (i := 107) (by decide +kernel))) rfl) ?_
      refine s_olen 8 0 11 rfl rfl k_ln_8 ?_
      refine s_icmp_ge 0 12 71 rfl (by decide) H (fun _ H => ?_) (fun _ H => ?_)
      · exact k_via (he _ _ (k_sat_some H)) trivial
      · refine s_const 4 0 13 rfl k_ic_4 ?_
        refine s_iloadn 0 14 rfl rfl ?_
        refine s_imul 0 15 rfl ?_
        refine s_iloadn 1 0 rfl rfl ?_
        refine s_iadd 1 1 rfl ?_
        refine k_topi H (fun t1 H => ?_)
        refine s_istore 1 2 rfl rfl ?_
        refine s_iload 1 3 rfl rfl ?_
        refine s_if_lt 1 4 59 rfl (by decide) H (fun _ H => ?_) (fun _ H => ?_)
        · exact k_via (t_Bodies_bodyFor_J59 g  _ _ _  hr hb he H) ⟨rfl, rfl, rfl, trivial⟩
        · refine s_iload 1 5 rfl rfl ?_
          refine s_gets 1 6 3 rfl rfl (k_in (lw_T3 (List.mem_of_getElem? (i := 109) (by decide +kernel))) rfl) ?_
          refine s_olen 32 1 7 rfl rfl k_ln_32 ?_
          refine s_icmp_ge 1 8 59 rfl (by decide) H (fun _ H => ?_) (fun _ H => ?_)
          · exact k_via (t_Bodies_bodyFor_J59 g  _ _ _  hr hb he H) ⟨rfl, rfl, rfl, trivial⟩
          · refine s_gets 1 9 3 rfl rfl (k_in (lw_T3 (List.mem_of_getElem? (i := 109) (by decide +kernel))) rfl) ?_
            refine s_iload 1 10 rfl rfl ?_
            refine s_oald 1 11 rfl rfl H (fun _ H => ?_)
            refine s_if_eq 1 12 59 rfl (by decide) H (fun _ H => ?_) (fun _ H => ?_)
            · exact k_via (t_Bodies_bodyFor_J59 g  _ _ _  hr hb he H) ⟨rfl, rfl, rfl, trivial⟩
            · refine s_gets 1 13 3 rfl rfl (k_in (lw_T3 (List.mem_of_getElem? (i := 109) (by decide +kernel))) rfl) ?_
              refine s_iload 1 14 rfl rfl ?_
              refine s_oald 1 15 rfl rfl H (fun _ H => ?_)
              exact s_iret 2 0 rfl rfl (hr _ _ (k_sat_some H))
set_option maxRecDepth 100000 in
theorem l_Bodies_bodyFor_B4 (g : k_G)  (v1 : Int32) {Q : Option Value → k_S → Prop} {K : (Int32 ⊕ Unit) → k_S → Prop} (hr : ∀ (r : Int32) (u' : k_S), K (.inl r) u' → Q (some (.int r)) u') (he : ∀ (y : Unit) (u' : k_S), K (.inr y) u' → k_W g 1 MX0_bodyFor 71 [] [] u' Q) : ∀ (n : Nat) (x : (Int32 × Int32)) (u : k_S), k_sat (k_itr (fun (x : (Int32 × Int32)) u => f_Bodies_bodyFor_B4  v1 x.1 x.2 u) n x u) K → k_W g 1 MX0_bodyFor 4 [(1, .int v1), (2, .int x.1), (3, .int x.2)] [] u Q :=
  k_loop (P := fun (x : (Int32 × Int32)) u => k_W g 1 MX0_bodyFor 4 [(1, .int v1), (2, .int x.1), (3, .int x.2)] [] u Q) (fun (x : (Int32 × Int32)) u H => t_Bodies_bodyFor_B4 g  v1 x.1 x.2  (fun r u' h => hr r u' h) (fun x u' h => h) (fun y u' h => he y u' h) H)
set_option maxRecDepth 100000 in
theorem c_Bodies_bodyFor (g : k_G)  (p0 : Int32) (p1 : Int32) {u : k_S} {QQ : Int32 → k_S → Prop} (H : k_sat (f_Bodies_bodyFor  p0 p1 u) QQ) : k_OK g 1 MX0_bodyFor [.int p0, .int p1] u (k_qi QQ) := by
  have hr : ∀ (r : Int32) (u' : k_S), QQ (r) u' → (k_qi QQ) (some (.int r)) u' := fun r u' h => ⟨_, rfl, h⟩
  refine k_OK.ofW pfX0_bodyFor (k_tab_of MX0_bodyFor_dec) rfl ?_
  refine s_iloadn 0 0 rfl rfl ?_
  refine s_istoren 0 1 rfl rfl ?_
  refine s_const 0 0 2 rfl k_ic_0 ?_
  refine s_istoren 0 3 rfl rfl ?_
  refine k_via (l_Bodies_bodyFor_B4 g  p1 ?_ ?_ _ _ _ (k_sat_bind H)) ⟨rfl, rfl, rfl, trivial⟩
  · exact fun r u' h => hr r u' (k_sat_some h)
  · intro y4 u3 H
    replace H := k_sat_csr H
    refine s_const 0 2 7 rfl k_ic_0 ?_
    exact s_iret 2 8 rfl rfl (hr _ _ (k_sat_some H))
set_option maxRecDepth 100000 in
theorem c_Bodies_call (g : k_G) (rc : Int32 → Int32 → Int32 → k_S → Option (Int32 × k_S)) (dn : Nat) (hrc : ∀ (a0 : Int32) (a1 : Int32) (a2 : Int32) (w : k_S) (PP : Int32 → k_S → Prop), k_sat (rc a0 a1 a2 w) PP → k_OK g dn MX0_run [.ref 35, .int a0, .int a1, .int a2] w (k_qi PP)) (p1 : Int32) (p2 : Int32) (p3 : Int32) {u : k_S} {QQ : Int32 → k_S → Prop} (H : k_sat (f_Bodies_call rc p1 p2 p3 u) QQ) : k_OK g (dn + 2) MX0_call [.ref 35, .int p1, .int p2, .int p3] u (k_qi QQ) := by
  have hr : ∀ (r : Int32) (u' : k_S), QQ (r) u' → (k_qi QQ) (some (.int r)) u' := fun r u' h => ⟨_, rfl, h⟩
  refine k_OK.ofW pfX0_call (k_tab_of MX0_call_dec) rfl ?_
  refine s_aloadn 0 0 rfl rfl ?_
  refine s_aloadn 0 1 rfl rfl ?_
  refine s_aloadn 0 2 rfl rfl ?_
  refine s_geti 3504 0 3 rfl k_fl30 rfl rfl rfl rfl rfl ?_
  refine s_cvi1 (M' := MX0_kindOf) (d' := 1) 0 4 rfl k_ml69 vvX0_kindOf rfl rfl (by omega) rfl (c_Bodies_kindOf g _ (k_sat_bind H)) (fun r2 u1 H => ?_)
  refine s_iloadn 0 5 rfl rfl ?_
  refine s_csi2 (M' := MX0_bodyFor) (d' := 1) 0 6 rfl k_ml70 vvX0_bodyFor (by omega) rfl (c_Bodies_bodyFor g _ _ (k_sat_bind H)) (fun r4 u3 H => ?_)
  refine s_iloadn 0 7 rfl rfl ?_
  refine s_iloadn 0 8 rfl rfl ?_
  refine s_const 1 0 9 rfl k_ic_1 ?_
  refine s_iadd 0 10 rfl ?_
  refine s_cvi3 (M' := MX0_run) (d' := dn) 0 11 rfl k_ml71 vvX0_run rfl rfl (by omega) rfl (hrc _ _ _ _ _ (k_sat_bind H)) (fun r6 u5 H => ?_)
  exact s_iret 0 12 rfl rfl (hr _ _ (k_sat_some H))
set_option maxRecDepth 100000 in
theorem t_Bodies_above_J21 (g : k_G) (rc : Int32 → Int32 → Int32 → k_S → Option (Int32 × k_S)) (dn : Nat) (hrc : ∀ (a0 : Int32) (a1 : Int32) (a2 : Int32) (w : k_S) (PP : Int32 → k_S → Prop), k_sat (rc a0 a1 a2 w) PP → k_OK g dn MX0_run [.ref 35, .int a0, .int a1, .int a2] w (k_qi PP)) (v2 : Int32) (v3 : Int32) (v4 : Int32) (s0 : Int32)  {u : k_S} {QQ : Int32 → k_S → Prop} {Q : Option Value → k_S → Prop} (hr : ∀ (r : Int32) (u' : k_S), QQ (r) u' → (Q) (some (.int r)) u') (H : k_sat (f_Bodies_above_J21 rc v2 v3 v4 s0 u) QQ) : k_W g (dn + 2) MX0_above 21 [(0, .ref 35), (2, .int v2), (3, .int v3), (4, .int v4)] [.int s0] u Q := by
  refine s_istore 0 11 rfl rfl ?_
  refine s_aloadn 0 12 rfl rfl ?_
  refine s_iload 0 13 rfl rfl ?_
  refine s_iloadn 0 14 rfl rfl ?_
  refine s_csi2 (M' := MX0_bodyFor) (d' := 1) 0 15 rfl k_ml70 vvX0_bodyFor (by omega) rfl (c_Bodies_bodyFor g _ _ (k_sat_bind H)) (fun r2 u1 H => ?_)
  refine s_iloadn 1 0 rfl rfl ?_
  refine s_iload 1 1 rfl rfl ?_
  refine s_const 1 1 2 rfl k_ic_1 ?_
  refine s_iadd 1 3 rfl ?_
  refine s_cvi3 (M' := MX0_run) (d' := dn) 1 4 rfl k_ml71 vvX0_run rfl rfl (by omega) rfl (hrc _ _ _ _ _ (k_sat_bind H)) (fun r4 u3 H => ?_)
  exact s_iret 1 5 rfl rfl (hr _ _ (k_sat_some H))
set_option maxRecDepth 100000 in
theorem t_Bodies_above_J20 (g : k_G) (rc : Int32 → Int32 → Int32 → k_S → Option (Int32 × k_S)) (dn : Nat) (hrc : ∀ (a0 : Int32) (a1 : Int32) (a2 : Int32) (w : k_S) (PP : Int32 → k_S → Prop), k_sat (rc a0 a1 a2 w) PP → k_OK g dn MX0_run [.ref 35, .int a0, .int a1, .int a2] w (k_qi PP)) (v2 : Int32) (v3 : Int32) (v4 : Int32)  {u : k_S} {QQ : Int32 → k_S → Prop} {Q : Option Value → k_S → Prop} (hr : ∀ (r : Int32) (u' : k_S), QQ (r) u' → (Q) (some (.int r)) u') (H : k_sat (f_Bodies_above_J20 rc v2 v3 v4 u) QQ) : k_W g (dn + 2) MX0_above 20 [(0, .ref 35), (2, .int v2), (3, .int v3), (4, .int v4)] [] u Q := by
  refine s_const (-1) 0 10 rfl k_ic_m1 ?_
  exact k_via (t_Bodies_above_J21 g rc dn hrc _ _ _ _  hr H) ⟨rfl, rfl, rfl, rfl, trivial⟩
set_option maxRecDepth 100000 in
theorem c_Bodies_above (g : k_G) (rc : Int32 → Int32 → Int32 → k_S → Option (Int32 × k_S)) (dn : Nat) (hrc : ∀ (a0 : Int32) (a1 : Int32) (a2 : Int32) (w : k_S) (PP : Int32 → k_S → Prop), k_sat (rc a0 a1 a2 w) PP → k_OK g dn MX0_run [.ref 35, .int a0, .int a1, .int a2] w (k_qi PP)) (p1 : Int32) (p2 : Int32) (p3 : Int32) (p4 : Int32) {u : k_S} {QQ : Int32 → k_S → Prop} (H : k_sat (f_Bodies_above rc p1 p2 p3 p4 u) QQ) : k_OK g (dn + 2) MX0_above [.ref 35, .int p1, .int p2, .int p3, .int p4] u (k_qi QQ) := by
  have hr : ∀ (r : Int32) (u' : k_S), QQ (r) u' → (k_qi QQ) (some (.int r)) u' := fun r u' h => ⟨_, rfl, h⟩
  refine k_OK.ofW pfX0_above (k_tab_of MX0_above_dec) rfl ?_
  refine s_iloadn 0 0 rfl rfl ?_
  refine s_if_lt 0 1 20 rfl (by decide) H (fun _ H => ?_) (fun _ H => ?_)
  · exact k_via (t_Bodies_above_J20 g rc dn hrc _ _ _  hr H) ⟨rfl, rfl, rfl, rfl, trivial⟩
  · refine s_iloadn 0 2 rfl rfl ?_
    refine s_gets 0 3 2 rfl rfl (k_in (lw_T3 (List.mem_of_getElem? (i := 107) (by decide +kernel))) rfl) ?_
    refine s_olen 8 0 4 rfl rfl k_ln_8 ?_
    refine s_icmp_ge 0 5 20 rfl (by decide) H (fun _ H => ?_) (fun _ H => ?_)
    · exact k_via (t_Bodies_above_J20 g rc dn hrc _ _ _  hr H) ⟨rfl, rfl, rfl, rfl, trivial⟩
    · refine s_gets 0 6 2 rfl rfl (k_in (lw_T3 (List.mem_of_getElem? (i := 107) (by decide +kernel))) rfl) ?_
      refine s_iloadn 0 7 rfl rfl ?_
      refine s_oald 0 8 rfl rfl H (fun _ H => ?_)
      refine s_goto 0 9 21 rfl (by decide) ?_
      exact k_via (t_Bodies_above_J21 g rc dn hrc _ _ _ _  hr H) ⟨rfl, rfl, rfl, rfl, trivial⟩
set_option maxRecDepth 100000 in
theorem t_Bodies_run_J37 (g : k_G) (rc : Int32 → Int32 → Int32 → k_S → Option (Int32 × k_S)) (dn : Nat) (hrc : ∀ (a0 : Int32) (a1 : Int32) (a2 : Int32) (w : k_S) (PP : Int32 → k_S → Prop), k_sat (rc a0 a1 a2 w) PP → k_OK g dn MX0_run [.ref 35, .int a0, .int a1, .int a2] w (k_qi PP)) (v1 : Int32) (v2 : Int32) (v3 : Int32)  {u : k_S} {QQ : Int32 → k_S → Prop} {Q : Option Value → k_S → Prop} (hr : ∀ (r : Int32) (u' : k_S), QQ (r) u' → (Q) (some (.int r)) u') (H : k_sat (f_Bodies_run_J37 rc v1 v2 v3 u) QQ) : k_W g (dn + 3) MX0_run 37 [(0, .ref 35), (1, .int v1), (2, .int v2), (3, .int v3)] [] u Q := by
  refine s_aloadn 1 4 rfl rfl ?_
  refine s_dupr 1 5 rfl ?_
  refine s_geti 3503 1 6 rfl k_fl29 rfl rfl rfl rfl rfl ?_
  refine s_const 1 1 7 rfl k_ic_1 ?_
  refine s_iadd 1 8 rfl ?_
  refine s_puti 3503 1 9 rfl k_fl29 rfl rfl rfl rfl rfl rfl rfl rfl rfl H (fun u1 H => ?_)
  refine s_iloadn 1 10 rfl rfl ?_
  by_cases e0 : v1 = 1
  · replace H := k_sat_pos H e0
    refine s_lookup 1 11 172 rfl (by decide) (off := 124) (by rw [e0]; decide) (by decide) ?_
    refine s_iloadn 1 12 rfl rfl ?_
    refine s_aloadn 1 13 rfl rfl ?_
    refine s_geti 3504 1 14 rfl k_fl30 rfl rfl rfl rfl rfl ?_
    refine s_iadd 1 15 rfl ?_
    exact s_iret 2 0 rfl rfl (hr _ _ (k_sat_some H))
  · replace H := k_sat_neg H e0
    by_cases e1 : v1 = 2
    · replace H := k_sat_pos H e1
      refine s_lookup 1 11 179 rfl (by decide) (off := 131) (by rw [e1]; decide) (by decide) ?_
      refine s_aloadn 2 1 rfl rfl ?_
      refine s_const 1 2 2 rfl k_ic_1 ?_
      refine s_iloadn 2 3 rfl rfl ?_
      refine s_iloadn 2 4 rfl rfl ?_
      refine s_cvi3 (M' := MX0_call) (d' := dn + 2) 2 5 rfl k_ml68 vvX0_call rfl rfl (by omega) rfl (c_Bodies_call g rc dn hrc _ _ _ (k_sat_bind H)) (fun r3 u2 H => ?_)
      refine s_aloadn 2 6 rfl rfl ?_
      refine s_const 2 2 7 rfl k_ic_2 ?_
      refine s_const 1 2 8 rfl k_ic_1 ?_
      refine s_iloadn 2 9 rfl rfl ?_
      refine s_cvi3 (M' := MX0_call) (d' := dn + 2) 2 10 rfl k_ml68 vvX0_call rfl rfl (by omega) rfl (c_Bodies_call g rc dn hrc _ _ _ (k_sat_bind H)) (fun r5 u4 H => ?_)
      refine s_isub 2 11 rfl ?_
      exact s_iret 2 12 rfl rfl (hr _ _ (k_sat_some H))
    · replace H := k_sat_neg H e1
      by_cases e2 : v1 = 10
      · replace H := k_sat_pos H e2
        refine s_lookup 1 11 195 rfl (by decide) (off := 147) (by rw [e2]; decide) (by decide) ?_
        refine s_aloadn 2 13 rfl rfl ?_
        refine s_const 0 2 14 rfl k_ic_0 ?_
        refine s_iloadn 2 15 rfl rfl ?_
        refine s_iloadn 3 0 rfl rfl ?_
        refine s_cvi3 (M' := MX0_call) (d' := dn + 2) 3 1 rfl k_ml68 vvX0_call rfl rfl (by omega) rfl (c_Bodies_call g rc dn hrc _ _ _ (k_sat_bind H)) (fun r7 u6 H => ?_)
        refine s_const 2 3 2 rfl k_ic_2 ?_
        refine s_imul 3 3 rfl ?_
        exact s_iret 3 4 rfl rfl (hr _ _ (k_sat_some H))
      · replace H := k_sat_neg H e2
        by_cases e3 : v1 = 11
        · replace H := k_sat_pos H e3
          refine s_lookup 1 11 205 rfl (by decide) (off := 157) (by rw [e3]; decide) (by decide) ?_
          refine s_iloadn 3 5 rfl rfl ?_
          refine s_aloadn 3 6 rfl rfl ?_
          refine s_geti 3504 3 7 rfl k_fl30 rfl rfl rfl rfl rfl ?_
          refine s_ixor 3 8 rfl ?_
          exact s_iret 3 9 rfl rfl (hr _ _ (k_sat_some H))
        · replace H := k_sat_neg H e3
          by_cases e4 : v1 = 20
          · replace H := k_sat_pos H e4
            refine s_lookup 1 11 212 rfl (by decide) (off := 164) (by rw [e4]; decide) (by decide) ?_
            refine s_aloadn 3 10 rfl rfl ?_
            refine s_const 1 3 11 rfl k_ic_1 ?_
            refine s_const 0 3 12 rfl k_ic_0 ?_
            refine s_iloadn 3 13 rfl rfl ?_
            refine s_iloadn 3 14 rfl rfl ?_
            refine s_cvi4 (M' := MX0_above) (d' := dn + 2) 3 15 rfl k_ml72 vvX0_above rfl rfl (by omega) rfl (c_Bodies_above g rc dn hrc _ _ _ _ (k_sat_bind H)) (fun r9 u8 H => ?_)
            refine s_const 3 4 0 rfl k_ic_3 ?_
            refine s_iadd 4 1 rfl ?_
            exact s_iret 4 2 rfl rfl (hr _ _ (k_sat_some H))
          · replace H := k_sat_neg H e4
            by_cases e5 : v1 = 30
            · replace H := k_sat_pos H e5
              refine s_lookup 1 11 223 rfl (by decide) (off := 175) (by rw [e5]; decide) (by decide) ?_
              refine s_aloadn 4 3 rfl rfl ?_
              refine s_const 2 4 4 rfl k_ic_2 ?_
              refine s_const 1 4 5 rfl k_ic_1 ?_
              refine s_iloadn 4 6 rfl rfl ?_
              refine s_iloadn 4 7 rfl rfl ?_
              refine s_cvi4 (M' := MX0_above) (d' := dn + 2) 4 8 rfl k_ml72 vvX0_above rfl rfl (by omega) rfl (c_Bodies_above g rc dn hrc _ _ _ _ (k_sat_bind H)) (fun r11 u10 H => ?_)
              refine s_ineg 4 9 rfl ?_
              exact s_iret 4 10 rfl rfl (hr _ _ (k_sat_some H))
            · replace H := k_sat_neg H e5
              by_cases e6 : v1 = 40
              · replace H := k_sat_pos H e6
                refine s_lookup 1 11 233 rfl (by decide) (off := 185) (by rw [e6]; decide) (by decide) ?_
                refine s_aloadn 4 11 rfl rfl ?_
                refine s_const 3 4 12 rfl k_ic_3 ?_
                refine s_const 2 4 13 rfl k_ic_2 ?_
                refine s_iloadn 4 14 rfl rfl ?_
                refine s_iloadn 4 15 rfl rfl ?_
                refine s_cvi4 (M' := MX0_above) (d' := dn + 2) 5 0 rfl k_ml72 vvX0_above rfl rfl (by omega) rfl (c_Bodies_above g rc dn hrc _ _ _ _ (k_sat_bind H)) (fun r13 u12 H => ?_)
                refine s_const 3 5 1 rfl k_ic_3 ?_
                refine s_imul 5 2 rfl ?_
                exact s_iret 5 3 rfl rfl (hr _ _ (k_sat_some H))
              · replace H := k_sat_neg H e6
                by_cases e7 : v1 = 41
                · replace H := k_sat_pos H e7
                  refine s_lookup 1 11 244 rfl (by decide) (off := 196) (by rw [e7]; decide) (by decide) ?_
                  refine s_aloadn 5 4 rfl rfl ?_
                  refine s_const 3 5 5 rfl k_ic_3 ?_
                  refine s_const 1 5 6 rfl k_ic_1 ?_
                  refine s_iloadn 5 7 rfl rfl ?_
                  refine s_const 1 5 8 rfl k_ic_1 ?_
                  refine s_iadd 5 9 rfl ?_
                  refine s_iloadn 5 10 rfl rfl ?_
                  refine s_cvi4 (M' := MX0_above) (d' := dn + 2) 5 11 rfl k_ml72 vvX0_above rfl rfl (by omega) rfl (c_Bodies_above g rc dn hrc _ _ _ _ (k_sat_bind H)) (fun r15 u14 H => ?_)
                  exact s_iret 5 12 rfl rfl (hr _ _ (k_sat_some H))
                · replace H := k_sat_neg H e7
                  by_cases e8 : v1 = 50
                  · replace H := k_sat_pos H e8
                    refine s_lookup 1 11 255 rfl (by decide) (off := 207) (by rw [e8]; decide) (by decide) ?_
                    refine s_aloadn 5 13 rfl rfl ?_
                    refine s_const 4 5 14 rfl k_ic_4 ?_
                    refine s_const 3 5 15 rfl k_ic_3 ?_
                    refine s_iloadn 6 0 rfl rfl ?_
                    refine s_iloadn 6 1 rfl rfl ?_
                    refine s_cvi4 (M' := MX0_above) (d' := dn + 2) 6 2 rfl k_ml72 vvX0_above rfl rfl (by omega) rfl (c_Bodies_above g rc dn hrc _ _ _ _ (k_sat_bind H)) (fun r17 u16 H => ?_)
                    refine s_const 5 6 3 rfl k_ic_5 ?_
                    refine s_ixor 6 4 rfl ?_
                    exact s_iret 6 5 rfl rfl (hr _ _ (k_sat_some H))
                  · replace H := k_sat_neg H e8
                    by_cases e9 : v1 = 60
                    · replace H := k_sat_pos H e9
                      refine s_lookup 1 11 266 rfl (by decide) (off := 218) (by rw [e9]; decide) (by decide) ?_
                      refine s_aloadn 6 6 rfl rfl ?_
                      refine s_const 5 6 7 rfl k_ic_5 ?_
                      refine s_const 2 6 8 rfl k_ic_2 ?_
                      refine s_iloadn 6 9 rfl rfl ?_
                      refine s_iloadn 6 10 rfl rfl ?_
                      refine s_cvi4 (M' := MX0_above) (d' := dn + 2) 6 11 rfl k_ml72 vvX0_above rfl rfl (by omega) rfl (c_Bodies_above g rc dn hrc _ _ _ _ (k_sat_bind H)) (fun r19 u18 H => ?_)
                      refine s_aloadn 6 12 rfl rfl ?_
                      refine s_const 0 6 13 rfl k_ic_0 ?_
                      refine s_const 2 6 14 rfl k_ic_2 ?_
                      refine s_iloadn 6 15 rfl rfl ?_
                      refine s_cvi3 (M' := MX0_call) (d' := dn + 2) 7 0 rfl k_ml68 vvX0_call rfl rfl (by omega) rfl (c_Bodies_call g rc dn hrc _ _ _ (k_sat_bind H)) (fun r21 u20 H => ?_)
                      refine s_isub 7 1 rfl ?_
                      exact s_iret 7 2 rfl rfl (hr _ _ (k_sat_some H))
                    · replace H := k_sat_neg H e9
                      by_cases e10 : v1 = 61
                      · replace H := k_sat_pos H e10
                        refine s_lookup 1 11 283 rfl (by decide) (off := 235) (by rw [e10]; decide) (by decide) ?_
                        refine s_aloadn 7 3 rfl rfl ?_
                        refine s_const 5 7 4 rfl k_ic_5 ?_
                        refine s_const 3 7 5 rfl k_ic_3 ?_
                        refine s_iloadn 7 6 rfl rfl ?_
                        refine s_iloadn 7 7 rfl rfl ?_
                        refine s_cvi4 (M' := MX0_above) (d' := dn + 2) 7 8 rfl k_ml72 vvX0_above rfl rfl (by omega) rfl (c_Bodies_above g rc dn hrc _ _ _ _ (k_sat_bind H)) (fun r23 u22 H => ?_)
                        refine s_const 1 7 9 rfl k_ic_1 ?_
                        refine s_iadd 7 10 rfl ?_
                        exact s_iret 7 11 rfl rfl (hr _ _ (k_sat_some H))
                      · replace H := k_sat_neg H e10
                        by_cases e11 : v1 = 70
                        · replace H := k_sat_pos H e11
                          refine s_lookup 1 11 294 rfl (by decide) (off := 246) (by rw [e11]; decide) (by decide) ?_
                          refine s_aloadn 7 12 rfl rfl ?_
                          refine s_bipush 6 7 13 rfl k_ib_6 ?_
                          refine s_const 0 7 14 rfl k_ic_0 ?_
                          refine s_iloadn 7 15 rfl rfl ?_
                          refine s_iloadn 8 0 rfl rfl ?_
                          refine s_cvi4 (M' := MX0_above) (d' := dn + 2) 8 1 rfl k_ml72 vvX0_above rfl rfl (by omega) rfl (c_Bodies_above g rc dn hrc _ _ _ _ (k_sat_bind H)) (fun r25 u24 H => ?_)
                          refine s_const 2 8 2 rfl k_ic_2 ?_
                          refine s_imul 8 3 rfl ?_
                          exact s_iret 8 4 rfl rfl (hr _ _ (k_sat_some H))
                        · replace H := k_sat_neg H e11
                          by_cases e12 : v1 = 80
                          · replace H := k_sat_pos H e12
                            refine s_lookup 1 11 306 rfl (by decide) (off := 258) (by rw [e12]; decide) (by decide) ?_
                            refine s_aloadn 8 5 rfl rfl ?_
                            refine s_bipush 7 8 6 rfl k_ib_7 ?_
                            refine s_const 1 8 7 rfl k_ic_1 ?_
                            refine s_iloadn 8 8 rfl rfl ?_
                            refine s_iloadn 8 9 rfl rfl ?_
                            refine s_cvi4 (M' := MX0_above) (d' := dn + 2) 8 10 rfl k_ml72 vvX0_above rfl rfl (by omega) rfl (c_Bodies_above g rc dn hrc _ _ _ _ (k_sat_bind H)) (fun r27 u26 H => ?_)
                            refine s_aloadn 8 11 rfl rfl ?_
                            refine s_const 2 8 12 rfl k_ic_2 ?_
                            refine s_const 2 8 13 rfl k_ic_2 ?_
                            refine s_iloadn 8 14 rfl rfl ?_
                            refine s_cvi3 (M' := MX0_call) (d' := dn + 2) 8 15 rfl k_ml68 vvX0_call rfl rfl (by omega) rfl (c_Bodies_call g rc dn hrc _ _ _ (k_sat_bind H)) (fun r29 u28 H => ?_)
                            refine s_iadd 9 0 rfl ?_
                            exact s_iret 9 1 rfl rfl (hr _ _ (k_sat_some H))
                          · replace H := k_sat_neg H e12
                            by_cases e13 : v1 = 81
                            · replace H := k_sat_pos H e13
                              refine s_lookup 1 11 324 rfl (by decide) (off := 276) (by rw [e13]; decide) (by decide) ?_
                              refine s_aloadn 9 2 rfl rfl ?_
                              refine s_bipush 7 9 3 rfl k_ib_7 ?_
                              refine s_const 0 9 4 rfl k_ic_0 ?_
                              refine s_iloadn 9 5 rfl rfl ?_
                              refine s_iloadn 9 6 rfl rfl ?_
                              refine s_cvi4 (M' := MX0_above) (d' := dn + 2) 9 7 rfl k_ml72 vvX0_above rfl rfl (by omega) rfl (c_Bodies_above g rc dn hrc _ _ _ _ (k_sat_bind H)) (fun r31 u30 H => ?_)
                              refine s_const 1 9 8 rfl k_ic_1 ?_
                              refine s_isub 9 9 rfl ?_
                              exact s_iret 9 10 rfl rfl (hr _ _ (k_sat_some H))
                            · replace H := k_sat_neg H e13
                              refine s_lookup 1 11 336 rfl (by decide) (by show Op.lookupswitch.offset [(1, 124), (2, 131), (10, 147), (11, 157), (20, 164), (30, 175), (40, 185), (41, 196), (50, 207), (60, 218), (61, 235), (70, 246), (80, 258), (81, 276)] 288 _ = 288; rw [lv_osw e0 (by decide), lv_osw e1 (by decide), lv_osw e2 (by decide), lv_osw e3 (by decide), lv_osw e4 (by decide), lv_osw e5 (by decide), lv_osw e6 (by decide), lv_osw e7 (by decide), lv_osw e8 (by decide), lv_osw e9 (by decide), lv_osw e10 (by decide), lv_osw e11 (by decide), lv_osw e12 (by decide), lv_osw e13 (by decide)]; rfl) (by decide) ?_
                              refine s_const 0 9 11 rfl k_ic_0 ?_
                              exact s_iret 9 12 rfl rfl (hr _ _ (k_sat_some H))
set_option maxRecDepth 100000 in
theorem c_Bodies_run (g : k_G) (rc : Int32 → Int32 → Int32 → k_S → Option (Int32 × k_S)) (dn : Nat) (hrc : ∀ (a0 : Int32) (a1 : Int32) (a2 : Int32) (w : k_S) (PP : Int32 → k_S → Prop), k_sat (rc a0 a1 a2 w) PP → k_OK g dn MX0_run [.ref 35, .int a0, .int a1, .int a2] w (k_qi PP)) (p1 : Int32) (p2 : Int32) (p3 : Int32) {u : k_S} {QQ : Int32 → k_S → Prop} (H : k_sat (f_Bodies_run rc p1 p2 p3 u) QQ) : k_OK g (dn + 3) MX0_run [.ref 35, .int p1, .int p2, .int p3] u (k_qi QQ) := by
  have hr : ∀ (r : Int32) (u' : k_S), QQ (r) u' → (k_qi QQ) (some (.int r)) u' := fun r u' h => ⟨_, rfl, h⟩
  refine k_OK.ofW pfX0_run (k_tab_of MX0_run_dec) rfl ?_
  refine s_iloadn 0 0 rfl rfl ?_
  refine s_bipush 40 0 1 rfl k_ib_40 ?_
  refine s_icmp_le 0 2 8 rfl (by decide) H (fun _ H => ?_) (fun _ H => ?_)
  · refine s_aloadn 0 5 rfl rfl ?_
    refine s_geti 3503 0 6 rfl k_fl29 rfl rfl rfl rfl rfl ?_
    refine s_if_lt 0 7 37 rfl (by decide) H (fun _ H => ?_) (fun _ H => ?_)
    · exact k_via (t_Bodies_run_J37 g rc dn hrc _ _ _  hr H) ⟨rfl, rfl, rfl, rfl, trivial⟩
    · refine s_aloadn 0 8 rfl rfl ?_
      refine s_geti 3503 0 9 rfl k_fl29 rfl rfl rfl rfl rfl ?_
      refine s_aloadn 0 10 rfl rfl ?_
      refine s_getr 0 11 rfl k_fl27 rfl rfl rfl rfl ?_
      refine s_alen 24 0 12 rfl rfl k_ln_24 ?_
      refine s_icmp_ge 0 13 37 rfl (by decide) H (fun _ H => ?_) (fun _ H => ?_)
      · exact k_via (t_Bodies_run_J37 g rc dn hrc _ _ _  hr H) ⟨rfl, rfl, rfl, rfl, trivial⟩
      · refine s_aloadn 0 14 rfl rfl ?_
        refine s_getr 0 15 rfl k_fl27 rfl rfl rfl rfl ?_
        refine s_aloadn 1 0 rfl rfl ?_
        refine s_geti 3503 1 1 rfl k_fl29 rfl rfl rfl rfl rfl ?_
        refine s_iloadn 1 2 rfl rfl ?_
        refine s_iast 1 3 rfl rfl H (fun u32 H => ?_)
        exact k_via (t_Bodies_run_J37 g rc dn hrc _ _ _  hr H) ⟨rfl, rfl, rfl, rfl, trivial⟩
  · refine s_const 0 0 3 rfl k_ic_0 ?_
    exact s_iret 0 4 rfl rfl (hr _ _ (k_sat_some H))
set_option maxRecDepth 100000 in
theorem c_Bodies_run_rec (g : k_G) : ∀ (n : Nat) (a0 : Int32) (a1 : Int32) (a2 : Int32) (w : k_S) (PP : Int32 → k_S → Prop), k_sat (f_Bodies_run_rec n a0 a1 a2 w) PP → k_OK g (d_Bodies_run n) MX0_run [.ref 35, .int a0, .int a1, .int a2] w (k_qi PP)
  | 0, _, _, _, _, _, H => (k_sat_none H).elim
  | n + 1, a0, a1, a2, w, PP, H => c_Bodies_run g (f_Bodies_run_rec n) (d_Bodies_run n) (c_Bodies_run_rec g n) a0 a1 a2 (u := w) (QQ := PP) H
set_option maxRecDepth 100000 in
theorem c_Bodies_perform (g : k_G)  (p1 : Int32) (p2 : Int32) (p3 : Int32) {u : k_S} {QQ : Int32 → k_S → Prop} (H : k_sat (f_Bodies_perform  p1 p2 p3 u) QQ) : k_OK g 39 MX0_perform [.ref 35, .int p1, .int p2, .int p3] u (k_qi QQ) := by
  have hr : ∀ (r : Int32) (u' : k_S), QQ (r) u' → (k_qi QQ) (some (.int r)) u' := fun r u' h => ⟨_, rfl, h⟩
  refine k_OK.ofW pfX0_perform (k_tab_of MX0_perform_dec) rfl ?_
  refine s_aloadn 0 0 rfl rfl ?_
  refine s_iloadn 0 1 rfl rfl ?_
  refine s_puti 3504 0 2 rfl k_fl30 rfl rfl rfl rfl rfl rfl rfl rfl rfl H (fun u1 H => ?_)
  refine s_aloadn 0 3 rfl rfl ?_
  refine s_iloadn 0 4 rfl rfl ?_
  refine s_iloadn 0 5 rfl rfl ?_
  refine s_const 0 0 6 rfl k_ic_0 ?_
  refine s_cvi3 (M' := MX0_call) 0 7 rfl k_ml68 vvX0_call rfl rfl (Nat.le_of_ble_eq_true rfl) rfl (c_Bodies_call g (f_Bodies_run_rec 12) (d_Bodies_run 12) (c_Bodies_run_rec g 12) _ _ _ (k_sat_bind H)) (fun r3 u2 H => ?_)
  exact s_iret 0 8 rfl rfl (hr _ _ (k_sat_some H))
set_option maxRecDepth 100000 in
theorem c_W_act (g : k_G)  (p1 : Int32) (p2 : Int32) (p3 : Int32) {u : k_S} {QQ : Int32 → k_S → Prop} (H : k_sat (f_W_act  p1 p2 p3 u) QQ) : k_OK g 40 MX11_act [.ref 0, .int p1, .int p2, .int p3] u (k_qi QQ) := by
  have hr : ∀ (r : Int32) (u' : k_S), QQ (r) u' → (k_qi QQ) (some (.int r)) u' := fun r u' h => ⟨_, rfl, h⟩
  refine k_OK.ofW pfX11_act (k_tab_of MX11_act_dec) rfl ?_
  refine s_aloadn 0 0 rfl rfl ?_
  refine s_getr 0 1 rfl k_fl8 rfl rfl rfl rfl ?_
  refine s_cvv0 (M' := MX0_forgetTrace) 0 2 rfl k_ml54 vvX0_forgetTrace rfl rfl (Nat.le_of_ble_eq_true rfl) rfl (c_Bodies_forgetTrace g (k_sat_bind H)) (fun _ u1 H => ?_)
  refine s_aloadn 0 3 rfl rfl ?_
  refine s_getr 0 4 rfl k_fl8 rfl rfl rfl rfl ?_
  refine s_iloadn 0 5 rfl rfl ?_
  refine s_cvi1 (M' := MX0_has) 0 6 rfl k_ml55 vvX0_has rfl rfl (Nat.le_of_ble_eq_true rfl) rfl (c_Bodies_has g _ (k_sat_bind H)) (fun r3 u2 H => ?_)
  refine s_if_eq 0 7 27 rfl (by decide) H (fun _ H => ?_) (fun _ H => ?_)
  · refine s_const 0 0 13 rfl k_ic_0 ?_
    exact s_iret 0 14 rfl rfl (hr _ _ (k_sat_some H))
  · refine s_iloadn 0 8 rfl rfl ?_
    refine s_if_lt 0 9 27 rfl (by decide) H (fun _ H => ?_) (fun _ H => ?_)
    · refine s_const 0 0 13 rfl k_ic_0 ?_
      exact s_iret 0 14 rfl rfl (hr _ _ (k_sat_some H))
    · refine s_iloadn 0 10 rfl rfl ?_
      refine s_const 4 0 11 rfl k_ic_4 ?_
      refine s_icmp_lt 0 12 29 rfl (by decide) H (fun _ H => ?_) (fun _ H => ?_)
      · refine s_aloadn 0 15 rfl rfl ?_
        refine s_getr 1 0 rfl k_fl8 rfl rfl rfl rfl ?_
        refine s_iloadn 1 1 rfl rfl ?_
        refine s_iloadn 1 2 rfl rfl ?_
        refine s_iloadn 1 3 rfl rfl ?_
        refine s_cvi3 (M' := MX0_perform) 1 4 rfl k_ml56 vvX0_perform rfl rfl (Nat.le_of_ble_eq_true rfl) rfl (c_Bodies_perform g _ _ _ (k_sat_bind H)) (fun r5 u4 H => ?_)
        exact s_iret 1 5 rfl rfl (hr _ _ (k_sat_some H))
      · refine s_const 0 0 13 rfl k_ic_0 ?_
        exact s_iret 0 14 rfl rfl (hr _ _ (k_sat_some H))
set_option maxRecDepth 100000 in
theorem c_R_isBody (g : k_G)  (p1 : Int32) {u : k_S} {QQ : Int32 → k_S → Prop} (H : k_sat (f_R_isBody  p1 u) QQ) : k_OK g 2 MX12_isBody [.ref 42, .int p1] u (k_qi QQ) := by
  have hr : ∀ (r : Int32) (u' : k_S), QQ (r) u' → (k_qi QQ) (some (.int r)) u' := fun r u' h => ⟨_, rfl, h⟩
  refine k_OK.ofW pfX12_isBody (k_tab_of MX12_isBody_dec) rfl ?_
  refine s_iloadn 0 0 rfl rfl ?_
  refine s_const 0 0 1 rfl k_ic_0 ?_
  refine s_aloadn 0 2 rfl rfl ?_
  refine s_geti 4245 0 3 rfl k_fl137 rfl rfl rfl rfl rfl ?_
  refine s_const 1 0 4 rfl k_ic_1 ?_
  refine s_isub 0 5 rfl ?_
  refine s_csi3 (M' := MX12_in) 0 6 rfl k_ml230 vvX12_in (Nat.le_of_ble_eq_true rfl) rfl (c_R_in g _ _ _ (k_sat_bind H)) (fun r2 u1 H => ?_)
  exact s_zret 0 7 rfl rfl (k_sat_zb H).1 (hr _ _ (k_sat_some (k_sat_zb H).2))
set_option maxRecDepth 100000 in
theorem t_R_ran_J19 (g : k_G)    {u : k_S} {QQ : Unit → k_S → Prop} {Q : Option Value → k_S → Prop} (hr : ∀ (r : Unit) (u' : k_S), QQ (r) u' → (Q) (none) u') (H : k_sat (f_R_ran_J19   u) QQ) : k_W g 1 MX12_ran 19 [(0, .ref 42)] [] u Q := by
  refine s_aloadn 0 10 rfl rfl ?_
  refine s_dupr 0 11 rfl ?_
  refine s_geti 4247 0 12 rfl k_fl138 rfl rfl rfl rfl rfl ?_
  refine s_const 1 0 13 rfl k_ic_1 ?_
  refine s_iadd 0 14 rfl ?_
  refine s_puti 4247 0 15 rfl k_fl138 rfl rfl rfl rfl rfl rfl rfl rfl rfl H (fun u1 H => ?_)
  exact s_ret 1 0 rfl rfl (hr _ _ (k_sat_some H))
set_option maxRecDepth 100000 in
theorem c_R_ran (g : k_G)  (p1 : Int32) {u : k_S} {QQ : Unit → k_S → Prop} (H : k_sat (f_R_ran  p1 u) QQ) : k_OK g 1 MX12_ran [.ref 42, .int p1] u (k_qv QQ) := by
  have hr : ∀ (r : Unit) (u' : k_S), QQ (r) u' → (k_qv QQ) (none) u' := fun r u' h => ⟨rfl, h⟩
  refine k_OK.ofW pfX12_ran (k_tab_of MX12_ran_dec) rfl ?_
  refine s_aloadn 0 0 rfl rfl ?_
  refine s_geti 4247 0 1 rfl k_fl138 rfl rfl rfl rfl rfl ?_
  refine s_bipush 24 0 2 rfl k_ib_24 ?_
  refine s_icmp_ge 0 3 19 rfl (by decide) H (fun _ H => ?_) (fun _ H => ?_)
  · exact k_via (t_R_ran_J19 g   hr H) ⟨rfl, trivial⟩
  · refine s_aloadn 0 4 rfl rfl ?_
    refine s_getr 0 5 rfl k_fl116 rfl rfl rfl rfl ?_
    refine s_aloadn 0 6 rfl rfl ?_
    refine s_geti 4247 0 7 rfl k_fl138 rfl rfl rfl rfl rfl ?_
    refine s_iloadn 0 8 rfl rfl ?_
    refine s_iast 0 9 rfl rfl H (fun u2 H => ?_)
    exact k_via (t_R_ran_J19 g   hr H) ⟨rfl, trivial⟩
set_option maxRecDepth 100000 in
theorem t_R_isUnder_J44 (g : k_G)  (v0 : Int32) (v1 : Int32)  {u : k_S} {QQ : Int32 → k_S → Prop} {Q : Option Value → k_S → Prop} (hr : ∀ (r : Int32) (u' : k_S), QQ (r) u' → (Q) (some (.int r)) u') (H : k_sat (f_R_isUnder_J44  v0 v1 u) QQ) : k_W g 1 MX12_isUnder 44 [(0, .int v0), (1, .int v1)] [] u Q := by
  refine s_iloadn 1 10 rfl rfl ?_
  refine s_bipush 6 1 11 rfl k_ib_6 ?_
  refine s_icmp_ne 1 12 60 rfl (by decide) H (fun _ H => ?_) (fun _ H => ?_)
  · refine s_const 0 2 2 rfl k_ic_0 ?_
    exact s_zret 2 3 rfl rfl k_z0 (hr _ _ (k_sat_some H))
  · refine s_iloadn 1 13 rfl rfl ?_
    refine s_bipush 7 1 14 rfl k_ib_7 ?_
    refine s_icmp_ne 1 15 60 rfl (by decide) H (fun _ H => ?_) (fun _ H => ?_)
    · refine s_const 0 2 2 rfl k_ic_0 ?_
      exact s_zret 2 3 rfl rfl k_z0 (hr _ _ (k_sat_some H))
    · refine s_const 1 2 0 rfl k_ic_1 ?_
      refine s_goto 2 1 61 rfl (by decide) ?_
      exact s_zret 2 3 rfl rfl k_z1 (hr _ _ (k_sat_some H))
set_option maxRecDepth 100000 in
theorem t_R_isUnder_J34 (g : k_G)  (v0 : Int32) (v1 : Int32)  {u : k_S} {QQ : Int32 → k_S → Prop} {Q : Option Value → k_S → Prop} (hr : ∀ (r : Int32) (u' : k_S), QQ (r) u' → (Q) (some (.int r)) u') (H : k_sat (f_R_isUnder_J34  v0 v1 u) QQ) : k_W g 1 MX12_isUnder 34 [(0, .int v0), (1, .int v1)] [] u Q := by
  refine s_iloadn 1 4 rfl rfl ?_
  refine s_const 4 1 5 rfl k_ic_4 ?_
  refine s_icmp_ne 1 6 44 rfl (by decide) H (fun _ H => ?_) (fun _ H => ?_)
  · exact k_via (t_R_isUnder_J44 g  _ _  hr H) ⟨rfl, rfl, trivial⟩
  · refine s_iloadn 1 7 rfl rfl ?_
    refine s_const 5 1 8 rfl k_ic_5 ?_
    refine s_icmp_eq 1 9 56 rfl (by decide) H (fun _ H => ?_) (fun _ H => ?_)
    · refine s_const 1 2 0 rfl k_ic_1 ?_
      refine s_goto 2 1 61 rfl (by decide) ?_
      exact s_zret 2 3 rfl rfl k_z1 (hr _ _ (k_sat_some H))
    · exact k_via (t_R_isUnder_J44 g  _ _  hr H) ⟨rfl, rfl, trivial⟩
set_option maxRecDepth 100000 in
theorem t_R_isUnder_J24 (g : k_G)  (v0 : Int32) (v1 : Int32)  {u : k_S} {QQ : Int32 → k_S → Prop} {Q : Option Value → k_S → Prop} (hr : ∀ (r : Int32) (u' : k_S), QQ (r) u' → (Q) (some (.int r)) u') (H : k_sat (f_R_isUnder_J24  v0 v1 u) QQ) : k_W g 1 MX12_isUnder 24 [(0, .int v0), (1, .int v1)] [] u Q := by
  refine s_iloadn 0 14 rfl rfl ?_
  refine s_const 2 0 15 rfl k_ic_2 ?_
  refine s_icmp_ne 1 0 34 rfl (by decide) H (fun _ H => ?_) (fun _ H => ?_)
  · exact k_via (t_R_isUnder_J34 g  _ _  hr H) ⟨rfl, rfl, trivial⟩
  · refine s_iloadn 1 1 rfl rfl ?_
    refine s_const 3 1 2 rfl k_ic_3 ?_
    refine s_icmp_eq 1 3 56 rfl (by decide) H (fun _ H => ?_) (fun _ H => ?_)
    · refine s_const 1 2 0 rfl k_ic_1 ?_
      refine s_goto 2 1 61 rfl (by decide) ?_
      exact s_zret 2 3 rfl rfl k_z1 (hr _ _ (k_sat_some H))
    · exact k_via (t_R_isUnder_J34 g  _ _  hr H) ⟨rfl, rfl, trivial⟩
set_option maxRecDepth 100000 in
theorem c_R_isUnder (g : k_G)  (p0 : Int32) (p1 : Int32) {u : k_S} {QQ : Int32 → k_S → Prop} (H : k_sat (f_R_isUnder  p0 p1 u) QQ) : k_OK g 1 MX12_isUnder [.int p0, .int p1] u (k_qi QQ) := by
  have hr : ∀ (r : Int32) (u' : k_S), QQ (r) u' → (k_qi QQ) (some (.int r)) u' := fun r u' h => ⟨_, rfl, h⟩
  refine k_OK.ofW pfX12_isUnder (k_tab_of MX12_isUnder_dec) rfl ?_
  refine s_iloadn 0 0 rfl rfl ?_
  refine s_if_eq 0 1 56 rfl (by decide) H (fun _ H => ?_) (fun _ H => ?_)
  · refine s_const 1 2 0 rfl k_ic_1 ?_
    refine s_goto 2 1 61 rfl (by decide) ?_
    exact s_zret 2 3 rfl rfl k_z1 (hr _ _ (k_sat_some H))
  · refine s_iloadn 0 2 rfl rfl ?_
    refine s_iloadn 0 3 rfl rfl ?_
    refine s_icmp_eq 0 4 56 rfl (by decide) H (fun _ H => ?_) (fun _ H => ?_)
    · refine s_const 1 2 0 rfl k_ic_1 ?_
      refine s_goto 2 1 61 rfl (by decide) ?_
      exact s_zret 2 3 rfl rfl k_z1 (hr _ _ (k_sat_some H))
    · refine s_iloadn 0 5 rfl rfl ?_
      refine s_const 1 0 6 rfl k_ic_1 ?_
      refine s_icmp_ne 0 7 24 rfl (by decide) H (fun _ H => ?_) (fun _ H => ?_)
      · exact k_via (t_R_isUnder_J24 g  _ _  hr H) ⟨rfl, rfl, trivial⟩
      · refine s_iloadn 0 8 rfl rfl ?_
        refine s_const 4 0 9 rfl k_ic_4 ?_
        refine s_icmp_eq 0 10 56 rfl (by decide) H (fun _ H => ?_) (fun _ H => ?_)
        · refine s_const 1 2 0 rfl k_ic_1 ?_
          refine s_goto 2 1 61 rfl (by decide) ?_
          exact s_zret 2 3 rfl rfl k_z1 (hr _ _ (k_sat_some H))
        · refine s_iloadn 0 11 rfl rfl ?_
          refine s_const 5 0 12 rfl k_ic_5 ?_
          refine s_icmp_eq 0 13 56 rfl (by decide) H (fun _ H => ?_) (fun _ H => ?_)
          · refine s_const 1 2 0 rfl k_ic_1 ?_
            refine s_goto 2 1 61 rfl (by decide) ?_
            exact s_zret 2 3 rfl rfl k_z1 (hr _ _ (k_sat_some H))
          · exact k_via (t_R_isUnder_J24 g  _ _  hr H) ⟨rfl, rfl, trivial⟩
set_option maxRecDepth 100000 in
theorem c_R_plainTurns (g : k_G)  (p1 : Int32) (p2 : Int32) {u : k_S} {QQ : Int32 → k_S → Prop} (H : k_sat (f_R_plainTurns  p1 p2 u) QQ) : k_OK g 2 MX12_plainTurns [.ref 42, .int p1, .int p2] u (k_qi QQ) := by
  have hr : ∀ (r : Int32) (u' : k_S), QQ (r) u' → (k_qi QQ) (some (.int r)) u' := fun r u' h => ⟨_, rfl, h⟩
  refine k_OK.ofW pfX12_plainTurns (k_tab_of MX12_plainTurns_dec) rfl ?_
  refine s_aloadn 0 0 rfl rfl ?_
  refine s_const 1 0 1 rfl k_ic_1 ?_
  refine s_cvv1 (M' := MX12_ran) 0 2 rfl k_ml268 vvX12_ran rfl rfl (Nat.le_of_ble_eq_true rfl) rfl (c_R_ran g _ (k_sat_bind H)) (fun _ u1 H => ?_)
  refine s_iloadn 0 3 rfl rfl ?_
  refine s_iloadn 0 4 rfl rfl ?_
  refine s_iadd 0 5 rfl ?_
  exact s_iret 0 6 rfl rfl (hr _ _ (k_sat_some H))
set_option maxRecDepth 100000 in
theorem c_R_toldTurns (g : k_G)  (p1 : Int32) (p2 : Int32) {u : k_S} {QQ : Int32 → k_S → Prop} (H : k_sat (f_R_toldTurns  p1 p2 u) QQ) : k_OK g 3 MX12_toldTurns [.ref 42, .int p1, .int p2] u (k_qi QQ) := by
  have hr : ∀ (r : Int32) (u' : k_S), QQ (r) u' → (k_qi QQ) (some (.int r)) u' := fun r u' h => ⟨_, rfl, h⟩
  refine k_OK.ofW pfX12_toldTurns (k_tab_of MX12_toldTurns_dec) rfl ?_
  refine s_aloadn 0 0 rfl rfl ?_
  refine s_bipush 70 0 1 rfl k_ib_70 ?_
  refine s_cvv1 (M' := MX12_ran) 0 2 rfl k_ml268 vvX12_ran rfl rfl (Nat.le_of_ble_eq_true rfl) rfl (c_R_ran g _ (k_sat_bind H)) (fun _ u1 H => ?_)
  refine s_aloadn 0 3 rfl rfl ?_
  refine s_iloadn 0 4 rfl rfl ?_
  refine s_iloadn 0 5 rfl rfl ?_
  refine s_cvi2 (M' := MX12_plainTurns) 0 6 rfl k_ml269 vvX12_plainTurns rfl rfl (Nat.le_of_ble_eq_true rfl) rfl (c_R_plainTurns g _ _ (k_sat_bind H)) (fun r3 u2 H => ?_)
  refine s_const 2 0 7 rfl k_ic_2 ?_
  refine s_imul 0 8 rfl ?_
  exact s_iret 0 9 rfl rfl (hr _ _ (k_sat_some H))
set_option maxRecDepth 100000 in
theorem c_R_turning (g : k_G)  (p1 : Int32) (p2 : Int32) {u : k_S} {QQ : Int32 → k_S → Prop} (H : k_sat (f_R_turning  p1 p2 u) QQ) : k_OK g 4 MX12_turning [.ref 42, .int p1, .int p2] u (k_qi QQ) := by
  have hr : ∀ (r : Int32) (u' : k_S), QQ (r) u' → (k_qi QQ) (some (.int r)) u' := fun r u' h => ⟨_, rfl, h⟩
  refine k_OK.ofW pfX12_turning (k_tab_of MX12_turning_dec) rfl ?_
  refine s_aloadn 0 0 rfl rfl ?_
  refine s_getr 0 1 rfl k_fl115 rfl rfl rfl rfl ?_
  refine s_iloadn 0 2 rfl rfl ?_
  refine s_iald 0 3 rfl rfl H (fun _ H => ?_)
  refine s_const 1 0 4 rfl k_ic_1 ?_
  refine s_csi2 (M' := MX12_isUnder) 0 5 rfl k_ml270 vvX12_isUnder (Nat.le_of_ble_eq_true rfl) rfl (c_R_isUnder g _ _ (k_sat_bind H)) (fun r2 u1 H => ?_)
  refine s_if_eq 0 6 28 rfl (by decide) H (fun _ H => ?_) (fun _ H => ?_)
  · refine s_aloadn 1 1 rfl rfl ?_
    refine s_getr 1 2 rfl k_fl115 rfl rfl rfl rfl ?_
    refine s_iloadn 1 3 rfl rfl ?_
    refine s_iald 1 4 rfl rfl H (fun _ H => ?_)
    refine s_bipush 7 1 5 rfl k_ib_7 ?_
    refine s_icmp_ne 1 6 54 rfl (by decide) H (fun _ H => ?_) (fun _ H => ?_)
    · refine s_aloadn 2 1 rfl rfl ?_
      refine s_getr 2 2 rfl k_fl115 rfl rfl rfl rfl ?_
      refine s_iloadn 2 3 rfl rfl ?_
      refine s_iald 2 4 rfl rfl H (fun _ H => ?_)
      refine s_bipush 6 2 5 rfl k_ib_6 ?_
      refine s_icmp_ne 2 6 74 rfl (by decide) H (fun _ H => ?_) (fun _ H => ?_)
      · refine s_aloadn 2 12 rfl rfl ?_
        refine s_iloadn 2 13 rfl rfl ?_
        refine s_iloadn 2 14 rfl rfl ?_
        refine s_cvi2 (M' := MX12_plainTurns) 2 15 rfl k_ml269 vvX12_plainTurns rfl rfl (Nat.le_of_ble_eq_true rfl) rfl (c_R_plainTurns g _ _ (k_sat_bind H)) (fun r4 u3 H => ?_)
        exact s_iret 3 0 rfl rfl (hr _ _ (k_sat_some H))
      · refine s_aloadn 2 7 rfl rfl ?_
        refine s_iloadn 2 8 rfl rfl ?_
        refine s_iloadn 2 9 rfl rfl ?_
        refine s_cvi2 (M' := MX12_toldTurns) 2 10 rfl k_ml271 vvX12_toldTurns rfl rfl (Nat.le_of_ble_eq_true rfl) rfl (c_R_toldTurns g _ _ (k_sat_bind H)) (fun r6 u5 H => ?_)
        refine s_goto 2 11 80 rfl (by decide) ?_
        exact s_iret 3 0 rfl rfl (hr _ _ (k_sat_some H))
    · refine s_aloadn 1 7 rfl rfl ?_
      refine s_bipush 81 1 8 rfl k_ib_81 ?_
      refine s_cvv1 (M' := MX12_ran) 1 9 rfl k_ml268 vvX12_ran rfl rfl (Nat.le_of_ble_eq_true rfl) rfl (c_R_ran g _ (k_sat_bind H)) (fun _ u7 H => ?_)
      refine s_aloadn 1 10 rfl rfl ?_
      refine s_iloadn 1 11 rfl rfl ?_
      refine s_iloadn 1 12 rfl rfl ?_
      refine s_cvi2 (M' := MX12_toldTurns) 1 13 rfl k_ml271 vvX12_toldTurns rfl rfl (Nat.le_of_ble_eq_true rfl) rfl (c_R_toldTurns g _ _ (k_sat_bind H)) (fun r9 u8 H => ?_)
      refine s_const 1 1 14 rfl k_ic_1 ?_
      refine s_isub 1 15 rfl ?_
      exact s_iret 2 0 rfl rfl (hr _ _ (k_sat_some H))
  · refine s_aloadn 0 7 rfl rfl ?_
    refine s_bipush 20 0 8 rfl k_ib_20 ?_
    refine s_cvv1 (M' := MX12_ran) 0 9 rfl k_ml268 vvX12_ran rfl rfl (Nat.le_of_ble_eq_true rfl) rfl (c_R_ran g _ (k_sat_bind H)) (fun _ u10 H => ?_)
    refine s_aloadn 0 10 rfl rfl ?_
    refine s_iloadn 0 11 rfl rfl ?_
    refine s_iloadn 0 12 rfl rfl ?_
    refine s_cvi2 (M' := MX12_plainTurns) 0 13 rfl k_ml269 vvX12_plainTurns rfl rfl (Nat.le_of_ble_eq_true rfl) rfl (c_R_plainTurns g _ _ (k_sat_bind H)) (fun r12 u11 H => ?_)
    refine s_const 3 0 14 rfl k_ic_3 ?_
    refine s_iadd 0 15 rfl ?_
    exact s_iret 1 0 rfl rfl (hr _ _ (k_sat_some H))
set_option maxRecDepth 100000 in
theorem c_R_plainShows (g : k_G)  (p1 : Int32) (p2 : Int32) {u : k_S} {QQ : Int32 → k_S → Prop} (H : k_sat (f_R_plainShows  p1 p2 u) QQ) : k_OK g 5 MX12_plainShows [.ref 42, .int p1, .int p2] u (k_qi QQ) := by
  have hr : ∀ (r : Int32) (u' : k_S), QQ (r) u' → (k_qi QQ) (some (.int r)) u' := fun r u' h => ⟨_, rfl, h⟩
  refine k_OK.ofW pfX12_plainShows (k_tab_of MX12_plainShows_dec) rfl ?_
  refine s_aloadn 0 0 rfl rfl ?_
  refine s_bipush 10 0 1 rfl k_ib_10 ?_
  refine s_cvv1 (M' := MX12_ran) 0 2 rfl k_ml268 vvX12_ran rfl rfl (Nat.le_of_ble_eq_true rfl) rfl (c_R_ran g _ (k_sat_bind H)) (fun _ u1 H => ?_)
  refine s_aloadn 0 3 rfl rfl ?_
  refine s_iloadn 0 4 rfl rfl ?_
  refine s_iloadn 0 5 rfl rfl ?_
  refine s_cvi2 (M' := MX12_turning) 0 6 rfl k_ml272 vvX12_turning rfl rfl (Nat.le_of_ble_eq_true rfl) rfl (c_R_turning g _ _ (k_sat_bind H)) (fun r3 u2 H => ?_)
  refine s_const 2 0 7 rfl k_ic_2 ?_
  refine s_imul 0 8 rfl ?_
  exact s_iret 0 9 rfl rfl (hr _ _ (k_sat_some H))
set_option maxRecDepth 100000 in
theorem c_R_skipShows (g : k_G)  (p1 : Int32) (p2 : Int32) {u : k_S} {QQ : Int32 → k_S → Prop} (H : k_sat (f_R_skipShows  p1 p2 u) QQ) : k_OK g 6 MX12_skipShows [.ref 42, .int p1, .int p2] u (k_qi QQ) := by
  have hr : ∀ (r : Int32) (u' : k_S), QQ (r) u' → (k_qi QQ) (some (.int r)) u' := fun r u' h => ⟨_, rfl, h⟩
  refine k_OK.ofW pfX12_skipShows (k_tab_of MX12_skipShows_dec) rfl ?_
  refine s_aloadn 0 0 rfl rfl ?_
  refine s_bipush 30 0 1 rfl k_ib_30 ?_
  refine s_cvv1 (M' := MX12_ran) 0 2 rfl k_ml268 vvX12_ran rfl rfl (Nat.le_of_ble_eq_true rfl) rfl (c_R_ran g _ (k_sat_bind H)) (fun _ u1 H => ?_)
  refine s_aloadn 0 3 rfl rfl ?_
  refine s_iloadn 0 4 rfl rfl ?_
  refine s_iloadn 0 5 rfl rfl ?_
  refine s_cvi2 (M' := MX12_plainShows) 0 6 rfl k_ml273 vvX12_plainShows rfl rfl (Nat.le_of_ble_eq_true rfl) rfl (c_R_plainShows g _ _ (k_sat_bind H)) (fun r3 u2 H => ?_)
  refine s_ineg 0 7 rfl ?_
  exact s_iret 0 8 rfl rfl (hr _ _ (k_sat_some H))
set_option maxRecDepth 100000 in
theorem c_R_plainWaits (g : k_G)  (p1 : Int32) (p2 : Int32) {u : k_S} {QQ : Int32 → k_S → Prop} (H : k_sat (f_R_plainWaits  p1 p2 u) QQ) : k_OK g 2 MX12_plainWaits [.ref 42, .int p1, .int p2] u (k_qi QQ) := by
  have hr : ∀ (r : Int32) (u' : k_S), QQ (r) u' → (k_qi QQ) (some (.int r)) u' := fun r u' h => ⟨_, rfl, h⟩
  refine k_OK.ofW pfX12_plainWaits (k_tab_of MX12_plainWaits_dec) rfl ?_
  refine s_aloadn 0 0 rfl rfl ?_
  refine s_bipush 11 0 1 rfl k_ib_11 ?_
  refine s_cvv1 (M' := MX12_ran) 0 2 rfl k_ml268 vvX12_ran rfl rfl (Nat.le_of_ble_eq_true rfl) rfl (c_R_ran g _ (k_sat_bind H)) (fun _ u1 H => ?_)
  refine s_iloadn 0 3 rfl rfl ?_
  refine s_iloadn 0 4 rfl rfl ?_
  refine s_ixor 0 5 rfl ?_
  exact s_iret 0 6 rfl rfl (hr _ _ (k_sat_some H))
set_option maxRecDepth 100000 in
theorem c_R_waiting (g : k_G)  (p1 : Int32) (p2 : Int32) {u : k_S} {QQ : Int32 → k_S → Prop} (H : k_sat (f_R_waiting  p1 p2 u) QQ) : k_OK g 5 MX12_waiting [.ref 42, .int p1, .int p2] u (k_qi QQ) := by
  have hr : ∀ (r : Int32) (u' : k_S), QQ (r) u' → (k_qi QQ) (some (.int r)) u' := fun r u' h => ⟨_, rfl, h⟩
  refine k_OK.ofW pfX12_waiting (k_tab_of MX12_waiting_dec) rfl ?_
  refine s_aloadn 0 0 rfl rfl ?_
  refine s_getr 0 1 rfl k_fl115 rfl rfl rfl rfl ?_
  refine s_iloadn 0 2 rfl rfl ?_
  refine s_iald 0 3 rfl rfl H (fun _ H => ?_)
  refine s_const 3 0 4 rfl k_ic_3 ?_
  refine s_icmp_ne 0 5 25 rfl (by decide) H (fun _ H => ?_) (fun _ H => ?_)
  · refine s_aloadn 1 0 rfl rfl ?_
    refine s_getr 1 1 rfl k_fl115 rfl rfl rfl rfl ?_
    refine s_iloadn 1 2 rfl rfl ?_
    refine s_iald 1 3 rfl rfl H (fun _ H => ?_)
    refine s_const 5 1 4 rfl k_ic_5 ?_
    refine s_icmp_ne 1 5 57 rfl (by decide) H (fun _ H => ?_) (fun _ H => ?_)
    · refine s_aloadn 2 5 rfl rfl ?_
      refine s_iloadn 2 6 rfl rfl ?_
      refine s_iloadn 2 7 rfl rfl ?_
      refine s_cvi2 (M' := MX12_plainWaits) 2 8 rfl k_ml276 vvX12_plainWaits rfl rfl (Nat.le_of_ble_eq_true rfl) rfl (c_R_plainWaits g _ _ (k_sat_bind H)) (fun r2 u1 H => ?_)
      exact s_iret 2 9 rfl rfl (hr _ _ (k_sat_some H))
    · refine s_aloadn 1 6 rfl rfl ?_
      refine s_bipush 60 1 7 rfl k_ib_60 ?_
      refine s_cvv1 (M' := MX12_ran) 1 8 rfl k_ml268 vvX12_ran rfl rfl (Nat.le_of_ble_eq_true rfl) rfl (c_R_ran g _ (k_sat_bind H)) (fun _ u3 H => ?_)
      refine s_aloadn 1 9 rfl rfl ?_
      refine s_iloadn 1 10 rfl rfl ?_
      refine s_iloadn 1 11 rfl rfl ?_
      refine s_cvi2 (M' := MX12_plainWaits) 1 12 rfl k_ml276 vvX12_plainWaits rfl rfl (Nat.le_of_ble_eq_true rfl) rfl (c_R_plainWaits g _ _ (k_sat_bind H)) (fun r5 u4 H => ?_)
      refine s_istoren 1 13 rfl rfl ?_
      refine s_iloadn 1 14 rfl rfl ?_
      refine s_aloadn 1 15 rfl rfl ?_
      refine s_iloadn 2 0 rfl rfl ?_
      refine s_const 2 2 1 rfl k_ic_2 ?_
      refine s_cvi2 (M' := MX12_turning) 2 2 rfl k_ml272 vvX12_turning rfl rfl (Nat.le_of_ble_eq_true rfl) rfl (c_R_turning g _ _ (k_sat_bind H)) (fun r7 u6 H => ?_)
      refine s_isub 2 3 rfl ?_
      exact s_iret 2 4 rfl rfl (hr _ _ (k_sat_some H))
  · refine s_aloadn 0 6 rfl rfl ?_
    refine s_bipush 40 0 7 rfl k_ib_40 ?_
    refine s_cvv1 (M' := MX12_ran) 0 8 rfl k_ml268 vvX12_ran rfl rfl (Nat.le_of_ble_eq_true rfl) rfl (c_R_ran g _ (k_sat_bind H)) (fun _ u8 H => ?_)
    refine s_aloadn 0 9 rfl rfl ?_
    refine s_iloadn 0 10 rfl rfl ?_
    refine s_iloadn 0 11 rfl rfl ?_
    refine s_cvi2 (M' := MX12_plainWaits) 0 12 rfl k_ml276 vvX12_plainWaits rfl rfl (Nat.le_of_ble_eq_true rfl) rfl (c_R_plainWaits g _ _ (k_sat_bind H)) (fun r10 u9 H => ?_)
    refine s_const 3 0 13 rfl k_ic_3 ?_
    refine s_imul 0 14 rfl ?_
    exact s_iret 0 15 rfl rfl (hr _ _ (k_sat_some H))
set_option maxRecDepth 100000 in
theorem c_R_showing (g : k_G)  (p1 : Int32) (p2 : Int32) {u : k_S} {QQ : Int32 → k_S → Prop} (H : k_sat (f_R_showing  p1 p2 u) QQ) : k_OK g 7 MX12_showing [.ref 42, .int p1, .int p2] u (k_qi QQ) := by
  have hr : ∀ (r : Int32) (u' : k_S), QQ (r) u' → (k_qi QQ) (some (.int r)) u' := fun r u' h => ⟨_, rfl, h⟩
  refine k_OK.ofW pfX12_showing (k_tab_of MX12_showing_dec) rfl ?_
  refine s_aloadn 0 0 rfl rfl ?_
  refine s_getr 0 1 rfl k_fl115 rfl rfl rfl rfl ?_
  refine s_iloadn 0 2 rfl rfl ?_
  refine s_iald 0 3 rfl rfl H (fun _ H => ?_)
  refine s_const 3 0 4 rfl k_ic_3 ?_
  refine s_icmp_ne 0 5 25 rfl (by decide) H (fun _ H => ?_) (fun _ H => ?_)
  · refine s_aloadn 1 0 rfl rfl ?_
    refine s_getr 1 1 rfl k_fl115 rfl rfl rfl rfl ?_
    refine s_iloadn 1 2 rfl rfl ?_
    refine s_iald 1 3 rfl rfl H (fun _ H => ?_)
    refine s_bipush 7 1 4 rfl k_ib_7 ?_
    refine s_icmp_ne 1 5 58 rfl (by decide) H (fun _ H => ?_) (fun _ H => ?_)
    · refine s_aloadn 2 5 rfl rfl ?_
      refine s_getr 2 6 rfl k_fl115 rfl rfl rfl rfl ?_
      refine s_iloadn 2 7 rfl rfl ?_
      refine s_iald 2 8 rfl rfl H (fun _ H => ?_)
      refine s_const 2 2 9 rfl k_ic_2 ?_
      refine s_icmp_ne 2 10 77 rfl (by decide) H (fun _ H => ?_) (fun _ H => ?_)
      · refine s_aloadn 3 0 rfl rfl ?_
        refine s_iloadn 3 1 rfl rfl ?_
        refine s_iloadn 3 2 rfl rfl ?_
        refine s_cvi2 (M' := MX12_plainShows) 3 3 rfl k_ml273 vvX12_plainShows rfl rfl (Nat.le_of_ble_eq_true rfl) rfl (c_R_plainShows g _ _ (k_sat_bind H)) (fun r2 u1 H => ?_)
        exact s_iret 3 4 rfl rfl (hr _ _ (k_sat_some H))
      · refine s_aloadn 2 11 rfl rfl ?_
        refine s_iloadn 2 12 rfl rfl ?_
        refine s_iloadn 2 13 rfl rfl ?_
        refine s_cvi2 (M' := MX12_skipShows) 2 14 rfl k_ml274 vvX12_skipShows rfl rfl (Nat.le_of_ble_eq_true rfl) rfl (c_R_skipShows g _ _ (k_sat_bind H)) (fun r4 u3 H => ?_)
        refine s_goto 2 15 83 rfl (by decide) ?_
        exact s_iret 3 4 rfl rfl (hr _ _ (k_sat_some H))
    · refine s_aloadn 1 6 rfl rfl ?_
      refine s_bipush 80 1 7 rfl k_ib_80 ?_
      refine s_cvv1 (M' := MX12_ran) 1 8 rfl k_ml268 vvX12_ran rfl rfl (Nat.le_of_ble_eq_true rfl) rfl (c_R_ran g _ (k_sat_bind H)) (fun _ u5 H => ?_)
      refine s_aloadn 1 9 rfl rfl ?_
      refine s_iloadn 1 10 rfl rfl ?_
      refine s_iloadn 1 11 rfl rfl ?_
      refine s_cvi2 (M' := MX12_plainShows) 1 12 rfl k_ml273 vvX12_plainShows rfl rfl (Nat.le_of_ble_eq_true rfl) rfl (c_R_plainShows g _ _ (k_sat_bind H)) (fun r7 u6 H => ?_)
      refine s_istoren 1 13 rfl rfl ?_
      refine s_iloadn 1 14 rfl rfl ?_
      refine s_aloadn 1 15 rfl rfl ?_
      refine s_iloadn 2 0 rfl rfl ?_
      refine s_const 2 2 1 rfl k_ic_2 ?_
      refine s_cvi2 (M' := MX12_waiting) 2 2 rfl k_ml275 vvX12_waiting rfl rfl (Nat.le_of_ble_eq_true rfl) rfl (c_R_waiting g _ _ (k_sat_bind H)) (fun r9 u8 H => ?_)
      refine s_iadd 2 3 rfl ?_
      exact s_iret 2 4 rfl rfl (hr _ _ (k_sat_some H))
  · refine s_aloadn 0 6 rfl rfl ?_
    refine s_bipush 41 0 7 rfl k_ib_41 ?_
    refine s_cvv1 (M' := MX12_ran) 0 8 rfl k_ml268 vvX12_ran rfl rfl (Nat.le_of_ble_eq_true rfl) rfl (c_R_ran g _ (k_sat_bind H)) (fun _ u10 H => ?_)
    refine s_aloadn 0 9 rfl rfl ?_
    refine s_iloadn 0 10 rfl rfl ?_
    refine s_iloadn 0 11 rfl rfl ?_
    refine s_const 1 0 12 rfl k_ic_1 ?_
    refine s_iadd 0 13 rfl ?_
    refine s_cvi2 (M' := MX12_skipShows) 0 14 rfl k_ml274 vvX12_skipShows rfl rfl (Nat.le_of_ble_eq_true rfl) rfl (c_R_skipShows g _ _ (k_sat_bind H)) (fun r12 u11 H => ?_)
    exact s_iret 0 15 rfl rfl (hr _ _ (k_sat_some H))
set_option maxRecDepth 100000 in
theorem c_R_plainTells (g : k_G)  (p1 : Int32) (p2 : Int32) {u : k_S} {QQ : Int32 → k_S → Prop} (H : k_sat (f_R_plainTells  p1 p2 u) QQ) : k_OK g 8 MX12_plainTells [.ref 42, .int p1, .int p2] u (k_qi QQ) := by
  have hr : ∀ (r : Int32) (u' : k_S), QQ (r) u' → (k_qi QQ) (some (.int r)) u' := fun r u' h => ⟨_, rfl, h⟩
  refine k_OK.ofW pfX12_plainTells (k_tab_of MX12_plainTells_dec) rfl ?_
  refine s_aloadn 0 0 rfl rfl ?_
  refine s_const 2 0 1 rfl k_ic_2 ?_
  refine s_cvv1 (M' := MX12_ran) 0 2 rfl k_ml268 vvX12_ran rfl rfl (Nat.le_of_ble_eq_true rfl) rfl (c_R_ran g _ (k_sat_bind H)) (fun _ u1 H => ?_)
  refine s_aloadn 0 3 rfl rfl ?_
  refine s_iloadn 0 4 rfl rfl ?_
  refine s_iloadn 0 5 rfl rfl ?_
  refine s_cvi2 (M' := MX12_showing) 0 6 rfl k_ml277 vvX12_showing rfl rfl (Nat.le_of_ble_eq_true rfl) rfl (c_R_showing g _ _ (k_sat_bind H)) (fun r3 u2 H => ?_)
  refine s_istoren 0 7 rfl rfl ?_
  refine s_iloadn 0 8 rfl rfl ?_
  refine s_aloadn 0 9 rfl rfl ?_
  refine s_iloadn 0 10 rfl rfl ?_
  refine s_const 1 0 11 rfl k_ic_1 ?_
  refine s_cvi2 (M' := MX12_waiting) 0 12 rfl k_ml275 vvX12_waiting rfl rfl (Nat.le_of_ble_eq_true rfl) rfl (c_R_waiting g _ _ (k_sat_bind H)) (fun r5 u4 H => ?_)
  refine s_isub 0 13 rfl ?_
  exact s_iret 0 14 rfl rfl (hr _ _ (k_sat_some H))
set_option maxRecDepth 100000 in
theorem c_R_frostTells (g : k_G)  (p1 : Int32) (p2 : Int32) {u : k_S} {QQ : Int32 → k_S → Prop} (H : k_sat (f_R_frostTells  p1 p2 u) QQ) : k_OK g 9 MX12_frostTells [.ref 42, .int p1, .int p2] u (k_qi QQ) := by
  have hr : ∀ (r : Int32) (u' : k_S), QQ (r) u' → (k_qi QQ) (some (.int r)) u' := fun r u' h => ⟨_, rfl, h⟩
  refine k_OK.ofW pfX12_frostTells (k_tab_of MX12_frostTells_dec) rfl ?_
  refine s_aloadn 0 0 rfl rfl ?_
  refine s_bipush 50 0 1 rfl k_ib_50 ?_
  refine s_cvv1 (M' := MX12_ran) 0 2 rfl k_ml268 vvX12_ran rfl rfl (Nat.le_of_ble_eq_true rfl) rfl (c_R_ran g _ (k_sat_bind H)) (fun _ u1 H => ?_)
  refine s_aloadn 0 3 rfl rfl ?_
  refine s_iloadn 0 4 rfl rfl ?_
  refine s_iloadn 0 5 rfl rfl ?_
  refine s_cvi2 (M' := MX12_plainTells) 0 6 rfl k_ml278 vvX12_plainTells rfl rfl (Nat.le_of_ble_eq_true rfl) rfl (c_R_plainTells g _ _ (k_sat_bind H)) (fun r3 u2 H => ?_)
  refine s_const 5 0 7 rfl k_ic_5 ?_
  refine s_ixor 0 8 rfl ?_
  exact s_iret 0 9 rfl rfl (hr _ _ (k_sat_some H))
set_option maxRecDepth 100000 in
theorem c_R_telling (g : k_G)  (p1 : Int32) (p2 : Int32) {u : k_S} {QQ : Int32 → k_S → Prop} (H : k_sat (f_R_telling  p1 p2 u) QQ) : k_OK g 10 MX12_telling [.ref 42, .int p1, .int p2] u (k_qi QQ) := by
  have hr : ∀ (r : Int32) (u' : k_S), QQ (r) u' → (k_qi QQ) (some (.int r)) u' := fun r u' h => ⟨_, rfl, h⟩
  refine k_OK.ofW pfX12_telling (k_tab_of MX12_telling_dec) rfl ?_
  refine s_aloadn 0 0 rfl rfl ?_
  refine s_getr 0 1 rfl k_fl115 rfl rfl rfl rfl ?_
  refine s_iloadn 0 2 rfl rfl ?_
  refine s_iald 0 3 rfl rfl H (fun _ H => ?_)
  refine s_const 5 0 4 rfl k_ic_5 ?_
  refine s_icmp_ne 0 5 25 rfl (by decide) H (fun _ H => ?_) (fun _ H => ?_)
  · refine s_aloadn 1 0 rfl rfl ?_
    refine s_getr 1 1 rfl k_fl115 rfl rfl rfl rfl ?_
    refine s_iloadn 1 2 rfl rfl ?_
    refine s_iald 1 3 rfl rfl H (fun _ H => ?_)
    refine s_const 4 1 4 rfl k_ic_4 ?_
    refine s_icmp_ne 1 5 44 rfl (by decide) H (fun _ H => ?_) (fun _ H => ?_)
    · refine s_aloadn 1 11 rfl rfl ?_
      refine s_iloadn 1 12 rfl rfl ?_
      refine s_iloadn 1 13 rfl rfl ?_
      refine s_cvi2 (M' := MX12_plainTells) 1 14 rfl k_ml278 vvX12_plainTells rfl rfl (Nat.le_of_ble_eq_true rfl) rfl (c_R_plainTells g _ _ (k_sat_bind H)) (fun r2 u1 H => ?_)
      exact s_iret 1 15 rfl rfl (hr _ _ (k_sat_some H))
    · refine s_aloadn 1 6 rfl rfl ?_
      refine s_iloadn 1 7 rfl rfl ?_
      refine s_iloadn 1 8 rfl rfl ?_
      refine s_cvi2 (M' := MX12_frostTells) 1 9 rfl k_ml279 vvX12_frostTells rfl rfl (Nat.le_of_ble_eq_true rfl) rfl (c_R_frostTells g _ _ (k_sat_bind H)) (fun r4 u3 H => ?_)
      refine s_goto 1 10 50 rfl (by decide) ?_
      exact s_iret 1 15 rfl rfl (hr _ _ (k_sat_some H))
  · refine s_aloadn 0 6 rfl rfl ?_
    refine s_bipush 61 0 7 rfl k_ib_61 ?_
    refine s_cvv1 (M' := MX12_ran) 0 8 rfl k_ml268 vvX12_ran rfl rfl (Nat.le_of_ble_eq_true rfl) rfl (c_R_ran g _ (k_sat_bind H)) (fun _ u5 H => ?_)
    refine s_aloadn 0 9 rfl rfl ?_
    refine s_iloadn 0 10 rfl rfl ?_
    refine s_iloadn 0 11 rfl rfl ?_
    refine s_cvi2 (M' := MX12_frostTells) 0 12 rfl k_ml279 vvX12_frostTells rfl rfl (Nat.le_of_ble_eq_true rfl) rfl (c_R_frostTells g _ _ (k_sat_bind H)) (fun r7 u6 H => ?_)
    refine s_const 1 0 13 rfl k_ic_1 ?_
    refine s_iadd 0 14 rfl ?_
    exact s_iret 0 15 rfl rfl (hr _ _ (k_sat_some H))
set_option maxRecDepth 100000 in
theorem c_R_act (g : k_G)  (p1 : Int32) (p2 : Int32) (p3 : Int32) {u : k_S} {QQ : Int32 → k_S → Prop} (H : k_sat (f_R_act  p1 p2 p3 u) QQ) : k_OK g 11 MX12_act [.ref 42, .int p1, .int p2, .int p3] u (k_qi QQ) := by
  have hr : ∀ (r : Int32) (u' : k_S), QQ (r) u' → (k_qi QQ) (some (.int r)) u' := fun r u' h => ⟨_, rfl, h⟩
  refine k_OK.ofW pfX12_act (k_tab_of MX12_act_dec) rfl ?_
  refine s_aloadn 0 0 rfl rfl ?_
  refine s_const 0 0 1 rfl k_ic_0 ?_
  refine s_puti 4247 0 2 rfl k_fl138 rfl rfl rfl rfl rfl rfl rfl rfl rfl H (fun u1 H => ?_)
  refine s_aloadn 0 3 rfl rfl ?_
  refine s_iloadn 0 4 rfl rfl ?_
  refine s_cvi1 (M' := MX12_isBody) 0 5 rfl k_ml280 vvX12_isBody rfl rfl (Nat.le_of_ble_eq_true rfl) rfl (c_R_isBody g _ (k_sat_bind H)) (fun r3 u2 H => ?_)
  refine s_if_eq 0 6 22 rfl (by decide) H (fun _ H => ?_) (fun _ H => ?_)
  · refine s_const 0 0 12 rfl k_ic_0 ?_
    exact s_iret 0 13 rfl rfl (hr _ _ (k_sat_some H))
  · refine s_iloadn 0 7 rfl rfl ?_
    refine s_const 0 0 8 rfl k_ic_0 ?_
    refine s_const 3 0 9 rfl k_ic_3 ?_
    refine s_csi3 (M' := MX12_in) 0 10 rfl k_ml230 vvX12_in (Nat.le_of_ble_eq_true rfl) rfl (c_R_in g _ _ _ (k_sat_bind H)) (fun r5 u4 H => ?_)
    refine s_if_ne 0 11 24 rfl (by decide) H (fun _ H => ?_) (fun _ H => ?_)
    · refine s_iloadn 0 14 rfl rfl ?_
      refine s_if_ne 0 15 37 rfl (by decide) H (fun _ H => ?_) (fun _ H => ?_)
      · refine s_iloadn 1 5 rfl rfl ?_
        refine s_const 1 1 6 rfl k_ic_1 ?_
        refine s_icmp_ne 1 7 51 rfl (by decide) H (fun _ H => ?_) (fun _ H => ?_)
        · refine s_iloadn 1 13 rfl rfl ?_
          refine s_const 2 1 14 rfl k_ic_2 ?_
          refine s_icmp_ne 1 15 65 rfl (by decide) H (fun _ H => ?_) (fun _ H => ?_)
          · refine s_aloadn 2 5 rfl rfl ?_
            refine s_iloadn 2 6 rfl rfl ?_
            refine s_iloadn 2 7 rfl rfl ?_
            refine s_cvi2 (M' := MX12_telling) 2 8 rfl k_ml281 vvX12_telling rfl rfl (Nat.le_of_ble_eq_true rfl) rfl (c_R_telling g _ _ (k_sat_bind H)) (fun r7 u6 H => ?_)
            exact s_iret 2 9 rfl rfl (hr _ _ (k_sat_some H))
          · refine s_aloadn 2 0 rfl rfl ?_
            refine s_iloadn 2 1 rfl rfl ?_
            refine s_iloadn 2 2 rfl rfl ?_
            refine s_cvi2 (M' := MX12_waiting) 2 3 rfl k_ml275 vvX12_waiting rfl rfl (Nat.le_of_ble_eq_true rfl) rfl (c_R_waiting g _ _ (k_sat_bind H)) (fun r9 u8 H => ?_)
            refine s_goto 2 4 71 rfl (by decide) ?_
            exact s_iret 2 9 rfl rfl (hr _ _ (k_sat_some H))
        · refine s_aloadn 1 8 rfl rfl ?_
          refine s_iloadn 1 9 rfl rfl ?_
          refine s_iloadn 1 10 rfl rfl ?_
          refine s_cvi2 (M' := MX12_showing) 1 11 rfl k_ml277 vvX12_showing rfl rfl (Nat.le_of_ble_eq_true rfl) rfl (c_R_showing g _ _ (k_sat_bind H)) (fun r11 u10 H => ?_)
          refine s_goto 1 12 71 rfl (by decide) ?_
          exact s_iret 2 9 rfl rfl (hr _ _ (k_sat_some H))
      · refine s_aloadn 1 0 rfl rfl ?_
        refine s_iloadn 1 1 rfl rfl ?_
        refine s_iloadn 1 2 rfl rfl ?_
        refine s_cvi2 (M' := MX12_turning) 1 3 rfl k_ml272 vvX12_turning rfl rfl (Nat.le_of_ble_eq_true rfl) rfl (c_R_turning g _ _ (k_sat_bind H)) (fun r13 u12 H => ?_)
        refine s_goto 1 4 71 rfl (by decide) ?_
        exact s_iret 2 9 rfl rfl (hr _ _ (k_sat_some H))
    · refine s_const 0 0 12 rfl k_ic_0 ?_
      exact s_iret 0 13 rfl rfl (hr _ _ (k_sat_some H))
set_option maxRecDepth 100000 in
theorem c_Bodies_tracedAt (g : k_G)  (p1 : Int32) {u : k_S} {QQ : Int32 → k_S → Prop} (H : k_sat (f_Bodies_tracedAt  p1 u) QQ) : k_OK g 1 MX0_tracedAt [.ref 35, .int p1] u (k_qi QQ) := by
  have hr : ∀ (r : Int32) (u' : k_S), QQ (r) u' → (k_qi QQ) (some (.int r)) u' := fun r u' h => ⟨_, rfl, h⟩
  refine k_OK.ofW pfX0_tracedAt (k_tab_of MX0_tracedAt_dec) rfl ?_
  refine s_iloadn 0 0 rfl rfl ?_
  refine s_if_lt 0 1 22 rfl (by decide) H (fun _ H => ?_) (fun _ H => ?_)
  · refine s_const (-1) 0 12 rfl k_ic_m1 ?_
    exact s_iret 0 13 rfl rfl (hr _ _ (k_sat_some H))
  · refine s_iloadn 0 2 rfl rfl ?_
    refine s_aloadn 0 3 rfl rfl ?_
    refine s_getr 0 4 rfl k_fl27 rfl rfl rfl rfl ?_
    refine s_alen 24 0 5 rfl rfl k_ln_24 ?_
    refine s_icmp_ge 0 6 22 rfl (by decide) H (fun _ H => ?_) (fun _ H => ?_)
    · refine s_const (-1) 0 12 rfl k_ic_m1 ?_
      exact s_iret 0 13 rfl rfl (hr _ _ (k_sat_some H))
    · refine s_aloadn 0 7 rfl rfl ?_
      refine s_getr 0 8 rfl k_fl27 rfl rfl rfl rfl ?_
      refine s_iloadn 0 9 rfl rfl ?_
      refine s_iald 0 10 rfl rfl H (fun _ H => ?_)
      refine s_goto 0 11 23 rfl (by decide) ?_
      exact s_iret 0 13 rfl rfl (hr _ _ (k_sat_some H))
set_option maxRecDepth 100000 in
theorem c_W_trace (g : k_G)  (p1 : Int32) {u : k_S} {QQ : Int32 → k_S → Prop} (H : k_sat (f_W_trace  p1 u) QQ) : k_OK g 2 MX11_trace [.ref 0, .int p1] u (k_qi QQ) := by
  have hr : ∀ (r : Int32) (u' : k_S), QQ (r) u' → (k_qi QQ) (some (.int r)) u' := fun r u' h => ⟨_, rfl, h⟩
  refine k_OK.ofW pfX11_trace (k_tab_of MX11_trace_dec) rfl ?_
  refine s_iloadn 0 0 rfl rfl ?_
  refine s_if_lt 0 1 21 rfl (by decide) H (fun _ H => ?_) (fun _ H => ?_)
  · refine s_const (-1) 0 10 rfl k_ic_m1 ?_
    exact s_iret 0 11 rfl rfl (hr _ _ (k_sat_some H))
  · refine s_iloadn 0 2 rfl rfl ?_
    refine s_aloadn 0 3 rfl rfl ?_
    refine s_getr 0 4 rfl k_fl8 rfl rfl rfl rfl ?_
    refine s_geti 3503 0 5 rfl k_fl25 rfl rfl rfl rfl rfl ?_
    refine s_icmp_ge 0 6 21 rfl (by decide) H (fun _ H => ?_) (fun _ H => ?_)
    · refine s_const (-1) 0 10 rfl k_ic_m1 ?_
      exact s_iret 0 11 rfl rfl (hr _ _ (k_sat_some H))
    · refine s_iloadn 0 7 rfl rfl ?_
      refine s_bipush 24 0 8 rfl k_ib_24 ?_
      refine s_icmp_lt 0 9 23 rfl (by decide) H (fun _ H => ?_) (fun _ H => ?_)
      · refine s_aloadn 0 12 rfl rfl ?_
        refine s_getr 0 13 rfl k_fl8 rfl rfl rfl rfl ?_
        refine s_iloadn 0 14 rfl rfl ?_
        refine s_cvi1 (M' := MX0_tracedAt) 0 15 rfl k_ml57 vvX0_tracedAt rfl rfl (Nat.le_of_ble_eq_true rfl) rfl (c_Bodies_tracedAt g _ (k_sat_bind H)) (fun r2 u1 H => ?_)
        exact s_iret 1 0 rfl rfl (hr _ _ (k_sat_some H))
      · refine s_const (-1) 0 10 rfl k_ic_m1 ?_
        exact s_iret 0 11 rfl rfl (hr _ _ (k_sat_some H))
set_option maxRecDepth 100000 in
theorem c_R_trace (g : k_G)  (p1 : Int32) {u : k_S} {QQ : Int32 → k_S → Prop} (H : k_sat (f_R_trace  p1 u) QQ) : k_OK g 1 MX12_trace [.ref 42, .int p1] u (k_qi QQ) := by
  have hr : ∀ (r : Int32) (u' : k_S), QQ (r) u' → (k_qi QQ) (some (.int r)) u' := fun r u' h => ⟨_, rfl, h⟩
  refine k_OK.ofW pfX12_trace (k_tab_of MX12_trace_dec) rfl ?_
  refine s_iloadn 0 0 rfl rfl ?_
  refine s_if_lt 0 1 27 rfl (by decide) H (fun _ H => ?_) (fun _ H => ?_)
  · refine s_const (-1) 0 14 rfl k_ic_m1 ?_
    exact s_iret 0 15 rfl rfl (hr _ _ (k_sat_some H))
  · refine s_iloadn 0 2 rfl rfl ?_
    refine s_aloadn 0 3 rfl rfl ?_
    refine s_geti 4247 0 4 rfl k_fl138 rfl rfl rfl rfl rfl ?_
    refine s_icmp_ge 0 5 27 rfl (by decide) H (fun _ H => ?_) (fun _ H => ?_)
    · refine s_const (-1) 0 14 rfl k_ic_m1 ?_
      exact s_iret 0 15 rfl rfl (hr _ _ (k_sat_some H))
    · refine s_iloadn 0 6 rfl rfl ?_
      refine s_bipush 24 0 7 rfl k_ib_24 ?_
      refine s_icmp_ge 0 8 27 rfl (by decide) H (fun _ H => ?_) (fun _ H => ?_)
      · refine s_const (-1) 0 14 rfl k_ic_m1 ?_
        exact s_iret 0 15 rfl rfl (hr _ _ (k_sat_some H))
      · refine s_aloadn 0 9 rfl rfl ?_
        refine s_getr 0 10 rfl k_fl116 rfl rfl rfl rfl ?_
        refine s_iloadn 0 11 rfl rfl ?_
        refine s_iald 0 12 rfl rfl H (fun _ H => ?_)
        refine s_goto 0 13 28 rfl (by decide) ?_
        exact s_iret 0 15 rfl rfl (hr _ _ (k_sat_some H))
set_option maxRecDepth 100000 in
theorem t_Shelves_hold_B41 (g : k_G)  (v4 : Int32) (v5 : Int32)  {u : k_S} {QQ : ((Int32) ⊕ Unit) → k_S → Prop} {Q : Option Value → k_S → Prop} (hb : ∀ (x : (Int32)) (u' : k_S), QQ (.inl x) u' → k_W g 2 MX8_hold 41 [(0, .ref 38), (4, .int v4), (5, .int x)] [] u' Q) (he : ∀ (y : Unit) (u' : k_S), QQ (.inr y) u' → k_W g 2 MX8_hold 78 [] [] u' Q) (H : k_sat (f_Shelves_hold_B41  v4 v5 u) QQ) : k_W g 2 MX8_hold 41 [(0, .ref 38), (4, .int v4), (5, .int v5)] [] u Q := by
  refine s_iload 1 10 rfl rfl ?_
  refine s_bipush 60 1 11 rfl k_ib_60 ?_
  refine s_icmp_ge 1 12 78 rfl (by decide) H (fun _ H => ?_) (fun _ H => ?_)
  · exact k_via (he _ _ (k_sat_some H)) trivial
  · refine s_iload 1 13 rfl rfl ?_
    refine s_iload 1 14 rfl rfl ?_
    refine s_iadd 1 15 rfl ?_
    refine s_aloadn 2 0 rfl rfl ?_
    refine s_getr 2 1 rfl k_fl79 rfl rfl rfl rfl ?_
    refine s_alen 360 2 2 rfl rfl k_ln_360 ?_
    refine s_icmp_ge 2 3 78 rfl (by decide) H (fun _ H => ?_) (fun _ H => ?_)
    · exact k_via (he _ _ (k_sat_some H)) trivial
    · refine s_aloadn 2 4 rfl rfl ?_
      refine s_getr 2 5 rfl k_fl79 rfl rfl rfl rfl ?_
      refine s_iload 2 6 rfl rfl ?_
      refine s_iload 2 7 rfl rfl ?_
      refine s_iadd 2 8 rfl ?_
      refine s_lconst 0 2 9 rfl k_lc_0 ?_
      refine s_last 2 10 rfl rfl H (fun u6 H => ?_)
      refine s_iinc 2 11 rfl rfl rfl ?_
      refine s_goto 2 12 41 rfl (by decide) ?_
      exact k_via (hb _ _ (k_sat_some H)) ⟨rfl, rfl, rfl, trivial⟩
set_option maxRecDepth 100000 in
theorem l_Shelves_hold_B41 (g : k_G)  (v4 : Int32) {Q : Option Value → k_S → Prop} {K : Unit → k_S → Prop} (he : ∀ (y : Unit) (u' : k_S), K (y) u' → k_W g 2 MX8_hold 78 [] [] u' Q) : ∀ (n : Nat) (x : (Int32)) (u : k_S), k_sat (k_itr (fun (x : (Int32)) u => f_Shelves_hold_B41  v4 x u) n x u) K → k_W g 2 MX8_hold 41 [(0, .ref 38), (4, .int v4), (5, .int x)] [] u Q :=
  k_loop (P := fun (x : (Int32)) u => k_W g 2 MX8_hold 41 [(0, .ref 38), (4, .int v4), (5, .int x)] [] u Q) (fun (x : (Int32)) u H => t_Shelves_hold_B41 g  v4 x  (fun x u' h => h) (fun y u' h => he y u' h) H)
set_option maxRecDepth 100000 in
theorem c_Shelves_hold (g : k_G)  (p1 : Int32) (p2 : Int32) (p3 : Int32) {u : k_S} {QQ : Unit → k_S → Prop} (H : k_sat (f_Shelves_hold  p1 p2 p3 u) QQ) : k_OK g 2 MX8_hold [.ref 38, .int p1, .int p2, .int p3] u (k_qv QQ) := by
  have hr : ∀ (r : Unit) (u' : k_S), QQ (r) u' → (k_qv QQ) (none) u' := fun r u' h => ⟨rfl, h⟩
  refine k_OK.ofW pfX8_hold (k_tab_of MX8_hold_dec) rfl ?_
  refine s_aloadn 0 0 rfl rfl ?_
  refine s_iloadn 0 1 rfl rfl ?_
  refine s_cvi1 (M' := MX8_has) 0 2 rfl k_ml138 vvX8_has rfl rfl (Nat.le_of_ble_eq_true rfl) rfl (c_Shelves_has g _ (k_sat_bind H)) (fun r2 u1 H => ?_)
  refine s_if_eq 0 3 17 rfl (by decide) H (fun _ H => ?_) (fun _ H => ?_)
  · exact s_ret 0 9 rfl rfl (hr _ _ (k_sat_some H))
  · refine s_iloadn 0 4 rfl rfl ?_
    refine s_aloadn 0 5 rfl rfl ?_
    refine s_getr 0 6 rfl k_fl78 rfl rfl rfl rfl ?_
    refine s_alen 6 0 7 rfl rfl k_ln_6 ?_
    refine s_icmp_lt 0 8 18 rfl (by decide) H (fun _ H => ?_) (fun _ H => ?_)
    · refine s_aloadn 0 10 rfl rfl ?_
      refine s_getr 0 11 rfl k_fl77 rfl rfl rfl rfl ?_
      refine s_iloadn 0 12 rfl rfl ?_
      refine s_iloadn 0 13 rfl rfl ?_
      refine s_iast 0 14 rfl rfl H (fun u3 H => ?_)
      refine s_aloadn 0 15 rfl rfl ?_
      refine s_getr 1 0 rfl k_fl78 rfl rfl rfl rfl ?_
      refine s_iloadn 1 1 rfl rfl ?_
      refine s_iloadn 1 2 rfl rfl ?_
      refine s_iast 1 3 rfl rfl H (fun u4 H => ?_)
      refine s_bipush 60 1 4 rfl k_ib_60 ?_
      refine s_iloadn 1 5 rfl rfl ?_
      refine s_imul 1 6 rfl ?_
      refine k_topi H (fun t5 H => ?_)
      refine s_istore 1 7 rfl rfl ?_
      refine s_const 0 1 8 rfl k_ic_0 ?_
      refine s_istore 1 9 rfl rfl ?_
      refine k_via (l_Shelves_hold_B41 g  t5 ?_ _ _ _ (k_sat_bind H)) ⟨rfl, rfl, rfl, trivial⟩
      · intro y8 u7 H
        exact s_ret 2 13 rfl rfl (hr _ _ (k_sat_some H))
    · exact s_ret 0 9 rfl rfl (hr _ _ (k_sat_some H))
set_option maxRecDepth 100000 in
theorem t_W_keep_J46 (g : k_G)  (v2 : Int32) (s1 : Int32) (s2 : Int32)  {u : k_S} {QQ : Int32 → k_S → Prop} {Q : Option Value → k_S → Prop} (hr : ∀ (r : Int32) (u' : k_S), QQ (r) u' → (Q) (some (.int r)) u') (H : k_sat (f_W_keep_J46  v2 s1 s2 u) QQ) : k_W g 3 MX11_keep 46 [(2, .int v2)] [.int s2, .int s1, .ref 38] u Q := by
  refine s_iloadn 1 10 rfl rfl ?_
  refine s_cvv3 (M' := MX8_hold) 1 11 rfl k_ml58 vvX8_hold rfl rfl (Nat.le_of_ble_eq_true rfl) rfl (c_Shelves_hold g _ _ _ (k_sat_bind H)) (fun _ u3 H => ?_)
  refine s_const 1 1 12 rfl k_ic_1 ?_
  exact s_iret 1 13 rfl rfl (hr _ _ (k_sat_some H))
set_option maxRecDepth 100000 in
theorem t_W_keep_J31 (g : k_G)  (v1 : Int32) (v2 : Int32)  {u : k_S} {QQ : Int32 → k_S → Prop} {Q : Option Value → k_S → Prop} (hr : ∀ (r : Int32) (u' : k_S), QQ (r) u' → (Q) (some (.int r)) u') (H : k_sat (f_W_keep_J31  v1 v2 u) QQ) : k_W g 3 MX11_keep 31 [(0, .ref 0), (1, .int v1), (2, .int v2)] [] u Q := by
  refine s_aloadn 1 1 rfl rfl ?_
  refine s_getr 1 2 rfl k_fl9 rfl rfl rfl rfl ?_
  refine s_iloadn 1 3 rfl rfl ?_
  refine s_iloadn 1 4 rfl rfl ?_
  refine s_const (-1) 1 5 rfl k_ic_m1 ?_
  refine s_icmp_ne 1 6 45 rfl (by decide) H (fun _ H => ?_) (fun _ H => ?_)
  · refine s_const 5 1 9 rfl k_ic_5 ?_
    exact k_via (t_W_keep_J46 g  _ _ _  hr H) ⟨rfl, trivial⟩
  · refine s_const (-1) 1 7 rfl k_ic_m1 ?_
    refine s_goto 1 8 46 rfl (by decide) ?_
    exact k_via (t_W_keep_J46 g  _ _ _  hr H) ⟨rfl, trivial⟩
set_option maxRecDepth 100000 in
theorem c_W_keep (g : k_G)  (p1 : Int32) (p2 : Int32) {u : k_S} {QQ : Int32 → k_S → Prop} (H : k_sat (f_W_keep  p1 p2 u) QQ) : k_OK g 3 MX11_keep [.ref 0, .int p1, .int p2] u (k_qi QQ) := by
  have hr : ∀ (r : Int32) (u' : k_S), QQ (r) u' → (k_qi QQ) (some (.int r)) u' := fun r u' h => ⟨_, rfl, h⟩
  refine k_OK.ofW pfX11_keep (k_tab_of MX11_keep_dec) rfl ?_
  refine s_aloadn 0 0 rfl rfl ?_
  refine s_getr 0 1 rfl k_fl9 rfl rfl rfl rfl ?_
  refine s_iloadn 0 2 rfl rfl ?_
  refine s_cvi1 (M' := MX8_has) 0 3 rfl k_ml40 vvX8_has rfl rfl (Nat.le_of_ble_eq_true rfl) rfl (c_Shelves_has g _ (k_sat_bind H)) (fun r2 u1 H => ?_)
  refine s_if_ne 0 4 13 rfl (by decide) H (fun _ H => ?_) (fun _ H => ?_)
  · refine s_iloadn 0 7 rfl rfl ?_
    refine s_const (-1) 0 8 rfl k_ic_m1 ?_
    refine s_icmp_eq 0 9 31 rfl (by decide) H (fun _ H => ?_) (fun _ H => ?_)
    · exact k_via (t_W_keep_J31 g  _ _  hr H) ⟨rfl, rfl, rfl, trivial⟩
    · refine s_aloadn 0 10 rfl rfl ?_
      refine s_getr 0 11 rfl k_fl8 rfl rfl rfl rfl ?_
      refine s_iloadn 0 12 rfl rfl ?_
      refine s_cvi1 (M' := MX0_has) 0 13 rfl k_ml55 vvX0_has rfl rfl (Nat.le_of_ble_eq_true rfl) rfl (c_Bodies_has g _ (k_sat_bind H)) (fun r5 u4 H => ?_)
      refine s_if_ne 0 14 31 rfl (by decide) H (fun _ H => ?_) (fun _ H => ?_)
      · exact k_via (t_W_keep_J31 g  _ _  hr H) ⟨rfl, rfl, rfl, trivial⟩
      · refine s_const (-1) 0 15 rfl k_ic_m1 ?_
        exact s_iret 1 0 rfl rfl (hr _ _ (k_sat_some H))
  · refine s_const (-1) 0 5 rfl k_ic_m1 ?_
    exact s_iret 0 6 rfl rfl (hr _ _ (k_sat_some H))
set_option maxRecDepth 100000 in
theorem t_R_keep_J22 (g : k_G)  (v1 : Int32) (v2 : Int32)  {u : k_S} {QQ : Int32 → k_S → Prop} {Q : Option Value → k_S → Prop} (hr : ∀ (r : Int32) (u' : k_S), QQ (r) u' → (Q) (some (.int r)) u') (H : k_sat (f_R_keep_J22  v1 v2 u) QQ) : k_W g 3 MX12_keep 22 [(0, .ref 42), (1, .int v1), (2, .int v2)] [] u Q := by
  refine s_aloadn 0 12 rfl rfl ?_
  refine s_getr 0 13 rfl k_fl117 rfl rfl rfl rfl ?_
  refine s_iloadn 0 14 rfl rfl ?_
  refine s_iloadn 0 15 rfl rfl ?_
  refine s_iast 1 0 rfl rfl H (fun u3 H => ?_)
  refine s_const 1 1 1 rfl k_ic_1 ?_
  exact s_iret 1 2 rfl rfl (hr _ _ (k_sat_some H))
set_option maxRecDepth 100000 in
theorem c_R_keep (g : k_G)  (p1 : Int32) (p2 : Int32) {u : k_S} {QQ : Int32 → k_S → Prop} (H : k_sat (f_R_keep  p1 p2 u) QQ) : k_OK g 3 MX12_keep [.ref 42, .int p1, .int p2] u (k_qi QQ) := by
  have hr : ∀ (r : Int32) (u' : k_S), QQ (r) u' → (k_qi QQ) (some (.int r)) u' := fun r u' h => ⟨_, rfl, h⟩
  refine k_OK.ofW pfX12_keep (k_tab_of MX12_keep_dec) rfl ?_
  refine s_iloadn 0 0 rfl rfl ?_
  refine s_csi1 (M' := MX12_isShelf) 0 1 rfl k_ml263 vvX12_isShelf (Nat.le_of_ble_eq_true rfl) rfl (c_R_isShelf g _ (k_sat_bind H)) (fun r2 u1 H => ?_)
  refine s_if_eq 0 2 20 rfl (by decide) H (fun _ H => ?_) (fun _ H => ?_)
  · refine s_const (-1) 0 10 rfl k_ic_m1 ?_
    exact s_iret 0 11 rfl rfl (hr _ _ (k_sat_some H))
  · refine s_iloadn 0 3 rfl rfl ?_
    refine s_const (-1) 0 4 rfl k_ic_m1 ?_
    refine s_icmp_eq 0 5 22 rfl (by decide) H (fun _ H => ?_) (fun _ H => ?_)
    · exact k_via (t_R_keep_J22 g  _ _  hr H) ⟨rfl, rfl, rfl, trivial⟩
    · refine s_aloadn 0 6 rfl rfl ?_
      refine s_iloadn 0 7 rfl rfl ?_
      refine s_cvi1 (M' := MX12_isBody) 0 8 rfl k_ml280 vvX12_isBody rfl rfl (Nat.le_of_ble_eq_true rfl) rfl (c_R_isBody g _ (k_sat_bind H)) (fun r5 u4 H => ?_)
      refine s_if_ne 0 9 22 rfl (by decide) H (fun _ H => ?_) (fun _ H => ?_)
      · exact k_via (t_R_keep_J22 g  _ _  hr H) ⟨rfl, rfl, rfl, trivial⟩
      · refine s_const (-1) 0 10 rfl k_ic_m1 ?_
        exact s_iret 0 11 rfl rfl (hr _ _ (k_sat_some H))
set_option maxRecDepth 100000 in
theorem c_W_row (g : k_G)  (p1 : Int32) (p2 : Int32) (p3 : Int32) {u : k_S} {QQ : Int32 → k_S → Prop} (H : k_sat (f_W_row  p1 p2 p3 u) QQ) : k_OK g 3 MX11_row [.ref 0, .int p1, .int p2, .int p3] u (k_qi QQ) := by
  have hr : ∀ (r : Int32) (u' : k_S), QQ (r) u' → (k_qi QQ) (some (.int r)) u' := fun r u' h => ⟨_, rfl, h⟩
  refine k_OK.ofW pfX11_row (k_tab_of MX11_row_dec) rfl ?_
  refine s_aloadn 0 0 rfl rfl ?_
  refine s_getr 0 1 rfl k_fl9 rfl rfl rfl rfl ?_
  refine s_iloadn 0 2 rfl rfl ?_
  refine s_cvi1 (M' := MX8_has) 0 3 rfl k_ml40 vvX8_has rfl rfl (Nat.le_of_ble_eq_true rfl) rfl (c_Shelves_has g _ (k_sat_bind H)) (fun r2 u1 H => ?_)
  refine s_if_eq 0 4 26 rfl (by decide) H (fun _ H => ?_) (fun _ H => ?_)
  · refine s_const (-1) 0 13 rfl k_ic_m1 ?_
    exact s_iret 0 14 rfl rfl (hr _ _ (k_sat_some H))
  · refine s_iloadn 0 5 rfl rfl ?_
    refine s_if_lt 0 6 26 rfl (by decide) H (fun _ H => ?_) (fun _ H => ?_)
    · refine s_const (-1) 0 13 rfl k_ic_m1 ?_
      exact s_iret 0 14 rfl rfl (hr _ _ (k_sat_some H))
    · refine s_iloadn 0 7 rfl rfl ?_
      refine s_const 5 0 8 rfl k_ic_5 ?_
      refine s_icmp_ge 0 9 26 rfl (by decide) H (fun _ H => ?_) (fun _ H => ?_)
      · refine s_const (-1) 0 13 rfl k_ic_m1 ?_
        exact s_iret 0 14 rfl rfl (hr _ _ (k_sat_some H))
      · refine s_iloadn 0 10 rfl rfl ?_
        refine s_bipush 60 0 11 rfl k_ib_60 ?_
        refine s_icmp_le 0 12 28 rfl (by decide) H (fun _ H => ?_) (fun _ H => ?_)
        · refine s_iloadn 0 15 rfl rfl ?_
          refine s_if_ge 1 0 35 rfl (by decide) H (fun _ H => ?_) (fun _ H => ?_)
          · refine s_aloadn 1 3 rfl rfl ?_
            refine s_getr 1 4 rfl k_fl9 rfl rfl rfl rfl ?_
            refine s_iloadn 1 5 rfl rfl ?_
            refine s_iloadn 1 6 rfl rfl ?_
            refine s_iloadn 1 7 rfl rfl ?_
            refine s_cvv3 (M' := MX8_hold) 1 8 rfl k_ml58 vvX8_hold rfl rfl (Nat.le_of_ble_eq_true rfl) rfl (c_Shelves_hold g _ _ _ (k_sat_bind H)) (fun _ u3 H => ?_)
            refine s_const 1 1 9 rfl k_ic_1 ?_
            exact s_iret 1 10 rfl rfl (hr _ _ (k_sat_some H))
          · refine s_bipush (-14) 1 1 rfl k_ib_m14 ?_
            exact s_iret 1 2 rfl rfl (hr _ _ (k_sat_some H))
        · refine s_const (-1) 0 13 rfl k_ic_m1 ?_
          exact s_iret 0 14 rfl rfl (hr _ _ (k_sat_some H))
set_option maxRecDepth 100000 in
theorem t_R_row_B54 (g : k_G)  (v1 : Int32) (v4 : Int32)  {u : k_S} {QQ : ((Int32) ⊕ Unit) → k_S → Prop} {Q : Option Value → k_S → Prop} (hb : ∀ (x : (Int32)) (u' : k_S), QQ (.inl x) u' → k_W g 3 MX12_row 54 [(0, .ref 42), (1, .int v1), (4, .int x)] [] u' Q) (he : ∀ (y : Unit) (u' : k_S), QQ (.inr y) u' → k_W g 3 MX12_row 80 [] [] u' Q) (H : k_sat (f_R_row_B54  v1 v4 u) QQ) : k_W g 3 MX12_row 54 [(0, .ref 42), (1, .int v1), (4, .int v4)] [] u Q := by
  refine s_iload 2 1 rfl rfl ?_
  refine s_bipush 60 2 2 rfl k_ib_60 ?_
  refine s_iloadn 2 3 rfl rfl ?_
  refine s_imul 2 4 rfl ?_
  refine s_bipush 60 2 5 rfl k_ib_60 ?_
  refine s_iadd 2 6 rfl ?_
  refine s_icmp_ge 2 7 80 rfl (by decide) H (fun _ H => ?_) (fun _ H => ?_)
  · exact k_via (he _ _ (k_sat_some H)) trivial
  · refine s_aloadn 2 8 rfl rfl ?_
    refine s_getr 2 9 rfl k_fl119 rfl rfl rfl rfl ?_
    refine s_iload 2 10 rfl rfl ?_
    refine s_lconst 0 2 11 rfl k_lc_0 ?_
    refine s_last 2 12 rfl rfl H (fun u8 H => ?_)
    refine s_iinc 2 13 rfl rfl rfl ?_
    refine s_goto 2 14 54 rfl (by decide) ?_
    exact k_via (hb _ _ (k_sat_some H)) ⟨rfl, rfl, rfl, trivial⟩
set_option maxRecDepth 100000 in
theorem l_R_row_B54 (g : k_G)  (v1 : Int32) {Q : Option Value → k_S → Prop} {K : Unit → k_S → Prop} (he : ∀ (y : Unit) (u' : k_S), K (y) u' → k_W g 3 MX12_row 80 [] [] u' Q) : ∀ (n : Nat) (x : (Int32)) (u : k_S), k_sat (k_itr (fun (x : (Int32)) u => f_R_row_B54  v1 x u) n x u) K → k_W g 3 MX12_row 54 [(0, .ref 42), (1, .int v1), (4, .int x)] [] u Q :=
  k_loop (P := fun (x : (Int32)) u => k_W g 3 MX12_row 54 [(0, .ref 42), (1, .int v1), (4, .int x)] [] u Q) (fun (x : (Int32)) u H => t_R_row_B54 g  v1 x  (fun x u' h => h) (fun y u' h => he y u' h) H)
set_option maxRecDepth 100000 in
theorem c_R_row (g : k_G)  (p1 : Int32) (p2 : Int32) (p3 : Int32) {u : k_S} {QQ : Int32 → k_S → Prop} (H : k_sat (f_R_row  p1 p2 p3 u) QQ) : k_OK g 3 MX12_row [.ref 42, .int p1, .int p2, .int p3] u (k_qi QQ) := by
  have hr : ∀ (r : Int32) (u' : k_S), QQ (r) u' → (k_qi QQ) (some (.int r)) u' := fun r u' h => ⟨_, rfl, h⟩
  refine k_OK.ofW pfX12_row (k_tab_of MX12_row_dec) rfl ?_
  refine s_iloadn 0 0 rfl rfl ?_
  refine s_csi1 (M' := MX12_isShelf) 0 1 rfl k_ml263 vvX12_isShelf (Nat.le_of_ble_eq_true rfl) rfl (c_R_isShelf g _ (k_sat_bind H)) (fun r2 u1 H => ?_)
  refine s_if_eq 0 2 22 rfl (by decide) H (fun _ H => ?_) (fun _ H => ?_)
  · refine s_const (-1) 0 11 rfl k_ic_m1 ?_
    exact s_iret 0 12 rfl rfl (hr _ _ (k_sat_some H))
  · refine s_iloadn 0 3 rfl rfl ?_
    refine s_const 0 0 4 rfl k_ic_0 ?_
    refine s_const 4 0 5 rfl k_ic_4 ?_
    refine s_csi3 (M' := MX12_in) 0 6 rfl k_ml230 vvX12_in (Nat.le_of_ble_eq_true rfl) rfl (c_R_in g _ _ _ (k_sat_bind H)) (fun r4 u3 H => ?_)
    refine s_if_eq 0 7 22 rfl (by decide) H (fun _ H => ?_) (fun _ H => ?_)
    · refine s_const (-1) 0 11 rfl k_ic_m1 ?_
      exact s_iret 0 12 rfl rfl (hr _ _ (k_sat_some H))
    · refine s_iloadn 0 8 rfl rfl ?_
      refine s_bipush 60 0 9 rfl k_ib_60 ?_
      refine s_icmp_le 0 10 24 rfl (by decide) H (fun _ H => ?_) (fun _ H => ?_)
      · refine s_iloadn 0 13 rfl rfl ?_
        refine s_if_ge 0 14 31 rfl (by decide) H (fun _ H => ?_) (fun _ H => ?_)
        · refine s_aloadn 1 1 rfl rfl ?_
          refine s_getr 1 2 rfl k_fl117 rfl rfl rfl rfl ?_
          refine s_iloadn 1 3 rfl rfl ?_
          refine s_bipush (-2) 1 4 rfl k_ib_m2 ?_
          refine s_iloadn 1 5 rfl rfl ?_
          refine s_isub 1 6 rfl ?_
          refine s_iast 1 7 rfl rfl H (fun u5 H => ?_)
          refine s_aloadn 1 8 rfl rfl ?_
          refine s_getr 1 9 rfl k_fl118 rfl rfl rfl rfl ?_
          refine s_iloadn 1 10 rfl rfl ?_
          refine s_iloadn 1 11 rfl rfl ?_
          refine s_iast 1 12 rfl rfl H (fun u6 H => ?_)
          refine s_bipush 60 1 13 rfl k_ib_60 ?_
          refine s_iloadn 1 14 rfl rfl ?_
          refine s_imul 1 15 rfl ?_
          refine k_topi H (fun t7 H => ?_)
          refine s_istore 2 0 rfl rfl ?_
          refine k_via (l_R_row_B54 g  p1 ?_ _ _ _ (k_sat_bind H)) ⟨rfl, rfl, rfl, trivial⟩
          · intro y10 u9 H
            refine s_const 1 2 15 rfl k_ic_1 ?_
            exact s_iret 3 0 rfl rfl (hr _ _ (k_sat_some H))
        · refine s_bipush (-14) 0 15 rfl k_ib_m14 ?_
          exact s_iret 1 0 rfl rfl (hr _ _ (k_sat_some H))
      · refine s_const (-1) 0 11 rfl k_ic_m1 ?_
        exact s_iret 0 12 rfl rfl (hr _ _ (k_sat_some H))
set_option maxRecDepth 100000 in
theorem c_Shelves_refusalAt (g : k_G)  (p1 : Int32) (p2 : Int32) {u : k_S} {QQ : Int32 → k_S → Prop} (H : k_sat (f_Shelves_refusalAt  p1 p2 u) QQ) : k_OK g 3 MX8_refusalAt [.ref 38, .int p1, .int p2] u (k_qi QQ) := by
  have hr : ∀ (r : Int32) (u' : k_S), QQ (r) u' → (k_qi QQ) (some (.int r)) u' := fun r u' h => ⟨_, rfl, h⟩
  refine k_OK.ofW pfX8_refusalAt (k_tab_of MX8_refusalAt_dec) rfl ?_
  refine s_aloadn 0 0 rfl rfl ?_
  refine s_iloadn 0 1 rfl rfl ?_
  refine s_cvi1 (M' := MX8_heldBy) 0 2 rfl k_ml139 vvX8_heldBy rfl rfl (Nat.le_of_ble_eq_true rfl) rfl (c_Shelves_heldBy g _ (k_sat_bind H)) (fun r2 u1 H => ?_)
  refine s_istoren 0 3 rfl rfl ?_
  refine s_iloadn 0 4 rfl rfl ?_
  refine s_const (-1) 0 5 rfl k_ic_m1 ?_
  refine s_icmp_ne 0 6 14 rfl (by decide) H (fun _ H => ?_) (fun _ H => ?_)
  · refine s_iloadn 0 9 rfl rfl ?_
    refine s_const 5 0 10 rfl k_ic_5 ?_
    refine s_icmp_ne 0 11 22 rfl (by decide) H (fun _ H => ?_) (fun _ H => ?_)
    · refine s_iloadn 0 14 rfl rfl ?_
      refine s_if_lt 0 15 39 rfl (by decide) H (fun _ H => ?_) (fun _ H => ?_)
      · refine s_bipush (-13) 1 7 rfl k_ib_m13 ?_
        exact s_iret 1 8 rfl rfl (hr _ _ (k_sat_some H))
      · refine s_iloadn 1 0 rfl rfl ?_
        refine s_aloadn 1 1 rfl rfl ?_
        refine s_iloadn 1 2 rfl rfl ?_
        refine s_cvi1 (M' := MX8_sizeOf) 1 3 rfl k_ml140 vvX8_sizeOf rfl rfl (Nat.le_of_ble_eq_true rfl) rfl (c_Shelves_sizeOf g _ (k_sat_bind H)) (fun r4 u3 H => ?_)
        refine s_icmp_ge 1 4 39 rfl (by decide) H (fun _ H => ?_) (fun _ H => ?_)
        · refine s_bipush (-13) 1 7 rfl k_ib_m13 ?_
          exact s_iret 1 8 rfl rfl (hr _ _ (k_sat_some H))
        · refine s_const 0 1 5 rfl k_ic_0 ?_
          refine s_goto 1 6 41 rfl (by decide) ?_
          exact s_iret 1 8 rfl rfl (hr _ _ (k_sat_some H))
    · refine s_bipush (-12) 0 12 rfl k_ib_m12 ?_
      exact s_iret 0 13 rfl rfl (hr _ _ (k_sat_some H))
  · refine s_bipush (-11) 0 7 rfl k_ib_m11 ?_
    exact s_iret 0 8 rfl rfl (hr _ _ (k_sat_some H))
set_option maxRecDepth 100000 in
theorem c_Shelves_lowest (g : k_G)  (p0 : Int32) (p1 : Int64) {u : k_S} {QQ : Int64 → k_S → Prop} (H : k_sat (f_Shelves_lowest  p0 p1 u) QQ) : k_OK g 1 MX8_lowest [.int p0, .long p1] u (k_ql QQ) := by
  have hr : ∀ (r : Int64) (u' : k_S), QQ (r) u' → (k_ql QQ) (some (.long r)) u' := fun r u' h => ⟨_, rfl, h⟩
  refine k_OK.ofW pfX8_lowest (k_tab_of MX8_lowest_dec) rfl ?_
  refine s_iloadn 0 0 rfl rfl ?_
  by_cases e0 : p0 = 0
  · replace H := k_sat_pos H e0
    refine s_table 0 1 32 rfl 0 e0 (by decide) (by decide) (off := 31) (by decide) (by decide) ?_
    refine s_lloadn 0 2 rfl rfl ?_
    refine s_l2i 0 3 rfl ?_
    refine s_i2b 0 4 rfl ?_
    refine s_i2l 0 5 rfl ?_
    exact s_lret 0 6 rfl rfl (hr _ _ (k_sat_some H))
  · replace H := k_sat_neg H e0
    by_cases e1 : p0 = 1
    · replace H := k_sat_pos H e1
      refine s_table 0 1 37 rfl 1 e1 (by decide) (by decide) (off := 36) (by decide) (by decide) ?_
      refine s_lloadn 0 7 rfl rfl ?_
      refine s_l2i 0 8 rfl ?_
      refine s_i2s 0 9 rfl ?_
      refine s_i2l 0 10 rfl ?_
      exact s_lret 0 11 rfl rfl (hr _ _ (k_sat_some H))
    · replace H := k_sat_neg H e1
      by_cases e2 : p0 = 2
      · replace H := k_sat_pos H e2
        refine s_table 0 1 42 rfl 2 e2 (by decide) (by decide) (off := 41) (by decide) (by decide) ?_
        refine s_lloadn 0 12 rfl rfl ?_
        refine s_l2i 0 13 rfl ?_
        refine s_i2l 0 14 rfl ?_
        exact s_lret 0 15 rfl rfl (hr _ _ (k_sat_some H))
      · replace H := k_sat_neg H e2
        by_cases e3 : p0 = 3
        · replace H := k_sat_pos H e3
          refine s_table 0 1 46 rfl 3 e3 (by decide) (by decide) (off := 45) (by decide) (by decide) ?_
          refine s_lloadn 1 0 rfl rfl ?_
          exact s_lret 1 1 rfl rfl (hr _ _ (k_sat_some H))
        · replace H := k_sat_neg H e3
          refine s_tableOut (x := p0) 0 1 48 rfl (by have e0 := lv_neT (a := 0) e0 (by decide); have e1 := lv_neT (a := 1) e1 (by decide); have e2 := lv_neT (a := 2) e2 (by decide); have e3 := lv_neT (a := 3) e3 (by decide); omega) (by decide) ?_
          refine s_lloadn 1 2 rfl rfl ?_
          refine s_lconst 0 1 3 rfl k_lc_0 ?_
          refine s_lcmp 1 4 rfl ?_
          refine s_if_eq 1 5 58 rfl (by decide) H (fun _ H => ?_) (fun _ H => ?_)
          · refine s_lconst 0 1 8 rfl k_lc_0 ?_
            exact s_lret 1 9 rfl rfl (hr _ _ (k_sat_some H))
          · refine s_lconst 1 1 6 rfl k_lc_1 ?_
            refine s_goto 1 7 59 rfl (by decide) ?_
            exact s_lret 1 9 rfl rfl (hr _ _ (k_sat_some H))
set_option maxRecDepth 100000 in
theorem c_Shelves_write (g : k_G)  (p1 : Int32) (p2 : Int32) (p3 : Int64) {u : k_S} {QQ : Unit → k_S → Prop} (H : k_sat (f_Shelves_write  p1 p2 p3 u) QQ) : k_OK g 3 MX8_write [.ref 38, .int p1, .int p2, .long p3] u (k_qv QQ) := by
  have hr : ∀ (r : Unit) (u' : k_S), QQ (r) u' → (k_qv QQ) (none) u' := fun r u' h => ⟨rfl, h⟩
  refine k_OK.ofW pfX8_write (k_tab_of MX8_write_dec) rfl ?_
  refine s_bipush 60 0 0 rfl k_ib_60 ?_
  refine s_iloadn 0 1 rfl rfl ?_
  refine s_imul 0 2 rfl ?_
  refine s_iloadn 0 3 rfl rfl ?_
  refine s_iadd 0 4 rfl ?_
  refine k_topi H (fun t1 H => ?_)
  refine s_istore 0 5 rfl rfl ?_
  refine s_iload 0 6 rfl rfl ?_
  refine s_if_lt 0 7 39 rfl (by decide) H (fun _ H => ?_) (fun _ H => ?_)
  · exact s_ret 1 6 rfl rfl (hr _ _ (k_sat_some H))
  · refine s_iload 0 8 rfl rfl ?_
    refine s_aloadn 0 9 rfl rfl ?_
    refine s_getr 0 10 rfl k_fl79 rfl rfl rfl rfl ?_
    refine s_alen 360 0 11 rfl rfl k_ln_360 ?_
    refine s_icmp_ge 0 12 39 rfl (by decide) H (fun _ H => ?_) (fun _ H => ?_)
    · exact s_ret 1 6 rfl rfl (hr _ _ (k_sat_some H))
    · refine s_aloadn 0 13 rfl rfl ?_
      refine s_getr 0 14 rfl k_fl79 rfl rfl rfl rfl ?_
      refine s_iload 0 15 rfl rfl ?_
      refine s_aloadn 1 0 rfl rfl ?_
      refine s_iloadn 1 1 rfl rfl ?_
      refine s_cvi1 (M' := MX8_heldBy) 1 2 rfl k_ml139 vvX8_heldBy rfl rfl (Nat.le_of_ble_eq_true rfl) rfl (c_Shelves_heldBy g _ (k_sat_bind H)) (fun r3 u2 H => ?_)
      refine s_lloadn 1 3 rfl rfl ?_
      refine s_csl2 (M' := MX8_lowest) 1 4 rfl k_ml141 vvX8_lowest (Nat.le_of_ble_eq_true rfl) rfl (c_Shelves_lowest g _ _ (k_sat_bind H)) (fun r5 u4 H => ?_)
      refine s_last 1 5 rfl rfl H (fun u6 H => ?_)
      exact s_ret 1 6 rfl rfl (hr _ _ (k_sat_some H))
set_option maxRecDepth 100000 in
theorem c_W_put (g : k_G)  (p1 : Int32) (p2 : Int32) (p3 : Int64) {u : k_S} {QQ : Int32 → k_S → Prop} (H : k_sat (f_W_put  p1 p2 p3 u) QQ) : k_OK g 4 MX11_put [.ref 0, .int p1, .int p2, .long p3] u (k_qi QQ) := by
  have hr : ∀ (r : Int32) (u' : k_S), QQ (r) u' → (k_qi QQ) (some (.int r)) u' := fun r u' h => ⟨_, rfl, h⟩
  refine k_OK.ofW pfX11_put (k_tab_of MX11_put_dec) rfl ?_
  refine s_aloadn 0 0 rfl rfl ?_
  refine s_getr 0 1 rfl k_fl9 rfl rfl rfl rfl ?_
  refine s_iloadn 0 2 rfl rfl ?_
  refine s_cvi1 (M' := MX8_has) 0 3 rfl k_ml40 vvX8_has rfl rfl (Nat.le_of_ble_eq_true rfl) rfl (c_Shelves_has g _ (k_sat_bind H)) (fun r2 u1 H => ?_)
  refine s_if_ne 0 4 13 rfl (by decide) H (fun _ H => ?_) (fun _ H => ?_)
  · refine s_aloadn 0 7 rfl rfl ?_
    refine s_getr 0 8 rfl k_fl9 rfl rfl rfl rfl ?_
    refine s_iloadn 0 9 rfl rfl ?_
    refine s_iloadn 0 10 rfl rfl ?_
    refine s_cvi2 (M' := MX8_refusalAt) 0 11 rfl k_ml59 vvX8_refusalAt rfl rfl (Nat.le_of_ble_eq_true rfl) rfl (c_Shelves_refusalAt g _ _ (k_sat_bind H)) (fun r4 u3 H => ?_)
    refine s_istore 0 12 rfl rfl ?_
    refine s_iload 0 13 rfl rfl ?_
    refine s_if_eq 0 14 32 rfl (by decide) H (fun _ H => ?_) (fun _ H => ?_)
    · refine s_aloadn 1 1 rfl rfl ?_
      refine s_getr 1 2 rfl k_fl9 rfl rfl rfl rfl ?_
      refine s_iloadn 1 3 rfl rfl ?_
      refine s_iloadn 1 4 rfl rfl ?_
      refine s_lloadn 1 5 rfl rfl ?_
      refine s_cvv3 (M' := MX8_write) 1 6 rfl k_ml60 vvX8_write rfl rfl (Nat.le_of_ble_eq_true rfl) rfl (c_Shelves_write g _ _ _ (k_sat_bind H)) (fun _ u5 H => ?_)
      refine s_const 1 1 7 rfl k_ic_1 ?_
      exact s_iret 1 8 rfl rfl (hr _ _ (k_sat_some H))
    · refine s_iload 0 15 rfl rfl ?_
      exact s_iret 1 0 rfl rfl (hr _ _ (k_sat_some H))
  · refine s_const (-1) 0 5 rfl k_ic_m1 ?_
    exact s_iret 0 6 rfl rfl (hr _ _ (k_sat_some H))
set_option maxRecDepth 100000 in
theorem c_R_whyNoPlace (g : k_G)  (p1 : Int32) (p2 : Int32) {u : k_S} {QQ : Int32 → k_S → Prop} (H : k_sat (f_R_whyNoPlace  p1 p2 u) QQ) : k_OK g 3 MX12_whyNoPlace [.ref 42, .int p1, .int p2] u (k_qi QQ) := by
  have hr : ∀ (r : Int32) (u' : k_S), QQ (r) u' → (k_qi QQ) (some (.int r)) u' := fun r u' h => ⟨_, rfl, h⟩
  refine k_OK.ofW pfX12_whyNoPlace (k_tab_of MX12_whyNoPlace_dec) rfl ?_
  refine s_iloadn 0 0 rfl rfl ?_
  refine s_csi1 (M' := MX12_isShelf) 0 1 rfl k_ml263 vvX12_isShelf (Nat.le_of_ble_eq_true rfl) rfl (c_R_isShelf g _ (k_sat_bind H)) (fun r2 u1 H => ?_)
  refine s_if_ne 0 2 9 rfl (by decide) H (fun _ H => ?_) (fun _ H => ?_)
  · refine s_aloadn 0 5 rfl rfl ?_
    refine s_getr 0 6 rfl k_fl117 rfl rfl rfl rfl ?_
    refine s_iloadn 0 7 rfl rfl ?_
    refine s_iald 0 8 rfl rfl H (fun _ H => ?_)
    refine s_const (-1) 0 9 rfl k_ic_m1 ?_
    refine s_icmp_ne 0 10 22 rfl (by decide) H (fun _ H => ?_) (fun _ H => ?_)
    · refine s_aloadn 0 13 rfl rfl ?_
      refine s_getr 0 14 rfl k_fl117 rfl rfl rfl rfl ?_
      refine s_iloadn 0 15 rfl rfl ?_
      refine s_iald 1 0 rfl rfl H (fun _ H => ?_)
      refine s_if_lt 1 1 34 rfl (by decide) H (fun _ H => ?_) (fun _ H => ?_)
      · refine s_iloadn 1 4 rfl rfl ?_
        refine s_const 0 1 5 rfl k_ic_0 ?_
        refine s_aloadn 1 6 rfl rfl ?_
        refine s_getr 1 7 rfl k_fl118 rfl rfl rfl rfl ?_
        refine s_iloadn 1 8 rfl rfl ?_
        refine s_iald 1 9 rfl rfl H (fun _ H => ?_)
        refine s_const 1 1 10 rfl k_ic_1 ?_
        refine s_isub 1 11 rfl ?_
        refine s_csi3 (M' := MX12_in) 1 12 rfl k_ml230 vvX12_in (Nat.le_of_ble_eq_true rfl) rfl (c_R_in g _ _ _ (k_sat_bind H)) (fun r4 u3 H => ?_)
        refine s_if_eq 1 13 54 rfl (by decide) H (fun _ H => ?_) (fun _ H => ?_)
        · refine s_bipush (-13) 2 0 rfl k_ib_m13 ?_
          exact s_iret 2 1 rfl rfl (hr _ _ (k_sat_some H))
        · refine s_const 0 1 14 rfl k_ic_0 ?_
          refine s_goto 1 15 56 rfl (by decide) ?_
          exact s_iret 2 1 rfl rfl (hr _ _ (k_sat_some H))
      · refine s_bipush (-12) 1 2 rfl k_ib_m12 ?_
        exact s_iret 1 3 rfl rfl (hr _ _ (k_sat_some H))
    · refine s_bipush (-11) 0 11 rfl k_ib_m11 ?_
      exact s_iret 0 12 rfl rfl (hr _ _ (k_sat_some H))
  · refine s_const (-1) 0 3 rfl k_ic_m1 ?_
    exact s_iret 0 4 rfl rfl (hr _ _ (k_sat_some H))
set_option maxRecDepth 100000 in
theorem c_R_put (g : k_G)  (p1 : Int32) (p2 : Int32) (p3 : Int64) {u : k_S} {QQ : Int32 → k_S → Prop} (H : k_sat (f_R_put  p1 p2 p3 u) QQ) : k_OK g 4 MX12_put [.ref 42, .int p1, .int p2, .long p3] u (k_qi QQ) := by
  have hr : ∀ (r : Int32) (u' : k_S), QQ (r) u' → (k_qi QQ) (some (.int r)) u' := fun r u' h => ⟨_, rfl, h⟩
  refine k_OK.ofW pfX12_put (k_tab_of MX12_put_dec) rfl ?_
  refine s_aloadn 0 0 rfl rfl ?_
  refine s_iloadn 0 1 rfl rfl ?_
  refine s_iloadn 0 2 rfl rfl ?_
  refine s_cvi2 (M' := MX12_whyNoPlace) 0 3 rfl k_ml282 vvX12_whyNoPlace rfl rfl (Nat.le_of_ble_eq_true rfl) rfl (c_R_whyNoPlace g _ _ (k_sat_bind H)) (fun r2 u1 H => ?_)
  refine s_istore 0 4 rfl rfl ?_
  refine s_iload 0 5 rfl rfl ?_
  refine s_if_ge 0 6 16 rfl (by decide) H (fun _ H => ?_) (fun _ H => ?_)
  · refine s_bipush (-2) 0 9 rfl k_ib_m2 ?_
    refine s_aloadn 0 10 rfl rfl ?_
    refine s_getr 0 11 rfl k_fl117 rfl rfl rfl rfl ?_
    refine s_iloadn 0 12 rfl rfl ?_
    refine s_iald 0 13 rfl rfl H (fun _ H => ?_)
    refine s_isub 0 14 rfl ?_
    refine k_topi H (fun t3 H => ?_)
    refine s_istore 0 15 rfl rfl ?_
    refine s_aloadn 1 0 rfl rfl ?_
    refine s_getr 1 1 rfl k_fl119 rfl rfl rfl rfl ?_
    refine s_bipush 60 1 2 rfl k_ib_60 ?_
    refine s_iloadn 1 3 rfl rfl ?_
    refine s_imul 1 4 rfl ?_
    refine s_iloadn 1 5 rfl rfl ?_
    refine s_iadd 1 6 rfl ?_
    refine s_iload 1 7 rfl rfl ?_
    refine s_if_ne 1 8 49 rfl (by decide) H (fun _ H => ?_) (fun _ H => ?_)
    · refine s_iload 1 14 rfl rfl ?_
      refine s_const 1 1 15 rfl k_ic_1 ?_
      refine s_icmp_ne 2 0 62 rfl (by decide) H (fun _ H => ?_) (fun _ H => ?_)
      · refine s_iload 2 6 rfl rfl ?_
        refine s_const 2 2 7 rfl k_ic_2 ?_
        refine s_icmp_ne 2 8 74 rfl (by decide) H (fun _ H => ?_) (fun _ H => ?_)
        · refine s_iload 2 13 rfl rfl ?_
          refine s_const 3 2 14 rfl k_ic_3 ?_
          refine s_icmp_ne 2 15 84 rfl (by decide) H (fun _ H => ?_) (fun _ H => ?_)
          · refine s_lloadn 3 2 rfl rfl ?_
            refine s_lconst 0 3 3 rfl k_lc_0 ?_
            refine s_lcmp 3 4 rfl ?_
            refine s_if_eq 3 5 94 rfl (by decide) H (fun _ H => ?_) (fun _ H => ?_)
            · refine s_lconst 0 3 8 rfl k_lc_0 ?_
              refine s_last 3 9 rfl rfl H (fun u4 H => ?_)
              refine s_const 1 3 10 rfl k_ic_1 ?_
              exact s_iret 3 11 rfl rfl (hr _ _ (k_sat_some H))
            · refine s_lconst 1 3 6 rfl k_lc_1 ?_
              refine s_goto 3 7 95 rfl (by decide) ?_
              refine s_last 3 9 rfl rfl H (fun u5 H => ?_)
              refine s_const 1 3 10 rfl k_ic_1 ?_
              exact s_iret 3 11 rfl rfl (hr _ _ (k_sat_some H))
          · refine s_lloadn 3 0 rfl rfl ?_
            refine s_goto 3 1 95 rfl (by decide) ?_
            refine s_last 3 9 rfl rfl H (fun u6 H => ?_)
            refine s_const 1 3 10 rfl k_ic_1 ?_
            exact s_iret 3 11 rfl rfl (hr _ _ (k_sat_some H))
        · refine s_lloadn 2 9 rfl rfl ?_
          refine s_l2i 2 10 rfl ?_
          refine s_i2l 2 11 rfl ?_
          refine s_goto 2 12 95 rfl (by decide) ?_
          refine s_last 3 9 rfl rfl H (fun u7 H => ?_)
          refine s_const 1 3 10 rfl k_ic_1 ?_
          exact s_iret 3 11 rfl rfl (hr _ _ (k_sat_some H))
      · refine s_lloadn 2 1 rfl rfl ?_
        refine s_l2i 2 2 rfl ?_
        refine s_i2s 2 3 rfl ?_
        refine s_i2l 2 4 rfl ?_
        refine s_goto 2 5 95 rfl (by decide) ?_
        refine s_last 3 9 rfl rfl H (fun u8 H => ?_)
        refine s_const 1 3 10 rfl k_ic_1 ?_
        exact s_iret 3 11 rfl rfl (hr _ _ (k_sat_some H))
    · refine s_lloadn 1 9 rfl rfl ?_
      refine s_l2i 1 10 rfl ?_
      refine s_i2b 1 11 rfl ?_
      refine s_i2l 1 12 rfl ?_
      refine s_goto 1 13 95 rfl (by decide) ?_
      refine s_last 3 9 rfl rfl H (fun u9 H => ?_)
      refine s_const 1 3 10 rfl k_ic_1 ?_
      exact s_iret 3 11 rfl rfl (hr _ _ (k_sat_some H))
  · refine s_iload 0 7 rfl rfl ?_
    exact s_iret 0 8 rfl rfl (hr _ _ (k_sat_some H))
set_option maxRecDepth 100000 in
theorem c_W_element (g : k_G)  (p1 : Int32) (p2 : Int32) {u : k_S} {QQ : Int64 → k_S → Prop} (H : k_sat (f_W_element  p1 p2 u) QQ) : k_OK g 4 MX11_element [.ref 0, .int p1, .int p2] u (k_ql QQ) := by
  have hr : ∀ (r : Int64) (u' : k_S), QQ (r) u' → (k_ql QQ) (some (.long r)) u' := fun r u' h => ⟨_, rfl, h⟩
  refine k_OK.ofW pfX11_element (k_tab_of MX11_element_dec) rfl ?_
  refine s_aloadn 0 0 rfl rfl ?_
  refine s_getr 0 1 rfl k_fl9 rfl rfl rfl rfl ?_
  refine s_iloadn 0 2 rfl rfl ?_
  refine s_cvi1 (M' := MX8_has) 0 3 rfl k_ml40 vvX8_has rfl rfl (Nat.le_of_ble_eq_true rfl) rfl (c_Shelves_has g _ (k_sat_bind H)) (fun r2 u1 H => ?_)
  refine s_if_eq 0 4 23 rfl (by decide) H (fun _ H => ?_) (fun _ H => ?_)
  · refine s_ldc2 (-9223372036854775808) 0 11 rfl (k_in (lw_T3 (List.mem_of_getElem? (i := 158) (by decide +kernel))) rfl) ?_
    exact s_lret 0 12 rfl rfl (hr _ _ (k_sat_some H))
  · refine s_aloadn 0 5 rfl rfl ?_
    refine s_getr 0 6 rfl k_fl9 rfl rfl rfl rfl ?_
    refine s_iloadn 0 7 rfl rfl ?_
    refine s_iloadn 0 8 rfl rfl ?_
    refine s_cvi2 (M' := MX8_refusalAt) 0 9 rfl k_ml59 vvX8_refusalAt rfl rfl (Nat.le_of_ble_eq_true rfl) rfl (c_Shelves_refusalAt g _ _ (k_sat_bind H)) (fun r4 u3 H => ?_)
    refine s_if_eq 0 10 27 rfl (by decide) H (fun _ H => ?_) (fun _ H => ?_)
    · refine s_aloadn 0 13 rfl rfl ?_
      refine s_getr 0 14 rfl k_fl9 rfl rfl rfl rfl ?_
      refine s_iloadn 0 15 rfl rfl ?_
      refine s_iloadn 1 0 rfl rfl ?_
      refine s_cvl2 (M' := MX8_valueAt) 1 1 rfl k_ml43 vvX8_valueAt rfl rfl (Nat.le_of_ble_eq_true rfl) rfl (c_Shelves_valueAt g _ _ (k_sat_bind H)) (fun r6 u5 H => ?_)
      exact s_lret 1 2 rfl rfl (hr _ _ (k_sat_some H))
    · refine s_ldc2 (-9223372036854775808) 0 11 rfl (k_in (lw_T3 (List.mem_of_getElem? (i := 158) (by decide +kernel))) rfl) ?_
      exact s_lret 0 12 rfl rfl (hr _ _ (k_sat_some H))
set_option maxRecDepth 100000 in
theorem c_R_element (g : k_G)  (p1 : Int32) (p2 : Int32) {u : k_S} {QQ : Int64 → k_S → Prop} (H : k_sat (f_R_element  p1 p2 u) QQ) : k_OK g 4 MX12_element [.ref 42, .int p1, .int p2] u (k_ql QQ) := by
  have hr : ∀ (r : Int64) (u' : k_S), QQ (r) u' → (k_ql QQ) (some (.long r)) u' := fun r u' h => ⟨_, rfl, h⟩
  refine k_OK.ofW pfX12_element (k_tab_of MX12_element_dec) rfl ?_
  refine s_aloadn 0 0 rfl rfl ?_
  refine s_iloadn 0 1 rfl rfl ?_
  refine s_iloadn 0 2 rfl rfl ?_
  refine s_cvi2 (M' := MX12_whyNoPlace) 0 3 rfl k_ml282 vvX12_whyNoPlace rfl rfl (Nat.le_of_ble_eq_true rfl) rfl (c_R_whyNoPlace g _ _ (k_sat_bind H)) (fun r2 u1 H => ?_)
  refine s_if_ge 0 4 15 rfl (by decide) H (fun _ H => ?_) (fun _ H => ?_)
  · refine s_aloadn 0 7 rfl rfl ?_
    refine s_getr 0 8 rfl k_fl119 rfl rfl rfl rfl ?_
    refine s_bipush 60 0 9 rfl k_ib_60 ?_
    refine s_iloadn 0 10 rfl rfl ?_
    refine s_imul 0 11 rfl ?_
    refine s_iloadn 0 12 rfl rfl ?_
    refine s_iadd 0 13 rfl ?_
    refine s_lald 0 14 rfl rfl H (fun _ H => ?_)
    exact s_lret 0 15 rfl rfl (hr _ _ (k_sat_some H))
  · refine s_ldc2 (-9223372036854775808) 0 5 rfl (k_in (lw_T5 (List.mem_of_getElem? (i := 234) (by decide +kernel))) rfl) ?_
    refine s_goto 0 6 26 rfl (by decide) ?_
    exact s_lret 0 15 rfl rfl (hr _ _ (k_sat_some H))
