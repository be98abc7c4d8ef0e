set_option maxRecDepth 100000 in
theorem c_Now_waitsOf (g : k_G)  (p1 : Int32) {u : k_S} {QQ : Int32 → k_S → Prop} (H : k_sat (f_Now_waitsOf  p1 u) QQ) : k_OK g 1 MX5_waitsOf [.ref 14, .int p1] u (k_qi QQ) := by
  have hr : ∀ (r : Int32) (u' : k_S), QQ (r) u' → (k_qi QQ) (some (.int r)) u' := fun r u' h => ⟨_, rfl, h⟩
  refine k_OK.ofW pfX5_waitsOf (k_tab_of MX5_waitsOf_dec) rfl ?_
  refine s_iloadn 0 0 rfl rfl ?_
  refine s_if_lt 0 1 22 rfl (by decide) H (fun _ H => ?_) (fun _ H => ?_)
  · refine s_const 0 0 12 rfl k_ic_0 ?_
    exact s_iret 0 13 rfl rfl (hr _ _ (k_sat_some H))
  · refine s_iloadn 0 2 rfl rfl ?_
    refine s_aloadn 0 3 rfl rfl ?_
    refine s_getr 0 4 rfl k_fl62 rfl rfl rfl rfl ?_
    refine s_alen 4 0 5 rfl rfl k_ln_4 ?_
    refine s_icmp_ge 0 6 22 rfl (by decide) H (fun _ H => ?_) (fun _ H => ?_)
    · refine s_const 0 0 12 rfl k_ic_0 ?_
      exact s_iret 0 13 rfl rfl (hr _ _ (k_sat_some H))
    · refine s_aloadn 0 7 rfl rfl ?_
      refine s_getr 0 8 rfl k_fl62 rfl rfl rfl rfl ?_
      refine s_iloadn 0 9 rfl rfl ?_
      refine s_iald 0 10 rfl rfl H (fun _ H => ?_)
      refine s_goto 0 11 23 rfl (by decide) ?_
      exact s_iret 0 13 rfl rfl (hr _ _ (k_sat_some H))
set_option maxRecDepth 100000 in
theorem c_W_of (g : k_G)  (p1 : Int32) (p2 : Int32) {u : k_S} {QQ : Int32 → k_S → Prop} (H : k_sat (f_W_of  p1 p2 u) QQ) : k_OK g 3 MX11_of [.ref 0, .int p1, .int p2] u (k_qi QQ) := by
  have hr : ∀ (r : Int32) (u' : k_S), QQ (r) u' → (k_qi QQ) (some (.int r)) u' := fun r u' h => ⟨_, rfl, h⟩
  refine k_OK.ofW pfX11_of (k_tab_of MX11_of_dec) rfl ?_
  refine s_aloadn 0 0 rfl rfl ?_
  refine s_getr 0 1 rfl k_fl1 rfl rfl rfl rfl ?_
  refine s_iloadn 0 2 rfl rfl ?_
  refine s_cvi1 (M' := MX10_has) 0 3 rfl k_ml14 vvX10_has rfl rfl (Nat.le_of_ble_eq_true rfl) rfl (c_Wheels_has g _ (k_sat_bind H)) (fun r2 u1 H => ?_)
  refine s_if_ne 0 4 13 rfl (by decide) H (fun _ H => ?_) (fun _ H => ?_)
  · refine s_iloadn 0 7 rfl rfl ?_
    by_cases e0 : p2 = 0
    · replace H := k_sat_pos H e0
      refine s_table 0 8 44 rfl 0 e0 (by decide) (by decide) (off := 30) (by decide) (by decide) ?_
      refine s_aloadn 0 9 rfl rfl ?_
      refine s_getr 0 10 rfl k_fl1 rfl rfl rfl rfl ?_
      refine s_iloadn 0 11 rfl rfl ?_
      refine s_cvi1 (M' := MX10_sizeOf) 0 12 rfl k_ml22 vvX10_sizeOf rfl rfl (Nat.le_of_ble_eq_true rfl) rfl (c_Wheels_sizeOf g _ (k_sat_bind H)) (fun r4 u3 H => ?_)
      exact s_iret 0 13 rfl rfl (hr _ _ (k_sat_some H))
    · replace H := k_sat_neg H e0
      by_cases e1 : p2 = 1
      · replace H := k_sat_pos H e1
        refine s_table 0 8 53 rfl 1 e1 (by decide) (by decide) (off := 39) (by decide) (by decide) ?_
        refine s_aloadn 0 14 rfl rfl ?_
        refine s_getr 0 15 rfl k_fl3 rfl rfl rfl rfl ?_
        refine s_getr 1 0 rfl k_fl15 rfl rfl rfl rfl ?_
        refine s_iloadn 1 1 rfl rfl ?_
        refine s_cvi1 (M' := MX5_placeOf) 1 2 rfl k_ml23 vvX5_placeOf rfl rfl (Nat.le_of_ble_eq_true rfl) rfl (c_Now_placeOf g _ (k_sat_bind H)) (fun r6 u5 H => ?_)
        exact s_iret 1 3 rfl rfl (hr _ _ (k_sat_some H))
      · replace H := k_sat_neg H e1
        by_cases e2 : p2 = 2
        · replace H := k_sat_pos H e2
          refine s_table 0 8 65 rfl 2 e2 (by decide) (by decide) (off := 51) (by decide) (by decide) ?_
          refine s_aloadn 1 4 rfl rfl ?_
          refine s_getr 1 5 rfl k_fl3 rfl rfl rfl rfl ?_
          refine s_getr 1 6 rfl k_fl15 rfl rfl rfl rfl ?_
          refine s_iloadn 1 7 rfl rfl ?_
          refine s_cvi1 (M' := MX5_waitsOf) 1 8 rfl k_ml24 vvX5_waitsOf rfl rfl (Nat.le_of_ble_eq_true rfl) rfl (c_Now_waitsOf g _ (k_sat_bind H)) (fun r8 u7 H => ?_)
          exact s_iret 1 9 rfl rfl (hr _ _ (k_sat_some H))
        · replace H := k_sat_neg H e2
          by_cases e3 : p2 = 3
          · replace H := k_sat_pos H e3
            refine s_table 0 8 77 rfl 3 e3 (by decide) (by decide) (off := 63) (by decide) (by decide) ?_
            refine s_aloadn 1 10 rfl rfl ?_
            refine s_getr 1 11 rfl k_fl1 rfl rfl rfl rfl ?_
            refine s_iloadn 1 12 rfl rfl ?_
            refine s_cvi1 (M' := MX10_breakOf) 1 13 rfl k_ml15 vvX10_breakOf rfl rfl (Nat.le_of_ble_eq_true rfl) rfl (c_Wheels_breakOf g _ (k_sat_bind H)) (fun r10 u9 H => ?_)
            exact s_iret 1 14 rfl rfl (hr _ _ (k_sat_some H))
          · replace H := k_sat_neg H e3
            refine s_tableOut (x := p2) 0 8 86 rfl (by have e0 := lv_neT (a := 0) e0 (by decide); have e1 := lv_neT (a := 1) e1 (by decide); have e2 := lv_neT (a := 2) e2 (by decide); have e3 := lv_neT (a := 3) e3 (by decide); omega) (by decide) ?_
            refine s_iloadn 1 15 rfl rfl ?_
            refine s_bipush 100 2 0 rfl k_ib_100 ?_
            refine s_icmp_lt 2 1 107 rfl (by decide) H (fun _ H => ?_) (fun _ H => ?_)
            · refine s_const (-1) 2 10 rfl k_ic_m1 ?_
              exact s_iret 2 11 rfl rfl (hr _ _ (k_sat_some H))
            · refine s_aloadn 2 2 rfl rfl ?_
              refine s_getr 2 3 rfl k_fl1 rfl rfl rfl rfl ?_
              refine s_iloadn 2 4 rfl rfl ?_
              refine s_iloadn 2 5 rfl rfl ?_
              refine s_bipush 100 2 6 rfl k_ib_100 ?_
              refine s_isub 2 7 rfl ?_
              refine s_cvi2 (M' := MX10_hasPlace) 2 8 rfl k_ml18 vvX10_hasPlace rfl rfl (Nat.le_of_ble_eq_true rfl) rfl (c_Wheels_hasPlace g _ _ (k_sat_bind H)) (fun r12 u11 H => ?_)
              refine s_if_ne 2 9 109 rfl (by decide) H (fun _ H => ?_) (fun _ H => ?_)
              · refine s_aloadn 2 12 rfl rfl ?_
                refine s_getr 2 13 rfl k_fl1 rfl rfl rfl rfl ?_
                refine s_iloadn 2 14 rfl rfl ?_
                refine s_iloadn 2 15 rfl rfl ?_
                refine s_bipush 100 3 0 rfl k_ib_100 ?_
                refine s_isub 3 1 rfl ?_
                refine s_cvi2 (M' := MX10_letterAt) 3 2 rfl k_ml20 vvX10_letterAt rfl rfl (Nat.le_of_ble_eq_true rfl) rfl (c_Wheels_letterAt g _ _ (k_sat_bind H)) (fun r14 u13 H => ?_)
                exact s_iret 3 3 rfl rfl (hr _ _ (k_sat_some H))
              · refine s_const (-1) 2 10 rfl k_ic_m1 ?_
                exact s_iret 2 11 rfl rfl (hr _ _ (k_sat_some H))
  · refine s_const (-1) 0 5 rfl k_ic_m1 ?_
    exact s_iret 0 6 rfl rfl (hr _ _ (k_sat_some H))
set_option maxRecDepth 100000 in
theorem c_R_of (g : k_G)  (p1 : Int32) (p2 : Int32) {u : k_S} {QQ : Int32 → k_S → Prop} (H : k_sat (f_R_of  p1 p2 u) QQ) : k_OK g 3 MX12_of [.ref 42, .int p1, .int p2] u (k_qi QQ) := by
  have hr : ∀ (r : Int32) (u' : k_S), QQ (r) u' → (k_qi QQ) (some (.int r)) u' := fun r u' h => ⟨_, rfl, h⟩
  refine k_OK.ofW pfX12_of (k_tab_of MX12_of_dec) rfl ?_
  refine s_aloadn 0 0 rfl rfl ?_
  refine s_iloadn 0 1 rfl rfl ?_
  refine s_cvi1 (M' := MX12_isWheel) 0 2 rfl k_ml251 vvX12_isWheel rfl rfl (Nat.le_of_ble_eq_true rfl) rfl (c_R_isWheel g _ (k_sat_bind H)) (fun r2 u1 H => ?_)
  refine s_if_ne 0 3 10 rfl (by decide) H (fun _ H => ?_) (fun _ H => ?_)
  · refine s_iloadn 0 6 rfl rfl ?_
    refine s_bipush 100 0 7 rfl k_ib_100 ?_
    refine s_bipush 99 0 8 rfl k_ib_99 ?_
    refine s_aloadn 0 9 rfl rfl ?_
    refine s_getr 0 10 rfl k_fl89 rfl rfl rfl rfl ?_
    refine s_iloadn 0 11 rfl rfl ?_
    refine s_iald 0 12 rfl rfl H (fun _ H => ?_)
    refine s_iadd 0 13 rfl ?_
    refine s_csi3 (M' := MX12_in) 0 14 rfl k_ml230 vvX12_in (Nat.le_of_ble_eq_true rfl) rfl (c_R_in g _ _ _ (k_sat_bind H)) (fun r4 u3 H => ?_)
    refine s_if_eq 0 15 43 rfl (by decide) H (fun _ H => ?_) (fun _ H => ?_)
    · refine s_iloadn 1 11 rfl rfl ?_
      by_cases e0 : p2 = 0
      · replace H := k_sat_pos H e0
        refine s_table 1 12 76 rfl 0 e0 (by decide) (by decide) (off := 32) (by decide) (by decide) ?_
        refine s_aloadn 1 13 rfl rfl ?_
        refine s_getr 1 14 rfl k_fl89 rfl rfl rfl rfl ?_
        refine s_iloadn 1 15 rfl rfl ?_
        refine s_iald 2 0 rfl rfl H (fun _ H => ?_)
        exact s_iret 2 1 rfl rfl (hr _ _ (k_sat_some H))
      · replace H := k_sat_neg H e0
        by_cases e1 : p2 = 1
        · replace H := k_sat_pos H e1
          refine s_table 1 12 83 rfl 1 e1 (by decide) (by decide) (off := 39) (by decide) (by decide) ?_
          refine s_aloadn 2 2 rfl rfl ?_
          refine s_getr 2 3 rfl k_fl90 rfl rfl rfl rfl ?_
          refine s_iloadn 2 4 rfl rfl ?_
          refine s_iald 2 5 rfl rfl H (fun _ H => ?_)
          exact s_iret 2 6 rfl rfl (hr _ _ (k_sat_some H))
        · replace H := k_sat_neg H e1
          by_cases e2 : p2 = 2
          · replace H := k_sat_pos H e2
            refine s_table 1 12 90 rfl 2 e2 (by decide) (by decide) (off := 46) (by decide) (by decide) ?_
            refine s_aloadn 2 7 rfl rfl ?_
            refine s_getr 2 8 rfl k_fl91 rfl rfl rfl rfl ?_
            refine s_iloadn 2 9 rfl rfl ?_
            refine s_iald 2 10 rfl rfl H (fun _ H => ?_)
            exact s_iret 2 11 rfl rfl (hr _ _ (k_sat_some H))
          · replace H := k_sat_neg H e2
            by_cases e3 : p2 = 3
            · replace H := k_sat_pos H e3
              refine s_table 1 12 97 rfl 3 e3 (by decide) (by decide) (off := 53) (by decide) (by decide) ?_
              refine s_aloadn 2 12 rfl rfl ?_
              refine s_getr 2 13 rfl k_fl92 rfl rfl rfl rfl ?_
              refine s_iloadn 2 14 rfl rfl ?_
              refine s_iald 2 15 rfl rfl H (fun _ H => ?_)
              exact s_iret 3 0 rfl rfl (hr _ _ (k_sat_some H))
            · replace H := k_sat_neg H e3
              refine s_tableOut (x := p2) 1 12 104 rfl (by have e0 := lv_neT (a := 0) e0 (by decide); have e1 := lv_neT (a := 1) e1 (by decide); have e2 := lv_neT (a := 2) e2 (by decide); have e3 := lv_neT (a := 3) e3 (by decide); omega) (by decide) ?_
              refine s_const (-1) 3 1 rfl k_ic_m1 ?_
              exact s_iret 3 2 rfl rfl (hr _ _ (k_sat_some H))
    · refine s_aloadn 1 0 rfl rfl ?_
      refine s_getr 1 1 rfl k_fl88 rfl rfl rfl rfl ?_
      refine s_bipush 40 1 2 rfl k_ib_40 ?_
      refine s_iloadn 1 3 rfl rfl ?_
      refine s_imul 1 4 rfl ?_
      refine s_iloadn 1 5 rfl rfl ?_
      refine s_iadd 1 6 rfl ?_
      refine s_bipush 100 1 7 rfl k_ib_100 ?_
      refine s_isub 1 8 rfl ?_
      refine s_iald 1 9 rfl rfl H (fun _ H => ?_)
      exact s_iret 1 10 rfl rfl (hr _ _ (k_sat_some H))
  · refine s_const (-1) 0 4 rfl k_ic_m1 ?_
    exact s_iret 0 5 rfl rfl (hr _ _ (k_sat_some H))
set_option maxRecDepth 100000 in
theorem c_Now_stand (g : k_G)  (p1 : Int32) (p2 : Int32) (p3 : Int32) {u : k_S} {QQ : Unit → k_S → Prop} (H : k_sat (f_Now_stand  p1 p2 p3 u) QQ) : k_OK g 1 MX5_stand [.ref 14, .int p1, .int p2, .int p3] u (k_qv QQ) := by
  have hr : ∀ (r : Unit) (u' : k_S), QQ (r) u' → (k_qv QQ) (none) u' := fun r u' h => ⟨rfl, h⟩
  refine k_OK.ofW pfX5_stand (k_tab_of MX5_stand_dec) rfl ?_
  refine s_iloadn 0 0 rfl rfl ?_
  refine s_if_lt 0 1 22 rfl (by decide) H (fun _ H => ?_) (fun _ H => ?_)
  · exact s_ret 0 12 rfl rfl (hr _ _ (k_sat_some H))
  · refine s_iloadn 0 2 rfl rfl ?_
    refine s_aloadn 0 3 rfl rfl ?_
    refine s_getr 0 4 rfl k_fl61 rfl rfl rfl rfl ?_
    refine s_alen 4 0 5 rfl rfl k_ln_4 ?_
    refine s_icmp_ge 0 6 22 rfl (by decide) H (fun _ H => ?_) (fun _ H => ?_)
    · exact s_ret 0 12 rfl rfl (hr _ _ (k_sat_some H))
    · refine s_iloadn 0 7 rfl rfl ?_
      refine s_aloadn 0 8 rfl rfl ?_
      refine s_getr 0 9 rfl k_fl62 rfl rfl rfl rfl ?_
      refine s_alen 4 0 10 rfl rfl k_ln_4 ?_
      refine s_icmp_lt 0 11 23 rfl (by decide) H (fun _ H => ?_) (fun _ H => ?_)
      · refine s_aloadn 0 13 rfl rfl ?_
        refine s_getr 0 14 rfl k_fl61 rfl rfl rfl rfl ?_
        refine s_iloadn 0 15 rfl rfl ?_
        refine s_iloadn 1 0 rfl rfl ?_
        refine s_iast 1 1 rfl rfl H (fun u1 H => ?_)
        refine s_aloadn 1 2 rfl rfl ?_
        refine s_getr 1 3 rfl k_fl62 rfl rfl rfl rfl ?_
        refine s_iloadn 1 4 rfl rfl ?_
        refine s_iloadn 1 5 rfl rfl ?_
        refine s_iast 1 6 rfl rfl H (fun u2 H => ?_)
        exact s_ret 1 7 rfl rfl (hr _ _ (k_sat_some H))
      · exact s_ret 0 12 rfl rfl (hr _ _ (k_sat_some H))
set_option maxRecDepth 100000 in
theorem c_W_left (g : k_G)  (p0 : Int32) (p1 : Int32) {u : k_S} {QQ : Int32 → k_S → Prop} (H : k_sat (f_W_left  p0 p1 u) QQ) : k_OK g 1 MX11_left [.int p0, .int p1] u (k_qi QQ) := by
  have hr : ∀ (r : Int32) (u' : k_S), QQ (r) u' → (k_qi QQ) (some (.int r)) u' := fun r u' h => ⟨_, rfl, h⟩
  refine k_OK.ofW pfX11_left (k_tab_of MX11_left_dec) rfl ?_
  refine s_iloadn 0 0 rfl rfl ?_
  refine s_if_ne 0 1 8 rfl (by decide) H (fun _ H => ?_) (fun _ H => ?_)
  · refine s_iloadn 0 4 rfl rfl ?_
    refine s_iloadn 0 5 rfl rfl ?_
    refine s_irem 0 6 rfl (k_sat_nz H).1 ?_
    replace H := (k_sat_nz H).2
    exact s_iret 0 7 rfl rfl (hr _ _ (k_sat_some H))
  · refine s_const 0 0 2 rfl k_ic_0 ?_
    refine s_goto 0 3 11 rfl (by decide) ?_
    exact s_iret 0 7 rfl rfl (hr _ _ (k_sat_some H))
set_option maxRecDepth 100000 in
theorem c_Law_pop (g : k_G)   {u : k_S} {QQ : Int32 → k_S → Prop} (H : k_sat (f_Law_pop   u) QQ) : k_OK g 1 MX3_pop [.ref 7] u (k_qi QQ) := by
  have hr : ∀ (r : Int32) (u' : k_S), QQ (r) u' → (k_qi QQ) (some (.int r)) u' := fun r u' h => ⟨_, rfl, h⟩
  refine k_OK.ofW pfX3_pop (k_tab_of MX3_pop_dec) rfl ?_
  refine s_aloadn 0 0 rfl rfl ?_
  refine s_geti 704 0 1 rfl k_fl54 rfl rfl rfl rfl rfl ?_
  refine s_if_le 0 2 19 rfl (by decide) H (fun _ H => ?_) (fun _ H => ?_)
  · refine s_const 0 0 9 rfl k_ic_0 ?_
    exact s_iret 0 10 rfl rfl (hr _ _ (k_sat_some H))
  · refine s_aloadn 0 3 rfl rfl ?_
    refine s_geti 704 0 4 rfl k_fl54 rfl rfl rfl rfl rfl ?_
    refine s_aloadn 0 5 rfl rfl ?_
    refine s_getr 0 6 rfl k_fl50 rfl rfl rfl rfl ?_
    refine s_alen 128 0 7 rfl rfl k_ln_128 ?_
    refine s_icmp_le 0 8 21 rfl (by decide) H (fun _ H => ?_) (fun _ H => ?_)
    · refine s_aloadn 0 11 rfl rfl ?_
      refine s_dupr 0 12 rfl ?_
      refine s_geti 704 0 13 rfl k_fl54 rfl rfl rfl rfl rfl ?_
      refine s_const 1 0 14 rfl k_ic_1 ?_
      refine s_isub 0 15 rfl ?_
      refine s_puti 704 1 0 rfl k_fl54 rfl rfl rfl rfl rfl rfl rfl rfl rfl H (fun u1 H => ?_)
      refine s_aloadn 1 1 rfl rfl ?_
      refine s_getr 1 2 rfl k_fl50 rfl rfl rfl rfl ?_
      refine s_aloadn 1 3 rfl rfl ?_
      refine s_geti 704 1 4 rfl k_fl54 rfl rfl rfl rfl rfl ?_
      refine s_iald 1 5 rfl rfl H (fun _ H => ?_)
      exact s_iret 1 6 rfl rfl (hr _ _ (k_sat_some H))
    · refine s_const 0 0 9 rfl k_ic_0 ?_
      exact s_iret 0 10 rfl rfl (hr _ _ (k_sat_some H))
set_option maxRecDepth 100000 in
theorem c_Law_resultOf (g : k_G)  (p1 : Int32) (p2 : Int32) (p3 : Int32) (p4 : Int32) {u : k_S} {QQ : Int32 → k_S → Prop} (H : k_sat (f_Law_resultOf  p1 p2 p3 p4 u) QQ) : k_OK g 2 MX3_resultOf [.ref 7, .int p1, .int p2, .int p3, .int p4] u (k_qi QQ) := by
  have hr : ∀ (r : Int32) (u' : k_S), QQ (r) u' → (k_qi QQ) (some (.int r)) u' := fun r u' h => ⟨_, rfl, h⟩
  refine k_OK.ofW pfX3_resultOf (k_tab_of MX3_resultOf_dec) rfl ?_
  refine s_iloadn 0 0 rfl rfl ?_
  by_cases e0 : p1 = (-122)
  · replace H := k_sat_pos H e0
    refine s_lookup 0 1 67 rfl (by decide) (off := 66) (by rw [e0]; decide) (by decide) ?_
    refine s_iloadn 0 8 rfl rfl ?_
    refine s_ldc 1103515245 0 9 rfl (k_in (lw_T2 (List.mem_of_getElem? (i := 49) (by decide +kernel))) rfl) ?_
    refine s_imul 0 10 rfl ?_
    refine s_aloadn 0 11 rfl rfl ?_
    refine s_geti 705 0 12 rfl k_fl55 rfl rfl rfl rfl rfl ?_
    refine s_iadd 0 13 rfl ?_
    refine s_bipush 8 0 14 rfl k_ib_8 ?_
    refine s_iushr 0 15 rfl ?_
    refine s_bipush 10 1 0 rfl k_ib_10 ?_
    refine s_irem 1 1 rfl k_nz_10 ?_
    exact s_iret 1 2 rfl rfl (hr _ _ (k_sat_some H))
  · replace H := k_sat_neg H e0
    by_cases e1 : p1 = (-116)
    · replace H := k_sat_pos H e1
      refine s_lookup 0 1 60 rfl (by decide) (off := 59) (by rw [e1]; decide) (by decide) ?_
      refine s_iloadn 0 2 rfl rfl ?_
      exact s_iret 0 3 rfl rfl (hr _ _ (k_sat_some H))
    · replace H := k_sat_neg H e1
      by_cases e2 : p1 = (-112)
      · replace H := k_sat_pos H e2
        refine s_lookup 0 1 62 rfl (by decide) (off := 61) (by rw [e2]; decide) (by decide) ?_
        refine s_iloadn 0 4 rfl rfl ?_
        exact s_iret 0 5 rfl rfl (hr _ _ (k_sat_some H))
      · replace H := k_sat_neg H e2
        by_cases e3 : p1 = (-107)
        · replace H := k_sat_pos H e3
          refine s_lookup 0 1 64 rfl (by decide) (off := 63) (by rw [e3]; decide) (by decide) ?_
          refine s_iload 0 6 rfl rfl ?_
          exact s_iret 0 7 rfl rfl (hr _ _ (k_sat_some H))
        · replace H := k_sat_neg H e3
          by_cases e4 : p1 = (-33)
          · replace H := k_sat_pos H e4
            refine s_lookup 0 1 83 rfl (by decide) (off := 82) (by rw [e4]; decide) (by decide) ?_
            refine s_aloadn 1 3 rfl rfl ?_
            refine s_cvi0 (M' := MX3_pop) 1 4 rfl k_ml97 vvX3_pop rfl rfl (Nat.le_of_ble_eq_true rfl) rfl (c_Law_pop g (k_sat_bind H)) (fun r2 u1 H => ?_)
            refine s_if_ne 1 5 94 rfl (by decide) H (fun _ H => ?_) (fun _ H => ?_)
            · refine s_const 0 1 8 rfl k_ic_0 ?_
              exact s_iret 1 9 rfl rfl (hr _ _ (k_sat_some H))
            · refine s_const 1 1 6 rfl k_ic_1 ?_
              refine s_goto 1 7 95 rfl (by decide) ?_
              exact s_iret 1 9 rfl rfl (hr _ _ (k_sat_some H))
          · replace H := k_sat_neg H e4
            by_cases e5 : p1 = (-1)
            · replace H := k_sat_pos H e5
              refine s_lookup 0 1 96 rfl (by decide) (off := 95) (by rw [e5]; decide) (by decide) ?_
              refine s_aloadn 1 10 rfl rfl ?_
              refine s_cvi0 (M' := MX3_pop) 1 11 rfl k_ml97 vvX3_pop rfl rfl (Nat.le_of_ble_eq_true rfl) rfl (c_Law_pop g (k_sat_bind H)) (fun r4 u3 H => ?_)
              refine s_ineg 1 12 rfl ?_
              exact s_iret 1 13 rfl rfl (hr _ _ (k_sat_some H))
            · replace H := k_sat_neg H e5
              refine s_lookup 0 1 102 rfl (by decide) (by show Op.lookupswitch.offset [(-122, 66), (-116, 59), (-112, 61), (-107, 63), (-33, 82), (-1, 95)] 101 _ = 101; rw [lv_osw e0 (by decide), lv_osw e1 (by decide), lv_osw e2 (by decide), lv_osw e3 (by decide), lv_osw e4 (by decide), lv_osw e5 (by decide)]; rfl) (by decide) ?_
              refine s_aloadn 1 14 rfl rfl ?_
              refine s_cvi0 (M' := MX3_pop) 1 15 rfl k_ml97 vvX3_pop rfl rfl (Nat.le_of_ble_eq_true rfl) rfl (c_Law_pop g (k_sat_bind H)) (fun r6 u5 H => ?_)
              refine s_istore 2 0 rfl rfl ?_
              refine s_aloadn 2 1 rfl rfl ?_
              refine s_cvi0 (M' := MX3_pop) 2 2 rfl k_ml97 vvX3_pop rfl rfl (Nat.le_of_ble_eq_true rfl) rfl (c_Law_pop g (k_sat_bind H)) (fun r8 u7 H => ?_)
              refine s_istore 2 3 rfl rfl ?_
              refine s_iloadn 2 4 rfl rfl ?_
              by_cases e0 : p1 = (-124)
              · replace H := k_sat_pos H e0
                refine s_lookup 2 5 204 rfl (by decide) (off := 89) (by rw [e0]; decide) (by decide) ?_
                refine s_iload 2 6 rfl rfl ?_
                refine s_if_ne 2 7 214 rfl (by decide) H (fun _ H => ?_) (fun _ H => ?_)
                · refine s_const 1 2 10 rfl k_ic_1 ?_
                  refine s_goto 2 11 219 rfl (by decide) ?_
                  exact s_iret 2 13 rfl rfl (hr _ _ (k_sat_some H))
                · refine s_iload 2 8 rfl rfl ?_
                  refine s_if_eq 2 9 218 rfl (by decide) H (fun _ H => ?_) (fun _ H => ?_)
                  · refine s_const 0 2 12 rfl k_ic_0 ?_
                    exact s_iret 2 13 rfl rfl (hr _ _ (k_sat_some H))
                  · refine s_const 1 2 10 rfl k_ic_1 ?_
                    refine s_goto 2 11 219 rfl (by decide) ?_
                    exact s_iret 2 13 rfl rfl (hr _ _ (k_sat_some H))
              · replace H := k_sat_neg H e0
                by_cases e1 : p1 = (-62)
                · replace H := k_sat_pos H e1
                  refine s_lookup 2 5 262 rfl (by decide) (off := 147) (by rw [e1]; decide) (by decide) ?_
                  refine s_iload 4 4 rfl rfl ?_
                  refine s_iload 4 5 rfl rfl ?_
                  refine s_icmp_le 4 6 273 rfl (by decide) H (fun _ H => ?_) (fun _ H => ?_)
                  · refine s_const 0 4 9 rfl k_ic_0 ?_
                    exact s_iret 4 10 rfl rfl (hr _ _ (k_sat_some H))
                  · refine s_const 1 4 7 rfl k_ic_1 ?_
                    refine s_goto 4 8 274 rfl (by decide) ?_
                    exact s_iret 4 10 rfl rfl (hr _ _ (k_sat_some H))
                · replace H := k_sat_neg H e1
                  by_cases e2 : p1 = (-61)
                  · replace H := k_sat_pos H e2
                    refine s_lookup 2 5 249 rfl (by decide) (off := 134) (by rw [e2]; decide) (by decide) ?_
                    refine s_iload 3 13 rfl rfl ?_
                    refine s_iload 3 14 rfl rfl ?_
                    refine s_icmp_ne 3 15 260 rfl (by decide) H (fun _ H => ?_) (fun _ H => ?_)
                    · refine s_const 0 4 2 rfl k_ic_0 ?_
                      exact s_iret 4 3 rfl rfl (hr _ _ (k_sat_some H))
                    · refine s_const 1 4 0 rfl k_ic_1 ?_
                      refine s_goto 4 1 261 rfl (by decide) ?_
                      exact s_iret 4 3 rfl rfl (hr _ _ (k_sat_some H))
                  · replace H := k_sat_neg H e2
                    by_cases e3 : p1 = (-60)
                    · replace H := k_sat_pos H e3
                      refine s_lookup 2 5 236 rfl (by decide) (off := 121) (by rw [e3]; decide) (by decide) ?_
                      refine s_iload 3 6 rfl rfl ?_
                      refine s_iload 3 7 rfl rfl ?_
                      refine s_icmp_ge 3 8 247 rfl (by decide) H (fun _ H => ?_) (fun _ H => ?_)
                      · refine s_const 0 3 11 rfl k_ic_0 ?_
                        exact s_iret 3 12 rfl rfl (hr _ _ (k_sat_some H))
                      · refine s_const 1 3 9 rfl k_ic_1 ?_
                        refine s_goto 3 10 248 rfl (by decide) ?_
                        exact s_iret 3 12 rfl rfl (hr _ _ (k_sat_some H))
                    · replace H := k_sat_neg H e3
                      by_cases e4 : p1 = (-47)
                      · replace H := k_sat_pos H e4
                        refine s_lookup 2 5 293 rfl (by decide) (off := 178) (by rw [e4]; decide) (by decide) ?_
                        refine s_iload 5 7 rfl rfl ?_
                        refine s_if_ne 5 8 302 rfl (by decide) H (fun _ H => ?_) (fun _ H => ?_)
                        · refine s_iload 5 11 rfl rfl ?_
                          refine s_iload 5 12 rfl rfl ?_
                          refine s_idiv 5 13 rfl (k_sat_nz H).1 ?_
                          replace H := (k_sat_nz H).2
                          exact s_iret 5 14 rfl rfl (hr _ _ (k_sat_some H))
                        · refine s_const 0 5 9 rfl k_ic_0 ?_
                          refine s_goto 5 10 307 rfl (by decide) ?_
                          exact s_iret 5 14 rfl rfl (hr _ _ (k_sat_some H))
                      · replace H := k_sat_neg H e4
                        by_cases e5 : p1 = (-45)
                        · replace H := k_sat_pos H e5
                          refine s_lookup 2 5 281 rfl (by decide) (off := 166) (by rw [e5]; decide) (by decide) ?_
                          refine s_iload 4 15 rfl rfl ?_
                          refine s_iload 5 0 rfl rfl ?_
                          refine s_isub 5 1 rfl ?_
                          exact s_iret 5 2 rfl rfl (hr _ _ (k_sat_some H))
                        · replace H := k_sat_neg H e5
                          by_cases e6 : p1 = (-43)
                          · replace H := k_sat_pos H e6
                            refine s_lookup 2 5 275 rfl (by decide) (off := 160) (by rw [e6]; decide) (by decide) ?_
                            refine s_iload 4 11 rfl rfl ?_
                            refine s_iload 4 12 rfl rfl ?_
                            refine s_iadd 4 13 rfl ?_
                            exact s_iret 4 14 rfl rfl (hr _ _ (k_sat_some H))
                          · replace H := k_sat_neg H e6
                            by_cases e7 : p1 = (-42)
                            · replace H := k_sat_pos H e7
                              refine s_lookup 2 5 287 rfl (by decide) (off := 172) (by rw [e7]; decide) (by decide) ?_
                              refine s_iload 5 3 rfl rfl ?_
                              refine s_iload 5 4 rfl rfl ?_
                              refine s_imul 5 5 rfl ?_
                              exact s_iret 5 6 rfl rfl (hr _ _ (k_sat_some H))
                            · replace H := k_sat_neg H e7
                              by_cases e8 : p1 = (-38)
                              · replace H := k_sat_pos H e8
                                refine s_lookup 2 5 220 rfl (by decide) (off := 105) (by rw [e8]; decide) (by decide) ?_
                                refine s_iload 2 14 rfl rfl ?_
                                refine s_if_eq 2 15 234 rfl (by decide) H (fun _ H => ?_) (fun _ H => ?_)
                                · refine s_const 0 3 4 rfl k_ic_0 ?_
                                  exact s_iret 3 5 rfl rfl (hr _ _ (k_sat_some H))
                                · refine s_iload 3 0 rfl rfl ?_
                                  refine s_if_eq 3 1 234 rfl (by decide) H (fun _ H => ?_) (fun _ H => ?_)
                                  · refine s_const 0 3 4 rfl k_ic_0 ?_
                                    exact s_iret 3 5 rfl rfl (hr _ _ (k_sat_some H))
                                  · refine s_const 1 3 2 rfl k_ic_1 ?_
                                    refine s_goto 3 3 235 rfl (by decide) ?_
                                    exact s_iret 3 5 rfl rfl (hr _ _ (k_sat_some H))
                              · replace H := k_sat_neg H e8
                                by_cases e9 : p1 = (-37)
                                · replace H := k_sat_pos H e9
                                  refine s_lookup 2 5 308 rfl (by decide) (off := 193) (by rw [e9]; decide) (by decide) ?_
                                  refine s_iload 5 15 rfl rfl ?_
                                  refine s_iload 6 0 rfl rfl ?_
                                  refine s_csNi2 (M' := MX11_left) 6 1 rfl k_ml101 vvX11_left (Nat.le_of_ble_eq_true rfl) rfl (c_W_left g _ _ (k_sat_bind H)) (fun r10 u9 H => ?_)
                                  exact s_iret 6 2 rfl rfl (hr _ _ (k_sat_some H))
                                · replace H := k_sat_neg H e9
                                  refine s_lookup 2 5 316 rfl (by decide) (by show Op.lookupswitch.offset [(-124, 89), (-62, 147), (-61, 134), (-60, 121), (-47, 178), (-45, 166), (-43, 160), (-42, 172), (-38, 105), (-37, 193)] 201 _ = 201; rw [lv_osw e0 (by decide), lv_osw e1 (by decide), lv_osw e2 (by decide), lv_osw e3 (by decide), lv_osw e4 (by decide), lv_osw e5 (by decide), lv_osw e6 (by decide), lv_osw e7 (by decide), lv_osw e8 (by decide), lv_osw e9 (by decide)]; rfl) (by decide) ?_
                                  refine s_const 0 6 3 rfl k_ic_0 ?_
                                  exact s_iret 6 4 rfl rfl (hr _ _ (k_sat_some H))
set_option maxRecDepth 100000 in
theorem c_Law_push (g : k_G)  (p1 : Int32) {u : k_S} {QQ : Unit → k_S → Prop} (H : k_sat (f_Law_push  p1 u) QQ) : k_OK g 1 MX3_push [.ref 7, .int p1] u (k_qv QQ) := by
  have hr : ∀ (r : Unit) (u' : k_S), QQ (r) u' → (k_qv QQ) (none) u' := fun r u' h => ⟨rfl, h⟩
  refine k_OK.ofW pfX3_push (k_tab_of MX3_push_dec) rfl ?_
  refine s_aloadn 0 0 rfl rfl ?_
  refine s_geti 704 0 1 rfl k_fl54 rfl rfl rfl rfl rfl ?_
  refine s_if_lt 0 2 19 rfl (by decide) H (fun _ H => ?_) (fun _ H => ?_)
  · exact s_ret 0 9 rfl rfl (hr _ _ (k_sat_some H))
  · refine s_aloadn 0 3 rfl rfl ?_
    refine s_geti 704 0 4 rfl k_fl54 rfl rfl rfl rfl rfl ?_
    refine s_aloadn 0 5 rfl rfl ?_
    refine s_getr 0 6 rfl k_fl50 rfl rfl rfl rfl ?_
    refine s_alen 128 0 7 rfl rfl k_ln_128 ?_
    refine s_icmp_lt 0 8 20 rfl (by decide) H (fun _ H => ?_) (fun _ H => ?_)
    · refine s_aloadn 0 10 rfl rfl ?_
      refine s_getr 0 11 rfl k_fl50 rfl rfl rfl rfl ?_
      refine s_aloadn 0 12 rfl rfl ?_
      refine s_geti 704 0 13 rfl k_fl54 rfl rfl rfl rfl rfl ?_
      refine s_iloadn 0 14 rfl rfl ?_
      refine s_iast 0 15 rfl rfl H (fun u1 H => ?_)
      refine s_aloadn 1 0 rfl rfl ?_
      refine s_dupr 1 1 rfl ?_
      refine s_geti 704 1 2 rfl k_fl54 rfl rfl rfl rfl rfl ?_
      refine s_const 1 1 3 rfl k_ic_1 ?_
      refine s_iadd 1 4 rfl ?_
      refine s_puti 704 1 5 rfl k_fl54 rfl rfl rfl rfl rfl rfl rfl rfl rfl H (fun u2 H => ?_)
      exact s_ret 1 6 rfl rfl (hr _ _ (k_sat_some H))
    · exact s_ret 0 9 rfl rfl (hr _ _ (k_sat_some H))
set_option maxRecDepth 100000 in
theorem c_J_max (g : k_G)  (p0 : Int32) (p1 : Int32) {u : k_S} {QQ : Int32 → k_S → Prop} (H : k_sat (f_J_max  p0 p1 u) QQ) : k_OK g 1 MJ9_max_7cf53 [.int p0, .int p1] u (k_qi QQ) := by
  have hr : ∀ (r : Int32) (u' : k_S), QQ (r) u' → (k_qi QQ) (some (.int r)) u' := fun r u' h => ⟨_, rfl, h⟩
  refine k_OK.ofW pfJ9_max_7cf53 (k_tab_of MJ9_max_7cf53_dec) rfl ?_
  refine s_iloadn 0 0 rfl rfl ?_
  refine s_iloadn 0 1 rfl rfl ?_
  refine s_icmp_lt 0 2 9 rfl (by decide) H (fun _ H => ?_) (fun _ H => ?_)
  · refine s_iloadn 0 5 rfl rfl ?_
    exact s_iret 0 6 rfl rfl (hr _ _ (k_sat_some H))
  · refine s_iloadn 0 3 rfl rfl ?_
    refine s_goto 0 4 10 rfl (by decide) ?_
    exact s_iret 0 6 rfl rfl (hr _ _ (k_sat_some H))
set_option maxRecDepth 100000 in
theorem t_Law_valueAt_B8 (g : k_G)  (v1 : Int32) (v2 : Int32) (v3 : Int32) (v4 : Int32)  {u : k_S} {QQ : ((Int32) ⊕ (Int32 ⊕ Unit)) → k_S → Prop} {Q : Option Value → k_S → Prop} (hr : ∀ (r : Int32) (u' : k_S), QQ (.inr (.inl r)) u' → (Q) (some (.int r)) u') (hb : ∀ (x : (Int32)) (u' : k_S), QQ (.inl x) u' → k_W g 3 MX3_valueAt 8 [(0, .ref 7), (1, .int v1), (2, .int v2), (3, .int v3), (4, .int x)] [] u' Q) (he : ∀ (y : Unit) (u' : k_S), QQ (.inr (.inr y)) u' → k_W g 3 MX3_valueAt 43 [(0, .ref 7)] [] u' Q) (H : k_sat (f_Law_valueAt_B8  v1 v2 v3 v4 u) QQ) : k_W g 3 MX3_valueAt 8 [(0, .ref 7), (1, .int v1), (2, .int v2), (3, .int v3), (4, .int v4)] [] u Q := by
  refine s_iload 0 5 rfl rfl ?_
  refine s_aloadn 0 6 rfl rfl ?_
  refine s_geti 703 0 7 rfl k_fl53 rfl rfl rfl rfl rfl ?_
  refine s_icmp_ge 0 8 114 rfl (by decide) H (fun _ H => ?_) (fun _ H => ?_)
  · refine s_const 0 3 8 rfl k_ic_0 ?_
    exact s_iret 3 9 rfl rfl (hr _ _ (k_sat_some H))
  · refine s_iload 0 9 rfl rfl ?_
    refine s_aloadn 0 10 rfl rfl ?_
    refine s_getr 0 11 rfl k_fl49 rfl rfl rfl rfl ?_
    refine s_alen 128 0 12 rfl rfl k_ln_128 ?_
    refine s_icmp_ge 0 13 114 rfl (by decide) H (fun _ H => ?_) (fun _ H => ?_)
    · refine s_const 0 3 8 rfl k_ic_0 ?_
      exact s_iret 3 9 rfl rfl (hr _ _ (k_sat_some H))
    · refine s_aloadn 0 14 rfl rfl ?_
      refine s_getr 0 15 rfl k_fl49 rfl rfl rfl rfl ?_
      refine s_iload 1 0 rfl rfl ?_
      refine s_iald 1 1 rfl rfl H (fun _ H => ?_)
      refine k_topi H (fun t2 H => ?_)
      refine s_istore 1 2 rfl rfl ?_
      refine s_iload 1 3 rfl rfl ?_
      refine s_bipush (-59) 1 4 rfl k_ib_m59 ?_
      refine s_icmp_ne 1 5 48 rfl (by decide) H (fun _ H => ?_) (fun _ H => ?_)
      · refine s_iload 1 9 rfl rfl ?_
        refine s_sipush 10000 1 10 rfl k_is_10000 ?_
        refine s_icmp_lt 1 11 81 rfl (by decide) H (fun _ H => ?_) (fun _ H => ?_)
        · refine s_iload 2 8 rfl rfl ?_
          refine s_if_lt 2 9 95 rfl (by decide) H (fun _ H => ?_) (fun _ H => ?_)
          · refine s_aloadn 2 14 rfl rfl ?_
            refine s_aloadn 2 15 rfl rfl ?_
            refine s_iload 3 0 rfl rfl ?_
            refine s_iloadn 3 1 rfl rfl ?_
            refine s_iloadn 3 2 rfl rfl ?_
            refine s_iloadn 3 3 rfl rfl ?_
            refine s_cvi4 (M' := MX3_resultOf) 3 4 rfl k_ml100 vvX3_resultOf rfl rfl (Nat.le_of_ble_eq_true rfl) rfl (c_Law_resultOf g _ _ _ _ (k_sat_bind H)) (fun r4 u3 H => ?_)
            refine s_cvv1 (M' := MX3_push) 3 5 rfl k_ml99 vvX3_push rfl rfl (Nat.le_of_ble_eq_true rfl) rfl (c_Law_push g _ (k_sat_bind H)) (fun _ u5 H => ?_)
            refine s_iinc 3 6 rfl rfl rfl ?_
            refine s_goto 3 7 8 rfl (by decide) ?_
            exact k_via (hb _ _ (k_sat_some H)) ⟨rfl, rfl, rfl, rfl, rfl, trivial⟩
          · refine s_aloadn 2 10 rfl rfl ?_
            refine s_iload 2 11 rfl rfl ?_
            refine s_cvv1 (M' := MX3_push) 2 12 rfl k_ml99 vvX3_push rfl rfl (Nat.le_of_ble_eq_true rfl) rfl (c_Law_push g _ (k_sat_bind H)) (fun _ u6 H => ?_)
            refine s_goto 2 13 108 rfl (by decide) ?_
            refine s_iinc 3 6 rfl rfl rfl ?_
            refine s_goto 3 7 8 rfl (by decide) ?_
            exact k_via (hb _ _ (k_sat_some H)) ⟨rfl, rfl, rfl, rfl, rfl, trivial⟩
        · refine s_aloadn 1 12 rfl rfl ?_
          refine s_cvi0 (M' := MX3_pop) 1 13 rfl k_ml97 vvX3_pop rfl rfl (Nat.le_of_ble_eq_true rfl) rfl (c_Law_pop g (k_sat_bind H)) (fun r8 u7 H => ?_)
          refine s_if_ne 1 14 108 rfl (by decide) H (fun _ H => ?_) (fun _ H => ?_)
          · refine s_iinc 3 6 rfl rfl rfl ?_
            refine s_goto 3 7 8 rfl (by decide) ?_
            exact k_via (hb _ _ (k_sat_some H)) ⟨rfl, rfl, rfl, rfl, rfl, trivial⟩
          · refine s_iload 1 15 rfl rfl ?_
            refine s_iload 2 0 rfl rfl ?_
            refine s_sipush 10000 2 1 rfl k_is_10000 ?_
            refine s_isub 2 2 rfl ?_
            refine s_const 1 2 3 rfl k_ic_1 ?_
            refine s_isub 2 4 rfl ?_
            refine s_csi2 (M' := MJ9_max_7cf53) 2 5 rfl k_ml98 vvJ9_max_7cf53 (Nat.le_of_ble_eq_true rfl) rfl (c_J_max g _ _ (k_sat_bind H)) (fun r10 u9 H => ?_)
            refine s_istore 2 6 rfl rfl ?_
            refine s_goto 2 7 108 rfl (by decide) ?_
            refine s_iinc 3 6 rfl rfl rfl ?_
            refine s_goto 3 7 8 rfl (by decide) ?_
            exact k_via (hb _ _ (k_sat_some H)) ⟨rfl, rfl, rfl, rfl, rfl, trivial⟩
      · exact k_via (he _ _ (k_sat_some H)) ⟨rfl, trivial⟩
set_option maxRecDepth 100000 in
theorem l_Law_valueAt_B8 (g : k_G)  (v1 : Int32) (v2 : Int32) (v3 : Int32) {Q : Option Value → k_S → Prop} {K : (Int32 ⊕ Unit) → k_S → Prop} (hr : ∀ (r : Int32) (u' : k_S), K (.inl r) u' → Q (some (.int r)) u') (he : ∀ (y : Unit) (u' : k_S), K (.inr y) u' → k_W g 3 MX3_valueAt 43 [(0, .ref 7)] [] u' Q) : ∀ (n : Nat) (x : (Int32)) (u : k_S), k_sat (k_itr (fun (x : (Int32)) u => f_Law_valueAt_B8  v1 v2 v3 x u) n x u) K → k_W g 3 MX3_valueAt 8 [(0, .ref 7), (1, .int v1), (2, .int v2), (3, .int v3), (4, .int x)] [] u Q :=
  k_loop (P := fun (x : (Int32)) u => k_W g 3 MX3_valueAt 8 [(0, .ref 7), (1, .int v1), (2, .int v2), (3, .int v3), (4, .int x)] [] u Q) (fun (x : (Int32)) u H => t_Law_valueAt_B8 g  v1 v2 v3 x  (fun r u' h => hr r u' h) (fun x u' h => h) (fun y u' h => he y u' h) H)
set_option maxRecDepth 100000 in
theorem c_Law_valueAt (g : k_G)  (p1 : Int32) (p2 : Int32) (p3 : Int32) {u : k_S} {QQ : Int32 → k_S → Prop} (H : k_sat (f_Law_valueAt  p1 p2 p3 u) QQ) : k_OK g 3 MX3_valueAt [.ref 7, .int p1, .int p2, .int p3] u (k_qi QQ) := by
  have hr : ∀ (r : Int32) (u' : k_S), QQ (r) u' → (k_qi QQ) (some (.int r)) u' := fun r u' h => ⟨_, rfl, h⟩
  refine k_OK.ofW pfX3_valueAt (k_tab_of MX3_valueAt_dec) rfl ?_
  refine s_aloadn 0 0 rfl rfl ?_
  refine s_const 0 0 1 rfl k_ic_0 ?_
  refine s_puti 704 0 2 rfl k_fl54 rfl rfl rfl rfl rfl rfl rfl rfl rfl H (fun u1 H => ?_)
  refine s_const 0 0 3 rfl k_ic_0 ?_
  refine s_istore 0 4 rfl rfl ?_
  refine k_via (l_Law_valueAt_B8 g  p1 p2 p3 ?_ ?_ _ _ _ (k_sat_bind H)) ⟨rfl, rfl, rfl, rfl, rfl, trivial⟩
  · exact fun r u' h => hr r u' (k_sat_some h)
  · intro y12 u11 H
    replace H := k_sat_csr H
    refine s_aloadn 1 6 rfl rfl ?_
    refine s_cvi0 (M' := MX3_pop) 1 7 rfl k_ml97 vvX3_pop rfl rfl (Nat.le_of_ble_eq_true rfl) rfl (c_Law_pop g (k_sat_bind H)) (fun r14 u13 H => ?_)
    exact s_iret 1 8 rfl rfl (hr _ _ (k_sat_some H))
set_option maxRecDepth 100000 in
theorem t_Nights_pushed_Now_J209 (g : k_G)  (v4 : Int32) (v8 : Int32) (s1 : Int32) (s2 : Int32)  {u : k_S} {QQ : Int32 → k_S → Prop} {Q : Option Value → k_S → Prop} (hr : ∀ (r : Int32) (u' : k_S), QQ (r) u' → (Q) (some (.int r)) u') (H : k_sat (f_Nights_pushed_Now_J209  v4 v8 s1 s2 u) QQ) : k_W g 4 MX6_pushed 209 [(4, .int v4), (8, .int v8)] [.int s2, .int s1, .ref 14] u Q := by
  refine s_iload 6 12 rfl rfl ?_
  refine s_cvv3 (M' := MX5_stand) 6 13 rfl k_ml128 vvX5_stand rfl rfl (Nat.le_of_ble_eq_true rfl) rfl (c_Now_stand g _ _ _ (k_sat_bind H)) (fun _ u9 H => ?_)
  refine s_iload 6 14 rfl rfl ?_
  exact s_zret 6 15 rfl rfl (k_sat_zb H).1 (hr _ _ (k_sat_some (k_sat_zb H).2))
set_option maxRecDepth 100000 in
theorem t_Nights_pushed_Now_J184 (g : k_G)  (v2 : Int32) (v3 : Int32) (v4 : Int32) (v6 : Int32) (v7 : Int32) (s0 : Int32)  {u : k_S} {QQ : Int32 → k_S → Prop} {Q : Option Value → k_S → Prop} (hr : ∀ (r : Int32) (u' : k_S), QQ (r) u' → (Q) (some (.int r)) u') (H : k_sat (f_Nights_pushed_Now_J184  v2 v3 v4 v6 v7 s0 u) QQ) : k_W g 4 MX6_pushed 184 [(1, .ref 14), (2, .int v2), (3, .int v3), (4, .int v4), (6, .int v6), (7, .int v7)] [.int s0] u Q := by
  refine s_istore 5 14 rfl rfl ?_
  refine s_aloadn 5 15 rfl rfl ?_
  refine s_iloadn 6 0 rfl rfl ?_
  refine s_iload 6 1 rfl rfl ?_
  refine s_if_eq 6 2 205 rfl (by decide) H (fun _ H => ?_) (fun _ H => ?_)
  · refine s_iloadn 6 9 rfl rfl ?_
    refine s_iload 6 10 rfl rfl ?_
    refine s_iadd 6 11 rfl ?_
    exact k_via (t_Nights_pushed_Now_J209 g  _ _ _ _  hr H) ⟨rfl, rfl, trivial⟩
  · refine s_iloadn 6 3 rfl rfl ?_
    refine s_iload 6 4 rfl rfl ?_
    refine s_iadd 6 5 rfl ?_
    refine s_iload 6 6 rfl rfl ?_
    refine s_csNi2 (M' := MX11_left) 6 7 rfl k_ml127 vvX11_left (Nat.le_of_ble_eq_true rfl) rfl (c_W_left g _ _ (k_sat_bind H)) (fun r11 u10 H => ?_)
    refine s_goto 6 8 209 rfl (by decide) ?_
    exact k_via (t_Nights_pushed_Now_J209 g  _ _ _ _  hr H) ⟨rfl, rfl, trivial⟩
set_option maxRecDepth 100000 in
theorem t_Nights_pushed_Now_J160 (g : k_G)  (v2 : Int32) (v3 : Int32) (v4 : Int32) (v6 : Int32)  {u : k_S} {QQ : Int32 → k_S → Prop} {Q : Option Value → k_S → Prop} (hr : ∀ (r : Int32) (u' : k_S), QQ (r) u' → (Q) (some (.int r)) u') (H : k_sat (f_Nights_pushed_Now_J160  v2 v3 v4 v6 u) QQ) : k_W g 4 MX6_pushed 160 [(0, .ref 12), (1, .ref 14), (2, .int v2), (3, .int v3), (4, .int v4), (6, .int v6)] [] u Q := by
  refine s_aloadn 5 1 rfl rfl ?_
  refine s_getr 5 2 rfl k_fl69 rfl rfl rfl rfl ?_
  refine s_iloadn 5 3 rfl rfl ?_
  refine s_cvi1 (M' := MX10_sizeOf) 5 4 rfl k_ml126 vvX10_sizeOf rfl rfl (Nat.le_of_ble_eq_true rfl) rfl (c_Wheels_sizeOf g _ (k_sat_bind H)) (fun r8 u7 H => ?_)
  refine s_istore 5 5 rfl rfl ?_
  refine s_iloadn 5 6 rfl rfl ?_
  refine s_iload 5 7 rfl rfl ?_
  refine s_iadd 5 8 rfl ?_
  refine s_iload 5 9 rfl rfl ?_
  refine s_icmp_lt 5 10 183 rfl (by decide) H (fun _ H => ?_) (fun _ H => ?_)
  · refine s_const 0 5 13 rfl k_ic_0 ?_
    exact k_via (t_Nights_pushed_Now_J184 g  _ _ _ _ _ _  hr H) ⟨rfl, rfl, rfl, rfl, rfl, rfl, trivial⟩
  · refine s_const 1 5 11 rfl k_ic_1 ?_
    refine s_goto 5 12 184 rfl (by decide) ?_
    exact k_via (t_Nights_pushed_Now_J184 g  _ _ _ _ _ _  hr H) ⟨rfl, rfl, rfl, rfl, rfl, rfl, trivial⟩
set_option maxRecDepth 100000 in
theorem t_Nights_pushed_Now_J158 (g : k_G)  (v2 : Int32) (v3 : Int32) (v6 : Int32) (s0 : Int32)  {u : k_S} {QQ : Int32 → k_S → Prop} {Q : Option Value → k_S → Prop} (hr : ∀ (r : Int32) (u' : k_S), QQ (r) u' → (Q) (some (.int r)) u') (H : k_sat (f_Nights_pushed_Now_J158  v2 v3 v6 s0 u) QQ) : k_W g 4 MX6_pushed 158 [(0, .ref 12), (1, .ref 14), (2, .int v2), (3, .int v3), (6, .int v6)] [.int s0] u Q := by
  refine s_istore 5 0 rfl rfl ?_
  exact k_via (t_Nights_pushed_Now_J160 g  _ _ _ _  hr H) ⟨rfl, rfl, rfl, rfl, rfl, rfl, trivial⟩
set_option maxRecDepth 100000 in
theorem t_Nights_pushed_Now_J143 (g : k_G)  (v2 : Int32) (v3 : Int32) (v4 : Int32) (s0 : Int32)  {u : k_S} {QQ : Int32 → k_S → Prop} {Q : Option Value → k_S → Prop} (hr : ∀ (r : Int32) (u' : k_S), QQ (r) u' → (Q) (some (.int r)) u') (H : k_sat (f_Nights_pushed_Now_J143  v2 v3 v4 s0 u) QQ) : k_W g 4 MX6_pushed 143 [(0, .ref 12), (1, .ref 14), (2, .int v2), (3, .int v3), (4, .int v4)] [.int s0] u Q := by
  refine s_istore 4 8 rfl rfl ?_
  refine s_iload 4 9 rfl rfl ?_
  refine s_if_ne 4 10 157 rfl (by decide) H (fun _ H => ?_) (fun _ H => ?_)
  · refine s_const 0 4 15 rfl k_ic_0 ?_
    exact k_via (t_Nights_pushed_Now_J158 g  _ _ _ _  hr H) ⟨rfl, rfl, rfl, rfl, rfl, trivial⟩
  · refine s_iload 4 11 rfl rfl ?_
    refine s_const 1 4 12 rfl k_ic_1 ?_
    refine s_iadd 4 13 rfl ?_
    refine s_goto 4 14 158 rfl (by decide) ?_
    exact k_via (t_Nights_pushed_Now_J158 g  _ _ _ _  hr H) ⟨rfl, rfl, rfl, rfl, rfl, trivial⟩
set_option maxRecDepth 100000 in
theorem t_Nights_pushed_Now_J68 (g : k_G)  (v2 : Int32) (v3 : Int32) (v4 : Int32) (s0 : Int32)  {u : k_S} {QQ : Int32 → k_S → Prop} {Q : Option Value → k_S → Prop} (hr : ∀ (r : Int32) (u' : k_S), QQ (r) u' → (Q) (some (.int r)) u') (H : k_sat (f_Nights_pushed_Now_J68  v2 v3 v4 s0 u) QQ) : k_W g 4 MX6_pushed 68 [(0, .ref 12), (1, .ref 14), (2, .int v2), (3, .int v3), (4, .int v4)] [.int s0] u Q := by
  refine s_istore 2 4 rfl rfl ?_
  refine s_goto 2 5 160 rfl (by decide) ?_
  exact k_via (t_Nights_pushed_Now_J160 g  _ _ _ _  hr H) ⟨rfl, rfl, rfl, rfl, rfl, rfl, trivial⟩
set_option maxRecDepth 100000 in
theorem c_Nights_pushed_Now (g : k_G)  (p2 : Int32) {u : k_S} {QQ : Int32 → k_S → Prop} (H : k_sat (f_Nights_pushed_Now  p2 u) QQ) : k_OK g 4 MX6_pushed [.ref 12, .ref 14, .int p2] u (k_qi QQ) := by
  have hr : ∀ (r : Int32) (u' : k_S), QQ (r) u' → (k_qi QQ) (some (.int r)) u' := fun r u' h => ⟨_, rfl, h⟩
  refine k_OK.ofW pfX6_pushed (k_tab_of MX6_pushed_dec) rfl ?_
  refine s_aloadn 0 0 rfl rfl ?_
  refine s_iloadn 0 1 rfl rfl ?_
  refine s_cvi1 (M' := MX5_placeOf) 0 2 rfl k_ml121 vvX5_placeOf rfl rfl (Nat.le_of_ble_eq_true rfl) rfl (c_Now_placeOf g _ (k_sat_bind H)) (fun r2 u1 H => ?_)
  refine s_istoren 0 3 rfl rfl ?_
  refine s_aloadn 0 4 rfl rfl ?_
  refine s_iloadn 0 5 rfl rfl ?_
  refine s_cvi1 (M' := MX5_waitsOf) 0 6 rfl k_ml122 vvX5_waitsOf rfl rfl (Nat.le_of_ble_eq_true rfl) rfl (c_Now_waitsOf g _ (k_sat_bind H)) (fun r4 u3 H => ?_)
  refine s_istore 0 7 rfl rfl ?_
  refine s_aloadn 0 8 rfl rfl ?_
  refine s_getr 0 9 rfl k_fl69 rfl rfl rfl rfl ?_
  refine s_iloadn 0 10 rfl rfl ?_
  refine s_iloadn 0 11 rfl rfl ?_
  refine s_cvi2 (M' := MX10_letterAt) 0 12 rfl k_ml123 vvX10_letterAt rfl rfl (Nat.le_of_ble_eq_true rfl) rfl (c_Wheels_letterAt g _ _ (k_sat_bind H)) (fun r6 u5 H => ?_)
  refine s_istore 0 13 rfl rfl ?_
  refine s_const 1 0 14 rfl k_ic_1 ?_
  refine s_istore 0 15 rfl rfl ?_
  refine s_iload 1 0 rfl rfl ?_
  refine s_bipush 115 1 1 rfl k_ib_115 ?_
  refine s_icmp_ne 1 2 40 rfl (by decide) H (fun _ H => ?_) (fun _ H => ?_)
  · refine s_iload 1 6 rfl rfl ?_
    refine s_bipush 102 1 7 rfl k_ib_102 ?_
    refine s_icmp_ne 1 8 73 rfl (by decide) H (fun _ H => ?_) (fun _ H => ?_)
    · refine s_iload 2 6 rfl rfl ?_
      refine s_bipush 98 2 7 rfl k_ib_98 ?_
      refine s_icmp_ne 2 8 121 rfl (by decide) H (fun _ H => ?_) (fun _ H => ?_)
      · refine s_iload 3 13 rfl rfl ?_
        refine s_bipush 119 3 14 rfl k_ib_119 ?_
        refine s_icmp_eq 3 15 160 rfl (by decide) H (fun _ H => ?_) (fun _ H => ?_)
        · exact k_via (t_Nights_pushed_Now_J160 g  _ _ _ _  hr H) ⟨rfl, rfl, rfl, rfl, rfl, rfl, trivial⟩
        · refine s_iload 4 0 rfl rfl ?_
          refine s_iload 4 1 rfl rfl ?_
          refine s_bipush 48 4 2 rfl k_ib_48 ?_
          refine s_isub 4 3 rfl ?_
          refine s_icmp_ge 4 4 142 rfl (by decide) H (fun _ H => ?_) (fun _ H => ?_)
          · refine s_const 1 4 7 rfl k_ic_1 ?_
            exact k_via (t_Nights_pushed_Now_J143 g  _ _ _ _  hr H) ⟨rfl, rfl, rfl, rfl, rfl, trivial⟩
          · refine s_const 0 4 5 rfl k_ic_0 ?_
            refine s_goto 4 6 143 rfl (by decide) ?_
            exact k_via (t_Nights_pushed_Now_J143 g  _ _ _ _  hr H) ⟨rfl, rfl, rfl, rfl, rfl, trivial⟩
      · refine s_aloadn 2 9 rfl rfl ?_
        refine s_geti 1402 2 10 rfl k_fl72 rfl rfl rfl rfl rfl ?_
        refine s_aloadn 2 11 rfl rfl ?_
        refine s_getr 2 12 rfl k_fl69 rfl rfl rfl rfl ?_
        refine s_iloadn 2 13 rfl rfl ?_
        refine s_cvi1 (M' := MX10_breakOf) 2 14 rfl k_ml125 vvX10_breakOf rfl rfl (Nat.le_of_ble_eq_true rfl) rfl (c_Wheels_breakOf g _ (k_sat_bind H)) (fun r13 u12 H => ?_)
        refine s_icmp_lt 2 15 160 rfl (by decide) H (fun _ H => ?_) (fun _ H => ?_)
        · exact k_via (t_Nights_pushed_Now_J160 g  _ _ _ _  hr H) ⟨rfl, rfl, rfl, rfl, rfl, rfl, trivial⟩
        · refine s_const 2 3 0 rfl k_ic_2 ?_
          refine s_istore 3 1 rfl rfl ?_
          refine s_iloadn 3 2 rfl rfl ?_
          refine s_if_ne 3 3 160 rfl (by decide) H (fun _ H => ?_) (fun _ H => ?_)
          · exact k_via (t_Nights_pushed_Now_J160 g  _ _ _ _  hr H) ⟨rfl, rfl, rfl, rfl, rfl, rfl, trivial⟩
          · refine s_aloadn 3 4 rfl rfl ?_
            refine s_geti 1206 3 5 rfl k_fl68 rfl rfl rfl rfl rfl ?_
            refine s_const (-1) 3 6 rfl k_ic_m1 ?_
            refine s_icmp_ne 3 7 160 rfl (by decide) H (fun _ H => ?_) (fun _ H => ?_)
            · exact k_via (t_Nights_pushed_Now_J160 g  _ _ _ _  hr H) ⟨rfl, rfl, rfl, rfl, rfl, rfl, trivial⟩
            · refine s_aloadn 3 8 rfl rfl ?_
              refine s_aloadn 3 9 rfl rfl ?_
              refine s_geti 1402 3 10 rfl k_fl72 rfl rfl rfl rfl rfl ?_
              refine s_puti 1206 3 11 rfl k_fl68 rfl rfl rfl rfl rfl rfl rfl rfl rfl H (fun u14 H => ?_)
              refine s_goto 3 12 160 rfl (by decide) ?_
              exact k_via (t_Nights_pushed_Now_J160 g  _ _ _ _  hr H) ⟨rfl, rfl, rfl, rfl, rfl, rfl, trivial⟩
    · refine s_aloadn 1 9 rfl rfl ?_
      refine s_getr 1 10 rfl k_fl70 rfl rfl rfl rfl ?_
      refine s_aloadn 1 11 rfl rfl ?_
      refine s_geti 1402 1 12 rfl k_fl72 rfl rfl rfl rfl rfl ?_
      refine s_iloadn 1 13 rfl rfl ?_
      refine s_iloadn 1 14 rfl rfl ?_
      refine s_cvi3 (M' := MX3_valueAt) 1 15 rfl k_ml124 vvX3_valueAt rfl rfl (Nat.le_of_ble_eq_true rfl) rfl (c_Law_valueAt g _ _ _ (k_sat_bind H)) (fun r16 u15 H => ?_)
      refine s_if_eq 2 0 67 rfl (by decide) H (fun _ H => ?_) (fun _ H => ?_)
      · refine s_const 1 2 3 rfl k_ic_1 ?_
        exact k_via (t_Nights_pushed_Now_J68 g  _ _ _ _  hr H) ⟨rfl, rfl, rfl, rfl, rfl, trivial⟩
      · refine s_const 0 2 1 rfl k_ic_0 ?_
        refine s_goto 2 2 68 rfl (by decide) ?_
        exact k_via (t_Nights_pushed_Now_J68 g  _ _ _ _  hr H) ⟨rfl, rfl, rfl, rfl, rfl, trivial⟩
  · refine s_const 2 1 3 rfl k_ic_2 ?_
    refine s_istore 1 4 rfl rfl ?_
    refine s_goto 1 5 160 rfl (by decide) ?_
    exact k_via (t_Nights_pushed_Now_J160 g  _ _ _ _  hr H) ⟨rfl, rfl, rfl, rfl, rfl, rfl, trivial⟩
set_option maxRecDepth 100000 in
theorem t_Nights_pass_Now_B25 (g : k_G)  (v2 : Int32) (v3 : Int32) (v4 : Int32) (v5 : Int32) (v6 : Int32)  {u : k_S} {QQ : ((Int32 × Int32) ⊕ Unit) → k_S → Prop} {Q : Option Value → k_S → Prop} (hb : ∀ (x : (Int32 × Int32)) (u' : k_S), QQ (.inl x) u' → k_W g 5 MX6_pass 25 [(0, .ref 12), (1, .ref 14), (2, .int v2), (3, .int v3), (4, .int v4), (5, .int x.1), (6, .int x.2)] [] u' Q) (he : ∀ (y : Unit) (u' : k_S), QQ (.inr y) u' → k_W g 5 MX6_pass 63 [(0, .ref 12), (1, .ref 14), (2, .int v2), (3, .int v3), (4, .int v4)] [] u' Q) (H : k_sat (f_Nights_pass_Now_B25  v2 v3 v4 v5 v6 u) QQ) : k_W g 5 MX6_pass 25 [(0, .ref 12), (1, .ref 14), (2, .int v2), (3, .int v3), (4, .int v4), (5, .int v5), (6, .int v6)] [] u Q := by
  refine s_iload 0 15 rfl rfl ?_
  refine s_if_eq 1 0 63 rfl (by decide) H (fun _ H => ?_) (fun _ H => ?_)
  · exact k_via (he _ _ (k_sat_some H)) ⟨rfl, rfl, rfl, rfl, rfl, trivial⟩
  · refine s_iload 1 1 rfl rfl ?_
    refine s_iloadn 1 2 rfl rfl ?_
    refine s_icmp_ge 1 3 63 rfl (by decide) H (fun _ H => ?_) (fun _ H => ?_)
    · exact k_via (he _ _ (k_sat_some H)) ⟨rfl, rfl, rfl, rfl, rfl, trivial⟩
    · refine s_iload 1 4 rfl rfl ?_
      refine s_aloadn 1 5 rfl rfl ?_
      refine s_getr 1 6 rfl k_fl69 rfl rfl rfl rfl ?_
      refine s_geti 303 1 7 rfl k_fl71 rfl rfl rfl rfl rfl ?_
      refine s_icmp_ge 1 8 63 rfl (by decide) H (fun _ H => ?_) (fun _ H => ?_)
      · exact k_via (he _ _ (k_sat_some H)) ⟨rfl, rfl, rfl, rfl, rfl, trivial⟩
      · refine s_aloadn 1 9 rfl rfl ?_
        refine s_aloadn 1 10 rfl rfl ?_
        refine s_iload 1 11 rfl rfl ?_
        refine s_cvi2 (M' := MX6_pushed) 1 12 rfl k_ml120 vvX6_pushed rfl rfl (Nat.le_of_ble_eq_true rfl) rfl (c_Nights_pushed_Now g _ (k_sat_bind H)) (fun r3 u2 H => ?_)
        refine s_istore 1 13 rfl rfl ?_
        refine s_iinc 1 14 rfl rfl rfl ?_
        refine s_goto 1 15 25 rfl (by decide) ?_
        exact k_via (hb _ _ (k_sat_some H)) ⟨rfl, rfl, rfl, rfl, rfl, rfl, rfl, trivial⟩
set_option maxRecDepth 100000 in
theorem l_Nights_pass_Now_B25 (g : k_G)  (v2 : Int32) (v3 : Int32) (v4 : Int32) {Q : Option Value → k_S → Prop} {K : Unit → k_S → Prop} (he : ∀ (y : Unit) (u' : k_S), K (y) u' → k_W g 5 MX6_pass 63 [(0, .ref 12), (1, .ref 14), (2, .int v2), (3, .int v3), (4, .int v4)] [] u' Q) : ∀ (n : Nat) (x : (Int32 × Int32)) (u : k_S), k_sat (k_itr (fun (x : (Int32 × Int32)) u => f_Nights_pass_Now_B25  v2 v3 v4 x.1 x.2 u) n x u) K → k_W g 5 MX6_pass 25 [(0, .ref 12), (1, .ref 14), (2, .int v2), (3, .int v3), (4, .int v4), (5, .int x.1), (6, .int x.2)] [] u Q :=
  k_loop (P := fun (x : (Int32 × Int32)) u => k_W g 5 MX6_pass 25 [(0, .ref 12), (1, .ref 14), (2, .int v2), (3, .int v3), (4, .int v4), (5, .int x.1), (6, .int x.2)] [] u Q) (fun (x : (Int32 × Int32)) u H => t_Nights_pass_Now_B25 g  v2 v3 v4 x.1 x.2  (fun x u' h => h) (fun y u' h => he y u' h) H)
set_option maxRecDepth 100000 in
theorem t_Nights_pass_Now_B3 (g : k_G)  (v2 : Int32) (v3 : Int32) (v4 : Int32)  {u : k_S} {QQ : ((Int32) ⊕ Unit) → k_S → Prop} {Q : Option Value → k_S → Prop} (hb : ∀ (x : (Int32)) (u' : k_S), QQ (.inl x) u' → k_W g 5 MX6_pass 3 [(0, .ref 12), (1, .ref 14), (2, .int v2), (3, .int v3), (4, .int x)] [] u' Q) (he : ∀ (y : Unit) (u' : k_S), QQ (.inr y) u' → k_W g 5 MX6_pass 69 [] [] u' Q) (H : k_sat (f_Nights_pass_Now_B3  v2 v3 v4 u) QQ) : k_W g 5 MX6_pass 3 [(0, .ref 12), (1, .ref 14), (2, .int v2), (3, .int v3), (4, .int v4)] [] u Q := by
  refine s_iload 0 2 rfl rfl ?_
  refine s_iloadn 0 3 rfl rfl ?_
  refine s_icmp_ge 0 4 69 rfl (by decide) H (fun _ H => ?_) (fun _ H => ?_)
  · exact k_via (he _ _ (k_sat_some H)) trivial
  · refine s_aloadn 0 5 rfl rfl ?_
    refine s_dupr 0 6 rfl ?_
    refine s_geti 1402 0 7 rfl k_fl72 rfl rfl rfl rfl rfl ?_
    refine s_const 1 0 8 rfl k_ic_1 ?_
    refine s_iadd 0 9 rfl ?_
    refine s_puti 1402 0 10 rfl k_fl72 rfl rfl rfl rfl rfl rfl rfl rfl rfl H (fun u1 H => ?_)
    refine s_const 1 0 11 rfl k_ic_1 ?_
    refine s_istore 0 12 rfl rfl ?_
    refine s_const 0 0 13 rfl k_ic_0 ?_
    refine s_istore 0 14 rfl rfl ?_
    refine k_via (l_Nights_pass_Now_B25 g  v2 v3 v4 ?_ _ _ _ (k_sat_bind H)) ⟨rfl, rfl, rfl, rfl, rfl, rfl, rfl, trivial⟩
    · intro y5 u4 H
      refine s_iinc 2 0 rfl rfl rfl ?_
      refine s_goto 2 1 3 rfl (by decide) ?_
      exact k_via (hb _ _ (k_sat_some H)) ⟨rfl, rfl, rfl, rfl, rfl, trivial⟩
set_option maxRecDepth 100000 in
theorem l_Nights_pass_Now_B3 (g : k_G)  (v2 : Int32) (v3 : Int32) {Q : Option Value → k_S → Prop} {K : Unit → k_S → Prop} (he : ∀ (y : Unit) (u' : k_S), K (y) u' → k_W g 5 MX6_pass 69 [] [] u' Q) : ∀ (n : Nat) (x : (Int32)) (u : k_S), k_sat (k_itr (fun (x : (Int32)) u => f_Nights_pass_Now_B3  v2 v3 x u) n x u) K → k_W g 5 MX6_pass 3 [(0, .ref 12), (1, .ref 14), (2, .int v2), (3, .int v3), (4, .int x)] [] u Q :=
  k_loop (P := fun (x : (Int32)) u => k_W g 5 MX6_pass 3 [(0, .ref 12), (1, .ref 14), (2, .int v2), (3, .int v3), (4, .int x)] [] u Q) (fun (x : (Int32)) u H => t_Nights_pass_Now_B3 g  v2 v3 x  (fun x u' h => h) (fun y u' h => he y u' h) H)
set_option maxRecDepth 100000 in
theorem c_Nights_pass_Now (g : k_G)  (p2 : Int32) (p3 : Int32) {u : k_S} {QQ : Unit → k_S → Prop} (H : k_sat (f_Nights_pass_Now  p2 p3 u) QQ) : k_OK g 5 MX6_pass [.ref 12, .ref 14, .int p2, .int p3] u (k_qv QQ) := by
  have hr : ∀ (r : Unit) (u' : k_S), QQ (r) u' → (k_qv QQ) (none) u' := fun r u' h => ⟨rfl, h⟩
  refine k_OK.ofW pfX6_pass (k_tab_of MX6_pass_dec) rfl ?_
  refine s_const 0 0 0 rfl k_ic_0 ?_
  refine s_istore 0 1 rfl rfl ?_
  refine k_via (l_Nights_pass_Now_B3 g  p2 p3 ?_ _ _ _ (k_sat_bind H)) ⟨rfl, rfl, rfl, rfl, rfl, trivial⟩
  · intro y7 u6 H
    exact s_ret 2 2 rfl rfl (hr _ _ (k_sat_some H))
set_option maxRecDepth 100000 in
theorem c_W_on (g : k_G)  (p1 : Int32) {u : k_S} {QQ : Int32 → k_S → Prop} (H : k_sat (f_W_on  p1 u) QQ) : k_OK g 6 MX11_on [.ref 0, .int p1] u (k_qi QQ) := by
  have hr : ∀ (r : Int32) (u' : k_S), QQ (r) u' → (k_qi QQ) (some (.int r)) u' := fun r u' h => ⟨_, rfl, h⟩
  refine k_OK.ofW pfX11_on (k_tab_of MX11_on_dec) rfl ?_
  refine s_iloadn 0 0 rfl rfl ?_
  refine s_const 1 0 1 rfl k_ic_1 ?_
  refine s_icmp_lt 0 2 12 rfl (by decide) H (fun _ H => ?_) (fun _ H => ?_)
  · refine s_const (-1) 0 6 rfl k_ic_m1 ?_
    exact s_iret 0 7 rfl rfl (hr _ _ (k_sat_some H))
  · refine s_iloadn 0 3 rfl rfl ?_
    refine s_sipush 2000 0 4 rfl k_is_2000 ?_
    refine s_icmp_le 0 5 14 rfl (by decide) H (fun _ H => ?_) (fun _ H => ?_)
    · refine s_aloadn 0 8 rfl rfl ?_
      refine s_getr 0 9 rfl k_fl3 rfl rfl rfl rfl ?_
      refine s_getr 0 10 rfl k_fl15 rfl rfl rfl rfl ?_
      refine s_geti 1402 0 11 rfl k_fl16 rfl rfl rfl rfl rfl ?_
      refine s_ldc 1000000 0 12 rfl (k_in (lw_T2 (List.mem_of_getElem? (i := 18) (by decide +kernel))) rfl) ?_
      refine s_iloadn 0 13 rfl rfl ?_
      refine s_isub 0 14 rfl ?_
      refine s_icmp_le 0 15 34 rfl (by decide) H (fun _ H => ?_) (fun _ H => ?_)
      · refine s_aloadn 1 2 rfl rfl ?_
        refine s_getr 1 3 rfl k_fl3 rfl rfl rfl rfl ?_
        refine s_aloadn 1 4 rfl rfl ?_
        refine s_getr 1 5 rfl k_fl3 rfl rfl rfl rfl ?_
        refine s_getr 1 6 rfl k_fl15 rfl rfl rfl rfl ?_
        refine s_iloadn 1 7 rfl rfl ?_
        refine s_aloadn 1 8 rfl rfl ?_
        refine s_getr 1 9 rfl k_fl1 rfl rfl rfl rfl ?_
        refine s_geti 303 1 10 rfl k_fl12 rfl rfl rfl rfl rfl ?_
        refine s_cvv3 (M' := MX6_pass) 1 11 rfl k_ml25 vvX6_pass rfl rfl (Nat.le_of_ble_eq_true rfl) rfl (c_Nights_pass_Now g _ _ (k_sat_bind H)) (fun _ u1 H => ?_)
        refine s_aloadn 1 12 rfl rfl ?_
        refine s_getr 1 13 rfl k_fl3 rfl rfl rfl rfl ?_
        refine s_getr 1 14 rfl k_fl15 rfl rfl rfl rfl ?_
        refine s_geti 1402 1 15 rfl k_fl16 rfl rfl rfl rfl rfl ?_
        exact s_iret 2 0 rfl rfl (hr _ _ (k_sat_some H))
      · refine s_bipush (-3) 1 0 rfl k_ib_m3 ?_
        exact s_iret 1 1 rfl rfl (hr _ _ (k_sat_some H))
    · refine s_const (-1) 0 6 rfl k_ic_m1 ?_
      exact s_iret 0 7 rfl rfl (hr _ _ (k_sat_some H))
set_option maxRecDepth 100000 in
theorem c_R_twoOf (g : k_G)  (p0 : Int32) (p1 : Int32) (p2 : Int32) {u : k_S} {QQ : Int32 → k_S → Prop} (H : k_sat (f_R_twoOf  p0 p1 p2 u) QQ) : k_OK g 1 MX12_twoOf [.int p0, .int p1, .int p2] u (k_qi QQ) := by
  have hr : ∀ (r : Int32) (u' : k_S), QQ (r) u' → (k_qi QQ) (some (.int r)) u' := fun r u' h => ⟨_, rfl, h⟩
  refine k_OK.ofW pfX12_twoOf (k_tab_of MX12_twoOf_dec) rfl ?_
  refine s_iloadn 0 0 rfl rfl ?_
  by_cases e0 : p0 = 37
  · replace H := k_sat_pos H e0
    refine s_table 0 1 154 rfl 37 e0 (by decide) (by decide) (off := 153) (by decide) (by decide) ?_
    refine s_iloadn 1 12 rfl rfl ?_
    refine s_if_eq 1 13 163 rfl (by decide) H (fun _ H => ?_) (fun _ H => ?_)
    · refine s_const 0 2 1 rfl k_ic_0 ?_
      refine s_goto 2 2 170 rfl (by decide) ?_
      exact s_iret 2 6 rfl rfl (hr _ _ (k_sat_some H))
    · refine s_iloadn 1 14 rfl rfl ?_
      refine s_const (-1) 1 15 rfl k_ic_m1 ?_
      refine s_icmp_ne 2 0 167 rfl (by decide) H (fun _ H => ?_) (fun _ H => ?_)
      · refine s_iloadn 2 3 rfl rfl ?_
        refine s_iloadn 2 4 rfl rfl ?_
        refine s_irem 2 5 rfl (k_sat_nz H).1 ?_
        replace H := (k_sat_nz H).2
        exact s_iret 2 6 rfl rfl (hr _ _ (k_sat_some H))
      · refine s_const 0 2 1 rfl k_ic_0 ?_
        refine s_goto 2 2 170 rfl (by decide) ?_
        exact s_iret 2 6 rfl rfl (hr _ _ (k_sat_some H))
  · replace H := k_sat_neg H e0
    by_cases e1 : p0 = 38
    · replace H := k_sat_pos H e1
      refine s_table 0 1 204 rfl 38 e1 (by decide) (by decide) (off := 203) (by decide) (by decide) ?_
      refine s_iloadn 3 12 rfl rfl ?_
      refine s_if_eq 3 13 216 rfl (by decide) H (fun _ H => ?_) (fun _ H => ?_)
      · refine s_const 0 4 2 rfl k_ic_0 ?_
        exact s_iret 4 3 rfl rfl (hr _ _ (k_sat_some H))
      · refine s_iloadn 3 14 rfl rfl ?_
        refine s_if_eq 3 15 216 rfl (by decide) H (fun _ H => ?_) (fun _ H => ?_)
        · refine s_const 0 4 2 rfl k_ic_0 ?_
          exact s_iret 4 3 rfl rfl (hr _ _ (k_sat_some H))
        · refine s_const 1 4 0 rfl k_ic_1 ?_
          refine s_goto 4 1 217 rfl (by decide) ?_
          exact s_iret 4 3 rfl rfl (hr _ _ (k_sat_some H))
    · replace H := k_sat_neg H e1
      by_cases e2 : p0 = 39
      · replace H := k_sat_pos H e2
        refine s_table 0 1 218 rfl 39 e2 (by decide) (by decide) (off := 217) (by decide) (by decide) ?_
        refine s_iloadn 4 4 rfl rfl ?_
        refine s_if_ne 4 5 226 rfl (by decide) H (fun _ H => ?_) (fun _ H => ?_)
        · refine s_const 1 4 8 rfl k_ic_1 ?_
          refine s_goto 4 9 231 rfl (by decide) ?_
          exact s_iret 4 11 rfl rfl (hr _ _ (k_sat_some H))
        · refine s_iloadn 4 6 rfl rfl ?_
          refine s_if_eq 4 7 230 rfl (by decide) H (fun _ H => ?_) (fun _ H => ?_)
          · refine s_const 0 4 10 rfl k_ic_0 ?_
            exact s_iret 4 11 rfl rfl (hr _ _ (k_sat_some H))
          · refine s_const 1 4 8 rfl k_ic_1 ?_
            refine s_goto 4 9 231 rfl (by decide) ?_
            exact s_iret 4 11 rfl rfl (hr _ _ (k_sat_some H))
      · replace H := k_sat_neg H e2
        by_cases e3 : p0 = 40
        · replace H := k_sat_pos H e3
          refine s_table 0 1 218 rfl 40 e3 (by decide) (by decide) (off := 217) (by decide) (by decide) ?_
          refine s_iloadn 4 4 rfl rfl ?_
          refine s_if_ne 4 5 226 rfl (by decide) H (fun _ H => ?_) (fun _ H => ?_)
          · refine s_const 1 4 8 rfl k_ic_1 ?_
            refine s_goto 4 9 231 rfl (by decide) ?_
            exact s_iret 4 11 rfl rfl (hr _ _ (k_sat_some H))
          · refine s_iloadn 4 6 rfl rfl ?_
            refine s_if_eq 4 7 230 rfl (by decide) H (fun _ H => ?_) (fun _ H => ?_)
            · refine s_const 0 4 10 rfl k_ic_0 ?_
              exact s_iret 4 11 rfl rfl (hr _ _ (k_sat_some H))
            · refine s_const 1 4 8 rfl k_ic_1 ?_
              refine s_goto 4 9 231 rfl (by decide) ?_
              exact s_iret 4 11 rfl rfl (hr _ _ (k_sat_some H))
        · replace H := k_sat_neg H e3
          by_cases e4 : p0 = 41
          · replace H := k_sat_pos H e4
            refine s_table 0 1 218 rfl 41 e4 (by decide) (by decide) (off := 217) (by decide) (by decide) ?_
            refine s_iloadn 4 4 rfl rfl ?_
            refine s_if_ne 4 5 226 rfl (by decide) H (fun _ H => ?_) (fun _ H => ?_)
            · refine s_const 1 4 8 rfl k_ic_1 ?_
              refine s_goto 4 9 231 rfl (by decide) ?_
              exact s_iret 4 11 rfl rfl (hr _ _ (k_sat_some H))
            · refine s_iloadn 4 6 rfl rfl ?_
              refine s_if_eq 4 7 230 rfl (by decide) H (fun _ H => ?_) (fun _ H => ?_)
              · refine s_const 0 4 10 rfl k_ic_0 ?_
                exact s_iret 4 11 rfl rfl (hr _ _ (k_sat_some H))
              · refine s_const 1 4 8 rfl k_ic_1 ?_
                refine s_goto 4 9 231 rfl (by decide) ?_
                exact s_iret 4 11 rfl rfl (hr _ _ (k_sat_some H))
          · replace H := k_sat_neg H e4
            by_cases e5 : p0 = 42
            · replace H := k_sat_pos H e5
              refine s_table 0 1 128 rfl 42 e5 (by decide) (by decide) (off := 127) (by decide) (by decide) ?_
              refine s_iloadn 0 10 rfl rfl ?_
              refine s_iloadn 0 11 rfl rfl ?_
              refine s_imul 0 12 rfl ?_
              exact s_iret 0 13 rfl rfl (hr _ _ (k_sat_some H))
            · replace H := k_sat_neg H e5
              by_cases e6 : p0 = 43
              · replace H := k_sat_pos H e6
                refine s_table 0 1 120 rfl 43 e6 (by decide) (by decide) (off := 119) (by decide) (by decide) ?_
                refine s_iloadn 0 2 rfl rfl ?_
                refine s_iloadn 0 3 rfl rfl ?_
                refine s_iadd 0 4 rfl ?_
                exact s_iret 0 5 rfl rfl (hr _ _ (k_sat_some H))
              · replace H := k_sat_neg H e6
                by_cases e7 : p0 = 44
                · replace H := k_sat_pos H e7
                  refine s_table 0 1 218 rfl 44 e7 (by decide) (by decide) (off := 217) (by decide) (by decide) ?_
                  refine s_iloadn 4 4 rfl rfl ?_
                  refine s_if_ne 4 5 226 rfl (by decide) H (fun _ H => ?_) (fun _ H => ?_)
                  · refine s_const 1 4 8 rfl k_ic_1 ?_
                    refine s_goto 4 9 231 rfl (by decide) ?_
                    exact s_iret 4 11 rfl rfl (hr _ _ (k_sat_some H))
                  · refine s_iloadn 4 6 rfl rfl ?_
                    refine s_if_eq 4 7 230 rfl (by decide) H (fun _ H => ?_) (fun _ H => ?_)
                    · refine s_const 0 4 10 rfl k_ic_0 ?_
                      exact s_iret 4 11 rfl rfl (hr _ _ (k_sat_some H))
                    · refine s_const 1 4 8 rfl k_ic_1 ?_
                      refine s_goto 4 9 231 rfl (by decide) ?_
                      exact s_iret 4 11 rfl rfl (hr _ _ (k_sat_some H))
                · replace H := k_sat_neg H e7
                  by_cases e8 : p0 = 45
                  · replace H := k_sat_pos H e8
                    refine s_table 0 1 124 rfl 45 e8 (by decide) (by decide) (off := 123) (by decide) (by decide) ?_
                    refine s_iloadn 0 6 rfl rfl ?_
                    refine s_iloadn 0 7 rfl rfl ?_
                    refine s_isub 0 8 rfl ?_
                    exact s_iret 0 9 rfl rfl (hr _ _ (k_sat_some H))
                  · replace H := k_sat_neg H e8
                    by_cases e9 : p0 = 46
                    · replace H := k_sat_pos H e9
                      refine s_table 0 1 218 rfl 46 e9 (by decide) (by decide) (off := 217) (by decide) (by decide) ?_
                      refine s_iloadn 4 4 rfl rfl ?_
                      refine s_if_ne 4 5 226 rfl (by decide) H (fun _ H => ?_) (fun _ H => ?_)
                      · refine s_const 1 4 8 rfl k_ic_1 ?_
                        refine s_goto 4 9 231 rfl (by decide) ?_
                        exact s_iret 4 11 rfl rfl (hr _ _ (k_sat_some H))
                      · refine s_iloadn 4 6 rfl rfl ?_
                        refine s_if_eq 4 7 230 rfl (by decide) H (fun _ H => ?_) (fun _ H => ?_)
                        · refine s_const 0 4 10 rfl k_ic_0 ?_
                          exact s_iret 4 11 rfl rfl (hr _ _ (k_sat_some H))
                        · refine s_const 1 4 8 rfl k_ic_1 ?_
                          refine s_goto 4 9 231 rfl (by decide) ?_
                          exact s_iret 4 11 rfl rfl (hr _ _ (k_sat_some H))
                    · replace H := k_sat_neg H e9
                      by_cases e10 : p0 = 47
                      · replace H := k_sat_pos H e10
                        refine s_table 0 1 132 rfl 47 e10 (by decide) (by decide) (off := 131) (by decide) (by decide) ?_
                        refine s_iloadn 0 14 rfl rfl ?_
                        refine s_if_ne 0 15 140 rfl (by decide) H (fun _ H => ?_) (fun _ H => ?_)
                        · refine s_iloadn 1 2 rfl rfl ?_
                          refine s_const (-1) 1 3 rfl k_ic_m1 ?_
                          refine s_icmp_ne 1 4 150 rfl (by decide) H (fun _ H => ?_) (fun _ H => ?_)
                          · refine s_iloadn 1 8 rfl rfl ?_
                            refine s_iloadn 1 9 rfl rfl ?_
                            refine s_idiv 1 10 rfl (k_sat_nz H).1 ?_
                            replace H := (k_sat_nz H).2
                            exact s_iret 1 11 rfl rfl (hr _ _ (k_sat_some H))
                          · refine s_iloadn 1 5 rfl rfl ?_
                            refine s_ineg 1 6 rfl ?_
                            refine s_goto 1 7 153 rfl (by decide) ?_
                            exact s_iret 1 11 rfl rfl (hr _ _ (k_sat_some H))
                        · refine s_const 0 1 0 rfl k_ic_0 ?_
                          refine s_goto 1 1 153 rfl (by decide) ?_
                          exact s_iret 1 11 rfl rfl (hr _ _ (k_sat_some H))
                      · replace H := k_sat_neg H e10
                        by_cases e11 : p0 = 48
                        · replace H := k_sat_pos H e11
                          refine s_table 0 1 218 rfl 48 e11 (by decide) (by decide) (off := 217) (by decide) (by decide) ?_
                          refine s_iloadn 4 4 rfl rfl ?_
                          refine s_if_ne 4 5 226 rfl (by decide) H (fun _ H => ?_) (fun _ H => ?_)
                          · refine s_const 1 4 8 rfl k_ic_1 ?_
                            refine s_goto 4 9 231 rfl (by decide) ?_
                            exact s_iret 4 11 rfl rfl (hr _ _ (k_sat_some H))
                          · refine s_iloadn 4 6 rfl rfl ?_
                            refine s_if_eq 4 7 230 rfl (by decide) H (fun _ H => ?_) (fun _ H => ?_)
                            · refine s_const 0 4 10 rfl k_ic_0 ?_
                              exact s_iret 4 11 rfl rfl (hr _ _ (k_sat_some H))
                            · refine s_const 1 4 8 rfl k_ic_1 ?_
                              refine s_goto 4 9 231 rfl (by decide) ?_
                              exact s_iret 4 11 rfl rfl (hr _ _ (k_sat_some H))
                        · replace H := k_sat_neg H e11
                          by_cases e12 : p0 = 49
                          · replace H := k_sat_pos H e12
                            refine s_table 0 1 218 rfl 49 e12 (by decide) (by decide) (off := 217) (by decide) (by decide) ?_
                            refine s_iloadn 4 4 rfl rfl ?_
                            refine s_if_ne 4 5 226 rfl (by decide) H (fun _ H => ?_) (fun _ H => ?_)
                            · refine s_const 1 4 8 rfl k_ic_1 ?_
                              refine s_goto 4 9 231 rfl (by decide) ?_
                              exact s_iret 4 11 rfl rfl (hr _ _ (k_sat_some H))
                            · refine s_iloadn 4 6 rfl rfl ?_
                              refine s_if_eq 4 7 230 rfl (by decide) H (fun _ H => ?_) (fun _ H => ?_)
                              · refine s_const 0 4 10 rfl k_ic_0 ?_
                                exact s_iret 4 11 rfl rfl (hr _ _ (k_sat_some H))
                              · refine s_const 1 4 8 rfl k_ic_1 ?_
                                refine s_goto 4 9 231 rfl (by decide) ?_
                                exact s_iret 4 11 rfl rfl (hr _ _ (k_sat_some H))
                          · replace H := k_sat_neg H e12
                            by_cases e13 : p0 = 50
                            · replace H := k_sat_pos H e13
                              refine s_table 0 1 218 rfl 50 e13 (by decide) (by decide) (off := 217) (by decide) (by decide) ?_
                              refine s_iloadn 4 4 rfl rfl ?_
                              refine s_if_ne 4 5 226 rfl (by decide) H (fun _ H => ?_) (fun _ H => ?_)
                              · refine s_const 1 4 8 rfl k_ic_1 ?_
                                refine s_goto 4 9 231 rfl (by decide) ?_
                                exact s_iret 4 11 rfl rfl (hr _ _ (k_sat_some H))
                              · refine s_iloadn 4 6 rfl rfl ?_
                                refine s_if_eq 4 7 230 rfl (by decide) H (fun _ H => ?_) (fun _ H => ?_)
                                · refine s_const 0 4 10 rfl k_ic_0 ?_
                                  exact s_iret 4 11 rfl rfl (hr _ _ (k_sat_some H))
                                · refine s_const 1 4 8 rfl k_ic_1 ?_
                                  refine s_goto 4 9 231 rfl (by decide) ?_
                                  exact s_iret 4 11 rfl rfl (hr _ _ (k_sat_some H))
                            · replace H := k_sat_neg H e13
                              by_cases e14 : p0 = 51
                              · replace H := k_sat_pos H e14
                                refine s_table 0 1 218 rfl 51 e14 (by decide) (by decide) (off := 217) (by decide) (by decide) ?_
                                refine s_iloadn 4 4 rfl rfl ?_
                                refine s_if_ne 4 5 226 rfl (by decide) H (fun _ H => ?_) (fun _ H => ?_)
                                · refine s_const 1 4 8 rfl k_ic_1 ?_
                                  refine s_goto 4 9 231 rfl (by decide) ?_
                                  exact s_iret 4 11 rfl rfl (hr _ _ (k_sat_some H))
                                · refine s_iloadn 4 6 rfl rfl ?_
                                  refine s_if_eq 4 7 230 rfl (by decide) H (fun _ H => ?_) (fun _ H => ?_)
                                  · refine s_const 0 4 10 rfl k_ic_0 ?_
                                    exact s_iret 4 11 rfl rfl (hr _ _ (k_sat_some H))
                                  · refine s_const 1 4 8 rfl k_ic_1 ?_
                                    refine s_goto 4 9 231 rfl (by decide) ?_
                                    exact s_iret 4 11 rfl rfl (hr _ _ (k_sat_some H))
                              · replace H := k_sat_neg H e14
                                by_cases e15 : p0 = 52
                                · replace H := k_sat_pos H e15
                                  refine s_table 0 1 218 rfl 52 e15 (by decide) (by decide) (off := 217) (by decide) (by decide) ?_
                                  refine s_iloadn 4 4 rfl rfl ?_
                                  refine s_if_ne 4 5 226 rfl (by decide) H (fun _ H => ?_) (fun _ H => ?_)
                                  · refine s_const 1 4 8 rfl k_ic_1 ?_
                                    refine s_goto 4 9 231 rfl (by decide) ?_
                                    exact s_iret 4 11 rfl rfl (hr _ _ (k_sat_some H))
                                  · refine s_iloadn 4 6 rfl rfl ?_
                                    refine s_if_eq 4 7 230 rfl (by decide) H (fun _ H => ?_) (fun _ H => ?_)
                                    · refine s_const 0 4 10 rfl k_ic_0 ?_
                                      exact s_iret 4 11 rfl rfl (hr _ _ (k_sat_some H))
                                    · refine s_const 1 4 8 rfl k_ic_1 ?_
                                      refine s_goto 4 9 231 rfl (by decide) ?_
                                      exact s_iret 4 11 rfl rfl (hr _ _ (k_sat_some H))
                                · replace H := k_sat_neg H e15
                                  by_cases e16 : p0 = 53
                                  · replace H := k_sat_pos H e16
                                    refine s_table 0 1 218 rfl 53 e16 (by decide) (by decide) (off := 217) (by decide) (by decide) ?_
                                    refine s_iloadn 4 4 rfl rfl ?_
                                    refine s_if_ne 4 5 226 rfl (by decide) H (fun _ H => ?_) (fun _ H => ?_)
                                    · refine s_const 1 4 8 rfl k_ic_1 ?_
                                      refine s_goto 4 9 231 rfl (by decide) ?_
                                      exact s_iret 4 11 rfl rfl (hr _ _ (k_sat_some H))
                                    · refine s_iloadn 4 6 rfl rfl ?_
                                      refine s_if_eq 4 7 230 rfl (by decide) H (fun _ H => ?_) (fun _ H => ?_)
                                      · refine s_const 0 4 10 rfl k_ic_0 ?_
                                        exact s_iret 4 11 rfl rfl (hr _ _ (k_sat_some H))
                                      · refine s_const 1 4 8 rfl k_ic_1 ?_
                                        refine s_goto 4 9 231 rfl (by decide) ?_
                                        exact s_iret 4 11 rfl rfl (hr _ _ (k_sat_some H))
                                  · replace H := k_sat_neg H e16
                                    by_cases e17 : p0 = 54
                                    · replace H := k_sat_pos H e17
                                      refine s_table 0 1 218 rfl 54 e17 (by decide) (by decide) (off := 217) (by decide) (by decide) ?_
                                      refine s_iloadn 4 4 rfl rfl ?_
                                      refine s_if_ne 4 5 226 rfl (by decide) H (fun _ H => ?_) (fun _ H => ?_)
                                      · refine s_const 1 4 8 rfl k_ic_1 ?_
                                        refine s_goto 4 9 231 rfl (by decide) ?_
                                        exact s_iret 4 11 rfl rfl (hr _ _ (k_sat_some H))
                                      · refine s_iloadn 4 6 rfl rfl ?_
                                        refine s_if_eq 4 7 230 rfl (by decide) H (fun _ H => ?_) (fun _ H => ?_)
                                        · refine s_const 0 4 10 rfl k_ic_0 ?_
                                          exact s_iret 4 11 rfl rfl (hr _ _ (k_sat_some H))
                                        · refine s_const 1 4 8 rfl k_ic_1 ?_
                                          refine s_goto 4 9 231 rfl (by decide) ?_
                                          exact s_iret 4 11 rfl rfl (hr _ _ (k_sat_some H))
                                    · replace H := k_sat_neg H e17
                                      by_cases e18 : p0 = 55
                                      · replace H := k_sat_pos H e18
                                        refine s_table 0 1 218 rfl 55 e18 (by decide) (by decide) (off := 217) (by decide) (by decide) ?_
                                        refine s_iloadn 4 4 rfl rfl ?_
                                        refine s_if_ne 4 5 226 rfl (by decide) H (fun _ H => ?_) (fun _ H => ?_)
                                        · refine s_const 1 4 8 rfl k_ic_1 ?_
                                          refine s_goto 4 9 231 rfl (by decide) ?_
                                          exact s_iret 4 11 rfl rfl (hr _ _ (k_sat_some H))
                                        · refine s_iloadn 4 6 rfl rfl ?_
                                          refine s_if_eq 4 7 230 rfl (by decide) H (fun _ H => ?_) (fun _ H => ?_)
                                          · refine s_const 0 4 10 rfl k_ic_0 ?_
                                            exact s_iret 4 11 rfl rfl (hr _ _ (k_sat_some H))
                                          · refine s_const 1 4 8 rfl k_ic_1 ?_
                                            refine s_goto 4 9 231 rfl (by decide) ?_
                                            exact s_iret 4 11 rfl rfl (hr _ _ (k_sat_some H))
                                      · replace H := k_sat_neg H e18
                                        by_cases e19 : p0 = 56
                                        · replace H := k_sat_pos H e19
                                          refine s_table 0 1 218 rfl 56 e19 (by decide) (by decide) (off := 217) (by decide) (by decide) ?_
                                          refine s_iloadn 4 4 rfl rfl ?_
                                          refine s_if_ne 4 5 226 rfl (by decide) H (fun _ H => ?_) (fun _ H => ?_)
                                          · refine s_const 1 4 8 rfl k_ic_1 ?_
                                            refine s_goto 4 9 231 rfl (by decide) ?_
                                            exact s_iret 4 11 rfl rfl (hr _ _ (k_sat_some H))
                                          · refine s_iloadn 4 6 rfl rfl ?_
                                            refine s_if_eq 4 7 230 rfl (by decide) H (fun _ H => ?_) (fun _ H => ?_)
                                            · refine s_const 0 4 10 rfl k_ic_0 ?_
                                              exact s_iret 4 11 rfl rfl (hr _ _ (k_sat_some H))
                                            · refine s_const 1 4 8 rfl k_ic_1 ?_
                                              refine s_goto 4 9 231 rfl (by decide) ?_
                                              exact s_iret 4 11 rfl rfl (hr _ _ (k_sat_some H))
                                        · replace H := k_sat_neg H e19
                                          by_cases e20 : p0 = 57
                                          · replace H := k_sat_pos H e20
                                            refine s_table 0 1 218 rfl 57 e20 (by decide) (by decide) (off := 217) (by decide) (by decide) ?_
                                            refine s_iloadn 4 4 rfl rfl ?_
                                            refine s_if_ne 4 5 226 rfl (by decide) H (fun _ H => ?_) (fun _ H => ?_)
                                            · refine s_const 1 4 8 rfl k_ic_1 ?_
                                              refine s_goto 4 9 231 rfl (by decide) ?_
                                              exact s_iret 4 11 rfl rfl (hr _ _ (k_sat_some H))
                                            · refine s_iloadn 4 6 rfl rfl ?_
                                              refine s_if_eq 4 7 230 rfl (by decide) H (fun _ H => ?_) (fun _ H => ?_)
                                              · refine s_const 0 4 10 rfl k_ic_0 ?_
                                                exact s_iret 4 11 rfl rfl (hr _ _ (k_sat_some H))
                                              · refine s_const 1 4 8 rfl k_ic_1 ?_
                                                refine s_goto 4 9 231 rfl (by decide) ?_
                                                exact s_iret 4 11 rfl rfl (hr _ _ (k_sat_some H))
                                          · replace H := k_sat_neg H e20
                                            by_cases e21 : p0 = 58
                                            · replace H := k_sat_pos H e21
                                              refine s_table 0 1 218 rfl 58 e21 (by decide) (by decide) (off := 217) (by decide) (by decide) ?_
                                              refine s_iloadn 4 4 rfl rfl ?_
                                              refine s_if_ne 4 5 226 rfl (by decide) H (fun _ H => ?_) (fun _ H => ?_)
                                              · refine s_const 1 4 8 rfl k_ic_1 ?_
                                                refine s_goto 4 9 231 rfl (by decide) ?_
                                                exact s_iret 4 11 rfl rfl (hr _ _ (k_sat_some H))
                                              · refine s_iloadn 4 6 rfl rfl ?_
                                                refine s_if_eq 4 7 230 rfl (by decide) H (fun _ H => ?_) (fun _ H => ?_)
                                                · refine s_const 0 4 10 rfl k_ic_0 ?_
                                                  exact s_iret 4 11 rfl rfl (hr _ _ (k_sat_some H))
                                                · refine s_const 1 4 8 rfl k_ic_1 ?_
                                                  refine s_goto 4 9 231 rfl (by decide) ?_
                                                  exact s_iret 4 11 rfl rfl (hr _ _ (k_sat_some H))
                                            · replace H := k_sat_neg H e21
                                              by_cases e22 : p0 = 59
                                              · replace H := k_sat_pos H e22
                                                refine s_table 0 1 218 rfl 59 e22 (by decide) (by decide) (off := 217) (by decide) (by decide) ?_
                                                refine s_iloadn 4 4 rfl rfl ?_
                                                refine s_if_ne 4 5 226 rfl (by decide) H (fun _ H => ?_) (fun _ H => ?_)
                                                · refine s_const 1 4 8 rfl k_ic_1 ?_
                                                  refine s_goto 4 9 231 rfl (by decide) ?_
                                                  exact s_iret 4 11 rfl rfl (hr _ _ (k_sat_some H))
                                                · refine s_iloadn 4 6 rfl rfl ?_
                                                  refine s_if_eq 4 7 230 rfl (by decide) H (fun _ H => ?_) (fun _ H => ?_)
                                                  · refine s_const 0 4 10 rfl k_ic_0 ?_
                                                    exact s_iret 4 11 rfl rfl (hr _ _ (k_sat_some H))
                                                  · refine s_const 1 4 8 rfl k_ic_1 ?_
                                                    refine s_goto 4 9 231 rfl (by decide) ?_
                                                    exact s_iret 4 11 rfl rfl (hr _ _ (k_sat_some H))
                                              · replace H := k_sat_neg H e22
                                                by_cases e23 : p0 = 60
                                                · replace H := k_sat_pos H e23
                                                  refine s_table 0 1 171 rfl 60 e23 (by decide) (by decide) (off := 170) (by decide) (by decide) ?_
                                                  refine s_iloadn 2 7 rfl rfl ?_
                                                  refine s_iloadn 2 8 rfl rfl ?_
                                                  refine s_icmp_ge 2 9 180 rfl (by decide) H (fun _ H => ?_) (fun _ H => ?_)
                                                  · refine s_const 0 2 12 rfl k_ic_0 ?_
                                                    exact s_iret 2 13 rfl rfl (hr _ _ (k_sat_some H))
                                                  · refine s_const 1 2 10 rfl k_ic_1 ?_
                                                    refine s_goto 2 11 181 rfl (by decide) ?_
                                                    exact s_iret 2 13 rfl rfl (hr _ _ (k_sat_some H))
                                                · replace H := k_sat_neg H e23
                                                  by_cases e24 : p0 = 61
                                                  · replace H := k_sat_pos H e24
                                                    refine s_table 0 1 182 rfl 61 e24 (by decide) (by decide) (off := 181) (by decide) (by decide) ?_
                                                    refine s_iloadn 2 14 rfl rfl ?_
                                                    refine s_iloadn 2 15 rfl rfl ?_
                                                    refine s_icmp_ne 3 0 191 rfl (by decide) H (fun _ H => ?_) (fun _ H => ?_)
                                                    · refine s_const 0 3 3 rfl k_ic_0 ?_
                                                      exact s_iret 3 4 rfl rfl (hr _ _ (k_sat_some H))
                                                    · refine s_const 1 3 1 rfl k_ic_1 ?_
                                                      refine s_goto 3 2 192 rfl (by decide) ?_
                                                      exact s_iret 3 4 rfl rfl (hr _ _ (k_sat_some H))
                                                  · replace H := k_sat_neg H e24
                                                    by_cases e25 : p0 = 62
                                                    · replace H := k_sat_pos H e25
                                                      refine s_table 0 1 193 rfl 62 e25 (by decide) (by decide) (off := 192) (by decide) (by decide) ?_
                                                      refine s_iloadn 3 5 rfl rfl ?_
                                                      refine s_iloadn 3 6 rfl rfl ?_
                                                      refine s_icmp_le 3 7 202 rfl (by decide) H (fun _ H => ?_) (fun _ H => ?_)
                                                      · refine s_const 0 3 10 rfl k_ic_0 ?_
                                                        exact s_iret 3 11 rfl rfl (hr _ _ (k_sat_some H))
                                                      · refine s_const 1 3 8 rfl k_ic_1 ?_
                                                        refine s_goto 3 9 203 rfl (by decide) ?_
                                                        exact s_iret 3 11 rfl rfl (hr _ _ (k_sat_some H))
                                                    · replace H := k_sat_neg H e25
                                                      refine s_tableOut (x := p0) 0 1 218 rfl (by have e0 := lv_neT (a := 37) e0 (by decide); have e1 := lv_neT (a := 38) e1 (by decide); have e2 := lv_neT (a := 39) e2 (by decide); have e3 := lv_neT (a := 40) e3 (by decide); have e4 := lv_neT (a := 41) e4 (by decide); have e5 := lv_neT (a := 42) e5 (by decide); have e6 := lv_neT (a := 43) e6 (by decide); have e7 := lv_neT (a := 44) e7 (by decide); have e8 := lv_neT (a := 45) e8 (by decide); have e9 := lv_neT (a := 46) e9 (by decide); have e10 := lv_neT (a := 47) e10 (by decide); have e11 := lv_neT (a := 48) e11 (by decide); have e12 := lv_neT (a := 49) e12 (by decide); have e13 := lv_neT (a := 50) e13 (by decide); have e14 := lv_neT (a := 51) e14 (by decide); have e15 := lv_neT (a := 52) e15 (by decide); have e16 := lv_neT (a := 53) e16 (by decide); have e17 := lv_neT (a := 54) e17 (by decide); have e18 := lv_neT (a := 55) e18 (by decide); have e19 := lv_neT (a := 56) e19 (by decide); have e20 := lv_neT (a := 57) e20 (by decide); have e21 := lv_neT (a := 58) e21 (by decide); have e22 := lv_neT (a := 59) e22 (by decide); have e23 := lv_neT (a := 60) e23 (by decide); have e24 := lv_neT (a := 61) e24 (by decide); have e25 := lv_neT (a := 62) e25 (by decide); omega) (by decide) ?_
                                                      refine s_iloadn 4 4 rfl rfl ?_
                                                      refine s_if_ne 4 5 226 rfl (by decide) H (fun _ H => ?_) (fun _ H => ?_)
                                                      · refine s_const 1 4 8 rfl k_ic_1 ?_
                                                        refine s_goto 4 9 231 rfl (by decide) ?_
                                                        exact s_iret 4 11 rfl rfl (hr _ _ (k_sat_some H))
                                                      · refine s_iloadn 4 6 rfl rfl ?_
                                                        refine s_if_eq 4 7 230 rfl (by decide) H (fun _ H => ?_) (fun _ H => ?_)
                                                        · refine s_const 0 4 10 rfl k_ic_0 ?_
                                                          exact s_iret 4 11 rfl rfl (hr _ _ (k_sat_some H))
                                                        · refine s_const 1 4 8 rfl k_ic_1 ?_
                                                          refine s_goto 4 9 231 rfl (by decide) ?_
                                                          exact s_iret 4 11 rfl rfl (hr _ _ (k_sat_some H))
set_option maxRecDepth 100000 in
theorem t_R_worked_J45 (g : k_G)  (v1 : Int32) (v3 : Int32) (v4 : Int32) (v5 : Int32) (v6 : Int32)  {u : k_S} {QQ : ((Int32 × Int32) ⊕ Unit) → k_S → Prop} {Q : Option Value → k_S → Prop} (hb : ∀ (x : (Int32 × Int32)) (u' : k_S), QQ (.inl x) u' → k_W g 2 MX12_worked 12 [(0, .ref 42), (1, .int v1), (3, .int v3), (4, .int x.1), (5, .int x.2)] [] u' Q) (he : ∀ (y : Unit) (u' : k_S), QQ (.inr y) u' → k_W g 2 MX12_worked 188 [(0, .ref 42)] [] u' Q) (H : k_sat (f_R_worked_J45  v1 v3 v4 v5 v6 u) QQ) : k_W g 2 MX12_worked 45 [(0, .ref 42), (1, .int v1), (3, .int v3), (4, .int v4), (5, .int v5), (6, .int v6)] [] u Q := by
  refine s_aloadn 1 10 rfl rfl ?_
  refine s_getr 1 11 rfl k_fl100 rfl rfl rfl rfl ?_
  refine s_iload 1 12 rfl rfl ?_
  refine s_iload 1 13 rfl rfl ?_
  refine s_const 1 1 14 rfl k_ic_1 ?_
  refine s_icmp_ne 1 15 67 rfl (by decide) H (fun _ H => ?_) (fun _ H => ?_)
  · refine s_aloadn 2 5 rfl rfl ?_
    refine s_getr 2 6 rfl k_fl99 rfl rfl rfl rfl ?_
    refine s_aloadn 2 7 rfl rfl ?_
    refine s_getr 2 8 rfl k_fl95 rfl rfl rfl rfl ?_
    refine s_iload 2 9 rfl rfl ?_
    refine s_iald 2 10 rfl rfl H (fun _ H => ?_)
    refine s_iald 2 11 rfl rfl H (fun _ H => ?_)
    refine s_iast 2 12 rfl rfl H (fun u3 H => ?_)
    refine s_iinc 2 13 rfl rfl rfl ?_
    refine s_goto 2 14 182 rfl (by decide) ?_
    refine s_iinc 6 7 rfl rfl rfl ?_
    refine s_goto 6 8 12 rfl (by decide) ?_
    exact k_via (hb _ _ (k_sat_some H)) ⟨rfl, rfl, rfl, rfl, rfl, trivial⟩
  · refine s_aloadn 2 0 rfl rfl ?_
    refine s_getr 2 1 rfl k_fl95 rfl rfl rfl rfl ?_
    refine s_iload 2 2 rfl rfl ?_
    refine s_iald 2 3 rfl rfl H (fun _ H => ?_)
    refine s_goto 2 4 79 rfl (by decide) ?_
    refine s_iast 2 12 rfl rfl H (fun u4 H => ?_)
    refine s_iinc 2 13 rfl rfl rfl ?_
    refine s_goto 2 14 182 rfl (by decide) ?_
    refine s_iinc 6 7 rfl rfl rfl ?_
    refine s_goto 6 8 12 rfl (by decide) ?_
    exact k_via (hb _ _ (k_sat_some H)) ⟨rfl, rfl, rfl, rfl, rfl, trivial⟩
set_option maxRecDepth 100000 in
theorem t_R_worked_B12 (g : k_G)  (v1 : Int32) (v3 : Int32) (v4 : Int32) (v5 : Int32)  {u : k_S} {QQ : ((Int32 × Int32) ⊕ Unit) → k_S → Prop} {Q : Option Value → k_S → Prop} (hb : ∀ (x : (Int32 × Int32)) (u' : k_S), QQ (.inl x) u' → k_W g 2 MX12_worked 12 [(0, .ref 42), (1, .int v1), (3, .int v3), (4, .int x.1), (5, .int x.2)] [] u' Q) (he : ∀ (y : Unit) (u' : k_S), QQ (.inr y) u' → k_W g 2 MX12_worked 188 [(0, .ref 42)] [] u' Q) (H : k_sat (f_R_worked_B12  v1 v3 v4 v5 u) QQ) : k_W g 2 MX12_worked 12 [(0, .ref 42), (1, .int v1), (3, .int v3), (4, .int v4), (5, .int v5)] [] u Q := by
  refine s_iload 0 8 rfl rfl ?_
  refine s_sipush 130 0 9 rfl k_is_130 ?_
  refine s_iloadn 0 10 rfl rfl ?_
  refine s_imul 0 11 rfl ?_
  refine s_iloadn 0 12 rfl rfl ?_
  refine s_iadd 0 13 rfl ?_
  refine s_icmp_ge 0 14 188 rfl (by decide) H (fun _ H => ?_) (fun _ H => ?_)
  · exact k_via (he _ _ (k_sat_some H)) ⟨rfl, trivial⟩
  · refine s_aloadn 0 15 rfl rfl ?_
    refine s_getr 1 0 rfl k_fl94 rfl rfl rfl rfl ?_
    refine s_iload 1 1 rfl rfl ?_
    refine s_bald 1 2 rfl rfl H (fun _ H => ?_)
    refine k_topi H (fun t2 H => ?_)
    refine s_istore 1 3 rfl rfl ?_
    refine s_iload 1 4 rfl rfl ?_
    refine s_const 1 1 5 rfl k_ic_1 ?_
    refine s_icmp_eq 1 6 45 rfl (by decide) H (fun _ H => ?_) (fun _ H => ?_)
    · exact k_via (t_R_worked_J45 g  _ _ _ _ _  hb he H) ⟨rfl, rfl, rfl, rfl, rfl, rfl, trivial⟩
    · refine s_iload 1 7 rfl rfl ?_
      refine s_const 2 1 8 rfl k_ic_2 ?_
      refine s_icmp_ne 1 9 86 rfl (by decide) H (fun _ H => ?_) (fun _ H => ?_)
      · refine s_iload 2 15 rfl rfl ?_
        refine s_const 3 3 0 rfl k_ic_3 ?_
        refine s_icmp_ne 3 1 121 rfl (by decide) H (fun _ H => ?_) (fun _ H => ?_)
        · refine s_iload 4 3 rfl rfl ?_
          refine s_const 4 4 4 rfl k_ic_4 ?_
          refine s_icmp_ne 4 5 149 rfl (by decide) H (fun _ H => ?_) (fun _ H => ?_)
          · refine s_iinc 5 4 rfl rfl rfl ?_
            refine s_aloadn 5 5 rfl rfl ?_
            refine s_getr 5 6 rfl k_fl100 rfl rfl rfl rfl ?_
            refine s_iload 5 7 rfl rfl ?_
            refine s_const 1 5 8 rfl k_ic_1 ?_
            refine s_isub 5 9 rfl ?_
            refine s_iload 5 10 rfl rfl ?_
            refine s_aloadn 5 11 rfl rfl ?_
            refine s_getr 5 12 rfl k_fl100 rfl rfl rfl rfl ?_
            refine s_iload 5 13 rfl rfl ?_
            refine s_const 1 5 14 rfl k_ic_1 ?_
            refine s_isub 5 15 rfl ?_
            refine s_iald 6 0 rfl rfl H (fun _ H => ?_)
            refine s_aloadn 6 1 rfl rfl ?_
            refine s_getr 6 2 rfl k_fl100 rfl rfl rfl rfl ?_
            refine s_iload 6 3 rfl rfl ?_
            refine s_iald 6 4 rfl rfl H (fun _ H => ?_)
            refine s_csi3 (M' := MX12_twoOf) 6 5 rfl k_ml245 vvX12_twoOf (Nat.le_of_ble_eq_true rfl) rfl (c_R_twoOf g _ _ _ (k_sat_bind H)) (fun r6 u5 H => ?_)
            refine s_iast 6 6 rfl rfl H (fun u7 H => ?_)
            refine s_iinc 6 7 rfl rfl rfl ?_
            refine s_goto 6 8 12 rfl (by decide) ?_
            exact k_via (hb _ _ (k_sat_some H)) ⟨rfl, rfl, rfl, rfl, rfl, trivial⟩
          · refine s_aloadn 4 6 rfl rfl ?_
            refine s_getr 4 7 rfl k_fl100 rfl rfl rfl rfl ?_
            refine s_iload 4 8 rfl rfl ?_
            refine s_const 1 4 9 rfl k_ic_1 ?_
            refine s_isub 4 10 rfl ?_
            refine s_aloadn 4 11 rfl rfl ?_
            refine s_getr 4 12 rfl k_fl100 rfl rfl rfl rfl ?_
            refine s_iload 4 13 rfl rfl ?_
            refine s_const 1 4 14 rfl k_ic_1 ?_
            refine s_isub 4 15 rfl ?_
            refine s_iald 5 0 rfl rfl H (fun _ H => ?_)
            refine s_ineg 5 1 rfl ?_
            refine s_iast 5 2 rfl rfl H (fun u8 H => ?_)
            refine s_goto 5 3 182 rfl (by decide) ?_
            refine s_iinc 6 7 rfl rfl rfl ?_
            refine s_goto 6 8 12 rfl (by decide) ?_
            exact k_via (hb _ _ (k_sat_some H)) ⟨rfl, rfl, rfl, rfl, rfl, trivial⟩
        · refine s_aloadn 3 2 rfl rfl ?_
          refine s_getr 3 3 rfl k_fl100 rfl rfl rfl rfl ?_
          refine s_iload 3 4 rfl rfl ?_
          refine s_const 1 3 5 rfl k_ic_1 ?_
          refine s_isub 3 6 rfl ?_
          refine s_aloadn 3 7 rfl rfl ?_
          refine s_getr 3 8 rfl k_fl100 rfl rfl rfl rfl ?_
          refine s_iload 3 9 rfl rfl ?_
          refine s_const 1 3 10 rfl k_ic_1 ?_
          refine s_isub 3 11 rfl ?_
          refine s_iald 3 12 rfl rfl H (fun _ H => ?_)
          refine s_if_ne 3 13 116 rfl (by decide) H (fun _ H => ?_) (fun _ H => ?_)
          · refine s_const 0 4 0 rfl k_ic_0 ?_
            refine s_iast 4 1 rfl rfl H (fun u9 H => ?_)
            refine s_goto 4 2 182 rfl (by decide) ?_
            refine s_iinc 6 7 rfl rfl rfl ?_
            refine s_goto 6 8 12 rfl (by decide) ?_
            exact k_via (hb _ _ (k_sat_some H)) ⟨rfl, rfl, rfl, rfl, rfl, trivial⟩
          · refine s_const 1 3 14 rfl k_ic_1 ?_
            refine s_goto 3 15 117 rfl (by decide) ?_
            refine s_iast 4 1 rfl rfl H (fun u10 H => ?_)
            refine s_goto 4 2 182 rfl (by decide) ?_
            refine s_iinc 6 7 rfl rfl rfl ?_
            refine s_goto 6 8 12 rfl (by decide) ?_
            exact k_via (hb _ _ (k_sat_some H)) ⟨rfl, rfl, rfl, rfl, rfl, trivial⟩
      · exact k_via (t_R_worked_J45 g  _ _ _ _ _  hb he H) ⟨rfl, rfl, rfl, rfl, rfl, rfl, trivial⟩
set_option maxRecDepth 100000 in
theorem l_R_worked_B12 (g : k_G)  (v1 : Int32) (v3 : Int32) {Q : Option Value → k_S → Prop} {K : Unit → k_S → Prop} (he : ∀ (y : Unit) (u' : k_S), K (y) u' → k_W g 2 MX12_worked 188 [(0, .ref 42)] [] u' Q) : ∀ (n : Nat) (x : (Int32 × Int32)) (u : k_S), k_sat (k_itr (fun (x : (Int32 × Int32)) u => f_R_worked_B12  v1 v3 x.1 x.2 u) n x u) K → k_W g 2 MX12_worked 12 [(0, .ref 42), (1, .int v1), (3, .int v3), (4, .int x.1), (5, .int x.2)] [] u Q :=
  k_loop (P := fun (x : (Int32 × Int32)) u => k_W g 2 MX12_worked 12 [(0, .ref 42), (1, .int v1), (3, .int v3), (4, .int x.1), (5, .int x.2)] [] u Q) (fun (x : (Int32 × Int32)) u H => t_R_worked_B12 g  v1 v3 x.1 x.2  (fun x u' h => h) (fun y u' h => he y u' h) H)
set_option maxRecDepth 100000 in
theorem c_R_worked (g : k_G)  (p1 : Int32) (p2 : Int32) (p3 : Int32) {u : k_S} {QQ : Int32 → k_S → Prop} (H : k_sat (f_R_worked  p1 p2 p3 u) QQ) : k_OK g 2 MX12_worked [.ref 42, .int p1, .int p2, .int p3] u (k_qi QQ) := by
  have hr : ∀ (r : Int32) (u' : k_S), QQ (r) u' → (k_qi QQ) (some (.int r)) u' := fun r u' h => ⟨_, rfl, h⟩
  refine k_OK.ofW pfX12_worked (k_tab_of MX12_worked_dec) rfl ?_
  refine s_const 0 0 0 rfl k_ic_0 ?_
  refine s_istore 0 1 rfl rfl ?_
  refine s_sipush 130 0 2 rfl k_is_130 ?_
  refine s_iloadn 0 3 rfl rfl ?_
  refine s_imul 0 4 rfl ?_
  refine s_iloadn 0 5 rfl rfl ?_
  refine s_iadd 0 6 rfl ?_
  refine k_topi H (fun t1 H => ?_)
  refine s_istore 0 7 rfl rfl ?_
  refine k_via (l_R_worked_B12 g  p1 p3 ?_ _ _ _ (k_sat_bind H)) ⟨rfl, rfl, rfl, rfl, rfl, trivial⟩
  · intro y12 u11 H
    refine s_aloadn 6 9 rfl rfl ?_
    refine s_getr 6 10 rfl k_fl100 rfl rfl rfl rfl ?_
    refine s_const 0 6 11 rfl k_ic_0 ?_
    refine s_iald 6 12 rfl rfl H (fun _ H => ?_)
    exact s_iret 6 13 rfl rfl (hr _ _ (k_sat_some H))
set_option maxRecDepth 100000 in
theorem t_R_gives_B7 (g : k_G)  (v1 : Int32) (v2 : Int32) (v3 : Int32)  {u : k_S} {QQ : ((Int32 × Int32) ⊕ (Int32 ⊕ (Int32))) → k_S → Prop} {Q : Option Value → k_S → Prop} (hr : ∀ (r : Int32) (u' : k_S), QQ (.inr (.inl r)) u' → (Q) (some (.int r)) u') (hb : ∀ (x : (Int32 × Int32)) (u' : k_S), QQ (.inl x) u' → k_W g 3 MX12_gives 7 [(0, .ref 42), (1, .int v1), (2, .int x.1), (3, .int x.2)] [] u' Q) (he : ∀ (y : (Int32)) (u' : k_S), QQ (.inr (.inr y)) u' → k_W g 3 MX12_gives 47 [(0, .ref 42), (1, .int v1), (3, .int y)] [] u' Q) (H : k_sat (f_R_gives_B7  v1 v2 v3 u) QQ) : k_W g 3 MX12_gives 7 [(0, .ref 42), (1, .int v1), (2, .int v2), (3, .int v3)] [] u Q := by
  refine s_iloadn 0 6 rfl rfl ?_
  refine s_bipush 61 0 7 rfl k_ib_61 ?_
  refine s_iloadn 0 8 rfl rfl ?_
  refine s_imul 0 9 rfl ?_
  refine s_aloadn 0 10 rfl rfl ?_
  refine s_getr 0 11 rfl k_fl96 rfl rfl rfl rfl ?_
  refine s_iloadn 0 12 rfl rfl ?_
  refine s_iald 0 13 rfl rfl H (fun _ H => ?_)
  refine s_iadd 0 14 rfl ?_
  refine s_icmp_ge 0 15 78 rfl (by decide) H (fun _ H => ?_) (fun _ H => ?_)
  · refine s_const 0 3 2 rfl k_ic_0 ?_
    exact s_iret 3 3 rfl rfl (hr _ _ (k_sat_some H))
  · refine s_aloadn 1 0 rfl rfl ?_
    refine s_getr 1 1 rfl k_fl97 rfl rfl rfl rfl ?_
    refine s_iloadn 1 2 rfl rfl ?_
    refine s_sald 1 3 rfl rfl H (fun _ H => ?_)
    refine s_iloadn 1 4 rfl rfl ?_
    refine s_icmp_eq 1 5 47 rfl (by decide) H (fun _ H => ?_) (fun _ H => ?_)
    · exact k_via (he _ _ (k_sat_some H)) ⟨rfl, rfl, rfl, trivial⟩
    · refine s_aloadn 1 6 rfl rfl ?_
      refine s_iloadn 1 7 rfl rfl ?_
      refine s_iloadn 1 8 rfl rfl ?_
      refine s_aloadn 1 9 rfl rfl ?_
      refine s_getr 1 10 rfl k_fl97 rfl rfl rfl rfl ?_
      refine s_iloadn 1 11 rfl rfl ?_
      refine s_sald 1 12 rfl rfl H (fun _ H => ?_)
      refine s_cvi3 (M' := MX12_worked) 1 13 rfl k_ml246 vvX12_worked rfl rfl (Nat.le_of_ble_eq_true rfl) rfl (c_R_worked g _ _ _ (k_sat_bind H)) (fun r3 u2 H => ?_)
      refine s_if_eq 1 14 65 rfl (by decide) H (fun _ H => ?_) (fun _ H => ?_)
      · refine s_aloadn 2 11 rfl rfl ?_
        refine s_getr 2 12 rfl k_fl98 rfl rfl rfl rfl ?_
        refine s_iloadn 2 13 rfl rfl ?_
        refine s_sald 2 14 rfl rfl H (fun _ H => ?_)
        refine k_topi H (fun t4 H => ?_)
        refine s_istoren 2 15 rfl rfl ?_
        refine s_iinc 3 0 rfl rfl rfl ?_
        refine s_goto 3 1 7 rfl (by decide) ?_
        exact k_via (hb _ _ (k_sat_some H)) ⟨rfl, rfl, rfl, rfl, trivial⟩
      · exact k_via (he _ _ (k_sat_some H)) ⟨rfl, rfl, rfl, trivial⟩
set_option maxRecDepth 100000 in
theorem l_R_gives_B7 (g : k_G)  (v1 : Int32) {Q : Option Value → k_S → Prop} {K : (Int32 ⊕ (Int32)) → k_S → Prop} (hr : ∀ (r : Int32) (u' : k_S), K (.inl r) u' → Q (some (.int r)) u') (he : ∀ (y : (Int32)) (u' : k_S), K (.inr y) u' → k_W g 3 MX12_gives 47 [(0, .ref 42), (1, .int v1), (3, .int y)] [] u' Q) : ∀ (n : Nat) (x : (Int32 × Int32)) (u : k_S), k_sat (k_itr (fun (x : (Int32 × Int32)) u => f_R_gives_B7  v1 x.1 x.2 u) n x u) K → k_W g 3 MX12_gives 7 [(0, .ref 42), (1, .int v1), (2, .int x.1), (3, .int x.2)] [] u Q :=
  k_loop (P := fun (x : (Int32 × Int32)) u => k_W g 3 MX12_gives 7 [(0, .ref 42), (1, .int v1), (2, .int x.1), (3, .int x.2)] [] u Q) (fun (x : (Int32 × Int32)) u H => t_R_gives_B7 g  v1 x.1 x.2  (fun r u' h => hr r u' h) (fun x u' h => h) (fun y u' h => he y u' h) H)
set_option maxRecDepth 100000 in
theorem t_R_gives_J47 (g : k_G)  (v1 : Int32) (v3 : Int32)  {u : k_S} {QQ : Int32 → k_S → Prop} {Q : Option Value → k_S → Prop} (hr : ∀ (r : Int32) (u' : k_S), QQ (r) u' → (Q) (some (.int r)) u') (H : k_sat (f_R_gives_J47  v1 v3 u) QQ) : k_W g 3 MX12_gives 47 [(0, .ref 42), (1, .int v1), (3, .int v3)] [] u Q := by
  refine s_aloadn 1 15 rfl rfl ?_
  refine s_iloadn 2 0 rfl rfl ?_
  refine s_aloadn 2 1 rfl rfl ?_
  refine s_getr 2 2 rfl k_fl97 rfl rfl rfl rfl ?_
  refine s_iloadn 2 3 rfl rfl ?_
  refine s_sald 2 4 rfl rfl H (fun _ H => ?_)
  refine s_aloadn 2 5 rfl rfl ?_
  refine s_getr 2 6 rfl k_fl98 rfl rfl rfl rfl ?_
  refine s_iloadn 2 7 rfl rfl ?_
  refine s_sald 2 8 rfl rfl H (fun _ H => ?_)
  refine s_cvi3 (M' := MX12_worked) 2 9 rfl k_ml246 vvX12_worked rfl rfl (Nat.le_of_ble_eq_true rfl) rfl (c_R_worked g _ _ _ (k_sat_bind H)) (fun r8 u7 H => ?_)
  exact s_iret 2 10 rfl rfl (hr _ _ (k_sat_some H))
set_option maxRecDepth 100000 in
theorem c_R_gives (g : k_G)  (p1 : Int32) {u : k_S} {QQ : Int32 → k_S → Prop} (H : k_sat (f_R_gives  p1 u) QQ) : k_OK g 3 MX12_gives [.ref 42, .int p1] u (k_qi QQ) := by
  have hr : ∀ (r : Int32) (u' : k_S), QQ (r) u' → (k_qi QQ) (some (.int r)) u' := fun r u' h => ⟨_, rfl, h⟩
  refine k_OK.ofW pfX12_gives (k_tab_of MX12_gives_dec) rfl ?_
  refine s_const 0 0 0 rfl k_ic_0 ?_
  refine s_istoren 0 1 rfl rfl ?_
  refine s_bipush 61 0 2 rfl k_ib_61 ?_
  refine s_iloadn 0 3 rfl rfl ?_
  refine s_imul 0 4 rfl ?_
  refine k_topi H (fun t1 H => ?_)
  refine s_istoren 0 5 rfl rfl ?_
  refine k_via (l_R_gives_B7 g  p1 ?_ ?_ _ _ _ (k_sat_bind H)) ⟨rfl, rfl, rfl, rfl, trivial⟩
  · exact fun r u' h => hr r u' (k_sat_some h)
  · intro y6 u5 H
    replace H := k_sat_csr H
    exact k_via (t_R_gives_J47 g  _ _  hr H) ⟨rfl, rfl, rfl, trivial⟩
set_option maxRecDepth 100000 in
theorem c_R_isCold (g : k_G)  (p1 : Int32) {u : k_S} {QQ : Int32 → k_S → Prop} (H : k_sat (f_R_isCold  p1 u) QQ) : k_OK g 4 MX12_isCold [.ref 42, .int p1] u (k_qi QQ) := by
  have hr : ∀ (r : Int32) (u' : k_S), QQ (r) u' → (k_qi QQ) (some (.int r)) u' := fun r u' h => ⟨_, rfl, h⟩
  refine k_OK.ofW pfX12_isCold (k_tab_of MX12_isCold_dec) rfl ?_
  refine s_aloadn 0 0 rfl rfl ?_
  refine s_geti 4223 0 1 rfl k_fl127 rfl rfl rfl rfl rfl ?_
  refine s_if_ne 0 2 9 rfl (by decide) H (fun _ H => ?_) (fun _ H => ?_)
  · refine s_aloadn 0 5 rfl rfl ?_
    refine s_getr 0 6 rfl k_fl99 rfl rfl rfl rfl ?_
    refine s_const 0 0 7 rfl k_ic_0 ?_
    refine s_aloadn 0 8 rfl rfl ?_
    refine s_geti 4209 0 9 rfl k_fl128 rfl rfl rfl rfl rfl ?_
    refine s_iast 0 10 rfl rfl H (fun u1 H => ?_)
    refine s_aloadn 0 11 rfl rfl ?_
    refine s_getr 0 12 rfl k_fl99 rfl rfl rfl rfl ?_
    refine s_const 1 0 13 rfl k_ic_1 ?_
    refine s_aloadn 0 14 rfl rfl ?_
    refine s_getr 0 15 rfl k_fl90 rfl rfl rfl rfl ?_
    refine s_iloadn 1 0 rfl rfl ?_
    refine s_iald 1 1 rfl rfl H (fun _ H => ?_)
    refine s_iast 1 2 rfl rfl H (fun u2 H => ?_)
    refine s_aloadn 1 3 rfl rfl ?_
    refine s_getr 1 4 rfl k_fl99 rfl rfl rfl rfl ?_
    refine s_const 2 1 5 rfl k_ic_2 ?_
    refine s_iloadn 1 6 rfl rfl ?_
    refine s_iast 1 7 rfl rfl H (fun u3 H => ?_)
    refine s_aloadn 1 8 rfl rfl ?_
    refine s_getr 1 9 rfl k_fl99 rfl rfl rfl rfl ?_
    refine s_const 3 1 10 rfl k_ic_3 ?_
    refine s_aloadn 1 11 rfl rfl ?_
    refine s_geti 4209 1 12 rfl k_fl128 rfl rfl rfl rfl rfl ?_
    refine s_ldc 1103515245 1 13 rfl (k_in (lw_T5 (List.mem_of_getElem? (i := 6) (by decide +kernel))) rfl) ?_
    refine s_imul 1 14 rfl ?_
    refine s_aloadn 1 15 rfl rfl ?_
    refine s_geti 4211 2 0 rfl k_fl129 rfl rfl rfl rfl rfl ?_
    refine s_iadd 2 1 rfl ?_
    refine s_bipush 8 2 2 rfl k_ib_8 ?_
    refine s_iushr 2 3 rfl ?_
    refine s_bipush 10 2 4 rfl k_ib_10 ?_
    refine s_irem 2 5 rfl k_nz_10 ?_
    refine s_iast 2 6 rfl rfl H (fun u4 H => ?_)
    refine s_aloadn 2 7 rfl rfl ?_
    refine s_const 0 2 8 rfl k_ic_0 ?_
    refine s_cvi1 (M' := MX12_gives) 2 9 rfl k_ml248 vvX12_gives rfl rfl (Nat.le_of_ble_eq_true rfl) rfl (c_R_gives g _ (k_sat_bind H)) (fun r6 u5 H => ?_)
    refine s_if_eq 2 10 74 rfl (by decide) H (fun _ H => ?_) (fun _ H => ?_)
    · refine s_const 0 2 13 rfl k_ic_0 ?_
      exact s_zret 2 14 rfl rfl k_z0 (hr _ _ (k_sat_some H))
    · refine s_const 1 2 11 rfl k_ic_1 ?_
      refine s_goto 2 12 75 rfl (by decide) ?_
      exact s_zret 2 14 rfl rfl k_z1 (hr _ _ (k_sat_some H))
  · refine s_const 0 0 3 rfl k_ic_0 ?_
    exact s_zret 0 4 rfl rfl k_z0 (hr _ _ (k_sat_some H))
set_option maxRecDepth 100000 in
theorem c_R_step (g : k_G)  (p1 : Int32) {u : k_S} {QQ : Int32 → k_S → Prop} (H : k_sat (f_R_step  p1 u) QQ) : k_OK g 5 MX12_step [.ref 42, .int p1] u (k_qi QQ) := by
  have hr : ∀ (r : Int32) (u' : k_S), QQ (r) u' → (k_qi QQ) (some (.int r)) u' := fun r u' h => ⟨_, rfl, h⟩
  refine k_OK.ofW pfX12_step (k_tab_of MX12_step_dec) rfl ?_
  refine s_aloadn 0 0 rfl rfl ?_
  refine s_getr 0 1 rfl k_fl88 rfl rfl rfl rfl ?_
  refine s_bipush 40 0 2 rfl k_ib_40 ?_
  refine s_iloadn 0 3 rfl rfl ?_
  refine s_imul 0 4 rfl ?_
  refine s_aloadn 0 5 rfl rfl ?_
  refine s_getr 0 6 rfl k_fl90 rfl rfl rfl rfl ?_
  refine s_iloadn 0 7 rfl rfl ?_
  refine s_iald 0 8 rfl rfl H (fun _ H => ?_)
  refine s_iadd 0 9 rfl ?_
  refine s_iald 0 10 rfl rfl H (fun _ H => ?_)
  refine k_topi H (fun t1 H => ?_)
  refine s_istoren 0 11 rfl rfl ?_
  refine s_iloadn 0 12 rfl rfl ?_
  by_cases e0 : t1 = 98
  · replace H := k_sat_pos H e0
    refine s_lookup 0 13 64 rfl (by decide) (off := 46) (by rw [e0]; decide) (by decide) ?_
    refine s_aloadn 1 2 rfl rfl ?_
    refine s_geti 4209 1 3 rfl k_fl128 rfl rfl rfl rfl rfl ?_
    refine s_aloadn 1 4 rfl rfl ?_
    refine s_getr 1 5 rfl k_fl92 rfl rfl rfl rfl ?_
    refine s_iloadn 1 6 rfl rfl ?_
    refine s_iald 1 7 rfl rfl H (fun _ H => ?_)
    refine s_icmp_ge 1 8 81 rfl (by decide) H (fun _ H => ?_) (fun _ H => ?_)
    · refine s_const 2 1 11 rfl k_ic_2 ?_
      exact s_iret 1 12 rfl rfl (hr _ _ (k_sat_some H))
    · refine s_const 1 1 9 rfl k_ic_1 ?_
      refine s_goto 1 10 82 rfl (by decide) ?_
      exact s_iret 1 12 rfl rfl (hr _ _ (k_sat_some H))
  · replace H := k_sat_neg H e0
    by_cases e1 : t1 = 102
    · replace H := k_sat_pos H e1
      refine s_lookup 0 13 83 rfl (by decide) (off := 65) (by rw [e1]; decide) (by decide) ?_
      refine s_aloadn 1 13 rfl rfl ?_
      refine s_iloadn 1 14 rfl rfl ?_
      refine s_cvi1 (M' := MX12_isCold) 1 15 rfl k_ml253 vvX12_isCold rfl rfl (Nat.le_of_ble_eq_true rfl) rfl (c_R_isCold g _ (k_sat_bind H)) (fun r3 u2 H => ?_)
      refine s_if_eq 2 0 95 rfl (by decide) H (fun _ H => ?_) (fun _ H => ?_)
      · refine s_const 1 2 3 rfl k_ic_1 ?_
        exact s_iret 2 4 rfl rfl (hr _ _ (k_sat_some H))
      · refine s_const 0 2 1 rfl k_ic_0 ?_
        refine s_goto 2 2 96 rfl (by decide) ?_
        exact s_iret 2 4 rfl rfl (hr _ _ (k_sat_some H))
    · replace H := k_sat_neg H e1
      by_cases e2 : t1 = 115
      · replace H := k_sat_pos H e2
        refine s_lookup 0 13 62 rfl (by decide) (off := 44) (by rw [e2]; decide) (by decide) ?_
        refine s_const 2 1 0 rfl k_ic_2 ?_
        exact s_iret 1 1 rfl rfl (hr _ _ (k_sat_some H))
      · replace H := k_sat_neg H e2
        by_cases e3 : t1 = 119
        · replace H := k_sat_pos H e3
          refine s_lookup 0 13 60 rfl (by decide) (off := 42) (by rw [e3]; decide) (by decide) ?_
          refine s_const 1 0 14 rfl k_ic_1 ?_
          exact s_iret 0 15 rfl rfl (hr _ _ (k_sat_some H))
        · replace H := k_sat_neg H e3
          refine s_lookup 0 13 97 rfl (by decide) (by show Op.lookupswitch.offset [(98, 46), (102, 65), (115, 44), (119, 42)] 79 _ = 79; rw [lv_osw e0 (by decide), lv_osw e1 (by decide), lv_osw e2 (by decide), lv_osw e3 (by decide)]; rfl) (by decide) ?_
          refine s_aloadn 2 5 rfl rfl ?_
          refine s_getr 2 6 rfl k_fl91 rfl rfl rfl rfl ?_
          refine s_iloadn 2 7 rfl rfl ?_
          refine s_iald 2 8 rfl rfl H (fun _ H => ?_)
          refine s_iloadn 2 9 rfl rfl ?_
          refine s_bipush 48 2 10 rfl k_ib_48 ?_
          refine s_isub 2 11 rfl ?_
          refine s_icmp_ge 2 12 122 rfl (by decide) H (fun _ H => ?_) (fun _ H => ?_)
          · refine s_aloadn 3 7 rfl rfl ?_
            refine s_getr 3 8 rfl k_fl91 rfl rfl rfl rfl ?_
            refine s_iloadn 3 9 rfl rfl ?_
            refine s_const 0 3 10 rfl k_ic_0 ?_
            refine s_iast 3 11 rfl rfl H (fun u4 H => ?_)
            refine s_const 1 3 12 rfl k_ic_1 ?_
            exact s_iret 3 13 rfl rfl (hr _ _ (k_sat_some H))
          · refine s_aloadn 2 13 rfl rfl ?_
            refine s_getr 2 14 rfl k_fl91 rfl rfl rfl rfl ?_
            refine s_iloadn 2 15 rfl rfl ?_
            refine s_dup2 3 0 rfl ?_
            refine s_iald 3 1 rfl rfl H (fun _ H => ?_)
            refine s_const 1 3 2 rfl k_ic_1 ?_
            refine s_iadd 3 3 rfl ?_
            refine s_iast 3 4 rfl rfl H (fun u5 H => ?_)
            refine s_const 0 3 5 rfl k_ic_0 ?_
            exact s_iret 3 6 rfl rfl (hr _ _ (k_sat_some H))
set_option maxRecDepth 100000 in
theorem t_R_goOn_J70 (g : k_G)  (v1 : Int32) (v3 : Int32) (s1 : Int32) (s2 : Int32)  {u : k_S} {QQ : ((Int32) ⊕ Unit) → k_S → Prop} {Q : Option Value → k_S → Prop} (hb : ∀ (x : (Int32)) (u' : k_S), QQ (.inl x) u' → k_W g 6 MX12_goOn 12 [(0, .ref 42), (1, .int x)] [] u' Q) (he : ∀ (y : Unit) (u' : k_S), QQ (.inr y) u' → k_W g 6 MX12_goOn 89 [] [] u' Q) (H : k_sat (f_R_goOn_J70  v1 v3 s1 s2 u) QQ) : k_W g 6 MX12_goOn 70 [(0, .ref 42), (1, .int v1), (3, .int v3)] [.int s2, .int s1, .ref 46] u Q := by
  refine s_iast 2 12 rfl rfl H (fun u5 H => ?_)
  refine s_iloadn 2 13 rfl rfl ?_
  refine s_if_eq 2 14 81 rfl (by decide) H (fun _ H => ?_) (fun _ H => ?_)
  · refine s_aloadn 3 3 rfl rfl ?_
    refine s_geti 4203 3 4 rfl k_fl122 rfl rfl rfl rfl rfl ?_
    refine k_topi H (fun t6 H => ?_)
    refine s_istoren 3 5 rfl rfl ?_
    refine s_goto 3 6 12 rfl (by decide) ?_
    exact k_via (hb _ _ (k_sat_some H)) ⟨rfl, rfl, trivial⟩
  · refine s_iloadn 2 15 rfl rfl ?_
    refine s_const 1 3 0 rfl k_ic_1 ?_
    refine s_iadd 3 1 rfl ?_
    refine s_goto 3 2 85 rfl (by decide) ?_
    refine k_topi H (fun t7 H => ?_)
    refine s_istoren 3 5 rfl rfl ?_
    refine s_goto 3 6 12 rfl (by decide) ?_
    exact k_via (hb _ _ (k_sat_some H)) ⟨rfl, rfl, trivial⟩
set_option maxRecDepth 100000 in
theorem t_R_goOn_J48 (g : k_G)  (v1 : Int32) (v2 : Int32) (s0 : Int32)  {u : k_S} {QQ : ((Int32) ⊕ Unit) → k_S → Prop} {Q : Option Value → k_S → Prop} (hb : ∀ (x : (Int32)) (u' : k_S), QQ (.inl x) u' → k_W g 6 MX12_goOn 12 [(0, .ref 42), (1, .int x)] [] u' Q) (he : ∀ (y : Unit) (u' : k_S), QQ (.inr y) u' → k_W g 6 MX12_goOn 89 [] [] u' Q) (H : k_sat (f_R_goOn_J48  v1 v2 s0 u) QQ) : k_W g 6 MX12_goOn 48 [(0, .ref 42), (1, .int v1), (2, .int v2)] [.int s0] u Q := by
  refine s_istoren 1 14 rfl rfl ?_
  refine s_aloadn 1 15 rfl rfl ?_
  refine s_getr 2 0 rfl k_fl90 rfl rfl rfl rfl ?_
  refine s_iloadn 2 1 rfl rfl ?_
  refine s_iloadn 2 2 rfl rfl ?_
  refine s_if_eq 2 3 69 rfl (by decide) H (fun _ H => ?_) (fun _ H => ?_)
  · refine s_iloadn 2 11 rfl rfl ?_
    exact k_via (t_R_goOn_J70 g  _ _ _ _  hb he H) ⟨rfl, rfl, rfl, trivial⟩
  · refine s_iloadn 2 4 rfl rfl ?_
    refine s_aloadn 2 5 rfl rfl ?_
    refine s_getr 2 6 rfl k_fl89 rfl rfl rfl rfl ?_
    refine s_iloadn 2 7 rfl rfl ?_
    refine s_iald 2 8 rfl rfl H (fun _ H => ?_)
    refine s_isub 2 9 rfl ?_
    refine s_goto 2 10 70 rfl (by decide) ?_
    exact k_via (t_R_goOn_J70 g  _ _ _ _  hb he H) ⟨rfl, rfl, rfl, trivial⟩
set_option maxRecDepth 100000 in
theorem t_R_goOn_B12 (g : k_G)  (v1 : Int32)  {u : k_S} {QQ : ((Int32) ⊕ Unit) → k_S → Prop} {Q : Option Value → k_S → Prop} (hb : ∀ (x : (Int32)) (u' : k_S), QQ (.inl x) u' → k_W g 6 MX12_goOn 12 [(0, .ref 42), (1, .int x)] [] u' Q) (he : ∀ (y : Unit) (u' : k_S), QQ (.inr y) u' → k_W g 6 MX12_goOn 89 [] [] u' Q) (H : k_sat (f_R_goOn_B12  v1 u) QQ) : k_W g 6 MX12_goOn 12 [(0, .ref 42), (1, .int v1)] [] u Q := by
  refine s_iloadn 0 8 rfl rfl ?_
  refine s_aloadn 0 9 rfl rfl ?_
  refine s_geti 4203 0 10 rfl k_fl122 rfl rfl rfl rfl rfl ?_
  refine s_icmp_ge 0 11 89 rfl (by decide) H (fun _ H => ?_) (fun _ H => ?_)
  · exact k_via (he _ _ (k_sat_some H)) trivial
  · refine s_aloadn 0 12 rfl rfl ?_
    refine s_getr 0 13 rfl k_fl90 rfl rfl rfl rfl ?_
    refine s_iloadn 0 14 rfl rfl ?_
    refine s_iald 0 15 rfl rfl H (fun _ H => ?_)
    refine s_aloadn 1 0 rfl rfl ?_
    refine s_iloadn 1 1 rfl rfl ?_
    refine s_cvi1 (M' := MX12_step) 1 2 rfl k_ml254 vvX12_step rfl rfl (Nat.le_of_ble_eq_true rfl) rfl (c_R_step g _ (k_sat_bind H)) (fun r3 u2 H => ?_)
    refine s_iadd 1 3 rfl ?_
    refine k_topi H (fun t4 H => ?_)
    refine s_istoren 1 4 rfl rfl ?_
    refine s_iloadn 1 5 rfl rfl ?_
    refine s_aloadn 1 6 rfl rfl ?_
    refine s_getr 1 7 rfl k_fl89 rfl rfl rfl rfl ?_
    refine s_iloadn 1 8 rfl rfl ?_
    refine s_iald 1 9 rfl rfl H (fun _ H => ?_)
    refine s_icmp_lt 1 10 47 rfl (by decide) H (fun _ H => ?_) (fun _ H => ?_)
    · refine s_const 0 1 13 rfl k_ic_0 ?_
      exact k_via (t_R_goOn_J48 g  _ _ _  hb he H) ⟨rfl, rfl, rfl, trivial⟩
    · refine s_const 1 1 11 rfl k_ic_1 ?_
      refine s_goto 1 12 48 rfl (by decide) ?_
      exact k_via (t_R_goOn_J48 g  _ _ _  hb he H) ⟨rfl, rfl, rfl, trivial⟩
set_option maxRecDepth 100000 in
theorem l_R_goOn_B12 (g : k_G)   {Q : Option Value → k_S → Prop} {K : Unit → k_S → Prop} (he : ∀ (y : Unit) (u' : k_S), K (y) u' → k_W g 6 MX12_goOn 89 [] [] u' Q) : ∀ (n : Nat) (x : (Int32)) (u : k_S), k_sat (k_itr (fun (x : (Int32)) u => f_R_goOn_B12  x u) n x u) K → k_W g 6 MX12_goOn 12 [(0, .ref 42), (1, .int x)] [] u Q :=
  k_loop (P := fun (x : (Int32)) u => k_W g 6 MX12_goOn 12 [(0, .ref 42), (1, .int x)] [] u Q) (fun (x : (Int32)) u H => t_R_goOn_B12 g  x  (fun x u' h => h) (fun y u' h => he y u' h) H)
set_option maxRecDepth 100000 in
theorem c_R_goOn (g : k_G)   {u : k_S} {QQ : Unit → k_S → Prop} (H : k_sat (f_R_goOn   u) QQ) : k_OK g 6 MX12_goOn [.ref 42] u (k_qv QQ) := by
  have hr : ∀ (r : Unit) (u' : k_S), QQ (r) u' → (k_qv QQ) (none) u' := fun r u' h => ⟨rfl, h⟩
  refine k_OK.ofW pfX12_goOn (k_tab_of MX12_goOn_dec) rfl ?_
  refine s_aloadn 0 0 rfl rfl ?_
  refine s_dupr 0 1 rfl ?_
  refine s_geti 4209 0 2 rfl k_fl128 rfl rfl rfl rfl rfl ?_
  refine s_const 1 0 3 rfl k_ic_1 ?_
  refine s_iadd 0 4 rfl ?_
  refine s_puti 4209 0 5 rfl k_fl128 rfl rfl rfl rfl rfl rfl rfl rfl rfl H (fun u1 H => ?_)
  refine s_const 0 0 6 rfl k_ic_0 ?_
  refine s_istoren 0 7 rfl rfl ?_
  refine k_via (l_R_goOn_B12 g   ?_ _ _ _ (k_sat_bind H)) ⟨rfl, rfl, trivial⟩
  · intro y9 u8 H
    exact s_ret 3 7 rfl rfl (hr _ _ (k_sat_some H))
set_option maxRecDepth 100000 in
theorem t_R_on_B29 (g : k_G)  (v1 : Int32) (v2 : Int32)  {u : k_S} {QQ : ((Int32) ⊕ Unit) → k_S → Prop} {Q : Option Value → k_S → Prop} (hb : ∀ (x : (Int32)) (u' : k_S), QQ (.inl x) u' → k_W g 7 MX12_on 29 [(0, .ref 42), (1, .int v1), (2, .int x)] [] u' Q) (he : ∀ (y : Unit) (u' : k_S), QQ (.inr y) u' → k_W g 7 MX12_on 44 [(0, .ref 42)] [] u' Q) (H : k_sat (f_R_on_B29  v1 v2 u) QQ) : k_W g 7 MX12_on 29 [(0, .ref 42), (1, .int v1), (2, .int v2)] [] u Q := by
  refine s_iloadn 1 1 rfl rfl ?_
  refine s_iloadn 1 2 rfl rfl ?_
  refine s_icmp_ge 1 3 44 rfl (by decide) H (fun _ H => ?_) (fun _ H => ?_)
  · exact k_via (he _ _ (k_sat_some H)) ⟨rfl, trivial⟩
  · refine s_aloadn 1 4 rfl rfl ?_
    refine s_cvv0 (M' := MX12_goOn) 1 5 rfl k_ml255 vvX12_goOn rfl rfl (Nat.le_of_ble_eq_true rfl) rfl (c_R_goOn g (k_sat_bind H)) (fun _ u3 H => ?_)
    refine s_iinc 1 6 rfl rfl rfl ?_
    refine s_goto 1 7 29 rfl (by decide) ?_
    exact k_via (hb _ _ (k_sat_some H)) ⟨rfl, rfl, rfl, trivial⟩
set_option maxRecDepth 100000 in
theorem l_R_on_B29 (g : k_G)  (v1 : Int32) {Q : Option Value → k_S → Prop} {K : Unit → k_S → Prop} (he : ∀ (y : Unit) (u' : k_S), K (y) u' → k_W g 7 MX12_on 44 [(0, .ref 42)] [] u' Q) : ∀ (n : Nat) (x : (Int32)) (u : k_S), k_sat (k_itr (fun (x : (Int32)) u => f_R_on_B29  v1 x u) n x u) K → k_W g 7 MX12_on 29 [(0, .ref 42), (1, .int v1), (2, .int x)] [] u Q :=
  k_loop (P := fun (x : (Int32)) u => k_W g 7 MX12_on 29 [(0, .ref 42), (1, .int v1), (2, .int x)] [] u Q) (fun (x : (Int32)) u H => t_R_on_B29 g  v1 x  (fun x u' h => h) (fun y u' h => he y u' h) H)
set_option maxRecDepth 100000 in
theorem c_R_on (g : k_G)  (p1 : Int32) {u : k_S} {QQ : Int32 → k_S → Prop} (H : k_sat (f_R_on  p1 u) QQ) : k_OK g 7 MX12_on [.ref 42, .int p1] u (k_qi QQ) := by
  have hr : ∀ (r : Int32) (u' : k_S), QQ (r) u' → (k_qi QQ) (some (.int r)) u' := fun r u' h => ⟨_, rfl, h⟩
  refine k_OK.ofW pfX12_on (k_tab_of MX12_on_dec) rfl ?_
  refine s_iloadn 0 0 rfl rfl ?_
  refine s_const 1 0 1 rfl k_ic_1 ?_
  refine s_sipush 2000 0 2 rfl k_is_2000 ?_
  refine s_csi3 (M' := MX12_in) 0 3 rfl k_ml230 vvX12_in (Nat.le_of_ble_eq_true rfl) rfl (c_R_in g _ _ _ (k_sat_bind H)) (fun r2 u1 H => ?_)
  refine s_if_ne 0 4 13 rfl (by decide) H (fun _ H => ?_) (fun _ H => ?_)
  · refine s_aloadn 0 7 rfl rfl ?_
    refine s_geti 4209 0 8 rfl k_fl128 rfl rfl rfl rfl rfl ?_
    refine s_iloadn 0 9 rfl rfl ?_
    refine s_iadd 0 10 rfl ?_
    refine s_ldc 1000000 0 11 rfl (k_in (lw_T4 (List.mem_of_getElem? (i := 233) (by decide +kernel))) rfl) ?_
    refine s_icmp_le 0 12 27 rfl (by decide) H (fun _ H => ?_) (fun _ H => ?_)
    · refine s_const 0 0 15 rfl k_ic_0 ?_
      refine s_istoren 1 0 rfl rfl ?_
      refine k_via (l_R_on_B29 g  p1 ?_ _ _ _ (k_sat_bind H)) ⟨rfl, rfl, rfl, trivial⟩
      · intro y5 u4 H
        refine s_aloadn 1 8 rfl rfl ?_
        refine s_geti 4209 1 9 rfl k_fl128 rfl rfl rfl rfl rfl ?_
        exact s_iret 1 10 rfl rfl (hr _ _ (k_sat_some H))
    · refine s_bipush (-3) 0 13 rfl k_ib_m3 ?_
      exact s_iret 0 14 rfl rfl (hr _ _ (k_sat_some H))
  · refine s_const (-1) 0 5 rfl k_ic_m1 ?_
    exact s_iret 0 6 rfl rfl (hr _ _ (k_sat_some H))
set_option maxRecDepth 100000 in
theorem c_W_lay (g : k_G)  (p1 : Int32) (p2 : Int32) {u : k_S} {QQ : Int32 → k_S → Prop} (H : k_sat (f_W_lay  p1 p2 u) QQ) : k_OK g 3 MX11_lay [.ref 0, .int p1, .int p2] u (k_qi QQ) := by
  have hr : ∀ (r : Int32) (u' : k_S), QQ (r) u' → (k_qi QQ) (some (.int r)) u' := fun r u' h => ⟨_, rfl, h⟩
  refine k_OK.ofW pfX11_lay (k_tab_of MX11_lay_dec) rfl ?_
  refine s_aloadn 0 0 rfl rfl ?_
  refine s_getr 0 1 rfl k_fl1 rfl rfl rfl rfl ?_
  refine s_iloadn 0 2 rfl rfl ?_
  refine s_iloadn 0 3 rfl rfl ?_
  refine s_cvi2 (M' := MX10_hasPlace) 0 4 rfl k_ml18 vvX10_hasPlace rfl rfl (Nat.le_of_ble_eq_true rfl) rfl (c_Wheels_hasPlace g _ _ (k_sat_bind H)) (fun r2 u1 H => ?_)
  refine s_if_ne 0 5 14 rfl (by decide) H (fun _ H => ?_) (fun _ H => ?_)
  · refine s_aloadn 0 8 rfl rfl ?_
    refine s_getr 0 9 rfl k_fl3 rfl rfl rfl rfl ?_
    refine s_getr 0 10 rfl k_fl15 rfl rfl rfl rfl ?_
    refine s_iloadn 0 11 rfl rfl ?_
    refine s_cvi1 (M' := MX5_placeOf) 0 12 rfl k_ml23 vvX5_placeOf rfl rfl (Nat.le_of_ble_eq_true rfl) rfl (c_Now_placeOf g _ (k_sat_bind H)) (fun r4 u3 H => ?_)
    refine s_istoren 0 13 rfl rfl ?_
    refine s_aloadn 0 14 rfl rfl ?_
    refine s_getr 0 15 rfl k_fl3 rfl rfl rfl rfl ?_
    refine s_getr 1 0 rfl k_fl15 rfl rfl rfl rfl ?_
    refine s_iloadn 1 1 rfl rfl ?_
    refine s_iloadn 1 2 rfl rfl ?_
    refine s_const 0 1 3 rfl k_ic_0 ?_
    refine s_cvv3 (M' := MX5_stand) 1 4 rfl k_ml26 vvX5_stand rfl rfl (Nat.le_of_ble_eq_true rfl) rfl (c_Now_stand g _ _ _ (k_sat_bind H)) (fun _ u5 H => ?_)
    refine s_iloadn 1 5 rfl rfl ?_
    exact s_iret 1 6 rfl rfl (hr _ _ (k_sat_some H))
  · refine s_const (-1) 0 6 rfl k_ic_m1 ?_
    exact s_iret 0 7 rfl rfl (hr _ _ (k_sat_some H))
set_option maxRecDepth 100000 in
theorem c_R_lay (g : k_G)  (p1 : Int32) (p2 : Int32) {u : k_S} {QQ : Int32 → k_S → Prop} (H : k_sat (f_R_lay  p1 p2 u) QQ) : k_OK g 3 MX12_lay [.ref 42, .int p1, .int p2] u (k_qi QQ) := by
  have hr : ∀ (r : Int32) (u' : k_S), QQ (r) u' → (k_qi QQ) (some (.int r)) u' := fun r u' h => ⟨_, rfl, h⟩
  refine k_OK.ofW pfX12_lay (k_tab_of MX12_lay_dec) rfl ?_
  refine s_aloadn 0 0 rfl rfl ?_
  refine s_iloadn 0 1 rfl rfl ?_
  refine s_cvi1 (M' := MX12_isWheel) 0 2 rfl k_ml251 vvX12_isWheel rfl rfl (Nat.le_of_ble_eq_true rfl) rfl (c_R_isWheel g _ (k_sat_bind H)) (fun r2 u1 H => ?_)
  refine s_if_eq 0 3 24 rfl (by decide) H (fun _ H => ?_) (fun _ H => ?_)
  · refine s_const (-1) 0 14 rfl k_ic_m1 ?_
    exact s_iret 0 15 rfl rfl (hr _ _ (k_sat_some H))
  · refine s_iloadn 0 4 rfl rfl ?_
    refine s_const 0 0 5 rfl k_ic_0 ?_
    refine s_aloadn 0 6 rfl rfl ?_
    refine s_getr 0 7 rfl k_fl89 rfl rfl rfl rfl ?_
    refine s_iloadn 0 8 rfl rfl ?_
    refine s_iald 0 9 rfl rfl H (fun _ H => ?_)
    refine s_const 1 0 10 rfl k_ic_1 ?_
    refine s_isub 0 11 rfl ?_
    refine s_csi3 (M' := MX12_in) 0 12 rfl k_ml230 vvX12_in (Nat.le_of_ble_eq_true rfl) rfl (c_R_in g _ _ _ (k_sat_bind H)) (fun r4 u3 H => ?_)
    refine s_if_ne 0 13 26 rfl (by decide) H (fun _ H => ?_) (fun _ H => ?_)
    · refine s_aloadn 1 0 rfl rfl ?_
      refine s_getr 1 1 rfl k_fl90 rfl rfl rfl rfl ?_
      refine s_iloadn 1 2 rfl rfl ?_
      refine s_iald 1 3 rfl rfl H (fun _ H => ?_)
      refine k_topi H (fun t5 H => ?_)
      refine s_istoren 1 4 rfl rfl ?_
      refine s_aloadn 1 5 rfl rfl ?_
      refine s_getr 1 6 rfl k_fl90 rfl rfl rfl rfl ?_
      refine s_iloadn 1 7 rfl rfl ?_
      refine s_iloadn 1 8 rfl rfl ?_
      refine s_iast 1 9 rfl rfl H (fun u6 H => ?_)
      refine s_aloadn 1 10 rfl rfl ?_
      refine s_getr 1 11 rfl k_fl91 rfl rfl rfl rfl ?_
      refine s_iloadn 1 12 rfl rfl ?_
      refine s_const 0 1 13 rfl k_ic_0 ?_
      refine s_iast 1 14 rfl rfl H (fun u7 H => ?_)
      refine s_iloadn 1 15 rfl rfl ?_
      exact s_iret 2 0 rfl rfl (hr _ _ (k_sat_some H))
    · refine s_const (-1) 0 14 rfl k_ic_m1 ?_
      exact s_iret 0 15 rfl rfl (hr _ _ (k_sat_some H))
set_option maxRecDepth 100000 in
theorem c_Thought_stand (g : k_G)  (p1 : Int32) (p2 : Int32) (p3 : Int32) {u : k_S} {QQ : Unit → k_S → Prop} (H : k_sat (f_Thought_stand  p1 p2 p3 u) QQ) : k_OK g 1 MX5_stand [.ref 17, .int p1, .int p2, .int p3] u (k_qv QQ) := by
  have hr : ∀ (r : Unit) (u' : k_S), QQ (r) u' → (k_qv QQ) (none) u' := fun r u' h => ⟨rfl, h⟩
  refine k_OK.ofW pfX5_stand (k_tab_of MX5_stand_dec) rfl ?_
  refine s_iloadn 0 0 rfl rfl ?_
  refine s_if_lt 0 1 22 rfl (by decide) H (fun _ H => ?_) (fun _ H => ?_)
  · exact s_ret 0 12 rfl rfl (hr _ _ (k_sat_some H))
  · refine s_iloadn 0 2 rfl rfl ?_
    refine s_aloadn 0 3 rfl rfl ?_
    refine s_getr 0 4 rfl k_fl61 rfl rfl rfl rfl ?_
    refine s_alen 4 0 5 rfl rfl k_ln_4 ?_
    refine s_icmp_ge 0 6 22 rfl (by decide) H (fun _ H => ?_) (fun _ H => ?_)
    · exact s_ret 0 12 rfl rfl (hr _ _ (k_sat_some H))
    · refine s_iloadn 0 7 rfl rfl ?_
      refine s_aloadn 0 8 rfl rfl ?_
      refine s_getr 0 9 rfl k_fl62 rfl rfl rfl rfl ?_
      refine s_alen 4 0 10 rfl rfl k_ln_4 ?_
      refine s_icmp_lt 0 11 23 rfl (by decide) H (fun _ H => ?_) (fun _ H => ?_)
      · refine s_aloadn 0 13 rfl rfl ?_
        refine s_getr 0 14 rfl k_fl61 rfl rfl rfl rfl ?_
        refine s_iloadn 0 15 rfl rfl ?_
        refine s_iloadn 1 0 rfl rfl ?_
        refine s_iast 1 1 rfl rfl H (fun u1 H => ?_)
        refine s_aloadn 1 2 rfl rfl ?_
        refine s_getr 1 3 rfl k_fl62 rfl rfl rfl rfl ?_
        refine s_iloadn 1 4 rfl rfl ?_
        refine s_iloadn 1 5 rfl rfl ?_
        refine s_iast 1 6 rfl rfl H (fun u2 H => ?_)
        exact s_ret 1 7 rfl rfl (hr _ _ (k_sat_some H))
      · exact s_ret 0 12 rfl rfl (hr _ _ (k_sat_some H))
set_option maxRecDepth 100000 in
theorem t_Thought_become_Now_B10 (g : k_G)  (v2 : Int32) (v3 : Int32)  {u : k_S} {QQ : ((Int32) ⊕ Unit) → k_S → Prop} {Q : Option Value → k_S → Prop} (hb : ∀ (x : (Int32)) (u' : k_S), QQ (.inl x) u' → k_W g 2 MX5_become 10 [(0, .ref 17), (1, .ref 14), (2, .int v2), (3, .int x)] [] u' Q) (he : ∀ (y : Unit) (u' : k_S), QQ (.inr y) u' → k_W g 2 MX5_become 45 [] [] u' Q) (H : k_sat (f_Thought_become_Now_B10  v2 v3 u) QQ) : k_W g 2 MX5_become 10 [(0, .ref 17), (1, .ref 14), (2, .int v2), (3, .int v3)] [] u Q := by
  refine s_iloadn 0 6 rfl rfl ?_
  refine s_iloadn 0 7 rfl rfl ?_
  refine s_icmp_ge 0 8 45 rfl (by decide) H (fun _ H => ?_) (fun _ H => ?_)
  · exact k_via (he _ _ (k_sat_some H)) trivial
  · refine s_iloadn 0 9 rfl rfl ?_
    refine s_aloadn 0 10 rfl rfl ?_
    refine s_getr 0 11 rfl k_fl61 rfl rfl rfl rfl ?_
    refine s_alen 4 0 12 rfl rfl k_ln_4 ?_
    refine s_icmp_ge 0 13 45 rfl (by decide) H (fun _ H => ?_) (fun _ H => ?_)
    · exact k_via (he _ _ (k_sat_some H)) trivial
    · refine s_aloadn 0 14 rfl rfl ?_
      refine s_iloadn 0 15 rfl rfl ?_
      refine s_aloadn 1 0 rfl rfl ?_
      refine s_iloadn 1 1 rfl rfl ?_
      refine s_cvi1 (M' := MX5_placeOf) 1 2 rfl k_ml115 vvX5_placeOf rfl rfl (Nat.le_of_ble_eq_true rfl) rfl (c_Now_placeOf g _ (k_sat_bind H)) (fun r3 u2 H => ?_)
      refine s_aloadn 1 3 rfl rfl ?_
      refine s_iloadn 1 4 rfl rfl ?_
      refine s_cvi1 (M' := MX5_waitsOf) 1 5 rfl k_ml116 vvX5_waitsOf rfl rfl (Nat.le_of_ble_eq_true rfl) rfl (c_Now_waitsOf g _ (k_sat_bind H)) (fun r5 u4 H => ?_)
      refine s_cvv3 (M' := MX5_stand) 1 6 rfl k_ml117 vvX5_stand rfl rfl (Nat.le_of_ble_eq_true rfl) rfl (c_Thought_stand g _ _ _ (k_sat_bind H)) (fun _ u6 H => ?_)
      refine s_iinc 1 7 rfl rfl rfl ?_
      refine s_goto 1 8 10 rfl (by decide) ?_
      exact k_via (hb _ _ (k_sat_some H)) ⟨rfl, rfl, rfl, rfl, trivial⟩
set_option maxRecDepth 100000 in
theorem l_Thought_become_Now_B10 (g : k_G)  (v2 : Int32) {Q : Option Value → k_S → Prop} {K : Unit → k_S → Prop} (he : ∀ (y : Unit) (u' : k_S), K (y) u' → k_W g 2 MX5_become 45 [] [] u' Q) : ∀ (n : Nat) (x : (Int32)) (u : k_S), k_sat (k_itr (fun (x : (Int32)) u => f_Thought_become_Now_B10  v2 x u) n x u) K → k_W g 2 MX5_become 10 [(0, .ref 17), (1, .ref 14), (2, .int v2), (3, .int x)] [] u Q :=
  k_loop (P := fun (x : (Int32)) u => k_W g 2 MX5_become 10 [(0, .ref 17), (1, .ref 14), (2, .int v2), (3, .int x)] [] u Q) (fun (x : (Int32)) u H => t_Thought_become_Now_B10 g  v2 x  (fun x u' h => h) (fun y u' h => he y u' h) H)
set_option maxRecDepth 100000 in
theorem c_Thought_become_Now (g : k_G)  (p2 : Int32) {u : k_S} {QQ : Unit → k_S → Prop} (H : k_sat (f_Thought_become_Now  p2 u) QQ) : k_OK g 2 MX5_become [.ref 17, .ref 14, .int p2] u (k_qv QQ) := by
  have hr : ∀ (r : Unit) (u' : k_S), QQ (r) u' → (k_qv QQ) (none) u' := fun r u' h => ⟨rfl, h⟩
  refine k_OK.ofW pfX5_become (k_tab_of MX5_become_dec) rfl ?_
  refine s_aloadn 0 0 rfl rfl ?_
  refine s_aloadn 0 1 rfl rfl ?_
  refine s_geti 1402 0 2 rfl k_fl63 rfl rfl rfl rfl rfl ?_
  refine s_puti 1702 0 3 rfl k_fl63 rfl rfl rfl rfl rfl rfl rfl rfl rfl H (fun u1 H => ?_)
  refine s_const 0 0 4 rfl k_ic_0 ?_
  refine s_istoren 0 5 rfl rfl ?_
  refine k_via (l_Thought_become_Now_B10 g  p2 ?_ _ _ _ (k_sat_bind H)) ⟨rfl, rfl, rfl, rfl, trivial⟩
  · intro y8 u7 H
    exact s_ret 1 9 rfl rfl (hr _ _ (k_sat_some H))
set_option maxRecDepth 100000 in
theorem c_Nights_think (g : k_G)   {u : k_S} {QQ : Unit → k_S → Prop} (H : k_sat (f_Nights_think   u) QQ) : k_OK g 3 MX6_think [.ref 12] u (k_qv QQ) := by
  have hr : ∀ (r : Unit) (u' : k_S), QQ (r) u' → (k_qv QQ) (none) u' := fun r u' h => ⟨rfl, h⟩
  refine k_OK.ofW pfX6_think (k_tab_of MX6_think_dec) rfl ?_
  refine s_aloadn 0 0 rfl rfl ?_
  refine s_getr 0 1 rfl k_fl65 rfl rfl rfl rfl ?_
  refine s_aloadn 0 2 rfl rfl ?_
  refine s_getr 0 3 rfl k_fl64 rfl rfl rfl rfl ?_
  refine s_aloadn 0 4 rfl rfl ?_
  refine s_getr 0 5 rfl k_fl69 rfl rfl rfl rfl ?_
  refine s_geti 303 0 6 rfl k_fl71 rfl rfl rfl rfl rfl ?_
  refine s_cvv2 (M' := MX5_become) 0 7 rfl k_ml119 vvX5_become rfl rfl (Nat.le_of_ble_eq_true rfl) rfl (c_Thought_become_Now g _ (k_sat_bind H)) (fun _ u1 H => ?_)
  exact s_ret 0 8 rfl rfl (hr _ _ (k_sat_some H))
set_option maxRecDepth 100000 in
theorem c_Thought_placeOf (g : k_G)  (p1 : Int32) {u : k_S} {QQ : Int32 → k_S → Prop} (H : k_sat (f_Thought_placeOf  p1 u) QQ) : k_OK g 1 MX5_placeOf [.ref 17, .int p1] u (k_qi QQ) := by
  have hr : ∀ (r : Int32) (u' : k_S), QQ (r) u' → (k_qi QQ) (some (.int r)) u' := fun r u' h => ⟨_, rfl, h⟩
  refine k_OK.ofW pfX5_placeOf (k_tab_of MX5_placeOf_dec) rfl ?_
  refine s_iloadn 0 0 rfl rfl ?_
  refine s_if_lt 0 1 22 rfl (by decide) H (fun _ H => ?_) (fun _ H => ?_)
  · refine s_const 0 0 12 rfl k_ic_0 ?_
    exact s_iret 0 13 rfl rfl (hr _ _ (k_sat_some H))
  · refine s_iloadn 0 2 rfl rfl ?_
    refine s_aloadn 0 3 rfl rfl ?_
    refine s_getr 0 4 rfl k_fl61 rfl rfl rfl rfl ?_
    refine s_alen 4 0 5 rfl rfl k_ln_4 ?_
    refine s_icmp_ge 0 6 22 rfl (by decide) H (fun _ H => ?_) (fun _ H => ?_)
    · refine s_const 0 0 12 rfl k_ic_0 ?_
      exact s_iret 0 13 rfl rfl (hr _ _ (k_sat_some H))
    · refine s_aloadn 0 7 rfl rfl ?_
      refine s_getr 0 8 rfl k_fl61 rfl rfl rfl rfl ?_
      refine s_iloadn 0 9 rfl rfl ?_
      refine s_iald 0 10 rfl rfl H (fun _ H => ?_)
      refine s_goto 0 11 23 rfl (by decide) ?_
      exact s_iret 0 13 rfl rfl (hr _ _ (k_sat_some H))
set_option maxRecDepth 100000 in
theorem c_Thought_waitsOf (g : k_G)  (p1 : Int32) {u : k_S} {QQ : Int32 → k_S → Prop} (H : k_sat (f_Thought_waitsOf  p1 u) QQ) : k_OK g 1 MX5_waitsOf [.ref 17, .int p1] u (k_qi QQ) := by
  have hr : ∀ (r : Int32) (u' : k_S), QQ (r) u' → (k_qi QQ) (some (.int r)) u' := fun r u' h => ⟨_, rfl, h⟩
  refine k_OK.ofW pfX5_waitsOf (k_tab_of MX5_waitsOf_dec) rfl ?_
  refine s_iloadn 0 0 rfl rfl ?_
  refine s_if_lt 0 1 22 rfl (by decide) H (fun _ H => ?_) (fun _ H => ?_)
  · refine s_const 0 0 12 rfl k_ic_0 ?_
    exact s_iret 0 13 rfl rfl (hr _ _ (k_sat_some H))
  · refine s_iloadn 0 2 rfl rfl ?_
    refine s_aloadn 0 3 rfl rfl ?_
    refine s_getr 0 4 rfl k_fl62 rfl rfl rfl rfl ?_
    refine s_alen 4 0 5 rfl rfl k_ln_4 ?_
    refine s_icmp_ge 0 6 22 rfl (by decide) H (fun _ H => ?_) (fun _ H => ?_)
    · refine s_const 0 0 12 rfl k_ic_0 ?_
      exact s_iret 0 13 rfl rfl (hr _ _ (k_sat_some H))
    · refine s_aloadn 0 7 rfl rfl ?_
      refine s_getr 0 8 rfl k_fl62 rfl rfl rfl rfl ?_
      refine s_iloadn 0 9 rfl rfl ?_
      refine s_iald 0 10 rfl rfl H (fun _ H => ?_)
      refine s_goto 0 11 23 rfl (by decide) ?_
      exact s_iret 0 13 rfl rfl (hr _ _ (k_sat_some H))
set_option maxRecDepth 100000 in
theorem t_Nights_pushed_Thought_J209 (g : k_G)  (v4 : Int32) (v8 : Int32) (s1 : Int32) (s2 : Int32)  {u : k_S} {QQ : Int32 → k_S → Prop} {Q : Option Value → k_S → Prop} (hr : ∀ (r : Int32) (u' : k_S), QQ (r) u' → (Q) (some (.int r)) u') (H : k_sat (f_Nights_pushed_Thought_J209  v4 v8 s1 s2 u) QQ) : k_W g 4 MX6_pushed 209 [(4, .int v4), (8, .int v8)] [.int s2, .int s1, .ref 17] u Q := by
  refine s_iload 6 12 rfl rfl ?_
  refine s_cvv3 (M' := MX5_stand) 6 13 rfl k_ml128 vvX5_stand rfl rfl (Nat.le_of_ble_eq_true rfl) rfl (c_Thought_stand g _ _ _ (k_sat_bind H)) (fun _ u9 H => ?_)
  refine s_iload 6 14 rfl rfl ?_
  exact s_zret 6 15 rfl rfl (k_sat_zb H).1 (hr _ _ (k_sat_some (k_sat_zb H).2))
set_option maxRecDepth 100000 in
theorem t_Nights_pushed_Thought_J184 (g : k_G)  (v2 : Int32) (v3 : Int32) (v4 : Int32) (v6 : Int32) (v7 : Int32) (s0 : Int32)  {u : k_S} {QQ : Int32 → k_S → Prop} {Q : Option Value → k_S → Prop} (hr : ∀ (r : Int32) (u' : k_S), QQ (r) u' → (Q) (some (.int r)) u') (H : k_sat (f_Nights_pushed_Thought_J184  v2 v3 v4 v6 v7 s0 u) QQ) : k_W g 4 MX6_pushed 184 [(1, .ref 17), (2, .int v2), (3, .int v3), (4, .int v4), (6, .int v6), (7, .int v7)] [.int s0] u Q := by
  refine s_istore 5 14 rfl rfl ?_
  refine s_aloadn 5 15 rfl rfl ?_
  refine s_iloadn 6 0 rfl rfl ?_
  refine s_iload 6 1 rfl rfl ?_
  refine s_if_eq 6 2 205 rfl (by decide) H (fun _ H => ?_) (fun _ H => ?_)
  · refine s_iloadn 6 9 rfl rfl ?_
    refine s_iload 6 10 rfl rfl ?_
    refine s_iadd 6 11 rfl ?_
    exact k_via (t_Nights_pushed_Thought_J209 g  _ _ _ _  hr H) ⟨rfl, rfl, trivial⟩
  · refine s_iloadn 6 3 rfl rfl ?_
    refine s_iload 6 4 rfl rfl ?_
    refine s_iadd 6 5 rfl ?_
    refine s_iload 6 6 rfl rfl ?_
    refine s_csNi2 (M' := MX11_left) 6 7 rfl k_ml127 vvX11_left (Nat.le_of_ble_eq_true rfl) rfl (c_W_left g _ _ (k_sat_bind H)) (fun r11 u10 H => ?_)
    refine s_goto 6 8 209 rfl (by decide) ?_
    exact k_via (t_Nights_pushed_Thought_J209 g  _ _ _ _  hr H) ⟨rfl, rfl, trivial⟩
set_option maxRecDepth 100000 in
theorem t_Nights_pushed_Thought_J160 (g : k_G)  (v2 : Int32) (v3 : Int32) (v4 : Int32) (v6 : Int32)  {u : k_S} {QQ : Int32 → k_S → Prop} {Q : Option Value → k_S → Prop} (hr : ∀ (r : Int32) (u' : k_S), QQ (r) u' → (Q) (some (.int r)) u') (H : k_sat (f_Nights_pushed_Thought_J160  v2 v3 v4 v6 u) QQ) : k_W g 4 MX6_pushed 160 [(0, .ref 12), (1, .ref 17), (2, .int v2), (3, .int v3), (4, .int v4), (6, .int v6)] [] u Q := by
  refine s_aloadn 5 1 rfl rfl ?_
  refine s_getr 5 2 rfl k_fl69 rfl rfl rfl rfl ?_
  refine s_iloadn 5 3 rfl rfl ?_
  refine s_cvi1 (M' := MX10_sizeOf) 5 4 rfl k_ml126 vvX10_sizeOf rfl rfl (Nat.le_of_ble_eq_true rfl) rfl (c_Wheels_sizeOf g _ (k_sat_bind H)) (fun r8 u7 H => ?_)
  refine s_istore 5 5 rfl rfl ?_
  refine s_iloadn 5 6 rfl rfl ?_
  refine s_iload 5 7 rfl rfl ?_
  refine s_iadd 5 8 rfl ?_
  refine s_iload 5 9 rfl rfl ?_
  refine s_icmp_lt 5 10 183 rfl (by decide) H (fun _ H => ?_) (fun _ H => ?_)
  · refine s_const 0 5 13 rfl k_ic_0 ?_
    exact k_via (t_Nights_pushed_Thought_J184 g  _ _ _ _ _ _  hr H) ⟨rfl, rfl, rfl, rfl, rfl, rfl, trivial⟩
  · refine s_const 1 5 11 rfl k_ic_1 ?_
    refine s_goto 5 12 184 rfl (by decide) ?_
    exact k_via (t_Nights_pushed_Thought_J184 g  _ _ _ _ _ _  hr H) ⟨rfl, rfl, rfl, rfl, rfl, rfl, trivial⟩
set_option maxRecDepth 100000 in
theorem t_Nights_pushed_Thought_J158 (g : k_G)  (v2 : Int32) (v3 : Int32) (v6 : Int32) (s0 : Int32)  {u : k_S} {QQ : Int32 → k_S → Prop} {Q : Option Value → k_S → Prop} (hr : ∀ (r : Int32) (u' : k_S), QQ (r) u' → (Q) (some (.int r)) u') (H : k_sat (f_Nights_pushed_Thought_J158  v2 v3 v6 s0 u) QQ) : k_W g 4 MX6_pushed 158 [(0, .ref 12), (1, .ref 17), (2, .int v2), (3, .int v3), (6, .int v6)] [.int s0] u Q := by
  refine s_istore 5 0 rfl rfl ?_
  exact k_via (t_Nights_pushed_Thought_J160 g  _ _ _ _  hr H) ⟨rfl, rfl, rfl, rfl, rfl, rfl, trivial⟩
set_option maxRecDepth 100000 in
theorem t_Nights_pushed_Thought_J143 (g : k_G)  (v2 : Int32) (v3 : Int32) (v4 : Int32) (s0 : Int32)  {u : k_S} {QQ : Int32 → k_S → Prop} {Q : Option Value → k_S → Prop} (hr : ∀ (r : Int32) (u' : k_S), QQ (r) u' → (Q) (some (.int r)) u') (H : k_sat (f_Nights_pushed_Thought_J143  v2 v3 v4 s0 u) QQ) : k_W g 4 MX6_pushed 143 [(0, .ref 12), (1, .ref 17), (2, .int v2), (3, .int v3), (4, .int v4)] [.int s0] u Q := by
  refine s_istore 4 8 rfl rfl ?_
  refine s_iload 4 9 rfl rfl ?_
  refine s_if_ne 4 10 157 rfl (by decide) H (fun _ H => ?_) (fun _ H => ?_)
  · refine s_const 0 4 15 rfl k_ic_0 ?_
    exact k_via (t_Nights_pushed_Thought_J158 g  _ _ _ _  hr H) ⟨rfl, rfl, rfl, rfl, rfl, trivial⟩
  · refine s_iload 4 11 rfl rfl ?_
    refine s_const 1 4 12 rfl k_ic_1 ?_
    refine s_iadd 4 13 rfl ?_
    refine s_goto 4 14 158 rfl (by decide) ?_
    exact k_via (t_Nights_pushed_Thought_J158 g  _ _ _ _  hr H) ⟨rfl, rfl, rfl, rfl, rfl, trivial⟩
set_option maxRecDepth 100000 in
theorem t_Nights_pushed_Thought_J68 (g : k_G)  (v2 : Int32) (v3 : Int32) (v4 : Int32) (s0 : Int32)  {u : k_S} {QQ : Int32 → k_S → Prop} {Q : Option Value → k_S → Prop} (hr : ∀ (r : Int32) (u' : k_S), QQ (r) u' → (Q) (some (.int r)) u') (H : k_sat (f_Nights_pushed_Thought_J68  v2 v3 v4 s0 u) QQ) : k_W g 4 MX6_pushed 68 [(0, .ref 12), (1, .ref 17), (2, .int v2), (3, .int v3), (4, .int v4)] [.int s0] u Q := by
  refine s_istore 2 4 rfl rfl ?_
  refine s_goto 2 5 160 rfl (by decide) ?_
  exact k_via (t_Nights_pushed_Thought_J160 g  _ _ _ _  hr H) ⟨rfl, rfl, rfl, rfl, rfl, rfl, trivial⟩
set_option maxRecDepth 100000 in
theorem c_Nights_pushed_Thought (g : k_G)  (p2 : Int32) {u : k_S} {QQ : Int32 → k_S → Prop} (H : k_sat (f_Nights_pushed_Thought  p2 u) QQ) : k_OK g 4 MX6_pushed [.ref 12, .ref 17, .int p2] u (k_qi QQ) := by
  have hr : ∀ (r : Int32) (u' : k_S), QQ (r) u' → (k_qi QQ) (some (.int r)) u' := fun r u' h => ⟨_, rfl, h⟩
  refine k_OK.ofW pfX6_pushed (k_tab_of MX6_pushed_dec) rfl ?_
  refine s_aloadn 0 0 rfl rfl ?_
  refine s_iloadn 0 1 rfl rfl ?_
  refine s_cvi1 (M' := MX5_placeOf) 0 2 rfl k_ml121 vvX5_placeOf rfl rfl (Nat.le_of_ble_eq_true rfl) rfl (c_Thought_placeOf g _ (k_sat_bind H)) (fun r2 u1 H => ?_)
  refine s_istoren 0 3 rfl rfl ?_
  refine s_aloadn 0 4 rfl rfl ?_
  refine s_iloadn 0 5 rfl rfl ?_
  refine s_cvi1 (M' := MX5_waitsOf) 0 6 rfl k_ml122 vvX5_waitsOf rfl rfl (Nat.le_of_ble_eq_true rfl) rfl (c_Thought_waitsOf g _ (k_sat_bind H)) (fun r4 u3 H => ?_)
  refine s_istore 0 7 rfl rfl ?_
  refine s_aloadn 0 8 rfl rfl ?_
  refine s_getr 0 9 rfl k_fl69 rfl rfl rfl rfl ?_
  refine s_iloadn 0 10 rfl rfl ?_
  refine s_iloadn 0 11 rfl rfl ?_
  refine s_cvi2 (M' := MX10_letterAt) 0 12 rfl k_ml123 vvX10_letterAt rfl rfl (Nat.le_of_ble_eq_true rfl) rfl (c_Wheels_letterAt g _ _ (k_sat_bind H)) (fun r6 u5 H => ?_)
  refine s_istore 0 13 rfl rfl ?_
  refine s_const 1 0 14 rfl k_ic_1 ?_
  refine s_istore 0 15 rfl rfl ?_
  refine s_iload 1 0 rfl rfl ?_
  refine s_bipush 115 1 1 rfl k_ib_115 ?_
  refine s_icmp_ne 1 2 40 rfl (by decide) H (fun _ H => ?_) (fun _ H => ?_)
  · refine s_iload 1 6 rfl rfl ?_
    refine s_bipush 102 1 7 rfl k_ib_102 ?_
    refine s_icmp_ne 1 8 73 rfl (by decide) H (fun _ H => ?_) (fun _ H => ?_)
    · refine s_iload 2 6 rfl rfl ?_
      refine s_bipush 98 2 7 rfl k_ib_98 ?_
      refine s_icmp_ne 2 8 121 rfl (by decide) H (fun _ H => ?_) (fun _ H => ?_)
      · refine s_iload 3 13 rfl rfl ?_
        refine s_bipush 119 3 14 rfl k_ib_119 ?_
        refine s_icmp_eq 3 15 160 rfl (by decide) H (fun _ H => ?_) (fun _ H => ?_)
        · exact k_via (t_Nights_pushed_Thought_J160 g  _ _ _ _  hr H) ⟨rfl, rfl, rfl, rfl, rfl, rfl, trivial⟩
        · refine s_iload 4 0 rfl rfl ?_
          refine s_iload 4 1 rfl rfl ?_
          refine s_bipush 48 4 2 rfl k_ib_48 ?_
          refine s_isub 4 3 rfl ?_
          refine s_icmp_ge 4 4 142 rfl (by decide) H (fun _ H => ?_) (fun _ H => ?_)
          · refine s_const 1 4 7 rfl k_ic_1 ?_
            exact k_via (t_Nights_pushed_Thought_J143 g  _ _ _ _  hr H) ⟨rfl, rfl, rfl, rfl, rfl, trivial⟩
          · refine s_const 0 4 5 rfl k_ic_0 ?_
            refine s_goto 4 6 143 rfl (by decide) ?_
            exact k_via (t_Nights_pushed_Thought_J143 g  _ _ _ _  hr H) ⟨rfl, rfl, rfl, rfl, rfl, trivial⟩
      · refine s_aloadn 2 9 rfl rfl ?_
        refine s_geti 1702 2 10 rfl k_fl72 rfl rfl rfl rfl rfl ?_
        refine s_aloadn 2 11 rfl rfl ?_
        refine s_getr 2 12 rfl k_fl69 rfl rfl rfl rfl ?_
        refine s_iloadn 2 13 rfl rfl ?_
        refine s_cvi1 (M' := MX10_breakOf) 2 14 rfl k_ml125 vvX10_breakOf rfl rfl (Nat.le_of_ble_eq_true rfl) rfl (c_Wheels_breakOf g _ (k_sat_bind H)) (fun r13 u12 H => ?_)
        refine s_icmp_lt 2 15 160 rfl (by decide) H (fun _ H => ?_) (fun _ H => ?_)
        · exact k_via (t_Nights_pushed_Thought_J160 g  _ _ _ _  hr H) ⟨rfl, rfl, rfl, rfl, rfl, rfl, trivial⟩
        · refine s_const 2 3 0 rfl k_ic_2 ?_
          refine s_istore 3 1 rfl rfl ?_
          refine s_iloadn 3 2 rfl rfl ?_
          refine s_if_ne 3 3 160 rfl (by decide) H (fun _ H => ?_) (fun _ H => ?_)
          · exact k_via (t_Nights_pushed_Thought_J160 g  _ _ _ _  hr H) ⟨rfl, rfl, rfl, rfl, rfl, rfl, trivial⟩
          · refine s_aloadn 3 4 rfl rfl ?_
            refine s_geti 1206 3 5 rfl k_fl68 rfl rfl rfl rfl rfl ?_
            refine s_const (-1) 3 6 rfl k_ic_m1 ?_
            refine s_icmp_ne 3 7 160 rfl (by decide) H (fun _ H => ?_) (fun _ H => ?_)
            · exact k_via (t_Nights_pushed_Thought_J160 g  _ _ _ _  hr H) ⟨rfl, rfl, rfl, rfl, rfl, rfl, trivial⟩
            · refine s_aloadn 3 8 rfl rfl ?_
              refine s_aloadn 3 9 rfl rfl ?_
              refine s_geti 1702 3 10 rfl k_fl72 rfl rfl rfl rfl rfl ?_
              refine s_puti 1206 3 11 rfl k_fl68 rfl rfl rfl rfl rfl rfl rfl rfl rfl H (fun u14 H => ?_)
              refine s_goto 3 12 160 rfl (by decide) ?_
              exact k_via (t_Nights_pushed_Thought_J160 g  _ _ _ _  hr H) ⟨rfl, rfl, rfl, rfl, rfl, rfl, trivial⟩
    · refine s_aloadn 1 9 rfl rfl ?_
      refine s_getr 1 10 rfl k_fl70 rfl rfl rfl rfl ?_
      refine s_aloadn 1 11 rfl rfl ?_
      refine s_geti 1702 1 12 rfl k_fl72 rfl rfl rfl rfl rfl ?_
      refine s_iloadn 1 13 rfl rfl ?_
      refine s_iloadn 1 14 rfl rfl ?_
      refine s_cvi3 (M' := MX3_valueAt) 1 15 rfl k_ml124 vvX3_valueAt rfl rfl (Nat.le_of_ble_eq_true rfl) rfl (c_Law_valueAt g _ _ _ (k_sat_bind H)) (fun r16 u15 H => ?_)
      refine s_if_eq 2 0 67 rfl (by decide) H (fun _ H => ?_) (fun _ H => ?_)
      · refine s_const 1 2 3 rfl k_ic_1 ?_
        exact k_via (t_Nights_pushed_Thought_J68 g  _ _ _ _  hr H) ⟨rfl, rfl, rfl, rfl, rfl, trivial⟩
      · refine s_const 0 2 1 rfl k_ic_0 ?_
        refine s_goto 2 2 68 rfl (by decide) ?_
        exact k_via (t_Nights_pushed_Thought_J68 g  _ _ _ _  hr H) ⟨rfl, rfl, rfl, rfl, rfl, trivial⟩
  · refine s_const 2 1 3 rfl k_ic_2 ?_
    refine s_istore 1 4 rfl rfl ?_
    refine s_goto 1 5 160 rfl (by decide) ?_
    exact k_via (t_Nights_pushed_Thought_J160 g  _ _ _ _  hr H) ⟨rfl, rfl, rfl, rfl, rfl, rfl, trivial⟩
set_option maxRecDepth 100000 in
theorem t_Nights_pass_Thought_B25 (g : k_G)  (v2 : Int32) (v3 : Int32) (v4 : Int32) (v5 : Int32) (v6 : Int32)  {u : k_S} {QQ : ((Int32 × Int32) ⊕ Unit) → k_S → Prop} {Q : Option Value → k_S → Prop} (hb : ∀ (x : (Int32 × Int32)) (u' : k_S), QQ (.inl x) u' → k_W g 5 MX6_pass 25 [(0, .ref 12), (1, .ref 17), (2, .int v2), (3, .int v3), (4, .int v4), (5, .int x.1), (6, .int x.2)] [] u' Q) (he : ∀ (y : Unit) (u' : k_S), QQ (.inr y) u' → k_W g 5 MX6_pass 63 [(0, .ref 12), (1, .ref 17), (2, .int v2), (3, .int v3), (4, .int v4)] [] u' Q) (H : k_sat (f_Nights_pass_Thought_B25  v2 v3 v4 v5 v6 u) QQ) : k_W g 5 MX6_pass 25 [(0, .ref 12), (1, .ref 17), (2, .int v2), (3, .int v3), (4, .int v4), (5, .int v5), (6, .int v6)] [] u Q := by
  refine s_iload 0 15 rfl rfl ?_
  refine s_if_eq 1 0 63 rfl (by decide) H (fun _ H => ?_) (fun _ H => ?_)
  · exact k_via (he _ _ (k_sat_some H)) ⟨rfl, rfl, rfl, rfl, rfl, trivial⟩
  · refine s_iload 1 1 rfl rfl ?_
    refine s_iloadn 1 2 rfl rfl ?_
    refine s_icmp_ge 1 3 63 rfl (by decide) H (fun _ H => ?_) (fun _ H => ?_)
    · exact k_via (he _ _ (k_sat_some H)) ⟨rfl, rfl, rfl, rfl, rfl, trivial⟩
    · refine s_iload 1 4 rfl rfl ?_
      refine s_aloadn 1 5 rfl rfl ?_
      refine s_getr 1 6 rfl k_fl69 rfl rfl rfl rfl ?_
      refine s_geti 303 1 7 rfl k_fl71 rfl rfl rfl rfl rfl ?_
      refine s_icmp_ge 1 8 63 rfl (by decide) H (fun _ H => ?_) (fun _ H => ?_)
      · exact k_via (he _ _ (k_sat_some H)) ⟨rfl, rfl, rfl, rfl, rfl, trivial⟩
      · refine s_aloadn 1 9 rfl rfl ?_
        refine s_aloadn 1 10 rfl rfl ?_
        refine s_iload 1 11 rfl rfl ?_
        refine s_cvi2 (M' := MX6_pushed) 1 12 rfl k_ml120 vvX6_pushed rfl rfl (Nat.le_of_ble_eq_true rfl) rfl (c_Nights_pushed_Thought g _ (k_sat_bind H)) (fun r3 u2 H => ?_)
        refine s_istore 1 13 rfl rfl ?_
        refine s_iinc 1 14 rfl rfl rfl ?_
        refine s_goto 1 15 25 rfl (by decide) ?_
        exact k_via (hb _ _ (k_sat_some H)) ⟨rfl, rfl, rfl, rfl, rfl, rfl, rfl, trivial⟩
set_option maxRecDepth 100000 in
theorem l_Nights_pass_Thought_B25 (g : k_G)  (v2 : Int32) (v3 : Int32) (v4 : Int32) {Q : Option Value → k_S → Prop} {K : Unit → k_S → Prop} (he : ∀ (y : Unit) (u' : k_S), K (y) u' → k_W g 5 MX6_pass 63 [(0, .ref 12), (1, .ref 17), (2, .int v2), (3, .int v3), (4, .int v4)] [] u' Q) : ∀ (n : Nat) (x : (Int32 × Int32)) (u : k_S), k_sat (k_itr (fun (x : (Int32 × Int32)) u => f_Nights_pass_Thought_B25  v2 v3 v4 x.1 x.2 u) n x u) K → k_W g 5 MX6_pass 25 [(0, .ref 12), (1, .ref 17), (2, .int v2), (3, .int v3), (4, .int v4), (5, .int x.1), (6, .int x.2)] [] u Q :=
  k_loop (P := fun (x : (Int32 × Int32)) u => k_W g 5 MX6_pass 25 [(0, .ref 12), (1, .ref 17), (2, .int v2), (3, .int v3), (4, .int v4), (5, .int x.1), (6, .int x.2)] [] u Q) (fun (x : (Int32 × Int32)) u H => t_Nights_pass_Thought_B25 g  v2 v3 v4 x.1 x.2  (fun x u' h => h) (fun y u' h => he y u' h) H)
set_option maxRecDepth 100000 in
theorem t_Nights_pass_Thought_B3 (g : k_G)  (v2 : Int32) (v3 : Int32) (v4 : Int32)  {u : k_S} {QQ : ((Int32) ⊕ Unit) → k_S → Prop} {Q : Option Value → k_S → Prop} (hb : ∀ (x : (Int32)) (u' : k_S), QQ (.inl x) u' → k_W g 5 MX6_pass 3 [(0, .ref 12), (1, .ref 17), (2, .int v2), (3, .int v3), (4, .int x)] [] u' Q) (he : ∀ (y : Unit) (u' : k_S), QQ (.inr y) u' → k_W g 5 MX6_pass 69 [] [] u' Q) (H : k_sat (f_Nights_pass_Thought_B3  v2 v3 v4 u) QQ) : k_W g 5 MX6_pass 3 [(0, .ref 12), (1, .ref 17), (2, .int v2), (3, .int v3), (4, .int v4)] [] u Q := by
  refine s_iload 0 2 rfl rfl ?_
  refine s_iloadn 0 3 rfl rfl ?_
  refine s_icmp_ge 0 4 69 rfl (by decide) H (fun _ H => ?_) (fun _ H => ?_)
  · exact k_via (he _ _ (k_sat_some H)) trivial
  · refine s_aloadn 0 5 rfl rfl ?_
    refine s_dupr 0 6 rfl ?_
    refine s_geti 1702 0 7 rfl k_fl72 rfl rfl rfl rfl rfl ?_
    refine s_const 1 0 8 rfl k_ic_1 ?_
    refine s_iadd 0 9 rfl ?_
    refine s_puti 1702 0 10 rfl k_fl72 rfl rfl rfl rfl rfl rfl rfl rfl rfl H (fun u1 H => ?_)
    refine s_const 1 0 11 rfl k_ic_1 ?_
    refine s_istore 0 12 rfl rfl ?_
    refine s_const 0 0 13 rfl k_ic_0 ?_
    refine s_istore 0 14 rfl rfl ?_
    refine k_via (l_Nights_pass_Thought_B25 g  v2 v3 v4 ?_ _ _ _ (k_sat_bind H)) ⟨rfl, rfl, rfl, rfl, rfl, rfl, rfl, trivial⟩
    · intro y5 u4 H
      refine s_iinc 2 0 rfl rfl rfl ?_
      refine s_goto 2 1 3 rfl (by decide) ?_
      exact k_via (hb _ _ (k_sat_some H)) ⟨rfl, rfl, rfl, rfl, rfl, trivial⟩
set_option maxRecDepth 100000 in
theorem l_Nights_pass_Thought_B3 (g : k_G)  (v2 : Int32) (v3 : Int32) {Q : Option Value → k_S → Prop} {K : Unit → k_S → Prop} (he : ∀ (y : Unit) (u' : k_S), K (y) u' → k_W g 5 MX6_pass 69 [] [] u' Q) : ∀ (n : Nat) (x : (Int32)) (u : k_S), k_sat (k_itr (fun (x : (Int32)) u => f_Nights_pass_Thought_B3  v2 v3 x u) n x u) K → k_W g 5 MX6_pass 3 [(0, .ref 12), (1, .ref 17), (2, .int v2), (3, .int v3), (4, .int x)] [] u Q :=
  k_loop (P := fun (x : (Int32)) u => k_W g 5 MX6_pass 3 [(0, .ref 12), (1, .ref 17), (2, .int v2), (3, .int v3), (4, .int x)] [] u Q) (fun (x : (Int32)) u H => t_Nights_pass_Thought_B3 g  v2 v3 x  (fun x u' h => h) (fun y u' h => he y u' h) H)
set_option maxRecDepth 100000 in
theorem c_Nights_pass_Thought (g : k_G)  (p2 : Int32) (p3 : Int32) {u : k_S} {QQ : Unit → k_S → Prop} (H : k_sat (f_Nights_pass_Thought  p2 p3 u) QQ) : k_OK g 5 MX6_pass [.ref 12, .ref 17, .int p2, .int p3] u (k_qv QQ) := by
  have hr : ∀ (r : Unit) (u' : k_S), QQ (r) u' → (k_qv QQ) (none) u' := fun r u' h => ⟨rfl, h⟩
  refine k_OK.ofW pfX6_pass (k_tab_of MX6_pass_dec) rfl ?_
  refine s_const 0 0 0 rfl k_ic_0 ?_
  refine s_istore 0 1 rfl rfl ?_
  refine k_via (l_Nights_pass_Thought_B3 g  p2 p3 ?_ _ _ _ (k_sat_bind H)) ⟨rfl, rfl, rfl, rfl, rfl, trivial⟩
  · intro y7 u6 H
    exact s_ret 2 2 rfl rfl (hr _ _ (k_sat_some H))
set_option maxRecDepth 100000 in
theorem c_W_shows (g : k_G)  (p1 : Int32) (p2 : Int32) {u : k_S} {QQ : Int32 → k_S → Prop} (H : k_sat (f_W_shows  p1 p2 u) QQ) : k_OK g 6 MX11_shows [.ref 0, .int p1, .int p2] u (k_qi QQ) := by
  have hr : ∀ (r : Int32) (u' : k_S), QQ (r) u' → (k_qi QQ) (some (.int r)) u' := fun r u' h => ⟨_, rfl, h⟩
  refine k_OK.ofW pfX11_shows (k_tab_of MX11_shows_dec) rfl ?_
  refine s_aloadn 0 0 rfl rfl ?_
  refine s_getr 0 1 rfl k_fl1 rfl rfl rfl rfl ?_
  refine s_iloadn 0 2 rfl rfl ?_
  refine s_cvi1 (M' := MX10_has) 0 3 rfl k_ml14 vvX10_has rfl rfl (Nat.le_of_ble_eq_true rfl) rfl (c_Wheels_has g _ (k_sat_bind H)) (fun r2 u1 H => ?_)
  refine s_if_eq 0 4 22 rfl (by decide) H (fun _ H => ?_) (fun _ H => ?_)
  · refine s_const (-1) 0 10 rfl k_ic_m1 ?_
    exact s_iret 0 11 rfl rfl (hr _ _ (k_sat_some H))
  · refine s_iloadn 0 5 rfl rfl ?_
    refine s_if_lt 0 6 22 rfl (by decide) H (fun _ H => ?_) (fun _ H => ?_)
    · refine s_const (-1) 0 10 rfl k_ic_m1 ?_
      exact s_iret 0 11 rfl rfl (hr _ _ (k_sat_some H))
    · refine s_iloadn 0 7 rfl rfl ?_
      refine s_sipush 20000 0 8 rfl k_is_20000 ?_
      refine s_icmp_le 0 9 24 rfl (by decide) H (fun _ H => ?_) (fun _ H => ?_)
      · refine s_aloadn 0 12 rfl rfl ?_
        refine s_getr 0 13 rfl k_fl3 rfl rfl rfl rfl ?_
        refine s_cvv0 (M' := MX6_think) 0 14 rfl k_ml27 vvX6_think rfl rfl (Nat.le_of_ble_eq_true rfl) rfl (c_Nights_think g (k_sat_bind H)) (fun _ u3 H => ?_)
        refine s_aloadn 0 15 rfl rfl ?_
        refine s_getr 1 0 rfl k_fl3 rfl rfl rfl rfl ?_
        refine s_aloadn 1 1 rfl rfl ?_
        refine s_getr 1 2 rfl k_fl3 rfl rfl rfl rfl ?_
        refine s_getr 1 3 rfl k_fl17 rfl rfl rfl rfl ?_
        refine s_iloadn 1 4 rfl rfl ?_
        refine s_iloadn 1 5 rfl rfl ?_
        refine s_const 1 1 6 rfl k_ic_1 ?_
        refine s_iadd 1 7 rfl ?_
        refine s_cvv3 (M' := MX6_pass) 1 8 rfl k_ml25 vvX6_pass rfl rfl (Nat.le_of_ble_eq_true rfl) rfl (c_Nights_pass_Thought g _ _ (k_sat_bind H)) (fun _ u4 H => ?_)
        refine s_aloadn 1 9 rfl rfl ?_
        refine s_getr 1 10 rfl k_fl3 rfl rfl rfl rfl ?_
        refine s_getr 1 11 rfl k_fl17 rfl rfl rfl rfl ?_
        refine s_iloadn 1 12 rfl rfl ?_
        refine s_cvi1 (M' := MX5_placeOf) 1 13 rfl k_ml23 vvX5_placeOf rfl rfl (Nat.le_of_ble_eq_true rfl) rfl (c_Thought_placeOf g _ (k_sat_bind H)) (fun r6 u5 H => ?_)
        exact s_iret 1 14 rfl rfl (hr _ _ (k_sat_some H))
      · refine s_const (-1) 0 10 rfl k_ic_m1 ?_
        exact s_iret 0 11 rfl rfl (hr _ _ (k_sat_some H))
set_option maxRecDepth 100000 in
theorem t_R_keepNow_B10 (g : k_G)  (v1 : Int32)  {u : k_S} {QQ : ((Int32) ⊕ Unit) → k_S → Prop} {Q : Option Value → k_S → Prop} (hb : ∀ (x : (Int32)) (u' : k_S), QQ (.inl x) u' → k_W g 1 MX12_keepNow 10 [(0, .ref 42), (1, .int x)] [] u' Q) (he : ∀ (y : Unit) (u' : k_S), QQ (.inr y) u' → k_W g 1 MX12_keepNow 45 [] [] u' Q) (H : k_sat (f_R_keepNow_B10  v1 u) QQ) : k_W g 1 MX12_keepNow 10 [(0, .ref 42), (1, .int v1)] [] u Q := by
  refine s_iloadn 0 6 rfl rfl ?_
  refine s_const 4 0 7 rfl k_ic_4 ?_
  refine s_icmp_ge 0 8 45 rfl (by decide) H (fun _ H => ?_) (fun _ H => ?_)
  · exact k_via (he _ _ (k_sat_some H)) trivial
  · refine s_aloadn 0 9 rfl rfl ?_
    refine s_getr 0 10 rfl k_fl105 rfl rfl rfl rfl ?_
    refine s_iloadn 0 11 rfl rfl ?_
    refine s_aloadn 0 12 rfl rfl ?_
    refine s_getr 0 13 rfl k_fl90 rfl rfl rfl rfl ?_
    refine s_iloadn 0 14 rfl rfl ?_
    refine s_iald 0 15 rfl rfl H (fun _ H => ?_)
    refine s_iast 1 0 rfl rfl H (fun u2 H => ?_)
    refine s_aloadn 1 1 rfl rfl ?_
    refine s_getr 1 2 rfl k_fl106 rfl rfl rfl rfl ?_
    refine s_iloadn 1 3 rfl rfl ?_
    refine s_aloadn 1 4 rfl rfl ?_
    refine s_getr 1 5 rfl k_fl91 rfl rfl rfl rfl ?_
    refine s_iloadn 1 6 rfl rfl ?_
    refine s_iald 1 7 rfl rfl H (fun _ H => ?_)
    refine s_iast 1 8 rfl rfl H (fun u3 H => ?_)
    refine s_iinc 1 9 rfl rfl rfl ?_
    refine s_goto 1 10 10 rfl (by decide) ?_
    exact k_via (hb _ _ (k_sat_some H)) ⟨rfl, rfl, trivial⟩
set_option maxRecDepth 100000 in
theorem l_R_keepNow_B10 (g : k_G)   {Q : Option Value → k_S → Prop} {K : Unit → k_S → Prop} (he : ∀ (y : Unit) (u' : k_S), K (y) u' → k_W g 1 MX12_keepNow 45 [] [] u' Q) : ∀ (n : Nat) (x : (Int32)) (u : k_S), k_sat (k_itr (fun (x : (Int32)) u => f_R_keepNow_B10  x u) n x u) K → k_W g 1 MX12_keepNow 10 [(0, .ref 42), (1, .int x)] [] u Q :=
  k_loop (P := fun (x : (Int32)) u => k_W g 1 MX12_keepNow 10 [(0, .ref 42), (1, .int x)] [] u Q) (fun (x : (Int32)) u H => t_R_keepNow_B10 g  x  (fun x u' h => h) (fun y u' h => he y u' h) H)
set_option maxRecDepth 100000 in
theorem c_R_keepNow (g : k_G)   {u : k_S} {QQ : Unit → k_S → Prop} (H : k_sat (f_R_keepNow   u) QQ) : k_OK g 1 MX12_keepNow [.ref 42] u (k_qv QQ) := by
  have hr : ∀ (r : Unit) (u' : k_S), QQ (r) u' → (k_qv QQ) (none) u' := fun r u' h => ⟨rfl, h⟩
  refine k_OK.ofW pfX12_keepNow (k_tab_of MX12_keepNow_dec) rfl ?_
  refine s_aloadn 0 0 rfl rfl ?_
  refine s_aloadn 0 1 rfl rfl ?_
  refine s_geti 4209 0 2 rfl k_fl128 rfl rfl rfl rfl rfl ?_
  refine s_puti 4230 0 3 rfl k_fl132 rfl rfl rfl rfl rfl rfl rfl rfl rfl H (fun u1 H => ?_)
  refine s_const 0 0 4 rfl k_ic_0 ?_
  refine s_istoren 0 5 rfl rfl ?_
  refine k_via (l_R_keepNow_B10 g   ?_ _ _ _ (k_sat_bind H)) ⟨rfl, rfl, trivial⟩
  · intro y5 u4 H
    exact s_ret 1 11 rfl rfl (hr _ _ (k_sat_some H))
set_option maxRecDepth 100000 in
theorem t_R_layBack_B10 (g : k_G)  (v1 : Int32)  {u : k_S} {QQ : ((Int32) ⊕ Unit) → k_S → Prop} {Q : Option Value → k_S → Prop} (hb : ∀ (x : (Int32)) (u' : k_S), QQ (.inl x) u' → k_W g 1 MX12_layBack 10 [(0, .ref 42), (1, .int x)] [] u' Q) (he : ∀ (y : Unit) (u' : k_S), QQ (.inr y) u' → k_W g 1 MX12_layBack 45 [] [] u' Q) (H : k_sat (f_R_layBack_B10  v1 u) QQ) : k_W g 1 MX12_layBack 10 [(0, .ref 42), (1, .int v1)] [] u Q := by
  refine s_iloadn 0 6 rfl rfl ?_
  refine s_const 4 0 7 rfl k_ic_4 ?_
  refine s_icmp_ge 0 8 45 rfl (by decide) H (fun _ H => ?_) (fun _ H => ?_)
  · exact k_via (he _ _ (k_sat_some H)) trivial
  · refine s_aloadn 0 9 rfl rfl ?_
    refine s_getr 0 10 rfl k_fl90 rfl rfl rfl rfl ?_
    refine s_iloadn 0 11 rfl rfl ?_
    refine s_aloadn 0 12 rfl rfl ?_
    refine s_getr 0 13 rfl k_fl105 rfl rfl rfl rfl ?_
    refine s_iloadn 0 14 rfl rfl ?_
    refine s_iald 0 15 rfl rfl H (fun _ H => ?_)
    refine s_iast 1 0 rfl rfl H (fun u2 H => ?_)
    refine s_aloadn 1 1 rfl rfl ?_
    refine s_getr 1 2 rfl k_fl91 rfl rfl rfl rfl ?_
    refine s_iloadn 1 3 rfl rfl ?_
    refine s_aloadn 1 4 rfl rfl ?_
    refine s_getr 1 5 rfl k_fl106 rfl rfl rfl rfl ?_
    refine s_iloadn 1 6 rfl rfl ?_
    refine s_iald 1 7 rfl rfl H (fun _ H => ?_)
    refine s_iast 1 8 rfl rfl H (fun u3 H => ?_)
    refine s_iinc 1 9 rfl rfl rfl ?_
    refine s_goto 1 10 10 rfl (by decide) ?_
    exact k_via (hb _ _ (k_sat_some H)) ⟨rfl, rfl, trivial⟩
set_option maxRecDepth 100000 in
theorem l_R_layBack_B10 (g : k_G)   {Q : Option Value → k_S → Prop} {K : Unit → k_S → Prop} (he : ∀ (y : Unit) (u' : k_S), K (y) u' → k_W g 1 MX12_layBack 45 [] [] u' Q) : ∀ (n : Nat) (x : (Int32)) (u : k_S), k_sat (k_itr (fun (x : (Int32)) u => f_R_layBack_B10  x u) n x u) K → k_W g 1 MX12_layBack 10 [(0, .ref 42), (1, .int x)] [] u Q :=
  k_loop (P := fun (x : (Int32)) u => k_W g 1 MX12_layBack 10 [(0, .ref 42), (1, .int x)] [] u Q) (fun (x : (Int32)) u H => t_R_layBack_B10 g  x  (fun x u' h => h) (fun y u' h => he y u' h) H)
set_option maxRecDepth 100000 in
theorem c_R_layBack (g : k_G)   {u : k_S} {QQ : Unit → k_S → Prop} (H : k_sat (f_R_layBack   u) QQ) : k_OK g 1 MX12_layBack [.ref 42] u (k_qv QQ) := by
  have hr : ∀ (r : Unit) (u' : k_S), QQ (r) u' → (k_qv QQ) (none) u' := fun r u' h => ⟨rfl, h⟩
  refine k_OK.ofW pfX12_layBack (k_tab_of MX12_layBack_dec) rfl ?_
  refine s_aloadn 0 0 rfl rfl ?_
  refine s_aloadn 0 1 rfl rfl ?_
  refine s_geti 4230 0 2 rfl k_fl132 rfl rfl rfl rfl rfl ?_
  refine s_puti 4209 0 3 rfl k_fl128 rfl rfl rfl rfl rfl rfl rfl rfl rfl H (fun u1 H => ?_)
  refine s_const 0 0 4 rfl k_ic_0 ?_
  refine s_istoren 0 5 rfl rfl ?_
  refine k_via (l_R_layBack_B10 g   ?_ _ _ _ (k_sat_bind H)) ⟨rfl, rfl, trivial⟩
  · intro y5 u4 H
    exact s_ret 1 11 rfl rfl (hr _ _ (k_sat_some H))
set_option maxRecDepth 100000 in
theorem t_R_shows_B27 (g : k_G)  (v1 : Int32) (v2 : Int32) (v3 : Int32)  {u : k_S} {QQ : ((Int32) ⊕ Unit) → k_S → Prop} {Q : Option Value → k_S → Prop} (hb : ∀ (x : (Int32)) (u' : k_S), QQ (.inl x) u' → k_W g 7 MX12_shows 27 [(0, .ref 42), (1, .int v1), (2, .int v2), (3, .int x)] [] u' Q) (he : ∀ (y : Unit) (u' : k_S), QQ (.inr y) u' → k_W g 7 MX12_shows 42 [(0, .ref 42), (1, .int v1)] [] u' Q) (H : k_sat (f_R_shows_B27  v1 v2 v3 u) QQ) : k_W g 7 MX12_shows 27 [(0, .ref 42), (1, .int v1), (2, .int v2), (3, .int v3)] [] u Q := by
  refine s_iloadn 0 15 rfl rfl ?_
  refine s_iloadn 1 0 rfl rfl ?_
  refine s_icmp_ge 1 1 42 rfl (by decide) H (fun _ H => ?_) (fun _ H => ?_)
  · exact k_via (he _ _ (k_sat_some H)) ⟨rfl, rfl, trivial⟩
  · refine s_aloadn 1 2 rfl rfl ?_
    refine s_cvv0 (M' := MX12_goOn) 1 3 rfl k_ml255 vvX12_goOn rfl rfl (Nat.le_of_ble_eq_true rfl) rfl (c_R_goOn g (k_sat_bind H)) (fun _ u6 H => ?_)
    refine s_iinc 1 4 rfl rfl rfl ?_
    refine s_goto 1 5 27 rfl (by decide) ?_
    exact k_via (hb _ _ (k_sat_some H)) ⟨rfl, rfl, rfl, rfl, trivial⟩
set_option maxRecDepth 100000 in
theorem l_R_shows_B27 (g : k_G)  (v1 : Int32) (v2 : Int32) {Q : Option Value → k_S → Prop} {K : Unit → k_S → Prop} (he : ∀ (y : Unit) (u' : k_S), K (y) u' → k_W g 7 MX12_shows 42 [(0, .ref 42), (1, .int v1)] [] u' Q) : ∀ (n : Nat) (x : (Int32)) (u : k_S), k_sat (k_itr (fun (x : (Int32)) u => f_R_shows_B27  v1 v2 x u) n x u) K → k_W g 7 MX12_shows 27 [(0, .ref 42), (1, .int v1), (2, .int v2), (3, .int x)] [] u Q :=
  k_loop (P := fun (x : (Int32)) u => k_W g 7 MX12_shows 27 [(0, .ref 42), (1, .int v1), (2, .int v2), (3, .int x)] [] u Q) (fun (x : (Int32)) u H => t_R_shows_B27 g  v1 v2 x  (fun x u' h => h) (fun y u' h => he y u' h) H)
set_option maxRecDepth 100000 in
theorem c_R_shows (g : k_G)  (p1 : Int32) (p2 : Int32) {u : k_S} {QQ : Int32 → k_S → Prop} (H : k_sat (f_R_shows  p1 p2 u) QQ) : k_OK g 7 MX12_shows [.ref 42, .int p1, .int p2] u (k_qi QQ) := by
  have hr : ∀ (r : Int32) (u' : k_S), QQ (r) u' → (k_qi QQ) (some (.int r)) u' := fun r u' h => ⟨_, rfl, h⟩
  refine k_OK.ofW pfX12_shows (k_tab_of MX12_shows_dec) rfl ?_
  refine s_aloadn 0 0 rfl rfl ?_
  refine s_iloadn 0 1 rfl rfl ?_
  refine s_cvi1 (M' := MX12_isWheel) 0 2 rfl k_ml251 vvX12_isWheel rfl rfl (Nat.le_of_ble_eq_true rfl) rfl (c_R_isWheel g _ (k_sat_bind H)) (fun r2 u1 H => ?_)
  refine s_if_eq 0 3 19 rfl (by decide) H (fun _ H => ?_) (fun _ H => ?_)
  · refine s_const (-1) 0 9 rfl k_ic_m1 ?_
    exact s_iret 0 10 rfl rfl (hr _ _ (k_sat_some H))
  · refine s_iloadn 0 4 rfl rfl ?_
    refine s_const 0 0 5 rfl k_ic_0 ?_
    refine s_sipush 20000 0 6 rfl k_is_20000 ?_
    refine s_csi3 (M' := MX12_in) 0 7 rfl k_ml230 vvX12_in (Nat.le_of_ble_eq_true rfl) rfl (c_R_in g _ _ _ (k_sat_bind H)) (fun r4 u3 H => ?_)
    refine s_if_ne 0 8 21 rfl (by decide) H (fun _ H => ?_) (fun _ H => ?_)
    · refine s_aloadn 0 11 rfl rfl ?_
      refine s_cvv0 (M' := MX12_keepNow) 0 12 rfl k_ml256 vvX12_keepNow rfl rfl (Nat.le_of_ble_eq_true rfl) rfl (c_R_keepNow g (k_sat_bind H)) (fun _ u5 H => ?_)
      refine s_const 0 0 13 rfl k_ic_0 ?_
      refine s_istoren 0 14 rfl rfl ?_
      refine k_via (l_R_shows_B27 g  p1 p2 ?_ _ _ _ (k_sat_bind H)) ⟨rfl, rfl, rfl, rfl, trivial⟩
      · intro y8 u7 H
        refine s_aloadn 1 6 rfl rfl ?_
        refine s_getr 1 7 rfl k_fl90 rfl rfl rfl rfl ?_
        refine s_iloadn 1 8 rfl rfl ?_
        refine s_iald 1 9 rfl rfl H (fun _ H => ?_)
        refine k_topi H (fun t9 H => ?_)
        refine s_istoren 1 10 rfl rfl ?_
        refine s_aloadn 1 11 rfl rfl ?_
        refine s_cvv0 (M' := MX12_layBack) 1 12 rfl k_ml257 vvX12_layBack rfl rfl (Nat.le_of_ble_eq_true rfl) rfl (c_R_layBack g (k_sat_bind H)) (fun _ u10 H => ?_)
        refine s_iloadn 1 13 rfl rfl ?_
        exact s_iret 1 14 rfl rfl (hr _ _ (k_sat_some H))
    · refine s_const (-1) 0 9 rfl k_ic_m1 ?_
      exact s_iret 0 10 rfl rfl (hr _ _ (k_sat_some H))
set_option maxRecDepth 100000 in
theorem c_Nights_dayOf (g : k_G)  (p1 : Int32) {u : k_S} {QQ : Int32 → k_S → Prop} (H : k_sat (f_Nights_dayOf  p1 u) QQ) : k_OK g 2 MX6_dayOf [.ref 12, .int p1] u (k_qi QQ) := by
  have hr : ∀ (r : Int32) (u' : k_S), QQ (r) u' → (k_qi QQ) (some (.int r)) u' := fun r u' h => ⟨_, rfl, h⟩
  refine k_OK.ofW pfX6_dayOf (k_tab_of MX6_dayOf_dec) rfl ?_
  refine s_iloadn 0 0 rfl rfl ?_
  refine s_aloadn 0 1 rfl rfl ?_
  refine s_geti 1205 0 2 rfl k_fl67 rfl rfl rfl rfl rfl ?_
  refine s_csNi2 (M' := MX11_left) 0 3 rfl k_ml127 vvX11_left (Nat.le_of_ble_eq_true rfl) rfl (c_W_left g _ _ (k_sat_bind H)) (fun r2 u1 H => ?_)
  exact s_iret 0 4 rfl rfl (hr _ _ (k_sat_some H))
set_option maxRecDepth 100000 in
theorem c_W_day (g : k_G)   {u : k_S} {QQ : Int32 → k_S → Prop} (H : k_sat (f_W_day   u) QQ) : k_OK g 3 MX11_day [.ref 0] u (k_qi QQ) := by
  have hr : ∀ (r : Int32) (u' : k_S), QQ (r) u' → (k_qi QQ) (some (.int r)) u' := fun r u' h => ⟨_, rfl, h⟩
  refine k_OK.ofW pfX11_day (k_tab_of MX11_day_dec) rfl ?_
  refine s_aloadn 0 0 rfl rfl ?_
  refine s_getr 0 1 rfl k_fl1 rfl rfl rfl rfl ?_
  refine s_geti 303 0 2 rfl k_fl12 rfl rfl rfl rfl rfl ?_
  refine s_if_ne 0 3 13 rfl (by decide) H (fun _ H => ?_) (fun _ H => ?_)
  · refine s_aloadn 0 6 rfl rfl ?_
    refine s_getr 0 7 rfl k_fl3 rfl rfl rfl rfl ?_
    refine s_aloadn 0 8 rfl rfl ?_
    refine s_getr 0 9 rfl k_fl3 rfl rfl rfl rfl ?_
    refine s_getr 0 10 rfl k_fl15 rfl rfl rfl rfl ?_
    refine s_const 0 0 11 rfl k_ic_0 ?_
    refine s_cvi1 (M' := MX5_placeOf) 0 12 rfl k_ml23 vvX5_placeOf rfl rfl (Nat.le_of_ble_eq_true rfl) rfl (c_Now_placeOf g _ (k_sat_bind H)) (fun r2 u1 H => ?_)
    refine s_cvi1 (M' := MX6_dayOf) 0 13 rfl k_ml28 vvX6_dayOf rfl rfl (Nat.le_of_ble_eq_true rfl) rfl (c_Nights_dayOf g _ (k_sat_bind H)) (fun r4 u3 H => ?_)
    exact s_iret 0 14 rfl rfl (hr _ _ (k_sat_some H))
  · refine s_bipush (-5) 0 4 rfl k_ib_m5 ?_
    exact s_iret 0 5 rfl rfl (hr _ _ (k_sat_some H))
set_option maxRecDepth 100000 in
theorem c_R_day (g : k_G)   {u : k_S} {QQ : Int32 → k_S → Prop} (H : k_sat (f_R_day   u) QQ) : k_OK g 1 MX12_day [.ref 42] u (k_qi QQ) := by
  have hr : ∀ (r : Int32) (u' : k_S), QQ (r) u' → (k_qi QQ) (some (.int r)) u' := fun r u' h => ⟨_, rfl, h⟩
  refine k_OK.ofW pfX12_day (k_tab_of MX12_day_dec) rfl ?_
  refine s_aloadn 0 0 rfl rfl ?_
  refine s_geti 4203 0 1 rfl k_fl122 rfl rfl rfl rfl rfl ?_
  refine s_if_ne 0 2 12 rfl (by decide) H (fun _ H => ?_) (fun _ H => ?_)
  · refine s_aloadn 0 5 rfl rfl ?_
    refine s_getr 0 6 rfl k_fl90 rfl rfl rfl rfl ?_
    refine s_const 0 0 7 rfl k_ic_0 ?_
    refine s_iald 0 8 rfl rfl H (fun _ H => ?_)
    refine s_aloadn 0 9 rfl rfl ?_
    refine s_geti 4210 0 10 rfl k_fl93 rfl rfl rfl rfl rfl ?_
    refine s_irem 0 11 rfl (k_sat_nz H).1 ?_
    replace H := (k_sat_nz H).2
    exact s_iret 0 12 rfl rfl (hr _ _ (k_sat_some H))
  · refine s_bipush (-5) 0 3 rfl k_ib_m5 ?_
    refine s_goto 0 4 23 rfl (by decide) ?_
    exact s_iret 0 12 rfl rfl (hr _ _ (k_sat_some H))
set_option maxRecDepth 100000 in
theorem t_Nights_timesOfDay_B9 (g : k_G)  (v1 : Int32) (v2 : Int32) (v3 : Int32) (v4 : Int32)  {u : k_S} {QQ : ((Int32 × Int32) ⊕ (Int32)) → k_S → Prop} {Q : Option Value → k_S → Prop} (hb : ∀ (x : (Int32 × Int32)) (u' : k_S), QQ (.inl x) u' → k_W g 6 MX6_timesOfDay 9 [(0, .ref 12), (1, .int v1), (2, .int v2), (3, .int x.1), (4, .int x.2)] [] u' Q) (he : ∀ (y : (Int32)) (u' : k_S), QQ (.inr y) u' → k_W g 6 MX6_timesOfDay 50 [(3, .int y)] [] u' Q) (H : k_sat (f_Nights_timesOfDay_B9  v1 v2 v3 v4 u) QQ) : k_W g 6 MX6_timesOfDay 9 [(0, .ref 12), (1, .int v1), (2, .int v2), (3, .int v3), (4, .int v4)] [] u Q := by
  refine s_iload 0 6 rfl rfl ?_
  refine s_iloadn 0 7 rfl rfl ?_
  refine s_icmp_ge 0 8 50 rfl (by decide) H (fun _ H => ?_) (fun _ H => ?_)
  · exact k_via (he _ _ (k_sat_some H)) ⟨rfl, trivial⟩
  · refine s_aloadn 0 9 rfl rfl ?_
    refine s_aloadn 0 10 rfl rfl ?_
    refine s_getr 0 11 rfl k_fl65 rfl rfl rfl rfl ?_
    refine s_const 1 0 12 rfl k_ic_1 ?_
    refine s_const 1 0 13 rfl k_ic_1 ?_
    refine s_cvv3 (M' := MX6_pass) 0 14 rfl k_ml130 vvX6_pass rfl rfl (Nat.le_of_ble_eq_true rfl) rfl (c_Nights_pass_Thought g _ _ (k_sat_bind H)) (fun _ u2 H => ?_)
    refine s_aloadn 0 15 rfl rfl ?_
    refine s_aloadn 1 0 rfl rfl ?_
    refine s_getr 1 1 rfl k_fl65 rfl rfl rfl rfl ?_
    refine s_const 0 1 2 rfl k_ic_0 ?_
    refine s_cvi1 (M' := MX5_placeOf) 1 3 rfl k_ml121 vvX5_placeOf rfl rfl (Nat.le_of_ble_eq_true rfl) rfl (c_Thought_placeOf g _ (k_sat_bind H)) (fun r4 u3 H => ?_)
    refine s_cvi1 (M' := MX6_dayOf) 1 4 rfl k_ml131 vvX6_dayOf rfl rfl (Nat.le_of_ble_eq_true rfl) rfl (c_Nights_dayOf g _ (k_sat_bind H)) (fun r6 u5 H => ?_)
    refine s_iloadn 1 5 rfl rfl ?_
    refine s_icmp_ne 1 6 44 rfl (by decide) H (fun _ H => ?_) (fun _ H => ?_)
    · refine s_iinc 1 8 rfl rfl rfl ?_
      refine s_goto 1 9 9 rfl (by decide) ?_
      exact k_via (hb _ _ (k_sat_some H)) ⟨rfl, rfl, rfl, rfl, rfl, trivial⟩
    · refine s_iinc 1 7 rfl rfl rfl ?_
      refine s_iinc 1 8 rfl rfl rfl ?_
      refine s_goto 1 9 9 rfl (by decide) ?_
      exact k_via (hb _ _ (k_sat_some H)) ⟨rfl, rfl, rfl, rfl, rfl, trivial⟩
set_option maxRecDepth 100000 in
theorem l_Nights_timesOfDay_B9 (g : k_G)  (v1 : Int32) (v2 : Int32) {Q : Option Value → k_S → Prop} {K : (Int32) → k_S → Prop} (he : ∀ (y : (Int32)) (u' : k_S), K (y) u' → k_W g 6 MX6_timesOfDay 50 [(3, .int y)] [] u' Q) : ∀ (n : Nat) (x : (Int32 × Int32)) (u : k_S), k_sat (k_itr (fun (x : (Int32 × Int32)) u => f_Nights_timesOfDay_B9  v1 v2 x.1 x.2 u) n x u) K → k_W g 6 MX6_timesOfDay 9 [(0, .ref 12), (1, .int v1), (2, .int v2), (3, .int x.1), (4, .int x.2)] [] u Q :=
  k_loop (P := fun (x : (Int32 × Int32)) u => k_W g 6 MX6_timesOfDay 9 [(0, .ref 12), (1, .int v1), (2, .int v2), (3, .int x.1), (4, .int x.2)] [] u Q) (fun (x : (Int32 × Int32)) u H => t_Nights_timesOfDay_B9 g  v1 v2 x.1 x.2  (fun x u' h => h) (fun y u' h => he y u' h) H)
set_option maxRecDepth 100000 in
theorem c_Nights_timesOfDay (g : k_G)  (p1 : Int32) (p2 : Int32) {u : k_S} {QQ : Int32 → k_S → Prop} (H : k_sat (f_Nights_timesOfDay  p1 p2 u) QQ) : k_OK g 6 MX6_timesOfDay [.ref 12, .int p1, .int p2] u (k_qi QQ) := by
  have hr : ∀ (r : Int32) (u' : k_S), QQ (r) u' → (k_qi QQ) (some (.int r)) u' := fun r u' h => ⟨_, rfl, h⟩
  refine k_OK.ofW pfX6_timesOfDay (k_tab_of MX6_timesOfDay_dec) rfl ?_
  refine s_const 0 0 0 rfl k_ic_0 ?_
  refine s_istoren 0 1 rfl rfl ?_
  refine s_aloadn 0 2 rfl rfl ?_
  refine s_cvv0 (M' := MX6_think) 0 3 rfl k_ml129 vvX6_think rfl rfl (Nat.le_of_ble_eq_true rfl) rfl (c_Nights_think g (k_sat_bind H)) (fun _ u1 H => ?_)
  refine s_const 0 0 4 rfl k_ic_0 ?_
  refine s_istore 0 5 rfl rfl ?_
  refine k_via (l_Nights_timesOfDay_B9 g  p1 p2 ?_ _ _ _ (k_sat_bind H)) ⟨rfl, rfl, rfl, rfl, rfl, trivial⟩
  · intro y8 u7 H
    refine s_iloadn 1 10 rfl rfl ?_
    exact s_iret 1 11 rfl rfl (hr _ _ (k_sat_some H))
set_option maxRecDepth 100000 in
theorem c_W_often (g : k_G)  (p1 : Int32) (p2 : Int32) {u : k_S} {QQ : Int32 → k_S → Prop} (H : k_sat (f_W_often  p1 p2 u) QQ) : k_OK g 7 MX11_often [.ref 0, .int p1, .int p2] u (k_qi QQ) := by
  have hr : ∀ (r : Int32) (u' : k_S), QQ (r) u' → (k_qi QQ) (some (.int r)) u' := fun r u' h => ⟨_, rfl, h⟩
  refine k_OK.ofW pfX11_often (k_tab_of MX11_often_dec) rfl ?_
  refine s_iloadn 0 0 rfl rfl ?_
  refine s_const 1 0 1 rfl k_ic_1 ?_
  refine s_icmp_lt 0 2 27 rfl (by decide) H (fun _ H => ?_) (fun _ H => ?_)
  · refine s_const (-1) 0 13 rfl k_ic_m1 ?_
    exact s_iret 0 14 rfl rfl (hr _ _ (k_sat_some H))
  · refine s_iloadn 0 3 rfl rfl ?_
    refine s_sipush 2000 0 4 rfl k_is_2000 ?_
    refine s_icmp_gt 0 5 27 rfl (by decide) H (fun _ H => ?_) (fun _ H => ?_)
    · refine s_const (-1) 0 13 rfl k_ic_m1 ?_
      exact s_iret 0 14 rfl rfl (hr _ _ (k_sat_some H))
    · refine s_iloadn 0 6 rfl rfl ?_
      refine s_if_lt 0 7 27 rfl (by decide) H (fun _ H => ?_) (fun _ H => ?_)
      · refine s_const (-1) 0 13 rfl k_ic_m1 ?_
        exact s_iret 0 14 rfl rfl (hr _ _ (k_sat_some H))
      · refine s_iloadn 0 8 rfl rfl ?_
        refine s_aloadn 0 9 rfl rfl ?_
        refine s_getr 0 10 rfl k_fl3 rfl rfl rfl rfl ?_
        refine s_geti 1205 0 11 rfl k_fl13 rfl rfl rfl rfl rfl ?_
        refine s_icmp_lt 0 12 29 rfl (by decide) H (fun _ H => ?_) (fun _ H => ?_)
        · refine s_aloadn 0 15 rfl rfl ?_
          refine s_getr 1 0 rfl k_fl1 rfl rfl rfl rfl ?_
          refine s_geti 303 1 1 rfl k_fl12 rfl rfl rfl rfl rfl ?_
          refine s_if_ne 1 2 42 rfl (by decide) H (fun _ H => ?_) (fun _ H => ?_)
          · refine s_aloadn 1 5 rfl rfl ?_
            refine s_getr 1 6 rfl k_fl3 rfl rfl rfl rfl ?_
            refine s_iloadn 1 7 rfl rfl ?_
            refine s_iloadn 1 8 rfl rfl ?_
            refine s_cvi2 (M' := MX6_timesOfDay) 1 9 rfl k_ml29 vvX6_timesOfDay rfl rfl (Nat.le_of_ble_eq_true rfl) rfl (c_Nights_timesOfDay g _ _ (k_sat_bind H)) (fun r2 u1 H => ?_)
            exact s_iret 1 10 rfl rfl (hr _ _ (k_sat_some H))
          · refine s_bipush (-5) 1 3 rfl k_ib_m5 ?_
            exact s_iret 1 4 rfl rfl (hr _ _ (k_sat_some H))
        · refine s_const (-1) 0 13 rfl k_ic_m1 ?_
          exact s_iret 0 14 rfl rfl (hr _ _ (k_sat_some H))
set_option maxRecDepth 100000 in
theorem t_R_often_B46 (g : k_G)  (v1 : Int32) (v2 : Int32) (v3 : Int32) (v4 : Int32)  {u : k_S} {QQ : ((Int32 × Int32) ⊕ (Int32)) → k_S → Prop} {Q : Option Value → k_S → Prop} (hb : ∀ (x : (Int32 × Int32)) (u' : k_S), QQ (.inl x) u' → k_W g 7 MX12_often 46 [(0, .ref 42), (1, .int v1), (2, .int v2), (3, .int x.1), (4, .int x.2)] [] u' Q) (he : ∀ (y : (Int32)) (u' : k_S), QQ (.inr y) u' → k_W g 7 MX12_often 80 [(0, .ref 42), (3, .int y)] [] u' Q) (H : k_sat (f_R_often_B46  v1 v2 v3 v4 u) QQ) : k_W g 7 MX12_often 46 [(0, .ref 42), (1, .int v1), (2, .int v2), (3, .int v3), (4, .int v4)] [] u Q := by
  refine s_iload 1 10 rfl rfl ?_
  refine s_iloadn 1 11 rfl rfl ?_
  refine s_icmp_ge 1 12 80 rfl (by decide) H (fun _ H => ?_) (fun _ H => ?_)
  · exact k_via (he _ _ (k_sat_some H)) ⟨rfl, rfl, trivial⟩
  · refine s_aloadn 1 13 rfl rfl ?_
    refine s_cvv0 (M' := MX12_goOn) 1 14 rfl k_ml255 vvX12_goOn rfl rfl (Nat.le_of_ble_eq_true rfl) rfl (c_R_goOn g (k_sat_bind H)) (fun _ u6 H => ?_)
    refine s_aloadn 1 15 rfl rfl ?_
    refine s_getr 2 0 rfl k_fl90 rfl rfl rfl rfl ?_
    refine s_const 0 2 1 rfl k_ic_0 ?_
    refine s_iald 2 2 rfl rfl H (fun _ H => ?_)
    refine s_aloadn 2 3 rfl rfl ?_
    refine s_geti 4210 2 4 rfl k_fl93 rfl rfl rfl rfl rfl ?_
    refine s_irem 2 5 rfl (k_sat_nz H).1 ?_
    replace H := (k_sat_nz H).2
    refine s_iloadn 2 6 rfl rfl ?_
    refine s_icmp_ne 2 7 74 rfl (by decide) H (fun _ H => ?_) (fun _ H => ?_)
    · refine s_iinc 2 9 rfl rfl rfl ?_
      refine s_goto 2 10 46 rfl (by decide) ?_
      exact k_via (hb _ _ (k_sat_some H)) ⟨rfl, rfl, rfl, rfl, rfl, trivial⟩
    · refine s_iinc 2 8 rfl rfl rfl ?_
      refine s_iinc 2 9 rfl rfl rfl ?_
      refine s_goto 2 10 46 rfl (by decide) ?_
      exact k_via (hb _ _ (k_sat_some H)) ⟨rfl, rfl, rfl, rfl, rfl, trivial⟩
set_option maxRecDepth 100000 in
theorem l_R_often_B46 (g : k_G)  (v1 : Int32) (v2 : Int32) {Q : Option Value → k_S → Prop} {K : (Int32) → k_S → Prop} (he : ∀ (y : (Int32)) (u' : k_S), K (y) u' → k_W g 7 MX12_often 80 [(0, .ref 42), (3, .int y)] [] u' Q) : ∀ (n : Nat) (x : (Int32 × Int32)) (u : k_S), k_sat (k_itr (fun (x : (Int32 × Int32)) u => f_R_often_B46  v1 v2 x.1 x.2 u) n x u) K → k_W g 7 MX12_often 46 [(0, .ref 42), (1, .int v1), (2, .int v2), (3, .int x.1), (4, .int x.2)] [] u Q :=
  k_loop (P := fun (x : (Int32 × Int32)) u => k_W g 7 MX12_often 46 [(0, .ref 42), (1, .int v1), (2, .int v2), (3, .int x.1), (4, .int x.2)] [] u Q) (fun (x : (Int32 × Int32)) u H => t_R_often_B46 g  v1 v2 x.1 x.2  (fun x u' h => h) (fun y u' h => he y u' h) H)
set_option maxRecDepth 100000 in
theorem c_R_often (g : k_G)  (p1 : Int32) (p2 : Int32) {u : k_S} {QQ : Int32 → k_S → Prop} (H : k_sat (f_R_often  p1 p2 u) QQ) : k_OK g 7 MX12_often [.ref 42, .int p1, .int p2] u (k_qi QQ) := by
  have hr : ∀ (r : Int32) (u' : k_S), QQ (r) u' → (k_qi QQ) (some (.int r)) u' := fun r u' h => ⟨_, rfl, h⟩
  refine k_OK.ofW pfX12_often (k_tab_of MX12_often_dec) rfl ?_
  refine s_iloadn 0 0 rfl rfl ?_
  refine s_const 0 0 1 rfl k_ic_0 ?_
  refine s_aloadn 0 2 rfl rfl ?_
  refine s_geti 4210 0 3 rfl k_fl93 rfl rfl rfl rfl rfl ?_
  refine s_const 1 0 4 rfl k_ic_1 ?_
  refine s_isub 0 5 rfl ?_
  refine s_csi3 (M' := MX12_in) 0 6 rfl k_ml230 vvX12_in (Nat.le_of_ble_eq_true rfl) rfl (c_R_in g _ _ _ (k_sat_bind H)) (fun r2 u1 H => ?_)
  refine s_if_eq 0 7 25 rfl (by decide) H (fun _ H => ?_) (fun _ H => ?_)
  · refine s_const (-1) 0 13 rfl k_ic_m1 ?_
    exact s_iret 0 14 rfl rfl (hr _ _ (k_sat_some H))
  · refine s_iloadn 0 8 rfl rfl ?_
    refine s_const 1 0 9 rfl k_ic_1 ?_
    refine s_sipush 2000 0 10 rfl k_is_2000 ?_
    refine s_csi3 (M' := MX12_in) 0 11 rfl k_ml230 vvX12_in (Nat.le_of_ble_eq_true rfl) rfl (c_R_in g _ _ _ (k_sat_bind H)) (fun r4 u3 H => ?_)
    refine s_if_ne 0 12 27 rfl (by decide) H (fun _ H => ?_) (fun _ H => ?_)
    · refine s_aloadn 0 15 rfl rfl ?_
      refine s_geti 4203 1 0 rfl k_fl122 rfl rfl rfl rfl rfl ?_
      refine s_if_ne 1 1 37 rfl (by decide) H (fun _ H => ?_) (fun _ H => ?_)
      · refine s_aloadn 1 4 rfl rfl ?_
        refine s_cvv0 (M' := MX12_keepNow) 1 5 rfl k_ml256 vvX12_keepNow rfl rfl (Nat.le_of_ble_eq_true rfl) rfl (c_R_keepNow g (k_sat_bind H)) (fun _ u5 H => ?_)
        refine s_const 0 1 6 rfl k_ic_0 ?_
        refine s_istoren 1 7 rfl rfl ?_
        refine s_const 0 1 8 rfl k_ic_0 ?_
        refine s_istore 1 9 rfl rfl ?_
        refine k_via (l_R_often_B46 g  p1 p2 ?_ _ _ _ (k_sat_bind H)) ⟨rfl, rfl, rfl, rfl, rfl, trivial⟩
        · intro y8 u7 H
          refine s_aloadn 2 11 rfl rfl ?_
          refine s_cvv0 (M' := MX12_layBack) 2 12 rfl k_ml257 vvX12_layBack rfl rfl (Nat.le_of_ble_eq_true rfl) rfl (c_R_layBack g (k_sat_bind H)) (fun _ u9 H => ?_)
          refine s_iloadn 2 13 rfl rfl ?_
          exact s_iret 2 14 rfl rfl (hr _ _ (k_sat_some H))
      · refine s_bipush (-5) 1 2 rfl k_ib_m5 ?_
        exact s_iret 1 3 rfl rfl (hr _ _ (k_sat_some H))
    · refine s_const (-1) 0 13 rfl k_ic_m1 ?_
      exact s_iret 0 14 rfl rfl (hr _ _ (k_sat_some H))
set_option maxRecDepth 100000 in
theorem c_Nights_markShown (g : k_G)   {u : k_S} {QQ : Unit → k_S → Prop} (H : k_sat (f_Nights_markShown   u) QQ) : k_OK g 2 MX6_markShown [.ref 12] u (k_qv QQ) := by
  have hr : ∀ (r : Unit) (u' : k_S), QQ (r) u' → (k_qv QQ) (none) u' := fun r u' h => ⟨rfl, h⟩
  refine k_OK.ofW pfX6_markShown (k_tab_of MX6_markShown_dec) rfl ?_
  refine s_aloadn 0 0 rfl rfl ?_
  refine s_getr 0 1 rfl k_fl65 rfl rfl rfl rfl ?_
  refine s_const 0 0 2 rfl k_ic_0 ?_
  refine s_cvi1 (M' := MX5_placeOf) 0 3 rfl k_ml121 vvX5_placeOf rfl rfl (Nat.le_of_ble_eq_true rfl) rfl (c_Thought_placeOf g _ (k_sat_bind H)) (fun r2 u1 H => ?_)
  refine s_istoren 0 4 rfl rfl ?_
  refine s_iloadn 0 5 rfl rfl ?_
  refine s_if_lt 0 6 29 rfl (by decide) H (fun _ H => ?_) (fun _ H => ?_)
  · exact s_ret 1 1 rfl rfl (hr _ _ (k_sat_some H))
  · refine s_iloadn 0 7 rfl rfl ?_
    refine s_aloadn 0 8 rfl rfl ?_
    refine s_getr 0 9 rfl k_fl66 rfl rfl rfl rfl ?_
    refine s_alen 40 0 10 rfl rfl k_ln_40 ?_
    refine s_icmp_ge 0 11 29 rfl (by decide) H (fun _ H => ?_) (fun _ H => ?_)
    · exact s_ret 1 1 rfl rfl (hr _ _ (k_sat_some H))
    · refine s_aloadn 0 12 rfl rfl ?_
      refine s_getr 0 13 rfl k_fl66 rfl rfl rfl rfl ?_
      refine s_iloadn 0 14 rfl rfl ?_
      refine s_const 1 0 15 rfl k_ic_1 ?_
      refine s_iast 1 0 rfl rfl H (fun u3 H => ?_)
      exact s_ret 1 1 rfl rfl (hr _ _ (k_sat_some H))
set_option maxRecDepth 100000 in
theorem t_Nights_unshown_B2 (g : k_G)  (v1 : Int32) (v2 : Int32) (v3 : Int32)  {u : k_S} {QQ : ((Int32) ⊕ Unit) → k_S → Prop} {Q : Option Value → k_S → Prop} (hb : ∀ (x : (Int32)) (u' : k_S), QQ (.inl x) u' → k_W g 6 MX6_unshown 2 [(0, .ref 12), (1, .int v1), (2, .int v2), (3, .int x)] [] u' Q) (he : ∀ (y : Unit) (u' : k_S), QQ (.inr y) u' → k_W g 6 MX6_unshown 24 [(0, .ref 12), (1, .int v1), (2, .int v2)] [] u' Q) (H : k_sat (f_Nights_unshown_B2  v1 v2 v3 u) QQ) : k_W g 6 MX6_unshown 2 [(0, .ref 12), (1, .int v1), (2, .int v2), (3, .int v3)] [] u Q := by
  refine s_iloadn 0 2 rfl rfl ?_
  refine s_aloadn 0 3 rfl rfl ?_
  refine s_getr 0 4 rfl k_fl66 rfl rfl rfl rfl ?_
  refine s_alen 40 0 5 rfl rfl k_ln_40 ?_
  refine s_icmp_ge 0 6 24 rfl (by decide) H (fun _ H => ?_) (fun _ H => ?_)
  · exact k_via (he _ _ (k_sat_some H)) ⟨rfl, rfl, rfl, trivial⟩
  · refine s_aloadn 0 7 rfl rfl ?_
    refine s_getr 0 8 rfl k_fl66 rfl rfl rfl rfl ?_
    refine s_iloadn 0 9 rfl rfl ?_
    refine s_const 0 0 10 rfl k_ic_0 ?_
    refine s_iast 0 11 rfl rfl H (fun u1 H => ?_)
    refine s_iinc 0 12 rfl rfl rfl ?_
    refine s_goto 0 13 2 rfl (by decide) ?_
    exact k_via (hb _ _ (k_sat_some H)) ⟨rfl, rfl, rfl, rfl, trivial⟩
set_option maxRecDepth 100000 in
theorem l_Nights_unshown_B2 (g : k_G)  (v1 : Int32) (v2 : Int32) {Q : Option Value → k_S → Prop} {K : Unit → k_S → Prop} (he : ∀ (y : Unit) (u' : k_S), K (y) u' → k_W g 6 MX6_unshown 24 [(0, .ref 12), (1, .int v1), (2, .int v2)] [] u' Q) : ∀ (n : Nat) (x : (Int32)) (u : k_S), k_sat (k_itr (fun (x : (Int32)) u => f_Nights_unshown_B2  v1 v2 x u) n x u) K → k_W g 6 MX6_unshown 2 [(0, .ref 12), (1, .int v1), (2, .int v2), (3, .int x)] [] u Q :=
  k_loop (P := fun (x : (Int32)) u => k_W g 6 MX6_unshown 2 [(0, .ref 12), (1, .int v1), (2, .int v2), (3, .int x)] [] u Q) (fun (x : (Int32)) u H => t_Nights_unshown_B2 g  v1 v2 x  (fun x u' h => h) (fun y u' h => he y u' h) H)
set_option maxRecDepth 100000 in
theorem t_Nights_unshown_B34 (g : k_G)  (v1 : Int32) (v2 : Int32) (v3 : Int32)  {u : k_S} {QQ : ((Int32) ⊕ Unit) → k_S → Prop} {Q : Option Value → k_S → Prop} (hb : ∀ (x : (Int32)) (u' : k_S), QQ (.inl x) u' → k_W g 6 MX6_unshown 34 [(0, .ref 12), (1, .int v1), (2, .int v2), (3, .int x)] [] u' Q) (he : ∀ (y : Unit) (u' : k_S), QQ (.inr y) u' → k_W g 6 MX6_unshown 59 [(0, .ref 12), (2, .int v2)] [] u' Q) (H : k_sat (f_Nights_unshown_B34  v1 v2 v3 u) QQ) : k_W g 6 MX6_unshown 34 [(0, .ref 12), (1, .int v1), (2, .int v2), (3, .int v3)] [] u Q := by
  refine s_iloadn 1 4 rfl rfl ?_
  refine s_iloadn 1 5 rfl rfl ?_
  refine s_icmp_ge 1 6 59 rfl (by decide) H (fun _ H => ?_) (fun _ H => ?_)
  · exact k_via (he _ _ (k_sat_some H)) ⟨rfl, rfl, trivial⟩
  · refine s_aloadn 1 7 rfl rfl ?_
    refine s_aloadn 1 8 rfl rfl ?_
    refine s_getr 1 9 rfl k_fl65 rfl rfl rfl rfl ?_
    refine s_const 1 1 10 rfl k_ic_1 ?_
    refine s_const 1 1 11 rfl k_ic_1 ?_
    refine s_cvv3 (M' := MX6_pass) 1 12 rfl k_ml130 vvX6_pass rfl rfl (Nat.le_of_ble_eq_true rfl) rfl (c_Nights_pass_Thought g _ _ (k_sat_bind H)) (fun _ u6 H => ?_)
    refine s_aloadn 1 13 rfl rfl ?_
    refine s_cvv0 (M' := MX6_markShown) 1 14 rfl k_ml132 vvX6_markShown rfl rfl (Nat.le_of_ble_eq_true rfl) rfl (c_Nights_markShown g (k_sat_bind H)) (fun _ u7 H => ?_)
    refine s_iinc 1 15 rfl rfl rfl ?_
    refine s_goto 2 0 34 rfl (by decide) ?_
    exact k_via (hb _ _ (k_sat_some H)) ⟨rfl, rfl, rfl, rfl, trivial⟩
set_option maxRecDepth 100000 in
theorem l_Nights_unshown_B34 (g : k_G)  (v1 : Int32) (v2 : Int32) {Q : Option Value → k_S → Prop} {K : Unit → k_S → Prop} (he : ∀ (y : Unit) (u' : k_S), K (y) u' → k_W g 6 MX6_unshown 59 [(0, .ref 12), (2, .int v2)] [] u' Q) : ∀ (n : Nat) (x : (Int32)) (u : k_S), k_sat (k_itr (fun (x : (Int32)) u => f_Nights_unshown_B34  v1 v2 x u) n x u) K → k_W g 6 MX6_unshown 34 [(0, .ref 12), (1, .int v1), (2, .int v2), (3, .int x)] [] u Q :=
  k_loop (P := fun (x : (Int32)) u => k_W g 6 MX6_unshown 34 [(0, .ref 12), (1, .int v1), (2, .int v2), (3, .int x)] [] u Q) (fun (x : (Int32)) u H => t_Nights_unshown_B34 g  v1 v2 x  (fun x u' h => h) (fun y u' h => he y u' h) H)
set_option maxRecDepth 100000 in
theorem t_Nights_unshown_B64 (g : k_G)  (v2 : Int32) (v3 : Int32) (v4 : Int32)  {u : k_S} {QQ : ((Int32 × Int32) ⊕ (Int32 ⊕ (Int32))) → k_S → Prop} {Q : Option Value → k_S → Prop} (hr : ∀ (r : Int32) (u' : k_S), QQ (.inr (.inl r)) u' → (Q) (some (.int r)) u') (hb : ∀ (x : (Int32 × Int32)) (u' : k_S), QQ (.inl x) u' → k_W g 6 MX6_unshown 64 [(0, .ref 12), (2, .int v2), (3, .int x.1), (4, .int x.2)] [] u' Q) (he : ∀ (y : (Int32)) (u' : k_S), QQ (.inr (.inr y)) u' → k_W g 6 MX6_unshown 113 [(2, .int v2), (3, .int y)] [] u' Q) (H : k_sat (f_Nights_unshown_B64  v2 v3 v4 u) QQ) : k_W g 6 MX6_unshown 64 [(0, .ref 12), (2, .int v2), (3, .int v3), (4, .int v4)] [] u Q := by
  refine s_iload 2 5 rfl rfl ?_
  refine s_aloadn 2 6 rfl rfl ?_
  refine s_getr 2 7 rfl k_fl69 rfl rfl rfl rfl ?_
  refine s_const 0 2 8 rfl k_ic_0 ?_
  refine s_cvi1 (M' := MX10_sizeOf) 2 9 rfl k_ml126 vvX10_sizeOf rfl rfl (Nat.le_of_ble_eq_true rfl) rfl (c_Wheels_sizeOf g _ (k_sat_bind H)) (fun r11 u10 H => ?_)
  refine s_icmp_ge 2 10 113 rfl (by decide) H (fun _ H => ?_) (fun _ H => ?_)
  · exact k_via (he _ _ (k_sat_some H)) ⟨rfl, rfl, trivial⟩
  · refine s_iload 2 11 rfl rfl ?_
    refine s_aloadn 2 12 rfl rfl ?_
    refine s_getr 2 13 rfl k_fl66 rfl rfl rfl rfl ?_
    refine s_alen 40 2 14 rfl rfl k_ln_40 ?_
    refine s_icmp_ge 2 15 113 rfl (by decide) H (fun _ H => ?_) (fun _ H => ?_)
    · exact k_via (he _ _ (k_sat_some H)) ⟨rfl, rfl, trivial⟩
    · refine s_aloadn 3 0 rfl rfl ?_
      refine s_getr 3 1 rfl k_fl66 rfl rfl rfl rfl ?_
      refine s_iload 3 2 rfl rfl ?_
      refine s_iald 3 3 rfl rfl H (fun _ H => ?_)
      refine s_if_ne 3 4 107 rfl (by decide) H (fun _ H => ?_) (fun _ H => ?_)
      · refine s_iinc 3 10 rfl rfl rfl ?_
        refine s_goto 3 11 64 rfl (by decide) ?_
        exact k_via (hb _ _ (k_sat_some H)) ⟨rfl, rfl, rfl, rfl, trivial⟩
      · refine s_iloadn 3 5 rfl rfl ?_
        refine s_if_ne 3 6 104 rfl (by decide) H (fun _ H => ?_) (fun _ H => ?_)
        · refine s_iinc 3 9 rfl rfl rfl ?_
          refine s_iinc 3 10 rfl rfl rfl ?_
          refine s_goto 3 11 64 rfl (by decide) ?_
          exact k_via (hb _ _ (k_sat_some H)) ⟨rfl, rfl, rfl, rfl, trivial⟩
        · refine s_iload 3 7 rfl rfl ?_
          exact s_iret 3 8 rfl rfl (hr _ _ (k_sat_some H))
set_option maxRecDepth 100000 in
theorem l_Nights_unshown_B64 (g : k_G)  (v2 : Int32) {Q : Option Value → k_S → Prop} {K : (Int32 ⊕ (Int32)) → k_S → Prop} (hr : ∀ (r : Int32) (u' : k_S), K (.inl r) u' → Q (some (.int r)) u') (he : ∀ (y : (Int32)) (u' : k_S), K (.inr y) u' → k_W g 6 MX6_unshown 113 [(2, .int v2), (3, .int y)] [] u' Q) : ∀ (n : Nat) (x : (Int32 × Int32)) (u : k_S), k_sat (k_itr (fun (x : (Int32 × Int32)) u => f_Nights_unshown_B64  v2 x.1 x.2 u) n x u) K → k_W g 6 MX6_unshown 64 [(0, .ref 12), (2, .int v2), (3, .int x.1), (4, .int x.2)] [] u Q :=
  k_loop (P := fun (x : (Int32 × Int32)) u => k_W g 6 MX6_unshown 64 [(0, .ref 12), (2, .int v2), (3, .int x.1), (4, .int x.2)] [] u Q) (fun (x : (Int32 × Int32)) u H => t_Nights_unshown_B64 g  v2 x.1 x.2  (fun r u' h => hr r u' h) (fun x u' h => h) (fun y u' h => he y u' h) H)
set_option maxRecDepth 100000 in
theorem t_Nights_unshown_J113 (g : k_G)  (v2 : Int32) (v3 : Int32)  {u : k_S} {QQ : Int32 → k_S → Prop} {Q : Option Value → k_S → Prop} (hr : ∀ (r : Int32) (u' : k_S), QQ (r) u' → (Q) (some (.int r)) u') (H : k_sat (f_Nights_unshown_J113  v2 v3 u) QQ) : k_W g 6 MX6_unshown 113 [(2, .int v2), (3, .int v3)] [] u Q := by
  refine s_iloadn 3 12 rfl rfl ?_
  refine s_if_eq 3 13 121 rfl (by decide) H (fun _ H => ?_) (fun _ H => ?_)
  · refine s_bipush (-2) 4 0 rfl k_ib_m2 ?_
    exact s_iret 4 1 rfl rfl (hr _ _ (k_sat_some H))
  · refine s_iloadn 3 14 rfl rfl ?_
    refine s_goto 3 15 123 rfl (by decide) ?_
    exact s_iret 4 1 rfl rfl (hr _ _ (k_sat_some H))
set_option maxRecDepth 100000 in
theorem c_Nights_unshown (g : k_G)  (p1 : Int32) (p2 : Int32) {u : k_S} {QQ : Int32 → k_S → Prop} (H : k_sat (f_Nights_unshown  p1 p2 u) QQ) : k_OK g 6 MX6_unshown [.ref 12, .int p1, .int p2] u (k_qi QQ) := by
  have hr : ∀ (r : Int32) (u' : k_S), QQ (r) u' → (k_qi QQ) (some (.int r)) u' := fun r u' h => ⟨_, rfl, h⟩
  refine k_OK.ofW pfX6_unshown (k_tab_of MX6_unshown_dec) rfl ?_
  refine s_const 0 0 0 rfl k_ic_0 ?_
  refine s_istoren 0 1 rfl rfl ?_
  refine k_via (l_Nights_unshown_B2 g  p1 p2 ?_ _ _ _ (k_sat_bind H)) ⟨rfl, rfl, rfl, rfl, trivial⟩
  · intro y3 u2 H
    refine s_aloadn 0 14 rfl rfl ?_
    refine s_cvv0 (M' := MX6_think) 0 15 rfl k_ml129 vvX6_think rfl rfl (Nat.le_of_ble_eq_true rfl) rfl (c_Nights_think g (k_sat_bind H)) (fun _ u4 H => ?_)
    refine s_aloadn 1 0 rfl rfl ?_
    refine s_cvv0 (M' := MX6_markShown) 1 1 rfl k_ml132 vvX6_markShown rfl rfl (Nat.le_of_ble_eq_true rfl) rfl (c_Nights_markShown g (k_sat_bind H)) (fun _ u5 H => ?_)
    refine s_const 0 1 2 rfl k_ic_0 ?_
    refine s_istoren 1 3 rfl rfl ?_
    refine k_via (l_Nights_unshown_B34 g  p1 p2 ?_ _ _ _ (k_sat_bind H)) ⟨rfl, rfl, rfl, rfl, trivial⟩
    · intro y9 u8 H
      refine s_const 0 2 1 rfl k_ic_0 ?_
      refine s_istoren 2 2 rfl rfl ?_
      refine s_const 0 2 3 rfl k_ic_0 ?_
      refine s_istore 2 4 rfl rfl ?_
      refine k_via (l_Nights_unshown_B64 g  p2 ?_ ?_ _ _ _ (k_sat_bind H)) ⟨rfl, rfl, rfl, rfl, trivial⟩
      · exact fun r u' h => hr r u' (k_sat_some h)
      · intro y13 u12 H
        replace H := k_sat_csr H
        exact k_via (t_Nights_unshown_J113 g  _ _  hr H) ⟨rfl, rfl, trivial⟩
set_option maxRecDepth 100000 in
theorem t_W_never_J50 (g : k_G)  (s1 : Int32) (s2 : Int32)  {u : k_S} {QQ : Int32 → k_S → Prop} {Q : Option Value → k_S → Prop} (hr : ∀ (r : Int32) (u' : k_S), QQ (r) u' → (Q) (some (.int r)) u') (H : k_sat (f_W_never_J50  s1 s2 u) QQ) : k_W g 7 MX11_never 50 [] [.int s2, .int s1, .ref 12] u Q := by
  refine s_cvi2 (M' := MX6_unshown) 1 11 rfl k_ml30 vvX6_unshown rfl rfl (Nat.le_of_ble_eq_true rfl) rfl (c_Nights_unshown g _ _ (k_sat_bind H)) (fun r2 u1 H => ?_)
  exact s_iret 1 12 rfl rfl (hr _ _ (k_sat_some H))
set_option maxRecDepth 100000 in
theorem c_W_never (g : k_G)  (p1 : Int32) (p2 : Int32) {u : k_S} {QQ : Int32 → k_S → Prop} (H : k_sat (f_W_never  p1 p2 u) QQ) : k_OK g 7 MX11_never [.ref 0, .int p1, .int p2] u (k_qi QQ) := by
  have hr : ∀ (r : Int32) (u' : k_S), QQ (r) u' → (k_qi QQ) (some (.int r)) u' := fun r u' h => ⟨_, rfl, h⟩
  refine k_OK.ofW pfX11_never (k_tab_of MX11_never_dec) rfl ?_
  refine s_iloadn 0 0 rfl rfl ?_
  refine s_const 1 0 1 rfl k_ic_1 ?_
  refine s_icmp_lt 0 2 21 rfl (by decide) H (fun _ H => ?_) (fun _ H => ?_)
  · refine s_const (-1) 0 11 rfl k_ic_m1 ?_
    exact s_iret 0 12 rfl rfl (hr _ _ (k_sat_some H))
  · refine s_iloadn 0 3 rfl rfl ?_
    refine s_sipush 2000 0 4 rfl k_is_2000 ?_
    refine s_icmp_gt 0 5 21 rfl (by decide) H (fun _ H => ?_) (fun _ H => ?_)
    · refine s_const (-1) 0 11 rfl k_ic_m1 ?_
      exact s_iret 0 12 rfl rfl (hr _ _ (k_sat_some H))
    · refine s_iloadn 0 6 rfl rfl ?_
      refine s_if_lt 0 7 21 rfl (by decide) H (fun _ H => ?_) (fun _ H => ?_)
      · refine s_const (-1) 0 11 rfl k_ic_m1 ?_
        exact s_iret 0 12 rfl rfl (hr _ _ (k_sat_some H))
      · refine s_iloadn 0 8 rfl rfl ?_
        refine s_const 1 0 9 rfl k_ic_1 ?_
        refine s_icmp_le 0 10 23 rfl (by decide) H (fun _ H => ?_) (fun _ H => ?_)
        · refine s_aloadn 0 13 rfl rfl ?_
          refine s_getr 0 14 rfl k_fl1 rfl rfl rfl rfl ?_
          refine s_geti 303 0 15 rfl k_fl12 rfl rfl rfl rfl rfl ?_
          refine s_if_ne 1 0 36 rfl (by decide) H (fun _ H => ?_) (fun _ H => ?_)
          · refine s_aloadn 1 3 rfl rfl ?_
            refine s_getr 1 4 rfl k_fl3 rfl rfl rfl rfl ?_
            refine s_iloadn 1 5 rfl rfl ?_
            refine s_iloadn 1 6 rfl rfl ?_
            refine s_if_ne 1 7 49 rfl (by decide) H (fun _ H => ?_) (fun _ H => ?_)
            · refine s_const 0 1 10 rfl k_ic_0 ?_
              exact k_via (t_W_never_J50 g  _ _  hr H) trivial
            · refine s_const 1 1 8 rfl k_ic_1 ?_
              refine s_goto 1 9 50 rfl (by decide) ?_
              exact k_via (t_W_never_J50 g  _ _  hr H) trivial
          · refine s_bipush (-5) 1 1 rfl k_ib_m5 ?_
            exact s_iret 1 2 rfl rfl (hr _ _ (k_sat_some H))
        · refine s_const (-1) 0 11 rfl k_ic_m1 ?_
          exact s_iret 0 12 rfl rfl (hr _ _ (k_sat_some H))
set_option maxRecDepth 100000 in
theorem t_R_never_B34 (g : k_G)  (v1 : Int32) (v2 : Int32) (v3 : Int32)  {u : k_S} {QQ : ((Int32) ⊕ Unit) → k_S → Prop} {Q : Option Value → k_S → Prop} (hb : ∀ (x : (Int32)) (u' : k_S), QQ (.inl x) u' → k_W g 7 MX12_never 34 [(0, .ref 42), (1, .int v1), (2, .int v2), (3, .int x)] [] u' Q) (he : ∀ (y : Unit) (u' : k_S), QQ (.inr y) u' → k_W g 7 MX12_never 53 [(0, .ref 42), (1, .int v1), (2, .int v2)] [] u' Q) (H : k_sat (f_R_never_B34  v1 v2 v3 u) QQ) : k_W g 7 MX12_never 34 [(0, .ref 42), (1, .int v1), (2, .int v2), (3, .int v3)] [] u Q := by
  refine s_iloadn 1 3 rfl rfl ?_
  refine s_bipush 40 1 4 rfl k_ib_40 ?_
  refine s_icmp_ge 1 5 53 rfl (by decide) H (fun _ H => ?_) (fun _ H => ?_)
  · exact k_via (he _ _ (k_sat_some H)) ⟨rfl, rfl, rfl, trivial⟩
  · refine s_aloadn 1 6 rfl rfl ?_
    refine s_getr 1 7 rfl k_fl107 rfl rfl rfl rfl ?_
    refine s_iloadn 1 8 rfl rfl ?_
    refine s_const 0 1 9 rfl k_ic_0 ?_
    refine s_zast 1 10 rfl rfl H (fun u5 H => ?_)
    refine s_iinc 1 11 rfl rfl rfl ?_
    refine s_goto 1 12 34 rfl (by decide) ?_
    exact k_via (hb _ _ (k_sat_some H)) ⟨rfl, rfl, rfl, rfl, trivial⟩
set_option maxRecDepth 100000 in
theorem l_R_never_B34 (g : k_G)  (v1 : Int32) (v2 : Int32) {Q : Option Value → k_S → Prop} {K : Unit → k_S → Prop} (he : ∀ (y : Unit) (u' : k_S), K (y) u' → k_W g 7 MX12_never 53 [(0, .ref 42), (1, .int v1), (2, .int v2)] [] u' Q) : ∀ (n : Nat) (x : (Int32)) (u : k_S), k_sat (k_itr (fun (x : (Int32)) u => f_R_never_B34  v1 v2 x u) n x u) K → k_W g 7 MX12_never 34 [(0, .ref 42), (1, .int v1), (2, .int v2), (3, .int x)] [] u Q :=
  k_loop (P := fun (x : (Int32)) u => k_W g 7 MX12_never 34 [(0, .ref 42), (1, .int v1), (2, .int v2), (3, .int x)] [] u Q) (fun (x : (Int32)) u H => t_R_never_B34 g  v1 v2 x  (fun x u' h => h) (fun y u' h => he y u' h) H)
set_option maxRecDepth 100000 in
theorem t_R_never_B71 (g : k_G)  (v1 : Int32) (v2 : Int32) (v3 : Int32)  {u : k_S} {QQ : ((Int32) ⊕ Unit) → k_S → Prop} {Q : Option Value → k_S → Prop} (hb : ∀ (x : (Int32)) (u' : k_S), QQ (.inl x) u' → k_W g 7 MX12_never 71 [(0, .ref 42), (1, .int v1), (2, .int v2), (3, .int x)] [] u' Q) (he : ∀ (y : Unit) (u' : k_S), QQ (.inr y) u' → k_W g 7 MX12_never 98 [(0, .ref 42), (2, .int v2)] [] u' Q) (H : k_sat (f_R_never_B71  v1 v2 v3 u) QQ) : k_W g 7 MX12_never 71 [(0, .ref 42), (1, .int v1), (2, .int v2), (3, .int v3)] [] u Q := by
  refine s_iloadn 2 9 rfl rfl ?_
  refine s_iloadn 2 10 rfl rfl ?_
  refine s_icmp_ge 2 11 98 rfl (by decide) H (fun _ H => ?_) (fun _ H => ?_)
  · exact k_via (he _ _ (k_sat_some H)) ⟨rfl, rfl, trivial⟩
  · refine s_aloadn 2 12 rfl rfl ?_
    refine s_cvv0 (M' := MX12_goOn) 2 13 rfl k_ml255 vvX12_goOn rfl rfl (Nat.le_of_ble_eq_true rfl) rfl (c_R_goOn g (k_sat_bind H)) (fun _ u10 H => ?_)
    refine s_aloadn 2 14 rfl rfl ?_
    refine s_getr 2 15 rfl k_fl107 rfl rfl rfl rfl ?_
    refine s_aloadn 3 0 rfl rfl ?_
    refine s_getr 3 1 rfl k_fl90 rfl rfl rfl rfl ?_
    refine s_const 0 3 2 rfl k_ic_0 ?_
    refine s_iald 3 3 rfl rfl H (fun _ H => ?_)
    refine s_const 1 3 4 rfl k_ic_1 ?_
    refine s_zast 3 5 rfl rfl H (fun u11 H => ?_)
    refine s_iinc 3 6 rfl rfl rfl ?_
    refine s_goto 3 7 71 rfl (by decide) ?_
    exact k_via (hb _ _ (k_sat_some H)) ⟨rfl, rfl, rfl, rfl, trivial⟩
set_option maxRecDepth 100000 in
theorem l_R_never_B71 (g : k_G)  (v1 : Int32) (v2 : Int32) {Q : Option Value → k_S → Prop} {K : Unit → k_S → Prop} (he : ∀ (y : Unit) (u' : k_S), K (y) u' → k_W g 7 MX12_never 98 [(0, .ref 42), (2, .int v2)] [] u' Q) : ∀ (n : Nat) (x : (Int32)) (u : k_S), k_sat (k_itr (fun (x : (Int32)) u => f_R_never_B71  v1 v2 x u) n x u) K → k_W g 7 MX12_never 71 [(0, .ref 42), (1, .int v1), (2, .int v2), (3, .int x)] [] u Q :=
  k_loop (P := fun (x : (Int32)) u => k_W g 7 MX12_never 71 [(0, .ref 42), (1, .int v1), (2, .int v2), (3, .int x)] [] u Q) (fun (x : (Int32)) u H => t_R_never_B71 g  v1 v2 x  (fun x u' h => h) (fun y u' h => he y u' h) H)
set_option maxRecDepth 100000 in
theorem t_R_never_B118 (g : k_G)  (v2 : Int32) (v3 : Int32) (v4 : Int32) (v5 : Int32)  {u : k_S} {QQ : ((Int32 × Int32 × Int32) ⊕ (Int32 × Int32)) → k_S → Prop} {Q : Option Value → k_S → Prop} (hb : ∀ (x : (Int32 × Int32 × Int32)) (u' : k_S), QQ (.inl x) u' → k_W g 7 MX12_never 118 [(0, .ref 42), (2, .int v2), (3, .int x.1), (4, .int x.2.1), (5, .int x.2.2)] [] u' Q) (he : ∀ (y : (Int32 × Int32)) (u' : k_S), QQ (.inr y) u' → k_W g 7 MX12_never 149 [(2, .int v2), (3, .int y.1), (4, .int y.2)] [] u' Q) (H : k_sat (f_R_never_B118  v2 v3 v4 v5 u) QQ) : k_W g 7 MX12_never 118 [(0, .ref 42), (2, .int v2), (3, .int v3), (4, .int v4), (5, .int v5)] [] u Q := by
  refine s_iload 4 5 rfl rfl ?_
  refine s_if_lt 4 6 149 rfl (by decide) H (fun _ H => ?_) (fun _ H => ?_)
  · exact k_via (he _ _ (k_sat_some H)) ⟨rfl, rfl, rfl, trivial⟩
  · refine s_aloadn 4 7 rfl rfl ?_
    refine s_getr 4 8 rfl k_fl107 rfl rfl rfl rfl ?_
    refine s_iload 4 9 rfl rfl ?_
    refine s_zald 4 10 rfl rfl H (fun _ H => ?_)
    refine s_if_eq 4 11 136 rfl (by decide) H (fun _ H => ?_) (fun _ H => ?_)
    · refine s_iinc 4 13 rfl rfl rfl ?_
      refine s_iload 4 14 rfl rfl ?_
      refine s_istore 4 15 rfl rfl ?_
      refine s_iinc 5 0 rfl rfl rfl ?_
      refine s_goto 5 1 118 rfl (by decide) ?_
      exact k_via (hb _ _ (k_sat_some H)) ⟨rfl, rfl, rfl, rfl, rfl, trivial⟩
    · refine s_goto 4 12 143 rfl (by decide) ?_
      refine s_iinc 5 0 rfl rfl rfl ?_
      refine s_goto 5 1 118 rfl (by decide) ?_
      exact k_via (hb _ _ (k_sat_some H)) ⟨rfl, rfl, rfl, rfl, rfl, trivial⟩
set_option maxRecDepth 100000 in
theorem l_R_never_B118 (g : k_G)  (v2 : Int32) {Q : Option Value → k_S → Prop} {K : (Int32 × Int32) → k_S → Prop} (he : ∀ (y : (Int32 × Int32)) (u' : k_S), K (y) u' → k_W g 7 MX12_never 149 [(2, .int v2), (3, .int y.1), (4, .int y.2)] [] u' Q) : ∀ (n : Nat) (x : (Int32 × Int32 × Int32)) (u : k_S), k_sat (k_itr (fun (x : (Int32 × Int32 × Int32)) u => f_R_never_B118  v2 x.1 x.2.1 x.2.2 u) n x u) K → k_W g 7 MX12_never 118 [(0, .ref 42), (2, .int v2), (3, .int x.1), (4, .int x.2.1), (5, .int x.2.2)] [] u Q :=
  k_loop (P := fun (x : (Int32 × Int32 × Int32)) u => k_W g 7 MX12_never 118 [(0, .ref 42), (2, .int v2), (3, .int x.1), (4, .int x.2.1), (5, .int x.2.2)] [] u Q) (fun (x : (Int32 × Int32 × Int32)) u H => t_R_never_B118 g  v2 x.1 x.2.1 x.2.2  (fun x u' h => h) (fun y u' h => he y u' h) H)
set_option maxRecDepth 100000 in
theorem c_R_never (g : k_G)  (p1 : Int32) (p2 : Int32) {u : k_S} {QQ : Int32 → k_S → Prop} (H : k_sat (f_R_never  p1 p2 u) QQ) : k_OK g 7 MX12_never [.ref 42, .int p1, .int p2] u (k_qi QQ) := by
  have hr : ∀ (r : Int32) (u' : k_S), QQ (r) u' → (k_qi QQ) (some (.int r)) u' := fun r u' h => ⟨_, rfl, h⟩
  refine k_OK.ofW pfX12_never (k_tab_of MX12_never_dec) rfl ?_
  refine s_iloadn 0 0 rfl rfl ?_
  refine s_const 1 0 1 rfl k_ic_1 ?_
  refine s_sipush 2000 0 2 rfl k_is_2000 ?_
  refine s_csi3 (M' := MX12_in) 0 3 rfl k_ml230 vvX12_in (Nat.le_of_ble_eq_true rfl) rfl (c_R_in g _ _ _ (k_sat_bind H)) (fun r2 u1 H => ?_)
  refine s_if_eq 0 4 20 rfl (by decide) H (fun _ H => ?_) (fun _ H => ?_)
  · refine s_const (-1) 0 10 rfl k_ic_m1 ?_
    exact s_iret 0 11 rfl rfl (hr _ _ (k_sat_some H))
  · refine s_iloadn 0 5 rfl rfl ?_
    refine s_const 0 0 6 rfl k_ic_0 ?_
    refine s_const 1 0 7 rfl k_ic_1 ?_
    refine s_csi3 (M' := MX12_in) 0 8 rfl k_ml230 vvX12_in (Nat.le_of_ble_eq_true rfl) rfl (c_R_in g _ _ _ (k_sat_bind H)) (fun r4 u3 H => ?_)
    refine s_if_ne 0 9 22 rfl (by decide) H (fun _ H => ?_) (fun _ H => ?_)
    · refine s_aloadn 0 12 rfl rfl ?_
      refine s_geti 4203 0 13 rfl k_fl122 rfl rfl rfl rfl rfl ?_
      refine s_if_ne 0 14 32 rfl (by decide) H (fun _ H => ?_) (fun _ H => ?_)
      · refine s_const 0 1 1 rfl k_ic_0 ?_
        refine s_istoren 1 2 rfl rfl ?_
        refine k_via (l_R_never_B34 g  p1 p2 ?_ _ _ _ (k_sat_bind H)) ⟨rfl, rfl, rfl, rfl, trivial⟩
        · intro y7 u6 H
          refine s_aloadn 1 13 rfl rfl ?_
          refine s_cvv0 (M' := MX12_keepNow) 1 14 rfl k_ml256 vvX12_keepNow rfl rfl (Nat.le_of_ble_eq_true rfl) rfl (c_R_keepNow g (k_sat_bind H)) (fun _ u8 H => ?_)
          refine s_aloadn 1 15 rfl rfl ?_
          refine s_getr 2 0 rfl k_fl107 rfl rfl rfl rfl ?_
          refine s_aloadn 2 1 rfl rfl ?_
          refine s_getr 2 2 rfl k_fl90 rfl rfl rfl rfl ?_
          refine s_const 0 2 3 rfl k_ic_0 ?_
          refine s_iald 2 4 rfl rfl H (fun _ H => ?_)
          refine s_const 1 2 5 rfl k_ic_1 ?_
          refine s_zast 2 6 rfl rfl H (fun u9 H => ?_)
          refine s_const 0 2 7 rfl k_ic_0 ?_
          refine s_istoren 2 8 rfl rfl ?_
          refine k_via (l_R_never_B71 g  p1 p2 ?_ _ _ _ (k_sat_bind H)) ⟨rfl, rfl, rfl, rfl, trivial⟩
          · intro y13 u12 H
            refine s_aloadn 3 8 rfl rfl ?_
            refine s_cvv0 (M' := MX12_layBack) 3 9 rfl k_ml257 vvX12_layBack rfl rfl (Nat.le_of_ble_eq_true rfl) rfl (c_R_layBack g (k_sat_bind H)) (fun _ u14 H => ?_)
            refine s_const 0 3 10 rfl k_ic_0 ?_
            refine s_istoren 3 11 rfl rfl ?_
            refine s_bipush (-2) 3 12 rfl k_ib_m2 ?_
            refine s_istore 3 13 rfl rfl ?_
            refine s_aloadn 3 14 rfl rfl ?_
            refine s_getr 3 15 rfl k_fl89 rfl rfl rfl rfl ?_
            refine s_const 0 4 0 rfl k_ic_0 ?_
            refine s_iald 4 1 rfl rfl H (fun _ H => ?_)
            refine s_const 1 4 2 rfl k_ic_1 ?_
            refine s_isub 4 3 rfl ?_
            refine k_topi H (fun t15 H => ?_)
            refine s_istore 4 4 rfl rfl ?_
            refine k_via (l_R_never_B118 g  p2 ?_ _ _ _ (k_sat_bind H)) ⟨rfl, rfl, rfl, rfl, rfl, trivial⟩
            · intro y17 u16 H
              refine s_iloadn 5 2 rfl rfl ?_
              refine s_if_ne 5 3 157 rfl (by decide) H (fun _ H => ?_) (fun _ H => ?_)
              · refine s_iload 5 6 rfl rfl ?_
                exact s_iret 5 7 rfl rfl (hr _ _ (k_sat_some H))
              · refine s_iloadn 5 4 rfl rfl ?_
                refine s_goto 5 5 159 rfl (by decide) ?_
                exact s_iret 5 7 rfl rfl (hr _ _ (k_sat_some H))
      · refine s_bipush (-5) 0 15 rfl k_ib_m5 ?_
        exact s_iret 1 0 rfl rfl (hr _ _ (k_sat_some H))
    · refine s_const (-1) 0 10 rfl k_ic_m1 ?_
      exact s_iret 0 11 rfl rfl (hr _ _ (k_sat_some H))
