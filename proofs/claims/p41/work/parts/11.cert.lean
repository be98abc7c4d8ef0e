set_option maxRecDepth 100000 in
theorem c_Tape_append (g : k_G)  (p1 : Int32) {u : k_S} {QQ : Unit → k_S → Prop} (H : k_sat (f_Tape_append  p1 u) QQ) : k_OK g 1 MX9_append [.ref 1, .int p1] u (k_qv QQ) := by
  have hr : ∀ (r : Unit) (u' : k_S), QQ (r) u' → (k_qv QQ) (none) u' := fun r u' h => ⟨rfl, h⟩
  refine k_OK.ofW pfX9_append (k_tab_of MX9_append_dec) rfl ?_
  refine s_aloadn 0 0 rfl rfl ?_
  refine s_geti 101 0 1 rfl k_fl81 rfl rfl rfl rfl rfl ?_
  refine s_if_lt 0 2 19 rfl (by decide) H (fun _ H => ?_) (fun _ H => ?_)
  · exact s_ret 0 9 rfl rfl (hr _ _ (k_sat_some H))
  · refine s_aloadn 0 3 rfl rfl ?_
    refine s_geti 101 0 4 rfl k_fl81 rfl rfl rfl rfl rfl ?_
    refine s_aloadn 0 5 rfl rfl ?_
    refine s_getr 0 6 rfl k_fl80 rfl rfl rfl rfl ?_
    refine s_alen 120 0 7 rfl rfl k_ln_120 ?_
    refine s_icmp_lt 0 8 20 rfl (by decide) H (fun _ H => ?_) (fun _ H => ?_)
    · refine s_aloadn 0 10 rfl rfl ?_
      refine s_getr 0 11 rfl k_fl80 rfl rfl rfl rfl ?_
      refine s_aloadn 0 12 rfl rfl ?_
      refine s_geti 101 0 13 rfl k_fl81 rfl rfl rfl rfl rfl ?_
      refine s_iloadn 0 14 rfl rfl ?_
      refine s_iast 0 15 rfl rfl H (fun u1 H => ?_)
      refine s_aloadn 1 0 rfl rfl ?_
      refine s_dupr 1 1 rfl ?_
      refine s_geti 101 1 2 rfl k_fl81 rfl rfl rfl rfl rfl ?_
      refine s_const 1 1 3 rfl k_ic_1 ?_
      refine s_iadd 1 4 rfl ?_
      refine s_puti 101 1 5 rfl k_fl81 rfl rfl rfl rfl rfl rfl rfl rfl rfl H (fun u2 H => ?_)
      exact s_ret 1 6 rfl rfl (hr _ _ (k_sat_some H))
    · exact s_ret 0 9 rfl rfl (hr _ _ (k_sat_some H))
set_option maxRecDepth 100000 in
theorem c_W_feed (g : k_G)  (p1 : Int32) {u : k_S} {QQ : Int32 → k_S → Prop} (H : k_sat (f_W_feed  p1 u) QQ) : k_OK g 2 MX11_feed [.ref 0, .int p1] u (k_qi QQ) := by
  have hr : ∀ (r : Int32) (u' : k_S), QQ (r) u' → (k_qi QQ) (some (.int r)) u' := fun r u' h => ⟨_, rfl, h⟩
  refine k_OK.ofW pfX11_feed (k_tab_of MX11_feed_dec) rfl ?_
  refine s_iloadn 0 0 rfl rfl ?_
  refine s_if_lt 0 1 11 rfl (by decide) H (fun _ H => ?_) (fun _ H => ?_)
  · refine s_const (-1) 0 5 rfl k_ic_m1 ?_
    exact s_iret 0 6 rfl rfl (hr _ _ (k_sat_some H))
  · refine s_iloadn 0 2 rfl rfl ?_
    refine s_sipush 255 0 3 rfl k_is_255 ?_
    refine s_icmp_le 0 4 13 rfl (by decide) H (fun _ H => ?_) (fun _ H => ?_)
    · refine s_aloadn 0 7 rfl rfl ?_
      refine s_getr 0 8 rfl k_fl0 rfl rfl rfl rfl ?_
      refine s_geti 101 0 9 rfl k_fl11 rfl rfl rfl rfl rfl ?_
      refine s_bipush 120 0 10 rfl k_ib_120 ?_
      refine s_icmp_lt 0 11 28 rfl (by decide) H (fun _ H => ?_) (fun _ H => ?_)
      · refine s_aloadn 0 14 rfl rfl ?_
        refine s_getr 0 15 rfl k_fl0 rfl rfl rfl rfl ?_
        refine s_iloadn 1 0 rfl rfl ?_
        refine s_cvv1 (M' := MX9_append) 1 1 rfl k_ml10 vvX9_append rfl rfl (Nat.le_of_ble_eq_true rfl) rfl (c_Tape_append g _ (k_sat_bind H)) (fun _ u1 H => ?_)
        refine s_aloadn 1 2 rfl rfl ?_
        refine s_getr 1 3 rfl k_fl0 rfl rfl rfl rfl ?_
        refine s_geti 101 1 4 rfl k_fl11 rfl rfl rfl rfl rfl ?_
        exact s_iret 1 5 rfl rfl (hr _ _ (k_sat_some H))
      · refine s_bipush (-3) 0 12 rfl k_ib_m3 ?_
        exact s_iret 0 13 rfl rfl (hr _ _ (k_sat_some H))
    · refine s_const (-1) 0 5 rfl k_ic_m1 ?_
      exact s_iret 0 6 rfl rfl (hr _ _ (k_sat_some H))
set_option maxRecDepth 100000 in
theorem c_R_in (g : k_G)  (p0 : Int32) (p1 : Int32) (p2 : Int32) {u : k_S} {QQ : Int32 → k_S → Prop} (H : k_sat (f_R_in  p0 p1 p2 u) QQ) : k_OK g 1 MX12_in [.int p0, .int p1, .int p2] u (k_qi QQ) := by
  have hr : ∀ (r : Int32) (u' : k_S), QQ (r) u' → (k_qi QQ) (some (.int r)) u' := fun r u' h => ⟨_, rfl, h⟩
  refine k_OK.ofW pfX12_in (k_tab_of MX12_in_dec) rfl ?_
  refine s_iloadn 0 0 rfl rfl ?_
  refine s_iloadn 0 1 rfl rfl ?_
  refine s_icmp_lt 0 2 14 rfl (by decide) H (fun _ H => ?_) (fun _ H => ?_)
  · refine s_const 0 0 8 rfl k_ic_0 ?_
    exact s_zret 0 9 rfl rfl k_z0 (hr _ _ (k_sat_some H))
  · refine s_iloadn 0 3 rfl rfl ?_
    refine s_iloadn 0 4 rfl rfl ?_
    refine s_icmp_gt 0 5 14 rfl (by decide) H (fun _ H => ?_) (fun _ H => ?_)
    · refine s_const 0 0 8 rfl k_ic_0 ?_
      exact s_zret 0 9 rfl rfl k_z0 (hr _ _ (k_sat_some H))
    · refine s_const 1 0 6 rfl k_ic_1 ?_
      refine s_goto 0 7 15 rfl (by decide) ?_
      exact s_zret 0 9 rfl rfl k_z1 (hr _ _ (k_sat_some H))
set_option maxRecDepth 100000 in
theorem c_R_feed (g : k_G)  (p1 : Int32) {u : k_S} {QQ : Int32 → k_S → Prop} (H : k_sat (f_R_feed  p1 u) QQ) : k_OK g 2 MX12_feed [.ref 42, .int p1] u (k_qi QQ) := by
  have hr : ∀ (r : Int32) (u' : k_S), QQ (r) u' → (k_qi QQ) (some (.int r)) u' := fun r u' h => ⟨_, rfl, h⟩
  refine k_OK.ofW pfX12_feed (k_tab_of MX12_feed_dec) rfl ?_
  refine s_iloadn 0 0 rfl rfl ?_
  refine s_const 0 0 1 rfl k_ic_0 ?_
  refine s_sipush 255 0 2 rfl k_is_255 ?_
  refine s_csi3 (M' := MX12_in) 0 3 rfl k_ml230 vvX12_in (Nat.le_of_ble_eq_true rfl) rfl (c_R_in g _ _ _ (k_sat_bind H)) (fun r2 u1 H => ?_)
  refine s_if_ne 0 4 13 rfl (by decide) H (fun _ H => ?_) (fun _ H => ?_)
  · refine s_aloadn 0 7 rfl rfl ?_
    refine s_geti 4202 0 8 rfl k_fl121 rfl rfl rfl rfl rfl ?_
    refine s_bipush 120 0 9 rfl k_ib_120 ?_
    refine s_icmp_ne 0 10 25 rfl (by decide) H (fun _ H => ?_) (fun _ H => ?_)
    · refine s_aloadn 0 13 rfl rfl ?_
      refine s_getr 0 14 rfl k_fl87 rfl rfl rfl rfl ?_
      refine s_aloadn 0 15 rfl rfl ?_
      refine s_geti 4202 1 0 rfl k_fl121 rfl rfl rfl rfl rfl ?_
      refine s_iloadn 1 1 rfl rfl ?_
      refine s_i2b 1 2 rfl ?_
      refine s_bast 1 3 rfl rfl H (fun u3 H => ?_)
      refine s_aloadn 1 4 rfl rfl ?_
      refine s_dupr 1 5 rfl ?_
      refine s_geti 4202 1 6 rfl k_fl121 rfl rfl rfl rfl rfl ?_
      refine s_const 1 1 7 rfl k_ic_1 ?_
      refine s_iadd 1 8 rfl ?_
      refine s_puti 4202 1 9 rfl k_fl121 rfl rfl rfl rfl rfl rfl rfl rfl rfl H (fun u4 H => ?_)
      refine s_aloadn 1 10 rfl rfl ?_
      refine s_geti 4202 1 11 rfl k_fl121 rfl rfl rfl rfl rfl ?_
      exact s_iret 1 12 rfl rfl (hr _ _ (k_sat_some H))
    · refine s_bipush (-3) 0 11 rfl k_ib_m3 ?_
      exact s_iret 0 12 rfl rfl (hr _ _ (k_sat_some H))
  · refine s_const (-1) 0 5 rfl k_ic_m1 ?_
    exact s_iret 0 6 rfl rfl (hr _ _ (k_sat_some H))
set_option maxRecDepth 100000 in
theorem c_Tape_at (g : k_G)  (p1 : Int32) {u : k_S} {QQ : Int32 → k_S → Prop} (H : k_sat (f_Tape_at  p1 u) QQ) : k_OK g 1 MX9_at [.ref 1, .int p1] u (k_qi QQ) := by
  have hr : ∀ (r : Int32) (u' : k_S), QQ (r) u' → (k_qi QQ) (some (.int r)) u' := fun r u' h => ⟨_, rfl, h⟩
  refine k_OK.ofW pfX9_at (k_tab_of MX9_at_dec) rfl ?_
  refine s_iloadn 0 0 rfl rfl ?_
  refine s_if_lt 0 1 30 rfl (by decide) H (fun _ H => ?_) (fun _ H => ?_)
  · refine s_const (-1) 1 0 rfl k_ic_m1 ?_
    exact s_iret 1 1 rfl rfl (hr _ _ (k_sat_some H))
  · refine s_iloadn 0 2 rfl rfl ?_
    refine s_aloadn 0 3 rfl rfl ?_
    refine s_geti 101 0 4 rfl k_fl81 rfl rfl rfl rfl rfl ?_
    refine s_icmp_ge 0 5 30 rfl (by decide) H (fun _ H => ?_) (fun _ H => ?_)
    · refine s_const (-1) 1 0 rfl k_ic_m1 ?_
      exact s_iret 1 1 rfl rfl (hr _ _ (k_sat_some H))
    · refine s_iloadn 0 6 rfl rfl ?_
      refine s_aloadn 0 7 rfl rfl ?_
      refine s_getr 0 8 rfl k_fl80 rfl rfl rfl rfl ?_
      refine s_alen 120 0 9 rfl rfl k_ln_120 ?_
      refine s_icmp_ge 0 10 30 rfl (by decide) H (fun _ H => ?_) (fun _ H => ?_)
      · refine s_const (-1) 1 0 rfl k_ic_m1 ?_
        exact s_iret 1 1 rfl rfl (hr _ _ (k_sat_some H))
      · refine s_aloadn 0 11 rfl rfl ?_
        refine s_getr 0 12 rfl k_fl80 rfl rfl rfl rfl ?_
        refine s_iloadn 0 13 rfl rfl ?_
        refine s_iald 0 14 rfl rfl H (fun _ H => ?_)
        refine s_goto 0 15 31 rfl (by decide) ?_
        exact s_iret 1 1 rfl rfl (hr _ _ (k_sat_some H))
set_option maxRecDepth 100000 in
theorem c_W_isTooth (g : k_G)  (p0 : Int32) {u : k_S} {QQ : Int32 → k_S → Prop} (H : k_sat (f_W_isTooth  p0 u) QQ) : k_OK g 1 MX11_isTooth [.int p0] u (k_qi QQ) := by
  have hr : ∀ (r : Int32) (u' : k_S), QQ (r) u' → (k_qi QQ) (some (.int r)) u' := fun r u' h => ⟨_, rfl, h⟩
  refine k_OK.ofW pfX11_isTooth (k_tab_of MX11_isTooth_dec) rfl ?_
  refine s_iloadn 0 0 rfl rfl ?_
  refine s_bipush 119 0 1 rfl k_ib_119 ?_
  refine s_icmp_eq 0 2 36 rfl (by decide) H (fun _ H => ?_) (fun _ H => ?_)
  · refine s_const 1 1 2 rfl k_ic_1 ?_
    refine s_goto 1 3 41 rfl (by decide) ?_
    exact s_zret 1 5 rfl rfl k_z1 (hr _ _ (k_sat_some H))
  · refine s_iloadn 0 3 rfl rfl ?_
    refine s_bipush 115 0 4 rfl k_ib_115 ?_
    refine s_icmp_eq 0 5 36 rfl (by decide) H (fun _ H => ?_) (fun _ H => ?_)
    · refine s_const 1 1 2 rfl k_ic_1 ?_
      refine s_goto 1 3 41 rfl (by decide) ?_
      exact s_zret 1 5 rfl rfl k_z1 (hr _ _ (k_sat_some H))
    · refine s_iloadn 0 6 rfl rfl ?_
      refine s_bipush 102 0 7 rfl k_ib_102 ?_
      refine s_icmp_eq 0 8 36 rfl (by decide) H (fun _ H => ?_) (fun _ H => ?_)
      · refine s_const 1 1 2 rfl k_ic_1 ?_
        refine s_goto 1 3 41 rfl (by decide) ?_
        exact s_zret 1 5 rfl rfl k_z1 (hr _ _ (k_sat_some H))
      · refine s_iloadn 0 9 rfl rfl ?_
        refine s_bipush 98 0 10 rfl k_ib_98 ?_
        refine s_icmp_eq 0 11 36 rfl (by decide) H (fun _ H => ?_) (fun _ H => ?_)
        · refine s_const 1 1 2 rfl k_ic_1 ?_
          refine s_goto 1 3 41 rfl (by decide) ?_
          exact s_zret 1 5 rfl rfl k_z1 (hr _ _ (k_sat_some H))
        · refine s_iloadn 0 12 rfl rfl ?_
          refine s_bipush 49 0 13 rfl k_ib_49 ?_
          refine s_icmp_lt 0 14 40 rfl (by decide) H (fun _ H => ?_) (fun _ H => ?_)
          · refine s_const 0 1 4 rfl k_ic_0 ?_
            exact s_zret 1 5 rfl rfl k_z0 (hr _ _ (k_sat_some H))
          · refine s_iloadn 0 15 rfl rfl ?_
            refine s_bipush 57 1 0 rfl k_ib_57 ?_
            refine s_icmp_gt 1 1 40 rfl (by decide) H (fun _ H => ?_) (fun _ H => ?_)
            · refine s_const 0 1 4 rfl k_ic_0 ?_
              exact s_zret 1 5 rfl rfl k_z0 (hr _ _ (k_sat_some H))
            · refine s_const 1 1 2 rfl k_ic_1 ?_
              refine s_goto 1 3 41 rfl (by decide) ?_
              exact s_zret 1 5 rfl rfl k_z1 (hr _ _ (k_sat_some H))
set_option maxRecDepth 100000 in
theorem t_Wheels_faultOf_Tape_B2 (g : k_G)  (v2 : Int32)  {u : k_S} {QQ : ((Int32) ⊕ (Int32 ⊕ Unit)) → k_S → Prop} {Q : Option Value → k_S → Prop} (hr : ∀ (r : Int32) (u' : k_S), QQ (.inr (.inl r)) u' → (Q) (some (.int r)) u') (hb : ∀ (x : (Int32)) (u' : k_S), QQ (.inl x) u' → k_W g 2 MX10_faultOf 2 [(1, .ref 1), (2, .int x)] [] u' Q) (he : ∀ (y : Unit) (u' : k_S), QQ (.inr (.inr y)) u' → k_W g 2 MX10_faultOf 35 [(1, .ref 1)] [] u' Q) (H : k_sat (f_Wheels_faultOf_Tape_B2  v2 u) QQ) : k_W g 2 MX10_faultOf 2 [(1, .ref 1), (2, .int v2)] [] u Q := by
  refine s_iloadn 0 2 rfl rfl ?_
  refine s_aloadn 0 3 rfl rfl ?_
  refine s_geti 101 0 4 rfl k_fl86 rfl rfl rfl rfl rfl ?_
  refine s_icmp_ge 0 5 35 rfl (by decide) H (fun _ H => ?_) (fun _ H => ?_)
  · exact k_via (he _ _ (k_sat_some H)) ⟨rfl, trivial⟩
  · refine s_iloadn 0 6 rfl rfl ?_
    refine s_bipush 40 0 7 rfl k_ib_40 ?_
    refine s_icmp_ge 0 8 27 rfl (by decide) H (fun _ H => ?_) (fun _ H => ?_)
    · refine s_iloadn 0 14 rfl rfl ?_
      exact s_iret 0 15 rfl rfl (hr _ _ (k_sat_some H))
    · refine s_aloadn 0 9 rfl rfl ?_
      refine s_iloadn 0 10 rfl rfl ?_
      refine s_cvi1 (M' := MX9_at) 0 11 rfl k_ml145 vvX9_at rfl rfl (Nat.le_of_ble_eq_true rfl) rfl (c_Tape_at g _ (k_sat_bind H)) (fun r2 u1 H => ?_)
      refine s_csNi1 (M' := MX11_isTooth) 0 12 rfl k_ml146 vvX11_isTooth (Nat.le_of_ble_eq_true rfl) rfl (c_W_isTooth g _ (k_sat_bind H)) (fun r4 u3 H => ?_)
      refine s_if_ne 0 13 29 rfl (by decide) H (fun _ H => ?_) (fun _ H => ?_)
      · refine s_iinc 1 0 rfl rfl rfl ?_
        refine s_goto 1 1 2 rfl (by decide) ?_
        exact k_via (hb _ _ (k_sat_some H)) ⟨rfl, rfl, trivial⟩
      · refine s_iloadn 0 14 rfl rfl ?_
        exact s_iret 0 15 rfl rfl (hr _ _ (k_sat_some H))
set_option maxRecDepth 100000 in
theorem l_Wheels_faultOf_Tape_B2 (g : k_G)   {Q : Option Value → k_S → Prop} {K : (Int32 ⊕ Unit) → k_S → Prop} (hr : ∀ (r : Int32) (u' : k_S), K (.inl r) u' → Q (some (.int r)) u') (he : ∀ (y : Unit) (u' : k_S), K (.inr y) u' → k_W g 2 MX10_faultOf 35 [(1, .ref 1)] [] u' Q) : ∀ (n : Nat) (x : (Int32)) (u : k_S), k_sat (k_itr (fun (x : (Int32)) u => f_Wheels_faultOf_Tape_B2  x u) n x u) K → k_W g 2 MX10_faultOf 2 [(1, .ref 1), (2, .int x)] [] u Q :=
  k_loop (P := fun (x : (Int32)) u => k_W g 2 MX10_faultOf 2 [(1, .ref 1), (2, .int x)] [] u Q) (fun (x : (Int32)) u H => t_Wheels_faultOf_Tape_B2 g  x  (fun r u' h => hr r u' h) (fun x u' h => h) (fun y u' h => he y u' h) H)
set_option maxRecDepth 100000 in
theorem c_Wheels_faultOf_Tape (g : k_G)   {u : k_S} {QQ : Int32 → k_S → Prop} (H : k_sat (f_Wheels_faultOf_Tape   u) QQ) : k_OK g 2 MX10_faultOf [.ref 3, .ref 1] u (k_qi QQ) := by
  have hr : ∀ (r : Int32) (u' : k_S), QQ (r) u' → (k_qi QQ) (some (.int r)) u' := fun r u' h => ⟨_, rfl, h⟩
  refine k_OK.ofW pfX10_faultOf (k_tab_of MX10_faultOf_dec) rfl ?_
  refine s_const 0 0 0 rfl k_ic_0 ?_
  refine s_istoren 0 1 rfl rfl ?_
  refine k_via (l_Wheels_faultOf_Tape_B2 g   ?_ ?_ _ _ _ (k_sat_bind H)) ⟨rfl, rfl, trivial⟩
  · exact fun r u' h => hr r u' (k_sat_some h)
  · intro y6 u5 H
    replace H := k_sat_csr H
    refine s_aloadn 1 2 rfl rfl ?_
    refine s_geti 101 1 3 rfl k_fl86 rfl rfl rfl rfl rfl ?_
    refine s_const 2 1 4 rfl k_ic_2 ?_
    refine s_icmp_ge 1 5 50 rfl (by decide) H (fun _ H => ?_) (fun _ H => ?_)
    · refine s_const (-1) 1 9 rfl k_ic_m1 ?_
      exact s_iret 1 10 rfl rfl (hr _ _ (k_sat_some H))
    · refine s_aloadn 1 6 rfl rfl ?_
      refine s_geti 101 1 7 rfl k_fl86 rfl rfl rfl rfl rfl ?_
      refine s_goto 1 8 51 rfl (by decide) ?_
      exact s_iret 1 10 rfl rfl (hr _ _ (k_sat_some H))
set_option maxRecDepth 100000 in
theorem c_Wheels_setLetter (g : k_G)  (p1 : Int32) (p2 : Int32) (p3 : Int32) {u : k_S} {QQ : Unit → k_S → Prop} (H : k_sat (f_Wheels_setLetter  p1 p2 p3 u) QQ) : k_OK g 1 MX10_setLetter [.ref 3, .int p1, .int p2, .int p3] u (k_qv QQ) := by
  have hr : ∀ (r : Unit) (u' : k_S), QQ (r) u' → (k_qv QQ) (none) u' := fun r u' h => ⟨rfl, h⟩
  refine k_OK.ofW pfX10_setLetter (k_tab_of MX10_setLetter_dec) rfl ?_
  refine s_bipush 40 0 0 rfl k_ib_40 ?_
  refine s_iloadn 0 1 rfl rfl ?_
  refine s_imul 0 2 rfl ?_
  refine s_iloadn 0 3 rfl rfl ?_
  refine s_iadd 0 4 rfl ?_
  refine k_topi H (fun t1 H => ?_)
  refine s_istore 0 5 rfl rfl ?_
  refine s_iload 0 6 rfl rfl ?_
  refine s_if_lt 0 7 31 rfl (by decide) H (fun _ H => ?_) (fun _ H => ?_)
  · exact s_ret 1 2 rfl rfl (hr _ _ (k_sat_some H))
  · refine s_iload 0 8 rfl rfl ?_
    refine s_aloadn 0 9 rfl rfl ?_
    refine s_getr 0 10 rfl k_fl82 rfl rfl rfl rfl ?_
    refine s_alen 160 0 11 rfl rfl k_ln_160 ?_
    refine s_icmp_ge 0 12 31 rfl (by decide) H (fun _ H => ?_) (fun _ H => ?_)
    · exact s_ret 1 2 rfl rfl (hr _ _ (k_sat_some H))
    · refine s_aloadn 0 13 rfl rfl ?_
      refine s_getr 0 14 rfl k_fl82 rfl rfl rfl rfl ?_
      refine s_iload 0 15 rfl rfl ?_
      refine s_iloadn 1 0 rfl rfl ?_
      refine s_iast 1 1 rfl rfl H (fun u2 H => ?_)
      exact s_ret 1 2 rfl rfl (hr _ _ (k_sat_some H))
set_option maxRecDepth 100000 in
theorem t_Wheels_cutFrom_Tape_B23 (g : k_G)  (v2 : Int32) (v3 : Int32)  {u : k_S} {QQ : ((Int32) ⊕ Unit) → k_S → Prop} {Q : Option Value → k_S → Prop} (hb : ∀ (x : (Int32)) (u' : k_S), QQ (.inl x) u' → k_W g 2 MX10_cutFrom 23 [(0, .ref 3), (1, .ref 1), (2, .int v2), (3, .int x)] [] u' Q) (he : ∀ (y : Unit) (u' : k_S), QQ (.inr y) u' → k_W g 2 MX10_cutFrom 54 [(0, .ref 3), (1, .ref 1), (2, .int v2)] [] u' Q) (H : k_sat (f_Wheels_cutFrom_Tape_B23  v2 v3 u) QQ) : k_W g 2 MX10_cutFrom 23 [(0, .ref 3), (1, .ref 1), (2, .int v2), (3, .int v3)] [] u Q := by
  refine s_iloadn 0 14 rfl rfl ?_
  refine s_aloadn 0 15 rfl rfl ?_
  refine s_geti 101 1 0 rfl k_fl86 rfl rfl rfl rfl rfl ?_
  refine s_icmp_ge 1 1 54 rfl (by decide) H (fun _ H => ?_) (fun _ H => ?_)
  · exact k_via (he _ _ (k_sat_some H)) ⟨rfl, rfl, rfl, trivial⟩
  · refine s_iloadn 1 2 rfl rfl ?_
    refine s_bipush 40 1 3 rfl k_ib_40 ?_
    refine s_icmp_ge 1 4 54 rfl (by decide) H (fun _ H => ?_) (fun _ H => ?_)
    · exact k_via (he _ _ (k_sat_some H)) ⟨rfl, rfl, rfl, trivial⟩
    · refine s_aloadn 1 5 rfl rfl ?_
      refine s_iloadn 1 6 rfl rfl ?_
      refine s_iloadn 1 7 rfl rfl ?_
      refine s_aloadn 1 8 rfl rfl ?_
      refine s_iloadn 1 9 rfl rfl ?_
      refine s_cvi1 (M' := MX9_at) 1 10 rfl k_ml145 vvX9_at rfl rfl (Nat.le_of_ble_eq_true rfl) rfl (c_Tape_at g _ (k_sat_bind H)) (fun r3 u2 H => ?_)
      refine s_cvv3 (M' := MX10_setLetter) 1 11 rfl k_ml147 vvX10_setLetter rfl rfl (Nat.le_of_ble_eq_true rfl) rfl (c_Wheels_setLetter g _ _ _ (k_sat_bind H)) (fun _ u4 H => ?_)
      refine s_iinc 1 12 rfl rfl rfl ?_
      refine s_goto 1 13 23 rfl (by decide) ?_
      exact k_via (hb _ _ (k_sat_some H)) ⟨rfl, rfl, rfl, rfl, trivial⟩
set_option maxRecDepth 100000 in
theorem l_Wheels_cutFrom_Tape_B23 (g : k_G)  (v2 : Int32) {Q : Option Value → k_S → Prop} {K : Unit → k_S → Prop} (he : ∀ (y : Unit) (u' : k_S), K (y) u' → k_W g 2 MX10_cutFrom 54 [(0, .ref 3), (1, .ref 1), (2, .int v2)] [] u' Q) : ∀ (n : Nat) (x : (Int32)) (u : k_S), k_sat (k_itr (fun (x : (Int32)) u => f_Wheels_cutFrom_Tape_B23  v2 x u) n x u) K → k_W g 2 MX10_cutFrom 23 [(0, .ref 3), (1, .ref 1), (2, .int v2), (3, .int x)] [] u Q :=
  k_loop (P := fun (x : (Int32)) u => k_W g 2 MX10_cutFrom 23 [(0, .ref 3), (1, .ref 1), (2, .int v2), (3, .int x)] [] u Q) (fun (x : (Int32)) u H => t_Wheels_cutFrom_Tape_B23 g  v2 x  (fun x u' h => h) (fun y u' h => he y u' h) H)
set_option maxRecDepth 100000 in
theorem t_Wheels_cutFrom_Tape_J54 (g : k_G)  (v2 : Int32)  {u : k_S} {QQ : Int32 → k_S → Prop} {Q : Option Value → k_S → Prop} (hr : ∀ (r : Int32) (u' : k_S), QQ (r) u' → (Q) (some (.int r)) u') (H : k_sat (f_Wheels_cutFrom_Tape_J54  v2 u) QQ) : k_W g 2 MX10_cutFrom 54 [(0, .ref 3), (1, .ref 1), (2, .int v2)] [] u Q := by
  refine s_aloadn 1 14 rfl rfl ?_
  refine s_getr 1 15 rfl k_fl83 rfl rfl rfl rfl ?_
  refine s_iloadn 2 0 rfl rfl ?_
  refine s_aloadn 2 1 rfl rfl ?_
  refine s_geti 101 2 2 rfl k_fl86 rfl rfl rfl rfl rfl ?_
  refine s_iast 2 3 rfl rfl H (fun u7 H => ?_)
  refine s_aloadn 2 4 rfl rfl ?_
  refine s_dupr 2 5 rfl ?_
  refine s_geti 303 2 6 rfl k_fl85 rfl rfl rfl rfl rfl ?_
  refine s_const 1 2 7 rfl k_ic_1 ?_
  refine s_iadd 2 8 rfl ?_
  refine s_puti 303 2 9 rfl k_fl85 rfl rfl rfl rfl rfl rfl rfl rfl rfl H (fun u8 H => ?_)
  refine s_iloadn 2 10 rfl rfl ?_
  exact s_iret 2 11 rfl rfl (hr _ _ (k_sat_some H))
set_option maxRecDepth 100000 in
theorem c_Wheels_cutFrom_Tape (g : k_G)   {u : k_S} {QQ : Int32 → k_S → Prop} (H : k_sat (f_Wheels_cutFrom_Tape   u) QQ) : k_OK g 2 MX10_cutFrom [.ref 3, .ref 1] u (k_qi QQ) := by
  have hr : ∀ (r : Int32) (u' : k_S), QQ (r) u' → (k_qi QQ) (some (.int r)) u' := fun r u' h => ⟨_, rfl, h⟩
  refine k_OK.ofW pfX10_cutFrom (k_tab_of MX10_cutFrom_dec) rfl ?_
  refine s_aloadn 0 0 rfl rfl ?_
  refine s_geti 303 0 1 rfl k_fl85 rfl rfl rfl rfl rfl ?_
  refine k_topi H (fun t1 H => ?_)
  refine s_istoren 0 2 rfl rfl ?_
  refine s_iloadn 0 3 rfl rfl ?_
  refine s_if_lt 0 4 18 rfl (by decide) H (fun _ H => ?_) (fun _ H => ?_)
  · refine s_bipush (-3) 0 10 rfl k_ib_m3 ?_
    exact s_iret 0 11 rfl rfl (hr _ _ (k_sat_some H))
  · refine s_iloadn 0 5 rfl rfl ?_
    refine s_aloadn 0 6 rfl rfl ?_
    refine s_getr 0 7 rfl k_fl83 rfl rfl rfl rfl ?_
    refine s_alen 4 0 8 rfl rfl k_ln_4 ?_
    refine s_icmp_lt 0 9 21 rfl (by decide) H (fun _ H => ?_) (fun _ H => ?_)
    · refine s_const 0 0 12 rfl k_ic_0 ?_
      refine s_istoren 0 13 rfl rfl ?_
      refine k_via (l_Wheels_cutFrom_Tape_B23 g  t1 ?_ _ _ _ (k_sat_bind H)) ⟨rfl, rfl, rfl, rfl, trivial⟩
      · intro y6 u5 H
        exact k_via (t_Wheels_cutFrom_Tape_J54 g  _  hr H) ⟨rfl, rfl, rfl, trivial⟩
    · refine s_bipush (-3) 0 10 rfl k_ib_m3 ?_
      exact s_iret 0 11 rfl rfl (hr _ _ (k_sat_some H))
set_option maxRecDepth 100000 in
theorem t_W_wheel_J49 (g : k_G)  (s0 : Int32)  {u : k_S} {QQ : Int32 → k_S → Prop} {Q : Option Value → k_S → Prop} (hr : ∀ (r : Int32) (u' : k_S), QQ (r) u' → (Q) (some (.int r)) u') (H : k_sat (f_W_wheel_J49  s0 u) QQ) : k_W g 3 MX11_wheel 49 [(0, .ref 0)] [.int s0] u Q := by
  refine s_istoren 1 9 rfl rfl ?_
  refine s_aloadn 1 10 rfl rfl ?_
  refine s_getr 1 11 rfl k_fl0 rfl rfl rfl rfl ?_
  refine s_const 0 1 12 rfl k_ic_0 ?_
  refine s_puti 101 1 13 rfl k_fl11 rfl rfl rfl rfl rfl rfl rfl rfl rfl H (fun u3 H => ?_)
  refine s_iloadn 1 14 rfl rfl ?_
  exact s_iret 1 15 rfl rfl (hr _ _ (k_sat_some H))
set_option maxRecDepth 100000 in
theorem c_W_wheel (g : k_G)   {u : k_S} {QQ : Int32 → k_S → Prop} (H : k_sat (f_W_wheel   u) QQ) : k_OK g 3 MX11_wheel [.ref 0] u (k_qi QQ) := by
  have hr : ∀ (r : Int32) (u' : k_S), QQ (r) u' → (k_qi QQ) (some (.int r)) u' := fun r u' h => ⟨_, rfl, h⟩
  refine k_OK.ofW pfX11_wheel (k_tab_of MX11_wheel_dec) rfl ?_
  refine s_aloadn 0 0 rfl rfl ?_
  refine s_getr 0 1 rfl k_fl1 rfl rfl rfl rfl ?_
  refine s_geti 303 0 2 rfl k_fl12 rfl rfl rfl rfl rfl ?_
  refine s_const 4 0 3 rfl k_ic_4 ?_
  refine s_icmp_lt 0 4 14 rfl (by decide) H (fun _ H => ?_) (fun _ H => ?_)
  · refine s_aloadn 0 7 rfl rfl ?_
    refine s_getr 0 8 rfl k_fl1 rfl rfl rfl rfl ?_
    refine s_aloadn 0 9 rfl rfl ?_
    refine s_getr 0 10 rfl k_fl0 rfl rfl rfl rfl ?_
    refine s_cvi1 (M' := MX10_faultOf) 0 11 rfl k_ml11 vvX10_faultOf rfl rfl (Nat.le_of_ble_eq_true rfl) rfl (c_Wheels_faultOf_Tape g (k_sat_bind H)) (fun r2 u1 H => ?_)
    refine s_istoren 0 12 rfl rfl ?_
    refine s_iloadn 0 13 rfl rfl ?_
    refine s_const (-1) 0 14 rfl k_ic_m1 ?_
    refine s_icmp_ne 0 15 45 rfl (by decide) H (fun _ H => ?_) (fun _ H => ?_)
    · refine s_bipush (-100) 1 6 rfl k_ib_m100 ?_
      refine s_iloadn 1 7 rfl rfl ?_
      refine s_isub 1 8 rfl ?_
      exact k_via (t_W_wheel_J49 g  _  hr H) ⟨rfl, trivial⟩
    · refine s_aloadn 1 0 rfl rfl ?_
      refine s_getr 1 1 rfl k_fl1 rfl rfl rfl rfl ?_
      refine s_aloadn 1 2 rfl rfl ?_
      refine s_getr 1 3 rfl k_fl0 rfl rfl rfl rfl ?_
      refine s_cvi1 (M' := MX10_cutFrom) 1 4 rfl k_ml12 vvX10_cutFrom rfl rfl (Nat.le_of_ble_eq_true rfl) rfl (c_Wheels_cutFrom_Tape g (k_sat_bind H)) (fun r5 u4 H => ?_)
      refine s_goto 1 5 49 rfl (by decide) ?_
      exact k_via (t_W_wheel_J49 g  _  hr H) ⟨rfl, trivial⟩
  · refine s_bipush (-3) 0 5 rfl k_ib_m3 ?_
    exact s_iret 0 6 rfl rfl (hr _ _ (k_sat_some H))
set_option maxRecDepth 100000 in
theorem c_R_isTooth (g : k_G)  (p0 : Int32) {u : k_S} {QQ : Int32 → k_S → Prop} (H : k_sat (f_R_isTooth  p0 u) QQ) : k_OK g 2 MX12_isTooth [.int p0] u (k_qi QQ) := by
  have hr : ∀ (r : Int32) (u' : k_S), QQ (r) u' → (k_qi QQ) (some (.int r)) u' := fun r u' h => ⟨_, rfl, h⟩
  refine k_OK.ofW pfX12_isTooth (k_tab_of MX12_isTooth_dec) rfl ?_
  refine s_iloadn 0 0 rfl rfl ?_
  refine s_bipush 119 0 1 rfl k_ib_119 ?_
  refine s_icmp_eq 0 2 35 rfl (by decide) H (fun _ H => ?_) (fun _ H => ?_)
  · refine s_const 1 1 1 rfl k_ic_1 ?_
    refine s_goto 1 2 40 rfl (by decide) ?_
    exact s_zret 1 4 rfl rfl k_z1 (hr _ _ (k_sat_some H))
  · refine s_iloadn 0 3 rfl rfl ?_
    refine s_bipush 115 0 4 rfl k_ib_115 ?_
    refine s_icmp_eq 0 5 35 rfl (by decide) H (fun _ H => ?_) (fun _ H => ?_)
    · refine s_const 1 1 1 rfl k_ic_1 ?_
      refine s_goto 1 2 40 rfl (by decide) ?_
      exact s_zret 1 4 rfl rfl k_z1 (hr _ _ (k_sat_some H))
    · refine s_iloadn 0 6 rfl rfl ?_
      refine s_bipush 102 0 7 rfl k_ib_102 ?_
      refine s_icmp_eq 0 8 35 rfl (by decide) H (fun _ H => ?_) (fun _ H => ?_)
      · refine s_const 1 1 1 rfl k_ic_1 ?_
        refine s_goto 1 2 40 rfl (by decide) ?_
        exact s_zret 1 4 rfl rfl k_z1 (hr _ _ (k_sat_some H))
      · refine s_iloadn 0 9 rfl rfl ?_
        refine s_bipush 98 0 10 rfl k_ib_98 ?_
        refine s_icmp_eq 0 11 35 rfl (by decide) H (fun _ H => ?_) (fun _ H => ?_)
        · refine s_const 1 1 1 rfl k_ic_1 ?_
          refine s_goto 1 2 40 rfl (by decide) ?_
          exact s_zret 1 4 rfl rfl k_z1 (hr _ _ (k_sat_some H))
        · refine s_iloadn 0 12 rfl rfl ?_
          refine s_bipush 49 0 13 rfl k_ib_49 ?_
          refine s_bipush 57 0 14 rfl k_ib_57 ?_
          refine s_csi3 (M' := MX12_in) 0 15 rfl k_ml230 vvX12_in (Nat.le_of_ble_eq_true rfl) rfl (c_R_in g _ _ _ (k_sat_bind H)) (fun r2 u1 H => ?_)
          refine s_if_eq 1 0 39 rfl (by decide) H (fun _ H => ?_) (fun _ H => ?_)
          · refine s_const 0 1 3 rfl k_ic_0 ?_
            exact s_zret 1 4 rfl rfl k_z0 (hr _ _ (k_sat_some H))
          · refine s_const 1 1 1 rfl k_ic_1 ?_
            refine s_goto 1 2 40 rfl (by decide) ?_
            exact s_zret 1 4 rfl rfl k_z1 (hr _ _ (k_sat_some H))
set_option maxRecDepth 100000 in
theorem t_R_wheel_B13 (g : k_G)  (v1 : Int32)  {u : k_S} {QQ : ((Int32) ⊕ (Int32)) → k_S → Prop} {Q : Option Value → k_S → Prop} (hb : ∀ (x : (Int32)) (u' : k_S), QQ (.inl x) u' → k_W g 3 MX12_wheel 13 [(0, .ref 42), (1, .int x)] [] u' Q) (he : ∀ (y : (Int32)) (u' : k_S), QQ (.inr y) u' → k_W g 3 MX12_wheel 45 [(0, .ref 42), (1, .int y)] [] u' Q) (H : k_sat (f_R_wheel_B13  v1 u) QQ) : k_W g 3 MX12_wheel 13 [(0, .ref 42), (1, .int v1)] [] u Q := by
  refine s_iloadn 0 8 rfl rfl ?_
  refine s_aloadn 0 9 rfl rfl ?_
  refine s_geti 4202 0 10 rfl k_fl121 rfl rfl rfl rfl rfl ?_
  refine s_icmp_ge 0 11 45 rfl (by decide) H (fun _ H => ?_) (fun _ H => ?_)
  · exact k_via (he _ _ (k_sat_some H)) ⟨rfl, rfl, trivial⟩
  · refine s_iloadn 0 12 rfl rfl ?_
    refine s_bipush 40 0 13 rfl k_ib_40 ?_
    refine s_icmp_ge 0 14 45 rfl (by decide) H (fun _ H => ?_) (fun _ H => ?_)
    · exact k_via (he _ _ (k_sat_some H)) ⟨rfl, rfl, trivial⟩
    · refine s_aloadn 0 15 rfl rfl ?_
      refine s_getr 1 0 rfl k_fl87 rfl rfl rfl rfl ?_
      refine s_iloadn 1 1 rfl rfl ?_
      refine s_bald 1 2 rfl rfl H (fun _ H => ?_)
      refine s_csi1 (M' := MX12_isTooth) 1 3 rfl k_ml231 vvX12_isTooth (Nat.le_of_ble_eq_true rfl) rfl (c_R_isTooth g _ (k_sat_bind H)) (fun r2 u1 H => ?_)
      refine s_if_eq 1 4 45 rfl (by decide) H (fun _ H => ?_) (fun _ H => ?_)
      · exact k_via (he _ _ (k_sat_some H)) ⟨rfl, rfl, trivial⟩
      · refine s_iinc 1 5 rfl rfl rfl ?_
        refine s_goto 1 6 13 rfl (by decide) ?_
        exact k_via (hb _ _ (k_sat_some H)) ⟨rfl, rfl, trivial⟩
set_option maxRecDepth 100000 in
theorem l_R_wheel_B13 (g : k_G)   {Q : Option Value → k_S → Prop} {K : (Int32) → k_S → Prop} (he : ∀ (y : (Int32)) (u' : k_S), K (y) u' → k_W g 3 MX12_wheel 45 [(0, .ref 42), (1, .int y)] [] u' Q) : ∀ (n : Nat) (x : (Int32)) (u : k_S), k_sat (k_itr (fun (x : (Int32)) u => f_R_wheel_B13  x u) n x u) K → k_W g 3 MX12_wheel 13 [(0, .ref 42), (1, .int x)] [] u Q :=
  k_loop (P := fun (x : (Int32)) u => k_W g 3 MX12_wheel 13 [(0, .ref 42), (1, .int x)] [] u Q) (fun (x : (Int32)) u H => t_R_wheel_B13 g  x  (fun x u' h => h) (fun y u' h => he y u' h) H)
set_option maxRecDepth 100000 in
theorem t_R_wheel_B66 (g : k_G)  (v1 : Int32) (v2 : Int32) (v3 : Int32)  {u : k_S} {QQ : ((Int32) ⊕ Unit) → k_S → Prop} {Q : Option Value → k_S → Prop} (hb : ∀ (x : (Int32)) (u' : k_S), QQ (.inl x) u' → k_W g 3 MX12_wheel 66 [(0, .ref 42), (1, .int v1), (2, .int v2), (3, .int x)] [] u' Q) (he : ∀ (y : Unit) (u' : k_S), QQ (.inr y) u' → k_W g 3 MX12_wheel 97 [(0, .ref 42), (1, .int v1), (2, .int v2)] [] u' Q) (H : k_sat (f_R_wheel_B66  v1 v2 v3 u) QQ) : k_W g 3 MX12_wheel 66 [(0, .ref 42), (1, .int v1), (2, .int v2), (3, .int v3)] [] u Q := by
  refine s_iloadn 2 4 rfl rfl ?_
  refine s_iloadn 2 5 rfl rfl ?_
  refine s_icmp_ge 2 6 97 rfl (by decide) H (fun _ H => ?_) (fun _ H => ?_)
  · exact k_via (he _ _ (k_sat_some H)) ⟨rfl, rfl, rfl, trivial⟩
  · refine s_aloadn 2 7 rfl rfl ?_
    refine s_getr 2 8 rfl k_fl88 rfl rfl rfl rfl ?_
    refine s_bipush 40 2 9 rfl k_ib_40 ?_
    refine s_aloadn 2 10 rfl rfl ?_
    refine s_geti 4203 2 11 rfl k_fl122 rfl rfl rfl rfl rfl ?_
    refine s_imul 2 12 rfl ?_
    refine s_iloadn 2 13 rfl rfl ?_
    refine s_iadd 2 14 rfl ?_
    refine s_aloadn 2 15 rfl rfl ?_
    refine s_getr 3 0 rfl k_fl87 rfl rfl rfl rfl ?_
    refine s_iloadn 3 1 rfl rfl ?_
    refine s_bald 3 2 rfl rfl H (fun _ H => ?_)
    refine s_iast 3 3 rfl rfl H (fun u5 H => ?_)
    refine s_iinc 3 4 rfl rfl rfl ?_
    refine s_goto 3 5 66 rfl (by decide) ?_
    exact k_via (hb _ _ (k_sat_some H)) ⟨rfl, rfl, rfl, rfl, trivial⟩
set_option maxRecDepth 100000 in
theorem l_R_wheel_B66 (g : k_G)  (v1 : Int32) (v2 : Int32) {Q : Option Value → k_S → Prop} {K : Unit → k_S → Prop} (he : ∀ (y : Unit) (u' : k_S), K (y) u' → k_W g 3 MX12_wheel 97 [(0, .ref 42), (1, .int v1), (2, .int v2)] [] u' Q) : ∀ (n : Nat) (x : (Int32)) (u : k_S), k_sat (k_itr (fun (x : (Int32)) u => f_R_wheel_B66  v1 v2 x u) n x u) K → k_W g 3 MX12_wheel 66 [(0, .ref 42), (1, .int v1), (2, .int v2), (3, .int x)] [] u Q :=
  k_loop (P := fun (x : (Int32)) u => k_W g 3 MX12_wheel 66 [(0, .ref 42), (1, .int v1), (2, .int v2), (3, .int x)] [] u Q) (fun (x : (Int32)) u H => t_R_wheel_B66 g  v1 v2 x  (fun x u' h => h) (fun y u' h => he y u' h) H)
set_option maxRecDepth 100000 in
theorem t_R_wheel_J63 (g : k_G)  (v1 : Int32) (s0 : Int32)  {u : k_S} {QQ : Int32 → k_S → Prop} {Q : Option Value → k_S → Prop} (hr : ∀ (r : Int32) (u' : k_S), QQ (r) u' → (Q) (some (.int r)) u') (H : k_sat (f_R_wheel_J63  v1 s0 u) QQ) : k_W g 3 MX12_wheel 63 [(0, .ref 42), (1, .int v1)] [.int s0] u Q := by
  refine s_istoren 2 1 rfl rfl ?_
  refine s_const 0 2 2 rfl k_ic_0 ?_
  refine s_istoren 2 3 rfl rfl ?_
  refine k_via (l_R_wheel_B66 g  v1 s0 ?_ _ _ _ (k_sat_bind H)) ⟨rfl, rfl, rfl, rfl, trivial⟩
  · intro y7 u6 H
    refine s_aloadn 3 6 rfl rfl ?_
    refine s_const 0 3 7 rfl k_ic_0 ?_
    refine s_puti 4202 3 8 rfl k_fl121 rfl rfl rfl rfl rfl rfl rfl rfl rfl H (fun u8 H => ?_)
    refine s_iloadn 3 9 rfl rfl ?_
    refine s_if_ne 3 10 111 rfl (by decide) H (fun _ H => ?_) (fun _ H => ?_)
    · refine s_aloadn 3 15 rfl rfl ?_
      refine s_getr 4 0 rfl k_fl89 rfl rfl rfl rfl ?_
      refine s_aloadn 4 1 rfl rfl ?_
      refine s_geti 4203 4 2 rfl k_fl122 rfl rfl rfl rfl rfl ?_
      refine s_iloadn 4 3 rfl rfl ?_
      refine s_iast 4 4 rfl rfl H (fun u9 H => ?_)
      refine s_aloadn 4 5 rfl rfl ?_
      refine s_getr 4 6 rfl k_fl90 rfl rfl rfl rfl ?_
      refine s_aloadn 4 7 rfl rfl ?_
      refine s_geti 4203 4 8 rfl k_fl122 rfl rfl rfl rfl rfl ?_
      refine s_const 0 4 9 rfl k_ic_0 ?_
      refine s_iast 4 10 rfl rfl H (fun u10 H => ?_)
      refine s_aloadn 4 11 rfl rfl ?_
      refine s_getr 4 12 rfl k_fl91 rfl rfl rfl rfl ?_
      refine s_aloadn 4 13 rfl rfl ?_
      refine s_geti 4203 4 14 rfl k_fl122 rfl rfl rfl rfl rfl ?_
      refine s_const 0 4 15 rfl k_ic_0 ?_
      refine s_iast 5 0 rfl rfl H (fun u11 H => ?_)
      refine s_aloadn 5 1 rfl rfl ?_
      refine s_getr 5 2 rfl k_fl92 rfl rfl rfl rfl ?_
      refine s_aloadn 5 3 rfl rfl ?_
      refine s_geti 4203 5 4 rfl k_fl122 rfl rfl rfl rfl rfl ?_
      refine s_const 0 5 5 rfl k_ic_0 ?_
      refine s_iast 5 6 rfl rfl H (fun u12 H => ?_)
      refine s_aloadn 5 7 rfl rfl ?_
      refine s_dupr 5 8 rfl ?_
      refine s_geti 4203 5 9 rfl k_fl122 rfl rfl rfl rfl rfl ?_
      refine s_const 1 5 10 rfl k_ic_1 ?_
      refine s_iadd 5 11 rfl ?_
      refine s_puti 4203 5 12 rfl k_fl122 rfl rfl rfl rfl rfl rfl rfl rfl rfl H (fun u13 H => ?_)
      refine s_aloadn 5 13 rfl rfl ?_
      refine s_geti 4203 5 14 rfl k_fl122 rfl rfl rfl rfl rfl ?_
      refine s_const 1 5 15 rfl k_ic_1 ?_
      refine s_isub 6 0 rfl ?_
      exact s_iret 6 1 rfl rfl (hr _ _ (k_sat_some H))
    · refine s_bipush (-100) 3 11 rfl k_ib_m100 ?_
      refine s_iloadn 3 12 rfl rfl ?_
      refine s_isub 3 13 rfl ?_
      exact s_iret 3 14 rfl rfl (hr _ _ (k_sat_some H))
set_option maxRecDepth 100000 in
theorem t_R_wheel_J62 (g : k_G)  (v1 : Int32)  {u : k_S} {QQ : Int32 → k_S → Prop} {Q : Option Value → k_S → Prop} (hr : ∀ (r : Int32) (u' : k_S), QQ (r) u' → (Q) (some (.int r)) u') (H : k_sat (f_R_wheel_J62  v1 u) QQ) : k_W g 3 MX12_wheel 62 [(0, .ref 42), (1, .int v1)] [] u Q := by
  refine s_const 0 2 0 rfl k_ic_0 ?_
  exact k_via (t_R_wheel_J63 g  _ _  hr H) ⟨rfl, rfl, trivial⟩
set_option maxRecDepth 100000 in
theorem t_R_wheel_J45 (g : k_G)  (v1 : Int32)  {u : k_S} {QQ : Int32 → k_S → Prop} {Q : Option Value → k_S → Prop} (hr : ∀ (r : Int32) (u' : k_S), QQ (r) u' → (Q) (some (.int r)) u') (H : k_sat (f_R_wheel_J45  v1 u) QQ) : k_W g 3 MX12_wheel 45 [(0, .ref 42), (1, .int v1)] [] u Q := by
  refine s_iloadn 1 7 rfl rfl ?_
  refine s_aloadn 1 8 rfl rfl ?_
  refine s_geti 4202 1 9 rfl k_fl121 rfl rfl rfl rfl rfl ?_
  refine s_icmp_ne 1 10 62 rfl (by decide) H (fun _ H => ?_) (fun _ H => ?_)
  · exact k_via (t_R_wheel_J62 g  _  hr H) ⟨rfl, rfl, trivial⟩
  · refine s_iloadn 1 11 rfl rfl ?_
    refine s_const 2 1 12 rfl k_ic_2 ?_
    refine s_icmp_lt 1 13 62 rfl (by decide) H (fun _ H => ?_) (fun _ H => ?_)
    · exact k_via (t_R_wheel_J62 g  _  hr H) ⟨rfl, rfl, trivial⟩
    · refine s_const 1 1 14 rfl k_ic_1 ?_
      refine s_goto 1 15 63 rfl (by decide) ?_
      exact k_via (t_R_wheel_J63 g  _ _  hr H) ⟨rfl, rfl, trivial⟩
set_option maxRecDepth 100000 in
theorem c_R_wheel (g : k_G)   {u : k_S} {QQ : Int32 → k_S → Prop} (H : k_sat (f_R_wheel   u) QQ) : k_OK g 3 MX12_wheel [.ref 42] u (k_qi QQ) := by
  have hr : ∀ (r : Int32) (u' : k_S), QQ (r) u' → (k_qi QQ) (some (.int r)) u' := fun r u' h => ⟨_, rfl, h⟩
  refine k_OK.ofW pfX12_wheel (k_tab_of MX12_wheel_dec) rfl ?_
  refine s_aloadn 0 0 rfl rfl ?_
  refine s_geti 4203 0 1 rfl k_fl122 rfl rfl rfl rfl rfl ?_
  refine s_const 4 0 2 rfl k_ic_4 ?_
  refine s_icmp_ne 0 3 11 rfl (by decide) H (fun _ H => ?_) (fun _ H => ?_)
  · refine s_const 0 0 6 rfl k_ic_0 ?_
    refine s_istoren 0 7 rfl rfl ?_
    refine k_via (l_R_wheel_B13 g   ?_ _ _ _ (k_sat_bind H)) ⟨rfl, rfl, trivial⟩
    · intro y4 u3 H
      exact k_via (t_R_wheel_J45 g  _  hr H) ⟨rfl, rfl, trivial⟩
  · refine s_bipush (-3) 0 4 rfl k_ib_m3 ?_
    exact s_iret 0 5 rfl rfl (hr _ _ (k_sat_some H))
set_option maxRecDepth 100000 in
theorem c_Reader_add (g : k_G)  (p1 : Int32) {u : k_S} {QQ : Unit → k_S → Prop} (H : k_sat (f_Reader_add  p1 u) QQ) : k_OK g 1 MX4_add [.ref 10, .int p1] u (k_qv QQ) := by
  have hr : ∀ (r : Unit) (u' : k_S), QQ (r) u' → (k_qv QQ) (none) u' := fun r u' h => ⟨rfl, h⟩
  refine k_OK.ofW pfX4_add (k_tab_of MX4_add_dec) rfl ?_
  refine s_aloadn 0 0 rfl rfl ?_
  refine s_geti 1002 0 1 rfl k_fl59 rfl rfl rfl rfl rfl ?_
  refine s_if_lt 0 2 19 rfl (by decide) H (fun _ H => ?_) (fun _ H => ?_)
  · exact s_ret 0 9 rfl rfl (hr _ _ (k_sat_some H))
  · refine s_aloadn 0 3 rfl rfl ?_
    refine s_geti 1002 0 4 rfl k_fl59 rfl rfl rfl rfl rfl ?_
    refine s_aloadn 0 5 rfl rfl ?_
    refine s_getr 0 6 rfl k_fl56 rfl rfl rfl rfl ?_
    refine s_alen 128 0 7 rfl rfl k_ln_128 ?_
    refine s_icmp_lt 0 8 20 rfl (by decide) H (fun _ H => ?_) (fun _ H => ?_)
    · refine s_aloadn 0 10 rfl rfl ?_
      refine s_getr 0 11 rfl k_fl56 rfl rfl rfl rfl ?_
      refine s_aloadn 0 12 rfl rfl ?_
      refine s_geti 1002 0 13 rfl k_fl59 rfl rfl rfl rfl rfl ?_
      refine s_iloadn 0 14 rfl rfl ?_
      refine s_iast 0 15 rfl rfl H (fun u1 H => ?_)
      refine s_aloadn 1 0 rfl rfl ?_
      refine s_dupr 1 1 rfl ?_
      refine s_geti 1002 1 2 rfl k_fl59 rfl rfl rfl rfl rfl ?_
      refine s_const 1 1 3 rfl k_ic_1 ?_
      refine s_iadd 1 4 rfl ?_
      refine s_puti 1002 1 5 rfl k_fl59 rfl rfl rfl rfl rfl rfl rfl rfl rfl H (fun u2 H => ?_)
      exact s_ret 1 6 rfl rfl (hr _ _ (k_sat_some H))
    · exact s_ret 0 9 rfl rfl (hr _ _ (k_sat_some H))
set_option maxRecDepth 100000 in
theorem t_Reader_multiplied_J50 (g : k_G) (rc : Int32 → k_S → Option (Int32 × k_S)) (dn : Nat) (hrc : ∀ (a0 : Int32) (w : k_S) (PP : Int32 → k_S → Prop), k_sat (rc a0 w) PP → k_OK g dn MX4_single [.ref 10, .int a0] w (k_qi PP)) (v1 : Int32) (v2 : Int32) (v3 : Int32)  {u : k_S} {QQ : ((Int32) ⊕ (Int32 ⊕ Unit)) → k_S → Prop} {Q : Option Value → k_S → Prop} (hr : ∀ (r : Int32) (u' : k_S), QQ (.inr (.inl r)) u' → (Q) (some (.int r)) u') (hb : ∀ (x : (Int32)) (u' : k_S), QQ (.inl x) u' → k_W g (dn + 2) MX4_multiplied 12 [(0, .ref 10), (1, .int v1), (2, .int x)] [] u' Q) (he : ∀ (y : Unit) (u' : k_S), QQ (.inr (.inr y)) u' → k_W g (dn + 2) MX4_multiplied 82 [] [] u' Q) (H : k_sat (f_Reader_multiplied_J50 rc v1 v2 v3 u) QQ) : k_W g (dn + 2) MX4_multiplied 50 [(0, .ref 10), (1, .int v1), (2, .int v2), (3, .int v3)] [] u Q := by
  refine s_aloadn 1 12 rfl rfl ?_
  refine s_dupr 1 13 rfl ?_
  refine s_geti 1003 1 14 rfl k_fl58 rfl rfl rfl rfl rfl ?_
  refine s_const 1 1 15 rfl k_ic_1 ?_
  refine s_iadd 2 0 rfl ?_
  refine s_puti 1003 2 1 rfl k_fl58 rfl rfl rfl rfl rfl rfl rfl rfl rfl H (fun u5 H => ?_)
  refine s_aloadn 2 2 rfl rfl ?_
  refine s_iloadn 2 3 rfl rfl ?_
  refine s_cvi1 (M' := MX4_single) (d' := dn) 2 4 rfl k_ml112 vvX4_single rfl rfl (by omega) rfl (hrc _ _ _ (k_sat_bind H)) (fun r7 u6 H => ?_)
  refine s_if_ne 2 5 70 rfl (by decide) H (fun _ H => ?_) (fun _ H => ?_)
  · refine s_aloadn 2 8 rfl rfl ?_
    refine s_iloadn 2 9 rfl rfl ?_
    refine s_ineg 2 10 rfl ?_
    refine s_cvv1 (M' := MX4_add) (d' := 1) 2 11 rfl k_ml106 vvX4_add rfl rfl (by omega) rfl (c_Reader_add g _ (k_sat_bind H)) (fun _ u8 H => ?_)
    refine s_iinc 2 12 rfl rfl rfl ?_
    refine s_goto 2 13 12 rfl (by decide) ?_
    exact k_via (hb _ _ (k_sat_some H)) ⟨rfl, rfl, rfl, trivial⟩
  · refine s_const 0 2 6 rfl k_ic_0 ?_
    exact s_zret 2 7 rfl rfl k_z0 (hr _ _ (k_sat_some H))
set_option maxRecDepth 100000 in
theorem t_Reader_multiplied_B12 (g : k_G) (rc : Int32 → k_S → Option (Int32 × k_S)) (dn : Nat) (hrc : ∀ (a0 : Int32) (w : k_S) (PP : Int32 → k_S → Prop), k_sat (rc a0 w) PP → k_OK g dn MX4_single [.ref 10, .int a0] w (k_qi PP)) (v1 : Int32) (v2 : Int32)  {u : k_S} {QQ : ((Int32) ⊕ (Int32 ⊕ Unit)) → k_S → Prop} {Q : Option Value → k_S → Prop} (hr : ∀ (r : Int32) (u' : k_S), QQ (.inr (.inl r)) u' → (Q) (some (.int r)) u') (hb : ∀ (x : (Int32)) (u' : k_S), QQ (.inl x) u' → k_W g (dn + 2) MX4_multiplied 12 [(0, .ref 10), (1, .int v1), (2, .int x)] [] u' Q) (he : ∀ (y : Unit) (u' : k_S), QQ (.inr (.inr y)) u' → k_W g (dn + 2) MX4_multiplied 82 [] [] u' Q) (H : k_sat (f_Reader_multiplied_B12 rc v1 v2 u) QQ) : k_W g (dn + 2) MX4_multiplied 12 [(0, .ref 10), (1, .int v1), (2, .int v2)] [] u Q := by
  refine s_iloadn 0 8 rfl rfl ?_
  refine s_bipush 120 0 9 rfl k_ib_120 ?_
  refine s_icmp_ge 0 10 82 rfl (by decide) H (fun _ H => ?_) (fun _ H => ?_)
  · exact k_via (he _ _ (k_sat_some H)) trivial
  · refine s_aloadn 0 11 rfl rfl ?_
    refine s_getr 0 12 rfl k_fl57 rfl rfl rfl rfl ?_
    refine s_aloadn 0 13 rfl rfl ?_
    refine s_geti 1003 0 14 rfl k_fl58 rfl rfl rfl rfl rfl ?_
    refine s_cvi1 (M' := MX9_at) (d' := 1) 0 15 rfl k_ml110 vvX9_at rfl rfl (by omega) rfl (c_Tape_at g _ (k_sat_bind H)) (fun r4 u3 H => ?_)
    refine s_istoren 1 0 rfl rfl ?_
    refine s_iloadn 1 1 rfl rfl ?_
    refine s_bipush 42 1 2 rfl k_ib_42 ?_
    refine s_icmp_eq 1 3 50 rfl (by decide) H (fun _ H => ?_) (fun _ H => ?_)
    · exact k_via (t_Reader_multiplied_J50 g rc dn hrc _ _ _  hr hb he H) ⟨rfl, rfl, rfl, rfl, trivial⟩
    · refine s_iloadn 1 4 rfl rfl ?_
      refine s_bipush 47 1 5 rfl k_ib_47 ?_
      refine s_icmp_eq 1 6 50 rfl (by decide) H (fun _ H => ?_) (fun _ H => ?_)
      · exact k_via (t_Reader_multiplied_J50 g rc dn hrc _ _ _  hr hb he H) ⟨rfl, rfl, rfl, rfl, trivial⟩
      · refine s_iloadn 1 7 rfl rfl ?_
        refine s_bipush 37 1 8 rfl k_ib_37 ?_
        refine s_icmp_eq 1 9 50 rfl (by decide) H (fun _ H => ?_) (fun _ H => ?_)
        · exact k_via (t_Reader_multiplied_J50 g rc dn hrc _ _ _  hr hb he H) ⟨rfl, rfl, rfl, rfl, trivial⟩
        · refine s_const 1 1 10 rfl k_ic_1 ?_
          exact s_zret 1 11 rfl rfl k_z1 (hr _ _ (k_sat_some H))
set_option maxRecDepth 100000 in
theorem l_Reader_multiplied_B12 (g : k_G) (rc : Int32 → k_S → Option (Int32 × k_S)) (dn : Nat) (hrc : ∀ (a0 : Int32) (w : k_S) (PP : Int32 → k_S → Prop), k_sat (rc a0 w) PP → k_OK g dn MX4_single [.ref 10, .int a0] w (k_qi PP)) (v1 : Int32) {Q : Option Value → k_S → Prop} {K : (Int32 ⊕ Unit) → k_S → Prop} (hr : ∀ (r : Int32) (u' : k_S), K (.inl r) u' → Q (some (.int r)) u') (he : ∀ (y : Unit) (u' : k_S), K (.inr y) u' → k_W g (dn + 2) MX4_multiplied 82 [] [] u' Q) : ∀ (n : Nat) (x : (Int32)) (u : k_S), k_sat (k_itr (fun (x : (Int32)) u => f_Reader_multiplied_B12 rc v1 x u) n x u) K → k_W g (dn + 2) MX4_multiplied 12 [(0, .ref 10), (1, .int v1), (2, .int x)] [] u Q :=
  k_loop (P := fun (x : (Int32)) u => k_W g (dn + 2) MX4_multiplied 12 [(0, .ref 10), (1, .int v1), (2, .int x)] [] u Q) (fun (x : (Int32)) u H => t_Reader_multiplied_B12 g rc dn hrc v1 x  (fun r u' h => hr r u' h) (fun x u' h => h) (fun y u' h => he y u' h) H)
set_option maxRecDepth 100000 in
theorem c_Reader_multiplied (g : k_G) (rc : Int32 → k_S → Option (Int32 × k_S)) (dn : Nat) (hrc : ∀ (a0 : Int32) (w : k_S) (PP : Int32 → k_S → Prop), k_sat (rc a0 w) PP → k_OK g dn MX4_single [.ref 10, .int a0] w (k_qi PP)) (p1 : Int32) {u : k_S} {QQ : Int32 → k_S → Prop} (H : k_sat (f_Reader_multiplied rc p1 u) QQ) : k_OK g (dn + 2) MX4_multiplied [.ref 10, .int p1] u (k_qi QQ) := by
  have hr : ∀ (r : Int32) (u' : k_S), QQ (r) u' → (k_qi QQ) (some (.int r)) u' := fun r u' h => ⟨_, rfl, h⟩
  refine k_OK.ofW pfX4_multiplied (k_tab_of MX4_multiplied_dec) rfl ?_
  refine s_aloadn 0 0 rfl rfl ?_
  refine s_iloadn 0 1 rfl rfl ?_
  refine s_cvi1 (M' := MX4_single) (d' := dn) 0 2 rfl k_ml112 vvX4_single rfl rfl (by omega) rfl (hrc _ _ _ (k_sat_bind H)) (fun r2 u1 H => ?_)
  refine s_if_ne 0 3 10 rfl (by decide) H (fun _ H => ?_) (fun _ H => ?_)
  · refine s_const 0 0 6 rfl k_ic_0 ?_
    refine s_istoren 0 7 rfl rfl ?_
    refine k_via (l_Reader_multiplied_B12 g rc dn hrc p1 ?_ ?_ _ _ _ (k_sat_bind H)) ⟨rfl, rfl, rfl, trivial⟩
    · exact fun r u' h => hr r u' (k_sat_some h)
    · intro y10 u9 H
      replace H := k_sat_csr H
      refine s_const 1 2 14 rfl k_ic_1 ?_
      exact s_zret 2 15 rfl rfl k_z1 (hr _ _ (k_sat_some H))
  · refine s_const 0 0 4 rfl k_ic_0 ?_
    exact s_zret 0 5 rfl rfl k_z0 (hr _ _ (k_sat_some H))
set_option maxRecDepth 100000 in
theorem t_Reader_summed_J44 (g : k_G) (rc : Int32 → k_S → Option (Int32 × k_S)) (dn : Nat) (hrc : ∀ (a0 : Int32) (w : k_S) (PP : Int32 → k_S → Prop), k_sat (rc a0 w) PP → k_OK g dn MX4_single [.ref 10, .int a0] w (k_qi PP)) (v1 : Int32) (v2 : Int32) (v3 : Int32)  {u : k_S} {QQ : ((Int32) ⊕ (Int32 ⊕ Unit)) → k_S → Prop} {Q : Option Value → k_S → Prop} (hr : ∀ (r : Int32) (u' : k_S), QQ (.inr (.inl r)) u' → (Q) (some (.int r)) u') (hb : ∀ (x : (Int32)) (u' : k_S), QQ (.inl x) u' → k_W g (dn + 3) MX4_summed 12 [(0, .ref 10), (1, .int v1), (2, .int x)] [] u' Q) (he : ∀ (y : Unit) (u' : k_S), QQ (.inr (.inr y)) u' → k_W g (dn + 3) MX4_summed 76 [] [] u' Q) (H : k_sat (f_Reader_summed_J44 rc v1 v2 v3 u) QQ) : k_W g (dn + 3) MX4_summed 44 [(0, .ref 10), (1, .int v1), (2, .int v2), (3, .int v3)] [] u Q := by
  refine s_aloadn 1 9 rfl rfl ?_
  refine s_dupr 1 10 rfl ?_
  refine s_geti 1003 1 11 rfl k_fl58 rfl rfl rfl rfl rfl ?_
  refine s_const 1 1 12 rfl k_ic_1 ?_
  refine s_iadd 1 13 rfl ?_
  refine s_puti 1003 1 14 rfl k_fl58 rfl rfl rfl rfl rfl rfl rfl rfl rfl H (fun u5 H => ?_)
  refine s_aloadn 1 15 rfl rfl ?_
  refine s_iloadn 2 0 rfl rfl ?_
  refine s_cvi1 (M' := MX4_multiplied) (d' := dn + 2) 2 1 rfl k_ml111 vvX4_multiplied rfl rfl (by omega) rfl (c_Reader_multiplied g rc dn hrc _ (k_sat_bind H)) (fun r7 u6 H => ?_)
  refine s_if_ne 2 2 64 rfl (by decide) H (fun _ H => ?_) (fun _ H => ?_)
  · refine s_aloadn 2 5 rfl rfl ?_
    refine s_iloadn 2 6 rfl rfl ?_
    refine s_ineg 2 7 rfl ?_
    refine s_cvv1 (M' := MX4_add) (d' := 1) 2 8 rfl k_ml106 vvX4_add rfl rfl (by omega) rfl (c_Reader_add g _ (k_sat_bind H)) (fun _ u8 H => ?_)
    refine s_iinc 2 9 rfl rfl rfl ?_
    refine s_goto 2 10 12 rfl (by decide) ?_
    exact k_via (hb _ _ (k_sat_some H)) ⟨rfl, rfl, rfl, trivial⟩
  · refine s_const 0 2 3 rfl k_ic_0 ?_
    exact s_zret 2 4 rfl rfl k_z0 (hr _ _ (k_sat_some H))
set_option maxRecDepth 100000 in
theorem t_Reader_summed_B12 (g : k_G) (rc : Int32 → k_S → Option (Int32 × k_S)) (dn : Nat) (hrc : ∀ (a0 : Int32) (w : k_S) (PP : Int32 → k_S → Prop), k_sat (rc a0 w) PP → k_OK g dn MX4_single [.ref 10, .int a0] w (k_qi PP)) (v1 : Int32) (v2 : Int32)  {u : k_S} {QQ : ((Int32) ⊕ (Int32 ⊕ Unit)) → k_S → Prop} {Q : Option Value → k_S → Prop} (hr : ∀ (r : Int32) (u' : k_S), QQ (.inr (.inl r)) u' → (Q) (some (.int r)) u') (hb : ∀ (x : (Int32)) (u' : k_S), QQ (.inl x) u' → k_W g (dn + 3) MX4_summed 12 [(0, .ref 10), (1, .int v1), (2, .int x)] [] u' Q) (he : ∀ (y : Unit) (u' : k_S), QQ (.inr (.inr y)) u' → k_W g (dn + 3) MX4_summed 76 [] [] u' Q) (H : k_sat (f_Reader_summed_B12 rc v1 v2 u) QQ) : k_W g (dn + 3) MX4_summed 12 [(0, .ref 10), (1, .int v1), (2, .int v2)] [] u Q := by
  refine s_iloadn 0 8 rfl rfl ?_
  refine s_bipush 120 0 9 rfl k_ib_120 ?_
  refine s_icmp_ge 0 10 76 rfl (by decide) H (fun _ H => ?_) (fun _ H => ?_)
  · exact k_via (he _ _ (k_sat_some H)) trivial
  · refine s_aloadn 0 11 rfl rfl ?_
    refine s_getr 0 12 rfl k_fl57 rfl rfl rfl rfl ?_
    refine s_aloadn 0 13 rfl rfl ?_
    refine s_geti 1003 0 14 rfl k_fl58 rfl rfl rfl rfl rfl ?_
    refine s_cvi1 (M' := MX9_at) (d' := 1) 0 15 rfl k_ml110 vvX9_at rfl rfl (by omega) rfl (c_Tape_at g _ (k_sat_bind H)) (fun r4 u3 H => ?_)
    refine s_istoren 1 0 rfl rfl ?_
    refine s_iloadn 1 1 rfl rfl ?_
    refine s_bipush 43 1 2 rfl k_ib_43 ?_
    refine s_icmp_eq 1 3 44 rfl (by decide) H (fun _ H => ?_) (fun _ H => ?_)
    · exact k_via (t_Reader_summed_J44 g rc dn hrc _ _ _  hr hb he H) ⟨rfl, rfl, rfl, rfl, trivial⟩
    · refine s_iloadn 1 4 rfl rfl ?_
      refine s_bipush 45 1 5 rfl k_ib_45 ?_
      refine s_icmp_eq 1 6 44 rfl (by decide) H (fun _ H => ?_) (fun _ H => ?_)
      · exact k_via (t_Reader_summed_J44 g rc dn hrc _ _ _  hr hb he H) ⟨rfl, rfl, rfl, rfl, trivial⟩
      · refine s_const 1 1 7 rfl k_ic_1 ?_
        exact s_zret 1 8 rfl rfl k_z1 (hr _ _ (k_sat_some H))
set_option maxRecDepth 100000 in
theorem l_Reader_summed_B12 (g : k_G) (rc : Int32 → k_S → Option (Int32 × k_S)) (dn : Nat) (hrc : ∀ (a0 : Int32) (w : k_S) (PP : Int32 → k_S → Prop), k_sat (rc a0 w) PP → k_OK g dn MX4_single [.ref 10, .int a0] w (k_qi PP)) (v1 : Int32) {Q : Option Value → k_S → Prop} {K : (Int32 ⊕ Unit) → k_S → Prop} (hr : ∀ (r : Int32) (u' : k_S), K (.inl r) u' → Q (some (.int r)) u') (he : ∀ (y : Unit) (u' : k_S), K (.inr y) u' → k_W g (dn + 3) MX4_summed 76 [] [] u' Q) : ∀ (n : Nat) (x : (Int32)) (u : k_S), k_sat (k_itr (fun (x : (Int32)) u => f_Reader_summed_B12 rc v1 x u) n x u) K → k_W g (dn + 3) MX4_summed 12 [(0, .ref 10), (1, .int v1), (2, .int x)] [] u Q :=
  k_loop (P := fun (x : (Int32)) u => k_W g (dn + 3) MX4_summed 12 [(0, .ref 10), (1, .int v1), (2, .int x)] [] u Q) (fun (x : (Int32)) u H => t_Reader_summed_B12 g rc dn hrc v1 x  (fun r u' h => hr r u' h) (fun x u' h => h) (fun y u' h => he y u' h) H)
set_option maxRecDepth 100000 in
theorem c_Reader_summed (g : k_G) (rc : Int32 → k_S → Option (Int32 × k_S)) (dn : Nat) (hrc : ∀ (a0 : Int32) (w : k_S) (PP : Int32 → k_S → Prop), k_sat (rc a0 w) PP → k_OK g dn MX4_single [.ref 10, .int a0] w (k_qi PP)) (p1 : Int32) {u : k_S} {QQ : Int32 → k_S → Prop} (H : k_sat (f_Reader_summed rc p1 u) QQ) : k_OK g (dn + 3) MX4_summed [.ref 10, .int p1] u (k_qi QQ) := by
  have hr : ∀ (r : Int32) (u' : k_S), QQ (r) u' → (k_qi QQ) (some (.int r)) u' := fun r u' h => ⟨_, rfl, h⟩
  refine k_OK.ofW pfX4_summed (k_tab_of MX4_summed_dec) rfl ?_
  refine s_aloadn 0 0 rfl rfl ?_
  refine s_iloadn 0 1 rfl rfl ?_
  refine s_cvi1 (M' := MX4_multiplied) (d' := dn + 2) 0 2 rfl k_ml111 vvX4_multiplied rfl rfl (by omega) rfl (c_Reader_multiplied g rc dn hrc _ (k_sat_bind H)) (fun r2 u1 H => ?_)
  refine s_if_ne 0 3 10 rfl (by decide) H (fun _ H => ?_) (fun _ H => ?_)
  · refine s_const 0 0 6 rfl k_ic_0 ?_
    refine s_istoren 0 7 rfl rfl ?_
    refine k_via (l_Reader_summed_B12 g rc dn hrc p1 ?_ ?_ _ _ _ (k_sat_bind H)) ⟨rfl, rfl, rfl, trivial⟩
    · exact fun r u' h => hr r u' (k_sat_some h)
    · intro y10 u9 H
      replace H := k_sat_csr H
      refine s_const 1 2 11 rfl k_ic_1 ?_
      exact s_zret 2 12 rfl rfl k_z1 (hr _ _ (k_sat_some H))
  · refine s_const 0 0 4 rfl k_ic_0 ?_
    exact s_zret 0 5 rfl rfl k_z0 (hr _ _ (k_sat_some H))
set_option maxRecDepth 100000 in
theorem t_Reader_compared_J42 (g : k_G) (rc : Int32 → k_S → Option (Int32 × k_S)) (dn : Nat) (hrc : ∀ (a0 : Int32) (w : k_S) (PP : Int32 → k_S → Prop), k_sat (rc a0 w) PP → k_OK g dn MX4_single [.ref 10, .int a0] w (k_qi PP)) (v1 : Int32) (v2 : Int32)  {u : k_S} {QQ : Int32 → k_S → Prop} {Q : Option Value → k_S → Prop} (hr : ∀ (r : Int32) (u' : k_S), QQ (r) u' → (Q) (some (.int r)) u') (H : k_sat (f_Reader_compared_J42 rc v1 v2 u) QQ) : k_W g (dn + 4) MX4_compared 42 [(0, .ref 10), (1, .int v1), (2, .int v2)] [] u Q := by
  refine s_aloadn 1 7 rfl rfl ?_
  refine s_dupr 1 8 rfl ?_
  refine s_geti 1003 1 9 rfl k_fl58 rfl rfl rfl rfl rfl ?_
  refine s_const 1 1 10 rfl k_ic_1 ?_
  refine s_iadd 1 11 rfl ?_
  refine s_puti 1003 1 12 rfl k_fl58 rfl rfl rfl rfl rfl rfl rfl rfl rfl H (fun u5 H => ?_)
  refine s_aloadn 1 13 rfl rfl ?_
  refine s_iloadn 1 14 rfl rfl ?_
  refine s_cvi1 (M' := MX4_summed) (d' := dn + 3) 1 15 rfl k_ml109 vvX4_summed rfl rfl (by omega) rfl (c_Reader_summed g rc dn hrc _ (k_sat_bind H)) (fun r7 u6 H => ?_)
  refine s_if_ne 2 0 62 rfl (by decide) H (fun _ H => ?_) (fun _ H => ?_)
  · refine s_aloadn 2 3 rfl rfl ?_
    refine s_iloadn 2 4 rfl rfl ?_
    refine s_ineg 2 5 rfl ?_
    refine s_cvv1 (M' := MX4_add) (d' := 1) 2 6 rfl k_ml106 vvX4_add rfl rfl (by omega) rfl (c_Reader_add g _ (k_sat_bind H)) (fun _ u8 H => ?_)
    refine s_const 1 2 7 rfl k_ic_1 ?_
    exact s_zret 2 8 rfl rfl k_z1 (hr _ _ (k_sat_some H))
  · refine s_const 0 2 1 rfl k_ic_0 ?_
    exact s_zret 2 2 rfl rfl k_z0 (hr _ _ (k_sat_some H))
set_option maxRecDepth 100000 in
theorem c_Reader_compared (g : k_G) (rc : Int32 → k_S → Option (Int32 × k_S)) (dn : Nat) (hrc : ∀ (a0 : Int32) (w : k_S) (PP : Int32 → k_S → Prop), k_sat (rc a0 w) PP → k_OK g dn MX4_single [.ref 10, .int a0] w (k_qi PP)) (p1 : Int32) {u : k_S} {QQ : Int32 → k_S → Prop} (H : k_sat (f_Reader_compared rc p1 u) QQ) : k_OK g (dn + 4) MX4_compared [.ref 10, .int p1] u (k_qi QQ) := by
  have hr : ∀ (r : Int32) (u' : k_S), QQ (r) u' → (k_qi QQ) (some (.int r)) u' := fun r u' h => ⟨_, rfl, h⟩
  refine k_OK.ofW pfX4_compared (k_tab_of MX4_compared_dec) rfl ?_
  refine s_aloadn 0 0 rfl rfl ?_
  refine s_iloadn 0 1 rfl rfl ?_
  refine s_cvi1 (M' := MX4_summed) (d' := dn + 3) 0 2 rfl k_ml109 vvX4_summed rfl rfl (by omega) rfl (c_Reader_summed g rc dn hrc _ (k_sat_bind H)) (fun r2 u1 H => ?_)
  refine s_if_ne 0 3 10 rfl (by decide) H (fun _ H => ?_) (fun _ H => ?_)
  · refine s_aloadn 0 6 rfl rfl ?_
    refine s_getr 0 7 rfl k_fl57 rfl rfl rfl rfl ?_
    refine s_aloadn 0 8 rfl rfl ?_
    refine s_geti 1003 0 9 rfl k_fl58 rfl rfl rfl rfl rfl ?_
    refine s_cvi1 (M' := MX9_at) (d' := 1) 0 10 rfl k_ml110 vvX9_at rfl rfl (by omega) rfl (c_Tape_at g _ (k_sat_bind H)) (fun r4 u3 H => ?_)
    refine s_istoren 0 11 rfl rfl ?_
    refine s_iloadn 0 12 rfl rfl ?_
    refine s_bipush 60 0 13 rfl k_ib_60 ?_
    refine s_icmp_eq 0 14 42 rfl (by decide) H (fun _ H => ?_) (fun _ H => ?_)
    · exact k_via (t_Reader_compared_J42 g rc dn hrc _ _  hr H) ⟨rfl, rfl, rfl, trivial⟩
    · refine s_iloadn 0 15 rfl rfl ?_
      refine s_bipush 61 1 0 rfl k_ib_61 ?_
      refine s_icmp_eq 1 1 42 rfl (by decide) H (fun _ H => ?_) (fun _ H => ?_)
      · exact k_via (t_Reader_compared_J42 g rc dn hrc _ _  hr H) ⟨rfl, rfl, rfl, trivial⟩
      · refine s_iloadn 1 2 rfl rfl ?_
        refine s_bipush 62 1 3 rfl k_ib_62 ?_
        refine s_icmp_eq 1 4 42 rfl (by decide) H (fun _ H => ?_) (fun _ H => ?_)
        · exact k_via (t_Reader_compared_J42 g rc dn hrc _ _  hr H) ⟨rfl, rfl, rfl, trivial⟩
        · refine s_const 1 1 5 rfl k_ic_1 ?_
          exact s_zret 1 6 rfl rfl k_z1 (hr _ _ (k_sat_some H))
  · refine s_const 0 0 4 rfl k_ic_0 ?_
    exact s_zret 0 5 rfl rfl k_z0 (hr _ _ (k_sat_some H))
set_option maxRecDepth 100000 in
theorem c_Reader_passes (g : k_G)  (p1 : Int32) {u : k_S} {QQ : Int32 → k_S → Prop} (H : k_sat (f_Reader_passes  p1 u) QQ) : k_OK g 2 MX4_passes [.ref 10, .int p1] u (k_qi QQ) := by
  have hr : ∀ (r : Int32) (u' : k_S), QQ (r) u' → (k_qi QQ) (some (.int r)) u' := fun r u' h => ⟨_, rfl, h⟩
  refine k_OK.ofW pfX4_passes (k_tab_of MX4_passes_dec) rfl ?_
  refine s_aloadn 0 0 rfl rfl ?_
  refine s_getr 0 1 rfl k_fl57 rfl rfl rfl rfl ?_
  refine s_aloadn 0 2 rfl rfl ?_
  refine s_geti 1003 0 3 rfl k_fl58 rfl rfl rfl rfl rfl ?_
  refine s_cvi1 (M' := MX9_at) 0 4 rfl k_ml110 vvX9_at rfl rfl (Nat.le_of_ble_eq_true rfl) rfl (c_Tape_at g _ (k_sat_bind H)) (fun r2 u1 H => ?_)
  refine s_iloadn 0 5 rfl rfl ?_
  refine s_icmp_eq 0 6 17 rfl (by decide) H (fun _ H => ?_) (fun _ H => ?_)
  · refine s_aloadn 0 9 rfl rfl ?_
    refine s_dupr 0 10 rfl ?_
    refine s_geti 1003 0 11 rfl k_fl58 rfl rfl rfl rfl rfl ?_
    refine s_const 1 0 12 rfl k_ic_1 ?_
    refine s_iadd 0 13 rfl ?_
    refine s_puti 1003 0 14 rfl k_fl58 rfl rfl rfl rfl rfl rfl rfl rfl rfl H (fun u3 H => ?_)
    refine s_const 1 0 15 rfl k_ic_1 ?_
    exact s_zret 1 0 rfl rfl k_z1 (hr _ _ (k_sat_some H))
  · refine s_const 0 0 7 rfl k_ic_0 ?_
    exact s_zret 0 8 rfl rfl k_z0 (hr _ _ (k_sat_some H))
set_option maxRecDepth 100000 in
theorem t_Reader_both_B12 (g : k_G) (rc : Int32 → k_S → Option (Int32 × k_S)) (dn : Nat) (hrc : ∀ (a0 : Int32) (w : k_S) (PP : Int32 → k_S → Prop), k_sat (rc a0 w) PP → k_OK g dn MX4_single [.ref 10, .int a0] w (k_qi PP)) (v1 : Int32) (v2 : Int32)  {u : k_S} {QQ : ((Int32) ⊕ (Int32 ⊕ Unit)) → k_S → Prop} {Q : Option Value → k_S → Prop} (hr : ∀ (r : Int32) (u' : k_S), QQ (.inr (.inl r)) u' → (Q) (some (.int r)) u') (hb : ∀ (x : (Int32)) (u' : k_S), QQ (.inl x) u' → k_W g (dn + 5) MX4_both 12 [(0, .ref 10), (1, .int v1), (2, .int x)] [] u' Q) (he : ∀ (y : Unit) (u' : k_S), QQ (.inr (.inr y)) u' → k_W g (dn + 5) MX4_both 49 [] [] u' Q) (H : k_sat (f_Reader_both_B12 rc v1 v2 u) QQ) : k_W g (dn + 5) MX4_both 12 [(0, .ref 10), (1, .int v1), (2, .int v2)] [] u Q := by
  refine s_iloadn 0 8 rfl rfl ?_
  refine s_bipush 120 0 9 rfl k_ib_120 ?_
  refine s_icmp_ge 0 10 49 rfl (by decide) H (fun _ H => ?_) (fun _ H => ?_)
  · exact k_via (he _ _ (k_sat_some H)) trivial
  · refine s_aloadn 0 11 rfl rfl ?_
    refine s_bipush 38 0 12 rfl k_ib_38 ?_
    refine s_cvi1 (M' := MX4_passes) (d' := 2) 0 13 rfl k_ml104 vvX4_passes rfl rfl (by omega) rfl (c_Reader_passes g _ (k_sat_bind H)) (fun r4 u3 H => ?_)
    refine s_if_eq 0 14 49 rfl (by decide) H (fun _ H => ?_) (fun _ H => ?_)
    · exact k_via (he _ _ (k_sat_some H)) trivial
    · refine s_aloadn 0 15 rfl rfl ?_
      refine s_iloadn 1 0 rfl rfl ?_
      refine s_cvi1 (M' := MX4_compared) (d' := dn + 4) 1 1 rfl k_ml108 vvX4_compared rfl rfl (by omega) rfl (c_Reader_compared g rc dn hrc _ (k_sat_bind H)) (fun r6 u5 H => ?_)
      refine s_if_ne 1 2 37 rfl (by decide) H (fun _ H => ?_) (fun _ H => ?_)
      · refine s_aloadn 1 5 rfl rfl ?_
        refine s_bipush (-38) 1 6 rfl k_ib_m38 ?_
        refine s_cvv1 (M' := MX4_add) (d' := 1) 1 7 rfl k_ml106 vvX4_add rfl rfl (by omega) rfl (c_Reader_add g _ (k_sat_bind H)) (fun _ u7 H => ?_)
        refine s_iinc 1 8 rfl rfl rfl ?_
        refine s_goto 1 9 12 rfl (by decide) ?_
        exact k_via (hb _ _ (k_sat_some H)) ⟨rfl, rfl, rfl, trivial⟩
      · refine s_const 0 1 3 rfl k_ic_0 ?_
        exact s_zret 1 4 rfl rfl k_z0 (hr _ _ (k_sat_some H))
set_option maxRecDepth 100000 in
theorem l_Reader_both_B12 (g : k_G) (rc : Int32 → k_S → Option (Int32 × k_S)) (dn : Nat) (hrc : ∀ (a0 : Int32) (w : k_S) (PP : Int32 → k_S → Prop), k_sat (rc a0 w) PP → k_OK g dn MX4_single [.ref 10, .int a0] w (k_qi PP)) (v1 : Int32) {Q : Option Value → k_S → Prop} {K : (Int32 ⊕ Unit) → k_S → Prop} (hr : ∀ (r : Int32) (u' : k_S), K (.inl r) u' → Q (some (.int r)) u') (he : ∀ (y : Unit) (u' : k_S), K (.inr y) u' → k_W g (dn + 5) MX4_both 49 [] [] u' Q) : ∀ (n : Nat) (x : (Int32)) (u : k_S), k_sat (k_itr (fun (x : (Int32)) u => f_Reader_both_B12 rc v1 x u) n x u) K → k_W g (dn + 5) MX4_both 12 [(0, .ref 10), (1, .int v1), (2, .int x)] [] u Q :=
  k_loop (P := fun (x : (Int32)) u => k_W g (dn + 5) MX4_both 12 [(0, .ref 10), (1, .int v1), (2, .int x)] [] u Q) (fun (x : (Int32)) u H => t_Reader_both_B12 g rc dn hrc v1 x  (fun r u' h => hr r u' h) (fun x u' h => h) (fun y u' h => he y u' h) H)
set_option maxRecDepth 100000 in
theorem c_Reader_both (g : k_G) (rc : Int32 → k_S → Option (Int32 × k_S)) (dn : Nat) (hrc : ∀ (a0 : Int32) (w : k_S) (PP : Int32 → k_S → Prop), k_sat (rc a0 w) PP → k_OK g dn MX4_single [.ref 10, .int a0] w (k_qi PP)) (p1 : Int32) {u : k_S} {QQ : Int32 → k_S → Prop} (H : k_sat (f_Reader_both rc p1 u) QQ) : k_OK g (dn + 5) MX4_both [.ref 10, .int p1] u (k_qi QQ) := by
  have hr : ∀ (r : Int32) (u' : k_S), QQ (r) u' → (k_qi QQ) (some (.int r)) u' := fun r u' h => ⟨_, rfl, h⟩
  refine k_OK.ofW pfX4_both (k_tab_of MX4_both_dec) rfl ?_
  refine s_aloadn 0 0 rfl rfl ?_
  refine s_iloadn 0 1 rfl rfl ?_
  refine s_cvi1 (M' := MX4_compared) (d' := dn + 4) 0 2 rfl k_ml108 vvX4_compared rfl rfl (by omega) rfl (c_Reader_compared g rc dn hrc _ (k_sat_bind H)) (fun r2 u1 H => ?_)
  refine s_if_ne 0 3 10 rfl (by decide) H (fun _ H => ?_) (fun _ H => ?_)
  · refine s_const 0 0 6 rfl k_ic_0 ?_
    refine s_istoren 0 7 rfl rfl ?_
    refine k_via (l_Reader_both_B12 g rc dn hrc p1 ?_ ?_ _ _ _ (k_sat_bind H)) ⟨rfl, rfl, rfl, trivial⟩
    · exact fun r u' h => hr r u' (k_sat_some h)
    · intro y9 u8 H
      replace H := k_sat_csr H
      refine s_const 1 1 10 rfl k_ic_1 ?_
      exact s_zret 1 11 rfl rfl k_z1 (hr _ _ (k_sat_some H))
  · refine s_const 0 0 4 rfl k_ic_0 ?_
    exact s_zret 0 5 rfl rfl k_z0 (hr _ _ (k_sat_some H))
set_option maxRecDepth 100000 in
theorem t_Reader_either_B12 (g : k_G) (rc : Int32 → k_S → Option (Int32 × k_S)) (dn : Nat) (hrc : ∀ (a0 : Int32) (w : k_S) (PP : Int32 → k_S → Prop), k_sat (rc a0 w) PP → k_OK g dn MX4_single [.ref 10, .int a0] w (k_qi PP)) (v1 : Int32) (v2 : Int32)  {u : k_S} {QQ : ((Int32) ⊕ (Int32 ⊕ Unit)) → k_S → Prop} {Q : Option Value → k_S → Prop} (hr : ∀ (r : Int32) (u' : k_S), QQ (.inr (.inl r)) u' → (Q) (some (.int r)) u') (hb : ∀ (x : (Int32)) (u' : k_S), QQ (.inl x) u' → k_W g (dn + 6) MX4_either 12 [(0, .ref 10), (1, .int v1), (2, .int x)] [] u' Q) (he : ∀ (y : Unit) (u' : k_S), QQ (.inr (.inr y)) u' → k_W g (dn + 6) MX4_either 49 [] [] u' Q) (H : k_sat (f_Reader_either_B12 rc v1 v2 u) QQ) : k_W g (dn + 6) MX4_either 12 [(0, .ref 10), (1, .int v1), (2, .int v2)] [] u Q := by
  refine s_iloadn 0 8 rfl rfl ?_
  refine s_bipush 120 0 9 rfl k_ib_120 ?_
  refine s_icmp_ge 0 10 49 rfl (by decide) H (fun _ H => ?_) (fun _ H => ?_)
  · exact k_via (he _ _ (k_sat_some H)) trivial
  · refine s_aloadn 0 11 rfl rfl ?_
    refine s_bipush 124 0 12 rfl k_ib_124 ?_
    refine s_cvi1 (M' := MX4_passes) (d' := 2) 0 13 rfl k_ml104 vvX4_passes rfl rfl (by omega) rfl (c_Reader_passes g _ (k_sat_bind H)) (fun r4 u3 H => ?_)
    refine s_if_eq 0 14 49 rfl (by decide) H (fun _ H => ?_) (fun _ H => ?_)
    · exact k_via (he _ _ (k_sat_some H)) trivial
    · refine s_aloadn 0 15 rfl rfl ?_
      refine s_iloadn 1 0 rfl rfl ?_
      refine s_cvi1 (M' := MX4_both) (d' := dn + 5) 1 1 rfl k_ml107 vvX4_both rfl rfl (by omega) rfl (c_Reader_both g rc dn hrc _ (k_sat_bind H)) (fun r6 u5 H => ?_)
      refine s_if_ne 1 2 37 rfl (by decide) H (fun _ H => ?_) (fun _ H => ?_)
      · refine s_aloadn 1 5 rfl rfl ?_
        refine s_bipush (-124) 1 6 rfl k_ib_m124 ?_
        refine s_cvv1 (M' := MX4_add) (d' := 1) 1 7 rfl k_ml106 vvX4_add rfl rfl (by omega) rfl (c_Reader_add g _ (k_sat_bind H)) (fun _ u7 H => ?_)
        refine s_iinc 1 8 rfl rfl rfl ?_
        refine s_goto 1 9 12 rfl (by decide) ?_
        exact k_via (hb _ _ (k_sat_some H)) ⟨rfl, rfl, rfl, trivial⟩
      · refine s_const 0 1 3 rfl k_ic_0 ?_
        exact s_zret 1 4 rfl rfl k_z0 (hr _ _ (k_sat_some H))
set_option maxRecDepth 100000 in
theorem l_Reader_either_B12 (g : k_G) (rc : Int32 → k_S → Option (Int32 × k_S)) (dn : Nat) (hrc : ∀ (a0 : Int32) (w : k_S) (PP : Int32 → k_S → Prop), k_sat (rc a0 w) PP → k_OK g dn MX4_single [.ref 10, .int a0] w (k_qi PP)) (v1 : Int32) {Q : Option Value → k_S → Prop} {K : (Int32 ⊕ Unit) → k_S → Prop} (hr : ∀ (r : Int32) (u' : k_S), K (.inl r) u' → Q (some (.int r)) u') (he : ∀ (y : Unit) (u' : k_S), K (.inr y) u' → k_W g (dn + 6) MX4_either 49 [] [] u' Q) : ∀ (n : Nat) (x : (Int32)) (u : k_S), k_sat (k_itr (fun (x : (Int32)) u => f_Reader_either_B12 rc v1 x u) n x u) K → k_W g (dn + 6) MX4_either 12 [(0, .ref 10), (1, .int v1), (2, .int x)] [] u Q :=
  k_loop (P := fun (x : (Int32)) u => k_W g (dn + 6) MX4_either 12 [(0, .ref 10), (1, .int v1), (2, .int x)] [] u Q) (fun (x : (Int32)) u H => t_Reader_either_B12 g rc dn hrc v1 x  (fun r u' h => hr r u' h) (fun x u' h => h) (fun y u' h => he y u' h) H)
set_option maxRecDepth 100000 in
theorem c_Reader_either (g : k_G) (rc : Int32 → k_S → Option (Int32 × k_S)) (dn : Nat) (hrc : ∀ (a0 : Int32) (w : k_S) (PP : Int32 → k_S → Prop), k_sat (rc a0 w) PP → k_OK g dn MX4_single [.ref 10, .int a0] w (k_qi PP)) (p1 : Int32) {u : k_S} {QQ : Int32 → k_S → Prop} (H : k_sat (f_Reader_either rc p1 u) QQ) : k_OK g (dn + 6) MX4_either [.ref 10, .int p1] u (k_qi QQ) := by
  have hr : ∀ (r : Int32) (u' : k_S), QQ (r) u' → (k_qi QQ) (some (.int r)) u' := fun r u' h => ⟨_, rfl, h⟩
  refine k_OK.ofW pfX4_either (k_tab_of MX4_either_dec) rfl ?_
  refine s_aloadn 0 0 rfl rfl ?_
  refine s_iloadn 0 1 rfl rfl ?_
  refine s_cvi1 (M' := MX4_both) (d' := dn + 5) 0 2 rfl k_ml107 vvX4_both rfl rfl (by omega) rfl (c_Reader_both g rc dn hrc _ (k_sat_bind H)) (fun r2 u1 H => ?_)
  refine s_if_ne 0 3 10 rfl (by decide) H (fun _ H => ?_) (fun _ H => ?_)
  · refine s_const 0 0 6 rfl k_ic_0 ?_
    refine s_istoren 0 7 rfl rfl ?_
    refine k_via (l_Reader_either_B12 g rc dn hrc p1 ?_ ?_ _ _ _ (k_sat_bind H)) ⟨rfl, rfl, rfl, trivial⟩
    · exact fun r u' h => hr r u' (k_sat_some h)
    · intro y9 u8 H
      replace H := k_sat_csr H
      refine s_const 1 1 10 rfl k_ic_1 ?_
      exact s_zret 1 11 rfl rfl k_z1 (hr _ _ (k_sat_some H))
  · refine s_const 0 0 4 rfl k_ic_0 ?_
    exact s_zret 0 5 rfl rfl k_z0 (hr _ _ (k_sat_some H))
set_option maxRecDepth 100000 in
theorem c_Reader_isDigit (g : k_G)  (p0 : Int32) {u : k_S} {QQ : Int32 → k_S → Prop} (H : k_sat (f_Reader_isDigit  p0 u) QQ) : k_OK g 1 MX4_isDigit [.int p0] u (k_qi QQ) := by
  have hr : ∀ (r : Int32) (u' : k_S), QQ (r) u' → (k_qi QQ) (some (.int r)) u' := fun r u' h => ⟨_, rfl, h⟩
  refine k_OK.ofW pfX4_isDigit (k_tab_of MX4_isDigit_dec) rfl ?_
  refine s_iloadn 0 0 rfl rfl ?_
  refine s_bipush 48 0 1 rfl k_ib_48 ?_
  refine s_icmp_lt 0 2 16 rfl (by decide) H (fun _ H => ?_) (fun _ H => ?_)
  · refine s_const 0 0 8 rfl k_ic_0 ?_
    exact s_zret 0 9 rfl rfl k_z0 (hr _ _ (k_sat_some H))
  · refine s_iloadn 0 3 rfl rfl ?_
    refine s_bipush 57 0 4 rfl k_ib_57 ?_
    refine s_icmp_gt 0 5 16 rfl (by decide) H (fun _ H => ?_) (fun _ H => ?_)
    · refine s_const 0 0 8 rfl k_ic_0 ?_
      exact s_zret 0 9 rfl rfl k_z0 (hr _ _ (k_sat_some H))
    · refine s_const 1 0 6 rfl k_ic_1 ?_
      refine s_goto 0 7 17 rfl (by decide) ?_
      exact s_zret 0 9 rfl rfl k_z1 (hr _ _ (k_sat_some H))
set_option maxRecDepth 100000 in
theorem t_Reader_number_B4 (g : k_G)  (v1 : Int32) (v2 : Int32)  {u : k_S} {QQ : ((Int32 × Int32) ⊕ (Int32)) → k_S → Prop} {Q : Option Value → k_S → Prop} (hb : ∀ (x : (Int32 × Int32)) (u' : k_S), QQ (.inl x) u' → k_W g 2 MX4_number 4 [(0, .ref 10), (1, .int x.1), (2, .int x.2)] [] u' Q) (he : ∀ (y : (Int32)) (u' : k_S), QQ (.inr y) u' → k_W g 2 MX4_number 62 [(0, .ref 10), (1, .int y)] [] u' Q) (H : k_sat (f_Reader_number_B4  v1 v2 u) QQ) : k_W g 2 MX4_number 4 [(0, .ref 10), (1, .int v1), (2, .int v2)] [] u Q := by
  refine s_iloadn 0 4 rfl rfl ?_
  refine s_const 4 0 5 rfl k_ic_4 ?_
  refine s_icmp_ge 0 6 62 rfl (by decide) H (fun _ H => ?_) (fun _ H => ?_)
  · exact k_via (he _ _ (k_sat_some H)) ⟨rfl, rfl, trivial⟩
  · refine s_aloadn 0 7 rfl rfl ?_
    refine s_getr 0 8 rfl k_fl57 rfl rfl rfl rfl ?_
    refine s_aloadn 0 9 rfl rfl ?_
    refine s_geti 1003 0 10 rfl k_fl58 rfl rfl rfl rfl rfl ?_
    refine s_cvi1 (M' := MX9_at) 0 11 rfl k_ml110 vvX9_at rfl rfl (Nat.le_of_ble_eq_true rfl) rfl (c_Tape_at g _ (k_sat_bind H)) (fun r2 u1 H => ?_)
    refine s_csi1 (M' := MX4_isDigit) 0 12 rfl k_ml113 vvX4_isDigit (Nat.le_of_ble_eq_true rfl) rfl (c_Reader_isDigit g _ (k_sat_bind H)) (fun r4 u3 H => ?_)
    refine s_if_eq 0 13 62 rfl (by decide) H (fun _ H => ?_) (fun _ H => ?_)
    · exact k_via (he _ _ (k_sat_some H)) ⟨rfl, rfl, trivial⟩
    · refine s_bipush 10 0 14 rfl k_ib_10 ?_
      refine s_iloadn 0 15 rfl rfl ?_
      refine s_imul 1 0 rfl ?_
      refine s_aloadn 1 1 rfl rfl ?_
      refine s_getr 1 2 rfl k_fl57 rfl rfl rfl rfl ?_
      refine s_aloadn 1 3 rfl rfl ?_
      refine s_geti 1003 1 4 rfl k_fl58 rfl rfl rfl rfl rfl ?_
      refine s_cvi1 (M' := MX9_at) 1 5 rfl k_ml110 vvX9_at rfl rfl (Nat.le_of_ble_eq_true rfl) rfl (c_Tape_at g _ (k_sat_bind H)) (fun r6 u5 H => ?_)
      refine s_iadd 1 6 rfl ?_
      refine s_bipush 48 1 7 rfl k_ib_48 ?_
      refine s_isub 1 8 rfl ?_
      refine k_topi H (fun t7 H => ?_)
      refine s_istoren 1 9 rfl rfl ?_
      refine s_aloadn 1 10 rfl rfl ?_
      refine s_dupr 1 11 rfl ?_
      refine s_geti 1003 1 12 rfl k_fl58 rfl rfl rfl rfl rfl ?_
      refine s_const 1 1 13 rfl k_ic_1 ?_
      refine s_iadd 1 14 rfl ?_
      refine s_puti 1003 1 15 rfl k_fl58 rfl rfl rfl rfl rfl rfl rfl rfl rfl H (fun u8 H => ?_)
      refine s_iinc 2 0 rfl rfl rfl ?_
      refine s_goto 2 1 4 rfl (by decide) ?_
      exact k_via (hb _ _ (k_sat_some H)) ⟨rfl, rfl, rfl, trivial⟩
set_option maxRecDepth 100000 in
theorem l_Reader_number_B4 (g : k_G)   {Q : Option Value → k_S → Prop} {K : (Int32) → k_S → Prop} (he : ∀ (y : (Int32)) (u' : k_S), K (y) u' → k_W g 2 MX4_number 62 [(0, .ref 10), (1, .int y)] [] u' Q) : ∀ (n : Nat) (x : (Int32 × Int32)) (u : k_S), k_sat (k_itr (fun (x : (Int32 × Int32)) u => f_Reader_number_B4  x.1 x.2 u) n x u) K → k_W g 2 MX4_number 4 [(0, .ref 10), (1, .int x.1), (2, .int x.2)] [] u Q :=
  k_loop (P := fun (x : (Int32 × Int32)) u => k_W g 2 MX4_number 4 [(0, .ref 10), (1, .int x.1), (2, .int x.2)] [] u Q) (fun (x : (Int32 × Int32)) u H => t_Reader_number_B4 g  x.1 x.2  (fun x u' h => h) (fun y u' h => he y u' h) H)
set_option maxRecDepth 100000 in
theorem t_Reader_number_J62 (g : k_G)  (v1 : Int32)  {u : k_S} {QQ : Unit → k_S → Prop} {Q : Option Value → k_S → Prop} (hr : ∀ (r : Unit) (u' : k_S), QQ (r) u' → (Q) (none) u') (H : k_sat (f_Reader_number_J62  v1 u) QQ) : k_W g 2 MX4_number 62 [(0, .ref 10), (1, .int v1)] [] u Q := by
  refine s_aloadn 2 2 rfl rfl ?_
  refine s_iloadn 2 3 rfl rfl ?_
  refine s_cvv1 (M' := MX4_add) 2 4 rfl k_ml106 vvX4_add rfl rfl (Nat.le_of_ble_eq_true rfl) rfl (c_Reader_add g _ (k_sat_bind H)) (fun _ u11 H => ?_)
  exact s_ret 2 5 rfl rfl (hr _ _ (k_sat_some H))
set_option maxRecDepth 100000 in
theorem c_Reader_number (g : k_G)   {u : k_S} {QQ : Unit → k_S → Prop} (H : k_sat (f_Reader_number   u) QQ) : k_OK g 2 MX4_number [.ref 10] u (k_qv QQ) := by
  have hr : ∀ (r : Unit) (u' : k_S), QQ (r) u' → (k_qv QQ) (none) u' := fun r u' h => ⟨rfl, h⟩
  refine k_OK.ofW pfX4_number (k_tab_of MX4_number_dec) rfl ?_
  refine s_const 0 0 0 rfl k_ic_0 ?_
  refine s_istoren 0 1 rfl rfl ?_
  refine s_const 0 0 2 rfl k_ic_0 ?_
  refine s_istoren 0 3 rfl rfl ?_
  refine k_via (l_Reader_number_B4 g   ?_ _ _ _ (k_sat_bind H)) ⟨rfl, rfl, rfl, trivial⟩
  · intro y10 u9 H
    exact k_via (t_Reader_number_J62 g  _  hr H) ⟨rfl, rfl, trivial⟩
set_option maxRecDepth 100000 in
theorem t_Reader_single_J49 (g : k_G) (rc : Int32 → k_S → Option (Int32 × k_S)) (dn : Nat) (hrc : ∀ (a0 : Int32) (w : k_S) (PP : Int32 → k_S → Prop), k_sat (rc a0 w) PP → k_OK g dn MX4_single [.ref 10, .int a0] w (k_qi PP)) (v2 : Int32)  {u : k_S} {QQ : Int32 → k_S → Prop} {Q : Option Value → k_S → Prop} (hr : ∀ (r : Int32) (u' : k_S), QQ (r) u' → (Q) (some (.int r)) u') (H : k_sat (f_Reader_single_J49 rc v2 u) QQ) : k_W g (dn + 7) MX4_single 49 [(0, .ref 10), (2, .int v2)] [] u Q := by
  refine s_aloadn 1 9 rfl rfl ?_
  refine s_dupr 1 10 rfl ?_
  refine s_geti 1003 1 11 rfl k_fl58 rfl rfl rfl rfl rfl ?_
  refine s_const 1 1 12 rfl k_ic_1 ?_
  refine s_iadd 1 13 rfl ?_
  refine s_puti 1003 1 14 rfl k_fl58 rfl rfl rfl rfl rfl rfl rfl rfl rfl H (fun u5 H => ?_)
  refine s_aloadn 1 15 rfl rfl ?_
  refine s_iloadn 2 0 rfl rfl ?_
  refine s_ineg 2 1 rfl ?_
  refine s_cvv1 (M' := MX4_add) (d' := 1) 2 2 rfl k_ml106 vvX4_add rfl rfl (by omega) rfl (c_Reader_add g _ (k_sat_bind H)) (fun _ u6 H => ?_)
  refine s_const 1 2 3 rfl k_ic_1 ?_
  exact s_zret 2 4 rfl rfl k_z1 (hr _ _ (k_sat_some H))
set_option maxRecDepth 100000 in
theorem t_Reader_single_J161 (g : k_G) (rc : Int32 → k_S → Option (Int32 × k_S)) (dn : Nat) (hrc : ∀ (a0 : Int32) (w : k_S) (PP : Int32 → k_S → Prop), k_sat (rc a0 w) PP → k_OK g dn MX4_single [.ref 10, .int a0] w (k_qi PP)) (s1 : Int32)  {u : k_S} {QQ : Int32 → k_S → Prop} {Q : Option Value → k_S → Prop} (hr : ∀ (r : Int32) (u' : k_S), QQ (r) u' → (Q) (some (.int r)) u') (H : k_sat (f_Reader_single_J161 rc s1 u) QQ) : k_W g (dn + 7) MX4_single 161 [] [.int s1, .ref 10] u Q := by
  refine s_cvv1 (M' := MX4_add) (d' := 1) 5 12 rfl k_ml106 vvX4_add rfl rfl (by omega) rfl (c_Reader_add g _ (k_sat_bind H)) (fun _ u10 H => ?_)
  refine s_const 1 5 13 rfl k_ic_1 ?_
  exact s_zret 5 14 rfl rfl k_z1 (hr _ _ (k_sat_some H))
set_option maxRecDepth 100000 in
theorem t_Reader_single_J87 (g : k_G) (rc : Int32 → k_S → Option (Int32 × k_S)) (dn : Nat) (hrc : ∀ (a0 : Int32) (w : k_S) (PP : Int32 → k_S → Prop), k_sat (rc a0 w) PP → k_OK g dn MX4_single [.ref 10, .int a0] w (k_qi PP)) (v1 : Int32) (v2 : Int32)  {u : k_S} {QQ : Int32 → k_S → Prop} {Q : Option Value → k_S → Prop} (hr : ∀ (r : Int32) (u' : k_S), QQ (r) u' → (Q) (some (.int r)) u') (H : k_sat (f_Reader_single_J87 rc v1 v2 u) QQ) : k_W g (dn + 7) MX4_single 87 [(0, .ref 10), (1, .int v1), (2, .int v2)] [] u Q := by
  refine s_iloadn 3 0 rfl rfl ?_
  refine s_bipush 6 3 1 rfl k_ib_6 ?_
  refine s_icmp_lt 3 2 95 rfl (by decide) H (fun _ H => ?_) (fun _ H => ?_)
  · refine s_aloadn 3 5 rfl rfl ?_
    refine s_dupr 3 6 rfl ?_
    refine s_geti 1003 3 7 rfl k_fl58 rfl rfl rfl rfl rfl ?_
    refine s_const 1 3 8 rfl k_ic_1 ?_
    refine s_iadd 3 9 rfl ?_
    refine s_puti 1003 3 10 rfl k_fl58 rfl rfl rfl rfl rfl rfl rfl rfl rfl H (fun u7 H => ?_)
    refine s_iloadn 3 11 rfl rfl ?_
    refine s_bipush 40 3 12 rfl k_ib_40 ?_
    refine s_icmp_ne 3 13 136 rfl (by decide) H (fun _ H => ?_) (fun _ H => ?_)
    · refine s_aloadn 4 12 rfl rfl ?_
      refine s_iloadn 4 13 rfl rfl ?_
      refine s_const 1 4 14 rfl k_ic_1 ?_
      refine s_iadd 4 15 rfl ?_
      refine s_cvi1 (M' := MX4_single) (d' := dn) 5 0 rfl k_ml112 vvX4_single rfl rfl (by omega) rfl (hrc _ _ _ (k_sat_bind H)) (fun r9 u8 H => ?_)
      refine s_if_ne 5 1 148 rfl (by decide) H (fun _ H => ?_) (fun _ H => ?_)
      · refine s_aloadn 5 4 rfl rfl ?_
        refine s_iloadn 5 5 rfl rfl ?_
        refine s_bipush 45 5 6 rfl k_ib_45 ?_
        refine s_icmp_ne 5 7 159 rfl (by decide) H (fun _ H => ?_) (fun _ H => ?_)
        · refine s_iloadn 5 10 rfl rfl ?_
          refine s_ineg 5 11 rfl ?_
          exact k_via (t_Reader_single_J161 g rc dn hrc _  hr H) trivial
        · refine s_const (-1) 5 8 rfl k_ic_m1 ?_
          refine s_goto 5 9 161 rfl (by decide) ?_
          exact k_via (t_Reader_single_J161 g rc dn hrc _  hr H) trivial
      · refine s_const 0 5 2 rfl k_ic_0 ?_
        exact s_zret 5 3 rfl rfl k_z0 (hr _ _ (k_sat_some H))
    · refine s_aloadn 3 14 rfl rfl ?_
      refine s_iloadn 3 15 rfl rfl ?_
      refine s_const 1 4 0 rfl k_ic_1 ?_
      refine s_iadd 4 1 rfl ?_
      refine s_cvi1 (M' := MX4_either) (d' := dn + 6) 4 2 rfl k_ml105 vvX4_either rfl rfl (by omega) rfl (c_Reader_either g rc dn hrc _ (k_sat_bind H)) (fun r12 u11 H => ?_)
      refine s_if_eq 4 3 134 rfl (by decide) H (fun _ H => ?_) (fun _ H => ?_)
      · refine s_const 0 4 10 rfl k_ic_0 ?_
        exact s_zret 4 11 rfl rfl k_z0 (hr _ _ (k_sat_some H))
      · refine s_aloadn 4 4 rfl rfl ?_
        refine s_bipush 41 4 5 rfl k_ib_41 ?_
        refine s_cvi1 (M' := MX4_passes) (d' := 2) 4 6 rfl k_ml104 vvX4_passes rfl rfl (by omega) rfl (c_Reader_passes g _ (k_sat_bind H)) (fun r14 u13 H => ?_)
        refine s_if_eq 4 7 134 rfl (by decide) H (fun _ H => ?_) (fun _ H => ?_)
        · refine s_const 0 4 10 rfl k_ic_0 ?_
          exact s_zret 4 11 rfl rfl k_z0 (hr _ _ (k_sat_some H))
        · refine s_const 1 4 8 rfl k_ic_1 ?_
          refine s_goto 4 9 135 rfl (by decide) ?_
          exact s_zret 4 11 rfl rfl k_z1 (hr _ _ (k_sat_some H))
  · refine s_const 0 3 3 rfl k_ic_0 ?_
    exact s_zret 3 4 rfl rfl k_z0 (hr _ _ (k_sat_some H))
set_option maxRecDepth 100000 in
theorem c_Reader_single (g : k_G) (rc : Int32 → k_S → Option (Int32 × k_S)) (dn : Nat) (hrc : ∀ (a0 : Int32) (w : k_S) (PP : Int32 → k_S → Prop), k_sat (rc a0 w) PP → k_OK g dn MX4_single [.ref 10, .int a0] w (k_qi PP)) (p1 : Int32) {u : k_S} {QQ : Int32 → k_S → Prop} (H : k_sat (f_Reader_single rc p1 u) QQ) : k_OK g (dn + 7) MX4_single [.ref 10, .int p1] u (k_qi QQ) := by
  have hr : ∀ (r : Int32) (u' : k_S), QQ (r) u' → (k_qi QQ) (some (.int r)) u' := fun r u' h => ⟨_, rfl, h⟩
  refine k_OK.ofW pfX4_single (k_tab_of MX4_single_dec) rfl ?_
  refine s_aloadn 0 0 rfl rfl ?_
  refine s_getr 0 1 rfl k_fl57 rfl rfl rfl rfl ?_
  refine s_aloadn 0 2 rfl rfl ?_
  refine s_geti 1003 0 3 rfl k_fl58 rfl rfl rfl rfl rfl ?_
  refine s_cvi1 (M' := MX9_at) (d' := 1) 0 4 rfl k_ml110 vvX9_at rfl rfl (by omega) rfl (c_Tape_at g _ (k_sat_bind H)) (fun r2 u1 H => ?_)
  refine s_istoren 0 5 rfl rfl ?_
  refine s_iloadn 0 6 rfl rfl ?_
  refine s_csi1 (M' := MX4_isDigit) (d' := 1) 0 7 rfl k_ml113 vvX4_isDigit (by omega) rfl (c_Reader_isDigit g _ (k_sat_bind H)) (fun r4 u3 H => ?_)
  refine s_if_eq 0 8 25 rfl (by decide) H (fun _ H => ?_) (fun _ H => ?_)
  · refine s_iloadn 0 13 rfl rfl ?_
    refine s_bipush 116 0 14 rfl k_ib_116 ?_
    refine s_icmp_eq 0 15 49 rfl (by decide) H (fun _ H => ?_) (fun _ H => ?_)
    · exact k_via (t_Reader_single_J49 g rc dn hrc _  hr H) ⟨rfl, rfl, trivial⟩
    · refine s_iloadn 1 0 rfl rfl ?_
      refine s_bipush 112 1 1 rfl k_ib_112 ?_
      refine s_icmp_eq 1 2 49 rfl (by decide) H (fun _ H => ?_) (fun _ H => ?_)
      · exact k_via (t_Reader_single_J49 g rc dn hrc _  hr H) ⟨rfl, rfl, trivial⟩
      · refine s_iloadn 1 3 rfl rfl ?_
        refine s_bipush 107 1 4 rfl k_ib_107 ?_
        refine s_icmp_eq 1 5 49 rfl (by decide) H (fun _ H => ?_) (fun _ H => ?_)
        · exact k_via (t_Reader_single_J49 g rc dn hrc _  hr H) ⟨rfl, rfl, trivial⟩
        · refine s_iloadn 1 6 rfl rfl ?_
          refine s_bipush 122 1 7 rfl k_ib_122 ?_
          refine s_icmp_ne 1 8 67 rfl (by decide) H (fun _ H => ?_) (fun _ H => ?_)
          · refine s_iloadn 2 5 rfl rfl ?_
            refine s_bipush 40 2 6 rfl k_ib_40 ?_
            refine s_icmp_eq 2 7 87 rfl (by decide) H (fun _ H => ?_) (fun _ H => ?_)
            · exact k_via (t_Reader_single_J87 g rc dn hrc _ _  hr H) ⟨rfl, rfl, rfl, trivial⟩
            · refine s_iloadn 2 8 rfl rfl ?_
              refine s_bipush 33 2 9 rfl k_ib_33 ?_
              refine s_icmp_eq 2 10 87 rfl (by decide) H (fun _ H => ?_) (fun _ H => ?_)
              · exact k_via (t_Reader_single_J87 g rc dn hrc _ _  hr H) ⟨rfl, rfl, rfl, trivial⟩
              · refine s_iloadn 2 11 rfl rfl ?_
                refine s_bipush 45 2 12 rfl k_ib_45 ?_
                refine s_icmp_eq 2 13 87 rfl (by decide) H (fun _ H => ?_) (fun _ H => ?_)
                · exact k_via (t_Reader_single_J87 g rc dn hrc _ _  hr H) ⟨rfl, rfl, rfl, trivial⟩
                · refine s_const 0 2 14 rfl k_ic_0 ?_
                  exact s_zret 2 15 rfl rfl k_z0 (hr _ _ (k_sat_some H))
          · exact k_via (t_Reader_single_J49 g rc dn hrc _  hr H) ⟨rfl, rfl, trivial⟩
  · refine s_aloadn 0 9 rfl rfl ?_
    refine s_cvv0 (M' := MX4_number) (d' := 2) 0 10 rfl k_ml114 vvX4_number rfl rfl (by omega) rfl (c_Reader_number g (k_sat_bind H)) (fun _ u15 H => ?_)
    refine s_const 1 0 11 rfl k_ic_1 ?_
    exact s_zret 0 12 rfl rfl k_z1 (hr _ _ (k_sat_some H))
set_option maxRecDepth 100000 in
theorem c_Reader_single_rec (g : k_G) : ∀ (n : Nat) (a0 : Int32) (w : k_S) (PP : Int32 → k_S → Prop), k_sat (f_Reader_single_rec n a0 w) PP → k_OK g (d_Reader_single n) MX4_single [.ref 10, .int a0] w (k_qi PP)
  | 0, _, _, _, H => (k_sat_none H).elim
  | n + 1, a0, w, PP, H => c_Reader_single g (f_Reader_single_rec n) (d_Reader_single n) (c_Reader_single_rec g n) a0 (u := w) (QQ := PP) H
set_option maxRecDepth 100000 in
theorem c_Reader_line (g : k_G)   {u : k_S} {QQ : Int32 → k_S → Prop} (H : k_sat (f_Reader_line   u) QQ) : k_OK g 63 MX4_line [.ref 10] u (k_qi QQ) := by
  have hr : ∀ (r : Int32) (u' : k_S), QQ (r) u' → (k_qi QQ) (some (.int r)) u' := fun r u' h => ⟨_, rfl, h⟩
  refine k_OK.ofW pfX4_line (k_tab_of MX4_line_dec) rfl ?_
  refine s_aloadn 0 0 rfl rfl ?_
  refine s_const 0 0 1 rfl k_ic_0 ?_
  refine s_cvi1 (M' := MX4_either) 0 2 rfl k_ml105 vvX4_either rfl rfl (Nat.le_of_ble_eq_true rfl) rfl (c_Reader_either g (f_Reader_single_rec 8) (d_Reader_single 8) (c_Reader_single_rec g 8) _ (k_sat_bind H)) (fun r2 u1 H => ?_)
  refine s_if_ne 0 3 10 rfl (by decide) H (fun _ H => ?_) (fun _ H => ?_)
  · refine s_aloadn 0 6 rfl rfl ?_
    refine s_bipush 63 0 7 rfl k_ib_63 ?_
    refine s_cvi1 (M' := MX4_passes) 0 8 rfl k_ml104 vvX4_passes rfl rfl (Nat.le_of_ble_eq_true rfl) rfl (c_Reader_passes g _ (k_sat_bind H)) (fun r4 u3 H => ?_)
    refine s_if_eq 0 9 73 rfl (by decide) H (fun _ H => ?_) (fun _ H => ?_)
    · refine s_aloadn 2 7 rfl rfl ?_
      refine s_bipush (-59) 2 8 rfl k_ib_m59 ?_
      refine s_cvv1 (M' := MX4_add) 2 9 rfl k_ml106 vvX4_add rfl rfl (Nat.le_of_ble_eq_true rfl) rfl (c_Reader_add g _ (k_sat_bind H)) (fun _ u5 H => ?_)
      refine s_const 1 2 10 rfl k_ic_1 ?_
      exact s_zret 2 11 rfl rfl k_z1 (hr _ _ (k_sat_some H))
    · refine s_aloadn 0 10 rfl rfl ?_
      refine s_geti 1002 0 11 rfl k_fl59 rfl rfl rfl rfl rfl ?_
      refine k_topi H (fun t6 H => ?_)
      refine s_istoren 0 12 rfl rfl ?_
      refine s_aloadn 0 13 rfl rfl ?_
      refine s_sipush 10000 0 14 rfl k_is_10000 ?_
      refine s_cvv1 (M' := MX4_add) 0 15 rfl k_ml106 vvX4_add rfl rfl (Nat.le_of_ble_eq_true rfl) rfl (c_Reader_add g _ (k_sat_bind H)) (fun _ u7 H => ?_)
      refine s_aloadn 1 0 rfl rfl ?_
      refine s_const 0 1 1 rfl k_ic_0 ?_
      refine s_cvi1 (M' := MX4_either) 1 2 rfl k_ml105 vvX4_either rfl rfl (Nat.le_of_ble_eq_true rfl) rfl (c_Reader_either g (f_Reader_single_rec 8) (d_Reader_single 8) (c_Reader_single_rec g 8) _ (k_sat_bind H)) (fun r9 u8 H => ?_)
      refine s_if_ne 1 3 41 rfl (by decide) H (fun _ H => ?_) (fun _ H => ?_)
      · refine s_aloadn 1 6 rfl rfl ?_
        refine s_bipush (-59) 1 7 rfl k_ib_m59 ?_
        refine s_cvv1 (M' := MX4_add) 1 8 rfl k_ml106 vvX4_add rfl rfl (Nat.le_of_ble_eq_true rfl) rfl (c_Reader_add g _ (k_sat_bind H)) (fun _ u10 H => ?_)
        refine s_iloadn 1 9 rfl rfl ?_
        refine s_aloadn 1 10 rfl rfl ?_
        refine s_getr 1 11 rfl k_fl56 rfl rfl rfl rfl ?_
        refine s_alen 128 1 12 rfl rfl k_ln_128 ?_
        refine s_icmp_ge 1 13 70 rfl (by decide) H (fun _ H => ?_) (fun _ H => ?_)
        · refine s_goto 2 6 79 rfl (by decide) ?_
          refine s_const 1 2 10 rfl k_ic_1 ?_
          exact s_zret 2 11 rfl rfl k_z1 (hr _ _ (k_sat_some H))
        · refine s_aloadn 1 14 rfl rfl ?_
          refine s_getr 1 15 rfl k_fl56 rfl rfl rfl rfl ?_
          refine s_iloadn 2 0 rfl rfl ?_
          refine s_sipush 10000 2 1 rfl k_is_10000 ?_
          refine s_aloadn 2 2 rfl rfl ?_
          refine s_geti 1002 2 3 rfl k_fl59 rfl rfl rfl rfl rfl ?_
          refine s_iadd 2 4 rfl ?_
          refine s_iast 2 5 rfl rfl H (fun u11 H => ?_)
          refine s_goto 2 6 79 rfl (by decide) ?_
          refine s_const 1 2 10 rfl k_ic_1 ?_
          exact s_zret 2 11 rfl rfl k_z1 (hr _ _ (k_sat_some H))
      · refine s_const 0 1 4 rfl k_ic_0 ?_
        exact s_zret 1 5 rfl rfl k_z0 (hr _ _ (k_sat_some H))
  · refine s_const 0 0 4 rfl k_ic_0 ?_
    exact s_zret 0 5 rfl rfl k_z0 (hr _ _ (k_sat_some H))
set_option maxRecDepth 100000 in
theorem t_Reader_lines_B11 (g : k_G)  (v1 : Int32)  {u : k_S} {QQ : ((Int32) ⊕ (Int32 ⊕ Unit)) → k_S → Prop} {Q : Option Value → k_S → Prop} (hr : ∀ (r : Int32) (u' : k_S), QQ (.inr (.inl r)) u' → (Q) (some (.int r)) u') (hb : ∀ (x : (Int32)) (u' : k_S), QQ (.inl x) u' → k_W g 64 MX4_lines 11 [(0, .ref 10), (1, .int x)] [] u' Q) (he : ∀ (y : Unit) (u' : k_S), QQ (.inr (.inr y)) u' → k_W g 64 MX4_lines 41 [] [] u' Q) (H : k_sat (f_Reader_lines_B11  v1 u) QQ) : k_W g 64 MX4_lines 11 [(0, .ref 10), (1, .int v1)] [] u Q := by
  refine s_iloadn 0 7 rfl rfl ?_
  refine s_bipush 120 0 8 rfl k_ib_120 ?_
  refine s_icmp_ge 0 9 41 rfl (by decide) H (fun _ H => ?_) (fun _ H => ?_)
  · exact k_via (he _ _ (k_sat_some H)) trivial
  · refine s_aloadn 0 10 rfl rfl ?_
    refine s_bipush 59 0 11 rfl k_ib_59 ?_
    refine s_cvi1 (M' := MX4_passes) 0 12 rfl k_ml104 vvX4_passes rfl rfl (Nat.le_of_ble_eq_true rfl) rfl (c_Reader_passes g _ (k_sat_bind H)) (fun r4 u3 H => ?_)
    refine s_if_eq 0 13 41 rfl (by decide) H (fun _ H => ?_) (fun _ H => ?_)
    · exact k_via (he _ _ (k_sat_some H)) trivial
    · refine s_aloadn 0 14 rfl rfl ?_
      refine s_cvi0 (M' := MX4_line) 0 15 rfl k_ml103 vvX4_line rfl rfl (Nat.le_of_ble_eq_true rfl) rfl (c_Reader_line g (k_sat_bind H)) (fun r6 u5 H => ?_)
      refine s_if_ne 1 0 35 rfl (by decide) H (fun _ H => ?_) (fun _ H => ?_)
      · refine s_iinc 1 3 rfl rfl rfl ?_
        refine s_goto 1 4 11 rfl (by decide) ?_
        exact k_via (hb _ _ (k_sat_some H)) ⟨rfl, rfl, trivial⟩
      · refine s_const 0 1 1 rfl k_ic_0 ?_
        exact s_zret 1 2 rfl rfl k_z0 (hr _ _ (k_sat_some H))
set_option maxRecDepth 100000 in
theorem l_Reader_lines_B11 (g : k_G)   {Q : Option Value → k_S → Prop} {K : (Int32 ⊕ Unit) → k_S → Prop} (hr : ∀ (r : Int32) (u' : k_S), K (.inl r) u' → Q (some (.int r)) u') (he : ∀ (y : Unit) (u' : k_S), K (.inr y) u' → k_W g 64 MX4_lines 41 [] [] u' Q) : ∀ (n : Nat) (x : (Int32)) (u : k_S), k_sat (k_itr (fun (x : (Int32)) u => f_Reader_lines_B11  x u) n x u) K → k_W g 64 MX4_lines 11 [(0, .ref 10), (1, .int x)] [] u Q :=
  k_loop (P := fun (x : (Int32)) u => k_W g 64 MX4_lines 11 [(0, .ref 10), (1, .int x)] [] u Q) (fun (x : (Int32)) u H => t_Reader_lines_B11 g  x  (fun r u' h => hr r u' h) (fun x u' h => h) (fun y u' h => he y u' h) H)
set_option maxRecDepth 100000 in
theorem c_Reader_lines (g : k_G)   {u : k_S} {QQ : Int32 → k_S → Prop} (H : k_sat (f_Reader_lines   u) QQ) : k_OK g 64 MX4_lines [.ref 10] u (k_qi QQ) := by
  have hr : ∀ (r : Int32) (u' : k_S), QQ (r) u' → (k_qi QQ) (some (.int r)) u' := fun r u' h => ⟨_, rfl, h⟩
  refine k_OK.ofW pfX4_lines (k_tab_of MX4_lines_dec) rfl ?_
  refine s_aloadn 0 0 rfl rfl ?_
  refine s_cvi0 (M' := MX4_line) 0 1 rfl k_ml103 vvX4_line rfl rfl (Nat.le_of_ble_eq_true rfl) rfl (c_Reader_line g (k_sat_bind H)) (fun r2 u1 H => ?_)
  refine s_if_ne 0 2 9 rfl (by decide) H (fun _ H => ?_) (fun _ H => ?_)
  · refine s_const 0 0 5 rfl k_ic_0 ?_
    refine s_istoren 0 6 rfl rfl ?_
    refine k_via (l_Reader_lines_B11 g   ?_ ?_ _ _ _ (k_sat_bind H)) ⟨rfl, rfl, trivial⟩
    · exact fun r u' h => hr r u' (k_sat_some h)
    · intro y8 u7 H
      replace H := k_sat_csr H
      refine s_const 1 1 5 rfl k_ic_1 ?_
      exact s_zret 1 6 rfl rfl k_z1 (hr _ _ (k_sat_some H))
  · refine s_const 0 0 3 rfl k_ic_0 ?_
    exact s_zret 0 4 rfl rfl k_z0 (hr _ _ (k_sat_some H))
set_option maxRecDepth 100000 in
theorem c_Reader_readTape (g : k_G)   {u : k_S} {QQ : Int32 → k_S → Prop} (H : k_sat (f_Reader_readTape   u) QQ) : k_OK g 65 MX4_readTape [.ref 10] u (k_qi QQ) := by
  have hr : ∀ (r : Int32) (u' : k_S), QQ (r) u' → (k_qi QQ) (some (.int r)) u' := fun r u' h => ⟨_, rfl, h⟩
  refine k_OK.ofW pfX4_readTape (k_tab_of MX4_readTape_dec) rfl ?_
  refine s_aloadn 0 0 rfl rfl ?_
  refine s_const 0 0 1 rfl k_ic_0 ?_
  refine s_puti 1003 0 2 rfl k_fl58 rfl rfl rfl rfl rfl rfl rfl rfl rfl H (fun u1 H => ?_)
  refine s_aloadn 0 3 rfl rfl ?_
  refine s_const 0 0 4 rfl k_ic_0 ?_
  refine s_puti 1002 0 5 rfl k_fl59 rfl rfl rfl rfl rfl rfl rfl rfl rfl H (fun u2 H => ?_)
  refine s_aloadn 0 6 rfl rfl ?_
  refine s_cvi0 (M' := MX4_lines) 0 7 rfl k_ml102 vvX4_lines rfl rfl (Nat.le_of_ble_eq_true rfl) rfl (c_Reader_lines g (k_sat_bind H)) (fun r4 u3 H => ?_)
  refine s_if_eq 0 8 35 rfl (by decide) H (fun _ H => ?_) (fun _ H => ?_)
  · refine s_aloadn 1 1 rfl rfl ?_
    refine s_geti 1003 1 2 rfl k_fl58 rfl rfl rfl rfl rfl ?_
    exact s_iret 1 3 rfl rfl (hr _ _ (k_sat_some H))
  · refine s_aloadn 0 9 rfl rfl ?_
    refine s_geti 1003 0 10 rfl k_fl58 rfl rfl rfl rfl rfl ?_
    refine s_aloadn 0 11 rfl rfl ?_
    refine s_getr 0 12 rfl k_fl57 rfl rfl rfl rfl ?_
    refine s_geti 101 0 13 rfl k_fl60 rfl rfl rfl rfl rfl ?_
    refine s_icmp_ne 0 14 35 rfl (by decide) H (fun _ H => ?_) (fun _ H => ?_)
    · refine s_aloadn 1 1 rfl rfl ?_
      refine s_geti 1003 1 2 rfl k_fl58 rfl rfl rfl rfl rfl ?_
      exact s_iret 1 3 rfl rfl (hr _ _ (k_sat_some H))
    · refine s_const (-1) 0 15 rfl k_ic_m1 ?_
      refine s_goto 1 0 39 rfl (by decide) ?_
      exact s_iret 1 3 rfl rfl (hr _ _ (k_sat_some H))
set_option maxRecDepth 100000 in
theorem c_Reader_stepAt (g : k_G)  (p1 : Int32) {u : k_S} {QQ : Int32 → k_S → Prop} (H : k_sat (f_Reader_stepAt  p1 u) QQ) : k_OK g 1 MX4_stepAt [.ref 10, .int p1] u (k_qi QQ) := by
  have hr : ∀ (r : Int32) (u' : k_S), QQ (r) u' → (k_qi QQ) (some (.int r)) u' := fun r u' h => ⟨_, rfl, h⟩
  refine k_OK.ofW pfX4_stepAt (k_tab_of MX4_stepAt_dec) rfl ?_
  refine s_iloadn 0 0 rfl rfl ?_
  refine s_if_lt 0 1 22 rfl (by decide) H (fun _ H => ?_) (fun _ H => ?_)
  · refine s_const 0 0 12 rfl k_ic_0 ?_
    exact s_iret 0 13 rfl rfl (hr _ _ (k_sat_some H))
  · refine s_iloadn 0 2 rfl rfl ?_
    refine s_aloadn 0 3 rfl rfl ?_
    refine s_getr 0 4 rfl k_fl56 rfl rfl rfl rfl ?_
    refine s_alen 128 0 5 rfl rfl k_ln_128 ?_
    refine s_icmp_ge 0 6 22 rfl (by decide) H (fun _ H => ?_) (fun _ H => ?_)
    · refine s_const 0 0 12 rfl k_ic_0 ?_
      exact s_iret 0 13 rfl rfl (hr _ _ (k_sat_some H))
    · refine s_aloadn 0 7 rfl rfl ?_
      refine s_getr 0 8 rfl k_fl56 rfl rfl rfl rfl ?_
      refine s_iloadn 0 9 rfl rfl ?_
      refine s_iald 0 10 rfl rfl H (fun _ H => ?_)
      refine s_goto 0 11 23 rfl (by decide) ?_
      exact s_iret 0 13 rfl rfl (hr _ _ (k_sat_some H))
set_option maxRecDepth 100000 in
theorem t_Law_takeFromTape_B28 (g : k_G)  (v2 : Int32)  {u : k_S} {QQ : ((Int32) ⊕ Unit) → k_S → Prop} {Q : Option Value → k_S → Prop} (hb : ∀ (x : (Int32)) (u' : k_S), QQ (.inl x) u' → k_W g 66 MX3_takeFromTape 28 [(0, .ref 7), (2, .int x)] [] u' Q) (he : ∀ (y : Unit) (u' : k_S), QQ (.inr y) u' → k_W g 66 MX3_takeFromTape 65 [] [] u' Q) (H : k_sat (f_Law_takeFromTape_B28  v2 u) QQ) : k_W g 66 MX3_takeFromTape 28 [(0, .ref 7), (2, .int v2)] [] u Q := by
  refine s_iloadn 1 0 rfl rfl ?_
  refine s_aloadn 1 1 rfl rfl ?_
  refine s_geti 703 1 2 rfl k_fl53 rfl rfl rfl rfl rfl ?_
  refine s_icmp_ge 1 3 65 rfl (by decide) H (fun _ H => ?_) (fun _ H => ?_)
  · exact k_via (he _ _ (k_sat_some H)) trivial
  · refine s_iloadn 1 4 rfl rfl ?_
    refine s_aloadn 1 5 rfl rfl ?_
    refine s_getr 1 6 rfl k_fl49 rfl rfl rfl rfl ?_
    refine s_alen 128 1 7 rfl rfl k_ln_128 ?_
    refine s_icmp_ge 1 8 65 rfl (by decide) H (fun _ H => ?_) (fun _ H => ?_)
    · exact k_via (he _ _ (k_sat_some H)) trivial
    · refine s_aloadn 1 9 rfl rfl ?_
      refine s_getr 1 10 rfl k_fl49 rfl rfl rfl rfl ?_
      refine s_iloadn 1 11 rfl rfl ?_
      refine s_aloadn 1 12 rfl rfl ?_
      refine s_getr 1 13 rfl k_fl51 rfl rfl rfl rfl ?_
      refine s_iloadn 1 14 rfl rfl ?_
      refine s_cvi1 (M' := MX4_stepAt) 1 15 rfl k_ml96 vvX4_stepAt rfl rfl (Nat.le_of_ble_eq_true rfl) rfl (c_Reader_stepAt g _ (k_sat_bind H)) (fun r5 u4 H => ?_)
      refine s_iast 2 0 rfl rfl H (fun u6 H => ?_)
      refine s_iinc 2 1 rfl rfl rfl ?_
      refine s_goto 2 2 28 rfl (by decide) ?_
      exact k_via (hb _ _ (k_sat_some H)) ⟨rfl, rfl, trivial⟩
set_option maxRecDepth 100000 in
theorem l_Law_takeFromTape_B28 (g : k_G)   {Q : Option Value → k_S → Prop} {K : Unit → k_S → Prop} (he : ∀ (y : Unit) (u' : k_S), K (y) u' → k_W g 66 MX3_takeFromTape 65 [] [] u' Q) : ∀ (n : Nat) (x : (Int32)) (u : k_S), k_sat (k_itr (fun (x : (Int32)) u => f_Law_takeFromTape_B28  x u) n x u) K → k_W g 66 MX3_takeFromTape 28 [(0, .ref 7), (2, .int x)] [] u Q :=
  k_loop (P := fun (x : (Int32)) u => k_W g 66 MX3_takeFromTape 28 [(0, .ref 7), (2, .int x)] [] u Q) (fun (x : (Int32)) u H => t_Law_takeFromTape_B28 g  x  (fun x u' h => h) (fun y u' h => he y u' h) H)
set_option maxRecDepth 100000 in
theorem c_Law_takeFromTape (g : k_G)   {u : k_S} {QQ : Int32 → k_S → Prop} (H : k_sat (f_Law_takeFromTape   u) QQ) : k_OK g 66 MX3_takeFromTape [.ref 7] u (k_qi QQ) := by
  have hr : ∀ (r : Int32) (u' : k_S), QQ (r) u' → (k_qi QQ) (some (.int r)) u' := fun r u' h => ⟨_, rfl, h⟩
  refine k_OK.ofW pfX3_takeFromTape (k_tab_of MX3_takeFromTape_dec) rfl ?_
  refine s_aloadn 0 0 rfl rfl ?_
  refine s_getr 0 1 rfl k_fl51 rfl rfl rfl rfl ?_
  refine s_cvi0 (M' := MX4_readTape) 0 2 rfl k_ml95 vvX4_readTape rfl rfl (Nat.le_of_ble_eq_true rfl) rfl (c_Reader_readTape g (k_sat_bind H)) (fun r2 u1 H => ?_)
  refine s_istoren 0 3 rfl rfl ?_
  refine s_iloadn 0 4 rfl rfl ?_
  refine s_const (-1) 0 5 rfl k_ic_m1 ?_
  refine s_icmp_eq 0 6 15 rfl (by decide) H (fun _ H => ?_) (fun _ H => ?_)
  · refine s_aloadn 0 9 rfl rfl ?_
    refine s_aloadn 0 10 rfl rfl ?_
    refine s_getr 0 11 rfl k_fl51 rfl rfl rfl rfl ?_
    refine s_geti 1002 0 12 rfl k_fl52 rfl rfl rfl rfl rfl ?_
    refine s_puti 703 0 13 rfl k_fl53 rfl rfl rfl rfl rfl rfl rfl rfl rfl H (fun u3 H => ?_)
    refine s_const 0 0 14 rfl k_ic_0 ?_
    refine s_istoren 0 15 rfl rfl ?_
    refine k_via (l_Law_takeFromTape_B28 g   ?_ _ _ _ (k_sat_bind H)) ⟨rfl, rfl, trivial⟩
    · intro y8 u7 H
      refine s_const (-1) 2 3 rfl k_ic_m1 ?_
      exact s_iret 2 4 rfl rfl (hr _ _ (k_sat_some H))
  · refine s_iloadn 0 7 rfl rfl ?_
    exact s_iret 0 8 rfl rfl (hr _ _ (k_sat_some H))
set_option maxRecDepth 100000 in
theorem c_W_law (g : k_G)   {u : k_S} {QQ : Int32 → k_S → Prop} (H : k_sat (f_W_law   u) QQ) : k_OK g 67 MX11_law [.ref 0] u (k_qi QQ) := by
  have hr : ∀ (r : Int32) (u' : k_S), QQ (r) u' → (k_qi QQ) (some (.int r)) u' := fun r u' h => ⟨_, rfl, h⟩
  refine k_OK.ofW pfX11_law (k_tab_of MX11_law_dec) rfl ?_
  refine s_aloadn 0 0 rfl rfl ?_
  refine s_getr 0 1 rfl k_fl2 rfl rfl rfl rfl ?_
  refine s_cvi0 (M' := MX3_takeFromTape) 0 2 rfl k_ml13 vvX3_takeFromTape rfl rfl (Nat.le_of_ble_eq_true rfl) rfl (c_Law_takeFromTape g (k_sat_bind H)) (fun r2 u1 H => ?_)
  refine s_istoren 0 3 rfl rfl ?_
  refine s_aloadn 0 4 rfl rfl ?_
  refine s_getr 0 5 rfl k_fl0 rfl rfl rfl rfl ?_
  refine s_const 0 0 6 rfl k_ic_0 ?_
  refine s_puti 101 0 7 rfl k_fl11 rfl rfl rfl rfl rfl rfl rfl rfl rfl H (fun u3 H => ?_)
  refine s_iloadn 0 8 rfl rfl ?_
  refine s_const (-1) 0 9 rfl k_ic_m1 ?_
  refine s_icmp_ne 0 10 25 rfl (by decide) H (fun _ H => ?_) (fun _ H => ?_)
  · refine s_bipush (-100) 0 13 rfl k_ib_m100 ?_
    refine s_iloadn 0 14 rfl rfl ?_
    refine s_isub 0 15 rfl ?_
    exact s_iret 1 0 rfl rfl (hr _ _ (k_sat_some H))
  · refine s_const 1 0 11 rfl k_ic_1 ?_
    refine s_goto 0 12 29 rfl (by decide) ?_
    exact s_iret 1 0 rfl rfl (hr _ _ (k_sat_some H))
set_option maxRecDepth 100000 in
theorem c_R_look (g : k_G)   {u : k_S} {QQ : Int32 → k_S → Prop} (H : k_sat (f_R_look   u) QQ) : k_OK g 1 MX12_look [.ref 42] u (k_qi QQ) := by
  have hr : ∀ (r : Int32) (u' : k_S), QQ (r) u' → (k_qi QQ) (some (.int r)) u' := fun r u' h => ⟨_, rfl, h⟩
  refine k_OK.ofW pfX12_look (k_tab_of MX12_look_dec) rfl ?_
  refine s_aloadn 0 0 rfl rfl ?_
  refine s_geti 4212 0 1 rfl k_fl123 rfl rfl rfl rfl rfl ?_
  refine s_aloadn 0 2 rfl rfl ?_
  refine s_geti 4202 0 3 rfl k_fl121 rfl rfl rfl rfl rfl ?_
  refine s_icmp_ge 0 4 23 rfl (by decide) H (fun _ H => ?_) (fun _ H => ?_)
  · refine s_const (-1) 0 11 rfl k_ic_m1 ?_
    exact s_iret 0 12 rfl rfl (hr _ _ (k_sat_some H))
  · refine s_aloadn 0 5 rfl rfl ?_
    refine s_getr 0 6 rfl k_fl87 rfl rfl rfl rfl ?_
    refine s_aloadn 0 7 rfl rfl ?_
    refine s_geti 4212 0 8 rfl k_fl123 rfl rfl rfl rfl rfl ?_
    refine s_bald 0 9 rfl rfl H (fun _ H => ?_)
    refine s_goto 0 10 24 rfl (by decide) ?_
    exact s_iret 0 12 rfl rfl (hr _ _ (k_sat_some H))
set_option maxRecDepth 100000 in
theorem c_R_addStep (g : k_G)  (p1 : Int32) (p2 : Int32) {u : k_S} {QQ : Unit → k_S → Prop} (H : k_sat (f_R_addStep  p1 p2 u) QQ) : k_OK g 1 MX12_addStep [.ref 42, .int p1, .int p2] u (k_qv QQ) := by
  have hr : ∀ (r : Unit) (u' : k_S), QQ (r) u' → (k_qv QQ) (none) u' := fun r u' h => ⟨rfl, h⟩
  refine k_OK.ofW pfX12_addStep (k_tab_of MX12_addStep_dec) rfl ?_
  refine s_aloadn 0 0 rfl rfl ?_
  refine s_getr 0 1 rfl k_fl94 rfl rfl rfl rfl ?_
  refine s_sipush 130 0 2 rfl k_is_130 ?_
  refine s_aloadn 0 3 rfl rfl ?_
  refine s_geti 4215 0 4 rfl k_fl125 rfl rfl rfl rfl rfl ?_
  refine s_iadd 0 5 rfl ?_
  refine s_iloadn 0 6 rfl rfl ?_
  refine s_i2b 0 7 rfl ?_
  refine s_bast 0 8 rfl rfl H (fun u1 H => ?_)
  refine s_aloadn 0 9 rfl rfl ?_
  refine s_getr 0 10 rfl k_fl95 rfl rfl rfl rfl ?_
  refine s_sipush 130 0 11 rfl k_is_130 ?_
  refine s_aloadn 0 12 rfl rfl ?_
  refine s_geti 4215 0 13 rfl k_fl125 rfl rfl rfl rfl rfl ?_
  refine s_iadd 0 14 rfl ?_
  refine s_iloadn 0 15 rfl rfl ?_
  refine s_iast 1 0 rfl rfl H (fun u2 H => ?_)
  refine s_aloadn 1 1 rfl rfl ?_
  refine s_dupr 1 2 rfl ?_
  refine s_geti 4215 1 3 rfl k_fl125 rfl rfl rfl rfl rfl ?_
  refine s_const 1 1 4 rfl k_ic_1 ?_
  refine s_iadd 1 5 rfl ?_
  refine s_puti 4215 1 6 rfl k_fl125 rfl rfl rfl rfl rfl rfl rfl rfl rfl H (fun u3 H => ?_)
  exact s_ret 1 7 rfl rfl (hr _ _ (k_sat_some H))
set_option maxRecDepth 100000 in
theorem t_R_product_J38 (g : k_G) (rc : k_S → Option (Unit × k_S)) (dn : Nat) (hrc : ∀  (w : k_S) (PP : Unit → k_S → Prop), k_sat (rc  w) PP → k_OK g dn MX12_operand [.ref 42] w (k_qv PP))   {u : k_S} {QQ : (Unit ⊕ Unit) → k_S → Prop} {Q : Option Value → k_S → Prop} (hb : ∀ (x : Unit) (u' : k_S), QQ (.inl x) u' → k_W g (dn + 2) MX12_product 4 [(0, .ref 42)] [] u' Q) (he : ∀ (y : Unit) (u' : k_S), QQ (.inr y) u' → k_W g (dn + 2) MX12_product 66 [] [] u' Q) (H : k_sat (f_R_product_J38 rc  u) QQ) : k_W g (dn + 2) MX12_product 38 [(0, .ref 42)] [] u Q := by
  refine s_aloadn 1 1 rfl rfl ?_
  refine s_cvi0 (M' := MX12_look) (d' := 1) 1 2 rfl k_ml233 vvX12_look rfl rfl (by omega) rfl (c_R_look g (k_sat_bind H)) (fun r5 u4 H => ?_)
  refine s_istoren 1 3 rfl rfl ?_
  refine s_aloadn 1 4 rfl rfl ?_
  refine s_dupr 1 5 rfl ?_
  refine s_geti 4212 1 6 rfl k_fl123 rfl rfl rfl rfl rfl ?_
  refine s_const 1 1 7 rfl k_ic_1 ?_
  refine s_iadd 1 8 rfl ?_
  refine s_puti 4212 1 9 rfl k_fl123 rfl rfl rfl rfl rfl rfl rfl rfl rfl H (fun u6 H => ?_)
  refine s_aloadn 1 10 rfl rfl ?_
  refine s_cvv0 (M' := MX12_operand) (d' := dn) 1 11 rfl k_ml237 vvX12_operand rfl rfl (by omega) rfl (hrc _ _ (k_sat_bind H)) (fun _ u7 H => ?_)
  refine s_aloadn 1 12 rfl rfl ?_
  refine s_iloadn 1 13 rfl rfl ?_
  refine s_const 0 1 14 rfl k_ic_0 ?_
  refine s_cvv2 (M' := MX12_addStep) (d' := 1) 1 15 rfl k_ml234 vvX12_addStep rfl rfl (by omega) rfl (c_R_addStep g _ _ (k_sat_bind H)) (fun _ u8 H => ?_)
  refine s_goto 2 0 4 rfl (by decide) ?_
  exact k_via (hb _ _ (k_sat_some H)) ⟨rfl, trivial⟩
set_option maxRecDepth 100000 in
theorem t_R_product_B4 (g : k_G) (rc : k_S → Option (Unit × k_S)) (dn : Nat) (hrc : ∀  (w : k_S) (PP : Unit → k_S → Prop), k_sat (rc  w) PP → k_OK g dn MX12_operand [.ref 42] w (k_qv PP))   {u : k_S} {QQ : (Unit ⊕ Unit) → k_S → Prop} {Q : Option Value → k_S → Prop} (hb : ∀ (x : Unit) (u' : k_S), QQ (.inl x) u' → k_W g (dn + 2) MX12_product 4 [(0, .ref 42)] [] u' Q) (he : ∀ (y : Unit) (u' : k_S), QQ (.inr y) u' → k_W g (dn + 2) MX12_product 66 [] [] u' Q) (H : k_sat (f_R_product_B4 rc  u) QQ) : k_W g (dn + 2) MX12_product 4 [(0, .ref 42)] [] u Q := by
  refine s_aloadn 0 2 rfl rfl ?_
  refine s_geti 4213 0 3 rfl k_fl124 rfl rfl rfl rfl rfl ?_
  refine s_if_ge 0 4 66 rfl (by decide) H (fun _ H => ?_) (fun _ H => ?_)
  · exact k_via (he _ _ (k_sat_some H)) trivial
  · refine s_aloadn 0 5 rfl rfl ?_
    refine s_cvi0 (M' := MX12_look) (d' := 1) 0 6 rfl k_ml233 vvX12_look rfl rfl (by omega) rfl (c_R_look g (k_sat_bind H)) (fun r3 u2 H => ?_)
    refine s_bipush 42 0 7 rfl k_ib_42 ?_
    refine s_icmp_eq 0 8 38 rfl (by decide) H (fun _ H => ?_) (fun _ H => ?_)
    · exact k_via (t_R_product_J38 g rc dn hrc  hb he H) ⟨rfl, trivial⟩
    · refine s_aloadn 0 9 rfl rfl ?_
      refine s_cvi0 (M' := MX12_look) (d' := 1) 0 10 rfl k_ml233 vvX12_look rfl rfl (by omega) rfl (c_R_look g (k_sat_bind H)) (fun r10 u9 H => ?_)
      refine s_bipush 47 0 11 rfl k_ib_47 ?_
      refine s_icmp_eq 0 12 38 rfl (by decide) H (fun _ H => ?_) (fun _ H => ?_)
      · exact k_via (t_R_product_J38 g rc dn hrc  hb he H) ⟨rfl, trivial⟩
      · refine s_aloadn 0 13 rfl rfl ?_
        refine s_cvi0 (M' := MX12_look) (d' := 1) 0 14 rfl k_ml233 vvX12_look rfl rfl (by omega) rfl (c_R_look g (k_sat_bind H)) (fun r12 u11 H => ?_)
        refine s_bipush 37 0 15 rfl k_ib_37 ?_
        refine s_icmp_ne 1 0 66 rfl (by decide) H (fun _ H => ?_) (fun _ H => ?_)
        · exact k_via (he _ _ (k_sat_some H)) trivial
        · exact k_via (t_R_product_J38 g rc dn hrc  hb he H) ⟨rfl, trivial⟩
set_option maxRecDepth 100000 in
theorem l_R_product_B4 (g : k_G) (rc : k_S → Option (Unit × k_S)) (dn : Nat) (hrc : ∀  (w : k_S) (PP : Unit → k_S → Prop), k_sat (rc  w) PP → k_OK g dn MX12_operand [.ref 42] w (k_qv PP))  {Q : Option Value → k_S → Prop} {K : Unit → k_S → Prop} (he : ∀ (y : Unit) (u' : k_S), K (y) u' → k_W g (dn + 2) MX12_product 66 [] [] u' Q) : ∀ (n : Nat) (x : Unit) (u : k_S), k_sat (k_itr (fun (x : Unit) u => f_R_product_B4 rc  u) n x u) K → k_W g (dn + 2) MX12_product 4 [(0, .ref 42)] [] u Q :=
  k_loop (P := fun (x : Unit) u => k_W g (dn + 2) MX12_product 4 [(0, .ref 42)] [] u Q) (fun (x : Unit) u H => t_R_product_B4 g rc dn hrc   (fun x u' h => h) (fun y u' h => he y u' h) H)
set_option maxRecDepth 100000 in
theorem c_R_product (g : k_G) (rc : k_S → Option (Unit × k_S)) (dn : Nat) (hrc : ∀  (w : k_S) (PP : Unit → k_S → Prop), k_sat (rc  w) PP → k_OK g dn MX12_operand [.ref 42] w (k_qv PP))  {u : k_S} {QQ : Unit → k_S → Prop} (H : k_sat (f_R_product rc  u) QQ) : k_OK g (dn + 2) MX12_product [.ref 42] u (k_qv QQ) := by
  have hr : ∀ (r : Unit) (u' : k_S), QQ (r) u' → (k_qv QQ) (none) u' := fun r u' h => ⟨rfl, h⟩
  refine k_OK.ofW pfX12_product (k_tab_of MX12_product_dec) rfl ?_
  refine s_aloadn 0 0 rfl rfl ?_
  refine s_cvv0 (M' := MX12_operand) (d' := dn) 0 1 rfl k_ml237 vvX12_operand rfl rfl (by omega) rfl (hrc _ _ (k_sat_bind H)) (fun _ u1 H => ?_)
  refine k_via (l_R_product_B4 g rc dn hrc  ?_ _ _ _ (k_sat_bind H)) ⟨rfl, trivial⟩
  · intro y14 u13 H
    exact s_ret 2 1 rfl rfl (hr _ _ (k_sat_some H))
set_option maxRecDepth 100000 in
theorem t_R_sum_J29 (g : k_G) (rc : k_S → Option (Unit × k_S)) (dn : Nat) (hrc : ∀  (w : k_S) (PP : Unit → k_S → Prop), k_sat (rc  w) PP → k_OK g dn MX12_operand [.ref 42] w (k_qv PP))   {u : k_S} {QQ : (Unit ⊕ Unit) → k_S → Prop} {Q : Option Value → k_S → Prop} (hb : ∀ (x : Unit) (u' : k_S), QQ (.inl x) u' → k_W g (dn + 3) MX12_sum 4 [(0, .ref 42)] [] u' Q) (he : ∀ (y : Unit) (u' : k_S), QQ (.inr y) u' → k_W g (dn + 3) MX12_sum 57 [] [] u' Q) (H : k_sat (f_R_sum_J29 rc  u) QQ) : k_W g (dn + 3) MX12_sum 29 [(0, .ref 42)] [] u Q := by
  refine s_aloadn 0 13 rfl rfl ?_
  refine s_cvi0 (M' := MX12_look) (d' := 1) 0 14 rfl k_ml233 vvX12_look rfl rfl (by omega) rfl (c_R_look g (k_sat_bind H)) (fun r5 u4 H => ?_)
  refine s_istoren 0 15 rfl rfl ?_
  refine s_aloadn 1 0 rfl rfl ?_
  refine s_dupr 1 1 rfl ?_
  refine s_geti 4212 1 2 rfl k_fl123 rfl rfl rfl rfl rfl ?_
  refine s_const 1 1 3 rfl k_ic_1 ?_
  refine s_iadd 1 4 rfl ?_
  refine s_puti 4212 1 5 rfl k_fl123 rfl rfl rfl rfl rfl rfl rfl rfl rfl H (fun u6 H => ?_)
  refine s_aloadn 1 6 rfl rfl ?_
  refine s_cvv0 (M' := MX12_product) (d' := dn + 2) 1 7 rfl k_ml240 vvX12_product rfl rfl (by omega) rfl (c_R_product g rc dn hrc (k_sat_bind H)) (fun _ u7 H => ?_)
  refine s_aloadn 1 8 rfl rfl ?_
  refine s_iloadn 1 9 rfl rfl ?_
  refine s_const 0 1 10 rfl k_ic_0 ?_
  refine s_cvv2 (M' := MX12_addStep) (d' := 1) 1 11 rfl k_ml234 vvX12_addStep rfl rfl (by omega) rfl (c_R_addStep g _ _ (k_sat_bind H)) (fun _ u8 H => ?_)
  refine s_goto 1 12 4 rfl (by decide) ?_
  exact k_via (hb _ _ (k_sat_some H)) ⟨rfl, trivial⟩
set_option maxRecDepth 100000 in
theorem t_R_sum_B4 (g : k_G) (rc : k_S → Option (Unit × k_S)) (dn : Nat) (hrc : ∀  (w : k_S) (PP : Unit → k_S → Prop), k_sat (rc  w) PP → k_OK g dn MX12_operand [.ref 42] w (k_qv PP))   {u : k_S} {QQ : (Unit ⊕ Unit) → k_S → Prop} {Q : Option Value → k_S → Prop} (hb : ∀ (x : Unit) (u' : k_S), QQ (.inl x) u' → k_W g (dn + 3) MX12_sum 4 [(0, .ref 42)] [] u' Q) (he : ∀ (y : Unit) (u' : k_S), QQ (.inr y) u' → k_W g (dn + 3) MX12_sum 57 [] [] u' Q) (H : k_sat (f_R_sum_B4 rc  u) QQ) : k_W g (dn + 3) MX12_sum 4 [(0, .ref 42)] [] u Q := by
  refine s_aloadn 0 2 rfl rfl ?_
  refine s_geti 4213 0 3 rfl k_fl124 rfl rfl rfl rfl rfl ?_
  refine s_if_ge 0 4 57 rfl (by decide) H (fun _ H => ?_) (fun _ H => ?_)
  · exact k_via (he _ _ (k_sat_some H)) trivial
  · refine s_aloadn 0 5 rfl rfl ?_
    refine s_cvi0 (M' := MX12_look) (d' := 1) 0 6 rfl k_ml233 vvX12_look rfl rfl (by omega) rfl (c_R_look g (k_sat_bind H)) (fun r3 u2 H => ?_)
    refine s_bipush 43 0 7 rfl k_ib_43 ?_
    refine s_icmp_eq 0 8 29 rfl (by decide) H (fun _ H => ?_) (fun _ H => ?_)
    · exact k_via (t_R_sum_J29 g rc dn hrc  hb he H) ⟨rfl, trivial⟩
    · refine s_aloadn 0 9 rfl rfl ?_
      refine s_cvi0 (M' := MX12_look) (d' := 1) 0 10 rfl k_ml233 vvX12_look rfl rfl (by omega) rfl (c_R_look g (k_sat_bind H)) (fun r10 u9 H => ?_)
      refine s_bipush 45 0 11 rfl k_ib_45 ?_
      refine s_icmp_ne 0 12 57 rfl (by decide) H (fun _ H => ?_) (fun _ H => ?_)
      · exact k_via (he _ _ (k_sat_some H)) trivial
      · exact k_via (t_R_sum_J29 g rc dn hrc  hb he H) ⟨rfl, trivial⟩
set_option maxRecDepth 100000 in
theorem l_R_sum_B4 (g : k_G) (rc : k_S → Option (Unit × k_S)) (dn : Nat) (hrc : ∀  (w : k_S) (PP : Unit → k_S → Prop), k_sat (rc  w) PP → k_OK g dn MX12_operand [.ref 42] w (k_qv PP))  {Q : Option Value → k_S → Prop} {K : Unit → k_S → Prop} (he : ∀ (y : Unit) (u' : k_S), K (y) u' → k_W g (dn + 3) MX12_sum 57 [] [] u' Q) : ∀ (n : Nat) (x : Unit) (u : k_S), k_sat (k_itr (fun (x : Unit) u => f_R_sum_B4 rc  u) n x u) K → k_W g (dn + 3) MX12_sum 4 [(0, .ref 42)] [] u Q :=
  k_loop (P := fun (x : Unit) u => k_W g (dn + 3) MX12_sum 4 [(0, .ref 42)] [] u Q) (fun (x : Unit) u H => t_R_sum_B4 g rc dn hrc   (fun x u' h => h) (fun y u' h => he y u' h) H)
set_option maxRecDepth 100000 in
theorem c_R_sum (g : k_G) (rc : k_S → Option (Unit × k_S)) (dn : Nat) (hrc : ∀  (w : k_S) (PP : Unit → k_S → Prop), k_sat (rc  w) PP → k_OK g dn MX12_operand [.ref 42] w (k_qv PP))  {u : k_S} {QQ : Unit → k_S → Prop} (H : k_sat (f_R_sum rc  u) QQ) : k_OK g (dn + 3) MX12_sum [.ref 42] u (k_qv QQ) := by
  have hr : ∀ (r : Unit) (u' : k_S), QQ (r) u' → (k_qv QQ) (none) u' := fun r u' h => ⟨rfl, h⟩
  refine k_OK.ofW pfX12_sum (k_tab_of MX12_sum_dec) rfl ?_
  refine s_aloadn 0 0 rfl rfl ?_
  refine s_cvv0 (M' := MX12_product) (d' := dn + 2) 0 1 rfl k_ml240 vvX12_product rfl rfl (by omega) rfl (c_R_product g rc dn hrc (k_sat_bind H)) (fun _ u1 H => ?_)
  refine k_via (l_R_sum_B4 g rc dn hrc  ?_ _ _ _ (k_sat_bind H)) ⟨rfl, trivial⟩
  · intro y12 u11 H
    exact s_ret 1 13 rfl rfl (hr _ _ (k_sat_some H))
set_option maxRecDepth 100000 in
theorem t_R_compared_J35 (g : k_G) (rc : k_S → Option (Unit × k_S)) (dn : Nat) (hrc : ∀  (w : k_S) (PP : Unit → k_S → Prop), k_sat (rc  w) PP → k_OK g dn MX12_operand [.ref 42] w (k_qv PP)) (v1 : Int32)  {u : k_S} {QQ : Unit → k_S → Prop} {Q : Option Value → k_S → Prop} (hr : ∀ (r : Unit) (u' : k_S), QQ (r) u' → (Q) (none) u') (H : k_sat (f_R_compared_J35 rc v1 u) QQ) : k_W g (dn + 4) MX12_compared 35 [(0, .ref 42), (1, .int v1)] [] u Q := by
  refine s_aloadn 1 2 rfl rfl ?_
  refine s_dupr 1 3 rfl ?_
  refine s_geti 4212 1 4 rfl k_fl123 rfl rfl rfl rfl rfl ?_
  refine s_const 1 1 5 rfl k_ic_1 ?_
  refine s_iadd 1 6 rfl ?_
  refine s_puti 4212 1 7 rfl k_fl123 rfl rfl rfl rfl rfl rfl rfl rfl rfl H (fun u4 H => ?_)
  refine s_aloadn 1 8 rfl rfl ?_
  refine s_cvv0 (M' := MX12_sum) (d' := dn + 3) 1 9 rfl k_ml241 vvX12_sum rfl rfl (by omega) rfl (c_R_sum g rc dn hrc (k_sat_bind H)) (fun _ u5 H => ?_)
  refine s_aloadn 1 10 rfl rfl ?_
  refine s_iloadn 1 11 rfl rfl ?_
  refine s_const 0 1 12 rfl k_ic_0 ?_
  refine s_cvv2 (M' := MX12_addStep) (d' := 1) 1 13 rfl k_ml234 vvX12_addStep rfl rfl (by omega) rfl (c_R_addStep g _ _ (k_sat_bind H)) (fun _ u6 H => ?_)
  exact s_ret 1 14 rfl rfl (hr _ _ (k_sat_some H))
set_option maxRecDepth 100000 in
theorem c_R_compared (g : k_G) (rc : k_S → Option (Unit × k_S)) (dn : Nat) (hrc : ∀  (w : k_S) (PP : Unit → k_S → Prop), k_sat (rc  w) PP → k_OK g dn MX12_operand [.ref 42] w (k_qv PP))  {u : k_S} {QQ : Unit → k_S → Prop} (H : k_sat (f_R_compared rc  u) QQ) : k_OK g (dn + 4) MX12_compared [.ref 42] u (k_qv QQ) := by
  have hr : ∀ (r : Unit) (u' : k_S), QQ (r) u' → (k_qv QQ) (none) u' := fun r u' h => ⟨rfl, h⟩
  refine k_OK.ofW pfX12_compared (k_tab_of MX12_compared_dec) rfl ?_
  refine s_aloadn 0 0 rfl rfl ?_
  refine s_cvv0 (M' := MX12_sum) (d' := dn + 3) 0 1 rfl k_ml241 vvX12_sum rfl rfl (by omega) rfl (c_R_sum g rc dn hrc (k_sat_bind H)) (fun _ u1 H => ?_)
  refine s_aloadn 0 2 rfl rfl ?_
  refine s_cvi0 (M' := MX12_look) (d' := 1) 0 3 rfl k_ml233 vvX12_look rfl rfl (by omega) rfl (c_R_look g (k_sat_bind H)) (fun r3 u2 H => ?_)
  refine s_istoren 0 4 rfl rfl ?_
  refine s_aloadn 0 5 rfl rfl ?_
  refine s_geti 4213 0 6 rfl k_fl124 rfl rfl rfl rfl rfl ?_
  refine s_if_ge 0 7 34 rfl (by decide) H (fun _ H => ?_) (fun _ H => ?_)
  · exact s_ret 1 1 rfl rfl (hr _ _ (k_sat_some H))
  · refine s_iloadn 0 8 rfl rfl ?_
    refine s_bipush 60 0 9 rfl k_ib_60 ?_
    refine s_icmp_eq 0 10 35 rfl (by decide) H (fun _ H => ?_) (fun _ H => ?_)
    · exact k_via (t_R_compared_J35 g rc dn hrc _  hr H) ⟨rfl, rfl, trivial⟩
    · refine s_iloadn 0 11 rfl rfl ?_
      refine s_bipush 61 0 12 rfl k_ib_61 ?_
      refine s_icmp_eq 0 13 35 rfl (by decide) H (fun _ H => ?_) (fun _ H => ?_)
      · exact k_via (t_R_compared_J35 g rc dn hrc _  hr H) ⟨rfl, rfl, trivial⟩
      · refine s_iloadn 0 14 rfl rfl ?_
        refine s_bipush 62 0 15 rfl k_ib_62 ?_
        refine s_icmp_eq 1 0 35 rfl (by decide) H (fun _ H => ?_) (fun _ H => ?_)
        · exact k_via (t_R_compared_J35 g rc dn hrc _  hr H) ⟨rfl, rfl, trivial⟩
        · exact s_ret 1 1 rfl rfl (hr _ _ (k_sat_some H))
set_option maxRecDepth 100000 in
theorem t_R_both_B4 (g : k_G) (rc : k_S → Option (Unit × k_S)) (dn : Nat) (hrc : ∀  (w : k_S) (PP : Unit → k_S → Prop), k_sat (rc  w) PP → k_OK g dn MX12_operand [.ref 42] w (k_qv PP))   {u : k_S} {QQ : (Unit ⊕ Unit) → k_S → Prop} {Q : Option Value → k_S → Prop} (hb : ∀ (x : Unit) (u' : k_S), QQ (.inl x) u' → k_W g (dn + 5) MX12_both 4 [(0, .ref 42)] [] u' Q) (he : ∀ (y : Unit) (u' : k_S), QQ (.inr y) u' → k_W g (dn + 5) MX12_both 44 [] [] u' Q) (H : k_sat (f_R_both_B4 rc  u) QQ) : k_W g (dn + 5) MX12_both 4 [(0, .ref 42)] [] u Q := by
  refine s_aloadn 0 2 rfl rfl ?_
  refine s_geti 4213 0 3 rfl k_fl124 rfl rfl rfl rfl rfl ?_
  refine s_if_ge 0 4 44 rfl (by decide) H (fun _ H => ?_) (fun _ H => ?_)
  · exact k_via (he _ _ (k_sat_some H)) trivial
  · refine s_aloadn 0 5 rfl rfl ?_
    refine s_cvi0 (M' := MX12_look) (d' := 1) 0 6 rfl k_ml233 vvX12_look rfl rfl (by omega) rfl (c_R_look g (k_sat_bind H)) (fun r3 u2 H => ?_)
    refine s_bipush 38 0 7 rfl k_ib_38 ?_
    refine s_icmp_ne 0 8 44 rfl (by decide) H (fun _ H => ?_) (fun _ H => ?_)
    · exact k_via (he _ _ (k_sat_some H)) trivial
    · refine s_aloadn 0 9 rfl rfl ?_
      refine s_dupr 0 10 rfl ?_
      refine s_geti 4212 0 11 rfl k_fl123 rfl rfl rfl rfl rfl ?_
      refine s_const 1 0 12 rfl k_ic_1 ?_
      refine s_iadd 0 13 rfl ?_
      refine s_puti 4212 0 14 rfl k_fl123 rfl rfl rfl rfl rfl rfl rfl rfl rfl H (fun u4 H => ?_)
      refine s_aloadn 0 15 rfl rfl ?_
      refine s_cvv0 (M' := MX12_compared) (d' := dn + 4) 1 0 rfl k_ml242 vvX12_compared rfl rfl (by omega) rfl (c_R_compared g rc dn hrc (k_sat_bind H)) (fun _ u5 H => ?_)
      refine s_aloadn 1 1 rfl rfl ?_
      refine s_bipush 38 1 2 rfl k_ib_38 ?_
      refine s_const 0 1 3 rfl k_ic_0 ?_
      refine s_cvv2 (M' := MX12_addStep) (d' := 1) 1 4 rfl k_ml234 vvX12_addStep rfl rfl (by omega) rfl (c_R_addStep g _ _ (k_sat_bind H)) (fun _ u6 H => ?_)
      refine s_goto 1 5 4 rfl (by decide) ?_
      exact k_via (hb _ _ (k_sat_some H)) ⟨rfl, trivial⟩
set_option maxRecDepth 100000 in
theorem l_R_both_B4 (g : k_G) (rc : k_S → Option (Unit × k_S)) (dn : Nat) (hrc : ∀  (w : k_S) (PP : Unit → k_S → Prop), k_sat (rc  w) PP → k_OK g dn MX12_operand [.ref 42] w (k_qv PP))  {Q : Option Value → k_S → Prop} {K : Unit → k_S → Prop} (he : ∀ (y : Unit) (u' : k_S), K (y) u' → k_W g (dn + 5) MX12_both 44 [] [] u' Q) : ∀ (n : Nat) (x : Unit) (u : k_S), k_sat (k_itr (fun (x : Unit) u => f_R_both_B4 rc  u) n x u) K → k_W g (dn + 5) MX12_both 4 [(0, .ref 42)] [] u Q :=
  k_loop (P := fun (x : Unit) u => k_W g (dn + 5) MX12_both 4 [(0, .ref 42)] [] u Q) (fun (x : Unit) u H => t_R_both_B4 g rc dn hrc   (fun x u' h => h) (fun y u' h => he y u' h) H)
set_option maxRecDepth 100000 in
theorem c_R_both (g : k_G) (rc : k_S → Option (Unit × k_S)) (dn : Nat) (hrc : ∀  (w : k_S) (PP : Unit → k_S → Prop), k_sat (rc  w) PP → k_OK g dn MX12_operand [.ref 42] w (k_qv PP))  {u : k_S} {QQ : Unit → k_S → Prop} (H : k_sat (f_R_both rc  u) QQ) : k_OK g (dn + 5) MX12_both [.ref 42] u (k_qv QQ) := by
  have hr : ∀ (r : Unit) (u' : k_S), QQ (r) u' → (k_qv QQ) (none) u' := fun r u' h => ⟨rfl, h⟩
  refine k_OK.ofW pfX12_both (k_tab_of MX12_both_dec) rfl ?_
  refine s_aloadn 0 0 rfl rfl ?_
  refine s_cvv0 (M' := MX12_compared) (d' := dn + 4) 0 1 rfl k_ml242 vvX12_compared rfl rfl (by omega) rfl (c_R_compared g rc dn hrc (k_sat_bind H)) (fun _ u1 H => ?_)
  refine k_via (l_R_both_B4 g rc dn hrc  ?_ _ _ _ (k_sat_bind H)) ⟨rfl, trivial⟩
  · intro y8 u7 H
    exact s_ret 1 6 rfl rfl (hr _ _ (k_sat_some H))
set_option maxRecDepth 100000 in
theorem t_R_either_B4 (g : k_G) (rc : k_S → Option (Unit × k_S)) (dn : Nat) (hrc : ∀  (w : k_S) (PP : Unit → k_S → Prop), k_sat (rc  w) PP → k_OK g dn MX12_operand [.ref 42] w (k_qv PP))   {u : k_S} {QQ : (Unit ⊕ Unit) → k_S → Prop} {Q : Option Value → k_S → Prop} (hb : ∀ (x : Unit) (u' : k_S), QQ (.inl x) u' → k_W g (dn + 6) MX12_either 4 [(0, .ref 42)] [] u' Q) (he : ∀ (y : Unit) (u' : k_S), QQ (.inr y) u' → k_W g (dn + 6) MX12_either 44 [] [] u' Q) (H : k_sat (f_R_either_B4 rc  u) QQ) : k_W g (dn + 6) MX12_either 4 [(0, .ref 42)] [] u Q := by
  refine s_aloadn 0 2 rfl rfl ?_
  refine s_geti 4213 0 3 rfl k_fl124 rfl rfl rfl rfl rfl ?_
  refine s_if_ge 0 4 44 rfl (by decide) H (fun _ H => ?_) (fun _ H => ?_)
  · exact k_via (he _ _ (k_sat_some H)) trivial
  · refine s_aloadn 0 5 rfl rfl ?_
    refine s_cvi0 (M' := MX12_look) (d' := 1) 0 6 rfl k_ml233 vvX12_look rfl rfl (by omega) rfl (c_R_look g (k_sat_bind H)) (fun r3 u2 H => ?_)
    refine s_bipush 124 0 7 rfl k_ib_124 ?_
    refine s_icmp_ne 0 8 44 rfl (by decide) H (fun _ H => ?_) (fun _ H => ?_)
    · exact k_via (he _ _ (k_sat_some H)) trivial
    · refine s_aloadn 0 9 rfl rfl ?_
      refine s_dupr 0 10 rfl ?_
      refine s_geti 4212 0 11 rfl k_fl123 rfl rfl rfl rfl rfl ?_
      refine s_const 1 0 12 rfl k_ic_1 ?_
      refine s_iadd 0 13 rfl ?_
      refine s_puti 4212 0 14 rfl k_fl123 rfl rfl rfl rfl rfl rfl rfl rfl rfl H (fun u4 H => ?_)
      refine s_aloadn 0 15 rfl rfl ?_
      refine s_cvv0 (M' := MX12_both) (d' := dn + 5) 1 0 rfl k_ml243 vvX12_both rfl rfl (by omega) rfl (c_R_both g rc dn hrc (k_sat_bind H)) (fun _ u5 H => ?_)
      refine s_aloadn 1 1 rfl rfl ?_
      refine s_bipush 124 1 2 rfl k_ib_124 ?_
      refine s_const 0 1 3 rfl k_ic_0 ?_
      refine s_cvv2 (M' := MX12_addStep) (d' := 1) 1 4 rfl k_ml234 vvX12_addStep rfl rfl (by omega) rfl (c_R_addStep g _ _ (k_sat_bind H)) (fun _ u6 H => ?_)
      refine s_goto 1 5 4 rfl (by decide) ?_
      exact k_via (hb _ _ (k_sat_some H)) ⟨rfl, trivial⟩
set_option maxRecDepth 100000 in
theorem l_R_either_B4 (g : k_G) (rc : k_S → Option (Unit × k_S)) (dn : Nat) (hrc : ∀  (w : k_S) (PP : Unit → k_S → Prop), k_sat (rc  w) PP → k_OK g dn MX12_operand [.ref 42] w (k_qv PP))  {Q : Option Value → k_S → Prop} {K : Unit → k_S → Prop} (he : ∀ (y : Unit) (u' : k_S), K (y) u' → k_W g (dn + 6) MX12_either 44 [] [] u' Q) : ∀ (n : Nat) (x : Unit) (u : k_S), k_sat (k_itr (fun (x : Unit) u => f_R_either_B4 rc  u) n x u) K → k_W g (dn + 6) MX12_either 4 [(0, .ref 42)] [] u Q :=
  k_loop (P := fun (x : Unit) u => k_W g (dn + 6) MX12_either 4 [(0, .ref 42)] [] u Q) (fun (x : Unit) u H => t_R_either_B4 g rc dn hrc   (fun x u' h => h) (fun y u' h => he y u' h) H)
set_option maxRecDepth 100000 in
theorem c_R_either (g : k_G) (rc : k_S → Option (Unit × k_S)) (dn : Nat) (hrc : ∀  (w : k_S) (PP : Unit → k_S → Prop), k_sat (rc  w) PP → k_OK g dn MX12_operand [.ref 42] w (k_qv PP))  {u : k_S} {QQ : Unit → k_S → Prop} (H : k_sat (f_R_either rc  u) QQ) : k_OK g (dn + 6) MX12_either [.ref 42] u (k_qv QQ) := by
  have hr : ∀ (r : Unit) (u' : k_S), QQ (r) u' → (k_qv QQ) (none) u' := fun r u' h => ⟨rfl, h⟩
  refine k_OK.ofW pfX12_either (k_tab_of MX12_either_dec) rfl ?_
  refine s_aloadn 0 0 rfl rfl ?_
  refine s_cvv0 (M' := MX12_both) (d' := dn + 5) 0 1 rfl k_ml243 vvX12_both rfl rfl (by omega) rfl (c_R_both g rc dn hrc (k_sat_bind H)) (fun _ u1 H => ?_)
  refine k_via (l_R_either_B4 g rc dn hrc  ?_ _ _ _ (k_sat_bind H)) ⟨rfl, trivial⟩
  · intro y8 u7 H
    exact s_ret 1 6 rfl rfl (hr _ _ (k_sat_some H))
set_option maxRecDepth 100000 in
theorem c_R_nameOf (g : k_G)  (p0 : Int32) {u : k_S} {QQ : Int32 → k_S → Prop} (H : k_sat (f_R_nameOf  p0 u) QQ) : k_OK g 1 MX12_nameOf [.int p0] u (k_qi QQ) := by
  have hr : ∀ (r : Int32) (u' : k_S), QQ (r) u' → (k_qi QQ) (some (.int r)) u' := fun r u' h => ⟨_, rfl, h⟩
  refine k_OK.ofW pfX12_nameOf (k_tab_of MX12_nameOf_dec) rfl ?_
  refine s_iloadn 0 0 rfl rfl ?_
  by_cases e0 : p0 = 107
  · replace H := k_sat_pos H e0
    refine s_lookup 0 1 48 rfl (by decide) (off := 47) (by rw [e0]; decide) (by decide) ?_
    refine s_const 2 0 6 rfl k_ic_2 ?_
    exact s_iret 0 7 rfl rfl (hr _ _ (k_sat_some H))
  · replace H := k_sat_neg H e0
    by_cases e1 : p0 = 112
    · replace H := k_sat_pos H e1
      refine s_lookup 0 1 46 rfl (by decide) (off := 45) (by rw [e1]; decide) (by decide) ?_
      refine s_const 1 0 4 rfl k_ic_1 ?_
      exact s_iret 0 5 rfl rfl (hr _ _ (k_sat_some H))
    · replace H := k_sat_neg H e1
      by_cases e2 : p0 = 116
      · replace H := k_sat_pos H e2
        refine s_lookup 0 1 44 rfl (by decide) (off := 43) (by rw [e2]; decide) (by decide) ?_
        refine s_const 0 0 2 rfl k_ic_0 ?_
        exact s_iret 0 3 rfl rfl (hr _ _ (k_sat_some H))
      · replace H := k_sat_neg H e2
        by_cases e3 : p0 = 122
        · replace H := k_sat_pos H e3
          refine s_lookup 0 1 50 rfl (by decide) (off := 49) (by rw [e3]; decide) (by decide) ?_
          refine s_const 3 0 8 rfl k_ic_3 ?_
          exact s_iret 0 9 rfl rfl (hr _ _ (k_sat_some H))
        · replace H := k_sat_neg H e3
          refine s_lookup 0 1 52 rfl (by decide) (by show Op.lookupswitch.offset [(107, 47), (112, 45), (116, 43), (122, 49)] 51 _ = 51; rw [lv_osw e0 (by decide), lv_osw e1 (by decide), lv_osw e2 (by decide), lv_osw e3 (by decide)]; rfl) (by decide) ?_
          refine s_const (-1) 0 10 rfl k_ic_m1 ?_
          exact s_iret 0 11 rfl rfl (hr _ _ (k_sat_some H))
set_option maxRecDepth 100000 in
theorem c_R_wrong (g : k_G)   {u : k_S} {QQ : Unit → k_S → Prop} (H : k_sat (f_R_wrong   u) QQ) : k_OK g 1 MX12_wrong [.ref 42] u (k_qv QQ) := by
  have hr : ∀ (r : Unit) (u' : k_S), QQ (r) u' → (k_qv QQ) (none) u' := fun r u' h => ⟨rfl, h⟩
  refine k_OK.ofW pfX12_wrong (k_tab_of MX12_wrong_dec) rfl ?_
  refine s_aloadn 0 0 rfl rfl ?_
  refine s_geti 4213 0 1 rfl k_fl124 rfl rfl rfl rfl rfl ?_
  refine s_if_ge 0 2 15 rfl (by decide) H (fun _ H => ?_) (fun _ H => ?_)
  · exact s_ret 0 7 rfl rfl (hr _ _ (k_sat_some H))
  · refine s_aloadn 0 3 rfl rfl ?_
    refine s_aloadn 0 4 rfl rfl ?_
    refine s_geti 4212 0 5 rfl k_fl123 rfl rfl rfl rfl rfl ?_
    refine s_puti 4213 0 6 rfl k_fl124 rfl rfl rfl rfl rfl rfl rfl rfl rfl H (fun u1 H => ?_)
    exact s_ret 0 7 rfl rfl (hr _ _ (k_sat_some H))
set_option maxRecDepth 100000 in
theorem c_R_opens (g : k_G)   {u : k_S} {QQ : Int32 → k_S → Prop} (H : k_sat (f_R_opens   u) QQ) : k_OK g 2 MX12_opens [.ref 42] u (k_qi QQ) := by
  have hr : ∀ (r : Int32) (u' : k_S), QQ (r) u' → (k_qi QQ) (some (.int r)) u' := fun r u' h => ⟨_, rfl, h⟩
  refine k_OK.ofW pfX12_opens (k_tab_of MX12_opens_dec) rfl ?_
  refine s_aloadn 0 0 rfl rfl ?_
  refine s_geti 4214 0 1 rfl k_fl126 rfl rfl rfl rfl rfl ?_
  refine s_bipush 6 0 2 rfl k_ib_6 ?_
  refine s_icmp_ne 0 3 15 rfl (by decide) H (fun _ H => ?_) (fun _ H => ?_)
  · refine s_aloadn 0 8 rfl rfl ?_
    refine s_dupr 0 9 rfl ?_
    refine s_geti 4214 0 10 rfl k_fl126 rfl rfl rfl rfl rfl ?_
    refine s_const 1 0 11 rfl k_ic_1 ?_
    refine s_iadd 0 12 rfl ?_
    refine s_puti 4214 0 13 rfl k_fl126 rfl rfl rfl rfl rfl rfl rfl rfl rfl H (fun u1 H => ?_)
    refine s_aloadn 0 14 rfl rfl ?_
    refine s_dupr 0 15 rfl ?_
    refine s_geti 4212 1 0 rfl k_fl123 rfl rfl rfl rfl rfl ?_
    refine s_const 1 1 1 rfl k_ic_1 ?_
    refine s_iadd 1 2 rfl ?_
    refine s_puti 4212 1 3 rfl k_fl123 rfl rfl rfl rfl rfl rfl rfl rfl rfl H (fun u2 H => ?_)
    refine s_const 1 1 4 rfl k_ic_1 ?_
    exact s_zret 1 5 rfl rfl k_z1 (hr _ _ (k_sat_some H))
  · refine s_aloadn 0 4 rfl rfl ?_
    refine s_cvv0 (M' := MX12_wrong) 0 5 rfl k_ml232 vvX12_wrong rfl rfl (Nat.le_of_ble_eq_true rfl) rfl (c_R_wrong g (k_sat_bind H)) (fun _ u3 H => ?_)
    refine s_const 0 0 6 rfl k_ic_0 ?_
    exact s_zret 0 7 rfl rfl k_z0 (hr _ _ (k_sat_some H))
set_option maxRecDepth 100000 in
theorem t_R_figure_B4 (g : k_G)  (v1 : Int32) (v2 : Int32)  {u : k_S} {QQ : ((Int32 × Int32) ⊕ (Int32 × Int32)) → k_S → Prop} {Q : Option Value → k_S → Prop} (hb : ∀ (x : (Int32 × Int32)) (u' : k_S), QQ (.inl x) u' → k_W g 2 MX12_figure 4 [(0, .ref 42), (1, .int x.1), (2, .int x.2)] [] u' Q) (he : ∀ (y : (Int32 × Int32)) (u' : k_S), QQ (.inr y) u' → k_W g 2 MX12_figure 52 [(0, .ref 42), (1, .int y.1), (2, .int y.2)] [] u' Q) (H : k_sat (f_R_figure_B4  v1 v2 u) QQ) : k_W g 2 MX12_figure 4 [(0, .ref 42), (1, .int v1), (2, .int v2)] [] u Q := by
  refine s_iloadn 0 4 rfl rfl ?_
  refine s_const 4 0 5 rfl k_ic_4 ?_
  refine s_icmp_ge 0 6 52 rfl (by decide) H (fun _ H => ?_) (fun _ H => ?_)
  · exact k_via (he _ _ (k_sat_some H)) ⟨rfl, rfl, rfl, trivial⟩
  · refine s_aloadn 0 7 rfl rfl ?_
    refine s_cvi0 (M' := MX12_look) 0 8 rfl k_ml233 vvX12_look rfl rfl (Nat.le_of_ble_eq_true rfl) rfl (c_R_look g (k_sat_bind H)) (fun r2 u1 H => ?_)
    refine s_bipush 48 0 9 rfl k_ib_48 ?_
    refine s_bipush 57 0 10 rfl k_ib_57 ?_
    refine s_csi3 (M' := MX12_in) 0 11 rfl k_ml230 vvX12_in (Nat.le_of_ble_eq_true rfl) rfl (c_R_in g _ _ _ (k_sat_bind H)) (fun r4 u3 H => ?_)
    refine s_if_eq 0 12 52 rfl (by decide) H (fun _ H => ?_) (fun _ H => ?_)
    · exact k_via (he _ _ (k_sat_some H)) ⟨rfl, rfl, rfl, trivial⟩
    · refine s_bipush 10 0 13 rfl k_ib_10 ?_
      refine s_iloadn 0 14 rfl rfl ?_
      refine s_imul 0 15 rfl ?_
      refine s_aloadn 1 0 rfl rfl ?_
      refine s_cvi0 (M' := MX12_look) 1 1 rfl k_ml233 vvX12_look rfl rfl (Nat.le_of_ble_eq_true rfl) rfl (c_R_look g (k_sat_bind H)) (fun r6 u5 H => ?_)
      refine s_iadd 1 2 rfl ?_
      refine s_bipush 48 1 3 rfl k_ib_48 ?_
      refine s_isub 1 4 rfl ?_
      refine k_topi H (fun t7 H => ?_)
      refine s_istoren 1 5 rfl rfl ?_
      refine s_iinc 1 6 rfl rfl rfl ?_
      refine s_aloadn 1 7 rfl rfl ?_
      refine s_dupr 1 8 rfl ?_
      refine s_geti 4212 1 9 rfl k_fl123 rfl rfl rfl rfl rfl ?_
      refine s_const 1 1 10 rfl k_ic_1 ?_
      refine s_iadd 1 11 rfl ?_
      refine s_puti 4212 1 12 rfl k_fl123 rfl rfl rfl rfl rfl rfl rfl rfl rfl H (fun u8 H => ?_)
      refine s_goto 1 13 4 rfl (by decide) ?_
      exact k_via (hb _ _ (k_sat_some H)) ⟨rfl, rfl, rfl, trivial⟩
set_option maxRecDepth 100000 in
theorem l_R_figure_B4 (g : k_G)   {Q : Option Value → k_S → Prop} {K : (Int32 × Int32) → k_S → Prop} (he : ∀ (y : (Int32 × Int32)) (u' : k_S), K (y) u' → k_W g 2 MX12_figure 52 [(0, .ref 42), (1, .int y.1), (2, .int y.2)] [] u' Q) : ∀ (n : Nat) (x : (Int32 × Int32)) (u : k_S), k_sat (k_itr (fun (x : (Int32 × Int32)) u => f_R_figure_B4  x.1 x.2 u) n x u) K → k_W g 2 MX12_figure 4 [(0, .ref 42), (1, .int x.1), (2, .int x.2)] [] u Q :=
  k_loop (P := fun (x : (Int32 × Int32)) u => k_W g 2 MX12_figure 4 [(0, .ref 42), (1, .int x.1), (2, .int x.2)] [] u Q) (fun (x : (Int32 × Int32)) u H => t_R_figure_B4 g  x.1 x.2  (fun x u' h => h) (fun y u' h => he y u' h) H)
set_option maxRecDepth 100000 in
theorem t_R_figure_J74 (g : k_G)  (v1 : Int32)  {u : k_S} {QQ : Unit → k_S → Prop} {Q : Option Value → k_S → Prop} (hr : ∀ (r : Unit) (u' : k_S), QQ (r) u' → (Q) (none) u') (H : k_sat (f_R_figure_J74  v1 u) QQ) : k_W g 2 MX12_figure 74 [(0, .ref 42), (1, .int v1)] [] u Q := by
  refine s_aloadn 2 8 rfl rfl ?_
  refine s_const 1 2 9 rfl k_ic_1 ?_
  refine s_iloadn 2 10 rfl rfl ?_
  refine s_cvv2 (M' := MX12_addStep) 2 11 rfl k_ml234 vvX12_addStep rfl rfl (Nat.le_of_ble_eq_true rfl) rfl (c_R_addStep g _ _ (k_sat_bind H)) (fun _ u12 H => ?_)
  exact s_ret 2 12 rfl rfl (hr _ _ (k_sat_some H))
set_option maxRecDepth 100000 in
theorem t_R_figure_J70 (g : k_G)  (v1 : Int32)  {u : k_S} {QQ : Unit → k_S → Prop} {Q : Option Value → k_S → Prop} (hr : ∀ (r : Unit) (u' : k_S), QQ (r) u' → (Q) (none) u') (H : k_sat (f_R_figure_J70  v1 u) QQ) : k_W g 2 MX12_figure 70 [(0, .ref 42), (1, .int v1)] [] u Q := by
  refine s_aloadn 2 6 rfl rfl ?_
  refine s_cvv0 (M' := MX12_wrong) 2 7 rfl k_ml232 vvX12_wrong rfl rfl (Nat.le_of_ble_eq_true rfl) rfl (c_R_wrong g (k_sat_bind H)) (fun _ u11 H => ?_)
  exact k_via (t_R_figure_J74 g  _  hr H) ⟨rfl, rfl, trivial⟩
set_option maxRecDepth 100000 in
theorem t_R_figure_J52 (g : k_G)  (v1 : Int32) (v2 : Int32)  {u : k_S} {QQ : Unit → k_S → Prop} {Q : Option Value → k_S → Prop} (hr : ∀ (r : Unit) (u' : k_S), QQ (r) u' → (Q) (none) u') (H : k_sat (f_R_figure_J52  v1 v2 u) QQ) : k_W g 2 MX12_figure 52 [(0, .ref 42), (1, .int v1), (2, .int v2)] [] u Q := by
  refine s_iloadn 1 14 rfl rfl ?_
  refine s_if_eq 1 15 70 rfl (by decide) H (fun _ H => ?_) (fun _ H => ?_)
  · exact k_via (t_R_figure_J70 g  _  hr H) ⟨rfl, rfl, trivial⟩
  · refine s_aloadn 2 0 rfl rfl ?_
    refine s_cvi0 (M' := MX12_look) 2 1 rfl k_ml233 vvX12_look rfl rfl (Nat.le_of_ble_eq_true rfl) rfl (c_R_look g (k_sat_bind H)) (fun r14 u13 H => ?_)
    refine s_bipush 48 2 2 rfl k_ib_48 ?_
    refine s_bipush 57 2 3 rfl k_ib_57 ?_
    refine s_csi3 (M' := MX12_in) 2 4 rfl k_ml230 vvX12_in (Nat.le_of_ble_eq_true rfl) rfl (c_R_in g _ _ _ (k_sat_bind H)) (fun r16 u15 H => ?_)
    refine s_if_eq 2 5 74 rfl (by decide) H (fun _ H => ?_) (fun _ H => ?_)
    · exact k_via (t_R_figure_J74 g  _  hr H) ⟨rfl, rfl, trivial⟩
    · exact k_via (t_R_figure_J70 g  _  hr H) ⟨rfl, rfl, trivial⟩
set_option maxRecDepth 100000 in
theorem c_R_figure (g : k_G)   {u : k_S} {QQ : Unit → k_S → Prop} (H : k_sat (f_R_figure   u) QQ) : k_OK g 2 MX12_figure [.ref 42] u (k_qv QQ) := by
  have hr : ∀ (r : Unit) (u' : k_S), QQ (r) u' → (k_qv QQ) (none) u' := fun r u' h => ⟨rfl, h⟩
  refine k_OK.ofW pfX12_figure (k_tab_of MX12_figure_dec) rfl ?_
  refine s_const 0 0 0 rfl k_ic_0 ?_
  refine s_istoren 0 1 rfl rfl ?_
  refine s_const 0 0 2 rfl k_ic_0 ?_
  refine s_istoren 0 3 rfl rfl ?_
  refine k_via (l_R_figure_B4 g   ?_ _ _ _ (k_sat_bind H)) ⟨rfl, rfl, rfl, trivial⟩
  · intro y10 u9 H
    exact k_via (t_R_figure_J52 g  _ _  hr H) ⟨rfl, rfl, rfl, trivial⟩
set_option maxRecDepth 100000 in
theorem t_R_operand_J80 (g : k_G) (rc : k_S → Option (Unit × k_S)) (dn : Nat) (hrc : ∀  (w : k_S) (PP : Unit → k_S → Prop), k_sat (rc  w) PP → k_OK g dn MX12_operand [.ref 42] w (k_qv PP)) (s1 : Int32)  {u : k_S} {QQ : Unit → k_S → Prop} {Q : Option Value → k_S → Prop} (hr : ∀ (r : Unit) (u' : k_S), QQ (r) u' → (Q) (none) u') (H : k_sat (f_R_operand_J80 rc s1 u) QQ) : k_W g (dn + 7) MX12_operand 80 [] [.int s1, .ref 42] u Q := by
  refine s_const 0 2 11 rfl k_ic_0 ?_
  refine s_cvv2 (M' := MX12_addStep) (d' := 1) 2 12 rfl k_ml234 vvX12_addStep rfl rfl (by omega) rfl (c_R_addStep g _ _ (k_sat_bind H)) (fun _ u9 H => ?_)
  refine s_goto 2 13 154 rfl (by decide) ?_
  exact s_ret 5 1 rfl rfl (hr _ _ (k_sat_some H))
set_option maxRecDepth 100000 in
theorem t_R_operand_J46 (g : k_G) (rc : k_S → Option (Unit × k_S)) (dn : Nat) (hrc : ∀  (w : k_S) (PP : Unit → k_S → Prop), k_sat (rc  w) PP → k_OK g dn MX12_operand [.ref 42] w (k_qv PP)) (v1 : Int32)  {u : k_S} {QQ : Unit → k_S → Prop} {Q : Option Value → k_S → Prop} (hr : ∀ (r : Unit) (u' : k_S), QQ (r) u' → (Q) (none) u') (H : k_sat (f_R_operand_J46 rc v1 u) QQ) : k_W g (dn + 7) MX12_operand 46 [(0, .ref 42), (1, .int v1)] [] u Q := by
  refine s_aloadn 1 8 rfl rfl ?_
  refine s_cvi0 (M' := MX12_opens) (d' := 2) 1 9 rfl k_ml236 vvX12_opens rfl rfl (by omega) rfl (c_R_opens g (k_sat_bind H)) (fun r6 u5 H => ?_)
  refine s_if_ne 1 10 54 rfl (by decide) H (fun _ H => ?_) (fun _ H => ?_)
  · refine s_aloadn 1 12 rfl rfl ?_
    refine s_cvv0 (M' := MX12_operand) (d' := dn) 1 13 rfl k_ml237 vvX12_operand rfl rfl (by omega) rfl (hrc _ _ (k_sat_bind H)) (fun _ u7 H => ?_)
    refine s_aloadn 1 14 rfl rfl ?_
    refine s_dupr 1 15 rfl ?_
    refine s_geti 4214 2 0 rfl k_fl126 rfl rfl rfl rfl rfl ?_
    refine s_const 1 2 1 rfl k_ic_1 ?_
    refine s_isub 2 2 rfl ?_
    refine s_puti 4214 2 3 rfl k_fl126 rfl rfl rfl rfl rfl rfl rfl rfl rfl H (fun u8 H => ?_)
    refine s_aloadn 2 4 rfl rfl ?_
    refine s_iloadn 2 5 rfl rfl ?_
    refine s_bipush 33 2 6 rfl k_ib_33 ?_
    refine s_icmp_ne 2 7 79 rfl (by decide) H (fun _ H => ?_) (fun _ H => ?_)
    · refine s_const 4 2 10 rfl k_ic_4 ?_
      exact k_via (t_R_operand_J80 g rc dn hrc _  hr H) trivial
    · refine s_const 3 2 8 rfl k_ic_3 ?_
      refine s_goto 2 9 80 rfl (by decide) ?_
      exact k_via (t_R_operand_J80 g rc dn hrc _  hr H) trivial
  · exact s_ret 1 11 rfl rfl (hr _ _ (k_sat_some H))
set_option maxRecDepth 100000 in
theorem c_R_operand (g : k_G) (rc : k_S → Option (Unit × k_S)) (dn : Nat) (hrc : ∀  (w : k_S) (PP : Unit → k_S → Prop), k_sat (rc  w) PP → k_OK g dn MX12_operand [.ref 42] w (k_qv PP))  {u : k_S} {QQ : Unit → k_S → Prop} (H : k_sat (f_R_operand rc  u) QQ) : k_OK g (dn + 7) MX12_operand [.ref 42] u (k_qv QQ) := by
  have hr : ∀ (r : Unit) (u' : k_S), QQ (r) u' → (k_qv QQ) (none) u' := fun r u' h => ⟨rfl, h⟩
  refine k_OK.ofW pfX12_operand (k_tab_of MX12_operand_dec) rfl ?_
  refine s_aloadn 0 0 rfl rfl ?_
  refine s_cvi0 (M' := MX12_look) (d' := 1) 0 1 rfl k_ml233 vvX12_look rfl rfl (by omega) rfl (c_R_look g (k_sat_bind H)) (fun r2 u1 H => ?_)
  refine s_istoren 0 2 rfl rfl ?_
  refine s_iloadn 0 3 rfl rfl ?_
  refine s_csi1 (M' := MX12_nameOf) (d' := 1) 0 4 rfl k_ml235 vvX12_nameOf (by omega) rfl (c_R_nameOf g _ (k_sat_bind H)) (fun r4 u3 H => ?_)
  refine s_if_lt 0 5 34 rfl (by decide) H (fun _ H => ?_) (fun _ H => ?_)
  · refine s_iloadn 1 2 rfl rfl ?_
    refine s_bipush 33 1 3 rfl k_ib_33 ?_
    refine s_icmp_eq 1 4 46 rfl (by decide) H (fun _ H => ?_) (fun _ H => ?_)
    · exact k_via (t_R_operand_J46 g rc dn hrc _  hr H) ⟨rfl, rfl, trivial⟩
    · refine s_iloadn 1 5 rfl rfl ?_
      refine s_bipush 45 1 6 rfl k_ib_45 ?_
      refine s_icmp_ne 1 7 87 rfl (by decide) H (fun _ H => ?_) (fun _ H => ?_)
      · refine s_iloadn 2 14 rfl rfl ?_
        refine s_bipush 40 2 15 rfl k_ib_40 ?_
        refine s_icmp_ne 3 0 150 rfl (by decide) H (fun _ H => ?_) (fun _ H => ?_)
        · refine s_aloadn 4 15 rfl rfl ?_
          refine s_cvv0 (M' := MX12_figure) (d' := 2) 5 0 rfl k_ml239 vvX12_figure rfl rfl (by omega) rfl (c_R_figure g (k_sat_bind H)) (fun _ u10 H => ?_)
          exact s_ret 5 1 rfl rfl (hr _ _ (k_sat_some H))
        · refine s_aloadn 3 1 rfl rfl ?_
          refine s_cvi0 (M' := MX12_opens) (d' := 2) 3 2 rfl k_ml236 vvX12_opens rfl rfl (by omega) rfl (c_R_opens g (k_sat_bind H)) (fun r12 u11 H => ?_)
          refine s_if_ne 3 3 101 rfl (by decide) H (fun _ H => ?_) (fun _ H => ?_)
          · refine s_aloadn 3 5 rfl rfl ?_
            refine s_cvv0 (M' := MX12_either) (d' := dn + 6) 3 6 rfl k_ml238 vvX12_either rfl rfl (by omega) rfl (c_R_either g rc dn hrc (k_sat_bind H)) (fun _ u13 H => ?_)
            refine s_aloadn 3 7 rfl rfl ?_
            refine s_geti 4213 3 8 rfl k_fl124 rfl rfl rfl rfl rfl ?_
            refine s_if_lt 3 9 113 rfl (by decide) H (fun _ H => ?_) (fun _ H => ?_)
            · refine s_aloadn 3 11 rfl rfl ?_
              refine s_cvi0 (M' := MX12_look) (d' := 1) 3 12 rfl k_ml233 vvX12_look rfl rfl (by omega) rfl (c_R_look g (k_sat_bind H)) (fun r15 u14 H => ?_)
              refine s_bipush 41 3 13 rfl k_ib_41 ?_
              refine s_icmp_eq 3 14 127 rfl (by decide) H (fun _ H => ?_) (fun _ H => ?_)
              · refine s_aloadn 4 2 rfl rfl ?_
                refine s_dupr 4 3 rfl ?_
                refine s_geti 4212 4 4 rfl k_fl123 rfl rfl rfl rfl rfl ?_
                refine s_const 1 4 5 rfl k_ic_1 ?_
                refine s_iadd 4 6 rfl ?_
                refine s_puti 4212 4 7 rfl k_fl123 rfl rfl rfl rfl rfl rfl rfl rfl rfl H (fun u16 H => ?_)
                refine s_aloadn 4 8 rfl rfl ?_
                refine s_dupr 4 9 rfl ?_
                refine s_geti 4214 4 10 rfl k_fl126 rfl rfl rfl rfl rfl ?_
                refine s_const 1 4 11 rfl k_ic_1 ?_
                refine s_isub 4 12 rfl ?_
                refine s_puti 4214 4 13 rfl k_fl126 rfl rfl rfl rfl rfl rfl rfl rfl rfl H (fun u17 H => ?_)
                refine s_goto 4 14 154 rfl (by decide) ?_
                exact s_ret 5 1 rfl rfl (hr _ _ (k_sat_some H))
              · refine s_aloadn 3 15 rfl rfl ?_
                refine s_cvv0 (M' := MX12_wrong) (d' := 1) 4 0 rfl k_ml232 vvX12_wrong rfl rfl (by omega) rfl (c_R_wrong g (k_sat_bind H)) (fun _ u18 H => ?_)
                exact s_ret 4 1 rfl rfl (hr _ _ (k_sat_some H))
            · exact s_ret 3 10 rfl rfl (hr _ _ (k_sat_some H))
          · exact s_ret 3 4 rfl rfl (hr _ _ (k_sat_some H))
      · exact k_via (t_R_operand_J46 g rc dn hrc _  hr H) ⟨rfl, rfl, trivial⟩
  · refine s_aloadn 0 6 rfl rfl ?_
    refine s_const 2 0 7 rfl k_ic_2 ?_
    refine s_iloadn 0 8 rfl rfl ?_
    refine s_csi1 (M' := MX12_nameOf) (d' := 1) 0 9 rfl k_ml235 vvX12_nameOf (by omega) rfl (c_R_nameOf g _ (k_sat_bind H)) (fun r20 u19 H => ?_)
    refine s_cvv2 (M' := MX12_addStep) (d' := 1) 0 10 rfl k_ml234 vvX12_addStep rfl rfl (by omega) rfl (c_R_addStep g _ _ (k_sat_bind H)) (fun _ u21 H => ?_)
    refine s_aloadn 0 11 rfl rfl ?_
    refine s_dupr 0 12 rfl ?_
    refine s_geti 4212 0 13 rfl k_fl123 rfl rfl rfl rfl rfl ?_
    refine s_const 1 0 14 rfl k_ic_1 ?_
    refine s_iadd 0 15 rfl ?_
    refine s_puti 4212 1 0 rfl k_fl123 rfl rfl rfl rfl rfl rfl rfl rfl rfl H (fun u22 H => ?_)
    refine s_goto 1 1 154 rfl (by decide) ?_
    exact s_ret 5 1 rfl rfl (hr _ _ (k_sat_some H))
set_option maxRecDepth 100000 in
theorem c_R_operand_rec (g : k_G) : ∀ (n : Nat)  (w : k_S) (PP : Unit → k_S → Prop), k_sat (f_R_operand_rec n  w) PP → k_OK g (d_R_operand n) MX12_operand [.ref 42] w (k_qv PP)
  | 0, _, _, H => (k_sat_none H).elim
  | n + 1, w, PP, H => c_R_operand g (f_R_operand_rec n) (d_R_operand n) (c_R_operand_rec g n)  (u := w) (QQ := PP) H
set_option maxRecDepth 100000 in
theorem t_R_line_J66 (g : k_G)  (v1 : Int32)  {u : k_S} {QQ : Unit → k_S → Prop} {Q : Option Value → k_S → Prop} (hr : ∀ (r : Unit) (u' : k_S), QQ (r) u' → (Q) (none) u') (H : k_sat (f_R_line_J66  v1 u) QQ) : k_W g 63 MX12_line 66 [(0, .ref 42), (1, .int v1)] [] u Q := by
  refine s_aloadn 2 6 rfl rfl ?_
  refine s_getr 2 7 rfl k_fl98 rfl rfl rfl rfl ?_
  refine s_iloadn 2 8 rfl rfl ?_
  refine s_aloadn 2 9 rfl rfl ?_
  refine s_geti 4215 2 10 rfl k_fl125 rfl rfl rfl rfl rfl ?_
  refine s_i2s 2 11 rfl ?_
  refine s_sast 2 12 rfl rfl H (fun u4 H => ?_)
  refine s_aloadn 2 13 rfl rfl ?_
  refine s_getr 2 14 rfl k_fl96 rfl rfl rfl rfl ?_
  refine s_const 1 2 15 rfl k_ic_1 ?_
  refine s_dup2 3 0 rfl ?_
  refine s_iald 3 1 rfl rfl H (fun _ H => ?_)
  refine s_const 1 3 2 rfl k_ic_1 ?_
  refine s_iadd 3 3 rfl ?_
  refine s_iast 3 4 rfl rfl H (fun u5 H => ?_)
  exact s_ret 3 5 rfl rfl (hr _ _ (k_sat_some H))
set_option maxRecDepth 100000 in
theorem c_R_line (g : k_G)   {u : k_S} {QQ : Unit → k_S → Prop} (H : k_sat (f_R_line   u) QQ) : k_OK g 63 MX12_line [.ref 42] u (k_qv QQ) := by
  have hr : ∀ (r : Unit) (u' : k_S), QQ (r) u' → (k_qv QQ) (none) u' := fun r u' h => ⟨rfl, h⟩
  refine k_OK.ofW pfX12_line (k_tab_of MX12_line_dec) rfl ?_
  refine s_bipush 61 0 0 rfl k_ib_61 ?_
  refine s_aloadn 0 1 rfl rfl ?_
  refine s_getr 0 2 rfl k_fl96 rfl rfl rfl rfl ?_
  refine s_const 1 0 3 rfl k_ic_1 ?_
  refine s_iald 0 4 rfl rfl H (fun _ H => ?_)
  refine s_iadd 0 5 rfl ?_
  refine k_topi H (fun t1 H => ?_)
  refine s_istoren 0 6 rfl rfl ?_
  refine s_aloadn 0 7 rfl rfl ?_
  refine s_getr 0 8 rfl k_fl97 rfl rfl rfl rfl ?_
  refine s_iloadn 0 9 rfl rfl ?_
  refine s_aloadn 0 10 rfl rfl ?_
  refine s_geti 4215 0 11 rfl k_fl125 rfl rfl rfl rfl rfl ?_
  refine s_i2s 0 12 rfl ?_
  refine s_sast 0 13 rfl rfl H (fun u2 H => ?_)
  refine s_aloadn 0 14 rfl rfl ?_
  refine s_cvv0 (M' := MX12_either) 0 15 rfl k_ml238 vvX12_either rfl rfl (Nat.le_of_ble_eq_true rfl) rfl (c_R_either g (f_R_operand_rec 8) (d_R_operand 8) (c_R_operand_rec g 8) (k_sat_bind H)) (fun _ u3 H => ?_)
  refine s_aloadn 1 0 rfl rfl ?_
  refine s_geti 4213 1 1 rfl k_fl124 rfl rfl rfl rfl rfl ?_
  refine s_if_ge 1 2 66 rfl (by decide) H (fun _ H => ?_) (fun _ H => ?_)
  · exact k_via (t_R_line_J66 g  _  hr H) ⟨rfl, rfl, trivial⟩
  · refine s_aloadn 1 3 rfl rfl ?_
    refine s_cvi0 (M' := MX12_look) 1 4 rfl k_ml233 vvX12_look rfl rfl (Nat.le_of_ble_eq_true rfl) rfl (c_R_look g (k_sat_bind H)) (fun r7 u6 H => ?_)
    refine s_bipush 63 1 5 rfl k_ib_63 ?_
    refine s_icmp_ne 1 6 66 rfl (by decide) H (fun _ H => ?_) (fun _ H => ?_)
    · exact k_via (t_R_line_J66 g  _  hr H) ⟨rfl, rfl, trivial⟩
    · refine s_aloadn 1 7 rfl rfl ?_
      refine s_dupr 1 8 rfl ?_
      refine s_geti 4212 1 9 rfl k_fl123 rfl rfl rfl rfl rfl ?_
      refine s_const 1 1 10 rfl k_ic_1 ?_
      refine s_iadd 1 11 rfl ?_
      refine s_puti 4212 1 12 rfl k_fl123 rfl rfl rfl rfl rfl rfl rfl rfl rfl H (fun u8 H => ?_)
      refine s_aloadn 1 13 rfl rfl ?_
      refine s_getr 1 14 rfl k_fl97 rfl rfl rfl rfl ?_
      refine s_iloadn 1 15 rfl rfl ?_
      refine s_aloadn 2 0 rfl rfl ?_
      refine s_geti 4215 2 1 rfl k_fl125 rfl rfl rfl rfl rfl ?_
      refine s_i2s 2 2 rfl ?_
      refine s_sast 2 3 rfl rfl H (fun u9 H => ?_)
      refine s_aloadn 2 4 rfl rfl ?_
      refine s_cvv0 (M' := MX12_either) 2 5 rfl k_ml238 vvX12_either rfl rfl (Nat.le_of_ble_eq_true rfl) rfl (c_R_either g (f_R_operand_rec 8) (d_R_operand 8) (c_R_operand_rec g 8) (k_sat_bind H)) (fun _ u10 H => ?_)
      exact k_via (t_R_line_J66 g  _  hr H) ⟨rfl, rfl, trivial⟩
set_option maxRecDepth 100000 in
theorem t_R_readText_B31 (g : k_G)  (v1 : Int32)  {u : k_S} {QQ : (Unit ⊕ Unit) → k_S → Prop} {Q : Option Value → k_S → Prop} (hb : ∀ (x : Unit) (u' : k_S), QQ (.inl x) u' → k_W g 64 MX12_readText 31 [(0, .ref 42), (1, .int v1)] [] u' Q) (he : ∀ (y : Unit) (u' : k_S), QQ (.inr y) u' → k_W g 64 MX12_readText 64 [(0, .ref 42), (1, .int v1)] [] u' Q) (H : k_sat (f_R_readText_B31  v1 u) QQ) : k_W g 64 MX12_readText 31 [(0, .ref 42), (1, .int v1)] [] u Q := by
  refine s_aloadn 1 3 rfl rfl ?_
  refine s_geti 4213 1 4 rfl k_fl124 rfl rfl rfl rfl rfl ?_
  refine s_if_ge 1 5 64 rfl (by decide) H (fun _ H => ?_) (fun _ H => ?_)
  · exact k_via (he _ _ (k_sat_some H)) ⟨rfl, rfl, trivial⟩
  · refine s_aloadn 1 6 rfl rfl ?_
    refine s_cvi0 (M' := MX12_look) 1 7 rfl k_ml233 vvX12_look rfl rfl (Nat.le_of_ble_eq_true rfl) rfl (c_R_look g (k_sat_bind H)) (fun r8 u7 H => ?_)
    refine s_bipush 59 1 8 rfl k_ib_59 ?_
    refine s_icmp_ne 1 9 64 rfl (by decide) H (fun _ H => ?_) (fun _ H => ?_)
    · exact k_via (he _ _ (k_sat_some H)) ⟨rfl, rfl, trivial⟩
    · refine s_aloadn 1 10 rfl rfl ?_
      refine s_dupr 1 11 rfl ?_
      refine s_geti 4212 1 12 rfl k_fl123 rfl rfl rfl rfl rfl ?_
      refine s_const 1 1 13 rfl k_ic_1 ?_
      refine s_iadd 1 14 rfl ?_
      refine s_puti 4212 1 15 rfl k_fl123 rfl rfl rfl rfl rfl rfl rfl rfl rfl H (fun u9 H => ?_)
      refine s_aloadn 2 0 rfl rfl ?_
      refine s_cvv0 (M' := MX12_line) 2 1 rfl k_ml244 vvX12_line rfl rfl (Nat.le_of_ble_eq_true rfl) rfl (c_R_line g (k_sat_bind H)) (fun _ u10 H => ?_)
      refine s_goto 2 2 31 rfl (by decide) ?_
      exact k_via (hb _ _ (k_sat_some H)) ⟨rfl, rfl, trivial⟩
set_option maxRecDepth 100000 in
theorem l_R_readText_B31 (g : k_G)  (v1 : Int32) {Q : Option Value → k_S → Prop} {K : Unit → k_S → Prop} (he : ∀ (y : Unit) (u' : k_S), K (y) u' → k_W g 64 MX12_readText 64 [(0, .ref 42), (1, .int v1)] [] u' Q) : ∀ (n : Nat) (x : Unit) (u : k_S), k_sat (k_itr (fun (x : Unit) u => f_R_readText_B31  v1 u) n x u) K → k_W g 64 MX12_readText 31 [(0, .ref 42), (1, .int v1)] [] u Q :=
  k_loop (P := fun (x : Unit) u => k_W g 64 MX12_readText 31 [(0, .ref 42), (1, .int v1)] [] u Q) (fun (x : Unit) u H => t_R_readText_B31 g  v1  (fun x u' h => h) (fun y u' h => he y u' h) H)
set_option maxRecDepth 100000 in
theorem t_R_readText_B105 (g : k_G)  (v1 : Int32) (v2 : Int32)  {u : k_S} {QQ : ((Int32) ⊕ Unit) → k_S → Prop} {Q : Option Value → k_S → Prop} (hb : ∀ (x : (Int32)) (u' : k_S), QQ (.inl x) u' → k_W g 64 MX12_readText 105 [(0, .ref 42), (1, .int v1), (2, .int x)] [] u' Q) (he : ∀ (y : Unit) (u' : k_S), QQ (.inr y) u' → k_W g 64 MX12_readText 163 [(0, .ref 42), (1, .int v1)] [] u' Q) (H : k_sat (f_R_readText_B105  v1 v2 u) QQ) : k_W g 64 MX12_readText 105 [(0, .ref 42), (1, .int v1), (2, .int v2)] [] u Q := by
  refine s_iloadn 3 8 rfl rfl ?_
  refine s_aloadn 3 9 rfl rfl ?_
  refine s_geti 4215 3 10 rfl k_fl125 rfl rfl rfl rfl rfl ?_
  refine s_icmp_ge 3 11 163 rfl (by decide) H (fun _ H => ?_) (fun _ H => ?_)
  · exact k_via (he _ _ (k_sat_some H)) ⟨rfl, rfl, trivial⟩
  · refine s_aloadn 3 12 rfl rfl ?_
    refine s_getr 3 13 rfl k_fl94 rfl rfl rfl rfl ?_
    refine s_sipush 130 3 14 rfl k_is_130 ?_
    refine s_iloadn 3 15 rfl rfl ?_
    refine s_imul 4 0 rfl ?_
    refine s_iloadn 4 1 rfl rfl ?_
    refine s_iadd 4 2 rfl ?_
    refine s_aloadn 4 3 rfl rfl ?_
    refine s_getr 4 4 rfl k_fl94 rfl rfl rfl rfl ?_
    refine s_sipush 130 4 5 rfl k_is_130 ?_
    refine s_iloadn 4 6 rfl rfl ?_
    refine s_iadd 4 7 rfl ?_
    refine s_bald 4 8 rfl rfl H (fun _ H => ?_)
    refine s_bast 4 9 rfl rfl H (fun u14 H => ?_)
    refine s_aloadn 4 10 rfl rfl ?_
    refine s_getr 4 11 rfl k_fl95 rfl rfl rfl rfl ?_
    refine s_sipush 130 4 12 rfl k_is_130 ?_
    refine s_iloadn 4 13 rfl rfl ?_
    refine s_imul 4 14 rfl ?_
    refine s_iloadn 4 15 rfl rfl ?_
    refine s_iadd 5 0 rfl ?_
    refine s_aloadn 5 1 rfl rfl ?_
    refine s_getr 5 2 rfl k_fl95 rfl rfl rfl rfl ?_
    refine s_sipush 130 5 3 rfl k_is_130 ?_
    refine s_iloadn 5 4 rfl rfl ?_
    refine s_iadd 5 5 rfl ?_
    refine s_iald 5 6 rfl rfl H (fun _ H => ?_)
    refine s_iast 5 7 rfl rfl H (fun u15 H => ?_)
    refine s_iinc 5 8 rfl rfl rfl ?_
    refine s_goto 5 9 105 rfl (by decide) ?_
    exact k_via (hb _ _ (k_sat_some H)) ⟨rfl, rfl, rfl, trivial⟩
set_option maxRecDepth 100000 in
theorem l_R_readText_B105 (g : k_G)  (v1 : Int32) {Q : Option Value → k_S → Prop} {K : Unit → k_S → Prop} (he : ∀ (y : Unit) (u' : k_S), K (y) u' → k_W g 64 MX12_readText 163 [(0, .ref 42), (1, .int v1)] [] u' Q) : ∀ (n : Nat) (x : (Int32)) (u : k_S), k_sat (k_itr (fun (x : (Int32)) u => f_R_readText_B105  v1 x u) n x u) K → k_W g 64 MX12_readText 105 [(0, .ref 42), (1, .int v1), (2, .int x)] [] u Q :=
  k_loop (P := fun (x : (Int32)) u => k_W g 64 MX12_readText 105 [(0, .ref 42), (1, .int v1), (2, .int x)] [] u Q) (fun (x : (Int32)) u H => t_R_readText_B105 g  v1 x  (fun x u' h => h) (fun y u' h => he y u' h) H)
set_option maxRecDepth 100000 in
theorem t_R_readText_B177 (g : k_G)  (v1 : Int32) (v2 : Int32)  {u : k_S} {QQ : ((Int32) ⊕ Unit) → k_S → Prop} {Q : Option Value → k_S → Prop} (hb : ∀ (x : (Int32)) (u' : k_S), QQ (.inl x) u' → k_W g 64 MX12_readText 177 [(0, .ref 42), (1, .int v1), (2, .int x)] [] u' Q) (he : ∀ (y : Unit) (u' : k_S), QQ (.inr y) u' → k_W g 64 MX12_readText 233 [] [] u' Q) (H : k_sat (f_R_readText_B177  v1 v2 u) QQ) : k_W g 64 MX12_readText 177 [(0, .ref 42), (1, .int v1), (2, .int v2)] [] u Q := by
  refine s_iloadn 6 4 rfl rfl ?_
  refine s_aloadn 6 5 rfl rfl ?_
  refine s_getr 6 6 rfl k_fl96 rfl rfl rfl rfl ?_
  refine s_iloadn 6 7 rfl rfl ?_
  refine s_iald 6 8 rfl rfl H (fun _ H => ?_)
  refine s_icmp_ge 6 9 233 rfl (by decide) H (fun _ H => ?_) (fun _ H => ?_)
  · exact k_via (he _ _ (k_sat_some H)) trivial
  · refine s_aloadn 6 10 rfl rfl ?_
    refine s_getr 6 11 rfl k_fl97 rfl rfl rfl rfl ?_
    refine s_bipush 61 6 12 rfl k_ib_61 ?_
    refine s_iloadn 6 13 rfl rfl ?_
    refine s_imul 6 14 rfl ?_
    refine s_iloadn 6 15 rfl rfl ?_
    refine s_iadd 7 0 rfl ?_
    refine s_aloadn 7 1 rfl rfl ?_
    refine s_getr 7 2 rfl k_fl97 rfl rfl rfl rfl ?_
    refine s_bipush 61 7 3 rfl k_ib_61 ?_
    refine s_iloadn 7 4 rfl rfl ?_
    refine s_iadd 7 5 rfl ?_
    refine s_sald 7 6 rfl rfl H (fun _ H => ?_)
    refine s_sast 7 7 rfl rfl H (fun u19 H => ?_)
    refine s_aloadn 7 8 rfl rfl ?_
    refine s_getr 7 9 rfl k_fl98 rfl rfl rfl rfl ?_
    refine s_bipush 61 7 10 rfl k_ib_61 ?_
    refine s_iloadn 7 11 rfl rfl ?_
    refine s_imul 7 12 rfl ?_
    refine s_iloadn 7 13 rfl rfl ?_
    refine s_iadd 7 14 rfl ?_
    refine s_aloadn 7 15 rfl rfl ?_
    refine s_getr 8 0 rfl k_fl98 rfl rfl rfl rfl ?_
    refine s_bipush 61 8 1 rfl k_ib_61 ?_
    refine s_iloadn 8 2 rfl rfl ?_
    refine s_iadd 8 3 rfl ?_
    refine s_sald 8 4 rfl rfl H (fun _ H => ?_)
    refine s_sast 8 5 rfl rfl H (fun u20 H => ?_)
    refine s_iinc 8 6 rfl rfl rfl ?_
    refine s_goto 8 7 177 rfl (by decide) ?_
    exact k_via (hb _ _ (k_sat_some H)) ⟨rfl, rfl, rfl, trivial⟩
set_option maxRecDepth 100000 in
theorem l_R_readText_B177 (g : k_G)  (v1 : Int32) {Q : Option Value → k_S → Prop} {K : Unit → k_S → Prop} (he : ∀ (y : Unit) (u' : k_S), K (y) u' → k_W g 64 MX12_readText 233 [] [] u' Q) : ∀ (n : Nat) (x : (Int32)) (u : k_S), k_sat (k_itr (fun (x : (Int32)) u => f_R_readText_B177  v1 x u) n x u) K → k_W g 64 MX12_readText 177 [(0, .ref 42), (1, .int v1), (2, .int x)] [] u Q :=
  k_loop (P := fun (x : (Int32)) u => k_W g 64 MX12_readText 177 [(0, .ref 42), (1, .int v1), (2, .int x)] [] u Q) (fun (x : (Int32)) u H => t_R_readText_B177 g  v1 x  (fun x u' h => h) (fun y u' h => he y u' h) H)
set_option maxRecDepth 100000 in
theorem t_R_readText_J86 (g : k_G)  (v1 : Int32)  {u : k_S} {QQ : Int32 → k_S → Prop} {Q : Option Value → k_S → Prop} (hr : ∀ (r : Int32) (u' : k_S), QQ (r) u' → (Q) (some (.int r)) u') (H : k_sat (f_R_readText_J86  v1 u) QQ) : k_W g 64 MX12_readText 86 [(0, .ref 42), (1, .int v1)] [] u Q := by
  refine s_aloadn 2 13 rfl rfl ?_
  refine s_const 0 2 14 rfl k_ic_0 ?_
  refine s_puti 4202 2 15 rfl k_fl121 rfl rfl rfl rfl rfl rfl rfl rfl rfl H (fun u13 H => ?_)
  refine s_aloadn 3 0 rfl rfl ?_
  refine s_geti 4213 3 1 rfl k_fl124 rfl rfl rfl rfl rfl ?_
  refine s_if_lt 3 2 103 rfl (by decide) H (fun _ H => ?_) (fun _ H => ?_)
  · refine s_const 0 3 6 rfl k_ic_0 ?_
    refine s_istoren 3 7 rfl rfl ?_
    refine k_via (l_R_readText_B105 g  v1 ?_ _ _ _ (k_sat_bind H)) ⟨rfl, rfl, rfl, trivial⟩
    · intro y17 u16 H
      refine s_aloadn 5 10 rfl rfl ?_
      refine s_getr 5 11 rfl k_fl96 rfl rfl rfl rfl ?_
      refine s_iloadn 5 12 rfl rfl ?_
      refine s_aloadn 5 13 rfl rfl ?_
      refine s_getr 5 14 rfl k_fl96 rfl rfl rfl rfl ?_
      refine s_const 1 5 15 rfl k_ic_1 ?_
      refine s_iald 6 0 rfl rfl H (fun _ H => ?_)
      refine s_iast 6 1 rfl rfl H (fun u18 H => ?_)
      refine s_const 0 6 2 rfl k_ic_0 ?_
      refine s_istoren 6 3 rfl rfl ?_
      refine k_via (l_R_readText_B177 g  v1 ?_ _ _ _ (k_sat_bind H)) ⟨rfl, rfl, rfl, trivial⟩
      · intro y22 u21 H
        refine s_const (-1) 8 8 rfl k_ic_m1 ?_
        exact s_iret 8 9 rfl rfl (hr _ _ (k_sat_some H))
  · refine s_aloadn 3 3 rfl rfl ?_
    refine s_geti 4213 3 4 rfl k_fl124 rfl rfl rfl rfl rfl ?_
    exact s_iret 3 5 rfl rfl (hr _ _ (k_sat_some H))
set_option maxRecDepth 100000 in
theorem t_R_readText_J64 (g : k_G)  (v1 : Int32)  {u : k_S} {QQ : Int32 → k_S → Prop} {Q : Option Value → k_S → Prop} (hr : ∀ (r : Int32) (u' : k_S), QQ (r) u' → (Q) (some (.int r)) u') (H : k_sat (f_R_readText_J64  v1 u) QQ) : k_W g 64 MX12_readText 64 [(0, .ref 42), (1, .int v1)] [] u Q := by
  refine s_aloadn 2 3 rfl rfl ?_
  refine s_geti 4213 2 4 rfl k_fl124 rfl rfl rfl rfl rfl ?_
  refine s_if_ge 2 5 86 rfl (by decide) H (fun _ H => ?_) (fun _ H => ?_)
  · exact k_via (t_R_readText_J86 g  _  hr H) ⟨rfl, rfl, trivial⟩
  · refine s_aloadn 2 6 rfl rfl ?_
    refine s_geti 4212 2 7 rfl k_fl123 rfl rfl rfl rfl rfl ?_
    refine s_aloadn 2 8 rfl rfl ?_
    refine s_geti 4202 2 9 rfl k_fl121 rfl rfl rfl rfl rfl ?_
    refine s_icmp_ge 2 10 86 rfl (by decide) H (fun _ H => ?_) (fun _ H => ?_)
    · exact k_via (t_R_readText_J86 g  _  hr H) ⟨rfl, rfl, trivial⟩
    · refine s_aloadn 2 11 rfl rfl ?_
      refine s_cvv0 (M' := MX12_wrong) 2 12 rfl k_ml232 vvX12_wrong rfl rfl (Nat.le_of_ble_eq_true rfl) rfl (c_R_wrong g (k_sat_bind H)) (fun _ u23 H => ?_)
      exact k_via (t_R_readText_J86 g  _  hr H) ⟨rfl, rfl, trivial⟩
set_option maxRecDepth 100000 in
theorem c_R_readText (g : k_G)  (p1 : Int32) {u : k_S} {QQ : Int32 → k_S → Prop} (H : k_sat (f_R_readText  p1 u) QQ) : k_OK g 64 MX12_readText [.ref 42, .int p1] u (k_qi QQ) := by
  have hr : ∀ (r : Int32) (u' : k_S), QQ (r) u' → (k_qi QQ) (some (.int r)) u' := fun r u' h => ⟨_, rfl, h⟩
  refine k_OK.ofW pfX12_readText (k_tab_of MX12_readText_dec) rfl ?_
  refine s_aloadn 0 0 rfl rfl ?_
  refine s_const 0 0 1 rfl k_ic_0 ?_
  refine s_puti 4212 0 2 rfl k_fl123 rfl rfl rfl rfl rfl rfl rfl rfl rfl H (fun u1 H => ?_)
  refine s_aloadn 0 3 rfl rfl ?_
  refine s_const (-1) 0 4 rfl k_ic_m1 ?_
  refine s_puti 4213 0 5 rfl k_fl124 rfl rfl rfl rfl rfl rfl rfl rfl rfl H (fun u2 H => ?_)
  refine s_aloadn 0 6 rfl rfl ?_
  refine s_const 0 0 7 rfl k_ic_0 ?_
  refine s_puti 4214 0 8 rfl k_fl126 rfl rfl rfl rfl rfl rfl rfl rfl rfl H (fun u3 H => ?_)
  refine s_aloadn 0 9 rfl rfl ?_
  refine s_const 0 0 10 rfl k_ic_0 ?_
  refine s_puti 4215 0 11 rfl k_fl125 rfl rfl rfl rfl rfl rfl rfl rfl rfl H (fun u4 H => ?_)
  refine s_aloadn 0 12 rfl rfl ?_
  refine s_getr 0 13 rfl k_fl96 rfl rfl rfl rfl ?_
  refine s_const 1 0 14 rfl k_ic_1 ?_
  refine s_const 0 0 15 rfl k_ic_0 ?_
  refine s_iast 1 0 rfl rfl H (fun u5 H => ?_)
  refine s_aloadn 1 1 rfl rfl ?_
  refine s_cvv0 (M' := MX12_line) 1 2 rfl k_ml244 vvX12_line rfl rfl (Nat.le_of_ble_eq_true rfl) rfl (c_R_line g (k_sat_bind H)) (fun _ u6 H => ?_)
  refine k_via (l_R_readText_B31 g  p1 ?_ _ _ _ (k_sat_bind H)) ⟨rfl, rfl, trivial⟩
  · intro y12 u11 H
    exact k_via (t_R_readText_J64 g  _  hr H) ⟨rfl, rfl, trivial⟩
set_option maxRecDepth 100000 in
theorem c_R_law (g : k_G)   {u : k_S} {QQ : Int32 → k_S → Prop} (H : k_sat (f_R_law   u) QQ) : k_OK g 65 MX12_law [.ref 42] u (k_qi QQ) := by
  have hr : ∀ (r : Int32) (u' : k_S), QQ (r) u' → (k_qi QQ) (some (.int r)) u' := fun r u' h => ⟨_, rfl, h⟩
  refine k_OK.ofW pfX12_law (k_tab_of MX12_law_dec) rfl ?_
  refine s_aloadn 0 0 rfl rfl ?_
  refine s_const 0 0 1 rfl k_ic_0 ?_
  refine s_cvi1 (M' := MX12_readText) 0 2 rfl k_ml247 vvX12_readText rfl rfl (Nat.le_of_ble_eq_true rfl) rfl (c_R_readText g _ (k_sat_bind H)) (fun r2 u1 H => ?_)
  refine s_istoren 0 3 rfl rfl ?_
  refine s_iloadn 0 4 rfl rfl ?_
  refine s_if_lt 0 5 15 rfl (by decide) H (fun _ H => ?_) (fun _ H => ?_)
  · refine s_aloadn 0 10 rfl rfl ?_
    refine s_const 1 0 11 rfl k_ic_1 ?_
    refine s_puti 4223 0 12 rfl k_fl127 rfl rfl rfl rfl rfl rfl rfl rfl rfl H (fun u3 H => ?_)
    refine s_const 1 0 13 rfl k_ic_1 ?_
    exact s_iret 0 14 rfl rfl (hr _ _ (k_sat_some H))
  · refine s_bipush (-100) 0 6 rfl k_ib_m100 ?_
    refine s_iloadn 0 7 rfl rfl ?_
    refine s_isub 0 8 rfl ?_
    exact s_iret 0 9 rfl rfl (hr _ _ (k_sat_some H))
set_option maxRecDepth 100000 in
theorem t_W_set_J33 (g : k_G)  (v1 : Int32) (v2 : Int32)  {u : k_S} {QQ : Int32 → k_S → Prop} {Q : Option Value → k_S → Prop} (hr : ∀ (r : Int32) (u' : k_S), QQ (r) u' → (Q) (some (.int r)) u') (H : k_sat (f_W_set_J33  v1 v2 u) QQ) : k_W g 1 MX11_set 33 [(0, .ref 0), (1, .int v1), (2, .int v2)] [] u Q := by
  refine s_iloadn 1 2 rfl rfl ?_
  refine s_const 1 1 3 rfl k_ic_1 ?_
  refine s_icmp_ne 1 4 56 rfl (by decide) H (fun _ H => ?_) (fun _ H => ?_)
  · refine s_ldc (-2000000000) 1 15 rfl (k_in (lw_T1 (List.mem_of_getElem? (i := 178) (by decide +kernel))) rfl) ?_
    exact s_iret 2 0 rfl rfl (hr _ _ (k_sat_some H))
  · refine s_aloadn 1 5 rfl rfl ?_
    refine s_getr 1 6 rfl k_fl2 rfl rfl rfl rfl ?_
    refine s_geti 705 1 7 rfl k_fl14 rfl rfl rfl rfl rfl ?_
    refine k_topi H (fun t1 H => ?_)
    refine s_istoren 1 8 rfl rfl ?_
    refine s_aloadn 1 9 rfl rfl ?_
    refine s_getr 1 10 rfl k_fl2 rfl rfl rfl rfl ?_
    refine s_iloadn 1 11 rfl rfl ?_
    refine s_puti 705 1 12 rfl k_fl14 rfl rfl rfl rfl rfl rfl rfl rfl rfl H (fun u2 H => ?_)
    refine s_iloadn 1 13 rfl rfl ?_
    exact s_iret 1 14 rfl rfl (hr _ _ (k_sat_some H))
set_option maxRecDepth 100000 in
theorem c_W_set (g : k_G)  (p1 : Int32) (p2 : Int32) {u : k_S} {QQ : Int32 → k_S → Prop} (H : k_sat (f_W_set  p1 p2 u) QQ) : k_OK g 1 MX11_set [.ref 0, .int p1, .int p2] u (k_qi QQ) := by
  have hr : ∀ (r : Int32) (u' : k_S), QQ (r) u' → (k_qi QQ) (some (.int r)) u' := fun r u' h => ⟨_, rfl, h⟩
  refine k_OK.ofW pfX11_set (k_tab_of MX11_set_dec) rfl ?_
  refine s_iloadn 0 0 rfl rfl ?_
  refine s_if_ne 0 1 33 rfl (by decide) H (fun _ H => ?_) (fun _ H => ?_)
  · exact k_via (t_W_set_J33 g  _ _  hr H) ⟨rfl, rfl, rfl, trivial⟩
  · refine s_iloadn 0 2 rfl rfl ?_
    refine s_const 1 0 3 rfl k_ic_1 ?_
    refine s_icmp_lt 0 4 33 rfl (by decide) H (fun _ H => ?_) (fun _ H => ?_)
    · exact k_via (t_W_set_J33 g  _ _  hr H) ⟨rfl, rfl, rfl, trivial⟩
    · refine s_iloadn 0 5 rfl rfl ?_
      refine s_bipush 9 0 6 rfl k_ib_9 ?_
      refine s_icmp_gt 0 7 33 rfl (by decide) H (fun _ H => ?_) (fun _ H => ?_)
      · exact k_via (t_W_set_J33 g  _ _  hr H) ⟨rfl, rfl, rfl, trivial⟩
      · refine s_aloadn 0 8 rfl rfl ?_
        refine s_getr 0 9 rfl k_fl3 rfl rfl rfl rfl ?_
        refine s_geti 1205 0 10 rfl k_fl13 rfl rfl rfl rfl rfl ?_
        refine k_topi H (fun t3 H => ?_)
        refine s_istoren 0 11 rfl rfl ?_
        refine s_aloadn 0 12 rfl rfl ?_
        refine s_getr 0 13 rfl k_fl3 rfl rfl rfl rfl ?_
        refine s_iloadn 0 14 rfl rfl ?_
        refine s_puti 1205 0 15 rfl k_fl13 rfl rfl rfl rfl rfl rfl rfl rfl rfl H (fun u4 H => ?_)
        refine s_iloadn 1 0 rfl rfl ?_
        exact s_iret 1 1 rfl rfl (hr _ _ (k_sat_some H))
set_option maxRecDepth 100000 in
theorem t_R_set_J26 (g : k_G)  (v1 : Int32) (v2 : Int32)  {u : k_S} {QQ : Int32 → k_S → Prop} {Q : Option Value → k_S → Prop} (hr : ∀ (r : Int32) (u' : k_S), QQ (r) u' → (Q) (some (.int r)) u') (H : k_sat (f_R_set_J26  v1 v2 u) QQ) : k_W g 2 MX12_set 26 [(0, .ref 42), (1, .int v1), (2, .int v2)] [] u Q := by
  refine s_iloadn 0 15 rfl rfl ?_
  refine s_const 1 1 0 rfl k_ic_1 ?_
  refine s_icmp_eq 1 1 34 rfl (by decide) H (fun _ H => ?_) (fun _ H => ?_)
  · refine s_aloadn 1 4 rfl rfl ?_
    refine s_geti 4211 1 5 rfl k_fl129 rfl rfl rfl rfl rfl ?_
    refine k_topi H (fun t1 H => ?_)
    refine s_istoren 1 6 rfl rfl ?_
    refine s_aloadn 1 7 rfl rfl ?_
    refine s_iloadn 1 8 rfl rfl ?_
    refine s_puti 4211 1 9 rfl k_fl129 rfl rfl rfl rfl rfl rfl rfl rfl rfl H (fun u2 H => ?_)
    refine s_iloadn 1 10 rfl rfl ?_
    exact s_iret 1 11 rfl rfl (hr _ _ (k_sat_some H))
  · refine s_ldc (-2000000000) 1 2 rfl (k_in (lw_T4 (List.mem_of_getElem? (i := 192) (by decide +kernel))) rfl) ?_
    exact s_iret 1 3 rfl rfl (hr _ _ (k_sat_some H))
set_option maxRecDepth 100000 in
theorem c_R_set (g : k_G)  (p1 : Int32) (p2 : Int32) {u : k_S} {QQ : Int32 → k_S → Prop} (H : k_sat (f_R_set  p1 p2 u) QQ) : k_OK g 2 MX12_set [.ref 42, .int p1, .int p2] u (k_qi QQ) := by
  have hr : ∀ (r : Int32) (u' : k_S), QQ (r) u' → (k_qi QQ) (some (.int r)) u' := fun r u' h => ⟨_, rfl, h⟩
  refine k_OK.ofW pfX12_set (k_tab_of MX12_set_dec) rfl ?_
  refine s_iloadn 0 0 rfl rfl ?_
  refine s_if_ne 0 1 26 rfl (by decide) H (fun _ H => ?_) (fun _ H => ?_)
  · exact k_via (t_R_set_J26 g  _ _  hr H) ⟨rfl, rfl, rfl, trivial⟩
  · refine s_iloadn 0 2 rfl rfl ?_
    refine s_const 1 0 3 rfl k_ic_1 ?_
    refine s_bipush 9 0 4 rfl k_ib_9 ?_
    refine s_csi3 (M' := MX12_in) 0 5 rfl k_ml230 vvX12_in (Nat.le_of_ble_eq_true rfl) rfl (c_R_in g _ _ _ (k_sat_bind H)) (fun r4 u3 H => ?_)
    refine s_if_eq 0 6 26 rfl (by decide) H (fun _ H => ?_) (fun _ H => ?_)
    · exact k_via (t_R_set_J26 g  _ _  hr H) ⟨rfl, rfl, rfl, trivial⟩
    · refine s_aloadn 0 7 rfl rfl ?_
      refine s_geti 4210 0 8 rfl k_fl93 rfl rfl rfl rfl rfl ?_
      refine k_topi H (fun t5 H => ?_)
      refine s_istoren 0 9 rfl rfl ?_
      refine s_aloadn 0 10 rfl rfl ?_
      refine s_iloadn 0 11 rfl rfl ?_
      refine s_puti 4210 0 12 rfl k_fl93 rfl rfl rfl rfl rfl rfl rfl rfl rfl H (fun u6 H => ?_)
      refine s_iloadn 0 13 rfl rfl ?_
      exact s_iret 0 14 rfl rfl (hr _ _ (k_sat_some H))
set_option maxRecDepth 100000 in
theorem c_Wheels_has (g : k_G)  (p1 : Int32) {u : k_S} {QQ : Int32 → k_S → Prop} (H : k_sat (f_Wheels_has  p1 u) QQ) : k_OK g 1 MX10_has [.ref 3, .int p1] u (k_qi QQ) := by
  have hr : ∀ (r : Int32) (u' : k_S), QQ (r) u' → (k_qi QQ) (some (.int r)) u' := fun r u' h => ⟨_, rfl, h⟩
  refine k_OK.ofW pfX10_has (k_tab_of MX10_has_dec) rfl ?_
  refine s_iloadn 0 0 rfl rfl ?_
  refine s_if_lt 0 1 25 rfl (by decide) H (fun _ H => ?_) (fun _ H => ?_)
  · refine s_const 0 0 13 rfl k_ic_0 ?_
    exact s_zret 0 14 rfl rfl k_z0 (hr _ _ (k_sat_some H))
  · refine s_iloadn 0 2 rfl rfl ?_
    refine s_aloadn 0 3 rfl rfl ?_
    refine s_geti 303 0 4 rfl k_fl85 rfl rfl rfl rfl rfl ?_
    refine s_icmp_ge 0 5 25 rfl (by decide) H (fun _ H => ?_) (fun _ H => ?_)
    · refine s_const 0 0 13 rfl k_ic_0 ?_
      exact s_zret 0 14 rfl rfl k_z0 (hr _ _ (k_sat_some H))
    · refine s_iloadn 0 6 rfl rfl ?_
      refine s_aloadn 0 7 rfl rfl ?_
      refine s_getr 0 8 rfl k_fl83 rfl rfl rfl rfl ?_
      refine s_alen 4 0 9 rfl rfl k_ln_4 ?_
      refine s_icmp_ge 0 10 25 rfl (by decide) H (fun _ H => ?_) (fun _ H => ?_)
      · refine s_const 0 0 13 rfl k_ic_0 ?_
        exact s_zret 0 14 rfl rfl k_z0 (hr _ _ (k_sat_some H))
      · refine s_const 1 0 11 rfl k_ic_1 ?_
        refine s_goto 0 12 26 rfl (by decide) ?_
        exact s_zret 0 14 rfl rfl k_z1 (hr _ _ (k_sat_some H))
set_option maxRecDepth 100000 in
theorem c_Wheels_breakOf (g : k_G)  (p1 : Int32) {u : k_S} {QQ : Int32 → k_S → Prop} (H : k_sat (f_Wheels_breakOf  p1 u) QQ) : k_OK g 1 MX10_breakOf [.ref 3, .int p1] u (k_qi QQ) := by
  have hr : ∀ (r : Int32) (u' : k_S), QQ (r) u' → (k_qi QQ) (some (.int r)) u' := fun r u' h => ⟨_, rfl, h⟩
  refine k_OK.ofW pfX10_breakOf (k_tab_of MX10_breakOf_dec) rfl ?_
  refine s_iloadn 0 0 rfl rfl ?_
  refine s_if_lt 0 1 22 rfl (by decide) H (fun _ H => ?_) (fun _ H => ?_)
  · refine s_const 0 0 12 rfl k_ic_0 ?_
    exact s_iret 0 13 rfl rfl (hr _ _ (k_sat_some H))
  · refine s_iloadn 0 2 rfl rfl ?_
    refine s_aloadn 0 3 rfl rfl ?_
    refine s_getr 0 4 rfl k_fl84 rfl rfl rfl rfl ?_
    refine s_alen 4 0 5 rfl rfl k_ln_4 ?_
    refine s_icmp_ge 0 6 22 rfl (by decide) H (fun _ H => ?_) (fun _ H => ?_)
    · refine s_const 0 0 12 rfl k_ic_0 ?_
      exact s_iret 0 13 rfl rfl (hr _ _ (k_sat_some H))
    · refine s_aloadn 0 7 rfl rfl ?_
      refine s_getr 0 8 rfl k_fl84 rfl rfl rfl rfl ?_
      refine s_iloadn 0 9 rfl rfl ?_
      refine s_iald 0 10 rfl rfl H (fun _ H => ?_)
      refine s_goto 0 11 23 rfl (by decide) ?_
      exact s_iret 0 13 rfl rfl (hr _ _ (k_sat_some H))
set_option maxRecDepth 100000 in
theorem c_Wheels_setBreak (g : k_G)  (p1 : Int32) (p2 : Int32) {u : k_S} {QQ : Unit → k_S → Prop} (H : k_sat (f_Wheels_setBreak  p1 p2 u) QQ) : k_OK g 1 MX10_setBreak [.ref 3, .int p1, .int p2] u (k_qv QQ) := by
  have hr : ∀ (r : Unit) (u' : k_S), QQ (r) u' → (k_qv QQ) (none) u' := fun r u' h => ⟨rfl, h⟩
  refine k_OK.ofW pfX10_setBreak (k_tab_of MX10_setBreak_dec) rfl ?_
  refine s_iloadn 0 0 rfl rfl ?_
  refine s_if_lt 0 1 20 rfl (by decide) H (fun _ H => ?_) (fun _ H => ?_)
  · exact s_ret 0 12 rfl rfl (hr _ _ (k_sat_some H))
  · refine s_iloadn 0 2 rfl rfl ?_
    refine s_aloadn 0 3 rfl rfl ?_
    refine s_getr 0 4 rfl k_fl84 rfl rfl rfl rfl ?_
    refine s_alen 4 0 5 rfl rfl k_ln_4 ?_
    refine s_icmp_ge 0 6 20 rfl (by decide) H (fun _ H => ?_) (fun _ H => ?_)
    · exact s_ret 0 12 rfl rfl (hr _ _ (k_sat_some H))
    · refine s_aloadn 0 7 rfl rfl ?_
      refine s_getr 0 8 rfl k_fl84 rfl rfl rfl rfl ?_
      refine s_iloadn 0 9 rfl rfl ?_
      refine s_iloadn 0 10 rfl rfl ?_
      refine s_iast 0 11 rfl rfl H (fun u1 H => ?_)
      exact s_ret 0 12 rfl rfl (hr _ _ (k_sat_some H))
set_option maxRecDepth 100000 in
theorem c_Changes_write (g : k_G)  (p1 : Int32) (p2 : Int32) (p3 : Int32) (p4 : Int32) (p5 : Int32) {u : k_S} {QQ : Unit → k_S → Prop} (H : k_sat (f_Changes_write  p1 p2 p3 p4 p5 u) QQ) : k_OK g 1 MX1_write [.ref 30, .int p1, .int p2, .int p3, .int p4, .int p5] u (k_qv QQ) := by
  have hr : ∀ (r : Unit) (u' : k_S), QQ (r) u' → (k_qv QQ) (none) u' := fun r u' h => ⟨rfl, h⟩
  refine k_OK.ofW pfX1_write (k_tab_of MX1_write_dec) rfl ?_
  refine s_iloadn 0 0 rfl rfl ?_
  refine s_if_lt 0 1 22 rfl (by decide) H (fun _ H => ?_) (fun _ H => ?_)
  · exact s_ret 0 12 rfl rfl (hr _ _ (k_sat_some H))
  · refine s_iloadn 0 2 rfl rfl ?_
    refine s_aloadn 0 3 rfl rfl ?_
    refine s_getr 0 4 rfl k_fl31 rfl rfl rfl rfl ?_
    refine s_alen 40 0 5 rfl rfl k_ln_40 ?_
    refine s_icmp_ge 0 6 22 rfl (by decide) H (fun _ H => ?_) (fun _ H => ?_)
    · exact s_ret 0 12 rfl rfl (hr _ _ (k_sat_some H))
    · refine s_iloadn 0 7 rfl rfl ?_
      refine s_aloadn 0 8 rfl rfl ?_
      refine s_getr 0 9 rfl k_fl32 rfl rfl rfl rfl ?_
      refine s_alen 40 0 10 rfl rfl k_ln_40 ?_
      refine s_icmp_lt 0 11 23 rfl (by decide) H (fun _ H => ?_) (fun _ H => ?_)
      · refine s_iloadn 0 13 rfl rfl ?_
        refine s_aloadn 0 14 rfl rfl ?_
        refine s_getr 0 15 rfl k_fl33 rfl rfl rfl rfl ?_
        refine s_alen 40 1 0 rfl rfl k_ln_40 ?_
        refine s_icmp_ge 1 1 41 rfl (by decide) H (fun _ H => ?_) (fun _ H => ?_)
        · exact s_ret 1 7 rfl rfl (hr _ _ (k_sat_some H))
        · refine s_iloadn 1 2 rfl rfl ?_
          refine s_aloadn 1 3 rfl rfl ?_
          refine s_getr 1 4 rfl k_fl34 rfl rfl rfl rfl ?_
          refine s_alen 40 1 5 rfl rfl k_ln_40 ?_
          refine s_icmp_lt 1 6 42 rfl (by decide) H (fun _ H => ?_) (fun _ H => ?_)
          · refine s_aloadn 1 8 rfl rfl ?_
            refine s_getr 1 9 rfl k_fl31 rfl rfl rfl rfl ?_
            refine s_iloadn 1 10 rfl rfl ?_
            refine s_iloadn 1 11 rfl rfl ?_
            refine s_iast 1 12 rfl rfl H (fun u1 H => ?_)
            refine s_aloadn 1 13 rfl rfl ?_
            refine s_getr 1 14 rfl k_fl32 rfl rfl rfl rfl ?_
            refine s_iloadn 1 15 rfl rfl ?_
            refine s_iloadn 2 0 rfl rfl ?_
            refine s_iast 2 1 rfl rfl H (fun u2 H => ?_)
            refine s_aloadn 2 2 rfl rfl ?_
            refine s_getr 2 3 rfl k_fl33 rfl rfl rfl rfl ?_
            refine s_iloadn 2 4 rfl rfl ?_
            refine s_iload 2 5 rfl rfl ?_
            refine s_iast 2 6 rfl rfl H (fun u3 H => ?_)
            refine s_aloadn 2 7 rfl rfl ?_
            refine s_getr 2 8 rfl k_fl34 rfl rfl rfl rfl ?_
            refine s_iloadn 2 9 rfl rfl ?_
            refine s_iload 2 10 rfl rfl ?_
            refine s_iast 2 11 rfl rfl H (fun u4 H => ?_)
            exact s_ret 2 12 rfl rfl (hr _ _ (k_sat_some H))
          · exact s_ret 1 7 rfl rfl (hr _ _ (k_sat_some H))
      · exact s_ret 0 12 rfl rfl (hr _ _ (k_sat_some H))
set_option maxRecDepth 100000 in
theorem c_Changes_wheelAt (g : k_G)  (p1 : Int32) {u : k_S} {QQ : Int32 → k_S → Prop} (H : k_sat (f_Changes_wheelAt  p1 u) QQ) : k_OK g 1 MX1_wheelAt [.ref 30, .int p1] u (k_qi QQ) := by
  have hr : ∀ (r : Int32) (u' : k_S), QQ (r) u' → (k_qi QQ) (some (.int r)) u' := fun r u' h => ⟨_, rfl, h⟩
  refine k_OK.ofW pfX1_wheelAt (k_tab_of MX1_wheelAt_dec) rfl ?_
  refine s_iloadn 0 0 rfl rfl ?_
  refine s_if_lt 0 1 22 rfl (by decide) H (fun _ H => ?_) (fun _ H => ?_)
  · refine s_const (-1) 0 12 rfl k_ic_m1 ?_
    exact s_iret 0 13 rfl rfl (hr _ _ (k_sat_some H))
  · refine s_iloadn 0 2 rfl rfl ?_
    refine s_aloadn 0 3 rfl rfl ?_
    refine s_getr 0 4 rfl k_fl31 rfl rfl rfl rfl ?_
    refine s_alen 40 0 5 rfl rfl k_ln_40 ?_
    refine s_icmp_ge 0 6 22 rfl (by decide) H (fun _ H => ?_) (fun _ H => ?_)
    · refine s_const (-1) 0 12 rfl k_ic_m1 ?_
      exact s_iret 0 13 rfl rfl (hr _ _ (k_sat_some H))
    · refine s_aloadn 0 7 rfl rfl ?_
      refine s_getr 0 8 rfl k_fl31 rfl rfl rfl rfl ?_
      refine s_iloadn 0 9 rfl rfl ?_
      refine s_iald 0 10 rfl rfl H (fun _ H => ?_)
      refine s_goto 0 11 23 rfl (by decide) ?_
      exact s_iret 0 13 rfl rfl (hr _ _ (k_sat_some H))
set_option maxRecDepth 100000 in
theorem c_Changes_placeAt (g : k_G)  (p1 : Int32) {u : k_S} {QQ : Int32 → k_S → Prop} (H : k_sat (f_Changes_placeAt  p1 u) QQ) : k_OK g 1 MX1_placeAt [.ref 30, .int p1] u (k_qi QQ) := by
  have hr : ∀ (r : Int32) (u' : k_S), QQ (r) u' → (k_qi QQ) (some (.int r)) u' := fun r u' h => ⟨_, rfl, h⟩
  refine k_OK.ofW pfX1_placeAt (k_tab_of MX1_placeAt_dec) rfl ?_
  refine s_iloadn 0 0 rfl rfl ?_
  refine s_if_lt 0 1 22 rfl (by decide) H (fun _ H => ?_) (fun _ H => ?_)
  · refine s_const (-1) 0 12 rfl k_ic_m1 ?_
    exact s_iret 0 13 rfl rfl (hr _ _ (k_sat_some H))
  · refine s_iloadn 0 2 rfl rfl ?_
    refine s_aloadn 0 3 rfl rfl ?_
    refine s_getr 0 4 rfl k_fl32 rfl rfl rfl rfl ?_
    refine s_alen 40 0 5 rfl rfl k_ln_40 ?_
    refine s_icmp_ge 0 6 22 rfl (by decide) H (fun _ H => ?_) (fun _ H => ?_)
    · refine s_const (-1) 0 12 rfl k_ic_m1 ?_
      exact s_iret 0 13 rfl rfl (hr _ _ (k_sat_some H))
    · refine s_aloadn 0 7 rfl rfl ?_
      refine s_getr 0 8 rfl k_fl32 rfl rfl rfl rfl ?_
      refine s_iloadn 0 9 rfl rfl ?_
      refine s_iald 0 10 rfl rfl H (fun _ H => ?_)
      refine s_goto 0 11 23 rfl (by decide) ?_
      exact s_iret 0 13 rfl rfl (hr _ _ (k_sat_some H))
set_option maxRecDepth 100000 in
theorem c_Changes_beforeAt (g : k_G)  (p1 : Int32) {u : k_S} {QQ : Int32 → k_S → Prop} (H : k_sat (f_Changes_beforeAt  p1 u) QQ) : k_OK g 1 MX1_beforeAt [.ref 30, .int p1] u (k_qi QQ) := by
  have hr : ∀ (r : Int32) (u' : k_S), QQ (r) u' → (k_qi QQ) (some (.int r)) u' := fun r u' h => ⟨_, rfl, h⟩
  refine k_OK.ofW pfX1_beforeAt (k_tab_of MX1_beforeAt_dec) rfl ?_
  refine s_iloadn 0 0 rfl rfl ?_
  refine s_if_lt 0 1 22 rfl (by decide) H (fun _ H => ?_) (fun _ H => ?_)
  · refine s_const 0 0 12 rfl k_ic_0 ?_
    exact s_iret 0 13 rfl rfl (hr _ _ (k_sat_some H))
  · refine s_iloadn 0 2 rfl rfl ?_
    refine s_aloadn 0 3 rfl rfl ?_
    refine s_getr 0 4 rfl k_fl33 rfl rfl rfl rfl ?_
    refine s_alen 40 0 5 rfl rfl k_ln_40 ?_
    refine s_icmp_ge 0 6 22 rfl (by decide) H (fun _ H => ?_) (fun _ H => ?_)
    · refine s_const 0 0 12 rfl k_ic_0 ?_
      exact s_iret 0 13 rfl rfl (hr _ _ (k_sat_some H))
    · refine s_aloadn 0 7 rfl rfl ?_
      refine s_getr 0 8 rfl k_fl33 rfl rfl rfl rfl ?_
      refine s_iloadn 0 9 rfl rfl ?_
      refine s_iald 0 10 rfl rfl H (fun _ H => ?_)
      refine s_goto 0 11 23 rfl (by decide) ?_
      exact s_iret 0 13 rfl rfl (hr _ _ (k_sat_some H))
set_option maxRecDepth 100000 in
theorem c_Changes_afterAt (g : k_G)  (p1 : Int32) {u : k_S} {QQ : Int32 → k_S → Prop} (H : k_sat (f_Changes_afterAt  p1 u) QQ) : k_OK g 1 MX1_afterAt [.ref 30, .int p1] u (k_qi QQ) := by
  have hr : ∀ (r : Int32) (u' : k_S), QQ (r) u' → (k_qi QQ) (some (.int r)) u' := fun r u' h => ⟨_, rfl, h⟩
  refine k_OK.ofW pfX1_afterAt (k_tab_of MX1_afterAt_dec) rfl ?_
  refine s_iloadn 0 0 rfl rfl ?_
  refine s_if_lt 0 1 22 rfl (by decide) H (fun _ H => ?_) (fun _ H => ?_)
  · refine s_const 0 0 12 rfl k_ic_0 ?_
    exact s_iret 0 13 rfl rfl (hr _ _ (k_sat_some H))
  · refine s_iloadn 0 2 rfl rfl ?_
    refine s_aloadn 0 3 rfl rfl ?_
    refine s_getr 0 4 rfl k_fl34 rfl rfl rfl rfl ?_
    refine s_alen 40 0 5 rfl rfl k_ln_40 ?_
    refine s_icmp_ge 0 6 22 rfl (by decide) H (fun _ H => ?_) (fun _ H => ?_)
    · refine s_const 0 0 12 rfl k_ic_0 ?_
      exact s_iret 0 13 rfl rfl (hr _ _ (k_sat_some H))
    · refine s_aloadn 0 7 rfl rfl ?_
      refine s_getr 0 8 rfl k_fl34 rfl rfl rfl rfl ?_
      refine s_iloadn 0 9 rfl rfl ?_
      refine s_iald 0 10 rfl rfl H (fun _ H => ?_)
      refine s_goto 0 11 23 rfl (by decide) ?_
      exact s_iret 0 13 rfl rfl (hr _ _ (k_sat_some H))
set_option maxRecDepth 100000 in
theorem t_Changes_dropOldest_B2 (g : k_G)  (v1 : Int32)  {u : k_S} {QQ : ((Int32) ⊕ Unit) → k_S → Prop} {Q : Option Value → k_S → Prop} (hb : ∀ (x : (Int32)) (u' : k_S), QQ (.inl x) u' → k_W g 2 MX1_dropOldest 2 [(0, .ref 30), (1, .int x)] [] u' Q) (he : ∀ (y : Unit) (u' : k_S), QQ (.inr y) u' → k_W g 2 MX1_dropOldest 41 [(0, .ref 30)] [] u' Q) (H : k_sat (f_Changes_dropOldest_B2  v1 u) QQ) : k_W g 2 MX1_dropOldest 2 [(0, .ref 30), (1, .int v1)] [] u Q := by
  refine s_iloadn 0 2 rfl rfl ?_
  refine s_bipush 40 0 3 rfl k_ib_40 ?_
  refine s_icmp_ge 0 4 41 rfl (by decide) H (fun _ H => ?_) (fun _ H => ?_)
  · exact k_via (he _ _ (k_sat_some H)) ⟨rfl, trivial⟩
  · refine s_aloadn 0 5 rfl rfl ?_
    refine s_iloadn 0 6 rfl rfl ?_
    refine s_const 1 0 7 rfl k_ic_1 ?_
    refine s_isub 0 8 rfl ?_
    refine s_aloadn 0 9 rfl rfl ?_
    refine s_iloadn 0 10 rfl rfl ?_
    refine s_cvi1 (M' := MX1_wheelAt) 0 11 rfl k_ml75 vvX1_wheelAt rfl rfl (Nat.le_of_ble_eq_true rfl) rfl (c_Changes_wheelAt g _ (k_sat_bind H)) (fun r2 u1 H => ?_)
    refine s_aloadn 0 12 rfl rfl ?_
    refine s_iloadn 0 13 rfl rfl ?_
    refine s_cvi1 (M' := MX1_placeAt) 0 14 rfl k_ml76 vvX1_placeAt rfl rfl (Nat.le_of_ble_eq_true rfl) rfl (c_Changes_placeAt g _ (k_sat_bind H)) (fun r4 u3 H => ?_)
    refine s_aloadn 0 15 rfl rfl ?_
    refine s_iloadn 1 0 rfl rfl ?_
    refine s_cvi1 (M' := MX1_beforeAt) 1 1 rfl k_ml77 vvX1_beforeAt rfl rfl (Nat.le_of_ble_eq_true rfl) rfl (c_Changes_beforeAt g _ (k_sat_bind H)) (fun r6 u5 H => ?_)
    refine s_aloadn 1 2 rfl rfl ?_
    refine s_iloadn 1 3 rfl rfl ?_
    refine s_cvi1 (M' := MX1_afterAt) 1 4 rfl k_ml78 vvX1_afterAt rfl rfl (Nat.le_of_ble_eq_true rfl) rfl (c_Changes_afterAt g _ (k_sat_bind H)) (fun r8 u7 H => ?_)
    refine s_cvv5 (M' := MX1_write) 1 5 rfl k_ml74 vvX1_write rfl rfl (Nat.le_of_ble_eq_true rfl) rfl (c_Changes_write g _ _ _ _ _ (k_sat_bind H)) (fun _ u9 H => ?_)
    refine s_iinc 1 6 rfl rfl rfl ?_
    refine s_goto 1 7 2 rfl (by decide) ?_
    exact k_via (hb _ _ (k_sat_some H)) ⟨rfl, rfl, trivial⟩
set_option maxRecDepth 100000 in
theorem l_Changes_dropOldest_B2 (g : k_G)   {Q : Option Value → k_S → Prop} {K : Unit → k_S → Prop} (he : ∀ (y : Unit) (u' : k_S), K (y) u' → k_W g 2 MX1_dropOldest 41 [(0, .ref 30)] [] u' Q) : ∀ (n : Nat) (x : (Int32)) (u : k_S), k_sat (k_itr (fun (x : (Int32)) u => f_Changes_dropOldest_B2  x u) n x u) K → k_W g 2 MX1_dropOldest 2 [(0, .ref 30), (1, .int x)] [] u Q :=
  k_loop (P := fun (x : (Int32)) u => k_W g 2 MX1_dropOldest 2 [(0, .ref 30), (1, .int x)] [] u Q) (fun (x : (Int32)) u H => t_Changes_dropOldest_B2 g  x  (fun x u' h => h) (fun y u' h => he y u' h) H)
set_option maxRecDepth 100000 in
theorem c_Changes_dropOldest (g : k_G)   {u : k_S} {QQ : Unit → k_S → Prop} (H : k_sat (f_Changes_dropOldest   u) QQ) : k_OK g 2 MX1_dropOldest [.ref 30] u (k_qv QQ) := by
  have hr : ∀ (r : Unit) (u' : k_S), QQ (r) u' → (k_qv QQ) (none) u' := fun r u' h => ⟨rfl, h⟩
  refine k_OK.ofW pfX1_dropOldest (k_tab_of MX1_dropOldest_dec) rfl ?_
  refine s_const 1 0 0 rfl k_ic_1 ?_
  refine s_istoren 0 1 rfl rfl ?_
  refine k_via (l_Changes_dropOldest_B2 g   ?_ _ _ _ (k_sat_bind H)) ⟨rfl, rfl, trivial⟩
  · intro y11 u10 H
    refine s_aloadn 1 8 rfl rfl ?_
    refine s_bipush 39 1 9 rfl k_ib_39 ?_
    refine s_puti 3004 1 10 rfl k_fl35 rfl rfl rfl rfl rfl rfl rfl rfl rfl H (fun u12 H => ?_)
    exact s_ret 1 11 rfl rfl (hr _ _ (k_sat_some H))
set_option maxRecDepth 100000 in
theorem t_Changes_add_J20 (g : k_G)  (v1 : Int32) (v2 : Int32) (v3 : Int32) (v4 : Int32)  {u : k_S} {QQ : Unit → k_S → Prop} {Q : Option Value → k_S → Prop} (hr : ∀ (r : Unit) (u' : k_S), QQ (r) u' → (Q) (none) u') (H : k_sat (f_Changes_add_J20  v1 v2 v3 v4 u) QQ) : k_W g 3 MX1_add 20 [(0, .ref 30), (1, .int v1), (2, .int v2), (3, .int v3), (4, .int v4)] [] u Q := by
  refine s_aloadn 0 10 rfl rfl ?_
  refine s_aloadn 0 11 rfl rfl ?_
  refine s_geti 3004 0 12 rfl k_fl35 rfl rfl rfl rfl rfl ?_
  refine s_iloadn 0 13 rfl rfl ?_
  refine s_iloadn 0 14 rfl rfl ?_
  refine s_iloadn 0 15 rfl rfl ?_
  refine s_iload 1 0 rfl rfl ?_
  refine s_cvv5 (M' := MX1_write) 1 1 rfl k_ml74 vvX1_write rfl rfl (Nat.le_of_ble_eq_true rfl) rfl (c_Changes_write g _ _ _ _ _ (k_sat_bind H)) (fun _ u1 H => ?_)
  refine s_aloadn 1 2 rfl rfl ?_
  refine s_dupr 1 3 rfl ?_
  refine s_geti 3004 1 4 rfl k_fl35 rfl rfl rfl rfl rfl ?_
  refine s_const 1 1 5 rfl k_ic_1 ?_
  refine s_iadd 1 6 rfl ?_
  refine s_puti 3004 1 7 rfl k_fl35 rfl rfl rfl rfl rfl rfl rfl rfl rfl H (fun u2 H => ?_)
  refine s_aloadn 1 8 rfl rfl ?_
  refine s_aloadn 1 9 rfl rfl ?_
  refine s_geti 3004 1 10 rfl k_fl35 rfl rfl rfl rfl rfl ?_
  refine s_puti 3005 1 11 rfl k_fl36 rfl rfl rfl rfl rfl rfl rfl rfl rfl H (fun u3 H => ?_)
  exact s_ret 1 12 rfl rfl (hr _ _ (k_sat_some H))
set_option maxRecDepth 100000 in
theorem c_Changes_add (g : k_G)  (p1 : Int32) (p2 : Int32) (p3 : Int32) (p4 : Int32) {u : k_S} {QQ : Unit → k_S → Prop} (H : k_sat (f_Changes_add  p1 p2 p3 p4 u) QQ) : k_OK g 3 MX1_add [.ref 30, .int p1, .int p2, .int p3, .int p4] u (k_qv QQ) := by
  have hr : ∀ (r : Unit) (u' : k_S), QQ (r) u' → (k_qv QQ) (none) u' := fun r u' h => ⟨rfl, h⟩
  refine k_OK.ofW pfX1_add (k_tab_of MX1_add_dec) rfl ?_
  refine s_iloadn 0 0 rfl rfl ?_
  refine s_iload 0 1 rfl rfl ?_
  refine s_icmp_ne 0 2 7 rfl (by decide) H (fun _ H => ?_) (fun _ H => ?_)
  · refine s_aloadn 0 4 rfl rfl ?_
    refine s_geti 3004 0 5 rfl k_fl35 rfl rfl rfl rfl rfl ?_
    refine s_bipush 40 0 6 rfl k_ib_40 ?_
    refine s_icmp_lt 0 7 20 rfl (by decide) H (fun _ H => ?_) (fun _ H => ?_)
    · exact k_via (t_Changes_add_J20 g  _ _ _ _  hr H) ⟨rfl, rfl, rfl, rfl, rfl, trivial⟩
    · refine s_aloadn 0 8 rfl rfl ?_
      refine s_cvv0 (M' := MX1_dropOldest) 0 9 rfl k_ml73 vvX1_dropOldest rfl rfl (Nat.le_of_ble_eq_true rfl) rfl (c_Changes_dropOldest g (k_sat_bind H)) (fun _ u4 H => ?_)
      exact k_via (t_Changes_add_J20 g  _ _ _ _  hr H) ⟨rfl, rfl, rfl, rfl, rfl, trivial⟩
  · exact s_ret 0 3 rfl rfl (hr _ _ (k_sat_some H))
set_option maxRecDepth 100000 in
theorem c_W_broke (g : k_G)  (p1 : Int32) (p2 : Int32) {u : k_S} {QQ : Int32 → k_S → Prop} (H : k_sat (f_W_broke  p1 p2 u) QQ) : k_OK g 4 MX11_broke [.ref 0, .int p1, .int p2] u (k_qi QQ) := by
  have hr : ∀ (r : Int32) (u' : k_S), QQ (r) u' → (k_qi QQ) (some (.int r)) u' := fun r u' h => ⟨_, rfl, h⟩
  refine k_OK.ofW pfX11_broke (k_tab_of MX11_broke_dec) rfl ?_
  refine s_aloadn 0 0 rfl rfl ?_
  refine s_getr 0 1 rfl k_fl1 rfl rfl rfl rfl ?_
  refine s_iloadn 0 2 rfl rfl ?_
  refine s_cvi1 (M' := MX10_has) 0 3 rfl k_ml14 vvX10_has rfl rfl (Nat.le_of_ble_eq_true rfl) rfl (c_Wheels_has g _ (k_sat_bind H)) (fun r2 u1 H => ?_)
  refine s_if_eq 0 4 22 rfl (by decide) H (fun _ H => ?_) (fun _ H => ?_)
  · refine s_const (-1) 0 10 rfl k_ic_m1 ?_
    exact s_iret 0 11 rfl rfl (hr _ _ (k_sat_some H))
  · refine s_iloadn 0 5 rfl rfl ?_
    refine s_if_lt 0 6 22 rfl (by decide) H (fun _ H => ?_) (fun _ H => ?_)
    · refine s_const (-1) 0 10 rfl k_ic_m1 ?_
      exact s_iret 0 11 rfl rfl (hr _ _ (k_sat_some H))
    · refine s_iloadn 0 7 rfl rfl ?_
      refine s_sipush 9999 0 8 rfl k_is_9999 ?_
      refine s_icmp_le 0 9 24 rfl (by decide) H (fun _ H => ?_) (fun _ H => ?_)
      · refine s_aloadn 0 12 rfl rfl ?_
        refine s_getr 0 13 rfl k_fl1 rfl rfl rfl rfl ?_
        refine s_iloadn 0 14 rfl rfl ?_
        refine s_cvi1 (M' := MX10_breakOf) 0 15 rfl k_ml15 vvX10_breakOf rfl rfl (Nat.le_of_ble_eq_true rfl) rfl (c_Wheels_breakOf g _ (k_sat_bind H)) (fun r4 u3 H => ?_)
        refine s_istoren 1 0 rfl rfl ?_
        refine s_aloadn 1 1 rfl rfl ?_
        refine s_getr 1 2 rfl k_fl1 rfl rfl rfl rfl ?_
        refine s_iloadn 1 3 rfl rfl ?_
        refine s_iloadn 1 4 rfl rfl ?_
        refine s_cvv2 (M' := MX10_setBreak) 1 5 rfl k_ml16 vvX10_setBreak rfl rfl (Nat.le_of_ble_eq_true rfl) rfl (c_Wheels_setBreak g _ _ (k_sat_bind H)) (fun _ u5 H => ?_)
        refine s_aloadn 1 6 rfl rfl ?_
        refine s_getr 1 7 rfl k_fl7 rfl rfl rfl rfl ?_
        refine s_iloadn 1 8 rfl rfl ?_
        refine s_const (-1) 1 9 rfl k_ic_m1 ?_
        refine s_iloadn 1 10 rfl rfl ?_
        refine s_iloadn 1 11 rfl rfl ?_
        refine s_cvv4 (M' := MX1_add) 1 12 rfl k_ml17 vvX1_add rfl rfl (Nat.le_of_ble_eq_true rfl) rfl (c_Changes_add g _ _ _ _ (k_sat_bind H)) (fun _ u6 H => ?_)
        refine s_iloadn 1 13 rfl rfl ?_
        exact s_iret 1 14 rfl rfl (hr _ _ (k_sat_some H))
      · refine s_const (-1) 0 10 rfl k_ic_m1 ?_
        exact s_iret 0 11 rfl rfl (hr _ _ (k_sat_some H))
set_option maxRecDepth 100000 in
theorem c_R_isWheel (g : k_G)  (p1 : Int32) {u : k_S} {QQ : Int32 → k_S → Prop} (H : k_sat (f_R_isWheel  p1 u) QQ) : k_OK g 2 MX12_isWheel [.ref 42, .int p1] u (k_qi QQ) := by
  have hr : ∀ (r : Int32) (u' : k_S), QQ (r) u' → (k_qi QQ) (some (.int r)) u' := fun r u' h => ⟨_, rfl, h⟩
  refine k_OK.ofW pfX12_isWheel (k_tab_of MX12_isWheel_dec) rfl ?_
  refine s_iloadn 0 0 rfl rfl ?_
  refine s_const 0 0 1 rfl k_ic_0 ?_
  refine s_aloadn 0 2 rfl rfl ?_
  refine s_geti 4203 0 3 rfl k_fl122 rfl rfl rfl rfl rfl ?_
  refine s_const 1 0 4 rfl k_ic_1 ?_
  refine s_isub 0 5 rfl ?_
  refine s_csi3 (M' := MX12_in) 0 6 rfl k_ml230 vvX12_in (Nat.le_of_ble_eq_true rfl) rfl (c_R_in g _ _ _ (k_sat_bind H)) (fun r2 u1 H => ?_)
  exact s_zret 0 7 rfl rfl (k_sat_zb H).1 (hr _ _ (k_sat_some (k_sat_zb H).2))
set_option maxRecDepth 100000 in
theorem c_R_valueAt (g : k_G)  (p1 : Int32) (p2 : Int32) {u : k_S} {QQ : Int32 → k_S → Prop} (H : k_sat (f_R_valueAt  p1 p2 u) QQ) : k_OK g 1 MX12_valueAt [.ref 42, .int p1, .int p2] u (k_qi QQ) := by
  have hr : ∀ (r : Int32) (u' : k_S), QQ (r) u' → (k_qi QQ) (some (.int r)) u' := fun r u' h => ⟨_, rfl, h⟩
  refine k_OK.ofW pfX12_valueAt (k_tab_of MX12_valueAt_dec) rfl ?_
  refine s_iloadn 0 0 rfl rfl ?_
  refine s_if_ne 0 1 13 rfl (by decide) H (fun _ H => ?_) (fun _ H => ?_)
  · refine s_aloadn 0 7 rfl rfl ?_
    refine s_getr 0 8 rfl k_fl92 rfl rfl rfl rfl ?_
    refine s_iloadn 0 9 rfl rfl ?_
    refine s_iald 0 10 rfl rfl H (fun _ H => ?_)
    exact s_iret 0 11 rfl rfl (hr _ _ (k_sat_some H))
  · refine s_aloadn 0 2 rfl rfl ?_
    refine s_getr 0 3 rfl k_fl88 rfl rfl rfl rfl ?_
    refine s_iloadn 0 4 rfl rfl ?_
    refine s_iald 0 5 rfl rfl H (fun _ H => ?_)
    refine s_goto 0 6 19 rfl (by decide) ?_
    exact s_iret 0 11 rfl rfl (hr _ _ (k_sat_some H))
set_option maxRecDepth 100000 in
theorem c_R_lays (g : k_G)  (p1 : Int32) (p2 : Int32) (p3 : Int32) {u : k_S} {QQ : Unit → k_S → Prop} (H : k_sat (f_R_lays  p1 p2 p3 u) QQ) : k_OK g 1 MX12_lays [.ref 42, .int p1, .int p2, .int p3] u (k_qv QQ) := by
  have hr : ∀ (r : Unit) (u' : k_S), QQ (r) u' → (k_qv QQ) (none) u' := fun r u' h => ⟨rfl, h⟩
  refine k_OK.ofW pfX12_lays (k_tab_of MX12_lays_dec) rfl ?_
  refine s_iloadn 0 0 rfl rfl ?_
  refine s_if_ne 0 1 14 rfl (by decide) H (fun _ H => ?_) (fun _ H => ?_)
  · refine s_aloadn 0 8 rfl rfl ?_
    refine s_getr 0 9 rfl k_fl92 rfl rfl rfl rfl ?_
    refine s_iloadn 0 10 rfl rfl ?_
    refine s_iloadn 0 11 rfl rfl ?_
    refine s_iast 0 12 rfl rfl H (fun u1 H => ?_)
    exact s_ret 0 13 rfl rfl (hr _ _ (k_sat_some H))
  · refine s_aloadn 0 2 rfl rfl ?_
    refine s_getr 0 3 rfl k_fl88 rfl rfl rfl rfl ?_
    refine s_iloadn 0 4 rfl rfl ?_
    refine s_iloadn 0 5 rfl rfl ?_
    refine s_iast 0 6 rfl rfl H (fun u2 H => ?_)
    refine s_goto 0 7 21 rfl (by decide) ?_
    exact s_ret 0 13 rfl rfl (hr _ _ (k_sat_some H))
set_option maxRecDepth 100000 in
theorem t_R_changes_J121 (g : k_G)  (v1 : Int32) (v2 : Int32) (v3 : Int32) (v4 : Int32)  {u : k_S} {QQ : Int32 → k_S → Prop} {Q : Option Value → k_S → Prop} (hr : ∀ (r : Int32) (u' : k_S), QQ (r) u' → (Q) (some (.int r)) u') (H : k_sat (f_R_changes_J121  v1 v2 v3 v4 u) QQ) : k_W g 2 MX12_changes 121 [(0, .ref 42), (1, .int v1), (2, .int v2), (3, .int v3), (4, .int v4)] [] u Q := by
  refine s_aloadn 4 6 rfl rfl ?_
  refine s_getr 4 7 rfl k_fl101 rfl rfl rfl rfl ?_
  refine s_aloadn 4 8 rfl rfl ?_
  refine s_geti 4224 4 9 rfl k_fl131 rfl rfl rfl rfl rfl ?_
  refine s_iloadn 4 10 rfl rfl ?_
  refine s_iast 4 11 rfl rfl H (fun u4 H => ?_)
  refine s_aloadn 4 12 rfl rfl ?_
  refine s_getr 4 13 rfl k_fl102 rfl rfl rfl rfl ?_
  refine s_aloadn 4 14 rfl rfl ?_
  refine s_geti 4224 4 15 rfl k_fl131 rfl rfl rfl rfl rfl ?_
  refine s_iloadn 5 0 rfl rfl ?_
  refine s_iast 5 1 rfl rfl H (fun u5 H => ?_)
  refine s_aloadn 5 2 rfl rfl ?_
  refine s_getr 5 3 rfl k_fl103 rfl rfl rfl rfl ?_
  refine s_aloadn 5 4 rfl rfl ?_
  refine s_geti 4224 5 5 rfl k_fl131 rfl rfl rfl rfl rfl ?_
  refine s_iload 5 6 rfl rfl ?_
  refine s_iast 5 7 rfl rfl H (fun u6 H => ?_)
  refine s_aloadn 5 8 rfl rfl ?_
  refine s_getr 5 9 rfl k_fl104 rfl rfl rfl rfl ?_
  refine s_aloadn 5 10 rfl rfl ?_
  refine s_geti 4224 5 11 rfl k_fl131 rfl rfl rfl rfl rfl ?_
  refine s_iloadn 5 12 rfl rfl ?_
  refine s_iast 5 13 rfl rfl H (fun u7 H => ?_)
  refine s_aloadn 5 14 rfl rfl ?_
  refine s_dupr 5 15 rfl ?_
  refine s_geti 4224 6 0 rfl k_fl131 rfl rfl rfl rfl rfl ?_
  refine s_const 1 6 1 rfl k_ic_1 ?_
  refine s_iadd 6 2 rfl ?_
  refine s_puti 4224 6 3 rfl k_fl131 rfl rfl rfl rfl rfl rfl rfl rfl rfl H (fun u8 H => ?_)
  refine s_aloadn 6 4 rfl rfl ?_
  refine s_iloadn 6 5 rfl rfl ?_
  refine s_iloadn 6 6 rfl rfl ?_
  refine s_iloadn 6 7 rfl rfl ?_
  refine s_cvv3 (M' := MX12_lays) 6 8 rfl k_ml250 vvX12_lays rfl rfl (Nat.le_of_ble_eq_true rfl) rfl (c_R_lays g _ _ _ (k_sat_bind H)) (fun _ u9 H => ?_)
  refine s_iload 6 9 rfl rfl ?_
  exact s_iret 6 10 rfl rfl (hr _ _ (k_sat_some H))
set_option maxRecDepth 100000 in
theorem t_R_changes_B34 (g : k_G)  (v1 : Int32) (v2 : Int32) (v3 : Int32) (v4 : Int32) (v5 : Int32)  {u : k_S} {QQ : ((Int32) ⊕ Unit) → k_S → Prop} {Q : Option Value → k_S → Prop} (hb : ∀ (x : (Int32)) (u' : k_S), QQ (.inl x) u' → k_W g 2 MX12_changes 34 [(0, .ref 42), (1, .int v1), (2, .int v2), (3, .int v3), (4, .int v4), (5, .int x)] [] u' Q) (he : ∀ (y : Unit) (u' : k_S), QQ (.inr y) u' → k_W g 2 MX12_changes 111 [(0, .ref 42), (1, .int v1), (2, .int v2), (3, .int v3), (4, .int v4)] [] u' Q) (H : k_sat (f_R_changes_B34  v1 v2 v3 v4 v5 u) QQ) : k_W g 2 MX12_changes 34 [(0, .ref 42), (1, .int v1), (2, .int v2), (3, .int v3), (4, .int v4), (5, .int v5)] [] u Q := by
  refine s_iload 1 3 rfl rfl ?_
  refine s_bipush 40 1 4 rfl k_ib_40 ?_
  refine s_icmp_ge 1 5 111 rfl (by decide) H (fun _ H => ?_) (fun _ H => ?_)
  · exact k_via (he _ _ (k_sat_some H)) ⟨rfl, rfl, rfl, rfl, rfl, trivial⟩
  · refine s_aloadn 1 6 rfl rfl ?_
    refine s_getr 1 7 rfl k_fl101 rfl rfl rfl rfl ?_
    refine s_iload 1 8 rfl rfl ?_
    refine s_const 1 1 9 rfl k_ic_1 ?_
    refine s_isub 1 10 rfl ?_
    refine s_aloadn 1 11 rfl rfl ?_
    refine s_getr 1 12 rfl k_fl101 rfl rfl rfl rfl ?_
    refine s_iload 1 13 rfl rfl ?_
    refine s_iald 1 14 rfl rfl H (fun _ H => ?_)
    refine s_iast 1 15 rfl rfl H (fun u10 H => ?_)
    refine s_aloadn 2 0 rfl rfl ?_
    refine s_getr 2 1 rfl k_fl102 rfl rfl rfl rfl ?_
    refine s_iload 2 2 rfl rfl ?_
    refine s_const 1 2 3 rfl k_ic_1 ?_
    refine s_isub 2 4 rfl ?_
    refine s_aloadn 2 5 rfl rfl ?_
    refine s_getr 2 6 rfl k_fl102 rfl rfl rfl rfl ?_
    refine s_iload 2 7 rfl rfl ?_
    refine s_iald 2 8 rfl rfl H (fun _ H => ?_)
    refine s_iast 2 9 rfl rfl H (fun u11 H => ?_)
    refine s_aloadn 2 10 rfl rfl ?_
    refine s_getr 2 11 rfl k_fl103 rfl rfl rfl rfl ?_
    refine s_iload 2 12 rfl rfl ?_
    refine s_const 1 2 13 rfl k_ic_1 ?_
    refine s_isub 2 14 rfl ?_
    refine s_aloadn 2 15 rfl rfl ?_
    refine s_getr 3 0 rfl k_fl103 rfl rfl rfl rfl ?_
    refine s_iload 3 1 rfl rfl ?_
    refine s_iald 3 2 rfl rfl H (fun _ H => ?_)
    refine s_iast 3 3 rfl rfl H (fun u12 H => ?_)
    refine s_aloadn 3 4 rfl rfl ?_
    refine s_getr 3 5 rfl k_fl104 rfl rfl rfl rfl ?_
    refine s_iload 3 6 rfl rfl ?_
    refine s_const 1 3 7 rfl k_ic_1 ?_
    refine s_isub 3 8 rfl ?_
    refine s_aloadn 3 9 rfl rfl ?_
    refine s_getr 3 10 rfl k_fl104 rfl rfl rfl rfl ?_
    refine s_iload 3 11 rfl rfl ?_
    refine s_iald 3 12 rfl rfl H (fun _ H => ?_)
    refine s_iast 3 13 rfl rfl H (fun u13 H => ?_)
    refine s_iinc 3 14 rfl rfl rfl ?_
    refine s_goto 3 15 34 rfl (by decide) ?_
    exact k_via (hb _ _ (k_sat_some H)) ⟨rfl, rfl, rfl, rfl, rfl, rfl, trivial⟩
set_option maxRecDepth 100000 in
theorem l_R_changes_B34 (g : k_G)  (v1 : Int32) (v2 : Int32) (v3 : Int32) (v4 : Int32) {Q : Option Value → k_S → Prop} {K : Unit → k_S → Prop} (he : ∀ (y : Unit) (u' : k_S), K (y) u' → k_W g 2 MX12_changes 111 [(0, .ref 42), (1, .int v1), (2, .int v2), (3, .int v3), (4, .int v4)] [] u' Q) : ∀ (n : Nat) (x : (Int32)) (u : k_S), k_sat (k_itr (fun (x : (Int32)) u => f_R_changes_B34  v1 v2 v3 v4 x u) n x u) K → k_W g 2 MX12_changes 34 [(0, .ref 42), (1, .int v1), (2, .int v2), (3, .int v3), (4, .int v4), (5, .int x)] [] u Q :=
  k_loop (P := fun (x : (Int32)) u => k_W g 2 MX12_changes 34 [(0, .ref 42), (1, .int v1), (2, .int v2), (3, .int v3), (4, .int v4), (5, .int x)] [] u Q) (fun (x : (Int32)) u H => t_R_changes_B34 g  v1 v2 v3 v4 x  (fun x u' h => h) (fun y u' h => he y u' h) H)
set_option maxRecDepth 100000 in
theorem c_R_changes (g : k_G)  (p1 : Int32) (p2 : Int32) (p3 : Int32) {u : k_S} {QQ : Int32 → k_S → Prop} (H : k_sat (f_R_changes  p1 p2 p3 u) QQ) : k_OK g 2 MX12_changes [.ref 42, .int p1, .int p2, .int p3] u (k_qi QQ) := by
  have hr : ∀ (r : Int32) (u' : k_S), QQ (r) u' → (k_qi QQ) (some (.int r)) u' := fun r u' h => ⟨_, rfl, h⟩
  refine k_OK.ofW pfX12_changes (k_tab_of MX12_changes_dec) rfl ?_
  refine s_aloadn 0 0 rfl rfl ?_
  refine s_iloadn 0 1 rfl rfl ?_
  refine s_iloadn 0 2 rfl rfl ?_
  refine s_cvi2 (M' := MX12_valueAt) 0 3 rfl k_ml249 vvX12_valueAt rfl rfl (Nat.le_of_ble_eq_true rfl) rfl (c_R_valueAt g _ _ (k_sat_bind H)) (fun r2 u1 H => ?_)
  refine s_istore 0 4 rfl rfl ?_
  refine s_iload 0 5 rfl rfl ?_
  refine s_iloadn 0 6 rfl rfl ?_
  refine s_icmp_ne 0 7 17 rfl (by decide) H (fun _ H => ?_) (fun _ H => ?_)
  · refine s_aloadn 0 10 rfl rfl ?_
    refine s_const 0 0 11 rfl k_ic_0 ?_
    refine s_puti 4225 0 12 rfl k_fl130 rfl rfl rfl rfl rfl rfl rfl rfl rfl H (fun u3 H => ?_)
    refine s_aloadn 0 13 rfl rfl ?_
    refine s_geti 4224 0 14 rfl k_fl131 rfl rfl rfl rfl rfl ?_
    refine s_bipush 40 0 15 rfl k_ib_40 ?_
    refine s_icmp_ne 1 0 121 rfl (by decide) H (fun _ H => ?_) (fun _ H => ?_)
    · exact k_via (t_R_changes_J121 g  _ _ _ _  hr H) ⟨rfl, rfl, rfl, rfl, rfl, trivial⟩
    · refine s_const 1 1 1 rfl k_ic_1 ?_
      refine s_istore 1 2 rfl rfl ?_
      refine k_via (l_R_changes_B34 g  p1 p2 p3 r2 ?_ _ _ _ (k_sat_bind H)) ⟨rfl, rfl, rfl, rfl, rfl, rfl, trivial⟩
      · intro y15 u14 H
        refine s_aloadn 4 0 rfl rfl ?_
        refine s_dupr 4 1 rfl ?_
        refine s_geti 4224 4 2 rfl k_fl131 rfl rfl rfl rfl rfl ?_
        refine s_const 1 4 3 rfl k_ic_1 ?_
        refine s_isub 4 4 rfl ?_
        refine s_puti 4224 4 5 rfl k_fl131 rfl rfl rfl rfl rfl rfl rfl rfl rfl H (fun u16 H => ?_)
        exact k_via (t_R_changes_J121 g  _ _ _ _  hr H) ⟨rfl, rfl, rfl, rfl, rfl, trivial⟩
  · refine s_iload 0 8 rfl rfl ?_
    exact s_iret 0 9 rfl rfl (hr _ _ (k_sat_some H))
set_option maxRecDepth 100000 in
theorem c_R_broke (g : k_G)  (p1 : Int32) (p2 : Int32) {u : k_S} {QQ : Int32 → k_S → Prop} (H : k_sat (f_R_broke  p1 p2 u) QQ) : k_OK g 3 MX12_broke [.ref 42, .int p1, .int p2] u (k_qi QQ) := by
  have hr : ∀ (r : Int32) (u' : k_S), QQ (r) u' → (k_qi QQ) (some (.int r)) u' := fun r u' h => ⟨_, rfl, h⟩
  refine k_OK.ofW pfX12_broke (k_tab_of MX12_broke_dec) rfl ?_
  refine s_aloadn 0 0 rfl rfl ?_
  refine s_iloadn 0 1 rfl rfl ?_
  refine s_cvi1 (M' := MX12_isWheel) 0 2 rfl k_ml251 vvX12_isWheel rfl rfl (Nat.le_of_ble_eq_true rfl) rfl (c_R_isWheel g _ (k_sat_bind H)) (fun r2 u1 H => ?_)
  refine s_if_eq 0 3 29 rfl (by decide) H (fun _ H => ?_) (fun _ H => ?_)
  · refine s_const (-1) 0 15 rfl k_ic_m1 ?_
    exact s_iret 1 0 rfl rfl (hr _ _ (k_sat_some H))
  · refine s_iloadn 0 4 rfl rfl ?_
    refine s_const 0 0 5 rfl k_ic_0 ?_
    refine s_sipush 9999 0 6 rfl k_is_9999 ?_
    refine s_csi3 (M' := MX12_in) 0 7 rfl k_ml230 vvX12_in (Nat.le_of_ble_eq_true rfl) rfl (c_R_in g _ _ _ (k_sat_bind H)) (fun r4 u3 H => ?_)
    refine s_if_eq 0 8 29 rfl (by decide) H (fun _ H => ?_) (fun _ H => ?_)
    · refine s_const (-1) 0 15 rfl k_ic_m1 ?_
      exact s_iret 1 0 rfl rfl (hr _ _ (k_sat_some H))
    · refine s_aloadn 0 9 rfl rfl ?_
      refine s_const 1 0 10 rfl k_ic_1 ?_
      refine s_iloadn 0 11 rfl rfl ?_
      refine s_iloadn 0 12 rfl rfl ?_
      refine s_cvi3 (M' := MX12_changes) 0 13 rfl k_ml252 vvX12_changes rfl rfl (Nat.le_of_ble_eq_true rfl) rfl (c_R_changes g _ _ _ (k_sat_bind H)) (fun r6 u5 H => ?_)
      refine s_goto 0 14 30 rfl (by decide) ?_
      exact s_iret 1 0 rfl rfl (hr _ _ (k_sat_some H))
set_option maxRecDepth 100000 in
theorem c_Wheels_hasPlace (g : k_G)  (p1 : Int32) (p2 : Int32) {u : k_S} {QQ : Int32 → k_S → Prop} (H : k_sat (f_Wheels_hasPlace  p1 p2 u) QQ) : k_OK g 2 MX10_hasPlace [.ref 3, .int p1, .int p2] u (k_qi QQ) := by
  have hr : ∀ (r : Int32) (u' : k_S), QQ (r) u' → (k_qi QQ) (some (.int r)) u' := fun r u' h => ⟨_, rfl, h⟩
  refine k_OK.ofW pfX10_hasPlace (k_tab_of MX10_hasPlace_dec) rfl ?_
  refine s_aloadn 0 0 rfl rfl ?_
  refine s_iloadn 0 1 rfl rfl ?_
  refine s_cvi1 (M' := MX10_has) 0 2 rfl k_ml144 vvX10_has rfl rfl (Nat.le_of_ble_eq_true rfl) rfl (c_Wheels_has g _ (k_sat_bind H)) (fun r2 u1 H => ?_)
  refine s_if_eq 0 3 26 rfl (by decide) H (fun _ H => ?_) (fun _ H => ?_)
  · refine s_const 0 0 14 rfl k_ic_0 ?_
    exact s_zret 0 15 rfl rfl k_z0 (hr _ _ (k_sat_some H))
  · refine s_iloadn 0 4 rfl rfl ?_
    refine s_if_lt 0 5 26 rfl (by decide) H (fun _ H => ?_) (fun _ H => ?_)
    · refine s_const 0 0 14 rfl k_ic_0 ?_
      exact s_zret 0 15 rfl rfl k_z0 (hr _ _ (k_sat_some H))
    · refine s_iloadn 0 6 rfl rfl ?_
      refine s_aloadn 0 7 rfl rfl ?_
      refine s_getr 0 8 rfl k_fl83 rfl rfl rfl rfl ?_
      refine s_iloadn 0 9 rfl rfl ?_
      refine s_iald 0 10 rfl rfl H (fun _ H => ?_)
      refine s_icmp_ge 0 11 26 rfl (by decide) H (fun _ H => ?_) (fun _ H => ?_)
      · refine s_const 0 0 14 rfl k_ic_0 ?_
        exact s_zret 0 15 rfl rfl k_z0 (hr _ _ (k_sat_some H))
      · refine s_const 1 0 12 rfl k_ic_1 ?_
        refine s_goto 0 13 27 rfl (by decide) ?_
        exact s_zret 0 15 rfl rfl k_z1 (hr _ _ (k_sat_some H))
set_option maxRecDepth 100000 in
theorem c_Wheels_letterAt (g : k_G)  (p1 : Int32) (p2 : Int32) {u : k_S} {QQ : Int32 → k_S → Prop} (H : k_sat (f_Wheels_letterAt  p1 p2 u) QQ) : k_OK g 1 MX10_letterAt [.ref 3, .int p1, .int p2] u (k_qi QQ) := by
  have hr : ∀ (r : Int32) (u' : k_S), QQ (r) u' → (k_qi QQ) (some (.int r)) u' := fun r u' h => ⟨_, rfl, h⟩
  refine k_OK.ofW pfX10_letterAt (k_tab_of MX10_letterAt_dec) rfl ?_
  refine s_bipush 40 0 0 rfl k_ib_40 ?_
  refine s_iloadn 0 1 rfl rfl ?_
  refine s_imul 0 2 rfl ?_
  refine s_iloadn 0 3 rfl rfl ?_
  refine s_iadd 0 4 rfl ?_
  refine k_topi H (fun t1 H => ?_)
  refine s_istoren 0 5 rfl rfl ?_
  refine s_iloadn 0 6 rfl rfl ?_
  refine s_if_lt 0 7 29 rfl (by decide) H (fun _ H => ?_) (fun _ H => ?_)
  · refine s_const 0 1 2 rfl k_ic_0 ?_
    exact s_iret 1 3 rfl rfl (hr _ _ (k_sat_some H))
  · refine s_iloadn 0 8 rfl rfl ?_
    refine s_aloadn 0 9 rfl rfl ?_
    refine s_getr 0 10 rfl k_fl82 rfl rfl rfl rfl ?_
    refine s_alen 160 0 11 rfl rfl k_ln_160 ?_
    refine s_icmp_ge 0 12 29 rfl (by decide) H (fun _ H => ?_) (fun _ H => ?_)
    · refine s_const 0 1 2 rfl k_ic_0 ?_
      exact s_iret 1 3 rfl rfl (hr _ _ (k_sat_some H))
    · refine s_aloadn 0 13 rfl rfl ?_
      refine s_getr 0 14 rfl k_fl82 rfl rfl rfl rfl ?_
      refine s_iloadn 0 15 rfl rfl ?_
      refine s_iald 1 0 rfl rfl H (fun _ H => ?_)
      refine s_goto 1 1 30 rfl (by decide) ?_
      exact s_iret 1 3 rfl rfl (hr _ _ (k_sat_some H))
set_option maxRecDepth 100000 in
theorem c_W_tooth (g : k_G)  (p1 : Int32) (p2 : Int32) (p3 : Int32) {u : k_S} {QQ : Int32 → k_S → Prop} (H : k_sat (f_W_tooth  p1 p2 p3 u) QQ) : k_OK g 4 MX11_tooth [.ref 0, .int p1, .int p2, .int p3] u (k_qi QQ) := by
  have hr : ∀ (r : Int32) (u' : k_S), QQ (r) u' → (k_qi QQ) (some (.int r)) u' := fun r u' h => ⟨_, rfl, h⟩
  refine k_OK.ofW pfX11_tooth (k_tab_of MX11_tooth_dec) rfl ?_
  refine s_aloadn 0 0 rfl rfl ?_
  refine s_getr 0 1 rfl k_fl1 rfl rfl rfl rfl ?_
  refine s_iloadn 0 2 rfl rfl ?_
  refine s_iloadn 0 3 rfl rfl ?_
  refine s_cvi2 (M' := MX10_hasPlace) 0 4 rfl k_ml18 vvX10_hasPlace rfl rfl (Nat.le_of_ble_eq_true rfl) rfl (c_Wheels_hasPlace g _ _ (k_sat_bind H)) (fun r2 u1 H => ?_)
  refine s_if_eq 0 5 19 rfl (by decide) H (fun _ H => ?_) (fun _ H => ?_)
  · refine s_const (-1) 0 9 rfl k_ic_m1 ?_
    exact s_iret 0 10 rfl rfl (hr _ _ (k_sat_some H))
  · refine s_iloadn 0 6 rfl rfl ?_
    refine s_csi1 (M' := MX11_isTooth) 0 7 rfl k_ml19 vvX11_isTooth (Nat.le_of_ble_eq_true rfl) rfl (c_W_isTooth g _ (k_sat_bind H)) (fun r4 u3 H => ?_)
    refine s_if_ne 0 8 21 rfl (by decide) H (fun _ H => ?_) (fun _ H => ?_)
    · refine s_aloadn 0 11 rfl rfl ?_
      refine s_getr 0 12 rfl k_fl1 rfl rfl rfl rfl ?_
      refine s_iloadn 0 13 rfl rfl ?_
      refine s_iloadn 0 14 rfl rfl ?_
      refine s_cvi2 (M' := MX10_letterAt) 0 15 rfl k_ml20 vvX10_letterAt rfl rfl (Nat.le_of_ble_eq_true rfl) rfl (c_Wheels_letterAt g _ _ (k_sat_bind H)) (fun r6 u5 H => ?_)
      refine s_istore 1 0 rfl rfl ?_
      refine s_aloadn 1 1 rfl rfl ?_
      refine s_getr 1 2 rfl k_fl1 rfl rfl rfl rfl ?_
      refine s_iloadn 1 3 rfl rfl ?_
      refine s_iloadn 1 4 rfl rfl ?_
      refine s_iloadn 1 5 rfl rfl ?_
      refine s_cvv3 (M' := MX10_setLetter) 1 6 rfl k_ml21 vvX10_setLetter rfl rfl (Nat.le_of_ble_eq_true rfl) rfl (c_Wheels_setLetter g _ _ _ (k_sat_bind H)) (fun _ u7 H => ?_)
      refine s_aloadn 1 7 rfl rfl ?_
      refine s_getr 1 8 rfl k_fl7 rfl rfl rfl rfl ?_
      refine s_iloadn 1 9 rfl rfl ?_
      refine s_iloadn 1 10 rfl rfl ?_
      refine s_iload 1 11 rfl rfl ?_
      refine s_iloadn 1 12 rfl rfl ?_
      refine s_cvv4 (M' := MX1_add) 1 13 rfl k_ml17 vvX1_add rfl rfl (Nat.le_of_ble_eq_true rfl) rfl (c_Changes_add g _ _ _ _ (k_sat_bind H)) (fun _ u8 H => ?_)
      refine s_iload 1 14 rfl rfl ?_
      exact s_iret 1 15 rfl rfl (hr _ _ (k_sat_some H))
    · refine s_const (-1) 0 9 rfl k_ic_m1 ?_
      exact s_iret 0 10 rfl rfl (hr _ _ (k_sat_some H))
set_option maxRecDepth 100000 in
theorem c_R_tooth (g : k_G)  (p1 : Int32) (p2 : Int32) (p3 : Int32) {u : k_S} {QQ : Int32 → k_S → Prop} (H : k_sat (f_R_tooth  p1 p2 p3 u) QQ) : k_OK g 3 MX12_tooth [.ref 42, .int p1, .int p2, .int p3] u (k_qi QQ) := by
  have hr : ∀ (r : Int32) (u' : k_S), QQ (r) u' → (k_qi QQ) (some (.int r)) u' := fun r u' h => ⟨_, rfl, h⟩
  refine k_OK.ofW pfX12_tooth (k_tab_of MX12_tooth_dec) rfl ?_
  refine s_aloadn 0 0 rfl rfl ?_
  refine s_iloadn 0 1 rfl rfl ?_
  refine s_cvi1 (M' := MX12_isWheel) 0 2 rfl k_ml251 vvX12_isWheel rfl rfl (Nat.le_of_ble_eq_true rfl) rfl (c_R_isWheel g _ (k_sat_bind H)) (fun r2 u1 H => ?_)
  refine s_if_eq 0 3 46 rfl (by decide) H (fun _ H => ?_) (fun _ H => ?_)
  · refine s_const (-1) 1 11 rfl k_ic_m1 ?_
    exact s_iret 1 12 rfl rfl (hr _ _ (k_sat_some H))
  · refine s_iloadn 0 4 rfl rfl ?_
    refine s_const 0 0 5 rfl k_ic_0 ?_
    refine s_aloadn 0 6 rfl rfl ?_
    refine s_getr 0 7 rfl k_fl89 rfl rfl rfl rfl ?_
    refine s_iloadn 0 8 rfl rfl ?_
    refine s_iald 0 9 rfl rfl H (fun _ H => ?_)
    refine s_const 1 0 10 rfl k_ic_1 ?_
    refine s_isub 0 11 rfl ?_
    refine s_csi3 (M' := MX12_in) 0 12 rfl k_ml230 vvX12_in (Nat.le_of_ble_eq_true rfl) rfl (c_R_in g _ _ _ (k_sat_bind H)) (fun r4 u3 H => ?_)
    refine s_if_eq 0 13 46 rfl (by decide) H (fun _ H => ?_) (fun _ H => ?_)
    · refine s_const (-1) 1 11 rfl k_ic_m1 ?_
      exact s_iret 1 12 rfl rfl (hr _ _ (k_sat_some H))
    · refine s_iloadn 0 14 rfl rfl ?_
      refine s_csi1 (M' := MX12_isTooth) 0 15 rfl k_ml231 vvX12_isTooth (Nat.le_of_ble_eq_true rfl) rfl (c_R_isTooth g _ (k_sat_bind H)) (fun r6 u5 H => ?_)
      refine s_if_eq 1 0 46 rfl (by decide) H (fun _ H => ?_) (fun _ H => ?_)
      · refine s_const (-1) 1 11 rfl k_ic_m1 ?_
        exact s_iret 1 12 rfl rfl (hr _ _ (k_sat_some H))
      · refine s_aloadn 1 1 rfl rfl ?_
        refine s_const 0 1 2 rfl k_ic_0 ?_
        refine s_bipush 40 1 3 rfl k_ib_40 ?_
        refine s_iloadn 1 4 rfl rfl ?_
        refine s_imul 1 5 rfl ?_
        refine s_iloadn 1 6 rfl rfl ?_
        refine s_iadd 1 7 rfl ?_
        refine s_iloadn 1 8 rfl rfl ?_
        refine s_cvi3 (M' := MX12_changes) 1 9 rfl k_ml252 vvX12_changes rfl rfl (Nat.le_of_ble_eq_true rfl) rfl (c_R_changes g _ _ _ (k_sat_bind H)) (fun r8 u7 H => ?_)
        refine s_goto 1 10 47 rfl (by decide) ?_
        exact s_iret 1 12 rfl rfl (hr _ _ (k_sat_some H))
set_option maxRecDepth 100000 in
theorem c_Wheels_sizeOf (g : k_G)  (p1 : Int32) {u : k_S} {QQ : Int32 → k_S → Prop} (H : k_sat (f_Wheels_sizeOf  p1 u) QQ) : k_OK g 1 MX10_sizeOf [.ref 3, .int p1] u (k_qi QQ) := by
  have hr : ∀ (r : Int32) (u' : k_S), QQ (r) u' → (k_qi QQ) (some (.int r)) u' := fun r u' h => ⟨_, rfl, h⟩
  refine k_OK.ofW pfX10_sizeOf (k_tab_of MX10_sizeOf_dec) rfl ?_
  refine s_iloadn 0 0 rfl rfl ?_
  refine s_if_lt 0 1 22 rfl (by decide) H (fun _ H => ?_) (fun _ H => ?_)
  · refine s_const 0 0 12 rfl k_ic_0 ?_
    exact s_iret 0 13 rfl rfl (hr _ _ (k_sat_some H))
  · refine s_iloadn 0 2 rfl rfl ?_
    refine s_aloadn 0 3 rfl rfl ?_
    refine s_getr 0 4 rfl k_fl83 rfl rfl rfl rfl ?_
    refine s_alen 4 0 5 rfl rfl k_ln_4 ?_
    refine s_icmp_ge 0 6 22 rfl (by decide) H (fun _ H => ?_) (fun _ H => ?_)
    · refine s_const 0 0 12 rfl k_ic_0 ?_
      exact s_iret 0 13 rfl rfl (hr _ _ (k_sat_some H))
    · refine s_aloadn 0 7 rfl rfl ?_
      refine s_getr 0 8 rfl k_fl83 rfl rfl rfl rfl ?_
      refine s_iloadn 0 9 rfl rfl ?_
      refine s_iald 0 10 rfl rfl H (fun _ H => ?_)
      refine s_goto 0 11 23 rfl (by decide) ?_
      exact s_iret 0 13 rfl rfl (hr _ _ (k_sat_some H))
set_option maxRecDepth 100000 in
theorem c_Now_placeOf (g : k_G)  (p1 : Int32) {u : k_S} {QQ : Int32 → k_S → Prop} (H : k_sat (f_Now_placeOf  p1 u) QQ) : k_OK g 1 MX5_placeOf [.ref 14, .int p1] u (k_qi QQ) := by
  have hr : ∀ (r : Int32) (u' : k_S), QQ (r) u' → (k_qi QQ) (some (.int r)) u' := fun r u' h => ⟨_, rfl, h⟩
  refine k_OK.ofW pfX5_placeOf (k_tab_of MX5_placeOf_dec) rfl ?_
  refine s_iloadn 0 0 rfl rfl ?_
  refine s_if_lt 0 1 22 rfl (by decide) H (fun _ H => ?_) (fun _ H => ?_)
  · refine s_const 0 0 12 rfl k_ic_0 ?_
    exact s_iret 0 13 rfl rfl (hr _ _ (k_sat_some H))
  · refine s_iloadn 0 2 rfl rfl ?_
    refine s_aloadn 0 3 rfl rfl ?_
    refine s_getr 0 4 rfl k_fl61 rfl rfl rfl rfl ?_
    refine s_alen 4 0 5 rfl rfl k_ln_4 ?_
    refine s_icmp_ge 0 6 22 rfl (by decide) H (fun _ H => ?_) (fun _ H => ?_)
    · refine s_const 0 0 12 rfl k_ic_0 ?_
      exact s_iret 0 13 rfl rfl (hr _ _ (k_sat_some H))
    · refine s_aloadn 0 7 rfl rfl ?_
      refine s_getr 0 8 rfl k_fl61 rfl rfl rfl rfl ?_
      refine s_iloadn 0 9 rfl rfl ?_
      refine s_iald 0 10 rfl rfl H (fun _ H => ?_)
      refine s_goto 0 11 23 rfl (by decide) ?_
      exact s_iret 0 13 rfl rfl (hr _ _ (k_sat_some H))
