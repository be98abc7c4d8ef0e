set_option maxRecDepth 100000 in
theorem c_W_isSpot (g : k_G)  (p1 : Int32) {u : k_S} {QQ : Int32 → k_S → Prop} (H : k_sat (f_W_isSpot  p1 u) QQ) : k_OK g 3 MX11_isSpot [.ref 0, .int p1] u (k_qi QQ) := by
  have hr : ∀ (r : Int32) (u' : k_S), QQ (r) u' → (k_qi QQ) (some (.int r)) u' := fun r u' h => ⟨_, rfl, h⟩
  refine k_OK.ofW pfX11_isSpot (k_tab_of MX11_isSpot_dec) rfl ?_
  refine s_iloadn 0 0 rfl rfl ?_
  refine s_if_lt 0 1 26 rfl (by decide) H (fun _ H => ?_) (fun _ H => ?_)
  · refine s_const 0 0 14 rfl k_ic_0 ?_
    exact s_zret 0 15 rfl rfl k_z0 (hr _ _ (k_sat_some H))
  · refine s_aloadn 0 2 rfl rfl ?_
    refine s_getr 0 3 rfl k_fl1 rfl rfl rfl rfl ?_
    refine s_iloadn 0 4 rfl rfl ?_
    refine s_bipush 100 0 5 rfl k_ib_100 ?_
    refine s_idiv 0 6 rfl k_nz_100 ?_
    refine s_iloadn 0 7 rfl rfl ?_
    refine s_bipush 100 0 8 rfl k_ib_100 ?_
    refine s_irem 0 9 rfl k_nz_100 ?_
    refine s_cvi2 (M' := MX10_hasPlace) 0 10 rfl k_ml18 vvX10_hasPlace rfl rfl (Nat.le_of_ble_eq_true rfl) rfl (c_Wheels_hasPlace g _ _ (k_sat_bind H)) (fun r2 u1 H => ?_)
    refine s_if_eq 0 11 26 rfl (by decide) H (fun _ H => ?_) (fun _ H => ?_)
    · refine s_const 0 0 14 rfl k_ic_0 ?_
      exact s_zret 0 15 rfl rfl k_z0 (hr _ _ (k_sat_some H))
    · refine s_const 1 0 12 rfl k_ic_1 ?_
      refine s_goto 0 13 27 rfl (by decide) ?_
      exact s_zret 0 15 rfl rfl k_z1 (hr _ _ (k_sat_some H))
set_option maxRecDepth 100000 in
theorem t_Nights_timesAt_B10 (g : k_G)  (v1 : Int32) (v2 : Int32) (v3 : Int32) (v4 : Int32) (v5 : Int32) (v6 : Int32)  {u : k_S} {QQ : ((Int32 × Int32) ⊕ (Int32 ⊕ (Int32))) → k_S → Prop} {Q : Option Value → k_S → Prop} (hr : ∀ (r : Int32) (u' : k_S), QQ (.inr (.inl r)) u' → (Q) (some (.int r)) u') (hb : ∀ (x : (Int32 × Int32)) (u' : k_S), QQ (.inl x) u' → k_W g 6 MX6_timesAt 10 [(0, .ref 12), (1, .int v1), (2, .int v2), (3, .int v3), (4, .int v4), (5, .int x.1), (6, .int x.2)] [] u' Q) (he : ∀ (y : (Int32)) (u' : k_S), QQ (.inr (.inr y)) u' → k_W g 6 MX6_timesAt 57 [(4, .int v4), (5, .int y)] [] u' Q) (H : k_sat (f_Nights_timesAt_B10  v1 v2 v3 v4 v5 v6 u) QQ) : k_W g 6 MX6_timesAt 10 [(0, .ref 12), (1, .int v1), (2, .int v2), (3, .int v3), (4, .int v4), (5, .int v5), (6, .int v6)] [] u Q := by
  refine s_iload 0 6 rfl rfl ?_
  refine s_iloadn 0 7 rfl rfl ?_
  refine s_icmp_gt 0 8 57 rfl (by decide) H (fun _ H => ?_) (fun _ H => ?_)
  · exact k_via (he _ _ (k_sat_some H)) ⟨rfl, rfl, trivial⟩
  · refine s_aloadn 0 9 rfl rfl ?_
    refine s_aloadn 0 10 rfl rfl ?_
    refine s_getr 0 11 rfl k_fl65 rfl rfl rfl rfl ?_
    refine s_const 1 0 12 rfl k_ic_1 ?_
    refine s_iloadn 0 13 rfl rfl ?_
    refine s_const 1 0 14 rfl k_ic_1 ?_
    refine s_iadd 0 15 rfl ?_
    refine s_cvv3 (M' := MX6_pass) 1 0 rfl k_ml130 vvX6_pass rfl rfl (Nat.le_of_ble_eq_true rfl) rfl (c_Nights_pass_Thought g _ _ (k_sat_bind H)) (fun _ u2 H => ?_)
    refine s_aloadn 1 1 rfl rfl ?_
    refine s_getr 1 2 rfl k_fl65 rfl rfl rfl rfl ?_
    refine s_iloadn 1 3 rfl rfl ?_
    refine s_cvi1 (M' := MX5_placeOf) 1 4 rfl k_ml121 vvX5_placeOf rfl rfl (Nat.le_of_ble_eq_true rfl) rfl (c_Thought_placeOf g _ (k_sat_bind H)) (fun r4 u3 H => ?_)
    refine s_iloadn 1 5 rfl rfl ?_
    refine s_icmp_ne 1 6 51 rfl (by decide) H (fun _ H => ?_) (fun _ H => ?_)
    · refine s_iinc 1 12 rfl rfl rfl ?_
      refine s_goto 1 13 10 rfl (by decide) ?_
      exact k_via (hb _ _ (k_sat_some H)) ⟨rfl, rfl, rfl, rfl, rfl, rfl, rfl, trivial⟩
    · refine s_iload 1 7 rfl rfl ?_
      refine s_if_eq 1 8 48 rfl (by decide) H (fun _ H => ?_) (fun _ H => ?_)
      · refine s_iinc 1 11 rfl rfl rfl ?_
        refine s_iinc 1 12 rfl rfl rfl ?_
        refine s_goto 1 13 10 rfl (by decide) ?_
        exact k_via (hb _ _ (k_sat_some H)) ⟨rfl, rfl, rfl, rfl, rfl, rfl, rfl, trivial⟩
      · refine s_iload 1 9 rfl rfl ?_
        exact s_iret 1 10 rfl rfl (hr _ _ (k_sat_some H))
set_option maxRecDepth 100000 in
theorem l_Nights_timesAt_B10 (g : k_G)  (v1 : Int32) (v2 : Int32) (v3 : Int32) (v4 : Int32) {Q : Option Value → k_S → Prop} {K : (Int32 ⊕ (Int32)) → k_S → Prop} (hr : ∀ (r : Int32) (u' : k_S), K (.inl r) u' → Q (some (.int r)) u') (he : ∀ (y : (Int32)) (u' : k_S), K (.inr y) u' → k_W g 6 MX6_timesAt 57 [(4, .int v4), (5, .int y)] [] u' Q) : ∀ (n : Nat) (x : (Int32 × Int32)) (u : k_S), k_sat (k_itr (fun (x : (Int32 × Int32)) u => f_Nights_timesAt_B10  v1 v2 v3 v4 x.1 x.2 u) n x u) K → k_W g 6 MX6_timesAt 10 [(0, .ref 12), (1, .int v1), (2, .int v2), (3, .int v3), (4, .int v4), (5, .int x.1), (6, .int x.2)] [] u Q :=
  k_loop (P := fun (x : (Int32 × Int32)) u => k_W g 6 MX6_timesAt 10 [(0, .ref 12), (1, .int v1), (2, .int v2), (3, .int v3), (4, .int v4), (5, .int x.1), (6, .int x.2)] [] u Q) (fun (x : (Int32 × Int32)) u H => t_Nights_timesAt_B10 g  v1 v2 v3 v4 x.1 x.2  (fun r u' h => hr r u' h) (fun x u' h => h) (fun y u' h => he y u' h) H)
set_option maxRecDepth 100000 in
theorem c_Nights_timesAt (g : k_G)  (p1 : Int32) (p2 : Int32) (p3 : Int32) (p4 : Int32) {u : k_S} {QQ : Int32 → k_S → Prop} (H : k_sat (f_Nights_timesAt  p1 p2 p3 p4 u) QQ) : k_OK g 6 MX6_timesAt [.ref 12, .int p1, .int p2, .int p3, .int p4] u (k_qi QQ) := by
  have hr : ∀ (r : Int32) (u' : k_S), QQ (r) u' → (k_qi QQ) (some (.int r)) u' := fun r u' h => ⟨_, rfl, h⟩
  refine k_OK.ofW pfX6_timesAt (k_tab_of MX6_timesAt_dec) rfl ?_
  refine s_const 0 0 0 rfl k_ic_0 ?_
  refine s_istore 0 1 rfl rfl ?_
  refine s_aloadn 0 2 rfl rfl ?_
  refine s_cvv0 (M' := MX6_think) 0 3 rfl k_ml129 vvX6_think rfl rfl (Nat.le_of_ble_eq_true rfl) rfl (c_Nights_think g (k_sat_bind H)) (fun _ u1 H => ?_)
  refine s_const 1 0 4 rfl k_ic_1 ?_
  refine s_istore 0 5 rfl rfl ?_
  refine k_via (l_Nights_timesAt_B10 g  p1 p2 p3 p4 ?_ ?_ _ _ _ (k_sat_bind H)) ⟨rfl, rfl, rfl, rfl, rfl, rfl, rfl, trivial⟩
  · exact fun r u' h => hr r u' (k_sat_some h)
  · intro y6 u5 H
    replace H := k_sat_csr H
    refine s_iload 1 14 rfl rfl ?_
    refine s_if_eq 1 15 67 rfl (by decide) H (fun _ H => ?_) (fun _ H => ?_)
    · refine s_iload 2 2 rfl rfl ?_
      exact s_iret 2 3 rfl rfl (hr _ _ (k_sat_some H))
    · refine s_bipush (-2) 2 0 rfl k_ib_m2 ?_
      refine s_goto 2 1 69 rfl (by decide) ?_
      exact s_iret 2 3 rfl rfl (hr _ _ (k_sat_some H))
set_option maxRecDepth 100000 in
theorem t_W_meets_J54 (g : k_G)  (s1 : Int32) (s2 : Int32) (s3 : Int32) (s4 : Int32)  {u : k_S} {QQ : Int32 → k_S → Prop} {Q : Option Value → k_S → Prop} (hr : ∀ (r : Int32) (u' : k_S), QQ (r) u' → (Q) (some (.int r)) u') (H : k_sat (f_W_meets_J54  s1 s2 s3 s4 u) QQ) : k_W g 7 MX11_meets 54 [] [.int s4, .int s3, .int s2, .int s1, .ref 12] u Q := by
  refine s_cvi4 (M' := MX6_timesAt) 2 0 rfl k_ml32 vvX6_timesAt rfl rfl (Nat.le_of_ble_eq_true rfl) rfl (c_Nights_timesAt g _ _ _ _ (k_sat_bind H)) (fun r4 u3 H => ?_)
  exact s_iret 2 1 rfl rfl (hr _ _ (k_sat_some H))
set_option maxRecDepth 100000 in
theorem c_W_meets (g : k_G)  (p1 : Int32) (p2 : Int32) (p3 : Int32) {u : k_S} {QQ : Int32 → k_S → Prop} (H : k_sat (f_W_meets  p1 p2 p3 u) QQ) : k_OK g 7 MX11_meets [.ref 0, .int p1, .int p2, .int p3] u (k_qi QQ) := by
  have hr : ∀ (r : Int32) (u' : k_S), QQ (r) u' → (k_qi QQ) (some (.int r)) u' := fun r u' h => ⟨_, rfl, h⟩
  refine k_OK.ofW pfX11_meets (k_tab_of MX11_meets_dec) rfl ?_
  refine s_aloadn 0 0 rfl rfl ?_
  refine s_iloadn 0 1 rfl rfl ?_
  refine s_cvi1 (M' := MX11_isSpot) 0 2 rfl k_ml31 vvX11_isSpot rfl rfl (Nat.le_of_ble_eq_true rfl) rfl (c_W_isSpot g _ (k_sat_bind H)) (fun r2 u1 H => ?_)
  refine s_if_eq 0 3 29 rfl (by decide) H (fun _ H => ?_) (fun _ H => ?_)
  · refine s_const (-1) 0 15 rfl k_ic_m1 ?_
    exact s_iret 1 0 rfl rfl (hr _ _ (k_sat_some H))
  · refine s_iloadn 0 4 rfl rfl ?_
    refine s_const 1 0 5 rfl k_ic_1 ?_
    refine s_icmp_lt 0 6 29 rfl (by decide) H (fun _ H => ?_) (fun _ H => ?_)
    · refine s_const (-1) 0 15 rfl k_ic_m1 ?_
      exact s_iret 1 0 rfl rfl (hr _ _ (k_sat_some H))
    · refine s_iloadn 0 7 rfl rfl ?_
      refine s_sipush 2000 0 8 rfl k_is_2000 ?_
      refine s_icmp_gt 0 9 29 rfl (by decide) H (fun _ H => ?_) (fun _ H => ?_)
      · refine s_const (-1) 0 15 rfl k_ic_m1 ?_
        exact s_iret 1 0 rfl rfl (hr _ _ (k_sat_some H))
      · refine s_iloadn 0 10 rfl rfl ?_
        refine s_if_lt 0 11 29 rfl (by decide) H (fun _ H => ?_) (fun _ H => ?_)
        · refine s_const (-1) 0 15 rfl k_ic_m1 ?_
          exact s_iret 1 0 rfl rfl (hr _ _ (k_sat_some H))
        · refine s_iloadn 0 12 rfl rfl ?_
          refine s_const 1 0 13 rfl k_ic_1 ?_
          refine s_icmp_le 0 14 31 rfl (by decide) H (fun _ H => ?_) (fun _ H => ?_)
          · refine s_aloadn 1 1 rfl rfl ?_
            refine s_getr 1 2 rfl k_fl3 rfl rfl rfl rfl ?_
            refine s_iloadn 1 3 rfl rfl ?_
            refine s_bipush 100 1 4 rfl k_ib_100 ?_
            refine s_idiv 1 5 rfl k_nz_100 ?_
            refine s_iloadn 1 6 rfl rfl ?_
            refine s_bipush 100 1 7 rfl k_ib_100 ?_
            refine s_irem 1 8 rfl k_nz_100 ?_
            refine s_iloadn 1 9 rfl rfl ?_
            refine s_iloadn 1 10 rfl rfl ?_
            refine s_const 1 1 11 rfl k_ic_1 ?_
            refine s_icmp_ne 1 12 53 rfl (by decide) H (fun _ H => ?_) (fun _ H => ?_)
            · refine s_const 0 1 15 rfl k_ic_0 ?_
              exact k_via (t_W_meets_J54 g  _ _ _ _  hr H) trivial
            · refine s_const 1 1 13 rfl k_ic_1 ?_
              refine s_goto 1 14 54 rfl (by decide) ?_
              exact k_via (t_W_meets_J54 g  _ _ _ _  hr H) trivial
          · refine s_const (-1) 0 15 rfl k_ic_m1 ?_
            exact s_iret 1 0 rfl rfl (hr _ _ (k_sat_some H))
set_option maxRecDepth 100000 in
theorem c_R_isSpot (g : k_G)  (p1 : Int32) {u : k_S} {QQ : Int32 → k_S → Prop} (H : k_sat (f_R_isSpot  p1 u) QQ) : k_OK g 3 MX12_isSpot [.ref 42, .int p1] u (k_qi QQ) := by
  have hr : ∀ (r : Int32) (u' : k_S), QQ (r) u' → (k_qi QQ) (some (.int r)) u' := fun r u' h => ⟨_, rfl, h⟩
  refine k_OK.ofW pfX12_isSpot (k_tab_of MX12_isSpot_dec) rfl ?_
  refine s_iloadn 0 0 rfl rfl ?_
  refine s_if_lt 0 1 35 rfl (by decide) H (fun _ H => ?_) (fun _ H => ?_)
  · refine s_const 0 1 4 rfl k_ic_0 ?_
    exact s_zret 1 5 rfl rfl k_z0 (hr _ _ (k_sat_some H))
  · refine s_aloadn 0 2 rfl rfl ?_
    refine s_iloadn 0 3 rfl rfl ?_
    refine s_bipush 100 0 4 rfl k_ib_100 ?_
    refine s_idiv 0 5 rfl k_nz_100 ?_
    refine s_cvi1 (M' := MX12_isWheel) 0 6 rfl k_ml251 vvX12_isWheel rfl rfl (Nat.le_of_ble_eq_true rfl) rfl (c_R_isWheel g _ (k_sat_bind H)) (fun r2 u1 H => ?_)
    refine s_if_eq 0 7 35 rfl (by decide) H (fun _ H => ?_) (fun _ H => ?_)
    · refine s_const 0 1 4 rfl k_ic_0 ?_
      exact s_zret 1 5 rfl rfl k_z0 (hr _ _ (k_sat_some H))
    · refine s_iloadn 0 8 rfl rfl ?_
      refine s_bipush 100 0 9 rfl k_ib_100 ?_
      refine s_irem 0 10 rfl k_nz_100 ?_
      refine s_aloadn 0 11 rfl rfl ?_
      refine s_getr 0 12 rfl k_fl89 rfl rfl rfl rfl ?_
      refine s_iloadn 0 13 rfl rfl ?_
      refine s_bipush 100 0 14 rfl k_ib_100 ?_
      refine s_idiv 0 15 rfl k_nz_100 ?_
      refine s_iald 1 0 rfl rfl H (fun _ H => ?_)
      refine s_icmp_ge 1 1 35 rfl (by decide) H (fun _ H => ?_) (fun _ H => ?_)
      · refine s_const 0 1 4 rfl k_ic_0 ?_
        exact s_zret 1 5 rfl rfl k_z0 (hr _ _ (k_sat_some H))
      · refine s_const 1 1 2 rfl k_ic_1 ?_
        refine s_goto 1 3 36 rfl (by decide) ?_
        exact s_zret 1 5 rfl rfl k_z1 (hr _ _ (k_sat_some H))
set_option maxRecDepth 100000 in
theorem t_R_meets_B44 (g : k_G)  (v1 : Int32) (v2 : Int32) (v3 : Int32) (v4 : Int32) (v5 : Int32) (v6 : Int32)  {u : k_S} {QQ : ((Int32 × Int32 × Int32) ⊕ (Int32 × Int32)) → k_S → Prop} {Q : Option Value → k_S → Prop} (hb : ∀ (x : (Int32 × Int32 × Int32)) (u' : k_S), QQ (.inl x) u' → k_W g 7 MX12_meets 44 [(0, .ref 42), (1, .int v1), (2, .int v2), (3, .int v3), (4, .int x.1), (5, .int x.2.1), (6, .int x.2.2)] [] u' Q) (he : ∀ (y : (Int32 × Int32)) (u' : k_S), QQ (.inr y) u' → k_W g 7 MX12_meets 91 [(0, .ref 42), (3, .int v3), (4, .int y.1), (5, .int y.2)] [] u' Q) (H : k_sat (f_R_meets_B44  v1 v2 v3 v4 v5 v6 u) QQ) : k_W g 7 MX12_meets 44 [(0, .ref 42), (1, .int v1), (2, .int v2), (3, .int v3), (4, .int v4), (5, .int v5), (6, .int v6)] [] u Q := by
  refine s_iload 1 8 rfl rfl ?_
  refine s_iloadn 1 9 rfl rfl ?_
  refine s_icmp_gt 1 10 91 rfl (by decide) H (fun _ H => ?_) (fun _ H => ?_)
  · exact k_via (he _ _ (k_sat_some H)) ⟨rfl, rfl, rfl, rfl, trivial⟩
  · refine s_aloadn 1 11 rfl rfl ?_
    refine s_cvv0 (M' := MX12_goOn) 1 12 rfl k_ml255 vvX12_goOn rfl rfl (Nat.le_of_ble_eq_true rfl) rfl (c_R_goOn g (k_sat_bind H)) (fun _ u8 H => ?_)
    refine s_aloadn 1 13 rfl rfl ?_
    refine s_getr 1 14 rfl k_fl90 rfl rfl rfl rfl ?_
    refine s_iloadn 1 15 rfl rfl ?_
    refine s_bipush 100 2 0 rfl k_ib_100 ?_
    refine s_idiv 2 1 rfl k_nz_100 ?_
    refine s_iald 2 2 rfl rfl H (fun _ H => ?_)
    refine s_iloadn 2 3 rfl rfl ?_
    refine s_bipush 100 2 4 rfl k_ib_100 ?_
    refine s_irem 2 5 rfl k_nz_100 ?_
    refine s_icmp_eq 2 6 73 rfl (by decide) H (fun _ H => ?_) (fun _ H => ?_)
    · refine s_iinc 2 8 rfl rfl rfl ?_
      refine s_iload 2 9 rfl rfl ?_
      refine s_if_ge 2 10 85 rfl (by decide) H (fun _ H => ?_) (fun _ H => ?_)
      · refine s_iinc 2 13 rfl rfl rfl ?_
        refine s_goto 2 14 44 rfl (by decide) ?_
        exact k_via (hb _ _ (k_sat_some H)) ⟨rfl, rfl, rfl, rfl, rfl, rfl, rfl, trivial⟩
      · refine s_iload 2 11 rfl rfl ?_
        refine s_istore 2 12 rfl rfl ?_
        refine s_iinc 2 13 rfl rfl rfl ?_
        refine s_goto 2 14 44 rfl (by decide) ?_
        exact k_via (hb _ _ (k_sat_some H)) ⟨rfl, rfl, rfl, rfl, rfl, rfl, rfl, trivial⟩
    · refine s_goto 2 7 85 rfl (by decide) ?_
      refine s_iinc 2 13 rfl rfl rfl ?_
      refine s_goto 2 14 44 rfl (by decide) ?_
      exact k_via (hb _ _ (k_sat_some H)) ⟨rfl, rfl, rfl, rfl, rfl, rfl, rfl, trivial⟩
set_option maxRecDepth 100000 in
theorem l_R_meets_B44 (g : k_G)  (v1 : Int32) (v2 : Int32) (v3 : Int32) {Q : Option Value → k_S → Prop} {K : (Int32 × Int32) → k_S → Prop} (he : ∀ (y : (Int32 × Int32)) (u' : k_S), K (y) u' → k_W g 7 MX12_meets 91 [(0, .ref 42), (3, .int v3), (4, .int y.1), (5, .int y.2)] [] u' Q) : ∀ (n : Nat) (x : (Int32 × Int32 × Int32)) (u : k_S), k_sat (k_itr (fun (x : (Int32 × Int32 × Int32)) u => f_R_meets_B44  v1 v2 v3 x.1 x.2.1 x.2.2 u) n x u) K → k_W g 7 MX12_meets 44 [(0, .ref 42), (1, .int v1), (2, .int v2), (3, .int v3), (4, .int x.1), (5, .int x.2.1), (6, .int x.2.2)] [] u Q :=
  k_loop (P := fun (x : (Int32 × Int32 × Int32)) u => k_W g 7 MX12_meets 44 [(0, .ref 42), (1, .int v1), (2, .int v2), (3, .int v3), (4, .int x.1), (5, .int x.2.1), (6, .int x.2.2)] [] u Q) (fun (x : (Int32 × Int32 × Int32)) u H => t_R_meets_B44 g  v1 v2 v3 x.1 x.2.1 x.2.2  (fun x u' h => h) (fun y u' h => he y u' h) H)
set_option maxRecDepth 100000 in
theorem c_R_meets (g : k_G)  (p1 : Int32) (p2 : Int32) (p3 : Int32) {u : k_S} {QQ : Int32 → k_S → Prop} (H : k_sat (f_R_meets  p1 p2 p3 u) QQ) : k_OK g 7 MX12_meets [.ref 42, .int p1, .int p2, .int p3] u (k_qi QQ) := by
  have hr : ∀ (r : Int32) (u' : k_S), QQ (r) u' → (k_qi QQ) (some (.int r)) u' := fun r u' h => ⟨_, rfl, h⟩
  refine k_OK.ofW pfX12_meets (k_tab_of MX12_meets_dec) rfl ?_
  refine s_aloadn 0 0 rfl rfl ?_
  refine s_iloadn 0 1 rfl rfl ?_
  refine s_cvi1 (M' := MX12_isSpot) 0 2 rfl k_ml258 vvX12_isSpot rfl rfl (Nat.le_of_ble_eq_true rfl) rfl (c_R_isSpot g _ (k_sat_bind H)) (fun r2 u1 H => ?_)
  refine s_if_eq 0 3 28 rfl (by decide) H (fun _ H => ?_) (fun _ H => ?_)
  · refine s_const (-1) 0 14 rfl k_ic_m1 ?_
    exact s_iret 0 15 rfl rfl (hr _ _ (k_sat_some H))
  · refine s_iloadn 0 4 rfl rfl ?_
    refine s_const 1 0 5 rfl k_ic_1 ?_
    refine s_sipush 2000 0 6 rfl k_is_2000 ?_
    refine s_csi3 (M' := MX12_in) 0 7 rfl k_ml230 vvX12_in (Nat.le_of_ble_eq_true rfl) rfl (c_R_in g _ _ _ (k_sat_bind H)) (fun r4 u3 H => ?_)
    refine s_if_eq 0 8 28 rfl (by decide) H (fun _ H => ?_) (fun _ H => ?_)
    · refine s_const (-1) 0 14 rfl k_ic_m1 ?_
      exact s_iret 0 15 rfl rfl (hr _ _ (k_sat_some H))
    · refine s_iloadn 0 9 rfl rfl ?_
      refine s_const 0 0 10 rfl k_ic_0 ?_
      refine s_const 1 0 11 rfl k_ic_1 ?_
      refine s_csi3 (M' := MX12_in) 0 12 rfl k_ml230 vvX12_in (Nat.le_of_ble_eq_true rfl) rfl (c_R_in g _ _ _ (k_sat_bind H)) (fun r6 u5 H => ?_)
      refine s_if_ne 0 13 30 rfl (by decide) H (fun _ H => ?_) (fun _ H => ?_)
      · refine s_aloadn 1 0 rfl rfl ?_
        refine s_cvv0 (M' := MX12_keepNow) 1 1 rfl k_ml256 vvX12_keepNow rfl rfl (Nat.le_of_ble_eq_true rfl) rfl (c_R_keepNow g (k_sat_bind H)) (fun _ u7 H => ?_)
        refine s_const 0 1 2 rfl k_ic_0 ?_
        refine s_istore 1 3 rfl rfl ?_
        refine s_bipush (-2) 1 4 rfl k_ib_m2 ?_
        refine s_istore 1 5 rfl rfl ?_
        refine s_const 1 1 6 rfl k_ic_1 ?_
        refine s_istore 1 7 rfl rfl ?_
        refine k_via (l_R_meets_B44 g  p1 p2 p3 ?_ _ _ _ (k_sat_bind H)) ⟨rfl, rfl, rfl, rfl, rfl, rfl, rfl, trivial⟩
        · intro y10 u9 H
          refine s_aloadn 2 15 rfl rfl ?_
          refine s_cvv0 (M' := MX12_layBack) 3 0 rfl k_ml257 vvX12_layBack rfl rfl (Nat.le_of_ble_eq_true rfl) rfl (c_R_layBack g (k_sat_bind H)) (fun _ u11 H => ?_)
          refine s_iloadn 3 1 rfl rfl ?_
          refine s_if_ne 3 2 104 rfl (by decide) H (fun _ H => ?_) (fun _ H => ?_)
          · refine s_iload 3 5 rfl rfl ?_
            exact s_iret 3 6 rfl rfl (hr _ _ (k_sat_some H))
          · refine s_iload 3 3 rfl rfl ?_
            refine s_goto 3 4 106 rfl (by decide) ?_
            exact s_iret 3 6 rfl rfl (hr _ _ (k_sat_some H))
      · refine s_const (-1) 0 14 rfl k_ic_m1 ?_
        exact s_iret 0 15 rfl rfl (hr _ _ (k_sat_some H))
set_option maxRecDepth 100000 in
theorem t_Nights_firstOfBoth_B22 (g : k_G)  (v1 : Int32) (v2 : Int32) (v3 : Int32) (v4 : Int32) (v5 : Int32)  {u : k_S} {QQ : ((Int32) ⊕ (Int32 ⊕ Unit)) → k_S → Prop} {Q : Option Value → k_S → Prop} (hr : ∀ (r : Int32) (u' : k_S), QQ (.inr (.inl r)) u' → (Q) (some (.int r)) u') (hb : ∀ (x : (Int32)) (u' : k_S), QQ (.inl x) u' → k_W g 6 MX6_firstOfBoth 22 [(0, .ref 12), (1, .int v1), (2, .int v2), (3, .int v3), (4, .int v4), (5, .int x)] [] u' Q) (he : ∀ (y : Unit) (u' : k_S), QQ (.inr (.inr y)) u' → k_W g 6 MX6_firstOfBoth 84 [] [] u' Q) (H : k_sat (f_Nights_firstOfBoth_B22  v1 v2 v3 v4 v5 u) QQ) : k_W g 6 MX6_firstOfBoth 22 [(0, .ref 12), (1, .int v1), (2, .int v2), (3, .int v3), (4, .int v4), (5, .int v5)] [] u Q := by
  refine s_iload 0 14 rfl rfl ?_
  refine s_iloadn 0 15 rfl rfl ?_
  refine s_icmp_gt 1 0 84 rfl (by decide) H (fun _ H => ?_) (fun _ H => ?_)
  · exact k_via (he _ _ (k_sat_some H)) trivial
  · refine s_aloadn 1 1 rfl rfl ?_
    refine s_aloadn 1 2 rfl rfl ?_
    refine s_getr 1 3 rfl k_fl65 rfl rfl rfl rfl ?_
    refine s_const 1 1 4 rfl k_ic_1 ?_
    refine s_iload 1 5 rfl rfl ?_
    refine s_cvv3 (M' := MX6_pass) 1 6 rfl k_ml130 vvX6_pass rfl rfl (Nat.le_of_ble_eq_true rfl) rfl (c_Nights_pass_Thought g _ _ (k_sat_bind H)) (fun _ u5 H => ?_)
    refine s_aloadn 1 7 rfl rfl ?_
    refine s_getr 1 8 rfl k_fl65 rfl rfl rfl rfl ?_
    refine s_iloadn 1 9 rfl rfl ?_
    refine s_bipush 100 1 10 rfl k_ib_100 ?_
    refine s_idiv 1 11 rfl k_nz_100 ?_
    refine s_cvi1 (M' := MX5_placeOf) 1 12 rfl k_ml121 vvX5_placeOf rfl rfl (Nat.le_of_ble_eq_true rfl) rfl (c_Thought_placeOf g _ (k_sat_bind H)) (fun r7 u6 H => ?_)
    refine s_iloadn 1 13 rfl rfl ?_
    refine s_bipush 100 1 14 rfl k_ib_100 ?_
    refine s_irem 1 15 rfl k_nz_100 ?_
    refine s_icmp_ne 2 0 78 rfl (by decide) H (fun _ H => ?_) (fun _ H => ?_)
    · refine s_iinc 2 13 rfl rfl rfl ?_
      refine s_goto 2 14 22 rfl (by decide) ?_
      exact k_via (hb _ _ (k_sat_some H)) ⟨rfl, rfl, rfl, rfl, rfl, rfl, trivial⟩
    · refine s_aloadn 2 1 rfl rfl ?_
      refine s_getr 2 2 rfl k_fl65 rfl rfl rfl rfl ?_
      refine s_iloadn 2 3 rfl rfl ?_
      refine s_bipush 100 2 4 rfl k_ib_100 ?_
      refine s_idiv 2 5 rfl k_nz_100 ?_
      refine s_cvi1 (M' := MX5_placeOf) 2 6 rfl k_ml121 vvX5_placeOf rfl rfl (Nat.le_of_ble_eq_true rfl) rfl (c_Thought_placeOf g _ (k_sat_bind H)) (fun r9 u8 H => ?_)
      refine s_iloadn 2 7 rfl rfl ?_
      refine s_bipush 100 2 8 rfl k_ib_100 ?_
      refine s_irem 2 9 rfl k_nz_100 ?_
      refine s_icmp_ne 2 10 78 rfl (by decide) H (fun _ H => ?_) (fun _ H => ?_)
      · refine s_iinc 2 13 rfl rfl rfl ?_
        refine s_goto 2 14 22 rfl (by decide) ?_
        exact k_via (hb _ _ (k_sat_some H)) ⟨rfl, rfl, rfl, rfl, rfl, rfl, trivial⟩
      · refine s_iload 2 11 rfl rfl ?_
        exact s_iret 2 12 rfl rfl (hr _ _ (k_sat_some H))
set_option maxRecDepth 100000 in
theorem l_Nights_firstOfBoth_B22 (g : k_G)  (v1 : Int32) (v2 : Int32) (v3 : Int32) (v4 : Int32) {Q : Option Value → k_S → Prop} {K : (Int32 ⊕ Unit) → k_S → Prop} (hr : ∀ (r : Int32) (u' : k_S), K (.inl r) u' → Q (some (.int r)) u') (he : ∀ (y : Unit) (u' : k_S), K (.inr y) u' → k_W g 6 MX6_firstOfBoth 84 [] [] u' Q) : ∀ (n : Nat) (x : (Int32)) (u : k_S), k_sat (k_itr (fun (x : (Int32)) u => f_Nights_firstOfBoth_B22  v1 v2 v3 v4 x u) n x u) K → k_W g 6 MX6_firstOfBoth 22 [(0, .ref 12), (1, .int v1), (2, .int v2), (3, .int v3), (4, .int v4), (5, .int x)] [] u Q :=
  k_loop (P := fun (x : (Int32)) u => k_W g 6 MX6_firstOfBoth 22 [(0, .ref 12), (1, .int v1), (2, .int v2), (3, .int v3), (4, .int v4), (5, .int x)] [] u Q) (fun (x : (Int32)) u H => t_Nights_firstOfBoth_B22 g  v1 v2 v3 v4 x  (fun r u' h => hr r u' h) (fun x u' h => h) (fun y u' h => he y u' h) H)
set_option maxRecDepth 100000 in
theorem c_Nights_firstOfBoth (g : k_G)  (p1 : Int32) (p2 : Int32) (p3 : Int32) {u : k_S} {QQ : Int32 → k_S → Prop} (H : k_sat (f_Nights_firstOfBoth  p1 p2 p3 u) QQ) : k_OK g 6 MX6_firstOfBoth [.ref 12, .int p1, .int p2, .int p3] u (k_qi QQ) := by
  have hr : ∀ (r : Int32) (u' : k_S), QQ (r) u' → (k_qi QQ) (some (.int r)) u' := fun r u' h => ⟨_, rfl, h⟩
  refine k_OK.ofW pfX6_firstOfBoth (k_tab_of MX6_firstOfBoth_dec) rfl ?_
  refine s_iloadn 0 0 rfl rfl ?_
  refine s_bipush 100 0 1 rfl k_ib_100 ?_
  refine s_idiv 0 2 rfl k_nz_100 ?_
  refine s_iloadn 0 3 rfl rfl ?_
  refine s_bipush 100 0 4 rfl k_ib_100 ?_
  refine s_idiv 0 5 rfl k_nz_100 ?_
  refine s_csi2 (M' := MJ9_max_7cf53) 0 6 rfl k_ml133 vvJ9_max_7cf53 (Nat.le_of_ble_eq_true rfl) rfl (c_J_max g _ _ (k_sat_bind H)) (fun r2 u1 H => ?_)
  refine s_const 1 0 7 rfl k_ic_1 ?_
  refine s_iadd 0 8 rfl ?_
  refine k_topi H (fun t3 H => ?_)
  refine s_istore 0 9 rfl rfl ?_
  refine s_aloadn 0 10 rfl rfl ?_
  refine s_cvv0 (M' := MX6_think) 0 11 rfl k_ml129 vvX6_think rfl rfl (Nat.le_of_ble_eq_true rfl) rfl (c_Nights_think g (k_sat_bind H)) (fun _ u4 H => ?_)
  refine s_const 1 0 12 rfl k_ic_1 ?_
  refine s_istore 0 13 rfl rfl ?_
  refine k_via (l_Nights_firstOfBoth_B22 g  p1 p2 p3 t3 ?_ ?_ _ _ _ (k_sat_bind H)) ⟨rfl, rfl, rfl, rfl, rfl, rfl, trivial⟩
  · exact fun r u' h => hr r u' (k_sat_some h)
  · intro y11 u10 H
    replace H := k_sat_csr H
    refine s_bipush (-2) 2 15 rfl k_ib_m2 ?_
    exact s_iret 3 0 rfl rfl (hr _ _ (k_sat_some H))
set_option maxRecDepth 100000 in
theorem c_W_two (g : k_G)  (p1 : Int32) (p2 : Int32) (p3 : Int32) {u : k_S} {QQ : Int32 → k_S → Prop} (H : k_sat (f_W_two  p1 p2 p3 u) QQ) : k_OK g 7 MX11_two [.ref 0, .int p1, .int p2, .int p3] u (k_qi QQ) := by
  have hr : ∀ (r : Int32) (u' : k_S), QQ (r) u' → (k_qi QQ) (some (.int r)) u' := fun r u' h => ⟨_, rfl, h⟩
  refine k_OK.ofW pfX11_two (k_tab_of MX11_two_dec) rfl ?_
  refine s_aloadn 0 0 rfl rfl ?_
  refine s_iloadn 0 1 rfl rfl ?_
  refine s_cvi1 (M' := MX11_isSpot) 0 2 rfl k_ml31 vvX11_isSpot rfl rfl (Nat.le_of_ble_eq_true rfl) rfl (c_W_isSpot g _ (k_sat_bind H)) (fun r2 u1 H => ?_)
  refine s_if_eq 0 3 28 rfl (by decide) H (fun _ H => ?_) (fun _ H => ?_)
  · refine s_const (-1) 0 14 rfl k_ic_m1 ?_
    exact s_iret 0 15 rfl rfl (hr _ _ (k_sat_some H))
  · refine s_aloadn 0 4 rfl rfl ?_
    refine s_iloadn 0 5 rfl rfl ?_
    refine s_cvi1 (M' := MX11_isSpot) 0 6 rfl k_ml31 vvX11_isSpot rfl rfl (Nat.le_of_ble_eq_true rfl) rfl (c_W_isSpot g _ (k_sat_bind H)) (fun r4 u3 H => ?_)
    refine s_if_eq 0 7 28 rfl (by decide) H (fun _ H => ?_) (fun _ H => ?_)
    · refine s_const (-1) 0 14 rfl k_ic_m1 ?_
      exact s_iret 0 15 rfl rfl (hr _ _ (k_sat_some H))
    · refine s_iloadn 0 8 rfl rfl ?_
      refine s_const 1 0 9 rfl k_ic_1 ?_
      refine s_icmp_lt 0 10 28 rfl (by decide) H (fun _ H => ?_) (fun _ H => ?_)
      · refine s_const (-1) 0 14 rfl k_ic_m1 ?_
        exact s_iret 0 15 rfl rfl (hr _ _ (k_sat_some H))
      · refine s_iloadn 0 11 rfl rfl ?_
        refine s_sipush 20000 0 12 rfl k_is_20000 ?_
        refine s_icmp_le 0 13 30 rfl (by decide) H (fun _ H => ?_) (fun _ H => ?_)
        · refine s_aloadn 1 0 rfl rfl ?_
          refine s_getr 1 1 rfl k_fl3 rfl rfl rfl rfl ?_
          refine s_iloadn 1 2 rfl rfl ?_
          refine s_iloadn 1 3 rfl rfl ?_
          refine s_iloadn 1 4 rfl rfl ?_
          refine s_cvi3 (M' := MX6_firstOfBoth) 1 5 rfl k_ml33 vvX6_firstOfBoth rfl rfl (Nat.le_of_ble_eq_true rfl) rfl (c_Nights_firstOfBoth g _ _ _ (k_sat_bind H)) (fun r6 u5 H => ?_)
          exact s_iret 1 6 rfl rfl (hr _ _ (k_sat_some H))
        · refine s_const (-1) 0 14 rfl k_ic_m1 ?_
          exact s_iret 0 15 rfl rfl (hr _ _ (k_sat_some H))
set_option maxRecDepth 100000 in
theorem t_R_two_B40 (g : k_G)  (v1 : Int32) (v2 : Int32) (v3 : Int32) (v4 : Int32) (v5 : Int32)  {u : k_S} {QQ : ((Int32 × Int32) ⊕ (Int32)) → k_S → Prop} {Q : Option Value → k_S → Prop} (hb : ∀ (x : (Int32 × Int32)) (u' : k_S), QQ (.inl x) u' → k_W g 7 MX12_two 40 [(0, .ref 42), (1, .int v1), (2, .int v2), (3, .int v3), (4, .int x.1), (5, .int x.2)] [] u' Q) (he : ∀ (y : (Int32)) (u' : k_S), QQ (.inr y) u' → k_W g 7 MX12_two 97 [(0, .ref 42), (4, .int y)] [] u' Q) (H : k_sat (f_R_two_B40  v1 v2 v3 v4 v5 u) QQ) : k_W g 7 MX12_two 40 [(0, .ref 42), (1, .int v1), (2, .int v2), (3, .int v3), (4, .int v4), (5, .int v5)] [] u Q := by
  refine s_iload 1 5 rfl rfl ?_
  refine s_iloadn 1 6 rfl rfl ?_
  refine s_icmp_gt 1 7 97 rfl (by decide) H (fun _ H => ?_) (fun _ H => ?_)
  · exact k_via (he _ _ (k_sat_some H)) ⟨rfl, rfl, trivial⟩
  · refine s_iload 1 8 rfl rfl ?_
    refine s_if_ge 1 9 97 rfl (by decide) H (fun _ H => ?_) (fun _ H => ?_)
    · exact k_via (he _ _ (k_sat_some H)) ⟨rfl, rfl, trivial⟩
    · refine s_aloadn 1 10 rfl rfl ?_
      refine s_cvv0 (M' := MX12_goOn) 1 11 rfl k_ml255 vvX12_goOn rfl rfl (Nat.le_of_ble_eq_true rfl) rfl (c_R_goOn g (k_sat_bind H)) (fun _ u8 H => ?_)
      refine s_aloadn 1 12 rfl rfl ?_
      refine s_getr 1 13 rfl k_fl90 rfl rfl rfl rfl ?_
      refine s_iloadn 1 14 rfl rfl ?_
      refine s_bipush 100 1 15 rfl k_ib_100 ?_
      refine s_idiv 2 0 rfl k_nz_100 ?_
      refine s_iald 2 1 rfl rfl H (fun _ H => ?_)
      refine s_iloadn 2 2 rfl rfl ?_
      refine s_bipush 100 2 3 rfl k_ib_100 ?_
      refine s_irem 2 4 rfl k_nz_100 ?_
      refine s_icmp_ne 2 5 91 rfl (by decide) H (fun _ H => ?_) (fun _ H => ?_)
      · refine s_iinc 3 2 rfl rfl rfl ?_
        refine s_goto 3 3 40 rfl (by decide) ?_
        exact k_via (hb _ _ (k_sat_some H)) ⟨rfl, rfl, rfl, rfl, rfl, rfl, trivial⟩
      · refine s_aloadn 2 6 rfl rfl ?_
        refine s_getr 2 7 rfl k_fl90 rfl rfl rfl rfl ?_
        refine s_iloadn 2 8 rfl rfl ?_
        refine s_bipush 100 2 9 rfl k_ib_100 ?_
        refine s_idiv 2 10 rfl k_nz_100 ?_
        refine s_iald 2 11 rfl rfl H (fun _ H => ?_)
        refine s_iloadn 2 12 rfl rfl ?_
        refine s_bipush 100 2 13 rfl k_ib_100 ?_
        refine s_irem 2 14 rfl k_nz_100 ?_
        refine s_icmp_ne 2 15 91 rfl (by decide) H (fun _ H => ?_) (fun _ H => ?_)
        · refine s_iinc 3 2 rfl rfl rfl ?_
          refine s_goto 3 3 40 rfl (by decide) ?_
          exact k_via (hb _ _ (k_sat_some H)) ⟨rfl, rfl, rfl, rfl, rfl, rfl, trivial⟩
        · refine s_iload 3 0 rfl rfl ?_
          refine s_istore 3 1 rfl rfl ?_
          refine s_iinc 3 2 rfl rfl rfl ?_
          refine s_goto 3 3 40 rfl (by decide) ?_
          exact k_via (hb _ _ (k_sat_some H)) ⟨rfl, rfl, rfl, rfl, rfl, rfl, trivial⟩
set_option maxRecDepth 100000 in
theorem l_R_two_B40 (g : k_G)  (v1 : Int32) (v2 : Int32) (v3 : Int32) {Q : Option Value → k_S → Prop} {K : (Int32) → k_S → Prop} (he : ∀ (y : (Int32)) (u' : k_S), K (y) u' → k_W g 7 MX12_two 97 [(0, .ref 42), (4, .int y)] [] u' Q) : ∀ (n : Nat) (x : (Int32 × Int32)) (u : k_S), k_sat (k_itr (fun (x : (Int32 × Int32)) u => f_R_two_B40  v1 v2 v3 x.1 x.2 u) n x u) K → k_W g 7 MX12_two 40 [(0, .ref 42), (1, .int v1), (2, .int v2), (3, .int v3), (4, .int x.1), (5, .int x.2)] [] u Q :=
  k_loop (P := fun (x : (Int32 × Int32)) u => k_W g 7 MX12_two 40 [(0, .ref 42), (1, .int v1), (2, .int v2), (3, .int v3), (4, .int x.1), (5, .int x.2)] [] u Q) (fun (x : (Int32 × Int32)) u H => t_R_two_B40 g  v1 v2 v3 x.1 x.2  (fun x u' h => h) (fun y u' h => he y u' h) H)
set_option maxRecDepth 100000 in
theorem t_R_two_J97 (g : k_G)  (v4 : Int32)  {u : k_S} {QQ : Int32 → k_S → Prop} {Q : Option Value → k_S → Prop} (hr : ∀ (r : Int32) (u' : k_S), QQ (r) u' → (Q) (some (.int r)) u') (H : k_sat (f_R_two_J97  v4 u) QQ) : k_W g 7 MX12_two 97 [(0, .ref 42), (4, .int v4)] [] u Q := by
  refine s_aloadn 3 4 rfl rfl ?_
  refine s_cvv0 (M' := MX12_layBack) 3 5 rfl k_ml257 vvX12_layBack rfl rfl (Nat.le_of_ble_eq_true rfl) rfl (c_R_layBack g (k_sat_bind H)) (fun _ u11 H => ?_)
  refine s_iload 3 6 rfl rfl ?_
  exact s_iret 3 7 rfl rfl (hr _ _ (k_sat_some H))
set_option maxRecDepth 100000 in
theorem c_R_two (g : k_G)  (p1 : Int32) (p2 : Int32) (p3 : Int32) {u : k_S} {QQ : Int32 → k_S → Prop} (H : k_sat (f_R_two  p1 p2 p3 u) QQ) : k_OK g 7 MX12_two [.ref 42, .int p1, .int p2, .int p3] u (k_qi QQ) := by
  have hr : ∀ (r : Int32) (u' : k_S), QQ (r) u' → (k_qi QQ) (some (.int r)) u' := fun r u' h => ⟨_, rfl, h⟩
  refine k_OK.ofW pfX12_two (k_tab_of MX12_two_dec) rfl ?_
  refine s_aloadn 0 0 rfl rfl ?_
  refine s_iloadn 0 1 rfl rfl ?_
  refine s_cvi1 (M' := MX12_isSpot) 0 2 rfl k_ml258 vvX12_isSpot rfl rfl (Nat.le_of_ble_eq_true rfl) rfl (c_R_isSpot g _ (k_sat_bind H)) (fun r2 u1 H => ?_)
  refine s_if_eq 0 3 27 rfl (by decide) H (fun _ H => ?_) (fun _ H => ?_)
  · refine s_const (-1) 0 13 rfl k_ic_m1 ?_
    exact s_iret 0 14 rfl rfl (hr _ _ (k_sat_some H))
  · refine s_aloadn 0 4 rfl rfl ?_
    refine s_iloadn 0 5 rfl rfl ?_
    refine s_cvi1 (M' := MX12_isSpot) 0 6 rfl k_ml258 vvX12_isSpot rfl rfl (Nat.le_of_ble_eq_true rfl) rfl (c_R_isSpot g _ (k_sat_bind H)) (fun r4 u3 H => ?_)
    refine s_if_eq 0 7 27 rfl (by decide) H (fun _ H => ?_) (fun _ H => ?_)
    · refine s_const (-1) 0 13 rfl k_ic_m1 ?_
      exact s_iret 0 14 rfl rfl (hr _ _ (k_sat_some H))
    · refine s_iloadn 0 8 rfl rfl ?_
      refine s_const 1 0 9 rfl k_ic_1 ?_
      refine s_sipush 20000 0 10 rfl k_is_20000 ?_
      refine s_csi3 (M' := MX12_in) 0 11 rfl k_ml230 vvX12_in (Nat.le_of_ble_eq_true rfl) rfl (c_R_in g _ _ _ (k_sat_bind H)) (fun r6 u5 H => ?_)
      refine s_if_ne 0 12 29 rfl (by decide) H (fun _ H => ?_) (fun _ H => ?_)
      · refine s_aloadn 0 15 rfl rfl ?_
        refine s_cvv0 (M' := MX12_keepNow) 1 0 rfl k_ml256 vvX12_keepNow rfl rfl (Nat.le_of_ble_eq_true rfl) rfl (c_R_keepNow g (k_sat_bind H)) (fun _ u7 H => ?_)
        refine s_bipush (-2) 1 1 rfl k_ib_m2 ?_
        refine s_istore 1 2 rfl rfl ?_
        refine s_const 1 1 3 rfl k_ic_1 ?_
        refine s_istore 1 4 rfl rfl ?_
        refine k_via (l_R_two_B40 g  p1 p2 p3 ?_ _ _ _ (k_sat_bind H)) ⟨rfl, rfl, rfl, rfl, rfl, rfl, trivial⟩
        · intro y10 u9 H
          exact k_via (t_R_two_J97 g  _  hr H) ⟨rfl, rfl, trivial⟩
      · refine s_const (-1) 0 13 rfl k_ic_m1 ?_
        exact s_iret 0 14 rfl rfl (hr _ _ (k_sat_some H))
set_option maxRecDepth 100000 in
theorem t_Thought_standsAs_Now_B2 (g : k_G)  (v2 : Int32) (v3 : Int32)  {u : k_S} {QQ : ((Int32) ⊕ (Int32 ⊕ Unit)) → k_S → Prop} {Q : Option Value → k_S → Prop} (hr : ∀ (r : Int32) (u' : k_S), QQ (.inr (.inl r)) u' → (Q) (some (.int r)) u') (hb : ∀ (x : (Int32)) (u' : k_S), QQ (.inl x) u' → k_W g 2 MX5_standsAs 2 [(0, .ref 17), (1, .ref 14), (2, .int v2), (3, .int x)] [] u' Q) (he : ∀ (y : Unit) (u' : k_S), QQ (.inr (.inr y)) u' → k_W g 2 MX5_standsAs 50 [] [] u' Q) (H : k_sat (f_Thought_standsAs_Now_B2  v2 v3 u) QQ) : k_W g 2 MX5_standsAs 2 [(0, .ref 17), (1, .ref 14), (2, .int v2), (3, .int v3)] [] u Q := by
  refine s_iloadn 0 2 rfl rfl ?_
  refine s_iloadn 0 3 rfl rfl ?_
  refine s_icmp_ge 0 4 50 rfl (by decide) H (fun _ H => ?_) (fun _ H => ?_)
  · exact k_via (he _ _ (k_sat_some H)) trivial
  · refine s_iloadn 0 5 rfl rfl ?_
    refine s_aloadn 0 6 rfl rfl ?_
    refine s_getr 0 7 rfl k_fl61 rfl rfl rfl rfl ?_
    refine s_alen 4 0 8 rfl rfl k_ln_4 ?_
    refine s_icmp_ge 0 9 50 rfl (by decide) H (fun _ H => ?_) (fun _ H => ?_)
    · exact k_via (he _ _ (k_sat_some H)) trivial
    · refine s_aloadn 0 10 rfl rfl ?_
      refine s_iloadn 0 11 rfl rfl ?_
      refine s_cvi1 (M' := MX5_placeOf) 0 12 rfl k_ml115 vvX5_placeOf rfl rfl (Nat.le_of_ble_eq_true rfl) rfl (c_Thought_placeOf g _ (k_sat_bind H)) (fun r2 u1 H => ?_)
      refine s_aloadn 0 13 rfl rfl ?_
      refine s_iloadn 0 14 rfl rfl ?_
      refine s_cvi1 (M' := MX5_placeOf) 0 15 rfl k_ml115 vvX5_placeOf rfl rfl (Nat.le_of_ble_eq_true rfl) rfl (c_Now_placeOf g _ (k_sat_bind H)) (fun r4 u3 H => ?_)
      refine s_icmp_ne 1 0 42 rfl (by decide) H (fun _ H => ?_) (fun _ H => ?_)
      · refine s_const 0 1 8 rfl k_ic_0 ?_
        exact s_zret 1 9 rfl rfl k_z0 (hr _ _ (k_sat_some H))
      · refine s_aloadn 1 1 rfl rfl ?_
        refine s_iloadn 1 2 rfl rfl ?_
        refine s_cvi1 (M' := MX5_waitsOf) 1 3 rfl k_ml116 vvX5_waitsOf rfl rfl (Nat.le_of_ble_eq_true rfl) rfl (c_Thought_waitsOf g _ (k_sat_bind H)) (fun r6 u5 H => ?_)
        refine s_aloadn 1 4 rfl rfl ?_
        refine s_iloadn 1 5 rfl rfl ?_
        refine s_cvi1 (M' := MX5_waitsOf) 1 6 rfl k_ml116 vvX5_waitsOf rfl rfl (Nat.le_of_ble_eq_true rfl) rfl (c_Now_waitsOf g _ (k_sat_bind H)) (fun r8 u7 H => ?_)
        refine s_icmp_eq 1 7 44 rfl (by decide) H (fun _ H => ?_) (fun _ H => ?_)
        · refine s_iinc 1 10 rfl rfl rfl ?_
          refine s_goto 1 11 2 rfl (by decide) ?_
          exact k_via (hb _ _ (k_sat_some H)) ⟨rfl, rfl, rfl, rfl, trivial⟩
        · refine s_const 0 1 8 rfl k_ic_0 ?_
          exact s_zret 1 9 rfl rfl k_z0 (hr _ _ (k_sat_some H))
set_option maxRecDepth 100000 in
theorem l_Thought_standsAs_Now_B2 (g : k_G)  (v2 : Int32) {Q : Option Value → k_S → Prop} {K : (Int32 ⊕ Unit) → k_S → Prop} (hr : ∀ (r : Int32) (u' : k_S), K (.inl r) u' → Q (some (.int r)) u') (he : ∀ (y : Unit) (u' : k_S), K (.inr y) u' → k_W g 2 MX5_standsAs 50 [] [] u' Q) : ∀ (n : Nat) (x : (Int32)) (u : k_S), k_sat (k_itr (fun (x : (Int32)) u => f_Thought_standsAs_Now_B2  v2 x u) n x u) K → k_W g 2 MX5_standsAs 2 [(0, .ref 17), (1, .ref 14), (2, .int v2), (3, .int x)] [] u Q :=
  k_loop (P := fun (x : (Int32)) u => k_W g 2 MX5_standsAs 2 [(0, .ref 17), (1, .ref 14), (2, .int v2), (3, .int x)] [] u Q) (fun (x : (Int32)) u H => t_Thought_standsAs_Now_B2 g  v2 x  (fun r u' h => hr r u' h) (fun x u' h => h) (fun y u' h => he y u' h) H)
set_option maxRecDepth 100000 in
theorem c_Thought_standsAs_Now (g : k_G)  (p2 : Int32) {u : k_S} {QQ : Int32 → k_S → Prop} (H : k_sat (f_Thought_standsAs_Now  p2 u) QQ) : k_OK g 2 MX5_standsAs [.ref 17, .ref 14, .int p2] u (k_qi QQ) := by
  have hr : ∀ (r : Int32) (u' : k_S), QQ (r) u' → (k_qi QQ) (some (.int r)) u' := fun r u' h => ⟨_, rfl, h⟩
  refine k_OK.ofW pfX5_standsAs (k_tab_of MX5_standsAs_dec) rfl ?_
  refine s_const 0 0 0 rfl k_ic_0 ?_
  refine s_istoren 0 1 rfl rfl ?_
  refine k_via (l_Thought_standsAs_Now_B2 g  p2 ?_ ?_ _ _ _ (k_sat_bind H)) ⟨rfl, rfl, rfl, rfl, trivial⟩
  · exact fun r u' h => hr r u' (k_sat_some h)
  · intro y10 u9 H
    replace H := k_sat_csr H
    refine s_const 1 1 12 rfl k_ic_1 ?_
    exact s_zret 1 13 rfl rfl k_z1 (hr _ _ (k_sat_some H))
set_option maxRecDepth 100000 in
theorem t_Nights_firstAsNow_B6 (g : k_G)  (v1 : Int32) (v2 : Int32)  {u : k_S} {QQ : ((Int32) ⊕ (Int32 ⊕ Unit)) → k_S → Prop} {Q : Option Value → k_S → Prop} (hr : ∀ (r : Int32) (u' : k_S), QQ (.inr (.inl r)) u' → (Q) (some (.int r)) u') (hb : ∀ (x : (Int32)) (u' : k_S), QQ (.inl x) u' → k_W g 6 MX6_firstAsNow 6 [(0, .ref 12), (1, .int v1), (2, .int x)] [] u' Q) (he : ∀ (y : Unit) (u' : k_S), QQ (.inr (.inr y)) u' → k_W g 6 MX6_firstAsNow 56 [] [] u' Q) (H : k_sat (f_Nights_firstAsNow_B6  v1 v2 u) QQ) : k_W g 6 MX6_firstAsNow 6 [(0, .ref 12), (1, .int v1), (2, .int v2)] [] u Q := by
  refine s_iloadn 0 4 rfl rfl ?_
  refine s_iloadn 0 5 rfl rfl ?_
  refine s_icmp_gt 0 6 56 rfl (by decide) H (fun _ H => ?_) (fun _ H => ?_)
  · exact k_via (he _ _ (k_sat_some H)) trivial
  · refine s_aloadn 0 7 rfl rfl ?_
    refine s_aloadn 0 8 rfl rfl ?_
    refine s_getr 0 9 rfl k_fl65 rfl rfl rfl rfl ?_
    refine s_const 1 0 10 rfl k_ic_1 ?_
    refine s_aloadn 0 11 rfl rfl ?_
    refine s_getr 0 12 rfl k_fl69 rfl rfl rfl rfl ?_
    refine s_geti 303 0 13 rfl k_fl71 rfl rfl rfl rfl rfl ?_
    refine s_cvv3 (M' := MX6_pass) 0 14 rfl k_ml130 vvX6_pass rfl rfl (Nat.le_of_ble_eq_true rfl) rfl (c_Nights_pass_Thought g _ _ (k_sat_bind H)) (fun _ u2 H => ?_)
    refine s_aloadn 0 15 rfl rfl ?_
    refine s_getr 1 0 rfl k_fl65 rfl rfl rfl rfl ?_
    refine s_aloadn 1 1 rfl rfl ?_
    refine s_getr 1 2 rfl k_fl64 rfl rfl rfl rfl ?_
    refine s_aloadn 1 3 rfl rfl ?_
    refine s_getr 1 4 rfl k_fl69 rfl rfl rfl rfl ?_
    refine s_geti 303 1 5 rfl k_fl71 rfl rfl rfl rfl rfl ?_
    refine s_cvi2 (M' := MX5_standsAs) 1 6 rfl k_ml134 vvX5_standsAs rfl rfl (Nat.le_of_ble_eq_true rfl) rfl (c_Thought_standsAs_Now g _ (k_sat_bind H)) (fun r4 u3 H => ?_)
    refine s_if_eq 1 7 50 rfl (by decide) H (fun _ H => ?_) (fun _ H => ?_)
    · refine s_iinc 1 10 rfl rfl rfl ?_
      refine s_goto 1 11 6 rfl (by decide) ?_
      exact k_via (hb _ _ (k_sat_some H)) ⟨rfl, rfl, rfl, trivial⟩
    · refine s_iloadn 1 8 rfl rfl ?_
      exact s_iret 1 9 rfl rfl (hr _ _ (k_sat_some H))
set_option maxRecDepth 100000 in
theorem l_Nights_firstAsNow_B6 (g : k_G)  (v1 : Int32) {Q : Option Value → k_S → Prop} {K : (Int32 ⊕ Unit) → k_S → Prop} (hr : ∀ (r : Int32) (u' : k_S), K (.inl r) u' → Q (some (.int r)) u') (he : ∀ (y : Unit) (u' : k_S), K (.inr y) u' → k_W g 6 MX6_firstAsNow 56 [] [] u' Q) : ∀ (n : Nat) (x : (Int32)) (u : k_S), k_sat (k_itr (fun (x : (Int32)) u => f_Nights_firstAsNow_B6  v1 x u) n x u) K → k_W g 6 MX6_firstAsNow 6 [(0, .ref 12), (1, .int v1), (2, .int x)] [] u Q :=
  k_loop (P := fun (x : (Int32)) u => k_W g 6 MX6_firstAsNow 6 [(0, .ref 12), (1, .int v1), (2, .int x)] [] u Q) (fun (x : (Int32)) u H => t_Nights_firstAsNow_B6 g  v1 x  (fun r u' h => hr r u' h) (fun x u' h => h) (fun y u' h => he y u' h) H)
set_option maxRecDepth 100000 in
theorem c_Nights_firstAsNow (g : k_G)  (p1 : Int32) {u : k_S} {QQ : Int32 → k_S → Prop} (H : k_sat (f_Nights_firstAsNow  p1 u) QQ) : k_OK g 6 MX6_firstAsNow [.ref 12, .int p1] u (k_qi QQ) := by
  have hr : ∀ (r : Int32) (u' : k_S), QQ (r) u' → (k_qi QQ) (some (.int r)) u' := fun r u' h => ⟨_, rfl, h⟩
  refine k_OK.ofW pfX6_firstAsNow (k_tab_of MX6_firstAsNow_dec) rfl ?_
  refine s_aloadn 0 0 rfl rfl ?_
  refine s_cvv0 (M' := MX6_think) 0 1 rfl k_ml129 vvX6_think rfl rfl (Nat.le_of_ble_eq_true rfl) rfl (c_Nights_think g (k_sat_bind H)) (fun _ u1 H => ?_)
  refine s_const 1 0 2 rfl k_ic_1 ?_
  refine s_istoren 0 3 rfl rfl ?_
  refine k_via (l_Nights_firstAsNow_B6 g  p1 ?_ ?_ _ _ _ (k_sat_bind H)) ⟨rfl, rfl, rfl, trivial⟩
  · exact fun r u' h => hr r u' (k_sat_some h)
  · intro y6 u5 H
    replace H := k_sat_csr H
    refine s_bipush (-2) 1 12 rfl k_ib_m2 ?_
    exact s_iret 1 13 rfl rfl (hr _ _ (k_sat_some H))
set_option maxRecDepth 100000 in
theorem c_W_round (g : k_G)  (p1 : Int32) {u : k_S} {QQ : Int32 → k_S → Prop} (H : k_sat (f_W_round  p1 u) QQ) : k_OK g 7 MX11_round [.ref 0, .int p1] u (k_qi QQ) := by
  have hr : ∀ (r : Int32) (u' : k_S), QQ (r) u' → (k_qi QQ) (some (.int r)) u' := fun r u' h => ⟨_, rfl, h⟩
  refine k_OK.ofW pfX11_round (k_tab_of MX11_round_dec) rfl ?_
  refine s_iloadn 0 0 rfl rfl ?_
  refine s_const 1 0 1 rfl k_ic_1 ?_
  refine s_icmp_lt 0 2 12 rfl (by decide) H (fun _ H => ?_) (fun _ H => ?_)
  · refine s_const (-1) 0 6 rfl k_ic_m1 ?_
    exact s_iret 0 7 rfl rfl (hr _ _ (k_sat_some H))
  · refine s_iloadn 0 3 rfl rfl ?_
    refine s_sipush 20000 0 4 rfl k_is_20000 ?_
    refine s_icmp_le 0 5 14 rfl (by decide) H (fun _ H => ?_) (fun _ H => ?_)
    · refine s_aloadn 0 8 rfl rfl ?_
      refine s_getr 0 9 rfl k_fl3 rfl rfl rfl rfl ?_
      refine s_iloadn 0 10 rfl rfl ?_
      refine s_cvi1 (M' := MX6_firstAsNow) 0 11 rfl k_ml34 vvX6_firstAsNow rfl rfl (Nat.le_of_ble_eq_true rfl) rfl (c_Nights_firstAsNow g _ (k_sat_bind H)) (fun r2 u1 H => ?_)
      exact s_iret 0 12 rfl rfl (hr _ _ (k_sat_some H))
    · refine s_const (-1) 0 6 rfl k_ic_m1 ?_
      exact s_iret 0 7 rfl rfl (hr _ _ (k_sat_some H))
set_option maxRecDepth 100000 in
theorem t_R_isAsWas_B2 (g : k_G)  (v1 : Int32)  {u : k_S} {QQ : ((Int32) ⊕ (Int32 ⊕ Unit)) → k_S → Prop} {Q : Option Value → k_S → Prop} (hr : ∀ (r : Int32) (u' : k_S), QQ (.inr (.inl r)) u' → (Q) (some (.int r)) u') (hb : ∀ (x : (Int32)) (u' : k_S), QQ (.inl x) u' → k_W g 1 MX12_isAsWas 2 [(0, .ref 42), (1, .int x)] [] u' Q) (he : ∀ (y : Unit) (u' : k_S), QQ (.inr (.inr y)) u' → k_W g 1 MX12_isAsWas 48 [] [] u' Q) (H : k_sat (f_R_isAsWas_B2  v1 u) QQ) : k_W g 1 MX12_isAsWas 2 [(0, .ref 42), (1, .int v1)] [] u Q := by
  refine s_iloadn 0 2 rfl rfl ?_
  refine s_aloadn 0 3 rfl rfl ?_
  refine s_geti 4203 0 4 rfl k_fl122 rfl rfl rfl rfl rfl ?_
  refine s_icmp_ge 0 5 48 rfl (by decide) H (fun _ H => ?_) (fun _ H => ?_)
  · exact k_via (he _ _ (k_sat_some H)) trivial
  · refine s_aloadn 0 6 rfl rfl ?_
    refine s_getr 0 7 rfl k_fl90 rfl rfl rfl rfl ?_
    refine s_iloadn 0 8 rfl rfl ?_
    refine s_iald 0 9 rfl rfl H (fun _ H => ?_)
    refine s_aloadn 0 10 rfl rfl ?_
    refine s_getr 0 11 rfl k_fl105 rfl rfl rfl rfl ?_
    refine s_iloadn 0 12 rfl rfl ?_
    refine s_iald 0 13 rfl rfl H (fun _ H => ?_)
    refine s_icmp_ne 0 14 40 rfl (by decide) H (fun _ H => ?_) (fun _ H => ?_)
    · refine s_const 0 1 8 rfl k_ic_0 ?_
      exact s_zret 1 9 rfl rfl k_z0 (hr _ _ (k_sat_some H))
    · refine s_aloadn 0 15 rfl rfl ?_
      refine s_getr 1 0 rfl k_fl91 rfl rfl rfl rfl ?_
      refine s_iloadn 1 1 rfl rfl ?_
      refine s_iald 1 2 rfl rfl H (fun _ H => ?_)
      refine s_aloadn 1 3 rfl rfl ?_
      refine s_getr 1 4 rfl k_fl106 rfl rfl rfl rfl ?_
      refine s_iloadn 1 5 rfl rfl ?_
      refine s_iald 1 6 rfl rfl H (fun _ H => ?_)
      refine s_icmp_eq 1 7 42 rfl (by decide) H (fun _ H => ?_) (fun _ H => ?_)
      · refine s_iinc 1 10 rfl rfl rfl ?_
        refine s_goto 1 11 2 rfl (by decide) ?_
        exact k_via (hb _ _ (k_sat_some H)) ⟨rfl, rfl, trivial⟩
      · refine s_const 0 1 8 rfl k_ic_0 ?_
        exact s_zret 1 9 rfl rfl k_z0 (hr _ _ (k_sat_some H))
set_option maxRecDepth 100000 in
theorem l_R_isAsWas_B2 (g : k_G)   {Q : Option Value → k_S → Prop} {K : (Int32 ⊕ Unit) → k_S → Prop} (hr : ∀ (r : Int32) (u' : k_S), K (.inl r) u' → Q (some (.int r)) u') (he : ∀ (y : Unit) (u' : k_S), K (.inr y) u' → k_W g 1 MX12_isAsWas 48 [] [] u' Q) : ∀ (n : Nat) (x : (Int32)) (u : k_S), k_sat (k_itr (fun (x : (Int32)) u => f_R_isAsWas_B2  x u) n x u) K → k_W g 1 MX12_isAsWas 2 [(0, .ref 42), (1, .int x)] [] u Q :=
  k_loop (P := fun (x : (Int32)) u => k_W g 1 MX12_isAsWas 2 [(0, .ref 42), (1, .int x)] [] u Q) (fun (x : (Int32)) u H => t_R_isAsWas_B2 g  x  (fun r u' h => hr r u' h) (fun x u' h => h) (fun y u' h => he y u' h) H)
set_option maxRecDepth 100000 in
theorem c_R_isAsWas (g : k_G)   {u : k_S} {QQ : Int32 → k_S → Prop} (H : k_sat (f_R_isAsWas   u) QQ) : k_OK g 1 MX12_isAsWas [.ref 42] u (k_qi QQ) := by
  have hr : ∀ (r : Int32) (u' : k_S), QQ (r) u' → (k_qi QQ) (some (.int r)) u' := fun r u' h => ⟨_, rfl, h⟩
  refine k_OK.ofW pfX12_isAsWas (k_tab_of MX12_isAsWas_dec) rfl ?_
  refine s_const 0 0 0 rfl k_ic_0 ?_
  refine s_istoren 0 1 rfl rfl ?_
  refine k_via (l_R_isAsWas_B2 g   ?_ ?_ _ _ _ (k_sat_bind H)) ⟨rfl, rfl, trivial⟩
  · exact fun r u' h => hr r u' (k_sat_some h)
  · intro y2 u1 H
    replace H := k_sat_csr H
    refine s_const 1 1 12 rfl k_ic_1 ?_
    exact s_zret 1 13 rfl rfl k_z1 (hr _ _ (k_sat_some H))
set_option maxRecDepth 100000 in
theorem t_R_round_B22 (g : k_G)  (v1 : Int32) (v2 : Int32) (v3 : Int32)  {u : k_S} {QQ : ((Int32 × Int32) ⊕ (Int32)) → k_S → Prop} {Q : Option Value → k_S → Prop} (hb : ∀ (x : (Int32 × Int32)) (u' : k_S), QQ (.inl x) u' → k_W g 7 MX12_round 22 [(0, .ref 42), (1, .int v1), (2, .int x.1), (3, .int x.2)] [] u' Q) (he : ∀ (y : (Int32)) (u' : k_S), QQ (.inr y) u' → k_W g 7 MX12_round 50 [(0, .ref 42), (2, .int y)] [] u' Q) (H : k_sat (f_R_round_B22  v1 v2 v3 u) QQ) : k_W g 7 MX12_round 22 [(0, .ref 42), (1, .int v1), (2, .int v2), (3, .int v3)] [] u Q := by
  refine s_iloadn 0 13 rfl rfl ?_
  refine s_iloadn 0 14 rfl rfl ?_
  refine s_icmp_gt 0 15 50 rfl (by decide) H (fun _ H => ?_) (fun _ H => ?_)
  · exact k_via (he _ _ (k_sat_some H)) ⟨rfl, rfl, trivial⟩
  · refine s_iloadn 1 0 rfl rfl ?_
    refine s_if_ge 1 1 50 rfl (by decide) H (fun _ H => ?_) (fun _ H => ?_)
    · exact k_via (he _ _ (k_sat_some H)) ⟨rfl, rfl, trivial⟩
    · refine s_aloadn 1 2 rfl rfl ?_
      refine s_cvv0 (M' := MX12_goOn) 1 3 rfl k_ml255 vvX12_goOn rfl rfl (Nat.le_of_ble_eq_true rfl) rfl (c_R_goOn g (k_sat_bind H)) (fun _ u4 H => ?_)
      refine s_aloadn 1 4 rfl rfl ?_
      refine s_cvi0 (M' := MX12_isAsWas) 1 5 rfl k_ml259 vvX12_isAsWas rfl rfl (Nat.le_of_ble_eq_true rfl) rfl (c_R_isAsWas g (k_sat_bind H)) (fun r6 u5 H => ?_)
      refine s_if_eq 1 6 44 rfl (by decide) H (fun _ H => ?_) (fun _ H => ?_)
      · refine s_iinc 1 9 rfl rfl rfl ?_
        refine s_goto 1 10 22 rfl (by decide) ?_
        exact k_via (hb _ _ (k_sat_some H)) ⟨rfl, rfl, rfl, rfl, trivial⟩
      · refine s_iloadn 1 7 rfl rfl ?_
        refine s_istoren 1 8 rfl rfl ?_
        refine s_iinc 1 9 rfl rfl rfl ?_
        refine s_goto 1 10 22 rfl (by decide) ?_
        exact k_via (hb _ _ (k_sat_some H)) ⟨rfl, rfl, rfl, rfl, trivial⟩
set_option maxRecDepth 100000 in
theorem l_R_round_B22 (g : k_G)  (v1 : Int32) {Q : Option Value → k_S → Prop} {K : (Int32) → k_S → Prop} (he : ∀ (y : (Int32)) (u' : k_S), K (y) u' → k_W g 7 MX12_round 50 [(0, .ref 42), (2, .int y)] [] u' Q) : ∀ (n : Nat) (x : (Int32 × Int32)) (u : k_S), k_sat (k_itr (fun (x : (Int32 × Int32)) u => f_R_round_B22  v1 x.1 x.2 u) n x u) K → k_W g 7 MX12_round 22 [(0, .ref 42), (1, .int v1), (2, .int x.1), (3, .int x.2)] [] u Q :=
  k_loop (P := fun (x : (Int32 × Int32)) u => k_W g 7 MX12_round 22 [(0, .ref 42), (1, .int v1), (2, .int x.1), (3, .int x.2)] [] u Q) (fun (x : (Int32 × Int32)) u H => t_R_round_B22 g  v1 x.1 x.2  (fun x u' h => h) (fun y u' h => he y u' h) H)
set_option maxRecDepth 100000 in
theorem t_R_round_J50 (g : k_G)  (v2 : Int32)  {u : k_S} {QQ : Int32 → k_S → Prop} {Q : Option Value → k_S → Prop} (hr : ∀ (r : Int32) (u' : k_S), QQ (r) u' → (Q) (some (.int r)) u') (H : k_sat (f_R_round_J50  v2 u) QQ) : k_W g 7 MX12_round 50 [(0, .ref 42), (2, .int v2)] [] u Q := by
  refine s_aloadn 1 11 rfl rfl ?_
  refine s_cvv0 (M' := MX12_layBack) 1 12 rfl k_ml257 vvX12_layBack rfl rfl (Nat.le_of_ble_eq_true rfl) rfl (c_R_layBack g (k_sat_bind H)) (fun _ u9 H => ?_)
  refine s_iloadn 1 13 rfl rfl ?_
  exact s_iret 1 14 rfl rfl (hr _ _ (k_sat_some H))
set_option maxRecDepth 100000 in
theorem c_R_round (g : k_G)  (p1 : Int32) {u : k_S} {QQ : Int32 → k_S → Prop} (H : k_sat (f_R_round  p1 u) QQ) : k_OK g 7 MX12_round [.ref 42, .int p1] u (k_qi QQ) := by
  have hr : ∀ (r : Int32) (u' : k_S), QQ (r) u' → (k_qi QQ) (some (.int r)) u' := fun r u' h => ⟨_, rfl, h⟩
  refine k_OK.ofW pfX12_round (k_tab_of MX12_round_dec) rfl ?_
  refine s_iloadn 0 0 rfl rfl ?_
  refine s_const 1 0 1 rfl k_ic_1 ?_
  refine s_sipush 20000 0 2 rfl k_is_20000 ?_
  refine s_csi3 (M' := MX12_in) 0 3 rfl k_ml230 vvX12_in (Nat.le_of_ble_eq_true rfl) rfl (c_R_in g _ _ _ (k_sat_bind H)) (fun r2 u1 H => ?_)
  refine s_if_ne 0 4 13 rfl (by decide) H (fun _ H => ?_) (fun _ H => ?_)
  · refine s_aloadn 0 7 rfl rfl ?_
    refine s_cvv0 (M' := MX12_keepNow) 0 8 rfl k_ml256 vvX12_keepNow rfl rfl (Nat.le_of_ble_eq_true rfl) rfl (c_R_keepNow g (k_sat_bind H)) (fun _ u3 H => ?_)
    refine s_bipush (-2) 0 9 rfl k_ib_m2 ?_
    refine s_istoren 0 10 rfl rfl ?_
    refine s_const 1 0 11 rfl k_ic_1 ?_
    refine s_istoren 0 12 rfl rfl ?_
    refine k_via (l_R_round_B22 g  p1 ?_ _ _ _ (k_sat_bind H)) ⟨rfl, rfl, rfl, rfl, trivial⟩
    · intro y8 u7 H
      exact k_via (t_R_round_J50 g  _  hr H) ⟨rfl, rfl, trivial⟩
  · refine s_const (-1) 0 5 rfl k_ic_m1 ?_
    exact s_iret 0 6 rfl rfl (hr _ _ (k_sat_some H))
set_option maxRecDepth 100000 in
theorem t_Nights_nightsTo_J24 (g : k_G)  (v1 : Int32) (v2 : Int32) (v3 : Int32) (v4 : Int32)  {u : k_S} {QQ : ((Int32) ⊕ (Int32 ⊕ Unit)) → k_S → Prop} {Q : Option Value → k_S → Prop} (hr : ∀ (r : Int32) (u' : k_S), QQ (.inr (.inl r)) u' → (Q) (some (.int r)) u') (hb : ∀ (x : (Int32)) (u' : k_S), QQ (.inl x) u' → k_W g 6 MX6_nightsTo 3 [(0, .ref 12), (1, .int v1), (2, .int v2), (3, .int v3), (4, .int x)] [] u' Q) (he : ∀ (y : Unit) (u' : k_S), QQ (.inr (.inr y)) u' → k_W g 6 MX6_nightsTo 51 [] [] u' Q) (H : k_sat (f_Nights_nightsTo_J24  v1 v2 v3 v4 u) QQ) : k_W g 6 MX6_nightsTo 24 [(0, .ref 12), (1, .int v1), (2, .int v2), (3, .int v3), (4, .int v4)] [] u Q := by
  refine s_iload 0 13 rfl rfl ?_
  refine s_iloadn 0 14 rfl rfl ?_
  refine s_icmp_lt 0 15 45 rfl (by decide) H (fun _ H => ?_) (fun _ H => ?_)
  · refine s_iinc 1 8 rfl rfl rfl ?_
    refine s_goto 1 9 3 rfl (by decide) ?_
    exact k_via (hb _ _ (k_sat_some H)) ⟨rfl, rfl, rfl, rfl, rfl, trivial⟩
  · refine s_aloadn 1 0 rfl rfl ?_
    refine s_getr 1 1 rfl k_fl65 rfl rfl rfl rfl ?_
    refine s_const 0 1 2 rfl k_ic_0 ?_
    refine s_cvi1 (M' := MX5_placeOf) 1 3 rfl k_ml121 vvX5_placeOf rfl rfl (Nat.le_of_ble_eq_true rfl) rfl (c_Thought_placeOf g _ (k_sat_bind H)) (fun r2 u1 H => ?_)
    refine s_iloadn 1 4 rfl rfl ?_
    refine s_icmp_ne 1 5 45 rfl (by decide) H (fun _ H => ?_) (fun _ H => ?_)
    · refine s_iinc 1 8 rfl rfl rfl ?_
      refine s_goto 1 9 3 rfl (by decide) ?_
      exact k_via (hb _ _ (k_sat_some H)) ⟨rfl, rfl, rfl, rfl, rfl, trivial⟩
    · refine s_iload 1 6 rfl rfl ?_
      exact s_iret 1 7 rfl rfl (hr _ _ (k_sat_some H))
set_option maxRecDepth 100000 in
theorem t_Nights_nightsTo_B3 (g : k_G)  (v1 : Int32) (v2 : Int32) (v3 : Int32) (v4 : Int32)  {u : k_S} {QQ : ((Int32) ⊕ (Int32 ⊕ Unit)) → k_S → Prop} {Q : Option Value → k_S → Prop} (hr : ∀ (r : Int32) (u' : k_S), QQ (.inr (.inl r)) u' → (Q) (some (.int r)) u') (hb : ∀ (x : (Int32)) (u' : k_S), QQ (.inl x) u' → k_W g 6 MX6_nightsTo 3 [(0, .ref 12), (1, .int v1), (2, .int v2), (3, .int v3), (4, .int x)] [] u' Q) (he : ∀ (y : Unit) (u' : k_S), QQ (.inr (.inr y)) u' → k_W g 6 MX6_nightsTo 51 [] [] u' Q) (H : k_sat (f_Nights_nightsTo_B3  v1 v2 v3 v4 u) QQ) : k_W g 6 MX6_nightsTo 3 [(0, .ref 12), (1, .int v1), (2, .int v2), (3, .int v3), (4, .int v4)] [] u Q := by
  refine s_iload 0 2 rfl rfl ?_
  refine s_iloadn 0 3 rfl rfl ?_
  refine s_icmp_gt 0 4 51 rfl (by decide) H (fun _ H => ?_) (fun _ H => ?_)
  · exact k_via (he _ _ (k_sat_some H)) trivial
  · refine s_iload 0 5 rfl rfl ?_
    refine s_if_le 0 6 24 rfl (by decide) H (fun _ H => ?_) (fun _ H => ?_)
    · exact k_via (t_Nights_nightsTo_J24 g  _ _ _ _  hr hb he H) ⟨rfl, rfl, rfl, rfl, rfl, trivial⟩
    · refine s_aloadn 0 7 rfl rfl ?_
      refine s_aloadn 0 8 rfl rfl ?_
      refine s_getr 0 9 rfl k_fl65 rfl rfl rfl rfl ?_
      refine s_const 1 0 10 rfl k_ic_1 ?_
      refine s_const 1 0 11 rfl k_ic_1 ?_
      refine s_cvv3 (M' := MX6_pass) 0 12 rfl k_ml130 vvX6_pass rfl rfl (Nat.le_of_ble_eq_true rfl) rfl (c_Nights_pass_Thought g _ _ (k_sat_bind H)) (fun _ u3 H => ?_)
      exact k_via (t_Nights_nightsTo_J24 g  _ _ _ _  hr hb he H) ⟨rfl, rfl, rfl, rfl, rfl, trivial⟩
set_option maxRecDepth 100000 in
theorem l_Nights_nightsTo_B3 (g : k_G)  (v1 : Int32) (v2 : Int32) (v3 : Int32) {Q : Option Value → k_S → Prop} {K : (Int32 ⊕ Unit) → k_S → Prop} (hr : ∀ (r : Int32) (u' : k_S), K (.inl r) u' → Q (some (.int r)) u') (he : ∀ (y : Unit) (u' : k_S), K (.inr y) u' → k_W g 6 MX6_nightsTo 51 [] [] u' Q) : ∀ (n : Nat) (x : (Int32)) (u : k_S), k_sat (k_itr (fun (x : (Int32)) u => f_Nights_nightsTo_B3  v1 v2 v3 x u) n x u) K → k_W g 6 MX6_nightsTo 3 [(0, .ref 12), (1, .int v1), (2, .int v2), (3, .int v3), (4, .int x)] [] u Q :=
  k_loop (P := fun (x : (Int32)) u => k_W g 6 MX6_nightsTo 3 [(0, .ref 12), (1, .int v1), (2, .int v2), (3, .int v3), (4, .int x)] [] u Q) (fun (x : (Int32)) u H => t_Nights_nightsTo_B3 g  v1 v2 v3 x  (fun r u' h => hr r u' h) (fun x u' h => h) (fun y u' h => he y u' h) H)
set_option maxRecDepth 100000 in
theorem c_Nights_nightsTo (g : k_G)  (p1 : Int32) (p2 : Int32) (p3 : Int32) {u : k_S} {QQ : Int32 → k_S → Prop} (H : k_sat (f_Nights_nightsTo  p1 p2 p3 u) QQ) : k_OK g 6 MX6_nightsTo [.ref 12, .int p1, .int p2, .int p3] u (k_qi QQ) := by
  have hr : ∀ (r : Int32) (u' : k_S), QQ (r) u' → (k_qi QQ) (some (.int r)) u' := fun r u' h => ⟨_, rfl, h⟩
  refine k_OK.ofW pfX6_nightsTo (k_tab_of MX6_nightsTo_dec) rfl ?_
  refine s_const 0 0 0 rfl k_ic_0 ?_
  refine s_istore 0 1 rfl rfl ?_
  refine k_via (l_Nights_nightsTo_B3 g  p1 p2 p3 ?_ ?_ _ _ _ (k_sat_bind H)) ⟨rfl, rfl, rfl, rfl, rfl, trivial⟩
  · exact fun r u' h => hr r u' (k_sat_some h)
  · intro y5 u4 H
    replace H := k_sat_csr H
    refine s_bipush (-2) 1 10 rfl k_ib_m2 ?_
    exact s_iret 1 11 rfl rfl (hr _ _ (k_sat_some H))
set_option maxRecDepth 100000 in
theorem c_W_truth (g : k_G)  (p1 : Int32) {u : k_S} {QQ : Int32 → k_S → Prop} (H : k_sat (f_W_truth  p1 u) QQ) : k_OK g 7 MX11_truth [.ref 0, .int p1] u (k_qi QQ) := by
  have hr : ∀ (r : Int32) (u' : k_S), QQ (r) u' → (k_qi QQ) (some (.int r)) u' := fun r u' h => ⟨_, rfl, h⟩
  refine k_OK.ofW pfX11_truth (k_tab_of MX11_truth_dec) rfl ?_
  refine s_iloadn 0 0 rfl rfl ?_
  refine s_if_lt 0 1 22 rfl (by decide) H (fun _ H => ?_) (fun _ H => ?_)
  · refine s_const (-1) 0 12 rfl k_ic_m1 ?_
    exact s_iret 0 13 rfl rfl (hr _ _ (k_sat_some H))
  · refine s_iloadn 0 2 rfl rfl ?_
    refine s_bipush 100 0 3 rfl k_ib_100 ?_
    refine s_idiv 0 4 rfl k_nz_100 ?_
    refine s_bipush 40 0 5 rfl k_ib_40 ?_
    refine s_icmp_ge 0 6 22 rfl (by decide) H (fun _ H => ?_) (fun _ H => ?_)
    · refine s_const (-1) 0 12 rfl k_ic_m1 ?_
      exact s_iret 0 13 rfl rfl (hr _ _ (k_sat_some H))
    · refine s_iloadn 0 7 rfl rfl ?_
      refine s_bipush 100 0 8 rfl k_ib_100 ?_
      refine s_irem 0 9 rfl k_nz_100 ?_
      refine s_bipush 40 0 10 rfl k_ib_40 ?_
      refine s_icmp_lt 0 11 24 rfl (by decide) H (fun _ H => ?_) (fun _ H => ?_)
      · refine s_aloadn 0 14 rfl rfl ?_
        refine s_getr 0 15 rfl k_fl1 rfl rfl rfl rfl ?_
        refine s_geti 303 1 0 rfl k_fl12 rfl rfl rfl rfl rfl ?_
        refine s_if_ne 1 1 37 rfl (by decide) H (fun _ H => ?_) (fun _ H => ?_)
        · refine s_aloadn 1 4 rfl rfl ?_
          refine s_getr 1 5 rfl k_fl3 rfl rfl rfl rfl ?_
          refine s_cvv0 (M' := MX6_think) 1 6 rfl k_ml27 vvX6_think rfl rfl (Nat.le_of_ble_eq_true rfl) rfl (c_Nights_think g (k_sat_bind H)) (fun _ u1 H => ?_)
          refine s_aloadn 1 7 rfl rfl ?_
          refine s_getr 1 8 rfl k_fl3 rfl rfl rfl rfl ?_
          refine s_iloadn 1 9 rfl rfl ?_
          refine s_bipush 100 1 10 rfl k_ib_100 ?_
          refine s_idiv 1 11 rfl k_nz_100 ?_
          refine s_const 0 1 12 rfl k_ic_0 ?_
          refine s_sipush 2000 1 13 rfl k_is_2000 ?_
          refine s_cvi3 (M' := MX6_nightsTo) 1 14 rfl k_ml35 vvX6_nightsTo rfl rfl (Nat.le_of_ble_eq_true rfl) rfl (c_Nights_nightsTo g _ _ _ (k_sat_bind H)) (fun r3 u2 H => ?_)
          refine s_bipush (-2) 1 15 rfl k_ib_m2 ?_
          refine s_icmp_ne 2 0 67 rfl (by decide) H (fun _ H => ?_) (fun _ H => ?_)
          · refine s_aloadn 2 3 rfl rfl ?_
            refine s_getr 2 4 rfl k_fl3 rfl rfl rfl rfl ?_
            refine s_iloadn 2 5 rfl rfl ?_
            refine s_bipush 100 2 6 rfl k_ib_100 ?_
            refine s_irem 2 7 rfl k_nz_100 ?_
            refine s_const 1 2 8 rfl k_ic_1 ?_
            refine s_sipush 2000 2 9 rfl k_is_2000 ?_
            refine s_cvi3 (M' := MX6_nightsTo) 2 10 rfl k_ml35 vvX6_nightsTo rfl rfl (Nat.le_of_ble_eq_true rfl) rfl (c_Nights_nightsTo g _ _ _ (k_sat_bind H)) (fun r5 u4 H => ?_)
            exact s_iret 2 11 rfl rfl (hr _ _ (k_sat_some H))
          · refine s_bipush (-2) 2 1 rfl k_ib_m2 ?_
            exact s_iret 2 2 rfl rfl (hr _ _ (k_sat_some H))
        · refine s_bipush (-5) 1 2 rfl k_ib_m5 ?_
          exact s_iret 1 3 rfl rfl (hr _ _ (k_sat_some H))
      · refine s_const (-1) 0 12 rfl k_ic_m1 ?_
        exact s_iret 0 13 rfl rfl (hr _ _ (k_sat_some H))
set_option maxRecDepth 100000 in
theorem t_R_truth_B74 (g : k_G)  (v1 : Int32) (v2 : Int32)  {u : k_S} {QQ : ((Int32) ⊕ (Int32)) → k_S → Prop} {Q : Option Value → k_S → Prop} (hb : ∀ (x : (Int32)) (u' : k_S), QQ (.inl x) u' → k_W g 7 MX12_truth 74 [(0, .ref 42), (1, .int v1), (2, .int x)] [] u' Q) (he : ∀ (y : (Int32)) (u' : k_S), QQ (.inr y) u' → k_W g 7 MX12_truth 104 [(0, .ref 42), (1, .int v1), (2, .int y)] [] u' Q) (H : k_sat (f_R_truth_B74  v1 v2 u) QQ) : k_W g 7 MX12_truth 74 [(0, .ref 42), (1, .int v1), (2, .int v2)] [] u Q := by
  refine s_iloadn 2 11 rfl rfl ?_
  refine s_sipush 2000 2 12 rfl k_is_2000 ?_
  refine s_icmp_gt 2 13 104 rfl (by decide) H (fun _ H => ?_) (fun _ H => ?_)
  · exact k_via (he _ _ (k_sat_some H)) ⟨rfl, rfl, rfl, trivial⟩
  · refine s_aloadn 2 14 rfl rfl ?_
    refine s_getr 2 15 rfl k_fl90 rfl rfl rfl rfl ?_
    refine s_const 0 3 0 rfl k_ic_0 ?_
    refine s_iald 3 1 rfl rfl H (fun _ H => ?_)
    refine s_iloadn 3 2 rfl rfl ?_
    refine s_bipush 100 3 3 rfl k_ib_100 ?_
    refine s_idiv 3 4 rfl k_nz_100 ?_
    refine s_icmp_eq 3 5 104 rfl (by decide) H (fun _ H => ?_) (fun _ H => ?_)
    · exact k_via (he _ _ (k_sat_some H)) ⟨rfl, rfl, rfl, trivial⟩
    · refine s_aloadn 3 6 rfl rfl ?_
      refine s_cvv0 (M' := MX12_goOn) 3 7 rfl k_ml255 vvX12_goOn rfl rfl (Nat.le_of_ble_eq_true rfl) rfl (c_R_goOn g (k_sat_bind H)) (fun _ u2 H => ?_)
      refine s_iinc 3 8 rfl rfl rfl ?_
      refine s_goto 3 9 74 rfl (by decide) ?_
      exact k_via (hb _ _ (k_sat_some H)) ⟨rfl, rfl, rfl, trivial⟩
set_option maxRecDepth 100000 in
theorem l_R_truth_B74 (g : k_G)  (v1 : Int32) {Q : Option Value → k_S → Prop} {K : (Int32) → k_S → Prop} (he : ∀ (y : (Int32)) (u' : k_S), K (y) u' → k_W g 7 MX12_truth 104 [(0, .ref 42), (1, .int v1), (2, .int y)] [] u' Q) : ∀ (n : Nat) (x : (Int32)) (u : k_S), k_sat (k_itr (fun (x : (Int32)) u => f_R_truth_B74  v1 x u) n x u) K → k_W g 7 MX12_truth 74 [(0, .ref 42), (1, .int v1), (2, .int x)] [] u Q :=
  k_loop (P := fun (x : (Int32)) u => k_W g 7 MX12_truth 74 [(0, .ref 42), (1, .int v1), (2, .int x)] [] u Q) (fun (x : (Int32)) u H => t_R_truth_B74 g  v1 x  (fun x u' h => h) (fun y u' h => he y u' h) H)
set_option maxRecDepth 100000 in
theorem t_R_truth_J155 (g : k_G)  (v3 : Int32)  {u : k_S} {QQ : Int32 → k_S → Prop} {Q : Option Value → k_S → Prop} (hr : ∀ (r : Int32) (u' : k_S), QQ (r) u' → (Q) (some (.int r)) u') (H : k_sat (f_R_truth_J155  v3 u) QQ) : k_W g 7 MX12_truth 155 [(0, .ref 42), (3, .int v3)] [] u Q := by
  refine s_aloadn 5 4 rfl rfl ?_
  refine s_cvv0 (M' := MX12_layBack) 5 5 rfl k_ml257 vvX12_layBack rfl rfl (Nat.le_of_ble_eq_true rfl) rfl (c_R_layBack g (k_sat_bind H)) (fun _ u5 H => ?_)
  refine s_iloadn 5 6 rfl rfl ?_
  exact s_iret 5 7 rfl rfl (hr _ _ (k_sat_some H))
set_option maxRecDepth 100000 in
theorem t_R_truth_B117 (g : k_G)  (v1 : Int32) (v3 : Int32) (v4 : Int32)  {u : k_S} {QQ : ((Int32 × Int32) ⊕ (Int32)) → k_S → Prop} {Q : Option Value → k_S → Prop} (hb : ∀ (x : (Int32 × Int32)) (u' : k_S), QQ (.inl x) u' → k_W g 7 MX12_truth 117 [(0, .ref 42), (1, .int v1), (3, .int x.1), (4, .int x.2)] [] u' Q) (he : ∀ (y : (Int32)) (u' : k_S), QQ (.inr y) u' → k_W g 7 MX12_truth 155 [(0, .ref 42), (3, .int y)] [] u' Q) (H : k_sat (f_R_truth_B117  v1 v3 v4 u) QQ) : k_W g 7 MX12_truth 117 [(0, .ref 42), (1, .int v1), (3, .int v3), (4, .int v4)] [] u Q := by
  refine s_iload 4 1 rfl rfl ?_
  refine s_sipush 2000 4 2 rfl k_is_2000 ?_
  refine s_icmp_gt 4 3 155 rfl (by decide) H (fun _ H => ?_) (fun _ H => ?_)
  · exact k_via (he _ _ (k_sat_some H)) ⟨rfl, rfl, trivial⟩
  · refine s_iloadn 4 4 rfl rfl ?_
    refine s_if_ge 4 5 155 rfl (by decide) H (fun _ H => ?_) (fun _ H => ?_)
    · exact k_via (he _ _ (k_sat_some H)) ⟨rfl, rfl, trivial⟩
    · refine s_aloadn 4 6 rfl rfl ?_
      refine s_cvv0 (M' := MX12_goOn) 4 7 rfl k_ml255 vvX12_goOn rfl rfl (Nat.le_of_ble_eq_true rfl) rfl (c_R_goOn g (k_sat_bind H)) (fun _ u6 H => ?_)
      refine s_aloadn 4 8 rfl rfl ?_
      refine s_getr 4 9 rfl k_fl90 rfl rfl rfl rfl ?_
      refine s_const 0 4 10 rfl k_ic_0 ?_
      refine s_iald 4 11 rfl rfl H (fun _ H => ?_)
      refine s_iloadn 4 12 rfl rfl ?_
      refine s_bipush 100 4 13 rfl k_ib_100 ?_
      refine s_irem 4 14 rfl k_nz_100 ?_
      refine s_icmp_ne 4 15 149 rfl (by decide) H (fun _ H => ?_) (fun _ H => ?_)
      · refine s_iinc 5 2 rfl rfl rfl ?_
        refine s_goto 5 3 117 rfl (by decide) ?_
        exact k_via (hb _ _ (k_sat_some H)) ⟨rfl, rfl, rfl, rfl, trivial⟩
      · refine s_iload 5 0 rfl rfl ?_
        refine s_istoren 5 1 rfl rfl ?_
        refine s_iinc 5 2 rfl rfl rfl ?_
        refine s_goto 5 3 117 rfl (by decide) ?_
        exact k_via (hb _ _ (k_sat_some H)) ⟨rfl, rfl, rfl, rfl, trivial⟩
set_option maxRecDepth 100000 in
theorem l_R_truth_B117 (g : k_G)  (v1 : Int32) {Q : Option Value → k_S → Prop} {K : (Int32) → k_S → Prop} (he : ∀ (y : (Int32)) (u' : k_S), K (y) u' → k_W g 7 MX12_truth 155 [(0, .ref 42), (3, .int y)] [] u' Q) : ∀ (n : Nat) (x : (Int32 × Int32)) (u : k_S), k_sat (k_itr (fun (x : (Int32 × Int32)) u => f_R_truth_B117  v1 x.1 x.2 u) n x u) K → k_W g 7 MX12_truth 117 [(0, .ref 42), (1, .int v1), (3, .int x.1), (4, .int x.2)] [] u Q :=
  k_loop (P := fun (x : (Int32 × Int32)) u => k_W g 7 MX12_truth 117 [(0, .ref 42), (1, .int v1), (3, .int x.1), (4, .int x.2)] [] u Q) (fun (x : (Int32 × Int32)) u H => t_R_truth_B117 g  v1 x.1 x.2  (fun x u' h => h) (fun y u' h => he y u' h) H)
set_option maxRecDepth 100000 in
theorem t_R_truth_J104 (g : k_G)  (v1 : Int32) (v2 : Int32)  {u : k_S} {QQ : Int32 → k_S → Prop} {Q : Option Value → k_S → Prop} (hr : ∀ (r : Int32) (u' : k_S), QQ (r) u' → (Q) (some (.int r)) u') (H : k_sat (f_R_truth_J104  v1 v2 u) QQ) : k_W g 7 MX12_truth 104 [(0, .ref 42), (1, .int v1), (2, .int v2)] [] u Q := by
  refine s_bipush (-2) 3 10 rfl k_ib_m2 ?_
  refine s_istoren 3 11 rfl rfl ?_
  refine s_iloadn 3 12 rfl rfl ?_
  refine s_sipush 2000 3 13 rfl k_is_2000 ?_
  refine s_icmp_gt 3 14 155 rfl (by decide) H (fun _ H => ?_) (fun _ H => ?_)
  · exact k_via (t_R_truth_J155 g  _  hr H) ⟨rfl, rfl, trivial⟩
  · refine s_const 1 3 15 rfl k_ic_1 ?_
    refine s_istore 4 0 rfl rfl ?_
    refine k_via (l_R_truth_B117 g  v1 ?_ _ _ _ (k_sat_bind H)) ⟨rfl, rfl, rfl, rfl, trivial⟩
    · intro y8 u7 H
      exact k_via (t_R_truth_J155 g  _  hr H) ⟨rfl, rfl, trivial⟩
set_option maxRecDepth 100000 in
theorem c_R_truth (g : k_G)  (p1 : Int32) {u : k_S} {QQ : Int32 → k_S → Prop} (H : k_sat (f_R_truth  p1 u) QQ) : k_OK g 7 MX12_truth [.ref 42, .int p1] u (k_qi QQ) := by
  have hr : ∀ (r : Int32) (u' : k_S), QQ (r) u' → (k_qi QQ) (some (.int r)) u' := fun r u' h => ⟨_, rfl, h⟩
  refine k_OK.ofW pfX12_truth (k_tab_of MX12_truth_dec) rfl ?_
  refine s_aloadn 0 0 rfl rfl ?_
  refine s_geti 4203 0 1 rfl k_fl122 rfl rfl rfl rfl rfl ?_
  refine s_if_ne 0 2 36 rfl (by decide) H (fun _ H => ?_) (fun _ H => ?_)
  · refine s_iloadn 1 3 rfl rfl ?_
    refine s_if_lt 1 4 66 rfl (by decide) H (fun _ H => ?_) (fun _ H => ?_)
    · refine s_const (-1) 2 5 rfl k_ic_m1 ?_
      exact s_iret 2 6 rfl rfl (hr _ _ (k_sat_some H))
    · refine s_iloadn 1 5 rfl rfl ?_
      refine s_bipush 100 1 6 rfl k_ib_100 ?_
      refine s_idiv 1 7 rfl k_nz_100 ?_
      refine s_aloadn 1 8 rfl rfl ?_
      refine s_getr 1 9 rfl k_fl89 rfl rfl rfl rfl ?_
      refine s_const 0 1 10 rfl k_ic_0 ?_
      refine s_iald 1 11 rfl rfl H (fun _ H => ?_)
      refine s_icmp_ge 1 12 66 rfl (by decide) H (fun _ H => ?_) (fun _ H => ?_)
      · refine s_const (-1) 2 5 rfl k_ic_m1 ?_
        exact s_iret 2 6 rfl rfl (hr _ _ (k_sat_some H))
      · refine s_iloadn 1 13 rfl rfl ?_
        refine s_bipush 100 1 14 rfl k_ib_100 ?_
        refine s_irem 1 15 rfl k_nz_100 ?_
        refine s_aloadn 2 0 rfl rfl ?_
        refine s_getr 2 1 rfl k_fl89 rfl rfl rfl rfl ?_
        refine s_const 0 2 2 rfl k_ic_0 ?_
        refine s_iald 2 3 rfl rfl H (fun _ H => ?_)
        refine s_icmp_lt 2 4 68 rfl (by decide) H (fun _ H => ?_) (fun _ H => ?_)
        · refine s_aloadn 2 7 rfl rfl ?_
          refine s_cvv0 (M' := MX12_keepNow) 2 8 rfl k_ml256 vvX12_keepNow rfl rfl (Nat.le_of_ble_eq_true rfl) rfl (c_R_keepNow g (k_sat_bind H)) (fun _ u1 H => ?_)
          refine s_const 0 2 9 rfl k_ic_0 ?_
          refine s_istoren 2 10 rfl rfl ?_
          refine k_via (l_R_truth_B74 g  p1 ?_ _ _ _ (k_sat_bind H)) ⟨rfl, rfl, rfl, trivial⟩
          · intro y4 u3 H
            exact k_via (t_R_truth_J104 g  _ _  hr H) ⟨rfl, rfl, rfl, trivial⟩
        · refine s_const (-1) 2 5 rfl k_ic_m1 ?_
          exact s_iret 2 6 rfl rfl (hr _ _ (k_sat_some H))
  · refine s_iloadn 0 3 rfl rfl ?_
    refine s_if_lt 0 4 29 rfl (by decide) H (fun _ H => ?_) (fun _ H => ?_)
    · refine s_const (-1) 0 15 rfl k_ic_m1 ?_
      refine s_goto 1 0 35 rfl (by decide) ?_
      exact s_iret 1 2 rfl rfl (hr _ _ (k_sat_some H))
    · refine s_iloadn 0 5 rfl rfl ?_
      refine s_bipush 100 0 6 rfl k_ib_100 ?_
      refine s_irem 0 7 rfl k_nz_100 ?_
      refine s_bipush 40 0 8 rfl k_ib_40 ?_
      refine s_icmp_ge 0 9 29 rfl (by decide) H (fun _ H => ?_) (fun _ H => ?_)
      · refine s_const (-1) 0 15 rfl k_ic_m1 ?_
        refine s_goto 1 0 35 rfl (by decide) ?_
        exact s_iret 1 2 rfl rfl (hr _ _ (k_sat_some H))
      · refine s_iloadn 0 10 rfl rfl ?_
        refine s_bipush 100 0 11 rfl k_ib_100 ?_
        refine s_idiv 0 12 rfl k_nz_100 ?_
        refine s_bipush 40 0 13 rfl k_ib_40 ?_
        refine s_icmp_lt 0 14 33 rfl (by decide) H (fun _ H => ?_) (fun _ H => ?_)
        · refine s_bipush (-5) 1 1 rfl k_ib_m5 ?_
          exact s_iret 1 2 rfl rfl (hr _ _ (k_sat_some H))
        · refine s_const (-1) 0 15 rfl k_ic_m1 ?_
          refine s_goto 1 0 35 rfl (by decide) ?_
          exact s_iret 1 2 rfl rfl (hr _ _ (k_sat_some H))
set_option maxRecDepth 100000 in
theorem t_Nights_wrongDays_B28 (g : k_G)  (v1 : Int32) (v2 : Int32) (v3 : Int32) (v4 : Int32) (v5 : Int32)  {u : k_S} {QQ : ((Int32 × Int32) ⊕ (Int32)) → k_S → Prop} {Q : Option Value → k_S → Prop} (hb : ∀ (x : (Int32 × Int32)) (u' : k_S), QQ (.inl x) u' → k_W g 6 MX6_wrongDays 28 [(0, .ref 12), (1, .int v1), (2, .int x.1), (3, .int v3), (4, .int v4), (5, .int x.2)] [] u' Q) (he : ∀ (y : (Int32)) (u' : k_S), QQ (.inr y) u' → k_W g 6 MX6_wrongDays 81 [(2, .int y)] [] u' Q) (H : k_sat (f_Nights_wrongDays_B28  v1 v2 v3 v4 v5 u) QQ) : k_W g 6 MX6_wrongDays 28 [(0, .ref 12), (1, .int v1), (2, .int v2), (3, .int v3), (4, .int v4), (5, .int v5)] [] u Q := by
  refine s_iload 1 0 rfl rfl ?_
  refine s_iloadn 1 1 rfl rfl ?_
  refine s_icmp_gt 1 2 81 rfl (by decide) H (fun _ H => ?_) (fun _ H => ?_)
  · exact k_via (he _ _ (k_sat_some H)) ⟨rfl, trivial⟩
  · refine s_aloadn 1 3 rfl rfl ?_
    refine s_aloadn 1 4 rfl rfl ?_
    refine s_getr 1 5 rfl k_fl65 rfl rfl rfl rfl ?_
    refine s_const 1 1 6 rfl k_ic_1 ?_
    refine s_const 1 1 7 rfl k_ic_1 ?_
    refine s_cvv3 (M' := MX6_pass) 1 8 rfl k_ml130 vvX6_pass rfl rfl (Nat.le_of_ble_eq_true rfl) rfl (c_Nights_pass_Thought g _ _ (k_sat_bind H)) (fun _ u6 H => ?_)
    refine s_aloadn 1 9 rfl rfl ?_
    refine s_aloadn 1 10 rfl rfl ?_
    refine s_getr 1 11 rfl k_fl65 rfl rfl rfl rfl ?_
    refine s_const 0 1 12 rfl k_ic_0 ?_
    refine s_cvi1 (M' := MX5_placeOf) 1 13 rfl k_ml121 vvX5_placeOf rfl rfl (Nat.le_of_ble_eq_true rfl) rfl (c_Thought_placeOf g _ (k_sat_bind H)) (fun r8 u7 H => ?_)
    refine s_cvi1 (M' := MX6_dayOf) 1 14 rfl k_ml131 vvX6_dayOf rfl rfl (Nat.le_of_ble_eq_true rfl) rfl (c_Nights_dayOf g _ (k_sat_bind H)) (fun r10 u9 H => ?_)
    refine s_aloadn 1 15 rfl rfl ?_
    refine s_iloadn 2 0 rfl rfl ?_
    refine s_iload 2 1 rfl rfl ?_
    refine s_iadd 2 2 rfl ?_
    refine s_iload 2 3 rfl rfl ?_
    refine s_csNi2 (M' := MX11_left) 2 4 rfl k_ml127 vvX11_left (Nat.le_of_ble_eq_true rfl) rfl (c_W_left g _ _ (k_sat_bind H)) (fun r12 u11 H => ?_)
    refine s_cvi1 (M' := MX6_dayOf) 2 5 rfl k_ml131 vvX6_dayOf rfl rfl (Nat.le_of_ble_eq_true rfl) rfl (c_Nights_dayOf g _ (k_sat_bind H)) (fun r14 u13 H => ?_)
    refine s_icmp_eq 2 6 75 rfl (by decide) H (fun _ H => ?_) (fun _ H => ?_)
    · refine s_iinc 2 8 rfl rfl rfl ?_
      refine s_goto 2 9 28 rfl (by decide) ?_
      exact k_via (hb _ _ (k_sat_some H)) ⟨rfl, rfl, rfl, rfl, rfl, rfl, trivial⟩
    · refine s_iinc 2 7 rfl rfl rfl ?_
      refine s_iinc 2 8 rfl rfl rfl ?_
      refine s_goto 2 9 28 rfl (by decide) ?_
      exact k_via (hb _ _ (k_sat_some H)) ⟨rfl, rfl, rfl, rfl, rfl, rfl, trivial⟩
set_option maxRecDepth 100000 in
theorem l_Nights_wrongDays_B28 (g : k_G)  (v1 : Int32) (v3 : Int32) (v4 : Int32) {Q : Option Value → k_S → Prop} {K : (Int32) → k_S → Prop} (he : ∀ (y : (Int32)) (u' : k_S), K (y) u' → k_W g 6 MX6_wrongDays 81 [(2, .int y)] [] u' Q) : ∀ (n : Nat) (x : (Int32 × Int32)) (u : k_S), k_sat (k_itr (fun (x : (Int32 × Int32)) u => f_Nights_wrongDays_B28  v1 x.1 v3 v4 x.2 u) n x u) K → k_W g 6 MX6_wrongDays 28 [(0, .ref 12), (1, .int v1), (2, .int x.1), (3, .int v3), (4, .int v4), (5, .int x.2)] [] u Q :=
  k_loop (P := fun (x : (Int32 × Int32)) u => k_W g 6 MX6_wrongDays 28 [(0, .ref 12), (1, .int v1), (2, .int x.1), (3, .int v3), (4, .int v4), (5, .int x.2)] [] u Q) (fun (x : (Int32 × Int32)) u H => t_Nights_wrongDays_B28 g  v1 x.1 v3 v4 x.2  (fun x u' h => h) (fun y u' h => he y u' h) H)
set_option maxRecDepth 100000 in
theorem c_Nights_wrongDays (g : k_G)  (p1 : Int32) {u : k_S} {QQ : Int32 → k_S → Prop} (H : k_sat (f_Nights_wrongDays  p1 u) QQ) : k_OK g 6 MX6_wrongDays [.ref 12, .int p1] u (k_qi QQ) := by
  have hr : ∀ (r : Int32) (u' : k_S), QQ (r) u' → (k_qi QQ) (some (.int r)) u' := fun r u' h => ⟨_, rfl, h⟩
  refine k_OK.ofW pfX6_wrongDays (k_tab_of MX6_wrongDays_dec) rfl ?_
  refine s_const 0 0 0 rfl k_ic_0 ?_
  refine s_istoren 0 1 rfl rfl ?_
  refine s_aloadn 0 2 rfl rfl ?_
  refine s_getr 0 3 rfl k_fl64 rfl rfl rfl rfl ?_
  refine s_const 0 0 4 rfl k_ic_0 ?_
  refine s_cvi1 (M' := MX5_placeOf) 0 5 rfl k_ml121 vvX5_placeOf rfl rfl (Nat.le_of_ble_eq_true rfl) rfl (c_Now_placeOf g _ (k_sat_bind H)) (fun r2 u1 H => ?_)
  refine s_istoren 0 6 rfl rfl ?_
  refine s_aloadn 0 7 rfl rfl ?_
  refine s_getr 0 8 rfl k_fl69 rfl rfl rfl rfl ?_
  refine s_const 0 0 9 rfl k_ic_0 ?_
  refine s_cvi1 (M' := MX10_sizeOf) 0 10 rfl k_ml126 vvX10_sizeOf rfl rfl (Nat.le_of_ble_eq_true rfl) rfl (c_Wheels_sizeOf g _ (k_sat_bind H)) (fun r4 u3 H => ?_)
  refine s_istore 0 11 rfl rfl ?_
  refine s_aloadn 0 12 rfl rfl ?_
  refine s_cvv0 (M' := MX6_think) 0 13 rfl k_ml129 vvX6_think rfl rfl (Nat.le_of_ble_eq_true rfl) rfl (c_Nights_think g (k_sat_bind H)) (fun _ u5 H => ?_)
  refine s_const 1 0 14 rfl k_ic_1 ?_
  refine s_istore 0 15 rfl rfl ?_
  refine k_via (l_Nights_wrongDays_B28 g  p1 r2 r4 ?_ _ _ _ (k_sat_bind H)) ⟨rfl, rfl, rfl, rfl, rfl, rfl, trivial⟩
  · intro y16 u15 H
    refine s_iloadn 2 10 rfl rfl ?_
    exact s_iret 2 11 rfl rfl (hr _ _ (k_sat_some H))
set_option maxRecDepth 100000 in
theorem t_Nights_nearest_B56 (g : k_G)  (v1 : Int32) (v2 : Int32) (v3 : Int32) (v4 : Int32) (v5 : Int32) (v6 : Int32) (v8 : Int32) (v9 : Int32)  {u : k_S} {QQ : ((Int32 × Int32 × Int32) ⊕ (Int32 × Int32)) → k_S → Prop} {Q : Option Value → k_S → Prop} (hb : ∀ (x : (Int32 × Int32 × Int32)) (u' : k_S), QQ (.inl x) u' → k_W g 7 MX6_nearest 56 [(0, .ref 12), (1, .int v1), (2, .int v2), (3, .int x.1), (4, .int x.2.1), (5, .int v5), (6, .int v6), (7, .ref 100), (8, .int v8), (9, .int x.2.2)] [] u' Q) (he : ∀ (y : (Int32 × Int32)) (u' : k_S), QQ (.inr y) u' → k_W g 7 MX6_nearest 126 [(0, .ref 12), (1, .int v1), (2, .int v2), (3, .int y.1), (4, .int y.2), (5, .int v5), (6, .int v6)] [] u' Q) (H : k_sat (f_Nights_nearest_B56  v1 v2 v3 v4 v5 v6 v8 v9 u) QQ) : k_W g 7 MX6_nearest 56 [(0, .ref 12), (1, .int v1), (2, .int v2), (3, .int v3), (4, .int v4), (5, .int v5), (6, .int v6), (7, .ref 100), (8, .int v8), (9, .int v9)] [] u Q := by
  refine s_iload 1 14 rfl rfl ?_
  refine s_iload 1 15 rfl rfl ?_
  refine s_icmp_ge 2 0 126 rfl (by decide) H (fun _ H => ?_) (fun _ H => ?_)
  · exact k_via (he _ _ (k_sat_some H)) ⟨rfl, rfl, rfl, rfl, rfl, rfl, rfl, trivial⟩
  · refine s_aload 2 1 rfl rfl ?_
    refine s_iload 2 2 rfl rfl ?_
    refine s_oald 2 3 rfl rfl H (fun _ H => ?_)
    refine k_topi H (fun t6 H => ?_)
    refine s_istore 2 4 rfl rfl ?_
    refine s_iload 2 5 rfl rfl ?_
    refine s_iload 2 6 rfl rfl ?_
    refine s_icmp_ne 2 7 80 rfl (by decide) H (fun _ H => ?_) (fun _ H => ?_)
    · refine s_aloadn 2 9 rfl rfl ?_
      refine s_getr 2 10 rfl k_fl69 rfl rfl rfl rfl ?_
      refine s_const 0 2 11 rfl k_ic_0 ?_
      refine s_iload 2 12 rfl rfl ?_
      refine s_iload 2 13 rfl rfl ?_
      refine s_cvv3 (M' := MX10_setLetter) 2 14 rfl k_ml135 vvX10_setLetter rfl rfl (Nat.le_of_ble_eq_true rfl) rfl (c_Wheels_setLetter g _ _ _ (k_sat_bind H)) (fun _ u7 H => ?_)
      refine s_aloadn 2 15 rfl rfl ?_
      refine s_iloadn 3 0 rfl rfl ?_
      refine s_cvi1 (M' := MX6_wrongDays) 3 1 rfl k_ml136 vvX6_wrongDays rfl rfl (Nat.le_of_ble_eq_true rfl) rfl (c_Nights_wrongDays g _ (k_sat_bind H)) (fun r9 u8 H => ?_)
      refine s_istore 3 2 rfl rfl ?_
      refine s_iload 3 3 rfl rfl ?_
      refine s_iload 3 4 rfl rfl ?_
      refine s_icmp_ge 3 5 120 rfl (by decide) H (fun _ H => ?_) (fun _ H => ?_)
      · refine s_iinc 3 14 rfl rfl rfl ?_
        refine s_goto 3 15 56 rfl (by decide) ?_
        exact k_via (hb _ _ (k_sat_some H)) ⟨rfl, rfl, rfl, rfl, rfl, rfl, rfl, rfl, rfl, rfl, trivial⟩
      · refine s_iload 3 6 rfl rfl ?_
        refine s_istore 3 7 rfl rfl ?_
        refine s_sipush 1000 3 8 rfl k_is_1000 ?_
        refine s_iload 3 9 rfl rfl ?_
        refine s_imul 3 10 rfl ?_
        refine s_iload 3 11 rfl rfl ?_
        refine s_iadd 3 12 rfl ?_
        refine k_topi H (fun t10 H => ?_)
        refine s_istoren 3 13 rfl rfl ?_
        refine s_iinc 3 14 rfl rfl rfl ?_
        refine s_goto 3 15 56 rfl (by decide) ?_
        exact k_via (hb _ _ (k_sat_some H)) ⟨rfl, rfl, rfl, rfl, rfl, rfl, rfl, rfl, rfl, rfl, trivial⟩
    · refine s_goto 2 8 120 rfl (by decide) ?_
      refine s_iinc 3 14 rfl rfl rfl ?_
      refine s_goto 3 15 56 rfl (by decide) ?_
      exact k_via (hb _ _ (k_sat_some H)) ⟨rfl, rfl, rfl, rfl, rfl, rfl, rfl, rfl, rfl, rfl, trivial⟩
set_option maxRecDepth 100000 in
theorem l_Nights_nearest_B56 (g : k_G)  (v1 : Int32) (v2 : Int32) (v5 : Int32) (v6 : Int32) (v8 : Int32) {Q : Option Value → k_S → Prop} {K : (Int32 × Int32) → k_S → Prop} (he : ∀ (y : (Int32 × Int32)) (u' : k_S), K (y) u' → k_W g 7 MX6_nearest 126 [(0, .ref 12), (1, .int v1), (2, .int v2), (3, .int y.1), (4, .int y.2), (5, .int v5), (6, .int v6)] [] u' Q) : ∀ (n : Nat) (x : (Int32 × Int32 × Int32)) (u : k_S), k_sat (k_itr (fun (x : (Int32 × Int32 × Int32)) u => f_Nights_nearest_B56  v1 v2 x.1 x.2.1 v5 v6 v8 x.2.2 u) n x u) K → k_W g 7 MX6_nearest 56 [(0, .ref 12), (1, .int v1), (2, .int v2), (3, .int x.1), (4, .int x.2.1), (5, .int v5), (6, .int v6), (7, .ref 100), (8, .int v8), (9, .int x.2.2)] [] u Q :=
  k_loop (P := fun (x : (Int32 × Int32 × Int32)) u => k_W g 7 MX6_nearest 56 [(0, .ref 12), (1, .int v1), (2, .int v2), (3, .int x.1), (4, .int x.2.1), (5, .int v5), (6, .int v6), (7, .ref 100), (8, .int v8), (9, .int x.2.2)] [] u Q) (fun (x : (Int32 × Int32 × Int32)) u H => t_Nights_nearest_B56 g  v1 v2 x.1 x.2.1 v5 v6 v8 x.2.2  (fun x u' h => h) (fun y u' h => he y u' h) H)
set_option maxRecDepth 100000 in
theorem t_Nights_nearest_B11 (g : k_G)  (v1 : Int32) (v2 : Int32) (v3 : Int32) (v4 : Int32) (v5 : Int32)  {u : k_S} {QQ : ((Int32 × Int32 × Int32) ⊕ (Int32 × Int32)) → k_S → Prop} {Q : Option Value → k_S → Prop} (hb : ∀ (x : (Int32 × Int32 × Int32)) (u' : k_S), QQ (.inl x) u' → k_W g 7 MX6_nearest 11 [(0, .ref 12), (1, .int v1), (2, .int v2), (3, .int x.1), (4, .int x.2.1), (5, .int x.2.2)] [] u' Q) (he : ∀ (y : (Int32 × Int32)) (u' : k_S), QQ (.inr y) u' → k_W g 7 MX6_nearest 144 [(2, .int v2), (3, .int y.1), (4, .int y.2)] [] u' Q) (H : k_sat (f_Nights_nearest_B11  v1 v2 v3 v4 v5 u) QQ) : k_W g 7 MX6_nearest 11 [(0, .ref 12), (1, .int v1), (2, .int v2), (3, .int v3), (4, .int v4), (5, .int v5)] [] u Q := by
  refine s_iload 0 8 rfl rfl ?_
  refine s_aloadn 0 9 rfl rfl ?_
  refine s_getr 0 10 rfl k_fl69 rfl rfl rfl rfl ?_
  refine s_const 0 0 11 rfl k_ic_0 ?_
  refine s_cvi1 (M' := MX10_sizeOf) 0 12 rfl k_ml126 vvX10_sizeOf rfl rfl (Nat.le_of_ble_eq_true rfl) rfl (c_Wheels_sizeOf g _ (k_sat_bind H)) (fun r3 u2 H => ?_)
  refine s_icmp_ge 0 13 144 rfl (by decide) H (fun _ H => ?_) (fun _ H => ?_)
  · exact k_via (he _ _ (k_sat_some H)) ⟨rfl, rfl, rfl, trivial⟩
  · refine s_iload 0 14 rfl rfl ?_
    refine s_bipush 40 0 15 rfl k_ib_40 ?_
    refine s_icmp_ge 1 0 144 rfl (by decide) H (fun _ H => ?_) (fun _ H => ?_)
    · exact k_via (he _ _ (k_sat_some H)) ⟨rfl, rfl, rfl, trivial⟩
    · refine s_aloadn 1 1 rfl rfl ?_
      refine s_getr 1 2 rfl k_fl69 rfl rfl rfl rfl ?_
      refine s_const 0 1 3 rfl k_ic_0 ?_
      refine s_iload 1 4 rfl rfl ?_
      refine s_cvi2 (M' := MX10_letterAt) 1 5 rfl k_ml123 vvX10_letterAt rfl rfl (Nat.le_of_ble_eq_true rfl) rfl (c_Wheels_letterAt g _ _ (k_sat_bind H)) (fun r5 u4 H => ?_)
      refine s_istore 1 6 rfl rfl ?_
      refine s_gets 1 7 0 rfl rfl (k_in (lw_T2 (List.mem_of_getElem? (i := 164) (by decide +kernel))) rfl) ?_
      refine s_astore 1 8 rfl rfl ?_
      refine s_aload 1 9 rfl rfl ?_
      refine s_olen 3 1 10 rfl rfl k_ln_3 ?_
      refine s_istore 1 11 rfl rfl ?_
      refine s_const 0 1 12 rfl k_ic_0 ?_
      refine s_istore 1 13 rfl rfl ?_
      refine k_via (l_Nights_nearest_B56 g  v1 v2 v5 r5 3 ?_ _ _ _ (k_sat_bind H)) ⟨rfl, rfl, rfl, rfl, rfl, rfl, rfl, rfl, rfl, rfl, trivial⟩
      · intro y12 u11 H
        refine s_aloadn 4 0 rfl rfl ?_
        refine s_getr 4 1 rfl k_fl69 rfl rfl rfl rfl ?_
        refine s_const 0 4 2 rfl k_ic_0 ?_
        refine s_iload 4 3 rfl rfl ?_
        refine s_iload 4 4 rfl rfl ?_
        refine s_cvv3 (M' := MX10_setLetter) 4 5 rfl k_ml135 vvX10_setLetter rfl rfl (Nat.le_of_ble_eq_true rfl) rfl (c_Wheels_setLetter g _ _ _ (k_sat_bind H)) (fun _ u13 H => ?_)
        refine s_iinc 4 6 rfl rfl rfl ?_
        refine s_goto 4 7 11 rfl (by decide) ?_
        exact k_via (hb _ _ (k_sat_some H)) ⟨rfl, rfl, rfl, rfl, rfl, rfl, trivial⟩
set_option maxRecDepth 100000 in
theorem l_Nights_nearest_B11 (g : k_G)  (v1 : Int32) (v2 : Int32) {Q : Option Value → k_S → Prop} {K : (Int32 × Int32) → k_S → Prop} (he : ∀ (y : (Int32 × Int32)) (u' : k_S), K (y) u' → k_W g 7 MX6_nearest 144 [(2, .int v2), (3, .int y.1), (4, .int y.2)] [] u' Q) : ∀ (n : Nat) (x : (Int32 × Int32 × Int32)) (u : k_S), k_sat (k_itr (fun (x : (Int32 × Int32 × Int32)) u => f_Nights_nearest_B11  v1 v2 x.1 x.2.1 x.2.2 u) n x u) K → k_W g 7 MX6_nearest 11 [(0, .ref 12), (1, .int v1), (2, .int v2), (3, .int x.1), (4, .int x.2.1), (5, .int x.2.2)] [] u Q :=
  k_loop (P := fun (x : (Int32 × Int32 × Int32)) u => k_W g 7 MX6_nearest 11 [(0, .ref 12), (1, .int v1), (2, .int v2), (3, .int x.1), (4, .int x.2.1), (5, .int x.2.2)] [] u Q) (fun (x : (Int32 × Int32 × Int32)) u H => t_Nights_nearest_B11 g  v1 v2 x.1 x.2.1 x.2.2  (fun x u' h => h) (fun y u' h => he y u' h) H)
set_option maxRecDepth 100000 in
theorem t_Nights_nearest_J144 (g : k_G)  (v2 : Int32) (v3 : Int32) (v4 : Int32)  {u : k_S} {QQ : Int32 → k_S → Prop} {Q : Option Value → k_S → Prop} (hr : ∀ (r : Int32) (u' : k_S), QQ (r) u' → (Q) (some (.int r)) u') (H : k_sat (f_Nights_nearest_J144  v2 v3 v4 u) QQ) : k_W g 7 MX6_nearest 144 [(2, .int v2), (3, .int v3), (4, .int v4)] [] u Q := by
  refine s_iloadn 4 8 rfl rfl ?_
  refine s_if_eq 4 9 152 rfl (by decide) H (fun _ H => ?_) (fun _ H => ?_)
  · refine s_iload 4 12 rfl rfl ?_
    exact s_iret 4 13 rfl rfl (hr _ _ (k_sat_some H))
  · refine s_iloadn 4 10 rfl rfl ?_
    refine s_goto 4 11 154 rfl (by decide) ?_
    exact s_iret 4 13 rfl rfl (hr _ _ (k_sat_some H))
set_option maxRecDepth 100000 in
theorem c_Nights_nearest (g : k_G)  (p1 : Int32) (p2 : Int32) {u : k_S} {QQ : Int32 → k_S → Prop} (H : k_sat (f_Nights_nearest  p1 p2 u) QQ) : k_OK g 7 MX6_nearest [.ref 12, .int p1, .int p2] u (k_qi QQ) := by
  have hr : ∀ (r : Int32) (u' : k_S), QQ (r) u' → (k_qi QQ) (some (.int r)) u' := fun r u' h => ⟨_, rfl, h⟩
  refine k_OK.ofW pfX6_nearest (k_tab_of MX6_nearest_dec) rfl ?_
  refine s_bipush (-2) 0 0 rfl k_ib_m2 ?_
  refine s_istoren 0 1 rfl rfl ?_
  refine s_iloadn 0 2 rfl rfl ?_
  refine s_const 1 0 3 rfl k_ic_1 ?_
  refine s_iadd 0 4 rfl ?_
  refine k_topi H (fun t1 H => ?_)
  refine s_istore 0 5 rfl rfl ?_
  refine s_const 0 0 6 rfl k_ic_0 ?_
  refine s_istore 0 7 rfl rfl ?_
  refine k_via (l_Nights_nearest_B11 g  p1 p2 ?_ _ _ _ (k_sat_bind H)) ⟨rfl, rfl, rfl, rfl, rfl, rfl, trivial⟩
  · intro y15 u14 H
    exact k_via (t_Nights_nearest_J144 g  _ _ _  hr H) ⟨rfl, rfl, rfl, trivial⟩
set_option maxRecDepth 100000 in
theorem t_W_near_J66 (g : k_G)  (s1 : Int32) (s2 : Int32)  {u : k_S} {QQ : Int32 → k_S → Prop} {Q : Option Value → k_S → Prop} (hr : ∀ (r : Int32) (u' : k_S), QQ (r) u' → (Q) (some (.int r)) u') (H : k_sat (f_W_near_J66  s1 s2 u) QQ) : k_W g 8 MX11_near 66 [] [.int s2, .int s1, .ref 12] u Q := by
  refine s_cvi2 (M' := MX6_nearest) 2 3 rfl k_ml37 vvX6_nearest rfl rfl (Nat.le_of_ble_eq_true rfl) rfl (c_Nights_nearest g _ _ (k_sat_bind H)) (fun r2 u1 H => ?_)
  exact s_iret 2 4 rfl rfl (hr _ _ (k_sat_some H))
set_option maxRecDepth 100000 in
theorem c_W_near (g : k_G)  (p1 : Int32) (p2 : Int32) {u : k_S} {QQ : Int32 → k_S → Prop} (H : k_sat (f_W_near  p1 p2 u) QQ) : k_OK g 8 MX11_near [.ref 0, .int p1, .int p2] u (k_qi QQ) := by
  have hr : ∀ (r : Int32) (u' : k_S), QQ (r) u' → (k_qi QQ) (some (.int r)) u' := fun r u' h => ⟨_, rfl, h⟩
  refine k_OK.ofW pfX11_near (k_tab_of MX11_near_dec) rfl ?_
  refine s_iloadn 0 0 rfl rfl ?_
  refine s_const 1 0 1 rfl k_ic_1 ?_
  refine s_icmp_lt 0 2 21 rfl (by decide) H (fun _ H => ?_) (fun _ H => ?_)
  · refine s_const (-1) 0 11 rfl k_ic_m1 ?_
    exact s_iret 0 12 rfl rfl (hr _ _ (k_sat_some H))
  · refine s_iloadn 0 3 rfl rfl ?_
    refine s_sipush 400 0 4 rfl k_is_400 ?_
    refine s_icmp_gt 0 5 21 rfl (by decide) H (fun _ H => ?_) (fun _ H => ?_)
    · refine s_const (-1) 0 11 rfl k_ic_m1 ?_
      exact s_iret 0 12 rfl rfl (hr _ _ (k_sat_some H))
    · refine s_iloadn 0 6 rfl rfl ?_
      refine s_if_lt 0 7 21 rfl (by decide) H (fun _ H => ?_) (fun _ H => ?_)
      · refine s_const (-1) 0 11 rfl k_ic_m1 ?_
        exact s_iret 0 12 rfl rfl (hr _ _ (k_sat_some H))
      · refine s_iloadn 0 8 rfl rfl ?_
        refine s_const 2 0 9 rfl k_ic_2 ?_
        refine s_icmp_le 0 10 23 rfl (by decide) H (fun _ H => ?_) (fun _ H => ?_)
        · refine s_aloadn 0 13 rfl rfl ?_
          refine s_getr 0 14 rfl k_fl1 rfl rfl rfl rfl ?_
          refine s_geti 303 0 15 rfl k_fl12 rfl rfl rfl rfl rfl ?_
          refine s_if_ne 1 0 36 rfl (by decide) H (fun _ H => ?_) (fun _ H => ?_)
          · refine s_iloadn 1 3 rfl rfl ?_
            refine s_const 2 1 4 rfl k_ic_2 ?_
            refine s_icmp_ne 1 5 52 rfl (by decide) H (fun _ H => ?_) (fun _ H => ?_)
            · refine s_aloadn 1 11 rfl rfl ?_
              refine s_getr 1 12 rfl k_fl3 rfl rfl rfl rfl ?_
              refine s_iloadn 1 13 rfl rfl ?_
              refine s_iloadn 1 14 rfl rfl ?_
              refine s_if_ne 1 15 65 rfl (by decide) H (fun _ H => ?_) (fun _ H => ?_)
              · refine s_const 0 2 2 rfl k_ic_0 ?_
                exact k_via (t_W_near_J66 g  _ _  hr H) trivial
              · refine s_const 1 2 0 rfl k_ic_1 ?_
                refine s_goto 2 1 66 rfl (by decide) ?_
                exact k_via (t_W_near_J66 g  _ _  hr H) trivial
            · refine s_aloadn 1 6 rfl rfl ?_
              refine s_getr 1 7 rfl k_fl3 rfl rfl rfl rfl ?_
              refine s_iloadn 1 8 rfl rfl ?_
              refine s_cvi1 (M' := MX6_wrongDays) 1 9 rfl k_ml36 vvX6_wrongDays rfl rfl (Nat.le_of_ble_eq_true rfl) rfl (c_Nights_wrongDays g _ (k_sat_bind H)) (fun r4 u3 H => ?_)
              refine s_goto 1 10 69 rfl (by decide) ?_
              exact s_iret 2 4 rfl rfl (hr _ _ (k_sat_some H))
          · refine s_bipush (-5) 1 1 rfl k_ib_m5 ?_
            exact s_iret 1 2 rfl rfl (hr _ _ (k_sat_some H))
        · refine s_const (-1) 0 11 rfl k_ic_m1 ?_
          exact s_iret 0 12 rfl rfl (hr _ _ (k_sat_some H))
set_option maxRecDepth 100000 in
theorem t_R_wrongIn_B8 (g : k_G)  (v1 : Int32) (v2 : Int32) (v3 : Int32)  {u : k_S} {QQ : ((Int32 × Int32) ⊕ (Int32)) → k_S → Prop} {Q : Option Value → k_S → Prop} (hb : ∀ (x : (Int32 × Int32)) (u' : k_S), QQ (.inl x) u' → k_W g 7 MX12_wrongIn 8 [(0, .ref 42), (1, .int v1), (2, .int x.1), (3, .int x.2)] [] u' Q) (he : ∀ (y : (Int32)) (u' : k_S), QQ (.inr y) u' → k_W g 7 MX12_wrongIn 60 [(0, .ref 42), (2, .int y)] [] u' Q) (H : k_sat (f_R_wrongIn_B8  v1 v2 v3 u) QQ) : k_W g 7 MX12_wrongIn 8 [(0, .ref 42), (1, .int v1), (2, .int v2), (3, .int v3)] [] u Q := by
  refine s_iloadn 0 6 rfl rfl ?_
  refine s_iloadn 0 7 rfl rfl ?_
  refine s_icmp_gt 0 8 60 rfl (by decide) H (fun _ H => ?_) (fun _ H => ?_)
  · exact k_via (he _ _ (k_sat_some H)) ⟨rfl, rfl, trivial⟩
  · refine s_aloadn 0 9 rfl rfl ?_
    refine s_cvv0 (M' := MX12_goOn) 0 10 rfl k_ml255 vvX12_goOn rfl rfl (Nat.le_of_ble_eq_true rfl) rfl (c_R_goOn g (k_sat_bind H)) (fun _ u2 H => ?_)
    refine s_aloadn 0 11 rfl rfl ?_
    refine s_getr 0 12 rfl k_fl90 rfl rfl rfl rfl ?_
    refine s_const 0 0 13 rfl k_ic_0 ?_
    refine s_iald 0 14 rfl rfl H (fun _ H => ?_)
    refine s_aloadn 0 15 rfl rfl ?_
    refine s_geti 4210 1 0 rfl k_fl93 rfl rfl rfl rfl rfl ?_
    refine s_irem 1 1 rfl (k_sat_nz H).1 ?_
    replace H := (k_sat_nz H).2
    refine s_aloadn 1 2 rfl rfl ?_
    refine s_getr 1 3 rfl k_fl105 rfl rfl rfl rfl ?_
    refine s_const 0 1 4 rfl k_ic_0 ?_
    refine s_iald 1 5 rfl rfl H (fun _ H => ?_)
    refine s_iloadn 1 6 rfl rfl ?_
    refine s_iadd 1 7 rfl ?_
    refine s_aloadn 1 8 rfl rfl ?_
    refine s_getr 1 9 rfl k_fl89 rfl rfl rfl rfl ?_
    refine s_const 0 1 10 rfl k_ic_0 ?_
    refine s_iald 1 11 rfl rfl H (fun _ H => ?_)
    refine s_irem 1 12 rfl (k_sat_nz H).1 ?_
    replace H := (k_sat_nz H).2
    refine s_aloadn 1 13 rfl rfl ?_
    refine s_geti 4210 1 14 rfl k_fl93 rfl rfl rfl rfl rfl ?_
    refine s_irem 1 15 rfl (k_sat_nz H).1 ?_
    replace H := (k_sat_nz H).2
    refine s_icmp_eq 2 0 54 rfl (by decide) H (fun _ H => ?_) (fun _ H => ?_)
    · refine s_iinc 2 2 rfl rfl rfl ?_
      refine s_goto 2 3 8 rfl (by decide) ?_
      exact k_via (hb _ _ (k_sat_some H)) ⟨rfl, rfl, rfl, rfl, trivial⟩
    · refine s_iinc 2 1 rfl rfl rfl ?_
      refine s_iinc 2 2 rfl rfl rfl ?_
      refine s_goto 2 3 8 rfl (by decide) ?_
      exact k_via (hb _ _ (k_sat_some H)) ⟨rfl, rfl, rfl, rfl, trivial⟩
set_option maxRecDepth 100000 in
theorem l_R_wrongIn_B8 (g : k_G)  (v1 : Int32) {Q : Option Value → k_S → Prop} {K : (Int32) → k_S → Prop} (he : ∀ (y : (Int32)) (u' : k_S), K (y) u' → k_W g 7 MX12_wrongIn 60 [(0, .ref 42), (2, .int y)] [] u' Q) : ∀ (n : Nat) (x : (Int32 × Int32)) (u : k_S), k_sat (k_itr (fun (x : (Int32 × Int32)) u => f_R_wrongIn_B8  v1 x.1 x.2 u) n x u) K → k_W g 7 MX12_wrongIn 8 [(0, .ref 42), (1, .int v1), (2, .int x.1), (3, .int x.2)] [] u Q :=
  k_loop (P := fun (x : (Int32 × Int32)) u => k_W g 7 MX12_wrongIn 8 [(0, .ref 42), (1, .int v1), (2, .int x.1), (3, .int x.2)] [] u Q) (fun (x : (Int32 × Int32)) u H => t_R_wrongIn_B8 g  v1 x.1 x.2  (fun x u' h => h) (fun y u' h => he y u' h) H)
set_option maxRecDepth 100000 in
theorem c_R_wrongIn (g : k_G)  (p1 : Int32) {u : k_S} {QQ : Int32 → k_S → Prop} (H : k_sat (f_R_wrongIn  p1 u) QQ) : k_OK g 7 MX12_wrongIn [.ref 42, .int p1] u (k_qi QQ) := by
  have hr : ∀ (r : Int32) (u' : k_S), QQ (r) u' → (k_qi QQ) (some (.int r)) u' := fun r u' h => ⟨_, rfl, h⟩
  refine k_OK.ofW pfX12_wrongIn (k_tab_of MX12_wrongIn_dec) rfl ?_
  refine s_aloadn 0 0 rfl rfl ?_
  refine s_cvv0 (M' := MX12_keepNow) 0 1 rfl k_ml256 vvX12_keepNow rfl rfl (Nat.le_of_ble_eq_true rfl) rfl (c_R_keepNow g (k_sat_bind H)) (fun _ u1 H => ?_)
  refine s_const 0 0 2 rfl k_ic_0 ?_
  refine s_istoren 0 3 rfl rfl ?_
  refine s_const 1 0 4 rfl k_ic_1 ?_
  refine s_istoren 0 5 rfl rfl ?_
  refine k_via (l_R_wrongIn_B8 g  p1 ?_ _ _ _ (k_sat_bind H)) ⟨rfl, rfl, rfl, rfl, trivial⟩
  · intro y4 u3 H
    refine s_aloadn 2 4 rfl rfl ?_
    refine s_cvv0 (M' := MX12_layBack) 2 5 rfl k_ml257 vvX12_layBack rfl rfl (Nat.le_of_ble_eq_true rfl) rfl (c_R_layBack g (k_sat_bind H)) (fun _ u5 H => ?_)
    refine s_iloadn 2 6 rfl rfl ?_
    exact s_iret 2 7 rfl rfl (hr _ _ (k_sat_some H))
set_option maxRecDepth 100000 in
theorem t_R_near_J130 (g : k_G)  (v1 : Int32) (v2 : Int32) (v5 : Int32) (v6 : Int32) (v7 : Int32) (v8 : Int32)  {u : k_S} {QQ : ((Int32 × Int32 × Int32) ⊕ (Int32 × Int32)) → k_S → Prop} {Q : Option Value → k_S → Prop} (hb : ∀ (x : (Int32 × Int32 × Int32)) (u' : k_S), QQ (.inl x) u' → k_W g 8 MX12_near 74 [(0, .ref 42), (1, .int v1), (2, .int v2), (3, .int x.1), (4, .int x.2.1), (5, .int v5), (6, .int v6), (7, .int x.2.2)] [] u' Q) (he : ∀ (y : (Int32 × Int32)) (u' : k_S), QQ (.inr y) u' → k_W g 8 MX12_near 155 [(0, .ref 42), (1, .int v1), (2, .int v2), (3, .int y.1), (4, .int y.2), (5, .int v5), (6, .int v6)] [] u' Q) (H : k_sat (f_R_near_J130  v1 v2 v5 v6 v7 v8 u) QQ) : k_W g 8 MX12_near 130 [(0, .ref 42), (1, .int v1), (2, .int v2), (5, .int v5), (6, .int v6), (7, .int v7), (8, .int v8)] [] u Q := by
  refine s_sipush 1000 4 7 rfl k_is_1000 ?_
  refine s_iload 4 8 rfl rfl ?_
  refine s_imul 4 9 rfl ?_
  refine s_aloadn 4 10 rfl rfl ?_
  refine s_getr 4 11 rfl k_fl108 rfl rfl rfl rfl ?_
  refine s_iload 4 12 rfl rfl ?_
  refine s_iald 4 13 rfl rfl H (fun _ H => ?_)
  refine s_iadd 4 14 rfl ?_
  refine k_topi H (fun t9 H => ?_)
  refine s_istoren 4 15 rfl rfl ?_
  refine s_iload 5 0 rfl rfl ?_
  refine s_istore 5 1 rfl rfl ?_
  refine s_iinc 5 2 rfl rfl rfl ?_
  refine s_goto 5 3 74 rfl (by decide) ?_
  exact k_via (hb _ _ (k_sat_some H)) ⟨rfl, rfl, rfl, rfl, rfl, rfl, rfl, rfl, trivial⟩
set_option maxRecDepth 100000 in
theorem t_R_near_B74 (g : k_G)  (v1 : Int32) (v2 : Int32) (v3 : Int32) (v4 : Int32) (v5 : Int32) (v6 : Int32) (v7 : Int32)  {u : k_S} {QQ : ((Int32 × Int32 × Int32) ⊕ (Int32 × Int32)) → k_S → Prop} {Q : Option Value → k_S → Prop} (hb : ∀ (x : (Int32 × Int32 × Int32)) (u' : k_S), QQ (.inl x) u' → k_W g 8 MX12_near 74 [(0, .ref 42), (1, .int v1), (2, .int v2), (3, .int x.1), (4, .int x.2.1), (5, .int v5), (6, .int v6), (7, .int x.2.2)] [] u' Q) (he : ∀ (y : (Int32 × Int32)) (u' : k_S), QQ (.inr y) u' → k_W g 8 MX12_near 155 [(0, .ref 42), (1, .int v1), (2, .int v2), (3, .int y.1), (4, .int y.2), (5, .int v5), (6, .int v6)] [] u' Q) (H : k_sat (f_R_near_B74  v1 v2 v3 v4 v5 v6 v7 u) QQ) : k_W g 8 MX12_near 74 [(0, .ref 42), (1, .int v1), (2, .int v2), (3, .int v3), (4, .int v4), (5, .int v5), (6, .int v6), (7, .int v7)] [] u Q := by
  refine s_iload 2 11 rfl rfl ?_
  refine s_const 3 2 12 rfl k_ic_3 ?_
  refine s_icmp_ge 2 13 155 rfl (by decide) H (fun _ H => ?_) (fun _ H => ?_)
  · exact k_via (he _ _ (k_sat_some H)) ⟨rfl, rfl, rfl, rfl, rfl, rfl, rfl, trivial⟩
  · refine s_aloadn 2 14 rfl rfl ?_
    refine s_getr 2 15 rfl k_fl108 rfl rfl rfl rfl ?_
    refine s_iload 3 0 rfl rfl ?_
    refine s_iald 3 1 rfl rfl H (fun _ H => ?_)
    refine s_iload 3 2 rfl rfl ?_
    refine s_icmp_ne 3 3 95 rfl (by decide) H (fun _ H => ?_) (fun _ H => ?_)
    · refine s_aloadn 3 5 rfl rfl ?_
      refine s_getr 3 6 rfl k_fl88 rfl rfl rfl rfl ?_
      refine s_iload 3 7 rfl rfl ?_
      refine s_aloadn 3 8 rfl rfl ?_
      refine s_getr 3 9 rfl k_fl108 rfl rfl rfl rfl ?_
      refine s_iload 3 10 rfl rfl ?_
      refine s_iald 3 11 rfl rfl H (fun _ H => ?_)
      refine s_iast 3 12 rfl rfl H (fun u6 H => ?_)
      refine s_aloadn 3 13 rfl rfl ?_
      refine s_iloadn 3 14 rfl rfl ?_
      refine s_cvi1 (M' := MX12_wrongIn) 3 15 rfl k_ml260 vvX12_wrongIn rfl rfl (Nat.le_of_ble_eq_true rfl) rfl (c_R_wrongIn g _ (k_sat_bind H)) (fun r8 u7 H => ?_)
      refine s_istore 4 0 rfl rfl ?_
      refine s_iloadn 4 1 rfl rfl ?_
      refine s_if_lt 4 2 130 rfl (by decide) H (fun _ H => ?_) (fun _ H => ?_)
      · exact k_via (t_R_near_J130 g  _ _ _ _ _ _  hb he H) ⟨rfl, rfl, rfl, rfl, rfl, rfl, rfl, trivial⟩
      · refine s_iload 4 3 rfl rfl ?_
        refine s_iload 4 4 rfl rfl ?_
        refine s_icmp_lt 4 5 130 rfl (by decide) H (fun _ H => ?_) (fun _ H => ?_)
        · exact k_via (t_R_near_J130 g  _ _ _ _ _ _  hb he H) ⟨rfl, rfl, rfl, rfl, rfl, rfl, rfl, trivial⟩
        · refine s_goto 4 6 149 rfl (by decide) ?_
          refine s_iinc 5 2 rfl rfl rfl ?_
          refine s_goto 5 3 74 rfl (by decide) ?_
          exact k_via (hb _ _ (k_sat_some H)) ⟨rfl, rfl, rfl, rfl, rfl, rfl, rfl, rfl, trivial⟩
    · refine s_goto 3 4 149 rfl (by decide) ?_
      refine s_iinc 5 2 rfl rfl rfl ?_
      refine s_goto 5 3 74 rfl (by decide) ?_
      exact k_via (hb _ _ (k_sat_some H)) ⟨rfl, rfl, rfl, rfl, rfl, rfl, rfl, rfl, trivial⟩
set_option maxRecDepth 100000 in
theorem l_R_near_B74 (g : k_G)  (v1 : Int32) (v2 : Int32) (v5 : Int32) (v6 : Int32) {Q : Option Value → k_S → Prop} {K : (Int32 × Int32) → k_S → Prop} (he : ∀ (y : (Int32 × Int32)) (u' : k_S), K (y) u' → k_W g 8 MX12_near 155 [(0, .ref 42), (1, .int v1), (2, .int v2), (3, .int y.1), (4, .int y.2), (5, .int v5), (6, .int v6)] [] u' Q) : ∀ (n : Nat) (x : (Int32 × Int32 × Int32)) (u : k_S), k_sat (k_itr (fun (x : (Int32 × Int32 × Int32)) u => f_R_near_B74  v1 v2 x.1 x.2.1 v5 v6 x.2.2 u) n x u) K → k_W g 8 MX12_near 74 [(0, .ref 42), (1, .int v1), (2, .int v2), (3, .int x.1), (4, .int x.2.1), (5, .int v5), (6, .int v6), (7, .int x.2.2)] [] u Q :=
  k_loop (P := fun (x : (Int32 × Int32 × Int32)) u => k_W g 8 MX12_near 74 [(0, .ref 42), (1, .int v1), (2, .int v2), (3, .int x.1), (4, .int x.2.1), (5, .int v5), (6, .int v6), (7, .int x.2.2)] [] u Q) (fun (x : (Int32 × Int32 × Int32)) u H => t_R_near_B74 g  v1 v2 x.1 x.2.1 v5 v6 x.2.2  (fun x u' h => h) (fun y u' h => he y u' h) H)
set_option maxRecDepth 100000 in
theorem t_R_near_B51 (g : k_G)  (v1 : Int32) (v2 : Int32) (v3 : Int32) (v4 : Int32) (v5 : Int32)  {u : k_S} {QQ : ((Int32 × Int32 × Int32) ⊕ (Int32 × Int32)) → k_S → Prop} {Q : Option Value → k_S → Prop} (hb : ∀ (x : (Int32 × Int32 × Int32)) (u' : k_S), QQ (.inl x) u' → k_W g 8 MX12_near 51 [(0, .ref 42), (1, .int v1), (2, .int v2), (3, .int x.1), (4, .int x.2.1), (5, .int x.2.2)] [] u' Q) (he : ∀ (y : (Int32 × Int32)) (u' : k_S), QQ (.inr y) u' → k_W g 8 MX12_near 170 [(2, .int v2), (3, .int y.1), (4, .int y.2)] [] u' Q) (H : k_sat (f_R_near_B51  v1 v2 v3 v4 v5 u) QQ) : k_W g 8 MX12_near 51 [(0, .ref 42), (1, .int v1), (2, .int v2), (3, .int v3), (4, .int v4), (5, .int v5)] [] u Q := by
  refine s_iload 1 14 rfl rfl ?_
  refine s_aloadn 1 15 rfl rfl ?_
  refine s_getr 2 0 rfl k_fl89 rfl rfl rfl rfl ?_
  refine s_const 0 2 1 rfl k_ic_0 ?_
  refine s_iald 2 2 rfl rfl H (fun _ H => ?_)
  refine s_icmp_ge 2 3 170 rfl (by decide) H (fun _ H => ?_) (fun _ H => ?_)
  · exact k_via (he _ _ (k_sat_some H)) ⟨rfl, rfl, rfl, trivial⟩
  · refine s_aloadn 2 4 rfl rfl ?_
    refine s_getr 2 5 rfl k_fl88 rfl rfl rfl rfl ?_
    refine s_iload 2 6 rfl rfl ?_
    refine s_iald 2 7 rfl rfl H (fun _ H => ?_)
    refine k_topi H (fun t5 H => ?_)
    refine s_istore 2 8 rfl rfl ?_
    refine s_const 0 2 9 rfl k_ic_0 ?_
    refine s_istore 2 10 rfl rfl ?_
    refine k_via (l_R_near_B74 g  v1 v2 v5 t5 ?_ _ _ _ (k_sat_bind H)) ⟨rfl, rfl, rfl, rfl, rfl, rfl, rfl, rfl, trivial⟩
    · intro y11 u10 H
      refine s_aloadn 5 4 rfl rfl ?_
      refine s_getr 5 5 rfl k_fl88 rfl rfl rfl rfl ?_
      refine s_iload 5 6 rfl rfl ?_
      refine s_iload 5 7 rfl rfl ?_
      refine s_iast 5 8 rfl rfl H (fun u12 H => ?_)
      refine s_iinc 5 9 rfl rfl rfl ?_
      refine s_goto 5 10 51 rfl (by decide) ?_
      exact k_via (hb _ _ (k_sat_some H)) ⟨rfl, rfl, rfl, rfl, rfl, rfl, trivial⟩
set_option maxRecDepth 100000 in
theorem l_R_near_B51 (g : k_G)  (v1 : Int32) (v2 : Int32) {Q : Option Value → k_S → Prop} {K : (Int32 × Int32) → k_S → Prop} (he : ∀ (y : (Int32 × Int32)) (u' : k_S), K (y) u' → k_W g 8 MX12_near 170 [(2, .int v2), (3, .int y.1), (4, .int y.2)] [] u' Q) : ∀ (n : Nat) (x : (Int32 × Int32 × Int32)) (u : k_S), k_sat (k_itr (fun (x : (Int32 × Int32 × Int32)) u => f_R_near_B51  v1 v2 x.1 x.2.1 x.2.2 u) n x u) K → k_W g 8 MX12_near 51 [(0, .ref 42), (1, .int v1), (2, .int v2), (3, .int x.1), (4, .int x.2.1), (5, .int x.2.2)] [] u Q :=
  k_loop (P := fun (x : (Int32 × Int32 × Int32)) u => k_W g 8 MX12_near 51 [(0, .ref 42), (1, .int v1), (2, .int v2), (3, .int x.1), (4, .int x.2.1), (5, .int x.2.2)] [] u Q) (fun (x : (Int32 × Int32 × Int32)) u H => t_R_near_B51 g  v1 v2 x.1 x.2.1 x.2.2  (fun x u' h => h) (fun y u' h => he y u' h) H)
set_option maxRecDepth 100000 in
theorem c_R_near (g : k_G)  (p1 : Int32) (p2 : Int32) {u : k_S} {QQ : Int32 → k_S → Prop} (H : k_sat (f_R_near  p1 p2 u) QQ) : k_OK g 8 MX12_near [.ref 42, .int p1, .int p2] u (k_qi QQ) := by
  have hr : ∀ (r : Int32) (u' : k_S), QQ (r) u' → (k_qi QQ) (some (.int r)) u' := fun r u' h => ⟨_, rfl, h⟩
  refine k_OK.ofW pfX12_near (k_tab_of MX12_near_dec) rfl ?_
  refine s_iloadn 0 0 rfl rfl ?_
  refine s_const 1 0 1 rfl k_ic_1 ?_
  refine s_sipush 400 0 2 rfl k_is_400 ?_
  refine s_csi3 (M' := MX12_in) 0 3 rfl k_ml230 vvX12_in (Nat.le_of_ble_eq_true rfl) rfl (c_R_in g _ _ _ (k_sat_bind H)) (fun r2 u1 H => ?_)
  refine s_if_eq 0 4 20 rfl (by decide) H (fun _ H => ?_) (fun _ H => ?_)
  · refine s_const (-1) 0 10 rfl k_ic_m1 ?_
    exact s_iret 0 11 rfl rfl (hr _ _ (k_sat_some H))
  · refine s_iloadn 0 5 rfl rfl ?_
    refine s_const 0 0 6 rfl k_ic_0 ?_
    refine s_const 2 0 7 rfl k_ic_2 ?_
    refine s_csi3 (M' := MX12_in) 0 8 rfl k_ml230 vvX12_in (Nat.le_of_ble_eq_true rfl) rfl (c_R_in g _ _ _ (k_sat_bind H)) (fun r4 u3 H => ?_)
    refine s_if_ne 0 9 22 rfl (by decide) H (fun _ H => ?_) (fun _ H => ?_)
    · refine s_aloadn 0 12 rfl rfl ?_
      refine s_geti 4203 0 13 rfl k_fl122 rfl rfl rfl rfl rfl ?_
      refine s_if_ne 0 14 32 rfl (by decide) H (fun _ H => ?_) (fun _ H => ?_)
      · refine s_iloadn 1 1 rfl rfl ?_
        refine s_const 2 1 2 rfl k_ic_2 ?_
        refine s_icmp_ne 1 3 43 rfl (by decide) H (fun _ H => ?_) (fun _ H => ?_)
        · refine s_const (-1) 1 8 rfl k_ic_m1 ?_
          refine s_istoren 1 9 rfl rfl ?_
          refine s_const 0 1 10 rfl k_ic_0 ?_
          refine s_istore 1 11 rfl rfl ?_
          refine s_const 0 1 12 rfl k_ic_0 ?_
          refine s_istore 1 13 rfl rfl ?_
          refine k_via (l_R_near_B51 g  p1 p2 ?_ _ _ _ (k_sat_bind H)) ⟨rfl, rfl, rfl, rfl, rfl, rfl, trivial⟩
          · intro y14 u13 H
            refine s_iloadn 5 11 rfl rfl ?_
            refine s_if_ne 5 12 178 rfl (by decide) H (fun _ H => ?_) (fun _ H => ?_)
            · refine s_iload 5 15 rfl rfl ?_
              exact s_iret 6 0 rfl rfl (hr _ _ (k_sat_some H))
            · refine s_iloadn 5 13 rfl rfl ?_
              refine s_goto 5 14 180 rfl (by decide) ?_
              exact s_iret 6 0 rfl rfl (hr _ _ (k_sat_some H))
        · refine s_aloadn 1 4 rfl rfl ?_
          refine s_iloadn 1 5 rfl rfl ?_
          refine s_cvi1 (M' := MX12_wrongIn) 1 6 rfl k_ml260 vvX12_wrongIn rfl rfl (Nat.le_of_ble_eq_true rfl) rfl (c_R_wrongIn g _ (k_sat_bind H)) (fun r16 u15 H => ?_)
          exact s_iret 1 7 rfl rfl (hr _ _ (k_sat_some H))
      · refine s_bipush (-5) 0 15 rfl k_ib_m5 ?_
        exact s_iret 1 0 rfl rfl (hr _ _ (k_sat_some H))
    · refine s_const (-1) 0 10 rfl k_ic_m1 ?_
      exact s_iret 0 11 rfl rfl (hr _ _ (k_sat_some H))
set_option maxRecDepth 100000 in
theorem c_W_isRecord (g : k_G)  (p0 : Int32) (p1 : Int32) {u : k_S} {QQ : Int32 → k_S → Prop} (H : k_sat (f_W_isRecord  p0 p1 u) QQ) : k_OK g 1 MX11_isRecord [.int p0, .int p1] u (k_qi QQ) := by
  have hr : ∀ (r : Int32) (u' : k_S), QQ (r) u' → (k_qi QQ) (some (.int r)) u' := fun r u' h => ⟨_, rfl, h⟩
  refine k_OK.ofW pfX11_isRecord (k_tab_of MX11_isRecord_dec) rfl ?_
  refine s_iloadn 0 0 rfl rfl ?_
  refine s_if_lt 0 1 25 rfl (by decide) H (fun _ H => ?_) (fun _ H => ?_)
  · refine s_const 0 0 12 rfl k_ic_0 ?_
    exact s_zret 0 13 rfl rfl k_z0 (hr _ _ (k_sat_some H))
  · refine s_iloadn 0 2 rfl rfl ?_
    refine s_sipush 5000 0 3 rfl k_is_5000 ?_
    refine s_icmp_gt 0 4 25 rfl (by decide) H (fun _ H => ?_) (fun _ H => ?_)
    · refine s_const 0 0 12 rfl k_ic_0 ?_
      exact s_zret 0 13 rfl rfl k_z0 (hr _ _ (k_sat_some H))
    · refine s_iloadn 0 5 rfl rfl ?_
      refine s_if_lt 0 6 25 rfl (by decide) H (fun _ H => ?_) (fun _ H => ?_)
      · refine s_const 0 0 12 rfl k_ic_0 ?_
        exact s_zret 0 13 rfl rfl k_z0 (hr _ _ (k_sat_some H))
      · refine s_iloadn 0 7 rfl rfl ?_
        refine s_bipush 40 0 8 rfl k_ib_40 ?_
        refine s_icmp_ge 0 9 25 rfl (by decide) H (fun _ H => ?_) (fun _ H => ?_)
        · refine s_const 0 0 12 rfl k_ic_0 ?_
          exact s_zret 0 13 rfl rfl k_z0 (hr _ _ (k_sat_some H))
        · refine s_const 1 0 10 rfl k_ic_1 ?_
          refine s_goto 0 11 26 rfl (by decide) ?_
          exact s_zret 0 13 rfl rfl k_z1 (hr _ _ (k_sat_some H))
set_option maxRecDepth 100000 in
theorem c_Records_nightOf (g : k_G)  (p1 : Int32) {u : k_S} {QQ : Int32 → k_S → Prop} (H : k_sat (f_Records_nightOf  p1 u) QQ) : k_OK g 1 MX7_nightOf [.ref 20, .int p1] u (k_qi QQ) := by
  have hr : ∀ (r : Int32) (u' : k_S), QQ (r) u' → (k_qi QQ) (some (.int r)) u' := fun r u' h => ⟨_, rfl, h⟩
  refine k_OK.ofW pfX7_nightOf (k_tab_of MX7_nightOf_dec) rfl ?_
  refine s_iloadn 0 0 rfl rfl ?_
  refine s_if_lt 0 1 22 rfl (by decide) H (fun _ H => ?_) (fun _ H => ?_)
  · refine s_const 0 0 12 rfl k_ic_0 ?_
    exact s_iret 0 13 rfl rfl (hr _ _ (k_sat_some H))
  · refine s_iloadn 0 2 rfl rfl ?_
    refine s_aloadn 0 3 rfl rfl ?_
    refine s_getr 0 4 rfl k_fl73 rfl rfl rfl rfl ?_
    refine s_alen 40 0 5 rfl rfl k_ln_40 ?_
    refine s_icmp_ge 0 6 22 rfl (by decide) H (fun _ H => ?_) (fun _ H => ?_)
    · refine s_const 0 0 12 rfl k_ic_0 ?_
      exact s_iret 0 13 rfl rfl (hr _ _ (k_sat_some H))
    · refine s_aloadn 0 7 rfl rfl ?_
      refine s_getr 0 8 rfl k_fl73 rfl rfl rfl rfl ?_
      refine s_iloadn 0 9 rfl rfl ?_
      refine s_iald 0 10 rfl rfl H (fun _ H => ?_)
      refine s_goto 0 11 23 rfl (by decide) ?_
      exact s_iret 0 13 rfl rfl (hr _ _ (k_sat_some H))
set_option maxRecDepth 100000 in
theorem t_Records_add_B59 (g : k_G)  (v1 : Int32) (v3 : Int32) (v4 : Int32) (v5 : Int32)  {u : k_S} {QQ : ((Int32 × Int32) ⊕ (Int32)) → k_S → Prop} {Q : Option Value → k_S → Prop} (hb : ∀ (x : (Int32 × Int32)) (u' : k_S), QQ (.inl x) u' → k_W g 2 MX7_add 59 [(0, .ref 20), (1, .int v1), (3, .int v3), (4, .int x.1), (5, .int x.2)] [] u' Q) (he : ∀ (y : (Int32)) (u' : k_S), QQ (.inr y) u' → k_W g 2 MX7_add 109 [(0, .ref 20), (3, .int v3), (4, .int y)] [] u' Q) (H : k_sat (f_Records_add_B59  v1 v3 v4 v5 u) QQ) : k_W g 2 MX7_add 59 [(0, .ref 20), (1, .int v1), (3, .int v3), (4, .int v4), (5, .int v5)] [] u Q := by
  refine s_iload 2 4 rfl rfl ?_
  refine s_if_le 2 5 109 rfl (by decide) H (fun _ H => ?_) (fun _ H => ?_)
  · exact k_via (he _ _ (k_sat_some H)) ⟨rfl, rfl, rfl, trivial⟩
  · refine s_aloadn 2 6 rfl rfl ?_
    refine s_aloadn 2 7 rfl rfl ?_
    refine s_getr 2 8 rfl k_fl75 rfl rfl rfl rfl ?_
    refine s_iload 2 9 rfl rfl ?_
    refine s_const 1 2 10 rfl k_ic_1 ?_
    refine s_isub 2 11 rfl ?_
    refine s_iald 2 12 rfl rfl H (fun _ H => ?_)
    refine s_cvi1 (M' := MX7_nightOf) 2 13 rfl k_ml137 vvX7_nightOf rfl rfl (Nat.le_of_ble_eq_true rfl) rfl (c_Records_nightOf g _ (k_sat_bind H)) (fun r5 u4 H => ?_)
    refine s_iloadn 2 14 rfl rfl ?_
    refine s_icmp_le 2 15 109 rfl (by decide) H (fun _ H => ?_) (fun _ H => ?_)
    · exact k_via (he _ _ (k_sat_some H)) ⟨rfl, rfl, rfl, trivial⟩
    · refine s_aloadn 3 0 rfl rfl ?_
      refine s_getr 3 1 rfl k_fl75 rfl rfl rfl rfl ?_
      refine s_iload 3 2 rfl rfl ?_
      refine s_aloadn 3 3 rfl rfl ?_
      refine s_getr 3 4 rfl k_fl75 rfl rfl rfl rfl ?_
      refine s_iload 3 5 rfl rfl ?_
      refine s_const 1 3 6 rfl k_ic_1 ?_
      refine s_isub 3 7 rfl ?_
      refine s_iald 3 8 rfl rfl H (fun _ H => ?_)
      refine s_iast 3 9 rfl rfl H (fun u6 H => ?_)
      refine s_iload 3 10 rfl rfl ?_
      refine s_const 1 3 11 rfl k_ic_1 ?_
      refine s_isub 3 12 rfl ?_
      refine k_topi H (fun t7 H => ?_)
      refine s_istore 3 13 rfl rfl ?_
      refine s_iinc 3 14 rfl rfl rfl ?_
      refine s_goto 3 15 59 rfl (by decide) ?_
      exact k_via (hb _ _ (k_sat_some H)) ⟨rfl, rfl, rfl, rfl, rfl, trivial⟩
set_option maxRecDepth 100000 in
theorem l_Records_add_B59 (g : k_G)  (v1 : Int32) (v3 : Int32) {Q : Option Value → k_S → Prop} {K : (Int32) → k_S → Prop} (he : ∀ (y : (Int32)) (u' : k_S), K (y) u' → k_W g 2 MX7_add 109 [(0, .ref 20), (3, .int v3), (4, .int y)] [] u' Q) : ∀ (n : Nat) (x : (Int32 × Int32)) (u : k_S), k_sat (k_itr (fun (x : (Int32 × Int32)) u => f_Records_add_B59  v1 v3 x.1 x.2 u) n x u) K → k_W g 2 MX7_add 59 [(0, .ref 20), (1, .int v1), (3, .int v3), (4, .int x.1), (5, .int x.2)] [] u Q :=
  k_loop (P := fun (x : (Int32 × Int32)) u => k_W g 2 MX7_add 59 [(0, .ref 20), (1, .int v1), (3, .int v3), (4, .int x.1), (5, .int x.2)] [] u Q) (fun (x : (Int32 × Int32)) u H => t_Records_add_B59 g  v1 v3 x.1 x.2  (fun x u' h => h) (fun y u' h => he y u' h) H)
set_option maxRecDepth 100000 in
theorem t_Records_add_J109 (g : k_G)  (v3 : Int32) (v4 : Int32)  {u : k_S} {QQ : Int32 → k_S → Prop} {Q : Option Value → k_S → Prop} (hr : ∀ (r : Int32) (u' : k_S), QQ (r) u' → (Q) (some (.int r)) u') (H : k_sat (f_Records_add_J109  v3 v4 u) QQ) : k_W g 2 MX7_add 109 [(0, .ref 20), (3, .int v3), (4, .int v4)] [] u Q := by
  refine s_aloadn 4 0 rfl rfl ?_
  refine s_getr 4 1 rfl k_fl75 rfl rfl rfl rfl ?_
  refine s_iload 4 2 rfl rfl ?_
  refine s_iloadn 4 3 rfl rfl ?_
  refine s_iast 4 4 rfl rfl H (fun u10 H => ?_)
  refine s_aloadn 4 5 rfl rfl ?_
  refine s_dupr 4 6 rfl ?_
  refine s_geti 2003 4 7 rfl k_fl76 rfl rfl rfl rfl rfl ?_
  refine s_const 1 4 8 rfl k_ic_1 ?_
  refine s_iadd 4 9 rfl ?_
  refine s_puti 2003 4 10 rfl k_fl76 rfl rfl rfl rfl rfl rfl rfl rfl rfl H (fun u11 H => ?_)
  refine s_iloadn 4 11 rfl rfl ?_
  exact s_iret 4 12 rfl rfl (hr _ _ (k_sat_some H))
set_option maxRecDepth 100000 in
theorem c_Records_add (g : k_G)  (p1 : Int32) (p2 : Int32) {u : k_S} {QQ : Int32 → k_S → Prop} (H : k_sat (f_Records_add  p1 p2 u) QQ) : k_OK g 2 MX7_add [.ref 20, .int p1, .int p2] u (k_qi QQ) := by
  have hr : ∀ (r : Int32) (u' : k_S), QQ (r) u' → (k_qi QQ) (some (.int r)) u' := fun r u' h => ⟨_, rfl, h⟩
  refine k_OK.ofW pfX7_add (k_tab_of MX7_add_dec) rfl ?_
  refine s_aloadn 0 0 rfl rfl ?_
  refine s_geti 2003 0 1 rfl k_fl76 rfl rfl rfl rfl rfl ?_
  refine k_topi H (fun t1 H => ?_)
  refine s_istoren 0 2 rfl rfl ?_
  refine s_iloadn 0 3 rfl rfl ?_
  refine s_if_lt 0 4 36 rfl (by decide) H (fun _ H => ?_) (fun _ H => ?_)
  · refine s_bipush (-3) 1 4 rfl k_ib_m3 ?_
    exact s_iret 1 5 rfl rfl (hr _ _ (k_sat_some H))
  · refine s_iloadn 0 5 rfl rfl ?_
    refine s_aloadn 0 6 rfl rfl ?_
    refine s_getr 0 7 rfl k_fl73 rfl rfl rfl rfl ?_
    refine s_alen 40 0 8 rfl rfl k_ln_40 ?_
    refine s_icmp_ge 0 9 36 rfl (by decide) H (fun _ H => ?_) (fun _ H => ?_)
    · refine s_bipush (-3) 1 4 rfl k_ib_m3 ?_
      exact s_iret 1 5 rfl rfl (hr _ _ (k_sat_some H))
    · refine s_iloadn 0 10 rfl rfl ?_
      refine s_aloadn 0 11 rfl rfl ?_
      refine s_getr 0 12 rfl k_fl74 rfl rfl rfl rfl ?_
      refine s_alen 40 0 13 rfl rfl k_ln_40 ?_
      refine s_icmp_ge 0 14 36 rfl (by decide) H (fun _ H => ?_) (fun _ H => ?_)
      · refine s_bipush (-3) 1 4 rfl k_ib_m3 ?_
        exact s_iret 1 5 rfl rfl (hr _ _ (k_sat_some H))
      · refine s_iloadn 0 15 rfl rfl ?_
        refine s_aloadn 1 0 rfl rfl ?_
        refine s_getr 1 1 rfl k_fl75 rfl rfl rfl rfl ?_
        refine s_alen 40 1 2 rfl rfl k_ln_40 ?_
        refine s_icmp_lt 1 3 39 rfl (by decide) H (fun _ H => ?_) (fun _ H => ?_)
        · refine s_aloadn 1 6 rfl rfl ?_
          refine s_getr 1 7 rfl k_fl73 rfl rfl rfl rfl ?_
          refine s_iloadn 1 8 rfl rfl ?_
          refine s_iloadn 1 9 rfl rfl ?_
          refine s_iast 1 10 rfl rfl H (fun u2 H => ?_)
          refine s_aloadn 1 11 rfl rfl ?_
          refine s_getr 1 12 rfl k_fl74 rfl rfl rfl rfl ?_
          refine s_iloadn 1 13 rfl rfl ?_
          refine s_iloadn 1 14 rfl rfl ?_
          refine s_iast 1 15 rfl rfl H (fun u3 H => ?_)
          refine s_iloadn 2 0 rfl rfl ?_
          refine s_istore 2 1 rfl rfl ?_
          refine s_iloadn 2 2 rfl rfl ?_
          refine s_istore 2 3 rfl rfl ?_
          refine k_via (l_Records_add_B59 g  p1 t1 ?_ _ _ _ (k_sat_bind H)) ⟨rfl, rfl, rfl, rfl, rfl, trivial⟩
          · intro y9 u8 H
            exact k_via (t_Records_add_J109 g  _ _  hr H) ⟨rfl, rfl, rfl, trivial⟩
        · refine s_bipush (-3) 1 4 rfl k_ib_m3 ?_
          exact s_iret 1 5 rfl rfl (hr _ _ (k_sat_some H))
set_option maxRecDepth 100000 in
theorem c_W_record (g : k_G)  (p1 : Int32) (p2 : Int32) {u : k_S} {QQ : Int32 → k_S → Prop} (H : k_sat (f_W_record  p1 p2 u) QQ) : k_OK g 3 MX11_record [.ref 0, .int p1, .int p2] u (k_qi QQ) := by
  have hr : ∀ (r : Int32) (u' : k_S), QQ (r) u' → (k_qi QQ) (some (.int r)) u' := fun r u' h => ⟨_, rfl, h⟩
  refine k_OK.ofW pfX11_record (k_tab_of MX11_record_dec) rfl ?_
  refine s_iloadn 0 0 rfl rfl ?_
  refine s_iloadn 0 1 rfl rfl ?_
  refine s_csi2 (M' := MX11_isRecord) 0 2 rfl k_ml38 vvX11_isRecord (Nat.le_of_ble_eq_true rfl) rfl (c_W_isRecord g _ _ (k_sat_bind H)) (fun r2 u1 H => ?_)
  refine s_if_ne 0 3 10 rfl (by decide) H (fun _ H => ?_) (fun _ H => ?_)
  · refine s_aloadn 0 6 rfl rfl ?_
    refine s_getr 0 7 rfl k_fl4 rfl rfl rfl rfl ?_
    refine s_geti 2003 0 8 rfl k_fl18 rfl rfl rfl rfl rfl ?_
    refine s_bipush 40 0 9 rfl k_ib_40 ?_
    refine s_icmp_lt 0 10 25 rfl (by decide) H (fun _ H => ?_) (fun _ H => ?_)
    · refine s_aloadn 0 13 rfl rfl ?_
      refine s_getr 0 14 rfl k_fl4 rfl rfl rfl rfl ?_
      refine s_iloadn 0 15 rfl rfl ?_
      refine s_iloadn 1 0 rfl rfl ?_
      refine s_cvi2 (M' := MX7_add) 1 1 rfl k_ml39 vvX7_add rfl rfl (Nat.le_of_ble_eq_true rfl) rfl (c_Records_add g _ _ (k_sat_bind H)) (fun r4 u3 H => ?_)
      exact s_iret 1 2 rfl rfl (hr _ _ (k_sat_some H))
    · refine s_bipush (-3) 0 11 rfl k_ib_m3 ?_
      exact s_iret 0 12 rfl rfl (hr _ _ (k_sat_some H))
  · refine s_const (-1) 0 4 rfl k_ic_m1 ?_
    exact s_iret 0 5 rfl rfl (hr _ _ (k_sat_some H))
set_option maxRecDepth 100000 in
theorem c_R_isRecord (g : k_G)  (p0 : Int32) (p1 : Int32) {u : k_S} {QQ : Int32 → k_S → Prop} (H : k_sat (f_R_isRecord  p0 p1 u) QQ) : k_OK g 2 MX12_isRecord [.int p0, .int p1] u (k_qi QQ) := by
  have hr : ∀ (r : Int32) (u' : k_S), QQ (r) u' → (k_qi QQ) (some (.int r)) u' := fun r u' h => ⟨_, rfl, h⟩
  refine k_OK.ofW pfX12_isRecord (k_tab_of MX12_isRecord_dec) rfl ?_
  refine s_iloadn 0 0 rfl rfl ?_
  refine s_const 0 0 1 rfl k_ic_0 ?_
  refine s_sipush 5000 0 2 rfl k_is_5000 ?_
  refine s_csi3 (M' := MX12_in) 0 3 rfl k_ml230 vvX12_in (Nat.le_of_ble_eq_true rfl) rfl (c_R_in g _ _ _ (k_sat_bind H)) (fun r2 u1 H => ?_)
  refine s_if_eq 0 4 25 rfl (by decide) H (fun _ H => ?_) (fun _ H => ?_)
  · refine s_const 0 0 12 rfl k_ic_0 ?_
    exact s_zret 0 13 rfl rfl k_z0 (hr _ _ (k_sat_some H))
  · refine s_iloadn 0 5 rfl rfl ?_
    refine s_const 0 0 6 rfl k_ic_0 ?_
    refine s_bipush 39 0 7 rfl k_ib_39 ?_
    refine s_csi3 (M' := MX12_in) 0 8 rfl k_ml230 vvX12_in (Nat.le_of_ble_eq_true rfl) rfl (c_R_in g _ _ _ (k_sat_bind H)) (fun r4 u3 H => ?_)
    refine s_if_eq 0 9 25 rfl (by decide) H (fun _ H => ?_) (fun _ H => ?_)
    · refine s_const 0 0 12 rfl k_ic_0 ?_
      exact s_zret 0 13 rfl rfl k_z0 (hr _ _ (k_sat_some H))
    · refine s_const 1 0 10 rfl k_ic_1 ?_
      refine s_goto 0 11 26 rfl (by decide) ?_
      exact s_zret 0 13 rfl rfl k_z1 (hr _ _ (k_sat_some H))
set_option maxRecDepth 100000 in
theorem c_R_addRecord (g : k_G)  (p1 : Int32) (p2 : Int32) {u : k_S} {QQ : Unit → k_S → Prop} (H : k_sat (f_R_addRecord  p1 p2 u) QQ) : k_OK g 1 MX12_addRecord [.ref 42, .int p1, .int p2] u (k_qv QQ) := by
  have hr : ∀ (r : Unit) (u' : k_S), QQ (r) u' → (k_qv QQ) (none) u' := fun r u' h => ⟨rfl, h⟩
  refine k_OK.ofW pfX12_addRecord (k_tab_of MX12_addRecord_dec) rfl ?_
  refine s_aloadn 0 0 rfl rfl ?_
  refine s_getr 0 1 rfl k_fl109 rfl rfl rfl rfl ?_
  refine s_aloadn 0 2 rfl rfl ?_
  refine s_geti 4235 0 3 rfl k_fl133 rfl rfl rfl rfl rfl ?_
  refine s_iloadn 0 4 rfl rfl ?_
  refine s_iast 0 5 rfl rfl H (fun u1 H => ?_)
  refine s_aloadn 0 6 rfl rfl ?_
  refine s_getr 0 7 rfl k_fl110 rfl rfl rfl rfl ?_
  refine s_aloadn 0 8 rfl rfl ?_
  refine s_geti 4235 0 9 rfl k_fl133 rfl rfl rfl rfl rfl ?_
  refine s_iloadn 0 10 rfl rfl ?_
  refine s_iast 0 11 rfl rfl H (fun u2 H => ?_)
  refine s_aloadn 0 12 rfl rfl ?_
  refine s_dupr 0 13 rfl ?_
  refine s_geti 4235 0 14 rfl k_fl133 rfl rfl rfl rfl rfl ?_
  refine s_const 1 0 15 rfl k_ic_1 ?_
  refine s_iadd 1 0 rfl ?_
  refine s_puti 4235 1 1 rfl k_fl133 rfl rfl rfl rfl rfl rfl rfl rfl rfl H (fun u3 H => ?_)
  exact s_ret 1 2 rfl rfl (hr _ _ (k_sat_some H))
set_option maxRecDepth 100000 in
theorem c_R_record (g : k_G)  (p1 : Int32) (p2 : Int32) {u : k_S} {QQ : Int32 → k_S → Prop} (H : k_sat (f_R_record  p1 p2 u) QQ) : k_OK g 3 MX12_record [.ref 42, .int p1, .int p2] u (k_qi QQ) := by
  have hr : ∀ (r : Int32) (u' : k_S), QQ (r) u' → (k_qi QQ) (some (.int r)) u' := fun r u' h => ⟨_, rfl, h⟩
  refine k_OK.ofW pfX12_record (k_tab_of MX12_record_dec) rfl ?_
  refine s_iloadn 0 0 rfl rfl ?_
  refine s_iloadn 0 1 rfl rfl ?_
  refine s_csi2 (M' := MX12_isRecord) 0 2 rfl k_ml261 vvX12_isRecord (Nat.le_of_ble_eq_true rfl) rfl (c_R_isRecord g _ _ (k_sat_bind H)) (fun r2 u1 H => ?_)
  refine s_if_ne 0 3 10 rfl (by decide) H (fun _ H => ?_) (fun _ H => ?_)
  · refine s_aloadn 0 6 rfl rfl ?_
    refine s_geti 4235 0 7 rfl k_fl133 rfl rfl rfl rfl rfl ?_
    refine s_bipush 40 0 8 rfl k_ib_40 ?_
    refine s_icmp_ne 0 9 22 rfl (by decide) H (fun _ H => ?_) (fun _ H => ?_)
    · refine s_aloadn 0 12 rfl rfl ?_
      refine s_iloadn 0 13 rfl rfl ?_
      refine s_iloadn 0 14 rfl rfl ?_
      refine s_cvv2 (M' := MX12_addRecord) 0 15 rfl k_ml262 vvX12_addRecord rfl rfl (Nat.le_of_ble_eq_true rfl) rfl (c_R_addRecord g _ _ (k_sat_bind H)) (fun _ u3 H => ?_)
      refine s_aloadn 1 0 rfl rfl ?_
      refine s_geti 4235 1 1 rfl k_fl133 rfl rfl rfl rfl rfl ?_
      refine s_const 1 1 2 rfl k_ic_1 ?_
      refine s_isub 1 3 rfl ?_
      exact s_iret 1 4 rfl rfl (hr _ _ (k_sat_some H))
    · refine s_bipush (-3) 0 10 rfl k_ib_m3 ?_
      exact s_iret 0 11 rfl rfl (hr _ _ (k_sat_some H))
  · refine s_const (-1) 0 4 rfl k_ic_m1 ?_
    exact s_iret 0 5 rfl rfl (hr _ _ (k_sat_some H))
set_option maxRecDepth 100000 in
theorem c_Shelves_has (g : k_G)  (p1 : Int32) {u : k_S} {QQ : Int32 → k_S → Prop} (H : k_sat (f_Shelves_has  p1 u) QQ) : k_OK g 1 MX8_has [.ref 38, .int p1] u (k_qi QQ) := by
  have hr : ∀ (r : Int32) (u' : k_S), QQ (r) u' → (k_qi QQ) (some (.int r)) u' := fun r u' h => ⟨_, rfl, h⟩
  refine k_OK.ofW pfX8_has (k_tab_of MX8_has_dec) rfl ?_
  refine s_iloadn 0 0 rfl rfl ?_
  refine s_if_lt 0 1 17 rfl (by decide) H (fun _ H => ?_) (fun _ H => ?_)
  · refine s_const 0 0 9 rfl k_ic_0 ?_
    exact s_zret 0 10 rfl rfl k_z0 (hr _ _ (k_sat_some H))
  · refine s_iloadn 0 2 rfl rfl ?_
    refine s_aloadn 0 3 rfl rfl ?_
    refine s_getr 0 4 rfl k_fl77 rfl rfl rfl rfl ?_
    refine s_alen 6 0 5 rfl rfl k_ln_6 ?_
    refine s_icmp_ge 0 6 17 rfl (by decide) H (fun _ H => ?_) (fun _ H => ?_)
    · refine s_const 0 0 9 rfl k_ic_0 ?_
      exact s_zret 0 10 rfl rfl k_z0 (hr _ _ (k_sat_some H))
    · refine s_const 1 0 7 rfl k_ic_1 ?_
      refine s_goto 0 8 18 rfl (by decide) ?_
      exact s_zret 0 10 rfl rfl k_z1 (hr _ _ (k_sat_some H))
set_option maxRecDepth 100000 in
theorem c_Shelves_heldBy (g : k_G)  (p1 : Int32) {u : k_S} {QQ : Int32 → k_S → Prop} (H : k_sat (f_Shelves_heldBy  p1 u) QQ) : k_OK g 2 MX8_heldBy [.ref 38, .int p1] u (k_qi QQ) := by
  have hr : ∀ (r : Int32) (u' : k_S), QQ (r) u' → (k_qi QQ) (some (.int r)) u' := fun r u' h => ⟨_, rfl, h⟩
  refine k_OK.ofW pfX8_heldBy (k_tab_of MX8_heldBy_dec) rfl ?_
  refine s_aloadn 0 0 rfl rfl ?_
  refine s_iloadn 0 1 rfl rfl ?_
  refine s_cvi1 (M' := MX8_has) 0 2 rfl k_ml138 vvX8_has rfl rfl (Nat.le_of_ble_eq_true rfl) rfl (c_Shelves_has g _ (k_sat_bind H)) (fun r2 u1 H => ?_)
  refine s_if_eq 0 3 17 rfl (by decide) H (fun _ H => ?_) (fun _ H => ?_)
  · refine s_const (-1) 0 9 rfl k_ic_m1 ?_
    exact s_iret 0 10 rfl rfl (hr _ _ (k_sat_some H))
  · refine s_aloadn 0 4 rfl rfl ?_
    refine s_getr 0 5 rfl k_fl77 rfl rfl rfl rfl ?_
    refine s_iloadn 0 6 rfl rfl ?_
    refine s_iald 0 7 rfl rfl H (fun _ H => ?_)
    refine s_goto 0 8 18 rfl (by decide) ?_
    exact s_iret 0 10 rfl rfl (hr _ _ (k_sat_some H))
set_option maxRecDepth 100000 in
theorem c_Shelves_sizeOf (g : k_G)  (p1 : Int32) {u : k_S} {QQ : Int32 → k_S → Prop} (H : k_sat (f_Shelves_sizeOf  p1 u) QQ) : k_OK g 1 MX8_sizeOf [.ref 38, .int p1] u (k_qi QQ) := by
  have hr : ∀ (r : Int32) (u' : k_S), QQ (r) u' → (k_qi QQ) (some (.int r)) u' := fun r u' h => ⟨_, rfl, h⟩
  refine k_OK.ofW pfX8_sizeOf (k_tab_of MX8_sizeOf_dec) rfl ?_
  refine s_iloadn 0 0 rfl rfl ?_
  refine s_if_lt 0 1 22 rfl (by decide) H (fun _ H => ?_) (fun _ H => ?_)
  · refine s_const 0 0 12 rfl k_ic_0 ?_
    exact s_iret 0 13 rfl rfl (hr _ _ (k_sat_some H))
  · refine s_iloadn 0 2 rfl rfl ?_
    refine s_aloadn 0 3 rfl rfl ?_
    refine s_getr 0 4 rfl k_fl78 rfl rfl rfl rfl ?_
    refine s_alen 6 0 5 rfl rfl k_ln_6 ?_
    refine s_icmp_ge 0 6 22 rfl (by decide) H (fun _ H => ?_) (fun _ H => ?_)
    · refine s_const 0 0 12 rfl k_ic_0 ?_
      exact s_iret 0 13 rfl rfl (hr _ _ (k_sat_some H))
    · refine s_aloadn 0 7 rfl rfl ?_
      refine s_getr 0 8 rfl k_fl78 rfl rfl rfl rfl ?_
      refine s_iloadn 0 9 rfl rfl ?_
      refine s_iald 0 10 rfl rfl H (fun _ H => ?_)
      refine s_goto 0 11 23 rfl (by decide) ?_
      exact s_iret 0 13 rfl rfl (hr _ _ (k_sat_some H))
set_option maxRecDepth 100000 in
theorem c_Shelves_hasElement (g : k_G)  (p1 : Int32) (p2 : Int32) {u : k_S} {QQ : Int32 → k_S → Prop} (H : k_sat (f_Shelves_hasElement  p1 p2 u) QQ) : k_OK g 3 MX8_hasElement [.ref 38, .int p1, .int p2] u (k_qi QQ) := by
  have hr : ∀ (r : Int32) (u' : k_S), QQ (r) u' → (k_qi QQ) (some (.int r)) u' := fun r u' h => ⟨_, rfl, h⟩
  refine k_OK.ofW pfX8_hasElement (k_tab_of MX8_hasElement_dec) rfl ?_
  refine s_aloadn 0 0 rfl rfl ?_
  refine s_iloadn 0 1 rfl rfl ?_
  refine s_cvi1 (M' := MX8_heldBy) 0 2 rfl k_ml139 vvX8_heldBy rfl rfl (Nat.le_of_ble_eq_true rfl) rfl (c_Shelves_heldBy g _ (k_sat_bind H)) (fun r2 u1 H => ?_)
  refine s_istoren 0 3 rfl rfl ?_
  refine s_iloadn 0 4 rfl rfl ?_
  refine s_const (-1) 0 5 rfl k_ic_m1 ?_
  refine s_icmp_eq 0 6 33 rfl (by decide) H (fun _ H => ?_) (fun _ H => ?_)
  · refine s_const 0 1 3 rfl k_ic_0 ?_
    exact s_zret 1 4 rfl rfl k_z0 (hr _ _ (k_sat_some H))
  · refine s_iloadn 0 7 rfl rfl ?_
    refine s_const 5 0 8 rfl k_ic_5 ?_
    refine s_icmp_eq 0 9 33 rfl (by decide) H (fun _ H => ?_) (fun _ H => ?_)
    · refine s_const 0 1 3 rfl k_ic_0 ?_
      exact s_zret 1 4 rfl rfl k_z0 (hr _ _ (k_sat_some H))
    · refine s_iloadn 0 10 rfl rfl ?_
      refine s_if_lt 0 11 33 rfl (by decide) H (fun _ H => ?_) (fun _ H => ?_)
      · refine s_const 0 1 3 rfl k_ic_0 ?_
        exact s_zret 1 4 rfl rfl k_z0 (hr _ _ (k_sat_some H))
      · refine s_iloadn 0 12 rfl rfl ?_
        refine s_aloadn 0 13 rfl rfl ?_
        refine s_iloadn 0 14 rfl rfl ?_
        refine s_cvi1 (M' := MX8_sizeOf) 0 15 rfl k_ml140 vvX8_sizeOf rfl rfl (Nat.le_of_ble_eq_true rfl) rfl (c_Shelves_sizeOf g _ (k_sat_bind H)) (fun r4 u3 H => ?_)
        refine s_icmp_ge 1 0 33 rfl (by decide) H (fun _ H => ?_) (fun _ H => ?_)
        · refine s_const 0 1 3 rfl k_ic_0 ?_
          exact s_zret 1 4 rfl rfl k_z0 (hr _ _ (k_sat_some H))
        · refine s_const 1 1 1 rfl k_ic_1 ?_
          refine s_goto 1 2 34 rfl (by decide) ?_
          exact s_zret 1 4 rfl rfl k_z1 (hr _ _ (k_sat_some H))
set_option maxRecDepth 100000 in
theorem c_Shelves_valueAt (g : k_G)  (p1 : Int32) (p2 : Int32) {u : k_S} {QQ : Int64 → k_S → Prop} (H : k_sat (f_Shelves_valueAt  p1 p2 u) QQ) : k_OK g 1 MX8_valueAt [.ref 38, .int p1, .int p2] u (k_ql QQ) := by
  have hr : ∀ (r : Int64) (u' : k_S), QQ (r) u' → (k_ql QQ) (some (.long r)) u' := fun r u' h => ⟨_, rfl, h⟩
  refine k_OK.ofW pfX8_valueAt (k_tab_of MX8_valueAt_dec) rfl ?_
  refine s_bipush 60 0 0 rfl k_ib_60 ?_
  refine s_iloadn 0 1 rfl rfl ?_
  refine s_imul 0 2 rfl ?_
  refine s_iloadn 0 3 rfl rfl ?_
  refine s_iadd 0 4 rfl ?_
  refine k_topi H (fun t1 H => ?_)
  refine s_istoren 0 5 rfl rfl ?_
  refine s_iloadn 0 6 rfl rfl ?_
  refine s_if_lt 0 7 29 rfl (by decide) H (fun _ H => ?_) (fun _ H => ?_)
  · refine s_lconst 0 1 2 rfl k_lc_0 ?_
    exact s_lret 1 3 rfl rfl (hr _ _ (k_sat_some H))
  · refine s_iloadn 0 8 rfl rfl ?_
    refine s_aloadn 0 9 rfl rfl ?_
    refine s_getr 0 10 rfl k_fl79 rfl rfl rfl rfl ?_
    refine s_alen 360 0 11 rfl rfl k_ln_360 ?_
    refine s_icmp_ge 0 12 29 rfl (by decide) H (fun _ H => ?_) (fun _ H => ?_)
    · refine s_lconst 0 1 2 rfl k_lc_0 ?_
      exact s_lret 1 3 rfl rfl (hr _ _ (k_sat_some H))
    · refine s_aloadn 0 13 rfl rfl ?_
      refine s_getr 0 14 rfl k_fl79 rfl rfl rfl rfl ?_
      refine s_iloadn 0 15 rfl rfl ?_
      refine s_lald 1 0 rfl rfl H (fun _ H => ?_)
      refine s_goto 1 1 30 rfl (by decide) ?_
      exact s_lret 1 3 rfl rfl (hr _ _ (k_sat_some H))
set_option maxRecDepth 100000 in
theorem t_W_records_B52 (g : k_G)  (v1 : Int32) (v2 : Int32) (v3 : Int32) (v5 : Int32)  {u : k_S} {QQ : ((Int32) ⊕ (Int32 ⊕ Unit)) → k_S → Prop} {Q : Option Value → k_S → Prop} (hr : ∀ (r : Int32) (u' : k_S), QQ (.inr (.inl r)) u' → (Q) (some (.int r)) u') (hb : ∀ (x : (Int32)) (u' : k_S), QQ (.inl x) u' → k_W g 4 MX11_records 52 [(0, .ref 0), (1, .int v1), (2, .int v2), (3, .int v3), (5, .int x)] [] u' Q) (he : ∀ (y : Unit) (u' : k_S), QQ (.inr (.inr y)) u' → k_W g 4 MX11_records 168 [(3, .int v3)] [] u' Q) (H : k_sat (f_W_records_B52  v1 v2 v3 v5 u) QQ) : k_W g 4 MX11_records 52 [(0, .ref 0), (1, .int v1), (2, .int v2), (3, .int v3), (5, .int v5)] [] u Q := by
  refine s_iload 1 12 rfl rfl ?_
  refine s_iloadn 1 13 rfl rfl ?_
  refine s_icmp_ge 1 14 168 rfl (by decide) H (fun _ H => ?_) (fun _ H => ?_)
  · exact k_via (he _ _ (k_sat_some H)) ⟨rfl, trivial⟩
  · refine s_iloadn 1 15 rfl rfl ?_
    refine s_const 2 2 0 rfl k_ic_2 ?_
    refine s_iload 2 1 rfl rfl ?_
    refine s_imul 2 2 rfl ?_
    refine s_iadd 2 3 rfl ?_
    refine k_topi H (fun t5 H => ?_)
    refine s_istore 2 4 rfl rfl ?_
    refine s_aloadn 2 5 rfl rfl ?_
    refine s_getr 2 6 rfl k_fl9 rfl rfl rfl rfl ?_
    refine s_iloadn 2 7 rfl rfl ?_
    refine s_iload 2 8 rfl rfl ?_
    refine s_cvi2 (M' := MX8_hasElement) 2 9 rfl k_ml42 vvX8_hasElement rfl rfl (Nat.le_of_ble_eq_true rfl) rfl (c_Shelves_hasElement g _ _ (k_sat_bind H)) (fun r7 u6 H => ?_)
    refine s_if_eq 2 10 94 rfl (by decide) H (fun _ H => ?_) (fun _ H => ?_)
    · refine s_iload 3 3 rfl rfl ?_
      exact s_iret 3 4 rfl rfl (hr _ _ (k_sat_some H))
    · refine s_aloadn 2 11 rfl rfl ?_
      refine s_getr 2 12 rfl k_fl9 rfl rfl rfl rfl ?_
      refine s_iloadn 2 13 rfl rfl ?_
      refine s_iload 2 14 rfl rfl ?_
      refine s_const 1 2 15 rfl k_ic_1 ?_
      refine s_iadd 3 0 rfl ?_
      refine s_cvi2 (M' := MX8_hasElement) 3 1 rfl k_ml42 vvX8_hasElement rfl rfl (Nat.le_of_ble_eq_true rfl) rfl (c_Shelves_hasElement g _ _ (k_sat_bind H)) (fun r9 u8 H => ?_)
      refine s_if_ne 3 2 97 rfl (by decide) H (fun _ H => ?_) (fun _ H => ?_)
      · refine s_aloadn 3 5 rfl rfl ?_
        refine s_getr 3 6 rfl k_fl9 rfl rfl rfl rfl ?_
        refine s_iloadn 3 7 rfl rfl ?_
        refine s_iload 3 8 rfl rfl ?_
        refine s_cvl2 (M' := MX8_valueAt) 3 9 rfl k_ml43 vvX8_valueAt rfl rfl (Nat.le_of_ble_eq_true rfl) rfl (c_Shelves_valueAt g _ _ (k_sat_bind H)) (fun r11 u10 H => ?_)
        refine s_l2i 3 10 rfl ?_
        refine k_topi H (fun t12 H => ?_)
        refine s_istore 3 11 rfl rfl ?_
        refine s_aloadn 3 12 rfl rfl ?_
        refine s_getr 3 13 rfl k_fl9 rfl rfl rfl rfl ?_
        refine s_iloadn 3 14 rfl rfl ?_
        refine s_iload 3 15 rfl rfl ?_
        refine s_const 1 4 0 rfl k_ic_1 ?_
        refine s_iadd 4 1 rfl ?_
        refine s_cvl2 (M' := MX8_valueAt) 4 2 rfl k_ml43 vvX8_valueAt rfl rfl (Nat.le_of_ble_eq_true rfl) rfl (c_Shelves_valueAt g _ _ (k_sat_bind H)) (fun r14 u13 H => ?_)
        refine s_l2i 4 3 rfl ?_
        refine k_topi H (fun t15 H => ?_)
        refine s_istore 4 4 rfl rfl ?_
        refine s_iload 4 5 rfl rfl ?_
        refine s_iload 4 6 rfl rfl ?_
        refine s_csi2 (M' := MX11_isRecord) 4 7 rfl k_ml38 vvX11_isRecord (Nat.le_of_ble_eq_true rfl) rfl (c_W_isRecord g _ _ (k_sat_bind H)) (fun r17 u16 H => ?_)
        refine s_if_eq 4 8 147 rfl (by decide) H (fun _ H => ?_) (fun _ H => ?_)
        · refine s_iload 4 14 rfl rfl ?_
          exact s_iret 4 15 rfl rfl (hr _ _ (k_sat_some H))
        · refine s_aloadn 4 9 rfl rfl ?_
          refine s_getr 4 10 rfl k_fl4 rfl rfl rfl rfl ?_
          refine s_geti 2003 4 11 rfl k_fl18 rfl rfl rfl rfl rfl ?_
          refine s_bipush 40 4 12 rfl k_ib_40 ?_
          refine s_icmp_lt 4 13 150 rfl (by decide) H (fun _ H => ?_) (fun _ H => ?_)
          · refine s_aloadn 5 0 rfl rfl ?_
            refine s_getr 5 1 rfl k_fl4 rfl rfl rfl rfl ?_
            refine s_iload 5 2 rfl rfl ?_
            refine s_iload 5 3 rfl rfl ?_
            refine s_cvi2 (M' := MX7_add) 5 4 rfl k_ml39 vvX7_add rfl rfl (Nat.le_of_ble_eq_true rfl) rfl (c_Records_add g _ _ (k_sat_bind H)) (fun r19 u18 H => ?_)
            refine s_popi 5 5 rfl ?_
            refine s_iinc 5 6 rfl rfl rfl ?_
            refine s_goto 5 7 52 rfl (by decide) ?_
            exact k_via (hb _ _ (k_sat_some H)) ⟨rfl, rfl, rfl, rfl, rfl, trivial⟩
          · refine s_iload 4 14 rfl rfl ?_
            exact s_iret 4 15 rfl rfl (hr _ _ (k_sat_some H))
      · refine s_iload 3 3 rfl rfl ?_
        exact s_iret 3 4 rfl rfl (hr _ _ (k_sat_some H))
set_option maxRecDepth 100000 in
theorem l_W_records_B52 (g : k_G)  (v1 : Int32) (v2 : Int32) (v3 : Int32) {Q : Option Value → k_S → Prop} {K : (Int32 ⊕ Unit) → k_S → Prop} (hr : ∀ (r : Int32) (u' : k_S), K (.inl r) u' → Q (some (.int r)) u') (he : ∀ (y : Unit) (u' : k_S), K (.inr y) u' → k_W g 4 MX11_records 168 [(3, .int v3)] [] u' Q) : ∀ (n : Nat) (x : (Int32)) (u : k_S), k_sat (k_itr (fun (x : (Int32)) u => f_W_records_B52  v1 v2 v3 x u) n x u) K → k_W g 4 MX11_records 52 [(0, .ref 0), (1, .int v1), (2, .int v2), (3, .int v3), (5, .int x)] [] u Q :=
  k_loop (P := fun (x : (Int32)) u => k_W g 4 MX11_records 52 [(0, .ref 0), (1, .int v1), (2, .int v2), (3, .int v3), (5, .int x)] [] u Q) (fun (x : (Int32)) u H => t_W_records_B52 g  v1 v2 v3 x  (fun r u' h => hr r u' h) (fun x u' h => h) (fun y u' h => he y u' h) H)
set_option maxRecDepth 100000 in
theorem t_W_records_J49 (g : k_G)  (v1 : Int32) (v2 : Int32) (v3 : Int32)  {u : k_S} {QQ : Int32 → k_S → Prop} {Q : Option Value → k_S → Prop} (hr : ∀ (r : Int32) (u' : k_S), QQ (r) u' → (Q) (some (.int r)) u') (H : k_sat (f_W_records_J49  v1 v2 v3 u) QQ) : k_W g 4 MX11_records 49 [(0, .ref 0), (1, .int v1), (2, .int v2), (3, .int v3)] [] u Q := by
  refine s_const 0 1 10 rfl k_ic_0 ?_
  refine s_istore 1 11 rfl rfl ?_
  refine k_via (l_W_records_B52 g  v1 v2 v3 ?_ ?_ _ _ _ (k_sat_bind H)) ⟨rfl, rfl, rfl, rfl, rfl, trivial⟩
  · exact fun r u' h => hr r u' (k_sat_some h)
  · intro y21 u20 H
    replace H := k_sat_csr H
    refine s_iloadn 5 8 rfl rfl ?_
    exact s_iret 5 9 rfl rfl (hr _ _ (k_sat_some H))
set_option maxRecDepth 100000 in
theorem c_W_records (g : k_G)  (p1 : Int32) (p2 : Int32) (p3 : Int32) {u : k_S} {QQ : Int32 → k_S → Prop} (H : k_sat (f_W_records  p1 p2 p3 u) QQ) : k_OK g 4 MX11_records [.ref 0, .int p1, .int p2, .int p3] u (k_qi QQ) := by
  have hr : ∀ (r : Int32) (u' : k_S), QQ (r) u' → (k_qi QQ) (some (.int r)) u' := fun r u' h => ⟨_, rfl, h⟩
  refine k_OK.ofW pfX11_records (k_tab_of MX11_records_dec) rfl ?_
  refine s_aloadn 0 0 rfl rfl ?_
  refine s_getr 0 1 rfl k_fl9 rfl rfl rfl rfl ?_
  refine s_iloadn 0 2 rfl rfl ?_
  refine s_cvi1 (M' := MX8_has) 0 3 rfl k_ml40 vvX8_has rfl rfl (Nat.le_of_ble_eq_true rfl) rfl (c_Shelves_has g _ (k_sat_bind H)) (fun r2 u1 H => ?_)
  refine s_if_eq 0 4 22 rfl (by decide) H (fun _ H => ?_) (fun _ H => ?_)
  · refine s_const (-1) 0 11 rfl k_ic_m1 ?_
    exact s_iret 0 12 rfl rfl (hr _ _ (k_sat_some H))
  · refine s_iloadn 0 5 rfl rfl ?_
    refine s_const 1 0 6 rfl k_ic_1 ?_
    refine s_icmp_lt 0 7 22 rfl (by decide) H (fun _ H => ?_) (fun _ H => ?_)
    · refine s_const (-1) 0 11 rfl k_ic_m1 ?_
      exact s_iret 0 12 rfl rfl (hr _ _ (k_sat_some H))
    · refine s_iloadn 0 8 rfl rfl ?_
      refine s_bipush 30 0 9 rfl k_ib_30 ?_
      refine s_icmp_le 0 10 24 rfl (by decide) H (fun _ H => ?_) (fun _ H => ?_)
      · refine s_aloadn 0 13 rfl rfl ?_
        refine s_getr 0 14 rfl k_fl9 rfl rfl rfl rfl ?_
        refine s_iloadn 0 15 rfl rfl ?_
        refine s_cvi1 (M' := MX8_heldBy) 1 0 rfl k_ml41 vvX8_heldBy rfl rfl (Nat.le_of_ble_eq_true rfl) rfl (c_Shelves_heldBy g _ (k_sat_bind H)) (fun r4 u3 H => ?_)
        refine s_istore 1 1 rfl rfl ?_
        refine s_iload 1 2 rfl rfl ?_
        refine s_const (-1) 1 3 rfl k_ic_m1 ?_
        refine s_icmp_eq 1 4 49 rfl (by decide) H (fun _ H => ?_) (fun _ H => ?_)
        · exact k_via (t_W_records_J49 g  _ _ _  hr H) ⟨rfl, rfl, rfl, rfl, trivial⟩
        · refine s_iload 1 5 rfl rfl ?_
          refine s_const 1 1 6 rfl k_ic_1 ?_
          refine s_icmp_eq 1 7 49 rfl (by decide) H (fun _ H => ?_) (fun _ H => ?_)
          · exact k_via (t_W_records_J49 g  _ _ _  hr H) ⟨rfl, rfl, rfl, rfl, trivial⟩
          · refine s_bipush (-12) 1 8 rfl k_ib_m12 ?_
            exact s_iret 1 9 rfl rfl (hr _ _ (k_sat_some H))
      · refine s_const (-1) 0 11 rfl k_ic_m1 ?_
        exact s_iret 0 12 rfl rfl (hr _ _ (k_sat_some H))
set_option maxRecDepth 100000 in
theorem c_R_isShelf (g : k_G)  (p0 : Int32) {u : k_S} {QQ : Int32 → k_S → Prop} (H : k_sat (f_R_isShelf  p0 u) QQ) : k_OK g 2 MX12_isShelf [.int p0] u (k_qi QQ) := by
  have hr : ∀ (r : Int32) (u' : k_S), QQ (r) u' → (k_qi QQ) (some (.int r)) u' := fun r u' h => ⟨_, rfl, h⟩
  refine k_OK.ofW pfX12_isShelf (k_tab_of MX12_isShelf_dec) rfl ?_
  refine s_iloadn 0 0 rfl rfl ?_
  refine s_const 0 0 1 rfl k_ic_0 ?_
  refine s_const 5 0 2 rfl k_ic_5 ?_
  refine s_csi3 (M' := MX12_in) 0 3 rfl k_ml230 vvX12_in (Nat.le_of_ble_eq_true rfl) rfl (c_R_in g _ _ _ (k_sat_bind H)) (fun r2 u1 H => ?_)
  exact s_zret 0 4 rfl rfl (k_sat_zb H).1 (hr _ _ (k_sat_some (k_sat_zb H).2))
set_option maxRecDepth 100000 in
theorem t_R_records_B58 (g : k_G)  (v1 : Int32) (v2 : Int32) (v3 : Int32) (v4 : Int32)  {u : k_S} {QQ : ((Int32) ⊕ (Int32 ⊕ Unit)) → k_S → Prop} {Q : Option Value → k_S → Prop} (hr : ∀ (r : Int32) (u' : k_S), QQ (.inr (.inl r)) u' → (Q) (some (.int r)) u') (hb : ∀ (x : (Int32)) (u' : k_S), QQ (.inl x) u' → k_W g 3 MX12_records 58 [(0, .ref 42), (1, .int v1), (2, .int v2), (3, .int v3), (4, .int x)] [] u' Q) (he : ∀ (y : Unit) (u' : k_S), QQ (.inr (.inr y)) u' → k_W g 3 MX12_records 173 [(3, .int v3)] [] u' Q) (H : k_sat (f_R_records_B58  v1 v2 v3 v4 u) QQ) : k_W g 3 MX12_records 58 [(0, .ref 42), (1, .int v1), (2, .int v2), (3, .int v3), (4, .int v4)] [] u Q := by
  refine s_iload 2 2 rfl rfl ?_
  refine s_iloadn 2 3 rfl rfl ?_
  refine s_icmp_ge 2 4 173 rfl (by decide) H (fun _ H => ?_) (fun _ H => ?_)
  · exact k_via (he _ _ (k_sat_some H)) ⟨rfl, trivial⟩
  · refine s_iloadn 2 5 rfl rfl ?_
    refine s_i2l 2 6 rfl ?_
    refine s_const 2 2 7 rfl k_ic_2 ?_
    refine s_iload 2 8 rfl rfl ?_
    refine s_imul 2 9 rfl ?_
    refine s_i2l 2 10 rfl ?_
    refine s_ladd 2 11 rfl ?_
    refine k_topl H (fun t5 H => ?_)
    refine s_lstore 2 12 rfl rfl ?_
    refine s_lload 2 13 rfl rfl ?_
    refine s_lconst 0 2 14 rfl k_lc_0 ?_
    refine s_lcmp 2 15 rfl ?_
    refine s_if_lt 3 0 105 rfl (by decide) H (fun _ H => ?_) (fun _ H => ?_)
    · refine s_iload 3 15 rfl rfl ?_
      exact s_iret 4 0 rfl rfl (hr _ _ (k_sat_some H))
    · refine s_lload 3 1 rfl rfl ?_
      refine s_lconst 1 3 2 rfl k_lc_1 ?_
      refine s_ladd 3 3 rfl ?_
      refine s_aloadn 3 4 rfl rfl ?_
      refine s_getr 3 5 rfl k_fl118 rfl rfl rfl rfl ?_
      refine s_iloadn 3 6 rfl rfl ?_
      refine s_iald 3 7 rfl rfl H (fun _ H => ?_)
      refine s_i2l 3 8 rfl ?_
      refine s_lcmp 3 9 rfl ?_
      refine s_if_ge 3 10 105 rfl (by decide) H (fun _ H => ?_) (fun _ H => ?_)
      · refine s_iload 3 15 rfl rfl ?_
        exact s_iret 4 0 rfl rfl (hr _ _ (k_sat_some H))
      · refine s_aloadn 3 11 rfl rfl ?_
        refine s_geti 4235 3 12 rfl k_fl133 rfl rfl rfl rfl rfl ?_
        refine s_bipush 40 3 13 rfl k_ib_40 ?_
        refine s_icmp_ne 3 14 108 rfl (by decide) H (fun _ H => ?_) (fun _ H => ?_)
        · refine s_bipush 60 4 1 rfl k_ib_60 ?_
          refine s_iloadn 4 2 rfl rfl ?_
          refine s_imul 4 3 rfl ?_
          refine s_lload 4 4 rfl rfl ?_
          refine s_l2i 4 5 rfl ?_
          refine s_iadd 4 6 rfl ?_
          refine k_topi H (fun t6 H => ?_)
          refine s_istore 4 7 rfl rfl ?_
          refine s_aloadn 4 8 rfl rfl ?_
          refine s_getr 4 9 rfl k_fl119 rfl rfl rfl rfl ?_
          refine s_iload 4 10 rfl rfl ?_
          refine s_lald 4 11 rfl rfl H (fun _ H => ?_)
          refine s_l2i 4 12 rfl ?_
          refine s_aloadn 4 13 rfl rfl ?_
          refine s_getr 4 14 rfl k_fl119 rfl rfl rfl rfl ?_
          refine s_iload 4 15 rfl rfl ?_
          refine s_const 1 5 0 rfl k_ic_1 ?_
          refine s_iadd 5 1 rfl ?_
          refine s_lald 5 2 rfl rfl H (fun _ H => ?_)
          refine s_l2i 5 3 rfl ?_
          refine s_csi2 (M' := MX12_isRecord) 5 4 rfl k_ml261 vvX12_isRecord (Nat.le_of_ble_eq_true rfl) rfl (c_R_isRecord g _ _ (k_sat_bind H)) (fun r8 u7 H => ?_)
          refine s_if_ne 5 5 145 rfl (by decide) H (fun _ H => ?_) (fun _ H => ?_)
          · refine s_aloadn 5 8 rfl rfl ?_
            refine s_aloadn 5 9 rfl rfl ?_
            refine s_getr 5 10 rfl k_fl119 rfl rfl rfl rfl ?_
            refine s_iload 5 11 rfl rfl ?_
            refine s_lald 5 12 rfl rfl H (fun _ H => ?_)
            refine s_l2i 5 13 rfl ?_
            refine s_aloadn 5 14 rfl rfl ?_
            refine s_getr 5 15 rfl k_fl119 rfl rfl rfl rfl ?_
            refine s_iload 6 0 rfl rfl ?_
            refine s_const 1 6 1 rfl k_ic_1 ?_
            refine s_iadd 6 2 rfl ?_
            refine s_lald 6 3 rfl rfl H (fun _ H => ?_)
            refine s_l2i 6 4 rfl ?_
            refine s_cvv2 (M' := MX12_addRecord) 6 5 rfl k_ml262 vvX12_addRecord rfl rfl (Nat.le_of_ble_eq_true rfl) rfl (c_R_addRecord g _ _ (k_sat_bind H)) (fun _ u9 H => ?_)
            refine s_iinc 6 6 rfl rfl rfl ?_
            refine s_goto 6 7 58 rfl (by decide) ?_
            exact k_via (hb _ _ (k_sat_some H)) ⟨rfl, rfl, rfl, rfl, rfl, trivial⟩
          · refine s_iload 5 6 rfl rfl ?_
            exact s_iret 5 7 rfl rfl (hr _ _ (k_sat_some H))
        · refine s_iload 3 15 rfl rfl ?_
          exact s_iret 4 0 rfl rfl (hr _ _ (k_sat_some H))
set_option maxRecDepth 100000 in
theorem l_R_records_B58 (g : k_G)  (v1 : Int32) (v2 : Int32) (v3 : Int32) {Q : Option Value → k_S → Prop} {K : (Int32 ⊕ Unit) → k_S → Prop} (hr : ∀ (r : Int32) (u' : k_S), K (.inl r) u' → Q (some (.int r)) u') (he : ∀ (y : Unit) (u' : k_S), K (.inr y) u' → k_W g 3 MX12_records 173 [(3, .int v3)] [] u' Q) : ∀ (n : Nat) (x : (Int32)) (u : k_S), k_sat (k_itr (fun (x : (Int32)) u => f_R_records_B58  v1 v2 v3 x u) n x u) K → k_W g 3 MX12_records 58 [(0, .ref 42), (1, .int v1), (2, .int v2), (3, .int v3), (4, .int x)] [] u Q :=
  k_loop (P := fun (x : (Int32)) u => k_W g 3 MX12_records 58 [(0, .ref 42), (1, .int v1), (2, .int v2), (3, .int v3), (4, .int x)] [] u Q) (fun (x : (Int32)) u H => t_R_records_B58 g  v1 v2 v3 x  (fun r u' h => hr r u' h) (fun x u' h => h) (fun y u' h => he y u' h) H)
set_option maxRecDepth 100000 in
theorem t_R_records_J43 (g : k_G)  (v1 : Int32) (v2 : Int32) (v3 : Int32)  {u : k_S} {QQ : Int32 → k_S → Prop} {Q : Option Value → k_S → Prop} (hr : ∀ (r : Int32) (u' : k_S), QQ (r) u' → (Q) (some (.int r)) u') (H : k_sat (f_R_records_J43  v1 v2 v3 u) QQ) : k_W g 3 MX12_records 43 [(0, .ref 42), (1, .int v1), (2, .int v2), (3, .int v3)] [] u Q := by
  refine s_aloadn 1 8 rfl rfl ?_
  refine s_getr 1 9 rfl k_fl117 rfl rfl rfl rfl ?_
  refine s_iloadn 1 10 rfl rfl ?_
  refine s_iald 1 11 rfl rfl H (fun _ H => ?_)
  refine s_const (-1) 1 12 rfl k_ic_m1 ?_
  refine s_icmp_ne 1 13 55 rfl (by decide) H (fun _ H => ?_) (fun _ H => ?_)
  · refine s_const 0 2 0 rfl k_ic_0 ?_
    refine s_istore 2 1 rfl rfl ?_
    refine k_via (l_R_records_B58 g  v1 v2 v3 ?_ ?_ _ _ _ (k_sat_bind H)) ⟨rfl, rfl, rfl, rfl, rfl, trivial⟩
    · exact fun r u' h => hr r u' (k_sat_some h)
    · intro y11 u10 H
      replace H := k_sat_csr H
      refine s_iloadn 6 8 rfl rfl ?_
      exact s_iret 6 9 rfl rfl (hr _ _ (k_sat_some H))
  · refine s_const 0 1 14 rfl k_ic_0 ?_
    exact s_iret 1 15 rfl rfl (hr _ _ (k_sat_some H))
set_option maxRecDepth 100000 in
theorem c_R_records (g : k_G)  (p1 : Int32) (p2 : Int32) (p3 : Int32) {u : k_S} {QQ : Int32 → k_S → Prop} (H : k_sat (f_R_records  p1 p2 p3 u) QQ) : k_OK g 3 MX12_records [.ref 42, .int p1, .int p2, .int p3] u (k_qi QQ) := by
  have hr : ∀ (r : Int32) (u' : k_S), QQ (r) u' → (k_qi QQ) (some (.int r)) u' := fun r u' h => ⟨_, rfl, h⟩
  refine k_OK.ofW pfX12_records (k_tab_of MX12_records_dec) rfl ?_
  refine s_iloadn 0 0 rfl rfl ?_
  refine s_csi1 (M' := MX12_isShelf) 0 1 rfl k_ml263 vvX12_isShelf (Nat.le_of_ble_eq_true rfl) rfl (c_R_isShelf g _ (k_sat_bind H)) (fun r2 u1 H => ?_)
  refine s_if_eq 0 2 17 rfl (by decide) H (fun _ H => ?_) (fun _ H => ?_)
  · refine s_const (-1) 0 8 rfl k_ic_m1 ?_
    exact s_iret 0 9 rfl rfl (hr _ _ (k_sat_some H))
  · refine s_iloadn 0 3 rfl rfl ?_
    refine s_const 1 0 4 rfl k_ic_1 ?_
    refine s_bipush 30 0 5 rfl k_ib_30 ?_
    refine s_csi3 (M' := MX12_in) 0 6 rfl k_ml230 vvX12_in (Nat.le_of_ble_eq_true rfl) rfl (c_R_in g _ _ _ (k_sat_bind H)) (fun r4 u3 H => ?_)
    refine s_if_ne 0 7 19 rfl (by decide) H (fun _ H => ?_) (fun _ H => ?_)
    · refine s_aloadn 0 10 rfl rfl ?_
      refine s_getr 0 11 rfl k_fl117 rfl rfl rfl rfl ?_
      refine s_iloadn 0 12 rfl rfl ?_
      refine s_iald 0 13 rfl rfl H (fun _ H => ?_)
      refine s_const (-1) 0 14 rfl k_ic_m1 ?_
      refine s_icmp_eq 0 15 43 rfl (by decide) H (fun _ H => ?_) (fun _ H => ?_)
      · exact k_via (t_R_records_J43 g  _ _ _  hr H) ⟨rfl, rfl, rfl, rfl, trivial⟩
      · refine s_aloadn 1 0 rfl rfl ?_
        refine s_getr 1 1 rfl k_fl117 rfl rfl rfl rfl ?_
        refine s_iloadn 1 2 rfl rfl ?_
        refine s_iald 1 3 rfl rfl H (fun _ H => ?_)
        refine s_bipush (-3) 1 4 rfl k_ib_m3 ?_
        refine s_icmp_eq 1 5 43 rfl (by decide) H (fun _ H => ?_) (fun _ H => ?_)
        · exact k_via (t_R_records_J43 g  _ _ _  hr H) ⟨rfl, rfl, rfl, rfl, trivial⟩
        · refine s_bipush (-12) 1 6 rfl k_ib_m12 ?_
          exact s_iret 1 7 rfl rfl (hr _ _ (k_sat_some H))
    · refine s_const (-1) 0 8 rfl k_ic_m1 ?_
      exact s_iret 0 9 rfl rfl (hr _ _ (k_sat_some H))
set_option maxRecDepth 100000 in
theorem c_W_clear (g : k_G)   {u : k_S} {QQ : Int32 → k_S → Prop} (H : k_sat (f_W_clear   u) QQ) : k_OK g 1 MX11_clear [.ref 0] u (k_qi QQ) := by
  have hr : ∀ (r : Int32) (u' : k_S), QQ (r) u' → (k_qi QQ) (some (.int r)) u' := fun r u' h => ⟨_, rfl, h⟩
  refine k_OK.ofW pfX11_clear (k_tab_of MX11_clear_dec) rfl ?_
  refine s_aloadn 0 0 rfl rfl ?_
  refine s_getr 0 1 rfl k_fl4 rfl rfl rfl rfl ?_
  refine s_geti 2003 0 2 rfl k_fl18 rfl rfl rfl rfl rfl ?_
  refine k_topi H (fun t1 H => ?_)
  refine s_istoren 0 3 rfl rfl ?_
  refine s_aloadn 0 4 rfl rfl ?_
  refine s_getr 0 5 rfl k_fl4 rfl rfl rfl rfl ?_
  refine s_const 0 0 6 rfl k_ic_0 ?_
  refine s_puti 2003 0 7 rfl k_fl18 rfl rfl rfl rfl rfl rfl rfl rfl rfl H (fun u2 H => ?_)
  refine s_iloadn 0 8 rfl rfl ?_
  exact s_iret 0 9 rfl rfl (hr _ _ (k_sat_some H))
set_option maxRecDepth 100000 in
theorem c_R_clear (g : k_G)   {u : k_S} {QQ : Int32 → k_S → Prop} (H : k_sat (f_R_clear   u) QQ) : k_OK g 1 MX12_clear [.ref 42] u (k_qi QQ) := by
  have hr : ∀ (r : Int32) (u' : k_S), QQ (r) u' → (k_qi QQ) (some (.int r)) u' := fun r u' h => ⟨_, rfl, h⟩
  refine k_OK.ofW pfX12_clear (k_tab_of MX12_clear_dec) rfl ?_
  refine s_aloadn 0 0 rfl rfl ?_
  refine s_geti 4235 0 1 rfl k_fl133 rfl rfl rfl rfl rfl ?_
  refine k_topi H (fun t1 H => ?_)
  refine s_istoren 0 2 rfl rfl ?_
  refine s_aloadn 0 3 rfl rfl ?_
  refine s_const 0 0 4 rfl k_ic_0 ?_
  refine s_puti 4235 0 5 rfl k_fl133 rfl rfl rfl rfl rfl rfl rfl rfl rfl H (fun u2 H => ?_)
  refine s_iloadn 0 6 rfl rfl ?_
  exact s_iret 0 7 rfl rfl (hr _ _ (k_sat_some H))
set_option maxRecDepth 100000 in
theorem c_Records_inOrder (g : k_G)  (p1 : Int32) {u : k_S} {QQ : Int32 → k_S → Prop} (H : k_sat (f_Records_inOrder  p1 u) QQ) : k_OK g 1 MX7_inOrder [.ref 20, .int p1] u (k_qi QQ) := by
  have hr : ∀ (r : Int32) (u' : k_S), QQ (r) u' → (k_qi QQ) (some (.int r)) u' := fun r u' h => ⟨_, rfl, h⟩
  refine k_OK.ofW pfX7_inOrder (k_tab_of MX7_inOrder_dec) rfl ?_
  refine s_iloadn 0 0 rfl rfl ?_
  refine s_if_lt 0 1 22 rfl (by decide) H (fun _ H => ?_) (fun _ H => ?_)
  · refine s_const 0 0 12 rfl k_ic_0 ?_
    exact s_iret 0 13 rfl rfl (hr _ _ (k_sat_some H))
  · refine s_iloadn 0 2 rfl rfl ?_
    refine s_aloadn 0 3 rfl rfl ?_
    refine s_getr 0 4 rfl k_fl75 rfl rfl rfl rfl ?_
    refine s_alen 40 0 5 rfl rfl k_ln_40 ?_
    refine s_icmp_ge 0 6 22 rfl (by decide) H (fun _ H => ?_) (fun _ H => ?_)
    · refine s_const 0 0 12 rfl k_ic_0 ?_
      exact s_iret 0 13 rfl rfl (hr _ _ (k_sat_some H))
    · refine s_aloadn 0 7 rfl rfl ?_
      refine s_getr 0 8 rfl k_fl75 rfl rfl rfl rfl ?_
      refine s_iloadn 0 9 rfl rfl ?_
      refine s_iald 0 10 rfl rfl H (fun _ H => ?_)
      refine s_goto 0 11 23 rfl (by decide) ?_
      exact s_iret 0 13 rfl rfl (hr _ _ (k_sat_some H))
set_option maxRecDepth 100000 in
theorem c_Records_placeOf (g : k_G)  (p1 : Int32) {u : k_S} {QQ : Int32 → k_S → Prop} (H : k_sat (f_Records_placeOf  p1 u) QQ) : k_OK g 1 MX7_placeOf [.ref 20, .int p1] u (k_qi QQ) := by
  have hr : ∀ (r : Int32) (u' : k_S), QQ (r) u' → (k_qi QQ) (some (.int r)) u' := fun r u' h => ⟨_, rfl, h⟩
  refine k_OK.ofW pfX7_placeOf (k_tab_of MX7_placeOf_dec) rfl ?_
  refine s_iloadn 0 0 rfl rfl ?_
  refine s_if_lt 0 1 22 rfl (by decide) H (fun _ H => ?_) (fun _ H => ?_)
  · refine s_const 0 0 12 rfl k_ic_0 ?_
    exact s_iret 0 13 rfl rfl (hr _ _ (k_sat_some H))
  · refine s_iloadn 0 2 rfl rfl ?_
    refine s_aloadn 0 3 rfl rfl ?_
    refine s_getr 0 4 rfl k_fl74 rfl rfl rfl rfl ?_
    refine s_alen 40 0 5 rfl rfl k_ln_40 ?_
    refine s_icmp_ge 0 6 22 rfl (by decide) H (fun _ H => ?_) (fun _ H => ?_)
    · refine s_const 0 0 12 rfl k_ic_0 ?_
      exact s_iret 0 13 rfl rfl (hr _ _ (k_sat_some H))
    · refine s_aloadn 0 7 rfl rfl ?_
      refine s_getr 0 8 rfl k_fl74 rfl rfl rfl rfl ?_
      refine s_iloadn 0 9 rfl rfl ?_
      refine s_iald 0 10 rfl rfl H (fun _ H => ?_)
      refine s_goto 0 11 23 rfl (by decide) ?_
      exact s_iret 0 13 rfl rfl (hr _ _ (k_sat_some H))
set_option maxRecDepth 100000 in
theorem t_Judging_firstWrong_B21 (g : k_G)  (v1 : Int32) (v2 : Int32) (v4 : Int32)  {u : k_S} {QQ : ((Int32 × Int32) ⊕ (Int32 ⊕ (Int32))) → k_S → Prop} {Q : Option Value → k_S → Prop} (hr : ∀ (r : Int32) (u' : k_S), QQ (.inr (.inl r)) u' → (Q) (some (.int r)) u') (hb : ∀ (x : (Int32 × Int32)) (u' : k_S), QQ (.inl x) u' → k_W g 6 MX2_firstWrong 21 [(0, .ref 24), (1, .int v1), (2, .int x.1), (3, .ref 17), (4, .int x.2)] [] u' Q) (he : ∀ (y : (Int32)) (u' : k_S), QQ (.inr (.inr y)) u' → k_W g 6 MX2_firstWrong 131 [(2, .int y)] [] u' Q) (H : k_sat (f_Judging_firstWrong_B21  v1 v2 v4 u) QQ) : k_W g 6 MX2_firstWrong 21 [(0, .ref 24), (1, .int v1), (2, .int v2), (3, .ref 17), (4, .int v4)] [] u Q := by
  refine s_iload 0 11 rfl rfl ?_
  refine s_aloadn 0 12 rfl rfl ?_
  refine s_getr 0 13 rfl k_fl41 rfl rfl rfl rfl ?_
  refine s_geti 2003 0 14 rfl k_fl43 rfl rfl rfl rfl rfl ?_
  refine s_icmp_ge 0 15 131 rfl (by decide) H (fun _ H => ?_) (fun _ H => ?_)
  · exact k_via (he _ _ (k_sat_some H)) ⟨rfl, trivial⟩
  · refine s_aloadn 1 0 rfl rfl ?_
    refine s_getr 1 1 rfl k_fl41 rfl rfl rfl rfl ?_
    refine s_iload 1 2 rfl rfl ?_
    refine s_cvi1 (M' := MX7_inOrder) 1 3 rfl k_ml80 vvX7_inOrder rfl rfl (Nat.le_of_ble_eq_true rfl) rfl (c_Records_inOrder g _ (k_sat_bind H)) (fun r3 u2 H => ?_)
    refine s_istore 1 4 rfl rfl ?_
    refine s_aloadn 1 5 rfl rfl ?_
    refine s_getr 1 6 rfl k_fl41 rfl rfl rfl rfl ?_
    refine s_iload 1 7 rfl rfl ?_
    refine s_cvi1 (M' := MX7_nightOf) 1 8 rfl k_ml81 vvX7_nightOf rfl rfl (Nat.le_of_ble_eq_true rfl) rfl (c_Records_nightOf g _ (k_sat_bind H)) (fun r5 u4 H => ?_)
    refine s_istore 1 9 rfl rfl ?_
    refine s_iload 1 10 rfl rfl ?_
    refine s_aloadn 1 11 rfl rfl ?_
    refine s_geti 1702 1 12 rfl k_fl44 rfl rfl rfl rfl rfl ?_
    refine s_icmp_ge 1 13 67 rfl (by decide) H (fun _ H => ?_) (fun _ H => ?_)
    · refine s_aloadn 1 15 rfl rfl ?_
      refine s_getr 2 0 rfl k_fl40 rfl rfl rfl rfl ?_
      refine s_aloadn 2 1 rfl rfl ?_
      refine s_iload 2 2 rfl rfl ?_
      refine s_aloadn 2 3 rfl rfl ?_
      refine s_geti 1702 2 4 rfl k_fl44 rfl rfl rfl rfl rfl ?_
      refine s_isub 2 5 rfl ?_
      refine s_const 1 2 6 rfl k_ic_1 ?_
      refine s_cvv3 (M' := MX6_pass) 2 7 rfl k_ml82 vvX6_pass rfl rfl (Nat.le_of_ble_eq_true rfl) rfl (c_Nights_pass_Thought g _ _ (k_sat_bind H)) (fun _ u6 H => ?_)
      refine s_aloadn 2 8 rfl rfl ?_
      refine s_const 0 2 9 rfl k_ic_0 ?_
      refine s_cvi1 (M' := MX5_placeOf) 2 10 rfl k_ml83 vvX5_placeOf rfl rfl (Nat.le_of_ble_eq_true rfl) rfl (c_Thought_placeOf g _ (k_sat_bind H)) (fun r8 u7 H => ?_)
      refine s_aloadn 2 11 rfl rfl ?_
      refine s_getr 2 12 rfl k_fl41 rfl rfl rfl rfl ?_
      refine s_iload 2 13 rfl rfl ?_
      refine s_cvi1 (M' := MX7_placeOf) 2 14 rfl k_ml84 vvX7_placeOf rfl rfl (Nat.le_of_ble_eq_true rfl) rfl (c_Records_placeOf g _ (k_sat_bind H)) (fun r10 u9 H => ?_)
      refine s_icmp_ne 2 15 103 rfl (by decide) H (fun _ H => ?_) (fun _ H => ?_)
      · refine s_iloadn 3 1 rfl rfl ?_
        refine s_if_eq 3 2 110 rfl (by decide) H (fun _ H => ?_) (fun _ H => ?_)
        · refine s_iloadn 3 5 rfl rfl ?_
          refine s_bipush (-2) 3 6 rfl k_ib_m2 ?_
          refine s_icmp_eq 3 7 122 rfl (by decide) H (fun _ H => ?_) (fun _ H => ?_)
          · refine s_iload 3 11 rfl rfl ?_
            refine s_istoren 3 12 rfl rfl ?_
            refine s_iinc 3 13 rfl rfl rfl ?_
            refine s_goto 3 14 21 rfl (by decide) ?_
            exact k_via (hb _ _ (k_sat_some H)) ⟨rfl, rfl, rfl, rfl, rfl, trivial⟩
          · refine s_iload 3 8 rfl rfl ?_
            refine s_iloadn 3 9 rfl rfl ?_
            refine s_icmp_ge 3 10 125 rfl (by decide) H (fun _ H => ?_) (fun _ H => ?_)
            · refine s_iinc 3 13 rfl rfl rfl ?_
              refine s_goto 3 14 21 rfl (by decide) ?_
              exact k_via (hb _ _ (k_sat_some H)) ⟨rfl, rfl, rfl, rfl, rfl, trivial⟩
            · refine s_iload 3 11 rfl rfl ?_
              refine s_istoren 3 12 rfl rfl ?_
              refine s_iinc 3 13 rfl rfl rfl ?_
              refine s_goto 3 14 21 rfl (by decide) ?_
              exact k_via (hb _ _ (k_sat_some H)) ⟨rfl, rfl, rfl, rfl, rfl, trivial⟩
        · refine s_iload 3 3 rfl rfl ?_
          exact s_iret 3 4 rfl rfl (hr _ _ (k_sat_some H))
      · refine s_goto 3 0 125 rfl (by decide) ?_
        refine s_iinc 3 13 rfl rfl rfl ?_
        refine s_goto 3 14 21 rfl (by decide) ?_
        exact k_via (hb _ _ (k_sat_some H)) ⟨rfl, rfl, rfl, rfl, rfl, trivial⟩
    · refine s_goto 1 14 125 rfl (by decide) ?_
      refine s_iinc 3 13 rfl rfl rfl ?_
      refine s_goto 3 14 21 rfl (by decide) ?_
      exact k_via (hb _ _ (k_sat_some H)) ⟨rfl, rfl, rfl, rfl, rfl, trivial⟩
set_option maxRecDepth 100000 in
theorem l_Judging_firstWrong_B21 (g : k_G)  (v1 : Int32) {Q : Option Value → k_S → Prop} {K : (Int32 ⊕ (Int32)) → k_S → Prop} (hr : ∀ (r : Int32) (u' : k_S), K (.inl r) u' → Q (some (.int r)) u') (he : ∀ (y : (Int32)) (u' : k_S), K (.inr y) u' → k_W g 6 MX2_firstWrong 131 [(2, .int y)] [] u' Q) : ∀ (n : Nat) (x : (Int32 × Int32)) (u : k_S), k_sat (k_itr (fun (x : (Int32 × Int32)) u => f_Judging_firstWrong_B21  v1 x.1 x.2 u) n x u) K → k_W g 6 MX2_firstWrong 21 [(0, .ref 24), (1, .int v1), (2, .int x.1), (3, .ref 17), (4, .int x.2)] [] u Q :=
  k_loop (P := fun (x : (Int32 × Int32)) u => k_W g 6 MX2_firstWrong 21 [(0, .ref 24), (1, .int v1), (2, .int x.1), (3, .ref 17), (4, .int x.2)] [] u Q) (fun (x : (Int32 × Int32)) u H => t_Judging_firstWrong_B21 g  v1 x.1 x.2  (fun r u' h => hr r u' h) (fun x u' h => h) (fun y u' h => he y u' h) H)
set_option maxRecDepth 100000 in
theorem c_Judging_firstWrong (g : k_G)  (p1 : Int32) {u : k_S} {QQ : Int32 → k_S → Prop} (H : k_sat (f_Judging_firstWrong  p1 u) QQ) : k_OK g 6 MX2_firstWrong [.ref 24, .int p1] u (k_qi QQ) := by
  have hr : ∀ (r : Int32) (u' : k_S), QQ (r) u' → (k_qi QQ) (some (.int r)) u' := fun r u' h => ⟨_, rfl, h⟩
  refine k_OK.ofW pfX2_firstWrong (k_tab_of MX2_firstWrong_dec) rfl ?_
  refine s_bipush (-2) 0 0 rfl k_ib_m2 ?_
  refine s_istoren 0 1 rfl rfl ?_
  refine s_aloadn 0 2 rfl rfl ?_
  refine s_getr 0 3 rfl k_fl40 rfl rfl rfl rfl ?_
  refine s_getr 0 4 rfl k_fl42 rfl rfl rfl rfl ?_
  refine s_astoren 0 5 rfl rfl ?_
  refine s_aloadn 0 6 rfl rfl ?_
  refine s_getr 0 7 rfl k_fl40 rfl rfl rfl rfl ?_
  refine s_cvv0 (M' := MX6_think) 0 8 rfl k_ml79 vvX6_think rfl rfl (Nat.le_of_ble_eq_true rfl) rfl (c_Nights_think g (k_sat_bind H)) (fun _ u1 H => ?_)
  refine s_const 0 0 9 rfl k_ic_0 ?_
  refine s_istore 0 10 rfl rfl ?_
  refine k_via (l_Judging_firstWrong_B21 g  p1 ?_ ?_ _ _ _ (k_sat_bind H)) ⟨rfl, rfl, rfl, rfl, rfl, trivial⟩
  · exact fun r u' h => hr r u' (k_sat_some h)
  · intro y12 u11 H
    replace H := k_sat_csr H
    refine s_iloadn 3 15 rfl rfl ?_
    exact s_iret 4 0 rfl rfl (hr _ _ (k_sat_some H))
set_option maxRecDepth 100000 in
theorem c_W_judge (g : k_G)   {u : k_S} {QQ : Int32 → k_S → Prop} (H : k_sat (f_W_judge   u) QQ) : k_OK g 7 MX11_judge [.ref 0] u (k_qi QQ) := by
  have hr : ∀ (r : Int32) (u' : k_S), QQ (r) u' → (k_qi QQ) (some (.int r)) u' := fun r u' h => ⟨_, rfl, h⟩
  refine k_OK.ofW pfX11_judge (k_tab_of MX11_judge_dec) rfl ?_
  refine s_aloadn 0 0 rfl rfl ?_
  refine s_getr 0 1 rfl k_fl1 rfl rfl rfl rfl ?_
  refine s_geti 303 0 2 rfl k_fl12 rfl rfl rfl rfl rfl ?_
  refine s_if_ne 0 3 13 rfl (by decide) H (fun _ H => ?_) (fun _ H => ?_)
  · refine s_aloadn 0 6 rfl rfl ?_
    refine s_getr 0 7 rfl k_fl5 rfl rfl rfl rfl ?_
    refine s_const 0 0 8 rfl k_ic_0 ?_
    refine s_cvi1 (M' := MX2_firstWrong) 0 9 rfl k_ml44 vvX2_firstWrong rfl rfl (Nat.le_of_ble_eq_true rfl) rfl (c_Judging_firstWrong g _ (k_sat_bind H)) (fun r2 u1 H => ?_)
    exact s_iret 0 10 rfl rfl (hr _ _ (k_sat_some H))
  · refine s_bipush (-5) 0 4 rfl k_ib_m5 ?_
    exact s_iret 0 5 rfl rfl (hr _ _ (k_sat_some H))
set_option maxRecDepth 100000 in
theorem t_R_firstWrong_B9 (g : k_G)  (v1 : Int32) (v2 : Int32)  {u : k_S} {QQ : ((Int32 × Int32) ⊕ (Int32)) → k_S → Prop} {Q : Option Value → k_S → Prop} (hb : ∀ (x : (Int32 × Int32)) (u' : k_S), QQ (.inl x) u' → k_W g 7 MX12_firstWrong 9 [(0, .ref 42), (1, .int x.1), (2, .int x.2)] [] u' Q) (he : ∀ (y : (Int32)) (u' : k_S), QQ (.inr y) u' → k_W g 7 MX12_firstWrong 40 [(0, .ref 42), (1, .int y)] [] u' Q) (H : k_sat (f_R_firstWrong_B9  v1 v2 u) QQ) : k_W g 7 MX12_firstWrong 9 [(0, .ref 42), (1, .int v1), (2, .int v2)] [] u Q := by
  refine s_iloadn 0 7 rfl rfl ?_
  refine s_aloadn 0 8 rfl rfl ?_
  refine s_geti 4235 0 9 rfl k_fl133 rfl rfl rfl rfl rfl ?_
  refine s_icmp_ge 0 10 40 rfl (by decide) H (fun _ H => ?_) (fun _ H => ?_)
  · exact k_via (he _ _ (k_sat_some H)) ⟨rfl, rfl, trivial⟩
  · refine s_aloadn 0 11 rfl rfl ?_
    refine s_getr 0 12 rfl k_fl109 rfl rfl rfl rfl ?_
    refine s_iloadn 0 13 rfl rfl ?_
    refine s_iald 0 14 rfl rfl H (fun _ H => ?_)
    refine s_iloadn 0 15 rfl rfl ?_
    refine s_icmp_le 1 0 34 rfl (by decide) H (fun _ H => ?_) (fun _ H => ?_)
    · refine s_iinc 1 6 rfl rfl rfl ?_
      refine s_goto 1 7 9 rfl (by decide) ?_
      exact k_via (hb _ _ (k_sat_some H)) ⟨rfl, rfl, rfl, trivial⟩
    · refine s_aloadn 1 1 rfl rfl ?_
      refine s_getr 1 2 rfl k_fl109 rfl rfl rfl rfl ?_
      refine s_iloadn 1 3 rfl rfl ?_
      refine s_iald 1 4 rfl rfl H (fun _ H => ?_)
      refine k_topi H (fun t2 H => ?_)
      refine s_istoren 1 5 rfl rfl ?_
      refine s_iinc 1 6 rfl rfl rfl ?_
      refine s_goto 1 7 9 rfl (by decide) ?_
      exact k_via (hb _ _ (k_sat_some H)) ⟨rfl, rfl, rfl, trivial⟩
set_option maxRecDepth 100000 in
theorem l_R_firstWrong_B9 (g : k_G)   {Q : Option Value → k_S → Prop} {K : (Int32) → k_S → Prop} (he : ∀ (y : (Int32)) (u' : k_S), K (y) u' → k_W g 7 MX12_firstWrong 40 [(0, .ref 42), (1, .int y)] [] u' Q) : ∀ (n : Nat) (x : (Int32 × Int32)) (u : k_S), k_sat (k_itr (fun (x : (Int32 × Int32)) u => f_R_firstWrong_B9  x.1 x.2 u) n x u) K → k_W g 7 MX12_firstWrong 9 [(0, .ref 42), (1, .int x.1), (2, .int x.2)] [] u Q :=
  k_loop (P := fun (x : (Int32 × Int32)) u => k_W g 7 MX12_firstWrong 9 [(0, .ref 42), (1, .int x.1), (2, .int x.2)] [] u Q) (fun (x : (Int32 × Int32)) u H => t_R_firstWrong_B9 g  x.1 x.2  (fun x u' h => h) (fun y u' h => he y u' h) H)
set_option maxRecDepth 100000 in
theorem t_R_firstWrong_B57 (g : k_G)  (v1 : Int32) (v2 : Int32) (v3 : Int32)  {u : k_S} {QQ : ((Int32 × Int32) ⊕ (Int32)) → k_S → Prop} {Q : Option Value → k_S → Prop} (hb : ∀ (x : (Int32 × Int32)) (u' : k_S), QQ (.inl x) u' → k_W g 7 MX12_firstWrong 57 [(0, .ref 42), (1, .int v1), (2, .int x.1), (3, .int x.2)] [] u' Q) (he : ∀ (y : (Int32)) (u' : k_S), QQ (.inr y) u' → k_W g 7 MX12_firstWrong 110 [(0, .ref 42), (1, .int v1), (2, .int y)] [] u' Q) (H : k_sat (f_R_firstWrong_B57  v1 v2 v3 u) QQ) : k_W g 7 MX12_firstWrong 57 [(0, .ref 42), (1, .int v1), (2, .int v2), (3, .int v3)] [] u Q := by
  refine s_iloadn 2 2 rfl rfl ?_
  refine s_aloadn 2 3 rfl rfl ?_
  refine s_geti 4235 2 4 rfl k_fl133 rfl rfl rfl rfl rfl ?_
  refine s_icmp_ge 2 5 110 rfl (by decide) H (fun _ H => ?_) (fun _ H => ?_)
  · exact k_via (he _ _ (k_sat_some H)) ⟨rfl, rfl, rfl, trivial⟩
  · refine s_aloadn 2 6 rfl rfl ?_
    refine s_getr 2 7 rfl k_fl109 rfl rfl rfl rfl ?_
    refine s_iloadn 2 8 rfl rfl ?_
    refine s_iald 2 9 rfl rfl H (fun _ H => ?_)
    refine s_aloadn 2 10 rfl rfl ?_
    refine s_geti 4209 2 11 rfl k_fl128 rfl rfl rfl rfl rfl ?_
    refine s_icmp_ne 2 12 104 rfl (by decide) H (fun _ H => ?_) (fun _ H => ?_)
    · refine s_iinc 3 13 rfl rfl rfl ?_
      refine s_goto 3 14 57 rfl (by decide) ?_
      exact k_via (hb _ _ (k_sat_some H)) ⟨rfl, rfl, rfl, rfl, trivial⟩
    · refine s_aloadn 2 13 rfl rfl ?_
      refine s_getr 2 14 rfl k_fl110 rfl rfl rfl rfl ?_
      refine s_iloadn 2 15 rfl rfl ?_
      refine s_iald 3 0 rfl rfl H (fun _ H => ?_)
      refine s_aloadn 3 1 rfl rfl ?_
      refine s_getr 3 2 rfl k_fl90 rfl rfl rfl rfl ?_
      refine s_const 0 3 3 rfl k_ic_0 ?_
      refine s_iald 3 4 rfl rfl H (fun _ H => ?_)
      refine s_icmp_eq 3 5 104 rfl (by decide) H (fun _ H => ?_) (fun _ H => ?_)
      · refine s_iinc 3 13 rfl rfl rfl ?_
        refine s_goto 3 14 57 rfl (by decide) ?_
        exact k_via (hb _ _ (k_sat_some H)) ⟨rfl, rfl, rfl, rfl, trivial⟩
      · refine s_iloadn 3 6 rfl rfl ?_
        refine s_if_lt 3 7 102 rfl (by decide) H (fun _ H => ?_) (fun _ H => ?_)
        · refine s_iloadn 3 11 rfl rfl ?_
          refine s_istoren 3 12 rfl rfl ?_
          refine s_iinc 3 13 rfl rfl rfl ?_
          refine s_goto 3 14 57 rfl (by decide) ?_
          exact k_via (hb _ _ (k_sat_some H)) ⟨rfl, rfl, rfl, rfl, trivial⟩
        · refine s_iloadn 3 8 rfl rfl ?_
          refine s_iloadn 3 9 rfl rfl ?_
          refine s_icmp_ge 3 10 104 rfl (by decide) H (fun _ H => ?_) (fun _ H => ?_)
          · refine s_iinc 3 13 rfl rfl rfl ?_
            refine s_goto 3 14 57 rfl (by decide) ?_
            exact k_via (hb _ _ (k_sat_some H)) ⟨rfl, rfl, rfl, rfl, trivial⟩
          · refine s_iloadn 3 11 rfl rfl ?_
            refine s_istoren 3 12 rfl rfl ?_
            refine s_iinc 3 13 rfl rfl rfl ?_
            refine s_goto 3 14 57 rfl (by decide) ?_
            exact k_via (hb _ _ (k_sat_some H)) ⟨rfl, rfl, rfl, rfl, trivial⟩
set_option maxRecDepth 100000 in
theorem l_R_firstWrong_B57 (g : k_G)  (v1 : Int32) {Q : Option Value → k_S → Prop} {K : (Int32) → k_S → Prop} (he : ∀ (y : (Int32)) (u' : k_S), K (y) u' → k_W g 7 MX12_firstWrong 110 [(0, .ref 42), (1, .int v1), (2, .int y)] [] u' Q) : ∀ (n : Nat) (x : (Int32 × Int32)) (u : k_S), k_sat (k_itr (fun (x : (Int32 × Int32)) u => f_R_firstWrong_B57  v1 x.1 x.2 u) n x u) K → k_W g 7 MX12_firstWrong 57 [(0, .ref 42), (1, .int v1), (2, .int x.1), (3, .int x.2)] [] u Q :=
  k_loop (P := fun (x : (Int32 × Int32)) u => k_W g 7 MX12_firstWrong 57 [(0, .ref 42), (1, .int v1), (2, .int x.1), (3, .int x.2)] [] u Q) (fun (x : (Int32 × Int32)) u H => t_R_firstWrong_B57 g  v1 x.1 x.2  (fun x u' h => h) (fun y u' h => he y u' h) H)
set_option maxRecDepth 100000 in
theorem t_R_firstWrong_B47 (g : k_G)  (v1 : Int32) (v2 : Int32)  {u : k_S} {QQ : ((Int32) ⊕ (Int32)) → k_S → Prop} {Q : Option Value → k_S → Prop} (hb : ∀ (x : (Int32)) (u' : k_S), QQ (.inl x) u' → k_W g 7 MX12_firstWrong 47 [(0, .ref 42), (1, .int v1), (2, .int x)] [] u' Q) (he : ∀ (y : (Int32)) (u' : k_S), QQ (.inr y) u' → k_W g 7 MX12_firstWrong 117 [(0, .ref 42), (2, .int y)] [] u' Q) (H : k_sat (f_R_firstWrong_B47  v1 v2 u) QQ) : k_W g 7 MX12_firstWrong 47 [(0, .ref 42), (1, .int v1), (2, .int v2)] [] u Q := by
  refine s_aloadn 1 12 rfl rfl ?_
  refine s_geti 4209 1 13 rfl k_fl128 rfl rfl rfl rfl rfl ?_
  refine s_iloadn 1 14 rfl rfl ?_
  refine s_icmp_gt 1 15 117 rfl (by decide) H (fun _ H => ?_) (fun _ H => ?_)
  · exact k_via (he _ _ (k_sat_some H)) ⟨rfl, rfl, trivial⟩
  · refine s_const 0 2 0 rfl k_ic_0 ?_
    refine s_istoren 2 1 rfl rfl ?_
    refine k_via (l_R_firstWrong_B57 g  v1 ?_ _ _ _ (k_sat_bind H)) ⟨rfl, rfl, rfl, rfl, trivial⟩
    · intro y7 u6 H
      refine s_aloadn 3 15 rfl rfl ?_
      refine s_cvv0 (M' := MX12_goOn) 4 0 rfl k_ml255 vvX12_goOn rfl rfl (Nat.le_of_ble_eq_true rfl) rfl (c_R_goOn g (k_sat_bind H)) (fun _ u8 H => ?_)
      refine s_goto 4 1 47 rfl (by decide) ?_
      exact k_via (hb _ _ (k_sat_some H)) ⟨rfl, rfl, rfl, trivial⟩
set_option maxRecDepth 100000 in
theorem l_R_firstWrong_B47 (g : k_G)  (v1 : Int32) {Q : Option Value → k_S → Prop} {K : (Int32) → k_S → Prop} (he : ∀ (y : (Int32)) (u' : k_S), K (y) u' → k_W g 7 MX12_firstWrong 117 [(0, .ref 42), (2, .int y)] [] u' Q) : ∀ (n : Nat) (x : (Int32)) (u : k_S), k_sat (k_itr (fun (x : (Int32)) u => f_R_firstWrong_B47  v1 x u) n x u) K → k_W g 7 MX12_firstWrong 47 [(0, .ref 42), (1, .int v1), (2, .int x)] [] u Q :=
  k_loop (P := fun (x : (Int32)) u => k_W g 7 MX12_firstWrong 47 [(0, .ref 42), (1, .int v1), (2, .int x)] [] u Q) (fun (x : (Int32)) u H => t_R_firstWrong_B47 g  v1 x  (fun x u' h => h) (fun y u' h => he y u' h) H)
set_option maxRecDepth 100000 in
theorem c_R_firstWrong (g : k_G)   {u : k_S} {QQ : Int32 → k_S → Prop} (H : k_sat (f_R_firstWrong   u) QQ) : k_OK g 7 MX12_firstWrong [.ref 42] u (k_qi QQ) := by
  have hr : ∀ (r : Int32) (u' : k_S), QQ (r) u' → (k_qi QQ) (some (.int r)) u' := fun r u' h => ⟨_, rfl, h⟩
  refine k_OK.ofW pfX12_firstWrong (k_tab_of MX12_firstWrong_dec) rfl ?_
  refine s_aloadn 0 0 rfl rfl ?_
  refine s_geti 4209 0 1 rfl k_fl128 rfl rfl rfl rfl rfl ?_
  refine s_const 1 0 2 rfl k_ic_1 ?_
  refine s_isub 0 3 rfl ?_
  refine k_topi H (fun t1 H => ?_)
  refine s_istoren 0 4 rfl rfl ?_
  refine s_const 0 0 5 rfl k_ic_0 ?_
  refine s_istoren 0 6 rfl rfl ?_
  refine k_via (l_R_firstWrong_B9 g   ?_ _ _ _ (k_sat_bind H)) ⟨rfl, rfl, rfl, trivial⟩
  · intro y4 u3 H
    refine s_aloadn 1 8 rfl rfl ?_
    refine s_cvv0 (M' := MX12_keepNow) 1 9 rfl k_ml256 vvX12_keepNow rfl rfl (Nat.le_of_ble_eq_true rfl) rfl (c_R_keepNow g (k_sat_bind H)) (fun _ u5 H => ?_)
    refine s_bipush (-2) 1 10 rfl k_ib_m2 ?_
    refine s_istoren 1 11 rfl rfl ?_
    refine k_via (l_R_firstWrong_B47 g  y4 ?_ _ _ _ (k_sat_bind H)) ⟨rfl, rfl, rfl, trivial⟩
    · intro y10 u9 H
      refine s_aloadn 4 2 rfl rfl ?_
      refine s_cvv0 (M' := MX12_layBack) 4 3 rfl k_ml257 vvX12_layBack rfl rfl (Nat.le_of_ble_eq_true rfl) rfl (c_R_layBack g (k_sat_bind H)) (fun _ u11 H => ?_)
      refine s_iloadn 4 4 rfl rfl ?_
      exact s_iret 4 5 rfl rfl (hr _ _ (k_sat_some H))
set_option maxRecDepth 100000 in
theorem c_R_judge (g : k_G)   {u : k_S} {QQ : Int32 → k_S → Prop} (H : k_sat (f_R_judge   u) QQ) : k_OK g 8 MX12_judge [.ref 42] u (k_qi QQ) := by
  have hr : ∀ (r : Int32) (u' : k_S), QQ (r) u' → (k_qi QQ) (some (.int r)) u' := fun r u' h => ⟨_, rfl, h⟩
  refine k_OK.ofW pfX12_judge (k_tab_of MX12_judge_dec) rfl ?_
  refine s_aloadn 0 0 rfl rfl ?_
  refine s_geti 4203 0 1 rfl k_fl122 rfl rfl rfl rfl rfl ?_
  refine s_if_ne 0 2 12 rfl (by decide) H (fun _ H => ?_) (fun _ H => ?_)
  · refine s_aloadn 0 5 rfl rfl ?_
    refine s_cvi0 (M' := MX12_firstWrong) 0 6 rfl k_ml264 vvX12_firstWrong rfl rfl (Nat.le_of_ble_eq_true rfl) rfl (c_R_firstWrong g (k_sat_bind H)) (fun r2 u1 H => ?_)
    exact s_iret 0 7 rfl rfl (hr _ _ (k_sat_some H))
  · refine s_bipush (-5) 0 3 rfl k_ib_m5 ?_
    refine s_goto 0 4 16 rfl (by decide) ?_
    exact s_iret 0 7 rfl rfl (hr _ _ (k_sat_some H))
set_option maxRecDepth 100000 in
theorem t_Judging_fitting_B15 (g : k_G)  (v1 : Int32) (v2 : Int32) (v3 : Int32) (v4 : Int32)  {u : k_S} {QQ : ((Int32 × Int32) ⊕ (Int32)) → k_S → Prop} {Q : Option Value → k_S → Prop} (hb : ∀ (x : (Int32 × Int32)) (u' : k_S), QQ (.inl x) u' → k_W g 7 MX2_fitting 15 [(0, .ref 24), (1, .int v1), (2, .int x.1), (3, .int v3), (4, .int x.2)] [] u' Q) (he : ∀ (y : (Int32)) (u' : k_S), QQ (.inr y) u' → k_W g 7 MX2_fitting 62 [(0, .ref 24), (1, .int v1), (2, .int y), (3, .int v3)] [] u' Q) (H : k_sat (f_Judging_fitting_B15  v1 v2 v3 v4 u) QQ) : k_W g 7 MX2_fitting 15 [(0, .ref 24), (1, .int v1), (2, .int v2), (3, .int v3), (4, .int v4)] [] u Q := by
  refine s_iload 0 10 rfl rfl ?_
  refine s_gets 0 11 1 rfl rfl (k_in (lw_T3 (List.mem_of_getElem? (i := 2) (by decide +kernel))) rfl) ?_
  refine s_olen 4 0 12 rfl rfl k_ln_4 ?_
  refine s_icmp_ge 0 13 62 rfl (by decide) H (fun _ H => ?_) (fun _ H => ?_)
  · exact k_via (he _ _ (k_sat_some H)) ⟨rfl, rfl, rfl, rfl, trivial⟩
  · refine s_aloadn 0 14 rfl rfl ?_
    refine s_getr 0 15 rfl k_fl39 rfl rfl rfl rfl ?_
    refine s_const 0 1 0 rfl k_ic_0 ?_
    refine s_iloadn 1 1 rfl rfl ?_
    refine s_gets 1 2 1 rfl rfl (k_in (lw_T3 (List.mem_of_getElem? (i := 2) (by decide +kernel))) rfl) ?_
    refine s_iload 1 3 rfl rfl ?_
    refine s_oald 1 4 rfl rfl H (fun _ H => ?_)
    refine s_cvv3 (M' := MX10_setLetter) 1 5 rfl k_ml86 vvX10_setLetter rfl rfl (Nat.le_of_ble_eq_true rfl) rfl (c_Wheels_setLetter g _ _ _ (k_sat_bind H)) (fun _ u3 H => ?_)
    refine s_aloadn 1 6 rfl rfl ?_
    refine s_const 1 1 7 rfl k_ic_1 ?_
    refine s_cvi1 (M' := MX2_firstWrong) 1 8 rfl k_ml87 vvX2_firstWrong rfl rfl (Nat.le_of_ble_eq_true rfl) rfl (c_Judging_firstWrong g _ (k_sat_bind H)) (fun r5 u4 H => ?_)
    refine s_bipush (-2) 1 9 rfl k_ib_m2 ?_
    refine s_icmp_ne 1 10 56 rfl (by decide) H (fun _ H => ?_) (fun _ H => ?_)
    · refine s_iinc 2 1 rfl rfl rfl ?_
      refine s_goto 2 2 15 rfl (by decide) ?_
      exact k_via (hb _ _ (k_sat_some H)) ⟨rfl, rfl, rfl, rfl, rfl, trivial⟩
    · refine s_iloadn 1 11 rfl rfl ?_
      refine s_const 1 1 12 rfl k_ic_1 ?_
      refine s_iload 1 13 rfl rfl ?_
      refine s_ishl 1 14 rfl ?_
      refine s_ior 1 15 rfl ?_
      refine k_topi H (fun t6 H => ?_)
      refine s_istoren 2 0 rfl rfl ?_
      refine s_iinc 2 1 rfl rfl rfl ?_
      refine s_goto 2 2 15 rfl (by decide) ?_
      exact k_via (hb _ _ (k_sat_some H)) ⟨rfl, rfl, rfl, rfl, rfl, trivial⟩
set_option maxRecDepth 100000 in
theorem l_Judging_fitting_B15 (g : k_G)  (v1 : Int32) (v3 : Int32) {Q : Option Value → k_S → Prop} {K : (Int32) → k_S → Prop} (he : ∀ (y : (Int32)) (u' : k_S), K (y) u' → k_W g 7 MX2_fitting 62 [(0, .ref 24), (1, .int v1), (2, .int y), (3, .int v3)] [] u' Q) : ∀ (n : Nat) (x : (Int32 × Int32)) (u : k_S), k_sat (k_itr (fun (x : (Int32 × Int32)) u => f_Judging_fitting_B15  v1 x.1 v3 x.2 u) n x u) K → k_W g 7 MX2_fitting 15 [(0, .ref 24), (1, .int v1), (2, .int x.1), (3, .int v3), (4, .int x.2)] [] u Q :=
  k_loop (P := fun (x : (Int32 × Int32)) u => k_W g 7 MX2_fitting 15 [(0, .ref 24), (1, .int v1), (2, .int x.1), (3, .int v3), (4, .int x.2)] [] u Q) (fun (x : (Int32 × Int32)) u H => t_Judging_fitting_B15 g  v1 x.1 v3 x.2  (fun x u' h => h) (fun y u' h => he y u' h) H)
set_option maxRecDepth 100000 in
theorem c_Judging_fitting (g : k_G)  (p1 : Int32) {u : k_S} {QQ : Int32 → k_S → Prop} (H : k_sat (f_Judging_fitting  p1 u) QQ) : k_OK g 7 MX2_fitting [.ref 24, .int p1] u (k_qi QQ) := by
  have hr : ∀ (r : Int32) (u' : k_S), QQ (r) u' → (k_qi QQ) (some (.int r)) u' := fun r u' h => ⟨_, rfl, h⟩
  refine k_OK.ofW pfX2_fitting (k_tab_of MX2_fitting_dec) rfl ?_
  refine s_const 0 0 0 rfl k_ic_0 ?_
  refine s_istoren 0 1 rfl rfl ?_
  refine s_aloadn 0 2 rfl rfl ?_
  refine s_getr 0 3 rfl k_fl39 rfl rfl rfl rfl ?_
  refine s_const 0 0 4 rfl k_ic_0 ?_
  refine s_iloadn 0 5 rfl rfl ?_
  refine s_cvi2 (M' := MX10_letterAt) 0 6 rfl k_ml85 vvX10_letterAt rfl rfl (Nat.le_of_ble_eq_true rfl) rfl (c_Wheels_letterAt g _ _ (k_sat_bind H)) (fun r2 u1 H => ?_)
  refine s_istoren 0 7 rfl rfl ?_
  refine s_const 0 0 8 rfl k_ic_0 ?_
  refine s_istore 0 9 rfl rfl ?_
  refine k_via (l_Judging_fitting_B15 g  p1 r2 ?_ _ _ _ (k_sat_bind H)) ⟨rfl, rfl, rfl, rfl, rfl, trivial⟩
  · intro y8 u7 H
    refine s_aloadn 2 3 rfl rfl ?_
    refine s_getr 2 4 rfl k_fl39 rfl rfl rfl rfl ?_
    refine s_const 0 2 5 rfl k_ic_0 ?_
    refine s_iloadn 2 6 rfl rfl ?_
    refine s_iloadn 2 7 rfl rfl ?_
    refine s_cvv3 (M' := MX10_setLetter) 2 8 rfl k_ml86 vvX10_setLetter rfl rfl (Nat.le_of_ble_eq_true rfl) rfl (c_Wheels_setLetter g _ _ _ (k_sat_bind H)) (fun _ u9 H => ?_)
    refine s_iloadn 2 9 rfl rfl ?_
    exact s_iret 2 10 rfl rfl (hr _ _ (k_sat_some H))
set_option maxRecDepth 100000 in
theorem c_W_fits (g : k_G)  (p1 : Int32) {u : k_S} {QQ : Int32 → k_S → Prop} (H : k_sat (f_W_fits  p1 u) QQ) : k_OK g 8 MX11_fits [.ref 0, .int p1] u (k_qi QQ) := by
  have hr : ∀ (r : Int32) (u' : k_S), QQ (r) u' → (k_qi QQ) (some (.int r)) u' := fun r u' h => ⟨_, rfl, h⟩
  refine k_OK.ofW pfX11_fits (k_tab_of MX11_fits_dec) rfl ?_
  refine s_aloadn 0 0 rfl rfl ?_
  refine s_getr 0 1 rfl k_fl1 rfl rfl rfl rfl ?_
  refine s_const 0 0 2 rfl k_ic_0 ?_
  refine s_iloadn 0 3 rfl rfl ?_
  refine s_cvi2 (M' := MX10_hasPlace) 0 4 rfl k_ml18 vvX10_hasPlace rfl rfl (Nat.le_of_ble_eq_true rfl) rfl (c_Wheels_hasPlace g _ _ (k_sat_bind H)) (fun r2 u1 H => ?_)
  refine s_if_ne 0 5 14 rfl (by decide) H (fun _ H => ?_) (fun _ H => ?_)
  · refine s_aloadn 0 8 rfl rfl ?_
    refine s_getr 0 9 rfl k_fl5 rfl rfl rfl rfl ?_
    refine s_iloadn 0 10 rfl rfl ?_
    refine s_cvi1 (M' := MX2_fitting) 0 11 rfl k_ml45 vvX2_fitting rfl rfl (Nat.le_of_ble_eq_true rfl) rfl (c_Judging_fitting g _ (k_sat_bind H)) (fun r4 u3 H => ?_)
    exact s_iret 0 12 rfl rfl (hr _ _ (k_sat_some H))
  · refine s_const (-1) 0 6 rfl k_ic_m1 ?_
    exact s_iret 0 7 rfl rfl (hr _ _ (k_sat_some H))
set_option maxRecDepth 100000 in
theorem t_R_fitting_B12 (g : k_G)  (v1 : Int32) (v2 : Int32) (v3 : Int32) (v4 : Int32)  {u : k_S} {QQ : ((Int32 × Int32) ⊕ (Int32)) → k_S → Prop} {Q : Option Value → k_S → Prop} (hb : ∀ (x : (Int32 × Int32)) (u' : k_S), QQ (.inl x) u' → k_W g 8 MX12_fitting 12 [(0, .ref 42), (1, .int v1), (2, .int v2), (3, .int x.1), (4, .int x.2)] [] u' Q) (he : ∀ (y : (Int32)) (u' : k_S), QQ (.inr y) u' → k_W g 8 MX12_fitting 51 [(0, .ref 42), (1, .int v1), (2, .int v2), (3, .int y)] [] u' Q) (H : k_sat (f_R_fitting_B12  v1 v2 v3 v4 u) QQ) : k_W g 8 MX12_fitting 12 [(0, .ref 42), (1, .int v1), (2, .int v2), (3, .int v3), (4, .int v4)] [] u Q := by
  refine s_iload 0 9 rfl rfl ?_
  refine s_const 4 0 10 rfl k_ic_4 ?_
  refine s_icmp_ge 0 11 51 rfl (by decide) H (fun _ H => ?_) (fun _ H => ?_)
  · exact k_via (he _ _ (k_sat_some H)) ⟨rfl, rfl, rfl, rfl, trivial⟩
  · refine s_aloadn 0 12 rfl rfl ?_
    refine s_getr 0 13 rfl k_fl88 rfl rfl rfl rfl ?_
    refine s_iloadn 0 14 rfl rfl ?_
    refine s_aloadn 0 15 rfl rfl ?_
    refine s_getr 1 0 rfl k_fl111 rfl rfl rfl rfl ?_
    refine s_iload 1 1 rfl rfl ?_
    refine s_iald 1 2 rfl rfl H (fun _ H => ?_)
    refine s_iast 1 3 rfl rfl H (fun u2 H => ?_)
    refine s_aloadn 1 4 rfl rfl ?_
    refine s_cvi0 (M' := MX12_firstWrong) 1 5 rfl k_ml264 vvX12_firstWrong rfl rfl (Nat.le_of_ble_eq_true rfl) rfl (c_R_firstWrong g (k_sat_bind H)) (fun r4 u3 H => ?_)
    refine s_if_ge 1 6 45 rfl (by decide) H (fun _ H => ?_) (fun _ H => ?_)
    · refine s_iinc 1 13 rfl rfl rfl ?_
      refine s_goto 1 14 12 rfl (by decide) ?_
      exact k_via (hb _ _ (k_sat_some H)) ⟨rfl, rfl, rfl, rfl, rfl, trivial⟩
    · refine s_iloadn 1 7 rfl rfl ?_
      refine s_const 1 1 8 rfl k_ic_1 ?_
      refine s_iload 1 9 rfl rfl ?_
      refine s_ishl 1 10 rfl ?_
      refine s_ior 1 11 rfl ?_
      refine k_topi H (fun t5 H => ?_)
      refine s_istoren 1 12 rfl rfl ?_
      refine s_iinc 1 13 rfl rfl rfl ?_
      refine s_goto 1 14 12 rfl (by decide) ?_
      exact k_via (hb _ _ (k_sat_some H)) ⟨rfl, rfl, rfl, rfl, rfl, trivial⟩
set_option maxRecDepth 100000 in
theorem l_R_fitting_B12 (g : k_G)  (v1 : Int32) (v2 : Int32) {Q : Option Value → k_S → Prop} {K : (Int32) → k_S → Prop} (he : ∀ (y : (Int32)) (u' : k_S), K (y) u' → k_W g 8 MX12_fitting 51 [(0, .ref 42), (1, .int v1), (2, .int v2), (3, .int y)] [] u' Q) : ∀ (n : Nat) (x : (Int32 × Int32)) (u : k_S), k_sat (k_itr (fun (x : (Int32 × Int32)) u => f_R_fitting_B12  v1 v2 x.1 x.2 u) n x u) K → k_W g 8 MX12_fitting 12 [(0, .ref 42), (1, .int v1), (2, .int v2), (3, .int x.1), (4, .int x.2)] [] u Q :=
  k_loop (P := fun (x : (Int32 × Int32)) u => k_W g 8 MX12_fitting 12 [(0, .ref 42), (1, .int v1), (2, .int v2), (3, .int x.1), (4, .int x.2)] [] u Q) (fun (x : (Int32 × Int32)) u H => t_R_fitting_B12 g  v1 v2 x.1 x.2  (fun x u' h => h) (fun y u' h => he y u' h) H)
set_option maxRecDepth 100000 in
theorem c_R_fitting (g : k_G)  (p1 : Int32) {u : k_S} {QQ : Int32 → k_S → Prop} (H : k_sat (f_R_fitting  p1 u) QQ) : k_OK g 8 MX12_fitting [.ref 42, .int p1] u (k_qi QQ) := by
  have hr : ∀ (r : Int32) (u' : k_S), QQ (r) u' → (k_qi QQ) (some (.int r)) u' := fun r u' h => ⟨_, rfl, h⟩
  refine k_OK.ofW pfX12_fitting (k_tab_of MX12_fitting_dec) rfl ?_
  refine s_aloadn 0 0 rfl rfl ?_
  refine s_getr 0 1 rfl k_fl88 rfl rfl rfl rfl ?_
  refine s_iloadn 0 2 rfl rfl ?_
  refine s_iald 0 3 rfl rfl H (fun _ H => ?_)
  refine k_topi H (fun t1 H => ?_)
  refine s_istoren 0 4 rfl rfl ?_
  refine s_const 0 0 5 rfl k_ic_0 ?_
  refine s_istoren 0 6 rfl rfl ?_
  refine s_const 0 0 7 rfl k_ic_0 ?_
  refine s_istore 0 8 rfl rfl ?_
  refine k_via (l_R_fitting_B12 g  p1 t1 ?_ _ _ _ (k_sat_bind H)) ⟨rfl, rfl, rfl, rfl, rfl, trivial⟩
  · intro y7 u6 H
    refine s_aloadn 1 15 rfl rfl ?_
    refine s_getr 2 0 rfl k_fl88 rfl rfl rfl rfl ?_
    refine s_iloadn 2 1 rfl rfl ?_
    refine s_iloadn 2 2 rfl rfl ?_
    refine s_iast 2 3 rfl rfl H (fun u8 H => ?_)
    refine s_iloadn 2 4 rfl rfl ?_
    exact s_iret 2 5 rfl rfl (hr _ _ (k_sat_some H))
set_option maxRecDepth 100000 in
theorem c_R_fits (g : k_G)  (p1 : Int32) {u : k_S} {QQ : Int32 → k_S → Prop} (H : k_sat (f_R_fits  p1 u) QQ) : k_OK g 9 MX12_fits [.ref 42, .int p1] u (k_qi QQ) := by
  have hr : ∀ (r : Int32) (u' : k_S), QQ (r) u' → (k_qi QQ) (some (.int r)) u' := fun r u' h => ⟨_, rfl, h⟩
  refine k_OK.ofW pfX12_fits (k_tab_of MX12_fits_dec) rfl ?_
  refine s_aloadn 0 0 rfl rfl ?_
  refine s_geti 4203 0 1 rfl k_fl122 rfl rfl rfl rfl rfl ?_
  refine s_if_le 0 2 31 rfl (by decide) H (fun _ H => ?_) (fun _ H => ?_)
  · refine s_const (-1) 1 1 rfl k_ic_m1 ?_
    exact s_iret 1 2 rfl rfl (hr _ _ (k_sat_some H))
  · refine s_iloadn 0 3 rfl rfl ?_
    refine s_const 0 0 4 rfl k_ic_0 ?_
    refine s_aloadn 0 5 rfl rfl ?_
    refine s_getr 0 6 rfl k_fl89 rfl rfl rfl rfl ?_
    refine s_const 0 0 7 rfl k_ic_0 ?_
    refine s_iald 0 8 rfl rfl H (fun _ H => ?_)
    refine s_const 1 0 9 rfl k_ic_1 ?_
    refine s_isub 0 10 rfl ?_
    refine s_csi3 (M' := MX12_in) 0 11 rfl k_ml230 vvX12_in (Nat.le_of_ble_eq_true rfl) rfl (c_R_in g _ _ _ (k_sat_bind H)) (fun r2 u1 H => ?_)
    refine s_if_eq 0 12 31 rfl (by decide) H (fun _ H => ?_) (fun _ H => ?_)
    · refine s_const (-1) 1 1 rfl k_ic_m1 ?_
      exact s_iret 1 2 rfl rfl (hr _ _ (k_sat_some H))
    · refine s_aloadn 0 13 rfl rfl ?_
      refine s_iloadn 0 14 rfl rfl ?_
      refine s_cvi1 (M' := MX12_fitting) 0 15 rfl k_ml265 vvX12_fitting rfl rfl (Nat.le_of_ble_eq_true rfl) rfl (c_R_fitting g _ (k_sat_bind H)) (fun r4 u3 H => ?_)
      refine s_goto 1 0 32 rfl (by decide) ?_
      exact s_iret 1 2 rfl rfl (hr _ _ (k_sat_some H))
set_option maxRecDepth 100000 in
theorem c_J_bitCount (g : k_G)  (p0 : Int32) {u : k_S} {QQ : Int32 → k_S → Prop} (H : k_sat (f_J_bitCount  p0 u) QQ) : k_OK g 1 MJ6_bitCount_0f7a4 [.int p0] u (k_qi QQ) := by
  have hr : ∀ (r : Int32) (u' : k_S), QQ (r) u' → (k_qi QQ) (some (.int r)) u' := fun r u' h => ⟨_, rfl, h⟩
  refine k_OK.ofW pfJ6_bitCount_0f7a4 (k_tab_of MJ6_bitCount_0f7a4_dec) rfl ?_
  refine s_iloadn 0 0 rfl rfl ?_
  refine s_iloadn 0 1 rfl rfl ?_
  refine s_const 1 0 2 rfl k_ic_1 ?_
  refine s_iushr 0 3 rfl ?_
  refine s_ldcw 1431655765 0 4 rfl (k_in (lw_T3 (List.mem_of_getElem? (i := 13) (by decide +kernel))) rfl) ?_
  refine s_iand 0 5 rfl ?_
  refine s_isub 0 6 rfl ?_
  refine k_topi H (fun t1 H => ?_)
  refine s_istoren 0 7 rfl rfl ?_
  refine s_iloadn 0 8 rfl rfl ?_
  refine s_ldcw 858993459 0 9 rfl (k_in (lw_T3 (List.mem_of_getElem? (i := 14) (by decide +kernel))) rfl) ?_
  refine s_iand 0 10 rfl ?_
  refine s_iloadn 0 11 rfl rfl ?_
  refine s_const 2 0 12 rfl k_ic_2 ?_
  refine s_iushr 0 13 rfl ?_
  refine s_ldcw 858993459 0 14 rfl (k_in (lw_T3 (List.mem_of_getElem? (i := 14) (by decide +kernel))) rfl) ?_
  refine s_iand 0 15 rfl ?_
  refine s_iadd 1 0 rfl ?_
  refine k_topi H (fun t2 H => ?_)
  refine s_istoren 1 1 rfl rfl ?_
  refine s_iloadn 1 2 rfl rfl ?_
  refine s_iloadn 1 3 rfl rfl ?_
  refine s_const 4 1 4 rfl k_ic_4 ?_
  refine s_iushr 1 5 rfl ?_
  refine s_iadd 1 6 rfl ?_
  refine s_ldcw 252645135 1 7 rfl (k_in (lw_T3 (List.mem_of_getElem? (i := 15) (by decide +kernel))) rfl) ?_
  refine s_iand 1 8 rfl ?_
  refine k_topi H (fun t3 H => ?_)
  refine s_istoren 1 9 rfl rfl ?_
  refine s_iloadn 1 10 rfl rfl ?_
  refine s_iloadn 1 11 rfl rfl ?_
  refine s_bipush 8 1 12 rfl k_ib_8 ?_
  refine s_iushr 1 13 rfl ?_
  refine s_iadd 1 14 rfl ?_
  refine k_topi H (fun t4 H => ?_)
  refine s_istoren 1 15 rfl rfl ?_
  refine s_iloadn 2 0 rfl rfl ?_
  refine s_iloadn 2 1 rfl rfl ?_
  refine s_bipush 16 2 2 rfl k_ib_16 ?_
  refine s_iushr 2 3 rfl ?_
  refine s_iadd 2 4 rfl ?_
  refine k_topi H (fun t5 H => ?_)
  refine s_istoren 2 5 rfl rfl ?_
  refine s_iloadn 2 6 rfl rfl ?_
  refine s_bipush 63 2 7 rfl k_ib_63 ?_
  refine s_iand 2 8 rfl ?_
  exact s_iret 2 9 rfl rfl (hr _ _ (k_sat_some H))
set_option maxRecDepth 100000 in
theorem t_W_sure_B28 (g : k_G)  (v1 : Int32) (v2 : Int32) (v3 : Int32)  {u : k_S} {QQ : ((Int32 × Int32) ⊕ (Int32 ⊕ (Int32))) → k_S → Prop} {Q : Option Value → k_S → Prop} (hr : ∀ (r : Int32) (u' : k_S), QQ (.inr (.inl r)) u' → (Q) (some (.int r)) u') (hb : ∀ (x : (Int32 × Int32)) (u' : k_S), QQ (.inl x) u' → k_W g 8 MX11_sure 28 [(0, .ref 0), (1, .int v1), (2, .int x.1), (3, .int x.2)] [] u' Q) (he : ∀ (y : (Int32)) (u' : k_S), QQ (.inr (.inr y)) u' → k_W g 8 MX11_sure 77 [(1, .int v1), (2, .int y)] [] u' Q) (H : k_sat (f_W_sure_B28  v1 v2 v3 u) QQ) : k_W g 8 MX11_sure 28 [(0, .ref 0), (1, .int v1), (2, .int v2), (3, .int v3)] [] u Q := by
  refine s_iloadn 1 1 rfl rfl ?_
  refine s_aloadn 1 2 rfl rfl ?_
  refine s_getr 1 3 rfl k_fl1 rfl rfl rfl rfl ?_
  refine s_const 0 1 4 rfl k_ic_0 ?_
  refine s_cvi1 (M' := MX10_sizeOf) 1 5 rfl k_ml22 vvX10_sizeOf rfl rfl (Nat.le_of_ble_eq_true rfl) rfl (c_Wheels_sizeOf g _ (k_sat_bind H)) (fun r2 u1 H => ?_)
  refine s_icmp_ge 1 6 77 rfl (by decide) H (fun _ H => ?_) (fun _ H => ?_)
  · exact k_via (he _ _ (k_sat_some H)) ⟨rfl, rfl, trivial⟩
  · refine s_iloadn 1 7 rfl rfl ?_
    refine s_bipush 40 1 8 rfl k_ib_40 ?_
    refine s_icmp_ge 1 9 77 rfl (by decide) H (fun _ H => ?_) (fun _ H => ?_)
    · exact k_via (he _ _ (k_sat_some H)) ⟨rfl, rfl, trivial⟩
    · refine s_aloadn 1 10 rfl rfl ?_
      refine s_getr 1 11 rfl k_fl5 rfl rfl rfl rfl ?_
      refine s_iloadn 1 12 rfl rfl ?_
      refine s_cvi1 (M' := MX2_fitting) 1 13 rfl k_ml45 vvX2_fitting rfl rfl (Nat.le_of_ble_eq_true rfl) rfl (c_Judging_fitting g _ (k_sat_bind H)) (fun r4 u3 H => ?_)
      refine s_csi1 (M' := MJ6_bitCount_0f7a4) 1 14 rfl k_ml46 vvJ6_bitCount_0f7a4 (Nat.le_of_ble_eq_true rfl) rfl (c_J_bitCount g _ (k_sat_bind H)) (fun r6 u5 H => ?_)
      refine s_const 1 1 15 rfl k_ic_1 ?_
      refine s_icmp_ne 2 0 71 rfl (by decide) H (fun _ H => ?_) (fun _ H => ?_)
      · refine s_iinc 2 7 rfl rfl rfl ?_
        refine s_goto 2 8 28 rfl (by decide) ?_
        exact k_via (hb _ _ (k_sat_some H)) ⟨rfl, rfl, rfl, rfl, trivial⟩
      · refine s_iloadn 2 1 rfl rfl ?_
        refine s_const 1 2 2 rfl k_ic_1 ?_
        refine s_icmp_ne 2 3 68 rfl (by decide) H (fun _ H => ?_) (fun _ H => ?_)
        · refine s_iinc 2 6 rfl rfl rfl ?_
          refine s_iinc 2 7 rfl rfl rfl ?_
          refine s_goto 2 8 28 rfl (by decide) ?_
          exact k_via (hb _ _ (k_sat_some H)) ⟨rfl, rfl, rfl, rfl, trivial⟩
        · refine s_iloadn 2 4 rfl rfl ?_
          exact s_iret 2 5 rfl rfl (hr _ _ (k_sat_some H))
set_option maxRecDepth 100000 in
theorem l_W_sure_B28 (g : k_G)  (v1 : Int32) {Q : Option Value → k_S → Prop} {K : (Int32 ⊕ (Int32)) → k_S → Prop} (hr : ∀ (r : Int32) (u' : k_S), K (.inl r) u' → Q (some (.int r)) u') (he : ∀ (y : (Int32)) (u' : k_S), K (.inr y) u' → k_W g 8 MX11_sure 77 [(1, .int v1), (2, .int y)] [] u' Q) : ∀ (n : Nat) (x : (Int32 × Int32)) (u : k_S), k_sat (k_itr (fun (x : (Int32 × Int32)) u => f_W_sure_B28  v1 x.1 x.2 u) n x u) K → k_W g 8 MX11_sure 28 [(0, .ref 0), (1, .int v1), (2, .int x.1), (3, .int x.2)] [] u Q :=
  k_loop (P := fun (x : (Int32 × Int32)) u => k_W g 8 MX11_sure 28 [(0, .ref 0), (1, .int v1), (2, .int x.1), (3, .int x.2)] [] u Q) (fun (x : (Int32 × Int32)) u H => t_W_sure_B28 g  v1 x.1 x.2  (fun r u' h => hr r u' h) (fun x u' h => h) (fun y u' h => he y u' h) H)
set_option maxRecDepth 100000 in
theorem t_W_sure_J77 (g : k_G)  (v1 : Int32) (v2 : Int32)  {u : k_S} {QQ : Int32 → k_S → Prop} {Q : Option Value → k_S → Prop} (hr : ∀ (r : Int32) (u' : k_S), QQ (r) u' → (Q) (some (.int r)) u') (H : k_sat (f_W_sure_J77  v1 v2 u) QQ) : k_W g 8 MX11_sure 77 [(1, .int v1), (2, .int v2)] [] u Q := by
  refine s_iloadn 2 9 rfl rfl ?_
  refine s_const 1 2 10 rfl k_ic_1 ?_
  refine s_icmp_ne 2 11 87 rfl (by decide) H (fun _ H => ?_) (fun _ H => ?_)
  · refine s_iloadn 2 14 rfl rfl ?_
    exact s_iret 2 15 rfl rfl (hr _ _ (k_sat_some H))
  · refine s_bipush (-2) 2 12 rfl k_ib_m2 ?_
    refine s_goto 2 13 88 rfl (by decide) ?_
    exact s_iret 2 15 rfl rfl (hr _ _ (k_sat_some H))
set_option maxRecDepth 100000 in
theorem c_W_sure (g : k_G)  (p1 : Int32) {u : k_S} {QQ : Int32 → k_S → Prop} (H : k_sat (f_W_sure  p1 u) QQ) : k_OK g 8 MX11_sure [.ref 0, .int p1] u (k_qi QQ) := by
  have hr : ∀ (r : Int32) (u' : k_S), QQ (r) u' → (k_qi QQ) (some (.int r)) u' := fun r u' h => ⟨_, rfl, h⟩
  refine k_OK.ofW pfX11_sure (k_tab_of MX11_sure_dec) rfl ?_
  refine s_iloadn 0 0 rfl rfl ?_
  refine s_if_lt 0 1 9 rfl (by decide) H (fun _ H => ?_) (fun _ H => ?_)
  · refine s_const (-1) 0 5 rfl k_ic_m1 ?_
    exact s_iret 0 6 rfl rfl (hr _ _ (k_sat_some H))
  · refine s_iloadn 0 2 rfl rfl ?_
    refine s_const 1 0 3 rfl k_ic_1 ?_
    refine s_icmp_le 0 4 11 rfl (by decide) H (fun _ H => ?_) (fun _ H => ?_)
    · refine s_aloadn 0 7 rfl rfl ?_
      refine s_getr 0 8 rfl k_fl1 rfl rfl rfl rfl ?_
      refine s_geti 303 0 9 rfl k_fl12 rfl rfl rfl rfl rfl ?_
      refine s_if_ne 0 10 24 rfl (by decide) H (fun _ H => ?_) (fun _ H => ?_)
      · refine s_const 0 0 13 rfl k_ic_0 ?_
        refine s_istoren 0 14 rfl rfl ?_
        refine s_const 0 0 15 rfl k_ic_0 ?_
        refine s_istoren 1 0 rfl rfl ?_
        refine k_via (l_W_sure_B28 g  p1 ?_ ?_ _ _ _ (k_sat_bind H)) ⟨rfl, rfl, rfl, rfl, trivial⟩
        · exact fun r u' h => hr r u' (k_sat_some h)
        · intro y8 u7 H
          replace H := k_sat_csr H
          exact k_via (t_W_sure_J77 g  _ _  hr H) ⟨rfl, rfl, trivial⟩
      · refine s_bipush (-5) 0 11 rfl k_ib_m5 ?_
        exact s_iret 0 12 rfl rfl (hr _ _ (k_sat_some H))
    · refine s_const (-1) 0 5 rfl k_ic_m1 ?_
      exact s_iret 0 6 rfl rfl (hr _ _ (k_sat_some H))
set_option maxRecDepth 100000 in
theorem t_R_bitsOf_B4 (g : k_G)  (v1 : Int32) (v2 : Int32)  {u : k_S} {QQ : ((Int32 × Int32) ⊕ (Int32)) → k_S → Prop} {Q : Option Value → k_S → Prop} (hb : ∀ (x : (Int32 × Int32)) (u' : k_S), QQ (.inl x) u' → k_W g 1 MX12_bitsOf 4 [(1, .int x.1), (2, .int x.2)] [] u' Q) (he : ∀ (y : (Int32)) (u' : k_S), QQ (.inr y) u' → k_W g 1 MX12_bitsOf 20 [(1, .int y)] [] u' Q) (H : k_sat (f_R_bitsOf_B4  v1 v2 u) QQ) : k_W g 1 MX12_bitsOf 4 [(1, .int v1), (2, .int v2)] [] u Q := by
  refine s_iloadn 0 4 rfl rfl ?_
  refine s_if_eq 0 5 20 rfl (by decide) H (fun _ H => ?_) (fun _ H => ?_)
  · exact k_via (he _ _ (k_sat_some H)) ⟨rfl, trivial⟩
  · refine s_iinc 0 6 rfl rfl rfl ?_
    refine s_iloadn 0 7 rfl rfl ?_
    refine s_iloadn 0 8 rfl rfl ?_
    refine s_const 1 0 9 rfl k_ic_1 ?_
    refine s_isub 0 10 rfl ?_
    refine s_iand 0 11 rfl ?_
    refine k_topi H (fun t1 H => ?_)
    refine s_istoren 0 12 rfl rfl ?_
    refine s_goto 0 13 4 rfl (by decide) ?_
    exact k_via (hb _ _ (k_sat_some H)) ⟨rfl, rfl, trivial⟩
set_option maxRecDepth 100000 in
theorem l_R_bitsOf_B4 (g : k_G)   {Q : Option Value → k_S → Prop} {K : (Int32) → k_S → Prop} (he : ∀ (y : (Int32)) (u' : k_S), K (y) u' → k_W g 1 MX12_bitsOf 20 [(1, .int y)] [] u' Q) : ∀ (n : Nat) (x : (Int32 × Int32)) (u : k_S), k_sat (k_itr (fun (x : (Int32 × Int32)) u => f_R_bitsOf_B4  x.1 x.2 u) n x u) K → k_W g 1 MX12_bitsOf 4 [(1, .int x.1), (2, .int x.2)] [] u Q :=
  k_loop (P := fun (x : (Int32 × Int32)) u => k_W g 1 MX12_bitsOf 4 [(1, .int x.1), (2, .int x.2)] [] u Q) (fun (x : (Int32 × Int32)) u H => t_R_bitsOf_B4 g  x.1 x.2  (fun x u' h => h) (fun y u' h => he y u' h) H)
set_option maxRecDepth 100000 in
theorem c_R_bitsOf (g : k_G)  (p0 : Int32) {u : k_S} {QQ : Int32 → k_S → Prop} (H : k_sat (f_R_bitsOf  p0 u) QQ) : k_OK g 1 MX12_bitsOf [.int p0] u (k_qi QQ) := by
  have hr : ∀ (r : Int32) (u' : k_S), QQ (r) u' → (k_qi QQ) (some (.int r)) u' := fun r u' h => ⟨_, rfl, h⟩
  refine k_OK.ofW pfX12_bitsOf (k_tab_of MX12_bitsOf_dec) rfl ?_
  refine s_const 0 0 0 rfl k_ic_0 ?_
  refine s_istoren 0 1 rfl rfl ?_
  refine s_iloadn 0 2 rfl rfl ?_
  refine s_istoren 0 3 rfl rfl ?_
  refine k_via (l_R_bitsOf_B4 g   ?_ _ _ _ (k_sat_bind H)) ⟨rfl, rfl, trivial⟩
  · intro y3 u2 H
    refine s_iloadn 0 14 rfl rfl ?_
    exact s_iret 0 15 rfl rfl (hr _ _ (k_sat_some H))
set_option maxRecDepth 100000 in
theorem t_R_sure_B29 (g : k_G)  (v1 : Int32) (v2 : Int32) (v3 : Int32) (v4 : Int32)  {u : k_S} {QQ : ((Int32 × Int32 × Int32) ⊕ (Int32 × Int32)) → k_S → Prop} {Q : Option Value → k_S → Prop} (hb : ∀ (x : (Int32 × Int32 × Int32)) (u' : k_S), QQ (.inl x) u' → k_W g 9 MX12_sure 29 [(0, .ref 42), (1, .int v1), (2, .int x.1), (3, .int x.2.1), (4, .int x.2.2)] [] u' Q) (he : ∀ (y : (Int32 × Int32)) (u' : k_S), QQ (.inr y) u' → k_W g 9 MX12_sure 72 [(1, .int v1), (2, .int y.1), (3, .int y.2)] [] u' Q) (H : k_sat (f_R_sure_B29  v1 v2 v3 v4 u) QQ) : k_W g 9 MX12_sure 29 [(0, .ref 42), (1, .int v1), (2, .int v2), (3, .int v3), (4, .int v4)] [] u Q := by
  refine s_iload 1 2 rfl rfl ?_
  refine s_aloadn 1 3 rfl rfl ?_
  refine s_getr 1 4 rfl k_fl89 rfl rfl rfl rfl ?_
  refine s_const 0 1 5 rfl k_ic_0 ?_
  refine s_iald 1 6 rfl rfl H (fun _ H => ?_)
  refine s_icmp_ge 1 7 72 rfl (by decide) H (fun _ H => ?_) (fun _ H => ?_)
  · exact k_via (he _ _ (k_sat_some H)) ⟨rfl, rfl, rfl, trivial⟩
  · refine s_aloadn 1 8 rfl rfl ?_
    refine s_iload 1 9 rfl rfl ?_
    refine s_cvi1 (M' := MX12_fitting) 1 10 rfl k_ml265 vvX12_fitting rfl rfl (Nat.le_of_ble_eq_true rfl) rfl (c_R_fitting g _ (k_sat_bind H)) (fun r4 u3 H => ?_)
    refine s_csi1 (M' := MX12_bitsOf) 1 11 rfl k_ml266 vvX12_bitsOf (Nat.le_of_ble_eq_true rfl) rfl (c_R_bitsOf g _ (k_sat_bind H)) (fun r6 u5 H => ?_)
    refine s_const 1 1 12 rfl k_ic_1 ?_
    refine s_icmp_eq 1 13 56 rfl (by decide) H (fun _ H => ?_) (fun _ H => ?_)
    · refine s_iinc 1 15 rfl rfl rfl ?_
      refine s_iloadn 2 0 rfl rfl ?_
      refine s_if_ge 2 1 66 rfl (by decide) H (fun _ H => ?_) (fun _ H => ?_)
      · refine s_iinc 2 4 rfl rfl rfl ?_
        refine s_goto 2 5 29 rfl (by decide) ?_
        exact k_via (hb _ _ (k_sat_some H)) ⟨rfl, rfl, rfl, rfl, rfl, trivial⟩
      · refine s_iload 2 2 rfl rfl ?_
        refine s_istoren 2 3 rfl rfl ?_
        refine s_iinc 2 4 rfl rfl rfl ?_
        refine s_goto 2 5 29 rfl (by decide) ?_
        exact k_via (hb _ _ (k_sat_some H)) ⟨rfl, rfl, rfl, rfl, rfl, trivial⟩
    · refine s_goto 1 14 66 rfl (by decide) ?_
      refine s_iinc 2 4 rfl rfl rfl ?_
      refine s_goto 2 5 29 rfl (by decide) ?_
      exact k_via (hb _ _ (k_sat_some H)) ⟨rfl, rfl, rfl, rfl, rfl, trivial⟩
set_option maxRecDepth 100000 in
theorem l_R_sure_B29 (g : k_G)  (v1 : Int32) {Q : Option Value → k_S → Prop} {K : (Int32 × Int32) → k_S → Prop} (he : ∀ (y : (Int32 × Int32)) (u' : k_S), K (y) u' → k_W g 9 MX12_sure 72 [(1, .int v1), (2, .int y.1), (3, .int y.2)] [] u' Q) : ∀ (n : Nat) (x : (Int32 × Int32 × Int32)) (u : k_S), k_sat (k_itr (fun (x : (Int32 × Int32 × Int32)) u => f_R_sure_B29  v1 x.1 x.2.1 x.2.2 u) n x u) K → k_W g 9 MX12_sure 29 [(0, .ref 42), (1, .int v1), (2, .int x.1), (3, .int x.2.1), (4, .int x.2.2)] [] u Q :=
  k_loop (P := fun (x : (Int32 × Int32 × Int32)) u => k_W g 9 MX12_sure 29 [(0, .ref 42), (1, .int v1), (2, .int x.1), (3, .int x.2.1), (4, .int x.2.2)] [] u Q) (fun (x : (Int32 × Int32 × Int32)) u H => t_R_sure_B29 g  v1 x.1 x.2.1 x.2.2  (fun x u' h => h) (fun y u' h => he y u' h) H)
set_option maxRecDepth 100000 in
theorem c_R_sure (g : k_G)  (p1 : Int32) {u : k_S} {QQ : Int32 → k_S → Prop} (H : k_sat (f_R_sure  p1 u) QQ) : k_OK g 9 MX12_sure [.ref 42, .int p1] u (k_qi QQ) := by
  have hr : ∀ (r : Int32) (u' : k_S), QQ (r) u' → (k_qi QQ) (some (.int r)) u' := fun r u' h => ⟨_, rfl, h⟩
  refine k_OK.ofW pfX12_sure (k_tab_of MX12_sure_dec) rfl ?_
  refine s_iloadn 0 0 rfl rfl ?_
  refine s_const 0 0 1 rfl k_ic_0 ?_
  refine s_const 1 0 2 rfl k_ic_1 ?_
  refine s_csi3 (M' := MX12_in) 0 3 rfl k_ml230 vvX12_in (Nat.le_of_ble_eq_true rfl) rfl (c_R_in g _ _ _ (k_sat_bind H)) (fun r2 u1 H => ?_)
  refine s_if_ne 0 4 11 rfl (by decide) H (fun _ H => ?_) (fun _ H => ?_)
  · refine s_aloadn 0 7 rfl rfl ?_
    refine s_geti 4203 0 8 rfl k_fl122 rfl rfl rfl rfl rfl ?_
    refine s_if_ne 0 9 21 rfl (by decide) H (fun _ H => ?_) (fun _ H => ?_)
    · refine s_const 0 0 12 rfl k_ic_0 ?_
      refine s_istoren 0 13 rfl rfl ?_
      refine s_bipush (-2) 0 14 rfl k_ib_m2 ?_
      refine s_istoren 0 15 rfl rfl ?_
      refine s_const 0 1 0 rfl k_ic_0 ?_
      refine s_istore 1 1 rfl rfl ?_
      refine k_via (l_R_sure_B29 g  p1 ?_ _ _ _ (k_sat_bind H)) ⟨rfl, rfl, rfl, rfl, rfl, trivial⟩
      · intro y8 u7 H
        refine s_iloadn 2 6 rfl rfl ?_
        refine s_if_ne 2 7 80 rfl (by decide) H (fun _ H => ?_) (fun _ H => ?_)
        · refine s_iloadn 2 10 rfl rfl ?_
          exact s_iret 2 11 rfl rfl (hr _ _ (k_sat_some H))
        · refine s_iloadn 2 8 rfl rfl ?_
          refine s_goto 2 9 81 rfl (by decide) ?_
          exact s_iret 2 11 rfl rfl (hr _ _ (k_sat_some H))
    · refine s_bipush (-5) 0 10 rfl k_ib_m5 ?_
      exact s_iret 0 11 rfl rfl (hr _ _ (k_sat_some H))
  · refine s_const (-1) 0 5 rfl k_ic_m1 ?_
    exact s_iret 0 6 rfl rfl (hr _ _ (k_sat_some H))
set_option maxRecDepth 100000 in
theorem t_Judging_tryBreaks_J128 (g : k_G)  (v1 : Int32) (v2 : Int32) (v3 : Int32) (v4 : Int32)  {u : k_S} {QQ : ((Int32 × Int32 × Int32) ⊕ Unit) → k_S → Prop} {Q : Option Value → k_S → Prop} (hb : ∀ (x : (Int32 × Int32 × Int32)) (u' : k_S), QQ (.inl x) u' → k_W g 7 MX2_tryBreaks 33 [(0, .ref 24), (1, .int v1), (2, .int x.1), (3, .int x.2.1), (4, .int x.2.2)] [] u' Q) (he : ∀ (y : Unit) (u' : k_S), QQ (.inr y) u' → k_W g 7 MX2_tryBreaks 150 [(0, .ref 24), (1, .int v1)] [] u' Q) (H : k_sat (f_Judging_tryBreaks_J128  v1 v2 v3 v4 u) QQ) : k_W g 7 MX2_tryBreaks 128 [(0, .ref 24), (1, .int v1), (2, .int v2), (3, .int v3), (4, .int v4)] [] u Q := by
  refine s_aloadn 4 1 rfl rfl ?_
  refine s_iload 4 2 rfl rfl ?_
  refine s_puti 2406 4 3 rfl k_fl46 rfl rfl rfl rfl rfl rfl rfl rfl rfl H (fun u6 H => ?_)
  refine s_aloadn 4 4 rfl rfl ?_
  refine s_dupr 4 5 rfl ?_
  refine s_geti 2407 4 6 rfl k_fl47 rfl rfl rfl rfl rfl ?_
  refine s_const 1 4 7 rfl k_ic_1 ?_
  refine s_iadd 4 8 rfl ?_
  refine s_puti 2407 4 9 rfl k_fl47 rfl rfl rfl rfl rfl rfl rfl rfl rfl H (fun u7 H => ?_)
  refine s_iinc 4 10 rfl rfl rfl ?_
  refine s_goto 4 11 33 rfl (by decide) ?_
  exact k_via (hb _ _ (k_sat_some H)) ⟨rfl, rfl, rfl, rfl, rfl, trivial⟩
set_option maxRecDepth 100000 in
theorem t_Judging_tryBreaks_J106 (g : k_G)  (v1 : Int32) (v2 : Int32) (v3 : Int32) (v4 : Int32)  {u : k_S} {QQ : ((Int32 × Int32 × Int32) ⊕ Unit) → k_S → Prop} {Q : Option Value → k_S → Prop} (hb : ∀ (x : (Int32 × Int32 × Int32)) (u' : k_S), QQ (.inl x) u' → k_W g 7 MX2_tryBreaks 33 [(0, .ref 24), (1, .int v1), (2, .int x.1), (3, .int x.2.1), (4, .int x.2.2)] [] u' Q) (he : ∀ (y : Unit) (u' : k_S), QQ (.inr y) u' → k_W g 7 MX2_tryBreaks 150 [(0, .ref 24), (1, .int v1)] [] u' Q) (H : k_sat (f_Judging_tryBreaks_J106  v1 v2 v3 v4 u) QQ) : k_W g 7 MX2_tryBreaks 106 [(0, .ref 24), (1, .int v1), (2, .int v2), (3, .int v3), (4, .int v4)] [] u Q := by
  refine s_iloadn 3 7 rfl rfl ?_
  refine s_if_ne 3 8 113 rfl (by decide) H (fun _ H => ?_) (fun _ H => ?_)
  · refine s_aloadn 3 10 rfl rfl ?_
    refine s_geti 2405 3 11 rfl k_fl45 rfl rfl rfl rfl rfl ?_
    refine s_bipush (-2) 3 12 rfl k_ib_m2 ?_
    refine s_icmp_ne 3 13 128 rfl (by decide) H (fun _ H => ?_) (fun _ H => ?_)
    · exact k_via (t_Judging_tryBreaks_J128 g  _ _ _ _  hb he H) ⟨rfl, rfl, rfl, rfl, rfl, trivial⟩
    · refine s_aloadn 3 14 rfl rfl ?_
      refine s_iload 3 15 rfl rfl ?_
      refine s_puti 2405 4 0 rfl k_fl45 rfl rfl rfl rfl rfl rfl rfl rfl rfl H (fun u8 H => ?_)
      exact k_via (t_Judging_tryBreaks_J128 g  _ _ _ _  hb he H) ⟨rfl, rfl, rfl, rfl, rfl, trivial⟩
  · refine s_goto 3 9 144 rfl (by decide) ?_
    refine s_iinc 4 10 rfl rfl rfl ?_
    refine s_goto 4 11 33 rfl (by decide) ?_
    exact k_via (hb _ _ (k_sat_some H)) ⟨rfl, rfl, rfl, rfl, rfl, trivial⟩
set_option maxRecDepth 100000 in
theorem t_Judging_tryBreaks_J105 (g : k_G)  (v1 : Int32) (v2 : Int32) (v4 : Int32) (s0 : Int32)  {u : k_S} {QQ : ((Int32 × Int32 × Int32) ⊕ Unit) → k_S → Prop} {Q : Option Value → k_S → Prop} (hb : ∀ (x : (Int32 × Int32 × Int32)) (u' : k_S), QQ (.inl x) u' → k_W g 7 MX2_tryBreaks 33 [(0, .ref 24), (1, .int v1), (2, .int x.1), (3, .int x.2.1), (4, .int x.2.2)] [] u' Q) (he : ∀ (y : Unit) (u' : k_S), QQ (.inr y) u' → k_W g 7 MX2_tryBreaks 150 [(0, .ref 24), (1, .int v1)] [] u' Q) (H : k_sat (f_Judging_tryBreaks_J105  v1 v2 v4 s0 u) QQ) : k_W g 7 MX2_tryBreaks 105 [(0, .ref 24), (1, .int v1), (2, .int v2), (4, .int v4)] [.int s0] u Q := by
  refine s_istoren 3 6 rfl rfl ?_
  exact k_via (t_Judging_tryBreaks_J106 g  _ _ _ _  hb he H) ⟨rfl, rfl, rfl, rfl, rfl, trivial⟩
set_option maxRecDepth 100000 in
theorem t_Judging_tryBreaks_J80 (g : k_G)  (v1 : Int32) (v4 : Int32) (s0 : Int32)  {u : k_S} {QQ : ((Int32 × Int32 × Int32) ⊕ Unit) → k_S → Prop} {Q : Option Value → k_S → Prop} (hb : ∀ (x : (Int32 × Int32 × Int32)) (u' : k_S), QQ (.inl x) u' → k_W g 7 MX2_tryBreaks 33 [(0, .ref 24), (1, .int v1), (2, .int x.1), (3, .int x.2.1), (4, .int x.2.2)] [] u' Q) (he : ∀ (y : Unit) (u' : k_S), QQ (.inr y) u' → k_W g 7 MX2_tryBreaks 150 [(0, .ref 24), (1, .int v1)] [] u' Q) (H : k_sat (f_Judging_tryBreaks_J80  v1 v4 s0 u) QQ) : k_W g 7 MX2_tryBreaks 80 [(0, .ref 24), (1, .int v1), (4, .int v4)] [.int s0] u Q := by
  refine s_istoren 2 11 rfl rfl ?_
  refine s_aloadn 2 12 rfl rfl ?_
  refine s_getr 2 13 rfl k_fl40 rfl rfl rfl rfl ?_
  refine s_geti 1206 2 14 rfl k_fl48 rfl rfl rfl rfl rfl ?_
  refine s_const (-1) 2 15 rfl k_ic_m1 ?_
  refine s_icmp_ne 3 0 98 rfl (by decide) H (fun _ H => ?_) (fun _ H => ?_)
  · refine s_aloadn 3 3 rfl rfl ?_
    refine s_getr 3 4 rfl k_fl40 rfl rfl rfl rfl ?_
    refine s_geti 1206 3 5 rfl k_fl48 rfl rfl rfl rfl rfl ?_
    exact k_via (t_Judging_tryBreaks_J105 g  _ _ _ _  hb he H) ⟨rfl, rfl, rfl, rfl, trivial⟩
  · refine s_sipush 400 3 1 rfl k_is_400 ?_
    refine s_goto 3 2 105 rfl (by decide) ?_
    exact k_via (t_Judging_tryBreaks_J105 g  _ _ _ _  hb he H) ⟨rfl, rfl, rfl, rfl, trivial⟩
set_option maxRecDepth 100000 in
theorem t_Judging_tryBreaks_B33 (g : k_G)  (v1 : Int32) (v2 : Int32) (v3 : Int32) (v4 : Int32)  {u : k_S} {QQ : ((Int32 × Int32 × Int32) ⊕ Unit) → k_S → Prop} {Q : Option Value → k_S → Prop} (hb : ∀ (x : (Int32 × Int32 × Int32)) (u' : k_S), QQ (.inl x) u' → k_W g 7 MX2_tryBreaks 33 [(0, .ref 24), (1, .int v1), (2, .int x.1), (3, .int x.2.1), (4, .int x.2.2)] [] u' Q) (he : ∀ (y : Unit) (u' : k_S), QQ (.inr y) u' → k_W g 7 MX2_tryBreaks 150 [(0, .ref 24), (1, .int v1)] [] u' Q) (H : k_sat (f_Judging_tryBreaks_B33  v1 v2 v3 v4 u) QQ) : k_W g 7 MX2_tryBreaks 33 [(0, .ref 24), (1, .int v1), (2, .int v2), (3, .int v3), (4, .int v4)] [] u Q := by
  refine s_iload 1 4 rfl rfl ?_
  refine s_sipush 400 1 5 rfl k_is_400 ?_
  refine s_icmp_gt 1 6 150 rfl (by decide) H (fun _ H => ?_) (fun _ H => ?_)
  · exact k_via (he _ _ (k_sat_some H)) ⟨rfl, rfl, trivial⟩
  · refine s_iload 1 7 rfl rfl ?_
    refine s_iloadn 1 8 rfl rfl ?_
    refine s_icmp_le 1 9 106 rfl (by decide) H (fun _ H => ?_) (fun _ H => ?_)
    · exact k_via (t_Judging_tryBreaks_J106 g  _ _ _ _  hb he H) ⟨rfl, rfl, rfl, rfl, rfl, trivial⟩
    · refine s_aloadn 1 10 rfl rfl ?_
      refine s_getr 1 11 rfl k_fl39 rfl rfl rfl rfl ?_
      refine s_const 0 1 12 rfl k_ic_0 ?_
      refine s_iload 1 13 rfl rfl ?_
      refine s_cvv2 (M' := MX10_setBreak) 1 14 rfl k_ml89 vvX10_setBreak rfl rfl (Nat.le_of_ble_eq_true rfl) rfl (c_Wheels_setBreak g _ _ (k_sat_bind H)) (fun _ u9 H => ?_)
      refine s_aloadn 1 15 rfl rfl ?_
      refine s_getr 2 0 rfl k_fl40 rfl rfl rfl rfl ?_
      refine s_const (-1) 2 1 rfl k_ic_m1 ?_
      refine s_puti 1206 2 2 rfl k_fl48 rfl rfl rfl rfl rfl rfl rfl rfl rfl H (fun u10 H => ?_)
      refine s_aloadn 2 3 rfl rfl ?_
      refine s_const 1 2 4 rfl k_ic_1 ?_
      refine s_cvi1 (M' := MX2_firstWrong) 2 5 rfl k_ml87 vvX2_firstWrong rfl rfl (Nat.le_of_ble_eq_true rfl) rfl (c_Judging_firstWrong g _ (k_sat_bind H)) (fun r12 u11 H => ?_)
      refine s_bipush (-2) 2 6 rfl k_ib_m2 ?_
      refine s_icmp_ne 2 7 79 rfl (by decide) H (fun _ H => ?_) (fun _ H => ?_)
      · refine s_const 0 2 10 rfl k_ic_0 ?_
        exact k_via (t_Judging_tryBreaks_J80 g  _ _ _  hb he H) ⟨rfl, rfl, rfl, trivial⟩
      · refine s_const 1 2 8 rfl k_ic_1 ?_
        refine s_goto 2 9 80 rfl (by decide) ?_
        exact k_via (t_Judging_tryBreaks_J80 g  _ _ _  hb he H) ⟨rfl, rfl, rfl, trivial⟩
set_option maxRecDepth 100000 in
theorem l_Judging_tryBreaks_B33 (g : k_G)  (v1 : Int32) {Q : Option Value → k_S → Prop} {K : Unit → k_S → Prop} (he : ∀ (y : Unit) (u' : k_S), K (y) u' → k_W g 7 MX2_tryBreaks 150 [(0, .ref 24), (1, .int v1)] [] u' Q) : ∀ (n : Nat) (x : (Int32 × Int32 × Int32)) (u : k_S), k_sat (k_itr (fun (x : (Int32 × Int32 × Int32)) u => f_Judging_tryBreaks_B33  v1 x.1 x.2.1 x.2.2 u) n x u) K → k_W g 7 MX2_tryBreaks 33 [(0, .ref 24), (1, .int v1), (2, .int x.1), (3, .int x.2.1), (4, .int x.2.2)] [] u Q :=
  k_loop (P := fun (x : (Int32 × Int32 × Int32)) u => k_W g 7 MX2_tryBreaks 33 [(0, .ref 24), (1, .int v1), (2, .int x.1), (3, .int x.2.1), (4, .int x.2.2)] [] u Q) (fun (x : (Int32 × Int32 × Int32)) u H => t_Judging_tryBreaks_B33 g  v1 x.1 x.2.1 x.2.2  (fun x u' h => h) (fun y u' h => he y u' h) H)
set_option maxRecDepth 100000 in
theorem c_Judging_tryBreaks (g : k_G)   {u : k_S} {QQ : Unit → k_S → Prop} (H : k_sat (f_Judging_tryBreaks   u) QQ) : k_OK g 7 MX2_tryBreaks [.ref 24] u (k_qv QQ) := by
  have hr : ∀ (r : Unit) (u' : k_S), QQ (r) u' → (k_qv QQ) (none) u' := fun r u' h => ⟨rfl, h⟩
  refine k_OK.ofW pfX2_tryBreaks (k_tab_of MX2_tryBreaks_dec) rfl ?_
  refine s_aloadn 0 0 rfl rfl ?_
  refine s_getr 0 1 rfl k_fl39 rfl rfl rfl rfl ?_
  refine s_const 0 0 2 rfl k_ic_0 ?_
  refine s_cvi1 (M' := MX10_breakOf) 0 3 rfl k_ml88 vvX10_breakOf rfl rfl (Nat.le_of_ble_eq_true rfl) rfl (c_Wheels_breakOf g _ (k_sat_bind H)) (fun r2 u1 H => ?_)
  refine s_istoren 0 4 rfl rfl ?_
  refine s_aloadn 0 5 rfl rfl ?_
  refine s_bipush (-2) 0 6 rfl k_ib_m2 ?_
  refine s_puti 2405 0 7 rfl k_fl45 rfl rfl rfl rfl rfl rfl rfl rfl rfl H (fun u3 H => ?_)
  refine s_aloadn 0 8 rfl rfl ?_
  refine s_bipush (-2) 0 9 rfl k_ib_m2 ?_
  refine s_puti 2406 0 10 rfl k_fl46 rfl rfl rfl rfl rfl rfl rfl rfl rfl H (fun u4 H => ?_)
  refine s_aloadn 0 11 rfl rfl ?_
  refine s_const 0 0 12 rfl k_ic_0 ?_
  refine s_puti 2407 0 13 rfl k_fl47 rfl rfl rfl rfl rfl rfl rfl rfl rfl H (fun u5 H => ?_)
  refine s_const 0 0 14 rfl k_ic_0 ?_
  refine s_istoren 0 15 rfl rfl ?_
  refine s_const (-1) 1 0 rfl k_ic_m1 ?_
  refine s_istoren 1 1 rfl rfl ?_
  refine s_const 0 1 2 rfl k_ic_0 ?_
  refine s_istore 1 3 rfl rfl ?_
  refine k_via (l_Judging_tryBreaks_B33 g  r2 ?_ _ _ _ (k_sat_bind H)) ⟨rfl, rfl, rfl, rfl, rfl, trivial⟩
  · intro y14 u13 H
    refine s_aloadn 4 12 rfl rfl ?_
    refine s_getr 4 13 rfl k_fl39 rfl rfl rfl rfl ?_
    refine s_const 0 4 14 rfl k_ic_0 ?_
    refine s_iloadn 4 15 rfl rfl ?_
    refine s_cvv2 (M' := MX10_setBreak) 5 0 rfl k_ml89 vvX10_setBreak rfl rfl (Nat.le_of_ble_eq_true rfl) rfl (c_Wheels_setBreak g _ _ (k_sat_bind H)) (fun _ u15 H => ?_)
    exact s_ret 5 1 rfl rfl (hr _ _ (k_sat_some H))
set_option maxRecDepth 100000 in
theorem c_W_when (g : k_G)  (p1 : Int32) {u : k_S} {QQ : Int32 → k_S → Prop} (H : k_sat (f_W_when  p1 u) QQ) : k_OK g 8 MX11_when [.ref 0, .int p1] u (k_qi QQ) := by
  have hr : ∀ (r : Int32) (u' : k_S), QQ (r) u' → (k_qi QQ) (some (.int r)) u' := fun r u' h => ⟨_, rfl, h⟩
  refine k_OK.ofW pfX11_when (k_tab_of MX11_when_dec) rfl ?_
  refine s_iloadn 0 0 rfl rfl ?_
  refine s_if_lt 0 1 9 rfl (by decide) H (fun _ H => ?_) (fun _ H => ?_)
  · refine s_const (-1) 0 5 rfl k_ic_m1 ?_
    exact s_iret 0 6 rfl rfl (hr _ _ (k_sat_some H))
  · refine s_iloadn 0 2 rfl rfl ?_
    refine s_const 2 0 3 rfl k_ic_2 ?_
    refine s_icmp_le 0 4 11 rfl (by decide) H (fun _ H => ?_) (fun _ H => ?_)
    · refine s_aloadn 0 7 rfl rfl ?_
      refine s_getr 0 8 rfl k_fl1 rfl rfl rfl rfl ?_
      refine s_geti 303 0 9 rfl k_fl12 rfl rfl rfl rfl rfl ?_
      refine s_if_ne 0 10 24 rfl (by decide) H (fun _ H => ?_) (fun _ H => ?_)
      · refine s_aloadn 0 13 rfl rfl ?_
        refine s_getr 0 14 rfl k_fl5 rfl rfl rfl rfl ?_
        refine s_cvv0 (M' := MX2_tryBreaks) 0 15 rfl k_ml47 vvX2_tryBreaks rfl rfl (Nat.le_of_ble_eq_true rfl) rfl (c_Judging_tryBreaks g (k_sat_bind H)) (fun _ u1 H => ?_)
        refine s_iloadn 1 0 rfl rfl ?_
        refine s_const 2 1 1 rfl k_ic_2 ?_
        refine s_icmp_ne 1 2 44 rfl (by decide) H (fun _ H => ?_) (fun _ H => ?_)
        · refine s_iloadn 1 7 rfl rfl ?_
          refine s_if_ne 1 8 58 rfl (by decide) H (fun _ H => ?_) (fun _ H => ?_)
          · refine s_aloadn 1 13 rfl rfl ?_
            refine s_getr 1 14 rfl k_fl5 rfl rfl rfl rfl ?_
            refine s_geti 2406 1 15 rfl k_fl21 rfl rfl rfl rfl rfl ?_
            exact s_iret 2 0 rfl rfl (hr _ _ (k_sat_some H))
          · refine s_aloadn 1 9 rfl rfl ?_
            refine s_getr 1 10 rfl k_fl5 rfl rfl rfl rfl ?_
            refine s_geti 2405 1 11 rfl k_fl20 rfl rfl rfl rfl rfl ?_
            refine s_goto 1 12 65 rfl (by decide) ?_
            exact s_iret 2 0 rfl rfl (hr _ _ (k_sat_some H))
        · refine s_aloadn 1 3 rfl rfl ?_
          refine s_getr 1 4 rfl k_fl5 rfl rfl rfl rfl ?_
          refine s_geti 2407 1 5 rfl k_fl19 rfl rfl rfl rfl rfl ?_
          exact s_iret 1 6 rfl rfl (hr _ _ (k_sat_some H))
      · refine s_bipush (-5) 0 11 rfl k_ib_m5 ?_
        exact s_iret 0 12 rfl rfl (hr _ _ (k_sat_some H))
    · refine s_const (-1) 0 5 rfl k_ic_m1 ?_
      exact s_iret 0 6 rfl rfl (hr _ _ (k_sat_some H))
set_option maxRecDepth 100000 in
theorem t_R_when_B41 (g : k_G)  (v1 : Int32) (v2 : Int32) (v3 : Int32) (v4 : Int32) (v5 : Int32) (v6 : Int32)  {u : k_S} {QQ : ((Int32 × Int32 × Int32 × Int32) ⊕ (Int32 × Int32 × Int32)) → k_S → Prop} {Q : Option Value → k_S → Prop} (hb : ∀ (x : (Int32 × Int32 × Int32 × Int32)) (u' : k_S), QQ (.inl x) u' → k_W g 8 MX12_when 41 [(0, .ref 42), (1, .int v1), (2, .int v2), (3, .int x.1), (4, .int x.2.1), (5, .int x.2.2.1), (6, .int x.2.2.2)] [] u' Q) (he : ∀ (y : (Int32 × Int32 × Int32)) (u' : k_S), QQ (.inr y) u' → k_W g 8 MX12_when 87 [(0, .ref 42), (1, .int v1), (2, .int v2), (3, .int y.1), (4, .int y.2.1), (5, .int y.2.2)] [] u' Q) (H : k_sat (f_R_when_B41  v1 v2 v3 v4 v5 v6 u) QQ) : k_W g 8 MX12_when 41 [(0, .ref 42), (1, .int v1), (2, .int v2), (3, .int v3), (4, .int v4), (5, .int v5), (6, .int v6)] [] u Q := by
  refine s_iload 1 9 rfl rfl ?_
  refine s_sipush 400 1 10 rfl k_is_400 ?_
  refine s_icmp_gt 1 11 87 rfl (by decide) H (fun _ H => ?_) (fun _ H => ?_)
  · exact k_via (he _ _ (k_sat_some H)) ⟨rfl, rfl, rfl, rfl, rfl, rfl, trivial⟩
  · refine s_aloadn 1 12 rfl rfl ?_
    refine s_getr 1 13 rfl k_fl92 rfl rfl rfl rfl ?_
    refine s_const 0 1 14 rfl k_ic_0 ?_
    refine s_iload 1 15 rfl rfl ?_
    refine s_iast 2 0 rfl rfl H (fun u4 H => ?_)
    refine s_aloadn 2 1 rfl rfl ?_
    refine s_cvi0 (M' := MX12_firstWrong) 2 2 rfl k_ml264 vvX12_firstWrong rfl rfl (Nat.le_of_ble_eq_true rfl) rfl (c_R_firstWrong g (k_sat_bind H)) (fun r6 u5 H => ?_)
    refine s_if_lt 2 3 67 rfl (by decide) H (fun _ H => ?_) (fun _ H => ?_)
    · refine s_iloadn 2 5 rfl rfl ?_
      refine s_if_ge 2 6 74 rfl (by decide) H (fun _ H => ?_) (fun _ H => ?_)
      · refine s_iload 2 9 rfl rfl ?_
        refine s_istore 2 10 rfl rfl ?_
        refine s_iinc 2 11 rfl rfl rfl ?_
        refine s_iinc 2 12 rfl rfl rfl ?_
        refine s_goto 2 13 41 rfl (by decide) ?_
        exact k_via (hb _ _ (k_sat_some H)) ⟨rfl, rfl, rfl, rfl, rfl, rfl, rfl, trivial⟩
      · refine s_iload 2 7 rfl rfl ?_
        refine s_istoren 2 8 rfl rfl ?_
        refine s_iload 2 9 rfl rfl ?_
        refine s_istore 2 10 rfl rfl ?_
        refine s_iinc 2 11 rfl rfl rfl ?_
        refine s_iinc 2 12 rfl rfl rfl ?_
        refine s_goto 2 13 41 rfl (by decide) ?_
        exact k_via (hb _ _ (k_sat_some H)) ⟨rfl, rfl, rfl, rfl, rfl, rfl, rfl, trivial⟩
    · refine s_goto 2 4 81 rfl (by decide) ?_
      refine s_iinc 2 12 rfl rfl rfl ?_
      refine s_goto 2 13 41 rfl (by decide) ?_
      exact k_via (hb _ _ (k_sat_some H)) ⟨rfl, rfl, rfl, rfl, rfl, rfl, rfl, trivial⟩
