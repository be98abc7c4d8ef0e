set_option maxRecDepth 100000 in
theorem c_Shelves_hasPart (g : k_G)  (p1 : Int32) (p2 : Int32) (p3 : Int32) {u : k_S} {QQ : Int32 → k_S → Prop} (H : k_sat (f_Shelves_hasPart  p1 p2 p3 u) QQ) : k_OK g 2 MX8_hasPart [.ref 38, .int p1, .int p2, .int p3] u (k_qi QQ) := by
  have hr : ∀ (r : Int32) (u' : k_S), QQ (r) u' → (k_qi QQ) (some (.int r)) u' := fun r u' h => ⟨_, rfl, h⟩
  refine k_OK.ofW pfX8_hasPart (k_tab_of MX8_hasPart_dec) rfl ?_
  refine s_iloadn 0 0 rfl rfl ?_
  refine s_if_lt 0 1 32 rfl (by decide) H (fun _ H => ?_) (fun _ H => ?_)
  · refine s_const 0 1 2 rfl k_ic_0 ?_
    exact s_zret 1 3 rfl rfl k_z0 (hr _ _ (k_sat_some H))
  · refine s_iloadn 0 2 rfl rfl ?_
    refine s_if_lt 0 3 32 rfl (by decide) H (fun _ H => ?_) (fun _ H => ?_)
    · refine s_const 0 1 2 rfl k_ic_0 ?_
      exact s_zret 1 3 rfl rfl k_z0 (hr _ _ (k_sat_some H))
    · refine s_iloadn 0 4 rfl rfl ?_
      refine s_aloadn 0 5 rfl rfl ?_
      refine s_iloadn 0 6 rfl rfl ?_
      refine s_cvi1 (M' := MX8_sizeOf) 0 7 rfl k_ml140 vvX8_sizeOf rfl rfl (Nat.le_of_ble_eq_true rfl) rfl (c_Shelves_sizeOf g _ (k_sat_bind H)) (fun r2 u1 H => ?_)
      refine s_icmp_gt 0 8 32 rfl (by decide) H (fun _ H => ?_) (fun _ H => ?_)
      · refine s_const 0 1 2 rfl k_ic_0 ?_
        exact s_zret 1 3 rfl rfl k_z0 (hr _ _ (k_sat_some H))
      · refine s_iloadn 0 9 rfl rfl ?_
        refine s_aloadn 0 10 rfl rfl ?_
        refine s_iloadn 0 11 rfl rfl ?_
        refine s_cvi1 (M' := MX8_sizeOf) 0 12 rfl k_ml140 vvX8_sizeOf rfl rfl (Nat.le_of_ble_eq_true rfl) rfl (c_Shelves_sizeOf g _ (k_sat_bind H)) (fun r4 u3 H => ?_)
        refine s_iloadn 0 13 rfl rfl ?_
        refine s_isub 0 14 rfl ?_
        refine s_icmp_gt 0 15 32 rfl (by decide) H (fun _ H => ?_) (fun _ H => ?_)
        · refine s_const 0 1 2 rfl k_ic_0 ?_
          exact s_zret 1 3 rfl rfl k_z0 (hr _ _ (k_sat_some H))
        · refine s_const 1 1 0 rfl k_ic_1 ?_
          refine s_goto 1 1 33 rfl (by decide) ?_
          exact s_zret 1 3 rfl rfl k_z1 (hr _ _ (k_sat_some H))
set_option maxRecDepth 100000 in
theorem t_Shelves_move_J40 (g : k_G)  (v1 : Int32) (v2 : Int32) (v3 : Int32) (v4 : Int32) (v5 : Int32) (v6 : Int32) (v7 : Int32) (s0 : Int32)  {u : k_S} {QQ : ((Int32) ⊕ Unit) → k_S → Prop} {Q : Option Value → k_S → Prop} (hb : ∀ (x : (Int32)) (u' : k_S), QQ (.inl x) u' → k_W g 4 MX8_move 16 [(0, .ref 38), (1, .int v1), (2, .int v2), (3, .int v3), (4, .int v4), (5, .int v5), (6, .int v6), (7, .int x)] [] u' Q) (he : ∀ (y : Unit) (u' : k_S), QQ (.inr y) u' → k_W g 4 MX8_move 67 [] [] u' Q) (H : k_sat (f_Shelves_move_J40  v1 v2 v3 v4 v5 v6 v7 s0 u) QQ) : k_W g 4 MX8_move 40 [(0, .ref 38), (1, .int v1), (2, .int v2), (3, .int v3), (4, .int v4), (5, .int v5), (6, .int v6), (7, .int v7)] [.int s0] u Q := by
  refine s_istore 1 5 rfl rfl ?_
  refine s_aloadn 1 6 rfl rfl ?_
  refine s_iloadn 1 7 rfl rfl ?_
  refine s_iload 1 8 rfl rfl ?_
  refine s_iload 1 9 rfl rfl ?_
  refine s_iadd 1 10 rfl ?_
  refine s_aloadn 1 11 rfl rfl ?_
  refine s_iloadn 1 12 rfl rfl ?_
  refine s_iloadn 1 13 rfl rfl ?_
  refine s_iload 1 14 rfl rfl ?_
  refine s_iadd 1 15 rfl ?_
  refine s_cvl2 (M' := MX8_valueAt) 2 0 rfl k_ml142 vvX8_valueAt rfl rfl (Nat.le_of_ble_eq_true rfl) rfl (c_Shelves_valueAt g _ _ (k_sat_bind H)) (fun r2 u1 H => ?_)
  refine s_cvv3 (M' := MX8_write) 2 1 rfl k_ml143 vvX8_write rfl rfl (Nat.le_of_ble_eq_true rfl) rfl (c_Shelves_write g _ _ _ (k_sat_bind H)) (fun _ u3 H => ?_)
  refine s_iinc 2 2 rfl rfl rfl ?_
  refine s_goto 2 3 16 rfl (by decide) ?_
  exact k_via (hb _ _ (k_sat_some H)) ⟨rfl, rfl, rfl, rfl, rfl, rfl, rfl, rfl, trivial⟩
set_option maxRecDepth 100000 in
theorem t_Shelves_move_B16 (g : k_G)  (v1 : Int32) (v2 : Int32) (v3 : Int32) (v4 : Int32) (v5 : Int32) (v6 : Int32) (v7 : Int32)  {u : k_S} {QQ : ((Int32) ⊕ Unit) → k_S → Prop} {Q : Option Value → k_S → Prop} (hb : ∀ (x : (Int32)) (u' : k_S), QQ (.inl x) u' → k_W g 4 MX8_move 16 [(0, .ref 38), (1, .int v1), (2, .int v2), (3, .int v3), (4, .int v4), (5, .int v5), (6, .int v6), (7, .int x)] [] u' Q) (he : ∀ (y : Unit) (u' : k_S), QQ (.inr y) u' → k_W g 4 MX8_move 67 [] [] u' Q) (H : k_sat (f_Shelves_move_B16  v1 v2 v3 v4 v5 v6 v7 u) QQ) : k_W g 4 MX8_move 16 [(0, .ref 38), (1, .int v1), (2, .int v2), (3, .int v3), (4, .int v4), (5, .int v5), (6, .int v6), (7, .int v7)] [] u Q := by
  refine s_iload 0 9 rfl rfl ?_
  refine s_iload 0 10 rfl rfl ?_
  refine s_icmp_ge 0 11 67 rfl (by decide) H (fun _ H => ?_) (fun _ H => ?_)
  · exact k_via (he _ _ (k_sat_some H)) trivial
  · refine s_iload 0 12 rfl rfl ?_
    refine s_if_eq 0 13 38 rfl (by decide) H (fun _ H => ?_) (fun _ H => ?_)
    · refine s_iload 1 4 rfl rfl ?_
      exact k_via (t_Shelves_move_J40 g  _ _ _ _ _ _ _ _  hb he H) ⟨rfl, rfl, rfl, rfl, rfl, rfl, rfl, rfl, trivial⟩
    · refine s_iload 0 14 rfl rfl ?_
      refine s_const 1 0 15 rfl k_ic_1 ?_
      refine s_isub 1 0 rfl ?_
      refine s_iload 1 1 rfl rfl ?_
      refine s_isub 1 2 rfl ?_
      refine s_goto 1 3 40 rfl (by decide) ?_
      exact k_via (t_Shelves_move_J40 g  _ _ _ _ _ _ _ _  hb he H) ⟨rfl, rfl, rfl, rfl, rfl, rfl, rfl, rfl, trivial⟩
set_option maxRecDepth 100000 in
theorem l_Shelves_move_B16 (g : k_G)  (v1 : Int32) (v2 : Int32) (v3 : Int32) (v4 : Int32) (v5 : Int32) (v6 : Int32) {Q : Option Value → k_S → Prop} {K : Unit → k_S → Prop} (he : ∀ (y : Unit) (u' : k_S), K (y) u' → k_W g 4 MX8_move 67 [] [] u' Q) : ∀ (n : Nat) (x : (Int32)) (u : k_S), k_sat (k_itr (fun (x : (Int32)) u => f_Shelves_move_B16  v1 v2 v3 v4 v5 v6 x u) n x u) K → k_W g 4 MX8_move 16 [(0, .ref 38), (1, .int v1), (2, .int v2), (3, .int v3), (4, .int v4), (5, .int v5), (6, .int v6), (7, .int x)] [] u Q :=
  k_loop (P := fun (x : (Int32)) u => k_W g 4 MX8_move 16 [(0, .ref 38), (1, .int v1), (2, .int v2), (3, .int v3), (4, .int v4), (5, .int v5), (6, .int v6), (7, .int x)] [] u Q) (fun (x : (Int32)) u H => t_Shelves_move_B16 g  v1 v2 v3 v4 v5 v6 x  (fun x u' h => h) (fun y u' h => he y u' h) H)
set_option maxRecDepth 100000 in
theorem t_Shelves_move_J11 (g : k_G)  (v1 : Int32) (v2 : Int32) (v3 : Int32) (v4 : Int32) (v5 : Int32) (s0 : Int32)  {u : k_S} {QQ : Unit → k_S → Prop} {Q : Option Value → k_S → Prop} (hr : ∀ (r : Unit) (u' : k_S), QQ (r) u' → (Q) (none) u') (H : k_sat (f_Shelves_move_J11  v1 v2 v3 v4 v5 s0 u) QQ) : k_W g 4 MX8_move 11 [(0, .ref 38), (1, .int v1), (2, .int v2), (3, .int v3), (4, .int v4), (5, .int v5)] [.int s0] u Q := by
  refine s_istore 0 6 rfl rfl ?_
  refine s_const 0 0 7 rfl k_ic_0 ?_
  refine s_istore 0 8 rfl rfl ?_
  refine k_via (l_Shelves_move_B16 g  v1 v2 v3 v4 v5 s0 ?_ _ _ _ (k_sat_bind H)) ⟨rfl, rfl, rfl, rfl, rfl, rfl, rfl, rfl, trivial⟩
  · intro y5 u4 H
    exact s_ret 2 4 rfl rfl (hr _ _ (k_sat_some H))
set_option maxRecDepth 100000 in
theorem c_Shelves_move (g : k_G)  (p1 : Int32) (p2 : Int32) (p3 : Int32) (p4 : Int32) (p5 : Int32) {u : k_S} {QQ : Unit → k_S → Prop} (H : k_sat (f_Shelves_move  p1 p2 p3 p4 p5 u) QQ) : k_OK g 4 MX8_move [.ref 38, .int p1, .int p2, .int p3, .int p4, .int p5] u (k_qv QQ) := by
  have hr : ∀ (r : Unit) (u' : k_S), QQ (r) u' → (k_qv QQ) (none) u' := fun r u' h => ⟨rfl, h⟩
  refine k_OK.ofW pfX8_move (k_tab_of MX8_move_dec) rfl ?_
  refine s_iload 0 0 rfl rfl ?_
  refine s_iloadn 0 1 rfl rfl ?_
  refine s_icmp_le 0 2 10 rfl (by decide) H (fun _ H => ?_) (fun _ H => ?_)
  · refine s_const 0 0 5 rfl k_ic_0 ?_
    exact k_via (t_Shelves_move_J11 g  _ _ _ _ _ _  hr H) ⟨rfl, rfl, rfl, rfl, rfl, rfl, trivial⟩
  · refine s_const 1 0 3 rfl k_ic_1 ?_
    refine s_goto 0 4 11 rfl (by decide) ?_
    exact k_via (t_Shelves_move_J11 g  _ _ _ _ _ _  hr H) ⟨rfl, rfl, rfl, rfl, rfl, rfl, trivial⟩
set_option maxRecDepth 100000 in
theorem c_W_shift (g : k_G)  (p1 : Int32) (p2 : Int32) (p3 : Int32) (p4 : Int32) (p5 : Int32) {u : k_S} {QQ : Int32 → k_S → Prop} (H : k_sat (f_W_shift  p1 p2 p3 p4 p5 u) QQ) : k_OK g 5 MX11_shift [.ref 0, .int p1, .int p2, .int p3, .int p4, .int p5] u (k_qi QQ) := by
  have hr : ∀ (r : Int32) (u' : k_S), QQ (r) u' → (k_qi QQ) (some (.int r)) u' := fun r u' h => ⟨_, rfl, h⟩
  refine k_OK.ofW pfX11_shift (k_tab_of MX11_shift_dec) rfl ?_
  refine s_aloadn 0 0 rfl rfl ?_
  refine s_getr 0 1 rfl k_fl9 rfl rfl rfl rfl ?_
  refine s_iloadn 0 2 rfl rfl ?_
  refine s_cvi1 (M' := MX8_has) 0 3 rfl k_ml40 vvX8_has rfl rfl (Nat.le_of_ble_eq_true rfl) rfl (c_Shelves_has g _ (k_sat_bind H)) (fun r2 u1 H => ?_)
  refine s_if_eq 0 4 22 rfl (by decide) H (fun _ H => ?_) (fun _ H => ?_)
  · refine s_const (-1) 0 10 rfl k_ic_m1 ?_
    exact s_iret 0 11 rfl rfl (hr _ _ (k_sat_some H))
  · refine s_aloadn 0 5 rfl rfl ?_
    refine s_getr 0 6 rfl k_fl9 rfl rfl rfl rfl ?_
    refine s_iloadn 0 7 rfl rfl ?_
    refine s_cvi1 (M' := MX8_has) 0 8 rfl k_ml40 vvX8_has rfl rfl (Nat.le_of_ble_eq_true rfl) rfl (c_Shelves_has g _ (k_sat_bind H)) (fun r4 u3 H => ?_)
    refine s_if_ne 0 9 24 rfl (by decide) H (fun _ H => ?_) (fun _ H => ?_)
    · refine s_aloadn 0 12 rfl rfl ?_
      refine s_getr 0 13 rfl k_fl9 rfl rfl rfl rfl ?_
      refine s_iloadn 0 14 rfl rfl ?_
      refine s_cvi1 (M' := MX8_heldBy) 0 15 rfl k_ml41 vvX8_heldBy rfl rfl (Nat.le_of_ble_eq_true rfl) rfl (c_Shelves_heldBy g _ (k_sat_bind H)) (fun r6 u5 H => ?_)
      refine s_istore 1 0 rfl rfl ?_
      refine s_aloadn 1 1 rfl rfl ?_
      refine s_getr 1 2 rfl k_fl9 rfl rfl rfl rfl ?_
      refine s_iloadn 1 3 rfl rfl ?_
      refine s_cvi1 (M' := MX8_heldBy) 1 4 rfl k_ml41 vvX8_heldBy rfl rfl (Nat.le_of_ble_eq_true rfl) rfl (c_Shelves_heldBy g _ (k_sat_bind H)) (fun r8 u7 H => ?_)
      refine s_istore 1 5 rfl rfl ?_
      refine s_iload 1 6 rfl rfl ?_
      refine s_const (-1) 1 7 rfl k_ic_m1 ?_
      refine s_icmp_eq 1 8 56 rfl (by decide) H (fun _ H => ?_) (fun _ H => ?_)
      · refine s_bipush (-11) 1 12 rfl k_ib_m11 ?_
        exact s_iret 1 13 rfl rfl (hr _ _ (k_sat_some H))
      · refine s_iload 1 9 rfl rfl ?_
        refine s_const (-1) 1 10 rfl k_ic_m1 ?_
        refine s_icmp_ne 1 11 59 rfl (by decide) H (fun _ H => ?_) (fun _ H => ?_)
        · refine s_iload 1 14 rfl rfl ?_
          refine s_const 5 1 15 rfl k_ic_5 ?_
          refine s_icmp_eq 2 0 72 rfl (by decide) H (fun _ H => ?_) (fun _ H => ?_)
          · refine s_bipush (-12) 2 4 rfl k_ib_m12 ?_
            exact s_iret 2 5 rfl rfl (hr _ _ (k_sat_some H))
          · refine s_iload 2 1 rfl rfl ?_
            refine s_iload 2 2 rfl rfl ?_
            refine s_icmp_eq 2 3 75 rfl (by decide) H (fun _ H => ?_) (fun _ H => ?_)
            · refine s_aloadn 2 6 rfl rfl ?_
              refine s_getr 2 7 rfl k_fl9 rfl rfl rfl rfl ?_
              refine s_iloadn 2 8 rfl rfl ?_
              refine s_iloadn 2 9 rfl rfl ?_
              refine s_iload 2 10 rfl rfl ?_
              refine s_cvi3 (M' := MX8_hasPart) 2 11 rfl k_ml61 vvX8_hasPart rfl rfl (Nat.le_of_ble_eq_true rfl) rfl (c_Shelves_hasPart g _ _ _ (k_sat_bind H)) (fun r10 u9 H => ?_)
              refine s_if_eq 2 12 104 rfl (by decide) H (fun _ H => ?_) (fun _ H => ?_)
              · refine s_bipush (-13) 3 4 rfl k_ib_m13 ?_
                exact s_iret 3 5 rfl rfl (hr _ _ (k_sat_some H))
              · refine s_aloadn 2 13 rfl rfl ?_
                refine s_getr 2 14 rfl k_fl9 rfl rfl rfl rfl ?_
                refine s_iloadn 2 15 rfl rfl ?_
                refine s_iload 3 0 rfl rfl ?_
                refine s_iload 3 1 rfl rfl ?_
                refine s_cvi3 (M' := MX8_hasPart) 3 2 rfl k_ml61 vvX8_hasPart rfl rfl (Nat.le_of_ble_eq_true rfl) rfl (c_Shelves_hasPart g _ _ _ (k_sat_bind H)) (fun r12 u11 H => ?_)
                refine s_if_ne 3 3 107 rfl (by decide) H (fun _ H => ?_) (fun _ H => ?_)
                · refine s_aloadn 3 6 rfl rfl ?_
                  refine s_getr 3 7 rfl k_fl9 rfl rfl rfl rfl ?_
                  refine s_iloadn 3 8 rfl rfl ?_
                  refine s_iloadn 3 9 rfl rfl ?_
                  refine s_iloadn 3 10 rfl rfl ?_
                  refine s_iload 3 11 rfl rfl ?_
                  refine s_iload 3 12 rfl rfl ?_
                  refine s_cvv5 (M' := MX8_move) 3 13 rfl k_ml62 vvX8_move rfl rfl (Nat.le_of_ble_eq_true rfl) rfl (c_Shelves_move g _ _ _ _ _ (k_sat_bind H)) (fun _ u13 H => ?_)
                  refine s_iload 3 14 rfl rfl ?_
                  exact s_iret 3 15 rfl rfl (hr _ _ (k_sat_some H))
                · refine s_bipush (-13) 3 4 rfl k_ib_m13 ?_
                  exact s_iret 3 5 rfl rfl (hr _ _ (k_sat_some H))
            · refine s_bipush (-12) 2 4 rfl k_ib_m12 ?_
              exact s_iret 2 5 rfl rfl (hr _ _ (k_sat_some H))
        · refine s_bipush (-11) 1 12 rfl k_ib_m11 ?_
          exact s_iret 1 13 rfl rfl (hr _ _ (k_sat_some H))
    · refine s_const (-1) 0 10 rfl k_ic_m1 ?_
      exact s_iret 0 11 rfl rfl (hr _ _ (k_sat_some H))
set_option maxRecDepth 100000 in
theorem t_R_shift_B113 (g : k_G)  (v1 : Int32) (v2 : Int32) (v3 : Int32) (v4 : Int32) (v5 : Int32) (v6 : Int32)  {u : k_S} {QQ : ((Int32) ⊕ Unit) → k_S → Prop} {Q : Option Value → k_S → Prop} (hb : ∀ (x : (Int32)) (u' : k_S), QQ (.inl x) u' → k_W g 3 MX12_shift 113 [(0, .ref 42), (1, .int v1), (2, .int v2), (3, .int v3), (4, .int v4), (5, .int v5), (6, .int x)] [] u' Q) (he : ∀ (y : Unit) (u' : k_S), QQ (.inr y) u' → k_W g 3 MX12_shift 147 [(0, .ref 42), (3, .int v3), (4, .int v4), (5, .int v5)] [] u' Q) (H : k_sat (f_R_shift_B113  v1 v2 v3 v4 v5 v6 u) QQ) : k_W g 3 MX12_shift 113 [(0, .ref 42), (1, .int v1), (2, .int v2), (3, .int v3), (4, .int v4), (5, .int v5), (6, .int v6)] [] u Q := by
  refine s_iload 4 0 rfl rfl ?_
  refine s_iload 4 1 rfl rfl ?_
  refine s_icmp_ge 4 2 147 rfl (by decide) H (fun _ H => ?_) (fun _ H => ?_)
  · exact k_via (he _ _ (k_sat_some H)) ⟨rfl, rfl, rfl, rfl, trivial⟩
  · refine s_aloadn 4 3 rfl rfl ?_
    refine s_getr 4 4 rfl k_fl120 rfl rfl rfl rfl ?_
    refine s_iload 4 5 rfl rfl ?_
    refine s_aloadn 4 6 rfl rfl ?_
    refine s_getr 4 7 rfl k_fl119 rfl rfl rfl rfl ?_
    refine s_bipush 60 4 8 rfl k_ib_60 ?_
    refine s_iloadn 4 9 rfl rfl ?_
    refine s_imul 4 10 rfl ?_
    refine s_iloadn 4 11 rfl rfl ?_
    refine s_iadd 4 12 rfl ?_
    refine s_iload 4 13 rfl rfl ?_
    refine s_iadd 4 14 rfl ?_
    refine s_lald 4 15 rfl rfl H (fun _ H => ?_)
    refine s_last 5 0 rfl rfl H (fun u5 H => ?_)
    refine s_iinc 5 1 rfl rfl rfl ?_
    refine s_goto 5 2 113 rfl (by decide) ?_
    exact k_via (hb _ _ (k_sat_some H)) ⟨rfl, rfl, rfl, rfl, rfl, rfl, rfl, trivial⟩
set_option maxRecDepth 100000 in
theorem l_R_shift_B113 (g : k_G)  (v1 : Int32) (v2 : Int32) (v3 : Int32) (v4 : Int32) (v5 : Int32) {Q : Option Value → k_S → Prop} {K : Unit → k_S → Prop} (he : ∀ (y : Unit) (u' : k_S), K (y) u' → k_W g 3 MX12_shift 147 [(0, .ref 42), (3, .int v3), (4, .int v4), (5, .int v5)] [] u' Q) : ∀ (n : Nat) (x : (Int32)) (u : k_S), k_sat (k_itr (fun (x : (Int32)) u => f_R_shift_B113  v1 v2 v3 v4 v5 x u) n x u) K → k_W g 3 MX12_shift 113 [(0, .ref 42), (1, .int v1), (2, .int v2), (3, .int v3), (4, .int v4), (5, .int v5), (6, .int x)] [] u Q :=
  k_loop (P := fun (x : (Int32)) u => k_W g 3 MX12_shift 113 [(0, .ref 42), (1, .int v1), (2, .int v2), (3, .int v3), (4, .int v4), (5, .int v5), (6, .int x)] [] u Q) (fun (x : (Int32)) u H => t_R_shift_B113 g  v1 v2 v3 v4 v5 x  (fun x u' h => h) (fun y u' h => he y u' h) H)
set_option maxRecDepth 100000 in
theorem t_R_shift_B150 (g : k_G)  (v3 : Int32) (v4 : Int32) (v5 : Int32) (v6 : Int32)  {u : k_S} {QQ : ((Int32) ⊕ Unit) → k_S → Prop} {Q : Option Value → k_S → Prop} (hb : ∀ (x : (Int32)) (u' : k_S), QQ (.inl x) u' → k_W g 3 MX12_shift 150 [(0, .ref 42), (3, .int v3), (4, .int v4), (5, .int v5), (6, .int x)] [] u' Q) (he : ∀ (y : Unit) (u' : k_S), QQ (.inr y) u' → k_W g 3 MX12_shift 185 [(5, .int v5)] [] u' Q) (H : k_sat (f_R_shift_B150  v3 v4 v5 v6 u) QQ) : k_W g 3 MX12_shift 150 [(0, .ref 42), (3, .int v3), (4, .int v4), (5, .int v5), (6, .int v6)] [] u Q := by
  refine s_iload 5 5 rfl rfl ?_
  refine s_iload 5 6 rfl rfl ?_
  refine s_icmp_ge 5 7 185 rfl (by decide) H (fun _ H => ?_) (fun _ H => ?_)
  · exact k_via (he _ _ (k_sat_some H)) ⟨rfl, trivial⟩
  · refine s_aloadn 5 8 rfl rfl ?_
    refine s_getr 5 9 rfl k_fl119 rfl rfl rfl rfl ?_
    refine s_bipush 60 5 10 rfl k_ib_60 ?_
    refine s_iloadn 5 11 rfl rfl ?_
    refine s_imul 5 12 rfl ?_
    refine s_iload 5 13 rfl rfl ?_
    refine s_iadd 5 14 rfl ?_
    refine s_iload 5 15 rfl rfl ?_
    refine s_iadd 6 0 rfl ?_
    refine s_aloadn 6 1 rfl rfl ?_
    refine s_getr 6 2 rfl k_fl120 rfl rfl rfl rfl ?_
    refine s_iload 6 3 rfl rfl ?_
    refine s_lald 6 4 rfl rfl H (fun _ H => ?_)
    refine s_last 6 5 rfl rfl H (fun u8 H => ?_)
    refine s_iinc 6 6 rfl rfl rfl ?_
    refine s_goto 6 7 150 rfl (by decide) ?_
    exact k_via (hb _ _ (k_sat_some H)) ⟨rfl, rfl, rfl, rfl, rfl, trivial⟩
set_option maxRecDepth 100000 in
theorem l_R_shift_B150 (g : k_G)  (v3 : Int32) (v4 : Int32) (v5 : Int32) {Q : Option Value → k_S → Prop} {K : Unit → k_S → Prop} (he : ∀ (y : Unit) (u' : k_S), K (y) u' → k_W g 3 MX12_shift 185 [(5, .int v5)] [] u' Q) : ∀ (n : Nat) (x : (Int32)) (u : k_S), k_sat (k_itr (fun (x : (Int32)) u => f_R_shift_B150  v3 v4 v5 x u) n x u) K → k_W g 3 MX12_shift 150 [(0, .ref 42), (3, .int v3), (4, .int v4), (5, .int v5), (6, .int x)] [] u Q :=
  k_loop (P := fun (x : (Int32)) u => k_W g 3 MX12_shift 150 [(0, .ref 42), (3, .int v3), (4, .int v4), (5, .int v5), (6, .int x)] [] u Q) (fun (x : (Int32)) u H => t_R_shift_B150 g  v3 v4 v5 x  (fun x u' h => h) (fun y u' h => he y u' h) H)
set_option maxRecDepth 100000 in
theorem c_R_shift (g : k_G)  (p1 : Int32) (p2 : Int32) (p3 : Int32) (p4 : Int32) (p5 : Int32) {u : k_S} {QQ : Int32 → k_S → Prop} (H : k_sat (f_R_shift  p1 p2 p3 p4 p5 u) QQ) : k_OK g 3 MX12_shift [.ref 42, .int p1, .int p2, .int p3, .int p4, .int p5] u (k_qi QQ) := by
  have hr : ∀ (r : Int32) (u' : k_S), QQ (r) u' → (k_qi QQ) (some (.int r)) u' := fun r u' h => ⟨_, rfl, h⟩
  refine k_OK.ofW pfX12_shift (k_tab_of MX12_shift_dec) rfl ?_
  refine s_iloadn 0 0 rfl rfl ?_
  refine s_csi1 (M' := MX12_isShelf) 0 1 rfl k_ml263 vvX12_isShelf (Nat.le_of_ble_eq_true rfl) rfl (c_R_isShelf g _ (k_sat_bind H)) (fun r2 u1 H => ?_)
  refine s_if_eq 0 2 14 rfl (by decide) H (fun _ H => ?_) (fun _ H => ?_)
  · refine s_const (-1) 0 6 rfl k_ic_m1 ?_
    exact s_iret 0 7 rfl rfl (hr _ _ (k_sat_some H))
  · refine s_iloadn 0 3 rfl rfl ?_
    refine s_csi1 (M' := MX12_isShelf) 0 4 rfl k_ml263 vvX12_isShelf (Nat.le_of_ble_eq_true rfl) rfl (c_R_isShelf g _ (k_sat_bind H)) (fun r4 u3 H => ?_)
    refine s_if_ne 0 5 16 rfl (by decide) H (fun _ H => ?_) (fun _ H => ?_)
    · refine s_aloadn 0 8 rfl rfl ?_
      refine s_getr 0 9 rfl k_fl117 rfl rfl rfl rfl ?_
      refine s_iloadn 0 10 rfl rfl ?_
      refine s_iald 0 11 rfl rfl H (fun _ H => ?_)
      refine s_const (-1) 0 12 rfl k_ic_m1 ?_
      refine s_icmp_eq 0 13 36 rfl (by decide) H (fun _ H => ?_) (fun _ H => ?_)
      · refine s_bipush (-11) 1 4 rfl k_ib_m11 ?_
        exact s_iret 1 5 rfl rfl (hr _ _ (k_sat_some H))
      · refine s_aloadn 0 14 rfl rfl ?_
        refine s_getr 0 15 rfl k_fl117 rfl rfl rfl rfl ?_
        refine s_iloadn 1 0 rfl rfl ?_
        refine s_iald 1 1 rfl rfl H (fun _ H => ?_)
        refine s_const (-1) 1 2 rfl k_ic_m1 ?_
        refine s_icmp_ne 1 3 39 rfl (by decide) H (fun _ H => ?_) (fun _ H => ?_)
        · refine s_aloadn 1 6 rfl rfl ?_
          refine s_getr 1 7 rfl k_fl117 rfl rfl rfl rfl ?_
          refine s_iloadn 1 8 rfl rfl ?_
          refine s_iald 1 9 rfl rfl H (fun _ H => ?_)
          refine s_if_ge 1 10 63 rfl (by decide) H (fun _ H => ?_) (fun _ H => ?_)
          · refine s_bipush (-12) 2 4 rfl k_ib_m12 ?_
            exact s_iret 2 5 rfl rfl (hr _ _ (k_sat_some H))
          · refine s_aloadn 1 11 rfl rfl ?_
            refine s_getr 1 12 rfl k_fl117 rfl rfl rfl rfl ?_
            refine s_iloadn 1 13 rfl rfl ?_
            refine s_iald 1 14 rfl rfl H (fun _ H => ?_)
            refine s_aloadn 1 15 rfl rfl ?_
            refine s_getr 2 0 rfl k_fl117 rfl rfl rfl rfl ?_
            refine s_iloadn 2 1 rfl rfl ?_
            refine s_iald 2 2 rfl rfl H (fun _ H => ?_)
            refine s_icmp_eq 2 3 66 rfl (by decide) H (fun _ H => ?_) (fun _ H => ?_)
            · refine s_iload 2 6 rfl rfl ?_
              refine s_if_lt 2 7 107 rfl (by decide) H (fun _ H => ?_) (fun _ H => ?_)
              · refine s_bipush (-13) 3 12 rfl k_ib_m13 ?_
                exact s_iret 3 13 rfl rfl (hr _ _ (k_sat_some H))
              · refine s_iloadn 2 8 rfl rfl ?_
                refine s_if_lt 2 9 107 rfl (by decide) H (fun _ H => ?_) (fun _ H => ?_)
                · refine s_bipush (-13) 3 12 rfl k_ib_m13 ?_
                  exact s_iret 3 13 rfl rfl (hr _ _ (k_sat_some H))
                · refine s_iload 2 10 rfl rfl ?_
                  refine s_if_lt 2 11 107 rfl (by decide) H (fun _ H => ?_) (fun _ H => ?_)
                  · refine s_bipush (-13) 3 12 rfl k_ib_m13 ?_
                    exact s_iret 3 13 rfl rfl (hr _ _ (k_sat_some H))
                  · refine s_iloadn 2 12 rfl rfl ?_
                    refine s_aloadn 2 13 rfl rfl ?_
                    refine s_getr 2 14 rfl k_fl118 rfl rfl rfl rfl ?_
                    refine s_iloadn 2 15 rfl rfl ?_
                    refine s_iald 3 0 rfl rfl H (fun _ H => ?_)
                    refine s_iload 3 1 rfl rfl ?_
                    refine s_isub 3 2 rfl ?_
                    refine s_icmp_gt 3 3 107 rfl (by decide) H (fun _ H => ?_) (fun _ H => ?_)
                    · refine s_bipush (-13) 3 12 rfl k_ib_m13 ?_
                      exact s_iret 3 13 rfl rfl (hr _ _ (k_sat_some H))
                    · refine s_iload 3 4 rfl rfl ?_
                      refine s_aloadn 3 5 rfl rfl ?_
                      refine s_getr 3 6 rfl k_fl118 rfl rfl rfl rfl ?_
                      refine s_iloadn 3 7 rfl rfl ?_
                      refine s_iald 3 8 rfl rfl H (fun _ H => ?_)
                      refine s_iload 3 9 rfl rfl ?_
                      refine s_isub 3 10 rfl ?_
                      refine s_icmp_le 3 11 110 rfl (by decide) H (fun _ H => ?_) (fun _ H => ?_)
                      · refine s_const 0 3 14 rfl k_ic_0 ?_
                        refine s_istore 3 15 rfl rfl ?_
                        refine k_via (l_R_shift_B113 g  p1 p2 p3 p4 p5 ?_ _ _ _ (k_sat_bind H)) ⟨rfl, rfl, rfl, rfl, rfl, rfl, rfl, trivial⟩
                        · intro y7 u6 H
                          refine s_const 0 5 3 rfl k_ic_0 ?_
                          refine s_istore 5 4 rfl rfl ?_
                          refine k_via (l_R_shift_B150 g  p3 p4 p5 ?_ _ _ _ (k_sat_bind H)) ⟨rfl, rfl, rfl, rfl, rfl, trivial⟩
                          · intro y10 u9 H
                            refine s_iload 6 8 rfl rfl ?_
                            exact s_iret 6 9 rfl rfl (hr _ _ (k_sat_some H))
                      · refine s_bipush (-13) 3 12 rfl k_ib_m13 ?_
                        exact s_iret 3 13 rfl rfl (hr _ _ (k_sat_some H))
            · refine s_bipush (-12) 2 4 rfl k_ib_m12 ?_
              exact s_iret 2 5 rfl rfl (hr _ _ (k_sat_some H))
        · refine s_bipush (-11) 1 4 rfl k_ib_m11 ?_
          exact s_iret 1 5 rfl rfl (hr _ _ (k_sat_some H))
    · refine s_const (-1) 0 6 rfl k_ic_m1 ?_
      exact s_iret 0 7 rfl rfl (hr _ _ (k_sat_some H))
set_option maxRecDepth 100000 in
theorem t_Bodies_isUnder_B5 (g : k_G)  (v2 : Int32) (v3 : Int32) (v4 : Int32)  {u : k_S} {QQ : ((Int32 × Int32) ⊕ (Int32 ⊕ Unit)) → k_S → Prop} {Q : Option Value → k_S → Prop} (hr : ∀ (r : Int32) (u' : k_S), QQ (.inr (.inl r)) u' → (Q) (some (.int r)) u') (hb : ∀ (x : (Int32 × Int32)) (u' : k_S), QQ (.inl x) u' → k_W g 1 MX0_isUnder 5 [(2, .int v2), (3, .int x.1), (4, .int x.2)] [] u' Q) (he : ∀ (y : Unit) (u' : k_S), QQ (.inr (.inr y)) u' → k_W g 1 MX0_isUnder 43 [] [] u' Q) (H : k_sat (f_Bodies_isUnder_B5  v2 v3 v4 u) QQ) : k_W g 1 MX0_isUnder 5 [(2, .int v2), (3, .int v3), (4, .int v4)] [] u Q := by
  refine s_iload 0 4 rfl rfl ?_
  refine s_bipush 8 0 5 rfl k_ib_8 ?_
  refine s_icmp_ge 0 6 43 rfl (by decide) H (fun _ H => ?_) (fun _ H => ?_)
  · exact k_via (he _ _ (k_sat_some H)) trivial
  · refine s_iloadn 0 7 rfl rfl ?_
    refine s_if_lt 0 8 43 rfl (by decide) H (fun _ H => ?_) (fun _ H => ?_)
    · exact k_via (he _ _ (k_sat_some H)) trivial
    · refine s_iloadn 0 9 rfl rfl ?_
      refine s_gets 0 10 2 rfl rfl (k_in (lw_T3 (List.mem_of_getElem? (i := 107) (by decide +kernel))) rfl) ?_
      refine s_olen 8 0 11 rfl rfl k_ln_8 ?_
      refine s_icmp_ge 0 12 43 rfl (by decide) H (fun _ H => ?_) (fun _ H => ?_)
      · exact k_via (he _ _ (k_sat_some H)) trivial
      · refine s_iloadn 0 13 rfl rfl ?_
        refine s_iloadn 0 14 rfl rfl ?_
        refine s_icmp_ne 0 15 31 rfl (by decide) H (fun _ H => ?_) (fun _ H => ?_)
        · refine s_gets 1 2 2 rfl rfl (k_in (lw_T3 (List.mem_of_getElem? (i := 107) (by decide +kernel))) rfl) ?_
          refine s_iloadn 1 3 rfl rfl ?_
          refine s_oald 1 4 rfl rfl H (fun _ H => ?_)
          refine k_topi H (fun t1 H => ?_)
          refine s_istoren 1 5 rfl rfl ?_
          refine s_iinc 1 6 rfl rfl rfl ?_
          refine s_goto 1 7 5 rfl (by decide) ?_
          exact k_via (hb _ _ (k_sat_some H)) ⟨rfl, rfl, rfl, trivial⟩
        · refine s_const 1 1 0 rfl k_ic_1 ?_
          exact s_zret 1 1 rfl rfl k_z1 (hr _ _ (k_sat_some H))
set_option maxRecDepth 100000 in
theorem l_Bodies_isUnder_B5 (g : k_G)  (v2 : Int32) {Q : Option Value → k_S → Prop} {K : (Int32 ⊕ Unit) → k_S → Prop} (hr : ∀ (r : Int32) (u' : k_S), K (.inl r) u' → Q (some (.int r)) u') (he : ∀ (y : Unit) (u' : k_S), K (.inr y) u' → k_W g 1 MX0_isUnder 43 [] [] u' Q) : ∀ (n : Nat) (x : (Int32 × Int32)) (u : k_S), k_sat (k_itr (fun (x : (Int32 × Int32)) u => f_Bodies_isUnder_B5  v2 x.1 x.2 u) n x u) K → k_W g 1 MX0_isUnder 5 [(2, .int v2), (3, .int x.1), (4, .int x.2)] [] u Q :=
  k_loop (P := fun (x : (Int32 × Int32)) u => k_W g 1 MX0_isUnder 5 [(2, .int v2), (3, .int x.1), (4, .int x.2)] [] u Q) (fun (x : (Int32 × Int32)) u H => t_Bodies_isUnder_B5 g  v2 x.1 x.2  (fun r u' h => hr r u' h) (fun x u' h => h) (fun y u' h => he y u' h) H)
set_option maxRecDepth 100000 in
theorem c_Bodies_isUnder (g : k_G)  (p1 : Int32) (p2 : Int32) {u : k_S} {QQ : Int32 → k_S → Prop} (H : k_sat (f_Bodies_isUnder  p1 p2 u) QQ) : k_OK g 1 MX0_isUnder [.ref 35, .int p1, .int p2] u (k_qi QQ) := by
  have hr : ∀ (r : Int32) (u' : k_S), QQ (r) u' → (k_qi QQ) (some (.int r)) u' := fun r u' h => ⟨_, rfl, h⟩
  refine k_OK.ofW pfX0_isUnder (k_tab_of MX0_isUnder_dec) rfl ?_
  refine s_iloadn 0 0 rfl rfl ?_
  refine s_istoren 0 1 rfl rfl ?_
  refine s_const 0 0 2 rfl k_ic_0 ?_
  refine s_istore 0 3 rfl rfl ?_
  refine k_via (l_Bodies_isUnder_B5 g  p2 ?_ ?_ _ _ _ (k_sat_bind H)) ⟨rfl, rfl, rfl, trivial⟩
  · exact fun r u' h => hr r u' (k_sat_some h)
  · intro y3 u2 H
    replace H := k_sat_csr H
    refine s_const 0 1 8 rfl k_ic_0 ?_
    exact s_zret 1 9 rfl rfl k_z0 (hr _ _ (k_sat_some H))
set_option maxRecDepth 100000 in
theorem c_W_taken (g : k_G)  (p1 : Int32) (p2 : Int32) {u : k_S} {QQ : Int32 → k_S → Prop} (H : k_sat (f_W_taken  p1 p2 u) QQ) : k_OK g 3 MX11_taken [.ref 0, .int p1, .int p2] u (k_qi QQ) := by
  have hr : ∀ (r : Int32) (u' : k_S), QQ (r) u' → (k_qi QQ) (some (.int r)) u' := fun r u' h => ⟨_, rfl, h⟩
  refine k_OK.ofW pfX11_taken (k_tab_of MX11_taken_dec) rfl ?_
  refine s_aloadn 0 0 rfl rfl ?_
  refine s_getr 0 1 rfl k_fl9 rfl rfl rfl rfl ?_
  refine s_iloadn 0 2 rfl rfl ?_
  refine s_cvi1 (M' := MX8_has) 0 3 rfl k_ml40 vvX8_has rfl rfl (Nat.le_of_ble_eq_true rfl) rfl (c_Shelves_has g _ (k_sat_bind H)) (fun r2 u1 H => ?_)
  refine s_if_eq 0 4 21 rfl (by decide) H (fun _ H => ?_) (fun _ H => ?_)
  · refine s_const (-1) 0 10 rfl k_ic_m1 ?_
    exact s_iret 0 11 rfl rfl (hr _ _ (k_sat_some H))
  · refine s_iloadn 0 5 rfl rfl ?_
    refine s_if_lt 0 6 21 rfl (by decide) H (fun _ H => ?_) (fun _ H => ?_)
    · refine s_const (-1) 0 10 rfl k_ic_m1 ?_
      exact s_iret 0 11 rfl rfl (hr _ _ (k_sat_some H))
    · refine s_iloadn 0 7 rfl rfl ?_
      refine s_bipush 8 0 8 rfl k_ib_8 ?_
      refine s_icmp_lt 0 9 23 rfl (by decide) H (fun _ H => ?_) (fun _ H => ?_)
      · refine s_aloadn 0 12 rfl rfl ?_
        refine s_getr 0 13 rfl k_fl9 rfl rfl rfl rfl ?_
        refine s_iloadn 0 14 rfl rfl ?_
        refine s_cvi1 (M' := MX8_heldBy) 0 15 rfl k_ml41 vvX8_heldBy rfl rfl (Nat.le_of_ble_eq_true rfl) rfl (c_Shelves_heldBy g _ (k_sat_bind H)) (fun r4 u3 H => ?_)
        refine s_istoren 1 0 rfl rfl ?_
        refine s_iloadn 1 1 rfl rfl ?_
        refine s_const (-1) 1 2 rfl k_ic_m1 ?_
        refine s_icmp_ne 1 3 40 rfl (by decide) H (fun _ H => ?_) (fun _ H => ?_)
        · refine s_iloadn 1 6 rfl rfl ?_
          refine s_const 5 1 7 rfl k_ic_5 ?_
          refine s_icmp_eq 1 8 48 rfl (by decide) H (fun _ H => ?_) (fun _ H => ?_)
          · refine s_aloadn 1 11 rfl rfl ?_
            refine s_getr 1 12 rfl k_fl8 rfl rfl rfl rfl ?_
            refine s_aloadn 1 13 rfl rfl ?_
            refine s_getr 1 14 rfl k_fl9 rfl rfl rfl rfl ?_
            refine s_iloadn 1 15 rfl rfl ?_
            refine s_cvi1 (M' := MX8_sizeOf) 2 0 rfl k_ml63 vvX8_sizeOf rfl rfl (Nat.le_of_ble_eq_true rfl) rfl (c_Shelves_sizeOf g _ (k_sat_bind H)) (fun r6 u5 H => ?_)
            refine s_cvi1 (M' := MX0_kindOf) 2 1 rfl k_ml64 vvX0_kindOf rfl rfl (Nat.le_of_ble_eq_true rfl) rfl (c_Bodies_kindOf g _ (k_sat_bind H)) (fun r8 u7 H => ?_)
            refine s_istore 2 2 rfl rfl ?_
            refine s_aloadn 2 3 rfl rfl ?_
            refine s_getr 2 4 rfl k_fl8 rfl rfl rfl rfl ?_
            refine s_iload 2 5 rfl rfl ?_
            refine s_iloadn 2 6 rfl rfl ?_
            refine s_cvi2 (M' := MX0_isUnder) 2 7 rfl k_ml65 vvX0_isUnder rfl rfl (Nat.le_of_ble_eq_true rfl) rfl (c_Bodies_isUnder g _ _ (k_sat_bind H)) (fun r10 u9 H => ?_)
            refine s_if_eq 2 8 83 rfl (by decide) H (fun _ H => ?_) (fun _ H => ?_)
            · refine s_bipush (-12) 2 11 rfl k_ib_m12 ?_
              exact s_iret 2 12 rfl rfl (hr _ _ (k_sat_some H))
            · refine s_iload 2 9 rfl rfl ?_
              refine s_goto 2 10 85 rfl (by decide) ?_
              exact s_iret 2 12 rfl rfl (hr _ _ (k_sat_some H))
          · refine s_bipush (-12) 1 9 rfl k_ib_m12 ?_
            exact s_iret 1 10 rfl rfl (hr _ _ (k_sat_some H))
        · refine s_bipush (-11) 1 4 rfl k_ib_m11 ?_
          exact s_iret 1 5 rfl rfl (hr _ _ (k_sat_some H))
      · refine s_const (-1) 0 10 rfl k_ic_m1 ?_
        exact s_iret 0 11 rfl rfl (hr _ _ (k_sat_some H))
set_option maxRecDepth 100000 in
theorem c_R_taken (g : k_G)  (p1 : Int32) (p2 : Int32) {u : k_S} {QQ : Int32 → k_S → Prop} (H : k_sat (f_R_taken  p1 p2 u) QQ) : k_OK g 3 MX12_taken [.ref 42, .int p1, .int p2] u (k_qi QQ) := by
  have hr : ∀ (r : Int32) (u' : k_S), QQ (r) u' → (k_qi QQ) (some (.int r)) u' := fun r u' h => ⟨_, rfl, h⟩
  refine k_OK.ofW pfX12_taken (k_tab_of MX12_taken_dec) rfl ?_
  refine s_iloadn 0 0 rfl rfl ?_
  refine s_csi1 (M' := MX12_isShelf) 0 1 rfl k_ml263 vvX12_isShelf (Nat.le_of_ble_eq_true rfl) rfl (c_R_isShelf g _ (k_sat_bind H)) (fun r2 u1 H => ?_)
  refine s_if_eq 0 2 17 rfl (by decide) H (fun _ H => ?_) (fun _ H => ?_)
  · refine s_const (-1) 0 8 rfl k_ic_m1 ?_
    exact s_iret 0 9 rfl rfl (hr _ _ (k_sat_some H))
  · refine s_iloadn 0 3 rfl rfl ?_
    refine s_const 0 0 4 rfl k_ic_0 ?_
    refine s_bipush 7 0 5 rfl k_ib_7 ?_
    refine s_csi3 (M' := MX12_in) 0 6 rfl k_ml230 vvX12_in (Nat.le_of_ble_eq_true rfl) rfl (c_R_in g _ _ _ (k_sat_bind H)) (fun r4 u3 H => ?_)
    refine s_if_ne 0 7 19 rfl (by decide) H (fun _ H => ?_) (fun _ H => ?_)
    · refine s_aloadn 0 10 rfl rfl ?_
      refine s_getr 0 11 rfl k_fl117 rfl rfl rfl rfl ?_
      refine s_iloadn 0 12 rfl rfl ?_
      refine s_iald 0 13 rfl rfl H (fun _ H => ?_)
      refine s_const (-1) 0 14 rfl k_ic_m1 ?_
      refine s_icmp_ne 0 15 32 rfl (by decide) H (fun _ H => ?_) (fun _ H => ?_)
      · refine s_aloadn 1 2 rfl rfl ?_
        refine s_getr 1 3 rfl k_fl117 rfl rfl rfl rfl ?_
        refine s_iloadn 1 4 rfl rfl ?_
        refine s_iald 1 5 rfl rfl H (fun _ H => ?_)
        refine s_if_lt 1 6 73 rfl (by decide) H (fun _ H => ?_) (fun _ H => ?_)
        · refine s_bipush (-12) 2 9 rfl k_ib_m12 ?_
          exact s_iret 2 10 rfl rfl (hr _ _ (k_sat_some H))
        · refine s_aloadn 1 7 rfl rfl ?_
          refine s_getr 1 8 rfl k_fl115 rfl rfl rfl rfl ?_
          refine s_aloadn 1 9 rfl rfl ?_
          refine s_getr 1 10 rfl k_fl117 rfl rfl rfl rfl ?_
          refine s_iloadn 1 11 rfl rfl ?_
          refine s_iald 1 12 rfl rfl H (fun _ H => ?_)
          refine s_iald 1 13 rfl rfl H (fun _ H => ?_)
          refine s_iloadn 1 14 rfl rfl ?_
          refine s_csi2 (M' := MX12_isUnder) 1 15 rfl k_ml270 vvX12_isUnder (Nat.le_of_ble_eq_true rfl) rfl (c_R_isUnder g _ _ (k_sat_bind H)) (fun r6 u5 H => ?_)
          refine s_if_eq 2 0 73 rfl (by decide) H (fun _ H => ?_) (fun _ H => ?_)
          · refine s_bipush (-12) 2 9 rfl k_ib_m12 ?_
            exact s_iret 2 10 rfl rfl (hr _ _ (k_sat_some H))
          · refine s_aloadn 2 1 rfl rfl ?_
            refine s_getr 2 2 rfl k_fl115 rfl rfl rfl rfl ?_
            refine s_aloadn 2 3 rfl rfl ?_
            refine s_getr 2 4 rfl k_fl117 rfl rfl rfl rfl ?_
            refine s_iloadn 2 5 rfl rfl ?_
            refine s_iald 2 6 rfl rfl H (fun _ H => ?_)
            refine s_iald 2 7 rfl rfl H (fun _ H => ?_)
            refine s_goto 2 8 75 rfl (by decide) ?_
            exact s_iret 2 10 rfl rfl (hr _ _ (k_sat_some H))
      · refine s_bipush (-11) 1 0 rfl k_ib_m11 ?_
        exact s_iret 1 1 rfl rfl (hr _ _ (k_sat_some H))
    · refine s_const (-1) 0 8 rfl k_ic_m1 ?_
      exact s_iret 0 9 rfl rfl (hr _ _ (k_sat_some H))
set_option maxRecDepth 100000 in
theorem c_W_count (g : k_G)  (p1 : Int32) {u : k_S} {QQ : Int32 → k_S → Prop} (H : k_sat (f_W_count  p1 u) QQ) : k_OK g 1 MX11_count [.ref 0, .int p1] u (k_qi QQ) := by
  have hr : ∀ (r : Int32) (u' : k_S), QQ (r) u' → (k_qi QQ) (some (.int r)) u' := fun r u' h => ⟨_, rfl, h⟩
  refine k_OK.ofW pfX11_count (k_tab_of MX11_count_dec) rfl ?_
  refine s_iloadn 0 0 rfl rfl ?_
  by_cases e0 : p1 = 0
  · replace H := k_sat_pos H e0
    refine s_table 0 1 44 rfl 0 e0 (by decide) (by decide) (off := 43) (by decide) (by decide) ?_
    refine s_aloadn 0 2 rfl rfl ?_
    refine s_getr 0 3 rfl k_fl1 rfl rfl rfl rfl ?_
    refine s_geti 303 0 4 rfl k_fl12 rfl rfl rfl rfl rfl ?_
    exact s_iret 0 5 rfl rfl (hr _ _ (k_sat_some H))
  · replace H := k_sat_neg H e0
    by_cases e1 : p1 = 1
    · replace H := k_sat_pos H e1
      refine s_table 0 1 52 rfl 1 e1 (by decide) (by decide) (off := 51) (by decide) (by decide) ?_
      refine s_aloadn 0 6 rfl rfl ?_
      refine s_getr 0 7 rfl k_fl3 rfl rfl rfl rfl ?_
      refine s_getr 0 8 rfl k_fl15 rfl rfl rfl rfl ?_
      refine s_geti 1402 0 9 rfl k_fl16 rfl rfl rfl rfl rfl ?_
      exact s_iret 0 10 rfl rfl (hr _ _ (k_sat_some H))
    · replace H := k_sat_neg H e1
      by_cases e2 : p1 = 2
      · replace H := k_sat_pos H e2
        refine s_table 0 1 63 rfl 2 e2 (by decide) (by decide) (off := 62) (by decide) (by decide) ?_
        refine s_aloadn 0 11 rfl rfl ?_
        refine s_getr 0 12 rfl k_fl4 rfl rfl rfl rfl ?_
        refine s_geti 2003 0 13 rfl k_fl18 rfl rfl rfl rfl rfl ?_
        exact s_iret 0 14 rfl rfl (hr _ _ (k_sat_some H))
      · replace H := k_sat_neg H e2
        by_cases e3 : p1 = 3
        · replace H := k_sat_pos H e3
          refine s_table 0 1 71 rfl 3 e3 (by decide) (by decide) (off := 70) (by decide) (by decide) ?_
          refine s_aloadn 0 15 rfl rfl ?_
          refine s_getr 1 0 rfl k_fl0 rfl rfl rfl rfl ?_
          refine s_geti 101 1 1 rfl k_fl11 rfl rfl rfl rfl rfl ?_
          exact s_iret 1 2 rfl rfl (hr _ _ (k_sat_some H))
        · replace H := k_sat_neg H e3
          by_cases e4 : p1 = 4
          · replace H := k_sat_pos H e4
            refine s_table 0 1 79 rfl 4 e4 (by decide) (by decide) (off := 78) (by decide) (by decide) ?_
            refine s_aloadn 1 3 rfl rfl ?_
            refine s_getr 1 4 rfl k_fl7 rfl rfl rfl rfl ?_
            refine s_geti 3004 1 5 rfl k_fl22 rfl rfl rfl rfl rfl ?_
            exact s_iret 1 6 rfl rfl (hr _ _ (k_sat_some H))
          · replace H := k_sat_neg H e4
            by_cases e5 : p1 = 5
            · replace H := k_sat_pos H e5
              refine s_table 0 1 87 rfl 5 e5 (by decide) (by decide) (off := 86) (by decide) (by decide) ?_
              refine s_aloadn 1 7 rfl rfl ?_
              refine s_getr 1 8 rfl k_fl8 rfl rfl rfl rfl ?_
              refine s_geti 3502 1 9 rfl k_fl24 rfl rfl rfl rfl rfl ?_
              exact s_iret 1 10 rfl rfl (hr _ _ (k_sat_some H))
            · replace H := k_sat_neg H e5
              by_cases e6 : p1 = 6
              · replace H := k_sat_pos H e6
                refine s_table 0 1 95 rfl 6 e6 (by decide) (by decide) (off := 94) (by decide) (by decide) ?_
                refine s_aloadn 1 11 rfl rfl ?_
                refine s_getr 1 12 rfl k_fl8 rfl rfl rfl rfl ?_
                refine s_geti 3503 1 13 rfl k_fl25 rfl rfl rfl rfl rfl ?_
                exact s_iret 1 14 rfl rfl (hr _ _ (k_sat_some H))
              · replace H := k_sat_neg H e6
                refine s_tableOut (x := p1) 0 1 103 rfl (by have e0 := lv_neT (a := 0) e0 (by decide); have e1 := lv_neT (a := 1) e1 (by decide); have e2 := lv_neT (a := 2) e2 (by decide); have e3 := lv_neT (a := 3) e3 (by decide); have e4 := lv_neT (a := 4) e4 (by decide); have e5 := lv_neT (a := 5) e5 (by decide); have e6 := lv_neT (a := 6) e6 (by decide); omega) (by decide) ?_
                refine s_const (-1) 1 15 rfl k_ic_m1 ?_
                exact s_iret 2 0 rfl rfl (hr _ _ (k_sat_some H))
set_option maxRecDepth 100000 in
theorem c_R_count (g : k_G)  (p1 : Int32) {u : k_S} {QQ : Int32 → k_S → Prop} (H : k_sat (f_R_count  p1 u) QQ) : k_OK g 1 MX12_count [.ref 42, .int p1] u (k_qi QQ) := by
  have hr : ∀ (r : Int32) (u' : k_S), QQ (r) u' → (k_qi QQ) (some (.int r)) u' := fun r u' h => ⟨_, rfl, h⟩
  refine k_OK.ofW pfX12_count (k_tab_of MX12_count_dec) rfl ?_
  refine s_iloadn 0 0 rfl rfl ?_
  by_cases e0 : p1 = 0
  · replace H := k_sat_pos H e0
    refine s_table 0 1 44 rfl 0 e0 (by decide) (by decide) (off := 43) (by decide) (by decide) ?_
    refine s_aloadn 0 2 rfl rfl ?_
    refine s_geti 4203 0 3 rfl k_fl122 rfl rfl rfl rfl rfl ?_
    exact s_iret 0 4 rfl rfl (hr _ _ (k_sat_some H))
  · replace H := k_sat_neg H e0
    by_cases e1 : p1 = 1
    · replace H := k_sat_pos H e1
      refine s_table 0 1 49 rfl 1 e1 (by decide) (by decide) (off := 48) (by decide) (by decide) ?_
      refine s_aloadn 0 5 rfl rfl ?_
      refine s_geti 4209 0 6 rfl k_fl128 rfl rfl rfl rfl rfl ?_
      exact s_iret 0 7 rfl rfl (hr _ _ (k_sat_some H))
    · replace H := k_sat_neg H e1
      by_cases e2 : p1 = 2
      · replace H := k_sat_pos H e2
        refine s_table 0 1 54 rfl 2 e2 (by decide) (by decide) (off := 53) (by decide) (by decide) ?_
        refine s_aloadn 0 8 rfl rfl ?_
        refine s_geti 4235 0 9 rfl k_fl133 rfl rfl rfl rfl rfl ?_
        exact s_iret 0 10 rfl rfl (hr _ _ (k_sat_some H))
      · replace H := k_sat_neg H e2
        by_cases e3 : p1 = 3
        · replace H := k_sat_pos H e3
          refine s_table 0 1 59 rfl 3 e3 (by decide) (by decide) (off := 58) (by decide) (by decide) ?_
          refine s_aloadn 0 11 rfl rfl ?_
          refine s_geti 4202 0 12 rfl k_fl121 rfl rfl rfl rfl rfl ?_
          exact s_iret 0 13 rfl rfl (hr _ _ (k_sat_some H))
        · replace H := k_sat_neg H e3
          by_cases e4 : p1 = 4
          · replace H := k_sat_pos H e4
            refine s_table 0 1 64 rfl 4 e4 (by decide) (by decide) (off := 63) (by decide) (by decide) ?_
            refine s_aloadn 0 14 rfl rfl ?_
            refine s_geti 4224 0 15 rfl k_fl131 rfl rfl rfl rfl rfl ?_
            exact s_iret 1 0 rfl rfl (hr _ _ (k_sat_some H))
          · replace H := k_sat_neg H e4
            by_cases e5 : p1 = 5
            · replace H := k_sat_pos H e5
              refine s_table 0 1 69 rfl 5 e5 (by decide) (by decide) (off := 68) (by decide) (by decide) ?_
              refine s_aloadn 1 1 rfl rfl ?_
              refine s_geti 4245 1 2 rfl k_fl137 rfl rfl rfl rfl rfl ?_
              exact s_iret 1 3 rfl rfl (hr _ _ (k_sat_some H))
            · replace H := k_sat_neg H e5
              by_cases e6 : p1 = 6
              · replace H := k_sat_pos H e6
                refine s_table 0 1 74 rfl 6 e6 (by decide) (by decide) (off := 73) (by decide) (by decide) ?_
                refine s_aloadn 1 4 rfl rfl ?_
                refine s_geti 4247 1 5 rfl k_fl138 rfl rfl rfl rfl rfl ?_
                exact s_iret 1 6 rfl rfl (hr _ _ (k_sat_some H))
              · replace H := k_sat_neg H e6
                refine s_tableOut (x := p1) 0 1 79 rfl (by have e0 := lv_neT (a := 0) e0 (by decide); have e1 := lv_neT (a := 1) e1 (by decide); have e2 := lv_neT (a := 2) e2 (by decide); have e3 := lv_neT (a := 3) e3 (by decide); have e4 := lv_neT (a := 4) e4 (by decide); have e5 := lv_neT (a := 5) e5 (by decide); have e6 := lv_neT (a := 6) e6 (by decide); omega) (by decide) ?_
                refine s_const (-1) 1 7 rfl k_ic_m1 ?_
                exact s_iret 1 8 rfl rfl (hr _ _ (k_sat_some H))
set_option maxRecDepth 100000 in
theorem t_law_B18 (g : k_G)  (v3 : Int32)  {u : k_S} {QQ : ((Int32) ⊕ (Int32 ⊕ Unit)) → k_S → Prop} {Q : Option Value → k_S → Prop} (hr : ∀ (r : Int32) (u' : k_S), QQ (.inr (.inl r)) u' → (Q) (some (.int r)) u') (hb : ∀ (x : (Int32)) (u' : k_S), QQ (.inl x) u' → k_W g 68 ML_law 18 [(0, .ref 104), (1, .ref 0), (2, .ref 42), (3, .int x)] [] u' Q) (he : ∀ (y : Unit) (u' : k_S), QQ (.inr (.inr y)) u' → k_W g 68 ML_law 1374 [] [] u' Q) (H : k_sat (f_law_B18 (k_sl g) (k_sx g) v3 u) QQ) : k_W g 68 ML_law 18 [(0, .ref 104), (1, .ref 0), (2, .ref 42), (3, .int v3)] [] u Q := by
  refine s_iloadn 0 10 rfl rfl ?_
  refine s_aloadn 0 11 rfl rfl ?_
  refine s_olen (Int32.ofNat (k_sl g)) 0 12 rfl rfl rfl ?_
  refine s_bipush 6 0 13 rfl k_ib_6 ?_
  refine s_isub 0 14 rfl ?_
  refine s_icmp_gt 0 15 1374 rfl (by decide) H (fun _ H => ?_) (fun _ H => ?_)
  · exact k_via (he _ _ (k_sat_some H)) trivial
  · refine s_aloadn 1 0 rfl rfl ?_
    refine s_iloadn 1 1 rfl rfl ?_
    refine s_oald 1 2 rfl rfl H (fun _ H => ?_)
    refine s_bipush 63 1 3 rfl k_ib_63 ?_
    refine s_iand 1 4 rfl ?_
    by_cases e0 : (((k_sx g) (v3).toNatClampNeg) &&& 63) = 0
    · replace H := k_sat_pos H e0
      refine s_table 1 5 208 rfl 0 e0 (by decide) (by decide) (off := 175) (by decide) (by decide) ?_
      refine s_aloadn 1 6 rfl rfl ?_
      refine s_aloadn 1 7 rfl rfl ?_
      refine s_iloadn 1 8 rfl rfl ?_
      refine s_const 1 1 9 rfl k_ic_1 ?_
      refine s_iadd 1 10 rfl ?_
      refine s_oald 1 11 rfl rfl H (fun _ H => ?_)
      refine s_cvi1 (M' := MX11_feed) 1 12 rfl k_ml150 vvX11_feed rfl rfl (Nat.le_of_ble_eq_true rfl) rfl (c_W_feed g _ (k_sat_bind H)) (fun r2 u1 H => ?_)
      refine s_popi 1 13 rfl ?_
      refine s_aloadn 1 14 rfl rfl ?_
      refine s_aloadn 1 15 rfl rfl ?_
      refine s_iloadn 2 0 rfl rfl ?_
      refine s_const 1 2 1 rfl k_ic_1 ?_
      refine s_iadd 2 2 rfl ?_
      refine s_oald 2 3 rfl rfl H (fun _ H => ?_)
      refine s_cvi1 (M' := MX12_feed) 2 4 rfl k_ml151 vvX12_feed rfl rfl (Nat.le_of_ble_eq_true rfl) rfl (c_R_feed g _ (k_sat_bind H)) (fun r4 u3 H => ?_)
      refine s_popi 2 5 rfl ?_
      refine s_goto 2 6 1368 rfl (by decide) ?_
      refine s_iinc 58 8 rfl rfl rfl ?_
      refine s_goto 58 9 18 rfl (by decide) ?_
      exact k_via (hb _ _ (k_sat_some H)) ⟨rfl, rfl, rfl, rfl, trivial⟩
    · replace H := k_sat_neg H e0
      by_cases e1 : (((k_sx g) (v3).toNatClampNeg) &&& 63) = 1
      · replace H := k_sat_pos H e1
        refine s_table 1 5 231 rfl 1 e1 (by decide) (by decide) (off := 198) (by decide) (by decide) ?_
        refine s_aloadn 2 7 rfl rfl ?_
        refine s_cvi0 (M' := MX11_wheel) 2 8 rfl k_ml152 vvX11_wheel rfl rfl (Nat.le_of_ble_eq_true rfl) rfl (c_W_wheel g (k_sat_bind H)) (fun r6 u5 H => ?_)
        refine s_popi 2 9 rfl ?_
        refine s_aloadn 2 10 rfl rfl ?_
        refine s_cvi0 (M' := MX12_wheel) 2 11 rfl k_ml153 vvX12_wheel rfl rfl (Nat.le_of_ble_eq_true rfl) rfl (c_R_wheel g (k_sat_bind H)) (fun r8 u7 H => ?_)
        refine s_popi 2 12 rfl ?_
        refine s_goto 2 13 1368 rfl (by decide) ?_
        refine s_iinc 58 8 rfl rfl rfl ?_
        refine s_goto 58 9 18 rfl (by decide) ?_
        exact k_via (hb _ _ (k_sat_some H)) ⟨rfl, rfl, rfl, rfl, trivial⟩
      · replace H := k_sat_neg H e1
        by_cases e2 : (((k_sx g) (v3).toNatClampNeg) &&& 63) = 2
        · replace H := k_sat_pos H e2
          refine s_table 1 5 244 rfl 2 e2 (by decide) (by decide) (off := 211) (by decide) (by decide) ?_
          refine s_aloadn 2 14 rfl rfl ?_
          refine s_cvi0 (M' := MX11_law) 2 15 rfl k_ml154 vvX11_law rfl rfl (Nat.le_of_ble_eq_true rfl) rfl (c_W_law g (k_sat_bind H)) (fun r10 u9 H => ?_)
          refine s_popi 3 0 rfl ?_
          refine s_aloadn 3 1 rfl rfl ?_
          refine s_cvi0 (M' := MX12_law) 3 2 rfl k_ml155 vvX12_law rfl rfl (Nat.le_of_ble_eq_true rfl) rfl (c_R_law g (k_sat_bind H)) (fun r12 u11 H => ?_)
          refine s_popi 3 3 rfl ?_
          refine s_goto 3 4 1368 rfl (by decide) ?_
          refine s_iinc 58 8 rfl rfl rfl ?_
          refine s_goto 58 9 18 rfl (by decide) ?_
          exact k_via (hb _ _ (k_sat_some H)) ⟨rfl, rfl, rfl, rfl, trivial⟩
        · replace H := k_sat_neg H e2
          by_cases e3 : (((k_sx g) (v3).toNatClampNeg) &&& 63) = 3
          · replace H := k_sat_pos H e3
            refine s_table 1 5 257 rfl 3 e3 (by decide) (by decide) (off := 224) (by decide) (by decide) ?_
            refine s_aloadn 3 5 rfl rfl ?_
            refine s_aloadn 3 6 rfl rfl ?_
            refine s_iloadn 3 7 rfl rfl ?_
            refine s_const 1 3 8 rfl k_ic_1 ?_
            refine s_iadd 3 9 rfl ?_
            refine s_oald 3 10 rfl rfl H (fun _ H => ?_)
            refine s_aloadn 3 11 rfl rfl ?_
            refine s_iloadn 3 12 rfl rfl ?_
            refine s_const 2 3 13 rfl k_ic_2 ?_
            refine s_iadd 3 14 rfl ?_
            refine s_oald 3 15 rfl rfl H (fun _ H => ?_)
            refine s_cvi2 (M' := MX11_set) 4 0 rfl k_ml156 vvX11_set rfl rfl (Nat.le_of_ble_eq_true rfl) rfl (c_W_set g _ _ (k_sat_bind H)) (fun r14 u13 H => ?_)
            refine s_popi 4 1 rfl ?_
            refine s_aloadn 4 2 rfl rfl ?_
            refine s_aloadn 4 3 rfl rfl ?_
            refine s_iloadn 4 4 rfl rfl ?_
            refine s_const 1 4 5 rfl k_ic_1 ?_
            refine s_iadd 4 6 rfl ?_
            refine s_oald 4 7 rfl rfl H (fun _ H => ?_)
            refine s_aloadn 4 8 rfl rfl ?_
            refine s_iloadn 4 9 rfl rfl ?_
            refine s_const 2 4 10 rfl k_ic_2 ?_
            refine s_iadd 4 11 rfl ?_
            refine s_oald 4 12 rfl rfl H (fun _ H => ?_)
            refine s_cvi2 (M' := MX12_set) 4 13 rfl k_ml157 vvX12_set rfl rfl (Nat.le_of_ble_eq_true rfl) rfl (c_R_set g _ _ (k_sat_bind H)) (fun r16 u15 H => ?_)
            refine s_popi 4 14 rfl ?_
            refine s_goto 4 15 1368 rfl (by decide) ?_
            refine s_iinc 58 8 rfl rfl rfl ?_
            refine s_goto 58 9 18 rfl (by decide) ?_
            exact k_via (hb _ _ (k_sat_some H)) ⟨rfl, rfl, rfl, rfl, trivial⟩
          · replace H := k_sat_neg H e3
            by_cases e4 : (((k_sx g) (v3).toNatClampNeg) &&& 63) = 4
            · replace H := k_sat_pos H e4
              refine s_table 1 5 290 rfl 4 e4 (by decide) (by decide) (off := 257) (by decide) (by decide) ?_
              refine s_aloadn 5 0 rfl rfl ?_
              refine s_aloadn 5 1 rfl rfl ?_
              refine s_iloadn 5 2 rfl rfl ?_
              refine s_const 1 5 3 rfl k_ic_1 ?_
              refine s_iadd 5 4 rfl ?_
              refine s_oald 5 5 rfl rfl H (fun _ H => ?_)
              refine s_aloadn 5 6 rfl rfl ?_
              refine s_iloadn 5 7 rfl rfl ?_
              refine s_const 2 5 8 rfl k_ic_2 ?_
              refine s_iadd 5 9 rfl ?_
              refine s_oald 5 10 rfl rfl H (fun _ H => ?_)
              refine s_cvi2 (M' := MX11_broke) 5 11 rfl k_ml158 vvX11_broke rfl rfl (Nat.le_of_ble_eq_true rfl) rfl (c_W_broke g _ _ (k_sat_bind H)) (fun r18 u17 H => ?_)
              refine s_popi 5 12 rfl ?_
              refine s_aloadn 5 13 rfl rfl ?_
              refine s_aloadn 5 14 rfl rfl ?_
              refine s_iloadn 5 15 rfl rfl ?_
              refine s_const 1 6 0 rfl k_ic_1 ?_
              refine s_iadd 6 1 rfl ?_
              refine s_oald 6 2 rfl rfl H (fun _ H => ?_)
              refine s_aloadn 6 3 rfl rfl ?_
              refine s_iloadn 6 4 rfl rfl ?_
              refine s_const 2 6 5 rfl k_ic_2 ?_
              refine s_iadd 6 6 rfl ?_
              refine s_oald 6 7 rfl rfl H (fun _ H => ?_)
              refine s_cvi2 (M' := MX12_broke) 6 8 rfl k_ml159 vvX12_broke rfl rfl (Nat.le_of_ble_eq_true rfl) rfl (c_R_broke g _ _ (k_sat_bind H)) (fun r20 u19 H => ?_)
              refine s_popi 6 9 rfl ?_
              refine s_goto 6 10 1368 rfl (by decide) ?_
              refine s_iinc 58 8 rfl rfl rfl ?_
              refine s_goto 58 9 18 rfl (by decide) ?_
              exact k_via (hb _ _ (k_sat_some H)) ⟨rfl, rfl, rfl, rfl, trivial⟩
            · replace H := k_sat_neg H e4
              by_cases e5 : (((k_sx g) (v3).toNatClampNeg) &&& 63) = 5
              · replace H := k_sat_pos H e5
                refine s_table 1 5 323 rfl 5 e5 (by decide) (by decide) (off := 290) (by decide) (by decide) ?_
                refine s_aloadn 6 11 rfl rfl ?_
                refine s_aloadn 6 12 rfl rfl ?_
                refine s_iloadn 6 13 rfl rfl ?_
                refine s_const 1 6 14 rfl k_ic_1 ?_
                refine s_iadd 6 15 rfl ?_
                refine s_oald 7 0 rfl rfl H (fun _ H => ?_)
                refine s_aloadn 7 1 rfl rfl ?_
                refine s_iloadn 7 2 rfl rfl ?_
                refine s_const 2 7 3 rfl k_ic_2 ?_
                refine s_iadd 7 4 rfl ?_
                refine s_oald 7 5 rfl rfl H (fun _ H => ?_)
                refine s_aloadn 7 6 rfl rfl ?_
                refine s_iloadn 7 7 rfl rfl ?_
                refine s_const 3 7 8 rfl k_ic_3 ?_
                refine s_iadd 7 9 rfl ?_
                refine s_oald 7 10 rfl rfl H (fun _ H => ?_)
                refine s_cvi3 (M' := MX11_tooth) 7 11 rfl k_ml160 vvX11_tooth rfl rfl (Nat.le_of_ble_eq_true rfl) rfl (c_W_tooth g _ _ _ (k_sat_bind H)) (fun r22 u21 H => ?_)
                refine s_popi 7 12 rfl ?_
                refine s_aloadn 7 13 rfl rfl ?_
                refine s_aloadn 7 14 rfl rfl ?_
                refine s_iloadn 7 15 rfl rfl ?_
                refine s_const 1 8 0 rfl k_ic_1 ?_
                refine s_iadd 8 1 rfl ?_
                refine s_oald 8 2 rfl rfl H (fun _ H => ?_)
                refine s_aloadn 8 3 rfl rfl ?_
                refine s_iloadn 8 4 rfl rfl ?_
                refine s_const 2 8 5 rfl k_ic_2 ?_
                refine s_iadd 8 6 rfl ?_
                refine s_oald 8 7 rfl rfl H (fun _ H => ?_)
                refine s_aloadn 8 8 rfl rfl ?_
                refine s_iloadn 8 9 rfl rfl ?_
                refine s_const 3 8 10 rfl k_ic_3 ?_
                refine s_iadd 8 11 rfl ?_
                refine s_oald 8 12 rfl rfl H (fun _ H => ?_)
                refine s_cvi3 (M' := MX12_tooth) 8 13 rfl k_ml161 vvX12_tooth rfl rfl (Nat.le_of_ble_eq_true rfl) rfl (c_R_tooth g _ _ _ (k_sat_bind H)) (fun r24 u23 H => ?_)
                refine s_popi 8 14 rfl ?_
                refine s_goto 8 15 1368 rfl (by decide) ?_
                refine s_iinc 58 8 rfl rfl rfl ?_
                refine s_goto 58 9 18 rfl (by decide) ?_
                exact k_via (hb _ _ (k_sat_some H)) ⟨rfl, rfl, rfl, rfl, trivial⟩
              · replace H := k_sat_neg H e5
                by_cases e6 : (((k_sx g) (v3).toNatClampNeg) &&& 63) = 6
                · replace H := k_sat_pos H e6
                  refine s_table 1 5 366 rfl 6 e6 (by decide) (by decide) (off := 333) (by decide) (by decide) ?_
                  refine s_aloadn 9 0 rfl rfl ?_
                  refine s_aloadn 9 1 rfl rfl ?_
                  refine s_iloadn 9 2 rfl rfl ?_
                  refine s_const 1 9 3 rfl k_ic_1 ?_
                  refine s_iadd 9 4 rfl ?_
                  refine s_oald 9 5 rfl rfl H (fun _ H => ?_)
                  refine s_aloadn 9 6 rfl rfl ?_
                  refine s_iloadn 9 7 rfl rfl ?_
                  refine s_const 2 9 8 rfl k_ic_2 ?_
                  refine s_iadd 9 9 rfl ?_
                  refine s_oald 9 10 rfl rfl H (fun _ H => ?_)
                  refine s_cvi2 (M' := MX11_of) 9 11 rfl k_ml162 vvX11_of rfl rfl (Nat.le_of_ble_eq_true rfl) rfl (c_W_of g _ _ (k_sat_bind H)) (fun r26 u25 H => ?_)
                  refine s_popi 9 12 rfl ?_
                  refine s_aloadn 9 13 rfl rfl ?_
                  refine s_aloadn 9 14 rfl rfl ?_
                  refine s_iloadn 9 15 rfl rfl ?_
                  refine s_const 1 10 0 rfl k_ic_1 ?_
                  refine s_iadd 10 1 rfl ?_
                  refine s_oald 10 2 rfl rfl H (fun _ H => ?_)
                  refine s_aloadn 10 3 rfl rfl ?_
                  refine s_iloadn 10 4 rfl rfl ?_
                  refine s_const 2 10 5 rfl k_ic_2 ?_
                  refine s_iadd 10 6 rfl ?_
                  refine s_oald 10 7 rfl rfl H (fun _ H => ?_)
                  refine s_cvi2 (M' := MX12_of) 10 8 rfl k_ml163 vvX12_of rfl rfl (Nat.le_of_ble_eq_true rfl) rfl (c_R_of g _ _ (k_sat_bind H)) (fun r28 u27 H => ?_)
                  refine s_popi 10 9 rfl ?_
                  refine s_goto 10 10 1368 rfl (by decide) ?_
                  refine s_iinc 58 8 rfl rfl rfl ?_
                  refine s_goto 58 9 18 rfl (by decide) ?_
                  exact k_via (hb _ _ (k_sat_some H)) ⟨rfl, rfl, rfl, rfl, trivial⟩
                · replace H := k_sat_neg H e6
                  by_cases e7 : (((k_sx g) (v3).toNatClampNeg) &&& 63) = 7
                  · replace H := k_sat_pos H e7
                    refine s_table 1 5 399 rfl 7 e7 (by decide) (by decide) (off := 366) (by decide) (by decide) ?_
                    refine s_aloadn 10 11 rfl rfl ?_
                    refine s_aloadn 10 12 rfl rfl ?_
                    refine s_iloadn 10 13 rfl rfl ?_
                    refine s_const 1 10 14 rfl k_ic_1 ?_
                    refine s_iadd 10 15 rfl ?_
                    refine s_oald 11 0 rfl rfl H (fun _ H => ?_)
                    refine s_cvi1 (M' := MX11_on) 11 1 rfl k_ml164 vvX11_on rfl rfl (Nat.le_of_ble_eq_true rfl) rfl (c_W_on g _ (k_sat_bind H)) (fun r30 u29 H => ?_)
                    refine s_popi 11 2 rfl ?_
                    refine s_aloadn 11 3 rfl rfl ?_
                    refine s_aloadn 11 4 rfl rfl ?_
                    refine s_iloadn 11 5 rfl rfl ?_
                    refine s_const 1 11 6 rfl k_ic_1 ?_
                    refine s_iadd 11 7 rfl ?_
                    refine s_oald 11 8 rfl rfl H (fun _ H => ?_)
                    refine s_cvi1 (M' := MX12_on) 11 9 rfl k_ml165 vvX12_on rfl rfl (Nat.le_of_ble_eq_true rfl) rfl (c_R_on g _ (k_sat_bind H)) (fun r32 u31 H => ?_)
                    refine s_popi 11 10 rfl ?_
                    refine s_goto 11 11 1368 rfl (by decide) ?_
                    refine s_iinc 58 8 rfl rfl rfl ?_
                    refine s_goto 58 9 18 rfl (by decide) ?_
                    exact k_via (hb _ _ (k_sat_some H)) ⟨rfl, rfl, rfl, rfl, trivial⟩
                  · replace H := k_sat_neg H e7
                    by_cases e8 : (((k_sx g) (v3).toNatClampNeg) &&& 63) = 8
                    · replace H := k_sat_pos H e8
                      refine s_table 1 5 422 rfl 8 e8 (by decide) (by decide) (off := 389) (by decide) (by decide) ?_
                      refine s_aloadn 11 12 rfl rfl ?_
                      refine s_aloadn 11 13 rfl rfl ?_
                      refine s_iloadn 11 14 rfl rfl ?_
                      refine s_const 1 11 15 rfl k_ic_1 ?_
                      refine s_iadd 12 0 rfl ?_
                      refine s_oald 12 1 rfl rfl H (fun _ H => ?_)
                      refine s_aloadn 12 2 rfl rfl ?_
                      refine s_iloadn 12 3 rfl rfl ?_
                      refine s_const 2 12 4 rfl k_ic_2 ?_
                      refine s_iadd 12 5 rfl ?_
                      refine s_oald 12 6 rfl rfl H (fun _ H => ?_)
                      refine s_cvi2 (M' := MX11_lay) 12 7 rfl k_ml166 vvX11_lay rfl rfl (Nat.le_of_ble_eq_true rfl) rfl (c_W_lay g _ _ (k_sat_bind H)) (fun r34 u33 H => ?_)
                      refine s_popi 12 8 rfl ?_
                      refine s_aloadn 12 9 rfl rfl ?_
                      refine s_aloadn 12 10 rfl rfl ?_
                      refine s_iloadn 12 11 rfl rfl ?_
                      refine s_const 1 12 12 rfl k_ic_1 ?_
                      refine s_iadd 12 13 rfl ?_
                      refine s_oald 12 14 rfl rfl H (fun _ H => ?_)
                      refine s_aloadn 12 15 rfl rfl ?_
                      refine s_iloadn 13 0 rfl rfl ?_
                      refine s_const 2 13 1 rfl k_ic_2 ?_
                      refine s_iadd 13 2 rfl ?_
                      refine s_oald 13 3 rfl rfl H (fun _ H => ?_)
                      refine s_cvi2 (M' := MX12_lay) 13 4 rfl k_ml167 vvX12_lay rfl rfl (Nat.le_of_ble_eq_true rfl) rfl (c_R_lay g _ _ (k_sat_bind H)) (fun r36 u35 H => ?_)
                      refine s_popi 13 5 rfl ?_
                      refine s_goto 13 6 1368 rfl (by decide) ?_
                      refine s_iinc 58 8 rfl rfl rfl ?_
                      refine s_goto 58 9 18 rfl (by decide) ?_
                      exact k_via (hb _ _ (k_sat_some H)) ⟨rfl, rfl, rfl, rfl, trivial⟩
                    · replace H := k_sat_neg H e8
                      by_cases e9 : (((k_sx g) (v3).toNatClampNeg) &&& 63) = 9
                      · replace H := k_sat_pos H e9
                        refine s_table 1 5 455 rfl 9 e9 (by decide) (by decide) (off := 422) (by decide) (by decide) ?_
                        refine s_aloadn 13 7 rfl rfl ?_
                        refine s_aloadn 13 8 rfl rfl ?_
                        refine s_iloadn 13 9 rfl rfl ?_
                        refine s_const 1 13 10 rfl k_ic_1 ?_
                        refine s_iadd 13 11 rfl ?_
                        refine s_oald 13 12 rfl rfl H (fun _ H => ?_)
                        refine s_aloadn 13 13 rfl rfl ?_
                        refine s_iloadn 13 14 rfl rfl ?_
                        refine s_const 2 13 15 rfl k_ic_2 ?_
                        refine s_iadd 14 0 rfl ?_
                        refine s_oald 14 1 rfl rfl H (fun _ H => ?_)
                        refine s_cvi2 (M' := MX11_shows) 14 2 rfl k_ml168 vvX11_shows rfl rfl (Nat.le_of_ble_eq_true rfl) rfl (c_W_shows g _ _ (k_sat_bind H)) (fun r38 u37 H => ?_)
                        refine s_popi 14 3 rfl ?_
                        refine s_aloadn 14 4 rfl rfl ?_
                        refine s_aloadn 14 5 rfl rfl ?_
                        refine s_iloadn 14 6 rfl rfl ?_
                        refine s_const 1 14 7 rfl k_ic_1 ?_
                        refine s_iadd 14 8 rfl ?_
                        refine s_oald 14 9 rfl rfl H (fun _ H => ?_)
                        refine s_aloadn 14 10 rfl rfl ?_
                        refine s_iloadn 14 11 rfl rfl ?_
                        refine s_const 2 14 12 rfl k_ic_2 ?_
                        refine s_iadd 14 13 rfl ?_
                        refine s_oald 14 14 rfl rfl H (fun _ H => ?_)
                        refine s_cvi2 (M' := MX12_shows) 14 15 rfl k_ml169 vvX12_shows rfl rfl (Nat.le_of_ble_eq_true rfl) rfl (c_R_shows g _ _ (k_sat_bind H)) (fun r40 u39 H => ?_)
                        refine s_popi 15 0 rfl ?_
                        refine s_goto 15 1 1368 rfl (by decide) ?_
                        refine s_iinc 58 8 rfl rfl rfl ?_
                        refine s_goto 58 9 18 rfl (by decide) ?_
                        exact k_via (hb _ _ (k_sat_some H)) ⟨rfl, rfl, rfl, rfl, trivial⟩
                      · replace H := k_sat_neg H e9
                        by_cases e10 : (((k_sx g) (v3).toNatClampNeg) &&& 63) = 10
                        · replace H := k_sat_pos H e10
                          refine s_table 1 5 488 rfl 10 e10 (by decide) (by decide) (off := 455) (by decide) (by decide) ?_
                          refine s_aloadn 15 2 rfl rfl ?_
                          refine s_cvi0 (M' := MX11_day) 15 3 rfl k_ml170 vvX11_day rfl rfl (Nat.le_of_ble_eq_true rfl) rfl (c_W_day g (k_sat_bind H)) (fun r42 u41 H => ?_)
                          refine s_popi 15 4 rfl ?_
                          refine s_aloadn 15 5 rfl rfl ?_
                          refine s_cvi0 (M' := MX12_day) 15 6 rfl k_ml171 vvX12_day rfl rfl (Nat.le_of_ble_eq_true rfl) rfl (c_R_day g (k_sat_bind H)) (fun r44 u43 H => ?_)
                          refine s_popi 15 7 rfl ?_
                          refine s_goto 15 8 1368 rfl (by decide) ?_
                          refine s_iinc 58 8 rfl rfl rfl ?_
                          refine s_goto 58 9 18 rfl (by decide) ?_
                          exact k_via (hb _ _ (k_sat_some H)) ⟨rfl, rfl, rfl, rfl, trivial⟩
                        · replace H := k_sat_neg H e10
                          by_cases e11 : (((k_sx g) (v3).toNatClampNeg) &&& 63) = 11
                          · replace H := k_sat_pos H e11
                            refine s_table 1 5 501 rfl 11 e11 (by decide) (by decide) (off := 468) (by decide) (by decide) ?_
                            refine s_aloadn 15 9 rfl rfl ?_
                            refine s_aloadn 15 10 rfl rfl ?_
                            refine s_iloadn 15 11 rfl rfl ?_
                            refine s_const 1 15 12 rfl k_ic_1 ?_
                            refine s_iadd 15 13 rfl ?_
                            refine s_oald 15 14 rfl rfl H (fun _ H => ?_)
                            refine s_aloadn 15 15 rfl rfl ?_
                            refine s_iloadn 16 0 rfl rfl ?_
                            refine s_const 2 16 1 rfl k_ic_2 ?_
                            refine s_iadd 16 2 rfl ?_
                            refine s_oald 16 3 rfl rfl H (fun _ H => ?_)
                            refine s_cvi2 (M' := MX11_often) 16 4 rfl k_ml172 vvX11_often rfl rfl (Nat.le_of_ble_eq_true rfl) rfl (c_W_often g _ _ (k_sat_bind H)) (fun r46 u45 H => ?_)
                            refine s_popi 16 5 rfl ?_
                            refine s_aloadn 16 6 rfl rfl ?_
                            refine s_aloadn 16 7 rfl rfl ?_
                            refine s_iloadn 16 8 rfl rfl ?_
                            refine s_const 1 16 9 rfl k_ic_1 ?_
                            refine s_iadd 16 10 rfl ?_
                            refine s_oald 16 11 rfl rfl H (fun _ H => ?_)
                            refine s_aloadn 16 12 rfl rfl ?_
                            refine s_iloadn 16 13 rfl rfl ?_
                            refine s_const 2 16 14 rfl k_ic_2 ?_
                            refine s_iadd 16 15 rfl ?_
                            refine s_oald 17 0 rfl rfl H (fun _ H => ?_)
                            refine s_cvi2 (M' := MX12_often) 17 1 rfl k_ml173 vvX12_often rfl rfl (Nat.le_of_ble_eq_true rfl) rfl (c_R_often g _ _ (k_sat_bind H)) (fun r48 u47 H => ?_)
                            refine s_popi 17 2 rfl ?_
                            refine s_goto 17 3 1368 rfl (by decide) ?_
                            refine s_iinc 58 8 rfl rfl rfl ?_
                            refine s_goto 58 9 18 rfl (by decide) ?_
                            exact k_via (hb _ _ (k_sat_some H)) ⟨rfl, rfl, rfl, rfl, trivial⟩
                          · replace H := k_sat_neg H e11
                            by_cases e12 : (((k_sx g) (v3).toNatClampNeg) &&& 63) = 12
                            · replace H := k_sat_pos H e12
                              refine s_table 1 5 534 rfl 12 e12 (by decide) (by decide) (off := 501) (by decide) (by decide) ?_
                              refine s_aloadn 17 4 rfl rfl ?_
                              refine s_aloadn 17 5 rfl rfl ?_
                              refine s_iloadn 17 6 rfl rfl ?_
                              refine s_const 1 17 7 rfl k_ic_1 ?_
                              refine s_iadd 17 8 rfl ?_
                              refine s_oald 17 9 rfl rfl H (fun _ H => ?_)
                              refine s_aloadn 17 10 rfl rfl ?_
                              refine s_iloadn 17 11 rfl rfl ?_
                              refine s_const 2 17 12 rfl k_ic_2 ?_
                              refine s_iadd 17 13 rfl ?_
                              refine s_oald 17 14 rfl rfl H (fun _ H => ?_)
                              refine s_cvi2 (M' := MX11_never) 17 15 rfl k_ml174 vvX11_never rfl rfl (Nat.le_of_ble_eq_true rfl) rfl (c_W_never g _ _ (k_sat_bind H)) (fun r50 u49 H => ?_)
                              refine s_popi 18 0 rfl ?_
                              refine s_aloadn 18 1 rfl rfl ?_
                              refine s_aloadn 18 2 rfl rfl ?_
                              refine s_iloadn 18 3 rfl rfl ?_
                              refine s_const 1 18 4 rfl k_ic_1 ?_
                              refine s_iadd 18 5 rfl ?_
                              refine s_oald 18 6 rfl rfl H (fun _ H => ?_)
                              refine s_aloadn 18 7 rfl rfl ?_
                              refine s_iloadn 18 8 rfl rfl ?_
                              refine s_const 2 18 9 rfl k_ic_2 ?_
                              refine s_iadd 18 10 rfl ?_
                              refine s_oald 18 11 rfl rfl H (fun _ H => ?_)
                              refine s_cvi2 (M' := MX12_never) 18 12 rfl k_ml175 vvX12_never rfl rfl (Nat.le_of_ble_eq_true rfl) rfl (c_R_never g _ _ (k_sat_bind H)) (fun r52 u51 H => ?_)
                              refine s_popi 18 13 rfl ?_
                              refine s_goto 18 14 1368 rfl (by decide) ?_
                              refine s_iinc 58 8 rfl rfl rfl ?_
                              refine s_goto 58 9 18 rfl (by decide) ?_
                              exact k_via (hb _ _ (k_sat_some H)) ⟨rfl, rfl, rfl, rfl, trivial⟩
                            · replace H := k_sat_neg H e12
                              by_cases e13 : (((k_sx g) (v3).toNatClampNeg) &&& 63) = 13
                              · replace H := k_sat_pos H e13
                                refine s_table 1 5 567 rfl 13 e13 (by decide) (by decide) (off := 534) (by decide) (by decide) ?_
                                refine s_aloadn 18 15 rfl rfl ?_
                                refine s_aloadn 19 0 rfl rfl ?_
                                refine s_iloadn 19 1 rfl rfl ?_
                                refine s_const 1 19 2 rfl k_ic_1 ?_
                                refine s_iadd 19 3 rfl ?_
                                refine s_oald 19 4 rfl rfl H (fun _ H => ?_)
                                refine s_aloadn 19 5 rfl rfl ?_
                                refine s_iloadn 19 6 rfl rfl ?_
                                refine s_const 2 19 7 rfl k_ic_2 ?_
                                refine s_iadd 19 8 rfl ?_
                                refine s_oald 19 9 rfl rfl H (fun _ H => ?_)
                                refine s_aloadn 19 10 rfl rfl ?_
                                refine s_iloadn 19 11 rfl rfl ?_
                                refine s_const 3 19 12 rfl k_ic_3 ?_
                                refine s_iadd 19 13 rfl ?_
                                refine s_oald 19 14 rfl rfl H (fun _ H => ?_)
                                refine s_cvi3 (M' := MX11_meets) 19 15 rfl k_ml176 vvX11_meets rfl rfl (Nat.le_of_ble_eq_true rfl) rfl (c_W_meets g _ _ _ (k_sat_bind H)) (fun r54 u53 H => ?_)
                                refine s_popi 20 0 rfl ?_
                                refine s_aloadn 20 1 rfl rfl ?_
                                refine s_aloadn 20 2 rfl rfl ?_
                                refine s_iloadn 20 3 rfl rfl ?_
                                refine s_const 1 20 4 rfl k_ic_1 ?_
                                refine s_iadd 20 5 rfl ?_
                                refine s_oald 20 6 rfl rfl H (fun _ H => ?_)
                                refine s_aloadn 20 7 rfl rfl ?_
                                refine s_iloadn 20 8 rfl rfl ?_
                                refine s_const 2 20 9 rfl k_ic_2 ?_
                                refine s_iadd 20 10 rfl ?_
                                refine s_oald 20 11 rfl rfl H (fun _ H => ?_)
                                refine s_aloadn 20 12 rfl rfl ?_
                                refine s_iloadn 20 13 rfl rfl ?_
                                refine s_const 3 20 14 rfl k_ic_3 ?_
                                refine s_iadd 20 15 rfl ?_
                                refine s_oald 21 0 rfl rfl H (fun _ H => ?_)
                                refine s_cvi3 (M' := MX12_meets) 21 1 rfl k_ml177 vvX12_meets rfl rfl (Nat.le_of_ble_eq_true rfl) rfl (c_R_meets g _ _ _ (k_sat_bind H)) (fun r56 u55 H => ?_)
                                refine s_popi 21 2 rfl ?_
                                refine s_goto 21 3 1368 rfl (by decide) ?_
                                refine s_iinc 58 8 rfl rfl rfl ?_
                                refine s_goto 58 9 18 rfl (by decide) ?_
                                exact k_via (hb _ _ (k_sat_some H)) ⟨rfl, rfl, rfl, rfl, trivial⟩
                              · replace H := k_sat_neg H e13
                                by_cases e14 : (((k_sx g) (v3).toNatClampNeg) &&& 63) = 14
                                · replace H := k_sat_pos H e14
                                  refine s_table 1 5 610 rfl 14 e14 (by decide) (by decide) (off := 577) (by decide) (by decide) ?_
                                  refine s_aloadn 21 4 rfl rfl ?_
                                  refine s_aloadn 21 5 rfl rfl ?_
                                  refine s_iloadn 21 6 rfl rfl ?_
                                  refine s_const 1 21 7 rfl k_ic_1 ?_
                                  refine s_iadd 21 8 rfl ?_
                                  refine s_oald 21 9 rfl rfl H (fun _ H => ?_)
                                  refine s_aloadn 21 10 rfl rfl ?_
                                  refine s_iloadn 21 11 rfl rfl ?_
                                  refine s_const 2 21 12 rfl k_ic_2 ?_
                                  refine s_iadd 21 13 rfl ?_
                                  refine s_oald 21 14 rfl rfl H (fun _ H => ?_)
                                  refine s_aloadn 21 15 rfl rfl ?_
                                  refine s_iloadn 22 0 rfl rfl ?_
                                  refine s_const 3 22 1 rfl k_ic_3 ?_
                                  refine s_iadd 22 2 rfl ?_
                                  refine s_oald 22 3 rfl rfl H (fun _ H => ?_)
                                  refine s_cvi3 (M' := MX11_two) 22 4 rfl k_ml178 vvX11_two rfl rfl (Nat.le_of_ble_eq_true rfl) rfl (c_W_two g _ _ _ (k_sat_bind H)) (fun r58 u57 H => ?_)
                                  refine s_popi 22 5 rfl ?_
                                  refine s_aloadn 22 6 rfl rfl ?_
                                  refine s_aloadn 22 7 rfl rfl ?_
                                  refine s_iloadn 22 8 rfl rfl ?_
                                  refine s_const 1 22 9 rfl k_ic_1 ?_
                                  refine s_iadd 22 10 rfl ?_
                                  refine s_oald 22 11 rfl rfl H (fun _ H => ?_)
                                  refine s_aloadn 22 12 rfl rfl ?_
                                  refine s_iloadn 22 13 rfl rfl ?_
                                  refine s_const 2 22 14 rfl k_ic_2 ?_
                                  refine s_iadd 22 15 rfl ?_
                                  refine s_oald 23 0 rfl rfl H (fun _ H => ?_)
                                  refine s_aloadn 23 1 rfl rfl ?_
                                  refine s_iloadn 23 2 rfl rfl ?_
                                  refine s_const 3 23 3 rfl k_ic_3 ?_
                                  refine s_iadd 23 4 rfl ?_
                                  refine s_oald 23 5 rfl rfl H (fun _ H => ?_)
                                  refine s_cvi3 (M' := MX12_two) 23 6 rfl k_ml179 vvX12_two rfl rfl (Nat.le_of_ble_eq_true rfl) rfl (c_R_two g _ _ _ (k_sat_bind H)) (fun r60 u59 H => ?_)
                                  refine s_popi 23 7 rfl ?_
                                  refine s_goto 23 8 1368 rfl (by decide) ?_
                                  refine s_iinc 58 8 rfl rfl rfl ?_
                                  refine s_goto 58 9 18 rfl (by decide) ?_
                                  exact k_via (hb _ _ (k_sat_some H)) ⟨rfl, rfl, rfl, rfl, trivial⟩
                                · replace H := k_sat_neg H e14
                                  by_cases e15 : (((k_sx g) (v3).toNatClampNeg) &&& 63) = 15
                                  · replace H := k_sat_pos H e15
                                    refine s_table 1 5 653 rfl 15 e15 (by decide) (by decide) (off := 620) (by decide) (by decide) ?_
                                    refine s_aloadn 23 9 rfl rfl ?_
                                    refine s_aloadn 23 10 rfl rfl ?_
                                    refine s_iloadn 23 11 rfl rfl ?_
                                    refine s_const 1 23 12 rfl k_ic_1 ?_
                                    refine s_iadd 23 13 rfl ?_
                                    refine s_oald 23 14 rfl rfl H (fun _ H => ?_)
                                    refine s_cvi1 (M' := MX11_round) 23 15 rfl k_ml180 vvX11_round rfl rfl (Nat.le_of_ble_eq_true rfl) rfl (c_W_round g _ (k_sat_bind H)) (fun r62 u61 H => ?_)
                                    refine s_popi 24 0 rfl ?_
                                    refine s_aloadn 24 1 rfl rfl ?_
                                    refine s_aloadn 24 2 rfl rfl ?_
                                    refine s_iloadn 24 3 rfl rfl ?_
                                    refine s_const 1 24 4 rfl k_ic_1 ?_
                                    refine s_iadd 24 5 rfl ?_
                                    refine s_oald 24 6 rfl rfl H (fun _ H => ?_)
                                    refine s_cvi1 (M' := MX12_round) 24 7 rfl k_ml181 vvX12_round rfl rfl (Nat.le_of_ble_eq_true rfl) rfl (c_R_round g _ (k_sat_bind H)) (fun r64 u63 H => ?_)
                                    refine s_popi 24 8 rfl ?_
                                    refine s_goto 24 9 1368 rfl (by decide) ?_
                                    refine s_iinc 58 8 rfl rfl rfl ?_
                                    refine s_goto 58 9 18 rfl (by decide) ?_
                                    exact k_via (hb _ _ (k_sat_some H)) ⟨rfl, rfl, rfl, rfl, trivial⟩
                                  · replace H := k_sat_neg H e15
                                    by_cases e16 : (((k_sx g) (v3).toNatClampNeg) &&& 63) = 16
                                    · replace H := k_sat_pos H e16
                                      refine s_table 1 5 676 rfl 16 e16 (by decide) (by decide) (off := 643) (by decide) (by decide) ?_
                                      refine s_aloadn 24 10 rfl rfl ?_
                                      refine s_aloadn 24 11 rfl rfl ?_
                                      refine s_iloadn 24 12 rfl rfl ?_
                                      refine s_const 1 24 13 rfl k_ic_1 ?_
                                      refine s_iadd 24 14 rfl ?_
                                      refine s_oald 24 15 rfl rfl H (fun _ H => ?_)
                                      refine s_cvi1 (M' := MX11_truth) 25 0 rfl k_ml182 vvX11_truth rfl rfl (Nat.le_of_ble_eq_true rfl) rfl (c_W_truth g _ (k_sat_bind H)) (fun r66 u65 H => ?_)
                                      refine s_popi 25 1 rfl ?_
                                      refine s_aloadn 25 2 rfl rfl ?_
                                      refine s_aloadn 25 3 rfl rfl ?_
                                      refine s_iloadn 25 4 rfl rfl ?_
                                      refine s_const 1 25 5 rfl k_ic_1 ?_
                                      refine s_iadd 25 6 rfl ?_
                                      refine s_oald 25 7 rfl rfl H (fun _ H => ?_)
                                      refine s_cvi1 (M' := MX12_truth) 25 8 rfl k_ml183 vvX12_truth rfl rfl (Nat.le_of_ble_eq_true rfl) rfl (c_R_truth g _ (k_sat_bind H)) (fun r68 u67 H => ?_)
                                      refine s_popi 25 9 rfl ?_
                                      refine s_goto 25 10 1368 rfl (by decide) ?_
                                      refine s_iinc 58 8 rfl rfl rfl ?_
                                      refine s_goto 58 9 18 rfl (by decide) ?_
                                      exact k_via (hb _ _ (k_sat_some H)) ⟨rfl, rfl, rfl, rfl, trivial⟩
                                    · replace H := k_sat_neg H e16
                                      by_cases e17 : (((k_sx g) (v3).toNatClampNeg) &&& 63) = 17
                                      · replace H := k_sat_pos H e17
                                        refine s_table 1 5 699 rfl 17 e17 (by decide) (by decide) (off := 666) (by decide) (by decide) ?_
                                        refine s_aloadn 25 11 rfl rfl ?_
                                        refine s_aloadn 25 12 rfl rfl ?_
                                        refine s_iloadn 25 13 rfl rfl ?_
                                        refine s_const 1 25 14 rfl k_ic_1 ?_
                                        refine s_iadd 25 15 rfl ?_
                                        refine s_oald 26 0 rfl rfl H (fun _ H => ?_)
                                        refine s_aloadn 26 1 rfl rfl ?_
                                        refine s_iloadn 26 2 rfl rfl ?_
                                        refine s_const 2 26 3 rfl k_ic_2 ?_
                                        refine s_iadd 26 4 rfl ?_
                                        refine s_oald 26 5 rfl rfl H (fun _ H => ?_)
                                        refine s_cvi2 (M' := MX11_near) 26 6 rfl k_ml184 vvX11_near rfl rfl (Nat.le_of_ble_eq_true rfl) rfl (c_W_near g _ _ (k_sat_bind H)) (fun r70 u69 H => ?_)
                                        refine s_popi 26 7 rfl ?_
                                        refine s_aloadn 26 8 rfl rfl ?_
                                        refine s_aloadn 26 9 rfl rfl ?_
                                        refine s_iloadn 26 10 rfl rfl ?_
                                        refine s_const 1 26 11 rfl k_ic_1 ?_
                                        refine s_iadd 26 12 rfl ?_
                                        refine s_oald 26 13 rfl rfl H (fun _ H => ?_)
                                        refine s_aloadn 26 14 rfl rfl ?_
                                        refine s_iloadn 26 15 rfl rfl ?_
                                        refine s_const 2 27 0 rfl k_ic_2 ?_
                                        refine s_iadd 27 1 rfl ?_
                                        refine s_oald 27 2 rfl rfl H (fun _ H => ?_)
                                        refine s_cvi2 (M' := MX12_near) 27 3 rfl k_ml185 vvX12_near rfl rfl (Nat.le_of_ble_eq_true rfl) rfl (c_R_near g _ _ (k_sat_bind H)) (fun r72 u71 H => ?_)
                                        refine s_popi 27 4 rfl ?_
                                        refine s_goto 27 5 1368 rfl (by decide) ?_
                                        refine s_iinc 58 8 rfl rfl rfl ?_
                                        refine s_goto 58 9 18 rfl (by decide) ?_
                                        exact k_via (hb _ _ (k_sat_some H)) ⟨rfl, rfl, rfl, rfl, trivial⟩
                                      · replace H := k_sat_neg H e17
                                        by_cases e18 : (((k_sx g) (v3).toNatClampNeg) &&& 63) = 18
                                        · replace H := k_sat_pos H e18
                                          refine s_table 1 5 732 rfl 18 e18 (by decide) (by decide) (off := 699) (by decide) (by decide) ?_
                                          refine s_aloadn 27 6 rfl rfl ?_
                                          refine s_aloadn 27 7 rfl rfl ?_
                                          refine s_iloadn 27 8 rfl rfl ?_
                                          refine s_const 1 27 9 rfl k_ic_1 ?_
                                          refine s_iadd 27 10 rfl ?_
                                          refine s_oald 27 11 rfl rfl H (fun _ H => ?_)
                                          refine s_aloadn 27 12 rfl rfl ?_
                                          refine s_iloadn 27 13 rfl rfl ?_
                                          refine s_const 2 27 14 rfl k_ic_2 ?_
                                          refine s_iadd 27 15 rfl ?_
                                          refine s_oald 28 0 rfl rfl H (fun _ H => ?_)
                                          refine s_cvi2 (M' := MX11_record) 28 1 rfl k_ml186 vvX11_record rfl rfl (Nat.le_of_ble_eq_true rfl) rfl (c_W_record g _ _ (k_sat_bind H)) (fun r74 u73 H => ?_)
                                          refine s_popi 28 2 rfl ?_
                                          refine s_aloadn 28 3 rfl rfl ?_
                                          refine s_aloadn 28 4 rfl rfl ?_
                                          refine s_iloadn 28 5 rfl rfl ?_
                                          refine s_const 1 28 6 rfl k_ic_1 ?_
                                          refine s_iadd 28 7 rfl ?_
                                          refine s_oald 28 8 rfl rfl H (fun _ H => ?_)
                                          refine s_aloadn 28 9 rfl rfl ?_
                                          refine s_iloadn 28 10 rfl rfl ?_
                                          refine s_const 2 28 11 rfl k_ic_2 ?_
                                          refine s_iadd 28 12 rfl ?_
                                          refine s_oald 28 13 rfl rfl H (fun _ H => ?_)
                                          refine s_cvi2 (M' := MX12_record) 28 14 rfl k_ml187 vvX12_record rfl rfl (Nat.le_of_ble_eq_true rfl) rfl (c_R_record g _ _ (k_sat_bind H)) (fun r76 u75 H => ?_)
                                          refine s_popi 28 15 rfl ?_
                                          refine s_goto 29 0 1368 rfl (by decide) ?_
                                          refine s_iinc 58 8 rfl rfl rfl ?_
                                          refine s_goto 58 9 18 rfl (by decide) ?_
                                          exact k_via (hb _ _ (k_sat_some H)) ⟨rfl, rfl, rfl, rfl, trivial⟩
                                        · replace H := k_sat_neg H e18
                                          by_cases e19 : (((k_sx g) (v3).toNatClampNeg) &&& 63) = 19
                                          · replace H := k_sat_pos H e19
                                            refine s_table 1 5 765 rfl 19 e19 (by decide) (by decide) (off := 732) (by decide) (by decide) ?_
                                            refine s_aloadn 29 1 rfl rfl ?_
                                            refine s_aloadn 29 2 rfl rfl ?_
                                            refine s_iloadn 29 3 rfl rfl ?_
                                            refine s_const 1 29 4 rfl k_ic_1 ?_
                                            refine s_iadd 29 5 rfl ?_
                                            refine s_oald 29 6 rfl rfl H (fun _ H => ?_)
                                            refine s_aloadn 29 7 rfl rfl ?_
                                            refine s_iloadn 29 8 rfl rfl ?_
                                            refine s_const 2 29 9 rfl k_ic_2 ?_
                                            refine s_iadd 29 10 rfl ?_
                                            refine s_oald 29 11 rfl rfl H (fun _ H => ?_)
                                            refine s_aloadn 29 12 rfl rfl ?_
                                            refine s_iloadn 29 13 rfl rfl ?_
                                            refine s_const 3 29 14 rfl k_ic_3 ?_
                                            refine s_iadd 29 15 rfl ?_
                                            refine s_oald 30 0 rfl rfl H (fun _ H => ?_)
                                            refine s_cvi3 (M' := MX11_records) 30 1 rfl k_ml188 vvX11_records rfl rfl (Nat.le_of_ble_eq_true rfl) rfl (c_W_records g _ _ _ (k_sat_bind H)) (fun r78 u77 H => ?_)
                                            refine s_popi 30 2 rfl ?_
                                            refine s_aloadn 30 3 rfl rfl ?_
                                            refine s_aloadn 30 4 rfl rfl ?_
                                            refine s_iloadn 30 5 rfl rfl ?_
                                            refine s_const 1 30 6 rfl k_ic_1 ?_
                                            refine s_iadd 30 7 rfl ?_
                                            refine s_oald 30 8 rfl rfl H (fun _ H => ?_)
                                            refine s_aloadn 30 9 rfl rfl ?_
                                            refine s_iloadn 30 10 rfl rfl ?_
                                            refine s_const 2 30 11 rfl k_ic_2 ?_
                                            refine s_iadd 30 12 rfl ?_
                                            refine s_oald 30 13 rfl rfl H (fun _ H => ?_)
                                            refine s_aloadn 30 14 rfl rfl ?_
                                            refine s_iloadn 30 15 rfl rfl ?_
                                            refine s_const 3 31 0 rfl k_ic_3 ?_
                                            refine s_iadd 31 1 rfl ?_
                                            refine s_oald 31 2 rfl rfl H (fun _ H => ?_)
                                            refine s_cvi3 (M' := MX12_records) 31 3 rfl k_ml189 vvX12_records rfl rfl (Nat.le_of_ble_eq_true rfl) rfl (c_R_records g _ _ _ (k_sat_bind H)) (fun r80 u79 H => ?_)
                                            refine s_popi 31 4 rfl ?_
                                            refine s_goto 31 5 1368 rfl (by decide) ?_
                                            refine s_iinc 58 8 rfl rfl rfl ?_
                                            refine s_goto 58 9 18 rfl (by decide) ?_
                                            exact k_via (hb _ _ (k_sat_some H)) ⟨rfl, rfl, rfl, rfl, trivial⟩
                                          · replace H := k_sat_neg H e19
                                            by_cases e20 : (((k_sx g) (v3).toNatClampNeg) &&& 63) = 20
                                            · replace H := k_sat_pos H e20
                                              refine s_table 1 5 808 rfl 20 e20 (by decide) (by decide) (off := 775) (by decide) (by decide) ?_
                                              refine s_aloadn 31 6 rfl rfl ?_
                                              refine s_cvi0 (M' := MX11_clear) 31 7 rfl k_ml190 vvX11_clear rfl rfl (Nat.le_of_ble_eq_true rfl) rfl (c_W_clear g (k_sat_bind H)) (fun r82 u81 H => ?_)
                                              refine s_popi 31 8 rfl ?_
                                              refine s_aloadn 31 9 rfl rfl ?_
                                              refine s_cvi0 (M' := MX12_clear) 31 10 rfl k_ml191 vvX12_clear rfl rfl (Nat.le_of_ble_eq_true rfl) rfl (c_R_clear g (k_sat_bind H)) (fun r84 u83 H => ?_)
                                              refine s_popi 31 11 rfl ?_
                                              refine s_goto 31 12 1368 rfl (by decide) ?_
                                              refine s_iinc 58 8 rfl rfl rfl ?_
                                              refine s_goto 58 9 18 rfl (by decide) ?_
                                              exact k_via (hb _ _ (k_sat_some H)) ⟨rfl, rfl, rfl, rfl, trivial⟩
                                            · replace H := k_sat_neg H e20
                                              by_cases e21 : (((k_sx g) (v3).toNatClampNeg) &&& 63) = 21
                                              · replace H := k_sat_pos H e21
                                                refine s_table 1 5 821 rfl 21 e21 (by decide) (by decide) (off := 788) (by decide) (by decide) ?_
                                                refine s_aloadn 31 13 rfl rfl ?_
                                                refine s_cvi0 (M' := MX11_judge) 31 14 rfl k_ml192 vvX11_judge rfl rfl (Nat.le_of_ble_eq_true rfl) rfl (c_W_judge g (k_sat_bind H)) (fun r86 u85 H => ?_)
                                                refine s_popi 31 15 rfl ?_
                                                refine s_aloadn 32 0 rfl rfl ?_
                                                refine s_cvi0 (M' := MX12_judge) 32 1 rfl k_ml193 vvX12_judge rfl rfl (Nat.le_of_ble_eq_true rfl) rfl (c_R_judge g (k_sat_bind H)) (fun r88 u87 H => ?_)
                                                refine s_popi 32 2 rfl ?_
                                                refine s_goto 32 3 1368 rfl (by decide) ?_
                                                refine s_iinc 58 8 rfl rfl rfl ?_
                                                refine s_goto 58 9 18 rfl (by decide) ?_
                                                exact k_via (hb _ _ (k_sat_some H)) ⟨rfl, rfl, rfl, rfl, trivial⟩
                                              · replace H := k_sat_neg H e21
                                                by_cases e22 : (((k_sx g) (v3).toNatClampNeg) &&& 63) = 22
                                                · replace H := k_sat_pos H e22
                                                  refine s_table 1 5 834 rfl 22 e22 (by decide) (by decide) (off := 801) (by decide) (by decide) ?_
                                                  refine s_aloadn 32 4 rfl rfl ?_
                                                  refine s_aloadn 32 5 rfl rfl ?_
                                                  refine s_iloadn 32 6 rfl rfl ?_
                                                  refine s_const 1 32 7 rfl k_ic_1 ?_
                                                  refine s_iadd 32 8 rfl ?_
                                                  refine s_oald 32 9 rfl rfl H (fun _ H => ?_)
                                                  refine s_cvi1 (M' := MX11_fits) 32 10 rfl k_ml194 vvX11_fits rfl rfl (Nat.le_of_ble_eq_true rfl) rfl (c_W_fits g _ (k_sat_bind H)) (fun r90 u89 H => ?_)
                                                  refine s_popi 32 11 rfl ?_
                                                  refine s_aloadn 32 12 rfl rfl ?_
                                                  refine s_aloadn 32 13 rfl rfl ?_
                                                  refine s_iloadn 32 14 rfl rfl ?_
                                                  refine s_const 1 32 15 rfl k_ic_1 ?_
                                                  refine s_iadd 33 0 rfl ?_
                                                  refine s_oald 33 1 rfl rfl H (fun _ H => ?_)
                                                  refine s_cvi1 (M' := MX12_fits) 33 2 rfl k_ml195 vvX12_fits rfl rfl (Nat.le_of_ble_eq_true rfl) rfl (c_R_fits g _ (k_sat_bind H)) (fun r92 u91 H => ?_)
                                                  refine s_popi 33 3 rfl ?_
                                                  refine s_goto 33 4 1368 rfl (by decide) ?_
                                                  refine s_iinc 58 8 rfl rfl rfl ?_
                                                  refine s_goto 58 9 18 rfl (by decide) ?_
                                                  exact k_via (hb _ _ (k_sat_some H)) ⟨rfl, rfl, rfl, rfl, trivial⟩
                                                · replace H := k_sat_neg H e22
                                                  by_cases e23 : (((k_sx g) (v3).toNatClampNeg) &&& 63) = 23
                                                  · replace H := k_sat_pos H e23
                                                    refine s_table 1 5 857 rfl 23 e23 (by decide) (by decide) (off := 824) (by decide) (by decide) ?_
                                                    refine s_aloadn 33 5 rfl rfl ?_
                                                    refine s_aloadn 33 6 rfl rfl ?_
                                                    refine s_iloadn 33 7 rfl rfl ?_
                                                    refine s_const 1 33 8 rfl k_ic_1 ?_
                                                    refine s_iadd 33 9 rfl ?_
                                                    refine s_oald 33 10 rfl rfl H (fun _ H => ?_)
                                                    refine s_cvi1 (M' := MX11_sure) 33 11 rfl k_ml196 vvX11_sure rfl rfl (Nat.le_of_ble_eq_true rfl) rfl (c_W_sure g _ (k_sat_bind H)) (fun r94 u93 H => ?_)
                                                    refine s_popi 33 12 rfl ?_
                                                    refine s_aloadn 33 13 rfl rfl ?_
                                                    refine s_aloadn 33 14 rfl rfl ?_
                                                    refine s_iloadn 33 15 rfl rfl ?_
                                                    refine s_const 1 34 0 rfl k_ic_1 ?_
                                                    refine s_iadd 34 1 rfl ?_
                                                    refine s_oald 34 2 rfl rfl H (fun _ H => ?_)
                                                    refine s_cvi1 (M' := MX12_sure) 34 3 rfl k_ml197 vvX12_sure rfl rfl (Nat.le_of_ble_eq_true rfl) rfl (c_R_sure g _ (k_sat_bind H)) (fun r96 u95 H => ?_)
                                                    refine s_popi 34 4 rfl ?_
                                                    refine s_goto 34 5 1368 rfl (by decide) ?_
                                                    refine s_iinc 58 8 rfl rfl rfl ?_
                                                    refine s_goto 58 9 18 rfl (by decide) ?_
                                                    exact k_via (hb _ _ (k_sat_some H)) ⟨rfl, rfl, rfl, rfl, trivial⟩
                                                  · replace H := k_sat_neg H e23
                                                    by_cases e24 : (((k_sx g) (v3).toNatClampNeg) &&& 63) = 24
                                                    · replace H := k_sat_pos H e24
                                                      refine s_table 1 5 880 rfl 24 e24 (by decide) (by decide) (off := 847) (by decide) (by decide) ?_
                                                      refine s_aloadn 34 6 rfl rfl ?_
                                                      refine s_aloadn 34 7 rfl rfl ?_
                                                      refine s_iloadn 34 8 rfl rfl ?_
                                                      refine s_const 1 34 9 rfl k_ic_1 ?_
                                                      refine s_iadd 34 10 rfl ?_
                                                      refine s_oald 34 11 rfl rfl H (fun _ H => ?_)
                                                      refine s_cvi1 (M' := MX11_when) 34 12 rfl k_ml198 vvX11_when rfl rfl (Nat.le_of_ble_eq_true rfl) rfl (c_W_when g _ (k_sat_bind H)) (fun r98 u97 H => ?_)
                                                      refine s_popi 34 13 rfl ?_
                                                      refine s_aloadn 34 14 rfl rfl ?_
                                                      refine s_aloadn 34 15 rfl rfl ?_
                                                      refine s_iloadn 35 0 rfl rfl ?_
                                                      refine s_const 1 35 1 rfl k_ic_1 ?_
                                                      refine s_iadd 35 2 rfl ?_
                                                      refine s_oald 35 3 rfl rfl H (fun _ H => ?_)
                                                      refine s_cvi1 (M' := MX12_when) 35 4 rfl k_ml199 vvX12_when rfl rfl (Nat.le_of_ble_eq_true rfl) rfl (c_R_when g _ (k_sat_bind H)) (fun r100 u99 H => ?_)
                                                      refine s_popi 35 5 rfl ?_
                                                      refine s_goto 35 6 1368 rfl (by decide) ?_
                                                      refine s_iinc 58 8 rfl rfl rfl ?_
                                                      refine s_goto 58 9 18 rfl (by decide) ?_
                                                      exact k_via (hb _ _ (k_sat_some H)) ⟨rfl, rfl, rfl, rfl, trivial⟩
                                                    · replace H := k_sat_neg H e24
                                                      by_cases e25 : (((k_sx g) (v3).toNatClampNeg) &&& 63) = 25
                                                      · replace H := k_sat_pos H e25
                                                        refine s_table 1 5 903 rfl 25 e25 (by decide) (by decide) (off := 870) (by decide) (by decide) ?_
                                                        refine s_aloadn 35 7 rfl rfl ?_
                                                        refine s_aloadn 35 8 rfl rfl ?_
                                                        refine s_iloadn 35 9 rfl rfl ?_
                                                        refine s_const 1 35 10 rfl k_ic_1 ?_
                                                        refine s_iadd 35 11 rfl ?_
                                                        refine s_oald 35 12 rfl rfl H (fun _ H => ?_)
                                                        refine s_cvi1 (M' := MX11_watch) 35 13 rfl k_ml200 vvX11_watch rfl rfl (Nat.le_of_ble_eq_true rfl) rfl (c_W_watch g _ (k_sat_bind H)) (fun r102 u101 H => ?_)
                                                        refine s_popi 35 14 rfl ?_
                                                        refine s_aloadn 35 15 rfl rfl ?_
                                                        refine s_aloadn 36 0 rfl rfl ?_
                                                        refine s_iloadn 36 1 rfl rfl ?_
                                                        refine s_const 1 36 2 rfl k_ic_1 ?_
                                                        refine s_iadd 36 3 rfl ?_
                                                        refine s_oald 36 4 rfl rfl H (fun _ H => ?_)
                                                        refine s_cvi1 (M' := MX12_watch) 36 5 rfl k_ml201 vvX12_watch rfl rfl (Nat.le_of_ble_eq_true rfl) rfl (c_R_watch g _ (k_sat_bind H)) (fun r104 u103 H => ?_)
                                                        refine s_popi 36 6 rfl ?_
                                                        refine s_goto 36 7 1368 rfl (by decide) ?_
                                                        refine s_iinc 58 8 rfl rfl rfl ?_
                                                        refine s_goto 58 9 18 rfl (by decide) ?_
                                                        exact k_via (hb _ _ (k_sat_some H)) ⟨rfl, rfl, rfl, rfl, trivial⟩
                                                      · replace H := k_sat_neg H e25
                                                        by_cases e26 : (((k_sx g) (v3).toNatClampNeg) &&& 63) = 26
                                                        · replace H := k_sat_pos H e26
                                                          refine s_table 1 5 926 rfl 26 e26 (by decide) (by decide) (off := 893) (by decide) (by decide) ?_
                                                          refine s_aloadn 36 8 rfl rfl ?_
                                                          refine s_cvi0 (M' := MX11_image) 36 9 rfl k_ml202 vvX11_image rfl rfl (Nat.le_of_ble_eq_true rfl) rfl (c_W_image g (k_sat_bind H)) (fun r106 u105 H => ?_)
                                                          refine s_popi 36 10 rfl ?_
                                                          refine s_aloadn 36 11 rfl rfl ?_
                                                          refine s_cvi0 (M' := MX12_image) 36 12 rfl k_ml203 vvX12_image rfl rfl (Nat.le_of_ble_eq_true rfl) rfl (c_R_image g (k_sat_bind H)) (fun r108 u107 H => ?_)
                                                          refine s_popi 36 13 rfl ?_
                                                          refine s_goto 36 14 1368 rfl (by decide) ?_
                                                          refine s_iinc 58 8 rfl rfl rfl ?_
                                                          refine s_goto 58 9 18 rfl (by decide) ?_
                                                          exact k_via (hb _ _ (k_sat_some H)) ⟨rfl, rfl, rfl, rfl, trivial⟩
                                                        · replace H := k_sat_neg H e26
                                                          by_cases e27 : (((k_sx g) (v3).toNatClampNeg) &&& 63) = 27
                                                          · replace H := k_sat_pos H e27
                                                            refine s_table 1 5 939 rfl 27 e27 (by decide) (by decide) (off := 906) (by decide) (by decide) ?_
                                                            refine s_aloadn 36 15 rfl rfl ?_
                                                            refine s_cvi0 (M' := MX11_back) 37 0 rfl k_ml204 vvX11_back rfl rfl (Nat.le_of_ble_eq_true rfl) rfl (c_W_back g (k_sat_bind H)) (fun r110 u109 H => ?_)
                                                            refine s_popi 37 1 rfl ?_
                                                            refine s_aloadn 37 2 rfl rfl ?_
                                                            refine s_cvi0 (M' := MX12_back) 37 3 rfl k_ml205 vvX12_back rfl rfl (Nat.le_of_ble_eq_true rfl) rfl (c_R_back g (k_sat_bind H)) (fun r112 u111 H => ?_)
                                                            refine s_popi 37 4 rfl ?_
                                                            refine s_goto 37 5 1368 rfl (by decide) ?_
                                                            refine s_iinc 58 8 rfl rfl rfl ?_
                                                            refine s_goto 58 9 18 rfl (by decide) ?_
                                                            exact k_via (hb _ _ (k_sat_some H)) ⟨rfl, rfl, rfl, rfl, trivial⟩
                                                          · replace H := k_sat_neg H e27
                                                            by_cases e28 : (((k_sx g) (v3).toNatClampNeg) &&& 63) = 28
                                                            · replace H := k_sat_pos H e28
                                                              refine s_table 1 5 952 rfl 28 e28 (by decide) (by decide) (off := 919) (by decide) (by decide) ?_
                                                              refine s_aloadn 37 6 rfl rfl ?_
                                                              refine s_cvi0 (M' := MX11_undo) 37 7 rfl k_ml206 vvX11_undo rfl rfl (Nat.le_of_ble_eq_true rfl) rfl (c_W_undo g (k_sat_bind H)) (fun r114 u113 H => ?_)
                                                              refine s_popi 37 8 rfl ?_
                                                              refine s_aloadn 37 9 rfl rfl ?_
                                                              refine s_cvi0 (M' := MX12_undo) 37 10 rfl k_ml207 vvX12_undo rfl rfl (Nat.le_of_ble_eq_true rfl) rfl (c_R_undo g (k_sat_bind H)) (fun r116 u115 H => ?_)
                                                              refine s_popi 37 11 rfl ?_
                                                              refine s_goto 37 12 1368 rfl (by decide) ?_
                                                              refine s_iinc 58 8 rfl rfl rfl ?_
                                                              refine s_goto 58 9 18 rfl (by decide) ?_
                                                              exact k_via (hb _ _ (k_sat_some H)) ⟨rfl, rfl, rfl, rfl, trivial⟩
                                                            · replace H := k_sat_neg H e28
                                                              by_cases e29 : (((k_sx g) (v3).toNatClampNeg) &&& 63) = 29
                                                              · replace H := k_sat_pos H e29
                                                                refine s_table 1 5 965 rfl 29 e29 (by decide) (by decide) (off := 932) (by decide) (by decide) ?_
                                                                refine s_aloadn 37 13 rfl rfl ?_
                                                                refine s_cvi0 (M' := MX11_redo) 37 14 rfl k_ml208 vvX11_redo rfl rfl (Nat.le_of_ble_eq_true rfl) rfl (c_W_redo g (k_sat_bind H)) (fun r118 u117 H => ?_)
                                                                refine s_popi 37 15 rfl ?_
                                                                refine s_aloadn 38 0 rfl rfl ?_
                                                                refine s_cvi0 (M' := MX12_redo) 38 1 rfl k_ml209 vvX12_redo rfl rfl (Nat.le_of_ble_eq_true rfl) rfl (c_R_redo g (k_sat_bind H)) (fun r120 u119 H => ?_)
                                                                refine s_popi 38 2 rfl ?_
                                                                refine s_goto 38 3 1368 rfl (by decide) ?_
                                                                refine s_iinc 58 8 rfl rfl rfl ?_
                                                                refine s_goto 58 9 18 rfl (by decide) ?_
                                                                exact k_via (hb _ _ (k_sat_some H)) ⟨rfl, rfl, rfl, rfl, trivial⟩
                                                              · replace H := k_sat_neg H e29
                                                                by_cases e30 : (((k_sx g) (v3).toNatClampNeg) &&& 63) = 30
                                                                · replace H := k_sat_pos H e30
                                                                  refine s_table 1 5 978 rfl 30 e30 (by decide) (by decide) (off := 945) (by decide) (by decide) ?_
                                                                  refine s_aloadn 38 4 rfl rfl ?_
                                                                  refine s_aloadn 38 5 rfl rfl ?_
                                                                  refine s_iloadn 38 6 rfl rfl ?_
                                                                  refine s_const 1 38 7 rfl k_ic_1 ?_
                                                                  refine s_iadd 38 8 rfl ?_
                                                                  refine s_oald 38 9 rfl rfl H (fun _ H => ?_)
                                                                  refine s_cvi1 (M' := MX11_body) 38 10 rfl k_ml210 vvX11_body rfl rfl (Nat.le_of_ble_eq_true rfl) rfl (c_W_body g _ (k_sat_bind H)) (fun r122 u121 H => ?_)
                                                                  refine s_popi 38 11 rfl ?_
                                                                  refine s_aloadn 38 12 rfl rfl ?_
                                                                  refine s_aloadn 38 13 rfl rfl ?_
                                                                  refine s_iloadn 38 14 rfl rfl ?_
                                                                  refine s_const 1 38 15 rfl k_ic_1 ?_
                                                                  refine s_iadd 39 0 rfl ?_
                                                                  refine s_oald 39 1 rfl rfl H (fun _ H => ?_)
                                                                  refine s_cvi1 (M' := MX12_body) 39 2 rfl k_ml211 vvX12_body rfl rfl (Nat.le_of_ble_eq_true rfl) rfl (c_R_body g _ (k_sat_bind H)) (fun r124 u123 H => ?_)
                                                                  refine s_popi 39 3 rfl ?_
                                                                  refine s_goto 39 4 1368 rfl (by decide) ?_
                                                                  refine s_iinc 58 8 rfl rfl rfl ?_
                                                                  refine s_goto 58 9 18 rfl (by decide) ?_
                                                                  exact k_via (hb _ _ (k_sat_some H)) ⟨rfl, rfl, rfl, rfl, trivial⟩
                                                                · replace H := k_sat_neg H e30
                                                                  by_cases e31 : (((k_sx g) (v3).toNatClampNeg) &&& 63) = 31
                                                                  · replace H := k_sat_pos H e31
                                                                    refine s_table 1 5 1001 rfl 31 e31 (by decide) (by decide) (off := 968) (by decide) (by decide) ?_
                                                                    refine s_aloadn 39 5 rfl rfl ?_
                                                                    refine s_aloadn 39 6 rfl rfl ?_
                                                                    refine s_iloadn 39 7 rfl rfl ?_
                                                                    refine s_const 1 39 8 rfl k_ic_1 ?_
                                                                    refine s_iadd 39 9 rfl ?_
                                                                    refine s_oald 39 10 rfl rfl H (fun _ H => ?_)
                                                                    refine s_aloadn 39 11 rfl rfl ?_
                                                                    refine s_iloadn 39 12 rfl rfl ?_
                                                                    refine s_const 2 39 13 rfl k_ic_2 ?_
                                                                    refine s_iadd 39 14 rfl ?_
                                                                    refine s_oald 39 15 rfl rfl H (fun _ H => ?_)
                                                                    refine s_aloadn 40 0 rfl rfl ?_
                                                                    refine s_iloadn 40 1 rfl rfl ?_
                                                                    refine s_const 3 40 2 rfl k_ic_3 ?_
                                                                    refine s_iadd 40 3 rfl ?_
                                                                    refine s_oald 40 4 rfl rfl H (fun _ H => ?_)
                                                                    refine s_cvi3 (M' := MX11_act) 40 5 rfl k_ml212 vvX11_act rfl rfl (Nat.le_of_ble_eq_true rfl) rfl (c_W_act g _ _ _ (k_sat_bind H)) (fun r126 u125 H => ?_)
                                                                    refine s_popi 40 6 rfl ?_
                                                                    refine s_aloadn 40 7 rfl rfl ?_
                                                                    refine s_aloadn 40 8 rfl rfl ?_
                                                                    refine s_iloadn 40 9 rfl rfl ?_
                                                                    refine s_const 1 40 10 rfl k_ic_1 ?_
                                                                    refine s_iadd 40 11 rfl ?_
                                                                    refine s_oald 40 12 rfl rfl H (fun _ H => ?_)
                                                                    refine s_aloadn 40 13 rfl rfl ?_
                                                                    refine s_iloadn 40 14 rfl rfl ?_
                                                                    refine s_const 2 40 15 rfl k_ic_2 ?_
                                                                    refine s_iadd 41 0 rfl ?_
                                                                    refine s_oald 41 1 rfl rfl H (fun _ H => ?_)
                                                                    refine s_aloadn 41 2 rfl rfl ?_
                                                                    refine s_iloadn 41 3 rfl rfl ?_
                                                                    refine s_const 3 41 4 rfl k_ic_3 ?_
                                                                    refine s_iadd 41 5 rfl ?_
                                                                    refine s_oald 41 6 rfl rfl H (fun _ H => ?_)
                                                                    refine s_cvi3 (M' := MX12_act) 41 7 rfl k_ml213 vvX12_act rfl rfl (Nat.le_of_ble_eq_true rfl) rfl (c_R_act g _ _ _ (k_sat_bind H)) (fun r128 u127 H => ?_)
                                                                    refine s_popi 41 8 rfl ?_
                                                                    refine s_goto 41 9 1368 rfl (by decide) ?_
                                                                    refine s_iinc 58 8 rfl rfl rfl ?_
                                                                    refine s_goto 58 9 18 rfl (by decide) ?_
                                                                    exact k_via (hb _ _ (k_sat_some H)) ⟨rfl, rfl, rfl, rfl, trivial⟩
                                                                  · replace H := k_sat_neg H e31
                                                                    by_cases e32 : (((k_sx g) (v3).toNatClampNeg) &&& 63) = 32
                                                                    · replace H := k_sat_pos H e32
                                                                      refine s_table 1 5 1044 rfl 32 e32 (by decide) (by decide) (off := 1011) (by decide) (by decide) ?_
                                                                      refine s_aloadn 41 10 rfl rfl ?_
                                                                      refine s_aloadn 41 11 rfl rfl ?_
                                                                      refine s_iloadn 41 12 rfl rfl ?_
                                                                      refine s_const 1 41 13 rfl k_ic_1 ?_
                                                                      refine s_iadd 41 14 rfl ?_
                                                                      refine s_oald 41 15 rfl rfl H (fun _ H => ?_)
                                                                      refine s_cvi1 (M' := MX11_trace) 42 0 rfl k_ml214 vvX11_trace rfl rfl (Nat.le_of_ble_eq_true rfl) rfl (c_W_trace g _ (k_sat_bind H)) (fun r130 u129 H => ?_)
                                                                      refine s_popi 42 1 rfl ?_
                                                                      refine s_aloadn 42 2 rfl rfl ?_
                                                                      refine s_aloadn 42 3 rfl rfl ?_
                                                                      refine s_iloadn 42 4 rfl rfl ?_
                                                                      refine s_const 1 42 5 rfl k_ic_1 ?_
                                                                      refine s_iadd 42 6 rfl ?_
                                                                      refine s_oald 42 7 rfl rfl H (fun _ H => ?_)
                                                                      refine s_cvi1 (M' := MX12_trace) 42 8 rfl k_ml215 vvX12_trace rfl rfl (Nat.le_of_ble_eq_true rfl) rfl (c_R_trace g _ (k_sat_bind H)) (fun r132 u131 H => ?_)
                                                                      refine s_popi 42 9 rfl ?_
                                                                      refine s_goto 42 10 1368 rfl (by decide) ?_
                                                                      refine s_iinc 58 8 rfl rfl rfl ?_
                                                                      refine s_goto 58 9 18 rfl (by decide) ?_
                                                                      exact k_via (hb _ _ (k_sat_some H)) ⟨rfl, rfl, rfl, rfl, trivial⟩
                                                                    · replace H := k_sat_neg H e32
                                                                      by_cases e33 : (((k_sx g) (v3).toNatClampNeg) &&& 63) = 33
                                                                      · replace H := k_sat_pos H e33
                                                                        refine s_table 1 5 1067 rfl 33 e33 (by decide) (by decide) (off := 1034) (by decide) (by decide) ?_
                                                                        refine s_aloadn 42 11 rfl rfl ?_
                                                                        refine s_aloadn 42 12 rfl rfl ?_
                                                                        refine s_iloadn 42 13 rfl rfl ?_
                                                                        refine s_const 1 42 14 rfl k_ic_1 ?_
                                                                        refine s_iadd 42 15 rfl ?_
                                                                        refine s_oald 43 0 rfl rfl H (fun _ H => ?_)
                                                                        refine s_aloadn 43 1 rfl rfl ?_
                                                                        refine s_iloadn 43 2 rfl rfl ?_
                                                                        refine s_const 2 43 3 rfl k_ic_2 ?_
                                                                        refine s_iadd 43 4 rfl ?_
                                                                        refine s_oald 43 5 rfl rfl H (fun _ H => ?_)
                                                                        refine s_cvi2 (M' := MX11_keep) 43 6 rfl k_ml216 vvX11_keep rfl rfl (Nat.le_of_ble_eq_true rfl) rfl (c_W_keep g _ _ (k_sat_bind H)) (fun r134 u133 H => ?_)
                                                                        refine s_popi 43 7 rfl ?_
                                                                        refine s_aloadn 43 8 rfl rfl ?_
                                                                        refine s_aloadn 43 9 rfl rfl ?_
                                                                        refine s_iloadn 43 10 rfl rfl ?_
                                                                        refine s_const 1 43 11 rfl k_ic_1 ?_
                                                                        refine s_iadd 43 12 rfl ?_
                                                                        refine s_oald 43 13 rfl rfl H (fun _ H => ?_)
                                                                        refine s_aloadn 43 14 rfl rfl ?_
                                                                        refine s_iloadn 43 15 rfl rfl ?_
                                                                        refine s_const 2 44 0 rfl k_ic_2 ?_
                                                                        refine s_iadd 44 1 rfl ?_
                                                                        refine s_oald 44 2 rfl rfl H (fun _ H => ?_)
                                                                        refine s_cvi2 (M' := MX12_keep) 44 3 rfl k_ml217 vvX12_keep rfl rfl (Nat.le_of_ble_eq_true rfl) rfl (c_R_keep g _ _ (k_sat_bind H)) (fun r136 u135 H => ?_)
                                                                        refine s_popi 44 4 rfl ?_
                                                                        refine s_goto 44 5 1368 rfl (by decide) ?_
                                                                        refine s_iinc 58 8 rfl rfl rfl ?_
                                                                        refine s_goto 58 9 18 rfl (by decide) ?_
                                                                        exact k_via (hb _ _ (k_sat_some H)) ⟨rfl, rfl, rfl, rfl, trivial⟩
                                                                      · replace H := k_sat_neg H e33
                                                                        by_cases e34 : (((k_sx g) (v3).toNatClampNeg) &&& 63) = 34
                                                                        · replace H := k_sat_pos H e34
                                                                          refine s_table 1 5 1100 rfl 34 e34 (by decide) (by decide) (off := 1067) (by decide) (by decide) ?_
                                                                          refine s_aloadn 44 6 rfl rfl ?_
                                                                          refine s_aloadn 44 7 rfl rfl ?_
                                                                          refine s_iloadn 44 8 rfl rfl ?_
                                                                          refine s_const 1 44 9 rfl k_ic_1 ?_
                                                                          refine s_iadd 44 10 rfl ?_
                                                                          refine s_oald 44 11 rfl rfl H (fun _ H => ?_)
                                                                          refine s_aloadn 44 12 rfl rfl ?_
                                                                          refine s_iloadn 44 13 rfl rfl ?_
                                                                          refine s_const 2 44 14 rfl k_ic_2 ?_
                                                                          refine s_iadd 44 15 rfl ?_
                                                                          refine s_oald 45 0 rfl rfl H (fun _ H => ?_)
                                                                          refine s_aloadn 45 1 rfl rfl ?_
                                                                          refine s_iloadn 45 2 rfl rfl ?_
                                                                          refine s_const 3 45 3 rfl k_ic_3 ?_
                                                                          refine s_iadd 45 4 rfl ?_
                                                                          refine s_oald 45 5 rfl rfl H (fun _ H => ?_)
                                                                          refine s_cvi3 (M' := MX11_row) 45 6 rfl k_ml218 vvX11_row rfl rfl (Nat.le_of_ble_eq_true rfl) rfl (c_W_row g _ _ _ (k_sat_bind H)) (fun r138 u137 H => ?_)
                                                                          refine s_popi 45 7 rfl ?_
                                                                          refine s_aloadn 45 8 rfl rfl ?_
                                                                          refine s_aloadn 45 9 rfl rfl ?_
                                                                          refine s_iloadn 45 10 rfl rfl ?_
                                                                          refine s_const 1 45 11 rfl k_ic_1 ?_
                                                                          refine s_iadd 45 12 rfl ?_
                                                                          refine s_oald 45 13 rfl rfl H (fun _ H => ?_)
                                                                          refine s_aloadn 45 14 rfl rfl ?_
                                                                          refine s_iloadn 45 15 rfl rfl ?_
                                                                          refine s_const 2 46 0 rfl k_ic_2 ?_
                                                                          refine s_iadd 46 1 rfl ?_
                                                                          refine s_oald 46 2 rfl rfl H (fun _ H => ?_)
                                                                          refine s_aloadn 46 3 rfl rfl ?_
                                                                          refine s_iloadn 46 4 rfl rfl ?_
                                                                          refine s_const 3 46 5 rfl k_ic_3 ?_
                                                                          refine s_iadd 46 6 rfl ?_
                                                                          refine s_oald 46 7 rfl rfl H (fun _ H => ?_)
                                                                          refine s_cvi3 (M' := MX12_row) 46 8 rfl k_ml219 vvX12_row rfl rfl (Nat.le_of_ble_eq_true rfl) rfl (c_R_row g _ _ _ (k_sat_bind H)) (fun r140 u139 H => ?_)
                                                                          refine s_popi 46 9 rfl ?_
                                                                          refine s_goto 46 10 1368 rfl (by decide) ?_
                                                                          refine s_iinc 58 8 rfl rfl rfl ?_
                                                                          refine s_goto 58 9 18 rfl (by decide) ?_
                                                                          exact k_via (hb _ _ (k_sat_some H)) ⟨rfl, rfl, rfl, rfl, trivial⟩
                                                                        · replace H := k_sat_neg H e34
                                                                          by_cases e35 : (((k_sx g) (v3).toNatClampNeg) &&& 63) = 35
                                                                          · replace H := k_sat_pos H e35
                                                                            refine s_table 1 5 1143 rfl 35 e35 (by decide) (by decide) (off := 1110) (by decide) (by decide) ?_
                                                                            refine s_aloadn 46 11 rfl rfl ?_
                                                                            refine s_aloadn 46 12 rfl rfl ?_
                                                                            refine s_iloadn 46 13 rfl rfl ?_
                                                                            refine s_const 1 46 14 rfl k_ic_1 ?_
                                                                            refine s_iadd 46 15 rfl ?_
                                                                            refine s_oald 47 0 rfl rfl H (fun _ H => ?_)
                                                                            refine s_aloadn 47 1 rfl rfl ?_
                                                                            refine s_iloadn 47 2 rfl rfl ?_
                                                                            refine s_const 2 47 3 rfl k_ic_2 ?_
                                                                            refine s_iadd 47 4 rfl ?_
                                                                            refine s_oald 47 5 rfl rfl H (fun _ H => ?_)
                                                                            refine s_aloadn 47 6 rfl rfl ?_
                                                                            refine s_iloadn 47 7 rfl rfl ?_
                                                                            refine s_const 3 47 8 rfl k_ic_3 ?_
                                                                            refine s_iadd 47 9 rfl ?_
                                                                            refine s_oald 47 10 rfl rfl H (fun _ H => ?_)
                                                                            refine s_i2l 47 11 rfl ?_
                                                                            refine s_bipush 32 47 12 rfl k_ib_32 ?_
                                                                            refine s_lshl 47 13 rfl ?_
                                                                            refine s_aloadn 47 14 rfl rfl ?_
                                                                            refine s_iloadn 47 15 rfl rfl ?_
                                                                            refine s_const 4 48 0 rfl k_ic_4 ?_
                                                                            refine s_iadd 48 1 rfl ?_
                                                                            refine s_oald 48 2 rfl rfl H (fun _ H => ?_)
                                                                            refine s_i2l 48 3 rfl ?_
                                                                            refine s_ldc2 4294967295 48 4 rfl (k_in (lw_T6 (List.mem_of_getElem? (i := 3) (by decide +kernel))) rfl) ?_
                                                                            refine s_land 48 5 rfl ?_
                                                                            refine s_lor 48 6 rfl ?_
                                                                            refine s_cvi3 (M' := MX11_put) 48 7 rfl k_ml220 vvX11_put rfl rfl (Nat.le_of_ble_eq_true rfl) rfl (c_W_put g _ _ _ (k_sat_bind H)) (fun r142 u141 H => ?_)
                                                                            refine s_popi 48 8 rfl ?_
                                                                            refine s_aloadn 48 9 rfl rfl ?_
                                                                            refine s_aloadn 48 10 rfl rfl ?_
                                                                            refine s_iloadn 48 11 rfl rfl ?_
                                                                            refine s_const 1 48 12 rfl k_ic_1 ?_
                                                                            refine s_iadd 48 13 rfl ?_
                                                                            refine s_oald 48 14 rfl rfl H (fun _ H => ?_)
                                                                            refine s_aloadn 48 15 rfl rfl ?_
                                                                            refine s_iloadn 49 0 rfl rfl ?_
                                                                            refine s_const 2 49 1 rfl k_ic_2 ?_
                                                                            refine s_iadd 49 2 rfl ?_
                                                                            refine s_oald 49 3 rfl rfl H (fun _ H => ?_)
                                                                            refine s_aloadn 49 4 rfl rfl ?_
                                                                            refine s_iloadn 49 5 rfl rfl ?_
                                                                            refine s_const 3 49 6 rfl k_ic_3 ?_
                                                                            refine s_iadd 49 7 rfl ?_
                                                                            refine s_oald 49 8 rfl rfl H (fun _ H => ?_)
                                                                            refine s_i2l 49 9 rfl ?_
                                                                            refine s_bipush 32 49 10 rfl k_ib_32 ?_
                                                                            refine s_lshl 49 11 rfl ?_
                                                                            refine s_aloadn 49 12 rfl rfl ?_
                                                                            refine s_iloadn 49 13 rfl rfl ?_
                                                                            refine s_const 4 49 14 rfl k_ic_4 ?_
                                                                            refine s_iadd 49 15 rfl ?_
                                                                            refine s_oald 50 0 rfl rfl H (fun _ H => ?_)
                                                                            refine s_i2l 50 1 rfl ?_
                                                                            refine s_ldc2 4294967295 50 2 rfl (k_in (lw_T6 (List.mem_of_getElem? (i := 3) (by decide +kernel))) rfl) ?_
                                                                            refine s_land 50 3 rfl ?_
                                                                            refine s_lor 50 4 rfl ?_
                                                                            refine s_cvi3 (M' := MX12_put) 50 5 rfl k_ml221 vvX12_put rfl rfl (Nat.le_of_ble_eq_true rfl) rfl (c_R_put g _ _ _ (k_sat_bind H)) (fun r144 u143 H => ?_)
                                                                            refine s_popi 50 6 rfl ?_
                                                                            refine s_goto 50 7 1368 rfl (by decide) ?_
                                                                            refine s_iinc 58 8 rfl rfl rfl ?_
                                                                            refine s_goto 58 9 18 rfl (by decide) ?_
                                                                            exact k_via (hb _ _ (k_sat_some H)) ⟨rfl, rfl, rfl, rfl, trivial⟩
                                                                          · replace H := k_sat_neg H e35
                                                                            by_cases e36 : (((k_sx g) (v3).toNatClampNeg) &&& 63) = 36
                                                                            · replace H := k_sat_pos H e36
                                                                              refine s_table 1 5 1216 rfl 36 e36 (by decide) (by decide) (off := 1183) (by decide) (by decide) ?_
                                                                              refine s_aloadn 50 8 rfl rfl ?_
                                                                              refine s_aloadn 50 9 rfl rfl ?_
                                                                              refine s_iloadn 50 10 rfl rfl ?_
                                                                              refine s_const 1 50 11 rfl k_ic_1 ?_
                                                                              refine s_iadd 50 12 rfl ?_
                                                                              refine s_oald 50 13 rfl rfl H (fun _ H => ?_)
                                                                              refine s_aloadn 50 14 rfl rfl ?_
                                                                              refine s_iloadn 50 15 rfl rfl ?_
                                                                              refine s_const 2 51 0 rfl k_ic_2 ?_
                                                                              refine s_iadd 51 1 rfl ?_
                                                                              refine s_oald 51 2 rfl rfl H (fun _ H => ?_)
                                                                              refine s_cvl2 (M' := MX11_element) 51 3 rfl k_ml222 vvX11_element rfl rfl (Nat.le_of_ble_eq_true rfl) rfl (c_W_element g _ _ (k_sat_bind H)) (fun r146 u145 H => ?_)
                                                                              refine s_pop2 51 4 rfl ?_
                                                                              refine s_aloadn 51 5 rfl rfl ?_
                                                                              refine s_aloadn 51 6 rfl rfl ?_
                                                                              refine s_iloadn 51 7 rfl rfl ?_
                                                                              refine s_const 1 51 8 rfl k_ic_1 ?_
                                                                              refine s_iadd 51 9 rfl ?_
                                                                              refine s_oald 51 10 rfl rfl H (fun _ H => ?_)
                                                                              refine s_aloadn 51 11 rfl rfl ?_
                                                                              refine s_iloadn 51 12 rfl rfl ?_
                                                                              refine s_const 2 51 13 rfl k_ic_2 ?_
                                                                              refine s_iadd 51 14 rfl ?_
                                                                              refine s_oald 51 15 rfl rfl H (fun _ H => ?_)
                                                                              refine s_cvl2 (M' := MX12_element) 52 0 rfl k_ml223 vvX12_element rfl rfl (Nat.le_of_ble_eq_true rfl) rfl (c_R_element g _ _ (k_sat_bind H)) (fun r148 u147 H => ?_)
                                                                              refine s_pop2 52 1 rfl ?_
                                                                              refine s_goto 52 2 1368 rfl (by decide) ?_
                                                                              refine s_iinc 58 8 rfl rfl rfl ?_
                                                                              refine s_goto 58 9 18 rfl (by decide) ?_
                                                                              exact k_via (hb _ _ (k_sat_some H)) ⟨rfl, rfl, rfl, rfl, trivial⟩
                                                                            · replace H := k_sat_neg H e36
                                                                              by_cases e37 : (((k_sx g) (v3).toNatClampNeg) &&& 63) = 37
                                                                              · replace H := k_sat_pos H e37
                                                                                refine s_table 1 5 1249 rfl 37 e37 (by decide) (by decide) (off := 1216) (by decide) (by decide) ?_
                                                                                refine s_aloadn 52 3 rfl rfl ?_
                                                                                refine s_aloadn 52 4 rfl rfl ?_
                                                                                refine s_iloadn 52 5 rfl rfl ?_
                                                                                refine s_const 1 52 6 rfl k_ic_1 ?_
                                                                                refine s_iadd 52 7 rfl ?_
                                                                                refine s_oald 52 8 rfl rfl H (fun _ H => ?_)
                                                                                refine s_aloadn 52 9 rfl rfl ?_
                                                                                refine s_iloadn 52 10 rfl rfl ?_
                                                                                refine s_const 2 52 11 rfl k_ic_2 ?_
                                                                                refine s_iadd 52 12 rfl ?_
                                                                                refine s_oald 52 13 rfl rfl H (fun _ H => ?_)
                                                                                refine s_aloadn 52 14 rfl rfl ?_
                                                                                refine s_iloadn 52 15 rfl rfl ?_
                                                                                refine s_const 3 53 0 rfl k_ic_3 ?_
                                                                                refine s_iadd 53 1 rfl ?_
                                                                                refine s_oald 53 2 rfl rfl H (fun _ H => ?_)
                                                                                refine s_aloadn 53 3 rfl rfl ?_
                                                                                refine s_iloadn 53 4 rfl rfl ?_
                                                                                refine s_const 4 53 5 rfl k_ic_4 ?_
                                                                                refine s_iadd 53 6 rfl ?_
                                                                                refine s_oald 53 7 rfl rfl H (fun _ H => ?_)
                                                                                refine s_aloadn 53 8 rfl rfl ?_
                                                                                refine s_iloadn 53 9 rfl rfl ?_
                                                                                refine s_const 5 53 10 rfl k_ic_5 ?_
                                                                                refine s_iadd 53 11 rfl ?_
                                                                                refine s_oald 53 12 rfl rfl H (fun _ H => ?_)
                                                                                refine s_cvi5 (M' := MX11_shift) 53 13 rfl k_ml224 vvX11_shift rfl rfl (Nat.le_of_ble_eq_true rfl) rfl (c_W_shift g _ _ _ _ _ (k_sat_bind H)) (fun r150 u149 H => ?_)
                                                                                refine s_popi 53 14 rfl ?_
                                                                                refine s_aloadn 53 15 rfl rfl ?_
                                                                                refine s_aloadn 54 0 rfl rfl ?_
                                                                                refine s_iloadn 54 1 rfl rfl ?_
                                                                                refine s_const 1 54 2 rfl k_ic_1 ?_
                                                                                refine s_iadd 54 3 rfl ?_
                                                                                refine s_oald 54 4 rfl rfl H (fun _ H => ?_)
                                                                                refine s_aloadn 54 5 rfl rfl ?_
                                                                                refine s_iloadn 54 6 rfl rfl ?_
                                                                                refine s_const 2 54 7 rfl k_ic_2 ?_
                                                                                refine s_iadd 54 8 rfl ?_
                                                                                refine s_oald 54 9 rfl rfl H (fun _ H => ?_)
                                                                                refine s_aloadn 54 10 rfl rfl ?_
                                                                                refine s_iloadn 54 11 rfl rfl ?_
                                                                                refine s_const 3 54 12 rfl k_ic_3 ?_
                                                                                refine s_iadd 54 13 rfl ?_
                                                                                refine s_oald 54 14 rfl rfl H (fun _ H => ?_)
                                                                                refine s_aloadn 54 15 rfl rfl ?_
                                                                                refine s_iloadn 55 0 rfl rfl ?_
                                                                                refine s_const 4 55 1 rfl k_ic_4 ?_
                                                                                refine s_iadd 55 2 rfl ?_
                                                                                refine s_oald 55 3 rfl rfl H (fun _ H => ?_)
                                                                                refine s_aloadn 55 4 rfl rfl ?_
                                                                                refine s_iloadn 55 5 rfl rfl ?_
                                                                                refine s_const 5 55 6 rfl k_ic_5 ?_
                                                                                refine s_iadd 55 7 rfl ?_
                                                                                refine s_oald 55 8 rfl rfl H (fun _ H => ?_)
                                                                                refine s_cvi5 (M' := MX12_shift) 55 9 rfl k_ml225 vvX12_shift rfl rfl (Nat.le_of_ble_eq_true rfl) rfl (c_R_shift g _ _ _ _ _ (k_sat_bind H)) (fun r152 u151 H => ?_)
                                                                                refine s_popi 55 10 rfl ?_
                                                                                refine s_goto 55 11 1368 rfl (by decide) ?_
                                                                                refine s_iinc 58 8 rfl rfl rfl ?_
                                                                                refine s_goto 58 9 18 rfl (by decide) ?_
                                                                                exact k_via (hb _ _ (k_sat_some H)) ⟨rfl, rfl, rfl, rfl, trivial⟩
                                                                              · replace H := k_sat_neg H e37
                                                                                by_cases e38 : (((k_sx g) (v3).toNatClampNeg) &&& 63) = 38
                                                                                · replace H := k_sat_pos H e38
                                                                                  refine s_table 1 5 1312 rfl 38 e38 (by decide) (by decide) (off := 1279) (by decide) (by decide) ?_
                                                                                  refine s_aloadn 55 12 rfl rfl ?_
                                                                                  refine s_aloadn 55 13 rfl rfl ?_
                                                                                  refine s_iloadn 55 14 rfl rfl ?_
                                                                                  refine s_const 1 55 15 rfl k_ic_1 ?_
                                                                                  refine s_iadd 56 0 rfl ?_
                                                                                  refine s_oald 56 1 rfl rfl H (fun _ H => ?_)
                                                                                  refine s_aloadn 56 2 rfl rfl ?_
                                                                                  refine s_iloadn 56 3 rfl rfl ?_
                                                                                  refine s_const 2 56 4 rfl k_ic_2 ?_
                                                                                  refine s_iadd 56 5 rfl ?_
                                                                                  refine s_oald 56 6 rfl rfl H (fun _ H => ?_)
                                                                                  refine s_cvi2 (M' := MX11_taken) 56 7 rfl k_ml226 vvX11_taken rfl rfl (Nat.le_of_ble_eq_true rfl) rfl (c_W_taken g _ _ (k_sat_bind H)) (fun r154 u153 H => ?_)
                                                                                  refine s_popi 56 8 rfl ?_
                                                                                  refine s_aloadn 56 9 rfl rfl ?_
                                                                                  refine s_aloadn 56 10 rfl rfl ?_
                                                                                  refine s_iloadn 56 11 rfl rfl ?_
                                                                                  refine s_const 1 56 12 rfl k_ic_1 ?_
                                                                                  refine s_iadd 56 13 rfl ?_
                                                                                  refine s_oald 56 14 rfl rfl H (fun _ H => ?_)
                                                                                  refine s_aloadn 56 15 rfl rfl ?_
                                                                                  refine s_iloadn 57 0 rfl rfl ?_
                                                                                  refine s_const 2 57 1 rfl k_ic_2 ?_
                                                                                  refine s_iadd 57 2 rfl ?_
                                                                                  refine s_oald 57 3 rfl rfl H (fun _ H => ?_)
                                                                                  refine s_cvi2 (M' := MX12_taken) 57 4 rfl k_ml227 vvX12_taken rfl rfl (Nat.le_of_ble_eq_true rfl) rfl (c_R_taken g _ _ (k_sat_bind H)) (fun r156 u155 H => ?_)
                                                                                  refine s_popi 57 5 rfl ?_
                                                                                  refine s_goto 57 6 1368 rfl (by decide) ?_
                                                                                  refine s_iinc 58 8 rfl rfl rfl ?_
                                                                                  refine s_goto 58 9 18 rfl (by decide) ?_
                                                                                  exact k_via (hb _ _ (k_sat_some H)) ⟨rfl, rfl, rfl, rfl, trivial⟩
                                                                                · replace H := k_sat_neg H e38
                                                                                  by_cases e39 : (((k_sx g) (v3).toNatClampNeg) &&& 63) = 39
                                                                                  · replace H := k_sat_pos H e39
                                                                                    refine s_table 1 5 1345 rfl 39 e39 (by decide) (by decide) (off := 1312) (by decide) (by decide) ?_
                                                                                    refine s_aloadn 57 7 rfl rfl ?_
                                                                                    refine s_aloadn 57 8 rfl rfl ?_
                                                                                    refine s_iloadn 57 9 rfl rfl ?_
                                                                                    refine s_const 1 57 10 rfl k_ic_1 ?_
                                                                                    refine s_iadd 57 11 rfl ?_
                                                                                    refine s_oald 57 12 rfl rfl H (fun _ H => ?_)
                                                                                    refine s_cvi1 (M' := MX11_count) 57 13 rfl k_ml228 vvX11_count rfl rfl (Nat.le_of_ble_eq_true rfl) rfl (c_W_count g _ (k_sat_bind H)) (fun r158 u157 H => ?_)
                                                                                    refine s_aloadn 57 14 rfl rfl ?_
                                                                                    refine s_aloadn 57 15 rfl rfl ?_
                                                                                    refine s_iloadn 58 0 rfl rfl ?_
                                                                                    refine s_const 1 58 1 rfl k_ic_1 ?_
                                                                                    refine s_iadd 58 2 rfl ?_
                                                                                    refine s_oald 58 3 rfl rfl H (fun _ H => ?_)
                                                                                    refine s_cvi1 (M' := MX12_count) 58 4 rfl k_ml229 vvX12_count rfl rfl (Nat.le_of_ble_eq_true rfl) rfl (c_R_count g _ (k_sat_bind H)) (fun r160 u159 H => ?_)
                                                                                    refine s_icmp_eq 58 5 1368 rfl (by decide) H (fun _ H => ?_) (fun _ H => ?_)
                                                                                    · refine s_iinc 58 8 rfl rfl rfl ?_
                                                                                      refine s_goto 58 9 18 rfl (by decide) ?_
                                                                                      exact k_via (hb _ _ (k_sat_some H)) ⟨rfl, rfl, rfl, rfl, trivial⟩
                                                                                    · refine s_const 0 58 6 rfl k_ic_0 ?_
                                                                                      exact s_zret 58 7 rfl rfl k_z0 (hr _ _ (k_sat_some H))
                                                                                  · replace H := k_sat_neg H e39
                                                                                    refine s_tableOut (x := ((k_sx g) (v3).toNatClampNeg) &&& 63) 1 5 1368 rfl (by have e0 := lv_neT (a := 0) e0 (by decide); have e1 := lv_neT (a := 1) e1 (by decide); have e2 := lv_neT (a := 2) e2 (by decide); have e3 := lv_neT (a := 3) e3 (by decide); have e4 := lv_neT (a := 4) e4 (by decide); have e5 := lv_neT (a := 5) e5 (by decide); have e6 := lv_neT (a := 6) e6 (by decide); have e7 := lv_neT (a := 7) e7 (by decide); have e8 := lv_neT (a := 8) e8 (by decide); have e9 := lv_neT (a := 9) e9 (by decide); have e10 := lv_neT (a := 10) e10 (by decide); have e11 := lv_neT (a := 11) e11 (by decide); have e12 := lv_neT (a := 12) e12 (by decide); have e13 := lv_neT (a := 13) e13 (by decide); have e14 := lv_neT (a := 14) e14 (by decide); have e15 := lv_neT (a := 15) e15 (by decide); have e16 := lv_neT (a := 16) e16 (by decide); have e17 := lv_neT (a := 17) e17 (by decide); have e18 := lv_neT (a := 18) e18 (by decide); have e19 := lv_neT (a := 19) e19 (by decide); have e20 := lv_neT (a := 20) e20 (by decide); have e21 := lv_neT (a := 21) e21 (by decide); have e22 := lv_neT (a := 22) e22 (by decide); have e23 := lv_neT (a := 23) e23 (by decide); have e24 := lv_neT (a := 24) e24 (by decide); have e25 := lv_neT (a := 25) e25 (by decide); have e26 := lv_neT (a := 26) e26 (by decide); have e27 := lv_neT (a := 27) e27 (by decide); have e28 := lv_neT (a := 28) e28 (by decide); have e29 := lv_neT (a := 29) e29 (by decide); have e30 := lv_neT (a := 30) e30 (by decide); have e31 := lv_neT (a := 31) e31 (by decide); have e32 := lv_neT (a := 32) e32 (by decide); have e33 := lv_neT (a := 33) e33 (by decide); have e34 := lv_neT (a := 34) e34 (by decide); have e35 := lv_neT (a := 35) e35 (by decide); have e36 := lv_neT (a := 36) e36 (by decide); have e37 := lv_neT (a := 37) e37 (by decide); have e38 := lv_neT (a := 38) e38 (by decide); have e39 := lv_neT (a := 39) e39 (by decide); omega) (by decide) ?_
                                                                                    refine s_iinc 58 8 rfl rfl rfl ?_
                                                                                    refine s_goto 58 9 18 rfl (by decide) ?_
                                                                                    exact k_via (hb _ _ (k_sat_some H)) ⟨rfl, rfl, rfl, rfl, trivial⟩
set_option maxRecDepth 100000 in
theorem l_law_B18 (g : k_G)   {Q : Option Value → k_S → Prop} {K : (Int32 ⊕ Unit) → k_S → Prop} (hr : ∀ (r : Int32) (u' : k_S), K (.inl r) u' → Q (some (.int r)) u') (he : ∀ (y : Unit) (u' : k_S), K (.inr y) u' → k_W g 68 ML_law 1374 [] [] u' Q) : ∀ (n : Nat) (x : (Int32)) (u : k_S), k_sat (k_itr (fun (x : (Int32)) u => f_law_B18 (k_sl g) (k_sx g) x u) n x u) K → k_W g 68 ML_law 18 [(0, .ref 104), (1, .ref 0), (2, .ref 42), (3, .int x)] [] u Q :=
  k_loop (P := fun (x : (Int32)) u => k_W g 68 ML_law 18 [(0, .ref 104), (1, .ref 0), (2, .ref 42), (3, .int x)] [] u Q) (fun (x : (Int32)) u H => t_law_B18 g  x  (fun r u' h => hr r u' h) (fun x u' h => h) (fun y u' h => he y u' h) H)
