section KCR
variable {g : k_G} {d : Nat} {M : k_M} {pc : Nat} {l : List (Nat × Value)} {st : List Value} {u : k_S} {Q : Option Value → k_S → Prop}
theorem k_via {l' : List (Nat × Value)} (k : k_W g d M pc l' st u Q) (h : k_sub l l') : k_W g d M pc l st u Q := k_W.sub h k
theorem k_topi {α : Type} {QQ : α → k_S → Prop} {B : Int32 → Option (α × k_S)} {x : Int32} (HH : k_sat (k_let x B) QQ) (k : ∀ t, k_sat (B t) QQ → k_W g d M pc l (.int t :: st) u Q) : k_W g d M pc l (.int x :: st) u Q := k x HH
theorem k_topl {α : Type} {QQ : α → k_S → Prop} {B : Int64 → Option (α × k_S)} {x : Int64} (HH : k_sat (k_let x B) QQ) (k : ∀ t, k_sat (B t) QQ → k_W g d M pc l (.long t :: st) u Q) : k_W g d M pc l (.long x :: st) u Q := k x HH
theorem s_cvi0 {M' : k_M} {idx b ci : Nat} {fs : List (Option Nat)} {T : u_T} {N d' : Nat} {P : Int32 → k_S → Prop} (i j : Nat) (hd : k_i M i j = some (pc, .invokevirtual idx, 3)) (hl : Cond.methodLink M.1.cls idx M'.1 ∈ k_tbl) (hM : k_mv M' 0) (hb : k_nth k_lay b = some (.inl (ci, fs))) (hc : k_nth vwCl ci = some (M'.1.cls, T, N)) (hdd : d' + 1 ≤ d) (hst : Nat.ble (st.map fun v => v.category).sum 8 = true) (hOK : k_OK g d' M' (.ref b :: []) u (k_qi P)) (k : ∀ (x : Int32) (u' : k_S), P x u' → k_W g d M (pc + 3) l (.int x :: st) u' Q) : k_W g d M pc l (.ref b :: st) u Q :=
  k_callv (As := []) i j hd hl hM rfl hb hc hdd hst hOK (fun r u' hq _ => by obtain ⟨x, rfl, h⟩ := hq; exact k x u' h) k_qi_pr
theorem s_cvi1 {M' : k_M} {a0 : Value} {idx b ci : Nat} {fs : List (Option Nat)} {T : u_T} {N d' : Nat} {P : Int32 → k_S → Prop} (i j : Nat) (hd : k_i M i j = some (pc, .invokevirtual idx, 3)) (hl : Cond.methodLink M.1.cls idx M'.1 ∈ k_tbl) (hM : k_mv M' 1) (hb : k_nth k_lay b = some (.inl (ci, fs))) (hc : k_nth vwCl ci = some (M'.1.cls, T, N)) (hdd : d' + 1 ≤ d) (hst : Nat.ble (st.map fun v => v.category).sum 8 = true) (hOK : k_OK g d' M' (.ref b :: [a0]) u (k_qi P)) (k : ∀ (x : Int32) (u' : k_S), P x u' → k_W g d M (pc + 3) l (.int x :: st) u' Q) : k_W g d M pc l (a0 :: .ref b :: st) u Q :=
  k_callv (As := [a0]) i j hd hl hM rfl hb hc hdd hst hOK (fun r u' hq _ => by obtain ⟨x, rfl, h⟩ := hq; exact k x u' h) k_qi_pr
theorem s_csi1 {M' : k_M} {a0 : Value} {idx d' : Nat} {P : Int32 → k_S → Prop} (i j : Nat) (hd : k_i M i j = some (pc, .invokestatic idx, 3)) (hl : Cond.methodLink M.1.cls idx M'.1 ∈ k_tbl) (hM : k_ms M' 1) (hdd : d' + 1 ≤ d) (hst : Nat.ble (st.map fun v => v.category).sum 8 = true) (hOK : k_OK g d' M' [a0] u (k_qi P)) (k : ∀ (x : Int32) (u' : k_S), P x u' → k_W g d M (pc + 3) l (.int x :: st) u' Q) : k_W g d M pc l (a0 :: st) u Q :=
  k_calls (As := [a0]) i j hd hl hM rfl hdd hst hOK (fun r u' hq _ => by obtain ⟨x, rfl, h⟩ := hq; exact k x u' h) k_qi_pr
theorem s_csNi1 {M' : k_M} {a0 : Value} {idx d' : Nat} {P : Int32 → k_S → Prop} (i j : Nat) (hd : k_i M i j = some (pc, .invokestatic idx, 3)) (hl : Cond.methodLinkNest M.1.cls idx M'.1 "WheelSkips" ∈ k_nest) (hM : k_ms M' 1) (hdd : d' + 1 ≤ d) (hst : Nat.ble (st.map fun v => v.category).sum 8 = true) (hOK : k_OK g d' M' [a0] u (k_qi P)) (k : ∀ (x : Int32) (u' : k_S), P x u' → k_W g d M (pc + 3) l (.int x :: st) u' Q) : k_W g d M pc l (a0 :: st) u Q :=
  k_callsN (As := [a0]) i j hd hl hM rfl hdd hst hOK (fun r u' hq _ => by obtain ⟨x, rfl, h⟩ := hq; exact k x u' h) k_qi_pr
theorem s_cvi2 {M' : k_M} {a0 a1 : Value} {idx b ci : Nat} {fs : List (Option Nat)} {T : u_T} {N d' : Nat} {P : Int32 → k_S → Prop} (i j : Nat) (hd : k_i M i j = some (pc, .invokevirtual idx, 3)) (hl : Cond.methodLink M.1.cls idx M'.1 ∈ k_tbl) (hM : k_mv M' 2) (hb : k_nth k_lay b = some (.inl (ci, fs))) (hc : k_nth vwCl ci = some (M'.1.cls, T, N)) (hdd : d' + 1 ≤ d) (hst : Nat.ble (st.map fun v => v.category).sum 8 = true) (hOK : k_OK g d' M' (.ref b :: [a0, a1]) u (k_qi P)) (k : ∀ (x : Int32) (u' : k_S), P x u' → k_W g d M (pc + 3) l (.int x :: st) u' Q) : k_W g d M pc l (a1 :: a0 :: .ref b :: st) u Q :=
  k_callv (As := [a0, a1]) i j hd hl hM rfl hb hc hdd hst hOK (fun r u' hq _ => by obtain ⟨x, rfl, h⟩ := hq; exact k x u' h) k_qi_pr
theorem s_csi2 {M' : k_M} {a0 a1 : Value} {idx d' : Nat} {P : Int32 → k_S → Prop} (i j : Nat) (hd : k_i M i j = some (pc, .invokestatic idx, 3)) (hl : Cond.methodLink M.1.cls idx M'.1 ∈ k_tbl) (hM : k_ms M' 2) (hdd : d' + 1 ≤ d) (hst : Nat.ble (st.map fun v => v.category).sum 8 = true) (hOK : k_OK g d' M' [a0, a1] u (k_qi P)) (k : ∀ (x : Int32) (u' : k_S), P x u' → k_W g d M (pc + 3) l (.int x :: st) u' Q) : k_W g d M pc l (a1 :: a0 :: st) u Q :=
  k_calls (As := [a0, a1]) i j hd hl hM rfl hdd hst hOK (fun r u' hq _ => by obtain ⟨x, rfl, h⟩ := hq; exact k x u' h) k_qi_pr
theorem s_csNi2 {M' : k_M} {a0 a1 : Value} {idx d' : Nat} {P : Int32 → k_S → Prop} (i j : Nat) (hd : k_i M i j = some (pc, .invokestatic idx, 3)) (hl : Cond.methodLinkNest M.1.cls idx M'.1 "WheelSkips" ∈ k_nest) (hM : k_ms M' 2) (hdd : d' + 1 ≤ d) (hst : Nat.ble (st.map fun v => v.category).sum 8 = true) (hOK : k_OK g d' M' [a0, a1] u (k_qi P)) (k : ∀ (x : Int32) (u' : k_S), P x u' → k_W g d M (pc + 3) l (.int x :: st) u' Q) : k_W g d M pc l (a1 :: a0 :: st) u Q :=
  k_callsN (As := [a0, a1]) i j hd hl hM rfl hdd hst hOK (fun r u' hq _ => by obtain ⟨x, rfl, h⟩ := hq; exact k x u' h) k_qi_pr
theorem s_cvi3 {M' : k_M} {a0 a1 a2 : Value} {idx b ci : Nat} {fs : List (Option Nat)} {T : u_T} {N d' : Nat} {P : Int32 → k_S → Prop} (i j : Nat) (hd : k_i M i j = some (pc, .invokevirtual idx, 3)) (hl : Cond.methodLink M.1.cls idx M'.1 ∈ k_tbl) (hM : k_mv M' 3) (hb : k_nth k_lay b = some (.inl (ci, fs))) (hc : k_nth vwCl ci = some (M'.1.cls, T, N)) (hdd : d' + 1 ≤ d) (hst : Nat.ble (st.map fun v => v.category).sum 8 = true) (hOK : k_OK g d' M' (.ref b :: [a0, a1, a2]) u (k_qi P)) (k : ∀ (x : Int32) (u' : k_S), P x u' → k_W g d M (pc + 3) l (.int x :: st) u' Q) : k_W g d M pc l (a2 :: a1 :: a0 :: .ref b :: st) u Q :=
  k_callv (As := [a0, a1, a2]) i j hd hl hM rfl hb hc hdd hst hOK (fun r u' hq _ => by obtain ⟨x, rfl, h⟩ := hq; exact k x u' h) k_qi_pr
theorem s_csi3 {M' : k_M} {a0 a1 a2 : Value} {idx d' : Nat} {P : Int32 → k_S → Prop} (i j : Nat) (hd : k_i M i j = some (pc, .invokestatic idx, 3)) (hl : Cond.methodLink M.1.cls idx M'.1 ∈ k_tbl) (hM : k_ms M' 3) (hdd : d' + 1 ≤ d) (hst : Nat.ble (st.map fun v => v.category).sum 8 = true) (hOK : k_OK g d' M' [a0, a1, a2] u (k_qi P)) (k : ∀ (x : Int32) (u' : k_S), P x u' → k_W g d M (pc + 3) l (.int x :: st) u' Q) : k_W g d M pc l (a2 :: a1 :: a0 :: st) u Q :=
  k_calls (As := [a0, a1, a2]) i j hd hl hM rfl hdd hst hOK (fun r u' hq _ => by obtain ⟨x, rfl, h⟩ := hq; exact k x u' h) k_qi_pr
theorem s_cvi4 {M' : k_M} {a0 a1 a2 a3 : Value} {idx b ci : Nat} {fs : List (Option Nat)} {T : u_T} {N d' : Nat} {P : Int32 → k_S → Prop} (i j : Nat) (hd : k_i M i j = some (pc, .invokevirtual idx, 3)) (hl : Cond.methodLink M.1.cls idx M'.1 ∈ k_tbl) (hM : k_mv M' 4) (hb : k_nth k_lay b = some (.inl (ci, fs))) (hc : k_nth vwCl ci = some (M'.1.cls, T, N)) (hdd : d' + 1 ≤ d) (hst : Nat.ble (st.map fun v => v.category).sum 8 = true) (hOK : k_OK g d' M' (.ref b :: [a0, a1, a2, a3]) u (k_qi P)) (k : ∀ (x : Int32) (u' : k_S), P x u' → k_W g d M (pc + 3) l (.int x :: st) u' Q) : k_W g d M pc l (a3 :: a2 :: a1 :: a0 :: .ref b :: st) u Q :=
  k_callv (As := [a0, a1, a2, a3]) i j hd hl hM rfl hb hc hdd hst hOK (fun r u' hq _ => by obtain ⟨x, rfl, h⟩ := hq; exact k x u' h) k_qi_pr
theorem s_cvi5 {M' : k_M} {a0 a1 a2 a3 a4 : Value} {idx b ci : Nat} {fs : List (Option Nat)} {T : u_T} {N d' : Nat} {P : Int32 → k_S → Prop} (i j : Nat) (hd : k_i M i j = some (pc, .invokevirtual idx, 3)) (hl : Cond.methodLink M.1.cls idx M'.1 ∈ k_tbl) (hM : k_mv M' 5) (hb : k_nth k_lay b = some (.inl (ci, fs))) (hc : k_nth vwCl ci = some (M'.1.cls, T, N)) (hdd : d' + 1 ≤ d) (hst : Nat.ble (st.map fun v => v.category).sum 8 = true) (hOK : k_OK g d' M' (.ref b :: [a0, a1, a2, a3, a4]) u (k_qi P)) (k : ∀ (x : Int32) (u' : k_S), P x u' → k_W g d M (pc + 3) l (.int x :: st) u' Q) : k_W g d M pc l (a4 :: a3 :: a2 :: a1 :: a0 :: .ref b :: st) u Q :=
  k_callv (As := [a0, a1, a2, a3, a4]) i j hd hl hM rfl hb hc hdd hst hOK (fun r u' hq _ => by obtain ⟨x, rfl, h⟩ := hq; exact k x u' h) k_qi_pr
theorem s_cvl0 {M' : k_M} {idx b ci : Nat} {fs : List (Option Nat)} {T : u_T} {N d' : Nat} {P : Int64 → k_S → Prop} (i j : Nat) (hd : k_i M i j = some (pc, .invokevirtual idx, 3)) (hl : Cond.methodLink M.1.cls idx M'.1 ∈ k_tbl) (hM : k_mv M' 0) (hb : k_nth k_lay b = some (.inl (ci, fs))) (hc : k_nth vwCl ci = some (M'.1.cls, T, N)) (hdd : d' + 1 ≤ d) (hst : Nat.ble (st.map fun v => v.category).sum 8 = true) (hOK : k_OK g d' M' (.ref b :: []) u (k_ql P)) (k : ∀ (x : Int64) (u' : k_S), P x u' → k_W g d M (pc + 3) l (.long x :: st) u' Q) : k_W g d M pc l (.ref b :: st) u Q :=
  k_callv (As := []) i j hd hl hM rfl hb hc hdd hst hOK (fun r u' hq _ => by obtain ⟨x, rfl, h⟩ := hq; exact k x u' h) k_ql_pr
theorem s_cvl1 {M' : k_M} {a0 : Value} {idx b ci : Nat} {fs : List (Option Nat)} {T : u_T} {N d' : Nat} {P : Int64 → k_S → Prop} (i j : Nat) (hd : k_i M i j = some (pc, .invokevirtual idx, 3)) (hl : Cond.methodLink M.1.cls idx M'.1 ∈ k_tbl) (hM : k_mv M' 1) (hb : k_nth k_lay b = some (.inl (ci, fs))) (hc : k_nth vwCl ci = some (M'.1.cls, T, N)) (hdd : d' + 1 ≤ d) (hst : Nat.ble (st.map fun v => v.category).sum 8 = true) (hOK : k_OK g d' M' (.ref b :: [a0]) u (k_ql P)) (k : ∀ (x : Int64) (u' : k_S), P x u' → k_W g d M (pc + 3) l (.long x :: st) u' Q) : k_W g d M pc l (a0 :: .ref b :: st) u Q :=
  k_callv (As := [a0]) i j hd hl hM rfl hb hc hdd hst hOK (fun r u' hq _ => by obtain ⟨x, rfl, h⟩ := hq; exact k x u' h) k_ql_pr
theorem s_csl1 {M' : k_M} {a0 : Value} {idx d' : Nat} {P : Int64 → k_S → Prop} (i j : Nat) (hd : k_i M i j = some (pc, .invokestatic idx, 3)) (hl : Cond.methodLink M.1.cls idx M'.1 ∈ k_tbl) (hM : k_ms M' 1) (hdd : d' + 1 ≤ d) (hst : Nat.ble (st.map fun v => v.category).sum 8 = true) (hOK : k_OK g d' M' [a0] u (k_ql P)) (k : ∀ (x : Int64) (u' : k_S), P x u' → k_W g d M (pc + 3) l (.long x :: st) u' Q) : k_W g d M pc l (a0 :: st) u Q :=
  k_calls (As := [a0]) i j hd hl hM rfl hdd hst hOK (fun r u' hq _ => by obtain ⟨x, rfl, h⟩ := hq; exact k x u' h) k_ql_pr
theorem s_cvl2 {M' : k_M} {a0 a1 : Value} {idx b ci : Nat} {fs : List (Option Nat)} {T : u_T} {N d' : Nat} {P : Int64 → k_S → Prop} (i j : Nat) (hd : k_i M i j = some (pc, .invokevirtual idx, 3)) (hl : Cond.methodLink M.1.cls idx M'.1 ∈ k_tbl) (hM : k_mv M' 2) (hb : k_nth k_lay b = some (.inl (ci, fs))) (hc : k_nth vwCl ci = some (M'.1.cls, T, N)) (hdd : d' + 1 ≤ d) (hst : Nat.ble (st.map fun v => v.category).sum 8 = true) (hOK : k_OK g d' M' (.ref b :: [a0, a1]) u (k_ql P)) (k : ∀ (x : Int64) (u' : k_S), P x u' → k_W g d M (pc + 3) l (.long x :: st) u' Q) : k_W g d M pc l (a1 :: a0 :: .ref b :: st) u Q :=
  k_callv (As := [a0, a1]) i j hd hl hM rfl hb hc hdd hst hOK (fun r u' hq _ => by obtain ⟨x, rfl, h⟩ := hq; exact k x u' h) k_ql_pr
theorem s_csl2 {M' : k_M} {a0 a1 : Value} {idx d' : Nat} {P : Int64 → k_S → Prop} (i j : Nat) (hd : k_i M i j = some (pc, .invokestatic idx, 3)) (hl : Cond.methodLink M.1.cls idx M'.1 ∈ k_tbl) (hM : k_ms M' 2) (hdd : d' + 1 ≤ d) (hst : Nat.ble (st.map fun v => v.category).sum 8 = true) (hOK : k_OK g d' M' [a0, a1] u (k_ql P)) (k : ∀ (x : Int64) (u' : k_S), P x u' → k_W g d M (pc + 3) l (.long x :: st) u' Q) : k_W g d M pc l (a1 :: a0 :: st) u Q :=
  k_calls (As := [a0, a1]) i j hd hl hM rfl hdd hst hOK (fun r u' hq _ => by obtain ⟨x, rfl, h⟩ := hq; exact k x u' h) k_ql_pr
theorem s_cvl3 {M' : k_M} {a0 a1 a2 : Value} {idx b ci : Nat} {fs : List (Option Nat)} {T : u_T} {N d' : Nat} {P : Int64 → k_S → Prop} (i j : Nat) (hd : k_i M i j = some (pc, .invokevirtual idx, 3)) (hl : Cond.methodLink M.1.cls idx M'.1 ∈ k_tbl) (hM : k_mv M' 3) (hb : k_nth k_lay b = some (.inl (ci, fs))) (hc : k_nth vwCl ci = some (M'.1.cls, T, N)) (hdd : d' + 1 ≤ d) (hst : Nat.ble (st.map fun v => v.category).sum 8 = true) (hOK : k_OK g d' M' (.ref b :: [a0, a1, a2]) u (k_ql P)) (k : ∀ (x : Int64) (u' : k_S), P x u' → k_W g d M (pc + 3) l (.long x :: st) u' Q) : k_W g d M pc l (a2 :: a1 :: a0 :: .ref b :: st) u Q :=
  k_callv (As := [a0, a1, a2]) i j hd hl hM rfl hb hc hdd hst hOK (fun r u' hq _ => by obtain ⟨x, rfl, h⟩ := hq; exact k x u' h) k_ql_pr
theorem s_csl3 {M' : k_M} {a0 a1 a2 : Value} {idx d' : Nat} {P : Int64 → k_S → Prop} (i j : Nat) (hd : k_i M i j = some (pc, .invokestatic idx, 3)) (hl : Cond.methodLink M.1.cls idx M'.1 ∈ k_tbl) (hM : k_ms M' 3) (hdd : d' + 1 ≤ d) (hst : Nat.ble (st.map fun v => v.category).sum 8 = true) (hOK : k_OK g d' M' [a0, a1, a2] u (k_ql P)) (k : ∀ (x : Int64) (u' : k_S), P x u' → k_W g d M (pc + 3) l (.long x :: st) u' Q) : k_W g d M pc l (a2 :: a1 :: a0 :: st) u Q :=
  k_calls (As := [a0, a1, a2]) i j hd hl hM rfl hdd hst hOK (fun r u' hq _ => by obtain ⟨x, rfl, h⟩ := hq; exact k x u' h) k_ql_pr
theorem s_cvl4 {M' : k_M} {a0 a1 a2 a3 : Value} {idx b ci : Nat} {fs : List (Option Nat)} {T : u_T} {N d' : Nat} {P : Int64 → k_S → Prop} (i j : Nat) (hd : k_i M i j = some (pc, .invokevirtual idx, 3)) (hl : Cond.methodLink M.1.cls idx M'.1 ∈ k_tbl) (hM : k_mv M' 4) (hb : k_nth k_lay b = some (.inl (ci, fs))) (hc : k_nth vwCl ci = some (M'.1.cls, T, N)) (hdd : d' + 1 ≤ d) (hst : Nat.ble (st.map fun v => v.category).sum 8 = true) (hOK : k_OK g d' M' (.ref b :: [a0, a1, a2, a3]) u (k_ql P)) (k : ∀ (x : Int64) (u' : k_S), P x u' → k_W g d M (pc + 3) l (.long x :: st) u' Q) : k_W g d M pc l (a3 :: a2 :: a1 :: a0 :: .ref b :: st) u Q :=
  k_callv (As := [a0, a1, a2, a3]) i j hd hl hM rfl hb hc hdd hst hOK (fun r u' hq _ => by obtain ⟨x, rfl, h⟩ := hq; exact k x u' h) k_ql_pr
theorem s_cvl5 {M' : k_M} {a0 a1 a2 a3 a4 : Value} {idx b ci : Nat} {fs : List (Option Nat)} {T : u_T} {N d' : Nat} {P : Int64 → k_S → Prop} (i j : Nat) (hd : k_i M i j = some (pc, .invokevirtual idx, 3)) (hl : Cond.methodLink M.1.cls idx M'.1 ∈ k_tbl) (hM : k_mv M' 5) (hb : k_nth k_lay b = some (.inl (ci, fs))) (hc : k_nth vwCl ci = some (M'.1.cls, T, N)) (hdd : d' + 1 ≤ d) (hst : Nat.ble (st.map fun v => v.category).sum 8 = true) (hOK : k_OK g d' M' (.ref b :: [a0, a1, a2, a3, a4]) u (k_ql P)) (k : ∀ (x : Int64) (u' : k_S), P x u' → k_W g d M (pc + 3) l (.long x :: st) u' Q) : k_W g d M pc l (a4 :: a3 :: a2 :: a1 :: a0 :: .ref b :: st) u Q :=
  k_callv (As := [a0, a1, a2, a3, a4]) i j hd hl hM rfl hb hc hdd hst hOK (fun r u' hq _ => by obtain ⟨x, rfl, h⟩ := hq; exact k x u' h) k_ql_pr
theorem s_cvv0 {M' : k_M} {idx b ci : Nat} {fs : List (Option Nat)} {T : u_T} {N d' : Nat} {P : Unit → k_S → Prop} (i j : Nat) (hd : k_i M i j = some (pc, .invokevirtual idx, 3)) (hl : Cond.methodLink M.1.cls idx M'.1 ∈ k_tbl) (hM : k_mv M' 0) (hb : k_nth k_lay b = some (.inl (ci, fs))) (hc : k_nth vwCl ci = some (M'.1.cls, T, N)) (hdd : d' + 1 ≤ d) (hst : Nat.ble (st.map fun v => v.category).sum 8 = true) (hOK : k_OK g d' M' (.ref b :: []) u (k_qv P)) (k : ∀ (x : Unit) (u' : k_S), P x u' → k_W g d M (pc + 3) l st u' Q) : k_W g d M pc l (.ref b :: st) u Q :=
  k_callv (As := []) i j hd hl hM rfl hb hc hdd hst hOK (fun r u' hq _ => by obtain ⟨rfl, h⟩ := hq; exact k () u' h) k_qv_pr
theorem s_cvv1 {M' : k_M} {a0 : Value} {idx b ci : Nat} {fs : List (Option Nat)} {T : u_T} {N d' : Nat} {P : Unit → k_S → Prop} (i j : Nat) (hd : k_i M i j = some (pc, .invokevirtual idx, 3)) (hl : Cond.methodLink M.1.cls idx M'.1 ∈ k_tbl) (hM : k_mv M' 1) (hb : k_nth k_lay b = some (.inl (ci, fs))) (hc : k_nth vwCl ci = some (M'.1.cls, T, N)) (hdd : d' + 1 ≤ d) (hst : Nat.ble (st.map fun v => v.category).sum 8 = true) (hOK : k_OK g d' M' (.ref b :: [a0]) u (k_qv P)) (k : ∀ (x : Unit) (u' : k_S), P x u' → k_W g d M (pc + 3) l st u' Q) : k_W g d M pc l (a0 :: .ref b :: st) u Q :=
  k_callv (As := [a0]) i j hd hl hM rfl hb hc hdd hst hOK (fun r u' hq _ => by obtain ⟨rfl, h⟩ := hq; exact k () u' h) k_qv_pr
theorem s_csv1 {M' : k_M} {a0 : Value} {idx d' : Nat} {P : Unit → k_S → Prop} (i j : Nat) (hd : k_i M i j = some (pc, .invokestatic idx, 3)) (hl : Cond.methodLink M.1.cls idx M'.1 ∈ k_tbl) (hM : k_ms M' 1) (hdd : d' + 1 ≤ d) (hst : Nat.ble (st.map fun v => v.category).sum 8 = true) (hOK : k_OK g d' M' [a0] u (k_qv P)) (k : ∀ (x : Unit) (u' : k_S), P x u' → k_W g d M (pc + 3) l st u' Q) : k_W g d M pc l (a0 :: st) u Q :=
  k_calls (As := [a0]) i j hd hl hM rfl hdd hst hOK (fun r u' hq _ => by obtain ⟨rfl, h⟩ := hq; exact k () u' h) k_qv_pr
theorem s_cvv2 {M' : k_M} {a0 a1 : Value} {idx b ci : Nat} {fs : List (Option Nat)} {T : u_T} {N d' : Nat} {P : Unit → k_S → Prop} (i j : Nat) (hd : k_i M i j = some (pc, .invokevirtual idx, 3)) (hl : Cond.methodLink M.1.cls idx M'.1 ∈ k_tbl) (hM : k_mv M' 2) (hb : k_nth k_lay b = some (.inl (ci, fs))) (hc : k_nth vwCl ci = some (M'.1.cls, T, N)) (hdd : d' + 1 ≤ d) (hst : Nat.ble (st.map fun v => v.category).sum 8 = true) (hOK : k_OK g d' M' (.ref b :: [a0, a1]) u (k_qv P)) (k : ∀ (x : Unit) (u' : k_S), P x u' → k_W g d M (pc + 3) l st u' Q) : k_W g d M pc l (a1 :: a0 :: .ref b :: st) u Q :=
  k_callv (As := [a0, a1]) i j hd hl hM rfl hb hc hdd hst hOK (fun r u' hq _ => by obtain ⟨rfl, h⟩ := hq; exact k () u' h) k_qv_pr
theorem s_csv2 {M' : k_M} {a0 a1 : Value} {idx d' : Nat} {P : Unit → k_S → Prop} (i j : Nat) (hd : k_i M i j = some (pc, .invokestatic idx, 3)) (hl : Cond.methodLink M.1.cls idx M'.1 ∈ k_tbl) (hM : k_ms M' 2) (hdd : d' + 1 ≤ d) (hst : Nat.ble (st.map fun v => v.category).sum 8 = true) (hOK : k_OK g d' M' [a0, a1] u (k_qv P)) (k : ∀ (x : Unit) (u' : k_S), P x u' → k_W g d M (pc + 3) l st u' Q) : k_W g d M pc l (a1 :: a0 :: st) u Q :=
  k_calls (As := [a0, a1]) i j hd hl hM rfl hdd hst hOK (fun r u' hq _ => by obtain ⟨rfl, h⟩ := hq; exact k () u' h) k_qv_pr
theorem s_cvv3 {M' : k_M} {a0 a1 a2 : Value} {idx b ci : Nat} {fs : List (Option Nat)} {T : u_T} {N d' : Nat} {P : Unit → k_S → Prop} (i j : Nat) (hd : k_i M i j = some (pc, .invokevirtual idx, 3)) (hl : Cond.methodLink M.1.cls idx M'.1 ∈ k_tbl) (hM : k_mv M' 3) (hb : k_nth k_lay b = some (.inl (ci, fs))) (hc : k_nth vwCl ci = some (M'.1.cls, T, N)) (hdd : d' + 1 ≤ d) (hst : Nat.ble (st.map fun v => v.category).sum 8 = true) (hOK : k_OK g d' M' (.ref b :: [a0, a1, a2]) u (k_qv P)) (k : ∀ (x : Unit) (u' : k_S), P x u' → k_W g d M (pc + 3) l st u' Q) : k_W g d M pc l (a2 :: a1 :: a0 :: .ref b :: st) u Q :=
  k_callv (As := [a0, a1, a2]) i j hd hl hM rfl hb hc hdd hst hOK (fun r u' hq _ => by obtain ⟨rfl, h⟩ := hq; exact k () u' h) k_qv_pr
theorem s_csv3 {M' : k_M} {a0 a1 a2 : Value} {idx d' : Nat} {P : Unit → k_S → Prop} (i j : Nat) (hd : k_i M i j = some (pc, .invokestatic idx, 3)) (hl : Cond.methodLink M.1.cls idx M'.1 ∈ k_tbl) (hM : k_ms M' 3) (hdd : d' + 1 ≤ d) (hst : Nat.ble (st.map fun v => v.category).sum 8 = true) (hOK : k_OK g d' M' [a0, a1, a2] u (k_qv P)) (k : ∀ (x : Unit) (u' : k_S), P x u' → k_W g d M (pc + 3) l st u' Q) : k_W g d M pc l (a2 :: a1 :: a0 :: st) u Q :=
  k_calls (As := [a0, a1, a2]) i j hd hl hM rfl hdd hst hOK (fun r u' hq _ => by obtain ⟨rfl, h⟩ := hq; exact k () u' h) k_qv_pr
theorem s_cvv4 {M' : k_M} {a0 a1 a2 a3 : Value} {idx b ci : Nat} {fs : List (Option Nat)} {T : u_T} {N d' : Nat} {P : Unit → k_S → Prop} (i j : Nat) (hd : k_i M i j = some (pc, .invokevirtual idx, 3)) (hl : Cond.methodLink M.1.cls idx M'.1 ∈ k_tbl) (hM : k_mv M' 4) (hb : k_nth k_lay b = some (.inl (ci, fs))) (hc : k_nth vwCl ci = some (M'.1.cls, T, N)) (hdd : d' + 1 ≤ d) (hst : Nat.ble (st.map fun v => v.category).sum 8 = true) (hOK : k_OK g d' M' (.ref b :: [a0, a1, a2, a3]) u (k_qv P)) (k : ∀ (x : Unit) (u' : k_S), P x u' → k_W g d M (pc + 3) l st u' Q) : k_W g d M pc l (a3 :: a2 :: a1 :: a0 :: .ref b :: st) u Q :=
  k_callv (As := [a0, a1, a2, a3]) i j hd hl hM rfl hb hc hdd hst hOK (fun r u' hq _ => by obtain ⟨rfl, h⟩ := hq; exact k () u' h) k_qv_pr
theorem s_cvv5 {M' : k_M} {a0 a1 a2 a3 a4 : Value} {idx b ci : Nat} {fs : List (Option Nat)} {T : u_T} {N d' : Nat} {P : Unit → k_S → Prop} (i j : Nat) (hd : k_i M i j = some (pc, .invokevirtual idx, 3)) (hl : Cond.methodLink M.1.cls idx M'.1 ∈ k_tbl) (hM : k_mv M' 5) (hb : k_nth k_lay b = some (.inl (ci, fs))) (hc : k_nth vwCl ci = some (M'.1.cls, T, N)) (hdd : d' + 1 ≤ d) (hst : Nat.ble (st.map fun v => v.category).sum 8 = true) (hOK : k_OK g d' M' (.ref b :: [a0, a1, a2, a3, a4]) u (k_qv P)) (k : ∀ (x : Unit) (u' : k_S), P x u' → k_W g d M (pc + 3) l st u' Q) : k_W g d M pc l (a4 :: a3 :: a2 :: a1 :: a0 :: .ref b :: st) u Q :=
  k_callv (As := [a0, a1, a2, a3, a4]) i j hd hl hM rfl hb hc hdd hst hOK (fun r u' hq _ => by obtain ⟨rfl, h⟩ := hq; exact k () u' h) k_qv_pr
def k_zb {α : Type} (x : Int32) (o : Option α) : Option α := if x &&& 1 = x then o else none
theorem k_sat_zb {α : Type} {x : Int32} {o : Option (α × k_S)} {QQ : α → k_S → Prop} (h : k_sat (k_zb x o) QQ) : x &&& 1 = x ∧ k_sat o QQ := by
  unfold k_zb at h
  split at h
  · rename_i hx
    exact ⟨hx, h⟩
  · exact (k_sat_none h).elim
def k_cs {A B γ : Type} (y : A ⊕ B) (f : A → γ) (h : B → γ) : γ := match y with
  | .inl a => f a
  | .inr b => h b
theorem k_sat_csr {A B α : Type} {y : B} {f : A → Option (α × k_S)} {h : B → Option (α × k_S)} {QQ : α → k_S → Prop} (hh : k_sat (k_cs (.inr y) f h) QQ) : k_sat (h y) QQ := hh
def k_FU : Nat := 4294967296
theorem k_z0 : (0 : Int32) &&& 1 = 0 := by decide
theorem k_z1 : (1 : Int32) &&& 1 = 1 := by decide
end KCR
theorem pfX0_has : plainFor MX0_has.1 = true := by decide +kernel
theorem vvX0_has : k_mv MX0_has 1 := ⟨k_in (lw_T3 (List.mem_of_getElem? (i := 91) rfl)) rfl, k_in (lw_T0 (List.mem_of_getElem? (i := 11) rfl)) rfl, k_in (lw_T3 (List.mem_of_getElem? (i := 89) rfl)) rfl, k_in (lw_T3 (List.mem_of_getElem? (i := 90) rfl)) rfl, ⟨by decide +kernel, by decide +kernel, by decide +kernel⟩, by decide +kernel⟩
theorem pfX0_add : plainFor MX0_add.1 = true := by decide +kernel
theorem vvX0_add : k_mv MX0_add 1 := ⟨k_in (lw_T3 (List.mem_of_getElem? (i := 79) rfl)) rfl, k_in (lw_T0 (List.mem_of_getElem? (i := 11) rfl)) rfl, k_in (lw_T3 (List.mem_of_getElem? (i := 77) rfl)) rfl, k_in (lw_T3 (List.mem_of_getElem? (i := 78) rfl)) rfl, ⟨by decide +kernel, by decide +kernel, by decide +kernel⟩, by decide +kernel⟩
theorem pfX0_kindOf : plainFor MX0_kindOf.1 = true := by decide +kernel
theorem vvX0_kindOf : k_mv MX0_kindOf 1 := ⟨k_in (lw_T3 (List.mem_of_getElem? (i := 103) rfl)) rfl, k_in (lw_T0 (List.mem_of_getElem? (i := 11) rfl)) rfl, k_in (lw_T3 (List.mem_of_getElem? (i := 101) rfl)) rfl, k_in (lw_T3 (List.mem_of_getElem? (i := 102) rfl)) rfl, ⟨by decide +kernel, by decide +kernel, by decide +kernel⟩, by decide +kernel⟩
theorem pfX0_isUnder : plainFor MX0_isUnder.1 = true := by decide +kernel
theorem vvX0_isUnder : k_mv MX0_isUnder 2 := ⟨k_in (lw_T3 (List.mem_of_getElem? (i := 182) rfl)) rfl, k_in (lw_T0 (List.mem_of_getElem? (i := 11) rfl)) rfl, k_in (lw_T3 (List.mem_of_getElem? (i := 180) rfl)) rfl, k_in (lw_T3 (List.mem_of_getElem? (i := 181) rfl)) rfl, ⟨by decide +kernel, by decide +kernel, by decide +kernel⟩, by decide +kernel⟩
theorem pfX0_forgetTrace : plainFor MX0_forgetTrace.1 = true := by decide +kernel
theorem vvX0_forgetTrace : k_mv MX0_forgetTrace 0 := ⟨k_in (lw_T3 (List.mem_of_getElem? (i := 87) rfl)) rfl, k_in (lw_T0 (List.mem_of_getElem? (i := 11) rfl)) rfl, k_in (lw_T3 (List.mem_of_getElem? (i := 85) rfl)) rfl, k_in (lw_T3 (List.mem_of_getElem? (i := 86) rfl)) rfl, ⟨by decide +kernel, by decide +kernel, by decide +kernel⟩, by decide +kernel⟩
theorem pfX0_tracedAt : plainFor MX0_tracedAt.1 = true := by decide +kernel
theorem vvX0_tracedAt : k_mv MX0_tracedAt 1 := ⟨k_in (lw_T3 (List.mem_of_getElem? (i := 126) rfl)) rfl, k_in (lw_T0 (List.mem_of_getElem? (i := 11) rfl)) rfl, k_in (lw_T3 (List.mem_of_getElem? (i := 124) rfl)) rfl, k_in (lw_T3 (List.mem_of_getElem? (i := 125) rfl)) rfl, ⟨by decide +kernel, by decide +kernel, by decide +kernel⟩, by decide +kernel⟩
theorem pfX0_perform : plainFor MX0_perform.1 = true := by decide +kernel
theorem vvX0_perform : k_mv MX0_perform 3 := ⟨k_in (lw_T3 (List.mem_of_getElem? (i := 95) rfl)) rfl, k_in (lw_T0 (List.mem_of_getElem? (i := 11) rfl)) rfl, k_in (lw_T3 (List.mem_of_getElem? (i := 93) rfl)) rfl, k_in (lw_T3 (List.mem_of_getElem? (i := 94) rfl)) rfl, ⟨by decide +kernel, by decide +kernel, by decide +kernel⟩, by decide +kernel⟩
theorem pfX0_call : plainFor MX0_call.1 = true := by decide +kernel
theorem vvX0_call : k_mv MX0_call 3 := ⟨k_in (lw_T3 (List.mem_of_getElem? (i := 99) rfl)) rfl, k_in (lw_T0 (List.mem_of_getElem? (i := 11) rfl)) rfl, k_in (lw_T3 (List.mem_of_getElem? (i := 98) rfl)) rfl, k_in (List.mem_append_left _ (List.mem_of_getElem? (i := 23) rfl)) rfl, ⟨by decide +kernel, by decide +kernel, by decide +kernel⟩, by decide +kernel⟩
theorem pfX0_above : plainFor MX0_above.1 = true := by decide +kernel
theorem vvX0_above : k_mv MX0_above 4 := ⟨k_in (lw_T3 (List.mem_of_getElem? (i := 118) rfl)) rfl, k_in (lw_T0 (List.mem_of_getElem? (i := 11) rfl)) rfl, k_in (lw_T3 (List.mem_of_getElem? (i := 117) rfl)) rfl, k_in (List.mem_append_left _ (List.mem_of_getElem? (i := 25) rfl)) rfl, ⟨by decide +kernel, by decide +kernel, by decide +kernel⟩, by decide +kernel⟩
theorem pfX0_bodyFor : plainFor MX0_bodyFor.1 = true := by decide +kernel
theorem vvX0_bodyFor : k_ms MX0_bodyFor 2 := ⟨k_in (lw_T3 (List.mem_of_getElem? (i := 106) rfl)) rfl, k_in (lw_T0 (List.mem_of_getElem? (i := 11) rfl)) rfl, k_in (lw_T3 (List.mem_of_getElem? (i := 105) rfl)) rfl, ⟨by decide +kernel, by decide +kernel, by decide +kernel⟩, by decide +kernel⟩
theorem pfX0_run : plainFor MX0_run.1 = true := by decide +kernel
theorem vvX0_run : k_mv MX0_run 3 := ⟨k_in (lw_T3 (List.mem_of_getElem? (i := 114) rfl)) rfl, k_in (lw_T0 (List.mem_of_getElem? (i := 11) rfl)) rfl, k_in (lw_T3 (List.mem_of_getElem? (i := 113) rfl)) rfl, k_in (List.mem_append_left _ (List.mem_of_getElem? (i := 24) rfl)) rfl, ⟨by decide +kernel, by decide +kernel, by decide +kernel⟩, by decide +kernel⟩
theorem pfX1_wheelAt : plainFor MX1_wheelAt.1 = true := by decide +kernel
theorem vvX1_wheelAt : k_mv MX1_wheelAt 1 := ⟨k_in (lw_T1 (List.mem_of_getElem? (i := 206) rfl)) rfl, k_in (lw_T0 (List.mem_of_getElem? (i := 10) rfl)) rfl, k_in (lw_T1 (List.mem_of_getElem? (i := 204) rfl)) rfl, k_in (lw_T1 (List.mem_of_getElem? (i := 205) rfl)) rfl, ⟨by decide +kernel, by decide +kernel, by decide +kernel⟩, by decide +kernel⟩
theorem pfX1_placeAt : plainFor MX1_placeAt.1 = true := by decide +kernel
theorem vvX1_placeAt : k_mv MX1_placeAt 1 := ⟨k_in (lw_T1 (List.mem_of_getElem? (i := 210) rfl)) rfl, k_in (lw_T0 (List.mem_of_getElem? (i := 10) rfl)) rfl, k_in (lw_T1 (List.mem_of_getElem? (i := 208) rfl)) rfl, k_in (lw_T1 (List.mem_of_getElem? (i := 209) rfl)) rfl, ⟨by decide +kernel, by decide +kernel, by decide +kernel⟩, by decide +kernel⟩
theorem pfX1_beforeAt : plainFor MX1_beforeAt.1 = true := by decide +kernel
theorem vvX1_beforeAt : k_mv MX1_beforeAt 1 := ⟨k_in (lw_T1 (List.mem_of_getElem? (i := 214) rfl)) rfl, k_in (lw_T0 (List.mem_of_getElem? (i := 10) rfl)) rfl, k_in (lw_T1 (List.mem_of_getElem? (i := 212) rfl)) rfl, k_in (lw_T1 (List.mem_of_getElem? (i := 213) rfl)) rfl, ⟨by decide +kernel, by decide +kernel, by decide +kernel⟩, by decide +kernel⟩
theorem pfX1_afterAt : plainFor MX1_afterAt.1 = true := by decide +kernel
theorem vvX1_afterAt : k_mv MX1_afterAt 1 := ⟨k_in (lw_T1 (List.mem_of_getElem? (i := 218) rfl)) rfl, k_in (lw_T0 (List.mem_of_getElem? (i := 10) rfl)) rfl, k_in (lw_T1 (List.mem_of_getElem? (i := 216) rfl)) rfl, k_in (lw_T1 (List.mem_of_getElem? (i := 217) rfl)) rfl, ⟨by decide +kernel, by decide +kernel, by decide +kernel⟩, by decide +kernel⟩
theorem pfX1_add : plainFor MX1_add.1 = true := by decide +kernel
theorem vvX1_add : k_mv MX1_add 4 := ⟨k_in (lw_T1 (List.mem_of_getElem? (i := 198) rfl)) rfl, k_in (lw_T0 (List.mem_of_getElem? (i := 10) rfl)) rfl, k_in (lw_T1 (List.mem_of_getElem? (i := 196) rfl)) rfl, k_in (lw_T1 (List.mem_of_getElem? (i := 197) rfl)) rfl, ⟨by decide +kernel, by decide +kernel, by decide +kernel⟩, by decide +kernel⟩
theorem pfX1_dropOldest : plainFor MX1_dropOldest.1 = true := by decide +kernel
theorem vvX1_dropOldest : k_mv MX1_dropOldest 0 := ⟨k_in (lw_T1 (List.mem_of_getElem? (i := 202) rfl)) rfl, k_in (lw_T0 (List.mem_of_getElem? (i := 10) rfl)) rfl, k_in (lw_T1 (List.mem_of_getElem? (i := 201) rfl)) rfl, k_in (List.mem_append_left _ (List.mem_of_getElem? (i := 11) rfl)) rfl, ⟨by decide +kernel, by decide +kernel, by decide +kernel⟩, by decide +kernel⟩
theorem pfX1_write : plainFor MX1_write.1 = true := by decide +kernel
theorem vvX1_write : k_mv MX1_write 5 := ⟨k_in (lw_T1 (List.mem_of_getElem? (i := 222) rfl)) rfl, k_in (lw_T0 (List.mem_of_getElem? (i := 10) rfl)) rfl, k_in (lw_T1 (List.mem_of_getElem? (i := 221) rfl)) rfl, k_in (List.mem_append_left _ (List.mem_of_getElem? (i := 12) rfl)) rfl, ⟨by decide +kernel, by decide +kernel, by decide +kernel⟩, by decide +kernel⟩
theorem pfX2_firstWrong : plainFor MX2_firstWrong.1 = true := by decide +kernel
theorem vvX2_firstWrong : k_mv MX2_firstWrong 1 := ⟨k_in (lw_T2 (List.mem_of_getElem? (i := 220) rfl)) rfl, k_in (lw_T0 (List.mem_of_getElem? (i := 9) rfl)) rfl, k_in (lw_T2 (List.mem_of_getElem? (i := 218) rfl)) rfl, k_in (lw_T2 (List.mem_of_getElem? (i := 219) rfl)) rfl, ⟨by decide +kernel, by decide +kernel, by decide +kernel⟩, by decide +kernel⟩
theorem pfX2_fitting : plainFor MX2_fitting.1 = true := by decide +kernel
theorem vvX2_fitting : k_mv MX2_fitting 1 := ⟨k_in (lw_T3 (List.mem_of_getElem? (i := 0) rfl)) rfl, k_in (lw_T0 (List.mem_of_getElem? (i := 9) rfl)) rfl, k_in (lw_T2 (List.mem_of_getElem? (i := 238) rfl)) rfl, k_in (lw_T2 (List.mem_of_getElem? (i := 239) rfl)) rfl, ⟨by decide +kernel, by decide +kernel, by decide +kernel⟩, by decide +kernel⟩
theorem pfX2_tryBreaks : plainFor MX2_tryBreaks.1 = true := by decide +kernel
theorem vvX2_tryBreaks : k_mv MX2_tryBreaks 0 := ⟨k_in (lw_T3 (List.mem_of_getElem? (i := 23) rfl)) rfl, k_in (lw_T0 (List.mem_of_getElem? (i := 9) rfl)) rfl, k_in (lw_T3 (List.mem_of_getElem? (i := 21) rfl)) rfl, k_in (lw_T3 (List.mem_of_getElem? (i := 22) rfl)) rfl, ⟨by decide +kernel, by decide +kernel, by decide +kernel⟩, by decide +kernel⟩
theorem pfX2_fewestNights : plainFor MX2_fewestNights.1 = true := by decide +kernel
theorem vvX2_fewestNights : k_mv MX2_fewestNights 2 := ⟨k_in (lw_T3 (List.mem_of_getElem? (i := 33) rfl)) rfl, k_in (lw_T0 (List.mem_of_getElem? (i := 9) rfl)) rfl, k_in (lw_T3 (List.mem_of_getElem? (i := 31) rfl)) rfl, k_in (lw_T3 (List.mem_of_getElem? (i := 32) rfl)) rfl, ⟨by decide +kernel, by decide +kernel, by decide +kernel⟩, by decide +kernel⟩
theorem pfX2_watchLetters : plainFor MX2_watchLetters.1 = true := by decide +kernel
theorem vvX2_watchLetters : k_mv MX2_watchLetters 1 := ⟨k_in (lw_T3 (List.mem_of_getElem? (i := 38) rfl)) rfl, k_in (lw_T0 (List.mem_of_getElem? (i := 9) rfl)) rfl, k_in (lw_T3 (List.mem_of_getElem? (i := 37) rfl)) rfl, k_in (List.mem_append_left _ (List.mem_of_getElem? (i := 19) rfl)) rfl, ⟨by decide +kernel, by decide +kernel, by decide +kernel⟩, by decide +kernel⟩
theorem pfX2_compareLetters : plainFor MX2_compareLetters.1 = true := by decide +kernel
theorem vvX2_compareLetters : k_mv MX2_compareLetters 0 := ⟨k_in (lw_T3 (List.mem_of_getElem? (i := 42) rfl)) rfl, k_in (lw_T0 (List.mem_of_getElem? (i := 9) rfl)) rfl, k_in (lw_T3 (List.mem_of_getElem? (i := 41) rfl)) rfl, k_in (List.mem_append_left _ (List.mem_of_getElem? (i := 20) rfl)) rfl, ⟨by decide +kernel, by decide +kernel, by decide +kernel⟩, by decide +kernel⟩
theorem pfX2_tellApart : plainFor MX2_tellApart.1 = true := by decide +kernel
theorem vvX2_tellApart : k_mv MX2_tellApart 2 := ⟨k_in (lw_T3 (List.mem_of_getElem? (i := 46) rfl)) rfl, k_in (lw_T0 (List.mem_of_getElem? (i := 9) rfl)) rfl, k_in (lw_T3 (List.mem_of_getElem? (i := 45) rfl)) rfl, k_in (List.mem_append_left _ (List.mem_of_getElem? (i := 21) rfl)) rfl, ⟨by decide +kernel, by decide +kernel, by decide +kernel⟩, by decide +kernel⟩
theorem pfX3_takeFromTape : plainFor MX3_takeFromTape.1 = true := by decide +kernel
theorem vvX3_takeFromTape : k_mv MX3_takeFromTape 0 := ⟨k_in (lw_T1 (List.mem_of_getElem? (i := 117) rfl)) rfl, k_in (lw_T0 (List.mem_of_getElem? (i := 4) rfl)) rfl, k_in (lw_T1 (List.mem_of_getElem? (i := 115) rfl)) rfl, k_in (lw_T1 (List.mem_of_getElem? (i := 116) rfl)) rfl, ⟨by decide +kernel, by decide +kernel, by decide +kernel⟩, by decide +kernel⟩
theorem pfX3_valueAt : plainFor MX3_valueAt.1 = true := by decide +kernel
theorem vvX3_valueAt : k_mv MX3_valueAt 3 := ⟨k_in (lw_T2 (List.mem_of_getElem? (i := 33) rfl)) rfl, k_in (lw_T0 (List.mem_of_getElem? (i := 4) rfl)) rfl, k_in (lw_T2 (List.mem_of_getElem? (i := 31) rfl)) rfl, k_in (lw_T2 (List.mem_of_getElem? (i := 32) rfl)) rfl, ⟨by decide +kernel, by decide +kernel, by decide +kernel⟩, by decide +kernel⟩
theorem pfX3_resultOf : plainFor MX3_resultOf.1 = true := by decide +kernel
theorem vvX3_resultOf : k_mv MX3_resultOf 4 := ⟨k_in (lw_T2 (List.mem_of_getElem? (i := 48) rfl)) rfl, k_in (lw_T0 (List.mem_of_getElem? (i := 4) rfl)) rfl, k_in (lw_T2 (List.mem_of_getElem? (i := 47) rfl)) rfl, k_in (List.mem_append_left _ (List.mem_of_getElem? (i := 16) rfl)) rfl, ⟨by decide +kernel, by decide +kernel, by decide +kernel⟩, by decide +kernel⟩
theorem pfX3_push : plainFor MX3_push.1 = true := by decide +kernel
theorem vvX3_push : k_mv MX3_push 1 := ⟨k_in (lw_T2 (List.mem_of_getElem? (i := 44) rfl)) rfl, k_in (lw_T0 (List.mem_of_getElem? (i := 4) rfl)) rfl, k_in (lw_T2 (List.mem_of_getElem? (i := 43) rfl)) rfl, k_in (List.mem_append_left _ (List.mem_of_getElem? (i := 15) rfl)) rfl, ⟨by decide +kernel, by decide +kernel, by decide +kernel⟩, by decide +kernel⟩
theorem pfX3_pop : plainFor MX3_pop.1 = true := by decide +kernel
theorem vvX3_pop : k_mv MX3_pop 0 := ⟨k_in (lw_T2 (List.mem_of_getElem? (i := 37) rfl)) rfl, k_in (lw_T0 (List.mem_of_getElem? (i := 4) rfl)) rfl, k_in (lw_T2 (List.mem_of_getElem? (i := 36) rfl)) rfl, k_in (List.mem_append_left _ (List.mem_of_getElem? (i := 14) rfl)) rfl, ⟨by decide +kernel, by decide +kernel, by decide +kernel⟩, by decide +kernel⟩
theorem pfX4_stepAt : plainFor MX4_stepAt.1 = true := by decide +kernel
theorem vvX4_stepAt : k_mv MX4_stepAt 1 := ⟨k_in (lw_T1 (List.mem_of_getElem? (i := 173) rfl)) rfl, k_in (lw_T0 (List.mem_of_getElem? (i := 5) rfl)) rfl, k_in (lw_T1 (List.mem_of_getElem? (i := 171) rfl)) rfl, k_in (lw_T1 (List.mem_of_getElem? (i := 172) rfl)) rfl, ⟨by decide +kernel, by decide +kernel, by decide +kernel⟩, by decide +kernel⟩
theorem pfX4_readTape : plainFor MX4_readTape.1 = true := by decide +kernel
theorem vvX4_readTape : k_mv MX4_readTape 0 := ⟨k_in (lw_T1 (List.mem_of_getElem? (i := 121) rfl)) rfl, k_in (lw_T0 (List.mem_of_getElem? (i := 5) rfl)) rfl, k_in (lw_T1 (List.mem_of_getElem? (i := 119) rfl)) rfl, k_in (lw_T1 (List.mem_of_getElem? (i := 120) rfl)) rfl, ⟨by decide +kernel, by decide +kernel, by decide +kernel⟩, by decide +kernel⟩
theorem pfX4_lines : plainFor MX4_lines.1 = true := by decide +kernel
theorem vvX4_lines : k_mv MX4_lines 0 := ⟨k_in (lw_T1 (List.mem_of_getElem? (i := 125) rfl)) rfl, k_in (lw_T0 (List.mem_of_getElem? (i := 5) rfl)) rfl, k_in (lw_T1 (List.mem_of_getElem? (i := 124) rfl)) rfl, k_in (List.mem_append_left _ (List.mem_of_getElem? (i := 0) rfl)) rfl, ⟨by decide +kernel, by decide +kernel, by decide +kernel⟩, by decide +kernel⟩
theorem pfX4_line : plainFor MX4_line.1 = true := by decide +kernel
theorem vvX4_line : k_mv MX4_line 0 := ⟨k_in (lw_T1 (List.mem_of_getElem? (i := 129) rfl)) rfl, k_in (lw_T0 (List.mem_of_getElem? (i := 5) rfl)) rfl, k_in (lw_T1 (List.mem_of_getElem? (i := 128) rfl)) rfl, k_in (List.mem_append_left _ (List.mem_of_getElem? (i := 1) rfl)) rfl, ⟨by decide +kernel, by decide +kernel, by decide +kernel⟩, by decide +kernel⟩
theorem pfX4_either : plainFor MX4_either.1 = true := by decide +kernel
theorem vvX4_either : k_mv MX4_either 1 := ⟨k_in (lw_T1 (List.mem_of_getElem? (i := 133) rfl)) rfl, k_in (lw_T0 (List.mem_of_getElem? (i := 5) rfl)) rfl, k_in (lw_T1 (List.mem_of_getElem? (i := 132) rfl)) rfl, k_in (List.mem_append_left _ (List.mem_of_getElem? (i := 2) rfl)) rfl, ⟨by decide +kernel, by decide +kernel, by decide +kernel⟩, by decide +kernel⟩
theorem pfX4_both : plainFor MX4_both.1 = true := by decide +kernel
theorem vvX4_both : k_mv MX4_both 1 := ⟨k_in (lw_T1 (List.mem_of_getElem? (i := 137) rfl)) rfl, k_in (lw_T0 (List.mem_of_getElem? (i := 5) rfl)) rfl, k_in (lw_T1 (List.mem_of_getElem? (i := 136) rfl)) rfl, k_in (List.mem_append_left _ (List.mem_of_getElem? (i := 3) rfl)) rfl, ⟨by decide +kernel, by decide +kernel, by decide +kernel⟩, by decide +kernel⟩
theorem pfX4_compared : plainFor MX4_compared.1 = true := by decide +kernel
theorem vvX4_compared : k_mv MX4_compared 1 := ⟨k_in (lw_T1 (List.mem_of_getElem? (i := 141) rfl)) rfl, k_in (lw_T0 (List.mem_of_getElem? (i := 5) rfl)) rfl, k_in (lw_T1 (List.mem_of_getElem? (i := 140) rfl)) rfl, k_in (List.mem_append_left _ (List.mem_of_getElem? (i := 4) rfl)) rfl, ⟨by decide +kernel, by decide +kernel, by decide +kernel⟩, by decide +kernel⟩
theorem pfX4_summed : plainFor MX4_summed.1 = true := by decide +kernel
theorem vvX4_summed : k_mv MX4_summed 1 := ⟨k_in (lw_T1 (List.mem_of_getElem? (i := 145) rfl)) rfl, k_in (lw_T0 (List.mem_of_getElem? (i := 5) rfl)) rfl, k_in (lw_T1 (List.mem_of_getElem? (i := 144) rfl)) rfl, k_in (List.mem_append_left _ (List.mem_of_getElem? (i := 5) rfl)) rfl, ⟨by decide +kernel, by decide +kernel, by decide +kernel⟩, by decide +kernel⟩
theorem pfX4_multiplied : plainFor MX4_multiplied.1 = true := by decide +kernel
theorem vvX4_multiplied : k_mv MX4_multiplied 1 := ⟨k_in (lw_T1 (List.mem_of_getElem? (i := 149) rfl)) rfl, k_in (lw_T0 (List.mem_of_getElem? (i := 5) rfl)) rfl, k_in (lw_T1 (List.mem_of_getElem? (i := 148) rfl)) rfl, k_in (List.mem_append_left _ (List.mem_of_getElem? (i := 6) rfl)) rfl, ⟨by decide +kernel, by decide +kernel, by decide +kernel⟩, by decide +kernel⟩
theorem pfX4_single : plainFor MX4_single.1 = true := by decide +kernel
theorem vvX4_single : k_mv MX4_single 1 := ⟨k_in (lw_T1 (List.mem_of_getElem? (i := 153) rfl)) rfl, k_in (lw_T0 (List.mem_of_getElem? (i := 5) rfl)) rfl, k_in (lw_T1 (List.mem_of_getElem? (i := 152) rfl)) rfl, k_in (List.mem_append_left _ (List.mem_of_getElem? (i := 7) rfl)) rfl, ⟨by decide +kernel, by decide +kernel, by decide +kernel⟩, by decide +kernel⟩
theorem pfX4_number : plainFor MX4_number.1 = true := by decide +kernel
theorem vvX4_number : k_mv MX4_number 0 := ⟨k_in (lw_T1 (List.mem_of_getElem? (i := 161) rfl)) rfl, k_in (lw_T0 (List.mem_of_getElem? (i := 5) rfl)) rfl, k_in (lw_T1 (List.mem_of_getElem? (i := 160) rfl)) rfl, k_in (List.mem_append_left _ (List.mem_of_getElem? (i := 8) rfl)) rfl, ⟨by decide +kernel, by decide +kernel, by decide +kernel⟩, by decide +kernel⟩
theorem pfX4_passes : plainFor MX4_passes.1 = true := by decide +kernel
theorem vvX4_passes : k_mv MX4_passes 1 := ⟨k_in (lw_T1 (List.mem_of_getElem? (i := 169) rfl)) rfl, k_in (lw_T0 (List.mem_of_getElem? (i := 5) rfl)) rfl, k_in (lw_T1 (List.mem_of_getElem? (i := 168) rfl)) rfl, k_in (List.mem_append_left _ (List.mem_of_getElem? (i := 10) rfl)) rfl, ⟨by decide +kernel, by decide +kernel, by decide +kernel⟩, by decide +kernel⟩
theorem pfX4_add : plainFor MX4_add.1 = true := by decide +kernel
theorem vvX4_add : k_mv MX4_add 1 := ⟨k_in (lw_T1 (List.mem_of_getElem? (i := 165) rfl)) rfl, k_in (lw_T0 (List.mem_of_getElem? (i := 5) rfl)) rfl, k_in (lw_T1 (List.mem_of_getElem? (i := 164) rfl)) rfl, k_in (List.mem_append_left _ (List.mem_of_getElem? (i := 9) rfl)) rfl, ⟨by decide +kernel, by decide +kernel, by decide +kernel⟩, by decide +kernel⟩
theorem pfX4_isDigit : plainFor MX4_isDigit.1 = true := by decide +kernel
theorem vvX4_isDigit : k_ms MX4_isDigit 1 := ⟨k_in (lw_T1 (List.mem_of_getElem? (i := 157) rfl)) rfl, k_in (lw_T0 (List.mem_of_getElem? (i := 5) rfl)) rfl, k_in (lw_T1 (List.mem_of_getElem? (i := 156) rfl)) rfl, ⟨by decide +kernel, by decide +kernel, by decide +kernel⟩, by decide +kernel⟩
theorem pfX5_placeOf : plainFor MX5_placeOf.1 = true := by decide +kernel
theorem vvX5_placeOf : k_mv MX5_placeOf 1 := ⟨k_in (lw_T2 (List.mem_of_getElem? (i := 9) rfl)) rfl, k_in (lw_T0 (List.mem_of_getElem? (i := 7) rfl)) rfl, k_in (lw_T2 (List.mem_of_getElem? (i := 7) rfl)) rfl, k_in (lw_T2 (List.mem_of_getElem? (i := 8) rfl)) rfl, ⟨by decide +kernel, by decide +kernel, by decide +kernel⟩, by decide +kernel⟩
theorem pfX5_waitsOf : plainFor MX5_waitsOf.1 = true := by decide +kernel
theorem vvX5_waitsOf : k_mv MX5_waitsOf 1 := ⟨k_in (lw_T2 (List.mem_of_getElem? (i := 13) rfl)) rfl, k_in (lw_T0 (List.mem_of_getElem? (i := 7) rfl)) rfl, k_in (lw_T2 (List.mem_of_getElem? (i := 11) rfl)) rfl, k_in (lw_T2 (List.mem_of_getElem? (i := 12) rfl)) rfl, ⟨by decide +kernel, by decide +kernel, by decide +kernel⟩, by decide +kernel⟩
theorem pfX5_stand : plainFor MX5_stand.1 = true := by decide +kernel
theorem vvX5_stand : k_mv MX5_stand 3 := ⟨k_in (lw_T2 (List.mem_of_getElem? (i := 59) rfl)) rfl, k_in (lw_T0 (List.mem_of_getElem? (i := 7) rfl)) rfl, k_in (lw_T2 (List.mem_of_getElem? (i := 57) rfl)) rfl, k_in (lw_T2 (List.mem_of_getElem? (i := 58) rfl)) rfl, ⟨by decide +kernel, by decide +kernel, by decide +kernel⟩, by decide +kernel⟩
theorem pfX5_become : plainFor MX5_become.1 = true := by decide +kernel
theorem vvX5_become : k_mv MX5_become 2 := ⟨k_in (lw_T2 (List.mem_of_getElem? (i := 76) rfl)) rfl, k_in (lw_T0 (List.mem_of_getElem? (i := 7) rfl)) rfl, k_in (lw_T2 (List.mem_of_getElem? (i := 74) rfl)) rfl, k_in (lw_T2 (List.mem_of_getElem? (i := 75) rfl)) rfl, ⟨by decide +kernel, by decide +kernel, by decide +kernel⟩, by decide +kernel⟩
theorem pfX5_standsAs : plainFor MX5_standsAs.1 = true := by decide +kernel
theorem vvX5_standsAs : k_mv MX5_standsAs 2 := ⟨k_in (lw_T2 (List.mem_of_getElem? (i := 143) rfl)) rfl, k_in (lw_T0 (List.mem_of_getElem? (i := 7) rfl)) rfl, k_in (lw_T2 (List.mem_of_getElem? (i := 141) rfl)) rfl, k_in (lw_T2 (List.mem_of_getElem? (i := 142) rfl)) rfl, ⟨by decide +kernel, by decide +kernel, by decide +kernel⟩, by decide +kernel⟩
theorem pfX6_think : plainFor MX6_think.1 = true := by decide +kernel
theorem vvX6_think : k_mv MX6_think 0 := ⟨k_in (lw_T2 (List.mem_of_getElem? (i := 72) rfl)) rfl, k_in (lw_T0 (List.mem_of_getElem? (i := 6) rfl)) rfl, k_in (lw_T2 (List.mem_of_getElem? (i := 70) rfl)) rfl, k_in (lw_T2 (List.mem_of_getElem? (i := 71) rfl)) rfl, ⟨by decide +kernel, by decide +kernel, by decide +kernel⟩, by decide +kernel⟩
theorem pfX6_pass : plainFor MX6_pass.1 = true := by decide +kernel
theorem vvX6_pass : k_mv MX6_pass 3 := ⟨k_in (lw_T2 (List.mem_of_getElem? (i := 22) rfl)) rfl, k_in (lw_T0 (List.mem_of_getElem? (i := 6) rfl)) rfl, k_in (lw_T2 (List.mem_of_getElem? (i := 20) rfl)) rfl, k_in (lw_T2 (List.mem_of_getElem? (i := 21) rfl)) rfl, ⟨by decide +kernel, by decide +kernel, by decide +kernel⟩, by decide +kernel⟩
theorem pfX6_pushed : plainFor MX6_pushed.1 = true := by decide +kernel
theorem vvX6_pushed : k_mv MX6_pushed 2 := ⟨k_in (lw_T2 (List.mem_of_getElem? (i := 26) rfl)) rfl, k_in (lw_T0 (List.mem_of_getElem? (i := 6) rfl)) rfl, k_in (lw_T2 (List.mem_of_getElem? (i := 25) rfl)) rfl, k_in (List.mem_append_left _ (List.mem_of_getElem? (i := 13) rfl)) rfl, ⟨by decide +kernel, by decide +kernel, by decide +kernel⟩, by decide +kernel⟩
theorem pfX6_dayOf : plainFor MX6_dayOf.1 = true := by decide +kernel
theorem vvX6_dayOf : k_mv MX6_dayOf 1 := ⟨k_in (lw_T2 (List.mem_of_getElem? (i := 87) rfl)) rfl, k_in (lw_T0 (List.mem_of_getElem? (i := 6) rfl)) rfl, k_in (lw_T2 (List.mem_of_getElem? (i := 85) rfl)) rfl, k_in (lw_T2 (List.mem_of_getElem? (i := 86) rfl)) rfl, ⟨by decide +kernel, by decide +kernel, by decide +kernel⟩, by decide +kernel⟩
theorem pfX6_timesOfDay : plainFor MX6_timesOfDay.1 = true := by decide +kernel
theorem vvX6_timesOfDay : k_mv MX6_timesOfDay 2 := ⟨k_in (lw_T2 (List.mem_of_getElem? (i := 95) rfl)) rfl, k_in (lw_T0 (List.mem_of_getElem? (i := 6) rfl)) rfl, k_in (lw_T2 (List.mem_of_getElem? (i := 93) rfl)) rfl, k_in (lw_T2 (List.mem_of_getElem? (i := 94) rfl)) rfl, ⟨by decide +kernel, by decide +kernel, by decide +kernel⟩, by decide +kernel⟩
theorem pfX6_unshown : plainFor MX6_unshown.1 = true := by decide +kernel
theorem vvX6_unshown : k_mv MX6_unshown 2 := ⟨k_in (lw_T2 (List.mem_of_getElem? (i := 106) rfl)) rfl, k_in (lw_T0 (List.mem_of_getElem? (i := 6) rfl)) rfl, k_in (lw_T2 (List.mem_of_getElem? (i := 104) rfl)) rfl, k_in (lw_T2 (List.mem_of_getElem? (i := 105) rfl)) rfl, ⟨by decide +kernel, by decide +kernel, by decide +kernel⟩, by decide +kernel⟩
theorem pfX6_markShown : plainFor MX6_markShown.1 = true := by decide +kernel
theorem vvX6_markShown : k_mv MX6_markShown 0 := ⟨k_in (lw_T2 (List.mem_of_getElem? (i := 110) rfl)) rfl, k_in (lw_T0 (List.mem_of_getElem? (i := 6) rfl)) rfl, k_in (lw_T2 (List.mem_of_getElem? (i := 109) rfl)) rfl, k_in (List.mem_append_left _ (List.mem_of_getElem? (i := 17) rfl)) rfl, ⟨by decide +kernel, by decide +kernel, by decide +kernel⟩, by decide +kernel⟩
theorem pfX6_timesAt : plainFor MX6_timesAt.1 = true := by decide +kernel
theorem vvX6_timesAt : k_mv MX6_timesAt 4 := ⟨k_in (lw_T2 (List.mem_of_getElem? (i := 122) rfl)) rfl, k_in (lw_T0 (List.mem_of_getElem? (i := 6) rfl)) rfl, k_in (lw_T2 (List.mem_of_getElem? (i := 120) rfl)) rfl, k_in (lw_T2 (List.mem_of_getElem? (i := 121) rfl)) rfl, ⟨by decide +kernel, by decide +kernel, by decide +kernel⟩, by decide +kernel⟩
theorem pfX6_firstOfBoth : plainFor MX6_firstOfBoth.1 = true := by decide +kernel
theorem vvX6_firstOfBoth : k_mv MX6_firstOfBoth 3 := ⟨k_in (lw_T2 (List.mem_of_getElem? (i := 130) rfl)) rfl, k_in (lw_T0 (List.mem_of_getElem? (i := 6) rfl)) rfl, k_in (lw_T2 (List.mem_of_getElem? (i := 128) rfl)) rfl, k_in (lw_T2 (List.mem_of_getElem? (i := 129) rfl)) rfl, ⟨by decide +kernel, by decide +kernel, by decide +kernel⟩, by decide +kernel⟩
theorem pfX6_firstAsNow : plainFor MX6_firstAsNow.1 = true := by decide +kernel
theorem vvX6_firstAsNow : k_mv MX6_firstAsNow 1 := ⟨k_in (lw_T2 (List.mem_of_getElem? (i := 139) rfl)) rfl, k_in (lw_T0 (List.mem_of_getElem? (i := 6) rfl)) rfl, k_in (lw_T2 (List.mem_of_getElem? (i := 137) rfl)) rfl, k_in (lw_T2 (List.mem_of_getElem? (i := 138) rfl)) rfl, ⟨by decide +kernel, by decide +kernel, by decide +kernel⟩, by decide +kernel⟩
theorem pfX6_nightsTo : plainFor MX6_nightsTo.1 = true := by decide +kernel
theorem vvX6_nightsTo : k_mv MX6_nightsTo 3 := ⟨k_in (lw_T2 (List.mem_of_getElem? (i := 151) rfl)) rfl, k_in (lw_T0 (List.mem_of_getElem? (i := 6) rfl)) rfl, k_in (lw_T2 (List.mem_of_getElem? (i := 149) rfl)) rfl, k_in (lw_T2 (List.mem_of_getElem? (i := 150) rfl)) rfl, ⟨by decide +kernel, by decide +kernel, by decide +kernel⟩, by decide +kernel⟩
theorem pfX6_wrongDays : plainFor MX6_wrongDays.1 = true := by decide +kernel
theorem vvX6_wrongDays : k_mv MX6_wrongDays 1 := ⟨k_in (lw_T2 (List.mem_of_getElem? (i := 159) rfl)) rfl, k_in (lw_T0 (List.mem_of_getElem? (i := 6) rfl)) rfl, k_in (lw_T2 (List.mem_of_getElem? (i := 157) rfl)) rfl, k_in (lw_T2 (List.mem_of_getElem? (i := 158) rfl)) rfl, ⟨by decide +kernel, by decide +kernel, by decide +kernel⟩, by decide +kernel⟩
theorem pfX6_nearest : plainFor MX6_nearest.1 = true := by decide +kernel
theorem vvX6_nearest : k_mv MX6_nearest 2 := ⟨k_in (lw_T2 (List.mem_of_getElem? (i := 163) rfl)) rfl, k_in (lw_T0 (List.mem_of_getElem? (i := 6) rfl)) rfl, k_in (lw_T2 (List.mem_of_getElem? (i := 161) rfl)) rfl, k_in (lw_T2 (List.mem_of_getElem? (i := 162) rfl)) rfl, ⟨by decide +kernel, by decide +kernel, by decide +kernel⟩, by decide +kernel⟩
theorem pfX7_nightOf : plainFor MX7_nightOf.1 = true := by decide +kernel
theorem vvX7_nightOf : k_mv MX7_nightOf 1 := ⟨k_in (lw_T2 (List.mem_of_getElem? (i := 182) rfl)) rfl, k_in (lw_T0 (List.mem_of_getElem? (i := 8) rfl)) rfl, k_in (lw_T2 (List.mem_of_getElem? (i := 180) rfl)) rfl, k_in (lw_T2 (List.mem_of_getElem? (i := 181) rfl)) rfl, ⟨by decide +kernel, by decide +kernel, by decide +kernel⟩, by decide +kernel⟩
theorem pfX7_placeOf : plainFor MX7_placeOf.1 = true := by decide +kernel
theorem vvX7_placeOf : k_mv MX7_placeOf 1 := ⟨k_in (lw_T2 (List.mem_of_getElem? (i := 232) rfl)) rfl, k_in (lw_T0 (List.mem_of_getElem? (i := 8) rfl)) rfl, k_in (lw_T2 (List.mem_of_getElem? (i := 230) rfl)) rfl, k_in (lw_T2 (List.mem_of_getElem? (i := 231) rfl)) rfl, ⟨by decide +kernel, by decide +kernel, by decide +kernel⟩, by decide +kernel⟩
theorem pfX7_inOrder : plainFor MX7_inOrder.1 = true := by decide +kernel
theorem vvX7_inOrder : k_mv MX7_inOrder 1 := ⟨k_in (lw_T2 (List.mem_of_getElem? (i := 225) rfl)) rfl, k_in (lw_T0 (List.mem_of_getElem? (i := 8) rfl)) rfl, k_in (lw_T2 (List.mem_of_getElem? (i := 223) rfl)) rfl, k_in (lw_T2 (List.mem_of_getElem? (i := 224) rfl)) rfl, ⟨by decide +kernel, by decide +kernel, by decide +kernel⟩, by decide +kernel⟩
theorem pfX7_add : plainFor MX7_add.1 = true := by decide +kernel
theorem vvX7_add : k_mv MX7_add 2 := ⟨k_in (lw_T2 (List.mem_of_getElem? (i := 178) rfl)) rfl, k_in (lw_T0 (List.mem_of_getElem? (i := 8) rfl)) rfl, k_in (lw_T2 (List.mem_of_getElem? (i := 176) rfl)) rfl, k_in (lw_T2 (List.mem_of_getElem? (i := 177) rfl)) rfl, ⟨by decide +kernel, by decide +kernel, by decide +kernel⟩, by decide +kernel⟩
theorem pfX8_has : plainFor MX8_has.1 = true := by decide +kernel
theorem vvX8_has : k_mv MX8_has 1 := ⟨k_in (lw_T2 (List.mem_of_getElem? (i := 190) rfl)) rfl, k_in (lw_T0 (List.mem_of_getElem? (i := 12) rfl)) rfl, k_in (lw_T2 (List.mem_of_getElem? (i := 188) rfl)) rfl, k_in (lw_T2 (List.mem_of_getElem? (i := 189) rfl)) rfl, ⟨by decide +kernel, by decide +kernel, by decide +kernel⟩, by decide +kernel⟩
theorem pfX8_heldBy : plainFor MX8_heldBy.1 = true := by decide +kernel
theorem vvX8_heldBy : k_mv MX8_heldBy 1 := ⟨k_in (lw_T2 (List.mem_of_getElem? (i := 194) rfl)) rfl, k_in (lw_T0 (List.mem_of_getElem? (i := 12) rfl)) rfl, k_in (lw_T2 (List.mem_of_getElem? (i := 192) rfl)) rfl, k_in (lw_T2 (List.mem_of_getElem? (i := 193) rfl)) rfl, ⟨by decide +kernel, by decide +kernel, by decide +kernel⟩, by decide +kernel⟩
theorem pfX8_sizeOf : plainFor MX8_sizeOf.1 = true := by decide +kernel
theorem vvX8_sizeOf : k_mv MX8_sizeOf 1 := ⟨k_in (lw_T2 (List.mem_of_getElem? (i := 204) rfl)) rfl, k_in (lw_T0 (List.mem_of_getElem? (i := 12) rfl)) rfl, k_in (lw_T2 (List.mem_of_getElem? (i := 202) rfl)) rfl, k_in (lw_T2 (List.mem_of_getElem? (i := 203) rfl)) rfl, ⟨by decide +kernel, by decide +kernel, by decide +kernel⟩, by decide +kernel⟩
theorem pfX8_hold : plainFor MX8_hold.1 = true := by decide +kernel
theorem vvX8_hold : k_mv MX8_hold 3 := ⟨k_in (lw_T3 (List.mem_of_getElem? (i := 134) rfl)) rfl, k_in (lw_T0 (List.mem_of_getElem? (i := 12) rfl)) rfl, k_in (lw_T3 (List.mem_of_getElem? (i := 132) rfl)) rfl, k_in (lw_T3 (List.mem_of_getElem? (i := 133) rfl)) rfl, ⟨by decide +kernel, by decide +kernel, by decide +kernel⟩, by decide +kernel⟩
theorem pfX8_hasElement : plainFor MX8_hasElement.1 = true := by decide +kernel
theorem vvX8_hasElement : k_mv MX8_hasElement 2 := ⟨k_in (lw_T2 (List.mem_of_getElem? (i := 199) rfl)) rfl, k_in (lw_T0 (List.mem_of_getElem? (i := 12) rfl)) rfl, k_in (lw_T2 (List.mem_of_getElem? (i := 197) rfl)) rfl, k_in (lw_T2 (List.mem_of_getElem? (i := 198) rfl)) rfl, ⟨by decide +kernel, by decide +kernel, by decide +kernel⟩, by decide +kernel⟩
theorem pfX8_refusalAt : plainFor MX8_refusalAt.1 = true := by decide +kernel
theorem vvX8_refusalAt : k_mv MX8_refusalAt 2 := ⟨k_in (lw_T3 (List.mem_of_getElem? (i := 146) rfl)) rfl, k_in (lw_T0 (List.mem_of_getElem? (i := 12) rfl)) rfl, k_in (lw_T3 (List.mem_of_getElem? (i := 144) rfl)) rfl, k_in (lw_T3 (List.mem_of_getElem? (i := 145) rfl)) rfl, ⟨by decide +kernel, by decide +kernel, by decide +kernel⟩, by decide +kernel⟩
theorem pfX8_hasPart : plainFor MX8_hasPart.1 = true := by decide +kernel
theorem vvX8_hasPart : k_mv MX8_hasPart 3 := ⟨k_in (lw_T3 (List.mem_of_getElem? (i := 166) rfl)) rfl, k_in (lw_T0 (List.mem_of_getElem? (i := 12) rfl)) rfl, k_in (lw_T3 (List.mem_of_getElem? (i := 164) rfl)) rfl, k_in (lw_T3 (List.mem_of_getElem? (i := 165) rfl)) rfl, ⟨by decide +kernel, by decide +kernel, by decide +kernel⟩, by decide +kernel⟩
theorem pfX8_valueAt : plainFor MX8_valueAt.1 = true := by decide +kernel
theorem vvX8_valueAt : k_mv MX8_valueAt 2 := ⟨k_in (lw_T2 (List.mem_of_getElem? (i := 208) rfl)) rfl, k_in (lw_T0 (List.mem_of_getElem? (i := 12) rfl)) rfl, k_in (lw_T2 (List.mem_of_getElem? (i := 206) rfl)) rfl, k_in (lw_T2 (List.mem_of_getElem? (i := 207) rfl)) rfl, ⟨by decide +kernel, by decide +kernel, by decide +kernel⟩, by decide +kernel⟩
theorem pfX8_write : plainFor MX8_write.1 = true := by decide +kernel
theorem vvX8_write : k_mv MX8_write 3 := ⟨k_in (lw_T3 (List.mem_of_getElem? (i := 150) rfl)) rfl, k_in (lw_T0 (List.mem_of_getElem? (i := 12) rfl)) rfl, k_in (lw_T3 (List.mem_of_getElem? (i := 148) rfl)) rfl, k_in (lw_T3 (List.mem_of_getElem? (i := 149) rfl)) rfl, ⟨by decide +kernel, by decide +kernel, by decide +kernel⟩, by decide +kernel⟩
theorem pfX8_lowest : plainFor MX8_lowest.1 = true := by decide +kernel
theorem vvX8_lowest : k_ms MX8_lowest 2 := ⟨k_in (lw_T3 (List.mem_of_getElem? (i := 153) rfl)) rfl, k_in (lw_T0 (List.mem_of_getElem? (i := 12) rfl)) rfl, k_in (lw_T3 (List.mem_of_getElem? (i := 152) rfl)) rfl, ⟨by decide +kernel, by decide +kernel, by decide +kernel⟩, by decide +kernel⟩
theorem pfX8_move : plainFor MX8_move.1 = true := by decide +kernel
theorem vvX8_move : k_mv MX8_move 5 := ⟨k_in (lw_T3 (List.mem_of_getElem? (i := 170) rfl)) rfl, k_in (lw_T0 (List.mem_of_getElem? (i := 12) rfl)) rfl, k_in (lw_T3 (List.mem_of_getElem? (i := 168) rfl)) rfl, k_in (lw_T3 (List.mem_of_getElem? (i := 169) rfl)) rfl, ⟨by decide +kernel, by decide +kernel, by decide +kernel⟩, by decide +kernel⟩
theorem pfX9_append : plainFor MX9_append.1 = true := by decide +kernel
theorem vvX9_append : k_mv MX9_append 1 := ⟨k_in (lw_T1 (List.mem_of_getElem? (i := 86) rfl)) rfl, k_in (lw_T0 (List.mem_of_getElem? (i := 2) rfl)) rfl, k_in (lw_T1 (List.mem_of_getElem? (i := 84) rfl)) rfl, k_in (lw_T1 (List.mem_of_getElem? (i := 85) rfl)) rfl, ⟨by decide +kernel, by decide +kernel, by decide +kernel⟩, by decide +kernel⟩
theorem pfX9_at : plainFor MX9_at.1 = true := by decide +kernel
theorem vvX9_at : k_mv MX9_at 1 := ⟨k_in (lw_T1 (List.mem_of_getElem? (i := 98) rfl)) rfl, k_in (lw_T0 (List.mem_of_getElem? (i := 2) rfl)) rfl, k_in (lw_T1 (List.mem_of_getElem? (i := 96) rfl)) rfl, k_in (lw_T1 (List.mem_of_getElem? (i := 97) rfl)) rfl, ⟨by decide +kernel, by decide +kernel, by decide +kernel⟩, by decide +kernel⟩
theorem pfX10_has : plainFor MX10_has.1 = true := by decide +kernel
theorem vvX10_has : k_mv MX10_has 1 := ⟨k_in (lw_T1 (List.mem_of_getElem? (i := 186) rfl)) rfl, k_in (lw_T0 (List.mem_of_getElem? (i := 3) rfl)) rfl, k_in (lw_T1 (List.mem_of_getElem? (i := 184) rfl)) rfl, k_in (lw_T1 (List.mem_of_getElem? (i := 185) rfl)) rfl, ⟨by decide +kernel, by decide +kernel, by decide +kernel⟩, by decide +kernel⟩
theorem pfX10_hasPlace : plainFor MX10_hasPlace.1 = true := by decide +kernel
theorem vvX10_hasPlace : k_mv MX10_hasPlace 2 := ⟨k_in (lw_T1 (List.mem_of_getElem? (i := 230) rfl)) rfl, k_in (lw_T0 (List.mem_of_getElem? (i := 3) rfl)) rfl, k_in (lw_T1 (List.mem_of_getElem? (i := 228) rfl)) rfl, k_in (lw_T1 (List.mem_of_getElem? (i := 229) rfl)) rfl, ⟨by decide +kernel, by decide +kernel, by decide +kernel⟩, by decide +kernel⟩
theorem pfX10_sizeOf : plainFor MX10_sizeOf.1 = true := by decide +kernel
theorem vvX10_sizeOf : k_mv MX10_sizeOf 1 := ⟨k_in (lw_T2 (List.mem_of_getElem? (i := 5) rfl)) rfl, k_in (lw_T0 (List.mem_of_getElem? (i := 3) rfl)) rfl, k_in (lw_T2 (List.mem_of_getElem? (i := 3) rfl)) rfl, k_in (lw_T2 (List.mem_of_getElem? (i := 4) rfl)) rfl, ⟨by decide +kernel, by decide +kernel, by decide +kernel⟩, by decide +kernel⟩
theorem pfX10_breakOf : plainFor MX10_breakOf.1 = true := by decide +kernel
theorem vvX10_breakOf : k_mv MX10_breakOf 1 := ⟨k_in (lw_T1 (List.mem_of_getElem? (i := 190) rfl)) rfl, k_in (lw_T0 (List.mem_of_getElem? (i := 3) rfl)) rfl, k_in (lw_T1 (List.mem_of_getElem? (i := 188) rfl)) rfl, k_in (lw_T1 (List.mem_of_getElem? (i := 189) rfl)) rfl, ⟨by decide +kernel, by decide +kernel, by decide +kernel⟩, by decide +kernel⟩
theorem pfX10_setBreak : plainFor MX10_setBreak.1 = true := by decide +kernel
theorem vvX10_setBreak : k_mv MX10_setBreak 2 := ⟨k_in (lw_T1 (List.mem_of_getElem? (i := 194) rfl)) rfl, k_in (lw_T0 (List.mem_of_getElem? (i := 3) rfl)) rfl, k_in (lw_T1 (List.mem_of_getElem? (i := 192) rfl)) rfl, k_in (lw_T1 (List.mem_of_getElem? (i := 193) rfl)) rfl, ⟨by decide +kernel, by decide +kernel, by decide +kernel⟩, by decide +kernel⟩
theorem pfX10_letterAt : plainFor MX10_letterAt.1 = true := by decide +kernel
theorem vvX10_letterAt : k_mv MX10_letterAt 2 := ⟨k_in (lw_T1 (List.mem_of_getElem? (i := 236) rfl)) rfl, k_in (lw_T0 (List.mem_of_getElem? (i := 3) rfl)) rfl, k_in (lw_T1 (List.mem_of_getElem? (i := 234) rfl)) rfl, k_in (lw_T1 (List.mem_of_getElem? (i := 235) rfl)) rfl, ⟨by decide +kernel, by decide +kernel, by decide +kernel⟩, by decide +kernel⟩
theorem pfX10_setLetter : plainFor MX10_setLetter.1 = true := by decide +kernel
theorem vvX10_setLetter : k_mv MX10_setLetter 3 := ⟨k_in (lw_T1 (List.mem_of_getElem? (i := 109) rfl)) rfl, k_in (lw_T0 (List.mem_of_getElem? (i := 3) rfl)) rfl, k_in (lw_T1 (List.mem_of_getElem? (i := 107) rfl)) rfl, k_in (lw_T1 (List.mem_of_getElem? (i := 108) rfl)) rfl, ⟨by decide +kernel, by decide +kernel, by decide +kernel⟩, by decide +kernel⟩
theorem pfX10_faultOf : plainFor MX10_faultOf.1 = true := by decide +kernel
theorem vvX10_faultOf : k_mv MX10_faultOf 1 := ⟨k_in (lw_T1 (List.mem_of_getElem? (i := 94) rfl)) rfl, k_in (lw_T0 (List.mem_of_getElem? (i := 3) rfl)) rfl, k_in (lw_T1 (List.mem_of_getElem? (i := 92) rfl)) rfl, k_in (lw_T1 (List.mem_of_getElem? (i := 93) rfl)) rfl, ⟨by decide +kernel, by decide +kernel, by decide +kernel⟩, by decide +kernel⟩
theorem pfX10_cutFrom : plainFor MX10_cutFrom.1 = true := by decide +kernel
theorem vvX10_cutFrom : k_mv MX10_cutFrom 1 := ⟨k_in (lw_T1 (List.mem_of_getElem? (i := 105) rfl)) rfl, k_in (lw_T0 (List.mem_of_getElem? (i := 3) rfl)) rfl, k_in (lw_T1 (List.mem_of_getElem? (i := 103) rfl)) rfl, k_in (lw_T1 (List.mem_of_getElem? (i := 104) rfl)) rfl, ⟨by decide +kernel, by decide +kernel, by decide +kernel⟩, by decide +kernel⟩
theorem pfX11_feed : plainFor MX11_feed.1 = true := by decide +kernel
theorem vvX11_feed : k_mv MX11_feed 1 := ⟨k_in (lw_T1 (List.mem_of_getElem? (i := 82) rfl)) rfl, k_in (lw_T0 (List.mem_of_getElem? (i := 1) rfl)) rfl, k_in (lw_T1 (List.mem_of_getElem? (i := 80) rfl)) rfl, k_in (lw_T1 (List.mem_of_getElem? (i := 81) rfl)) rfl, ⟨by decide +kernel, by decide +kernel, by decide +kernel⟩, by decide +kernel⟩
theorem pfX11_wheel : plainFor MX11_wheel.1 = true := by decide +kernel
theorem vvX11_wheel : k_mv MX11_wheel 0 := ⟨k_in (lw_T1 (List.mem_of_getElem? (i := 90) rfl)) rfl, k_in (lw_T0 (List.mem_of_getElem? (i := 1) rfl)) rfl, k_in (lw_T1 (List.mem_of_getElem? (i := 88) rfl)) rfl, k_in (lw_T1 (List.mem_of_getElem? (i := 89) rfl)) rfl, ⟨by decide +kernel, by decide +kernel, by decide +kernel⟩, by decide +kernel⟩
theorem pfX11_law : plainFor MX11_law.1 = true := by decide +kernel
theorem vvX11_law : k_mv MX11_law 0 := ⟨k_in (lw_T1 (List.mem_of_getElem? (i := 113) rfl)) rfl, k_in (lw_T0 (List.mem_of_getElem? (i := 1) rfl)) rfl, k_in (lw_T1 (List.mem_of_getElem? (i := 111) rfl)) rfl, k_in (lw_T1 (List.mem_of_getElem? (i := 112) rfl)) rfl, ⟨by decide +kernel, by decide +kernel, by decide +kernel⟩, by decide +kernel⟩
theorem pfX11_set : plainFor MX11_set.1 = true := by decide +kernel
theorem vvX11_set : k_mv MX11_set 2 := ⟨k_in (lw_T1 (List.mem_of_getElem? (i := 177) rfl)) rfl, k_in (lw_T0 (List.mem_of_getElem? (i := 1) rfl)) rfl, k_in (lw_T1 (List.mem_of_getElem? (i := 175) rfl)) rfl, k_in (lw_T1 (List.mem_of_getElem? (i := 176) rfl)) rfl, ⟨by decide +kernel, by decide +kernel, by decide +kernel⟩, by decide +kernel⟩
theorem pfX11_broke : plainFor MX11_broke.1 = true := by decide +kernel
theorem vvX11_broke : k_mv MX11_broke 2 := ⟨k_in (lw_T1 (List.mem_of_getElem? (i := 182) rfl)) rfl, k_in (lw_T0 (List.mem_of_getElem? (i := 1) rfl)) rfl, k_in (lw_T1 (List.mem_of_getElem? (i := 180) rfl)) rfl, k_in (lw_T1 (List.mem_of_getElem? (i := 181) rfl)) rfl, ⟨by decide +kernel, by decide +kernel, by decide +kernel⟩, by decide +kernel⟩
theorem pfX11_tooth : plainFor MX11_tooth.1 = true := by decide +kernel
theorem vvX11_tooth : k_mv MX11_tooth 3 := ⟨k_in (lw_T1 (List.mem_of_getElem? (i := 226) rfl)) rfl, k_in (lw_T0 (List.mem_of_getElem? (i := 1) rfl)) rfl, k_in (lw_T1 (List.mem_of_getElem? (i := 224) rfl)) rfl, k_in (lw_T1 (List.mem_of_getElem? (i := 225) rfl)) rfl, ⟨by decide +kernel, by decide +kernel, by decide +kernel⟩, by decide +kernel⟩
theorem pfX11_of : plainFor MX11_of.1 = true := by decide +kernel
theorem vvX11_of : k_mv MX11_of 2 := ⟨k_in (lw_T2 (List.mem_of_getElem? (i := 1) rfl)) rfl, k_in (lw_T0 (List.mem_of_getElem? (i := 1) rfl)) rfl, k_in (lw_T1 (List.mem_of_getElem? (i := 239) rfl)) rfl, k_in (lw_T2 (List.mem_of_getElem? (i := 0) rfl)) rfl, ⟨by decide +kernel, by decide +kernel, by decide +kernel⟩, by decide +kernel⟩
theorem pfX11_on : plainFor MX11_on.1 = true := by decide +kernel
theorem vvX11_on : k_mv MX11_on 1 := ⟨k_in (lw_T2 (List.mem_of_getElem? (i := 17) rfl)) rfl, k_in (lw_T0 (List.mem_of_getElem? (i := 1) rfl)) rfl, k_in (lw_T2 (List.mem_of_getElem? (i := 15) rfl)) rfl, k_in (lw_T2 (List.mem_of_getElem? (i := 16) rfl)) rfl, ⟨by decide +kernel, by decide +kernel, by decide +kernel⟩, by decide +kernel⟩
theorem pfX11_lay : plainFor MX11_lay.1 = true := by decide +kernel
theorem vvX11_lay : k_mv MX11_lay 2 := ⟨k_in (lw_T2 (List.mem_of_getElem? (i := 63) rfl)) rfl, k_in (lw_T0 (List.mem_of_getElem? (i := 1) rfl)) rfl, k_in (lw_T2 (List.mem_of_getElem? (i := 61) rfl)) rfl, k_in (lw_T2 (List.mem_of_getElem? (i := 62) rfl)) rfl, ⟨by decide +kernel, by decide +kernel, by decide +kernel⟩, by decide +kernel⟩
theorem pfX11_shows : plainFor MX11_shows.1 = true := by decide +kernel
theorem vvX11_shows : k_mv MX11_shows 2 := ⟨k_in (lw_T2 (List.mem_of_getElem? (i := 68) rfl)) rfl, k_in (lw_T0 (List.mem_of_getElem? (i := 1) rfl)) rfl, k_in (lw_T2 (List.mem_of_getElem? (i := 66) rfl)) rfl, k_in (lw_T2 (List.mem_of_getElem? (i := 67) rfl)) rfl, ⟨by decide +kernel, by decide +kernel, by decide +kernel⟩, by decide +kernel⟩
theorem pfX11_day : plainFor MX11_day.1 = true := by decide +kernel
theorem vvX11_day : k_mv MX11_day 0 := ⟨k_in (lw_T2 (List.mem_of_getElem? (i := 83) rfl)) rfl, k_in (lw_T0 (List.mem_of_getElem? (i := 1) rfl)) rfl, k_in (lw_T2 (List.mem_of_getElem? (i := 81) rfl)) rfl, k_in (lw_T2 (List.mem_of_getElem? (i := 82) rfl)) rfl, ⟨by decide +kernel, by decide +kernel, by decide +kernel⟩, by decide +kernel⟩
theorem pfX11_often : plainFor MX11_often.1 = true := by decide +kernel
theorem vvX11_often : k_mv MX11_often 2 := ⟨k_in (lw_T2 (List.mem_of_getElem? (i := 91) rfl)) rfl, k_in (lw_T0 (List.mem_of_getElem? (i := 1) rfl)) rfl, k_in (lw_T2 (List.mem_of_getElem? (i := 89) rfl)) rfl, k_in (lw_T2 (List.mem_of_getElem? (i := 90) rfl)) rfl, ⟨by decide +kernel, by decide +kernel, by decide +kernel⟩, by decide +kernel⟩
theorem pfX11_never : plainFor MX11_never.1 = true := by decide +kernel
theorem vvX11_never : k_mv MX11_never 2 := ⟨k_in (lw_T2 (List.mem_of_getElem? (i := 102) rfl)) rfl, k_in (lw_T0 (List.mem_of_getElem? (i := 1) rfl)) rfl, k_in (lw_T2 (List.mem_of_getElem? (i := 100) rfl)) rfl, k_in (lw_T2 (List.mem_of_getElem? (i := 101) rfl)) rfl, ⟨by decide +kernel, by decide +kernel, by decide +kernel⟩, by decide +kernel⟩
theorem pfX11_meets : plainFor MX11_meets.1 = true := by decide +kernel
theorem vvX11_meets : k_mv MX11_meets 3 := ⟨k_in (lw_T2 (List.mem_of_getElem? (i := 114) rfl)) rfl, k_in (lw_T0 (List.mem_of_getElem? (i := 1) rfl)) rfl, k_in (lw_T2 (List.mem_of_getElem? (i := 112) rfl)) rfl, k_in (lw_T2 (List.mem_of_getElem? (i := 113) rfl)) rfl, ⟨by decide +kernel, by decide +kernel, by decide +kernel⟩, by decide +kernel⟩
theorem pfX11_two : plainFor MX11_two.1 = true := by decide +kernel
theorem vvX11_two : k_mv MX11_two 3 := ⟨k_in (lw_T2 (List.mem_of_getElem? (i := 126) rfl)) rfl, k_in (lw_T0 (List.mem_of_getElem? (i := 1) rfl)) rfl, k_in (lw_T2 (List.mem_of_getElem? (i := 124) rfl)) rfl, k_in (lw_T2 (List.mem_of_getElem? (i := 125) rfl)) rfl, ⟨by decide +kernel, by decide +kernel, by decide +kernel⟩, by decide +kernel⟩
theorem pfX11_round : plainFor MX11_round.1 = true := by decide +kernel
theorem vvX11_round : k_mv MX11_round 1 := ⟨k_in (lw_T2 (List.mem_of_getElem? (i := 135) rfl)) rfl, k_in (lw_T0 (List.mem_of_getElem? (i := 1) rfl)) rfl, k_in (lw_T2 (List.mem_of_getElem? (i := 133) rfl)) rfl, k_in (lw_T2 (List.mem_of_getElem? (i := 134) rfl)) rfl, ⟨by decide +kernel, by decide +kernel, by decide +kernel⟩, by decide +kernel⟩
theorem pfX11_truth : plainFor MX11_truth.1 = true := by decide +kernel
theorem vvX11_truth : k_mv MX11_truth 1 := ⟨k_in (lw_T2 (List.mem_of_getElem? (i := 147) rfl)) rfl, k_in (lw_T0 (List.mem_of_getElem? (i := 1) rfl)) rfl, k_in (lw_T2 (List.mem_of_getElem? (i := 145) rfl)) rfl, k_in (lw_T2 (List.mem_of_getElem? (i := 146) rfl)) rfl, ⟨by decide +kernel, by decide +kernel, by decide +kernel⟩, by decide +kernel⟩
theorem pfX11_near : plainFor MX11_near.1 = true := by decide +kernel
theorem vvX11_near : k_mv MX11_near 2 := ⟨k_in (lw_T2 (List.mem_of_getElem? (i := 155) rfl)) rfl, k_in (lw_T0 (List.mem_of_getElem? (i := 1) rfl)) rfl, k_in (lw_T2 (List.mem_of_getElem? (i := 153) rfl)) rfl, k_in (lw_T2 (List.mem_of_getElem? (i := 154) rfl)) rfl, ⟨by decide +kernel, by decide +kernel, by decide +kernel⟩, by decide +kernel⟩
theorem pfX11_record : plainFor MX11_record.1 = true := by decide +kernel
theorem vvX11_record : k_mv MX11_record 2 := ⟨k_in (lw_T2 (List.mem_of_getElem? (i := 171) rfl)) rfl, k_in (lw_T0 (List.mem_of_getElem? (i := 1) rfl)) rfl, k_in (lw_T2 (List.mem_of_getElem? (i := 169) rfl)) rfl, k_in (lw_T2 (List.mem_of_getElem? (i := 170) rfl)) rfl, ⟨by decide +kernel, by decide +kernel, by decide +kernel⟩, by decide +kernel⟩
theorem pfX11_records : plainFor MX11_records.1 = true := by decide +kernel
theorem vvX11_records : k_mv MX11_records 3 := ⟨k_in (lw_T2 (List.mem_of_getElem? (i := 186) rfl)) rfl, k_in (lw_T0 (List.mem_of_getElem? (i := 1) rfl)) rfl, k_in (lw_T2 (List.mem_of_getElem? (i := 184) rfl)) rfl, k_in (lw_T2 (List.mem_of_getElem? (i := 185) rfl)) rfl, ⟨by decide +kernel, by decide +kernel, by decide +kernel⟩, by decide +kernel⟩
theorem pfX11_clear : plainFor MX11_clear.1 = true := by decide +kernel
theorem vvX11_clear : k_mv MX11_clear 0 := ⟨k_in (lw_T2 (List.mem_of_getElem? (i := 212) rfl)) rfl, k_in (lw_T0 (List.mem_of_getElem? (i := 1) rfl)) rfl, k_in (lw_T2 (List.mem_of_getElem? (i := 210) rfl)) rfl, k_in (lw_T2 (List.mem_of_getElem? (i := 211) rfl)) rfl, ⟨by decide +kernel, by decide +kernel, by decide +kernel⟩, by decide +kernel⟩
theorem pfX11_judge : plainFor MX11_judge.1 = true := by decide +kernel
theorem vvX11_judge : k_mv MX11_judge 0 := ⟨k_in (lw_T2 (List.mem_of_getElem? (i := 216) rfl)) rfl, k_in (lw_T0 (List.mem_of_getElem? (i := 1) rfl)) rfl, k_in (lw_T2 (List.mem_of_getElem? (i := 214) rfl)) rfl, k_in (lw_T2 (List.mem_of_getElem? (i := 215) rfl)) rfl, ⟨by decide +kernel, by decide +kernel, by decide +kernel⟩, by decide +kernel⟩
theorem pfX11_fits : plainFor MX11_fits.1 = true := by decide +kernel
theorem vvX11_fits : k_mv MX11_fits 1 := ⟨k_in (lw_T2 (List.mem_of_getElem? (i := 236) rfl)) rfl, k_in (lw_T0 (List.mem_of_getElem? (i := 1) rfl)) rfl, k_in (lw_T2 (List.mem_of_getElem? (i := 234) rfl)) rfl, k_in (lw_T2 (List.mem_of_getElem? (i := 235) rfl)) rfl, ⟨by decide +kernel, by decide +kernel, by decide +kernel⟩, by decide +kernel⟩
theorem pfX11_sure : plainFor MX11_sure.1 = true := by decide +kernel
theorem vvX11_sure : k_mv MX11_sure 1 := ⟨k_in (lw_T3 (List.mem_of_getElem? (i := 9) rfl)) rfl, k_in (lw_T0 (List.mem_of_getElem? (i := 1) rfl)) rfl, k_in (lw_T3 (List.mem_of_getElem? (i := 7) rfl)) rfl, k_in (lw_T3 (List.mem_of_getElem? (i := 8) rfl)) rfl, ⟨by decide +kernel, by decide +kernel, by decide +kernel⟩, by decide +kernel⟩
theorem pfX11_when : plainFor MX11_when.1 = true := by decide +kernel
theorem vvX11_when : k_mv MX11_when 1 := ⟨k_in (lw_T3 (List.mem_of_getElem? (i := 19) rfl)) rfl, k_in (lw_T0 (List.mem_of_getElem? (i := 1) rfl)) rfl, k_in (lw_T3 (List.mem_of_getElem? (i := 17) rfl)) rfl, k_in (lw_T3 (List.mem_of_getElem? (i := 18) rfl)) rfl, ⟨by decide +kernel, by decide +kernel, by decide +kernel⟩, by decide +kernel⟩
theorem pfX11_watch : plainFor MX11_watch.1 = true := by decide +kernel
theorem vvX11_watch : k_mv MX11_watch 1 := ⟨k_in (lw_T3 (List.mem_of_getElem? (i := 29) rfl)) rfl, k_in (lw_T0 (List.mem_of_getElem? (i := 1) rfl)) rfl, k_in (lw_T3 (List.mem_of_getElem? (i := 27) rfl)) rfl, k_in (lw_T3 (List.mem_of_getElem? (i := 28) rfl)) rfl, ⟨by decide +kernel, by decide +kernel, by decide +kernel⟩, by decide +kernel⟩
theorem pfX11_image : plainFor MX11_image.1 = true := by decide +kernel
theorem vvX11_image : k_mv MX11_image 0 := ⟨k_in (lw_T3 (List.mem_of_getElem? (i := 50) rfl)) rfl, k_in (lw_T0 (List.mem_of_getElem? (i := 1) rfl)) rfl, k_in (lw_T3 (List.mem_of_getElem? (i := 48) rfl)) rfl, k_in (lw_T3 (List.mem_of_getElem? (i := 49) rfl)) rfl, ⟨by decide +kernel, by decide +kernel, by decide +kernel⟩, by decide +kernel⟩
theorem pfX11_back : plainFor MX11_back.1 = true := by decide +kernel
theorem vvX11_back : k_mv MX11_back 0 := ⟨k_in (lw_T3 (List.mem_of_getElem? (i := 55) rfl)) rfl, k_in (lw_T0 (List.mem_of_getElem? (i := 1) rfl)) rfl, k_in (lw_T3 (List.mem_of_getElem? (i := 53) rfl)) rfl, k_in (lw_T3 (List.mem_of_getElem? (i := 54) rfl)) rfl, ⟨by decide +kernel, by decide +kernel, by decide +kernel⟩, by decide +kernel⟩
theorem pfX11_undo : plainFor MX11_undo.1 = true := by decide +kernel
theorem vvX11_undo : k_mv MX11_undo 0 := ⟨k_in (lw_T3 (List.mem_of_getElem? (i := 59) rfl)) rfl, k_in (lw_T0 (List.mem_of_getElem? (i := 1) rfl)) rfl, k_in (lw_T3 (List.mem_of_getElem? (i := 57) rfl)) rfl, k_in (lw_T3 (List.mem_of_getElem? (i := 58) rfl)) rfl, ⟨by decide +kernel, by decide +kernel, by decide +kernel⟩, by decide +kernel⟩
theorem pfX11_redo : plainFor MX11_redo.1 = true := by decide +kernel
theorem vvX11_redo : k_mv MX11_redo 0 := ⟨k_in (lw_T3 (List.mem_of_getElem? (i := 70) rfl)) rfl, k_in (lw_T0 (List.mem_of_getElem? (i := 1) rfl)) rfl, k_in (lw_T3 (List.mem_of_getElem? (i := 68) rfl)) rfl, k_in (lw_T3 (List.mem_of_getElem? (i := 69) rfl)) rfl, ⟨by decide +kernel, by decide +kernel, by decide +kernel⟩, by decide +kernel⟩
theorem pfX11_body : plainFor MX11_body.1 = true := by decide +kernel
theorem vvX11_body : k_mv MX11_body 1 := ⟨k_in (lw_T3 (List.mem_of_getElem? (i := 75) rfl)) rfl, k_in (lw_T0 (List.mem_of_getElem? (i := 1) rfl)) rfl, k_in (lw_T3 (List.mem_of_getElem? (i := 73) rfl)) rfl, k_in (lw_T3 (List.mem_of_getElem? (i := 74) rfl)) rfl, ⟨by decide +kernel, by decide +kernel, by decide +kernel⟩, by decide +kernel⟩
theorem pfX11_act : plainFor MX11_act.1 = true := by decide +kernel
theorem vvX11_act : k_mv MX11_act 3 := ⟨k_in (lw_T3 (List.mem_of_getElem? (i := 83) rfl)) rfl, k_in (lw_T0 (List.mem_of_getElem? (i := 1) rfl)) rfl, k_in (lw_T3 (List.mem_of_getElem? (i := 81) rfl)) rfl, k_in (lw_T3 (List.mem_of_getElem? (i := 82) rfl)) rfl, ⟨by decide +kernel, by decide +kernel, by decide +kernel⟩, by decide +kernel⟩
theorem pfX11_trace : plainFor MX11_trace.1 = true := by decide +kernel
theorem vvX11_trace : k_mv MX11_trace 1 := ⟨k_in (lw_T3 (List.mem_of_getElem? (i := 122) rfl)) rfl, k_in (lw_T0 (List.mem_of_getElem? (i := 1) rfl)) rfl, k_in (lw_T3 (List.mem_of_getElem? (i := 120) rfl)) rfl, k_in (lw_T3 (List.mem_of_getElem? (i := 121) rfl)) rfl, ⟨by decide +kernel, by decide +kernel, by decide +kernel⟩, by decide +kernel⟩
theorem pfX11_keep : plainFor MX11_keep.1 = true := by decide +kernel
theorem vvX11_keep : k_mv MX11_keep 2 := ⟨k_in (lw_T3 (List.mem_of_getElem? (i := 130) rfl)) rfl, k_in (lw_T0 (List.mem_of_getElem? (i := 1) rfl)) rfl, k_in (lw_T3 (List.mem_of_getElem? (i := 128) rfl)) rfl, k_in (lw_T3 (List.mem_of_getElem? (i := 129) rfl)) rfl, ⟨by decide +kernel, by decide +kernel, by decide +kernel⟩, by decide +kernel⟩
theorem pfX11_row : plainFor MX11_row.1 = true := by decide +kernel
theorem vvX11_row : k_mv MX11_row 3 := ⟨k_in (lw_T3 (List.mem_of_getElem? (i := 138) rfl)) rfl, k_in (lw_T0 (List.mem_of_getElem? (i := 1) rfl)) rfl, k_in (lw_T3 (List.mem_of_getElem? (i := 136) rfl)) rfl, k_in (lw_T3 (List.mem_of_getElem? (i := 137) rfl)) rfl, ⟨by decide +kernel, by decide +kernel, by decide +kernel⟩, by decide +kernel⟩
theorem pfX11_put : plainFor MX11_put.1 = true := by decide +kernel
theorem vvX11_put : k_mv MX11_put 3 := ⟨k_in (lw_T3 (List.mem_of_getElem? (i := 142) rfl)) rfl, k_in (lw_T0 (List.mem_of_getElem? (i := 1) rfl)) rfl, k_in (lw_T3 (List.mem_of_getElem? (i := 140) rfl)) rfl, k_in (lw_T3 (List.mem_of_getElem? (i := 141) rfl)) rfl, ⟨by decide +kernel, by decide +kernel, by decide +kernel⟩, by decide +kernel⟩
theorem pfX11_element : plainFor MX11_element.1 = true := by decide +kernel
theorem vvX11_element : k_mv MX11_element 2 := ⟨k_in (lw_T3 (List.mem_of_getElem? (i := 157) rfl)) rfl, k_in (lw_T0 (List.mem_of_getElem? (i := 1) rfl)) rfl, k_in (lw_T3 (List.mem_of_getElem? (i := 155) rfl)) rfl, k_in (lw_T3 (List.mem_of_getElem? (i := 156) rfl)) rfl, ⟨by decide +kernel, by decide +kernel, by decide +kernel⟩, by decide +kernel⟩
theorem pfX11_shift : plainFor MX11_shift.1 = true := by decide +kernel
theorem vvX11_shift : k_mv MX11_shift 5 := ⟨k_in (lw_T3 (List.mem_of_getElem? (i := 162) rfl)) rfl, k_in (lw_T0 (List.mem_of_getElem? (i := 1) rfl)) rfl, k_in (lw_T3 (List.mem_of_getElem? (i := 160) rfl)) rfl, k_in (lw_T3 (List.mem_of_getElem? (i := 161) rfl)) rfl, ⟨by decide +kernel, by decide +kernel, by decide +kernel⟩, by decide +kernel⟩
theorem pfX11_taken : plainFor MX11_taken.1 = true := by decide +kernel
theorem vvX11_taken : k_mv MX11_taken 2 := ⟨k_in (lw_T3 (List.mem_of_getElem? (i := 176) rfl)) rfl, k_in (lw_T0 (List.mem_of_getElem? (i := 1) rfl)) rfl, k_in (lw_T3 (List.mem_of_getElem? (i := 174) rfl)) rfl, k_in (lw_T3 (List.mem_of_getElem? (i := 175) rfl)) rfl, ⟨by decide +kernel, by decide +kernel, by decide +kernel⟩, by decide +kernel⟩
theorem pfX11_count : plainFor MX11_count.1 = true := by decide +kernel
theorem vvX11_count : k_mv MX11_count 1 := ⟨k_in (lw_T3 (List.mem_of_getElem? (i := 186) rfl)) rfl, k_in (lw_T0 (List.mem_of_getElem? (i := 1) rfl)) rfl, k_in (lw_T3 (List.mem_of_getElem? (i := 184) rfl)) rfl, k_in (lw_T3 (List.mem_of_getElem? (i := 185) rfl)) rfl, ⟨by decide +kernel, by decide +kernel, by decide +kernel⟩, by decide +kernel⟩
theorem pfX11_isSpot : plainFor MX11_isSpot.1 = true := by decide +kernel
theorem vvX11_isSpot : k_mv MX11_isSpot 1 := ⟨k_in (lw_T2 (List.mem_of_getElem? (i := 118) rfl)) rfl, k_in (lw_T0 (List.mem_of_getElem? (i := 1) rfl)) rfl, k_in (lw_T2 (List.mem_of_getElem? (i := 117) rfl)) rfl, k_in (List.mem_append_left _ (List.mem_of_getElem? (i := 18) rfl)) rfl, ⟨by decide +kernel, by decide +kernel, by decide +kernel⟩, by decide +kernel⟩
theorem pfX11_apply : plainFor MX11_apply.1 = true := by decide +kernel
theorem vvX11_apply : k_mv MX11_apply 2 := ⟨k_in (lw_T3 (List.mem_of_getElem? (i := 64) rfl)) rfl, k_in (lw_T0 (List.mem_of_getElem? (i := 1) rfl)) rfl, k_in (lw_T3 (List.mem_of_getElem? (i := 63) rfl)) rfl, k_in (List.mem_append_left _ (List.mem_of_getElem? (i := 22) rfl)) rfl, ⟨by decide +kernel, by decide +kernel, by decide +kernel⟩, by decide +kernel⟩
theorem pfX11_isRecord : plainFor MX11_isRecord.1 = true := by decide +kernel
theorem vvX11_isRecord : k_ms MX11_isRecord 2 := ⟨k_in (lw_T2 (List.mem_of_getElem? (i := 174) rfl)) rfl, k_in (lw_T0 (List.mem_of_getElem? (i := 1) rfl)) rfl, k_in (lw_T2 (List.mem_of_getElem? (i := 173) rfl)) rfl, ⟨by decide +kernel, by decide +kernel, by decide +kernel⟩, by decide +kernel⟩
theorem pfX11_isTooth : plainFor MX11_isTooth.1 = true := by decide +kernel
theorem vvX11_isTooth : k_ms MX11_isTooth 1 := ⟨k_in (lw_T1 (List.mem_of_getElem? (i := 101) rfl)) rfl, k_in (lw_T0 (List.mem_of_getElem? (i := 1) rfl)) rfl, k_in (lw_T1 (List.mem_of_getElem? (i := 100) rfl)) rfl, ⟨by decide +kernel, by decide +kernel, by decide +kernel⟩, by decide +kernel⟩
theorem pfX11_left : plainFor MX11_left.1 = true := by decide +kernel
theorem vvX11_left : k_ms MX11_left 2 := ⟨k_in (lw_T2 (List.mem_of_getElem? (i := 52) rfl)) rfl, k_in (lw_T0 (List.mem_of_getElem? (i := 1) rfl)) rfl, k_in (lw_T2 (List.mem_of_getElem? (i := 51) rfl)) rfl, ⟨by decide +kernel, by decide +kernel, by decide +kernel⟩, by decide +kernel⟩
theorem pfX12_in : plainFor MX12_in.1 = true := by decide +kernel
theorem vvX12_in : k_ms MX12_in 3 := ⟨k_in (lw_T4 (List.mem_of_getElem? (i := 121) rfl)) rfl, k_in (lw_T0 (List.mem_of_getElem? (i := 13) rfl)) rfl, k_in (lw_T4 (List.mem_of_getElem? (i := 120) rfl)) rfl, ⟨by decide +kernel, by decide +kernel, by decide +kernel⟩, by decide +kernel⟩
theorem pfX12_feed : plainFor MX12_feed.1 = true := by decide +kernel
theorem vvX12_feed : k_mv MX12_feed 1 := ⟨k_in (lw_T4 (List.mem_of_getElem? (i := 118) rfl)) rfl, k_in (lw_T0 (List.mem_of_getElem? (i := 13) rfl)) rfl, k_in (lw_T4 (List.mem_of_getElem? (i := 116) rfl)) rfl, k_in (lw_T4 (List.mem_of_getElem? (i := 117) rfl)) rfl, ⟨by decide +kernel, by decide +kernel, by decide +kernel⟩, by decide +kernel⟩
theorem pfX12_isWheel : plainFor MX12_isWheel.1 = true := by decide +kernel
theorem vvX12_isWheel : k_mv MX12_isWheel 1 := ⟨k_in (lw_T4 (List.mem_of_getElem? (i := 212) rfl)) rfl, k_in (lw_T0 (List.mem_of_getElem? (i := 13) rfl)) rfl, k_in (lw_T4 (List.mem_of_getElem? (i := 211) rfl)) rfl, k_in (List.mem_append_left _ (List.mem_of_getElem? (i := 40) rfl)) rfl, ⟨by decide +kernel, by decide +kernel, by decide +kernel⟩, by decide +kernel⟩
theorem pfX12_isTooth : plainFor MX12_isTooth.1 = true := by decide +kernel
theorem vvX12_isTooth : k_ms MX12_isTooth 1 := ⟨k_in (lw_T4 (List.mem_of_getElem? (i := 128) rfl)) rfl, k_in (lw_T0 (List.mem_of_getElem? (i := 13) rfl)) rfl, k_in (lw_T4 (List.mem_of_getElem? (i := 127) rfl)) rfl, ⟨by decide +kernel, by decide +kernel, by decide +kernel⟩, by decide +kernel⟩
theorem pfX12_wheel : plainFor MX12_wheel.1 = true := by decide +kernel
theorem vvX12_wheel : k_mv MX12_wheel 0 := ⟨k_in (lw_T4 (List.mem_of_getElem? (i := 125) rfl)) rfl, k_in (lw_T0 (List.mem_of_getElem? (i := 13) rfl)) rfl, k_in (lw_T4 (List.mem_of_getElem? (i := 123) rfl)) rfl, k_in (lw_T4 (List.mem_of_getElem? (i := 124) rfl)) rfl, ⟨by decide +kernel, by decide +kernel, by decide +kernel⟩, by decide +kernel⟩
theorem pfX12_look : plainFor MX12_look.1 = true := by decide +kernel
theorem vvX12_look : k_mv MX12_look 0 := ⟨k_in (lw_T4 (List.mem_of_getElem? (i := 168) rfl)) rfl, k_in (lw_T0 (List.mem_of_getElem? (i := 13) rfl)) rfl, k_in (lw_T4 (List.mem_of_getElem? (i := 167) rfl)) rfl, k_in (List.mem_append_left _ (List.mem_of_getElem? (i := 34) rfl)) rfl, ⟨by decide +kernel, by decide +kernel, by decide +kernel⟩, by decide +kernel⟩
theorem pfX12_wrong : plainFor MX12_wrong.1 = true := by decide +kernel
theorem vvX12_wrong : k_mv MX12_wrong 0 := ⟨k_in (lw_T4 (List.mem_of_getElem? (i := 183) rfl)) rfl, k_in (lw_T0 (List.mem_of_getElem? (i := 13) rfl)) rfl, k_in (lw_T4 (List.mem_of_getElem? (i := 182) rfl)) rfl, k_in (List.mem_append_left _ (List.mem_of_getElem? (i := 37) rfl)) rfl, ⟨by decide +kernel, by decide +kernel, by decide +kernel⟩, by decide +kernel⟩
theorem pfX12_addStep : plainFor MX12_addStep.1 = true := by decide +kernel
theorem vvX12_addStep : k_mv MX12_addStep 2 := ⟨k_in (lw_T4 (List.mem_of_getElem? (i := 175) rfl)) rfl, k_in (lw_T0 (List.mem_of_getElem? (i := 13) rfl)) rfl, k_in (lw_T4 (List.mem_of_getElem? (i := 174) rfl)) rfl, k_in (List.mem_append_left _ (List.mem_of_getElem? (i := 35) rfl)) rfl, ⟨by decide +kernel, by decide +kernel, by decide +kernel⟩, by decide +kernel⟩
theorem pfX12_nameOf : plainFor MX12_nameOf.1 = true := by decide +kernel
theorem vvX12_nameOf : k_ms MX12_nameOf 1 := ⟨k_in (lw_T4 (List.mem_of_getElem? (i := 171) rfl)) rfl, k_in (lw_T0 (List.mem_of_getElem? (i := 13) rfl)) rfl, k_in (lw_T4 (List.mem_of_getElem? (i := 170) rfl)) rfl, ⟨by decide +kernel, by decide +kernel, by decide +kernel⟩, by decide +kernel⟩
theorem pfX12_opens : plainFor MX12_opens.1 = true := by decide +kernel
theorem vvX12_opens : k_mv MX12_opens 0 := ⟨k_in (lw_T4 (List.mem_of_getElem? (i := 179) rfl)) rfl, k_in (lw_T0 (List.mem_of_getElem? (i := 13) rfl)) rfl, k_in (lw_T4 (List.mem_of_getElem? (i := 178) rfl)) rfl, k_in (List.mem_append_left _ (List.mem_of_getElem? (i := 36) rfl)) rfl, ⟨by decide +kernel, by decide +kernel, by decide +kernel⟩, by decide +kernel⟩
theorem pfX12_figure : plainFor MX12_figure.1 = true := by decide +kernel
theorem vvX12_figure : k_mv MX12_figure 0 := ⟨k_in (lw_T4 (List.mem_of_getElem? (i := 187) rfl)) rfl, k_in (lw_T0 (List.mem_of_getElem? (i := 13) rfl)) rfl, k_in (lw_T4 (List.mem_of_getElem? (i := 186) rfl)) rfl, k_in (List.mem_append_left _ (List.mem_of_getElem? (i := 38) rfl)) rfl, ⟨by decide +kernel, by decide +kernel, by decide +kernel⟩, by decide +kernel⟩
theorem pfX12_operand : plainFor MX12_operand.1 = true := by decide +kernel
theorem vvX12_operand : k_mv MX12_operand 0 := ⟨k_in (lw_T4 (List.mem_of_getElem? (i := 164) rfl)) rfl, k_in (lw_T0 (List.mem_of_getElem? (i := 13) rfl)) rfl, k_in (lw_T4 (List.mem_of_getElem? (i := 163) rfl)) rfl, k_in (List.mem_append_left _ (List.mem_of_getElem? (i := 33) rfl)) rfl, ⟨by decide +kernel, by decide +kernel, by decide +kernel⟩, by decide +kernel⟩
theorem pfX12_product : plainFor MX12_product.1 = true := by decide +kernel
theorem vvX12_product : k_mv MX12_product 0 := ⟨k_in (lw_T4 (List.mem_of_getElem? (i := 160) rfl)) rfl, k_in (lw_T0 (List.mem_of_getElem? (i := 13) rfl)) rfl, k_in (lw_T4 (List.mem_of_getElem? (i := 159) rfl)) rfl, k_in (List.mem_append_left _ (List.mem_of_getElem? (i := 32) rfl)) rfl, ⟨by decide +kernel, by decide +kernel, by decide +kernel⟩, by decide +kernel⟩
theorem pfX12_sum : plainFor MX12_sum.1 = true := by decide +kernel
theorem vvX12_sum : k_mv MX12_sum 0 := ⟨k_in (lw_T4 (List.mem_of_getElem? (i := 156) rfl)) rfl, k_in (lw_T0 (List.mem_of_getElem? (i := 13) rfl)) rfl, k_in (lw_T4 (List.mem_of_getElem? (i := 155) rfl)) rfl, k_in (List.mem_append_left _ (List.mem_of_getElem? (i := 31) rfl)) rfl, ⟨by decide +kernel, by decide +kernel, by decide +kernel⟩, by decide +kernel⟩
theorem pfX12_compared : plainFor MX12_compared.1 = true := by decide +kernel
theorem vvX12_compared : k_mv MX12_compared 0 := ⟨k_in (lw_T4 (List.mem_of_getElem? (i := 152) rfl)) rfl, k_in (lw_T0 (List.mem_of_getElem? (i := 13) rfl)) rfl, k_in (lw_T4 (List.mem_of_getElem? (i := 151) rfl)) rfl, k_in (List.mem_append_left _ (List.mem_of_getElem? (i := 30) rfl)) rfl, ⟨by decide +kernel, by decide +kernel, by decide +kernel⟩, by decide +kernel⟩
theorem pfX12_both : plainFor MX12_both.1 = true := by decide +kernel
theorem vvX12_both : k_mv MX12_both 0 := ⟨k_in (lw_T4 (List.mem_of_getElem? (i := 148) rfl)) rfl, k_in (lw_T0 (List.mem_of_getElem? (i := 13) rfl)) rfl, k_in (lw_T4 (List.mem_of_getElem? (i := 147) rfl)) rfl, k_in (List.mem_append_left _ (List.mem_of_getElem? (i := 29) rfl)) rfl, ⟨by decide +kernel, by decide +kernel, by decide +kernel⟩, by decide +kernel⟩
theorem pfX12_either : plainFor MX12_either.1 = true := by decide +kernel
theorem vvX12_either : k_mv MX12_either 0 := ⟨k_in (lw_T4 (List.mem_of_getElem? (i := 144) rfl)) rfl, k_in (lw_T0 (List.mem_of_getElem? (i := 13) rfl)) rfl, k_in (lw_T4 (List.mem_of_getElem? (i := 143) rfl)) rfl, k_in (List.mem_append_left _ (List.mem_of_getElem? (i := 28) rfl)) rfl, ⟨by decide +kernel, by decide +kernel, by decide +kernel⟩, by decide +kernel⟩
theorem pfX12_line : plainFor MX12_line.1 = true := by decide +kernel
theorem vvX12_line : k_mv MX12_line 0 := ⟨k_in (lw_T4 (List.mem_of_getElem? (i := 140) rfl)) rfl, k_in (lw_T0 (List.mem_of_getElem? (i := 13) rfl)) rfl, k_in (lw_T4 (List.mem_of_getElem? (i := 139) rfl)) rfl, k_in (List.mem_append_left _ (List.mem_of_getElem? (i := 27) rfl)) rfl, ⟨by decide +kernel, by decide +kernel, by decide +kernel⟩, by decide +kernel⟩
theorem pfX12_readText : plainFor MX12_readText.1 = true := by decide +kernel
theorem vvX12_readText : k_mv MX12_readText 1 := ⟨k_in (lw_T4 (List.mem_of_getElem? (i := 136) rfl)) rfl, k_in (lw_T0 (List.mem_of_getElem? (i := 13) rfl)) rfl, k_in (lw_T4 (List.mem_of_getElem? (i := 135) rfl)) rfl, k_in (List.mem_append_left _ (List.mem_of_getElem? (i := 26) rfl)) rfl, ⟨by decide +kernel, by decide +kernel, by decide +kernel⟩, by decide +kernel⟩
theorem pfX12_twoOf : plainFor MX12_twoOf.1 = true := by decide +kernel
theorem vvX12_twoOf : k_ms MX12_twoOf 3 := ⟨k_in (lw_T5 (List.mem_of_getElem? (i := 17) rfl)) rfl, k_in (lw_T0 (List.mem_of_getElem? (i := 13) rfl)) rfl, k_in (lw_T5 (List.mem_of_getElem? (i := 16) rfl)) rfl, ⟨by decide +kernel, by decide +kernel, by decide +kernel⟩, by decide +kernel⟩
theorem pfX12_worked : plainFor MX12_worked.1 = true := by decide +kernel
theorem vvX12_worked : k_mv MX12_worked 3 := ⟨k_in (lw_T5 (List.mem_of_getElem? (i := 14) rfl)) rfl, k_in (lw_T0 (List.mem_of_getElem? (i := 13) rfl)) rfl, k_in (lw_T5 (List.mem_of_getElem? (i := 13) rfl)) rfl, k_in (List.mem_append_left _ (List.mem_of_getElem? (i := 47) rfl)) rfl, ⟨by decide +kernel, by decide +kernel, by decide +kernel⟩, by decide +kernel⟩
theorem pfX12_gives : plainFor MX12_gives.1 = true := by decide +kernel
theorem vvX12_gives : k_mv MX12_gives 1 := ⟨k_in (lw_T5 (List.mem_of_getElem? (i := 10) rfl)) rfl, k_in (lw_T0 (List.mem_of_getElem? (i := 13) rfl)) rfl, k_in (lw_T5 (List.mem_of_getElem? (i := 9) rfl)) rfl, k_in (List.mem_append_left _ (List.mem_of_getElem? (i := 46) rfl)) rfl, ⟨by decide +kernel, by decide +kernel, by decide +kernel⟩, by decide +kernel⟩
theorem pfX12_law : plainFor MX12_law.1 = true := by decide +kernel
theorem vvX12_law : k_mv MX12_law 0 := ⟨k_in (lw_T4 (List.mem_of_getElem? (i := 132) rfl)) rfl, k_in (lw_T0 (List.mem_of_getElem? (i := 13) rfl)) rfl, k_in (lw_T4 (List.mem_of_getElem? (i := 130) rfl)) rfl, k_in (lw_T4 (List.mem_of_getElem? (i := 131) rfl)) rfl, ⟨by decide +kernel, by decide +kernel, by decide +kernel⟩, by decide +kernel⟩
theorem pfX12_isCold : plainFor MX12_isCold.1 = true := by decide +kernel
theorem vvX12_isCold : k_mv MX12_isCold 1 := ⟨k_in (lw_T5 (List.mem_of_getElem? (i := 5) rfl)) rfl, k_in (lw_T0 (List.mem_of_getElem? (i := 13) rfl)) rfl, k_in (lw_T5 (List.mem_of_getElem? (i := 4) rfl)) rfl, k_in (List.mem_append_left _ (List.mem_of_getElem? (i := 45) rfl)) rfl, ⟨by decide +kernel, by decide +kernel, by decide +kernel⟩, by decide +kernel⟩
theorem pfX12_set : plainFor MX12_set.1 = true := by decide +kernel
theorem vvX12_set : k_mv MX12_set 2 := ⟨k_in (lw_T4 (List.mem_of_getElem? (i := 191) rfl)) rfl, k_in (lw_T0 (List.mem_of_getElem? (i := 13) rfl)) rfl, k_in (lw_T4 (List.mem_of_getElem? (i := 189) rfl)) rfl, k_in (lw_T4 (List.mem_of_getElem? (i := 190) rfl)) rfl, ⟨by decide +kernel, by decide +kernel, by decide +kernel⟩, by decide +kernel⟩
theorem pfX12_valueAt : plainFor MX12_valueAt.1 = true := by decide +kernel
theorem vvX12_valueAt : k_mv MX12_valueAt 2 := ⟨k_in (lw_T4 (List.mem_of_getElem? (i := 220) rfl)) rfl, k_in (lw_T0 (List.mem_of_getElem? (i := 13) rfl)) rfl, k_in (lw_T4 (List.mem_of_getElem? (i := 219) rfl)) rfl, k_in (List.mem_append_left _ (List.mem_of_getElem? (i := 42) rfl)) rfl, ⟨by decide +kernel, by decide +kernel, by decide +kernel⟩, by decide +kernel⟩
theorem pfX12_lays : plainFor MX12_lays.1 = true := by decide +kernel
theorem vvX12_lays : k_mv MX12_lays 3 := ⟨k_in (lw_T4 (List.mem_of_getElem? (i := 200) rfl)) rfl, k_in (lw_T0 (List.mem_of_getElem? (i := 13) rfl)) rfl, k_in (lw_T4 (List.mem_of_getElem? (i := 199) rfl)) rfl, k_in (List.mem_append_left _ (List.mem_of_getElem? (i := 39) rfl)) rfl, ⟨by decide +kernel, by decide +kernel, by decide +kernel⟩, by decide +kernel⟩
theorem pfX12_changes : plainFor MX12_changes.1 = true := by decide +kernel
theorem vvX12_changes : k_mv MX12_changes 3 := ⟨k_in (lw_T4 (List.mem_of_getElem? (i := 216) rfl)) rfl, k_in (lw_T0 (List.mem_of_getElem? (i := 13) rfl)) rfl, k_in (lw_T4 (List.mem_of_getElem? (i := 215) rfl)) rfl, k_in (List.mem_append_left _ (List.mem_of_getElem? (i := 41) rfl)) rfl, ⟨by decide +kernel, by decide +kernel, by decide +kernel⟩, by decide +kernel⟩
theorem pfX12_undo : plainFor MX12_undo.1 = true := by decide +kernel
theorem vvX12_undo : k_mv MX12_undo 0 := ⟨k_in (lw_T4 (List.mem_of_getElem? (i := 196) rfl)) rfl, k_in (lw_T0 (List.mem_of_getElem? (i := 13) rfl)) rfl, k_in (lw_T4 (List.mem_of_getElem? (i := 194) rfl)) rfl, k_in (lw_T4 (List.mem_of_getElem? (i := 195) rfl)) rfl, ⟨by decide +kernel, by decide +kernel, by decide +kernel⟩, by decide +kernel⟩
theorem pfX12_redo : plainFor MX12_redo.1 = true := by decide +kernel
theorem vvX12_redo : k_mv MX12_redo 0 := ⟨k_in (lw_T4 (List.mem_of_getElem? (i := 204) rfl)) rfl, k_in (lw_T0 (List.mem_of_getElem? (i := 13) rfl)) rfl, k_in (lw_T4 (List.mem_of_getElem? (i := 202) rfl)) rfl, k_in (lw_T4 (List.mem_of_getElem? (i := 203) rfl)) rfl, ⟨by decide +kernel, by decide +kernel, by decide +kernel⟩, by decide +kernel⟩
theorem pfX12_broke : plainFor MX12_broke.1 = true := by decide +kernel
theorem vvX12_broke : k_mv MX12_broke 2 := ⟨k_in (lw_T4 (List.mem_of_getElem? (i := 208) rfl)) rfl, k_in (lw_T0 (List.mem_of_getElem? (i := 13) rfl)) rfl, k_in (lw_T4 (List.mem_of_getElem? (i := 206) rfl)) rfl, k_in (lw_T4 (List.mem_of_getElem? (i := 207) rfl)) rfl, ⟨by decide +kernel, by decide +kernel, by decide +kernel⟩, by decide +kernel⟩
theorem pfX12_tooth : plainFor MX12_tooth.1 = true := by decide +kernel
theorem vvX12_tooth : k_mv MX12_tooth 3 := ⟨k_in (lw_T4 (List.mem_of_getElem? (i := 224) rfl)) rfl, k_in (lw_T0 (List.mem_of_getElem? (i := 13) rfl)) rfl, k_in (lw_T4 (List.mem_of_getElem? (i := 222) rfl)) rfl, k_in (lw_T4 (List.mem_of_getElem? (i := 223) rfl)) rfl, ⟨by decide +kernel, by decide +kernel, by decide +kernel⟩, by decide +kernel⟩
theorem pfX12_of : plainFor MX12_of.1 = true := by decide +kernel
theorem vvX12_of : k_mv MX12_of 2 := ⟨k_in (lw_T4 (List.mem_of_getElem? (i := 228) rfl)) rfl, k_in (lw_T0 (List.mem_of_getElem? (i := 13) rfl)) rfl, k_in (lw_T4 (List.mem_of_getElem? (i := 226) rfl)) rfl, k_in (lw_T4 (List.mem_of_getElem? (i := 227) rfl)) rfl, ⟨by decide +kernel, by decide +kernel, by decide +kernel⟩, by decide +kernel⟩
theorem pfX12_step : plainFor MX12_step.1 = true := by decide +kernel
theorem vvX12_step : k_mv MX12_step 1 := ⟨k_in (lw_T5 (List.mem_of_getElem? (i := 1) rfl)) rfl, k_in (lw_T0 (List.mem_of_getElem? (i := 13) rfl)) rfl, k_in (lw_T5 (List.mem_of_getElem? (i := 0) rfl)) rfl, k_in (List.mem_append_left _ (List.mem_of_getElem? (i := 44) rfl)) rfl, ⟨by decide +kernel, by decide +kernel, by decide +kernel⟩, by decide +kernel⟩
theorem pfX12_goOn : plainFor MX12_goOn.1 = true := by decide +kernel
theorem vvX12_goOn : k_mv MX12_goOn 0 := ⟨k_in (lw_T4 (List.mem_of_getElem? (i := 237) rfl)) rfl, k_in (lw_T0 (List.mem_of_getElem? (i := 13) rfl)) rfl, k_in (lw_T4 (List.mem_of_getElem? (i := 236) rfl)) rfl, k_in (List.mem_append_left _ (List.mem_of_getElem? (i := 43) rfl)) rfl, ⟨by decide +kernel, by decide +kernel, by decide +kernel⟩, by decide +kernel⟩
theorem pfX12_keepNow : plainFor MX12_keepNow.1 = true := by decide +kernel
theorem vvX12_keepNow : k_mv MX12_keepNow 0 := ⟨k_in (lw_T5 (List.mem_of_getElem? (i := 29) rfl)) rfl, k_in (lw_T0 (List.mem_of_getElem? (i := 13) rfl)) rfl, k_in (lw_T5 (List.mem_of_getElem? (i := 28) rfl)) rfl, k_in (List.mem_append_left _ (List.mem_of_getElem? (i := 48) rfl)) rfl, ⟨by decide +kernel, by decide +kernel, by decide +kernel⟩, by decide +kernel⟩
theorem pfX12_layBack : plainFor MX12_layBack.1 = true := by decide +kernel
theorem vvX12_layBack : k_mv MX12_layBack 0 := ⟨k_in (lw_T5 (List.mem_of_getElem? (i := 33) rfl)) rfl, k_in (lw_T0 (List.mem_of_getElem? (i := 13) rfl)) rfl, k_in (lw_T5 (List.mem_of_getElem? (i := 32) rfl)) rfl, k_in (List.mem_append_left _ (List.mem_of_getElem? (i := 49) rfl)) rfl, ⟨by decide +kernel, by decide +kernel, by decide +kernel⟩, by decide +kernel⟩
theorem pfX12_on : plainFor MX12_on.1 = true := by decide +kernel
theorem vvX12_on : k_mv MX12_on 1 := ⟨k_in (lw_T4 (List.mem_of_getElem? (i := 232) rfl)) rfl, k_in (lw_T0 (List.mem_of_getElem? (i := 13) rfl)) rfl, k_in (lw_T4 (List.mem_of_getElem? (i := 230) rfl)) rfl, k_in (lw_T4 (List.mem_of_getElem? (i := 231) rfl)) rfl, ⟨by decide +kernel, by decide +kernel, by decide +kernel⟩, by decide +kernel⟩
theorem pfX12_lay : plainFor MX12_lay.1 = true := by decide +kernel
theorem vvX12_lay : k_mv MX12_lay 2 := ⟨k_in (lw_T5 (List.mem_of_getElem? (i := 21) rfl)) rfl, k_in (lw_T0 (List.mem_of_getElem? (i := 13) rfl)) rfl, k_in (lw_T5 (List.mem_of_getElem? (i := 19) rfl)) rfl, k_in (lw_T5 (List.mem_of_getElem? (i := 20) rfl)) rfl, ⟨by decide +kernel, by decide +kernel, by decide +kernel⟩, by decide +kernel⟩
theorem pfX12_shows : plainFor MX12_shows.1 = true := by decide +kernel
theorem vvX12_shows : k_mv MX12_shows 2 := ⟨k_in (lw_T5 (List.mem_of_getElem? (i := 25) rfl)) rfl, k_in (lw_T0 (List.mem_of_getElem? (i := 13) rfl)) rfl, k_in (lw_T5 (List.mem_of_getElem? (i := 23) rfl)) rfl, k_in (lw_T5 (List.mem_of_getElem? (i := 24) rfl)) rfl, ⟨by decide +kernel, by decide +kernel, by decide +kernel⟩, by decide +kernel⟩
theorem pfX12_day : plainFor MX12_day.1 = true := by decide +kernel
theorem vvX12_day : k_mv MX12_day 0 := ⟨k_in (lw_T5 (List.mem_of_getElem? (i := 37) rfl)) rfl, k_in (lw_T0 (List.mem_of_getElem? (i := 13) rfl)) rfl, k_in (lw_T5 (List.mem_of_getElem? (i := 35) rfl)) rfl, k_in (lw_T5 (List.mem_of_getElem? (i := 36) rfl)) rfl, ⟨by decide +kernel, by decide +kernel, by decide +kernel⟩, by decide +kernel⟩
theorem pfX12_often : plainFor MX12_often.1 = true := by decide +kernel
theorem vvX12_often : k_mv MX12_often 2 := ⟨k_in (lw_T5 (List.mem_of_getElem? (i := 41) rfl)) rfl, k_in (lw_T0 (List.mem_of_getElem? (i := 13) rfl)) rfl, k_in (lw_T5 (List.mem_of_getElem? (i := 39) rfl)) rfl, k_in (lw_T5 (List.mem_of_getElem? (i := 40) rfl)) rfl, ⟨by decide +kernel, by decide +kernel, by decide +kernel⟩, by decide +kernel⟩
theorem pfX12_never : plainFor MX12_never.1 = true := by decide +kernel
theorem vvX12_never : k_mv MX12_never 2 := ⟨k_in (lw_T5 (List.mem_of_getElem? (i := 45) rfl)) rfl, k_in (lw_T0 (List.mem_of_getElem? (i := 13) rfl)) rfl, k_in (lw_T5 (List.mem_of_getElem? (i := 43) rfl)) rfl, k_in (lw_T5 (List.mem_of_getElem? (i := 44) rfl)) rfl, ⟨by decide +kernel, by decide +kernel, by decide +kernel⟩, by decide +kernel⟩
theorem pfX12_isSpot : plainFor MX12_isSpot.1 = true := by decide +kernel
theorem vvX12_isSpot : k_mv MX12_isSpot 1 := ⟨k_in (lw_T5 (List.mem_of_getElem? (i := 53) rfl)) rfl, k_in (lw_T0 (List.mem_of_getElem? (i := 13) rfl)) rfl, k_in (lw_T5 (List.mem_of_getElem? (i := 52) rfl)) rfl, k_in (List.mem_append_left _ (List.mem_of_getElem? (i := 50) rfl)) rfl, ⟨by decide +kernel, by decide +kernel, by decide +kernel⟩, by decide +kernel⟩
theorem pfX12_meets : plainFor MX12_meets.1 = true := by decide +kernel
theorem vvX12_meets : k_mv MX12_meets 3 := ⟨k_in (lw_T5 (List.mem_of_getElem? (i := 49) rfl)) rfl, k_in (lw_T0 (List.mem_of_getElem? (i := 13) rfl)) rfl, k_in (lw_T5 (List.mem_of_getElem? (i := 47) rfl)) rfl, k_in (lw_T5 (List.mem_of_getElem? (i := 48) rfl)) rfl, ⟨by decide +kernel, by decide +kernel, by decide +kernel⟩, by decide +kernel⟩
theorem pfX12_two : plainFor MX12_two.1 = true := by decide +kernel
theorem vvX12_two : k_mv MX12_two 3 := ⟨k_in (lw_T5 (List.mem_of_getElem? (i := 57) rfl)) rfl, k_in (lw_T0 (List.mem_of_getElem? (i := 13) rfl)) rfl, k_in (lw_T5 (List.mem_of_getElem? (i := 55) rfl)) rfl, k_in (lw_T5 (List.mem_of_getElem? (i := 56) rfl)) rfl, ⟨by decide +kernel, by decide +kernel, by decide +kernel⟩, by decide +kernel⟩
theorem pfX12_isAsWas : plainFor MX12_isAsWas.1 = true := by decide +kernel
theorem vvX12_isAsWas : k_mv MX12_isAsWas 0 := ⟨k_in (lw_T5 (List.mem_of_getElem? (i := 65) rfl)) rfl, k_in (lw_T0 (List.mem_of_getElem? (i := 13) rfl)) rfl, k_in (lw_T5 (List.mem_of_getElem? (i := 64) rfl)) rfl, k_in (List.mem_append_left _ (List.mem_of_getElem? (i := 51) rfl)) rfl, ⟨by decide +kernel, by decide +kernel, by decide +kernel⟩, by decide +kernel⟩
theorem pfX12_round : plainFor MX12_round.1 = true := by decide +kernel
theorem vvX12_round : k_mv MX12_round 1 := ⟨k_in (lw_T5 (List.mem_of_getElem? (i := 61) rfl)) rfl, k_in (lw_T0 (List.mem_of_getElem? (i := 13) rfl)) rfl, k_in (lw_T5 (List.mem_of_getElem? (i := 59) rfl)) rfl, k_in (lw_T5 (List.mem_of_getElem? (i := 60) rfl)) rfl, ⟨by decide +kernel, by decide +kernel, by decide +kernel⟩, by decide +kernel⟩
theorem pfX12_truth : plainFor MX12_truth.1 = true := by decide +kernel
theorem vvX12_truth : k_mv MX12_truth 1 := ⟨k_in (lw_T5 (List.mem_of_getElem? (i := 69) rfl)) rfl, k_in (lw_T0 (List.mem_of_getElem? (i := 13) rfl)) rfl, k_in (lw_T5 (List.mem_of_getElem? (i := 67) rfl)) rfl, k_in (lw_T5 (List.mem_of_getElem? (i := 68) rfl)) rfl, ⟨by decide +kernel, by decide +kernel, by decide +kernel⟩, by decide +kernel⟩
theorem pfX12_wrongIn : plainFor MX12_wrongIn.1 = true := by decide +kernel
theorem vvX12_wrongIn : k_mv MX12_wrongIn 1 := ⟨k_in (lw_T5 (List.mem_of_getElem? (i := 77) rfl)) rfl, k_in (lw_T0 (List.mem_of_getElem? (i := 13) rfl)) rfl, k_in (lw_T5 (List.mem_of_getElem? (i := 76) rfl)) rfl, k_in (List.mem_append_left _ (List.mem_of_getElem? (i := 52) rfl)) rfl, ⟨by decide +kernel, by decide +kernel, by decide +kernel⟩, by decide +kernel⟩
theorem pfX12_near : plainFor MX12_near.1 = true := by decide +kernel
theorem vvX12_near : k_mv MX12_near 2 := ⟨k_in (lw_T5 (List.mem_of_getElem? (i := 73) rfl)) rfl, k_in (lw_T0 (List.mem_of_getElem? (i := 13) rfl)) rfl, k_in (lw_T5 (List.mem_of_getElem? (i := 71) rfl)) rfl, k_in (lw_T5 (List.mem_of_getElem? (i := 72) rfl)) rfl, ⟨by decide +kernel, by decide +kernel, by decide +kernel⟩, by decide +kernel⟩
theorem pfX12_isRecord : plainFor MX12_isRecord.1 = true := by decide +kernel
theorem vvX12_isRecord : k_ms MX12_isRecord 2 := ⟨k_in (lw_T5 (List.mem_of_getElem? (i := 84) rfl)) rfl, k_in (lw_T0 (List.mem_of_getElem? (i := 13) rfl)) rfl, k_in (lw_T5 (List.mem_of_getElem? (i := 83) rfl)) rfl, ⟨by decide +kernel, by decide +kernel, by decide +kernel⟩, by decide +kernel⟩
theorem pfX12_addRecord : plainFor MX12_addRecord.1 = true := by decide +kernel
theorem vvX12_addRecord : k_mv MX12_addRecord 2 := ⟨k_in (lw_T5 (List.mem_of_getElem? (i := 88) rfl)) rfl, k_in (lw_T0 (List.mem_of_getElem? (i := 13) rfl)) rfl, k_in (lw_T5 (List.mem_of_getElem? (i := 87) rfl)) rfl, k_in (List.mem_append_left _ (List.mem_of_getElem? (i := 53) rfl)) rfl, ⟨by decide +kernel, by decide +kernel, by decide +kernel⟩, by decide +kernel⟩
theorem pfX12_record : plainFor MX12_record.1 = true := by decide +kernel
theorem vvX12_record : k_mv MX12_record 2 := ⟨k_in (lw_T5 (List.mem_of_getElem? (i := 81) rfl)) rfl, k_in (lw_T0 (List.mem_of_getElem? (i := 13) rfl)) rfl, k_in (lw_T5 (List.mem_of_getElem? (i := 79) rfl)) rfl, k_in (lw_T5 (List.mem_of_getElem? (i := 80) rfl)) rfl, ⟨by decide +kernel, by decide +kernel, by decide +kernel⟩, by decide +kernel⟩
theorem pfX12_records : plainFor MX12_records.1 = true := by decide +kernel
theorem vvX12_records : k_mv MX12_records 3 := ⟨k_in (lw_T5 (List.mem_of_getElem? (i := 92) rfl)) rfl, k_in (lw_T0 (List.mem_of_getElem? (i := 13) rfl)) rfl, k_in (lw_T5 (List.mem_of_getElem? (i := 90) rfl)) rfl, k_in (lw_T5 (List.mem_of_getElem? (i := 91) rfl)) rfl, ⟨by decide +kernel, by decide +kernel, by decide +kernel⟩, by decide +kernel⟩
theorem pfX12_clear : plainFor MX12_clear.1 = true := by decide +kernel
theorem vvX12_clear : k_mv MX12_clear 0 := ⟨k_in (lw_T5 (List.mem_of_getElem? (i := 99) rfl)) rfl, k_in (lw_T0 (List.mem_of_getElem? (i := 13) rfl)) rfl, k_in (lw_T5 (List.mem_of_getElem? (i := 97) rfl)) rfl, k_in (lw_T5 (List.mem_of_getElem? (i := 98) rfl)) rfl, ⟨by decide +kernel, by decide +kernel, by decide +kernel⟩, by decide +kernel⟩
theorem pfX12_firstWrong : plainFor MX12_firstWrong.1 = true := by decide +kernel
theorem vvX12_firstWrong : k_mv MX12_firstWrong 0 := ⟨k_in (lw_T5 (List.mem_of_getElem? (i := 107) rfl)) rfl, k_in (lw_T0 (List.mem_of_getElem? (i := 13) rfl)) rfl, k_in (lw_T5 (List.mem_of_getElem? (i := 106) rfl)) rfl, k_in (List.mem_append_left _ (List.mem_of_getElem? (i := 54) rfl)) rfl, ⟨by decide +kernel, by decide +kernel, by decide +kernel⟩, by decide +kernel⟩
theorem pfX12_judge : plainFor MX12_judge.1 = true := by decide +kernel
theorem vvX12_judge : k_mv MX12_judge 0 := ⟨k_in (lw_T5 (List.mem_of_getElem? (i := 103) rfl)) rfl, k_in (lw_T0 (List.mem_of_getElem? (i := 13) rfl)) rfl, k_in (lw_T5 (List.mem_of_getElem? (i := 101) rfl)) rfl, k_in (lw_T5 (List.mem_of_getElem? (i := 102) rfl)) rfl, ⟨by decide +kernel, by decide +kernel, by decide +kernel⟩, by decide +kernel⟩
theorem pfX12_fitting : plainFor MX12_fitting.1 = true := by decide +kernel
theorem vvX12_fitting : k_mv MX12_fitting 1 := ⟨k_in (lw_T5 (List.mem_of_getElem? (i := 115) rfl)) rfl, k_in (lw_T0 (List.mem_of_getElem? (i := 13) rfl)) rfl, k_in (lw_T5 (List.mem_of_getElem? (i := 114) rfl)) rfl, k_in (List.mem_append_left _ (List.mem_of_getElem? (i := 55) rfl)) rfl, ⟨by decide +kernel, by decide +kernel, by decide +kernel⟩, by decide +kernel⟩
theorem pfX12_fits : plainFor MX12_fits.1 = true := by decide +kernel
theorem vvX12_fits : k_mv MX12_fits 1 := ⟨k_in (lw_T5 (List.mem_of_getElem? (i := 111) rfl)) rfl, k_in (lw_T0 (List.mem_of_getElem? (i := 13) rfl)) rfl, k_in (lw_T5 (List.mem_of_getElem? (i := 109) rfl)) rfl, k_in (lw_T5 (List.mem_of_getElem? (i := 110) rfl)) rfl, ⟨by decide +kernel, by decide +kernel, by decide +kernel⟩, by decide +kernel⟩
theorem pfX12_bitsOf : plainFor MX12_bitsOf.1 = true := by decide +kernel
theorem vvX12_bitsOf : k_ms MX12_bitsOf 1 := ⟨k_in (lw_T5 (List.mem_of_getElem? (i := 122) rfl)) rfl, k_in (lw_T0 (List.mem_of_getElem? (i := 13) rfl)) rfl, k_in (lw_T5 (List.mem_of_getElem? (i := 121) rfl)) rfl, ⟨by decide +kernel, by decide +kernel, by decide +kernel⟩, by decide +kernel⟩
theorem pfX12_sure : plainFor MX12_sure.1 = true := by decide +kernel
theorem vvX12_sure : k_mv MX12_sure 1 := ⟨k_in (lw_T5 (List.mem_of_getElem? (i := 119) rfl)) rfl, k_in (lw_T0 (List.mem_of_getElem? (i := 13) rfl)) rfl, k_in (lw_T5 (List.mem_of_getElem? (i := 117) rfl)) rfl, k_in (lw_T5 (List.mem_of_getElem? (i := 118) rfl)) rfl, ⟨by decide +kernel, by decide +kernel, by decide +kernel⟩, by decide +kernel⟩
theorem pfX12_when : plainFor MX12_when.1 = true := by decide +kernel
theorem vvX12_when : k_mv MX12_when 1 := ⟨k_in (lw_T5 (List.mem_of_getElem? (i := 126) rfl)) rfl, k_in (lw_T0 (List.mem_of_getElem? (i := 13) rfl)) rfl, k_in (lw_T5 (List.mem_of_getElem? (i := 124) rfl)) rfl, k_in (lw_T5 (List.mem_of_getElem? (i := 125) rfl)) rfl, ⟨by decide +kernel, by decide +kernel, by decide +kernel⟩, by decide +kernel⟩
theorem pfX12_doesPart : plainFor MX12_doesPart.1 = true := by decide +kernel
theorem vvX12_doesPart : k_mv MX12_doesPart 2 := ⟨k_in (lw_T5 (List.mem_of_getElem? (i := 134) rfl)) rfl, k_in (lw_T0 (List.mem_of_getElem? (i := 13) rfl)) rfl, k_in (lw_T5 (List.mem_of_getElem? (i := 133) rfl)) rfl, k_in (List.mem_append_left _ (List.mem_of_getElem? (i := 56) rfl)) rfl, ⟨by decide +kernel, by decide +kernel, by decide +kernel⟩, by decide +kernel⟩
theorem pfX12_watch : plainFor MX12_watch.1 = true := by decide +kernel
theorem vvX12_watch : k_mv MX12_watch 1 := ⟨k_in (lw_T5 (List.mem_of_getElem? (i := 130) rfl)) rfl, k_in (lw_T0 (List.mem_of_getElem? (i := 13) rfl)) rfl, k_in (lw_T5 (List.mem_of_getElem? (i := 128) rfl)) rfl, k_in (lw_T5 (List.mem_of_getElem? (i := 129) rfl)) rfl, ⟨by decide +kernel, by decide +kernel, by decide +kernel⟩, by decide +kernel⟩
theorem pfX12_image : plainFor MX12_image.1 = true := by decide +kernel
theorem vvX12_image : k_mv MX12_image 0 := ⟨k_in (lw_T5 (List.mem_of_getElem? (i := 138) rfl)) rfl, k_in (lw_T0 (List.mem_of_getElem? (i := 13) rfl)) rfl, k_in (lw_T5 (List.mem_of_getElem? (i := 136) rfl)) rfl, k_in (lw_T5 (List.mem_of_getElem? (i := 137) rfl)) rfl, ⟨by decide +kernel, by decide +kernel, by decide +kernel⟩, by decide +kernel⟩
theorem pfX12_back : plainFor MX12_back.1 = true := by decide +kernel
theorem vvX12_back : k_mv MX12_back 0 := ⟨k_in (lw_T5 (List.mem_of_getElem? (i := 142) rfl)) rfl, k_in (lw_T0 (List.mem_of_getElem? (i := 13) rfl)) rfl, k_in (lw_T5 (List.mem_of_getElem? (i := 140) rfl)) rfl, k_in (lw_T5 (List.mem_of_getElem? (i := 141) rfl)) rfl, ⟨by decide +kernel, by decide +kernel, by decide +kernel⟩, by decide +kernel⟩
theorem pfX12_isBody : plainFor MX12_isBody.1 = true := by decide +kernel
theorem vvX12_isBody : k_mv MX12_isBody 1 := ⟨k_in (lw_T5 (List.mem_of_getElem? (i := 158) rfl)) rfl, k_in (lw_T0 (List.mem_of_getElem? (i := 13) rfl)) rfl, k_in (lw_T5 (List.mem_of_getElem? (i := 157) rfl)) rfl, k_in (List.mem_append_left _ (List.mem_of_getElem? (i := 57) rfl)) rfl, ⟨by decide +kernel, by decide +kernel, by decide +kernel⟩, by decide +kernel⟩
theorem pfX12_ran : plainFor MX12_ran.1 = true := by decide +kernel
theorem vvX12_ran : k_mv MX12_ran 1 := ⟨k_in (lw_T5 (List.mem_of_getElem? (i := 169) rfl)) rfl, k_in (lw_T0 (List.mem_of_getElem? (i := 13) rfl)) rfl, k_in (lw_T5 (List.mem_of_getElem? (i := 168) rfl)) rfl, k_in (List.mem_append_left _ (List.mem_of_getElem? (i := 59) rfl)) rfl, ⟨by decide +kernel, by decide +kernel, by decide +kernel⟩, by decide +kernel⟩
theorem pfX12_trace : plainFor MX12_trace.1 = true := by decide +kernel
theorem vvX12_trace : k_mv MX12_trace 1 := ⟨k_in (lw_T5 (List.mem_of_getElem? (i := 146) rfl)) rfl, k_in (lw_T0 (List.mem_of_getElem? (i := 13) rfl)) rfl, k_in (lw_T5 (List.mem_of_getElem? (i := 144) rfl)) rfl, k_in (lw_T5 (List.mem_of_getElem? (i := 145) rfl)) rfl, ⟨by decide +kernel, by decide +kernel, by decide +kernel⟩, by decide +kernel⟩
theorem pfX12_body : plainFor MX12_body.1 = true := by decide +kernel
theorem vvX12_body : k_mv MX12_body 1 := ⟨k_in (lw_T5 (List.mem_of_getElem? (i := 150) rfl)) rfl, k_in (lw_T0 (List.mem_of_getElem? (i := 13) rfl)) rfl, k_in (lw_T5 (List.mem_of_getElem? (i := 148) rfl)) rfl, k_in (lw_T5 (List.mem_of_getElem? (i := 149) rfl)) rfl, ⟨by decide +kernel, by decide +kernel, by decide +kernel⟩, by decide +kernel⟩
theorem pfX12_isUnder : plainFor MX12_isUnder.1 = true := by decide +kernel
theorem vvX12_isUnder : k_ms MX12_isUnder 2 := ⟨k_in (lw_T5 (List.mem_of_getElem? (i := 165) rfl)) rfl, k_in (lw_T0 (List.mem_of_getElem? (i := 13) rfl)) rfl, k_in (lw_T5 (List.mem_of_getElem? (i := 164) rfl)) rfl, ⟨by decide +kernel, by decide +kernel, by decide +kernel⟩, by decide +kernel⟩
theorem pfX12_plainTurns : plainFor MX12_plainTurns.1 = true := by decide +kernel
theorem vvX12_plainTurns : k_mv MX12_plainTurns 2 := ⟨k_in (lw_T5 (List.mem_of_getElem? (i := 173) rfl)) rfl, k_in (lw_T0 (List.mem_of_getElem? (i := 13) rfl)) rfl, k_in (lw_T5 (List.mem_of_getElem? (i := 172) rfl)) rfl, k_in (List.mem_append_left _ (List.mem_of_getElem? (i := 60) rfl)) rfl, ⟨by decide +kernel, by decide +kernel, by decide +kernel⟩, by decide +kernel⟩
theorem pfX12_toldTurns : plainFor MX12_toldTurns.1 = true := by decide +kernel
theorem vvX12_toldTurns : k_mv MX12_toldTurns 2 := ⟨k_in (lw_T5 (List.mem_of_getElem? (i := 177) rfl)) rfl, k_in (lw_T0 (List.mem_of_getElem? (i := 13) rfl)) rfl, k_in (lw_T5 (List.mem_of_getElem? (i := 176) rfl)) rfl, k_in (List.mem_append_left _ (List.mem_of_getElem? (i := 61) rfl)) rfl, ⟨by decide +kernel, by decide +kernel, by decide +kernel⟩, by decide +kernel⟩
theorem pfX12_turning : plainFor MX12_turning.1 = true := by decide +kernel
theorem vvX12_turning : k_mv MX12_turning 2 := ⟨k_in (lw_T5 (List.mem_of_getElem? (i := 162) rfl)) rfl, k_in (lw_T0 (List.mem_of_getElem? (i := 13) rfl)) rfl, k_in (lw_T5 (List.mem_of_getElem? (i := 161) rfl)) rfl, k_in (List.mem_append_left _ (List.mem_of_getElem? (i := 58) rfl)) rfl, ⟨by decide +kernel, by decide +kernel, by decide +kernel⟩, by decide +kernel⟩
theorem pfX12_plainShows : plainFor MX12_plainShows.1 = true := by decide +kernel
theorem vvX12_plainShows : k_mv MX12_plainShows 2 := ⟨k_in (lw_T5 (List.mem_of_getElem? (i := 189) rfl)) rfl, k_in (lw_T0 (List.mem_of_getElem? (i := 13) rfl)) rfl, k_in (lw_T5 (List.mem_of_getElem? (i := 188) rfl)) rfl, k_in (List.mem_append_left _ (List.mem_of_getElem? (i := 64) rfl)) rfl, ⟨by decide +kernel, by decide +kernel, by decide +kernel⟩, by decide +kernel⟩
theorem pfX12_skipShows : plainFor MX12_skipShows.1 = true := by decide +kernel
theorem vvX12_skipShows : k_mv MX12_skipShows 2 := ⟨k_in (lw_T5 (List.mem_of_getElem? (i := 185) rfl)) rfl, k_in (lw_T0 (List.mem_of_getElem? (i := 13) rfl)) rfl, k_in (lw_T5 (List.mem_of_getElem? (i := 184) rfl)) rfl, k_in (List.mem_append_left _ (List.mem_of_getElem? (i := 63) rfl)) rfl, ⟨by decide +kernel, by decide +kernel, by decide +kernel⟩, by decide +kernel⟩
theorem pfX12_showing : plainFor MX12_showing.1 = true := by decide +kernel
theorem vvX12_showing : k_mv MX12_showing 2 := ⟨k_in (lw_T5 (List.mem_of_getElem? (i := 181) rfl)) rfl, k_in (lw_T0 (List.mem_of_getElem? (i := 13) rfl)) rfl, k_in (lw_T5 (List.mem_of_getElem? (i := 180) rfl)) rfl, k_in (List.mem_append_left _ (List.mem_of_getElem? (i := 62) rfl)) rfl, ⟨by decide +kernel, by decide +kernel, by decide +kernel⟩, by decide +kernel⟩
theorem pfX12_plainWaits : plainFor MX12_plainWaits.1 = true := by decide +kernel
theorem vvX12_plainWaits : k_mv MX12_plainWaits 2 := ⟨k_in (lw_T5 (List.mem_of_getElem? (i := 197) rfl)) rfl, k_in (lw_T0 (List.mem_of_getElem? (i := 13) rfl)) rfl, k_in (lw_T5 (List.mem_of_getElem? (i := 196) rfl)) rfl, k_in (List.mem_append_left _ (List.mem_of_getElem? (i := 66) rfl)) rfl, ⟨by decide +kernel, by decide +kernel, by decide +kernel⟩, by decide +kernel⟩
theorem pfX12_waiting : plainFor MX12_waiting.1 = true := by decide +kernel
theorem vvX12_waiting : k_mv MX12_waiting 2 := ⟨k_in (lw_T5 (List.mem_of_getElem? (i := 193) rfl)) rfl, k_in (lw_T0 (List.mem_of_getElem? (i := 13) rfl)) rfl, k_in (lw_T5 (List.mem_of_getElem? (i := 192) rfl)) rfl, k_in (List.mem_append_left _ (List.mem_of_getElem? (i := 65) rfl)) rfl, ⟨by decide +kernel, by decide +kernel, by decide +kernel⟩, by decide +kernel⟩
theorem pfX12_plainTells : plainFor MX12_plainTells.1 = true := by decide +kernel
theorem vvX12_plainTells : k_mv MX12_plainTells 2 := ⟨k_in (lw_T5 (List.mem_of_getElem? (i := 209) rfl)) rfl, k_in (lw_T0 (List.mem_of_getElem? (i := 13) rfl)) rfl, k_in (lw_T5 (List.mem_of_getElem? (i := 208) rfl)) rfl, k_in (List.mem_append_left _ (List.mem_of_getElem? (i := 69) rfl)) rfl, ⟨by decide +kernel, by decide +kernel, by decide +kernel⟩, by decide +kernel⟩
theorem pfX12_frostTells : plainFor MX12_frostTells.1 = true := by decide +kernel
theorem vvX12_frostTells : k_mv MX12_frostTells 2 := ⟨k_in (lw_T5 (List.mem_of_getElem? (i := 205) rfl)) rfl, k_in (lw_T0 (List.mem_of_getElem? (i := 13) rfl)) rfl, k_in (lw_T5 (List.mem_of_getElem? (i := 204) rfl)) rfl, k_in (List.mem_append_left _ (List.mem_of_getElem? (i := 68) rfl)) rfl, ⟨by decide +kernel, by decide +kernel, by decide +kernel⟩, by decide +kernel⟩
theorem pfX12_telling : plainFor MX12_telling.1 = true := by decide +kernel
theorem vvX12_telling : k_mv MX12_telling 2 := ⟨k_in (lw_T5 (List.mem_of_getElem? (i := 201) rfl)) rfl, k_in (lw_T0 (List.mem_of_getElem? (i := 13) rfl)) rfl, k_in (lw_T5 (List.mem_of_getElem? (i := 200) rfl)) rfl, k_in (List.mem_append_left _ (List.mem_of_getElem? (i := 67) rfl)) rfl, ⟨by decide +kernel, by decide +kernel, by decide +kernel⟩, by decide +kernel⟩
theorem pfX12_act : plainFor MX12_act.1 = true := by decide +kernel
theorem vvX12_act : k_mv MX12_act 3 := ⟨k_in (lw_T5 (List.mem_of_getElem? (i := 154) rfl)) rfl, k_in (lw_T0 (List.mem_of_getElem? (i := 13) rfl)) rfl, k_in (lw_T5 (List.mem_of_getElem? (i := 152) rfl)) rfl, k_in (lw_T5 (List.mem_of_getElem? (i := 153) rfl)) rfl, ⟨by decide +kernel, by decide +kernel, by decide +kernel⟩, by decide +kernel⟩
theorem pfX12_count : plainFor MX12_count.1 = true := by decide +kernel
theorem vvX12_count : k_mv MX12_count 1 := ⟨k_in (lw_T5 (List.mem_of_getElem? (i := 213) rfl)) rfl, k_in (lw_T0 (List.mem_of_getElem? (i := 13) rfl)) rfl, k_in (lw_T5 (List.mem_of_getElem? (i := 211) rfl)) rfl, k_in (lw_T5 (List.mem_of_getElem? (i := 212) rfl)) rfl, ⟨by decide +kernel, by decide +kernel, by decide +kernel⟩, by decide +kernel⟩
theorem pfX12_isShelf : plainFor MX12_isShelf.1 = true := by decide +kernel
theorem vvX12_isShelf : k_ms MX12_isShelf 1 := ⟨k_in (lw_T5 (List.mem_of_getElem? (i := 95) rfl)) rfl, k_in (lw_T0 (List.mem_of_getElem? (i := 13) rfl)) rfl, k_in (lw_T5 (List.mem_of_getElem? (i := 94) rfl)) rfl, ⟨by decide +kernel, by decide +kernel, by decide +kernel⟩, by decide +kernel⟩
theorem pfX12_keep : plainFor MX12_keep.1 = true := by decide +kernel
theorem vvX12_keep : k_mv MX12_keep 2 := ⟨k_in (lw_T5 (List.mem_of_getElem? (i := 217) rfl)) rfl, k_in (lw_T0 (List.mem_of_getElem? (i := 13) rfl)) rfl, k_in (lw_T5 (List.mem_of_getElem? (i := 215) rfl)) rfl, k_in (lw_T5 (List.mem_of_getElem? (i := 216) rfl)) rfl, ⟨by decide +kernel, by decide +kernel, by decide +kernel⟩, by decide +kernel⟩
theorem pfX12_row : plainFor MX12_row.1 = true := by decide +kernel
theorem vvX12_row : k_mv MX12_row 3 := ⟨k_in (lw_T5 (List.mem_of_getElem? (i := 221) rfl)) rfl, k_in (lw_T0 (List.mem_of_getElem? (i := 13) rfl)) rfl, k_in (lw_T5 (List.mem_of_getElem? (i := 219) rfl)) rfl, k_in (lw_T5 (List.mem_of_getElem? (i := 220) rfl)) rfl, ⟨by decide +kernel, by decide +kernel, by decide +kernel⟩, by decide +kernel⟩
theorem pfX12_whyNoPlace : plainFor MX12_whyNoPlace.1 = true := by decide +kernel
theorem vvX12_whyNoPlace : k_mv MX12_whyNoPlace 2 := ⟨k_in (lw_T5 (List.mem_of_getElem? (i := 229) rfl)) rfl, k_in (lw_T0 (List.mem_of_getElem? (i := 13) rfl)) rfl, k_in (lw_T5 (List.mem_of_getElem? (i := 228) rfl)) rfl, k_in (List.mem_append_left _ (List.mem_of_getElem? (i := 70) rfl)) rfl, ⟨by decide +kernel, by decide +kernel, by decide +kernel⟩, by decide +kernel⟩
theorem pfX12_put : plainFor MX12_put.1 = true := by decide +kernel
theorem vvX12_put : k_mv MX12_put 3 := ⟨k_in (lw_T5 (List.mem_of_getElem? (i := 225) rfl)) rfl, k_in (lw_T0 (List.mem_of_getElem? (i := 13) rfl)) rfl, k_in (lw_T5 (List.mem_of_getElem? (i := 223) rfl)) rfl, k_in (lw_T5 (List.mem_of_getElem? (i := 224) rfl)) rfl, ⟨by decide +kernel, by decide +kernel, by decide +kernel⟩, by decide +kernel⟩
theorem pfX12_element : plainFor MX12_element.1 = true := by decide +kernel
theorem vvX12_element : k_mv MX12_element 2 := ⟨k_in (lw_T5 (List.mem_of_getElem? (i := 233) rfl)) rfl, k_in (lw_T0 (List.mem_of_getElem? (i := 13) rfl)) rfl, k_in (lw_T5 (List.mem_of_getElem? (i := 231) rfl)) rfl, k_in (lw_T5 (List.mem_of_getElem? (i := 232) rfl)) rfl, ⟨by decide +kernel, by decide +kernel, by decide +kernel⟩, by decide +kernel⟩
theorem pfX12_shift : plainFor MX12_shift.1 = true := by decide +kernel
theorem vvX12_shift : k_mv MX12_shift 5 := ⟨k_in (lw_T5 (List.mem_of_getElem? (i := 238) rfl)) rfl, k_in (lw_T0 (List.mem_of_getElem? (i := 13) rfl)) rfl, k_in (lw_T5 (List.mem_of_getElem? (i := 236) rfl)) rfl, k_in (lw_T5 (List.mem_of_getElem? (i := 237) rfl)) rfl, ⟨by decide +kernel, by decide +kernel, by decide +kernel⟩, by decide +kernel⟩
theorem pfX12_taken : plainFor MX12_taken.1 = true := by decide +kernel
theorem vvX12_taken : k_mv MX12_taken 2 := ⟨k_in (lw_T6 (List.mem_of_getElem? (i := 2) rfl)) rfl, k_in (lw_T0 (List.mem_of_getElem? (i := 13) rfl)) rfl, k_in (lw_T6 (List.mem_of_getElem? (i := 0) rfl)) rfl, k_in (lw_T6 (List.mem_of_getElem? (i := 1) rfl)) rfl, ⟨by decide +kernel, by decide +kernel, by decide +kernel⟩, by decide +kernel⟩
theorem pfJ6_bitCount_0f7a4 : plainFor MJ6_bitCount_0f7a4.1 = true := by decide +kernel
theorem vvJ6_bitCount_0f7a4 : k_ms MJ6_bitCount_0f7a4 1 := ⟨k_in (lw_T3 (List.mem_of_getElem? (i := 12) rfl)) rfl, k_in (lw_T0 (List.mem_of_getElem? (i := 15) rfl)) rfl, k_in (lw_T3 (List.mem_of_getElem? (i := 11) rfl)) rfl, ⟨by decide +kernel, by decide +kernel, by decide +kernel⟩, by decide +kernel⟩
theorem pfJ9_max_7cf53 : plainFor MJ9_max_7cf53.1 = true := by decide +kernel
theorem vvJ9_max_7cf53 : k_ms MJ9_max_7cf53 2 := ⟨k_in (lw_T2 (List.mem_of_getElem? (i := 40) rfl)) rfl, k_in (lw_T0 (List.mem_of_getElem? (i := 14) rfl)) rfl, k_in (lw_T2 (List.mem_of_getElem? (i := 39) rfl)) rfl, ⟨by decide +kernel, by decide +kernel, by decide +kernel⟩, by decide +kernel⟩
theorem k_ib_m124 : (Int8.ofInt (-124)).toInt32 = (-124) := by decide +kernel
theorem k_ib_m100 : (Int8.ofInt (-100)).toInt32 = (-100) := by decide +kernel
theorem k_ib_m59 : (Int8.ofInt (-59)).toInt32 = (-59) := by decide +kernel
theorem k_ib_m38 : (Int8.ofInt (-38)).toInt32 = (-38) := by decide +kernel
theorem k_ib_m14 : (Int8.ofInt (-14)).toInt32 = (-14) := by decide +kernel
theorem k_ib_m13 : (Int8.ofInt (-13)).toInt32 = (-13) := by decide +kernel
theorem k_ib_m12 : (Int8.ofInt (-12)).toInt32 = (-12) := by decide +kernel
theorem k_ib_m11 : (Int8.ofInt (-11)).toInt32 = (-11) := by decide +kernel
theorem k_ib_m5 : (Int8.ofInt (-5)).toInt32 = (-5) := by decide +kernel
theorem k_ib_m3 : (Int8.ofInt (-3)).toInt32 = (-3) := by decide +kernel
theorem k_ib_m2 : (Int8.ofInt (-2)).toInt32 = (-2) := by decide +kernel
theorem k_ib_6 : (Int8.ofInt 6).toInt32 = 6 := by decide +kernel
theorem k_ib_7 : (Int8.ofInt 7).toInt32 = 7 := by decide +kernel
theorem k_ib_8 : (Int8.ofInt 8).toInt32 = 8 := by decide +kernel
theorem k_ib_9 : (Int8.ofInt 9).toInt32 = 9 := by decide +kernel
theorem k_ib_10 : (Int8.ofInt 10).toInt32 = 10 := by decide +kernel
theorem k_ib_11 : (Int8.ofInt 11).toInt32 = 11 := by decide +kernel
theorem k_ib_16 : (Int8.ofInt 16).toInt32 = 16 := by decide +kernel
theorem k_ib_20 : (Int8.ofInt 20).toInt32 = 20 := by decide +kernel
theorem k_ib_24 : (Int8.ofInt 24).toInt32 = 24 := by decide +kernel
theorem k_ib_30 : (Int8.ofInt 30).toInt32 = 30 := by decide +kernel
theorem k_ib_32 : (Int8.ofInt 32).toInt32 = 32 := by decide +kernel
theorem k_ib_33 : (Int8.ofInt 33).toInt32 = 33 := by decide +kernel
theorem k_ib_37 : (Int8.ofInt 37).toInt32 = 37 := by decide +kernel
theorem k_ib_38 : (Int8.ofInt 38).toInt32 = 38 := by decide +kernel
theorem k_ib_39 : (Int8.ofInt 39).toInt32 = 39 := by decide +kernel
theorem k_ib_40 : (Int8.ofInt 40).toInt32 = 40 := by decide +kernel
theorem k_ib_41 : (Int8.ofInt 41).toInt32 = 41 := by decide +kernel
theorem k_ib_42 : (Int8.ofInt 42).toInt32 = 42 := by decide +kernel
theorem k_ib_43 : (Int8.ofInt 43).toInt32 = 43 := by decide +kernel
theorem k_ib_45 : (Int8.ofInt 45).toInt32 = 45 := by decide +kernel
theorem k_ib_47 : (Int8.ofInt 47).toInt32 = 47 := by decide +kernel
theorem k_ib_48 : (Int8.ofInt 48).toInt32 = 48 := by decide +kernel
theorem k_ib_49 : (Int8.ofInt 49).toInt32 = 49 := by decide +kernel
theorem k_ib_50 : (Int8.ofInt 50).toInt32 = 50 := by decide +kernel
theorem k_ib_57 : (Int8.ofInt 57).toInt32 = 57 := by decide +kernel
theorem k_ib_59 : (Int8.ofInt 59).toInt32 = 59 := by decide +kernel
theorem k_ib_60 : (Int8.ofInt 60).toInt32 = 60 := by decide +kernel
theorem k_ib_61 : (Int8.ofInt 61).toInt32 = 61 := by decide +kernel
theorem k_ib_62 : (Int8.ofInt 62).toInt32 = 62 := by decide +kernel
theorem k_ib_63 : (Int8.ofInt 63).toInt32 = 63 := by decide +kernel
theorem k_ib_70 : (Int8.ofInt 70).toInt32 = 70 := by decide +kernel
theorem k_ib_80 : (Int8.ofInt 80).toInt32 = 80 := by decide +kernel
theorem k_ib_81 : (Int8.ofInt 81).toInt32 = 81 := by decide +kernel
theorem k_ib_98 : (Int8.ofInt 98).toInt32 = 98 := by decide +kernel
theorem k_ib_99 : (Int8.ofInt 99).toInt32 = 99 := by decide +kernel
theorem k_ib_100 : (Int8.ofInt 100).toInt32 = 100 := by decide +kernel
theorem k_ib_102 : (Int8.ofInt 102).toInt32 = 102 := by decide +kernel
theorem k_ib_107 : (Int8.ofInt 107).toInt32 = 107 := by decide +kernel
theorem k_ib_112 : (Int8.ofInt 112).toInt32 = 112 := by decide +kernel
theorem k_ib_115 : (Int8.ofInt 115).toInt32 = 115 := by decide +kernel
theorem k_ib_116 : (Int8.ofInt 116).toInt32 = 116 := by decide +kernel
theorem k_ib_119 : (Int8.ofInt 119).toInt32 = 119 := by decide +kernel
theorem k_ib_120 : (Int8.ofInt 120).toInt32 = 120 := by decide +kernel
theorem k_ib_122 : (Int8.ofInt 122).toInt32 = 122 := by decide +kernel
theorem k_ib_124 : (Int8.ofInt 124).toInt32 = 124 := by decide +kernel
theorem k_ic_m1 : Int32.ofInt (-1) = (-1) := by decide +kernel
theorem k_ic_0 : Int32.ofInt 0 = 0 := by decide +kernel
theorem k_ic_1 : Int32.ofInt 1 = 1 := by decide +kernel
theorem k_ic_2 : Int32.ofInt 2 = 2 := by decide +kernel
theorem k_ic_3 : Int32.ofInt 3 = 3 := by decide +kernel
theorem k_ic_4 : Int32.ofInt 4 = 4 := by decide +kernel
theorem k_ic_5 : Int32.ofInt 5 = 5 := by decide +kernel
theorem k_is_130 : (Int16.ofInt 130).toInt32 = 130 := by decide +kernel
theorem k_is_255 : (Int16.ofInt 255).toInt32 = 255 := by decide +kernel
theorem k_is_400 : (Int16.ofInt 400).toInt32 = 400 := by decide +kernel
theorem k_is_1000 : (Int16.ofInt 1000).toInt32 = 1000 := by decide +kernel
theorem k_is_1024 : (Int16.ofInt 1024).toInt32 = 1024 := by decide +kernel
theorem k_is_2000 : (Int16.ofInt 2000).toInt32 = 2000 := by decide +kernel
theorem k_is_5000 : (Int16.ofInt 5000).toInt32 = 5000 := by decide +kernel
theorem k_is_9999 : (Int16.ofInt 9999).toInt32 = 9999 := by decide +kernel
theorem k_is_10000 : (Int16.ofInt 10000).toInt32 = 10000 := by decide +kernel
theorem k_is_20000 : (Int16.ofInt 20000).toInt32 = 20000 := by decide +kernel
theorem k_lc_0 : Int64.ofNat ((0 : Fin 2) : Nat) = 0 := by decide +kernel
theorem k_lc_1 : Int64.ofNat ((1 : Fin 2) : Nat) = 1 := by decide +kernel
theorem k_ln_3 : Int32.ofNat 3 = 3 := by decide +kernel
theorem k_ln_4 : Int32.ofNat 4 = 4 := by decide +kernel
theorem k_ln_6 : Int32.ofNat 6 = 6 := by decide +kernel
theorem k_ln_8 : Int32.ofNat 8 = 8 := by decide +kernel
theorem k_ln_16 : Int32.ofNat 16 = 16 := by decide +kernel
theorem k_ln_24 : Int32.ofNat 24 = 24 := by decide +kernel
theorem k_ln_32 : Int32.ofNat 32 = 32 := by decide +kernel
theorem k_ln_40 : Int32.ofNat 40 = 40 := by decide +kernel
theorem k_ln_50 : Int32.ofNat 50 = 50 := by decide +kernel
theorem k_ln_120 : Int32.ofNat 120 = 120 := by decide +kernel
theorem k_ln_128 : Int32.ofNat 128 = 128 := by decide +kernel
theorem k_ln_160 : Int32.ofNat 160 = 160 := by decide +kernel
theorem k_ln_360 : Int32.ofNat 360 = 360 := by decide +kernel
theorem k_nz_4 : ¬ (4 : Int32) = 0 := by decide +kernel
theorem k_nz_10 : ¬ (10 : Int32) = 0 := by decide +kernel
theorem k_nz_100 : ¬ (100 : Int32) = 0 := by decide +kernel
