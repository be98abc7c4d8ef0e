/-- the state behind the two constructors -/
def z_u0 : k_S := (fun i => if i = 10 then (-1) else if i = 1205 then 7 else if i = 1206 then (-1) else if i = 4210 then 7 else 0, fun c => if c = 39 then (upd (upd (upd (upd (upd (upd (fun _ => 0) 0 (-1)) 1 (-1)) 2 (-1)) 3 (-1)) 4 (-1)) 5 (-1)) else if c = 63 then (upd (upd (upd (fun _ => 0) 0 119) 1 115) 2 49) else if c = 66 then (upd (upd (upd (upd (fun _ => 0) 0 119) 1 115) 2 102) 3 49) else if c = 72 then (upd (upd (upd (upd (upd (upd (fun _ => 0) 0 (-1)) 1 (-1)) 2 (-1)) 3 (-1)) 4 (-1)) 5 (-1)) else fun _ => 0, fun _ _ => 0)
def x_layW : List k_C := [.inl (11, [some 1, some 3, some 7, some 12, some 20, some 24, some 27, some 30, some 35, some 38, none]), .inl (9, [some 2, none]), .inr (.int, 120, false), .inl (10, [some 4, some 5, some 6, none]), .inr (.int, 160, false), .inr (.int, 4, false), .inr (.int, 4, false), .inl (3, [some 10, some 8, some 9, none, none, none]), .inr (.int, 128, false), .inr (.int, 128, false), .inl (4, [some 1, some 11, none, none]), .inr (.int, 128, false), .inl (6, [some 3, some 7, some 14, some 17, some 13, none, none]), .inr (.int, 40, false), .inl (5, [some 15, some 16, none]), .inr (.int, 4, false), .inr (.int, 4, false), .inl (5, [some 18, some 19, none]), .inr (.int, 4, false), .inr (.int, 4, false), .inl (7, [some 21, some 22, some 23, none]), .inr (.int, 40, false), .inr (.int, 40, false), .inr (.int, 40, false), .inl (2, [some 3, some 12, some 20, some 25, some 26, none, none, none]), .inr (.int, 40, false), .inr (.int, 16, false), .inl (5, [some 28, some 29, none]), .inr (.int, 4, false), .inr (.int, 4, false), .inl (1, [some 31, some 32, some 33, some 34, none, none]), .inr (.int, 40, false), .inr (.int, 40, false), .inr (.int, 40, false), .inr (.int, 40, false), .inl (0, [some 36, some 37, none, none, none]), .inr (.int, 50, false), .inr (.int, 24, false), .inl (8, [some 39, some 40, some 41]), .inr (.int, 6, false), .inr (.int, 6, false), .inr (.long, 360, true)]
def x_layM : List k_C := [.inl (12, [none, some 43, none, none, some 44, some 45, some 46, some 47, some 48, none, none, none, none, none, none, none, some 49, some 50, some 51, some 52, some 53, some 54, some 55, none, none, none, some 56, some 57, some 58, some 59, none, some 60, some 61, some 62, some 63, none, some 64, some 65, some 66, some 67, none, none, none, some 68, some 69, none, some 70, none, some 71, some 72, some 73, some 74, some 75]), .inr (.byte, 120, false), .inr (.int, 160, false), .inr (.int, 4, false), .inr (.int, 4, false), .inr (.int, 4, false), .inr (.int, 4, false), .inr (.byte, 260, false), .inr (.int, 260, false), .inr (.int, 2, false), .inr (.short, 122, false), .inr (.short, 122, false), .inr (.int, 4, false), .inr (.int, 130, false), .inr (.int, 40, false), .inr (.int, 40, false), .inr (.int, 40, false), .inr (.int, 40, false), .inr (.int, 4, false), .inr (.int, 4, false), .inr (.boolean, 40, false), .inr (.int, 3, false), .inr (.int, 40, false), .inr (.int, 40, false), .inr (.int, 4, false), .inr (.int, 44, false), .inr (.int, 4, false), .inr (.int, 4, false), .inr (.int, 50, false), .inr (.int, 24, false), .inr (.int, 6, false), .inr (.int, 6, false), .inr (.long, 360, true), .inr (.long, 60, true)]
theorem x_lay : k_lay = x_layW ++ x_layM := rfl
def x_g (l : Launch) (D : va_G) (ad : Nat → Nat) (ca : Nat → ClassId) : k_G := (l, 0, ad, ca, D, 0, fun _ => 0)
theorem x_pts {D : va_G} {cl : List vw_C} {H : Heap} {g : k_G} {u : k_S} {k0 : Nat} {cs : List k_C} (h : ∀ (i : Nat) (c : k_C), cs[i]? = some c → va_at D cl (k_ad g (k0 + i), k_e g u (k0 + i) c) H) : va_P D cl (k_w g u k0 cs) H := by
  intro k q hq
  rw [k_w_get] at hq
  cases hc : cs[k]? with
  | none => rw [hc] at hq; cases hq
  | some c =>
    rw [hc] at hq
    have e := Option.some.inj hq
    rw [← e]
    exact h k c hc
theorem x_mapD {A : Nat → Prop} {ws ws' : va_W} (h : va_D A ws) (e : ws.map (fun q => q.1) = ws'.map (fun q => q.1)) : va_D A ws' := by
  have key : ∀ (i : Nat) (q : Nat × va_E), ws'[i]? = some q → ∃ p, ws[i]? = some p ∧ p.1 = q.1 := by
    intro i q hq
    have h1 : (ws'.map (fun q => q.1))[i]? = some q.1 := by rw [List.getElem?_map, hq]; rfl
    rw [← e, List.getElem?_map] at h1
    cases hw : ws[i]? with
    | none => rw [hw] at h1; cases h1
    | some p => rw [hw] at h1; exact ⟨p, rfl, Option.some.inj h1⟩
  refine ⟨fun i j p q hp hq hh => ?_, fun k q hq => ?_⟩
  · obtain ⟨p', hp', e1⟩ := key i p hp
    obtain ⟨q', hq', e2⟩ := key j q hq
    exact h.1 i j p' q' hp' hq' (by rw [e1, e2]; exact hh)
  · obtain ⟨q', hq', e2⟩ := key k q hq
    rw [← e2]
    exact h.2 k q' hq'
theorem x_join {A0 : Nat → Prop} {D : va_G} {cl : List vw_C} {W1 w1 : va_W} {o : Nat × va_E} {H H1 : Heap} (hP : va_P D cl (W1 ++ [o]) H) (hD : va_D A0 (W1 ++ [o])) (hk : ∀ q : Nat, q < H.size → ¬ va_A [o] H.size q → H1[q]? = H[q]?) (hF : ∀ q, va_A [o] H.size q → A0 q) (hP1 : va_P D cl w1 H1) (hD1 : va_D (va_A [o] H.size) w1) : va_P D cl (W1 ++ w1) H1 ∧ va_D A0 (W1 ++ w1) := by
  have lft : ∀ (k : Nat) (q : Nat × va_E), W1[k]? = some q → (W1 ++ [o])[k]? = some q := fun k q hq => by
    rw [List.getElem?_append_left (List.getElem?_eq_some_iff.mp hq).1]; exact hq
  have hPW : va_P D cl W1 H := fun k q hk => hP k q (lft k q hk)
  have hDW : va_D A0 W1 := ⟨fun i j p q hp hq e => hD.1 i j p q (lft i p hp) (lft j q hq) e, fun k q hq => hD.2 k q (lft k q hq)⟩
  have apart : ∀ (k : Nat) (q : Nat × va_E), W1[k]? = some q → q.1 < H.size ∧ ¬ va_A [o] H.size q.1 := by
    intro k q hq
    have hl := (hPW k q hq).lt
    refine ⟨hl, fun h => ?_⟩
    rcases h with ⟨k2, e, h⟩ | h
    · cases k2 with
      | succ n => simp at h
      | zero =>
        have ho : o = (q.1, e) := by simpa using h
        have hlt := (List.getElem?_eq_some_iff.mp hq).1
        have := hD.1 k W1.length q o (lft k q hq) (by simp) (by rw [ho])
        omega
    · omega
  exact ⟨va_P.app (hPW.kept (fun k q hq => hk q.1 (apart k q hq).1 (apart k q hq).2)) hP1, va_D.app hDW (hD1.weaken (fun k q _ h => hF q.1 h)) (fun i j x y hx hy hxy => (apart i x hx).2 (by rw [hxy]; exact hD1.2 j y hy))⟩
theorem k_w_app (g : k_G) (u : k_S) : ∀ (a b : List k_C) (k0 : Nat), k_w g u k0 (a ++ b) = k_w g u k0 a ++ k_w g u (k0 + a.length) b
  | [], b, k0 => rfl
  | c :: r, b, k0 => by
    simp only [List.cons_append, k_w, List.length_cons]
    rw [k_w_app g u r b (k0 + 1), show k0 + 1 + r.length = k0 + (r.length + 1) by omega]
theorem k_tys_app (g : k_G) : ∀ (a b : List k_C) (k0 : Nat), k_tys g k0 (a ++ b) = k_tys g k0 a ++ k_tys g (k0 + a.length) b
  | [], b, k0 => rfl
  | .inl _ :: r, b, k0 => by
    simp only [List.cons_append, k_tys, List.length_cons]
    rw [k_tys_app g r b (k0 + 1), show k0 + 1 + r.length = k0 + (r.length + 1) by omega]
  | .inr _ :: r, b, k0 => by
    simp only [List.cons_append, k_tys, List.length_cons]
    rw [k_tys_app g r b (k0 + 1), show k0 + 1 + r.length = k0 + (r.length + 1) by omega]
/-- the cells of a stretch speak of the addresses of a stretch alone -/
def x_within (lo hi : Nat) (cs : List k_C) : Bool := cs.all (fun c => match c with | .inl (_, fs) => fs.all (fun f => match f with | some t => Nat.ble lo t && Nat.blt t hi | none => true) | .inr _ => true)
theorem k_fs_congr {g h : k_G} {u : k_S} {k lo hi : Nat} (ha : ∀ i, lo ≤ i → i < hi → k_ad g i = k_ad h i) : ∀ (fs : List (Option Nat)) (j : Nat), fs.all (fun f => match f with | some t => Nat.ble lo t && Nat.blt t hi | none => true) = true → k_fs g u k j fs = k_fs h u k j fs
  | [], j, _ => rfl
  | some t :: r, j, hw => by
    simp only [List.all_cons, Bool.and_eq_true] at hw
    simp only [k_fs]
    rw [ha t (Nat.le_of_ble_eq_true hw.1.1) (Nat.blt_eq.mp hw.1.2), k_fs_congr ha r (j + 1) hw.2]
  | none :: r, j, hw => by
    simp only [List.all_cons, Bool.and_eq_true] at hw
    simp only [k_fs]
    rw [k_fs_congr ha r (j + 1) hw.2]
theorem k_w_congr {g h : k_G} {u : k_S} {lo hi : Nat} (ha : ∀ i, lo ≤ i → i < hi → k_ad g i = k_ad h i) (hc : ∀ i, lo ≤ i → i < hi → k_ca g i = k_ca h i) : ∀ (cs : List k_C) (k0 : Nat), lo ≤ k0 → k0 + cs.length ≤ hi → x_within lo hi cs = true → k_w g u k0 cs = k_w h u k0 cs
  | [], k0, _, _, _ => rfl
  | c :: r, k0, h1, h2, hw => by
    simp only [x_within, List.all_cons, Bool.and_eq_true] at hw
    simp only [List.length_cons] at h2
    simp only [k_w]
    rw [ha k0 h1 (by omega), k_w_congr ha hc r (k0 + 1) (by omega) (by omega) hw.2]
    congr 2
    match c, hw with
    | .inl (ci, fs), hw => simp only [k_e]; rw [k_fs_congr ha fs 0 hw.1]
    | .inr (ty, n, false), hw => simp only [k_e]; rw [hc k0 h1 (by omega)]
    | .inr (ty, n, true), hw => simp only [k_e]; rw [hc k0 h1 (by omega)]
theorem k_tys_congr {g h : k_G} {lo hi : Nat} (hc : ∀ i, lo ≤ i → i < hi → k_ca g i = k_ca h i) : ∀ (cs : List k_C) (k0 : Nat), lo ≤ k0 → k0 + cs.length ≤ hi → k_tys g k0 cs = k_tys h k0 cs
  | [], k0, _, _ => rfl
  | .inl _ :: r, k0, h1, h2 => by
    simp only [List.length_cons] at h2
    simp only [k_tys]
    exact k_tys_congr hc r (k0 + 1) (by omega) (by omega)
  | .inr (ty, n, b) :: r, k0, h1, h2 => by
    simp only [List.length_cons] at h2
    simp only [k_tys]
    rw [hc k0 h1 (by omega), k_tys_congr hc r (k0 + 1) (by omega) (by omega)]
