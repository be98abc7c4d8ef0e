set_option maxRecDepth 100000 in
theorem k_go {p : Program} {e : Env} {s : State} {m : MethodId} {below : List Frame} {meth : Method} {c : Code} {b : Nat} (g : k_G) (C0 : lw_At p s m meth c b (k_sl g) (k_sx g)) (hz : k_z g = s.heap.size) (hb104 : k_ad g 104 = b) (hK : va_K (k_D g) vwCl (k_tys g 0 k_lay) s) (hO : k_O g s s.heap) (hZ : k_Zs g s s.heap) (hD : va_D (k_A g) (k_wd g z_u0)) (hNw : k_Nw s) {H : Heap} {locs : List Loc} (hP : va_P (k_D g) vwCl (k_wd g z_u0) H) (hS : va_S (k_A g) s.heap H locs) {ls : Array Slot} (hl : lv_has ls 4 [(3, .int 0), (2, .ref (k_ad g 42)), (1, .ref (k_ad g 0)), (0, .ref b)]) {cells slots : Nat} (h3 : cells ≤ room_1.cells) (h4 : slots ≤ room_1.slots)
    (hsat : k_sat (k_itr (fun (x : (Int32)) u => f_law_B18 (k_sl g) (k_sx g) x u) k_FU 0 z_u0) (fun y _ => y = .inr ())) : W p g.1 e room_1 s m #[Value.ref b] below meth c H locs cells slots (lw_Z below #[Value.ref b] s) (F0 m 18 ls []) := by
  obtain ⟨hx, hb, hr, hml, hown, hts0, hX, hbl, hlocks, hgv⟩ := C0
  have hts : ∀ w ∈ k_tbl, w.before #[Value.ref b] s = true := fun w hw => hts0 w (List.mem_filter.mp hw).1
  have hend : ∀ (u : k_S), k_W g 68 ML_law 1374 [] [] u (fun r _ => r = some (.int 1)) := by
    intro u
    refine s_const 1 58 10 rfl k_ic_1 ?_
    exact s_zret 58 11 rfl rfl k_z1 rfl
  have hw := l_law_B18 g (Q := fun r _ => r = some (.int 1)) (K := fun y _ => y = .inr ()) (fun r u' h => by cases h) (fun y u' h => hend u') k_FU 0 z_u0 hsat
  subst hb104
  refine hw p e room_1 s m #[Value.ref (k_ad g 104)] below meth c H locs cells slots ls _ ⟨hx, hb, hml, hown, hts, hK, hO, hZ, k_apart_of hD, k_tab_of ML_law_dec, hNw⟩ (Nat.le_of_ble_eq_true rfl) (Nat.le_of_ble_eq_true rfl) h3 h4 hP hS (k_has_sub hl (fun q hq => ?_)) ?_
  · simp only [List.map_cons, List.map_nil, List.mem_cons, List.not_mem_nil, or_false] at hq ⊢
    rcases hq with rfl | rfl | rfl | rfl
    · exact Or.inr (Or.inr (Or.inr rfl))
    · exact Or.inr (Or.inr (Or.inl rfl))
    · exact Or.inr (Or.inl rfl)
    · exact Or.inl rfl
  · intro r u H1 locs1 pc ls1 hq hP1 hS1 hri
    subst hq
    refine va_forget (fun q hq => by have := hS1.2.2 q hq; rw [← hz]; exact this) ?_
    refine W.widen h3 h4 ?_
    exact lw_ret hx hb hr hlocks hri.1

