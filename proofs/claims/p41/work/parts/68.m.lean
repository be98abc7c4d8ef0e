/-! JUDGED: the first record that is wrong -/
def z_mn (n : Nat) (g : Nat → Prop) (y : Int32) : Prop := (y = -2 ∧ ∀ r, r < n → ¬ g r) ∨ (∃ m, m < n ∧ g m ∧ y = J m ∧ ∀ r, r < n → g r → m ≤ r)
theorem z_mn_u {n : Nat} {g g' : Nat → Prop} {y y' : Int32} (h : z_mn n g y) (h' : z_mn n g' y') (e : ∀ r, r < n → (g r ↔ g' r)) : y = y' := by
  rcases h with ⟨rfl, a⟩ | ⟨m, a1, a2, rfl, a3⟩ <;> rcases h' with ⟨rfl, b⟩ | ⟨m', b1, b2, rfl, b3⟩
  · rfl
  · exact absurd ((e m' b1).mpr b2) (a m' b1)
  · exact absurd ((e m a1).mp a2) (b m a1)
  · have h1 := a3 m' b1 ((e m' b1).mpr b2)
    have h2 := b3 m a1 ((e m a1).mp a2)
    rw [show m = m' by omega]
theorem z_mn_c {n : Nat} {g g' : Nat → Prop} {y : Int32} (h : z_mn n g y) (e : ∀ r, r < n → (g r ↔ g' r)) : z_mn n g' y := by
  rcases h with ⟨rfl, a⟩ | ⟨m, a1, a2, rfl, a3⟩
  · exact Or.inl ⟨rfl, fun r hr q => a r hr ((e r hr).mpr q)⟩
  · exact Or.inr ⟨m, a1, (e m a1).mp a2, rfl, fun r hr q => a3 r hr ((e r hr).mpr q)⟩
theorem z_mn_a {n r0 : Nat} {g : Nat → Prop} {y : Int32} (hn : n ≤ 40) (h : z_mn n g y) (hr : r0 < n) : (y < 0 → y = -2 ∧ z_mn n (fun r => g r ∨ r = r0) (J r0)) ∧ (¬ y < 0 → ¬ y = -2 ∧ (y ≤ J r0 → z_mn n (fun r => g r ∨ r = r0) y) ∧ (¬ y ≤ J r0 → z_mn n (fun r => g r ∨ r = r0) (J r0))) := by
  rcases h with ⟨rfl, a⟩ | ⟨m, a1, a2, rfl, a3⟩
  · refine ⟨fun _ => ⟨rfl, Or.inr ⟨r0, hr, Or.inr rfl, rfl, fun r h1 h2 => ?_⟩⟩, fun q => absurd (by decide) q⟩
    rcases h2 with h2 | h2
    · exact absurd h2 (a r h1)
    · omega
  · refine ⟨fun q => absurd q (by (try simp (disch := omega) only [Int32.lt_iff_toInt_lt, Int32.le_iff_toInt_le, ← Int32.toInt_inj, Int32.toInt_add, Int32.toInt_sub, Int32.toInt_mul, Int32.toInt_neg, z_bm, z_bm2, J_ti, J_toInt, z_cn, Int32.reduceToInt]) <;> omega), fun _ => ⟨by (try simp (disch := omega) only [Int32.lt_iff_toInt_lt, Int32.le_iff_toInt_le, ← Int32.toInt_inj, Int32.toInt_add, Int32.toInt_sub, Int32.toInt_mul, Int32.toInt_neg, z_bm, z_bm2, J_ti, J_toInt, z_cn, Int32.reduceToInt]) <;> omega, fun q => ?_, fun q => ?_⟩⟩
    · have : m ≤ r0 := by ((try simp (disch := omega) only [Int32.lt_iff_toInt_lt, Int32.le_iff_toInt_le, ← Int32.toInt_inj, Int32.toInt_add, Int32.toInt_sub, Int32.toInt_mul, Int32.toInt_neg, z_bm, z_bm2, J_ti, J_toInt, z_cn, Int32.reduceToInt] at *); omega)
      refine Or.inr ⟨m, a1, Or.inl a2, rfl, fun r h1 h2 => ?_⟩
      rcases h2 with h2 | h2
      · exact a3 r h1 h2
      · omega
    · have : r0 < m := by ((try simp (disch := omega) only [Int32.lt_iff_toInt_lt, Int32.le_iff_toInt_le, ← Int32.toInt_inj, Int32.toInt_add, Int32.toInt_sub, Int32.toInt_mul, Int32.toInt_neg, z_bm, z_bm2, J_ti, J_toInt, z_cn, Int32.reduceToInt] at *); omega)
      refine Or.inr ⟨r0, hr, Or.inr rfl, rfl, fun r h1 h2 => ?_⟩
      rcases h2 with h2 | h2
      · have := a3 r h1 h2; omega
      · omega
/-- records: how many, nights, places; t the night now -/
def z_RC (c1 c2 : Nat) (nr : Nat) (A B : Nat → Nat) (u : k_S) : Prop := ∀ r, r < nr → A r ≤ 5000 ∧ B r < 40 ∧ u.2.1 c1 r = J (A r) ∧ u.2.1 c2 r = J (B r)
def z_bad (E : z_E) (u : k_S) (t : Nat) (A B : Nat → Nat) (r : Nat) : Prop := t ≤ A r ∧ ¬ z_pl E u 0 (A r - t) = J (B r)
theorem z_firstW {E : z_E} {u : k_S} {t nr : Nat} {A B f : Nat → Nat} (hE : z_eW E u) (h0 : 0 < E.1) (ht : t ≤ 1000000) (t1 : u.1 1402 = J t) (hnr : nr ≤ 40) (e20 : u.1 2003 = J nr) (hRC : z_RC 21 22 nr A B u) (hf : ∀ i, i < nr → f i < nr ∧ u.2.1 23 i = J (f i)) (hsu : ∀ r, r < nr → ∃ i, i < nr ∧ f i = r) (hso : ∀ i j, i < j → j < nr → A (f i) ≤ A (f j)) (fl : Int32) (hfl : fl = 0 ∨ fl = 1) : k_sat (f_Judging_firstWrong fl u) (fun r v => z_fr [1702, 1206, 704] [18, 19, 9, 13] u v ∧ (fl = 0 → z_mn nr (z_bad E u t A B) r) ∧ (fl = 1 → (r = -2 ↔ ∀ r', r' < nr → ¬ z_bad E u t A B r') ∧ (r = -2 ∨ ∃ r', r' < nr ∧ r = J r'))) := by
  have tR : u.1 4209 = J t := by rw [← t1]; exact hE.2.2.1.symm
  unfold f_Judging_firstWrong
  refine z_bind _ (z_Wt_w hE) (fun _ u1 h1 => z_bind _ (z_for2 0 nr (-2) (fun i y v => ∃ d, z_Wt E 1 u d v ∧ d ≤ 5000 ∧ (d = 0 ∨ ∃ i', i' < i ∧ t + d = A (f i')) ∧ z_mn nr (fun r => z_bad E u t A B r ∧ ∃ j, j < i ∧ f j = r) y ∧ (fl = 1 → y = -2)) (K := fun y v => z_fr [1702, 1206, 704] [18, 19, 9, 13] u v ∧ ((∃ r', r' < nr ∧ y = .inl (J r') ∧ fl = 1 ∧ z_bad E u t A B r') ∨ ∃ x, y = .inr x ∧ z_mn nr (z_bad E u t A B) x ∧ (fl = 1 → x = -2))) (by omega) (Nat.zero_le nr) ⟨0, h1.le (by omega), by omega, Or.inl rfl, Or.inl ⟨rfl, fun r hr q => by obtain ⟨-, j, hj, -⟩ := q; omega⟩, fun _ => rfl⟩ (fun i y v _ hi hp => ?_) (fun y v hp => ?_)) (fun y v hv => ?_))
  · obtain ⟨d, g1, gd, g2, g3, g4⟩ := hp
    have hnight : v.1 1702 = J (t + d) := by
      have : v.1 1702 = (z_or E 4 d (z_moR u)).1 := g1.2.2.1
      rw [this]
      clear g3
      have key : ∀ j, (z_or E 4 j (z_moR u)).1 = J t + J j := by
        intro j
        induction j with
        | zero => show u.1 4209 = _; rw [tR, J_0, Int32.add_zero]
        | succ j ih => show (z_nx E 4 (z_or E 4 j (z_moR u))).1 = _; rw [show (z_nx E 4 (z_or E 4 j (z_moR u))).1 = (z_or E 4 j (z_moR u)).1 + 1 from (z_pu_lo E 4 0 _).1, ih, Int32.add_assoc, z_Jp]
      rw [key, J_add]
    obtain ⟨hfi, e23⟩ := hf i hi
    obtain ⟨r1, r2, r3, r4⟩ := hRC (f i) hfi
    have e2003 : v.1 2003 = J nr := (g1.1.1 2003 rfl).trans e20
    unfold f_Judging_firstWrong_B21
    dsimp only
    refine z_neg (by rw [e2003]; (try simp (disch := omega) only [Int32.lt_iff_toInt_lt, Int32.le_iff_toInt_le, ← Int32.toInt_inj, Int32.toInt_add, Int32.toInt_sub, Int32.toInt_mul, Int32.toInt_neg, z_bm, z_bm2, J_ti, J_toInt, z_cn, Int32.reduceToInt]) <;> omega) ?_
    rw [z_Records_inOrder (by omega), z_bind_some, g1.1.2.1 23 rfl, e23, z_Records_nightOf (by omega), z_bind_some, g1.1.2.1 21 rfl, r3, hnight]
    have sub : ∀ {y' : Int32} {g : Nat → Prop}, z_mn nr g y' → (∀ r, r < nr → (g r ↔ (z_bad E u t A B r ∧ ∃ j, j < i + 1 ∧ f j = r))) → z_mn nr (fun r => z_bad E u t A B r ∧ ∃ j, j < i + 1 ∧ f j = r) y' := fun h e => z_mn_c h e
    by_cases hle : t + d ≤ A (f i)
    · refine z_pos (by (try simp (disch := omega) only [Int32.lt_iff_toInt_lt, Int32.le_iff_toInt_le, ← Int32.toInt_inj, Int32.toInt_add, Int32.toInt_sub, Int32.toInt_mul, Int32.toInt_neg, z_bm, z_bm2, J_ti, J_toInt, z_cn, Int32.reduceToInt]) <;> omega) ?_
      rw [J_sub hle]
      refine z_bind _ (z_Wt_n (K := 1) hE.1 (by omega) (by omega) g1) (fun _ v' hv' => ?_)
      rw [show d + (A (f i) - (t + d)) = A (f i) - t by omega] at hv'
      rw [show (0 : Int32) = J 0 from rfl, z_Wt_p hv' (by omega) (by omega), z_bind_some, z_Records_placeOf (by omega), z_bind_some, hv'.1.2.1 22 rfl, r4]
      have hd' : A (f i) - t = 0 ∨ ∃ i', i' < i + 1 ∧ t + (A (f i) - t) = A (f i') := Or.inr ⟨i, by omega, by omega⟩
      refine z_ite (fun q => k_sat_mk (Or.inl ⟨_, rfl, A (f i) - t, hv', by omega, hd', sub g3 (fun r hr => ?_), g4⟩)) (fun q => ?_)
      · constructor
        · rintro ⟨b1, j, hj, rfl⟩
          exact ⟨b1, j, by omega, rfl⟩
        · rintro ⟨b1, j, hj, rfl⟩
          by_cases e : j = i
          · subst e; exact absurd q b1.2
          · exact ⟨b1, j, by omega, rfl⟩
      · have hb : z_bad E u t A B (f i) := ⟨by omega, q⟩
        rw [show J 0 = (0 : Int32) from rfl]
        have hadd := z_mn_a (r0 := f i) hnr g3 hfi
        have eqv : ∀ r, r < nr → (((z_bad E u t A B r ∧ ∃ j, j < i ∧ f j = r) ∨ r = f i) ↔ (z_bad E u t A B r ∧ ∃ j, j < i + 1 ∧ f j = r)) := by
          intro r hr
          constructor
          · rintro (⟨b1, j, hj, rfl⟩ | rfl)
            · exact ⟨b1, j, by omega, rfl⟩
            · exact ⟨hb, i, by omega, rfl⟩
          · rintro ⟨b1, j, hj, rfl⟩
            by_cases e : j = i
            · subst e; exact Or.inr rfl
            · exact Or.inl ⟨b1, j, by omega, rfl⟩
        rcases hfl with rfl | rfl
        · refine z_pos rfl ?_
          by_cases q2 : y < 0
          · obtain ⟨e2, e3⟩ := hadd.1 q2
            exact z_pos e2 (k_sat_mk (Or.inl ⟨_, rfl, _, hv', by omega, hd', sub e3 eqv, fun q => absurd q (by decide)⟩))
          · obtain ⟨e2, e3, e4⟩ := hadd.2 q2
            refine z_neg e2 (z_ite (fun q3 => k_sat_mk (Or.inl ⟨_, rfl, _, hv', by omega, hd', sub (e3 q3) eqv, fun q => absurd q (by decide)⟩)) (fun q3 => k_sat_mk (Or.inl ⟨_, rfl, _, hv', by omega, hd', sub (e4 q3) eqv, fun q => absurd q (by decide)⟩)))
        · exact z_neg (by decide) (k_sat_mk (Or.inr ⟨_, rfl, hv'.1, Or.inl ⟨f i, hfi, rfl, rfl, hb⟩⟩))
    · have hd0 : d = 0 := by
        rcases g2 with g2 | ⟨i', a, b⟩
        · exact g2
        · have := hso i' i a hi; omega
      refine z_neg (by (try simp (disch := omega) only [Int32.lt_iff_toInt_lt, Int32.le_iff_toInt_le, ← Int32.toInt_inj, Int32.toInt_add, Int32.toInt_sub, Int32.toInt_mul, Int32.toInt_neg, z_bm, z_bm2, J_ti, J_toInt, z_cn, Int32.reduceToInt]) <;> omega) (k_sat_mk (Or.inl ⟨_, rfl, d, g1, gd, ?_, sub g3 (fun r hr => ?_), g4⟩))
      · exact Or.inl hd0
      · constructor
        · rintro ⟨b1, j, hj, rfl⟩
          exact ⟨b1, j, by omega, rfl⟩
        · rintro ⟨b1, j, hj, rfl⟩
          by_cases e : j = i
          · subst e; have := b1.1; omega
          · exact ⟨b1, j, by omega, rfl⟩
  · obtain ⟨d, g1, gd, g2, g3, g4⟩ := hp
    have e2003 : v.1 2003 = J nr := (g1.1.1 2003 rfl).trans e20
    unfold f_Judging_firstWrong_B21
    dsimp only
    refine z_pos (by rw [e2003]; exact Int32.le_refl _) (k_sat_mk ⟨_, rfl, g1.1, Or.inr ⟨_, rfl, z_mn_c g3 (fun r hr => ⟨fun q => q.1, fun q => ⟨q, ?_⟩⟩), g4⟩⟩)
    obtain ⟨i, a, b⟩ := hsu r hr
    exact ⟨i, a, b⟩
  · obtain ⟨g1, ⟨r', a1, rfl, rfl, a2⟩ | ⟨x, rfl, a1, a2⟩⟩ := hv
    · refine k_sat_mk ⟨g1, fun q => absurd q (by decide), fun _ => ⟨⟨fun q => absurd q (by (try simp (disch := omega) only [Int32.lt_iff_toInt_lt, Int32.le_iff_toInt_le, ← Int32.toInt_inj, Int32.toInt_add, Int32.toInt_sub, Int32.toInt_mul, Int32.toInt_neg, z_bm, z_bm2, J_ti, J_toInt, z_cn, Int32.reduceToInt]) <;> omega), fun q => absurd a2 (q r' a1)⟩, Or.inr ⟨r', a1, rfl⟩⟩⟩
    · refine k_sat_mk ⟨g1, fun _ => a1, fun q => ⟨⟨fun _ => ?_, fun _ => a2 q⟩, Or.inl (a2 q)⟩⟩
      rcases a1 with ⟨-, b⟩ | ⟨m, b1, b2, b3, -⟩
      · exact b
      · rw [a2 q] at b3
        exact absurd b3.symm (by (try simp (disch := omega) only [Int32.lt_iff_toInt_lt, Int32.le_iff_toInt_le, ← Int32.toInt_inj, Int32.toInt_add, Int32.toInt_sub, Int32.toInt_mul, Int32.toInt_neg, z_bm, z_bm2, J_ti, J_toInt, z_cn, Int32.reduceToInt]) <;> omega)
theorem z_firstR {E : z_E} {u : k_S} {t nr : Nat} {A B : Nat → Nat} (hE : z_ER E u) (hok : z_ok E (z_moR u)) (h0 : 0 < E.1) (ht : t ≤ 1000000) (t2 : u.1 4209 = J t) (hnr : nr ≤ 40) (e42 : u.1 4235 = J nr) (hRC : z_RC 64 65 nr A B u) : k_sat (f_R_firstWrong u) (fun r v => z_fr [4230] [54, 55, 60, 61, 62] u v ∧ z_mn nr (z_bad E u t A B) r) := by
  unfold f_R_firstWrong
  rw [t2]
  refine z_let (z_bind (fun y v => v = u ∧ ∃ l : Nat, l ≤ 1005001 ∧ y = J l - 1 ∧ t ≤ l ∧ ∀ r, r < nr → A r < l) (z_for2 0 nr (J t - 1) (fun i y v => v = u ∧ ∃ l : Nat, l ≤ 1005001 ∧ y = J l - 1 ∧ t ≤ l ∧ ∀ r, r < i → A r < l) (by omega) (Nat.zero_le nr) ⟨rfl, t, by omega, rfl, Nat.le_refl t, fun r hr => by omega⟩ (fun i y v _ hi hp => ?_) (fun y v hp => ?_)) (fun y v hv => ?_))
  · obtain ⟨rfl, l, l1, rfl, l2, l3⟩ := hp
    obtain ⟨r1, r2, r3, r4⟩ := hRC i hi
    unfold f_R_firstWrong_B9
    dsimp only
    refine z_neg (by rw [e42]; (try simp (disch := omega) only [Int32.lt_iff_toInt_lt, Int32.le_iff_toInt_le, ← Int32.toInt_inj, Int32.toInt_add, Int32.toInt_sub, Int32.toInt_mul, Int32.toInt_neg, z_bm, z_bm2, J_ti, J_toInt, z_cn, Int32.reduceToInt]) <;> omega) (z_ck (by (try simp (disch := omega) only [Int32.lt_iff_toInt_lt, Int32.le_iff_toInt_le, ← Int32.toInt_inj, Int32.toInt_add, Int32.toInt_sub, Int32.toInt_mul, Int32.toInt_neg, z_bm, z_bm2, J_ti, J_toInt, z_cn, Int32.reduceToInt]) <;> omega) (by (try simp (disch := omega) only [Int32.lt_iff_toInt_lt, Int32.le_iff_toInt_le, ← Int32.toInt_inj, Int32.toInt_add, Int32.toInt_sub, Int32.toInt_mul, Int32.toInt_neg, z_bm, z_bm2, J_ti, J_toInt, z_cn, Int32.reduceToInt]) <;> omega) ?_)
    rw [J_toNat (by omega), r3]
    refine z_ite (fun q => k_sat_mk (Or.inl ⟨_, rfl, rfl, l, l1, rfl, l2, fun r hr => ?_⟩)) (fun q => z_ck (by (try simp (disch := omega) only [Int32.lt_iff_toInt_lt, Int32.le_iff_toInt_le, ← Int32.toInt_inj, Int32.toInt_add, Int32.toInt_sub, Int32.toInt_mul, Int32.toInt_neg, z_bm, z_bm2, J_ti, J_toInt, z_cn, Int32.reduceToInt]) <;> omega) (by (try simp (disch := omega) only [Int32.lt_iff_toInt_lt, Int32.le_iff_toInt_le, ← Int32.toInt_inj, Int32.toInt_add, Int32.toInt_sub, Int32.toInt_mul, Int32.toInt_neg, z_bm, z_bm2, J_ti, J_toInt, z_cn, Int32.reduceToInt]) <;> omega) (z_let (k_sat_mk (Or.inl ⟨_, rfl, rfl, A i + 1, by omega, by rw [z_Jm], ?_, fun r hr => ?_⟩))))
    · by_cases e : r = i
      · rw [e]; ((try simp (disch := omega) only [Int32.lt_iff_toInt_lt, Int32.le_iff_toInt_le, ← Int32.toInt_inj, Int32.toInt_add, Int32.toInt_sub, Int32.toInt_mul, Int32.toInt_neg, z_bm, z_bm2, J_ti, J_toInt, z_cn, Int32.reduceToInt] at *); omega)
      · exact l3 r (by omega)
    · have : l ≤ A i + 1 := by ((try simp (disch := omega) only [Int32.lt_iff_toInt_lt, Int32.le_iff_toInt_le, ← Int32.toInt_inj, Int32.toInt_add, Int32.toInt_sub, Int32.toInt_mul, Int32.toInt_neg, z_bm, z_bm2, J_ti, J_toInt, z_cn, Int32.reduceToInt] at *); omega)
      omega
    · by_cases e : r = i
      · rw [e]; omega
      · have := l3 r (by omega)
        have : l ≤ A i + 1 := by ((try simp (disch := omega) only [Int32.lt_iff_toInt_lt, Int32.le_iff_toInt_le, ← Int32.toInt_inj, Int32.toInt_add, Int32.toInt_sub, Int32.toInt_mul, Int32.toInt_neg, z_bm, z_bm2, J_ti, J_toInt, z_cn, Int32.reduceToInt] at *); omega)
        omega
  · obtain ⟨rfl, hp⟩ := hp
    unfold f_R_firstWrong_B9
    exact z_pos (by rw [e42]; exact Int32.le_refl _) (k_sat_mk ⟨_, rfl, rfl, hp⟩)
  · obtain ⟨rfl, l, l1, rfl, l2, l3⟩ := hv
    refine z_bind _ (z_Rt_0 E v) (fun _ u1 h1 => z_bind (fun y w => (∃ i, z_Rt E v i w) ∧ z_mn nr (z_bad E v t A B) y) ?_ (fun y w hw => ?_))
    · refine z_itr (P := fun m y w => ∃ i, t + i ≤ l ∧ m = l - (t + i) ∧ z_Rt E v i w ∧ z_mn nr (fun r => z_bad E v t A B r ∧ A r < t + i) y) (fun m y w h => ?_) k_FU (l - t) (-2) u1 (by unfold k_FU; omega) ⟨0, by omega, rfl, h1, Or.inl ⟨rfl, fun r hr q => by have := q.1.1; omega⟩⟩
      obtain ⟨i, hi, rfl, g1, g2⟩ := h
      have hnight : w.1 4209 = J (t + i) := by
        have : w.1 4209 = (z_or E 4 i (z_moR v)).1 := by rw [← g1.2.1]; rfl
        rw [this, (z_or_ok hok i).2]
        show v.1 4209 + J i = _
        rw [t2, J_add]
      unfold f_R_firstWrong_B47
      rw [hnight]
      by_cases hend : t + i = l
      · subst hend
        refine z_pos ?_ (k_sat_mk (Or.inr ⟨_, rfl, ⟨i, g1⟩, z_mn_c g2 (fun r hr => ⟨fun q => q.1, fun q => ⟨q, l3 r hr⟩⟩)⟩))
        by_cases hz : t + i = 0
        · rw [hz]; decide
        · rw [z_Jm' (by omega)]; (try simp (disch := omega) only [Int32.lt_iff_toInt_lt, Int32.le_iff_toInt_le, ← Int32.toInt_inj, Int32.toInt_add, Int32.toInt_sub, Int32.toInt_mul, Int32.toInt_neg, z_bm, z_bm2, J_ti, J_toInt, z_cn, Int32.reduceToInt]) <;> omega
      · refine z_neg (by rw [z_Jm' (show 0 < l by omega)]; (try simp (disch := omega) only [Int32.lt_iff_toInt_lt, Int32.le_iff_toInt_le, ← Int32.toInt_inj, Int32.toInt_add, Int32.toInt_sub, Int32.toInt_mul, Int32.toInt_neg, z_bm, z_bm2, J_ti, J_toInt, z_cn, Int32.reduceToInt]) <;> omega) ?_
        refine z_bind _ (z_for2 0 nr y (fun r0 y' w' => w' = w ∧ z_mn nr (fun r => z_bad E v t A B r ∧ (A r < t + i ∨ (A r = t + i ∧ r < r0))) y') (K := fun y' w' => w' = w ∧ z_mn nr (fun r => z_bad E v t A B r ∧ A r < t + (i + 1)) y') (by omega) (Nat.zero_le nr) ⟨rfl, z_mn_c g2 (fun r hr => ⟨fun q => ⟨q.1, Or.inl q.2⟩, fun q => ⟨q.1, by rcases q.2 with x | x <;> omega⟩⟩)⟩ (fun r0 y' w' _ hr0 hp => ?_) (fun y' w' hp => ?_)) (fun y' w' hw' => ?_)
        · obtain ⟨rfl, hp⟩ := hp
          obtain ⟨r1, r2, r3, r4⟩ := hRC r0 hr0
          unfold f_R_firstWrong_B57
          dsimp only
          have e1 : w'.1 4235 = J nr := (g1.1.1 4235 rfl).trans e42
          have e64 : w'.2.1 64 r0 = J (A r0) := (congrFun (g1.1.2.1 64 rfl) r0).trans r3
          have e65 : w'.2.1 65 r0 = J (B r0) := (congrFun (g1.1.2.1 65 rfl) r0).trans r4
          rw [e1, J_toNat (show r0 < 2147483648 by omega), e64, e65, hnight, show (0 : Int32).toNatClampNeg = 0 from rfl, (z_Rt_p g1 0).1]
          refine z_neg (by (try simp (disch := omega) only [Int32.lt_iff_toInt_lt, Int32.le_iff_toInt_le, ← Int32.toInt_inj, Int32.toInt_add, Int32.toInt_sub, Int32.toInt_mul, Int32.toInt_neg, z_bm, z_bm2, J_ti, J_toInt, z_cn, Int32.reduceToInt]) <;> omega) (z_ck (by (try simp (disch := omega) only [Int32.lt_iff_toInt_lt, Int32.le_iff_toInt_le, ← Int32.toInt_inj, Int32.toInt_add, Int32.toInt_sub, Int32.toInt_mul, Int32.toInt_neg, z_bm, z_bm2, J_ti, J_toInt, z_cn, Int32.reduceToInt]) <;> omega) (by (try simp (disch := omega) only [Int32.lt_iff_toInt_lt, Int32.le_iff_toInt_le, ← Int32.toInt_inj, Int32.toInt_add, Int32.toInt_sub, Int32.toInt_mul, Int32.toInt_neg, z_bm, z_bm2, J_ti, J_toInt, z_cn, Int32.reduceToInt]) <;> omega) ?_)
          by_cases hA : A r0 = t + i
          · refine z_pos (by rw [hA]) (z_ck (by (try simp (disch := omega) only [Int32.lt_iff_toInt_lt, Int32.le_iff_toInt_le, ← Int32.toInt_inj, Int32.toInt_add, Int32.toInt_sub, Int32.toInt_mul, Int32.toInt_neg, z_bm, z_bm2, J_ti, J_toInt, z_cn, Int32.reduceToInt]) <;> omega) (by (try simp (disch := omega) only [Int32.lt_iff_toInt_lt, Int32.le_iff_toInt_le, ← Int32.toInt_inj, Int32.toInt_add, Int32.toInt_sub, Int32.toInt_mul, Int32.toInt_neg, z_bm, z_bm2, J_ti, J_toInt, z_cn, Int32.reduceToInt]) <;> omega) (z_ck (by decide) (by decide) ?_))
            have hi2 : A r0 - t = i := by omega
            by_cases q : J (B r0) = z_pl E v 0 i
            · refine z_pos q (k_sat_mk (Or.inl ⟨_, rfl, rfl, z_mn_c hp (fun r hr => ⟨fun x => ⟨x.1, by rcases x.2 with y | y <;> omega⟩, fun x => ⟨x.1, ?_⟩⟩)⟩))
              rcases x.2 with y | y
              · exact Or.inl y
              · by_cases e : r = r0
                · subst e; exact absurd (by rw [hi2]; exact q.symm) x.1.2
                · exact Or.inr ⟨y.1, by omega⟩
            · have hb : z_bad E v t A B r0 := ⟨by omega, by rw [hi2]; exact fun x => q x.symm⟩
              have hadd := z_mn_a (r0 := r0) hnr hp hr0
              have eqv : ∀ r, r < nr → (((z_bad E v t A B r ∧ (A r < t + i ∨ (A r = t + i ∧ r < r0))) ∨ r = r0) ↔ (z_bad E v t A B r ∧ (A r < t + i ∨ (A r = t + i ∧ r < r0 + 1)))) := by
                intro r hr
                constructor
                · rintro (⟨x, y⟩ | rfl)
                  · exact ⟨x, by rcases y with y | y <;> omega⟩
                  · exact ⟨hb, Or.inr ⟨hA, by omega⟩⟩
                · rintro ⟨x, y⟩
                  by_cases e : r = r0
                  · exact Or.inr e
                  · exact Or.inl ⟨x, by rcases y with y | y <;> omega⟩
              refine z_neg q ?_
              by_cases q2 : y' < 0
              · exact z_pos q2 (k_sat_mk (Or.inl ⟨_, rfl, rfl, z_mn_c (hadd.1 q2).2 eqv⟩))
              · obtain ⟨-, e3, e4⟩ := hadd.2 q2
                exact z_neg q2 (z_ite (fun q3 => k_sat_mk (Or.inl ⟨_, rfl, rfl, z_mn_c (e3 q3) eqv⟩)) (fun q3 => k_sat_mk (Or.inl ⟨_, rfl, rfl, z_mn_c (e4 q3) eqv⟩)))
          · refine z_neg (by (try simp (disch := omega) only [Int32.lt_iff_toInt_lt, Int32.le_iff_toInt_le, ← Int32.toInt_inj, Int32.toInt_add, Int32.toInt_sub, Int32.toInt_mul, Int32.toInt_neg, z_bm, z_bm2, J_ti, J_toInt, z_cn, Int32.reduceToInt]) <;> omega) (k_sat_mk (Or.inl ⟨_, rfl, rfl, z_mn_c hp (fun r hr => ⟨fun x => ⟨x.1, by rcases x.2 with y | y <;> omega⟩, fun x => ⟨x.1, ?_⟩⟩)⟩))
            rcases x.2 with y | y
            · exact Or.inl y
            · by_cases e : r = r0
              · subst e; omega
              · exact Or.inr ⟨y.1, by omega⟩
        · obtain ⟨rfl, hp⟩ := hp
          unfold f_R_firstWrong_B57
          have e1 : w'.1 4235 = J nr := (g1.1.1 4235 rfl).trans e42
          refine z_pos (by rw [e1]; exact Int32.le_refl _) (k_sat_mk ⟨_, rfl, rfl, z_mn_c hp (fun r hr => ⟨fun x => ⟨x.1, by rcases x.2 with y | y <;> omega⟩, fun x => ⟨x.1, by have := x.2; omega⟩⟩)⟩)
        · obtain ⟨rfl, hm⟩ := hw'
          exact z_bind _ (z_Rt_s hE hok g1) (fun _ w2 hw2 => k_sat_mk (Or.inl ⟨_, l - (t + (i + 1)), rfl, by omega, i + 1, by omega, rfl, hw2, hm⟩))
    · obtain ⟨⟨i, g1⟩, g2⟩ := hw
      exact z_bind _ (z_Rt_b hE.1 g1) (fun _ w' hw' => k_sat_mk ⟨hw', g2⟩)
/-! judge, fits, sure -/
theorem z_recs {u : k_S} (h : zR u) : ∃ (n : Nat) (A B f : Nat → Nat), n ≤ 40 ∧ u.1 2003 = J n ∧ u.1 4235 = J n ∧ z_RC 21 22 n A B u ∧ z_RC 64 65 n A B u ∧ (∀ i, i < n → f i < n ∧ u.2.1 23 i = J (f i)) ∧ (∀ r, r < n → ∃ i, i < n ∧ f i = r) ∧ (∀ i j, i < j → j < n → A (f i) ≤ A (f j)) := by
  obtain ⟨n, hn, e1, e2, h1, f, h2, h3, h4⟩ := h
  have key : ∀ i, i < n → (u.2.1 21 i).toInt.toNat ≤ 5000 ∧ (u.2.1 22 i).toInt.toNat < 40 ∧ u.2.1 21 i = J (u.2.1 21 i).toInt.toNat ∧ u.2.1 22 i = J (u.2.1 22 i).toInt.toNat ∧ u.2.1 64 i = u.2.1 21 i ∧ u.2.1 65 i = u.2.1 22 i ∧ 0 ≤ (u.2.1 21 i).toInt := by
    intro i hi
    obtain ⟨a, b, ha, hb, a1, a2, b1, b2⟩ := h1 i hi
    rw [a1, a2, b1, b2, J_toInt (by omega), J_toInt (by omega)]
    simp only [Int.toNat_natCast]
    exact ⟨ha, hb, trivial, trivial, trivial, trivial, by omega⟩
  refine ⟨n, fun i => (u.2.1 21 i).toInt.toNat, fun i => (u.2.1 22 i).toInt.toNat, f, hn, e1, e2, fun i hi => ?_, fun i hi => ?_, h2, h3, fun i j hij hj => ?_⟩
  · obtain ⟨a, b, c, d, -, -, -⟩ := key i hi
    exact ⟨a, b, c, d⟩
  · obtain ⟨a, b, c, d, e, g, -⟩ := key i hi
    exact ⟨a, b, e.trans c, g.trans d⟩
  · have := h4 i j hij hj
    have k1 := (key (f i) (h2 i (by omega)).1).2.2.2.2.2.2
    have k2 := (key (f j) (h2 j hj).1).2.2.2.2.2.2
    show (u.2.1 21 (f i)).toInt.toNat ≤ (u.2.1 21 (f j)).toInt.toNat
    omega
theorem z_bad_m {E : z_E} {u v : k_S} (h : z_moR v = z_moR u) {t : Nat} {A B : Nat → Nat} {r : Nat} : z_bad E v t A B r ↔ z_bad E u t A B r := by unfold z_bad; rw [z_pl_m h]
theorem z_RC_f {F C : List Nat} {c1 c2 nr : Nat} {A B : Nat → Nat} {u v : k_S} (h : z_fr F C u v) (a : C.elem c1 = false) (b : C.elem c2 = false) (k : z_RC c1 c2 nr A B u) : z_RC c1 c2 nr A B v := by
  intro r hr
  rw [h.2.1 c1 a, h.2.1 c2 b]
  exact k r hr
theorem z_judge (u : k_S) (h : zI u) : z_pair f_W_judge f_R_judge u zI := by
  obtain ⟨E, hE, -, eS, -⟩ := z_env h
  obtain ⟨⟨t, ht, t1, t2⟩, -⟩ := h.2.2.1
  obtain ⟨nr, A, B, f, hnr, r1, r2, r3, r4, hf, hsu, hso⟩ := z_recs h.2.2.2.2.2.1
  have hE4 := hE.1.1
  have e1 := hE.1.2.1
  have e2 := hE.2.1.2.1
  refine z_pair_of ?_
  unfold f_W_judge
  by_cases h0 : E.1 = 0
  · refine z_pos (by rw [e1, h0]; rfl) (k_sat_mk ?_)
    unfold f_R_judge
    exact z_pos (by rw [e2, h0]; rfl) (k_sat_mk ⟨rfl, h⟩)
  · refine z_neg (by rw [e1]; (try simp (disch := omega) only [Int32.lt_iff_toInt_lt, Int32.le_iff_toInt_le, ← Int32.toInt_inj, Int32.toInt_add, Int32.toInt_sub, Int32.toInt_mul, Int32.toInt_neg, z_bm, z_bm2, J_ti, J_toInt, z_cn, Int32.reduceToInt]) <;> omega) (z_bind _ (z_firstW ⟨hE.1, hE.2.2.1, hE.2.2.2.2⟩ (by omega) ht t1 hnr r1 r3 hf hsu hso 0 (Or.inl rfl)) (fun r v hv => k_sat_mk ?_))
    obtain ⟨i2, hE2, m2, q1, q2, q3⟩ := z_Wdone h hE hv.1
    unfold f_R_judge
    refine z_neg (by rw [q1, e2]; (try simp (disch := omega) only [Int32.lt_iff_toInt_lt, Int32.le_iff_toInt_le, ← Int32.toInt_inj, Int32.toInt_add, Int32.toInt_sub, Int32.toInt_mul, Int32.toInt_neg, z_bm, z_bm2, J_ti, J_toInt, z_cn, Int32.reduceToInt]) <;> omega) (z_bind _ (z_firstR hE2.2.1 hE2.2.2.2.1 (by omega) ht ((hv.1.1 4209 rfl).trans t2) hnr ((hv.1.1 4235 rfl).trans r2) (z_RC_f hv.1 rfl rfl r4)) (fun r' v' hv' => k_sat_mk ⟨?_, zI_0 i2 (hv'.1.mono rfl rfl)⟩))
    exact z_mn_u (hv.2.1 rfl) hv'.2 (fun r _ => (z_bad_m m2).symm)
/-- a letter fits when no record is wrong -/
def z_gd (E : z_E) (u : k_S) (t nr : Nat) (A B : Nat → Nat) (p j : Nat) : Bool := decide (∀ r, r < nr → ¬ (t ≤ A r ∧ ¬ z_pl (z_Ex E p (k_t101 j)) u 0 (A r - t) = J (B r)))
theorem z_gd_m {E : z_E} {u v : k_S} (h : z_moR v = z_moR u) {t nr : Nat} {A B : Nat → Nat} : z_gd E v t nr A B = z_gd E u t nr A B := by
  funext p j
  unfold z_gd
  simp only [z_pl_m h]
def z_bits (g : Nat → Bool) : Nat → Int32
  | 0 => 0
  | j + 1 => if g j then z_bits g j ||| ((1 : Int32) <<< (J j &&& 31)) else z_bits g j
def z_b4 (a b c d : Bool) : Int32 :=
  let x0 : Int32 := if a then 0 ||| ((1 : Int32) <<< (J 0 &&& 31)) else 0
  let x1 : Int32 := if b then x0 ||| ((1 : Int32) <<< (J 1 &&& 31)) else x0
  let x2 : Int32 := if c then x1 ||| ((1 : Int32) <<< (J 2 &&& 31)) else x1
  if d then x2 ||| ((1 : Int32) <<< (J 3 &&& 31)) else x2
theorem z_b4_J (a b c d : Bool) : ((List.range 16).any fun m => z_b4 a b c d == J m) = true := by
  cases a <;> cases b <;> cases c <;> cases d <;> decide +kernel
theorem z_bits_J (g : Nat → Bool) : ∃ m, m < 16 ∧ z_bits g 4 = J m := by
  obtain ⟨m, hm, e⟩ := List.any_eq_true.mp (z_b4_J (g 0) (g 1) (g 2) (g 3))
  exact ⟨m, List.mem_range.mp hm, eq_of_beq e⟩
theorem z_fitW {E : z_E} {u : k_S} {t nr p : Nat} {A B f : Nat → Nat} (hE : z_eW E u) (h0 : 0 < E.1) (ht : t ≤ 1000000) (t1 : u.1 1402 = J t) (hnr : nr ≤ 40) (e20 : u.1 2003 = J nr) (hRC : z_RC 21 22 nr A B u) (hf : ∀ i, i < nr → f i < nr ∧ u.2.1 23 i = J (f i)) (hsu : ∀ r, r < nr → ∃ i, i < nr ∧ f i = r) (hso : ∀ i j, i < j → j < nr → A (f i) ≤ A (f j)) (hp : p < 40) : k_sat (f_Judging_fitting (J p) u) (fun r v => r = z_bits (z_gd E u t nr A B p) 4 ∧ z_fr [1702, 1206, 704] [18, 19, 9, 13] u v) := by
  unfold f_Judging_fitting
  rw [z_letA0 hp, z_bind_some]
  refine z_bind _ (z_for2 0 4 0 (fun j x v => x = z_bits (z_gd E u t nr A B p) j ∧ z_fr [1702, 1206, 704] [18, 19, 9, 13, 4] u v ∧ ∃ l, v.2.1 4 = upd (u.2.1 4) p l) (K := fun y v => y = z_bits (z_gd E u t nr A B p) 4 ∧ z_fr [1702, 1206, 704] [18, 19, 9, 13, 4] u v ∧ ∃ l, v.2.1 4 = upd (u.2.1 4) p l) (by omega) (by omega) ⟨rfl, z_fr.rf, u.2.1 4 p, by rw [z_up_self]⟩ (fun j x w _ hj hw => ?_) (fun x v hv => ?_)) (fun y v hv => ?_)
  · obtain ⟨k1, k2, l, k3⟩ := hw
    unfold f_Judging_fitting_B15
    dsimp only
    refine z_neg (by (try simp (disch := omega) only [Int32.lt_iff_toInt_lt, Int32.le_iff_toInt_le, ← Int32.toInt_inj, Int32.toInt_add, Int32.toInt_sub, Int32.toInt_mul, Int32.toInt_neg, z_bm, z_bm2, J_ti, J_toInt, z_cn, Int32.reduceToInt]) <;> omega) (z_ck (by (try simp (disch := omega) only [Int32.lt_iff_toInt_lt, Int32.le_iff_toInt_le, ← Int32.toInt_inj, Int32.toInt_add, Int32.toInt_sub, Int32.toInt_mul, Int32.toInt_neg, z_bm, z_bm2, J_ti, J_toInt, z_cn, Int32.reduceToInt]) <;> omega) (by (try simp (disch := omega) only [Int32.lt_iff_toInt_lt, Int32.le_iff_toInt_le, ← Int32.toInt_inj, Int32.toInt_add, Int32.toInt_sub, Int32.toInt_mul, Int32.toInt_neg, z_bm, z_bm2, J_ti, J_toInt, z_cn, Int32.reduceToInt]) <;> omega) ?_)
    rw [J_toNat (show j < 2147483648 by omega), z_setL0 hp, z_bind_some]
    have h4 : (k_wA w 4 p (k_t101 j)).2.1 4 = upd (u.2.1 4) p (k_t101 j) := by
      simp only [k_wA, if_true]
      rw [k3]
      funext i
      rw [z_up, z_up, z_up]
      by_cases e : i = p
      · rw [if_pos e, if_pos e]
      · rw [if_neg e, if_neg e, if_neg e]
    have k4 : z_fr [1702, 1206, 704] [18, 19, 9, 13, 4] u (k_wA w 4 p (k_t101 j)) := k2.tr (z_wA rfl)
    have mN : z_moNow (k_wA w 4 p (k_t101 j)) = z_moNow u := by unfold z_moNow; rw [k4.1 1402 rfl, k4.2.1 15 rfl, k4.2.1 16 rfl]
    have mR : z_moR (k_wA w 4 p (k_t101 j)) = z_moR u := by unfold z_moR; rw [k4.1 4209 rfl, k4.2.1 46 rfl, k4.2.1 47 rfl]
    have hE' : z_eW (z_Ex E p (k_t101 j)) (k_wA w 4 p (k_t101 j)) := ⟨z_EW_x hE.1 (k4.1 303 rfl) (k4.1 703 rfl) (k4.1 705 rfl) h4 (k4.2.1 5 rfl) (k4.2.1 6 rfl) (k4.2.1 8 rfl), by rw [mN]; exact z_ok_x hE.2.1, by rw [mN, mR]; exact hE.2.2⟩
    refine z_bind _ (z_firstW (f := f) hE' h0 ht ((k4.1 1402 rfl).trans t1) hnr ((k4.1 2003 rfl).trans e20) (z_RC_f k4 rfl rfl hRC) (by rw [k4.2.1 23 rfl]; exact hf) hsu hso 1 (Or.inr rfl)) (fun r w2 hw2 => ?_)
    have k5 : z_fr [1702, 1206, 704] [18, 19, 9, 13, 4] u w2 := k4.tr (hw2.1.mono rfl rfl)
    have k6 : w2.2.1 4 = upd (u.2.1 4) p (k_t101 j) := (hw2.1.2.1 4 rfl).trans h4
    have hr := (hw2.2.2 rfl).1
    have hst : z_bits (z_gd E u t nr A B p) (j + 1) = if z_gd E u t nr A B p j then x ||| ((1 : Int32) <<< (J j &&& 31)) else x := by rw [k1]; rfl
    refine z_ite (fun q => z_let (k_sat_mk (Or.inl ⟨_, rfl, ?_, k5, _, k6⟩))) (fun q => k_sat_mk (Or.inl ⟨_, rfl, ?_, k5, _, k6⟩))
    · rw [hst, if_pos]
      refine decide_eq_true (fun r' hr' b => hr.mp q r' hr' ((z_bad_m mR).mpr b))
    · rw [hst, if_neg]
      intro b
      exact q (hr.mpr (fun r' hr' c => of_decide_eq_true b r' hr' ((z_bad_m mR).mp c)))
  · unfold f_Judging_fitting_B15
    exact z_pos (Int32.le_refl _) (k_sat_mk ⟨_, rfl, hv⟩)
  · obtain ⟨k1, k2, l, k3⟩ := hv
    rw [z_setL0 hp, z_bind_some]
    refine k_sat_mk ⟨k1, z_fr_less (c := 4) ?_ ?_ rfl⟩
    · exact (k2.mono rfl rfl : z_fr [1702, 1206, 704] [4, 18, 19, 9, 13] u v).tr (z_wA rfl)
    · simp only [k_wA, if_true]
      rw [k3]
      funext i
      rw [z_up, z_up]
      by_cases e : i = p
      · rw [if_pos e, e]
      · rw [if_neg e, if_neg e]
theorem k_t101_K {u : k_S} (h : zK u) {j : Nat} (hj : j < 4) : u.2.1 66 j = k_t101 j := by
  obtain ⟨-, a, b, c, d⟩ := h
  rcases (show j = 0 ∨ j = 1 ∨ j = 2 ∨ j = 3 by omega) with rfl | rfl | rfl | rfl
  · exact a
  · exact b
  · exact c
  · exact d
theorem z_fitR {E : z_E} {u : k_S} {t nr p s : Nat} {A B : Nat → Nat} (hE : z_ER E u) (hok : z_ok E (z_moR u)) (h0 : 0 < E.1) (ht : t ≤ 1000000) (t2 : u.1 4209 = J t) (hnr : nr ≤ 40) (e42 : u.1 4235 = J nr) (hRC : z_RC 64 65 nr A B u) (es : E.2.2.1 0 = J s) (hs : s ≤ 40) (hp : p < s) (hK : zK u) : k_sat (f_R_fitting (J p) u) (fun r v => r = z_bits (z_gd E u t nr A B p) 4 ∧ z_fr [4230] [54, 55, 60, 61, 62] u v) := by
  unfold f_R_fitting
  refine z_ck (by (try simp (disch := omega) only [Int32.lt_iff_toInt_lt, Int32.le_iff_toInt_le, ← Int32.toInt_inj, Int32.toInt_add, Int32.toInt_sub, Int32.toInt_mul, Int32.toInt_neg, z_bm, z_bm2, J_ti, J_toInt, z_cn, Int32.reduceToInt]) <;> omega) (by (try simp (disch := omega) only [Int32.lt_iff_toInt_lt, Int32.le_iff_toInt_le, ← Int32.toInt_inj, Int32.toInt_add, Int32.toInt_sub, Int32.toInt_mul, Int32.toInt_neg, z_bm, z_bm2, J_ti, J_toInt, z_cn, Int32.reduceToInt]) <;> omega) (z_let ?_)
  rw [J_toNat (show p < 2147483648 by omega)]
  refine z_bind _ (z_for2 0 4 0 (fun j x v => x = z_bits (z_gd E u t nr A B p) j ∧ z_fr [4230] [44, 54, 55, 60, 61, 62] u v ∧ ∃ l, v.2.1 44 = upd (u.2.1 44) p l) (K := fun y v => y = z_bits (z_gd E u t nr A B p) 4 ∧ z_fr [4230] [44, 54, 55, 60, 61, 62] u v ∧ ∃ l, v.2.1 44 = upd (u.2.1 44) p l) (by omega) (by omega) ⟨rfl, z_fr.rf, u.2.1 44 p, by rw [z_up_self]⟩ (fun j x w _ hj hw => ?_) (fun x v hv => ?_)) (fun y v hv => ?_)
  · obtain ⟨k1, k2, l, k3⟩ := hw
    unfold f_R_fitting_B12
    dsimp only
    have e66 : w.2.1 66 j = k_t101 j := (congrFun (k2.2.1 66 rfl) j).trans (k_t101_K hK hj)
    rw [J_toNat (show j < 2147483648 by omega), J_toNat (show p < 2147483648 by omega), e66]
    refine z_neg (by (try simp (disch := omega) only [Int32.lt_iff_toInt_lt, Int32.le_iff_toInt_le, ← Int32.toInt_inj, Int32.toInt_add, Int32.toInt_sub, Int32.toInt_mul, Int32.toInt_neg, z_bm, z_bm2, J_ti, J_toInt, z_cn, Int32.reduceToInt]) <;> omega) (z_ck (by (try simp (disch := omega) only [Int32.lt_iff_toInt_lt, Int32.le_iff_toInt_le, ← Int32.toInt_inj, Int32.toInt_add, Int32.toInt_sub, Int32.toInt_mul, Int32.toInt_neg, z_bm, z_bm2, J_ti, J_toInt, z_cn, Int32.reduceToInt]) <;> omega) (by (try simp (disch := omega) only [Int32.lt_iff_toInt_lt, Int32.le_iff_toInt_le, ← Int32.toInt_inj, Int32.toInt_add, Int32.toInt_sub, Int32.toInt_mul, Int32.toInt_neg, z_bm, z_bm2, J_ti, J_toInt, z_cn, Int32.reduceToInt]) <;> omega) (z_ck (by (try simp (disch := omega) only [Int32.lt_iff_toInt_lt, Int32.le_iff_toInt_le, ← Int32.toInt_inj, Int32.toInt_add, Int32.toInt_sub, Int32.toInt_mul, Int32.toInt_neg, z_bm, z_bm2, J_ti, J_toInt, z_cn, Int32.reduceToInt]) <;> omega) (by (try simp (disch := omega) only [Int32.lt_iff_toInt_lt, Int32.le_iff_toInt_le, ← Int32.toInt_inj, Int32.toInt_add, Int32.toInt_sub, Int32.toInt_mul, Int32.toInt_neg, z_bm, z_bm2, J_ti, J_toInt, z_cn, Int32.reduceToInt]) <;> omega) (z_let ?_)))
    have h44 : (k_wA w 44 p (k_t101 j)).2.1 44 = upd (u.2.1 44) p (k_t101 j) := by
      simp only [k_wA, if_true]
      rw [k3]
      funext i
      rw [z_up, z_up, z_up]
      by_cases e : i = p
      · rw [if_pos e, if_pos e]
      · rw [if_neg e, if_neg e, if_neg e]
    have k4 : z_fr [4230] [44, 54, 55, 60, 61, 62] u (k_wA w 44 p (k_t101 j)) := k2.tr (z_wA rfl)
    have mR : z_moR (k_wA w 44 p (k_t101 j)) = z_moR u := by unfold z_moR; rw [k4.1 4209 rfl, k4.2.1 46 rfl, k4.2.1 47 rfl]
    have hE' : z_ER (z_Ex E p (k_t101 j)) (k_wA w 44 p (k_t101 j)) := z_ER_x hE es hs hp [4230] (k4.mono rfl rfl) (by decide) h44
    refine z_bind _ (z_firstR hE' (by rw [mR]; exact z_ok_x hok) h0 ht ((k4.1 4209 rfl).trans t2) hnr ((k4.1 4235 rfl).trans e42) (z_RC_f k4 rfl rfl hRC)) (fun r w2 hw2 => ?_)
    have k5 : z_fr [4230] [44, 54, 55, 60, 61, 62] u w2 := k4.tr (hw2.1.mono rfl rfl)
    have k6 : w2.2.1 44 = upd (u.2.1 44) p (k_t101 j) := (hw2.1.2.1 44 rfl).trans h44
    have hst : z_bits (z_gd E u t nr A B p) (j + 1) = if z_gd E u t nr A B p j then x ||| ((1 : Int32) <<< (J j &&& 31)) else x := by rw [k1]; rfl
    rcases hw2.2 with ⟨rfl, hb⟩ | ⟨m, m1, m2, rfl, -⟩
    · refine z_neg (by decide) (z_let (k_sat_mk (Or.inl ⟨_, rfl, ?_, k5, _, k6⟩)))
      rw [hst, if_pos]
      exact decide_eq_true (fun r' hr' b => hb r' hr' ((z_bad_m mR).mpr b))
    · refine z_pos (by (try simp (disch := omega) only [Int32.lt_iff_toInt_lt, Int32.le_iff_toInt_le, ← Int32.toInt_inj, Int32.toInt_add, Int32.toInt_sub, Int32.toInt_mul, Int32.toInt_neg, z_bm, z_bm2, J_ti, J_toInt, z_cn, Int32.reduceToInt]) <;> omega) (k_sat_mk (Or.inl ⟨_, rfl, ?_, k5, _, k6⟩))
      rw [hst, if_neg]
      intro b
      exact of_decide_eq_true b m m1 ((z_bad_m mR).mp m2)
  · unfold f_R_fitting_B12
    exact z_pos (Int32.le_refl _) (k_sat_mk ⟨_, rfl, hv⟩)
  · obtain ⟨k1, k2, l, k3⟩ := hv
    refine z_ck (by (try simp (disch := omega) only [Int32.lt_iff_toInt_lt, Int32.le_iff_toInt_le, ← Int32.toInt_inj, Int32.toInt_add, Int32.toInt_sub, Int32.toInt_mul, Int32.toInt_neg, z_bm, z_bm2, J_ti, J_toInt, z_cn, Int32.reduceToInt]) <;> omega) (by (try simp (disch := omega) only [Int32.lt_iff_toInt_lt, Int32.le_iff_toInt_le, ← Int32.toInt_inj, Int32.toInt_add, Int32.toInt_sub, Int32.toInt_mul, Int32.toInt_neg, z_bm, z_bm2, J_ti, J_toInt, z_cn, Int32.reduceToInt]) <;> omega) (z_let (k_sat_mk ⟨k1, z_fr_less (c := 44) (k2.tr (z_wA rfl)) ?_ rfl⟩))
    simp only [k_wA, if_true]
    rw [k3]
    funext i
    rw [z_up, z_up]
    by_cases e : i = p
    · rw [if_pos e, e]
    · rw [if_neg e, if_neg e]
/-! how many bits -/
def z_bc (x : Int32) : Int32 := ((f_J_bitCount x z_u0).map (fun r => r.1)).getD 0
theorem z_bcW (x : Int32) (u : k_S) : f_J_bitCount x u = some (z_bc x, u) := rfl
def z_bd : Nat → Int32 → Bool
  | 0, x => x == 0
  | m + 1, x => x == 0 || z_bd m (x &&& (x - 1))
def z_bo : Nat → Int32 → Int32 → Int32
  | 0, c, _ => c
  | m + 1, c, x => if x = 0 then c else z_bo m (c + Int32.ofInt 1) (x &&& (x - 1))
theorem z_bo_itr : ∀ (m N : Nat) (c x : Int32) (u : k_S), z_bd m x = true → m < N → k_itr (fun (x : Int32 × Int32) u => f_R_bitsOf_B4 x.1 x.2 u) N (c, x) u = some (z_bo m c x, u)
  | 0, N + 1, c, x, u, h, _ => by
    have : x = 0 := eq_of_beq h
    rw [k_itr]
    unfold f_R_bitsOf_B4
    rw [if_pos this]
    rfl
  | m + 1, N + 1, c, x, u, h, hN => by
    rw [k_itr]
    unfold f_R_bitsOf_B4
    by_cases q : x = 0
    · rw [if_pos q, z_bo, if_pos q]
    · rw [if_neg q, z_bo, if_neg q]
      have h' : z_bd m (x &&& (x - 1)) = true := by
        rw [z_bd] at h
        rcases Bool.or_eq_true _ _ |>.mp h with h | h
        · exact absurd (eq_of_beq h) q
        · exact h
      exact z_bo_itr m N _ _ u h' (by omega)
theorem z_bits_all : ((List.range 1024).all fun n => z_bd 10 (J n) && z_bo 10 0 (J n) == z_bc (J n) && (z_bc (J n)).toInt.toNat ≤ 10 && z_bc (J n) == J (z_bc (J n)).toInt.toNat) = true := by decide +kernel
theorem z_bcR {n : Nat} (h : n < 1024) (u : k_S) : f_R_bitsOf (J n) u = some (z_bc (J n), u) := by
  have := List.all_eq_true.mp z_bits_all n (List.mem_range.mpr h)
  simp only [Bool.and_eq_true] at this
  unfold f_R_bitsOf
  rw [z_bo_itr 10 k_FU 0 (J n) u this.1.1.1 (by unfold k_FU; omega), z_bind_some, eq_of_beq this.1.1.2]
/-! fits, sure -/
theorem z_fits (a : Int32) (u : k_S) (h : zI u) : z_pair (f_W_fits a) (f_R_fits a) u zI := by
  obtain ⟨E, hE, -, eS, -⟩ := z_env h
  obtain ⟨⟨t, ht, t1, t2⟩, -⟩ := h.2.2.1
  obtain ⟨nr, A, B, f, hnr, r1, r2, r3, r4, hf, hsu, hso⟩ := z_recs h.2.2.2.2.2.1
  have hE4 := hE.1.1
  have e1 := hE.1.2.1
  have e2 := hE.2.1.2.1
  refine z_pair_of ?_
  unfold f_W_fits
  by_cases h0 : E.1 = 0
  · have hw := z_WhasP00 (a := 0) (b := a) e1 hE4 (Or.inr (by rw [h0]; decide))
    rw [hw, z_bind_some]
    refine z_pos rfl (k_sat_mk ?_)
    unfold f_R_fits
    exact z_pos (by rw [e2, h0]; exact Int32.le_refl _) (k_sat_mk ⟨rfl, h⟩)
  · obtain ⟨p0, s, -, hs2, hs, -, es⟩ := hE.2.2.1.2 0 (by omega)
    have e5 : u.2.1 5 0 = J s := by rw [hE.1.2.2.2.1]; exact es
    have e45 : u.2.1 45 0 = J s := ((hE.2.1.2.2.1 0 (by omega)).1).trans es
    rcases J_or a s with ⟨p, hp, rfl⟩ | ha
    · have hw := z_WhasP (w := 0) (p := p) e1 hE4 (by omega) e5 hs hp
      rw [show f_Wheels_hasPlace 0 (J p) u = some (1, u) from hw, z_bind_some]
      refine z_neg (by decide) (z_bind _ (z_fitW ⟨hE.1, hE.2.2.1, hE.2.2.2.2⟩ (by omega) ht t1 hnr r1 r3 hf hsu hso (by omega)) (fun r v hv => k_sat_mk ?_))
      obtain ⟨i2, hE2, m2, q1, q2, q3⟩ := z_Wdone h hE hv.2
      unfold f_R_fits
      refine z_neg (by rw [q1, e2]; (try simp (disch := omega) only [Int32.lt_iff_toInt_lt, Int32.le_iff_toInt_le, ← Int32.toInt_inj, Int32.toInt_add, Int32.toInt_sub, Int32.toInt_mul, Int32.toInt_neg, z_bm, z_bm2, J_ti, J_toInt, z_cn, Int32.reduceToInt]) <;> omega) (z_ck (by decide) (by decide) ?_)
      rw [show (0 : Int32).toNatClampNeg = 0 from rfl, q3, e45, z_Jm' (by omega), z_Rin1 (by (try simp (disch := omega) only [Int32.lt_iff_toInt_lt, Int32.le_iff_toInt_le, ← Int32.toInt_inj, Int32.toInt_add, Int32.toInt_sub, Int32.toInt_mul, Int32.toInt_neg, z_bm, z_bm2, J_ti, J_toInt, z_cn, Int32.reduceToInt]) <;> omega) (by (try simp (disch := omega) only [Int32.lt_iff_toInt_lt, Int32.le_iff_toInt_le, ← Int32.toInt_inj, Int32.toInt_add, Int32.toInt_sub, Int32.toInt_mul, Int32.toInt_neg, z_bm, z_bm2, J_ti, J_toInt, z_cn, Int32.reduceToInt]) <;> omega), z_bind_some]
      refine z_neg (by decide) (z_bind _ (z_fitR hE2.2.1 hE2.2.2.2.1 (by omega) ht ((hv.2.1 4209 rfl).trans t2) hnr ((hv.2.1 4235 rfl).trans r2) (z_RC_f hv.2 rfl rfl r4) es hs hp i2.2.2.2.2.2.2.2.2.2.2) (fun r' v' hv' => k_sat_mk ⟨?_, zI_0 i2 (hv'.2.mono rfl rfl)⟩))
      rw [hv.1, hv'.1, z_gd_m m2]
    · have hw := z_WhasP0 (w := 0) (b := a) e1 hE4 (by omega) e5 hs ha
      rw [show f_Wheels_hasPlace 0 a u = some (0, u) from hw, z_bind_some]
      refine z_pos rfl (k_sat_mk ?_)
      unfold f_R_fits
      refine z_neg (by rw [e2]; (try simp (disch := omega) only [Int32.lt_iff_toInt_lt, Int32.le_iff_toInt_le, ← Int32.toInt_inj, Int32.toInt_add, Int32.toInt_sub, Int32.toInt_mul, Int32.toInt_neg, z_bm, z_bm2, J_ti, J_toInt, z_cn, Int32.reduceToInt]) <;> omega) (z_ck (by decide) (by decide) ?_)
      rw [show (0 : Int32).toNatClampNeg = 0 from rfl, e45, z_Jm' (by omega), z_Rin0 (by ((try simp (disch := omega) only [Int32.lt_iff_toInt_lt, Int32.le_iff_toInt_le, ← Int32.toInt_inj, Int32.toInt_add, Int32.toInt_sub, Int32.toInt_mul, Int32.toInt_neg, z_bm, z_bm2, J_ti, J_toInt, z_cn, Int32.reduceToInt] at *); omega)), z_bind_some]
      exact z_pos rfl (k_sat_mk ⟨rfl, h⟩)
def z_c0 (g : Nat → Bool) : Nat → Int32
  | 0 => 0
  | n + 1 => if g n then z_c0 g n + Int32.ofInt 1 else z_c0 g n
def z_fi (g : Nat → Bool) : Nat → Int32
  | 0 => -2
  | n + 1 => if g n then (if 0 ≤ z_fi g n then z_fi g n else J n) else z_fi g n
theorem z_fi_no {g : Nat → Bool} : ∀ n, (∀ i, i < n → g i = false) → z_fi g n = -2
  | 0, _ => rfl
  | n + 1, h => by
    rw [z_fi, h n (by omega), if_neg (by decide), z_fi_no n (fun i hi => h i (by omega))]
theorem z_fi_at {g : Nat → Bool} {i : Nat} (hi : i < 2147483648) (h : ∀ j, j < i → g j = false) (hg : g i = true) : ∀ k, z_fi g (i + 1 + k) = J i
  | 0 => by
    rw [Nat.add_zero, z_fi, if_pos hg, z_fi_no i h, if_neg (by decide)]
  | k + 1 => by
    rw [show i + 1 + (k + 1) = (i + 1 + k) + 1 by omega, z_fi, z_fi_at hi h hg k]
    have : (0 : Int32) ≤ J i := by (try simp (disch := omega) only [Int32.lt_iff_toInt_lt, Int32.le_iff_toInt_le, ← Int32.toInt_inj, Int32.toInt_add, Int32.toInt_sub, Int32.toInt_mul, Int32.toInt_neg, z_bm, z_bm2, J_ti, J_toInt, z_cn, Int32.reduceToInt]) <;> omega
    rw [if_pos this]
    by_cases q : g (i + 1 + k) = true
    · rw [if_pos q]
    · rw [if_neg q]
/-- sure of a place: one letter alone fits -/
def z_su (E : z_E) (u : k_S) (t nr : Nat) (A B : Nat → Nat) (p : Nat) : Bool := decide (z_bc (z_bits (z_gd E u t nr A B p) 4) = 1)
theorem z_bcb (g : Nat → Bool) (u : k_S) : f_J_bitCount (z_bits g 4) u = some (z_bc (z_bits g 4), u) ∧ f_R_bitsOf (z_bits g 4) u = some (z_bc (z_bits g 4), u) := by
  obtain ⟨m, hm, e⟩ := z_bits_J g
  rw [e]
  exact ⟨z_bcW _ u, z_bcR (by omega) u⟩
theorem z_sure (a : Int32) (u : k_S) (h : zI u) : z_pair (f_W_sure a) (f_R_sure a) u zI := by
  obtain ⟨E, hE, -, eS, -⟩ := z_env h
  obtain ⟨⟨t, ht, t1, t2⟩, -⟩ := h.2.2.1
  obtain ⟨nr, A, B, f, hnr, r1, r2, r3, r4, hf, hsu, hso⟩ := z_recs h.2.2.2.2.2.1
  have hE4 := hE.1.1
  have e1 := hE.1.2.1
  have e2 := hE.2.1.2.1
  refine z_pair_of ?_
  by_cases ha : a.toInt = 0 ∨ a.toInt = 1
  · have ha' : a = 0 ∨ a = 1 := by
      rcases ha with ha | ha
      · exact Or.inl (Int32.toInt.inj ha)
      · exact Or.inr (Int32.toInt.inj ha)
    unfold f_W_sure
    refine z_neg (by ((try simp (disch := omega) only [Int32.lt_iff_toInt_lt, Int32.le_iff_toInt_le, ← Int32.toInt_inj, Int32.toInt_add, Int32.toInt_sub, Int32.toInt_mul, Int32.toInt_neg, z_bm, z_bm2, J_ti, J_toInt, z_cn, Int32.reduceToInt] at *); omega)) (z_pos (by ((try simp (disch := omega) only [Int32.lt_iff_toInt_lt, Int32.le_iff_toInt_le, ← Int32.toInt_inj, Int32.toInt_add, Int32.toInt_sub, Int32.toInt_mul, Int32.toInt_neg, z_bm, z_bm2, J_ti, J_toInt, z_cn, Int32.reduceToInt] at *); omega)) ?_)
    by_cases h0 : E.1 = 0
    · refine z_pos (by rw [e1, h0]; rfl) (k_sat_mk ?_)
      unfold f_R_sure
      rw [z_Rin1 (by ((try simp (disch := omega) only [Int32.lt_iff_toInt_lt, Int32.le_iff_toInt_le, ← Int32.toInt_inj, Int32.toInt_add, Int32.toInt_sub, Int32.toInt_mul, Int32.toInt_neg, z_bm, z_bm2, J_ti, J_toInt, z_cn, Int32.reduceToInt] at *); omega)) (by ((try simp (disch := omega) only [Int32.lt_iff_toInt_lt, Int32.le_iff_toInt_le, ← Int32.toInt_inj, Int32.toInt_add, Int32.toInt_sub, Int32.toInt_mul, Int32.toInt_neg, z_bm, z_bm2, J_ti, J_toInt, z_cn, Int32.reduceToInt] at *); omega)), z_bind_some]
      exact z_neg (by decide) (z_pos (by rw [e2, h0]; rfl) (k_sat_mk ⟨rfl, h⟩))
    · refine z_neg (by rw [e1]; (try simp (disch := omega) only [Int32.lt_iff_toInt_lt, Int32.le_iff_toInt_le, ← Int32.toInt_inj, Int32.toInt_add, Int32.toInt_sub, Int32.toInt_mul, Int32.toInt_neg, z_bm, z_bm2, J_ti, J_toInt, z_cn, Int32.reduceToInt]) <;> omega) ?_
      obtain ⟨p0, s, -, hs2, hs, -, es⟩ := hE.2.2.1.2 0 (by omega)
      have e5 : u.2.1 5 0 = J s := by rw [hE.1.2.2.2.1]; exact es
      have e45 : u.2.1 45 0 = J s := ((hE.2.1.2.2.1 0 (by omega)).1).trans es
      refine z_bind (fun y v => z_fr [1702, 1206, 704] [18, 19, 9, 13] u v ∧ ((y = .inr (z_c0 (z_su E u t nr A B) s) ∧ (a = 1 → ∀ i, i < s → z_su E u t nr A B i = false)) ∨ ∃ i, i < s ∧ a = 1 ∧ y = .inl (J i) ∧ z_su E u t nr A B i = true ∧ ∀ j, j < i → z_su E u t nr A B j = false)) (z_for2 0 s 0 (fun i x v => z_fr [1702, 1206, 704] [18, 19, 9, 13] u v ∧ x = z_c0 (z_su E u t nr A B) i ∧ (a = 1 → ∀ j, j < i → z_su E u t nr A B j = false)) (by omega) (Nat.zero_le s) ⟨z_fr.rf, rfl, fun _ j hj => by omega⟩ (fun i x v _ hi hp => ?_) (fun x v hp => ?_)) (fun y v hv => ?_)
      · obtain ⟨g1, rfl, g3⟩ := hp
        obtain ⟨i2, hE2, m2, q1, q2, q3⟩ := z_Wdone h hE g1
        unfold f_W_sure_B28
        dsimp only
        rw [show f_Wheels_sizeOf 0 v = some (J s, v) by rw [show (0 : Int32) = J 0 from rfl, z_Wheels_sizeOf (by omega), g1.2.1 5 rfl, e5], z_bind_some]
        refine z_neg (by (try simp (disch := omega) only [Int32.lt_iff_toInt_lt, Int32.le_iff_toInt_le, ← Int32.toInt_inj, Int32.toInt_add, Int32.toInt_sub, Int32.toInt_mul, Int32.toInt_neg, z_bm, z_bm2, J_ti, J_toInt, z_cn, Int32.reduceToInt]) <;> omega) (z_neg (by (try simp (disch := omega) only [Int32.lt_iff_toInt_lt, Int32.le_iff_toInt_le, ← Int32.toInt_inj, Int32.toInt_add, Int32.toInt_sub, Int32.toInt_mul, Int32.toInt_neg, z_bm, z_bm2, J_ti, J_toInt, z_cn, Int32.reduceToInt]) <;> omega) (z_bind _ (z_fitW (f := f) ⟨hE2.1, hE2.2.2.1, hE2.2.2.2.2⟩ (by omega) ht ((g1.1 1402 rfl).trans t1) hnr ((g1.1 2003 rfl).trans r1) (z_RC_f g1 rfl rfl r3) (by rw [g1.2.1 23 rfl]; exact hf) hsu hso (by omega)) (fun r w hw => ?_)))
        rw [hw.1, (z_bcb _ w).1, z_bind_some, z_gd_m m2]
        have g4 := g1.tr hw.2
        have hst : z_c0 (z_su E u t nr A B) (i + 1) = if z_su E u t nr A B i = true then z_c0 (z_su E u t nr A B) i + Int32.ofInt 1 else z_c0 (z_su E u t nr A B) i := rfl
        refine z_ite (fun q => ?_) (fun q => ?_)
        · have qs : z_su E u t nr A B i = true := decide_eq_true q
          refine z_ite (fun qa => k_sat_mk (Or.inr ⟨_, rfl, g4, Or.inr ⟨i, hi, qa, rfl, qs, g3 qa⟩⟩)) (fun qa => k_sat_mk (Or.inl ⟨_, rfl, g4, ?_, fun e => absurd e qa⟩))
          rw [hst, if_pos qs]
        · have qs : z_su E u t nr A B i = false := decide_eq_false q
          refine k_sat_mk (Or.inl ⟨_, rfl, g4, ?_, fun e j hj => ?_⟩)
          · rw [hst, if_neg (by rw [qs]; decide)]
          · by_cases ej : j = i
            · rw [ej]; exact qs
            · exact g3 e j (by omega)
      · obtain ⟨g1, rfl, g3⟩ := hp
        unfold f_W_sure_B28
        dsimp only
        rw [show f_Wheels_sizeOf 0 v = some (J s, v) by rw [show (0 : Int32) = J 0 from rfl, z_Wheels_sizeOf (by omega), g1.2.1 5 rfl, e5], z_bind_some]
        exact z_pos (Int32.le_refl _) (k_sat_mk ⟨_, rfl, g1, Or.inl ⟨rfl, g3⟩⟩)
      · obtain ⟨g1, hy⟩ := hv
        obtain ⟨i2, hE2, m2, q1, q2, q3⟩ := z_Wdone h hE g1
        have hR : k_sat (f_R_sure a v) (fun r v' => r = (if a = 0 then z_c0 (z_su E u t nr A B) s else z_fi (z_su E u t nr A B) s) ∧ zI v') := by
          unfold f_R_sure
          rw [z_Rin1 (by ((try simp (disch := omega) only [Int32.lt_iff_toInt_lt, Int32.le_iff_toInt_le, ← Int32.toInt_inj, Int32.toInt_add, Int32.toInt_sub, Int32.toInt_mul, Int32.toInt_neg, z_bm, z_bm2, J_ti, J_toInt, z_cn, Int32.reduceToInt] at *); omega)) (by ((try simp (disch := omega) only [Int32.lt_iff_toInt_lt, Int32.le_iff_toInt_le, ← Int32.toInt_inj, Int32.toInt_add, Int32.toInt_sub, Int32.toInt_mul, Int32.toInt_neg, z_bm, z_bm2, J_ti, J_toInt, z_cn, Int32.reduceToInt] at *); omega)), z_bind_some]
          refine z_neg (by decide) (z_neg (by rw [q1, e2]; (try simp (disch := omega) only [Int32.lt_iff_toInt_lt, Int32.le_iff_toInt_le, ← Int32.toInt_inj, Int32.toInt_add, Int32.toInt_sub, Int32.toInt_mul, Int32.toInt_neg, z_bm, z_bm2, J_ti, J_toInt, z_cn, Int32.reduceToInt]) <;> omega) (z_bind (fun y v' => z_fr [4230] [54, 55, 60, 61, 62] v v' ∧ y = (z_c0 (z_su E u t nr A B) s, z_fi (z_su E u t nr A B) s)) (z_for3 0 s 0 (-2) (fun i x y v' => z_fr [4230] [54, 55, 60, 61, 62] v v' ∧ x = z_c0 (z_su E u t nr A B) i ∧ y = z_fi (z_su E u t nr A B) i) (by omega) (Nat.zero_le s) ⟨z_fr.rf, rfl, rfl⟩ (fun i x y v' _ hi hp => ?_) (fun x y v' hp => ?_)) (fun y v' hv' => ?_)))
          · obtain ⟨k1, rfl, rfl⟩ := hp
            have i3 : zI v' := zI_0 i2 (k1.mono rfl rfl)
            have m3 : z_moR v' = z_moR u := by rw [← m2]; unfold z_moR; rw [k1.1 4209 rfl, k1.2.1 46 rfl, k1.2.1 47 rfl]
            have hE3 : z_en E v' := z_en_f k1 (by decide) (by decide) (by decide) hE2
            have g5 := g1.1
            unfold f_R_sure_B29
            dsimp only
            rw [show (0 : Int32).toNatClampNeg = 0 from rfl, k1.2.1 45 rfl, q3, e45]
            refine z_ck (by decide) (by decide) (z_neg (by (try simp (disch := omega) only [Int32.lt_iff_toInt_lt, Int32.le_iff_toInt_le, ← Int32.toInt_inj, Int32.toInt_add, Int32.toInt_sub, Int32.toInt_mul, Int32.toInt_neg, z_bm, z_bm2, J_ti, J_toInt, z_cn, Int32.reduceToInt]) <;> omega) (z_bind _ (z_fitR hE3.2.1 hE3.2.2.2.1 (by omega) ht ((k1.1 4209 rfl).trans ((g1.1 4209 rfl).trans t2)) hnr ((k1.1 4235 rfl).trans ((g1.1 4235 rfl).trans r2)) (z_RC_f k1 rfl rfl (z_RC_f g1 rfl rfl r4)) es hs hi i3.2.2.2.2.2.2.2.2.2.2) (fun r w hw => ?_)))
            rw [hw.1, (z_bcb _ w).2, z_bind_some, z_gd_m m3]
            have k4 := k1.tr hw.2
            have hst : z_c0 (z_su E u t nr A B) (i + 1) = if z_su E u t nr A B i = true then z_c0 (z_su E u t nr A B) i + Int32.ofInt 1 else z_c0 (z_su E u t nr A B) i := rfl
            have hsf : z_fi (z_su E u t nr A B) (i + 1) = if z_su E u t nr A B i = true then (if 0 ≤ z_fi (z_su E u t nr A B) i then z_fi (z_su E u t nr A B) i else J i) else z_fi (z_su E u t nr A B) i := rfl
            refine z_ite (fun q => ?_) (fun q => ?_)
            · have qs : z_su E u t nr A B i = true := decide_eq_true q
              refine z_ite (fun qa => k_sat_mk (Or.inl ⟨_, _, rfl, k4, ?_, ?_⟩)) (fun qa => k_sat_mk (Or.inl ⟨_, _, rfl, k4, ?_, ?_⟩))
              · rw [hst, if_pos qs]
              · rw [hsf, if_pos qs, if_pos qa]
              · rw [hst, if_pos qs]
              · rw [hsf, if_pos qs, if_neg qa]
            · have qs : ¬ z_su E u t nr A B i = true := fun c => q (of_decide_eq_true c)
              refine k_sat_mk (Or.inl ⟨_, _, rfl, k4, ?_, ?_⟩)
              · rw [hst, if_neg qs]
              · rw [hsf, if_neg qs]
          · obtain ⟨k1, rfl, rfl⟩ := hp
            unfold f_R_sure_B29
            dsimp only
            rw [show (0 : Int32).toNatClampNeg = 0 from rfl, k1.2.1 45 rfl, q3, e45]
            exact z_ck (by decide) (by decide) (z_pos (Int32.le_refl _) (k_sat_mk ⟨_, rfl, k1, rfl⟩))
          · obtain ⟨k1, rfl⟩ := hv'
            refine z_ite (fun q => k_sat_mk ⟨by rw [if_pos q], zI_0 i2 (k1.mono rfl rfl)⟩) (fun q => k_sat_mk ⟨by rw [if_neg q], zI_0 i2 (k1.mono rfl rfl)⟩)
        rcases hy with ⟨rfl, hy⟩ | ⟨i, hi, rfl, rfl, hs1, hs3⟩
        · simp only [k_cs]
          unfold f_W_sure_J77
          refine z_ite (fun q => k_sat_mk (z_mono hR (fun r v' hv' => ⟨?_, hv'.2⟩))) (fun q => k_sat_mk (z_mono hR (fun r v' hv' => ⟨?_, hv'.2⟩)))
          · rw [hv'.1, if_neg (by rw [q]; decide), z_fi_no s (hy q)]
          · rw [hv'.1, if_pos (by rcases ha' with e | e; exact e; exact absurd e q)]
        · simp only [k_cs]
          refine k_sat_mk (z_mono hR (fun r v' hv' => ⟨?_, hv'.2⟩))
          have := z_fi_at (g := z_su E u t nr A B) (by omega) hs3 hs1 (s - (i + 1))
          rw [show i + 1 + (s - (i + 1)) = s by omega] at this
          rw [hv'.1, if_neg (by decide), this]
  · have hR : k_sat (f_R_sure a u) (fun r' v => (-1 : Int32) = r' ∧ zI v) := by
      unfold f_R_sure
      rw [z_Rin0 (by ((try simp (disch := omega) only [Int32.lt_iff_toInt_lt, Int32.le_iff_toInt_le, ← Int32.toInt_inj, Int32.toInt_add, Int32.toInt_sub, Int32.toInt_mul, Int32.toInt_neg, z_bm, z_bm2, J_ti, J_toInt, z_cn, Int32.reduceToInt] at *); omega)), z_bind_some]
      exact z_pos rfl (k_sat_mk ⟨rfl, h⟩)
    unfold f_W_sure
    exact z_ite (fun _ => k_sat_mk hR) (fun q => z_neg (by ((try simp (disch := omega) only [Int32.lt_iff_toInt_lt, Int32.le_iff_toInt_le, ← Int32.toInt_inj, Int32.toInt_add, Int32.toInt_sub, Int32.toInt_mul, Int32.toInt_neg, z_bm, z_bm2, J_ti, J_toInt, z_cn, Int32.reduceToInt] at *); omega)) (k_sat_mk hR))
/-! RECORDS: record, records -/
def z_RW (n : Nat) (A B : Nat → Nat) (u : k_S) : Prop := u.1 2003 = J n ∧ z_RC 21 22 n A B u ∧ ∃ f : Nat → Nat, (∀ i, i < n → f i < n ∧ u.2.1 23 i = J (f i)) ∧ (∀ r, r < n → ∃ i, i < n ∧ f i = r) ∧ ∀ i j, i < j → j < n → A (f i) ≤ A (f j)
def z_RR (n : Nat) (A B : Nat → Nat) (u : k_S) : Prop := u.1 4235 = J n ∧ z_RC 64 65 n A B u
theorem z_R_in {u : k_S} (h : zR u) : ∃ (n : Nat) (A B : Nat → Nat), n ≤ 40 ∧ z_RW n A B u ∧ z_RR n A B u := by
  obtain ⟨n, A, B, f, hn, r1, r2, r3, r4, hf, hsu, hso⟩ := z_recs h
  exact ⟨n, A, B, hn, ⟨r1, r3, f, hf, hsu, hso⟩, r2, r4⟩
theorem z_R_out {u : k_S} {n : Nat} {A B : Nat → Nat} (hn : n ≤ 40) (h1 : z_RW n A B u) (h2 : z_RR n A B u) : zR u := by
  obtain ⟨r1, r3, f, hf, hsu, hso⟩ := h1
  obtain ⟨r2, r4⟩ := h2
  refine ⟨n, hn, r1, r2, fun i hi => ?_, f, hf, hsu, fun i j hij hj => ?_⟩
  · obtain ⟨a1, a2, a3, a4⟩ := r3 i hi
    obtain ⟨b1, b2, b3, b4⟩ := r4 i hi
    exact ⟨A i, B i, a1, a2, a3, b3, a4, b4⟩
  · have k1 := hf i (by omega)
    have k2 := hf j hj
    have k3 := hso i j hij hj
    have a1 := r3 (f i) k1.1
    have a2 := r3 (f j) k2.1
    rw [a1.2.2.1, a2.2.2.1, J_toInt (by omega), J_toInt (by omega)]
    omega
theorem z_RC_c {c1 c2 n : Nat} {A B A' B' : Nat → Nat} {u : k_S} (e : ∀ i, i < n → A' i = A i ∧ B' i = B i) (h : z_RC c1 c2 n A B u) : z_RC c1 c2 n A' B' u := by
  intro i hi
  rw [(e i hi).1, (e i hi).2]
  exact h i hi
theorem z_RW_c {n : Nat} {A B A' B' : Nat → Nat} {u : k_S} (e : ∀ i, i < n → A' i = A i ∧ B' i = B i) (h : z_RW n A B u) : z_RW n A' B' u := by
  obtain ⟨r1, r3, f, hf, hsu, hso⟩ := h
  refine ⟨r1, z_RC_c e r3, f, hf, hsu, fun i j hij hj => ?_⟩
  rw [(e (f i) (hf i (by omega)).1).1, (e (f j) (hf j hj).1).1]
  exact hso i j hij hj
theorem z_RW_f {F C : List Nat} {n : Nat} {A B : Nat → Nat} {u v : k_S} (h : z_fr F C u v) (d : F.elem 2003 = false ∧ C.elem 21 = false ∧ C.elem 22 = false ∧ C.elem 23 = false) (k : z_RW n A B u) : z_RW n A B v := by
  obtain ⟨r1, r3, f, hf, hsu, hso⟩ := k
  exact ⟨(h.1 2003 d.1).trans r1, z_RC_f h d.2.1 d.2.2.1 r3, f, by rw [h.2.1 23 d.2.2.2]; exact hf, hsu, hso⟩
theorem z_RR_f {F C : List Nat} {n : Nat} {A B : Nat → Nat} {u v : k_S} (h : z_fr F C u v) (d : F.elem 4235 = false ∧ C.elem 64 = false ∧ C.elem 65 = false) (k : z_RR n A B u) : z_RR n A B v :=
  ⟨(h.1 4235 d.1).trans k.1, z_RC_f h d.2.1 d.2.2 k.2⟩
theorem z_RaddW {n : Nat} {A B : Nat → Nat} {u : k_S} (hn : n < 40) (ha : A n ≤ 5000) (hb : B n < 40) (h : z_RW n A B u) : k_sat (f_Records_add (J (A n)) (J (B n)) u) (fun r v => r = J n ∧ z_fr [2003] [21, 22, 23] u v ∧ z_RW (n + 1) A B v) := by
  obtain ⟨r1, r3, f, hf, hsu, hso⟩ := h
  unfold f_Records_add
  rw [r1]
  refine z_let (z_neg (by (try simp (disch := omega) only [Int32.lt_iff_toInt_lt, Int32.le_iff_toInt_le, ← Int32.toInt_inj, Int32.toInt_add, Int32.toInt_sub, Int32.toInt_mul, Int32.toInt_neg, z_bm, z_bm2, J_ti, J_toInt, z_cn, Int32.reduceToInt]) <;> omega) (z_neg (by (try simp (disch := omega) only [Int32.lt_iff_toInt_lt, Int32.le_iff_toInt_le, ← Int32.toInt_inj, Int32.toInt_add, Int32.toInt_sub, Int32.toInt_mul, Int32.toInt_neg, z_bm, z_bm2, J_ti, J_toInt, z_cn, Int32.reduceToInt]) <;> omega) (z_neg (by (try simp (disch := omega) only [Int32.lt_iff_toInt_lt, Int32.le_iff_toInt_le, ← Int32.toInt_inj, Int32.toInt_add, Int32.toInt_sub, Int32.toInt_mul, Int32.toInt_neg, z_bm, z_bm2, J_ti, J_toInt, z_cn, Int32.reduceToInt]) <;> omega) (z_pos (by (try simp (disch := omega) only [Int32.lt_iff_toInt_lt, Int32.le_iff_toInt_le, ← Int32.toInt_inj, Int32.toInt_add, Int32.toInt_sub, Int32.toInt_mul, Int32.toInt_neg, z_bm, z_bm2, J_ti, J_toInt, z_cn, Int32.reduceToInt]) <;> omega) (z_ck (by (try simp (disch := omega) only [Int32.lt_iff_toInt_lt, Int32.le_iff_toInt_le, ← Int32.toInt_inj, Int32.toInt_add, Int32.toInt_sub, Int32.toInt_mul, Int32.toInt_neg, z_bm, z_bm2, J_ti, J_toInt, z_cn, Int32.reduceToInt]) <;> omega) (by (try simp (disch := omega) only [Int32.lt_iff_toInt_lt, Int32.le_iff_toInt_le, ← Int32.toInt_inj, Int32.toInt_add, Int32.toInt_sub, Int32.toInt_mul, Int32.toInt_neg, z_bm, z_bm2, J_ti, J_toInt, z_cn, Int32.reduceToInt]) <;> omega) (z_let (z_ck (by (try simp (disch := omega) only [Int32.lt_iff_toInt_lt, Int32.le_iff_toInt_le, ← Int32.toInt_inj, Int32.toInt_add, Int32.toInt_sub, Int32.toInt_mul, Int32.toInt_neg, z_bm, z_bm2, J_ti, J_toInt, z_cn, Int32.reduceToInt]) <;> omega) (by (try simp (disch := omega) only [Int32.lt_iff_toInt_lt, Int32.le_iff_toInt_le, ← Int32.toInt_inj, Int32.toInt_add, Int32.toInt_sub, Int32.toInt_mul, Int32.toInt_neg, z_bm, z_bm2, J_ti, J_toInt, z_cn, Int32.reduceToInt]) <;> omega) (z_let ?_))))))))
  rw [J_toNat (show n < 2147483648 by omega)]
  generalize hu3 : k_wA (k_wA u 21 n (J (A n))) 22 n (J (B n)) = u3
  have f3 : z_fr [] [21, 22] u u3 := by rw [← hu3]; exact (z_wA rfl).tr (z_wA rfl)
  have c3 : ∀ i, i < n + 1 → u3.2.1 21 i = J (A i) ∧ u3.2.1 22 i = J (B i) := by
    intro i hi
    rw [← hu3]
    simp only [k_wA, if_true, if_false, z_up]
    by_cases e : i = n
    · subst e; simp [z_up]
    · have := r3 i (by omega)
      simp [z_up, e, this.2.2.1, this.2.2.2]
  refine z_bind (fun y v => z_fr [] [23] u3 v ∧ ∃ i, i ≤ n ∧ y = J i ∧ (∀ j, j < i → v.2.1 23 j = J (f j)) ∧ (∀ j, i < j → j ≤ n → v.2.1 23 j = J (f (j - 1)) ∧ A n < A (f (j - 1))) ∧ (0 < i → A (f (i - 1)) ≤ A n)) (z_itr (P := fun m x v => z_fr [] [23] u3 v ∧ ∃ i, i ≤ n ∧ m = i ∧ x = (J i, J i) ∧ (∀ j, j < i → v.2.1 23 j = J (f j)) ∧ (∀ j, i < j → j ≤ n → v.2.1 23 j = J (f (j - 1)) ∧ A n < A (f (j - 1)))) (fun m x v hp => ?_) k_FU n (J n, J n) u3 (by unfold k_FU; omega) ⟨z_fr.rf, n, Nat.le_refl n, rfl, rfl, fun j hj => by rw [f3.2.1 23 rfl]; exact (hf j hj).2, fun j h1 h2 => by omega⟩) (fun y v hv => ?_)
  · obtain ⟨g1, i, hi, rfl, rfl, g2, g3⟩ := hp
    unfold f_Records_add_B59
    dsimp only
    by_cases h0 : m = 0
    · subst h0
      exact z_pos (Int32.le_refl _) (k_sat_mk (Or.inr ⟨_, rfl, g1, 0, by omega, rfl, g2, g3, fun q => by omega⟩))
    · refine z_neg (by (try simp (disch := omega) only [Int32.lt_iff_toInt_lt, Int32.le_iff_toInt_le, ← Int32.toInt_inj, Int32.toInt_add, Int32.toInt_sub, Int32.toInt_mul, Int32.toInt_neg, z_bm, z_bm2, J_ti, J_toInt, z_cn, Int32.reduceToInt]) <;> omega) ?_
      rw [z_Jm' (by omega), J_toNat (show m - 1 < 2147483648 by omega), J_toNat (show m < 2147483648 by omega)]
      have hfm := (hf (m - 1) (by omega)).1
      refine z_ck (by (try simp (disch := omega) only [Int32.lt_iff_toInt_lt, Int32.le_iff_toInt_le, ← Int32.toInt_inj, Int32.toInt_add, Int32.toInt_sub, Int32.toInt_mul, Int32.toInt_neg, z_bm, z_bm2, J_ti, J_toInt, z_cn, Int32.reduceToInt]) <;> omega) (by (try simp (disch := omega) only [Int32.lt_iff_toInt_lt, Int32.le_iff_toInt_le, ← Int32.toInt_inj, Int32.toInt_add, Int32.toInt_sub, Int32.toInt_mul, Int32.toInt_neg, z_bm, z_bm2, J_ti, J_toInt, z_cn, Int32.reduceToInt]) <;> omega) ?_
      rw [g2 (m - 1) (by omega), z_Records_nightOf (by omega), z_bind_some, g1.2.1 21 rfl, (c3 _ (by omega)).1]
      have hA := (r3 _ hfm).1
      refine z_ite (fun q => k_sat_mk (Or.inr ⟨_, rfl, g1, m, hi, rfl, g2, g3, fun _ => by ((try simp (disch := omega) only [Int32.lt_iff_toInt_lt, Int32.le_iff_toInt_le, ← Int32.toInt_inj, Int32.toInt_add, Int32.toInt_sub, Int32.toInt_mul, Int32.toInt_neg, z_bm, z_bm2, J_ti, J_toInt, z_cn, Int32.reduceToInt] at *); omega)⟩)) (fun q => ?_)
      refine z_ck (by (try simp (disch := omega) only [Int32.lt_iff_toInt_lt, Int32.le_iff_toInt_le, ← Int32.toInt_inj, Int32.toInt_add, Int32.toInt_sub, Int32.toInt_mul, Int32.toInt_neg, z_bm, z_bm2, J_ti, J_toInt, z_cn, Int32.reduceToInt]) <;> omega) (by (try simp (disch := omega) only [Int32.lt_iff_toInt_lt, Int32.le_iff_toInt_le, ← Int32.toInt_inj, Int32.toInt_add, Int32.toInt_sub, Int32.toInt_mul, Int32.toInt_neg, z_bm, z_bm2, J_ti, J_toInt, z_cn, Int32.reduceToInt]) <;> omega) (z_ck (by (try simp (disch := omega) only [Int32.lt_iff_toInt_lt, Int32.le_iff_toInt_le, ← Int32.toInt_inj, Int32.toInt_add, Int32.toInt_sub, Int32.toInt_mul, Int32.toInt_neg, z_bm, z_bm2, J_ti, J_toInt, z_cn, Int32.reduceToInt]) <;> omega) (by (try simp (disch := omega) only [Int32.lt_iff_toInt_lt, Int32.le_iff_toInt_le, ← Int32.toInt_inj, Int32.toInt_add, Int32.toInt_sub, Int32.toInt_mul, Int32.toInt_neg, z_bm, z_bm2, J_ti, J_toInt, z_cn, Int32.reduceToInt]) <;> omega) (z_let (z_let (k_sat_mk (Or.inl ⟨_, m - 1, rfl, by omega, g1.tr (z_wA rfl), m - 1, by omega, rfl, ?_, fun j hj => ?_, fun j h1 h2 => ?_⟩)))))
      · have : J m + Int32.ofInt (-1) = J (m - 1) := by
          rw [← z_Jm' (by omega), Int32.sub_eq_add_neg]; rfl
        rw [this]
      · simp only [k_wA, if_true, z_up]
        rw [if_neg (by omega)]
        exact g2 j (by omega)
      · simp only [k_wA, if_true, z_up]
        by_cases e : j = m
        · subst e
          rw [if_pos rfl, g2 (j - 1) (by omega)]
          exact ⟨rfl, by ((try simp (disch := omega) only [Int32.lt_iff_toInt_lt, Int32.le_iff_toInt_le, ← Int32.toInt_inj, Int32.toInt_add, Int32.toInt_sub, Int32.toInt_mul, Int32.toInt_neg, z_bm, z_bm2, J_ti, J_toInt, z_cn, Int32.reduceToInt] at *); omega)⟩
        · rw [if_neg e]
          exact g3 j (by omega) h2
  · obtain ⟨g1, i, hi, rfl, g2, g3, g4⟩ := hv
    unfold f_Records_add_J109
    refine z_ck (by (try simp (disch := omega) only [Int32.lt_iff_toInt_lt, Int32.le_iff_toInt_le, ← Int32.toInt_inj, Int32.toInt_add, Int32.toInt_sub, Int32.toInt_mul, Int32.toInt_neg, z_bm, z_bm2, J_ti, J_toInt, z_cn, Int32.reduceToInt]) <;> omega) (by (try simp (disch := omega) only [Int32.lt_iff_toInt_lt, Int32.le_iff_toInt_le, ← Int32.toInt_inj, Int32.toInt_add, Int32.toInt_sub, Int32.toInt_mul, Int32.toInt_neg, z_bm, z_bm2, J_ti, J_toInt, z_cn, Int32.reduceToInt]) <;> omega) (z_let (z_let (k_sat_mk ⟨rfl, ?_, ?_⟩)))
    · exact (((f3.mono rfl rfl).tr (g1.mono rfl rfl)).tr (z_wA rfl)).tr (z_wF rfl)
    · rw [J_toNat (show i < 2147483648 by omega)]
      have e23 : ∀ j, (k_wF (k_wA v 23 i (J n)) 2003 ((k_wA v 23 i (J n)).1 2003 + 1)).2.1 23 j = if j = i then J n else v.2.1 23 j := fun j => by simp [k_wF, k_wA, z_up]
      have e21 : (k_wF (k_wA v 23 i (J n)) 2003 ((k_wA v 23 i (J n)).1 2003 + 1)).2.1 21 = u3.2.1 21 := by rw [← g1.2.1 21 rfl]; simp [k_wF, k_wA]
      have e22 : (k_wF (k_wA v 23 i (J n)) 2003 ((k_wA v 23 i (J n)).1 2003 + 1)).2.1 22 = u3.2.1 22 := by rw [← g1.2.1 22 rfl]; simp [k_wF, k_wA]
      refine ⟨?_, fun r hr => ?_, fun j => if j < i then f j else if j = i then n else f (j - 1), fun j hj => ?_, fun r hr => ?_, fun j k hjk hk => ?_⟩
      · have : v.1 2003 = J n := by rw [g1.1 2003 rfl, f3.1 2003 rfl, r1]
        simp [k_wF, k_wA, this, z_Jp]
      · rw [e21, e22]
        refine ⟨?_, ?_, (c3 r hr).1, (c3 r hr).2⟩
        · by_cases e : r = n
          · rw [e]; exact ha
          · exact (r3 r (by omega)).1
        · by_cases e : r = n
          · rw [e]; exact hb
          · exact (r3 r (by omega)).2.1
      · rw [e23]
        dsimp only
        by_cases q : j < i
        · rw [if_pos q, if_neg (by omega), g2 j q]
          exact ⟨by have := (hf j (by omega)).1; omega, rfl⟩
        · rw [if_neg q]
          by_cases q2 : j = i
          · rw [if_pos q2, if_pos q2]
            exact ⟨by omega, rfl⟩
          · rw [if_neg q2, if_neg q2, (g3 j (by omega) (by omega)).1]
            exact ⟨by have := (hf (j - 1) (by omega)).1; omega, rfl⟩
      · by_cases e : r = n
        · exact ⟨i, by omega, by dsimp only; rw [if_neg (Nat.lt_irrefl i), if_pos rfl, e]⟩
        · obtain ⟨j, hj, ej⟩ := hsu r (by omega)
          by_cases q : j < i
          · exact ⟨j, by omega, by dsimp only; rw [if_pos q]; exact ej⟩
          · exact ⟨j + 1, by omega, by dsimp only; rw [if_neg (by omega), if_neg (by omega)]; exact ej⟩
      · show A (if j < i then f j else if j = i then n else f (j - 1)) ≤ A (if k < i then f k else if k = i then n else f (k - 1))
        have hs' : ∀ x y, x ≤ y → y < n → A (f x) ≤ A (f y) := fun x y hxy hy => by
          by_cases e : x = y
          · rw [e]; exact Nat.le_refl _
          · exact hso x y (by omega) hy
        by_cases q : j < i
        · rw [if_pos q]
          by_cases q2 : k < i
          · rw [if_pos q2]; exact hs' j k (by omega) (by omega)
          · rw [if_neg q2]
            by_cases q3 : k = i
            · rw [if_pos q3]
              exact Nat.le_trans (hs' j (i - 1) (by omega) (by omega)) (g4 (by omega))
            · rw [if_neg q3]; exact hs' j (k - 1) (by omega) (by omega)
        · rw [if_neg q, if_neg (show ¬ k < i by omega), if_neg (show ¬ k = i by omega)]
          by_cases q3 : j = i
          · rw [if_pos q3]
            have := (g3 k (by omega) (by omega)).2
            omega
          · rw [if_neg q3]; exact hs' (j - 1) (k - 1) (by omega) (by omega)
theorem z_RaddR {n : Nat} {A B : Nat → Nat} {u : k_S} (hn : n < 40) (ha : A n ≤ 5000) (hb : B n < 40) (h : z_RR n A B u) : k_sat (f_R_addRecord (J (A n)) (J (B n)) u) (fun _ v => z_fr [4235] [64, 65] u v ∧ z_RR (n + 1) A B v) := by
  obtain ⟨r2, r4⟩ := h
  unfold f_R_addRecord
  have e1 : ∀ x, (k_wA u 64 n x).1 4235 = J n := fun x => r2
  have e2 : ∀ x y, (k_wA (k_wA u 64 n x) 65 n y).1 4235 = J n := fun x y => r2
  rw [r2, J_toNat (show n < 2147483648 by omega)]
  refine z_ck (by (try simp (disch := omega) only [Int32.lt_iff_toInt_lt, Int32.le_iff_toInt_le, ← Int32.toInt_inj, Int32.toInt_add, Int32.toInt_sub, Int32.toInt_mul, Int32.toInt_neg, z_bm, z_bm2, J_ti, J_toInt, z_cn, Int32.reduceToInt]) <;> omega) (by (try simp (disch := omega) only [Int32.lt_iff_toInt_lt, Int32.le_iff_toInt_le, ← Int32.toInt_inj, Int32.toInt_add, Int32.toInt_sub, Int32.toInt_mul, Int32.toInt_neg, z_bm, z_bm2, J_ti, J_toInt, z_cn, Int32.reduceToInt]) <;> omega) (z_let ?_)
  rw [e1, J_toNat (show n < 2147483648 by omega)]
  refine z_ck (by (try simp (disch := omega) only [Int32.lt_iff_toInt_lt, Int32.le_iff_toInt_le, ← Int32.toInt_inj, Int32.toInt_add, Int32.toInt_sub, Int32.toInt_mul, Int32.toInt_neg, z_bm, z_bm2, J_ti, J_toInt, z_cn, Int32.reduceToInt]) <;> omega) (by (try simp (disch := omega) only [Int32.lt_iff_toInt_lt, Int32.le_iff_toInt_le, ← Int32.toInt_inj, Int32.toInt_add, Int32.toInt_sub, Int32.toInt_mul, Int32.toInt_neg, z_bm, z_bm2, J_ti, J_toInt, z_cn, Int32.reduceToInt]) <;> omega) (z_let (z_let (k_sat_mk ⟨((z_wA rfl).tr (z_wA rfl)).tr (z_wF rfl), ?_, fun i hi => ?_⟩)))
  · simp [k_wF, k_wA, r2, z_Jp]
  · by_cases e : i = n
    · subst e
      refine ⟨ha, hb, ?_, ?_⟩ <;> simp [k_wF, k_wA, z_up]
    · obtain ⟨a1, a2, a3, a4⟩ := r4 i (by omega)
      refine ⟨a1, a2, ?_, ?_⟩
      · simp [k_wF, k_wA, z_up, e, a3]
      · simp [k_wF, k_wA, z_up, e, a4]
/-! record -/
theorem z_isRec (x y : Int32) : ((0 ≤ x.toInt ∧ x.toInt ≤ 5000 ∧ 0 ≤ y.toInt ∧ y.toInt < 40) ∧ ∀ u, f_W_isRecord x y u = some (1, u) ∧ f_R_isRecord x y u = some (1, u)) ∨ (¬ (0 ≤ x.toInt ∧ x.toInt ≤ 5000 ∧ 0 ≤ y.toInt ∧ y.toInt < 40) ∧ ∀ u, f_W_isRecord x y u = some (0, u) ∧ f_R_isRecord x y u = some (0, u)) := by
  unfold f_W_isRecord f_R_isRecord
  by_cases hx : 0 ≤ x.toInt ∧ x.toInt ≤ 5000
  · obtain ⟨h1, h2⟩ := hx
    by_cases hy : 0 ≤ y.toInt ∧ y.toInt < 40
    · obtain ⟨h3, h4⟩ := hy
      refine Or.inl ⟨⟨h1, h2, h3, h4⟩, fun u => ⟨?_, ?_⟩⟩
      · rw [if_neg (by (try simp (disch := omega) only [Int32.lt_iff_toInt_lt, Int32.le_iff_toInt_le, ← Int32.toInt_inj, Int32.toInt_add, Int32.toInt_sub, Int32.toInt_mul, Int32.toInt_neg, z_bm, z_bm2, J_ti, J_toInt, z_cn, Int32.reduceToInt]) <;> omega), if_neg (by (try simp (disch := omega) only [Int32.lt_iff_toInt_lt, Int32.le_iff_toInt_le, ← Int32.toInt_inj, Int32.toInt_add, Int32.toInt_sub, Int32.toInt_mul, Int32.toInt_neg, z_bm, z_bm2, J_ti, J_toInt, z_cn, Int32.reduceToInt]) <;> omega), if_neg (by (try simp (disch := omega) only [Int32.lt_iff_toInt_lt, Int32.le_iff_toInt_le, ← Int32.toInt_inj, Int32.toInt_add, Int32.toInt_sub, Int32.toInt_mul, Int32.toInt_neg, z_bm, z_bm2, J_ti, J_toInt, z_cn, Int32.reduceToInt]) <;> omega), if_neg (by (try simp (disch := omega) only [Int32.lt_iff_toInt_lt, Int32.le_iff_toInt_le, ← Int32.toInt_inj, Int32.toInt_add, Int32.toInt_sub, Int32.toInt_mul, Int32.toInt_neg, z_bm, z_bm2, J_ti, J_toInt, z_cn, Int32.reduceToInt]) <;> omega)]
      · rw [z_Rin1 (by (try simp (disch := omega) only [Int32.lt_iff_toInt_lt, Int32.le_iff_toInt_le, ← Int32.toInt_inj, Int32.toInt_add, Int32.toInt_sub, Int32.toInt_mul, Int32.toInt_neg, z_bm, z_bm2, J_ti, J_toInt, z_cn, Int32.reduceToInt]) <;> omega) (by (try simp (disch := omega) only [Int32.lt_iff_toInt_lt, Int32.le_iff_toInt_le, ← Int32.toInt_inj, Int32.toInt_add, Int32.toInt_sub, Int32.toInt_mul, Int32.toInt_neg, z_bm, z_bm2, J_ti, J_toInt, z_cn, Int32.reduceToInt]) <;> omega), z_bind_some, if_neg (by decide), z_Rin1 (by (try simp (disch := omega) only [Int32.lt_iff_toInt_lt, Int32.le_iff_toInt_le, ← Int32.toInt_inj, Int32.toInt_add, Int32.toInt_sub, Int32.toInt_mul, Int32.toInt_neg, z_bm, z_bm2, J_ti, J_toInt, z_cn, Int32.reduceToInt]) <;> omega) (by (try simp (disch := omega) only [Int32.lt_iff_toInt_lt, Int32.le_iff_toInt_le, ← Int32.toInt_inj, Int32.toInt_add, Int32.toInt_sub, Int32.toInt_mul, Int32.toInt_neg, z_bm, z_bm2, J_ti, J_toInt, z_cn, Int32.reduceToInt]) <;> omega), z_bind_some, if_neg (by decide)]
    · refine Or.inr ⟨fun q => hy ⟨q.2.2.1, q.2.2.2⟩, fun u => ⟨?_, ?_⟩⟩
      · rw [if_neg (by (try simp (disch := omega) only [Int32.lt_iff_toInt_lt, Int32.le_iff_toInt_le, ← Int32.toInt_inj, Int32.toInt_add, Int32.toInt_sub, Int32.toInt_mul, Int32.toInt_neg, z_bm, z_bm2, J_ti, J_toInt, z_cn, Int32.reduceToInt]) <;> omega), if_neg (by (try simp (disch := omega) only [Int32.lt_iff_toInt_lt, Int32.le_iff_toInt_le, ← Int32.toInt_inj, Int32.toInt_add, Int32.toInt_sub, Int32.toInt_mul, Int32.toInt_neg, z_bm, z_bm2, J_ti, J_toInt, z_cn, Int32.reduceToInt]) <;> omega)]
        by_cases a : y < 0
        · rw [if_pos a]
        · rw [if_neg a, if_pos (by ((try simp (disch := omega) only [Int32.lt_iff_toInt_lt, Int32.le_iff_toInt_le, ← Int32.toInt_inj, Int32.toInt_add, Int32.toInt_sub, Int32.toInt_mul, Int32.toInt_neg, z_bm, z_bm2, J_ti, J_toInt, z_cn, Int32.reduceToInt] at *); omega))]
      · rw [z_Rin1 (by (try simp (disch := omega) only [Int32.lt_iff_toInt_lt, Int32.le_iff_toInt_le, ← Int32.toInt_inj, Int32.toInt_add, Int32.toInt_sub, Int32.toInt_mul, Int32.toInt_neg, z_bm, z_bm2, J_ti, J_toInt, z_cn, Int32.reduceToInt]) <;> omega) (by (try simp (disch := omega) only [Int32.lt_iff_toInt_lt, Int32.le_iff_toInt_le, ← Int32.toInt_inj, Int32.toInt_add, Int32.toInt_sub, Int32.toInt_mul, Int32.toInt_neg, z_bm, z_bm2, J_ti, J_toInt, z_cn, Int32.reduceToInt]) <;> omega), z_bind_some, if_neg (by decide), z_Rin0 (by ((try simp (disch := omega) only [Int32.lt_iff_toInt_lt, Int32.le_iff_toInt_le, ← Int32.toInt_inj, Int32.toInt_add, Int32.toInt_sub, Int32.toInt_mul, Int32.toInt_neg, z_bm, z_bm2, J_ti, J_toInt, z_cn, Int32.reduceToInt] at *); omega)), z_bind_some, if_pos rfl]
  · refine Or.inr ⟨fun q => hx ⟨q.1, q.2.1⟩, fun u => ⟨?_, ?_⟩⟩
    · by_cases a : x < 0
      · rw [if_pos a]
      · rw [if_neg a, if_pos (by ((try simp (disch := omega) only [Int32.lt_iff_toInt_lt, Int32.le_iff_toInt_le, ← Int32.toInt_inj, Int32.toInt_add, Int32.toInt_sub, Int32.toInt_mul, Int32.toInt_neg, z_bm, z_bm2, J_ti, J_toInt, z_cn, Int32.reduceToInt] at *); omega))]
    · rw [z_Rin0 (by ((try simp (disch := omega) only [Int32.lt_iff_toInt_lt, Int32.le_iff_toInt_le, ← Int32.toInt_inj, Int32.toInt_add, Int32.toInt_sub, Int32.toInt_mul, Int32.toInt_neg, z_bm, z_bm2, J_ti, J_toInt, z_cn, Int32.reduceToInt] at *); omega)), z_bind_some, if_pos rfl]
def z_uN (A : Nat → Nat) (n a : Nat) : Nat → Nat := fun i => if i = n then a else A i
theorem z_record (a b : Int32) (u : k_S) (h : zI u) : z_pair (f_W_record a b) (f_R_record a b) u zI := by
  refine z_pair_of ?_
  unfold f_W_record
  rcases z_isRec a b with ⟨⟨h1, h2, h3, h4⟩, hi⟩ | ⟨-, hi⟩
  · rw [(hi u).1, z_bind_some]
    refine z_neg (by decide) ?_
    obtain ⟨x, rfl, hx, -⟩ := J_of h1
    obtain ⟨y, rfl, hy, -⟩ := J_of h3
    obtain ⟨n, A, B, hn, hW, hR⟩ := z_R_in h.2.2.2.2.2.1
    by_cases e : n = 40
    · refine z_neg (by rw [hW.1]; (try simp (disch := omega) only [Int32.lt_iff_toInt_lt, Int32.le_iff_toInt_le, ← Int32.toInt_inj, Int32.toInt_add, Int32.toInt_sub, Int32.toInt_mul, Int32.toInt_neg, z_bm, z_bm2, J_ti, J_toInt, z_cn, Int32.reduceToInt]) <;> omega) (k_sat_mk ?_)
      unfold f_R_record
      rw [(hi u).2, z_bind_some]
      exact z_neg (by decide) (z_pos (by rw [hR.1, e]; rfl) (k_sat_mk ⟨rfl, h⟩))
    · have eA : z_uN A n x n = x := if_pos rfl
      have eB : z_uN B n y n = y := if_pos rfl
      have ec : ∀ i, i < n → z_uN A n x i = A i ∧ z_uN B n y i = B i := fun i hi => ⟨if_neg (by omega), if_neg (by omega)⟩
      have kW := z_RaddW (A := z_uN A n x) (B := z_uN B n y) (by omega) (by rw [eA]; omega) (by rw [eB]; omega) (z_RW_c ec hW)
      rw [eA, eB] at kW
      refine z_pos (by rw [hW.1]; (try simp (disch := omega) only [Int32.lt_iff_toInt_lt, Int32.le_iff_toInt_le, ← Int32.toInt_inj, Int32.toInt_add, Int32.toInt_sub, Int32.toInt_mul, Int32.toInt_neg, z_bm, z_bm2, J_ti, J_toInt, z_cn, Int32.reduceToInt]) <;> omega) (z_bind _ kW (fun r v hv => k_sat_mk ?_))
      obtain ⟨rfl, g1, g2⟩ := hv
      have hR2 : z_RR n (z_uN A n x) (z_uN B n y) v := z_RR_f g1 (by decide) ⟨hR.1, z_RC_c ec hR.2⟩
      have kR := z_RaddR (A := z_uN A n x) (B := z_uN B n y) (by omega) (by rw [eA]; omega) (by rw [eB]; omega) hR2
      rw [eA, eB] at kR
      unfold f_R_record
      rw [(hi v).2, z_bind_some]
      refine z_neg (by decide) (z_neg (by rw [hR2.1]; (try simp (disch := omega) only [Int32.lt_iff_toInt_lt, Int32.le_iff_toInt_le, ← Int32.toInt_inj, Int32.toInt_add, Int32.toInt_sub, Int32.toInt_mul, Int32.toInt_neg, z_bm, z_bm2, J_ti, J_toInt, z_cn, Int32.reduceToInt]) <;> omega) (z_bind _ kR (fun _ v2 hv2 => k_sat_mk ⟨?_, ?_⟩)))
      · rw [hv2.2.1, z_Jm]
      · exact zI_R h ((g1.mono rfl rfl).tr (hv2.1.mono rfl rfl)) (z_R_out (by omega) (z_RW_f hv2.1 (by decide) g2) hv2.2)
  · rw [(hi u).1, z_bind_some]
    refine z_pos rfl (k_sat_mk ?_)
    unfold f_R_record
    rw [(hi u).2, z_bind_some]
    exact z_pos rfl (k_sat_mk ⟨rfl, h⟩)
/-! records: the loops -/
theorem z_cl {x y : Int64} : (lg_cmp x y < 0) ↔ x.toInt < y.toInt := by
  have := lg_cmp_ge x y
  rw [Int64.le_iff_toInt_le] at this
  constructor
  · intro h
    apply Int.not_le.mp
    intro q
    have := this.mpr q
    ((try simp (disch := omega) only [Int32.lt_iff_toInt_lt, Int32.le_iff_toInt_le, ← Int32.toInt_inj, Int32.toInt_add, Int32.toInt_sub, Int32.toInt_mul, Int32.toInt_neg, z_bm, z_bm2, J_ti, J_toInt, z_cn, Int32.reduceToInt] at *); omega)
  · intro h
    have h2 : ¬ (0 ≤ lg_cmp x y) := fun q => by have := this.mp q; omega
    ((try simp (disch := omega) only [Int32.lt_iff_toInt_lt, Int32.le_iff_toInt_le, ← Int32.toInt_inj, Int32.toInt_add, Int32.toInt_sub, Int32.toInt_mul, Int32.toInt_neg, z_bm, z_bm2, J_ti, J_toInt, z_cn, Int32.reduceToInt] at *); omega)
theorem z_cg {x y : Int64} : (0 ≤ lg_cmp x y) ↔ y.toInt ≤ x.toInt := by
  rw [lg_cmp_ge x y, Int64.le_iff_toInt_le]
theorem z_t5 {p : Int32} {k : Nat} (hk : k ≤ 40) : (p.toInt64 + (2 * J k).toInt64).toInt = p.toInt + 2 * k := by
  rw [show (2 : Int32) = J 2 from rfl, J_mul, Int64.toInt_add, Int32.toInt_toInt64, Int32.toInt_toInt64, J_toInt (by omega)]
  have := z_rg p
  rw [Int.bmod_eq_of_le_mul_two] <;> omega
theorem z_t6 {p : Int32} {k : Nat} (hk : k ≤ 40) : (p.toInt64 + (2 * J k).toInt64 + 1).toInt = p.toInt + 2 * k + 1 := by
  rw [Int64.toInt_add, z_t5 hk, show (1 : Int64).toInt = 1 from rfl]
  have := z_rg p
  rw [Int.bmod_eq_of_le_mul_two] <;> omega
theorem z_t7 {q k : Nat} (hq : q < 60) (hk : k ≤ 40) : ((J q).toInt64 + (2 * J k).toInt64).toInt32 = J (q + 2 * k) := by
  apply Int32.toInt.inj
  rw [Int64.toInt_toInt32, z_t5 hk, J_toInt (by omega), J_toInt (by omega)]
  rw [Int.bmod_eq_of_le_mul_two] <;> omega
theorem z_hasE {s z : Nat} {u : k_S} (hs : s < 6) (hz : z ≤ 60) (e39 : u.2.1 39 s = 1) (e40 : u.2.1 40 s = J z) (i : Int32) : f_Shelves_hasElement (J s) i u = some (if 0 ≤ i.toInt ∧ i.toInt < z then 1 else 0, u) := by
  unfold f_Shelves_hasElement
  rw [z_SheldBy (by (try simp (disch := omega) only [Int32.lt_iff_toInt_lt, Int32.le_iff_toInt_le, ← Int32.toInt_inj, Int32.toInt_add, Int32.toInt_sub, Int32.toInt_mul, Int32.toInt_neg, z_bm, z_bm2, J_ti, J_toInt, z_cn, Int32.reduceToInt]) <;> omega) (by (try simp (disch := omega) only [Int32.lt_iff_toInt_lt, Int32.le_iff_toInt_le, ← Int32.toInt_inj, Int32.toInt_add, Int32.toInt_sub, Int32.toInt_mul, Int32.toInt_neg, z_bm, z_bm2, J_ti, J_toInt, z_cn, Int32.reduceToInt]) <;> omega), z_bind_some, J_toNat (by omega), e39, if_neg (by decide), if_neg (by decide)]
  by_cases a : i < 0
  · rw [if_pos a, if_neg (by ((try simp (disch := omega) only [Int32.lt_iff_toInt_lt, Int32.le_iff_toInt_le, ← Int32.toInt_inj, Int32.toInt_add, Int32.toInt_sub, Int32.toInt_mul, Int32.toInt_neg, z_bm, z_bm2, J_ti, J_toInt, z_cn, Int32.reduceToInt] at *); omega))]
  · rw [if_neg a, z_Shelves_sizeOf hs, z_bind_some, e40]
    by_cases b : J z ≤ i
    · rw [if_pos b, if_neg (by ((try simp (disch := omega) only [Int32.lt_iff_toInt_lt, Int32.le_iff_toInt_le, ← Int32.toInt_inj, Int32.toInt_add, Int32.toInt_sub, Int32.toInt_mul, Int32.toInt_neg, z_bm, z_bm2, J_ti, J_toInt, z_cn, Int32.reduceToInt] at *); omega))]
    · rw [if_neg b, if_pos (by ((try simp (disch := omega) only [Int32.lt_iff_toInt_lt, Int32.le_iff_toInt_le, ← Int32.toInt_inj, Int32.toInt_add, Int32.toInt_sub, Int32.toInt_mul, Int32.toInt_neg, z_bm, z_bm2, J_ti, J_toInt, z_cn, Int32.reduceToInt] at *); omega))]
theorem z_hasE1 {s z j : Nat} {u : k_S} (hs : s < 6) (hz : z ≤ 60) (e39 : u.2.1 39 s = 1) (e40 : u.2.1 40 s = J z) (h : j < z) : f_Shelves_hasElement (J s) (J j) u = some (1, u) := by
  rw [z_hasE hs hz e39 e40, if_pos (by rw [J_toInt (by omega)]; omega)]
theorem z_hasE0 {s z : Nat} {i : Int32} {u : k_S} (hs : s < 6) (hz : z ≤ 60) (e39 : u.2.1 39 s = 1) (e40 : u.2.1 40 s = J z) (h : i.toInt < 0 ∨ (z : Int) ≤ i.toInt) : f_Shelves_hasElement (J s) i u = some (0, u) := by
  rw [z_hasE hs hz e39 e40, if_neg (by omega)]
def z_rk (X : Nat → Int64) (q z n0 k : Nat) : Prop := q + 2 * k + 1 < z ∧ n0 + k < 40 ∧ 0 ≤ ((X (q + 2 * k)).toInt32).toInt ∧ ((X (q + 2 * k)).toInt32).toInt ≤ 5000 ∧ 0 ≤ ((X (q + 2 * k + 1)).toInt32).toInt ∧ ((X (q + 2 * k + 1)).toInt32).toInt < 40
def z_apA (X : Nat → Int64) (q n0 : Nat) (A : Nat → Nat) (i : Nat) : Nat := if i < n0 then A i else ((X (q + 2 * (i - n0))).toInt32).toInt.toNat
def z_apB (X : Nat → Int64) (q n0 : Nat) (A : Nat → Nat) (i : Nat) : Nat := if i < n0 then A i else ((X (q + 2 * (i - n0) + 1)).toInt32).toInt.toNat
theorem z_ap_k {X : Nat → Int64} {q z n0 k : Nat} {A B : Nat → Nat} (h : z_rk X q z n0 k) : z_apA X q n0 A (n0 + k) ≤ 5000 ∧ z_apB X q n0 B (n0 + k) < 40 ∧ (X (q + 2 * k)).toInt32 = J (z_apA X q n0 A (n0 + k)) ∧ (X (q + 2 * k + 1)).toInt32 = J (z_apB X q n0 B (n0 + k)) := by
  obtain ⟨-, -, h1, h2, h3, h4⟩ := h
  have a : z_apA X q n0 A (n0 + k) = ((X (q + 2 * k)).toInt32).toInt.toNat := by unfold z_apA; rw [if_neg (by omega), show n0 + k - n0 = k by omega]
  have b : z_apB X q n0 B (n0 + k) = ((X (q + 2 * k + 1)).toInt32).toInt.toNat := by unfold z_apB; rw [if_neg (by omega), show n0 + k - n0 = k by omega]
  rw [a, b]
  refine ⟨by omega, by omega, ?_, ?_⟩
  · apply Int32.toInt.inj
    rw [J_toInt (by omega)]; omega
  · apply Int32.toInt.inj
    rw [J_toInt (by omega)]; omega
theorem z_Svalue {s j : Nat} {u : k_S} (hs : s < 6) (hj : j < 60) : f_Shelves_valueAt (J s) (J j) u = some (u.2.2 41 (60 * s + j), u) := by
  unfold f_Shelves_valueAt
  simp only [k_let]
  rw [J_60, if_neg (by (try simp (disch := omega) only [Int32.lt_iff_toInt_lt, Int32.le_iff_toInt_le, ← Int32.toInt_inj, Int32.toInt_add, Int32.toInt_sub, Int32.toInt_mul, Int32.toInt_neg, z_bm, z_bm2, J_ti, J_toInt, z_cn, Int32.reduceToInt]) <;> omega), if_neg (by (try simp (disch := omega) only [Int32.lt_iff_toInt_lt, Int32.le_iff_toInt_le, ← Int32.toInt_inj, Int32.toInt_add, Int32.toInt_sub, Int32.toInt_mul, Int32.toInt_neg, z_bm, z_bm2, J_ti, J_toInt, z_cn, Int32.reduceToInt]) <;> omega), z_cko _ (by (try simp (disch := omega) only [Int32.lt_iff_toInt_lt, Int32.le_iff_toInt_le, ← Int32.toInt_inj, Int32.toInt_add, Int32.toInt_sub, Int32.toInt_mul, Int32.toInt_neg, z_bm, z_bm2, J_ti, J_toInt, z_cn, Int32.reduceToInt]) <;> omega) (by (try simp (disch := omega) only [Int32.lt_iff_toInt_lt, Int32.le_iff_toInt_le, ← Int32.toInt_inj, Int32.toInt_add, Int32.toInt_sub, Int32.toInt_mul, Int32.toInt_neg, z_bm, z_bm2, J_ti, J_toInt, z_cn, Int32.reduceToInt]) <;> omega), J_toNat (show 60 * s + j < 2147483648 by omega)]
theorem z_recsW {u : k_S} {n0 s q z N : Nat} {A B : Nat → Nat} {X : Nat → Int64} (hs : s < 6) (hz : z ≤ 60) (hq : q < 60) (hN : N ≤ 30) (e39 : u.2.1 39 s = 1) (e40 : u.2.1 40 s = J z) (hX : ∀ j, j < 60 → u.2.2 41 (60 * s + j) = X j) (hn : n0 ≤ 40) (h : z_RW n0 (z_apA X q n0 A) (z_apB X q n0 B) u) : k_sat (f_W_records_J49 (J s) (J q) (J N) u) (fun r v => z_fr [2003] [21, 22, 23] u v ∧ ∃ m, m ≤ N ∧ r = J m ∧ z_RW (n0 + m) (z_apA X q n0 A) (z_apB X q n0 B) v ∧ (∀ k, k < m → z_rk X q z n0 k) ∧ (m = N ∨ ¬ z_rk X q z n0 m)) := by
  unfold f_W_records_J49
  refine z_bind (fun y v => z_fr [2003] [21, 22, 23] u v ∧ ∃ m, m ≤ N ∧ (y = .inl (J m) ∨ y = .inr () ∧ m = N) ∧ z_RW (n0 + m) (z_apA X q n0 A) (z_apB X q n0 B) v ∧ (∀ k, k < m → z_rk X q z n0 k) ∧ (m = N ∨ ¬ z_rk X q z n0 m)) (z_for 0 N (fun k v => z_fr [2003] [21, 22, 23] u v ∧ z_RW (n0 + k) (z_apA X q n0 A) (z_apB X q n0 B) v ∧ ∀ k', k' < k → z_rk X q z n0 k') (by omega) (Nat.zero_le N) ⟨z_fr.rf, h, fun k hk => by omega⟩ (fun k v _ hk hp => ?_) (fun v hp => ?_)) (fun y v hv => ?_)
  · obtain ⟨g1, g2, g3⟩ := hp
    have stop : ¬ z_rk X q z n0 k → k_sat (some ((Sum.inr (Sum.inl (J k)) : Int32 ⊕ (Int32 ⊕ Unit)), v)) (fun z_1 u' => (z_1 = .inl (J k + Int32.ofInt 1) ∧ z_fr [2003] [21, 22, 23] u u' ∧ z_RW (n0 + (k + 1)) (z_apA X q n0 A) (z_apB X q n0 B) u' ∧ ∀ k', k' < k + 1 → z_rk X q z n0 k') ∨ ∃ y, z_1 = .inr y ∧ z_fr [2003] [21, 22, 23] u u' ∧ ∃ m, m ≤ N ∧ (y = .inl (J m) ∨ y = .inr () ∧ m = N) ∧ z_RW (n0 + m) (z_apA X q n0 A) (z_apB X q n0 B) u' ∧ (∀ k, k < m → z_rk X q z n0 k) ∧ (m = N ∨ ¬ z_rk X q z n0 m)) := fun c => k_sat_mk (Or.inr ⟨_, rfl, g1, k, by omega, Or.inl rfl, g2, g3, Or.inr c⟩)
    have d39 : v.2.1 39 s = 1 := (congrFun (g1.2.1 39 rfl) s).trans e39
    have d40 : v.2.1 40 s = J z := (congrFun (g1.2.1 40 rfl) s).trans e40
    have dX : ∀ j, j < 60 → v.2.2 41 (60 * s + j) = X j := fun j hj => by rw [g1.2.2 41 rfl]; exact hX j hj
    unfold f_W_records_B52
    rw [show (2 : Int32) = J 2 from rfl, J_mul, J_add]
    refine z_neg (by (try simp (disch := omega) only [Int32.lt_iff_toInt_lt, Int32.le_iff_toInt_le, ← Int32.toInt_inj, Int32.toInt_add, Int32.toInt_sub, Int32.toInt_mul, Int32.toInt_neg, z_bm, z_bm2, J_ti, J_toInt, z_cn, Int32.reduceToInt]) <;> omega) (z_let ?_)
    rw [z_Jp]
    by_cases c1 : q + 2 * k < z
    · rw [z_hasE1 hs hz d39 d40 c1, z_bind_some]
      refine z_neg (by decide) ?_
      by_cases c2 : q + 2 * k + 1 < z
      · rw [z_hasE1 hs hz d39 d40 c2, z_bind_some]
        refine z_neg (by decide) ?_
        rw [z_Svalue hs (by omega), z_bind_some, dX _ (by omega)]
        refine z_let ?_
        rw [z_Svalue hs (by omega), z_bind_some, dX _ (by omega)]
        refine z_let ?_
        rcases z_isRec (X (q + 2 * k)).toInt32 (X (q + 2 * k + 1)).toInt32 with ⟨c3, hi⟩ | ⟨c3, hi⟩
        · rw [(hi v).1, z_bind_some]
          refine z_neg (by decide) ?_
          by_cases c4 : n0 + k < 40
          · have hk2 : z_rk X q z n0 k := ⟨c2, c4, c3⟩
            obtain ⟨a1, a2, a3, a4⟩ := z_ap_k (A := A) (B := B) hk2
            rw [a3, a4]
            refine z_pos (by rw [g2.1]; (try simp (disch := omega) only [Int32.lt_iff_toInt_lt, Int32.le_iff_toInt_le, ← Int32.toInt_inj, Int32.toInt_add, Int32.toInt_sub, Int32.toInt_mul, Int32.toInt_neg, z_bm, z_bm2, J_ti, J_toInt, z_cn, Int32.reduceToInt]) <;> omega) (z_bind _ (z_RaddW c4 a1 a2 g2) (fun r w hw => k_sat_mk (Or.inl ⟨rfl, g1.tr hw.2.1, hw.2.2, fun k' hk' => ?_⟩)))
            by_cases e : k' = k
            · rw [e]; exact hk2
            · exact g3 k' (by omega)
          · exact z_neg (by rw [g2.1]; (try simp (disch := omega) only [Int32.lt_iff_toInt_lt, Int32.le_iff_toInt_le, ← Int32.toInt_inj, Int32.toInt_add, Int32.toInt_sub, Int32.toInt_mul, Int32.toInt_neg, z_bm, z_bm2, J_ti, J_toInt, z_cn, Int32.reduceToInt]) <;> omega) (stop (fun c => c4 c.2.1))
        · rw [(hi v).1, z_bind_some]
          exact z_pos rfl (stop (fun c => c3 c.2.2))
      · rw [z_hasE0 hs hz d39 d40 (by rw [J_toInt (by omega)]; omega), z_bind_some]
        exact z_pos rfl (stop (fun c => c2 c.1))
    · rw [z_hasE0 hs hz d39 d40 (by rw [J_toInt (by omega)]; omega), z_bind_some]
      exact z_pos rfl (stop (fun c => c1 (by have := c.1; omega)))
  · obtain ⟨g1, g2, g3⟩ := hp
    unfold f_W_records_B52
    exact z_pos (Int32.le_refl _) (k_sat_mk ⟨_, rfl, g1, N, Nat.le_refl N, Or.inr ⟨rfl, rfl⟩, g2, g3, Or.inl rfl⟩)
  · obtain ⟨g1, m, g2, rfl | ⟨rfl, rfl⟩, g4⟩ := hv
    · exact k_sat_mk ⟨g1, m, g2, rfl, g4⟩
    · exact k_sat_mk ⟨g1, m, g2, rfl, g4⟩
/-! records -/
theorem z_recsR {u : k_S} {n0 s q z N : Nat} {A B : Nat → Nat} {X : Nat → Int64} (hs : s < 6) (hz : z ≤ 60) (hq : q < 60) (hN : N ≤ 30) (e72 : u.2.1 72 s = -3) (e73 : u.2.1 73 s = J z) (hX : ∀ j, j < 60 → u.2.2 74 (60 * s + j) = X j) (hn : n0 ≤ 40) (h : z_RR n0 (z_apA X q n0 A) (z_apB X q n0 B) u) : k_sat (f_R_records_J43 (J s) (J q) (J N) u) (fun r v => z_fr [4235] [64, 65] u v ∧ ∃ m, m ≤ N ∧ r = J m ∧ z_RR (n0 + m) (z_apA X q n0 A) (z_apB X q n0 B) v ∧ (∀ k, k < m → z_rk X q z n0 k) ∧ (m = N ∨ ¬ z_rk X q z n0 m)) := by
  unfold f_R_records_J43
  rw [J_toNat (show s < 2147483648 by omega), e72]
  refine z_ck (by (try simp (disch := omega) only [Int32.lt_iff_toInt_lt, Int32.le_iff_toInt_le, ← Int32.toInt_inj, Int32.toInt_add, Int32.toInt_sub, Int32.toInt_mul, Int32.toInt_neg, z_bm, z_bm2, J_ti, J_toInt, z_cn, Int32.reduceToInt]) <;> omega) (by (try simp (disch := omega) only [Int32.lt_iff_toInt_lt, Int32.le_iff_toInt_le, ← Int32.toInt_inj, Int32.toInt_add, Int32.toInt_sub, Int32.toInt_mul, Int32.toInt_neg, z_bm, z_bm2, J_ti, J_toInt, z_cn, Int32.reduceToInt]) <;> omega) (z_neg (by decide) (z_bind (fun y v => z_fr [4235] [64, 65] u v ∧ ∃ m, m ≤ N ∧ (y = .inl (J m) ∨ y = .inr () ∧ m = N) ∧ z_RR (n0 + m) (z_apA X q n0 A) (z_apB X q n0 B) v ∧ (∀ k, k < m → z_rk X q z n0 k) ∧ (m = N ∨ ¬ z_rk X q z n0 m)) (z_for 0 N (fun k v => z_fr [4235] [64, 65] u v ∧ z_RR (n0 + k) (z_apA X q n0 A) (z_apB X q n0 B) v ∧ n0 + k ≤ 40 ∧ ∀ k', k' < k → z_rk X q z n0 k') (by omega) (Nat.zero_le N) ⟨z_fr.rf, h, hn, fun k hk => by omega⟩ (fun k v _ hk hp => ?_) (fun v hp => ?_)) (fun y v hv => ?_)))
  · obtain ⟨g1, g2, g5, g3⟩ := hp
    have stop : ¬ z_rk X q z n0 k → k_sat (some ((Sum.inr (Sum.inl (J k)) : Int32 ⊕ (Int32 ⊕ Unit)), v)) (fun z_1 u' => (z_1 = .inl (J k + Int32.ofInt 1) ∧ z_fr [4235] [64, 65] u u' ∧ z_RR (n0 + (k + 1)) (z_apA X q n0 A) (z_apB X q n0 B) u' ∧ n0 + (k + 1) ≤ 40 ∧ ∀ k', k' < k + 1 → z_rk X q z n0 k') ∨ ∃ y, z_1 = .inr y ∧ z_fr [4235] [64, 65] u u' ∧ ∃ m, m ≤ N ∧ (y = .inl (J m) ∨ y = .inr () ∧ m = N) ∧ z_RR (n0 + m) (z_apA X q n0 A) (z_apB X q n0 B) u' ∧ (∀ k, k < m → z_rk X q z n0 k) ∧ (m = N ∨ ¬ z_rk X q z n0 m)) := fun c => k_sat_mk (Or.inr ⟨_, rfl, g1, k, by omega, Or.inl rfl, g2, g3, Or.inr c⟩)
    have d73 : v.2.1 73 s = J z := (congrFun (g1.2.1 73 rfl) s).trans e73
    have dX : ∀ j, j < 60 → v.2.2 74 (60 * s + j) = X j := fun j hj => by rw [g1.2.2 74 rfl]; exact hX j hj
    have t5 := z_t5 (p := J q) (k := k) (by omega)
    have t6 := z_t6 (p := J q) (k := k) (by omega)
    rw [J_toInt (by omega)] at t5 t6
    unfold f_R_records_B58
    rw [J_toNat (show s < 2147483648 by omega), d73]
    refine z_neg (by (try simp (disch := omega) only [Int32.lt_iff_toInt_lt, Int32.le_iff_toInt_le, ← Int32.toInt_inj, Int32.toInt_add, Int32.toInt_sub, Int32.toInt_mul, Int32.toInt_neg, z_bm, z_bm2, J_ti, J_toInt, z_cn, Int32.reduceToInt]) <;> omega) (z_let (z_neg ?_ (z_ck (by (try simp (disch := omega) only [Int32.lt_iff_toInt_lt, Int32.le_iff_toInt_le, ← Int32.toInt_inj, Int32.toInt_add, Int32.toInt_sub, Int32.toInt_mul, Int32.toInt_neg, z_bm, z_bm2, J_ti, J_toInt, z_cn, Int32.reduceToInt]) <;> omega) (by (try simp (disch := omega) only [Int32.lt_iff_toInt_lt, Int32.le_iff_toInt_le, ← Int32.toInt_inj, Int32.toInt_add, Int32.toInt_sub, Int32.toInt_mul, Int32.toInt_neg, z_bm, z_bm2, J_ti, J_toInt, z_cn, Int32.reduceToInt]) <;> omega) ?_)))
    · rw [z_cl, t5, show (0 : Int64).toInt = 0 from rfl]
      omega
    · by_cases c2 : q + 2 * k + 1 < z
      · refine z_neg ?_ ?_
        · rw [z_cg, t6, Int32.toInt_toInt64, J_toInt (by omega)]
          omega
        · by_cases c4 : n0 + k < 40
          · refine z_neg (by rw [g2.1]; (try simp (disch := omega) only [Int32.lt_iff_toInt_lt, Int32.le_iff_toInt_le, ← Int32.toInt_inj, Int32.toInt_add, Int32.toInt_sub, Int32.toInt_mul, Int32.toInt_neg, z_bm, z_bm2, J_ti, J_toInt, z_cn, Int32.reduceToInt]) <;> omega) (z_let ?_)
            rw [z_t7 hq (by omega), J_60, z_Jp, J_toNat (show 60 * s + (q + 2 * k) < 2147483648 by omega), J_toNat (show 60 * s + (q + 2 * k) + 1 < 2147483648 by omega), dX _ (by omega), show 60 * s + (q + 2 * k) + 1 = 60 * s + (q + 2 * k + 1) by omega, dX _ (by omega)]
            refine z_ck (by (try simp (disch := omega) only [Int32.lt_iff_toInt_lt, Int32.le_iff_toInt_le, ← Int32.toInt_inj, Int32.toInt_add, Int32.toInt_sub, Int32.toInt_mul, Int32.toInt_neg, z_bm, z_bm2, J_ti, J_toInt, z_cn, Int32.reduceToInt]) <;> omega) (by (try simp (disch := omega) only [Int32.lt_iff_toInt_lt, Int32.le_iff_toInt_le, ← Int32.toInt_inj, Int32.toInt_add, Int32.toInt_sub, Int32.toInt_mul, Int32.toInt_neg, z_bm, z_bm2, J_ti, J_toInt, z_cn, Int32.reduceToInt]) <;> omega) (z_ck (by (try simp (disch := omega) only [Int32.lt_iff_toInt_lt, Int32.le_iff_toInt_le, ← Int32.toInt_inj, Int32.toInt_add, Int32.toInt_sub, Int32.toInt_mul, Int32.toInt_neg, z_bm, z_bm2, J_ti, J_toInt, z_cn, Int32.reduceToInt]) <;> omega) (by (try simp (disch := omega) only [Int32.lt_iff_toInt_lt, Int32.le_iff_toInt_le, ← Int32.toInt_inj, Int32.toInt_add, Int32.toInt_sub, Int32.toInt_mul, Int32.toInt_neg, z_bm, z_bm2, J_ti, J_toInt, z_cn, Int32.reduceToInt]) <;> omega) ?_)
            rcases z_isRec (X (q + 2 * k)).toInt32 (X (q + 2 * k + 1)).toInt32 with ⟨c3, hi⟩ | ⟨c3, hi⟩
            · rw [(hi v).2, z_bind_some]
              have hk2 : z_rk X q z n0 k := ⟨c2, c4, c3⟩
              obtain ⟨a1, a2, a3, a4⟩ := z_ap_k (A := A) (B := B) hk2
              refine z_neg (by decide) (z_ck (by (try simp (disch := omega) only [Int32.lt_iff_toInt_lt, Int32.le_iff_toInt_le, ← Int32.toInt_inj, Int32.toInt_add, Int32.toInt_sub, Int32.toInt_mul, Int32.toInt_neg, z_bm, z_bm2, J_ti, J_toInt, z_cn, Int32.reduceToInt]) <;> omega) (by (try simp (disch := omega) only [Int32.lt_iff_toInt_lt, Int32.le_iff_toInt_le, ← Int32.toInt_inj, Int32.toInt_add, Int32.toInt_sub, Int32.toInt_mul, Int32.toInt_neg, z_bm, z_bm2, J_ti, J_toInt, z_cn, Int32.reduceToInt]) <;> omega) (z_ck (by (try simp (disch := omega) only [Int32.lt_iff_toInt_lt, Int32.le_iff_toInt_le, ← Int32.toInt_inj, Int32.toInt_add, Int32.toInt_sub, Int32.toInt_mul, Int32.toInt_neg, z_bm, z_bm2, J_ti, J_toInt, z_cn, Int32.reduceToInt]) <;> omega) (by (try simp (disch := omega) only [Int32.lt_iff_toInt_lt, Int32.le_iff_toInt_le, ← Int32.toInt_inj, Int32.toInt_add, Int32.toInt_sub, Int32.toInt_mul, Int32.toInt_neg, z_bm, z_bm2, J_ti, J_toInt, z_cn, Int32.reduceToInt]) <;> omega) ?_))
              rw [dX _ (by omega), dX _ (by omega), a3, a4]
              refine z_bind _ (z_RaddR c4 a1 a2 g2) (fun r w hw => k_sat_mk (Or.inl ⟨rfl, g1.tr hw.1, hw.2, by omega, fun k' hk' => ?_⟩))
              by_cases e : k' = k
              · rw [e]; exact hk2
              · exact g3 k' (by omega)
            · rw [(hi v).2, z_bind_some]
              exact z_pos rfl (stop (fun c => c3 c.2.2))
          · exact z_pos (by rw [g2.1, show n0 + k = 40 by omega]; rfl) (stop (fun c => c4 c.2.1))
      · refine z_pos ?_ (stop (fun c => c2 c.1))
        rw [z_cg, t6, Int32.toInt_toInt64, J_toInt (by omega)]
        omega
  · obtain ⟨g1, g2, -, g3⟩ := hp
    unfold f_R_records_B58
    exact z_pos (Int32.le_refl _) (k_sat_mk ⟨_, rfl, g1, N, Nat.le_refl N, Or.inr ⟨rfl, rfl⟩, g2, g3, Or.inl rfl⟩)
  · obtain ⟨g1, m, g2, rfl | ⟨rfl, rfl⟩, g4⟩ := hv
    · exact k_sat_mk ⟨g1, m, g2, rfl, g4⟩
    · exact k_sat_mk ⟨g1, m, g2, rfl, g4⟩
theorem z_recs0 {u : k_S} {s N : Nat} {p : Int32} (hN : 0 < N) (hN2 : N ≤ 30) (h : f_Shelves_hasElement (J s) p u = some (0, u) ∨ (f_Shelves_hasElement (J s) p u = some (1, u) ∧ f_Shelves_hasElement (J s) (p + 1) u = some (0, u))) : f_W_records_J49 (J s) p (J N) u = some (0, u) := by
  have key : k_sat (f_W_records_J49 (J s) p (J N) u) (fun r v => r = 0 ∧ v = u) := by
    unfold f_W_records_J49
    refine z_bind (fun y v => y = .inl 0 ∧ v = u) ?_ (fun y v hv => by rw [hv.1, hv.2]; exact k_sat_mk ⟨rfl, rfl⟩)
    rw [z_FU]
    refine z_exit ?_
    unfold f_W_records_B52
    rw [show (2 : Int32) * 0 = 0 from rfl, Int32.add_zero]
    refine z_neg (by (try simp (disch := omega) only [Int32.lt_iff_toInt_lt, Int32.le_iff_toInt_le, ← Int32.toInt_inj, Int32.toInt_add, Int32.toInt_sub, Int32.toInt_mul, Int32.toInt_neg, z_bm, z_bm2, J_ti, J_toInt, z_cn, Int32.reduceToInt]) <;> omega) (z_let ?_)
    rcases h with h | ⟨h1, h2⟩
    · rw [h, z_bind_some]
      exact z_pos rfl (k_sat_mk ⟨_, rfl, rfl, rfl⟩)
    · rw [h1, z_bind_some]
      refine z_neg (by decide) ?_
      rw [h2, z_bind_some]
      exact z_pos rfl (k_sat_mk ⟨_, rfl, rfl, rfl⟩)
  obtain ⟨⟨r, v⟩, e, h1, h2⟩ := key
  rw [e]
  simp only at h1 h2
  rw [h1, h2]
theorem z_records (a0 a1 a2 : Int32) (u : k_S) (h : zI u) : z_pair (f_W_records a0 a1 a2) (f_R_records a0 a1 a2) u zI := by
  have hH := h.2.2.2.2.2.2.2.2.2.1
  refine z_pair_of ?_
  unfold f_W_records
  rcases J_or a0 6 with ⟨s, hs, rfl⟩ | ha
  · rw [z_Shas (by (try simp (disch := omega) only [Int32.lt_iff_toInt_lt, Int32.le_iff_toInt_le, ← Int32.toInt_inj, Int32.toInt_add, Int32.toInt_sub, Int32.toInt_mul, Int32.toInt_neg, z_bm, z_bm2, J_ti, J_toInt, z_cn, Int32.reduceToInt]) <;> omega) (by (try simp (disch := omega) only [Int32.lt_iff_toInt_lt, Int32.le_iff_toInt_le, ← Int32.toInt_inj, Int32.toInt_add, Int32.toInt_sub, Int32.toInt_mul, Int32.toInt_neg, z_bm, z_bm2, J_ti, J_toInt, z_cn, Int32.reduceToInt]) <;> omega), z_bind_some]
    refine z_neg (by decide) ?_
    by_cases hN : 1 ≤ a2.toInt ∧ a2.toInt ≤ 30
    · obtain ⟨hN1, hN2⟩ := hN
      obtain ⟨N, rfl, hN3, -⟩ := J_of (x := a2) (by omega)
      have hR : ∀ {v : k_S} {Q : Int32 → k_S → Prop}, k_sat (if v.2.1 72 s = -1 then f_R_records_J43 (J s) a1 (J N) v else if v.2.1 72 s = -3 then f_R_records_J43 (J s) a1 (J N) v else some ((-12), v)) Q → k_sat (f_R_records (J s) a1 (J N) v) Q := fun {v Q} hq => by
        unfold f_R_records
        rw [z_RisShelf (by (try simp (disch := omega) only [Int32.lt_iff_toInt_lt, Int32.le_iff_toInt_le, ← Int32.toInt_inj, Int32.toInt_add, Int32.toInt_sub, Int32.toInt_mul, Int32.toInt_neg, z_bm, z_bm2, J_ti, J_toInt, z_cn, Int32.reduceToInt]) <;> omega) (by (try simp (disch := omega) only [Int32.lt_iff_toInt_lt, Int32.le_iff_toInt_le, ← Int32.toInt_inj, Int32.toInt_add, Int32.toInt_sub, Int32.toInt_mul, Int32.toInt_neg, z_bm, z_bm2, J_ti, J_toInt, z_cn, Int32.reduceToInt]) <;> omega), z_bind_some]
        refine z_neg (by decide) ?_
        rw [z_Rin1 (by ((try simp (disch := omega) only [Int32.lt_iff_toInt_lt, Int32.le_iff_toInt_le, ← Int32.toInt_inj, Int32.toInt_add, Int32.toInt_sub, Int32.toInt_mul, Int32.toInt_neg, z_bm, z_bm2, J_ti, J_toInt, z_cn, Int32.reduceToInt] at *); omega)) (by ((try simp (disch := omega) only [Int32.lt_iff_toInt_lt, Int32.le_iff_toInt_le, ← Int32.toInt_inj, Int32.toInt_add, Int32.toInt_sub, Int32.toInt_mul, Int32.toInt_neg, z_bm, z_bm2, J_ti, J_toInt, z_cn, Int32.reduceToInt] at *); omega)), z_bind_some, J_toNat (show s < 2147483648 by omega), z_cko _ (by (try simp (disch := omega) only [Int32.lt_iff_toInt_lt, Int32.le_iff_toInt_le, ← Int32.toInt_inj, Int32.toInt_add, Int32.toInt_sub, Int32.toInt_mul, Int32.toInt_neg, z_bm, z_bm2, J_ti, J_toInt, z_cn, Int32.reduceToInt]) <;> omega) (by (try simp (disch := omega) only [Int32.lt_iff_toInt_lt, Int32.le_iff_toInt_le, ← Int32.toInt_inj, Int32.toInt_add, Int32.toInt_sub, Int32.toInt_mul, Int32.toInt_neg, z_bm, z_bm2, J_ti, J_toInt, z_cn, Int32.reduceToInt]) <;> omega), z_cko _ (by (try simp (disch := omega) only [Int32.lt_iff_toInt_lt, Int32.le_iff_toInt_le, ← Int32.toInt_inj, Int32.toInt_add, Int32.toInt_sub, Int32.toInt_mul, Int32.toInt_neg, z_bm, z_bm2, J_ti, J_toInt, z_cn, Int32.reduceToInt]) <;> omega) (by (try simp (disch := omega) only [Int32.lt_iff_toInt_lt, Int32.le_iff_toInt_le, ← Int32.toInt_inj, Int32.toInt_add, Int32.toInt_sub, Int32.toInt_mul, Int32.toInt_neg, z_bm, z_bm2, J_ti, J_toInt, z_cn, Int32.reduceToInt]) <;> omega)]
        exact z_neg (by decide) hq
      refine z_neg (by ((try simp (disch := omega) only [Int32.lt_iff_toInt_lt, Int32.le_iff_toInt_le, ← Int32.toInt_inj, Int32.toInt_add, Int32.toInt_sub, Int32.toInt_mul, Int32.toInt_neg, z_bm, z_bm2, J_ti, J_toInt, z_cn, Int32.reduceToInt] at *); omega)) (z_pos (by ((try simp (disch := omega) only [Int32.lt_iff_toInt_lt, Int32.le_iff_toInt_le, ← Int32.toInt_inj, Int32.toInt_add, Int32.toInt_sub, Int32.toInt_mul, Int32.toInt_neg, z_bm, z_bm2, J_ti, J_toInt, z_cn, Int32.reduceToInt] at *); omega)) ?_)
      rw [z_SheldBy (by (try simp (disch := omega) only [Int32.lt_iff_toInt_lt, Int32.le_iff_toInt_le, ← Int32.toInt_inj, Int32.toInt_add, Int32.toInt_sub, Int32.toInt_mul, Int32.toInt_neg, z_bm, z_bm2, J_ti, J_toInt, z_cn, Int32.reduceToInt]) <;> omega) (by (try simp (disch := omega) only [Int32.lt_iff_toInt_lt, Int32.le_iff_toInt_le, ← Int32.toInt_inj, Int32.toInt_add, Int32.toInt_sub, Int32.toInt_mul, Int32.toInt_neg, z_bm, z_bm2, J_ti, J_toInt, z_cn, Int32.reduceToInt]) <;> omega), z_bind_some, J_toNat (show s < 2147483648 by omega)]
      rcases hH s hs with ⟨p39, p72⟩ | ⟨p39, b, hb, p72, p40⟩ | ⟨k, z, hk, hz, p39, p72, p40, p73, p74⟩
      · refine z_pos p39 ?_
        rw [z_recs0 (by omega) (by omega) (Or.inl (by unfold f_Shelves_hasElement; rw [z_SheldBy (by (try simp (disch := omega) only [Int32.lt_iff_toInt_lt, Int32.le_iff_toInt_le, ← Int32.toInt_inj, Int32.toInt_add, Int32.toInt_sub, Int32.toInt_mul, Int32.toInt_neg, z_bm, z_bm2, J_ti, J_toInt, z_cn, Int32.reduceToInt]) <;> omega) (by (try simp (disch := omega) only [Int32.lt_iff_toInt_lt, Int32.le_iff_toInt_le, ← Int32.toInt_inj, Int32.toInt_add, Int32.toInt_sub, Int32.toInt_mul, Int32.toInt_neg, z_bm, z_bm2, J_ti, J_toInt, z_cn, Int32.reduceToInt]) <;> omega), z_bind_some, J_toNat (show s < 2147483648 by omega), p39, if_pos rfl]))]
        refine k_sat_mk (hR (z_pos p72 ?_))
        unfold f_R_records_J43
        rw [J_toNat (show s < 2147483648 by omega)]
        exact z_ck (by (try simp (disch := omega) only [Int32.lt_iff_toInt_lt, Int32.le_iff_toInt_le, ← Int32.toInt_inj, Int32.toInt_add, Int32.toInt_sub, Int32.toInt_mul, Int32.toInt_neg, z_bm, z_bm2, J_ti, J_toInt, z_cn, Int32.reduceToInt]) <;> omega) (by (try simp (disch := omega) only [Int32.lt_iff_toInt_lt, Int32.le_iff_toInt_le, ← Int32.toInt_inj, Int32.toInt_add, Int32.toInt_sub, Int32.toInt_mul, Int32.toInt_neg, z_bm, z_bm2, J_ti, J_toInt, z_cn, Int32.reduceToInt]) <;> omega) (z_pos p72 (k_sat_mk ⟨rfl, h⟩))
      · have hb50 : b < 50 := by
          obtain ⟨⟨n, hn, b1, -⟩, -⟩ := h.2.2.2.2.2.2.2.2.1
          rw [b1, J_toInt (by omega)] at hb
          omega
        refine z_neg (by rw [p39]; decide) (z_neg (by rw [p39]; decide) (k_sat_mk (hR (z_neg (by rw [p72]; (try simp (disch := omega) only [Int32.lt_iff_toInt_lt, Int32.le_iff_toInt_le, ← Int32.toInt_inj, Int32.toInt_add, Int32.toInt_sub, Int32.toInt_mul, Int32.toInt_neg, z_bm, z_bm2, J_ti, J_toInt, z_cn, Int32.reduceToInt]) <;> omega) (z_neg (by rw [p72]; (try simp (disch := omega) only [Int32.lt_iff_toInt_lt, Int32.le_iff_toInt_le, ← Int32.toInt_inj, Int32.toInt_add, Int32.toInt_sub, Int32.toInt_mul, Int32.toInt_neg, z_bm, z_bm2, J_ti, J_toInt, z_cn, Int32.reduceToInt]) <;> omega) (k_sat_mk ⟨rfl, h⟩))))))
      · by_cases k1 : k = 1
        · subst k1
          have p72' : u.2.1 72 s = -3 := p72
          refine z_neg (by rw [p39]; decide) (z_pos p39 ?_)
          by_cases hq : 0 ≤ a1.toInt ∧ a1.toInt < 60
          · obtain ⟨q, rfl, hq2, -⟩ := J_of hq.1
            obtain ⟨n, A, B, hn, hW, hR0⟩ := z_R_in h.2.2.2.2.2.1
            have ec : ∀ i, i < n → z_apA (fun j => u.2.2 41 (60 * s + j)) q n A i = A i ∧ z_apB (fun j => u.2.2 41 (60 * s + j)) q n B i = B i := fun i hi => ⟨if_pos hi, if_pos hi⟩
            refine z_mono (z_recsW (N := N) (X := fun j => u.2.2 41 (60 * s + j)) hs hz (by omega) (by ((try simp (disch := omega) only [Int32.lt_iff_toInt_lt, Int32.le_iff_toInt_le, ← Int32.toInt_inj, Int32.toInt_add, Int32.toInt_sub, Int32.toInt_mul, Int32.toInt_neg, z_bm, z_bm2, J_ti, J_toInt, z_cn, Int32.reduceToInt] at *); omega)) p39 p40 (fun j hj => rfl) hn (z_RW_c ec hW)) (fun r v hv => hR ?_)
            obtain ⟨g1, m, hm, rfl, g2, g3, g4⟩ := hv
            have d72 : v.2.1 72 s = -3 := (congrFun (g1.2.1 72 rfl) s).trans p72'
            refine z_neg (by rw [d72]; decide) (z_pos d72 (z_mono (z_recsR (X := fun j => u.2.2 41 (60 * s + j)) hs hz (by omega) (by omega) d72 ((congrFun (g1.2.1 73 rfl) s).trans p73) (fun j hj => by rw [g1.2.2 74 rfl]; exact (p74 j hj).1) hn (z_RR_f g1 (by decide) ⟨hR0.1, z_RC_c ec hR0.2⟩)) (fun r' v2 hv2 => ?_)))
            obtain ⟨w1, m', hm', rfl, w2, w3, w4⟩ := hv2
            have em : m = m' := by
              rcases Nat.lt_trichotomy m m' with c | c | c
              · rcases g4 with g4 | g4
                · omega
                · exact absurd (w3 m c) g4
              · exact c
              · rcases w4 with w4 | w4
                · omega
                · exact absurd (g3 m' c) w4
            subst em
            have hnm : n + m ≤ 40 := by
              by_cases e : m = 0
              · omega
              · have := (g3 (m - 1) (by omega)).2.1
                omega
            exact ⟨rfl, zI_R h ((g1.mono rfl rfl).tr (w1.mono rfl rfl)) (z_R_out hnm (z_RW_f w1 (by decide) g2) w2)⟩
          · have hq' : a1.toInt < 0 ∨ (z : Int) ≤ a1.toInt := by omega
            rw [z_recs0 (by omega) (by omega) (Or.inl (z_hasE0 hs hz p39 p40 hq'))]
            refine k_sat_mk (hR (z_neg (by rw [p72']; decide) (z_pos p72' ?_)))
            unfold f_R_records_J43
            rw [J_toNat (show s < 2147483648 by omega), p72']
            refine z_ck (by (try simp (disch := omega) only [Int32.lt_iff_toInt_lt, Int32.le_iff_toInt_le, ← Int32.toInt_inj, Int32.toInt_add, Int32.toInt_sub, Int32.toInt_mul, Int32.toInt_neg, z_bm, z_bm2, J_ti, J_toInt, z_cn, Int32.reduceToInt]) <;> omega) (by (try simp (disch := omega) only [Int32.lt_iff_toInt_lt, Int32.le_iff_toInt_le, ← Int32.toInt_inj, Int32.toInt_add, Int32.toInt_sub, Int32.toInt_mul, Int32.toInt_neg, z_bm, z_bm2, J_ti, J_toInt, z_cn, Int32.reduceToInt]) <;> omega) (z_neg (by decide) (z_bind (fun y v => y = .inl 0 ∧ v = u) ?_ (fun y v hv => by rw [hv.1, hv.2]; exact k_sat_mk ⟨rfl, h⟩)))
            rw [z_FU]
            refine z_exit ?_
            unfold f_R_records_B58
            have t5 := z_t5 (p := a1) (k := 0) (by omega)
            have t6 := z_t6 (p := a1) (k := 0) (by omega)
            rw [show J 0 = (0 : Int32) from rfl] at t5 t6
            refine z_neg (by (try simp (disch := omega) only [Int32.lt_iff_toInt_lt, Int32.le_iff_toInt_le, ← Int32.toInt_inj, Int32.toInt_add, Int32.toInt_sub, Int32.toInt_mul, Int32.toInt_neg, z_bm, z_bm2, J_ti, J_toInt, z_cn, Int32.reduceToInt]) <;> omega) (z_let (z_ite (fun _ => k_sat_mk ⟨_, rfl, rfl, rfl⟩) (fun c => z_ck (by (try simp (disch := omega) only [Int32.lt_iff_toInt_lt, Int32.le_iff_toInt_le, ← Int32.toInt_inj, Int32.toInt_add, Int32.toInt_sub, Int32.toInt_mul, Int32.toInt_neg, z_bm, z_bm2, J_ti, J_toInt, z_cn, Int32.reduceToInt]) <;> omega) (by (try simp (disch := omega) only [Int32.lt_iff_toInt_lt, Int32.le_iff_toInt_le, ← Int32.toInt_inj, Int32.toInt_add, Int32.toInt_sub, Int32.toInt_mul, Int32.toInt_neg, z_bm, z_bm2, J_ti, J_toInt, z_cn, Int32.reduceToInt]) <;> omega) (z_pos ?_ (k_sat_mk ⟨_, rfl, rfl, rfl⟩)))))
            rw [z_cl, t5, show (0 : Int64).toInt = 0 from rfl] at c
            rw [z_cg, t6, Int32.toInt_toInt64, J_toNat (show s < 2147483648 by omega), p73, J_toInt (by omega)]
            omega
        · refine z_neg (by rw [p39]; (try simp (disch := omega) only [Int32.lt_iff_toInt_lt, Int32.le_iff_toInt_le, ← Int32.toInt_inj, Int32.toInt_add, Int32.toInt_sub, Int32.toInt_mul, Int32.toInt_neg, z_bm, z_bm2, J_ti, J_toInt, z_cn, Int32.reduceToInt]) <;> omega) (z_neg (by rw [p39]; (try simp (disch := omega) only [Int32.lt_iff_toInt_lt, Int32.le_iff_toInt_le, ← Int32.toInt_inj, Int32.toInt_add, Int32.toInt_sub, Int32.toInt_mul, Int32.toInt_neg, z_bm, z_bm2, J_ti, J_toInt, z_cn, Int32.reduceToInt]) <;> omega) (k_sat_mk (hR (z_neg (by rw [p72]; (try simp (disch := omega) only [Int32.lt_iff_toInt_lt, Int32.le_iff_toInt_le, ← Int32.toInt_inj, Int32.toInt_add, Int32.toInt_sub, Int32.toInt_mul, Int32.toInt_neg, z_bm, z_bm2, J_ti, J_toInt, z_cn, Int32.reduceToInt]) <;> omega) (z_neg (by rw [p72]; (try simp (disch := omega) only [Int32.lt_iff_toInt_lt, Int32.le_iff_toInt_le, ← Int32.toInt_inj, Int32.toInt_add, Int32.toInt_sub, Int32.toInt_mul, Int32.toInt_neg, z_bm, z_bm2, J_ti, J_toInt, z_cn, Int32.reduceToInt]) <;> omega) (k_sat_mk ⟨rfl, h⟩))))))
    · have eR : k_sat (f_R_records (J s) a1 a2 u) (fun r' v => (-1 : Int32) = r' ∧ zI v) := by
        unfold f_R_records
        rw [z_RisShelf (by (try simp (disch := omega) only [Int32.lt_iff_toInt_lt, Int32.le_iff_toInt_le, ← Int32.toInt_inj, Int32.toInt_add, Int32.toInt_sub, Int32.toInt_mul, Int32.toInt_neg, z_bm, z_bm2, J_ti, J_toInt, z_cn, Int32.reduceToInt]) <;> omega) (by (try simp (disch := omega) only [Int32.lt_iff_toInt_lt, Int32.le_iff_toInt_le, ← Int32.toInt_inj, Int32.toInt_add, Int32.toInt_sub, Int32.toInt_mul, Int32.toInt_neg, z_bm, z_bm2, J_ti, J_toInt, z_cn, Int32.reduceToInt]) <;> omega), z_bind_some]
        refine z_neg (by decide) ?_
        rw [z_Rin0 (by ((try simp (disch := omega) only [Int32.lt_iff_toInt_lt, Int32.le_iff_toInt_le, ← Int32.toInt_inj, Int32.toInt_add, Int32.toInt_sub, Int32.toInt_mul, Int32.toInt_neg, z_bm, z_bm2, J_ti, J_toInt, z_cn, Int32.reduceToInt] at *); omega)), z_bind_some]
        exact z_pos rfl (k_sat_mk ⟨rfl, h⟩)
      exact z_ite (fun _ => k_sat_mk eR) (fun c => z_neg (by ((try simp (disch := omega) only [Int32.lt_iff_toInt_lt, Int32.le_iff_toInt_le, ← Int32.toInt_inj, Int32.toInt_add, Int32.toInt_sub, Int32.toInt_mul, Int32.toInt_neg, z_bm, z_bm2, J_ti, J_toInt, z_cn, Int32.reduceToInt] at *); omega)) (k_sat_mk eR))
  · rw [z_Shas0 (by omega), z_bind_some]
    refine z_pos rfl (k_sat_mk ?_)
    unfold f_R_records
    rw [z_RisShelf0 (by omega), z_bind_some]
    exact z_pos rfl (k_sat_mk ⟨rfl, h⟩)
/-! taken -/
theorem z_more {X Y : Type} {b : X → k_S → Option ((X ⊕ Y) × k_S)} : ∀ (n N : Nat) (x : X) (u : k_S) (r : Y × k_S), n ≤ N → k_itr b n x u = some r → k_itr b N x u = some r
  | 0, N, x, u, r, _, h => by
    rw [k_itr] at h
    cases h
  | n + 1, 0, x, u, r, hn, h => by omega
  | n + 1, N + 1, x, u, r, hn, h => by
    rw [k_itr] at h ⊢
    cases e : b x u with
    | none =>
      rw [e] at h
      cases h
    | some p =>
      obtain ⟨z, u'⟩ := p
      rw [e] at h
      cases z with
      | inl x' => exact z_more n N x' u' r (by omega) h
      | inr y => exact h
theorem z_under0 {k l : Nat} (hk : k < 8) (hl : l < 8) (u : k_S) : ∃ r : Int32, f_R_isUnder (J k) (J l) u = some (r, u) ∧ ((r = 1 ∧ k_itr (fun (x : Int32 × Int32) u => f_Bodies_isUnder_B5 (J l) x.1 x.2 u) 9 (J k, 0) u = some (.inl 1, u)) ∨ (r = 0 ∧ k_itr (fun (x : Int32 × Int32) u => f_Bodies_isUnder_B5 (J l) x.1 x.2 u) 9 (J k, 0) u = some (.inr (), u))) := by
  rcases (show k = 0 ∨ k = 1 ∨ k = 2 ∨ k = 3 ∨ k = 4 ∨ k = 5 ∨ k = 6 ∨ k = 7 by omega) with rfl | rfl | rfl | rfl | rfl | rfl | rfl | rfl <;> rcases (show l = 0 ∨ l = 1 ∨ l = 2 ∨ l = 3 ∨ l = 4 ∨ l = 5 ∨ l = 6 ∨ l = 7 by omega) with rfl | rfl | rfl | rfl | rfl | rfl | rfl | rfl <;> first | exact ⟨1, rfl, Or.inl ⟨rfl, rfl⟩⟩ | exact ⟨0, rfl, Or.inr ⟨rfl, rfl⟩⟩
theorem z_under {k l : Nat} (hk : k < 8) (hl : l < 8) (u : k_S) : ∃ r : Int32, f_R_isUnder (J k) (J l) u = some (r, u) ∧ f_Bodies_isUnder (J k) (J l) u = some (r, u) := by
  obtain ⟨r, h1, ⟨rfl, h2⟩ | ⟨rfl, h2⟩⟩ := z_under0 hk hl u
  · refine ⟨1, h1, ?_⟩
    unfold f_Bodies_isUnder
    rw [z_more 9 k_FU _ _ _ (by unfold k_FU; omega) h2]
    rfl
  · refine ⟨0, h1, ?_⟩
    unfold f_Bodies_isUnder
    rw [z_more 9 k_FU _ _ _ (by unfold k_FU; omega) h2]
    rfl
theorem z_taken (a0 a1 : Int32) (u : k_S) (h : zI u) : z_pair (f_W_taken a0 a1) (f_R_taken a0 a1) u zI := by
  have hH := h.2.2.2.2.2.2.2.2.2.1
  obtain ⟨⟨n, hn, b1, b2, hk⟩, -⟩ := h.2.2.2.2.2.2.2.2.1
  refine z_pair_of ?_
  unfold f_W_taken
  rcases J_or a0 6 with ⟨s, hs, rfl⟩ | ha
  · rw [z_Shas (by (try simp (disch := omega) only [Int32.lt_iff_toInt_lt, Int32.le_iff_toInt_le, ← Int32.toInt_inj, Int32.toInt_add, Int32.toInt_sub, Int32.toInt_mul, Int32.toInt_neg, z_bm, z_bm2, J_ti, J_toInt, z_cn, Int32.reduceToInt]) <;> omega) (by (try simp (disch := omega) only [Int32.lt_iff_toInt_lt, Int32.le_iff_toInt_le, ← Int32.toInt_inj, Int32.toInt_add, Int32.toInt_sub, Int32.toInt_mul, Int32.toInt_neg, z_bm, z_bm2, J_ti, J_toInt, z_cn, Int32.reduceToInt]) <;> omega), z_bind_some]
    refine z_neg (by decide) ?_
    rcases J_or a1 8 with ⟨l, hl, rfl⟩ | hb
    · refine z_neg (by (try simp (disch := omega) only [Int32.lt_iff_toInt_lt, Int32.le_iff_toInt_le, ← Int32.toInt_inj, Int32.toInt_add, Int32.toInt_sub, Int32.toInt_mul, Int32.toInt_neg, z_bm, z_bm2, J_ti, J_toInt, z_cn, Int32.reduceToInt]) <;> omega) (z_pos (by (try simp (disch := omega) only [Int32.lt_iff_toInt_lt, Int32.le_iff_toInt_le, ← Int32.toInt_inj, Int32.toInt_add, Int32.toInt_sub, Int32.toInt_mul, Int32.toInt_neg, z_bm, z_bm2, J_ti, J_toInt, z_cn, Int32.reduceToInt]) <;> omega) ?_)
      rw [z_SheldBy (by (try simp (disch := omega) only [Int32.lt_iff_toInt_lt, Int32.le_iff_toInt_le, ← Int32.toInt_inj, Int32.toInt_add, Int32.toInt_sub, Int32.toInt_mul, Int32.toInt_neg, z_bm, z_bm2, J_ti, J_toInt, z_cn, Int32.reduceToInt]) <;> omega) (by (try simp (disch := omega) only [Int32.lt_iff_toInt_lt, Int32.le_iff_toInt_le, ← Int32.toInt_inj, Int32.toInt_add, Int32.toInt_sub, Int32.toInt_mul, Int32.toInt_neg, z_bm, z_bm2, J_ti, J_toInt, z_cn, Int32.reduceToInt]) <;> omega), z_bind_some, J_toNat (show s < 2147483648 by omega)]
      have hR : ∀ {v : k_S} {Q : Int32 → k_S → Prop}, k_sat (if v.2.1 72 s = -1 then some ((-11), v) else if v.2.1 72 s < 0 then some ((-12), v) else k_ck (v.2.1 72 s) 50 (k_bind (f_R_isUnder (v.2.1 70 (v.2.1 72 s).toNatClampNeg) (J l) v) (fun r6 u5 => if r6 = 0 then some ((-12), u5) else k_ck (J s) 6 (k_ck (u5.2.1 72 s) 50 (some (u5.2.1 70 (u5.2.1 72 s).toNatClampNeg, u5)))))) Q → k_sat (f_R_taken (J s) (J l) v) Q := fun {v Q} hq => by
        unfold f_R_taken
        rw [z_RisShelf (by (try simp (disch := omega) only [Int32.lt_iff_toInt_lt, Int32.le_iff_toInt_le, ← Int32.toInt_inj, Int32.toInt_add, Int32.toInt_sub, Int32.toInt_mul, Int32.toInt_neg, z_bm, z_bm2, J_ti, J_toInt, z_cn, Int32.reduceToInt]) <;> omega) (by (try simp (disch := omega) only [Int32.lt_iff_toInt_lt, Int32.le_iff_toInt_le, ← Int32.toInt_inj, Int32.toInt_add, Int32.toInt_sub, Int32.toInt_mul, Int32.toInt_neg, z_bm, z_bm2, J_ti, J_toInt, z_cn, Int32.reduceToInt]) <;> omega), z_bind_some]
        refine z_neg (by decide) ?_
        rw [z_Rin1 (by (try simp (disch := omega) only [Int32.lt_iff_toInt_lt, Int32.le_iff_toInt_le, ← Int32.toInt_inj, Int32.toInt_add, Int32.toInt_sub, Int32.toInt_mul, Int32.toInt_neg, z_bm, z_bm2, J_ti, J_toInt, z_cn, Int32.reduceToInt]) <;> omega) (by (try simp (disch := omega) only [Int32.lt_iff_toInt_lt, Int32.le_iff_toInt_le, ← Int32.toInt_inj, Int32.toInt_add, Int32.toInt_sub, Int32.toInt_mul, Int32.toInt_neg, z_bm, z_bm2, J_ti, J_toInt, z_cn, Int32.reduceToInt]) <;> omega), z_bind_some, J_toNat (show s < 2147483648 by omega)]
        rw [z_cko _ (by (try simp (disch := omega) only [Int32.lt_iff_toInt_lt, Int32.le_iff_toInt_le, ← Int32.toInt_inj, Int32.toInt_add, Int32.toInt_sub, Int32.toInt_mul, Int32.toInt_neg, z_bm, z_bm2, J_ti, J_toInt, z_cn, Int32.reduceToInt]) <;> omega) (by (try simp (disch := omega) only [Int32.lt_iff_toInt_lt, Int32.le_iff_toInt_le, ← Int32.toInt_inj, Int32.toInt_add, Int32.toInt_sub, Int32.toInt_mul, Int32.toInt_neg, z_bm, z_bm2, J_ti, J_toInt, z_cn, Int32.reduceToInt]) <;> omega), z_cko _ (by (try simp (disch := omega) only [Int32.lt_iff_toInt_lt, Int32.le_iff_toInt_le, ← Int32.toInt_inj, Int32.toInt_add, Int32.toInt_sub, Int32.toInt_mul, Int32.toInt_neg, z_bm, z_bm2, J_ti, J_toInt, z_cn, Int32.reduceToInt]) <;> omega) (by (try simp (disch := omega) only [Int32.lt_iff_toInt_lt, Int32.le_iff_toInt_le, ← Int32.toInt_inj, Int32.toInt_add, Int32.toInt_sub, Int32.toInt_mul, Int32.toInt_neg, z_bm, z_bm2, J_ti, J_toInt, z_cn, Int32.reduceToInt]) <;> omega), z_cko _ (by (try simp (disch := omega) only [Int32.lt_iff_toInt_lt, Int32.le_iff_toInt_le, ← Int32.toInt_inj, Int32.toInt_add, Int32.toInt_sub, Int32.toInt_mul, Int32.toInt_neg, z_bm, z_bm2, J_ti, J_toInt, z_cn, Int32.reduceToInt]) <;> omega) (by (try simp (disch := omega) only [Int32.lt_iff_toInt_lt, Int32.le_iff_toInt_le, ← Int32.toInt_inj, Int32.toInt_add, Int32.toInt_sub, Int32.toInt_mul, Int32.toInt_neg, z_bm, z_bm2, J_ti, J_toInt, z_cn, Int32.reduceToInt]) <;> omega)]
        exact z_neg (by decide) hq
      rcases hH s hs with ⟨p39, p72⟩ | ⟨p39, b, hb, p72, p40⟩ | ⟨k, z, hk, hz, p39, p72, p40, p73, p74⟩
      · exact z_pos p39 (k_sat_mk (hR (z_pos p72 (k_sat_mk ⟨rfl, h⟩))))
      · rw [b1, J_toInt (by omega)] at hb
        have hbn : b < n := by omega
        obtain ⟨k, hk8, k1, k2⟩ := hk b hbn
        obtain ⟨r, hr1, hr2⟩ := z_under hk8 hl u
        refine z_neg (by rw [p39]; decide) (z_pos p39 ?_)
        rw [z_Shelves_sizeOf hs, z_bind_some, p40, z_Bodies_kindOf (by omega), z_bind_some, k1, hr2, z_bind_some]
        have fin : ∀ x : Int32, (x = if r = 0 then -12 else J k) → k_sat (f_R_taken (J s) (J l) u) (fun r' u2 => x = r' ∧ zI u2) := fun x hx => by
          refine hR (z_neg (by rw [p72]; (try simp (disch := omega) only [Int32.lt_iff_toInt_lt, Int32.le_iff_toInt_le, ← Int32.toInt_inj, Int32.toInt_add, Int32.toInt_sub, Int32.toInt_mul, Int32.toInt_neg, z_bm, z_bm2, J_ti, J_toInt, z_cn, Int32.reduceToInt]) <;> omega) (z_neg (by rw [p72]; (try simp (disch := omega) only [Int32.lt_iff_toInt_lt, Int32.le_iff_toInt_le, ← Int32.toInt_inj, Int32.toInt_add, Int32.toInt_sub, Int32.toInt_mul, Int32.toInt_neg, z_bm, z_bm2, J_ti, J_toInt, z_cn, Int32.reduceToInt]) <;> omega) ?_))
          rw [p72, J_toNat (show b < 2147483648 by omega), k2, hr1, z_bind_some]
          refine z_ck (by (try simp (disch := omega) only [Int32.lt_iff_toInt_lt, Int32.le_iff_toInt_le, ← Int32.toInt_inj, Int32.toInt_add, Int32.toInt_sub, Int32.toInt_mul, Int32.toInt_neg, z_bm, z_bm2, J_ti, J_toInt, z_cn, Int32.reduceToInt]) <;> omega) (by (try simp (disch := omega) only [Int32.lt_iff_toInt_lt, Int32.le_iff_toInt_le, ← Int32.toInt_inj, Int32.toInt_add, Int32.toInt_sub, Int32.toInt_mul, Int32.toInt_neg, z_bm, z_bm2, J_ti, J_toInt, z_cn, Int32.reduceToInt]) <;> omega) (z_ite (fun q => k_sat_mk ⟨by rw [hx, if_pos q], h⟩) (fun q => z_ck (by (try simp (disch := omega) only [Int32.lt_iff_toInt_lt, Int32.le_iff_toInt_le, ← Int32.toInt_inj, Int32.toInt_add, Int32.toInt_sub, Int32.toInt_mul, Int32.toInt_neg, z_bm, z_bm2, J_ti, J_toInt, z_cn, Int32.reduceToInt]) <;> omega) (by (try simp (disch := omega) only [Int32.lt_iff_toInt_lt, Int32.le_iff_toInt_le, ← Int32.toInt_inj, Int32.toInt_add, Int32.toInt_sub, Int32.toInt_mul, Int32.toInt_neg, z_bm, z_bm2, J_ti, J_toInt, z_cn, Int32.reduceToInt]) <;> omega) ?_))
          rw [p72, J_toNat (show b < 2147483648 by omega), k2]
          exact z_ck (by (try simp (disch := omega) only [Int32.lt_iff_toInt_lt, Int32.le_iff_toInt_le, ← Int32.toInt_inj, Int32.toInt_add, Int32.toInt_sub, Int32.toInt_mul, Int32.toInt_neg, z_bm, z_bm2, J_ti, J_toInt, z_cn, Int32.reduceToInt]) <;> omega) (by (try simp (disch := omega) only [Int32.lt_iff_toInt_lt, Int32.le_iff_toInt_le, ← Int32.toInt_inj, Int32.toInt_add, Int32.toInt_sub, Int32.toInt_mul, Int32.toInt_neg, z_bm, z_bm2, J_ti, J_toInt, z_cn, Int32.reduceToInt]) <;> omega) (k_sat_mk ⟨by rw [hx, if_neg q], h⟩)
        exact z_ite (fun q => k_sat_mk (fin _ (by rw [if_pos q]))) (fun q => k_sat_mk (fin _ (by rw [if_neg q])))
      · refine z_neg (by rw [p39]; (try simp (disch := omega) only [Int32.lt_iff_toInt_lt, Int32.le_iff_toInt_le, ← Int32.toInt_inj, Int32.toInt_add, Int32.toInt_sub, Int32.toInt_mul, Int32.toInt_neg, z_bm, z_bm2, J_ti, J_toInt, z_cn, Int32.reduceToInt]) <;> omega) (z_neg (by rw [p39]; (try simp (disch := omega) only [Int32.lt_iff_toInt_lt, Int32.le_iff_toInt_le, ← Int32.toInt_inj, Int32.toInt_add, Int32.toInt_sub, Int32.toInt_mul, Int32.toInt_neg, z_bm, z_bm2, J_ti, J_toInt, z_cn, Int32.reduceToInt]) <;> omega) (k_sat_mk (hR (z_neg (by rw [p72]; (try simp (disch := omega) only [Int32.lt_iff_toInt_lt, Int32.le_iff_toInt_le, ← Int32.toInt_inj, Int32.toInt_add, Int32.toInt_sub, Int32.toInt_mul, Int32.toInt_neg, z_bm, z_bm2, J_ti, J_toInt, z_cn, Int32.reduceToInt]) <;> omega) (z_pos (by rw [p72]; (try simp (disch := omega) only [Int32.lt_iff_toInt_lt, Int32.le_iff_toInt_le, ← Int32.toInt_inj, Int32.toInt_add, Int32.toInt_sub, Int32.toInt_mul, Int32.toInt_neg, z_bm, z_bm2, J_ti, J_toInt, z_cn, Int32.reduceToInt]) <;> omega) (k_sat_mk ⟨rfl, h⟩))))))
    · have eR : k_sat (f_R_taken (J s) a1 u) (fun r' v => (-1 : Int32) = r' ∧ zI v) := by
        unfold f_R_taken
        rw [z_RisShelf (by (try simp (disch := omega) only [Int32.lt_iff_toInt_lt, Int32.le_iff_toInt_le, ← Int32.toInt_inj, Int32.toInt_add, Int32.toInt_sub, Int32.toInt_mul, Int32.toInt_neg, z_bm, z_bm2, J_ti, J_toInt, z_cn, Int32.reduceToInt]) <;> omega) (by (try simp (disch := omega) only [Int32.lt_iff_toInt_lt, Int32.le_iff_toInt_le, ← Int32.toInt_inj, Int32.toInt_add, Int32.toInt_sub, Int32.toInt_mul, Int32.toInt_neg, z_bm, z_bm2, J_ti, J_toInt, z_cn, Int32.reduceToInt]) <;> omega), z_bind_some]
        refine z_neg (by decide) ?_
        rw [z_Rin0 (by ((try simp (disch := omega) only [Int32.lt_iff_toInt_lt, Int32.le_iff_toInt_le, ← Int32.toInt_inj, Int32.toInt_add, Int32.toInt_sub, Int32.toInt_mul, Int32.toInt_neg, z_bm, z_bm2, J_ti, J_toInt, z_cn, Int32.reduceToInt] at *); omega)), z_bind_some]
        exact z_pos rfl (k_sat_mk ⟨rfl, h⟩)
      exact z_ite (fun _ => k_sat_mk eR) (fun c => z_neg (by ((try simp (disch := omega) only [Int32.lt_iff_toInt_lt, Int32.le_iff_toInt_le, ← Int32.toInt_inj, Int32.toInt_add, Int32.toInt_sub, Int32.toInt_mul, Int32.toInt_neg, z_bm, z_bm2, J_ti, J_toInt, z_cn, Int32.reduceToInt] at *); omega)) (k_sat_mk eR))
  · rw [z_Shas0 (by omega), z_bind_some]
    refine z_pos rfl (k_sat_mk ?_)
    unfold f_R_taken
    rw [z_RisShelf0 (by omega), z_bind_some]
    exact z_pos rfl (k_sat_mk ⟨rfl, h⟩)
