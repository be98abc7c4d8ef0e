/-! JUDGED: the first record that is wrong -/
def z_mn (n : Nat) (g : Nat → Prop) (y : Int32) : Prop := (y = -2 ∧ ∀ r, r < n → ¬ g r) ∨ (∃ m, m < n ∧ g m ∧ y = J m ∧ ∀ r, r < n → g r → m ≤ r)
theorem z_mn_u {n : Nat} {g g' : Nat → Prop} {y y' : Int32} (h : z_mn n g y) (h' : z_mn n g' y') (e : ∀ r, r < n → (g r ↔ g' r)) : y = y' := by
  rcases h with ⟨rfl, a⟩ | ⟨m, a1, a2, rfl, a3⟩ <;> rcases h' with ⟨rfl, b⟩ | ⟨m', b1, b2, rfl, b3⟩
  · rfl
  · exact absurd ((e m' b1).mpr b2) (a m' b1)
  · exact absurd ((e m a1).mp a2) (b m a1)
  · have h1 := a3 m' b1 ((e m' b1).mpr b2)
    have h2 := b3 m a1 ((e m a1).mp a2)
    rw [show m = m' by omega]
theorem z_mn_c {n : Nat} {g g' : Nat → Prop} {y : Int32} (h : z_mn n g y) (e : ∀ r, r < n → (g r ↔ g' r)) : z_mn n g' y := by
  rcases h with ⟨rfl, a⟩ | ⟨m, a1, a2, rfl, a3⟩
  · exact Or.inl ⟨rfl, fun r hr q => a r hr ((e r hr).mpr q)⟩
  · exact Or.inr ⟨m, a1, (e m a1).mp a2, rfl, fun r hr q => a3 r hr ((e r hr).mpr q)⟩
theorem z_mn_a {n r0 : Nat} {g : Nat → Prop} {y : Int32} (hn : n ≤ 40) (h : z_mn n g y) (hr : r0 < n) : (y < 0 → y = -2 ∧ z_mn n (fun r => g r ∨ r = r0) (J r0)) ∧ (¬ y < 0 → ¬ y = -2 ∧ (y ≤ J r0 → z_mn n (fun r => g r ∨ r = r0) y) ∧ (¬ y ≤ J r0 → z_mn n (fun r => g r ∨ r = r0) (J r0))) := by
  rcases h with ⟨rfl, a⟩ | ⟨m, a1, a2, rfl, a3⟩
  · refine ⟨fun _ => ⟨rfl, Or.inr ⟨r0, hr, Or.inr rfl, rfl, fun r h1 h2 => ?_⟩⟩, fun q => absurd (by decide) q⟩
    rcases h2 with h2 | h2
    · exact absurd h2 (a r h1)
    · omega
  · refine ⟨fun q => absurd q (by (try simp (disch := omega) only [Int32.lt_iff_toInt_lt, Int32.le_iff_toInt_le, ← Int32.toInt_inj, Int32.toInt_add, Int32.toInt_sub, Int32.toInt_mul, Int32.toInt_neg, z_bm, z_bm2, J_ti, J_toInt, z_cn, Int32.reduceToInt]) <;> omega), fun _ => ⟨by (try simp (disch := omega) only [Int32.lt_iff_toInt_lt, Int32.le_iff_toInt_le, ← Int32.toInt_inj, Int32.toInt_add, Int32.toInt_sub, Int32.toInt_mul, Int32.toInt_neg, z_bm, z_bm2, J_ti, J_toInt, z_cn, Int32.reduceToInt]) <;> omega, fun q => ?_, fun q => ?_⟩⟩
    · have : m ≤ r0 := by ((try simp (disch := omega) only [Int32.lt_iff_toInt_lt, Int32.le_iff_toInt_le, ← Int32.toInt_inj, Int32.toInt_add, Int32.toInt_sub, Int32.toInt_mul, Int32.toInt_neg, z_bm, z_bm2, J_ti, J_toInt, z_cn, Int32.reduceToInt] at *); omega)
      refine Or.inr ⟨m, a1, Or.inl a2, rfl, fun r h1 h2 => ?_⟩
      rcases h2 with h2 | h2
      · exact a3 r h1 h2
      · omega
    · have : r0 < m := by ((try simp (disch := omega) only [Int32.lt_iff_toInt_lt, Int32.le_iff_toInt_le, ← Int32.toInt_inj, Int32.toInt_add, Int32.toInt_sub, Int32.toInt_mul, Int32.toInt_neg, z_bm, z_bm2, J_ti, J_toInt, z_cn, Int32.reduceToInt] at *); omega)
      refine Or.inr ⟨r0, hr, Or.inr rfl, rfl, fun r h1 h2 => ?_⟩
      rcases h2 with h2 | h2
      · have := a3 r h1 h2; omega
      · omega
/-- records: how many, nights, places; t the night now -/
def z_RC (c1 c2 : Nat) (nr : Nat) (A B : Nat → Nat) (u : k_S) : Prop := ∀ r, r < nr → A r ≤ 5000 ∧ B r < 40 ∧ u.2.1 c1 r = J (A r) ∧ u.2.1 c2 r = J (B r)
def z_bad (E : z_E) (u : k_S) (t : Nat) (A B : Nat → Nat) (r : Nat) : Prop := t ≤ A r ∧ ¬ z_pl E u 0 (A r - t) = J (B r)
theorem z_firstW {E : z_E} {u : k_S} {t nr : Nat} {A B f : Nat → Nat} (hE : z_eW E u) (h0 : 0 < E.1) (ht : t ≤ 1000000) (t1 : u.1 1402 = J t) (hnr : nr ≤ 40) (e20 : u.1 2003 = J nr) (hRC : z_RC 21 22 nr A B u) (hf : ∀ i, i < nr → f i < nr ∧ u.2.1 23 i = J (f i)) (hsu : ∀ r, r < nr → ∃ i, i < nr ∧ f i = r) (hso : ∀ i j, i < j → j < nr → A (f i) ≤ A (f j)) (fl : Int32) (hfl : fl = 0 ∨ fl = 1) : k_sat (f_Judging_firstWrong fl u) (fun r v => z_fr [1702, 1206, 704] [18, 19, 9, 13] u v ∧ (fl = 0 → z_mn nr (z_bad E u t A B) r) ∧ (fl = 1 → (r = -2 ↔ ∀ r', r' < nr → ¬ z_bad E u t A B r') ∧ (r = -2 ∨ ∃ r', r' < nr ∧ r = J r'))) := by
  have tR : u.1 4209 = J t := by rw [← t1]; exact hE.2.2.1.symm
  unfold f_Judging_firstWrong
  refine z_bind _ (z_Wt_w hE) (fun _ u1 h1 => z_bind _ (z_for2 0 nr (-2) (fun i y v => ∃ d, z_Wt E 1 u d v ∧ d ≤ 5000 ∧ (d = 0 ∨ ∃ i', i' < i ∧ t + d = A (f i')) ∧ z_mn nr (fun r => z_bad E u t A B r ∧ ∃ j, j < i ∧ f j = r) y ∧ (fl = 1 → y = -2)) (K := fun y v => z_fr [1702, 1206, 704] [18, 19, 9, 13] u v ∧ ((∃ r', r' < nr ∧ y = .inl (J r') ∧ fl = 1 ∧ z_bad E u t A B r') ∨ ∃ x, y = .inr x ∧ z_mn nr (z_bad E u t A B) x ∧ (fl = 1 → x = -2))) (by omega) (Nat.zero_le nr) ⟨0, h1.le (by omega), by omega, Or.inl rfl, Or.inl ⟨rfl, fun r hr q => by obtain ⟨-, j, hj, -⟩ := q; omega⟩, fun _ => rfl⟩ (fun i y v _ hi hp => ?_) (fun y v hp => ?_)) (fun y v hv => ?_))
  · obtain ⟨d, g1, gd, g2, g3, g4⟩ := hp
    have hnight : v.1 1702 = J (t + d) := by
      have : v.1 1702 = (z_or E 4 d (z_moR u)).1 := g1.2.2.1
      rw [this]
      clear g3
      have key : ∀ j, (z_or E 4 j (z_moR u)).1 = J t + J j := by
        intro j
        induction j with
        | zero => show u.1 4209 = _; rw [tR, J_0, Int32.add_zero]
        | succ j ih => show (z_nx E 4 (z_or E 4 j (z_moR u))).1 = _; rw [show (z_nx E 4 (z_or E 4 j (z_moR u))).1 = (z_or E 4 j (z_moR u)).1 + 1 from (z_pu_lo E 4 0 _).1, ih, Int32.add_assoc, z_Jp]
      rw [key, J_add]
    obtain ⟨hfi, e23⟩ := hf i hi
    obtain ⟨r1, r2, r3, r4⟩ := hRC (f i) hfi
    have e2003 : v.1 2003 = J nr := (g1.1.1 2003 rfl).trans e20
    unfold f_Judging_firstWrong_B21
    dsimp only
    refine z_neg (by rw [e2003]; (try simp (disch := omega) only [Int32.lt_iff_toInt_lt, Int32.le_iff_toInt_le, ← Int32.toInt_inj, Int32.toInt_add, Int32.toInt_sub, Int32.toInt_mul, Int32.toInt_neg, z_bm, z_bm2, J_ti, J_toInt, z_cn, Int32.reduceToInt]) <;> omega) ?_
    rw [z_Records_inOrder (by omega), z_bind_some, g1.1.2.1 23 rfl, e23, z_Records_nightOf (by omega), z_bind_some, g1.1.2.1 21 rfl, r3, hnight]
    have sub : ∀ {y' : Int32} {g : Nat → Prop}, z_mn nr g y' → (∀ r, r < nr → (g r ↔ (z_bad E u t A B r ∧ ∃ j, j < i + 1 ∧ f j = r))) → z_mn nr (fun r => z_bad E u t A B r ∧ ∃ j, j < i + 1 ∧ f j = r) y' := fun h e => z_mn_c h e
    by_cases hle : t + d ≤ A (f i)
    · refine z_pos (by (try simp (disch := omega) only [Int32.lt_iff_toInt_lt, Int32.le_iff_toInt_le, ← Int32.toInt_inj, Int32.toInt_add, Int32.toInt_sub, Int32.toInt_mul, Int32.toInt_neg, z_bm, z_bm2, J_ti, J_toInt, z_cn, Int32.reduceToInt]) <;> omega) ?_
      rw [J_sub hle]
      refine z_bind _ (z_Wt_n (K := 1) hE.1 (by omega) (by omega) g1) (fun _ v' hv' => ?_)
      rw [show d + (A (f i) - (t + d)) = A (f i) - t by omega] at hv'
      rw [show (0 : Int32) = J 0 from rfl, z_Wt_p hv' (by omega) (by omega), z_bind_some, z_Records_placeOf (by omega), z_bind_some, hv'.1.2.1 22 rfl, r4]
      have hd' : A (f i) - t = 0 ∨ ∃ i', i' < i + 1 ∧ t + (A (f i) - t) = A (f i') := Or.inr ⟨i, by omega, by omega⟩
      refine z_ite (fun q => k_sat_mk (Or.inl ⟨_, rfl, A (f i) - t, hv', by omega, hd', sub g3 (fun r hr => ?_), g4⟩)) (fun q => ?_)
      · constructor
        · rintro ⟨b1, j, hj, rfl⟩
          exact ⟨b1, j, by omega, rfl⟩
        · rintro ⟨b1, j, hj, rfl⟩
          by_cases e : j = i
          · subst e; exact absurd q b1.2
          · exact ⟨b1, j, by omega, rfl⟩
      · have hb : z_bad E u t A B (f i) := ⟨by omega, q⟩
        rw [show J 0 = (0 : Int32) from rfl]
        have hadd := z_mn_a (r0 := f i) hnr g3 hfi
        have eqv : ∀ r, r < nr → (((z_bad E u t A B r ∧ ∃ j, j < i ∧ f j = r) ∨ r = f i) ↔ (z_bad E u t A B r ∧ ∃ j, j < i + 1 ∧ f j = r)) := by
          intro r hr
          constructor
          · rintro (⟨b1, j, hj, rfl⟩ | rfl)
            · exact ⟨b1, j, by omega, rfl⟩
            · exact ⟨hb, i, by omega, rfl⟩
          · rintro ⟨b1, j, hj, rfl⟩
            by_cases e : j = i
            · subst e; exact Or.inr rfl
            · exact Or.inl ⟨b1, j, by omega, rfl⟩
        rcases hfl with rfl | rfl
        · refine z_pos rfl ?_
          by_cases q2 : y < 0
          · obtain ⟨e2, e3⟩ := hadd.1 q2
            exact z_pos e2 (k_sat_mk (Or.inl ⟨_, rfl, _, hv', by omega, hd', sub e3 eqv, fun q => absurd q (by decide)⟩))
          · obtain ⟨e2, e3, e4⟩ := hadd.2 q2
            refine z_neg e2 (z_ite (fun q3 => k_sat_mk (Or.inl ⟨_, rfl, _, hv', by omega, hd', sub (e3 q3) eqv, fun q => absurd q (by decide)⟩)) (fun q3 => k_sat_mk (Or.inl ⟨_, rfl, _, hv', by omega, hd', sub (e4 q3) eqv, fun q => absurd q (by decide)⟩)))
        · exact z_neg (by decide) (k_sat_mk (Or.inr ⟨_, rfl, hv'.1, Or.inl ⟨f i, hfi, rfl, rfl, hb⟩⟩))
    · have hd0 : d = 0 := by
        rcases g2 with g2 | ⟨i', a, b⟩
        · exact g2
        · have := hso i' i a hi; omega
      refine z_neg (by (try simp (disch := omega) only [Int32.lt_iff_toInt_lt, Int32.le_iff_toInt_le, ← Int32.toInt_inj, Int32.toInt_add, Int32.toInt_sub, Int32.toInt_mul, Int32.toInt_neg, z_bm, z_bm2, J_ti, J_toInt, z_cn, Int32.reduceToInt]) <;> omega) (k_sat_mk (Or.inl ⟨_, rfl, d, g1, gd, ?_, sub g3 (fun r hr => ?_), g4⟩))
      · exact Or.inl hd0
      · constructor
        · rintro ⟨b1, j, hj, rfl⟩
          exact ⟨b1, j, by omega, rfl⟩
        · rintro ⟨b1, j, hj, rfl⟩
          by_cases e : j = i
          · subst e; have := b1.1; omega
          · exact ⟨b1, j, by omega, rfl⟩
  · obtain ⟨d, g1, gd, g2, g3, g4⟩ := hp
    have e2003 : v.1 2003 = J nr := (g1.1.1 2003 rfl).trans e20
    unfold f_Judging_firstWrong_B21
    dsimp only
    refine z_pos (by rw [e2003]; exact Int32.le_refl _) (k_sat_mk ⟨_, rfl, g1.1, Or.inr ⟨_, rfl, z_mn_c g3 (fun r hr => ⟨fun q => q.1, fun q => ⟨q, ?_⟩⟩), g4⟩⟩)
    obtain ⟨i, a, b⟩ := hsu r hr
    exact ⟨i, a, b⟩
  · obtain ⟨g1, ⟨r', a1, rfl, rfl, a2⟩ | ⟨x, rfl, a1, a2⟩⟩ := hv
    · refine k_sat_mk ⟨g1, fun q => absurd q (by decide), fun _ => ⟨⟨fun q => absurd q (by (try simp (disch := omega) only [Int32.lt_iff_toInt_lt, Int32.le_iff_toInt_le, ← Int32.toInt_inj, Int32.toInt_add, Int32.toInt_sub, Int32.toInt_mul, Int32.toInt_neg, z_bm, z_bm2, J_ti, J_toInt, z_cn, Int32.reduceToInt]) <;> omega), fun q => absurd a2 (q r' a1)⟩, Or.inr ⟨r', a1, rfl⟩⟩⟩
    · refine k_sat_mk ⟨g1, fun _ => a1, fun q => ⟨⟨fun _ => ?_, fun _ => a2 q⟩, Or.inl (a2 q)⟩⟩
      rcases a1 with ⟨-, b⟩ | ⟨m, b1, b2, b3, -⟩
      · exact b
      · rw [a2 q] at b3
        exact absurd b3.symm (by (try simp (disch := omega) only [Int32.lt_iff_toInt_lt, Int32.le_iff_toInt_le, ← Int32.toInt_inj, Int32.toInt_add, Int32.toInt_sub, Int32.toInt_mul, Int32.toInt_neg, z_bm, z_bm2, J_ti, J_toInt, z_cn, Int32.reduceToInt]) <;> omega)
theorem z_firstR {E : z_E} {u : k_S} {t nr : Nat} {A B : Nat → Nat} (hE : z_ER E u) (hok : z_ok E (z_moR u)) (h0 : 0 < E.1) (ht : t ≤ 1000000) (t2 : u.1 4209 = J t) (hnr : nr ≤ 40) (e42 : u.1 4235 = J nr) (hRC : z_RC 64 65 nr A B u) : k_sat (f_R_firstWrong u) (fun r v => z_fr [4230] [54, 55, 60, 61, 62] u v ∧ z_mn nr (z_bad E u t A B) r) := by
  unfold f_R_firstWrong
  rw [t2]
  refine z_let (z_bind (fun y v => v = u ∧ ∃ l : Nat, l ≤ 1005001 ∧ y = J l - 1 ∧ t ≤ l ∧ ∀ r, r < nr → A r < l) (z_for2 0 nr (J t - 1) (fun i y v => v = u ∧ ∃ l : Nat, l ≤ 1005001 ∧ y = J l - 1 ∧ t ≤ l ∧ ∀ r, r < i → A r < l) (by omega) (Nat.zero_le nr) ⟨rfl, t, by omega, rfl, Nat.le_refl t, fun r hr => by omega⟩ (fun i y v _ hi hp => ?_) (fun y v hp => ?_)) (fun y v hv => ?_))
  · obtain ⟨rfl, l, l1, rfl, l2, l3⟩ := hp
    obtain ⟨r1, r2, r3, r4⟩ := hRC i hi
    unfold f_R_firstWrong_B9
    dsimp only
    refine z_neg (by rw [e42]; (try simp (disch := omega) only [Int32.lt_iff_toInt_lt, Int32.le_iff_toInt_le, ← Int32.toInt_inj, Int32.toInt_add, Int32.toInt_sub, Int32.toInt_mul, Int32.toInt_neg, z_bm, z_bm2, J_ti, J_toInt, z_cn, Int32.reduceToInt]) <;> omega) (z_ck (by (try simp (disch := omega) only [Int32.lt_iff_toInt_lt, Int32.le_iff_toInt_le, ← Int32.toInt_inj, Int32.toInt_add, Int32.toInt_sub, Int32.toInt_mul, Int32.toInt_neg, z_bm, z_bm2, J_ti, J_toInt, z_cn, Int32.reduceToInt]) <;> omega) (by (try simp (disch := omega) only [Int32.lt_iff_toInt_lt, Int32.le_iff_toInt_le, ← Int32.toInt_inj, Int32.toInt_add, Int32.toInt_sub, Int32.toInt_mul, Int32.toInt_neg, z_bm, z_bm2, J_ti, J_toInt, z_cn, Int32.reduceToInt]) <;> omega) ?_)
    rw [J_toNat (by omega), r3]
    refine z_ite (fun q => k_sat_mk (Or.inl ⟨_, rfl, rfl, l, l1, rfl, l2, fun r hr => ?_⟩)) (fun q => z_ck (by (try simp (disch := omega) only [Int32.lt_iff_toInt_lt, Int32.le_iff_toInt_le, ← Int32.toInt_inj, Int32.toInt_add, Int32.toInt_sub, Int32.toInt_mul, Int32.toInt_neg, z_bm, z_bm2, J_ti, J_toInt, z_cn, Int32.reduceToInt]) <;> omega) (by (try simp (disch := omega) only [Int32.lt_iff_toInt_lt, Int32.le_iff_toInt_le, ← Int32.toInt_inj, Int32.toInt_add, Int32.toInt_sub, Int32.toInt_mul, Int32.toInt_neg, z_bm, z_bm2, J_ti, J_toInt, z_cn, Int32.reduceToInt]) <;> omega) (z_let (k_sat_mk (Or.inl ⟨_, rfl, rfl, A i + 1, by omega, by rw [z_Jm], ?_, fun r hr => ?_⟩))))
    · by_cases e : r = i
      · rw [e]; ((try simp (disch := omega) only [Int32.lt_iff_toInt_lt, Int32.le_iff_toInt_le, ← Int32.toInt_inj, Int32.toInt_add, Int32.toInt_sub, Int32.toInt_mul, Int32.toInt_neg, z_bm, z_bm2, J_ti, J_toInt, z_cn, Int32.reduceToInt] at *); omega)
      · exact l3 r (by omega)
    · have : l ≤ A i + 1 := by ((try simp (disch := omega) only [Int32.lt_iff_toInt_lt, Int32.le_iff_toInt_le, ← Int32.toInt_inj, Int32.toInt_add, Int32.toInt_sub, Int32.toInt_mul, Int32.toInt_neg, z_bm, z_bm2, J_ti, J_toInt, z_cn, Int32.reduceToInt] at *); omega)
      omega
    · by_cases e : r = i
      · rw [e]; omega
      · have := l3 r (by omega)
        have : l ≤ A i + 1 := by ((try simp (disch := omega) only [Int32.lt_iff_toInt_lt, Int32.le_iff_toInt_le, ← Int32.toInt_inj, Int32.toInt_add, Int32.toInt_sub, Int32.toInt_mul, Int32.toInt_neg, z_bm, z_bm2, J_ti, J_toInt, z_cn, Int32.reduceToInt] at *); omega)
        omega
  · obtain ⟨rfl, hp⟩ := hp
    unfold f_R_firstWrong_B9
    exact z_pos (by rw [e42]; exact Int32.le_refl _) (k_sat_mk ⟨_, rfl, rfl, hp⟩)
  · obtain ⟨rfl, l, l1, rfl, l2, l3⟩ := hv
    refine z_bind _ (z_Rt_0 E v) (fun _ u1 h1 => z_bind (fun y w => (∃ i, z_Rt E v i w) ∧ z_mn nr (z_bad E v t A B) y) ?_ (fun y w hw => ?_))
    · refine z_itr (P := fun m y w => ∃ i, t + i ≤ l ∧ m = l - (t + i) ∧ z_Rt E v i w ∧ z_mn nr (fun r => z_bad E v t A B r ∧ A r < t + i) y) (fun m y w h => ?_) k_FU (l - t) (-2) u1 (by unfold k_FU; omega) ⟨0, by omega, rfl, h1, Or.inl ⟨rfl, fun r hr q => by have := q.1.1; omega⟩⟩
      obtain ⟨i, hi, rfl, g1, g2⟩ := h
      have hnight : w.1 4209 = J (t + i) := by
        have : w.1 4209 = (z_or E 4 i (z_moR v)).1 := by rw [← g1.2.1]; rfl
        rw [this, (z_or_ok hok i).2]
        show v.1 4209 + J i = _
        rw [t2, J_add]
      unfold f_R_firstWrong_B47
      rw [hnight]
      by_cases hend : t + i = l
      · subst hend
        refine z_pos ?_ (k_sat_mk (Or.inr ⟨_, rfl, ⟨i, g1⟩, z_mn_c g2 (fun r hr => ⟨fun q => q.1, fun q => ⟨q, l3 r hr⟩⟩)⟩))
        by_cases hz : t + i = 0
        · rw [hz]; decide
        · rw [z_Jm' (by omega)]; (try simp (disch := omega) only [Int32.lt_iff_toInt_lt, Int32.le_iff_toInt_le, ← Int32.toInt_inj, Int32.toInt_add, Int32.toInt_sub, Int32.toInt_mul, Int32.toInt_neg, z_bm, z_bm2, J_ti, J_toInt, z_cn, Int32.reduceToInt]) <;> omega
      · refine z_neg (by rw [z_Jm' (show 0 < l by omega)]; (try simp (disch := omega) only [Int32.lt_iff_toInt_lt, Int32.le_iff_toInt_le, ← Int32.toInt_inj, Int32.toInt_add, Int32.toInt_sub, Int32.toInt_mul, Int32.toInt_neg, z_bm, z_bm2, J_ti, J_toInt, z_cn, Int32.reduceToInt]) <;> omega) ?_
        refine z_bind _ (z_for2 0 nr y (fun r0 y' w' => w' = w ∧ z_mn nr (fun r => z_bad E v t A B r ∧ (A r < t + i ∨ (A r = t + i ∧ r < r0))) y') (K := fun y' w' => w' = w ∧ z_mn nr (fun r => z_bad E v t A B r ∧ A r < t + (i + 1)) y') (by omega) (Nat.zero_le nr) ⟨rfl, z_mn_c g2 (fun r hr => ⟨fun q => ⟨q.1, Or.inl q.2⟩, fun q => ⟨q.1, by rcases q.2 with x | x <;> omega⟩⟩)⟩ (fun r0 y' w' _ hr0 hp => ?_) (fun y' w' hp => ?_)) (fun y' w' hw' => ?_)
        · obtain ⟨rfl, hp⟩ := hp
          obtain ⟨r1, r2, r3, r4⟩ := hRC r0 hr0
          unfold f_R_firstWrong_B57
          dsimp only
          have e1 : w'.1 4235 = J nr := (g1.1.1 4235 rfl).trans e42
          have e64 : w'.2.1 64 r0 = J (A r0) := (congrFun (g1.1.2.1 64 rfl) r0).trans r3
          have e65 : w'.2.1 65 r0 = J (B r0) := (congrFun (g1.1.2.1 65 rfl) r0).trans r4
          rw [e1, J_toNat (show r0 < 2147483648 by omega), e64, e65, hnight, show (0 : Int32).toNatClampNeg = 0 from rfl, (z_Rt_p g1 0).1]
          refine z_neg (by (try simp (disch := omega) only [Int32.lt_iff_toInt_lt, Int32.le_iff_toInt_le, ← Int32.toInt_inj, Int32.toInt_add, Int32.toInt_sub, Int32.toInt_mul, Int32.toInt_neg, z_bm, z_bm2, J_ti, J_toInt, z_cn, Int32.reduceToInt]) <;> omega) (z_ck (by (try simp (disch := omega) only [Int32.lt_iff_toInt_lt, Int32.le_iff_toInt_le, ← Int32.toInt_inj, Int32.toInt_add, Int32.toInt_sub, Int32.toInt_mul, Int32.toInt_neg, z_bm, z_bm2, J_ti, J_toInt, z_cn, Int32.reduceToInt]) <;> omega) (by (try simp (disch := omega) only [Int32.lt_iff_toInt_lt, Int32.le_iff_toInt_le, ← Int32.toInt_inj, Int32.toInt_add, Int32.toInt_sub, Int32.toInt_mul, Int32.toInt_neg, z_bm, z_bm2, J_ti, J_toInt, z_cn, Int32.reduceToInt]) <;> omega) ?_)
          by_cases hA : A r0 = t + i
          · refine z_pos (by rw [hA]) (z_ck (by (try simp (disch := omega) only [Int32.lt_iff_toInt_lt, Int32.le_iff_toInt_le, ← Int32.toInt_inj, Int32.toInt_add, Int32.toInt_sub, Int32.toInt_mul, Int32.toInt_neg, z_bm, z_bm2, J_ti, J_toInt, z_cn, Int32.reduceToInt]) <;> omega) (by (try simp (disch := omega) only [Int32.lt_iff_toInt_lt, Int32.le_iff_toInt_le, ← Int32.toInt_inj, Int32.toInt_add, Int32.toInt_sub, Int32.toInt_mul, Int32.toInt_neg, z_bm, z_bm2, J_ti, J_toInt, z_cn, Int32.reduceToInt]) <;> omega) (z_ck (by decide) (by decide) ?_))
            have hi2 : A r0 - t = i := by omega
            by_cases q : J (B r0) = z_pl E v 0 i
            · refine z_pos q (k_sat_mk (Or.inl ⟨_, rfl, rfl, z_mn_c hp (fun r hr => ⟨fun x => ⟨x.1, by rcases x.2 with y | y <;> omega⟩, fun x => ⟨x.1, ?_⟩⟩)⟩))
              rcases x.2 with y | y
              · exact Or.inl y
              · by_cases e : r = r0
                · subst e; exact absurd (by rw [hi2]; exact q.symm) x.1.2
                · exact Or.inr ⟨y.1, by omega⟩
            · have hb : z_bad E v t A B r0 := ⟨by omega, by rw [hi2]; exact fun x => q x.symm⟩
              have hadd := z_mn_a (r0 := r0) hnr hp hr0
              have eqv : ∀ r, r < nr → (((z_bad E v t A B r ∧ (A r < t + i ∨ (A r = t + i ∧ r < r0))) ∨ r = r0) ↔ (z_bad E v t A B r ∧ (A r < t + i ∨ (A r = t + i ∧ r < r0 + 1)))) := by
                intro r hr
                constructor
                · rintro (⟨x, y⟩ | rfl)
                  · exact ⟨x, by rcases y with y | y <;> omega⟩
                  · exact ⟨hb, Or.inr ⟨hA, by omega⟩⟩
                · rintro ⟨x, y⟩
                  by_cases e : r = r0
                  · exact Or.inr e
                  · exact Or.inl ⟨x, by rcases y with y | y <;> omega⟩
              refine z_neg q ?_
              by_cases q2 : y' < 0
              · exact z_pos q2 (k_sat_mk (Or.inl ⟨_, rfl, rfl, z_mn_c (hadd.1 q2).2 eqv⟩))
              · obtain ⟨-, e3, e4⟩ := hadd.2 q2
                exact z_neg q2 (z_ite (fun q3 => k_sat_mk (Or.inl ⟨_, rfl, rfl, z_mn_c (e3 q3) eqv⟩)) (fun q3 => k_sat_mk (Or.inl ⟨_, rfl, rfl, z_mn_c (e4 q3) eqv⟩)))
          · refine z_neg (by (try simp (disch := omega) only [Int32.lt_iff_toInt_lt, Int32.le_iff_toInt_le, ← Int32.toInt_inj, Int32.toInt_add, Int32.toInt_sub, Int32.toInt_mul, Int32.toInt_neg, z_bm, z_bm2, J_ti, J_toInt, z_cn, Int32.reduceToInt]) <;> omega) (k_sat_mk (Or.inl ⟨_, rfl, rfl, z_mn_c hp (fun r hr => ⟨fun x => ⟨x.1, by rcases x.2 with y | y <;> omega⟩, fun x => ⟨x.1, ?_⟩⟩)⟩))
            rcases x.2 with y | y
            · exact Or.inl y
            · by_cases e : r = r0
              · subst e; omega
              · exact Or.inr ⟨y.1, by omega⟩
        · obtain ⟨rfl, hp⟩ := hp
          unfold f_R_firstWrong_B57
          have e1 : w'.1 4235 = J nr := (g1.1.1 4235 rfl).trans e42
          refine z_pos (by rw [e1]; exact Int32.le_refl _) (k_sat_mk ⟨_, rfl, rfl, z_mn_c hp (fun r hr => ⟨fun x => ⟨x.1, by rcases x.2 with y | y <;> omega⟩, fun x => ⟨x.1, by have := x.2; omega⟩⟩)⟩)
        · obtain ⟨rfl, hm⟩ := hw'
          exact z_bind _ (z_Rt_s hE hok g1) (fun _ w2 hw2 => k_sat_mk (Or.inl ⟨_, l - (t + (i + 1)), rfl, by omega, i + 1, by omega, rfl, hw2, hm⟩))
    · obtain ⟨⟨i, g1⟩, g2⟩ := hw
      exact z_bind _ (z_Rt_b hE.1 g1) (fun _ w' hw' => k_sat_mk ⟨hw', g2⟩)
