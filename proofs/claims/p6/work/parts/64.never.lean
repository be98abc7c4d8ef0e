/-! never -/
theorem z_and {α : Type} {o : Option (α × k_S)} {A B : α → k_S → Prop} (h : k_sat o A) (k : k_sat o B) : k_sat o (fun a u => A a u ∧ B a u) := by
  obtain ⟨x, e, a⟩ := h
  obtain ⟨y, e', b⟩ := k
  rw [e] at e'
  cases e'
  exact ⟨x, e, a, b⟩
theorem z_think_fr {E : z_E} {u : k_S} (hE : z_EW E u) : k_sat (f_Nights_think u) (fun _ v => z_fr [1702] [18, 19] u v) := by
  unfold f_Nights_think
  rw [hE.2.1]
  exact z_bind _ (z_Thought_become_Now E.1 hE.1 u) (fun _ v hv => k_sat_mk hv.1)
theorem z_Wt_ok {E : z_E} {K : Nat} {u : k_S} {i : Nat} {v : k_S} (hE : z_EW E u) (h : z_Wt E K u i v) : z_EW E v ∧ z_ok E (z_moThought v) := ⟨z_EW_f h.1 (by decide) hE, h.2.1⟩
theorem z_Rt_ok {E : z_E} {u : k_S} {i : Nat} {v : k_S} (hE : z_ER E u) (hok : z_ok E (z_moR u)) (h : z_Rt E u i v) : z_ER E v ∧ z_ok E (z_moR v) := ⟨z_ER_f h.1 (by decide) hE, by rw [h.2.1]; exact (z_or_ok hok i).1⟩
/-- a place is shown now or in n nights -/
def z_shn (E : z_E) (u : k_S) (n p : Nat) : Prop := ∃ i, i ≤ n ∧ z_pl E u 0 i = J p
/-- how many of the places p .. are not, by g -/
def z_cz (g : Nat → Bool) : Nat → Nat
  | 0 => 0
  | i + 1 => z_cz g i + (if g i = true then 1 else 0)
/-- the first, from 0 on, below n; or -2 -/
def z_hz (g : Nat → Bool) (a n : Nat) (r : Int32) : Prop := (∃ i, a ≤ i ∧ i < n ∧ g i = true ∧ (∀ j, a ≤ j → j < i → g j = false) ∧ r = J i) ∨ ((∀ j, a ≤ j → j < n → g j = false) ∧ r = -2)
theorem z_hz_u {g : Nat → Bool} {a n : Nat} {r r' : Int32} (h : z_hz g a n r) (h' : z_hz g a n r') : r = r' := by
  rcases h with ⟨i, a1, a2, a3, a4, rfl⟩ | ⟨a1, rfl⟩ <;> rcases h' with ⟨j, b1, b2, b3, b4, rfl⟩ | ⟨b1, rfl⟩
  · have : i = j := by
      rcases Nat.lt_trichotomy i j with q | q | q
      · have := b4 i a1 q; rw [a3] at this; cases this
      · exact q
      · have := a4 j b1 q; rw [b3] at this; cases this
    rw [this]
  · have := b1 i a1 a2; rw [a3] at this; cases this
  · have := a1 j b1 b2; rw [b3] at this; cases this
  · rfl
theorem z_shn_s {E : z_E} {u : k_S} {n p q : Nat} (h : z_pl E u 0 (n + 1) = J q) (hp : p < 40) (hq : q < 40) : z_shn E u (n + 1) p ↔ (p = q ∨ z_shn E u n p) := by
  constructor
  · rintro ⟨i, hi, e⟩
    by_cases e2 : i = n + 1
    · subst e2
      rw [h, J_inj (by omega) (by omega)] at e
      exact Or.inl e.symm
    · exact Or.inr ⟨i, by omega, e⟩
  · rintro (rfl | ⟨i, hi, e⟩)
    · exact ⟨n + 1, Nat.le_refl _, h⟩
    · exact ⟨i, by omega, e⟩
/-- the class's marks, the reference's marks -/
def z_mk (c : Nat) (E : z_E) (u : k_S) (n : Nat) (v : k_S) : Prop := ∀ p, p < 40 → (v.2.1 c p = 0 ∧ ¬ z_shn E u n p) ∨ (v.2.1 c p = 1 ∧ z_shn E u n p)
theorem z_mk_s {c : Nat} {E : z_E} {u v : k_S} {n q : Nat} (h : z_mk c E u n v) (hq : q < 40) (e : z_pl E u 0 (n + 1) = J q) (v' : k_S) (hv' : v'.2.1 c = upd (v.2.1 c) q 1) : z_mk c E u (n + 1) v' := by
  intro p hp
  rw [hv', z_up]
  by_cases e2 : p = q
  · rw [if_pos e2]; exact Or.inr ⟨rfl, (z_shn_s e hp hq).mpr (Or.inl e2)⟩
  · rw [if_neg e2]
    rcases h p hp with ⟨a, b⟩ | ⟨a, b⟩
    · exact Or.inl ⟨a, fun x => ((z_shn_s e hp hq).mp x).elim e2 b⟩
    · exact Or.inr ⟨a, (z_shn_s e hp hq).mpr (Or.inr b)⟩
theorem z_mk_0 {c : Nat} {E : z_E} {u v v' : k_S} {q : Nat} (h : ∀ p, p < 40 → v.2.1 c p = 0) (hq : q < 40) (e : z_pl E u 0 0 = J q) (hv' : v'.2.1 c = upd (v.2.1 c) q 1) : z_mk c E u 0 v' := by
  intro p hp
  rw [hv', z_up]
  by_cases e2 : p = q
  · rw [if_pos e2]; exact Or.inr ⟨rfl, 0, Nat.le_refl 0, by rw [e, e2]⟩
  · rw [if_neg e2]
    refine Or.inl ⟨h p hp, fun ⟨i, hi, x⟩ => ?_⟩
    have : i = 0 := by omega
    subst this
    rw [e, J_inj (by omega) (by omega)] at x
    exact e2 x.symm
theorem z_mark {E : z_E} {u v : k_S} {i q : Nat} (h : z_Wt E 1 u i v) (hq : q < 40) (e : z_pl E u 0 i = J q) : k_sat (f_Nights_markShown v) (fun _ v' => z_Wt E 1 u i v' ∧ v'.2.1 13 = upd (v.2.1 13) q 1) := by
  unfold f_Nights_markShown
  rw [show (0 : Int32) = J 0 from rfl, z_Wt_p h (by omega) (by omega), z_bind_some, e]
  refine z_neg (by (try simp (disch := omega) only [Int32.lt_iff_toInt_lt, Int32.le_iff_toInt_le, ← Int32.toInt_inj, Int32.toInt_add, Int32.toInt_sub, Int32.toInt_mul, Int32.toInt_neg, z_bm, z_bm2, J_ti, J_toInt, z_cn, Int32.reduceToInt]) <;> omega) (z_neg (by (try simp (disch := omega) only [Int32.lt_iff_toInt_lt, Int32.le_iff_toInt_le, ← Int32.toInt_inj, Int32.toInt_add, Int32.toInt_sub, Int32.toInt_mul, Int32.toInt_neg, z_bm, z_bm2, J_ti, J_toInt, z_cn, Int32.reduceToInt]) <;> omega) (z_ck (by (try simp (disch := omega) only [Int32.lt_iff_toInt_lt, Int32.le_iff_toInt_le, ← Int32.toInt_inj, Int32.toInt_add, Int32.toInt_sub, Int32.toInt_mul, Int32.toInt_neg, z_bm, z_bm2, J_ti, J_toInt, z_cn, Int32.reduceToInt]) <;> omega) (by (try simp (disch := omega) only [Int32.lt_iff_toInt_lt, Int32.le_iff_toInt_le, ← Int32.toInt_inj, Int32.toInt_add, Int32.toInt_sub, Int32.toInt_mul, Int32.toInt_neg, z_bm, z_bm2, J_ti, J_toInt, z_cn, Int32.reduceToInt]) <;> omega) (z_let ?_)))
  rw [J_toNat (by omega)]
  exact k_sat_mk ⟨⟨h.1.tr (z_wA rfl), h.2.1, h.2.2⟩, by simp [k_wA]⟩
theorem z_never (a b : Int32) (u : k_S) (h : zI u) : z_pair (f_W_never a b) (f_R_never a b) u zI := by
  obtain ⟨E, hE, -, eS, -⟩ := z_env h
  have hE4 := hE.1.1
  have e1 := hE.1.2.1
  have e2 := hE.2.1.2.1
  refine z_pair_of ?_
  by_cases hr : (1 ≤ a.toInt ∧ a.toInt ≤ 2000) ∧ 0 ≤ b.toInt ∧ b.toInt ≤ 1
  · obtain ⟨⟨ha1, ha2⟩, hb1, hb2⟩ := hr
    obtain ⟨n, rfl, hn, -⟩ := J_of (x := a) (by omega)
    unfold f_W_never
    refine z_neg (by (try simp (disch := omega) only [Int32.lt_iff_toInt_lt, Int32.le_iff_toInt_le, ← Int32.toInt_inj, Int32.toInt_add, Int32.toInt_sub, Int32.toInt_mul, Int32.toInt_neg, z_bm, z_bm2, J_ti, J_toInt, z_cn, Int32.reduceToInt]) <;> omega) (z_neg (by (try simp (disch := omega) only [Int32.lt_iff_toInt_lt, Int32.le_iff_toInt_le, ← Int32.toInt_inj, Int32.toInt_add, Int32.toInt_sub, Int32.toInt_mul, Int32.toInt_neg, z_bm, z_bm2, J_ti, J_toInt, z_cn, Int32.reduceToInt]) <;> omega) (z_neg (by (try simp (disch := omega) only [Int32.lt_iff_toInt_lt, Int32.le_iff_toInt_le, ← Int32.toInt_inj, Int32.toInt_add, Int32.toInt_sub, Int32.toInt_mul, Int32.toInt_neg, z_bm, z_bm2, J_ti, J_toInt, z_cn, Int32.reduceToInt]) <;> omega) (z_pos (by (try simp (disch := omega) only [Int32.lt_iff_toInt_lt, Int32.le_iff_toInt_le, ← Int32.toInt_inj, Int32.toInt_add, Int32.toInt_sub, Int32.toInt_mul, Int32.toInt_neg, z_bm, z_bm2, J_ti, J_toInt, z_cn, Int32.reduceToInt]) <;> omega) ?_)))
    by_cases h0 : E.1 = 0
    · refine z_pos (by rw [e1, h0]; rfl) (k_sat_mk ?_)
      unfold f_R_never
      rw [z_Rin1 (by (try simp (disch := omega) only [Int32.lt_iff_toInt_lt, Int32.le_iff_toInt_le, ← Int32.toInt_inj, Int32.toInt_add, Int32.toInt_sub, Int32.toInt_mul, Int32.toInt_neg, z_bm, z_bm2, J_ti, J_toInt, z_cn, Int32.reduceToInt]) <;> omega) (by (try simp (disch := omega) only [Int32.lt_iff_toInt_lt, Int32.le_iff_toInt_le, ← Int32.toInt_inj, Int32.toInt_add, Int32.toInt_sub, Int32.toInt_mul, Int32.toInt_neg, z_bm, z_bm2, J_ti, J_toInt, z_cn, Int32.reduceToInt]) <;> omega), z_bind_some]
      refine z_neg (by decide) ?_
      rw [z_Rin1 (by (try simp (disch := omega) only [Int32.lt_iff_toInt_lt, Int32.le_iff_toInt_le, ← Int32.toInt_inj, Int32.toInt_add, Int32.toInt_sub, Int32.toInt_mul, Int32.toInt_neg, z_bm, z_bm2, J_ti, J_toInt, z_cn, Int32.reduceToInt]) <;> omega) (by (try simp (disch := omega) only [Int32.lt_iff_toInt_lt, Int32.le_iff_toInt_le, ← Int32.toInt_inj, Int32.toInt_add, Int32.toInt_sub, Int32.toInt_mul, Int32.toInt_neg, z_bm, z_bm2, J_ti, J_toInt, z_cn, Int32.reduceToInt]) <;> omega), z_bind_some]
      exact z_neg (by decide) (z_pos (by rw [e2, h0]; rfl) (k_sat_mk ⟨rfl, h⟩))
    · refine z_neg (by rw [e1]; (try simp (disch := omega) only [Int32.lt_iff_toInt_lt, Int32.le_iff_toInt_le, ← Int32.toInt_inj, Int32.toInt_add, Int32.toInt_sub, Int32.toInt_mul, Int32.toInt_neg, z_bm, z_bm2, J_ti, J_toInt, z_cn, Int32.reduceToInt]) <;> omega) ?_
      have hpl : ∀ i, ∃ q, q < 40 ∧ z_pl E u 0 i = J q := fun i => by
        obtain ⟨p, s, x1, x2, x3, -⟩ := z_pl_ok hE.2.2.2.1 (show 0 < E.1 by omega) i
        exact ⟨p, by omega, x3⟩
      obtain ⟨p0, s, -, hs2, hs, -, es⟩ := hE.2.2.1.2 0 (by omega)
      have es5 : u.2.1 5 0 = J s := by rw [← eS]; exact es
      have es45 : u.2.1 45 0 = J s := ((hE.2.1.2.2.1 0 (by omega)).1).trans es
      have hg : ∃ g : Nat → Bool, ∀ p, g p = true ↔ ¬ z_shn E u n p := by
        classical
        exact ⟨fun p => decide (¬ z_shn E u n p), fun p => by simp⟩
      obtain ⟨g, hg⟩ := hg
      have gm : ∀ {c : Nat} {v : k_S}, z_mk c E u n v → ∀ p, p < 40 → (v.2.1 c p = 0 ↔ g p = true) := by
        intro c v hm p hp
        rcases hm p hp with ⟨x, y⟩ | ⟨x, y⟩
        · exact ⟨fun _ => (hg p).mpr y, fun _ => x⟩
        · exact ⟨fun q => absurd (q.symm.trans x) (by decide), fun q => absurd y ((hg p).mp q)⟩
      have key : ∀ fl : Int32, (fl = 0 ∨ fl = 1) → k_sat (f_Nights_unshown (J n) fl u) (fun r v => z_fr [1702, 1206, 704] [18, 19, 9, 13] u v ∧ (fl = 1 → r = J (z_cz g s)) ∧ (fl = 0 → z_hz g 0 s r)) := by
        intro fl hfl
        unfold f_Nights_unshown
        refine z_bind _ (z_for 0 40 (fun i v => z_fr [] [13] u v ∧ ∀ p, p < i → v.2.1 13 p = 0) (K := fun _ v => z_fr [] [13] u v ∧ ∀ p, p < 40 → v.2.1 13 p = 0) (by omega) (by omega) ⟨z_fr.rf, fun p hp => by omega⟩ (fun i v _ hi hp => ?_) (fun v hp => ?_)) (fun _ v0 hv0 => ?_)
        · unfold f_Nights_unshown_B2
          refine z_neg (by (try simp (disch := omega) only [Int32.lt_iff_toInt_lt, Int32.le_iff_toInt_le, ← Int32.toInt_inj, Int32.toInt_add, Int32.toInt_sub, Int32.toInt_mul, Int32.toInt_neg, z_bm, z_bm2, J_ti, J_toInt, z_cn, Int32.reduceToInt]) <;> omega) (z_ck (by (try simp (disch := omega) only [Int32.lt_iff_toInt_lt, Int32.le_iff_toInt_le, ← Int32.toInt_inj, Int32.toInt_add, Int32.toInt_sub, Int32.toInt_mul, Int32.toInt_neg, z_bm, z_bm2, J_ti, J_toInt, z_cn, Int32.reduceToInt]) <;> omega) (by (try simp (disch := omega) only [Int32.lt_iff_toInt_lt, Int32.le_iff_toInt_le, ← Int32.toInt_inj, Int32.toInt_add, Int32.toInt_sub, Int32.toInt_mul, Int32.toInt_neg, z_bm, z_bm2, J_ti, J_toInt, z_cn, Int32.reduceToInt]) <;> omega) (z_let (k_sat_mk (Or.inl ⟨rfl, hp.1.tr (z_wA rfl), fun p hp' => ?_⟩))))
          simp only [k_wA, if_true, J_toNat (show i < 2147483648 by omega)]
          rw [z_up]
          by_cases e : p = i
          · rw [if_pos e]
          · rw [if_neg e]; exact hp.2 p (by omega)
        · unfold f_Nights_unshown_B2
          exact z_pos (by decide) (k_sat_mk ⟨_, rfl, hp⟩)
        · have hE0 := z_en_f hv0.1 (by decide) (by decide) (by decide) hE
          have hWu : ∀ {K i : Nat} {v : k_S}, z_Wt E K v0 i v → z_Wt E K u i v := by
            intro K i v hv
            have : z_moR v0 = z_moR u := by unfold z_moR; rw [hv0.1.1 4209 rfl, hv0.1.2.1 46 rfl, hv0.1.2.1 47 rfl]
            exact ⟨(hv0.1.mono rfl rfl).tr hv.1, hv.2.1, by rw [← this]; exact hv.2.2⟩
          refine z_bind (fun _ v => z_Wt E 1 u 0 v ∧ ∀ p, p < 40 → v.2.1 13 p = 0) (z_mono (z_and (z_Wt_0 hE0) (z_think_fr hE0.1)) (fun _ v hv => ⟨(hWu hv.1).le (by omega), ?_⟩)) (fun _ v1 hv1 => ?_)
          · rw [hv.2.2.1 13 rfl]; exact hv0.2
          · obtain ⟨q, hq, eq⟩ := hpl 0
            refine z_bind _ (z_mark hv1.1 hq eq) (fun _ v2 hv2 => z_bind _ (z_for 0 n (fun i v => z_Wt E 1 u i v ∧ z_mk 13 E u i v) (K := fun _ v => z_Wt E 1 u n v ∧ z_mk 13 E u n v) (by omega) (Nat.zero_le n) ⟨hv2.1, z_mk_0 hv1.2 hq eq hv2.2⟩ (fun i v _ hi hp => ?_) (fun v hp => ?_)) (fun _ v3 hv3 => ?_))
            · unfold f_Nights_unshown_B34
              refine z_neg (by (try simp (disch := omega) only [Int32.lt_iff_toInt_lt, Int32.le_iff_toInt_le, ← Int32.toInt_inj, Int32.toInt_add, Int32.toInt_sub, Int32.toInt_mul, Int32.toInt_neg, z_bm, z_bm2, J_ti, J_toInt, z_cn, Int32.reduceToInt]) <;> omega) (z_bind (fun _ v' => z_Wt E 1 u (i + 1) v' ∧ v'.2.1 13 = v.2.1 13) (z_mono (z_and (z_Wt_s (K := 1) hE.1 (by omega) hp.1) (z_pass_Thought E 1 1 (by omega) (by omega) v (z_Wt_ok hE.1 hp.1).1 (z_Wt_ok hE.1 hp.1).2)) (fun _ v' hv' => ⟨hv'.1, hv'.2.1.2.1 13 rfl⟩)) (fun _ v' hv' => ?_))
              obtain ⟨q, hq, eq⟩ := hpl (i + 1)
              exact z_bind _ (z_mark hv'.1 hq eq) (fun _ v4 hv4 => k_sat_mk (Or.inl ⟨rfl, hv4.1, z_mk_s hp.2 hq eq v4 (by rw [hv4.2, hv'.2])⟩))
            · unfold f_Nights_unshown_B34
              exact z_pos (Int32.le_refl _) (k_sat_mk ⟨_, rfl, hp⟩)
            · have e53 : v3.2.1 5 0 = J s := by rw [hv3.1.1.2.1 5 rfl]; exact es5
              refine z_bind _ (z_for2 0 s 0 (fun i x v => v = v3 ∧ x = J (z_cz g i) ∧ (fl = 0 → ∀ j, j < i → g j = false)) (K := fun y v => v = v3 ∧ ((∃ i, y = .inl (J i) ∧ fl = 0 ∧ i < s ∧ g i = true ∧ ∀ j, j < i → g j = false) ∨ (y = .inr (J (z_cz g s)) ∧ (fl = 0 → ∀ j, j < s → g j = false)))) (by omega) (Nat.zero_le s) ⟨rfl, rfl, fun _ j hj => by omega⟩ (fun i x v _ hi hp => ?_) (fun x v hp => ?_)) (fun y v hv => ?_)
              · obtain ⟨rfl, rfl, g3⟩ := hp
                unfold f_Nights_unshown_B64
                dsimp only
                rw [show (0 : Int32) = J 0 from rfl, z_Wheels_sizeOf (by omega), z_bind_some, e53]
                refine z_neg (by (try simp (disch := omega) only [Int32.lt_iff_toInt_lt, Int32.le_iff_toInt_le, ← Int32.toInt_inj, Int32.toInt_add, Int32.toInt_sub, Int32.toInt_mul, Int32.toInt_neg, z_bm, z_bm2, J_ti, J_toInt, z_cn, Int32.reduceToInt]) <;> omega) (z_neg (by (try simp (disch := omega) only [Int32.lt_iff_toInt_lt, Int32.le_iff_toInt_le, ← Int32.toInt_inj, Int32.toInt_add, Int32.toInt_sub, Int32.toInt_mul, Int32.toInt_neg, z_bm, z_bm2, J_ti, J_toInt, z_cn, Int32.reduceToInt]) <;> omega) (z_ck (by (try simp (disch := omega) only [Int32.lt_iff_toInt_lt, Int32.le_iff_toInt_le, ← Int32.toInt_inj, Int32.toInt_add, Int32.toInt_sub, Int32.toInt_mul, Int32.toInt_neg, z_bm, z_bm2, J_ti, J_toInt, z_cn, Int32.reduceToInt]) <;> omega) (by (try simp (disch := omega) only [Int32.lt_iff_toInt_lt, Int32.le_iff_toInt_le, ← Int32.toInt_inj, Int32.toInt_add, Int32.toInt_sub, Int32.toInt_mul, Int32.toInt_neg, z_bm, z_bm2, J_ti, J_toInt, z_cn, Int32.reduceToInt]) <;> omega) ?_))
                rw [J_toNat (by omega)]
                refine z_ite (fun q => ?_) (fun q => ?_)
                · have hgi : g i = true := (gm hv3.2 i (by omega)).mp q
                  rcases hfl with rfl | rfl
                  · exact z_pos rfl (k_sat_mk (Or.inr ⟨_, rfl, rfl, Or.inl ⟨i, rfl, rfl, hi, hgi, g3 rfl⟩⟩))
                  · exact z_neg (by decide) (k_sat_mk (Or.inl ⟨_, rfl, rfl, by rw [z_cz, if_pos hgi, z_J1], fun q => absurd q (by decide)⟩))
                · have hgi : g i = false := by
                    cases hgi : g i with
                    | false => rfl
                    | true => exact absurd ((gm hv3.2 i (by omega)).mpr hgi) q
                  refine k_sat_mk (Or.inl ⟨_, rfl, rfl, by rw [z_cz, hgi]; simp, fun q j hj => ?_⟩)
                  by_cases e : j = i
                  · rw [e]; exact hgi
                  · exact g3 q j (by omega)
              · obtain ⟨rfl, rfl, g3⟩ := hp
                unfold f_Nights_unshown_B64
                dsimp only
                rw [show (0 : Int32) = J 0 from rfl, z_Wheels_sizeOf (by omega), z_bind_some, e53]
                exact z_pos (Int32.le_refl _) (k_sat_mk ⟨_, rfl, rfl, Or.inr ⟨rfl, g3⟩⟩)
              · obtain ⟨rfl, ⟨i, rfl, g2, g3, g4, g5⟩ | ⟨rfl, g2⟩⟩ := hv
                · exact k_sat_mk ⟨hv3.1.1, fun q => absurd (q.symm.trans g2) (by decide), fun _ => Or.inl ⟨i, Nat.zero_le i, g3, g4, fun j _ hj => g5 j hj, rfl⟩⟩
                · simp only [k_cs]
                  unfold f_Nights_unshown_J113
                  rcases hfl with rfl | rfl
                  · exact z_pos rfl (k_sat_mk ⟨hv3.1.1, fun q => absurd q (by decide), fun _ => Or.inr ⟨fun j _ hj => g2 rfl j hj, rfl⟩⟩)
                  · exact z_neg (by decide) (k_sat_mk ⟨hv3.1.1, fun _ => rfl, fun q => absurd q (by decide)⟩)
      have rest : ∀ (r : Int32) (v : k_S), z_fr [1702, 1206, 704] [18, 19, 9, 13] u v → ((b = 0 ∧ r = J (z_cz g s)) ∨ (¬ b = 0 ∧ z_hz g 0 s r)) → k_sat (f_R_never (J n) b v) (fun r' v2 => r = r' ∧ zI v2) := by
        intro r v hv hrr
        obtain ⟨i2, hE2, m2, q1, q2, q3⟩ := z_Wdone h hE hv
        unfold f_R_never
        rw [z_Rin1 (by (try simp (disch := omega) only [Int32.lt_iff_toInt_lt, Int32.le_iff_toInt_le, ← Int32.toInt_inj, Int32.toInt_add, Int32.toInt_sub, Int32.toInt_mul, Int32.toInt_neg, z_bm, z_bm2, J_ti, J_toInt, z_cn, Int32.reduceToInt]) <;> omega) (by (try simp (disch := omega) only [Int32.lt_iff_toInt_lt, Int32.le_iff_toInt_le, ← Int32.toInt_inj, Int32.toInt_add, Int32.toInt_sub, Int32.toInt_mul, Int32.toInt_neg, z_bm, z_bm2, J_ti, J_toInt, z_cn, Int32.reduceToInt]) <;> omega), z_bind_some]
        refine z_neg (by decide) ?_
        rw [z_Rin1 (by (try simp (disch := omega) only [Int32.lt_iff_toInt_lt, Int32.le_iff_toInt_le, ← Int32.toInt_inj, Int32.toInt_add, Int32.toInt_sub, Int32.toInt_mul, Int32.toInt_neg, z_bm, z_bm2, J_ti, J_toInt, z_cn, Int32.reduceToInt]) <;> omega) (by (try simp (disch := omega) only [Int32.lt_iff_toInt_lt, Int32.le_iff_toInt_le, ← Int32.toInt_inj, Int32.toInt_add, Int32.toInt_sub, Int32.toInt_mul, Int32.toInt_neg, z_bm, z_bm2, J_ti, J_toInt, z_cn, Int32.reduceToInt]) <;> omega), z_bind_some]
        refine z_neg (by decide) (z_neg (by rw [q1, e2]; (try simp (disch := omega) only [Int32.lt_iff_toInt_lt, Int32.le_iff_toInt_le, ← Int32.toInt_inj, Int32.toInt_add, Int32.toInt_sub, Int32.toInt_mul, Int32.toInt_neg, z_bm, z_bm2, J_ti, J_toInt, z_cn, Int32.reduceToInt]) <;> omega) (z_bind _ (z_for 0 40 (fun i w => z_fr [] [62] v w ∧ ∀ p, p < i → w.2.1 62 p = 0) (K := fun _ w => z_fr [] [62] v w ∧ ∀ p, p < 40 → w.2.1 62 p = 0) (by omega) (by omega) ⟨z_fr.rf, fun p hp => by omega⟩ (fun i w _ hi hp => ?_) (fun w hp => ?_)) (fun _ v0 hv0 => ?_)))
        · unfold f_R_never_B34
          refine z_neg (by (try simp (disch := omega) only [Int32.lt_iff_toInt_lt, Int32.le_iff_toInt_le, ← Int32.toInt_inj, Int32.toInt_add, Int32.toInt_sub, Int32.toInt_mul, Int32.toInt_neg, z_bm, z_bm2, J_ti, J_toInt, z_cn, Int32.reduceToInt]) <;> omega) (z_ck (by (try simp (disch := omega) only [Int32.lt_iff_toInt_lt, Int32.le_iff_toInt_le, ← Int32.toInt_inj, Int32.toInt_add, Int32.toInt_sub, Int32.toInt_mul, Int32.toInt_neg, z_bm, z_bm2, J_ti, J_toInt, z_cn, Int32.reduceToInt]) <;> omega) (by (try simp (disch := omega) only [Int32.lt_iff_toInt_lt, Int32.le_iff_toInt_le, ← Int32.toInt_inj, Int32.toInt_add, Int32.toInt_sub, Int32.toInt_mul, Int32.toInt_neg, z_bm, z_bm2, J_ti, J_toInt, z_cn, Int32.reduceToInt]) <;> omega) (z_let (k_sat_mk (Or.inl ⟨rfl, hp.1.tr (z_wA rfl), fun p hp' => ?_⟩))))
          simp only [k_wA, if_true, J_toNat (show i < 2147483648 by omega)]
          rw [z_up]
          by_cases e : p = i
          · rw [if_pos e]; rfl
          · rw [if_neg e]; exact hp.2 p (by omega)
        · unfold f_R_never_B34
          exact z_pos (by decide) (k_sat_mk ⟨_, rfl, hp⟩)
        · have m0 : z_moR v0 = z_moR v := by unfold z_moR; rw [hv0.1.1 4209 rfl, hv0.1.2.1 46 rfl, hv0.1.2.1 47 rfl]
          have hE0 := z_en_f hv0.1 (by decide) (by decide) (by decide) hE2
          have i0 : zI v0 := zI_0 i2 (hv0.1.mono rfl rfl)
          have epl : ∀ i, z_pl E v0 0 i = z_pl E u 0 i := fun i => by rw [z_pl_m m0, z_pl_m m2]
          have mkR : ∀ {i q : Nat} {w : k_S}, z_Rt E v0 i w → q < 40 → z_pl E u 0 i = J q → k_sat (k_ck (0 : Int32) 4 (k_ck (w.2.1 46 (0 : Int32).toNatClampNeg) 40 (k_let (k_wA w 62 (w.2.1 46 (0 : Int32).toNatClampNeg).toNatClampNeg (1 &&& 1)) (fun u9 => some ((), u9))))) (fun _ w' => z_Rt E v0 i w' ∧ w'.2.1 62 = upd (w.2.1 62) q 1) := by
            intro i q w hw hq eq
            have e0 : w.2.1 46 (0 : Int32).toNatClampNeg = J q := by rw [show (0 : Int32).toNatClampNeg = 0 from rfl, (z_Rt_p hw 0).1, epl, eq]
            rw [e0]
            refine z_ck (by decide) (by decide) (z_ck (by (try simp (disch := omega) only [Int32.lt_iff_toInt_lt, Int32.le_iff_toInt_le, ← Int32.toInt_inj, Int32.toInt_add, Int32.toInt_sub, Int32.toInt_mul, Int32.toInt_neg, z_bm, z_bm2, J_ti, J_toInt, z_cn, Int32.reduceToInt]) <;> omega) (by (try simp (disch := omega) only [Int32.lt_iff_toInt_lt, Int32.le_iff_toInt_le, ← Int32.toInt_inj, Int32.toInt_add, Int32.toInt_sub, Int32.toInt_mul, Int32.toInt_neg, z_bm, z_bm2, J_ti, J_toInt, z_cn, Int32.reduceToInt]) <;> omega) (z_let (k_sat_mk ⟨⟨hw.1.tr (z_wA rfl), hw.2.1, hw.2.2.1, hw.2.2.2⟩, ?_⟩)))
            rw [J_toNat (by omega)]
            simp [k_wA]
          refine z_bind _ (z_and (z_Rt_0 E v0) (z_keepNow v0)) (fun _ w1 hw1 => ?_)
          obtain ⟨q, hq, eq⟩ := hpl 0
          have e0 : w1.2.1 46 (0 : Int32).toNatClampNeg = J q := by rw [show (0 : Int32).toNatClampNeg = 0 from rfl, (z_Rt_p hw1.1 0).1, epl, eq]
          rw [e0]
          refine z_ck (by decide) (by decide) (z_ck (by (try simp (disch := omega) only [Int32.lt_iff_toInt_lt, Int32.le_iff_toInt_le, ← Int32.toInt_inj, Int32.toInt_add, Int32.toInt_sub, Int32.toInt_mul, Int32.toInt_neg, z_bm, z_bm2, J_ti, J_toInt, z_cn, Int32.reduceToInt]) <;> omega) (by (try simp (disch := omega) only [Int32.lt_iff_toInt_lt, Int32.le_iff_toInt_le, ← Int32.toInt_inj, Int32.toInt_add, Int32.toInt_sub, Int32.toInt_mul, Int32.toInt_neg, z_bm, z_bm2, J_ti, J_toInt, z_cn, Int32.reduceToInt]) <;> omega) (z_let ?_))
          rw [J_toNat (show q < 2147483648 by omega)]
          have hz1 : z_Rt E v0 0 (k_wA w1 62 q (1 &&& 1)) := ⟨hw1.1.1.tr (z_wA rfl), hw1.1.2.1, hw1.1.2.2.1, hw1.1.2.2.2⟩
          have hm1 : z_mk 62 E u 0 (k_wA w1 62 q (1 &&& 1)) := z_mk_0 (v := w1) (fun p hp => by rw [hw1.2.1.2.1 62 rfl]; exact hv0.2 p hp) hq eq (by simp [k_wA])
          refine z_bind _ (z_for 0 n (fun i w => z_Rt E v0 i w ∧ z_mk 62 E u i w) (K := fun _ w => z_Rt E v0 n w ∧ z_mk 62 E u n w) (by omega) (Nat.zero_le n) ⟨hz1, hm1⟩ (fun i w _ hi hp => ?_) (fun w hp => ?_)) (fun _ w2 hw2 => ?_)
          · unfold f_R_never_B71
            refine z_neg (by (try simp (disch := omega) only [Int32.lt_iff_toInt_lt, Int32.le_iff_toInt_le, ← Int32.toInt_inj, Int32.toInt_add, Int32.toInt_sub, Int32.toInt_mul, Int32.toInt_neg, z_bm, z_bm2, J_ti, J_toInt, z_cn, Int32.reduceToInt]) <;> omega) (z_bind _ (z_and (z_Rt_s hE0.2.1 hE0.2.2.2.1 hp.1) (z_goOn E w (z_Rt_ok hE0.2.1 hE0.2.2.2.1 hp.1).1 (z_Rt_ok hE0.2.1 hE0.2.2.2.1 hp.1).2)) (fun _ w' hw' => ?_))
            obtain ⟨q, hq, eq⟩ := hpl (i + 1)
            have e0 : w'.2.1 46 (0 : Int32).toNatClampNeg = J q := by rw [show (0 : Int32).toNatClampNeg = 0 from rfl, (z_Rt_p hw'.1 0).1, epl, eq]
            rw [e0]
            refine z_ck (by decide) (by decide) (z_ck (by (try simp (disch := omega) only [Int32.lt_iff_toInt_lt, Int32.le_iff_toInt_le, ← Int32.toInt_inj, Int32.toInt_add, Int32.toInt_sub, Int32.toInt_mul, Int32.toInt_neg, z_bm, z_bm2, J_ti, J_toInt, z_cn, Int32.reduceToInt]) <;> omega) (by (try simp (disch := omega) only [Int32.lt_iff_toInt_lt, Int32.le_iff_toInt_le, ← Int32.toInt_inj, Int32.toInt_add, Int32.toInt_sub, Int32.toInt_mul, Int32.toInt_neg, z_bm, z_bm2, J_ti, J_toInt, z_cn, Int32.reduceToInt]) <;> omega) (z_let ?_))
            rw [J_toNat (show q < 2147483648 by omega)]
            exact k_sat_mk (Or.inl ⟨rfl, ⟨hw'.1.1.tr (z_wA rfl), hw'.1.2.1, hw'.1.2.2.1, hw'.1.2.2.2⟩, z_mk_s hp.2 hq eq _ (by simp [k_wA, hw'.2.1.2.1 62 rfl])⟩)
          · unfold f_R_never_B71
            exact z_pos (Int32.le_refl _) (k_sat_mk ⟨_, rfl, hp⟩)
          · refine z_bind _ (z_and (z_Rt_b hE4 hw2.1) (z_layBack w2)) (fun _ w3 hw3 => ?_)
            have m3 : z_mk 62 E u n w3 := by unfold z_mk; rw [hw3.2.1.2.1 62 rfl]; exact hw2.2
            have e45 : w3.2.1 45 0 = J s := by rw [hw3.1.2.1 45 rfl, hv0.1.2.1 45 rfl, q3]; exact es45
            have i3 : zI w3 := zI_0 i0 (hw3.1.mono rfl rfl)
            rw [show (0 : Int32).toNatClampNeg = 0 from rfl, e45]
            refine z_ck (by decide) (by decide) (z_let ?_)
            refine z_bind (fun y v => v = w3 ∧ y.1 = J (z_cz g s) ∧ z_hz g 0 s y.2) (z_itr (P := fun m x v => ∃ p, p ≤ s ∧ x.2.2 = J p - 1 ∧ m = p ∧ v = w3 ∧ x.1 + J (z_cz g p) = J (z_cz g s) ∧ z_hz g p s x.2.1) (fun m x v h => ?_) k_FU s _ w3 (by unfold k_FU; omega) ⟨s, Nat.le_refl s, rfl, rfl, rfl, by rw [Int32.zero_add], Or.inr ⟨fun j h1 h2 => by omega, rfl⟩⟩) (fun y v hv => ?_)
            · obtain ⟨x1, x2, x3⟩ := x
              obtain ⟨p, hps, e3, rfl, rfl, g1, g2⟩ := h
              simp only at e3 g1 g2
              subst e3
              unfold f_R_never_B118
              dsimp only
              by_cases hp0 : m = 0
              · subst hp0
                refine z_pos (by decide) (k_sat_mk (Or.inr ⟨_, rfl, rfl, ?_, g2⟩))
                rw [← g1]; show x1 = x1 + J 0; rw [J_0, Int32.add_zero]
              · obtain ⟨p', rfl⟩ : ∃ p', m = p' + 1 := ⟨m - 1, by omega⟩
                rw [z_Jm]
                refine z_neg (by (try simp (disch := omega) only [Int32.lt_iff_toInt_lt, Int32.le_iff_toInt_le, ← Int32.toInt_inj, Int32.toInt_add, Int32.toInt_sub, Int32.toInt_mul, Int32.toInt_neg, z_bm, z_bm2, J_ti, J_toInt, z_cn, Int32.reduceToInt]) <;> omega) (z_ck (by (try simp (disch := omega) only [Int32.lt_iff_toInt_lt, Int32.le_iff_toInt_le, ← Int32.toInt_inj, Int32.toInt_add, Int32.toInt_sub, Int32.toInt_mul, Int32.toInt_neg, z_bm, z_bm2, J_ti, J_toInt, z_cn, Int32.reduceToInt]) <;> omega) (by (try simp (disch := omega) only [Int32.lt_iff_toInt_lt, Int32.le_iff_toInt_le, ← Int32.toInt_inj, Int32.toInt_add, Int32.toInt_sub, Int32.toInt_mul, Int32.toInt_neg, z_bm, z_bm2, J_ti, J_toInt, z_cn, Int32.reduceToInt]) <;> omega) ?_)
                rw [J_toNat (by omega)]
                have ed : J p' + Int32.ofInt (-1) = J p' - 1 := by
                  apply Int32.toInt.inj
                  rw [show Int32.ofInt (-1) = -1 from rfl]
                  (try simp (disch := omega) only [Int32.lt_iff_toInt_lt, Int32.le_iff_toInt_le, ← Int32.toInt_inj, Int32.toInt_add, Int32.toInt_sub, Int32.toInt_mul, Int32.toInt_neg, z_bm, z_bm2, J_ti, J_toInt, z_cn, Int32.reduceToInt]) <;> omega
                refine z_ite (fun q => ?_) (fun q => ?_)
                · have hg : g p' = true := (gm m3 p' (by omega)).mp q
                  refine k_sat_mk (Or.inl ⟨_, p', rfl, by omega, p', by omega, ed, rfl, rfl, ?_, Or.inl ⟨p', Nat.le_refl _, by omega, hg, fun j h1 h2 => by omega, rfl⟩⟩)
                  rw [← g1, z_cz, if_pos hg, ← z_J1, Int32.add_assoc, Int32.add_comm (Int32.ofInt 1)]
                · have hg : g p' = false := by
                    cases hg : g p' with
                    | false => rfl
                    | true => exact absurd ((gm m3 p' (by omega)).mpr hg) q
                  refine k_sat_mk (Or.inl ⟨_, p', rfl, by omega, p', by omega, ed, rfl, rfl, ?_, ?_⟩)
                  · rw [← g1, z_cz, hg]; simp
                  · rcases g2 with ⟨j, b1, b2, b3, b4, b5⟩ | ⟨b1, b2⟩
                    · refine Or.inl ⟨j, by omega, b2, b3, fun k h1 h2 => ?_, b5⟩
                      by_cases e : k = p'
                      · rw [e]; exact hg
                      · exact b4 k (by omega) h2
                    · refine Or.inr ⟨fun k h1 h2 => ?_, b2⟩
                      by_cases e : k = p'
                      · rw [e]; exact hg
                      · exact b1 k (by omega) h2
            · obtain ⟨rfl, hy1, hy2⟩ := hv
              refine z_ite (fun q => k_sat_mk ⟨?_, i3⟩) (fun q => k_sat_mk ⟨?_, i3⟩)
              · rcases hrr with ⟨-, x⟩ | ⟨x, -⟩
                · rw [x, hy1]
                · exact absurd q x
              · rcases hrr with ⟨x, -⟩ | ⟨-, x⟩
                · exact absurd x q
                · exact z_hz_u x hy2
      by_cases hb0 : b = 0
      · refine z_pos hb0 ?_
        unfold f_W_never_J50
        exact z_bind _ (key 1 (Or.inr rfl)) (fun r v hv => k_sat_mk (rest r v hv.1 (Or.inl ⟨hb0, hv.2.1 rfl⟩)))
      · refine z_neg hb0 ?_
        unfold f_W_never_J50
        exact z_bind _ (key 0 (Or.inl rfl)) (fun r v hv => k_sat_mk (rest r v hv.1 (Or.inr ⟨hb0, hv.2.2 rfl⟩)))
  · have hR : k_sat (f_R_never a b u) (fun r' v => (-1 : Int32) = r' ∧ zI v) := by
      unfold f_R_never
      by_cases q : 1 ≤ a.toInt ∧ a.toInt ≤ 2000
      · rw [z_Rin1 (by (try simp (disch := omega) only [Int32.lt_iff_toInt_lt, Int32.le_iff_toInt_le, ← Int32.toInt_inj, Int32.toInt_add, Int32.toInt_sub, Int32.toInt_mul, Int32.toInt_neg, z_bm, z_bm2, J_ti, J_toInt, z_cn, Int32.reduceToInt]) <;> omega) (by (try simp (disch := omega) only [Int32.lt_iff_toInt_lt, Int32.le_iff_toInt_le, ← Int32.toInt_inj, Int32.toInt_add, Int32.toInt_sub, Int32.toInt_mul, Int32.toInt_neg, z_bm, z_bm2, J_ti, J_toInt, z_cn, Int32.reduceToInt]) <;> omega), z_bind_some]
        refine z_neg (by decide) ?_
        rw [z_Rin0 (by ((try simp (disch := omega) only [Int32.lt_iff_toInt_lt, Int32.le_iff_toInt_le, ← Int32.toInt_inj, Int32.toInt_add, Int32.toInt_sub, Int32.toInt_mul, Int32.toInt_neg, z_bm, z_bm2, J_ti, J_toInt, z_cn, Int32.reduceToInt] at *); omega)), z_bind_some]
        exact z_pos rfl (k_sat_mk ⟨rfl, h⟩)
      · rw [z_Rin0 (by ((try simp (disch := omega) only [Int32.lt_iff_toInt_lt, Int32.le_iff_toInt_le, ← Int32.toInt_inj, Int32.toInt_add, Int32.toInt_sub, Int32.toInt_mul, Int32.toInt_neg, z_bm, z_bm2, J_ti, J_toInt, z_cn, Int32.reduceToInt] at *); omega)), z_bind_some]
        exact z_pos rfl (k_sat_mk ⟨rfl, h⟩)
    unfold f_W_never
    exact z_ite (fun _ => k_sat_mk hR) (fun _ => z_ite (fun _ => k_sat_mk hR) (fun _ => z_ite (fun _ => k_sat_mk hR) (fun _ => z_neg (by ((try simp (disch := omega) only [Int32.lt_iff_toInt_lt, Int32.le_iff_toInt_le, ← Int32.toInt_inj, Int32.toInt_add, Int32.toInt_sub, Int32.toInt_mul, Int32.toInt_neg, z_bm, z_bm2, J_ti, J_toInt, z_cn, Int32.reduceToInt] at *); omega)) (k_sat_mk hR))))
