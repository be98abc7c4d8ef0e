/-! NIGHTS: what a push is, a night, nights; the class's and the reference's do it -/
abbrev z_Mo : Type := Int32 × (Nat → Int32) × (Nat → Int32)
/-- how many wheels, letters, sizes, breaks, whether it is cold -/
abbrev z_E : Type := Nat × (Nat → Int32) × (Nat → Int32) × (Nat → Int32) × (Int32 → Int32 → Nat → Bool)
/-- by how much a wheel goes on, what it waits then -/
def z_sp (E : z_E) (t p v : Int32) (w : Nat) : Int32 × Int32 :=
  if E.2.1 (40 * w + p.toNatClampNeg) = 98 then (if E.2.2.2.1 w ≤ t then (2, v) else (1, v)) else if E.2.1 (40 * w + p.toNatClampNeg) = 102 then (if E.2.2.2.2 t p w = true then (0, v) else (1, v)) else if E.2.1 (40 * w + p.toNatClampNeg) = 115 then (2, v) else if E.2.1 (40 * w + p.toNatClampNeg) = 119 then (1, v) else if E.2.1 (40 * w + p.toNatClampNeg) - 48 ≤ v then (1, 0) else (0, v + 1)
def z_pu (E : z_E) : Nat → Nat → z_Mo → z_Mo
  | 0, _, m => m
  | k + 1, w, m => if E.1 ≤ w then m else if m.2.1 w + (z_sp E m.1 (m.2.1 w) (m.2.2 w) w).1 < E.2.2.1 w then (m.1, upd m.2.1 w (m.2.1 w + (z_sp E m.1 (m.2.1 w) (m.2.2 w) w).1), upd m.2.2 w (z_sp E m.1 (m.2.1 w) (m.2.2 w) w).2) else z_pu E k (w + 1) (m.1, upd m.2.1 w (m.2.1 w + (z_sp E m.1 (m.2.1 w) (m.2.2 w) w).1 - E.2.2.1 w), upd m.2.2 w (z_sp E m.1 (m.2.1 w) (m.2.2 w) w).2)
def z_nx (E : z_E) (K : Nat) (m : z_Mo) : z_Mo := z_pu E K 0 (m.1 + 1, m.2)
def z_or (E : z_E) (K : Nat) : Nat → z_Mo → z_Mo
  | 0, m => m
  | i + 1, m => z_nx E K (z_or E K i m)
/-- the first night in which a broken tooth of wheel 0 skipped -/
def z_sk (E : z_E) (m : z_Mo) (s : Int32) : Int32 := if E.2.1 (m.2.1 0).toNatClampNeg = 98 ∧ E.2.2.2.1 0 ≤ m.1 ∧ s = -1 then m.1 else s
def z_os (E : z_E) (K : Nat) (s : Int32) : Nat → z_Mo → Int32
  | 0, _ => s
  | i + 1, m => if 0 < K ∧ 0 < E.1 then z_sk E ((z_or E K i m).1 + 1, (z_or E K i m).2) (z_os E K s i m) else z_os E K s i m
/-- places that are there, sizes as they may be -/
def z_ok (E : z_E) (m : z_Mo) : Prop := E.1 ≤ 4 ∧ ∀ w, w < E.1 → ∃ p s : Nat, p < s ∧ 2 ≤ s ∧ s ≤ 40 ∧ m.2.1 w = J p ∧ E.2.2.1 w = J s
theorem z_sp_r (E : z_E) (t p v : Int32) (w : Nat) : ∃ r : Nat, r ≤ 2 ∧ (z_sp E t p v w).1 = J r := by
  unfold z_sp
  repeat' split
  all_goals first
    | exact ⟨0, by omega, rfl⟩
    | exact ⟨1, by omega, rfl⟩
    | exact ⟨2, by omega, rfl⟩
/-- where a wheel comes to -/
def z_to (p r s : Nat) : Nat := if p + r < s then p + r else p + r - s
theorem z_pu_s (E : z_E) (k w : Nat) (m : z_Mo) (p s r : Nat) (hp : p < s) (h2 : 2 ≤ s) (hs : s ≤ 40) (hw : w < E.1) (ep : m.2.1 w = J p) (es : E.2.2.1 w = J s) (hr : r ≤ 2) (er : (z_sp E m.1 (m.2.1 w) (m.2.2 w) w).1 = J r) : z_pu E (k + 1) w m = if p + r < s then (m.1, upd m.2.1 w (J (z_to p r s)), upd m.2.2 w (z_sp E m.1 (m.2.1 w) (m.2.2 w) w).2) else z_pu E k (w + 1) (m.1, upd m.2.1 w (J (z_to p r s)), upd m.2.2 w (z_sp E m.1 (m.2.1 w) (m.2.2 w) w).2) := by
  rw [z_pu, if_neg (by omega), er]
  have e1 : m.2.1 w + J r = J (p + r) := by rw [ep, J_add]
  rw [e1, es]
  unfold z_to
  by_cases h : p + r < s
  · rw [if_pos h, if_pos h, if_pos (show J (p + r) < J s by (try simp (disch := omega) only [Int32.lt_iff_toInt_lt, Int32.le_iff_toInt_le, ← Int32.toInt_inj, Int32.toInt_add, Int32.toInt_sub, Int32.toInt_mul, Int32.toInt_neg, z_bm, z_bm2, J_ti, J_toInt, z_cn, Int32.reduceToInt]) <;> omega)]
  · rw [if_neg h, if_neg h, if_neg (show ¬ J (p + r) < J s by (try simp (disch := omega) only [Int32.lt_iff_toInt_lt, Int32.le_iff_toInt_le, ← Int32.toInt_inj, Int32.toInt_add, Int32.toInt_sub, Int32.toInt_mul, Int32.toInt_neg, z_bm, z_bm2, J_ti, J_toInt, z_cn, Int32.reduceToInt]) <;> omega), J_sub (by omega)]
theorem z_to_lt {p r s : Nat} (hp : p < s) (h2 : 2 ≤ s) (hr : r ≤ 2) : z_to p r s < s := by
  unfold z_to
  split <;> omega
theorem z_pu_ok (E : z_E) : ∀ (k w : Nat) (m : z_Mo), z_ok E m → z_ok E (z_pu E k w m) ∧ (z_pu E k w m).1 = m.1
  | 0, w, m, h => ⟨h, rfl⟩
  | k + 1, w, m, h => by
    by_cases hw : E.1 ≤ w
    · rw [z_pu, if_pos hw]; exact ⟨h, rfl⟩
    · obtain ⟨p, s, hp, h2, hs, ep, es⟩ := h.2 w (by omega)
      obtain ⟨r, hr, er⟩ := z_sp_r E m.1 (m.2.1 w) (m.2.2 w) w
      have hm : ∀ x : Nat → Int32, z_ok E (m.1, upd m.2.1 w (J (z_to p r s)), x) := fun x => ⟨h.1, fun v hv => by
        by_cases e : v = w
        · subst e
          exact ⟨_, s, z_to_lt hp h2 hr, h2, hs, by show upd _ _ _ _ = _; rw [z_up, if_pos rfl], es⟩
        · obtain ⟨p', s', a1, a2, a3, a4, a5⟩ := h.2 v hv
          exact ⟨p', s', a1, a2, a3, by show upd _ _ _ _ = _; rw [z_up, if_neg e]; exact a4, a5⟩⟩
      rw [z_pu_s E k w m p s r hp h2 hs (by omega) ep es hr er]
      split
      · exact ⟨hm _, rfl⟩
      · exact z_pu_ok E k (w + 1) _ (hm _)
theorem z_nx_ok {E : z_E} {K : Nat} {m : z_Mo} (h : z_ok E m) : z_ok E (z_nx E K m) ∧ (z_nx E K m).1 = m.1 + 1 := z_pu_ok E K 0 (m.1 + 1, m.2) h
theorem z_or_ok {E : z_E} {K : Nat} {m : z_Mo} (h : z_ok E m) : ∀ i, z_ok E (z_or E K i m) ∧ (z_or E K i m).1 = m.1 + J i
  | 0 => ⟨h, by show m.1 = m.1 + J 0; rw [J_0, Int32.add_zero]⟩
  | i + 1 => by
    obtain ⟨a, b⟩ := z_or_ok h i
    obtain ⟨c, d⟩ := z_nx_ok (K := K) a
    exact ⟨c, by show (z_nx E K (z_or E K i m)).1 = _; rw [d, b, Int32.add_assoc, z_Jp]⟩
theorem J_mod (a b : Nat) (ha : a < 2147483648) (hb : b < 2147483648) : J a % J b = J (a % b) := by
  apply Int32.toInt.inj
  have : a % b ≤ a := Nat.mod_le a b
  rw [Int32.toInt_mod, J_toInt ha, J_toInt hb, J_toInt (by omega), Int.ofNat_tmod]
theorem J_div (a b : Nat) (ha : a < 2147483648) (hb : b < 2147483648) : J a / J b = J (a / b) := by
  apply Int32.toInt.inj
  have : a / b ≤ a := Nat.div_le_self a b
  have hb1 : J b ≠ -1 := fun q => by have := congrArg Int32.toInt q; rw [J_toInt hb] at this; simp at this
  rw [Int32.toInt_div_of_ne_right _ _ hb1, J_toInt ha, J_toInt hb, J_toInt (by omega), Int.ofNat_tdiv]
/-- what the class's wheels, breaks, frost are -/
def z_EW (E : z_E) (u : k_S) : Prop := E.1 ≤ 4 ∧ u.1 303 = J E.1 ∧ u.2.1 4 = E.2.1 ∧ u.2.1 5 = E.2.2.1 ∧ u.2.1 6 = E.2.2.2.1 ∧ ∀ v : k_S, v.1 703 = u.1 703 → v.2.1 8 = u.2.1 8 → v.1 705 = u.1 705 → ∀ (t p : Int32) (w : Nat), w < 4 → k_sat (f_Law_valueAt t p (J w) v) (fun r v' => z_fr [704] [9] v v' ∧ (E.2.2.2.2 t p w = true ↔ ¬ r = 0))
theorem z_EW_f {E : z_E} {F A : List Nat} {u v : k_S} (h : z_fr F A u v) (hd : F.elem 303 = false ∧ F.elem 703 = false ∧ F.elem 705 = false ∧ A.elem 4 = false ∧ A.elem 5 = false ∧ A.elem 6 = false ∧ A.elem 8 = false) (hE : z_EW E u) : z_EW E v := by
  obtain ⟨a1, a2, a3, a4, a5, a6, a7⟩ := hd
  obtain ⟨b0, b1, b2, b3, b4, b5⟩ := hE
  exact ⟨b0, by rw [h.1 _ a1]; exact b1, by rw [h.2.1 _ a4]; exact b2, by rw [h.2.1 _ a5]; exact b3, by rw [h.2.1 _ a6]; exact b4, fun x x1 x2 x3 => b5 x (x1.trans (h.1 _ a2)) (x2.trans (h.2.1 _ a7)) (x3.trans (h.1 _ a3))⟩
def z_moNow (u : k_S) : z_Mo := (u.1 1402, u.2.1 15, u.2.1 16)
theorem z_J160_Now (w p s r : Nat) (nv : Int32) (u : k_S) (hw : w < 4) (hp : p < s) (h2 : 2 ≤ s) (hs : s ≤ 40) (hr : r ≤ 2) (es : u.2.1 5 w = J s) : k_sat (f_Nights_pushed_Now_J160 (J w) (J p) nv (J r) u) (fun x v => v = k_wA (k_wA u 15 w (J (z_to p r s))) 16 w nv ∧ x = if p + r < s then 0 else 1) := by
  unfold f_Nights_pushed_Now_J160
  rw [z_Wheels_sizeOf hw, z_bind_some, es, J_add]
  unfold z_to
  by_cases h : p + r < s
  · rw [if_pos h, if_pos h]
    refine z_pos (by rw [J_lt (by omega) (by omega)]; exact h) ?_
    unfold f_Nights_pushed_Now_J184 f_Nights_pushed_Now_J209
    rw [if_pos rfl, J_add, z_Now_stand hw, z_bind_some]
    exact z_zb (by decide) (k_sat_mk ⟨rfl, rfl⟩)
  · rw [if_neg h, if_neg h]
    refine z_neg (by rw [J_lt (by omega) (by omega)]; exact h) ?_
    unfold f_Nights_pushed_Now_J184 f_Nights_pushed_Now_J209
    rw [if_neg (by decide), J_add, z_Wleft (by omega) hs, z_bind_some, J_mod _ _ (by omega) (by omega), z_Now_stand hw, z_bind_some, show (p + r) % s = p + r - s by rw [Nat.mod_eq_sub_mod (by omega), Nat.mod_eq_of_lt (by omega)]]
    exact z_zb (by decide) (k_sat_mk ⟨rfl, rfl⟩)
def z_pqNow (E : z_E) (u : k_S) (w p s r : Nat) (x : Int32) (v : k_S) : Prop := z_fr [1206, 704] [15, 16, 9] u v ∧ v.2.1 15 = upd (u.2.1 15) w (J (z_to p r s)) ∧ v.2.1 16 = upd (u.2.1 16) w (z_sp E (u.1 1402) (u.2.1 15 w) (u.2.1 16 w) w).2 ∧ (x = if p + r < s then 0 else 1) ∧ v.1 1206 = if w = 0 then z_sk E (z_moNow u) (u.1 1206) else u.1 1206
theorem z_pushed_Now (E : z_E) (w p s r : Nat) (u : k_S) (hE : z_EW E u) (hw : w < E.1) (hp : p < s) (h2 : 2 ≤ s) (hs : s ≤ 40) (hr : r ≤ 2) (ep : u.2.1 15 w = J p) (es : E.2.2.1 w = J s) (er : (z_sp E (u.1 1402) (u.2.1 15 w) (u.2.1 16 w) w).1 = J r) : k_sat (f_Nights_pushed_Now (J w) u) (z_pqNow E u w p s r) := by
  have hE' := hE
  obtain ⟨hE4, e303, eL, eS, eB, hc⟩ := hE
  have hw4 : w < 4 := by omega
  have key : ∀ (v : k_S) (q : Nat) (nv : Int32), z_fr [1206, 704] [9] u v → q ≤ 2 → (J q, nv) = z_sp E (u.1 1402) (u.2.1 15 w) (u.2.1 16 w) w → v.1 1206 = (if w = 0 then z_sk E (z_moNow u) (u.1 1206) else u.1 1206) → k_sat (f_Nights_pushed_Now_J160 (J w) (J p) nv (J q) v) (z_pqNow E u w p s r) := by
    intro v q nv hv hq hsp hsk
    have : q = r := by
      rw [← hsp] at er
      rw [← J_toNat (show q < 2147483648 by omega), ← J_toNat (show r < 2147483648 by omega)]
      exact congrArg Int32.toNatClampNeg er
    subst this
    refine z_mono (z_J160_Now w p s q nv v hw4 hp h2 hs hq (by rw [hv.2.1 5 rfl, eS]; exact es)) (fun x v' h' => ?_)
    obtain ⟨rfl, rfl⟩ := h'
    refine ⟨(hv.mono rfl rfl).tr ((z_wA rfl).tr (z_wA rfl)), ?_, ?_, rfl, hsk⟩
    · simp [k_wA, hv.2.1 15 rfl]
    · rw [← hsp]; simp [k_wA, hv.2.1 16 rfl]
  have hsk : ¬ u.2.1 4 (40 * w + p) = 98 → u.1 1206 = if w = 0 then z_sk E (z_moNow u) (u.1 1206) else u.1 1206 := by
    intro h
    by_cases h0 : w = 0
    · subst h0
      rw [if_pos rfl]
      unfold z_sk z_moNow
      rw [if_neg]
      intro hh
      apply h
      rw [eL, show 40 * 0 + p = p by omega]
      have := hh.1
      rw [show ((u.1 1402, u.2.1 15, u.2.1 16) : z_Mo).2.1 0 = u.2.1 15 0 from rfl, ep, J_toNat (by omega)] at this
      exact this
    · rw [if_neg h0]
  have hspe : z_sp E (u.1 1402) (u.2.1 15 w) (u.2.1 16 w) w = if u.2.1 4 (40 * w + p) = 98 then (if u.2.1 6 w ≤ u.1 1402 then (2, u.2.1 16 w) else (1, u.2.1 16 w)) else if u.2.1 4 (40 * w + p) = 102 then (if E.2.2.2.2 (u.1 1402) (u.2.1 15 w) w = true then (0, u.2.1 16 w) else (1, u.2.1 16 w)) else if u.2.1 4 (40 * w + p) = 115 then (2, u.2.1 16 w) else if u.2.1 4 (40 * w + p) = 119 then (1, u.2.1 16 w) else if u.2.1 4 (40 * w + p) - 48 ≤ u.2.1 16 w then (1, 0) else (0, u.2.1 16 w + 1) := by
    unfold z_sp
    rw [ep, J_toNat (show p < 2147483648 by omega), eL, eB]
  unfold f_Nights_pushed_Now
  rw [z_Now_placeOf hw4, z_bind_some, z_Now_waitsOf hw4, z_bind_some, ep, z_letterAt hw4 (by omega), z_bind_some]
  by_cases l1 : u.2.1 4 (40 * w + p) = 115
  · refine z_pos l1 (key u 2 _ z_fr.rf (by omega) ?_ (hsk (by rw [l1]; decide)))
    rw [hspe, l1, if_neg (by decide), if_neg (by decide), if_pos rfl]; rfl
  refine z_neg l1 ?_
  by_cases l2 : u.2.1 4 (40 * w + p) = 102
  · refine z_pos l2 (z_bind _ (hc u rfl rfl rfl (u.1 1402) (J p) w hw4) (fun x v hv => ?_))
    have hcold : z_sp E (u.1 1402) (u.2.1 15 w) (u.2.1 16 w) w = if E.2.2.2.2 (u.1 1402) (u.2.1 15 w) w = true then (0, u.2.1 16 w) else (1, u.2.1 16 w) := by
      rw [hspe, l2, if_neg (by decide), if_pos rfl]
    have hsk2 : v.1 1206 = if w = 0 then z_sk E (z_moNow u) (u.1 1206) else u.1 1206 := (hv.1.1 1206 rfl).trans (hsk (by rw [l2]; decide))
    refine z_ite (fun hx => ?_) (fun hx => ?_)
    · unfold f_Nights_pushed_Now_J68
      refine key v 1 _ (hv.1.mono rfl rfl) (by omega) ?_ hsk2
      rw [hcold, ep, if_neg (fun q => (hv.2.mp q) hx)]; rfl
    · unfold f_Nights_pushed_Now_J68
      refine key v 0 _ (hv.1.mono rfl rfl) (by omega) ?_ hsk2
      rw [hcold, ep, if_pos (hv.2.mpr hx)]; rfl
  refine z_neg l2 ?_
  by_cases l3 : u.2.1 4 (40 * w + p) = 98
  · refine z_pos l3 ?_
    rw [z_Wheels_breakOf hw4, z_bind_some]
    have hb : z_sp E (u.1 1402) (u.2.1 15 w) (u.2.1 16 w) w = if u.2.1 6 w ≤ u.1 1402 then (2, u.2.1 16 w) else (1, u.2.1 16 w) := by
      rw [hspe, l3, if_pos rfl]
    have hl0 : w = 0 → E.2.1 ((z_moNow u).2.1 0).toNatClampNeg = 98 := by
      intro h0
      subst h0
      rw [show (z_moNow u).2.1 0 = u.2.1 15 0 from rfl, ep, J_toNat (by omega), ← eL]
      rw [show 40 * 0 + p = p by omega] at l3
      exact l3
    by_cases l4 : u.1 1402 < u.2.1 6 w
    · refine z_pos l4 (key u 1 _ z_fr.rf (by omega) ?_ ?_)
      · rw [hb, if_neg (by ((try simp (disch := omega) only [Int32.lt_iff_toInt_lt, Int32.le_iff_toInt_le, ← Int32.toInt_inj, Int32.toInt_add, Int32.toInt_sub, Int32.toInt_mul, Int32.toInt_neg, z_bm, z_bm2, J_ti, J_toInt, z_cn, Int32.reduceToInt] at *); omega))]; rfl
      · by_cases h0 : w = 0
        · subst h0
          rw [if_pos rfl]
          unfold z_sk
          rw [if_neg]
          rintro ⟨-, q, -⟩
          rw [← eB] at q
          have : u.2.1 6 0 ≤ u.1 1402 := q
          ((try simp (disch := omega) only [Int32.lt_iff_toInt_lt, Int32.le_iff_toInt_le, ← Int32.toInt_inj, Int32.toInt_add, Int32.toInt_sub, Int32.toInt_mul, Int32.toInt_neg, z_bm, z_bm2, J_ti, J_toInt, z_cn, Int32.reduceToInt] at *); omega)
        · rw [if_neg h0]
    · refine z_neg l4 ?_
      have e2 : (J 2, u.2.1 16 w) = z_sp E (u.1 1402) (u.2.1 15 w) (u.2.1 16 w) w := by rw [hb, if_pos (by ((try simp (disch := omega) only [Int32.lt_iff_toInt_lt, Int32.le_iff_toInt_le, ← Int32.toInt_inj, Int32.toInt_add, Int32.toInt_sub, Int32.toInt_mul, Int32.toInt_neg, z_bm, z_bm2, J_ti, J_toInt, z_cn, Int32.reduceToInt] at *); omega))]; rfl
      by_cases h0 : w = 0
      · subst h0
        refine z_pos rfl ?_
        have hq : E.2.2.2.1 0 ≤ (z_moNow u).1 := by
          rw [← eB]
          show u.2.1 6 0 ≤ u.1 1402
          ((try simp (disch := omega) only [Int32.lt_iff_toInt_lt, Int32.le_iff_toInt_le, ← Int32.toInt_inj, Int32.toInt_add, Int32.toInt_sub, Int32.toInt_mul, Int32.toInt_neg, z_bm, z_bm2, J_ti, J_toInt, z_cn, Int32.reduceToInt] at *); omega)
        refine z_ite (fun h5 => z_let (key _ 2 _ (z_wF rfl) (by omega) e2 ?_)) (fun h5 => key u 2 _ z_fr.rf (by omega) e2 ?_)
        · rw [if_pos rfl]
          unfold z_sk
          rw [if_pos ⟨hl0 rfl, hq, h5⟩]
          simp [k_wF, z_moNow]
        · rw [if_pos rfl]
          unfold z_sk
          rw [if_neg (fun q => h5 q.2.2)]
      · exact z_neg (by (try simp (disch := omega) only [Int32.lt_iff_toInt_lt, Int32.le_iff_toInt_le, ← Int32.toInt_inj, Int32.toInt_add, Int32.toInt_sub, Int32.toInt_mul, Int32.toInt_neg, z_bm, z_bm2, J_ti, J_toInt, z_cn, Int32.reduceToInt]) <;> omega) (key u 2 _ z_fr.rf (by omega) e2 (by rw [if_neg h0]))
  refine z_neg l3 ?_
  by_cases l4 : u.2.1 4 (40 * w + p) = 119
  · refine z_pos l4 (key u 1 _ z_fr.rf (by omega) ?_ (hsk l3))
    rw [hspe, l4, if_neg (by decide), if_neg (by decide), if_neg (by decide), if_pos rfl]; rfl
  refine z_neg l4 ?_
  unfold f_Nights_pushed_Now_J143 f_Nights_pushed_Now_J158
  refine z_ite (fun l5 => ?_) (fun l5 => ?_)
  · refine z_neg (by decide) (key u 1 0 z_fr.rf (by omega) ?_ (hsk l3))
    rw [hspe, if_neg l3, if_neg l2, if_neg l1, if_neg l4, if_pos l5]; rfl
  · refine z_pos rfl (key u 0 _ z_fr.rf (by omega) ?_ (hsk l3))
    rw [hspe, if_neg l3, if_neg l2, if_neg l1, if_neg l4, if_neg l5]; rfl
def z_moThought (u : k_S) : z_Mo := (u.1 1702, u.2.1 18, u.2.1 19)
theorem z_J160_Thought (w p s r : Nat) (nv : Int32) (u : k_S) (hw : w < 4) (hp : p < s) (h2 : 2 ≤ s) (hs : s ≤ 40) (hr : r ≤ 2) (es : u.2.1 5 w = J s) : k_sat (f_Nights_pushed_Thought_J160 (J w) (J p) nv (J r) u) (fun x v => v = k_wA (k_wA u 18 w (J (z_to p r s))) 19 w nv ∧ x = if p + r < s then 0 else 1) := by
  unfold f_Nights_pushed_Thought_J160
  rw [z_Wheels_sizeOf hw, z_bind_some, es, J_add]
  unfold z_to
  by_cases h : p + r < s
  · rw [if_pos h, if_pos h]
    refine z_pos (by rw [J_lt (by omega) (by omega)]; exact h) ?_
    unfold f_Nights_pushed_Thought_J184 f_Nights_pushed_Thought_J209
    rw [if_pos rfl, J_add, z_Thought_stand hw, z_bind_some]
    exact z_zb (by decide) (k_sat_mk ⟨rfl, rfl⟩)
  · rw [if_neg h, if_neg h]
    refine z_neg (by rw [J_lt (by omega) (by omega)]; exact h) ?_
    unfold f_Nights_pushed_Thought_J184 f_Nights_pushed_Thought_J209
    rw [if_neg (by decide), J_add, z_Wleft (by omega) hs, z_bind_some, J_mod _ _ (by omega) (by omega), z_Thought_stand hw, z_bind_some, show (p + r) % s = p + r - s by rw [Nat.mod_eq_sub_mod (by omega), Nat.mod_eq_of_lt (by omega)]]
    exact z_zb (by decide) (k_sat_mk ⟨rfl, rfl⟩)
def z_pqThought (E : z_E) (u : k_S) (w p s r : Nat) (x : Int32) (v : k_S) : Prop := z_fr [1206, 704] [18, 19, 9] u v ∧ v.2.1 18 = upd (u.2.1 18) w (J (z_to p r s)) ∧ v.2.1 19 = upd (u.2.1 19) w (z_sp E (u.1 1702) (u.2.1 18 w) (u.2.1 19 w) w).2 ∧ (x = if p + r < s then 0 else 1) ∧ v.1 1206 = if w = 0 then z_sk E (z_moThought u) (u.1 1206) else u.1 1206
theorem z_pushed_Thought (E : z_E) (w p s r : Nat) (u : k_S) (hE : z_EW E u) (hw : w < E.1) (hp : p < s) (h2 : 2 ≤ s) (hs : s ≤ 40) (hr : r ≤ 2) (ep : u.2.1 18 w = J p) (es : E.2.2.1 w = J s) (er : (z_sp E (u.1 1702) (u.2.1 18 w) (u.2.1 19 w) w).1 = J r) : k_sat (f_Nights_pushed_Thought (J w) u) (z_pqThought E u w p s r) := by
  have hE' := hE
  obtain ⟨hE4, e303, eL, eS, eB, hc⟩ := hE
  have hw4 : w < 4 := by omega
  have key : ∀ (v : k_S) (q : Nat) (nv : Int32), z_fr [1206, 704] [9] u v → q ≤ 2 → (J q, nv) = z_sp E (u.1 1702) (u.2.1 18 w) (u.2.1 19 w) w → v.1 1206 = (if w = 0 then z_sk E (z_moThought u) (u.1 1206) else u.1 1206) → k_sat (f_Nights_pushed_Thought_J160 (J w) (J p) nv (J q) v) (z_pqThought E u w p s r) := by
    intro v q nv hv hq hsp hsk
    have : q = r := by
      rw [← hsp] at er
      rw [← J_toNat (show q < 2147483648 by omega), ← J_toNat (show r < 2147483648 by omega)]
      exact congrArg Int32.toNatClampNeg er
    subst this
    refine z_mono (z_J160_Thought w p s q nv v hw4 hp h2 hs hq (by rw [hv.2.1 5 rfl, eS]; exact es)) (fun x v' h' => ?_)
    obtain ⟨rfl, rfl⟩ := h'
    refine ⟨(hv.mono rfl rfl).tr ((z_wA rfl).tr (z_wA rfl)), ?_, ?_, rfl, hsk⟩
    · simp [k_wA, hv.2.1 18 rfl]
    · rw [← hsp]; simp [k_wA, hv.2.1 19 rfl]
  have hsk : ¬ u.2.1 4 (40 * w + p) = 98 → u.1 1206 = if w = 0 then z_sk E (z_moThought u) (u.1 1206) else u.1 1206 := by
    intro h
    by_cases h0 : w = 0
    · subst h0
      rw [if_pos rfl]
      unfold z_sk z_moThought
      rw [if_neg]
      intro hh
      apply h
      rw [eL, show 40 * 0 + p = p by omega]
      have := hh.1
      rw [show ((u.1 1702, u.2.1 18, u.2.1 19) : z_Mo).2.1 0 = u.2.1 18 0 from rfl, ep, J_toNat (by omega)] at this
      exact this
    · rw [if_neg h0]
  have hspe : z_sp E (u.1 1702) (u.2.1 18 w) (u.2.1 19 w) w = if u.2.1 4 (40 * w + p) = 98 then (if u.2.1 6 w ≤ u.1 1702 then (2, u.2.1 19 w) else (1, u.2.1 19 w)) else if u.2.1 4 (40 * w + p) = 102 then (if E.2.2.2.2 (u.1 1702) (u.2.1 18 w) w = true then (0, u.2.1 19 w) else (1, u.2.1 19 w)) else if u.2.1 4 (40 * w + p) = 115 then (2, u.2.1 19 w) else if u.2.1 4 (40 * w + p) = 119 then (1, u.2.1 19 w) else if u.2.1 4 (40 * w + p) - 48 ≤ u.2.1 19 w then (1, 0) else (0, u.2.1 19 w + 1) := by
    unfold z_sp
    rw [ep, J_toNat (show p < 2147483648 by omega), eL, eB]
  unfold f_Nights_pushed_Thought
  rw [z_Thought_placeOf hw4, z_bind_some, z_Thought_waitsOf hw4, z_bind_some, ep, z_letterAt hw4 (by omega), z_bind_some]
  by_cases l1 : u.2.1 4 (40 * w + p) = 115
  · refine z_pos l1 (key u 2 _ z_fr.rf (by omega) ?_ (hsk (by rw [l1]; decide)))
    rw [hspe, l1, if_neg (by decide), if_neg (by decide), if_pos rfl]; rfl
  refine z_neg l1 ?_
  by_cases l2 : u.2.1 4 (40 * w + p) = 102
  · refine z_pos l2 (z_bind _ (hc u rfl rfl rfl (u.1 1702) (J p) w hw4) (fun x v hv => ?_))
    have hcold : z_sp E (u.1 1702) (u.2.1 18 w) (u.2.1 19 w) w = if E.2.2.2.2 (u.1 1702) (u.2.1 18 w) w = true then (0, u.2.1 19 w) else (1, u.2.1 19 w) := by
      rw [hspe, l2, if_neg (by decide), if_pos rfl]
    have hsk2 : v.1 1206 = if w = 0 then z_sk E (z_moThought u) (u.1 1206) else u.1 1206 := (hv.1.1 1206 rfl).trans (hsk (by rw [l2]; decide))
    refine z_ite (fun hx => ?_) (fun hx => ?_)
    · unfold f_Nights_pushed_Thought_J68
      refine key v 1 _ (hv.1.mono rfl rfl) (by omega) ?_ hsk2
      rw [hcold, ep, if_neg (fun q => (hv.2.mp q) hx)]; rfl
    · unfold f_Nights_pushed_Thought_J68
      refine key v 0 _ (hv.1.mono rfl rfl) (by omega) ?_ hsk2
      rw [hcold, ep, if_pos (hv.2.mpr hx)]; rfl
  refine z_neg l2 ?_
  by_cases l3 : u.2.1 4 (40 * w + p) = 98
  · refine z_pos l3 ?_
    rw [z_Wheels_breakOf hw4, z_bind_some]
    have hb : z_sp E (u.1 1702) (u.2.1 18 w) (u.2.1 19 w) w = if u.2.1 6 w ≤ u.1 1702 then (2, u.2.1 19 w) else (1, u.2.1 19 w) := by
      rw [hspe, l3, if_pos rfl]
    have hl0 : w = 0 → E.2.1 ((z_moThought u).2.1 0).toNatClampNeg = 98 := by
      intro h0
      subst h0
      rw [show (z_moThought u).2.1 0 = u.2.1 18 0 from rfl, ep, J_toNat (by omega), ← eL]
      rw [show 40 * 0 + p = p by omega] at l3
      exact l3
    by_cases l4 : u.1 1702 < u.2.1 6 w
    · refine z_pos l4 (key u 1 _ z_fr.rf (by omega) ?_ ?_)
      · rw [hb, if_neg (by ((try simp (disch := omega) only [Int32.lt_iff_toInt_lt, Int32.le_iff_toInt_le, ← Int32.toInt_inj, Int32.toInt_add, Int32.toInt_sub, Int32.toInt_mul, Int32.toInt_neg, z_bm, z_bm2, J_ti, J_toInt, z_cn, Int32.reduceToInt] at *); omega))]; rfl
      · by_cases h0 : w = 0
        · subst h0
          rw [if_pos rfl]
          unfold z_sk
          rw [if_neg]
          rintro ⟨-, q, -⟩
          rw [← eB] at q
          have : u.2.1 6 0 ≤ u.1 1702 := q
          ((try simp (disch := omega) only [Int32.lt_iff_toInt_lt, Int32.le_iff_toInt_le, ← Int32.toInt_inj, Int32.toInt_add, Int32.toInt_sub, Int32.toInt_mul, Int32.toInt_neg, z_bm, z_bm2, J_ti, J_toInt, z_cn, Int32.reduceToInt] at *); omega)
        · rw [if_neg h0]
    · refine z_neg l4 ?_
      have e2 : (J 2, u.2.1 19 w) = z_sp E (u.1 1702) (u.2.1 18 w) (u.2.1 19 w) w := by rw [hb, if_pos (by ((try simp (disch := omega) only [Int32.lt_iff_toInt_lt, Int32.le_iff_toInt_le, ← Int32.toInt_inj, Int32.toInt_add, Int32.toInt_sub, Int32.toInt_mul, Int32.toInt_neg, z_bm, z_bm2, J_ti, J_toInt, z_cn, Int32.reduceToInt] at *); omega))]; rfl
      by_cases h0 : w = 0
      · subst h0
        refine z_pos rfl ?_
        have hq : E.2.2.2.1 0 ≤ (z_moThought u).1 := by
          rw [← eB]
          show u.2.1 6 0 ≤ u.1 1702
          ((try simp (disch := omega) only [Int32.lt_iff_toInt_lt, Int32.le_iff_toInt_le, ← Int32.toInt_inj, Int32.toInt_add, Int32.toInt_sub, Int32.toInt_mul, Int32.toInt_neg, z_bm, z_bm2, J_ti, J_toInt, z_cn, Int32.reduceToInt] at *); omega)
        refine z_ite (fun h5 => z_let (key _ 2 _ (z_wF rfl) (by omega) e2 ?_)) (fun h5 => key u 2 _ z_fr.rf (by omega) e2 ?_)
        · rw [if_pos rfl]
          unfold z_sk
          rw [if_pos ⟨hl0 rfl, hq, h5⟩]
          simp [k_wF, z_moThought]
        · rw [if_pos rfl]
          unfold z_sk
          rw [if_neg (fun q => h5 q.2.2)]
      · exact z_neg (by (try simp (disch := omega) only [Int32.lt_iff_toInt_lt, Int32.le_iff_toInt_le, ← Int32.toInt_inj, Int32.toInt_add, Int32.toInt_sub, Int32.toInt_mul, Int32.toInt_neg, z_bm, z_bm2, J_ti, J_toInt, z_cn, Int32.reduceToInt]) <;> omega) (key u 2 _ z_fr.rf (by omega) e2 (by rw [if_neg h0]))
  refine z_neg l3 ?_
  by_cases l4 : u.2.1 4 (40 * w + p) = 119
  · refine z_pos l4 (key u 1 _ z_fr.rf (by omega) ?_ (hsk l3))
    rw [hspe, l4, if_neg (by decide), if_neg (by decide), if_neg (by decide), if_pos rfl]; rfl
  refine z_neg l4 ?_
  unfold f_Nights_pushed_Thought_J143 f_Nights_pushed_Thought_J158
  refine z_ite (fun l5 => ?_) (fun l5 => ?_)
  · refine z_neg (by decide) (key u 1 0 z_fr.rf (by omega) ?_ (hsk l3))
    rw [hspe, if_neg l3, if_neg l2, if_neg l1, if_neg l4, if_pos l5]; rfl
  · refine z_pos rfl (key u 0 _ z_fr.rf (by omega) ?_ (hsk l3))
    rw [hspe, if_neg l3, if_neg l2, if_neg l1, if_neg l4, if_neg l5]; rfl
