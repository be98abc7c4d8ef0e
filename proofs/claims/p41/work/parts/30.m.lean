/-! THE PURE BASE: rules of k_sat for what has to be shown, ints, frames -/
def J (n : Nat) : Int32 := Int32.ofNat n
theorem z_bind {α β : Type} {o : Option (α × k_S)} {f : α → k_S → Option (β × k_S)} {Q : β → k_S → Prop} (R : α → k_S → Prop) (h : k_sat o R) (k : ∀ a u, R a u → k_sat (f a u) Q) : k_sat (k_bind o f) Q := by
  obtain ⟨⟨a, w⟩, rfl, hr⟩ := h
  exact k a w hr
theorem z_ite {α : Type} {c : Prop} {d : Decidable c} {a b : Option (α × k_S)} {Q : α → k_S → Prop} (h1 : c → k_sat a Q) (h2 : ¬ c → k_sat b Q) : k_sat (if c then a else b) Q := by
  by_cases hc : c
  · rw [if_pos hc]; exact h1 hc
  · rw [if_neg hc]; exact h2 hc
theorem z_pos {α : Type} {c : Prop} {d : Decidable c} {a b : Option (α × k_S)} {Q : α → k_S → Prop} (hc : c) (h : k_sat a Q) : k_sat (if c then a else b) Q := by rw [if_pos hc]; exact h
theorem z_neg {α : Type} {c : Prop} {d : Decidable c} {a b : Option (α × k_S)} {Q : α → k_S → Prop} (hc : ¬ c) (h : k_sat b Q) : k_sat (if c then a else b) Q := by rw [if_neg hc]; exact h
theorem z_in_of {i : Int32} {n : Nat} (h0 : 0 ≤ i.toInt) (h1 : i.toInt < n) : ¬ (i < 0 ∨ n ≤ i.toNatClampNeg) := by
  intro h
  rcases h with h | h
  · rw [Int32.lt_iff_toInt_lt] at h
    simp at h
    omega
  · rw [← Int32.toNat_toInt] at h
    omega
theorem z_ck {α : Type} {i : Int32} {n : Nat} {o : Option (α × k_S)} {Q : α → k_S → Prop} (h0 : 0 ≤ i.toInt) (h1 : i.toInt < n) (h : k_sat o Q) : k_sat (k_ck i n o) Q := by
  unfold k_ck
  rw [if_neg (z_in_of h0 h1)]
  exact h
theorem z_nz {α : Type} {y : Int32} {o : Option (α × k_S)} {Q : α → k_S → Prop} (h0 : ¬ y = 0) (h : k_sat o Q) : k_sat (k_nz y o) Q := by
  unfold k_nz
  rw [if_neg h0]
  exact h
theorem z_zb {α : Type} {y : Int32} {o : Option (α × k_S)} {Q : α → k_S → Prop} (h0 : y &&& 1 = y) (h : k_sat o Q) : k_sat (k_zb y o) Q := by
  unfold k_zb
  rw [if_pos h0]
  exact h
theorem z_let {α β : Type} {a : α} {f : α → Option (β × k_S)} {Q : β → k_S → Prop} (h : k_sat (f a) Q) : k_sat (k_let a f) Q := h
theorem z_mono {α : Type} {o : Option (α × k_S)} {R Q : α → k_S → Prop} (h : k_sat o R) (hh : ∀ a u, R a u → Q a u) : k_sat o Q := by
  obtain ⟨x, hx, hr⟩ := h
  exact ⟨x, hx, hh _ _ hr⟩
/-- a loop whose measure falls -/
theorem z_itr {X Y : Type} {b : X → k_S → Option ((X ⊕ Y) × k_S)} {K : Y → k_S → Prop} (P : Nat → X → k_S → Prop) (hs : ∀ n x u, P n x u → k_sat (b x u) (fun z u' => (∃ x' m, z = .inl x' ∧ m < n ∧ P m x' u') ∨ ∃ y, z = .inr y ∧ K y u')) : ∀ (N n : Nat) (x : X) (u : k_S), n < N → P n x u → k_sat (k_itr b N x u) K
  | 0, n, x, u, h, _ => absurd h (Nat.not_lt_zero n)
  | N + 1, n, x, u, h, hp => by
    obtain ⟨⟨z, u'⟩, e, hz⟩ := hs n x u hp
    unfold k_itr
    rw [e]
    rcases hz with ⟨x', m, rfl, hm, hp'⟩ | ⟨y, rfl, hk⟩
    · exact z_itr P hs N m x' u' (Nat.lt_of_lt_of_le hm (Nat.le_of_lt_succ h)) hp'
    · exact ⟨_, rfl, hk⟩
theorem z_J1 (i : Nat) : J i + Int32.ofInt 1 = J (i + 1) := by
  rw [J, J, Int32.ofNat_add]
  rfl
/-- a loop that counts from 0 (or a) to n, by ones, with what else it carries -/
theorem z_for {Y : Type} {b : Int32 → k_S → Option ((Int32 ⊕ Y) × k_S)} {K : Y → k_S → Prop} (a n : Nat) (P : Nat → k_S → Prop) {u : k_S} (hn : n < 2147483648) (ha : a ≤ n) (h0 : P a u) (hs : ∀ i u, a ≤ i → i < n → P i u → k_sat (b (J i) u) (fun z u' => (z = .inl (J i + Int32.ofInt 1) ∧ P (i + 1) u') ∨ ∃ y, z = .inr y ∧ K y u')) (he : ∀ u, P n u → k_sat (b (J n) u) (fun z u' => ∃ y, z = .inr y ∧ K y u')) : k_sat (k_itr b k_FU (J a) u) K := by
  refine z_itr (P := fun m x u => ∃ i, a ≤ i ∧ i ≤ n ∧ x = J i ∧ m = n - i ∧ P i u) (fun m x u h => ?_) k_FU (n - a) (J a) u (by unfold k_FU; omega) ⟨a, Nat.le_refl a, ha, rfl, rfl, h0⟩
  obtain ⟨i, hi0, hi, rfl, rfl, hp⟩ := h
  by_cases e : i = n
  · subst e
    exact z_mono (he u hp) (fun z u' h => Or.inr h)
  · refine z_mono (hs i u hi0 (by omega) hp) (fun z u' h => ?_)
    rcases h with ⟨rfl, h⟩ | h
    · exact Or.inl ⟨_, n - (i + 1), rfl, by omega, i + 1, by omega, by omega, z_J1 i, rfl, h⟩
    · exact Or.inr h
theorem J_toInt {n : Nat} (h : n < 2147483648) : (J n).toInt = n := Int32.toInt_ofNat_of_lt h
theorem J_toNat {n : Nat} (h : n < 2147483648) : (J n).toNatClampNeg = n := Int32.toNatClampNeg_ofNat_of_lt h
theorem J_of {x : Int32} (h : 0 ≤ x.toInt) : ∃ n : Nat, x = J n ∧ (n : Int) = x.toInt ∧ n < 2147483648 := by
  refine ⟨x.toNatClampNeg, ?_, ?_, x.toNatClampNeg_lt⟩
  · apply Int32.toInt.inj
    rw [J_toInt x.toNatClampNeg_lt, ← Int32.toNat_toInt]
    omega
  · rw [← Int32.toNat_toInt]
    omega
theorem J_le {a b : Nat} (ha : a < 2147483648) (hb : b < 2147483648) : (J a ≤ J b) = (a ≤ b) := propext (Int32.ofNat_le_iff_le ha hb)
theorem J_lt {a b : Nat} (ha : a < 2147483648) (hb : b < 2147483648) : (J a < J b) = (a < b) := propext (Int32.ofNat_lt_iff_lt ha hb)
theorem J_inj {a b : Nat} (ha : a < 2147483648) (hb : b < 2147483648) : (J a = J b) = (a = b) := propext ⟨fun h => by rw [← J_toNat ha, ← J_toNat hb, h], fun h => by rw [h]⟩
/-- what stays: all fields and arrays but those named (of the arrays of longs: 41, 74, 75) -/
def z_el (A : List Nat) (c : Nat) : Bool := A.elem c && (c == 41 || c == 74 || c == 75)
def z_fr (F A : List Nat) (u v : k_S) : Prop := (∀ i, F.elem i = false → v.1 i = u.1 i) ∧ (∀ c, A.elem c = false → v.2.1 c = u.2.1 c) ∧ ∀ c, z_el A c = false → v.2.2 c = u.2.2 c
theorem z_el0 {A : List Nat} {c : Nat} (h : A.elem c = false) : z_el A c = false := by unfold z_el; rw [h]; rfl
theorem z_fr.rf {F A : List Nat} {u : k_S} : z_fr F A u u := ⟨fun _ _ => rfl, fun _ _ => rfl, fun _ _ => rfl⟩
theorem z_fr.tr {F A : List Nat} {u v w : k_S} (h : z_fr F A u v) (k : z_fr F A v w) : z_fr F A u w := ⟨fun i hi => (k.1 i hi).trans (h.1 i hi), fun c hc => (k.2.1 c hc).trans (h.2.1 c hc), fun c hc => (k.2.2 c hc).trans (h.2.2 c hc)⟩
def z_sub (a b : List Nat) : Bool := a.all (fun x => b.elem x)
theorem z_sub_not {a b : List Nat} (h : z_sub a b = true) {i : Nat} (hi : b.elem i = false) : a.elem i = false := by
  cases ha : a.elem i with
  | false => rfl
  | true =>
    have := List.all_eq_true.mp h i (List.elem_iff.mp ha)
    rw [hi] at this
    cases this
theorem z_fr.mono {F A F' A' : List Nat} {u v : k_S} (h : z_fr F A u v) (h1 : z_sub F F' = true) (h2 : z_sub A A' = true) : z_fr F' A' u v := ⟨fun i hi => h.1 i (z_sub_not h1 hi), fun c hc => h.2.1 c (z_sub_not h2 hc), fun c hc => h.2.2 c (by
    unfold z_el at *
    cases ha : A'.elem c with
    | false => rw [z_sub_not h2 ha]; rfl
    | true =>
      rw [ha] at hc
      rw [Bool.true_and] at hc
      rw [hc, Bool.and_false])⟩
theorem z_wF {F A : List Nat} {u : k_S} {i : Nat} {v : Int32} (h : F.elem i = true) : z_fr F A u (k_wF u i v) := ⟨fun j hj => by
    simp only [k_wF]
    rw [if_neg (fun e => by rw [e, h] at hj; cases hj)], fun _ _ => rfl, fun _ _ => rfl⟩
theorem z_wA {F A : List Nat} {u : k_S} {k i : Nat} {v : Int32} (h : A.elem k = true) : z_fr F A u (k_wA u k i v) := ⟨fun _ _ => rfl, fun j hj => by
    simp only [k_wA]
    rw [if_neg (fun e => by rw [e, h] at hj; cases hj)], fun _ _ => rfl⟩
theorem z_wL {F A : List Nat} {u : k_S} {k i : Nat} {v : Int64} (h : z_el A k = true) : z_fr F A u (k_wL u k i v) := ⟨fun _ _ => rfl, fun _ _ => rfl, fun j hj => by
    simp only [k_wL]
    rw [if_neg (fun e => by rw [e, h] at hj; cases hj)]⟩
theorem z_ec {a c : Nat} {l : List Nat} (h : ¬ c = a) : (a :: l).elem c = l.elem c := by
  show (match c == a with | true => true | false => l.elem c) = l.elem c
  rw [beq_false_of_ne h]
theorem z_fr_back {F A : List Nat} {u v : k_S} (h : z_fr (4209 :: F) (46 :: 47 :: A) u v) (h1 : v.1 4209 = u.1 4209) (h2 : v.2.1 46 = u.2.1 46) (h3 : v.2.1 47 = u.2.1 47) : z_fr F A u v := by
  refine ⟨fun i hi => ?_, fun c hc => ?_, fun c hc => ?_⟩
  · by_cases e : i = 4209
    · rw [e]; exact h1
    · exact h.1 i (by rw [z_ec e]; exact hi)
  · by_cases e : c = 46
    · rw [e]; exact h2
    by_cases e2 : c = 47
    · rw [e2]; exact h3
    exact h.2.1 c (by rw [z_ec e, z_ec e2]; exact hc)
  · refine h.2.2 c ?_
    unfold z_el at *
    by_cases e : c = 46
    · rw [e]; rfl
    by_cases e2 : c = 47
    · rw [e2]; rfl
    rw [z_ec e, z_ec e2]
    exact hc
theorem z_bm {x : Int} (h1 : -2147483648 ≤ x) (h2 : x < 2147483648) : x.bmod 4294967296 = x := by
  rw [Int.bmod_eq_of_le_mul_two] <;> omega
theorem z_bm2 {x : Int} (h1 : -2147483648 ≤ x) (h2 : x < 2147483648) : x.bmod (2 ^ 32) = x := z_bm h1 h2
theorem J_ti {n : Nat} (h : n < 2147483648) : (Int32.ofNat n).toInt = n := Int32.toInt_ofNat_of_lt h
theorem z_cn {x : Int32} : x.toNatClampNeg = x.toInt.toNat := rfl
theorem z_cko {α : Type} {i : Int32} {n : Nat} (o : Option α) (h0 : 0 ≤ i.toInt) (h1 : i.toInt < n) : k_ck i n o = o := by
  unfold k_ck
  rw [if_neg (z_in_of h0 h1)]
def z_pair {α : Type} (f g : k_S → Option (α × k_S)) (u : k_S) (P : k_S → Prop) : Prop := ∃ (r : α) (u1 u2 : k_S), f u = some (r, u1) ∧ g u1 = some (r, u2) ∧ P u2
def z_two {α : Type} (f g : k_S → Option (α × k_S)) (u : k_S) (P : k_S → Prop) : Prop := ∃ (r r' : α) (u1 u2 : k_S), f u = some (r, u1) ∧ g u1 = some (r', u2) ∧ P u2
theorem z_pair_of {α : Type} {f g : k_S → Option (α × k_S)} {u : k_S} {P : k_S → Prop} (h : k_sat (f u) (fun r u1 => k_sat (g u1) (fun r' u2 => r = r' ∧ P u2))) : z_pair f g u P := by
  obtain ⟨⟨r, u1⟩, h1, ⟨r', u2⟩, h2, e, h3⟩ := h
  cases e
  exact ⟨r, u1, u2, h1, h2, h3⟩
theorem z_two_of {α : Type} {f g : k_S → Option (α × k_S)} {u : k_S} {P : k_S → Prop} (h : k_sat (f u) (fun r u1 => k_sat (g u1) (fun r' u2 => P u2))) : z_two f g u P := by
  obtain ⟨⟨r, u1⟩, h1, ⟨r', u2⟩, h2, h3⟩ := h
  exact ⟨r, r', u1, u2, h1, h2, h3⟩
theorem z_bind_ite {α β : Type} {c : Prop} {d : Decidable c} {a b : Option (α × k_S)} {f : α → k_S → Option (β × k_S)} : k_bind (if c then a else b) f = if c then k_bind a f else k_bind b f := by
  by_cases h : c
  · rw [if_pos h, if_pos h]
  · rw [if_neg h, if_neg h]
theorem z_bind_some {α β : Type} {a : α} {u : k_S} {f : α → k_S → Option (β × k_S)} : k_bind (some (a, u)) f = f a u := rfl
theorem z_up {f : Nat → Int32} {k j : Nat} {x : Int32} : upd f k x j = if j = k then x else f j := rfl
theorem z_upL {f : Nat → Int64} {k j : Nat} {x : Int64} : vp_updL f k x j = if j = k then x else f j := rfl
/-- a loop that comes out at once, or goes round once more -/
theorem z_exit {X Y : Type} {b : X → k_S → Option ((X ⊕ Y) × k_S)} {x : X} {u : k_S} {n : Nat} {K : Y → k_S → Prop} (h : k_sat (b x u) (fun z u' => ∃ y, z = .inr y ∧ K y u')) : k_sat (k_itr b (n + 1) x u) K := by
  obtain ⟨⟨z, u'⟩, e, y, rfl, hk⟩ := h
  rw [k_itr]
  rw [e]
  exact ⟨_, rfl, hk⟩
theorem z_turn {X Y : Type} {b : X → k_S → Option ((X ⊕ Y) × k_S)} {x : X} {u : k_S} {n : Nat} {K : Y → k_S → Prop} (h : k_sat (b x u) (fun z u' => ∃ x', z = .inl x' ∧ k_sat (k_itr b n x' u') K)) : k_sat (k_itr b (n + 1) x u) K := by
  obtain ⟨⟨z, u'⟩, e, x', rfl, hk⟩ := h
  rw [k_itr]
  rw [e]
  exact hk
theorem z_FU : k_FU = 4294967294 + 1 + 1 := rfl
theorem J_0 : J 0 = 0 := rfl
theorem J_add (a b : Nat) : J a + J b = J (a + b) := by rw [J, J, J, Int32.ofNat_add]
theorem J_mul (a b : Nat) : J a * J b = J (a * b) := by rw [J, J, J, Int32.ofNat_mul]
theorem z_rg (x : Int32) : -2147483648 ≤ x.toInt ∧ x.toInt < 2147483648 := ⟨x.le_toInt, x.toInt_lt⟩
/-! what small methods answer -/
theorem z_Rin1 {a b c : Int32} {u : k_S} (h1 : b.toInt ≤ a.toInt) (h2 : a.toInt ≤ c.toInt) : f_R_in a b c u = some (1, u) := by
  unfold f_R_in
  rw [if_neg (by (try simp (disch := omega) only [Int32.lt_iff_toInt_lt, Int32.le_iff_toInt_le, ← Int32.toInt_inj, Int32.toInt_add, Int32.toInt_sub, Int32.toInt_mul, Int32.toInt_neg, z_bm, z_bm2, J_ti, J_toInt, z_cn, Int32.reduceToInt]) <;> omega), if_neg (by (try simp (disch := omega) only [Int32.lt_iff_toInt_lt, Int32.le_iff_toInt_le, ← Int32.toInt_inj, Int32.toInt_add, Int32.toInt_sub, Int32.toInt_mul, Int32.toInt_neg, z_bm, z_bm2, J_ti, J_toInt, z_cn, Int32.reduceToInt]) <;> omega)]
theorem z_Rin0 {a b c : Int32} {u : k_S} (h : a.toInt < b.toInt ∨ c.toInt < a.toInt) : f_R_in a b c u = some (0, u) := by
  unfold f_R_in
  by_cases h1 : a < b
  · rw [if_pos h1]
  · rw [if_neg h1, if_pos (by ((try simp (disch := omega) only [Int32.lt_iff_toInt_lt, Int32.le_iff_toInt_le, ← Int32.toInt_inj, Int32.toInt_add, Int32.toInt_sub, Int32.toInt_mul, Int32.toInt_neg, z_bm, z_bm2, J_ti, J_toInt, z_cn, Int32.reduceToInt] at *); omega))]
theorem z_Shas {p : Int32} {u : k_S} (h0 : 0 ≤ p.toInt) (h1 : p.toInt < 6) : f_Shelves_has p u = some (1, u) := by
  unfold f_Shelves_has
  rw [if_neg (by (try simp (disch := omega) only [Int32.lt_iff_toInt_lt, Int32.le_iff_toInt_le, ← Int32.toInt_inj, Int32.toInt_add, Int32.toInt_sub, Int32.toInt_mul, Int32.toInt_neg, z_bm, z_bm2, J_ti, J_toInt, z_cn, Int32.reduceToInt]) <;> omega), if_neg (by (try simp (disch := omega) only [Int32.lt_iff_toInt_lt, Int32.le_iff_toInt_le, ← Int32.toInt_inj, Int32.toInt_add, Int32.toInt_sub, Int32.toInt_mul, Int32.toInt_neg, z_bm, z_bm2, J_ti, J_toInt, z_cn, Int32.reduceToInt]) <;> omega)]
theorem z_Shas0 {p : Int32} {u : k_S} (h : p.toInt < 0 ∨ 6 ≤ p.toInt) : f_Shelves_has p u = some (0, u) := by
  unfold f_Shelves_has
  by_cases h1 : p < 0
  · rw [if_pos h1]
  · rw [if_neg h1, if_pos (by ((try simp (disch := omega) only [Int32.lt_iff_toInt_lt, Int32.le_iff_toInt_le, ← Int32.toInt_inj, Int32.toInt_add, Int32.toInt_sub, Int32.toInt_mul, Int32.toInt_neg, z_bm, z_bm2, J_ti, J_toInt, z_cn, Int32.reduceToInt] at *); omega))]
theorem z_RisShelf {p : Int32} {u : k_S} (h0 : 0 ≤ p.toInt) (h1 : p.toInt < 6) : f_R_isShelf p u = some (1, u) := by
  unfold f_R_isShelf
  rw [z_Rin1 (by (try simp (disch := omega) only [Int32.lt_iff_toInt_lt, Int32.le_iff_toInt_le, ← Int32.toInt_inj, Int32.toInt_add, Int32.toInt_sub, Int32.toInt_mul, Int32.toInt_neg, z_bm, z_bm2, J_ti, J_toInt, z_cn, Int32.reduceToInt]) <;> omega) (by (try simp (disch := omega) only [Int32.lt_iff_toInt_lt, Int32.le_iff_toInt_le, ← Int32.toInt_inj, Int32.toInt_add, Int32.toInt_sub, Int32.toInt_mul, Int32.toInt_neg, z_bm, z_bm2, J_ti, J_toInt, z_cn, Int32.reduceToInt]) <;> omega), z_bind_some]
  unfold k_zb
  rw [if_pos (by decide)]
theorem z_RisShelf0 {p : Int32} {u : k_S} (h : p.toInt < 0 ∨ 6 ≤ p.toInt) : f_R_isShelf p u = some (0, u) := by
  unfold f_R_isShelf
  rw [z_Rin0 (by (try simp (disch := omega) only [Int32.lt_iff_toInt_lt, Int32.le_iff_toInt_le, ← Int32.toInt_inj, Int32.toInt_add, Int32.toInt_sub, Int32.toInt_mul, Int32.toInt_neg, z_bm, z_bm2, J_ti, J_toInt, z_cn, Int32.reduceToInt]) <;> omega), z_bind_some]
  unfold k_zb
  rw [if_pos (by decide)]
theorem z_SheldBy {p : Int32} {u : k_S} (h0 : 0 ≤ p.toInt) (h1 : p.toInt < 6) : f_Shelves_heldBy p u = some (u.2.1 39 p.toNatClampNeg, u) := by
  unfold f_Shelves_heldBy
  rw [z_Shas h0 h1, z_bind_some, if_neg (by decide), z_cko _ h0 (by omega)]
theorem z_SsizeOf {p : Int32} {u : k_S} (h0 : 0 ≤ p.toInt) (h1 : p.toInt < 6) : f_Shelves_sizeOf p u = some (u.2.1 40 p.toNatClampNeg, u) := by
  unfold f_Shelves_sizeOf
  rw [if_neg (by (try simp (disch := omega) only [Int32.lt_iff_toInt_lt, Int32.le_iff_toInt_le, ← Int32.toInt_inj, Int32.toInt_add, Int32.toInt_sub, Int32.toInt_mul, Int32.toInt_neg, z_bm, z_bm2, J_ti, J_toInt, z_cn, Int32.reduceToInt]) <;> omega), if_neg (by (try simp (disch := omega) only [Int32.lt_iff_toInt_lt, Int32.le_iff_toInt_le, ← Int32.toInt_inj, Int32.toInt_add, Int32.toInt_sub, Int32.toInt_mul, Int32.toInt_neg, z_bm, z_bm2, J_ti, J_toInt, z_cn, Int32.reduceToInt]) <;> omega), z_cko _ h0 (by omega)]
/-! R's keeping and laying back; rows of a shelf cleared -/
theorem z_keepNow (u : k_S) : k_sat (f_R_keepNow u) (fun _ u' => z_fr [4230] [60, 61] u u' ∧ u'.1 4230 = u.1 4209 ∧ ∀ w, w < 4 → u'.2.1 60 w = u.2.1 46 w ∧ u'.2.1 61 w = u.2.1 47 w) := by
  unfold f_R_keepNow
  refine z_let (z_bind _ (z_for 0 4 (fun i u' => z_fr [4230] [60, 61] u u' ∧ u'.1 4230 = u.1 4209 ∧ ∀ w, w < i → u'.2.1 60 w = u.2.1 46 w ∧ u'.2.1 61 w = u.2.1 47 w) (K := fun _ u' => z_fr [4230] [60, 61] u u' ∧ u'.1 4230 = u.1 4209 ∧ ∀ w, w < 4 → u'.2.1 60 w = u.2.1 46 w ∧ u'.2.1 61 w = u.2.1 47 w) (by omega) (by omega) ⟨z_wF rfl, by simp [k_wF], fun w h => by omega⟩ (fun i u' _ hi hp => ?_) (fun u' hp => ?_)) (fun _ u' h => k_sat_mk h))
  · obtain ⟨h1, h2, h3⟩ := hp
    unfold f_R_keepNow_B10
    refine z_neg (by (try simp (disch := omega) only [Int32.lt_iff_toInt_lt, Int32.le_iff_toInt_le, ← Int32.toInt_inj, Int32.toInt_add, Int32.toInt_sub, Int32.toInt_mul, Int32.toInt_neg, z_bm, z_bm2, J_ti, J_toInt, z_cn, Int32.reduceToInt]) <;> omega) (z_ck (by (try simp (disch := omega) only [Int32.lt_iff_toInt_lt, Int32.le_iff_toInt_le, ← Int32.toInt_inj, Int32.toInt_add, Int32.toInt_sub, Int32.toInt_mul, Int32.toInt_neg, z_bm, z_bm2, J_ti, J_toInt, z_cn, Int32.reduceToInt]) <;> omega) (by (try simp (disch := omega) only [Int32.lt_iff_toInt_lt, Int32.le_iff_toInt_le, ← Int32.toInt_inj, Int32.toInt_add, Int32.toInt_sub, Int32.toInt_mul, Int32.toInt_neg, z_bm, z_bm2, J_ti, J_toInt, z_cn, Int32.reduceToInt]) <;> omega) (z_ck (by (try simp (disch := omega) only [Int32.lt_iff_toInt_lt, Int32.le_iff_toInt_le, ← Int32.toInt_inj, Int32.toInt_add, Int32.toInt_sub, Int32.toInt_mul, Int32.toInt_neg, z_bm, z_bm2, J_ti, J_toInt, z_cn, Int32.reduceToInt]) <;> omega) (by (try simp (disch := omega) only [Int32.lt_iff_toInt_lt, Int32.le_iff_toInt_le, ← Int32.toInt_inj, Int32.toInt_add, Int32.toInt_sub, Int32.toInt_mul, Int32.toInt_neg, z_bm, z_bm2, J_ti, J_toInt, z_cn, Int32.reduceToInt]) <;> omega) (z_let (z_ck (by (try simp (disch := omega) only [Int32.lt_iff_toInt_lt, Int32.le_iff_toInt_le, ← Int32.toInt_inj, Int32.toInt_add, Int32.toInt_sub, Int32.toInt_mul, Int32.toInt_neg, z_bm, z_bm2, J_ti, J_toInt, z_cn, Int32.reduceToInt]) <;> omega) (by (try simp (disch := omega) only [Int32.lt_iff_toInt_lt, Int32.le_iff_toInt_le, ← Int32.toInt_inj, Int32.toInt_add, Int32.toInt_sub, Int32.toInt_mul, Int32.toInt_neg, z_bm, z_bm2, J_ti, J_toInt, z_cn, Int32.reduceToInt]) <;> omega) (z_ck (by (try simp (disch := omega) only [Int32.lt_iff_toInt_lt, Int32.le_iff_toInt_le, ← Int32.toInt_inj, Int32.toInt_add, Int32.toInt_sub, Int32.toInt_mul, Int32.toInt_neg, z_bm, z_bm2, J_ti, J_toInt, z_cn, Int32.reduceToInt]) <;> omega) (by (try simp (disch := omega) only [Int32.lt_iff_toInt_lt, Int32.le_iff_toInt_le, ← Int32.toInt_inj, Int32.toInt_add, Int32.toInt_sub, Int32.toInt_mul, Int32.toInt_neg, z_bm, z_bm2, J_ti, J_toInt, z_cn, Int32.reduceToInt]) <;> omega) (z_let (k_sat_mk (Or.inl ⟨rfl, (h1.tr (z_wA rfl)).tr (z_wA rfl), h2, fun w hw => ?_⟩))))))))
    have e0 : u'.2.1 46 = u.2.1 46 := h1.2.1 46 rfl
    have e1 : u'.2.1 47 = u.2.1 47 := h1.2.1 47 rfl
    simp only [k_wA, z_up, J_toNat (show i < 2147483648 by omega)]
    by_cases e : w = i
    · subst e; simp [z_up, e0, e1]
    · simp [z_up, e, h3 w (by omega)]
  · unfold f_R_keepNow_B10
    exact z_pos (by (try simp (disch := omega) only [Int32.lt_iff_toInt_lt, Int32.le_iff_toInt_le, ← Int32.toInt_inj, Int32.toInt_add, Int32.toInt_sub, Int32.toInt_mul, Int32.toInt_neg, z_bm, z_bm2, J_ti, J_toInt, z_cn, Int32.reduceToInt]) <;> omega) (k_sat_mk ⟨_, rfl, hp⟩)
theorem z_layBack (u : k_S) : k_sat (f_R_layBack u) (fun _ u' => z_fr [4209] [46, 47] u u' ∧ u'.1 4209 = u.1 4230 ∧ (∀ w, w < 4 → u'.2.1 46 w = u.2.1 60 w ∧ u'.2.1 47 w = u.2.1 61 w) ∧ ∀ w, 4 ≤ w → u'.2.1 46 w = u.2.1 46 w ∧ u'.2.1 47 w = u.2.1 47 w) := by
  unfold f_R_layBack
  refine z_let (z_bind _ (z_for 0 4 (fun i u' => z_fr [4209] [46, 47] u u' ∧ u'.1 4209 = u.1 4230 ∧ (∀ w, w < i → u'.2.1 46 w = u.2.1 60 w ∧ u'.2.1 47 w = u.2.1 61 w) ∧ ∀ w, i ≤ w → u'.2.1 46 w = u.2.1 46 w ∧ u'.2.1 47 w = u.2.1 47 w) (K := fun _ u' => z_fr [4209] [46, 47] u u' ∧ u'.1 4209 = u.1 4230 ∧ (∀ w, w < 4 → u'.2.1 46 w = u.2.1 60 w ∧ u'.2.1 47 w = u.2.1 61 w) ∧ ∀ w, 4 ≤ w → u'.2.1 46 w = u.2.1 46 w ∧ u'.2.1 47 w = u.2.1 47 w) (by omega) (by omega) ⟨z_wF rfl, by simp [k_wF], fun w h => by omega, fun w h => ⟨rfl, rfl⟩⟩ (fun i u' _ hi hp => ?_) (fun u' hp => ?_)) (fun _ u' h => k_sat_mk h))
  · obtain ⟨h1, h2, h3, h4⟩ := hp
    unfold f_R_layBack_B10
    refine z_neg (by (try simp (disch := omega) only [Int32.lt_iff_toInt_lt, Int32.le_iff_toInt_le, ← Int32.toInt_inj, Int32.toInt_add, Int32.toInt_sub, Int32.toInt_mul, Int32.toInt_neg, z_bm, z_bm2, J_ti, J_toInt, z_cn, Int32.reduceToInt]) <;> omega) (z_ck (by (try simp (disch := omega) only [Int32.lt_iff_toInt_lt, Int32.le_iff_toInt_le, ← Int32.toInt_inj, Int32.toInt_add, Int32.toInt_sub, Int32.toInt_mul, Int32.toInt_neg, z_bm, z_bm2, J_ti, J_toInt, z_cn, Int32.reduceToInt]) <;> omega) (by (try simp (disch := omega) only [Int32.lt_iff_toInt_lt, Int32.le_iff_toInt_le, ← Int32.toInt_inj, Int32.toInt_add, Int32.toInt_sub, Int32.toInt_mul, Int32.toInt_neg, z_bm, z_bm2, J_ti, J_toInt, z_cn, Int32.reduceToInt]) <;> omega) (z_ck (by (try simp (disch := omega) only [Int32.lt_iff_toInt_lt, Int32.le_iff_toInt_le, ← Int32.toInt_inj, Int32.toInt_add, Int32.toInt_sub, Int32.toInt_mul, Int32.toInt_neg, z_bm, z_bm2, J_ti, J_toInt, z_cn, Int32.reduceToInt]) <;> omega) (by (try simp (disch := omega) only [Int32.lt_iff_toInt_lt, Int32.le_iff_toInt_le, ← Int32.toInt_inj, Int32.toInt_add, Int32.toInt_sub, Int32.toInt_mul, Int32.toInt_neg, z_bm, z_bm2, J_ti, J_toInt, z_cn, Int32.reduceToInt]) <;> omega) (z_let (z_ck (by (try simp (disch := omega) only [Int32.lt_iff_toInt_lt, Int32.le_iff_toInt_le, ← Int32.toInt_inj, Int32.toInt_add, Int32.toInt_sub, Int32.toInt_mul, Int32.toInt_neg, z_bm, z_bm2, J_ti, J_toInt, z_cn, Int32.reduceToInt]) <;> omega) (by (try simp (disch := omega) only [Int32.lt_iff_toInt_lt, Int32.le_iff_toInt_le, ← Int32.toInt_inj, Int32.toInt_add, Int32.toInt_sub, Int32.toInt_mul, Int32.toInt_neg, z_bm, z_bm2, J_ti, J_toInt, z_cn, Int32.reduceToInt]) <;> omega) (z_ck (by (try simp (disch := omega) only [Int32.lt_iff_toInt_lt, Int32.le_iff_toInt_le, ← Int32.toInt_inj, Int32.toInt_add, Int32.toInt_sub, Int32.toInt_mul, Int32.toInt_neg, z_bm, z_bm2, J_ti, J_toInt, z_cn, Int32.reduceToInt]) <;> omega) (by (try simp (disch := omega) only [Int32.lt_iff_toInt_lt, Int32.le_iff_toInt_le, ← Int32.toInt_inj, Int32.toInt_add, Int32.toInt_sub, Int32.toInt_mul, Int32.toInt_neg, z_bm, z_bm2, J_ti, J_toInt, z_cn, Int32.reduceToInt]) <;> omega) (z_let (k_sat_mk (Or.inl ⟨rfl, (h1.tr (z_wA rfl)).tr (z_wA rfl), h2, fun w hw => ?_, fun w hw => ?_⟩))))))))
    · have e0 : u'.2.1 60 = u.2.1 60 := h1.2.1 60 rfl
      have e1 : u'.2.1 61 = u.2.1 61 := h1.2.1 61 rfl
      simp only [k_wA, z_up, J_toNat (show i < 2147483648 by omega)]
      by_cases e : w = i
      · subst e; simp [z_up, e0, e1]
      · simp [z_up, e, h3 w (by omega)]
    · simp only [k_wA, z_up, J_toNat (show i < 2147483648 by omega)]
      simp [z_up, show ¬ w = i by omega, h4 w (by omega)]
  · unfold f_R_layBack_B10
    exact z_pos (by (try simp (disch := omega) only [Int32.lt_iff_toInt_lt, Int32.le_iff_toInt_le, ← Int32.toInt_inj, Int32.toInt_add, Int32.toInt_sub, Int32.toInt_mul, Int32.toInt_neg, z_bm, z_bm2, J_ti, J_toInt, z_cn, Int32.reduceToInt]) <;> omega) (k_sat_mk ⟨_, rfl, hp⟩)
/-- a shelf is held anew: its elements are noughts -/
theorem z_hold (p s n : Int32) (u : k_S) (h0 : 0 ≤ p.toInt) (h1 : p.toInt < 6) : k_sat (f_Shelves_hold p s n u) (fun _ u' => z_fr [] [39, 40, 41] u u' ∧ u'.2.1 39 = upd (u.2.1 39) p.toNatClampNeg s ∧ u'.2.1 40 = upd (u.2.1 40) p.toNatClampNeg n ∧ u'.2.1 41 = u.2.1 41 ∧ (∀ j, j < 60 → u'.2.2 41 (60 * p.toNatClampNeg + j) = 0) ∧ ∀ j, (j < 60 * p.toNatClampNeg ∨ 60 * p.toNatClampNeg + 60 ≤ j) → u'.2.2 41 j = u.2.2 41 j) := by
  obtain ⟨q, rfl, hq, -⟩ := J_of h0
  rw [← hq] at h1
  have eq := J_toNat (show q < 2147483648 by omega)
  unfold f_Shelves_hold
  rw [z_Shas (by (try simp (disch := omega) only [Int32.lt_iff_toInt_lt, Int32.le_iff_toInt_le, ← Int32.toInt_inj, Int32.toInt_add, Int32.toInt_sub, Int32.toInt_mul, Int32.toInt_neg, z_bm, z_bm2, J_ti, J_toInt, z_cn, Int32.reduceToInt]) <;> omega) (by (try simp (disch := omega) only [Int32.lt_iff_toInt_lt, Int32.le_iff_toInt_le, ← Int32.toInt_inj, Int32.toInt_add, Int32.toInt_sub, Int32.toInt_mul, Int32.toInt_neg, z_bm, z_bm2, J_ti, J_toInt, z_cn, Int32.reduceToInt]) <;> omega), z_bind_some]
  refine z_neg (by decide) (z_pos (by (try simp (disch := omega) only [Int32.lt_iff_toInt_lt, Int32.le_iff_toInt_le, ← Int32.toInt_inj, Int32.toInt_add, Int32.toInt_sub, Int32.toInt_mul, Int32.toInt_neg, z_bm, z_bm2, J_ti, J_toInt, z_cn, Int32.reduceToInt]) <;> omega) (z_ck (by (try simp (disch := omega) only [Int32.lt_iff_toInt_lt, Int32.le_iff_toInt_le, ← Int32.toInt_inj, Int32.toInt_add, Int32.toInt_sub, Int32.toInt_mul, Int32.toInt_neg, z_bm, z_bm2, J_ti, J_toInt, z_cn, Int32.reduceToInt]) <;> omega) (by (try simp (disch := omega) only [Int32.lt_iff_toInt_lt, Int32.le_iff_toInt_le, ← Int32.toInt_inj, Int32.toInt_add, Int32.toInt_sub, Int32.toInt_mul, Int32.toInt_neg, z_bm, z_bm2, J_ti, J_toInt, z_cn, Int32.reduceToInt]) <;> omega) (z_let (z_ck (by (try simp (disch := omega) only [Int32.lt_iff_toInt_lt, Int32.le_iff_toInt_le, ← Int32.toInt_inj, Int32.toInt_add, Int32.toInt_sub, Int32.toInt_mul, Int32.toInt_neg, z_bm, z_bm2, J_ti, J_toInt, z_cn, Int32.reduceToInt]) <;> omega) (by (try simp (disch := omega) only [Int32.lt_iff_toInt_lt, Int32.le_iff_toInt_le, ← Int32.toInt_inj, Int32.toInt_add, Int32.toInt_sub, Int32.toInt_mul, Int32.toInt_neg, z_bm, z_bm2, J_ti, J_toInt, z_cn, Int32.reduceToInt]) <;> omega) (z_let (z_let ?_))))))
  have hm : (60 : Int32) * J q = J (60 * q) := by
    apply Int32.toInt.inj
    (try simp (disch := omega) only [Int32.lt_iff_toInt_lt, Int32.le_iff_toInt_le, ← Int32.toInt_inj, Int32.toInt_add, Int32.toInt_sub, Int32.toInt_mul, Int32.toInt_neg, z_bm, z_bm2, J_ti, J_toInt, z_cn, Int32.reduceToInt]) <;> omega
  rw [hm]
  refine z_bind _ (z_for 0 60 (fun i u' => z_fr [] [39, 40, 41] u u' ∧ u'.2.1 39 = upd (u.2.1 39) q s ∧ u'.2.1 40 = upd (u.2.1 40) q n ∧ u'.2.1 41 = u.2.1 41 ∧ (∀ j, j < i → u'.2.2 41 (60 * q + j) = 0) ∧ ∀ j, (j < 60 * q ∨ 60 * q + 60 ≤ j) → u'.2.2 41 j = u.2.2 41 j) (K := fun _ u' => z_fr [] [39, 40, 41] u u' ∧ u'.2.1 39 = upd (u.2.1 39) q s ∧ u'.2.1 40 = upd (u.2.1 40) q n ∧ u'.2.1 41 = u.2.1 41 ∧ (∀ j, j < 60 → u'.2.2 41 (60 * q + j) = 0) ∧ ∀ j, (j < 60 * q ∨ 60 * q + 60 ≤ j) → u'.2.2 41 j = u.2.2 41 j) (by omega) (by omega) ⟨(z_wA rfl).tr (z_wA rfl), by simp [k_wA, eq], by simp [k_wA, eq], by simp [k_wA], fun w h => by omega, fun j _ => by simp [k_wA]⟩ (fun i u' _ hi hp => ?_) (fun u' hp => ?_)) (fun _ u' h => k_sat_mk (by rw [eq]; exact h))
  · obtain ⟨a1, a2, a3, a4, a5, a6⟩ := hp
    have hs : J (60 * q) + J i = J (60 * q + i) := J_add _ _
    unfold f_Shelves_hold_B41
    rw [hs]
    refine z_neg (by (try simp (disch := omega) only [Int32.lt_iff_toInt_lt, Int32.le_iff_toInt_le, ← Int32.toInt_inj, Int32.toInt_add, Int32.toInt_sub, Int32.toInt_mul, Int32.toInt_neg, z_bm, z_bm2, J_ti, J_toInt, z_cn, Int32.reduceToInt]) <;> omega) (z_neg (by (try simp (disch := omega) only [Int32.lt_iff_toInt_lt, Int32.le_iff_toInt_le, ← Int32.toInt_inj, Int32.toInt_add, Int32.toInt_sub, Int32.toInt_mul, Int32.toInt_neg, z_bm, z_bm2, J_ti, J_toInt, z_cn, Int32.reduceToInt]) <;> omega) (z_ck (by (try simp (disch := omega) only [Int32.lt_iff_toInt_lt, Int32.le_iff_toInt_le, ← Int32.toInt_inj, Int32.toInt_add, Int32.toInt_sub, Int32.toInt_mul, Int32.toInt_neg, z_bm, z_bm2, J_ti, J_toInt, z_cn, Int32.reduceToInt]) <;> omega) (by (try simp (disch := omega) only [Int32.lt_iff_toInt_lt, Int32.le_iff_toInt_le, ← Int32.toInt_inj, Int32.toInt_add, Int32.toInt_sub, Int32.toInt_mul, Int32.toInt_neg, z_bm, z_bm2, J_ti, J_toInt, z_cn, Int32.reduceToInt]) <;> omega) (z_let (k_sat_mk (Or.inl ⟨rfl, a1.tr (z_wL rfl), a2, a3, a4, fun j hj => ?_, fun j hj => ?_⟩)))))
    · simp only [k_wL, if_true, z_upL, J_toNat (show 60 * q + i < 2147483648 by omega)]
      by_cases e : j = i
      · subst e; simp
      · rw [if_neg (by omega)]; exact a5 j (by omega)
    · simp only [k_wL, if_true, z_upL, J_toNat (show 60 * q + i < 2147483648 by omega)]
      rw [if_neg (by omega)]; exact a6 j hj
  · unfold f_Shelves_hold_B41
    exact z_pos (by (try simp (disch := omega) only [Int32.lt_iff_toInt_lt, Int32.le_iff_toInt_le, ← Int32.toInt_inj, Int32.toInt_add, Int32.toInt_sub, Int32.toInt_mul, Int32.toInt_neg, z_bm, z_bm2, J_ti, J_toInt, z_cn, Int32.reduceToInt]) <;> omega) (k_sat_mk ⟨_, rfl, hp⟩)
theorem z_Rrow (p : Int32) (u : k_S) (h0 : 0 ≤ p.toInt) (h1 : p.toInt < 6) : k_sat (k_itr (fun (x : (Int32)) u => f_R_row_B54 p x u) k_FU (60 * p) u) (fun _ u' => z_fr [] [74] u u' ∧ u'.2.1 74 = u.2.1 74 ∧ (∀ j, j < 60 → u'.2.2 74 (60 * p.toNatClampNeg + j) = 0) ∧ ∀ j, (j < 60 * p.toNatClampNeg ∨ 60 * p.toNatClampNeg + 60 ≤ j) → u'.2.2 74 j = u.2.2 74 j) := by
  obtain ⟨q, rfl, hq, -⟩ := J_of h0
  rw [← hq] at h1
  rw [J_toNat (show q < 2147483648 by omega)]
  have hm : (60 : Int32) * J q = J (60 * q) := by
    apply Int32.toInt.inj
    (try simp (disch := omega) only [Int32.lt_iff_toInt_lt, Int32.le_iff_toInt_le, ← Int32.toInt_inj, Int32.toInt_add, Int32.toInt_sub, Int32.toInt_mul, Int32.toInt_neg, z_bm, z_bm2, J_ti, J_toInt, z_cn, Int32.reduceToInt]) <;> omega
  have hm2 : (60 : Int32) * J q + 60 = J (60 * q + 60) := by
    apply Int32.toInt.inj
    (try simp (disch := omega) only [Int32.lt_iff_toInt_lt, Int32.le_iff_toInt_le, ← Int32.toInt_inj, Int32.toInt_add, Int32.toInt_sub, Int32.toInt_mul, Int32.toInt_neg, z_bm, z_bm2, J_ti, J_toInt, z_cn, Int32.reduceToInt]) <;> omega
  rw [hm]
  refine z_for (60 * q) (60 * q + 60) (fun i u' => z_fr [] [74] u u' ∧ u'.2.1 74 = u.2.1 74 ∧ (∀ j, j < 60 → 60 * q + j < i → u'.2.2 74 (60 * q + j) = 0) ∧ ∀ j, (j < 60 * q ∨ 60 * q + 60 ≤ j) → u'.2.2 74 j = u.2.2 74 j) (by omega) (by omega) ⟨z_fr.rf, rfl, fun j h1 h2 => by omega, fun j _ => rfl⟩ (fun i u' hi0 hi hp => ?_) (fun u' hp => ?_)
  · obtain ⟨a1, a2, a3, a4⟩ := hp
    unfold f_R_row_B54
    rw [hm2]
    refine z_neg (by (try simp (disch := omega) only [Int32.lt_iff_toInt_lt, Int32.le_iff_toInt_le, ← Int32.toInt_inj, Int32.toInt_add, Int32.toInt_sub, Int32.toInt_mul, Int32.toInt_neg, z_bm, z_bm2, J_ti, J_toInt, z_cn, Int32.reduceToInt]) <;> omega) (z_ck (by (try simp (disch := omega) only [Int32.lt_iff_toInt_lt, Int32.le_iff_toInt_le, ← Int32.toInt_inj, Int32.toInt_add, Int32.toInt_sub, Int32.toInt_mul, Int32.toInt_neg, z_bm, z_bm2, J_ti, J_toInt, z_cn, Int32.reduceToInt]) <;> omega) (by (try simp (disch := omega) only [Int32.lt_iff_toInt_lt, Int32.le_iff_toInt_le, ← Int32.toInt_inj, Int32.toInt_add, Int32.toInt_sub, Int32.toInt_mul, Int32.toInt_neg, z_bm, z_bm2, J_ti, J_toInt, z_cn, Int32.reduceToInt]) <;> omega) (z_let (k_sat_mk (Or.inl ⟨rfl, a1.tr (z_wL rfl), a2, fun j hj hj2 => ?_, fun j hj => ?_⟩))))
    · simp only [k_wL, if_true, z_upL, J_toNat (show i < 2147483648 by omega)]
      by_cases e : 60 * q + j = i
      · rw [if_pos e]
      · rw [if_neg e]; exact a3 j hj (by omega)
    · simp only [k_wL, if_true, z_upL, J_toNat (show i < 2147483648 by omega)]
      rw [if_neg (by omega)]; exact a4 j hj
  · unfold f_R_row_B54
    rw [hm2]
    exact z_pos (by (try simp (disch := omega) only [Int32.lt_iff_toInt_lt, Int32.le_iff_toInt_le, ← Int32.toInt_inj, Int32.toInt_add, Int32.toInt_sub, Int32.toInt_mul, Int32.toInt_neg, z_bm, z_bm2, J_ti, J_toInt, z_cn, Int32.reduceToInt]) <;> omega) (k_sat_mk ⟨_, rfl, hp.1, hp.2.1, fun j hj => hp.2.2.1 j hj (by omega), hp.2.2.2⟩)
/-! READING METHODS, in their ranges -/
theorem z_Reader_stepAt {n : Nat} {u : k_S} (h : n < 128) : f_Reader_stepAt (J n) u = some (u.2.1 11 n, u) := by
  unfold f_Reader_stepAt
  rw [if_neg (by (try simp (disch := omega) only [Int32.lt_iff_toInt_lt, Int32.le_iff_toInt_le, ← Int32.toInt_inj, Int32.toInt_add, Int32.toInt_sub, Int32.toInt_mul, Int32.toInt_neg, z_bm, z_bm2, J_ti, J_toInt, z_cn, Int32.reduceToInt]) <;> omega), if_neg (by (try simp (disch := omega) only [Int32.lt_iff_toInt_lt, Int32.le_iff_toInt_le, ← Int32.toInt_inj, Int32.toInt_add, Int32.toInt_sub, Int32.toInt_mul, Int32.toInt_neg, z_bm, z_bm2, J_ti, J_toInt, z_cn, Int32.reduceToInt]) <;> omega), z_cko _ (by (try simp (disch := omega) only [Int32.lt_iff_toInt_lt, Int32.le_iff_toInt_le, ← Int32.toInt_inj, Int32.toInt_add, Int32.toInt_sub, Int32.toInt_mul, Int32.toInt_neg, z_bm, z_bm2, J_ti, J_toInt, z_cn, Int32.reduceToInt]) <;> omega) (by (try simp (disch := omega) only [Int32.lt_iff_toInt_lt, Int32.le_iff_toInt_le, ← Int32.toInt_inj, Int32.toInt_add, Int32.toInt_sub, Int32.toInt_mul, Int32.toInt_neg, z_bm, z_bm2, J_ti, J_toInt, z_cn, Int32.reduceToInt]) <;> omega), J_toNat (by omega)]
theorem z_Wheels_breakOf {n : Nat} {u : k_S} (h : n < 4) : f_Wheels_breakOf (J n) u = some (u.2.1 6 n, u) := by
  unfold f_Wheels_breakOf
  rw [if_neg (by (try simp (disch := omega) only [Int32.lt_iff_toInt_lt, Int32.le_iff_toInt_le, ← Int32.toInt_inj, Int32.toInt_add, Int32.toInt_sub, Int32.toInt_mul, Int32.toInt_neg, z_bm, z_bm2, J_ti, J_toInt, z_cn, Int32.reduceToInt]) <;> omega), if_neg (by (try simp (disch := omega) only [Int32.lt_iff_toInt_lt, Int32.le_iff_toInt_le, ← Int32.toInt_inj, Int32.toInt_add, Int32.toInt_sub, Int32.toInt_mul, Int32.toInt_neg, z_bm, z_bm2, J_ti, J_toInt, z_cn, Int32.reduceToInt]) <;> omega), z_cko _ (by (try simp (disch := omega) only [Int32.lt_iff_toInt_lt, Int32.le_iff_toInt_le, ← Int32.toInt_inj, Int32.toInt_add, Int32.toInt_sub, Int32.toInt_mul, Int32.toInt_neg, z_bm, z_bm2, J_ti, J_toInt, z_cn, Int32.reduceToInt]) <;> omega) (by (try simp (disch := omega) only [Int32.lt_iff_toInt_lt, Int32.le_iff_toInt_le, ← Int32.toInt_inj, Int32.toInt_add, Int32.toInt_sub, Int32.toInt_mul, Int32.toInt_neg, z_bm, z_bm2, J_ti, J_toInt, z_cn, Int32.reduceToInt]) <;> omega), J_toNat (by omega)]
theorem z_Changes_wheelAt {n : Nat} {u : k_S} (h : n < 40) : f_Changes_wheelAt (J n) u = some (u.2.1 31 n, u) := by
  unfold f_Changes_wheelAt
  rw [if_neg (by (try simp (disch := omega) only [Int32.lt_iff_toInt_lt, Int32.le_iff_toInt_le, ← Int32.toInt_inj, Int32.toInt_add, Int32.toInt_sub, Int32.toInt_mul, Int32.toInt_neg, z_bm, z_bm2, J_ti, J_toInt, z_cn, Int32.reduceToInt]) <;> omega), if_neg (by (try simp (disch := omega) only [Int32.lt_iff_toInt_lt, Int32.le_iff_toInt_le, ← Int32.toInt_inj, Int32.toInt_add, Int32.toInt_sub, Int32.toInt_mul, Int32.toInt_neg, z_bm, z_bm2, J_ti, J_toInt, z_cn, Int32.reduceToInt]) <;> omega), z_cko _ (by (try simp (disch := omega) only [Int32.lt_iff_toInt_lt, Int32.le_iff_toInt_le, ← Int32.toInt_inj, Int32.toInt_add, Int32.toInt_sub, Int32.toInt_mul, Int32.toInt_neg, z_bm, z_bm2, J_ti, J_toInt, z_cn, Int32.reduceToInt]) <;> omega) (by (try simp (disch := omega) only [Int32.lt_iff_toInt_lt, Int32.le_iff_toInt_le, ← Int32.toInt_inj, Int32.toInt_add, Int32.toInt_sub, Int32.toInt_mul, Int32.toInt_neg, z_bm, z_bm2, J_ti, J_toInt, z_cn, Int32.reduceToInt]) <;> omega), J_toNat (by omega)]
theorem z_Changes_placeAt {n : Nat} {u : k_S} (h : n < 40) : f_Changes_placeAt (J n) u = some (u.2.1 32 n, u) := by
  unfold f_Changes_placeAt
  rw [if_neg (by (try simp (disch := omega) only [Int32.lt_iff_toInt_lt, Int32.le_iff_toInt_le, ← Int32.toInt_inj, Int32.toInt_add, Int32.toInt_sub, Int32.toInt_mul, Int32.toInt_neg, z_bm, z_bm2, J_ti, J_toInt, z_cn, Int32.reduceToInt]) <;> omega), if_neg (by (try simp (disch := omega) only [Int32.lt_iff_toInt_lt, Int32.le_iff_toInt_le, ← Int32.toInt_inj, Int32.toInt_add, Int32.toInt_sub, Int32.toInt_mul, Int32.toInt_neg, z_bm, z_bm2, J_ti, J_toInt, z_cn, Int32.reduceToInt]) <;> omega), z_cko _ (by (try simp (disch := omega) only [Int32.lt_iff_toInt_lt, Int32.le_iff_toInt_le, ← Int32.toInt_inj, Int32.toInt_add, Int32.toInt_sub, Int32.toInt_mul, Int32.toInt_neg, z_bm, z_bm2, J_ti, J_toInt, z_cn, Int32.reduceToInt]) <;> omega) (by (try simp (disch := omega) only [Int32.lt_iff_toInt_lt, Int32.le_iff_toInt_le, ← Int32.toInt_inj, Int32.toInt_add, Int32.toInt_sub, Int32.toInt_mul, Int32.toInt_neg, z_bm, z_bm2, J_ti, J_toInt, z_cn, Int32.reduceToInt]) <;> omega), J_toNat (by omega)]
theorem z_Changes_beforeAt {n : Nat} {u : k_S} (h : n < 40) : f_Changes_beforeAt (J n) u = some (u.2.1 33 n, u) := by
  unfold f_Changes_beforeAt
  rw [if_neg (by (try simp (disch := omega) only [Int32.lt_iff_toInt_lt, Int32.le_iff_toInt_le, ← Int32.toInt_inj, Int32.toInt_add, Int32.toInt_sub, Int32.toInt_mul, Int32.toInt_neg, z_bm, z_bm2, J_ti, J_toInt, z_cn, Int32.reduceToInt]) <;> omega), if_neg (by (try simp (disch := omega) only [Int32.lt_iff_toInt_lt, Int32.le_iff_toInt_le, ← Int32.toInt_inj, Int32.toInt_add, Int32.toInt_sub, Int32.toInt_mul, Int32.toInt_neg, z_bm, z_bm2, J_ti, J_toInt, z_cn, Int32.reduceToInt]) <;> omega), z_cko _ (by (try simp (disch := omega) only [Int32.lt_iff_toInt_lt, Int32.le_iff_toInt_le, ← Int32.toInt_inj, Int32.toInt_add, Int32.toInt_sub, Int32.toInt_mul, Int32.toInt_neg, z_bm, z_bm2, J_ti, J_toInt, z_cn, Int32.reduceToInt]) <;> omega) (by (try simp (disch := omega) only [Int32.lt_iff_toInt_lt, Int32.le_iff_toInt_le, ← Int32.toInt_inj, Int32.toInt_add, Int32.toInt_sub, Int32.toInt_mul, Int32.toInt_neg, z_bm, z_bm2, J_ti, J_toInt, z_cn, Int32.reduceToInt]) <;> omega), J_toNat (by omega)]
theorem z_Changes_afterAt {n : Nat} {u : k_S} (h : n < 40) : f_Changes_afterAt (J n) u = some (u.2.1 34 n, u) := by
  unfold f_Changes_afterAt
  rw [if_neg (by (try simp (disch := omega) only [Int32.lt_iff_toInt_lt, Int32.le_iff_toInt_le, ← Int32.toInt_inj, Int32.toInt_add, Int32.toInt_sub, Int32.toInt_mul, Int32.toInt_neg, z_bm, z_bm2, J_ti, J_toInt, z_cn, Int32.reduceToInt]) <;> omega), if_neg (by (try simp (disch := omega) only [Int32.lt_iff_toInt_lt, Int32.le_iff_toInt_le, ← Int32.toInt_inj, Int32.toInt_add, Int32.toInt_sub, Int32.toInt_mul, Int32.toInt_neg, z_bm, z_bm2, J_ti, J_toInt, z_cn, Int32.reduceToInt]) <;> omega), z_cko _ (by (try simp (disch := omega) only [Int32.lt_iff_toInt_lt, Int32.le_iff_toInt_le, ← Int32.toInt_inj, Int32.toInt_add, Int32.toInt_sub, Int32.toInt_mul, Int32.toInt_neg, z_bm, z_bm2, J_ti, J_toInt, z_cn, Int32.reduceToInt]) <;> omega) (by (try simp (disch := omega) only [Int32.lt_iff_toInt_lt, Int32.le_iff_toInt_le, ← Int32.toInt_inj, Int32.toInt_add, Int32.toInt_sub, Int32.toInt_mul, Int32.toInt_neg, z_bm, z_bm2, J_ti, J_toInt, z_cn, Int32.reduceToInt]) <;> omega), J_toNat (by omega)]
theorem z_Wheels_sizeOf {n : Nat} {u : k_S} (h : n < 4) : f_Wheels_sizeOf (J n) u = some (u.2.1 5 n, u) := by
  unfold f_Wheels_sizeOf
  rw [if_neg (by (try simp (disch := omega) only [Int32.lt_iff_toInt_lt, Int32.le_iff_toInt_le, ← Int32.toInt_inj, Int32.toInt_add, Int32.toInt_sub, Int32.toInt_mul, Int32.toInt_neg, z_bm, z_bm2, J_ti, J_toInt, z_cn, Int32.reduceToInt]) <;> omega), if_neg (by (try simp (disch := omega) only [Int32.lt_iff_toInt_lt, Int32.le_iff_toInt_le, ← Int32.toInt_inj, Int32.toInt_add, Int32.toInt_sub, Int32.toInt_mul, Int32.toInt_neg, z_bm, z_bm2, J_ti, J_toInt, z_cn, Int32.reduceToInt]) <;> omega), z_cko _ (by (try simp (disch := omega) only [Int32.lt_iff_toInt_lt, Int32.le_iff_toInt_le, ← Int32.toInt_inj, Int32.toInt_add, Int32.toInt_sub, Int32.toInt_mul, Int32.toInt_neg, z_bm, z_bm2, J_ti, J_toInt, z_cn, Int32.reduceToInt]) <;> omega) (by (try simp (disch := omega) only [Int32.lt_iff_toInt_lt, Int32.le_iff_toInt_le, ← Int32.toInt_inj, Int32.toInt_add, Int32.toInt_sub, Int32.toInt_mul, Int32.toInt_neg, z_bm, z_bm2, J_ti, J_toInt, z_cn, Int32.reduceToInt]) <;> omega), J_toNat (by omega)]
theorem z_Now_placeOf {n : Nat} {u : k_S} (h : n < 4) : f_Now_placeOf (J n) u = some (u.2.1 15 n, u) := by
  unfold f_Now_placeOf
  rw [if_neg (by (try simp (disch := omega) only [Int32.lt_iff_toInt_lt, Int32.le_iff_toInt_le, ← Int32.toInt_inj, Int32.toInt_add, Int32.toInt_sub, Int32.toInt_mul, Int32.toInt_neg, z_bm, z_bm2, J_ti, J_toInt, z_cn, Int32.reduceToInt]) <;> omega), if_neg (by (try simp (disch := omega) only [Int32.lt_iff_toInt_lt, Int32.le_iff_toInt_le, ← Int32.toInt_inj, Int32.toInt_add, Int32.toInt_sub, Int32.toInt_mul, Int32.toInt_neg, z_bm, z_bm2, J_ti, J_toInt, z_cn, Int32.reduceToInt]) <;> omega), z_cko _ (by (try simp (disch := omega) only [Int32.lt_iff_toInt_lt, Int32.le_iff_toInt_le, ← Int32.toInt_inj, Int32.toInt_add, Int32.toInt_sub, Int32.toInt_mul, Int32.toInt_neg, z_bm, z_bm2, J_ti, J_toInt, z_cn, Int32.reduceToInt]) <;> omega) (by (try simp (disch := omega) only [Int32.lt_iff_toInt_lt, Int32.le_iff_toInt_le, ← Int32.toInt_inj, Int32.toInt_add, Int32.toInt_sub, Int32.toInt_mul, Int32.toInt_neg, z_bm, z_bm2, J_ti, J_toInt, z_cn, Int32.reduceToInt]) <;> omega), J_toNat (by omega)]
theorem z_Now_waitsOf {n : Nat} {u : k_S} (h : n < 4) : f_Now_waitsOf (J n) u = some (u.2.1 16 n, u) := by
  unfold f_Now_waitsOf
  rw [if_neg (by (try simp (disch := omega) only [Int32.lt_iff_toInt_lt, Int32.le_iff_toInt_le, ← Int32.toInt_inj, Int32.toInt_add, Int32.toInt_sub, Int32.toInt_mul, Int32.toInt_neg, z_bm, z_bm2, J_ti, J_toInt, z_cn, Int32.reduceToInt]) <;> omega), if_neg (by (try simp (disch := omega) only [Int32.lt_iff_toInt_lt, Int32.le_iff_toInt_le, ← Int32.toInt_inj, Int32.toInt_add, Int32.toInt_sub, Int32.toInt_mul, Int32.toInt_neg, z_bm, z_bm2, J_ti, J_toInt, z_cn, Int32.reduceToInt]) <;> omega), z_cko _ (by (try simp (disch := omega) only [Int32.lt_iff_toInt_lt, Int32.le_iff_toInt_le, ← Int32.toInt_inj, Int32.toInt_add, Int32.toInt_sub, Int32.toInt_mul, Int32.toInt_neg, z_bm, z_bm2, J_ti, J_toInt, z_cn, Int32.reduceToInt]) <;> omega) (by (try simp (disch := omega) only [Int32.lt_iff_toInt_lt, Int32.le_iff_toInt_le, ← Int32.toInt_inj, Int32.toInt_add, Int32.toInt_sub, Int32.toInt_mul, Int32.toInt_neg, z_bm, z_bm2, J_ti, J_toInt, z_cn, Int32.reduceToInt]) <;> omega), J_toNat (by omega)]
theorem z_Thought_placeOf {n : Nat} {u : k_S} (h : n < 4) : f_Thought_placeOf (J n) u = some (u.2.1 18 n, u) := by
  unfold f_Thought_placeOf
  rw [if_neg (by (try simp (disch := omega) only [Int32.lt_iff_toInt_lt, Int32.le_iff_toInt_le, ← Int32.toInt_inj, Int32.toInt_add, Int32.toInt_sub, Int32.toInt_mul, Int32.toInt_neg, z_bm, z_bm2, J_ti, J_toInt, z_cn, Int32.reduceToInt]) <;> omega), if_neg (by (try simp (disch := omega) only [Int32.lt_iff_toInt_lt, Int32.le_iff_toInt_le, ← Int32.toInt_inj, Int32.toInt_add, Int32.toInt_sub, Int32.toInt_mul, Int32.toInt_neg, z_bm, z_bm2, J_ti, J_toInt, z_cn, Int32.reduceToInt]) <;> omega), z_cko _ (by (try simp (disch := omega) only [Int32.lt_iff_toInt_lt, Int32.le_iff_toInt_le, ← Int32.toInt_inj, Int32.toInt_add, Int32.toInt_sub, Int32.toInt_mul, Int32.toInt_neg, z_bm, z_bm2, J_ti, J_toInt, z_cn, Int32.reduceToInt]) <;> omega) (by (try simp (disch := omega) only [Int32.lt_iff_toInt_lt, Int32.le_iff_toInt_le, ← Int32.toInt_inj, Int32.toInt_add, Int32.toInt_sub, Int32.toInt_mul, Int32.toInt_neg, z_bm, z_bm2, J_ti, J_toInt, z_cn, Int32.reduceToInt]) <;> omega), J_toNat (by omega)]
theorem z_Thought_waitsOf {n : Nat} {u : k_S} (h : n < 4) : f_Thought_waitsOf (J n) u = some (u.2.1 19 n, u) := by
  unfold f_Thought_waitsOf
  rw [if_neg (by (try simp (disch := omega) only [Int32.lt_iff_toInt_lt, Int32.le_iff_toInt_le, ← Int32.toInt_inj, Int32.toInt_add, Int32.toInt_sub, Int32.toInt_mul, Int32.toInt_neg, z_bm, z_bm2, J_ti, J_toInt, z_cn, Int32.reduceToInt]) <;> omega), if_neg (by (try simp (disch := omega) only [Int32.lt_iff_toInt_lt, Int32.le_iff_toInt_le, ← Int32.toInt_inj, Int32.toInt_add, Int32.toInt_sub, Int32.toInt_mul, Int32.toInt_neg, z_bm, z_bm2, J_ti, J_toInt, z_cn, Int32.reduceToInt]) <;> omega), z_cko _ (by (try simp (disch := omega) only [Int32.lt_iff_toInt_lt, Int32.le_iff_toInt_le, ← Int32.toInt_inj, Int32.toInt_add, Int32.toInt_sub, Int32.toInt_mul, Int32.toInt_neg, z_bm, z_bm2, J_ti, J_toInt, z_cn, Int32.reduceToInt]) <;> omega) (by (try simp (disch := omega) only [Int32.lt_iff_toInt_lt, Int32.le_iff_toInt_le, ← Int32.toInt_inj, Int32.toInt_add, Int32.toInt_sub, Int32.toInt_mul, Int32.toInt_neg, z_bm, z_bm2, J_ti, J_toInt, z_cn, Int32.reduceToInt]) <;> omega), J_toNat (by omega)]
theorem z_Records_nightOf {n : Nat} {u : k_S} (h : n < 40) : f_Records_nightOf (J n) u = some (u.2.1 21 n, u) := by
  unfold f_Records_nightOf
  rw [if_neg (by (try simp (disch := omega) only [Int32.lt_iff_toInt_lt, Int32.le_iff_toInt_le, ← Int32.toInt_inj, Int32.toInt_add, Int32.toInt_sub, Int32.toInt_mul, Int32.toInt_neg, z_bm, z_bm2, J_ti, J_toInt, z_cn, Int32.reduceToInt]) <;> omega), if_neg (by (try simp (disch := omega) only [Int32.lt_iff_toInt_lt, Int32.le_iff_toInt_le, ← Int32.toInt_inj, Int32.toInt_add, Int32.toInt_sub, Int32.toInt_mul, Int32.toInt_neg, z_bm, z_bm2, J_ti, J_toInt, z_cn, Int32.reduceToInt]) <;> omega), z_cko _ (by (try simp (disch := omega) only [Int32.lt_iff_toInt_lt, Int32.le_iff_toInt_le, ← Int32.toInt_inj, Int32.toInt_add, Int32.toInt_sub, Int32.toInt_mul, Int32.toInt_neg, z_bm, z_bm2, J_ti, J_toInt, z_cn, Int32.reduceToInt]) <;> omega) (by (try simp (disch := omega) only [Int32.lt_iff_toInt_lt, Int32.le_iff_toInt_le, ← Int32.toInt_inj, Int32.toInt_add, Int32.toInt_sub, Int32.toInt_mul, Int32.toInt_neg, z_bm, z_bm2, J_ti, J_toInt, z_cn, Int32.reduceToInt]) <;> omega), J_toNat (by omega)]
theorem z_Shelves_sizeOf {n : Nat} {u : k_S} (h : n < 6) : f_Shelves_sizeOf (J n) u = some (u.2.1 40 n, u) := by
  unfold f_Shelves_sizeOf
  rw [if_neg (by (try simp (disch := omega) only [Int32.lt_iff_toInt_lt, Int32.le_iff_toInt_le, ← Int32.toInt_inj, Int32.toInt_add, Int32.toInt_sub, Int32.toInt_mul, Int32.toInt_neg, z_bm, z_bm2, J_ti, J_toInt, z_cn, Int32.reduceToInt]) <;> omega), if_neg (by (try simp (disch := omega) only [Int32.lt_iff_toInt_lt, Int32.le_iff_toInt_le, ← Int32.toInt_inj, Int32.toInt_add, Int32.toInt_sub, Int32.toInt_mul, Int32.toInt_neg, z_bm, z_bm2, J_ti, J_toInt, z_cn, Int32.reduceToInt]) <;> omega), z_cko _ (by (try simp (disch := omega) only [Int32.lt_iff_toInt_lt, Int32.le_iff_toInt_le, ← Int32.toInt_inj, Int32.toInt_add, Int32.toInt_sub, Int32.toInt_mul, Int32.toInt_neg, z_bm, z_bm2, J_ti, J_toInt, z_cn, Int32.reduceToInt]) <;> omega) (by (try simp (disch := omega) only [Int32.lt_iff_toInt_lt, Int32.le_iff_toInt_le, ← Int32.toInt_inj, Int32.toInt_add, Int32.toInt_sub, Int32.toInt_mul, Int32.toInt_neg, z_bm, z_bm2, J_ti, J_toInt, z_cn, Int32.reduceToInt]) <;> omega), J_toNat (by omega)]
theorem z_Records_inOrder {n : Nat} {u : k_S} (h : n < 40) : f_Records_inOrder (J n) u = some (u.2.1 23 n, u) := by
  unfold f_Records_inOrder
  rw [if_neg (by (try simp (disch := omega) only [Int32.lt_iff_toInt_lt, Int32.le_iff_toInt_le, ← Int32.toInt_inj, Int32.toInt_add, Int32.toInt_sub, Int32.toInt_mul, Int32.toInt_neg, z_bm, z_bm2, J_ti, J_toInt, z_cn, Int32.reduceToInt]) <;> omega), if_neg (by (try simp (disch := omega) only [Int32.lt_iff_toInt_lt, Int32.le_iff_toInt_le, ← Int32.toInt_inj, Int32.toInt_add, Int32.toInt_sub, Int32.toInt_mul, Int32.toInt_neg, z_bm, z_bm2, J_ti, J_toInt, z_cn, Int32.reduceToInt]) <;> omega), z_cko _ (by (try simp (disch := omega) only [Int32.lt_iff_toInt_lt, Int32.le_iff_toInt_le, ← Int32.toInt_inj, Int32.toInt_add, Int32.toInt_sub, Int32.toInt_mul, Int32.toInt_neg, z_bm, z_bm2, J_ti, J_toInt, z_cn, Int32.reduceToInt]) <;> omega) (by (try simp (disch := omega) only [Int32.lt_iff_toInt_lt, Int32.le_iff_toInt_le, ← Int32.toInt_inj, Int32.toInt_add, Int32.toInt_sub, Int32.toInt_mul, Int32.toInt_neg, z_bm, z_bm2, J_ti, J_toInt, z_cn, Int32.reduceToInt]) <;> omega), J_toNat (by omega)]
theorem z_Records_placeOf {n : Nat} {u : k_S} (h : n < 40) : f_Records_placeOf (J n) u = some (u.2.1 22 n, u) := by
  unfold f_Records_placeOf
  rw [if_neg (by (try simp (disch := omega) only [Int32.lt_iff_toInt_lt, Int32.le_iff_toInt_le, ← Int32.toInt_inj, Int32.toInt_add, Int32.toInt_sub, Int32.toInt_mul, Int32.toInt_neg, z_bm, z_bm2, J_ti, J_toInt, z_cn, Int32.reduceToInt]) <;> omega), if_neg (by (try simp (disch := omega) only [Int32.lt_iff_toInt_lt, Int32.le_iff_toInt_le, ← Int32.toInt_inj, Int32.toInt_add, Int32.toInt_sub, Int32.toInt_mul, Int32.toInt_neg, z_bm, z_bm2, J_ti, J_toInt, z_cn, Int32.reduceToInt]) <;> omega), z_cko _ (by (try simp (disch := omega) only [Int32.lt_iff_toInt_lt, Int32.le_iff_toInt_le, ← Int32.toInt_inj, Int32.toInt_add, Int32.toInt_sub, Int32.toInt_mul, Int32.toInt_neg, z_bm, z_bm2, J_ti, J_toInt, z_cn, Int32.reduceToInt]) <;> omega) (by (try simp (disch := omega) only [Int32.lt_iff_toInt_lt, Int32.le_iff_toInt_le, ← Int32.toInt_inj, Int32.toInt_add, Int32.toInt_sub, Int32.toInt_mul, Int32.toInt_neg, z_bm, z_bm2, J_ti, J_toInt, z_cn, Int32.reduceToInt]) <;> omega), J_toNat (by omega)]
theorem z_Picture_placeOf {n : Nat} {u : k_S} (h : n < 4) : f_Picture_placeOf (J n) u = some (u.2.1 28 n, u) := by
  unfold f_Picture_placeOf
  rw [if_neg (by (try simp (disch := omega) only [Int32.lt_iff_toInt_lt, Int32.le_iff_toInt_le, ← Int32.toInt_inj, Int32.toInt_add, Int32.toInt_sub, Int32.toInt_mul, Int32.toInt_neg, z_bm, z_bm2, J_ti, J_toInt, z_cn, Int32.reduceToInt]) <;> omega), if_neg (by (try simp (disch := omega) only [Int32.lt_iff_toInt_lt, Int32.le_iff_toInt_le, ← Int32.toInt_inj, Int32.toInt_add, Int32.toInt_sub, Int32.toInt_mul, Int32.toInt_neg, z_bm, z_bm2, J_ti, J_toInt, z_cn, Int32.reduceToInt]) <;> omega), z_cko _ (by (try simp (disch := omega) only [Int32.lt_iff_toInt_lt, Int32.le_iff_toInt_le, ← Int32.toInt_inj, Int32.toInt_add, Int32.toInt_sub, Int32.toInt_mul, Int32.toInt_neg, z_bm, z_bm2, J_ti, J_toInt, z_cn, Int32.reduceToInt]) <;> omega) (by (try simp (disch := omega) only [Int32.lt_iff_toInt_lt, Int32.le_iff_toInt_le, ← Int32.toInt_inj, Int32.toInt_add, Int32.toInt_sub, Int32.toInt_mul, Int32.toInt_neg, z_bm, z_bm2, J_ti, J_toInt, z_cn, Int32.reduceToInt]) <;> omega), J_toNat (by omega)]
theorem z_Picture_waitsOf {n : Nat} {u : k_S} (h : n < 4) : f_Picture_waitsOf (J n) u = some (u.2.1 29 n, u) := by
  unfold f_Picture_waitsOf
  rw [if_neg (by (try simp (disch := omega) only [Int32.lt_iff_toInt_lt, Int32.le_iff_toInt_le, ← Int32.toInt_inj, Int32.toInt_add, Int32.toInt_sub, Int32.toInt_mul, Int32.toInt_neg, z_bm, z_bm2, J_ti, J_toInt, z_cn, Int32.reduceToInt]) <;> omega), if_neg (by (try simp (disch := omega) only [Int32.lt_iff_toInt_lt, Int32.le_iff_toInt_le, ← Int32.toInt_inj, Int32.toInt_add, Int32.toInt_sub, Int32.toInt_mul, Int32.toInt_neg, z_bm, z_bm2, J_ti, J_toInt, z_cn, Int32.reduceToInt]) <;> omega), z_cko _ (by (try simp (disch := omega) only [Int32.lt_iff_toInt_lt, Int32.le_iff_toInt_le, ← Int32.toInt_inj, Int32.toInt_add, Int32.toInt_sub, Int32.toInt_mul, Int32.toInt_neg, z_bm, z_bm2, J_ti, J_toInt, z_cn, Int32.reduceToInt]) <;> omega) (by (try simp (disch := omega) only [Int32.lt_iff_toInt_lt, Int32.le_iff_toInt_le, ← Int32.toInt_inj, Int32.toInt_add, Int32.toInt_sub, Int32.toInt_mul, Int32.toInt_neg, z_bm, z_bm2, J_ti, J_toInt, z_cn, Int32.reduceToInt]) <;> omega), J_toNat (by omega)]
theorem z_Bodies_kindOf {n : Nat} {u : k_S} (h : n < 50) : f_Bodies_kindOf (J n) u = some (u.2.1 36 n, u) := by
  unfold f_Bodies_kindOf
  rw [if_neg (by (try simp (disch := omega) only [Int32.lt_iff_toInt_lt, Int32.le_iff_toInt_le, ← Int32.toInt_inj, Int32.toInt_add, Int32.toInt_sub, Int32.toInt_mul, Int32.toInt_neg, z_bm, z_bm2, J_ti, J_toInt, z_cn, Int32.reduceToInt]) <;> omega), if_neg (by (try simp (disch := omega) only [Int32.lt_iff_toInt_lt, Int32.le_iff_toInt_le, ← Int32.toInt_inj, Int32.toInt_add, Int32.toInt_sub, Int32.toInt_mul, Int32.toInt_neg, z_bm, z_bm2, J_ti, J_toInt, z_cn, Int32.reduceToInt]) <;> omega), z_cko _ (by (try simp (disch := omega) only [Int32.lt_iff_toInt_lt, Int32.le_iff_toInt_le, ← Int32.toInt_inj, Int32.toInt_add, Int32.toInt_sub, Int32.toInt_mul, Int32.toInt_neg, z_bm, z_bm2, J_ti, J_toInt, z_cn, Int32.reduceToInt]) <;> omega) (by (try simp (disch := omega) only [Int32.lt_iff_toInt_lt, Int32.le_iff_toInt_le, ← Int32.toInt_inj, Int32.toInt_add, Int32.toInt_sub, Int32.toInt_mul, Int32.toInt_neg, z_bm, z_bm2, J_ti, J_toInt, z_cn, Int32.reduceToInt]) <;> omega), J_toNat (by omega)]
theorem z_Bodies_tracedAt {n : Nat} {u : k_S} (h : n < 24) : f_Bodies_tracedAt (J n) u = some (u.2.1 37 n, u) := by
  unfold f_Bodies_tracedAt
  rw [if_neg (by (try simp (disch := omega) only [Int32.lt_iff_toInt_lt, Int32.le_iff_toInt_le, ← Int32.toInt_inj, Int32.toInt_add, Int32.toInt_sub, Int32.toInt_mul, Int32.toInt_neg, z_bm, z_bm2, J_ti, J_toInt, z_cn, Int32.reduceToInt]) <;> omega), if_neg (by (try simp (disch := omega) only [Int32.lt_iff_toInt_lt, Int32.le_iff_toInt_le, ← Int32.toInt_inj, Int32.toInt_add, Int32.toInt_sub, Int32.toInt_mul, Int32.toInt_neg, z_bm, z_bm2, J_ti, J_toInt, z_cn, Int32.reduceToInt]) <;> omega), z_cko _ (by (try simp (disch := omega) only [Int32.lt_iff_toInt_lt, Int32.le_iff_toInt_le, ← Int32.toInt_inj, Int32.toInt_add, Int32.toInt_sub, Int32.toInt_mul, Int32.toInt_neg, z_bm, z_bm2, J_ti, J_toInt, z_cn, Int32.reduceToInt]) <;> omega) (by (try simp (disch := omega) only [Int32.lt_iff_toInt_lt, Int32.le_iff_toInt_le, ← Int32.toInt_inj, Int32.toInt_add, Int32.toInt_sub, Int32.toInt_mul, Int32.toInt_neg, z_bm, z_bm2, J_ti, J_toInt, z_cn, Int32.reduceToInt]) <;> omega), J_toNat (by omega)]
theorem z_Now_stand {n : Nat} {x y : Int32} {u : k_S} (h : n < 4) : f_Now_stand (J n) x y u = some ((), k_wA (k_wA u 15 n x) 16 n y) := by
  unfold f_Now_stand
  rw [if_neg (by (try simp (disch := omega) only [Int32.lt_iff_toInt_lt, Int32.le_iff_toInt_le, ← Int32.toInt_inj, Int32.toInt_add, Int32.toInt_sub, Int32.toInt_mul, Int32.toInt_neg, z_bm, z_bm2, J_ti, J_toInt, z_cn, Int32.reduceToInt]) <;> omega), if_neg (by (try simp (disch := omega) only [Int32.lt_iff_toInt_lt, Int32.le_iff_toInt_le, ← Int32.toInt_inj, Int32.toInt_add, Int32.toInt_sub, Int32.toInt_mul, Int32.toInt_neg, z_bm, z_bm2, J_ti, J_toInt, z_cn, Int32.reduceToInt]) <;> omega), if_pos (by (try simp (disch := omega) only [Int32.lt_iff_toInt_lt, Int32.le_iff_toInt_le, ← Int32.toInt_inj, Int32.toInt_add, Int32.toInt_sub, Int32.toInt_mul, Int32.toInt_neg, z_bm, z_bm2, J_ti, J_toInt, z_cn, Int32.reduceToInt]) <;> omega), z_cko _ (by (try simp (disch := omega) only [Int32.lt_iff_toInt_lt, Int32.le_iff_toInt_le, ← Int32.toInt_inj, Int32.toInt_add, Int32.toInt_sub, Int32.toInt_mul, Int32.toInt_neg, z_bm, z_bm2, J_ti, J_toInt, z_cn, Int32.reduceToInt]) <;> omega) (by (try simp (disch := omega) only [Int32.lt_iff_toInt_lt, Int32.le_iff_toInt_le, ← Int32.toInt_inj, Int32.toInt_add, Int32.toInt_sub, Int32.toInt_mul, Int32.toInt_neg, z_bm, z_bm2, J_ti, J_toInt, z_cn, Int32.reduceToInt]) <;> omega)]
  simp only [k_let]
  rw [z_cko _ (by (try simp (disch := omega) only [Int32.lt_iff_toInt_lt, Int32.le_iff_toInt_le, ← Int32.toInt_inj, Int32.toInt_add, Int32.toInt_sub, Int32.toInt_mul, Int32.toInt_neg, z_bm, z_bm2, J_ti, J_toInt, z_cn, Int32.reduceToInt]) <;> omega) (by (try simp (disch := omega) only [Int32.lt_iff_toInt_lt, Int32.le_iff_toInt_le, ← Int32.toInt_inj, Int32.toInt_add, Int32.toInt_sub, Int32.toInt_mul, Int32.toInt_neg, z_bm, z_bm2, J_ti, J_toInt, z_cn, Int32.reduceToInt]) <;> omega), J_toNat (by omega)]
theorem z_Thought_stand {n : Nat} {x y : Int32} {u : k_S} (h : n < 4) : f_Thought_stand (J n) x y u = some ((), k_wA (k_wA u 18 n x) 19 n y) := by
  unfold f_Thought_stand
  rw [if_neg (by (try simp (disch := omega) only [Int32.lt_iff_toInt_lt, Int32.le_iff_toInt_le, ← Int32.toInt_inj, Int32.toInt_add, Int32.toInt_sub, Int32.toInt_mul, Int32.toInt_neg, z_bm, z_bm2, J_ti, J_toInt, z_cn, Int32.reduceToInt]) <;> omega), if_neg (by (try simp (disch := omega) only [Int32.lt_iff_toInt_lt, Int32.le_iff_toInt_le, ← Int32.toInt_inj, Int32.toInt_add, Int32.toInt_sub, Int32.toInt_mul, Int32.toInt_neg, z_bm, z_bm2, J_ti, J_toInt, z_cn, Int32.reduceToInt]) <;> omega), if_pos (by (try simp (disch := omega) only [Int32.lt_iff_toInt_lt, Int32.le_iff_toInt_le, ← Int32.toInt_inj, Int32.toInt_add, Int32.toInt_sub, Int32.toInt_mul, Int32.toInt_neg, z_bm, z_bm2, J_ti, J_toInt, z_cn, Int32.reduceToInt]) <;> omega), z_cko _ (by (try simp (disch := omega) only [Int32.lt_iff_toInt_lt, Int32.le_iff_toInt_le, ← Int32.toInt_inj, Int32.toInt_add, Int32.toInt_sub, Int32.toInt_mul, Int32.toInt_neg, z_bm, z_bm2, J_ti, J_toInt, z_cn, Int32.reduceToInt]) <;> omega) (by (try simp (disch := omega) only [Int32.lt_iff_toInt_lt, Int32.le_iff_toInt_le, ← Int32.toInt_inj, Int32.toInt_add, Int32.toInt_sub, Int32.toInt_mul, Int32.toInt_neg, z_bm, z_bm2, J_ti, J_toInt, z_cn, Int32.reduceToInt]) <;> omega)]
  simp only [k_let]
  rw [z_cko _ (by (try simp (disch := omega) only [Int32.lt_iff_toInt_lt, Int32.le_iff_toInt_le, ← Int32.toInt_inj, Int32.toInt_add, Int32.toInt_sub, Int32.toInt_mul, Int32.toInt_neg, z_bm, z_bm2, J_ti, J_toInt, z_cn, Int32.reduceToInt]) <;> omega) (by (try simp (disch := omega) only [Int32.lt_iff_toInt_lt, Int32.le_iff_toInt_le, ← Int32.toInt_inj, Int32.toInt_add, Int32.toInt_sub, Int32.toInt_mul, Int32.toInt_neg, z_bm, z_bm2, J_ti, J_toInt, z_cn, Int32.reduceToInt]) <;> omega), J_toNat (by omega)]
theorem z_Picture_stand {n : Nat} {x y : Int32} {u : k_S} (h : n < 4) : f_Picture_stand (J n) x y u = some ((), k_wA (k_wA u 28 n x) 29 n y) := by
  unfold f_Picture_stand
  rw [if_neg (by (try simp (disch := omega) only [Int32.lt_iff_toInt_lt, Int32.le_iff_toInt_le, ← Int32.toInt_inj, Int32.toInt_add, Int32.toInt_sub, Int32.toInt_mul, Int32.toInt_neg, z_bm, z_bm2, J_ti, J_toInt, z_cn, Int32.reduceToInt]) <;> omega), if_neg (by (try simp (disch := omega) only [Int32.lt_iff_toInt_lt, Int32.le_iff_toInt_le, ← Int32.toInt_inj, Int32.toInt_add, Int32.toInt_sub, Int32.toInt_mul, Int32.toInt_neg, z_bm, z_bm2, J_ti, J_toInt, z_cn, Int32.reduceToInt]) <;> omega), if_pos (by (try simp (disch := omega) only [Int32.lt_iff_toInt_lt, Int32.le_iff_toInt_le, ← Int32.toInt_inj, Int32.toInt_add, Int32.toInt_sub, Int32.toInt_mul, Int32.toInt_neg, z_bm, z_bm2, J_ti, J_toInt, z_cn, Int32.reduceToInt]) <;> omega), z_cko _ (by (try simp (disch := omega) only [Int32.lt_iff_toInt_lt, Int32.le_iff_toInt_le, ← Int32.toInt_inj, Int32.toInt_add, Int32.toInt_sub, Int32.toInt_mul, Int32.toInt_neg, z_bm, z_bm2, J_ti, J_toInt, z_cn, Int32.reduceToInt]) <;> omega) (by (try simp (disch := omega) only [Int32.lt_iff_toInt_lt, Int32.le_iff_toInt_le, ← Int32.toInt_inj, Int32.toInt_add, Int32.toInt_sub, Int32.toInt_mul, Int32.toInt_neg, z_bm, z_bm2, J_ti, J_toInt, z_cn, Int32.reduceToInt]) <;> omega)]
  simp only [k_let]
  rw [z_cko _ (by (try simp (disch := omega) only [Int32.lt_iff_toInt_lt, Int32.le_iff_toInt_le, ← Int32.toInt_inj, Int32.toInt_add, Int32.toInt_sub, Int32.toInt_mul, Int32.toInt_neg, z_bm, z_bm2, J_ti, J_toInt, z_cn, Int32.reduceToInt]) <;> omega) (by (try simp (disch := omega) only [Int32.lt_iff_toInt_lt, Int32.le_iff_toInt_le, ← Int32.toInt_inj, Int32.toInt_add, Int32.toInt_sub, Int32.toInt_mul, Int32.toInt_neg, z_bm, z_bm2, J_ti, J_toInt, z_cn, Int32.reduceToInt]) <;> omega), J_toNat (by omega)]
theorem J_40 (w p : Nat) : (40 : Int32) * J w + J p = J (40 * w + p) := by
  rw [show (40 : Int32) = J 40 from rfl, J_mul, J_add]
theorem z_letterAt {w p : Nat} {u : k_S} (h : w < 4) (h2 : p < 40) : f_Wheels_letterAt (J w) (J p) u = some (u.2.1 4 (40 * w + p), u) := by
  unfold f_Wheels_letterAt
  simp only [k_let]
  rw [J_40, if_neg (by (try simp (disch := omega) only [Int32.lt_iff_toInt_lt, Int32.le_iff_toInt_le, ← Int32.toInt_inj, Int32.toInt_add, Int32.toInt_sub, Int32.toInt_mul, Int32.toInt_neg, z_bm, z_bm2, J_ti, J_toInt, z_cn, Int32.reduceToInt]) <;> omega), if_neg (by (try simp (disch := omega) only [Int32.lt_iff_toInt_lt, Int32.le_iff_toInt_le, ← Int32.toInt_inj, Int32.toInt_add, Int32.toInt_sub, Int32.toInt_mul, Int32.toInt_neg, z_bm, z_bm2, J_ti, J_toInt, z_cn, Int32.reduceToInt]) <;> omega), z_cko _ (by (try simp (disch := omega) only [Int32.lt_iff_toInt_lt, Int32.le_iff_toInt_le, ← Int32.toInt_inj, Int32.toInt_add, Int32.toInt_sub, Int32.toInt_mul, Int32.toInt_neg, z_bm, z_bm2, J_ti, J_toInt, z_cn, Int32.reduceToInt]) <;> omega) (by (try simp (disch := omega) only [Int32.lt_iff_toInt_lt, Int32.le_iff_toInt_le, ← Int32.toInt_inj, Int32.toInt_add, Int32.toInt_sub, Int32.toInt_mul, Int32.toInt_neg, z_bm, z_bm2, J_ti, J_toInt, z_cn, Int32.reduceToInt]) <;> omega), J_toNat (by omega)]
theorem z_setLetter {w p : Nat} {x : Int32} {u : k_S} (h : w < 4) (h2 : p < 40) : f_Wheels_setLetter (J w) (J p) x u = some ((), k_wA u 4 (40 * w + p) x) := by
  unfold f_Wheels_setLetter
  simp only [k_let]
  rw [J_40, if_neg (by (try simp (disch := omega) only [Int32.lt_iff_toInt_lt, Int32.le_iff_toInt_le, ← Int32.toInt_inj, Int32.toInt_add, Int32.toInt_sub, Int32.toInt_mul, Int32.toInt_neg, z_bm, z_bm2, J_ti, J_toInt, z_cn, Int32.reduceToInt]) <;> omega), if_neg (by (try simp (disch := omega) only [Int32.lt_iff_toInt_lt, Int32.le_iff_toInt_le, ← Int32.toInt_inj, Int32.toInt_add, Int32.toInt_sub, Int32.toInt_mul, Int32.toInt_neg, z_bm, z_bm2, J_ti, J_toInt, z_cn, Int32.reduceToInt]) <;> omega), z_cko _ (by (try simp (disch := omega) only [Int32.lt_iff_toInt_lt, Int32.le_iff_toInt_le, ← Int32.toInt_inj, Int32.toInt_add, Int32.toInt_sub, Int32.toInt_mul, Int32.toInt_neg, z_bm, z_bm2, J_ti, J_toInt, z_cn, Int32.reduceToInt]) <;> omega) (by (try simp (disch := omega) only [Int32.lt_iff_toInt_lt, Int32.le_iff_toInt_le, ← Int32.toInt_inj, Int32.toInt_add, Int32.toInt_sub, Int32.toInt_mul, Int32.toInt_neg, z_bm, z_bm2, J_ti, J_toInt, z_cn, Int32.reduceToInt]) <;> omega), J_toNat (by omega)]
theorem z_setBreak {w : Nat} {x : Int32} {u : k_S} (h : w < 4) : f_Wheels_setBreak (J w) x u = some ((), k_wA u 6 w x) := by
  unfold f_Wheels_setBreak
  simp only [k_let]
  rw [if_neg (by (try simp (disch := omega) only [Int32.lt_iff_toInt_lt, Int32.le_iff_toInt_le, ← Int32.toInt_inj, Int32.toInt_add, Int32.toInt_sub, Int32.toInt_mul, Int32.toInt_neg, z_bm, z_bm2, J_ti, J_toInt, z_cn, Int32.reduceToInt]) <;> omega), if_neg (by (try simp (disch := omega) only [Int32.lt_iff_toInt_lt, Int32.le_iff_toInt_le, ← Int32.toInt_inj, Int32.toInt_add, Int32.toInt_sub, Int32.toInt_mul, Int32.toInt_neg, z_bm, z_bm2, J_ti, J_toInt, z_cn, Int32.reduceToInt]) <;> omega), z_cko _ (by (try simp (disch := omega) only [Int32.lt_iff_toInt_lt, Int32.le_iff_toInt_le, ← Int32.toInt_inj, Int32.toInt_add, Int32.toInt_sub, Int32.toInt_mul, Int32.toInt_neg, z_bm, z_bm2, J_ti, J_toInt, z_cn, Int32.reduceToInt]) <;> omega) (by (try simp (disch := omega) only [Int32.lt_iff_toInt_lt, Int32.le_iff_toInt_le, ← Int32.toInt_inj, Int32.toInt_add, Int32.toInt_sub, Int32.toInt_mul, Int32.toInt_neg, z_bm, z_bm2, J_ti, J_toInt, z_cn, Int32.reduceToInt]) <;> omega), J_toNat (by omega)]
/-- an argument is a number below n, or it isn't -/
theorem J_or (a : Int32) (n : Nat) : (∃ w : Nat, w < n ∧ a = J w) ∨ a.toInt < 0 ∨ (n : Int) ≤ a.toInt := by
  by_cases h : 0 ≤ a.toInt ∧ a.toInt < n
  · obtain ⟨w, h1, h2, h3⟩ := J_of h.1
    exact Or.inl ⟨w, by omega, h1⟩
  · exact Or.inr (by omega)
theorem z_Whas {w n : Nat} {u : k_S} (e : u.1 303 = J n) (hn : n ≤ 4) (h : w < n) : f_Wheels_has (J w) u = some (1, u) := by
  unfold f_Wheels_has
  rw [e, if_neg (by (try simp (disch := omega) only [Int32.lt_iff_toInt_lt, Int32.le_iff_toInt_le, ← Int32.toInt_inj, Int32.toInt_add, Int32.toInt_sub, Int32.toInt_mul, Int32.toInt_neg, z_bm, z_bm2, J_ti, J_toInt, z_cn, Int32.reduceToInt]) <;> omega), if_neg (by (try simp (disch := omega) only [Int32.lt_iff_toInt_lt, Int32.le_iff_toInt_le, ← Int32.toInt_inj, Int32.toInt_add, Int32.toInt_sub, Int32.toInt_mul, Int32.toInt_neg, z_bm, z_bm2, J_ti, J_toInt, z_cn, Int32.reduceToInt]) <;> omega), if_neg (by (try simp (disch := omega) only [Int32.lt_iff_toInt_lt, Int32.le_iff_toInt_le, ← Int32.toInt_inj, Int32.toInt_add, Int32.toInt_sub, Int32.toInt_mul, Int32.toInt_neg, z_bm, z_bm2, J_ti, J_toInt, z_cn, Int32.reduceToInt]) <;> omega)]
theorem z_Whas0 {a : Int32} {n : Nat} {u : k_S} (e : u.1 303 = J n) (hn : n ≤ 4) (h : a.toInt < 0 ∨ (n : Int) ≤ a.toInt) : f_Wheels_has a u = some (0, u) := by
  unfold f_Wheels_has
  rw [e]
  by_cases h1 : a < 0
  · rw [if_pos h1]
  · rw [if_neg h1, if_pos (by ((try simp (disch := omega) only [Int32.lt_iff_toInt_lt, Int32.le_iff_toInt_le, ← Int32.toInt_inj, Int32.toInt_add, Int32.toInt_sub, Int32.toInt_mul, Int32.toInt_neg, z_bm, z_bm2, J_ti, J_toInt, z_cn, Int32.reduceToInt] at *); omega))]
theorem z_WhasP {w n p s : Nat} {u : k_S} (e : u.1 303 = J n) (hn : n ≤ 4) (h : w < n) (es : u.2.1 5 w = J s) (hs : s ≤ 40) (hp : p < s) : f_Wheels_hasPlace (J w) (J p) u = some (1, u) := by
  unfold f_Wheels_hasPlace
  rw [z_Whas e hn h, z_bind_some, if_neg (by decide), if_neg (by (try simp (disch := omega) only [Int32.lt_iff_toInt_lt, Int32.le_iff_toInt_le, ← Int32.toInt_inj, Int32.toInt_add, Int32.toInt_sub, Int32.toInt_mul, Int32.toInt_neg, z_bm, z_bm2, J_ti, J_toInt, z_cn, Int32.reduceToInt]) <;> omega), z_cko _ (by (try simp (disch := omega) only [Int32.lt_iff_toInt_lt, Int32.le_iff_toInt_le, ← Int32.toInt_inj, Int32.toInt_add, Int32.toInt_sub, Int32.toInt_mul, Int32.toInt_neg, z_bm, z_bm2, J_ti, J_toInt, z_cn, Int32.reduceToInt]) <;> omega) (by (try simp (disch := omega) only [Int32.lt_iff_toInt_lt, Int32.le_iff_toInt_le, ← Int32.toInt_inj, Int32.toInt_add, Int32.toInt_sub, Int32.toInt_mul, Int32.toInt_neg, z_bm, z_bm2, J_ti, J_toInt, z_cn, Int32.reduceToInt]) <;> omega), J_toNat (by omega), es, if_neg (by (try simp (disch := omega) only [Int32.lt_iff_toInt_lt, Int32.le_iff_toInt_le, ← Int32.toInt_inj, Int32.toInt_add, Int32.toInt_sub, Int32.toInt_mul, Int32.toInt_neg, z_bm, z_bm2, J_ti, J_toInt, z_cn, Int32.reduceToInt]) <;> omega)]
theorem z_WhasP0 {w n s : Nat} {b : Int32} {u : k_S} (e : u.1 303 = J n) (hn : n ≤ 4) (h : w < n) (es : u.2.1 5 w = J s) (hs : s ≤ 40) (hp : b.toInt < 0 ∨ (s : Int) ≤ b.toInt) : f_Wheels_hasPlace (J w) b u = some (0, u) := by
  unfold f_Wheels_hasPlace
  rw [z_Whas e hn h, z_bind_some, if_neg (by decide)]
  by_cases h1 : b < 0
  · rw [if_pos h1]
  · rw [if_neg h1, z_cko _ (by (try simp (disch := omega) only [Int32.lt_iff_toInt_lt, Int32.le_iff_toInt_le, ← Int32.toInt_inj, Int32.toInt_add, Int32.toInt_sub, Int32.toInt_mul, Int32.toInt_neg, z_bm, z_bm2, J_ti, J_toInt, z_cn, Int32.reduceToInt]) <;> omega) (by (try simp (disch := omega) only [Int32.lt_iff_toInt_lt, Int32.le_iff_toInt_le, ← Int32.toInt_inj, Int32.toInt_add, Int32.toInt_sub, Int32.toInt_mul, Int32.toInt_neg, z_bm, z_bm2, J_ti, J_toInt, z_cn, Int32.reduceToInt]) <;> omega), J_toNat (by omega), es, if_pos (by ((try simp (disch := omega) only [Int32.lt_iff_toInt_lt, Int32.le_iff_toInt_le, ← Int32.toInt_inj, Int32.toInt_add, Int32.toInt_sub, Int32.toInt_mul, Int32.toInt_neg, z_bm, z_bm2, J_ti, J_toInt, z_cn, Int32.reduceToInt] at *); omega))]
theorem z_WhasP00 {n : Nat} {a b : Int32} {u : k_S} (e : u.1 303 = J n) (hn : n ≤ 4) (h : a.toInt < 0 ∨ (n : Int) ≤ a.toInt) : f_Wheels_hasPlace a b u = some (0, u) := by
  unfold f_Wheels_hasPlace
  rw [z_Whas0 e hn h, z_bind_some, if_pos rfl]
theorem J_m1 {n : Nat} (h : n < 2147483648) : (J n - 1).toInt = n - 1 := by (try simp (disch := omega) only [Int32.lt_iff_toInt_lt, Int32.le_iff_toInt_le, ← Int32.toInt_inj, Int32.toInt_add, Int32.toInt_sub, Int32.toInt_mul, Int32.toInt_neg, z_bm, z_bm2, J_ti, J_toInt, z_cn, Int32.reduceToInt]) <;> omega
theorem z_RisWheel {w n : Nat} {u : k_S} (e : u.1 4203 = J n) (hn : n ≤ 4) (h : w < n) : f_R_isWheel (J w) u = some (1, u) := by
  unfold f_R_isWheel
  rw [e, z_Rin1 (by (try simp (disch := omega) only [Int32.lt_iff_toInt_lt, Int32.le_iff_toInt_le, ← Int32.toInt_inj, Int32.toInt_add, Int32.toInt_sub, Int32.toInt_mul, Int32.toInt_neg, z_bm, z_bm2, J_ti, J_toInt, z_cn, Int32.reduceToInt]) <;> omega) (by rw [J_m1 (by omega)]; (try simp (disch := omega) only [Int32.lt_iff_toInt_lt, Int32.le_iff_toInt_le, ← Int32.toInt_inj, Int32.toInt_add, Int32.toInt_sub, Int32.toInt_mul, Int32.toInt_neg, z_bm, z_bm2, J_ti, J_toInt, z_cn, Int32.reduceToInt]) <;> omega), z_bind_some]
  unfold k_zb
  rw [if_pos (by decide)]
theorem z_RisWheel0 {a : Int32} {n : Nat} {u : k_S} (e : u.1 4203 = J n) (hn : n ≤ 4) (h : a.toInt < 0 ∨ (n : Int) ≤ a.toInt) : f_R_isWheel a u = some (0, u) := by
  unfold f_R_isWheel
  rw [e, z_Rin0 (by rw [J_m1 (by omega)]; ((try simp (disch := omega) only [Int32.lt_iff_toInt_lt, Int32.le_iff_toInt_le, ← Int32.toInt_inj, Int32.toInt_add, Int32.toInt_sub, Int32.toInt_mul, Int32.toInt_neg, z_bm, z_bm2, J_ti, J_toInt, z_cn, Int32.reduceToInt] at *); omega)), z_bind_some]
  unfold k_zb
  rw [if_pos (by decide)]
