/-! THE INVARIANT between class and reference (both in one state) -/
/-- what is kept of a long in a row of a sort -/
def z_low (k : Nat) (x : Int64) : Int64 := if k = 0 then ((((x).toInt32).toInt8.toInt32).toInt64) else if k = 1 then ((((x).toInt32).toInt16.toInt32).toInt64) else if k = 2 then (((x).toInt32).toInt64) else if k = 3 then x else if lg_cmp x 0 = 0 then 0 else 1
/-- the class's frost: a code of that length computes c (by seed, night, place, wheel) -/
def zCW (len : Int32) (code : Nat → Int32) (c : Int32 → Int32 → Int32 → Nat → Bool) : Prop := ∀ u : k_S, u.1 703 = len → u.2.1 8 = code → ∀ (t p : Int32) (w : Nat), w < 4 → k_sat (f_Law_valueAt t p (J w) u) (fun r v => z_fr [704] [9] u v ∧ (c (u.1 705) t p w = true ↔ ¬ r = 0))
/-- the reference's frost, by what it has kept -/
def zCR (has : Int32) (act wi many te le : Nat → Int32) (c : Int32 → Int32 → Int32 → Nat → Bool) : Prop := ∀ u : k_S, u.1 4223 = has → (∀ i, i < 130 → u.2.1 49 i = act i ∧ u.2.1 50 i = wi i) → u.2.1 51 0 = many 0 → (∀ i, i < 61 → u.2.1 52 i = te i ∧ u.2.1 53 i = le i) → ∀ w : Nat, w < 4 → k_sat (f_R_isCold (J w) u) (fun r v => z_fr [] [54, 55] u v ∧ r = if c (u.1 4211) (u.1 4209) (u.2.1 46 w) w = true then 1 else 0)
def zT (u : k_S) : Prop := ∃ n : Nat, n ≤ 120 ∧ u.1 101 = J n ∧ u.1 4202 = J n ∧ ∀ i, i < n → ∃ b : Nat, b ≤ 255 ∧ u.2.1 2 i = J b ∧ u.2.1 43 i = (J b).toInt8.toInt32
theorem zT_f {F A : List Nat} {u v : k_S} (h : z_fr F A u v) (hd : F.elem 101 = false ∧ F.elem 4202 = false ∧ A.elem 2 = false ∧ A.elem 43 = false) (hp : zT u) : zT v := by
  obtain ⟨f101, f4202, a2, a43⟩ := hd
  unfold zT at *
  simp only [h.1 _ f101, h.1 _ f4202, h.2.1 _ a2, h.2.1 _ a43]
  exact hp
def zN (u : k_S) : Prop := ∃ n : Nat, n ≤ 4 ∧ u.1 303 = J n ∧ u.1 4203 = J n ∧ (∀ w, w < n → ∃ s : Nat, 2 ≤ s ∧ s ≤ 40 ∧ u.2.1 5 w = J s ∧ u.2.1 45 w = J s ∧ u.2.1 48 w = u.2.1 6 w ∧ ∀ p, p < s → u.2.1 44 (40 * w + p) = u.2.1 4 (40 * w + p)) ∧ ∀ w, n ≤ w → w < 4 → u.2.1 6 w = 0
theorem zN_f {F A : List Nat} {u v : k_S} (h : z_fr F A u v) (hd : F.elem 303 = false ∧ F.elem 4203 = false ∧ A.elem 4 = false ∧ A.elem 5 = false ∧ A.elem 6 = false ∧ A.elem 44 = false ∧ A.elem 45 = false ∧ A.elem 48 = false) (hp : zN u) : zN v := by
  obtain ⟨f303, f4203, a4, a5, a6, a44, a45, a48⟩ := hd
  unfold zN at *
  simp only [h.1 _ f303, h.1 _ f4203, h.2.1 _ a4, h.2.1 _ a5, h.2.1 _ a6, h.2.1 _ a44, h.2.1 _ a45, h.2.1 _ a48]
  exact hp
def zM (u : k_S) : Prop := (∃ t : Nat, t ≤ 1000000 ∧ u.1 1402 = J t ∧ u.1 4209 = J t) ∧ (∀ w : Nat, (w : Int) < (u.1 303).toInt → (∃ p : Nat, (p : Int) < (u.2.1 5 w).toInt ∧ u.2.1 15 w = J p ∧ u.2.1 46 w = J p) ∧ u.2.1 47 w = u.2.1 16 w) ∧ ∀ w : Nat, (u.1 303).toInt ≤ w → w < 4 → u.2.1 15 w = 0 ∧ u.2.1 16 w = 0
theorem zM_f {F A : List Nat} {u v : k_S} (h : z_fr F A u v) (hd : F.elem 303 = false ∧ F.elem 1402 = false ∧ F.elem 4209 = false ∧ A.elem 5 = false ∧ A.elem 15 = false ∧ A.elem 16 = false ∧ A.elem 46 = false ∧ A.elem 47 = false) (hp : zM u) : zM v := by
  obtain ⟨f303, f1402, f4209, a5, a15, a16, a46, a47⟩ := hd
  unfold zM at *
  simp only [h.1 _ f303, h.1 _ f1402, h.1 _ f4209, h.2.1 _ a5, h.2.1 _ a15, h.2.1 _ a16, h.2.1 _ a46, h.2.1 _ a47]
  exact hp
def zS (u : k_S) : Prop := (∃ k : Nat, 1 ≤ k ∧ k ≤ 9 ∧ u.1 1205 = J k ∧ u.1 4210 = J k) ∧ u.1 4211 = u.1 705
theorem zS_f {F A : List Nat} {u v : k_S} (h : z_fr F A u v) (hd : F.elem 1205 = false ∧ F.elem 4210 = false ∧ F.elem 705 = false ∧ F.elem 4211 = false) (hp : zS u) : zS v := by
  obtain ⟨f1205, f4210, f705, f4211⟩ := hd
  unfold zS at *
  simp only [h.1 _ f1205, h.1 _ f4210, h.1 _ f705, h.1 _ f4211]
  exact hp
def zL (u : k_S) : Prop := ∃ c : Int32 → Int32 → Int32 → Nat → Bool, zCW (u.1 703) (u.2.1 8) c ∧ zCR (u.1 4223) (u.2.1 49) (u.2.1 50) (u.2.1 51) (u.2.1 52) (u.2.1 53) c
theorem zL_f {F A : List Nat} {u v : k_S} (h : z_fr F A u v) (hd : F.elem 703 = false ∧ F.elem 4223 = false ∧ A.elem 8 = false ∧ A.elem 49 = false ∧ A.elem 50 = false ∧ A.elem 51 = false ∧ A.elem 52 = false ∧ A.elem 53 = false) (hp : zL u) : zL v := by
  obtain ⟨f703, f4223, a8, a49, a50, a51, a52, a53⟩ := hd
  unfold zL at *
  simp only [h.1 _ f703, h.1 _ f4223, h.2.1 _ a8, h.2.1 _ a49, h.2.1 _ a50, h.2.1 _ a51, h.2.1 _ a52, h.2.1 _ a53]
  exact hp
def zR (u : k_S) : Prop := ∃ n : Nat, n ≤ 40 ∧ u.1 2003 = J n ∧ u.1 4235 = J n ∧ (∀ i, i < n → ∃ a b : Nat, a ≤ 5000 ∧ b < 40 ∧ u.2.1 21 i = J a ∧ u.2.1 64 i = J a ∧ u.2.1 22 i = J b ∧ u.2.1 65 i = J b) ∧ ∃ f : Nat → Nat, (∀ i, i < n → f i < n ∧ u.2.1 23 i = J (f i)) ∧ (∀ r, r < n → ∃ i, i < n ∧ f i = r) ∧ ∀ i j, i < j → j < n → (u.2.1 21 (f i)).toInt ≤ (u.2.1 21 (f j)).toInt
theorem zR_f {F A : List Nat} {u v : k_S} (h : z_fr F A u v) (hd : F.elem 2003 = false ∧ F.elem 4235 = false ∧ A.elem 21 = false ∧ A.elem 22 = false ∧ A.elem 23 = false ∧ A.elem 64 = false ∧ A.elem 65 = false) (hp : zR u) : zR v := by
  obtain ⟨f2003, f4235, a21, a22, a23, a64, a65⟩ := hd
  unfold zR at *
  simp only [h.1 _ f2003, h.1 _ f4235, h.2.1 _ a21, h.2.1 _ a22, h.2.1 _ a23, h.2.1 _ a64, h.2.1 _ a65]
  exact hp
def zP (u : k_S) : Prop := (u.1 10 = -1 ∧ u.1 4240 = 0) ∨ (u.1 4240 = 1 ∧ ∃ k t : Nat, (k : Int) ≤ (u.1 303).toInt ∧ t ≤ 1000000 ∧ u.1 10 = J k ∧ u.1 4241 = J k ∧ u.1 2702 = J t ∧ u.1 4242 = J t ∧ ∀ w, w < k → (∃ p : Nat, (p : Int) < (u.2.1 5 w).toInt ∧ u.2.1 28 w = J p ∧ u.2.1 68 w = J p) ∧ u.2.1 69 w = u.2.1 29 w)
theorem zP_f {F A : List Nat} {u v : k_S} (h : z_fr F A u v) (hd : F.elem 10 = false ∧ F.elem 2702 = false ∧ F.elem 4240 = false ∧ F.elem 4241 = false ∧ F.elem 4242 = false ∧ F.elem 303 = false ∧ A.elem 28 = false ∧ A.elem 29 = false ∧ A.elem 68 = false ∧ A.elem 69 = false ∧ A.elem 5 = false) (hp : zP u) : zP v := by
  obtain ⟨f10, f2702, f4240, f4241, f4242, f303, a28, a29, a68, a69, a5⟩ := hd
  unfold zP at *
  simp only [h.1 _ f10, h.1 _ f2702, h.1 _ f4240, h.1 _ f4241, h.1 _ f4242, h.1 _ f303, h.2.1 _ a28, h.2.1 _ a29, h.2.1 _ a68, h.2.1 _ a69, h.2.1 _ a5]
  exact hp
def zC (u : k_S) : Prop := ∃ d k : Nat, d ≤ k ∧ k ≤ 40 ∧ u.1 3004 = J d ∧ u.1 3005 = J k ∧ u.1 4224 = J d ∧ u.1 4225 = J (k - d) ∧ ∀ i, i < k → u.2.1 58 i = u.2.1 33 i ∧ u.2.1 59 i = u.2.1 34 i ∧ ∃ w : Nat, (w : Int) < (u.1 303).toInt ∧ u.2.1 31 i = J w ∧ ((u.2.1 32 i = -1 ∧ u.2.1 56 i = 1 ∧ u.2.1 57 i = J w) ∨ ∃ p : Nat, (p : Int) < (u.2.1 5 w).toInt ∧ u.2.1 32 i = J p ∧ u.2.1 56 i = 0 ∧ u.2.1 57 i = J (40 * w + p))
theorem zC_f {F A : List Nat} {u v : k_S} (h : z_fr F A u v) (hd : F.elem 3004 = false ∧ F.elem 3005 = false ∧ F.elem 4224 = false ∧ F.elem 4225 = false ∧ F.elem 303 = false ∧ A.elem 31 = false ∧ A.elem 32 = false ∧ A.elem 33 = false ∧ A.elem 34 = false ∧ A.elem 56 = false ∧ A.elem 57 = false ∧ A.elem 58 = false ∧ A.elem 59 = false ∧ A.elem 5 = false) (hp : zC u) : zC v := by
  obtain ⟨f3004, f3005, f4224, f4225, f303, a31, a32, a33, a34, a56, a57, a58, a59, a5⟩ := hd
  unfold zC at *
  simp only [h.1 _ f3004, h.1 _ f3005, h.1 _ f4224, h.1 _ f4225, h.1 _ f303, h.2.1 _ a31, h.2.1 _ a32, h.2.1 _ a33, h.2.1 _ a34, h.2.1 _ a56, h.2.1 _ a57, h.2.1 _ a58, h.2.1 _ a59, h.2.1 _ a5]
  exact hp
def zB (u : k_S) : Prop := (∃ n : Nat, n ≤ 50 ∧ u.1 3502 = J n ∧ u.1 4245 = J n ∧ ∀ i, i < n → ∃ k : Nat, k < 8 ∧ u.2.1 36 i = J k ∧ u.2.1 70 i = J k) ∧ ∃ m : Nat, m ≤ 1000 ∧ u.1 3503 = J m ∧ u.1 4247 = J m ∧ ∀ i, i < m → i < 24 → u.2.1 71 i = u.2.1 37 i
theorem zB_f {F A : List Nat} {u v : k_S} (h : z_fr F A u v) (hd : F.elem 3502 = false ∧ F.elem 3503 = false ∧ F.elem 4245 = false ∧ F.elem 4247 = false ∧ A.elem 36 = false ∧ A.elem 37 = false ∧ A.elem 70 = false ∧ A.elem 71 = false) (hp : zB u) : zB v := by
  obtain ⟨f3502, f3503, f4245, f4247, a36, a37, a70, a71⟩ := hd
  unfold zB at *
  simp only [h.1 _ f3502, h.1 _ f3503, h.1 _ f4245, h.1 _ f4247, h.2.1 _ a36, h.2.1 _ a37, h.2.1 _ a70, h.2.1 _ a71]
  exact hp
def zH (u : k_S) : Prop := ∀ s, s < 6 → (u.2.1 39 s = -1 ∧ u.2.1 72 s = -1) ∨ (u.2.1 39 s = 5 ∧ ∃ b : Nat, (b : Int) < (u.1 3502).toInt ∧ u.2.1 72 s = J b ∧ u.2.1 40 s = J b) ∨ ∃ k z : Nat, k ≤ 4 ∧ z ≤ 60 ∧ u.2.1 39 s = J k ∧ u.2.1 72 s = -2 - J k ∧ u.2.1 40 s = J z ∧ u.2.1 73 s = J z ∧ ∀ j, j < 60 → u.2.2 74 (60 * s + j) = u.2.2 41 (60 * s + j) ∧ z_low k (u.2.2 41 (60 * s + j)) = u.2.2 41 (60 * s + j)
theorem zH_f {F A : List Nat} {u v : k_S} (h : z_fr F A u v) (hd : F.elem 3502 = false ∧ A.elem 39 = false ∧ A.elem 40 = false ∧ A.elem 72 = false ∧ A.elem 73 = false ∧ A.elem 41 = false ∧ A.elem 74 = false) (hp : zH u) : zH v := by
  obtain ⟨f3502, a39, a40, a72, a73, a41, a74⟩ := hd
  unfold zH at *
  simp only [h.1 _ f3502, h.2.1 _ a39, h.2.1 _ a40, h.2.1 _ a72, h.2.1 _ a73, h.2.1 _ a41, h.2.1 _ a74, h.2.2 _ (z_el0 a41), h.2.2 _ (z_el0 a74)]
  exact hp
def zK (u : k_S) : Prop := (u.2.1 63 0 = 119 ∧ u.2.1 63 1 = 115 ∧ u.2.1 63 2 = 49) ∧ u.2.1 66 0 = 119 ∧ u.2.1 66 1 = 115 ∧ u.2.1 66 2 = 102 ∧ u.2.1 66 3 = 49
theorem zK_f {F A : List Nat} {u v : k_S} (h : z_fr F A u v) (hd : A.elem 63 = false ∧ A.elem 66 = false) (hp : zK u) : zK v := by
  obtain ⟨a63, a66⟩ := hd
  unfold zK at *
  simp only [h.2.1 _ a63, h.2.1 _ a66]
  exact hp
def zI (u : k_S) : Prop := zT u ∧ zN u ∧ zM u ∧ zS u ∧ zL u ∧ zR u ∧ zP u ∧ zC u ∧ zB u ∧ zH u ∧ zK u
theorem zI_T {u v : k_S} (h : zI u) (hf : z_fr [101, 4202, 1702, 1206, 704, 1002, 1003, 2405, 2406, 2407, 3504, 4212, 4213, 4214, 4215, 4230] [2, 43, 9, 11, 13, 18, 19, 25, 26, 54, 55, 60, 61, 62, 67, 75] u v) (hzT : zT v) : zI v := ⟨hzT, zN_f hf (by decide) h.2.1, zM_f hf (by decide) h.2.2.1, zS_f hf (by decide) h.2.2.2.1, zL_f hf (by decide) h.2.2.2.2.1, zR_f hf (by decide) h.2.2.2.2.2.1, zP_f hf (by decide) h.2.2.2.2.2.2.1, zC_f hf (by decide) h.2.2.2.2.2.2.2.1, zB_f hf (by decide) h.2.2.2.2.2.2.2.2.1, zH_f hf (by decide) h.2.2.2.2.2.2.2.2.2.1, zK_f hf (by decide) h.2.2.2.2.2.2.2.2.2.2⟩
theorem zI_N {u v : k_S} (h : zI u) (hf : z_fr [1702, 1206, 704, 1002, 1003, 2405, 2406, 2407, 3504, 4212, 4213, 4214, 4215, 4230] [4, 6, 44, 48, 9, 11, 13, 18, 19, 25, 26, 54, 55, 60, 61, 62, 67, 75] u v) (hzN : zN v) : zI v := ⟨zT_f hf (by decide) h.1, hzN, zM_f hf (by decide) h.2.2.1, zS_f hf (by decide) h.2.2.2.1, zL_f hf (by decide) h.2.2.2.2.1, zR_f hf (by decide) h.2.2.2.2.2.1, zP_f hf (by decide) h.2.2.2.2.2.2.1, zC_f hf (by decide) h.2.2.2.2.2.2.2.1, zB_f hf (by decide) h.2.2.2.2.2.2.2.2.1, zH_f hf (by decide) h.2.2.2.2.2.2.2.2.2.1, zK_f hf (by decide) h.2.2.2.2.2.2.2.2.2.2⟩
theorem zI_M {u v : k_S} (h : zI u) (hf : z_fr [1402, 4209, 1702, 1206, 704, 1002, 1003, 2405, 2406, 2407, 3504, 4212, 4213, 4214, 4215, 4230] [15, 16, 46, 47, 9, 11, 13, 18, 19, 25, 26, 54, 55, 60, 61, 62, 67, 75] u v) (hzM : zM v) : zI v := ⟨zT_f hf (by decide) h.1, zN_f hf (by decide) h.2.1, hzM, zS_f hf (by decide) h.2.2.2.1, zL_f hf (by decide) h.2.2.2.2.1, zR_f hf (by decide) h.2.2.2.2.2.1, zP_f hf (by decide) h.2.2.2.2.2.2.1, zC_f hf (by decide) h.2.2.2.2.2.2.2.1, zB_f hf (by decide) h.2.2.2.2.2.2.2.2.1, zH_f hf (by decide) h.2.2.2.2.2.2.2.2.2.1, zK_f hf (by decide) h.2.2.2.2.2.2.2.2.2.2⟩
theorem zI_S {u v : k_S} (h : zI u) (hf : z_fr [1205, 4210, 705, 4211, 1702, 1206, 704, 1002, 1003, 2405, 2406, 2407, 3504, 4212, 4213, 4214, 4215, 4230] [9, 11, 13, 18, 19, 25, 26, 54, 55, 60, 61, 62, 67, 75] u v) (hzS : zS v) : zI v := ⟨zT_f hf (by decide) h.1, zN_f hf (by decide) h.2.1, zM_f hf (by decide) h.2.2.1, hzS, zL_f hf (by decide) h.2.2.2.2.1, zR_f hf (by decide) h.2.2.2.2.2.1, zP_f hf (by decide) h.2.2.2.2.2.2.1, zC_f hf (by decide) h.2.2.2.2.2.2.2.1, zB_f hf (by decide) h.2.2.2.2.2.2.2.2.1, zH_f hf (by decide) h.2.2.2.2.2.2.2.2.2.1, zK_f hf (by decide) h.2.2.2.2.2.2.2.2.2.2⟩
theorem zI_L {u v : k_S} (h : zI u) (hf : z_fr [703, 4223, 1702, 1206, 704, 1002, 1003, 2405, 2406, 2407, 3504, 4212, 4213, 4214, 4215, 4230] [8, 49, 50, 51, 52, 53, 9, 11, 13, 18, 19, 25, 26, 54, 55, 60, 61, 62, 67, 75] u v) (hzL : zL v) : zI v := ⟨zT_f hf (by decide) h.1, zN_f hf (by decide) h.2.1, zM_f hf (by decide) h.2.2.1, zS_f hf (by decide) h.2.2.2.1, hzL, zR_f hf (by decide) h.2.2.2.2.2.1, zP_f hf (by decide) h.2.2.2.2.2.2.1, zC_f hf (by decide) h.2.2.2.2.2.2.2.1, zB_f hf (by decide) h.2.2.2.2.2.2.2.2.1, zH_f hf (by decide) h.2.2.2.2.2.2.2.2.2.1, zK_f hf (by decide) h.2.2.2.2.2.2.2.2.2.2⟩
theorem zI_R {u v : k_S} (h : zI u) (hf : z_fr [2003, 4235, 1702, 1206, 704, 1002, 1003, 2405, 2406, 2407, 3504, 4212, 4213, 4214, 4215, 4230] [21, 22, 23, 64, 65, 9, 11, 13, 18, 19, 25, 26, 54, 55, 60, 61, 62, 67, 75] u v) (hzR : zR v) : zI v := ⟨zT_f hf (by decide) h.1, zN_f hf (by decide) h.2.1, zM_f hf (by decide) h.2.2.1, zS_f hf (by decide) h.2.2.2.1, zL_f hf (by decide) h.2.2.2.2.1, hzR, zP_f hf (by decide) h.2.2.2.2.2.2.1, zC_f hf (by decide) h.2.2.2.2.2.2.2.1, zB_f hf (by decide) h.2.2.2.2.2.2.2.2.1, zH_f hf (by decide) h.2.2.2.2.2.2.2.2.2.1, zK_f hf (by decide) h.2.2.2.2.2.2.2.2.2.2⟩
theorem zI_P {u v : k_S} (h : zI u) (hf : z_fr [10, 2702, 4240, 4241, 4242, 1702, 1206, 704, 1002, 1003, 2405, 2406, 2407, 3504, 4212, 4213, 4214, 4215, 4230] [28, 29, 68, 69, 9, 11, 13, 18, 19, 25, 26, 54, 55, 60, 61, 62, 67, 75] u v) (hzP : zP v) : zI v := ⟨zT_f hf (by decide) h.1, zN_f hf (by decide) h.2.1, zM_f hf (by decide) h.2.2.1, zS_f hf (by decide) h.2.2.2.1, zL_f hf (by decide) h.2.2.2.2.1, zR_f hf (by decide) h.2.2.2.2.2.1, hzP, zC_f hf (by decide) h.2.2.2.2.2.2.2.1, zB_f hf (by decide) h.2.2.2.2.2.2.2.2.1, zH_f hf (by decide) h.2.2.2.2.2.2.2.2.2.1, zK_f hf (by decide) h.2.2.2.2.2.2.2.2.2.2⟩
theorem zI_C {u v : k_S} (h : zI u) (hf : z_fr [3004, 3005, 4224, 4225, 1702, 1206, 704, 1002, 1003, 2405, 2406, 2407, 3504, 4212, 4213, 4214, 4215, 4230] [31, 32, 33, 34, 56, 57, 58, 59, 9, 11, 13, 18, 19, 25, 26, 54, 55, 60, 61, 62, 67, 75] u v) (hzC : zC v) : zI v := ⟨zT_f hf (by decide) h.1, zN_f hf (by decide) h.2.1, zM_f hf (by decide) h.2.2.1, zS_f hf (by decide) h.2.2.2.1, zL_f hf (by decide) h.2.2.2.2.1, zR_f hf (by decide) h.2.2.2.2.2.1, zP_f hf (by decide) h.2.2.2.2.2.2.1, hzC, zB_f hf (by decide) h.2.2.2.2.2.2.2.2.1, zH_f hf (by decide) h.2.2.2.2.2.2.2.2.2.1, zK_f hf (by decide) h.2.2.2.2.2.2.2.2.2.2⟩
theorem zI_H {u v : k_S} (h : zI u) (hf : z_fr [1702, 1206, 704, 1002, 1003, 2405, 2406, 2407, 3504, 4212, 4213, 4214, 4215, 4230] [39, 40, 72, 73, 41, 74, 9, 11, 13, 18, 19, 25, 26, 54, 55, 60, 61, 62, 67, 75] u v) (hzH : zH v) : zI v := ⟨zT_f hf (by decide) h.1, zN_f hf (by decide) h.2.1, zM_f hf (by decide) h.2.2.1, zS_f hf (by decide) h.2.2.2.1, zL_f hf (by decide) h.2.2.2.2.1, zR_f hf (by decide) h.2.2.2.2.2.1, zP_f hf (by decide) h.2.2.2.2.2.2.1, zC_f hf (by decide) h.2.2.2.2.2.2.2.1, zB_f hf (by decide) h.2.2.2.2.2.2.2.2.1, hzH, zK_f hf (by decide) h.2.2.2.2.2.2.2.2.2.2⟩
theorem zI_NC {u v : k_S} (h : zI u) (hf : z_fr [3004, 3005, 4224, 4225, 1702, 1206, 704, 1002, 1003, 2405, 2406, 2407, 3504, 4212, 4213, 4214, 4215, 4230] [31, 32, 33, 34, 56, 57, 58, 59, 4, 6, 44, 48, 9, 11, 13, 18, 19, 25, 26, 54, 55, 60, 61, 62, 67, 75] u v) (hzN : zN v) (hzC : zC v) : zI v := ⟨zT_f hf (by decide) h.1, hzN, zM_f hf (by decide) h.2.2.1, zS_f hf (by decide) h.2.2.2.1, zL_f hf (by decide) h.2.2.2.2.1, zR_f hf (by decide) h.2.2.2.2.2.1, zP_f hf (by decide) h.2.2.2.2.2.2.1, hzC, zB_f hf (by decide) h.2.2.2.2.2.2.2.2.1, zH_f hf (by decide) h.2.2.2.2.2.2.2.2.2.1, zK_f hf (by decide) h.2.2.2.2.2.2.2.2.2.2⟩
theorem zI_B {u v : k_S} (h : zI u) (hf : z_fr [3503, 4247, 1702, 1206, 704, 1002, 1003, 2405, 2406, 2407, 3504, 4212, 4213, 4214, 4215, 4230] [37, 71, 9, 11, 13, 18, 19, 25, 26, 54, 55, 60, 61, 62, 67, 75] u v) (hzB : zB v) : zI v := ⟨zT_f hf (by decide) h.1, zN_f hf (by decide) h.2.1, zM_f hf (by decide) h.2.2.1, zS_f hf (by decide) h.2.2.2.1, zL_f hf (by decide) h.2.2.2.2.1, zR_f hf (by decide) h.2.2.2.2.2.1, zP_f hf (by decide) h.2.2.2.2.2.2.1, zC_f hf (by decide) h.2.2.2.2.2.2.2.1, hzB, zH_f hf (by decide) h.2.2.2.2.2.2.2.2.2.1, zK_f hf (by decide) h.2.2.2.2.2.2.2.2.2.2⟩
theorem zI_BH {u v : k_S} (h : zI u) (hf : z_fr [3502, 4245, 1702, 1206, 704, 1002, 1003, 2405, 2406, 2407, 3504, 4212, 4213, 4214, 4215, 4230] [36, 70, 9, 11, 13, 18, 19, 25, 26, 54, 55, 60, 61, 62, 67, 75] u v) (hzB : zB v) (hzH : zH v) : zI v := ⟨zT_f hf (by decide) h.1, zN_f hf (by decide) h.2.1, zM_f hf (by decide) h.2.2.1, zS_f hf (by decide) h.2.2.2.1, zL_f hf (by decide) h.2.2.2.2.1, zR_f hf (by decide) h.2.2.2.2.2.1, zP_f hf (by decide) h.2.2.2.2.2.2.1, zC_f hf (by decide) h.2.2.2.2.2.2.2.1, hzB, hzH, zK_f hf (by decide) h.2.2.2.2.2.2.2.2.2.2⟩
theorem zI_NMPCT {u v : k_S} (h : zI u) (hf : z_fr [303, 4203, 101, 4202, 1702, 1206, 704, 1002, 1003, 2405, 2406, 2407, 3504, 4212, 4213, 4214, 4215, 4230] [4, 5, 6, 44, 45, 46, 47, 48, 2, 43, 9, 11, 13, 18, 19, 25, 26, 54, 55, 60, 61, 62, 67, 75] u v) (hzN : zN v) (hzM : zM v) (hzP : zP v) (hzC : zC v) (hzT : zT v) : zI v := ⟨hzT, hzN, hzM, zS_f hf (by decide) h.2.2.2.1, zL_f hf (by decide) h.2.2.2.2.1, zR_f hf (by decide) h.2.2.2.2.2.1, hzP, hzC, zB_f hf (by decide) h.2.2.2.2.2.2.2.2.1, zH_f hf (by decide) h.2.2.2.2.2.2.2.2.2.1, zK_f hf (by decide) h.2.2.2.2.2.2.2.2.2.2⟩
theorem zI_TL {u v : k_S} (h : zI u) (hf : z_fr [101, 4202, 703, 4223, 1702, 1206, 704, 1002, 1003, 2405, 2406, 2407, 3504, 4212, 4213, 4214, 4215, 4230] [2, 43, 8, 49, 50, 51, 52, 53, 9, 11, 13, 18, 19, 25, 26, 54, 55, 60, 61, 62, 67, 75] u v) (hzT : zT v) (hzL : zL v) : zI v := ⟨hzT, zN_f hf (by decide) h.2.1, zM_f hf (by decide) h.2.2.1, zS_f hf (by decide) h.2.2.2.1, hzL, zR_f hf (by decide) h.2.2.2.2.2.1, zP_f hf (by decide) h.2.2.2.2.2.2.1, zC_f hf (by decide) h.2.2.2.2.2.2.2.1, zB_f hf (by decide) h.2.2.2.2.2.2.2.2.1, zH_f hf (by decide) h.2.2.2.2.2.2.2.2.2.1, zK_f hf (by decide) h.2.2.2.2.2.2.2.2.2.2⟩
theorem zI_0 {u v : k_S} (h : zI u) (hf : z_fr [1702, 1206, 704, 1002, 1003, 2405, 2406, 2407, 3504, 4212, 4213, 4214, 4215, 4230] [9, 11, 13, 18, 19, 25, 26, 54, 55, 60, 61, 62, 67, 75] u v)  : zI v := ⟨zT_f hf (by decide) h.1, zN_f hf (by decide) h.2.1, zM_f hf (by decide) h.2.2.1, zS_f hf (by decide) h.2.2.2.1, zL_f hf (by decide) h.2.2.2.2.1, zR_f hf (by decide) h.2.2.2.2.2.1, zP_f hf (by decide) h.2.2.2.2.2.2.1, zC_f hf (by decide) h.2.2.2.2.2.2.2.1, zB_f hf (by decide) h.2.2.2.2.2.2.2.2.1, zH_f hf (by decide) h.2.2.2.2.2.2.2.2.2.1, zK_f hf (by decide) h.2.2.2.2.2.2.2.2.2.2⟩
theorem z_Jp (n : Nat) : J n + 1 = J (n + 1) := z_J1 n
theorem z_Jm (n : Nat) : J (n + 1) - 1 = J n := by
  rw [← z_Jp n, Int32.add_sub_cancel]
theorem z_Jm' {n : Nat} (h : 0 < n) : J n - 1 = J (n - 1) := by
  obtain ⟨m, rfl⟩ : ∃ m, n = m + 1 := ⟨n - 1, by omega⟩
  exact z_Jm m
theorem z_cvt8 (x : Int32) : x.toInt8.toInt32.toInt8 = x.toInt8 := by simp
theorem z_colW0 (t p w : Int32) (u : k_S) (h : u.1 703 = 0) : k_sat (f_Law_valueAt t p w u) (fun r v => r = 0 ∧ z_fr [704] [9] u v) := by
  unfold f_Law_valueAt
  refine z_let (z_bind (fun y v => y = .inl 0 ∧ z_fr [704] [9] u v) ?_ (fun y v h => by rw [h.1]; exact k_sat_mk ⟨rfl, h.2⟩))
  rw [z_FU]
  refine z_exit ?_
  unfold f_Law_valueAt_B8
  exact z_pos (by simp [k_wF, h]) (k_sat_mk ⟨_, rfl, rfl, z_wF rfl⟩)
theorem z_u0_I : zI z_u0 := by
  refine ⟨⟨0, by omega, rfl, rfl, fun i h => by omega⟩, ⟨0, by omega, rfl, rfl, fun w h => by omega, fun w _ h => rfl⟩, ⟨⟨0, by omega, rfl, rfl⟩, fun w h => by simp [z_u0] at h; omega, fun w _ _ => ⟨rfl, rfl⟩⟩, ⟨⟨7, by omega, by omega, rfl, rfl⟩, rfl⟩, ⟨fun _ _ _ _ => false, ?_, ?_⟩, ⟨0, by omega, rfl, rfl, fun i h => by omega, fun i => i, fun i h => by omega, fun r h => by omega, fun i j _ h => by omega⟩, Or.inl ⟨rfl, rfl⟩, ⟨0, 0, by omega, by omega, rfl, rfl, rfl, rfl, fun i h => by omega⟩, ⟨⟨0, by omega, rfl, rfl, fun i h => by omega⟩, 0, by omega, rfl, rfl, fun i h => by omega⟩, ?_, ⟨⟨rfl, rfl, rfl⟩, rfl, rfl, rfl, rfl⟩⟩
  · intro u h1 h2 t p w hw
    exact z_mono (z_colW0 t p (J w) u h1) (fun r v h => ⟨h.2, by simp [h.1]⟩)
  · intro u h1 _ _ _ w hw
    unfold f_R_isCold
    exact z_pos h1 (k_sat_mk ⟨z_fr.rf, rfl⟩)
  · intro s hs
    refine Or.inl ?_
    rcases (show s = 0 ∨ s = 1 ∨ s = 2 ∨ s = 3 ∨ s = 4 ∨ s = 5 by omega) with rfl | rfl | rfl | rfl | rfl | rfl <;> exact ⟨rfl, rfl⟩
/-! METHODS WITHOUT NIGHTS: feed, set, body, trace, count, clear, record, image, back, day, of, lay -/
theorem z_feed (a : Int32) (u : k_S) (h : zI u) : z_pair (f_W_feed a) (f_R_feed a) u zI := by
  obtain ⟨n, hn, e1, e2, hT⟩ := h.1
  refine z_pair_of ?_
  unfold f_W_feed
  by_cases h1 : 0 ≤ a.toInt ∧ a.toInt ≤ 255
  · refine z_neg (by (try simp (disch := omega) only [Int32.lt_iff_toInt_lt, Int32.le_iff_toInt_le, ← Int32.toInt_inj, Int32.toInt_add, Int32.toInt_sub, Int32.toInt_mul, Int32.toInt_neg, z_bm, z_bm2, J_ti, J_toInt, z_cn, Int32.reduceToInt]) <;> omega) (z_pos (by (try simp (disch := omega) only [Int32.lt_iff_toInt_lt, Int32.le_iff_toInt_le, ← Int32.toInt_inj, Int32.toInt_add, Int32.toInt_sub, Int32.toInt_mul, Int32.toInt_neg, z_bm, z_bm2, J_ti, J_toInt, z_cn, Int32.reduceToInt]) <;> omega) ?_)
    by_cases h2 : n < 120
    · refine z_pos (by rw [e1]; (try simp (disch := omega) only [Int32.lt_iff_toInt_lt, Int32.le_iff_toInt_le, ← Int32.toInt_inj, Int32.toInt_add, Int32.toInt_sub, Int32.toInt_mul, Int32.toInt_neg, z_bm, z_bm2, J_ti, J_toInt, z_cn, Int32.reduceToInt]) <;> omega) ?_
      unfold f_Tape_append
      rw [e1]
      refine z_bind (fun _ v => v = k_wF (k_wA u 2 n a) 101 (J (n + 1))) (z_neg (by (try simp (disch := omega) only [Int32.lt_iff_toInt_lt, Int32.le_iff_toInt_le, ← Int32.toInt_inj, Int32.toInt_add, Int32.toInt_sub, Int32.toInt_mul, Int32.toInt_neg, z_bm, z_bm2, J_ti, J_toInt, z_cn, Int32.reduceToInt]) <;> omega) (z_pos (by (try simp (disch := omega) only [Int32.lt_iff_toInt_lt, Int32.le_iff_toInt_le, ← Int32.toInt_inj, Int32.toInt_add, Int32.toInt_sub, Int32.toInt_mul, Int32.toInt_neg, z_bm, z_bm2, J_ti, J_toInt, z_cn, Int32.reduceToInt]) <;> omega) (z_ck (by (try simp (disch := omega) only [Int32.lt_iff_toInt_lt, Int32.le_iff_toInt_le, ← Int32.toInt_inj, Int32.toInt_add, Int32.toInt_sub, Int32.toInt_mul, Int32.toInt_neg, z_bm, z_bm2, J_ti, J_toInt, z_cn, Int32.reduceToInt]) <;> omega) (by (try simp (disch := omega) only [Int32.lt_iff_toInt_lt, Int32.le_iff_toInt_le, ← Int32.toInt_inj, Int32.toInt_add, Int32.toInt_sub, Int32.toInt_mul, Int32.toInt_neg, z_bm, z_bm2, J_ti, J_toInt, z_cn, Int32.reduceToInt]) <;> omega) (z_let (z_let (k_sat_mk ?_)))))) (fun _ v hv => k_sat_mk ?_)
      · simp only [k_wA, e1, z_Jp, J_toNat (show n < 2147483648 by omega)]
      · subst hv
        unfold f_R_feed
        have e3 : (k_wF (k_wA u 2 n a) 101 (J (n + 1))).1 4202 = J n := e2
        rw [z_Rin1 (by (try simp (disch := omega) only [Int32.lt_iff_toInt_lt, Int32.le_iff_toInt_le, ← Int32.toInt_inj, Int32.toInt_add, Int32.toInt_sub, Int32.toInt_mul, Int32.toInt_neg, z_bm, z_bm2, J_ti, J_toInt, z_cn, Int32.reduceToInt]) <;> omega) (by (try simp (disch := omega) only [Int32.lt_iff_toInt_lt, Int32.le_iff_toInt_le, ← Int32.toInt_inj, Int32.toInt_add, Int32.toInt_sub, Int32.toInt_mul, Int32.toInt_neg, z_bm, z_bm2, J_ti, J_toInt, z_cn, Int32.reduceToInt]) <;> omega), z_bind_some, e3]
        refine z_neg (by decide) (z_neg (by ((try simp (disch := omega) only [Int32.lt_iff_toInt_lt, Int32.le_iff_toInt_le, ← Int32.toInt_inj, Int32.toInt_add, Int32.toInt_sub, Int32.toInt_mul, Int32.toInt_neg, z_bm, z_bm2, J_ti, J_toInt, z_cn, Int32.reduceToInt] at *); omega)) (z_ck (by (try simp (disch := omega) only [Int32.lt_iff_toInt_lt, Int32.le_iff_toInt_le, ← Int32.toInt_inj, Int32.toInt_add, Int32.toInt_sub, Int32.toInt_mul, Int32.toInt_neg, z_bm, z_bm2, J_ti, J_toInt, z_cn, Int32.reduceToInt]) <;> omega) (by (try simp (disch := omega) only [Int32.lt_iff_toInt_lt, Int32.le_iff_toInt_le, ← Int32.toInt_inj, Int32.toInt_add, Int32.toInt_sub, Int32.toInt_mul, Int32.toInt_neg, z_bm, z_bm2, J_ti, J_toInt, z_cn, Int32.reduceToInt]) <;> omega) (z_let (z_let (k_sat_mk ⟨?_, ?_⟩)))))
        · simp [k_wF, k_wA, e2, z_Jp]
        · refine zI_T h ((((z_wA rfl).tr (z_wF rfl)).tr (z_wA rfl)).tr (z_wF rfl)) ⟨n + 1, by omega, by simp [k_wF, k_wA], by simp [k_wF, k_wA, e2, z_Jp], fun i hi => ?_⟩
          simp only [J_toNat (show n < 2147483648 by omega)]
          by_cases e : i = n
          · subst e
            obtain ⟨b, hb, hb2, -⟩ := J_of h1.1
            exact ⟨b, by omega, by simp [k_wF, k_wA, z_up, hb], by simp [k_wF, k_wA, z_up, hb]⟩
          · obtain ⟨b, hb1, hb2, hb3⟩ := hT i (by omega)
            exact ⟨b, hb1, by simp [k_wF, k_wA, z_up, e, hb2], by simp [k_wF, k_wA, z_up, e, hb3]⟩
    · have hn' : n = 120 := by omega
      subst hn'
      refine z_neg (by rw [e1]; decide) (k_sat_mk ?_)
      unfold f_R_feed
      rw [z_Rin1 (by (try simp (disch := omega) only [Int32.lt_iff_toInt_lt, Int32.le_iff_toInt_le, ← Int32.toInt_inj, Int32.toInt_add, Int32.toInt_sub, Int32.toInt_mul, Int32.toInt_neg, z_bm, z_bm2, J_ti, J_toInt, z_cn, Int32.reduceToInt]) <;> omega) (by (try simp (disch := omega) only [Int32.lt_iff_toInt_lt, Int32.le_iff_toInt_le, ← Int32.toInt_inj, Int32.toInt_add, Int32.toInt_sub, Int32.toInt_mul, Int32.toInt_neg, z_bm, z_bm2, J_ti, J_toInt, z_cn, Int32.reduceToInt]) <;> omega), z_bind_some, e2]
      exact z_neg (by decide) (z_pos rfl (k_sat_mk ⟨rfl, h⟩))
  · have e : k_sat (f_R_feed a u) (fun r' v => (-1 : Int32) = r' ∧ zI v) := by
      unfold f_R_feed
      rw [z_Rin0 (by ((try simp (disch := omega) only [Int32.lt_iff_toInt_lt, Int32.le_iff_toInt_le, ← Int32.toInt_inj, Int32.toInt_add, Int32.toInt_sub, Int32.toInt_mul, Int32.toInt_neg, z_bm, z_bm2, J_ti, J_toInt, z_cn, Int32.reduceToInt] at *); omega)), z_bind_some]
      exact z_pos rfl (k_sat_mk ⟨rfl, h⟩)
    exact z_ite (fun _ => k_sat_mk e) (fun h3 => z_neg (by ((try simp (disch := omega) only [Int32.lt_iff_toInt_lt, Int32.le_iff_toInt_le, ← Int32.toInt_inj, Int32.toInt_add, Int32.toInt_sub, Int32.toInt_mul, Int32.toInt_neg, z_bm, z_bm2, J_ti, J_toInt, z_cn, Int32.reduceToInt] at *); omega)) (k_sat_mk e))
theorem z_set (a b : Int32) (u : k_S) (h : zI u) : z_pair (f_W_set a b) (f_R_set a b) u zI := by
  obtain ⟨⟨k, hk1, hk2, e1, e2⟩, e3⟩ := h.2.2.2.1
  refine z_pair_of ?_
  have hJ : ∀ (u : k_S), zI u → u.1 4211 = u.1 705 → (∃ k : Nat, 1 ≤ k ∧ k ≤ 9 ∧ u.1 1205 = J k ∧ u.1 4210 = J k) → k_sat (f_W_set_J33 a b u) (fun r u1 => k_sat (f_R_set_J26 a b u1) (fun r' u2 => r = r' ∧ zI u2)) := by
    intro u h e3 hk
    unfold f_W_set_J33 f_R_set_J26
    refine z_ite (fun h1 => z_let (z_let (k_sat_mk (z_pos h1 (z_let (z_let (k_sat_mk ⟨?_, ?_⟩))))))) (fun h1 => k_sat_mk (z_neg h1 (k_sat_mk ⟨rfl, h⟩)))
    · simp [k_wF, e3]
    · obtain ⟨k, hk1, hk2, e1, e2⟩ := hk
      exact zI_S h ((z_wF rfl).tr (z_wF rfl)) ⟨⟨k, hk1, hk2, by simp [k_wF, e1], by simp [k_wF, e2]⟩, by simp [k_wF]⟩
  unfold f_W_set
  have e26 : ∀ {u1 : k_S}, ¬ (a = 0 ∧ 1 ≤ b.toInt ∧ b.toInt ≤ 9) → f_R_set a b u1 = f_R_set_J26 a b u1 := by
    intro u1 hn
    unfold f_R_set
    by_cases h1 : a = 0
    · rw [if_pos h1, z_Rin0 (by ((try simp (disch := omega) only [Int32.lt_iff_toInt_lt, Int32.le_iff_toInt_le, ← Int32.toInt_inj, Int32.toInt_add, Int32.toInt_sub, Int32.toInt_mul, Int32.toInt_neg, z_bm, z_bm2, J_ti, J_toInt, z_cn, Int32.reduceToInt] at *); omega)), z_bind_some, if_pos rfl]
    · rw [if_neg h1]
  by_cases h1 : a = 0
  · refine z_pos h1 ?_
    by_cases h2 : 1 ≤ b.toInt ∧ b.toInt ≤ 9
    · refine z_neg (by (try simp (disch := omega) only [Int32.lt_iff_toInt_lt, Int32.le_iff_toInt_le, ← Int32.toInt_inj, Int32.toInt_add, Int32.toInt_sub, Int32.toInt_mul, Int32.toInt_neg, z_bm, z_bm2, J_ti, J_toInt, z_cn, Int32.reduceToInt]) <;> omega) (z_neg (by (try simp (disch := omega) only [Int32.lt_iff_toInt_lt, Int32.le_iff_toInt_le, ← Int32.toInt_inj, Int32.toInt_add, Int32.toInt_sub, Int32.toInt_mul, Int32.toInt_neg, z_bm, z_bm2, J_ti, J_toInt, z_cn, Int32.reduceToInt]) <;> omega) (z_let (z_let (k_sat_mk ?_))))
      unfold f_R_set
      refine z_pos h1 ?_
      rw [z_Rin1 (by (try simp (disch := omega) only [Int32.lt_iff_toInt_lt, Int32.le_iff_toInt_le, ← Int32.toInt_inj, Int32.toInt_add, Int32.toInt_sub, Int32.toInt_mul, Int32.toInt_neg, z_bm, z_bm2, J_ti, J_toInt, z_cn, Int32.reduceToInt]) <;> omega) (by (try simp (disch := omega) only [Int32.lt_iff_toInt_lt, Int32.le_iff_toInt_le, ← Int32.toInt_inj, Int32.toInt_add, Int32.toInt_sub, Int32.toInt_mul, Int32.toInt_neg, z_bm, z_bm2, J_ti, J_toInt, z_cn, Int32.reduceToInt]) <;> omega), z_bind_some]
      refine z_neg (by decide) (z_let (z_let (k_sat_mk ⟨?_, ?_⟩)))
      · simp [k_wF, e1, e2]
      · obtain ⟨n, hn, hn2, -⟩ := J_of (x := b) (by omega)
        exact zI_S h ((z_wF rfl).tr (z_wF rfl)) ⟨⟨n, by omega, by omega, by simp [k_wF, hn], by simp [k_wF, hn]⟩, by simp [k_wF, e3]⟩
    · have := hJ u h e3 ⟨k, hk1, hk2, e1, e2⟩
      have := z_mono this (fun r u1 hh => by rw [← e26 (u1 := u1) (fun q => h2 q.2)] at hh; exact hh)
      exact z_ite (fun _ => this) (fun h3 => z_pos (by ((try simp (disch := omega) only [Int32.lt_iff_toInt_lt, Int32.le_iff_toInt_le, ← Int32.toInt_inj, Int32.toInt_add, Int32.toInt_sub, Int32.toInt_mul, Int32.toInt_neg, z_bm, z_bm2, J_ti, J_toInt, z_cn, Int32.reduceToInt] at *); omega)) this)
  · refine z_neg h1 ?_
    exact z_mono (hJ u h e3 ⟨k, hk1, hk2, e1, e2⟩) (fun r u1 hh => by rw [← e26 (u1 := u1) (fun q => h1 q.1)] at hh; exact hh)
theorem z_count (a : Int32) (u : k_S) (h : zI u) : z_pair (f_W_count a) (f_R_count a) u zI := by
  obtain ⟨n1, -, a1, a2, -⟩ := h.1
  obtain ⟨n2, -, b1, b2, -⟩ := h.2.1
  obtain ⟨⟨n3, -, c1, c2⟩, -⟩ := h.2.2.1
  obtain ⟨n4, -, d1, d2, -⟩ := h.2.2.2.2.2.1
  obtain ⟨n5, m5, -, -, f1, -, f2, -⟩ := h.2.2.2.2.2.2.2.1
  obtain ⟨⟨n6, -, g1, g2, -⟩, n7, -, k1, k2, -⟩ := h.2.2.2.2.2.2.2.2.1
  refine z_pair_of ?_
  unfold f_W_count f_R_count
  exact z_ite (fun e => k_sat_mk (z_pos e (k_sat_mk ⟨b1.trans b2.symm, h⟩))) (fun e => z_ite (fun f => k_sat_mk (z_neg e (z_pos f (k_sat_mk ⟨c1.trans c2.symm, h⟩)))) (fun f => z_ite (fun g => k_sat_mk (z_neg e (z_neg f (z_pos g (k_sat_mk ⟨d1.trans d2.symm, h⟩))))) (fun g => z_ite (fun i => k_sat_mk (z_neg e (z_neg f (z_neg g (z_pos i (k_sat_mk ⟨a1.trans a2.symm, h⟩)))))) (fun i => z_ite (fun j => k_sat_mk (z_neg e (z_neg f (z_neg g (z_neg i (z_pos j (k_sat_mk ⟨f1.trans f2.symm, h⟩))))))) (fun j => z_ite (fun k => k_sat_mk (z_neg e (z_neg f (z_neg g (z_neg i (z_neg j (z_pos k (k_sat_mk ⟨g1.trans g2.symm, h⟩)))))))) (fun k => z_ite (fun l => k_sat_mk (z_neg e (z_neg f (z_neg g (z_neg i (z_neg j (z_neg k (z_pos l (k_sat_mk ⟨k1.trans k2.symm, h⟩))))))))) (fun l => k_sat_mk (z_neg e (z_neg f (z_neg g (z_neg i (z_neg j (z_neg k (z_neg l (k_sat_mk ⟨rfl, h⟩)))))))))))))))
theorem z_clear (u : k_S) (h : zI u) : z_pair f_W_clear f_R_clear u zI := by
  obtain ⟨n, hn, e1, e2, -, -⟩ := h.2.2.2.2.2.1
  refine z_pair_of ?_
  unfold f_W_clear f_R_clear
  refine z_let (z_let (k_sat_mk (z_let (z_let (k_sat_mk ⟨?_, ?_⟩)))))
  · simp [k_wF, e1, e2]
  · exact zI_R h ((z_wF rfl).tr (z_wF rfl)) ⟨0, by omega, by simp [k_wF, J_0], by simp [k_wF, J_0], fun i h => by omega, fun i => i, fun i h => by omega, fun r h => by omega, fun i j _ h => by omega⟩
theorem z_body (a : Int32) (u : k_S) (h : zI u) : z_pair (f_W_body a) (f_R_body a) u zI := by
  obtain ⟨⟨n, hn, e1, e2, hk⟩, m, hm, f1, f2, hm2⟩ := h.2.2.2.2.2.2.2.2.1
  refine z_pair_of ?_
  unfold f_W_body
  by_cases h1 : 0 ≤ a.toInt ∧ a.toInt < 8
  · refine z_neg (by (try simp (disch := omega) only [Int32.lt_iff_toInt_lt, Int32.le_iff_toInt_le, ← Int32.toInt_inj, Int32.toInt_add, Int32.toInt_sub, Int32.toInt_mul, Int32.toInt_neg, z_bm, z_bm2, J_ti, J_toInt, z_cn, Int32.reduceToInt]) <;> omega) (z_pos (by (try simp (disch := omega) only [Int32.lt_iff_toInt_lt, Int32.le_iff_toInt_le, ← Int32.toInt_inj, Int32.toInt_add, Int32.toInt_sub, Int32.toInt_mul, Int32.toInt_neg, z_bm, z_bm2, J_ti, J_toInt, z_cn, Int32.reduceToInt]) <;> omega) ?_)
    by_cases h2 : n < 50
    · refine z_pos (by rw [e1]; (try simp (disch := omega) only [Int32.lt_iff_toInt_lt, Int32.le_iff_toInt_le, ← Int32.toInt_inj, Int32.toInt_add, Int32.toInt_sub, Int32.toInt_mul, Int32.toInt_neg, z_bm, z_bm2, J_ti, J_toInt, z_cn, Int32.reduceToInt]) <;> omega) ?_
      unfold f_Bodies_add
      rw [e1]
      refine z_bind (fun r v => r = J n ∧ v = k_wF (k_wA u 36 n a) 3502 (J (n + 1))) (z_neg (by (try simp (disch := omega) only [Int32.lt_iff_toInt_lt, Int32.le_iff_toInt_le, ← Int32.toInt_inj, Int32.toInt_add, Int32.toInt_sub, Int32.toInt_mul, Int32.toInt_neg, z_bm, z_bm2, J_ti, J_toInt, z_cn, Int32.reduceToInt]) <;> omega) (z_pos (by (try simp (disch := omega) only [Int32.lt_iff_toInt_lt, Int32.le_iff_toInt_le, ← Int32.toInt_inj, Int32.toInt_add, Int32.toInt_sub, Int32.toInt_mul, Int32.toInt_neg, z_bm, z_bm2, J_ti, J_toInt, z_cn, Int32.reduceToInt]) <;> omega) (z_ck (by (try simp (disch := omega) only [Int32.lt_iff_toInt_lt, Int32.le_iff_toInt_le, ← Int32.toInt_inj, Int32.toInt_add, Int32.toInt_sub, Int32.toInt_mul, Int32.toInt_neg, z_bm, z_bm2, J_ti, J_toInt, z_cn, Int32.reduceToInt]) <;> omega) (by (try simp (disch := omega) only [Int32.lt_iff_toInt_lt, Int32.le_iff_toInt_le, ← Int32.toInt_inj, Int32.toInt_add, Int32.toInt_sub, Int32.toInt_mul, Int32.toInt_neg, z_bm, z_bm2, J_ti, J_toInt, z_cn, Int32.reduceToInt]) <;> omega) (z_let (z_let (k_sat_mk ⟨?_, ?_⟩)))))) (fun r v hv => k_sat_mk ?_)
      · simp [k_wF, k_wA, e1, z_Jp, z_Jm]
      · simp only [k_wA, e1, z_Jp, J_toNat (show n < 2147483648 by omega)]
      · obtain ⟨rfl, rfl⟩ := hv
        unfold f_R_body
        have e3 : (k_wF (k_wA u 36 n a) 3502 (J (n + 1))).1 4245 = J n := e2
        rw [z_Rin1 (by (try simp (disch := omega) only [Int32.lt_iff_toInt_lt, Int32.le_iff_toInt_le, ← Int32.toInt_inj, Int32.toInt_add, Int32.toInt_sub, Int32.toInt_mul, Int32.toInt_neg, z_bm, z_bm2, J_ti, J_toInt, z_cn, Int32.reduceToInt]) <;> omega) (by (try simp (disch := omega) only [Int32.lt_iff_toInt_lt, Int32.le_iff_toInt_le, ← Int32.toInt_inj, Int32.toInt_add, Int32.toInt_sub, Int32.toInt_mul, Int32.toInt_neg, z_bm, z_bm2, J_ti, J_toInt, z_cn, Int32.reduceToInt]) <;> omega), z_bind_some, e3]
        refine z_neg (by decide) (z_neg (by ((try simp (disch := omega) only [Int32.lt_iff_toInt_lt, Int32.le_iff_toInt_le, ← Int32.toInt_inj, Int32.toInt_add, Int32.toInt_sub, Int32.toInt_mul, Int32.toInt_neg, z_bm, z_bm2, J_ti, J_toInt, z_cn, Int32.reduceToInt] at *); omega)) (z_ck (by (try simp (disch := omega) only [Int32.lt_iff_toInt_lt, Int32.le_iff_toInt_le, ← Int32.toInt_inj, Int32.toInt_add, Int32.toInt_sub, Int32.toInt_mul, Int32.toInt_neg, z_bm, z_bm2, J_ti, J_toInt, z_cn, Int32.reduceToInt]) <;> omega) (by (try simp (disch := omega) only [Int32.lt_iff_toInt_lt, Int32.le_iff_toInt_le, ← Int32.toInt_inj, Int32.toInt_add, Int32.toInt_sub, Int32.toInt_mul, Int32.toInt_neg, z_bm, z_bm2, J_ti, J_toInt, z_cn, Int32.reduceToInt]) <;> omega) (z_let (z_let (k_sat_mk ⟨?_, ?_⟩)))))
        · simp [k_wF, k_wA, e2, z_Jp, z_Jm]
        · refine zI_BH h ((((z_wA rfl).tr (z_wF rfl)).tr (z_wA rfl)).tr (z_wF rfl)) ⟨⟨n + 1, by omega, by simp [k_wF, k_wA], by simp [k_wF, k_wA, e2, z_Jp], fun i hi => ?_⟩, m, hm, by simp [k_wF, k_wA, f1], by simp [k_wF, k_wA, f2], fun i h1 h2 => by simp [k_wF, k_wA, hm2 i h1 h2]⟩ (fun s hs => ?_)
          · simp only [J_toNat (show n < 2147483648 by omega)]
            by_cases e : i = n
            · subst e
              obtain ⟨b, hb, hb2, -⟩ := J_of h1.1
              exact ⟨b, by omega, by simp [k_wF, k_wA, z_up, hb], by simp [k_wF, k_wA, z_up, hb]⟩
            · obtain ⟨b, hb1, hb2, hb3⟩ := hk i (by omega)
              exact ⟨b, hb1, by simp [k_wF, k_wA, z_up, e, hb2], by simp [k_wF, k_wA, z_up, e, hb3]⟩
          · rcases h.2.2.2.2.2.2.2.2.2.1 s hs with q | ⟨q1, b, q2, q3, q4⟩ | q
            · exact Or.inl (by simpa [k_wF, k_wA] using q)
            · refine Or.inr (Or.inl ⟨by simpa [k_wF, k_wA] using q1, b, ?_, by simpa [k_wF, k_wA] using q3, by simpa [k_wF, k_wA] using q4⟩)
              have : ((k_wF (k_wA (k_wF (k_wA u 36 n a) 3502 (J (n + 1))) 70 (J n).toNatClampNeg a) 4245 ((k_wA (k_wF (k_wA u 36 n a) 3502 (J (n + 1))) 70 (J n).toNatClampNeg a).1 4245 + 1)).1 3502) = J (n + 1) := by simp [k_wF, k_wA]
              rw [this, J_toInt (by omega)]
              rw [e1, J_toInt (by omega)] at q2
              omega
            · exact Or.inr (Or.inr (by simpa [k_wF, k_wA] using q))
    · have hn' : n = 50 := by omega
      subst hn'
      refine z_neg (by rw [e1]; decide) (k_sat_mk ?_)
      unfold f_R_body
      rw [z_Rin1 (by (try simp (disch := omega) only [Int32.lt_iff_toInt_lt, Int32.le_iff_toInt_le, ← Int32.toInt_inj, Int32.toInt_add, Int32.toInt_sub, Int32.toInt_mul, Int32.toInt_neg, z_bm, z_bm2, J_ti, J_toInt, z_cn, Int32.reduceToInt]) <;> omega) (by (try simp (disch := omega) only [Int32.lt_iff_toInt_lt, Int32.le_iff_toInt_le, ← Int32.toInt_inj, Int32.toInt_add, Int32.toInt_sub, Int32.toInt_mul, Int32.toInt_neg, z_bm, z_bm2, J_ti, J_toInt, z_cn, Int32.reduceToInt]) <;> omega), z_bind_some, e2]
      exact z_neg (by decide) (z_pos rfl (k_sat_mk ⟨rfl, h⟩))
  · have e : k_sat (f_R_body a u) (fun r' v => (-1 : Int32) = r' ∧ zI v) := by
      unfold f_R_body
      rw [z_Rin0 (by ((try simp (disch := omega) only [Int32.lt_iff_toInt_lt, Int32.le_iff_toInt_le, ← Int32.toInt_inj, Int32.toInt_add, Int32.toInt_sub, Int32.toInt_mul, Int32.toInt_neg, z_bm, z_bm2, J_ti, J_toInt, z_cn, Int32.reduceToInt] at *); omega)), z_bind_some]
      exact z_pos rfl (k_sat_mk ⟨rfl, h⟩)
    exact z_ite (fun _ => k_sat_mk e) (fun h3 => z_neg (by ((try simp (disch := omega) only [Int32.lt_iff_toInt_lt, Int32.le_iff_toInt_le, ← Int32.toInt_inj, Int32.toInt_add, Int32.toInt_sub, Int32.toInt_mul, Int32.toInt_neg, z_bm, z_bm2, J_ti, J_toInt, z_cn, Int32.reduceToInt] at *); omega)) (k_sat_mk e))
theorem z_trace (a : Int32) (u : k_S) (h : zI u) : z_pair (f_W_trace a) (f_R_trace a) u zI := by
  obtain ⟨-, m, hm, f1, f2, hm2⟩ := h.2.2.2.2.2.2.2.2.1
  refine z_pair_of ?_
  unfold f_W_trace
  refine z_ite (fun e => k_sat_mk ?_) (fun e => z_ite (fun f => k_sat_mk ?_) (fun f => z_ite (fun g => ?_) (fun g => k_sat_mk ?_)))
  · unfold f_R_trace
    exact z_pos e (k_sat_mk ⟨rfl, h⟩)
  · unfold f_R_trace
    exact z_neg e (z_pos (by rw [f2, ← f1]; exact f) (k_sat_mk ⟨rfl, h⟩))
  · obtain ⟨n, rfl, hn, -⟩ := J_of (x := a) (by ((try simp (disch := omega) only [Int32.lt_iff_toInt_lt, Int32.le_iff_toInt_le, ← Int32.toInt_inj, Int32.toInt_add, Int32.toInt_sub, Int32.toInt_mul, Int32.toInt_neg, z_bm, z_bm2, J_ti, J_toInt, z_cn, Int32.reduceToInt] at *); omega))
    have hn2 : n < 24 := by ((try simp (disch := omega) only [Int32.lt_iff_toInt_lt, Int32.le_iff_toInt_le, ← Int32.toInt_inj, Int32.toInt_add, Int32.toInt_sub, Int32.toInt_mul, Int32.toInt_neg, z_bm, z_bm2, J_ti, J_toInt, z_cn, Int32.reduceToInt] at *); omega)
    rw [f1] at f
    have hn3 : n < m := by ((try simp (disch := omega) only [Int32.lt_iff_toInt_lt, Int32.le_iff_toInt_le, ← Int32.toInt_inj, Int32.toInt_add, Int32.toInt_sub, Int32.toInt_mul, Int32.toInt_neg, z_bm, z_bm2, J_ti, J_toInt, z_cn, Int32.reduceToInt] at *); omega)
    rw [z_Bodies_tracedAt hn2, z_bind_some]
    refine k_sat_mk ?_
    unfold f_R_trace
    refine z_neg e (z_neg (by rw [f2]; exact f) (z_neg (by (try simp (disch := omega) only [Int32.lt_iff_toInt_lt, Int32.le_iff_toInt_le, ← Int32.toInt_inj, Int32.toInt_add, Int32.toInt_sub, Int32.toInt_mul, Int32.toInt_neg, z_bm, z_bm2, J_ti, J_toInt, z_cn, Int32.reduceToInt]) <;> omega) (z_ck (by (try simp (disch := omega) only [Int32.lt_iff_toInt_lt, Int32.le_iff_toInt_le, ← Int32.toInt_inj, Int32.toInt_add, Int32.toInt_sub, Int32.toInt_mul, Int32.toInt_neg, z_bm, z_bm2, J_ti, J_toInt, z_cn, Int32.reduceToInt]) <;> omega) (by (try simp (disch := omega) only [Int32.lt_iff_toInt_lt, Int32.le_iff_toInt_le, ← Int32.toInt_inj, Int32.toInt_add, Int32.toInt_sub, Int32.toInt_mul, Int32.toInt_neg, z_bm, z_bm2, J_ti, J_toInt, z_cn, Int32.reduceToInt]) <;> omega) (k_sat_mk ⟨?_, h⟩))))
    rw [J_toNat (by omega), hm2 n hn3 hn2]
  · unfold f_R_trace
    exact z_neg e (z_neg (by rw [f2, ← f1]; exact f) (z_pos (by ((try simp (disch := omega) only [Int32.lt_iff_toInt_lt, Int32.le_iff_toInt_le, ← Int32.toInt_inj, Int32.toInt_add, Int32.toInt_sub, Int32.toInt_mul, Int32.toInt_neg, z_bm, z_bm2, J_ti, J_toInt, z_cn, Int32.reduceToInt] at *); omega)) (k_sat_mk ⟨rfl, h⟩)))
/-! METHODS OF WHEELS: of, lay, day -/
theorem z_of (a b : Int32) (u : k_S) (h : zI u) : z_pair (f_W_of a b) (f_R_of a b) u zI := by
  obtain ⟨n, hn, e1, e2, hw, -⟩ := h.2.1
  obtain ⟨-, hm, -⟩ := h.2.2.1
  refine z_pair_of ?_
  unfold f_W_of
  rcases J_or a n with ⟨w, hwn, rfl⟩ | ha
  · obtain ⟨s, hs1, hs2, es, er, eb, hl⟩ := hw w hwn
    obtain ⟨⟨p, hp, ep, ep2⟩, ev⟩ := hm w (by rw [e1, J_toInt (by omega)]; omega)
    have eR : f_R_of (J w) b u = (if b = 0 then some (J s, u) else if b = 1 then some (J p, u) else if b = 2 then some (u.2.1 16 w, u) else if b = 3 then some (u.2.1 6 w, u) else if 100 ≤ b.toInt ∧ b.toInt < 100 + s then some (u.2.1 4 (40 * w + (b - 100).toNatClampNeg), u) else some (-1, u)) := by
      unfold f_R_of
      rw [z_RisWheel e2 hn hwn, z_bind_some, if_neg (by decide), z_cko _ (by (try simp (disch := omega) only [Int32.lt_iff_toInt_lt, Int32.le_iff_toInt_le, ← Int32.toInt_inj, Int32.toInt_add, Int32.toInt_sub, Int32.toInt_mul, Int32.toInt_neg, z_bm, z_bm2, J_ti, J_toInt, z_cn, Int32.reduceToInt]) <;> omega) (by (try simp (disch := omega) only [Int32.lt_iff_toInt_lt, Int32.le_iff_toInt_le, ← Int32.toInt_inj, Int32.toInt_add, Int32.toInt_sub, Int32.toInt_mul, Int32.toInt_neg, z_bm, z_bm2, J_ti, J_toInt, z_cn, Int32.reduceToInt]) <;> omega), J_toNat (show w < 2147483648 by omega), er]
      by_cases hb : 100 ≤ b.toInt ∧ b.toInt < 100 + s
      · obtain ⟨q, hq, hq2, -⟩ := J_of (x := b - 100) (by (try simp (disch := omega) only [Int32.lt_iff_toInt_lt, Int32.le_iff_toInt_le, ← Int32.toInt_inj, Int32.toInt_add, Int32.toInt_sub, Int32.toInt_mul, Int32.toInt_neg, z_bm, z_bm2, J_ti, J_toInt, z_cn, Int32.reduceToInt]) <;> omega)
        have hb2 : b = J (100 + q) := by
          apply Int32.toInt.inj
          rw [J_toInt (by ((try simp (disch := omega) only [Int32.lt_iff_toInt_lt, Int32.le_iff_toInt_le, ← Int32.toInt_inj, Int32.toInt_add, Int32.toInt_sub, Int32.toInt_mul, Int32.toInt_neg, z_bm, z_bm2, J_ti, J_toInt, z_cn, Int32.reduceToInt] at *); omega))]
          ((try simp (disch := omega) only [Int32.lt_iff_toInt_lt, Int32.le_iff_toInt_le, ← Int32.toInt_inj, Int32.toInt_add, Int32.toInt_sub, Int32.toInt_mul, Int32.toInt_neg, z_bm, z_bm2, J_ti, J_toInt, z_cn, Int32.reduceToInt] at *); omega)
        subst hb2
        have hqs : q < s := by ((try simp (disch := omega) only [Int32.lt_iff_toInt_lt, Int32.le_iff_toInt_le, ← Int32.toInt_inj, Int32.toInt_add, Int32.toInt_sub, Int32.toInt_mul, Int32.toInt_neg, z_bm, z_bm2, J_ti, J_toInt, z_cn, Int32.reduceToInt] at *); omega)
        rw [z_Rin1 (by (try simp (disch := omega) only [Int32.lt_iff_toInt_lt, Int32.le_iff_toInt_le, ← Int32.toInt_inj, Int32.toInt_add, Int32.toInt_sub, Int32.toInt_mul, Int32.toInt_neg, z_bm, z_bm2, J_ti, J_toInt, z_cn, Int32.reduceToInt]) <;> omega) (by (try simp (disch := omega) only [Int32.lt_iff_toInt_lt, Int32.le_iff_toInt_le, ← Int32.toInt_inj, Int32.toInt_add, Int32.toInt_sub, Int32.toInt_mul, Int32.toInt_neg, z_bm, z_bm2, J_ti, J_toInt, z_cn, Int32.reduceToInt]) <;> omega), z_bind_some, if_neg (by decide), if_neg (by (try simp (disch := omega) only [Int32.lt_iff_toInt_lt, Int32.le_iff_toInt_le, ← Int32.toInt_inj, Int32.toInt_add, Int32.toInt_sub, Int32.toInt_mul, Int32.toInt_neg, z_bm, z_bm2, J_ti, J_toInt, z_cn, Int32.reduceToInt]) <;> omega), if_neg (by (try simp (disch := omega) only [Int32.lt_iff_toInt_lt, Int32.le_iff_toInt_le, ← Int32.toInt_inj, Int32.toInt_add, Int32.toInt_sub, Int32.toInt_mul, Int32.toInt_neg, z_bm, z_bm2, J_ti, J_toInt, z_cn, Int32.reduceToInt]) <;> omega), if_neg (by (try simp (disch := omega) only [Int32.lt_iff_toInt_lt, Int32.le_iff_toInt_le, ← Int32.toInt_inj, Int32.toInt_add, Int32.toInt_sub, Int32.toInt_mul, Int32.toInt_neg, z_bm, z_bm2, J_ti, J_toInt, z_cn, Int32.reduceToInt]) <;> omega), if_neg (by (try simp (disch := omega) only [Int32.lt_iff_toInt_lt, Int32.le_iff_toInt_le, ← Int32.toInt_inj, Int32.toInt_add, Int32.toInt_sub, Int32.toInt_mul, Int32.toInt_neg, z_bm, z_bm2, J_ti, J_toInt, z_cn, Int32.reduceToInt]) <;> omega), if_pos hb]
        have e5 : (40 : Int32) * J w + J (100 + q) - 100 = J (40 * w + q) := by
          apply Int32.toInt.inj
          (try simp (disch := omega) only [Int32.lt_iff_toInt_lt, Int32.le_iff_toInt_le, ← Int32.toInt_inj, Int32.toInt_add, Int32.toInt_sub, Int32.toInt_mul, Int32.toInt_neg, z_bm, z_bm2, J_ti, J_toInt, z_cn, Int32.reduceToInt]) <;> omega
        rw [e5, z_cko _ (by (try simp (disch := omega) only [Int32.lt_iff_toInt_lt, Int32.le_iff_toInt_le, ← Int32.toInt_inj, Int32.toInt_add, Int32.toInt_sub, Int32.toInt_mul, Int32.toInt_neg, z_bm, z_bm2, J_ti, J_toInt, z_cn, Int32.reduceToInt]) <;> omega) (by (try simp (disch := omega) only [Int32.lt_iff_toInt_lt, Int32.le_iff_toInt_le, ← Int32.toInt_inj, Int32.toInt_add, Int32.toInt_sub, Int32.toInt_mul, Int32.toInt_neg, z_bm, z_bm2, J_ti, J_toInt, z_cn, Int32.reduceToInt]) <;> omega), J_toNat (by omega), hl q hqs, hq, J_toNat (by omega)]
      · rw [z_Rin0 (by ((try simp (disch := omega) only [Int32.lt_iff_toInt_lt, Int32.le_iff_toInt_le, ← Int32.toInt_inj, Int32.toInt_add, Int32.toInt_sub, Int32.toInt_mul, Int32.toInt_neg, z_bm, z_bm2, J_ti, J_toInt, z_cn, Int32.reduceToInt] at *); omega)), z_bind_some, if_pos rfl, if_neg hb, z_cko _ (by (try simp (disch := omega) only [Int32.lt_iff_toInt_lt, Int32.le_iff_toInt_le, ← Int32.toInt_inj, Int32.toInt_add, Int32.toInt_sub, Int32.toInt_mul, Int32.toInt_neg, z_bm, z_bm2, J_ti, J_toInt, z_cn, Int32.reduceToInt]) <;> omega) (by (try simp (disch := omega) only [Int32.lt_iff_toInt_lt, Int32.le_iff_toInt_le, ← Int32.toInt_inj, Int32.toInt_add, Int32.toInt_sub, Int32.toInt_mul, Int32.toInt_neg, z_bm, z_bm2, J_ti, J_toInt, z_cn, Int32.reduceToInt]) <;> omega), z_cko _ (by (try simp (disch := omega) only [Int32.lt_iff_toInt_lt, Int32.le_iff_toInt_le, ← Int32.toInt_inj, Int32.toInt_add, Int32.toInt_sub, Int32.toInt_mul, Int32.toInt_neg, z_bm, z_bm2, J_ti, J_toInt, z_cn, Int32.reduceToInt]) <;> omega) (by (try simp (disch := omega) only [Int32.lt_iff_toInt_lt, Int32.le_iff_toInt_le, ← Int32.toInt_inj, Int32.toInt_add, Int32.toInt_sub, Int32.toInt_mul, Int32.toInt_neg, z_bm, z_bm2, J_ti, J_toInt, z_cn, Int32.reduceToInt]) <;> omega), z_cko _ (by (try simp (disch := omega) only [Int32.lt_iff_toInt_lt, Int32.le_iff_toInt_le, ← Int32.toInt_inj, Int32.toInt_add, Int32.toInt_sub, Int32.toInt_mul, Int32.toInt_neg, z_bm, z_bm2, J_ti, J_toInt, z_cn, Int32.reduceToInt]) <;> omega) (by (try simp (disch := omega) only [Int32.lt_iff_toInt_lt, Int32.le_iff_toInt_le, ← Int32.toInt_inj, Int32.toInt_add, Int32.toInt_sub, Int32.toInt_mul, Int32.toInt_neg, z_bm, z_bm2, J_ti, J_toInt, z_cn, Int32.reduceToInt]) <;> omega), z_cko _ (by (try simp (disch := omega) only [Int32.lt_iff_toInt_lt, Int32.le_iff_toInt_le, ← Int32.toInt_inj, Int32.toInt_add, Int32.toInt_sub, Int32.toInt_mul, Int32.toInt_neg, z_bm, z_bm2, J_ti, J_toInt, z_cn, Int32.reduceToInt]) <;> omega) (by (try simp (disch := omega) only [Int32.lt_iff_toInt_lt, Int32.le_iff_toInt_le, ← Int32.toInt_inj, Int32.toInt_add, Int32.toInt_sub, Int32.toInt_mul, Int32.toInt_neg, z_bm, z_bm2, J_ti, J_toInt, z_cn, Int32.reduceToInt]) <;> omega), eb, ev, ep2, er]
    rw [z_Whas e1 hn hwn, z_bind_some]
    refine z_neg (by decide) ?_
    refine z_ite (fun g => ?_) (fun g => z_ite (fun g1 => ?_) (fun g1 => z_ite (fun g2 => ?_) (fun g2 => z_ite (fun g3 => ?_) (fun g3 => z_ite (fun g4 => ?_) (fun g4 => ?_)))))
    · rw [z_Wheels_sizeOf (by omega), z_bind_some]
      refine k_sat_mk ?_
      rw [eR, if_pos g]
      exact k_sat_mk ⟨es, h⟩
    · rw [z_Now_placeOf (by omega), z_bind_some]
      refine k_sat_mk ?_
      rw [eR, if_neg g, if_pos g1]
      exact k_sat_mk ⟨ep, h⟩
    · rw [z_Now_waitsOf (by omega), z_bind_some]
      refine k_sat_mk ?_
      rw [eR, if_neg g, if_neg g1, if_pos g2]
      exact k_sat_mk ⟨rfl, h⟩
    · rw [z_Wheels_breakOf (by omega), z_bind_some]
      refine k_sat_mk ?_
      rw [eR, if_neg g, if_neg g1, if_neg g2, if_pos g3]
      exact k_sat_mk ⟨rfl, h⟩
    · refine k_sat_mk ?_
      rw [eR, if_neg g, if_neg g1, if_neg g2, if_neg g3, if_neg (by ((try simp (disch := omega) only [Int32.lt_iff_toInt_lt, Int32.le_iff_toInt_le, ← Int32.toInt_inj, Int32.toInt_add, Int32.toInt_sub, Int32.toInt_mul, Int32.toInt_neg, z_bm, z_bm2, J_ti, J_toInt, z_cn, Int32.reduceToInt] at *); omega))]
      exact k_sat_mk ⟨rfl, h⟩
    · have g5 : 100 ≤ b.toInt := by ((try simp (disch := omega) only [Int32.lt_iff_toInt_lt, Int32.le_iff_toInt_le, ← Int32.toInt_inj, Int32.toInt_add, Int32.toInt_sub, Int32.toInt_mul, Int32.toInt_neg, z_bm, z_bm2, J_ti, J_toInt, z_cn, Int32.reduceToInt] at *); omega)
      have g6 := z_rg b
      rcases J_or (b - 100) s with ⟨q, hq, eq⟩ | hq
      · have hb2 : b.toInt < 100 + s := by
          have := congrArg Int32.toInt eq
          ((try simp (disch := omega) only [Int32.lt_iff_toInt_lt, Int32.le_iff_toInt_le, ← Int32.toInt_inj, Int32.toInt_add, Int32.toInt_sub, Int32.toInt_mul, Int32.toInt_neg, z_bm, z_bm2, J_ti, J_toInt, z_cn, Int32.reduceToInt] at *); omega)
        rw [eq, z_WhasP e1 hn hwn es hs2 hq, z_bind_some]
        refine z_neg (by decide) ?_
        rw [z_letterAt (by omega) (by omega), z_bind_some]
        refine k_sat_mk ?_
        rw [eR, if_neg g, if_neg g1, if_neg g2, if_neg g3, if_pos ⟨g5, hb2⟩, eq, J_toNat (by omega)]
        exact k_sat_mk ⟨rfl, h⟩
      · rw [z_WhasP0 e1 hn hwn es hs2 hq, z_bind_some]
        refine z_pos rfl (k_sat_mk ?_)
        rw [eR, if_neg g, if_neg g1, if_neg g2, if_neg g3, if_neg (by ((try simp (disch := omega) only [Int32.lt_iff_toInt_lt, Int32.le_iff_toInt_le, ← Int32.toInt_inj, Int32.toInt_add, Int32.toInt_sub, Int32.toInt_mul, Int32.toInt_neg, z_bm, z_bm2, J_ti, J_toInt, z_cn, Int32.reduceToInt] at *); omega))]
        exact k_sat_mk ⟨rfl, h⟩
  · rw [z_Whas0 e1 hn ha, z_bind_some]
    refine z_pos rfl (k_sat_mk ?_)
    unfold f_R_of
    rw [z_RisWheel0 e2 hn ha, z_bind_some]
    exact z_pos rfl (k_sat_mk ⟨rfl, h⟩)
theorem z_lay (a b : Int32) (u : k_S) (h : zI u) : z_pair (f_W_lay a b) (f_R_lay a b) u zI := by
  obtain ⟨n, hn, e1, e2, hw, -⟩ := h.2.1
  obtain ⟨hm0, hm, hm2⟩ := h.2.2.1
  refine z_pair_of ?_
  unfold f_W_lay
  rcases J_or a n with ⟨w, hwn, rfl⟩ | ha
  · obtain ⟨s, hs1, hs2, es, er, eb, hl⟩ := hw w hwn
    obtain ⟨⟨p, hp, ep, ep2⟩, ev⟩ := hm w (by rw [e1, J_toInt (by omega)]; omega)
    rcases J_or b s with ⟨q, hq, rfl⟩ | hb
    · rw [z_WhasP e1 hn hwn es hs2 hq, z_bind_some]
      refine z_neg (by decide) ?_
      rw [z_Now_placeOf (by omega), z_bind_some, z_Now_stand (by omega), z_bind_some]
      refine k_sat_mk ?_
      unfold f_R_lay
      rw [z_RisWheel (n := n) (by exact e2) hn hwn, z_bind_some]
      have er2 : (k_wA (k_wA u 15 w (J q)) 16 w 0).2.1 45 w = J s := er
      have ep3 : (k_wA (k_wA u 15 w (J q)) 16 w 0).2.1 46 w = J p := ep2
      refine z_neg (by decide) (z_ck (by (try simp (disch := omega) only [Int32.lt_iff_toInt_lt, Int32.le_iff_toInt_le, ← Int32.toInt_inj, Int32.toInt_add, Int32.toInt_sub, Int32.toInt_mul, Int32.toInt_neg, z_bm, z_bm2, J_ti, J_toInt, z_cn, Int32.reduceToInt]) <;> omega) (by (try simp (disch := omega) only [Int32.lt_iff_toInt_lt, Int32.le_iff_toInt_le, ← Int32.toInt_inj, Int32.toInt_add, Int32.toInt_sub, Int32.toInt_mul, Int32.toInt_neg, z_bm, z_bm2, J_ti, J_toInt, z_cn, Int32.reduceToInt]) <;> omega) ?_)
      rw [J_toNat (show w < 2147483648 by omega), er2, z_Rin1 (by (try simp (disch := omega) only [Int32.lt_iff_toInt_lt, Int32.le_iff_toInt_le, ← Int32.toInt_inj, Int32.toInt_add, Int32.toInt_sub, Int32.toInt_mul, Int32.toInt_neg, z_bm, z_bm2, J_ti, J_toInt, z_cn, Int32.reduceToInt]) <;> omega) (by rw [J_m1 (by omega)]; (try simp (disch := omega) only [Int32.lt_iff_toInt_lt, Int32.le_iff_toInt_le, ← Int32.toInt_inj, Int32.toInt_add, Int32.toInt_sub, Int32.toInt_mul, Int32.toInt_neg, z_bm, z_bm2, J_ti, J_toInt, z_cn, Int32.reduceToInt]) <;> omega), z_bind_some]
      refine z_neg (by decide) (z_ck (by (try simp (disch := omega) only [Int32.lt_iff_toInt_lt, Int32.le_iff_toInt_le, ← Int32.toInt_inj, Int32.toInt_add, Int32.toInt_sub, Int32.toInt_mul, Int32.toInt_neg, z_bm, z_bm2, J_ti, J_toInt, z_cn, Int32.reduceToInt]) <;> omega) (by (try simp (disch := omega) only [Int32.lt_iff_toInt_lt, Int32.le_iff_toInt_le, ← Int32.toInt_inj, Int32.toInt_add, Int32.toInt_sub, Int32.toInt_mul, Int32.toInt_neg, z_bm, z_bm2, J_ti, J_toInt, z_cn, Int32.reduceToInt]) <;> omega) (z_let (z_ck (by (try simp (disch := omega) only [Int32.lt_iff_toInt_lt, Int32.le_iff_toInt_le, ← Int32.toInt_inj, Int32.toInt_add, Int32.toInt_sub, Int32.toInt_mul, Int32.toInt_neg, z_bm, z_bm2, J_ti, J_toInt, z_cn, Int32.reduceToInt]) <;> omega) (by (try simp (disch := omega) only [Int32.lt_iff_toInt_lt, Int32.le_iff_toInt_le, ← Int32.toInt_inj, Int32.toInt_add, Int32.toInt_sub, Int32.toInt_mul, Int32.toInt_neg, z_bm, z_bm2, J_ti, J_toInt, z_cn, Int32.reduceToInt]) <;> omega) (z_let (z_ck (by (try simp (disch := omega) only [Int32.lt_iff_toInt_lt, Int32.le_iff_toInt_le, ← Int32.toInt_inj, Int32.toInt_add, Int32.toInt_sub, Int32.toInt_mul, Int32.toInt_neg, z_bm, z_bm2, J_ti, J_toInt, z_cn, Int32.reduceToInt]) <;> omega) (by (try simp (disch := omega) only [Int32.lt_iff_toInt_lt, Int32.le_iff_toInt_le, ← Int32.toInt_inj, Int32.toInt_add, Int32.toInt_sub, Int32.toInt_mul, Int32.toInt_neg, z_bm, z_bm2, J_ti, J_toInt, z_cn, Int32.reduceToInt]) <;> omega) (z_let (k_sat_mk ⟨?_, ?_⟩)))))))
      · rw [ep3]; exact ep
      · refine zI_M h ((((z_wA rfl).tr (z_wA rfl)).tr (z_wA rfl)).tr (z_wA rfl)) ⟨hm0, fun v hv => ?_, fun v hv hv4 => ?_⟩
        · by_cases e : v = w
          · subst e
            refine ⟨⟨q, ?_, by simp [k_wA, z_up], by simp [k_wA, z_up]⟩, by simp [k_wA, z_up]⟩
            have : (k_wA (k_wA (k_wA (k_wA u 15 v (J q)) 16 v 0) 46 v (J q)) 47 v 0).2.1 5 v = J s := es
            rw [this, J_toInt (by omega)]
            omega
          · obtain ⟨⟨p', b1, b2, b3⟩, b4⟩ := hm v hv
            exact ⟨⟨p', b1, by simp [k_wA, z_up, e, b2], by simp [k_wA, z_up, e, b3]⟩, by simp [k_wA, z_up, e, b4]⟩
        · have hv' : (u.1 303).toInt ≤ v := hv
          have e : ¬ v = w := by rw [e1, J_toInt (by omega)] at hv'; omega
          exact ⟨by simp [k_wA, z_up, e, (hm2 v hv' hv4).1], by simp [k_wA, z_up, e, (hm2 v hv' hv4).2]⟩
    · rw [z_WhasP0 e1 hn hwn es hs2 hb, z_bind_some]
      refine z_pos rfl (k_sat_mk ?_)
      unfold f_R_lay
      rw [z_RisWheel e2 hn hwn, z_bind_some]
      refine z_neg (by decide) (z_ck (by (try simp (disch := omega) only [Int32.lt_iff_toInt_lt, Int32.le_iff_toInt_le, ← Int32.toInt_inj, Int32.toInt_add, Int32.toInt_sub, Int32.toInt_mul, Int32.toInt_neg, z_bm, z_bm2, J_ti, J_toInt, z_cn, Int32.reduceToInt]) <;> omega) (by (try simp (disch := omega) only [Int32.lt_iff_toInt_lt, Int32.le_iff_toInt_le, ← Int32.toInt_inj, Int32.toInt_add, Int32.toInt_sub, Int32.toInt_mul, Int32.toInt_neg, z_bm, z_bm2, J_ti, J_toInt, z_cn, Int32.reduceToInt]) <;> omega) ?_)
      rw [J_toNat (show w < 2147483648 by omega), er, z_Rin0 (by rw [J_m1 (by omega)]; ((try simp (disch := omega) only [Int32.lt_iff_toInt_lt, Int32.le_iff_toInt_le, ← Int32.toInt_inj, Int32.toInt_add, Int32.toInt_sub, Int32.toInt_mul, Int32.toInt_neg, z_bm, z_bm2, J_ti, J_toInt, z_cn, Int32.reduceToInt] at *); omega)), z_bind_some]
      exact z_pos rfl (k_sat_mk ⟨rfl, h⟩)
  · rw [z_WhasP00 e1 hn ha, z_bind_some]
    refine z_pos rfl (k_sat_mk ?_)
    unfold f_R_lay
    rw [z_RisWheel0 e2 hn ha, z_bind_some]
    exact z_pos rfl (k_sat_mk ⟨rfl, h⟩)
theorem z_Wleft {a : Int32} {k : Nat} {u : k_S} (h1 : 1 ≤ k) (h2 : k ≤ 40) : f_W_left a (J k) u = some (a % J k, u) := by
  unfold f_W_left k_nz
  rw [if_neg (by (try simp (disch := omega) only [Int32.lt_iff_toInt_lt, Int32.le_iff_toInt_le, ← Int32.toInt_inj, Int32.toInt_add, Int32.toInt_sub, Int32.toInt_mul, Int32.toInt_neg, z_bm, z_bm2, J_ti, J_toInt, z_cn, Int32.reduceToInt]) <;> omega), if_neg (by (try simp (disch := omega) only [Int32.lt_iff_toInt_lt, Int32.le_iff_toInt_le, ← Int32.toInt_inj, Int32.toInt_add, Int32.toInt_sub, Int32.toInt_mul, Int32.toInt_neg, z_bm, z_bm2, J_ti, J_toInt, z_cn, Int32.reduceToInt]) <;> omega)]
theorem z_day (u : k_S) (h : zI u) : z_pair f_W_day f_R_day u zI := by
  obtain ⟨n, hn, e1, e2, hw, -⟩ := h.2.1
  obtain ⟨⟨k, hk1, hk2, c1, c2⟩, -⟩ := h.2.2.2.1
  obtain ⟨-, hm, -⟩ := h.2.2.1
  refine z_pair_of ?_
  unfold f_W_day
  by_cases h0 : n = 0
  · subst h0
    refine z_pos e1 (k_sat_mk ?_)
    unfold f_R_day
    exact z_pos e2 (k_sat_mk ⟨rfl, h⟩)
  · obtain ⟨⟨p, hp, ep, ep2⟩, ev⟩ := hm 0 (by rw [e1, J_toInt (by omega)]; omega)
    refine z_neg (by rw [e1]; (try simp (disch := omega) only [Int32.lt_iff_toInt_lt, Int32.le_iff_toInt_le, ← Int32.toInt_inj, Int32.toInt_add, Int32.toInt_sub, Int32.toInt_mul, Int32.toInt_neg, z_bm, z_bm2, J_ti, J_toInt, z_cn, Int32.reduceToInt]) <;> omega) ?_
    rw [show (0 : Int32) = J 0 from rfl, z_Now_placeOf (by omega), z_bind_some]
    unfold f_Nights_dayOf
    rw [c1, z_Wleft hk1 (by omega), z_bind_some, z_bind_some]
    refine k_sat_mk ?_
    unfold f_R_day
    refine z_neg (by rw [e2]; (try simp (disch := omega) only [Int32.lt_iff_toInt_lt, Int32.le_iff_toInt_le, ← Int32.toInt_inj, Int32.toInt_add, Int32.toInt_sub, Int32.toInt_mul, Int32.toInt_neg, z_bm, z_bm2, J_ti, J_toInt, z_cn, Int32.reduceToInt]) <;> omega) (z_ck (by decide) (by decide) (z_nz (by rw [c2]; (try simp (disch := omega) only [Int32.lt_iff_toInt_lt, Int32.le_iff_toInt_le, ← Int32.toInt_inj, Int32.toInt_add, Int32.toInt_sub, Int32.toInt_mul, Int32.toInt_neg, z_bm, z_bm2, J_ti, J_toInt, z_cn, Int32.reduceToInt]) <;> omega) (k_sat_mk ⟨?_, h⟩)))
    rw [c2, ep, show (0 : Int32).toNatClampNeg = 0 from rfl, ep2]
/-! CHANGES: broke, tooth, undo, redo -/
theorem z_Cwrite {i : Nat} {a b x y : Int32} {u : k_S} (h : i < 40) : f_Changes_write (J i) a b x y u = some ((), k_wA (k_wA (k_wA (k_wA u 31 i a) 32 i b) 33 i x) 34 i y) := by
  unfold f_Changes_write
  simp only [k_let]
  rw [if_neg (by (try simp (disch := omega) only [Int32.lt_iff_toInt_lt, Int32.le_iff_toInt_le, ← Int32.toInt_inj, Int32.toInt_add, Int32.toInt_sub, Int32.toInt_mul, Int32.toInt_neg, z_bm, z_bm2, J_ti, J_toInt, z_cn, Int32.reduceToInt]) <;> omega), if_neg (by (try simp (disch := omega) only [Int32.lt_iff_toInt_lt, Int32.le_iff_toInt_le, ← Int32.toInt_inj, Int32.toInt_add, Int32.toInt_sub, Int32.toInt_mul, Int32.toInt_neg, z_bm, z_bm2, J_ti, J_toInt, z_cn, Int32.reduceToInt]) <;> omega), if_pos (by (try simp (disch := omega) only [Int32.lt_iff_toInt_lt, Int32.le_iff_toInt_le, ← Int32.toInt_inj, Int32.toInt_add, Int32.toInt_sub, Int32.toInt_mul, Int32.toInt_neg, z_bm, z_bm2, J_ti, J_toInt, z_cn, Int32.reduceToInt]) <;> omega), if_neg (by (try simp (disch := omega) only [Int32.lt_iff_toInt_lt, Int32.le_iff_toInt_le, ← Int32.toInt_inj, Int32.toInt_add, Int32.toInt_sub, Int32.toInt_mul, Int32.toInt_neg, z_bm, z_bm2, J_ti, J_toInt, z_cn, Int32.reduceToInt]) <;> omega), if_pos (by (try simp (disch := omega) only [Int32.lt_iff_toInt_lt, Int32.le_iff_toInt_le, ← Int32.toInt_inj, Int32.toInt_add, Int32.toInt_sub, Int32.toInt_mul, Int32.toInt_neg, z_bm, z_bm2, J_ti, J_toInt, z_cn, Int32.reduceToInt]) <;> omega), z_cko _ (by (try simp (disch := omega) only [Int32.lt_iff_toInt_lt, Int32.le_iff_toInt_le, ← Int32.toInt_inj, Int32.toInt_add, Int32.toInt_sub, Int32.toInt_mul, Int32.toInt_neg, z_bm, z_bm2, J_ti, J_toInt, z_cn, Int32.reduceToInt]) <;> omega) (by (try simp (disch := omega) only [Int32.lt_iff_toInt_lt, Int32.le_iff_toInt_le, ← Int32.toInt_inj, Int32.toInt_add, Int32.toInt_sub, Int32.toInt_mul, Int32.toInt_neg, z_bm, z_bm2, J_ti, J_toInt, z_cn, Int32.reduceToInt]) <;> omega), z_cko _ (by (try simp (disch := omega) only [Int32.lt_iff_toInt_lt, Int32.le_iff_toInt_le, ← Int32.toInt_inj, Int32.toInt_add, Int32.toInt_sub, Int32.toInt_mul, Int32.toInt_neg, z_bm, z_bm2, J_ti, J_toInt, z_cn, Int32.reduceToInt]) <;> omega) (by (try simp (disch := omega) only [Int32.lt_iff_toInt_lt, Int32.le_iff_toInt_le, ← Int32.toInt_inj, Int32.toInt_add, Int32.toInt_sub, Int32.toInt_mul, Int32.toInt_neg, z_bm, z_bm2, J_ti, J_toInt, z_cn, Int32.reduceToInt]) <;> omega), z_cko _ (by (try simp (disch := omega) only [Int32.lt_iff_toInt_lt, Int32.le_iff_toInt_le, ← Int32.toInt_inj, Int32.toInt_add, Int32.toInt_sub, Int32.toInt_mul, Int32.toInt_neg, z_bm, z_bm2, J_ti, J_toInt, z_cn, Int32.reduceToInt]) <;> omega) (by (try simp (disch := omega) only [Int32.lt_iff_toInt_lt, Int32.le_iff_toInt_le, ← Int32.toInt_inj, Int32.toInt_add, Int32.toInt_sub, Int32.toInt_mul, Int32.toInt_neg, z_bm, z_bm2, J_ti, J_toInt, z_cn, Int32.reduceToInt]) <;> omega), z_cko _ (by (try simp (disch := omega) only [Int32.lt_iff_toInt_lt, Int32.le_iff_toInt_le, ← Int32.toInt_inj, Int32.toInt_add, Int32.toInt_sub, Int32.toInt_mul, Int32.toInt_neg, z_bm, z_bm2, J_ti, J_toInt, z_cn, Int32.reduceToInt]) <;> omega) (by (try simp (disch := omega) only [Int32.lt_iff_toInt_lt, Int32.le_iff_toInt_le, ← Int32.toInt_inj, Int32.toInt_add, Int32.toInt_sub, Int32.toInt_mul, Int32.toInt_neg, z_bm, z_bm2, J_ti, J_toInt, z_cn, Int32.reduceToInt]) <;> omega), J_toNat (by omega)]
def z_c4 (a c : Nat) : Prop := c = a ∨ c = a + 1 ∨ c = a + 2 ∨ c = a + 3
theorem z_Cdrop (u : k_S) : k_sat (f_Changes_dropOldest u) (fun _ v => z_fr [3004] [31, 32, 33, 34] u v ∧ v.1 3004 = J 39 ∧ ∀ c, z_c4 31 c → ∀ j, j < 39 → v.2.1 c j = u.2.1 c (j + 1)) := by
  unfold f_Changes_dropOldest
  refine z_bind _ (z_for 1 40 (fun i v => z_fr [3004] [31, 32, 33, 34] u v ∧ ∀ c, z_c4 31 c → (∀ j, j + 1 < i → v.2.1 c j = u.2.1 c (j + 1)) ∧ ∀ j, i ≤ j → v.2.1 c j = u.2.1 c j) (K := fun _ v => z_fr [3004] [31, 32, 33, 34] u v ∧ ∀ c, z_c4 31 c → ∀ j, j < 39 → v.2.1 c j = u.2.1 c (j + 1)) (by omega) (by omega) ⟨z_fr.rf, fun c _ => ⟨fun j hj => by omega, fun j _ => rfl⟩⟩ (fun i v hi0 hi hp => ?_) (fun v hp => ?_)) (fun _ v hv => z_let (k_sat_mk ⟨hv.1.tr (z_wF rfl), by simp [k_wF]; rfl, hv.2⟩))
  · unfold f_Changes_dropOldest_B2
    refine z_neg (by (try simp (disch := omega) only [Int32.lt_iff_toInt_lt, Int32.le_iff_toInt_le, ← Int32.toInt_inj, Int32.toInt_add, Int32.toInt_sub, Int32.toInt_mul, Int32.toInt_neg, z_bm, z_bm2, J_ti, J_toInt, z_cn, Int32.reduceToInt]) <;> omega) ?_
    rw [z_Changes_wheelAt hi, z_bind_some, z_Changes_placeAt hi, z_bind_some, z_Changes_beforeAt hi, z_bind_some, z_Changes_afterAt hi, z_bind_some, z_Jm' (by omega), z_Cwrite (by omega), z_bind_some]
    refine k_sat_mk (Or.inl ⟨rfl, hp.1.tr ((((z_wA rfl).tr (z_wA rfl)).tr (z_wA rfl)).tr (z_wA rfl)), fun c hc => ?_⟩)
    obtain ⟨a1, a2⟩ := hp.2 c hc
    rcases hc with rfl | rfl | rfl | rfl <;> refine ⟨fun j hj => ?_, fun j hj => ?_⟩ <;> simp [k_wA, z_up] <;> by_cases e : j = i - 1
    all_goals first
      | (subst e; simp [a2 i (Nat.le_refl i), show i - 1 + 1 = i by omega]; done)
      | (simp [e, a1 j (by omega)]; done)
      | (simp [e, a2 j (by omega)]; done)
      | omega
  · unfold f_Changes_dropOldest_B2
    exact z_pos (by decide) (k_sat_mk ⟨_, rfl, hp.1, fun c hc j hj => (hp.2 c hc).1 j (by omega)⟩)
/-- what is left of the kept ones behind a new one: how many, and by how much they went on -/
def z_dd (d : Nat) : Nat := if d < 40 then d else 39
def z_sh (d : Nat) : Nat := if d < 40 then 0 else 1
theorem z_Cadd (w p b a : Int32) (u : k_S) (d : Nat) (hd : d ≤ 40) (e : u.1 3004 = J d) (hn : ¬ b = a) : k_sat (f_Changes_add w p b a u) (fun _ v => z_fr [3004, 3005] [31, 32, 33, 34] u v ∧ v.1 3004 = J (z_dd d + 1) ∧ v.1 3005 = J (z_dd d + 1) ∧ (∀ c, z_c4 31 c → ∀ j, j < z_dd d → v.2.1 c j = u.2.1 c (j + z_sh d)) ∧ v.2.1 31 (z_dd d) = w ∧ v.2.1 32 (z_dd d) = p ∧ v.2.1 33 (z_dd d) = b ∧ v.2.1 34 (z_dd d) = a) := by
  have key : ∀ (v : k_S) (k : Nat), k < 40 → v.1 3004 = J k → k_sat (f_Changes_add_J20 w p b a v) (fun _ v' => z_fr [3004, 3005] [31, 32, 33, 34] v v' ∧ v'.1 3004 = J (k + 1) ∧ v'.1 3005 = J (k + 1) ∧ (∀ c, z_c4 31 c → ∀ j, j < k → v'.2.1 c j = v.2.1 c j) ∧ v'.2.1 31 k = w ∧ v'.2.1 32 k = p ∧ v'.2.1 33 k = b ∧ v'.2.1 34 k = a) := by
    intro v k hk ek
    unfold f_Changes_add_J20
    rw [ek, z_Cwrite hk, z_bind_some]
    refine z_let (z_let (k_sat_mk ⟨(((((z_wA rfl).tr (z_wA rfl)).tr (z_wA rfl)).tr (z_wA rfl)).tr (z_wF rfl)).tr (z_wF rfl), ?_, ?_, fun c hc j hj => ?_, ?_, ?_, ?_, ?_⟩))
    · simp [k_wF, k_wA, ek, z_Jp]
    · simp [k_wF, k_wA, ek, z_Jp]
    · rcases hc with rfl | rfl | rfl | rfl <;> simp [k_wF, k_wA, z_up, show ¬ j = k by omega]
    all_goals simp [k_wF, k_wA, z_up]
  unfold f_Changes_add
  refine z_neg hn ?_
  rw [e]
  by_cases h : d < 40
  · have e1 : z_dd d = d := if_pos h
    have e2 : z_sh d = 0 := if_pos h
    rw [e1, e2]
    exact z_pos (by (try simp (disch := omega) only [Int32.lt_iff_toInt_lt, Int32.le_iff_toInt_le, ← Int32.toInt_inj, Int32.toInt_add, Int32.toInt_sub, Int32.toInt_mul, Int32.toInt_neg, z_bm, z_bm2, J_ti, J_toInt, z_cn, Int32.reduceToInt]) <;> omega) (key u d h e)
  · have e1 : z_dd d = 39 := if_neg h
    have e2 : z_sh d = 1 := if_neg h
    rw [e1, e2]
    refine z_neg (by (try simp (disch := omega) only [Int32.lt_iff_toInt_lt, Int32.le_iff_toInt_le, ← Int32.toInt_inj, Int32.toInt_add, Int32.toInt_sub, Int32.toInt_mul, Int32.toInt_neg, z_bm, z_bm2, J_ti, J_toInt, z_cn, Int32.reduceToInt]) <;> omega) (z_bind _ (z_Cdrop u) (fun _ v hv => z_mono (key v 39 (by omega) hv.2.1) (fun _ v' h' => ?_)))
    exact ⟨(hv.1.mono rfl rfl).tr h'.1, h'.2.1, h'.2.2.1, fun c hc j hj => by rw [h'.2.2.2.1 c hc j hj, hv.2.2 c hc j hj], h'.2.2.2.2⟩
/-- the reference's change: of 0 a tooth (at of all letters), 1 a break -/
theorem z_Rchanges (k : Nat) (at_ x : Int32) (u : k_S) (d : Nat) (hd : d ≤ 40) (e : u.1 4224 = J d) (hk : k = 0 ∨ k = 1) (q : Nat) (hq : at_ = J q) (hq0 : k = 0 → q < 160) (hq1 : k = 1 → q < 4) (hn : ¬ u.2.1 (if k = 0 then 44 else 48) q = x) : k_sat (f_R_changes (J k) at_ x u) (fun r v => r = u.2.1 (if k = 0 then 44 else 48) q ∧ z_fr [4224, 4225] [56, 57, 58, 59, 44, 48] u v ∧ v.1 4224 = J (z_dd d + 1) ∧ v.1 4225 = 0 ∧ (∀ c, z_c4 56 c → ∀ j, j < z_dd d → v.2.1 c j = u.2.1 c (j + z_sh d)) ∧ v.2.1 56 (z_dd d) = J k ∧ v.2.1 57 (z_dd d) = J q ∧ v.2.1 58 (z_dd d) = u.2.1 (if k = 0 then 44 else 48) q ∧ v.2.1 59 (z_dd d) = x ∧ v.2.1 44 = (if k = 0 then upd (u.2.1 44) q x else u.2.1 44) ∧ v.2.1 48 = (if k = 0 then u.2.1 48 else upd (u.2.1 48) q x)) := by
  subst hq
  have hv : ∀ v : k_S, f_R_valueAt (J k) (J q) v = some (v.2.1 (if k = 0 then 44 else 48) q, v) := by
    intro v
    unfold f_R_valueAt
    rcases hk with rfl | rfl
    · rw [if_pos rfl, z_cko _ (by (try simp (disch := omega) only [Int32.lt_iff_toInt_lt, Int32.le_iff_toInt_le, ← Int32.toInt_inj, Int32.toInt_add, Int32.toInt_sub, Int32.toInt_mul, Int32.toInt_neg, z_bm, z_bm2, J_ti, J_toInt, z_cn, Int32.reduceToInt]) <;> omega) (by have := hq0 rfl; (try simp (disch := omega) only [Int32.lt_iff_toInt_lt, Int32.le_iff_toInt_le, ← Int32.toInt_inj, Int32.toInt_add, Int32.toInt_sub, Int32.toInt_mul, Int32.toInt_neg, z_bm, z_bm2, J_ti, J_toInt, z_cn, Int32.reduceToInt]) <;> omega), J_toNat (by have := hq0 rfl; omega)]; rfl
    · rw [if_neg (by decide), z_cko _ (by (try simp (disch := omega) only [Int32.lt_iff_toInt_lt, Int32.le_iff_toInt_le, ← Int32.toInt_inj, Int32.toInt_add, Int32.toInt_sub, Int32.toInt_mul, Int32.toInt_neg, z_bm, z_bm2, J_ti, J_toInt, z_cn, Int32.reduceToInt]) <;> omega) (by have := hq1 rfl; (try simp (disch := omega) only [Int32.lt_iff_toInt_lt, Int32.le_iff_toInt_le, ← Int32.toInt_inj, Int32.toInt_add, Int32.toInt_sub, Int32.toInt_mul, Int32.toInt_neg, z_bm, z_bm2, J_ti, J_toInt, z_cn, Int32.reduceToInt]) <;> omega), J_toNat (by have := hq1 rfl; omega)]; rfl
  have hl : ∀ v : k_S, f_R_lays (J k) (J q) x v = some ((), if k = 0 then k_wA v 44 q x else k_wA v 48 q x) := by
    intro v
    unfold f_R_lays
    simp only [k_let]
    rcases hk with rfl | rfl
    · rw [if_pos rfl, z_cko _ (by (try simp (disch := omega) only [Int32.lt_iff_toInt_lt, Int32.le_iff_toInt_le, ← Int32.toInt_inj, Int32.toInt_add, Int32.toInt_sub, Int32.toInt_mul, Int32.toInt_neg, z_bm, z_bm2, J_ti, J_toInt, z_cn, Int32.reduceToInt]) <;> omega) (by have := hq0 rfl; (try simp (disch := omega) only [Int32.lt_iff_toInt_lt, Int32.le_iff_toInt_le, ← Int32.toInt_inj, Int32.toInt_add, Int32.toInt_sub, Int32.toInt_mul, Int32.toInt_neg, z_bm, z_bm2, J_ti, J_toInt, z_cn, Int32.reduceToInt]) <;> omega), J_toNat (by have := hq0 rfl; omega)]; rfl
    · rw [if_neg (by decide), z_cko _ (by (try simp (disch := omega) only [Int32.lt_iff_toInt_lt, Int32.le_iff_toInt_le, ← Int32.toInt_inj, Int32.toInt_add, Int32.toInt_sub, Int32.toInt_mul, Int32.toInt_neg, z_bm, z_bm2, J_ti, J_toInt, z_cn, Int32.reduceToInt]) <;> omega) (by have := hq1 rfl; (try simp (disch := omega) only [Int32.lt_iff_toInt_lt, Int32.le_iff_toInt_le, ← Int32.toInt_inj, Int32.toInt_add, Int32.toInt_sub, Int32.toInt_mul, Int32.toInt_neg, z_bm, z_bm2, J_ti, J_toInt, z_cn, Int32.reduceToInt]) <;> omega), J_toNat (by have := hq1 rfl; omega)]; rfl
  have key : ∀ (v : k_S) (m : Nat) (y : Int32), m < 40 → v.1 4224 = J m → v.1 4225 = 0 → k_sat (f_R_changes_J121 (J k) (J q) x y v) (fun r v' => r = y ∧ z_fr [4224, 4225] [56, 57, 58, 59, 44, 48] v v' ∧ v'.1 4224 = J (m + 1) ∧ v'.1 4225 = 0 ∧ (∀ c, z_c4 56 c → ∀ j, j < m → v'.2.1 c j = v.2.1 c j) ∧ v'.2.1 56 m = J k ∧ v'.2.1 57 m = J q ∧ v'.2.1 58 m = y ∧ v'.2.1 59 m = x ∧ v'.2.1 44 = (if k = 0 then upd (v.2.1 44) q x else v.2.1 44) ∧ v'.2.1 48 = (if k = 0 then v.2.1 48 else upd (v.2.1 48) q x)) := by
    intro v m y hm em e0
    unfold f_R_changes_J121
    simp only [k_let]
    rw [em]
    have e2 : (k_wA v 56 (J m).toNatClampNeg (J k)).1 4224 = J m := em
    rw [z_cko _ (by (try simp (disch := omega) only [Int32.lt_iff_toInt_lt, Int32.le_iff_toInt_le, ← Int32.toInt_inj, Int32.toInt_add, Int32.toInt_sub, Int32.toInt_mul, Int32.toInt_neg, z_bm, z_bm2, J_ti, J_toInt, z_cn, Int32.reduceToInt]) <;> omega) (by (try simp (disch := omega) only [Int32.lt_iff_toInt_lt, Int32.le_iff_toInt_le, ← Int32.toInt_inj, Int32.toInt_add, Int32.toInt_sub, Int32.toInt_mul, Int32.toInt_neg, z_bm, z_bm2, J_ti, J_toInt, z_cn, Int32.reduceToInt]) <;> omega), e2]
    have e3 : (k_wA (k_wA v 56 (J m).toNatClampNeg (J k)) 57 (J m).toNatClampNeg (J q)).1 4224 = J m := em
    rw [z_cko _ (by (try simp (disch := omega) only [Int32.lt_iff_toInt_lt, Int32.le_iff_toInt_le, ← Int32.toInt_inj, Int32.toInt_add, Int32.toInt_sub, Int32.toInt_mul, Int32.toInt_neg, z_bm, z_bm2, J_ti, J_toInt, z_cn, Int32.reduceToInt]) <;> omega) (by (try simp (disch := omega) only [Int32.lt_iff_toInt_lt, Int32.le_iff_toInt_le, ← Int32.toInt_inj, Int32.toInt_add, Int32.toInt_sub, Int32.toInt_mul, Int32.toInt_neg, z_bm, z_bm2, J_ti, J_toInt, z_cn, Int32.reduceToInt]) <;> omega), e3]
    have e4 : (k_wA (k_wA (k_wA v 56 (J m).toNatClampNeg (J k)) 57 (J m).toNatClampNeg (J q)) 58 (J m).toNatClampNeg y).1 4224 = J m := em
    rw [z_cko _ (by (try simp (disch := omega) only [Int32.lt_iff_toInt_lt, Int32.le_iff_toInt_le, ← Int32.toInt_inj, Int32.toInt_add, Int32.toInt_sub, Int32.toInt_mul, Int32.toInt_neg, z_bm, z_bm2, J_ti, J_toInt, z_cn, Int32.reduceToInt]) <;> omega) (by (try simp (disch := omega) only [Int32.lt_iff_toInt_lt, Int32.le_iff_toInt_le, ← Int32.toInt_inj, Int32.toInt_add, Int32.toInt_sub, Int32.toInt_mul, Int32.toInt_neg, z_bm, z_bm2, J_ti, J_toInt, z_cn, Int32.reduceToInt]) <;> omega), e4, z_cko _ (by (try simp (disch := omega) only [Int32.lt_iff_toInt_lt, Int32.le_iff_toInt_le, ← Int32.toInt_inj, Int32.toInt_add, Int32.toInt_sub, Int32.toInt_mul, Int32.toInt_neg, z_bm, z_bm2, J_ti, J_toInt, z_cn, Int32.reduceToInt]) <;> omega) (by (try simp (disch := omega) only [Int32.lt_iff_toInt_lt, Int32.le_iff_toInt_le, ← Int32.toInt_inj, Int32.toInt_add, Int32.toInt_sub, Int32.toInt_mul, Int32.toInt_neg, z_bm, z_bm2, J_ti, J_toInt, z_cn, Int32.reduceToInt]) <;> omega), hl, z_bind_some, J_toNat (show m < 2147483648 by omega)]
    rcases hk with rfl | rfl
    · refine k_sat_mk ⟨rfl, ((((((z_wA rfl).tr (z_wA rfl)).tr (z_wA rfl)).tr (z_wA rfl)).tr (z_wF rfl)).tr (z_wA rfl)), ?_, ?_, fun c hc j hj => ?_, ?_, ?_, ?_, ?_, ?_, ?_⟩
      · simp [k_wF, k_wA, em, z_Jp]
      · simp [k_wF, k_wA, e0]
      · rcases hc with rfl | rfl | rfl | rfl <;> simp [k_wF, k_wA, z_up, show ¬ j = m by omega]
      all_goals simp [k_wF, k_wA, z_up]
    · refine k_sat_mk ⟨rfl, ((((((z_wA rfl).tr (z_wA rfl)).tr (z_wA rfl)).tr (z_wA rfl)).tr (z_wF rfl)).tr (z_wA rfl)), ?_, ?_, fun c hc j hj => ?_, ?_, ?_, ?_, ?_, ?_, ?_⟩
      · simp [k_wF, k_wA, em, z_Jp]
      · simp [k_wF, k_wA, e0]
      · rcases hc with rfl | rfl | rfl | rfl <;> simp [k_wF, k_wA, z_up, show ¬ j = m by omega]
      all_goals simp [k_wF, k_wA, z_up]
  unfold f_R_changes
  rw [hv, z_bind_some]
  refine z_neg hn (z_let ?_)
  have e4 : (k_wF u 4225 0).1 4224 = J d := e
  rw [e4]
  by_cases h : d < 40
  · have e1 : z_dd d = d := if_pos h
    have e2 : z_sh d = 0 := if_pos h
    rw [e1, e2]
    refine z_neg (by (try simp (disch := omega) only [Int32.lt_iff_toInt_lt, Int32.le_iff_toInt_le, ← Int32.toInt_inj, Int32.toInt_add, Int32.toInt_sub, Int32.toInt_mul, Int32.toInt_neg, z_bm, z_bm2, J_ti, J_toInt, z_cn, Int32.reduceToInt]) <;> omega) (z_mono (key _ d _ h e4 (by simp [k_wF])) (fun r v' h' => ?_))
    exact ⟨h'.1, (z_wF rfl).tr h'.2.1, h'.2.2⟩
  · have e1 : z_dd d = 39 := if_neg h
    have e2 : z_sh d = 1 := if_neg h
    have e3 : d = 40 := by omega
    subst e3
    rw [e1, e2]
    refine z_pos rfl (z_bind _ (z_for 1 40 (fun i v => z_fr [4225] [56, 57, 58, 59] u v ∧ v.1 4225 = 0 ∧ ∀ c, z_c4 56 c → (∀ j, j + 1 < i → v.2.1 c j = u.2.1 c (j + 1)) ∧ ∀ j, i ≤ j → v.2.1 c j = u.2.1 c j) (K := fun _ v => z_fr [4225] [56, 57, 58, 59] u v ∧ v.1 4225 = 0 ∧ ∀ c, z_c4 56 c → ∀ j, j < 39 → v.2.1 c j = u.2.1 c (j + 1)) (by omega) (by omega) ⟨z_wF rfl, by simp [k_wF], fun c _ => ⟨fun j hj => by omega, fun j _ => rfl⟩⟩ (fun i v hi0 hi hp => ?_) (fun v hp => ?_)) (fun _ v hv => z_let ?_))
    · unfold f_R_changes_B34
      rw [z_Jm' (show 0 < i by omega)]
      refine z_neg (by (try simp (disch := omega) only [Int32.lt_iff_toInt_lt, Int32.le_iff_toInt_le, ← Int32.toInt_inj, Int32.toInt_add, Int32.toInt_sub, Int32.toInt_mul, Int32.toInt_neg, z_bm, z_bm2, J_ti, J_toInt, z_cn, Int32.reduceToInt]) <;> omega) (z_ck (by (try simp (disch := omega) only [Int32.lt_iff_toInt_lt, Int32.le_iff_toInt_le, ← Int32.toInt_inj, Int32.toInt_add, Int32.toInt_sub, Int32.toInt_mul, Int32.toInt_neg, z_bm, z_bm2, J_ti, J_toInt, z_cn, Int32.reduceToInt]) <;> omega) (by (try simp (disch := omega) only [Int32.lt_iff_toInt_lt, Int32.le_iff_toInt_le, ← Int32.toInt_inj, Int32.toInt_add, Int32.toInt_sub, Int32.toInt_mul, Int32.toInt_neg, z_bm, z_bm2, J_ti, J_toInt, z_cn, Int32.reduceToInt]) <;> omega) (z_ck (by (try simp (disch := omega) only [Int32.lt_iff_toInt_lt, Int32.le_iff_toInt_le, ← Int32.toInt_inj, Int32.toInt_add, Int32.toInt_sub, Int32.toInt_mul, Int32.toInt_neg, z_bm, z_bm2, J_ti, J_toInt, z_cn, Int32.reduceToInt]) <;> omega) (by (try simp (disch := omega) only [Int32.lt_iff_toInt_lt, Int32.le_iff_toInt_le, ← Int32.toInt_inj, Int32.toInt_add, Int32.toInt_sub, Int32.toInt_mul, Int32.toInt_neg, z_bm, z_bm2, J_ti, J_toInt, z_cn, Int32.reduceToInt]) <;> omega) (z_let (z_ck (by (try simp (disch := omega) only [Int32.lt_iff_toInt_lt, Int32.le_iff_toInt_le, ← Int32.toInt_inj, Int32.toInt_add, Int32.toInt_sub, Int32.toInt_mul, Int32.toInt_neg, z_bm, z_bm2, J_ti, J_toInt, z_cn, Int32.reduceToInt]) <;> omega) (by (try simp (disch := omega) only [Int32.lt_iff_toInt_lt, Int32.le_iff_toInt_le, ← Int32.toInt_inj, Int32.toInt_add, Int32.toInt_sub, Int32.toInt_mul, Int32.toInt_neg, z_bm, z_bm2, J_ti, J_toInt, z_cn, Int32.reduceToInt]) <;> omega) (z_ck (by (try simp (disch := omega) only [Int32.lt_iff_toInt_lt, Int32.le_iff_toInt_le, ← Int32.toInt_inj, Int32.toInt_add, Int32.toInt_sub, Int32.toInt_mul, Int32.toInt_neg, z_bm, z_bm2, J_ti, J_toInt, z_cn, Int32.reduceToInt]) <;> omega) (by (try simp (disch := omega) only [Int32.lt_iff_toInt_lt, Int32.le_iff_toInt_le, ← Int32.toInt_inj, Int32.toInt_add, Int32.toInt_sub, Int32.toInt_mul, Int32.toInt_neg, z_bm, z_bm2, J_ti, J_toInt, z_cn, Int32.reduceToInt]) <;> omega) (z_let (z_ck (by (try simp (disch := omega) only [Int32.lt_iff_toInt_lt, Int32.le_iff_toInt_le, ← Int32.toInt_inj, Int32.toInt_add, Int32.toInt_sub, Int32.toInt_mul, Int32.toInt_neg, z_bm, z_bm2, J_ti, J_toInt, z_cn, Int32.reduceToInt]) <;> omega) (by (try simp (disch := omega) only [Int32.lt_iff_toInt_lt, Int32.le_iff_toInt_le, ← Int32.toInt_inj, Int32.toInt_add, Int32.toInt_sub, Int32.toInt_mul, Int32.toInt_neg, z_bm, z_bm2, J_ti, J_toInt, z_cn, Int32.reduceToInt]) <;> omega) (z_ck (by (try simp (disch := omega) only [Int32.lt_iff_toInt_lt, Int32.le_iff_toInt_le, ← Int32.toInt_inj, Int32.toInt_add, Int32.toInt_sub, Int32.toInt_mul, Int32.toInt_neg, z_bm, z_bm2, J_ti, J_toInt, z_cn, Int32.reduceToInt]) <;> omega) (by (try simp (disch := omega) only [Int32.lt_iff_toInt_lt, Int32.le_iff_toInt_le, ← Int32.toInt_inj, Int32.toInt_add, Int32.toInt_sub, Int32.toInt_mul, Int32.toInt_neg, z_bm, z_bm2, J_ti, J_toInt, z_cn, Int32.reduceToInt]) <;> omega) (z_let (z_ck (by (try simp (disch := omega) only [Int32.lt_iff_toInt_lt, Int32.le_iff_toInt_le, ← Int32.toInt_inj, Int32.toInt_add, Int32.toInt_sub, Int32.toInt_mul, Int32.toInt_neg, z_bm, z_bm2, J_ti, J_toInt, z_cn, Int32.reduceToInt]) <;> omega) (by (try simp (disch := omega) only [Int32.lt_iff_toInt_lt, Int32.le_iff_toInt_le, ← Int32.toInt_inj, Int32.toInt_add, Int32.toInt_sub, Int32.toInt_mul, Int32.toInt_neg, z_bm, z_bm2, J_ti, J_toInt, z_cn, Int32.reduceToInt]) <;> omega) (z_ck (by (try simp (disch := omega) only [Int32.lt_iff_toInt_lt, Int32.le_iff_toInt_le, ← Int32.toInt_inj, Int32.toInt_add, Int32.toInt_sub, Int32.toInt_mul, Int32.toInt_neg, z_bm, z_bm2, J_ti, J_toInt, z_cn, Int32.reduceToInt]) <;> omega) (by (try simp (disch := omega) only [Int32.lt_iff_toInt_lt, Int32.le_iff_toInt_le, ← Int32.toInt_inj, Int32.toInt_add, Int32.toInt_sub, Int32.toInt_mul, Int32.toInt_neg, z_bm, z_bm2, J_ti, J_toInt, z_cn, Int32.reduceToInt]) <;> omega) (z_let ?_))))))))))))
      rw [J_toNat (show i < 2147483648 by omega), J_toNat (show i - 1 < 2147483648 by omega)]
      refine k_sat_mk (Or.inl ⟨rfl, hp.1.tr ((((z_wA rfl).tr (z_wA rfl)).tr (z_wA rfl)).tr (z_wA rfl)), hp.2.1, fun c hc => ?_⟩)
      obtain ⟨a1, a2⟩ := hp.2.2 c hc
      rcases hc with rfl | rfl | rfl | rfl <;> refine ⟨fun j hj => ?_, fun j hj => ?_⟩ <;> simp [k_wA, z_up] <;> by_cases e : j = i - 1
      all_goals first
        | (subst e; simp [a2 i (Nat.le_refl i), show i - 1 + 1 = i by omega]; done)
        | (simp [e, a1 j (by omega)]; done)
        | (simp [e, a2 j (by omega)]; done)
        | omega
    · unfold f_R_changes_B34
      exact z_pos (by decide) (k_sat_mk ⟨_, rfl, hp.1, hp.2.1, fun c hc j hj => (hp.2.2 c hc).1 j (by omega)⟩)
    · have e5 : v.1 4224 = J 40 := (hv.1.1 4224 rfl).trans e
      rw [e5, show J 40 - 1 = J 39 from z_Jm 39]
      refine z_mono (key _ 39 _ (by omega) (by simp [k_wF]) (by simp [k_wF, hv.2.1])) (fun r v' h' => ?_)
      obtain ⟨b1, b2, b3, b4, b5, b6, b7, b8, b9, b10, b11⟩ := h'
      exact ⟨b1, (hv.1.mono rfl rfl).tr ((z_wF rfl).tr b2), b3, b4, fun c hc j hj => by rw [b5 c hc j hj]; exact hv.2.2 c hc j hj, b6, b7, b8, b9, by rw [b10, show (k_wF v 4224 (J 39)).2.1 44 = u.2.1 44 from hv.1.2.1 44 rfl], by rw [b11, show (k_wF v 4224 (J 39)).2.1 48 = u.2.1 48 from hv.1.2.1 48 rfl]⟩
/-! CHANGES, both sides: broke, tooth, undo, redo -/
theorem z_wA_self (u : k_S) (c q : Nat) : k_wA u c q (u.2.1 c q) = u := by
  obtain ⟨a, b, d⟩ := u
  simp only [k_wA]
  congr 2
  funext e
  by_cases he : e = c
  · rw [if_pos he]
    funext j
    rw [z_up]
    by_cases hj : j = q
    · rw [if_pos hj, hj, he]
    · rw [if_neg hj, he]
  · rw [if_neg he]
theorem z_chg (kk w q n s : Nat) (p x : Int32) (u : k_S) (h : zI u) (en : u.1 303 = J n) (hn : n ≤ 4) (hw : w < n) (es : u.2.1 5 w = J s) (hs : s ≤ 40) (hp : (kk = 1 ∧ p = -1 ∧ q = w) ∨ (kk = 0 ∧ ∃ pp, pp < s ∧ p = J pp ∧ q = 40 * w + pp)) : k_sat (f_Changes_add (J w) p (u.2.1 (if kk = 0 then 4 else 6) q) x (k_wA u (if kk = 0 then 4 else 6) q x)) (fun _ u1 => z_fr [3004, 3005] [31, 32, 33, 34, 4, 6] u u1 ∧ k_sat (f_R_changes (J kk) (J q) x u1) (fun r u2 => u.2.1 (if kk = 0 then 4 else 6) q = r ∧ zI u2)) := by
  obtain ⟨n', hn', f1, f2, hN, hN2⟩ := h.2.1
  have : n' = n := by
    have := f1.symm.trans en
    rw [J_inj (by omega) (by omega)] at this
    exact this
  subst this
  obtain ⟨d, k, hdk, hk, c1, c2, c3, c4, hC⟩ := h.2.2.2.2.2.2.2.1
  have hkk : kk = 0 ∨ kk = 1 := by rcases hp with ⟨a, -⟩ | ⟨a, -⟩ <;> omega
  have hq0 : kk = 0 → q < 160 := by rcases hp with ⟨a, -⟩ | ⟨a, pp, a1, -, a2⟩ <;> omega
  have hq1 : kk = 1 → q < 4 := by rcases hp with ⟨a, -, a2⟩ | ⟨a, -⟩ <;> omega
  have hold : u.2.1 (if kk = 0 then 44 else 48) q = u.2.1 (if kk = 0 then 4 else 6) q := by
    obtain ⟨s', _, _, b1, b2, b3, b4⟩ := hN w hw
    rcases hp with ⟨rfl, -, rfl⟩ | ⟨rfl, pp, a1, -, rfl⟩
    · exact b3
    · have : s' = s := by
        have := b1.symm.trans es
        rw [J_inj (by omega) (by omega)] at this
        exact this
      subst this
      exact b4 pp a1
  by_cases hx : u.2.1 (if kk = 0 then 4 else 6) q = x
  · have e1 : k_wA u (if kk = 0 then 4 else 6) q x = u := by rw [← hx]; exact z_wA_self u _ q
    rw [e1]
    unfold f_Changes_add
    refine z_pos hx (k_sat_mk ⟨z_fr.rf, ?_⟩)
    unfold f_R_changes f_R_valueAt
    rcases hkk with rfl | rfl
    · rw [if_pos (show J 0 = 0 from rfl), z_cko _ (by (try simp (disch := omega) only [Int32.lt_iff_toInt_lt, Int32.le_iff_toInt_le, ← Int32.toInt_inj, Int32.toInt_add, Int32.toInt_sub, Int32.toInt_mul, Int32.toInt_neg, z_bm, z_bm2, J_ti, J_toInt, z_cn, Int32.reduceToInt]) <;> omega) (by have := hq0 rfl; (try simp (disch := omega) only [Int32.lt_iff_toInt_lt, Int32.le_iff_toInt_le, ← Int32.toInt_inj, Int32.toInt_add, Int32.toInt_sub, Int32.toInt_mul, Int32.toInt_neg, z_bm, z_bm2, J_ti, J_toInt, z_cn, Int32.reduceToInt]) <;> omega), J_toNat (by have := hq0 rfl; omega), z_bind_some]
      exact z_pos (hold.trans hx) (k_sat_mk ⟨hold.symm, h⟩)
    · rw [if_neg (show ¬ J 1 = 0 by decide), z_cko _ (by (try simp (disch := omega) only [Int32.lt_iff_toInt_lt, Int32.le_iff_toInt_le, ← Int32.toInt_inj, Int32.toInt_add, Int32.toInt_sub, Int32.toInt_mul, Int32.toInt_neg, z_bm, z_bm2, J_ti, J_toInt, z_cn, Int32.reduceToInt]) <;> omega) (by have := hq1 rfl; (try simp (disch := omega) only [Int32.lt_iff_toInt_lt, Int32.le_iff_toInt_le, ← Int32.toInt_inj, Int32.toInt_add, Int32.toInt_sub, Int32.toInt_mul, Int32.toInt_neg, z_bm, z_bm2, J_ti, J_toInt, z_cn, Int32.reduceToInt]) <;> omega), J_toNat (by have := hq1 rfl; omega), z_bind_some]
      exact z_pos (hold.trans hx) (k_sat_mk ⟨hold.symm, h⟩)
  · refine z_mono (z_Cadd (J w) p _ x (k_wA u (if kk = 0 then 4 else 6) q x) d (by omega) c1 hx) (fun _ u1 h1 => ?_)
    obtain ⟨g1, g2, g3, g4, g5, g6, g7, g8⟩ := h1
    refine ⟨(show z_fr [3004, 3005] [31, 32, 33, 34, 4, 6] u (k_wA u (if kk = 0 then 4 else 6) q x) by rcases hkk with rfl | rfl <;> exact z_wA rfl).tr (g1.mono rfl rfl), ?_⟩
    have f44 : u1.2.1 44 = u.2.1 44 := by rw [g1.2.1 44 rfl]; rcases hkk with rfl | rfl <;> rfl
    have f48 : u1.2.1 48 = u.2.1 48 := by rw [g1.2.1 48 rfl]; rcases hkk with rfl | rfl <;> rfl
    have fo : u1.2.1 (if kk = 0 then 44 else 48) q = u.2.1 (if kk = 0 then 4 else 6) q := by
      rw [← hold]
      rcases hkk with rfl | rfl
      · exact congrFun f44 q
      · exact congrFun f48 q
    refine z_mono (z_Rchanges kk (J q) x u1 d (by omega) ((g1.1 4224 rfl).trans c3) hkk q rfl hq0 hq1 (by rw [fo]; exact hx)) (fun r u2 h2 => ⟨?_, ?_⟩)
    · rw [h2.1, fo]
    obtain ⟨-, k1, k2, k3, k4, k5, k6, k7, k8, k9, k10⟩ := h2
    have hfr : z_fr ([3004, 3005, 4224, 4225] ++ [1702, 1206, 704, 1002, 1003, 2405, 2406, 2407, 3504, 4212, 4213, 4214, 4215, 4230]) ([31, 32, 33, 34, 56, 57, 58, 59, 4, 6, 44, 48] ++ [9, 11, 13, 18, 19, 25, 26, 54, 55, 60, 61, 62, 67, 75]) u u2 := by
      refine ((?_ : z_fr _ _ u _).tr (g1.mono rfl rfl)).tr (k1.mono rfl rfl)
      rcases hkk with rfl | rfl
      · exact z_wA rfl
      · exact z_wA rfl
    have l4 : u2.2.1 4 = if kk = 0 then upd (u.2.1 4) q x else u.2.1 4 := by
      rw [k1.2.1 4 rfl, g1.2.1 4 rfl]
      rcases hkk with rfl | rfl <;> rfl
    have l6 : u2.2.1 6 = if kk = 0 then u.2.1 6 else upd (u.2.1 6) q x := by
      rw [k1.2.1 6 rfl, g1.2.1 6 rfl]
      rcases hkk with rfl | rfl <;> rfl
    have l5 : u2.2.1 5 = u.2.1 5 := hfr.2.1 5 rfl
    have l303 : u2.1 303 = u.1 303 := hfr.1 303 rfl
    refine zI_NC h hfr ⟨n', hn', l303.trans f1, (hfr.1 4203 rfl).trans f2, fun v hv => ?_, fun v hv hv4 => ?_⟩ ⟨z_dd d + 1, z_dd d + 1, Nat.le_refl _, by unfold z_dd; split <;> omega, (k1.1 3004 rfl).trans g2, (k1.1 3005 rfl).trans g3, k2, by rw [k3, Nat.sub_self, J_0], fun i hi => ?_⟩
    · obtain ⟨s', b0, b00, b1, b2, b3, b4⟩ := hN v hv
      refine ⟨s', b0, b00, by rw [l5]; exact b1, by rw [hfr.2.1 45 rfl]; exact b2, ?_, fun p' hp' => ?_⟩
      · rw [k10, l6, f48]
        rcases hkk with rfl | rfl
        · exact b3
        · show upd (u.2.1 48) q x v = upd (u.2.1 6) q x v
          rw [z_up, z_up, b3]
      · rw [k9, l4, f44]
        rcases hkk with rfl | rfl
        · show upd (u.2.1 44) q x _ = upd (u.2.1 4) q x _
          rw [z_up, z_up, b4 p' hp']
        · exact b4 p' hp'
    · rw [l6]
      rcases hp with ⟨rfl, -, rfl⟩ | ⟨rfl, -⟩
      · show upd (u.2.1 6) q x v = 0
        rw [z_up, if_neg (by omega)]
        exact hN2 v hv hv4
      · exact hN2 v hv hv4
    · have m1 : ∀ c, c ∈ [31, 32, 33, 34] → u2.2.1 c = u1.2.1 c := by
        intro c hc
        simp only [List.mem_cons, List.not_mem_nil, or_false] at hc
        rcases hc with rfl | rfl | rfl | rfl <;> exact k1.2.1 _ rfl
      rw [m1 31 (by simp), m1 32 (by simp), m1 33 (by simp), m1 34 (by simp), l303, l5]
      by_cases e : i = z_dd d
      · subst e
        rw [k7, k8, k5, k6, g5, g6, g7, g8, fo]
        refine ⟨rfl, rfl, w, by rw [en, J_toInt (by omega)]; omega, rfl, ?_⟩
        rcases hp with ⟨rfl, rfl, rfl⟩ | ⟨rfl, pp, a1, rfl, rfl⟩
        · exact Or.inl ⟨rfl, rfl, rfl⟩
        · exact Or.inr ⟨pp, by rw [es, J_toInt (by omega)]; omega, rfl, rfl, rfl⟩
      · have hi' : i < z_dd d := by omega
        have r1 : ∀ c, z_c4 31 c → u1.2.1 c i = u.2.1 c (i + z_sh d) := fun c hc => by
          rw [g4 c hc i hi']
          rcases hkk with rfl | rfl <;> rcases hc with rfl | rfl | rfl | rfl <;> rfl
        have r2 : ∀ c, z_c4 56 c → u2.2.1 c i = u.2.1 c (i + z_sh d) := fun c hc => by
          rw [k4 c hc i hi', g1.2.1 c (by rcases hc with rfl | rfl | rfl | rfl <;> rfl)]
          rcases hkk with rfl | rfl <;> rcases hc with rfl | rfl | rfl | rfl <;> rfl
        rw [r1 31 (Or.inl rfl), r1 32 (Or.inr (Or.inl rfl)), r1 33 (Or.inr (Or.inr (Or.inl rfl))), r1 34 (Or.inr (Or.inr (Or.inr rfl))), r2 56 (Or.inl rfl), r2 57 (Or.inr (Or.inl rfl)), r2 58 (Or.inr (Or.inr (Or.inl rfl))), r2 59 (Or.inr (Or.inr (Or.inr rfl)))]
        exact hC (i + z_sh d) (by unfold z_dd at hi'; unfold z_sh; split at hi' <;> simp [*] <;> omega)
theorem z_broke (a b : Int32) (u : k_S) (h : zI u) : z_pair (f_W_broke a b) (f_R_broke a b) u zI := by
  obtain ⟨n, hn, e1, e2, hw, -⟩ := h.2.1
  refine z_pair_of ?_
  unfold f_W_broke
  rcases J_or a n with ⟨w, hwn, rfl⟩ | ha
  · obtain ⟨s, hs1, hs2, es, er, eb, hl⟩ := hw w hwn
    rw [z_Whas e1 hn hwn, z_bind_some]
    refine z_neg (by decide) ?_
    by_cases hb : 0 ≤ b.toInt ∧ b.toInt ≤ 9999
    · refine z_neg (by (try simp (disch := omega) only [Int32.lt_iff_toInt_lt, Int32.le_iff_toInt_le, ← Int32.toInt_inj, Int32.toInt_add, Int32.toInt_sub, Int32.toInt_mul, Int32.toInt_neg, z_bm, z_bm2, J_ti, J_toInt, z_cn, Int32.reduceToInt]) <;> omega) (z_pos (by (try simp (disch := omega) only [Int32.lt_iff_toInt_lt, Int32.le_iff_toInt_le, ← Int32.toInt_inj, Int32.toInt_add, Int32.toInt_sub, Int32.toInt_mul, Int32.toInt_neg, z_bm, z_bm2, J_ti, J_toInt, z_cn, Int32.reduceToInt]) <;> omega) ?_)
      rw [z_Wheels_breakOf (by omega), z_bind_some, z_setBreak (by omega), z_bind_some]
      refine z_bind _ (z_chg 1 w w n s (-1) b u h e1 hn hwn es hs2 (Or.inl ⟨rfl, rfl, rfl⟩)) (fun _ u1 h1 => k_sat_mk ?_)
      obtain ⟨g0, ⟨r, u2⟩, g1, g2, g3⟩ := h1
      unfold f_R_broke
      have q2 : u1.1 4203 = J n := (g0.1 4203 rfl).trans e2
      rw [z_RisWheel q2 hn hwn, z_bind_some]
      refine z_neg (by decide) ?_
      rw [z_Rin1 (by (try simp (disch := omega) only [Int32.lt_iff_toInt_lt, Int32.le_iff_toInt_le, ← Int32.toInt_inj, Int32.toInt_add, Int32.toInt_sub, Int32.toInt_mul, Int32.toInt_neg, z_bm, z_bm2, J_ti, J_toInt, z_cn, Int32.reduceToInt]) <;> omega) (by (try simp (disch := omega) only [Int32.lt_iff_toInt_lt, Int32.le_iff_toInt_le, ← Int32.toInt_inj, Int32.toInt_add, Int32.toInt_sub, Int32.toInt_mul, Int32.toInt_neg, z_bm, z_bm2, J_ti, J_toInt, z_cn, Int32.reduceToInt]) <;> omega), z_bind_some]
      refine z_neg (by decide) ?_
      have g1 : f_R_changes 1 (J w) b u1 = some (r, u2) := g1
      rw [g1, z_bind_some]
      exact k_sat_mk ⟨g2, g3⟩
    · have hR : k_sat (f_R_broke (J w) b u) (fun r' v => (-1 : Int32) = r' ∧ zI v) := by
        unfold f_R_broke
        rw [z_RisWheel e2 hn hwn, z_bind_some]
        refine z_neg (by decide) ?_
        rw [z_Rin0 (by ((try simp (disch := omega) only [Int32.lt_iff_toInt_lt, Int32.le_iff_toInt_le, ← Int32.toInt_inj, Int32.toInt_add, Int32.toInt_sub, Int32.toInt_mul, Int32.toInt_neg, z_bm, z_bm2, J_ti, J_toInt, z_cn, Int32.reduceToInt] at *); omega)), z_bind_some]
        exact z_pos rfl (k_sat_mk ⟨rfl, h⟩)
      exact z_ite (fun _ => k_sat_mk hR) (fun _ => z_neg (by ((try simp (disch := omega) only [Int32.lt_iff_toInt_lt, Int32.le_iff_toInt_le, ← Int32.toInt_inj, Int32.toInt_add, Int32.toInt_sub, Int32.toInt_mul, Int32.toInt_neg, z_bm, z_bm2, J_ti, J_toInt, z_cn, Int32.reduceToInt] at *); omega)) (k_sat_mk hR))
  · rw [z_Whas0 e1 hn ha, z_bind_some]
    refine z_pos rfl (k_sat_mk ?_)
    unfold f_R_broke
    rw [z_RisWheel0 e2 hn ha, z_bind_some]
    exact z_pos rfl (k_sat_mk ⟨rfl, h⟩)
theorem z_isTooth (x : Int32) (u v : k_S) : (f_W_isTooth x u = some (0, u) ∧ f_R_isTooth x v = some (0, v)) ∨ f_W_isTooth x u = some (1, u) ∧ f_R_isTooth x v = some (1, v) := by
  unfold f_W_isTooth f_R_isTooth
  by_cases h1 : x = 119
  · right; rw [if_pos h1, if_pos h1]; exact ⟨rfl, rfl⟩
  by_cases h2 : x = 115
  · right; rw [if_neg h1, if_neg h1, if_pos h2, if_pos h2]; exact ⟨rfl, rfl⟩
  by_cases h3 : x = 102
  · right; rw [if_neg h1, if_neg h1, if_neg h2, if_neg h2, if_pos h3, if_pos h3]; exact ⟨rfl, rfl⟩
  by_cases h4 : x = 98
  · right; rw [if_neg h1, if_neg h1, if_neg h2, if_neg h2, if_neg h3, if_neg h3, if_pos h4, if_pos h4]; exact ⟨rfl, rfl⟩
  rw [if_neg h1, if_neg h1, if_neg h2, if_neg h2, if_neg h3, if_neg h3, if_neg h4, if_neg h4]
  by_cases h5 : x < 49
  · left; rw [if_pos h5, z_Rin0 (by ((try simp (disch := omega) only [Int32.lt_iff_toInt_lt, Int32.le_iff_toInt_le, ← Int32.toInt_inj, Int32.toInt_add, Int32.toInt_sub, Int32.toInt_mul, Int32.toInt_neg, z_bm, z_bm2, J_ti, J_toInt, z_cn, Int32.reduceToInt] at *); omega)), z_bind_some, if_pos rfl]; exact ⟨rfl, rfl⟩
  by_cases h6 : 57 < x
  · left; rw [if_neg h5, if_pos h6, z_Rin0 (by ((try simp (disch := omega) only [Int32.lt_iff_toInt_lt, Int32.le_iff_toInt_le, ← Int32.toInt_inj, Int32.toInt_add, Int32.toInt_sub, Int32.toInt_mul, Int32.toInt_neg, z_bm, z_bm2, J_ti, J_toInt, z_cn, Int32.reduceToInt] at *); omega)), z_bind_some, if_pos rfl]; exact ⟨rfl, rfl⟩
  right; rw [if_neg h5, if_neg h6, z_Rin1 (by ((try simp (disch := omega) only [Int32.lt_iff_toInt_lt, Int32.le_iff_toInt_le, ← Int32.toInt_inj, Int32.toInt_add, Int32.toInt_sub, Int32.toInt_mul, Int32.toInt_neg, z_bm, z_bm2, J_ti, J_toInt, z_cn, Int32.reduceToInt] at *); omega)) (by ((try simp (disch := omega) only [Int32.lt_iff_toInt_lt, Int32.le_iff_toInt_le, ← Int32.toInt_inj, Int32.toInt_add, Int32.toInt_sub, Int32.toInt_mul, Int32.toInt_neg, z_bm, z_bm2, J_ti, J_toInt, z_cn, Int32.reduceToInt] at *); omega)), z_bind_some, if_neg (by decide)]; exact ⟨rfl, rfl⟩
theorem z_tooth (a b x : Int32) (u : k_S) (h : zI u) : z_pair (f_W_tooth a b x) (f_R_tooth a b x) u zI := by
  obtain ⟨n, hn, e1, e2, hw, -⟩ := h.2.1
  refine z_pair_of ?_
  unfold f_W_tooth
  rcases J_or a n with ⟨w, hwn, rfl⟩ | ha
  · obtain ⟨s, hs1, hs2, es, er, eb, hl⟩ := hw w hwn
    rcases J_or b s with ⟨q, hq, rfl⟩ | hb
    · rw [z_WhasP e1 hn hwn es hs2 hq, z_bind_some]
      refine z_neg (by decide) ?_
      have pre : ∀ v : k_S, v.1 4203 = J n → v.2.1 45 w = J s → f_R_tooth (J w) (J q) x v = k_bind (f_R_isTooth x v) (fun r6 u5 => if r6 = 0 then some ((-1), u5) else k_bind (f_R_changes 0 ((40 * J w) + J q) x u5) (fun r8 u7 => some (r8, u7))) := by
        intro v v1 v2
        unfold f_R_tooth
        rw [z_RisWheel v1 hn hwn, z_bind_some, if_neg (by decide), z_cko _ (by (try simp (disch := omega) only [Int32.lt_iff_toInt_lt, Int32.le_iff_toInt_le, ← Int32.toInt_inj, Int32.toInt_add, Int32.toInt_sub, Int32.toInt_mul, Int32.toInt_neg, z_bm, z_bm2, J_ti, J_toInt, z_cn, Int32.reduceToInt]) <;> omega) (by (try simp (disch := omega) only [Int32.lt_iff_toInt_lt, Int32.le_iff_toInt_le, ← Int32.toInt_inj, Int32.toInt_add, Int32.toInt_sub, Int32.toInt_mul, Int32.toInt_neg, z_bm, z_bm2, J_ti, J_toInt, z_cn, Int32.reduceToInt]) <;> omega), J_toNat (show w < 2147483648 by omega), v2, z_Rin1 (by (try simp (disch := omega) only [Int32.lt_iff_toInt_lt, Int32.le_iff_toInt_le, ← Int32.toInt_inj, Int32.toInt_add, Int32.toInt_sub, Int32.toInt_mul, Int32.toInt_neg, z_bm, z_bm2, J_ti, J_toInt, z_cn, Int32.reduceToInt]) <;> omega) (by rw [J_m1 (by omega)]; (try simp (disch := omega) only [Int32.lt_iff_toInt_lt, Int32.le_iff_toInt_le, ← Int32.toInt_inj, Int32.toInt_add, Int32.toInt_sub, Int32.toInt_mul, Int32.toInt_neg, z_bm, z_bm2, J_ti, J_toInt, z_cn, Int32.reduceToInt]) <;> omega), z_bind_some, if_neg (by decide)]
      rcases z_isTooth x u u with ⟨t1, t2⟩ | ⟨t1, t2⟩
      · rw [t1, z_bind_some]
        refine z_pos rfl (k_sat_mk ?_)
        rw [pre u e2 er, t2, z_bind_some]
        exact z_pos rfl (k_sat_mk ⟨rfl, h⟩)
      · rw [t1, z_bind_some]
        refine z_neg (by decide) ?_
        rw [z_letterAt (by omega) (by omega), z_bind_some, z_setLetter (by omega) (by omega), z_bind_some]
        refine z_bind _ (z_chg 0 w (40 * w + q) n s (J q) x u h e1 hn hwn es hs2 (Or.inr ⟨rfl, q, hq, rfl, rfl⟩)) (fun _ u1 h1 => k_sat_mk ?_)
        obtain ⟨g0, ⟨r, u2⟩, g1, g2, g3⟩ := h1
        have t3 : f_R_isTooth x u1 = some (1, u1) := by
          rcases z_isTooth x u u1 with ⟨t4, t5⟩ | ⟨t4, t5⟩
          · rw [t1] at t4; cases t4
          · exact t5
        rw [pre u1 ((g0.1 4203 rfl).trans e2) (by rw [g0.2.1 45 rfl]; exact er), t3, z_bind_some]
        refine z_neg (by decide) ?_
        have g1 : f_R_changes 0 (J (40 * w + q)) x u1 = some (r, u2) := g1
        rw [J_40, g1, z_bind_some]
        exact k_sat_mk ⟨g2, g3⟩
    · rw [z_WhasP0 e1 hn hwn es hs2 hb, z_bind_some]
      refine z_pos rfl (k_sat_mk ?_)
      unfold f_R_tooth
      rw [z_RisWheel e2 hn hwn, z_bind_some]
      refine z_neg (by decide) (z_ck (by (try simp (disch := omega) only [Int32.lt_iff_toInt_lt, Int32.le_iff_toInt_le, ← Int32.toInt_inj, Int32.toInt_add, Int32.toInt_sub, Int32.toInt_mul, Int32.toInt_neg, z_bm, z_bm2, J_ti, J_toInt, z_cn, Int32.reduceToInt]) <;> omega) (by (try simp (disch := omega) only [Int32.lt_iff_toInt_lt, Int32.le_iff_toInt_le, ← Int32.toInt_inj, Int32.toInt_add, Int32.toInt_sub, Int32.toInt_mul, Int32.toInt_neg, z_bm, z_bm2, J_ti, J_toInt, z_cn, Int32.reduceToInt]) <;> omega) ?_)
      rw [J_toNat (show w < 2147483648 by omega), er, z_Rin0 (by rw [J_m1 (by omega)]; ((try simp (disch := omega) only [Int32.lt_iff_toInt_lt, Int32.le_iff_toInt_le, ← Int32.toInt_inj, Int32.toInt_add, Int32.toInt_sub, Int32.toInt_mul, Int32.toInt_neg, z_bm, z_bm2, J_ti, J_toInt, z_cn, Int32.reduceToInt] at *); omega)), z_bind_some]
      exact z_pos rfl (k_sat_mk ⟨rfl, h⟩)
  · rw [z_WhasP00 e1 hn ha, z_bind_some]
    refine z_pos rfl (k_sat_mk ?_)
    unfold f_R_tooth
    rw [z_RisWheel0 e2 hn ha, z_bind_some]
    exact z_pos rfl (k_sat_mk ⟨rfl, h⟩)
/-- a kept change is laid, by both -/
theorem z_lays (i : Nat) (cw cr : Nat) (hc : (cw = 33 ∧ cr = 58) ∨ (cw = 34 ∧ cr = 59)) (u : k_S) (hN : zN u) (hi : i < 40) (hC : u.2.1 cr i = u.2.1 cw i ∧ ∃ w : Nat, (w : Int) < (u.1 303).toInt ∧ u.2.1 31 i = J w ∧ ((u.2.1 32 i = -1 ∧ u.2.1 56 i = 1 ∧ u.2.1 57 i = J w) ∨ ∃ p : Nat, (p : Int) < (u.2.1 5 w).toInt ∧ u.2.1 32 i = J p ∧ u.2.1 56 i = 0 ∧ u.2.1 57 i = J (40 * w + p))) : k_sat (f_W_apply (J i) (u.2.1 cw i) u) (fun _ v => z_fr [] [4, 6] u v ∧ ∀ v', z_fr [3004, 4224, 4225] [] v v' → k_sat (f_R_lays (u.2.1 56 i) (u.2.1 57 i) (u.2.1 cr i) v') (fun _ v2 => z_fr [] [44, 48] v' v2 ∧ zN v2)) := by
  obtain ⟨n, hn, e1, e2, hw, hz⟩ := hN
  obtain ⟨ec, w, hwn, c1, hcc⟩ := hC
  rw [e1, J_toInt (by omega)] at hwn
  have hwn' : w < n := by omega
  obtain ⟨s, hs1, hs2, es, er, eb, hl⟩ := hw w hwn'
  have nN : ∀ v2 : k_S, v2.1 303 = J n → v2.1 4203 = J n → v2.2.1 5 = u.2.1 5 → v2.2.1 45 = u.2.1 45 → (∀ v, v < n → v2.2.1 48 v = v2.2.1 6 v) → (∀ v p, v < n → (∀ s', u.2.1 5 v = J s' → s' ≤ 40 → p < s' → u.2.1 44 (40 * v + p) = u.2.1 4 (40 * v + p) → v2.2.1 44 (40 * v + p) = v2.2.1 4 (40 * v + p))) → (∀ v, n ≤ v → v < 4 → v2.2.1 6 v = 0) → zN v2 := by
    intro v2 a1 a2 a3 a4 a5 a6 a7
    refine ⟨n, hn, a1, a2, fun v hv => ?_, a7⟩
    obtain ⟨s', b0, b00, b1, b2, b3, b4⟩ := hw v hv
    exact ⟨s', b0, b00, by rw [a3]; exact b1, by rw [a4]; exact b2, a5 v hv, fun p hp => a6 v p hv s' b1 b00 hp (b4 p hp)⟩
  unfold f_W_apply
  rw [z_Changes_wheelAt hi, z_bind_some, z_Changes_placeAt hi, z_bind_some, c1]
  rcases hcc with ⟨d1, d2, d3⟩ | ⟨p, hp, d1, d2, d3⟩
  · rw [d1]
    refine z_pos rfl ?_
    rw [z_setBreak (by omega), z_bind_some]
    refine k_sat_mk ⟨z_wA rfl, fun v' hv' => ?_⟩
    unfold f_R_lays
    rw [d2, d3, ec]
    refine z_neg (by decide) (z_ck (by (try simp (disch := omega) only [Int32.lt_iff_toInt_lt, Int32.le_iff_toInt_le, ← Int32.toInt_inj, Int32.toInt_add, Int32.toInt_sub, Int32.toInt_mul, Int32.toInt_neg, z_bm, z_bm2, J_ti, J_toInt, z_cn, Int32.reduceToInt]) <;> omega) (by (try simp (disch := omega) only [Int32.lt_iff_toInt_lt, Int32.le_iff_toInt_le, ← Int32.toInt_inj, Int32.toInt_add, Int32.toInt_sub, Int32.toInt_mul, Int32.toInt_neg, z_bm, z_bm2, J_ti, J_toInt, z_cn, Int32.reduceToInt]) <;> omega) (z_let (k_sat_mk ⟨z_wA rfl, nN _ ?_ ?_ ?_ ?_ (fun v hv => ?_) (fun v p hv s' q1 q2 q3 q4 => ?_) (fun v hv hv4 => ?_)⟩)))
    · exact (hv'.1 303 rfl).trans e1
    · exact (hv'.1 4203 rfl).trans e2
    · exact hv'.2.1 5 rfl
    · exact hv'.2.1 45 rfl
    · have b6 : v'.2.1 6 = upd (u.2.1 6) w (u.2.1 cw i) := by rw [hv'.2.1 6 rfl]; simp [k_wA]
      have b48 : v'.2.1 48 = u.2.1 48 := by rw [hv'.2.1 48 rfl]; simp [k_wA]
      simp only [k_wA, if_true, J_toNat (show w < 2147483648 by omega)]
      rw [if_neg (by decide), b6, b48, z_up, z_up]
      obtain ⟨s', -, -, -, -, b3, -⟩ := hw v hv
      rw [b3]
    · have b4 : v'.2.1 4 = u.2.1 4 := by rw [hv'.2.1 4 rfl]; simp [k_wA]
      have b44 : v'.2.1 44 = u.2.1 44 := by rw [hv'.2.1 44 rfl]; simp [k_wA]
      simp only [k_wA]
      rw [if_neg (by decide), if_neg (by decide), b4, b44]
      exact q4
    · have b6 : v'.2.1 6 = upd (u.2.1 6) w (u.2.1 cw i) := by rw [hv'.2.1 6 rfl]; simp [k_wA]
      simp only [k_wA]
      rw [if_neg (by decide), b6, z_up, if_neg (by omega)]
      exact hz v hv hv4
  · rw [d1]
    rw [es, J_toInt (by omega)] at hp
    refine z_neg (by (try simp (disch := omega) only [Int32.lt_iff_toInt_lt, Int32.le_iff_toInt_le, ← Int32.toInt_inj, Int32.toInt_add, Int32.toInt_sub, Int32.toInt_mul, Int32.toInt_neg, z_bm, z_bm2, J_ti, J_toInt, z_cn, Int32.reduceToInt]) <;> omega) ?_
    rw [z_setLetter (by omega) (by omega), z_bind_some]
    refine k_sat_mk ⟨z_wA rfl, fun v' hv' => ?_⟩
    unfold f_R_lays
    rw [d2, d3, ec]
    refine z_pos rfl (z_ck (by (try simp (disch := omega) only [Int32.lt_iff_toInt_lt, Int32.le_iff_toInt_le, ← Int32.toInt_inj, Int32.toInt_add, Int32.toInt_sub, Int32.toInt_mul, Int32.toInt_neg, z_bm, z_bm2, J_ti, J_toInt, z_cn, Int32.reduceToInt]) <;> omega) (by (try simp (disch := omega) only [Int32.lt_iff_toInt_lt, Int32.le_iff_toInt_le, ← Int32.toInt_inj, Int32.toInt_add, Int32.toInt_sub, Int32.toInt_mul, Int32.toInt_neg, z_bm, z_bm2, J_ti, J_toInt, z_cn, Int32.reduceToInt]) <;> omega) (z_let (k_sat_mk ⟨z_wA rfl, nN _ ?_ ?_ ?_ ?_ (fun v hv => ?_) (fun v p' hv s' q1 q2 q3 q4 => ?_) (fun v hv hv4 => ?_)⟩)))
    · exact (hv'.1 303 rfl).trans e1
    · exact (hv'.1 4203 rfl).trans e2
    · exact hv'.2.1 5 rfl
    · exact hv'.2.1 45 rfl
    · have b6 : v'.2.1 6 = u.2.1 6 := by rw [hv'.2.1 6 rfl]; simp [k_wA]
      have b48 : v'.2.1 48 = u.2.1 48 := by rw [hv'.2.1 48 rfl]; simp [k_wA]
      simp only [k_wA]
      rw [if_neg (by decide), if_neg (by decide), b6, b48]
      obtain ⟨s', -, -, -, -, b3, -⟩ := hw v hv
      exact b3
    · have b4 : v'.2.1 4 = upd (u.2.1 4) (40 * w + p) (u.2.1 cw i) := by rw [hv'.2.1 4 rfl]; simp [k_wA]
      have b44 : v'.2.1 44 = u.2.1 44 := by rw [hv'.2.1 44 rfl]; simp [k_wA]
      simp only [k_wA, if_true, J_toNat (show 40 * w + p < 2147483648 by omega)]
      rw [if_neg (by decide), b4, b44, z_up, z_up, q4]
    · have b6 : v'.2.1 6 = u.2.1 6 := by rw [hv'.2.1 6 rfl]; simp [k_wA]
      simp only [k_wA]
      rw [if_neg (by decide), b6]
      exact hz v hv hv4
theorem J_sub {a b : Nat} (h : b ≤ a) : J a - J b = J (a - b) := by
  have : J (a - b) + J b = J a := by rw [J_add, Nat.sub_add_cancel h]
  rw [← this, Int32.add_sub_cancel]
theorem z_undo (u : k_S) (h : zI u) : z_pair f_W_undo f_R_undo u zI := by
  obtain ⟨d, k, hdk, hk, c1, c2, c3, c4, hC⟩ := h.2.2.2.2.2.2.2.1
  refine z_pair_of ?_
  unfold f_W_undo
  by_cases h0 : d = 0
  · subst h0
    refine z_pos c1 (k_sat_mk ?_)
    unfold f_R_undo
    exact z_pos c3 (k_sat_mk ⟨rfl, h⟩)
  · rw [c1, z_Jm' (by omega)]
    refine z_neg (by (try simp (disch := omega) only [Int32.lt_iff_toInt_lt, Int32.le_iff_toInt_le, ← Int32.toInt_inj, Int32.toInt_add, Int32.toInt_sub, Int32.toInt_mul, Int32.toInt_neg, z_bm, z_bm2, J_ti, J_toInt, z_cn, Int32.reduceToInt]) <;> omega) (z_let ?_)
    have e1 : (k_wF u 3004 (J (d - 1))).1 3004 = J (d - 1) := by simp [k_wF]
    have hfu : z_fr [3004] [] u (k_wF u 3004 (J (d - 1))) := z_wF rfl
    rw [e1, z_Changes_beforeAt (by omega), z_bind_some]
    refine z_bind _ (z_lays (d - 1) 33 58 (Or.inl ⟨rfl, rfl⟩) (k_wF u 3004 (J (d - 1))) (zN_f hfu (by decide) h.2.1) (by omega) ⟨(hC (d - 1) (by omega)).1, (hC (d - 1) (by omega)).2.2⟩) (fun _ v hv => k_sat_mk ?_)
    obtain ⟨hv1, hv2⟩ := hv
    unfold f_R_undo
    have e2 : v.1 4224 = J d := (hv1.1 4224 rfl).trans c3
    have e3 : v.1 4225 = J (k - d) := (hv1.1 4225 rfl).trans c4
    rw [e2, z_Jm' (by omega)]
    have e4 : (k_wF v 4224 (J (d - 1))).1 4225 + 1 = J (k - d + 1) := by
      rw [show (k_wF v 4224 (J (d - 1))).1 4225 = J (k - d) from e3, z_Jp]
    refine z_neg (by (try simp (disch := omega) only [Int32.lt_iff_toInt_lt, Int32.le_iff_toInt_le, ← Int32.toInt_inj, Int32.toInt_add, Int32.toInt_sub, Int32.toInt_mul, Int32.toInt_neg, z_bm, z_bm2, J_ti, J_toInt, z_cn, Int32.reduceToInt]) <;> omega) (z_let ?_)
    rw [e4]
    refine z_let ?_
    have e5 : (k_wF (k_wF v 4224 (J (d - 1))) 4225 (J (k - d + 1))).1 4224 = J (d - 1) := by simp [k_wF]
    rw [e5]
    refine z_ck (by (try simp (disch := omega) only [Int32.lt_iff_toInt_lt, Int32.le_iff_toInt_le, ← Int32.toInt_inj, Int32.toInt_add, Int32.toInt_sub, Int32.toInt_mul, Int32.toInt_neg, z_bm, z_bm2, J_ti, J_toInt, z_cn, Int32.reduceToInt]) <;> omega) (by (try simp (disch := omega) only [Int32.lt_iff_toInt_lt, Int32.le_iff_toInt_le, ← Int32.toInt_inj, Int32.toInt_add, Int32.toInt_sub, Int32.toInt_mul, Int32.toInt_neg, z_bm, z_bm2, J_ti, J_toInt, z_cn, Int32.reduceToInt]) <;> omega) (z_ck (by (try simp (disch := omega) only [Int32.lt_iff_toInt_lt, Int32.le_iff_toInt_le, ← Int32.toInt_inj, Int32.toInt_add, Int32.toInt_sub, Int32.toInt_mul, Int32.toInt_neg, z_bm, z_bm2, J_ti, J_toInt, z_cn, Int32.reduceToInt]) <;> omega) (by (try simp (disch := omega) only [Int32.lt_iff_toInt_lt, Int32.le_iff_toInt_le, ← Int32.toInt_inj, Int32.toInt_add, Int32.toInt_sub, Int32.toInt_mul, Int32.toInt_neg, z_bm, z_bm2, J_ti, J_toInt, z_cn, Int32.reduceToInt]) <;> omega) (z_ck (by (try simp (disch := omega) only [Int32.lt_iff_toInt_lt, Int32.le_iff_toInt_le, ← Int32.toInt_inj, Int32.toInt_add, Int32.toInt_sub, Int32.toInt_mul, Int32.toInt_neg, z_bm, z_bm2, J_ti, J_toInt, z_cn, Int32.reduceToInt]) <;> omega) (by (try simp (disch := omega) only [Int32.lt_iff_toInt_lt, Int32.le_iff_toInt_le, ← Int32.toInt_inj, Int32.toInt_add, Int32.toInt_sub, Int32.toInt_mul, Int32.toInt_neg, z_bm, z_bm2, J_ti, J_toInt, z_cn, Int32.reduceToInt]) <;> omega) ?_))
    rw [J_toNat (by omega)]
    have hv' : z_fr [3004, 4224, 4225] [] v (k_wF (k_wF v 4224 (J (d - 1))) 4225 (J (k - d + 1))) := (z_wF rfl).tr (z_wF rfl)
    have a1 : ∀ c, c = 56 ∨ c = 57 ∨ c = 58 → (k_wF (k_wF v 4224 (J (d - 1))) 4225 (J (k - d + 1))).2.1 c = (k_wF u 3004 (J (d - 1))).2.1 c := by
      intro c hc
      rcases hc with rfl | rfl | rfl <;> exact hv1.2.1 _ rfl
    rw [a1 56 (by simp), a1 57 (by simp), a1 58 (by simp)]
    refine z_bind _ (hv2 _ hv') (fun _ v2 h2 => k_sat_mk ⟨?_, ?_⟩)
    · rw [h2.1.1 4224 rfl, e5, hv1.1 3004 rfl, e1]
    · have hf : z_fr [3004, 4224, 4225] [4, 6, 44, 48] u v2 := (((hfu.mono rfl rfl).tr (hv1.mono rfl rfl)).tr (hv'.mono rfl rfl)).tr (h2.1.mono rfl rfl)
      refine zI_NC h (hf.mono rfl rfl) h2.2 ⟨d - 1, k, by omega, hk, ?_, (hf.1 3005 rfl).trans c2, ?_, ?_, fun i hi => ?_⟩
      · rw [h2.1.1 3004 rfl, show (k_wF (k_wF v 4224 (J (d - 1))) 4225 (J (k - d + 1))).1 3004 = v.1 3004 from rfl, hv1.1 3004 rfl, e1]
      · rw [h2.1.1 4224 rfl, e5]
      · rw [h2.1.1 4225 rfl]
        simp [k_wF]
        rw [show k - d + 1 = k - (d - 1) by omega]
      · have := hC i hi
        rw [hf.1 303 rfl, hf.2.1 31 rfl, hf.2.1 32 rfl, hf.2.1 33 rfl, hf.2.1 34 rfl, hf.2.1 56 rfl, hf.2.1 57 rfl, hf.2.1 58 rfl, hf.2.1 59 rfl, hf.2.1 5 rfl]
        exact this
theorem z_redo (u : k_S) (h : zI u) : z_pair f_W_redo f_R_redo u zI := by
  obtain ⟨d, k, hdk, hk, c1, c2, c3, c4, hC⟩ := h.2.2.2.2.2.2.2.1
  refine z_pair_of ?_
  unfold f_W_redo
  by_cases h0 : d = k
  · subst h0
    refine z_neg (by rw [c1, c2]; (try simp (disch := omega) only [Int32.lt_iff_toInt_lt, Int32.le_iff_toInt_le, ← Int32.toInt_inj, Int32.toInt_add, Int32.toInt_sub, Int32.toInt_mul, Int32.toInt_neg, z_bm, z_bm2, J_ti, J_toInt, z_cn, Int32.reduceToInt]) <;> omega) (k_sat_mk ?_)
    unfold f_R_redo
    exact z_pos (by rw [c4, Nat.sub_self]; rfl) (k_sat_mk ⟨rfl, h⟩)
  · refine z_pos (by rw [c1, c2]; (try simp (disch := omega) only [Int32.lt_iff_toInt_lt, Int32.le_iff_toInt_le, ← Int32.toInt_inj, Int32.toInt_add, Int32.toInt_sub, Int32.toInt_mul, Int32.toInt_neg, z_bm, z_bm2, J_ti, J_toInt, z_cn, Int32.reduceToInt]) <;> omega) ?_
    rw [c1, z_Changes_afterAt (by omega), z_bind_some]
    refine z_bind _ (z_lays d 34 59 (Or.inr ⟨rfl, rfl⟩) u h.2.1 (by omega) ⟨(hC d (by omega)).2.1, (hC d (by omega)).2.2⟩) (fun _ v hv => z_let (k_sat_mk ?_))
    obtain ⟨hv1, hv2⟩ := hv
    rw [hv1.1 3004 rfl, c1, z_Jp]
    unfold f_R_redo
    have hv' : z_fr [3004, 4224, 4225] [] v (k_wF v 3004 (J (d + 1))) := z_wF rfl
    have e2 : (k_wF v 3004 (J (d + 1))).1 4224 = J d := (hv1.1 4224 rfl).trans c3
    have e3 : (k_wF v 3004 (J (d + 1))).1 4225 = J (k - d) := (hv1.1 4225 rfl).trans c4
    rw [e2, e3]
    refine z_neg (by (try simp (disch := omega) only [Int32.lt_iff_toInt_lt, Int32.le_iff_toInt_le, ← Int32.toInt_inj, Int32.toInt_add, Int32.toInt_sub, Int32.toInt_mul, Int32.toInt_neg, z_bm, z_bm2, J_ti, J_toInt, z_cn, Int32.reduceToInt]) <;> omega) (z_ck (by (try simp (disch := omega) only [Int32.lt_iff_toInt_lt, Int32.le_iff_toInt_le, ← Int32.toInt_inj, Int32.toInt_add, Int32.toInt_sub, Int32.toInt_mul, Int32.toInt_neg, z_bm, z_bm2, J_ti, J_toInt, z_cn, Int32.reduceToInt]) <;> omega) (by (try simp (disch := omega) only [Int32.lt_iff_toInt_lt, Int32.le_iff_toInt_le, ← Int32.toInt_inj, Int32.toInt_add, Int32.toInt_sub, Int32.toInt_mul, Int32.toInt_neg, z_bm, z_bm2, J_ti, J_toInt, z_cn, Int32.reduceToInt]) <;> omega) (z_ck (by (try simp (disch := omega) only [Int32.lt_iff_toInt_lt, Int32.le_iff_toInt_le, ← Int32.toInt_inj, Int32.toInt_add, Int32.toInt_sub, Int32.toInt_mul, Int32.toInt_neg, z_bm, z_bm2, J_ti, J_toInt, z_cn, Int32.reduceToInt]) <;> omega) (by (try simp (disch := omega) only [Int32.lt_iff_toInt_lt, Int32.le_iff_toInt_le, ← Int32.toInt_inj, Int32.toInt_add, Int32.toInt_sub, Int32.toInt_mul, Int32.toInt_neg, z_bm, z_bm2, J_ti, J_toInt, z_cn, Int32.reduceToInt]) <;> omega) (z_ck (by (try simp (disch := omega) only [Int32.lt_iff_toInt_lt, Int32.le_iff_toInt_le, ← Int32.toInt_inj, Int32.toInt_add, Int32.toInt_sub, Int32.toInt_mul, Int32.toInt_neg, z_bm, z_bm2, J_ti, J_toInt, z_cn, Int32.reduceToInt]) <;> omega) (by (try simp (disch := omega) only [Int32.lt_iff_toInt_lt, Int32.le_iff_toInt_le, ← Int32.toInt_inj, Int32.toInt_add, Int32.toInt_sub, Int32.toInt_mul, Int32.toInt_neg, z_bm, z_bm2, J_ti, J_toInt, z_cn, Int32.reduceToInt]) <;> omega) ?_)))
    rw [J_toNat (by omega)]
    have a1 : ∀ c, c = 56 ∨ c = 57 ∨ c = 59 → (k_wF v 3004 (J (d + 1))).2.1 c = u.2.1 c := by
      intro c hc
      rcases hc with rfl | rfl | rfl <;> exact hv1.2.1 _ rfl
    rw [a1 56 (by simp), a1 57 (by simp), a1 59 (by simp)]
    refine z_bind _ (hv2 _ hv') (fun _ v2 h2 => z_let (z_let (k_sat_mk ⟨?_, ?_⟩)))
    · have b1 : v2.1 4225 = J (k - d) := (h2.1.1 4225 rfl).trans e3
      simp [k_wF, hv1.1 3005 rfl, c2, b1]
      rw [J_sub (by omega), z_Jm' (by omega), show k - (d + 1) = k - d - 1 by omega]
    · have b1 : v2.1 4225 = J (k - d) := (h2.1.1 4225 rfl).trans e3
      have b2 : v2.1 4224 = J d := (h2.1.1 4224 rfl).trans e2
      have hf : z_fr [3004, 4224, 4225] [4, 6, 44, 48] u (k_wF (k_wF v2 4224 (v2.1 4224 + 1)) 4225 ((k_wF v2 4224 (v2.1 4224 + 1)).1 4225 - 1)) := ((((hv1.mono rfl rfl).tr (hv'.mono rfl rfl)).tr (h2.1.mono rfl rfl)).tr (z_wF rfl)).tr (z_wF rfl)
      refine zI_NC h (hf.mono rfl rfl) (zN_f (F := [4224, 4225]) (A := []) ((z_wF rfl).tr (z_wF rfl)) (by decide) h2.2) ⟨d + 1, k, by omega, hk, ?_, (hf.1 3005 rfl).trans c2, ?_, ?_, fun i hi => ?_⟩
      · simp [k_wF, h2.1.1 3004 rfl]
      · simp [k_wF, b2, z_Jp]
      · simp [k_wF, b1]
        rw [z_Jm' (by omega), show k - d - 1 = k - (d + 1) by omega]
      · have := hC i hi
        rw [hf.1 303 rfl, hf.2.1 31 rfl, hf.2.1 32 rfl, hf.2.1 33 rfl, hf.2.1 34 rfl, hf.2.1 56 rfl, hf.2.1 57 rfl, hf.2.1 58 rfl, hf.2.1 59 rfl, hf.2.1 5 rfl]
        exact this
/-! BECOMING; image, back -/
theorem z_Thought_become_Now (n : Nat) (hn : n ≤ 4) (u : k_S) : k_sat (f_Thought_become_Now (J n) u) (fun _ v => z_fr [1702] [18, 19] u v ∧ v.1 1702 = u.1 1402 ∧ (∀ w, w < n → v.2.1 18 w = u.2.1 15 w ∧ v.2.1 19 w = u.2.1 16 w) ∧ ∀ w, n ≤ w → v.2.1 18 w = u.2.1 18 w ∧ v.2.1 19 w = u.2.1 19 w) := by
  unfold f_Thought_become_Now
  refine z_let (z_bind _ (z_for 0 n (fun i v => z_fr [1702] [18, 19] u v ∧ v.1 1702 = u.1 1402 ∧ (∀ w, w < i → v.2.1 18 w = u.2.1 15 w ∧ v.2.1 19 w = u.2.1 16 w) ∧ ∀ w, i ≤ w → v.2.1 18 w = u.2.1 18 w ∧ v.2.1 19 w = u.2.1 19 w) (K := fun _ v => z_fr [1702] [18, 19] u v ∧ v.1 1702 = u.1 1402 ∧ (∀ w, w < n → v.2.1 18 w = u.2.1 15 w ∧ v.2.1 19 w = u.2.1 16 w) ∧ ∀ w, n ≤ w → v.2.1 18 w = u.2.1 18 w ∧ v.2.1 19 w = u.2.1 19 w) (by omega) (by omega) ⟨z_wF rfl, by simp [k_wF], fun w h => by omega, fun w _ => ⟨rfl, rfl⟩⟩ (fun i v _ hi hp => ?_) (fun v hp => ?_)) (fun _ v h => k_sat_mk h))
  · obtain ⟨h1, h2, h3, h4⟩ := hp
    unfold f_Thought_become_Now_B10
    refine z_neg (by (try simp (disch := omega) only [Int32.lt_iff_toInt_lt, Int32.le_iff_toInt_le, ← Int32.toInt_inj, Int32.toInt_add, Int32.toInt_sub, Int32.toInt_mul, Int32.toInt_neg, z_bm, z_bm2, J_ti, J_toInt, z_cn, Int32.reduceToInt]) <;> omega) (z_neg (by (try simp (disch := omega) only [Int32.lt_iff_toInt_lt, Int32.le_iff_toInt_le, ← Int32.toInt_inj, Int32.toInt_add, Int32.toInt_sub, Int32.toInt_mul, Int32.toInt_neg, z_bm, z_bm2, J_ti, J_toInt, z_cn, Int32.reduceToInt]) <;> omega) ?_)
    rw [z_Now_placeOf (by omega), z_bind_some, z_Now_waitsOf (by omega), z_bind_some, z_Thought_stand (by omega), z_bind_some, h1.2.1 15 rfl, h1.2.1 16 rfl]
    refine k_sat_mk (Or.inl ⟨rfl, h1.tr ((z_wA rfl).tr (z_wA rfl)), h2, fun w hw => ?_, fun w hw => ?_⟩)
    · by_cases e : w = i
      · subst e; simp [k_wA, z_up]
      · simp [k_wA, z_up, e, h3 w (by omega)]
    · simp [k_wA, z_up, show ¬ w = i by omega, h4 w (by omega)]
  · unfold f_Thought_become_Now_B10
    exact z_pos (by (try simp (disch := omega) only [Int32.lt_iff_toInt_lt, Int32.le_iff_toInt_le, ← Int32.toInt_inj, Int32.toInt_add, Int32.toInt_sub, Int32.toInt_mul, Int32.toInt_neg, z_bm, z_bm2, J_ti, J_toInt, z_cn, Int32.reduceToInt]) <;> omega) (k_sat_mk ⟨_, rfl, hp⟩)
theorem z_Picture_become_Now (n : Nat) (hn : n ≤ 4) (u : k_S) : k_sat (f_Picture_become_Now (J n) u) (fun _ v => z_fr [2702] [28, 29] u v ∧ v.1 2702 = u.1 1402 ∧ (∀ w, w < n → v.2.1 28 w = u.2.1 15 w ∧ v.2.1 29 w = u.2.1 16 w) ∧ ∀ w, n ≤ w → v.2.1 28 w = u.2.1 28 w ∧ v.2.1 29 w = u.2.1 29 w) := by
  unfold f_Picture_become_Now
  refine z_let (z_bind _ (z_for 0 n (fun i v => z_fr [2702] [28, 29] u v ∧ v.1 2702 = u.1 1402 ∧ (∀ w, w < i → v.2.1 28 w = u.2.1 15 w ∧ v.2.1 29 w = u.2.1 16 w) ∧ ∀ w, i ≤ w → v.2.1 28 w = u.2.1 28 w ∧ v.2.1 29 w = u.2.1 29 w) (K := fun _ v => z_fr [2702] [28, 29] u v ∧ v.1 2702 = u.1 1402 ∧ (∀ w, w < n → v.2.1 28 w = u.2.1 15 w ∧ v.2.1 29 w = u.2.1 16 w) ∧ ∀ w, n ≤ w → v.2.1 28 w = u.2.1 28 w ∧ v.2.1 29 w = u.2.1 29 w) (by omega) (by omega) ⟨z_wF rfl, by simp [k_wF], fun w h => by omega, fun w _ => ⟨rfl, rfl⟩⟩ (fun i v _ hi hp => ?_) (fun v hp => ?_)) (fun _ v h => k_sat_mk h))
  · obtain ⟨h1, h2, h3, h4⟩ := hp
    unfold f_Picture_become_Now_B10
    refine z_neg (by (try simp (disch := omega) only [Int32.lt_iff_toInt_lt, Int32.le_iff_toInt_le, ← Int32.toInt_inj, Int32.toInt_add, Int32.toInt_sub, Int32.toInt_mul, Int32.toInt_neg, z_bm, z_bm2, J_ti, J_toInt, z_cn, Int32.reduceToInt]) <;> omega) (z_neg (by (try simp (disch := omega) only [Int32.lt_iff_toInt_lt, Int32.le_iff_toInt_le, ← Int32.toInt_inj, Int32.toInt_add, Int32.toInt_sub, Int32.toInt_mul, Int32.toInt_neg, z_bm, z_bm2, J_ti, J_toInt, z_cn, Int32.reduceToInt]) <;> omega) ?_)
    rw [z_Now_placeOf (by omega), z_bind_some, z_Now_waitsOf (by omega), z_bind_some, z_Picture_stand (by omega), z_bind_some, h1.2.1 15 rfl, h1.2.1 16 rfl]
    refine k_sat_mk (Or.inl ⟨rfl, h1.tr ((z_wA rfl).tr (z_wA rfl)), h2, fun w hw => ?_, fun w hw => ?_⟩)
    · by_cases e : w = i
      · subst e; simp [k_wA, z_up]
      · simp [k_wA, z_up, e, h3 w (by omega)]
    · simp [k_wA, z_up, show ¬ w = i by omega, h4 w (by omega)]
  · unfold f_Picture_become_Now_B10
    exact z_pos (by (try simp (disch := omega) only [Int32.lt_iff_toInt_lt, Int32.le_iff_toInt_le, ← Int32.toInt_inj, Int32.toInt_add, Int32.toInt_sub, Int32.toInt_mul, Int32.toInt_neg, z_bm, z_bm2, J_ti, J_toInt, z_cn, Int32.reduceToInt]) <;> omega) (k_sat_mk ⟨_, rfl, hp⟩)
theorem z_Now_become_Picture (n : Nat) (hn : n ≤ 4) (u : k_S) : k_sat (f_Now_become_Picture (J n) u) (fun _ v => z_fr [1402] [15, 16] u v ∧ v.1 1402 = u.1 2702 ∧ (∀ w, w < n → v.2.1 15 w = u.2.1 28 w ∧ v.2.1 16 w = u.2.1 29 w) ∧ ∀ w, n ≤ w → v.2.1 15 w = u.2.1 15 w ∧ v.2.1 16 w = u.2.1 16 w) := by
  unfold f_Now_become_Picture
  refine z_let (z_bind _ (z_for 0 n (fun i v => z_fr [1402] [15, 16] u v ∧ v.1 1402 = u.1 2702 ∧ (∀ w, w < i → v.2.1 15 w = u.2.1 28 w ∧ v.2.1 16 w = u.2.1 29 w) ∧ ∀ w, i ≤ w → v.2.1 15 w = u.2.1 15 w ∧ v.2.1 16 w = u.2.1 16 w) (K := fun _ v => z_fr [1402] [15, 16] u v ∧ v.1 1402 = u.1 2702 ∧ (∀ w, w < n → v.2.1 15 w = u.2.1 28 w ∧ v.2.1 16 w = u.2.1 29 w) ∧ ∀ w, n ≤ w → v.2.1 15 w = u.2.1 15 w ∧ v.2.1 16 w = u.2.1 16 w) (by omega) (by omega) ⟨z_wF rfl, by simp [k_wF], fun w h => by omega, fun w _ => ⟨rfl, rfl⟩⟩ (fun i v _ hi hp => ?_) (fun v hp => ?_)) (fun _ v h => k_sat_mk h))
  · obtain ⟨h1, h2, h3, h4⟩ := hp
    unfold f_Now_become_Picture_B10
    refine z_neg (by (try simp (disch := omega) only [Int32.lt_iff_toInt_lt, Int32.le_iff_toInt_le, ← Int32.toInt_inj, Int32.toInt_add, Int32.toInt_sub, Int32.toInt_mul, Int32.toInt_neg, z_bm, z_bm2, J_ti, J_toInt, z_cn, Int32.reduceToInt]) <;> omega) (z_neg (by (try simp (disch := omega) only [Int32.lt_iff_toInt_lt, Int32.le_iff_toInt_le, ← Int32.toInt_inj, Int32.toInt_add, Int32.toInt_sub, Int32.toInt_mul, Int32.toInt_neg, z_bm, z_bm2, J_ti, J_toInt, z_cn, Int32.reduceToInt]) <;> omega) ?_)
    rw [z_Picture_placeOf (by omega), z_bind_some, z_Picture_waitsOf (by omega), z_bind_some, z_Now_stand (by omega), z_bind_some, h1.2.1 28 rfl, h1.2.1 29 rfl]
    refine k_sat_mk (Or.inl ⟨rfl, h1.tr ((z_wA rfl).tr (z_wA rfl)), h2, fun w hw => ?_, fun w hw => ?_⟩)
    · by_cases e : w = i
      · subst e; simp [k_wA, z_up]
      · simp [k_wA, z_up, e, h3 w (by omega)]
    · simp [k_wA, z_up, show ¬ w = i by omega, h4 w (by omega)]
  · unfold f_Now_become_Picture_B10
    exact z_pos (by (try simp (disch := omega) only [Int32.lt_iff_toInt_lt, Int32.le_iff_toInt_le, ← Int32.toInt_inj, Int32.toInt_add, Int32.toInt_sub, Int32.toInt_mul, Int32.toInt_neg, z_bm, z_bm2, J_ti, J_toInt, z_cn, Int32.reduceToInt]) <;> omega) (k_sat_mk ⟨_, rfl, hp⟩)
theorem z_image (u : k_S) (h : zI u) : z_pair f_W_image f_R_image u zI := by
  obtain ⟨n, hn, e1, e2, hw, hz⟩ := h.2.1
  obtain ⟨⟨t, ht, t1, t2⟩, hm, hm2⟩ := h.2.2.1
  refine z_pair_of ?_
  unfold f_W_image
  rw [e1]
  refine z_bind _ (z_Picture_become_Now n hn u) (fun _ v hv => z_let (k_sat_mk ?_))
  obtain ⟨v1, v2, v3, v4⟩ := hv
  rw [v1.1 303 rfl, e1]
  have f1 : z_fr [2702, 10] [28, 29] u (k_wF v 10 (J n)) := (v1.mono rfl rfl).tr (z_wF rfl)
  unfold f_R_image
  refine z_let (z_let (z_let (z_bind _ (z_for 0 4 (fun i w => z_fr [4240, 4241, 4242] [68, 69] (k_wF v 10 (J n)) w ∧ w.1 4240 = 1 ∧ w.1 4241 = J n ∧ w.1 4242 = J t ∧ ∀ j, j < i → w.2.1 68 j = u.2.1 46 j ∧ w.2.1 69 j = u.2.1 47 j) (K := fun _ w => z_fr [4240, 4241, 4242] [68, 69] (k_wF v 10 (J n)) w ∧ w.1 4240 = 1 ∧ w.1 4241 = J n ∧ w.1 4242 = J t ∧ ∀ j, j < 4 → w.2.1 68 j = u.2.1 46 j ∧ w.2.1 69 j = u.2.1 47 j) (by omega) (by omega) ⟨((z_wF rfl).tr (z_wF rfl)).tr (z_wF rfl), ?_, ?_, ?_, fun j hj => by omega⟩ (fun i w _ hi hp => ?_) (fun w hp => ?_)) (fun _ w hw' => k_sat_mk ⟨?_, ?_⟩))))
  · simp [k_wF]
  · simp [k_wF, v1.1 4203 rfl, e2]
  · simp [k_wF, v1.1 4209 rfl, t2]
  · obtain ⟨h1, h2, h3, h4, h5⟩ := hp
    unfold f_R_image_B23
    refine z_neg (by (try simp (disch := omega) only [Int32.lt_iff_toInt_lt, Int32.le_iff_toInt_le, ← Int32.toInt_inj, Int32.toInt_add, Int32.toInt_sub, Int32.toInt_mul, Int32.toInt_neg, z_bm, z_bm2, J_ti, J_toInt, z_cn, Int32.reduceToInt]) <;> omega) (z_ck (by (try simp (disch := omega) only [Int32.lt_iff_toInt_lt, Int32.le_iff_toInt_le, ← Int32.toInt_inj, Int32.toInt_add, Int32.toInt_sub, Int32.toInt_mul, Int32.toInt_neg, z_bm, z_bm2, J_ti, J_toInt, z_cn, Int32.reduceToInt]) <;> omega) (by (try simp (disch := omega) only [Int32.lt_iff_toInt_lt, Int32.le_iff_toInt_le, ← Int32.toInt_inj, Int32.toInt_add, Int32.toInt_sub, Int32.toInt_mul, Int32.toInt_neg, z_bm, z_bm2, J_ti, J_toInt, z_cn, Int32.reduceToInt]) <;> omega) (z_ck (by (try simp (disch := omega) only [Int32.lt_iff_toInt_lt, Int32.le_iff_toInt_le, ← Int32.toInt_inj, Int32.toInt_add, Int32.toInt_sub, Int32.toInt_mul, Int32.toInt_neg, z_bm, z_bm2, J_ti, J_toInt, z_cn, Int32.reduceToInt]) <;> omega) (by (try simp (disch := omega) only [Int32.lt_iff_toInt_lt, Int32.le_iff_toInt_le, ← Int32.toInt_inj, Int32.toInt_add, Int32.toInt_sub, Int32.toInt_mul, Int32.toInt_neg, z_bm, z_bm2, J_ti, J_toInt, z_cn, Int32.reduceToInt]) <;> omega) (z_let (z_ck (by (try simp (disch := omega) only [Int32.lt_iff_toInt_lt, Int32.le_iff_toInt_le, ← Int32.toInt_inj, Int32.toInt_add, Int32.toInt_sub, Int32.toInt_mul, Int32.toInt_neg, z_bm, z_bm2, J_ti, J_toInt, z_cn, Int32.reduceToInt]) <;> omega) (by (try simp (disch := omega) only [Int32.lt_iff_toInt_lt, Int32.le_iff_toInt_le, ← Int32.toInt_inj, Int32.toInt_add, Int32.toInt_sub, Int32.toInt_mul, Int32.toInt_neg, z_bm, z_bm2, J_ti, J_toInt, z_cn, Int32.reduceToInt]) <;> omega) (z_ck (by (try simp (disch := omega) only [Int32.lt_iff_toInt_lt, Int32.le_iff_toInt_le, ← Int32.toInt_inj, Int32.toInt_add, Int32.toInt_sub, Int32.toInt_mul, Int32.toInt_neg, z_bm, z_bm2, J_ti, J_toInt, z_cn, Int32.reduceToInt]) <;> omega) (by (try simp (disch := omega) only [Int32.lt_iff_toInt_lt, Int32.le_iff_toInt_le, ← Int32.toInt_inj, Int32.toInt_add, Int32.toInt_sub, Int32.toInt_mul, Int32.toInt_neg, z_bm, z_bm2, J_ti, J_toInt, z_cn, Int32.reduceToInt]) <;> omega) (z_let ?_))))))
    rw [J_toNat (show i < 2147483648 by omega)]
    refine k_sat_mk (Or.inl ⟨rfl, h1.tr ((z_wA rfl).tr (z_wA rfl)), h2, h3, h4, fun j hj => ?_⟩)
    have b46 : w.2.1 46 = u.2.1 46 := by rw [h1.2.1 46 rfl, f1.2.1 46 rfl]
    have b47 : w.2.1 47 = u.2.1 47 := by rw [h1.2.1 47 rfl, f1.2.1 47 rfl]
    by_cases e : j = i
    · subst e; simp [k_wA, z_up, b46, b47]
    · simp [k_wA, z_up, e, h5 j (by omega)]
  · unfold f_R_image_B23
    exact z_pos (by decide) (k_sat_mk ⟨_, rfl, hp⟩)
  · rw [hw'.1.1 4209 rfl, f1.1 4209 rfl, t2, ← t1, ← v2]
    simp [k_wF]
  · obtain ⟨w1, w2, w3, w4, w5⟩ := hw'
    have f2 : z_fr [10, 2702, 4240, 4241, 4242] [28, 29, 68, 69] u w := (f1.mono rfl rfl).tr (w1.mono rfl rfl)
    refine zI_P h (f2.mono rfl rfl) (Or.inr ⟨w2, n, t, ?_, ht, ?_, w3, ?_, w4, fun j hj => ?_⟩)
    · rw [f2.1 303 rfl, e1, J_toInt (by omega)]; omega
    · rw [w1.1 10 rfl]; simp [k_wF]
    · rw [w1.1 2702 rfl]; simp [k_wF, v2, t1]
    · obtain ⟨⟨p, p1, p2, p3⟩, p4⟩ := hm j (by rw [e1, J_toInt (by omega)]; omega)
      have q28 : w.2.1 28 = v.2.1 28 := w1.2.1 28 rfl
      have q29 : w.2.1 29 = v.2.1 29 := w1.2.1 29 rfl
      rw [q28, q29, (v3 j hj).1, (v3 j hj).2, (w5 j (by omega)).1, (w5 j (by omega)).2, f2.2.1 5 rfl]
      exact ⟨⟨p, p1, p2, p3⟩, p4⟩
theorem z_back (u : k_S) (h : zI u) : z_pair f_W_back f_R_back u zI := by
  obtain ⟨n, hn, e1, e2, hw, hz⟩ := h.2.1
  obtain ⟨⟨t0, ht0, t1, t2⟩, hm, hm2⟩ := h.2.2.1
  refine z_pair_of ?_
  unfold f_W_back
  rcases h.2.2.2.2.2.2.1 with ⟨c1, c2⟩ | ⟨c0, k, t, hk, ht, c1, c2, c3, c4, hP⟩
  · refine z_pos c1 (k_sat_mk ?_)
    unfold f_R_back
    exact z_pos c2 (k_sat_mk ⟨rfl, h⟩)
  · rw [e1, J_toInt (by omega)] at hk
    rw [c1]
    refine z_neg (by (try simp (disch := omega) only [Int32.lt_iff_toInt_lt, Int32.le_iff_toInt_le, ← Int32.toInt_inj, Int32.toInt_add, Int32.toInt_sub, Int32.toInt_mul, Int32.toInt_neg, z_bm, z_bm2, J_ti, J_toInt, z_cn, Int32.reduceToInt]) <;> omega) (z_bind _ (z_Now_become_Picture k (by omega) u) (fun _ v hv => k_sat_mk ?_))
    obtain ⟨v1, v2, v3, v4⟩ := hv
    unfold f_R_back
    refine z_neg (by rw [v1.1 4240 rfl, c0]; decide) (z_let (z_bind _ (z_for 0 k (fun i w => z_fr [4209] [46, 47] v w ∧ w.1 4209 = J t ∧ (∀ j, j < i → w.2.1 46 j = u.2.1 68 j ∧ w.2.1 47 j = u.2.1 69 j) ∧ ∀ j, i ≤ j → w.2.1 46 j = u.2.1 46 j ∧ w.2.1 47 j = u.2.1 47 j) (K := fun _ w => z_fr [4209] [46, 47] v w ∧ w.1 4209 = J t ∧ (∀ j, j < k → w.2.1 46 j = u.2.1 68 j ∧ w.2.1 47 j = u.2.1 69 j) ∧ ∀ j, k ≤ j → w.2.1 46 j = u.2.1 46 j ∧ w.2.1 47 j = u.2.1 47 j) (by omega) (by omega) ⟨z_wF rfl, ?_, fun j hj => by omega, fun j _ => ?_⟩ (fun i w _ hi hp => ?_) (fun w hp => ?_)) (fun _ w hw' => k_sat_mk ⟨?_, ?_⟩)))
    · simp [k_wF, v1.1 4242 rfl, c4]
    · simp [k_wF, v1.2.1 46 rfl, v1.2.1 47 rfl]
    · obtain ⟨h1, h2, h3, h4⟩ := hp
      unfold f_R_back_B20
      refine z_neg (by rw [h1.1 4241 rfl, v1.1 4241 rfl, c2]; (try simp (disch := omega) only [Int32.lt_iff_toInt_lt, Int32.le_iff_toInt_le, ← Int32.toInt_inj, Int32.toInt_add, Int32.toInt_sub, Int32.toInt_mul, Int32.toInt_neg, z_bm, z_bm2, J_ti, J_toInt, z_cn, Int32.reduceToInt]) <;> omega) (z_ck (by (try simp (disch := omega) only [Int32.lt_iff_toInt_lt, Int32.le_iff_toInt_le, ← Int32.toInt_inj, Int32.toInt_add, Int32.toInt_sub, Int32.toInt_mul, Int32.toInt_neg, z_bm, z_bm2, J_ti, J_toInt, z_cn, Int32.reduceToInt]) <;> omega) (by (try simp (disch := omega) only [Int32.lt_iff_toInt_lt, Int32.le_iff_toInt_le, ← Int32.toInt_inj, Int32.toInt_add, Int32.toInt_sub, Int32.toInt_mul, Int32.toInt_neg, z_bm, z_bm2, J_ti, J_toInt, z_cn, Int32.reduceToInt]) <;> omega) (z_ck (by (try simp (disch := omega) only [Int32.lt_iff_toInt_lt, Int32.le_iff_toInt_le, ← Int32.toInt_inj, Int32.toInt_add, Int32.toInt_sub, Int32.toInt_mul, Int32.toInt_neg, z_bm, z_bm2, J_ti, J_toInt, z_cn, Int32.reduceToInt]) <;> omega) (by (try simp (disch := omega) only [Int32.lt_iff_toInt_lt, Int32.le_iff_toInt_le, ← Int32.toInt_inj, Int32.toInt_add, Int32.toInt_sub, Int32.toInt_mul, Int32.toInt_neg, z_bm, z_bm2, J_ti, J_toInt, z_cn, Int32.reduceToInt]) <;> omega) (z_let (z_ck (by (try simp (disch := omega) only [Int32.lt_iff_toInt_lt, Int32.le_iff_toInt_le, ← Int32.toInt_inj, Int32.toInt_add, Int32.toInt_sub, Int32.toInt_mul, Int32.toInt_neg, z_bm, z_bm2, J_ti, J_toInt, z_cn, Int32.reduceToInt]) <;> omega) (by (try simp (disch := omega) only [Int32.lt_iff_toInt_lt, Int32.le_iff_toInt_le, ← Int32.toInt_inj, Int32.toInt_add, Int32.toInt_sub, Int32.toInt_mul, Int32.toInt_neg, z_bm, z_bm2, J_ti, J_toInt, z_cn, Int32.reduceToInt]) <;> omega) (z_ck (by (try simp (disch := omega) only [Int32.lt_iff_toInt_lt, Int32.le_iff_toInt_le, ← Int32.toInt_inj, Int32.toInt_add, Int32.toInt_sub, Int32.toInt_mul, Int32.toInt_neg, z_bm, z_bm2, J_ti, J_toInt, z_cn, Int32.reduceToInt]) <;> omega) (by (try simp (disch := omega) only [Int32.lt_iff_toInt_lt, Int32.le_iff_toInt_le, ← Int32.toInt_inj, Int32.toInt_add, Int32.toInt_sub, Int32.toInt_mul, Int32.toInt_neg, z_bm, z_bm2, J_ti, J_toInt, z_cn, Int32.reduceToInt]) <;> omega) (z_let ?_))))))
      rw [J_toNat (show i < 2147483648 by omega)]
      have b68 : w.2.1 68 = u.2.1 68 := by rw [h1.2.1 68 rfl, v1.2.1 68 rfl]
      have b69 : w.2.1 69 = u.2.1 69 := by rw [h1.2.1 69 rfl, v1.2.1 69 rfl]
      refine k_sat_mk (Or.inl ⟨rfl, h1.tr ((z_wA rfl).tr (z_wA rfl)), h2, fun j hj => ?_, fun j hj => ?_⟩)
      · by_cases e : j = i
        · subst e; simp [k_wA, z_up, b68, b69]
        · simp [k_wA, z_up, e, h3 j (by omega)]
      · simp [k_wA, z_up, show ¬ j = i by omega, h4 j (by omega)]
    · unfold f_R_back_B20
      exact z_pos (by rw [hp.1.1 4241 rfl, v1.1 4241 rfl, c2]; (try simp (disch := omega) only [Int32.lt_iff_toInt_lt, Int32.le_iff_toInt_le, ← Int32.toInt_inj, Int32.toInt_add, Int32.toInt_sub, Int32.toInt_mul, Int32.toInt_neg, z_bm, z_bm2, J_ti, J_toInt, z_cn, Int32.reduceToInt]) <;> omega) (k_sat_mk ⟨_, rfl, hp⟩)
    · rw [hw'.2.1, v2, c3]
    · obtain ⟨w1, w2, w3, w4⟩ := hw'
      have f2 : z_fr [1402, 4209] [15, 16, 46, 47] u w := (v1.mono rfl rfl).tr (w1.mono rfl rfl)
      have q15 : w.2.1 15 = v.2.1 15 := w1.2.1 15 rfl
      have q16 : w.2.1 16 = v.2.1 16 := w1.2.1 16 rfl
      refine zI_M h (f2.mono rfl rfl) ⟨⟨t, ht, ?_, w2⟩, fun j hj => ?_, fun j hj hj4 => ?_⟩
      · rw [w1.1 1402 rfl, v2, c3]
      · rw [f2.1 303 rfl] at hj
        rw [q15, q16, f2.2.1 5 rfl]
        by_cases e : j < k
        · obtain ⟨⟨p, p1, p2, p3⟩, p4⟩ := hP j e
          rw [(v3 j e).1, (v3 j e).2, (w3 j e).1, (w3 j e).2]
          exact ⟨⟨p, p1, p2, p3⟩, p4⟩
        · obtain ⟨⟨p, p1, p2, p3⟩, p4⟩ := hm j hj
          rw [(v4 j (by omega)).1, (v4 j (by omega)).2, (w4 j (by omega)).1, (w4 j (by omega)).2]
          exact ⟨⟨p, p1, p2, p3⟩, p4⟩
      · rw [f2.1 303 rfl] at hj
        rw [e1, J_toInt (by omega)] at hj
        rw [q15, q16, (v4 j (by omega)).1, (v4 j (by omega)).2]
        exact hm2 j (by rw [e1, J_toInt (by omega)]; omega) hj4
