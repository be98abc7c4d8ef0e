/-! THE INVARIANT between class and reference (both in one state) -/
/-- what is kept of a long in a row of a sort -/
def z_low (k : Nat) (x : Int64) : Int64 := if k = 0 then ((((x).toInt32).toInt8.toInt32).toInt64) else if k = 1 then ((((x).toInt32).toInt16.toInt32).toInt64) else if k = 2 then (((x).toInt32).toInt64) else if k = 3 then x else if lg_cmp x 0 = 0 then 0 else 1
/-- the class's frost: a code of that length computes c (by seed, night, place, wheel) -/
def zCW (len : Int32) (code : Nat → Int32) (c : Int32 → Int32 → Int32 → Nat → Bool) : Prop := ∀ u : k_S, u.1 703 = len → u.2.1 8 = code → ∀ (t p : Int32) (w : Nat), w < 4 → k_sat (f_Law_valueAt t p (J w) u) (fun r v => z_fr [704] [9] u v ∧ (c (u.1 705) t p w = true ↔ ¬ r = 0))
/-- the reference's frost, by what it has kept -/
def zCR (has : Int32) (act wi many te le : Nat → Int32) (c : Int32 → Int32 → Int32 → Nat → Bool) : Prop := ∀ u : k_S, u.1 4223 = has → (∀ i, i < 130 → u.2.1 49 i = act i ∧ u.2.1 50 i = wi i) → u.2.1 51 0 = many 0 → (∀ i, i < 61 → u.2.1 52 i = te i ∧ u.2.1 53 i = le i) → ∀ w : Nat, w < 4 → k_sat (f_R_isCold (J w) u) (fun r v => z_fr [] [54, 55] u v ∧ r = if c (u.1 4211) (u.1 4209) (u.2.1 46 w) w = true then 1 else 0)
def zT (u : k_S) : Prop := ∃ n : Nat, n ≤ 120 ∧ u.1 101 = J n ∧ u.1 4202 = J n ∧ ∀ i, i < n → ∃ b : Nat, b ≤ 255 ∧ u.2.1 2 i = J b ∧ u.2.1 43 i = (J b).toInt8.toInt32
theorem zT_f {F A : List Nat} {u v : k_S} (h : z_fr F A u v) (hd : F.elem 101 = false ∧ F.elem 4202 = false ∧ A.elem 2 = false ∧ A.elem 43 = false) (hp : zT u) : zT v := by
  obtain ⟨f101, f4202, a2, a43⟩ := hd
  unfold zT at *
  simp only [h.1 _ f101, h.1 _ f4202, h.2.1 _ a2, h.2.1 _ a43]
  exact hp
def zN (u : k_S) : Prop := ∃ n : Nat, n ≤ 4 ∧ u.1 303 = J n ∧ u.1 4203 = J n ∧ (∀ w, w < n → ∃ s : Nat, 2 ≤ s ∧ s ≤ 40 ∧ u.2.1 5 w = J s ∧ u.2.1 45 w = J s ∧ u.2.1 48 w = u.2.1 6 w ∧ ∀ p, p < s → u.2.1 44 (40 * w + p) = u.2.1 4 (40 * w + p)) ∧ ∀ w, n ≤ w → w < 4 → u.2.1 6 w = 0
theorem zN_f {F A : List Nat} {u v : k_S} (h : z_fr F A u v) (hd : F.elem 303 = false ∧ F.elem 4203 = false ∧ A.elem 4 = false ∧ A.elem 5 = false ∧ A.elem 6 = false ∧ A.elem 44 = false ∧ A.elem 45 = false ∧ A.elem 48 = false) (hp : zN u) : zN v := by
  obtain ⟨f303, f4203, a4, a5, a6, a44, a45, a48⟩ := hd
  unfold zN at *
  simp only [h.1 _ f303, h.1 _ f4203, h.2.1 _ a4, h.2.1 _ a5, h.2.1 _ a6, h.2.1 _ a44, h.2.1 _ a45, h.2.1 _ a48]
  exact hp
def zM (u : k_S) : Prop := (∃ t : Nat, t ≤ 1000000 ∧ u.1 1402 = J t ∧ u.1 4209 = J t) ∧ (∀ w : Nat, (w : Int) < (u.1 303).toInt → (∃ p : Nat, (p : Int) < (u.2.1 5 w).toInt ∧ u.2.1 15 w = J p ∧ u.2.1 46 w = J p) ∧ u.2.1 47 w = u.2.1 16 w) ∧ ∀ w : Nat, (u.1 303).toInt ≤ w → w < 4 → u.2.1 15 w = 0 ∧ u.2.1 16 w = 0
theorem zM_f {F A : List Nat} {u v : k_S} (h : z_fr F A u v) (hd : F.elem 303 = false ∧ F.elem 1402 = false ∧ F.elem 4209 = false ∧ A.elem 5 = false ∧ A.elem 15 = false ∧ A.elem 16 = false ∧ A.elem 46 = false ∧ A.elem 47 = false) (hp : zM u) : zM v := by
  obtain ⟨f303, f1402, f4209, a5, a15, a16, a46, a47⟩ := hd
  unfold zM at *
  simp only [h.1 _ f303, h.1 _ f1402, h.1 _ f4209, h.2.1 _ a5, h.2.1 _ a15, h.2.1 _ a16, h.2.1 _ a46, h.2.1 _ a47]
  exact hp
def zS (u : k_S) : Prop := (∃ k : Nat, 1 ≤ k ∧ k ≤ 9 ∧ u.1 1205 = J k ∧ u.1 4210 = J k) ∧ u.1 4211 = u.1 705
theorem zS_f {F A : List Nat} {u v : k_S} (h : z_fr F A u v) (hd : F.elem 1205 = false ∧ F.elem 4210 = false ∧ F.elem 705 = false ∧ F.elem 4211 = false) (hp : zS u) : zS v := by
  obtain ⟨f1205, f4210, f705, f4211⟩ := hd
  unfold zS at *
  simp only [h.1 _ f1205, h.1 _ f4210, h.1 _ f705, h.1 _ f4211]
  exact hp
def zL (u : k_S) : Prop := ∃ c : Int32 → Int32 → Int32 → Nat → Bool, zCW (u.1 703) (u.2.1 8) c ∧ zCR (u.1 4223) (u.2.1 49) (u.2.1 50) (u.2.1 51) (u.2.1 52) (u.2.1 53) c
theorem zL_f {F A : List Nat} {u v : k_S} (h : z_fr F A u v) (hd : F.elem 703 = false ∧ F.elem 4223 = false ∧ A.elem 8 = false ∧ A.elem 49 = false ∧ A.elem 50 = false ∧ A.elem 51 = false ∧ A.elem 52 = false ∧ A.elem 53 = false) (hp : zL u) : zL v := by
  obtain ⟨f703, f4223, a8, a49, a50, a51, a52, a53⟩ := hd
  unfold zL at *
  simp only [h.1 _ f703, h.1 _ f4223, h.2.1 _ a8, h.2.1 _ a49, h.2.1 _ a50, h.2.1 _ a51, h.2.1 _ a52, h.2.1 _ a53]
  exact hp
def zR (u : k_S) : Prop := ∃ n : Nat, n ≤ 40 ∧ u.1 2003 = J n ∧ u.1 4235 = J n ∧ (∀ i, i < n → ∃ a b : Nat, a ≤ 5000 ∧ b < 40 ∧ u.2.1 21 i = J a ∧ u.2.1 64 i = J a ∧ u.2.1 22 i = J b ∧ u.2.1 65 i = J b) ∧ ∃ f : Nat → Nat, (∀ i, i < n → f i < n ∧ u.2.1 23 i = J (f i)) ∧ (∀ r, r < n → ∃ i, i < n ∧ f i = r) ∧ ∀ i j, i < j → j < n → (u.2.1 21 (f i)).toInt ≤ (u.2.1 21 (f j)).toInt
theorem zR_f {F A : List Nat} {u v : k_S} (h : z_fr F A u v) (hd : F.elem 2003 = false ∧ F.elem 4235 = false ∧ A.elem 21 = false ∧ A.elem 22 = false ∧ A.elem 23 = false ∧ A.elem 64 = false ∧ A.elem 65 = false) (hp : zR u) : zR v := by
  obtain ⟨f2003, f4235, a21, a22, a23, a64, a65⟩ := hd
  unfold zR at *
  simp only [h.1 _ f2003, h.1 _ f4235, h.2.1 _ a21, h.2.1 _ a22, h.2.1 _ a23, h.2.1 _ a64, h.2.1 _ a65]
  exact hp
def zP (u : k_S) : Prop := (u.1 10 = -1 ∧ u.1 4240 = 0) ∨ (u.1 4240 = 1 ∧ ∃ k t : Nat, (k : Int) ≤ (u.1 303).toInt ∧ t ≤ 1000000 ∧ u.1 10 = J k ∧ u.1 4241 = J k ∧ u.1 2702 = J t ∧ u.1 4242 = J t ∧ ∀ w, w < k → (∃ p : Nat, (p : Int) < (u.2.1 5 w).toInt ∧ u.2.1 28 w = J p ∧ u.2.1 68 w = J p) ∧ u.2.1 69 w = u.2.1 29 w)
theorem zP_f {F A : List Nat} {u v : k_S} (h : z_fr F A u v) (hd : F.elem 10 = false ∧ F.elem 2702 = false ∧ F.elem 4240 = false ∧ F.elem 4241 = false ∧ F.elem 4242 = false ∧ F.elem 303 = false ∧ A.elem 28 = false ∧ A.elem 29 = false ∧ A.elem 68 = false ∧ A.elem 69 = false ∧ A.elem 5 = false) (hp : zP u) : zP v := by
  obtain ⟨f10, f2702, f4240, f4241, f4242, f303, a28, a29, a68, a69, a5⟩ := hd
  unfold zP at *
  simp only [h.1 _ f10, h.1 _ f2702, h.1 _ f4240, h.1 _ f4241, h.1 _ f4242, h.1 _ f303, h.2.1 _ a28, h.2.1 _ a29, h.2.1 _ a68, h.2.1 _ a69, h.2.1 _ a5]
  exact hp
def zC (u : k_S) : Prop := ∃ d k : Nat, d ≤ k ∧ k ≤ 40 ∧ u.1 3004 = J d ∧ u.1 3005 = J k ∧ u.1 4224 = J d ∧ u.1 4225 = J (k - d) ∧ ∀ i, i < k → u.2.1 58 i = u.2.1 33 i ∧ u.2.1 59 i = u.2.1 34 i ∧ ∃ w : Nat, (w : Int) < (u.1 303).toInt ∧ u.2.1 31 i = J w ∧ ((u.2.1 32 i = -1 ∧ u.2.1 56 i = 1 ∧ u.2.1 57 i = J w) ∨ ∃ p : Nat, (p : Int) < (u.2.1 5 w).toInt ∧ u.2.1 32 i = J p ∧ u.2.1 56 i = 0 ∧ u.2.1 57 i = J (40 * w + p))
theorem zC_f {F A : List Nat} {u v : k_S} (h : z_fr F A u v) (hd : F.elem 3004 = false ∧ F.elem 3005 = false ∧ F.elem 4224 = false ∧ F.elem 4225 = false ∧ F.elem 303 = false ∧ A.elem 31 = false ∧ A.elem 32 = false ∧ A.elem 33 = false ∧ A.elem 34 = false ∧ A.elem 56 = false ∧ A.elem 57 = false ∧ A.elem 58 = false ∧ A.elem 59 = false ∧ A.elem 5 = false) (hp : zC u) : zC v := by
  obtain ⟨f3004, f3005, f4224, f4225, f303, a31, a32, a33, a34, a56, a57, a58, a59, a5⟩ := hd
  unfold zC at *
  simp only [h.1 _ f3004, h.1 _ f3005, h.1 _ f4224, h.1 _ f4225, h.1 _ f303, h.2.1 _ a31, h.2.1 _ a32, h.2.1 _ a33, h.2.1 _ a34, h.2.1 _ a56, h.2.1 _ a57, h.2.1 _ a58, h.2.1 _ a59, h.2.1 _ a5]
  exact hp
def zB (u : k_S) : Prop := (∃ n : Nat, n ≤ 50 ∧ u.1 3502 = J n ∧ u.1 4245 = J n ∧ ∀ i, i < n → ∃ k : Nat, k < 8 ∧ u.2.1 36 i = J k ∧ u.2.1 70 i = J k) ∧ ∃ m : Nat, m ≤ 1000 ∧ u.1 3503 = J m ∧ u.1 4247 = J m ∧ ∀ i, i < m → i < 24 → u.2.1 71 i = u.2.1 37 i
theorem zB_f {F A : List Nat} {u v : k_S} (h : z_fr F A u v) (hd : F.elem 3502 = false ∧ F.elem 3503 = false ∧ F.elem 4245 = false ∧ F.elem 4247 = false ∧ A.elem 36 = false ∧ A.elem 37 = false ∧ A.elem 70 = false ∧ A.elem 71 = false) (hp : zB u) : zB v := by
  obtain ⟨f3502, f3503, f4245, f4247, a36, a37, a70, a71⟩ := hd
  unfold zB at *
  simp only [h.1 _ f3502, h.1 _ f3503, h.1 _ f4245, h.1 _ f4247, h.2.1 _ a36, h.2.1 _ a37, h.2.1 _ a70, h.2.1 _ a71]
  exact hp
def zH (u : k_S) : Prop := ∀ s, s < 6 → (u.2.1 39 s = -1 ∧ u.2.1 72 s = -1) ∨ (u.2.1 39 s = 5 ∧ ∃ b : Nat, (b : Int) < (u.1 3502).toInt ∧ u.2.1 72 s = J b ∧ u.2.1 40 s = J b) ∨ ∃ k z : Nat, k ≤ 4 ∧ z ≤ 60 ∧ u.2.1 39 s = J k ∧ u.2.1 72 s = -2 - J k ∧ u.2.1 40 s = J z ∧ u.2.1 73 s = J z ∧ ∀ j, j < 60 → u.2.2 74 (60 * s + j) = u.2.2 41 (60 * s + j) ∧ z_low k (u.2.2 41 (60 * s + j)) = u.2.2 41 (60 * s + j)
theorem zH_f {F A : List Nat} {u v : k_S} (h : z_fr F A u v) (hd : F.elem 3502 = false ∧ A.elem 39 = false ∧ A.elem 40 = false ∧ A.elem 72 = false ∧ A.elem 73 = false ∧ A.elem 41 = false ∧ A.elem 74 = false) (hp : zH u) : zH v := by
  obtain ⟨f3502, a39, a40, a72, a73, a41, a74⟩ := hd
  unfold zH at *
  simp only [h.1 _ f3502, h.2.1 _ a39, h.2.1 _ a40, h.2.1 _ a72, h.2.1 _ a73, h.2.1 _ a41, h.2.1 _ a74, h.2.2 _ (z_el0 a41), h.2.2 _ (z_el0 a74)]
  exact hp
def zK (u : k_S) : Prop := (u.2.1 63 0 = 119 ∧ u.2.1 63 1 = 115 ∧ u.2.1 63 2 = 49) ∧ u.2.1 66 0 = 119 ∧ u.2.1 66 1 = 115 ∧ u.2.1 66 2 = 102 ∧ u.2.1 66 3 = 49
theorem zK_f {F A : List Nat} {u v : k_S} (h : z_fr F A u v) (hd : A.elem 63 = false ∧ A.elem 66 = false) (hp : zK u) : zK v := by
  obtain ⟨a63, a66⟩ := hd
  unfold zK at *
  simp only [h.2.1 _ a63, h.2.1 _ a66]
  exact hp
def zI (u : k_S) : Prop := zT u ∧ zN u ∧ zM u ∧ zS u ∧ zL u ∧ zR u ∧ zP u ∧ zC u ∧ zB u ∧ zH u ∧ zK u
theorem zI_T {u v : k_S} (h : zI u) (hf : z_fr [101, 4202, 1702, 1206, 704, 1002, 1003, 2405, 2406, 2407, 3504, 4212, 4213, 4214, 4215, 4230] [2, 43, 9, 11, 13, 18, 19, 25, 26, 54, 55, 60, 61, 62, 67, 75] u v) (hzT : zT v) : zI v := ⟨hzT, zN_f hf (by decide) h.2.1, zM_f hf (by decide) h.2.2.1, zS_f hf (by decide) h.2.2.2.1, zL_f hf (by decide) h.2.2.2.2.1, zR_f hf (by decide) h.2.2.2.2.2.1, zP_f hf (by decide) h.2.2.2.2.2.2.1, zC_f hf (by decide) h.2.2.2.2.2.2.2.1, zB_f hf (by decide) h.2.2.2.2.2.2.2.2.1, zH_f hf (by decide) h.2.2.2.2.2.2.2.2.2.1, zK_f hf (by decide) h.2.2.2.2.2.2.2.2.2.2⟩
theorem zI_N {u v : k_S} (h : zI u) (hf : z_fr [1702, 1206, 704, 1002, 1003, 2405, 2406, 2407, 3504, 4212, 4213, 4214, 4215, 4230] [4, 6, 44, 48, 9, 11, 13, 18, 19, 25, 26, 54, 55, 60, 61, 62, 67, 75] u v) (hzN : zN v) : zI v := ⟨zT_f hf (by decide) h.1, hzN, zM_f hf (by decide) h.2.2.1, zS_f hf (by decide) h.2.2.2.1, zL_f hf (by decide) h.2.2.2.2.1, zR_f hf (by decide) h.2.2.2.2.2.1, zP_f hf (by decide) h.2.2.2.2.2.2.1, zC_f hf (by decide) h.2.2.2.2.2.2.2.1, zB_f hf (by decide) h.2.2.2.2.2.2.2.2.1, zH_f hf (by decide) h.2.2.2.2.2.2.2.2.2.1, zK_f hf (by decide) h.2.2.2.2.2.2.2.2.2.2⟩
theorem zI_M {u v : k_S} (h : zI u) (hf : z_fr [1402, 4209, 1702, 1206, 704, 1002, 1003, 2405, 2406, 2407, 3504, 4212, 4213, 4214, 4215, 4230] [15, 16, 46, 47, 9, 11, 13, 18, 19, 25, 26, 54, 55, 60, 61, 62, 67, 75] u v) (hzM : zM v) : zI v := ⟨zT_f hf (by decide) h.1, zN_f hf (by decide) h.2.1, hzM, zS_f hf (by decide) h.2.2.2.1, zL_f hf (by decide) h.2.2.2.2.1, zR_f hf (by decide) h.2.2.2.2.2.1, zP_f hf (by decide) h.2.2.2.2.2.2.1, zC_f hf (by decide) h.2.2.2.2.2.2.2.1, zB_f hf (by decide) h.2.2.2.2.2.2.2.2.1, zH_f hf (by decide) h.2.2.2.2.2.2.2.2.2.1, zK_f hf (by decide) h.2.2.2.2.2.2.2.2.2.2⟩
theorem zI_S {u v : k_S} (h : zI u) (hf : z_fr [1205, 4210, 705, 4211, 1702, 1206, 704, 1002, 1003, 2405, 2406, 2407, 3504, 4212, 4213, 4214, 4215, 4230] [9, 11, 13, 18, 19, 25, 26, 54, 55, 60, 61, 62, 67, 75] u v) (hzS : zS v) : zI v := ⟨zT_f hf (by decide) h.1, zN_f hf (by decide) h.2.1, zM_f hf (by decide) h.2.2.1, hzS, zL_f hf (by decide) h.2.2.2.2.1, zR_f hf (by decide) h.2.2.2.2.2.1, zP_f hf (by decide) h.2.2.2.2.2.2.1, zC_f hf (by decide) h.2.2.2.2.2.2.2.1, zB_f hf (by decide) h.2.2.2.2.2.2.2.2.1, zH_f hf (by decide) h.2.2.2.2.2.2.2.2.2.1, zK_f hf (by decide) h.2.2.2.2.2.2.2.2.2.2⟩
theorem zI_L {u v : k_S} (h : zI u) (hf : z_fr [703, 4223, 1702, 1206, 704, 1002, 1003, 2405, 2406, 2407, 3504, 4212, 4213, 4214, 4215, 4230] [8, 49, 50, 51, 52, 53, 9, 11, 13, 18, 19, 25, 26, 54, 55, 60, 61, 62, 67, 75] u v) (hzL : zL v) : zI v := ⟨zT_f hf (by decide) h.1, zN_f hf (by decide) h.2.1, zM_f hf (by decide) h.2.2.1, zS_f hf (by decide) h.2.2.2.1, hzL, zR_f hf (by decide) h.2.2.2.2.2.1, zP_f hf (by decide) h.2.2.2.2.2.2.1, zC_f hf (by decide) h.2.2.2.2.2.2.2.1, zB_f hf (by decide) h.2.2.2.2.2.2.2.2.1, zH_f hf (by decide) h.2.2.2.2.2.2.2.2.2.1, zK_f hf (by decide) h.2.2.2.2.2.2.2.2.2.2⟩
theorem zI_R {u v : k_S} (h : zI u) (hf : z_fr [2003, 4235, 1702, 1206, 704, 1002, 1003, 2405, 2406, 2407, 3504, 4212, 4213, 4214, 4215, 4230] [21, 22, 23, 64, 65, 9, 11, 13, 18, 19, 25, 26, 54, 55, 60, 61, 62, 67, 75] u v) (hzR : zR v) : zI v := ⟨zT_f hf (by decide) h.1, zN_f hf (by decide) h.2.1, zM_f hf (by decide) h.2.2.1, zS_f hf (by decide) h.2.2.2.1, zL_f hf (by decide) h.2.2.2.2.1, hzR, zP_f hf (by decide) h.2.2.2.2.2.2.1, zC_f hf (by decide) h.2.2.2.2.2.2.2.1, zB_f hf (by decide) h.2.2.2.2.2.2.2.2.1, zH_f hf (by decide) h.2.2.2.2.2.2.2.2.2.1, zK_f hf (by decide) h.2.2.2.2.2.2.2.2.2.2⟩
theorem zI_P {u v : k_S} (h : zI u) (hf : z_fr [10, 2702, 4240, 4241, 4242, 1702, 1206, 704, 1002, 1003, 2405, 2406, 2407, 3504, 4212, 4213, 4214, 4215, 4230] [28, 29, 68, 69, 9, 11, 13, 18, 19, 25, 26, 54, 55, 60, 61, 62, 67, 75] u v) (hzP : zP v) : zI v := ⟨zT_f hf (by decide) h.1, zN_f hf (by decide) h.2.1, zM_f hf (by decide) h.2.2.1, zS_f hf (by decide) h.2.2.2.1, zL_f hf (by decide) h.2.2.2.2.1, zR_f hf (by decide) h.2.2.2.2.2.1, hzP, zC_f hf (by decide) h.2.2.2.2.2.2.2.1, zB_f hf (by decide) h.2.2.2.2.2.2.2.2.1, zH_f hf (by decide) h.2.2.2.2.2.2.2.2.2.1, zK_f hf (by decide) h.2.2.2.2.2.2.2.2.2.2⟩
theorem zI_C {u v : k_S} (h : zI u) (hf : z_fr [3004, 3005, 4224, 4225, 1702, 1206, 704, 1002, 1003, 2405, 2406, 2407, 3504, 4212, 4213, 4214, 4215, 4230] [31, 32, 33, 34, 56, 57, 58, 59, 9, 11, 13, 18, 19, 25, 26, 54, 55, 60, 61, 62, 67, 75] u v) (hzC : zC v) : zI v := ⟨zT_f hf (by decide) h.1, zN_f hf (by decide) h.2.1, zM_f hf (by decide) h.2.2.1, zS_f hf (by decide) h.2.2.2.1, zL_f hf (by decide) h.2.2.2.2.1, zR_f hf (by decide) h.2.2.2.2.2.1, zP_f hf (by decide) h.2.2.2.2.2.2.1, hzC, zB_f hf (by decide) h.2.2.2.2.2.2.2.2.1, zH_f hf (by decide) h.2.2.2.2.2.2.2.2.2.1, zK_f hf (by decide) h.2.2.2.2.2.2.2.2.2.2⟩
theorem zI_H {u v : k_S} (h : zI u) (hf : z_fr [1702, 1206, 704, 1002, 1003, 2405, 2406, 2407, 3504, 4212, 4213, 4214, 4215, 4230] [39, 40, 72, 73, 41, 74, 9, 11, 13, 18, 19, 25, 26, 54, 55, 60, 61, 62, 67, 75] u v) (hzH : zH v) : zI v := ⟨zT_f hf (by decide) h.1, zN_f hf (by decide) h.2.1, zM_f hf (by decide) h.2.2.1, zS_f hf (by decide) h.2.2.2.1, zL_f hf (by decide) h.2.2.2.2.1, zR_f hf (by decide) h.2.2.2.2.2.1, zP_f hf (by decide) h.2.2.2.2.2.2.1, zC_f hf (by decide) h.2.2.2.2.2.2.2.1, zB_f hf (by decide) h.2.2.2.2.2.2.2.2.1, hzH, zK_f hf (by decide) h.2.2.2.2.2.2.2.2.2.2⟩
theorem zI_NC {u v : k_S} (h : zI u) (hf : z_fr [3004, 3005, 4224, 4225, 1702, 1206, 704, 1002, 1003, 2405, 2406, 2407, 3504, 4212, 4213, 4214, 4215, 4230] [31, 32, 33, 34, 56, 57, 58, 59, 4, 6, 44, 48, 9, 11, 13, 18, 19, 25, 26, 54, 55, 60, 61, 62, 67, 75] u v) (hzN : zN v) (hzC : zC v) : zI v := ⟨zT_f hf (by decide) h.1, hzN, zM_f hf (by decide) h.2.2.1, zS_f hf (by decide) h.2.2.2.1, zL_f hf (by decide) h.2.2.2.2.1, zR_f hf (by decide) h.2.2.2.2.2.1, zP_f hf (by decide) h.2.2.2.2.2.2.1, hzC, zB_f hf (by decide) h.2.2.2.2.2.2.2.2.1, zH_f hf (by decide) h.2.2.2.2.2.2.2.2.2.1, zK_f hf (by decide) h.2.2.2.2.2.2.2.2.2.2⟩
theorem zI_B {u v : k_S} (h : zI u) (hf : z_fr [3503, 4247, 1702, 1206, 704, 1002, 1003, 2405, 2406, 2407, 3504, 4212, 4213, 4214, 4215, 4230] [37, 71, 9, 11, 13, 18, 19, 25, 26, 54, 55, 60, 61, 62, 67, 75] u v) (hzB : zB v) : zI v := ⟨zT_f hf (by decide) h.1, zN_f hf (by decide) h.2.1, zM_f hf (by decide) h.2.2.1, zS_f hf (by decide) h.2.2.2.1, zL_f hf (by decide) h.2.2.2.2.1, zR_f hf (by decide) h.2.2.2.2.2.1, zP_f hf (by decide) h.2.2.2.2.2.2.1, zC_f hf (by decide) h.2.2.2.2.2.2.2.1, hzB, zH_f hf (by decide) h.2.2.2.2.2.2.2.2.2.1, zK_f hf (by decide) h.2.2.2.2.2.2.2.2.2.2⟩
theorem zI_BH {u v : k_S} (h : zI u) (hf : z_fr [3502, 4245, 1702, 1206, 704, 1002, 1003, 2405, 2406, 2407, 3504, 4212, 4213, 4214, 4215, 4230] [36, 70, 9, 11, 13, 18, 19, 25, 26, 54, 55, 60, 61, 62, 67, 75] u v) (hzB : zB v) (hzH : zH v) : zI v := ⟨zT_f hf (by decide) h.1, zN_f hf (by decide) h.2.1, zM_f hf (by decide) h.2.2.1, zS_f hf (by decide) h.2.2.2.1, zL_f hf (by decide) h.2.2.2.2.1, zR_f hf (by decide) h.2.2.2.2.2.1, zP_f hf (by decide) h.2.2.2.2.2.2.1, zC_f hf (by decide) h.2.2.2.2.2.2.2.1, hzB, hzH, zK_f hf (by decide) h.2.2.2.2.2.2.2.2.2.2⟩
theorem zI_NMPCT {u v : k_S} (h : zI u) (hf : z_fr [303, 4203, 101, 4202, 1702, 1206, 704, 1002, 1003, 2405, 2406, 2407, 3504, 4212, 4213, 4214, 4215, 4230] [4, 5, 6, 44, 45, 46, 47, 48, 2, 43, 9, 11, 13, 18, 19, 25, 26, 54, 55, 60, 61, 62, 67, 75] u v) (hzN : zN v) (hzM : zM v) (hzP : zP v) (hzC : zC v) (hzT : zT v) : zI v := ⟨hzT, hzN, hzM, zS_f hf (by decide) h.2.2.2.1, zL_f hf (by decide) h.2.2.2.2.1, zR_f hf (by decide) h.2.2.2.2.2.1, hzP, hzC, zB_f hf (by decide) h.2.2.2.2.2.2.2.2.1, zH_f hf (by decide) h.2.2.2.2.2.2.2.2.2.1, zK_f hf (by decide) h.2.2.2.2.2.2.2.2.2.2⟩
theorem zI_TL {u v : k_S} (h : zI u) (hf : z_fr [101, 4202, 703, 4223, 1702, 1206, 704, 1002, 1003, 2405, 2406, 2407, 3504, 4212, 4213, 4214, 4215, 4230] [2, 43, 8, 49, 50, 51, 52, 53, 9, 11, 13, 18, 19, 25, 26, 54, 55, 60, 61, 62, 67, 75] u v) (hzT : zT v) (hzL : zL v) : zI v := ⟨hzT, zN_f hf (by decide) h.2.1, zM_f hf (by decide) h.2.2.1, zS_f hf (by decide) h.2.2.2.1, hzL, zR_f hf (by decide) h.2.2.2.2.2.1, zP_f hf (by decide) h.2.2.2.2.2.2.1, zC_f hf (by decide) h.2.2.2.2.2.2.2.1, zB_f hf (by decide) h.2.2.2.2.2.2.2.2.1, zH_f hf (by decide) h.2.2.2.2.2.2.2.2.2.1, zK_f hf (by decide) h.2.2.2.2.2.2.2.2.2.2⟩
theorem zI_0 {u v : k_S} (h : zI u) (hf : z_fr [1702, 1206, 704, 1002, 1003, 2405, 2406, 2407, 3504, 4212, 4213, 4214, 4215, 4230] [9, 11, 13, 18, 19, 25, 26, 54, 55, 60, 61, 62, 67, 75] u v)  : zI v := ⟨zT_f hf (by decide) h.1, zN_f hf (by decide) h.2.1, zM_f hf (by decide) h.2.2.1, zS_f hf (by decide) h.2.2.2.1, zL_f hf (by decide) h.2.2.2.2.1, zR_f hf (by decide) h.2.2.2.2.2.1, zP_f hf (by decide) h.2.2.2.2.2.2.1, zC_f hf (by decide) h.2.2.2.2.2.2.2.1, zB_f hf (by decide) h.2.2.2.2.2.2.2.2.1, zH_f hf (by decide) h.2.2.2.2.2.2.2.2.2.1, zK_f hf (by decide) h.2.2.2.2.2.2.2.2.2.2⟩
theorem z_Jp (n : Nat) : J n + 1 = J (n + 1) := z_J1 n
theorem z_Jm (n : Nat) : J (n + 1) - 1 = J n := by
  rw [← z_Jp n, Int32.add_sub_cancel]
theorem z_Jm' {n : Nat} (h : 0 < n) : J n - 1 = J (n - 1) := by
  obtain ⟨m, rfl⟩ : ∃ m, n = m + 1 := ⟨n - 1, by omega⟩
  exact z_Jm m
theorem z_cvt8 (x : Int32) : x.toInt8.toInt32.toInt8 = x.toInt8 := by simp
theorem z_colW0 (t p w : Int32) (u : k_S) (h : u.1 703 = 0) : k_sat (f_Law_valueAt t p w u) (fun r v => r = 0 ∧ z_fr [704] [9] u v) := by
  unfold f_Law_valueAt
  refine z_let (z_bind (fun y v => y = .inl 0 ∧ z_fr [704] [9] u v) ?_ (fun y v h => by rw [h.1]; exact k_sat_mk ⟨rfl, h.2⟩))
  rw [z_FU]
  refine z_exit ?_
  unfold f_Law_valueAt_B8
  exact z_pos (by simp [k_wF, h]) (k_sat_mk ⟨_, rfl, rfl, z_wF rfl⟩)
theorem z_u0_I : zI z_u0 := by
  refine ⟨⟨0, by omega, rfl, rfl, fun i h => by omega⟩, ⟨0, by omega, rfl, rfl, fun w h => by omega, fun w _ h => rfl⟩, ⟨⟨0, by omega, rfl, rfl⟩, fun w h => by simp [z_u0] at h; omega, fun w _ _ => ⟨rfl, rfl⟩⟩, ⟨⟨7, by omega, by omega, rfl, rfl⟩, rfl⟩, ⟨fun _ _ _ _ => false, ?_, ?_⟩, ⟨0, by omega, rfl, rfl, fun i h => by omega, fun i => i, fun i h => by omega, fun r h => by omega, fun i j _ h => by omega⟩, Or.inl ⟨rfl, rfl⟩, ⟨0, 0, by omega, by omega, rfl, rfl, rfl, rfl, fun i h => by omega⟩, ⟨⟨0, by omega, rfl, rfl, fun i h => by omega⟩, 0, by omega, rfl, rfl, fun i h => by omega⟩, ?_, ⟨⟨rfl, rfl, rfl⟩, rfl, rfl, rfl, rfl⟩⟩
  · intro u h1 h2 t p w hw
    exact z_mono (z_colW0 t p (J w) u h1) (fun r v h => ⟨h.2, by simp [h.1]⟩)
  · intro u h1 _ _ _ w hw
    unfold f_R_isCold
    exact z_pos h1 (k_sat_mk ⟨z_fr.rf, rfl⟩)
  · intro s hs
    refine Or.inl ?_
    rcases (show s = 0 ∨ s = 1 ∨ s = 2 ∨ s = 3 ∨ s = 4 ∨ s = 5 by omega) with rfl | rfl | rfl | rfl | rfl | rfl <;> exact ⟨rfl, rfl⟩
