/-! act: which body stands for a kind and an act; the trace -/
def z_bf (k a : Nat) : Int32 := ((([[1, 10, 11, 2], [20, 10, 11, 2], [1, 30, 11, 2], [1, 41, 40, 2], [20, 10, 11, 50], [20, 10, 60, 61], [70, 10, 11, 2], [81, 80, 11, 2]] : List (List Int32)).getD k []).getD a 0)
theorem z_bf0 {k a : Nat} (hk : k < 8) (ha : a < 4) (u : k_S) : k_itr (fun (x : Int32 × Int32) u => f_Bodies_bodyFor_B4 (J a) x.1 x.2 u) 9 (J k, 0) u = some (.inl (z_bf k a), u) := by
  rcases (show k = 0 ∨ k = 1 ∨ k = 2 ∨ k = 3 ∨ k = 4 ∨ k = 5 ∨ k = 6 ∨ k = 7 by omega) with rfl | rfl | rfl | rfl | rfl | rfl | rfl | rfl <;> rcases (show a = 0 ∨ a = 1 ∨ a = 2 ∨ a = 3 by omega) with rfl | rfl | rfl | rfl <;> rfl
theorem z_bodyFor {k a : Nat} (hk : k < 8) (ha : a < 4) (u : k_S) : f_Bodies_bodyFor (J k) (J a) u = some (z_bf k a, u) := by
  unfold f_Bodies_bodyFor
  rw [z_more 9 k_FU _ _ _ (by unfold k_FU; omega) (z_bf0 hk ha u)]
  rfl
/-- one code more in the class's trace, in the reference's -/
def z_apW (u : k_S) (c : Int32) : k_S := k_wF (k_wA u 37 (u.1 3503).toNatClampNeg c) 3503 (u.1 3503 + 1)
def z_apR (u : k_S) (c : Int32) : k_S := k_wF (k_wA u 71 (u.1 4247).toNatClampNeg c) 4247 (u.1 4247 + 1)
theorem z_ran {u : k_S} {m : Nat} (h : u.1 4247 = J m) (hm : m < 24) (c : Int32) : f_R_ran c u = some ((), z_apR u c) := by
  unfold f_R_ran f_R_ran_J19
  rw [h, if_neg (by (try simp (disch := omega) only [Int32.lt_iff_toInt_lt, Int32.le_iff_toInt_le, ← Int32.toInt_inj, Int32.toInt_add, Int32.toInt_sub, Int32.toInt_mul, Int32.toInt_neg, z_bm, z_bm2, J_ti, J_toInt, z_cn, Int32.reduceToInt]) <;> omega), z_cko _ (by (try simp (disch := omega) only [Int32.lt_iff_toInt_lt, Int32.le_iff_toInt_le, ← Int32.toInt_inj, Int32.toInt_add, Int32.toInt_sub, Int32.toInt_mul, Int32.toInt_neg, z_bm, z_bm2, J_ti, J_toInt, z_cn, Int32.reduceToInt]) <;> omega) (by (try simp (disch := omega) only [Int32.lt_iff_toInt_lt, Int32.le_iff_toInt_le, ← Int32.toInt_inj, Int32.toInt_add, Int32.toInt_sub, Int32.toInt_mul, Int32.toInt_neg, z_bm, z_bm2, J_ti, J_toInt, z_cn, Int32.reduceToInt]) <;> omega)]
  simp only [k_let]
  unfold z_apR
  rw [h]
  have : (k_wA u 71 (J m).toNatClampNeg c).1 4247 = J m := h
  rw [this]
theorem z_run_in {rc : Int32 → Int32 → Int32 → k_S → Option (Int32 × k_S)} {u : k_S} {m d : Nat} (h : u.1 3503 = J m) (hm : m < 24) (hd : d ≤ 40) (c x : Int32) : f_Bodies_run rc c x (J d) u = f_Bodies_run_J37 rc c x (J d) (k_wA u 37 m c) := by
  unfold f_Bodies_run
  rw [if_pos (by (try simp (disch := omega) only [Int32.lt_iff_toInt_lt, Int32.le_iff_toInt_le, ← Int32.toInt_inj, Int32.toInt_add, Int32.toInt_sub, Int32.toInt_mul, Int32.toInt_neg, z_bm, z_bm2, J_ti, J_toInt, z_cn, Int32.reduceToInt]) <;> omega), h, if_neg (by (try simp (disch := omega) only [Int32.lt_iff_toInt_lt, Int32.le_iff_toInt_le, ← Int32.toInt_inj, Int32.toInt_add, Int32.toInt_sub, Int32.toInt_mul, Int32.toInt_neg, z_bm, z_bm2, J_ti, J_toInt, z_cn, Int32.reduceToInt]) <;> omega), if_neg (by (try simp (disch := omega) only [Int32.lt_iff_toInt_lt, Int32.le_iff_toInt_le, ← Int32.toInt_inj, Int32.toInt_add, Int32.toInt_sub, Int32.toInt_mul, Int32.toInt_neg, z_bm, z_bm2, J_ti, J_toInt, z_cn, Int32.reduceToInt]) <;> omega), z_cko _ (by (try simp (disch := omega) only [Int32.lt_iff_toInt_lt, Int32.le_iff_toInt_le, ← Int32.toInt_inj, Int32.toInt_add, Int32.toInt_sub, Int32.toInt_mul, Int32.toInt_neg, z_bm, z_bm2, J_ti, J_toInt, z_cn, Int32.reduceToInt]) <;> omega) (by (try simp (disch := omega) only [Int32.lt_iff_toInt_lt, Int32.le_iff_toInt_le, ← Int32.toInt_inj, Int32.toInt_add, Int32.toInt_sub, Int32.toInt_mul, Int32.toInt_neg, z_bm, z_bm2, J_ti, J_toInt, z_cn, Int32.reduceToInt]) <;> omega), J_toNat (by omega)]
  rfl
theorem z_eta {α : Type} {o : Option (α × k_S)} : k_bind o (fun a u => some (a, u)) = o := by
  cases o with
  | none => rfl
  | some p => rfl
/-- the class in a body's act: m codes traced, b the body, k its kind -/
def z_gW (b k m : Nat) (u : k_S) : Prop := b < 50 ∧ k < 8 ∧ u.1 3503 = J m ∧ u.1 3504 = J b ∧ u.2.1 36 b = J k
theorem z_gW_ap {b k m : Nat} {u : k_S} (h : z_gW b k m u) (c : Int32) : z_gW b k (m + 1) (z_apW u c) := by
  obtain ⟨h1, h2, h3, h4, h5⟩ := h
  refine ⟨h1, h2, ?_, h4, h5⟩
  show u.1 3503 + 1 = J (m + 1)
  rw [h3, z_Jp]
theorem z_call {rc : Int32 → Int32 → Int32 → k_S → Option (Int32 × k_S)} {b k m a d : Nat} {u : k_S} (h : z_gW b k m u) (ha : a < 4) (x : Int32) : f_Bodies_call rc (J a) x (J d) u = rc (z_bf k a) x (J (d + 1)) u := by
  obtain ⟨h1, h2, h3, h4, h5⟩ := h
  unfold f_Bodies_call
  rw [h4, z_Bodies_kindOf h1, z_bind_some, h5, z_bodyFor h2 ha, z_bind_some, z_eta, z_Jp]
theorem z_above {rc : Int32 → Int32 → Int32 → k_S → Option (Int32 × k_S)} {k p a d : Nat} {u : k_S} (hk : k < 8) (hp : k_t102 k = J p) (hp8 : p < 8) (ha : a < 4) (x : Int32) : f_Bodies_above rc (J k) (J a) x (J d) u = rc (z_bf p a) x (J (d + 1)) u := by
  unfold f_Bodies_above f_Bodies_above_J21
  rw [if_neg (by (try simp (disch := omega) only [Int32.lt_iff_toInt_lt, Int32.le_iff_toInt_le, ← Int32.toInt_inj, Int32.toInt_add, Int32.toInt_sub, Int32.toInt_mul, Int32.toInt_neg, z_bm, z_bm2, J_ti, J_toInt, z_cn, Int32.reduceToInt]) <;> omega), if_neg (by (try simp (disch := omega) only [Int32.lt_iff_toInt_lt, Int32.le_iff_toInt_le, ← Int32.toInt_inj, Int32.toInt_add, Int32.toInt_sub, Int32.toInt_mul, Int32.toInt_neg, z_bm, z_bm2, J_ti, J_toInt, z_cn, Int32.reduceToInt]) <;> omega), z_cko _ (by (try simp (disch := omega) only [Int32.lt_iff_toInt_lt, Int32.le_iff_toInt_le, ← Int32.toInt_inj, Int32.toInt_add, Int32.toInt_sub, Int32.toInt_mul, Int32.toInt_neg, z_bm, z_bm2, J_ti, J_toInt, z_cn, Int32.reduceToInt]) <;> omega) (by (try simp (disch := omega) only [Int32.lt_iff_toInt_lt, Int32.le_iff_toInt_le, ← Int32.toInt_inj, Int32.toInt_add, Int32.toInt_sub, Int32.toInt_mul, Int32.toInt_neg, z_bm, z_bm2, J_ti, J_toInt, z_cn, Int32.reduceToInt]) <;> omega), J_toNat (by omega), hp, z_bodyFor hp8 ha, z_bind_some, z_eta, z_Jp]
theorem z_go {b k m d : Nat} {u : k_S} (h : z_gW b k m u) (hm : m < 24) (hd : d ≤ 40) (n : Nat) (c x : Int32) : f_Bodies_run_rec (n + 1) c x (J d) u = f_Bodies_run_J37 (f_Bodies_run_rec n) c x (J d) (k_wA u 37 m c) := z_run_in h.2.2.1 hm hd c x
theorem z_let_ap {α : Type} {b k m : Nat} {u : k_S} (h : z_gW b k m u) (hm : m < 24) (c : Int32) (F : k_S → Option (α × k_S)) : k_let (k_wF (k_wA u 37 m c) 3503 ((k_wA u 37 m c).1 3503 + 1)) F = F (z_apW u c) := by
  unfold z_apW
  rw [h.2.2.1, J_toNat (by omega)]
  have : (k_wA u 37 m c).1 3503 = J m := h.2.2.1
  rw [this]
  rfl
theorem z_w1 {b k m d : Nat} {u : k_S} (h : z_gW b k m u) (hm : m < 24) (hd : d ≤ 40) (n : Nat) (x : Int32) : f_Bodies_run_rec (n + 1) 1 x (J d) u = some (x + J b, z_apW u 1) := by
  rw [z_go h hm hd]
  unfold f_Bodies_run_J37
  rw [z_let_ap h hm, if_pos rfl, (z_gW_ap h 1).2.2.2.1]
theorem z_w20 {b k m d : Nat} {u : k_S} (h : z_gW b k m u) (hm : m < 23) (hd : d ≤ 39) (n : Nat) (x : Int32) : f_Bodies_run_rec (n + 2) 20 x (J d) u = some (x + J b + 3, z_apW (z_apW u 20) 1) := by
  rw [z_go h (by omega) (by omega)]
  unfold f_Bodies_run_J37
  rw [z_let_ap h (by omega), if_neg (by decide), if_neg (by decide), if_neg (by decide), if_neg (by decide), if_pos rfl]
  have := z_above (rc := f_Bodies_run_rec (n + 1)) (k := 1) (p := 0) (a := 0) (d := d) (u := z_apW u 20) (by omega) rfl (by omega) (by omega) x
  rw [show f_Bodies_above (f_Bodies_run_rec (n + 1)) 1 0 x (J d) (z_apW u 20) = _ from this]
  rw [show z_bf 0 0 = 1 from rfl, z_w1 (z_gW_ap h 20) (by omega) (by omega), z_bind_some]
theorem z_w11 {b k m d : Nat} {u : k_S} (h : z_gW b k m u) (hm : m < 24) (hd : d ≤ 40) (n : Nat) (x : Int32) : f_Bodies_run_rec (n + 1) 11 x (J d) u = some (x ^^^ J b, z_apW u 11) := by
  rw [z_go h hm hd]
  unfold f_Bodies_run_J37
  rw [z_let_ap h hm, if_neg (by decide), if_neg (by decide), if_neg (by decide), if_pos rfl, (z_gW_ap h 11).2.2.2.1]
theorem z_w70 {b k m d : Nat} {u : k_S} (h : z_gW b k m u) (hm : m < 23) (hd : d ≤ 39) (n : Nat) (x : Int32) : f_Bodies_run_rec (n + 2) 70 x (J d) u = some ((x + J b) * 2, z_apW (z_apW u 70) 1) := by
  rw [z_go h (by omega) (by omega)]
  unfold f_Bodies_run_J37
  rw [z_let_ap h (by omega), if_neg (by decide), if_neg (by decide), if_neg (by decide), if_neg (by decide), if_neg (by decide), if_neg (by decide), if_neg (by decide), if_neg (by decide), if_neg (by decide), if_neg (by decide), if_neg (by decide), if_pos rfl]
  have := z_above (rc := f_Bodies_run_rec (n + 1)) (k := 6) (p := 0) (a := 0) (d := d) (u := z_apW u 70) (by omega) rfl (by omega) (by omega) x
  rw [show f_Bodies_above (f_Bodies_run_rec (n + 1)) 6 0 x (J d) (z_apW u 70) = _ from this]
  rw [show z_bf 0 0 = 1 from rfl, z_w1 (z_gW_ap h 70) (by omega) (by omega), z_bind_some]
theorem z_w81 {b k m d : Nat} {u : k_S} (h : z_gW b k m u) (hm : m < 22) (hd : d ≤ 38) (n : Nat) (x : Int32) : f_Bodies_run_rec (n + 3) 81 x (J d) u = some ((x + J b) * 2 - 1, z_apW (z_apW (z_apW u 81) 70) 1) := by
  rw [z_go h (by omega) (by omega)]
  unfold f_Bodies_run_J37
  rw [z_let_ap h (by omega), if_neg (by decide), if_neg (by decide), if_neg (by decide), if_neg (by decide), if_neg (by decide), if_neg (by decide), if_neg (by decide), if_neg (by decide), if_neg (by decide), if_neg (by decide), if_neg (by decide), if_neg (by decide), if_neg (by decide), if_pos rfl]
  have := z_above (rc := f_Bodies_run_rec (n + 2)) (k := 7) (p := 6) (a := 0) (d := d) (u := z_apW u 81) (by omega) rfl (by omega) (by omega) x
  rw [show f_Bodies_above (f_Bodies_run_rec (n + 2)) 7 0 x (J d) (z_apW u 81) = _ from this]
  rw [show z_bf 6 0 = 70 from rfl, z_w70 (z_gW_ap h 81) (by omega) (by omega), z_bind_some]
/-- turning: its value and its codes, by the kind -/
def z_tuv (k : Nat) (x b : Int32) : Int32 := if k = 1 ∨ k = 4 ∨ k = 5 then x + b + 3 else if k = 6 then (x + b) * 2 else if k = 7 then (x + b) * 2 - 1 else x + b
def z_tuc (k : Nat) : List Int32 := if k = 1 ∨ k = 4 ∨ k = 5 then [20, 1] else if k = 6 then [70, 1] else if k = 7 then [81, 70, 1] else [1]
theorem z_tuW {b k m d : Nat} {u : k_S} (h : z_gW b k m u) (hm : m < 22) (hd : d ≤ 38) (n : Nat) (x : Int32) : f_Bodies_run_rec (n + 3) (z_bf k 0) x (J d) u = some (z_tuv k x (J b), (z_tuc k).foldl z_apW u) := by
  have hk := h.2.1
  rcases (show k = 0 ∨ k = 1 ∨ k = 2 ∨ k = 3 ∨ k = 4 ∨ k = 5 ∨ k = 6 ∨ k = 7 by omega) with rfl | rfl | rfl | rfl | rfl | rfl | rfl | rfl
  · exact z_w1 h (by omega) (by omega) (n + 2) x
  · exact z_w20 h (by omega) (by omega) (n + 1) x
  · exact z_w1 h (by omega) (by omega) (n + 2) x
  · exact z_w1 h (by omega) (by omega) (n + 2) x
  · exact z_w20 h (by omega) (by omega) (n + 1) x
  · exact z_w20 h (by omega) (by omega) (n + 1) x
  · exact z_w70 h (by omega) (by omega) (n + 1) x
  · exact z_w81 h (by omega) (by omega) n x
/-- the reference in a body's act -/
def z_gR (b k m : Nat) (u : k_S) : Prop := b < 50 ∧ k < 8 ∧ u.1 4247 = J m ∧ u.2.1 70 b = J k
theorem z_gR_ap {b k m : Nat} {u : k_S} (h : z_gR b k m u) (c : Int32) : z_gR b k (m + 1) (z_apR u c) := by
  obtain ⟨h1, h2, h3, h5⟩ := h
  refine ⟨h1, h2, ?_, h5⟩
  show u.1 4247 + 1 = J (m + 1)
  rw [h3, z_Jp]
theorem z_rPT {b k m : Nat} {u : k_S} (h : z_gR b k m u) (hm : m < 24) (x : Int32) : f_R_plainTurns (J b) x u = some (x + J b, z_apR u 1) := by
  unfold f_R_plainTurns
  rw [z_ran h.2.2.1 hm, z_bind_some]
theorem z_rTT {b k m : Nat} {u : k_S} (h : z_gR b k m u) (hm : m < 23) (x : Int32) : f_R_toldTurns (J b) x u = some ((x + J b) * 2, z_apR (z_apR u 70) 1) := by
  unfold f_R_toldTurns
  rw [z_ran h.2.2.1 (by omega), z_bind_some, z_rPT (z_gR_ap h 70) (by omega), z_bind_some]
theorem z_tuR {b k m : Nat} {u : k_S} (h : z_gR b k m u) (hm : m < 22) (x : Int32) : f_R_turning (J b) x u = some (z_tuv k x (J b), (z_tuc k).foldl z_apR u) := by
  obtain ⟨h1, h2, h3, h5⟩ := id h
  have cb : ∀ {α : Type} (o : Option α), k_ck (J b) 50 o = o := fun o => z_cko o (by (try simp (disch := omega) only [Int32.lt_iff_toInt_lt, Int32.le_iff_toInt_le, ← Int32.toInt_inj, Int32.toInt_add, Int32.toInt_sub, Int32.toInt_mul, Int32.toInt_neg, z_bm, z_bm2, J_ti, J_toInt, z_cn, Int32.reduceToInt]) <;> omega) (by (try simp (disch := omega) only [Int32.lt_iff_toInt_lt, Int32.le_iff_toInt_le, ← Int32.toInt_inj, Int32.toInt_add, Int32.toInt_sub, Int32.toInt_mul, Int32.toInt_neg, z_bm, z_bm2, J_ti, J_toInt, z_cn, Int32.reduceToInt]) <;> omega)
  unfold f_R_turning
  simp only [cb]
  rw [J_toNat (show b < 2147483648 by omega), h5]
  rcases (show k = 0 ∨ k = 1 ∨ k = 2 ∨ k = 3 ∨ k = 4 ∨ k = 5 ∨ k = 6 ∨ k = 7 by omega) with rfl | rfl | rfl | rfl | rfl | rfl | rfl | rfl
  · rw [show f_R_isUnder (J 0) 1 u = some (0, u) from rfl, z_bind_some, if_pos rfl, h5, if_neg (by decide), if_neg (by decide), z_rPT h (by omega), z_bind_some]; rfl
  · rw [show f_R_isUnder (J 1) 1 u = some (1, u) from rfl, z_bind_some, if_neg (by decide), z_ran h3 (by omega), z_bind_some, z_rPT (z_gR_ap h 20) (by omega), z_bind_some]; rfl
  · rw [show f_R_isUnder (J 2) 1 u = some (0, u) from rfl, z_bind_some, if_pos rfl, h5, if_neg (by decide), if_neg (by decide), z_rPT h (by omega), z_bind_some]; rfl
  · rw [show f_R_isUnder (J 3) 1 u = some (0, u) from rfl, z_bind_some, if_pos rfl, h5, if_neg (by decide), if_neg (by decide), z_rPT h (by omega), z_bind_some]; rfl
  · rw [show f_R_isUnder (J 4) 1 u = some (1, u) from rfl, z_bind_some, if_neg (by decide), z_ran h3 (by omega), z_bind_some, z_rPT (z_gR_ap h 20) (by omega), z_bind_some]; rfl
  · rw [show f_R_isUnder (J 5) 1 u = some (1, u) from rfl, z_bind_some, if_neg (by decide), z_ran h3 (by omega), z_bind_some, z_rPT (z_gR_ap h 20) (by omega), z_bind_some]; rfl
  · rw [show f_R_isUnder (J 6) 1 u = some (0, u) from rfl, z_bind_some, if_pos rfl, h5, if_neg (by decide), if_pos (show J 6 = 6 from rfl), z_rTT h (by omega), z_bind_some]; rfl
  · rw [show f_R_isUnder (J 7) 1 u = some (0, u) from rfl, z_bind_some, if_pos rfl, h5, if_pos (show J 7 = 7 from rfl), z_ran h3 (by omega), z_bind_some, z_rTT (z_gR_ap h 81) (by omega), z_bind_some]; rfl
