/-! NIGHTS PASS: the class's, the reference's -/
theorem z_moX_Now {E : z_E} {u v : k_S} {w p s r : Nat} {x : Int32} (hv : z_pqNow E u w p s r x v) : z_moNow v = ((z_moNow u).1, upd (z_moNow u).2.1 w (J (z_to p r s)), upd (z_moNow u).2.2 w (z_sp E (z_moNow u).1 ((z_moNow u).2.1 w) ((z_moNow u).2.2 w) w).2) := by
  obtain ⟨h1, h2, h3, -⟩ := hv
  unfold z_moNow
  rw [h1.1 1402 rfl, h2, h3]
theorem z_inner_Now (E : z_E) (v2 v4 : Int32) (K : Nat) (hK : K ≤ 4) : ∀ (k w N : Nat) (u : k_S), w + k = K → k + 1 < N → z_EW E u → z_ok E (z_moNow u) → k_sat (k_itr (fun (x : (Int32 × Int32)) u => f_Nights_pass_Now_B25 v2 (J K) v4 x.1 x.2 u) N (1, J w) u) (fun _ v => z_fr [1206, 704] [15, 16, 9] u v ∧ z_moNow v = z_pu E k w (z_moNow u) ∧ v.1 1206 = if w = 0 ∧ 0 < k ∧ 0 < E.1 then z_sk E (z_moNow u) (u.1 1206) else u.1 1206)
  | 0, w, N, u, hw, hN, hE, hok => by
    obtain ⟨n, rfl⟩ : ∃ n, N = n + 1 := ⟨N - 1, by omega⟩
    refine z_exit ?_
    unfold f_Nights_pass_Now_B25
    dsimp only
    exact z_neg (by decide) (z_pos (by (try simp (disch := omega) only [Int32.lt_iff_toInt_lt, Int32.le_iff_toInt_le, ← Int32.toInt_inj, Int32.toInt_add, Int32.toInt_sub, Int32.toInt_mul, Int32.toInt_neg, z_bm, z_bm2, J_ti, J_toInt, z_cn, Int32.reduceToInt]) <;> omega) (k_sat_mk ⟨_, rfl, z_fr.rf, rfl, by rw [if_neg (by omega)]⟩))
  | k + 1, w, N, u, hw, hN, hE, hok => by
    obtain ⟨n, rfl⟩ : ∃ n, N = n + 1 := ⟨N - 1, by omega⟩
    by_cases hwE : E.1 ≤ w
    · refine z_exit ?_
      unfold f_Nights_pass_Now_B25
      dsimp only
      refine z_neg (by decide) (z_neg (by (try simp (disch := omega) only [Int32.lt_iff_toInt_lt, Int32.le_iff_toInt_le, ← Int32.toInt_inj, Int32.toInt_add, Int32.toInt_sub, Int32.toInt_mul, Int32.toInt_neg, z_bm, z_bm2, J_ti, J_toInt, z_cn, Int32.reduceToInt]) <;> omega) (z_pos (by rw [hE.2.1]; have := hE.1; (try simp (disch := omega) only [Int32.lt_iff_toInt_lt, Int32.le_iff_toInt_le, ← Int32.toInt_inj, Int32.toInt_add, Int32.toInt_sub, Int32.toInt_mul, Int32.toInt_neg, z_bm, z_bm2, J_ti, J_toInt, z_cn, Int32.reduceToInt]) <;> omega) (k_sat_mk ⟨_, rfl, z_fr.rf, ?_, ?_⟩)))
      · rw [z_pu, if_pos hwE]
      · rw [if_neg (by omega)]
    · obtain ⟨p, s, hp, h2, hs, ep, es⟩ := hok.2 w (by omega)
      obtain ⟨r, hr, er⟩ := z_sp_r E (u.1 1402) (u.2.1 15 w) (u.2.1 16 w) w
      refine z_turn ?_
      unfold f_Nights_pass_Now_B25
      dsimp only
      refine z_neg (by decide) (z_neg (by (try simp (disch := omega) only [Int32.lt_iff_toInt_lt, Int32.le_iff_toInt_le, ← Int32.toInt_inj, Int32.toInt_add, Int32.toInt_sub, Int32.toInt_mul, Int32.toInt_neg, z_bm, z_bm2, J_ti, J_toInt, z_cn, Int32.reduceToInt]) <;> omega) (z_neg (by rw [hE.2.1]; have := hE.1; (try simp (disch := omega) only [Int32.lt_iff_toInt_lt, Int32.le_iff_toInt_le, ← Int32.toInt_inj, Int32.toInt_add, Int32.toInt_sub, Int32.toInt_mul, Int32.toInt_neg, z_bm, z_bm2, J_ti, J_toInt, z_cn, Int32.reduceToInt]) <;> omega) (z_bind _ (z_pushed_Now E w p s r u hE (by omega) hp h2 hs hr ep es er) (fun x v hv => k_sat_mk ⟨_, rfl, ?_⟩))))
      have hm := z_moX_Now hv
      have hpu := z_pu_s E k w (z_moNow u) p s r hp h2 hs (by omega) ep es hr er
      obtain ⟨g1, g2, g3, g4, g5⟩ := hv
      by_cases h : p + r < s
      · rw [if_pos h] at g4 hpu
        subst g4
        obtain ⟨n', rfl⟩ : ∃ n', n = n' + 1 := ⟨n - 1, by omega⟩
        refine z_exit (z_pos rfl (k_sat_mk ⟨_, rfl, g1, ?_, ?_⟩))
        · rw [hm, hpu]
        · rw [g5]
          by_cases h0 : w = 0
          · rw [if_pos h0, if_pos ⟨h0, by omega, by omega⟩]
          · rw [if_neg h0, if_neg (fun q => h0 q.1)]
      · rw [if_neg h] at g4 hpu
        subst g4
        have hok1 : z_ok E (z_moNow v) := by
          have := (z_pu_ok E 1 w (z_moNow u) hok).1
          rw [z_pu_s E 0 w (z_moNow u) p s r hp h2 hs (by omega) ep es hr er, if_neg h] at this
          rw [hm]
          exact this
        rw [z_J1]
        refine z_mono (z_inner_Now E v2 v4 K hK k (w + 1) n v (by omega) (by omega) (z_EW_f g1 (by decide) hE) hok1) (fun _ v' h' => ⟨g1.tr h'.1, ?_, ?_⟩)
        · rw [h'.2.1, hm, hpu]
        · rw [h'.2.2, if_neg (by omega), g5]
          by_cases h0 : w = 0
          · rw [if_pos h0, if_pos ⟨h0, by omega, by omega⟩]
          · rw [if_neg h0, if_neg (fun q => h0 q.1)]
theorem z_pass_Now (E : z_E) (n K : Nat) (hn : n < 2147483648) (hK : K ≤ 4) (u : k_S) (hE : z_EW E u) (hok : z_ok E (z_moNow u)) : k_sat (f_Nights_pass_Now (J n) (J K) u) (fun _ v => z_fr [1402, 1206, 704] [15, 16, 9] u v ∧ z_moNow v = z_or E K n (z_moNow u) ∧ v.1 1206 = z_os E K (u.1 1206) n (z_moNow u)) := by
  unfold f_Nights_pass_Now
  refine z_bind _ (z_for 0 n (fun i v => z_fr [1402, 1206, 704] [15, 16, 9] u v ∧ z_moNow v = z_or E K i (z_moNow u) ∧ v.1 1206 = z_os E K (u.1 1206) i (z_moNow u)) (K := fun _ v => z_fr [1402, 1206, 704] [15, 16, 9] u v ∧ z_moNow v = z_or E K n (z_moNow u) ∧ v.1 1206 = z_os E K (u.1 1206) n (z_moNow u)) hn (Nat.zero_le n) ⟨z_fr.rf, rfl, rfl⟩ (fun i v _ hi hp => ?_) (fun v hp => ?_)) (fun _ v h => k_sat_mk h)
  · obtain ⟨h1, h2, h3⟩ := hp
    unfold f_Nights_pass_Now_B3
    refine z_neg (by (try simp (disch := omega) only [Int32.lt_iff_toInt_lt, Int32.le_iff_toInt_le, ← Int32.toInt_inj, Int32.toInt_add, Int32.toInt_sub, Int32.toInt_mul, Int32.toInt_neg, z_bm, z_bm2, J_ti, J_toInt, z_cn, Int32.reduceToInt]) <;> omega) (z_let ?_)
    have hm1 : z_moNow (k_wF v 1402 (v.1 1402 + 1)) = ((z_or E K i (z_moNow u)).1 + 1, (z_or E K i (z_moNow u)).2) := by
      rw [← h2]
      unfold z_moNow
      simp [k_wF]
    have hf1 : z_fr [1402] [] v (k_wF v 1402 (v.1 1402 + 1)) := z_wF rfl
    have hokv := (z_or_ok (K := K) hok i).1
    refine z_bind _ (z_inner_Now E _ _ K hK K 0 k_FU (k_wF v 1402 (v.1 1402 + 1)) (by omega) (by unfold k_FU; omega) (z_EW_f hf1 (by decide) (z_EW_f h1 (by decide) hE)) (by rw [hm1]; exact hokv)) (fun _ v' h' => k_sat_mk (Or.inl ⟨rfl, ?_, ?_, ?_⟩))
    · exact (h1.tr (hf1.mono rfl rfl)).tr (h'.1.mono rfl rfl)
    · rw [h'.2.1, hm1]; rfl
    · rw [h'.2.2, hm1]
      show _ = if 0 < K ∧ 0 < E.1 then _ else _
      have e6 : (k_wF v 1402 (v.1 1402 + 1)).1 1206 = z_os E K (u.1 1206) i (z_moNow u) := by
        rw [← h3]
        simp [k_wF]
      rw [e6]
      by_cases hc : 0 < K ∧ 0 < E.1
      · rw [if_pos ⟨rfl, hc⟩, if_pos hc]
      · rw [if_neg (fun q => hc q.2), if_neg hc]
  · unfold f_Nights_pass_Now_B3
    exact z_pos (Int32.le_refl _) (k_sat_mk ⟨_, rfl, hp⟩)
theorem z_moX_Thought {E : z_E} {u v : k_S} {w p s r : Nat} {x : Int32} (hv : z_pqThought E u w p s r x v) : z_moThought v = ((z_moThought u).1, upd (z_moThought u).2.1 w (J (z_to p r s)), upd (z_moThought u).2.2 w (z_sp E (z_moThought u).1 ((z_moThought u).2.1 w) ((z_moThought u).2.2 w) w).2) := by
  obtain ⟨h1, h2, h3, -⟩ := hv
  unfold z_moThought
  rw [h1.1 1702 rfl, h2, h3]
theorem z_inner_Thought (E : z_E) (v2 v4 : Int32) (K : Nat) (hK : K ≤ 4) : ∀ (k w N : Nat) (u : k_S), w + k = K → k + 1 < N → z_EW E u → z_ok E (z_moThought u) → k_sat (k_itr (fun (x : (Int32 × Int32)) u => f_Nights_pass_Thought_B25 v2 (J K) v4 x.1 x.2 u) N (1, J w) u) (fun _ v => z_fr [1206, 704] [18, 19, 9] u v ∧ z_moThought v = z_pu E k w (z_moThought u) ∧ v.1 1206 = if w = 0 ∧ 0 < k ∧ 0 < E.1 then z_sk E (z_moThought u) (u.1 1206) else u.1 1206)
  | 0, w, N, u, hw, hN, hE, hok => by
    obtain ⟨n, rfl⟩ : ∃ n, N = n + 1 := ⟨N - 1, by omega⟩
    refine z_exit ?_
    unfold f_Nights_pass_Thought_B25
    dsimp only
    exact z_neg (by decide) (z_pos (by (try simp (disch := omega) only [Int32.lt_iff_toInt_lt, Int32.le_iff_toInt_le, ← Int32.toInt_inj, Int32.toInt_add, Int32.toInt_sub, Int32.toInt_mul, Int32.toInt_neg, z_bm, z_bm2, J_ti, J_toInt, z_cn, Int32.reduceToInt]) <;> omega) (k_sat_mk ⟨_, rfl, z_fr.rf, rfl, by rw [if_neg (by omega)]⟩))
  | k + 1, w, N, u, hw, hN, hE, hok => by
    obtain ⟨n, rfl⟩ : ∃ n, N = n + 1 := ⟨N - 1, by omega⟩
    by_cases hwE : E.1 ≤ w
    · refine z_exit ?_
      unfold f_Nights_pass_Thought_B25
      dsimp only
      refine z_neg (by decide) (z_neg (by (try simp (disch := omega) only [Int32.lt_iff_toInt_lt, Int32.le_iff_toInt_le, ← Int32.toInt_inj, Int32.toInt_add, Int32.toInt_sub, Int32.toInt_mul, Int32.toInt_neg, z_bm, z_bm2, J_ti, J_toInt, z_cn, Int32.reduceToInt]) <;> omega) (z_pos (by rw [hE.2.1]; have := hE.1; (try simp (disch := omega) only [Int32.lt_iff_toInt_lt, Int32.le_iff_toInt_le, ← Int32.toInt_inj, Int32.toInt_add, Int32.toInt_sub, Int32.toInt_mul, Int32.toInt_neg, z_bm, z_bm2, J_ti, J_toInt, z_cn, Int32.reduceToInt]) <;> omega) (k_sat_mk ⟨_, rfl, z_fr.rf, ?_, ?_⟩)))
      · rw [z_pu, if_pos hwE]
      · rw [if_neg (by omega)]
    · obtain ⟨p, s, hp, h2, hs, ep, es⟩ := hok.2 w (by omega)
      obtain ⟨r, hr, er⟩ := z_sp_r E (u.1 1702) (u.2.1 18 w) (u.2.1 19 w) w
      refine z_turn ?_
      unfold f_Nights_pass_Thought_B25
      dsimp only
      refine z_neg (by decide) (z_neg (by (try simp (disch := omega) only [Int32.lt_iff_toInt_lt, Int32.le_iff_toInt_le, ← Int32.toInt_inj, Int32.toInt_add, Int32.toInt_sub, Int32.toInt_mul, Int32.toInt_neg, z_bm, z_bm2, J_ti, J_toInt, z_cn, Int32.reduceToInt]) <;> omega) (z_neg (by rw [hE.2.1]; have := hE.1; (try simp (disch := omega) only [Int32.lt_iff_toInt_lt, Int32.le_iff_toInt_le, ← Int32.toInt_inj, Int32.toInt_add, Int32.toInt_sub, Int32.toInt_mul, Int32.toInt_neg, z_bm, z_bm2, J_ti, J_toInt, z_cn, Int32.reduceToInt]) <;> omega) (z_bind _ (z_pushed_Thought E w p s r u hE (by omega) hp h2 hs hr ep es er) (fun x v hv => k_sat_mk ⟨_, rfl, ?_⟩))))
      have hm := z_moX_Thought hv
      have hpu := z_pu_s E k w (z_moThought u) p s r hp h2 hs (by omega) ep es hr er
      obtain ⟨g1, g2, g3, g4, g5⟩ := hv
      by_cases h : p + r < s
      · rw [if_pos h] at g4 hpu
        subst g4
        obtain ⟨n', rfl⟩ : ∃ n', n = n' + 1 := ⟨n - 1, by omega⟩
        refine z_exit (z_pos rfl (k_sat_mk ⟨_, rfl, g1, ?_, ?_⟩))
        · rw [hm, hpu]
        · rw [g5]
          by_cases h0 : w = 0
          · rw [if_pos h0, if_pos ⟨h0, by omega, by omega⟩]
          · rw [if_neg h0, if_neg (fun q => h0 q.1)]
      · rw [if_neg h] at g4 hpu
        subst g4
        have hok1 : z_ok E (z_moThought v) := by
          have := (z_pu_ok E 1 w (z_moThought u) hok).1
          rw [z_pu_s E 0 w (z_moThought u) p s r hp h2 hs (by omega) ep es hr er, if_neg h] at this
          rw [hm]
          exact this
        rw [z_J1]
        refine z_mono (z_inner_Thought E v2 v4 K hK k (w + 1) n v (by omega) (by omega) (z_EW_f g1 (by decide) hE) hok1) (fun _ v' h' => ⟨g1.tr h'.1, ?_, ?_⟩)
        · rw [h'.2.1, hm, hpu]
        · rw [h'.2.2, if_neg (by omega), g5]
          by_cases h0 : w = 0
          · rw [if_pos h0, if_pos ⟨h0, by omega, by omega⟩]
          · rw [if_neg h0, if_neg (fun q => h0 q.1)]
theorem z_pass_Thought (E : z_E) (n K : Nat) (hn : n < 2147483648) (hK : K ≤ 4) (u : k_S) (hE : z_EW E u) (hok : z_ok E (z_moThought u)) : k_sat (f_Nights_pass_Thought (J n) (J K) u) (fun _ v => z_fr [1702, 1206, 704] [18, 19, 9] u v ∧ z_moThought v = z_or E K n (z_moThought u) ∧ v.1 1206 = z_os E K (u.1 1206) n (z_moThought u)) := by
  unfold f_Nights_pass_Thought
  refine z_bind _ (z_for 0 n (fun i v => z_fr [1702, 1206, 704] [18, 19, 9] u v ∧ z_moThought v = z_or E K i (z_moThought u) ∧ v.1 1206 = z_os E K (u.1 1206) i (z_moThought u)) (K := fun _ v => z_fr [1702, 1206, 704] [18, 19, 9] u v ∧ z_moThought v = z_or E K n (z_moThought u) ∧ v.1 1206 = z_os E K (u.1 1206) n (z_moThought u)) hn (Nat.zero_le n) ⟨z_fr.rf, rfl, rfl⟩ (fun i v _ hi hp => ?_) (fun v hp => ?_)) (fun _ v h => k_sat_mk h)
  · obtain ⟨h1, h2, h3⟩ := hp
    unfold f_Nights_pass_Thought_B3
    refine z_neg (by (try simp (disch := omega) only [Int32.lt_iff_toInt_lt, Int32.le_iff_toInt_le, ← Int32.toInt_inj, Int32.toInt_add, Int32.toInt_sub, Int32.toInt_mul, Int32.toInt_neg, z_bm, z_bm2, J_ti, J_toInt, z_cn, Int32.reduceToInt]) <;> omega) (z_let ?_)
    have hm1 : z_moThought (k_wF v 1702 (v.1 1702 + 1)) = ((z_or E K i (z_moThought u)).1 + 1, (z_or E K i (z_moThought u)).2) := by
      rw [← h2]
      unfold z_moThought
      simp [k_wF]
    have hf1 : z_fr [1702] [] v (k_wF v 1702 (v.1 1702 + 1)) := z_wF rfl
    have hokv := (z_or_ok (K := K) hok i).1
    refine z_bind _ (z_inner_Thought E _ _ K hK K 0 k_FU (k_wF v 1702 (v.1 1702 + 1)) (by omega) (by unfold k_FU; omega) (z_EW_f hf1 (by decide) (z_EW_f h1 (by decide) hE)) (by rw [hm1]; exact hokv)) (fun _ v' h' => k_sat_mk (Or.inl ⟨rfl, ?_, ?_, ?_⟩))
    · exact (h1.tr (hf1.mono rfl rfl)).tr (h'.1.mono rfl rfl)
    · rw [h'.2.1, hm1]; rfl
    · rw [h'.2.2, hm1]
      show _ = if 0 < K ∧ 0 < E.1 then _ else _
      have e6 : (k_wF v 1702 (v.1 1702 + 1)).1 1206 = z_os E K (u.1 1206) i (z_moThought u) := by
        rw [← h3]
        simp [k_wF]
      rw [e6]
      by_cases hc : 0 < K ∧ 0 < E.1
      · rw [if_pos ⟨rfl, hc⟩, if_pos hc]
      · rw [if_neg (fun q => hc q.2), if_neg hc]
  · unfold f_Nights_pass_Thought_B3
    exact z_pos (Int32.le_refl _) (k_sat_mk ⟨_, rfl, hp⟩)
def z_moR (u : k_S) : z_Mo := (u.1 4209, u.2.1 46, u.2.1 47)
def z_ER (E : z_E) (u : k_S) : Prop := E.1 ≤ 4 ∧ u.1 4203 = J E.1 ∧ (∀ w, w < E.1 → u.2.1 45 w = E.2.2.1 w ∧ u.2.1 48 w = E.2.2.2.1 w ∧ ∀ p s : Nat, E.2.2.1 w = J s → p < s → s ≤ 40 → u.2.1 44 (40 * w + p) = E.2.1 (40 * w + p)) ∧ ∀ v : k_S, v.1 4223 = u.1 4223 → v.1 4211 = u.1 4211 → v.2.1 49 = u.2.1 49 → v.2.1 50 = u.2.1 50 → v.2.1 51 = u.2.1 51 → v.2.1 52 = u.2.1 52 → v.2.1 53 = u.2.1 53 → ∀ w : Nat, w < 4 → k_sat (f_R_isCold (J w) v) (fun r v' => z_fr [] [54, 55] v v' ∧ r = if E.2.2.2.2 (v.1 4209) (v.2.1 46 w) w = true then 1 else 0)
theorem z_ER_f {E : z_E} {F A : List Nat} {u v : k_S} (h : z_fr F A u v) (hd : F.elem 4203 = false ∧ F.elem 4223 = false ∧ F.elem 4211 = false ∧ A.elem 44 = false ∧ A.elem 45 = false ∧ A.elem 48 = false ∧ A.elem 49 = false ∧ A.elem 50 = false ∧ A.elem 51 = false ∧ A.elem 52 = false ∧ A.elem 53 = false) (hE : z_ER E u) : z_ER E v := by
  obtain ⟨a1, a2, a3, a4, a5, a6, a7, a8, a9, a10, a11⟩ := hd
  obtain ⟨b0, b1, b2, b3⟩ := hE
  refine ⟨b0, by rw [h.1 _ a1]; exact b1, fun w hw => ?_, fun x x1 x2 x3 x4 x5 x6 x7 => b3 x (x1.trans (h.1 _ a2)) (x2.trans (h.1 _ a3)) (x3.trans (h.2.1 _ a7)) (x4.trans (h.2.1 _ a8)) (x5.trans (h.2.1 _ a9)) (x6.trans (h.2.1 _ a10)) (x7.trans (h.2.1 _ a11))⟩
  rw [h.2.1 _ a5, h.2.1 _ a6, h.2.1 _ a4]
  exact b2 w hw
theorem z_up_self (f : Nat → Int32) (w : Nat) : upd f w (f w) = f := by
  funext j
  rw [z_up]
  by_cases h : j = w
  · rw [if_pos h, h]
  · rw [if_neg h]
theorem z_Rstep (E : z_E) (w p s : Nat) (u : k_S) (hE : z_ER E u) (hw : w < E.1) (hp : p < s) (hs : s ≤ 40) (ep : u.2.1 46 w = J p) (es : E.2.2.1 w = J s) : k_sat (f_R_step (J w) u) (fun x v => z_fr [] [47, 54, 55] u v ∧ x = (z_sp E (u.1 4209) (u.2.1 46 w) (u.2.1 47 w) w).1 ∧ v.2.1 47 = upd (u.2.1 47) w (z_sp E (u.1 4209) (u.2.1 46 w) (u.2.1 47 w) w).2) := by
  obtain ⟨hE4, e1, hA, hc⟩ := hE
  obtain ⟨a1, a2, a3⟩ := hA w hw
  have hw4 : w < 4 := by omega
  have hsp : z_sp E (u.1 4209) (u.2.1 46 w) (u.2.1 47 w) w = if u.2.1 44 (40 * w + p) = 98 then (if u.2.1 48 w ≤ u.1 4209 then (2, u.2.1 47 w) else (1, u.2.1 47 w)) else if u.2.1 44 (40 * w + p) = 102 then (if E.2.2.2.2 (u.1 4209) (u.2.1 46 w) w = true then (0, u.2.1 47 w) else (1, u.2.1 47 w)) else if u.2.1 44 (40 * w + p) = 115 then (2, u.2.1 47 w) else if u.2.1 44 (40 * w + p) = 119 then (1, u.2.1 47 w) else if u.2.1 44 (40 * w + p) - 48 ≤ u.2.1 47 w then (1, 0) else (0, u.2.1 47 w + 1) := by
    unfold z_sp
    rw [ep, J_toNat (show p < 2147483648 by omega), a3 p s es hp hs, a2]
  have hJw : (J w).toNatClampNeg = w := J_toNat (by omega)
  unfold f_R_step
  rw [hJw, ep, J_40]
  refine z_ck (by (try simp (disch := omega) only [Int32.lt_iff_toInt_lt, Int32.le_iff_toInt_le, ← Int32.toInt_inj, Int32.toInt_add, Int32.toInt_sub, Int32.toInt_mul, Int32.toInt_neg, z_bm, z_bm2, J_ti, J_toInt, z_cn, Int32.reduceToInt]) <;> omega) (by (try simp (disch := omega) only [Int32.lt_iff_toInt_lt, Int32.le_iff_toInt_le, ← Int32.toInt_inj, Int32.toInt_add, Int32.toInt_sub, Int32.toInt_mul, Int32.toInt_neg, z_bm, z_bm2, J_ti, J_toInt, z_cn, Int32.reduceToInt]) <;> omega) (z_ck (by (try simp (disch := omega) only [Int32.lt_iff_toInt_lt, Int32.le_iff_toInt_le, ← Int32.toInt_inj, Int32.toInt_add, Int32.toInt_sub, Int32.toInt_mul, Int32.toInt_neg, z_bm, z_bm2, J_ti, J_toInt, z_cn, Int32.reduceToInt]) <;> omega) (by (try simp (disch := omega) only [Int32.lt_iff_toInt_lt, Int32.le_iff_toInt_le, ← Int32.toInt_inj, Int32.toInt_add, Int32.toInt_sub, Int32.toInt_mul, Int32.toInt_neg, z_bm, z_bm2, J_ti, J_toInt, z_cn, Int32.reduceToInt]) <;> omega) (z_let ?_))
  rw [J_toNat (show 40 * w + p < 2147483648 by omega)]
  rw [← ep]
  by_cases l1 : u.2.1 44 (40 * w + p) = 98
  · rw [if_pos l1] at hsp
    refine z_pos l1 (z_ck (by (try simp (disch := omega) only [Int32.lt_iff_toInt_lt, Int32.le_iff_toInt_le, ← Int32.toInt_inj, Int32.toInt_add, Int32.toInt_sub, Int32.toInt_mul, Int32.toInt_neg, z_bm, z_bm2, J_ti, J_toInt, z_cn, Int32.reduceToInt]) <;> omega) (by (try simp (disch := omega) only [Int32.lt_iff_toInt_lt, Int32.le_iff_toInt_le, ← Int32.toInt_inj, Int32.toInt_add, Int32.toInt_sub, Int32.toInt_mul, Int32.toInt_neg, z_bm, z_bm2, J_ti, J_toInt, z_cn, Int32.reduceToInt]) <;> omega) (z_ite (fun l => k_sat_mk ⟨z_fr.rf, ?_, ?_⟩) (fun l => k_sat_mk ⟨z_fr.rf, ?_, ?_⟩)))
    · rw [hsp, if_pos l]
    · rw [hsp, if_pos l, z_up_self]
    · rw [hsp, if_neg l]
    · rw [hsp, if_neg l, z_up_self]
  refine z_neg l1 ?_
  rw [if_neg l1] at hsp
  by_cases l2 : u.2.1 44 (40 * w + p) = 102
  · rw [if_pos l2] at hsp
    refine z_pos l2 (z_bind _ (hc u rfl rfl rfl rfl rfl rfl rfl w hw4) (fun x v hv => ?_))
    by_cases hq : E.2.2.2.2 (u.1 4209) (u.2.1 46 w) w = true
    · rw [if_pos hq] at hv hsp
      refine z_neg (by rw [hv.2]; decide) (k_sat_mk ⟨hv.1.mono rfl rfl, ?_, ?_⟩)
      · rw [hsp]
      · rw [hsp, z_up_self]; exact hv.1.2.1 47 rfl
    · rw [if_neg hq] at hv hsp
      refine z_pos hv.2 (k_sat_mk ⟨hv.1.mono rfl rfl, ?_, ?_⟩)
      · rw [hsp]
      · rw [hsp, z_up_self]; exact hv.1.2.1 47 rfl
  refine z_neg l2 ?_
  rw [if_neg l2] at hsp
  by_cases l3 : u.2.1 44 (40 * w + p) = 115
  · rw [if_pos l3] at hsp
    exact z_pos l3 (k_sat_mk ⟨z_fr.rf, by rw [hsp], by rw [hsp, z_up_self]⟩)
  refine z_neg l3 ?_
  rw [if_neg l3] at hsp
  by_cases l4 : u.2.1 44 (40 * w + p) = 119
  · rw [if_pos l4] at hsp
    exact z_pos l4 (k_sat_mk ⟨z_fr.rf, by rw [hsp], by rw [hsp, z_up_self]⟩)
  refine z_neg l4 ?_
  rw [if_neg l4] at hsp
  refine z_ck (by (try simp (disch := omega) only [Int32.lt_iff_toInt_lt, Int32.le_iff_toInt_le, ← Int32.toInt_inj, Int32.toInt_add, Int32.toInt_sub, Int32.toInt_mul, Int32.toInt_neg, z_bm, z_bm2, J_ti, J_toInt, z_cn, Int32.reduceToInt]) <;> omega) (by (try simp (disch := omega) only [Int32.lt_iff_toInt_lt, Int32.le_iff_toInt_le, ← Int32.toInt_inj, Int32.toInt_add, Int32.toInt_sub, Int32.toInt_mul, Int32.toInt_neg, z_bm, z_bm2, J_ti, J_toInt, z_cn, Int32.reduceToInt]) <;> omega) (z_ite (fun l => z_ck (by (try simp (disch := omega) only [Int32.lt_iff_toInt_lt, Int32.le_iff_toInt_le, ← Int32.toInt_inj, Int32.toInt_add, Int32.toInt_sub, Int32.toInt_mul, Int32.toInt_neg, z_bm, z_bm2, J_ti, J_toInt, z_cn, Int32.reduceToInt]) <;> omega) (by (try simp (disch := omega) only [Int32.lt_iff_toInt_lt, Int32.le_iff_toInt_le, ← Int32.toInt_inj, Int32.toInt_add, Int32.toInt_sub, Int32.toInt_mul, Int32.toInt_neg, z_bm, z_bm2, J_ti, J_toInt, z_cn, Int32.reduceToInt]) <;> omega) (z_let (k_sat_mk ⟨z_wA rfl, ?_, ?_⟩))) (fun l => z_ck (by (try simp (disch := omega) only [Int32.lt_iff_toInt_lt, Int32.le_iff_toInt_le, ← Int32.toInt_inj, Int32.toInt_add, Int32.toInt_sub, Int32.toInt_mul, Int32.toInt_neg, z_bm, z_bm2, J_ti, J_toInt, z_cn, Int32.reduceToInt]) <;> omega) (by (try simp (disch := omega) only [Int32.lt_iff_toInt_lt, Int32.le_iff_toInt_le, ← Int32.toInt_inj, Int32.toInt_add, Int32.toInt_sub, Int32.toInt_mul, Int32.toInt_neg, z_bm, z_bm2, J_ti, J_toInt, z_cn, Int32.reduceToInt]) <;> omega) (z_ck (by (try simp (disch := omega) only [Int32.lt_iff_toInt_lt, Int32.le_iff_toInt_le, ← Int32.toInt_inj, Int32.toInt_add, Int32.toInt_sub, Int32.toInt_mul, Int32.toInt_neg, z_bm, z_bm2, J_ti, J_toInt, z_cn, Int32.reduceToInt]) <;> omega) (by (try simp (disch := omega) only [Int32.lt_iff_toInt_lt, Int32.le_iff_toInt_le, ← Int32.toInt_inj, Int32.toInt_add, Int32.toInt_sub, Int32.toInt_mul, Int32.toInt_neg, z_bm, z_bm2, J_ti, J_toInt, z_cn, Int32.reduceToInt]) <;> omega) (z_let (k_sat_mk ⟨z_wA rfl, ?_, ?_⟩)))))
  · rw [hsp, if_pos l]
  · rw [hsp, if_pos l]; simp [k_wA]
  · rw [hsp, if_neg l]
  · rw [hsp, if_neg l]; simp [k_wA]
theorem z_innerR (E : z_E) : ∀ (k w N : Nat) (u : k_S), w + k = 4 → k + 1 < N → z_ER E u → z_ok E (z_moR u) → k_sat (k_itr (fun (x : (Int32)) u => f_R_goOn_B12 x u) N (J w) u) (fun _ v => z_fr [] [46, 47, 54, 55] u v ∧ z_moR v = z_pu E k w (z_moR u))
  | 0, w, N, u, hw, hN, hE, hok => by
    obtain ⟨n, rfl⟩ : ∃ n, N = n + 1 := ⟨N - 1, by omega⟩
    refine z_exit ?_
    unfold f_R_goOn_B12
    exact z_pos (by rw [hE.2.1]; have := hE.1; (try simp (disch := omega) only [Int32.lt_iff_toInt_lt, Int32.le_iff_toInt_le, ← Int32.toInt_inj, Int32.toInt_add, Int32.toInt_sub, Int32.toInt_mul, Int32.toInt_neg, z_bm, z_bm2, J_ti, J_toInt, z_cn, Int32.reduceToInt]) <;> omega) (k_sat_mk ⟨_, rfl, z_fr.rf, rfl⟩)
  | k + 1, w, N, u, hw, hN, hE, hok => by
    obtain ⟨n, rfl⟩ : ∃ n, N = n + 1 := ⟨N - 1, by omega⟩
    have hE4 := hE.1
    by_cases hwE : E.1 ≤ w
    · refine z_exit ?_
      unfold f_R_goOn_B12
      exact z_pos (by rw [hE.2.1]; (try simp (disch := omega) only [Int32.lt_iff_toInt_lt, Int32.le_iff_toInt_le, ← Int32.toInt_inj, Int32.toInt_add, Int32.toInt_sub, Int32.toInt_mul, Int32.toInt_neg, z_bm, z_bm2, J_ti, J_toInt, z_cn, Int32.reduceToInt]) <;> omega) (k_sat_mk ⟨_, rfl, z_fr.rf, by rw [z_pu, if_pos hwE]⟩)
    · obtain ⟨p, s, hp, h2, hs, ep, es⟩ := hok.2 w (by omega)
      obtain ⟨r, hr, er⟩ := z_sp_r E (u.1 4209) (u.2.1 46 w) (u.2.1 47 w) w
      have ep : u.2.1 46 w = J p := ep
      have hJw : (J w).toNatClampNeg = w := J_toNat (by omega)
      have hpu := z_pu_s E k w (z_moR u) p s r hp h2 hs (by omega) ep es hr er
      refine z_turn ?_
      unfold f_R_goOn_B12
      rw [hJw]
      refine z_neg (by rw [hE.2.1]; (try simp (disch := omega) only [Int32.lt_iff_toInt_lt, Int32.le_iff_toInt_le, ← Int32.toInt_inj, Int32.toInt_add, Int32.toInt_sub, Int32.toInt_mul, Int32.toInt_neg, z_bm, z_bm2, J_ti, J_toInt, z_cn, Int32.reduceToInt]) <;> omega) (z_ck (by (try simp (disch := omega) only [Int32.lt_iff_toInt_lt, Int32.le_iff_toInt_le, ← Int32.toInt_inj, Int32.toInt_add, Int32.toInt_sub, Int32.toInt_mul, Int32.toInt_neg, z_bm, z_bm2, J_ti, J_toInt, z_cn, Int32.reduceToInt]) <;> omega) (by (try simp (disch := omega) only [Int32.lt_iff_toInt_lt, Int32.le_iff_toInt_le, ← Int32.toInt_inj, Int32.toInt_add, Int32.toInt_sub, Int32.toInt_mul, Int32.toInt_neg, z_bm, z_bm2, J_ti, J_toInt, z_cn, Int32.reduceToInt]) <;> omega) (z_bind _ (z_Rstep E w p s u hE (by omega) hp hs ep es) (fun x v hv => z_let (z_ck (by (try simp (disch := omega) only [Int32.lt_iff_toInt_lt, Int32.le_iff_toInt_le, ← Int32.toInt_inj, Int32.toInt_add, Int32.toInt_sub, Int32.toInt_mul, Int32.toInt_neg, z_bm, z_bm2, J_ti, J_toInt, z_cn, Int32.reduceToInt]) <;> omega) (by (try simp (disch := omega) only [Int32.lt_iff_toInt_lt, Int32.le_iff_toInt_le, ← Int32.toInt_inj, Int32.toInt_add, Int32.toInt_sub, Int32.toInt_mul, Int32.toInt_neg, z_bm, z_bm2, J_ti, J_toInt, z_cn, Int32.reduceToInt]) <;> omega) ?_))))
      obtain ⟨g1, g2, g3⟩ := hv
      have e45 : v.2.1 45 w = J s := by rw [g1.2.1 45 rfl, (hE.2.2.1 w (by omega)).1]; exact es
      rw [g2, er, ep, J_add, e45]
      have hfin : ∀ q : Nat, q = z_to p r s → z_moR (k_wA v 46 w (J q)) = ((z_moR u).1, upd (z_moR u).2.1 w (J (z_to p r s)), upd (z_moR u).2.2 w (z_sp E (z_moR u).1 ((z_moR u).2.1 w) ((z_moR u).2.2 w) w).2) := by
        intro q hq
        subst hq
        unfold z_moR
        simp [k_wA, g1.1 4209 rfl, g1.2.1 46 rfl, g3]
      have hf2 : ∀ q : Nat, z_fr [] [46, 47, 54, 55] u (k_wA v 46 w (J q)) := fun q => (g1.mono rfl rfl).tr (z_wA rfl)
      by_cases h : p + r < s
      · refine z_pos (by (try simp (disch := omega) only [Int32.lt_iff_toInt_lt, Int32.le_iff_toInt_le, ← Int32.toInt_inj, Int32.toInt_add, Int32.toInt_sub, Int32.toInt_mul, Int32.toInt_neg, z_bm, z_bm2, J_ti, J_toInt, z_cn, Int32.reduceToInt]) <;> omega) ?_
        unfold f_R_goOn_J48 f_R_goOn_J70
        rw [if_pos rfl]
        refine z_ck (by (try simp (disch := omega) only [Int32.lt_iff_toInt_lt, Int32.le_iff_toInt_le, ← Int32.toInt_inj, Int32.toInt_add, Int32.toInt_sub, Int32.toInt_mul, Int32.toInt_neg, z_bm, z_bm2, J_ti, J_toInt, z_cn, Int32.reduceToInt]) <;> omega) (by (try simp (disch := omega) only [Int32.lt_iff_toInt_lt, Int32.le_iff_toInt_le, ← Int32.toInt_inj, Int32.toInt_add, Int32.toInt_sub, Int32.toInt_mul, Int32.toInt_neg, z_bm, z_bm2, J_ti, J_toInt, z_cn, Int32.reduceToInt]) <;> omega) (z_let (z_pos rfl (z_let (k_sat_mk ⟨_, rfl, ?_⟩))))
        rw [hJw]
        obtain ⟨n', rfl⟩ : ∃ n', n = n' + 1 := ⟨n - 1, by omega⟩
        refine z_exit (z_pos (Int32.le_refl _) (k_sat_mk ⟨_, rfl, hf2 _, ?_⟩))
        rw [if_pos h] at hpu
        rw [hfin _ (by unfold z_to; rw [if_pos h]), hpu]
      · refine z_neg (by (try simp (disch := omega) only [Int32.lt_iff_toInt_lt, Int32.le_iff_toInt_le, ← Int32.toInt_inj, Int32.toInt_add, Int32.toInt_sub, Int32.toInt_mul, Int32.toInt_neg, z_bm, z_bm2, J_ti, J_toInt, z_cn, Int32.reduceToInt]) <;> omega) ?_
        unfold f_R_goOn_J48 f_R_goOn_J70
        rw [if_neg (by decide), hJw, e45, J_sub (by omega)]
        refine z_ck (by (try simp (disch := omega) only [Int32.lt_iff_toInt_lt, Int32.le_iff_toInt_le, ← Int32.toInt_inj, Int32.toInt_add, Int32.toInt_sub, Int32.toInt_mul, Int32.toInt_neg, z_bm, z_bm2, J_ti, J_toInt, z_cn, Int32.reduceToInt]) <;> omega) (by (try simp (disch := omega) only [Int32.lt_iff_toInt_lt, Int32.le_iff_toInt_le, ← Int32.toInt_inj, Int32.toInt_add, Int32.toInt_sub, Int32.toInt_mul, Int32.toInt_neg, z_bm, z_bm2, J_ti, J_toInt, z_cn, Int32.reduceToInt]) <;> omega) (z_ck (by (try simp (disch := omega) only [Int32.lt_iff_toInt_lt, Int32.le_iff_toInt_le, ← Int32.toInt_inj, Int32.toInt_add, Int32.toInt_sub, Int32.toInt_mul, Int32.toInt_neg, z_bm, z_bm2, J_ti, J_toInt, z_cn, Int32.reduceToInt]) <;> omega) (by (try simp (disch := omega) only [Int32.lt_iff_toInt_lt, Int32.le_iff_toInt_le, ← Int32.toInt_inj, Int32.toInt_add, Int32.toInt_sub, Int32.toInt_mul, Int32.toInt_neg, z_bm, z_bm2, J_ti, J_toInt, z_cn, Int32.reduceToInt]) <;> omega) (z_let (z_neg (by decide) (z_let (k_sat_mk ⟨_, rfl, ?_⟩)))))
        rw [z_Jp]
        have hq : p + r - s = z_to p r s := by unfold z_to; rw [if_neg h]
        have hm := hfin _ hq
        have hok1 : z_ok E (z_moR (k_wA v 46 w (J (p + r - s)))) := by
          have := (z_pu_ok E 1 w (z_moR u) hok).1
          rw [z_pu_s E 0 w (z_moR u) p s r hp h2 hs (by omega) ep es hr er, if_neg h] at this
          rw [hm]
          exact this
        rw [if_neg h] at hpu
        refine z_mono (z_innerR E k (w + 1) n _ (by omega) (by omega) (z_ER_f (hf2 _) (by decide) hE) hok1) (fun _ v' h' => ⟨(hf2 _).tr h'.1, ?_⟩)
        rw [h'.2, hm, hpu]
theorem z_goOn (E : z_E) (u : k_S) (hE : z_ER E u) (hok : z_ok E (z_moR u)) : k_sat (f_R_goOn u) (fun _ v => z_fr [4209] [46, 47, 54, 55] u v ∧ z_moR v = z_nx E 4 (z_moR u)) := by
  unfold f_R_goOn
  have hf1 : z_fr [4209] [] u (k_wF u 4209 (u.1 4209 + 1)) := z_wF rfl
  have hm1 : z_moR (k_wF u 4209 (u.1 4209 + 1)) = ((z_moR u).1 + 1, (z_moR u).2) := by
    unfold z_moR
    simp [k_wF]
  refine z_let (z_bind _ (z_innerR E 4 0 k_FU _ (by omega) (by unfold k_FU; omega) (z_ER_f hf1 (by decide) hE) (by rw [hm1]; exact hok)) (fun _ v h => k_sat_mk ⟨(hf1.mono rfl rfl).tr (h.1.mono rfl rfl), ?_⟩))
  rw [h.2, hm1]
  rfl
