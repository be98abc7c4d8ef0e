/-! LAW: lines, what they give, by the class -/
abbrev z_Ln : Type := List Int32 × List Int32
def z_l1 (o : Nat) (l : z_Ln) : List Int32 := if l.1 = [] then l.2 ++ [-59] else l.1 ++ [J (10000 + (o + l.1.length + l.2.length + 2))] ++ l.2 ++ [-59]
def z_cls : Nat → List z_Ln → List Int32
  | _, [] => []
  | o, l :: r => z_l1 o l ++ z_cls (o + (z_l1 o l).length) r
def z_val (q : z_q) : List z_Ln → Int32
  | [] => 0
  | l :: r => if l.1 = [] then z_v q l.2 else if z_v q l.1 = 0 then z_val q r else z_v q l.2
def z_gl (l : z_Ln) : Prop := (l.1 = [] ∨ z_wf l.1) ∧ z_wf l.2 ∧ (∀ s, s ∈ l.1 → z_cd s) ∧ ∀ s, s ∈ l.2 → z_cd s
theorem z_ga {A B : List Int32} {i : Nat} {s : Int32} (h : A[i]? = some s) : (A ++ B)[i]? = some s := by
  have : i < A.length := by
    rcases Nat.lt_or_ge i A.length with q | q
    · exact q
    · rw [List.getElem?_eq_none q] at h; cases h
  rw [List.getElem?_append_left this]
  exact h
theorem z_gb {A B : List Int32} {i : Nat} {s : Int32} (h : B[i]? = some s) : (A ++ B)[A.length + i]? = some s := by
  rw [List.getElem?_append_right (by omega), Nat.add_sub_cancel_left]
  exact h
theorem z_endW {t p k : Int32} {pc len : Nat} {u : k_S} (hpc : pc < len) (hlen : len ≤ 128) (e3 : u.1 703 = J len) (e4 : u.2.1 8 pc = -59) : f_Law_valueAt_B8 t p k (J pc) u = some (.inr (.inr ()), u) := by
  unfold f_Law_valueAt_B8
  rw [e3, if_neg (by (try simp (disch := omega) only [Int32.lt_iff_toInt_lt, Int32.le_iff_toInt_le, ← Int32.toInt_inj, Int32.toInt_add, Int32.toInt_sub, Int32.toInt_mul, Int32.toInt_neg, z_bm, z_bm2, J_ti, J_toInt, z_cn, Int32.reduceToInt]) <;> omega), if_neg (by (try simp (disch := omega) only [Int32.lt_iff_toInt_lt, Int32.le_iff_toInt_le, ← Int32.toInt_inj, Int32.toInt_add, Int32.toInt_sub, Int32.toInt_mul, Int32.toInt_neg, z_bm, z_bm2, J_ti, J_toInt, z_cn, Int32.reduceToInt]) <;> omega), z_cko _ (by (try simp (disch := omega) only [Int32.lt_iff_toInt_lt, Int32.le_iff_toInt_le, ← Int32.toInt_inj, Int32.toInt_add, Int32.toInt_sub, Int32.toInt_mul, Int32.toInt_neg, z_bm, z_bm2, J_ti, J_toInt, z_cn, Int32.reduceToInt]) <;> omega) (by (try simp (disch := omega) only [Int32.lt_iff_toInt_lt, Int32.le_iff_toInt_le, ← Int32.toInt_inj, Int32.toInt_add, Int32.toInt_sub, Int32.toInt_mul, Int32.toInt_neg, z_bm, z_bm2, J_ti, J_toInt, z_cn, Int32.reduceToInt]) <;> omega), J_toNat (by omega), e4]
  rfl
theorem z_jumpW {t p k : Int32} {pc len e : Nat} {x : Int32} {u : k_S} (hpc : pc < len) (hlen : len ≤ 128) (e3 : u.1 703 = J len) (he : pc + 2 ≤ e) (he2 : e ≤ 128) (e4 : u.2.1 8 pc = J (10000 + e)) (e1 : u.1 704 = J 1) (e2 : u.2.1 9 0 = x) : f_Law_valueAt_B8 t p k (J pc) u = some (.inl (if x = 0 then J e else J (pc + 1)), k_wF u 704 (J 0)) := by
  have hp := z_pop e1 (by omega) (by omega)
  rw [show 1 - 1 = 0 from rfl, e2] at hp
  unfold f_Law_valueAt_B8
  rw [e3, if_neg (by (try simp (disch := omega) only [Int32.lt_iff_toInt_lt, Int32.le_iff_toInt_le, ← Int32.toInt_inj, Int32.toInt_add, Int32.toInt_sub, Int32.toInt_mul, Int32.toInt_neg, z_bm, z_bm2, J_ti, J_toInt, z_cn, Int32.reduceToInt]) <;> omega), if_neg (by (try simp (disch := omega) only [Int32.lt_iff_toInt_lt, Int32.le_iff_toInt_le, ← Int32.toInt_inj, Int32.toInt_add, Int32.toInt_sub, Int32.toInt_mul, Int32.toInt_neg, z_bm, z_bm2, J_ti, J_toInt, z_cn, Int32.reduceToInt]) <;> omega), z_cko _ (by (try simp (disch := omega) only [Int32.lt_iff_toInt_lt, Int32.le_iff_toInt_le, ← Int32.toInt_inj, Int32.toInt_add, Int32.toInt_sub, Int32.toInt_mul, Int32.toInt_neg, z_bm, z_bm2, J_ti, J_toInt, z_cn, Int32.reduceToInt]) <;> omega) (by (try simp (disch := omega) only [Int32.lt_iff_toInt_lt, Int32.le_iff_toInt_le, ← Int32.toInt_inj, Int32.toInt_add, Int32.toInt_sub, Int32.toInt_mul, Int32.toInt_neg, z_bm, z_bm2, J_ti, J_toInt, z_cn, Int32.reduceToInt]) <;> omega), J_toNat (by omega), e4]
  simp only [k_let]
  have hj : (J (10000 + e) - 10000) - 1 = J (e - 1) := by
    rw [show (10000 : Int32) = J 10000 from rfl, J_sub (by omega), show 10000 + e - 10000 = e by omega, z_Jm' (by omega)]
  rw [if_neg (by (try simp (disch := omega) only [Int32.lt_iff_toInt_lt, Int32.le_iff_toInt_le, ← Int32.toInt_inj, Int32.toInt_add, Int32.toInt_sub, Int32.toInt_mul, Int32.toInt_neg, z_bm, z_bm2, J_ti, J_toInt, z_cn, Int32.reduceToInt]) <;> omega), if_neg (by (try simp (disch := omega) only [Int32.lt_iff_toInt_lt, Int32.le_iff_toInt_le, ← Int32.toInt_inj, Int32.toInt_add, Int32.toInt_sub, Int32.toInt_mul, Int32.toInt_neg, z_bm, z_bm2, J_ti, J_toInt, z_cn, Int32.reduceToInt]) <;> omega), hp, z_bind_some, hj]
  by_cases hx : x = 0
  · rw [if_pos hx, if_pos hx]
    unfold f_J_max
    rw [if_pos (by (try simp (disch := omega) only [Int32.lt_iff_toInt_lt, Int32.le_iff_toInt_le, ← Int32.toInt_inj, Int32.toInt_add, Int32.toInt_sub, Int32.toInt_mul, Int32.toInt_neg, z_bm, z_bm2, J_ti, J_toInt, z_cn, Int32.reduceToInt]) <;> omega), z_bind_some, z_J1, show e - 1 + 1 = e by omega]
  · rw [if_neg hx, if_neg hx, z_J1]
theorem z_valW {q : z_q} {t p k : Int32} {len : Nat} (hlen : len ≤ 128) : ∀ (ls : List z_Ln) (o : Nat) (u : k_S) (N : Nat), (∀ l, l ∈ ls → z_gl l) → (∀ i s, (z_cls o ls)[i]? = some s → u.2.1 8 (o + i) = s) → o + (z_cls o ls).length = len → u.1 703 = J len → u.1 704 = J 0 → q = (t, p, k, z_zz t (u.1 705)) → (z_cls o ls).length < N → k_sat (k_itr (fun (x : (Int32)) u => f_Law_valueAt_B8 t p k x u) N (J o) u) (fun y v => z_fr [704] [9] u v ∧ ((y = .inl 0 ∧ z_val q ls = 0) ∨ (y = .inr () ∧ v.1 704 = J 1 ∧ v.2.1 9 0 = z_val q ls)))
  | [], o, u, N, hg, hc, hl, e3, e1, hq, hN => by
    obtain ⟨M, rfl⟩ : ∃ M, N = M + 1 := ⟨N - 1, by omega⟩
    have hl : o = len := hl
    refine z_exit ?_
    unfold f_Law_valueAt_B8
    exact z_pos (by rw [e3, hl]; exact Int32.le_refl _) (k_sat_mk ⟨_, rfl, z_fr.rf, Or.inl ⟨rfl, rfl⟩⟩)
  | l :: r, o, u, N, hg, hc, hl, e3, e1, hq, hN => by
    obtain ⟨g1, g2, g3, g4⟩ := hg l (List.mem_cons_self)
    rw [z_cls] at hc hl hN
    rw [List.length_append] at hl hN
    by_cases hA : l.1 = []
    · have hl1 : z_l1 o l = l.2 ++ [-59] := by unfold z_l1; rw [if_pos hA]
      rw [hl1] at hc hl hN
      rw [List.length_append, List.length_singleton] at hl hN
      obtain ⟨S', a1, a2, a3⟩ := z_wf_v g2 q 0 (u.2.1 9)
      obtain ⟨M, rfl⟩ : ∃ M, N = M + l.2.length := ⟨N - l.2.length, by omega⟩
      obtain ⟨M', rfl⟩ : ∃ M', M = M' + 1 := ⟨M - 1, by omega⟩
      refine z_runW hlen l.2 o 0 1 (u.2.1 9) S' u (M' + 1) a1 g4 (fun i s hs => hc i s (z_ga (z_ga hs))) (by omega) (by omega) e3 e1 rfl hq (fun v hv1 hv2 hv3 => ?_)
      refine z_exit ?_
      rw [z_endW (by omega) hlen ((hv1.1 703 rfl).trans e3) ?_]
      · refine k_sat_mk ⟨_, rfl, hv1, Or.inr ⟨rfl, hv2, ?_⟩⟩
        rw [hv3, a3, z_val, if_pos hA]
      · rw [hv1.2.1 8 rfl]
        exact hc l.2.length (-59) (z_ga (by have := z_gb (A := l.2) (B := [-59]) (i := 0) (s := -59) rfl; exact this))
    · have hl1 : z_l1 o l = l.1 ++ [J (10000 + (o + l.1.length + l.2.length + 2))] ++ l.2 ++ [-59] := by unfold z_l1; rw [if_neg hA]
      have hwf : z_wf l.1 := g1.resolve_left hA
      have hln : (z_l1 o l).length = l.1.length + l.2.length + 2 := by
        rw [hl1]
        simp only [List.length_append, List.length_singleton]
        omega
      rw [hln] at hl hN
      have cA : ∀ i s, l.1[i]? = some s → u.2.1 8 (o + i) = s := fun i s hs => hc i s (z_ga (by rw [hl1]; exact z_ga (z_ga (z_ga hs))))
      have cJ : u.2.1 8 (o + l.1.length) = J (10000 + (o + l.1.length + l.2.length + 2)) := hc l.1.length _ (z_ga (by rw [hl1]; exact z_ga (z_ga (z_gb (i := 0) rfl))))
      have cB : ∀ i s, l.2[i]? = some s → u.2.1 8 (o + l.1.length + 1 + i) = s := fun i s hs => by
        have := hc (l.1.length + 1 + i) s (z_ga (by
          rw [hl1]
          refine z_ga ?_
          have := z_gb (A := l.1 ++ [J (10000 + (o + l.1.length + l.2.length + 2))]) hs
          rw [List.length_append, List.length_singleton] at this
          exact this))
        rw [show o + l.1.length + 1 + i = o + (l.1.length + 1 + i) by omega]
        exact this
      have cE : u.2.1 8 (o + l.1.length + 1 + l.2.length) = -59 := by
        have := hc (l.1.length + 1 + l.2.length) (-59) (z_ga (by
          rw [hl1]
          have := z_gb (A := l.1 ++ [J (10000 + (o + l.1.length + l.2.length + 2))] ++ l.2) (B := [-59]) (i := 0) (s := -59) rfl
          simp only [List.length_append, List.length_singleton] at this
          exact this))
        rw [show o + l.1.length + 1 + l.2.length = o + (l.1.length + 1 + l.2.length) by omega]
        exact this
      have cR : ∀ i s, (z_cls (o + (z_l1 o l).length) r)[i]? = some s → u.2.1 8 (o + l.1.length + l.2.length + 2 + i) = s := fun i s hs => by
        have := hc ((z_l1 o l).length + i) s (z_gb hs)
        rw [hln] at this
        rw [show o + l.1.length + l.2.length + 2 + i = o + (l.1.length + l.2.length + 2 + i) by omega]
        exact this
      rw [hln] at cR
      rw [show o + (l.1.length + l.2.length + 2) = o + l.1.length + l.2.length + 2 by omega] at cR hl hN
      obtain ⟨S', a1, a2, a3⟩ := z_wf_v hwf q 0 (u.2.1 9)
      obtain ⟨M, rfl⟩ : ∃ M, N = M + l.1.length := ⟨N - l.1.length, by omega⟩
      obtain ⟨M', rfl⟩ : ∃ M', M = M' + 1 := ⟨M - 1, by omega⟩
      refine z_runW hlen l.1 o 0 1 (u.2.1 9) S' u (M' + 1) a1 g3 cA (by omega) (by omega) e3 e1 rfl hq (fun v hv1 hv2 hv3 => ?_)
      have v8 : ∀ i, v.2.1 8 i = u.2.1 8 i := fun i => congrFun (hv1.2.1 8 rfl) i
      refine z_turn ?_
      rw [z_jumpW (x := z_v q l.1) (e := o + l.1.length + l.2.length + 2) (by omega) hlen ((hv1.1 703 rfl).trans e3) (by omega) (by omega) ((v8 _).trans cJ) hv2 (by rw [hv3, a3])]
      refine k_sat_mk ⟨_, rfl, ?_⟩
      have hf : z_fr [704] [9] u (k_wF v 704 (J 0)) := hv1.tr (z_wF rfl)
      have h704 : (k_wF v 704 (J 0)).1 704 = J 0 := by simp [k_wF]
      generalize k_wF v 704 (J 0) = v' at *
      have v8' : ∀ i, v'.2.1 8 i = u.2.1 8 i := fun i => congrFun (hf.2.1 8 rfl) i
      have hq' : q = (t, p, k, z_zz t (v'.1 705)) := by rw [hf.1 705 rfl]; exact hq
      rw [z_val, if_neg hA]
      by_cases hx : z_v q l.1 = 0
      · rw [if_pos hx, if_pos hx]
        refine z_mono (z_valW hlen r (o + l.1.length + l.2.length + 2) v' M' (fun l' h' => hg l' (List.mem_cons_of_mem _ h')) (fun i s hs => (v8' _).trans (cR i s hs)) (by omega) ((hf.1 703 rfl).trans e3) h704 hq' (by omega)) (fun y w hw => ⟨hf.tr hw.1, hw.2⟩)
      · rw [if_neg hx, if_neg hx]
        obtain ⟨S2, b1, b2, b3⟩ := z_wf_v g2 q 0 (v'.2.1 9)
        obtain ⟨M2, rfl⟩ : ∃ M2, M' = M2 + l.2.length := ⟨M' - l.2.length, by omega⟩
        obtain ⟨M3, rfl⟩ : ∃ M3, M2 = M3 + 1 := ⟨M2 - 1, by omega⟩
        refine z_runW hlen l.2 (o + l.1.length + 1) 0 1 (v'.2.1 9) S2 v' (M3 + 1) b1 g4 (fun i s hs => (v8' _).trans (cB i s hs)) (by omega) (by omega) ((hf.1 703 rfl).trans e3) h704 rfl hq' (fun w hw1 hw2 hw3 => ?_)
        refine z_exit ?_
        rw [z_endW (by omega) hlen (((hw1.1 703 rfl).trans (hf.1 703 rfl)).trans e3) (((congrFun (hw1.2.1 8 rfl) _).trans (v8' _)).trans cE)]
        exact k_sat_mk ⟨_, rfl, hf.tr hw1, Or.inr ⟨rfl, hw2, by rw [hw3, b3]⟩⟩
theorem z_valAt {t p k : Int32} {ls : List z_Ln} {u : k_S} (hg : ∀ l, l ∈ ls → z_gl l) (hc : ∀ i s, (z_cls 0 ls)[i]? = some s → u.2.1 8 i = s) (hl : (z_cls 0 ls).length ≤ 128) (e3 : u.1 703 = J (z_cls 0 ls).length) : k_sat (f_Law_valueAt t p k u) (fun r v => z_fr [704] [9] u v ∧ r = z_val (t, p, k, z_zz t (u.1 705)) ls) := by
  unfold f_Law_valueAt
  have hf : z_fr [704] [9] u (k_wF u 704 0) := z_wF rfl
  refine z_let (z_bind _ (z_valW hl ls 0 (k_wF u 704 0) k_FU hg (fun i s hs => by rw [Nat.zero_add]; exact hc i s hs) (Nat.zero_add _) ((hf.1 703 rfl).trans e3) (by simp [k_wF, J_0]) rfl (by unfold k_FU; omega)) (fun y v hv => ?_))
  rw [hf.1 705 rfl] at hv
  obtain ⟨h1, ⟨rfl, h2⟩ | ⟨rfl, h2, h3⟩⟩ := hv
  · simp only [k_cs]
    exact k_sat_mk ⟨hf.tr h1, h2.symm⟩
  · simp only [k_cs]
    rw [z_pop h2 (by omega) (by omega), z_bind_some]
    exact k_sat_mk ⟨(hf.tr h1).tr (z_wF rfl), h3⟩
