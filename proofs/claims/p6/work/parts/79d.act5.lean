/-! act: both -/
theorem z_foW : ∀ (cs : List Int32) (u : k_S), z_fr [3503] [37] u (cs.foldl z_apW u)
  | [], _ => z_fr.rf
  | c :: cs, u => ((z_wA rfl).tr (z_wF rfl) : z_fr [3503] [37] u (z_apW u c)).tr (z_foW cs (z_apW u c))
theorem z_foR : ∀ (cs : List Int32) (u : k_S), z_fr [4247] [71] u (cs.foldl z_apR u)
  | [], _ => z_fr.rf
  | c :: cs, u => ((z_wA rfl).tr (z_wF rfl) : z_fr [4247] [71] u (z_apR u c)).tr (z_foR cs (z_apR u c))
theorem z_foE : ∀ (cs : List Int32) (m : Nat) (u v : k_S), u.1 3503 = J m → v.1 4247 = J m → (∀ i, i < m → v.2.1 71 i = u.2.1 37 i) → m + cs.length ≤ 24 → (cs.foldl z_apW u).1 3503 = J (m + cs.length) ∧ (cs.foldl z_apR v).1 4247 = J (m + cs.length) ∧ ∀ i, i < m + cs.length → (cs.foldl z_apR v).2.1 71 i = (cs.foldl z_apW u).2.1 37 i
  | [], _, _, _, h1, h2, h3, _ => ⟨h1, h2, h3⟩
  | c :: cs, m, u, v, h1, h2, h3, h4 => by
    rw [List.length_cons] at h4 ⊢
    have := z_foE cs (m + 1) (z_apW u c) (z_apR v c) (by show u.1 3503 + 1 = _; rw [h1, z_Jp]) (by show v.1 4247 + 1 = _; rw [h2, z_Jp]) (fun i hi => by
      show (k_wA v 71 (v.1 4247).toNatClampNeg c).2.1 71 i = (k_wA u 37 (u.1 3503).toNatClampNeg c).2.1 37 i
      rw [h1, h2, J_toNat (by omega)]
      simp only [k_wA, if_true]
      rw [z_up, z_up]
      by_cases e : i = m
      · rw [if_pos e, if_pos e]
      · rw [if_neg e, if_neg e]
        exact h3 i (by omega)) (by omega)
    rw [show m + 1 + cs.length = m + (cs.length + 1) by omega] at this
    exact this
def z_acv (k a : Nat) (x b : Int32) : Int32 := if a = 0 then z_tuv k x b else if a = 1 then z_shv k x b else if a = 2 then z_wav k x b else z_tev k x b
def z_acc (k a : Nat) : List Int32 := if a = 0 then z_tuc k else if a = 1 then z_shc k else if a = 2 then z_wac k else z_tec k
theorem z_acl (k a : Nat) (hk : k < 8) : (z_acc k a).length ≤ 24 := by
  unfold z_acc
  rcases (show k = 0 ∨ k = 1 ∨ k = 2 ∨ k = 3 ∨ k = 4 ∨ k = 5 ∨ k = 6 ∨ k = 7 by omega) with rfl | rfl | rfl | rfl | rfl | rfl | rfl | rfl <;> (repeat' split) <;> decide
theorem z_acW {b k a : Nat} {u : k_S} (h : z_gW b k 0 u) (ha : a < 4) (x : Int32) : f_Bodies_call (f_Bodies_run_rec 12) (J a) x 0 u = some (z_acv k a x (J b), (z_acc k a).foldl z_apW u) := by
  have := z_call (rc := f_Bodies_run_rec 12) (a := a) (d := 0) h ha x
  rw [show f_Bodies_call (f_Bodies_run_rec 12) (J a) x 0 u = _ from this]
  unfold z_acv z_acc
  rcases (show a = 0 ∨ a = 1 ∨ a = 2 ∨ a = 3 by omega) with rfl | rfl | rfl | rfl
  · rw [if_pos rfl, if_pos rfl]; exact z_tuW h (by omega) (by omega) 9 x
  · rw [if_neg (by decide), if_pos rfl, if_neg (by decide), if_pos rfl]; exact z_shW7 h (by omega) (by omega) 6 x
  · rw [if_neg (by decide), if_neg (by decide), if_pos rfl, if_neg (by decide), if_neg (by decide), if_pos rfl]; exact z_waW h (by omega) (by omega) 8 x
  · rw [if_neg (by decide), if_neg (by decide), if_neg (by decide), if_neg (by decide), if_neg (by decide), if_neg (by decide)]; exact z_teW h (by omega) (by omega) 3 x
theorem z_act (a0 a1 a2 : Int32) (u : k_S) (h : zI u) : z_pair (f_W_act a0 a1 a2) (f_R_act a0 a1 a2) u zI := by
  obtain ⟨⟨n, hn, b1, b2, hk⟩, -⟩ := id h.2.2.2.2.2.2.2.2.1
  refine z_pair_of ?_
  unfold f_W_act f_Bodies_forgetTrace
  simp only [k_let]
  rw [z_bind_some]
  have f1 : z_fr [3503] [] u (k_wF u 3503 0) := z_wF rfl
  have c1 : (k_wF u 3503 0).1 3502 = J n := b1
  have zero : ∀ {v : k_S}, z_fr [3503, 4247] [] u v → v.1 3503 = 0 → v.1 4247 = 0 → zI v := fun {v} hf e1 e2 => by
    refine zI_B h (hf.mono rfl rfl) ⟨⟨n, hn, (hf.1 3502 rfl).trans b1, (hf.1 4245 rfl).trans b2, fun i hi => ?_⟩, 0, by omega, e1, e2, fun i hi => by omega⟩
    rw [hf.2.1 36 rfl, hf.2.1 70 rfl]; exact hk i hi
  have z2 : zI (k_wF (k_wF u 3503 0) 4247 0) := zero ((f1.mono rfl rfl).tr (z_wF rfl)) rfl rfl
  rcases J_or a0 n with ⟨b, hb, rfl⟩ | hb
  · rw [z_Bhas c1 hn hb, z_bind_some]
    refine z_neg (by decide) ?_
    rcases J_or a1 4 with ⟨a, ha, rfl⟩ | ha
    · obtain ⟨k, hk8, k1, k2⟩ := hk b hb
      refine z_neg (by (try simp (disch := omega) only [Int32.lt_iff_toInt_lt, Int32.le_iff_toInt_le, ← Int32.toInt_inj, Int32.toInt_add, Int32.toInt_sub, Int32.toInt_mul, Int32.toInt_neg, z_bm, z_bm2, J_ti, J_toInt, z_cn, Int32.reduceToInt]) <;> omega) (z_pos (by (try simp (disch := omega) only [Int32.lt_iff_toInt_lt, Int32.le_iff_toInt_le, ← Int32.toInt_inj, Int32.toInt_add, Int32.toInt_sub, Int32.toInt_mul, Int32.toInt_neg, z_bm, z_bm2, J_ti, J_toInt, z_cn, Int32.reduceToInt]) <;> omega) ?_)
      unfold f_Bodies_perform
      simp only [k_let]
      generalize hw : k_wF (k_wF u 3503 0) 3504 (J b) = w
      have fw : z_fr [3503, 3504] [] u w := by rw [← hw]; exact (f1.mono rfl rfl).tr (z_wF rfl)
      have gW : z_gW b k 0 w := by rw [← hw]; exact ⟨by omega, hk8, rfl, rfl, k1⟩
      rw [z_acW gW ha, z_bind_some, z_bind_some]
      have fo := z_foW (z_acc k a) w
      refine k_sat_mk ?_
      unfold f_R_act
      refine z_let ?_
      generalize hv : k_wF ((z_acc k a).foldl z_apW w) 4247 0 = v
      have fv : z_fr [3503, 3504, 4247] [37] u v := by rw [← hv]; exact ((fw.mono rfl rfl).tr (fo.mono rfl rfl)).tr (z_wF rfl)
      have gR : z_gR b k 0 v := ⟨by omega, hk8, by rw [← hv]; rfl, by rw [fv.2.1 70 rfl]; exact k2⟩
      have hl := z_acl k a hk8
      obtain ⟨t1, t2, t3⟩ := z_foE (z_acc k a) 0 w v gW.2.2.1 gR.2.2.1 (fun i hi => by omega) (by omega)
      have fo2 := z_foR (z_acc k a) v
      have e37 : v.2.1 37 = ((z_acc k a).foldl z_apW w).2.1 37 := by rw [← hv]; rfl
      have e3503 : v.1 3503 = ((z_acc k a).foldl z_apW w).1 3503 := by rw [← hv]; rfl
      have fin : zI ((z_acc k a).foldl z_apR v) := by
        have ff : z_fr [3503, 3504, 4247] [37, 71] u ((z_acc k a).foldl z_apR v) := (fv.mono rfl rfl).tr (fo2.mono rfl rfl)
        refine zI_B h (ff.mono rfl rfl) ⟨⟨n, hn, (ff.1 3502 rfl).trans b1, (ff.1 4245 rfl).trans b2, fun i hi => ?_⟩, 0 + (z_acc k a).length, by omega, ?_, t2, fun i hi _ => ?_⟩
        · rw [ff.2.1 36 rfl, ff.2.1 70 rfl]; exact hk i hi
        · rw [fo2.1 3503 rfl, e3503]; exact t1
        · rw [fo2.2.1 37 rfl, e37]; exact t3 i hi
      rw [z_RisBody ((fv.1 4245 rfl).trans b2) hn hb, z_bind_some]
      refine z_neg (by decide) ?_
      rw [z_Rin1 (by (try simp (disch := omega) only [Int32.lt_iff_toInt_lt, Int32.le_iff_toInt_le, ← Int32.toInt_inj, Int32.toInt_add, Int32.toInt_sub, Int32.toInt_mul, Int32.toInt_neg, z_bm, z_bm2, J_ti, J_toInt, z_cn, Int32.reduceToInt]) <;> omega) (by (try simp (disch := omega) only [Int32.lt_iff_toInt_lt, Int32.le_iff_toInt_le, ← Int32.toInt_inj, Int32.toInt_add, Int32.toInt_sub, Int32.toInt_mul, Int32.toInt_neg, z_bm, z_bm2, J_ti, J_toInt, z_cn, Int32.reduceToInt]) <;> omega), z_bind_some]
      refine z_neg (by decide) ?_
      rcases (show a = 0 ∨ a = 1 ∨ a = 2 ∨ a = 3 by omega) with rfl | rfl | rfl | rfl
      · refine z_pos rfl ?_
        rw [z_tuR gR (by omega), z_bind_some]
        exact k_sat_mk ⟨rfl, fin⟩
      · refine z_neg (by decide) (z_pos rfl ?_)
        rw [z_shR7 gR (by omega), z_bind_some]
        exact k_sat_mk ⟨rfl, fin⟩
      · refine z_neg (by decide) (z_neg (by decide) (z_pos rfl ?_))
        rw [z_waR gR (by omega), z_bind_some]
        exact k_sat_mk ⟨rfl, fin⟩
      · refine z_neg (by decide) (z_neg (by decide) (z_neg (by decide) ?_))
        rw [z_teR gR (by omega), z_bind_some]
        exact k_sat_mk ⟨rfl, fin⟩
    · have eR : k_sat (f_R_act (J b) a1 a2 (k_wF u 3503 0)) (fun r' v => (0 : Int32) = r' ∧ zI v) := by
        unfold f_R_act
        refine z_let ?_
        rw [z_RisBody (show (k_wF (k_wF u 3503 0) 4247 0).1 4245 = J n from b2) hn hb, z_bind_some]
        refine z_neg (by decide) ?_
        rw [z_Rin0 (by ((try simp (disch := omega) only [Int32.lt_iff_toInt_lt, Int32.le_iff_toInt_le, ← Int32.toInt_inj, Int32.toInt_add, Int32.toInt_sub, Int32.toInt_mul, Int32.toInt_neg, z_bm, z_bm2, J_ti, J_toInt, z_cn, Int32.reduceToInt] at *); omega)), z_bind_some]
        exact z_pos rfl (k_sat_mk ⟨rfl, z2⟩)
      exact z_ite (fun _ => k_sat_mk eR) (fun q => z_neg (by have := q; rw [Int32.lt_iff_toInt_lt] at this ⊢; rw [show (4 : Int32).toInt = 4 from rfl]; rw [show (0 : Int32).toInt = 0 from rfl] at this; omega) (k_sat_mk eR))
  · rw [z_Bhas0 c1 hn hb, z_bind_some]
    refine z_pos rfl (k_sat_mk ?_)
    unfold f_R_act
    refine z_let ?_
    rw [z_RisBody0 (show (k_wF (k_wF u 3503 0) 4247 0).1 4245 = J n from b2) hn hb, z_bind_some]
    exact z_pos rfl (k_sat_mk ⟨rfl, z2⟩)
