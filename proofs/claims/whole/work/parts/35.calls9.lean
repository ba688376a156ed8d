/-! ===== PURE: wrong, firstWrong, missing, gap, takes, best, gives, marksNext ===== -/
section
variable {w ns k : Nat} {R D : Nat → Nat} {P : PlanT} {row : Nat → Int32} {S : SieveT} {L : Nat}
/-- a wrong mark -/
def wg (w k : Nat) (D : Nat → Nat) (n : Nat) : Bool := mk w k D n && !ip n
theorem L_wrong (hw : WF w ns R k D) (hP : PX w ns R k D P) (hv : SV w k D (1 + sm R ns) S) (hcur : F_X10_current P S = some S) :
    F_X10_wrong P S = some (nI (cn (wg w k D) 2 (1 + sm R ns - 1)), S) := by
  have hL := hw.last
  unfold F_X10_wrong
  rw [hcur, Option.bind_some, show 1 + sm R ns - 1 = 1 + sm R ns + 1 - 2 by omega]
  generalize hLL : 1 + sm R ns = L at *
  refine lp_cn_t (p := wg w k D) (fun c => (nI c, S)) 2 (L + 1) (by omega) (by omega) (fun K c i i1 i2 i3 => ?_)
  unfold B_X10_wrong_9 F_X7_lastNumber
  rw [hv.1, Option.bind_some]
  by_cases q : L < i
  · simp (disch := omega) only [↓m1_d, ↓m2_d, e_m2, e_m2', e_m12, e_m21, liN, e_le, e_lt, e_eqm, e_eq, e_m1, e_m1', e_m1l, e_m1e, e_m1g, e_m1h, e_add, e_mul, e_sub, e_pred, e_rem, ix_nI, nz_nI, nI_clamp, nm_e1, Nat.add_zero, if_true, if_false, Nat.reduceEqDiff, eq_self, reduceIte]
    rw [if_pos q, if_pos (by omega)]
  · simp (disch := omega) only [↓m1_d, ↓m2_d, e_m2, e_m2', e_m12, e_m21, liN, e_le, e_lt, e_eqm, e_eq, e_m1, e_m1', e_m1l, e_m1e, e_m1g, e_m1h, e_add, e_mul, e_sub, e_pred, e_rem, ix_nI, nz_nI, nI_clamp, nm_e1, Nat.add_zero, if_true, if_false, Nat.reduceEqDiff, eq_self, reduceIte, Option.bind_some, L_isMark hw hL hv (by omega : i < 2 ^ 31), L_isPrime (by omega : 1 ≤ i) (by omega : i ≤ 4801)]
    rw [if_neg q, if_neg (show ¬ L + 1 ≤ i by omega)]
    unfold isM wg
    rw [decide_eq_true (by omega : 2 ≤ i ∧ i ≤ L), Bool.true_and]
    cases mk w k D i <;> cases ip i <;> rfl
theorem M_wrongOnes (hw : WF w ns R k D) (hR : RX w ns R k D row) (hL : L ≤ 4801) (hL1 : 1 ≤ L) {o t : Nat → Int32} (hS : RS w k D L o t) :
    F_X11_wrongOnes (nI L) row t = some (nI (cn (wg w k D) 2 (L - 1))) := by
  rw [show L - 1 = L + 1 - 2 by omega]
  refine lp_cn (p := wg w k D) nI 2 (L + 1) (by omega) (by omega) (fun K c i i1 i2 i3 => ?_)
  unfold B_X11_wrongOnes_4
  by_cases q : L < i
  · simp (disch := omega) only [↓m1_d, ↓m2_d, e_m2, e_m2', e_m12, e_m21, liN, e_le, e_lt, e_eqm, e_eq, e_m1, e_m1', e_m1l, e_m1e, e_m1g, e_m1h, e_add, e_mul, e_sub, e_pred, e_rem, ix_nI, nz_nI, nI_clamp, nm_e1, Nat.add_zero, if_true, if_false, Nat.reduceEqDiff, eq_self, reduceIte]
    rw [if_pos q, if_pos (by omega)]
  · simp (disch := omega) only [↓m1_d, ↓m2_d, e_m2, e_m2', e_m12, e_m21, liN, e_le, e_lt, e_eqm, e_eq, e_m1, e_m1', e_m1l, e_m1e, e_m1g, e_m1h, e_add, e_mul, e_sub, e_pred, e_rem, ix_nI, nz_nI, nI_clamp, nm_e1, Nat.add_zero, if_true, if_false, Nat.reduceEqDiff, eq_self, reduceIte, Option.bind_some, M_isMark hw hR hL hS (by omega : i < 2 ^ 31), M_isPrime (by omega : 1 ≤ i) (by omega : i ≤ 4801)]
    rw [if_neg q, if_neg (show ¬ L + 1 ≤ i by omega)]
    unfold isM wg
    rw [decide_eq_true (by omega : 2 ≤ i ∧ i ≤ L), Bool.true_and]
    cases mk w k D i <;> cases ip i <;> rfl
theorem Q_wrong (h : CX w ns R k D P row S) (e0 : Int32) (o t : Nat → Int32) (th : Int32) :
    ∃ v S' e' o' th' t', F_X10_wrong P S = some (v, S') ∧ SOK w k D (1 + sm R ns) P S' ∧ F_X11_wrong e0 o row th t = some (v, (e', o', th', t')) := by
  obtain ⟨hw, hP, hR, hS⟩ := h
  obtain ⟨o', t', hm, hRS⟩ := M_strike hw hR e0 o t
  obtain ⟨S', hc, hv, hk, hcc⟩ := L_cur hw hP hS
  have e : F_X10_wrong P S = F_X10_wrong P S' := by
    unfold F_X10_wrong
    rw [hc, hcc]
  rw [e, L_wrong hw hP hv hcc]
  refine ⟨_, S', nI (1 + sm R ns), o', 0, t', rfl, hk, ?_⟩
  unfold F_X11_wrong
  rw [hm, Option.bind_some, M_wrongOnes hw hR hw.last (by omega) hRS]
  rfl
theorem Q_firstWrong (h : CX w ns R k D P row S) (e0 : Int32) (o t : Nat → Int32) (th : Int32) :
    ∃ v S' e' o' th' t', F_X10_firstWrong P S = some (v, S') ∧ SOK w k D (1 + sm R ns) P S' ∧ F_X11_firstWrong e0 o row th t = some (v, (e', o', th', t')) := by
  obtain ⟨hw, hP, hR, hS⟩ := h
  obtain ⟨o', t', hm, hRS⟩ := M_strike hw hR e0 o t
  obtain ⟨S', hc, hv, hk⟩ := L_current hw hP hS
  have hL := hw.last
  unfold F_X10_firstWrong F_X11_firstWrong
  rw [hc, hm, Option.bind_some, Option.bind_some]
  have hL1 : 1 ≤ 1 + sm R ns := by omega
  generalize 1 + sm R ns = L at *
  refine ⟨oI (fi (wg w k D) 2 (L + 1 - 2)), S', nI L, o', 0, t', ?_, hk, ?_⟩
  · refine lp_fi_t (p := wg w k D) (fun v => (oI v, S')) 2 (L + 1) (by omega) (by omega) (fun K i i1 i2 => ?_)
    unfold B_X10_firstWrong_7 F_X7_lastNumber
    rw [hv.1, Option.bind_some]
    by_cases q : L < i
    · simp (disch := omega) only [↓m1_d, ↓m2_d, e_m2, e_m2', e_m12, e_m21, liN, e_le, e_lt, e_eqm, e_eq, e_m1, e_m1', e_m1l, e_m1e, e_m1g, e_m1h, e_add, e_mul, e_sub, e_pred, e_rem, ix_nI, nz_nI, nI_clamp, nm_e1, Nat.add_zero, if_true, if_false, Nat.reduceEqDiff, eq_self, reduceIte]
      rw [if_pos q, if_pos (by omega)]
      rfl
    · simp (disch := omega) only [↓m1_d, ↓m2_d, e_m2, e_m2', e_m12, e_m21, liN, e_le, e_lt, e_eqm, e_eq, e_m1, e_m1', e_m1l, e_m1e, e_m1g, e_m1h, e_add, e_mul, e_sub, e_pred, e_rem, ix_nI, nz_nI, nI_clamp, nm_e1, Nat.add_zero, if_true, if_false, Nat.reduceEqDiff, eq_self, reduceIte, Option.bind_some, L_isMark hw hL hv (by omega : i < 2 ^ 31), L_isPrime (by omega : 1 ≤ i) (by omega : i ≤ 4801)]
      rw [if_neg q, if_neg (show ¬ L + 1 ≤ i by omega)]
      unfold isM wg
      rw [decide_eq_true (by omega : 2 ≤ i ∧ i ≤ L), Bool.true_and]
      cases mk w k D i <;> cases ip i <;> rfl
  · refine fx5 (Q := fun v e oo t1 tt m r => e = nI L ∧ o' = oo ∧ t1 = 0 ∧ t' = tt ∧ ∃ i, v = nI i ∧ 2 ≤ i ∧ i ≤ L + 1 ∧ m = L + 1 - i ∧ r = some (oI (fi (wg w k D) i (L + 1 - i)), (nI L, o', 0, t')))
      ?_ FUEL _ _ _ _ _ (L + 1 - 2) _ ⟨rfl, rfl, rfl, rfl, 2, rfl, by omega, by omega, rfl, rfl⟩ (by unfold FUEL; omega)
    rintro K _ _ _ _ _ _ _ ih ⟨rfl, rfl, rfl, rfl, i, rfl, i1, i2, rfl, rfl⟩
    unfold B_X11_firstWrong_11
    by_cases q : L < i
    · simp (disch := omega) only [↓m1_d, ↓m2_d, e_m2, e_m2', e_m12, e_m21, liN, e_le, e_lt, e_eqm, e_eq, e_m1, e_m1', e_m1l, e_m1e, e_m1g, e_m1h, e_add, e_mul, e_sub, e_pred, e_rem, ix_nI, nz_nI, nI_clamp, nm_e1, Nat.add_zero, if_true, if_false, Nat.reduceEqDiff, eq_self, reduceIte]
      rw [if_pos q, show L + 1 - i = 0 by omega]
      rfl
    · have hn := ih (nI (i + 1)) (nI L) o' 0 t' (L + 1 - (i + 1)) _ (by omega) ⟨rfl, rfl, rfl, rfl, i + 1, rfl, by omega, by omega, rfl, rfl⟩
      simp (disch := omega) only [↓m1_d, ↓m2_d, e_m2, e_m2', e_m12, e_m21, liN, e_le, e_lt, e_eqm, e_eq, e_m1, e_m1', e_m1l, e_m1e, e_m1g, e_m1h, e_add, e_mul, e_sub, e_pred, e_rem, ix_nI, nz_nI, nI_clamp, nm_e1, Nat.add_zero, if_true, if_false, Nat.reduceEqDiff, eq_self, reduceIte, Option.bind_some, M_isMark hw hR hL hRS (by omega : i < 2 ^ 31), M_isPrime (by omega : 1 ≤ i) (by omega : i ≤ 4801)]
      rw [if_neg q, show L + 1 - i = (L + 1 - (i + 1)) + 1 by omega, fi_s]
      unfold isM
      rw [decide_eq_true (by omega : 2 ≤ i ∧ i ≤ L), Bool.true_and]
      have ew : wg w k D i = (mk w k D i && !ip i) := rfl
      cases hm1 : mk w k D i with
      | false =>
        rw [hm1] at ew
        rw [ew, if_neg Bool.false_ne_true]
        exact hn
      | true =>
        rw [hm1] at ew
        cases hp1 : ip i with
        | true =>
          rw [hp1] at ew
          rw [ew]
          exact hn
        | false =>
          rw [hp1] at ew
          rw [ew]
          rfl
theorem L_smallestMissing (hw : WF w ns R k D) (hP : PX w ns R k D P) {T : Nat} (h2 : 2 ≤ T) (h70 : T ≤ 70) (hT : 1 + sm R ns < T * T) (hi : ∀ i, i < T → i * i ≤ 1 + sm R ns) :
    F_X3_smallestMissing (nI w) P = some (oI (fi (ms w k D) 2 (T - 2))) := by
  have hL := hw.last
  unfold F_X3_smallestMissing F_X3_lastNumber
  rw [hP.2.2.2.1, Option.bind_some]
  refine lp_fi_b (p := ms w k D) oI 2 T (by omega) h2 (fun K i h1 h3 => ?_)
  unfold B_X3_smallestMissing_7
  have hii : i * i ≤ 70 * 70 := Nat.mul_le_mul (by omega) (by omega)
  by_cases c : T ≤ i
  · have e : i = T := by omega
    simp (disch := omega) only [↓m1_d, ↓m2_d, e_m2, e_m2', e_m12, e_m21, liN, e_le, e_lt, e_eqm, e_eq, e_m1, e_m1', e_m1l, e_m1e, e_m1g, e_m1h, e_add, e_mul, e_sub, e_pred, e_rem, ix_nI, nz_nI, nI_clamp, nm_e1, Nat.add_zero, if_true, if_false, Nat.reduceEqDiff, eq_self, reduceIte]
    rw [if_neg (by omega), if_pos (by rw [e]; exact hT), if_pos c]
    rfl
  · have := hi i (by omega)
    simp (disch := omega) only [↓m1_d, ↓m2_d, e_m2, e_m2', e_m12, e_m21, liN, e_le, e_lt, e_eqm, e_eq, e_m1, e_m1', e_m1l, e_m1e, e_m1g, e_m1h, e_add, e_mul, e_sub, e_pred, e_rem, ix_nI, nz_nI, nI_clamp, nm_e1, Nat.add_zero, if_true, if_false, Nat.reduceEqDiff, eq_self, reduceIte, Option.bind_some, L_isMissing hw hP (by omega : i < 2 ^ 31)]
    rw [if_neg (by omega), if_neg (by omega), if_neg c]
    rfl
theorem Q_missing (h : CX w ns R k D P row S) (e0 : Int32) (o t : Nat → Int32) (th : Int32) :
    ∃ v e' o' th' t', F_X10_missing P = some v ∧ F_X11_missing e0 o row th t = some (v, (e', o', th', t')) := by
  obtain ⟨hw, hP, hR, hS⟩ := h
  obtain ⟨o', t', hm, hRS⟩ := M_strike hw hR e0 o t
  have hL := hw.last
  obtain ⟨T, T2, T70, hT, hi⟩ := sq_top (1 + sm R ns) (by omega) hL
  unfold F_X10_missing F_X11_missing F_X3_wheelNow
  rw [hP.1, Option.bind_some, L_smallestMissing hw hP T2 T70 hT hi, hm, Option.bind_some, Option.bind_some, show (2 : Int32) = nI 2 from rfl, M_missingFrom hw hR hL hRS T70 hT hi (Nat.le_refl _) T2]
  exact ⟨_, nI (1 + sm R ns), o', 0, t', rfl, rfl⟩
theorem Q_gap (h : CX w ns R k D P row S) (e0 : Int32) (o t : Nat → Int32) (th : Int32) :
    ∃ v S' e' o' th' t', F_X10_gap P S = some (v, S') ∧ SOK w k D (1 + sm R ns) P S' ∧ F_X11_gap e0 o row th t = some (v, (e', o', th', t')) := by
  obtain ⟨hw, hP, hR, hS⟩ := h
  obtain ⟨o', t', hm, hRS⟩ := M_strike hw hR e0 o t
  obtain ⟨S', hc, hv, hk, hcc⟩ := L_cur hw hP hS
  have hL := hw.last
  obtain ⟨T, T2, T70, hT, hi⟩ := sq_top (1 + sm R ns) (by omega) hL
  have hsm := L_smallestMissing hw hP T2 T70 hT hi
  have hmf := M_missingFrom hw hR hL hRS T70 hT hi (Nat.le_refl _) T2
  have hwr := L_wrong hw hP hv hcc
  have hwo := M_wrongOnes hw hR hL (by omega) hRS
  unfold F_X10_gap F_X11_gap
  rw [hc, hm, Option.bind_some, Option.bind_some]
  have hL1 : 1 ≤ 1 + sm R ns := by omega
  generalize hLL : 1 + sm R ns = L at *
  let p : Nat → Bool := fun i => !mk w k D i && ip i
  let b : Nat := if (fi (ms w k D) 2 (T - 2)).isNone = true then cn (wg w k D) 2 (L - 1) else 0
  have loopM : ∀ b0 : Nat, fx (fun _ _ _ _ _ _ => none) (B_X11_gap_29 row) FUEL (nI b0) 2 (nI L) o' 0 t' = some (nI (b0 + cn p 2 (L + 1 - 2)), (nI L, o', 0, t')) := by
    intro b0
    refine fx6 (Q := fun u v e oo t1 tt m r => e = nI L ∧ o' = oo ∧ t1 = 0 ∧ t' = tt ∧ ∃ c i, u = nI c ∧ v = nI i ∧ 2 ≤ i ∧ i ≤ L + 1 ∧ m = L + 1 - i ∧ r = some (nI (c + cn p i (L + 1 - i)), (nI L, o', 0, t')))
      ?_ FUEL _ _ _ _ _ _ (L + 1 - 2) _ ⟨rfl, rfl, rfl, rfl, b0, 2, rfl, rfl, by omega, by omega, rfl, rfl⟩ (by unfold FUEL; omega)
    rintro K _ _ _ _ _ _ _ _ ih ⟨rfl, rfl, rfl, rfl, c, i, rfl, rfl, i1, i2, rfl, rfl⟩
    unfold B_X11_gap_29
    by_cases q : L < i
    · simp (disch := omega) only [↓m1_d, ↓m2_d, e_m2, e_m2', e_m12, e_m21, liN, e_le, e_lt, e_eqm, e_eq, e_m1, e_m1', e_m1l, e_m1e, e_m1g, e_m1h, e_add, e_mul, e_sub, e_pred, e_rem, ix_nI, nz_nI, nI_clamp, nm_e1, Nat.add_zero, if_true, if_false, Nat.reduceEqDiff, eq_self, reduceIte]
      rw [if_pos q, show L + 1 - i = 0 by omega]
      rfl
    · simp (disch := omega) only [↓m1_d, ↓m2_d, e_m2, e_m2', e_m12, e_m21, liN, e_le, e_lt, e_eqm, e_eq, e_m1, e_m1', e_m1l, e_m1e, e_m1g, e_m1h, e_add, e_mul, e_sub, e_pred, e_rem, ix_nI, nz_nI, nI_clamp, nm_e1, Nat.add_zero, if_true, if_false, Nat.reduceEqDiff, eq_self, reduceIte, Option.bind_some, M_isMark hw hR hL hRS (by omega : i < 2 ^ 31), M_isPrime (by omega : 1 ≤ i) (by omega : i ≤ 4801)]
      rw [if_neg q, show L + 1 - i = (L + 1 - (i + 1)) + 1 by omega, cn_s]
      have em : isM w k D L i = mk w k D i := by
        unfold isM
        rw [decide_eq_true (by omega : 2 ≤ i ∧ i ≤ L), Bool.true_and]
      rw [em]
      have ep : p i = (!mk w k D i && ip i) := rfl
      have n1 := ih (nI (c + 1)) (nI (i + 1)) (nI L) o' 0 t' (L + 1 - (i + 1)) _ (by omega) ⟨rfl, rfl, rfl, rfl, c + 1, i + 1, rfl, rfl, by omega, by omega, rfl, rfl⟩
      have n0 := ih (nI c) (nI (i + 1)) (nI L) o' 0 t' (L + 1 - (i + 1)) _ (by omega) ⟨rfl, rfl, rfl, rfl, c, i + 1, rfl, rfl, by omega, by omega, rfl, rfl⟩
      rw [ep]
      cases mk w k D i with
      | true =>
        cases ip i with
        | true => rw [show (if (!true && true) = true then 1 else 0) = 0 from rfl, Nat.zero_add]; exact n0
        | false => rw [show (if (!true && false) = true then 1 else 0) = 0 from rfl, Nat.zero_add]; exact n0
      | false =>
        cases ip i with
        | true => rw [show (if (!false && true) = true then 1 else 0) = 1 from rfl, ← Nat.add_assoc]; exact n1
        | false => rw [show (if (!false && false) = true then 1 else 0) = 0 from rfl, Nat.zero_add]; exact n0
  refine ⟨nI (b + cn p 2 (L + 1 - 2)), S', nI L, o', 0, t', ?_, hk, ?_⟩
  · refine Eq.trans (lp_cn_t (p := p) (fun c => (nI (b + c), S')) 2 (L + 1) (by omega) (by omega) (fun K c i i1 i2 i3 => ?_)) rfl
    unfold B_X10_gap_9 F_X7_lastNumber
    rw [hv.1, Option.bind_some]
    by_cases q : L < i
    · simp (disch := omega) only [↓m1_d, ↓m2_d, e_m2, e_m2', e_m12, e_m21, liN, e_le, e_lt, e_eqm, e_eq, e_m1, e_m1', e_m1l, e_m1e, e_m1g, e_m1h, e_add, e_mul, e_sub, e_pred, e_rem, ix_nI, nz_nI, nI_clamp, nm_e1, Nat.add_zero, if_true, if_false, Nat.reduceEqDiff, eq_self, reduceIte]
      rw [if_pos q, if_pos (by omega)]
      unfold F_X3_wheelNow
      rw [hP.1, Option.bind_some, hsm, Option.bind_some, hwr]
      show _ = some (nI ((if (fi (ms w k D) 2 (T - 2)).isNone = true then cn (wg w k D) 2 (L - 1) else 0) + c), S')
      cases hf : fi (ms w k D) 2 (T - 2) with
      | none =>
        show some (nI c + nI (cn (wg w k D) 2 (L - 1)), S') = some (nI (cn (wg w k D) 2 (L - 1) + c), S')
        rw [e_add, Nat.add_comm]
      | some j =>
        obtain ⟨j1, j2, -, -⟩ := fi_some hf
        show (if nI j = m1 then _ else _) = some (nI (0 + c), S')
        rw [if_neg (show ¬ nI j = m1 from m1_ne (by omega)), Nat.zero_add]
    · simp (disch := omega) only [↓m1_d, ↓m2_d, e_m2, e_m2', e_m12, e_m21, liN, e_le, e_lt, e_eqm, e_eq, e_m1, e_m1', e_m1l, e_m1e, e_m1g, e_m1h, e_add, e_mul, e_sub, e_pred, e_rem, ix_nI, nz_nI, nI_clamp, nm_e1, Nat.add_zero, if_true, if_false, Nat.reduceEqDiff, eq_self, reduceIte, Option.bind_some, L_isMark hw hL hv (by omega : i < 2 ^ 31), L_isPrime (by omega : 1 ≤ i) (by omega : i ≤ 4801)]
      rw [if_neg q, if_neg (show ¬ L + 1 ≤ i by omega)]
      have em : isM w k D L i = mk w k D i := by
        unfold isM
        rw [decide_eq_true (by omega : 2 ≤ i ∧ i ≤ L), Bool.true_and]
      rw [em]
      show _ = if (!mk w k D i && ip i) = true then _ else _
      cases mk w k D i <;> cases ip i <;> rfl
  · rw [show (2 : Int32) = nI 2 from rfl, hmf, Option.bind_some]
    show _ = some (nI ((if (fi (ms w k D) 2 (T - 2)).isNone = true then cn (wg w k D) 2 (L - 1) else 0) + cn p 2 (L + 1 - 2)), _)
    cases hf : fi (ms w k D) 2 (T - 2) with
    | none =>
      rw [if_pos (show oI none = -1 from rfl), hwo, Option.bind_some]
      exact loopM _
    | some j =>
      obtain ⟨j1, j2, -, -⟩ := fi_some hf
      rw [if_neg (show ¬ oI (some j) = -1 from m1_ne (k := j) (by omega))]
      exact loopM 0
/-! takes, best -/
theorem L_taken (hw : WF w ns R k D) (hL : L ≤ 4801) (hS : SV w k D L S) {d : Nat} (h2 : 2 ≤ d) (h120 : d ≤ 120) : F_X7_countTaken (nI d) S = some (nI (cn (fun n => decide (n % d = 0) && mk w k D n) (d * d) (L + 1 - d * d))) := by
  have hdd : d * d ≤ 120 * 120 := Nat.mul_le_mul h120 h120
  have hd2 : 2 * 2 ≤ d * d := Nat.mul_le_mul h2 h2
  unfold F_X7_countTaken F_X7_countWithOwner
  simp (disch := omega) only [↓m1_d, ↓m2_d, e_m2, e_m2', e_m12, e_m21, liN, e_le, e_lt, e_eqm, e_eq, e_m1, e_m1', e_m1l, e_m1e, e_m1g, e_m1h, e_add, e_mul, e_sub, e_pred, e_rem, ix_nI, nz_nI, nI_clamp, nm_e1, Nat.add_zero, if_true, if_false, Nat.reduceEqDiff, eq_self, reduceIte]
  have key := lp_cns (p := mk w k D) (bot := fun _ _ => none) (B := B_X7_countWithOwner_7 (nI d) (nI 0) S) nI d (d * d) L (by omega) (Nat.mul_mod_right _ _) (by omega) (by omega) (fun K c n h1 h2 => by
    unfold B_X7_countWithOwner_7
    rw [hS.1]
    by_cases q : L < n
    · simp (disch := omega) only [↓m1_d, ↓m2_d, e_m2, e_m2', e_m12, e_m21, liN, e_le, e_lt, e_eqm, e_eq, e_m1, e_m1', e_m1l, e_m1e, e_m1g, e_m1h, e_add, e_mul, e_sub, e_pred, e_rem, ix_nI, nz_nI, nI_clamp, nm_e1, Nat.add_zero, if_true, if_false, Nat.reduceEqDiff, eq_self, reduceIte]
      rw [if_neg (by omega), if_pos q, if_pos q]
    · simp (disch := omega) only [↓m1_d, ↓m2_d, e_m2, e_m2', e_m12, e_m21, liN, e_le, e_lt, e_eqm, e_eq, e_m1, e_m1', e_m1l, e_m1e, e_m1g, e_m1h, e_add, e_mul, e_sub, e_pred, e_rem, ix_nI, nz_nI, nI_clamp, nm_e1, Nat.add_zero, if_true, if_false, Nat.reduceEqDiff, eq_self, reduceIte, (hS.2.1 n (by omega) (by omega)).1, oz_0 hw]
      rw [if_neg (by omega), if_neg q])
  rw [key]
  rfl
theorem M_takenBy (hw : WF w ns R k D) (hR : RX w ns R k D row) (hL : L ≤ 4801) {o t : Nat → Int32} (hS : RS w k D L o t) {d : Nat} (h2 : 2 ≤ d) (h120 : d ≤ 120) : F_X11_takenBy (nI d) (nI L) row t = some (nI (cn (fun n => decide (n % d = 0) && mk w k D n) (d * d) (L + 1 - d * d))) := by
  have hdd : d * d ≤ 120 * 120 := Nat.mul_le_mul h120 h120
  have hd2 : 2 * 2 ≤ d * d := Nat.mul_le_mul h2 h2
  unfold F_X11_takenBy
  simp (disch := omega) only [↓m1_d, ↓m2_d, e_m2, e_m2', e_m12, e_m21, liN, e_le, e_lt, e_eqm, e_eq, e_m1, e_m1', e_m1l, e_m1e, e_m1g, e_m1h, e_add, e_mul, e_sub, e_pred, e_rem, ix_nI, nz_nI, nI_clamp, nm_e1, Nat.add_zero, if_true, if_false, Nat.reduceEqDiff, eq_self, reduceIte]
  refine lp_cns (p := mk w k D) nI d (d * d) L (by omega) (Nat.mul_mod_right _ _) (by omega) (by omega) (fun K c n h1 h2 => ?_)
  unfold B_X11_takenBy_6
  by_cases q : L < n
  · simp (disch := omega) only [↓m1_d, ↓m2_d, e_m2, e_m2', e_m12, e_m21, liN, e_le, e_lt, e_eqm, e_eq, e_m1, e_m1', e_m1l, e_m1e, e_m1g, e_m1h, e_add, e_mul, e_sub, e_pred, e_rem, ix_nI, nz_nI, nI_clamp, nm_e1, Nat.add_zero, if_true, if_false, Nat.reduceEqDiff, eq_self, reduceIte]
    rw [if_pos q, if_pos q]
  · simp (disch := omega) only [↓m1_d, ↓m2_d, e_m2, e_m2', e_m12, e_m21, liN, e_le, e_lt, e_eqm, e_eq, e_m1, e_m1', e_m1l, e_m1e, e_m1g, e_m1h, e_add, e_mul, e_sub, e_pred, e_rem, ix_nI, nz_nI, nI_clamp, nm_e1, Nat.add_zero, if_true, if_false, Nat.reduceEqDiff, eq_self, reduceIte, Option.bind_some, M_isMark hw hR hL hS (by omega : n < 2 ^ 31)]
    rw [if_neg q, if_neg q]
    unfold isM
    rw [decide_eq_true (by omega : 2 ≤ n ∧ n ≤ L), Bool.true_and]
theorem Q_takes (h : CX w ns R k D P row S) (x e0 : Int32) (o t : Nat → Int32) (th : Int32) :
    ∃ r S' b e' o' th' t', F_X10_takes x P S = some (r, S') ∧ SOK w k D (1 + sm R ns) P S' ∧ F_X11_takes x e0 o row th t = some (b, (e', o', th', t')) ∧ ag 1 r b th' := by
  obtain ⟨hw, hP, hR, hS⟩ := h
  obtain ⟨o', t', hm, hRS⟩ := M_strike hw hR e0 o t
  obtain ⟨S', hc, hv, hk⟩ := L_current hw hP hS
  have hL := hw.last
  unfold F_X10_takes F_X11_takes F_X11_isD
  rcases N_range (a := 2) (b := 120) (by decide) (by decide) x with ⟨d, hn, h1, h2, rfl, h3, h4⟩ | ⟨h3, h4⟩
  · rw [show F_X10_needInRange (nI d) 2 120 = _ from h3, show F_X11_inRange (nI d) 2 120 = _ from h4, Option.bind_some, Option.bind_some, Option.bind_some, M_lacks, Option.bind_some]
    refine ⟨.inr (nI (cn (fun n => decide (n % d = 0) && mk w k D n) (d * d) (1 + sm R ns + 1 - d * d))), S', nI (cn (fun n => decide (n % d = 0) && mk w k D n) (d * d) (1 + sm R ns + 1 - d * d)), nI (1 + sm R ns), o', 0, t', ?_, hk, ?_, rfl, rfl⟩
    · rw [Sum.elim_inr, hc, Option.bind_some, L_taken hw hL hv h1 h2]
      rfl
    · show (F_X11_strike e0 o row t).bind _ = _
      rw [hm, Option.bind_some, M_takenBy hw hR hL hRS h1 h2]
      rfl
  · rw [show F_X10_needInRange x 2 120 = _ from h3, show F_X11_inRange x 2 120 = _ from h4, Option.bind_some, Option.bind_some, Option.bind_some, M_lacks, Option.bind_some]
    exact ⟨_, _, _, _, _, _, _, rfl, hS, rfl, rfl, rfl⟩
theorem Q_best (h : CX w ns R k D P row S) (e0 : Int32) (o t : Nat → Int32) (th : Int32) :
    ∃ v S' e' o' th' t', F_X10_best P S = some (v, S') ∧ SOK w k D (1 + sm R ns) P S' ∧ F_X11_best e0 o row th t = some (v, (e', o', th', t')) := by
  obtain ⟨hw, hP, hR, hS⟩ := h
  obtain ⟨o', t', hm, hRS⟩ := M_strike hw hR e0 o t
  obtain ⟨S', hc, hv, hk⟩ := L_current hw hP hS
  have hL := hw.last
  unfold F_X10_best F_X11_best
  rw [hc, hm, Option.bind_some, Option.bind_some]
  generalize hLL : 1 + sm R ns = L at *
  have key := fxp (bot1 := fun _ _ _ _ => none) (bot2 := fun _ _ _ _ _ _ _ => none) (B1 := B_X10_best_12 P) (B2 := B_X11_best_15 row)
    (P := fun n K1 K2 => ∀ b c d, 2 ≤ d → d ≤ 121 → 121 - d < n → ∃ v, K1 b c (nI d) S' = some (v, S') ∧ K2 b c (nI d) (nI L) o' 0 t' = some (v, (nI L, o', 0, t')))
    (fun b c d _ _ h => absurd h (Nat.not_lt_zero _))
    (fun n K1 K2 ih b c d h2 h121 hn => by
      unfold B_X10_best_12 B_X11_best_15
      by_cases q : 120 < d
      · rw [if_pos (show (120 : Int32) < nI d from nI_lt q (by omega)), if_pos (show (120 : Int32) < nI d from nI_lt q (by omega))]
        exact ⟨_, rfl, rfl⟩
      · rw [if_neg (show ¬ (120 : Int32) < nI d from nI_nlt (a := 120) (by omega) (by decide)), if_neg (show ¬ (120 : Int32) < nI d from nI_nlt (a := 120) (by omega) (by decide)), L_taken hw hL hv h2 (by omega), M_takenBy hw hR hL hRS h2 (by omega), Option.bind_some, Option.bind_some]
        by_cases e : nI (cn (fun n => decide (n % d = 0) && mk w k D n) (d * d) (L + 1 - d * d)) ≤ c
        · rw [if_pos e, if_pos e, nm_e1, nm_e1, show nI d + 1 = nI (d + 1) from e_add d 1]
          exact ih b c (d + 1) (by omega) (by omega) (by omega)
        · rw [if_neg e, if_neg e, nm_e1, nm_e1, show nI d + 1 = nI (d + 1) from e_add d 1]
          exact ih _ _ (d + 1) (by omega) (by omega) (by omega))
    FUEL (-1) 0 2 (by omega) (by omega) (by unfold FUEL; omega)
  obtain ⟨v, k1, k2⟩ := key
  exact ⟨v, S', nI L, o', 0, t', k1, hk, k2⟩
end
