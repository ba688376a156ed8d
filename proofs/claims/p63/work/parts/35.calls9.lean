/-! ===== PURE: wrong, firstWrong, missing, gap, takes, best, gives, marksNext ===== -/
section
variable {w ns k : Nat} {R D : Nat → Nat} {P : PlanT} {row : Nat → Int32} {S : SieveT} {L : Nat}
/-- a wrong mark -/
def wg (w k : Nat) (D : Nat → Nat) (n : Nat) : Bool := mk w k D n && !ip n
theorem L_wrong (hw : WF w ns R k D) (hP : PX w ns R k D P) (hv : SV w k D (1 + sm R ns) S) (hcur : F_X10_current P S = some S) :
    F_X10_wrong P S = some (nI (cn (wg w k D) 2 (1 + sm R ns - 1)), S) := by
  have hL := hw.last
  unfold F_X10_wrong
  rw [hcur, Option.bind_some, show 1 + sm R ns - 1 = 1 + sm R ns + 1 - 2 by omega]
  generalize hLL : 1 + sm R ns = L at *
  refine lp_cn_t (p := wg w k D) (fun c => (nI c, S)) 2 (L + 1) (by omega) (by omega) (fun K c i i1 i2 i3 => ?_)
  unfold B_X10_wrong_9 F_X7_lastNumber
  rw [hv.1, Option.bind_some]
  by_cases q : L < i
  · simp (disch := omega) only [↓m1_d, ↓m2_d, e_m2, e_m2', e_m12, e_m21, liN, e_le, e_lt, e_eqm, e_eq, e_m1, e_m1', e_m1l, e_m1e, e_m1g, e_m1h, e_add, e_mul, e_sub, e_pred, e_rem, ix_nI, nz_nI, nI_clamp, nm_e1, Nat.add_zero, if_true, if_false, Nat.reduceEqDiff, eq_self, reduceIte]
    rw [if_pos q, if_pos (by omega)]
  · simp (disch := omega) only [↓m1_d, ↓m2_d, e_m2, e_m2', e_m12, e_m21, liN, e_le, e_lt, e_eqm, e_eq, e_m1, e_m1', e_m1l, e_m1e, e_m1g, e_m1h, e_add, e_mul, e_sub, e_pred, e_rem, ix_nI, nz_nI, nI_clamp, nm_e1, Nat.add_zero, if_true, if_false, Nat.reduceEqDiff, eq_self, reduceIte, Option.bind_some, L_isMark hw hL hv (by omega : i < 2 ^ 31), L_isPrime (by omega : 1 ≤ i) (by omega : i ≤ 4801)]
    rw [if_neg q, if_neg (show ¬ L + 1 ≤ i by omega)]
    unfold isM wg
    rw [decide_eq_true (by omega : 2 ≤ i ∧ i ≤ L), Bool.true_and]
    cases mk w k D i <;> cases ip i <;> rfl
theorem L_smallestMissing (hw : WF w ns R k D) (hP : PX w ns R k D P) {T : Nat} (h2 : 2 ≤ T) (h70 : T ≤ 70) (hT : 1 + sm R ns < T * T) (hi : ∀ i, i < T → i * i ≤ 1 + sm R ns) :
    F_X3_smallestMissing (nI w) P = some (oI (fi (ms w k D) 2 (T - 2))) := by
  have hL := hw.last
  unfold F_X3_smallestMissing F_X3_lastNumber
  rw [hP.2.2.2.1, Option.bind_some]
  refine lp_fi_b (p := ms w k D) oI 2 T (by omega) h2 (fun K i h1 h3 => ?_)
  unfold B_X3_smallestMissing_7
  have hii : i * i ≤ 70 * 70 := Nat.mul_le_mul (by omega) (by omega)
  by_cases c : T ≤ i
  · have e : i = T := by omega
    simp (disch := omega) only [↓m1_d, ↓m2_d, e_m2, e_m2', e_m12, e_m21, liN, e_le, e_lt, e_eqm, e_eq, e_m1, e_m1', e_m1l, e_m1e, e_m1g, e_m1h, e_add, e_mul, e_sub, e_pred, e_rem, ix_nI, nz_nI, nI_clamp, nm_e1, Nat.add_zero, if_true, if_false, Nat.reduceEqDiff, eq_self, reduceIte]
    rw [if_neg (by omega), if_pos (by rw [e]; exact hT), if_pos c]
    rfl
  · have := hi i (by omega)
    simp (disch := omega) only [↓m1_d, ↓m2_d, e_m2, e_m2', e_m12, e_m21, liN, e_le, e_lt, e_eqm, e_eq, e_m1, e_m1', e_m1l, e_m1e, e_m1g, e_m1h, e_add, e_mul, e_sub, e_pred, e_rem, ix_nI, nz_nI, nI_clamp, nm_e1, Nat.add_zero, if_true, if_false, Nat.reduceEqDiff, eq_self, reduceIte, Option.bind_some, L_isMissing hw hP (by omega : i < 2 ^ 31)]
    rw [if_neg (by omega), if_neg (by omega), if_neg c]
    rfl
/-! takes, best -/
theorem L_taken (hw : WF w ns R k D) (hL : L ≤ 4801) (hS : SV w k D L S) {d : Nat} (h2 : 2 ≤ d) (h120 : d ≤ 120) : F_X7_countTaken (nI d) S = some (nI (cn (fun n => decide (n % d = 0) && mk w k D n) (d * d) (L + 1 - d * d))) := by
  have hdd : d * d ≤ 120 * 120 := Nat.mul_le_mul h120 h120
  have hd2 : 2 * 2 ≤ d * d := Nat.mul_le_mul h2 h2
  unfold F_X7_countTaken F_X7_countWithOwner
  simp (disch := omega) only [↓m1_d, ↓m2_d, e_m2, e_m2', e_m12, e_m21, liN, e_le, e_lt, e_eqm, e_eq, e_m1, e_m1', e_m1l, e_m1e, e_m1g, e_m1h, e_add, e_mul, e_sub, e_pred, e_rem, ix_nI, nz_nI, nI_clamp, nm_e1, Nat.add_zero, if_true, if_false, Nat.reduceEqDiff, eq_self, reduceIte]
  have key := lp_cns (p := mk w k D) (bot := fun _ _ => none) (B := B_X7_countWithOwner_7 (nI d) (nI 0) S) nI d (d * d) L (by omega) (Nat.mul_mod_right _ _) (by omega) (by omega) (fun K c n h1 h2 => by
    unfold B_X7_countWithOwner_7
    rw [hS.1]
    by_cases q : L < n
    · simp (disch := omega) only [↓m1_d, ↓m2_d, e_m2, e_m2', e_m12, e_m21, liN, e_le, e_lt, e_eqm, e_eq, e_m1, e_m1', e_m1l, e_m1e, e_m1g, e_m1h, e_add, e_mul, e_sub, e_pred, e_rem, ix_nI, nz_nI, nI_clamp, nm_e1, Nat.add_zero, if_true, if_false, Nat.reduceEqDiff, eq_self, reduceIte]
      rw [if_neg (by omega), if_pos q, if_pos q]
    · simp (disch := omega) only [↓m1_d, ↓m2_d, e_m2, e_m2', e_m12, e_m21, liN, e_le, e_lt, e_eqm, e_eq, e_m1, e_m1', e_m1l, e_m1e, e_m1g, e_m1h, e_add, e_mul, e_sub, e_pred, e_rem, ix_nI, nz_nI, nI_clamp, nm_e1, Nat.add_zero, if_true, if_false, Nat.reduceEqDiff, eq_self, reduceIte, (hS.2.1 n (by omega) (by omega)).1, oz_0 hw]
      rw [if_neg (by omega), if_neg q])
  rw [key]
  rfl
end
