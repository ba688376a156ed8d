/-! ===== PURE: calls: size, account, stretch, striker ===== -/
section
variable {w ns k : Nat} {R D : Nat → Nat} {P : PlanT} {row : Nat → Int32} {S : SieveT} {L : Nat}
theorem ro_rng (h : w ≤ 4) : ro w ≤ 48 := by
  match w, h with
  | 0, _ => decide
  | 1, _ => decide
  | 2, _ => decide
  | 3, _ => decide
  | 4, _ => decide
theorem L_roomAhead (hw : WF w ns R k D) (hP : PX w ns R k D P) {i : Nat} (hi : i ≤ ns) : F_X3_roomAhead (nI i) P = some (nI (sm R i)) := by
  have h12 := hw.2.1
  have key := lp_sm (β := Int32) (bot := fun _ _ => none) (B := B_X3_roomAhead_4 (nI i) P) nI 0 i R (by omega) (fun K j hj => by
    have hu := hw.upto (by omega : j ≤ ns)
    unfold B_X3_roomAhead_4
    by_cases c : i ≤ j
    · simp (disch := omega) only [↓m1_d, ↓m2_d, e_m2, e_m2', e_m12, e_m21, liN, e_le, e_lt, e_eqm, e_eq, e_m1, e_m1', e_m1l, e_m1e, e_m1g, e_m1h, e_add, e_mul, e_sub, e_pred, e_rem, ix_nI, nz_nI, nI_clamp, nm_e1, Nat.add_zero, if_true, if_false, Nat.reduceEqDiff, eq_self, reduceIte]
      rw [if_pos c, if_pos c]
    · simp (disch := omega) only [↓m1_d, ↓m2_d, e_m2, e_m2', e_m12, e_m21, liN, e_le, e_lt, e_eqm, e_eq, e_m1, e_m1', e_m1l, e_m1e, e_m1g, e_m1h, e_add, e_mul, e_sub, e_pred, e_rem, ix_nI, nz_nI, nI_clamp, nm_e1, Nat.add_zero, if_true, if_false, Nat.reduceEqDiff, eq_self, reduceIte, hP.2.2.1 j (by omega)]
      rw [if_neg c, if_neg (by omega), if_neg c]
      show K (nI (0 + sm R j + R j)) _ = K (nI (0 + (sm R j + R j))) _
      rw [Nat.add_assoc])
  rw [Nat.zero_add] at key
  exact key
theorem L_first (hw : WF w ns R k D) (hP : PX w ns R k D P) {i : Nat} (hi : i < ns) : F_X3_firstNumberOf (nI i) P = some (nI (2 + sm R i)) := by
  unfold F_X3_firstNumberOf
  rw [L_roomAhead hw hP (by omega), Option.bind_some]
  simp (disch := omega) only [↓m1_d, ↓m2_d, e_m2, e_m2', e_m12, e_m21, liN, e_le, e_lt, e_eqm, e_eq, e_m1, e_m1', e_m1l, e_m1e, e_m1g, e_m1h, e_add, e_mul, e_sub, e_pred, e_rem, ix_nI, nz_nI, nI_clamp, nm_e1, Nat.add_zero, if_true, if_false, Nat.reduceEqDiff, eq_self, reduceIte]
theorem L_lastOf (hw : WF w ns R k D) (hP : PX w ns R k D P) {i : Nat} (hi : i < ns) : F_X3_lastNumberOf (nI i) P = some (nI (1 + sm R (i + 1))) := by
  unfold F_X3_lastNumberOf
  simp (disch := omega) only [↓m1_d, ↓m2_d, e_m2, e_m2', e_m12, e_m21, liN, e_le, e_lt, e_eqm, e_eq, e_m1, e_m1', e_m1l, e_m1e, e_m1g, e_m1h, e_add, e_mul, e_sub, e_pred, e_rem, ix_nI, nz_nI, nI_clamp, nm_e1, Nat.add_zero, if_true, if_false, Nat.reduceEqDiff, eq_self, reduceIte]
  rw [L_roomAhead hw hP (by omega), Option.bind_some, e_add]
theorem L_markAbove (hw : WF w ns R k D) (hL : L ≤ 4801) (hL1 : 1 ≤ L) (hS : SV w k D L S) {a : Nat} (ha : 1 ≤ a) (ha2 : a < 2 ^ 31) : F_X7_markAbove (nI a) S = some (oI (fi (mk w k D) (a + 1) (L - a))) := by
  unfold F_X7_markAbove
  simp (disch := omega) only [↓m1_d, ↓m2_d, e_m2, e_m2', e_m12, e_m21, liN, e_le, e_lt, e_eqm, e_eq, e_m1, e_m1', e_m1l, e_m1e, e_m1g, e_m1h, e_add, e_mul, e_sub, e_pred, e_rem, ix_nI, nz_nI, nI_clamp, nm_e1, Nat.add_zero, if_true, if_false, Nat.reduceEqDiff, eq_self, reduceIte]
  rw [if_neg (by omega)]
  by_cases c : L < a
  · show B_X7_markAbove_6 (nI a) S (fx _ _ 999999) (nI a) = _
    unfold B_X7_markAbove_6
    rw [hS.1]
    simp (disch := omega) only [↓m1_d, ↓m2_d, e_m2, e_m2', e_m12, e_m21, liN, e_le, e_lt, e_eqm, e_eq, e_m1, e_m1', e_m1l, e_m1e, e_m1g, e_m1h, e_add, e_mul, e_sub, e_pred, e_rem, ix_nI, nz_nI, nI_clamp, nm_e1, Nat.add_zero, if_true, if_false, Nat.reduceEqDiff, eq_self, reduceIte]
    rw [if_pos (by omega), show L - a = 0 by omega]
    rfl
  · have key := lp_fi (p := fun i => mk w k D (i + 1)) (β := Int32) (bot := fun _ => none) (B := B_X7_markAbove_6 (nI a) S) (fun v => oI (v.map (· + 1))) a L (by omega) (by omega) (fun K i h1 h2 => by
      unfold B_X7_markAbove_6
      rw [hS.1]
      by_cases q : L ≤ i
      · simp (disch := omega) only [↓m1_d, ↓m2_d, e_m2, e_m2', e_m12, e_m21, liN, e_le, e_lt, e_eqm, e_eq, e_m1, e_m1', e_m1l, e_m1e, e_m1g, e_m1h, e_add, e_mul, e_sub, e_pred, e_rem, ix_nI, nz_nI, nI_clamp, nm_e1, Nat.add_zero, if_true, if_false, Nat.reduceEqDiff, eq_self, reduceIte]
        rw [if_pos q, if_pos q]; rfl
      · simp (disch := omega) only [↓m1_d, ↓m2_d, e_m2, e_m2', e_m12, e_m21, liN, e_le, e_lt, e_eqm, e_eq, e_m1, e_m1', e_m1l, e_m1e, e_m1g, e_m1h, e_add, e_mul, e_sub, e_pred, e_rem, ix_nI, nz_nI, nI_clamp, nm_e1, Nat.add_zero, if_true, if_false, Nat.reduceEqDiff, eq_self, reduceIte, (hS.2.1 (i + 1) (by omega) (by omega)).1, oz_0 hw]
        rw [if_neg q, if_neg q]
        rfl)
    rw [key]
    congr 2
    have sh : ∀ (n a : Nat), (fi (fun i => mk w k D (i + 1)) a n).map (· + 1) = fi (mk w k D) (a + 1) n := by
      intro n
      induction n with
      | zero => intro a; rfl
      | succ n ih =>
        intro a
        rw [fi_s, fi_s, ← ih (a + 1)]
        by_cases e : mk w k D (a + 1) = true
        · rw [if_pos e, if_pos e]; rfl
        · rw [if_neg e, if_neg e]
    exact sh _ _
theorem L_markBelow (hw : WF w ns R k D) (hL : L ≤ 4801) (hL1 : 1 ≤ L) (hS : SV w k D L S) {a : Nat} (ha : a ≤ L + 1) : F_X7_markBelow (nI a) S = some (oI (fb (mk w k D) 2 (a - 2))) := by
  unfold F_X7_markBelow
  rw [hS.1]
  simp (disch := omega) only [↓m1_d, ↓m2_d, e_m2, e_m2', e_m12, e_m21, liN, e_le, e_lt, e_eqm, e_eq, e_m1, e_m1', e_m1l, e_m1e, e_m1g, e_m1h, e_add, e_mul, e_sub, e_pred, e_rem, ix_nI, nz_nI, nI_clamp, nm_e1, Nat.add_zero, if_true, if_false, Nat.reduceEqDiff, eq_self, reduceIte]
  rw [if_neg (by omega)]
  refine lp_fb (p := mk w k D) oI 2 a (by omega) (fun K i h1 => ?_)
  unfold B_X7_markBelow_11
  by_cases q : i ≤ 2
  · simp (disch := omega) only [↓m1_d, ↓m2_d, e_m2, e_m2', e_m12, e_m21, liN, e_le, e_lt, e_eqm, e_eq, e_m1, e_m1', e_m1l, e_m1e, e_m1g, e_m1h, e_add, e_mul, e_sub, e_pred, e_rem, ix_nI, nz_nI, nI_clamp, nm_e1, Nat.add_zero, if_true, if_false, Nat.reduceEqDiff, eq_self, reduceIte]
    rw [if_pos q, if_pos q]; rfl
  · simp (disch := omega) only [↓m1_d, ↓m2_d, e_m2, e_m2', e_m12, e_m21, liN, e_le, e_lt, e_eqm, e_eq, e_m1, e_m1', e_m1l, e_m1e, e_m1g, e_m1h, e_add, e_mul, e_sub, e_pred, e_rem, ix_nI, nz_nI, nI_clamp, nm_e1, Nat.add_zero, if_true, if_false, Nat.reduceEqDiff, eq_self, reduceIte, (hS.2.1 (i - 1) (by omega) (by omega)).1, oz_0 hw]
    rw [if_neg q, if_neg q]
    rfl
end
