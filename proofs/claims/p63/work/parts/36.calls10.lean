/-! ===== PURE: gives, marksNext, leastWheel, sums, leastOf ===== -/
section
variable {w ns k : Nat} {R D : Nat → Nat} {P : PlanT} {row : Nat → Int32} {S : SieveT} {L : Nat}
/-- struck first by i and by no other -/
def onl (w k : Nat) (D : Nat → Nat) (i n : Nat) : Bool := own w k D i n && decide (cn (fun j => hit n (D j)) (i + 1) (k - (i + 1)) = 0)
theorem onl_lo {i n : Nat} (h : n < D i * D i) : onl w k D i n = false := by
  unfold onl
  rw [own_lo h, Bool.false_and]
theorem onl_and {i : Nat} : (fun n => decide (n % D i = 0) && onl w k D i n) = onl w k D i := by
  funext n
  cases h : onl w k D i n with
  | true =>
    have : own w k D i n = true := by
      unfold onl at h
      simp only [Bool.and_eq_true] at h
      exact h.1
    rw [decide_eq_true (own_hit this).2]; rfl
  | false => rw [Bool.and_false]
theorem own_ht (hw : WF w ns R k D) {i n : Nat} (hi : i < k) (h : own w k D i n = true) : ht w k D n = 1 + cn (fun j => hit n (D j)) (i + 1) (k - (i + 1)) := by
  unfold own at h
  simp only [Bool.and_eq_true, decide_eq_true_eq, Bool.not_eq_true'] at h
  obtain ⟨h1, h2⟩ := h
  obtain ⟨-, -, h3, h4⟩ := fi_some h2
  unfold ht
  rw [if_neg (by rw [h1]; decide)]
  have hz : cn (fun j => hit n (D j)) 0 i = 0 := cn_zero (fun j a b => h4 j a (by omega))
  have e := cn_add (fun j => hit n (D j)) i 0 ((k - (i + 1)) + 1)
  rw [hz, Nat.zero_add, Nat.zero_add, cn_s, if_pos h3, show i + (k - (i + 1) + 1) = k by omega] at e
  exact e
theorem L_countGiven (hw : WF w ns R k D) (hP : PX w ns R k D P) (hL : L ≤ 4801) (hS : SV w k D L S) {i : Nat} (hi : i < k) : F_X10_countGiven (nI i) P S = some (nI (cn (onl w k D i) 2 (L - 1))) := by
  have h30 := hw.2.2.2.1
  have hd := hw.2.2.2.2.1 i hi
  have hdd : D i * D i ≤ 120 * 120 := Nat.mul_le_mul hd.2 hd.2
  have hd2 : 2 * 2 ≤ D i * D i := Nat.mul_le_mul hd.1 hd.1
  rw [show L - 1 = L + 1 - 2 by omega, cn_from (by omega : 2 ≤ D i * D i) (fun n h => onl_lo h), ← onl_and]
  unfold F_X10_countGiven
  rw [L_dOf hw hP hi, Option.bind_some]
  simp (disch := omega) only [↓m1_d, ↓m2_d, e_m2, e_m2', e_m12, e_m21, liN, e_le, e_lt, e_eqm, e_eq, e_m1, e_m1', e_m1l, e_m1e, e_m1g, e_m1h, e_add, e_mul, e_sub, e_pred, e_rem, ix_nI, nz_nI, nI_clamp, nm_e1, Nat.add_zero, if_true, if_false, Nat.reduceEqDiff, eq_self, reduceIte]
  refine fx3 (Q := fun u c v m r => u = nI (D i) ∧ ∃ a n, c = nI a ∧ v = nI n ∧ D i * D i ≤ n ∧ n % D i = 0 ∧ n ≤ 40000 ∧ (n ≤ 20000 ∨ L < n) ∧ m = L + 1 - n ∧ r = some (nI (a + cn (fun n => decide (n % D i = 0) && onl w k D i n) n (L + 1 - n)))) ?_ FUEL _ _ _ _ _ ⟨rfl, 0, D i * D i, rfl, rfl, Nat.le_refl _, Nat.mul_mod_right _ _, by omega, Or.inl (by omega), rfl, by rw [Nat.zero_add]⟩ (by unfold FUEL; omega)
  rintro K _ _ _ _ _ ih ⟨rfl, a, n, rfl, rfl, n1, n2, n3, n4, rfl, rfl⟩
  unfold B_X10_countGiven_17 F_X7_lastNumber
  rw [hS.1, Option.bind_some]
  by_cases q : L < n
  · simp (disch := omega) only [↓m1_d, ↓m2_d, e_m2, e_m2', e_m12, e_m21, liN, e_le, e_lt, e_eqm, e_eq, e_m1, e_m1', e_m1l, e_m1e, e_m1g, e_m1h, e_add, e_mul, e_sub, e_pred, e_rem, ix_nI, nz_nI, nI_clamp, nm_e1, Nat.add_zero, if_true, if_false, Nat.reduceEqDiff, eq_self, reduceIte]
    rw [if_neg (by omega), if_pos q, show L + 1 - n = 0 by omega]
    rfl
  · rw [cn_mul (by omega) n2 (by omega)]
    have hn : ∀ a, K (nI (D i)) (nI a) (nI (n + D i)) = some (nI (a + cn (fun n => decide (n % D i = 0) && onl w k D i n) (n + D i) (L + 1 - (n + D i)))) := fun a =>
      ih _ _ _ (L + 1 - (n + D i)) _ (by omega) ⟨rfl, a, n + D i, rfl, rfl, by omega, by rw [Nat.add_mod_right]; exact n2, by omega, by omega, rfl, rfl⟩
    simp (disch := omega) only [↓m1_d, ↓m2_d, e_m2, e_m2', e_m12, e_m21, liN, e_le, e_lt, e_eqm, e_eq, e_m1, e_m1', e_m1l, e_m1e, e_m1g, e_m1h, e_add, e_mul, e_sub, e_pred, e_rem, ix_nI, nz_nI, nI_clamp, nm_e1, Nat.add_zero, if_true, if_false, Nat.reduceEqDiff, eq_self, reduceIte, Option.bind_some, L_ownerOf hL hS (by omega : n < 2 ^ 31)]
    rw [if_neg (by omega), if_neg q, if_pos (show 2 ≤ n ∧ n ≤ L by omega)]
    simp (disch := omega) only [↓m1_d, ↓m2_d, e_m2, e_m2', e_m12, e_m21, liN, e_le, e_lt, e_eqm, e_eq, e_m1, e_m1', e_m1l, e_m1e, e_m1g, e_m1h, e_add, e_mul, e_sub, e_pred, e_rem, ix_nI, nz_nI, nI_clamp, nm_e1, Nat.add_zero, if_true, if_false, Nat.reduceEqDiff, eq_self, reduceIte, own_oz hw hi]
    have eo : onl w k D i n = (own w k D i n && decide (cn (fun j => hit n (D j)) (i + 1) (k - (i + 1)) = 0)) := rfl
    by_cases e : own w k D i n = true
    · rw [if_pos e]
      unfold F_X3_strikerCount
      have hl := cn_le (fun j => hit n (D j)) (k - (i + 1)) (i + 1)
      rw [hP.2.2.2.2.1, Option.bind_some, L_countHits hw hP (by omega) (by omega) (by omega) (by omega), Option.bind_some, Nat.min_self]
      rw [e, Bool.true_and] at eo
      simp (disch := omega) only [↓m1_d, ↓m2_d, e_m2, e_m2', e_m12, e_m21, liN, e_le, e_lt, e_eqm, e_eq, e_m1, e_m1', e_m1l, e_m1e, e_m1g, e_m1h, e_add, e_mul, e_sub, e_pred, e_rem, ix_nI, nz_nI, nI_clamp, nm_e1, Nat.add_zero, if_true, if_false, Nat.reduceEqDiff, eq_self, reduceIte]
      by_cases z : cn (fun j => hit n (D j)) (i + 1) (k - (i + 1)) = 0
      · rw [if_pos z, hn, eo, decide_eq_true z, if_pos rfl, ← Nat.add_assoc]
      · rw [if_neg z, hn, eo, decide_eq_false z, if_neg Bool.false_ne_true, Nat.zero_add]
    · rw [if_neg e, hn, eo, Bool.eq_false_iff.mpr e, Bool.false_and, if_neg Bool.false_ne_true, Nat.zero_add]
end
