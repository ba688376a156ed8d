/-! ===== PURE: gaps, widest, widestAt ===== -/
section
variable {w ns k : Nat} {R D : Nat → Nat} {P : PlanT} {row : Nat → Int32} {S : SieveT} {L : Nat}
/-- two neighbours at distance g: by the lower one -/
def gp (w k : Nat) (D : Nat → Nat) (g i : Nat) : Bool := mk w k D i && (mk w k D (i + g) && (fi (mk w k D) (i + 1) (g - 1)).isNone)
theorem mb_two (h2 : 2 ≤ L) {i g : Nat} (hi : 2 ≤ i) (hg : 1 ≤ g) (hL : i + g ≤ L) (h1 : mk w k D i = true) (h3 : mk w k D (i + g) = true) : mb w k D L i (i + g) = 2 + cn (mk w k D) (i + 1) (g - 1) := by
  rw [mb_cn hL hi, show i + g + 1 - i = ((g - 1) + 1) + 1 by omega, cn_s, if_pos h1, cn_snoc, show i + 1 + (g - 1) = i + g by omega, if_pos h3]
  omega
theorem L_gaps (hw : WF w ns R k D) (hL : L ≤ 4801) (hv : SV w k D L S) {g : Nat} (h1 : 1 ≤ g) (h2 : g ≤ 400) :
    fx (fun _ _ _ => none) (B_X10_gaps_18 (nI g) P) FUEL 0 2 S = some (.inr (nI (cn (gp w k D g) 2 (max 2 (L + 1 - g) - 2))), S) := by
  refine lp_cn_t (p := gp w k D g) (fun c => ((.inr (nI c) : Nat ⊕ Int32), S)) 2 (max 2 (L + 1 - g)) (by omega) (by omega) (fun K c i i1 i2 i3 => ?_)
  unfold B_X10_gaps_18 F_X7_lastNumber
  rw [hv.1, Option.bind_some]
  by_cases q : L < i + g
  · simp (disch := omega) only [↓m1_d, ↓m2_d, e_m2, e_m2', e_m12, e_m21, liN, e_le, e_lt, e_eqm, e_eq, e_m1, e_m1', e_m1l, e_m1e, e_m1g, e_m1h, e_add, e_mul, e_sub, e_pred, e_rem, ix_nI, nz_nI, nI_clamp, nm_e1, Nat.add_zero, if_true, if_false, Nat.reduceEqDiff, eq_self, reduceIte]
    rw [if_pos q, if_pos (by omega)]
  · have hmb := mu_le (w := w) (k := k) (D := D) (L := L) (n := i + g)
    have hmb2 : mb w k D L i (i + g) ≤ L := by unfold mb; omega
    simp (disch := omega) only [↓m1_d, ↓m2_d, e_m2, e_m2', e_m12, e_m21, liN, e_le, e_lt, e_eqm, e_eq, e_m1, e_m1', e_m1l, e_m1e, e_m1g, e_m1h, e_add, e_mul, e_sub, e_pred, e_rem, ix_nI, nz_nI, nI_clamp, nm_e1, Nat.add_zero, if_true, if_false, Nat.reduceEqDiff, eq_self, reduceIte, Option.bind_some, L_isMark hw hL hv (by omega : i < 2 ^ 31), L_isMark hw hL hv (by omega : i + g < 2 ^ 31), L_marksBetween hL hv (by omega : i < 2 ^ 31) (by omega : i + g < 2 ^ 31)]
    rw [if_neg q, if_neg (show ¬ max 2 (L + 1 - g) ≤ i by omega)]
    have ea : isM w k D L i = mk w k D i := by
      unfold isM
      rw [decide_eq_true (by omega : 2 ≤ i ∧ i ≤ L), Bool.true_and]
    have eb : isM w k D L (i + g) = mk w k D (i + g) := by
      unfold isM
      rw [decide_eq_true (by omega : 2 ≤ i + g ∧ i + g ≤ L), Bool.true_and]
    rw [ea, eb]
    unfold gp
    cases ha : mk w k D i with
    | false => rfl
    | true =>
      cases hb : mk w k D (i + g) with
      | false => rfl
      | true =>
        rw [mb_two (by omega) i1 h1 (by omega) ha hb]
        by_cases z : cn (mk w k D) (i + 1) (g - 1) = 0
        · rw [if_pos rfl, if_pos rfl, if_pos (by omega), if_pos (by rw [cn_0] at z; rw [z]; rfl)]
        · have z2 : (fi (mk w k D) (i + 1) (g - 1)).isNone = false := by
            rw [Bool.eq_false_iff]
            intro y
            exact z (by rw [cn_0]; exact y)
          rw [if_pos rfl, if_pos rfl, if_neg (by omega), if_neg (by rw [z2]; decide)]
/-- the mark before i -/
def pv (w k : Nat) (D : Nat → Nat) (i : Nat) : Option Nat := fb (mk w k D) 2 (i - 2)
theorem pv_s {i : Nat} (h : 2 ≤ i) : pv w k D (i + 1) = if mk w k D i = true then some i else pv w k D i := by
  unfold pv
  rw [show i + 1 - 2 = (i - 2) + 1 by omega]
  show (if mk w k D (2 + (i - 2)) = true then some (2 + (i - 2)) else fb (mk w k D) 2 (i - 2)) = _
  rw [show 2 + (i - 2) = i by omega]
/-- the upper one of two neighbours at distance g -/
def gq (w k : Nat) (D : Nat → Nat) (g i : Nat) : Bool := mk w k D i && decide (pv w k D i = some (i - g) ∧ g ≤ i)
theorem gq_gp {g i : Nat} (hi : 2 ≤ i) (hg : 1 ≤ g) : gq w k D g (i + g) = gp w k D g i := by
  unfold gq gp
  rw [show i + g - g = i by omega]
  cases mk w k D (i + g) with
  | false => rw [Bool.false_and, Bool.false_and, Bool.and_false]
  | true =>
    rw [Bool.true_and, Bool.true_and]
    have e : (pv w k D (i + g) = some i ∧ g ≤ i + g) ↔ (mk w k D i && (fi (mk w k D) (i + 1) (g - 1)).isNone) = true := by
      simp only [Bool.and_eq_true, Option.isNone_iff_eq_none]
      refine ⟨fun ⟨h, _⟩ => ?_, fun ⟨h1, h2⟩ => ⟨?_, by omega⟩⟩
      · obtain ⟨a1, a2, a3, a4⟩ := fb_some h
        exact ⟨a3, fi_none.mpr (fun j j1 j2 => a4 j (by omega) (by omega))⟩
      · exact fb_eq hi (by omega) h1 (fun j j1 j2 => fi_none.mp h2 j (by omega) (by omega))
    rw [Bool.eq_iff_iff, decide_eq_true_iff]
    exact e
end
