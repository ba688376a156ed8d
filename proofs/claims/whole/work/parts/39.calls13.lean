/-! ===== PURE: gaps, widest, widestAt ===== -/
section
variable {w ns k : Nat} {R D : Nat → Nat} {P : PlanT} {row : Nat → Int32} {S : SieveT} {L : Nat}
/-- two neighbours at distance g: by the lower one -/
def gp (w k : Nat) (D : Nat → Nat) (g i : Nat) : Bool := mk w k D i && (mk w k D (i + g) && (fi (mk w k D) (i + 1) (g - 1)).isNone)
theorem mb_two (h2 : 2 ≤ L) {i g : Nat} (hi : 2 ≤ i) (hg : 1 ≤ g) (hL : i + g ≤ L) (h1 : mk w k D i = true) (h3 : mk w k D (i + g) = true) : mb w k D L i (i + g) = 2 + cn (mk w k D) (i + 1) (g - 1) := by
  rw [mb_cn hL hi, show i + g + 1 - i = ((g - 1) + 1) + 1 by omega, cn_s, if_pos h1, cn_snoc, show i + 1 + (g - 1) = i + g by omega, if_pos h3]
  omega
theorem L_gaps (hw : WF w ns R k D) (hL : L ≤ 4801) (hv : SV w k D L S) {g : Nat} (h1 : 1 ≤ g) (h2 : g ≤ 400) :
    fx (fun _ _ _ => none) (B_X10_gaps_18 (nI g) P) FUEL 0 2 S = some (.inr (nI (cn (gp w k D g) 2 (max 2 (L + 1 - g) - 2))), S) := by
  refine lp_cn_t (p := gp w k D g) (fun c => ((.inr (nI c) : Nat ⊕ Int32), S)) 2 (max 2 (L + 1 - g)) (by omega) (by omega) (fun K c i i1 i2 i3 => ?_)
  unfold B_X10_gaps_18 F_X7_lastNumber
  rw [hv.1, Option.bind_some]
  by_cases q : L < i + g
  · simp (disch := omega) only [↓m1_d, ↓m2_d, e_m2, e_m2', e_m12, e_m21, liN, e_le, e_lt, e_eqm, e_eq, e_m1, e_m1', e_m1l, e_m1e, e_m1g, e_m1h, e_add, e_mul, e_sub, e_pred, e_rem, ix_nI, nz_nI, nI_clamp, nm_e1, Nat.add_zero, if_true, if_false, Nat.reduceEqDiff, eq_self, reduceIte]
    rw [if_pos q, if_pos (by omega)]
  · have hmb := mu_le (w := w) (k := k) (D := D) (L := L) (n := i + g)
    have hmb2 : mb w k D L i (i + g) ≤ L := by unfold mb; omega
    simp (disch := omega) only [↓m1_d, ↓m2_d, e_m2, e_m2', e_m12, e_m21, liN, e_le, e_lt, e_eqm, e_eq, e_m1, e_m1', e_m1l, e_m1e, e_m1g, e_m1h, e_add, e_mul, e_sub, e_pred, e_rem, ix_nI, nz_nI, nI_clamp, nm_e1, Nat.add_zero, if_true, if_false, Nat.reduceEqDiff, eq_self, reduceIte, Option.bind_some, L_isMark hw hL hv (by omega : i < 2 ^ 31), L_isMark hw hL hv (by omega : i + g < 2 ^ 31), L_marksBetween hL hv (by omega : i < 2 ^ 31) (by omega : i + g < 2 ^ 31)]
    rw [if_neg q, if_neg (show ¬ max 2 (L + 1 - g) ≤ i by omega)]
    have ea : isM w k D L i = mk w k D i := by
      unfold isM
      rw [decide_eq_true (by omega : 2 ≤ i ∧ i ≤ L), Bool.true_and]
    have eb : isM w k D L (i + g) = mk w k D (i + g) := by
      unfold isM
      rw [decide_eq_true (by omega : 2 ≤ i + g ∧ i + g ≤ L), Bool.true_and]
    rw [ea, eb]
    unfold gp
    cases ha : mk w k D i with
    | false => rfl
    | true =>
      cases hb : mk w k D (i + g) with
      | false => rfl
      | true =>
        rw [mb_two (by omega) i1 h1 (by omega) ha hb]
        by_cases z : cn (mk w k D) (i + 1) (g - 1) = 0
        · rw [if_pos rfl, if_pos rfl, if_pos (by omega), if_pos (by rw [cn_0] at z; rw [z]; rfl)]
        · have z2 : (fi (mk w k D) (i + 1) (g - 1)).isNone = false := by
            rw [Bool.eq_false_iff]
            intro y
            exact z (by rw [cn_0]; exact y)
          rw [if_pos rfl, if_pos rfl, if_neg (by omega), if_neg (by rw [z2]; decide)]
/-- the mark before i -/
def pv (w k : Nat) (D : Nat → Nat) (i : Nat) : Option Nat := fb (mk w k D) 2 (i - 2)
theorem pv_s {i : Nat} (h : 2 ≤ i) : pv w k D (i + 1) = if mk w k D i = true then some i else pv w k D i := by
  unfold pv
  rw [show i + 1 - 2 = (i - 2) + 1 by omega]
  show (if mk w k D (2 + (i - 2)) = true then some (2 + (i - 2)) else fb (mk w k D) 2 (i - 2)) = _
  rw [show 2 + (i - 2) = i by omega]
/-- the upper one of two neighbours at distance g -/
def gq (w k : Nat) (D : Nat → Nat) (g i : Nat) : Bool := mk w k D i && decide (pv w k D i = some (i - g) ∧ g ≤ i)
theorem gq_gp {g i : Nat} (hi : 2 ≤ i) (hg : 1 ≤ g) : gq w k D g (i + g) = gp w k D g i := by
  unfold gq gp
  rw [show i + g - g = i by omega]
  cases mk w k D (i + g) with
  | false => rw [Bool.false_and, Bool.false_and, Bool.and_false]
  | true =>
    rw [Bool.true_and, Bool.true_and]
    have e : (pv w k D (i + g) = some i ∧ g ≤ i + g) ↔ (mk w k D i && (fi (mk w k D) (i + 1) (g - 1)).isNone) = true := by
      simp only [Bool.and_eq_true, Option.isNone_iff_eq_none]
      refine ⟨fun ⟨h, _⟩ => ?_, fun ⟨h1, h2⟩ => ⟨?_, by omega⟩⟩
      · obtain ⟨a1, a2, a3, a4⟩ := fb_some h
        exact ⟨a3, fi_none.mpr (fun j j1 j2 => a4 j (by omega) (by omega))⟩
      · exact fb_eq hi (by omega) h1 (fun j j1 j2 => fi_none.mp h2 j (by omega) (by omega))
    rw [Bool.eq_iff_iff, decide_eq_true_iff]
    exact e
theorem M_gaps (hw : WF w ns R k D) (hR : RX w ns R k D row) (hL : L ≤ 4801) (hL1 : 1 ≤ L) {o t : Nat → Int32} (hS : RS w k D L o t) {g : Nat} (h1 : 1 ≤ g) (h2 : g ≤ 400) :
    fx (fun _ _ _ _ _ _ _ => none) (B_X11_gaps_24 (nI g) row) FUEL 0 (-1) 2 (nI L) o 0 t = some (nI (cn (gq w k D g) 2 (L + 1 - 2)), (nI L, o, 0, t)) := by
  refine fx7 (Q := fun u p v e oo t1 tt m r => e = nI L ∧ o = oo ∧ t1 = 0 ∧ t = tt ∧ ∃ c i, u = nI c ∧ p = oI (pv w k D i) ∧ v = nI i ∧ 2 ≤ i ∧ i ≤ L + 1 ∧ m = L + 1 - i ∧ r = some (nI (c + cn (gq w k D g) i (L + 1 - i)), (nI L, o, 0, t)))
    ?_ FUEL _ _ _ _ _ _ _ (L + 1 - 2) _ ⟨rfl, rfl, rfl, rfl, 0, 2, rfl, rfl, rfl, by omega, by omega, rfl, by rw [Nat.zero_add]⟩ (by unfold FUEL; omega)
  rintro K _ _ _ _ _ _ _ _ _ ih ⟨rfl, rfl, rfl, rfl, c, i, rfl, rfl, rfl, i1, i2, rfl, rfl⟩
  unfold B_X11_gaps_24
  by_cases q : L < i
  · simp (disch := omega) only [↓m1_d, ↓m2_d, e_m2, e_m2', e_m12, e_m21, liN, e_le, e_lt, e_eqm, e_eq, e_m1, e_m1', e_m1l, e_m1e, e_m1g, e_m1h, e_add, e_mul, e_sub, e_pred, e_rem, ix_nI, nz_nI, nI_clamp, nm_e1, Nat.add_zero, if_true, if_false, Nat.reduceEqDiff, eq_self, reduceIte]
    rw [if_pos q, show L + 1 - i = 0 by omega]
    rfl
  · have hn : ∀ c, K (nI c) (oI (pv w k D (i + 1))) (nI (i + 1)) (nI L) o 0 t = some (nI (c + cn (gq w k D g) (i + 1) (L + 1 - (i + 1))), (nI L, o, 0, t)) := fun c =>
      ih _ _ _ _ _ _ _ (L + 1 - (i + 1)) _ (by omega) ⟨rfl, rfl, rfl, rfl, c, i + 1, rfl, rfl, rfl, by omega, by omega, rfl, rfl⟩
    rw [pv_s i1] at hn
    simp (disch := omega) only [↓m1_d, ↓m2_d, e_m2, e_m2', e_m12, e_m21, liN, e_le, e_lt, e_eqm, e_eq, e_m1, e_m1', e_m1l, e_m1e, e_m1g, e_m1h, e_add, e_mul, e_sub, e_pred, e_rem, ix_nI, nz_nI, nI_clamp, nm_e1, Nat.add_zero, if_true, if_false, Nat.reduceEqDiff, eq_self, reduceIte, Option.bind_some, M_isMark hw hR hL hS (by omega : i < 2 ^ 31)]
    rw [if_neg q, show L + 1 - i = (L + 1 - (i + 1)) + 1 by omega, cn_s]
    have ea : isM w k D L i = mk w k D i := by
      unfold isM
      rw [decide_eq_true (by omega : 2 ≤ i ∧ i ≤ L), Bool.true_and]
    rw [ea]
    have eg : gq w k D g i = (mk w k D i && decide (pv w k D i = some (i - g) ∧ g ≤ i)) := rfl
    rw [eg]
    cases hm : mk w k D i with
    | false =>
      rw [hm, if_neg Bool.false_ne_true] at hn
      rw [Bool.false_and, if_neg Bool.false_ne_true, if_neg Bool.false_ne_true, Nat.zero_add]
      exact hn c
    | true =>
      rw [hm, if_pos rfl] at hn
      rw [Bool.true_and, if_pos rfl]
      cases hp : pv w k D i with
      | none =>
        rw [if_pos (show oI none = m1 from rfl), decide_eq_false (by simp), if_neg Bool.false_ne_true, Nat.zero_add]
        exact hn c
      | some v =>
        obtain ⟨v1, v2, -, -⟩ := fb_some hp
        rw [if_neg (show ¬ oI (some v) = m1 from m1_ne (k := v) (by omega))]
        show (if nI i - nI v = nI g then _ else _) = _
        simp (disch := omega) only [↓m1_d, ↓m2_d, e_m2, e_m2', e_m12, e_m21, liN, e_le, e_lt, e_eqm, e_eq, e_m1, e_m1', e_m1l, e_m1e, e_m1g, e_m1h, e_add, e_mul, e_sub, e_pred, e_rem, ix_nI, nz_nI, nI_clamp, nm_e1, Nat.add_zero, if_true, if_false, Nat.reduceEqDiff, eq_self, reduceIte]
        by_cases z : i - v = g
        · rw [if_pos z, decide_eq_true ⟨by congr 1; omega, by omega⟩, if_pos rfl, ← Nat.add_assoc]
          exact hn (c + 1)
        · rw [if_neg z, decide_eq_false (by simp; omega), if_neg Bool.false_ne_true, Nat.zero_add]
          exact hn c
theorem Q_gaps (h : CX w ns R k D P row S) (x e0 : Int32) (o t : Nat → Int32) (th : Int32) :
    ∃ r S' b e' o' th' t', F_X10_gaps x P S = some (r, S') ∧ SOK w k D (1 + sm R ns) P S' ∧ F_X11_gaps x e0 o row th t = some (b, (e', o', th', t')) ∧ ag 1 r b th' := by
  obtain ⟨hw, hP, hR, hS⟩ := h
  obtain ⟨o', t', hm, hRS⟩ := M_strike hw hR e0 o t
  obtain ⟨S', hc, hv, hk⟩ := L_current hw hP hS
  have hL := hw.last
  unfold F_X10_gaps F_X11_gaps F_X11_isGap
  rcases N_range (a := 1) (b := 400) (by decide) (by decide) x with ⟨g, hn, h1, h2, rfl, h3, h4⟩ | ⟨h3, h4⟩
  · rw [show F_X10_needInRange (nI g) 1 400 = _ from h3, show F_X11_inRange (nI g) 1 400 = _ from h4, Option.bind_some, Option.bind_some, Option.bind_some, M_lacks, Option.bind_some]
    have hL1 : 1 ≤ 1 + sm R ns := by omega
    generalize 1 + sm R ns = L at *
    have e : cn (gq w k D g) 2 (L + 1 - 2) = cn (gp w k D g) 2 (max 2 (L + 1 - g) - 2) := by
      have lo : ∀ i, i < g + 2 → gq w k D g i = false := by
        intro i hi
        unfold gq
        rw [Bool.and_eq_false_iff]
        refine Or.inr (decide_eq_false fun ⟨a, b⟩ => ?_)
        obtain ⟨v1, -, -, -⟩ := fb_some a
        omega
      by_cases c : 2 + g ≤ L
      · rw [show L + 1 - 2 = g + (max 2 (L + 1 - g) - 2) by omega, cn_add, cn_zero (fun i _ h => lo i (by omega)), Nat.zero_add, cn_shift]
        exact cn_cong (fun i i1 i2 => gq_gp i1 h1)
      · rw [show max 2 (L + 1 - g) - 2 = 0 by omega]
        exact cn_zero (fun i _ h => lo i (by omega))
    refine ⟨.inr (nI (cn (gp w k D g) 2 (max 2 (L + 1 - g) - 2))), S', nI (cn (gp w k D g) 2 (max 2 (L + 1 - g) - 2)), nI L, o', 0, t', ?_, hk, ?_, rfl, rfl⟩
    · rw [Sum.elim_inr, hc, Option.bind_some]
      exact L_gaps hw hL hv h1 h2
    · show (F_X11_strike e0 o row t).bind _ = _
      rw [hm, Option.bind_some]
      refine Eq.trans (M_gaps hw hR hL hL1 hRS h1 h2) ?_
      rw [e]
  · rw [show F_X10_needInRange x 1 400 = _ from h3, show F_X11_inRange x 1 400 = _ from h4, Option.bind_some, Option.bind_some, Option.bind_some, M_lacks, Option.bind_some]
    exact ⟨_, _, _, _, _, _, _, rfl, hS, rfl, rfl, rfl⟩
end
