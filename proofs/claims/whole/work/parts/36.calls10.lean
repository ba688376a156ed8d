/-! ===== PURE: gives, marksNext, leastWheel, sums, leastOf ===== -/
section
variable {w ns k : Nat} {R D : Nat → Nat} {P : PlanT} {row : Nat → Int32} {S : SieveT} {L : Nat}
/-- struck first by i and by no other -/
def onl (w k : Nat) (D : Nat → Nat) (i n : Nat) : Bool := own w k D i n && decide (cn (fun j => hit n (D j)) (i + 1) (k - (i + 1)) = 0)
theorem onl_lo {i n : Nat} (h : n < D i * D i) : onl w k D i n = false := by
  unfold onl
  rw [own_lo h, Bool.false_and]
theorem onl_and {i : Nat} : (fun n => decide (n % D i = 0) && onl w k D i n) = onl w k D i := by
  funext n
  cases h : onl w k D i n with
  | true =>
    have : own w k D i n = true := by
      unfold onl at h
      simp only [Bool.and_eq_true] at h
      exact h.1
    rw [decide_eq_true (own_hit this).2]; rfl
  | false => rw [Bool.and_false]
theorem own_ht (hw : WF w ns R k D) {i n : Nat} (hi : i < k) (h : own w k D i n = true) : ht w k D n = 1 + cn (fun j => hit n (D j)) (i + 1) (k - (i + 1)) := by
  unfold own at h
  simp only [Bool.and_eq_true, decide_eq_true_eq, Bool.not_eq_true'] at h
  obtain ⟨h1, h2⟩ := h
  obtain ⟨-, -, h3, h4⟩ := fi_some h2
  unfold ht
  rw [if_neg (by rw [h1]; decide)]
  have hz : cn (fun j => hit n (D j)) 0 i = 0 := cn_zero (fun j a b => h4 j a (by omega))
  have e := cn_add (fun j => hit n (D j)) i 0 ((k - (i + 1)) + 1)
  rw [hz, Nat.zero_add, Nat.zero_add, cn_s, if_pos h3, show i + (k - (i + 1) + 1) = k by omega] at e
  exact e
theorem L_countGiven (hw : WF w ns R k D) (hP : PX w ns R k D P) (hL : L ≤ 4801) (hS : SV w k D L S) {i : Nat} (hi : i < k) : F_X10_countGiven (nI i) P S = some (nI (cn (onl w k D i) 2 (L - 1))) := by
  have h30 := hw.2.2.2.1
  have hd := hw.2.2.2.2.1 i hi
  have hdd : D i * D i ≤ 120 * 120 := Nat.mul_le_mul hd.2 hd.2
  have hd2 : 2 * 2 ≤ D i * D i := Nat.mul_le_mul hd.1 hd.1
  rw [show L - 1 = L + 1 - 2 by omega, cn_from (by omega : 2 ≤ D i * D i) (fun n h => onl_lo h), ← onl_and]
  unfold F_X10_countGiven
  rw [L_dOf hw hP hi, Option.bind_some]
  simp (disch := omega) only [↓m1_d, ↓m2_d, e_m2, e_m2', e_m12, e_m21, liN, e_le, e_lt, e_eqm, e_eq, e_m1, e_m1', e_m1l, e_m1e, e_m1g, e_m1h, e_add, e_mul, e_sub, e_pred, e_rem, ix_nI, nz_nI, nI_clamp, nm_e1, Nat.add_zero, if_true, if_false, Nat.reduceEqDiff, eq_self, reduceIte]
  refine fx3 (Q := fun u c v m r => u = nI (D i) ∧ ∃ a n, c = nI a ∧ v = nI n ∧ D i * D i ≤ n ∧ n % D i = 0 ∧ n ≤ 40000 ∧ (n ≤ 20000 ∨ L < n) ∧ m = L + 1 - n ∧ r = some (nI (a + cn (fun n => decide (n % D i = 0) && onl w k D i n) n (L + 1 - n)))) ?_ FUEL _ _ _ _ _ ⟨rfl, 0, D i * D i, rfl, rfl, Nat.le_refl _, Nat.mul_mod_right _ _, by omega, Or.inl (by omega), rfl, by rw [Nat.zero_add]⟩ (by unfold FUEL; omega)
  rintro K _ _ _ _ _ ih ⟨rfl, a, n, rfl, rfl, n1, n2, n3, n4, rfl, rfl⟩
  unfold B_X10_countGiven_17 F_X7_lastNumber
  rw [hS.1, Option.bind_some]
  by_cases q : L < n
  · simp (disch := omega) only [↓m1_d, ↓m2_d, e_m2, e_m2', e_m12, e_m21, liN, e_le, e_lt, e_eqm, e_eq, e_m1, e_m1', e_m1l, e_m1e, e_m1g, e_m1h, e_add, e_mul, e_sub, e_pred, e_rem, ix_nI, nz_nI, nI_clamp, nm_e1, Nat.add_zero, if_true, if_false, Nat.reduceEqDiff, eq_self, reduceIte]
    rw [if_neg (by omega), if_pos q, show L + 1 - n = 0 by omega]
    rfl
  · rw [cn_mul (by omega) n2 (by omega)]
    have hn : ∀ a, K (nI (D i)) (nI a) (nI (n + D i)) = some (nI (a + cn (fun n => decide (n % D i = 0) && onl w k D i n) (n + D i) (L + 1 - (n + D i)))) := fun a =>
      ih _ _ _ (L + 1 - (n + D i)) _ (by omega) ⟨rfl, a, n + D i, rfl, rfl, by omega, by rw [Nat.add_mod_right]; exact n2, by omega, by omega, rfl, rfl⟩
    simp (disch := omega) only [↓m1_d, ↓m2_d, e_m2, e_m2', e_m12, e_m21, liN, e_le, e_lt, e_eqm, e_eq, e_m1, e_m1', e_m1l, e_m1e, e_m1g, e_m1h, e_add, e_mul, e_sub, e_pred, e_rem, ix_nI, nz_nI, nI_clamp, nm_e1, Nat.add_zero, if_true, if_false, Nat.reduceEqDiff, eq_self, reduceIte, Option.bind_some, L_ownerOf hL hS (by omega : n < 2 ^ 31)]
    rw [if_neg (by omega), if_neg q, if_pos (show 2 ≤ n ∧ n ≤ L by omega)]
    simp (disch := omega) only [↓m1_d, ↓m2_d, e_m2, e_m2', e_m12, e_m21, liN, e_le, e_lt, e_eqm, e_eq, e_m1, e_m1', e_m1l, e_m1e, e_m1g, e_m1h, e_add, e_mul, e_sub, e_pred, e_rem, ix_nI, nz_nI, nI_clamp, nm_e1, Nat.add_zero, if_true, if_false, Nat.reduceEqDiff, eq_self, reduceIte, own_oz hw hi]
    have eo : onl w k D i n = (own w k D i n && decide (cn (fun j => hit n (D j)) (i + 1) (k - (i + 1)) = 0)) := rfl
    by_cases e : own w k D i n = true
    · rw [if_pos e]
      unfold F_X3_strikerCount
      have hl := cn_le (fun j => hit n (D j)) (k - (i + 1)) (i + 1)
      rw [hP.2.2.2.2.1, Option.bind_some, L_countHits hw hP (by omega) (by omega) (by omega) (by omega), Option.bind_some, Nat.min_self]
      rw [e, Bool.true_and] at eo
      simp (disch := omega) only [↓m1_d, ↓m2_d, e_m2, e_m2', e_m12, e_m21, liN, e_le, e_lt, e_eqm, e_eq, e_m1, e_m1', e_m1l, e_m1e, e_m1g, e_m1h, e_add, e_mul, e_sub, e_pred, e_rem, ix_nI, nz_nI, nI_clamp, nm_e1, Nat.add_zero, if_true, if_false, Nat.reduceEqDiff, eq_self, reduceIte]
      by_cases z : cn (fun j => hit n (D j)) (i + 1) (k - (i + 1)) = 0
      · rw [if_pos z, hn, eo, decide_eq_true z, if_pos rfl, ← Nat.add_assoc]
      · rw [if_neg z, hn, eo, decide_eq_false z, if_neg Bool.false_ne_true, Nat.zero_add]
    · rw [if_neg e, hn, eo, Bool.eq_false_iff.mpr e, Bool.false_and, if_neg Bool.false_ne_true, Nat.zero_add]
theorem M_ownedAlone (hw : WF w ns R k D) (hL : L ≤ 4801) (hL1 : 1 ≤ L) {o t : Nat → Int32} (hS : RS w k D L o t) {i : Nat} (hi : i < k) : F_X11_ownedAlone (nI i) (nI L) o t = some (nI (cn (onl w k D i) 2 (L - 1))) := by
  have h30 := hw.2.2.2.1
  rw [show L - 1 = L + 1 - 2 by omega]
  refine lp_cn (p := onl w k D i) nI 2 (L + 1) (by omega) (by omega) (fun K c n h1 h2 h3 => ?_)
  unfold B_X11_ownedAlone_4
  by_cases q : L < n
  · simp (disch := omega) only [↓m1_d, ↓m2_d, e_m2, e_m2', e_m12, e_m21, liN, e_le, e_lt, e_eqm, e_eq, e_m1, e_m1', e_m1l, e_m1e, e_m1g, e_m1h, e_add, e_mul, e_sub, e_pred, e_rem, ix_nI, nz_nI, nI_clamp, nm_e1, Nat.add_zero, if_true, if_false, Nat.reduceEqDiff, eq_self, reduceIte]
    rw [if_pos q, if_pos (by omega)]
  · have hl := ht_le (L := n) hw
    simp (disch := omega) only [↓m1_d, ↓m2_d, e_m2, e_m2', e_m12, e_m21, liN, e_le, e_lt, e_eqm, e_eq, e_m1, e_m1', e_m1l, e_m1e, e_m1g, e_m1h, e_add, e_mul, e_sub, e_pred, e_rem, ix_nI, nz_nI, nI_clamp, nm_e1, Nat.add_zero, if_true, if_false, Nat.reduceEqDiff, eq_self, reduceIte, (hS n (by omega)).1, (hS n (by omega)).2, own_ow hw hi]
    rw [if_neg q, if_neg (show ¬ L + 1 ≤ n by omega)]
    unfold onl
    by_cases e : own w k D i n = true
    · rw [if_pos e, e, Bool.true_and, own_ht hw hi e]
      by_cases z : cn (fun j => hit n (D j)) (i + 1) (k - (i + 1)) = 0
      · rw [if_pos (by omega), decide_eq_true z, if_pos rfl]
      · rw [if_neg (by omega), decide_eq_false z, if_neg Bool.false_ne_true]
    · rw [if_neg e, Bool.eq_false_iff.mpr e, Bool.false_and, if_neg Bool.false_ne_true]
theorem Q_gives (h : CX w ns R k D P row S) (x e0 : Int32) (o t : Nat → Int32) (th : Int32) :
    ∃ r S' b e' o' th' t', F_X10_gives x P S = some (r, S') ∧ SOK w k D (1 + sm R ns) P S' ∧ F_X11_gives x e0 o row th t = some (b, (e', o', th', t')) ∧ ag 2 r b th' := by
  obtain ⟨hw, hP, hR, hS⟩ := h
  obtain ⟨o', t', hm, hRS⟩ := M_strike hw hR e0 o t
  obtain ⟨S', hc, hv, hk⟩ := L_current hw hP hS
  have hL := hw.last
  unfold F_X10_gives F_X11_gives
  rcases N_striker hw hP hR x with ⟨i, hi, rfl, h1, h2⟩ | ⟨h1, h2⟩
  · rw [h1, h2, Option.bind_some, Option.bind_some, M_lacks, Option.bind_some]
    refine ⟨.inr (nI (cn (onl w k D i) 2 (1 + sm R ns - 1))), S', nI (cn (onl w k D i) 2 (1 + sm R ns - 1)), nI (1 + sm R ns), o', 0, t', ?_, hk, ?_, rfl, rfl⟩
    · rw [Sum.elim_inr, hc, Option.bind_some, L_countGiven hw hP hL hv hi]
      rfl
    · show (F_X11_strike e0 o row t).bind _ = _
      rw [hm, Option.bind_some, M_ownedAlone hw hL (by omega) hRS hi]
      rfl
  · rw [h1, h2, Option.bind_some, Option.bind_some, M_lacks, Option.bind_some]
    exact ⟨.inl 2, S, _, _, _, _, _, rfl, hS, rfl, rfl, rfl⟩
theorem Q_marksNext (h : CX w ns R k D P row S) (x e0 : Int32) (o t : Nat → Int32) (th : Int32) :
    ∃ r b e' o' th' t', F_X10_marksNext x P = some r ∧ F_X11_marksNext x e0 o row th t = some (b, (e', o', th', t')) ∧ ag 1 r b th' := by
  obtain ⟨hw, hP, hR, hS⟩ := h
  have hL := hw.last
  unfold F_X10_marksNext F_X11_marksNext F_X11_isRoom
  rcases N_range (a := 1) (b := 400) (by decide) (by decide) x with ⟨g, hn, h1, h2, rfl, h3, h4⟩ | ⟨h3, h4⟩
  · rw [show F_X10_needInRange (nI g) 1 400 = _ from h3, show F_X11_inRange (nI g) 1 400 = _ from h4, Option.bind_some, Option.bind_some, Option.bind_some, M_lacks, Option.bind_some]
    obtain ⟨o', t', hm, hRS⟩ := M_strikeUpTo hw hR (L := 1 + sm R ns + g) (by omega) e0 o t
    refine ⟨.inr (nI (cn (mk w k D) (1 + sm R ns + 1) g)), nI (cn (mk w k D) (1 + sm R ns + 1) g), nI (1 + sm R ns + g), o', 0, t', ?_, ?_, rfl, rfl⟩
    · rw [Sum.elim_inr]
      unfold F_X3_lastNumber
      rw [hP.2.2.2.1, Option.bind_some]
      simp (disch := omega) only [↓m1_d, ↓m2_d, e_m2, e_m2', e_m12, e_m21, liN, e_le, e_lt, e_eqm, e_eq, e_m1, e_m1', e_m1l, e_m1e, e_m1g, e_m1h, e_add, e_mul, e_sub, e_pred, e_rem, ix_nI, nz_nI, nI_clamp, nm_e1, Nat.add_zero, if_true, if_false, Nat.reduceEqDiff, eq_self, reduceIte]
      refine fx3 (Q := fun u c v m r => u = nI (1 + sm R ns) ∧ ∃ a n, c = nI a ∧ v = nI n ∧ 1 + sm R ns + 1 ≤ n ∧ n ≤ 1 + sm R ns + 1 + g ∧ m = 1 + sm R ns + 1 + g - n ∧ r = some (.inr (nI (a + cn (mk w k D) n (1 + sm R ns + 1 + g - n))))) ?_ FUEL _ _ _ g _ ⟨rfl, 0, 1 + sm R ns + 1, rfl, rfl, Nat.le_refl _, by omega, by omega, by rw [Nat.zero_add, show 1 + sm R ns + 1 + g - (1 + sm R ns + 1) = g by omega]⟩ (by unfold FUEL; omega)
      rintro K _ _ _ _ _ ih ⟨rfl, a, n, rfl, rfl, n1, n2, rfl, rfl⟩
      unfold B_X10_marksNext_23 F_X3_wheelNow
      rw [hP.1, Option.bind_some]
      by_cases q : 1 + sm R ns + g < n
      · simp (disch := omega) only [↓m1_d, ↓m2_d, e_m2, e_m2', e_m12, e_m21, liN, e_le, e_lt, e_eqm, e_eq, e_m1, e_m1', e_m1l, e_m1e, e_m1g, e_m1h, e_add, e_mul, e_sub, e_pred, e_rem, ix_nI, nz_nI, nI_clamp, nm_e1, Nat.add_zero, if_true, if_false, Nat.reduceEqDiff, eq_self, reduceIte]
        rw [if_pos q, show 1 + sm R ns + 1 + g - n = 0 by omega]
        rfl
      · have hn : ∀ a, K (nI (1 + sm R ns)) (nI a) (nI (n + 1)) = some (.inr (nI (a + cn (mk w k D) (n + 1) (1 + sm R ns + 1 + g - (n + 1))))) := fun a =>
          ih _ _ _ (1 + sm R ns + 1 + g - (n + 1)) _ (by omega) ⟨rfl, a, n + 1, rfl, rfl, by omega, by omega, rfl, rfl⟩
        simp (disch := omega) only [↓m1_d, ↓m2_d, e_m2, e_m2', e_m12, e_m21, liN, e_le, e_lt, e_eqm, e_eq, e_m1, e_m1', e_m1l, e_m1e, e_m1g, e_m1h, e_add, e_mul, e_sub, e_pred, e_rem, ix_nI, nz_nI, nI_clamp, nm_e1, Nat.add_zero, if_true, if_false, Nat.reduceEqDiff, eq_self, reduceIte, Option.bind_some, L_isOnSpoke hw.1 (by omega : 1 ≤ n) (by omega : n < 2 ^ 31), L_firstHit hw hP (by omega : n < 2 ^ 31)]
        rw [if_neg q, show 1 + sm R ns + 1 + g - n = (1 + sm R ns + 1 + g - (n + 1)) + 1 by omega, cn_s]
        have em : mk w k D n = (!off w n && (fh k D n).isNone) := rfl
        rw [em]
        cases off w n with
        | true =>
          rw [show (if (!true && (fh k D n).isNone) = true then 1 else 0) = 0 from rfl, Nat.zero_add]
          exact hn a
        | false =>
          cases hf : fh k D n with
          | none =>
            rw [show (if (!false && (none : Option Nat).isNone) = true then 1 else 0) = 1 from rfl, ← Nat.add_assoc]
            exact hn (a + 1)
          | some j =>
            obtain ⟨-, hj, -⟩ := fi_some hf
            have := hw.2.2.2.2.1 j (by omega)
            rw [show (if (!false && (some j : Option Nat).isNone) = true then 1 else 0) = 0 from rfl, Nat.zero_add]
            show (if nI (D j) = m1 then _ else _) = _
            rw [if_neg (show ¬ nI (D j) = m1 from m1_ne (by omega))]
            exact hn a
    · show (F_X11_last row).bind _ = _
      rw [M_last hw hR, Option.bind_some]
      simp (disch := omega) only [↓m1_d, ↓m2_d, e_m2, e_m2', e_m12, e_m21, liN, e_le, e_lt, e_eqm, e_eq, e_m1, e_m1', e_m1l, e_m1e, e_m1g, e_m1h, e_add, e_mul, e_sub, e_pred, e_rem, ix_nI, nz_nI, nI_clamp, nm_e1, Nat.add_zero, if_true, if_false, Nat.reduceEqDiff, eq_self, reduceIte, Option.bind_some]
      rw [hm, Option.bind_some]
      rw [M_marksIn5 hw hR (by omega) hRS (by omega) (by omega) (Nat.le_refl _), mb_cn (Nat.le_refl _) (by omega), show 1 + sm R ns + g + 1 - (1 + sm R ns + 1) = g by omega]
      rfl
  · rw [show F_X10_needInRange x 1 400 = _ from h3, show F_X11_inRange x 1 400 = _ from h4, Option.bind_some, Option.bind_some, Option.bind_some, M_lacks, Option.bind_some]
    exact ⟨.inl 1, 0, e0, o, 1, t, rfl, rfl, rfl, rfl⟩
end
