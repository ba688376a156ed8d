/-! ===== PURE: turn, next, gaps, twins ===== -/
theorem cn_shift {p : Nat → Bool} {x : Nat} : ∀ {n a : Nat}, cn p (a + x) n = cn (fun i => p (i + x)) a n
  | 0, _ => rfl
  | n + 1, a => by
    rw [cn_s, cn_s, show a + x + 1 = (a + 1) + x by omega, cn_shift]
theorem cn_ext {p : Nat → Bool} {a n m : Nat} (h : n ≤ m) (hz : ∀ i, a + n ≤ i → i < a + m → p i = false) : cn p a m = cn p a n := by
  rw [show m = n + (m - n) by omega, cn_add, cn_zero (fun i h1 h2 => hz i h1 (by omega)), Nat.add_zero]
section
variable {w ns k : Nat} {R D : Nat → Nat} {P : PlanT} {row : Nat → Int32} {S : SieveT} {L : Nat}
theorem M_marksInG (hw : WF w ns R k D) (hR : RX w ns R k D row) (hL : L ≤ 4801) {o t : Nat → Int32} (hS : RS w k D L o t) {a b : Nat} (ha2 : a < 2 ^ 31) (hb : b ≤ L) :
    F_X11_marksIn (nI a) (nI b) (nI L) row t = some (nI (mb w k D L a b)) := by
  by_cases c : b < a
  · have := mu_mono (w := w) (k := k) (D := D) (L := L) (a := b) (b := max a 2 - 1) (by omega)
    unfold mb
    rw [show mu w k D L b - mu w k D L (max a 2 - 1) = 0 by omega]
    show B_X11_marksIn_5 (nI a) (nI b) (nI L) row t (fx _ _ 999999) (nI 0) (nI a) = _
    unfold B_X11_marksIn_5
    rw [if_pos (nI_lt c ha2)]
  have key := lp_cn (p := isM w k D L) (bot := fun _ _ => none) (B := B_X11_marksIn_5 (nI a) (nI b) (nI L) row t) nI a (b + 1) (by omega) (by omega) (fun K c i h1 h2 h3 => by
    unfold B_X11_marksIn_5
    by_cases q : b < i
    · simp (disch := omega) only [↓m1_d, ↓m2_d, e_m2, e_m2', e_m12, e_m21, liN, e_le, e_lt, e_eqm, e_eq, e_m1, e_m1', e_m1l, e_m1e, e_m1g, e_m1h, e_add, e_mul, e_sub, e_pred, e_rem, ix_nI, nz_nI, nI_clamp, nm_e1, Nat.add_zero, if_true, if_false, Nat.reduceEqDiff, eq_self, reduceIte]
      rw [if_pos q, if_pos (by omega)]
    · simp (disch := omega) only [↓m1_d, ↓m2_d, e_m2, e_m2', e_m12, e_m21, liN, e_le, e_lt, e_eqm, e_eq, e_m1, e_m1', e_m1l, e_m1e, e_m1g, e_m1h, e_add, e_mul, e_sub, e_pred, e_rem, ix_nI, nz_nI, nI_clamp, nm_e1, Nat.add_zero, if_true, if_false, Nat.reduceEqDiff, eq_self, reduceIte, Option.bind_some, M_isMark hw hR hL hS (by omega : i < 2 ^ 31)]
      rw [if_neg q, if_neg (show ¬ b + 1 ≤ i by omega)])
  refine Eq.trans key ?_
  congr 2
  by_cases d : 2 ≤ a
  · rw [mb_cn hb d]
    refine cn_cong (fun i h1 h2 => ?_)
    unfold isM
    rw [decide_eq_true (by omega : 2 ≤ i ∧ i ≤ L), Bool.true_and]
  · have e : mb w k D L a b = mb w k D L 2 b := by
      unfold mb
      rw [show max a 2 = max 2 2 by omega]
    rw [e, mb_cn hb (Nat.le_refl _)]
    have z : ∀ i, i < 2 → isM w k D L i = false := fun i hi => by
      unfold isM
      rw [decide_eq_false (by omega), Bool.false_and]
    by_cases g : b < 2
    · rw [cn_zero (fun i h1 h2 => z i (by omega)), show b + 1 - 2 = 0 by omega]
      rfl
    · rw [show b + 1 - a = (2 - a) + (b + 1 - 2) by omega, cn_add, cn_zero (fun i h1 h2 => z i (by omega)), Nat.zero_add, show a + (2 - a) = 2 by omega]
      refine cn_cong (fun i h1 h2 => ?_)
      unfold isM
      rw [decide_eq_true (by omega : 2 ≤ i ∧ i ≤ L), Bool.true_and]
theorem Q_turn (h : CX w ns R k D P row S) (x e0 : Int32) (o t : Nat → Int32) (th : Int32) :
    ∃ r S' b e' o' th' t', F_X10_turn x P S = some (r, S') ∧ SOK w k D (1 + sm R ns) P S' ∧ F_X11_turn x e0 o row th t = some (b, (e', o', th', t')) ∧ ag 1 r b th' := by
  obtain ⟨hw, hP, hR, hS⟩ := h
  obtain ⟨o', t', hm, hRS⟩ := M_strike hw hR e0 o t
  obtain ⟨S', hc, hv, hk⟩ := L_current hw hP hS
  have hL := hw.last
  have hwp := wp_rng (k := w) (by have := hw.1; omega)
  unfold F_X10_turn F_X11_turn
  rcases N_range (a := 0) (b := 5000) (by decide) (by decide) x with ⟨n, hn, h1, h2, rfl, h3, h4⟩ | ⟨h3, h4⟩
  · rw [show F_X10_needInRange (nI n) 0 5000 = _ from h3, show F_X11_inRange (nI n) 0 5000 = _ from h4, Option.bind_some, Option.bind_some, M_lacks, Option.bind_some]
    have hp : wp w * n ≤ 210 * 5000 := Nat.mul_le_mul (by omega) h2
    have hp2 : wp w * (n + 1) = wp w * n + wp w := by rw [Nat.mul_add, Nat.mul_one]
    refine ⟨.inr (nI (mb w k D (1 + sm R ns) (wp w * n + 1) (wp w * (n + 1)))), S', nI (mb w k D (1 + sm R ns) (wp w * n + 1) (wp w * (n + 1))), nI (1 + sm R ns), o', 0, t', ?_, hk, ?_, rfl, rfl⟩
    · rw [Sum.elim_inr]
      unfold F_X3_wheelNow
      rw [hP.1, Option.bind_some, L_product hw.1, Option.bind_some, hc, Option.bind_some]
      simp (disch := omega) only [↓m1_d, ↓m2_d, e_m2, e_m2', e_m12, e_m21, liN, e_le, e_lt, e_eqm, e_eq, e_m1, e_m1', e_m1l, e_m1e, e_m1g, e_m1h, e_add, e_mul, e_sub, e_pred, e_rem, ix_nI, nz_nI, nI_clamp, nm_e1, Nat.add_zero, if_true, if_false, Nat.reduceEqDiff, eq_self, reduceIte]
      rw [L_marksBetween hL hv (by omega) (by omega)]
      rfl
    · show (F_X11_strike e0 o row t).bind _ = _
      rw [hm, Option.bind_some]
      simp (disch := omega) only [↓m1_d, ↓m2_d, e_m2, e_m2', e_m12, e_m21, liN, e_le, e_lt, e_eqm, e_eq, e_m1, e_m1', e_m1l, e_m1e, e_m1g, e_m1h, e_add, e_mul, e_sub, e_pred, e_rem, ix_nI, nz_nI, nI_clamp, nm_e1, Nat.add_zero, if_true, if_false, Nat.reduceEqDiff, eq_self, reduceIte, Option.bind_some, M_product hw hR]
      by_cases c : 1 + sm R ns ≤ wp w * (n + 1)
      · rw [if_pos c, M_marksInG hw hR hL hRS (by omega) (Nat.le_refl _)]
        unfold mb mu
        rw [show min (wp w * (n + 1)) (1 + sm R ns) = min (1 + sm R ns) (1 + sm R ns) by omega]
        rfl
      · rw [if_neg c, M_marksInG hw hR hL hRS (by omega) (by omega)]
        rfl
  · rw [show F_X10_needInRange x 0 5000 = _ from h3, show F_X11_inRange x 0 5000 = _ from h4, Option.bind_some, Option.bind_some, M_lacks, Option.bind_some]
    exact ⟨_, _, _, _, _, _, _, rfl, hS, rfl, rfl, rfl⟩
theorem Q_next (h : CX w ns R k D P row S) (x e0 : Int32) (f : Bool) (o t : Nat → Int32) (th : Int32) :
    ∃ v S' e' o' th' t', F_X10_next x f P S = some (v, S') ∧ SOK w k D (1 + sm R ns) P S' ∧ F_X11_next x f e0 o row th t = some (v, (e', o', th', t')) := by
  obtain ⟨hw, hP, hR, hS⟩ := h
  obtain ⟨o', t', hm, hRS⟩ := M_strike hw hR e0 o t
  obtain ⟨S', hc, hv, hk⟩ := L_current hw hP hS
  have hL := hw.last
  unfold F_X10_next F_X11_next
  rw [hc, hm, Option.bind_some, Option.bind_some, Option.bind_some]
  have hL1 : 1 ≤ 1 + sm R ns := by omega
  generalize 1 + sm R ns = L at *
  cases f with
  | true =>
    rw [if_pos rfl, if_pos rfl]
    rcases i_cases x with hx | ⟨n, hn, rfl⟩
    · have e : F_X7_markBelow x S' = some m1 := by
        unfold F_X7_markBelow
        rw [hv.1, show (if nI L + 1 < x then nI L + 1 else x) = x from if_neg (show ¬ nI L + nI 1 < x by rw [e_add]; exact neg_nlt hx (by omega))]
        show B_X7_markBelow_11 x S' (fx _ _ 999999) x = _
        unfold B_X7_markBelow_11
        rw [if_pos (show x ≤ 2 from neg_le hx (k := 2) (by decide))]
        rfl
      rw [e]
      refine ⟨m1, S', nI L, o', 0, t', rfl, hk, ?_⟩
      rw [if_neg (show ¬ 2 < x from neg_nlt hx (k := 2) (by decide))]
      rfl
    · have e : F_X7_markBelow (nI n) S' = some (oI (fb (mk w k D) 2 (min n (L + 1) - 2))) := by
        by_cases c : n ≤ L + 1
        · rw [L_markBelow hw hL hL1 hv c, show min n (L + 1) = n by omega]
        · have : F_X7_markBelow (nI n) S' = F_X7_markBelow (nI (L + 1)) S' := by
            have run : ∀ y z : Int32, fx (fun _ => none) (B_X7_markBelow_11 y S') FUEL z = fx (fun _ => none) (B_X7_markBelow_11 z S') FUEL z := fun _ _ => rfl
            unfold F_X7_markBelow
            rw [hv.1]
            simp (disch := omega) only [↓m1_d, ↓m2_d, e_m2, e_m2', e_m12, e_m21, liN, e_le, e_lt, e_eqm, e_eq, e_m1, e_m1', e_m1l, e_m1e, e_m1g, e_m1h, e_add, e_mul, e_sub, e_pred, e_rem, ix_nI, nz_nI, nI_clamp, nm_e1, Nat.add_zero, if_true, if_false, Nat.reduceEqDiff, eq_self, reduceIte]
            rw [if_pos (by omega), if_neg (by omega)]
            exact run _ _
          rw [this, L_markBelow hw hL hL1 hv (Nat.le_refl _), show min n (L + 1) = L + 1 by omega]
      rw [e]
      refine ⟨_, S', nI L, o', 0, t', rfl, hk, ?_⟩
      simp (disch := omega) only [↓m1_d, ↓m2_d, e_m2, e_m2', e_m12, e_m21, liN, e_le, e_lt, e_eqm, e_eq, e_m1, e_m1', e_m1l, e_m1e, e_m1g, e_m1h, e_add, e_mul, e_sub, e_pred, e_rem, ix_nI, nz_nI, nI_clamp, nm_e1, Nat.add_zero, if_true, if_false, Nat.reduceEqDiff, eq_self, reduceIte]
      by_cases c : 2 < n
      · rw [if_pos c]
        by_cases d : n ≤ L
        · rw [if_pos d, M_lastMark hw hR hL hRS (by omega) (by omega) (by omega) (by omega), show n - 1 + 1 - 2 = min n (L + 1) - 2 by omega]
          rfl
        · rw [if_neg d, M_lastMark hw hR hL hRS (by omega) (by omega) (Nat.le_refl _) hL1, show L + 1 - 2 = min n (L + 1) - 2 by omega]
          rfl
      · rw [if_neg c, show min n (L + 1) - 2 = 0 by omega]
        rfl
  | false =>
    rw [if_neg Bool.false_ne_true, if_neg Bool.false_ne_true]
    by_cases c : x < 2
    · have e : F_X7_markAbove x S' = some (oI (fi (mk w k D) 2 (L - 1))) := by
        rw [← L_markAbove hw hL hL1 hv (Nat.le_refl 1) (by decide)]
        unfold F_X7_markAbove
        have : (if x < 1 then (1 : Int32) else x) = nI 1 := by
          by_cases d : x < 1
          · rw [if_pos d]; rfl
          · rw [if_neg d]
            rcases i_cases x with hx | ⟨n, hn, rfl⟩
            · exact absurd (show x < 1 from neg_lt hx (k := 1) (by decide)) d
            · rw [show (2 : Int32) = nI 2 from rfl, e_lt hn (by decide)] at c
              rw [show (1 : Int32) = nI 1 from rfl, e_lt hn (by decide)] at d
              rw [show n = 1 by omega]
        rw [this]
        rfl
      rw [e]
      refine ⟨_, S', nI L, o', 0, t', rfl, hk, ?_⟩
      rw [if_neg (show ¬ 2 ≤ x from Int32.not_le.mpr c)]
      show (if x < nI L then (F_X11_firstMark 2 (nI L) (nI L) row t').bind _ else _) = _
      by_cases d : x < nI L
      · rw [if_pos d, show (2 : Int32) = nI 2 from rfl, M_first hw hR hL hRS (Nat.le_refl _) (Nat.le_refl _) (by omega), show L + 1 - 2 = L - 1 by omega]
        rfl
      · rw [if_neg d]
        rcases i_cases x with hx | ⟨n, hn, rfl⟩
        · exact absurd (neg_lt hx (by omega)) d
        · rw [show (2 : Int32) = nI 2 from rfl, e_lt hn (by decide)] at c
          rw [e_lt hn (by omega)] at d
          rw [show L - 1 = 0 by omega]
          rfl
    · rcases i_cases x with hx | ⟨n, hn, rfl⟩
      · exact absurd (show x < 2 from neg_lt hx (k := 2) (by decide)) c
      · rw [show (2 : Int32) = nI 2 from rfl, e_lt hn (by decide)] at c
        rw [L_markAbove hw hL hL1 hv (by omega) hn]
        refine ⟨_, S', nI L, o', 0, t', rfl, hk, ?_⟩
        simp (disch := omega) only [↓m1_d, ↓m2_d, e_m2, e_m2', e_m12, e_m21, liN, e_le, e_lt, e_eqm, e_eq, e_m1, e_m1', e_m1l, e_m1e, e_m1g, e_m1h, e_add, e_mul, e_sub, e_pred, e_rem, ix_nI, nz_nI, nI_clamp, nm_e1, Nat.add_zero, if_true, if_false, Nat.reduceEqDiff, eq_self, reduceIte]
        by_cases d : n < L
        · rw [if_pos d, if_pos (by omega), M_first hw hR hL hRS (by omega) (Nat.le_refl _) (by omega), show L + 1 - (n + 1) = L - n by omega]
          rfl
        · rw [if_neg d, show L - n = 0 by omega]
          rfl
/-! twins -/
theorem isM_hi {n : Nat} (h : L < n) : isM w k D L n = false := by
  unfold isM
  rw [decide_eq_false (by omega), Bool.false_and]
theorem Q_twins (h : CX w ns R k D P row S) (x e0 : Int32) (o t : Nat → Int32) (th : Int32) :
    ∃ r S' b e' o' th' t', F_X10_twins x P S = some (r, S') ∧ SOK w k D (1 + sm R ns) P S' ∧ F_X11_twins x e0 o row th t = some (b, (e', o', th', t')) ∧ ag 1 r b th' := by
  obtain ⟨hw, hP, hR, hS⟩ := h
  obtain ⟨o', t', hm, hRS⟩ := M_strike hw hR e0 o t
  obtain ⟨S', hc, hv, hk⟩ := L_current hw hP hS
  have hL := hw.last
  unfold F_X10_twins F_X11_twins F_X11_isGap
  rcases N_range (a := 1) (b := 400) (by decide) (by decide) x with ⟨g, hn, h1, h2, rfl, h3, h4⟩ | ⟨h3, h4⟩
  · rw [show F_X10_needInRange (nI g) 1 400 = _ from h3, show F_X11_inRange (nI g) 1 400 = _ from h4, Option.bind_some, Option.bind_some, Option.bind_some, M_lacks, Option.bind_some]
    generalize hLL : 1 + sm R ns = L at *
    refine ⟨.inr (nI (cn (fun i => isM w k D L i && isM w k D L (i + g)) 2 (max 2 (L + 1 - g) - 2))), S', nI (cn (fun i => isM w k D L i && isM w k D L (i + g)) 2 (max 2 (L + 1 - g) - 2)), nI L, o', 0, t', ?_, hk, ?_, rfl, rfl⟩
    · show (F_X10_current P S).bind _ = _
      rw [hc, Option.bind_some]
      refine lp_cn_t (p := fun i => isM w k D L i && isM w k D L (i + g)) (fun c => ((.inr (nI c) : Nat ⊕ Int32), S')) 2 (max 2 (L + 1 - g)) (by omega) (by omega) (fun K c i i1 i2 i3 => ?_)
      unfold B_X10_twins_18 F_X7_lastNumber
      rw [hv.1, Option.bind_some]
      simp (disch := omega) only [↓m1_d, ↓m2_d, e_m2, e_m2', e_m12, e_m21, liN, e_le, e_lt, e_eqm, e_eq, e_m1, e_m1', e_m1l, e_m1e, e_m1g, e_m1h, e_add, e_mul, e_sub, e_pred, e_rem, ix_nI, nz_nI, nI_clamp, nm_e1, Nat.add_zero, if_true, if_false, Nat.reduceEqDiff, eq_self, reduceIte, Option.bind_some, L_isMark hw hL hv (by omega : i < 2 ^ 31), L_isMark hw hL hv (by omega : i + g < 2 ^ 31)]
      by_cases q : L < i + g
      · rw [if_pos q, if_pos (by omega)]
      · rw [if_neg q, if_neg (show ¬ max 2 (L + 1 - g) ≤ i by omega)]
        cases isM w k D L i <;> cases isM w k D L (i + g) <;> rfl
    · show (F_X11_strike e0 o row t).bind _ = _
      rw [hm, Option.bind_some]
      have e : cn (fun i => isM w k D L i && isM w k D L (i + g)) 2 (max 2 (L + 1 - g) - 2) = cn (fun i => isM w k D L i && isM w k D L (i + g)) 2 (max 2 (L + 1) - 2) :=
        (cn_ext (by omega) (fun i i1 i2 => by rw [isM_hi (by omega : L < i + g), Bool.and_false])).symm
      rw [e]
      refine fx6 (Q := fun u v e oo t1 tt m r => e = nI L ∧ o' = oo ∧ t1 = 0 ∧ t' = tt ∧ ∃ c i, u = nI c ∧ v = nI i ∧ 2 ≤ i ∧ i ≤ max 2 (L + 1) ∧ m = max 2 (L + 1) - i ∧ r = some (nI (c + cn (fun i => isM w k D L i && isM w k D L (i + g)) i (max 2 (L + 1) - i)), (nI L, o', 0, t')))
        ?_ FUEL _ _ _ _ _ _ (max 2 (L + 1) - 2) _ ⟨rfl, rfl, rfl, rfl, 0, 2, rfl, rfl, by omega, by omega, rfl, by rw [Nat.zero_add]⟩ (by unfold FUEL; omega)
      rintro K _ _ _ _ _ _ _ _ ih ⟨rfl, rfl, rfl, rfl, c, i, rfl, rfl, i1, i2, rfl, rfl⟩
      unfold B_X11_twins_21
      by_cases q : L < i
      · simp (disch := omega) only [↓m1_d, ↓m2_d, e_m2, e_m2', e_m12, e_m21, liN, e_le, e_lt, e_eqm, e_eq, e_m1, e_m1', e_m1l, e_m1e, e_m1g, e_m1h, e_add, e_mul, e_sub, e_pred, e_rem, ix_nI, nz_nI, nI_clamp, nm_e1, Nat.add_zero, if_true, if_false, Nat.reduceEqDiff, eq_self, reduceIte]
        rw [if_pos q, show max 2 (L + 1) - i = 0 by omega]
        rfl
      · simp (disch := omega) only [↓m1_d, ↓m2_d, e_m2, e_m2', e_m12, e_m21, liN, e_le, e_lt, e_eqm, e_eq, e_m1, e_m1', e_m1l, e_m1e, e_m1g, e_m1h, e_add, e_mul, e_sub, e_pred, e_rem, ix_nI, nz_nI, nI_clamp, nm_e1, Nat.add_zero, if_true, if_false, Nat.reduceEqDiff, eq_self, reduceIte, Option.bind_some, M_isMark hw hR hL hRS (by omega : i < 2 ^ 31), M_isMark hw hR hL hRS (by omega : i + g < 2 ^ 31)]
        rw [if_neg q, show max 2 (L + 1) - i = (max 2 (L + 1) - (i + 1)) + 1 by omega, cn_s]
        by_cases e1 : (isM w k D L i && isM w k D L (i + g)) = true
        · rw [if_pos e1, ← Nat.add_assoc]
          have : isM w k D L i = true ∧ isM w k D L (i + g) = true := by simpa using e1
          rw [if_pos this.1, if_pos this.2]
          exact ih _ _ _ _ _ _ (max 2 (L + 1) - (i + 1)) _ (by omega) ⟨rfl, rfl, rfl, rfl, c + 1, i + 1, rfl, rfl, by omega, by omega, rfl, rfl⟩
        · rw [if_neg e1, Nat.zero_add]
          have hn := ih (nI c) (nI (i + 1)) _ _ _ _ (max 2 (L + 1) - (i + 1)) _ (by omega) ⟨rfl, rfl, rfl, rfl, c, i + 1, rfl, rfl, by omega, by omega, rfl, rfl⟩
          by_cases y : isM w k D L i = true
          · have y2 : ¬ isM w k D L (i + g) = true := fun z => e1 (by rw [y, z]; rfl)
            rw [if_pos y, if_neg y2]
            exact hn
          · rw [if_neg y]
            exact hn
  · rw [show F_X10_needInRange x 1 400 = _ from h3, show F_X11_inRange x 1 400 = _ from h4, Option.bind_some, Option.bind_some, Option.bind_some, M_lacks, Option.bind_some]
    exact ⟨_, _, _, _, _, _, _, rfl, hS, rfl, rfl, rfl⟩
end
