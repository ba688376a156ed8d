/-! ===== PURE: find, at, cause, struck, upTo, between ===== -/
section
variable {w ns k : Nat} {R D : Nat → Nat} {P : PlanT} {row : Nat → Int32} {S : SieveT} {L : Nat}
theorem Q_find (h : CX w ns R k D P row S) (x th : Int32) : ∃ v, F_X10_find x P = some v ∧ F_X11_find x row th = some (v, 0) := by
  obtain ⟨hw, hP, hR, hS⟩ := h
  unfold F_X10_find F_X11_find
  rcases i_cases x with hx | ⟨n, hn, rfl⟩
  · rw [L_placeOf_neg hw hP hx, M_placeOf_neg hw hR hx]
    exact ⟨_, rfl, rfl⟩
  · rw [L_placeOf hw hP hn, M_placeOf hw hR hn]
    exact ⟨_, rfl, rfl⟩
theorem M_isLaid (hw : WF w ns R k D) (hR : RX w ns R k D row) {n : Nat} (hn : n < 2 ^ 31) : F_X11_isLaid (nI n) row = some (decide (2 ≤ n ∧ n ≤ 1 + sm R ns)) := by
  have hL := hw.last
  unfold F_X11_isLaid
  rw [M_last hw hR, Option.bind_some, show (2 : Int32) = nI 2 from rfl, M_inRange hn (by decide) (by omega)]
  rfl
theorem M_isLaid_neg (hw : WF w ns R k D) (hR : RX w ns R k D row) {x : Int32} (hx : x < 0) : F_X11_isLaid x row = some false := by
  unfold F_X11_isLaid
  rw [M_last hw hR, Option.bind_some, show (2 : Int32) = nI 2 from rfl, M_inRange_neg (by decide) hx]
  rfl
theorem ht_0 (ho : off w L = false) (hf : fh k D L = none) : ht w k D L = 0 := by
  unfold ht
  rw [if_neg (by rw [ho]; decide)]
  exact cn_zero (fi_none.mp hf)
theorem ht_pos {j : Nat} (ho : off w L = false) (hf : fh k D L = some j) : 0 < ht w k D L := by
  have e := mk_eq (w := w) (k := k) (D := D) (L := L)
  unfold mk at e
  rw [ho, hf] at e
  have : ¬ ht w k D L = 0 := by
    intro q
    rw [q] at e
    cases e
  omega
theorem ht_le (hw : WF w ns R k D) : ht w k D L ≤ 30 := by
  have h30 := hw.2.2.2.1
  unfold ht
  split
  · omega
  · exact Nat.le_trans (cn_le _ _ _) h30
/-- the kinds: 3 not laid, 1 off, 0 a mark, 2 struck -/
theorem kinds (hw : WF w ns R k D) (hR : RX w ns R k D row) {o t : Nat → Int32} (hRS : RS w k D (1 + sm R ns) o t) (hv : SV w k D (1 + sm R ns) S) (x : Int32) :
    (F_X7_ownerOf x S = some m2 ∧ F_X11_kindOf x row t = some 3 ∧ F_X11_isLaid x row = some false) ∨
    ∃ n, x = nI n ∧ 2 ≤ n ∧ n ≤ 1 + sm R ns ∧ F_X7_ownerOf x S = some (oz w k D n) ∧ F_X11_isLaid x row = some true ∧
      ((off w n = true ∧ oz w k D n = m1 ∧ F_X11_kindOf x row t = some 1) ∨
       (off w n = false ∧ fh k D n = none ∧ oz w k D n = nI 0 ∧ F_X11_kindOf x row t = some 0) ∨
       (∃ j, j < k ∧ off w n = false ∧ fh k D n = some j ∧ oz w k D n = nI (D j) ∧ F_X11_kindOf x row t = some 2)) := by
  have hL := hw.last
  unfold F_X11_kindOf
  rcases i_cases x with hx | ⟨n, hn, rfl⟩
  · refine Or.inl ⟨L_ownerOf_neg hx, ?_, M_isLaid_neg hw hR hx⟩
    rw [M_isLaid_neg hw hR hx]
    rfl
  · rw [L_ownerOf hL hv hn, M_isLaid hw hR hn]
    by_cases c : 2 ≤ n ∧ n ≤ 1 + sm R ns
    · refine Or.inr ⟨n, rfl, c.1, c.2, by rw [if_pos c], by rw [decide_eq_true c], ?_⟩
      rw [decide_eq_true c, Option.bind_some, M_isOnSpoke hw hR (by omega) hn]
      have h30 := ht_le (L := n) hw
      cases ho : off w n with
      | true =>
        refine Or.inl ⟨rfl, ?_, rfl⟩
        unfold oz
        rw [if_pos ho]
      | false =>
        refine Or.inr ?_
        have hz : oz w k D n = oD D (fh k D n) := by
          unfold oz
          rw [if_neg (by rw [ho]; decide)]
        show _ ∨ _
        have e : ix (nI n) 5300 (if t (nI n).toNatClampNeg ≤ 0 then some (0 : Int32) else some 2) = (if ht w k D n ≤ 0 then some 0 else some 2) := by
          simp (disch := omega) only [↓m1_d, ↓m2_d, e_m2, e_m2', e_m12, e_m21, liN, e_le, e_lt, e_eqm, e_eq, e_m1, e_m1', e_m1l, e_m1e, e_m1g, e_m1h, e_add, e_mul, e_sub, e_pred, e_rem, ix_nI, nz_nI, nI_clamp, nm_e1, Nat.add_zero, if_true, if_false, Nat.reduceEqDiff, eq_self, reduceIte, (hRS n c.2).2]
        cases hf : fh k D n with
        | none =>
          refine Or.inl ⟨rfl, rfl, by rw [hz, hf]; rfl, ?_⟩
          show ix (nI n) 5300 _ = _
          rw [e, if_pos (by rw [ht_0 ho hf]; exact Nat.le_refl _)]
        | some j =>
          obtain ⟨-, hj, -⟩ := fi_some hf
          refine Or.inr ⟨j, by omega, rfl, rfl, by rw [hz, hf]; rfl, ?_⟩
          have := ht_pos ho hf
          show ix (nI n) 5300 _ = _
          rw [e, if_neg (by omega)]
    · refine Or.inl ⟨by rw [if_neg c], ?_, by rw [decide_eq_false c]⟩
      rw [decide_eq_false c]
      rfl
theorem Q_at (h : CX w ns R k D P row S) (x e0 : Int32) (o t : Nat → Int32) (th : Int32) :
    ∃ v S' e' o' th' t', F_X10_at x P S = some (v, S') ∧ SOK w k D (1 + sm R ns) P S' ∧ F_X11_at x e0 o row th t = some (v, (e', o', th', t')) := by
  obtain ⟨hw, hP, hR, hS⟩ := h
  obtain ⟨o', t', hm, hRS⟩ := M_strike hw hR e0 o t
  obtain ⟨S', hc, hv, hk⟩ := L_current hw hP hS
  unfold F_X10_at F_X11_at
  rw [hc, hm, Option.bind_some, Option.bind_some]
  rcases kinds hw hR hRS hv x with ⟨h1, h2, -⟩ | ⟨n, rfl, n2, nL, h1, -, ⟨a, b, c⟩ | ⟨a, b, c, d⟩ | ⟨j, hj, a, b, c, d⟩⟩
  · rw [h1, h2]
    exact ⟨3, S', _, _, _, _, rfl, hk, rfl⟩
  · rw [h1, b, c]
    exact ⟨1, S', _, _, _, _, rfl, hk, rfl⟩
  · rw [h1, c, d]
    exact ⟨0, S', _, _, _, _, rfl, hk, rfl⟩
  · rw [h1, c, d]
    have hd := hw.2.2.2.2.1 j hj
    refine ⟨2, S', nI (1 + sm R ns), o', 0, t', ?_, hk, rfl⟩
    rw [Option.bind_some]
    simp (disch := omega) only [↓m1_d, ↓m2_d, e_m2, e_m2', e_m12, e_m21, liN, e_le, e_lt, e_eqm, e_eq, e_m1, e_m1', e_m1l, e_m1e, e_m1g, e_m1h, e_add, e_mul, e_sub, e_pred, e_rem, ix_nI, nz_nI, nI_clamp, nm_e1, Nat.add_zero, if_true, if_false, Nat.reduceEqDiff, eq_self, reduceIte]
    rw [if_neg (by omega)]
    try rfl
theorem sp_wo (h4 : w ≤ 4) {n : Nat} (h1 : 1 ≤ n) (ho : off w n = true) : sp w n = wo w n := by
  cases hs : sp w n with
  | none =>
    rw [off_wo] at ho
    cases hw : wo w n with
    | none => rfl
    | some j =>
      obtain ⟨-, hj, hd, -⟩ := fi_some hw
      have := fi_none.mp hs j (by omega) hj
      simp only [Bool.and_eq_true, decide_eq_true_eq] at hd
      rw [decide_eq_true hd.2] at this
      cases this
  | some j =>
    obtain ⟨-, hj, hd, hf⟩ := fi_some hs
    have hq := wq_rng (k := j) (by omega)
    have hd : n % wq j = 0 := by simpa using hd
    have h2 : 2 * wq j ≤ n := by
      obtain ⟨t, ht⟩ := Nat.dvd_of_mod_eq_zero hd
      match t, ht with
      | 0, ht => omega
      | 1, ht =>
        exfalso
        have e : n = wq j := by omega
        obtain ⟨i, -, i2, i3⟩ := fi_isSome.mp ho
        have := wq_ne i (by omega) j (by omega)
        rw [← e] at this
        simp only [Bool.and_eq_true, decide_eq_true_eq] at i3
        exact this i3
      | t + 2, ht =>
        rw [ht, Nat.mul_add]
        omega
    symm
    refine fi_eq (by omega) hj (by rw [decide_eq_true h2, decide_eq_true hd]; rfl) (fun i i1 i2 => ?_)
    have := hf i i1 i2
    rw [this, Bool.and_false]
theorem Q_cause (h : CX w ns R k D P row S) (x e0 : Int32) (o t : Nat → Int32) (th : Int32) :
    ∃ v S' e' o' th' t', F_X10_cause x P S = some (v, S') ∧ SOK w k D (1 + sm R ns) P S' ∧ F_X11_cause x e0 o row th t = some (v, (e', o', th', t')) := by
  obtain ⟨hw, hP, hR, hS⟩ := h
  obtain ⟨o', t', hm, hRS⟩ := M_strike hw hR e0 o t
  obtain ⟨S', hc, hv, hk⟩ := L_current hw hP hS
  have hL := hw.last
  unfold F_X10_cause F_X11_cause
  rw [hc, hm, Option.bind_some, Option.bind_some]
  rcases kinds hw hR hRS hv x with ⟨h1, h2, -⟩ | ⟨n, rfl, n2, nL, h1, -, ⟨a, b, c⟩ | ⟨a, b, c, d⟩ | ⟨j, hj, a, b, c, d⟩⟩
  · rw [h1, h2]
    refine ⟨nI (1 + sm R ns), S', nI (1 + sm R ns), o', 0, t', ?_, hk, rfl⟩
    simp (disch := omega) only [↓m1_d, ↓m2_d, e_m2, e_m2', e_m12, e_m21, liN, e_le, e_lt, e_eqm, e_eq, e_m1, e_m1', e_m1l, e_m1e, e_m1g, e_m1h, e_add, e_mul, e_sub, e_pred, e_rem, ix_nI, nz_nI, nI_clamp, nm_e1, Nat.add_zero, if_true, if_false, Nat.reduceEqDiff, eq_self, reduceIte, Option.bind_some]
    unfold F_X3_lastNumber
    rw [hP.2.2.2.1]
    rfl
  · rw [h1, b, c]
    have hn : n < 2 ^ 31 := by omega
    refine ⟨oq0 (wo w n), S', nI (1 + sm R ns), o', 0, t', ?_, hk, ?_⟩
    · simp (disch := omega) only [↓m1_d, ↓m2_d, e_m2, e_m2', e_m12, e_m21, liN, e_le, e_lt, e_eqm, e_eq, e_m1, e_m1', e_m1l, e_m1e, e_m1g, e_m1h, e_add, e_mul, e_sub, e_pred, e_rem, ix_nI, nz_nI, nI_clamp, nm_e1, Nat.add_zero, if_true, if_false, Nat.reduceEqDiff, eq_self, reduceIte, Option.bind_some]
      unfold F_X3_wheelNow
      rw [hP.1, Option.bind_some, L_smallestPrimeOf hw.1 hn, sp_wo hw.1 (by omega) a]
      rw [off_wo] at a
      cases hz : wo w n with
      | none => rw [hz] at a; cases a
      | some i => rfl
    · show (F_X11_wheelPrimeOf (nI n) row).bind _ = _
      rw [M_wheelPrimeOf hw hR (by omega) hn]
      rfl
  · rw [h1, c, d]
    exact ⟨0, S', _, _, _, _, rfl, hk, rfl⟩
  · rw [h1, c, d]
    have hd := hw.2.2.2.2.1 j hj
    have h30 := hw.2.2.2.1
    refine ⟨nI (D j), S', nI (1 + sm R ns), o', 0, t', ?_, hk, ?_⟩
    · rw [Option.bind_some]
      simp (disch := omega) only [↓m1_d, ↓m2_d, e_m2, e_m2', e_m12, e_m21, liN, e_le, e_lt, e_eqm, e_eq, e_m1, e_m1', e_m1l, e_m1e, e_m1g, e_m1h, e_add, e_mul, e_sub, e_pred, e_rem, ix_nI, nz_nI, nI_clamp, nm_e1, Nat.add_zero, if_true, if_false, Nat.reduceEqDiff, eq_self, reduceIte]
      rw [if_neg (by omega)]
    · show ix (nI n) 5300 (ix (15 + o' (nI n).toNatClampNeg) 45 _) = _
      have eo : o' n = nI j := by
        rw [(hRS n nL).1]
        unfold ow
        rw [if_neg (by rw [a]; decide), b]
        rfl
      simp (disch := omega) only [↓m1_d, ↓m2_d, e_m2, e_m2', e_m12, e_m21, liN, e_le, e_lt, e_eqm, e_eq, e_m1, e_m1', e_m1l, e_m1e, e_m1g, e_m1h, e_add, e_mul, e_sub, e_pred, e_rem, ix_nI, nz_nI, nI_clamp, nm_e1, Nat.add_zero, if_true, if_false, Nat.reduceEqDiff, eq_self, reduceIte, eo, hR.2.2.2.2 j hj]
theorem L_countHits (hw : WF w ns R k D) (hP : PX w ns R k D P) {n a b : Nat} (hn : n < 2 ^ 31) (ha : a ≤ k) (hab : a ≤ b) (hb : b < 2 ^ 31) : F_X3_countHits (nI n) (nI a) (nI b) P = some (nI (cn (fun j => hit n (D j)) a (min b k - a))) := by
  have h30 := hw.2.2.2.1
  unfold F_X3_countHits
  simp (disch := omega) only [↓m1_d, ↓m2_d, e_m2, e_m2', e_m12, e_m21, liN, e_le, e_lt, e_eqm, e_eq, e_m1, e_m1', e_m1l, e_m1e, e_m1g, e_m1h, e_add, e_mul, e_sub, e_pred, e_rem, ix_nI, nz_nI, nI_clamp, nm_e1, Nat.add_zero, if_true, if_false, Nat.reduceEqDiff, eq_self, reduceIte]
  rw [if_neg (by omega)]
  refine lp_cn (p := fun j => hit n (D j)) nI a (min b k) (by omega) (by omega) (fun K c i h1 h2 h3 => ?_)
  unfold B_X3_countHits_10
  rw [hP.2.2.2.2.1]
  by_cases q : min b k ≤ i
  · simp (disch := omega) only [↓m1_d, ↓m2_d, e_m2, e_m2', e_m12, e_m21, liN, e_le, e_lt, e_eqm, e_eq, e_m1, e_m1', e_m1l, e_m1e, e_m1g, e_m1h, e_add, e_mul, e_sub, e_pred, e_rem, ix_nI, nz_nI, nI_clamp, nm_e1, Nat.add_zero, if_true, if_false, Nat.reduceEqDiff, eq_self, reduceIte]
    by_cases q2 : b ≤ i
    · rw [if_pos q2, if_pos q]
    · rw [if_neg q2, if_pos (by omega), if_pos q]
  · have hd := hw.2.2.2.2.1 i (by omega)
    have hdd : D i * D i ≤ 120 * 120 := Nat.mul_le_mul hd.2 hd.2
    simp (disch := omega) only [↓m1_d, ↓m2_d, e_m2, e_m2', e_m12, e_m21, liN, e_le, e_lt, e_eqm, e_eq, e_m1, e_m1', e_m1l, e_m1e, e_m1g, e_m1h, e_add, e_mul, e_sub, e_pred, e_rem, ix_nI, nz_nI, nI_clamp, nm_e1, Nat.add_zero, if_true, if_false, Nat.reduceEqDiff, eq_self, reduceIte, hP.2.2.2.2.2 i (by omega)]
    rw [if_neg (by omega), if_neg (by omega), if_neg (by omega), if_neg (by omega), if_neg q]
    unfold hit
    simp only [Bool.and_eq_true, decide_eq_true_eq]
    by_cases z : n < D i * D i
    · rw [if_pos z, if_neg (by omega)]
    · rw [if_neg z]
      by_cases y : n % D i = 0
      · rw [if_pos y, if_pos ⟨by omega, y⟩]
      · rw [if_neg y, if_neg (fun u => y u.2)]
theorem Q_struck (h : CX w ns R k D P row S) (x e0 : Int32) (o t : Nat → Int32) (th : Int32) :
    ∃ r S' b e' o' th' t', F_X10_struck x P S = some (r, S') ∧ SOK w k D (1 + sm R ns) P S' ∧ F_X11_struck x e0 o row th t = some (b, (e', o', th', t')) ∧ ag 2 r b th' := by
  obtain ⟨hw, hP, hR, hS⟩ := h
  obtain ⟨o', t', hm, hRS⟩ := M_strike hw hR e0 o t
  obtain ⟨S', hc, hv, hk⟩ := L_current hw hP hS
  have hL := hw.last
  unfold F_X10_struck F_X11_struck
  rw [hc, Option.bind_some]
  rcases kinds hw hR hRS hv x with ⟨h1, h2, h3⟩ | ⟨n, rfl, n2, nL, h1, h3, hh⟩
  · rw [h1, h3]
    exact ⟨.inl 2, S', 0, _, _, 1, _, rfl, hk, rfl, rfl, rfl⟩
  · rw [h1, h3, Option.bind_some, Option.bind_some, M_lacks, Option.bind_some, hm]
    refine ⟨.inr (nI (ht w k D n)), S', nI (ht w k D n), nI (1 + sm R ns), o', 0, t', ?_, hk, ?_, rfl, rfl⟩
    · rcases hh with ⟨a, b, c⟩ | ⟨a, b, c, d⟩ | ⟨j, hj, a, b, c, d⟩
      · rw [b]
        unfold ht
        rw [if_pos a]
        rfl
      · rw [c]
        simp (disch := omega) only [↓m1_d, ↓m2_d, e_m2, e_m2', e_m12, e_m21, liN, e_le, e_lt, e_eqm, e_eq, e_m1, e_m1', e_m1l, e_m1e, e_m1g, e_m1h, e_add, e_mul, e_sub, e_pred, e_rem, ix_nI, nz_nI, nI_clamp, nm_e1, Nat.add_zero, if_true, if_false, Nat.reduceEqDiff, eq_self, reduceIte, Option.bind_some]
        unfold F_X3_strikerCount ht
        have := hw.2.2.2.1
        rw [hP.2.2.2.2.1, Option.bind_some, L_countHits hw hP (by omega) (by omega) (by omega) (by omega), if_neg (by rw [a]; decide), Nat.min_self]
        rfl
      · rw [c]
        have hd := hw.2.2.2.2.1 j hj
        have := hw.2.2.2.1
        simp (disch := omega) only [↓m1_d, ↓m2_d, e_m2, e_m2', e_m12, e_m21, liN, e_le, e_lt, e_eqm, e_eq, e_m1, e_m1', e_m1l, e_m1e, e_m1g, e_m1h, e_add, e_mul, e_sub, e_pred, e_rem, ix_nI, nz_nI, nI_clamp, nm_e1, Nat.add_zero, if_true, if_false, Nat.reduceEqDiff, eq_self, reduceIte, Option.bind_some]
        unfold F_X3_strikerCount ht
        rw [hP.2.2.2.2.1, Option.bind_some, L_countHits hw hP (by omega) (by omega) (by omega) (by omega), if_neg (by rw [a]; decide), Nat.min_self]
        rfl
    · show ix (nI n) 5300 _ = _
      simp (disch := omega) only [↓m1_d, ↓m2_d, e_m2, e_m2', e_m12, e_m21, liN, e_le, e_lt, e_eqm, e_eq, e_m1, e_m1', e_m1l, e_m1e, e_m1g, e_m1h, e_add, e_mul, e_sub, e_pred, e_rem, ix_nI, nz_nI, nI_clamp, nm_e1, Nat.add_zero, if_true, if_false, Nat.reduceEqDiff, eq_self, reduceIte, (hRS n nL).2]
      try rfl
theorem Q_upTo (h : CX w ns R k D P row S) (x e0 : Int32) (o t : Nat → Int32) (th : Int32) :
    ∃ v S' e' o' th' t', F_X10_upTo x P S = some (v, S') ∧ SOK w k D (1 + sm R ns) P S' ∧ F_X11_upTo x e0 o row th t = some (v, (e', o', th', t')) := by
  obtain ⟨hw, hP, hR, hS⟩ := h
  obtain ⟨o', t', hm, hRS⟩ := M_strike hw hR e0 o t
  obtain ⟨S', hc, hv, hk⟩ := L_current hw hP hS
  have hL := hw.last
  unfold F_X10_upTo F_X11_upTo
  rw [hc, hm, Option.bind_some, Option.bind_some]
  rcases i_cases x with hx | ⟨n, hn, rfl⟩
  · rw [L_marksUpTo_neg hx]
    refine ⟨nI 0, S', nI (1 + sm R ns), o', 0, t', rfl, hk, ?_⟩
    show (if nI (1 + sm R ns) ≤ x then _ else (F_X11_marksIn 2 x (nI (1 + sm R ns)) row t').bind _) = _
    rw [if_neg (neg_nle hx (by omega))]
    have : F_X11_marksIn 2 x (nI (1 + sm R ns)) row t' = some (nI 0) := by
      show B_X11_marksIn_5 2 x (nI (1 + sm R ns)) row t' (fx _ _ 999999) 0 2 = _
      unfold B_X11_marksIn_5
      rw [if_pos (show x < 2 from neg_lt hx (k := 2) (by decide))]
      rfl
    rw [this]
    rfl
  · rw [L_marksUpTo hL hv hn]
    refine ⟨nI (mu w k D (1 + sm R ns) n), S', nI (1 + sm R ns), o', 0, t', rfl, hk, ?_⟩
    have e : ∀ b, b ≤ 1 + sm R ns → mb w k D (1 + sm R ns) 2 b = mu w k D (1 + sm R ns) b := by
      intro b hb
      unfold mb
      rw [show max 2 2 - 1 = 1 by rfl, mu_lo (n := 1) (by omega)]
      rfl
    simp (disch := omega) only [↓m1_d, ↓m2_d, e_m2, e_m2', e_m12, e_m21, liN, e_le, e_lt, e_eqm, e_eq, e_m1, e_m1', e_m1l, e_m1e, e_m1g, e_m1h, e_add, e_mul, e_sub, e_pred, e_rem, ix_nI, nz_nI, nI_clamp, nm_e1, Nat.add_zero, if_true, if_false, Nat.reduceEqDiff, eq_self, reduceIte]
    by_cases c : 1 + sm R ns ≤ n
    · rw [if_pos c, M_marksIn hw hR hL hRS (by omega) (by omega) (Nat.le_refl _), e _ (Nat.le_refl _)]
      unfold mu
      rw [show min n (1 + sm R ns) = min (1 + sm R ns) (1 + sm R ns) by omega]
      rfl
    · rw [if_neg c, M_marksIn hw hR hL hRS (by omega) (by omega) (by omega), e _ (by omega)]
      rfl
theorem Q_between (h : CX w ns R k D P row S) (x y e0 : Int32) (o t : Nat → Int32) (th : Int32) :
    ∃ v S' e' o' th' t', F_X10_between x y P S = some (v, S') ∧ SOK w k D (1 + sm R ns) P S' ∧ F_X11_between x y e0 o row th t = some (v, (e', o', th', t')) := by
  obtain ⟨hw, hP, hR, hS⟩ := h
  obtain ⟨o', t', hm, hRS⟩ := M_strike hw hR e0 o t
  obtain ⟨S', hc, hv, hk⟩ := L_current hw hP hS
  have hL := hw.last
  unfold F_X10_between F_X11_between
  rw [hc, hm, Option.bind_some, Option.bind_some]
  -- from a number a on
  have key : ∀ a : Nat, 2 ≤ a → a < 2 ^ 31 → ∃ v, F_X7_marksBetween (nI a) y S' = some v ∧ (if nI (1 + sm R ns) ≤ y then F_X11_marksIn (nI a) (nI (1 + sm R ns)) (nI (1 + sm R ns)) row t' else F_X11_marksIn (nI a) y (nI (1 + sm R ns)) row t') = some v := by
    intro a a2 a3
    rcases i_cases y with hy | ⟨n, hn, rfl⟩
    · refine ⟨nI 0, ?_, ?_⟩
      · unfold F_X7_marksBetween
        rw [if_neg (show ¬ nI a < 2 from nI_nlt (b := 2) a2 a3), nm_e1, if_neg (neg_nle hy a3)]
        rfl
      · rw [if_neg (neg_nle hy (by omega))]
        show B_X11_marksIn_5 (nI a) y (nI (1 + sm R ns)) row t' (fx _ _ 999999) 0 (nI a) = _
        unfold B_X11_marksIn_5
        rw [if_pos (neg_lt hy a3)]
        rfl
    · refine ⟨nI (mb w k D (1 + sm R ns) a n), L_marksBetween hL hv a3 hn, ?_⟩
      simp (disch := omega) only [↓m1_d, ↓m2_d, e_m2, e_m2', e_m12, e_m21, liN, e_le, e_lt, e_eqm, e_eq, e_m1, e_m1', e_m1l, e_m1e, e_m1g, e_m1h, e_add, e_mul, e_sub, e_pred, e_rem, ix_nI, nz_nI, nI_clamp, nm_e1, Nat.add_zero, if_true, if_false, Nat.reduceEqDiff, eq_self, reduceIte]
      by_cases c : 1 + sm R ns ≤ n
      · rw [if_pos c, M_marksIn hw hR hL hRS a2 a3 (Nat.le_refl _)]
        unfold mb mu
        rw [show min n (1 + sm R ns) = min (1 + sm R ns) (1 + sm R ns) by omega]
      · rw [if_neg c, M_marksIn hw hR hL hRS a2 a3 (by omega)]
  have split2 : ∀ (A B : Option Int32) (c : Prop) [Decidable c] (v : Int32), (if c then A else B) = some v → (if c then A.bind (fun w_5 => some (w_5, (nI (1 + sm R ns), o', (0 : Int32), t'))) else B.bind (fun w_5 => some (w_5, (nI (1 + sm R ns), o', (0 : Int32), t')))) = some (v, (nI (1 + sm R ns), o', 0, t')) := by
    intro A B c _ v h
    split at h
    · rename_i q; rw [if_pos q, h]; rfl
    · rename_i q; rw [if_neg q, h]; rfl
  by_cases c : x ≤ 2
  · obtain ⟨v, h1, h2⟩ := key 2 (by omega) (by omega)
    have e : F_X7_marksBetween x y S' = F_X7_marksBetween (nI 2) y S' := by
      unfold F_X7_marksBetween
      by_cases d : x < 2
      · rw [if_pos d, if_neg (show ¬ nI 2 < 2 by decide)]
        rfl
      · have : x = 2 := Int32.le_antisymm c (Int32.not_lt.mp d)
        rw [this]
        rfl
    rw [e, h1]
    refine ⟨v, S', nI (1 + sm R ns), o', 0, t', rfl, hk, ?_⟩
    rw [if_pos c]
    exact split2 _ _ _ _ h2
  · rcases i_cases x with hx | ⟨n, hn, rfl⟩
    · exact absurd (show x ≤ 2 from neg_le hx (k := 2) (by decide)) c
    · have n2 : 2 ≤ n := by
        refine Nat.le_of_not_lt fun q => c ?_
        exact nI_le (b := 2) (by omega) (by decide)
      obtain ⟨v, h1, h2⟩ := key n n2 hn
      rw [h1]
      refine ⟨v, S', nI (1 + sm R ns), o', 0, t', rfl, hk, ?_⟩
      rw [if_neg c]
      exact split2 _ _ _ _ h2
end
