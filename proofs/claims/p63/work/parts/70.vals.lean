/-! ===== VALUES: what each query answers, told in w, ns, R, k, D ===== -/
section
variable {w ns k : Nat} {R D : Nat → Nat} {P : PlanT} {S : SieveT} {L : Nat}
/-- the class's state between two calls -/
def CY (w ns : Nat) (R : Nat → Nat) (k : Nat) (D : Nat → Nat) (P : PlanT) (S : SieveT) : Prop :=
  WF w ns R k D ∧ PX w ns R k D P ∧ SOK w k D (1 + sm R ns) P S
/-- missing, told without a root -/
def mz (w k : Nat) (D : Nat → Nat) (L n : Nat) : Bool := decide (n * n ≤ L) && ms w k D n
theorem mz_top {T : Nat} (h2 : 2 ≤ T) (h70 : T ≤ 70) (hT : L < T * T) (hi : ∀ i, i < T → i * i ≤ L) :
    fi (ms w k D) 2 (T - 2) = fi (mz w k D L) 2 98 ∧ cn (ms w k D) 2 (T - 2) = cn (mz w k D L) 2 98 := by
  have lo : ∀ i, 2 ≤ i → i < 2 + (T - 2) → ms w k D i = mz w k D L i := fun i _ h => by
    unfold mz
    rw [decide_eq_true (hi i (by omega)), Bool.true_and]
  have hh : ∀ i, T ≤ i → mz w k D L i = false := fun i h => by
    have := Nat.mul_le_mul h h
    unfold mz
    rw [decide_eq_false (by omega), Bool.false_and]
  constructor
  · rw [fi_cong lo]
    cases hf : fi (mz w k D L) 2 (T - 2) with
    | none =>
      symm
      refine fi_none.mpr (fun i h1 h2 => ?_)
      by_cases c : i < T
      · exact fi_none.mp hf i h1 (by omega)
      · exact hh i (by omega)
    | some v =>
      obtain ⟨a1, a2, a3, a4⟩ := fi_some hf
      symm
      exact fi_eq a1 (by omega) a3 a4
  · rw [cn_cong lo, show 98 = (T - 2) + (100 - T) by omega, cn_add, cn_zero (p := mz w k D L) (a := 2 + (T - 2)) (fun i h1 h2 => hh i (by omega)), Nat.add_zero]
def zs (w ns : Nat) (R : Nat → Nat) (k : Nat) (D : Nat → Nat) (n : Nat) : Nat :=
  if n = 0 then w else if n = 1 then ns else if n = 2 then 1 + sm R ns else if n = 3 then k else if n = 4 then cn (mk w k D) 2 (sm R ns) else if n = 5 then cn (fun n => !off w n) 2 (sm R ns) else
  if n = 6 then wp w else if n = 7 then ro w else if n = 8 then cn (mz w k D (1 + sm R ns)) 2 98 else cn (idl w k D (1 + sm R ns)) 0 k
theorem V_size (h : CY w ns R k D P S) {n : Nat} (hn : n ≤ 9) :
    ∃ S', F_X10_size (nI n) P S = some (.inr (nI (zs w ns R k D n)), S') ∧ CY w ns R k D P S' := by
  obtain ⟨hw, hP, hS⟩ := h
  have hL := hw.last
  obtain ⟨S', hc, hv, hk⟩ := L_current hw hP hS
  have e1 : 1 + sm R ns - 1 = sm R ns := by omega
  have fin : ∀ (A : Option ((Nat ⊕ Int32) × SieveT)) (v : Int32) (S2 : SieveT), A = some (.inr v, S2) → SOK w k D (1 + sm R ns) P S2 → v = nI (zs w ns R k D n) →
      ∃ S', A = some (.inr (nI (zs w ns R k D n)), S') ∧ CY w ns R k D P S' := fun A v S2 h1 h2 h3 => ⟨S2, by rw [h1, h3], hw, hP, h2⟩
  unfold F_X10_size
  rw [show F_X10_needInRange (nI n) 0 9 = some (.inr ()) by rw [show (0 : Int32) = nI 0 from rfl, show (9 : Int32) = nI 9 from rfl, L_needInRange (by omega) (by decide) (by decide), if_pos ⟨by omega, hn⟩], Option.bind_some]
  show ∃ S', (if nI n = 0 then _ else _) = some (_, S') ∧ _
  rcases (show n = 0 ∨ n = 1 ∨ n = 2 ∨ n = 3 ∨ n = 4 ∨ n = 5 ∨ n = 6 ∨ n = 7 ∨ n = 8 ∨ n = 9 by omega) with rfl | rfl | rfl | rfl | rfl | rfl | rfl | rfl | rfl | rfl
  · refine fin _ (nI w) S ?_ hS rfl
    simp (disch := omega) only [↓m1_d, ↓m2_d, e_m2, e_m2', e_m12, e_m21, liN, e_le, e_lt, e_eqm, e_eq, e_m1, e_m1', e_m1l, e_m1e, e_m1g, e_m1h, e_add, e_mul, e_sub, e_pred, e_rem, ix_nI, nz_nI, nI_clamp, nm_e1, Nat.add_zero, if_true, if_false, Nat.reduceEqDiff, eq_self, reduceIte]
    unfold F_X3_wheelNow
    rw [hP.1]
    try rfl
  · refine fin _ (nI ns) S ?_ hS rfl
    simp (disch := omega) only [↓m1_d, ↓m2_d, e_m2, e_m2', e_m12, e_m21, liN, e_le, e_lt, e_eqm, e_eq, e_m1, e_m1', e_m1l, e_m1e, e_m1g, e_m1h, e_add, e_mul, e_sub, e_pred, e_rem, ix_nI, nz_nI, nI_clamp, nm_e1, Nat.add_zero, if_true, if_false, Nat.reduceEqDiff, eq_self, reduceIte]
    unfold F_X3_stretchCount
    rw [hP.2.1]
    try rfl
  · refine fin _ (nI (1 + sm R ns)) S ?_ hS rfl
    simp (disch := omega) only [↓m1_d, ↓m2_d, e_m2, e_m2', e_m12, e_m21, liN, e_le, e_lt, e_eqm, e_eq, e_m1, e_m1', e_m1l, e_m1e, e_m1g, e_m1h, e_add, e_mul, e_sub, e_pred, e_rem, ix_nI, nz_nI, nI_clamp, nm_e1, Nat.add_zero, if_true, if_false, Nat.reduceEqDiff, eq_self, reduceIte]
    unfold F_X3_lastNumber
    rw [hP.2.2.2.1]
    try rfl
  · refine fin _ (nI k) S ?_ hS rfl
    simp (disch := omega) only [↓m1_d, ↓m2_d, e_m2, e_m2', e_m12, e_m21, liN, e_le, e_lt, e_eqm, e_eq, e_m1, e_m1', e_m1l, e_m1e, e_m1g, e_m1h, e_add, e_mul, e_sub, e_pred, e_rem, ix_nI, nz_nI, nI_clamp, nm_e1, Nat.add_zero, if_true, if_false, Nat.reduceEqDiff, eq_self, reduceIte]
    unfold F_X3_strikerCount
    rw [hP.2.2.2.2.1]
    try rfl
  · refine fin _ (nI (cn (mk w k D) 2 (1 + sm R ns - 1))) S' ?_ hk (by rw [e1]; rfl)
    simp (disch := omega) only [↓m1_d, ↓m2_d, e_m2, e_m2', e_m12, e_m21, liN, e_le, e_lt, e_eqm, e_eq, e_m1, e_m1', e_m1l, e_m1e, e_m1g, e_m1h, e_add, e_mul, e_sub, e_pred, e_rem, ix_nI, nz_nI, nI_clamp, nm_e1, Nat.add_zero, if_true, if_false, Nat.reduceEqDiff, eq_self, reduceIte]
    rw [hc, Option.bind_some]
    unfold F_X7_markCount
    rw [hv.2.2.1]
    try rfl
  · refine fin _ (nI (cn (fun n => !off w n) 2 (1 + sm R ns - 1))) S' ?_ hk (by rw [e1]; rfl)
    simp (disch := omega) only [↓m1_d, ↓m2_d, e_m2, e_m2', e_m12, e_m21, liN, e_le, e_lt, e_eqm, e_eq, e_m1, e_m1', e_m1l, e_m1e, e_m1g, e_m1h, e_add, e_mul, e_sub, e_pred, e_rem, ix_nI, nz_nI, nI_clamp, nm_e1, Nat.add_zero, if_true, if_false, Nat.reduceEqDiff, eq_self, reduceIte]
    rw [hc, Option.bind_some]
    unfold F_X7_spokeCount
    rw [hv.2.2.2]
    try rfl
  · refine fin _ (nI (wp w)) S ?_ hS rfl
    simp (disch := omega) only [↓m1_d, ↓m2_d, e_m2, e_m2', e_m12, e_m21, liN, e_le, e_lt, e_eqm, e_eq, e_m1, e_m1', e_m1l, e_m1e, e_m1g, e_m1h, e_add, e_mul, e_sub, e_pred, e_rem, ix_nI, nz_nI, nI_clamp, nm_e1, Nat.add_zero, if_true, if_false, Nat.reduceEqDiff, eq_self, reduceIte]
    unfold F_X3_wheelNow
    rw [hP.1, Option.bind_some, L_product hw.1]
    try rfl
  · have := wp_rng (k := w) (by have := hw.1; omega)
    refine fin _ (nI (ro w)) S ?_ hS rfl
    simp (disch := omega) only [↓m1_d, ↓m2_d, e_m2, e_m2', e_m12, e_m21, liN, e_le, e_lt, e_eqm, e_eq, e_m1, e_m1', e_m1l, e_m1e, e_m1g, e_m1h, e_add, e_mul, e_sub, e_pred, e_rem, ix_nI, nz_nI, nI_clamp, nm_e1, Nat.add_zero, if_true, if_false, Nat.reduceEqDiff, eq_self, reduceIte]
    unfold F_X3_wheelNow
    rw [hP.1, Option.bind_some, L_product hw.1, Option.bind_some, Option.bind_some, L_spokesUpTo hw.1 (by omega), ro_cn hw.1]
    try rfl
  · obtain ⟨T, T2, T70, hT, hi⟩ := sq_top (1 + sm R ns) (by omega) hL
    refine fin _ (nI (cn (ms w k D) 2 (T - 2))) S ?_ hS (by rw [(mz_top (w := w) (k := k) (D := D) T2 T70 hT hi).2]; rfl)
    simp (disch := omega) only [↓m1_d, ↓m2_d, e_m2, e_m2', e_m12, e_m21, liN, e_le, e_lt, e_eqm, e_eq, e_m1, e_m1', e_m1l, e_m1e, e_m1g, e_m1h, e_add, e_mul, e_sub, e_pred, e_rem, ix_nI, nz_nI, nI_clamp, nm_e1, Nat.add_zero, if_true, if_false, Nat.reduceEqDiff, eq_self, reduceIte]
    unfold F_X3_wheelNow
    rw [hP.1, Option.bind_some, L_countMissing hw hP T2 T70 hT hi]
    try rfl
  · obtain ⟨S2, h1, h2⟩ := L_countIdle hw hP hS
    refine fin _ (nI (cn (idl w k D (1 + sm R ns)) 0 k)) S2 ?_ h2 rfl
    simp (disch := omega) only [↓m1_d, ↓m2_d, e_m2, e_m2', e_m12, e_m21, liN, e_le, e_lt, e_eqm, e_eq, e_m1, e_m1', e_m1l, e_m1e, e_m1g, e_m1h, e_add, e_mul, e_sub, e_pred, e_rem, ix_nI, nz_nI, nI_clamp, nm_e1, Nat.add_zero, if_true, if_false, Nat.reduceEqDiff, eq_self, reduceIte]
    rw [h1]
    try rfl
/-! a stretch, a striker -/
theorem V_needStretch (hw : WF w ns R k D) (hP : PX w ns R k D P) {i : Nat} (hi : i < ns) : F_X10_needStretch (nI i) P = some (.inr ()) := by
  have h12 := hw.2.1
  unfold F_X10_needStretch F_X3_stretchCount
  rw [hP.2.1, Option.bind_some]
  simp (disch := omega) only [↓m1_d, ↓m2_d, e_m2, e_m2', e_m12, e_m21, liN, e_le, e_lt, e_eqm, e_eq, e_m1, e_m1', e_m1l, e_m1e, e_m1g, e_m1h, e_add, e_mul, e_sub, e_pred, e_rem, ix_nI, nz_nI, nI_clamp, nm_e1, Nat.add_zero, if_true, if_false, Nat.reduceEqDiff, eq_self, reduceIte]
  rw [if_neg (by omega), if_pos hi]
theorem V_needStriker (hw : WF w ns R k D) (hP : PX w ns R k D P) {i : Nat} (hi : i < k) : F_X10_needStriker (nI i) P = some (.inr ()) := by
  have h12 := hw.2.2.2.1
  unfold F_X10_needStriker F_X3_strikerCount
  rw [hP.2.2.2.2.1, Option.bind_some]
  simp (disch := omega) only [↓m1_d, ↓m2_d, e_m2, e_m2', e_m12, e_m21, liN, e_le, e_lt, e_eqm, e_eq, e_m1, e_m1', e_m1l, e_m1e, e_m1g, e_m1h, e_add, e_mul, e_sub, e_pred, e_rem, ix_nI, nz_nI, nI_clamp, nm_e1, Nat.add_zero, if_true, if_false, Nat.reduceEqDiff, eq_self, reduceIte]
  rw [if_neg (by omega), if_pos hi]
theorem V_range {n a b : Nat} (ha : a ≤ n) (hb : n ≤ b) (h : b < 2 ^ 31) : F_X10_needInRange (nI n) (nI a) (nI b) = some (.inr ()) := by
  rw [L_needInRange (by omega) (by omega) h, if_pos ⟨ha, hb⟩]
theorem V_stretch (h : CY w ns R k D P S) {i : Nat} (hi : i < ns) :
    F_X10_stretch (nI i) 0 P S = some (.inr (nI (2 + sm R i)), S) ∧ F_X10_stretch (nI i) 1 P S = some (.inr (nI (1 + sm R (i + 1))), S) ∧
    (∃ S', F_X10_stretch (nI i) 2 P S = some (.inr (nI (cn (mk w k D) (2 + sm R i) (R i))), S') ∧ CY w ns R k D P S') ∧
    ∃ S', F_X10_stretch (nI i) 4 P S = some (.inr (oI (fi (mk w k D) (2 + sm R i) (R i))), S') ∧ CY w ns R k D P S' := by
  obtain ⟨hw, hP, hS⟩ := h
  have hL := hw.last
  obtain ⟨S', hc, hv, hk⟩ := L_current hw hP hS
  have h12 := hw.2.1
  have hR1 := hw.2.2.1 i hi
  have hu : sm R (i + 1) = sm R i + R i := rfl
  have hu2 := sm_mono (R := R) (by omega : i + 1 ≤ ns)
  have r : ∀ n : Nat, n ≤ 5 → F_X10_needInRange (nI n) (nI 0) (nI 5) = some (.inr ()) := fun n hn => V_range (by omega) hn (by decide)
  refine ⟨?_, ?_, ⟨S', ?_, hw, hP, hk⟩, ⟨S', ?_, hw, hP, hk⟩⟩
  · unfold F_X10_stretch
    rw [V_needStretch hw hP hi, Option.bind_some]
    rw [Sum.elim_inr, show F_X10_needInRange 0 0 5 = some (.inr ()) from r 0 (by omega), Option.bind_some, Sum.elim_inr]
    rw [L_first hw hP hi, L_lastOf hw hP hi, Option.bind_some, Option.bind_some]
    rfl
  · unfold F_X10_stretch
    rw [V_needStretch hw hP hi, Option.bind_some]
    rw [Sum.elim_inr, show F_X10_needInRange 1 0 5 = some (.inr ()) from r 1 (by omega), Option.bind_some, Sum.elim_inr]
    rw [L_first hw hP hi, L_lastOf hw hP hi, Option.bind_some, Option.bind_some]
    simp (disch := omega) only [↓m1_d, ↓m2_d, e_m2, e_m2', e_m12, e_m21, liN, e_le, e_lt, e_eqm, e_eq, e_m1, e_m1', e_m1l, e_m1e, e_m1g, e_m1h, e_add, e_mul, e_sub, e_pred, e_rem, ix_nI, nz_nI, nI_clamp, nm_e1, Nat.add_zero, if_true, if_false, Nat.reduceEqDiff, eq_self, reduceIte]
  · unfold F_X10_stretch
    rw [V_needStretch hw hP hi, Option.bind_some]
    rw [Sum.elim_inr, show F_X10_needInRange 2 0 5 = some (.inr ()) from r 2 (by omega), Option.bind_some, Sum.elim_inr]
    rw [L_first hw hP hi, L_lastOf hw hP hi, Option.bind_some, Option.bind_some]
    simp (disch := omega) only [↓m1_d, ↓m2_d, e_m2, e_m2', e_m12, e_m21, liN, e_le, e_lt, e_eqm, e_eq, e_m1, e_m1', e_m1l, e_m1e, e_m1g, e_m1h, e_add, e_mul, e_sub, e_pred, e_rem, ix_nI, nz_nI, nI_clamp, nm_e1, Nat.add_zero, if_true, if_false, Nat.reduceEqDiff, eq_self, reduceIte]
    rw [hc, Option.bind_some, L_marksBetween hL hv (by omega) (by omega), mb_cn (by omega) (by omega), show 1 + sm R (i + 1) + 1 - (2 + sm R i) = R i by omega]
    rfl
  · unfold F_X10_stretch
    rw [V_needStretch hw hP hi, Option.bind_some]
    rw [Sum.elim_inr, show F_X10_needInRange 4 0 5 = some (.inr ()) from r 4 (by omega), Option.bind_some, Sum.elim_inr]
    rw [L_first hw hP hi, L_lastOf hw hP hi, Option.bind_some, Option.bind_some]
    simp (disch := omega) only [↓m1_d, ↓m2_d, e_m2, e_m2', e_m12, e_m21, liN, e_le, e_lt, e_eqm, e_eq, e_m1, e_m1', e_m1l, e_m1e, e_m1g, e_m1h, e_add, e_mul, e_sub, e_pred, e_rem, ix_nI, nz_nI, nI_clamp, nm_e1, Nat.add_zero, if_true, if_false, Nat.reduceEqDiff, eq_self, reduceIte]
    rw [hc, Option.bind_some, L_markAbove hw hL (by omega) hv (by omega) (by omega), Option.bind_some, show 2 + sm R i - 1 + 1 = 2 + sm R i by omega, orNone_fi (by omega) (by omega) (by omega), show 1 + sm R (i + 1) + 1 - (2 + sm R i) = R i by omega]
    rfl
theorem V_striker (h : CY w ns R k D P S) {i : Nat} (hi : i < k) :
    F_X10_striker (nI i) 0 P S = some (.inr (nI (D i)), S) ∧
    ∃ S', F_X10_striker (nI i) 2 P S = some (.inr (nI (cn (own w k D i) 2 (sm R ns))), S') ∧ CY w ns R k D P S' := by
  obtain ⟨hw, hP, hS⟩ := h
  have hL := hw.last
  obtain ⟨S', hc, hv, hk⟩ := L_current hw hP hS
  have h30 := hw.2.2.2.1
  have r : ∀ n : Nat, n ≤ 5 → F_X10_needInRange (nI n) (nI 0) (nI 5) = some (.inr ()) := fun n hn => V_range (by omega) hn (by decide)
  refine ⟨?_, S', ?_, hw, hP, hk⟩
  · unfold F_X10_striker
    rw [V_needStriker hw hP hi, Option.bind_some]
    rw [Sum.elim_inr, show F_X10_needInRange 0 0 5 = some (.inr ()) from r 0 (by omega), Option.bind_some, Sum.elim_inr]
    rw [L_dOf hw hP hi, Option.bind_some]
    rfl
  · unfold F_X10_striker
    rw [V_needStriker hw hP hi, Option.bind_some]
    rw [Sum.elim_inr, show F_X10_needInRange 2 0 5 = some (.inr ()) from r 2 (by omega), Option.bind_some, Sum.elim_inr]
    rw [L_dOf hw hP hi, Option.bind_some]
    simp (disch := omega) only [↓m1_d, ↓m2_d, e_m2, e_m2', e_m12, e_m21, liN, e_le, e_lt, e_eqm, e_eq, e_m1, e_m1', e_m1l, e_m1e, e_m1g, e_m1h, e_add, e_mul, e_sub, e_pred, e_rem, ix_nI, nz_nI, nI_clamp, nm_e1, Nat.add_zero, if_true, if_false, Nat.reduceEqDiff, eq_self, reduceIte]
    rw [hc, Option.bind_some, L_countOwned hw hL hv hi, Option.bind_some, show 1 + sm R ns - 1 = sm R ns by omega]
/-! find, at, cause, struck -/
theorem V_find (h : CY w ns R k D P S) {d : Nat} (hd : d < 2 ^ 31) : F_X10_find (nI d) P = some (oI (pl k D d)) := by
  obtain ⟨hw, hP, -⟩ := h
  unfold F_X10_find
  rw [L_placeOf hw hP hd]
  cases pl k D d <;> rfl
/-- the owner of a laid number that is off no spoke -/
theorem oz_at {n : Nat} : oz w k D n = if off w n = true then m1 else (match fh k D n with | none => nI 0 | some j => nI (D j)) := by
  unfold oz
  cases off w n with
  | true => rfl
  | false => cases fh k D n <;> rfl
def za (w k : Nat) (D : Nat → Nat) (n : Nat) : Nat := if off w n = true then 1 else if (fh k D n).isNone = true then 0 else 2
theorem V_at (h : CY w ns R k D P S) {n : Nat} (h2 : 2 ≤ n) (hn : n ≤ 1 + sm R ns) :
    ∃ S', F_X10_at (nI n) P S = some (nI (za w k D n), S') ∧ CY w ns R k D P S' := by
  obtain ⟨hw, hP, hS⟩ := h
  have hL := hw.last
  obtain ⟨S', hc, hv, hk⟩ := L_current hw hP hS
  refine ⟨S', ?_, hw, hP, hk⟩
  unfold F_X10_at za
  rw [hc, Option.bind_some, L_ownerOf hL hv (by omega), if_pos ⟨h2, hn⟩, oz_at, Option.bind_some]
  cases ho : off w n with
  | true => rfl
  | false =>
    cases hf : fh k D n with
    | none => rfl
    | some j =>
      obtain ⟨-, hj, -⟩ := fi_some hf
      have hd := hw.2.2.2.2.1 j (by omega)
      rw [if_neg Bool.false_ne_true, if_neg Bool.false_ne_true]
      dsimp only
      simp (disch := omega) only [↓m1_d, ↓m2_d, e_m2, e_m2', e_m12, e_m21, liN, e_le, e_lt, e_eqm, e_eq, e_m1, e_m1', e_m1l, e_m1e, e_m1g, e_m1h, e_add, e_mul, e_sub, e_pred, e_rem, ix_nI, nz_nI, nI_clamp, nm_e1, Nat.add_zero, if_true, if_false, Nat.reduceEqDiff, eq_self, reduceIte]
      rw [if_neg (by omega)]
      try rfl
theorem V_cause (h : CY w ns R k D P S) {n j : Nat} (h2 : 2 ≤ n) (hn : n ≤ 1 + sm R ns) (ho : off w n = false) (hf : fh k D n = some j) :
    ∃ S', F_X10_cause (nI n) P S = some (nI (D j), S') ∧ CY w ns R k D P S' := by
  obtain ⟨hw, hP, hS⟩ := h
  have hL := hw.last
  obtain ⟨S', hc, hv, hk⟩ := L_current hw hP hS
  refine ⟨S', ?_, hw, hP, hk⟩
  obtain ⟨-, hj, -⟩ := fi_some hf
  have hd := hw.2.2.2.2.1 j (by omega)
  unfold F_X10_cause
  rw [hc, Option.bind_some, L_ownerOf hL hv (by omega), if_pos ⟨h2, hn⟩, oz_at, ho, hf, if_neg Bool.false_ne_true, Option.bind_some]
  dsimp only
  simp (disch := omega) only [↓m1_d, ↓m2_d, e_m2, e_m2', e_m12, e_m21, liN, e_le, e_lt, e_eqm, e_eq, e_m1, e_m1', e_m1l, e_m1e, e_m1g, e_m1h, e_add, e_mul, e_sub, e_pred, e_rem, ix_nI, nz_nI, nI_clamp, nm_e1, Nat.add_zero, if_true, if_false, Nat.reduceEqDiff, eq_self, reduceIte]
  rw [if_neg (by omega)]
theorem V_struck (h : CY w ns R k D P S) {n j : Nat} (h2 : 2 ≤ n) (hn : n ≤ 1 + sm R ns) (ho : off w n = false) (hf : fh k D n = some j) :
    ∃ S', F_X10_struck (nI n) P S = some (.inr (nI (ht w k D n)), S') ∧ CY w ns R k D P S' := by
  obtain ⟨hw, hP, hS⟩ := h
  have hL := hw.last
  obtain ⟨S', hc, hv, hk⟩ := L_current hw hP hS
  refine ⟨S', ?_, hw, hP, hk⟩
  obtain ⟨-, hj, -⟩ := fi_some hf
  have hd := hw.2.2.2.2.1 j (by omega)
  have h30 := hw.2.2.2.1
  unfold F_X10_struck
  rw [hc, Option.bind_some, L_ownerOf hL hv (by omega), if_pos ⟨h2, hn⟩, oz_at, ho, hf, if_neg Bool.false_ne_true, Option.bind_some]
  dsimp only
  simp (disch := omega) only [↓m1_d, ↓m2_d, e_m2, e_m2', e_m12, e_m21, liN, e_le, e_lt, e_eqm, e_eq, e_m1, e_m1', e_m1l, e_m1e, e_m1g, e_m1h, e_add, e_mul, e_sub, e_pred, e_rem, ix_nI, nz_nI, nI_clamp, nm_e1, Nat.add_zero, if_true, if_false, Nat.reduceEqDiff, eq_self, reduceIte]
  unfold F_X3_strikerCount ht
  rw [hP.2.2.2.2.1, Option.bind_some, L_countHits hw hP (by omega) (by omega) (by omega) (by omega), if_neg (by rw [ho]; decide), Nat.min_self]
  rfl
/-! marks -/
theorem V_upTo (h : CY w ns R k D P S) {n : Nat} (h1 : 1 ≤ n) (hn : n ≤ 1 + sm R ns) :
    ∃ S', F_X10_upTo (nI n) P S = some (nI (cn (mk w k D) 2 (n - 1)), S') ∧ CY w ns R k D P S' := by
  obtain ⟨hw, hP, hS⟩ := h
  have hL := hw.last
  obtain ⟨S', hc, hv, hk⟩ := L_current hw hP hS
  refine ⟨S', ?_, hw, hP, hk⟩
  unfold F_X10_upTo
  rw [hc, Option.bind_some, L_marksUpTo hL hv (by omega), Option.bind_some]
  unfold mu
  rw [show min n (1 + sm R ns) = n by omega]
theorem V_mark (h : CY w ns R k D P S) {c : Nat} (hc0 : c < 2 ^ 31) :
    ∃ S', F_X10_mark (nI c) P S = some (oI (nt (mk w k D) c 2 (sm R ns)), S') ∧ CY w ns R k D P S' := by
  obtain ⟨hw, hP, hS⟩ := h
  have hL := hw.last
  obtain ⟨S', hc, hv, hk⟩ := L_current hw hP hS
  refine ⟨S', ?_, hw, hP, hk⟩
  unfold F_X10_mark
  rw [hc, Option.bind_some, L_markAt hw hL (by omega) hv hc0, Option.bind_some, show 1 + sm R ns - 1 = sm R ns by omega]
theorem V_between (h : CY w ns R k D P S) {a b : Nat} (ha : 2 ≤ a) (ha2 : a < 2 ^ 31) (hb : b ≤ 1 + sm R ns) :
    ∃ S', F_X10_between (nI a) (nI b) P S = some (nI (cn (mk w k D) a (b + 1 - a)), S') ∧ CY w ns R k D P S' := by
  obtain ⟨hw, hP, hS⟩ := h
  have hL := hw.last
  obtain ⟨S', hc, hv, hk⟩ := L_current hw hP hS
  refine ⟨S', ?_, hw, hP, hk⟩
  unfold F_X10_between
  rw [hc, Option.bind_some, L_marksBetween hL hv ha2 (by omega), Option.bind_some, mb_cn hb ha]
theorem V_nextUp (h : CY w ns R k D P S) {a : Nat} (ha : 1 ≤ a) (ha2 : a < 2 ^ 31) :
    ∃ S', F_X10_next (nI a) false P S = some (oI (fi (mk w k D) (a + 1) (1 + sm R ns - a)), S') ∧ CY w ns R k D P S' := by
  obtain ⟨hw, hP, hS⟩ := h
  have hL := hw.last
  obtain ⟨S', hc, hv, hk⟩ := L_current hw hP hS
  refine ⟨S', ?_, hw, hP, hk⟩
  unfold F_X10_next
  rw [if_neg Bool.false_ne_true, hc, Option.bind_some, L_markAbove hw hL (by omega) hv ha ha2, Option.bind_some]
theorem V_gaps (h : CY w ns R k D P S) {g : Nat} (h1 : 1 ≤ g) (h2 : g ≤ 400) :
    ∃ S', F_X10_gaps (nI g) P S = some (.inr (nI (cn (gp w k D g) 2 (max 2 (1 + sm R ns + 1 - g) - 2))), S') ∧ CY w ns R k D P S' := by
  obtain ⟨hw, hP, hS⟩ := h
  have hL := hw.last
  obtain ⟨S', hc, hv, hk⟩ := L_current hw hP hS
  refine ⟨S', ?_, hw, hP, hk⟩
  unfold F_X10_gaps
  rw [show F_X10_needInRange (nI g) 1 400 = some (.inr ()) from V_range (a := 1) (b := 400) h1 h2 (by decide), Option.bind_some, Sum.elim_inr, hc, Option.bind_some]
  exact L_gaps hw hL hv h1 h2
theorem V_widestAt (h : CY w ns R k D P S) :
    ∃ S', F_X10_widestAt P S = some (oI (wa (mk w k D) (1 + sm R ns + 1 - 3) 0 none 2 3).1, S') ∧ CY w ns R k D P S' := by
  obtain ⟨hw, hP, hS⟩ := h
  have hL := hw.last
  obtain ⟨S', hc, hv, hk⟩ := L_current hw hP hS
  refine ⟨S', ?_, hw, hP, hk⟩
  unfold F_X10_widestAt
  rw [hc, Option.bind_some]
  exact L_widestAt hw hL hv
theorem V_widest (h : CY w ns R k D P S) :
    ∃ S', F_X10_widest P S = some (nI (wa (mk w k D) (1 + sm R ns + 1 - 3) 0 none 2 3).2, S') ∧ CY w ns R k D P S' := by
  obtain ⟨hw, hP, hS⟩ := h
  have hL := hw.last
  obtain ⟨S', hc, hv, hk, hcc⟩ := L_cur hw hP hS
  refine ⟨S', ?_, hw, hP, hk⟩
  unfold F_X10_widest F_X10_widestAt
  rw [hc, Option.bind_some, L_widestAt hw hL hv, Option.bind_some]
  have hL1 : 1 ≤ 1 + sm R ns := by omega
  generalize 1 + sm R ns = L at *
  by_cases l3 : L + 1 < 3
  · rw [show L + 1 - 3 = 0 by omega]
    rfl
  · have inv := wa_inv (L := L) (p := mk w k D) (f := L + 1 - 3) (b := 0) (a := none) (pr := 2) (i := 3) (by omega) (by omega) (by omega) (fun j j1 j2 => absurd j1 (by omega)) (Or.inl ⟨rfl, rfl⟩)
    generalize wa (mk w k D) (L + 1 - 3) 0 none 2 3 = z at inv ⊢
    rcases inv with ⟨z1, z2⟩ | ⟨v, z1, z2, z3, z4, z5⟩
    · rw [z1, z2]
      rfl
    · rw [z1]
      show (if nI v = -1 then _ else (F_X10_current P S').bind _) = _
      rw [if_neg (m1_ne (by omega)), hcc, Option.bind_some]
      show (F_X7_markAbove (nI v) S').bind (fun w_6 => some (w_6 - nI v, S')) = _
      rw [L_markAbove hw hL hL1 hv (by omega) (by omega), z5, Option.bind_some]
      show some (nI (v + z.2) - nI v, S') = _
      rw [e_sub (by omega), show v + z.2 - v = z.2 by omega]
/-! longest, thickest: at most all marks -/
theorem V_longest (h : CY w ns R k D P S) :
    ∃ v S', F_X10_longest P S = some (nI v, S') ∧ v ≤ cn (mk w k D) 2 (sm R ns) ∧ CY w ns R k D P S' := by
  obtain ⟨hw, hP, hS⟩ := h
  have hL := hw.last
  obtain ⟨S', hc, hv, hk⟩ := L_current hw hP hS
  unfold F_X10_longest
  rw [hc, Option.bind_some]
  have hL1 : 1 ≤ 1 + sm R ns := by omega
  have hM : sm R ns = 1 + sm R ns + 1 - 2 := by omega
  rw [hM]
  generalize hLL : 1 + sm R ns = L at *
  have tot := cn_le (mk w k D) (L + 1 - 2) 2
  have key : ∀ m b r i, L + 1 - i = m → b + cn (mk w k D) i (L + 1 - i) ≤ cn (mk w k D) 2 (L + 1 - 2) → r + cn (mk w k D) i (L + 1 - i) ≤ cn (mk w k D) 2 (L + 1 - 2) → 2 ≤ i → i ≤ max 2 (L + 1) → ∀ f, m < f →
      ∃ v, fx (fun _ _ _ _ => none) (B_X10_longest_12 P) f (nI b) (nI r) (nI i) S' = some (nI v, S') ∧ v ≤ cn (mk w k D) 2 (L + 1 - 2) := by
    intro m
    induction m with
    | zero =>
      intro b r i hm hb hr h2 hi f hf
      obtain ⟨f, rfl⟩ : ∃ q, f = q + 1 := ⟨f - 1, by omega⟩
      rw [fx_s]
      unfold B_X10_longest_12 F_X7_lastNumber
      rw [hv.1, Option.bind_some]
      simp (disch := omega) only [↓m1_d, ↓m2_d, e_m2, e_m2', e_m12, e_m21, liN, e_le, e_lt, e_eqm, e_eq, e_m1, e_m1', e_m1l, e_m1e, e_m1g, e_m1h, e_add, e_mul, e_sub, e_pred, e_rem, ix_nI, nz_nI, nI_clamp, nm_e1, Nat.add_zero, if_true, if_false, Nat.reduceEqDiff, eq_self, reduceIte]
      rw [if_pos (by omega)]
      exact ⟨b, rfl, by omega⟩
    | succ m ih =>
      intro b r i hm hb hr h2 hi f hf
      obtain ⟨f, rfl⟩ : ∃ q, f = q + 1 := ⟨f - 1, by omega⟩
      rw [fx_s]
      generalize hK : fx (fun _ _ _ _ => none) (B_X10_longest_12 P) f = K
      have ih2 : ∀ b r, b + cn (mk w k D) (i + 1) (L + 1 - (i + 1)) ≤ cn (mk w k D) 2 (L + 1 - 2) → r + cn (mk w k D) (i + 1) (L + 1 - (i + 1)) ≤ cn (mk w k D) 2 (L + 1 - 2) → ∃ v, K (nI b) (nI r) (nI (i + 1)) S' = some (nI v, S') ∧ v ≤ cn (mk w k D) 2 (L + 1 - 2) := fun b r hb hr => by
        rw [← hK]
        exact ih b r (i + 1) (by omega) hb hr (by omega) (by omega) f (by omega)
      rw [show L + 1 - i = (L + 1 - (i + 1)) + 1 by omega, cn_s] at hb hr
      unfold B_X10_longest_12 F_X7_lastNumber
      rw [hv.1, Option.bind_some]
      rw [if_neg (show ¬ nI L < nI i from nI_nlt (by omega) (by omega)), L_ownerOf hL hv (by omega), if_pos (show 2 ≤ i ∧ i ≤ L by omega), Option.bind_some, oz_at]
      cases ho : off w i with
      | true =>
        rw [if_pos rfl]
        simp (disch := omega) only [↓m1_d, ↓m2_d, e_m2, e_m2', e_m12, e_m21, liN, e_le, e_lt, e_eqm, e_eq, e_m1, e_m1', e_m1l, e_m1e, e_m1g, e_m1h, e_add, e_mul, e_sub, e_pred, e_rem, ix_nI, nz_nI, nI_clamp, nm_e1, Nat.add_zero, if_true, if_false, Nat.reduceEqDiff, eq_self, reduceIte]
        exact ih2 b r (by omega) (by omega)
      | false =>
        rw [if_neg Bool.false_ne_true]
        cases hf2 : fh k D i with
        | none =>
          have em : mk w k D i = true := by unfold mk; rw [ho, hf2]; rfl
          rw [em, if_pos rfl] at hb hr
          dsimp only
          simp (disch := omega) only [↓m1_d, ↓m2_d, e_m2, e_m2', e_m12, e_m21, liN, e_le, e_lt, e_eqm, e_eq, e_m1, e_m1', e_m1l, e_m1e, e_m1g, e_m1h, e_add, e_mul, e_sub, e_pred, e_rem, ix_nI, nz_nI, nI_clamp, nm_e1, Nat.add_zero, if_true, if_false, Nat.reduceEqDiff, eq_self, reduceIte]
          by_cases y : r + 1 ≤ b
          · first
              | rw [if_neg (show ¬ b < r + 1 by omega)]
              | rw [if_pos y]
            exact ih2 b (r + 1) (by omega) (by omega)
          · first
              | rw [if_pos (show b < r + 1 by omega)]
              | rw [if_neg y]
            exact ih2 (r + 1) (r + 1) (by omega) (by omega)
        | some j =>
          obtain ⟨-, hj, -⟩ := fi_some hf2
          have hd := hw.2.2.2.2.1 j (by omega)
          dsimp only
          simp (disch := omega) only [↓m1_d, ↓m2_d, e_m2, e_m2', e_m12, e_m21, liN, e_le, e_lt, e_eqm, e_eq, e_m1, e_m1', e_m1l, e_m1e, e_m1g, e_m1h, e_add, e_mul, e_sub, e_pred, e_rem, ix_nI, nz_nI, nI_clamp, nm_e1, Nat.add_zero, if_true, if_false, Nat.reduceEqDiff, eq_self, reduceIte]
          rw [if_neg (by omega)]
          exact ih2 b 0 (by omega) (by omega)
  obtain ⟨v, k1, k2⟩ := key (L + 1 - 2) 0 0 2 rfl (by omega) (by omega) (Nat.le_refl _) (by omega) FUEL (by unfold FUEL; omega)
  exact ⟨v, S', k1, k2, hw, hP, hLL ▸ hk⟩
/-! wrong, firstWrong, gap, missing -/
theorem V_wrong (h : CY w ns R k D P S) : ∃ S', F_X10_wrong P S = some (nI (cn (wg w k D) 2 (sm R ns)), S') ∧ CY w ns R k D P S' := by
  obtain ⟨hw, hP, hS⟩ := h
  obtain ⟨S', hc, hv, hk, hcc⟩ := L_cur hw hP hS
  have e : F_X10_wrong P S = F_X10_wrong P S' := by
    unfold F_X10_wrong
    rw [hc, hcc]
  refine ⟨S', ?_, hw, hP, hk⟩
  rw [e, L_wrong hw hP hv hcc, show 1 + sm R ns - 1 = sm R ns by omega]
theorem V_firstWrong (h : CY w ns R k D P S) : ∃ S', F_X10_firstWrong P S = some (oI (fi (wg w k D) 2 (sm R ns)), S') ∧ CY w ns R k D P S' := by
  obtain ⟨hw, hP, hS⟩ := h
  obtain ⟨S', hc, hv, hk⟩ := L_current hw hP hS
  have hL := hw.last
  refine ⟨S', ?_, hw, hP, hk⟩
  unfold F_X10_firstWrong
  rw [hc, Option.bind_some, show sm R ns = 1 + sm R ns + 1 - 2 by omega]
  have hL1 : 1 ≤ 1 + sm R ns := by omega
  generalize 1 + sm R ns = L at *
  refine lp_fi_t (p := wg w k D) (fun v => (oI v, S')) 2 (L + 1) (by omega) (by omega) (fun K i i1 i2 => ?_)
  unfold B_X10_firstWrong_7 F_X7_lastNumber
  rw [hv.1, Option.bind_some]
  by_cases q : L < i
  · simp (disch := omega) only [↓m1_d, ↓m2_d, e_m2, e_m2', e_m12, e_m21, liN, e_le, e_lt, e_eqm, e_eq, e_m1, e_m1', e_m1l, e_m1e, e_m1g, e_m1h, e_add, e_mul, e_sub, e_pred, e_rem, ix_nI, nz_nI, nI_clamp, nm_e1, Nat.add_zero, if_true, if_false, Nat.reduceEqDiff, eq_self, reduceIte]
    rw [if_pos q, if_pos (by omega)]
    rfl
  · simp (disch := omega) only [↓m1_d, ↓m2_d, e_m2, e_m2', e_m12, e_m21, liN, e_le, e_lt, e_eqm, e_eq, e_m1, e_m1', e_m1l, e_m1e, e_m1g, e_m1h, e_add, e_mul, e_sub, e_pred, e_rem, ix_nI, nz_nI, nI_clamp, nm_e1, Nat.add_zero, if_true, if_false, Nat.reduceEqDiff, eq_self, reduceIte, Option.bind_some, L_isMark hw hL hv (by omega : i < 2 ^ 31), L_isPrime (by omega : 1 ≤ i) (by omega : i ≤ 4801)]
    rw [if_neg q, if_neg (show ¬ L + 1 ≤ i by omega)]
    unfold isM wg
    rw [decide_eq_true (by omega : 2 ≤ i ∧ i ≤ L), Bool.true_and]
    cases mk w k D i <;> cases ip i <;> rfl
theorem V_missing (h : CY w ns R k D P S) : F_X10_missing P = some (oI (fi (mz w k D (1 + sm R ns)) 2 98)) := by
  obtain ⟨hw, hP, hS⟩ := h
  have hL := hw.last
  obtain ⟨T, T2, T70, hT, hi⟩ := sq_top (1 + sm R ns) (by omega) hL
  unfold F_X10_missing F_X3_wheelNow
  rw [hP.1, Option.bind_some, L_smallestMissing hw hP T2 T70 hT hi, Option.bind_some, (mz_top (w := w) (k := k) (D := D) T2 T70 hT hi).1]
/-- a laid prime without a mark, plus the wrong ones if none is missing -/
theorem V_gap (h : CY w ns R k D P S) :
    ∃ S', F_X10_gap P S = some (nI ((if (fi (mz w k D (1 + sm R ns)) 2 98).isNone = true then cn (wg w k D) 2 (sm R ns) else 0) + cn (fun i => !mk w k D i && ip i) 2 (sm R ns)), S') ∧ CY w ns R k D P S' := by
  obtain ⟨hw, hP, hS⟩ := h
  obtain ⟨S', hc, hv, hk, hcc⟩ := L_cur hw hP hS
  have hL := hw.last
  obtain ⟨T, T2, T70, hT, hi⟩ := sq_top (1 + sm R ns) (by omega) hL
  have hsm := L_smallestMissing hw hP T2 T70 hT hi
  have hwr := L_wrong hw hP hv hcc
  refine ⟨S', ?_, hw, hP, hk⟩
  rw [← (mz_top (w := w) (k := k) (D := D) T2 T70 hT hi).1]
  unfold F_X10_gap
  rw [hc, Option.bind_some]
  rw [show 1 + sm R ns - 1 = sm R ns by omega] at hwr
  have e2 : sm R ns = 1 + sm R ns + 1 - 2 := by omega
  generalize hp : (fun i => !mk w k D i && ip i) = p
  have hp2 : ∀ i, p i = (!mk w k D i && ip i) := fun i => by rw [← hp]
  refine Eq.trans (lp_cn_t (p := p) (fun c => (nI ((if (fi (ms w k D) 2 (T - 2)).isNone = true then cn (wg w k D) 2 (sm R ns) else 0) + c), S')) 2 (1 + sm R ns + 1) (by omega) (by omega) (fun K c i i1 i2 i3 => ?_)) (by rw [← e2])
  unfold B_X10_gap_9 F_X7_lastNumber
  rw [hv.1, Option.bind_some]
  by_cases q : 1 + sm R ns < i
  · simp (disch := omega) only [↓m1_d, ↓m2_d, e_m2, e_m2', e_m12, e_m21, liN, e_le, e_lt, e_eqm, e_eq, e_m1, e_m1', e_m1l, e_m1e, e_m1g, e_m1h, e_add, e_mul, e_sub, e_pred, e_rem, ix_nI, nz_nI, nI_clamp, nm_e1, Nat.add_zero, if_true, if_false, Nat.reduceEqDiff, eq_self, reduceIte]
    rw [if_pos q, if_pos (by omega)]
    unfold F_X3_wheelNow
    rw [hP.1, Option.bind_some, hsm, Option.bind_some, hwr]
    cases hf : fi (ms w k D) 2 (T - 2) with
    | none =>
      show some (nI c + nI (cn (wg w k D) 2 (sm R ns)), S') = some (nI (cn (wg w k D) 2 (sm R ns) + c), S')
      rw [e_add, Nat.add_comm]
    | some j =>
      obtain ⟨j1, j2, -, -⟩ := fi_some hf
      show (if nI j = m1 then _ else _) = some (nI (0 + c), S')
      rw [if_neg (show ¬ nI j = m1 from m1_ne (by omega)), Nat.zero_add]
  · simp (disch := omega) only [↓m1_d, ↓m2_d, e_m2, e_m2', e_m12, e_m21, liN, e_le, e_lt, e_eqm, e_eq, e_m1, e_m1', e_m1l, e_m1e, e_m1g, e_m1h, e_add, e_mul, e_sub, e_pred, e_rem, ix_nI, nz_nI, nI_clamp, nm_e1, Nat.add_zero, if_true, if_false, Nat.reduceEqDiff, eq_self, reduceIte, Option.bind_some, L_isMark hw hL hv (by omega : i < 2 ^ 31), L_isPrime (by omega : 1 ≤ i) (by omega : i ≤ 4801)]
    rw [if_neg q, if_neg (show ¬ 1 + sm R ns + 1 ≤ i by omega), hp2]
    have em : isM w k D (1 + sm R ns) i = mk w k D i := by
      unfold isM
      rw [decide_eq_true (by omega : 2 ≤ i ∧ i ≤ 1 + sm R ns), Bool.true_and]
    rw [em]
    cases mk w k D i <;> cases ip i <;> rfl
/-! takes, best, gives, marksNext, both -/
def tk (w ns : Nat) (R : Nat → Nat) (k : Nat) (D : Nat → Nat) (d : Nat) : Nat := cn (fun n => hit n d && mk w k D n) 2 (sm R ns)
theorem tk_from {d : Nat} (h2 : 2 ≤ d) : cn (fun n => decide (n % d = 0) && mk w k D n) (d * d) (1 + sm R ns + 1 - d * d) = tk w ns R k D d := by
  have hd2 : 2 * 2 ≤ d * d := Nat.mul_le_mul h2 h2
  have e := cn_from (p := fun n => hit n d && mk w k D n) (a := 2) (b := d * d) (L := 1 + sm R ns) (by omega) (fun n hn => by rw [hit_small hn, Bool.false_and])
  rw [show 1 + sm R ns + 1 - 2 = sm R ns by omega] at e
  unfold tk
  rw [e]
  refine cn_cong (fun n n1 n2 => ?_)
  unfold hit
  rw [decide_eq_true n1, Bool.true_and]
theorem V_takes (h : CY w ns R k D P S) {d : Nat} (h2 : 2 ≤ d) (h120 : d ≤ 120) :
    ∃ S', F_X10_takes (nI d) P S = some (.inr (nI (tk w ns R k D d)), S') ∧ CY w ns R k D P S' := by
  obtain ⟨hw, hP, hS⟩ := h
  obtain ⟨S', hc, hv, hk⟩ := L_current hw hP hS
  have hL := hw.last
  refine ⟨S', ?_, hw, hP, hk⟩
  unfold F_X10_takes
  rw [show F_X10_needInRange (nI d) 2 120 = some (.inr ()) from V_range (a := 2) (b := 120) h2 h120 (by decide), Option.bind_some, Sum.elim_inr, hc, Option.bind_some, L_taken hw hL hv h2 h120, Option.bind_some, tk_from h2]
theorem V_best (h : CY w ns R k D P S) :
    ∃ v S', F_X10_best P S = some (v, S') ∧ CY w ns R k D P S' ∧ (v = m1 ∨ ∃ d, v = nI d ∧ 2 ≤ d ∧ d ≤ 120 ∧ 0 < tk w ns R k D d) := by
  obtain ⟨hw, hP, hS⟩ := h
  obtain ⟨S', hc, hv, hk⟩ := L_current hw hP hS
  have hL := hw.last
  unfold F_X10_best
  rw [hc, Option.bind_some]
  have key : ∀ m f b c d, 121 - d = m → 2 ≤ d → d ≤ 121 → c < 2 ^ 31 → (b = m1 ∨ ∃ e, b = nI e ∧ 2 ≤ e ∧ e ≤ 120 ∧ 0 < tk w ns R k D e) → m < f →
      ∃ v, fx (fun _ _ _ _ => none) (B_X10_best_12 P) f b (nI c) (nI d) S' = some (v, S') ∧ (v = m1 ∨ ∃ e, v = nI e ∧ 2 ≤ e ∧ e ≤ 120 ∧ 0 < tk w ns R k D e) := by
    intro m
    induction m with
    | zero =>
      intro f b c d hm h2 h121 hc hb hf
      obtain ⟨f, rfl⟩ : ∃ q, f = q + 1 := ⟨f - 1, by omega⟩
      rw [fx_s]
      unfold B_X10_best_12
      rw [if_pos (show (120 : Int32) < nI d from nI_lt (a := 120) (by omega) (by omega))]
      exact ⟨b, rfl, hb⟩
    | succ m ih =>
      intro f b c d hm h2 h121 hc hb hf
      obtain ⟨f, rfl⟩ : ∃ q, f = q + 1 := ⟨f - 1, by omega⟩
      rw [fx_s]
      unfold B_X10_best_12
      have t1 := cn_le (fun n => hit n d && mk w k D n) (sm R ns) 2
      have t2 : cn (fun n => hit n d && mk w k D n) 2 (sm R ns) = tk w ns R k D d := rfl
      rw [if_neg (show ¬ (120 : Int32) < nI d from nI_nlt (a := 120) (by omega) (by decide)), L_taken hw hL hv h2 (by omega), Option.bind_some, tk_from h2]
      by_cases e : nI (tk w ns R k D d) ≤ nI c
      · rw [if_pos e, nm_e1, show nI d + 1 = nI (d + 1) from e_add d 1]
        exact ih f b c (d + 1) (by omega) (by omega) (by omega) hc hb (by omega)
      · rw [if_neg e, nm_e1, show nI d + 1 = nI (d + 1) from e_add d 1]
        have : 0 < tk w ns R k D d := by
          refine Nat.pos_of_ne_zero fun z => e ?_
          rw [z]
          exact nI_le (Nat.zero_le _) hc
        exact ih f (nI d) (tk w ns R k D d) (d + 1) (by omega) (by omega) (by omega) (by omega) (Or.inr ⟨d, rfl, h2, by omega, this⟩) (by omega)
  obtain ⟨v, k1, k2⟩ := key (121 - 2) FUEL (-1) 0 2 rfl (by omega) (by omega) (by decide) (Or.inl rfl) (by unfold FUEL; omega)
  exact ⟨v, S', k1, ⟨hw, hP, hk⟩, k2⟩
theorem V_gives (h : CY w ns R k D P S) {i : Nat} (hi : i < k) :
    ∃ S', F_X10_gives (nI i) P S = some (.inr (nI (cn (onl w k D i) 2 (sm R ns))), S') ∧ CY w ns R k D P S' := by
  obtain ⟨hw, hP, hS⟩ := h
  obtain ⟨S', hc, hv, hk⟩ := L_current hw hP hS
  have hL := hw.last
  refine ⟨S', ?_, hw, hP, hk⟩
  unfold F_X10_gives
  rw [V_needStriker hw hP hi, Option.bind_some, Sum.elim_inr, hc, Option.bind_some, L_countGiven hw hP hL hv hi, Option.bind_some, show 1 + sm R ns - 1 = sm R ns by omega]
theorem V_thickest (h : CY w ns R k D P S) (h398 : 1 + sm R ns ≤ 398) :
    ∃ v S', F_X10_thickest 400 P S = some (.inr (nI v), S') ∧ v ≤ cn (mk w k D) 2 (sm R ns) ∧ CY w ns R k D P S' := by
  obtain ⟨hw, hP, hS⟩ := h
  have hL := hw.last
  obtain ⟨S', hc, hv, hk⟩ := L_current hw hP hS
  unfold F_X10_thickest
  rw [show F_X10_needInRange 400 1 400 = some (.inr ()) from V_range (n := 400) (a := 1) (b := 400) (by omega) (by omega) (by decide), Option.bind_some, Sum.elim_inr, hc, Option.bind_some]
  have hM : sm R ns = 1 + sm R ns - 1 := by omega
  have hL1 : 1 ≤ 1 + sm R ns := by omega
  rw [hM]
  generalize hLL : 1 + sm R ns = L at *
  have tot := cn_le (mk w k D) (L - 1) 2
  have mbw : ∀ i, 2 ≤ i → i ≤ L → F_X7_marksBetween (nI i - 400 + 1) (nI i) S' = some (nI (mu w k D L i)) := by
    intro i i1 i2
    have e : nI i - nI 400 + 1 < 0 := by
      rcases i_cases (nI i - nI 400 + 1) with h | ⟨m, hm, e⟩
      · exact h
      · exfalso
        have h1 : nI (i + 1) = nI (m + 400) := by
          rw [← e_add m 400, ← e]
          show _ = nI i - nI 400 + nI 1 + nI 400
          rw [Int32.add_assoc, Int32.add_comm (nI 1), ← Int32.add_assoc, Int32.sub_add_cancel, e_add]
        have h2 : (i + 1) % 2 ^ 32 = (m + 400) % 2 ^ 32 := congrArg (fun x : Int32 => x.toBitVec.toNat) h1
        omega
    have e2 : F_X7_marksBetween (nI i - 400 + 1) (nI i) S' = F_X7_marksBetween (nI 1) (nI i) S' := by
      unfold F_X7_marksBetween
      rw [if_pos (show nI i - 400 + 1 < 2 from neg_lt e (k := 2) (by decide)), if_pos (show nI 1 < 2 by decide)]
    rw [e2, L_marksBetween hL hv (by omega) (by omega)]
    unfold mb
    rw [show max 1 2 - 1 = 1 by rfl, mu_lo (n := 1) (by omega), Nat.sub_zero]
  have key : ∀ m b i, L + 1 - i = m → b ≤ cn (mk w k D) 2 (L - 1) → 2 ≤ i → i ≤ max 2 (L + 1) → ∀ f, m < f →
      ∃ v, fx (fun _ _ _ => none) (B_X10_thickest_18 400 P) f (nI b) (nI i) S' = some (.inr (nI v), S') ∧ v ≤ cn (mk w k D) 2 (L - 1) := by
    intro m
    induction m with
    | zero =>
      intro b i hm hb h2 hi f hf
      obtain ⟨f, rfl⟩ : ∃ q, f = q + 1 := ⟨f - 1, by omega⟩
      rw [fx_s]
      unfold B_X10_thickest_18 F_X7_lastNumber
      rw [hv.1, Option.bind_some, if_pos (nI_lt (by omega) (by omega))]
      exact ⟨b, rfl, hb⟩
    | succ m ih =>
      intro b i hm hb h2 hi f hf
      obtain ⟨f, rfl⟩ : ∃ q, f = q + 1 := ⟨f - 1, by omega⟩
      rw [fx_s]
      generalize hK : fx (fun _ _ _ => none) (B_X10_thickest_18 400 P) f = K
      have ih2 : ∀ b, b ≤ cn (mk w k D) 2 (L - 1) → ∃ v, K (nI b) (nI (i + 1)) S' = some (.inr (nI v), S') ∧ v ≤ cn (mk w k D) 2 (L - 1) := fun b hb => by
        rw [← hK]
        exact ih b (i + 1) (by omega) hb (by omega) (by omega) f (by omega)
      have hmu : mu w k D L i ≤ cn (mk w k D) 2 (L - 1) := by
        have := mu_mono (w := w) (k := k) (D := D) (L := L) (a := i) (b := L) (by omega)
        unfold mu at this ⊢
        rw [Nat.min_self] at this
        exact this
      unfold B_X10_thickest_18 F_X7_lastNumber
      rw [hv.1, Option.bind_some, if_neg (nI_nlt (by omega) (by omega)), mbw i h2 (by omega), Option.bind_some]
      simp (disch := omega) only [↓m1_d, ↓m2_d, e_m2, e_m2', e_m12, e_m21, liN, e_le, e_lt, e_eqm, e_eq, e_m1, e_m1', e_m1l, e_m1e, e_m1g, e_m1h, e_add, e_mul, e_sub, e_pred, e_rem, ix_nI, nz_nI, nI_clamp, nm_e1, Nat.add_zero, if_true, if_false, Nat.reduceEqDiff, eq_self, reduceIte]
      by_cases y : b < mu w k D L i
      · rw [if_pos y]
        exact ih2 _ hmu
      · rw [if_neg y]
        exact ih2 _ hb
  obtain ⟨v, k1, k2⟩ := key (L + 1 - 2) 0 2 rfl (by omega) (Nat.le_refl _) (by omega) FUEL (by unfold FUEL; omega)
  exact ⟨v, S', k1, k2, hw, hP, hLL ▸ hk⟩
theorem V_marksNext (h : CY w ns R k D P S) {g : Nat} (h1 : 1 ≤ g) (h2 : g ≤ 400) :
    F_X10_marksNext (nI g) P = some (.inr (nI (cn (mk w k D) (2 + sm R ns) g))) := by
  obtain ⟨hw, hP, hS⟩ := h
  have hL := hw.last
  unfold F_X10_marksNext
  rw [show F_X10_needInRange (nI g) 1 400 = some (.inr ()) from V_range (a := 1) (b := 400) h1 h2 (by decide), Option.bind_some, Sum.elim_inr, show 2 + sm R ns = 1 + sm R ns + 1 by omega]
  unfold F_X3_lastNumber
  rw [hP.2.2.2.1, Option.bind_some]
  simp (disch := omega) only [↓m1_d, ↓m2_d, e_m2, e_m2', e_m12, e_m21, liN, e_le, e_lt, e_eqm, e_eq, e_m1, e_m1', e_m1l, e_m1e, e_m1g, e_m1h, e_add, e_mul, e_sub, e_pred, e_rem, ix_nI, nz_nI, nI_clamp, nm_e1, Nat.add_zero, if_true, if_false, Nat.reduceEqDiff, eq_self, reduceIte]
  refine fx3 (Q := fun u c v m r => u = nI (1 + sm R ns) ∧ ∃ a n, c = nI a ∧ v = nI n ∧ 1 + sm R ns + 1 ≤ n ∧ n ≤ 1 + sm R ns + 1 + g ∧ m = 1 + sm R ns + 1 + g - n ∧ r = some (.inr (nI (a + cn (mk w k D) n (1 + sm R ns + 1 + g - n))))) ?_ FUEL _ _ _ g _ ⟨rfl, 0, 1 + sm R ns + 1, rfl, rfl, Nat.le_refl _, by omega, by omega, by rw [Nat.zero_add, show 1 + sm R ns + 1 + g - (1 + sm R ns + 1) = g by omega]⟩ (by unfold FUEL; omega)
  rintro K _ _ _ _ _ ih ⟨rfl, a, n, rfl, rfl, n1, n2, rfl, rfl⟩
  unfold B_X10_marksNext_23 F_X3_wheelNow
  rw [hP.1, Option.bind_some]
  by_cases q : 1 + sm R ns + g < n
  · simp (disch := omega) only [↓m1_d, ↓m2_d, e_m2, e_m2', e_m12, e_m21, liN, e_le, e_lt, e_eqm, e_eq, e_m1, e_m1', e_m1l, e_m1e, e_m1g, e_m1h, e_add, e_mul, e_sub, e_pred, e_rem, ix_nI, nz_nI, nI_clamp, nm_e1, Nat.add_zero, if_true, if_false, Nat.reduceEqDiff, eq_self, reduceIte]
    rw [if_pos q, show 1 + sm R ns + 1 + g - n = 0 by omega]
    rfl
  · have hn : ∀ a, K (nI (1 + sm R ns)) (nI a) (nI (n + 1)) = some (.inr (nI (a + cn (mk w k D) (n + 1) (1 + sm R ns + 1 + g - (n + 1))))) := fun a =>
      ih _ _ _ (1 + sm R ns + 1 + g - (n + 1)) _ (by omega) ⟨rfl, a, n + 1, rfl, rfl, by omega, by omega, rfl, rfl⟩
    simp (disch := omega) only [↓m1_d, ↓m2_d, e_m2, e_m2', e_m12, e_m21, liN, e_le, e_lt, e_eqm, e_eq, e_m1, e_m1', e_m1l, e_m1e, e_m1g, e_m1h, e_add, e_mul, e_sub, e_pred, e_rem, ix_nI, nz_nI, nI_clamp, nm_e1, Nat.add_zero, if_true, if_false, Nat.reduceEqDiff, eq_self, reduceIte, Option.bind_some, L_isOnSpoke hw.1 (by omega : 1 ≤ n) (by omega : n < 2 ^ 31), L_firstHit hw hP (by omega : n < 2 ^ 31)]
    rw [if_neg q, show 1 + sm R ns + 1 + g - n = (1 + sm R ns + 1 + g - (n + 1)) + 1 by omega, cn_s]
    have em : mk w k D n = (!off w n && (fh k D n).isNone) := rfl
    rw [em]
    cases off w n with
    | true =>
      rw [show (if (!true && (fh k D n).isNone) = true then 1 else 0) = 0 from rfl, Nat.zero_add]
      exact hn a
    | false =>
      cases hf : fh k D n with
      | none =>
        rw [show (if (!false && (none : Option Nat).isNone) = true then 1 else 0) = 1 from rfl, ← Nat.add_assoc]
        exact hn (a + 1)
      | some j =>
        obtain ⟨-, hj, -⟩ := fi_some hf
        have := hw.2.2.2.2.1 j (by omega)
        rw [show (if (!false && (some j : Option Nat).isNone) = true then 1 else 0) = 0 from rfl, Nat.zero_add]
        show (if nI (D j) = m1 then _ else _) = _
        rw [if_neg (show ¬ nI (D j) = m1 from m1_ne (by omega))]
        exact hn a
theorem V_both (h : CY w ns R k D P S) {i j : Nat} (hi : i < k) (hj : j < k) :
    ∃ S', F_X10_both (nI i) (nI j) P S = some (.inr (nI (cn (bo w D i j) 2 (1 + sm R ns + 1 - 2))), S') ∧ CY w ns R k D P S' := by
  obtain ⟨hw, hP, hS⟩ := h
  have hL := hw.last
  obtain ⟨S', c1, c2, c3, c4⟩ := L_cur hw hP hS
  refine ⟨S', ?_, hw, hP, c3⟩
  have e : F_X10_nextCommon (nI i) (nI j) 0 P S = F_X10_nextCommon (nI i) (nI j) (nI 0) P S' := by
    unfold F_X10_nextCommon
    rw [c1, c4]
    rfl
  have run : fx (fun _ _ _ => none) (B_X10_both_21 (nI i) (nI j) P) FUEL (nI 0) (oI (fi (bo w D i j) 2 (1 + sm R ns + 1 - 2))) S' = some (.inr (nI (cn (bo w D i j) 2 (1 + sm R ns + 1 - 2))), S') := by
    refine fx3 (Q := fun u v T m r => T = S' ∧ ∃ c a, u = nI c ∧ v = oI (fi (bo w D i j) a (1 + sm R ns + 1 - a)) ∧ 2 ≤ a ∧ a ≤ 1 + sm R ns + 1 ∧ c + 2 ≤ a ∧ m = 1 + sm R ns + 1 - a ∧ r = some (.inr (nI (c + cn (bo w D i j) a (1 + sm R ns + 1 - a))), S')) ?_ FUEL (nI 0) _ _ (1 + sm R ns + 1 - 2) _ ⟨rfl, 0, 2, rfl, rfl, by omega, by omega, by omega, rfl, by rw [Nat.zero_add]⟩ (by unfold FUEL; omega)
    rintro K _ _ _ _ _ ih ⟨rfl, c, a, rfl, rfl, h2, ha, hca, rfl, rfl⟩
    unfold B_X10_both_21
    cases hf : fi (bo w D i j) a (1 + sm R ns + 1 - a) with
    | none =>
      rw [if_pos (show oI none = -1 from rfl), cn_zero (fi_none.mp hf), Nat.add_zero]
    | some v =>
      obtain ⟨j1, j2, j3, j4⟩ := fi_some hf
      show (if nI v = -1 then _ else _) = _
      rw [if_neg (m1_ne (by omega))]
      show (if 4801 ≤ nI c then _ else nm (nI c + 1) fun x3_11 => (F_X10_nextCommon (nI i) (nI j) (nI v) P _).bind _) = _
      simp (disch := omega) only [↓m1_d, ↓m2_d, e_m2, e_m2', e_m12, e_m21, liN, e_le, e_lt, e_eqm, e_eq, e_m1, e_m1', e_m1l, e_m1e, e_m1g, e_m1h, e_add, e_mul, e_sub, e_pred, e_rem, ix_nI, nz_nI, nI_clamp, nm_e1, Nat.add_zero, if_true, if_false, Nat.reduceEqDiff, eq_self, reduceIte]
      rw [if_neg (by omega), L_nextCommon hw hP c2 c4 hi hj (bo_hit j3).2 (by omega), Option.bind_some, show 1 + sm R ns + 1 - a = (v - a) + ((1 + sm R ns + 1 - (v + 1)) + 1) by omega, cn_add, cn_zero (fun i a1 a2 => j4 i a1 (by omega)), show a + (v - a) = v by omega, cn_s, if_pos j3, Nat.zero_add, ← Nat.add_assoc]
      exact ih _ _ _ (1 + sm R ns + 1 - (v + 1)) _ (by omega) ⟨rfl, c + 1, v + 1, rfl, rfl, by omega, by omega, by omega, rfl, rfl⟩
  unfold F_X10_both
  rw [V_needStriker hw hP hi, Option.bind_some, Sum.elim_inr, V_needStriker hw hP hj, Option.bind_some, Sum.elim_inr, e, L_nextCommon hw hP c2 c4 hi hj (Nat.zero_mod _) (by omega), fi_skip (by omega : 0 + 1 ≤ 2) (bo_lo hw hi), Option.bind_some]
  exact run
end
