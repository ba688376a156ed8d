/-! ===== PURE: size, account, stretch ===== -/
section
variable {w ns k : Nat} {R D : Nat → Nat} {P : PlanT} {row : Nat → Int32} {S : SieveT} {L : Nat}
/-- what both hold of one plan -/
def CX (w ns : Nat) (R : Nat → Nat) (k : Nat) (D : Nat → Nat) (P : PlanT) (row : Nat → Int32) (S : SieveT) : Prop :=
  WF w ns R k D ∧ PX w ns R k D P ∧ RX w ns R k D row ∧ SOK w k D (1 + sm R ns) P S
/-- an answer and a refusal of code c agree with the reference's -/
def ag (c : Nat) (r : Nat ⊕ Int32) (b th : Int32) : Prop := match r with
  | .inl q => q = c ∧ th = 1
  | .inr v => th = 0 ∧ b = v
/-- the refusals 2 and 1 -/
def ag2 (r : Nat ⊕ Int32) (b th : Int32) : Prop := match r with
  | .inl q => (q = 2 ∧ th = 1) ∨ (q = 1 ∧ th = 2)
  | .inr v => th = 0 ∧ b = v
theorem L_needInRange {n a b : Nat} (hn : n < 2 ^ 31) (ha : a < 2 ^ 31) (hb : b < 2 ^ 31) : F_X10_needInRange (nI n) (nI a) (nI b) = some (if a ≤ n ∧ n ≤ b then .inr () else .inl 1) := by
  unfold F_X10_needInRange
  simp (disch := omega) only [↓m1_d, ↓m2_d, e_m2, e_m2', e_m12, e_m21, liN, e_le, e_lt, e_eqm, e_eq, e_m1, e_m1', e_m1l, e_m1e, e_m1g, e_m1h, e_add, e_mul, e_sub, e_pred, e_rem, ix_nI, nz_nI, nI_clamp, nm_e1, Nat.add_zero, if_true, if_false, Nat.reduceEqDiff, eq_self, reduceIte]
  by_cases c : n < a
  · rw [if_pos c, if_neg (by omega)]
  · rw [if_neg c]
    by_cases d : n ≤ b
    · rw [if_pos d, if_pos (by omega)]
    · rw [if_neg d, if_neg (by omega)]
theorem L_needInRange_neg {x b : Int32} {a : Nat} (ha : a < 2 ^ 31) (h : x < 0) : F_X10_needInRange x (nI a) b = some (.inl 1) := by
  unfold F_X10_needInRange
  rw [if_pos (neg_lt h ha)]
/-! the wheel's spokes -/
def fr (w n : Nat) : Bool := (sp w n).isNone
theorem L_isFree (h : w ≤ 4) {n : Nat} (hn : n < 2 ^ 31) : F_X9_isFree (nI n) (nI w) = some (fr w n) := by
  unfold F_X9_isFree fr
  rw [L_smallestPrimeOf h hn, Option.bind_some]
  cases hs : sp w n with
  | none => rfl
  | some j =>
    obtain ⟨-, hj, -⟩ := fi_some hs
    have := wq_rng (k := j) (by omega)
    show (if nI (wq j) = -1 then _ else _) = _
    rw [if_neg (m1_ne (by omega))]
    rfl
theorem L_spokesUpTo (h : w ≤ 4) {n : Nat} (hn : n ≤ 5000) : F_X9_spokesUpTo (nI n) (nI w) = some (nI (cn (fr w) 1 n)) := by
  refine lp_cn (p := fr w) nI 1 (n + 1) (by omega) (by omega) (fun K c i h1 h2 h3 => ?_)
  unfold B_X9_spokesUpTo_4
  by_cases q : n < i
  · simp (disch := omega) only [↓m1_d, ↓m2_d, e_m2, e_m2', e_m12, e_m21, liN, e_le, e_lt, e_eqm, e_eq, e_m1, e_m1', e_m1l, e_m1e, e_m1g, e_m1h, e_add, e_mul, e_sub, e_pred, e_rem, ix_nI, nz_nI, nI_clamp, nm_e1, Nat.add_zero, if_true, if_false, Nat.reduceEqDiff, eq_self, reduceIte]
    rw [if_pos q, if_pos (by omega)]
  · simp (disch := omega) only [↓m1_d, ↓m2_d, e_m2, e_m2', e_m12, e_m21, liN, e_le, e_lt, e_eqm, e_eq, e_m1, e_m1', e_m1l, e_m1e, e_m1g, e_m1h, e_add, e_mul, e_sub, e_pred, e_rem, ix_nI, nz_nI, nI_clamp, nm_e1, Nat.add_zero, if_true, if_false, Nat.reduceEqDiff, eq_self, reduceIte, L_isFree h (by omega : i < 2 ^ 31), Option.bind_some]
    rw [if_neg q, if_neg (show ¬ n + 1 ≤ i by omega)]
/-- so many on a wheel -/
def ro (w : Nat) : Nat := ([1, 1, 2, 8, 48] : List Nat).getD w 0
theorem ro_cn (h : w ≤ 4) : cn (fr w) 1 (wp w) = ro w := by
  match w, h with
  | 0, _ => decide +kernel
  | 1, _ => decide +kernel
  | 2, _ => decide +kernel
  | 3, _ => decide +kernel
  | 4, _ => decide +kernel
theorem M_product (hw : WF w ns R k D) (hR : RX w ns R k D row) : F_X11_product row = some (nI (wp w)) := by
  have h4 := hw.1
  refine fx2 (Q := fun u v m r => ∃ i, u = nI (wp i) ∧ v = nI i ∧ i ≤ w ∧ m = w - i ∧ r = some (nI (wp w))) ?_ FUEL (nI 1) (nI 0) w _ ⟨0, rfl, rfl, by omega, by omega, rfl⟩ (by unfold FUEL; omega)
  rintro K _ _ _ _ ih ⟨i, rfl, rfl, hi, rfl, rfl⟩
  unfold B_X11_product_4
  rw [hR.1]
  by_cases c : w ≤ i
  · simp (disch := omega) only [↓m1_d, ↓m2_d, e_m2, e_m2', e_m12, e_m21, liN, e_le, e_lt, e_eqm, e_eq, e_m1, e_m1', e_m1l, e_m1e, e_m1g, e_m1h, e_add, e_mul, e_sub, e_pred, e_rem, ix_nI, nz_nI, nI_clamp, nm_e1, Nat.add_zero, if_true, if_false, Nat.reduceEqDiff, eq_self, reduceIte]
    rw [if_pos c, show i = w by omega]
  · have e : wp i * wq i = wp (i + 1) := by
      match i, (by omega : i < 4) with
      | 0, _ => rfl
      | 1, _ => rfl
      | 2, _ => rfl
      | 3, _ => rfl
    simp (disch := omega) only [↓m1_d, ↓m2_d, e_m2, e_m2', e_m12, e_m21, liN, e_le, e_lt, e_eqm, e_eq, e_m1, e_m1', e_m1l, e_m1e, e_m1g, e_m1h, e_add, e_mul, e_sub, e_pred, e_rem, ix_nI, nz_nI, nI_clamp, nm_e1, Nat.add_zero, if_true, if_false, Nat.reduceEqDiff, eq_self, reduceIte, p4_wq]
    rw [if_neg c, e]
    exact ih _ _ (w - (i + 1)) _ (by omega) ⟨i + 1, rfl, rfl, by omega, rfl, rfl⟩
theorem M_rightOnes (hw : WF w ns R k D) (hR : RX w ns R k D row) : F_X11_rightOnes row = some (nI (ro w)) := by
  have h4 := hw.1
  refine fx2 (Q := fun u v m r => ∃ i, u = nI (ro i) ∧ v = nI i ∧ i ≤ w ∧ m = w - i ∧ r = some (nI (ro w))) ?_ FUEL (nI 1) (nI 0) w _ ⟨0, rfl, rfl, by omega, by omega, rfl⟩ (by unfold FUEL; omega)
  rintro K _ _ _ _ ih ⟨i, rfl, rfl, hi, rfl, rfl⟩
  unfold B_X11_rightOnes_4
  rw [hR.1]
  by_cases c : w ≤ i
  · simp (disch := omega) only [↓m1_d, ↓m2_d, e_m2, e_m2', e_m12, e_m21, liN, e_le, e_lt, e_eqm, e_eq, e_m1, e_m1', e_m1l, e_m1e, e_m1g, e_m1h, e_add, e_mul, e_sub, e_pred, e_rem, ix_nI, nz_nI, nI_clamp, nm_e1, Nat.add_zero, if_true, if_false, Nat.reduceEqDiff, eq_self, reduceIte]
    rw [if_pos c, show i = w by omega]
  · have hq := wq_rng (k := i) (by omega)
    have e : ro i * (wq i - 1) = ro (i + 1) := by
      match i, (by omega : i < 4) with
      | 0, _ => rfl
      | 1, _ => rfl
      | 2, _ => rfl
      | 3, _ => rfl
    simp (disch := omega) only [↓m1_d, ↓m2_d, e_m2, e_m2', e_m12, e_m21, liN, e_le, e_lt, e_eqm, e_eq, e_m1, e_m1', e_m1l, e_m1e, e_m1g, e_m1h, e_add, e_mul, e_sub, e_pred, e_rem, ix_nI, nz_nI, nI_clamp, nm_e1, Nat.add_zero, if_true, if_false, Nat.reduceEqDiff, eq_self, reduceIte, p4_wq]
    rw [if_neg c, e]
    exact ih _ _ (w - (i + 1)) _ (by omega) ⟨i + 1, rfl, rfl, by omega, rfl, rfl⟩
/-! the missing ones -/
def pl (k : Nat) (D : Nat → Nat) (d : Nat) : Option Nat := fi (fun j => decide (D j = d)) 0 k
def ms (w k : Nat) (D : Nat → Nat) (d : Nat) : Bool := fr w d && ((pl k D d).isNone && (fh k D d).isNone)
theorem L_placeOf (hw : WF w ns R k D) (hP : PX w ns R k D P) {n : Nat} (hn : n < 2 ^ 31) : F_X3_placeOf (nI n) P = some (match pl k D n with | none => m1 | some j => nI j) := by
  have h30 := hw.2.2.2.1
  refine lp_fi (p := fun j => decide (D j = n)) (fun o => match o with | none => m1 | some j => nI j) 0 k (by omega) (by omega) (fun K i _ hi => ?_)
  unfold B_X3_placeOf_2
  rw [hP.2.2.2.2.1]
  by_cases c : k ≤ i
  · simp (disch := omega) only [↓m1_d, ↓m2_d, e_m2, e_m2', e_m12, e_m21, liN, e_le, e_lt, e_eqm, e_eq, e_m1, e_m1', e_m1l, e_m1e, e_m1g, e_m1h, e_add, e_mul, e_sub, e_pred, e_rem, ix_nI, nz_nI, nI_clamp, nm_e1, Nat.add_zero, if_true, if_false, Nat.reduceEqDiff, eq_self, reduceIte]
    rw [if_pos c, if_pos c]
  · have := hw.2.2.2.2.1 i (by omega)
    simp (disch := omega) only [↓m1_d, ↓m2_d, e_m2, e_m2', e_m12, e_m21, liN, e_le, e_lt, e_eqm, e_eq, e_m1, e_m1', e_m1l, e_m1e, e_m1g, e_m1h, e_add, e_mul, e_sub, e_pred, e_rem, ix_nI, nz_nI, nI_clamp, nm_e1, Nat.add_zero, if_true, if_false, Nat.reduceEqDiff, eq_self, reduceIte, hP.2.2.2.2.2 i (by omega), decide_eq_true_eq]
    rw [if_neg c, if_neg (by omega), if_neg c]
theorem M_placeOf (hw : WF w ns R k D) (hR : RX w ns R k D row) {n : Nat} (hn : n < 2 ^ 31) : F_X11_placeOf (nI n) row = some (match pl k D n with | none => m1 | some j => nI j) := by
  have h30 := hw.2.2.2.1
  refine lp_fi (p := fun j => decide (D j = n)) (fun o => match o with | none => m1 | some j => nI j) 0 k (by omega) (by omega) (fun K i _ hi => ?_)
  unfold B_X11_placeOf_2
  rw [hR.2.2.2.1]
  by_cases c : k ≤ i
  · simp (disch := omega) only [↓m1_d, ↓m2_d, e_m2, e_m2', e_m12, e_m21, liN, e_le, e_lt, e_eqm, e_eq, e_m1, e_m1', e_m1l, e_m1e, e_m1g, e_m1h, e_add, e_mul, e_sub, e_pred, e_rem, ix_nI, nz_nI, nI_clamp, nm_e1, Nat.add_zero, if_true, if_false, Nat.reduceEqDiff, eq_self, reduceIte]
    rw [if_pos c, if_pos c]
  · have := hw.2.2.2.2.1 i (by omega)
    simp (disch := omega) only [↓m1_d, ↓m2_d, e_m2, e_m2', e_m12, e_m21, liN, e_le, e_lt, e_eqm, e_eq, e_m1, e_m1', e_m1l, e_m1e, e_m1g, e_m1h, e_add, e_mul, e_sub, e_pred, e_rem, ix_nI, nz_nI, nI_clamp, nm_e1, Nat.add_zero, if_true, if_false, Nat.reduceEqDiff, eq_self, reduceIte, hR.2.2.2.2 i (by omega), decide_eq_true_eq]
theorem L_placeOf_neg (hw : WF w ns R k D) (hP : PX w ns R k D P) {x : Int32} (h : x < 0) : F_X3_placeOf x P = some m1 := by
  have h30 := hw.2.2.2.1
  have key := lp_fi (p := fun _ => false) (β := Int32) (bot := fun _ => none) (B := B_X3_placeOf_2 x P) (fun o => match o with | none => m1 | some j => nI j) 0 k (by omega) (by omega) (fun K i _ hi => by
    unfold B_X3_placeOf_2
    rw [hP.2.2.2.2.1]
    by_cases c : k ≤ i
    · simp (disch := omega) only [↓m1_d, ↓m2_d, e_m2, e_m2', e_m12, e_m21, liN, e_le, e_lt, e_eqm, e_eq, e_m1, e_m1', e_m1l, e_m1e, e_m1g, e_m1h, e_add, e_mul, e_sub, e_pred, e_rem, ix_nI, nz_nI, nI_clamp, nm_e1, Nat.add_zero, if_true, if_false, Nat.reduceEqDiff, eq_self, reduceIte]
      rw [if_pos c, if_pos c]
    · have := hw.2.2.2.2.1 i (by omega)
      have e : ¬ nI (D i) = x := fun q => by rw [← q] at h; exact nI_pos (by omega) h
      simp (disch := omega) only [↓m1_d, ↓m2_d, e_m2, e_m2', e_m12, e_m21, liN, e_le, e_lt, e_eqm, e_eq, e_m1, e_m1', e_m1l, e_m1e, e_m1g, e_m1h, e_add, e_mul, e_sub, e_pred, e_rem, ix_nI, nz_nI, nI_clamp, nm_e1, Nat.add_zero, if_true, if_false, Nat.reduceEqDiff, eq_self, reduceIte, hP.2.2.2.2.2 i (by omega)]
      rw [if_neg c, if_neg (by omega), if_neg e, if_neg c, if_neg (by decide)])
  rw [fi_none.mpr (fun _ _ _ => rfl)] at key
  exact key
theorem M_placeOf_neg (hw : WF w ns R k D) (hR : RX w ns R k D row) {x : Int32} (h : x < 0) : F_X11_placeOf x row = some m1 := by
  have h30 := hw.2.2.2.1
  have key := lp_fi (p := fun _ => false) (β := Int32) (bot := fun _ => none) (B := B_X11_placeOf_2 x row) (fun o => match o with | none => m1 | some j => nI j) 0 k (by omega) (by omega) (fun K i _ hi => by
    unfold B_X11_placeOf_2
    rw [hR.2.2.2.1]
    by_cases c : k ≤ i
    · simp (disch := omega) only [↓m1_d, ↓m2_d, e_m2, e_m2', e_m12, e_m21, liN, e_le, e_lt, e_eqm, e_eq, e_m1, e_m1', e_m1l, e_m1e, e_m1g, e_m1h, e_add, e_mul, e_sub, e_pred, e_rem, ix_nI, nz_nI, nI_clamp, nm_e1, Nat.add_zero, if_true, if_false, Nat.reduceEqDiff, eq_self, reduceIte]
      rw [if_pos c, if_pos c]
    · have := hw.2.2.2.2.1 i (by omega)
      have e : ¬ nI (D i) = x := fun q => by rw [← q] at h; exact nI_pos (by omega) h
      simp (disch := omega) only [↓m1_d, ↓m2_d, e_m2, e_m2', e_m12, e_m21, liN, e_le, e_lt, e_eqm, e_eq, e_m1, e_m1', e_m1l, e_m1e, e_m1g, e_m1h, e_add, e_mul, e_sub, e_pred, e_rem, ix_nI, nz_nI, nI_clamp, nm_e1, Nat.add_zero, if_true, if_false, Nat.reduceEqDiff, eq_self, reduceIte, hR.2.2.2.2 i (by omega)]
      rw [if_neg c, if_neg e, if_neg c, if_neg (by decide)])
  rw [fi_none.mpr (fun _ _ _ => rfl)] at key
  exact key
theorem L_firstHit (hw : WF w ns R k D) (hP : PX w ns R k D P) {n : Nat} (hn : n < 2 ^ 31) : F_X3_firstHit (nI n) P = some (match fh k D n with | none => m1 | some j => nI (D j)) := by
  have h30 := hw.2.2.2.1
  refine lp_fi (p := fun j => hit n (D j)) (fun o => match o with | none => m1 | some j => nI (D j)) 0 k (by omega) (by omega) (fun K i _ hi => ?_)
  unfold B_X3_firstHit_2
  rw [hP.2.2.2.2.1]
  by_cases c : k ≤ i
  · simp (disch := omega) only [↓m1_d, ↓m2_d, e_m2, e_m2', e_m12, e_m21, liN, e_le, e_lt, e_eqm, e_eq, e_m1, e_m1', e_m1l, e_m1e, e_m1g, e_m1h, e_add, e_mul, e_sub, e_pred, e_rem, ix_nI, nz_nI, nI_clamp, nm_e1, Nat.add_zero, if_true, if_false, Nat.reduceEqDiff, eq_self, reduceIte]
    rw [if_pos c, if_pos c]
  · have hd := hw.2.2.2.2.1 i (by omega)
    have hdd : D i * D i ≤ 120 * 120 := Nat.mul_le_mul hd.2 hd.2
    simp (disch := omega) only [↓m1_d, ↓m2_d, e_m2, e_m2', e_m12, e_m21, liN, e_le, e_lt, e_eqm, e_eq, e_m1, e_m1', e_m1l, e_m1e, e_m1g, e_m1h, e_add, e_mul, e_sub, e_pred, e_rem, ix_nI, nz_nI, nI_clamp, nm_e1, Nat.add_zero, if_true, if_false, Nat.reduceEqDiff, eq_self, reduceIte, hP.2.2.2.2.2 i (by omega)]
    rw [if_neg c, if_neg (by omega), if_neg (by omega), if_neg c]
    unfold hit
    simp only [Bool.and_eq_true, decide_eq_true_eq]
    by_cases q : n < D i * D i
    · rw [if_pos q, if_neg (by omega)]
    · rw [if_neg q]
      by_cases z : n % D i = 0
      · rw [if_pos z, if_pos ⟨by omega, z⟩]
      · rw [if_neg z, if_neg (fun y => z y.2)]
theorem L_isMissing (hw : WF w ns R k D) (hP : PX w ns R k D P) {n : Nat} (hn : n < 2 ^ 31) : F_X3_isMissing (nI n) (nI w) P = some (ms w k D n) := by
  unfold F_X3_isMissing ms fr
  rw [L_smallestPrimeOf hw.1 hn, Option.bind_some]
  have h4 := hw.1
  have h30 := hw.2.2.2.1
  cases hs : sp w n with
  | some j =>
    obtain ⟨-, hj, -⟩ := fi_some hs
    have := wq_rng (k := j) (by omega)
    show (if nI (wq j) = -1 then _ else _) = _
    rw [if_neg (m1_ne (by omega))]
    rfl
  | none =>
    show (if m1 = -1 then _ else _) = _
    rw [if_pos (by rfl), L_placeOf hw hP hn, Option.bind_some]
    cases hp : pl k D n with
    | some j =>
      obtain ⟨-, hj, -⟩ := fi_some hp
      show (if nI j = -1 then _ else _) = _
      rw [if_neg (m1_ne (by omega))]
      rfl
    | none =>
      show (if m1 = -1 then _ else _) = _
      rw [if_pos (by rfl), L_firstHit hw hP hn, Option.bind_some]
      cases hf : fh k D n with
      | some j =>
        obtain ⟨-, hj, -⟩ := fi_some hf
        have := hw.2.2.2.2.1 j (by omega)
        show (if nI (D j) = -1 then _ else _) = _
        rw [if_neg (m1_ne (by omega))]
        rfl
      | none => rfl
/-- the first number whose square lies above -/
theorem sq_top (L : Nat) (h : 1 ≤ L) (hL : L ≤ 4801) : ∃ T, 2 ≤ T ∧ T ≤ 70 ∧ L < T * T ∧ ∀ i, i < T → i * i ≤ L := by
  have key : ∀ n, n * n ≤ L ∨ ∃ T, T ≤ n ∧ L < T * T ∧ ∀ i, i < T → i * i ≤ L := by
    intro n
    induction n with
    | zero => exact Or.inl (by omega)
    | succ n ih =>
      rcases ih with ih | ⟨T, h1, h2, h3⟩
      · by_cases c : (n + 1) * (n + 1) ≤ L
        · exact Or.inl c
        · refine Or.inr ⟨n + 1, Nat.le_refl _, by omega, fun i hi => ?_⟩
          exact Nat.le_trans (Nat.mul_le_mul (by omega : i ≤ n) (by omega : i ≤ n)) ih
      · exact Or.inr ⟨T, by omega, h2, h3⟩
  rcases key 70 with c | ⟨T, h1, h2, h3⟩
  · exact absurd c (by omega)
  · refine ⟨T, ?_, h1, h2, h3⟩
    match T, h2 with
    | 0, h2 => omega
    | 1, h2 => omega
    | T + 2, _ => omega
theorem L_countMissing (hw : WF w ns R k D) (hP : PX w ns R k D P) {T : Nat} (h2 : 2 ≤ T) (h70 : T ≤ 70) (hT : 1 + sm R ns < T * T) (hi : ∀ i, i < T → i * i ≤ 1 + sm R ns) :
    F_X3_countMissing (nI w) P = some (nI (cn (ms w k D) 2 (T - 2))) := by
  have hL := hw.last
  unfold F_X3_countMissing F_X3_lastNumber
  rw [hP.2.2.2.1, Option.bind_some]
  refine fx3 (Q := fun u c v m r => u = nI (1 + sm R ns) ∧ ∃ i a, c = nI a ∧ v = nI i ∧ 2 ≤ i ∧ i ≤ T ∧ m = T - i ∧ r = some (nI (a + cn (ms w k D) i (T - i)))) ?_ FUEL _ (nI 0) (nI 2) (T - 2) _ ⟨rfl, 2, 0, rfl, rfl, by omega, by omega, rfl, by rw [Nat.zero_add]⟩ (by unfold FUEL; omega)
  rintro K _ _ _ _ _ ih ⟨rfl, i, a, rfl, rfl, h1, h3, rfl, rfl⟩
  unfold B_X3_countMissing_10
  have hii : i * i ≤ 70 * 70 := Nat.mul_le_mul (by omega) (by omega)
  by_cases c : i = T
  · simp (disch := omega) only [↓m1_d, ↓m2_d, e_m2, e_m2', e_m12, e_m21, liN, e_le, e_lt, e_eqm, e_eq, e_m1, e_m1', e_m1l, e_m1e, e_m1g, e_m1h, e_add, e_mul, e_sub, e_pred, e_rem, ix_nI, nz_nI, nI_clamp, nm_e1, Nat.add_zero, if_true, if_false, Nat.reduceEqDiff, eq_self, reduceIte]
    rw [if_neg (by omega), if_pos (by rw [c]; exact hT), show T - i = 0 by omega]
    rfl
  · have := hi i (by omega)
    simp (disch := omega) only [↓m1_d, ↓m2_d, e_m2, e_m2', e_m12, e_m21, liN, e_le, e_lt, e_eqm, e_eq, e_m1, e_m1', e_m1l, e_m1e, e_m1g, e_m1h, e_add, e_mul, e_sub, e_pred, e_rem, ix_nI, nz_nI, nI_clamp, nm_e1, Nat.add_zero, if_true, if_false, Nat.reduceEqDiff, eq_self, reduceIte, L_isMissing hw hP (by omega : i < 2 ^ 31), Option.bind_some]
    rw [if_neg (by omega), if_neg (by omega), show T - i = (T - (i + 1)) + 1 by omega, cn_s]
    by_cases e : ms w k D i = true
    · rw [if_pos e, if_pos e, ← Nat.add_assoc]
      exact ih _ _ _ (T - (i + 1)) _ (by omega) ⟨rfl, i + 1, a + 1, rfl, rfl, by omega, by omega, rfl, rfl⟩
    · rw [if_neg e, if_neg e, Nat.zero_add]
      exact ih _ _ _ (T - (i + 1)) _ (by omega) ⟨rfl, i + 1, a, rfl, rfl, by omega, by omega, rfl, rfl⟩
theorem M_isWheelPrime (hw : WF w ns R k D) (hR : RX w ns R k D row) {n : Nat} (hn : n < 2 ^ 31) : F_X11_isWheelPrime (nI n) row = some (fi (fun j => decide (wq j = n)) 0 w).isSome := by
  have h4 := hw.1
  refine lp_fi (fun o => o.isSome) 0 w (by omega) (by omega) (fun K i _ hi => ?_)
  unfold B_X11_isWheelPrime_2
  rw [hR.1]
  by_cases c : w ≤ i
  · simp (disch := omega) only [↓m1_d, ↓m2_d, e_m2, e_m2', e_m12, e_m21, liN, e_le, e_lt, e_eqm, e_eq, e_m1, e_m1', e_m1l, e_m1e, e_m1g, e_m1h, e_add, e_mul, e_sub, e_pred, e_rem, ix_nI, nz_nI, nI_clamp, nm_e1, Nat.add_zero, if_true, if_false, Nat.reduceEqDiff, eq_self, reduceIte]
    rw [if_pos c, if_pos c]; rfl
  · have hq := wq_rng (k := i) (by omega)
    simp (disch := omega) only [↓m1_d, ↓m2_d, e_m2, e_m2', e_m12, e_m21, liN, e_le, e_lt, e_eqm, e_eq, e_m1, e_m1', e_m1l, e_m1e, e_m1g, e_m1h, e_add, e_mul, e_sub, e_pred, e_rem, ix_nI, nz_nI, nI_clamp, nm_e1, Nat.add_zero, if_true, if_false, Nat.reduceEqDiff, eq_self, reduceIte, p4_wq, decide_eq_true_eq]
    rw [if_neg c, if_neg c]
    rfl
/-- free of the wheel: on a spoke and none of its primes -/
theorem fr_eq (h4 : w ≤ 4) {n : Nat} (h1 : 1 ≤ n) : fr w n = (!off w n && !(fi (fun j => decide (wq j = n)) 0 w).isSome) := by
  rw [Bool.eq_iff_iff]
  unfold fr off sp
  simp only [Bool.and_eq_true, Bool.not_eq_true', Option.isNone_iff_eq_none, Option.isSome_eq_false_iff]
  rw [fi_none, fi_none, fi_none]
  simp only [Bool.and_eq_false_iff, decide_eq_false_iff_not]
  refine ⟨fun h => ⟨fun i a b => Or.inr (h i a b), fun i a b => ?_⟩, fun ⟨h, g⟩ i a b => ?_⟩
  · intro e
    refine h i a b ?_
    rw [e]
    exact Nat.mod_self n
  · intro e
    have hq := wq_rng (k := i) (by omega)
    rcases h i a b with c | c
    · obtain ⟨t, ht⟩ := Nat.dvd_of_mod_eq_zero e
      match t, ht with
      | 0, ht => omega
      | 1, ht => exact g i a b (by omega)
      | t + 2, ht =>
        rw [ht, Nat.mul_add] at c
        omega
    · exact c e
theorem M_couldStrike (hw : WF w ns R k D) (hR : RX w ns R k D row) (hL : L ≤ 4801) {o t : Nat → Int32} (hS : RS w k D L o t) {n : Nat} (h2 : 2 ≤ n) (hn : n ≤ 5000) (hq : n * n ≤ L) :
    F_X11_couldStrike (nI n) (nI L) row t = some (ms w k D n) := by
  have h30 := hw.2.2.2.1
  have hnL : n ≤ L := Nat.le_trans (by simpa using Nat.mul_le_mul_left n (by omega : 1 ≤ n)) hq
  unfold F_X11_couldStrike
  simp (disch := omega) only [↓m1_d, ↓m2_d, e_m2, e_m2', e_m12, e_m21, liN, e_le, e_lt, e_eqm, e_eq, e_m1, e_m1', e_m1l, e_m1e, e_m1g, e_m1h, e_add, e_mul, e_sub, e_pred, e_rem, ix_nI, nz_nI, nI_clamp, nm_e1, Nat.add_zero, if_true, if_false, Nat.reduceEqDiff, eq_self, reduceIte, M_isMark hw hR hL hS (by omega : n < 2 ^ 31), Option.bind_some]
  rw [if_neg (by omega), M_placeOf hw hR (by omega), M_isWheelPrime hw hR (by omega), Option.bind_some, Option.bind_some]
  unfold ms
  rw [fr_eq hw.1 (by omega)]
  unfold isM mk
  rw [decide_eq_true (by omega : 2 ≤ n ∧ n ≤ L), Bool.true_and]
  cases off w n with
  | true => rfl
  | false =>
    cases hf : fh k D n with
    | some j =>
      cases (fi (fun j => decide (wq j = n)) 0 w) <;> cases pl k D n <;> rfl
    | none =>
      cases hp : pl k D n with
      | some j =>
        obtain ⟨-, hj, -⟩ := fi_some hp
        show (if nI j = -1 then _ else _) = _
        rw [if_neg (m1_ne (by omega))]
        cases (fi (fun j => decide (wq j = n)) 0 w) <;> rfl
      | none => cases (fi (fun j => decide (wq j = n)) 0 w) <;> rfl
theorem M_missingFrom (hw : WF w ns R k D) (hR : RX w ns R k D row) (hL : L ≤ 4801) {o t : Nat → Int32} (hS : RS w k D L o t) {T : Nat} (h70 : T ≤ 70) (hT : L < T * T) (hi : ∀ i, i < T → i * i ≤ L) {a : Nat} (h2 : 2 ≤ a) (ha : a ≤ T) :
    F_X11_missingFrom (nI a) (nI L) row t = some (oI (fi (ms w k D) a (T - a))) := by
  refine lp_fi (p := ms w k D) oI a T (by omega) ha (fun K i h1 h3 => ?_)
  unfold B_X11_missingFrom_2
  have hii : i * i ≤ 70 * 70 := Nat.mul_le_mul (by omega) (by omega)
  by_cases c : T ≤ i
  · have e : i = T := by omega
    simp (disch := omega) only [↓m1_d, ↓m2_d, e_m2, e_m2', e_m12, e_m21, liN, e_le, e_lt, e_eqm, e_eq, e_m1, e_m1', e_m1l, e_m1e, e_m1g, e_m1h, e_add, e_mul, e_sub, e_pred, e_rem, ix_nI, nz_nI, nI_clamp, nm_e1, Nat.add_zero, if_true, if_false, Nat.reduceEqDiff, eq_self, reduceIte]
    rw [if_pos (by rw [e]; exact hT), if_pos c]; rfl
  · have := hi i (by omega)
    simp (disch := omega) only [↓m1_d, ↓m2_d, e_m2, e_m2', e_m12, e_m21, liN, e_le, e_lt, e_eqm, e_eq, e_m1, e_m1', e_m1l, e_m1e, e_m1g, e_m1h, e_add, e_mul, e_sub, e_pred, e_rem, ix_nI, nz_nI, nI_clamp, nm_e1, Nat.add_zero, if_true, if_false, Nat.reduceEqDiff, eq_self, reduceIte]
    rw [if_neg (by omega), if_neg c, M_couldStrike hw hR hL hS (by omega) (by omega) this, Option.bind_some]
    rfl
theorem M_countMissing (hw : WF w ns R k D) (hR : RX w ns R k D row) (hL : L ≤ 4801) {o t : Nat → Int32} (hS : RS w k D L o t) {T : Nat} (hT2 : 2 ≤ T) (h70 : T ≤ 70) (hT : L < T * T) (hi : ∀ i, i < T → i * i ≤ L) :
    F_X11_countMissing (nI L) row t = some (nI (cn (ms w k D) 2 (T - 2))) := by
  unfold F_X11_countMissing
  rw [show (2 : Int32) = nI 2 from rfl, M_missingFrom hw hR hL hS h70 hT hi (Nat.le_refl _) hT2, Option.bind_some]
  refine fx2 (Q := fun u v m r => ∃ c a, u = nI c ∧ v = oI (fi (ms w k D) a (T - a)) ∧ 2 ≤ a ∧ a ≤ T ∧ m = T - a ∧ r = some (nI (c + cn (ms w k D) a (T - a)))) ?_ FUEL (nI 0) _ (T - 2) _ ⟨0, 2, rfl, rfl, by omega, by omega, rfl, by rw [Nat.zero_add]⟩ (by unfold FUEL; omega)
  rintro K _ _ _ _ ih ⟨c, a, rfl, rfl, h2, ha, rfl, rfl⟩
  unfold B_X11_countMissing_8
  cases hf : fi (ms w k D) a (T - a) with
  | none =>
    rw [if_pos (show oI none = -1 from rfl), cn_zero (fi_none.mp hf), Nat.add_zero]
  | some j =>
    obtain ⟨j1, j2, j3, j4⟩ := fi_some hf
    show (if nI j = -1 then _ else _) = _
    rw [if_neg (m1_ne (by omega))]
    show (F_X11_missingFrom (nI j + 1) (nI L) row t).bind _ = _
    simp (disch := omega) only [↓m1_d, ↓m2_d, e_m2, e_m2', e_m12, e_m21, liN, e_le, e_lt, e_eqm, e_eq, e_m1, e_m1', e_m1l, e_m1e, e_m1g, e_m1h, e_add, e_mul, e_sub, e_pred, e_rem, ix_nI, nz_nI, nI_clamp, nm_e1, Nat.add_zero, if_true, if_false, Nat.reduceEqDiff, eq_self, reduceIte]
    rw [M_missingFrom hw hR hL hS h70 hT hi (by omega) (by omega : j + 1 ≤ T), Option.bind_some, show T - a = (j - a) + ((T - (j + 1)) + 1) by omega, cn_add, cn_zero (fun i a1 a2 => j4 i a1 (by omega)), show a + (j - a) = j by omega, cn_s, if_pos j3, Nat.zero_add, ← Nat.add_assoc]
    exact ih _ _ (T - (j + 1)) _ (by omega) ⟨c + 1, j + 1, rfl, rfl, by omega, by omega, rfl, rfl⟩
end
