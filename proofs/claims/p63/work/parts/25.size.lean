/-! ===== PURE: size, account, stretch ===== -/
section
variable {w ns k : Nat} {R D : Nat → Nat} {P : PlanT} {row : Nat → Int32} {S : SieveT} {L : Nat}
/-- an answer and a refusal of code c agree with the reference's -/
def ag (c : Nat) (r : Nat ⊕ Int32) (b th : Int32) : Prop := match r with
  | .inl q => q = c ∧ th = 1
  | .inr v => th = 0 ∧ b = v
/-- the refusals 2 and 1 -/
def ag2 (r : Nat ⊕ Int32) (b th : Int32) : Prop := match r with
  | .inl q => (q = 2 ∧ th = 1) ∨ (q = 1 ∧ th = 2)
  | .inr v => th = 0 ∧ b = v
theorem L_needInRange {n a b : Nat} (hn : n < 2 ^ 31) (ha : a < 2 ^ 31) (hb : b < 2 ^ 31) : F_X10_needInRange (nI n) (nI a) (nI b) = some (if a ≤ n ∧ n ≤ b then .inr () else .inl 1) := by
  unfold F_X10_needInRange
  simp (disch := omega) only [↓m1_d, ↓m2_d, e_m2, e_m2', e_m12, e_m21, liN, e_le, e_lt, e_eqm, e_eq, e_m1, e_m1', e_m1l, e_m1e, e_m1g, e_m1h, e_add, e_mul, e_sub, e_pred, e_rem, ix_nI, nz_nI, nI_clamp, nm_e1, Nat.add_zero, if_true, if_false, Nat.reduceEqDiff, eq_self, reduceIte]
  by_cases c : n < a
  · rw [if_pos c, if_neg (by omega)]
  · rw [if_neg c]
    by_cases d : n ≤ b
    · rw [if_pos d, if_pos (by omega)]
    · rw [if_neg d, if_neg (by omega)]
theorem L_needInRange_neg {x b : Int32} {a : Nat} (ha : a < 2 ^ 31) (h : x < 0) : F_X10_needInRange x (nI a) b = some (.inl 1) := by
  unfold F_X10_needInRange
  rw [if_pos (neg_lt h ha)]
/-! the wheel's spokes -/
def fr (w n : Nat) : Bool := (sp w n).isNone
theorem L_isFree (h : w ≤ 4) {n : Nat} (hn : n < 2 ^ 31) : F_X9_isFree (nI n) (nI w) = some (fr w n) := by
  unfold F_X9_isFree fr
  rw [L_smallestPrimeOf h hn, Option.bind_some]
  cases hs : sp w n with
  | none => rfl
  | some j =>
    obtain ⟨-, hj, -⟩ := fi_some hs
    have := wq_rng (k := j) (by omega)
    show (if nI (wq j) = -1 then _ else _) = _
    rw [if_neg (m1_ne (by omega))]
    rfl
theorem L_spokesUpTo (h : w ≤ 4) {n : Nat} (hn : n ≤ 5000) : F_X9_spokesUpTo (nI n) (nI w) = some (nI (cn (fr w) 1 n)) := by
  refine lp_cn (p := fr w) nI 1 (n + 1) (by omega) (by omega) (fun K c i h1 h2 h3 => ?_)
  unfold B_X9_spokesUpTo_4
  by_cases q : n < i
  · simp (disch := omega) only [↓m1_d, ↓m2_d, e_m2, e_m2', e_m12, e_m21, liN, e_le, e_lt, e_eqm, e_eq, e_m1, e_m1', e_m1l, e_m1e, e_m1g, e_m1h, e_add, e_mul, e_sub, e_pred, e_rem, ix_nI, nz_nI, nI_clamp, nm_e1, Nat.add_zero, if_true, if_false, Nat.reduceEqDiff, eq_self, reduceIte]
    rw [if_pos q, if_pos (by omega)]
  · simp (disch := omega) only [↓m1_d, ↓m2_d, e_m2, e_m2', e_m12, e_m21, liN, e_le, e_lt, e_eqm, e_eq, e_m1, e_m1', e_m1l, e_m1e, e_m1g, e_m1h, e_add, e_mul, e_sub, e_pred, e_rem, ix_nI, nz_nI, nI_clamp, nm_e1, Nat.add_zero, if_true, if_false, Nat.reduceEqDiff, eq_self, reduceIte, L_isFree h (by omega : i < 2 ^ 31), Option.bind_some]
    rw [if_neg q, if_neg (show ¬ n + 1 ≤ i by omega)]
/-- so many on a wheel -/
def ro (w : Nat) : Nat := ([1, 1, 2, 8, 48] : List Nat).getD w 0
theorem ro_cn (h : w ≤ 4) : cn (fr w) 1 (wp w) = ro w := by
  match w, h with
  | 0, _ => decide +kernel
  | 1, _ => decide +kernel
  | 2, _ => decide +kernel
  | 3, _ => decide +kernel
  | 4, _ => decide +kernel
/-! the missing ones -/
def pl (k : Nat) (D : Nat → Nat) (d : Nat) : Option Nat := fi (fun j => decide (D j = d)) 0 k
def ms (w k : Nat) (D : Nat → Nat) (d : Nat) : Bool := fr w d && ((pl k D d).isNone && (fh k D d).isNone)
theorem L_placeOf (hw : WF w ns R k D) (hP : PX w ns R k D P) {n : Nat} (hn : n < 2 ^ 31) : F_X3_placeOf (nI n) P = some (match pl k D n with | none => m1 | some j => nI j) := by
  have h30 := hw.2.2.2.1
  refine lp_fi (p := fun j => decide (D j = n)) (fun o => match o with | none => m1 | some j => nI j) 0 k (by omega) (by omega) (fun K i _ hi => ?_)
  unfold B_X3_placeOf_2
  rw [hP.2.2.2.2.1]
  by_cases c : k ≤ i
  · simp (disch := omega) only [↓m1_d, ↓m2_d, e_m2, e_m2', e_m12, e_m21, liN, e_le, e_lt, e_eqm, e_eq, e_m1, e_m1', e_m1l, e_m1e, e_m1g, e_m1h, e_add, e_mul, e_sub, e_pred, e_rem, ix_nI, nz_nI, nI_clamp, nm_e1, Nat.add_zero, if_true, if_false, Nat.reduceEqDiff, eq_self, reduceIte]
    rw [if_pos c, if_pos c]
  · have := hw.2.2.2.2.1 i (by omega)
    simp (disch := omega) only [↓m1_d, ↓m2_d, e_m2, e_m2', e_m12, e_m21, liN, e_le, e_lt, e_eqm, e_eq, e_m1, e_m1', e_m1l, e_m1e, e_m1g, e_m1h, e_add, e_mul, e_sub, e_pred, e_rem, ix_nI, nz_nI, nI_clamp, nm_e1, Nat.add_zero, if_true, if_false, Nat.reduceEqDiff, eq_self, reduceIte, hP.2.2.2.2.2 i (by omega), decide_eq_true_eq]
    rw [if_neg c, if_neg (by omega), if_neg c]
theorem L_placeOf_neg (hw : WF w ns R k D) (hP : PX w ns R k D P) {x : Int32} (h : x < 0) : F_X3_placeOf x P = some m1 := by
  have h30 := hw.2.2.2.1
  have key := lp_fi (p := fun _ => false) (β := Int32) (bot := fun _ => none) (B := B_X3_placeOf_2 x P) (fun o => match o with | none => m1 | some j => nI j) 0 k (by omega) (by omega) (fun K i _ hi => by
    unfold B_X3_placeOf_2
    rw [hP.2.2.2.2.1]
    by_cases c : k ≤ i
    · simp (disch := omega) only [↓m1_d, ↓m2_d, e_m2, e_m2', e_m12, e_m21, liN, e_le, e_lt, e_eqm, e_eq, e_m1, e_m1', e_m1l, e_m1e, e_m1g, e_m1h, e_add, e_mul, e_sub, e_pred, e_rem, ix_nI, nz_nI, nI_clamp, nm_e1, Nat.add_zero, if_true, if_false, Nat.reduceEqDiff, eq_self, reduceIte]
      rw [if_pos c, if_pos c]
    · have := hw.2.2.2.2.1 i (by omega)
      have e : ¬ nI (D i) = x := fun q => by rw [← q] at h; exact nI_pos (by omega) h
      simp (disch := omega) only [↓m1_d, ↓m2_d, e_m2, e_m2', e_m12, e_m21, liN, e_le, e_lt, e_eqm, e_eq, e_m1, e_m1', e_m1l, e_m1e, e_m1g, e_m1h, e_add, e_mul, e_sub, e_pred, e_rem, ix_nI, nz_nI, nI_clamp, nm_e1, Nat.add_zero, if_true, if_false, Nat.reduceEqDiff, eq_self, reduceIte, hP.2.2.2.2.2 i (by omega)]
      rw [if_neg c, if_neg (by omega), if_neg e, if_neg c, if_neg (by decide)])
  rw [fi_none.mpr (fun _ _ _ => rfl)] at key
  exact key
theorem L_firstHit (hw : WF w ns R k D) (hP : PX w ns R k D P) {n : Nat} (hn : n < 2 ^ 31) : F_X3_firstHit (nI n) P = some (match fh k D n with | none => m1 | some j => nI (D j)) := by
  have h30 := hw.2.2.2.1
  refine lp_fi (p := fun j => hit n (D j)) (fun o => match o with | none => m1 | some j => nI (D j)) 0 k (by omega) (by omega) (fun K i _ hi => ?_)
  unfold B_X3_firstHit_2
  rw [hP.2.2.2.2.1]
  by_cases c : k ≤ i
  · simp (disch := omega) only [↓m1_d, ↓m2_d, e_m2, e_m2', e_m12, e_m21, liN, e_le, e_lt, e_eqm, e_eq, e_m1, e_m1', e_m1l, e_m1e, e_m1g, e_m1h, e_add, e_mul, e_sub, e_pred, e_rem, ix_nI, nz_nI, nI_clamp, nm_e1, Nat.add_zero, if_true, if_false, Nat.reduceEqDiff, eq_self, reduceIte]
    rw [if_pos c, if_pos c]
  · have hd := hw.2.2.2.2.1 i (by omega)
    have hdd : D i * D i ≤ 120 * 120 := Nat.mul_le_mul hd.2 hd.2
    simp (disch := omega) only [↓m1_d, ↓m2_d, e_m2, e_m2', e_m12, e_m21, liN, e_le, e_lt, e_eqm, e_eq, e_m1, e_m1', e_m1l, e_m1e, e_m1g, e_m1h, e_add, e_mul, e_sub, e_pred, e_rem, ix_nI, nz_nI, nI_clamp, nm_e1, Nat.add_zero, if_true, if_false, Nat.reduceEqDiff, eq_self, reduceIte, hP.2.2.2.2.2 i (by omega)]
    rw [if_neg c, if_neg (by omega), if_neg (by omega), if_neg c]
    unfold hit
    simp only [Bool.and_eq_true, decide_eq_true_eq]
    by_cases q : n < D i * D i
    · rw [if_pos q, if_neg (by omega)]
    · rw [if_neg q]
      by_cases z : n % D i = 0
      · rw [if_pos z, if_pos ⟨by omega, z⟩]
      · rw [if_neg z, if_neg (fun y => z y.2)]
theorem L_isMissing (hw : WF w ns R k D) (hP : PX w ns R k D P) {n : Nat} (hn : n < 2 ^ 31) : F_X3_isMissing (nI n) (nI w) P = some (ms w k D n) := by
  unfold F_X3_isMissing ms fr
  rw [L_smallestPrimeOf hw.1 hn, Option.bind_some]
  have h4 := hw.1
  have h30 := hw.2.2.2.1
  cases hs : sp w n with
  | some j =>
    obtain ⟨-, hj, -⟩ := fi_some hs
    have := wq_rng (k := j) (by omega)
    show (if nI (wq j) = -1 then _ else _) = _
    rw [if_neg (m1_ne (by omega))]
    rfl
  | none =>
    show (if m1 = -1 then _ else _) = _
    rw [if_pos (by rfl), L_placeOf hw hP hn, Option.bind_some]
    cases hp : pl k D n with
    | some j =>
      obtain ⟨-, hj, -⟩ := fi_some hp
      show (if nI j = -1 then _ else _) = _
      rw [if_neg (m1_ne (by omega))]
      rfl
    | none =>
      show (if m1 = -1 then _ else _) = _
      rw [if_pos (by rfl), L_firstHit hw hP hn, Option.bind_some]
      cases hf : fh k D n with
      | some j =>
        obtain ⟨-, hj, -⟩ := fi_some hf
        have := hw.2.2.2.2.1 j (by omega)
        show (if nI (D j) = -1 then _ else _) = _
        rw [if_neg (m1_ne (by omega))]
        rfl
      | none => rfl
/-- the first number whose square lies above -/
theorem sq_top (L : Nat) (h : 1 ≤ L) (hL : L ≤ 4801) : ∃ T, 2 ≤ T ∧ T ≤ 70 ∧ L < T * T ∧ ∀ i, i < T → i * i ≤ L := by
  have key : ∀ n, n * n ≤ L ∨ ∃ T, T ≤ n ∧ L < T * T ∧ ∀ i, i < T → i * i ≤ L := by
    intro n
    induction n with
    | zero => exact Or.inl (by omega)
    | succ n ih =>
      rcases ih with ih | ⟨T, h1, h2, h3⟩
      · by_cases c : (n + 1) * (n + 1) ≤ L
        · exact Or.inl c
        · refine Or.inr ⟨n + 1, Nat.le_refl _, by omega, fun i hi => ?_⟩
          exact Nat.le_trans (Nat.mul_le_mul (by omega : i ≤ n) (by omega : i ≤ n)) ih
      · exact Or.inr ⟨T, by omega, h2, h3⟩
  rcases key 70 with c | ⟨T, h1, h2, h3⟩
  · exact absurd c (by omega)
  · refine ⟨T, ?_, h1, h2, h3⟩
    match T, h2 with
    | 0, h2 => omega
    | 1, h2 => omega
    | T + 2, _ => omega
theorem L_countMissing (hw : WF w ns R k D) (hP : PX w ns R k D P) {T : Nat} (h2 : 2 ≤ T) (h70 : T ≤ 70) (hT : 1 + sm R ns < T * T) (hi : ∀ i, i < T → i * i ≤ 1 + sm R ns) :
    F_X3_countMissing (nI w) P = some (nI (cn (ms w k D) 2 (T - 2))) := by
  have hL := hw.last
  unfold F_X3_countMissing F_X3_lastNumber
  rw [hP.2.2.2.1, Option.bind_some]
  refine fx3 (Q := fun u c v m r => u = nI (1 + sm R ns) ∧ ∃ i a, c = nI a ∧ v = nI i ∧ 2 ≤ i ∧ i ≤ T ∧ m = T - i ∧ r = some (nI (a + cn (ms w k D) i (T - i)))) ?_ FUEL _ (nI 0) (nI 2) (T - 2) _ ⟨rfl, 2, 0, rfl, rfl, by omega, by omega, rfl, by rw [Nat.zero_add]⟩ (by unfold FUEL; omega)
  rintro K _ _ _ _ _ ih ⟨rfl, i, a, rfl, rfl, h1, h3, rfl, rfl⟩
  unfold B_X3_countMissing_10
  have hii : i * i ≤ 70 * 70 := Nat.mul_le_mul (by omega) (by omega)
  by_cases c : i = T
  · simp (disch := omega) only [↓m1_d, ↓m2_d, e_m2, e_m2', e_m12, e_m21, liN, e_le, e_lt, e_eqm, e_eq, e_m1, e_m1', e_m1l, e_m1e, e_m1g, e_m1h, e_add, e_mul, e_sub, e_pred, e_rem, ix_nI, nz_nI, nI_clamp, nm_e1, Nat.add_zero, if_true, if_false, Nat.reduceEqDiff, eq_self, reduceIte]
    rw [if_neg (by omega), if_pos (by rw [c]; exact hT), show T - i = 0 by omega]
    rfl
  · have := hi i (by omega)
    simp (disch := omega) only [↓m1_d, ↓m2_d, e_m2, e_m2', e_m12, e_m21, liN, e_le, e_lt, e_eqm, e_eq, e_m1, e_m1', e_m1l, e_m1e, e_m1g, e_m1h, e_add, e_mul, e_sub, e_pred, e_rem, ix_nI, nz_nI, nI_clamp, nm_e1, Nat.add_zero, if_true, if_false, Nat.reduceEqDiff, eq_self, reduceIte, L_isMissing hw hP (by omega : i < 2 ^ 31), Option.bind_some]
    rw [if_neg (by omega), if_neg (by omega), show T - i = (T - (i + 1)) + 1 by omega, cn_s]
    by_cases e : ms w k D i = true
    · rw [if_pos e, if_pos e, ← Nat.add_assoc]
      exact ih _ _ _ (T - (i + 1)) _ (by omega) ⟨rfl, i + 1, a + 1, rfl, rfl, by omega, by omega, rfl, rfl⟩
    · rw [if_neg e, if_neg e, Nat.zero_add]
      exact ih _ _ _ (T - (i + 1)) _ (by omega) ⟨rfl, i + 1, a, rfl, rfl, by omega, by omega, rfl, rfl⟩
/-- free of the wheel: on a spoke and none of its primes -/
theorem fr_eq (h4 : w ≤ 4) {n : Nat} (h1 : 1 ≤ n) : fr w n = (!off w n && !(fi (fun j => decide (wq j = n)) 0 w).isSome) := by
  rw [Bool.eq_iff_iff]
  unfold fr off sp
  simp only [Bool.and_eq_true, Bool.not_eq_true', Option.isNone_iff_eq_none, Option.isSome_eq_false_iff]
  rw [fi_none, fi_none, fi_none]
  simp only [Bool.and_eq_false_iff, decide_eq_false_iff_not]
  refine ⟨fun h => ⟨fun i a b => Or.inr (h i a b), fun i a b => ?_⟩, fun ⟨h, g⟩ i a b => ?_⟩
  · intro e
    refine h i a b ?_
    rw [e]
    exact Nat.mod_self n
  · intro e
    have hq := wq_rng (k := i) (by omega)
    rcases h i a b with c | c
    · obtain ⟨t, ht⟩ := Nat.dvd_of_mod_eq_zero e
      match t, ht with
      | 0, ht => omega
      | 1, ht => exact g i a b (by omega)
      | t + 2, ht =>
        rw [ht, Nat.mul_add] at c
        omega
    · exact c e
end
