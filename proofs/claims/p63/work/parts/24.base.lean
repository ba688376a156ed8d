/-! ===== PURE: what the sieve says, what the reference says ===== -/
section
variable {w ns k : Nat} {R D : Nat → Nat} {P : PlanT} {row : Nat → Int32} {S : SieveT} {L : Nat}
/-- right if it claims to be -/
def SOK (w k : Nat) (D : Nat → Nat) (L : Nat) (P : PlanT) (S : SieveT) : Prop :=
  (S.2.2.2.2.2 = m1 ∨ S.2.2.2.2.2 = P.2.2.2.2.2.2 ∨ ∃ b v, v < 2 ^ 31 ∧ b ≤ v ∧ P.2.2.2.2.2.2 = nI v ∧ S.2.2.2.2.2 = nI b) ∧ (S.2.2.2.2.2 = P.2.2.2.2.2.2 → SV w k D L S)
theorem L_current (hw : WF w ns R k D) (hP : PX w ns R k D P) (hS : SOK w k D (1 + sm R ns) P S) :
    ∃ S', F_X10_current P S = some S' ∧ SV w k D (1 + sm R ns) S' ∧ SOK w k D (1 + sm R ns) P S' := by
  unfold F_X10_current F_X7_isBuiltFor F_X3_version
  rw [Option.bind_some]
  by_cases c : S.2.2.2.2.2 = P.2.2.2.2.2.2
  · rw [if_pos c]
    exact ⟨S, rfl, hS.2 c, hS⟩
  · rw [if_neg c]
    obtain ⟨S', h1, h2, h3⟩ := L_build hw hP S
    refine ⟨S', ?_, h2, Or.inr (Or.inl h3), fun _ => h2⟩
    show (if false = true then some S else (F_X7_build S P).bind fun w_4 => some w_4) = _
    rw [if_neg (by decide), h1]
    rfl
/-- is it a mark? -/
def isM (w k : Nat) (D : Nat → Nat) (L n : Nat) : Bool := decide (2 ≤ n ∧ n ≤ L) && mk w k D n
def isMI (w k : Nat) (D : Nat → Nat) (L : Nat) (x : Int32) : Bool := decide (0 ≤ x) && isM w k D L x.toNatClampNeg
theorem isMI_nI {n : Nat} (h : n < 2 ^ 31) : isMI w k D L (nI n) = isM w k D L n := by
  unfold isMI
  rw [nI_clamp h, decide_eq_true (nI_pos' h), Bool.true_and]
theorem isMI_neg {x : Int32} (h : x < 0) : isMI w k D L x = false := by
  unfold isMI
  rw [decide_eq_false (Int32.not_le.mpr h), Bool.false_and]
theorem L_ownerOf (hL : L ≤ 4801) (hS : SV w k D L S) {n : Nat} (hn : n < 2 ^ 31) :
    F_X7_ownerOf (nI n) S = some (if 2 ≤ n ∧ n ≤ L then oz w k D n else m2) := by
  unfold F_X7_ownerOf
  rw [hS.1]
  simp (disch := omega) only [↓m1_d, ↓m2_d, e_m2, e_m2', e_m12, e_m21, liN, e_le, e_lt, e_eqm, e_eq, e_m1, e_m1', e_m1l, e_m1e, e_m1g, e_m1h, e_add, e_mul, e_sub, e_pred, e_rem, ix_nI, nz_nI, nI_clamp, nm_e1, Nat.add_zero, if_true, if_false, Nat.reduceEqDiff, eq_self, reduceIte]
  by_cases c : n < 2
  · rw [if_pos c, if_neg (by omega)]; try rfl
  · rw [if_neg c]
    by_cases d : n ≤ L
    · rw [if_pos d, if_pos ⟨by omega, d⟩]
      rw [(hS.2.1 n (by omega) d).1]
    · rw [if_neg d, if_neg (fun q => d q.2)]; try rfl
theorem L_ownerOf_neg {x : Int32} (h : x < 0) : F_X7_ownerOf x S = some m2 := by
  unfold F_X7_ownerOf
  rw [if_pos (show x < 2 from neg_lt h (k := 2) (by decide))]
  rfl
theorem m2_ne {n : Nat} (h : n < 2 ^ 31) : (nI n = m2) = False := e_m2 h
theorem oz_m2 (hw : WF w ns R k D) {n : Nat} : (oz w k D n = m2) = False := by
  unfold oz
  split
  · exact eq_false (by decide)
  · cases h : fh k D n with
    | none => exact eq_false (show ¬ nI 0 = m2 by decide)
    | some j =>
      obtain ⟨-, hj, -⟩ := fi_some h
      have := hw.2.2.2.2.1 j (by omega)
      exact m2_ne (n := D j) (by omega)
theorem L_isMark (hw : WF w ns R k D) (hL : L ≤ 4801) (hS : SV w k D L S) {n : Nat} (hn : n < 2 ^ 31) : F_X7_isMark (nI n) S = some (isM w k D L n) := by
  unfold F_X7_isMark isM
  rw [L_ownerOf hL hS hn, Option.bind_some]
  by_cases c : 2 ≤ n ∧ n ≤ L
  · rw [if_pos c, decide_eq_true c, Bool.true_and]
    simp (disch := omega) only [↓m1_d, ↓m2_d, e_m2, e_m2', e_m12, e_m21, liN, e_le, e_lt, e_eqm, e_eq, e_m1, e_m1', e_m1l, e_m1e, e_m1g, e_m1h, e_add, e_mul, e_sub, e_pred, e_rem, ix_nI, nz_nI, nI_clamp, nm_e1, Nat.add_zero, if_true, if_false, Nat.reduceEqDiff, eq_self, reduceIte, oz_0 hw]
    cases mk w k D n <;> rfl
  · rw [if_neg c, decide_eq_false c, if_neg (by decide), Bool.false_and]
theorem L_isMarkI (hw : WF w ns R k D) (hL : L ≤ 4801) (hS : SV w k D L S) (x : Int32) : F_X7_isMark x S = some (isMI w k D L x) := by
  rcases i_cases x with h | ⟨n, hn, rfl⟩
  · rw [isMI_neg h]
    unfold F_X7_isMark
    rw [L_ownerOf_neg h]
    rfl
  · rw [isMI_nI hn]; exact L_isMark hw hL hS hn
/-! the reference -/
theorem mk_eq : mk w k D L = (!off w L && decide (ht w k D L = 0)) := by
  unfold mk ht fh
  cases off w L with
  | true => rfl
  | false =>
    show (_ : Option Nat).isNone = decide ((if false = true then 0 else cn _ 0 k) = 0)
    rw [if_neg (by decide)]
    cases h : fi (fun j => hit L (D j)) 0 k with
    | none =>
      rw [cn_zero (fi_none.mp h)]
      rfl
    | some j =>
      obtain ⟨h1, h2, h3, -⟩ := fi_some h
      rw [show k = j + ((k - j - 1) + 1) by omega, cn_add, cn_s, Nat.zero_add]
      have h3 : hit L (D j) = true := h3
      rw [if_pos h3, decide_eq_false (by omega)]
      rfl
/-- marks up to n -/
def mu (w k : Nat) (D : Nat → Nat) (L n : Nat) : Nat := cn (mk w k D) 2 (min n L - 1)
theorem mu_le {n : Nat} : mu w k D L n ≤ L := Nat.le_trans (cn_le _ _ _) (by omega)
theorem mu_lo {n : Nat} (h : n < 2) : mu w k D L n = 0 := by
  unfold mu
  rw [show min n L - 1 = 0 by omega]
  rfl
theorem mu_mono {a b : Nat} (h : a ≤ b) : mu w k D L a ≤ mu w k D L b := by
  unfold mu
  rw [show min b L - 1 = (min a L - 1) + (min b L - 1 - (min a L - 1)) by omega, cn_add]
  omega
theorem L_marksUpTo (hL : L ≤ 4801) (hS : SV w k D L S) {n : Nat} (hn : n < 2 ^ 31) : F_X7_marksUpTo (nI n) S = some (nI (mu w k D L n)) := by
  unfold F_X7_marksUpTo
  rw [hS.1, hS.2.2.1]
  simp (disch := omega) only [↓m1_d, ↓m2_d, e_m2, e_m2', e_m12, e_m21, liN, e_le, e_lt, e_eqm, e_eq, e_m1, e_m1', e_m1l, e_m1e, e_m1g, e_m1h, e_add, e_mul, e_sub, e_pred, e_rem, ix_nI, nz_nI, nI_clamp, nm_e1, Nat.add_zero, if_true, if_false, Nat.reduceEqDiff, eq_self, reduceIte]
  by_cases c : 2 ≤ n
  · rw [if_pos c]
    by_cases d : n < L
    · rw [if_pos d]
      rw [(hS.2.1 n c (by omega)).2]
      unfold mu
      rw [show min n L - 1 = n - 1 by omega]
    · rw [if_neg d]
      unfold mu
      rw [show min n L - 1 = L - 1 by omega]
  · rw [if_neg c, mu_lo (by omega)]
theorem L_marksUpTo_neg {x : Int32} (h : x < 0) : F_X7_marksUpTo x S = some (nI 0) := by
  unfold F_X7_marksUpTo
  rw [if_neg (show ¬ 2 ≤ x from neg_nle h (k := 2) (by decide))]
  rfl
/-- marks in a .. b -/
def mb (w k : Nat) (D : Nat → Nat) (L a b : Nat) : Nat := mu w k D L b - mu w k D L (max a 2 - 1)
theorem mb_cn {a b : Nat} (hb : b ≤ L) (ha : 2 ≤ a) : mb w k D L a b = cn (mk w k D) a (b + 1 - a) := by
  unfold mb mu
  by_cases c : a ≤ b
  · rw [show min b L - 1 = (min (max a 2 - 1) L - 1) + (b + 1 - a) by omega, cn_add, show 2 + (min (max a 2 - 1) L - 1) = a by omega]
    omega
  · have := mu_mono (w := w) (k := k) (D := D) (L := L) (a := b) (b := max a 2 - 1) (by omega)
    unfold mu at this
    rw [show b + 1 - a = 0 by omega]
    show _ = 0
    omega
theorem L_marksBetween (hL : L ≤ 4801) (hS : SV w k D L S) {a b : Nat} (ha : a < 2 ^ 31) (hb : b < 2 ^ 31) : F_X7_marksBetween (nI a) (nI b) S = some (nI (mb w k D L a b)) := by
  unfold F_X7_marksBetween
  have key : ∀ c : Nat, c < 2 ^ 31 → 2 ≤ c → c = max a 2 → (if nI c ≤ nI b then (F_X7_marksUpTo (nI b) S).bind fun w_3 => (F_X7_marksUpTo (nI c - 1) S).bind fun w_5 => some (w_3 - w_5) else some 0) = some (nI (mb w k D L a b)) := by
    intro c hc c2 e
    simp (disch := omega) only [↓m1_d, ↓m2_d, e_m2, e_m2', e_m12, e_m21, liN, e_le, e_lt, e_eqm, e_eq, e_m1, e_m1', e_m1l, e_m1e, e_m1g, e_m1h, e_add, e_mul, e_sub, e_pred, e_rem, ix_nI, nz_nI, nI_clamp, nm_e1, Nat.add_zero, if_true, if_false, Nat.reduceEqDiff, eq_self, reduceIte]
    by_cases d : c ≤ b
    · have := mu_mono (w := w) (k := k) (D := D) (L := L) (a := c - 1) (b := b) (by omega)
      rw [if_pos d, L_marksUpTo hL hS hb, L_marksUpTo hL hS (by omega), Option.bind_some, Option.bind_some]
      simp (disch := omega) only [↓m1_d, ↓m2_d, e_m2, e_m2', e_m12, e_m21, liN, e_le, e_lt, e_eqm, e_eq, e_m1, e_m1', e_m1l, e_m1e, e_m1g, e_m1h, e_add, e_mul, e_sub, e_pred, e_rem, ix_nI, nz_nI, nI_clamp, nm_e1, Nat.add_zero, if_true, if_false, Nat.reduceEqDiff, eq_self, reduceIte]
      unfold mb
      rw [← e]
    · have := mu_mono (w := w) (k := k) (D := D) (L := L) (a := b) (b := c - 1) (by omega)
      rw [if_neg d]
      unfold mb
      rw [← e, show mu w k D L b - mu w k D L (c - 1) = 0 by omega]
  by_cases c : a < 2
  · rw [if_pos (show nI a < 2 from nI_lt c (by decide))]
    exact key 2 (by decide) (by omega) (by omega)
  · rw [if_neg (show ¬ nI a < 2 from nI_nlt (b := 2) (by omega) ha)]
    exact key a ha (by omega) (by omega)
theorem L_spokesBetween (hw : WF w ns R k D) (hL : L ≤ 4801) (hS : SV w k D L S) {a b : Nat} (ha : 2 ≤ a) (ha2 : a < 2 ^ 31) (hb : b ≤ L) :
    F_X7_spokesBetween (nI a) (nI b) S = some (nI (cn (fun n => !off w n) a (b + 1 - a))) := by
  unfold F_X7_spokesBetween
  rw [hS.1]
  simp (disch := omega) only [↓m1_d, ↓m2_d, e_m2, e_m2', e_m12, e_m21, liN, e_le, e_lt, e_eqm, e_eq, e_m1, e_m1', e_m1l, e_m1e, e_m1g, e_m1h, e_add, e_mul, e_sub, e_pred, e_rem, ix_nI, nz_nI, nI_clamp, nm_e1, Nat.add_zero, if_true, if_false, Nat.reduceEqDiff, eq_self, reduceIte]
  rw [if_neg (by omega), if_neg (by omega)]
  by_cases c : b < a
  · rw [show b + 1 - a = 0 by omega]
    show B_X7_spokesBetween_19 (nI a) (nI b) S (fx _ _ 999999) (nI 0) (nI b) (nI a) = _
    unfold B_X7_spokesBetween_19
    rw [if_pos (nI_lt c ha2)]
    rfl
  refine lp_cn_m (p := fun n => !off w n) nI a (b + 1) (by omega) (by omega) (fun K c i h1 h2 h3 => ?_)
  unfold B_X7_spokesBetween_19
  by_cases q : b < i
  · simp (disch := omega) only [↓m1_d, ↓m2_d, e_m2, e_m2', e_m12, e_m21, liN, e_le, e_lt, e_eqm, e_eq, e_m1, e_m1', e_m1l, e_m1e, e_m1g, e_m1h, e_add, e_mul, e_sub, e_pred, e_rem, ix_nI, nz_nI, nI_clamp, nm_e1, Nat.add_zero, if_true, if_false, Nat.reduceEqDiff, eq_self, reduceIte]
    rw [if_pos q, if_pos (by omega)]
  · simp (disch := omega) only [↓m1_d, ↓m2_d, e_m2, e_m2', e_m12, e_m21, liN, e_le, e_lt, e_eqm, e_eq, e_m1, e_m1', e_m1l, e_m1e, e_m1g, e_m1h, e_add, e_mul, e_sub, e_pred, e_rem, ix_nI, nz_nI, nI_clamp, nm_e1, Nat.add_zero, if_true, if_false, Nat.reduceEqDiff, eq_self, reduceIte, (hS.2.1 i (by omega) (by omega)).1, oz_m1 hw]
    rw [if_neg q, if_neg (show ¬ b + 1 ≤ i by omega)]
    cases off w i <;> rfl
end
