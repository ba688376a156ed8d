/-! ===== PURE: wheels, strikers ===== -/
theorem cn_mul {p : Nat → Bool} {d a L : Nat} (hd : 0 < d) (ha : a % d = 0) (h : a ≤ L) :
    cn (fun n => decide (n % d = 0) && p n) a (L + 1 - a) = (if p a then 1 else 0) + cn (fun n => decide (n % d = 0) && p n) (a + d) (L + 1 - (a + d)) := by
  have e1 : L + 1 - a = (L - a) + 1 := by omega
  rw [e1]
  show (if (decide (a % d = 0) && p a) = true then 1 else 0) + cn _ (a + 1) (L - a) = _
  rw [ha, decide_eq_true rfl, Bool.true_and]
  have gap : ∀ i, a + 1 ≤ i → i < a + d → (fun n => decide (n % d = 0) && p n) i = false := by
    intro i h1 h2
    have : i % d ≠ 0 := by
      have e : i = a + (i - a) := by omega
      rw [e, Nat.add_mod, ha, Nat.zero_add, Nat.mod_mod, Nat.mod_eq_of_lt (by omega)]
      omega
    simp [this]
  by_cases c : a + d ≤ L + 1
  · have e2 : L - a = (d - 1) + (L + 1 - (a + d)) := by omega
    rw [e2, cn_add, cn_zero (fun i h1 h2 => gap i h1 (by omega)), show a + 1 + (d - 1) = a + d by omega]
    omega
  · rw [show L + 1 - (a + d) = 0 by omega, cn_zero (fun i h1 h2 => gap i h1 (by omega))]
    rfl
theorem fi_add (p : Nat → Bool) : ∀ (j a k : Nat), (∀ i, a ≤ i → i < a + j → p i = false) → fi p a (j + k) = fi p (a + j) k
  | 0, a, k, _ => by simp
  | j + 1, a, k, h => by
    have e : j + 1 + k = (j + k) + 1 := by omega
    rw [e]
    show (if p a then some a else fi p (a + 1) (j + k)) = _
    rw [h a (Nat.le_refl _) (by omega), fi_add p j (a + 1) k (fun i h1 h2 => h i (by omega) (by omega)), show a + 1 + j = a + (j + 1) by omega]
    rfl
theorem fi_mul {p : Nat → Bool} {d a L : Nat} (hd : 0 < d) (ha : a % d = 0) (h : a ≤ L) :
    fi (fun n => decide (n % d = 0) && p n) a (L + 1 - a) = if p a then some a else fi (fun n => decide (n % d = 0) && p n) (a + d) (L + 1 - (a + d)) := by
  have e1 : L + 1 - a = (L - a) + 1 := by omega
  rw [e1]
  show (if (decide (a % d = 0) && p a) = true then some a else fi _ (a + 1) (L - a)) = _
  rw [ha, decide_eq_true rfl, Bool.true_and]
  have gap : ∀ i, a + 1 ≤ i → i < a + d → (fun n => decide (n % d = 0) && p n) i = false := by
    intro i h1 h2
    have : i % d ≠ 0 := by
      have e : i = a + (i - a) := by omega
      rw [e, Nat.add_mod, ha, Nat.zero_add, Nat.mod_mod, Nat.mod_eq_of_lt (by omega)]
      omega
    simp [this]
  by_cases c : a + d ≤ L + 1
  · have e2 : L - a = (d - 1) + (L + 1 - (a + d)) := by omega
    rw [e2, fi_add _ _ _ _ (fun i h1 h2 => gap i h1 (by omega)), show a + 1 + (d - 1) = a + d by omega]
  · rw [show L + 1 - (a + d) = 0 by omega]
    have : fi (fun n => decide (n % d = 0) && p n) (a + 1) (L - a) = none := fi_none.mpr (fun i h1 h2 => gap i h1 (by omega))
    rw [this]
    rfl
section
variable {w ns k : Nat} {R D : Nat → Nat} {P : PlanT} {row : Nat → Int32}
/-- a number that lies on no spoke -/
def off (w n : Nat) : Bool := (fi (fun j => decide (2 * wq j ≤ n) && decide (n % wq j = 0)) 0 w).isSome
/-- D strikes n, if n is on a spoke -/
def hit (n d : Nat) : Bool := decide (d * d ≤ n) && decide (n % d = 0)
/-- the first striker that does -/
def fh (k : Nat) (D : Nat → Nat) (n : Nat) : Option Nat := fi (fun j => hit n (D j)) 0 k
def oD (D : Nat → Nat) : Option Nat → Int32
  | none => nI 0
  | some j => nI (D j)
/-- the class's word for a laid number -/
def oz (w k : Nat) (D : Nat → Nat) (n : Nat) : Int32 := if off w n = true then m1 else oD D (fh k D n)
def mk (w k : Nat) (D : Nat → Nat) (n : Nat) : Bool := !off w n && (fh k D n).isNone
theorem fi_snoc (p : Nat → Bool) : ∀ (k a : Nat), fi p a (k + 1) = match fi p a k with
    | some j => some j
    | none => if p (a + k) = true then some (a + k) else none
  | 0, a => rfl
  | k + 1, a => by
    show (if p a = true then some a else fi p (a + 1) (k + 1)) = match (if p a = true then some a else fi p (a + 1) k) with
      | some j => some j
      | none => if p (a + (k + 1)) = true then some (a + (k + 1)) else none
    by_cases h : p a = true
    · rw [if_pos h, if_pos h]
    · rw [if_neg h, if_neg h, fi_snoc p k (a + 1), show a + 1 + k = a + (k + 1) by omega]
/-- the sieve is right for a plan -/
def SV (w k : Nat) (D : Nat → Nat) (L : Nat) (S : SieveT) : Prop :=
  S.2.2.1 = nI L ∧ (∀ n, 2 ≤ n → n ≤ L → S.1 n = oz w k D n ∧ S.2.1 n = nI (cn (mk w k D) 2 (n - 1))) ∧ S.2.2.2.1 = nI (cn (mk w k D) 2 (L - 1)) ∧ S.2.2.2.2.1 = nI (cn (fun n => !off w n) 2 (L - 1))
/-! striking out -/
def so (f : Nat → Int32) (a st : Nat) (own : Int32) (L : Nat) : Nat → Int32 := fun n => if a ≤ n ∧ n ≤ L ∧ (n - a) % st = 0 ∧ f n = 0 then own else f n
theorem so_step {f : Nat → Int32} {a st L : Nat} {own : Int32} (h : a ≤ L) (hst : 0 < st) :
    so f a st own L = so (if f a = 0 then upd f a own else f) (a + st) st own L := by
  funext n
  unfold so
  by_cases e : n = a
  · subst e
    by_cases z : f n = 0
    · rw [if_pos ⟨Nat.le_refl _, h, by simp, z⟩, if_pos z, if_neg (fun q => by omega), pk_us]
    · rw [if_neg (fun q => z q.2.2.2), if_neg z, if_neg (fun q => by omega)]
  · have e2 : (if f a = 0 then upd f a own else f) n = f n := by
      split
      · rw [pk_un e]
      · rfl
    rw [e2]
    by_cases c : a + st ≤ n
    · have e3 : (n - a) % st = (n - (a + st)) % st := by
        rw [show n - a = (n - (a + st)) + st by omega, Nat.add_mod_right]
      rw [e3]
      by_cases q : n ≤ L ∧ (n - (a + st)) % st = 0 ∧ f n = 0
      · rw [if_pos ⟨by omega, q.1, q.2.1, q.2.2⟩, if_pos ⟨c, q.1, q.2.1, q.2.2⟩]
      · rw [if_neg (fun x => q ⟨x.2.1, x.2.2.1, x.2.2.2⟩), if_neg (fun x => q ⟨x.2.1, x.2.2.1, x.2.2.2⟩)]
    · have : ¬ (a ≤ n ∧ n ≤ L ∧ (n - a) % st = 0 ∧ f n = 0) := by
        rintro ⟨h1, -, h3, -⟩
        rw [Nat.mod_eq_of_lt (by omega)] at h3
        omega
      rw [if_neg this, if_neg (fun x => c x.1)]
theorem so_end {f : Nat → Int32} {a st L : Nat} {own : Int32} (h : L < a) : so f a st own L = f := by
  funext n
  unfold so
  rw [if_neg (fun q => by omega)]
theorem L_strikeOut {L st : Nat} (hL : L ≤ 4801) (h1 : 2 ≤ st) (h2 : st ≤ 120) (own : Int32) {a : Nat} {t : SieveT} (hl : t.2.2.1 = nI L) (ha0 : 2 ≤ a) (ha : a ≤ 20000) :
    F_X7_strikeOut (nI a) (nI st) own t = some (so t.1 a st own L, t.2) := by
  unfold F_X7_strikeOut
  simp (disch := omega) only [↓m1_d, ↓m2_d, e_m2, e_m2', e_m12, e_m21, liN, e_le, e_lt, e_eqm, e_eq, e_m1, e_m1', e_m1l, e_m1e, e_m1g, e_m1h, e_add, e_mul, e_sub, e_pred, e_rem, ix_nI, nz_nI, nI_clamp, nm_e1, Nat.add_zero, if_true, if_false, Nat.reduceEqDiff, eq_self, reduceIte]
  rw [if_neg (by omega), if_pos h1]
  refine fx2 (Q := fun x t m r => ∃ a, x = nI a ∧ t.2.2.1 = nI L ∧ a ≤ 20000 ∧ m = L + 1 - a ∧ r = some (so t.1 a st own L, t.2)) ?_ FUEL (nI a) t _ _ ⟨a, rfl, hl, ha, rfl, rfl⟩ (by unfold FUEL; omega)
  rintro K _ ⟨o, ct, L', u1, u2, u3⟩ _ _ ih ⟨a, rfl, hl, ha, rfl, rfl⟩
  cases (show L' = nI L from hl)
  unfold B_X7_strikeOut_14
  show (if nI L < nI a then _ else ix (nI a) 4802 (if o (nI a).toNatClampNeg = 0 then _ else _)) = some (so o a st own L, _)
  by_cases c : L < a
  · rw [if_pos (nI_lt c (by omega)), so_end c]
  · rw [if_neg (nI_nlt (by omega) (by omega)), ix_nI (by omega) (by decide), nI_clamp (by omega), so_step (by omega) (by omega)]
    by_cases z : o a = 0
    · rw [if_pos z, if_pos z, nm_e1, nI_add, ix_nI (by omega) (by decide)]
      exact ih _ _ (L + 1 - (a + st)) _ (by omega) ⟨a + st, rfl, rfl, by omega, rfl, rfl⟩
    · rw [if_neg z, if_neg z, nm_e1, nI_add]
      exact ih _ _ (L + 1 - (a + st)) _ (by omega) ⟨a + st, rfl, rfl, by omega, rfl, rfl⟩
/-! the four stages of build, as functions on owners -/
/-- after j wheel primes -/
theorem fi_isSome {p : Nat → Bool} {a k : Nat} : (fi p a k).isSome = true ↔ ∃ i, a ≤ i ∧ i < a + k ∧ p i = true := by
  cases h : fi p a k with
  | none =>
    refine ⟨fun q => (by cases q), fun ⟨i, h1, h2, h3⟩ => ?_⟩
    rw [fi_none.mp h i h1 h2] at h3
    cases h3
  | some j =>
    obtain ⟨h1, h2, h3, -⟩ := fi_some h
    exact ⟨fun _ => ⟨j, h1, h2, h3⟩, fun _ => rfl⟩
theorem off_succ {j n : Nat} : off (j + 1) n = (off j n || (decide (2 * wq j ≤ n) && decide (n % wq j = 0))) := by
  unfold off
  rw [fi_snoc, Nat.zero_add]
  cases fi (fun j => decide (2 * wq j ≤ n) && decide (n % wq j = 0)) 0 j with
  | some i => rfl
  | none =>
    show (if (decide (2 * wq j ≤ n) && decide (n % wq j = 0)) = true then some j else none).isSome = _
    by_cases h : (decide (2 * wq j ≤ n) && decide (n % wq j = 0)) = true
    · rw [if_pos h, h]; rfl
    · rw [if_neg h, Bool.eq_false_iff.mpr h]; rfl
theorem fh_succ {j n : Nat} : fh (j + 1) D n = match fh j D n with
    | some i => some i
    | none => if hit n (D j) = true then some j else none := by
  unfold fh
  rw [fi_snoc, Nat.zero_add]
end
