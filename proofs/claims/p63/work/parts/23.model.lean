/-! ===== PURE: the reference strikes ===== -/
section
variable {w ns k : Nat} {R D : Nat → Nat} {P : PlanT} {row : Nat → Int32}
/-- a loop that sums -/
theorem lp_sm {β : Type} {bot : Int32 → Int32 → Option β} {B : (Int32 → Int32 → Option β) → Int32 → Int32 → Option β} (f : Nat → β) (c0 N : Nat) (S : Nat → Nat) (hN : N ≤ 900000)
    (H : ∀ K i, i ≤ N → B K (nI (c0 + sm S i)) (nI i) = if N ≤ i then some (f (c0 + sm S i)) else K (nI (c0 + sm S (i + 1))) (nI (i + 1))) :
    fx bot B FUEL (nI c0) (nI 0) = some (f (c0 + sm S N)) := by
  refine fx2 (Q := fun u v m r => ∃ i, u = nI (c0 + sm S i) ∧ v = nI i ∧ i ≤ N ∧ m = N - i ∧ r = some (f (c0 + sm S N))) ?_ FUEL _ _ N _ ⟨0, rfl, rfl, by omega, rfl, rfl⟩ (by unfold FUEL; omega)
  rintro K _ _ _ _ ih ⟨i, rfl, rfl, hi, rfl, rfl⟩
  rw [H K i hi]
  by_cases c : N ≤ i
  · rw [if_pos c, show i = N by omega]
  · rw [if_neg c]
    exact ih _ _ (N - (i + 1)) _ (by omega) ⟨i + 1, rfl, rfl, by omega, rfl, rfl⟩
/-- the wheel prime that a number lies under -/
def wo (w n : Nat) : Option Nat := fi (fun j => decide (2 * wq j ≤ n) && decide (n % wq j = 0)) 0 w
def oq0 : Option Nat → Int32
  | none => nI 0
  | some j => nI (wq j)
theorem off_wo {n : Nat} : off w n = (wo w n).isSome := rfl
/-- the reference's rows after striking -/
def ow (w k : Nat) (D : Nat → Nat) (n : Nat) : Int32 := if off w n = true then m1 else oI (fh k D n)
def ht (w k : Nat) (D : Nat → Nat) (n : Nat) : Nat := if off w n = true then 0 else cn (fun j => hit n (D j)) 0 k
theorem fi_s (p : Nat → Bool) (a k : Nat) : fi p a (k + 1) = if p a = true then some a else fi p (a + 1) k := rfl
theorem cn_s (p : Nat → Bool) (a k : Nat) : cn p a (k + 1) = (if p a = true then 1 else 0) + cn p (a + 1) k := rfl
/-- half struck: strikers from j on, and of the one before it the numbers below a -/
def H1 (w : Nat) (D : Nat → Nat) (k j n : Nat) : Int32 := if off w n = true then m1 else oI (fi (fun i => hit n (D i)) j (k - j))
def H2 (w : Nat) (D : Nat → Nat) (k j n : Nat) : Nat := if off w n = true then 0 else cn (fun i => hit n (D i)) j (k - j)
theorem hit_small {n d : Nat} (h : n < d * d) : hit n d = false := by
  unfold hit
  rw [decide_eq_false (by omega : ¬ d * d ≤ n), Bool.false_and]
theorem H_step {j n : Nat} (hj : j < k) : H1 w D k j n = (if off w n = false ∧ hit n (D j) = true then nI j else H1 w D k (j + 1) n) ∧
    H2 w D k j n = (if off w n = false ∧ hit n (D j) = true then 1 + H2 w D k (j + 1) n else H2 w D k (j + 1) n) := by
  unfold H1 H2
  rw [show k - j = (k - (j + 1)) + 1 by omega]
  by_cases c : off w n = true
  · rw [if_pos c, if_pos c, if_pos c, if_pos c, if_neg (fun q => by rw [c] at q; cases q.1), if_neg (fun q => by rw [c] at q; cases q.1)]
    exact ⟨rfl, rfl⟩
  · have c' := Bool.eq_false_iff.mpr c
    rw [if_neg c, if_neg c, if_neg c, if_neg c]
    rw [fi_s, cn_s]
    by_cases h : hit n (D j) = true
    · rw [if_pos h, if_pos h, if_pos ⟨c', h⟩, if_pos ⟨c', h⟩]
      exact ⟨rfl, rfl⟩
    · rw [if_neg h, if_neg h, if_neg (fun q => h q.2), if_neg (fun q => h q.2), Nat.zero_add]
      exact ⟨rfl, rfl⟩
end
