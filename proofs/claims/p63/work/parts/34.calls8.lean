/-! ===== PURE: turn, next, gaps, twins ===== -/
theorem cn_shift {p : Nat → Bool} {x : Nat} : ∀ {n a : Nat}, cn p (a + x) n = cn (fun i => p (i + x)) a n
  | 0, _ => rfl
  | n + 1, a => by
    rw [cn_s, cn_s, show a + x + 1 = (a + 1) + x by omega, cn_shift]
theorem cn_ext {p : Nat → Bool} {a n m : Nat} (h : n ≤ m) (hz : ∀ i, a + n ≤ i → i < a + m → p i = false) : cn p a m = cn p a n := by
  rw [show m = n + (m - n) by omega, cn_add, cn_zero (fun i h1 h2 => hz i h1 (by omega)), Nat.add_zero]
section
variable {w ns k : Nat} {R D : Nat → Nat} {P : PlanT} {row : Nat → Int32} {S : SieveT} {L : Nat}
/-! twins -/
theorem isM_hi {n : Nat} (h : L < n) : isM w k D L n = false := by
  unfold isM
  rw [decide_eq_false (by omega), Bool.false_and]
end
