/-! ===== PURE: sums, leastOf, gaps, thickest ===== -/
section
variable {w ns k : Nat} {R D : Nat → Nat} {P : PlanT} {row : Nat → Int32} {S : SieveT} {L : Nat}
/-! thickest: so many marks in a window of x -/
end
