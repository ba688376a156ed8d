/-! ===== PURE: actions: swap, the reference's half ===== -/
section
variable {w ns k : Nat} {R D : Nat → Nat} {P : PlanT} {row : Nat → Int32} {S : SieveT} {L : Nat}
/-- the D that struck first, kept -/
def od (w k : Nat) (D : Nat → Nat) (n : Nat) : Int32 := if off w n = true then m1 else (match fh k D n with
  | none => m1
  | some a => nI (D a))
end
