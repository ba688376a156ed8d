/-! ===== PURE: undo, snapshots ===== -/
section
variable {w ns k : Nat} {R D : Nat → Nat} {P : PlanT} {row : Nat → Int32} {S : SieveT} {L : Nat} {v : Nat}
/-- the bytes of the text of format -/
def SH (sh : SheetT) (f : Nat → Int32) (fl : Int32) : Prop := ∃ n, n ≤ 2000 ∧ sh.2 = nI n ∧ fl = nI n ∧ ∀ i, i < n → sh.1 i = f i
end
