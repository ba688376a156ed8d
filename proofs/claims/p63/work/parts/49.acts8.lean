/-! ===== PURE: actions: fill ===== -/
section
variable {w ns k : Nat} {R D : Nat → Nat} {P : PlanT} {row : Nat → Int32} {S : SieveT} {L : Nat}
theorem ms_pl {d : Nat} (h : ms w k D d = true) : pl k D d = none := by
  unfold ms at h
  simp only [Bool.and_eq_true, Option.isNone_iff_eq_none] at h
  exact h.2.1
end
