/-! ===== PURE: plans kept ===== -/
section
variable {w ns k : Nat} {R D : Nat → Nat} {P : PlanT} {row : Nat → Int32} {S : SieveT} {L : Nat}
theorem L_takeOver (hw : WF w ns R k D) (hP : PX w ns R k D P) (T : PlanT) : ∃ T', F_X3_takeOver T P = some T' ∧ PX w ns R k D T' ∧ T'.2.2.2.2.2.2 = T.2.2.2.2.2.2 + 1 := by
  have h12 := hw.2.1
  have h30 := hw.2.2.2.1
  refine ⟨_, rfl, ⟨hP.1, hP.2.1, fun i hi => ?_, hP.2.2.2.1, hP.2.2.2.2.1, fun i hi => ?_⟩, rfl⟩
  · show va_cpy P.2.2.1 T.2.2.1 0 0 12 i = nI (R i)
    rw [pk_cpy_in (Nat.zero_le _) (by omega), Nat.zero_add, Nat.sub_zero]
    exact hP.2.2.1 i hi
  · show va_cpy P.2.2.2.2.2.1 T.2.2.2.2.2.1 0 0 30 i = nI (D i)
    rw [pk_cpy_in (Nat.zero_le _) (by omega), Nat.zero_add, Nat.sub_zero]
    exact hP.2.2.2.2.2 i hi
end
