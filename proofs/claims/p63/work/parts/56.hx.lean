/-! ===== PURE: a push on both sides ===== -/
section
variable {P : PlanT}
end
