/-! ===== PURE: the reference keeps and records ===== -/
section
end
