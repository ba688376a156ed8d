/-! ===== PURE: a whole text, load ===== -/
section
variable {g : Nat → Nat} {f n : Nat} {b : Nat → Int32} {rd : ReadT} {t : SrcT}
end
