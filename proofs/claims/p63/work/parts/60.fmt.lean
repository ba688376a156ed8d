/-! ===== PURE: format: bytes ===== -/
theorem byt_id {c : Nat} (h : c < 128) : vp_nar .byte (nI c).toInt8.toInt32 = nI c := by
  have : (List.range 128).all (fun c => decide ((nI c).toInt8.toInt32 = nI c)) = true := by decide +kernel
  rw [pk_vb]
  exact of_decide_eq_true (List.all_eq_true.mp this c (List.mem_range.mpr h))
/-- n bytes stand in both -/
def SN (n : Nat) (sh : SheetT) (f : Nat → Int32) (fl : Int32) : Prop := sh.2 = nI n ∧ fl = nI n ∧ ∀ i, i < n → sh.1 i = f i
section
variable {n m : Nat} {sh : SheetT} {f : Nat → Int32} {fl : Int32}
/-- the digit at a unit -/
theorem digit_at {u : Nat} (hm : m < 2 ^ 31) (h0 : 0 < u) (hu : u < 2 ^ 31) : (48 : Int32) + (nI m / nI u - nI m / nI u / 10 * 10) = nI (48 + m / u % 10) := by
  have hd : m / u < 2 ^ 31 := Nat.lt_of_le_of_lt (Nat.div_le_self _ _) hm
  rw [pk_div hm h0 hu]
  have e : nI (m / u) - nI (m / u) / 10 * 10 = nI (m / u % 10) := pk_rem (d := 10) hd (by decide) (by decide)
  rw [e]
  exact e_add 48 _
end
/-! ===== PURE: format: the loop ===== -/
section
variable {w ns k : Nat} {R D : Nat → Nat} {P : PlanT} {row : Nat → Int32} {S : SieveT} {L : Nat}
end
