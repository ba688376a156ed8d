/-! ===== PURE: what both have read ===== -/
def PS (g : Nat → Nat) (f n : Nat) (b : Nat → Int32) (rd : ReadT) (t : SrcT) (ba err ea nb tok : Int32) : Prop :=
  BY g f t.1 b ∧ n ≤ f ∧ TK g n t ba nb tok ∧ rd.1 = err ∧ rd.2.1 = (if err = 0 then -1 else ea)
section
variable {g : Nat → Nat} {f n : Nat} {b : Nat → Int32} {rd : ReadT} {t : SrcT} {ba err ea nb tok : Int32}
theorem nq1 : ¬ (1 : Int32) = 0 := by decide
theorem nq2 : ¬ (2 : Int32) = 0 := by decide
theorem nq3 : ¬ (3 : Int32) = 0 := by decide
theorem nq4 : ¬ (4 : Int32) = 0 := by decide
theorem PS.fail (h : PS g f n b rd t ba 0 ea nb tok) {c : Int32} (hc : ¬ c = 0) (z : Int32) : PS g f n b (c, t.2.2.2.2.2.1, z) t ba c ba nb tok := by
  obtain ⟨hB, hn, hT, -⟩ := h
  refine ⟨hB, hn, hT, rfl, ?_⟩
  obtain ⟨i, j, -, -, -, -, -, e4, e5, -⟩ := hT
  rw [if_neg hc, e5]
  exact e4
theorem PS.r1 (h : PS g f n b rd t ba 0 ea nb tok) : rd.1 = 0 ∧ rd.2.1 = -1 := ⟨h.2.2.2.1, h.2.2.2.2⟩
end
