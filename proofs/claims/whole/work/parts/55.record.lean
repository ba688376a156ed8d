/-! ===== PURE: the reference keeps and records ===== -/
section
theorem M_copy (f g : Nat → Int32) {i j n0 n1 : Nat} (h0 : 45 * i + 45 ≤ n0) (h1 : 45 * j + 45 ≤ n1) (hi : i < 1000) (hj : j < 1000) :
    F_X11_copy f (nI i) g (nI j) n0 n1 = some (va_cpy f g (45 * i) (45 * j) 45) := by
  unfold F_X11_copy cp
  have e1 : (45 : Int32) * nI i = nI (45 * i) := e_mul 45 i
  have e2 : (45 : Int32) * nI j = nI (45 * j) := e_mul 45 j
  have e3 : (45 : Int32).toNatClampNeg = 45 := rfl
  rw [e1, e2, nI_clamp (by omega), nI_clamp (by omega), e3, if_pos ⟨nI_pos (by omega), nI_pos (by omega), by decide, h0, h1⟩]
theorem M_keep (kept now : Nat → Int32) : ∃ kept', F_X11_keep kept now = some kept' ∧ ∀ j, j < 45 → kept' j = now j := by
  unfold F_X11_keep
  refine ⟨va_cpy now kept 0 0 45, ?_, fun j hj => ?_⟩
  · have := M_copy now kept (i := 0) (j := 0) (n0 := 45) (n1 := 45) (by decide) (by decide) (by decide) (by decide)
    show (F_X11_copy now (nI 0) kept (nI 0) 45 45).bind _ = _
    rw [this]
    rfl
  · rw [pk_cpy_in (Nat.zero_le _) (by omega), Nat.zero_add, Nat.sub_zero]
/-- a plan more in the histories -/
theorem record_lo {c : Nat} (hc : c < 8) (hist kept : Nat → Int32) :
    ∃ hist', F_X11_record hist kept (nI c) = some (hist', nI (c + 1)) ∧ (∀ i, i < c → ∀ j, j < 45 → hist' (45 * i + j) = hist (45 * i + j)) ∧ ∀ j, j < 45 → hist' (45 * c + j) = kept j := by
  unfold F_X11_record
  have := M_copy kept hist (i := 0) (j := c) (n0 := 45) (n1 := 360) (by decide) (by omega) (by decide) (by omega)
  refine ⟨va_cpy kept hist (45 * 0) (45 * c) 45, ?_, fun i hi j hj => ?_, fun j hj => ?_⟩
  · rw [if_neg (show ¬ nI c = 8 by
      intro q
      rw [show (8 : Int32) = nI 8 from rfl, e_eq (by omega) (by decide)] at q
      omega)]
    show (F_X11_copy kept (nI 0) hist (nI c) 45 360).bind _ = _
    rw [this, Option.bind_some, nm_e1, show nI c + 1 = nI (c + 1) from e_add c 1]
  · rw [pk_cpy_out (Or.inl (by omega))]
  · rw [pk_cpy_in (by omega) (by omega), show 45 * 0 + (45 * c + j - 45 * c) = j by omega]
theorem record_8 (hist kept : Nat → Int32) :
    ∃ hist', F_X11_record hist kept (nI 8) = some (hist', nI 8) ∧ (∀ i, i < 7 → ∀ j, j < 45 → hist' (45 * i + j) = hist (45 * (i + 1) + j)) ∧ ∀ j, j < 45 → hist' (45 * 7 + j) = kept j := by
  unfold F_X11_record
  rw [if_pos (show nI 8 = 8 from rfl)]
  refine fx3E (Post := fun (r : Option ((Nat → Int32) × Int32)) => ∃ hist' : Nat → Int32, r = some (hist', nI 8) ∧ (∀ i, i < 7 → ∀ j, j < 45 → hist' (45 * i + j) = hist (45 * (i + 1) + j)) ∧ ∀ j, j < 45 → hist' (45 * 7 + j) = kept j)
    (Q := fun (a : Int32) (T : Nat → Int32) (u : Int32) (m : Nat) => u = nI 8 ∧ ∃ x, a = nI x ∧ 1 ≤ x ∧ x ≤ 8 ∧ m = 8 - x ∧ (∀ i, i < x - 1 → ∀ j, j < 45 → T (45 * i + j) = hist (45 * (i + 1) + j)) ∧ (∀ i, x - 1 ≤ i → ∀ j, j < 45 → T (45 * i + j) = hist (45 * i + j)))
    ?_ FUEL 1 _ _ 7 ⟨rfl, 1, rfl, by omega, by omega, rfl, fun i hi => absurd hi (by omega), fun i _ j _ => rfl⟩ (by unfold FUEL; omega)
  rintro K _ T _ _ ih ⟨rfl, x, rfl, h1, h8, rfl, hlo, hhi⟩
  unfold B_X11_record_11
  by_cases z : 8 ≤ x
  · have e7 : nI 8 - 1 = nI 7 := e_sub (b := 1) (by omega)
    have := M_copy kept T (i := 0) (j := 7) (n0 := 45) (n1 := 360) (by decide) (by decide) (by decide) (by decide)
    rw [if_pos (show (8 : Int32) ≤ nI x from nI_le (a := 8) z (by omega)), nm_e1, e7, show (0 : Int32) = nI 0 from rfl, this, Option.bind_some, nm_e1]
    refine ⟨_, rfl, fun i hi j hj => ?_, fun j hj => ?_⟩
    · rw [pk_cpy_out (Or.inl (by omega))]
      exact hlo i (by omega) j hj
    · rw [pk_cpy_in (by omega) (by omega), show 45 * 0 + (45 * 7 + j - 45 * 7) = j by omega]
  · have e1 : nI x - 1 = nI (x - 1) := e_sub (b := 1) (by omega)
    have e2 : nI x + 1 = nI (x + 1) := e_add x 1
    have := M_copy T T (i := x) (j := x - 1) (n0 := 360) (n1 := 360) (by omega) (by omega) (by omega) (by omega)
    rw [if_neg (show ¬ (8 : Int32) ≤ nI x from nI_ge (b := 8) (by omega) (by decide)), e1, this, Option.bind_some, nm_e1, e2]
    refine ih _ _ _ (8 - (x + 1)) (by omega) ⟨rfl, x + 1, rfl, by omega, by omega, rfl, fun i hi j hj => ?_, fun i hi j hj => ?_⟩
    · by_cases c : i = x - 1
      · rw [c, pk_cpy_in (by omega) (by omega), show 45 * x + (45 * (x - 1) + j - 45 * (x - 1)) = 45 * x + j by omega, show x - 1 + 1 = x by omega]
        exact hhi x (by omega) j hj
      · rw [pk_cpy_out (Or.inl (by omega))]
        exact hlo i (by omega) j hj
    · rw [pk_cpy_out (Or.inr (by omega))]
      exact hhi i (by omega) j hj
end
