/-! ===== PURE: bytes and tokens ===== -/
/-- f bytes g stand in both buffers -/
def BY (g : Nat → Nat) (f : Nat) (sb b : Nat → Int32) : Prop := f ≤ 600 ∧ ∀ i, i < f → g i < 256 ∧ sb i &&& 255 = nI (g i) ∧ b i = nI (g i)
def lx_le (x : Nat) : Bool := decide (97 ≤ x ∧ x ≤ 122)
def lx_dg (x : Nat) : Bool := decide (48 ≤ x ∧ x ≤ 57)
def lx_bl (x : Nat) : Bool := decide (x = 32 ∨ x = 10)
theorem X_isLetter {x : Nat} (h : x < 256) : F_X8_isLetter (nI x) = some (lx_le x) := by
  unfold F_X8_isLetter lx_le
  by_cases c : x < 97
  · rw [if_pos (show nI x < 97 from nI_lt (b := 97) c (by decide)), decide_eq_false (by omega)]
  · rw [if_neg (show ¬ nI x < 97 from nI_nlt (b := 97) (by omega) (by omega))]
    by_cases d : x ≤ 122
    · rw [if_neg (show ¬ 122 < nI x from nI_nlt (a := 122) d (by decide)), decide_eq_true (by omega)]
    · rw [if_pos (show 122 < nI x from nI_lt (a := 122) (by omega) (by omega)), decide_eq_false (by omega)]
theorem X_isDigit {x : Nat} (h : x < 256) : F_X8_isDigit (nI x) = some (lx_dg x) := by
  unfold F_X8_isDigit lx_dg
  by_cases c : x < 48
  · rw [if_pos (show nI x < 48 from nI_lt (b := 48) c (by decide)), decide_eq_false (by omega)]
  · rw [if_neg (show ¬ nI x < 48 from nI_nlt (b := 48) (by omega) (by omega))]
    by_cases d : x ≤ 57
    · rw [if_neg (show ¬ 57 < nI x from nI_nlt (a := 57) d (by decide)), decide_eq_true (by omega)]
    · rw [if_pos (show 57 < nI x from nI_lt (a := 57) (by omega) (by omega)), decide_eq_false (by omega)]
theorem nI_eq_lit {x : Nat} (a : Nat) (h : x < 2 ^ 31) (ha : a < 2 ^ 31) : (nI x = nI a) ↔ x = a := by
  rw [e_eq h ha]
theorem X_isBlank {x : Nat} (h : x < 256) : F_X8_isBlank (nI x) = some (lx_bl x) := by
  unfold F_X8_isBlank lx_bl
  by_cases c : x = 32
  · subst c; rfl
  · rw [if_neg (show ¬ nI x = 32 from fun e => c ((nI_eq_lit 32 (by omega) (by decide)).mp e))]
    by_cases d : x = 10
    · subst d; rfl
    · rw [if_neg (show ¬ nI x = 10 from fun e => d ((nI_eq_lit 10 (by omega) (by decide)).mp e)), decide_eq_false (by omega)]
section
variable {g : Nat → Nat} {f n : Nat} {sb b : Nat → Int32}
theorem L_byteAt (hB : BY g f sb b) {i : Nat} (hi : i < f) (t : SrcT) (ht : t.1 = sb) : F_X8_byteAt (nI i) t = some (nI (g i)) := by
  have h6 := hB.1
  unfold F_X8_byteAt
  rw [if_neg (nI_pos (by omega)), if_pos (show nI i < 600 from nI_lt (b := 600) (by omega) (by decide)), ix_nI (by omega) (by decide), nI_clamp (by omega), ht, (hB.2 i hi).2.1]
/-- the value of a run of digits: the reference's, and how the class's stands to it -/
def rs (v x : Nat) : Nat := if v ≤ 9999999 then 10 * v + x - 48 else v
def rv (g : Nat → Nat) (i : Nat) : Nat → Nat
  | 0 => 0
  | k + 1 => rs (rv g i k) (g (i + k))
def VR (c r : Nat) : Prop := (c = r ∧ r < 1000000) ∨ (c = 1000000 ∧ 1000000 ≤ r ∧ r < 100000000)
theorem VR.lt {c r : Nat} (h : VR c r) : c ≤ 1000000 ∧ r < 100000000 := by
  rcases h with h | h <;> omega
theorem VR.step {c r x : Nat} (h : VR c r) (h1 : 48 ≤ x) (h2 : x ≤ 57) : VR (if 1000000 < c * 10 + x - 48 then 1000000 else c * 10 + x - 48) (rs r x) := by
  unfold rs
  rcases h with ⟨rfl, h⟩ | ⟨rfl, h3, h4⟩
  · rw [if_pos (show c ≤ 9999999 by omega)]
    by_cases q : 1000000 < c * 10 + x - 48
    · rw [if_pos q]; exact Or.inr ⟨rfl, by omega, by omega⟩
    · rw [if_neg q]
      by_cases q2 : c * 10 + x - 48 = 1000000
      · exact Or.inr ⟨q2, by omega, by omega⟩
      · exact Or.inl ⟨by omega, by omega⟩
  · by_cases q : 1000000 < 1000000 * 10 + x - 48
    · rw [if_pos q]
      refine Or.inr ⟨rfl, ?_, ?_⟩
      · split <;> omega
      · split <;> omega
    · omega
/-- one token, as both hold it -/
def TK (g : Nat → Nat) (n : Nat) (t : SrcT) (ba nb tok : Int32) : Prop :=
  ∃ i j, i ≤ j ∧ j ≤ n ∧ t.2.2.1 = nI n ∧ t.2.2.2.1 = nI j ∧ nb = nI j ∧ t.2.2.2.2.2.1 = nI i ∧ ba = nI i ∧
    ((t.2.2.2.2.1 = 0 ∧ tok = 0) ∨ (t.2.2.2.2.1 = 1 ∧ tok = 1) ∨ (t.2.2.2.2.1 = 2 ∧ tok = 2 ∧ ∃ c, t.2.2.2.2.2.2 = nI c ∧ VR c (rv g i (j - i)) ∧ ∀ k, i + k < j → 48 ≤ g (i + k) ∧ g (i + k) ≤ 57) ∨
      (t.2.2.2.2.1 = 3 ∧ tok = 3 ∧ i < n ∧ g i = 59) ∨ (t.2.2.2.2.1 = 4 ∧ tok = 3 ∧ i < n ∧ ¬ g i = 59))
end
