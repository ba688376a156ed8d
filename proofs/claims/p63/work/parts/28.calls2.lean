/-! ===== PURE: stretch, striker ===== -/
theorem fi_eq {p : Nat → Bool} {a n j : Nat} (h1 : a ≤ j) (h2 : j < a + n) (h3 : p j = true) (h4 : ∀ i, a ≤ i → i < j → p i = false) : fi p a n = some j := by
  cases hf : fi p a n with
  | none => rw [fi_none.mp hf j h1 h2] at h3; cases h3
  | some v =>
    obtain ⟨a1, a2, a3, a4⟩ := fi_some hf
    rcases Nat.lt_trichotomy v j with c | c | c
    · rw [h4 v a1 c] at a3; cases a3
    · rw [c]
    · rw [a4 j h1 c] at h3; cases h3
theorem fb_some {p : Nat → Bool} {a : Nat} : ∀ {n j : Nat}, fb p a n = some j → a ≤ j ∧ j < a + n ∧ p j = true ∧ ∀ i, j < i → i < a + n → p i = false
  | 0, _, h => by cases h
  | n + 1, j, h => by
    unfold fb at h
    by_cases e : p (a + n) = true
    · rw [if_pos e] at h
      cases h
      exact ⟨by omega, by omega, e, fun i h1 h2 => absurd h1 (by omega)⟩
    · rw [if_neg e] at h
      obtain ⟨h1, h2, h3, h4⟩ := fb_some h
      refine ⟨h1, by omega, h3, fun i i1 i2 => ?_⟩
      by_cases c : i = a + n
      · rw [c]; exact Bool.eq_false_iff.mpr e
      · exact h4 i i1 (by omega)
theorem fb_none {p : Nat → Bool} {a : Nat} : ∀ {n : Nat}, fb p a n = none ↔ ∀ i, a ≤ i → i < a + n → p i = false
  | 0 => ⟨fun _ i h1 h2 => absurd h1 (by omega), fun _ => rfl⟩
  | n + 1 => by
    unfold fb
    by_cases e : p (a + n) = true
    · rw [if_pos e]
      exact ⟨fun h => (by cases h), fun h => by rw [h (a + n) (by omega) (by omega)] at e; cases e⟩
    · rw [if_neg e, fb_none]
      refine ⟨fun h i i1 i2 => ?_, fun h i i1 i2 => h i i1 (by omega)⟩
      by_cases c : i = a + n
      · rw [c]; exact Bool.eq_false_iff.mpr e
      · exact h i i1 (by omega)
theorem fb_eq {p : Nat → Bool} {a n j : Nat} (h1 : a ≤ j) (h2 : j < a + n) (h3 : p j = true) (h4 : ∀ i, j < i → i < a + n → p i = false) : fb p a n = some j := by
  cases hf : fb p a n with
  | none => rw [fb_none.mp hf j h1 h2] at h3; cases h3
  | some v =>
    obtain ⟨a1, a2, a3, a4⟩ := fb_some hf
    rcases Nat.lt_trichotomy v j with c | c | c
    · rw [a4 j c h2] at h3; cases h3
    · rw [c]
    · rw [h4 v c a2] at a3; cases a3
section
variable {w ns k : Nat} {R D : Nat → Nat} {P : PlanT} {row : Nat → Int32} {S : SieveT} {L : Nat}
theorem m1_orNone {a b : Nat} (ha : a < 2 ^ 31) : F_X10_orNone m1 (nI a) (nI b) = some m1 := by
  unfold F_X10_orNone
  rw [if_pos (show m1 < nI a from m1_lt ha)]
  rfl
theorem L_orNone {v a b : Nat} (hv : v < 2 ^ 31) (ha : a < 2 ^ 31) (hb : b < 2 ^ 31) : F_X10_orNone (nI v) (nI a) (nI b) = some (if a ≤ v ∧ v ≤ b then nI v else m1) := by
  unfold F_X10_orNone
  simp (disch := omega) only [↓m1_d, ↓m2_d, e_m2, e_m2', e_m12, e_m21, liN, e_le, e_lt, e_eqm, e_eq, e_m1, e_m1', e_m1l, e_m1e, e_m1g, e_m1h, e_add, e_mul, e_sub, e_pred, e_rem, ix_nI, nz_nI, nI_clamp, nm_e1, Nat.add_zero, if_true, if_false, Nat.reduceEqDiff, eq_self, reduceIte]
  by_cases c : v < a
  · rw [if_pos c, if_neg (by omega)]
  · rw [if_neg c]
    by_cases d : b < v
    · rw [if_pos d, if_neg (by omega)]
    · rw [if_neg d, if_pos (by omega)]
theorem orNone_fi {p : Nat → Bool} {a b n : Nat} (ha : a < 2 ^ 31) (hn : a + n < 2 ^ 31) (hb : b + 1 ≤ a + n) : F_X10_orNone (oI (fi p a n)) (nI a) (nI b) = some (oI (fi p a (b + 1 - a))) := by
  cases hf : fi p a n with
  | none =>
    rw [fi_none.mpr (fun i h1 h2 => fi_none.mp hf i h1 (by omega))]
    exact m1_orNone ha
  | some v =>
    obtain ⟨a1, a2, a3, a4⟩ := fi_some hf
    show F_X10_orNone (nI v) _ _ = _
    rw [L_orNone (by omega) ha (by omega)]
    by_cases c : v ≤ b
    · rw [if_pos ⟨a1, c⟩, fi_eq a1 (by omega) a3 a4]
      rfl
    · rw [if_neg (fun q => c q.2), fi_none.mpr (fun i h1 h2 => a4 i h1 (by omega))]
      rfl
theorem orNone_fb {p : Nat → Bool} {a b : Nat} (ha : 2 ≤ a) (hab : a ≤ b) (hb : b < 2 ^ 31) : F_X10_orNone (oI (fb p 2 (b + 1 - 2))) (nI a) (nI b) = some (oI (fb p a (b + 1 - a))) := by
  cases hf : fb p 2 (b + 1 - 2) with
  | none =>
    rw [fb_none.mpr (fun i h1 h2 => fb_none.mp hf i (by omega) (by omega))]
    exact m1_orNone (by omega)
  | some v =>
    obtain ⟨a1, a2, a3, a4⟩ := fb_some hf
    show F_X10_orNone (nI v) _ _ = _
    rw [L_orNone (by omega) (by omega) hb]
    by_cases c : a ≤ v
    · rw [if_pos ⟨c, by omega⟩, fb_eq c (by omega) a3 (fun i h1 h2 => a4 i h1 (by omega))]
      rfl
    · rw [if_neg (fun q => c q.1), fb_none.mpr (fun i h1 h2 => a4 i (by omega) (by omega))]
      rfl
end
