/-! ===== PURE: widest, widestAt ===== -/
section
variable {w ns k : Nat} {R D : Nat → Nat} {P : PlanT} {row : Nat → Int32} {S : SieveT} {L : Nat}
/-- the widest gap: where, and how wide -/
def wa (p : Nat → Bool) : Nat → Nat → Option Nat → Nat → Nat → Option Nat × Nat
  | 0, b, a, _, _ => (a, b)
  | f + 1, b, a, pr, i => if p i = true then (if i - pr ≤ b then wa p f b a i (i + 1) else wa p f (i - pr) (some pr) i (i + 1)) else wa p f b a pr (i + 1)
theorem wa_inv {p : Nat → Bool} : ∀ {f b : Nat} {a : Option Nat} {pr i : Nat}, i + f = L + 1 → pr < i → 2 ≤ pr → (∀ j, pr < j → j < i → p j = false) →
    (a = none ∧ b = 0 ∨ ∃ v, a = some v ∧ 2 ≤ v ∧ v + b ≤ L ∧ 1 ≤ b ∧ fi p (v + 1) (L - v) = some (v + b)) →
    ((wa p f b a pr i).1 = none ∧ (wa p f b a pr i).2 = 0 ∨ ∃ v, (wa p f b a pr i).1 = some v ∧ 2 ≤ v ∧ v + (wa p f b a pr i).2 ≤ L ∧ 1 ≤ (wa p f b a pr i).2 ∧ fi p (v + 1) (L - v) = some (v + (wa p f b a pr i).2))
  | 0, _, _, _, _, _, _, _, _, h => h
  | f + 1, b, a, pr, i, hf, h1, h2, h3, h => by
    unfold wa
    by_cases e : p i = true
    · rw [if_pos e]
      have z : ∀ j, i < j → j < i + 1 → p j = false := fun j j1 j2 => absurd j1 (by omega)
      by_cases c : i - pr ≤ b
      · rw [if_pos c]
        exact wa_inv (by omega) (by omega) (by omega) z h
      · rw [if_neg c]
        refine wa_inv (by omega) (by omega) (by omega) z (Or.inr ⟨pr, rfl, h2, by omega, by omega, ?_⟩)
        rw [show pr + (i - pr) = i by omega]
        exact fi_eq (by omega) (by omega) e (fun j j1 j2 => h3 j (by omega) j2)
    · rw [if_neg e]
      refine wa_inv (by omega) (by omega) h2 (fun j j1 j2 => ?_) h
      by_cases y : j = i
      · rw [y]; exact Bool.eq_false_iff.mpr e
      · exact h3 j j1 (by omega)
theorem mk_two (hw : WF w ns R k D) : mk w k D 2 = true := by
  unfold mk
  have h1 : off w 2 = false := by
    rw [Bool.eq_false_iff]
    intro e
    obtain ⟨j, -, hj, hp⟩ := fi_isSome.mp e
    have h4 := hw.1
    have := wq_rng (k := j) (by omega)
    simp only [Bool.and_eq_true, decide_eq_true_eq] at hp
    omega
  have h2 : fh k D 2 = none := by
    refine fi_none.mpr (fun j _ hj => hit_small ?_)
    have hd := hw.2.2.2.2.1 j (by omega)
    have := Nat.mul_le_mul hd.1 hd.1
    omega
  rw [h1, h2]
  rfl
theorem L_widestAt (hw : WF w ns R k D) (hL : L ≤ 4801) (hv : SV w k D L S) :
    fx (fun _ _ _ _ _ => none) (B_X10_widestAt_15 P) FUEL (-1) 0 2 3 S = some (oI (wa (mk w k D) (L + 1 - 3) 0 none 2 3).1, S) := by
  refine fx5 (Q := fun u b p v T m r => S = T ∧ ∃ (a : Option Nat) (c pr i : Nat), u = oI a ∧ b = nI c ∧ p = nI pr ∧ v = nI i ∧ c ≤ 5000 ∧ pr < i ∧ 3 ≤ i ∧ i ≤ max 3 (L + 1) ∧ m = L + 1 - i ∧ r = some (oI (wa (mk w k D) (L + 1 - i) c a pr i).1, S))
    ?_ FUEL _ _ _ _ _ (L + 1 - 3) _ ⟨rfl, none, 0, 2, 3, rfl, rfl, rfl, rfl, by omega, by omega, by omega, by omega, rfl, rfl⟩ (by unfold FUEL; omega)
  rintro K _ _ _ _ _ _ _ ih ⟨rfl, a, c, pr, i, rfl, rfl, rfl, rfl, hc, hpr, i1, i2, rfl, rfl⟩
  unfold B_X10_widestAt_15 F_X7_lastNumber
  rw [hv.1, Option.bind_some]
  by_cases q : L < i
  · simp (disch := omega) only [↓m1_d, ↓m2_d, e_m2, e_m2', e_m12, e_m21, liN, e_le, e_lt, e_eqm, e_eq, e_m1, e_m1', e_m1l, e_m1e, e_m1g, e_m1h, e_add, e_mul, e_sub, e_pred, e_rem, ix_nI, nz_nI, nI_clamp, nm_e1, Nat.add_zero, if_true, if_false, Nat.reduceEqDiff, eq_self, reduceIte]
    rw [if_pos q, show L + 1 - i = 0 by omega]
    rfl
  · have ea : isM w k D L i = mk w k D i := by
      unfold isM
      rw [decide_eq_true (by omega : 2 ≤ i ∧ i ≤ L), Bool.true_and]
    simp (disch := omega) only [↓m1_d, ↓m2_d, e_m2, e_m2', e_m12, e_m21, liN, e_le, e_lt, e_eqm, e_eq, e_m1, e_m1', e_m1l, e_m1e, e_m1g, e_m1h, e_add, e_mul, e_sub, e_pred, e_rem, ix_nI, nz_nI, nI_clamp, nm_e1, Nat.add_zero, if_true, if_false, Nat.reduceEqDiff, eq_self, reduceIte, Option.bind_some, L_isMark hw hL hv (by omega : i < 2 ^ 31)]
    rw [if_neg q, ea, show L + 1 - i = (L + 1 - (i + 1)) + 1 by omega]
    unfold wa
    by_cases e : mk w k D i = true
    · rw [if_pos e, if_pos e]
      by_cases z : i - pr ≤ c
      · rw [if_pos z, if_pos z]
        exact ih _ _ _ _ _ (L + 1 - (i + 1)) _ (by omega) ⟨rfl, a, c, i, i + 1, rfl, rfl, rfl, rfl, hc, by omega, by omega, by omega, rfl, rfl⟩
      · rw [if_neg z, if_neg z]
        exact ih _ _ _ _ _ (L + 1 - (i + 1)) _ (by omega) ⟨rfl, some pr, i - pr, i, i + 1, rfl, rfl, rfl, rfl, by omega, by omega, by omega, by omega, rfl, rfl⟩
    · rw [if_neg e, if_neg e]
      exact ih _ _ _ _ _ (L + 1 - (i + 1)) _ (by omega) ⟨rfl, a, c, pr, i + 1, rfl, rfl, rfl, rfl, hc, by omega, by omega, by omega, rfl, rfl⟩
end
