/-! ===== PURE: both, meet, turn, next, gaps, twins ===== -/
theorem fi_skip {p : Nat → Bool} {a b L : Nat} (hab : a ≤ b) (h : ∀ n, a ≤ n → n < b → p n = false) : fi p a (L + 1 - a) = fi p b (L + 1 - b) := by
  by_cases c : b ≤ L + 1
  · rw [show L + 1 - a = (b - a) + (L + 1 - b) by omega, fi_add _ _ _ _ (fun i h1 h2 => h i h1 (by omega)), show a + (b - a) = b by omega]
  · rw [fi_none.mpr (fun i h1 h2 => h i h1 (by omega)), show L + 1 - b = 0 by omega]
    rfl
section
variable {w ns k : Nat} {R D : Nat → Nat} {P : PlanT} {row : Nat → Int32} {S : SieveT} {L : Nat}
theorem L_cur (hw : WF w ns R k D) (hP : PX w ns R k D P) (hS : SOK w k D (1 + sm R ns) P S) :
    ∃ S', F_X10_current P S = some S' ∧ SV w k D (1 + sm R ns) S' ∧ SOK w k D (1 + sm R ns) P S' ∧ F_X10_current P S' = some S' := by
  have again : ∀ S' : SieveT, S'.2.2.2.2.2 = P.2.2.2.2.2.2 → F_X10_current P S' = some S' := by
    intro S' e
    unfold F_X10_current F_X7_isBuiltFor F_X3_version
    rw [Option.bind_some, if_pos e]
    rfl
  unfold F_X10_current F_X7_isBuiltFor F_X3_version
  rw [Option.bind_some]
  by_cases c : S.2.2.2.2.2 = P.2.2.2.2.2.2
  · rw [if_pos c]
    exact ⟨S, rfl, hS.2 c, hS, again S c⟩
  · rw [if_neg c]
    obtain ⟨S', h1, h2, h3⟩ := L_build hw hP S
    refine ⟨S', ?_, h2, ⟨Or.inr (Or.inl h3), fun _ => h2⟩, again S' h3⟩
    show (if false = true then some S else (F_X7_build S P).bind fun w_4 => some w_4) = _
    rw [if_neg (by decide), h1]
    rfl
/-- struck by both -/
def bo (w : Nat) (D : Nat → Nat) (i j n : Nat) : Bool := !off w n && (hit n (D i) && hit n (D j))
theorem bo_hit {i j n : Nat} (h : bo w D i j n = true) : D i * D i ≤ n ∧ n % D i = 0 := by
  unfold bo hit at h
  simp only [Bool.and_eq_true, decide_eq_true_eq] at h
  exact h.2.1
theorem L_nextCommon (hw : WF w ns R k D) (hP : PX w ns R k D P) (hv : SV w k D (1 + sm R ns) S) (hcur : F_X10_current P S = some S) {i j c : Nat} (hi : i < k) (hj : j < k) (hc : c % D i = 0) (hcL : c ≤ 5000) :
    F_X10_nextCommon (nI i) (nI j) (nI c) P S = some (oI (fi (bo w D i j) (c + 1) (1 + sm R ns + 1 - (c + 1))), S) := by
  have hL := hw.last
  have h30 := hw.2.2.2.1
  have hd := hw.2.2.2.2.1 i hi
  have hdd : D i * D i ≤ 120 * 120 := Nat.mul_le_mul hd.2 hd.2
  have hd2 : 2 * 2 ≤ D i * D i := Nat.mul_le_mul hd.1 hd.1
  unfold F_X10_nextCommon
  rw [hcur, Option.bind_some, L_dOf hw hP hi, Option.bind_some]
  obtain ⟨s, hs1, hs2, hs3, hs4, hs5⟩ : ∃ s, (if nI (D i) * nI (D i) < nI c + nI (D i) then nI c + nI (D i) else nI (D i) * nI (D i)) = nI s ∧ s % D i = 0 ∧ D i * D i ≤ s ∧ c < s ∧ (∀ n, c + 1 ≤ n → n < s → bo w D i j n = false) ∧ s ≤ 20000 := by
    simp (disch := omega) only [↓m1_d, ↓m2_d, e_m2, e_m2', e_m12, e_m21, liN, e_le, e_lt, e_eqm, e_eq, e_m1, e_m1', e_m1l, e_m1e, e_m1g, e_m1h, e_add, e_mul, e_sub, e_pred, e_rem, ix_nI, nz_nI, nI_clamp, nm_e1, Nat.add_zero, if_true, if_false, Nat.reduceEqDiff, eq_self, reduceIte]
    by_cases q : D i * D i < c + D i
    · refine ⟨c + D i, if_pos q, by rw [Nat.add_mod_right]; exact hc, by omega, by omega, fun n n1 n2 => ?_, by omega⟩
      rw [Bool.eq_false_iff]
      intro e
      have hm := (bo_hit e).2
      have : n % D i = n - c := by
        rw [show n = c + (n - c) by omega, Nat.add_mod, hc, Nat.zero_add, Nat.mod_mod, Nat.mod_eq_of_lt (by omega)]
        omega
      omega
    · refine ⟨D i * D i, if_neg q, Nat.mul_mod_right _ _, Nat.le_refl _, by omega, fun n n1 n2 => ?_, by omega⟩
      rw [Bool.eq_false_iff]
      intro e
      have := (bo_hit e).1
      omega
  rw [hs1, fi_skip (by omega : c + 1 ≤ s) hs5.1]
  have hs6 := hs5.2
  show fx (fun _ _ _ => none) (B_X10_nextCommon_30 (nI i) (nI j) (nI c) P) FUEL (nI (D i)) (nI s) S = _
  have run : fx (fun _ _ _ => none) (B_X10_nextCommon_30 (nI i) (nI j) (nI c) P) FUEL (nI (D i)) (nI s) S = some (oI (fi (fun n => decide (n % D i = 0) && bo w D i j n) s (1 + sm R ns + 1 - s)), S) := by
    refine fx3 (Q := fun a x T m r => a = nI (D i) ∧ S = T ∧ ∃ n, x = nI n ∧ D i * D i ≤ n ∧ n % D i = 0 ∧ n ≤ 40000 ∧ (n ≤ 20000 ∨ 1 + sm R ns < n) ∧ m = 1 + sm R ns + 1 - n ∧ r = some (oI (fi (fun n => decide (n % D i = 0) && bo w D i j n) n (1 + sm R ns + 1 - n)), S)) ?_ FUEL _ _ _ _ _ ⟨rfl, rfl, s, rfl, hs3, hs2, by omega, Or.inl (by omega), rfl, rfl⟩ (by unfold FUEL; omega)
    rintro K _ _ _ _ _ ih ⟨rfl, rfl, n, rfl, n1, n2, n3, n4, rfl, rfl⟩
    unfold B_X10_nextCommon_30 F_X7_lastNumber
    rw [hv.1, Option.bind_some]
    by_cases q : 1 + sm R ns < n
    · simp (disch := omega) only [↓m1_d, ↓m2_d, e_m2, e_m2', e_m12, e_m21, liN, e_le, e_lt, e_eqm, e_eq, e_m1, e_m1', e_m1l, e_m1e, e_m1g, e_m1h, e_add, e_mul, e_sub, e_pred, e_rem, ix_nI, nz_nI, nI_clamp, nm_e1, Nat.add_zero, if_true, if_false, Nat.reduceEqDiff, eq_self, reduceIte]
      rw [if_neg (by omega), if_pos q, show 1 + sm R ns + 1 - n = 0 by omega]
      rfl
    · rw [fi_mul (by omega) n2 (by omega)]
      simp (disch := omega) only [↓m1_d, ↓m2_d, e_m2, e_m2', e_m12, e_m21, liN, e_le, e_lt, e_eqm, e_eq, e_m1, e_m1', e_m1l, e_m1e, e_m1g, e_m1h, e_add, e_mul, e_sub, e_pred, e_rem, ix_nI, nz_nI, nI_clamp, nm_e1, Nat.add_zero, if_true, if_false, Nat.reduceEqDiff, eq_self, reduceIte, Option.bind_some, L_ownerOf hL hv (by omega : n < 2 ^ 31)]
      rw [if_neg (by omega), if_neg q, if_pos (show 2 ≤ n ∧ n ≤ 1 + sm R ns by omega)]
      simp (disch := omega) only [↓m1_d, ↓m2_d, e_m2, e_m2', e_m12, e_m21, liN, e_le, e_lt, e_eqm, e_eq, e_m1, e_m1', e_m1l, e_m1e, e_m1g, e_m1h, e_add, e_mul, e_sub, e_pred, e_rem, ix_nI, nz_nI, nI_clamp, nm_e1, Nat.add_zero, if_true, if_false, Nat.reduceEqDiff, eq_self, reduceIte, oz_m1 hw]
      have hn : K (nI (D i)) (nI (n + D i)) S = some (oI (fi (fun n => decide (n % D i = 0) && bo w D i j n) (n + D i) (1 + sm R ns + 1 - (n + D i))), S) :=
        ih _ _ _ (1 + sm R ns + 1 - (n + D i)) _ (by omega) ⟨rfl, rfl, n + D i, rfl, by omega, by rw [Nat.add_mod_right]; exact n2, by omega, by omega, rfl, rfl⟩
      unfold bo at hn ⊢
      cases ho : off w n with
      | true =>
        rw [if_pos rfl, hn]
        rfl
      | false =>
        rw [if_neg Bool.false_ne_true, L_countHits hw hP (by omega) (by omega) (by omega) (by omega), Option.bind_some, show min (j + 1) k - j = 0 + 1 by omega, cn_s]
        have hh : hit n (D i) = true := by
          unfold hit
          rw [decide_eq_true n1, decide_eq_true n2]
          rfl
        rw [hh]
        cases hx : hit n (D j) with
        | true => rfl
        | false =>
          show (if nI 0 ≤ 0 then _ else _) = _
          rw [if_pos (by decide)]
          exact hn
  rw [run]
  congr 3
  refine fi_cong (fun n _ _ => ?_)
  cases e : bo w D i j n with
  | true => rw [decide_eq_true (bo_hit e).2]; rfl
  | false => rw [Bool.and_false]
theorem bo_lo (hw : WF w ns R k D) {i j : Nat} (hi : i < k) : ∀ n, 1 ≤ n → n < 2 → bo w D i j n = false := by
  intro n h1 h2
  have hd := hw.2.2.2.2.1 i hi
  have hd2 : 2 * 2 ≤ D i * D i := Nat.mul_le_mul hd.1 hd.1
  rw [Bool.eq_false_iff]
  intro e
  have := (bo_hit e).1
  omega
end
