/-! ===== PURE: both, meet, turn, next, gaps, twins ===== -/
theorem fi_skip {p : Nat → Bool} {a b L : Nat} (hab : a ≤ b) (h : ∀ n, a ≤ n → n < b → p n = false) : fi p a (L + 1 - a) = fi p b (L + 1 - b) := by
  by_cases c : b ≤ L + 1
  · rw [show L + 1 - a = (b - a) + (L + 1 - b) by omega, fi_add _ _ _ _ (fun i h1 h2 => h i h1 (by omega)), show a + (b - a) = b by omega]
  · rw [fi_none.mpr (fun i h1 h2 => h i h1 (by omega)), show L + 1 - b = 0 by omega]
    rfl
section
variable {w ns k : Nat} {R D : Nat → Nat} {P : PlanT} {row : Nat → Int32} {S : SieveT} {L : Nat}
theorem L_cur (hw : WF w ns R k D) (hP : PX w ns R k D P) (hS : SOK w k D (1 + sm R ns) P S) :
    ∃ S', F_X10_current P S = some S' ∧ SV w k D (1 + sm R ns) S' ∧ SOK w k D (1 + sm R ns) P S' ∧ F_X10_current P S' = some S' := by
  have again : ∀ S' : SieveT, S'.2.2.2.2.2 = P.2.2.2.2.2.2 → F_X10_current P S' = some S' := by
    intro S' e
    unfold F_X10_current F_X7_isBuiltFor F_X3_version
    rw [Option.bind_some, if_pos e]
    rfl
  unfold F_X10_current F_X7_isBuiltFor F_X3_version
  rw [Option.bind_some]
  by_cases c : S.2.2.2.2.2 = P.2.2.2.2.2.2
  · rw [if_pos c]
    exact ⟨S, rfl, hS.2 c, hS, again S c⟩
  · rw [if_neg c]
    obtain ⟨S', h1, h2, h3⟩ := L_build hw hP S
    refine ⟨S', ?_, h2, ⟨Or.inr (Or.inl h3), fun _ => h2⟩, again S' h3⟩
    show (if false = true then some S else (F_X7_build S P).bind fun w_4 => some w_4) = _
    rw [if_neg (by decide), h1]
    rfl
/-- struck by both -/
def bo (w : Nat) (D : Nat → Nat) (i j n : Nat) : Bool := !off w n && (hit n (D i) && hit n (D j))
theorem bo_hit {i j n : Nat} (h : bo w D i j n = true) : D i * D i ≤ n ∧ n % D i = 0 := by
  unfold bo hit at h
  simp only [Bool.and_eq_true, decide_eq_true_eq] at h
  exact h.2.1
theorem L_nextCommon (hw : WF w ns R k D) (hP : PX w ns R k D P) (hv : SV w k D (1 + sm R ns) S) (hcur : F_X10_current P S = some S) {i j c : Nat} (hi : i < k) (hj : j < k) (hc : c % D i = 0) (hcL : c ≤ 5000) :
    F_X10_nextCommon (nI i) (nI j) (nI c) P S = some (oI (fi (bo w D i j) (c + 1) (1 + sm R ns + 1 - (c + 1))), S) := by
  have hL := hw.last
  have h30 := hw.2.2.2.1
  have hd := hw.2.2.2.2.1 i hi
  have hdd : D i * D i ≤ 120 * 120 := Nat.mul_le_mul hd.2 hd.2
  have hd2 : 2 * 2 ≤ D i * D i := Nat.mul_le_mul hd.1 hd.1
  unfold F_X10_nextCommon
  rw [hcur, Option.bind_some, L_dOf hw hP hi, Option.bind_some]
  obtain ⟨s, hs1, hs2, hs3, hs4, hs5⟩ : ∃ s, (if nI (D i) * nI (D i) < nI c + nI (D i) then nI c + nI (D i) else nI (D i) * nI (D i)) = nI s ∧ s % D i = 0 ∧ D i * D i ≤ s ∧ c < s ∧ (∀ n, c + 1 ≤ n → n < s → bo w D i j n = false) ∧ s ≤ 20000 := by
    simp (disch := omega) only [↓m1_d, ↓m2_d, e_m2, e_m2', e_m12, e_m21, liN, e_le, e_lt, e_eqm, e_eq, e_m1, e_m1', e_m1l, e_m1e, e_m1g, e_m1h, e_add, e_mul, e_sub, e_pred, e_rem, ix_nI, nz_nI, nI_clamp, nm_e1, Nat.add_zero, if_true, if_false, Nat.reduceEqDiff, eq_self, reduceIte]
    by_cases q : D i * D i < c + D i
    · refine ⟨c + D i, if_pos q, by rw [Nat.add_mod_right]; exact hc, by omega, by omega, fun n n1 n2 => ?_, by omega⟩
      rw [Bool.eq_false_iff]
      intro e
      have hm := (bo_hit e).2
      have : n % D i = n - c := by
        rw [show n = c + (n - c) by omega, Nat.add_mod, hc, Nat.zero_add, Nat.mod_mod, Nat.mod_eq_of_lt (by omega)]
        omega
      omega
    · refine ⟨D i * D i, if_neg q, Nat.mul_mod_right _ _, Nat.le_refl _, by omega, fun n n1 n2 => ?_, by omega⟩
      rw [Bool.eq_false_iff]
      intro e
      have := (bo_hit e).1
      omega
  rw [hs1, fi_skip (by omega : c + 1 ≤ s) hs5.1]
  have hs6 := hs5.2
  show fx (fun _ _ _ => none) (B_X10_nextCommon_30 (nI i) (nI j) (nI c) P) FUEL (nI (D i)) (nI s) S = _
  have run : fx (fun _ _ _ => none) (B_X10_nextCommon_30 (nI i) (nI j) (nI c) P) FUEL (nI (D i)) (nI s) S = some (oI (fi (fun n => decide (n % D i = 0) && bo w D i j n) s (1 + sm R ns + 1 - s)), S) := by
    refine fx3 (Q := fun a x T m r => a = nI (D i) ∧ S = T ∧ ∃ n, x = nI n ∧ D i * D i ≤ n ∧ n % D i = 0 ∧ n ≤ 40000 ∧ (n ≤ 20000 ∨ 1 + sm R ns < n) ∧ m = 1 + sm R ns + 1 - n ∧ r = some (oI (fi (fun n => decide (n % D i = 0) && bo w D i j n) n (1 + sm R ns + 1 - n)), S)) ?_ FUEL _ _ _ _ _ ⟨rfl, rfl, s, rfl, hs3, hs2, by omega, Or.inl (by omega), rfl, rfl⟩ (by unfold FUEL; omega)
    rintro K _ _ _ _ _ ih ⟨rfl, rfl, n, rfl, n1, n2, n3, n4, rfl, rfl⟩
    unfold B_X10_nextCommon_30 F_X7_lastNumber
    rw [hv.1, Option.bind_some]
    by_cases q : 1 + sm R ns < n
    · simp (disch := omega) only [↓m1_d, ↓m2_d, e_m2, e_m2', e_m12, e_m21, liN, e_le, e_lt, e_eqm, e_eq, e_m1, e_m1', e_m1l, e_m1e, e_m1g, e_m1h, e_add, e_mul, e_sub, e_pred, e_rem, ix_nI, nz_nI, nI_clamp, nm_e1, Nat.add_zero, if_true, if_false, Nat.reduceEqDiff, eq_self, reduceIte]
      rw [if_neg (by omega), if_pos q, show 1 + sm R ns + 1 - n = 0 by omega]
      rfl
    · rw [fi_mul (by omega) n2 (by omega)]
      simp (disch := omega) only [↓m1_d, ↓m2_d, e_m2, e_m2', e_m12, e_m21, liN, e_le, e_lt, e_eqm, e_eq, e_m1, e_m1', e_m1l, e_m1e, e_m1g, e_m1h, e_add, e_mul, e_sub, e_pred, e_rem, ix_nI, nz_nI, nI_clamp, nm_e1, Nat.add_zero, if_true, if_false, Nat.reduceEqDiff, eq_self, reduceIte, Option.bind_some, L_ownerOf hL hv (by omega : n < 2 ^ 31)]
      rw [if_neg (by omega), if_neg q, if_pos (show 2 ≤ n ∧ n ≤ 1 + sm R ns by omega)]
      simp (disch := omega) only [↓m1_d, ↓m2_d, e_m2, e_m2', e_m12, e_m21, liN, e_le, e_lt, e_eqm, e_eq, e_m1, e_m1', e_m1l, e_m1e, e_m1g, e_m1h, e_add, e_mul, e_sub, e_pred, e_rem, ix_nI, nz_nI, nI_clamp, nm_e1, Nat.add_zero, if_true, if_false, Nat.reduceEqDiff, eq_self, reduceIte, oz_m1 hw]
      have hn : K (nI (D i)) (nI (n + D i)) S = some (oI (fi (fun n => decide (n % D i = 0) && bo w D i j n) (n + D i) (1 + sm R ns + 1 - (n + D i))), S) :=
        ih _ _ _ (1 + sm R ns + 1 - (n + D i)) _ (by omega) ⟨rfl, rfl, n + D i, rfl, by omega, by rw [Nat.add_mod_right]; exact n2, by omega, by omega, rfl, rfl⟩
      unfold bo at hn ⊢
      cases ho : off w n with
      | true =>
        rw [if_pos rfl, hn]
        rfl
      | false =>
        rw [if_neg Bool.false_ne_true, L_countHits hw hP (by omega) (by omega) (by omega) (by omega), Option.bind_some, show min (j + 1) k - j = 0 + 1 by omega, cn_s]
        have hh : hit n (D i) = true := by
          unfold hit
          rw [decide_eq_true n1, decide_eq_true n2]
          rfl
        rw [hh]
        cases hx : hit n (D j) with
        | true => rfl
        | false =>
          show (if nI 0 ≤ 0 then _ else _) = _
          rw [if_pos (by decide)]
          exact hn
  rw [run]
  congr 3
  refine fi_cong (fun n _ _ => ?_)
  cases e : bo w D i j n with
  | true => rw [decide_eq_true (bo_hit e).2]; rfl
  | false => rw [Bool.and_false]
theorem bo_strikes (hw : WF w ns R k D) (hR : RX w ns R k D row) {i j n : Nat} (hi : i < k) (hj : j < k) (h1 : 1 ≤ n) (hn : n < 2 ^ 31) {β : Type} (A B : Option β) :
    (ix (15 + nI i) 45 ((F_X11_strikes (row (15 + nI i).toNatClampNeg) (nI n) row).bind fun w_11 => if w_11 = true then ix (15 + nI j) 45 ((F_X11_strikes (row (15 + nI j).toNatClampNeg) (nI n) row).bind fun w_17 => if w_17 = true then A else B) else B)) = if bo w D i j n = true then A else B := by
  have h30 := hw.2.2.2.1
  have hd := hw.2.2.2.2.1 i hi
  have hd2 := hw.2.2.2.2.1 j hj
  simp (disch := omega) only [↓m1_d, ↓m2_d, e_m2, e_m2', e_m12, e_m21, liN, e_le, e_lt, e_eqm, e_eq, e_m1, e_m1', e_m1l, e_m1e, e_m1g, e_m1h, e_add, e_mul, e_sub, e_pred, e_rem, ix_nI, nz_nI, nI_clamp, nm_e1, Nat.add_zero, if_true, if_false, Nat.reduceEqDiff, eq_self, reduceIte, Option.bind_some, hR.2.2.2.2 i hi, hR.2.2.2.2 j hj, M_strikes hw hR hd.1 hd.2 h1 hn, M_strikes hw hR hd2.1 hd2.2 h1 hn]
  unfold bo
  cases hit n (D i) <;> cases hit n (D j) <;> cases off w n <;> rfl
theorem M_both (hw : WF w ns R k D) (hR : RX w ns R k D row) {i j : Nat} (hi : i < k) (hj : j < k) :
    fx (fun _ _ _ => none) (B_X11_both_35 (nI i) (nI j) row) FUEL 0 2 0 = some (nI (cn (bo w D i j) 2 (1 + sm R ns + 1 - 2)), 0) := by
  have hL := hw.last
  refine lp_cn_t (p := bo w D i j) (fun c => (nI c, 0)) 2 (1 + sm R ns + 1) (by omega) (by omega) (fun K c n h1 h2 h3 => ?_)
  unfold B_X11_both_35
  rw [M_last hw hR, Option.bind_some]
  by_cases q : 1 + sm R ns < n
  · rw [if_pos (nI_lt q (by omega)), if_pos (by omega)]
  · rw [if_neg (nI_nlt (by omega) (by omega)), if_neg (show ¬ 1 + sm R ns + 1 ≤ n by omega)]
    refine Eq.trans (bo_strikes hw hR hi hj (by omega) (by omega) _ _) ?_
    simp (disch := omega) only [↓m1_d, ↓m2_d, e_m2, e_m2', e_m12, e_m21, liN, e_le, e_lt, e_eqm, e_eq, e_m1, e_m1', e_m1l, e_m1e, e_m1g, e_m1h, e_add, e_mul, e_sub, e_pred, e_rem, ix_nI, nz_nI, nI_clamp, nm_e1, Nat.add_zero, if_true, if_false, Nat.reduceEqDiff, eq_self, reduceIte]
theorem M_meet (hw : WF w ns R k D) (hR : RX w ns R k D row) {i j : Nat} (hi : i < k) (hj : j < k) :
    fx (fun _ _ => none) (B_X11_meet_32 (nI i) (nI j) row) FUEL 2 0 = some (oI (fi (bo w D i j) 2 (1 + sm R ns + 1 - 2)), 0) := by
  have hL := hw.last
  refine lp_fi_t (p := bo w D i j) (fun c => (oI c, 0)) 2 (1 + sm R ns + 1) (by omega) (by omega) (fun K n h1 h2 => ?_)
  unfold B_X11_meet_32
  rw [M_last hw hR, Option.bind_some]
  by_cases q : 1 + sm R ns < n
  · rw [if_pos (nI_lt q (by omega)), if_pos (by omega)]
    rfl
  · rw [if_neg (nI_nlt (by omega) (by omega)), if_neg (show ¬ 1 + sm R ns + 1 ≤ n by omega)]
    refine Eq.trans (bo_strikes hw hR hi hj (by omega) (by omega) _ _) ?_
    simp (disch := omega) only [↓m1_d, ↓m2_d, e_m2, e_m2', e_m12, e_m21, liN, e_le, e_lt, e_eqm, e_eq, e_m1, e_m1', e_m1l, e_m1e, e_m1g, e_m1h, e_add, e_mul, e_sub, e_pred, e_rem, ix_nI, nz_nI, nI_clamp, nm_e1, Nat.add_zero, if_true, if_false, Nat.reduceEqDiff, eq_self, reduceIte]
    rfl
theorem bo_lo (hw : WF w ns R k D) {i j : Nat} (hi : i < k) : ∀ n, 1 ≤ n → n < 2 → bo w D i j n = false := by
  intro n h1 h2
  have hd := hw.2.2.2.2.1 i hi
  have hd2 : 2 * 2 ≤ D i * D i := Nat.mul_le_mul hd.1 hd.1
  rw [Bool.eq_false_iff]
  intro e
  have := (bo_hit e).1
  omega
theorem Q_meet (h : CX w ns R k D P row S) (x y th : Int32) :
    ∃ r S' b th', F_X10_meet x y P S = some (r, S') ∧ SOK w k D (1 + sm R ns) P S' ∧ F_X11_meet x y row th = some (b, th') ∧ ag 2 r b th' := by
  obtain ⟨hw, hP, hR, hS⟩ := h
  unfold F_X10_meet F_X11_meet
  rcases N_striker hw hP hR x with ⟨i, hi, rfl, h1, h2⟩ | ⟨h1, h2⟩
  · rw [h1, h2, Option.bind_some, Option.bind_some]
    rcases N_striker hw hP hR y with ⟨j, hj, rfl, h3, h4⟩ | ⟨h3, h4⟩
    · obtain ⟨S', c1, c2, c3, c4⟩ := L_cur hw hP hS
      have e : F_X10_nextCommon (nI i) (nI j) 0 P S = F_X10_nextCommon (nI i) (nI j) (nI 0) P S' := by
        unfold F_X10_nextCommon
        rw [c1, c4]
        rfl
      refine ⟨.inr (oI (fi (bo w D i j) 2 (1 + sm R ns + 1 - 2))), S', oI (fi (bo w D i j) 2 (1 + sm R ns + 1 - 2)), 0, ?_, c3, ?_, rfl, rfl⟩
      · show (F_X10_needStriker (nI j) P).bind _ = _
        rw [h3, Option.bind_some]
        show (F_X10_nextCommon (nI i) (nI j) 0 P S).bind _ = _
        rw [e, L_nextCommon hw hP c2 c4 hi hj (Nat.zero_mod _) (by omega), fi_skip (by omega : 0 + 1 ≤ 2) (bo_lo hw hi)]
        rfl
      · show (F_X11_isStriker (nI j) row).bind _ = _
        rw [h4, Option.bind_some]
        show fx (fun _ _ => none) (B_X11_meet_32 (nI i) (nI j) row) FUEL 2 0 = _
        rw [M_meet hw hR hi hj]
    · refine ⟨.inl 2, S, 0, 1, ?_, hS, ?_, rfl, rfl⟩
      · show (F_X10_needStriker y P).bind _ = _
        rw [h3]
        rfl
      · show (F_X11_isStriker y row).bind _ = _
        rw [h4]
        rfl
  · rw [h1, h2]
    exact ⟨.inl 2, S, 0, 1, rfl, hS, rfl, rfl, rfl⟩
theorem Q_both (h : CX w ns R k D P row S) (x y th : Int32) :
    ∃ r S' b th', F_X10_both x y P S = some (r, S') ∧ SOK w k D (1 + sm R ns) P S' ∧ F_X11_both x y row th = some (b, th') ∧ ag 2 r b th' := by
  obtain ⟨hw, hP, hR, hS⟩ := h
  have hL := hw.last
  unfold F_X10_both F_X11_both
  rcases N_striker hw hP hR x with ⟨i, hi, rfl, h1, h2⟩ | ⟨h1, h2⟩
  · rw [h1, h2, Option.bind_some, Option.bind_some]
    rcases N_striker hw hP hR y with ⟨j, hj, rfl, h3, h4⟩ | ⟨h3, h4⟩
    · obtain ⟨S', c1, c2, c3, c4⟩ := L_cur hw hP hS
      have e : F_X10_nextCommon (nI i) (nI j) 0 P S = F_X10_nextCommon (nI i) (nI j) (nI 0) P S' := by
        unfold F_X10_nextCommon
        rw [c1, c4]
        rfl
      have run : fx (fun _ _ _ => none) (B_X10_both_21 (nI i) (nI j) P) FUEL (nI 0) (oI (fi (bo w D i j) 2 (1 + sm R ns + 1 - 2))) S' = some (.inr (nI (cn (bo w D i j) 2 (1 + sm R ns + 1 - 2))), S') := by
        refine fx3 (Q := fun u v T m r => T = S' ∧ ∃ c a, u = nI c ∧ v = oI (fi (bo w D i j) a (1 + sm R ns + 1 - a)) ∧ 2 ≤ a ∧ a ≤ 1 + sm R ns + 1 ∧ c + 2 ≤ a ∧ m = 1 + sm R ns + 1 - a ∧ r = some (.inr (nI (c + cn (bo w D i j) a (1 + sm R ns + 1 - a))), S')) ?_ FUEL (nI 0) _ _ (1 + sm R ns + 1 - 2) _ ⟨rfl, 0, 2, rfl, rfl, by omega, by omega, by omega, rfl, by rw [Nat.zero_add]⟩ (by unfold FUEL; omega)
        rintro K _ _ _ _ _ ih ⟨rfl, c, a, rfl, rfl, h2, ha, hca, rfl, rfl⟩
        unfold B_X10_both_21
        cases hf : fi (bo w D i j) a (1 + sm R ns + 1 - a) with
        | none =>
          rw [if_pos (show oI none = -1 from rfl), cn_zero (fi_none.mp hf), Nat.add_zero]
        | some v =>
          obtain ⟨j1, j2, j3, j4⟩ := fi_some hf
          show (if nI v = -1 then _ else _) = _
          rw [if_neg (m1_ne (by omega))]
          show (if 4801 ≤ nI c then _ else nm (nI c + 1) fun x3_11 => (F_X10_nextCommon (nI i) (nI j) (nI v) P _).bind _) = _
          simp (disch := omega) only [↓m1_d, ↓m2_d, e_m2, e_m2', e_m12, e_m21, liN, e_le, e_lt, e_eqm, e_eq, e_m1, e_m1', e_m1l, e_m1e, e_m1g, e_m1h, e_add, e_mul, e_sub, e_pred, e_rem, ix_nI, nz_nI, nI_clamp, nm_e1, Nat.add_zero, if_true, if_false, Nat.reduceEqDiff, eq_self, reduceIte]
          rw [if_neg (by omega), L_nextCommon hw hP c2 c4 hi hj (bo_hit j3).2 (by omega), Option.bind_some, show 1 + sm R ns + 1 - a = (v - a) + ((1 + sm R ns + 1 - (v + 1)) + 1) by omega, cn_add, cn_zero (fun i a1 a2 => j4 i a1 (by omega)), show a + (v - a) = v by omega, cn_s, if_pos j3, Nat.zero_add, ← Nat.add_assoc]
          exact ih _ _ _ (1 + sm R ns + 1 - (v + 1)) _ (by omega) ⟨rfl, c + 1, v + 1, rfl, rfl, by omega, by omega, by omega, rfl, rfl⟩
      refine ⟨.inr (nI (cn (bo w D i j) 2 (1 + sm R ns + 1 - 2))), S', nI (cn (bo w D i j) 2 (1 + sm R ns + 1 - 2)), 0, ?_, c3, ?_, rfl, rfl⟩
      · show (F_X10_needStriker (nI j) P).bind _ = _
        rw [h3, Option.bind_some]
        show (F_X10_nextCommon (nI i) (nI j) 0 P S).bind _ = _
        rw [e, L_nextCommon hw hP c2 c4 hi hj (Nat.zero_mod _) (by omega), fi_skip (by omega : 0 + 1 ≤ 2) (bo_lo hw hi), Option.bind_some]
        exact run
      · show (F_X11_isStriker (nI j) row).bind _ = _
        rw [h4, Option.bind_some]
        show fx (fun _ _ _ => none) (B_X11_both_35 (nI i) (nI j) row) FUEL 0 2 0 = _
        rw [M_both hw hR hi hj]
    · refine ⟨.inl 2, S, 0, 1, ?_, hS, ?_, rfl, rfl⟩
      · show (F_X10_needStriker y P).bind _ = _
        rw [h3]
        rfl
      · show (F_X11_isStriker y row).bind _ = _
        rw [h4]
        rfl
  · rw [h1, h2]
    exact ⟨.inl 2, S, 0, 1, rfl, hS, rfl, rfl, rfl⟩
end
