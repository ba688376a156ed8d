/-! ===== PURE: calls: size, account, stretch, striker ===== -/
section
variable {w ns k : Nat} {R D : Nat → Nat} {P : PlanT} {row : Nat → Int32} {S : SieveT} {L : Nat}
theorem ro_rng (h : w ≤ 4) : ro w ≤ 48 := by
  match w, h with
  | 0, _ => decide
  | 1, _ => decide
  | 2, _ => decide
  | 3, _ => decide
  | 4, _ => decide
theorem Q_size (h : CX w ns R k D P row S) (x e0 : Int32) (o t : Nat → Int32) (th : Int32) :
    ∃ r S' b e' o' th' t', F_X10_size x P S = some (r, S') ∧ SOK w k D (1 + sm R ns) P S' ∧ F_X11_size x e0 o row th t = some (b, (e', o', th', t')) ∧ ag 1 r b th' := by
  obtain ⟨hw, hP, hR, hS⟩ := h
  have hL := hw.last
  obtain ⟨o', t', hm, hRS⟩ := M_strike hw hR e0 o t
  obtain ⟨S', hc, hv, hk⟩ := L_current hw hP hS
  unfold F_X10_size F_X11_size
  rcases i_cases x with hx | ⟨n, hn, rfl⟩
  · rw [show (0 : Int32) = nI 0 from rfl, L_needInRange_neg (by decide) hx, M_inRange_neg (by decide) hx, Option.bind_some, Option.bind_some, M_lacks, Option.bind_some]
    exact ⟨_, _, _, _, _, _, _, rfl, hS, rfl, rfl, rfl⟩
  · by_cases q : n ≤ 9
    · rw [show F_X10_needInRange (nI n) 0 9 = some (.inr ()) by rw [show (0 : Int32) = nI 0 from rfl, show (9 : Int32) = nI 9 from rfl, L_needInRange hn (by decide) (by decide), if_pos ⟨by omega, q⟩],
        show F_X11_inRange (nI n) 0 9 = some true by rw [show (0 : Int32) = nI 0 from rfl, show (9 : Int32) = nI 9 from rfl, M_inRange hn (by decide) (by decide), decide_eq_true (by omega)], Option.bind_some, Option.bind_some, M_lacks, Option.bind_some, hm, Option.bind_some]
      have fin : ∀ (A : Option ((Nat ⊕ Int32) × SieveT)) (B : Option (Int32 × (Int32 × (Nat → Int32) × Int32 × (Nat → Int32)))) (v : Int32) (S2 : SieveT), A = some (.inr v, S2) → SOK w k D (1 + sm R ns) P S2 → B = some (v, (nI (1 + sm R ns), o', 0, t')) →
          ∃ r S' b e' o' th' t', A = some (r, S') ∧ SOK w k D (1 + sm R ns) P S' ∧ B = some (b, (e', o', th', t')) ∧ ag 1 r b th' :=
        fun A B v S2 h1 h2 h3 => ⟨_, _, _, _, _, _, _, h1, h2, h3, rfl, rfl⟩
      show ∃ r S'' b e' o' th' t'', (if nI n = 0 then _ else _) = some (r, S'') ∧ _ ∧ (if nI n = 0 then _ else _) = some (b, (e', o', th', t'')) ∧ _
      rcases (show n = 0 ∨ n = 1 ∨ n = 2 ∨ n = 3 ∨ n = 4 ∨ n = 5 ∨ n = 6 ∨ n = 7 ∨ n = 8 ∨ n = 9 by omega) with rfl | rfl | rfl | rfl | rfl | rfl | rfl | rfl | rfl | rfl
      · refine fin _ _ (nI w) S ?_ hS ?_
        · simp (disch := omega) only [↓m1_d, ↓m2_d, e_m2, e_m2', e_m12, e_m21, liN, e_le, e_lt, e_eqm, e_eq, e_m1, e_m1', e_m1l, e_m1e, e_m1g, e_m1h, e_add, e_mul, e_sub, e_pred, e_rem, ix_nI, nz_nI, nI_clamp, nm_e1, Nat.add_zero, if_true, if_false, Nat.reduceEqDiff, eq_self, reduceIte]
          unfold F_X3_wheelNow
          rw [hP.1]
          try rfl
        · simp (disch := omega) only [↓m1_d, ↓m2_d, e_m2, e_m2', e_m12, e_m21, liN, e_le, e_lt, e_eqm, e_eq, e_m1, e_m1', e_m1l, e_m1e, e_m1g, e_m1h, e_add, e_mul, e_sub, e_pred, e_rem, ix_nI, nz_nI, nI_clamp, nm_e1, Nat.add_zero, if_true, if_false, Nat.reduceEqDiff, eq_self, reduceIte]
          rw [hR.1]
          try rfl
      · refine fin _ _ (nI ns) S ?_ hS ?_
        · simp (disch := omega) only [↓m1_d, ↓m2_d, e_m2, e_m2', e_m12, e_m21, liN, e_le, e_lt, e_eqm, e_eq, e_m1, e_m1', e_m1l, e_m1e, e_m1g, e_m1h, e_add, e_mul, e_sub, e_pred, e_rem, ix_nI, nz_nI, nI_clamp, nm_e1, Nat.add_zero, if_true, if_false, Nat.reduceEqDiff, eq_self, reduceIte]
          unfold F_X3_stretchCount
          rw [hP.2.1]
          try rfl
        · simp (disch := omega) only [↓m1_d, ↓m2_d, e_m2, e_m2', e_m12, e_m21, liN, e_le, e_lt, e_eqm, e_eq, e_m1, e_m1', e_m1l, e_m1e, e_m1g, e_m1h, e_add, e_mul, e_sub, e_pred, e_rem, ix_nI, nz_nI, nI_clamp, nm_e1, Nat.add_zero, if_true, if_false, Nat.reduceEqDiff, eq_self, reduceIte]
          rw [hR.2.1]
          try rfl
      · refine fin _ _ (nI (1 + sm R ns)) S ?_ hS ?_
        · simp (disch := omega) only [↓m1_d, ↓m2_d, e_m2, e_m2', e_m12, e_m21, liN, e_le, e_lt, e_eqm, e_eq, e_m1, e_m1', e_m1l, e_m1e, e_m1g, e_m1h, e_add, e_mul, e_sub, e_pred, e_rem, ix_nI, nz_nI, nI_clamp, nm_e1, Nat.add_zero, if_true, if_false, Nat.reduceEqDiff, eq_self, reduceIte]
          unfold F_X3_lastNumber
          rw [hP.2.2.2.1]
          try rfl
        · simp (disch := omega) only [↓m1_d, ↓m2_d, e_m2, e_m2', e_m12, e_m21, liN, e_le, e_lt, e_eqm, e_eq, e_m1, e_m1', e_m1l, e_m1e, e_m1g, e_m1h, e_add, e_mul, e_sub, e_pred, e_rem, ix_nI, nz_nI, nI_clamp, nm_e1, Nat.add_zero, if_true, if_false, Nat.reduceEqDiff, eq_self, reduceIte]
          try rfl
      · refine fin _ _ (nI k) S ?_ hS ?_
        · simp (disch := omega) only [↓m1_d, ↓m2_d, e_m2, e_m2', e_m12, e_m21, liN, e_le, e_lt, e_eqm, e_eq, e_m1, e_m1', e_m1l, e_m1e, e_m1g, e_m1h, e_add, e_mul, e_sub, e_pred, e_rem, ix_nI, nz_nI, nI_clamp, nm_e1, Nat.add_zero, if_true, if_false, Nat.reduceEqDiff, eq_self, reduceIte]
          unfold F_X3_strikerCount
          rw [hP.2.2.2.2.1]
          try rfl
        · simp (disch := omega) only [↓m1_d, ↓m2_d, e_m2, e_m2', e_m12, e_m21, liN, e_le, e_lt, e_eqm, e_eq, e_m1, e_m1', e_m1l, e_m1e, e_m1g, e_m1h, e_add, e_mul, e_sub, e_pred, e_rem, ix_nI, nz_nI, nI_clamp, nm_e1, Nat.add_zero, if_true, if_false, Nat.reduceEqDiff, eq_self, reduceIte]
          rw [hR.2.2.2.1]
          try rfl
      · refine fin _ _ (nI (cn (mk w k D) 2 (1 + sm R ns - 1))) S' ?_ hk ?_
        · simp (disch := omega) only [↓m1_d, ↓m2_d, e_m2, e_m2', e_m12, e_m21, liN, e_le, e_lt, e_eqm, e_eq, e_m1, e_m1', e_m1l, e_m1e, e_m1g, e_m1h, e_add, e_mul, e_sub, e_pred, e_rem, ix_nI, nz_nI, nI_clamp, nm_e1, Nat.add_zero, if_true, if_false, Nat.reduceEqDiff, eq_self, reduceIte]
          rw [hc, Option.bind_some]
          unfold F_X7_markCount
          rw [hv.2.2.1]
          try rfl
        · simp (disch := omega) only [↓m1_d, ↓m2_d, e_m2, e_m2', e_m12, e_m21, liN, e_le, e_lt, e_eqm, e_eq, e_m1, e_m1', e_m1l, e_m1e, e_m1g, e_m1h, e_add, e_mul, e_sub, e_pred, e_rem, ix_nI, nz_nI, nI_clamp, nm_e1, Nat.add_zero, if_true, if_false, Nat.reduceEqDiff, eq_self, reduceIte]
          rw [M_marksIn hw hR hL hRS (by omega) (by omega) (Nat.le_refl _), mb_cn (Nat.le_refl _) (by omega), show 1 + sm R ns + 1 - 2 = 1 + sm R ns - 1 by omega]
          try rfl
      · refine fin _ _ (nI (cn (fun n => !off w n) 2 (1 + sm R ns - 1))) S' ?_ hk ?_
        · simp (disch := omega) only [↓m1_d, ↓m2_d, e_m2, e_m2', e_m12, e_m21, liN, e_le, e_lt, e_eqm, e_eq, e_m1, e_m1', e_m1l, e_m1e, e_m1g, e_m1h, e_add, e_mul, e_sub, e_pred, e_rem, ix_nI, nz_nI, nI_clamp, nm_e1, Nat.add_zero, if_true, if_false, Nat.reduceEqDiff, eq_self, reduceIte]
          rw [hc, Option.bind_some]
          unfold F_X7_spokeCount
          rw [hv.2.2.2]
          try rfl
        · simp (disch := omega) only [↓m1_d, ↓m2_d, e_m2, e_m2', e_m12, e_m21, liN, e_le, e_lt, e_eqm, e_eq, e_m1, e_m1', e_m1l, e_m1e, e_m1g, e_m1h, e_add, e_mul, e_sub, e_pred, e_rem, ix_nI, nz_nI, nI_clamp, nm_e1, Nat.add_zero, if_true, if_false, Nat.reduceEqDiff, eq_self, reduceIte]
          rw [M_spokesIn hw hR (by omega) (by omega) hL, show 1 + sm R ns + 1 - 2 = 1 + sm R ns - 1 by omega]
          try rfl
      · refine fin _ _ (nI (wp w)) S ?_ hS ?_
        · simp (disch := omega) only [↓m1_d, ↓m2_d, e_m2, e_m2', e_m12, e_m21, liN, e_le, e_lt, e_eqm, e_eq, e_m1, e_m1', e_m1l, e_m1e, e_m1g, e_m1h, e_add, e_mul, e_sub, e_pred, e_rem, ix_nI, nz_nI, nI_clamp, nm_e1, Nat.add_zero, if_true, if_false, Nat.reduceEqDiff, eq_self, reduceIte]
          unfold F_X3_wheelNow
          rw [hP.1, Option.bind_some, L_product hw.1]
          try rfl
        · simp (disch := omega) only [↓m1_d, ↓m2_d, e_m2, e_m2', e_m12, e_m21, liN, e_le, e_lt, e_eqm, e_eq, e_m1, e_m1', e_m1l, e_m1e, e_m1g, e_m1h, e_add, e_mul, e_sub, e_pred, e_rem, ix_nI, nz_nI, nI_clamp, nm_e1, Nat.add_zero, if_true, if_false, Nat.reduceEqDiff, eq_self, reduceIte]
          rw [M_product hw hR]
          try rfl
      · have := wp_rng (k := w) (by have := hw.1; omega)
        refine fin _ _ (nI (ro w)) S ?_ hS ?_
        · simp (disch := omega) only [↓m1_d, ↓m2_d, e_m2, e_m2', e_m12, e_m21, liN, e_le, e_lt, e_eqm, e_eq, e_m1, e_m1', e_m1l, e_m1e, e_m1g, e_m1h, e_add, e_mul, e_sub, e_pred, e_rem, ix_nI, nz_nI, nI_clamp, nm_e1, Nat.add_zero, if_true, if_false, Nat.reduceEqDiff, eq_self, reduceIte]
          unfold F_X3_wheelNow
          rw [hP.1, Option.bind_some, L_product hw.1, Option.bind_some, Option.bind_some, L_spokesUpTo hw.1 (by omega), ro_cn hw.1]
          try rfl
        · simp (disch := omega) only [↓m1_d, ↓m2_d, e_m2, e_m2', e_m12, e_m21, liN, e_le, e_lt, e_eqm, e_eq, e_m1, e_m1', e_m1l, e_m1e, e_m1g, e_m1h, e_add, e_mul, e_sub, e_pred, e_rem, ix_nI, nz_nI, nI_clamp, nm_e1, Nat.add_zero, if_true, if_false, Nat.reduceEqDiff, eq_self, reduceIte]
          rw [M_rightOnes hw hR]
          try rfl
      · obtain ⟨T, T2, T70, hT, hi⟩ := sq_top (1 + sm R ns) (by omega) hL
        refine fin _ _ (nI (cn (ms w k D) 2 (T - 2))) S ?_ hS ?_
        · simp (disch := omega) only [↓m1_d, ↓m2_d, e_m2, e_m2', e_m12, e_m21, liN, e_le, e_lt, e_eqm, e_eq, e_m1, e_m1', e_m1l, e_m1e, e_m1g, e_m1h, e_add, e_mul, e_sub, e_pred, e_rem, ix_nI, nz_nI, nI_clamp, nm_e1, Nat.add_zero, if_true, if_false, Nat.reduceEqDiff, eq_self, reduceIte]
          unfold F_X3_wheelNow
          rw [hP.1, Option.bind_some, L_countMissing hw hP T2 T70 hT hi]
          try rfl
        · simp (disch := omega) only [↓m1_d, ↓m2_d, e_m2, e_m2', e_m12, e_m21, liN, e_le, e_lt, e_eqm, e_eq, e_m1, e_m1', e_m1l, e_m1e, e_m1g, e_m1h, e_add, e_mul, e_sub, e_pred, e_rem, ix_nI, nz_nI, nI_clamp, nm_e1, Nat.add_zero, if_true, if_false, Nat.reduceEqDiff, eq_self, reduceIte]
          rw [M_countMissing hw hR hL hRS T2 T70 hT hi]
          try rfl
      · obtain ⟨S2, h1, h2⟩ := L_countIdle hw hP hS
        refine fin _ _ (nI (cn (idl w k D (1 + sm R ns)) 0 k)) S2 ?_ h2 ?_
        · simp (disch := omega) only [↓m1_d, ↓m2_d, e_m2, e_m2', e_m12, e_m21, liN, e_le, e_lt, e_eqm, e_eq, e_m1, e_m1', e_m1l, e_m1e, e_m1g, e_m1h, e_add, e_mul, e_sub, e_pred, e_rem, ix_nI, nz_nI, nI_clamp, nm_e1, Nat.add_zero, if_true, if_false, Nat.reduceEqDiff, eq_self, reduceIte]
          rw [h1]
          try rfl
        · simp (disch := omega) only [↓m1_d, ↓m2_d, e_m2, e_m2', e_m12, e_m21, liN, e_le, e_lt, e_eqm, e_eq, e_m1, e_m1', e_m1l, e_m1e, e_m1g, e_m1h, e_add, e_mul, e_sub, e_pred, e_rem, ix_nI, nz_nI, nI_clamp, nm_e1, Nat.add_zero, if_true, if_false, Nat.reduceEqDiff, eq_self, reduceIte]
          rw [M_countIdle hw hR hL (by omega) hRS]
          try rfl
    · rw [show F_X10_needInRange (nI n) 0 9 = some (.inl 1) by rw [show (0 : Int32) = nI 0 from rfl, show (9 : Int32) = nI 9 from rfl, L_needInRange hn (by decide) (by decide), if_neg (fun z => q z.2)],
        show F_X11_inRange (nI n) 0 9 = some false by rw [show (0 : Int32) = nI 0 from rfl, show (9 : Int32) = nI 9 from rfl, M_inRange hn (by decide) (by decide), decide_eq_false (by omega)], Option.bind_some, Option.bind_some, M_lacks, Option.bind_some]
      exact ⟨_, _, _, _, _, _, _, rfl, hS, rfl, rfl, rfl⟩
/-- a range that both ask for -/
theorem N_range {a b : Nat} (ha : a < 2 ^ 31) (hb : b < 2 ^ 31) (x : Int32) :
    (∃ n, n < 2 ^ 31 ∧ a ≤ n ∧ n ≤ b ∧ x = nI n ∧ F_X10_needInRange x (nI a) (nI b) = some (.inr ()) ∧ F_X11_inRange x (nI a) (nI b) = some true) ∨
    (F_X10_needInRange x (nI a) (nI b) = some (.inl 1) ∧ F_X11_inRange x (nI a) (nI b) = some false) := by
  rcases i_cases x with hx | ⟨n, hn, rfl⟩
  · exact Or.inr ⟨L_needInRange_neg ha hx, M_inRange_neg ha hx⟩
  · by_cases q : a ≤ n ∧ n ≤ b
    · exact Or.inl ⟨n, hn, q.1, q.2, rfl, by rw [L_needInRange hn ha hb, if_pos q], by rw [M_inRange hn ha hb, decide_eq_true q]⟩
    · exact Or.inr ⟨by rw [L_needInRange hn ha hb, if_neg q], by rw [M_inRange hn ha hb, decide_eq_false q]⟩
theorem Q_account (x : Int32) (ac th : Nat → Int32) (th0 : Int32) : ∃ r b th', F_X10_account x ac = some r ∧ F_X11_account x ac th0 = some (b, th') ∧ ag 1 r b th' := by
  unfold F_X10_account F_X11_account
  rcases N_range (a := 0) (b := 4) (by decide) (by decide) x with ⟨n, hn, h1, h2, rfl, h3, h4⟩ | ⟨h3, h4⟩
  · rw [show F_X10_needInRange (nI n) 0 4 = _ from h3, show F_X11_inRange (nI n) 0 4 = _ from h4, Option.bind_some, Option.bind_some, M_lacks, Option.bind_some]
    refine ⟨.inr (ac n), ac n, 0, ?_, ?_, rfl, rfl⟩
    · show ix (nI n) 5 _ = _
      simp (disch := omega) only [↓m1_d, ↓m2_d, e_m2, e_m2', e_m12, e_m21, liN, e_le, e_lt, e_eqm, e_eq, e_m1, e_m1', e_m1l, e_m1e, e_m1g, e_m1h, e_add, e_mul, e_sub, e_pred, e_rem, ix_nI, nz_nI, nI_clamp, nm_e1, Nat.add_zero, if_true, if_false, Nat.reduceEqDiff, eq_self, reduceIte]
    · show ix (nI n) 5 _ = _
      simp (disch := omega) only [↓m1_d, ↓m2_d, e_m2, e_m2', e_m12, e_m21, liN, e_le, e_lt, e_eqm, e_eq, e_m1, e_m1', e_m1l, e_m1e, e_m1g, e_m1h, e_add, e_mul, e_sub, e_pred, e_rem, ix_nI, nz_nI, nI_clamp, nm_e1, Nat.add_zero, if_true, if_false, Nat.reduceEqDiff, eq_self, reduceIte]
  · rw [show F_X10_needInRange x 0 4 = _ from h3, show F_X11_inRange x 0 4 = _ from h4, Option.bind_some, Option.bind_some, M_lacks, Option.bind_some]
    exact ⟨_, _, _, rfl, rfl, rfl, rfl⟩
/-- a stretch that both ask for -/
theorem N_stretch (hw : WF w ns R k D) (hP : PX w ns R k D P) (hR : RX w ns R k D row) (x : Int32) :
    (∃ i, i < ns ∧ x = nI i ∧ F_X10_needStretch x P = some (.inr ()) ∧ F_X11_isStretch x row = some true) ∨ (F_X10_needStretch x P = some (.inl 2) ∧ F_X11_isStretch x row = some false) := by
  have h12 := hw.2.1
  unfold F_X10_needStretch F_X3_stretchCount F_X11_isStretch F_X11_inRange
  rw [hP.2.1, hR.2.1, Option.bind_some]
  rcases i_cases x with hx | ⟨n, hn, rfl⟩
  · rw [if_pos hx, if_pos hx]
    exact Or.inr ⟨rfl, rfl⟩
  · by_cases q : n < ns
    · refine Or.inl ⟨n, q, rfl, ?_, ?_⟩
      · simp (disch := omega) only [↓m1_d, ↓m2_d, e_m2, e_m2', e_m12, e_m21, liN, e_le, e_lt, e_eqm, e_eq, e_m1, e_m1', e_m1l, e_m1e, e_m1g, e_m1h, e_add, e_mul, e_sub, e_pred, e_rem, ix_nI, nz_nI, nI_clamp, nm_e1, Nat.add_zero, if_true, if_false, Nat.reduceEqDiff, eq_self, reduceIte]
        rw [if_neg (by omega), if_pos q]
      · simp (disch := omega) only [↓m1_d, ↓m2_d, e_m2, e_m2', e_m12, e_m21, liN, e_le, e_lt, e_eqm, e_eq, e_m1, e_m1', e_m1l, e_m1e, e_m1g, e_m1h, e_add, e_mul, e_sub, e_pred, e_rem, ix_nI, nz_nI, nI_clamp, nm_e1, Nat.add_zero, if_true, if_false, Nat.reduceEqDiff, eq_self, reduceIte]
        rw [if_neg (by omega), if_neg (by omega)]
        rfl
    · refine Or.inr ⟨?_, ?_⟩
      · simp (disch := omega) only [↓m1_d, ↓m2_d, e_m2, e_m2', e_m12, e_m21, liN, e_le, e_lt, e_eqm, e_eq, e_m1, e_m1', e_m1l, e_m1e, e_m1g, e_m1h, e_add, e_mul, e_sub, e_pred, e_rem, ix_nI, nz_nI, nI_clamp, nm_e1, Nat.add_zero, if_true, if_false, Nat.reduceEqDiff, eq_self, reduceIte]
        rw [if_neg (by omega), if_neg q]
      · match ns, h12, q with
        | 0, _, q =>
          rw [if_neg (nI_pos hn), if_pos (show nI 0 - 1 < nI n from m1_lt hn)]
          rfl
        | ns + 1, h12, q =>
          simp (disch := omega) only [↓m1_d, ↓m2_d, e_m2, e_m2', e_m12, e_m21, liN, e_le, e_lt, e_eqm, e_eq, e_m1, e_m1', e_m1l, e_m1e, e_m1g, e_m1h, e_add, e_mul, e_sub, e_pred, e_rem, ix_nI, nz_nI, nI_clamp, nm_e1, Nat.add_zero, if_true, if_false, Nat.reduceEqDiff, eq_self, reduceIte]
          rw [if_neg (by omega), if_pos (by omega)]
          rfl
theorem L_roomAhead (hw : WF w ns R k D) (hP : PX w ns R k D P) {i : Nat} (hi : i ≤ ns) : F_X3_roomAhead (nI i) P = some (nI (sm R i)) := by
  have h12 := hw.2.1
  have key := lp_sm (β := Int32) (bot := fun _ _ => none) (B := B_X3_roomAhead_4 (nI i) P) nI 0 i R (by omega) (fun K j hj => by
    have hu := hw.upto (by omega : j ≤ ns)
    unfold B_X3_roomAhead_4
    by_cases c : i ≤ j
    · simp (disch := omega) only [↓m1_d, ↓m2_d, e_m2, e_m2', e_m12, e_m21, liN, e_le, e_lt, e_eqm, e_eq, e_m1, e_m1', e_m1l, e_m1e, e_m1g, e_m1h, e_add, e_mul, e_sub, e_pred, e_rem, ix_nI, nz_nI, nI_clamp, nm_e1, Nat.add_zero, if_true, if_false, Nat.reduceEqDiff, eq_self, reduceIte]
      rw [if_pos c, if_pos c]
    · simp (disch := omega) only [↓m1_d, ↓m2_d, e_m2, e_m2', e_m12, e_m21, liN, e_le, e_lt, e_eqm, e_eq, e_m1, e_m1', e_m1l, e_m1e, e_m1g, e_m1h, e_add, e_mul, e_sub, e_pred, e_rem, ix_nI, nz_nI, nI_clamp, nm_e1, Nat.add_zero, if_true, if_false, Nat.reduceEqDiff, eq_self, reduceIte, hP.2.2.1 j (by omega)]
      rw [if_neg c, if_neg (by omega), if_neg c]
      show K (nI (0 + sm R j + R j)) _ = K (nI (0 + (sm R j + R j))) _
      rw [Nat.add_assoc])
  rw [Nat.zero_add] at key
  exact key
theorem L_first (hw : WF w ns R k D) (hP : PX w ns R k D P) {i : Nat} (hi : i < ns) : F_X3_firstNumberOf (nI i) P = some (nI (2 + sm R i)) := by
  unfold F_X3_firstNumberOf
  rw [L_roomAhead hw hP (by omega), Option.bind_some]
  simp (disch := omega) only [↓m1_d, ↓m2_d, e_m2, e_m2', e_m12, e_m21, liN, e_le, e_lt, e_eqm, e_eq, e_m1, e_m1', e_m1l, e_m1e, e_m1g, e_m1h, e_add, e_mul, e_sub, e_pred, e_rem, ix_nI, nz_nI, nI_clamp, nm_e1, Nat.add_zero, if_true, if_false, Nat.reduceEqDiff, eq_self, reduceIte]
theorem L_lastOf (hw : WF w ns R k D) (hP : PX w ns R k D P) {i : Nat} (hi : i < ns) : F_X3_lastNumberOf (nI i) P = some (nI (1 + sm R (i + 1))) := by
  unfold F_X3_lastNumberOf
  simp (disch := omega) only [↓m1_d, ↓m2_d, e_m2, e_m2', e_m12, e_m21, liN, e_le, e_lt, e_eqm, e_eq, e_m1, e_m1', e_m1l, e_m1e, e_m1g, e_m1h, e_add, e_mul, e_sub, e_pred, e_rem, ix_nI, nz_nI, nI_clamp, nm_e1, Nat.add_zero, if_true, if_false, Nat.reduceEqDiff, eq_self, reduceIte]
  rw [L_roomAhead hw hP (by omega), Option.bind_some, e_add]
theorem M_first (hw : WF w ns R k D) (hR : RX w ns R k D row) (hL : L ≤ 4801) {o t : Nat → Int32} (hS : RS w k D L o t) {a b : Nat} (ha : 2 ≤ a) (hb : b ≤ L) (hab : a ≤ b + 1) :
    F_X11_firstMark (nI a) (nI b) (nI L) row t = some (oI (fi (mk w k D) a (b + 1 - a))) := by
  refine lp_fi (p := mk w k D) oI a (b + 1) (by omega) hab (fun K i h1 h2 => ?_)
  unfold B_X11_firstMark_2
  by_cases q : b < i
  · simp (disch := omega) only [↓m1_d, ↓m2_d, e_m2, e_m2', e_m12, e_m21, liN, e_le, e_lt, e_eqm, e_eq, e_m1, e_m1', e_m1l, e_m1e, e_m1g, e_m1h, e_add, e_mul, e_sub, e_pred, e_rem, ix_nI, nz_nI, nI_clamp, nm_e1, Nat.add_zero, if_true, if_false, Nat.reduceEqDiff, eq_self, reduceIte]
    rw [if_pos q, if_pos (by omega)]; rfl
  · simp (disch := omega) only [↓m1_d, ↓m2_d, e_m2, e_m2', e_m12, e_m21, liN, e_le, e_lt, e_eqm, e_eq, e_m1, e_m1', e_m1l, e_m1e, e_m1g, e_m1h, e_add, e_mul, e_sub, e_pred, e_rem, ix_nI, nz_nI, nI_clamp, nm_e1, Nat.add_zero, if_true, if_false, Nat.reduceEqDiff, eq_self, reduceIte, M_isMark hw hR hL hS (by omega : i < 2 ^ 31), Option.bind_some]
    rw [if_neg q, if_neg (show ¬ b + 1 ≤ i by omega)]
    unfold isM
    rw [decide_eq_true (by omega : 2 ≤ i ∧ i ≤ L), Bool.true_and]
    rfl
theorem M_lastMark (hw : WF w ns R k D) (hR : RX w ns R k D row) (hL : L ≤ 4801) {o t : Nat → Int32} (hS : RS w k D L o t) {a b : Nat} (ha : 2 ≤ a) (ha2 : a < 2 ^ 31) (hb : b ≤ L) (h1 : 1 ≤ b) :
    F_X11_lastMark (nI a) (nI b) (nI L) row t = some (oI (fb (mk w k D) a (b + 1 - a))) := by
  refine fx1 (Q := fun v m r => ∃ i, v = nI i ∧ 1 ≤ i ∧ i ≤ b ∧ m = i ∧ r = some (oI (fb (mk w k D) a (i + 1 - a)))) ?_ FUEL (nI b) b _ ⟨b, rfl, h1, Nat.le_refl _, rfl, rfl⟩ (by unfold FUEL; omega)
  rintro K _ i _ ih ⟨_, rfl, h1, hi, rfl, rfl⟩
  unfold B_X11_lastMark_2
  by_cases q : i < a
  · simp (disch := omega) only [↓m1_d, ↓m2_d, e_m2, e_m2', e_m12, e_m21, liN, e_le, e_lt, e_eqm, e_eq, e_m1, e_m1', e_m1l, e_m1e, e_m1g, e_m1h, e_add, e_mul, e_sub, e_pred, e_rem, ix_nI, nz_nI, nI_clamp, nm_e1, Nat.add_zero, if_true, if_false, Nat.reduceEqDiff, eq_self, reduceIte]
    rw [if_pos q, show i + 1 - a = 0 by omega]
    rfl
  · simp (disch := omega) only [↓m1_d, ↓m2_d, e_m2, e_m2', e_m12, e_m21, liN, e_le, e_lt, e_eqm, e_eq, e_m1, e_m1', e_m1l, e_m1e, e_m1g, e_m1h, e_add, e_mul, e_sub, e_pred, e_rem, ix_nI, nz_nI, nI_clamp, nm_e1, Nat.add_zero, if_true, if_false, Nat.reduceEqDiff, eq_self, reduceIte, M_isMark hw hR hL hS (by omega : i < 2 ^ 31), Option.bind_some]
    rw [if_neg q, show i + 1 - a = (i - a) + 1 by omega]
    unfold fb isM
    rw [show a + (i - a) = i by omega, decide_eq_true (by omega : 2 ≤ i ∧ i ≤ L), Bool.true_and]
    by_cases e : mk w k D i = true
    · rw [if_pos e, if_pos e]; rfl
    · rw [if_neg e, if_neg e]
      by_cases z : i = a
      · -- the last step
        have : K (nI (i - 1)) = some (oI (fb (mk w k D) a (i - 1 + 1 - a))) := ih _ (i - 1) _ (by omega) ⟨i - 1, rfl, by omega, by omega, rfl, rfl⟩
        rw [this, show i - 1 + 1 - a = i - a by omega]
      · have : K (nI (i - 1)) = some (oI (fb (mk w k D) a (i - 1 + 1 - a))) := ih _ (i - 1) _ (by omega) ⟨i - 1, rfl, by omega, by omega, rfl, rfl⟩
        rw [this, show i - 1 + 1 - a = i - a by omega]
theorem L_markAbove (hw : WF w ns R k D) (hL : L ≤ 4801) (hL1 : 1 ≤ L) (hS : SV w k D L S) {a : Nat} (ha : 1 ≤ a) (ha2 : a < 2 ^ 31) : F_X7_markAbove (nI a) S = some (oI (fi (mk w k D) (a + 1) (L - a))) := by
  unfold F_X7_markAbove
  simp (disch := omega) only [↓m1_d, ↓m2_d, e_m2, e_m2', e_m12, e_m21, liN, e_le, e_lt, e_eqm, e_eq, e_m1, e_m1', e_m1l, e_m1e, e_m1g, e_m1h, e_add, e_mul, e_sub, e_pred, e_rem, ix_nI, nz_nI, nI_clamp, nm_e1, Nat.add_zero, if_true, if_false, Nat.reduceEqDiff, eq_self, reduceIte]
  rw [if_neg (by omega)]
  by_cases c : L < a
  · show B_X7_markAbove_6 (nI a) S (fx _ _ 999999) (nI a) = _
    unfold B_X7_markAbove_6
    rw [hS.1]
    simp (disch := omega) only [↓m1_d, ↓m2_d, e_m2, e_m2', e_m12, e_m21, liN, e_le, e_lt, e_eqm, e_eq, e_m1, e_m1', e_m1l, e_m1e, e_m1g, e_m1h, e_add, e_mul, e_sub, e_pred, e_rem, ix_nI, nz_nI, nI_clamp, nm_e1, Nat.add_zero, if_true, if_false, Nat.reduceEqDiff, eq_self, reduceIte]
    rw [if_pos (by omega), show L - a = 0 by omega]
    rfl
  · have key := lp_fi (p := fun i => mk w k D (i + 1)) (β := Int32) (bot := fun _ => none) (B := B_X7_markAbove_6 (nI a) S) (fun v => oI (v.map (· + 1))) a L (by omega) (by omega) (fun K i h1 h2 => by
      unfold B_X7_markAbove_6
      rw [hS.1]
      by_cases q : L ≤ i
      · simp (disch := omega) only [↓m1_d, ↓m2_d, e_m2, e_m2', e_m12, e_m21, liN, e_le, e_lt, e_eqm, e_eq, e_m1, e_m1', e_m1l, e_m1e, e_m1g, e_m1h, e_add, e_mul, e_sub, e_pred, e_rem, ix_nI, nz_nI, nI_clamp, nm_e1, Nat.add_zero, if_true, if_false, Nat.reduceEqDiff, eq_self, reduceIte]
        rw [if_pos q, if_pos q]; rfl
      · simp (disch := omega) only [↓m1_d, ↓m2_d, e_m2, e_m2', e_m12, e_m21, liN, e_le, e_lt, e_eqm, e_eq, e_m1, e_m1', e_m1l, e_m1e, e_m1g, e_m1h, e_add, e_mul, e_sub, e_pred, e_rem, ix_nI, nz_nI, nI_clamp, nm_e1, Nat.add_zero, if_true, if_false, Nat.reduceEqDiff, eq_self, reduceIte, (hS.2.1 (i + 1) (by omega) (by omega)).1, oz_0 hw]
        rw [if_neg q, if_neg q]
        rfl)
    rw [key]
    congr 2
    have sh : ∀ (n a : Nat), (fi (fun i => mk w k D (i + 1)) a n).map (· + 1) = fi (mk w k D) (a + 1) n := by
      intro n
      induction n with
      | zero => intro a; rfl
      | succ n ih =>
        intro a
        rw [fi_s, fi_s, ← ih (a + 1)]
        by_cases e : mk w k D (a + 1) = true
        · rw [if_pos e, if_pos e]; rfl
        · rw [if_neg e, if_neg e]
    exact sh _ _
theorem L_markBelow (hw : WF w ns R k D) (hL : L ≤ 4801) (hL1 : 1 ≤ L) (hS : SV w k D L S) {a : Nat} (ha : a ≤ L + 1) : F_X7_markBelow (nI a) S = some (oI (fb (mk w k D) 2 (a - 2))) := by
  unfold F_X7_markBelow
  rw [hS.1]
  simp (disch := omega) only [↓m1_d, ↓m2_d, e_m2, e_m2', e_m12, e_m21, liN, e_le, e_lt, e_eqm, e_eq, e_m1, e_m1', e_m1l, e_m1e, e_m1g, e_m1h, e_add, e_mul, e_sub, e_pred, e_rem, ix_nI, nz_nI, nI_clamp, nm_e1, Nat.add_zero, if_true, if_false, Nat.reduceEqDiff, eq_self, reduceIte]
  rw [if_neg (by omega)]
  refine lp_fb (p := mk w k D) oI 2 a (by omega) (fun K i h1 => ?_)
  unfold B_X7_markBelow_11
  by_cases q : i ≤ 2
  · simp (disch := omega) only [↓m1_d, ↓m2_d, e_m2, e_m2', e_m12, e_m21, liN, e_le, e_lt, e_eqm, e_eq, e_m1, e_m1', e_m1l, e_m1e, e_m1g, e_m1h, e_add, e_mul, e_sub, e_pred, e_rem, ix_nI, nz_nI, nI_clamp, nm_e1, Nat.add_zero, if_true, if_false, Nat.reduceEqDiff, eq_self, reduceIte]
    rw [if_pos q, if_pos q]; rfl
  · simp (disch := omega) only [↓m1_d, ↓m2_d, e_m2, e_m2', e_m12, e_m21, liN, e_le, e_lt, e_eqm, e_eq, e_m1, e_m1', e_m1l, e_m1e, e_m1g, e_m1h, e_add, e_mul, e_sub, e_pred, e_rem, ix_nI, nz_nI, nI_clamp, nm_e1, Nat.add_zero, if_true, if_false, Nat.reduceEqDiff, eq_self, reduceIte, (hS.2.1 (i - 1) (by omega) (by omega)).1, oz_0 hw]
    rw [if_neg q, if_neg q]
    rfl
end
