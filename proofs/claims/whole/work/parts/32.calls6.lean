/-! ===== PURE: both, meet, divisor, divisors, longest, chain, turn, next ===== -/
/-- two loops side by side -/
theorem fxp {κ1 κ2 : Type} {bot1 : κ1} {bot2 : κ2} {B1 : κ1 → κ1} {B2 : κ2 → κ2} {P : Nat → κ1 → κ2 → Prop} (h0 : P 0 bot1 bot2) (hs : ∀ n K1 K2, P n K1 K2 → P (n + 1) (B1 K1) (B2 K2)) : ∀ n, P n (fx bot1 B1 n) (fx bot2 B2 n)
  | 0 => h0
  | n + 1 => hs n _ _ (fxp h0 hs n)
section
variable {w ns k : Nat} {R D : Nat → Nat} {P : PlanT} {row : Nat → Int32} {S : SieveT} {L : Nat}
theorem L_divisor (hw : WF w ns R k D) (hL : L ≤ 4801) (hS : SV w k D L S) {n : Nat} (hn : n < 2 ^ 31) :
    fx (fun _ _ => none) (B_X10_divisor_7 (nI n) P) FUEL (nI 2) S = some (oI (fi (fun i => mk w k D i && decide (n % i = 0)) 2 (max 2 (min L n + 1) - 2)), S) := by
  refine lp_fi_t (p := fun i => mk w k D i && decide (n % i = 0)) (fun v => (oI v, S)) 2 (max 2 (min L n + 1)) (by omega) (by omega) (fun K i h1 h2 => ?_)
  unfold B_X10_divisor_7 F_X7_lastNumber
  rw [hS.1, Option.bind_some]
  by_cases q : L < i
  · simp (disch := omega) only [↓m1_d, ↓m2_d, e_m2, e_m2', e_m12, e_m21, liN, e_le, e_lt, e_eqm, e_eq, e_m1, e_m1', e_m1l, e_m1e, e_m1g, e_m1h, e_add, e_mul, e_sub, e_pred, e_rem, ix_nI, nz_nI, nI_clamp, nm_e1, Nat.add_zero, if_true, if_false, Nat.reduceEqDiff, eq_self, reduceIte]
    rw [if_pos q, if_pos (by omega)]
    rfl
  · by_cases q2 : n < i
    · simp (disch := omega) only [↓m1_d, ↓m2_d, e_m2, e_m2', e_m12, e_m21, liN, e_le, e_lt, e_eqm, e_eq, e_m1, e_m1', e_m1l, e_m1e, e_m1g, e_m1h, e_add, e_mul, e_sub, e_pred, e_rem, ix_nI, nz_nI, nI_clamp, nm_e1, Nat.add_zero, if_true, if_false, Nat.reduceEqDiff, eq_self, reduceIte]
      rw [if_neg q, if_pos q2, if_pos (by omega)]
      rfl
    · simp (disch := omega) only [↓m1_d, ↓m2_d, e_m2, e_m2', e_m12, e_m21, liN, e_le, e_lt, e_eqm, e_eq, e_m1, e_m1', e_m1l, e_m1e, e_m1g, e_m1h, e_add, e_mul, e_sub, e_pred, e_rem, ix_nI, nz_nI, nI_clamp, nm_e1, Nat.add_zero, if_true, if_false, Nat.reduceEqDiff, eq_self, reduceIte, Option.bind_some, L_isMark hw hL hS (by omega : i < 2 ^ 31)]
      rw [if_neg q, if_neg q2, if_neg (show ¬ max 2 (min L n + 1) ≤ i by omega)]
      unfold isM
      rw [decide_eq_true (by omega : 2 ≤ i ∧ i ≤ L), Bool.true_and]
      by_cases e : mk w k D i = true
      · rw [if_pos e, e, Bool.true_and]
        simp only [decide_eq_true_eq]
        rfl
      · rw [if_neg e, Bool.eq_false_iff.mpr e, Bool.false_and, if_neg (by decide)]
theorem L_divisors (hw : WF w ns R k D) (hL : L ≤ 4801) (hS : SV w k D L S) {n : Nat} (hn : n < 2 ^ 31) :
    fx (fun _ _ _ => none) (B_X10_divisors_10 (nI n) P) FUEL (nI 0) (nI 2) S = some (nI (cn (fun i => mk w k D i && decide (n % i = 0)) 2 (max 2 (min L n + 1) - 2)), S) := by
  refine lp_cn_t (p := fun i => mk w k D i && decide (n % i = 0)) (fun v => (nI v, S)) 2 (max 2 (min L n + 1)) (by omega) (by omega) (fun K c i h1 h2 h3 => ?_)
  unfold B_X10_divisors_10 F_X7_lastNumber
  rw [hS.1, Option.bind_some]
  by_cases q : L < i
  · simp (disch := omega) only [↓m1_d, ↓m2_d, e_m2, e_m2', e_m12, e_m21, liN, e_le, e_lt, e_eqm, e_eq, e_m1, e_m1', e_m1l, e_m1e, e_m1g, e_m1h, e_add, e_mul, e_sub, e_pred, e_rem, ix_nI, nz_nI, nI_clamp, nm_e1, Nat.add_zero, if_true, if_false, Nat.reduceEqDiff, eq_self, reduceIte]
    rw [if_pos q, if_pos (by omega)]
  · by_cases q2 : n < i
    · simp (disch := omega) only [↓m1_d, ↓m2_d, e_m2, e_m2', e_m12, e_m21, liN, e_le, e_lt, e_eqm, e_eq, e_m1, e_m1', e_m1l, e_m1e, e_m1g, e_m1h, e_add, e_mul, e_sub, e_pred, e_rem, ix_nI, nz_nI, nI_clamp, nm_e1, Nat.add_zero, if_true, if_false, Nat.reduceEqDiff, eq_self, reduceIte]
      rw [if_neg q, if_pos q2, if_pos (by omega)]
    · simp (disch := omega) only [↓m1_d, ↓m2_d, e_m2, e_m2', e_m12, e_m21, liN, e_le, e_lt, e_eqm, e_eq, e_m1, e_m1', e_m1l, e_m1e, e_m1g, e_m1h, e_add, e_mul, e_sub, e_pred, e_rem, ix_nI, nz_nI, nI_clamp, nm_e1, Nat.add_zero, if_true, if_false, Nat.reduceEqDiff, eq_self, reduceIte, Option.bind_some, L_isMark hw hL hS (by omega : i < 2 ^ 31)]
      rw [if_neg q, if_neg q2, if_neg (show ¬ max 2 (min L n + 1) ≤ i by omega)]
      unfold isM
      rw [decide_eq_true (by omega : 2 ≤ i ∧ i ≤ L), Bool.true_and]
      by_cases e : mk w k D i = true
      · rw [if_pos e, e, Bool.true_and]
        simp only [decide_eq_true_eq]
      · rw [if_neg e, Bool.eq_false_iff.mpr e, Bool.false_and, if_neg (by decide)]
theorem M_dividing (hw : WF w ns R k D) (hR : RX w ns R k D row) (hL : L ≤ 4801) {o t : Nat → Int32} (hS : RS w k D L o t) {n : Nat} (hn : n < 2 ^ 31) (b : Bool) :
    fx (fun _ _ _ _ _ => none) (B_X11_dividing_9 (nI n) b row) FUEL (nI 0) (nI 2) (nI L) o t =
      some (if b = true then oI (fi (fun i => mk w k D i && decide (n % i = 0)) 2 (max 2 (min L n + 1) - 2)) else nI (cn (fun i => mk w k D i && decide (n % i = 0)) 2 (max 2 (min L n + 1) - 2)), (nI L, o, t)) := by
  refine fx5 (Q := fun u v e o1 t1 m r => e = nI L ∧ o1 = o ∧ t1 = t ∧ ∃ c i, u = nI c ∧ v = nI i ∧ 2 ≤ i ∧ i ≤ max 2 (min L n + 1) ∧ m = max 2 (min L n + 1) - i ∧
      r = some (if b = true then oI (fi (fun i => mk w k D i && decide (n % i = 0)) i (max 2 (min L n + 1) - i)) else nI (c + cn (fun i => mk w k D i && decide (n % i = 0)) i (max 2 (min L n + 1) - i)), (nI L, o, t)))
    ?_ FUEL _ _ _ _ _ (max 2 (min L n + 1) - 2) _ ⟨rfl, rfl, rfl, 0, 2, rfl, rfl, by omega, by omega, rfl, by rw [Nat.zero_add]⟩ (by unfold FUEL; omega)
  rintro K _ _ _ _ _ _ _ ih ⟨rfl, rfl, rfl, c, i, rfl, rfl, h1, h2, rfl, rfl⟩
  unfold B_X11_dividing_9
  by_cases z : max 2 (min L n + 1) ≤ i
  · rw [show max 2 (min L n + 1) - i = 0 by omega]
    by_cases q : L < i
    · simp (disch := omega) only [↓m1_d, ↓m2_d, e_m2, e_m2', e_m12, e_m21, liN, e_le, e_lt, e_eqm, e_eq, e_m1, e_m1', e_m1l, e_m1e, e_m1g, e_m1h, e_add, e_mul, e_sub, e_pred, e_rem, ix_nI, nz_nI, nI_clamp, nm_e1, Nat.add_zero, if_true, if_false, Nat.reduceEqDiff, eq_self, reduceIte]
      rw [if_pos q]
      cases b <;> rfl
    · simp (disch := omega) only [↓m1_d, ↓m2_d, e_m2, e_m2', e_m12, e_m21, liN, e_le, e_lt, e_eqm, e_eq, e_m1, e_m1', e_m1l, e_m1e, e_m1g, e_m1h, e_add, e_mul, e_sub, e_pred, e_rem, ix_nI, nz_nI, nI_clamp, nm_e1, Nat.add_zero, if_true, if_false, Nat.reduceEqDiff, eq_self, reduceIte]
      rw [if_neg q, if_pos (show n < i by omega)]
      cases b <;> rfl
  · simp (disch := omega) only [↓m1_d, ↓m2_d, e_m2, e_m2', e_m12, e_m21, liN, e_le, e_lt, e_eqm, e_eq, e_m1, e_m1', e_m1l, e_m1e, e_m1g, e_m1h, e_add, e_mul, e_sub, e_pred, e_rem, ix_nI, nz_nI, nI_clamp, nm_e1, Nat.add_zero, if_true, if_false, Nat.reduceEqDiff, eq_self, reduceIte, Option.bind_some, M_isMark hw hR hL hS (by omega : i < 2 ^ 31)]
    rw [if_neg (show ¬ L < i by omega), if_neg (show ¬ n < i by omega)]
    unfold isM
    rw [decide_eq_true (by omega : 2 ≤ i ∧ i ≤ L), Bool.true_and, show max 2 (min L n + 1) - i = (max 2 (min L n + 1) - (i + 1)) + 1 by omega, fi_s, cn_s]
    by_cases e : mk w k D i = true
    · rw [if_pos e, e, Bool.true_and]
      by_cases y : n % i = 0
      · rw [if_pos y, decide_eq_true y]
        cases b with
        | true => rfl
        | false =>
          show K (nI (c + 1)) (nI (i + 1)) (nI L) _ _ = some (nI (c + (1 + _)), _)
          rw [← Nat.add_assoc]
          exact ih _ _ _ _ _ (max 2 (min L n + 1) - (i + 1)) _ (by omega) ⟨rfl, rfl, rfl, c + 1, i + 1, rfl, rfl, by omega, by omega, rfl, rfl⟩
      · rw [if_neg y, decide_eq_false y]
        rw [if_neg Bool.false_ne_true, if_neg Bool.false_ne_true, Nat.zero_add]
        exact ih _ _ _ _ _ (max 2 (min L n + 1) - (i + 1)) _ (by omega) ⟨rfl, rfl, rfl, c, i + 1, rfl, rfl, by omega, by omega, rfl, rfl⟩
    · rw [if_neg e, Bool.eq_false_iff.mpr e, Bool.false_and, if_neg Bool.false_ne_true, if_neg Bool.false_ne_true, Nat.zero_add]
      exact ih _ _ _ _ _ (max 2 (min L n + 1) - (i + 1)) _ (by omega) ⟨rfl, rfl, rfl, c, i + 1, rfl, rfl, by omega, by omega, rfl, rfl⟩
theorem Q_divisor (h : CX w ns R k D P row S) (x e0 : Int32) (o t : Nat → Int32) (th : Int32) :
    ∃ v S' e' o' th' t', F_X10_divisor x P S = some (v, S') ∧ SOK w k D (1 + sm R ns) P S' ∧ F_X11_divisor x e0 o row th t = some (v, (e', o', th', t')) := by
  obtain ⟨hw, hP, hR, hS⟩ := h
  obtain ⟨o', t', hm, hRS⟩ := M_strike hw hR e0 o t
  obtain ⟨S', hc, hv, hk⟩ := L_current hw hP hS
  have hL := hw.last
  unfold F_X10_divisor F_X11_divisor F_X11_dividing
  rw [hc, hm, Option.bind_some, Option.bind_some]
  generalize hLL : 1 + sm R ns = L at *
  rcases i_cases x with hx | ⟨n, hn, rfl⟩
  · refine ⟨m1, S', nI L, o', 0, t', ?_, hk, ?_⟩
    · show B_X10_divisor_7 x P (fx _ _ 999999) (nI 2) S' = _
      unfold B_X10_divisor_7 F_X7_lastNumber
      rw [hv.1, Option.bind_some]
      split
      · rfl
      · rw [if_pos (neg_lt hx (by decide))]; rfl
    · have : fx (fun _ _ _ _ _ => none) (B_X11_dividing_9 x true row) FUEL 0 2 (nI L) o' t' = some (m1, (nI L, o', t')) := by
        show B_X11_dividing_9 x true row (fx _ _ 999999) (nI 0) (nI 2) (nI L) o' t' = _
        unfold B_X11_dividing_9
        by_cases q : nI L < nI 2
        · rw [if_pos q]; rfl
        · rw [if_neg q, if_pos (neg_lt hx (by decide))]; rfl
      show (fx (fun _ _ _ _ _ => none) (B_X11_dividing_9 x true row) FUEL 0 2 (nI L) o' t').bind _ = _
      rw [this]
      rfl
  · refine ⟨_, S', nI L, o', 0, t', L_divisor hw hL hv hn, hk, ?_⟩
    show (fx (fun _ _ _ _ _ => none) (B_X11_dividing_9 (nI n) true row) FUEL (nI 0) (nI 2) (nI L) o' t').bind _ = _
    rw [M_dividing hw hR hL hRS hn]
    rfl
theorem Q_divisors (h : CX w ns R k D P row S) (x e0 : Int32) (o t : Nat → Int32) (th : Int32) :
    ∃ v S' e' o' th' t', F_X10_divisors x P S = some (v, S') ∧ SOK w k D (1 + sm R ns) P S' ∧ F_X11_divisors x e0 o row th t = some (v, (e', o', th', t')) := by
  obtain ⟨hw, hP, hR, hS⟩ := h
  obtain ⟨o', t', hm, hRS⟩ := M_strike hw hR e0 o t
  obtain ⟨S', hc, hv, hk⟩ := L_current hw hP hS
  have hL := hw.last
  unfold F_X10_divisors F_X11_divisors F_X11_dividing
  rw [hc, hm, Option.bind_some, Option.bind_some]
  generalize hLL : 1 + sm R ns = L at *
  rcases i_cases x with hx | ⟨n, hn, rfl⟩
  · refine ⟨nI 0, S', nI L, o', 0, t', ?_, hk, ?_⟩
    · show B_X10_divisors_10 x P (fx _ _ 999999) (nI 0) (nI 2) S' = _
      unfold B_X10_divisors_10 F_X7_lastNumber
      rw [hv.1, Option.bind_some]
      split
      · rfl
      · rw [if_pos (neg_lt hx (by decide))]
    · have : fx (fun _ _ _ _ _ => none) (B_X11_dividing_9 x false row) FUEL 0 2 (nI L) o' t' = some (nI 0, (nI L, o', t')) := by
        show B_X11_dividing_9 x false row (fx _ _ 999999) (nI 0) (nI 2) (nI L) o' t' = _
        unfold B_X11_dividing_9
        by_cases q : nI L < nI 2
        · rw [if_pos q]; rfl
        · rw [if_neg q, if_pos (neg_lt hx (by decide))]; rfl
      show (fx (fun _ _ _ _ _ => none) (B_X11_dividing_9 x false row) FUEL 0 2 (nI L) o' t').bind _ = _
      rw [this]
      rfl
  · refine ⟨_, S', nI L, o', 0, t', L_divisors hw hL hv hn, hk, ?_⟩
    show (fx (fun _ _ _ _ _ => none) (B_X11_dividing_9 (nI n) false row) FUEL (nI 0) (nI 2) (nI L) o' t').bind _ = _
    rw [M_dividing hw hR hL hRS hn]
    rfl
theorem Q_longest (h : CX w ns R k D P row S) (e0 : Int32) (o t : Nat → Int32) (th : Int32) :
    ∃ v S' e' o' th' t', F_X10_longest P S = some (v, S') ∧ SOK w k D (1 + sm R ns) P S' ∧ F_X11_longest e0 o row th t = some (v, (e', o', th', t')) := by
  obtain ⟨hw, hP, hR, hS⟩ := h
  obtain ⟨o', t', hm, hRS⟩ := M_strike hw hR e0 o t
  obtain ⟨S', hc, hv, hk⟩ := L_current hw hP hS
  have hL := hw.last
  unfold F_X10_longest F_X11_longest
  rw [hc, hm, Option.bind_some, Option.bind_some]
  generalize hLL : 1 + sm R ns = L at *
  have key := fxp (bot1 := fun _ _ _ _ => none) (bot2 := fun _ _ _ _ _ _ _ => none) (B1 := B_X10_longest_12 P) (B2 := B_X11_longest_15 row)
    (P := fun n K1 K2 => ∀ b r i, b ≤ 5000 → r < i → 2 ≤ i → i ≤ L + 1 ∨ i = 2 → L + 1 - i < n → ∃ v, K1 (nI b) (nI r) (nI i) S' = some (v, S') ∧ K2 (nI b) (nI r) (nI i) (nI L) o' 0 t' = some (v, (nI L, o', 0, t')))
    (fun b r i _ _ _ _ h => absurd h (Nat.not_lt_zero _))
    (fun n K1 K2 ih b r i hb hr h2 hi hn => by
      unfold B_X10_longest_12 B_X11_longest_15 F_X7_lastNumber
      rw [hv.1]
      by_cases q : L < i
      · simp (disch := omega) only [↓m1_d, ↓m2_d, e_m2, e_m2', e_m12, e_m21, liN, e_le, e_lt, e_eqm, e_eq, e_m1, e_m1', e_m1l, e_m1e, e_m1g, e_m1h, e_add, e_mul, e_sub, e_pred, e_rem, ix_nI, nz_nI, nI_clamp, nm_e1, Nat.add_zero, if_true, if_false, Nat.reduceEqDiff, eq_self, reduceIte, Option.bind_some]
        rw [if_pos q, if_pos q]
        exact ⟨_, rfl, rfl⟩
      · have h30 := ht_le (L := i) hw
        simp (disch := omega) only [↓m1_d, ↓m2_d, e_m2, e_m2', e_m12, e_m21, liN, e_le, e_lt, e_eqm, e_eq, e_m1, e_m1', e_m1l, e_m1e, e_m1g, e_m1h, e_add, e_mul, e_sub, e_pred, e_rem, ix_nI, nz_nI, nI_clamp, nm_e1, Nat.add_zero, if_true, if_false, Nat.reduceEqDiff, eq_self, reduceIte, Option.bind_some, L_ownerOf hL hv (by omega : i < 2 ^ 31), M_isOnSpoke hw hR (by omega : 1 ≤ i) (by omega : i < 2 ^ 31), (hRS i (by omega)).2]
        rw [if_neg q, if_neg q]
        rw [if_pos (show 2 ≤ i ∧ i ≤ L by omega)]
        simp (disch := omega) only [↓m1_d, ↓m2_d, e_m2, e_m2', e_m12, e_m21, liN, e_le, e_lt, e_eqm, e_eq, e_m1, e_m1', e_m1l, e_m1e, e_m1g, e_m1h, e_add, e_mul, e_sub, e_pred, e_rem, ix_nI, nz_nI, nI_clamp, nm_e1, Nat.add_zero, if_true, if_false, Nat.reduceEqDiff, eq_self, reduceIte, oz_0 hw, oz_m1 hw]
        have em := mk_eq (w := w) (k := k) (D := D) (L := i)
        cases ho : off w i with
        | true =>
          rw [ho] at em
          rw [em]
          exact ih b r (i + 1) hb (by omega) (by omega) (by omega) (by omega)
        | false =>
          rw [ho] at em
          by_cases z : ht w k D i = 0
          · rw [z] at em
            rw [em, z]
            by_cases y : r + 1 ≤ b
            · rw [if_neg (show ¬ b < r + 1 by omega), if_pos y]
              exact ih b (r + 1) (i + 1) hb (by omega) (by omega) (by omega) (by omega)
            · rw [if_pos (show b < r + 1 by omega), if_neg y]
              exact ih (r + 1) (r + 1) (i + 1) (by omega) (by omega) (by omega) (by omega) (by omega)
          · rw [decide_eq_false z] at em
            rw [em, if_neg z]
            rw [if_pos (Nat.zero_le b)]
            exact ih b 0 (i + 1) hb (by omega) (by omega) (by omega) (by omega))
    FUEL 0 0 2 (by omega) (by omega) (by omega) (Or.inr rfl) (by unfold FUEL; omega)
  obtain ⟨v, k1, k2⟩ := key
  exact ⟨v, S', nI L, o', 0, t', k1, hk, k2⟩
theorem Q_chain (h : CX w ns R k D P row S) (x e0 : Int32) (o t : Nat → Int32) (th : Int32) :
    ∃ v S' e' o' th' t', F_X10_chain x P S = some (v, S') ∧ SOK w k D (1 + sm R ns) P S' ∧ F_X11_chain x e0 o row th t = some (v, (e', o', th', t')) := by
  obtain ⟨hw, hP, hR, hS⟩ := h
  obtain ⟨o', t', hm, hRS⟩ := M_strike hw hR e0 o t
  obtain ⟨S', hc, hv, hk⟩ := L_current hw hP hS
  have hL := hw.last
  unfold F_X10_chain F_X11_chain
  rw [hc, hm, Option.bind_some, Option.bind_some]
  generalize hLL : 1 + sm R ns = L at *
  have key := fxp (bot1 := fun _ _ _ => none) (bot2 := fun _ _ _ _ _ _ => none) (B1 := B_X10_chain_10 x P) (B2 := B_X11_chain_13 x row)
    (P := fun n K1 K2 => ∀ c y m, (y < 0 ∧ m = 0 ∨ ∃ i a, y = nI i ∧ i < 2 ^ 31 ∧ m = L + 1 - i ∧ c = nI a ∧ 2 * a ≤ i) → m < n → ∃ v, K1 c y S' = some (v, S') ∧ K2 c y (nI L) o' 0 t' = some (v, (nI L, o', 0, t')))
    (fun c y m _ h => absurd h (Nat.not_lt_zero _))
    (fun n K1 K2 ih c y m hy hn => by
      unfold B_X10_chain_10 B_X11_chain_13
      rw [M_isMarkI hw hR hL hRS, L_isMarkI hw hL hv, Option.bind_some, Option.bind_some]
      rcases hy with ⟨hy, -⟩ | ⟨i, a, rfl, hi, rfl, rfl, ha⟩
      · rw [isMI_neg hy]
        refine ⟨c, ?_, rfl⟩
        split
        · rfl
        · rfl
      · rw [isMI_nI hi]
        by_cases e : isM w k D L i = true
        · have : 2 ≤ i ∧ i ≤ L := by
            unfold isM at e
            simp only [Bool.and_eq_true, decide_eq_true_eq] at e
            exact e.1
          simp (disch := omega) only [↓m1_d, ↓m2_d, e_m2, e_m2', e_m12, e_m21, liN, e_le, e_lt, e_eqm, e_eq, e_m1, e_m1', e_m1l, e_m1e, e_m1g, e_m1h, e_add, e_mul, e_sub, e_pred, e_rem, ix_nI, nz_nI, nI_clamp, nm_e1, Nat.add_zero, if_true, if_false, Nat.reduceEqDiff, eq_self, reduceIte]
          rw [e, if_neg (show ¬ 4801 ≤ a by omega), if_pos rfl, if_pos rfl]
          exact ih _ _ (L + 1 - (2 * i + 1)) (Or.inr ⟨2 * i + 1, a + 1, rfl, by omega, rfl, rfl, by omega⟩) (by omega)
        · rw [Bool.eq_false_iff.mpr e]
          refine ⟨nI a, ?_, rfl⟩
          split
          · rfl
          · rfl)
    FUEL 0 x
  rcases i_cases x with hx | ⟨n, hn, hx⟩
  · obtain ⟨v, k1, k2⟩ := key 0 (Or.inl ⟨hx, rfl⟩) (by unfold FUEL; omega)
    exact ⟨v, S', nI L, o', 0, t', k1, hk, k2⟩
  · obtain ⟨v, k1, k2⟩ := key (L + 1 - n) (Or.inr ⟨n, 0, hx, hn, rfl, rfl, Nat.zero_le _⟩) (by unfold FUEL; omega)
    exact ⟨v, S', nI L, o', 0, t', k1, hk, k2⟩
end
