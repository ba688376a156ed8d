/-! ===== PURE: spokeAt, spokeOf, mark, both, meet ===== -/
section
variable {w ns k : Nat} {R D : Nat → Nat} {P : PlanT} {row : Nat → Int32} {S : SieveT} {L : Nat}
/-- the c-th (from 0) of f numbers from i on -/
def nt (p : Nat → Bool) (c i f : Nat) : Option Nat := fi (fun n => decide (c < cn p i (n + 1 - i))) i f
theorem nt_0 {p : Nat → Bool} {c i : Nat} : nt p c i 0 = none := rfl
theorem nt_s {p : Nat → Bool} {c i f : Nat} : nt p c i (f + 1) = if p i = true then (if c = 0 then some i else nt p (c - 1) (i + 1) f) else nt p c (i + 1) f := by
  have sh : ∀ n, i + 1 ≤ n → cn p i (n + 1 - i) = (if p i = true then 1 else 0) + cn p (i + 1) (n + 1 - (i + 1)) := by
    intro n hn
    rw [show n + 1 - i = (n + 1 - (i + 1)) + 1 by omega, cn_s]
  unfold nt
  rw [fi_s, show i + 1 - i = 0 + 1 by omega, cn_s]
  show (if decide (c < _ + 0) = true then some i else _) = _
  by_cases e : p i = true
  · rw [if_pos e, if_pos e]
    by_cases z : c = 0
    · rw [if_pos z, if_pos (decide_eq_true (by omega))]
    · rw [if_neg z, if_neg (by simp; omega)]
      refine fi_cong (fun n h1 h2 => ?_)
      rw [sh n h1, if_pos e]
      exact decide_eq_decide.mpr (by omega)
  · rw [if_neg e, if_neg e, if_neg (by simp)]
    refine fi_cong (fun n h1 h2 => ?_)
    rw [sh n h1, if_neg e, Nat.zero_add]
theorem fx5 {α β γ δ ε R : Type} {bot : α → β → γ → δ → ε → R} {B : (α → β → γ → δ → ε → R) → α → β → γ → δ → ε → R} {Q : α → β → γ → δ → ε → Nat → R → Prop}
    (H : ∀ K x y z u v m r, (∀ x' y' z' u' v' m' r', m' < m → Q x' y' z' u' v' m' r' → K x' y' z' u' v' = r') → Q x y z u v m r → B K x y z u v = r) :
    ∀ n x y z u v m r, Q x y z u v m r → m < n → fx bot B n x y z u v = r
  | 0, _, _, _, _, _, _, _, _, h => absurd h (Nat.not_lt_zero _)
  | n + 1, x, y, z, u, v, m, r, hq, h => H _ x y z u v m r (fun x' y' z' u' v' m' r' h1 h2 => fx5 H n x' y' z' u' v' m' r' h2 (by omega)) hq
theorem fx6 {α β γ δ ε ζ R : Type} {bot : α → β → γ → δ → ε → ζ → R} {B : (α → β → γ → δ → ε → ζ → R) → α → β → γ → δ → ε → ζ → R} {Q : α → β → γ → δ → ε → ζ → Nat → R → Prop}
    (H : ∀ K x y z u v t m r, (∀ x' y' z' u' v' t' m' r', m' < m → Q x' y' z' u' v' t' m' r' → K x' y' z' u' v' t' = r') → Q x y z u v t m r → B K x y z u v t = r) :
    ∀ n x y z u v t m r, Q x y z u v t m r → m < n → fx bot B n x y z u v t = r
  | 0, _, _, _, _, _, _, _, _, _, h => absurd h (Nat.not_lt_zero _)
  | n + 1, x, y, z, u, v, t, m, r, hq, h => H _ x y z u v t m r (fun x' y' z' u' v' t' m' r' h1 h2 => fx6 H n x' y' z' u' v' t' m' r' h2 (by omega)) hq
theorem fx7 {α β γ δ ε ζ η R : Type} {bot : α → β → γ → δ → ε → ζ → η → R} {B : (α → β → γ → δ → ε → ζ → η → R) → α → β → γ → δ → ε → ζ → η → R} {Q : α → β → γ → δ → ε → ζ → η → Nat → R → Prop}
    (H : ∀ K x y z u v t s m r, (∀ x' y' z' u' v' t' s' m' r', m' < m → Q x' y' z' u' v' t' s' m' r' → K x' y' z' u' v' t' s' = r') → Q x y z u v t s m r → B K x y z u v t s = r) :
    ∀ n x y z u v t s m r, Q x y z u v t s m r → m < n → fx bot B n x y z u v t s = r
  | 0, _, _, _, _, _, _, _, _, _, _, h => absurd h (Nat.not_lt_zero _)
  | n + 1, x, y, z, u, v, t, s, m, r, hq, h => H _ x y z u v t s m r (fun x' y' z' u' v' t' s' m' r' h1 h2 => fx7 H n x' y' z' u' v' t' s' m' r' h2 (by omega)) hq
theorem m1_sub : nI 0 + m1 = m1 := by decide
theorem L_spokeAt (hw : WF w ns R k D) (hP : PX w ns R k D P) {c : Nat} (hc : c < 2 ^ 31) : F_X10_spokeAt (nI c) P = some (oI (nt (fr w) c 1 (wp w))) := by
  have hwp := wp_rng (k := w) (by have := hw.1; omega)
  unfold F_X10_spokeAt F_X3_wheelNow
  rw [hP.1, Option.bind_some, L_product hw.1, Option.bind_some]
  refine fx4 (Q := fun a b u v m r => a = nI w ∧ b = nI (wp w) ∧ ∃ c i, u = nI c ∧ v = nI i ∧ c < 2 ^ 31 ∧ 1 ≤ i ∧ i ≤ wp w + 1 ∧ m = wp w + 1 - i ∧ r = some (oI (nt (fr w) c i (wp w + 1 - i)))) ?_ FUEL _ _ _ (nI 1) (wp w + 1 - 1) _ ⟨rfl, rfl, c, 1, rfl, rfl, hc, by omega, by omega, rfl, rfl⟩ (by unfold FUEL; omega)
  rintro K _ _ _ _ _ _ ih ⟨rfl, rfl, c, i, rfl, rfl, hc, h1, h2, rfl, rfl⟩
  unfold B_X10_spokeAt_19
  by_cases q : wp w < i
  · simp (disch := omega) only [↓m1_d, ↓m2_d, e_m2, e_m2', e_m12, e_m21, liN, e_le, e_lt, e_eqm, e_eq, e_m1, e_m1', e_m1l, e_m1e, e_m1g, e_m1h, e_add, e_mul, e_sub, e_pred, e_rem, ix_nI, nz_nI, nI_clamp, nm_e1, Nat.add_zero, if_true, if_false, Nat.reduceEqDiff, eq_self, reduceIte]
    rw [if_pos q, show wp w + 1 - i = 0 by omega]
    rfl
  · simp (disch := omega) only [↓m1_d, ↓m2_d, e_m2, e_m2', e_m12, e_m21, liN, e_le, e_lt, e_eqm, e_eq, e_m1, e_m1', e_m1l, e_m1e, e_m1g, e_m1h, e_add, e_mul, e_sub, e_pred, e_rem, ix_nI, nz_nI, nI_clamp, nm_e1, Nat.add_zero, if_true, if_false, Nat.reduceEqDiff, eq_self, reduceIte, Option.bind_some, L_isFree hw.1 (by omega : i < 2 ^ 31)]
    rw [if_neg q, if_neg (by omega), show wp w + 1 - i = (wp w + 1 - (i + 1)) + 1 by omega, nt_s]
    by_cases e : fr w i = true
    · rw [if_pos e, if_pos e]
      by_cases z : c = 0
      · rw [if_pos z, if_pos z]; rfl
      · rw [if_neg z, if_neg z]
        have : nI c + m1 = nI (c - 1) := e_pred (by omega)
        try rw [this]
        exact ih _ _ _ _ (wp w + 1 - (i + 1)) _ (by omega) ⟨rfl, rfl, c - 1, i + 1, rfl, rfl, by omega, by omega, by omega, rfl, rfl⟩
    · rw [if_neg e, if_neg e]
      exact ih _ _ _ _ (wp w + 1 - (i + 1)) _ (by omega) ⟨rfl, rfl, c, i + 1, rfl, rfl, hc, by omega, by omega, rfl, rfl⟩
theorem M_isCoprime (hw : WF w ns R k D) (hR : RX w ns R k D row) {n : Nat} (h1 : 1 ≤ n) (hn : n < 2 ^ 31) : F_X11_isCoprime (nI n) row = some (fr w n) := by
  unfold F_X11_isCoprime
  rw [M_isOnSpoke hw hR h1 hn, M_isWheelPrime hw hR hn, Option.bind_some, Option.bind_some, fr_eq hw.1 h1]
  cases off w n <;> cases (fi (fun j => decide (wq j = n)) 0 w).isSome <;> rfl
theorem M_spokeAt (hw : WF w ns R k D) (hR : RX w ns R k D row) {c : Nat} (hc : c < 2 ^ 31) (th : Int32) : F_X11_spokeAt (nI c) row th = some (oI (nt (fr w) c 1 (wp w)), 0) := by
  have hwp := wp_rng (k := w) (by have := hw.1; omega)
  unfold F_X11_spokeAt
  refine fx3 (Q := fun u v b m r => b = nI 0 ∧ ∃ c i, u = nI c ∧ v = nI i ∧ c < 2 ^ 31 ∧ 1 ≤ i ∧ i ≤ wp w + 1 ∧ m = wp w + 1 - i ∧ r = some (oI (nt (fr w) c i (wp w + 1 - i)), nI 0)) ?_ FUEL _ (nI 1) (nI 0) (wp w + 1 - 1) _ ⟨rfl, c, 1, rfl, rfl, hc, by omega, by omega, rfl, rfl⟩ (by unfold FUEL; omega)
  rintro K _ _ _ _ _ ih ⟨rfl, c, i, rfl, rfl, hc, h1, h2, rfl, rfl⟩
  unfold B_X11_spokeAt_9
  rw [M_product hw hR, Option.bind_some]
  by_cases q : wp w < i
  · simp (disch := omega) only [↓m1_d, ↓m2_d, e_m2, e_m2', e_m12, e_m21, liN, e_le, e_lt, e_eqm, e_eq, e_m1, e_m1', e_m1l, e_m1e, e_m1g, e_m1h, e_add, e_mul, e_sub, e_pred, e_rem, ix_nI, nz_nI, nI_clamp, nm_e1, Nat.add_zero, if_true, if_false, Nat.reduceEqDiff, eq_self, reduceIte]
    rw [if_pos q, show wp w + 1 - i = 0 by omega]
    rfl
  · simp (disch := omega) only [↓m1_d, ↓m2_d, e_m2, e_m2', e_m12, e_m21, liN, e_le, e_lt, e_eqm, e_eq, e_m1, e_m1', e_m1l, e_m1e, e_m1g, e_m1h, e_add, e_mul, e_sub, e_pred, e_rem, ix_nI, nz_nI, nI_clamp, nm_e1, Nat.add_zero, if_true, if_false, Nat.reduceEqDiff, eq_self, reduceIte, Option.bind_some, M_isCoprime hw hR h1 (by omega : i < 2 ^ 31)]
    rw [if_neg q, if_neg (by omega), show wp w + 1 - i = (wp w + 1 - (i + 1)) + 1 by omega, nt_s]
    by_cases e : fr w i = true
    · rw [if_pos e, if_pos e]
      by_cases z : c = 0
      · rw [if_pos z, if_pos z]; rfl
      · rw [if_neg z, if_neg z]
        have : nI c + m1 = nI (c - 1) := e_pred (by omega)
        try rw [this]
        exact ih _ _ _ (wp w + 1 - (i + 1)) _ (by omega) ⟨rfl, c - 1, i + 1, rfl, rfl, by omega, by omega, by omega, rfl, rfl⟩
    · rw [if_neg e, if_neg e]
      exact ih _ _ _ (wp w + 1 - (i + 1)) _ (by omega) ⟨rfl, c, i + 1, rfl, rfl, hc, by omega, by omega, rfl, rfl⟩
theorem Q_spokeAt (h : CX w ns R k D P row S) (x th : Int32) : ∃ v, F_X10_spokeAt x P = some v ∧ F_X11_spokeAt x row th = some (v, 0) := by
  obtain ⟨hw, hP, hR, hS⟩ := h
  rcases i_cases x with hx | ⟨c, hc, rfl⟩
  · have hwp := wp_rng (k := w) (by have := hw.1; omega)
    refine ⟨m1, ?_, ?_⟩
    · unfold F_X10_spokeAt F_X3_wheelNow
      rw [hP.1, Option.bind_some, L_product hw.1, Option.bind_some]
      show B_X10_spokeAt_19 x P (fx _ _ 999999) (nI w) (nI (wp w)) x (nI 1) = _
      unfold B_X10_spokeAt_19
      rw [if_neg (nI_nlt (by omega) (by omega)), if_pos hx]
      rfl
    · unfold F_X11_spokeAt
      show B_X11_spokeAt_9 x row (fx _ _ 999999) x (nI 1) 0 = _
      unfold B_X11_spokeAt_9
      rw [M_product hw hR, Option.bind_some, if_neg (nI_nlt (by omega) (by omega)), if_pos hx]
      rfl
  · exact ⟨_, L_spokeAt hw hP hc, M_spokeAt hw hR hc th⟩
theorem Q_spokeOf (h : CX w ns R k D P row S) (x th : Int32) : ∃ v, F_X10_spokeOf x P = some v ∧ F_X11_spokeOf x row th = some (v, 0) := by
  obtain ⟨hw, hP, hR, hS⟩ := h
  have hwp := wp_rng (k := w) (by have := hw.1; omega)
  unfold F_X10_spokeOf F_X11_spokeOf F_X3_wheelNow
  rw [M_product hw hR, hP.1, Option.bind_some, Option.bind_some]
  by_cases c : 1 ≤ x
  · rcases i_cases x with hx | ⟨n, hn, rfl⟩
    · exact absurd c (neg_nle hx (k := 1) (by decide))
    · have n1 : 1 ≤ n := by
        refine Nat.lt_of_not_le fun q => ?_
        exact absurd c (nI_ge (b := 1) (by omega) (by decide))
      rw [if_pos c, if_pos c, L_product hw.1, Option.bind_some]
      have hm : (n - 1) % wp w < wp w := Nat.mod_lt _ (by omega)
      rw [show (if nI (wp w) < 1 then (1 : Int32) else nI (wp w)) = nI (wp w) from if_neg (show ¬ nI (wp w) < nI 1 from nI_nlt (by omega) (by omega))]
      simp (disch := omega) only [↓m1_d, ↓m2_d, e_m2, e_m2', e_m12, e_m21, liN, e_le, e_lt, e_eqm, e_eq, e_m1, e_m1', e_m1l, e_m1e, e_m1g, e_m1h, e_add, e_mul, e_sub, e_pred, e_rem, ix_nI, nz_nI, nI_clamp, nm_e1, Nat.add_zero, if_true, if_false, Nat.reduceEqDiff, eq_self, reduceIte]
      have ha : 1 ≤ (n - 1) % wp w + 1 ∧ (n - 1) % wp w + 1 ≤ 210 := by omega
      generalize (n - 1) % wp w + 1 = a at *
      rw [L_isFree hw.1 (by omega), M_isCoprime hw hR (by omega) (by omega), Option.bind_some, Option.bind_some]
      by_cases e : fr w a = true
      · have run : fx (fun _ _ _ _ => none) (B_X11_spokeOf_47 (nI n) row) FUEL (nI a) (nI 0) (nI 1) (nI 0) = some (nI (cn (fr w) 1 (a - 1)), nI 0) := by
          refine fx4 (Q := fun u v z b m r => u = nI a ∧ b = nI 0 ∧ ∃ q i, v = nI q ∧ z = nI i ∧ 1 ≤ i ∧ i ≤ a ∧ m = a - i ∧ r = some (nI (q + cn (fr w) i (a - i)), nI 0)) ?_ FUEL _ _ _ _ (a - 1) _ ⟨rfl, rfl, 0, 1, rfl, rfl, by omega, by omega, rfl, by rw [Nat.zero_add]⟩ (by unfold FUEL; omega)
          rintro K _ _ _ _ _ _ ih ⟨rfl, rfl, q, i, rfl, rfl, i1, i2, rfl, rfl⟩
          unfold B_X11_spokeOf_47
          by_cases z : a ≤ i
          · simp (disch := omega) only [↓m1_d, ↓m2_d, e_m2, e_m2', e_m12, e_m21, liN, e_le, e_lt, e_eqm, e_eq, e_m1, e_m1', e_m1l, e_m1e, e_m1g, e_m1h, e_add, e_mul, e_sub, e_pred, e_rem, ix_nI, nz_nI, nI_clamp, nm_e1, Nat.add_zero, if_true, if_false, Nat.reduceEqDiff, eq_self, reduceIte]
            rw [if_pos z, show a - i = 0 by omega]
            rfl
          · simp (disch := omega) only [↓m1_d, ↓m2_d, e_m2, e_m2', e_m12, e_m21, liN, e_le, e_lt, e_eqm, e_eq, e_m1, e_m1', e_m1l, e_m1e, e_m1g, e_m1h, e_add, e_mul, e_sub, e_pred, e_rem, ix_nI, nz_nI, nI_clamp, nm_e1, Nat.add_zero, if_true, if_false, Nat.reduceEqDiff, eq_self, reduceIte, Option.bind_some, M_isCoprime hw hR i1 (by omega : i < 2 ^ 31)]
            rw [if_neg z, show a - i = (a - (i + 1)) + 1 by omega, cn_s]
            by_cases y : fr w i = true
            · rw [if_pos y, if_pos y, ← Nat.add_assoc]
              exact ih _ _ _ _ (a - (i + 1)) _ (by omega) ⟨rfl, rfl, q + 1, i + 1, rfl, rfl, by omega, by omega, rfl, rfl⟩
            · rw [if_neg y, if_neg y, Nat.zero_add]
              exact ih _ _ _ _ (a - (i + 1)) _ (by omega) ⟨rfl, rfl, q, i + 1, rfl, rfl, by omega, by omega, rfl, rfl⟩
        have cs := cn_snoc (fr w) 1 (a - 1)
        rw [show 1 + (a - 1) = a by omega, if_pos e, show a - 1 + 1 = a by omega] at cs
        rw [if_pos e, if_pos e, run, L_spokesUpTo hw.1 (by omega), Option.bind_some, cs]
        simp (disch := omega) only [↓m1_d, ↓m2_d, e_m2, e_m2', e_m12, e_m21, liN, e_le, e_lt, e_eqm, e_eq, e_m1, e_m1', e_m1l, e_m1e, e_m1g, e_m1h, e_add, e_mul, e_sub, e_pred, e_rem, ix_nI, nz_nI, nI_clamp, nm_e1, Nat.add_zero, if_true, if_false, Nat.reduceEqDiff, eq_self, reduceIte]
        exact ⟨_, rfl, rfl⟩
      · rw [if_neg e, if_neg e]
        exact ⟨_, rfl, rfl⟩
  · rw [if_neg c, if_neg c]
    exact ⟨_, rfl, rfl⟩
/-! marks by number -/
theorem L_markAt (hw : WF w ns R k D) (hL : L ≤ 4801) (hL1 : 1 ≤ L) (hS : SV w k D L S) {c : Nat} (hc : c < 2 ^ 31) : F_X7_markAt (nI c) S = some (oI (nt (mk w k D) c 2 (L - 1))) := by
  unfold F_X7_markAt nt
  rw [show L - 1 = L + 1 - 2 by omega]
  refine lp_fi (p := fun n => decide (c < cn (mk w k D) 2 (n + 1 - 2))) oI 2 (L + 1) (by omega) (by omega) (fun K i h1 h2 => ?_)
  unfold B_X7_markAt_2
  rw [hS.1]
  by_cases q : L < i
  · simp (disch := omega) only [↓m1_d, ↓m2_d, e_m2, e_m2', e_m12, e_m21, liN, e_le, e_lt, e_eqm, e_eq, e_m1, e_m1', e_m1l, e_m1e, e_m1g, e_m1h, e_add, e_mul, e_sub, e_pred, e_rem, ix_nI, nz_nI, nI_clamp, nm_e1, Nat.add_zero, if_true, if_false, Nat.reduceEqDiff, eq_self, reduceIte]
    rw [if_pos q, if_pos (by omega)]
    rfl
  · have hl := cn_le (mk w k D) (i - 1) 2
    simp (disch := omega) only [↓m1_d, ↓m2_d, e_m2, e_m2', e_m12, e_m21, liN, e_le, e_lt, e_eqm, e_eq, e_m1, e_m1', e_m1l, e_m1e, e_m1g, e_m1h, e_add, e_mul, e_sub, e_pred, e_rem, ix_nI, nz_nI, nI_clamp, nm_e1, Nat.add_zero, if_true, if_false, Nat.reduceEqDiff, eq_self, reduceIte, (hS.2.1 i h1 (by omega)).2, decide_eq_true_eq]
    rw [if_neg q, if_neg (by omega), if_neg (show ¬ L + 1 ≤ i by omega), show i + 1 - 2 = i - 1 by omega]
    by_cases e : cn (mk w k D) 2 (i - 1) ≤ c
    · rw [if_pos e, if_neg (by omega)]
    · rw [if_neg e, if_pos (by omega)]
      rfl
theorem Q_mark (h : CX w ns R k D P row S) (x e0 : Int32) (o t : Nat → Int32) (th : Int32) :
    ∃ v S' e' o' th' t', F_X10_mark x P S = some (v, S') ∧ SOK w k D (1 + sm R ns) P S' ∧ F_X11_mark x e0 o row th t = some (v, (e', o', th', t')) := by
  obtain ⟨hw, hP, hR, hS⟩ := h
  obtain ⟨o', t', hm, hRS⟩ := M_strike hw hR e0 o t
  obtain ⟨S', hc, hv, hk⟩ := L_current hw hP hS
  have hL := hw.last
  unfold F_X10_mark F_X11_mark
  rw [hc, hm, Option.bind_some, Option.bind_some]
  generalize hLL : 1 + sm R ns = L at *
  rcases i_cases x with hx | ⟨c, hc, rfl⟩
  · refine ⟨m1, S', nI L, o', 0, t', ?_, hk, ?_⟩
    · have : F_X7_markAt x S' = some m1 := by
        show B_X7_markAt_2 x S' (fx _ _ 999999) 2 = _
        unfold B_X7_markAt_2
        rw [hv.1]
        split
        · rfl
        · rfl
      rw [this]
      rfl
    · show B_X11_mark_13 x row (fx _ _ 999999) x 2 (nI L) o' 0 t' = _
      unfold B_X11_mark_13
      split
      · rfl
      · rfl
  · rw [L_markAt hw hL (by omega) hv hc]
    refine ⟨oI (nt (mk w k D) c 2 (L - 1)), S', nI L, o', 0, t', rfl, hk, ?_⟩
    refine fx6 (Q := fun u v e o t1 t2 m r => e = nI L ∧ o = o' ∧ t1 = 0 ∧ t2 = t' ∧ ∃ c i, u = nI c ∧ v = nI i ∧ c < 2 ^ 31 ∧ 2 ≤ i ∧ i ≤ L + 1 ∧ m = L + 1 - i ∧ r = some (oI (nt (mk w k D) c i (L + 1 - i)), (nI L, o', 0, t'))) ?_ FUEL _ _ _ _ _ _ (L + 1 - 2) _ ⟨rfl, rfl, rfl, rfl, c, 2, rfl, rfl, hc, by omega, by omega, rfl, by rw [show L - 1 = L + 1 - 2 by omega]⟩ (by unfold FUEL; omega)
    rintro K _ _ _ _ _ _ _ _ ih ⟨rfl, rfl, rfl, rfl, c, i, rfl, rfl, hc, h1, h2, rfl, rfl⟩
    unfold B_X11_mark_13
    by_cases q : L < i
    · simp (disch := omega) only [↓m1_d, ↓m2_d, e_m2, e_m2', e_m12, e_m21, liN, e_le, e_lt, e_eqm, e_eq, e_m1, e_m1', e_m1l, e_m1e, e_m1g, e_m1h, e_add, e_mul, e_sub, e_pred, e_rem, ix_nI, nz_nI, nI_clamp, nm_e1, Nat.add_zero, if_true, if_false, Nat.reduceEqDiff, eq_self, reduceIte]
      rw [if_pos q, show L + 1 - i = 0 by omega]
      rfl
    · simp (disch := omega) only [↓m1_d, ↓m2_d, e_m2, e_m2', e_m12, e_m21, liN, e_le, e_lt, e_eqm, e_eq, e_m1, e_m1', e_m1l, e_m1e, e_m1g, e_m1h, e_add, e_mul, e_sub, e_pred, e_rem, ix_nI, nz_nI, nI_clamp, nm_e1, Nat.add_zero, if_true, if_false, Nat.reduceEqDiff, eq_self, reduceIte, Option.bind_some, M_isMark hw hR hL hRS (by omega : i < 2 ^ 31)]
      rw [if_neg q, if_neg (by omega), show L + 1 - i = (L + 1 - (i + 1)) + 1 by omega, nt_s]
      unfold isM
      rw [decide_eq_true (by omega : 2 ≤ i ∧ i ≤ L), Bool.true_and]
      by_cases e : mk w k D i = true
      · rw [if_pos e, if_pos e]
        by_cases z : c = 0
        · rw [if_pos z, if_pos z]; rfl
        · rw [if_neg z, if_neg z]
          have : nI c + m1 = nI (c - 1) := e_pred (by omega)
          try rw [this]
          exact ih _ _ _ _ _ _ (L + 1 - (i + 1)) _ (by omega) ⟨rfl, rfl, rfl, rfl, c - 1, i + 1, rfl, rfl, by omega, by omega, by omega, rfl, rfl⟩
      · rw [if_neg e, if_neg e]
        exact ih _ _ _ _ _ _ (L + 1 - (i + 1)) _ (by omega) ⟨rfl, rfl, rfl, rfl, c, i + 1, rfl, rfl, hc, by omega, by omega, rfl, rfl⟩
end
