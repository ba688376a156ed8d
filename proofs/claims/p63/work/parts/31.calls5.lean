/-! ===== PURE: spokeAt, spokeOf, mark, both, meet ===== -/
section
variable {w ns k : Nat} {R D : Nat → Nat} {P : PlanT} {row : Nat → Int32} {S : SieveT} {L : Nat}
/-- the c-th (from 0) of f numbers from i on -/
def nt (p : Nat → Bool) (c i f : Nat) : Option Nat := fi (fun n => decide (c < cn p i (n + 1 - i))) i f
theorem nt_0 {p : Nat → Bool} {c i : Nat} : nt p c i 0 = none := rfl
theorem nt_s {p : Nat → Bool} {c i f : Nat} : nt p c i (f + 1) = if p i = true then (if c = 0 then some i else nt p (c - 1) (i + 1) f) else nt p c (i + 1) f := by
  have sh : ∀ n, i + 1 ≤ n → cn p i (n + 1 - i) = (if p i = true then 1 else 0) + cn p (i + 1) (n + 1 - (i + 1)) := by
    intro n hn
    rw [show n + 1 - i = (n + 1 - (i + 1)) + 1 by omega, cn_s]
  unfold nt
  rw [fi_s, show i + 1 - i = 0 + 1 by omega, cn_s]
  show (if decide (c < _ + 0) = true then some i else _) = _
  by_cases e : p i = true
  · rw [if_pos e, if_pos e]
    by_cases z : c = 0
    · rw [if_pos z, if_pos (decide_eq_true (by omega))]
    · rw [if_neg z, if_neg (by simp; omega)]
      refine fi_cong (fun n h1 h2 => ?_)
      rw [sh n h1, if_pos e]
      exact decide_eq_decide.mpr (by omega)
  · rw [if_neg e, if_neg e, if_neg (by simp)]
    refine fi_cong (fun n h1 h2 => ?_)
    rw [sh n h1, if_neg e, Nat.zero_add]
theorem fx5 {α β γ δ ε R : Type} {bot : α → β → γ → δ → ε → R} {B : (α → β → γ → δ → ε → R) → α → β → γ → δ → ε → R} {Q : α → β → γ → δ → ε → Nat → R → Prop}
    (H : ∀ K x y z u v m r, (∀ x' y' z' u' v' m' r', m' < m → Q x' y' z' u' v' m' r' → K x' y' z' u' v' = r') → Q x y z u v m r → B K x y z u v = r) :
    ∀ n x y z u v m r, Q x y z u v m r → m < n → fx bot B n x y z u v = r
  | 0, _, _, _, _, _, _, _, _, h => absurd h (Nat.not_lt_zero _)
  | n + 1, x, y, z, u, v, m, r, hq, h => H _ x y z u v m r (fun x' y' z' u' v' m' r' h1 h2 => fx5 H n x' y' z' u' v' m' r' h2 (by omega)) hq
theorem fx6 {α β γ δ ε ζ R : Type} {bot : α → β → γ → δ → ε → ζ → R} {B : (α → β → γ → δ → ε → ζ → R) → α → β → γ → δ → ε → ζ → R} {Q : α → β → γ → δ → ε → ζ → Nat → R → Prop}
    (H : ∀ K x y z u v t m r, (∀ x' y' z' u' v' t' m' r', m' < m → Q x' y' z' u' v' t' m' r' → K x' y' z' u' v' t' = r') → Q x y z u v t m r → B K x y z u v t = r) :
    ∀ n x y z u v t m r, Q x y z u v t m r → m < n → fx bot B n x y z u v t = r
  | 0, _, _, _, _, _, _, _, _, _, h => absurd h (Nat.not_lt_zero _)
  | n + 1, x, y, z, u, v, t, m, r, hq, h => H _ x y z u v t m r (fun x' y' z' u' v' t' m' r' h1 h2 => fx6 H n x' y' z' u' v' t' m' r' h2 (by omega)) hq
theorem fx7 {α β γ δ ε ζ η R : Type} {bot : α → β → γ → δ → ε → ζ → η → R} {B : (α → β → γ → δ → ε → ζ → η → R) → α → β → γ → δ → ε → ζ → η → R} {Q : α → β → γ → δ → ε → ζ → η → Nat → R → Prop}
    (H : ∀ K x y z u v t s m r, (∀ x' y' z' u' v' t' s' m' r', m' < m → Q x' y' z' u' v' t' s' m' r' → K x' y' z' u' v' t' s' = r') → Q x y z u v t s m r → B K x y z u v t s = r) :
    ∀ n x y z u v t s m r, Q x y z u v t s m r → m < n → fx bot B n x y z u v t s = r
  | 0, _, _, _, _, _, _, _, _, _, _, h => absurd h (Nat.not_lt_zero _)
  | n + 1, x, y, z, u, v, t, s, m, r, hq, h => H _ x y z u v t s m r (fun x' y' z' u' v' t' s' m' r' h1 h2 => fx7 H n x' y' z' u' v' t' s' m' r' h2 (by omega)) hq
theorem m1_sub : nI 0 + m1 = m1 := by decide
/-! marks by number -/
theorem L_markAt (hw : WF w ns R k D) (hL : L ≤ 4801) (hL1 : 1 ≤ L) (hS : SV w k D L S) {c : Nat} (hc : c < 2 ^ 31) : F_X7_markAt (nI c) S = some (oI (nt (mk w k D) c 2 (L - 1))) := by
  unfold F_X7_markAt nt
  rw [show L - 1 = L + 1 - 2 by omega]
  refine lp_fi (p := fun n => decide (c < cn (mk w k D) 2 (n + 1 - 2))) oI 2 (L + 1) (by omega) (by omega) (fun K i h1 h2 => ?_)
  unfold B_X7_markAt_2
  rw [hS.1]
  by_cases q : L < i
  · simp (disch := omega) only [↓m1_d, ↓m2_d, e_m2, e_m2', e_m12, e_m21, liN, e_le, e_lt, e_eqm, e_eq, e_m1, e_m1', e_m1l, e_m1e, e_m1g, e_m1h, e_add, e_mul, e_sub, e_pred, e_rem, ix_nI, nz_nI, nI_clamp, nm_e1, Nat.add_zero, if_true, if_false, Nat.reduceEqDiff, eq_self, reduceIte]
    rw [if_pos q, if_pos (by omega)]
    rfl
  · have hl := cn_le (mk w k D) (i - 1) 2
    simp (disch := omega) only [↓m1_d, ↓m2_d, e_m2, e_m2', e_m12, e_m21, liN, e_le, e_lt, e_eqm, e_eq, e_m1, e_m1', e_m1l, e_m1e, e_m1g, e_m1h, e_add, e_mul, e_sub, e_pred, e_rem, ix_nI, nz_nI, nI_clamp, nm_e1, Nat.add_zero, if_true, if_false, Nat.reduceEqDiff, eq_self, reduceIte, (hS.2.1 i h1 (by omega)).2, decide_eq_true_eq]
    rw [if_neg q, if_neg (by omega), if_neg (show ¬ L + 1 ≤ i by omega), show i + 1 - 2 = i - 1 by omega]
    by_cases e : cn (mk w k D) 2 (i - 1) ≤ c
    · rw [if_pos e, if_neg (by omega)]
    · rw [if_neg e, if_pos (by omega)]
      rfl
end
