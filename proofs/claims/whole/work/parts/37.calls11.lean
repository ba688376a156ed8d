/-! ===== PURE: leastWheel, gaps, sums, leastOf ===== -/
theorem fx8 {α β γ δ ε ζ η θ R : Type} {bot : α → β → γ → δ → ε → ζ → η → θ → R} {B : (α → β → γ → δ → ε → ζ → η → θ → R) → α → β → γ → δ → ε → ζ → η → θ → R} {Q : α → β → γ → δ → ε → ζ → η → θ → Nat → R → Prop}
    (H : ∀ K x y z u v t s q m r, (∀ x' y' z' u' v' t' s' q' m' r', m' < m → Q x' y' z' u' v' t' s' q' m' r' → K x' y' z' u' v' t' s' q' = r') → Q x y z u v t s q m r → B K x y z u v t s q = r) :
    ∀ n x y z u v t s q m r, Q x y z u v t s q m r → m < n → fx bot B n x y z u v t s q = r
  | 0, _, _, _, _, _, _, _, _, _, _, _, h => absurd h (Nat.not_lt_zero _)
  | n + 1, x, y, z, u, v, t, s, q, m, r, hq, h => H _ x y z u v t s q m r (fun x' y' z' u' v' t' s' q' m' r' h1 h2 => fx8 H n x' y' z' u' v' t' s' q' m' r' h2 (by omega)) hq
section
variable {w ns k : Nat} {R D : Nat → Nat} {P : PlanT} {row : Nat → Int32} {S : SieveT} {L : Nat}
theorem WF.wheel (h : WF w ns R k D) {v : Nat} (hv : v ≤ 4) : WF v ns R k D := ⟨hv, h.2⟩
theorem RX.wheel (h : RX w ns R k D row) (v : Nat) : RX v ns R k D (upd row 0 (nI v)) := by
  obtain ⟨h1, h2, h3, h4, h5⟩ := h
  refine ⟨pk_us, ?_, fun i hi => ?_, ?_, fun i hi => ?_⟩
  · rw [pk_un (by decide)]; exact h2
  · rw [pk_un (by omega)]; exact h3 i hi
  · rw [pk_un (by decide)]; exact h4
  · rw [pk_un (by omega)]; exact h5 i hi
theorem PX.wheel (h : PX w ns R k D P) (v : Nat) : PX v ns R k D (nI v, P.2) := ⟨rfl, h.2⟩
theorem upd_row {a b : Int32} (h : row 0 = b) : upd (upd row 0 a) 0 b = row := by
  funext n
  by_cases e : n = 0
  · rw [e, pk_us, h]
  · rw [pk_un e, pk_un e]
/-- no striker is missing on wheel v -/
def nm0 (ns : Nat) (R : Nat → Nat) (k : Nat) (D : Nat → Nat) (T v : Nat) : Bool := (fi (ms v k D) 2 (T - 2)).isNone
theorem L_leastWheel (hw : WF w ns R k D) (hP : PX w ns R k D P) {T : Nat} (h2 : 2 ≤ T) (h70 : T ≤ 70) (hT : 1 + sm R ns < T * T) (hi : ∀ i, i < T → i * i ≤ 1 + sm R ns) :
    F_X10_leastWheel P = some (oI (fi (nm0 ns R k D T) 0 5)) := by
  refine lp_fi (p := nm0 ns R k D T) oI 0 5 (by omega) (by omega) (fun K v _ hv => ?_)
  unfold B_X10_leastWheel_2
  by_cases q : 4 < v
  · simp (disch := omega) only [↓m1_d, ↓m2_d, e_m2, e_m2', e_m12, e_m21, liN, e_le, e_lt, e_eqm, e_eq, e_m1, e_m1', e_m1l, e_m1e, e_m1g, e_m1h, e_add, e_mul, e_sub, e_pred, e_rem, ix_nI, nz_nI, nI_clamp, nm_e1, Nat.add_zero, if_true, if_false, Nat.reduceEqDiff, eq_self, reduceIte]
    rw [if_pos q, if_pos (by omega)]
    rfl
  · have e : F_X3_smallestMissing (nI v) P = F_X3_smallestMissing (nI v) (nI v, P.2) := rfl
    simp (disch := omega) only [↓m1_d, ↓m2_d, e_m2, e_m2', e_m12, e_m21, liN, e_le, e_lt, e_eqm, e_eq, e_m1, e_m1', e_m1l, e_m1e, e_m1g, e_m1h, e_add, e_mul, e_sub, e_pred, e_rem, ix_nI, nz_nI, nI_clamp, nm_e1, Nat.add_zero, if_true, if_false, Nat.reduceEqDiff, eq_self, reduceIte]
    rw [if_neg q, if_neg (show ¬ 5 ≤ v by omega), e, L_smallestMissing (hw.wheel (by omega)) (hP.wheel v) h2 h70 hT hi, Option.bind_some]
    unfold nm0
    cases hf : fi (ms v k D) 2 (T - 2) with
    | none => rfl
    | some j =>
      obtain ⟨j1, j2, -, -⟩ := fi_some hf
      show (if nI j = m1 then _ else _) = _
      rw [if_neg (show ¬ nI j = m1 from m1_ne (by omega))]
      rfl
theorem Q_leastWheel (h : CX w ns R k D P row S) (e0 : Int32) (o t : Nat → Int32) (th : Int32) :
    ∃ v e' o' th' t', F_X10_leastWheel P = some v ∧ F_X11_leastWheel e0 o row th t = some (v, (e', o', row, th', t')) := by
  obtain ⟨hw, hP, hR, hS⟩ := h
  have hL := hw.last
  obtain ⟨T, T2, T70, hT, hi⟩ := sq_top (1 + sm R ns) (by omega) hL
  rw [L_leastWheel hw hP T2 T70 hT hi]
  unfold F_X11_leastWheel
  rw [nm_e1, hR.1]
  -- the loop: x2 the answer so far, x3 the wheel tried next
  have key : ∀ n v (a : Option Nat) e o r t, 6 - v < n → v ≤ 5 → (r 0 = r 0 ∧ ∀ z, upd r 0 z = upd row 0 z) → (a = none ∧ fi (nm0 ns R k D T) 0 5 = fi (nm0 ns R k D T) v (5 - v) ∨ a = fi (nm0 ns R k D T) 0 5 ∧ ∃ j, a = some j ∧ j < 5) →
      ∃ e' o' t', fx (fun _ _ _ _ _ _ _ _ => none) B_X11_leastWheel_16 n (nI w) (oI a) (nI v) e o r 0 t = some (oI (fi (nm0 ns R k D T) 0 5), (e', o', row, 0, t')) := by
    intro n
    induction n with
    | zero => intro v a e o r t h; exact absurd h (by omega)
    | succ n ih =>
      intro v a e o r t hn hv hr ha
      rw [fx_s]
      generalize fx (fun _ _ _ _ _ _ _ _ => none) B_X11_leastWheel_16 n = K at ih ⊢
      unfold B_X11_leastWheel_16
      have back : upd r 0 (nI w) = row := by
        rw [hr.2, ← upd_row (row := row) (a := 0) hR.1]
        funext i
        by_cases e : i = 0
        · rw [e, pk_us, pk_us]
        · rw [pk_un e, pk_un e, pk_un e]
      rcases ha with ⟨rfl, ha⟩ | ⟨ha, j, hj, j5⟩
      · by_cases q : 4 < v
        · simp (disch := omega) only [↓m1_d, ↓m2_d, e_m2, e_m2', e_m12, e_m21, liN, e_le, e_lt, e_eqm, e_eq, e_m1, e_m1', e_m1l, e_m1e, e_m1g, e_m1h, e_add, e_mul, e_sub, e_pred, e_rem, ix_nI, nz_nI, nI_clamp, nm_e1, Nat.add_zero, if_true, if_false, Nat.reduceEqDiff, eq_self, reduceIte]
          rw [if_pos q, back, ha, show 5 - v = 0 by omega]
          exact ⟨e, o, t, rfl⟩
        · simp (disch := omega) only [↓m1_d, ↓m2_d, e_m2, e_m2', e_m12, e_m21, liN, e_le, e_lt, e_eqm, e_eq, e_m1, e_m1', e_m1l, e_m1e, e_m1g, e_m1h, e_add, e_mul, e_sub, e_pred, e_rem, ix_nI, nz_nI, nI_clamp, nm_e1, Nat.add_zero, if_true, if_false, Nat.reduceEqDiff, eq_self, reduceIte]
          rw [if_neg q, if_pos (show oI none = m1 from rfl), hr.2]
          obtain ⟨o', t', hm, hRS⟩ := M_strike (hw.wheel (by omega : v ≤ 4)) (hR.wheel v) e o t
          rw [hm, Option.bind_some, M_missingFrom (hw.wheel (by omega)) (hR.wheel v) hL hRS T70 hT hi (Nat.le_refl _) T2, Option.bind_some]
          have hs : 5 - v = (5 - (v + 1)) + 1 := by omega
          rw [hs, fi_s _ v] at ha
          have er : upd row 0 (nI v) 0 = upd row 0 (nI v) 0 ∧ ∀ z, upd (upd row 0 (nI v)) 0 z = upd row 0 z := ⟨rfl, fun z => by
            funext i
            by_cases e : i = 0
            · rw [e, pk_us, pk_us]
            · rw [pk_un e, pk_un e, pk_un e]⟩
          have ez : nm0 ns R k D T v = (fi (ms v k D) 2 (T - 2)).isNone := rfl
          cases hf : fi (ms v k D) 2 (T - 2) with
          | none =>
            rw [hf] at ez
            rw [ez, if_pos (show (none : Option Nat).isNone = true from rfl)] at ha
            rw [if_pos (show oI none = m1 from rfl)]
            exact ih (v + 1) (some v) _ _ _ _ (by omega) (by omega) er (Or.inr ⟨ha.symm, v, rfl, by omega⟩)
          | some j =>
            obtain ⟨j1, j2, -, -⟩ := fi_some hf
            rw [hf] at ez
            rw [ez, if_neg (show ¬ (some j : Option Nat).isNone = true by simp)] at ha
            rw [if_neg (show ¬ oI (some j) = m1 from m1_ne (k := j) (by omega))]
            exact ih (v + 1) none _ _ _ _ (by omega) (by omega) er (Or.inl ⟨rfl, ha⟩)
      · subst hj
        have nz : ¬ oI (some j) = m1 := m1_ne (k := j) (by omega)
        refine ⟨e, o, t, ?_⟩
        simp (disch := omega) only [↓m1_d, ↓m2_d, e_m2, e_m2', e_m12, e_m21, liN, e_le, e_lt, e_eqm, e_eq, e_m1, e_m1', e_m1l, e_m1e, e_m1g, e_m1h, e_add, e_mul, e_sub, e_pred, e_rem, ix_nI, nz_nI, nI_clamp, nm_e1, Nat.add_zero, if_true, if_false, Nat.reduceEqDiff, eq_self, reduceIte]
        rw [if_neg nz, back, ← ha]
        split <;> rfl
  obtain ⟨e', o', t', hk⟩ := key FUEL 0 none e0 o row t (by unfold FUEL; omega) (by omega) ⟨rfl, fun _ => rfl⟩ (Or.inl ⟨rfl, rfl⟩)
  exact ⟨_, e', o', 0, t', rfl, hk⟩
/-! sums -/
theorem sub_big {x : Int32} (hx : x < 0) {i : Nat} (hi : i ≤ 5000) (hL : L ≤ 4801) : isMI w k D L (x - nI i) = false := by
  rcases i_cases (x - nI i) with h | ⟨n, hn, e⟩
  · exact isMI_neg h
  · rw [e, isMI_nI hn]
    refine isM_hi ?_
    have h1 : x = nI (n + i) := by
      rw [← e_add, ← e, Int32.sub_add_cancel]
    refine Nat.lt_of_not_le fun c => ?_
    rw [h1] at hx
    exact nI_pos (by omega) hx
/-- the sums' first parts -/
def su (w k : Nat) (D : Nat → Nat) (L n i : Nat) : Bool := isM w k D L i && isM w k D L (n - i)
def sN (L n : Nat) : Nat := max 2 (min (L + 1) (n / 2 + 1))
theorem L_nextPart (hw : WF w ns R k D) (hP : PX w ns R k D P) (hv : SV w k D (1 + sm R ns) S) (hcur : F_X10_current P S = some S) {n c : Nat} (hn : n < 2 ^ 31) (hc : c + 1 ≤ sN (1 + sm R ns) n ∨ c + 1 ≤ 2) :
    F_X10_nextPart (nI n) (nI c) P S = some (oI (fi (su w k D (1 + sm R ns) n) (max 2 (c + 1)) (sN (1 + sm R ns) n - max 2 (c + 1))), S) := by
  have hL := hw.last
  unfold F_X10_nextPart
  rw [hcur, Option.bind_some]
  have hsN : sN (1 + sm R ns) n ≤ 4802 := by unfold sN; omega
  generalize hLL : 1 + sm R ns = L at *
  have ex : (if (2 : Int32) < nI c + 1 then nI c + 1 else 2) = nI (max 2 (c + 1)) := by
    simp (disch := omega) only [↓m1_d, ↓m2_d, e_m2, e_m2', e_m12, e_m21, liN, e_le, e_lt, e_eqm, e_eq, e_m1, e_m1', e_m1l, e_m1e, e_m1g, e_m1h, e_add, e_mul, e_sub, e_pred, e_rem, ix_nI, nz_nI, nI_clamp, nm_e1, Nat.add_zero, if_true, if_false, Nat.reduceEqDiff, eq_self, reduceIte]
    by_cases q : 2 < c + 1
    · rw [if_pos q, show max 2 (c + 1) = c + 1 by omega]
    · rw [if_neg q, show max 2 (c + 1) = 2 by omega]
  rw [ex, nm_e1]
  refine lp_fi_t (p := su w k D L n) (fun v => (oI v, S)) (max 2 (c + 1)) (sN L n) (by omega) (by unfold sN at *; omega) (fun K i i1 i2 => ?_)
  unfold B_X10_nextPart_14 F_X7_lastNumber
  rw [hv.1, Option.bind_some]
  by_cases q : L < i
  · simp (disch := omega) only [↓m1_d, ↓m2_d, e_m2, e_m2', e_m12, e_m21, liN, e_le, e_lt, e_eqm, e_eq, e_m1, e_m1', e_m1l, e_m1e, e_m1g, e_m1h, e_add, e_mul, e_sub, e_pred, e_rem, ix_nI, nz_nI, nI_clamp, nm_e1, Nat.add_zero, if_true, if_false, Nat.reduceEqDiff, eq_self, reduceIte]
    rw [if_pos q, if_pos (by unfold sN; omega)]
    rfl
  · by_cases q2 : n < 2 * i
    · simp (disch := omega) only [↓m1_d, ↓m2_d, e_m2, e_m2', e_m12, e_m21, liN, e_le, e_lt, e_eqm, e_eq, e_m1, e_m1', e_m1l, e_m1e, e_m1g, e_m1h, e_add, e_mul, e_sub, e_pred, e_rem, ix_nI, nz_nI, nI_clamp, nm_e1, Nat.add_zero, if_true, if_false, Nat.reduceEqDiff, eq_self, reduceIte]
      rw [if_neg q, if_pos q2, if_pos (by unfold sN; omega)]
      rfl
    · simp (disch := omega) only [↓m1_d, ↓m2_d, e_m2, e_m2', e_m12, e_m21, liN, e_le, e_lt, e_eqm, e_eq, e_m1, e_m1', e_m1l, e_m1e, e_m1g, e_m1h, e_add, e_mul, e_sub, e_pred, e_rem, ix_nI, nz_nI, nI_clamp, nm_e1, Nat.add_zero, if_true, if_false, Nat.reduceEqDiff, eq_self, reduceIte, Option.bind_some, L_isMark hw hL hv (by omega : i < 2 ^ 31), L_isMark hw hL hv (by omega : n - i < 2 ^ 31)]
      rw [if_neg q, if_neg q2, if_neg (show ¬ sN L n ≤ i by unfold sN; omega)]
      unfold su
      cases isM w k D L i <;> cases isM w k D L (n - i) <;> rfl
theorem M_sumFrom (hw : WF w ns R k D) (hR : RX w ns R k D row) (hL : L ≤ 4801) {o t : Nat → Int32} (hS : RS w k D L o t) {n a : Nat} (hn : n < 2 ^ 31) (h2 : 2 ≤ a) (ha : a ≤ sN L n) :
    F_X11_sumFrom (nI a) (nI n) (nI L) row t = some (oI (fi (su w k D L n) a (sN L n - a))) := by
  have hsN : sN L n ≤ 4802 := by unfold sN; omega
  refine lp_fi (p := su w k D L n) oI a (sN L n) (by omega) ha (fun K i i1 i2 => ?_)
  unfold B_X11_sumFrom_2
  by_cases q : L < i
  · simp (disch := omega) only [↓m1_d, ↓m2_d, e_m2, e_m2', e_m12, e_m21, liN, e_le, e_lt, e_eqm, e_eq, e_m1, e_m1', e_m1l, e_m1e, e_m1g, e_m1h, e_add, e_mul, e_sub, e_pred, e_rem, ix_nI, nz_nI, nI_clamp, nm_e1, Nat.add_zero, if_true, if_false, Nat.reduceEqDiff, eq_self, reduceIte]
    rw [if_pos q, if_pos (by unfold sN; omega)]
    rfl
  · rw [if_neg (nI_nlt (by omega) (by omega) : ¬ nI L < nI i)]
    by_cases q2 : n < 2 * i
    · rw [if_pos (show nI n - nI i < nI i from ?_), if_pos (by unfold sN; omega)]
      · rfl
      · by_cases z : i ≤ n
        · rw [e_sub z]
          exact nI_lt (by omega) (by omega)
        · -- negative
          have : nI n - nI i < 0 := by
            rcases i_cases (nI n - nI i) with h | ⟨m, hm, e⟩
            · exact h
            · have h1 : nI n = nI (m + i) := by rw [← e_add, ← e, Int32.sub_add_cancel]
              by_cases y : m + i < 2 ^ 31
              · rw [e_eq hn y] at h1
                omega
              · exfalso
                have h2 : n % 2 ^ 32 = (m + i) % 2 ^ 32 := congrArg (fun x : Int32 => x.toBitVec.toNat) h1
                omega
          exact neg_lt this (by omega)
    · simp (disch := omega) only [↓m1_d, ↓m2_d, e_m2, e_m2', e_m12, e_m21, liN, e_le, e_lt, e_eqm, e_eq, e_m1, e_m1', e_m1l, e_m1e, e_m1g, e_m1h, e_add, e_mul, e_sub, e_pred, e_rem, ix_nI, nz_nI, nI_clamp, nm_e1, Nat.add_zero, if_true, if_false, Nat.reduceEqDiff, eq_self, reduceIte, Option.bind_some, M_isMark hw hR hL hS (by omega : i < 2 ^ 31), M_isMark hw hR hL hS (by omega : n - i < 2 ^ 31)]
      rw [if_neg (show ¬ n - i < i by omega), if_neg (show ¬ sN L n ≤ i by unfold sN; omega)]
      unfold su
      cases isM w k D L i <;> cases isM w k D L (n - i) <;> rfl
end
