/-! ===== PURE: the reference strikes ===== -/
section
variable {w ns k : Nat} {R D : Nat → Nat} {P : PlanT} {row : Nat → Int32}
/-- a loop that sums -/
theorem lp_sm {β : Type} {bot : Int32 → Int32 → Option β} {B : (Int32 → Int32 → Option β) → Int32 → Int32 → Option β} (f : Nat → β) (c0 N : Nat) (S : Nat → Nat) (hN : N ≤ 900000)
    (H : ∀ K i, i ≤ N → B K (nI (c0 + sm S i)) (nI i) = if N ≤ i then some (f (c0 + sm S i)) else K (nI (c0 + sm S (i + 1))) (nI (i + 1))) :
    fx bot B FUEL (nI c0) (nI 0) = some (f (c0 + sm S N)) := by
  refine fx2 (Q := fun u v m r => ∃ i, u = nI (c0 + sm S i) ∧ v = nI i ∧ i ≤ N ∧ m = N - i ∧ r = some (f (c0 + sm S N))) ?_ FUEL _ _ N _ ⟨0, rfl, rfl, by omega, rfl, rfl⟩ (by unfold FUEL; omega)
  rintro K _ _ _ _ ih ⟨i, rfl, rfl, hi, rfl, rfl⟩
  rw [H K i hi]
  by_cases c : N ≤ i
  · rw [if_pos c, show i = N by omega]
  · rw [if_neg c]
    exact ih _ _ (N - (i + 1)) _ (by omega) ⟨i + 1, rfl, rfl, by omega, rfl, rfl⟩
theorem M_lastOf (hw : WF w ns R k D) (hR : RX w ns R k D row) {i : Nat} (hi : i ≤ ns) : F_X11_lastOf (nI i) row = some (nI (1 + sm R i)) := by
  have h12 := hw.2.1
  refine lp_sm (β := Int32) (f := nI) 1 i R (by omega) (fun K j hj => ?_)
  unfold B_X11_lastOf_4
  by_cases c : i ≤ j
  · simp (disch := omega) only [↓m1_d, ↓m2_d, e_m2, e_m2', e_m12, e_m21, liN, e_le, e_lt, e_eqm, e_eq, e_m1, e_m1', e_m1l, e_m1e, e_m1g, e_m1h, e_add, e_mul, e_sub, e_pred, e_rem, ix_nI, nz_nI, nI_clamp, nm_e1, Nat.add_zero, if_true, if_false, Nat.reduceEqDiff, eq_self, reduceIte]
    rw [if_pos c, if_pos c]
  · simp (disch := omega) only [↓m1_d, ↓m2_d, e_m2, e_m2', e_m12, e_m21, liN, e_le, e_lt, e_eqm, e_eq, e_m1, e_m1', e_m1l, e_m1e, e_m1g, e_m1h, e_add, e_mul, e_sub, e_pred, e_rem, ix_nI, nz_nI, nI_clamp, nm_e1, Nat.add_zero, if_true, if_false, Nat.reduceEqDiff, eq_self, reduceIte, hR.2.2.1 j (by omega)]
    rw [if_neg c, if_neg c]
    show K (nI (1 + sm R j + R j)) _ = K (nI (1 + (sm R j + R j))) _
    rw [Nat.add_assoc]
theorem M_last (hw : WF w ns R k D) (hR : RX w ns R k D row) : F_X11_last row = some (nI (1 + sm R ns)) := by
  unfold F_X11_last
  rw [hR.2.1, M_lastOf hw hR (Nat.le_refl _)]
  rfl
/-- the wheel prime that a number lies under -/
def wo (w n : Nat) : Option Nat := fi (fun j => decide (2 * wq j ≤ n) && decide (n % wq j = 0)) 0 w
def oq0 : Option Nat → Int32
  | none => nI 0
  | some j => nI (wq j)
theorem M_wheelPrimeOf (hw : WF w ns R k D) (hR : RX w ns R k D row) {n : Nat} (h0 : 1 ≤ n) (hn : n < 2 ^ 31) : F_X11_wheelPrimeOf (nI n) row = some (oq0 (wo w n)) := by
  have h4 := hw.1
  refine lp_fi oq0 0 w (by omega) (by omega) (fun K i _ hi => ?_)
  unfold B_X11_wheelPrimeOf_2
  rw [hR.1]
  by_cases c : w ≤ i
  · simp (disch := omega) only [↓m1_d, ↓m2_d, e_m2, e_m2', e_m12, e_m21, liN, e_le, e_lt, e_eqm, e_eq, e_m1, e_m1', e_m1l, e_m1e, e_m1g, e_m1h, e_add, e_mul, e_sub, e_pred, e_rem, ix_nI, nz_nI, nI_clamp, nm_e1, Nat.add_zero, if_true, if_false, Nat.reduceEqDiff, eq_self, reduceIte]
    rw [if_pos c, if_pos c]; rfl
  · have hq := wq_rng (k := i) (by omega)
    simp (disch := omega) only [↓m1_d, ↓m2_d, e_m2, e_m2', e_m12, e_m21, liN, e_le, e_lt, e_eqm, e_eq, e_m1, e_m1', e_m1l, e_m1e, e_m1g, e_m1h, e_add, e_mul, e_sub, e_pred, e_rem, ix_nI, nz_nI, nI_clamp, nm_e1, Nat.add_zero, if_true, if_false, Nat.reduceEqDiff, eq_self, reduceIte, p4_wq]
    rw [if_neg c, if_neg c]
    simp only [Bool.and_eq_true, decide_eq_true_eq]
    by_cases e : n % wq i = 0
    · rw [if_pos e]
      by_cases q : n = wq i
      · rw [if_pos q, if_neg (fun z => by omega)]
      · have : 2 * wq i ≤ n := by
          obtain ⟨t, ht⟩ := Nat.dvd_of_mod_eq_zero e
          match t, ht with
          | 0, ht => omega
          | 1, ht => omega
          | t + 2, ht =>
            rw [ht, Nat.mul_add]
            omega
        rw [if_neg q, if_pos ⟨this, e⟩]; rfl
    · rw [if_neg e, if_neg (fun z => e z.2)]
theorem off_wo {n : Nat} : off w n = (wo w n).isSome := rfl
theorem M_isOnSpoke (hw : WF w ns R k D) (hR : RX w ns R k D row) {n : Nat} (h0 : 1 ≤ n) (hn : n < 2 ^ 31) : F_X11_isOnSpoke (nI n) row = some (!off w n) := by
  unfold F_X11_isOnSpoke
  rw [M_wheelPrimeOf hw hR h0 hn, off_wo, Option.bind_some]
  cases h : wo w n with
  | none => rfl
  | some j =>
    obtain ⟨-, hj, -⟩ := fi_some h
    have h4 := hw.1
    have hq := wq_rng (k := j) (by omega)
    show (if nI (wq j) = 0 then _ else _) = _
    rw [if_neg (nI_ne0 (by omega) (by omega))]
    rfl
/-- the reference's rows after striking -/
def ow (w k : Nat) (D : Nat → Nat) (n : Nat) : Int32 := if off w n = true then m1 else oI (fh k D n)
def ht (w k : Nat) (D : Nat → Nat) (n : Nat) : Nat := if off w n = true then 0 else cn (fun j => hit n (D j)) 0 k
def RS (w k : Nat) (D : Nat → Nat) (L : Nat) (o t : Nat → Int32) : Prop :=
  ∀ n, n ≤ L → o n = ow w k D n ∧ t n = nI (ht w k D n)
theorem fi_s (p : Nat → Bool) (a k : Nat) : fi p a (k + 1) = if p a = true then some a else fi p (a + 1) k := rfl
theorem cn_s (p : Nat → Bool) (a k : Nat) : cn p a (k + 1) = (if p a = true then 1 else 0) + cn p (a + 1) k := rfl
/-- half struck: strikers from j on, and of the one before it the numbers below a -/
def H1 (w : Nat) (D : Nat → Nat) (k j n : Nat) : Int32 := if off w n = true then m1 else oI (fi (fun i => hit n (D i)) j (k - j))
def H2 (w : Nat) (D : Nat → Nat) (k j n : Nat) : Nat := if off w n = true then 0 else cn (fun i => hit n (D i)) j (k - j)
theorem hit_small {n d : Nat} (h : n < d * d) : hit n d = false := by
  unfold hit
  rw [decide_eq_false (by omega : ¬ d * d ≤ n), Bool.false_and]
theorem H_step {j n : Nat} (hj : j < k) : H1 w D k j n = (if off w n = false ∧ hit n (D j) = true then nI j else H1 w D k (j + 1) n) ∧
    H2 w D k j n = (if off w n = false ∧ hit n (D j) = true then 1 + H2 w D k (j + 1) n else H2 w D k (j + 1) n) := by
  unfold H1 H2
  rw [show k - j = (k - (j + 1)) + 1 by omega]
  by_cases c : off w n = true
  · rw [if_pos c, if_pos c, if_pos c, if_pos c, if_neg (fun q => by rw [c] at q; cases q.1), if_neg (fun q => by rw [c] at q; cases q.1)]
    exact ⟨rfl, rfl⟩
  · have c' := Bool.eq_false_iff.mpr c
    rw [if_neg c, if_neg c, if_neg c, if_neg c]
    rw [fi_s, cn_s]
    by_cases h : hit n (D j) = true
    · rw [if_pos h, if_pos h, if_pos ⟨c', h⟩, if_pos ⟨c', h⟩]
      exact ⟨rfl, rfl⟩
    · rw [if_neg h, if_neg h, if_neg (fun q => h q.2), if_neg (fun q => h q.2), Nat.zero_add]
      exact ⟨rfl, rfl⟩
theorem M_strikeUpTo (hw : WF w ns R k D) (hR : RX w ns R k D row) {L : Nat} (hL : L ≤ 5250) (e0 : Int32) (o t : Nat → Int32) :
    ∃ o' t', F_X11_strikeUpTo (nI L) e0 o row t = some (nI L, o', t') ∧ RS w k D L o' t' := by
  obtain ⟨w4, -, -, k30, hD, -⟩ := id hw
  obtain ⟨-, -, -, r4, r5⟩ := id hR
  let Post : Option (Int32 × (Nat → Int32) × (Nat → Int32)) → Prop := fun r => ∃ o' t', r = some (nI L, o', t') ∧ RS w k D L o' t'
  unfold F_X11_strikeUpTo
  refine fx4E (Post := Post)
    (Q := fun x e o t m => ∃ i, x = nI i ∧ i ≤ L + 1 ∧ m = L + 1 - i ∧ e = nI L ∧ ∀ n, n < i → o n = m1 ∧ t n = nI 0)
    ?_ FUEL _ _ _ _ (L + 1) ⟨0, rfl, by omega, rfl, rfl, fun n h => absurd h (by omega)⟩ (by unfold FUEL; omega)
  clear o t e0
  rintro K _ _ o t m ih ⟨i, rfl, hi, rfl, rfl, h⟩
  unfold B_X11_strikeUpTo_7
  by_cases c : L < i
  · simp (disch := omega) only [↓m1_d, ↓m2_d, e_m2, e_m2', e_m12, e_m21, liN, e_le, e_lt, e_eqm, e_eq, e_m1, e_m1', e_m1l, e_m1e, e_m1g, e_m1h, e_add, e_mul, e_sub, e_pred, e_rem, ix_nI, nz_nI, nI_clamp, nm_e1, Nat.add_zero, if_true, if_false, Nat.reduceEqDiff, eq_self, reduceIte, r4]
    rw [if_pos c]
    -- strikers from the last on
    have start : ∀ (x : Int32) (j : Nat), (j ≤ k ∧ x = nI j - 1) → (∀ n, n ≤ L → o n = H1 w D k j n ∧ t n = nI (H2 w D k j n)) →
        Post (fx (fun _ _ _ _ => none) (B_X11_strikeUpTo_42 (nI L) row) FUEL x (nI L) o t) := by
      intro x j hx hh
      refine fx4E (Post := Post)
        (Q := fun x e o t m => ∃ j, j ≤ k ∧ x = nI j - 1 ∧ m = j ∧ e = nI L ∧ ∀ n, n ≤ L → o n = H1 w D k j n ∧ t n = nI (H2 w D k j n))
        ?_ FUEL _ _ _ _ j ⟨j, hx.1, hx.2, rfl, rfl, hh⟩ (by unfold FUEL; omega)
      clear ih h hx hh
      rintro K _ _ o t m ih ⟨j, hj, rfl, rfl, rfl, hh⟩
      unfold B_X11_strikeUpTo_42
      match m, hj, hh, ih with
      | 0, hj, hh, ih =>
        rw [if_pos (by decide : (nI 0 - 1 : Int32) < 0)]
        refine ⟨_, _, rfl, fun n hn => ?_⟩
        obtain ⟨a, b⟩ := hh n hn
        exact ⟨a, b⟩
      | j + 1, hj, hh, ih =>
        have hd := hD j (by omega)
        have hdd : D j * D j ≤ 120 * 120 := Nat.mul_le_mul hd.2 hd.2
        have hd2 : 2 * 2 ≤ D j * D j := Nat.mul_le_mul hd.1 hd.1
        rw [nI_pred]
        simp (disch := omega) only [↓m1_d, ↓m2_d, e_m2, e_m2', e_m12, e_m21, liN, e_le, e_lt, e_eqm, e_eq, e_m1, e_m1', e_m1l, e_m1e, e_m1g, e_m1h, e_add, e_mul, e_sub, e_pred, e_rem, ix_nI, nz_nI, nI_clamp, nm_e1, Nat.add_zero, if_true, if_false, Nat.reduceEqDiff, eq_self, reduceIte, r5 j (by omega)]
        rw [if_neg (by omega)]
        refine fx6E (Post := Post)
          (Q := fun x2 x3 x4 e o t m => x2 = nI j ∧ x3 = nI (D j) ∧ e = nI L ∧ ∃ a, x4 = nI a ∧ D j * D j ≤ a ∧ a % D j = 0 ∧ a ≤ 20000 ∧ m = L + 1 - a ∧
            (∀ n, n ≤ L → n < a → o n = H1 w D k j n ∧ t n = nI (H2 w D k j n)) ∧ (∀ n, n ≤ L → a ≤ n → o n = H1 w D k (j + 1) n ∧ t n = nI (H2 w D k (j + 1) n)))
          ?_ FUEL _ _ _ _ _ _ _ ⟨rfl, rfl, rfl, D j * D j, rfl, Nat.le_refl _, Nat.mul_mod_right _ _, by omega, rfl, ?_, fun n h1 _ => hh n h1⟩ (by unfold FUEL; omega)
        · rintro K2 _ _ _ _ o t m ih2 ⟨rfl, rfl, rfl, a, rfl, ha, hm, h2, rfl, h3, h4⟩
          unfold B_X11_strikeUpTo_61
          by_cases c : L < a
          · simp (disch := omega) only [↓m1_d, ↓m2_d, e_m2, e_m2', e_m12, e_m21, liN, e_le, e_lt, e_eqm, e_eq, e_m1, e_m1', e_m1l, e_m1e, e_m1g, e_m1h, e_add, e_mul, e_sub, e_pred, e_rem, ix_nI, nz_nI, nI_clamp, nm_e1, Nat.add_zero, if_true, if_false, Nat.reduceEqDiff, eq_self, reduceIte]
            rw [if_pos c]
            refine ih _ _ _ _ j (by omega) ⟨j, by omega, ?_, rfl, rfl, fun n hn => h3 n hn (by omega)⟩
            match j with
            | 0 => rfl
            | j + 1 => rw [e_pred (by omega), nI_pred]; rfl
          · have gap : ∀ n, a < n → n < a + D j → hit n (D j) = false := by
              intro n g1 g2
              unfold hit
              have : n % D j ≠ 0 := by
                have e : n = a + (n - a) := by omega
                rw [e, Nat.add_mod, hm, Nat.zero_add, Nat.mod_mod, Nat.mod_eq_of_lt (by omega)]
                omega
              rw [decide_eq_false this, Bool.and_false]
            have hita : hit a (D j) = true := by
              unfold hit
              rw [decide_eq_true ha, decide_eq_true hm]
              rfl
            have lo : ∀ n, n ≤ L → a < n → n < a + D j → (o n = H1 w D k j n ∧ t n = nI (H2 w D k j n)) := by
              intro n n1 n2 n3
              obtain ⟨s1, s2⟩ := H_step (w := w) (D := D) (n := n) (by omega : j < k)
              rw [if_neg (fun q => by rw [gap n n2 n3] at q; cases q.2)] at s1 s2
              rw [s1, s2]
              exact h4 n n1 (by omega)
            obtain ⟨s1, s2⟩ := H_step (w := w) (D := D) (n := a) (by omega : j < k)
            obtain ⟨t1, t2⟩ := h4 a (by omega) (Nat.le_refl _)
            have hm2 : (a + D j) % D j = 0 := by rw [Nat.add_mod_right]; exact hm
            simp (disch := omega) only [↓m1_d, ↓m2_d, e_m2, e_m2', e_m12, e_m21, liN, e_le, e_lt, e_eqm, e_eq, e_m1, e_m1', e_m1l, e_m1e, e_m1g, e_m1h, e_add, e_mul, e_sub, e_pred, e_rem, ix_nI, nz_nI, nI_clamp, nm_e1, Nat.add_zero, if_true, if_false, Nat.reduceEqDiff, eq_self, reduceIte, M_isOnSpoke hw hR (by omega : 1 ≤ a) (by omega : a < 2 ^ 31), Option.bind_some, t2]
            rw [if_neg c]
            by_cases q : off w a = true
            · rw [q]
              rw [if_neg (fun z => by rw [q] at z; cases z.1)] at s1 s2
              rw [if_neg (by decide)]
              refine ih2 _ _ _ _ _ _ (L + 1 - (a + D j)) (by omega) ⟨rfl, rfl, rfl, a + D j, rfl, by omega, hm2, by omega, rfl, fun n n1 n2 => ?_, fun n n1 n2 => h4 n n1 (by omega)⟩
              by_cases g : n < a
              · exact h3 n n1 g
              · by_cases g2 : n = a
                · subst g2; rw [s1, s2]; exact ⟨t1, t2⟩
                · exact lo n n1 (by omega) n2
            · have q' := Bool.eq_false_iff.mpr q
              rw [q']
              rw [if_pos ⟨q', hita⟩] at s1 s2
              rw [if_pos (by decide)]
              refine ih2 _ _ _ _ _ _ (L + 1 - (a + D j)) (by omega) ⟨rfl, rfl, rfl, a + D j, rfl, by omega, hm2, by omega, rfl, fun n n1 n2 => ?_, fun n n1 n2 => ?_⟩
              · by_cases g2 : n = a
                · subst g2
                  rw [pk_us, pk_us, s1, s2, Nat.add_comm]
                  exact ⟨rfl, rfl⟩
                · rw [pk_un g2, pk_un g2]
                  by_cases g : n < a
                  · exact h3 n n1 g
                  · exact lo n n1 (by omega) n2
              · rw [pk_un (by omega), pk_un (by omega)]
                exact h4 n n1 (by omega)
        · intro n n1 n2
          obtain ⟨s1, s2⟩ := H_step (w := w) (D := D) (n := n) (by omega : j < k)
          rw [if_neg (fun q => by rw [hit_small n2] at q; cases q.2)] at s1 s2
          rw [s1, s2]
          exact hh n n1
    refine start _ k ⟨Nat.le_refl _, rfl⟩ (fun n hn => ?_)
    obtain ⟨a, b⟩ := h n (by omega)
    rw [a, b]
    unfold H1 H2
    rw [show k - k = 0 by omega]
    exact ⟨by split <;> rfl, by split <;> rfl⟩
  · simp (disch := omega) only [↓m1_d, ↓m2_d, e_m2, e_m2', e_m12, e_m21, liN, e_le, e_lt, e_eqm, e_eq, e_m1, e_m1', e_m1l, e_m1e, e_m1g, e_m1h, e_add, e_mul, e_sub, e_pred, e_rem, ix_nI, nz_nI, nI_clamp, nm_e1, Nat.add_zero, if_true, if_false, Nat.reduceEqDiff, eq_self, reduceIte]
    rw [if_neg c]
    refine ih _ _ _ _ (L + 1 - (i + 1)) (by omega) ⟨i + 1, rfl, by omega, rfl, rfl, fun n h1 => ?_⟩
    by_cases e : n = i
    · rw [e, pk_us, pk_us]; exact ⟨rfl, rfl⟩
    · rw [pk_un e, pk_un e]; exact h n (by omega)
theorem M_strike (hw : WF w ns R k D) (hR : RX w ns R k D row) (e0 : Int32) (o t : Nat → Int32) :
    ∃ o' t', F_X11_strike e0 o row t = some (nI (1 + sm R ns), o', t') ∧ RS w k D (1 + sm R ns) o' t' := by
  obtain ⟨o', t', h1, h2⟩ := M_strikeUpTo hw hR (Nat.le_trans hw.last (by decide)) e0 o t
  refine ⟨o', t', ?_, h2⟩
  unfold F_X11_strike
  rw [M_last hw hR, Option.bind_some, h1]
  rfl
end
