/-! ===== PURE: the sieve is built ===== -/
theorem fx1E {α R : Type} {bot : α → R} {B : (α → R) → α → R} {Q : α → Nat → Prop} {Post : R → Prop}
    (H : ∀ K x m, (∀ x' m', m' < m → Q x' m' → Post (K x')) → Q x m → Post (B K x)) :
    ∀ n x m, Q x m → m < n → Post (fx bot B n x)
  | 0, _, _, _, h => absurd h (Nat.not_lt_zero _)
  | n + 1, x, m, hq, h => H _ x m (fun x' m' h1 h2 => fx1E H n x' m' h2 (by omega)) hq
theorem fx2E {α β R : Type} {bot : α → β → R} {B : (α → β → R) → α → β → R} {Q : α → β → Nat → Prop} {Post : R → Prop}
    (H : ∀ K x y m, (∀ x' y' m', m' < m → Q x' y' m' → Post (K x' y')) → Q x y m → Post (B K x y)) :
    ∀ n x y m, Q x y m → m < n → Post (fx bot B n x y)
  | 0, _, _, _, _, h => absurd h (Nat.not_lt_zero _)
  | n + 1, x, y, m, hq, h => H _ x y m (fun x' y' m' h1 h2 => fx2E H n x' y' m' h2 (by omega)) hq
theorem fx3E {α β γ R : Type} {bot : α → β → γ → R} {B : (α → β → γ → R) → α → β → γ → R} {Q : α → β → γ → Nat → Prop} {Post : R → Prop}
    (H : ∀ K x y z m, (∀ x' y' z' m', m' < m → Q x' y' z' m' → Post (K x' y' z')) → Q x y z m → Post (B K x y z)) :
    ∀ n x y z m, Q x y z m → m < n → Post (fx bot B n x y z)
  | 0, _, _, _, _, _, h => absurd h (Nat.not_lt_zero _)
  | n + 1, x, y, z, m, hq, h => H _ x y z m (fun x' y' z' m' h1 h2 => fx3E H n x' y' z' m' h2 (by omega)) hq
theorem fx4E {α β γ δ R : Type} {bot : α → β → γ → δ → R} {B : (α → β → γ → δ → R) → α → β → γ → δ → R} {Q : α → β → γ → δ → Nat → Prop} {Post : R → Prop}
    (H : ∀ K x y z u m, (∀ x' y' z' u' m', m' < m → Q x' y' z' u' m' → Post (K x' y' z' u')) → Q x y z u m → Post (B K x y z u)) :
    ∀ n x y z u m, Q x y z u m → m < n → Post (fx bot B n x y z u)
  | 0, _, _, _, _, _, _, h => absurd h (Nat.not_lt_zero _)
  | n + 1, x, y, z, u, m, hq, h => H _ x y z u m (fun x' y' z' u' m' h1 h2 => fx4E H n x' y' z' u' m' h2 (by omega)) hq
theorem fx6E {α β γ δ ε ζ R : Type} {bot : α → β → γ → δ → ε → ζ → R} {B : (α → β → γ → δ → ε → ζ → R) → α → β → γ → δ → ε → ζ → R} {Q : α → β → γ → δ → ε → ζ → Nat → Prop} {Post : R → Prop}
    (H : ∀ K x y z u v w m, (∀ x' y' z' u' v' w' m', m' < m → Q x' y' z' u' v' w' m' → Post (K x' y' z' u' v' w')) → Q x y z u v w m → Post (B K x y z u v w)) :
    ∀ n x y z u v w m, Q x y z u v w m → m < n → Post (fx bot B n x y z u v w)
  | 0, _, _, _, _, _, _, _, _, h => absurd h (Nat.not_lt_zero _)
  | n + 1, x, y, z, u, v, w, m, hq, h => H _ x y z u v w m (fun x' y' z' u' v' w' m' h1 h2 => fx6E H n x' y' z' u' v' w' m' h2 (by omega)) hq
section
variable {w ns k : Nat} {R D : Nat → Nat} {P : PlanT} {row : Nat → Int32}
theorem m1_ne0 : (m1 = nI 0) = False := eq_false (by decide)
theorem m1_ne0' : (nI 0 = m1) = False := eq_false (by decide)
theorem oz_m1 (h : WF w ns R k D) {n : Nat} : (oz w k D n = m1) = (off w n = true) := by
  unfold oz
  by_cases c : off w n = true
  · rw [if_pos c]; exact propext ⟨fun _ => c, fun _ => rfl⟩
  · rw [if_neg c]
    refine propext ⟨fun e => ?_, fun e => absurd e c⟩
    cases hf : fh k D n with
    | none => rw [hf] at e; exact absurd (show nI 0 = m1 from e) (by decide)
    | some j =>
      rw [hf] at e
      obtain ⟨-, hj, -⟩ := fi_some hf
      have := h.2.2.2.2.1 j (by omega)
      exact absurd e (m1_ne (by omega))
theorem oz_0 (h : WF w ns R k D) {n : Nat} : (oz w k D n = nI 0) = (mk w k D n = true) := by
  unfold oz mk
  by_cases c : off w n = true
  · rw [if_pos c, c]; exact propext ⟨fun e => absurd e (by decide), fun e => by simp at e⟩
  · rw [if_neg c, Bool.eq_false_iff.mpr c]
    cases hf : fh k D n with
    | none => exact propext ⟨fun _ => rfl, fun _ => rfl⟩
    | some j =>
      obtain ⟨-, hj, -⟩ := fi_some hf
      have := h.2.2.2.2.1 j (by omega)
      refine propext ⟨fun e => ?_, fun e => by simp at e⟩
      have e : nI (D j) = nI 0 := e
      rw [e_eq (by omega) (by decide)] at e
      omega
theorem cn_snoc (p : Nat → Bool) (a k : Nat) : cn p a (k + 1) = cn p a k + (if p (a + k) = true then 1 else 0) := by
  rw [cn_add]
  rfl
theorem L_countAll (h : WF w ns R k D) {L v : Nat} (hL : L ≤ 4801) {o ct : Nat → Int32} {u1 u2 bv : Int32} (ho : ∀ n, 2 ≤ n → n ≤ L → o n = oz w k D n) :
    ∃ S', F_X7_countAll (o, ct, nI L, u1, u2, bv) = some S' ∧ SV w k D L S' ∧ S'.2.2.2.2.2 = bv := by
  unfold F_X7_countAll
  refine fx2E (Post := fun r => ∃ S', r = some S' ∧ SV w k D L S' ∧ S'.2.2.2.2.2 = bv)
    (Q := fun x S m => ∃ i, x = nI i ∧ 2 ≤ i ∧ i ≤ 5000 ∧ (i ≤ L + 1 ∨ i = 2) ∧ m = L + 1 - i ∧ S.1 = o ∧ S.2.2.1 = nI L ∧ (∀ n, 2 ≤ n → n < i → S.2.1 n = nI (cn (mk w k D) 2 (n - 1))) ∧ S.2.2.2.1 = nI (cn (mk w k D) 2 (i - 2)) ∧ S.2.2.2.2.1 = nI (cn (fun n => !off w n) 2 (i - 2)) ∧ S.2.2.2.2.2 = bv)
    ?_ FUEL 2 _ (L + 1 - 2) ⟨2, rfl, by omega, by omega, Or.inr rfl, rfl, rfl, rfl, fun n h1 h2 => absurd h1 (by omega), rfl, rfl, rfl⟩ (by unfold FUEL; omega)
  rintro K _ ⟨o', ct, L', mcn, spn, bv'⟩ m ih ⟨i, rfl, h2, h5, hi, rfl, a1, a2, a3, a4, a5, a6⟩
  cases (show o' = o from a1)
  cases (show L' = nI L from a2)
  cases (show mcn = _ from a4)
  cases (show spn = _ from a5)
  cases (show bv' = bv from a6)
  have hc1 := cn_le (mk w k D) (i - 2) 2
  have hc2 := cn_le (fun n => !off w n) (i - 2) 2
  unfold B_X7_countAll_12
  by_cases c : L < i
  · simp (disch := omega) only [↓m1_d, ↓m2_d, e_m2, e_m2', e_m12, e_m21, liN, e_le, e_lt, e_eqm, e_eq, e_m1, e_m1', e_m1l, e_m1e, e_m1g, e_m1h, e_add, e_mul, e_sub, e_pred, e_rem, ix_nI, nz_nI, nI_clamp, nm_e1, Nat.add_zero, if_true, if_false, Nat.reduceEqDiff, eq_self, reduceIte]
    rw [if_pos c]
    refine ⟨_, rfl, ⟨rfl, fun n h1 h2 => ⟨ho n h1 h2, a3 n h1 (by omega)⟩, ?_, ?_⟩, rfl⟩
    · show nI (cn (mk w k D) 2 (i - 2)) = _
      rcases hi with hi | hi
      · rw [show i - 2 = L - 1 by omega]
      · rw [show i - 2 = 0 by omega, show L - 1 = 0 by omega]
    · show nI (cn (fun n => !off w n) 2 (i - 2)) = _
      rcases hi with hi | hi
      · rw [show i - 2 = L - 1 by omega]
      · rw [show i - 2 = 0 by omega, show L - 1 = 0 by omega]
  · have hoi := ho i h2 (by omega)
    have s1 := cn_snoc (mk w k D) 2 (i - 2)
    have s2 := cn_snoc (fun n => !off w n) 2 (i - 2)
    rw [show 2 + (i - 2) = i by omega] at s1 s2
    have step : ∀ (S : SieveT), S.1 = o → S.2.2.1 = nI L → S.2.1 = upd ct i (nI (cn (mk w k D) 2 (i - 2 + 1))) → S.2.2.2.1 = nI (cn (mk w k D) 2 (i - 2 + 1)) → S.2.2.2.2.1 = nI (cn (fun n => !off w n) 2 (i - 2 + 1)) → S.2.2.2.2.2 = bv →
        ∃ S', K (nI (i + 1)) S = some S' ∧ SV w k D L S' ∧ S'.2.2.2.2.2 = bv := by
      intro S b1 b2 b3 b4 b5 b6
      refine ih _ S (L + 1 - (i + 1)) (by omega) ⟨i + 1, rfl, by omega, by omega, Or.inl (by omega), rfl, b1, b2, ?_, ?_, ?_, b6⟩
      · intro n h1 h3
        rw [b3]
        by_cases e : n = i
        · rw [e, pk_us, show i - 2 + 1 = i - 1 by omega]
        · rw [pk_un e]; exact a3 n h1 (by omega)
      · rw [b4, show i + 1 - 2 = i - 2 + 1 by omega]
      · rw [b5, show i + 1 - 2 = i - 2 + 1 by omega]
    simp (disch := omega) only [↓m1_d, ↓m2_d, e_m2, e_m2', e_m12, e_m21, liN, e_le, e_lt, e_eqm, e_eq, e_m1, e_m1', e_m1l, e_m1e, e_m1g, e_m1h, e_add, e_mul, e_sub, e_pred, e_rem, ix_nI, nz_nI, nI_clamp, nm_e1, Nat.add_zero, if_true, if_false, Nat.reduceEqDiff, eq_self, reduceIte, hoi, oz_0 h, oz_m1 h]
    rw [if_neg c]
    by_cases q : mk w k D i = true
    · have q2 : ¬ off w i = true := by
        intro e
        unfold mk at q
        rw [e] at q
        simp at q
      rw [if_pos q, if_neg q2]
      rw [if_pos q] at s1
      rw [if_pos (by simpa using q2)] at s2
      refine step _ rfl rfl ?_ ?_ ?_ rfl
      · rw [s1]
      · rw [s1]
      · rw [s2]
    · rw [if_neg q]
      rw [if_neg q, Nat.add_zero] at s1
      by_cases q2 : off w i = true
      · rw [if_pos q2]
        rw [if_neg (by simpa using q2), Nat.add_zero] at s2
        refine step _ rfl rfl ?_ ?_ ?_ rfl
        · simp only [s1, Nat.add_zero]
        · simp only [s1, Nat.add_zero]
        · simp only [s2, Nat.add_zero]
      · rw [if_neg q2]
        rw [if_pos (by simpa using q2)] at s2
        refine step _ rfl rfl ?_ ?_ ?_ rfl
        · simp only [s1, Nat.add_zero]
        · simp only [s1, Nat.add_zero]
        · simp only [s2, Nat.add_zero]
/-! build -/
def E1 (j L : Nat) (f : Nat → Int32) : Prop := ∀ n, 2 ≤ n → n ≤ L → f n = if off j n = true then m1 else nI 0
def E2 (w j : Nat) (D : Nat → Nat) (L : Nat) (f : Nat → Int32) : Prop := ∀ n, 2 ≤ n → n ≤ L → f n = oz w j D n
theorem E1_next {j L : Nat} {f : Nat → Int32} (hj : j < 4) (h : E1 j L f) : E1 (j + 1) L (so f (2 * wq j) (wq j) m1 L) := by
  intro n h1 h2
  have hq := wq_rng hj
  rw [off_succ]
  unfold so
  have e : (n - 2 * wq j) % wq j = 0 ∧ 2 * wq j ≤ n ↔ 2 * wq j ≤ n ∧ n % wq j = 0 := by
    refine ⟨fun ⟨a, b⟩ => ⟨b, ?_⟩, fun ⟨a, b⟩ => ⟨?_, a⟩⟩
    · rw [show n = (n - 2 * wq j) + wq j * 2 by omega, Nat.add_mul_mod_self_left]; exact a
    · rw [show n = (n - 2 * wq j) + wq j * 2 by omega, Nat.add_mul_mod_self_left] at b; exact b
  rw [h n h1 h2]
  by_cases c : off j n = true
  · rw [if_pos c, c, Bool.true_or, if_pos rfl, if_neg (fun q => absurd q.2.2.2 (by decide))]
  · rw [if_neg c, Bool.eq_false_iff.mpr c, Bool.false_or]
    by_cases d : 2 * wq j ≤ n ∧ n % wq j = 0
    · rw [if_pos ⟨d.1, h2, (e.mpr d).1, rfl⟩, if_pos (by simp [d.1, d.2])]
    · rw [if_neg (fun q => d (e.mp ⟨q.2.2.1, q.1⟩)), if_neg (by simpa using fun a => fun b => d ⟨a, b⟩)]
theorem E2_next (hw : WF w ns R k D) {j L : Nat} {f : Nat → Int32} (hj : j < k) (h : E2 w j D L f) : E2 w (j + 1) D L (so f (D j * D j) (D j) (nI (D j)) L) := by
  intro n h1 h2
  have hd := hw.2.2.2.2.1 j hj
  have hoz : oz w j D n = 0 ↔ (off w n = false ∧ fh j D n = none) := by
    unfold oz
    by_cases c : off w n = true
    · rw [if_pos c, c]; exact ⟨fun q => absurd q (by decide), fun q => absurd q.1 (by decide)⟩
    · rw [if_neg c]
      cases hf : fh j D n with
      | none => exact ⟨fun _ => ⟨Bool.eq_false_iff.mpr c, rfl⟩, fun _ => rfl⟩
      | some i =>
        obtain ⟨-, hi, -⟩ := fi_some hf
        have := hw.2.2.2.2.1 i (by omega)
        refine ⟨fun q => absurd q (nI_ne0 (by omega) (by omega)), fun q => by cases q.2⟩
  have e : (n - D j * D j) % D j = 0 ∧ D j * D j ≤ n ↔ hit n (D j) = true := by
    unfold hit
    simp only [Bool.and_eq_true, decide_eq_true_eq]
    refine ⟨fun ⟨a, b⟩ => ⟨b, ?_⟩, fun ⟨a, b⟩ => ⟨?_, a⟩⟩
    · rw [show n = (n - D j * D j) + D j * D j by omega, Nat.add_mul_mod_self_left]; exact a
    · rw [show n = (n - D j * D j) + D j * D j by omega, Nat.add_mul_mod_self_left] at b; exact b
  unfold so
  rw [h n h1 h2]
  by_cases z : oz w j D n = 0
  · obtain ⟨z1, z2⟩ := hoz.mp z
    by_cases d : hit n (D j) = true
    · rw [if_pos ⟨(e.mpr d).2, h2, (e.mpr d).1, z⟩]
      unfold oz
      rw [if_neg (by rw [z1]; decide), fh_succ, z2]
      show _ = oD D (if hit n (D j) = true then some j else none)
      rw [if_pos d]
      rfl
    · rw [if_neg (fun q => d (e.mp ⟨q.2.2.1, q.1⟩)), z]
      unfold oz
      rw [if_neg (by rw [z1]; decide), fh_succ, z2]
      show _ = oD D (if hit n (D j) = true then some j else none)
      rw [if_neg d]
      rfl
  · rw [if_neg (fun q => z q.2.2.2)]
    unfold oz at z ⊢
    by_cases c : off w n = true
    · rw [if_pos c, if_pos c]
    · rw [if_neg c] at z ⊢
      rw [if_neg c, fh_succ]
      cases hf : fh j D n with
      | none => rw [hf] at z; exact absurd rfl z
      | some i => rfl
theorem L_build (hw : WF w ns R k D) (hP : PX w ns R k D P) (S : SieveT) :
    ∃ S', F_X7_build S P = some S' ∧ SV w k D (1 + sm R ns) S' ∧ S'.2.2.2.2.2 = P.2.2.2.2.2.2 := by
  obtain ⟨p1, p2, p3, p4, p5, p6⟩ := hP
  have hL := hw.last
  obtain ⟨w4, -, -, k30, hD, -⟩ := id hw
  generalize hLL : 1 + sm R ns = L at *
  obtain ⟨o, ct, L0, u1, u2, bv⟩ := S
  unfold F_X7_build F_X3_lastNumber
  rw [p4, Option.bind_some]
  simp (disch := omega) only [↓m1_d, ↓m2_d, e_m2, e_m2', e_m12, e_m21, liN, e_le, e_lt, e_eqm, e_eq, e_m1, e_m1', e_m1l, e_m1e, e_m1g, e_m1h, e_add, e_mul, e_sub, e_pred, e_rem, ix_nI, nz_nI, nI_clamp, nm_e1, Nat.add_zero, if_true, if_false, Nat.reduceEqDiff, eq_self, reduceIte]
  rw [if_neg (by omega)]
  -- clearing
  refine fx2E (Post := fun r => ∃ S', r = some S' ∧ SV w k D L S' ∧ S'.2.2.2.2.2 = P.2.2.2.2.2.2)
    (Q := fun x S m => ∃ i, x = nI i ∧ 2 ≤ i ∧ i ≤ 5000 ∧ m = L + 1 - i ∧ S.2.2.1 = nI L ∧ (∀ n, 2 ≤ n → n < i → S.1 n = nI 0))
    ?_ FUEL _ _ (L + 1 - 2) ⟨2, rfl, by omega, by omega, rfl, rfl, fun n h1 h2 => absurd h1 (by omega)⟩ (by unfold FUEL; omega)
  rintro K _ ⟨o, ct, L', u1, u2, bv'⟩ m ih ⟨i, rfl, h2, h5, rfl, a1, a2⟩
  cases (show L' = nI L from a1)
  unfold B_X7_build_16
  by_cases c : L < i
  · simp (disch := omega) only [↓m1_d, ↓m2_d, e_m2, e_m2', e_m12, e_m21, liN, e_le, e_lt, e_eqm, e_eq, e_m1, e_m1', e_m1l, e_m1e, e_m1g, e_m1h, e_add, e_mul, e_sub, e_pred, e_rem, ix_nI, nz_nI, nI_clamp, nm_e1, Nat.add_zero, if_true, if_false, Nat.reduceEqDiff, eq_self, reduceIte]
    rw [if_pos c]
    -- the wheel
    refine fx2E (Post := fun r => ∃ S', r = some S' ∧ SV w k D L S' ∧ S'.2.2.2.2.2 = P.2.2.2.2.2.2)
      (Q := fun x S m => ∃ j, x = nI j ∧ j ≤ w ∧ m = w - j ∧ S.2.2.1 = nI L ∧ E1 j L S.1)
      ?_ FUEL _ _ w ⟨0, rfl, by omega, by omega, rfl, fun n h1 h2 => by rw [show off 0 n = false from rfl]; exact a2 n h1 (by omega)⟩ (by unfold FUEL; omega)
    clear ih a2
    rintro K _ ⟨o, ct, L', u1, u2, bv'⟩ m ih ⟨j, rfl, hj, rfl, a1, a2⟩
    cases (show L' = nI L from a1)
    unfold B_X7_build_39 F_X3_wheelNow
    rw [p1, Option.bind_some]
    by_cases c : w ≤ j
    · simp (disch := omega) only [↓m1_d, ↓m2_d, e_m2, e_m2', e_m12, e_m21, liN, e_le, e_lt, e_eqm, e_eq, e_m1, e_m1', e_m1l, e_m1e, e_m1g, e_m1h, e_add, e_mul, e_sub, e_pred, e_rem, ix_nI, nz_nI, nI_clamp, nm_e1, Nat.add_zero, if_true, if_false, Nat.reduceEqDiff, eq_self, reduceIte]
      rw [if_pos c]
      have ej : j = w := by omega
      subst ej
      -- the strikers
      refine fx2E (Post := fun r => ∃ S', r = some S' ∧ SV j k D L S' ∧ S'.2.2.2.2.2 = P.2.2.2.2.2.2)
        (Q := fun x S m => ∃ i, x = nI i ∧ i ≤ k ∧ m = k - i ∧ S.2.2.1 = nI L ∧ E2 j i D L S.1)
        ?_ FUEL _ _ k ⟨0, rfl, by omega, by omega, rfl, fun n h1 h2 => by rw [a2 n h1 h2]; rfl⟩ (by unfold FUEL; omega)
      clear ih a2
      rintro K _ ⟨o, ct, L', u1, u2, bv'⟩ m ih ⟨i, rfl, hi, rfl, a1, a2⟩
      cases (show L' = nI L from a1)
      unfold B_X7_build_69 F_X3_strikerCount
      rw [p5, Option.bind_some]
      by_cases c : k ≤ i
      · simp (disch := omega) only [↓m1_d, ↓m2_d, e_m2, e_m2', e_m12, e_m21, liN, e_le, e_lt, e_eqm, e_eq, e_m1, e_m1', e_m1l, e_m1e, e_m1g, e_m1h, e_add, e_mul, e_sub, e_pred, e_rem, ix_nI, nz_nI, nI_clamp, nm_e1, Nat.add_zero, if_true, if_false, Nat.reduceEqDiff, eq_self, reduceIte]
        rw [if_pos c]
        have ei : i = k := by omega
        subst ei
        obtain ⟨S', hs, hv, -⟩ := L_countAll (v := 0) hw hL (ct := ct) (u1 := u1) (u2 := u2) (bv := bv') a2
        rw [hs]
        exact ⟨_, rfl, hv, rfl⟩
      · have hd := hD i (by omega)
        have hdd : D i * D i ≤ 120 * 120 := Nat.mul_le_mul hd.2 hd.2
        have hd2 : 2 * 2 ≤ D i * D i := Nat.mul_le_mul hd.1 hd.1
        unfold F_X3_dOf
        rw [p5]
        simp (disch := omega) only [↓m1_d, ↓m2_d, e_m2, e_m2', e_m12, e_m21, liN, e_le, e_lt, e_eqm, e_eq, e_m1, e_m1', e_m1l, e_m1e, e_m1g, e_m1h, e_add, e_mul, e_sub, e_pred, e_rem, ix_nI, nz_nI, nI_clamp, nm_e1, Nat.add_zero, if_true, if_false, Nat.reduceEqDiff, eq_self, reduceIte, p6 i (by omega)]
        rw [if_neg c, if_neg (by omega), if_neg (by omega), if_pos (by omega), Option.bind_some]
        simp (disch := omega) only [↓m1_d, ↓m2_d, e_m2, e_m2', e_m12, e_m21, liN, e_le, e_lt, e_eqm, e_eq, e_m1, e_m1', e_m1l, e_m1e, e_m1g, e_m1h, e_add, e_mul, e_sub, e_pred, e_rem, ix_nI, nz_nI, nI_clamp, nm_e1, Nat.add_zero, if_true, if_false, Nat.reduceEqDiff, eq_self, reduceIte]
        rw [L_strikeOut hL hd.1 hd.2 (nI (D i)) (t := (o, ct, nI L, u1, u2, bv')) rfl (by omega) (by omega), Option.bind_some]
        exact ih _ _ (k - (i + 1)) (by omega) ⟨i + 1, rfl, by omega, rfl, rfl, E2_next hw (by omega) a2⟩
    · have hq := wq_rng (k := j) (by omega)
      simp (disch := omega) only [↓m1_d, ↓m2_d, e_m2, e_m2', e_m12, e_m21, liN, e_le, e_lt, e_eqm, e_eq, e_m1, e_m1', e_m1l, e_m1e, e_m1g, e_m1h, e_add, e_mul, e_sub, e_pred, e_rem, ix_nI, nz_nI, nI_clamp, nm_e1, Nat.add_zero, if_true, if_false, Nat.reduceEqDiff, eq_self, reduceIte]
      rw [if_neg c, L_primeAt (by omega), Option.bind_some]
      simp (disch := omega) only [↓m1_d, ↓m2_d, e_m2, e_m2', e_m12, e_m21, liN, e_le, e_lt, e_eqm, e_eq, e_m1, e_m1', e_m1l, e_m1e, e_m1g, e_m1h, e_add, e_mul, e_sub, e_pred, e_rem, ix_nI, nz_nI, nI_clamp, nm_e1, Nat.add_zero, if_true, if_false, Nat.reduceEqDiff, eq_self, reduceIte]
      rw [L_strikeOut hL hq.1 (by omega) m1 (t := (o, ct, nI L, u1, u2, bv')) rfl (by omega) (by omega), Option.bind_some]
      exact ih _ _ (w - (j + 1)) (by omega) ⟨j + 1, rfl, by omega, rfl, rfl, E1_next (by omega) a2⟩
  · simp (disch := omega) only [↓m1_d, ↓m2_d, e_m2, e_m2', e_m12, e_m21, liN, e_le, e_lt, e_eqm, e_eq, e_m1, e_m1', e_m1l, e_m1e, e_m1g, e_m1h, e_add, e_mul, e_sub, e_pred, e_rem, ix_nI, nz_nI, nI_clamp, nm_e1, Nat.add_zero, if_true, if_false, Nat.reduceEqDiff, eq_self, reduceIte]
    rw [if_neg c]
    refine ih _ _ (L + 1 - (i + 1)) (by omega) ⟨i + 1, rfl, by omega, by omega, rfl, rfl, fun n h1 h3 => ?_⟩
    show upd o i (nI 0) n = nI 0
    by_cases e : n = i
    · rw [e, pk_us]
    · rw [pk_un e]; exact a2 n h1 (by omega)
end
