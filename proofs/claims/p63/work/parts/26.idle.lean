/-! ===== PURE: who struck first; size ===== -/
section
variable {w ns k : Nat} {R D : Nat → Nat} {P : PlanT} {row : Nat → Int32} {S : SieveT} {L : Nat}
/-- struck first by striker i -/
def own (w k : Nat) (D : Nat → Nat) (i n : Nat) : Bool := !off w n && decide (fh k D n = some i)
theorem own_oz (hw : WF w ns R k D) {i n : Nat} (hi : i < k) : (oz w k D n = nI (D i)) = (own w k D i n = true) := by
  have hd := hw.2.2.2.2.1 i hi
  unfold oz own
  cases off w n with
  | true => exact propext ⟨fun e => absurd (show m1 = nI (D i) from e) (fun e => m1_ne (by omega) e.symm), fun e => by simp at e⟩
  | false =>
    rw [if_neg (by decide)]
    cases hf : fh k D n with
    | none =>
      refine propext ⟨fun e => ?_, fun e => by simp at e⟩
      have e : nI 0 = nI (D i) := e
      rw [e_eq (by decide) (by omega)] at e
      omega
    | some j =>
      obtain ⟨-, hj, -⟩ := fi_some hf
      have hd2 := hw.2.2.2.2.1 j (by omega)
      refine propext ⟨fun e => ?_, fun e => ?_⟩
      · have e : nI (D j) = nI (D i) := e
        rw [e_eq (by omega) (by omega)] at e
        rw [hw.2.2.2.2.2 j i (by omega) hi e]
        simp
      · have : j = i := by simpa using e
        rw [this]; rfl
theorem own_ow (hw : WF w ns R k D) {i n : Nat} (hi : i < k) : (ow w k D n = nI i) = (own w k D i n = true) := by
  have h30 := hw.2.2.2.1
  unfold ow own
  cases off w n with
  | true => exact propext ⟨fun e => absurd (show m1 = nI i from e) (fun e => m1_ne (by omega) e.symm), fun e => by simp at e⟩
  | false =>
    rw [if_neg (by decide)]
    cases hf : fh k D n with
    | none => exact propext ⟨fun e => absurd (show m1 = nI i from e) (fun e => m1_ne (by omega) e.symm), fun e => by simp at e⟩
    | some j =>
      obtain ⟨-, hj, -⟩ := fi_some hf
      refine propext ⟨fun e => ?_, fun e => ?_⟩
      · have e : nI j = nI i := e
        rw [e_eq (by omega) (by omega)] at e
        rw [e]
        simp
      · have : j = i := by simpa using e
        rw [this]; rfl
theorem own_hit {i n : Nat} (h : own w k D i n = true) : D i * D i ≤ n ∧ n % D i = 0 := by
  unfold own at h
  simp only [Bool.and_eq_true, decide_eq_true_eq] at h
  obtain ⟨-, -, h3, -⟩ := fi_some h.2
  unfold hit at h3
  simpa using h3
/-- a scan over multiples of d -/
theorem lp_fis {β : Type} {p : Nat → Bool} {bot : Int32 → Option β} {B : (Int32 → Option β) → Int32 → Option β} (f : Option Nat → β) (d a L : Nat) (hd : 0 < d) (ha : a % d = 0) (hL : L ≤ 900000) (ha2 : a ≤ 900000)
    (H : ∀ K i, a ≤ i → i ≤ L + d + a → B K (nI i) = if L < i then some (f none) else if p i = true then some (f (some i)) else K (nI (i + d))) :
    fx bot B FUEL (nI a) = some (f (fi (fun n => decide (n % d = 0) && p n) a (L + 1 - a))) := by
  refine fx1 (Q := fun v m r => ∃ i, v = nI i ∧ a ≤ i ∧ i % d = 0 ∧ i ≤ L + d + a ∧ m = L + 1 - i ∧ r = some (f (fi (fun n => decide (n % d = 0) && p n) i (L + 1 - i)))) ?_ FUEL (nI a) (L + 1 - a) _ ⟨a, rfl, by omega, ha, by omega, rfl, rfl⟩ (by unfold FUEL; omega)
  rintro K _ _ _ ih ⟨i, rfl, h1, h2, h3, rfl, rfl⟩
  rw [H K i h1 h3]
  by_cases c : L < i
  · rw [if_pos c, show L + 1 - i = 0 by omega]; rfl
  · rw [if_neg c, fi_mul hd h2 (by omega)]
    by_cases e : p i = true
    · rw [if_pos e, if_pos e]
    · rw [if_neg e, if_neg e]
      exact ih _ (L + 1 - (i + d)) _ (by omega) ⟨i + d, rfl, by omega, by rw [Nat.add_mod_right]; exact h2, by omega, rfl, rfl⟩
theorem lp_cns {β : Type} {p : Nat → Bool} {bot : Int32 → Int32 → Option β} {B : (Int32 → Int32 → Option β) → Int32 → Int32 → Option β} (f : Nat → β) (d a L : Nat) (hd : 0 < d) (ha : a % d = 0) (hL : L ≤ 900000) (ha2 : a ≤ 900000)
    (H : ∀ K c i, a ≤ i → i ≤ L + d + a → B K (nI c) (nI i) = if L < i then some (f c) else if p i = true then K (nI (c + 1)) (nI (i + d)) else K (nI c) (nI (i + d))) :
    fx bot B FUEL (nI 0) (nI a) = some (f (cn (fun n => decide (n % d = 0) && p n) a (L + 1 - a))) := by
  refine fx2 (Q := fun u v m r => ∃ c i, u = nI c ∧ v = nI i ∧ a ≤ i ∧ i % d = 0 ∧ i ≤ L + d + a ∧ m = L + 1 - i ∧ r = some (f (c + cn (fun n => decide (n % d = 0) && p n) i (L + 1 - i)))) ?_ FUEL (nI 0) (nI a) (L + 1 - a) _ ⟨0, a, rfl, rfl, by omega, ha, by omega, rfl, by rw [Nat.zero_add]⟩ (by unfold FUEL; omega)
  rintro K _ _ _ _ ih ⟨c, i, rfl, rfl, h1, h2, h3, rfl, rfl⟩
  rw [H K c i h1 h3]
  by_cases q : L < i
  · rw [if_pos q, show L + 1 - i = 0 by omega]; rfl
  · rw [if_neg q, cn_mul hd h2 (by omega)]
    by_cases e : p i = true
    · rw [if_pos e, if_pos e, ← Nat.add_assoc]
      exact ih _ _ (L + 1 - (i + d)) _ (by omega) ⟨c + 1, i + d, rfl, rfl, by omega, by rw [Nat.add_mod_right]; exact h2, by omega, rfl, rfl⟩
    · rw [if_neg e, if_neg e, Nat.zero_add]
      exact ih _ _ (L + 1 - (i + d)) _ (by omega) ⟨c, i + d, rfl, rfl, by omega, by rw [Nat.add_mod_right]; exact h2, by omega, rfl, rfl⟩
/-- numbers below the first that counts do not matter -/
theorem cn_from {p : Nat → Bool} {a b L : Nat} (hab : a ≤ b) (h : ∀ n, n < b → p n = false) : cn p a (L + 1 - a) = cn p b (L + 1 - b) := by
  by_cases c : b ≤ L + 1
  · rw [show L + 1 - a = (b - a) + (L + 1 - b) by omega, cn_add, cn_zero (fun i h1 h2 => h i (by omega)), Nat.zero_add, show a + (b - a) = b by omega]
  · rw [cn_zero (fun i h1 h2 => h i (by omega)), show L + 1 - b = 0 by omega]
    rfl
theorem fi_from {p : Nat → Bool} {a b L : Nat} (hab : a ≤ b) (h : ∀ n, n < b → p n = false) : fi p a (L + 1 - a) = fi p b (L + 1 - b) := by
  by_cases c : b ≤ L + 1
  · rw [show L + 1 - a = (b - a) + (L + 1 - b) by omega, fi_add _ _ _ _ (fun i h1 h2 => h i (by omega)), show a + (b - a) = b by omega]
  · rw [fi_none.mpr (fun i h1 h2 => h i (by omega)), show L + 1 - b = 0 by omega]
    rfl
theorem own_lo {i n : Nat} (h : n < D i * D i) : own w k D i n = false := by
  rw [Bool.eq_false_iff]
  intro q
  have := (own_hit q).1
  omega
theorem own_and {i : Nat} : (fun n => decide (n % D i = 0) && own w k D i n) = own w k D i := by
  funext n
  cases h : own w k D i n with
  | true => rw [decide_eq_true (own_hit h).2]; rfl
  | false => rw [Bool.and_false]
theorem L_smallestOwned (hw : WF w ns R k D) (hL : L ≤ 4801) (hS : SV w k D L S) {i : Nat} (hi : i < k) : F_X7_smallestOwned (nI (D i)) S = some (oI (fi (own w k D i) 2 (L - 1))) := by
  have hd := hw.2.2.2.2.1 i hi
  have hdd : D i * D i ≤ 120 * 120 := Nat.mul_le_mul hd.2 hd.2
  have hd2 : 2 * 2 ≤ D i * D i := Nat.mul_le_mul hd.1 hd.1
  rw [show L - 1 = L + 1 - 2 by omega, fi_from (by omega : 2 ≤ D i * D i) (fun n h => own_lo h), ← own_and]
  unfold F_X7_smallestOwned
  simp (disch := omega) only [↓m1_d, ↓m2_d, e_m2, e_m2', e_m12, e_m21, liN, e_le, e_lt, e_eqm, e_eq, e_m1, e_m1', e_m1l, e_m1e, e_m1g, e_m1h, e_add, e_mul, e_sub, e_pred, e_rem, ix_nI, nz_nI, nI_clamp, nm_e1, Nat.add_zero, if_true, if_false, Nat.reduceEqDiff, eq_self, reduceIte]
  refine lp_fis oI (D i) (D i * D i) L (by omega) (Nat.mul_mod_right _ _) (by omega) (by omega) (fun K n h1 h2 => ?_)
  unfold B_X7_smallestOwned_4
  rw [hS.1]
  by_cases c : L < n
  · simp (disch := omega) only [↓m1_d, ↓m2_d, e_m2, e_m2', e_m12, e_m21, liN, e_le, e_lt, e_eqm, e_eq, e_m1, e_m1', e_m1l, e_m1e, e_m1g, e_m1h, e_add, e_mul, e_sub, e_pred, e_rem, ix_nI, nz_nI, nI_clamp, nm_e1, Nat.add_zero, if_true, if_false, Nat.reduceEqDiff, eq_self, reduceIte]
    rw [if_neg (by omega), if_pos c, if_pos c]; rfl
  · simp (disch := omega) only [↓m1_d, ↓m2_d, e_m2, e_m2', e_m12, e_m21, liN, e_le, e_lt, e_eqm, e_eq, e_m1, e_m1', e_m1l, e_m1e, e_m1g, e_m1h, e_add, e_mul, e_sub, e_pred, e_rem, ix_nI, nz_nI, nI_clamp, nm_e1, Nat.add_zero, if_true, if_false, Nat.reduceEqDiff, eq_self, reduceIte, (hS.2.1 n (by omega) (by omega)).1, own_oz hw hi]
    rw [if_neg (by omega), if_neg c, if_neg c]
    rfl
theorem L_countWithOwner (hw : WF w ns R k D) (hL : L ≤ 4801) (hS : SV w k D L S) {i : Nat} (hi : i < k) (v : Int32) (p : Nat → Bool) (hp : ∀ n, 2 ≤ n → (oz w k D n = v) = (p n = true)) :
    F_X7_countWithOwner (nI (D i)) v S = some (nI (cn (fun n => decide (n % D i = 0) && p n) (D i * D i) (L + 1 - D i * D i))) := by
  have hd := hw.2.2.2.2.1 i hi
  have hdd : D i * D i ≤ 120 * 120 := Nat.mul_le_mul hd.2 hd.2
  have hd2 : 2 * 2 ≤ D i * D i := Nat.mul_le_mul hd.1 hd.1
  unfold F_X7_countWithOwner
  simp (disch := omega) only [↓m1_d, ↓m2_d, e_m2, e_m2', e_m12, e_m21, liN, e_le, e_lt, e_eqm, e_eq, e_m1, e_m1', e_m1l, e_m1e, e_m1g, e_m1h, e_add, e_mul, e_sub, e_pred, e_rem, ix_nI, nz_nI, nI_clamp, nm_e1, Nat.add_zero, if_true, if_false, Nat.reduceEqDiff, eq_self, reduceIte]
  refine lp_cns nI (D i) (D i * D i) L (by omega) (Nat.mul_mod_right _ _) (by omega) (by omega) (fun K c n h1 h2 => ?_)
  unfold B_X7_countWithOwner_7
  rw [hS.1]
  by_cases q : L < n
  · simp (disch := omega) only [↓m1_d, ↓m2_d, e_m2, e_m2', e_m12, e_m21, liN, e_le, e_lt, e_eqm, e_eq, e_m1, e_m1', e_m1l, e_m1e, e_m1g, e_m1h, e_add, e_mul, e_sub, e_pred, e_rem, ix_nI, nz_nI, nI_clamp, nm_e1, Nat.add_zero, if_true, if_false, Nat.reduceEqDiff, eq_self, reduceIte]
    rw [if_neg (by omega), if_pos q, if_pos q]
  · simp (disch := omega) only [↓m1_d, ↓m2_d, e_m2, e_m2', e_m12, e_m21, liN, e_le, e_lt, e_eqm, e_eq, e_m1, e_m1', e_m1l, e_m1e, e_m1g, e_m1h, e_add, e_mul, e_sub, e_pred, e_rem, ix_nI, nz_nI, nI_clamp, nm_e1, Nat.add_zero, if_true, if_false, Nat.reduceEqDiff, eq_self, reduceIte, (hS.2.1 n (by omega) (by omega)).1, hp n (by omega)]
    rw [if_neg (by omega), if_neg q]
theorem L_countOwned (hw : WF w ns R k D) (hL : L ≤ 4801) (hS : SV w k D L S) {i : Nat} (hi : i < k) : F_X7_countOwned (nI (D i)) S = some (nI (cn (own w k D i) 2 (L - 1))) := by
  have hd := hw.2.2.2.2.1 i hi
  have hd2 : 2 * 2 ≤ D i * D i := Nat.mul_le_mul hd.1 hd.1
  unfold F_X7_countOwned
  rw [L_countWithOwner hw hL hS hi _ (own w k D i) (fun n _ => own_oz hw hi), own_and, show L - 1 = L + 1 - 2 by omega, cn_from (by omega : 2 ≤ D i * D i) (fun n h => own_lo h)]
  rfl
theorem L_countStrikes (hw : WF w ns R k D) (hL : L ≤ 4801) (hS : SV w k D L S) {i : Nat} (hi : i < k) : F_X7_countStrikes (nI (D i)) S = some (nI (cn (fun n => decide (n % D i = 0) && !off w n) (D i * D i) (L + 1 - D i * D i))) := by
  have hd := hw.2.2.2.2.1 i hi
  have hdd : D i * D i ≤ 120 * 120 := Nat.mul_le_mul hd.2 hd.2
  have hd2 : 2 * 2 ≤ D i * D i := Nat.mul_le_mul hd.1 hd.1
  unfold F_X7_countStrikes
  simp (disch := omega) only [↓m1_d, ↓m2_d, e_m2, e_m2', e_m12, e_m21, liN, e_le, e_lt, e_eqm, e_eq, e_m1, e_m1', e_m1l, e_m1e, e_m1g, e_m1h, e_add, e_mul, e_sub, e_pred, e_rem, ix_nI, nz_nI, nI_clamp, nm_e1, Nat.add_zero, if_true, if_false, Nat.reduceEqDiff, eq_self, reduceIte]
  refine lp_cns (p := fun n => !off w n) nI (D i) (D i * D i) L (by omega) (Nat.mul_mod_right _ _) (by omega) (by omega) (fun K c n h1 h2 => ?_)
  unfold B_X7_countStrikes_6
  rw [hS.1]
  by_cases q : L < n
  · simp (disch := omega) only [↓m1_d, ↓m2_d, e_m2, e_m2', e_m12, e_m21, liN, e_le, e_lt, e_eqm, e_eq, e_m1, e_m1', e_m1l, e_m1e, e_m1g, e_m1h, e_add, e_mul, e_sub, e_pred, e_rem, ix_nI, nz_nI, nI_clamp, nm_e1, Nat.add_zero, if_true, if_false, Nat.reduceEqDiff, eq_self, reduceIte]
    rw [if_neg (by omega), if_pos q, if_pos q]
  · simp (disch := omega) only [↓m1_d, ↓m2_d, e_m2, e_m2', e_m12, e_m21, liN, e_le, e_lt, e_eqm, e_eq, e_m1, e_m1', e_m1l, e_m1e, e_m1g, e_m1h, e_add, e_mul, e_sub, e_pred, e_rem, ix_nI, nz_nI, nI_clamp, nm_e1, Nat.add_zero, if_true, if_false, Nat.reduceEqDiff, eq_self, reduceIte, (hS.2.1 n (by omega) (by omega)).1, oz_m1 hw]
    rw [if_neg (by omega), if_neg q, if_neg q]
    cases off w n <;> rfl
/-- idle: strikes nothing first -/
def idl (w k : Nat) (D : Nat → Nat) (L i : Nat) : Bool := (fi (own w k D i) 2 (L - 1)).isNone
theorem L_countIdle (hw : WF w ns R k D) (hP : PX w ns R k D P) (hS : SOK w k D (1 + sm R ns) P S) :
    ∃ S', F_X10_countIdle P S = some (nI (cn (idl w k D (1 + sm R ns)) 0 k), S') ∧ SOK w k D (1 + sm R ns) P S' := by
  obtain ⟨S', h1, h2, h3⟩ := L_current hw hP hS
  have h30 := hw.2.2.2.1
  refine ⟨S', ?_, h3⟩
  unfold F_X10_countIdle
  rw [h1, Option.bind_some]
  refine lp_cn_t (p := idl w k D (1 + sm R ns)) (fun c => (nI c, S')) 0 k (by omega) (by omega) (fun K c i _ hi hc => ?_)
  unfold B_X10_countIdle_9 F_X3_strikerCount F_X3_dOf
  rw [hP.2.2.2.2.1, Option.bind_some]
  by_cases q : k ≤ i
  · simp (disch := omega) only [↓m1_d, ↓m2_d, e_m2, e_m2', e_m12, e_m21, liN, e_le, e_lt, e_eqm, e_eq, e_m1, e_m1', e_m1l, e_m1e, e_m1g, e_m1h, e_add, e_mul, e_sub, e_pred, e_rem, ix_nI, nz_nI, nI_clamp, nm_e1, Nat.add_zero, if_true, if_false, Nat.reduceEqDiff, eq_self, reduceIte]
    rw [if_pos q, if_pos q]
  · simp (disch := omega) only [↓m1_d, ↓m2_d, e_m2, e_m2', e_m12, e_m21, liN, e_le, e_lt, e_eqm, e_eq, e_m1, e_m1', e_m1l, e_m1e, e_m1g, e_m1h, e_add, e_mul, e_sub, e_pred, e_rem, ix_nI, nz_nI, nI_clamp, nm_e1, Nat.add_zero, if_true, if_false, Nat.reduceEqDiff, eq_self, reduceIte, hP.2.2.2.2.2 i (by omega)]
    rw [if_neg q, if_neg (by omega), if_neg (by omega), if_pos (by omega), if_neg q, Option.bind_some, L_smallestOwned hw hw.last h2 (by omega), Option.bind_some]
    unfold idl
    cases hf : fi (own w k D i) 2 (1 + sm R ns - 1) with
    | none => rfl
    | some n =>
      obtain ⟨-, hn, -⟩ := fi_some hf
      have := hw.last
      show (if nI n = m1 then _ else _) = _
      rw [if_neg (show ¬ nI n = m1 from m1_ne (by omega))]
      rfl
theorem cn_0 {p : Nat → Bool} {a n : Nat} : (cn p a n = 0) = ((fi p a n).isNone = true) := by
  refine propext ⟨fun h => ?_, fun h => cn_zero (fi_none.mp (by simpa using h))⟩
  cases hf : fi p a n with
  | none => rfl
  | some j =>
    obtain ⟨h1, h2, h3, -⟩ := fi_some hf
    rw [show n = (j - a) + ((n - (j - a) - 1) + 1) by omega, cn_add, cn_s, show a + (j - a) = j by omega, if_pos h3] at h
    omega
end
