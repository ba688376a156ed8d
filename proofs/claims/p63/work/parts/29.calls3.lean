/-! ===== PURE: striker, find, at, cause, struck ===== -/
section
variable {w ns k : Nat} {R D : Nat → Nat} {P : PlanT} {row : Nat → Int32} {S : SieveT} {L : Nat}
/-- prime by trial -/
def ip (n : Nat) : Bool := decide (2 ≤ n) && (fi (fun t => decide (2 ≤ t ∧ t * t ≤ n ∧ n % t = 0)) 0 100).isNone
theorem ip_T {n T : Nat} (h2 : 2 ≤ T) (h70 : T ≤ 70) (hT : n < T * T) (hi : ∀ i, i < T → i * i ≤ n) : ip n = (decide (2 ≤ n) && (fi (fun t => decide (n % t = 0)) 2 (T - 2)).isNone) := by
  unfold ip
  congr 1
  cases hf : fi (fun t => decide (n % t = 0)) 2 (T - 2) with
  | none =>
    have : fi (fun t => decide (2 ≤ t ∧ t * t ≤ n ∧ n % t = 0)) 0 100 = none := by
      refine fi_none.mpr (fun i _ _ => decide_eq_false fun q => ?_)
      by_cases c : i < T
      · exact absurd q.2.2 (by simpa using fi_none.mp hf i q.1 (by omega))
      · have := Nat.mul_le_mul (by omega : T ≤ i) (by omega : T ≤ i)
        omega
    rw [this]
  | some j =>
    obtain ⟨a1, a2, a3, -⟩ := fi_some hf
    have := (fi_isSome (p := fun t => decide (2 ≤ t ∧ t * t ≤ n ∧ n % t = 0)) (a := 0) (k := 100)).mpr ⟨j, by omega, by omega, decide_eq_true ⟨a1, hi j (by omega), by simpa using a3⟩⟩
    cases hg : fi (fun t => decide (2 ≤ t ∧ t * t ≤ n ∧ n % t = 0)) 0 100 with
    | none => rw [hg] at this; cases this
    | some v => rfl
theorem L_isPrime {n : Nat} (h1 : 1 ≤ n) (hn : n ≤ 4801) : F_X9_isPrime (nI n) = some (ip n) := by
  obtain ⟨T, T2, T70, hT, hi⟩ := sq_top n h1 hn
  rw [ip_T T2 T70 hT hi]
  have key := lp_fi (p := fun t => decide (n % t = 0)) (β := Bool) (bot := fun _ => none) (B := B_X9_isPrime_2 (nI n)) (fun o => decide (2 ≤ n) && o.isNone) 2 T (by omega) T2 (fun K i h1 h3 => by
    have hii : i * i ≤ 70 * 70 := Nat.mul_le_mul (by omega) (by omega)
    unfold B_X9_isPrime_2
    by_cases c : T ≤ i
    · have e : i = T := by omega
      simp (disch := omega) only [↓m1_d, ↓m2_d, e_m2, e_m2', e_m12, e_m21, liN, e_le, e_lt, e_eqm, e_eq, e_m1, e_m1', e_m1l, e_m1e, e_m1g, e_m1h, e_add, e_mul, e_sub, e_pred, e_rem, ix_nI, nz_nI, nI_clamp, nm_e1, Nat.add_zero, if_true, if_false, Nat.reduceEqDiff, eq_self, reduceIte]
      rw [if_neg (by omega), if_pos (by rw [e]; exact hT), if_pos c]
      by_cases d : n < 2
      · rw [if_pos d, decide_eq_false (by omega)]; rfl
      · rw [if_neg d, decide_eq_true (by omega)]; rfl
    · have := hi i (by omega)
      simp (disch := omega) only [↓m1_d, ↓m2_d, e_m2, e_m2', e_m12, e_m21, liN, e_le, e_lt, e_eqm, e_eq, e_m1, e_m1', e_m1l, e_m1e, e_m1g, e_m1h, e_add, e_mul, e_sub, e_pred, e_rem, ix_nI, nz_nI, nI_clamp, nm_e1, Nat.add_zero, if_true, if_false, Nat.reduceEqDiff, eq_self, reduceIte, decide_eq_true_eq]
      rw [if_neg (by omega), if_neg (by omega), if_neg c]
      show _ = if n % i = 0 then some (decide (2 ≤ n) && false) else _
      rw [Bool.and_false])
  exact key
/-! the next strike -/
theorem wq_sub : ∀ w, w < 5 → ∀ i, i < w → wp w % wq i = 0 := by decide
theorem wq_ne : ∀ i, i < 4 → ∀ j, j < 4 → ¬ (2 * wq i ≤ wq j ∧ wq j % wq i = 0) := by decide
theorem L_isOnSpoke (h : w ≤ 4) {n : Nat} (h1 : 1 ≤ n) (hn : n < 2 ^ 31) : F_X9_isOnSpoke (nI n) (nI w) = some (!off w n) := by
  unfold F_X9_isOnSpoke
  rw [L_smallestPrimeOf h hn, Option.bind_some]
  cases hs : sp w n with
  | none =>
    have : off w n = false := by
      unfold off
      rw [Option.isSome_eq_false_iff, Option.isNone_iff_eq_none]
      refine fi_none.mpr (fun i a b => ?_)
      have := fi_none.mp hs i a b
      simp only [decide_eq_false_iff_not] at this
      rw [decide_eq_false this, Bool.and_false]
    rw [this]
    rfl
  | some j =>
    obtain ⟨-, hj, hd, hf⟩ := fi_some hs
    have hq := wq_rng (k := j) (by omega)
    show (if nI (wq j) = -1 then _ else if nI (wq j) = nI n then _ else _) = _
    rw [if_neg (m1_ne (by omega))]
    simp (disch := omega) only [↓m1_d, ↓m2_d, e_m2, e_m2', e_m12, e_m21, liN, e_le, e_lt, e_eqm, e_eq, e_m1, e_m1', e_m1l, e_m1e, e_m1g, e_m1h, e_add, e_mul, e_sub, e_pred, e_rem, ix_nI, nz_nI, nI_clamp, nm_e1, Nat.add_zero, if_true, if_false, Nat.reduceEqDiff, eq_self, reduceIte]
    by_cases e : wq j = n
    · rw [if_pos e]
      have : off w n = false := by
        unfold off
        rw [Option.isSome_eq_false_iff, Option.isNone_iff_eq_none]
        refine fi_none.mpr (fun i a b => ?_)
        have := wq_ne i (by omega) j (by omega)
        rw [e] at this
        simpa using this
      rw [this]
      rfl
    · rw [if_neg e]
      have : off w n = true := by
        unfold off
        refine fi_isSome.mpr ⟨j, by omega, by omega, ?_⟩
        have hd : n % wq j = 0 := by simpa using hd
        have : 2 * wq j ≤ n := by
          obtain ⟨t, ht⟩ := Nat.dvd_of_mod_eq_zero hd
          match t, ht with
          | 0, ht => omega
          | 1, ht => omega
          | t + 2, ht =>
            rw [ht, Nat.mul_add]
            omega
        rw [decide_eq_true this, decide_eq_true hd]
        rfl
      rw [this]
      rfl
theorem off_bad {d n : Nat} (h4 : w ≤ 4) (hd : fr w d = false) (hn : n % d = 0) (h2 : 2 * d ≤ n) (hd2 : 2 ≤ d) : off w n = true := by
  unfold fr at hd
  cases hs : sp w d with
  | none => rw [hs] at hd; cases hd
  | some j =>
    obtain ⟨-, hj, hq, -⟩ := fi_some hs
    have hq : d % wq j = 0 := by simpa using hq
    have hr := wq_rng (k := j) (by omega)
    unfold off
    refine fi_isSome.mpr ⟨j, by omega, by omega, ?_⟩
    have hle : wq j ≤ d := Nat.le_of_dvd (by omega) (Nat.dvd_of_mod_eq_zero hq)
    have hm : n % wq j = 0 := Nat.mod_eq_zero_of_dvd (Nat.dvd_trans (Nat.dvd_of_mod_eq_zero hq) (Nat.dvd_of_mod_eq_zero hn))
    rw [decide_eq_true (by omega), decide_eq_true hm]
    rfl
theorem off_good {d t : Nat} (h4 : w ≤ 4) (hd : fr w d = true) (ht : t % wp w = 1 % wp w) : off w (d * t) = false := by
  unfold fr at hd
  unfold off
  rw [Option.isSome_eq_false_iff, Option.isNone_iff_eq_none]
  refine fi_none.mpr (fun i _ hi => ?_)
  have h1 : sp w d = none := by simpa using hd
  have h2 := fi_none.mp h1 i (by omega) hi
  have h2 : ¬ d % wq i = 0 := by simpa using h2
  have hr := wq_rng (k := i) (by omega)
  have hdv := Nat.dvd_of_mod_eq_zero (wq_sub w (by omega) i (by omega))
  have e : t % wq i = 1 := by
    rw [← Nat.mod_mod_of_dvd t hdv, ht, Nat.mod_mod_of_dvd 1 hdv, Nat.mod_eq_of_lt (by omega)]
  have : ¬ (d * t) % wq i = 0 := by
    rw [Nat.mul_mod, e, Nat.mul_one, Nat.mod_mod]
    exact h2
  rw [decide_eq_false this, Bool.and_false]
/-- the first strike of d above L: none, or the least struck number there -/
def NX (w L d : Nat) (r : Option Nat) : Prop := match r with
  | none => fr w d = false
  | some v => fr w d = true ∧ L < v ∧ v ≤ 60000 ∧ d * d ≤ v ∧ v % d = 0 ∧ off w v = false ∧ ∀ n, L < n → d * d ≤ n → n % d = 0 → n < v → off w n = true
theorem L_strikeAbove (h4 : w ≤ 4) (hL : L ≤ 4801) {d : Nat} (h2 : 2 ≤ d) (h120 : d ≤ 120) : ∃ r, NX w L d r ∧ F_X9_strikeAbove (nI L) (nI d) (nI w) = some (oI r) := by
  have hdd : d * d ≤ 120 * 120 := Nat.mul_le_mul h120 h120
  have hd2 : 2 * d ≤ d * d := Nat.mul_le_mul_right d h2
  have hwp := wp_rng (k := w) (by omega)
  have hq1 : L / d * d ≤ L := Nat.div_mul_le_self L d
  have hq2 : L < (L / d + 1) * d := by
    rw [Nat.add_mul, Nat.one_mul]
    have := Nat.mod_lt L (by omega : 0 < d)
    have := Nat.div_add_mod L d
    rw [Nat.mul_comm] at this
    omega
  have hq3 : (L / d + 1) * d ≤ L + d := by rw [Nat.add_mul, Nat.one_mul]; omega
  -- the start
  obtain ⟨s, hs1, hs2, hs3, hs4, hs5⟩ : ∃ s, (if d * d < (L / d + 1) * d then (L / d + 1) * d else d * d) = s ∧ s % d = 0 ∧ d * d ≤ s ∧ L < s ∧ (∀ n, L < n → d * d ≤ n → n % d = 0 → s ≤ n) ∧ s ≤ 20000 := by
    by_cases c : d * d < (L / d + 1) * d
    · refine ⟨_, if_pos c, Nat.mul_mod_left _ _, by omega, hq2, fun n n1 n2 n3 => ?_, by omega⟩
      obtain ⟨t, ht⟩ := Nat.dvd_of_mod_eq_zero n3
      rw [Nat.mul_comm] at ht
      rw [ht]
      refine Nat.mul_le_mul_right d ?_
      refine Nat.lt_of_not_le fun q => ?_
      have := Nat.mul_le_mul_right d q
      omega
    · exact ⟨_, if_neg c, Nat.mul_mod_left _ _, Nat.le_refl _, by omega, fun n _ n2 _ => n2, by omega⟩
  have hs5' := hs5.2
  have hs5 := hs5.1
  have run : F_X9_strikeAbove (nI L) (nI d) (nI w) = some (oI ((fi (fun j => !off w (s + j * d)) 0 (wp w)).map (fun j => s + j * d))) := by
    unfold F_X9_strikeAbove
    have ed : nI L / nI d = nI (L / d) := by
      have : L / d ≤ L := Nat.div_le_self L d
      exact pk_div (by omega) (by omega) (by omega)
    rw [if_pos (show (2 : Int32) ≤ nI d from nI_le h2 (by omega)), nz_nI (by omega) (by omega), ed, nm_e1, L_product h4, Option.bind_some]
    simp (disch := omega) only [↓m1_d, ↓m2_d, e_m2, e_m2', e_m12, e_m21, liN, e_le, e_lt, e_eqm, e_eq, e_m1, e_m1', e_m1l, e_m1e, e_m1g, e_m1h, e_add, e_mul, e_sub, e_pred, e_rem, ix_nI, nz_nI, nI_clamp, nm_e1, Nat.add_zero, if_true, if_false, Nat.reduceEqDiff, eq_self, reduceIte]
    rw [show (if d * d < (L / d + 1) * d then nI ((L / d + 1) * d) else nI (d * d)) = nI s by rw [← hs1]; split <;> rfl]
    refine fx3 (Q := fun a b c m r => b = nI (wp w) ∧ ∃ j, a = nI (s + j * d) ∧ c = nI j ∧ j ≤ wp w ∧ m = wp w - j ∧ r = some (oI ((fi (fun j => !off w (s + j * d)) j (wp w - j)).map (fun j => s + j * d)))) ?_ FUEL _ _ (nI 0) (wp w) _ ⟨rfl, 0, by rw [Nat.zero_mul, Nat.add_zero], rfl, by omega, rfl, rfl⟩ (by unfold FUEL; omega)
    rintro K _ _ _ _ _ ih ⟨rfl, j, rfl, rfl, hj, rfl, rfl⟩
    have hjd : j * d ≤ 210 * 120 := Nat.mul_le_mul (by omega) h120
    unfold B_X9_strikeAbove_30
    by_cases c : wp w ≤ j
    · simp (disch := omega) only [↓m1_d, ↓m2_d, e_m2, e_m2', e_m12, e_m21, liN, e_le, e_lt, e_eqm, e_eq, e_m1, e_m1', e_m1l, e_m1e, e_m1g, e_m1h, e_add, e_mul, e_sub, e_pred, e_rem, ix_nI, nz_nI, nI_clamp, nm_e1, Nat.add_zero, if_true, if_false, Nat.reduceEqDiff, eq_self, reduceIte]
      rw [if_pos c, show wp w - j = 0 by omega]
      rfl
    · simp (disch := omega) only [↓m1_d, ↓m2_d, e_m2, e_m2', e_m12, e_m21, liN, e_le, e_lt, e_eqm, e_eq, e_m1, e_m1', e_m1l, e_m1e, e_m1g, e_m1h, e_add, e_mul, e_sub, e_pred, e_rem, ix_nI, nz_nI, nI_clamp, nm_e1, Nat.add_zero, if_true, if_false, Nat.reduceEqDiff, eq_self, reduceIte, L_isOnSpoke h4 (by omega : 1 ≤ s + j * d) (by omega : s + j * d < 2 ^ 31), Option.bind_some]
      rw [if_neg c, show wp w - j = (wp w - (j + 1)) + 1 by omega, fi_s]
      by_cases q : (!off w (s + j * d)) = true
      · rw [if_pos q, if_pos q]; rfl
      · rw [if_neg q, if_neg q]
        exact ih _ _ _ (wp w - (j + 1)) _ (by omega) ⟨rfl, j + 1, by rw [Nat.add_mul, Nat.one_mul, Nat.add_assoc], rfl, by omega, rfl, rfl⟩
  refine ⟨_, ?_, run⟩
  cases hf : fr w d with
  | false =>
    rw [fi_none.mpr (fun j _ hj => by
      have : off w (s + j * d) = true := off_bad h4 hf (by rw [Nat.add_mul_mod_self_right]; exact hs2) (by omega) h2
      rw [this]; rfl)]
    exact hf
  | true =>
    -- some turn of the wheel hits a spoke
    obtain ⟨t, ht⟩ := Nat.dvd_of_mod_eq_zero hs2
    have hex : ∃ j, 0 ≤ j ∧ j < 0 + wp w ∧ (fun j => !off w (s + j * d)) j = true := by
      refine ⟨(wp w - t % wp w + 1) % wp w, by omega, by rw [Nat.zero_add]; exact Nat.mod_lt _ (by omega), ?_⟩
      have e : s + (wp w - t % wp w + 1) % wp w * d = d * (t + (wp w - t % wp w + 1) % wp w) := by
        rw [ht, Nat.mul_add, Nat.mul_comm d ((wp w - t % wp w + 1) % wp w)]
      show (!off w (s + (wp w - t % wp w + 1) % wp w * d)) = true
      rw [e, off_good h4 hf]
      · rfl
      · have hl := Nat.mod_lt t (by omega : 0 < wp w)
        have : (t + (wp w - t % wp w + 1) % wp w) % wp w = (t % wp w + (wp w - t % wp w + 1)) % wp w := by rw [Nat.add_mod_mod, Nat.mod_add_mod]
        rw [this, show t % wp w + (wp w - t % wp w + 1) = 1 + wp w by omega, Nat.add_mod_right]
    have hsome := fi_isSome.mpr hex
    cases hg : fi (fun j => !off w (s + j * d)) 0 (wp w) with
    | none => rw [hg] at hsome; cases hsome
    | some j =>
      obtain ⟨-, j2, j3, j4⟩ := fi_some hg
      have hjd : j * d ≤ 210 * 120 := Nat.mul_le_mul (by omega) h120
      show fr w d = true ∧ L < s + j * d ∧ s + j * d ≤ 60000 ∧ d * d ≤ s + j * d ∧ (s + j * d) % d = 0 ∧ off w (s + j * d) = false ∧ ∀ n, L < n → d * d ≤ n → n % d = 0 → n < s + j * d → off w n = true
      refine ⟨hf, by omega, by omega, by omega, by rw [Nat.add_mul_mod_self_right]; exact hs2, by simpa using j3, fun n n1 n2 n3 n4 => ?_⟩
      have hsn := hs5 n n1 n2 n3
      have hdv : (n - s) % d = 0 := by
        obtain ⟨u, hu⟩ := Nat.dvd_of_mod_eq_zero n3
        rw [hu, ht, ← Nat.mul_sub]
        exact Nat.mul_mod_right _ _
      obtain ⟨i, hi⟩ := Nat.dvd_of_mod_eq_zero hdv
      rw [Nat.mul_comm] at hi
      have e : n = s + i * d := by omega
      have hij : i < j := by
        refine Nat.lt_of_not_le fun q => ?_
        have := Nat.mul_le_mul_right d q
        have n4 : n < s + j * d := n4
        omega
      have := j4 i (by omega) hij
      rw [e]
      simpa using this
theorem L_dOf (hw : WF w ns R k D) (hP : PX w ns R k D P) {i : Nat} (hi : i < k) : F_X3_dOf (nI i) P = some (nI (D i)) := by
  have h30 := hw.2.2.2.1
  unfold F_X3_dOf
  rw [hP.2.2.2.2.1]
  simp (disch := omega) only [↓m1_d, ↓m2_d, e_m2, e_m2', e_m12, e_m21, liN, e_le, e_lt, e_eqm, e_eq, e_m1, e_m1', e_m1l, e_m1e, e_m1g, e_m1h, e_add, e_mul, e_sub, e_pred, e_rem, ix_nI, nz_nI, nI_clamp, nm_e1, Nat.add_zero, if_true, if_false, Nat.reduceEqDiff, eq_self, reduceIte, hP.2.2.2.2.2 i hi]
  rw [if_neg (by omega), if_neg (by omega), if_pos (by omega)]
end
