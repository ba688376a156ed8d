/-! ===== PURE: find, at, cause, struck, upTo, between ===== -/
section
variable {w ns k : Nat} {R D : Nat → Nat} {P : PlanT} {row : Nat → Int32} {S : SieveT} {L : Nat}
theorem ht_0 (ho : off w L = false) (hf : fh k D L = none) : ht w k D L = 0 := by
  unfold ht
  rw [if_neg (by rw [ho]; decide)]
  exact cn_zero (fi_none.mp hf)
theorem ht_pos {j : Nat} (ho : off w L = false) (hf : fh k D L = some j) : 0 < ht w k D L := by
  have e := mk_eq (w := w) (k := k) (D := D) (L := L)
  unfold mk at e
  rw [ho, hf] at e
  have : ¬ ht w k D L = 0 := by
    intro q
    rw [q] at e
    cases e
  omega
theorem ht_le (hw : WF w ns R k D) : ht w k D L ≤ 30 := by
  have h30 := hw.2.2.2.1
  unfold ht
  split
  · omega
  · exact Nat.le_trans (cn_le _ _ _) h30
theorem sp_wo (h4 : w ≤ 4) {n : Nat} (h1 : 1 ≤ n) (ho : off w n = true) : sp w n = wo w n := by
  cases hs : sp w n with
  | none =>
    rw [off_wo] at ho
    cases hw : wo w n with
    | none => rfl
    | some j =>
      obtain ⟨-, hj, hd, -⟩ := fi_some hw
      have := fi_none.mp hs j (by omega) hj
      simp only [Bool.and_eq_true, decide_eq_true_eq] at hd
      rw [decide_eq_true hd.2] at this
      cases this
  | some j =>
    obtain ⟨-, hj, hd, hf⟩ := fi_some hs
    have hq := wq_rng (k := j) (by omega)
    have hd : n % wq j = 0 := by simpa using hd
    have h2 : 2 * wq j ≤ n := by
      obtain ⟨t, ht⟩ := Nat.dvd_of_mod_eq_zero hd
      match t, ht with
      | 0, ht => omega
      | 1, ht =>
        exfalso
        have e : n = wq j := by omega
        obtain ⟨i, -, i2, i3⟩ := fi_isSome.mp ho
        have := wq_ne i (by omega) j (by omega)
        rw [← e] at this
        simp only [Bool.and_eq_true, decide_eq_true_eq] at i3
        exact this i3
      | t + 2, ht =>
        rw [ht, Nat.mul_add]
        omega
    symm
    refine fi_eq (by omega) hj (by rw [decide_eq_true h2, decide_eq_true hd]; rfl) (fun i i1 i2 => ?_)
    have := hf i i1 i2
    rw [this, Bool.and_false]
theorem L_countHits (hw : WF w ns R k D) (hP : PX w ns R k D P) {n a b : Nat} (hn : n < 2 ^ 31) (ha : a ≤ k) (hab : a ≤ b) (hb : b < 2 ^ 31) : F_X3_countHits (nI n) (nI a) (nI b) P = some (nI (cn (fun j => hit n (D j)) a (min b k - a))) := by
  have h30 := hw.2.2.2.1
  unfold F_X3_countHits
  simp (disch := omega) only [↓m1_d, ↓m2_d, e_m2, e_m2', e_m12, e_m21, liN, e_le, e_lt, e_eqm, e_eq, e_m1, e_m1', e_m1l, e_m1e, e_m1g, e_m1h, e_add, e_mul, e_sub, e_pred, e_rem, ix_nI, nz_nI, nI_clamp, nm_e1, Nat.add_zero, if_true, if_false, Nat.reduceEqDiff, eq_self, reduceIte]
  rw [if_neg (by omega)]
  refine lp_cn (p := fun j => hit n (D j)) nI a (min b k) (by omega) (by omega) (fun K c i h1 h2 h3 => ?_)
  unfold B_X3_countHits_10
  rw [hP.2.2.2.2.1]
  by_cases q : min b k ≤ i
  · simp (disch := omega) only [↓m1_d, ↓m2_d, e_m2, e_m2', e_m12, e_m21, liN, e_le, e_lt, e_eqm, e_eq, e_m1, e_m1', e_m1l, e_m1e, e_m1g, e_m1h, e_add, e_mul, e_sub, e_pred, e_rem, ix_nI, nz_nI, nI_clamp, nm_e1, Nat.add_zero, if_true, if_false, Nat.reduceEqDiff, eq_self, reduceIte]
    by_cases q2 : b ≤ i
    · rw [if_pos q2, if_pos q]
    · rw [if_neg q2, if_pos (by omega), if_pos q]
  · have hd := hw.2.2.2.2.1 i (by omega)
    have hdd : D i * D i ≤ 120 * 120 := Nat.mul_le_mul hd.2 hd.2
    simp (disch := omega) only [↓m1_d, ↓m2_d, e_m2, e_m2', e_m12, e_m21, liN, e_le, e_lt, e_eqm, e_eq, e_m1, e_m1', e_m1l, e_m1e, e_m1g, e_m1h, e_add, e_mul, e_sub, e_pred, e_rem, ix_nI, nz_nI, nI_clamp, nm_e1, Nat.add_zero, if_true, if_false, Nat.reduceEqDiff, eq_self, reduceIte, hP.2.2.2.2.2 i (by omega)]
    rw [if_neg (by omega), if_neg (by omega), if_neg (by omega), if_neg (by omega), if_neg q]
    unfold hit
    simp only [Bool.and_eq_true, decide_eq_true_eq]
    by_cases z : n < D i * D i
    · rw [if_pos z, if_neg (by omega)]
    · rw [if_neg z]
      by_cases y : n % D i = 0
      · rw [if_pos y, if_pos ⟨by omega, y⟩]
      · rw [if_neg y, if_neg (fun u => y u.2)]
end
