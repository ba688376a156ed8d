/-! ===== PURE: floats ===== -/
section
theorem n32_ok {α : Type} {v : UInt32} {k : Option α} (h : FP.Core.val32 v ≠ .nan) : n32 v k = k := by
  unfold n32
  refine if_pos ?_
  rw [UInt32.le_iff_toNat_le, FP.Core.mask_toNat32]
  exact (FP.Core.ne_nan32 v).mp h
theorem n64_ok {α : Type} {v : UInt64} {k : Option α} (h : FP.Core.val64 v ≠ .nan) : n64 v k = k := by
  unfold n64
  refine if_pos ?_
  rw [UInt64.le_iff_toNat_le, FP.Core.mask_toNat]
  exact (FP.Core.ne_nan v).mp h
theorem of_int {a : Nat} (h : a < 2 ^ 31) : FP.Core.ofInt (nI a).toInt = .fin false a 0 := by
  rw [nI_toInt h]
  unfold FP.Core.ofInt
  rw [Int.natAbs_natCast, decide_eq_false (by omega)]
/-- an int as a float: exact -/
theorem i2f_dat {a : Nat} (h : 1 ≤ a) (h2 : a < 2 ^ 24) : FP.Core.val32 (FP.i2f (nI a)) = .fin false (a * 2 ^ (23 - a.log2)) (-((23 - a.log2 : Nat) : Int)) := by
  have l1 : 2 ^ a.log2 ≤ a := Nat.log2_self_le (by omega)
  have l2 : a < 2 ^ (a.log2 + 1) := Nat.lt_log2_self
  have l3 : a.log2 ≤ 23 := by
    refine Nat.le_of_not_lt fun c => ?_
    have := Nat.pow_le_pow_right (n := 2) (by decide) (show 24 ≤ a.log2 by omega)
    omega
  show FP.Core.val32 (FP.Core.i2f (nI a)) = _
  rw [FP.Core.val32_i2f, of_int (by omega)]
  show FP.Core.roundRatio FP.Core.b32 false a 1 0 = _
  have e1 : 2 ^ a.log2 * 2 ^ (23 - a.log2) = 2 ^ 23 := by rw [← Nat.pow_add, show a.log2 + (23 - a.log2) = 23 by omega]
  have e2 : 2 ^ (a.log2 + 1) * 2 ^ (23 - a.log2) = 2 ^ 24 := by rw [← Nat.pow_add, show a.log2 + 1 + (23 - a.log2) = 24 by omega]
  have p0 : 0 < 2 ^ (23 - a.log2) := Nat.two_pow_pos _
  refine FP.Core.roundRatio_exact FP.Core.good_b32 (by decide) ⟨?_, ?_, ?_, Or.inr ?_⟩ ?_
  · show a * 2 ^ (23 - a.log2) < 2 ^ 24
    rw [← e2]
    exact Nat.mul_lt_mul_of_pos_right l2 p0
  · show (-149 : Int) ≤ _
    omega
  · show _ ≤ (104 : Int)
    omega
  · show 2 ^ 23 ≤ a * 2 ^ (23 - a.log2)
    rw [← e1]
    exact Nat.mul_le_mul_right _ l1
  · rw [show ((0 : Int) - -((23 - a.log2 : Nat) : Int)).toNat = 23 - a.log2 by omega, show (-((23 - a.log2 : Nat) : Int) - 0).toNat = 0 by omega, Nat.pow_zero, Nat.mul_one, Nat.mul_one]
theorem q_dat {a b : Nat} (h1 : 1 ≤ a) (h2 : a < 2 ^ 24) (h3 : 1 ≤ b) (h4 : b < 2 ^ 24) : FP.Core.val32 (FP.fdiv (FP.i2f (nI a)) (FP.i2f (nI b))) = FP.Core.roundRatio FP.Core.b32 false a b 0 := by
  show FP.Core.val32 (FP.Core.fdiv (FP.i2f (nI a)) (FP.i2f (nI b))) = _
  rw [FP.Core.val32_fdiv, i2f_dat h1 h2, i2f_dat h3 h4]
  have pa : 0 < 2 ^ (23 - a.log2) := Nat.two_pow_pos _
  have pb : 0 < 2 ^ (23 - b.log2) := Nat.two_pow_pos _
  show (if b * 2 ^ (23 - b.log2) = 0 then _ else _) = _
  rw [if_neg (Nat.ne_of_gt (Nat.mul_pos h3 pb))]
  generalize 23 - a.log2 = x
  generalize 23 - b.log2 = y
  show FP.Core.roundRatio FP.Core.b32 false (a * 2 ^ x) (b * 2 ^ y) (-(x : Int) - -(y : Int)) = _
  have hx : (-(x : Int) - -(y : Int) - 0).toNat = y - x := by omega
  have hy : (0 - (-(x : Int) - -(y : Int))).toNat = x - y := by omega
  refine FP.Core.roundRatio_congr (Nat.mul_pos h3 (Nat.two_pow_pos y)) h3 ?_
  rw [hx, hy]
  have e : x + (y - x) = y + (x - y) := by omega
  calc a * 2 ^ x * b * 2 ^ (y - x) = a * b * 2 ^ (x + (y - x)) := by rw [Nat.pow_add]; ac_rfl
    _ = a * (b * 2 ^ y) * 2 ^ (x - y) := by rw [e, Nat.pow_add]; ac_rfl
/-- a share -/
theorem share_dat {a b : Nat} (h1 : 1 ≤ a) (h2 : a ≤ b) (h3 : b ≤ 8191) : ∃ c q, FP.Core.roundRatio FP.Core.b32 false a b 0 = .fin false c q ∧ 2 ^ 23 ≤ c ∧ c < 2 ^ 24 ∧ -37 ≤ q ∧ q ≤ -23 := by
  by_cases e : a = b
  · subst e
    refine ⟨2 ^ 23, -23, ?_, Nat.le_refl _, by decide, by decide, by decide⟩
    refine FP.Core.roundRatio_exact FP.Core.good_b32 (by omega) (by refine ⟨?_, ?_, ?_, Or.inr ?_⟩ <;> decide) ?_
    show a * 2 ^ 23 = 2 ^ 23 * a * 2 ^ 0
    omega
  · have hb : 0 < b := by omega
    obtain ⟨s1, s2⟩ := FP.Core.leading_spec (A := a) (B := b) h1 hb
    have u1 : FP.Core.Below a b 0 := by
      show a * 2 ^ 0 < b * 2 ^ 0
      omega
    have u2 : ¬ FP.Core.Below a b (-13) := by
      show ¬ a * 2 ^ 13 < b * 2 ^ 0
      omega
    have l1 := FP.Core.lt_of_below s1 u1
    have l2 := FP.Core.lt_of_below u2 s2
    have hq : FP.Core.quantum FP.Core.b32 a b 0 = FP.Core.leading a b - 23 := by
      unfold FP.Core.quantum
      show max (-149 : Int) (FP.Core.leading a b + 0 - ((24 : Int) - 1)) = _
      omega
    have hf := FP.Core.roundRatio_fits FP.Core.good_b32 false a hb 0
    have hn := FP.Core.nearest_units_le (f := FP.Core.b32) h1 hb 0
    unfold FP.Core.roundRatio at hf ⊢
    rw [if_neg (by omega)] at hf ⊢
    unfold FP.Core.roundAt at hf ⊢
    rw [hq] at hf hn ⊢
    generalize FP.Core.nearest (FP.Core.unitsNum a 0 (FP.Core.leading a b - 23)) (FP.Core.unitsDen b 0 (FP.Core.leading a b - 23)) = c at hf hn ⊢
    have hn : c ≤ 2 ^ 24 := hn
    unfold FP.Core.settle FP.Core.bound at hf ⊢
    by_cases z : c < 2 ^ 24
    · rw [if_pos (show c < 2 ^ FP.Core.b32.p from z), if_pos (show FP.Core.leading a b - 23 ≤ FP.Core.b32.qmax from (show FP.Core.leading a b - 23 ≤ (104 : Int) by omega))] at hf ⊢
      refine ⟨c, _, rfl, ?_, z, by omega, by omega⟩
      rcases hf.2.2.2 with w | w
      · have w : FP.Core.leading a b - 23 = (-149 : Int) := w
        omega
      · exact w
    · rw [if_neg (show ¬ c < 2 ^ FP.Core.b32.p from z), if_pos (show FP.Core.leading a b - 23 + 1 ≤ FP.Core.b32.qmax from (show FP.Core.leading a b - 23 + 1 ≤ (104 : Int) by omega))]
      exact ⟨2 ^ 23, _, rfl, Nat.le_refl _, by decide, by omega, by omega⟩
/-- the bits of a float that is worked out by hand -/
theorem c2_dat : FP.Core.val32 FP.fconst2 = .fin false (2 ^ 23) (-22) := by decide +kernel
theorem c1_dat : FP.Core.val32 FP.fconst1 = .fin false (2 ^ 23) (-23) := by decide +kernel
theorem c0_dat : FP.Core.val32 FP.fconst0 = .fin false 0 (-149) := by decide +kernel
theorem cm_dat : FP.Core.val32 (1258291200 : UInt32) = .fin false (2 ^ 23) 0 := by decide +kernel
theorem pow_dat {x y : UInt32} {c : Nat} {q r : Int} (hx : FP.Core.val32 x = .fin false c q) (hy : FP.Core.val32 y = .fin false (2 ^ 23) r) (h1 : 2 ^ 23 ≤ c) (h2 : c < 2 ^ 24) (h3 : -149 ≤ q + r + 23) (h4 : q + r + 23 ≤ 104) :
    FP.Core.val32 (FP.fmul x y) = .fin false c (q + r + 23) := by
  show FP.Core.val32 (FP.Core.fmul x y) = _
  rw [FP.Core.val32_fmul, hx, hy]
  show FP.Core.roundRatio FP.Core.b32 false (c * 2 ^ 23) 1 (q + r) = _
  refine FP.Core.roundRatio_exact FP.Core.good_b32 (by decide) ⟨h2, h3, h4, Or.inr h1⟩ ?_
  rw [show (q + r - (q + r + 23)).toNat = 0 by omega, show (q + r + 23 - (q + r)).toNat = 23 by omega, Nat.pow_zero, Nat.mul_one, Nat.mul_one]
theorem cmp_one {x : UInt32} {c : Nat} {q : Int} (hx : FP.Core.val32 x = .fin false c q) (h1 : 2 ^ 23 ≤ c) (h2 : c < 2 ^ 24) (h3 : q ≤ -23) :
    (0 ≤ Op.cmpValue (FP.fcmp x FP.fconst1) .g) ↔ q = -23 := by
  have e : FP.fcmp x FP.fconst1 = some (compare ((c * 2 ^ (q - q).toNat : Nat) : Int) ((2 ^ 23 * 2 ^ (-23 - q).toNat : Nat) : Int)) := by
    show FP.Core.order (FP.Core.val32 x) (FP.Core.val32 FP.fconst1) = _
    rw [hx, c1_dat]
    show some (compare (FP.Core.signed false (FP.Core.inUnits c q (min q (-23)))) (FP.Core.signed false (FP.Core.inUnits (2 ^ 23) (-23) (min q (-23))))) = _
    rw [show min q (-23) = q by omega]
    rfl
  rw [e, show (q - q).toNat = 0 by omega, Nat.pow_zero, Nat.mul_one, FP.Core.compare_ite]
  by_cases z : q = -23
  · subst z
    rw [show ((-23 : Int) - -23).toNat = 0 by decide, Nat.pow_zero, Nat.mul_one, if_neg (by omega)]
    refine ⟨fun _ => rfl, fun _ => ?_⟩
    split <;> decide
  · refine ⟨fun h => ?_, fun h => absurd h z⟩
    have p : 2 ≤ 2 ^ (-23 - q).toNat := by
      have := Nat.pow_le_pow_right (n := 2) (by decide) (show 1 ≤ (-23 - q).toNat by omega)
      omega
    have p2 := Nat.mul_le_mul_left (2 ^ 23) p
    rw [if_pos (by omega)] at h
    exact absurd h (by decide)
theorem f2i_dat {x : UInt32} {c : Nat} (hx : FP.Core.val32 x = .fin false c 0) (h2 : c < 2 ^ 24) : FP.f2i x = nI c := by
  show FP.Core.toI (FP.Core.val32 x) = _
  rw [hx]
  show Int32.ofInt (max (-2 ^ 31) (min (2 ^ 31 - 1) (FP.Core.truncate false c 0))) = _
  have e : FP.Core.truncate false c 0 = (c : Int) := by
    show ((c * 2 ^ 0 / 2 ^ 0 : Nat) : Int) = _
    rw [Nat.pow_zero, Nat.mul_one, Nat.div_one]
  rw [e, show max (-2 ^ 31) (min (2 ^ 31 - 1) (c : Int)) = (c : Int) by omega]
  rfl
theorem bits_dat {x : UInt32} {c : Nat} {q : Int} (hx : FP.Core.val32 x = .fin false c q) (h1 : 2 ^ 23 ≤ c) (h2 : c < 2 ^ 24) (h3 : -37 ≤ q) (h4 : q ≤ -23) : x.toInt32 = nI ((q + 150).toNat * 2 ^ 23 + (c - 2 ^ 23)) := by
  have e := FP.Core.of32_val32 (fin_nn hx)
  rw [hx] at e
  rw [← e]
  unfold FP.Core.of32 FP.Core.encode
  dsimp only
  rw [if_neg (show ¬ c < FP.Core.b32.tails from Nat.not_lt.mpr h1)]
  unfold FP.Core.assemble
  show (UInt32.ofNat (((false.toNat * 256 + ((q - -149).toNat + 1)) * 2 ^ 23 + (c - 2 ^ 23)))).toInt32 = _
  rw [show false.toNat * 256 + ((q - -149).toNat + 1) = (q + 150).toNat by
    show 0 * 256 + _ = _
    omega]
  rfl
theorem L_bits {x : UInt32} {c : Nat} {q : Int} (hx : FP.Core.val32 x = .fin false c q) (h1 : 2 ^ 23 ≤ c) (h2 : c < 2 ^ 24) (h3 : -37 ≤ q) (h4 : q ≤ -23) : F_X10_bitsOfShare x = some (nI ((q + 150).toNat * 2 ^ 23 + (c - 2 ^ 23))) := by
  have key : ∀ m f1 (y : UInt32) (j : Nat), FP.Core.val32 y = .fin false c (q + j) → (-23 - (q + j)).toNat = m → q + j ≤ -23 → j ≤ 20 → m < f1 → fx (fun _ _ _ => none) (B_X10_bitsOfShare_15 x) f1 (nI (127 - j)) y (nI j) = some (nI ((q + 150).toNat * 2 ^ 23 + (c - 2 ^ 23))) := by
    intro m
    induction m with
    | zero =>
      intro f1 y j hy hm hj hj2 hf
      obtain ⟨f1, rfl⟩ : ∃ q, f1 = q + 1 := ⟨f1 - 1, by omega⟩
      have ej : q + j = -23 := by omega
      rw [ej] at hy
      have hm2 := pow_dat hy cm_dat h1 h2 (by decide) (by decide)
      have hm2 : FP.Core.val32 (FP.fmul y 1258291200) = .fin false c 0 := hm2
      rw [fx_s, B_X10_bitsOfShare_15]
      rw [if_neg (show ¬ (126 : Int32) ≤ nI j from nI_ge (b := 126) (by omega) (by decide)), if_pos ((cmp_one hy h1 h2 (by decide)).mpr rfl), n32_ok (fin_nn hm2), f2i_dat hm2 h2]
      have e1 : nI (127 - j) <<< (23 &&& 31 : Int32) = nI ((127 - j) * 2 ^ 23) := pk_shlN _ 23 (by decide) (by omega)
      have e2 : nI c - 8388608 = nI (c - 2 ^ 23) := e_sub (b := 8388608) h1
      rw [e1, e2, e_add, show 127 - j = (q + 150).toNat by omega]
    | succ m ih =>
      intro f1 y j hy hm hj hj2 hf
      obtain ⟨f1, rfl⟩ : ∃ q, f1 = q + 1 := ⟨f1 - 1, by omega⟩
      have hm2 := pow_dat hy c2_dat h1 h2 (by omega) (by omega)
      rw [show q + (j : Int) + -22 + 23 = q + ((j + 1 : Nat) : Int) by omega] at hm2
      have hne : ¬ (0 ≤ Op.cmpValue (FP.fcmp y FP.fconst1) .g) := fun z => by
        have := (cmp_one hy h1 h2 hj).mp z
        omega
      rw [fx_s, B_X10_bitsOfShare_15]
      rw [if_neg (show ¬ (126 : Int32) ≤ nI j from nI_ge (b := 126) (by omega) (by decide)), if_neg hne, n32_ok (fin_nn hm2), nm_e1, nm_e1, nm_e1, show nI (127 - j) + (-1) = nI (127 - (j + 1)) from (e_pred (by omega)).trans (congrArg nI (by omega)), show nI j + 1 = nI (j + 1) from e_add j 1]
      exact ih f1 _ (j + 1) hm2 (by omega) (by omega) (by omega) (by omega)
  unfold F_X10_bitsOfShare
  have hc : 0 < Op.cmpValue (FP.fcmp x FP.fconst0) .g := by
    have e : FP.fcmp x FP.fconst0 = some (compare ((c * 2 ^ (q - -149).toNat : Nat) : Int) ((0 * 2 ^ (-149 - -149 : Int).toNat : Nat) : Int)) := by
      show FP.Core.order (FP.Core.val32 x) (FP.Core.val32 FP.fconst0) = _
      rw [hx, c0_dat]
      show some (compare (FP.Core.signed false (FP.Core.inUnits c q (min q (-149)))) (FP.Core.signed false (FP.Core.inUnits 0 (-149) (min q (-149))))) = _
      rw [show min q (-149) = -149 by omega]
      rfl
    have p : 0 < c * 2 ^ (q - -149).toNat := Nat.mul_pos (by omega) (Nat.two_pow_pos _)
    rw [e, FP.Core.compare_ite, Nat.zero_mul, if_neg (by omega), if_neg (by omega)]
    decide
  rw [if_pos hc]
  exact key _ FUEL x 0 (by rw [hx]; congr 1; omega) rfl (by omega) (by omega) (by unfold FUEL; omega)
theorem J_isNaN {x : UInt32} (h : FP.Core.val32 x ≠ .nan) : F_Jxf58ca_floatToIntBits_5c35a x = some x.toInt32 := by
  unfold F_Jxf58ca_floatToIntBits_5c35a F_Jxf58ca_isNaN_12338
  have : FP.fcmp x x = some .eq := FP.Core.fcmp_self h
  rw [this, if_pos (by decide)]
  rfl
theorem f2d_ok {x : UInt32} (h : FP.Core.val32 x ≠ .nan) : vf_n64 (FP.f2d x) := by
  unfold vf_n64
  rw [UInt64.le_iff_toNat_le, FP.Core.mask_toNat]
  exact (FP.Core.ne_nan _).mp (f2d_nn h)
theorem f2d_eq {x : UInt32} (h : FP.Core.val32 x ≠ .nan) : Op.cmpValue (FP.dcmp (FP.f2d x) (FP.f2d x)) .l = 0 := dcmp_eq (f2d_nn h)
end
