/-! ===== PURE: measures ===== -/
section
theorem sh0_dat {b : Nat} (h3 : 1 ≤ b) (h4 : b < 2 ^ 24) : FP.Core.val32 (FP.fdiv (FP.i2f (nI 0)) (FP.i2f (nI b))) = .fin false 0 (-149) := by
  show FP.Core.val32 (FP.Core.fdiv (FP.i2f (nI 0)) (FP.i2f (nI b))) = _
  have z : FP.Core.val32 (FP.i2f (nI 0)) = .fin false 0 (-149) := by decide +kernel
  rw [FP.Core.val32_fdiv, z, i2f_dat h3 h4]
  have pb : 0 < 2 ^ (23 - b.log2) := Nat.two_pow_pos _
  show (if b * 2 ^ (23 - b.log2) = 0 then _ else FP.Core.roundRatio FP.Core.b32 _ 0 _ _) = _
  rw [if_neg (Nat.ne_of_gt (Nat.mul_pos h3 pb))]
  rfl
theorem share_ok {a b : Nat} (h1 : a ≤ b) (h2 : 1 ≤ b) (h3 : b ≤ 8191) : FP.Core.val32 (FP.fdiv (FP.i2f (nI a)) (FP.i2f (nI b))) ≠ .nan := by
  by_cases z : a = 0
  · subst z
    exact fin_nn (sh0_dat h2 (by omega))
  · rw [q_dat (by omega) (by omega) h2 (by omega)]
    exact rr_nan
theorem fl0_bits : F_Jxf58ca_floatToIntBits_5c35a FP.fconst0 = some 0 := by decide +kernel
theorem share_bits {a b : Nat} (h1 : a ≤ b) (h2 : 1 ≤ b) (h3 : b ≤ 8191) :
    ∃ r, F_X10_bitsOfShare (FP.fdiv (FP.i2f (nI a)) (FP.i2f (nI b))) = some r ∧ F_Jxf58ca_floatToIntBits_5c35a (FP.fdiv (FP.i2f (nI a)) (FP.i2f (nI b))) = some r := by
  rw [J_isNaN (share_ok h1 h2 h3)]
  by_cases z : a = 0
  · subst z
    have hx := sh0_dat h2 (by omega)
    have e : FP.fdiv (FP.i2f (nI 0)) (FP.i2f (nI b)) = 0 := by
      have := FP.Core.of32_val32 (fin_nn hx)
      rw [hx] at this
      rw [← this]
      decide +kernel
    rw [e]
    exact ⟨0, by decide +kernel, rfl⟩
  · have hq := q_dat (a := a) (by omega) (by omega) h2 (by omega)
    obtain ⟨c, q, s1, s2, s3, s4, s5⟩ := share_dat (a := a) (by omega) h1 h3
    rw [s1] at hq
    exact ⟨_, L_bits hq s2 s3 s4 s5, by rw [bits_dat hq s2 s3 s4 s5]⟩
end
section
variable {w ns k : Nat} {R D : Nat → Nat} {P : PlanT} {row : Nat → Int32} {S : SieveT} {L : Nat}
theorem Q_shareBits (h : CX w ns R k D P row S) (e0 : Int32) (o t : Nat → Int32) (th : Int32) :
    ∃ v S' e' o' t', F_X10_shareBits P S = some (v, S') ∧ SOK w k D (1 + sm R ns) P S' ∧ F_X11_shareBits e0 o row th t = some (v, (e', o', 0, t')) := by
  obtain ⟨hw, hP, hR, hS⟩ := h
  have hL := hw.last
  obtain ⟨o', t', hm, hRS⟩ := M_strike hw hR e0 o t
  obtain ⟨S', hc, hv, hk⟩ := L_current hw hP hS
  unfold F_X10_shareBits F_X11_shareBits F_X3_lastNumber F_X7_markCount
  rw [hm, hP.2.2.2.1, Option.bind_some, Option.bind_some, nm_e1]
  show ∃ v S' e' o' t', _ = some (v, S') ∧ _ ∧ nm (nI (1 + sm R ns) - 1) _ = some (v, (e', o', 0, t'))
  rw [nm_e1, show nI (1 + sm R ns) - 1 = nI (sm R ns) by
    rw [show (1 : Int32) = nI 1 from rfl, e_sub (by omega), show 1 + sm R ns - 1 = sm R ns by omega]]
  by_cases z : sm R ns = 0
  · have hz0 : nI (sm R ns) = 0 := congrArg nI z
    rw [if_pos hz0, if_pos hz0]
    refine ⟨0, S, nI (1 + sm R ns), o', t', rfl, hS, ?_⟩
    show (F_Jxf58ca_floatToIntBits_5c35a FP.fconst0).bind _ = _
    rw [fl0_bits]
    rfl
  · have hz : ¬ nI (sm R ns) = 0 := nI_ne0 (by omega) (by omega)
    have hcn := cn_le (mk w k D) (1 + sm R ns - 1) 2
    obtain ⟨r, b1, b2⟩ := share_bits (a := cn (mk w k D) 2 (1 + sm R ns - 1)) (b := sm R ns) (by omega) (by omega) (by omega)
    have nn := share_ok (a := cn (mk w k D) 2 (1 + sm R ns - 1)) (b := sm R ns) (by omega) (by omega) (by omega)
    have hmi : F_X11_marksIn 2 (nI (1 + sm R ns)) (nI (1 + sm R ns)) row t' = some (nI (mb w k D (1 + sm R ns) 2 (1 + sm R ns))) := M_marksIn (a := 2) hw hR hL hRS (by omega) (by omega) (Nat.le_refl _)
    rw [mb_cn (Nat.le_refl _) (Nat.le_refl _), show 1 + sm R ns + 1 - 2 = 1 + sm R ns - 1 by omega] at hmi
    rw [if_neg hz, if_neg hz, hc, Option.bind_some, hv.2.2.1, Option.bind_some, n32_ok nn, b1]
    refine ⟨r, S', nI (1 + sm R ns), o', t', rfl, hk, ?_⟩
    show (F_X11_marksIn 2 (nI (1 + sm R ns)) (nI (1 + sm R ns)) row t').bind _ = _
    rw [hmi, Option.bind_some, n32_ok nn, nm_e1, b2]
    rfl
theorem Q_spokeShare (h : CX w ns R k D P row S) (th : Int32) :
    ∃ v S', F_X10_spokeShare P S = some (v, S') ∧ SOK w k D (1 + sm R ns) P S' ∧ F_X11_spokeShare row th = some (v, 0) ∧ vf_n64 (FP.f2d v) ∧ Op.cmpValue (FP.dcmp (FP.f2d v) (FP.f2d v)) .l = 0 := by
  obtain ⟨hw, hP, hR, hS⟩ := h
  have hL := hw.last
  obtain ⟨S', hc, hv, hk⟩ := L_current hw hP hS
  unfold F_X10_spokeShare F_X11_spokeShare F_X3_lastNumber F_X7_spokeCount
  rw [hP.2.2.2.1, M_last hw hR, Option.bind_some, Option.bind_some, nm_e1, show nI (1 + sm R ns) - 1 = nI (sm R ns) by
    rw [show (1 : Int32) = nI 1 from rfl, e_sub (by omega), show 1 + sm R ns - 1 = sm R ns by omega]]
  by_cases z : sm R ns = 0
  · have hz0 : nI (sm R ns) = 0 := congrArg nI z
    have hz2 : nI (1 + sm R ns) = 1 := congrArg (fun x => nI (1 + x)) z
    rw [if_pos hz0, if_pos hz2]
    exact ⟨FP.fconst0, S, rfl, hS, rfl, f2d_ok (fin_nn c0_dat), f2d_eq (fin_nn c0_dat)⟩
  · have hz : ¬ nI (sm R ns) = 0 := nI_ne0 (by omega) (by omega)
    have hz1 : ¬ nI (1 + sm R ns) = 1 := fun e => z (by
      have := (nI_eq_lit 1 (by omega) (by decide)).mp e
      omega)
    have hcn := cn_le (fun n => !off w n) (1 + sm R ns - 1) 2
    have nn := share_ok (a := cn (fun n => !off w n) 2 (1 + sm R ns - 1)) (b := sm R ns) (by omega) (by omega) (by omega)
    have hsp : F_X11_spokesIn 2 (nI (1 + sm R ns)) row = some (nI (cn (fun n => !off w n) 2 (1 + sm R ns + 1 - 2))) := M_spokesIn (a := 2) hw hR (by omega) (by omega) (by omega)
    rw [show 1 + sm R ns + 1 - 2 = 1 + sm R ns - 1 by omega] at hsp
    rw [if_neg hz, if_neg hz1, hc, Option.bind_some, hv.2.2.2, Option.bind_some, n32_ok nn, hsp, Option.bind_some, n32_ok nn]
    exact ⟨_, S', rfl, hk, rfl, f2d_ok nn, f2d_eq nn⟩
/-! double counting -/
theorem sm_add (F G : Nat → Nat) : ∀ n, sm (fun i => F i + G i) n = sm F n + sm G n
  | 0 => rfl
  | n + 1 => by
    show sm (fun i => F i + G i) n + (F n + G n) = sm F n + F n + (sm G n + G n)
    rw [sm_add F G n]
    omega
theorem sm_zero {F : Nat → Nat} : ∀ {n : Nat}, (∀ i, i < n → F i = 0) → sm F n = 0
  | 0, _ => rfl
  | n + 1, h => by
    show sm F n + F n = 0
    rw [sm_zero (fun i hi => h i (by omega)), h n (by omega)]
theorem sm_one (p : Nat → Bool) : ∀ n, sm (fun i => if p i = true then 1 else 0) n = cn p 0 n
  | 0 => rfl
  | n + 1 => by
    rw [cn_snoc, Nat.zero_add]
    show sm _ n + _ = _
    rw [sm_one p n]
theorem ht_sm {n : Nat} : ht w k D n = sm (fun i => if (!off w n && hit n (D i)) = true then 1 else 0) k := by
  rw [sm_one]
  unfold ht
  by_cases c : off w n = true
  · rw [if_pos c, cn_zero (fun i _ _ => by rw [c]; rfl)]
  · rw [if_neg c, Bool.eq_false_iff.mpr c]
    rfl
theorem dcount (a : Nat) : ∀ m, sm (fun i => cn (fun n => !off w n && hit n (D i)) a m) k = sm (fun x => ht w k D (a + x)) m
  | 0 => sm_zero (fun _ _ => rfl)
  | m + 1 => by
    show _ = sm (fun x => ht w k D (a + x)) m + ht w k D (a + m)
    rw [← dcount a m, ht_sm, ← sm_add]
    exact sm_cong (fun i _ => cn_snoc _ _ _)
theorem L_cs (hw : WF w ns R k D) (hL : L ≤ 4801) (hS : SV w k D L S) {i : Nat} (hi : i < k) : F_X7_countStrikes (nI (D i)) S = some (nI (cn (fun n => !off w n && hit n (D i)) 2 (L - 1))) := by
  have hd := hw.2.2.2.2.1 i hi
  have hd2 : 2 * 2 ≤ D i * D i := Nat.mul_le_mul hd.1 hd.1
  rw [L_countStrikes hw hL hS hi]
  congr 2
  have lo : ∀ n, n < D i * D i → (!off w n && hit n (D i)) = false := fun n hn => by rw [hit_small hn, Bool.and_false]
  by_cases c : D i * D i ≤ L + 1
  · rw [show L - 1 = (D i * D i - 2) + (L + 1 - D i * D i) by omega, cn_add, cn_zero (fun j _ h2 => lo j (by omega)), Nat.zero_add, show 2 + (D i * D i - 2) = D i * D i by omega]
    refine cn_cong (fun n h1 h2 => ?_)
    unfold hit
    rw [decide_eq_true h1, Bool.true_and, Bool.and_comm]
  · rw [show L + 1 - D i * D i = 0 by omega, cn_zero (fun j _ h2 => lo j (by omega))]
    rfl
theorem struck_cn (a : Nat) : ∀ m, cn (fun n => !off w n) a m = cn (mk w k D) a m + cn (fun n => decide (¬ ht w k D n = 0)) a m
  | 0 => rfl
  | m + 1 => by
    rw [cn_snoc, cn_snoc, cn_snoc, struck_cn a m]
    have e : (if (!off w (a + m)) = true then 1 else 0) = (if mk w k D (a + m) = true then 1 else 0) + (if decide (¬ ht w k D (a + m) = 0) = true then 1 else 0) := by
      rw [mk_eq (w := w) (k := k) (D := D) (L := a + m)]
      by_cases c : off w (a + m) = true
      · have : ht w k D (a + m) = 0 := by
          unfold ht
          rw [if_pos c]
        rw [c, this]
        rfl
      · rw [Bool.eq_false_iff.mpr c]
        by_cases q : ht w k D (a + m) = 0
        · rw [q]; rfl
        · rw [decide_eq_true q, decide_eq_false q]; rfl
    omega
theorem dd_nn {a b : Nat} (h1 : a < 2 ^ 31) (h2 : 1 ≤ b) (h3 : b < 2 ^ 31) : FP.Core.val64 (FP.ddiv (FP.i2d (nI a)) (FP.i2d (nI b))) ≠ .nan := by
  show FP.Core.val64 (FP.Core.ddiv (FP.Core.i2d (nI a)) (FP.Core.i2d (nI b))) ≠ .nan
  rw [FP.Core.val64_ddiv]
  have wb : FP.Core.Whole (nI b).toInt (FP.Core.val64 (FP.Core.i2d (nI b))) := by
    rw [FP.Core.i2d_l2d, show (nI b).toInt = (nI b).toInt64.toInt from (Int32.toInt_toInt64 _).symm]
    refine FP.Core.l2d_whole ?_
    unfold FP.Core.Small53
    rw [Int32.toInt_toInt64, nI_toInt h3]
    omega
  obtain ⟨s, c, q, ha⟩ := FP.Core.i2d_fin (nI a)
  obtain ⟨s2, c2, q2, hb⟩ := FP.Core.i2d_fin (nI b)
  rw [hb] at wb
  have hc2 : ¬ c2 = 0 := by
    intro e
    subst e
    have wb : FP.Core.signed s2 (0 * 2 ^ q2.toNat) = (nI b).toInt * ((2 ^ (-q2).toNat : Nat) : Int) := wb
    rw [Nat.zero_mul, FP.Core.signed_zero, nI_toInt h3] at wb
    have p : 0 < 2 ^ (-q2).toNat := Nat.two_pow_pos _
    have : (0 : Int) < (b : Int) * ((2 ^ (-q2).toNat : Nat) : Int) := Int.mul_pos (by omega) (by omega)
    omega
  rw [ha, hb]
  show (if c2 = 0 then _ else FP.Core.roundRatio _ _ _ _ _) ≠ _
  rw [if_neg hc2]
  exact rr_nan
theorem dc1_nn : FP.Core.val64 FP.dconst1 ≠ .nan := fun h => by
  have e : FP.Core.val64 FP.dconst1 = .fin false (2 ^ 52) (-52) := by decide +kernel
  rw [e] at h
  cases h
/-- what striker i strikes up to L -/
def uq (w : Nat) (D : Nat → Nat) (L i : Nat) : Nat := cn (fun n => !off w n && hit n (D i)) 2 (L - 1)
theorem dcountU (L : Nat) : sm (uq w D L) k = sm (fun x => ht w k D (2 + x)) (L - 1) := dcount 2 (L - 1)
theorem Q_useful (h : CX w ns R k D P row S) (e0 : Int32) (o t : Nat → Int32) (th : Int32) :
    ∃ v S' e' o' t', F_X10_useful P S = some (v, S') ∧ SOK w k D (1 + sm R ns) P S' ∧ F_X11_useful e0 o row th t = some (v, (e', o', 0, t')) ∧ Op.cmpValue (FP.dcmp v v) .l = 0 := by
  obtain ⟨hw, hP, hR, hS⟩ := h
  have hL := hw.last
  have h30 := hw.2.2.2.1
  obtain ⟨o', t', hm, hRS⟩ := M_strike hw hR e0 o t
  obtain ⟨S', hc, hv, hk⟩ := L_current hw hP hS
  obtain ⟨L, hLL⟩ : ∃ L, L = 1 + sm R ns := ⟨_, rfl⟩
  rw [← hLL] at hL hm hRS hv hk ⊢
  have hL1 : 1 ≤ L := by omega
  have eA := struck_cn (w := w) (k := k) (D := D) 2 (L - 1)
  have bA := cn_le (fun n => decide (¬ ht w k D n = 0)) (L - 1) 2
  have eT := dcountU (w := w) (k := k) (D := D) L
  obtain ⟨A, hA⟩ : ∃ A, A = cn (fun n => decide (¬ ht w k D n = 0)) 2 (L - 1) := ⟨_, rfl⟩
  rw [← hA] at eA bA
  have bT : ∀ j, j ≤ k → sm (uq w D L) j ≤ 4800 * 30 := fun j hj => by
    have h1 := sm_le (R := uq w D L) (B := 4800) (n := j) (fun i _ => Nat.le_trans (cn_le _ _ _) (by omega))
    omega
  have hnn : ¬ nI (sm (uq w D L) k) = 0 → FP.Core.val64 (FP.ddiv (FP.i2d (nI A)) (FP.i2d (nI (sm (uq w D L) k)))) ≠ .nan := fun hz => by
    have b1 := bT k (Nat.le_refl _)
    have b2 : 1 ≤ sm (uq w D L) k := Nat.pos_of_ne_zero fun e => hz (congrArg nI e)
    exact dd_nn (by omega) b2 (by omega)
  obtain ⟨V, hV0, hV1⟩ : ∃ V : UInt64, (nI (sm (uq w D L) k) = 0 → V = FP.dconst1) ∧ (¬ nI (sm (uq w D L) k) = 0 → V = FP.ddiv (FP.i2d (nI A)) (FP.i2d (nI (sm (uq w D L) k)))) := by
    by_cases z : nI (sm (uq w D L) k) = 0
    · exact ⟨FP.dconst1, fun _ => rfl, fun c => absurd z c⟩
    · exact ⟨_, fun c => absurd c z, fun _ => rfl⟩
  refine ⟨V, S', nI L, o', t', ?_, hk, ?_, ?_⟩
  · unfold F_X10_useful
    rw [hc, Option.bind_some]
    have key : ∀ m f1 i, k - i = m → i ≤ k → m < f1 → fx (fun _ _ _ => none) (B_X10_useful_9 P) f1 (nI (sm (uq w D L) i)) (nI i) S' = some (V, S') := by
      intro m
      induction m with
      | zero =>
        intro f1 i hm1 hi h1
        obtain ⟨f1, rfl⟩ : ∃ q, f1 = q + 1 := ⟨f1 - 1, by omega⟩
        have e : i = k := by omega
        rw [e, fx_s, B_X10_useful_9]
        unfold F_X3_strikerCount F_X7_spokeCount F_X7_markCount
        rw [hP.2.2.2.2.1, Option.bind_some, if_pos (nI_le (Nat.le_refl _) (by omega))]
        by_cases z : nI (sm (uq w D L) k) = 0
        · rw [if_pos z, hV0 z]
        · have e9 : nI (cn (fun n => !off w n) 2 (L - 1)) - nI (cn (mk w k D) 2 (L - 1)) = nI A := by
            rw [eA, e_sub (by omega)]
            exact congrArg nI (by omega)
          rw [if_neg z, hv.2.2.2, hv.2.2.1, Option.bind_some, Option.bind_some, e9, n64_ok (hnn z), hV1 z]
      | succ m ih =>
        intro f1 i hm1 hi h1
        obtain ⟨f1, rfl⟩ : ∃ q, f1 = q + 1 := ⟨f1 - 1, by omega⟩
        rw [fx_s, B_X10_useful_9]
        unfold F_X3_strikerCount
        rw [hP.2.2.2.2.1, Option.bind_some, if_neg (nI_ge (by omega) (by omega)), L_dOf hw hP (by omega), Option.bind_some, L_cs hw hL hv (by omega), Option.bind_some, nm_e1, nm_e1, e_add, show nI i + 1 = nI (i + 1) from e_add i 1]
        exact ih f1 (i + 1) (by omega) (by omega) (by omega)
    exact key k FUEL 0 rfl (by omega) (by unfold FUEL; omega)
  · unfold F_X11_useful
    rw [hm, Option.bind_some]
    have key : ∀ m f2 i, L + 1 - i = m → 2 ≤ i → i ≤ L + 1 ∨ i = 2 → m < f2 → fx (fun _ _ _ _ _ _ _ => none) (B_X11_useful_15 row) f2 (nI (cn (fun n => decide (¬ ht w k D n = 0)) 2 (i - 2))) (nI (sm (fun x => ht w k D (2 + x)) (i - 2))) (nI i) (nI L) o' 0 t' = some (V, (nI L, o', 0, t')) := by
      intro m
      induction m with
      | zero =>
        intro f2 i hm1 hi hi2 h1
        obtain ⟨f2, rfl⟩ : ∃ q, f2 = q + 1 := ⟨f2 - 1, by omega⟩
        have e : i - 2 = L - 1 := by omega
        rw [fx_s, B_X11_useful_15]
        rw [if_pos (nI_lt (by omega) (by omega)), e, ← eT, ← hA]
        by_cases z : nI (sm (uq w D L) k) = 0
        · rw [if_pos z, hV0 z]
        · rw [if_neg z, n64_ok (hnn z), hV1 z]
      | succ m ih =>
        intro f2 i hm1 hi hi2 h1
        obtain ⟨f2, rfl⟩ : ∃ q, f2 = q + 1 := ⟨f2 - 1, by omega⟩
        have hS2 := (hRS i (by omega)).2
        have hh : ht w k D i ≤ k := by
          unfold ht
          split
          · omega
          · exact cn_le _ _ _
        have ihh := ih f2 (i + 1) (by omega) (by omega) (Or.inl (by omega)) (by omega)
        rw [show i + 1 - 2 = (i - 2) + 1 by omega, cn_snoc, show 2 + (i - 2) = i by omega] at ihh
        have e2 : sm (fun x => ht w k D (2 + x)) (i - 2 + 1) = sm (fun x => ht w k D (2 + x)) (i - 2) + ht w k D i := by
          show _ + ht w k D (2 + (i - 2)) = _
          rw [show 2 + (i - 2) = i by omega]
        rw [e2] at ihh
        rw [fx_s, B_X11_useful_15]
        rw [if_neg (nI_nlt (by omega) (by omega)), ix_nI (by omega) (by decide), nI_clamp (by omega), hS2]
        obtain ⟨X, hX⟩ : ∃ X, X = cn (fun n => decide (¬ ht w k D n = 0)) 2 (i - 2) := ⟨_, rfl⟩
        obtain ⟨Y, hY⟩ : ∃ Y, Y = sm (fun x => ht w k D (2 + x)) (i - 2) := ⟨_, rfl⟩
        rw [← hX, ← hY] at ihh ⊢
        by_cases z : ht w k D i = 0
        · rw [z] at ihh ⊢
          rw [if_pos (show nI 0 ≤ 0 by decide), nm_e1, ix_nI (by omega) (by decide), nm_e1, nm_e1, show nI X + 0 = nI (X + 0) from e_add X 0, show nI Y + nI 0 = nI (Y + 0) from e_add Y 0, show nI i + 1 = nI (i + 1) from e_add i 1]
          exact ihh
        · rw [decide_eq_true z, if_pos rfl] at ihh
          rw [if_neg (nI_nle (by omega) (by omega)), nm_e1, ix_nI (by omega) (by decide), nm_e1, nm_e1, show nI X + 1 = nI (X + 1) from e_add X 1, e_add Y, show nI i + 1 = nI (i + 1) from e_add i 1]
          exact ihh
    exact key (L + 1 - 2) FUEL 2 rfl (by omega) (Or.inr rfl) (by unfold FUEL; omega)
  · refine dcmp_eq ?_
    by_cases z : nI (sm (uq w D L) k) = 0
    · rw [hV0 z]
      exact dc1_nn
    · rw [hV1 z]
      exact hnn z
end
