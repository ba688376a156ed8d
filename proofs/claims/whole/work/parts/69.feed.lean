/-! ===== PURE: feed ===== -/
theorem low8 (z : Int32) : z.toInt8.toInt32 &&& 255 = z &&& 255 := by
  apply Int32.toBitVec_inj.mp
  rw [Int32.toBitVec_and, Int32.toBitVec_and, Int8.toBitVec_toInt32, Int32.toBitVec_toInt8]
  apply BitVec.eq_of_getLsbD_eq
  intro i hi
  rw [BitVec.getLsbD_and, BitVec.getLsbD_and]
  by_cases c : i < 8
  · rw [BitVec.getLsbD_signExtend, if_pos c, BitVec.getLsbD_signExtend, if_pos hi]
    simp [c, hi]
  · have : ∀ i, i < 32 → 8 ≤ i → (255 : Int32).toBitVec.getLsbD i = false := by decide
    rw [this i hi (by omega), Bool.and_false, Bool.and_false]
/-- byte k of an int, the most significant first -/
def ib (x : Int32) (k : Nat) : Nat := x.toBitVec.toNat / 2 ^ (24 - 8 * k) % 256
theorem shr_low (x : Int32) {s : Nat} (hs : s = 0 ∨ s = 8 ∨ s = 16 ∨ s = 24) : (x >>> nI s) &&& 255 = nI (x.toBitVec.toNat / 2 ^ s % 256) := by
  rw [pk_and (x >>> nI s) 8 (by decide)]
  congr 1
  have hx : x.toInt = x.toBitVec.toInt := rfl
  have hlt := x.toBitVec.isLt
  rw [BitVec.toInt_eq_toNat_cond] at hx
  rcases hs with rfl | rfl | rfl | rfl
  · have h := pk_shr x (nI 0) 0 (by decide)
    have a : (x >>> nI 0).toInt = (x >>> nI 0).toBitVec.toInt := rfl
    have hlt2 := (x >>> nI 0).toBitVec.isLt
    rw [BitVec.toInt_eq_toNat_cond] at a
    rw [a, hx, Int.shiftRight_eq_div_pow] at h
    split at h <;> split at h <;> omega
  · have h := pk_shr x (nI 8) 8 (by decide)
    have a : (x >>> nI 8).toInt = (x >>> nI 8).toBitVec.toInt := rfl
    have hlt2 := (x >>> nI 8).toBitVec.isLt
    rw [BitVec.toInt_eq_toNat_cond] at a
    rw [a, hx, Int.shiftRight_eq_div_pow] at h
    split at h <;> split at h <;> omega
  · have h := pk_shr x (nI 16) 16 (by decide)
    have a : (x >>> nI 16).toInt = (x >>> nI 16).toBitVec.toInt := rfl
    have hlt2 := (x >>> nI 16).toBitVec.isLt
    rw [BitVec.toInt_eq_toNat_cond] at a
    rw [a, hx, Int.shiftRight_eq_div_pow] at h
    split at h <;> split at h <;> omega
  · have h := pk_shr x (nI 24) 24 (by decide)
    have a : (x >>> nI 24).toInt = (x >>> nI 24).toBitVec.toInt := rfl
    have hlt2 := (x >>> nI 24).toBitVec.isLt
    rw [BitVec.toInt_eq_toNat_cond] at a
    rw [a, hx, Int.shiftRight_eq_div_pow] at h
    split at h <;> split at h <;> omega
theorem ushr_low (x : Int32) {s : Nat} (hs : s = 0 ∨ s = 8 ∨ s = 16 ∨ s = 24) : ((x.toUInt32 >>> ((nI s).toUInt32 &&& Int32.toUInt32 31)).toInt32).toInt8.toInt32 &&& 255 = nI (x.toBitVec.toNat / 2 ^ s % 256) := by
  rw [low8, pk_and _ 8 (by decide)]
  congr 1
  have h := pk_ushr x (nI s) s (by rcases hs with rfl | rfl | rfl | rfl <;> decide)
  rw [h]
/-- one int behind f bytes -/
theorem L_appendFour {x : Int32} {t : SrcT} {f : Nat} (hf : t.2.1 = nI f) (h : f + 4 ≤ 600) :
    ∃ t', F_X8_appendFour x t = some t' ∧ t'.2.1 = nI (f + 4) ∧ (∀ i, i < f → t'.1 i = t.1 i) ∧ ∀ i, i < 4 → t'.1 (f + i) &&& 255 = nI (ib x i) := by
  have step : ∀ (j s : Nat) (T : SrcT) (q : Nat), s ≤ 24 → T.2.1 = nI q → q < 600 →
      fx (fun _ _ => none) (B_X8_appendFour_3 x) (j + 1) (nI s) T = fx (fun _ _ => none) (B_X8_appendFour_3 x) j (nI s + (-8)) ((upd T.1 q ((x.toUInt32 >>> ((nI s).toUInt32 &&& Int32.toUInt32 31)).toInt32).toInt8.toInt32), nI (q + 1), T.2.2.1, T.2.2.2.1, T.2.2.2.2.1, T.2.2.2.2.2.1, T.2.2.2.2.2.2) := by
    intro j s T q hs hq h6
    rw [fx_s, B_X8_appendFour_3]
    rw [if_neg (nI_pos (by omega)), hq, if_neg (show ¬ (600 : Int32) ≤ nI q from nI_ge (b := 600) h6 (by decide)), nm_e1, ix_nI h6 (by decide), nm_e1, nI_clamp (by omega), pk_vb, nm_e1, show nI q + 1 = nI (q + 1) from e_add q 1]
  have e1 : nI 24 + (-8) = nI 16 := by decide
  have e2 : nI 16 + (-8) = nI 8 := by decide
  have e3 : nI 8 + (-8) = nI 0 := by decide
  have s1 := step 999999 24 t f (by omega) hf (by omega)
  rw [e1] at s1
  have s2 := step 999998 16 (upd t.1 f ((x.toUInt32 >>> ((nI 24).toUInt32 &&& Int32.toUInt32 31)).toInt32).toInt8.toInt32, nI (f + 1), t.2.2.1, t.2.2.2.1, t.2.2.2.2.1, t.2.2.2.2.2.1, t.2.2.2.2.2.2) (f + 1) (by omega) rfl (by omega)
  rw [e2] at s2
  have s3 := step 999997 8 (upd (upd t.1 f ((x.toUInt32 >>> ((nI 24).toUInt32 &&& Int32.toUInt32 31)).toInt32).toInt8.toInt32) (f + 1) ((x.toUInt32 >>> ((nI 16).toUInt32 &&& Int32.toUInt32 31)).toInt32).toInt8.toInt32, nI (f + 1 + 1), t.2.2.1, t.2.2.2.1, t.2.2.2.2.1, t.2.2.2.2.2.1, t.2.2.2.2.2.2) (f + 1 + 1) (by omega) rfl (by omega)
  rw [e3] at s3
  have s4 := step 999996 0 (upd (upd (upd t.1 f ((x.toUInt32 >>> ((nI 24).toUInt32 &&& Int32.toUInt32 31)).toInt32).toInt8.toInt32) (f + 1) ((x.toUInt32 >>> ((nI 16).toUInt32 &&& Int32.toUInt32 31)).toInt32).toInt8.toInt32) (f + 1 + 1) ((x.toUInt32 >>> ((nI 8).toUInt32 &&& Int32.toUInt32 31)).toInt32).toInt8.toInt32, nI (f + 1 + 1 + 1), t.2.2.1, t.2.2.2.1, t.2.2.2.2.1, t.2.2.2.2.2.1, t.2.2.2.2.2.2) (f + 1 + 1 + 1) (by omega) rfl (by omega)
  have s5 : ∀ T, fx (fun _ _ => none) (B_X8_appendFour_3 x) 999996 (nI 0 + (-8)) T = some T := fun T => by
    show B_X8_appendFour_3 x (fx (fun _ _ => none) (B_X8_appendFour_3 x) 999995) (nI 0 + (-8)) T = _
    rw [B_X8_appendFour_3, if_pos (by decide)]
  refine ⟨_, s1.trans (s2.trans (s3.trans (s4.trans (s5 _)))), rfl, ?_, ?_⟩
  · intro i hi
    show upd (upd (upd (upd t.1 f _) (f + 1) _) (f + 1 + 1) _) (f + 1 + 1 + 1) _ i = t.1 i
    rw [pk_un (by omega), pk_un (by omega), pk_un (by omega), pk_un (by omega)]
  · intro i hi
    show upd (upd (upd (upd t.1 f _) (f + 1) _) (f + 1 + 1) _) (f + 1 + 1 + 1) _ (f + i) &&& 255 = _
    match i, hi with
    | 0, _ =>
      rw [pk_un (by omega), pk_un (by omega), pk_un (by omega), show f + 0 = f from rfl, pk_us, ushr_low x (s := 24) (by decide)]
      rfl
    | 1, _ =>
      rw [pk_un (by omega), pk_un (by omega), pk_us, ushr_low x (s := 16) (by decide)]
      rfl
    | 2, _ =>
      rw [pk_un (by omega), show f + 2 = f + 1 + 1 from rfl, pk_us, ushr_low x (s := 8) (by decide)]
      rfl
    | 3, _ =>
      rw [show f + 3 = f + 1 + 1 + 1 from rfl, pk_us, ushr_low x (s := 0) (by decide)]
      rfl
/-- byte k of the five ints -/
def fw (x1 x2 x3 x4 x5 : Int32) (q : Nat) : Int32 := if q = 0 then x1 else if q = 1 then x2 else if q = 2 then x3 else if q = 3 then x4 else x5
theorem sh_at {k : Nat} (hk : k < 20) : ((24 - (8 * (nI k - nI k / 4 * 4))) &&& 31 : Int32) = nI (24 - 8 * (k % 4)) := by
  have e : nI k - nI k / 4 * 4 = nI (k % 4) := pk_rem (d := 4) (by omega) (by decide) (by decide)
  have e2 : (8 : Int32) * nI (k % 4) = nI (8 * (k % 4)) := e_mul 8 _
  have e3 : (24 : Int32) - nI (8 * (k % 4)) = nI (24 - 8 * (k % 4)) := e_sub (a := 24) (by omega)
  have e4 := pk_andN (n := 24 - 8 * (k % 4)) (by omega) (m := 31) 5 (by decide)
  rw [e, e2, e3, e4, Nat.mod_eq_of_lt (by omega)]
theorem M_feed (x1 x2 x3 x4 x5 th : Int32) : ∀ m f2 k f (b : Nat → Int32), 20 - k = m → k ≤ 20 → f + m ≤ 600 → m < f2 →
    ∃ b', fx (fun _ _ _ _ => none) (B_X11_feed_23 x1 x2 x3 x4 x5) f2 (nI k) b (nI f) th = some (nI (f + m), (b', nI (f + m), th)) ∧ (∀ i, i < f → b' i = b i) ∧ ∀ i, i < m → b' (f + i) = nI (ib (fw x1 x2 x3 x4 x5 ((k + i) / 4)) ((k + i) % 4))
  | 0, f2, k, f, b, hm, hk, hf, h2 => by
    obtain ⟨f2, rfl⟩ : ∃ q, f2 = q + 1 := ⟨f2 - 1, by omega⟩
    have e : k = 20 := by omega
    subst e
    refine ⟨b, ?_, fun _ _ => rfl, fun i hi => absurd hi (by omega)⟩
    rw [fx_s, B_X11_feed_23]
    rw [if_pos (show (20 : Int32) ≤ nI 20 by decide)]
    rfl
  | m + 1, f2, k, f, b, hm, hk, hf, h2 => by
    obtain ⟨f2, rfl⟩ : ∃ q, f2 = q + 1 := ⟨f2 - 1, by omega⟩
    have hs := sh_at (k := k) (by omega)
    have hb : ∀ z : Int32, (z >>> nI (24 - 8 * (k % 4))) &&& 255 = nI (ib z (k % 4)) := fun z => shr_low z (by omega)
    obtain ⟨b', p1, p2, p3⟩ := M_feed x1 x2 x3 x4 x5 th m f2 (k + 1) (f + 1) (upd b f (nI (ib (fw x1 x2 x3 x4 x5 (k / 4)) (k % 4)))) (by omega) (by omega) (by omega) (by omega)
    have next : nI k + 1 = nI (k + 1) := e_add k 1
    have nf : nI f + 1 = nI (f + 1) := e_add f 1
    refine ⟨b', ?_, fun i hi => ?_, fun i hi => ?_⟩
    · have fin : ∀ z, z = fw x1 x2 x3 x4 x5 (k / 4) → nm (((z >>> ((24 - (8 * (nI k - nI k / 4 * 4))) &&& 31)) &&& 255)) (fun a_7 => ix (nI f) 600 (nm ((nI f + 1)) (fun f_9 => nm (nI k + 1) (fun x6_10 => fx (fun _ _ _ _ => none) (B_X11_feed_23 x1 x2 x3 x4 x5) f2 x6_10 (upd b (nI f).toNatClampNeg a_7) f_9 th)))) = some (nI (f + (m + 1)), (b', nI (f + (m + 1)), th)) := by
        intro z hz
        rw [nm_e1, hs, hb, ix_nI (by omega) (by decide), nm_e1, nm_e1, nI_clamp (by omega), next, nf, hz, p1, show f + 1 + m = f + (m + 1) by omega]
      rw [fx_s, B_X11_feed_23]
      rw [if_neg (show ¬ (20 : Int32) ≤ nI k from nI_ge (b := 20) (by omega) (by decide))]
      by_cases c4 : k < 4
      · rw [if_neg (show ¬ (4 : Int32) ≤ nI k from nI_ge (b := 4) c4 (by decide))]
        refine fin x1 ?_
        unfold fw
        rw [if_pos (by omega)]
      rw [if_pos (show (4 : Int32) ≤ nI k from nI_le (a := 4) (by omega) (by omega))]
      by_cases c8 : k < 8
      · rw [if_neg (show ¬ (8 : Int32) ≤ nI k from nI_ge (b := 8) c8 (by decide))]
        refine fin x2 ?_
        unfold fw
        rw [if_neg (by omega), if_pos (by omega)]
      rw [if_pos (show (8 : Int32) ≤ nI k from nI_le (a := 8) (by omega) (by omega))]
      by_cases c12 : k < 12
      · rw [if_neg (show ¬ (12 : Int32) ≤ nI k from nI_ge (b := 12) c12 (by decide))]
        refine fin x3 ?_
        unfold fw
        rw [if_neg (by omega), if_neg (by omega), if_pos (by omega)]
      rw [if_pos (show (12 : Int32) ≤ nI k from nI_le (a := 12) (by omega) (by omega))]
      by_cases c16 : k < 16
      · rw [if_neg (show ¬ (16 : Int32) ≤ nI k from nI_ge (b := 16) c16 (by decide))]
        refine fin x4 ?_
        unfold fw
        rw [if_neg (by omega), if_neg (by omega), if_neg (by omega), if_pos (by omega)]
      rw [if_pos (show (16 : Int32) ≤ nI k from nI_le (a := 16) (by omega) (by omega))]
      refine fin x5 ?_
      unfold fw
      rw [if_neg (by omega), if_neg (by omega), if_neg (by omega), if_neg (by omega)]
    · rw [p2 i (by omega), pk_un (by omega)]
    · by_cases e : i = 0
      · subst e
        rw [show f + 0 = f from rfl, p2 f (by omega), pk_us]
        rfl
      · have := p3 (i - 1) (by omega)
        rw [show f + 1 + (i - 1) = f + i by omega, show k + 1 + (i - 1) = k + i by omega] at this
        exact this
theorem O_feed {g : Nat → Nat} {f : Nat} {src : SrcT} {b : Nat → Int32} (hB : BY g f src.1 b) (hf : src.2.1 = nI f) (x1 x2 x3 x4 x5 th : Int32) :
    ∃ r src' b' bl' f' g', F_X10_feed x1 x2 x3 x4 x5 src = some (r, src') ∧ F_X11_feed x1 x2 x3 x4 x5 b (nI f) th = some (r, (b', bl', 0)) ∧ bl' = nI f' ∧ src'.2.1 = nI f' ∧ BY g' f' src'.1 b' := by
  have h6 := hB.1
  unfold F_X10_feed F_X11_feed F_X8_filled
  rw [hf, Option.bind_some, show nI f + 20 = nI (f + 20) from e_add f 20]
  by_cases c : f + 20 ≤ 600
  · obtain ⟨b', p1, p2, p3⟩ := M_feed x1 x2 x3 x4 x5 0 20 FUEL 0 f b rfl (by omega) c (by unfold FUEL; omega)
    obtain ⟨s1, a1, a2, a3, a4⟩ := L_appendFour (x := x1) hf (by omega)
    obtain ⟨s2, b1, b2, b3, b4⟩ := L_appendFour (x := x2) a2 (by omega)
    obtain ⟨s3, c1, c2, c3, c4⟩ := L_appendFour (x := x3) b2 (by omega)
    obtain ⟨s4, d1, d2, d3, d4⟩ := L_appendFour (x := x4) c2 (by omega)
    obtain ⟨s5, e1, e2, e3, e4⟩ := L_appendFour (x := x5) d2 (by omega)
    have hc : nI (f + 20) ≤ 600 := nI_le (b := 600) c (by decide)
    rw [if_pos hc, if_pos hc, a1, Option.bind_some, b1, Option.bind_some, c1, Option.bind_some, d1, Option.bind_some, e1, Option.bind_some, Option.bind_some]
    have e2 : s5.2.1 = nI (f + 20) := e2
    refine ⟨nI (f + 20), s5, b', nI (f + 20), f + 20, fun i => if i < f then g i else ib (fw x1 x2 x3 x4 x5 ((i - f) / 4)) ((i - f) % 4), by rw [e2], p1, rfl, e2, c, fun i hi => ?_⟩
    show (if i < f then g i else ib (fw x1 x2 x3 x4 x5 ((i - f) / 4)) ((i - f) % 4)) < 256 ∧ s5.1 i &&& 255 = nI (if i < f then g i else ib (fw x1 x2 x3 x4 x5 ((i - f) / 4)) ((i - f) % 4)) ∧ b' i = nI (if i < f then g i else ib (fw x1 x2 x3 x4 x5 ((i - f) / 4)) ((i - f) % 4))
    by_cases q : i < f
    · rw [if_pos q, e3 i (by omega), d3 i (by omega), c3 i (by omega), b3 i (by omega), a3 i q, p2 i q]
      exact hB.2 i q
    · rw [if_neg q]
      have pb := p3 (i - f) (by omega)
      rw [show f + (i - f) = i by omega, Nat.zero_add] at pb
      refine ⟨Nat.mod_lt _ (by decide), ?_, pb⟩
      by_cases q1 : i < f + 4
      · have := a4 (i - f) (by omega)
        rw [show f + (i - f) = i by omega] at this
        rw [e3 i (by omega), d3 i (by omega), c3 i (by omega), b3 i (by omega), this, show (i - f) / 4 = 0 by omega, show (i - f) % 4 = i - f by omega]
        rfl
      by_cases q2 : i < f + 8
      · have := b4 (i - (f + 4)) (by omega)
        rw [show f + 4 + (i - (f + 4)) = i by omega] at this
        rw [e3 i (by omega), d3 i (by omega), c3 i (by omega), this, show (i - f) / 4 = 1 by omega, show (i - f) % 4 = i - (f + 4) by omega]
        rfl
      by_cases q3 : i < f + 12
      · have := c4 (i - (f + 4 + 4)) (by omega)
        rw [show f + 4 + 4 + (i - (f + 4 + 4)) = i by omega] at this
        rw [e3 i (by omega), d3 i (by omega), this, show (i - f) / 4 = 2 by omega, show (i - f) % 4 = i - (f + 4 + 4) by omega]
        rfl
      by_cases q4 : i < f + 16
      · have := d4 (i - (f + 4 + 4 + 4)) (by omega)
        rw [show f + 4 + 4 + 4 + (i - (f + 4 + 4 + 4)) = i by omega] at this
        rw [e3 i (by omega), this, show (i - f) / 4 = 3 by omega, show (i - f) % 4 = i - (f + 4 + 4 + 4) by omega]
        rfl
      · have := e4 (i - (f + 4 + 4 + 4 + 4)) (by omega)
        rw [show f + 4 + 4 + 4 + 4 + (i - (f + 4 + 4 + 4 + 4)) = i by omega] at this
        rw [this, show (i - f) / 4 = 4 by omega, show (i - f) % 4 = i - (f + 4 + 4 + 4 + 4) by omega]
        rfl
  · have hc : ¬ nI (f + 20) ≤ 600 := nI_ge (a := 600) (by omega) (by omega)
    rw [if_neg hc, if_neg hc]
    exact ⟨-1, src, b, nI f, f, g, rfl, rfl, rfl, hf, hB⟩
