/-! ===== PURE: feed ===== -/
theorem low8 (z : Int32) : z.toInt8.toInt32 &&& 255 = z &&& 255 := by
  apply Int32.toBitVec_inj.mp
  rw [Int32.toBitVec_and, Int32.toBitVec_and, Int8.toBitVec_toInt32, Int32.toBitVec_toInt8]
  apply BitVec.eq_of_getLsbD_eq
  intro i hi
  rw [BitVec.getLsbD_and, BitVec.getLsbD_and]
  by_cases c : i < 8
  · rw [BitVec.getLsbD_signExtend, if_pos c, BitVec.getLsbD_signExtend, if_pos hi]
    simp [c, hi]
  · have : ∀ i, i < 32 → 8 ≤ i → (255 : Int32).toBitVec.getLsbD i = false := by decide
    rw [this i hi (by omega), Bool.and_false, Bool.and_false]
/-- byte k of an int, the most significant first -/
def ib (x : Int32) (k : Nat) : Nat := x.toBitVec.toNat / 2 ^ (24 - 8 * k) % 256
theorem shr_low (x : Int32) {s : Nat} (hs : s = 0 ∨ s = 8 ∨ s = 16 ∨ s = 24) : (x >>> nI s) &&& 255 = nI (x.toBitVec.toNat / 2 ^ s % 256) := by
  rw [pk_and (x >>> nI s) 8 (by decide)]
  congr 1
  have hx : x.toInt = x.toBitVec.toInt := rfl
  have hlt := x.toBitVec.isLt
  rw [BitVec.toInt_eq_toNat_cond] at hx
  rcases hs with rfl | rfl | rfl | rfl
  · have h := pk_shr x (nI 0) 0 (by decide)
    have a : (x >>> nI 0).toInt = (x >>> nI 0).toBitVec.toInt := rfl
    have hlt2 := (x >>> nI 0).toBitVec.isLt
    rw [BitVec.toInt_eq_toNat_cond] at a
    rw [a, hx, Int.shiftRight_eq_div_pow] at h
    split at h <;> split at h <;> omega
  · have h := pk_shr x (nI 8) 8 (by decide)
    have a : (x >>> nI 8).toInt = (x >>> nI 8).toBitVec.toInt := rfl
    have hlt2 := (x >>> nI 8).toBitVec.isLt
    rw [BitVec.toInt_eq_toNat_cond] at a
    rw [a, hx, Int.shiftRight_eq_div_pow] at h
    split at h <;> split at h <;> omega
  · have h := pk_shr x (nI 16) 16 (by decide)
    have a : (x >>> nI 16).toInt = (x >>> nI 16).toBitVec.toInt := rfl
    have hlt2 := (x >>> nI 16).toBitVec.isLt
    rw [BitVec.toInt_eq_toNat_cond] at a
    rw [a, hx, Int.shiftRight_eq_div_pow] at h
    split at h <;> split at h <;> omega
  · have h := pk_shr x (nI 24) 24 (by decide)
    have a : (x >>> nI 24).toInt = (x >>> nI 24).toBitVec.toInt := rfl
    have hlt2 := (x >>> nI 24).toBitVec.isLt
    rw [BitVec.toInt_eq_toNat_cond] at a
    rw [a, hx, Int.shiftRight_eq_div_pow] at h
    split at h <;> split at h <;> omega
theorem ushr_low (x : Int32) {s : Nat} (hs : s = 0 ∨ s = 8 ∨ s = 16 ∨ s = 24) : ((x.toUInt32 >>> ((nI s).toUInt32 &&& Int32.toUInt32 31)).toInt32).toInt8.toInt32 &&& 255 = nI (x.toBitVec.toNat / 2 ^ s % 256) := by
  rw [low8, pk_and _ 8 (by decide)]
  congr 1
  have h := pk_ushr x (nI s) s (by rcases hs with rfl | rfl | rfl | rfl <;> decide)
  rw [h]
/-- one int behind f bytes -/
theorem L_appendFour {x : Int32} {t : SrcT} {f : Nat} (hf : t.2.1 = nI f) (h : f + 4 ≤ 600) :
    ∃ t', F_X8_appendFour x t = some t' ∧ t'.2.1 = nI (f + 4) ∧ (∀ i, i < f → t'.1 i = t.1 i) ∧ ∀ i, i < 4 → t'.1 (f + i) &&& 255 = nI (ib x i) := by
  have step : ∀ (j s : Nat) (T : SrcT) (q : Nat), s ≤ 24 → T.2.1 = nI q → q < 600 →
      fx (fun _ _ => none) (B_X8_appendFour_3 x) (j + 1) (nI s) T = fx (fun _ _ => none) (B_X8_appendFour_3 x) j (nI s + (-8)) ((upd T.1 q ((x.toUInt32 >>> ((nI s).toUInt32 &&& Int32.toUInt32 31)).toInt32).toInt8.toInt32), nI (q + 1), T.2.2.1, T.2.2.2.1, T.2.2.2.2.1, T.2.2.2.2.2.1, T.2.2.2.2.2.2) := by
    intro j s T q hs hq h6
    rw [fx_s, B_X8_appendFour_3]
    rw [if_neg (nI_pos (by omega)), hq, if_neg (show ¬ (600 : Int32) ≤ nI q from nI_ge (b := 600) h6 (by decide)), nm_e1, ix_nI h6 (by decide), nm_e1, nI_clamp (by omega), pk_vb, nm_e1, show nI q + 1 = nI (q + 1) from e_add q 1]
  have e1 : nI 24 + (-8) = nI 16 := by decide
  have e2 : nI 16 + (-8) = nI 8 := by decide
  have e3 : nI 8 + (-8) = nI 0 := by decide
  have s1 := step 999999 24 t f (by omega) hf (by omega)
  rw [e1] at s1
  have s2 := step 999998 16 (upd t.1 f ((x.toUInt32 >>> ((nI 24).toUInt32 &&& Int32.toUInt32 31)).toInt32).toInt8.toInt32, nI (f + 1), t.2.2.1, t.2.2.2.1, t.2.2.2.2.1, t.2.2.2.2.2.1, t.2.2.2.2.2.2) (f + 1) (by omega) rfl (by omega)
  rw [e2] at s2
  have s3 := step 999997 8 (upd (upd t.1 f ((x.toUInt32 >>> ((nI 24).toUInt32 &&& Int32.toUInt32 31)).toInt32).toInt8.toInt32) (f + 1) ((x.toUInt32 >>> ((nI 16).toUInt32 &&& Int32.toUInt32 31)).toInt32).toInt8.toInt32, nI (f + 1 + 1), t.2.2.1, t.2.2.2.1, t.2.2.2.2.1, t.2.2.2.2.2.1, t.2.2.2.2.2.2) (f + 1 + 1) (by omega) rfl (by omega)
  rw [e3] at s3
  have s4 := step 999996 0 (upd (upd (upd t.1 f ((x.toUInt32 >>> ((nI 24).toUInt32 &&& Int32.toUInt32 31)).toInt32).toInt8.toInt32) (f + 1) ((x.toUInt32 >>> ((nI 16).toUInt32 &&& Int32.toUInt32 31)).toInt32).toInt8.toInt32) (f + 1 + 1) ((x.toUInt32 >>> ((nI 8).toUInt32 &&& Int32.toUInt32 31)).toInt32).toInt8.toInt32, nI (f + 1 + 1 + 1), t.2.2.1, t.2.2.2.1, t.2.2.2.2.1, t.2.2.2.2.2.1, t.2.2.2.2.2.2) (f + 1 + 1 + 1) (by omega) rfl (by omega)
  have s5 : ∀ T, fx (fun _ _ => none) (B_X8_appendFour_3 x) 999996 (nI 0 + (-8)) T = some T := fun T => by
    show B_X8_appendFour_3 x (fx (fun _ _ => none) (B_X8_appendFour_3 x) 999995) (nI 0 + (-8)) T = _
    rw [B_X8_appendFour_3, if_pos (by decide)]
  refine ⟨_, s1.trans (s2.trans (s3.trans (s4.trans (s5 _)))), rfl, ?_, ?_⟩
  · intro i hi
    show upd (upd (upd (upd t.1 f _) (f + 1) _) (f + 1 + 1) _) (f + 1 + 1 + 1) _ i = t.1 i
    rw [pk_un (by omega), pk_un (by omega), pk_un (by omega), pk_un (by omega)]
  · intro i hi
    show upd (upd (upd (upd t.1 f _) (f + 1) _) (f + 1 + 1) _) (f + 1 + 1 + 1) _ (f + i) &&& 255 = _
    match i, hi with
    | 0, _ =>
      rw [pk_un (by omega), pk_un (by omega), pk_un (by omega), show f + 0 = f from rfl, pk_us, ushr_low x (s := 24) (by decide)]
      rfl
    | 1, _ =>
      rw [pk_un (by omega), pk_un (by omega), pk_us, ushr_low x (s := 16) (by decide)]
      rfl
    | 2, _ =>
      rw [pk_un (by omega), show f + 2 = f + 1 + 1 from rfl, pk_us, ushr_low x (s := 8) (by decide)]
      rfl
    | 3, _ =>
      rw [show f + 3 = f + 1 + 1 + 1 from rfl, pk_us, ushr_low x (s := 0) (by decide)]
      rfl
/-- byte k of the five ints -/
def fw (x1 x2 x3 x4 x5 : Int32) (q : Nat) : Int32 := if q = 0 then x1 else if q = 1 then x2 else if q = 2 then x3 else if q = 3 then x4 else x5
theorem sh_at {k : Nat} (hk : k < 20) : ((24 - (8 * (nI k - nI k / 4 * 4))) &&& 31 : Int32) = nI (24 - 8 * (k % 4)) := by
  have e : nI k - nI k / 4 * 4 = nI (k % 4) := pk_rem (d := 4) (by omega) (by decide) (by decide)
  have e2 : (8 : Int32) * nI (k % 4) = nI (8 * (k % 4)) := e_mul 8 _
  have e3 : (24 : Int32) - nI (8 * (k % 4)) = nI (24 - 8 * (k % 4)) := e_sub (a := 24) (by omega)
  have e4 := pk_andN (n := 24 - 8 * (k % 4)) (by omega) (m := 31) 5 (by decide)
  rw [e, e2, e3, e4, Nat.mod_eq_of_lt (by omega)]