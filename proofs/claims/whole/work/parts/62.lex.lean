/-! ===== PURE: bytes and tokens ===== -/
/-- f bytes g stand in both buffers -/
def BY (g : Nat → Nat) (f : Nat) (sb b : Nat → Int32) : Prop := f ≤ 600 ∧ ∀ i, i < f → g i < 256 ∧ sb i &&& 255 = nI (g i) ∧ b i = nI (g i)
def lx_le (x : Nat) : Bool := decide (97 ≤ x ∧ x ≤ 122)
def lx_dg (x : Nat) : Bool := decide (48 ≤ x ∧ x ≤ 57)
def lx_bl (x : Nat) : Bool := decide (x = 32 ∨ x = 10)
theorem X_isLetter {x : Nat} (h : x < 256) : F_X8_isLetter (nI x) = some (lx_le x) := by
  unfold F_X8_isLetter lx_le
  by_cases c : x < 97
  · rw [if_pos (show nI x < 97 from nI_lt (b := 97) c (by decide)), decide_eq_false (by omega)]
  · rw [if_neg (show ¬ nI x < 97 from nI_nlt (b := 97) (by omega) (by omega))]
    by_cases d : x ≤ 122
    · rw [if_neg (show ¬ 122 < nI x from nI_nlt (a := 122) d (by decide)), decide_eq_true (by omega)]
    · rw [if_pos (show 122 < nI x from nI_lt (a := 122) (by omega) (by omega)), decide_eq_false (by omega)]
theorem X_isDigit {x : Nat} (h : x < 256) : F_X8_isDigit (nI x) = some (lx_dg x) := by
  unfold F_X8_isDigit lx_dg
  by_cases c : x < 48
  · rw [if_pos (show nI x < 48 from nI_lt (b := 48) c (by decide)), decide_eq_false (by omega)]
  · rw [if_neg (show ¬ nI x < 48 from nI_nlt (b := 48) (by omega) (by omega))]
    by_cases d : x ≤ 57
    · rw [if_neg (show ¬ 57 < nI x from nI_nlt (a := 57) d (by decide)), decide_eq_true (by omega)]
    · rw [if_pos (show 57 < nI x from nI_lt (a := 57) (by omega) (by omega)), decide_eq_false (by omega)]
theorem nI_eq_lit {x : Nat} (a : Nat) (h : x < 2 ^ 31) (ha : a < 2 ^ 31) : (nI x = nI a) ↔ x = a := by
  rw [e_eq h ha]
theorem X_isBlank {x : Nat} (h : x < 256) : F_X8_isBlank (nI x) = some (lx_bl x) := by
  unfold F_X8_isBlank lx_bl
  by_cases c : x = 32
  · subst c; rfl
  · rw [if_neg (show ¬ nI x = 32 from fun e => c ((nI_eq_lit 32 (by omega) (by decide)).mp e))]
    by_cases d : x = 10
    · subst d; rfl
    · rw [if_neg (show ¬ nI x = 10 from fun e => d ((nI_eq_lit 10 (by omega) (by decide)).mp e)), decide_eq_false (by omega)]
section
variable {g : Nat → Nat} {f n : Nat} {sb b : Nat → Int32}
theorem L_byteAt (hB : BY g f sb b) {i : Nat} (hi : i < f) (t : SrcT) (ht : t.1 = sb) : F_X8_byteAt (nI i) t = some (nI (g i)) := by
  have h6 := hB.1
  unfold F_X8_byteAt
  rw [if_neg (nI_pos (by omega)), if_pos (show nI i < 600 from nI_lt (b := 600) (by omega) (by decide)), ix_nI (by omega) (by decide), nI_clamp (by omega), ht, (hB.2 i hi).2.1]
theorem M_byteAt (hB : BY g f sb b) (hn : n ≤ f) {i : Nat} (hi : i < n) : F_X11_byteAt (nI i) b (nI n) = some (nI (g i)) := by
  have h6 := hB.1
  unfold F_X11_byteAt
  rw [if_neg (nI_ge hi (by omega)), ix_nI (by omega) (by decide), nI_clamp (by omega), (hB.2 i (by omega)).2.2]
theorem M_byteAt_end (hn : n < 2 ^ 31) : F_X11_byteAt (nI n) b (nI n) = some (-1) := by
  unfold F_X11_byteAt
  rw [if_pos (nI_le (Nat.le_refl _) hn)]
theorem M_isLetter (hB : BY g f sb b) (hn : n ≤ f) {i : Nat} (hi : i < n) : F_X11_isLetter (nI i) b (nI n) = some (lx_le (g i)) := by
  have := X_isLetter (hB.2 i (by omega)).1
  unfold F_X8_isLetter at this
  unfold F_X11_isLetter
  rw [M_byteAt hB hn hi, Option.bind_some, Option.bind_some]
  exact this
theorem M_isDigit (hB : BY g f sb b) (hn : n ≤ f) {i : Nat} (hi : i < n) : F_X11_isDigit (nI i) b (nI n) = some (lx_dg (g i)) := by
  have := X_isDigit (hB.2 i (by omega)).1
  unfold F_X8_isDigit at this
  unfold F_X11_isDigit
  rw [M_byteAt hB hn hi, Option.bind_some, Option.bind_some]
  exact this
theorem M_isLetter_end (hn : n < 2 ^ 31) : F_X11_isLetter (nI n) b (nI n) = some false := by
  unfold F_X11_isLetter
  rw [M_byteAt_end hn]
  rfl
theorem M_isDigit_end (hn : n < 2 ^ 31) : F_X11_isDigit (nI n) b (nI n) = some false := by
  unfold F_X11_isDigit
  rw [M_byteAt_end hn]
  rfl
theorem lk_let (hB : BY g f sb b) (hn : n ≤ f) (fl kd st vl ba tok : Int32) : ∀ m f1 f2 j, n - j = m → j ≤ n → m < f1 → m < f2 →
    ∃ j', j ≤ j' ∧ j' ≤ n ∧ fx (fun _ => none) B_X8_skipLetters_0 f1 (sb, fl, nI n, nI j, kd, st, vl) = some (sb, fl, nI n, nI j', kd, st, vl) ∧ fx (fun _ _ _ => none) (B_X11_scan_77 b (nI n)) f2 ba (nI j) tok = some (ba, nI j', 1)
  | 0, f1, f2, j, hm, hj, h1, h2 => by
    have h6 := hB.1
    obtain ⟨f1, rfl⟩ : ∃ q, f1 = q + 1 := ⟨f1 - 1, by omega⟩
    obtain ⟨f2, rfl⟩ : ∃ q, f2 = q + 1 := ⟨f2 - 1, by omega⟩
    have ej : j = n := by omega
    subst ej
    refine ⟨j, Nat.le_refl _, Nat.le_refl _, ?_, ?_⟩
    · rw [fx_s, B_X8_skipLetters_0]
      exact if_pos (nI_le (Nat.le_refl _) (by omega))
    · rw [fx_s, B_X11_scan_77]
      rw [M_isLetter_end (by omega)]
      rfl
  | m + 1, f1, f2, j, hm, hj, h1, h2 => by
    have h6 := hB.1
    obtain ⟨f1, rfl⟩ : ∃ q, f1 = q + 1 := ⟨f1 - 1, by omega⟩
    obtain ⟨f2, rfl⟩ : ∃ q, f2 = q + 1 := ⟨f2 - 1, by omega⟩
    have c : ¬ nI n ≤ nI j := nI_ge (by omega) (by omega)
    have next : nI j + 1 = nI (j + 1) := e_add j 1
    have b1 := L_byteAt hB (i := j) (by omega) (sb, fl, nI n, nI j, kd, st, vl) rfl
    have b2 := X_isLetter (hB.2 j (by omega)).1
    have b3 := M_isLetter hB hn (i := j) (by omega)
    by_cases q : lx_le (g j) = true
    · rw [q] at b2 b3
      obtain ⟨j', k1, k2, k3, k4⟩ := lk_let hB hn fl kd st vl ba tok m f1 f2 (j + 1) (by omega) (by omega) (by omega) (by omega)
      refine ⟨j', by omega, k2, ?_, ?_⟩
      · rw [fx_s, B_X8_skipLetters_0]
        show (if nI n ≤ nI j then _ else (F_X8_byteAt (nI j) _).bind _) = _
        rw [if_neg c, b1, Option.bind_some, b2, Option.bind_some, if_pos rfl, nm_e1]
        show fx (fun _ => none) B_X8_skipLetters_0 f1 (sb, fl, nI n, nI j + 1, kd, st, vl) = _
        rw [next]
        exact k3
      · rw [fx_s, B_X11_scan_77]
        rw [b3, Option.bind_some, if_pos rfl, nm_e1, next]
        exact k4
    · have q' := Bool.eq_false_iff.mpr q
      rw [q'] at b2 b3
      refine ⟨j, Nat.le_refl _, hj, ?_, ?_⟩
      · rw [fx_s, B_X8_skipLetters_0]
        show (if nI n ≤ nI j then _ else (F_X8_byteAt (nI j) _).bind _) = _
        rw [if_neg c, b1, Option.bind_some, b2]
        rfl
      · rw [fx_s, B_X11_scan_77]
        rw [b3]
        rfl
/-- the value of a run of digits: the reference's, and how the class's stands to it -/
def rs (v x : Nat) : Nat := if v ≤ 9999999 then 10 * v + x - 48 else v
def rv (g : Nat → Nat) (i : Nat) : Nat → Nat
  | 0 => 0
  | k + 1 => rs (rv g i k) (g (i + k))
def VR (c r : Nat) : Prop := (c = r ∧ r < 1000000) ∨ (c = 1000000 ∧ 1000000 ≤ r ∧ r < 100000000)
theorem VR.lt {c r : Nat} (h : VR c r) : c ≤ 1000000 ∧ r < 100000000 := by
  rcases h with h | h <;> omega
theorem VR.step {c r x : Nat} (h : VR c r) (h1 : 48 ≤ x) (h2 : x ≤ 57) : VR (if 1000000 < c * 10 + x - 48 then 1000000 else c * 10 + x - 48) (rs r x) := by
  unfold rs
  rcases h with ⟨rfl, h⟩ | ⟨rfl, h3, h4⟩
  · rw [if_pos (show c ≤ 9999999 by omega)]
    by_cases q : 1000000 < c * 10 + x - 48
    · rw [if_pos q]; exact Or.inr ⟨rfl, by omega, by omega⟩
    · rw [if_neg q]
      by_cases q2 : c * 10 + x - 48 = 1000000
      · exact Or.inr ⟨q2, by omega, by omega⟩
      · exact Or.inl ⟨by omega, by omega⟩
  · by_cases q : 1000000 < 1000000 * 10 + x - 48
    · rw [if_pos q]
      refine Or.inr ⟨rfl, ?_, ?_⟩
      · split <;> omega
      · split <;> omega
    · omega
theorem lk_dig (hB : BY g f sb b) (hn : n ≤ f) (fl kd st ba tok : Int32) (i : Nat) : ∀ m f1 f2 j c, n - j = m → j ≤ n → i ≤ j → VR c (rv g i (j - i)) → (∀ k, i + k < j → 48 ≤ g (i + k) ∧ g (i + k) ≤ 57) → m < f1 → m < f2 →
    ∃ j' c', j ≤ j' ∧ j' ≤ n ∧ (VR c' (rv g i (j' - i)) ∧ ∀ k, i + k < j' → 48 ≤ g (i + k) ∧ g (i + k) ≤ 57) ∧ fx (fun _ => none) B_X8_readDigits_0 f1 (sb, fl, nI n, nI j, kd, st, nI c) = some (sb, fl, nI n, nI j', kd, st, nI c') ∧ fx (fun _ _ _ => none) (B_X11_scan_120 b (nI n)) f2 ba (nI j) tok = some (ba, nI j', 2)
  | 0, f1, f2, j, c, hm, hj, hi, hv, hd, h1, h2 => by
    have h6 := hB.1
    obtain ⟨f1, rfl⟩ : ∃ q, f1 = q + 1 := ⟨f1 - 1, by omega⟩
    obtain ⟨f2, rfl⟩ : ∃ q, f2 = q + 1 := ⟨f2 - 1, by omega⟩
    have ej : j = n := by omega
    subst ej
    refine ⟨j, c, Nat.le_refl _, Nat.le_refl _, ⟨hv, hd⟩, ?_, ?_⟩
    · rw [fx_s, B_X8_readDigits_0]
      exact if_pos (nI_le (Nat.le_refl _) (by omega))
    · rw [fx_s, B_X11_scan_120]
      rw [M_isDigit_end (by omega)]
      rfl
  | m + 1, f1, f2, j, c, hm, hj, hi, hv, hd, h1, h2 => by
    have h6 := hB.1
    obtain ⟨f1, rfl⟩ : ∃ q, f1 = q + 1 := ⟨f1 - 1, by omega⟩
    obtain ⟨f2, rfl⟩ : ∃ q, f2 = q + 1 := ⟨f2 - 1, by omega⟩
    have dn : ¬ nI n ≤ nI j := nI_ge (by omega) (by omega)
    have next : nI j + 1 = nI (j + 1) := e_add j 1
    have b1 := L_byteAt hB (i := j) (by omega) (sb, fl, nI n, nI j, kd, st, nI c) rfl
    have hg := (hB.2 j (by omega)).1
    have b2 := X_isDigit hg
    have b3 := M_isDigit hB hn (i := j) (by omega)
    have hc := hv.lt
    by_cases q : lx_dg (g j) = true
    · rw [q] at b2 b3
      unfold lx_dg at q
      have q := of_decide_eq_true q
      have hv2 := hv.step q.1 q.2
      have er : rs (rv g i (j - i)) (g j) = rv g i (j + 1 - i) := by
        rw [show j + 1 - i = (j - i) + 1 by omega]
        show _ = rs (rv g i (j - i)) (g (i + (j - i)))
        rw [show i + (j - i) = j by omega]
      rw [er] at hv2
      obtain ⟨j', c', k1, k2, k5, k3, k4⟩ := lk_dig hB hn fl kd st ba tok i m f1 f2 (j + 1) _ (by omega) (by omega) (by omega) hv2 (fun k hk => by
        by_cases z : i + k = j
        · rw [z]; exact q
        · exact hd k (by omega)) (by omega) (by omega)
      have ev : nI c * 10 + nI (g j) - 48 = nI (c * 10 + g j - 48) := by
        rw [show nI c * 10 = nI (c * 10) from e_mul c 10, e_add]
        exact e_sub (b := 48) (by omega)
      have ev2 : (if 1000000 < nI c * 10 + nI (g j) - 48 then (1000000 : Int32) else nI c * 10 + nI (g j) - 48) = nI (if 1000000 < c * 10 + g j - 48 then 1000000 else c * 10 + g j - 48) := by
        rw [ev]
        by_cases z : 1000000 < c * 10 + g j - 48
        · rw [if_pos z, if_pos (show (1000000 : Int32) < nI _ from nI_lt (a := 1000000) z (by omega))]
          rfl
        · rw [if_neg z, if_neg (show ¬ (1000000 : Int32) < nI _ from nI_nlt (a := 1000000) (by omega) (by decide))]
      refine ⟨j', c', by omega, k2, k5, ?_, ?_⟩
      · rw [fx_s, B_X8_readDigits_0]
        show (if nI n ≤ nI j then _ else (F_X8_byteAt (nI j) _).bind _) = _
        rw [if_neg dn, b1, Option.bind_some, b2, Option.bind_some, if_pos rfl, Option.bind_some, nm_e1, nm_e1]
        show fx (fun _ => none) B_X8_readDigits_0 f1 (sb, fl, nI n, nI j + 1, kd, st, if 1000000 < nI c * 10 + nI (g j) - 48 then (1000000 : Int32) else nI c * 10 + nI (g j) - 48) = _
        rw [next, ev2]
        exact k3
      · rw [fx_s, B_X11_scan_120]
        rw [b3, Option.bind_some, if_pos rfl, nm_e1, next]
        exact k4
    · have q' := Bool.eq_false_iff.mpr q
      rw [q'] at b2 b3
      refine ⟨j, c, Nat.le_refl _, hj, ⟨hv, hd⟩, ?_, ?_⟩
      · rw [fx_s, B_X8_readDigits_0]
        show (if nI n ≤ nI j then _ else (F_X8_byteAt (nI j) _).bind _) = _
        rw [if_neg dn, b1, Option.bind_some, b2]
        rfl
      · rw [fx_s, B_X11_scan_120]
        rw [b3]
        rfl
/-- one token, as both hold it -/
def TK (g : Nat → Nat) (n : Nat) (t : SrcT) (ba nb tok : Int32) : Prop :=
  ∃ i j, i ≤ j ∧ j ≤ n ∧ t.2.2.1 = nI n ∧ t.2.2.2.1 = nI j ∧ nb = nI j ∧ t.2.2.2.2.2.1 = nI i ∧ ba = nI i ∧
    ((t.2.2.2.2.1 = 0 ∧ tok = 0) ∨ (t.2.2.2.2.1 = 1 ∧ tok = 1) ∨ (t.2.2.2.2.1 = 2 ∧ tok = 2 ∧ ∃ c, t.2.2.2.2.2.2 = nI c ∧ VR c (rv g i (j - i)) ∧ ∀ k, i + k < j → 48 ≤ g (i + k) ∧ g (i + k) ≤ 57) ∨
      (t.2.2.2.2.1 = 3 ∧ tok = 3 ∧ i < n ∧ g i = 59) ∨ (t.2.2.2.2.1 = 4 ∧ tok = 3 ∧ i < n ∧ ¬ g i = 59))
theorem lk_adv (hB : BY g f sb b) (hn : n ≤ f) (fl kd st vl ba tok : Int32) : ∀ m f1 f2 j, n - j = m → j ≤ n → m < f1 → m < f2 →
    ∃ t' ba' nb' tok', fx (fun _ => none) B_X8_advance_0 f1 (sb, fl, nI n, nI j, kd, st, vl) = some t' ∧ fx (fun _ _ _ => none) (B_X11_scan_0 b (nI n)) f2 ba (nI j) tok = some (ba', nb', tok') ∧ t'.1 = sb ∧ t'.2.1 = fl ∧ TK g n t' ba' nb' tok'
  | 0, f1, f2, j, hm, hj, h1, h2 => by
    have h6 := hB.1
    obtain ⟨f1, rfl⟩ : ∃ q, f1 = q + 1 := ⟨f1 - 1, by omega⟩
    obtain ⟨f2, rfl⟩ : ∃ q, f2 = q + 1 := ⟨f2 - 1, by omega⟩
    have ej : j = n := by omega
    subst ej
    refine ⟨(sb, fl, nI j, nI j, 0, nI j, 0), nI j, nI j, 0, ?_, ?_, rfl, rfl, j, j, Nat.le_refl _, Nat.le_refl _, rfl, rfl, rfl, rfl, rfl, Or.inl ⟨rfl, rfl⟩⟩
    · rw [fx_s, B_X8_advance_0]
      show (if nI j ≤ nI j then (if nI j < nI j then _ else _) else _) = _
      rw [if_pos (nI_le (Nat.le_refl _) (by omega)), if_neg (nI_nlt (Nat.le_refl _) (by omega))]
    · rw [fx_s, B_X11_scan_0]
      rw [M_byteAt_end (by omega), Option.bind_some, if_neg (by decide), Option.bind_some, if_neg (by decide), if_neg (nI_nlt (Nat.le_refl _) (by omega))]
  | m + 1, f1, f2, j, hm, hj, h1, h2 => by
    have h6 := hB.1
    obtain ⟨f1, rfl⟩ : ∃ q, f1 = q + 1 := ⟨f1 - 1, by omega⟩
    obtain ⟨f2, rfl⟩ : ∃ q, f2 = q + 1 := ⟨f2 - 1, by omega⟩
    have c : ¬ nI n ≤ nI j := nI_ge (by omega) (by omega)
    have c' : nI j < nI n := nI_lt (by omega) (by omega)
    have next : nI j + 1 = nI (j + 1) := e_add j 1
    have hg := (hB.2 j (by omega)).1
    have b1 := L_byteAt hB (i := j) (by omega) (sb, fl, nI n, nI j, kd, st, vl) rfl
    have b1' := L_byteAt hB (i := j) (by omega) (sb, fl, nI n, nI j, kd, nI j, 0) rfl
    have b2 := X_isBlank hg
    have b3 := M_byteAt hB hn (i := j) (by omega)
    have hF : n < FUEL := by unfold FUEL; omega
    by_cases q : lx_bl (g j) = true
    · rw [q] at b2
      obtain ⟨t', ba', nb', tok', k1, k2, k3⟩ := lk_adv hB hn fl kd st vl ba tok m f1 f2 (j + 1) (by omega) (by omega) (by omega) (by omega)
      refine ⟨t', ba', nb', tok', ?_, ?_, k3⟩
      · rw [fx_s, B_X8_advance_0]
        show (if nI n ≤ nI j then _ else (F_X8_byteAt (nI j) _).bind _) = _
        rw [if_neg c, b1, Option.bind_some, b2, Option.bind_some, if_pos rfl, nm_e1]
        show fx (fun _ => none) B_X8_advance_0 f1 (sb, fl, nI n, nI j + 1, kd, st, vl) = _
        rw [next]
        exact k1
      · rw [fx_s, B_X11_scan_0]
        rw [b3, Option.bind_some, Option.bind_some]
        unfold lx_bl at q
        by_cases z : g j = 32
        · rw [if_pos (show nI (g j) = 32 by rw [z]; rfl), nm_e1, next]
          exact k2
        · have z2 : g j = 10 := by
            have := of_decide_eq_true q
            omega
          rw [if_neg (show ¬ nI (g j) = 32 from fun e => z ((nI_eq_lit 32 (by omega) (by decide)).mp e)), if_pos (show nI (g j) = 10 by rw [z2]; rfl), nm_e1, next]
          exact k2
    · have q' := Bool.eq_false_iff.mpr q
      rw [q'] at b2
      unfold lx_bl at q'
      have z := of_decide_eq_false q'
      have z1 : ¬ nI (g j) = 32 := fun e => z (Or.inl ((nI_eq_lit 32 (by omega) (by decide)).mp e))
      have z2 : ¬ nI (g j) = 10 := fun e => z (Or.inr ((nI_eq_lit 10 (by omega) (by decide)).mp e))
      have l1 := X_isLetter hg
      have l2 := M_isLetter hB hn (i := j) (by omega)
      have d1 := X_isDigit hg
      have d2 := M_isDigit hB hn (i := j) (by omega)
      have cls : ∀ r, (F_X8_isLetter (nI (g j))).bind (fun w_30 => (if w_30 = true then (F_X8_skipLetters (sb, fl, nI n, nI j, 1, nI j, 0)).bind (fun w_45 => some w_45) else (F_X8_byteAt (nI j) (sb, fl, nI n, nI j, kd, nI j, 0)).bind (fun w_33 => (F_X8_isDigit w_33).bind (fun w_35 => (if w_35 = true then (F_X8_readDigits (sb, fl, nI n, nI j, 2, nI j, 0)).bind (fun w_43 => some w_43) else (F_X8_byteAt (nI j) (sb, fl, nI n, nI j, kd, nI j, 0)).bind (fun w_38 => (if w_38 = 59 then nm ((nI j + 1)) (fun f_42 => some (sb, fl, nI n, f_42, 3, nI j, 0)) else nm ((nI j + 1)) (fun f_41 => some (sb, fl, nI n, f_41, 4, nI j, 0))))))))) = some r →
          fx (fun _ => none) B_X8_advance_0 (f1 + 1) (sb, fl, nI n, nI j, kd, st, vl) = some r := by
        intro r hr
        rw [fx_s, B_X8_advance_0]
        show (if nI n ≤ nI j then _ else (F_X8_byteAt (nI j) _).bind _) = _
        rw [if_neg c, b1, Option.bind_some, b2, Option.bind_some, if_neg (by decide)]
        show (if nI j < nI n then (F_X8_byteAt (nI j) (sb, fl, nI n, nI j, kd, nI j, 0)).bind _ else _) = _
        rw [if_pos c', b1', Option.bind_some]
        rw [b1'] at hr
        exact hr
      have ref : ∀ r, (F_X11_isLetter (nI j) b (nI n)).bind (fun w_9 => (if w_9 = true then fx (fun _ _ _ => none) (B_X11_scan_77 b (nI n)) FUEL (nI j) (nI j) tok else (F_X11_isDigit (nI j) b (nI n)).bind (fun w_12 => (if w_12 = true then fx (fun _ _ _ => none) (B_X11_scan_120 b (nI n)) FUEL (nI j) (nI j) tok else nm ((nI j + 1)) (fun f_15 => some (nI j, f_15, 3)))))) = some r →
          fx (fun _ _ _ => none) (B_X11_scan_0 b (nI n)) (f2 + 1) ba (nI j) tok = some r := by
        intro r hr
        rw [fx_s, B_X11_scan_0]
        rw [b3, Option.bind_some, Option.bind_some, if_neg z1, if_neg z2, if_pos c']
        exact hr
      by_cases p : lx_le (g j) = true
      · rw [p] at l1 l2
        obtain ⟨j', k1, k2, k3, k4⟩ := lk_let hB hn fl 1 (nI j) 0 (nI j) tok (n - j) FUEL FUEL j rfl hj (by omega) (by omega)
        refine ⟨(sb, fl, nI n, nI j', 1, nI j, 0), nI j, nI j', 1, cls _ ?_, ref _ ?_, rfl, rfl, j, j', k1, k2, rfl, rfl, rfl, rfl, rfl, Or.inr (Or.inl ⟨rfl, rfl⟩)⟩
        · rw [l1, Option.bind_some, if_pos rfl]
          unfold F_X8_skipLetters
          rw [k3]
          rfl
        · rw [l2, Option.bind_some, if_pos rfl]
          exact k4
      · have p' := Bool.eq_false_iff.mpr p
        rw [p'] at l1 l2
        by_cases u : lx_dg (g j) = true
        · rw [u] at d1 d2
          obtain ⟨j', c9, k1, k2, k5, k3, k4⟩ := lk_dig hB hn fl 2 (nI j) (nI j) tok j (n - j) FUEL FUEL j 0 rfl hj (Nat.le_refl _) (by rw [Nat.sub_self]; exact Or.inl ⟨rfl, by show 0 < 1000000; omega⟩) (fun k hk => absurd hk (by omega)) (by omega) (by omega)
          refine ⟨(sb, fl, nI n, nI j', 2, nI j, nI c9), nI j, nI j', 2, cls _ ?_, ref _ ?_, rfl, rfl, j, j', k1, k2, rfl, rfl, rfl, rfl, rfl, Or.inr (Or.inr (Or.inl ⟨rfl, rfl, c9, rfl, k5⟩))⟩
          · rw [l1, Option.bind_some, if_neg (by decide), b1', Option.bind_some, d1, Option.bind_some, if_pos rfl]
            unfold F_X8_readDigits
            show (fx (fun _ => none) B_X8_readDigits_0 FUEL (sb, fl, nI n, nI j, 2, nI j, nI 0)).bind _ = _
            rw [k3]
            rfl
          · rw [l2, Option.bind_some, if_neg (by decide), d2, Option.bind_some, if_pos rfl]
            exact k4
        · have u' := Bool.eq_false_iff.mpr u
          rw [u'] at d1 d2
          by_cases y : g j = 59
          · refine ⟨(sb, fl, nI n, nI (j + 1), 3, nI j, 0), nI j, nI (j + 1), 3, cls _ ?_, ref _ ?_, rfl, rfl, j, j + 1, by omega, by omega, rfl, rfl, rfl, rfl, rfl, Or.inr (Or.inr (Or.inr (Or.inl ⟨rfl, rfl, by omega, y⟩)))⟩
            · rw [l1, Option.bind_some, if_neg (by decide), b1', Option.bind_some, d1, Option.bind_some, if_neg (by decide), Option.bind_some, if_pos (show nI (g j) = 59 by rw [y]; rfl), nm_e1, next]
            · rw [l2, Option.bind_some, if_neg (by decide), d2, Option.bind_some, if_neg (by decide), nm_e1, next]
          · refine ⟨(sb, fl, nI n, nI (j + 1), 4, nI j, 0), nI j, nI (j + 1), 3, cls _ ?_, ref _ ?_, rfl, rfl, j, j + 1, by omega, by omega, rfl, rfl, rfl, rfl, rfl, Or.inr (Or.inr (Or.inr (Or.inr ⟨rfl, rfl, by omega, y⟩)))⟩
            · rw [l1, Option.bind_some, if_neg (by decide), b1', Option.bind_some, d1, Option.bind_some, if_neg (by decide), Option.bind_some, if_neg (show ¬ nI (g j) = 59 from fun e => y ((nI_eq_lit 59 (by omega) (by decide)).mp e)), nm_e1, next]
            · rw [l2, Option.bind_some, if_neg (by decide), d2, Option.bind_some, if_neg (by decide), nm_e1, next]
theorem TK.start {t : SrcT} (hB : BY g f t.1 b) (hn : n ≤ f) {j : Nat} (hj : j ≤ n) (he : t.2.2.1 = nI n) (hp : t.2.2.2.1 = nI j) (ba tok : Int32) :
    ∃ t' ba' nb' tok', F_X8_advance t = some t' ∧ F_X11_scan ba b (nI n) (nI j) tok = some (ba', nb', tok') ∧ BY g f t'.1 b ∧ TK g n t' ba' nb' tok' := by
  have h6 := hB.1
  obtain ⟨sb, fl, e, p, kd, st, vl⟩ := t
  have he : e = nI n := he
  have hp : p = nI j := hp
  subst he hp
  obtain ⟨t', ba', nb', tok', k1, k2, k3, k4, k5⟩ := lk_adv hB hn fl kd st vl ba tok (n - j) FUEL FUEL j rfl hj (by unfold FUEL; omega) (by unfold FUEL; omega)
  exact ⟨t', ba', nb', tok', k1, k2, by rw [k3]; exact hB, k5⟩
end
