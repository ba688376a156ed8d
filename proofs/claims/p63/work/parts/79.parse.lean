/-! ===== the text that the law makes, read ===== -/
section
variable {T : List Int32} {sb : Nat → Int32} {fl kd st v : Int32} {i n : Nat}
/-- the source's bytes are the text's -/
def TB (T : List Int32) (sb : Nat → Int32) : Prop := T.length ≤ 600 ∧ ∀ i, i < T.length → sb i &&& 255 = sj_F T i
theorem Y_hd {a : Int32} {r : List Int32} (h : T.drop i = a :: r) : i < T.length ∧ sj_F T i = a ∧ T.drop (i + 1) = r := by
  have hi : i < T.length := by
    apply Nat.lt_of_not_le
    intro q
    rw [List.drop_eq_nil_of_le q] at h
    cases h
  rw [List.drop_eq_getElem_cons hi] at h
  injection h with h1 h2
  refine ⟨hi, ?_, h2⟩
  unfold sj_F
  rw [List.getD_eq_getElem?_getD, List.getElem?_eq_getElem hi]
  exact h1
theorem Y_byteAt (hT : TB T sb) {t : SrcT} (ht : t.1 = sb) (hi : i < T.length) : F_X8_byteAt (nI i) t = some (sj_F T i) := by
  have h6 := hT.1
  unfold F_X8_byteAt
  rw [if_neg (nI_pos (by omega)), if_pos (show nI i < 600 from nI_lt (b := 600) (by omega) (by decide)), ix_nI (by omega) (by decide), nI_clamp (by omega), ht, hT.2 i hi]
theorem Y_byte (hT : TB T sb) {a : Int32} {r : List Int32} (h : T.drop i = a :: r) : ∀ t : SrcT, t.1 = sb → F_X8_byteAt (nI i) t = some a := fun t ht => by
  obtain ⟨h1, h2, -⟩ := Y_hd h
  rw [Y_byteAt hT ht h1, h2]
theorem Y_lt (hT : TB T sb) {a : Int32} {r : List Int32} (h : T.drop i = a :: r) : ¬ nI T.length ≤ nI i ∧ nI i < nI T.length := by
  obtain ⟨h1, -, -⟩ := Y_hd h
  have := hT.1
  exact ⟨nI_ge h1 (by omega), nI_lt h1 (by omega)⟩
theorem Y_skip (hT : TB T sb) : ∀ (wd : List Nat) (i : Nat) (r : List Int32) (m : Nat), (∀ x ∈ wd, 97 ≤ x ∧ x ≤ 122) → T.drop i = wd.map nI ++ nI 32 :: r → wd.length < m →
    fx (fun _ => none) B_X8_skipLetters_0 m (sb, fl, nI T.length, nI i, kd, st, v) = some (sb, fl, nI T.length, nI (i + wd.length), kd, st, v) := by
  intro wd
  induction wd with
  | nil =>
    intro i r m hw h hm
    obtain ⟨m, rfl⟩ : ∃ q, m = q + 1 := ⟨m - 1, by have : (0 : Nat) < m := hm; omega⟩
    have h : T.drop i = nI 32 :: r := h
    show B_X8_skipLetters_0 _ _ = _
    unfold B_X8_skipLetters_0
    simp only [(Y_lt hT h).1, if_false, Y_byte hT h, Option.bind_some, X_isLetter (x := 32) (by decide), show lx_le 32 = false from rfl, Bool.false_eq_true]
    rfl
  | cons x wd ih =>
    intro i r m hw h hm
    obtain ⟨m, rfl⟩ : ∃ q, m = q + 1 := ⟨m - 1, by simp only [List.length_cons] at hm; omega⟩
    have h : T.drop i = nI x :: (wd.map nI ++ nI 32 :: r) := h
    have hx := hw x List.mem_cons_self
    have hl : lx_le x = true := decide_eq_true hx
    have ih := fun i r h1 h2 h3 => ih i r m h1 h2 h3
    show B_X8_skipLetters_0 (fx (fun _ => none) B_X8_skipLetters_0 m) _ = _
    generalize fx (fun _ => none) B_X8_skipLetters_0 m = K at ih
    unfold B_X8_skipLetters_0
    simp only [(Y_lt hT h).1, if_false, Y_byte hT h, Option.bind_some, X_isLetter (x := x) (by omega), hl, if_true, nm_e1]
    rw [show nI i + 1 = nI (i + 1) from nI_1 i, ih (i + 1) r (fun y hy => hw y (List.mem_cons_of_mem _ hy)) (Y_hd h).2.2 (by simp only [List.length_cons] at hm; omega)]
    rw [List.length_cons, show i + 1 + wd.length = i + (wd.length + 1) by omega]
/-- a digit read -/
theorem Y_dstep (hT : TB T sb) {d a m : Nat} {r : List Int32} (hd : d < 10) (ha : a ≤ 1000) (h : T.drop i = nI (48 + d) :: r) :
    fx (fun _ => none) B_X8_readDigits_0 (m + 1) (sb, fl, nI T.length, nI i, kd, st, nI a) = fx (fun _ => none) B_X8_readDigits_0 m (sb, fl, nI T.length, nI (i + 1), kd, st, nI (a * 10 + d)) := by
  have hl : lx_dg (48 + d) = true := decide_eq_true (by omega)
  show B_X8_readDigits_0 _ _ = _
  unfold B_X8_readDigits_0
  have e1 : nI a * 10 + nI (48 + d) - 48 = nI (a * 10 + d) := by
    rw [show nI a * 10 = nI (a * 10) from e_mul a 10, e_add, show (48 : Int32) = nI 48 from rfl, e_sub (by omega)]
    congr 1
    omega
  have e2 : ¬ (1000000 : Int32) < nI (a * 10 + d) := nI_nlt (a := 1000000) (by omega) (by decide)
  simp only [(Y_lt hT h).1, if_false, Y_byte hT h, Option.bind_some, X_isDigit (x := 48 + d) (by omega), hl, if_true, nm_e1, e1, e2]
  rw [show nI i + 1 = nI (i + 1) from nI_1 i]
theorem Y_dend (hT : TB T sb) {m : Nat} {r : List Int32} (h : T.drop i = nI 59 :: r) :
    fx (fun _ => none) B_X8_readDigits_0 (m + 1) (sb, fl, nI T.length, nI i, kd, st, v) = some (sb, fl, nI T.length, nI i, kd, st, v) := by
  show B_X8_readDigits_0 _ _ = _
  unfold B_X8_readDigits_0
  simp only [(Y_lt hT h).1, if_false, Y_byte hT h, Option.bind_some, X_isDigit (x := 59) (by decide), show lx_dg 59 = false from rfl, Bool.false_eq_true]
theorem Y_digits (hT : TB T sb) {x : Nat} (hx : x < 100) {r : List Int32} (h : T.drop i = sj_dg x ++ nI 59 :: r) :
    F_X8_readDigits (sb, fl, nI T.length, nI i, kd, st, 0) = some (sb, fl, nI T.length, nI (i + sj_dn x), kd, st, nI x) ∧ T.drop (i + sj_dn x) = nI 59 :: r := by
  unfold F_X8_readDigits
  by_cases c : x < 10
  · have h : T.drop i = nI (48 + x) :: nI 59 :: r := by rw [h]; unfold sj_dg; rw [if_pos c]; rfl
    have e : sj_dn x = 1 := if_pos c
    rw [e, show FUEL = 999998 + 1 + 1 from rfl, show (0 : Int32) = nI 0 from rfl, Y_dstep hT c (by omega) h, Y_dend hT (Y_hd h).2.2, Nat.zero_mul, Nat.zero_add]
    exact ⟨rfl, (Y_hd h).2.2⟩
  · have h : T.drop i = nI (48 + x / 10) :: nI (48 + x % 10) :: nI 59 :: r := by rw [h]; unfold sj_dg; rw [if_neg c]; rfl
    have e : sj_dn x = 2 := if_neg c
    have h2 := (Y_hd h).2.2
    rw [e, show FUEL = 999997 + 1 + 1 + 1 from rfl, show (0 : Int32) = nI 0 from rfl, Y_dstep hT (by omega) (by omega) h, Y_dstep hT (by omega) (by omega) h2, Y_dend hT (Y_hd h2).2.2, Nat.zero_mul, Nat.zero_add, show x / 10 * 10 + x % 10 = x by omega]
    exact ⟨rfl, (Y_hd h2).2.2⟩
/-! advance -/
theorem Y_word (hT : TB T sb) {x m : Nat} {wd : List Nat} {r : List Int32} (hw : ∀ y ∈ x :: wd, 97 ≤ y ∧ y ≤ 122) (h : T.drop i = (x :: wd).map nI ++ nI 32 :: r) (hl9 : (x :: wd).length < 100) :
    fx (fun _ => none) B_X8_advance_0 (m + 1) (sb, fl, nI T.length, nI i, kd, st, v) = some (sb, fl, nI T.length, nI (i + (x :: wd).length), 1, nI i, 0) := by
  have h' : T.drop i = nI x :: (wd.map nI ++ nI 32 :: r) := h
  have hx := hw x List.mem_cons_self
  have hl : lx_le x = true := decide_eq_true hx
  have hb : lx_bl x = false := decide_eq_false (by omega)
  have hs := Y_skip hT (fl := fl) (kd := 1) (st := nI i) (v := 0) (x :: wd) i r FUEL hw h (Nat.lt_of_lt_of_le hl9 (by decide))
  show B_X8_advance_0 _ _ = _
  unfold B_X8_advance_0
  simp only [(Y_lt hT h').1, (Y_lt hT h').2, if_false, if_true, Y_byte hT h', Option.bind_some, X_isBlank (x := x) (by omega), hb, Bool.false_eq_true, X_isLetter (x := x) (by omega), hl]
  unfold F_X8_skipLetters
  rw [hs]
  rfl
theorem Y_blank (hT : TB T sb) {m : Nat} {r : List Int32} (h : T.drop i = nI 32 :: r) :
    fx (fun _ => none) B_X8_advance_0 (m + 1) (sb, fl, nI T.length, nI i, kd, st, v) = fx (fun _ => none) B_X8_advance_0 m (sb, fl, nI T.length, nI (i + 1), kd, st, v) := by
  show B_X8_advance_0 _ _ = _
  unfold B_X8_advance_0
  simp only [(Y_lt hT h).1, if_false, Y_byte hT h, Option.bind_some, X_isBlank (x := 32) (by decide), show lx_bl 32 = true from rfl, if_true, nm_e1]
  rw [show nI i + 1 = nI (i + 1) from nI_1 i]
theorem Y_num (hT : TB T sb) {x m : Nat} (hx : x < 100) {r : List Int32} (h : T.drop i = sj_dg x ++ nI 59 :: r) :
    fx (fun _ => none) B_X8_advance_0 (m + 1) (sb, fl, nI T.length, nI i, kd, st, v) = some (sb, fl, nI T.length, nI (i + sj_dn x), 2, nI i, nI x) := by
  obtain ⟨d, r', hd, h'⟩ : ∃ d r', d < 10 ∧ T.drop i = nI (48 + d) :: r' := by
    by_cases c : x < 10
    · exact ⟨x, nI 59 :: r, c, by rw [h]; unfold sj_dg; rw [if_pos c]; rfl⟩
    · exact ⟨x / 10, nI (48 + x % 10) :: nI 59 :: r, by omega, by rw [h]; unfold sj_dg; rw [if_neg c]; rfl⟩
  have hl : lx_le (48 + d) = false := decide_eq_false (by omega)
  have hb : lx_bl (48 + d) = false := decide_eq_false (by omega)
  have hg : lx_dg (48 + d) = true := decide_eq_true (by omega)
  have hs := (Y_digits hT (fl := fl) (kd := 2) (st := nI i) hx h).1
  show B_X8_advance_0 _ _ = _
  unfold B_X8_advance_0
  simp only [(Y_lt hT h').1, (Y_lt hT h').2, if_false, if_true, Y_byte hT h', Option.bind_some, X_isBlank (x := 48 + d) (by omega), hb, Bool.false_eq_true, X_isLetter (x := 48 + d) (by omega), hl, X_isDigit (x := 48 + d) (by omega), hg]
  rw [hs]
  rfl
theorem Y_semi (hT : TB T sb) {m : Nat} {r : List Int32} (h : T.drop i = nI 59 :: r) :
    fx (fun _ => none) B_X8_advance_0 (m + 1) (sb, fl, nI T.length, nI i, kd, st, v) = some (sb, fl, nI T.length, nI (i + 1), 3, nI i, 0) := by
  show B_X8_advance_0 _ _ = _
  unfold B_X8_advance_0
  simp only [(Y_lt hT h).1, (Y_lt hT h).2, if_false, if_true, Y_byte hT h, Option.bind_some, X_isBlank (x := 59) (by decide), show lx_bl 59 = false from rfl, Bool.false_eq_true, X_isLetter (x := 59) (by decide), show lx_le 59 = false from rfl, X_isDigit (x := 59) (by decide), show lx_dg 59 = false from rfl, show (nI 59 = (59 : Int32)) = True from eq_true rfl, nm_e1]
  rw [show nI i + 1 = nI (i + 1) from nI_1 i]
theorem Y_end (hT : TB T sb) {m : Nat} :
    fx (fun _ => none) B_X8_advance_0 (m + 1) (sb, fl, nI T.length, nI T.length, kd, st, v) = some (sb, fl, nI T.length, nI T.length, 0, nI T.length, 0) := by
  have := hT.1
  have e1 : nI T.length ≤ nI T.length := nI_le (Nat.le_refl _) (by omega)
  have e2 : ¬ nI T.length < nI T.length := nI_nlt (Nat.le_refl _) (by omega)
  show B_X8_advance_0 _ _ = _
  unfold B_X8_advance_0
  simp only [e1, e2, if_false, if_true]
end
/-! the text -/
def w7 (x : Nat) : List Nat := if x = 1 then [115, 116, 114, 101, 116, 99, 104] else [115, 116, 114, 105, 107, 101, 114]
/-- one row of the text: a word of seven letters, a blank, a number, a semicolon -/
def it (x d : Nat) : List Int32 := (w7 x).map nI ++ nI 32 :: (sj_dg d ++ [nI 59])
def its (x : Nat) : List Nat → List Int32
  | [] => []
  | d :: l => it x d ++ its x l
def txt (w : Nat) (rs ds : List Nat) : List Int32 := ([115, 105, 101, 118, 101] : List Nat).map nI ++ nI 32 :: (sj_dg w ++ nI 59 :: (its 1 rs ++ its 2 ds))
section
variable {T : List Int32} {sb : Nat → Int32} {fl kd st v : Int32} {i n : Nat}
theorem w7_ok (x : Nat) : (∀ y ∈ w7 x, 97 ≤ y ∧ y ≤ 122) ∧ (w7 x).length = 7 := by
  unfold w7
  split <;> exact ⟨by decide, rfl⟩
/-- what stands at the next word, or at the end -/
def tkn (T : List Int32) (sb : Nat → Int32) (fl : Int32) (i : Nat) : SrcT := if i = T.length then (sb, fl, nI T.length, nI i, 0, nI i, 0) else (sb, fl, nI T.length, nI (i + 7), 1, nI i, 0)
theorem Y_item (hT : TB T sb) {m : Nat} (h : T.drop i = [] ∧ i = T.length ∨ ∃ x r, T.drop i = (w7 x).map nI ++ nI 32 :: r) :
    fx (fun _ => none) B_X8_advance_0 (m + 1) (sb, fl, nI T.length, nI i, kd, st, v) = some (tkn T sb fl i) := by
  rcases h with ⟨-, rfl⟩ | ⟨x, r, h⟩
  · rw [Y_end hT]
    unfold tkn
    rw [if_pos rfl]
  · obtain ⟨hw, hl⟩ := w7_ok x
    obtain ⟨a, l, e⟩ : ∃ a l, w7 x = a :: l := by
      unfold w7
      split <;> exact ⟨_, _, rfl⟩
    rw [e] at h hw hl
    have hlt := (Y_hd (show T.drop i = nI a :: (l.map nI ++ nI 32 :: r) from h)).1
    rw [Y_word hT hw h (by omega), hl]
    unfold tkn
    rw [if_neg (by omega)]
theorem its_hd (x : Nat) (l : List Nat) (s : List Int32) (hs : s = [] ∨ ∃ x r, s = (w7 x).map nI ++ nI 32 :: r) : its x l ++ s = [] ∨ ∃ y r, its x l ++ s = (w7 y).map nI ++ nI 32 :: r := by
  cases l with
  | nil => exact hs
  | cons d l => exact Or.inr ⟨x, sj_dg d ++ [nI 59] ++ its x l ++ s, by simp [its, it]⟩
end
