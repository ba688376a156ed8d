/-! ===== the reader over the text ===== -/
section
variable {T : List Int32} {sb : Nat → Int32} {fl kd st v : Int32} {i n w : Nat} {D : Nat → Nat}
theorem wch : ∀ x, x < 3 → ∀ q, q < sw_len.getD x 0 → F_J0_charAt_5068e x (nI q) = some ((sw_byt.getD x []).getD q 0) := by decide +kernel
theorem gd_app {l r : List Int32} {q : Nat} (h : q < l.length) : (l ++ r).getD q 0 = l.getD q 0 := by
  rw [List.getD_eq_getElem?_getD, List.getD_eq_getElem?_getD, List.getElem?_append_left h]
theorem Y_at (q : Nat) : sj_F T (i + q) = (T.drop i).getD q 0 := by
  unfold sj_F
  rw [List.getD_eq_getElem?_getD, List.getD_eq_getElem?_getD, List.getElem?_drop]
/-- the loop that compares -/
theorem Y_cmp (hT : TB T sb) {x : Nat} (hx : x < 3) {t : SrcT} (ht : t.1 = sb) (hs : t.2.2.2.2.2.1 = nI i) (hi : i + sw_len.getD x 0 ≤ T.length) (h : ∀ q, q < sw_len.getD x 0 → sj_F T (i + q) = (sw_byt.getD x []).getD q 0) :
    ∀ (r q m : Nat), q + r = sw_len.getD x 0 → r < m → fx (fun _ => none) (B_X8_isWord_28 x t) m (nI q) = some true := by
  have h7 := w_len7 (x := x) (by omega)
  intro r
  induction r with
  | zero =>
    intro q m hq hm
    obtain ⟨m, rfl⟩ : ∃ z, m = z + 1 := ⟨m - 1, by omega⟩
    show B_X8_isWord_28 x t _ _ = _
    unfold B_X8_isWord_28 kl
    rw [if_pos (by omega), w_len (by omega), Option.bind_some, if_pos (nI_le (by omega) (by omega))]
  | succ r ih =>
    intro q m hq hm
    obtain ⟨m, rfl⟩ : ∃ z, m = z + 1 := ⟨m - 1, by omega⟩
    have ih := ih (q + 1) m (by omega) (by omega)
    show B_X8_isWord_28 x t (fx (fun _ => none) (B_X8_isWord_28 x t) m) _ = _
    generalize fx (fun _ => none) (B_X8_isWord_28 x t) m = K at ih
    unfold B_X8_isWord_28 kl
    rw [if_pos (by omega), w_len (by omega), Option.bind_some, if_neg (nI_ge (by omega) (by omega)), hs, e_add, Y_byteAt hT ht (by omega), Option.bind_some, wch x hx q (by omega), Option.bind_some, if_pos (h q (by omega)), nm_e1, show nI q + 1 = nI (q + 1) from nI_1 q]
    exact ih
theorem Y_isT (hT : TB T sb) {x len : Nat} (hx : x < 3) (hlen : sw_len.getD x 0 = len) {r : List Int32} (h : T.drop i = sw_byt.getD x [] ++ r) : F_X8_isWord x (sb, fl, nI T.length, nI (i + len), 1, nI i, 0) = some true := by
  have h7 := w_len7 (x := x) (by omega)
  have hl : (sw_byt.getD x []).length = len := by rw [← hlen]; exact (sj_k3 (by omega)).1
  have hb : i + len ≤ T.length := by
    have := congrArg List.length h
    rw [List.length_drop, List.length_append, hl] at this
    by_cases c : i ≤ T.length
    · omega
    · have : len = 0 := by omega
      exfalso
      have : 5 ≤ sw_len.getD x 0 := by
        rcases (show x = 0 ∨ x = 1 ∨ x = 2 by omega) with rfl | rfl | rfl <;> decide
      omega
  have hT6 := hT.1
  unfold F_X8_isWord kl
  show (if (1 : Int32) = 1 then if x < 6 then (F_J0_length_8abf5 x).bind (fun w_3 => if nI (i + len) - nI i = w_3 then fx (fun _ => none) (B_X8_isWord_28 x (sb, fl, nI T.length, nI (i + len), 1, nI i, 0)) FUEL 0 else some false) else none else some false) = _
  rw [if_pos rfl, if_pos (by omega), w_len (by omega), Option.bind_some, hlen, if_pos (by rw [e_sub (by omega)]; congr 1; omega)]
  exact Y_cmp hT hx rfl rfl (by omega) (fun q hq => by rw [Y_at, h]; exact gd_app (by rw [hl, ← hlen]; exact hq)) (sw_len.getD x 0) 0 FUEL (by omega) (Nat.lt_of_le_of_lt h7 (by decide))
theorem Y_isE (hT : TB T sb) (x : Nat) : F_X8_isWord x (tkn T sb fl T.length) = some false := by
  unfold tkn
  rw [if_pos rfl]
  rfl
/-- striker isn't stretch -/
theorem Y_isF (hT : TB T sb) {r : List Int32} (h : T.drop i = (w7 2).map nI ++ r) (hi : i + 7 ≤ T.length) : F_X8_isWord 1 (sb, fl, nI T.length, nI (i + 7), 1, nI i, 0) = some false := by
  have hT6 := hT.1
  have hc : ∀ q, q < 7 → sj_F T (i + q) = ((w7 2).map nI).getD q 0 := fun q hq => by rw [Y_at, h]; exact gd_app (by simpa [w7] using hq)
  have st : ∀ (q m : Nat), q < 7 → fx (fun _ => none) (B_X8_isWord_28 1 (sb, fl, nI T.length, nI (i + 7), 1, nI i, 0)) (m + 1) (nI q) = if ((w7 2).map nI).getD q 0 = (sw_byt.getD 1 []).getD q 0 then fx (fun _ => none) (B_X8_isWord_28 1 (sb, fl, nI T.length, nI (i + 7), 1, nI i, 0)) m (nI (q + 1)) else some false := by
    intro q m hq
    have h7 : sw_len.getD 1 0 = 7 := rfl
    show B_X8_isWord_28 1 _ (fx (fun _ => none) (B_X8_isWord_28 1 _) m) _ = _
    generalize fx (fun _ => none) (B_X8_isWord_28 1 (sb, fl, nI T.length, nI (i + 7), 1, nI i, 0)) m = K
    unfold B_X8_isWord_28 kl
    show (if 1 < 6 then (F_J0_length_8abf5 1).bind (fun w_7 => if w_7 ≤ nI q then some true else (F_X8_byteAt (nI i + nI q) (sb, fl, nI T.length, nI (i + 7), 1, nI i, 0)).bind (fun w_10 => (F_J0_charAt_5068e 1 (nI q)).bind (fun w_12 => if w_10 = w_12 then nm (nI q + 1) (fun x2_15 => K x2_15) else some false))) else none) = _
    rw [if_pos (by decide), w_len (by decide), Option.bind_some, h7, if_neg (nI_ge (by omega) (by decide)), e_add, Y_byteAt hT rfl (by omega), Option.bind_some, wch 1 (by decide) q (by rw [h7]; exact hq), Option.bind_some, hc q hq, nm_e1, show nI q + 1 = nI (q + 1) from nI_1 q]
  unfold F_X8_isWord kl
  show (if (1 : Int32) = 1 then if 1 < 6 then (F_J0_length_8abf5 1).bind (fun w_3 => if nI (i + 7) - nI i = w_3 then fx (fun _ => none) (B_X8_isWord_28 1 (sb, fl, nI T.length, nI (i + 7), 1, nI i, 0)) FUEL 0 else some false) else none else some false) = _
  rw [if_pos rfl, if_pos (by decide), w_len (by decide), Option.bind_some, if_pos (by rw [e_sub (by omega)]; show nI (i + 7 - i) = nI 7; congr 1; omega)]
  refine Eq.trans (show fx (fun _ => none) (B_X8_isWord_28 1 (sb, fl, nI T.length, nI (i + 7), 1, nI i, 0)) FUEL 0 = fx (fun _ => none) (B_X8_isWord_28 1 (sb, fl, nI T.length, nI (i + 7), 1, nI i, 0)) (999996 + 1 + 1 + 1 + 1) (nI 0) from rfl) ?_
  rw [st 0 _ (by decide), if_pos (by decide), st 1 _ (by decide), if_pos (by decide), st 2 _ (by decide), if_pos (by decide), st 3 _ (by decide), if_neg (by decide)]
/-! one row -/
theorem Y_adv {t : SrcT} {X : Option SrcT} (h : ∀ m, fx (fun _ => none) B_X8_advance_0 (m + 1) t = X) : F_X8_advance t = X := h 999999
theorem Y_adv2 {t : SrcT} {X : Option SrcT} (h : ∀ m, fx (fun _ => none) B_X8_advance_0 (m + 2) t = X) : F_X8_advance t = X := h 999998
/-- number and semicolon behind a word that ends at p -/
theorem Y_row (hT : TB T sb) {x p lo hi : Nat} {s : List Int32} {rd : ReadT} (hx : x < 100) (h : T.drop p = nI 32 :: (sj_dg x ++ nI 59 :: s)) (hs : s = [] ∨ ∃ y r, s = (w7 y).map nI ++ nI 32 :: r) (hlo : lo ≤ x) (hhi : x ≤ hi) (hh : hi < 2 ^ 31) :
    ∃ q t1 t2, F_X8_advance (sb, fl, nI T.length, nI p, 1, st, v) = some t1 ∧ F_X8_isNumber t1 = some true ∧ F_X8_tokenValue t1 = some (nI x) ∧ F_X4_takeNumber (nI lo) (nI hi) rd t1 = some (true, ((rd.1, rd.2.1, nI x), t2)) ∧ (∀ rd2, F_X4_takeSemicolon rd2 t2 = some (true, (rd2, tkn T sb fl q))) ∧ T.drop q = s ∧ q ≤ T.length := by
  have h1 := (Y_hd h).2.2
  obtain ⟨-, h2⟩ := Y_digits hT (fl := fl) (kd := 2) (st := nI (p + 1)) hx h1
  have h3 := (Y_hd h2).2.2
  have hlt := (Y_hd h2).1
  refine ⟨p + 1 + sj_dn x + 1, (sb, fl, nI T.length, nI (p + 1 + sj_dn x), 2, nI (p + 1), nI x), (sb, fl, nI T.length, nI (p + 1 + sj_dn x + 1), 3, nI (p + 1 + sj_dn x), 0), Y_adv2 (fun m => ?_), rfl, rfl, ?_, fun rd2 => ?_, h3, hlt⟩
  · rw [Y_blank hT h, Y_num hT hx h1]
  · exact TN_t rfl rfl (by omega) (by omega) hh ⟨hlo, hhi⟩ (Y_adv (fun m => Y_semi hT h2))
  · have ha : F_X8_advance (sb, fl, nI T.length, nI (p + 1 + sj_dn x + 1), 3, nI (p + 1 + sj_dn x), 0) = some (tkn T sb fl (p + 1 + sj_dn x + 1)) := Y_adv (fun m => Y_item hT (by
      rcases hs with e | ⟨y, r, e⟩
      · left
        refine ⟨h3.trans e, ?_⟩
        have := congrArg List.length (h3.trans e)
        rw [List.length_drop] at this
        have : T.length - (p + 1 + sj_dn x + 1) = 0 := this
        omega
      · exact Or.inr ⟨y, r, h3.trans e⟩))
    unfold F_X4_takeSemicolon
    rw [show F_X8_isSemicolon (sb, fl, nI T.length, nI (p + 1 + sj_dn x + 1), 3, nI (p + 1 + sj_dn x), 0) = some true from rfl, Option.bind_some, if_pos rfl, ha]
    rfl
theorem its_cons (x d : Nat) (l : List Nat) (s : List Int32) : its x (d :: l) ++ s = (w7 x).map nI ++ nI 32 :: (sj_dg d ++ nI 59 :: (its x l ++ s)) := by simp [its, it]
theorem Y_tkn {y : Nat} {r : List Int32} (h : T.drop i = (w7 y).map nI ++ nI 32 :: r) : tkn T sb fl i = (sb, fl, nI T.length, nI (i + 7), 1, nI i, 0) ∧ i + 7 < T.length ∧ T.drop (i + 7) = nI 32 :: r := by
  have hl := (w7_ok y).2
  have e := congrArg List.length h
  rw [List.length_drop, List.length_append, List.length_map, hl, List.length_cons] at e
  refine ⟨if_neg (by omega), by omega, ?_⟩
  rw [← List.drop_drop, h]
  rw [List.drop_append_of_le_length (by rw [List.length_map, hl]; exact Nat.le_refl _), List.drop_eq_nil_of_le (by rw [List.length_map, hl]; exact Nat.le_refl _)]
  rfl
/-! the stretches -/
theorem Y_stretches (hT : TB T sb) {s : List Int32} (hs : s = [] ∨ ∃ r, s = (w7 2).map nI ++ nI 32 :: r) : ∀ (rs : List Nat) (i ns : Nat) (R : Nat → Nat) (P : PlanT) (rd : ReadT) (m : Nat),
    (∀ x ∈ rs, 1 ≤ x ∧ x < 100) → T.drop i = its 1 rs ++ s → (i ≤ T.length) → ns + rs.length ≤ 12 → WF w ns R 0 D → PX w ns R 0 D P → rs.length < m →
    ∃ R' P' rd' j, fx (fun _ _ _ _ => none) B_X4_readStretches_2 m (nI ns) rd (tkn T sb fl i) P = some (true, (rd', tkn T sb fl j, P')) ∧ T.drop j = s ∧ j ≤ T.length ∧ WF w (ns + rs.length) R' 0 D ∧ PX w (ns + rs.length) R' 0 D P' ∧ rd'.1 = rd.1 ∧ rd'.2.1 = rd.2.1 ∧ sm R' (ns + rs.length) = sm R ns + rs.sum := by
  have hs' : s = [] ∨ ∃ y r, s = (w7 y).map nI ++ nI 32 :: r := hs.imp_right fun ⟨r, e⟩ => ⟨2, r, e⟩
  intro rs
  induction rs with
  | nil =>
    intro i ns R P rd m hr h hi hn hw hP hm
    obtain ⟨m, rfl⟩ : ∃ z, m = z + 1 := ⟨m - 1, by have : (0 : Nat) < m := hm; omega⟩
    have h : T.drop i = s := h
    have hf : F_X8_isWord 1 (tkn T sb fl i) = some false := by
      rcases hs with e | ⟨r, e⟩
      · have := congrArg List.length (h.trans e)
        rw [List.length_drop] at this
        have : T.length - i = 0 := this
        rw [show i = T.length by omega]
        exact Y_isE hT 1
      · obtain ⟨e1, e2, -⟩ := Y_tkn (sb := sb) (fl := fl) (h.trans e)
        rw [e1]
        exact Y_isF hT (r := nI 32 :: r) (h.trans e) (by omega)
    refine ⟨R, P, rd, i, ?_, h, hi, hw, hP, rfl, rfl, rfl⟩
    show B_X4_readStretches_2 _ _ _ _ _ = _
    unfold B_X4_readStretches_2
    have h12 := hw.2.1
    rw [if_neg (show ¬ 12 < nI ns from nI_nlt (a := 12) (by omega) (by decide)), hf, Option.bind_some, if_neg (by decide)]
  | cons x rs ih =>
    intro i ns R P rd m hr h hi hn hw hP hm
    obtain ⟨m, rfl⟩ : ∃ z, m = z + 1 := ⟨m - 1, by have : (rs.length + 1 : Nat) < m := hm; omega⟩
    have hx := hr x List.mem_cons_self
    have hlen : (x :: rs).length = rs.length + 1 := rfl
    rw [hlen] at hn hm
    rw [its_cons] at h
    obtain ⟨e1, e2, h32⟩ := Y_tkn (sb := sb) (fl := fl) h
    have ht : F_X8_isWord 1 (tkn T sb fl i) = some true := by
      rw [e1]
      exact Y_isT hT (by decide) rfl (r := nI 32 :: (sj_dg x ++ nI 59 :: (its 1 rs ++ s))) h
    obtain ⟨q, t1, t2, a1, -, -, a4, a5, a6, a7⟩ := Y_row hT (fl := fl) (st := nI i) (v := 0) (lo := 1) (hi := 400) (rd := rd) hx.2 h32 (its_hd 1 rs s hs') hx.1 (by omega) (by decide)
    have hw' := hw.room (m := x) (by omega) hx.1 (by omega)
    have hP' := hP.room (m := x) (P.2.2.2.2.2.2 + 1)
    obtain ⟨R', P', rd', j, b1, b2, b3, b4, b5, b6, b7, b8⟩ := ih q (ns + 1) _ _ (rd.1, rd.2.1, nI x) m (fun y hy => hr y (List.mem_cons_of_mem _ hy)) a6 a7 (by omega) hw' hP' (by omega)
    have e9 : ns + (x :: rs).length = ns + 1 + rs.length := by rw [hlen]; omega
    refine ⟨R', P', rd', j, ?_, b2, b3, by rw [e9]; exact b4, by rw [e9]; exact b5, b6, b7, ?_⟩
    · show B_X4_readStretches_2 (fx (fun _ _ _ _ => none) B_X4_readStretches_2 m) _ _ _ _ = _
      generalize fx (fun _ _ _ _ => none) B_X4_readStretches_2 m = K at b1
      unfold B_X4_readStretches_2
      rw [if_neg (show ¬ 12 < nI ns from nI_nlt (a := 12) (by omega) (by decide)), ht, Option.bind_some, if_pos rfl, if_neg (show ¬ nI ns = 12 from fun c => by have := (nI_eq (b := 12) (by omega) (by decide)).mp c; omega), e1, a1, Option.bind_some,
        show F_X4_takeNumber 1 400 rd t1 = _ from a4, Option.bind_some, if_pos rfl, a5, Option.bind_some, if_pos rfl, L_appendStretch hP.2.1 (by omega) hP.2.2.2.1, Option.bind_some, nm_e1, show nI ns + 1 = nI (ns + 1) from nI_1 ns]
      exact b1
    · rw [e9, b8]
      show sm (up1 R ns x) ns + up1 R ns x ns + rs.sum = sm R ns + (x :: rs).sum
      rw [sm_up1, up1_s, List.sum_cons]
      omega
/-! the strikers -/
theorem pl_more {k x y : Nat} {D : Nat → Nat} (h : pl k D y = none) (hne : x ≠ y) : pl (k + 1) (up1 D k x) y = none := by
  unfold pl at h ⊢
  rw [fi_none] at h ⊢
  intro i _ hi
  show decide (up1 D k x i = y) = false
  by_cases e : i = k
  · rw [e, up1_s]
    exact decide_eq_false hne
  · rw [up1_n e]
    exact h i (by omega) (by omega)
theorem Y_strikers (hT : TB T sb) {ns : Nat} {R : Nat → Nat} : ∀ (ds : List Nat) (i k : Nat) (D : Nat → Nat) (P : PlanT) (rd : ReadT) (m : Nat),
    (∀ x ∈ ds, 2 ≤ x ∧ x < 100 ∧ pl k D x = none) → ds.Nodup → T.drop i = its 2 ds → (i ≤ T.length) → k + ds.length ≤ 30 → WF w ns R k D → PX w ns R k D P → ds.length < m →
    ∃ D' P' rd', fx (fun _ _ _ _ => none) B_X4_readStrikers_2 m (nI k) rd (tkn T sb fl i) P = some (true, (rd', tkn T sb fl T.length, P')) ∧ WF w ns R (k + ds.length) D' ∧ PX w ns R (k + ds.length) D' P' ∧ rd'.1 = rd.1 ∧ rd'.2.1 = rd.2.1 := by
  intro ds
  induction ds with
  | nil =>
    intro i k D P rd m hr hnd h hi hn hw hP hm
    obtain ⟨m, rfl⟩ : ∃ z, m = z + 1 := ⟨m - 1, by have : (0 : Nat) < m := hm; omega⟩
    have h : T.drop i = [] := h
    have he : i = T.length := by
      have := congrArg List.length h
      rw [List.length_drop] at this
      have : T.length - i = 0 := this
      omega
    refine ⟨D, P, rd, ?_, hw, hP, rfl, rfl⟩
    have h30 := hw.2.2.2.1
    show B_X4_readStrikers_2 _ _ _ _ _ = _
    unfold B_X4_readStrikers_2
    rw [if_neg (show ¬ 30 < nI k from nI_nlt (a := 30) (by omega) (by decide)), he, Y_isE hT 2, Option.bind_some, if_neg (by decide)]
  | cons x ds ih =>
    intro i k D P rd m hr hnd h hi hn hw hP hm
    obtain ⟨m, rfl⟩ : ∃ z, m = z + 1 := ⟨m - 1, by have : (ds.length + 1 : Nat) < m := hm; omega⟩
    have hx := hr x List.mem_cons_self
    have hlen : (x :: ds).length = ds.length + 1 := rfl
    rw [hlen] at hn hm
    rw [← List.append_nil (its 2 (x :: ds)), its_cons] at h
    obtain ⟨e1, e2, h32⟩ := Y_tkn (sb := sb) (fl := fl) h
    have ht : F_X8_isWord 2 (tkn T sb fl i) = some true := by
      rw [e1]
      exact Y_isT hT (by decide) rfl (r := nI 32 :: (sj_dg x ++ nI 59 :: (its 2 ds ++ []))) h
    obtain ⟨q, t1, t2, a1, a2, a3, a4, a5, a6, a7⟩ := Y_row hT (fl := fl) (st := nI i) (v := 0) (lo := 2) (hi := 120) (rd := rd) hx.2.1 h32 (its_hd 2 ds [] (Or.inl rfl)) hx.1 (by omega) (by decide)
    rw [List.append_nil] at a6
    have hw' := hw.more (d := x) (by omega) hx.1 (by omega) hx.2.2
    have hP' := hP.more (d := x) (P.2.2.2.2.2.2 + 1)
    have hnew : ∀ y ∈ ds, 2 ≤ y ∧ y < 100 ∧ pl (k + 1) (up1 D k x) y = none := fun y hy => by
      obtain ⟨c1, c2, c3⟩ := hr y (List.mem_cons_of_mem _ hy)
      refine ⟨c1, c2, ?_⟩
      have hne : x ≠ y := fun e => (List.nodup_cons.mp hnd).1 (e ▸ hy)
      exact pl_more c3 hne
    obtain ⟨D', P', rd', b1, b4, b5, b6, b7⟩ := ih q (k + 1) _ _ (rd.1, rd.2.1, nI x) m hnew (List.nodup_cons.mp hnd).2 a6 a7 (by omega) hw' hP' (by omega)
    have e9 : k + (x :: ds).length = k + 1 + ds.length := by rw [hlen]; omega
    refine ⟨D', P', rd', ?_, by rw [e9]; exact b4, by rw [e9]; exact b5, b6, b7⟩
    show B_X4_readStrikers_2 (fx (fun _ _ _ _ => none) B_X4_readStrikers_2 m) _ _ _ _ = _
    generalize fx (fun _ _ _ _ => none) B_X4_readStrikers_2 m = K at b1
    unfold B_X4_readStrikers_2
    rw [if_neg (show ¬ 30 < nI k from nI_nlt (a := 30) (by omega) (by decide)), ht, Option.bind_some, if_pos rfl, if_neg (show ¬ nI k = 30 from fun c => by have := (nI_eq (b := 30) (by omega) (by decide)).mp c; omega), e1, a1, Option.bind_some, a2, Option.bind_some, if_pos rfl, a3, Option.bind_some,
      L_placeOf hw hP (by omega), hx.2.2, Option.bind_some, if_pos (show m1 = -1 from rfl), show F_X4_takeNumber 2 120 rd t1 = _ from a4, Option.bind_some, if_pos rfl, a5, Option.bind_some, if_pos rfl, L_appendStriker hP (by omega), Option.bind_some, nm_e1, show nI k + 1 = nI (k + 1) from nI_1 k]
    exact b1
end
