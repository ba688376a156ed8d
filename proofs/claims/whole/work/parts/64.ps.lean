/-! ===== PURE: what both have read ===== -/
def PS (g : Nat → Nat) (f n : Nat) (b : Nat → Int32) (rd : ReadT) (t : SrcT) (ba err ea nb tok : Int32) : Prop :=
  BY g f t.1 b ∧ n ≤ f ∧ TK g n t ba nb tok ∧ rd.1 = err ∧ rd.2.1 = (if err = 0 then -1 else ea)
section
variable {g : Nat → Nat} {f n : Nat} {b : Nat → Int32} {rd : ReadT} {t : SrcT} {ba err ea nb tok : Int32}
theorem nq1 : ¬ (1 : Int32) = 0 := by decide
theorem nq2 : ¬ (2 : Int32) = 0 := by decide
theorem nq3 : ¬ (3 : Int32) = 0 := by decide
theorem nq4 : ¬ (4 : Int32) = 0 := by decide
theorem chk_t {c : Int32} : F_X11_check true c ba err ea = some (err, ea) := rfl
theorem chk_f {c : Int32} : F_X11_check false c ba 0 ea = some (c, ba) := rfl
theorem chk_e {v : Bool} {c : Int32} (h : ¬ err = 0) : F_X11_check v c ba err ea = some (err, ea) := by
  unfold F_X11_check
  rw [if_neg h]
  split <;> rfl
theorem adv_e {lim : Int32} (h : ¬ err = 0) : F_X11_advance ba b err lim nb tok = some (ba, nb, tok) := by
  unfold F_X11_advance
  rw [if_neg h]
theorem PS.adv (h : PS g f n b rd t ba 0 ea nb tok) (rd' : ReadT) (h1 : rd'.1 = 0) (h2 : rd'.2.1 = -1) :
    ∃ t' ba' nb' tok', F_X8_advance t = some t' ∧ F_X11_advance ba b 0 (nI n) nb tok = some (ba', nb', tok') ∧ PS g f n b rd' t' ba' 0 ea nb' tok' := by
  obtain ⟨hB, hn, ⟨i, j, hij, hj, e1, e2, rfl, -⟩, -⟩ := h
  obtain ⟨t', ba', nb', tok', k1, k2, k3, k4⟩ := TK.start hB hn hj e1 e2 ba tok
  refine ⟨t', ba', nb', tok', k1, ?_, k3, hn, k4, h1, h2⟩
  unfold F_X11_advance
  rw [if_pos rfl, k2]
  rfl
theorem PS.fail (h : PS g f n b rd t ba 0 ea nb tok) {c : Int32} (hc : ¬ c = 0) (z : Int32) : PS g f n b (c, t.2.2.2.2.2.1, z) t ba c ba nb tok := by
  obtain ⟨hB, hn, hT, -⟩ := h
  refine ⟨hB, hn, hT, rfl, ?_⟩
  obtain ⟨i, j, -, -, -, -, -, e4, e5, -⟩ := hT
  rw [if_neg hc, e5]
  exact e4
theorem PS.r1 (h : PS g f n b rd t ba 0 ea nb tok) : rd.1 = 0 ∧ rd.2.1 = -1 := ⟨h.2.2.2.1, h.2.2.2.2⟩
theorem PS.wd (h : PS g f n b rd t ba 0 ea nb tok) {x : Nat} (hx : x < 13) : ∃ v, F_X8_isWord x t = some v ∧ F_X11_isWord x ba b 0 nb tok = some v := TK.word h.1 h.2.1 h.2.2.1 hx
/-- the first word of a text -/
theorem PS.takeWord (h : PS g f n b rd t ba 0 ea nb tok) {x : Nat} (hx : x < 13) :
    ∃ rd' t' ba' err' ea' nb' tok', F_X4_takeWord x rd t = some (decide (err' = 0), (rd', t')) ∧ PS g f n b rd' t' ba' err' ea' nb' tok' ∧
      ∃ w, F_X11_isWord x ba b 0 nb tok = some w ∧ F_X11_check w 1 ba 0 ea = some (err', ea') ∧ F_X11_advance ba b err' (nI n) nb tok = some (ba', nb', tok') := by
  obtain ⟨v, k1, k2⟩ := h.wd hx
  unfold F_X4_takeWord
  rw [k1]
  cases v with
  | true =>
    obtain ⟨t', ba', nb', tok', a1, a2, a3⟩ := h.adv rd h.r1.1 h.r1.2
    refine ⟨rd, t', ba', 0, ea, nb', tok', ?_, a3, true, k2, chk_t, a2⟩
    rw [Option.bind_some, if_pos rfl, a1]
    rfl
  | false =>
    exact ⟨_, t, ba, 1, ba, nb, tok, rfl, h.fail (c := 1) (by decide) rd.2.2, false, k2, chk_f, adv_e (by decide)⟩
theorem TK.sym {sb : Nat → Int32} (hB : BY g f sb b) (hn : n ≤ f) (h : TK g n t ba nb tok) : ∃ v, F_X8_isSemicolon t = some v ∧ F_X11_isSymbol 59 ba b 0 tok = some v := by
  have h6 := hB.1
  obtain ⟨i, j, hij, hj, e1, e2, rfl, e4, rfl, hc⟩ := h
  unfold F_X8_isSemicolon F_X11_isSymbol
  rcases hc with ⟨a, rfl⟩ | ⟨a, rfl⟩ | ⟨a, rfl, -⟩ | ⟨a, rfl, hi, q⟩ | ⟨a, rfl, hi, q⟩
  · rw [a]; exact ⟨false, rfl, rfl⟩
  · rw [a]; exact ⟨false, rfl, rfl⟩
  · rw [a]; exact ⟨false, rfl, rfl⟩
  · refine ⟨true, by rw [a]; rfl, ?_⟩
    rw [if_pos rfl, if_pos rfl, ix_nI (by omega) (by decide), nI_clamp (by omega), (hB.2 i (by omega)).2.2, q, if_pos (show nI 59 = 59 from rfl)]
  · refine ⟨false, by rw [a]; rfl, ?_⟩
    have hg := (hB.2 i (by omega)).1
    rw [if_pos rfl, if_pos rfl, ix_nI (by omega) (by decide), nI_clamp (by omega), (hB.2 i (by omega)).2.2, if_neg (show ¬ nI (g i) = 59 from fun e => q ((nI_eq_lit 59 (by omega) (by decide)).mp e))]
theorem PS.semi (h : PS g f n b rd t ba 0 ea nb tok) :
    ∃ rd' t' ba' err' ea' nb' tok', F_X4_takeSemicolon rd t = some (decide (err' = 0), (rd', t')) ∧ F_X11_expect 59 ba b 0 ea (nI n) nb tok = some (ba', err', ea', nb', tok') ∧ PS g f n b rd' t' ba' err' ea' nb' tok' ∧ rd'.2.2 = rd.2.2 := by
  obtain ⟨v, k1, k2⟩ := TK.sym h.1 h.2.1 h.2.2.1
  unfold F_X4_takeSemicolon F_X11_expect
  rw [k1, k2]
  cases v with
  | true =>
    obtain ⟨t', ba', nb', tok', a1, a2, a3⟩ := h.adv rd h.r1.1 h.r1.2
    refine ⟨rd, t', ba', 0, ea, nb', tok', ?_, ?_, a3, rfl⟩
    · rw [Option.bind_some, if_pos rfl, a1]
      rfl
    · rw [Option.bind_some, chk_t, Option.bind_some, a2]
      rfl
  | false =>
    refine ⟨_, t, ba, 1, ba, nb, tok, rfl, ?_, h.fail (c := 1) (by decide) rd.2.2, rfl⟩
    rw [Option.bind_some, chk_f, Option.bind_some, adv_e nq1]
    rfl
theorem semi_e (h : PS g f n b rd t ba err ea nb tok) (he : ¬ err = 0) : F_X11_expect 59 ba b err ea (nI n) nb tok = some (ba, err, ea, nb, tok) := by
  unfold F_X11_expect F_X11_isSymbol
  rw [if_neg he, Option.bind_some, chk_e he, Option.bind_some, adv_e he]
  rfl
theorem TK.val {sb : Nat → Int32} (hB : BY g f sb b) (hn : n ≤ f) (h : TK g n t ba nb tok) :
    (¬ tok = 2 ∧ F_X8_isNumber t = some false ∧ F_X11_value ba b nb tok = some (nI 0)) ∨
    (tok = 2 ∧ F_X8_isNumber t = some true ∧ ∃ c r, F_X8_tokenValue t = some (nI c) ∧ VR c r ∧ F_X11_value ba b nb tok = some (nI r)) := by
  have h6 := hB.1
  obtain ⟨i, j, hij, hj, e1, e2, rfl, e4, rfl, hc⟩ := h
  have no : ∀ tk : Int32, ¬ tk = 2 → F_X11_value (nI i) b (nI j) tk = some (nI 0) := by
    intro tk hk
    show B_X11_value_7 (nI i) b (nI j) tk (fx _ _ 999999) 0 (nI i) = _
    unfold B_X11_value_7
    rw [if_neg hk]
    split <;> rfl
  unfold F_X8_isNumber F_X8_tokenValue
  rcases hc with ⟨a, rfl⟩ | ⟨a, rfl⟩ | ⟨a, rfl, c, e6, hv, hd⟩ | ⟨a, rfl, -⟩ | ⟨a, rfl, -⟩
  · exact Or.inl ⟨by decide, by rw [a]; rfl, no _ (by decide)⟩
  · exact Or.inl ⟨by decide, by rw [a]; rfl, no _ (by decide)⟩
  · refine Or.inr ⟨rfl, by rw [a]; rfl, c, rv g i (j - i), by rw [e6], hv, ?_⟩
    have := lk_val hB (i := i) (j := j) (by omega) (j - i) FUEL i rfl hij (Nat.le_refl _) (by unfold FUEL; omega) hd
    rw [Nat.sub_self] at this
    exact this
  · exact Or.inl ⟨by decide, by rw [a]; rfl, no _ (by decide)⟩
  · exact Or.inl ⟨by decide, by rw [a]; rfl, no _ (by decide)⟩
theorem PS.look (h : PS g f n b rd t ba 0 ea nb tok) {lo hi : Nat} (hl : lo < 1000000) (hh : hi < 1000000) :
    (F_X8_isNumber t = some false ∧ F_X11_look (nI lo) (nI hi) ba b 0 ea nb tok = some (nI lo, (1, ba))) ∨
    (F_X8_isNumber t = some true ∧ ∃ c, c ≤ 1000000 ∧ F_X8_tokenValue t = some (nI c) ∧
      ((lo ≤ c ∧ c ≤ hi ∧ F_X11_look (nI lo) (nI hi) ba b 0 ea nb tok = some (nI c, (0, ea))) ∨ (¬ (lo ≤ c ∧ c ≤ hi) ∧ F_X11_look (nI lo) (nI hi) ba b 0 ea nb tok = some (nI lo, (2, ba))))) := by
  unfold F_X11_look
  rcases TK.val h.1 h.2.1 h.2.2.1 with ⟨k1, k2, k3⟩ | ⟨k1, k2, c, r, k3, k4, k5⟩
  · refine Or.inl ⟨k2, ?_⟩
    rw [if_neg k1, chk_f, Option.bind_some, k3, Option.bind_some, M_inRange (by decide) (by omega) (by omega), Option.bind_some, chk_e nq1, Option.bind_some, if_neg nq1]
  · have hr := k4.lt
    refine Or.inr ⟨k2, c, hr.1, k3, ?_⟩
    rw [if_pos k1, chk_t, Option.bind_some, k5, Option.bind_some, M_inRange (by omega) (by omega) (by omega), Option.bind_some]
    by_cases q : lo ≤ c ∧ c ≤ hi
    · have e : c = r := by rcases k4 with k4 | k4 <;> omega
      subst e
      refine Or.inl ⟨q.1, q.2, ?_⟩
      rw [decide_eq_true q, chk_t, Option.bind_some, if_pos rfl]
    · refine Or.inr ⟨q, ?_⟩
      have q2 : ¬ (lo ≤ r ∧ r ≤ hi) := by rcases k4 with k4 | k4 <;> omega
      rw [decide_eq_false q2, chk_f, Option.bind_some, if_neg nq2]
theorem look_e (h : PS g f n b rd t ba err ea nb tok) (he : ¬ err = 0) {lo hi : Nat} (hl : lo < 1000000) (hh : hi < 1000000) :
    F_X11_look (nI lo) (nI hi) ba b err ea nb tok = some (nI lo, (err, ea)) := by
  unfold F_X11_look
  rcases TK.val h.1 h.2.1 h.2.2.1 with ⟨k1, k2, k3⟩ | ⟨k1, k2, c, r, k3, k4, k5⟩
  · rw [if_neg k1, chk_e he, Option.bind_some, k3, Option.bind_some, M_inRange (by decide) (by omega) (by omega), Option.bind_some, chk_e he, Option.bind_some, if_neg he]
  · have hr := k4.lt
    rw [if_pos k1, chk_t, Option.bind_some, k5, Option.bind_some, M_inRange (by omega) (by omega) (by omega), Option.bind_some, chk_e he, Option.bind_some, if_neg he]
theorem PS.num (h : PS g f n b rd t ba 0 ea nb tok) {lo hi : Nat} (hl : lo < 1000000) (hh : hi < 1000000) :
    ∃ rd' t' v ba' err' ea' nb' tok', F_X4_takeNumber (nI lo) (nI hi) rd t = some (decide (err' = 0), (rd', t')) ∧ F_X11_readNumber (nI lo) (nI hi) ba b 0 ea (nI n) nb tok = some (v, (ba', err', ea', nb', tok')) ∧
      PS g f n b rd' t' ba' err' ea' nb' tok' ∧ (err' = 0 → ∃ m, lo ≤ m ∧ m ≤ hi ∧ v = nI m ∧ rd'.2.2 = nI m) := by
  unfold F_X4_takeNumber F_X11_readNumber
  rcases h.look hl hh with ⟨k1, k2⟩ | ⟨k1, c, hc, k2, k3⟩
  · rw [k1, k2, Option.bind_some, Option.bind_some, if_neg (by decide), adv_e (show ¬ (1 : Int32) = 0 by decide)]
    exact ⟨_, t, nI lo, ba, 1, ba, nb, tok, rfl, rfl, h.fail (c := 1) (by decide) rd.2.2, fun e => absurd e (by decide)⟩
  · rw [k1, Option.bind_some, if_pos rfl, k2, Option.bind_some]
    rcases k3 with ⟨q1, q2, k3⟩ | ⟨q, k3⟩
    · obtain ⟨t', ba', nb', tok', a1, a2, a3⟩ := h.adv (rd.1, rd.2.1, nI c) h.r1.1 h.r1.2
      refine ⟨(rd.1, rd.2.1, nI c), t', nI c, ba', 0, ea, nb', tok', ?_, ?_, a3, fun _ => ⟨c, q1, q2, rfl, rfl⟩⟩
      · rw [if_neg (nI_nlt q1 (by omega)), if_pos (nI_le q2 (by omega)), a1]
        rfl
      · rw [k3, Option.bind_some, a2]
        rfl
    · refine ⟨(2, t.2.2.2.2.2.1, nI c), t, nI lo, ba, 2, ba, nb, tok, ?_, ?_, h.fail (c := 2) (by decide) (nI c), fun e => absurd e (by decide)⟩
      · by_cases z : c < lo
        · rw [if_pos (nI_lt z (by omega))]
          rfl
        · rw [if_neg (nI_nlt (by omega) (by omega)), if_neg (nI_ge (by omega) (by omega))]
          rfl
      · rw [k3, Option.bind_some, adv_e (show ¬ (2 : Int32) = 0 by decide)]
        rfl
theorem num_e (h : PS g f n b rd t ba err ea nb tok) (he : ¬ err = 0) {lo hi : Nat} (hl : lo < 1000000) (hh : hi < 1000000) :
    F_X11_readNumber (nI lo) (nI hi) ba b err ea (nI n) nb tok = some (nI lo, (ba, err, ea, nb, tok)) := by
  unfold F_X11_readNumber
  rw [look_e h he hl hh, Option.bind_some, adv_e he]
  rfl
end
