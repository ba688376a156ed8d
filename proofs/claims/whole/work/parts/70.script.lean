/-! ===== PURE: a script is read ===== -/
def ql (q : Nat) : Nat := ([1, 0, 2, 2, 2, 2, 0, 1] : List Nat).getD q 0
def qh (q : Nat) : Nat := ([400, 0, 120, 120, 120, 120, 4, 30] : List Nat).getD q 0
/-- c orders, as both keep them -/
def SC (scr : ScrT) (ors : Nat → Int32) (c : Nat) : Prop :=
  scr.2.2.2 = nI c ∧ c ≤ 20 ∧ ∀ i, i < c → ∃ q m p, q < 8 ∧ scr.1 i = some q ∧ ors (3 * i) = nI q ∧ scr.2.1 i = nI m ∧ ors (3 * i + 1) = nI m ∧ ql q ≤ m ∧ m ≤ qh q ∧ (q = 5 → scr.2.2.1 i = nI p ∧ ors (3 * i + 2) = nI p ∧ 2 ≤ p ∧ p ≤ 120)
theorem q_rng {q : Nat} (h : q < 8) : ql q < 1000 ∧ qh q < 1000 ∧ sw_ol q = nI (ql q) ∧ sw_om q = nI (qh q) := by
  have : (List.range 8).all (fun q => decide (ql q < 1000 ∧ qh q < 1000 ∧ sw_ol q = nI (ql q) ∧ sw_om q = nI (qh q))) = true := by decide +kernel
  exact of_decide_eq_true (List.all_eq_true.mp this q (List.mem_range.mpr h))
theorem q_os {q : Nat} (h : q < 8) : ¬ sw_os q = 0 := by
  have : (List.range 8).all (fun q => decide (¬ sw_os q = 0)) = true := by decide +kernel
  exact of_decide_eq_true (List.all_eq_true.mp this q (List.mem_range.mpr h))
section
variable {scr : ScrT} {ors : Nat → Int32} {c : Nat}
theorem SC.more (h : SC scr ors c) (hc : c < 20) {q m p : Nat} {o z : Int32} (hq : q < 8) (h1 : ql q ≤ m) (h2 : m ≤ qh q) (h5 : q = 5 → o = nI p ∧ z = nI p ∧ 2 ≤ p ∧ p ≤ 120) :
    SC (va_up scr.1 c (some q), upd scr.2.1 c (nI m), upd scr.2.2.1 c o, nI (c + 1)) (upd (upd (upd ors (3 * c) (nI q)) (3 * c + 1) (nI m)) (3 * c + 2) z) (c + 1) := by
  refine ⟨rfl, by omega, fun i hi => ?_⟩
  by_cases e : i = c
  · subst e
    refine ⟨q, m, p, hq, ?_, ?_, pk_us, ?_, h1, h2, fun e => ?_⟩
    · exact if_pos rfl
    · rw [pk_un (by omega), pk_un (by omega), pk_us]
    · rw [pk_un (by omega), pk_us]
    · obtain ⟨a, b, d⟩ := h5 e
      refine ⟨?_, ?_, d⟩
      · show upd scr.2.2.1 i o i = nI p
        rw [pk_us, a]
      · rw [pk_us, b]
  · obtain ⟨q', m', p', a1, a2, a3, a4, a5, a6, a7, a8⟩ := h.2.2 i (by omega)
    refine ⟨q', m', p', a1, ?_, ?_, ?_, ?_, a6, a7, fun e5 => ?_⟩
    · show va_up scr.1 c (some q) i = some q'
      unfold va_up
      rw [if_neg e]
      exact a2
    · rw [pk_un (by omega), pk_un (by omega), pk_un (by omega)]; exact a3
    · show upd scr.2.1 c (nI m) i = nI m'
      rw [pk_un e]; exact a4
    · rw [pk_un (by omega), pk_un (by omega), pk_un (by omega)]; exact a5
    · obtain ⟨b1, b2, b3⟩ := a8 e5
      refine ⟨?_, ?_, b3⟩
      · show upd scr.2.2.1 c o i = nI p'
        rw [pk_un e]; exact b1
      · rw [pk_un (by omega), pk_un (by omega), pk_un (by omega)]; exact b2
theorem L_append (h : SC scr ors c) (hc : c < 20) {q : Nat} (hq : q < 8) (x y : Int32) : F_X5_append q x y scr = some (va_up scr.1 c (some q), upd scr.2.1 c x, upd scr.2.2.1 c y, nI (c + 1)) := by
  unfold F_X5_append kl
  rw [h.1, if_neg (show ¬ (20 : Int32) ≤ nI c from nI_ge (b := 20) hc (by decide)), if_pos (by omega), ix_nI hc (by decide), ix_nI hc (by decide), ix_nI hc (by decide), nm_e1, nI_clamp (by omega), show nI c + 1 = nI (c + 1) from e_add c 1]
end
section
variable {g : Nat → Nat} {f n : Nat} {b : Nat → Int32} {rd : ReadT} {t : SrcT} {ba ea nb tok : Int32}
def oQ : Option Nat → Int32
  | none => -1
  | some q => nI q
theorem lk_here (hS : PS g f n b rd t ba 0 ea nb tok) : ∀ m f1 f2 i, 8 - i = m → i ≤ 8 → m + 3 < f1 → m < f2 →
    ∃ o, (∀ q, o = some q → q < 8) ∧ fx (fun _ => none) (B_X4_orderHere_2 t) f1 (nI i) = some o ∧ fx (fun _ => none) (B_X11_orderHere_2 ba b 0 nb tok) f2 (nI i) = some (oQ o)
  | 0, f1, f2, i, hm, hi, h1, h2 => by
    obtain ⟨f1, rfl⟩ : ∃ q, f1 = q + 1 + 1 + 1 := ⟨f1 - 3, by omega⟩
    obtain ⟨f2, rfl⟩ : ∃ q, f2 = q + 1 := ⟨f2 - 1, by omega⟩
    have e : i = 8 := by omega
    subst e
    refine ⟨none, (fun q h => by cases h), ?_, ?_⟩
    · rw [fx_s, B_X4_orderHere_2]
      unfold kl
      rw [if_neg (by decide), ix_nI (by decide) (by decide), if_pos (by decide), if_pos (by decide), nm_e1, fx_s, B_X4_orderHere_2]
      unfold kl
      rw [if_neg (by decide), show nI 8 + 1 = nI 9 from rfl, ix_nI (by decide) (by decide), if_pos (by decide), if_pos (by decide), nm_e1, fx_s, B_X4_orderHere_2]
      rw [if_pos (by decide)]
    · rw [fx_s, B_X11_orderHere_2]
      rw [if_pos (by decide)]
      rfl
  | m + 1, f1, f2, i, hm, hi, h1, h2 => by
    obtain ⟨f1, rfl⟩ : ∃ q, f1 = q + 1 := ⟨f1 - 1, by omega⟩
    obtain ⟨f2, rfl⟩ : ∃ q, f2 = q + 1 := ⟨f2 - 1, by omega⟩
    have hi8 : i < 8 := by omega
    obtain ⟨v, k1, k2⟩ := hS.wd (x := 3 + i) (by omega)
    have next : nI i + 1 = nI (i + 1) := e_add i 1
    have cls : ∀ r, (if v = true then some (some i) else fx (fun _ => none) (B_X4_orderHere_2 t) f1 (nI (i + 1))) = some r → fx (fun _ => none) (B_X4_orderHere_2 t) (f1 + 1) (nI i) = some r := by
      intro r hr
      rw [fx_s, B_X4_orderHere_2]
      unfold kl
      rw [if_neg (show ¬ (10 : Int32) ≤ nI i from nI_ge (b := 10) (by omega) (by decide)), ix_nI (by omega) (by decide), nI_clamp (by omega), if_pos (by omega), if_neg (q_os hi8), k1, Option.bind_some, nm_e1, next]
      exact hr
    have ref : ∀ r, (if v = true then some (nI i) else fx (fun _ => none) (B_X11_orderHere_2 ba b 0 nb tok) f2 (nI (i + 1))) = some r → fx (fun _ => none) (B_X11_orderHere_2 ba b 0 nb tok) (f2 + 1) (nI i) = some r := by
      intro r hr
      rw [fx_s, B_X11_orderHere_2]
      rw [if_neg (show ¬ (8 : Int32) ≤ nI i from nI_ge (b := 8) hi8 (by decide)), ix_nI hi8 (by decide), nI_clamp (by omega), k2, Option.bind_some, nm_e1, next]
      exact hr
    by_cases hv : v = true
    · refine ⟨some i, (fun q h => by cases h; exact hi8), cls _ (by rw [if_pos hv]), ref _ (by rw [if_pos hv]; rfl)⟩
    · obtain ⟨o, p1, p2, p3⟩ := lk_here hS m f1 f2 (i + 1) (by omega) (by omega) (by omega) (by omega)
      exact ⟨o, p1, cls _ (by rw [if_neg hv]; exact p2), ref _ (by rw [if_neg hv]; exact p3)⟩
theorem oe_some {α β : Type} {k : α} {x : β} {y : α → β} : oe (some k) x y = y k := rfl
/-- the reference's order behind its keyword -/
def rot (kd : Int32) (b : Nat → Int32) (lim oc : Int32) (ors : Nat → Int32) (ba ea nb tok : Int32) : Option (Int32 × Int32 × Int32 × Int32 × Int32 × (Nat → Int32) × Int32) :=
  nm ((3 * oc)) (fun x2_122 => ix x2_122 60 ((F_X11_readFirst kd ba b 0 ea lim nb tok).bind (fun w_124 => ix (x2_122 + 1) 60 ((if kd = 5 then (F_X11_readNumber 2 120 w_124.2.1 b w_124.2.2.1 w_124.2.2.2.1 lim w_124.2.2.2.2.1 w_124.2.2.2.2.2).bind (fun w_132 => ix (x2_122 + 2) 60 ((F_X11_expect 59 w_132.2.1 b w_132.2.2.1 w_132.2.2.2.1 lim w_132.2.2.2.2.1 w_132.2.2.2.2.2).bind (fun w_135 => nm ((oc + 1)) (fun f_137 => some (w_135.1, w_135.2.1, w_135.2.2.1, w_135.2.2.2.1, f_137, (upd (upd (upd ors x2_122.toNatClampNeg kd) ((x2_122 + 1).toNatClampNeg) w_124.1) ((x2_122 + 2).toNatClampNeg) w_132.1), w_135.2.2.2.2))))) else ix (x2_122 + 2) 60 ((F_X11_expect 59 w_124.2.1 b w_124.2.2.1 w_124.2.2.2.1 lim w_124.2.2.2.2.1 w_124.2.2.2.2.2).bind (fun w_129 => nm ((oc + 1)) (fun f_131 => some (w_129.1, w_129.2.1, w_129.2.2.1, w_129.2.2.2.1, f_131, (upd (upd (upd ors x2_122.toNatClampNeg kd) ((x2_122 + 1).toNatClampNeg) w_124.1) ((x2_122 + 2).toNatClampNeg) 0), w_129.2.2.2.2)))))))))
theorem ro_good {q c : Nat} {lim : Int32} {ors : Nat → Int32} {ba1 nb1 tok1 : Int32} (ho : F_X11_orderHere ba b 0 nb tok = some (nI q)) (hq : q < 8) (hc : c < 20) (ha : F_X11_advance ba b 0 lim nb tok = some (ba1, nb1, tok1)) :
    F_X11_readOrder ba b 0 ea lim nb (nI c) ors tok = rot (nI q) b lim (nI c) ors ba1 ea nb1 tok1 := by
  unfold F_X11_readOrder
  rw [ho, Option.bind_some, if_neg (m1_ne (by omega)), chk_t, Option.bind_some, if_pos rfl, if_neg (show ¬ (20 : Int32) ≤ nI c from nI_ge (b := 20) hc (by decide)), chk_t, Option.bind_some, ha, Option.bind_some, if_pos rfl]
  rfl
theorem ro_full {q c : Nat} {lim : Int32} {ors : Nat → Int32} (ho : F_X11_orderHere ba b 0 nb tok = some (nI q)) (hq : q < 8) (hc : 20 ≤ c) (hc2 : c < 100) :
    F_X11_readOrder ba b 0 ea lim nb (nI c) ors tok = some (ba, 4, ba, nb, nI c, ors, tok) := by
  unfold F_X11_readOrder
  rw [ho, Option.bind_some, if_neg (m1_ne (by omega)), chk_t, Option.bind_some, if_pos rfl, if_pos (show (20 : Int32) ≤ nI c from nI_le (a := 20) hc (by omega)), chk_f, Option.bind_some, adv_e nq4, Option.bind_some, if_neg nq4]
theorem ro_none {oc : Int32} {lim : Int32} {ors : Nat → Int32} (ho : F_X11_orderHere ba b 0 nb tok = some (-1)) :
    F_X11_readOrder ba b 0 ea lim nb oc ors tok = some (ba, 1, ba, nb, oc, ors, tok) := by
  unfold F_X11_readOrder
  rw [ho, Option.bind_some, if_pos rfl, chk_f, Option.bind_some, if_neg nq1, chk_t, Option.bind_some, adv_e nq1, Option.bind_some, if_neg nq1]
theorem rf_num {q : Nat} {lim v ba' er' ea' nb' tok' : Int32} (hq : q < 8) (h1 : q ≠ 1) (h : F_X11_readNumber (nI (ql q)) (nI (qh q)) ba b 0 ea lim nb tok = some (v, (ba', er', ea', nb', tok'))) :
    F_X11_readFirst (nI q) ba b 0 ea lim nb tok = some (v, (ba', er', ea', nb', tok')) := by
  unfold F_X11_readFirst
  match q, hq, h1, h with
  | 0, _, _, h =>
    have h : F_X11_readNumber 1 400 ba b 0 ea lim nb tok = some (v, (ba', er', ea', nb', tok')) := h
    rw [if_pos (by decide), h]; rfl
  | 1, _, h1, _ => exact absurd rfl h1
  | 2, _, _, h =>
    have h : F_X11_readNumber 2 120 ba b 0 ea lim nb tok = some (v, (ba', er', ea', nb', tok')) := h
    rw [if_neg (by decide), if_neg (by decide), if_pos (by decide), h]; rfl
  | 3, _, _, h =>
    have h : F_X11_readNumber 2 120 ba b 0 ea lim nb tok = some (v, (ba', er', ea', nb', tok')) := h
    rw [if_neg (by decide), if_neg (by decide), if_neg (by decide), if_pos (by decide), h]; rfl
  | 4, _, _, h =>
    have h : F_X11_readNumber 2 120 ba b 0 ea lim nb tok = some (v, (ba', er', ea', nb', tok')) := h
    rw [if_neg (by decide), if_neg (by decide), if_neg (by decide), if_neg (by decide), if_pos (by decide), h]; rfl
  | 5, _, _, h =>
    have h : F_X11_readNumber 2 120 ba b 0 ea lim nb tok = some (v, (ba', er', ea', nb', tok')) := h
    rw [if_neg (by decide), if_neg (by decide), if_neg (by decide), if_neg (by decide), if_neg (by decide), if_pos (by decide), h]; rfl
  | 6, _, _, h =>
    have h : F_X11_readNumber 0 4 ba b 0 ea lim nb tok = some (v, (ba', er', ea', nb', tok')) := h
    rw [if_neg (by decide), if_neg (by decide), if_neg (by decide), if_neg (by decide), if_neg (by decide), if_neg (by decide), if_pos (by decide), h]; rfl
  | 7, _, _, h =>
    have h : F_X11_readNumber 1 30 ba b 0 ea lim nb tok = some (v, (ba', er', ea', nb', tok')) := h
    rw [if_neg (by decide), if_neg (by decide), if_neg (by decide), if_neg (by decide), if_neg (by decide), if_neg (by decide), if_neg (by decide), if_pos (by decide), h]; rfl
/-- the class's order behind its keyword -/
def cot (q : Nat) (t : ReadT) (t1 : SrcT) (a0 : ScrT) : Option (Bool × (ReadT × SrcT × ScrT)) :=
  (if (sw_on q) ≤ 0 then (if (sw_on q) ≤ 1 then (F_X4_takeSemicolon (t.1, t.2.1, 0) t1).bind (fun w_15 => (if w_15.1 = true then (F_X5_append q 0 w_15.2.1.2.2 a0).bind (fun w_18 => some (true, (w_15.2.1, w_15.2.2, w_18))) else some (false, (w_15.2.1, w_15.2.2, a0)))) else (F_X4_takeNumber (sw_ol q) (sw_om q) (t.1, t.2.1, 0) t1).bind (fun w_20 => (if w_20.1 = true then (F_X4_takeSemicolon w_20.2.1 w_20.2.2).bind (fun w_23 => (if w_23.1 = true then (F_X5_append q 0 w_23.2.1.2.2 a0).bind (fun w_26 => some (true, (w_23.2.1, w_23.2.2, w_26))) else some (false, (w_23.2.1, w_23.2.2, a0)))) else some (false, (w_20.2.1, w_20.2.2, a0))))) else (F_X4_takeNumber (sw_ol q) (sw_om q) (t.1, t.2.1, 0) t1).bind (fun w_28 => (if w_28.1 = true then (if (sw_on q) ≤ 1 then (F_X4_takeSemicolon w_28.2.1 w_28.2.2).bind (fun w_32 => (if w_32.1 = true then (F_X5_append q w_28.2.1.2.2 w_32.2.1.2.2 a0).bind (fun w_35 => some (true, (w_32.2.1, w_32.2.2, w_35))) else some (false, (w_32.2.1, w_32.2.2, a0)))) else (F_X4_takeNumber (sw_ol q) (sw_om q) w_28.2.1 w_28.2.2).bind (fun w_37 => (if w_37.1 = true then (F_X4_takeSemicolon w_37.2.1 w_37.2.2).bind (fun w_40 => (if w_40.1 = true then (F_X5_append q w_28.2.1.2.2 w_40.2.1.2.2 a0).bind (fun w_43 => some (true, (w_40.2.1, w_40.2.2, w_43))) else some (false, (w_40.2.1, w_40.2.2, a0)))) else some (false, (w_37.2.1, w_37.2.2, a0))))) else some (false, (w_28.2.1, w_28.2.2, a0)))))
theorem co_good {q c : Nat} {scr : ScrT} {t1 : SrcT} (ho : F_X4_orderHere t = some (some q)) (hq : q < 8) (h1 : scr.2.2.2 = nI c) (hc : c < 20) (ha : F_X8_advance t = some t1) : F_X4_readOrder rd t scr = cot q rd t1 scr := by
  unfold F_X4_readOrder F_X5_count
  rw [ho, Option.bind_some, oe_some, h1, Option.bind_some, if_pos (show nI c < 20 from nI_lt (b := 20) hc (by decide)), ha, Option.bind_some]
  unfold kl
  rw [if_pos (by omega)]
  rfl
theorem lk_order {scr : ScrT} {ors : Nat → Int32} {c : Nat} (hS : PS g f n b rd t ba 0 ea nb tok) (hC : SC scr ors c) :
    ∃ rd' t' scr' ba' err' ea' nb' oc' ors' tok', F_X4_readOrder rd t scr = some (decide (err' = 0), (rd', t', scr')) ∧ F_X11_readOrder ba b 0 ea (nI n) nb (nI c) ors tok = some (ba', err', ea', nb', oc', ors', tok') ∧
      PS g f n b rd' t' ba' err' ea' nb' tok' ∧ (err' = 0 → c < 20 ∧ oc' = nI (c + 1) ∧ SC scr' ors' (c + 1)) := by
  have h20 := hC.2.1
  obtain ⟨o, o1, o2, o3⟩ := lk_here hS 8 FUEL FUEL 0 rfl (by omega) (by unfold FUEL; omega) (by unfold FUEL; omega)
  have o2 : F_X4_orderHere t = some o := o2
  have o3 : F_X11_orderHere ba b 0 nb tok = some (oQ o) := o3
  cases o with
  | none =>
    refine ⟨_, t, scr, ba, 1, ba, nb, nI c, ors, tok, ?_, ro_none o3, hS.fail (c := 1) (by decide) rd.2.2, fun e => absurd e (by decide)⟩
    unfold F_X4_readOrder
    rw [o2]
    rfl
  | some q =>
    have hq := o1 q rfl
    by_cases hc : c < 20
    · obtain ⟨t1, ba1, nb1, tok1, a1, a2, a3⟩ := hS.adv (rd.1, rd.2.1, 0) hS.r1.1 hS.r1.2
      rw [co_good o2 hq hC.1 hc a1, ro_good o3 hq hc a2]
      obtain ⟨r1, r2, r3, r4⟩ := q_rng hq
      have ei : (3 : Int32) * nI c = nI (3 * c) := e_mul 3 c
      have e1 : nI (3 * c) + 1 = nI (3 * c + 1) := e_add _ 1
      have e2 : nI (3 * c) + 2 = nI (3 * c + 2) := e_add _ 2
      have ec : nI c + 1 = nI (c + 1) := e_add c 1
      have x1 : (nI (3 * c)).toNatClampNeg = 3 * c := nI_clamp (by omega)
      have x2 : (nI (3 * c + 1)).toNatClampNeg = 3 * c + 1 := nI_clamp (by omega)
      have x3 : (nI (3 * c + 2)).toNatClampNeg = 3 * c + 2 := nI_clamp (by omega)
      -- the reference, behind its first number
      have rft : ∀ v ba2 er2 ea2 nb2 tok2 A, F_X11_readFirst (nI q) ba1 b 0 ea (nI n) nb1 tok1 = some (v, (ba2, er2, ea2, nb2, tok2)) →
          (if nI q = 5 then (F_X11_readNumber 2 120 ba2 b er2 ea2 (nI n) nb2 tok2).bind (fun w_132 => (F_X11_expect 59 w_132.2.1 b w_132.2.2.1 w_132.2.2.2.1 (nI n) w_132.2.2.2.2.1 w_132.2.2.2.2.2).bind (fun w_135 => some (w_135.1, w_135.2.1, w_135.2.2.1, w_135.2.2.2.1, nI (c + 1), (upd (upd (upd ors (3 * c) (nI q)) (3 * c + 1) v) (3 * c + 2) w_132.1), w_135.2.2.2.2))) else (F_X11_expect 59 ba2 b er2 ea2 (nI n) nb2 tok2).bind (fun w_129 => some (w_129.1, w_129.2.1, w_129.2.2.1, w_129.2.2.2.1, nI (c + 1), (upd (upd (upd ors (3 * c) (nI q)) (3 * c + 1) v) (3 * c + 2) 0), w_129.2.2.2.2))) = A → rot (nI q) b (nI n) (nI c) ors ba1 ea nb1 tok1 = A := by
        intro v ba2 er2 ea2 nb2 tok2 A h1 hA
        unfold rot
        rw [nm_e1, ei, ix_nI (by omega) (by decide), h1, Option.bind_some, e1, ix_nI (by omega) (by decide), e2, x1, x2, x3]
        rw [← hA]
        by_cases q5 : nI q = 5
        · rw [if_pos q5, if_pos q5]
          congr 1
          funext w
          rw [ix_nI (by omega) (by decide), ec]
          rfl
        · rw [if_neg q5, if_neg q5, ix_nI (by omega) (by decide), ec]
          rfl
      by_cases q1 : q = 1
      · subst q1
        obtain ⟨rd4, t4, ba4, err4, ea4, nb4, tok4, d1, d2, d3, d4⟩ := a3.semi
        have rfirst : F_X11_readFirst (nI 1) ba1 b 0 ea (nI n) nb1 tok1 = some (0, (ba1, 0, ea, nb1, tok1)) := by
          unfold F_X11_readFirst
          rw [if_neg (by decide), if_pos (by decide)]
        have d4 : rd4.2.2 = 0 := d4
        by_cases e4 : err4 = 0
        · subst e4
          refine ⟨rd4, t4, _, ba4, 0, ea4, nb4, nI (c + 1), _, tok4, ?_, rft _ _ _ _ _ _ _ rfirst ?_, d3, fun _ => ⟨hc, rfl, hC.more hc (q := 1) (m := 0) (p := 0) (o := rd4.2.2) (z := 0) hq (by decide) (by decide) (fun e => absurd e (by decide))⟩⟩
          · unfold cot
            rw [if_pos (by decide), if_pos (by decide), d1, Option.bind_some, if_pos (dt rfl)]
            show (F_X5_append 1 (nI 0) rd4.2.2 scr).bind _ = _
            rw [L_append hC hc hq]
            rfl
          · rw [if_neg (by decide), d2]
            rfl
        · refine ⟨rd4, t4, scr, ba4, err4, ea4, nb4, nI (c + 1), (upd (upd (upd ors (3 * c) (nI 1)) (3 * c + 1) 0) (3 * c + 2) 0), tok4, ?_, rft _ _ _ _ _ _ _ rfirst ?_, d3, fun e => absurd e e4⟩
          · unfold cot
            rw [if_pos (by decide), if_pos (by decide), d1, Option.bind_some, if_neg (df e4), decide_eq_false e4]
          · rw [if_neg (by decide), d2]
            rfl
      · obtain ⟨rd2, t2, v2, ba2, err2, ea2, nb2, tok2, c1, c2, c3, c4⟩ := a3.num (lo := ql q) (hi := qh q) (by omega) (by omega)
        have rfirst := rf_num hq q1 c2
        have on0 : ¬ sw_on q ≤ 0 := by
          have : (List.range 8).all (fun q => decide (q = 1 ∨ ¬ sw_on q ≤ 0)) = true := by decide +kernel
          rcases of_decide_eq_true (List.all_eq_true.mp this q (List.mem_range.mpr hq)) with h | h
          · exact absurd h q1
          · exact h
        have ct : ∀ A, (if decide (err2 = 0) = true then (if (sw_on q) ≤ 1 then (F_X4_takeSemicolon rd2 t2).bind (fun w_32 => (if w_32.1 = true then (F_X5_append q rd2.2.2 w_32.2.1.2.2 scr).bind (fun w_35 => some (true, (w_32.2.1, w_32.2.2, w_35))) else some (false, (w_32.2.1, w_32.2.2, scr)))) else (F_X4_takeNumber (sw_ol q) (sw_om q) rd2 t2).bind (fun w_37 => (if w_37.1 = true then (F_X4_takeSemicolon w_37.2.1 w_37.2.2).bind (fun w_40 => (if w_40.1 = true then (F_X5_append q rd2.2.2 w_40.2.1.2.2 scr).bind (fun w_43 => some (true, (w_40.2.1, w_40.2.2, w_43))) else some (false, (w_40.2.1, w_40.2.2, scr)))) else some (false, (w_37.2.1, w_37.2.2, scr))))) else some (false, (rd2, t2, scr))) = A → cot q rd t1 scr = A := by
          intro A hA
          unfold cot
          rw [if_neg on0, r3, r4, c1, Option.bind_some, ← r3, ← r4]
          exact hA
        by_cases q5 : q = 5
        · subst q5
          have on1 : ¬ sw_on 5 ≤ 1 := by decide
          by_cases e2' : err2 = 0
          · subst e2'
            obtain ⟨mm, m1', m2', rfl, m4⟩ := c4 rfl
            obtain ⟨rd3, t3, v3, ba3, err3, ea3, nb3, tok3, s1, s2, s3, s4⟩ := c3.num (lo := 2) (hi := 120) (by decide) (by decide)
            have s1 : F_X4_takeNumber (sw_ol 5) (sw_om 5) rd2 t2 = some (decide (err3 = 0), (rd3, t3)) := s1
            have s2 : F_X11_readNumber 2 120 ba2 b 0 ea2 (nI n) nb2 tok2 = some (v3, (ba3, err3, ea3, nb3, tok3)) := s2
            by_cases e3' : err3 = 0
            · subst e3'
              obtain ⟨pp, p1', p2', rfl, p4⟩ := s4 rfl
              obtain ⟨rd4, t4, ba4, err4, ea4, nb4, tok4, d1, d2, d3, d4⟩ := s3.semi
              by_cases e4 : err4 = 0
              · subst e4
                refine ⟨rd4, t4, _, ba4, 0, ea4, nb4, nI (c + 1), _, tok4, ct _ ?_, rft _ _ _ _ _ _ _ rfirst ?_, d3, fun _ => ⟨hc, rfl, hC.more hc (q := 5) (m := mm) (p := pp) (o := nI pp) (z := nI pp) hq m1' m2' (fun _ => ⟨rfl, rfl, p1', p2'⟩)⟩⟩
                · rw [if_pos (dt rfl), if_neg on1, s1, Option.bind_some, if_pos (dt rfl), d1, Option.bind_some, if_pos (dt rfl)]
                  show (F_X5_append 5 rd2.2.2 rd4.2.2 scr).bind _ = _
                  rw [m4, d4, p4, L_append hC hc hq]
                  rfl
                · rw [if_pos (show nI 5 = 5 from rfl), s2, Option.bind_some]
                  show (F_X11_expect 59 ba3 b 0 ea3 (nI n) nb3 tok3).bind _ = _
                  rw [d2]
                  rfl
              · refine ⟨rd4, t4, scr, ba4, err4, ea4, nb4, nI (c + 1), (upd (upd (upd ors (3 * c) (nI 5)) (3 * c + 1) (nI mm)) (3 * c + 2) (nI pp)), tok4, ct _ ?_, rft _ _ _ _ _ _ _ rfirst ?_, d3, fun e => absurd e e4⟩
                · rw [if_pos (dt rfl), if_neg on1, s1, Option.bind_some, if_pos (dt rfl), d1, Option.bind_some, if_neg (df e4), decide_eq_false e4]
                · rw [if_pos (show nI 5 = 5 from rfl), s2, Option.bind_some]
                  show (F_X11_expect 59 ba3 b 0 ea3 (nI n) nb3 tok3).bind _ = _
                  rw [d2]
                  rfl
            · refine ⟨rd3, t3, scr, ba3, err3, ea3, nb3, nI (c + 1), (upd (upd (upd ors (3 * c) (nI 5)) (3 * c + 1) (nI mm)) (3 * c + 2) v3), tok3, ct _ ?_, rft _ _ _ _ _ _ _ rfirst ?_, s3, fun e => absurd e e3'⟩
              · rw [if_pos (dt rfl), if_neg on1, s1, Option.bind_some, if_neg (df e3'), decide_eq_false e3']
              · rw [if_pos (show nI 5 = 5 from rfl), s2, Option.bind_some]
                show (F_X11_expect 59 ba3 b err3 ea3 (nI n) nb3 tok3).bind _ = _
                rw [semi_e s3 e3']
                rfl
          · refine ⟨rd2, t2, scr, ba2, err2, ea2, nb2, nI (c + 1), (upd (upd (upd ors (3 * c) (nI 5)) (3 * c + 1) v2) (3 * c + 2) (nI 2)), tok2, ct _ ?_, rft _ _ _ _ _ _ _ rfirst ?_, c3, fun e => absurd e e2'⟩
            · rw [if_neg (df e2'), decide_eq_false e2']
            · have ne := num_e c3 e2' (lo := 2) (hi := 120) (by decide) (by decide)
              have ne : F_X11_readNumber 2 120 ba2 b err2 ea2 (nI n) nb2 tok2 = some (nI 2, (ba2, err2, ea2, nb2, tok2)) := ne
              rw [if_pos (show nI 5 = 5 from rfl), ne, Option.bind_some]
              show (F_X11_expect 59 ba2 b err2 ea2 (nI n) nb2 tok2).bind _ = _
              rw [semi_e c3 e2']
              rfl
        · have nq5 : ¬ nI q = 5 := fun e => q5 ((nI_eq_lit 5 (by omega) (by decide)).mp e)
          have on1 : sw_on q ≤ 1 := by
            have : (List.range 8).all (fun q => decide (q = 5 ∨ sw_on q ≤ 1)) = true := by decide +kernel
            rcases of_decide_eq_true (List.all_eq_true.mp this q (List.mem_range.mpr hq)) with h | h
            · exact absurd h q5
            · exact h
          by_cases e2' : err2 = 0
          · subst e2'
            obtain ⟨mm, m1', m2', rfl, m4⟩ := c4 rfl
            obtain ⟨rd4, t4, ba4, err4, ea4, nb4, tok4, d1, d2, d3, d4⟩ := c3.semi
            by_cases e4 : err4 = 0
            · subst e4
              refine ⟨rd4, t4, _, ba4, 0, ea4, nb4, nI (c + 1), _, tok4, ct _ ?_, rft _ _ _ _ _ _ _ rfirst ?_, d3, fun _ => ⟨hc, rfl, hC.more hc (q := q) (m := mm) (p := 0) (o := rd4.2.2) (z := 0) hq m1' m2' (fun e => absurd e q5)⟩⟩
              · rw [if_pos (dt rfl), if_pos on1, d1, Option.bind_some, if_pos (dt rfl)]
                show (F_X5_append q rd2.2.2 rd4.2.2 scr).bind _ = _
                rw [m4, L_append hC hc hq]
                rfl
              · rw [if_neg nq5, d2]
                rfl
            · refine ⟨rd4, t4, scr, ba4, err4, ea4, nb4, nI (c + 1), (upd (upd (upd ors (3 * c) (nI q)) (3 * c + 1) (nI mm)) (3 * c + 2) 0), tok4, ct _ ?_, rft _ _ _ _ _ _ _ rfirst ?_, d3, fun e => absurd e e4⟩
              · rw [if_pos (dt rfl), if_pos on1, d1, Option.bind_some, if_neg (df e4), decide_eq_false e4]
              · rw [if_neg nq5, d2]
                rfl
          · refine ⟨rd2, t2, scr, ba2, err2, ea2, nb2, nI (c + 1), (upd (upd (upd ors (3 * c) (nI q)) (3 * c + 1) v2) (3 * c + 2) 0), tok2, ct _ ?_, rft _ _ _ _ _ _ _ rfirst ?_, c3, fun e => absurd e e2'⟩
            · rw [if_neg (df e2'), decide_eq_false e2']
            · rw [if_neg nq5, semi_e c3 e2']
              rfl
    · refine ⟨_, t, scr, ba, 4, ba, nb, nI c, ors, tok, ?_, ro_full o3 hq (by omega) (by omega), hS.fail (c := 4) (by decide) rd.2.2, fun e => absurd e (by decide)⟩
      unfold F_X4_readOrder F_X5_count
      rw [o2, Option.bind_some, oe_some, hC.1, Option.bind_some, if_neg (show ¬ nI c < 20 from nI_nlt (b := 20) (by omega) (by omega))]
      rfl
end
