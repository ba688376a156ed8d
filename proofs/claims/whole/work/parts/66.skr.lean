/-! ===== PURE: a text: strikers ===== -/
section
variable {g : Nat → Nat} {f n : Nat} {b : Nat → Int32} {w ns : Nat} {R : Nat → Nat} {rd : ReadT} {t : SrcT}
/-- how a text ends: what is wrong there -/
def t51 (ba err ea nb : Int32) (row : Nat → Int32) (tok : Int32) : Int32 × Int32 × Int32 × Int32 × (Nat → Int32) × Int32 :=
  if err = 0 then (if tok = 0 then (ba, 0, ea, nb, row, tok) else (ba, 1, ba, nb, row, tok)) else (ba, err, ea, nb, row, tok)
theorem ex51 {ba err ea nb tok lim : Int32} {row : Nat → Int32} {j : Nat} (h : ¬ err = 0) :
    fx (fun _ _ _ _ _ _ => none) (B_X11_readText_51 b lim) (j + 1) ba err ea nb row tok = some (t51 ba err ea nb row tok) := by
  rw [fx_s, B_X11_readText_51]
  unfold t51
  rw [word_err h, Option.bind_some, if_neg (by decide), if_neg h, if_neg h]
  rfl
theorem TN_f {x y : Int32} (h : F_X8_isNumber t = some false) : F_X4_takeNumber x y rd t = some (false, ((1, t.2.2.2.2.2.1, rd.2.2), t)) := by
  unfold F_X4_takeNumber
  rw [h]
  rfl
theorem TN_o {c lo hi : Nat} (h : F_X8_isNumber t = some true) (hv : F_X8_tokenValue t = some (nI c)) (hc : c < 2 ^ 31) (hl : lo < 2 ^ 31) (hh : hi < 2 ^ 31) (q : ¬ (lo ≤ c ∧ c ≤ hi)) :
    F_X4_takeNumber (nI lo) (nI hi) rd t = some (false, ((2, t.2.2.2.2.2.1, nI c), t)) := by
  unfold F_X4_takeNumber
  rw [h, Option.bind_some, if_pos rfl, hv, Option.bind_some]
  by_cases z : c < lo
  · rw [if_pos (nI_lt z (by omega))]
    rfl
  · rw [if_neg (nI_nlt (by omega) (by omega)), if_neg (nI_ge (by omega) (by omega))]
    rfl
theorem TN_t {c lo hi : Nat} {t' : SrcT} (h : F_X8_isNumber t = some true) (hv : F_X8_tokenValue t = some (nI c)) (hc : c < 2 ^ 31) (hl : lo < 2 ^ 31) (hh : hi < 2 ^ 31) (q : lo ≤ c ∧ c ≤ hi) (ha : F_X8_advance t = some t') :
    F_X4_takeNumber (nI lo) (nI hi) rd t = some (true, ((rd.1, rd.2.1, nI c), t')) := by
  unfold F_X4_takeNumber
  rw [h, Option.bind_some, if_pos rfl, hv, Option.bind_some, if_neg (nI_nlt q.1 (by omega)), if_pos (nI_le q.2 (by omega)), ha]
  rfl
/-- the reference's striker behind its keyword: nothing is wrong yet, the number is looked at -/
theorem rk_go {k : Nat} {row : Nat → Int32} {ba ea nb tok ba1 nb1 tok1 : Int32} (hk : row 14 = nI k) (h30 : k < 30) (ha : F_X11_advance ba b 0 (nI n) nb tok = some (ba1, nb1, tok1)) {v er e' : Int32} (hl : F_X11_look 2 120 ba1 b 0 ea nb1 tok1 = some (v, (er, e'))) :
    F_X11_readStriker ba b 0 ea (nI n) nb row tok = (if er = 0 then (F_X11_placeOf v row).bind (fun w_55 => (if w_55 = (-1) then (F_X11_check true 3 ba1 er e').bind (fun w_67 => (F_X11_advance ba1 b w_67.1 (nI n) nb1 tok1).bind (fun w_69 => (F_X11_expect 59 w_69.1 b w_67.1 w_67.2 (nI n) w_69.2.1 w_69.2.2).bind (fun w_71 => (if w_71.2.1 = 0 then (F_X11_newStriker v row).bind (fun w_74 => some (w_71.1, w_71.2.1, w_71.2.2.1, w_71.2.2.2.1, w_74, w_71.2.2.2.2)) else some (w_71.1, w_71.2.1, w_71.2.2.1, w_71.2.2.2.1, row, w_71.2.2.2.2))))) else (F_X11_check false 3 ba1 er e').bind (fun w_58 => (F_X11_advance ba1 b w_58.1 (nI n) nb1 tok1).bind (fun w_60 => (F_X11_expect 59 w_60.1 b w_58.1 w_58.2 (nI n) w_60.2.1 w_60.2.2).bind (fun w_62 => (if w_62.2.1 = 0 then (F_X11_newStriker v row).bind (fun w_65 => some (w_62.1, w_62.2.1, w_62.2.2.1, w_62.2.2.2.1, w_65, w_62.2.2.2.2)) else some (w_62.1, w_62.2.1, w_62.2.2.1, w_62.2.2.2.1, row, w_62.2.2.2.2))))))) else (F_X11_check true 3 ba1 er e').bind (fun w_46 => (F_X11_advance ba1 b w_46.1 (nI n) nb1 tok1).bind (fun w_48 => (F_X11_expect 59 w_48.1 b w_46.1 w_46.2 (nI n) w_48.2.1 w_48.2.2).bind (fun w_50 => (if w_50.2.1 = 0 then (F_X11_newStriker v row).bind (fun w_53 => some (w_50.1, w_50.2.1, w_50.2.2.1, w_50.2.2.2.1, w_53, w_50.2.2.2.2)) else some (w_50.1, w_50.2.1, w_50.2.2.1, w_50.2.2.2.1, row, w_50.2.2.2.2)))))) := by
  unfold F_X11_readStriker
  rw [hk, if_neg (show ¬ (30 : Int32) ≤ nI k from nI_ge (b := 30) h30 (by decide)), chk_t, Option.bind_some, ha, Option.bind_some]
  show (F_X11_look 2 120 ba1 b 0 ea nb1 tok1).bind _ = _
  rw [hl]
  rfl
/-- .. and something is -/
theorem rk_err {k : Nat} {row : Nat → Int32} {ba ea nb tok ba1 nb1 tok1 : Int32} (hk : row 14 = nI k) (h30 : k < 30) (ha : F_X11_advance ba b 0 (nI n) nb tok = some (ba1, nb1, tok1)) {v er e' : Int32} (hl : F_X11_look 2 120 ba1 b 0 ea nb1 tok1 = some (v, (er, e')))
    (he : ¬ er = 0) {rd1 : ReadT} {t1 : SrcT} (hS : PS g f n b rd1 t1 ba1 er e' nb1 tok1) : F_X11_readStriker ba b 0 ea (nI n) nb row tok = some (ba1, er, e', nb1, row, tok1) := by
  rw [rk_go hk h30 ha hl, if_neg he, chk_t, Option.bind_some, adv_e he, Option.bind_some]
  show (F_X11_expect 59 ba1 b er e' (nI n) nb1 tok1).bind _ = _
  rw [semi_e hS he, Option.bind_some, if_neg he]
theorem lk_skr : ∀ m f1 f2 k (D : Nat → Nat) (row : Nat → Int32) (rd : ReadT) (t : SrcT) (a0 : PlanT) (ba ea nb tok : Int32), 30 - k = m → WF w ns R k D → PX w ns R k D a0 → RX w ns R k D row → PS g f n b rd t ba 0 ea nb tok → m < f1 → m + 2 < f2 →
    ∃ rd' t' a0' ba' err' ea' nb' row' tok', fx (fun _ _ _ _ => none) B_X4_readStrikers_2 f1 (nI k) rd t a0 = some (decide (err' = 0), (rd', t', a0')) ∧
      fx (fun _ _ _ _ _ _ => none) (B_X11_readText_51 b (nI n)) f2 ba 0 ea nb row tok = some (t51 ba' err' ea' nb' row' tok') ∧
      PS g f n b rd' t' ba' err' ea' nb' tok' ∧ (err' = 0 → ∃ k' D', WF w ns R k' D' ∧ PX w ns R k' D' a0' ∧ RX w ns R k' D' row') ∧ (a0'.2.2.1 = a0.2.2.1) := by
  intro m
  induction m using Nat.strongRecOn with
  | _ m ih =>
    intro f1 f2 k D row rd t a0 ba ea nb tok hm hw hP hR hS h1 h2
    have h12 := hw.2.1
    have h30 := hw.2.2.2.1
    obtain ⟨f1, rfl⟩ : ∃ q, f1 = q + 1 := ⟨f1 - 1, by omega⟩
    obtain ⟨f2, rfl⟩ : ∃ q, f2 = q + 1 + 1 := ⟨f2 - 2, by omega⟩
    obtain ⟨v, k1, k2⟩ := hS.wd (x := 2) (by decide)
    by_cases hv : v = true
    · subst hv
      have ref : ∀ A, (F_X11_readStriker ba b 0 ea (nI n) nb row tok).bind (fun w_25 => fx (fun _ _ _ _ _ _ => none) (B_X11_readText_51 b (nI n)) (f2 + 1) w_25.1 w_25.2.1 w_25.2.2.1 w_25.2.2.2.1 w_25.2.2.2.2.1 w_25.2.2.2.2.2) = A → fx (fun _ _ _ _ _ _ => none) (B_X11_readText_51 b (nI n)) (f2 + 1 + 1) ba 0 ea nb row tok = A := by
        intro A hA
        rw [fx_s, B_X11_readText_51]
        rw [k2, Option.bind_some, if_pos rfl]
        exact hA
      by_cases z : k = 30
      · subst z
        have hf := hS.fail (c := 4) (by decide) rd.2.2
        refine ⟨_, t, a0, ba, 4, ba, nb, row, tok, ?_, ref _ ?_, hf, fun e => absurd e (by decide), rfl⟩
        · rw [fx_s, B_X4_readStrikers_2]
          rw [if_neg (by decide), k1, Option.bind_some, if_pos rfl, if_pos (show nI 30 = 30 from rfl)]
          rfl
        · unfold F_X11_readStriker
          rw [hR.2.2.2.1, if_pos (show (30 : Int32) ≤ nI 30 by decide), chk_f, Option.bind_some, adv_e nq4, Option.bind_some]
          show ((F_X11_look (nI 2) (nI 120) ba b 4 ba nb tok).bind _).bind _ = _
          rw [look_e hf (by decide) (by decide) (by decide), Option.bind_some, if_neg nq4, chk_t, Option.bind_some, adv_e nq4, Option.bind_some]
          show ((F_X11_expect 59 ba b 4 ba (nI n) nb tok).bind _).bind _ = _
          rw [semi_e hf (by decide), Option.bind_some, if_neg nq4, Option.bind_some]
          exact ex51 nq4
      · have hn30 : ¬ nI k = 30 := fun e => z ((nI_eq_lit 30 (by omega) (by decide)).mp e)
        obtain ⟨t1, ba1, nb1, tok1, a1, a2, a3⟩ := hS.adv rd hS.r1.1 hS.r1.2
        have n30 : ¬ 30 < nI k := nI_nlt (a := 30) h30 (by decide)
        have lk := a3.look (lo := 2) (hi := 120) (by decide) (by decide)
        rcases lk with ⟨l1, l2⟩ | ⟨l1, c, hc, l2, l3⟩
        · -- no number
          have hf := a3.fail (c := 1) (by decide) rd.2.2
          refine ⟨_, t1, a0, ba1, 1, ba1, nb1, row, tok1, ?_, ref _ ?_, hf, fun e => absurd e (by decide), rfl⟩
          · rw [fx_s, B_X4_readStrikers_2]
            rw [if_neg n30, k1, Option.bind_some, if_pos rfl, if_neg hn30, a1, Option.bind_some, l1, Option.bind_some, if_neg (by decide), TN_f l1, Option.bind_some, if_neg Bool.false_ne_true]
            rfl
          · rw [rk_err hR.2.2.2.1 (by omega) a2 l2 (by decide) hf, Option.bind_some]
            exact ex51 nq1
        · rcases l3 with ⟨q1, q2, l3⟩ | ⟨q, l3⟩
          · have p1 := L_placeOf hw hP (n := c) (by omega)
            have p2 := M_placeOf hw hR (n := c) (by omega)
            cases hpl : pl k D c with
            | some j =>
              rw [hpl] at p1 p2
              have p1 : F_X3_placeOf (nI c) a0 = some (nI j) := p1
              have p2 : F_X11_placeOf (nI c) row = some (nI j) := p2
              obtain ⟨-, hj, -⟩ := fi_some hpl
              have hf := a3.fail (c := 3) (by decide) rd.2.2
              refine ⟨_, t1, a0, ba1, 3, ba1, nb1, row, tok1, ?_, ref _ ?_, hf, fun e => absurd e (by decide), rfl⟩
              · rw [fx_s, B_X4_readStrikers_2]
                rw [if_neg n30, k1, Option.bind_some, if_pos rfl, if_neg hn30, a1, Option.bind_some, l1, Option.bind_some, if_pos rfl, l2, Option.bind_some, p1, Option.bind_some, if_neg (m1_ne (by omega))]
                rfl
              · rw [rk_go hR.2.2.2.1 (by omega) a2 l3, if_pos rfl, p2, Option.bind_some, if_neg (m1_ne (by omega)), chk_f, Option.bind_some, adv_e nq3, Option.bind_some]
                show ((F_X11_expect 59 ba1 b 3 ba1 (nI n) nb1 tok1).bind _).bind _ = _
                rw [semi_e hf (by decide), Option.bind_some, if_neg nq3, Option.bind_some]
                exact ex51 nq3
            | none =>
              rw [hpl] at p1 p2
              have p1 : F_X3_placeOf (nI c) a0 = some (-1) := p1
              have p2 : F_X11_placeOf (nI c) row = some (-1) := p2
              obtain ⟨t2, ba2, nb2, tok2, b1, b2, b3⟩ := a3.adv (rd.1, rd.2.1, nI c) hS.r1.1 hS.r1.2
              have tn : F_X4_takeNumber 2 120 rd t1 = some (true, ((rd.1, rd.2.1, nI c), t2)) := TN_t (lo := 2) (hi := 120) l1 l2 (by omega) (by decide) (by decide) ⟨q1, q2⟩ b1
              obtain ⟨rd3, t3, ba3, err3, ea3, nb3, tok3, d1, d2, d3, d4⟩ := b3.semi
              have d4 : rd3.2.2 = nI c := d4
              have cl : ∀ r, (if decide (err3 = 0) = true then (F_X3_appendStriker rd3.2.2 a0).bind (fun w_31 => nm (nI k + 1) (fun x2_33 => fx (fun _ _ _ _ => none) B_X4_readStrikers_2 f1 x2_33 rd3 t3 (w_31.1, w_31.2.1, a0.2.2.1, w_31.2.2.2.1, w_31.2.2.2.2.1, w_31.2.2.2.2.2.1, w_31.2.2.2.2.2.2))) else some (false, (rd3, t3, a0))) = some r →
                  fx (fun _ _ _ _ => none) B_X4_readStrikers_2 (f1 + 1) (nI k) rd t a0 = some r := by
                intro r hr
                rw [fx_s, B_X4_readStrikers_2]
                rw [if_neg n30, k1, Option.bind_some, if_pos rfl, if_neg hn30, a1, Option.bind_some, l1, Option.bind_some, if_pos rfl, l2, Option.bind_some, p1, Option.bind_some, if_pos rfl, tn, Option.bind_some, if_pos rfl, d1, Option.bind_some]
                exact hr
              have rf : ∀ A, ((if err3 = 0 then (F_X11_newStriker (nI c) row).bind (fun w_74 => some (ba3, err3, ea3, nb3, w_74, tok3)) else some (ba3, err3, ea3, nb3, row, tok3)) : Option (Int32 × Int32 × Int32 × Int32 × (Nat → Int32) × Int32)).bind (fun w_25 => fx (fun _ _ _ _ _ _ => none) (B_X11_readText_51 b (nI n)) (f2 + 1) w_25.1 w_25.2.1 w_25.2.2.1 w_25.2.2.2.1 w_25.2.2.2.2.1 w_25.2.2.2.2.2) = A → fx (fun _ _ _ _ _ _ => none) (B_X11_readText_51 b (nI n)) (f2 + 1 + 1) ba 0 ea nb row tok = A := by
                intro A hA
                refine ref _ ?_
                rw [rk_go hR.2.2.2.1 (by omega) a2 l3, if_pos rfl, p2, Option.bind_some, if_pos rfl, chk_t, Option.bind_some, b2, Option.bind_some, d2, Option.bind_some]
                exact hA
              by_cases e3 : err3 = 0
              · subst e3
                obtain ⟨rd', t', a0', ba', err', ea', nb', row', tok', g1, g2, g3, g4, g5⟩ := ih (m - 1) (by omega) f1 (f2 + 1) (k + 1) (up1 D k c) _ rd3 t3 _ ba3 ea3 nb3 tok3 (by omega) (hw.more (by omega) q1 q2 hpl) (hP.more (d := c) (a0.2.2.2.2.2.2 + 1)) (hR.more h12) d3 (by omega) (by omega)
                refine ⟨rd', t', a0', ba', err', ea', nb', row', tok', cl _ ?_, rf _ ?_, g3, g4, g5⟩
                · rw [if_pos (by decide), d4, L_appendStriker hP (by omega), Option.bind_some, nm_e1, show nI k + 1 = nI (k + 1) from e_add k 1]
                  exact g1
                · rw [if_pos rfl, M_newStriker hR (by omega), Option.bind_some, Option.bind_some]
                  exact g2
              · refine ⟨rd3, t3, a0, ba3, err3, ea3, nb3, row, tok3, cl _ ?_, rf _ ?_, d3, fun e => absurd e e3, rfl⟩
                · rw [if_neg (df e3), decide_eq_false e3]
                · rw [if_neg e3, Option.bind_some]
                  exact ex51 e3
          · -- out of range
            have p1 : F_X3_placeOf (nI c) a0 = some (-1) := by
              have := L_placeOf hw hP (n := c) (by omega)
              rw [show pl k D c = none from fi_none.mpr (fun i _ hi => by
                have := hw.2.2.2.2.1 i (by omega)
                exact decide_eq_false (by omega))] at this
              exact this
            have hf := a3.fail (c := 2) (by decide) (nI c)
            have tn : F_X4_takeNumber 2 120 rd t1 = some (false, ((2, t1.2.2.2.2.2.1, nI c), t1)) := TN_o (lo := 2) (hi := 120) l1 l2 (by omega) (by decide) (by decide) q
            refine ⟨_, t1, a0, ba1, 2, ba1, nb1, row, tok1, ?_, ref _ ?_, hf, fun e => absurd e (by decide), rfl⟩
            · rw [fx_s, B_X4_readStrikers_2]
              rw [if_neg n30, k1, Option.bind_some, if_pos rfl, if_neg hn30, a1, Option.bind_some, l1, Option.bind_some, if_pos rfl, l2, Option.bind_some, p1, Option.bind_some, if_pos rfl, tn, Option.bind_some, if_neg Bool.false_ne_true]
              rfl
            · rw [rk_err hR.2.2.2.1 (by omega) a2 l3 (by decide) hf, Option.bind_some]
              exact ex51 nq2
    · have hv' := Bool.eq_false_iff.mpr hv
      subst hv'
      refine ⟨rd, t, a0, ba, 0, ea, nb, row, tok, ?_, ?_, hS, fun _ => ⟨k, D, hw, hP, hR⟩, rfl⟩
      · rw [fx_s, B_X4_readStrikers_2]
        rw [if_neg (show ¬ 30 < nI k from nI_nlt (a := 30) h30 (by decide)), k1, Option.bind_some, if_neg (by decide)]
        rfl
      · rw [fx_s, B_X11_readText_51]
        unfold t51
        rw [k2, Option.bind_some, if_neg (by decide), if_pos rfl, if_pos rfl]
        by_cases q : tok = 0
        · rw [if_pos q, if_pos q]; rfl
        · rw [if_neg q, if_neg q]; rfl
end
