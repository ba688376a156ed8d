/-! ===== PURE: a text: stretches ===== -/
section
variable {w ns k : Nat} {R D : Nat → Nat} {P : PlanT} {row : Nat → Int32}
theorem WF.room (hw : WF w ns R k D) {m : Nat} (h12 : ns < 12) (h1 : 1 ≤ m) (h2 : m ≤ 400) : WF w (ns + 1) (up1 R ns m) k D :=
  ⟨hw.1, by omega, fun i hi => by
    by_cases e : i = ns
    · rw [e, up1_s]; omega
    · rw [up1_n e]; exact hw.2.2.1 i (by omega), hw.2.2.2⟩
theorem RX.room (hR : RX w ns R k D row) {m : Nat} (h12 : ns < 12) : RX w (ns + 1) (up1 R ns m) k D (upd (upd row (2 + ns) (nI m)) 1 (nI (ns + 1))) := by
  obtain ⟨r1, r2, r3, r4, r5⟩ := hR
  refine ⟨?_, pk_us, fun i hi => ?_, ?_, fun i hi => ?_⟩
  · rw [pk_un (by decide), pk_un (by omega)]; exact r1
  · rw [pk_un (by omega)]
    by_cases e : i = ns
    · rw [e, pk_us, up1_s]
    · rw [pk_un (by omega), up1_n e]; exact r3 i (by omega)
  · rw [pk_un (by decide), pk_un (by omega)]; exact r4
  · rw [pk_un (by omega), pk_un (by omega)]; exact r5 i hi
theorem PX.room (hP : PX w ns R k D P) {m : Nat} (x : Int32) : PX w (ns + 1) (up1 R ns m) k D (P.1, nI (ns + 1), upd P.2.2.1 ns (nI m), nI (1 + sm R ns + m), P.2.2.2.2.1, P.2.2.2.2.2.1, x) := by
  refine ⟨hP.1, rfl, fun i hi => ?_, ?_, hP.2.2.2.2.1, hP.2.2.2.2.2⟩
  · show upd P.2.2.1 ns (nI m) i = nI (up1 R ns m i)
    by_cases e : i = ns
    · rw [e, pk_us, up1_s]
    · rw [pk_un e, up1_n e]; exact hP.2.2.1 i (by omega)
  · show nI (1 + sm R ns + m) = nI (1 + sm (up1 R ns m) (ns + 1))
    have : sm (up1 R ns m) (ns + 1) = sm R ns + m := by
      show sm (up1 R ns m) ns + up1 R ns m ns = _
      rw [sm_up1, up1_s]
    rw [this, Nat.add_assoc]
end
section
variable {g : Nat → Nat} {f n : Nat} {b : Nat → Int32} {w : Nat} {D : Nat → Nat}
theorem dt {e : Int32} (h : e = 0) : decide (e = 0) = true := decide_eq_true h
theorem df {e : Int32} (h : ¬ e = 0) : ¬ decide (e = 0) = true := fun q => h (of_decide_eq_true q)
theorem ex34 {ba err ea nb tok lim : Int32} {row : Nat → Int32} {j : Nat} (h : ¬ err = 0) :
    fx (fun _ _ _ _ _ _ => none) (B_X11_readText_34 b lim) (j + 1) ba err ea nb row tok = fx (fun _ _ _ _ _ _ => none) (B_X11_readText_51 b lim) FUEL ba err ea nb row tok := by
  rw [fx_s, B_X11_readText_34]
  rw [word_err h, Option.bind_some, if_neg (by decide)]
theorem lk_str : ∀ m f1 f2 ns (R : Nat → Nat) (row : Nat → Int32) (rd : ReadT) (t : SrcT) (a0 : PlanT) (ba ea nb tok : Int32), 12 - ns = m → WF w ns R 0 D → PX w ns R 0 D a0 → RX w ns R 0 D row → PS g f n b rd t ba 0 ea nb tok → m < f1 → m + 2 < f2 →
    ∃ rd' t' a0' ba' err' ea' nb' row' tok', fx (fun _ _ _ _ => none) B_X4_readStretches_2 f1 (nI ns) rd t a0 = some (decide (err' = 0), (rd', t', a0')) ∧
      fx (fun _ _ _ _ _ _ => none) (B_X11_readText_34 b (nI n)) f2 ba 0 ea nb row tok = fx (fun _ _ _ _ _ _ => none) (B_X11_readText_51 b (nI n)) FUEL ba' err' ea' nb' row' tok' ∧
      PS g f n b rd' t' ba' err' ea' nb' tok' ∧ (err' = 0 → ∃ ns' R', WF w ns' R' 0 D ∧ PX w ns' R' 0 D a0' ∧ RX w ns' R' 0 D row') := by
  intro m
  induction m using Nat.strongRecOn with
  | _ m ih =>
    intro f1 f2 ns R row rd t a0 ba ea nb tok hm hw hP hR hS h1 h2
    have h12 := hw.2.1
    obtain ⟨f1, rfl⟩ : ∃ q, f1 = q + 1 := ⟨f1 - 1, by omega⟩
    obtain ⟨f2, rfl⟩ : ∃ q, f2 = q + 1 + 1 := ⟨f2 - 2, by omega⟩
    obtain ⟨v, k1, k2⟩ := hS.wd (x := 1) (by decide)
    have cls : ∀ r, (if v = true then (if nI ns = 12 then (F_X4_fail 4 rd t).bind (fun w_17 => some (w_17.1, (w_17.2, t, a0))) else (F_X8_advance t).bind (fun w_6 => (F_X4_takeNumber 1 400 rd w_6).bind (fun w_8 => (if w_8.1 = true then (F_X4_takeSemicolon w_8.2.1 w_8.2.2).bind (fun w_11 => (if w_11.1 = true then (F_X3_appendStretch w_11.2.1.2.2 a0).bind (fun w_14 => nm (nI ns + 1) (fun x2_16 => fx (fun _ _ _ _ => none) B_X4_readStretches_2 f1 x2_16 w_11.2.1 w_11.2.2 (w_14.1, w_14.2.1, w_14.2.2.1, w_14.2.2.2.1, w_14.2.2.2.2.1, a0.2.2.2.2.2.1, w_14.2.2.2.2.2.2))) else some (false, (w_11.2.1, w_11.2.2, a0)))) else some (false, (w_8.2.1, w_8.2.2, a0)))))) else some (true, (rd, t, a0))) = some r →
        fx (fun _ _ _ _ => none) B_X4_readStretches_2 (f1 + 1) (nI ns) rd t a0 = some r := by
      intro r hr
      rw [fx_s, B_X4_readStretches_2]
      rw [if_neg (show ¬ 12 < nI ns from nI_nlt (a := 12) h12 (by decide)), k1, Option.bind_some]
      exact hr
    by_cases hv : v = true
    · subst hv
      have ref : ∀ A, (F_X11_readStretch ba b 0 ea (nI n) nb row tok).bind (fun w_27 => fx (fun _ _ _ _ _ _ => none) (B_X11_readText_34 b (nI n)) (f2 + 1) w_27.1 w_27.2.1 w_27.2.2.1 w_27.2.2.2.1 w_27.2.2.2.2.1 w_27.2.2.2.2.2) = A → fx (fun _ _ _ _ _ _ => none) (B_X11_readText_34 b (nI n)) (f2 + 1 + 1) ba 0 ea nb row tok = A := by
        intro A hA
        rw [fx_s, B_X11_readText_34]
        rw [k2, Option.bind_some, if_pos rfl]
        exact hA
      by_cases z : ns = 12
      · subst z
        refine ⟨_, t, a0, ba, 4, ba, nb, row, tok, cls _ ?_, ref _ ?_, hS.fail (c := 4) (by decide) rd.2.2, fun e => absurd e (by decide)⟩
        · rw [if_pos rfl, if_pos (show nI 12 = 12 from rfl)]
          rfl
        · have hf := hS.fail (c := 4) (by decide) rd.2.2
          unfold F_X11_readStretch
          rw [hR.2.1, if_pos (show (12 : Int32) ≤ nI 12 by decide), chk_f, Option.bind_some, adv_e nq4, Option.bind_some]
          show ((F_X11_readNumber (nI 1) (nI 400) ba b 4 ba (nI n) nb tok).bind _).bind _ = _
          rw [num_e hf (by decide) (by decide) (by decide), Option.bind_some]
          show ((F_X11_expect 59 ba b 4 ba (nI n) nb tok).bind _).bind _ = _
          rw [semi_e hf (by decide), Option.bind_some, if_neg nq4, Option.bind_some]
          exact ex34 nq4
      · have hn12 : ¬ nI ns = 12 := fun e => z ((nI_eq_lit 12 (by omega) (by decide)).mp e)
        obtain ⟨t1, ba1, nb1, tok1, a1, a2, a3⟩ := hS.adv rd hS.r1.1 hS.r1.2
        obtain ⟨rd2, t2, v2, ba2, err2, ea2, nb2, tok2, c1, c2, c3, c4⟩ := a3.num (lo := 1) (hi := 400) (by decide) (by decide)
        have c1 : F_X4_takeNumber 1 400 rd t1 = some (decide (err2 = 0), (rd2, t2)) := c1
        have c2 : F_X11_readNumber 1 400 ba1 b 0 ea (nI n) nb1 tok1 = some (v2, (ba2, err2, ea2, nb2, tok2)) := c2
        have rs1 : ∀ A, (F_X11_expect 59 ba2 b err2 ea2 (nI n) nb2 tok2).bind (fun w_19 => (if w_19.2.1 = 0 then ix (2 + (row 1)) 45 (nm ((((upd row ((2 + (row 1)).toNatClampNeg) v2) 1) + 1)) (fun a_23 => some (w_19.1, w_19.2.1, w_19.2.2.1, w_19.2.2.2.1, (upd (upd row ((2 + (row 1)).toNatClampNeg) v2) 1 a_23), w_19.2.2.2.2))) else some (w_19.1, w_19.2.1, w_19.2.2.1, w_19.2.2.2.1, row, w_19.2.2.2.2))) = A → F_X11_readStretch ba b 0 ea (nI n) nb row tok = A := by
          intro A hA
          unfold F_X11_readStretch
          rw [hR.2.1, if_neg (show ¬ (12 : Int32) ≤ nI ns from nI_ge (b := 12) (by omega) (by decide)), chk_t, Option.bind_some, a2, Option.bind_some]
          show (F_X11_readNumber 1 400 ba1 b 0 ea (nI n) nb1 tok1).bind _ = _
          rw [c2, Option.bind_some, ← hR.2.1]
          exact hA
        by_cases e2 : err2 = 0
        · subst e2
          obtain ⟨mm, m1, m2, rfl, m4⟩ := c4 rfl
          obtain ⟨rd3, t3, ba3, err3, ea3, nb3, tok3, d1, d2, d3, d4⟩ := c3.semi
          by_cases e3 : err3 = 0
          · subst e3
            have hver := hP.room (m := mm) (a0.2.2.2.2.2.2 + 1)
            obtain ⟨rd', t', a0', ba', err', ea', nb', row', tok', g1, g2, g3, g4⟩ := ih (m - 1) (by omega) f1 (f2 + 1) (ns + 1) (up1 R ns mm) _ rd3 t3 _ ba3 ea3 nb3 tok3 (by omega) (hw.room (by omega) m1 m2) hver (hR.room (by omega)) d3 (by omega) (by omega)
            refine ⟨rd', t', a0', ba', err', ea', nb', row', tok', cls _ ?_, ref _ ?_, g3, g4⟩
            · rw [if_pos rfl, if_neg hn12, a1, Option.bind_some, c1, Option.bind_some, if_pos (dt rfl), d1, Option.bind_some, if_pos (dt rfl)]
              show (F_X3_appendStretch rd3.2.2 a0).bind _ = _
              rw [d4, m4, L_appendStretch (n := ns) (l := 1 + sm R ns) hP.2.1 (by omega) hP.2.2.2.1, Option.bind_some, nm_e1, show nI ns + 1 = nI (ns + 1) from e_add ns 1]
              exact g1
            · rw [rs1 _ rfl, d2, Option.bind_some, if_pos rfl, hR.2.1, show (2 : Int32) + nI ns = nI (2 + ns) from e_add 2 ns, ix_nI (by omega) (by decide), nI_clamp (by omega), nm_e1, pk_un (by omega), hR.2.1, show nI ns + 1 = nI (ns + 1) from e_add ns 1, Option.bind_some]
              exact g2
          · refine ⟨rd3, t3, a0, ba3, err3, ea3, nb3, row, tok3, cls _ ?_, ref _ ?_, d3, fun e => absurd e e3⟩
            · rw [if_pos rfl, if_neg hn12, a1, Option.bind_some, c1, Option.bind_some, if_pos (dt rfl), d1, Option.bind_some, if_neg (df e3), decide_eq_false e3]
            · rw [rs1 _ rfl, d2, Option.bind_some, if_neg e3, Option.bind_some]
              exact ex34 e3
        · refine ⟨rd2, t2, a0, ba2, err2, ea2, nb2, row, tok2, cls _ ?_, ref _ ?_, c3, fun e => absurd e e2⟩
          · rw [if_pos rfl, if_neg hn12, a1, Option.bind_some, c1, Option.bind_some, if_neg (df e2), decide_eq_false e2]
          · rw [rs1 _ rfl, semi_e c3 e2, Option.bind_some, if_neg e2, Option.bind_some]
            exact ex34 e2
    · have hv' := Bool.eq_false_iff.mpr hv
      subst hv'
      refine ⟨rd, t, a0, ba, 0, ea, nb, row, tok, cls _ (by rw [if_neg (by decide)]; rfl), ?_, hS, fun _ => ⟨ns, R, hw, hP, hR⟩⟩
      rw [fx_s, B_X11_readText_34]
      rw [k2, Option.bind_some, if_neg (by decide)]
end
