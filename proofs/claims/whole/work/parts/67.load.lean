/-! ===== PURE: a whole text, load ===== -/
section
variable {g : Nat → Nat} {f n : Nat} {b : Nat → Int32} {rd : ReadT} {t : SrcT}
/-- a reading begins -/
theorem PS.begin {ff : Nat} (hB : BY g ff t.1 b) (hf : t.2.1 = nI ff) (hn : n ≤ ff) (rd : ReadT) (ba er lim nb tok nst : Int32) :
    ∃ t' ba' nb' tok', F_X4_begin (nI n) rd t = some ((0, -1, rd.2.2), t') ∧ F_X11_startText (nI n) ba b er lim nst nb tok = some (ba', 0, nI n, 0, nb', tok') ∧ ∀ ea, PS g ff n b (0, -1, rd.2.2) t' ba' 0 ea nb' tok' := by
  have h6 := hB.1
  obtain ⟨t', ba', nb', tok', k1, k2, k3, k4⟩ := TK.start (t := (t.1, t.2.1, nI n, 0, t.2.2.2.2.1, t.2.2.2.2.2.1, t.2.2.2.2.2.2)) hB hn (j := 0) (Nat.zero_le _) rfl rfl ba tok
  refine ⟨t', ba', nb', tok', ?_, ?_, fun ea => ⟨k3, hn, k4, rfl, rfl⟩⟩
  · unfold F_X4_begin F_X8_open
    rw [hf, nm_e1, if_neg (nI_nlt hn (by omega)), ← hf, k1]
    rfl
  · unfold F_X11_startText
    have k2 : F_X11_scan ba b (nI n) 0 tok = some (ba', nb', tok') := k2
    rw [k2]
    rfl
theorem lk_text {ff : Nat} (hB : BY g ff t.1 b) (hf : t.2.1 = nI ff) (hn : n ≤ ff) (rd : ReadT) (a1 : PlanT) (ba er ea lim nb tok nst : Int32) (row0 : Nat → Int32) (h0 : ∀ i, i < 45 → row0 i = 0) :
    ∃ c rd' t' a1' ba0 nb0 tok0 ba' ea' nb' row' tok', F_X4_readText (nI n) rd t a1 = some (c, (rd', t', a1')) ∧
      F_X11_startText (nI n) ba b er lim nst nb tok = some (ba0, 0, nI n, 0, nb0, tok0) ∧
      F_X11_readText ba0 b 0 ea (nI n) nb0 row0 tok0 = some (ba', c, ea', nb', row', tok') ∧
      rd'.2.1 = (if c = 0 then -1 else ea') ∧ (c = 0 → KP a1' row') := by
  obtain ⟨t1, ba1, nb1, tok1, s1, s2, s3⟩ := PS.begin hB hf hn rd ba er lim nb tok nst
  have s3 := s3 ea
  obtain ⟨rd2, t2, ba2, err2, ea2, nb2, tok2, w1, w2, wv, w3, w4, w5⟩ := s3.takeWord (x := 0) (by decide)
  have fin : ∀ (rd' : ReadT) (t' : SrcT) (x err ea' nb' tok' : Int32), PS g ff n b rd' t' x err ea' nb' tok' → rd'.1 = err ∧ rd'.2.1 = (if err = 0 then -1 else ea') := fun _ _ _ _ _ _ _ h => ⟨h.2.2.2.1, h.2.2.2.2⟩
  -- what the reference does behind its word, when something is wrong already
  have bad : ∀ (ba' err ea' nb' tok' : Int32) (row : Nat → Int32), ¬ err = 0 → fx (fun _ _ _ _ _ _ => none) (B_X11_readText_34 b (nI n)) FUEL ba' err ea' nb' row tok' = some (ba', err, ea', nb', row, tok') := by
    intro ba' err ea' nb' tok' row he
    refine (ex34 (j := 999999) he).trans ?_
    refine (ex51 (j := 999999) he).trans ?_
    unfold t51
    rw [if_neg he]
  have ref : ∀ A, (F_X11_readNumber 0 4 ba2 b err2 ea2 (nI n) nb2 tok2).bind (fun w_7 => (F_X11_expect 59 w_7.2.1 b w_7.2.2.1 w_7.2.2.2.1 (nI n) w_7.2.2.2.2.1 w_7.2.2.2.2.2).bind (fun w_9 => fx (fun _ _ _ _ _ _ => none) (B_X11_readText_34 b (nI n)) FUEL w_9.1 w_9.2.1 w_9.2.2.1 w_9.2.2.2.1 (upd row0 0 w_7.1) w_9.2.2.2.2)) = A → F_X11_readText ba1 b 0 ea (nI n) nb1 row0 tok1 = A := by
    intro A hA
    unfold F_X11_readText
    rw [w3, Option.bind_some, w4, Option.bind_some]
    show (F_X11_advance ba1 b err2 (nI n) nb1 tok1).bind _ = _
    rw [w5, Option.bind_some]
    exact hA
  by_cases e2 : err2 = 0
  · subst e2
    obtain ⟨rd3, t3, v3, ba3, err3, ea3, nb3, tok3, c1, c2, c3, c4⟩ := w2.num (lo := 0) (hi := 4) (by decide) (by decide)
    have c1 : F_X4_takeNumber 0 4 rd2 t2 = some (decide (err3 = 0), (rd3, t3)) := c1
    have c2 : F_X11_readNumber 0 4 ba2 b 0 ea2 (nI n) nb2 tok2 = some (v3, (ba3, err3, ea3, nb3, tok3)) := c2
    by_cases e3 : err3 = 0
    · subst e3
      obtain ⟨mm, -, m2, rfl, m4⟩ := c4 rfl
      obtain ⟨rd4, t4, ba4, err4, ea4, nb4, tok4, d1, d2, d3, d4⟩ := c3.semi
      by_cases e4 : err4 = 0
      · subst e4
        have hw0 : WF mm 0 (fun _ => 1) 0 (fun _ => 2) := ⟨m2, Nat.zero_le _, fun i hi => absurd hi (by omega), Nat.zero_le _, fun i hi => absurd hi (by omega), fun i j hi => absurd hi (by omega)⟩
        have hR0 : RX mm 0 (fun _ => 1) 0 (fun _ => 2) (upd row0 0 (nI mm)) := by
          refine ⟨pk_us, ?_, fun i hi => absurd hi (by omega), ?_, fun i hi => absurd hi (by omega)⟩
          · rw [pk_un (by decide)]; exact h0 1 (by decide)
          · rw [pk_un (by decide)]; exact h0 14 (by decide)
        have hP0 : PX mm 0 (fun _ => 1) 0 (fun _ => 2) (nI mm, 0, a1.2.2.1, 1, 0, a1.2.2.2.2.2.1, a1.2.2.2.2.2.2 + 1) := ⟨rfl, rfl, fun i hi => absurd hi (by omega), rfl, rfl, fun i hi => absurd hi (by omega)⟩
        obtain ⟨rd5, t5, a5, ba5, err5, ea5, nb5, row5, tok5, g1, g2, g3, g4⟩ := lk_str 12 FUEL FUEL 0 _ _ rd4 t4 _ ba4 ea4 nb4 tok4 rfl hw0 hP0 hR0 d3 (by unfold FUEL; omega) (by unfold FUEL; omega)
        have g1 : F_X4_readStretches rd4 t4 (nI mm, 0, a1.2.2.1, 1, 0, a1.2.2.2.2.2.1, a1.2.2.2.2.2.2 + 1) = some (decide (err5 = 0), (rd5, t5, a5)) := g1
        have cl : ∀ r, (if decide (err5 = 0) = true then (F_X4_readStrikers rd5 t5 (a5.1, a5.2.1, a5.2.2.1, a5.2.2.2.1, a5.2.2.2.2.1, a1.2.2.2.2.2.1, a5.2.2.2.2.2.2)).bind (fun w_17 => (if w_17.1 = true then (F_X8_isEnd w_17.2.2.1).bind (fun w_20 => (if w_20 = true then some (w_17.2.1.1, (w_17.2.1, w_17.2.2.1, (w_17.2.2.2.1, w_17.2.2.2.2.1, a5.2.2.1, w_17.2.2.2.2.2.2.1, w_17.2.2.2.2.2.2.2.1, w_17.2.2.2.2.2.2.2.2.1, w_17.2.2.2.2.2.2.2.2.2))) else (F_X4_fail 1 w_17.2.1 w_17.2.2.1).bind (fun w_23 => some (w_23.2.1, (w_23.2, w_17.2.2.1, (w_17.2.2.2.1, w_17.2.2.2.2.1, a5.2.2.1, w_17.2.2.2.2.2.2.1, w_17.2.2.2.2.2.2.2.1, w_17.2.2.2.2.2.2.2.2.1, w_17.2.2.2.2.2.2.2.2.2)))))) else some (w_17.2.1.1, (w_17.2.1, w_17.2.2.1, (w_17.2.2.2.1, w_17.2.2.2.2.1, a5.2.2.1, w_17.2.2.2.2.2.2.1, w_17.2.2.2.2.2.2.2.1, w_17.2.2.2.2.2.2.2.2.1, w_17.2.2.2.2.2.2.2.2.2))))) else some (rd5.1, (rd5, t5, (a5.1, a5.2.1, a5.2.2.1, a5.2.2.2.1, a5.2.2.2.2.1, a1.2.2.2.2.2.1, a5.2.2.2.2.2.2)))) = some r →
            F_X4_readText (nI n) rd t a1 = some r := by
          intro r hr
          unfold F_X4_readText
          rw [s1, Option.bind_some]
          show (F_X4_takeWord 0 (0, -1, rd.2.2) t1).bind _ = _
          rw [w1, Option.bind_some, if_pos (dt rfl)]
          show (F_X4_takeNumber 0 4 rd2 t2).bind _ = _
          rw [c1, Option.bind_some, if_pos (dt rfl)]
          show (F_X4_takeSemicolon rd3 t3).bind _ = _
          rw [d1, Option.bind_some, if_pos (dt rfl)]
          show (F_X3_beginWith rd4.2.2 a1).bind _ = _
          rw [d4, m4]
          show (F_X4_readStretches rd4 t4 (nI mm, 0, a1.2.2.1, 1, 0, a1.2.2.2.2.2.1, a1.2.2.2.2.2.2 + 1)).bind _ = _
          rw [g1, Option.bind_some]
          exact hr
        have rf : ∀ A, fx (fun _ _ _ _ _ _ => none) (B_X11_readText_51 b (nI n)) FUEL ba5 err5 ea5 nb5 row5 tok5 = A → F_X11_readText ba1 b 0 ea (nI n) nb1 row0 tok1 = A := by
          intro A hA
          refine ref _ ?_
          rw [c2, Option.bind_some]
          show (F_X11_expect 59 ba3 b 0 ea3 (nI n) nb3 tok3).bind _ = _
          rw [d2, Option.bind_some]
          show fx (fun _ _ _ _ _ _ => none) (B_X11_readText_34 b (nI n)) FUEL ba4 0 ea4 nb4 (upd row0 0 (nI mm)) tok4 = _
          rw [g2]
          exact hA
        by_cases e5 : err5 = 0
        · subst e5
          obtain ⟨ns', R', hw5, hP5, hR5⟩ := g4 rfl
          have hP5' : PX mm ns' R' 0 (fun _ => 2) (a5.1, a5.2.1, a5.2.2.1, a5.2.2.2.1, a5.2.2.2.2.1, a1.2.2.2.2.2.1, a5.2.2.2.2.2.2) := ⟨hP5.1, hP5.2.1, hP5.2.2.1, hP5.2.2.2.1, hP5.2.2.2.2.1, fun i hi => absurd hi (by omega)⟩
          obtain ⟨rd6, t6, a6, ba6, err6, ea6, nb6, row6, tok6, u1, u2, u3, u4, u5⟩ := lk_skr 30 FUEL FUEL 0 _ _ rd5 t5 _ ba5 ea5 nb5 tok5 rfl hw5 hP5' hR5 g3 (by unfold FUEL; omega) (by unfold FUEL; omega)
          have u1 : F_X4_readStrikers rd5 t5 (a5.1, a5.2.1, a5.2.2.1, a5.2.2.2.1, a5.2.2.2.2.1, a1.2.2.2.2.2.1, a5.2.2.2.2.2.2) = some (decide (err6 = 0), (rd6, t6, a6)) := u1
          have u5 : a6.2.2.1 = a5.2.2.1 := u5
          by_cases e6 : err6 = 0
          · subst e6
            have kp : KP (a6.1, a6.2.1, a5.2.2.1, a6.2.2.2.1, a6.2.2.2.2.1, a6.2.2.2.2.2.1, a6.2.2.2.2.2.2) row6 := by
              obtain ⟨k', D', x1, x2, x3⟩ := u4 rfl
              rw [← u5]
              exact ⟨mm, ns', R', k', D', x1, x2, x3⟩
            -- the end
            obtain ⟨i, j, hij, hj, te1, te2, te3, te4, te5, hc⟩ := id u3.2.2.1
            have en : F_X8_isEnd t6 = some (decide (tok6 = 0)) := by
              unfold F_X8_isEnd
              rcases hc with ⟨a, z⟩ | ⟨a, z⟩ | ⟨a, z, -⟩ | ⟨a, z, -⟩ | ⟨a, z, -⟩ <;> rw [a, z] <;> rfl
            by_cases q : tok6 = 0
            · subst q
              refine ⟨0, rd6, t6, (a6.1, a6.2.1, a5.2.2.1, a6.2.2.2.1, a6.2.2.2.2.1, a6.2.2.2.2.2.1, a6.2.2.2.2.2.2), ba1, nb1, tok1, ba6, ea6, nb6, row6, 0, cl _ ?_, s2, rf _ ?_, u3.r1.2, fun _ => kp⟩
              · rw [if_pos (dt rfl), u1, Option.bind_some, if_pos (dt rfl), en, Option.bind_some, if_pos (dt rfl)]
                show some (rd6.1, _) = _
                rw [u3.r1.1]
              · rw [u2]
                unfold t51
                rw [if_pos rfl, if_pos rfl]
            · have hf := u3.fail (c := 1) (by decide) rd6.2.2
              refine ⟨1, (1, t6.2.2.2.2.2.1, rd6.2.2), t6, (a6.1, a6.2.1, a5.2.2.1, a6.2.2.2.1, a6.2.2.2.2.1, a6.2.2.2.2.2.1, a6.2.2.2.2.2.2), ba1, nb1, tok1, ba6, ba6, nb6, row6, tok6, cl _ ?_, s2, rf _ ?_, hf.2.2.2.2, fun e => absurd e (by decide)⟩
              · rw [if_pos (dt rfl), u1, Option.bind_some, if_pos (dt rfl), en, Option.bind_some, if_neg (df q)]
                rfl
              · rw [u2]
                unfold t51
                rw [if_pos rfl, if_neg q]
          · refine ⟨err6, rd6, t6, (a6.1, a6.2.1, a5.2.2.1, a6.2.2.2.1, a6.2.2.2.2.1, a6.2.2.2.2.2.1, a6.2.2.2.2.2.2), ba1, nb1, tok1, ba6, ea6, nb6, row6, tok6, cl _ ?_, s2, rf _ ?_, u3.2.2.2.2, fun e => absurd e e6⟩
            · rw [if_pos (dt rfl), u1, Option.bind_some, if_neg (df e6)]
              show some (rd6.1, _) = _
              rw [u3.2.2.2.1]
            · rw [u2]
              unfold t51
              rw [if_neg e6]
        · refine ⟨err5, rd5, t5, (a5.1, a5.2.1, a5.2.2.1, a5.2.2.2.1, a5.2.2.2.2.1, a1.2.2.2.2.2.1, a5.2.2.2.2.2.2), ba1, nb1, tok1, ba5, ea5, nb5, row5, tok5, cl _ ?_, s2, rf _ ?_, g3.2.2.2.2, fun e => absurd e e5⟩
          · rw [if_neg (df e5), g3.2.2.2.1]
          · refine (ex51 (j := 999999) e5).trans ?_
            unfold t51
            rw [if_neg e5]
      · refine ⟨err4, rd4, t4, a1, ba1, nb1, tok1, ba4, ea4, nb4, upd row0 0 (nI mm), tok4, ?_, s2, ref _ ?_, d3.2.2.2.2, fun e => absurd e e4⟩
        · unfold F_X4_readText
          rw [s1, Option.bind_some]
          show (F_X4_takeWord 0 (0, -1, rd.2.2) t1).bind _ = _
          rw [w1, Option.bind_some, if_pos (dt rfl)]
          show (F_X4_takeNumber 0 4 rd2 t2).bind _ = _
          rw [c1, Option.bind_some, if_pos (dt rfl)]
          show (F_X4_takeSemicolon rd3 t3).bind _ = _
          rw [d1, Option.bind_some, if_neg (df e4)]
          show some (rd4.1, _) = _
          rw [d3.2.2.2.1]
        · rw [c2, Option.bind_some]
          show (F_X11_expect 59 ba3 b 0 ea3 (nI n) nb3 tok3).bind _ = _
          rw [d2, Option.bind_some]
          exact bad _ _ _ _ _ _ e4
    · refine ⟨err3, rd3, t3, a1, ba1, nb1, tok1, ba3, ea3, nb3, upd row0 0 v3, tok3, ?_, s2, ref _ ?_, c3.2.2.2.2, fun e => absurd e e3⟩
      · unfold F_X4_readText
        rw [s1, Option.bind_some]
        show (F_X4_takeWord 0 (0, -1, rd.2.2) t1).bind _ = _
        rw [w1, Option.bind_some, if_pos (dt rfl)]
        show (F_X4_takeNumber 0 4 rd2 t2).bind _ = _
        rw [c1, Option.bind_some, if_neg (df e3)]
        show some (rd3.1, _) = _
        rw [c3.2.2.2.1]
      · rw [c2, Option.bind_some]
        show (F_X11_expect 59 ba3 b err3 ea3 (nI n) nb3 tok3).bind _ = _
        rw [semi_e c3 e3, Option.bind_some]
        exact bad _ _ _ _ _ _ e3
  · refine ⟨err2, rd2, t2, a1, ba1, nb1, tok1, ba2, ea2, nb2, upd row0 0 (nI 0), tok2, ?_, s2, ref _ ?_, w2.2.2.2.2, fun e => absurd e e2⟩
    · unfold F_X4_readText
      rw [s1, Option.bind_some]
      show (F_X4_takeWord 0 (0, -1, rd.2.2) t1).bind _ = _
      rw [w1, Option.bind_some, if_neg (df e2)]
      show some (rd2.1, _) = _
      rw [w2.2.2.2.1]
    · have := num_e w2 e2 (lo := 0) (hi := 4) (by decide) (by decide)
      have this : F_X11_readNumber 0 4 ba2 b err2 ea2 (nI n) nb2 tok2 = some (nI 0, (ba2, err2, ea2, nb2, tok2)) := this
      rw [this, Option.bind_some]
      show (F_X11_expect 59 ba2 b err2 ea2 (nI n) nb2 tok2).bind _ = _
      rw [semi_e w2 e2, Option.bind_some]
      exact bad _ _ _ _ _ _ e2
end
