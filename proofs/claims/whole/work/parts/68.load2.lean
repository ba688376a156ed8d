/-! ===== PURE: load ===== -/
section
variable {w ns k : Nat} {R D : Nat → Nat} {P : PlanT} {row : Nat → Int32} {S : SieveT} {v : Nat}
theorem O_load {t : HistT} {hist : Nat → Int32} {u : Int32} {src : SrcT} {g : Nat → Nat} {ff : Nat} {b : Nat → Int32} (h : CX w ns R k D P row S) (hH : HX t hist u) (hv : P.2.2.2.2.2.2 = nI v) (hv2 : v + 100 < 2 ^ 31)
    (hB : BY g ff src.1 b) (hf : src.2.1 = nI ff) (x : Int32) (draft : PlanT) (hs : Bool) (pe : Int32) (rd : ReadT) (ba : Int32) (dr : Nat → Int32) (er ea lim nst nb th tok : Int32) :
    ∃ Rr draft' hs' t' P' pe' rd' src' bR ba' bl' dr' er' ea' lim' nst' nb' row' th' tok' u', F_X10_load x draft hs t P pe rd src = some (Rr, (draft', hs', t', P', pe', rd', src')) ∧
      F_X11_load x ba b (nI ff) dr er ea pe hs lim nst nb row th tok u = some (bR, (ba', bl', dr', er', ea', pe', hs', lim', nst', nb', row', th', tok', u')) ∧ ag 1 Rr bR th' ∧ OR P v t' hist u' row' P' S ∧
      (∃ ff', src'.2.1 = nI ff' ∧ bl' = nI ff' ∧ BY g ff' src'.1 b) ∧ (hs' = true → hs = true) ∧ ∃ t2, t' = (t.1, t2) := by
  have h6 := hB.1
  unfold F_X10_load F_X11_load F_X8_filled
  rw [hf, Option.bind_some]
  rcases N_range (a := 0) (b := ff) (by decide) (by omega) x with ⟨n, hn, -, n2, rfl, r1, r2⟩ | ⟨r1, r2⟩
  · have r1 : F_X10_needInRange (nI n) 0 (nI ff) = some (.inr ()) := r1
    have r2 : F_X11_inRange (nI n) 0 (nI ff) = some true := r2
    obtain ⟨dr', z1, z2⟩ : ∃ dr' : Nat → Int32, (∀ j, j < 45 → dr' j = 0) ∧ ∀ ba0 er0 lim0 nst0 nb0 tok0, fx (fun _ _ _ _ _ _ _ _ _ _ _ _ _ _ _ => none) (B_X11_load_38 (nI n) b) FUEL 0 ba0 (nI ff) dr er0 ea pe hs lim0 nst0 nb0 row 0 tok0 u = B_X11_load_38 (nI n) b (fun _ _ _ _ _ _ _ _ _ _ _ _ _ _ _ => none) (nI 45) ba0 (nI ff) dr' er0 ea pe hs lim0 nst0 nb0 row 0 tok0 u := by
      refine ⟨fun j => if j < 45 then 0 else dr j, fun j hj => if_pos hj, fun ba0 er0 lim0 nst0 nb0 tok0 => ?_⟩
      have key : ∀ m f2 i, 45 - i = m → i ≤ 45 → m < f2 → fx (fun _ _ _ _ _ _ _ _ _ _ _ _ _ _ _ => none) (B_X11_load_38 (nI n) b) f2 (nI i) ba0 (nI ff) (fun j => if j < i then 0 else dr j) er0 ea pe hs lim0 nst0 nb0 row 0 tok0 u = B_X11_load_38 (nI n) b (fun _ _ _ _ _ _ _ _ _ _ _ _ _ _ _ => none) (nI 45) ba0 (nI ff) (fun j => if j < 45 then 0 else dr j) er0 ea pe hs lim0 nst0 nb0 row 0 tok0 u := by
        intro m
        induction m with
        | zero =>
          intro f2 i hm hi h2
          obtain ⟨f2, rfl⟩ : ∃ q, f2 = q + 1 := ⟨f2 - 1, by omega⟩
          have e : i = 45 := by omega
          subst e
          rw [fx_s, B_X11_load_38, B_X11_load_38]
          rw [if_pos (show (45 : Int32) ≤ nI 45 by decide), if_pos (show (45 : Int32) ≤ nI 45 by decide)]
        | succ m ih =>
          intro f2 i hm hi h2
          obtain ⟨f2, rfl⟩ : ∃ q, f2 = q + 1 := ⟨f2 - 1, by omega⟩
          rw [← ih f2 (i + 1) (by omega) (by omega) (by omega), fx_s]
          refine (if_neg (show ¬ (45 : Int32) ≤ nI i from nI_ge (b := 45) (by omega) (by decide))).trans ?_
          rw [ix_nI (by omega) (by decide), nm_e1, nI_clamp (by omega), show nI i + 1 = nI (i + 1) from e_add i 1]
          have e : upd (fun j => if j < i then (0 : Int32) else dr j) i 0 = fun j => if j < i + 1 then 0 else dr j := by
            funext j
            by_cases q : j = i
            · rw [q, pk_us, if_pos (by omega)]
            · rw [pk_un q]
              by_cases q2 : j < i
              · rw [if_pos q2, if_pos (by omega)]
              · rw [if_neg q2, if_neg (by omega)]
          rw [e]
      have := key 45 FUEL 0 rfl (by omega) (by unfold FUEL; omega)
      have e : (fun j => if j < 0 then (0 : Int32) else dr j) = dr := by
        funext j
        rw [if_neg (by omega)]
      rw [e] at this
      exact this
    obtain ⟨c, rd', src1, a1', ba0, nb0, tok0, ba', ea', nb', row', tok', t1, t2, t3, t4, t5⟩ := lk_text hB hf n2 rd draft ba er ea lim nb tok nst dr' z1
    rw [r1, r2, Option.bind_some, Option.bind_some, if_pos rfl, t2, Option.bind_some, z2]
    show ∃ Rr draft' hs' t' P' pe' rd' src' bR ba' bl' dr' er' ea' lim' nst' nb' row' th' tok' u', (F_X4_readText (nI n) rd src draft).bind _ = some (Rr, (draft', hs', t', P', pe', rd', src')) ∧ _
    rw [t1, Option.bind_some]
    unfold B_X11_load_38
    rw [if_pos (show (45 : Int32) ≤ nI 45 by decide), t3, Option.bind_some]
    by_cases e : c = 0
    · subst e
      have kp := t5 rfl
      obtain ⟨row2, y1, y2⟩ := M_keep row row'
      unfold F_X11_keep at y1
      obtain ⟨y, y3, y4⟩ := bd_some y1
      cases y4
      obtain ⟨P', p1, w', ns', R', k', D', v', q1, q2, q3, q4⟩ := KP.back h hv hv2 kp y2
      have t4 : rd'.2.1 = -1 := t4
      have hl := M_last q1.1 q1.2.2.1
      refine ⟨.inr (nI (1 + sm R' ns')), a1', false, (t.1, t.2.1, 0), P', -1, rd', (src1.1, 0, src1.2.2), nI (1 + sm R' ns'), ba', 0, row', 0, ea', nI n, 0, nb', row2, 0, tok', 0, ?_, ?_, ⟨rfl, rfl⟩, ⟨?_, w', ns', R', k', D', v', q1, q2, q3, q4⟩, ⟨0, rfl, rfl, Nat.zero_le _, fun i hi => absurd hi (by omega)⟩, (fun q => by cases q), ⟨_, rfl⟩⟩
      · unfold F_X10_closeReading F_X8_empty F_X4_errorAt
        rw [Option.bind_some, Option.bind_some, Option.bind_some, if_pos rfl]
        show (F_X3_takeOver P a1').bind _ = _
        rw [p1, Option.bind_some]
        show some ((Sum.inr P'.2.2.2.1 : Nat ⊕ Int32), (a1', false, (t.1, t.2.1, 0), P', rd'.2.1, rd', (src1.1, 0, src1.2.2))) = _
        rw [q1.2.1.2.2.2.1, t4]
      · unfold F_X11_finish
        rw [if_pos rfl, Option.bind_some, if_pos rfl]
        show (F_X11_copy row' 0 row 0 45 45).bind _ = _
        rw [y3, Option.bind_some, hl, Option.bind_some]
      · obtain ⟨a, c, ha, hc, h1, h2, -, hk⟩ := hH
        exact ⟨a, 0, ha, by omega, h1, rfl, rfl, fun i hi => absurd hi (by omega)⟩
    · rw [if_neg e] at t4
      refine ⟨.inr (-10 - c), a1', hs, t, P, ea', rd', (src1.1, 0, src1.2.2), -10 - c, ba', 0, row', c, ea', nI n, 0, nb', row, 0, tok', u, ?_, ?_, ⟨rfl, rfl⟩, ⟨hH, w, ns, R, k, D, v, h, hv, Nat.le_refl _, by omega⟩, ⟨0, rfl, rfl, Nat.zero_le _, fun i hi => absurd hi (by omega)⟩, id, ⟨t.2, rfl⟩⟩
      · unfold F_X10_closeReading F_X8_empty F_X4_errorAt
        rw [Option.bind_some, Option.bind_some, Option.bind_some, if_neg e, t4]
      · unfold F_X11_finish
        rw [if_neg e, Option.bind_some, if_neg e]
  · have r1 : F_X10_needInRange x 0 (nI ff) = some (.inl 1) := r1
    have r2 : F_X11_inRange x 0 (nI ff) = some false := r2
    rw [r1, r2]
    exact ⟨.inl 1, draft, hs, t, P, pe, rd, src, 0, ba, nI ff, dr, er, ea, lim, nst, nb, row, 1, tok, u, rfl, rfl, ⟨rfl, rfl⟩, ⟨hH, w, ns, R, k, D, v, h, hv, Nat.le_refl _, by omega⟩, ⟨ff, hf, rfl, hB⟩, id, ⟨t.2, rfl⟩⟩
end
