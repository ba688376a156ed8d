/-! ===== PURE: a script is read, order by order ===== -/
section
variable {g : Nat → Nat} {f n : Nat} {b : Nat → Int32}
theorem lk_script (x1 : Int32) (ac : Nat → Int32) (bl e ep : Int32) (hist kept : Nat → Int32) (nst : Int32) (now ow od : Nat → Int32) (th : Int32) (tm : Nat → Int32) (u : Int32) :
    ∀ m f1 f2 c (rd : ReadT) (t : SrcT) (scr : ScrT) (ba ea nb : Int32) (ors : Nat → Int32) (tok : Int32), 20 - c = m → PS g f n b rd t ba 0 ea nb tok → SC scr ors c → m + 1 < f1 → m + 1 < f2 →
    ∃ rd' t' scr' ba' err' ea' nb' oc' ors' tok', fx (fun _ _ _ _ _ => none) (B_X4_readScript_14 x1) f1 1 (nI c) rd t scr = some (err', (rd', t', scr')) ∧
      fx (fun _ _ _ _ _ _ _ _ _ _ _ _ _ _ _ _ _ _ _ _ _ => none) (B_X11_play_33 x1 b) f2 ac ba bl e 0 ea ep hist kept (nI n) nst nb now (nI c) ors ow od th tm tok u = B_X11_play_33 x1 b (fun _ _ _ _ _ _ _ _ _ _ _ _ _ _ _ _ _ _ _ _ _ => none) ac ba' bl e err' ea' ep hist kept (nI n) nst nb' now oc' ors' ow od th tm tok' u ∧
      rd'.2.1 = (if err' = 0 then -1 else ea') ∧ (err' = 0 → tok' = 0 ∧ ∃ c', oc' = nI c' ∧ SC scr' ors' c') := by
  intro m
  induction m using Nat.strongRecOn with
  | _ m ih =>
    intro f1 f2 c rd t scr ba ea nb ors tok hm hS hC h1 h2
    have h20 := hC.2.1
    obtain ⟨f1, rfl⟩ : ∃ q, f1 = q + 1 + 1 := ⟨f1 - 2, by omega⟩
    obtain ⟨f2, rfl⟩ : ∃ q, f2 = q + 1 + 1 := ⟨f2 - 2, by omega⟩
    obtain ⟨i, j, hij, hj, te1, te2, te3, te4, te5, hc⟩ := id hS.2.2.1
    have en : F_X8_isEnd t = some (decide (tok = 0)) := by
      unfold F_X8_isEnd
      rcases hc with ⟨a, z⟩ | ⟨a, z⟩ | ⟨a, z, -⟩ | ⟨a, z, -⟩ | ⟨a, z, -⟩ <;> rw [a, z] <;> rfl
    have n20 : ¬ 20 < nI c := nI_nlt (a := 20) h20 (by decide)
    have n0 : ¬ (1 : Int32) = 0 := by decide
    by_cases q : tok = 0
    · subst q
      refine ⟨rd, t, scr, ba, 0, ea, nb, nI c, ors, 0, ?_, ?_, hS.2.2.2.2, fun _ => ⟨rfl, c, rfl, hC⟩⟩
      · rw [fx_s, B_X4_readScript_14]
        rw [if_neg n20, if_neg n0, en, Option.bind_some, if_pos (by decide), hS.r1.1]
      · rw [fx_s, B_X11_play_33, B_X11_play_33]
        rw [if_pos rfl, if_pos rfl, if_pos rfl, if_pos rfl]
    · obtain ⟨rd1, t1, scr1, ba1, err1, ea1, nb1, oc1, ors1, tok1, k1, k2, k3, k4⟩ := lk_order hS hC
      have cls : ∀ r, fx (fun _ _ _ _ _ => none) (B_X4_readScript_14 x1) (f1 + 1) (bI (decide (err1 = 0))) (nI (c + 1)) rd1 t1 scr1 = some r → fx (fun _ _ _ _ _ => none) (B_X4_readScript_14 x1) (f1 + 1 + 1) 1 (nI c) rd t scr = some r := by
        intro r hr
        rw [fx_s, B_X4_readScript_14]
        rw [if_neg n20, if_neg n0, en, Option.bind_some, if_neg (df q), k1, Option.bind_some, nm_e1, show nI c + 1 = nI (c + 1) from e_add c 1]
        exact hr
      have ref : ∀ A, fx (fun _ _ _ _ _ _ _ _ _ _ _ _ _ _ _ _ _ _ _ _ _ => none) (B_X11_play_33 x1 b) (f2 + 1) ac ba1 bl e err1 ea1 ep hist kept (nI n) nst nb1 now oc1 ors1 ow od th tm tok1 u = A → fx (fun _ _ _ _ _ _ _ _ _ _ _ _ _ _ _ _ _ _ _ _ _ => none) (B_X11_play_33 x1 b) (f2 + 1 + 1) ac ba bl e 0 ea ep hist kept (nI n) nst nb now (nI c) ors ow od th tm tok u = A := by
        intro A hA
        rw [fx_s]
        refine (if_pos rfl).trans ?_
        refine (if_neg q).trans ?_
        rw [k2, Option.bind_some]
        exact hA
      by_cases e1 : err1 = 0
      · subst e1
        obtain ⟨c20, rfl, hC1⟩ := k4 rfl
        obtain ⟨rd', t', scr', ba', err', ea', nb', oc', ors', tok', g1, g2, g3⟩ := ih (m - 1) (by omega) (f1 + 1) (f2 + 1) (c + 1) rd1 t1 scr1 ba1 ea1 nb1 ors1 tok1 (by omega) k3 hC1 (by omega) (by omega)
        exact ⟨rd', t', scr', ba', err', ea', nb', oc', ors', tok', cls _ g1, ref _ g2, g3⟩
      · refine ⟨rd1, t1, scr1, ba1, err1, ea1, nb1, oc1, ors1, tok1, cls _ ?_, ref _ ?_, k3.2.2.2.2, fun z => absurd z e1⟩
        · rw [fx_s, B_X4_readScript_14]
          rw [decide_eq_false e1, k3.2.2.2.1]
          by_cases z : 20 < nI (c + 1)
          · rw [if_pos z]
          · rw [if_neg z, if_pos (show bI false = 0 from rfl)]
        · rw [fx_s]
          refine (if_neg e1).trans ?_
          exact (if_neg e1 : B_X11_play_33 x1 b (fun _ _ _ _ _ _ _ _ _ _ _ _ _ _ _ _ _ _ _ _ _ => none) ac ba1 bl e err1 ea1 ep hist kept (nI n) nst nb1 now oc1 ors1 ow od th tm tok1 u = _).symm
end
/-! ===== PURE: the orders of a script are done ===== -/
section
variable {w ns k : Nat} {R D : Nat → Nat} {P : PlanT} {row : Nat → Int32} {S : SieveT} {v : Nat}
theorem C_any (h : CX w ns R k D P row S) (hv : P.2.2.2.2.2.2 = nI v) (hv2 : v + 100 < 2 ^ 31) {scr : ScrT} {ors : Nat → Int32} {c : Nat} (hC : SC scr ors c) {i : Nat} (hi : i < c) (ac : Nat → Int32) (e0 : Int32) (o od t : Nat → Int32) :
    ∃ q r ac1 P' S' ac' e' o' od' row' t', scr.1 i = some q ∧ F_X10_carryOut q (scr.2.1 i) (scr.2.2.1 i) ac P S = some (r, (ac1, P', S')) ∧ F_X11_does (nI (3 * i)) ac e0 ors o od row t = some (r, (ac', e', o', od', row', t')) ∧ F_X10_counted r ac1 = some (r, ac') ∧ AR P S v row' P' S' := by
  have h20 := hC.2.1
  obtain ⟨q, m, p, hq, s1, s2, s3, s4, s5, s6, s7⟩ := hC.2.2 i hi
  have e1 : nI (3 * i) + 1 = nI (3 * i + 1) := e_add _ 1
  have e2 : nI (3 * i) + 2 = nI (3 * i + 2) := e_add _ 2
  have x1 : (nI (3 * i)).toNatClampNeg = 3 * i := nI_clamp (by omega)
  have x2 : (nI (3 * i + 1)).toNatClampNeg = 3 * i + 1 := nI_clamp (by omega)
  have x3 : (nI (3 * i + 2)).toNatClampNeg = 3 * i + 2 := nI_clamp (by omega)
  refine ⟨q, ?_⟩
  unfold F_X11_does
  rw [e1, ix_nI (by omega) (by decide), nm_e1, ix_nI (by omega) (by decide), x1, x2, s2, s3, s4]
  match q, hq, s1, s5, s6, s7 with
  | 0, _, s1, s5, s6, _ =>
    obtain ⟨r, ac1, P', S', ac', e', o', row', t', c1, c2, c3, c4⟩ := C_lay h hv hv2 s5 s6 (scr.2.2.1 i) ac e0 o t
    refine ⟨r, ac1, P', S', ac', e', o', od, row', t', s1, c1, ?_, c3, c4⟩
    rw [if_pos (by decide), c2]; rfl
  | 1, _, s1, s5, s6, _ =>
    obtain ⟨r, ac1, P', S', ac', row', c1, c2, c3, c4⟩ := C_drop h hv hv2 (nI m) (scr.2.2.1 i) ac
    refine ⟨r, ac1, P', S', ac', e0, o, od, row', t, s1, c1, ?_, c3, c4⟩
    rw [if_neg (by decide), if_pos (by decide), c2]; rfl
  | 2, _, s1, s5, s6, _ =>
    obtain ⟨r, ac1, P', S', ac', e', o', row', t', c1, c2, c3, c4⟩ := C_add h hv hv2 s5 s6 (scr.2.2.1 i) ac e0 o t
    refine ⟨r, ac1, P', S', ac', e', o', od, row', t', s1, c1, ?_, c3, c4⟩
    rw [if_neg (by decide), if_neg (by decide), if_pos (by decide), c2]; rfl
  | 3, _, s1, s5, s6, _ =>
    obtain ⟨r, ac1, P', S', ac', e', o', row', t', c1, c2, c3, c4⟩ := C_lift h hv hv2 s6 (scr.2.2.1 i) ac e0 o t
    refine ⟨r, ac1, P', S', ac', e', o', od, row', t', s1, c1, ?_, c3, c4⟩
    rw [if_neg (by decide), if_neg (by decide), if_neg (by decide), if_pos (by decide), c2]; rfl
  | 4, _, s1, s5, s6, _ =>
    obtain ⟨r, ac1, P', S', ac', row', c1, c2, c3, c4⟩ := C_first h hv hv2 s6 (scr.2.2.1 i) ac
    refine ⟨r, ac1, P', S', ac', e0, o, od, row', t, s1, c1, ?_, c3, c4⟩
    rw [if_neg (by decide), if_neg (by decide), if_neg (by decide), if_neg (by decide), if_pos (by decide), c2]; rfl
  | 5, _, s1, s5, s6, s7 =>
    obtain ⟨y1, y2, y3, y4⟩ := s7 rfl
    obtain ⟨r, ac1, P', S', ac', e', o', od', row', t', c1, c2, c3, c4⟩ := C_swap h hv hv2 s6 y4 ac e0 o t od
    refine ⟨r, ac1, P', S', ac', e', o', od', row', t', s1, by rw [y1]; exact c1, ?_, c3, c4⟩
    rw [if_neg (by decide), if_neg (by decide), if_neg (by decide), if_neg (by decide), if_neg (by decide), if_pos (by decide), e2, ix_nI (by omega) (by decide), x3, y2, c2]; rfl
  | 6, _, s1, s5, s6, _ =>
    obtain ⟨r, ac1, P', S', ac', row', c1, c2, c3, c4⟩ := C_wheel h hv hv2 s6 (scr.2.2.1 i) ac
    refine ⟨r, ac1, P', S', ac', e0, o, od, row', t, s1, c1, ?_, c3, c4⟩
    rw [if_neg (by decide), if_neg (by decide), if_neg (by decide), if_neg (by decide), if_neg (by decide), if_neg (by decide), if_pos (by decide), c2]; rfl
  | 7, _, s1, s5, s6, _ =>
    obtain ⟨r, ac1, P', S', ac', e', o', row', t', c1, c2, c3, c4⟩ := C_fill h hv hv2 s6 (scr.2.2.1 i) ac e0 o t
    refine ⟨r, ac1, P', S', ac', e', o', od, row', t', s1, c1, ?_, c3, c4⟩
    rw [if_neg (by decide), if_neg (by decide), if_neg (by decide), if_neg (by decide), if_neg (by decide), if_neg (by decide), if_neg (by decide), c2]; rfl
/-- what a play leaves -/
def OR2 (v : Nat) (t' : HistT) (hist' : Nat → Int32) (u' : Int32) (row' : Nat → Int32) (P' : PlanT) (S' : SieveT) : Prop :=
  HX t' hist' u' ∧ ∃ w' ns' R' k' D' v', CX w' ns' R' k' D' P' row' S' ∧ P'.2.2.2.2.2.2 = nI v' ∧ v ≤ v' ∧ v' ≤ v + 2100
theorem lk_do (x1 : Int32) (t : HistT) (pe : Int32) (rd : ReadT) (src : SrcT) {scr : ScrT} {ors : Nat → Int32} {c : Nat} (hC : SC scr ors c) (b : Nat → Int32) (ba bl er ea ep : Int32) (hist kept : Nat → Int32) (lim nst nb th tok u : Int32) (V : Nat) (hV : V + 2100 < 2 ^ 31) :
    ∀ m f1 f2 i (w ns : Nat) (R : Nat → Nat) (k : Nat) (D : Nat → Nat) (P : PlanT) (row : Nat → Int32) (S : SieveT) (v : Nat) (ac : Nat → Int32) (e0 : Int32) (o od tm : Nat → Int32), c - i = m → i ≤ c → CX w ns R k D P row S → P.2.2.2.2.2.2 = nI v → V ≤ v → v ≤ V + 100 * i → m < f1 → m < f2 →
    ∃ r ac' P' S' e' row' o' od' tm', fx (fun _ _ _ _ _ _ _ _ _ _ => none) (B_X10_play_54 x1) f1 (nI i) (nI i) ac t P pe rd scr S src = some (.inr r, (ac', t, P', pe, rd, scr, S', src)) ∧
      fx (fun _ _ _ _ _ _ _ _ _ _ _ _ _ _ _ _ _ _ _ _ _ _ => none) (B_X11_play_79 x1 b) f2 (nI i) ac ba bl e0 er ea ep hist kept lim nst nb row (nI c) ors o od th tm tok u = some (r, (ac', ba, bl, e', er, ea, ep, hist, kept, lim, nst, nb, row', nI c, ors, o', od', th, tm', tok, u)) ∧
      ∃ w' ns' R' k' D' v', CX w' ns' R' k' D' P' row' S' ∧ P'.2.2.2.2.2.2 = nI v' ∧ V ≤ v' ∧ v' ≤ V + 2000
  | 0, f1, f2, i, w, ns, R, k, D, P, row, S, v, ac, e0, o, od, tm, hm, hi, hX, hv, hv1, hv2, h1, h2 => by
    have h20 := hC.2.1
    obtain ⟨f1, rfl⟩ : ∃ q, f1 = q + 1 := ⟨f1 - 1, by omega⟩
    obtain ⟨f2, rfl⟩ : ∃ q, f2 = q + 1 := ⟨f2 - 1, by omega⟩
    refine ⟨nI i, ac, P, S, e0, row, o, od, tm, ?_, ?_, w, ns, R, k, D, v, hX, hv, hv1, by omega⟩
    · rw [fx_s, B_X10_play_54]
      unfold F_X5_count
      rw [hC.1, Option.bind_some, if_pos (nI_le (by omega) (by omega))]
    · rw [fx_s, B_X11_play_79]
      rw [if_pos (nI_le (by omega) (by omega))]
  | m + 1, f1, f2, i, w, ns, R, k, D, P, row, S, v, ac, e0, o, od, tm, hm, hi, hX, hv, hv1, hv2, h1, h2 => by
    have h20 := hC.2.1
    obtain ⟨f1, rfl⟩ : ∃ q, f1 = q + 1 := ⟨f1 - 1, by omega⟩
    obtain ⟨f2, rfl⟩ : ∃ q, f2 = q + 1 := ⟨f2 - 1, by omega⟩
    have hic : i < c := by omega
    obtain ⟨q, r, ac1, P', S', ac', e', o', od', row', tm', s1, c1, c2, c3, w', ns', R', k', D', v', z1, z2, z3, z4⟩ := C_any hX hv (by omega) hC hic ac e0 o od tm
    have nle : ¬ nI c ≤ nI i := nI_ge (by omega) (by omega)
    have next : nI i + 1 = nI (i + 1) := e_add i 1
    have ei : (3 : Int32) * nI i = nI (3 * i) := e_mul 3 i
    have there : F_X5_isThere (nI i) scr = some true := by
      unfold F_X5_isThere
      rw [if_neg (nI_pos (by omega)), hC.1, if_neg nle]
    have cls : ∀ A, (if 0 ≤ r then fx (fun _ _ _ _ _ _ _ _ _ _ => none) (B_X10_play_54 x1) f1 (nI (i + 1)) (nI (i + 1)) ac' t P' pe rd scr S' src else some (.inr (nI i), (ac', t, P', pe, rd, scr, S', src))) = some A → fx (fun _ _ _ _ _ _ _ _ _ _ => none) (B_X10_play_54 x1) (f1 + 1) (nI i) (nI i) ac t P pe rd scr S src = some A := by
      intro A hA
      rw [fx_s, B_X10_play_54]
      unfold F_X5_count F_X5_orderAt F_X5_numberAt F_X5_otherAt
      rw [hC.1, Option.bind_some, if_neg nle, there, Option.bind_some, if_pos rfl, ix_nI (by omega) (by decide), nI_clamp (by omega), s1, Option.bind_some]
      show ((some true).bind _).bind _ = _
      rw [Option.bind_some, if_pos rfl, ix_nI (by omega) (by decide), Option.bind_some, Option.bind_some, if_pos rfl, ix_nI (by omega) (by decide), Option.bind_some, c1, Option.bind_some]
      show (F_X10_counted r ac1).bind _ = _
      rw [c3, Option.bind_some, nm_e1, nm_e1, next]
      exact hA
    have ref : ∀ A, (if r < 0 then some (nI i, (ac', ba, bl, e', er, ea, ep, hist, kept, lim, nst, nb, row', nI c, ors, o', od', th, tm', tok, u)) else fx (fun _ _ _ _ _ _ _ _ _ _ _ _ _ _ _ _ _ _ _ _ _ _ => none) (B_X11_play_79 x1 b) f2 (nI (i + 1)) ac' ba bl e' er ea ep hist kept lim nst nb row' (nI c) ors o' od' th tm' tok u) = some A →
        fx (fun _ _ _ _ _ _ _ _ _ _ _ _ _ _ _ _ _ _ _ _ _ _ => none) (B_X11_play_79 x1 b) (f2 + 1) (nI i) ac ba bl e0 er ea ep hist kept lim nst nb row (nI c) ors o od th tm tok u = some A := by
      intro A hA
      rw [fx_s, B_X11_play_79]
      rw [if_neg nle, ei, c2, Option.bind_some, nm_e1, next]
      exact hA
    by_cases rn : r < 0
    · refine ⟨nI i, ac', P', S', e', row', o', od', tm', cls _ ?_, ref _ ?_, w', ns', R', k', D', v', z1, z2, by omega, by omega⟩
      · rw [if_neg (Int32.not_le.mpr rn)]
      · rw [if_pos rn]
    · obtain ⟨r2, ac2, P2, S2, e2, row2, o2, od2, tm2, g1, g2, g3⟩ := lk_do x1 t pe rd src hC b ba bl er ea ep hist kept lim nst nb th tok u V hV m f1 f2 (i + 1) w' ns' R' k' D' P' row' S' v' ac' e' o' od' tm' (by omega) (by omega) z1 z2 (by omega) (by omega) (by omega) (by omega)
      refine ⟨r2, ac2, P2, S2, e2, row2, o2, od2, tm2, cls _ ?_, ref _ ?_, g3⟩
      · rw [if_pos (Int32.not_lt.mp rn)]; exact g1
      · rw [if_neg rn]; exact g2
theorem O_play {t : HistT} {hist : Nat → Int32} {u : Int32} {src : SrcT} {g : Nat → Nat} {ff : Nat} {b : Nat → Int32} (h : CX w ns R k D P row S) (hH : HX t hist u) (hv : P.2.2.2.2.2.2 = nI v) (hv2 : v + 2100 < 2 ^ 31)
    (hB : BY g ff src.1 b) (hf : src.2.1 = nI ff) (x : Int32) (ac : Nat → Int32) (pe : Int32) (rd : ReadT) (scr : ScrT) (ba e0 er ea : Int32) (kept : Nat → Int32) (lim nst nb oc : Int32) (ors o od : Nat → Int32) (th : Int32) (tm : Nat → Int32) (tok : Int32) :
    ∃ Rr ac' t' P' pe' rd' scr' S' src' bR ba' bl' e' er' ea' hist' kept' lim' nst' nb' row' oc' ors' o' od' th' tm' tok' u', F_X10_play x ac t P pe rd scr S src = some (Rr, (ac', t', P', pe', rd', scr', S', src')) ∧
      F_X11_play x ac ba b (nI ff) e0 er ea pe hist kept lim nst nb row oc ors o od th tm tok u = some (bR, (ac', ba', bl', e', er', ea', pe', hist', kept', lim', nst', nb', row', oc', ors', o', od', th', tm', tok', u')) ∧ ag 1 Rr bR th' ∧ OR2 v t' hist' u' row' P' S' ∧
      (∃ ff', src'.2.1 = nI ff' ∧ bl' = nI ff' ∧ BY g ff' src'.1 b) := by
  have h6 := hB.1
  unfold F_X10_play F_X11_play F_X8_filled
  rw [hf, Option.bind_some]
  rcases N_range (a := 0) (b := ff) (by decide) (by omega) x with ⟨n, hn, -, n2, rfl, r1, r2⟩ | ⟨r1, r2⟩
  · have r1 : F_X10_needInRange (nI n) 0 (nI ff) = some (.inr ()) := r1
    have r2 : F_X11_inRange (nI n) 0 (nI ff) = some true := r2
    obtain ⟨t1, ba1, nb1, tok1, s1, s2, s3⟩ := PS.begin hB hf n2 rd ba er lim nb tok nst
    have hC0 : SC (scr.1, scr.2.1, scr.2.2.1, 0) ors 0 := ⟨rfl, Nat.zero_le _, fun i hi => absurd hi (by omega)⟩
    obtain ⟨rd2, t2, scr2, ba2, err2, ea2, nb2, oc2, ors2, tok2, k1, k2, k3, k4⟩ := lk_script (nI n) ac (nI ff) e0 pe hist kept 0 row o od 0 tm u 20 FUEL FUEL 0 _ t1 _ ba1 ea nb1 ors tok1 rfl (s3 ea) hC0 (by unfold FUEL; omega) (by unfold FUEL; omega)
    have k1 : F_X4_readScript (nI n) rd src scr = some (err2, (rd2, t2, scr2)) := by
      unfold F_X4_readScript F_X5_clear
      rw [s1]
      exact k1
    rw [r1, r2, Option.bind_some, Option.bind_some, if_pos rfl, s2, Option.bind_some]
    have k2 : fx (fun _ _ _ _ _ _ _ _ _ _ _ _ _ _ _ _ _ _ _ _ _ => none) (B_X11_play_33 (nI n) b) FUEL ac ba1 (nI ff) e0 0 ea pe hist kept (nI n) 0 nb1 row 0 ors o od 0 tm tok1 u = _ := k2
    rw [k2]
    show ∃ Rr ac' t' P' pe' rd' scr' S' src' bR ba' bl' e' er' ea' hist' kept' lim' nst' nb' row' oc' ors' o' od' th' tm' tok' u', (F_X4_readScript (nI n) rd src scr).bind _ = some (Rr, (ac', t', P', pe', rd', scr', S', src')) ∧ _
    rw [k1, Option.bind_some]
    by_cases e : err2 = 0
    · subst e
      obtain ⟨rfl, c, rfl, hC⟩ := k4 rfl
      have k3 : rd2.2.1 = -1 := k3
      obtain ⟨kept', y1, y2⟩ := M_keep kept row
      obtain ⟨t', hist', u', p1, p2, p3⟩ := hH.push (h.kp.rows y2)
      have h20 := hC.2.1
      obtain ⟨r, ac', P', S', e', row', o', od', tm', g1, g2, w', ns', R', k', D', v', z1, z2, z3, z4⟩ := lk_do (nI n) t' (-1) rd2 (t2.1, 0, t2.2.2) hC b ba2 0 0 ea2 (-1) hist' kept' (nI n) 0 nb2 0 0 u' v hv2 c FUEL FUEL 0 w ns R k D P row S v ac e0 o od tm rfl (by omega) h hv (by omega) (by omega) (by unfold FUEL; omega) (by unfold FUEL; omega)
      refine ⟨.inr r, ac', t', P', -1, rd2, scr2, S', (t2.1, 0, t2.2.2), r, ba2, 0, e', 0, ea2, hist', kept', nI n, 0, nb2, row', nI c, ors2, o', od', 0, tm', 0, u', ?_, ?_, ⟨rfl, rfl⟩, ⟨p3, w', ns', R', k', D', v', z1, z2, z3, by omega⟩, ⟨0, rfl, rfl, Nat.zero_le _, fun i hi => absurd hi (by omega)⟩⟩
      · unfold F_X10_closeReading F_X8_empty F_X4_errorAt
        rw [Option.bind_some, Option.bind_some, Option.bind_some, if_pos rfl]
        show (F_X1_push t P).bind _ = _
        rw [p1, Option.bind_some]
        show fx (fun _ _ _ _ _ _ _ _ _ _ => none) (B_X10_play_54 (nI n)) FUEL 0 0 ac t' P rd2.2.1 rd2 scr2 S (t2.1, 0, t2.2.2) = _
        rw [k3]
        exact g1
      · unfold B_X11_play_33 F_X11_finish
        rw [if_pos rfl, if_pos rfl, if_pos rfl, Option.bind_some, if_pos rfl]
        show (F_X11_keep kept row).bind _ = _
        rw [y1, Option.bind_some, p2, Option.bind_some]
        exact g2
    · rw [if_neg e] at k3
      refine ⟨.inr (-10 - err2), ac, t, P, ea2, rd2, scr2, S, (t2.1, 0, t2.2.2), -10 - err2, ba2, 0, e0, err2, ea2, hist, kept, nI n, 0, nb2, row, oc2, ors2, o, od, 0, tm, tok2, u, ?_, ?_, ⟨rfl, rfl⟩, ⟨hH, w, ns, R, k, D, v, h, hv, Nat.le_refl _, by omega⟩, ⟨0, rfl, rfl, Nat.zero_le _, fun i hi => absurd hi (by omega)⟩⟩
      · unfold F_X10_closeReading F_X8_empty F_X4_errorAt
        rw [Option.bind_some, Option.bind_some, Option.bind_some, if_neg e, k3]
      · unfold B_X11_play_33 F_X11_finish
        rw [if_neg e, if_neg e, Option.bind_some, if_neg e]
  · have r1 : F_X10_needInRange x 0 (nI ff) = some (.inl 1) := r1
    have r2 : F_X11_inRange x 0 (nI ff) = some false := r2
    rw [r1, r2]
    exact ⟨.inl 1, ac, t, P, pe, rd, scr, S, src, 0, ba, nI ff, e0, er, ea, hist, kept, lim, nst, nb, row, oc, ors, o, od, 1, tm, tok, u, rfl, rfl, ⟨rfl, rfl⟩, ⟨hH, w, ns, R, k, D, v, h, hv, Nat.le_refl _, by omega⟩, ⟨ff, hf, rfl, hB⟩⟩
end
