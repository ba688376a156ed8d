/-! ===== PURE: an operation, recorded on both sides ===== -/
section
variable {w ns k : Nat} {R D : Nat → Nat} {P : PlanT} {row : Nat → Int32} {S : SieveT} {L : Nat}
theorem CX.kp (h : CX w ns R k D P row S) : KP P row := ⟨w, ns, R, k, D, h.1, h.2.1, h.2.2.1⟩
/-- the answer of an operation, and what it leaves in the histories -/
theorem REC {B : PlanT} {t : HistT} {hist kept : Nat → Int32} {u : Int32} (h : HX t hist u) (hB : KP B kept) (r : Int32) :
    ∃ t' hist' u', (if r < 0 then some t else F_X1_push t B) = some t' ∧ F_X11_recorded r hist kept u = some (r, (hist', u')) ∧ HX t' hist' u' := by
  unfold F_X11_recorded
  by_cases c : r < 0
  · rw [if_pos c, if_pos c]
    exact ⟨t, hist, u, rfl, rfl, h⟩
  · obtain ⟨t', hist', u', h1, h2, h3⟩ := h.push hB
    rw [if_neg c, if_neg c, h1, h2]
    exact ⟨t', hist', u', rfl, rfl, h3⟩
theorem L_operate {q : Nat} {x y : Int32} {ac ac1 ac' : Nat → Int32} {bf bf' P' : PlanT} {t t' : HistT} {S' : SieveT} {r : Int32} (hq : q < 10)
    (h1 : F_X2_isInRange q x y = some true) (h2 : F_X3_takeOver bf P = some bf') (h3 : F_X10_carryOut q x y ac P S = some (r, (ac1, P', S')))
    (h4 : F_X10_counted r ac1 = some (r, ac')) (h5 : (if r < 0 then some t else F_X1_push t bf') = some t') :
    F_X10_operate q x y ac bf t P S = some (.inr r, (ac', bf', t', P', S')) := by
  unfold F_X10_operate kl
  rw [if_pos hq, h1, Option.bind_some, if_pos rfl, h2, Option.bind_some, h3, Option.bind_some]
  show (F_X10_counted r ac1).bind _ = _
  rw [h4, Option.bind_some]
  show (if r < 0 then some _ else (F_X1_push t bf').bind _) = _
  by_cases c : r < 0
  · rw [if_pos c] at h5 ⊢
    cases h5
    rfl
  · rw [if_neg c] at h5 ⊢
    rw [h5]
    rfl
theorem L_operate_no {q : Nat} {x y : Int32} {ac : Nat → Int32} {bf : PlanT} {t : HistT} (hq : q < 10) (h1 : F_X2_isInRange q x y = some false) :
    F_X10_operate q x y ac bf t P S = some (.inl 1, (ac, bf, t, P, S)) := by
  unfold F_X10_operate kl
  rw [if_pos hq, h1]
  rfl
/-- what an operation leaves -/
def OR (P : PlanT) (v : Nat) (t' : HistT) (hist' : Nat → Int32) (u' : Int32) (row' : Nat → Int32) (P' : PlanT) (S' : SieveT) : Prop :=
  HX t' hist' u' ∧ ∃ w' ns' R' k' D' v', CX w' ns' R' k' D' P' row' S' ∧ P'.2.2.2.2.2.2 = nI v' ∧ v ≤ v' ∧ v' ≤ v + 100
theorem M_inRangeI {x : Int32} {a b : Nat} (ha : a < 2 ^ 31) (hb : b < 2 ^ 31) :
    (F_X11_inRange x (nI a) (nI b) = some false) ∨ ∃ n, n < 2 ^ 31 ∧ x = nI n ∧ a ≤ n ∧ n ≤ b ∧ F_X11_inRange x (nI a) (nI b) = some true := by
  rcases i_cases x with h | ⟨n, hn, rfl⟩
  · exact Or.inl (M_inRange_neg ha h)
  · rw [M_inRange hn ha hb]
    by_cases c : a ≤ n ∧ n ≤ b
    · rw [decide_eq_true c]
      exact Or.inr ⟨n, hn, rfl, c.1, c.2, rfl⟩
    · rw [decide_eq_false c]
      exact Or.inl rfl
section
variable {t : HistT} {hist : Nat → Int32} {u : Int32} {v : Nat}
theorem O_lay (h : CX w ns R k D P row S) (hH : HX t hist u) (hv : P.2.2.2.2.2.2 = nI v) (hv2 : v + 100 < 2 ^ 31) (x : Int32) (ac kept : Nat → Int32) (bf : PlanT) (e0 th : Int32) (o tm : Nat → Int32) :
    ∃ Rr ac' bf' t' P' S' b e' hist' kept' row' o' th' tm' u', F_X10_lay x ac bf t P S = some (Rr, (ac', bf', t', P', S')) ∧ F_X11_lay x ac e0 hist kept row o th tm u = some (b, (ac', e', hist', kept', row', o', th', tm', u')) ∧ ag 1 Rr b th' ∧ OR P v t' hist' u' row' P' S' := by
  unfold F_X10_lay F_X11_lay F_X11_isRoom
  rcases M_inRangeI (x := x) (a := 1) (b := 400) (by decide) (by decide) with q | ⟨n, hn, rfl, n1, n2, q⟩
  · have q : F_X11_inRange x 1 400 = some false := q
    rw [L_operate_no (by decide) (by rw [iy_0]; exact q), q]
    exact ⟨.inl 1, ac, bf, t, P, S, 0, e0, hist, kept, row, o, 1, tm, u, rfl, rfl, ⟨rfl, rfl⟩, hH, w, ns, R, k, D, v, h, hv, Nat.le_refl _, by omega⟩
  · have q : F_X11_inRange (nI n) 1 400 = some true := q
    obtain ⟨bf', b1, b2, -⟩ := h.kp.take bf
    obtain ⟨kept', k1, k2⟩ := M_keep kept row
    obtain ⟨r, ac1, P', S', ac', e', o', row', tm', c1, c2, c3, c4⟩ := C_lay h hv hv2 n1 n2 0 ac e0 o tm
    obtain ⟨t', hist', u', r1, r2, r3⟩ := REC hH (b2.rows k2) r
    rw [L_operate (by decide) (by rw [iy_0]; exact q) b1 c1 c3 r1, q]
    refine ⟨.inr r, ac', bf', t', P', S', r, e', hist', kept', row', o', 0, tm', u', rfl, ?_, ⟨rfl, rfl⟩, r3, c4⟩
    rw [Option.bind_some, Option.bind_some, M_lacks, Option.bind_some, if_neg (by decide), k1, Option.bind_some, c2, Option.bind_some]
    show (F_X11_recorded r hist kept' u).bind _ = _
    rw [r2]
    rfl
theorem O_drop (h : CX w ns R k D P row S) (hH : HX t hist u) (hv : P.2.2.2.2.2.2 = nI v) (hv2 : v + 100 < 2 ^ 31) (ac kept : Nat → Int32) (bf : PlanT) (th : Int32) :
    ∃ ac' bf' t' P' S' b hist' kept' row' th' u', F_X10_drop ac bf t P S = some (.inr b, (ac', bf', t', P', S')) ∧ F_X11_drop ac hist kept row th u = some (b, (ac', hist', kept', row', th', u')) ∧ OR P v t' hist' u' row' P' S' := by
  unfold F_X10_drop F_X11_drop
  obtain ⟨bf', b1, b2, -⟩ := h.kp.take bf
  obtain ⟨kept', k1, k2⟩ := M_keep kept row
  obtain ⟨r, ac1, P', S', ac', row', c1, c2, c3, c4⟩ := C_drop h hv hv2 0 0 ac
  obtain ⟨t', hist', u', r1, r2, r3⟩ := REC hH (b2.rows k2) r
  rw [L_operate (by decide) (iy_1 0 0) b1 c1 c3 r1]
  refine ⟨ac', bf', t', P', S', r, hist', kept', row', 0, u', rfl, ?_, r3, c4⟩
  rw [k1, Option.bind_some, c2, Option.bind_some]
  show (F_X11_recorded r hist kept' u).bind _ = _
  rw [r2]
  rfl
theorem O_trim (h : CX w ns R k D P row S) (hH : HX t hist u) (hv : P.2.2.2.2.2.2 = nI v) (hv2 : v + 100 < 2 ^ 31) (x : Int32) (ac kept : Nat → Int32) (bf : PlanT) (th : Int32) :
    ∃ Rr ac' bf' t' P' S' b hist' kept' row' th' u', F_X10_trim x ac bf t P S = some (Rr, (ac', bf', t', P', S')) ∧ F_X11_trim x ac hist kept row th u = some (b, (ac', hist', kept', row', th', u')) ∧ ag 1 Rr b th' ∧ OR P v t' hist' u' row' P' S' := by
  unfold F_X10_trim F_X11_trim
  rcases M_inRangeI (x := x) (a := 1) (b := 399) (by decide) (by decide) with q | ⟨n, hn, rfl, n1, n2, q⟩
  · have q : F_X11_inRange x 1 399 = some false := q
    rw [L_operate_no (by decide) (by rw [iy_8]; exact q), q]
    exact ⟨.inl 1, ac, bf, t, P, S, 0, hist, kept, row, 1, u, rfl, rfl, ⟨rfl, rfl⟩, hH, w, ns, R, k, D, v, h, hv, Nat.le_refl _, by omega⟩
  · have q : F_X11_inRange (nI n) 1 399 = some true := q
    obtain ⟨bf', b1, b2, -⟩ := h.kp.take bf
    obtain ⟨kept', k1, k2⟩ := M_keep kept row
    obtain ⟨r, ac1, P', S', ac', row', c1, c2, c3, c4⟩ := C_trim h hv hv2 n1 n2 0 ac
    obtain ⟨t', hist', u', r1, r2, r3⟩ := REC hH (b2.rows k2) r
    rw [L_operate (by decide) (by rw [iy_8]; exact q) b1 c1 c3 r1, q]
    refine ⟨.inr r, ac', bf', t', P', S', r, hist', kept', row', 0, u', rfl, ?_, ⟨rfl, rfl⟩, r3, c4⟩
    rw [Option.bind_some, M_lacks, Option.bind_some, if_neg (by decide), k1, Option.bind_some, c2, Option.bind_some]
    show (F_X11_recorded r hist kept' u).bind _ = _
    rw [r2]
    rfl
theorem O_add (h : CX w ns R k D P row S) (hH : HX t hist u) (hv : P.2.2.2.2.2.2 = nI v) (hv2 : v + 100 < 2 ^ 31) (x : Int32) (ac kept : Nat → Int32) (bf : PlanT) (e0 th : Int32) (o tm : Nat → Int32) :
    ∃ Rr ac' bf' t' P' S' b e' hist' kept' row' o' th' tm' u', F_X10_add x ac bf t P S = some (Rr, (ac', bf', t', P', S')) ∧ F_X11_add x ac e0 hist kept row o th tm u = some (b, (ac', e', hist', kept', row', o', th', tm', u')) ∧ ag 1 Rr b th' ∧ OR P v t' hist' u' row' P' S' := by
  unfold F_X10_add F_X11_add F_X11_isD
  rcases M_inRangeI (x := x) (a := 2) (b := 120) (by decide) (by decide) with q | ⟨n, hn, rfl, n1, n2, q⟩
  · have q : F_X11_inRange x 2 120 = some false := q
    rw [L_operate_no (by decide) (by rw [iy_2]; exact q), q]
    exact ⟨.inl 1, ac, bf, t, P, S, 0, e0, hist, kept, row, o, 1, tm, u, rfl, rfl, ⟨rfl, rfl⟩, hH, w, ns, R, k, D, v, h, hv, Nat.le_refl _, by omega⟩
  · have q : F_X11_inRange (nI n) 2 120 = some true := q
    obtain ⟨bf', b1, b2, -⟩ := h.kp.take bf
    obtain ⟨kept', k1, k2⟩ := M_keep kept row
    obtain ⟨r, ac1, P', S', ac', e', o', row', tm', c1, c2, c3, c4⟩ := C_add h hv hv2 n1 n2 0 ac e0 o tm
    obtain ⟨t', hist', u', r1, r2, r3⟩ := REC hH (b2.rows k2) r
    rw [L_operate (by decide) (by rw [iy_2]; exact q) b1 c1 c3 r1, q]
    refine ⟨.inr r, ac', bf', t', P', S', r, e', hist', kept', row', o', 0, tm', u', rfl, ?_, ⟨rfl, rfl⟩, r3, c4⟩
    rw [Option.bind_some, Option.bind_some, M_lacks, Option.bind_some, if_neg (by decide), k1, Option.bind_some, c2, Option.bind_some]
    show (F_X11_recorded r hist kept' u).bind _ = _
    rw [r2]
    rfl
theorem O_lift (h : CX w ns R k D P row S) (hH : HX t hist u) (hv : P.2.2.2.2.2.2 = nI v) (hv2 : v + 100 < 2 ^ 31) (x : Int32) (ac kept : Nat → Int32) (bf : PlanT) (e0 th : Int32) (o tm : Nat → Int32) :
    ∃ Rr ac' bf' t' P' S' b e' hist' kept' row' o' th' tm' u', F_X10_lift x ac bf t P S = some (Rr, (ac', bf', t', P', S')) ∧ F_X11_lift x ac e0 hist kept row o th tm u = some (b, (ac', e', hist', kept', row', o', th', tm', u')) ∧ ag 1 Rr b th' ∧ OR P v t' hist' u' row' P' S' := by
  unfold F_X10_lift F_X11_lift F_X11_isD
  rcases M_inRangeI (x := x) (a := 2) (b := 120) (by decide) (by decide) with q | ⟨n, hn, rfl, n1, n2, q⟩
  · have q : F_X11_inRange x 2 120 = some false := q
    rw [L_operate_no (by decide) (by rw [iy_3]; exact q), q]
    exact ⟨.inl 1, ac, bf, t, P, S, 0, e0, hist, kept, row, o, 1, tm, u, rfl, rfl, ⟨rfl, rfl⟩, hH, w, ns, R, k, D, v, h, hv, Nat.le_refl _, by omega⟩
  · have q : F_X11_inRange (nI n) 2 120 = some true := q
    obtain ⟨bf', b1, b2, -⟩ := h.kp.take bf
    obtain ⟨kept', k1, k2⟩ := M_keep kept row
    obtain ⟨r, ac1, P', S', ac', e', o', row', tm', c1, c2, c3, c4⟩ := C_lift h hv hv2 n2 0 ac e0 o tm
    obtain ⟨t', hist', u', r1, r2, r3⟩ := REC hH (b2.rows k2) r
    rw [L_operate (by decide) (by rw [iy_3]; exact q) b1 c1 c3 r1, q]
    refine ⟨.inr r, ac', bf', t', P', S', r, e', hist', kept', row', o', 0, tm', u', rfl, ?_, ⟨rfl, rfl⟩, r3, c4⟩
    rw [Option.bind_some, Option.bind_some, M_lacks, Option.bind_some, if_neg (by decide), k1, Option.bind_some, c2, Option.bind_some]
    show (F_X11_recorded r hist kept' u).bind _ = _
    rw [r2]
    rfl
theorem O_first (h : CX w ns R k D P row S) (hH : HX t hist u) (hv : P.2.2.2.2.2.2 = nI v) (hv2 : v + 100 < 2 ^ 31) (x : Int32) (ac kept : Nat → Int32) (bf : PlanT) (th : Int32) :
    ∃ Rr ac' bf' t' P' S' b hist' kept' row' th' u', F_X10_first x ac bf t P S = some (Rr, (ac', bf', t', P', S')) ∧ F_X11_first x ac hist kept row th u = some (b, (ac', hist', kept', row', th', u')) ∧ ag 1 Rr b th' ∧ OR P v t' hist' u' row' P' S' := by
  unfold F_X10_first F_X11_first F_X11_isD
  rcases M_inRangeI (x := x) (a := 2) (b := 120) (by decide) (by decide) with q | ⟨n, hn, rfl, n1, n2, q⟩
  · have q : F_X11_inRange x 2 120 = some false := q
    rw [L_operate_no (by decide) (by rw [iy_4]; exact q), q]
    exact ⟨.inl 1, ac, bf, t, P, S, 0, hist, kept, row, 1, u, rfl, rfl, ⟨rfl, rfl⟩, hH, w, ns, R, k, D, v, h, hv, Nat.le_refl _, by omega⟩
  · have q : F_X11_inRange (nI n) 2 120 = some true := q
    obtain ⟨bf', b1, b2, -⟩ := h.kp.take bf
    obtain ⟨kept', k1, k2⟩ := M_keep kept row
    obtain ⟨r, ac1, P', S', ac', row', c1, c2, c3, c4⟩ := C_first h hv hv2 n2 0 ac
    obtain ⟨t', hist', u', r1, r2, r3⟩ := REC hH (b2.rows k2) r
    rw [L_operate (by decide) (by rw [iy_4]; exact q) b1 c1 c3 r1, q]
    refine ⟨.inr r, ac', bf', t', P', S', r, hist', kept', row', 0, u', rfl, ?_, ⟨rfl, rfl⟩, r3, c4⟩
    rw [Option.bind_some, Option.bind_some, M_lacks, Option.bind_some, if_neg (by decide), k1, Option.bind_some, c2, Option.bind_some]
    show (F_X11_recorded r hist kept' u).bind _ = _
    rw [r2]
    rfl
theorem O_wheel (h : CX w ns R k D P row S) (hH : HX t hist u) (hv : P.2.2.2.2.2.2 = nI v) (hv2 : v + 100 < 2 ^ 31) (x : Int32) (ac kept : Nat → Int32) (bf : PlanT) (th : Int32) :
    ∃ Rr ac' bf' t' P' S' b hist' kept' row' th' u', F_X10_wheel x ac bf t P S = some (Rr, (ac', bf', t', P', S')) ∧ F_X11_wheel x ac hist kept row th u = some (b, (ac', hist', kept', row', th', u')) ∧ ag 1 Rr b th' ∧ OR P v t' hist' u' row' P' S' := by
  unfold F_X10_wheel F_X11_wheel
  rcases M_inRangeI (x := x) (a := 0) (b := 4) (by decide) (by decide) with q | ⟨n, hn, rfl, n1, n2, q⟩
  · have q : F_X11_inRange x 0 4 = some false := q
    rw [L_operate_no (by decide) (by rw [iy_6]; exact q), q]
    exact ⟨.inl 1, ac, bf, t, P, S, 0, hist, kept, row, 1, u, rfl, rfl, ⟨rfl, rfl⟩, hH, w, ns, R, k, D, v, h, hv, Nat.le_refl _, by omega⟩
  · have q : F_X11_inRange (nI n) 0 4 = some true := q
    obtain ⟨bf', b1, b2, -⟩ := h.kp.take bf
    obtain ⟨kept', k1, k2⟩ := M_keep kept row
    obtain ⟨r, ac1, P', S', ac', row', c1, c2, c3, c4⟩ := C_wheel h hv hv2 n2 0 ac
    obtain ⟨t', hist', u', r1, r2, r3⟩ := REC hH (b2.rows k2) r
    rw [L_operate (by decide) (by rw [iy_6]; exact q) b1 c1 c3 r1, q]
    refine ⟨.inr r, ac', bf', t', P', S', r, hist', kept', row', 0, u', rfl, ?_, ⟨rfl, rfl⟩, r3, c4⟩
    rw [Option.bind_some, M_lacks, Option.bind_some, if_neg (by decide), k1, Option.bind_some, c2, Option.bind_some]
    show (F_X11_recorded r hist kept' u).bind _ = _
    rw [r2]
    rfl
theorem O_fill (h : CX w ns R k D P row S) (hH : HX t hist u) (hv : P.2.2.2.2.2.2 = nI v) (hv2 : v + 100 < 2 ^ 31) (x : Int32) (ac kept : Nat → Int32) (bf : PlanT) (e0 th : Int32) (o tm : Nat → Int32) :
    ∃ Rr ac' bf' t' P' S' b e' hist' kept' row' o' th' tm' u', F_X10_fill x ac bf t P S = some (Rr, (ac', bf', t', P', S')) ∧ F_X11_fill x ac e0 hist kept row o th tm u = some (b, (ac', e', hist', kept', row', o', th', tm', u')) ∧ ag 1 Rr b th' ∧ OR P v t' hist' u' row' P' S' := by
  unfold F_X10_fill F_X11_fill
  rcases M_inRangeI (x := x) (a := 1) (b := 30) (by decide) (by decide) with q | ⟨n, hn, rfl, n1, n2, q⟩
  · have q : F_X11_inRange x 1 30 = some false := q
    rw [L_operate_no (by decide) (by rw [iy_7]; exact q), q]
    exact ⟨.inl 1, ac, bf, t, P, S, 0, e0, hist, kept, row, o, 1, tm, u, rfl, rfl, ⟨rfl, rfl⟩, hH, w, ns, R, k, D, v, h, hv, Nat.le_refl _, by omega⟩
  · have q : F_X11_inRange (nI n) 1 30 = some true := q
    obtain ⟨bf', b1, b2, -⟩ := h.kp.take bf
    obtain ⟨kept', k1, k2⟩ := M_keep kept row
    obtain ⟨r, ac1, P', S', ac', e', o', row', tm', c1, c2, c3, c4⟩ := C_fill h hv hv2 n2 0 ac e0 o tm
    obtain ⟨t', hist', u', r1, r2, r3⟩ := REC hH (b2.rows k2) r
    rw [L_operate (by decide) (by rw [iy_7]; exact q) b1 c1 c3 r1, q]
    refine ⟨.inr r, ac', bf', t', P', S', r, e', hist', kept', row', o', 0, tm', u', rfl, ?_, ⟨rfl, rfl⟩, r3, c4⟩
    rw [Option.bind_some, M_lacks, Option.bind_some, if_neg (by decide), k1, Option.bind_some, c2, Option.bind_some]
    show (F_X11_recorded r hist kept' u).bind _ = _
    rw [r2]
    rfl
theorem O_tidy (h : CX w ns R k D P row S) (hH : HX t hist u) (hv : P.2.2.2.2.2.2 = nI v) (hv2 : v + 100 < 2 ^ 31) (ac kept : Nat → Int32) (bf : PlanT) (e0 th : Int32) (o tm : Nat → Int32) :
    ∃ ac' bf' t' P' S' b e' hist' kept' row' o' th' tm' u', F_X10_tidy ac bf t P S = some (.inr b, (ac', bf', t', P', S')) ∧ F_X11_tidy ac e0 hist kept row o th tm u = some (b, (ac', e', hist', kept', row', o', th', tm', u')) ∧ OR P v t' hist' u' row' P' S' := by
  unfold F_X10_tidy F_X11_tidy
  obtain ⟨bf', b1, b2, -⟩ := h.kp.take bf
  obtain ⟨kept', k1, k2⟩ := M_keep kept row
  obtain ⟨r, ac1, P', S', ac', e', o', row', tm', c1, c2, c3, c4⟩ := C_tidy h hv hv2 0 0 ac e0 o tm
  obtain ⟨t', hist', u', r1, r2, r3⟩ := REC hH (b2.rows k2) r
  rw [L_operate (by decide) (iy_9 0 0) b1 c1 c3 r1]
  refine ⟨ac', bf', t', P', S', r, e', hist', kept', row', o', 0, tm', u', rfl, ?_, r3, c4⟩
  rw [k1, Option.bind_some, c2, Option.bind_some]
  show (F_X11_recorded r hist kept' u).bind _ = _
  rw [r2]
  rfl
theorem O_swap (h : CX w ns R k D P row S) (hH : HX t hist u) (hv : P.2.2.2.2.2.2 = nI v) (hv2 : v + 100 < 2 ^ 31) (x y : Int32) (ac kept : Nat → Int32) (bf : PlanT) (e0 th : Int32) (o kd tm : Nat → Int32) :
    ∃ Rr ac' bf' t' P' S' b e' hist' kept' row' o' kd' th' tm' u', F_X10_swap x y ac bf t P S = some (Rr, (ac', bf', t', P', S')) ∧ F_X11_swap x y ac e0 hist kept row o kd th tm u = some (b, (ac', e', hist', kept', row', o', kd', th', tm', u')) ∧ ag 1 Rr b th' ∧ OR P v t' hist' u' row' P' S' := by
  unfold F_X10_swap F_X11_swap F_X11_isD
  rcases M_inRangeI (x := x) (a := 2) (b := 120) (by decide) (by decide) with q | ⟨n, hn, rfl, n1, n2, q⟩
  · have q : F_X11_inRange x 2 120 = some false := q
    have i : F_X2_isInRange 5 x y = some false := by
      rw [iy_5]
      unfold F_X11_inRange at q
      by_cases c : x < 2
      · rw [if_pos c]
      · rw [if_neg c] at q ⊢
        by_cases d : 120 < x
        · rw [if_pos d]
        · rw [if_neg d] at q
          cases q
    rw [L_operate_no (by decide) i, q]
    exact ⟨.inl 1, ac, bf, t, P, S, 0, e0, hist, kept, row, o, kd, 1, tm, u, rfl, rfl, ⟨rfl, rfl⟩, hH, w, ns, R, k, D, v, h, hv, Nat.le_refl _, by omega⟩
  · have q : F_X11_inRange (nI n) 2 120 = some true := q
    have i : F_X2_isInRange 5 (nI n) y = F_X11_inRange y 2 120 := by
      rw [iy_5, if_neg (show ¬ nI n < 2 from nI_nlt (b := 2) n1 hn), if_neg (show ¬ 120 < nI n from nI_nlt (a := 120) n2 (by decide))]
    rw [q, Option.bind_some, Option.bind_some, if_pos rfl]
    rcases M_inRangeI (x := y) (a := 2) (b := 120) (by decide) (by decide) with q2 | ⟨j, hj, rfl, j1, j2, q2⟩
    · have q2 : F_X11_inRange y 2 120 = some false := q2
      rw [L_operate_no (by decide) (by rw [i]; exact q2), q2]
      exact ⟨.inl 1, ac, bf, t, P, S, 0, e0, hist, kept, row, o, kd, 1, tm, u, rfl, rfl, ⟨rfl, rfl⟩, hH, w, ns, R, k, D, v, h, hv, Nat.le_refl _, by omega⟩
    · have q2 : F_X11_inRange (nI j) 2 120 = some true := q2
      obtain ⟨bf', b1, b2, -⟩ := h.kp.take bf
      obtain ⟨kept', k1, k2⟩ := M_keep kept row
      obtain ⟨r, ac1, P', S', ac', e', o', kd', row', tm', c1, c2, c3, c4⟩ := C_swap h hv hv2 n2 j2 ac e0 o tm kd
      obtain ⟨t', hist', u', r1, r2, r3⟩ := REC hH (b2.rows k2) r
      rw [L_operate (by decide) (by rw [i]; exact q2) b1 c1 c3 r1, q2]
      refine ⟨.inr r, ac', bf', t', P', S', r, e', hist', kept', row', o', kd', 0, tm', u', rfl, ?_, ⟨rfl, rfl⟩, r3, c4⟩
      rw [Option.bind_some, Option.bind_some, if_pos rfl, M_lacks, Option.bind_some, if_neg (by decide), k1, Option.bind_some, c2, Option.bind_some]
      show (F_X11_recorded r hist kept' u).bind _ = _
      rw [r2]
      rfl
end
end
