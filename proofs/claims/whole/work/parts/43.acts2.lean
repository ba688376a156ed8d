/-! ===== PURE: actions: lay, add ===== -/
section
variable {w ns k : Nat} {R D : Nat → Nat} {P : PlanT} {row : Nat → Int32} {S : SieveT} {L : Nat}
theorem A_lay (h : CX w ns R k D P row S) {v : Nat} (hv : P.2.2.2.2.2.2 = nI v) (hv2 : v + 100 < 2 ^ 31) {m : Nat} (hm1 : 1 ≤ m) (hm : m ≤ 400) (ac : Nat → Int32) (e0 : Int32) (o t : Nat → Int32) :
    ∃ r ac1 P' S' ac' e' o' row' t', F_X10_layStretch (nI m) ac P S = some (r, (ac1, P', S')) ∧ F_X11_doLay (nI m) ac e0 o row t = some (r, (ac', e', o', row', t')) ∧ F_X10_counted r ac1 = some (r, ac') ∧ AR P S v row' P' S' := by
  obtain ⟨hw, hP, hR, hS⟩ := h
  have h12 := hw.2.1
  unfold F_X10_layStretch F_X11_doLay F_X3_stretchCount
  rw [hP.2.1, hR.2.1, Option.bind_some]
  by_cases z : ns = 12
  · obtain ⟨ac', he⟩ := ends_ex (-2) ac
    subst z
    rw [if_neg (by decide), if_pos (by rfl), he]
    exact ⟨-2, ac, P, S, ac', e0, o, row, t, rfl, rfl, he, w, 12, R, k, D, v, ⟨hw, hP, hR, hS⟩, hv, Nat.le_refl _, by omega⟩
  · have hw' : WF w (ns + 1) (up1 R ns m) k D := ⟨hw.1, by omega, fun i hi => by
      by_cases e : i = ns
      · rw [e, up1_s]; omega
      · rw [up1_n e]; exact hw.2.2.1 i (by omega), hw.2.2.2⟩
    have hs : sm (up1 R ns m) (ns + 1) = sm R ns + m := by
      show sm (up1 R ns m) ns + up1 R ns m ns = _
      rw [sm_up1, up1_s]
    have hL' := hw'.last
    have hR' : RX w (ns + 1) (up1 R ns m) k D (upd (upd row (2 + ns) (nI m)) 1 (nI (ns + 1))) := by
      obtain ⟨r1, r2, r3, r4, r5⟩ := hR
      refine ⟨?_, pk_us, fun i hi => ?_, ?_, fun i hi => ?_⟩
      · rw [pk_un (by decide), pk_un (by omega)]; exact r1
      · rw [pk_un (by omega)]
        by_cases e : i = ns
        · rw [e, pk_us, up1_s]
        · rw [pk_un (by omega), up1_n e]; exact r3 i (by omega)
      · rw [pk_un (by decide), pk_un (by omega)]; exact r4
      · rw [pk_un (by omega), pk_un (by omega)]; exact r5 i hi
    have hver : P.2.2.2.2.2.2 + 1 = nI (v + 1) := by
      rw [hv]
      exact e_add v 1
    have hP' : PX w (ns + 1) (up1 R ns m) k D (P.1, nI (ns + 1), upd P.2.2.1 ns (nI m), nI (1 + sm R ns + m), P.2.2.2.2.1, P.2.2.2.2.2.1, P.2.2.2.2.2.2 + 1) := by
      refine ⟨hP.1, rfl, fun i hi => ?_, ?_, hP.2.2.2.2.1, hP.2.2.2.2.2⟩
      · show upd P.2.2.1 ns (nI m) i = nI (up1 R ns m i)
        by_cases e : i = ns
        · rw [e, pk_us, up1_s]
        · rw [pk_un e, up1_n e]; exact hP.2.2.1 i (by omega)
      · show nI (1 + sm R ns + m) = nI (1 + sm (up1 R ns m) (ns + 1))
        rw [hs, Nat.add_assoc]
    have hS1 : SOK w k D (1 + sm (up1 R ns m) (ns + 1)) (P.1, nI (ns + 1), upd P.2.2.1 ns (nI m), nI (1 + sm R ns + m), P.2.2.2.2.1, P.2.2.2.2.2.1, P.2.2.2.2.2.2 + 1) S := hS.bump hv hver (by omega) (by omega)
    obtain ⟨S', c1, c2, c3⟩ := L_current hw' hP' hS1
    obtain ⟨o', t', hm', hRS⟩ := M_strike hw' hR' e0 o t
    obtain ⟨ac', he⟩ := ends_ex (nI (mb w k D (1 + sm (up1 R ns m) (ns + 1)) (2 + sm R ns) (1 + sm (up1 R ns m) (ns + 1)))) (upd ac 3 (ac 3 + 1))
    have hf := L_first hw' hP' (i := ns) (by omega)
    have hl := L_lastOf hw' hP' (i := ns) (by omega)
    rw [sm_up1] at hf
    rw [if_pos (show nI ns < 12 from nI_lt (b := 12) (by omega) (by decide)), if_neg (show ¬ nI ns = 12 by
      intro q
      rw [show (12 : Int32) = nI 12 from rfl, e_eq (by omega) (by decide)] at q
      omega), L_appendStretch (n := ns) (l := 1 + sm R ns) hP.2.1 (by omega) hP.2.2.2.1, Option.bind_some, nm_e1]
    have e2 : (2 : Int32) + nI ns = nI (2 + ns) := e_add 2 ns
    refine ⟨nI (mb w k D (1 + sm (up1 R ns m) (ns + 1)) (2 + sm R ns) (1 + sm (up1 R ns m) (ns + 1))), upd ac 3 (ac 3 + 1), _, S', ac', nI (1 + sm (up1 R ns m) (ns + 1)), o', upd (upd row (2 + ns) (nI m)) 1 (nI (ns + 1)), t', ?_, ?_, he, w, ns + 1, up1 R ns m, k, D, v + 1, ⟨hw', hP', hR', c3⟩, hver, by omega, by omega⟩
    · rw [c1, Option.bind_some, hf, hl, Option.bind_some, Option.bind_some, L_marksBetween hL' c2 (by omega) (by omega)]
      rfl
    · rw [M_last hw hR, Option.bind_some]
      show ix (2 + nI ns) 45 _ = _
      rw [e2, ix_nI (by omega) (by decide), nI_clamp (by omega), nm_e1, nm_e1]
      have e3 : upd row (2 + ns) (nI m) 1 + 1 = nI (ns + 1) := by
        rw [pk_un (by omega), hR.2.1]
        exact e_add ns 1
      rw [e3, hm', Option.bind_some]
      have e4 : nI (1 + sm R ns) + 1 = nI (2 + sm R ns) := by
        rw [show (1 : Int32) = nI 1 from rfl, e_add, show 1 + sm R ns + 1 = 2 + sm R ns by omega]
      rw [e4, M_marksIn hw' hR' hL' hRS (by omega) (by omega) (Nat.le_refl _), Option.bind_some, he]
      rfl
/-- a striker more -/
theorem fh_more {d n : Nat} : fh k (up1 D k d) n = fh k D n := fi_cong (fun i _ hi => by rw [up1_n (by omega)])
theorem WF.more (hw : WF w ns R k D) {d : Nat} (h30 : k < 30) (h2 : 2 ≤ d) (h120 : d ≤ 120) (hn : pl k D d = none) : WF w ns R (k + 1) (up1 D k d) := by
  obtain ⟨a1, a2, a3, a4, a5, a6⟩ := hw
  have ne : ∀ i, i < k → D i ≠ d := fun i hi e => by
    have := fi_none.mp hn i (by omega) (by omega)
    rw [decide_eq_true e] at this
    cases this
  refine ⟨a1, a2, a3, by omega, fun i hi => ?_, fun i j hi hj e => ?_⟩
  · by_cases q : i = k
    · rw [q, up1_s]; omega
    · rw [up1_n q]; exact a5 i (by omega)
  · by_cases q : i = k
    · by_cases q2 : j = k
      · rw [q, q2]
      · rw [q, up1_s, up1_n q2] at e
        exact absurd e.symm (ne j (by omega))
    · by_cases q2 : j = k
      · rw [q2, up1_s, up1_n q] at e
        exact absurd e (ne i (by omega))
      · rw [up1_n q, up1_n q2] at e
        exact a6 i j (by omega) (by omega) e
theorem RX.more (hR : RX w ns R k D row) {d : Nat} (h12 : ns ≤ 12) : RX w ns R (k + 1) (up1 D k d) (upd (upd row (15 + k) (nI d)) 14 (nI (k + 1))) := by
  obtain ⟨r1, r2, r3, r4, r5⟩ := hR
  refine ⟨?_, ?_, fun i hi => ?_, pk_us, fun i hi => ?_⟩
  · rw [pk_un (by decide), pk_un (by omega)]; exact r1
  · rw [pk_un (by decide), pk_un (by omega)]; exact r2
  · rw [pk_un (by omega), pk_un (by omega)]; exact r3 i hi
  · rw [pk_un (by omega)]
    by_cases e : i = k
    · rw [e, pk_us, up1_s]
    · rw [pk_un (by omega), up1_n e]; exact r5 i (by omega)
theorem PX.more (hP : PX w ns R k D P) {d : Nat} (x : Int32) : PX w ns R (k + 1) (up1 D k d) (P.1, P.2.1, P.2.2.1, P.2.2.2.1, nI (k + 1), upd P.2.2.2.2.2.1 k (nI d), x) := by
  obtain ⟨r1, r2, r3, r4, r5, r6⟩ := hP
  refine ⟨r1, r2, r3, r4, rfl, fun i hi => ?_⟩
  show upd P.2.2.2.2.2.1 k (nI d) i = nI (up1 D k d i)
  by_cases e : i = k
  · rw [e, pk_us, up1_s]
  · rw [pk_un e, up1_n e]; exact r6 i (by omega)
theorem L_appendStriker (hP : PX w ns R k D P) (h30 : k < 30) (d : Nat) : F_X3_appendStriker (nI d) P = some (P.1, P.2.1, P.2.2.1, P.2.2.2.1, nI (k + 1), upd P.2.2.2.2.2.1 k (nI d), P.2.2.2.2.2.2 + 1) := by
  unfold F_X3_appendStriker
  rw [hP.2.2.2.2.1, if_neg (nI_pos (by omega)), if_neg (show ¬ 30 ≤ nI k from nI_ge (b := 30) h30 (by decide)), ix_nI (by omega) (by decide), nI_clamp (by omega), nm_e1, nm_e1, show nI k + 1 = nI (k + 1) from e_add k 1]
theorem M_newStriker (hR : RX w ns R k D row) (h30 : k < 30) (d : Nat) : F_X11_newStriker (nI d) row = some (upd (upd row (15 + k) (nI d)) 14 (nI (k + 1))) := by
  unfold F_X11_newStriker
  have e : (15 : Int32) + nI k = nI (15 + k) := e_add 15 k
  rw [hR.2.2.2.1, e, ix_nI (by omega) (by decide), nI_clamp (by omega), nm_e1, pk_un (by omega), hR.2.2.2.1, show nI k + 1 = nI (k + 1) from e_add k 1]
theorem own_more (h1 : D ≠ D ∨ True) {d n : Nat} : own w (k + 1) (up1 D k d) k n = (mk w k D n && hit n d) := by
  unfold own mk
  rw [fh_succ, fh_more, up1_s]
  cases off w n with
  | true => rfl
  | false =>
    cases hf : fh k D n with
    | some i =>
      obtain ⟨-, hi, -⟩ := fi_some hf
      have : ¬ i = k := by omega
      simp [this]
    | none =>
      cases hit n d <;> simp
theorem A_add (h : CX w ns R k D P row S) {v : Nat} (hv : P.2.2.2.2.2.2 = nI v) (hv2 : v + 100 < 2 ^ 31) {d : Nat} (h2 : 2 ≤ d) (h120 : d ≤ 120) (ac : Nat → Int32) (e0 : Int32) (o t : Nat → Int32) :
    ∃ r ac1 P' S' ac' e' o' row' t', F_X10_addStriker (nI d) ac P S = some (r, (ac1, P', S')) ∧ F_X11_doAdd (nI d) ac e0 o row t = some (r, (ac', e', o', row', t')) ∧ F_X10_counted r ac1 = some (r, ac') ∧ AR P S v row' P' S' := by
  obtain ⟨hw, hP, hR, hS⟩ := h
  have h30 := hw.2.2.2.1
  have hL := hw.last
  unfold F_X10_addStriker F_X11_doAdd F_X3_strikerCount
  rw [L_placeOf hw hP (by omega), M_placeOf hw hR (by omega), hP.2.2.2.2.1, hR.2.2.2.1, Option.bind_some, Option.bind_some]
  cases hp : pl k D d with
  | some j =>
    obtain ⟨-, hj, -⟩ := fi_some hp
    obtain ⟨ac', he⟩ := ends_ex (-2) ac
    show ∃ r ac1 P' S' ac' e' o' row' t', (if nI j = -1 then _ else _) = some (r, (ac1, P', S')) ∧ (if nI j = -1 then _ else ((some (nI j)).bind _)) = some (r, (ac', e', o', row', t')) ∧ _
    rw [if_neg (m1_ne (by omega)), if_neg (m1_ne (by omega)), Option.bind_some, if_neg (m1_ne (by omega)), he]
    exact ⟨-2, ac, P, S, ac', e0, o, row, t, rfl, rfl, he, w, ns, R, k, D, v, ⟨hw, hP, hR, hS⟩, hv, Nat.le_refl _, by omega⟩
  | none =>
    dsimp only
    rw [if_pos (show m1 = -1 from rfl), Option.bind_some, if_pos (show m1 = -1 from rfl)]
    by_cases z : k = 30
    · obtain ⟨ac', he⟩ := ends_ex (-3) ac
      subst z
      rw [if_neg (by decide), if_pos (by rfl), Option.bind_some, if_pos (show m1 = -1 from rfl), he]
      exact ⟨-3, ac, P, S, ac', e0, o, row, t, rfl, rfl, he, w, ns, R, 30, D, v, ⟨hw, hP, hR, hS⟩, hv, Nat.le_refl _, by omega⟩
    · have hk : k < 30 := by omega
      have hw' := hw.more hk h2 h120 hp
      have hR' := hR.more (d := d) hw.2.1
      obtain ⟨S', c1, c2, c3⟩ := L_current hw hP hS
      obtain ⟨o', t', hm', hRS⟩ := M_strike hw' hR' e0 o t
      have hver : P.2.2.2.2.2.2 + 1 = nI (v + 1) := by
        rw [hv]
        exact e_add v 1
      have hd2 : 2 * 2 ≤ d * d := Nat.mul_le_mul h2 h2
      have ecn : cn (own w (k + 1) (up1 D k d) k) 2 (1 + sm R ns - 1) = cn (fun n => decide (n % d = 0) && mk w k D n) (d * d) (1 + sm R ns + 1 - d * d) := by
        rw [show 1 + sm R ns - 1 = 1 + sm R ns + 1 - 2 by omega, cn_from (by omega : 2 ≤ d * d) (fun n hn => by rw [own_more (Or.inr trivial), hit_small hn, Bool.and_false])]
        refine cn_cong (fun n n1 n2 => ?_)
        rw [own_more (Or.inr trivial)]
        unfold hit
        rw [decide_eq_true n1, Bool.true_and, Bool.and_comm]
      obtain ⟨ac', he⟩ := ends_ex (nI (cn (fun n => decide (n % d = 0) && mk w k D n) (d * d) (1 + sm R ns + 1 - d * d))) (upd ac 4 (ac 4 + 1))
      rw [if_pos (show nI k < 30 from nI_lt (b := 30) hk (by decide)), if_neg (show ¬ nI k = 30 by
        intro q
        rw [show (30 : Int32) = nI 30 from rfl, e_eq (by omega) (by decide)] at q
        omega), c1, Option.bind_some, L_taken hw hL c2 h2 h120, Option.bind_some, L_appendStriker hP hk, Option.bind_some, M_newStriker hR hk, Option.bind_some, nm_e1, nm_e1, hm', Option.bind_some]
      refine ⟨nI (cn (fun n => decide (n % d = 0) && mk w k D n) (d * d) (1 + sm R ns + 1 - d * d)), upd ac 4 (ac 4 + 1), _, S', ac', nI (1 + sm R ns), o', _, t', rfl, ?_, he, w, ns, R, k + 1, up1 D k d, v + 1, ⟨hw', hP.more _, hR', c3.bump hv hver (by omega) (by omega)⟩, hver, by omega, by omega⟩
      have e1 : upd (upd row (15 + k) (nI d)) 14 (nI (k + 1)) 14 - 1 = nI k := by
        rw [pk_us, show (1 : Int32) = nI 1 from rfl, e_sub (by omega), show k + 1 - 1 = k by omega]
      rw [e1, M_ownedBy hw' hL (by omega) hRS (by omega), ecn, Option.bind_some, he]
      rfl
end
