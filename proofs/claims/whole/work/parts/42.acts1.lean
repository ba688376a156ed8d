/-! ===== PURE: actions: wheel, drop, trim ===== -/
section
variable {w ns k : Nat} {R D : Nat → Nat} {P : PlanT} {row : Nat → Int32} {S : SieveT} {L : Nat}
theorem SOK.bump {w' k' : Nat} {D' : Nat → Nat} {L' : Nat} {P' : PlanT} {v v' : Nat} (h : SOK w k D L P S) (h1 : P.2.2.2.2.2.2 = nI v) (h2 : P'.2.2.2.2.2.2 = nI v') (h3 : v < v') (h4 : v' < 2 ^ 31) : SOK w' k' D' L' P' S := by
  obtain ⟨h, -⟩ := h
  have no : ∀ b, b ≤ v → S.2.2.2.2.2 = nI b → ¬ S.2.2.2.2.2 = P'.2.2.2.2.2.2 := by
    intro b hb e q
    rw [e, h2, e_eq (by omega) (by omega)] at q
    omega
  rcases h with h | h | ⟨b, u, hu, hb, e1, e2⟩
  · refine ⟨Or.inl h, fun q => ?_⟩
    rw [h, h2] at q
    exact absurd q.symm (m1_ne h4)
  · refine ⟨Or.inr (Or.inr ⟨v, v', h4, by omega, h2, by rw [h, h1]⟩), fun q => absurd q (no v (Nat.le_refl _) (by rw [h, h1]))⟩
  · rw [h1, e_eq (by omega) hu] at e1
    exact ⟨Or.inr (Or.inr ⟨b, v', h4, by omega, h2, e2⟩), fun q => absurd q (no b (by omega) e2)⟩
theorem counted_ends (r : Int32) (ac : Nat → Int32) : F_X10_counted r ac = F_X11_ends r ac := rfl
theorem ends_ex (r : Int32) (ac : Nat → Int32) : ∃ ac', F_X11_ends r ac = some (r, ac') := by
  unfold F_X11_ends
  split
  · exact ⟨_, rfl⟩
  · exact ⟨_, rfl⟩
/-- what an action leaves: an answer, the accounts, both plans -/
def AR (P : PlanT) (S : SieveT) (v : Nat) (row' : Nat → Int32) (P' : PlanT) (S' : SieveT) : Prop :=
  ∃ w' ns' R' k' D' v', CX w' ns' R' k' D' P' row' S' ∧ P'.2.2.2.2.2.2 = nI v' ∧ v ≤ v' ∧ v' ≤ v + 100
theorem A_wheel (h : CX w ns R k D P row S) {v : Nat} (hv : P.2.2.2.2.2.2 = nI v) (hv2 : v + 100 < 2 ^ 31) {m : Nat} (hm : m ≤ 4) (ac : Nat → Int32) :
    ∃ r P' ac' row', F_X10_changeWheel (nI m) P = some (r, P') ∧ F_X11_doWheel (nI m) ac row = some (r, (ac', row')) ∧ F_X10_counted r ac = some (r, ac') ∧ AR P S v row' P' S := by
  obtain ⟨hw, hP, hR, hS⟩ := h
  obtain ⟨ac', he⟩ := ends_ex (nI w) ac
  refine ⟨nI w, (nI m, P.2.1, P.2.2.1, P.2.2.2.1, P.2.2.2.2.1, P.2.2.2.2.2.1, P.2.2.2.2.2.2 + 1), ac', upd row 0 (nI m), ?_, ?_, ?_, m, ns, R, k, D, v + 1, ⟨hw.wheel hm, ⟨rfl, hP.2⟩, hR.wheel m, ?_⟩, ?_, by omega, by omega⟩
  · unfold F_X10_changeWheel F_X3_wheelNow F_X3_setWheel
    rw [hP.1]
    rfl
  · unfold F_X11_doWheel
    rw [nm_e1, hR.1, he]
    rfl
  · rw [counted_ends, he]
  · exact hS.bump hv (v' := v + 1) (show P.2.2.2.2.2.2 + 1 = nI (v + 1) by rw [hv]; exact e_add v 1) (by omega) (by omega)
  · show P.2.2.2.2.2.2 + 1 = nI (v + 1)
    rw [hv]
    exact e_add v 1
theorem L_lastRoom (hw : WF w ns R k D) (hP : PX w ns R k D P) (h0 : 0 < ns) : F_X3_lastRoom P = some (nI (R (ns - 1))) := by
  have h12 := hw.2.1
  unfold F_X3_lastRoom
  rw [hP.2.1]
  simp (disch := omega) only [↓m1_d, ↓m2_d, e_m2, e_m2', e_m12, e_m21, liN, e_le, e_lt, e_eqm, e_eq, e_m1, e_m1', e_m1l, e_m1e, e_m1g, e_m1h, e_add, e_mul, e_sub, e_pred, e_rem, ix_nI, nz_nI, nI_clamp, nm_e1, Nat.add_zero, if_true, if_false, Nat.reduceEqDiff, eq_self, reduceIte, hP.2.2.1 (ns - 1) (by omega)]
  rw [if_neg (by omega), if_pos (by omega)]
theorem L_removeStretch (hw : WF w ns R k D) (hP : PX w ns R k D P) (h0 : 0 < ns) :
    F_X3_removeStretch P = some (P.1, nI (ns - 1), P.2.2.1, nI (1 + sm R (ns - 1)), P.2.2.2.2.1, P.2.2.2.2.2.1, P.2.2.2.2.2.2 + 1) := by
  have h12 := hw.2.1
  have hr := hw.2.2.1 (ns - 1) (by omega)
  have hs : sm R ns = sm R (ns - 1) + R (ns - 1) := by
    rw [show ns = (ns - 1) + 1 by omega]
    rfl
  unfold F_X3_removeStretch
  rw [L_lastRoom hw hP h0, hP.2.1, hP.2.2.2.1, Option.bind_some]
  rw [if_neg (show ¬ nI (R (ns - 1)) ≤ 0 from nI_nle (by omega) (by omega)), nm_e1, nm_e1, nm_e1, show nI ns - 1 = nI (ns - 1) from e_sub (b := 1) (by omega), e_sub (by omega), show 1 + sm R ns - R (ns - 1) = 1 + sm R (ns - 1) by omega]
theorem A_drop (h : CX w ns R k D P row S) {v : Nat} (hv : P.2.2.2.2.2.2 = nI v) (hv2 : v + 100 < 2 ^ 31) (ac : Nat → Int32) :
    ∃ r P' ac' row', F_X10_dropStretch P = some (r, P') ∧ F_X11_doDrop ac row = some (r, (ac', row')) ∧ F_X10_counted r ac = some (r, ac') ∧ AR P S v row' P' S := by
  obtain ⟨hw, hP, hR, hS⟩ := h
  have h12 := hw.2.1
  unfold F_X10_dropStretch F_X11_doDrop F_X3_stretchCount
  rw [hP.2.1, hR.2.1, Option.bind_some]
  by_cases z : ns = 0
  · obtain ⟨ac', he⟩ := ends_ex (-2) ac
    subst z
    rw [if_pos (by rfl), if_pos (by rfl), he]
    exact ⟨-2, P, ac', row, rfl, rfl, he, w, 0, R, k, D, v, ⟨hw, hP, hR, hS⟩, hv, Nat.le_refl _, by omega⟩
  · obtain ⟨ac', he⟩ := ends_ex (nI (1 + sm R (ns - 1))) ac
    have hw' : WF w (ns - 1) R k D := ⟨hw.1, by omega, fun i hi => hw.2.2.1 i (by omega), hw.2.2.2⟩
    have hR' : RX w (ns - 1) R k D (upd row 1 (nI (ns - 1))) := by
      obtain ⟨r1, r2, r3, r4, r5⟩ := hR
      refine ⟨?_, pk_us, fun i hi => ?_, ?_, fun i hi => ?_⟩
      · rw [pk_un (by decide)]; exact r1
      · rw [pk_un (by omega)]; exact r3 i (by omega)
      · rw [pk_un (by decide)]; exact r4
      · rw [pk_un (by omega)]; exact r5 i hi
    rw [if_neg (show ¬ nI ns = 0 from nI_ne0 (by omega) (by omega)), if_neg (show ¬ nI ns = 0 from nI_ne0 (by omega) (by omega)), L_removeStretch hw hP (by omega), nm_e1, show nI ns - 1 = nI (ns - 1) from e_sub (b := 1) (by omega), M_last hw' hR', Option.bind_some, Option.bind_some, he]
    refine ⟨nI (1 + sm R (ns - 1)), _, ac', _, rfl, rfl, he, w, ns - 1, R, k, D, v + 1, ⟨hw', ⟨hP.1, rfl, fun i hi => hP.2.2.1 i (by omega), rfl, hP.2.2.2.2.1, hP.2.2.2.2.2⟩, hR', ?_⟩, ?_, by omega, by omega⟩
    · exact hS.bump hv (v' := v + 1) (show P.2.2.2.2.2.2 + 1 = nI (v + 1) by rw [hv]; exact e_add v 1) (by omega) (by omega)
    · show P.2.2.2.2.2.2 + 1 = nI (v + 1)
      rw [hv]
      exact e_add v 1
/-- one room changed -/
def up1 (R : Nat → Nat) (i m : Nat) : Nat → Nat := fun j => if j = i then m else R j
theorem up1_s {i m : Nat} : up1 R i m i = m := if_pos rfl
theorem up1_n {i j m : Nat} (h : j ≠ i) : up1 R i m j = R j := if_neg h
theorem sm_up1 {n m : Nat} : sm (up1 R n m) n = sm R n := sm_cong (fun i hi => up1_n (by omega))
theorem L_appendStretch {P : PlanT} {n l m : Nat} (h1 : P.2.1 = nI n) (h2 : n < 12) (h3 : P.2.2.2.1 = nI l) :
    F_X3_appendStretch (nI m) P = some (P.1, nI (n + 1), upd P.2.2.1 n (nI m), nI (l + m), P.2.2.2.2.1, P.2.2.2.2.2.1, P.2.2.2.2.2.2 + 1) := by
  unfold F_X3_appendStretch
  rw [h1, h3, if_neg (nI_pos (by omega)), if_neg (show ¬ 12 ≤ nI n from nI_ge (b := 12) h2 (by decide)), ix_nI (by omega) (by decide), nI_clamp (by omega), nm_e1, nm_e1, nm_e1, show nI n + 1 = nI (n + 1) from e_add n 1, e_add]
theorem A_trim (h : CX w ns R k D P row S) {v : Nat} (hv : P.2.2.2.2.2.2 = nI v) (hv2 : v + 100 < 2 ^ 31) {m : Nat} (hm1 : 1 ≤ m) (hm : m ≤ 399) (ac : Nat → Int32) :
    ∃ r P' ac' row', F_X10_trimStretch (nI m) P = some (r, P') ∧ F_X11_doTrim (nI m) ac row = some (r, (ac', row')) ∧ F_X10_counted r ac = some (r, ac') ∧ AR P S v row' P' S := by
  obtain ⟨hw, hP, hR, hS⟩ := h
  have h12 := hw.2.1
  unfold F_X10_trimStretch F_X11_doTrim F_X3_stretchCount
  rw [hP.2.1, hR.2.1, Option.bind_some, nm_e1]
  by_cases z : ns = 0
  · obtain ⟨ac', he⟩ := ends_ex (-2) ac
    subst z
    rw [if_pos (by rfl), if_pos (by decide), if_neg (by decide), he]
    exact ⟨-2, P, ac', row, rfl, rfl, he, w, 0, R, k, D, v, ⟨hw, hP, hR, hS⟩, hv, Nat.le_refl _, by omega⟩
  · have hr := hw.2.2.1 (ns - 1) (by omega)
    rw [if_neg (show ¬ nI ns = 0 from nI_ne0 (by omega) (by omega)), show nI ns - 1 = nI (ns - 1) from e_sub (b := 1) (by omega), if_neg (nI_pos (by omega)), L_lastRoom hw hP (by omega), Option.bind_some]
    have e2 : (2 : Int32) + nI (ns - 1) = nI (2 + (ns - 1)) := e_add 2 (ns - 1)
    rw [e2, nI_clamp (by omega), ix_nI (by omega) (by decide), ix_nI (by omega) (by decide), hR.2.2.1 (ns - 1) (by omega)]
    by_cases c : m < R (ns - 1)
    · have hw' : WF w ns (up1 R (ns - 1) m) k D := ⟨hw.1, h12, fun i hi => by
        by_cases e : i = ns - 1
        · rw [e, up1_s]; omega
        · rw [up1_n e]; exact hw.2.2.1 i hi, hw.2.2.2⟩
      have hR' : RX w ns (up1 R (ns - 1) m) k D (upd row (2 + (ns - 1)) (nI m)) := by
        obtain ⟨r1, r2, r3, r4, r5⟩ := hR
        refine ⟨?_, ?_, fun i hi => ?_, ?_, fun i hi => ?_⟩
        · rw [pk_un (by omega)]; exact r1
        · rw [pk_un (by omega)]; exact r2
        · by_cases e : i = ns - 1
          · rw [e, pk_us, up1_s]
          · rw [pk_un (by omega), up1_n e]; exact r3 i hi
        · rw [pk_un (by omega)]; exact r4
        · rw [pk_un (by omega)]; exact r5 i hi
      have hs : sm (up1 R (ns - 1) m) ns = sm R (ns - 1) + m := by
        have : sm (up1 R (ns - 1) m) ((ns - 1) + 1) = sm (up1 R (ns - 1) m) (ns - 1) + up1 R (ns - 1) m (ns - 1) := rfl
        rw [show (ns - 1) + 1 = ns by omega, sm_up1, up1_s] at this
        exact this
      obtain ⟨ac', he⟩ := ends_ex (nI (1 + sm (up1 R (ns - 1) m) ns)) ac
      rw [if_pos (nI_lt c (by omega)), if_pos (nI_lt c (by omega)), L_removeStretch hw hP (by omega), Option.bind_some, L_appendStretch (n := ns - 1) (l := 1 + sm R (ns - 1)) rfl (by omega) rfl, Option.bind_some, M_last hw' hR', Option.bind_some, he]
      have hlast : nI (1 + sm R (ns - 1) + m) = nI (1 + sm (up1 R (ns - 1) m) ns) := by rw [hs, Nat.add_assoc]
      have hver : P.2.2.2.2.2.2 + 1 + 1 = nI (v + 2) := by
        rw [hv]
        show nI v + nI 1 + nI 1 = _
        rw [e_add, e_add]
      refine ⟨nI (1 + sm (up1 R (ns - 1) m) ns), (P.1, nI (ns - 1 + 1), upd P.2.2.1 (ns - 1) (nI m), nI (1 + sm R (ns - 1) + m), P.2.2.2.2.1, P.2.2.2.2.2.1, P.2.2.2.2.2.2 + 1 + 1), ac', _, ?_, rfl, he, w, ns, up1 R (ns - 1) m, k, D, v + 2, ⟨hw', ⟨hP.1, ?_, fun i hi => ?_, hlast, hP.2.2.2.2.1, hP.2.2.2.2.2⟩, hR', hS.bump hv hver (by omega) (by omega)⟩, hver, by omega, by omega⟩
      · show some (nI (1 + sm R (ns - 1) + m), _) = _
        rw [hlast]
      · show nI (ns - 1 + 1) = nI ns
        rw [show ns - 1 + 1 = ns by omega]
      · show upd P.2.2.1 (ns - 1) (nI m) i = nI (up1 R (ns - 1) m i)
        by_cases e : i = ns - 1
        · rw [e, pk_us, up1_s]
        · rw [pk_un e, up1_n e]; exact hP.2.2.1 i hi
    · obtain ⟨ac', he⟩ := ends_ex (-3) ac
      rw [if_neg (nI_nlt (by omega) (by omega)), if_neg (nI_nlt (by omega) (by omega)), if_pos (nI_pos' (by omega)), he]
      exact ⟨-3, P, ac', row, rfl, rfl, he, w, ns, R, k, D, v, ⟨hw, hP, hR, hS⟩, hv, Nat.le_refl _, by omega⟩
end
