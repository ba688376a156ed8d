/-! ===== THE LAW'S act: case by case ===== -/
section
variable {w ns k : Nat} {R D : Nat → Nat}
/-- x, done in any plan of the state, leaves the state behind -/
def ACX (x : Int32) (w ns : Nat) (R : Nat → Nat) (k : Nat) (D : Nat → Nat) (w' ns' : Nat) (R' : Nat → Nat) (k' : Nat) (D' : Nat → Nat) (rec : Bool) : Prop :=
  ∀ (P : PlanT) (S : SieveT) (ac : Nat → Int32) (bf : PlanT) (t : HistT) (c : Nat) (top : PlanT → Prop) (v : Nat), CY w ns R k D P S → P.2.2.2.2.2.2 = nI v → v + 100 < 2 ^ 31 → HI t c top → AT (FA v c top w ns R k D w' ns' R' k' D' rec) (F_L_act x ac bf t P S)
/-- there is such a state -/
def ACS (x : Int32) (w ns : Nat) (R : Nat → Nat) (k : Nat) (D : Nat → Nat) : Prop :=
  ∃ w' ns' R' k' D' rec, ACX x w ns R k D w' ns' R' k' D' rec ∧ WF w' ns' R' k' D' ∧ 1 + sm R' ns' ≤ 300 ∧ (rec = false → w' = w ∧ ns' = ns ∧ R' = R ∧ k' = k ∧ D' = D)
theorem ACS.stay {x : Int32} (hw : WF w ns R k D) (h300 : 1 + sm R ns ≤ 300) (h : ACX x w ns R k D w ns R k D false) : ACS x w ns R k D := ⟨w, ns, R, k, D, false, h, hw, h300, fun _ => ⟨rfl, rfl, rfl, rfl, rfl⟩⟩
theorem ACT_lay (x : Int32) (hq : mo x 15 < 2) (hw : WF w ns R k D) (h300 : 1 + sm R ns ≤ 300) : ACS x w ns R k D := by
  have hm := mo_lt (x >>> (4 &&& 31)) (m := 40) (by decide)
  have h12 := hw.2.1
  have em : (1 : Int32) + nI (mo (x >>> (4 &&& 31)) 40) = nI (1 + mo (x >>> (4 &&& 31)) 40) := e_add 1 _
  by_cases h260 : 1 + sm R ns ≤ 260
  · by_cases c12 : ns = 12
    · subst c12
      refine ACS.stay hw h300 (fun P S ac bf t c top v h hv hv2 hH => ?_)
      unfold F_L_act
      refine AT.b (V_most x (m := 15) (by decide) (by decide)) (AT.n ?_)
      obtain ⟨S1, e1, h1⟩ := V_size h (n := 3) (by omega)
      refine AT.b e1 (AT.q ?_)
      obtain ⟨S2, e2, h2⟩ := V_size h1 (n := 4) (by omega)
      refine AT.b e2 (AT.q ?_)
      refine AT.f (show ¬ 2 ≤ nI (mo x 15) from nI_ge (b := 2) hq (by decide)) (AT.b (V_most _ (m := 40) (by decide) (by decide)) (AT.n ?_))
      rw [em]
      obtain ⟨S3, e3, h3⟩ := V_size h2 (n := 2) (by omega)
      refine AT.b e3 (AT.q (AT.b (V_marksNext h3 (by omega) (by omega)) (AT.q (AT.t (show nI (1 + sm R 12) ≤ 260 from nI_le (b := 260) h260 (by decide)) ?_))))
      obtain ⟨S4, e4, h4⟩ := V_size h3 (n := 1) (by omega)
      refine AT.b e4 (AT.q (AT.t rfl ?_))
      obtain ⟨ac', bf', t', P', S', v', o1, o2, o3, o4, o5, o6⟩ := U_lay12 h4 hv hH (m := 1 + mo (x >>> (4 &&& 31)) 40) (by omega) (by omega) ac bf
      exact AT.b o1 (AT.q (AT.t rfl (AT.e ⟨rfl, o2, ⟨v', o3, o4, o5⟩, o6⟩)))
    · have hs : sm (up1 R ns (1 + mo (x >>> (4 &&& 31)) 40)) (ns + 1) = sm R ns + (1 + mo (x >>> (4 &&& 31)) 40) := by
        show sm (up1 R ns _) ns + up1 R ns _ ns = _
        rw [sm_up1, up1_s]
      refine ⟨w, ns + 1, up1 R ns (1 + mo (x >>> (4 &&& 31)) 40), k, D, true, fun P S ac bf t c top v h hv hv2 hH => ?_, hw.room (by omega) (by omega) (by omega), by omega, fun e => by cases e⟩
      unfold F_L_act
      refine AT.b (V_most x (m := 15) (by decide) (by decide)) (AT.n ?_)
      obtain ⟨S1, e1, h1⟩ := V_size h (n := 3) (by omega)
      refine AT.b e1 (AT.q ?_)
      obtain ⟨S2, e2, h2⟩ := V_size h1 (n := 4) (by omega)
      refine AT.b e2 (AT.q ?_)
      refine AT.f (show ¬ 2 ≤ nI (mo x 15) from nI_ge (b := 2) hq (by decide)) (AT.b (V_most _ (m := 40) (by decide) (by decide)) (AT.n ?_))
      rw [em]
      obtain ⟨S3, e3, h3⟩ := V_size h2 (n := 2) (by omega)
      refine AT.b e3 (AT.q (AT.b (V_marksNext h3 (by omega) (by omega)) (AT.q (AT.t (show nI (1 + sm R ns) ≤ 260 from nI_le (b := 260) h260 (by decide)) ?_))))
      obtain ⟨S4, e4, h4⟩ := V_size h3 (n := 1) (by omega)
      refine AT.b e4 (AT.q (AT.f ?_ ?_))
      · intro e
        rw [show (12 : Int32) = nI 12 from rfl, show zs w ns R k D 1 = ns from rfl, e_eq (by omega) (by decide)] at e
        exact c12 e
      obtain ⟨ac', bf', t', P', S', v', o1, o2, o3, o4, o5, o6⟩ := U_lay h4 hv hv2 hH (m := 1 + mo (x >>> (4 &&& 31)) 40) (by omega) (by omega) (by omega) ac bf
      refine AT.b o1 (AT.q (AT.t rfl ?_))
      obtain ⟨S5, e5, h5⟩ := V_size o2 (n := 2) (by omega)
      refine AT.b e5 (AT.q (AT.t ?_ ?_))
      · show nI (1 + sm (up1 R ns (1 + mo (x >>> (4 &&& 31)) 40)) (ns + 1)) = nI (1 + sm R ns) + nI (1 + mo (x >>> (4 &&& 31)) 40)
        rw [hs, e_add, Nat.add_assoc]
      obtain ⟨S6, e6, h6⟩ := V_size h5 (n := 4) (by omega)
      refine AT.b e6 (AT.q (AT.t ?_ (AT.e ⟨rfl, h6, ⟨v', o3, o4, o5⟩, o6⟩)))
      show nI (cn (mk w k D) 2 (sm (up1 R ns (1 + mo (x >>> (4 &&& 31)) 40)) (ns + 1))) = nI (cn (mk w k D) 2 (sm R ns)) + nI (cn (mk w k D) (2 + sm R ns) (1 + mo (x >>> (4 &&& 31)) 40))
      rw [hs, cn_add, e_add]
  · refine ACS.stay hw h300 (fun P S ac bf t c top v h hv hv2 hH => ?_)
    unfold F_L_act
    refine AT.b (V_most x (m := 15) (by decide) (by decide)) (AT.n ?_)
    obtain ⟨S1, e1, h1⟩ := V_size h (n := 3) (by omega)
    refine AT.b e1 (AT.q ?_)
    obtain ⟨S2, e2, h2⟩ := V_size h1 (n := 4) (by omega)
    refine AT.b e2 (AT.q ?_)
    refine AT.f (show ¬ 2 ≤ nI (mo x 15) from nI_ge (b := 2) hq (by decide)) (AT.b (V_most _ (m := 40) (by decide) (by decide)) (AT.n ?_))
    rw [em]
    obtain ⟨S3, e3, h3⟩ := V_size h2 (n := 2) (by omega)
    refine AT.b e3 (AT.q (AT.b (V_marksNext h3 (by omega) (by omega)) (AT.q (AT.f (show ¬ nI (1 + sm R ns) ≤ 260 from nI_ge (b := 1 + sm R ns) (a := 260) (by omega) (by omega)) ?_))))
    exact AT.e ⟨rfl, h3, ⟨v, hv, by omega, by omega⟩, hH⟩
theorem ACT_add (x : Int32) (hq : 2 ≤ mo x 15) (hq2 : mo x 15 < 6) (hw : WF w ns R k D) (h300 : 1 + sm R ns ≤ 300) : ACS x w ns R k D := by
  have h30 := hw.2.2.2.1
  have hle := cn_le (mk w k D) (sm R ns) 2
  -- which numbers are drawn from
  have go : ∀ b : Nat, 0 < b → b ≤ 119 → (∀ (P : PlanT) (S : SieveT) (ac : Nat → Int32) (bf : PlanT) (t : HistT) (Q : Bool × ((Nat → Int32) × PlanT × HistT × PlanT × SieveT) → Prop), CY w ns R k D P S → AT Q (J_L_act_160 x (nI k) (nI (cn (mk w k D) 2 (sm R ns))) 2 (x >>> (4 &&& 31)) (nI b) ac bf t P S) →
      AT Q (if nI (mo (x >>> (4 &&& 31) >>> (3 &&& 31)) 3) = 0 then J_L_act_160 x (nI k) (nI (cn (mk w k D) 2 (sm R ns))) 2 (x >>> (4 &&& 31)) 119 ac bf t P S else J_L_act_160 x (nI k) (nI (cn (mk w k D) 2 (sm R ns))) 2 (x >>> (4 &&& 31)) 14 ac bf t P S)) → ACS x w ns R k D := by
    intro b hb0 hb hsel
    have hd := mo_lt (x >>> (4 &&& 31)) hb0
    generalize hmo : mo (x >>> (4 &&& 31)) b = mm at hd
    have ed : (2 : Int32) + nI mm = nI (2 + mm) := e_add 2 _
    have htk : tk w ns R k D (2 + mm) ≤ sm R ns := cn_le _ _ _
    have pre2 : ∀ (P : PlanT) (S : SieveT) (ac : Nat → Int32) (bf : PlanT) (t : HistT) (Q : Bool × ((Nat → Int32) × PlanT × HistT × PlanT × SieveT) → Prop) (y : Int32), CY w ns R k D P S → (oI (pl k D (2 + mm)) < 0 ∧ y = 0 ∨ ¬ oI (pl k D (2 + mm)) < 0 ∧ y = 1) →
        (∀ S, CY w ns R k D P S → AT Q (J_L_act_188 x (nI k) (nI (cn (mk w k D) 2 (sm R ns))) (nI (2 + mm)) (nI (tk w ns R k D (2 + mm))) y ac bf t P S)) → AT Q (F_L_act x ac bf t P S) := by
      intro P S ac bf t Q y h hy hJ
      unfold F_L_act
      refine AT.b (V_most x (m := 15) (by decide) (by decide)) (AT.n ?_)
      obtain ⟨S1, e1, h1⟩ := V_size h (n := 3) (by omega)
      refine AT.b e1 (AT.q ?_)
      obtain ⟨S2, e2, h2⟩ := V_size h1 (n := 4) (by omega)
      refine AT.b e2 (AT.q ?_)
      refine AT.t (show 2 ≤ nI (mo x 15) from nI_le (a := 2) hq (by omega)) (AT.f (show ¬ 6 ≤ nI (mo x 15) from nI_ge (b := 6) hq2 (by decide)) (AT.b (V_most _ (m := 3) (by decide) (by decide)) (hsel P S2 ac bf t Q h2 ?_)))
      unfold J_L_act_160
      refine AT.b (V_most _ hb0 (by omega)) (AT.n ?_)
      rw [hmo, ed]
      obtain ⟨S3, e3, h3⟩ := V_takes h2 (d := 2 + mm) (by omega) (by omega)
      refine AT.b e3 (AT.q (AT.b (V_find h3 (by omega)) ?_))
      rcases hy with ⟨y1, rfl⟩ | ⟨y1, rfl⟩
      · exact AT.t y1 (hJ _ h3)
      · exact AT.f y1 (hJ _ h3)
    cases hp : pl k D (2 + mm) with
    | some j =>
      obtain ⟨hj, -⟩ := pl_D hp
      refine ACS.stay hw h300 (fun P S ac bf t c top v h hv hv2 hH => ?_)
      refine pre2 P S ac bf t _ 1 h (Or.inr ⟨by rw [hp]; exact nI_pos (by omega), rfl⟩) (fun S h => ?_)
      unfold J_L_act_188
      obtain ⟨ac', bf', t', P', S', v', o1, o2, o3, o4, o5, o6⟩ := U_add_is h hv hH (by omega) (by omega) hp ac bf
      exact AT.b o1 (AT.q (AT.f (by decide) (AT.t rfl (AT.t (by rw [tk_in hw hp]; rfl) (AT.e ⟨rfl, o2, ⟨v', o3, o4, o5⟩, o6⟩)))))
    | none =>
      by_cases k30 : k = 30
      · subst k30
        refine ACS.stay hw h300 (fun P S ac bf t c top v h hv hv2 hH => ?_)
        refine pre2 P S ac bf t _ 0 h (Or.inl ⟨by rw [hp]; exact (by decide : m1 < 0), rfl⟩) (fun S h => ?_)
        unfold J_L_act_188
        obtain ⟨ac', bf', t', P', S', v', o1, o2, o3, o4, o5, o6⟩ := U_add_30 h hv hH (by omega) (by omega) hp ac bf
        exact AT.b o1 (AT.q (AT.t rfl (AT.t rfl (AT.t rfl (AT.e ⟨rfl, o2, ⟨v', o3, o4, o5⟩, o6⟩)))))
      · have hk : k < 30 := by omega
        have hw' := hw.more hk (by omega) (by omega) hp
        refine ⟨w, ns, R, k + 1, up1 D k (2 + mm), true, fun P S ac bf t c top v h hv hv2 hH => ?_, hw', h300, fun e => by cases e⟩
        refine pre2 P S ac bf t _ 0 h (Or.inl ⟨by rw [hp]; exact (by decide : m1 < 0), rfl⟩) (fun S h => ?_)
        unfold J_L_act_188
        obtain ⟨ac', bf', t', P', S', v', o1, o2, o3, o4, o5, o6⟩ := U_add h hv hv2 hH (by omega) (by omega) hp hk ac bf
        refine AT.b o1 (AT.q (AT.t rfl (AT.f ?_ (AT.t rfl ?_))))
        · intro e
          rw [show (30 : Int32) = nI 30 from rfl, e_eq (by omega) (by decide)] at e
          exact k30 e
        have hma := marks_add (w := w) (k := k) (D := D) (R := R) (ns := ns) (2 + mm)
        obtain ⟨S5, e5, h5⟩ := V_size o2 (n := 4) (by omega)
        refine AT.b e5 (AT.q (AT.t ?_ (AT.b (V_find h5 (by omega)) (AT.t ?_ (AT.e ⟨rfl, h5, ⟨v', o3, o4, o5⟩, o6⟩)))))
        · show nI (cn (mk w (k + 1) (up1 D k (2 + mm))) 2 (sm R ns)) = nI (cn (mk w k D) 2 (sm R ns)) - nI (tk w ns R k D (2 + mm))
          rw [e_sub (by omega), hma, Nat.add_sub_cancel_left]
        · have := pl_at hw' (i := k) (by omega)
          rw [up1_s] at this
          rw [this]
          rfl
  by_cases c3 : mo (x >>> (4 &&& 31) >>> (3 &&& 31)) 3 = 0
  · exact go 119 (by decide) (by decide) (fun P S ac bf t Q h hA => AT.t (by rw [c3]; rfl) hA)
  · have := mo_lt (x >>> (4 &&& 31) >>> (3 &&& 31)) (m := 3) (by decide)
    exact go 14 (by decide) (by decide) (fun P S ac bf t Q h hA => AT.f (nI_ne0 (by omega) (by omega)) hA)
theorem ACT_lift (x : Int32) (hq : 6 ≤ mo x 15) (hq2 : mo x 15 < 8) (hw : WF w ns R k D) (h300 : 1 + sm R ns ≤ 300) : ACS x w ns R k D := by
  have h30 := hw.2.2.2.1
  have s1 : 2 ≤ nI (mo x 15) := nI_le (a := 2) (by omega) (by omega)
  have s2 : 6 ≤ nI (mo x 15) := nI_le (a := 6) (by omega) (by omega)
  have s3 : ¬ 8 ≤ nI (mo x 15) := nI_ge (b := 8) hq2 (by decide)
  by_cases k0 : k = 0
  · subst k0
    have hm := mo_lt (x >>> (4 &&& 31)) (m := 119) (by decide)
    have em : (2 : Int32) + nI (mo (x >>> (4 &&& 31)) 119) = nI (2 + mo (x >>> (4 &&& 31)) 119) := e_add 2 _
    refine ACS.stay hw h300 (fun P S ac bf t c top v h hv hv2 hH => ?_)
    unfold F_L_act
    refine AT.b (V_most x (m := 15) (by decide) (by decide)) (AT.n ?_)
    obtain ⟨S1, e1, h1⟩ := V_size h (n := 3) (by omega)
    refine AT.b e1 (AT.q ?_)
    obtain ⟨S2, e2, h2⟩ := V_size h1 (n := 4) (by omega)
    refine AT.b e2 (AT.q ?_)
    refine AT.t s1 (AT.t s2 (AT.f s3 (AT.t rfl (AT.b (V_most _ (m := 119) (by decide) (by decide)) ?_))))
    rw [em]
    obtain ⟨ac', bf', t', P', S', v', o1, o2, o3, o4, o5, o6⟩ := U_lift_no h2 hv hH (d := 2 + mo (x >>> (4 &&& 31)) 119) (by omega) (by omega) rfl ac bf
    exact AT.b o1 (AT.q (AT.t rfl (AT.e ⟨rfl, o2, ⟨v', o3, o4, o5⟩, o6⟩)))
  · have hi := mo_lt (x >>> (4 &&& 31)) (m := k) (by omega)
    have hd := hw.2.2.2.2.1 _ hi
    refine ⟨w, ns, R, k - 1, fun j => D (rm (mo (x >>> (4 &&& 31)) k) j), true, fun P S ac bf t c top v h hv hv2 hH => ?_, hw.less hi, h300, fun e => by cases e⟩
    unfold F_L_act
    refine AT.b (V_most x (m := 15) (by decide) (by decide)) (AT.n ?_)
    obtain ⟨S1, e1, h1⟩ := V_size h (n := 3) (by omega)
    refine AT.b e1 (AT.q ?_)
    obtain ⟨S2, e2, h2⟩ := V_size h1 (n := 4) (by omega)
    refine AT.b e2 (AT.q ?_)
    refine AT.t s1 (AT.t s2 (AT.f s3 (AT.f (nI_ne0 (n := k) (by omega) (by omega)) (AT.b (V_most _ (m := k) (by omega) (by omega)) ?_))))
    obtain ⟨S3, e3, h3⟩ := V_gives h2 hi
    refine AT.b e3 (AT.q (AT.b (V_striker h3 hi).1 (AT.q ?_)))
    obtain ⟨ac', bf', t', P', S', v', o1, o2, o3, o4, o5, o6⟩ := U_lift h3 hv hv2 hH hd.1 hd.2 (pl_at hw hi) ac bf
    refine AT.b o1 (AT.q (AT.t rfl ?_))
    obtain ⟨S5, e5, h5⟩ := V_size o2 (n := 4) (by omega)
    refine AT.b e5 (AT.q (AT.t ?_ ?_))
    · show nI (cn (mk w (k - 1) (fun j => D (rm (mo (x >>> (4 &&& 31)) k) j))) 2 (sm R ns)) = nI (cn (mk w k D) 2 (sm R ns)) + nI (cn (onl w k D (mo (x >>> (4 &&& 31)) k)) 2 (sm R ns))
      rw [e_add, marks_lift hi]
    obtain ⟨S6, e6, h6⟩ := V_takes h5 hd.1 hd.2
    exact AT.b e6 (AT.q (AT.t (by rw [tk_lift hi]) (AT.e ⟨rfl, h6, ⟨v', o3, o4, o5⟩, o6⟩)))
theorem ACT_first (x : Int32) (hq : 8 ≤ mo x 15) (hq2 : mo x 15 < 10) (hw : WF w ns R k D) (h300 : 1 + sm R ns ≤ 300) : ACS x w ns R k D := by
  have h30 := hw.2.2.2.1
  have s1 : 2 ≤ nI (mo x 15) := nI_le (a := 2) (by omega) (by omega)
  have s2 : 6 ≤ nI (mo x 15) := nI_le (a := 6) (by omega) (by omega)
  have s3 : 8 ≤ nI (mo x 15) := nI_le (a := 8) (by omega) (by omega)
  have s4 : ¬ 10 ≤ nI (mo x 15) := nI_ge (b := 10) hq2 (by decide)
  by_cases k0 : k = 0
  · subst k0
    refine ACS.stay hw h300 (fun P S ac bf t c top v h hv hv2 hH => ?_)
    unfold F_L_act
    refine AT.b (V_most x (m := 15) (by decide) (by decide)) (AT.n ?_)
    obtain ⟨S1, e1, h1⟩ := V_size h (n := 3) (by omega)
    refine AT.b e1 (AT.q ?_)
    obtain ⟨S2, e2, h2⟩ := V_size h1 (n := 4) (by omega)
    refine AT.b e2 (AT.q ?_)
    refine AT.t s1 (AT.t s2 (AT.t s3 (AT.f s4 (AT.t rfl ?_))))
    obtain ⟨ac', bf', t', P', S', v', o1, o2, o3, o4, o5, o6⟩ := U_first_no h2 hv hH (d := 7) (by omega) (by omega) rfl ac bf
    exact AT.b (show F_X10_first 7 ac bf t P S2 = _ from o1) (AT.q (AT.t rfl (AT.e ⟨rfl, o2, ⟨v', o3, o4, o5⟩, o6⟩)))
  · have hi := mo_lt (x >>> (4 &&& 31)) (m := k) (by omega)
    have hd := hw.2.2.2.2.1 _ hi
    have hw' : WF w ns R k (fun j => D (mf (mo (x >>> (4 &&& 31)) k) j)) := hw.perm (Nat.le_refl _) (fun j hj => mf_lt hi hj) (fun a b _ _ e => mf_inj e)
    refine ⟨w, ns, R, k, fun j => D (mf (mo (x >>> (4 &&& 31)) k) j), true, fun P S ac bf t c top v h hv hv2 hH => ?_, hw', h300, fun e => by cases e⟩
    unfold F_L_act
    refine AT.b (V_most x (m := 15) (by decide) (by decide)) (AT.n ?_)
    obtain ⟨S1, e1, h1⟩ := V_size h (n := 3) (by omega)
    refine AT.b e1 (AT.q ?_)
    obtain ⟨S2, e2, h2⟩ := V_size h1 (n := 4) (by omega)
    refine AT.b e2 (AT.q ?_)
    refine AT.t s1 (AT.t s2 (AT.t s3 (AT.f s4 (AT.f (nI_ne0 (n := k) (by omega) (by omega)) (AT.b (V_most _ (m := k) (by omega) (by omega)) ?_)))))
    refine AT.b (V_striker h2 hi).1 (AT.q ?_)
    obtain ⟨ac', bf', t', P', S', v', o1, o2, o3, o4, o5, o6⟩ := U_first h2 hv hv2 hH hd.1 hd.2 (pl_at hw hi) ac bf
    refine AT.b o1 (AT.q (AT.t rfl (AT.b (V_find o2 (by omega)) (AT.t ?_ ?_))))
    · have := pl_at hw' (i := 0) (by omega)
      rw [show mf (mo (x >>> (4 &&& 31)) k) 0 = mo (x >>> (4 &&& 31)) k from rfl] at this
      rw [this]
      rfl
    obtain ⟨S5, e5, h5⟩ := V_size o2 (n := 4) (by omega)
    refine AT.b e5 (AT.q (AT.t ?_ (AT.e ⟨rfl, h5, ⟨v', o3, o4, o5⟩, o6⟩)))
    show nI (cn (mk w k (fun j => D (mf (mo (x >>> (4 &&& 31)) k) j))) 2 (sm R ns)) = nI (cn (mk w k D) 2 (sm R ns))
    rw [mk_first hi]
theorem ACT_swap (x : Int32) (hq : mo x 15 = 10) (hw : WF w ns R k D) (h300 : 1 + sm R ns ≤ 300) : ACS x w ns R k D := by
  have h30 := hw.2.2.2.1
  have s1 : 2 ≤ nI (mo x 15) := nI_le (a := 2) (by omega) (by omega)
  have s2 : 6 ≤ nI (mo x 15) := nI_le (a := 6) (by omega) (by omega)
  have s3 : 8 ≤ nI (mo x 15) := nI_le (a := 8) (by omega) (by omega)
  have s4 : 10 ≤ nI (mo x 15) := nI_le (a := 10) (by omega) (by omega)
  have s5 : nI (mo x 15) = 10 := by rw [hq]; rfl
  by_cases k2 : 2 ≤ k
  · have hi := mo_lt (x >>> (4 &&& 31)) (m := k) (by omega)
    have hj := mo_lt (x >>> (4 &&& 31) >>> (2 &&& 31)) (m := k) (by omega)
    generalize hei : mo (x >>> (4 &&& 31)) k = i at hi
    generalize hej : mo (x >>> (4 &&& 31) >>> (2 &&& 31)) k = j at hj
    have hdi := hw.2.2.2.2.1 _ hi
    have hdj := hw.2.2.2.2.1 _ hj
    have hw' : WF w ns R k (fun x => D (sw i j x)) := hw.perm (Nat.le_refl _) (fun x hx => sw_lt hi hj hx) (fun a b _ _ e => sw_inj e)
    refine ⟨w, ns, R, k, fun x => D (sw i j x), true, fun P S ac bf t c top v h hv hv2 hH => ?_, hw', h300, fun e => by cases e⟩
    unfold F_L_act
    refine AT.b (V_most x (m := 15) (by decide) (by decide)) (AT.n ?_)
    obtain ⟨S1, e1, h1⟩ := V_size h (n := 3) (by omega)
    refine AT.b e1 (AT.q ?_)
    obtain ⟨S2, e2, h2⟩ := V_size h1 (n := 4) (by omega)
    refine AT.b e2 (AT.q ?_)
    refine AT.t s1 (AT.t s2 (AT.t s3 (AT.t s4 (AT.t s5 (AT.t (show 2 ≤ nI k from nI_le (a := 2) k2 (by omega)) (AT.b (V_most _ (m := k) (by omega) (by omega)) ?_))))))
    rw [hei]
    refine AT.b (V_striker h2 hi).1 (AT.q (AT.b (V_most _ (m := k) (by omega) (by omega)) ?_))
    rw [hej]
    refine AT.b (V_striker h2 hj).1 (AT.q (AT.b (V_find h2 (by omega)) (AT.b (V_find h2 (by omega)) ?_)))
    rw [pl_at hw hi, pl_at hw hj]
    obtain ⟨ac', bf', t', P', S', v', o1, o2, o3, o4, o5, o6⟩ := U_swap h2 hv hv2 hH hdi.1 hdi.2 hdj.1 hdj.2 (pl_at hw hi) (pl_at hw hj) ac bf
    have hch := cn_le (chg w k D (fun x => D (sw i j x))) (sm R ns) 2
    have hcl := chg_le (w := w) (k := k) (D := D) (D' := fun x => D (sw i j x)) (R := R) (ns := ns)
    refine AT.b o1 (AT.q (AT.f (nI_pos (by omega)) ?_))
    obtain ⟨S5, e5, h5⟩ := V_both o2 hi hj
    refine AT.b (show F_X10_both (nI i) (nI j) _ _ = _ from e5) (AT.q ?_)
    obtain ⟨S6, e6, h6⟩ := V_size h5 (n := 5) (by omega)
    have hbo := cn_le (bo w (fun x => D (sw i j x)) i j) (1 + sm R ns + 1 - 2) 2
    have hsp := cn_le (fun n => !off w n) (sm R ns) 2
    refine AT.b e6 (AT.q (AT.f ?_ ?_))
    · show ¬ nI (cn (bo w (fun x => D (sw i j x)) i j) 2 (1 + sm R ns + 1 - 2)) + nI (cn (fun n => !off w n) 2 (sm R ns)) < nI (cn (chg w k D (fun x => D (sw i j x))) 2 (sm R ns))
      rw [e_add]
      exact nI_nlt (by omega) (by omega)
    refine AT.b (V_find h6 (by omega)) (AT.t ?_ ?_)
    · have := pl_at hw' hj
      rw [show sw i j j = i by unfold sw; rw [if_pos rfl]] at this
      rw [this]
    obtain ⟨S7, e7, h7⟩ := V_size h6 (n := 4) (by omega)
    refine AT.b e7 (AT.q (AT.t ?_ ?_))
    · show nI (cn (mk w k (fun x => D (sw i j x))) 2 (sm R ns)) = nI (cn (mk w k D) 2 (sm R ns))
      rw [mk_swap hi hj]
    have fin : AT (FA v c top w ns R k D w ns R k (fun x => D (sw i j x)) true) (some (true, (ac', bf', t', P', S7))) := AT.e ⟨rfl, h7, ⟨v', o3, o4, o5⟩, o6⟩
    by_cases eij : i = j
    · subst eij
      refine AT.t rfl (AT.t ?_ fin)
      rw [sw_same, chg_same]
      rfl
    · refine AT.f ?_ fin
      intro e
      rw [show oI (some i) = nI i from rfl, show oI (some j) = nI j from rfl, e_eq (by omega) (by omega)] at e
      exact eij e
  · refine ACS.stay hw h300 (fun P S ac bf t c top v h hv hv2 hH => ?_)
    unfold F_L_act
    refine AT.b (V_most x (m := 15) (by decide) (by decide)) (AT.n ?_)
    obtain ⟨S1, e1, h1⟩ := V_size h (n := 3) (by omega)
    refine AT.b e1 (AT.q ?_)
    obtain ⟨S2, e2, h2⟩ := V_size h1 (n := 4) (by omega)
    refine AT.b e2 (AT.q ?_)
    refine AT.t s1 (AT.t s2 (AT.t s3 (AT.t s4 (AT.t s5 (AT.f (show ¬ 2 ≤ nI k from nI_ge (b := 2) (by omega) (by decide)) ?_)))))
    exact AT.e ⟨rfl, h2, ⟨v, hv, by omega, by omega⟩, hH⟩
theorem ACT_wheel (x : Int32) (hq : mo x 15 = 11) (hw : WF w ns R k D) (h300 : 1 + sm R ns ≤ 300) : ACS x w ns R k D := by
  have h30 := hw.2.2.2.1
  have s1 : 2 ≤ nI (mo x 15) := nI_le (a := 2) (by omega) (by omega)
  have s2 : 6 ≤ nI (mo x 15) := nI_le (a := 6) (by omega) (by omega)
  have s3 : 8 ≤ nI (mo x 15) := nI_le (a := 8) (by omega) (by omega)
  have s4 : 10 ≤ nI (mo x 15) := nI_le (a := 10) (by omega) (by omega)
  have s5 : ¬ nI (mo x 15) = 10 := by rw [hq]; decide
  have s6 : nI (mo x 15) = 11 := by rw [hq]; rfl
  have hm := mo_lt (x >>> (4 &&& 31)) (m := 5) (by decide)
  refine ⟨mo (x >>> (4 &&& 31)) 5, ns, R, k, D, true, fun P S ac bf t c top v h hv hv2 hH => ?_, hw.whl (by omega), h300, fun e => by cases e⟩
  unfold F_L_act
  refine AT.b (V_most x (m := 15) (by decide) (by decide)) (AT.n ?_)
  obtain ⟨S1, e1, h1⟩ := V_size h (n := 3) (by omega)
  refine AT.b e1 (AT.q ?_)
  obtain ⟨S2, e2, h2⟩ := V_size h1 (n := 4) (by omega)
  refine AT.b e2 (AT.q ?_)
  refine AT.t s1 (AT.t s2 (AT.t s3 (AT.t s4 (AT.f s5 (AT.t s6 ?_)))))
  obtain ⟨S3, e3, h3⟩ := V_size h2 (n := 0) (by omega)
  refine AT.b e3 (AT.q (AT.b (V_most _ (m := 5) (by decide) (by decide)) ?_))
  obtain ⟨ac', bf', t', P', S', v', o1, o2, o3, o4, o5, o6⟩ := U_wheel h3 hv hv2 hH (m := mo (x >>> (4 &&& 31)) 5) (by omega) ac bf
  refine AT.b o1 (AT.q (AT.t rfl ?_))
  obtain ⟨S5, e5, h5⟩ := V_size o2 (n := 0) (by omega)
  exact AT.b e5 (AT.q (AT.b (V_most _ (m := 5) (by decide) (by decide)) (AT.t rfl (AT.e ⟨rfl, h5, ⟨v', o3, o4, o5⟩, o6⟩))))
theorem ACT_fill (x : Int32) (hq : mo x 15 = 12) (hw : WF w ns R k D) (h300 : 1 + sm R ns ≤ 300) : ACS x w ns R k D := by
  have h30 := hw.2.2.2.1
  have s1 : 2 ≤ nI (mo x 15) := nI_le (a := 2) (by omega) (by omega)
  have s2 : 6 ≤ nI (mo x 15) := nI_le (a := 6) (by omega) (by omega)
  have s3 : 8 ≤ nI (mo x 15) := nI_le (a := 8) (by omega) (by omega)
  have s4 : 10 ≤ nI (mo x 15) := nI_le (a := 10) (by omega) (by omega)
  have s5 : ¬ nI (mo x 15) = 10 := by rw [hq]; decide
  have s6 : ¬ nI (mo x 15) = 11 := by rw [hq]; decide
  have s7 : nI (mo x 15) = 12 := by rw [hq]; rfl
  have hm := mo_lt (x >>> (4 &&& 31)) (m := 4) (by decide)
  have em : (1 : Int32) + nI (mo (x >>> (4 &&& 31)) 4) = nI (1 + mo (x >>> (4 &&& 31)) 4) := e_add 1 _
  obtain ⟨P0, S0, h0, hv0⟩ := CY.any hw
  obtain ⟨P1, q0, -, -, q1, hC, -⟩ := G_fill h0 hv0 (by decide) (m := 1 + mo (x >>> (4 &&& 31)) 4) (by omega) (fun _ => 0)
  refine ⟨w, ns, R, (fl w (1 + sm R ns) (1 + mo (x >>> (4 &&& 31)) 4) k D).1, (fl w (1 + sm R ns) (1 + mo (x >>> (4 &&& 31)) 4) k D).2, true, fun P S ac bf t c top v h hv hv2 hH => ?_, by rw [q1]; exact hC.1, h300, fun e => by cases e⟩
  unfold F_L_act
  refine AT.b (V_most x (m := 15) (by decide) (by decide)) (AT.n ?_)
  obtain ⟨S1, e1, h1⟩ := V_size h (n := 3) (by omega)
  refine AT.b e1 (AT.q ?_)
  obtain ⟨S2, e2, h2⟩ := V_size h1 (n := 4) (by omega)
  refine AT.b e2 (AT.q ?_)
  refine AT.t s1 (AT.t s2 (AT.t s3 (AT.t s4 (AT.f s5 (AT.f s6 (AT.t s7 ?_))))))
  obtain ⟨S3, e3, h3⟩ := V_size h2 (n := 8) (by omega)
  refine AT.b e3 (AT.q (AT.b (V_most _ (m := 4) (by decide) (by decide)) ?_))
  rw [em]
  obtain ⟨q, r1, r2, r3, ac', bf', t', P', S', v', o1, o2, o3, o4, o5, o6⟩ := U_fill h3 hv hv2 hH (m := 1 + mo (x >>> (4 &&& 31)) 4) (by omega) (by omega) ac bf
  refine AT.b o1 (AT.q (AT.f (nI_pos (by omega)) (AT.b (V_most _ (m := 4) (by decide) (by decide)) ?_)))
  refine AT.f (show ¬ (1 : Int32) + nI (mo (x >>> (4 &&& 31)) 4) < nI q by rw [em]; exact nI_nlt r1 (by omega)) ?_
  have fin : AT (FA v c top w ns R k D w ns R (fl w (1 + sm R ns) (1 + mo (x >>> (4 &&& 31)) 4) k D).1 (fl w (1 + sm R ns) (1 + mo (x >>> (4 &&& 31)) 4) k D).2 true) (J_L_act_692 x (nI k) (nI q) ac' bf' t' P' S') := by
    unfold J_L_act_692
    obtain ⟨S5, e5, h5⟩ := V_size o2 (n := 3) (by omega)
    refine AT.b e5 (AT.q (AT.t (show nI (k + q) = nI k + nI q from (e_add k q).symm) (AT.e ⟨rfl, ?_, ⟨v', o3, o4, o5⟩, o6⟩)))
    rw [r2]
    exact h5
  have hcm := cn_le (mz w k D (1 + sm R ns)) 98 2
  by_cases z : cn (mz w k D (1 + sm R ns)) 2 98 = 0
  · have z2 := z
    rw [cn_0, Option.isNone_iff_eq_none] at z2
    have := r3 z2
    subst this
    exact AT.f (show ¬ 0 < nI (cn (mz w k D (1 + sm R ns)) 2 98) by rw [z]; decide) (AT.t rfl fin)
  · exact AT.t (show 0 < nI (cn (mz w k D (1 + sm R ns)) 2 98) from nI_lt (a := 0) (by omega) (by omega)) fin
theorem ACT_tidy (x : Int32) (hq : mo x 15 = 13) (hw : WF w ns R k D) (h300 : 1 + sm R ns ≤ 300) : ACS x w ns R k D := by
  have h30 := hw.2.2.2.1
  have s1 : 2 ≤ nI (mo x 15) := nI_le (a := 2) (by omega) (by omega)
  have s2 : 6 ≤ nI (mo x 15) := nI_le (a := 6) (by omega) (by omega)
  have s3 : 8 ≤ nI (mo x 15) := nI_le (a := 8) (by omega) (by omega)
  have s4 : 10 ≤ nI (mo x 15) := nI_le (a := 10) (by omega) (by omega)
  have s5 : ¬ nI (mo x 15) = 10 := by rw [hq]; decide
  have s6 : ¬ nI (mo x 15) = 11 := by rw [hq]; decide
  have s7 : ¬ nI (mo x 15) = 12 := by rw [hq]; decide
  have s8 : nI (mo x 15) = 13 := by rw [hq]; rfl
  obtain ⟨P0, S0, h0, hv0⟩ := CY.any hw
  obtain ⟨kx, σ, P1, S1, -, a1, a2, hC, -⟩ := G_tidy h0 hv0 (by decide)
  refine ⟨w, ns, R, kx, fun j => D (σ j), true, fun P S ac bf t c top v h hv hv2 hH => ?_, hC.1, h300, fun e => by cases e⟩
  unfold F_L_act
  refine AT.b (V_most x (m := 15) (by decide) (by decide)) (AT.n ?_)
  obtain ⟨S1, e1, h1⟩ := V_size h (n := 3) (by omega)
  refine AT.b e1 (AT.q ?_)
  obtain ⟨S2, e2, h2⟩ := V_size h1 (n := 4) (by omega)
  refine AT.b e2 (AT.q ?_)
  refine AT.t s1 (AT.t s2 (AT.t s3 (AT.t s4 (AT.f s5 (AT.f s6 (AT.f s7 (AT.t s8 ?_)))))))
  obtain ⟨S3, e3, h3⟩ := V_size h2 (n := 9) (by omega)
  refine AT.b e3 (AT.q ?_)
  obtain ⟨ky, τ, l1, l2, q0, ac', bf', t', P', S', v', o1, o2, o3, o4, o5, o6⟩ := U_tidy h3 hv hv2 hH ac bf
  have u1 := a1.uniq l1 a2 l2
  have u2 := l1.uniq a1 l2 a2
  have ek : kx = ky := by
    rcases Nat.lt_trichotomy kx ky with c | c | c
    · have := (u2 kx c).1; omega
    · exact c
    · have := (u1 ky c).1; omega
  subst ek
  have o2' : CY w ns R kx (fun j => D (σ j)) P' S' := o2.cong (fun i hi => by rw [(u1 i hi).2])
  refine AT.b o1 (AT.q (AT.t (show nI (k - kx) = nI (cn (idl w k D (1 + sm R ns)) 0 k) by rw [q0]) ?_))
  obtain ⟨S5, e5, h5⟩ := V_size o2' (n := 9) (by omega)
  refine AT.b e5 (AT.q (AT.t (show nI (cn (idl w kx (fun j => D (σ j)) (1 + sm R ns)) 0 kx) = 0 by rw [idl_tidy a1 (by omega) a2]; rfl) ?_))
  obtain ⟨S6, e6, h6⟩ := V_size h5 (n := 4) (by omega)
  refine AT.b e6 (AT.q (AT.t (show nI (cn (mk w kx (fun j => D (σ j))) 2 (sm R ns)) = nI (cn (mk w k D) 2 (sm R ns)) by rw [cn_cong (fun n n1 n2 => mk_tidy a1 n1 (by omega))]) (AT.e ⟨rfl, h6, ⟨v', o3, o4, o5⟩, o6⟩)))
theorem ACT_drop (x : Int32) (hq : mo x 15 = 14) (hw : WF w ns R k D) (h300 : 1 + sm R ns ≤ 300) : ACS x w ns R k D := by
  have h12 := hw.2.1
  have s1 : 2 ≤ nI (mo x 15) := nI_le (a := 2) (by omega) (by omega)
  have s2 : 6 ≤ nI (mo x 15) := nI_le (a := 6) (by omega) (by omega)
  have s3 : 8 ≤ nI (mo x 15) := nI_le (a := 8) (by omega) (by omega)
  have s4 : 10 ≤ nI (mo x 15) := nI_le (a := 10) (by omega) (by omega)
  have s5 : ¬ nI (mo x 15) = 10 := by rw [hq]; decide
  have s6 : ¬ nI (mo x 15) = 11 := by rw [hq]; decide
  have s7 : ¬ nI (mo x 15) = 12 := by rw [hq]; decide
  have s8 : ¬ nI (mo x 15) = 13 := by rw [hq]; decide
  by_cases n2 : 2 ≤ ns
  · have hmono := sm_mono (R := R) (by omega : ns - 1 ≤ ns)
    have e1' : nI ns - 1 = nI (ns - 1) := e_sub (b := 1) (by omega)
    refine ⟨w, ns - 1, R, k, D, true, fun P S ac bf t c top v h hv hv2 hH => ?_, ⟨hw.1, by omega, fun i hi => hw.2.2.1 i (by omega), hw.2.2.2⟩, by omega, fun e => by cases e⟩
    unfold F_L_act
    refine AT.b (V_most x (m := 15) (by decide) (by decide)) (AT.n ?_)
    obtain ⟨S1, e1, h1⟩ := V_size h (n := 3) (by omega)
    refine AT.b e1 (AT.q ?_)
    obtain ⟨S2, e2, h2⟩ := V_size h1 (n := 4) (by omega)
    refine AT.b e2 (AT.q ?_)
    refine AT.t s1 (AT.t s2 (AT.t s3 (AT.t s4 (AT.f s5 (AT.f s6 (AT.f s7 (AT.f s8 ?_)))))))
    obtain ⟨S3, e3, h3⟩ := V_size h2 (n := 1) (by omega)
    refine AT.b e3 (AT.q (AT.t (show 2 ≤ nI ns from nI_le (a := 2) n2 (by omega)) ?_))
    have st := (V_stretch h3 (i := ns - 1) (by omega)).1
    refine AT.b (show F_X10_stretch (nI ns - 1) 0 P S3 = _ by rw [e1']; exact st) (AT.q ?_)
    obtain ⟨ac', bf', t', P', S', v', o1, o2, o3, o4, o5, o6⟩ := U_drop h3 hv hv2 hH (by omega) ac bf
    refine AT.b o1 (AT.q (AT.t (show nI (1 + sm R (ns - 1)) = nI (2 + sm R (ns - 1)) - 1 by rw [show nI (2 + sm R (ns - 1)) - 1 = nI (2 + sm R (ns - 1) - 1) from e_sub (b := 1) (by omega), show 2 + sm R (ns - 1) - 1 = 1 + sm R (ns - 1) by omega]) ?_))
    obtain ⟨S5, e5, h5⟩ := V_size o2 (n := 1) (by omega)
    exact AT.b e5 (AT.q (AT.t (show nI (ns - 1) = nI ns - 1 from e1'.symm) (AT.e ⟨rfl, h5, ⟨v', o3, o4, o5⟩, o6⟩)))
  · refine ACS.stay hw h300 (fun P S ac bf t c top v h hv hv2 hH => ?_)
    unfold F_L_act
    refine AT.b (V_most x (m := 15) (by decide) (by decide)) (AT.n ?_)
    obtain ⟨S1, e1, h1⟩ := V_size h (n := 3) (by omega)
    refine AT.b e1 (AT.q ?_)
    obtain ⟨S2, e2, h2⟩ := V_size h1 (n := 4) (by omega)
    refine AT.b e2 (AT.q ?_)
    refine AT.t s1 (AT.t s2 (AT.t s3 (AT.t s4 (AT.f s5 (AT.f s6 (AT.f s7 (AT.f s8 ?_)))))))
    obtain ⟨S3, e3, h3⟩ := V_size h2 (n := 1) (by omega)
    exact AT.b e3 (AT.q (AT.f (show ¬ 2 ≤ nI ns from nI_ge (b := 2) (by omega) (by decide)) (AT.e ⟨rfl, h3, ⟨v, hv, by omega, by omega⟩, hH⟩)))
theorem ACT (x : Int32) (hw : WF w ns R k D) (h300 : 1 + sm R ns ≤ 300) : ACS x w ns R k D := by
  have h15 := mo_lt x (m := 15) (by decide)
  by_cases a : mo x 15 < 2
  · exact ACT_lay x a hw h300
  by_cases b : mo x 15 < 6
  · exact ACT_add x (by omega) b hw h300
  by_cases c : mo x 15 < 8
  · exact ACT_lift x (by omega) c hw h300
  by_cases d : mo x 15 < 10
  · exact ACT_first x (by omega) d hw h300
  rcases (by omega : mo x 15 = 10 ∨ mo x 15 = 11 ∨ mo x 15 = 12 ∨ mo x 15 = 13 ∨ mo x 15 = 14) with e | e | e | e | e
  · exact ACT_swap x e hw h300
  · exact ACT_wheel x e hw h300
  · exact ACT_fill x e hw h300
  · exact ACT_tidy x e hw h300
  · exact ACT_drop x e hw h300
end
