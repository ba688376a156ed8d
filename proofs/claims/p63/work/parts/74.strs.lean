/-! ===== THE LAW'S areStretches ===== -/
theorem wa_mk {p : Nat → Bool} : ∀ {f b : Nat} {a : Option Nat} {pr i : Nat}, p pr = true → (a = none ∨ ∃ v, a = some v ∧ p v = true) → ((wa p f b a pr i).1 = none ∨ ∃ v, (wa p f b a pr i).1 = some v ∧ p v = true)
  | 0, _, _, _, _, _, h => h
  | f + 1, b, a, pr, i, hp, h => by
    unfold wa
    by_cases e : p i = true
    · rw [if_pos e]
      by_cases c : i - pr ≤ b
      · rw [if_pos c]
        exact wa_mk e h
      · rw [if_neg c]
        exact wa_mk e (Or.inr ⟨pr, rfl, hp⟩)
    · rw [if_neg e]
      exact wa_mk hp h
section
variable {w ns k : Nat} {R D : Nat → Nat} {P : PlanT} {S : SieveT} {L : Nat}
theorem sm_marks : ∀ n, cn (mk w k D) 2 (sm R (n + 1)) = cn (mk w k D) 2 (sm R n) + cn (mk w k D) (2 + sm R n) (R n) := fun n => by
  rw [show sm R (n + 1) = sm R n + R n from rfl, cn_add]
theorem W_189 (h : CY w ns R k D P S) (h398 : 1 + sm R ns ≤ 398) : OKS w ns R k D P (J_L_areStretches_189 P (nI (cn (mk w k D) 2 (sm R ns))) S) := by
  unfold J_L_areStretches_189
  have hle := cn_le (mk w k D) (sm R ns) 2
  obtain ⟨v, S1, e1, l1, h1⟩ := V_longest h
  refine OKS.b e1 (OKS.f (nI_nlt l1 (by omega)) ?_)
  obtain ⟨v2, S2, e2, l2, h2⟩ := V_thickest h1 h398
  refine OKS.b e2 (OKS.q (OKS.f (nI_nlt l2 (by omega)) (OKS.e h2)))
theorem W_142 (h : CY w ns R k D P S) (h398 : 1 + sm R ns ≤ 398) : OKS w ns R k D P (J_L_areStretches_142 P (nI (cn (mk w k D) 2 (sm R ns))) (nI (1 + sm R ns)) S) := by
  unfold J_L_areStretches_142
  have hle := cn_le (mk w k D) (sm R ns) 2
  obtain ⟨v, S1, e1, h1, hv⟩ := V_best h
  refine OKS.b e1 ?_
  obtain ⟨S2, e2, h2⟩ := V_size h1 (n := 2) (by omega)
  refine OKS.b e2 (OKS.q (OKS.t rfl ?_))
  obtain ⟨S3, e3, h3⟩ := V_size h2 (n := 4) (by omega)
  refine OKS.b e3 (OKS.q (OKS.t rfl ?_))
  rcases hv with rfl | ⟨d, rfl, d1, d2, d3⟩
  · exact OKS.t (show m1 < 0 by decide) (W_189 h3 h398)
  · refine OKS.f (show ¬ nI d < 0 from nI_pos (by omega)) ?_
    obtain ⟨S4, e4, h4⟩ := V_takes h3 d1 d2
    have htk : tk w ns R k D d ≤ sm R ns := cn_le _ _ _
    refine OKS.b e4 (OKS.q (OKS.f (show ¬ nI (tk w ns R k D d) ≤ 0 from nI_nle (by omega) (by omega)) (OKS.b (V_find h4 (by omega)) ?_)))
    rw [tk_pos d3]
    exact OKS.f (show ¬ 0 ≤ m1 by decide) (W_189 h4 h398)
theorem W_widest (h : CY w ns R k D P S) (h398 : 1 + sm R ns ≤ 398) :
    OKS w ns R k D P ((F_X10_widest P S).bind (fun w_6 => (if w_6.1 ≤ 0 then J_L_areStretches_142 P (nI (cn (mk w k D) 2 (sm R ns))) (nI (1 + sm R ns)) w_6.2 else (F_X10_widestAt P w_6.2).bind (fun w_38 => (F_X10_next w_38.1 false P w_38.2).bind (fun w_40 => (F_X10_widestAt P w_40.2).bind (fun w_42 => (if w_40.1 = (w_42.1 + w_6.1) then (F_X10_gaps w_6.1 P w_42.2).bind (fun w_45 => qs w_45.1 (fun r_47 => (if 1 ≤ r_47 then J_L_areStretches_142 P (nI (cn (mk w k D) 2 (sm R ns))) (nI (1 + sm R ns)) w_45.2 else some (false, w_45.2)))) else some (false, w_42.2)))))))) := by
  obtain ⟨S1, e1, h1⟩ := V_widest h
  refine OKS.b e1 ?_
  have hmk := wa_mk (p := mk w k D) (f := 1 + sm R ns + 1 - 3) (b := 0) (a := none) (pr := 2) (i := 3) (mk_two h.1) (Or.inl rfl)
  have two : ∀ S, CY w ns R k D P S → ∃ S', F_X10_widestAt P S = some (oI (wa (mk w k D) (1 + sm R ns + 1 - 3) 0 none 2 3).1, S') ∧ CY w ns R k D P S' := fun S h => V_widestAt h
  have inv : 3 ≤ 1 + sm R ns + 1 → _ := fun hl => wa_inv (L := 1 + sm R ns) (p := mk w k D) (f := 1 + sm R ns + 1 - 3) (b := 0) (a := none) (pr := 2) (i := 3) (by omega) (by omega) (by omega) (fun j j1 j2 => absurd j1 (by omega)) (Or.inl ⟨rfl, rfl⟩)
  by_cases l3 : 3 ≤ 1 + sm R ns + 1
  · have inv := inv l3
    generalize wa (mk w k D) (1 + sm R ns + 1 - 3) 0 none 2 3 = z at inv hmk two ⊢
    rcases inv with ⟨z1, z2⟩ | ⟨v, z1, z2, z3, z4, z5⟩
    · rw [z2]
      exact OKS.t (show nI 0 ≤ 0 by decide) (W_142 h1 h398)
    · refine OKS.f (show ¬ nI z.2 ≤ 0 from nI_nle (by omega) (by omega)) ?_
      have mv : mk w k D v = true := by
        rcases hmk with y | ⟨v', y1, y2⟩
        · rw [z1] at y; cases y
        · rw [z1] at y1; cases y1; exact y2
      rw [z1] at two
      obtain ⟨S2, e2, h2⟩ := two S1 h1
      refine OKS.b e2 ?_
      obtain ⟨S3, e3, h3⟩ := V_nextUp h2 (a := v) (by omega) (by omega)
      rw [z5] at e3
      refine OKS.b (show F_X10_next (nI v) false P S2 = _ from e3) ?_
      obtain ⟨S4, e4, h4⟩ := two S3 h3
      refine OKS.b e4 (OKS.t (show nI (v + z.2) = nI v + nI z.2 from (e_add v z.2).symm) ?_)
      obtain ⟨S5, e5, h5⟩ := V_gaps h4 (g := z.2) z4 (by omega)
      refine OKS.b e5 (OKS.q ?_)
      have hpos : 0 < cn (gp w k D z.2) 2 (max 2 (1 + sm R ns + 1 - z.2) - 2) := cn_pos.mpr ⟨v, z2, by omega, by
        obtain ⟨y1, y2, y3, y4⟩ := fi_some z5
        unfold gp
        rw [mv, y3, fi_none.mpr (fun i i1 i2 => y4 i i1 (by omega))]
        rfl⟩
      have hle := cn_le (gp w k D z.2) (max 2 (1 + sm R ns + 1 - z.2) - 2) 2
      exact OKS.t (show nI 1 ≤ nI _ from nI_le hpos (by omega)) (W_142 h5 h398)
  · rw [show 1 + sm R ns + 1 - 3 = 0 by omega]
    exact OKS.t (show nI 0 ≤ 0 by decide) (W_142 h1 h398)
theorem W_6 (h398 : 1 + sm R ns ≤ 398) : ∀ m i, ns - i = m → i ≤ ns → ∀ f, m < f → ∀ S, CY w ns R k D P S →
    OKS w ns R k D P (fx (fun _ _ _ _ => none) (B_L_areStretches_6 P) f (nI (cn (mk w k D) 2 (sm R i))) (nI (1 + sm R i)) (nI i) S) := by
  intro m
  induction m with
  | zero =>
    intro i hm hi f hf S h
    obtain ⟨f, rfl⟩ : ∃ q, f = q + 1 := ⟨f - 1, by omega⟩
    have h12 := h.1.2.1
    have ei : i = ns := by omega
    subst ei
    rw [fx_s]
    unfold B_L_areStretches_6
    obtain ⟨S1, e1, h1⟩ := V_size h (n := 1) (by omega)
    refine OKS.b e1 (OKS.q (OKS.t (show nI i ≤ nI i from nI_le (Nat.le_refl _) (by omega)) ?_))
    exact W_widest h1 h398
  | succ m ih =>
    intro i hm hi f hf S h
    obtain ⟨f, rfl⟩ : ∃ q, f = q + 1 := ⟨f - 1, by omega⟩
    have h12 := h.1.2.1
    have hR := h.1.2.2.1 i (by omega)
    have hu : sm R (i + 1) = sm R i + R i := rfl
    have hu2 := sm_mono (R := R) (by omega : i + 1 ≤ ns)
    have hcl := cn_le (mk w k D) (R i) (2 + sm R i)
    have hcl2 := cn_le (mk w k D) (sm R i) 2
    rw [fx_s]
    generalize hK : fx (fun _ _ _ _ => none) (B_L_areStretches_6 P) f = K
    have go : ∀ S, CY w ns R k D P S → OKS w ns R k D P (K (nI (cn (mk w k D) 2 (sm R i) + cn (mk w k D) (2 + sm R i) (R i))) (nI (1 + sm R (i + 1))) (nI (i + 1)) S) := fun S h => by
      have := ih (i + 1) (by omega) (by omega) f (by omega) S h
      rw [hK, sm_marks] at this
      exact this
    unfold B_L_areStretches_6
    obtain ⟨S1, e1, h1⟩ := V_size h (n := 1) (by omega)
    refine OKS.b e1 (OKS.q (OKS.f (show ¬ nI ns ≤ nI i from nI_ge (by omega) (by omega)) ?_))
    have v0 : ∀ S, CY w ns R k D P S → F_X10_stretch (nI i) 0 P S = some (.inr (nI (2 + sm R i)), S) := fun S h => (V_stretch h (i := i) (by omega)).1
    refine OKS.b (v0 _ h1) (OKS.q (OKS.t (show nI (2 + sm R i) = nI (1 + sm R i) + 1 by rw [show nI (1 + sm R i) + 1 = nI (1 + sm R i + 1) from e_add _ 1, show 1 + sm R i + 1 = 2 + sm R i by omega]) ?_))
    refine OKS.b (V_stretch h1 (i := i) (by omega)).2.1 (OKS.q ?_)
    obtain ⟨S2, e2, h2⟩ := (V_stretch h1 (i := i) (by omega)).2.2.1
    refine OKS.b e2 (OKS.q (OKS.n (OKS.b (v0 _ h2) (OKS.q ?_))))
    obtain ⟨S3, e3, h3⟩ := V_between h2 (a := 2 + sm R i) (b := 1 + sm R (i + 1)) (by omega) (by omega) (by omega)
    rw [show 1 + sm R (i + 1) + 1 - (2 + sm R i) = R i by omega] at e3
    refine OKS.b e3 ?_
    obtain ⟨S4, e4, h4⟩ := (V_stretch h3 (i := i) (by omega)).2.2.1
    refine OKS.b e4 (OKS.q (OKS.t rfl ?_))
    obtain ⟨S5, e5, h5⟩ := (V_stretch h4 (i := i) (by omega)).2.2.2
    refine OKS.b e5 (OKS.q ?_)
    rw [show nI (cn (mk w k D) 2 (sm R i)) + nI (cn (mk w k D) (2 + sm R i) (R i)) = nI (cn (mk w k D) 2 (sm R i) + cn (mk w k D) (2 + sm R i) (R i)) from e_add _ _]
    obtain ⟨S6, e6, h6⟩ := (V_stretch h5 (i := i) (by omega)).2.2.1
    have e7 : nI i + 1 = nI (i + 1) := e_add i 1
    cases hf : fi (mk w k D) (2 + sm R i) (R i) with
    | none =>
      refine OKS.f (show ¬ 0 ≤ m1 by decide) ?_
      unfold J_L_areStretches_79
      refine OKS.b e6 (OKS.q (OKS.t (by rw [cn_zero (fi_none.mp hf)]; rfl) ?_))
      unfold J_L_areStretches_93
      refine OKS.t rfl (OKS.n ?_)
      rw [e7]
      exact go _ h6
    | some v =>
      obtain ⟨v1, v2, v3, -⟩ := fi_some hf
      have hp : 0 < cn (mk w k D) (2 + sm R i) (R i) := cn_pos.mpr ⟨v, v1, v2, v3⟩
      refine OKS.t (show 0 ≤ nI v from nI_le (a := 0) (Nat.zero_le _) (by omega)) ?_
      unfold J_L_areStretches_79
      refine OKS.b e6 (OKS.q (OKS.f (nI_ne0 hp (by omega)) ?_))
      unfold J_L_areStretches_93
      refine OKS.t rfl (OKS.n ?_)
      rw [e7]
      exact go _ h6
theorem W_areStretches (h : CY w ns R k D P S) (h398 : 1 + sm R ns ≤ 398) : OKS w ns R k D P (F_L_areStretches P S) := by
  unfold F_L_areStretches
  have h12 := h.1.2.1
  exact W_6 h398 ns 0 (by omega) (Nat.zero_le _) FUEL (by unfold FUEL; omega) S h
end
