/-! ===== PURE: actions: fill ===== -/
section
variable {w ns k : Nat} {R D : Nat → Nat} {P : PlanT} {row : Nat → Int32} {S : SieveT} {L : Nat}
theorem ms_pl {d : Nat} (h : ms w k D d = true) : pl k D d = none := by
  unfold ms at h
  simp only [Bool.and_eq_true, Option.isNone_iff_eq_none] at h
  exact h.2.1
/-- what filling leaves -/
def FR (w ns : Nat) (R : Nat → Nat) (k0 : Nat) (D0 : Nat → Nat) (v : Nat) (P' : PlanT) (row' : Nat → Int32) : Prop :=
  ∃ k' D' c', WF w ns R k' D' ∧ PX w ns R k' D' P' ∧ RX w ns R k' D' row' ∧ P'.2.2.2.2.2.2 = nI (v + c') ∧ c' ≤ 30 ∧ (c' = 0 → k' = k0 ∧ D' = D0)
theorem fill_loop {T v k0 : Nat} {D0 : Nat → Nat} (hT2 : 2 ≤ T) (hT70 : T ≤ 70) (hT : 1 + sm R ns < T * T) (hi : ∀ i, i < T → i * i ≤ 1 + sm R ns) (hv2 : v + 100 < 2 ^ 31) {m : Nat} (hm : m ≤ 30) (ac : Nat → Int32) :
    ∀ n, ∀ c k D P row e o t, m - c < n → c ≤ m → WF w ns R k D → PX w ns R k D P → RX w ns R k D row → P.2.2.2.2.2.2 = nI (v + c) → (c = 0 → k = k0 ∧ D = D0) →
      ∃ r ac1 P' ac' e' o' row' t', fx (fun _ _ _ _ => none) (B_X10_fillUp_4 (nI m)) n (nI c) (nI c) ac P = some (r, (ac1, P')) ∧
        fx (fun _ _ _ _ _ _ _ => none) (B_X11_doFill_12 (nI m)) n (nI c) (oI (fi (ms w k D) 2 (T - 2))) (upd ac 4 (ac 4 + nI c)) e o row t = some (r, (ac', e', o', row', t')) ∧ F_X10_counted r ac1 = some (r, ac') ∧ FR w ns R k0 D0 v P' row' := by
  intro n
  induction n with
  | zero => intro c k D P row e o t h; exact absurd h (by omega)
  | succ n ih =>
    intro c k D P row e o t hn hc hw hP hR hv h0
    have h30 := hw.2.2.2.1
    have hL := hw.last
    rw [fx_s, fx_s]
    generalize hK1 : fx (fun _ _ _ _ => none) (B_X10_fillUp_4 (nI m)) n = K1 at ih ⊢
    generalize hK2 : fx (fun _ _ _ _ _ _ _ => none) (B_X11_doFill_12 (nI m)) n = K2 at ih ⊢
    unfold B_X10_fillUp_4 B_X11_doFill_12 F_X3_strikerCount F_X3_wheelNow
    rw [hP.2.2.2.2.1, hP.1, hR.2.2.2.1, Option.bind_some, Option.bind_some]
    obtain ⟨ac', he⟩ := ends_ex (nI c) (upd ac 4 (ac 4 + nI c))
    have fin : ∃ r ac1 P' ac' e' o' row' t', some (nI c, (upd ac 4 (ac 4 + nI c), P)) = some (r, (ac1, P')) ∧ ((F_X11_ends (nI c) (upd ac 4 (ac 4 + nI c))).bind fun w_6 => some (w_6.1, (w_6.2, e, o, row, t))) = some (r, (ac', e', o', row', t')) ∧ F_X10_counted r ac1 = some (r, ac') ∧ FR w ns R k0 D0 v P' row' := by
      rw [he]
      exact ⟨nI c, _, P, ac', e, o, row, t, rfl, rfl, he, k, D, c, hw, hP, hR, hv, by omega, h0⟩
    by_cases q : m ≤ c
    · rw [if_pos (nI_le q (by omega)), if_pos (nI_le q (by omega))]
      exact fin
    · rw [if_neg (nI_ge (by omega) (by omega)), if_neg (nI_ge (by omega) (by omega)), L_smallestMissing hw hP hT2 hT70 hT hi]
      cases hf : fi (ms w k D) 2 (T - 2) with
      | none =>
        rw [if_pos (show oI none = -1 from rfl)]
        by_cases z : k = 30
        · rw [if_pos (show 30 ≤ nI k from nI_le (a := 30) (by omega) (by omega))]
          exact fin
        · rw [if_neg (show ¬ 30 ≤ nI k from nI_ge (b := 30) (by omega) (by decide)), Option.bind_some, if_pos (show oI none = -1 from rfl)]
          exact fin
      | some d =>
        obtain ⟨d1, d2, d3, -⟩ := fi_some hf
        have nd : ¬ oI (some d) = -1 := m1_ne (k := d) (by omega)
        rw [if_neg nd]
        by_cases z : k = 30
        · rw [if_pos (show 30 ≤ nI k from nI_le (a := 30) (by omega) (by omega)), if_pos (show 30 ≤ nI k from nI_le (a := 30) (by omega) (by omega))]
          exact fin
        · have hk : k < 30 := by omega
          have hw' := hw.more hk d1 (by omega : d ≤ 120) (ms_pl d3)
          have hR' := hR.more (d := d) hw.2.1
          obtain ⟨o', t', hm', hRS⟩ := M_strike hw' hR' e o t
          rw [if_neg (show ¬ 30 ≤ nI k from nI_ge (b := 30) hk (by decide)), if_neg (show ¬ 30 ≤ nI k from nI_ge (b := 30) hk (by decide)), Option.bind_some, if_neg nd, show oI (some d) = nI d from rfl, L_appendStriker hP hk, M_newStriker hR hk, Option.bind_some, Option.bind_some, nm_e1, nm_e1, nm_e1, nm_e1, hm', Option.bind_some]
          have ec : nI c + 1 = nI (c + 1) := e_add c 1
          have ea : upd (upd ac 4 (ac 4 + nI c)) 4 (upd ac 4 (ac 4 + nI c) 4 + 1) = upd ac 4 (ac 4 + nI (c + 1)) := by
            funext x
            by_cases y : x = 4
            · rw [y, pk_us, pk_us, pk_us, Int32.add_assoc]
              congr 1
            · rw [pk_un y, pk_un y, pk_un y]
          dsimp only
          rw [show (2 : Int32) = nI 2 from rfl]
          rw [M_missingFrom hw' hR' hL hRS hT70 hT hi (Nat.le_refl _) hT2, Option.bind_some, ec, ea]
          have hver : P.2.2.2.2.2.2 + 1 = nI (v + (c + 1)) := by
            rw [hv]
            exact e_add (v + c) 1
          exact ih (c + 1) (k + 1) (up1 D k d) _ _ _ _ _ (by omega) (by omega) hw' (hP.more _) hR' hver (fun h => absurd h (by omega))
theorem A_fill (h : CX w ns R k D P row S) {v : Nat} (hv : P.2.2.2.2.2.2 = nI v) (hv2 : v + 100 < 2 ^ 31) {m : Nat} (hm : m ≤ 30) (ac : Nat → Int32) (e0 : Int32) (o t : Nat → Int32) :
    ∃ r ac1 P' ac' e' o' row' t', F_X10_fillUp (nI m) ac P = some (r, (ac1, P')) ∧ F_X11_doFill (nI m) ac e0 o row t = some (r, (ac', e', o', row', t')) ∧ F_X10_counted r ac1 = some (r, ac') ∧ AR P S v row' P' S := by
  obtain ⟨hw, hP, hR, hS⟩ := h
  have hL := hw.last
  obtain ⟨T, T2, T70, hT, hi⟩ := sq_top (1 + sm R ns) (by omega) hL
  obtain ⟨o', t', hm', hRS⟩ := M_strike hw hR e0 o t
  obtain ⟨r, ac1, P', ac', e', o2, row', t2, f1, f2, f3, k', D', c', g1, g2, g3, g4, g5, g6⟩ := fill_loop (k0 := k) (D0 := D) T2 T70 hT hi hv2 hm ac FUEL 0 k D P row (nI (1 + sm R ns)) o' t' (by unfold FUEL; omega) (Nat.zero_le _) hw hP hR hv (fun _ => ⟨rfl, rfl⟩)
  have ea : upd ac 4 (ac 4 + nI 0) = ac := by
    funext x
    by_cases y : x = 4
    · rw [y, pk_us]
      exact Int32.add_zero _
    · rw [pk_un y]
  rw [ea] at f2
  refine ⟨r, ac1, P', ac', e', o2, row', t2, f1, ?_, f3, w, ns, R, k', D', v + c', ⟨g1, g2, g3, ?_⟩, g4, by omega, by omega⟩
  · unfold F_X11_doFill
    rw [hm', Option.bind_some]
    show (F_X11_missingFrom (nI 2) (nI (1 + sm R ns)) row t').bind _ = _
    rw [M_missingFrom hw hR hL hRS T70 hT hi (Nat.le_refl _) T2, Option.bind_some]
    exact f2
  · by_cases z : c' = 0
    · obtain ⟨rfl, rfl⟩ := g6 z
      have ev : P'.2.2.2.2.2.2 = P.2.2.2.2.2.2 := by rw [g4, hv, z]; rfl
      unfold SOK at hS ⊢
      rw [ev]
      exact hS
    · exact hS.bump hv g4 (by omega) (by omega)
end
