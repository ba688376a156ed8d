/-! ===== PURE: actions: swap ===== -/
section
variable {w ns k : Nat} {R D : Nat → Nat} {P : PlanT} {row : Nat → Int32} {S : SieveT} {L : Nat}
theorem RX.sw (hw : WF w ns R k D) (hR : RX w ns R k D row) {i j : Nat} (hi : i < k) (hj : j < k) :
    RX w ns R k (fun x => D (sw i j x)) (upd (upd row (15 + i) (nI (D j))) (15 + j) (nI (D i))) := by
  have h12 := hw.2.1
  obtain ⟨r1, r2, r3, r4, r5⟩ := hR
  refine ⟨?_, ?_, fun x hx => ?_, ?_, fun x hx => ?_⟩
  · rw [pk_un (by omega), pk_un (by omega)]; exact r1
  · rw [pk_un (by omega), pk_un (by omega)]; exact r2
  · rw [pk_un (by omega), pk_un (by omega)]; exact r3 x hx
  · rw [pk_un (by omega), pk_un (by omega)]; exact r4
  · show _ = nI (D (if x = j then i else if x = i then j else x))
    by_cases c : x = j
    · rw [c, pk_us, if_pos rfl]
    · rw [pk_un (by omega), if_neg c]
      by_cases d : x = i
      · rw [d, pk_us, if_pos rfl]
      · rw [pk_un (by omega), if_neg d]
        exact r5 x hx
theorem M_swap (hw : WF w ns R k D) (hR : RX w ns R k D row) {i j : Nat} (hi : i < k) (hj : j < k) (kd0 : Nat → Int32) {o t ac ac' : Nat → Int32} (hS : RS w k D (1 + sm R ns) o t)
    (he : F_X11_ends (nI (cn (chg w k D (fun x => D (sw i j x))) 2 (max 2 (1 + sm R ns + 1) - 2))) ac = some (nI (cn (chg w k D (fun x => D (sw i j x))) 2 (max 2 (1 + sm R ns + 1) - 2)), ac')) :
    ∃ kd o' t', fx (fun _ _ _ _ _ _ _ _ _ => none) (B_X11_doSwap_38 (nI (D i)) (nI (D j))) FUEL (nI i) (nI j) 2 ac (nI (1 + sm R ns)) o kd0 row t =
      some (nI (cn (chg w k D (fun x => D (sw i j x))) 2 (max 2 (1 + sm R ns + 1) - 2)), (ac', nI (1 + sm R ns), o', kd, upd (upd row (15 + i) (nI (D j))) (15 + j) (nI (D i)), t')) := by
  have h30 := hw.2.2.2.1
  have hL := hw.last
  have hw' : WF w ns R k (fun x => D (sw i j x)) := hw.perm (Nat.le_refl _) (fun x hx => sw_lt hi hj hx) (fun a b _ _ e => sw_inj e)
  have hR' := hR.sw hw hi hj
  refine fx9E (Post := fun r => ∃ kd o' t', r = some (nI (cn (chg w k D (fun x => D (sw i j x))) 2 (max 2 (1 + sm R ns + 1) - 2)), (ac', nI (1 + sm R ns), o', kd, upd (upd row (15 + i) (nI (D j))) (15 + j) (nI (D i)), t')))
    (Q := fun x3 x4 x5 c1 e oo kk rr tt m => x3 = nI i ∧ x4 = nI j ∧ ac = c1 ∧ e = nI (1 + sm R ns) ∧ o = oo ∧ row = rr ∧ t = tt ∧ ∃ n, x5 = nI n ∧ 2 ≤ n ∧ n ≤ max 2 (1 + sm R ns + 1) ∧ m = max 2 (1 + sm R ns + 1) - n ∧ ∀ p, 2 ≤ p → p < n → kk p = od w k D p)
    ?_ FUEL _ _ _ _ _ _ _ _ _ (max 2 (1 + sm R ns + 1) - 2) ⟨rfl, rfl, rfl, rfl, rfl, rfl, rfl, 2, rfl, by omega, by omega, rfl, fun p h1 h2 => absurd h1 (by omega)⟩ (by unfold FUEL; omega)
  rintro K _ _ _ _ _ _ kd _ _ _ ih ⟨rfl, rfl, rfl, rfl, rfl, rfl, rfl, n, rfl, h1, h2, rfl, hk⟩
  unfold B_X11_doSwap_38
  by_cases q : 1 + sm R ns < n
  · have e2 : (15 : Int32) + nI i = nI (15 + i) := e_add 15 i
    have e3 : (15 : Int32) + nI j = nI (15 + j) := e_add 15 j
    rw [if_pos (nI_lt q (by omega)), e2, e3, ix_nI (by omega) (by decide), ix_nI (by omega) (by decide), nI_clamp (by omega), nI_clamp (by omega)]
    obtain ⟨o', t', hm, hRS⟩ := M_strike hw' hR' (nI (1 + sm R ns)) o t
    rw [hm, Option.bind_some]
    exact ⟨kd, o', t', M_swapLoop2 hw hL hw' hR' (fun n => fh_sw hi hj) hRS (fun p p1 p2 => hk p p1 (by omega)) _ _ he⟩
  · have e1 : nI n + 1 = nI (n + 1) := e_add n 1
    rw [if_neg (nI_nlt (by omega) (by omega)), ix_nI (by omega) (by decide), nI_clamp (by omega), ix_nI (by omega) (by decide), (hS n (by omega)).1, nm_e1, e1]
    have hn : ∀ z, z = od w k D n → ∃ kd' o' t', K (nI i) (nI j) (nI (n + 1)) ac (nI (1 + sm R ns)) o (upd kd n z) row t = some (nI (cn (chg w k D (fun x => D (sw i j x))) 2 (max 2 (1 + sm R ns + 1) - 2)), (ac', nI (1 + sm R ns), o', kd', upd (upd row (15 + i) (nI (D j))) (15 + j) (nI (D i)), t')) := by
      intro z hz
      refine ih _ _ _ _ _ _ _ _ _ (max 2 (1 + sm R ns + 1) - (n + 1)) (by omega) ⟨rfl, rfl, rfl, rfl, rfl, rfl, rfl, n + 1, rfl, by omega, by omega, rfl, fun p p1 p2 => ?_⟩
      by_cases c : p = n
      · rw [c, pk_us]; exact hz
      · rw [pk_un c]; exact hk p p1 (by omega)
    have eo : od w k D n = if off w n = true then m1 else (match fh k D n with
      | none => m1
      | some a => nI (D a)) := rfl
    unfold ow
    cases ho : off w n with
    | true =>
      rw [ho, if_pos rfl] at eo
      rw [if_pos rfl, if_pos (show m1 = -1 from rfl)]
      exact hn _ eo.symm
    | false =>
      rw [ho, if_neg Bool.false_ne_true] at eo
      rw [if_neg Bool.false_ne_true]
      cases hf : fh k D n with
      | none =>
        rw [hf] at eo
        rw [show oI none = m1 from rfl, if_pos (show m1 = -1 from rfl)]
        exact hn _ eo.symm
      | some a =>
        obtain ⟨-, ha, -⟩ := fi_some hf
        rw [hf] at eo
        have e2 : (15 : Int32) + nI a = nI (15 + a) := e_add 15 a
        rw [show oI (some a) = nI a from rfl, if_neg (show ¬ nI a = -1 from m1_ne (by omega)), e2, ix_nI (by omega) (by decide), nI_clamp (by omega), hR.2.2.2.2 a (by omega), nm_e1, ix_nI (by omega) (by decide), ix_nI (by omega) (by decide), nm_e1]
        exact hn (nI (D a)) eo.symm
theorem A_swap (h : CX w ns R k D P row S) {v : Nat} (hv : P.2.2.2.2.2.2 = nI v) (hv2 : v + 100 < 2 ^ 31) {a b : Nat} (ha : a ≤ 120) (hb : b ≤ 120) (ac : Nat → Int32) (e0 : Int32) (o t kd : Nat → Int32) :
    ∃ r P' S' ac' e' o' kd' row' t', F_X10_swapStrikers (nI a) (nI b) P S = some (r, (P', S')) ∧ F_X11_doSwap (nI a) (nI b) ac e0 o kd row t = some (r, (ac', e', o', kd', row', t')) ∧ F_X10_counted r ac = some (r, ac') ∧ AR P S v row' P' S' := by
  obtain ⟨hw, hP, hR, hS⟩ := h
  have h30 := hw.2.2.2.1
  have hL := hw.last
  unfold F_X10_swapStrikers F_X11_doSwap
  rw [L_placeOf hw hP (by omega), M_placeOf hw hR (by omega), L_placeOf hw hP (by omega), M_placeOf hw hR (by omega), Option.bind_some, Option.bind_some, Option.bind_some, Option.bind_some]
  obtain ⟨ac2, he2⟩ := ends_ex (-2) ac
  cases hp : pl k D a with
  | none =>
    dsimp only
    rw [if_pos (show m1 = -1 from rfl), if_pos (show m1 = -1 from rfl), he2]
    exact ⟨-2, P, S, ac2, e0, o, kd, row, t, rfl, rfl, he2, w, ns, R, k, D, v, ⟨hw, hP, hR, hS⟩, hv, Nat.le_refl _, by omega⟩
  | some i =>
    obtain ⟨-, hi, hdi, -⟩ := fi_some hp
    have hi : i < k := by omega
    have hdi : D i = a := by simpa using hdi
    dsimp only
    rw [if_neg (show ¬ nI i = -1 from m1_ne (by omega)), if_neg (show ¬ nI i = -1 from m1_ne (by omega))]
    cases hp2 : pl k D b with
    | none =>
      dsimp only
      rw [if_pos (show m1 = -1 from rfl), if_pos (show m1 = -1 from rfl), he2]
      exact ⟨-2, P, S, ac2, e0, o, kd, row, t, rfl, rfl, he2, w, ns, R, k, D, v, ⟨hw, hP, hR, hS⟩, hv, Nat.le_refl _, by omega⟩
    | some j =>
      obtain ⟨-, hj, hdj, -⟩ := fi_some hp2
      have hj : j < k := by omega
      have hdj : D j = b := by simpa using hdj
      dsimp only
      rw [if_neg (show ¬ nI j = -1 from m1_ne (by omega)), if_neg (show ¬ nI j = -1 from m1_ne (by omega))]
      obtain ⟨S', c1, c2, c3⟩ := L_current hw hP hS
      obtain ⟨o', t', hm, hRS⟩ := M_strike hw hR e0 o t
      have hw' : WF w ns R k (fun x => D (sw i j x)) := hw.perm (Nat.le_refl _) (fun x hx => sw_lt hi hj hx) (fun a b _ _ e => sw_inj e)
      have hver : P.2.2.2.2.2.2 + 1 = nI (v + 1) := by
        rw [hv]
        exact e_add v 1
      have hT : PX w ns R k (fun x => D (sw i j x)) (P.1, P.2.1, P.2.2.1, P.2.2.2.1, P.2.2.2.2.1, upd (upd P.2.2.2.2.2.1 i (nI (D j))) j (nI (D i)), P.2.2.2.2.2.2 + 1) := by
        refine ⟨hP.1, hP.2.1, hP.2.2.1, hP.2.2.2.1, hP.2.2.2.2.1, fun x hx => ?_⟩
        show upd (upd P.2.2.2.2.2.1 i (nI (D j))) j (nI (D i)) x = nI (D (if x = j then i else if x = i then j else x))
        by_cases c : x = j
        · rw [c, pk_us, if_pos rfl]
        · rw [pk_un c, if_neg c]
          by_cases d : x = i
          · rw [d, pk_us, if_pos rfl]
          · rw [pk_un d, if_neg d]
            exact hP.2.2.2.2.2 x hx
      obtain ⟨ac', he⟩ := ends_ex (nI (cn (chg w k D (fun x => D (sw i j x))) 2 (max 2 (1 + sm R ns + 1) - 2))) ac
      obtain ⟨kd', o2, t2, hm2⟩ := M_swap hw hR hi hj kd hRS he
      rw [hdi, hdj] at hm2
      have hlp := L_swapLoop hw hL c2 hw' hT (fun n => fh_sw hi hj) (nI a) (nI b)
      rw [c1, hm, Option.bind_some, Option.bind_some, L_exchange hw hP hi hj, Option.bind_some]
      refine ⟨nI (cn (chg w k D (fun x => D (sw i j x))) 2 (max 2 (1 + sm R ns + 1) - 2)), _, S', ac', nI (1 + sm R ns), o2, kd', upd (upd row (15 + i) (nI b)) (15 + j) (nI a), t2, hlp, hm2, he, w, ns, R, k, fun x => D (sw i j x), v + 1, ⟨hw', hT, ?_, c3.bump hv hver (by omega) (by omega)⟩, hver, by omega, by omega⟩
      have := hR.sw hw hi hj
      rw [hdi, hdj] at this
      exact this
end
