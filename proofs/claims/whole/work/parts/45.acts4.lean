/-! ===== PURE: actions: lift ===== -/
section
variable {w ns k : Nat} {R D : Nat → Nat} {P : PlanT} {row : Nat → Int32} {S : SieveT} {L : Nat}
/-- without i -/
def rm (i j : Nat) : Nat := if j < i then j else j + 1
theorem rm_lt {i j : Nat} (hi : i < k) (hj : j < k - 1) : rm i j < k := by
  unfold rm
  split <;> omega
theorem rm_inj {i a b : Nat} (h : rm i a = rm i b) : a = b := by
  unfold rm at h
  split at h
  · split at h <;> omega
  · split at h <;> omega
theorem WF.less (hw : WF w ns R k D) {i : Nat} (hi : i < k) : WF w ns R (k - 1) (fun j => D (rm i j)) :=
  hw.perm (by omega) (fun j hj => rm_lt hi hj) (fun a b _ _ e => rm_inj e)
theorem L_removeStriker (hw : WF w ns R k D) (hP : PX w ns R k D P) {i : Nat} (hi : i < k) :
    ∃ T, F_X3_removeStriker (nI i) P = some T ∧ PX w ns R (k - 1) (fun j => D (rm i j)) T ∧ T.2.2.2.2.2.2 = P.2.2.2.2.2.2 + 1 := by
  have h30 := hw.2.2.2.1
  unfold F_X3_removeStriker
  rw [hP.2.2.2.2.1, if_neg (nI_pos (by omega)), if_pos (nI_lt hi (by omega))]
  refine fx2E (Post := fun r => ∃ T, r = some T ∧ PX w ns R (k - 1) (fun j => D (rm i j)) T ∧ T.2.2.2.2.2.2 = P.2.2.2.2.2.2 + 1)
    (Q := fun a T m => ∃ x, a = nI x ∧ i ≤ x ∧ x < k ∧ m = k - x ∧ PX w ns R k (fun j => D (if i ≤ j ∧ j < x then j + 1 else j)) T ∧ T.2.2.2.2.2.2 = P.2.2.2.2.2.2)
    ?_ FUEL _ _ (k - i) ⟨i, rfl, Nat.le_refl _, hi, rfl, ?_, rfl⟩ (by unfold FUEL; omega)
  · rintro K _ T _ ih ⟨x, rfl, hx, hxk, rfl, hT, hv⟩
    unfold B_X3_removeStriker_15
    have e1 : nI x + 1 = nI (x + 1) := e_add x 1
    rw [e1, hT.2.2.2.2.1]
    by_cases z : k ≤ x + 1
    · rw [if_pos (nI_le z (by omega)), nm_e1, nm_e1, show nI k - 1 = nI (k - 1) from e_sub (b := 1) (by omega)]
      refine ⟨_, rfl, ⟨hT.1, hT.2.1, hT.2.2.1, hT.2.2.2.1, rfl, fun j hj => ?_⟩, ?_⟩
      · show T.2.2.2.2.2.1 j = nI (D (rm i j))
        rw [hT.2.2.2.2.2 j (by omega)]
        show nI (D (if i ≤ j ∧ j < x then j + 1 else j)) = nI (D (if j < i then j else j + 1))
        by_cases c : j < i
        · rw [if_neg (by omega), if_pos c]
        · rw [if_pos ⟨by omega, by omega⟩, if_neg c]
      · show T.2.2.2.2.2.2 + 1 = _
        rw [hv]
    · rw [if_neg (nI_ge (by omega) (by omega)), if_neg (show ¬ 30 ≤ nI (x + 1) from nI_ge (b := 30) (by omega) (by decide)), ix_nI (by omega) (by decide), nm_e1, ix_nI (by omega) (by decide), nm_e1, nI_clamp (by omega), nI_clamp (by omega), hT.2.2.2.2.2 (x + 1) (by omega)]
      refine ih _ _ (k - (x + 1)) (by omega) ⟨x + 1, rfl, by omega, by omega, rfl, ⟨hT.1, hT.2.1, hT.2.2.1, hT.2.2.2.1, rfl, fun j hj => ?_⟩, hv⟩
      show upd T.2.2.2.2.2.1 x (nI (D (if i ≤ x + 1 ∧ x + 1 < x then x + 1 + 1 else x + 1))) j = nI (D (if i ≤ j ∧ j < x + 1 then j + 1 else j))
      by_cases c : j = x
      · rw [c, pk_us, if_neg (by omega), if_pos ⟨hx, by omega⟩]
      · rw [pk_un c, hT.2.2.2.2.2 j hj]
        show nI (D (if i ≤ j ∧ j < x then j + 1 else j)) = _
        by_cases d : i ≤ j ∧ j < x
        · rw [if_pos d, if_pos ⟨d.1, by omega⟩]
        · rw [if_neg d, if_neg (by omega)]
  · have : (fun j => D (if i ≤ j ∧ j < i then j + 1 else j)) = D := by
      funext j
      rw [if_neg (by omega)]
    rw [this]
    exact hP
theorem M_removeStriker (hw : WF w ns R k D) (hR : RX w ns R k D row) {i : Nat} (hi : i < k) :
    ∃ row', F_X11_removeStriker (nI i) row = some row' ∧ RX w ns R (k - 1) (fun j => D (rm i j)) row' := by
  have h30 := hw.2.2.2.1
  have h12 := hw.2.1
  unfold F_X11_removeStriker
  rw [nm_e1, hR.2.2.2.1, show nI k - 1 = nI (k - 1) from e_sub (b := 1) (by omega)]
  refine fx2E (Post := fun r => ∃ row', r = some row' ∧ RX w ns R (k - 1) (fun j => D (rm i j)) row')
    (Q := fun a T m => ∃ x, a = nI x ∧ i ≤ x ∧ x < k ∧ m = k - x ∧ T 0 = nI w ∧ T 1 = nI ns ∧ (∀ j, j < ns → T (2 + j) = nI (R j)) ∧ T 14 = nI (k - 1) ∧ ∀ j, j < k → T (15 + j) = nI (D (if i ≤ j ∧ j < x then j + 1 else j)))
    ?_ FUEL _ _ (k - i) ⟨i, rfl, Nat.le_refl _, hi, rfl, ?_, ?_, fun j hj => ?_, pk_us, fun j hj => ?_⟩ (by unfold FUEL; omega)
  · rintro K _ T _ ih ⟨x, rfl, hx, hxk, rfl, t0, t1, t2, t3, t4⟩
    unfold B_X11_removeStriker_13
    rw [t3]
    by_cases z : k - 1 ≤ x
    · rw [if_pos (nI_le z (by omega))]
      refine ⟨T, rfl, t0, t1, t2, t3, fun j hj => ?_⟩
      rw [t4 j (by omega)]
      show nI (D (if i ≤ j ∧ j < x then j + 1 else j)) = nI (D (if j < i then j else j + 1))
      by_cases c : j < i
      · rw [if_neg (by omega), if_pos c]
      · rw [if_pos ⟨by omega, by omega⟩, if_neg c]
    · have e2 : (15 : Int32) + nI x = nI (15 + x) := e_add 15 x
      have e3 : nI (15 + x) + 1 = nI (15 + (x + 1)) := e_add (15 + x) 1
      have e4 : nI x + 1 = nI (x + 1) := e_add x 1
      rw [if_neg (nI_ge (by omega) (by omega)), e2, e3, e4, ix_nI (by omega) (by decide), nm_e1, ix_nI (by omega) (by decide), nm_e1, nI_clamp (by omega), nI_clamp (by omega), t4 (x + 1) (by omega)]
      refine ih _ _ (k - (x + 1)) (by omega) ⟨x + 1, rfl, by omega, by omega, rfl, ?_, ?_, fun j hj => ?_, ?_, fun j hj => ?_⟩
      · rw [pk_un (by omega)]; exact t0
      · rw [pk_un (by omega)]; exact t1
      · rw [pk_un (by omega)]; exact t2 j hj
      · rw [pk_un (by omega)]; exact t3
      · by_cases c : j = x
        · rw [c, pk_us, if_neg (by omega), if_pos ⟨hx, by omega⟩]
        · rw [pk_un (by omega), t4 j hj]
          by_cases d : i ≤ j ∧ j < x
          · rw [if_pos d, if_pos ⟨d.1, by omega⟩]
          · rw [if_neg d, if_neg (by omega)]
  · rw [pk_un (by decide)]; exact hR.1
  · rw [pk_un (by decide)]; exact hR.2.1
  · rw [pk_un (by omega)]; exact hR.2.2.1 j hj
  · rw [pk_un (by omega), if_neg (by omega)]; exact hR.2.2.2.2 j hj
theorem A_lift (h : CX w ns R k D P row S) {v : Nat} (hv : P.2.2.2.2.2.2 = nI v) (hv2 : v + 100 < 2 ^ 31) {d : Nat} (hd : d ≤ 120) (ac : Nat → Int32) (e0 : Int32) (o t : Nat → Int32) :
    ∃ r P' S' ac' e' o' row' t', F_X10_liftStriker (nI d) P S = some (r, (P', S')) ∧ F_X11_doLift (nI d) ac e0 o row t = some (r, (ac', e', o', row', t')) ∧ F_X10_counted r ac = some (r, ac') ∧ AR P S v row' P' S' := by
  obtain ⟨hw, hP, hR, hS⟩ := h
  have h30 := hw.2.2.2.1
  have hL := hw.last
  unfold F_X10_liftStriker F_X11_doLift
  rw [L_placeOf hw hP (by omega), M_placeOf hw hR (by omega), Option.bind_some, Option.bind_some]
  cases hp : pl k D d with
  | none =>
    obtain ⟨ac', he⟩ := ends_ex (-2) ac
    dsimp only
    rw [if_pos (show m1 = -1 from rfl), if_pos (show m1 = -1 from rfl), he]
    exact ⟨-2, P, S, ac', e0, o, row, t, rfl, rfl, he, w, ns, R, k, D, v, ⟨hw, hP, hR, hS⟩, hv, Nat.le_refl _, by omega⟩
  | some i =>
    obtain ⟨-, hi, -, -⟩ := fi_some hp
    have hi : i < k := by omega
    obtain ⟨S', c1, c2, c3⟩ := L_current hw hP hS
    obtain ⟨o', t', hm, hRS⟩ := M_strike hw hR e0 o t
    obtain ⟨T, t1, t2, t3⟩ := L_removeStriker hw hP hi
    obtain ⟨row', r1, r2⟩ := M_removeStriker hw hR hi
    obtain ⟨ac', he⟩ := ends_ex (nI (cn (onl w k D i) 2 (1 + sm R ns - 1))) ac
    dsimp only
    rw [if_neg (m1_ne (by omega)), if_neg (m1_ne (by omega)), c1, hm, Option.bind_some, Option.bind_some, L_countGiven hw hP hL c2 hi, M_ownedAlone hw hL (by omega) hRS hi, Option.bind_some, Option.bind_some, t1, r1, Option.bind_some, Option.bind_some, he]
    have hver : T.2.2.2.2.2.2 = nI (v + 1) := by
      rw [t3, hv]
      exact e_add v 1
    have hT : PX w ns R (k - 1) (fun j => D (rm i j)) (T.1, T.2.1, P.2.2.1, T.2.2.2.1, T.2.2.2.2.1, T.2.2.2.2.2.1, T.2.2.2.2.2.2) := ⟨t2.1, t2.2.1, hP.2.2.1, t2.2.2.2.1, t2.2.2.2.2.1, t2.2.2.2.2.2⟩
    exact ⟨nI (cn (onl w k D i) 2 (1 + sm R ns - 1)), _, S', ac', nI (1 + sm R ns), o', row', t', rfl, rfl, he, w, ns, R, k - 1, fun j => D (rm i j), v + 1, ⟨hw.less hi, hT, r2, c3.bump hv hver (by omega) (by omega)⟩, hver, by omega, by omega⟩
end
