/-! ===== VALUES: what each operation answers, and what it leaves ===== -/
section
variable {w ns k v : Nat} {R D : Nat → Nat} {P : PlanT} {S : SieveT} {L : Nat}
theorem vbump (hv : P.2.2.2.2.2.2 = nI v) : P.2.2.2.2.2.2 + 1 = nI (v + 1) := by rw [hv]; exact e_add v 1
theorem G_lay (h : CY w ns R k D P S) (hv : P.2.2.2.2.2.2 = nI v) (hv2 : v + 100 < 2 ^ 31) {m : Nat} (hm1 : 1 ≤ m) (hm : m ≤ 400) (h12 : ns < 12) (ac : Nat → Int32) :
    ∃ P' S', F_X10_layStretch (nI m) ac P S = some (nI (cn (mk w k D) (2 + sm R ns) m), (upd ac 3 (ac 3 + 1), P', S')) ∧ CY w (ns + 1) (up1 R ns m) k D P' S' ∧ P'.2.2.2.2.2.2 = nI (v + 1) := by
  obtain ⟨hw, hP, hS⟩ := h
  have hw' := hw.room h12 hm1 hm
  have hs : sm (up1 R ns m) (ns + 1) = sm R ns + m := by
    show sm (up1 R ns m) ns + up1 R ns m ns = _
    rw [sm_up1, up1_s]
  have hL' := hw'.last
  have hver := vbump hv
  have hP' := hP.room (m := m) (P.2.2.2.2.2.2 + 1)
  have hS1 : SOK w k D (1 + sm (up1 R ns m) (ns + 1)) (P.1, nI (ns + 1), upd P.2.2.1 ns (nI m), nI (1 + sm R ns + m), P.2.2.2.2.1, P.2.2.2.2.2.1, P.2.2.2.2.2.2 + 1) S := hS.bump hv hver (by omega) (by omega)
  obtain ⟨S', c1, c2, c3⟩ := L_current hw' hP' hS1
  have hf := L_first hw' hP' (i := ns) (by omega)
  have hl := L_lastOf hw' hP' (i := ns) (by omega)
  rw [sm_up1] at hf
  refine ⟨_, S', ?_, ⟨hw', hP', c3⟩, hver⟩
  unfold F_X10_layStretch F_X3_stretchCount
  rw [hP.2.1, Option.bind_some, if_pos (show nI ns < 12 from nI_lt (b := 12) (by omega) (by decide)), L_appendStretch (n := ns) (l := 1 + sm R ns) hP.2.1 (by omega) hP.2.2.2.1, Option.bind_some, nm_e1, c1, Option.bind_some, hf, hl, Option.bind_some, Option.bind_some, L_marksBetween hL' c2 (by omega) (by omega), Option.bind_some, mb_cn (Nat.le_refl _) (by omega), show 1 + sm (up1 R ns m) (ns + 1) + 1 - (2 + sm R ns) = m by omega]
theorem G_lay12 (h : CY w 12 R k D P S) (m : Int32) (ac : Nat → Int32) : F_X10_layStretch m ac P S = some (-2, (ac, P, S)) := by
  unfold F_X10_layStretch F_X3_stretchCount
  rw [h.2.1.2.1, Option.bind_some, if_neg (by decide)]
theorem G_drop (h : CY w ns R k D P S) (hv : P.2.2.2.2.2.2 = nI v) (hv2 : v + 100 < 2 ^ 31) (h0 : 0 < ns) :
    ∃ P', F_X10_dropStretch P = some (nI (1 + sm R (ns - 1)), P') ∧ CY w (ns - 1) R k D P' S ∧ P'.2.2.2.2.2.2 = nI (v + 1) := by
  obtain ⟨hw, hP, hS⟩ := h
  have h12 := hw.2.1
  have hver := vbump hv
  have hw' : WF w (ns - 1) R k D := ⟨hw.1, by omega, fun i hi => hw.2.2.1 i (by omega), hw.2.2.2⟩
  unfold F_X10_dropStretch F_X3_stretchCount
  rw [hP.2.1, Option.bind_some, if_neg (show ¬ nI ns = 0 from nI_ne0 (by omega) (by omega)), L_removeStretch hw hP h0, Option.bind_some]
  exact ⟨_, rfl, ⟨hw', ⟨hP.1, rfl, fun i hi => hP.2.2.1 i (by omega), rfl, hP.2.2.2.2.1, hP.2.2.2.2.2⟩, hS.bump hv hver (by omega) (by omega)⟩, hver⟩
theorem G_add (h : CY w ns R k D P S) (hv : P.2.2.2.2.2.2 = nI v) (hv2 : v + 100 < 2 ^ 31) {d : Nat} (h2 : 2 ≤ d) (h120 : d ≤ 120) (hp : pl k D d = none) (h30 : k < 30) (ac : Nat → Int32) :
    ∃ P' S', F_X10_addStriker (nI d) ac P S = some (nI (tk w ns R k D d), (upd ac 4 (ac 4 + 1), P', S')) ∧ CY w ns R (k + 1) (up1 D k d) P' S' ∧ P'.2.2.2.2.2.2 = nI (v + 1) := by
  obtain ⟨hw, hP, hS⟩ := h
  have hL := hw.last
  have hw' := hw.more h30 h2 h120 hp
  obtain ⟨S', c1, c2, c3⟩ := L_current hw hP hS
  have hver := vbump hv
  unfold F_X10_addStriker F_X3_strikerCount
  rw [L_placeOf hw hP (by omega), hp, hP.2.2.2.2.1, Option.bind_some]
  dsimp only
  rw [if_pos (show m1 = -1 from rfl), Option.bind_some, if_pos (show nI k < 30 from nI_lt (b := 30) h30 (by decide)), c1, Option.bind_some, L_taken hw hL c2 h2 h120, Option.bind_some, L_appendStriker hP h30, Option.bind_some, nm_e1, tk_from h2]
  exact ⟨_, S', rfl, ⟨hw', hP.more _, c3.bump hv hver (by omega) (by omega)⟩, hver⟩
theorem G_add_is (h : CY w ns R k D P S) {d j : Nat} (h120 : d ≤ 120) (hp : pl k D d = some j) (ac : Nat → Int32) : F_X10_addStriker (nI d) ac P S = some (-2, (ac, P, S)) := by
  obtain ⟨hw, hP, hS⟩ := h
  obtain ⟨-, hj, -⟩ := fi_some hp
  have h30 := hw.2.2.2.1
  unfold F_X10_addStriker F_X3_strikerCount
  rw [L_placeOf hw hP (by omega), hp, hP.2.2.2.2.1, Option.bind_some]
  dsimp only
  rw [if_neg (m1_ne (by omega))]
theorem G_add_30 (h : CY w ns R 30 D P S) {d : Nat} (h120 : d ≤ 120) (hp : pl 30 D d = none) (ac : Nat → Int32) : F_X10_addStriker (nI d) ac P S = some (-3, (ac, P, S)) := by
  obtain ⟨hw, hP, hS⟩ := h
  unfold F_X10_addStriker F_X3_strikerCount
  rw [L_placeOf hw hP (by omega), hp, hP.2.2.2.2.1, Option.bind_some]
  dsimp only
  rw [if_pos (show m1 = -1 from rfl), Option.bind_some, if_neg (by decide)]
theorem G_lift (h : CY w ns R k D P S) (hv : P.2.2.2.2.2.2 = nI v) (hv2 : v + 100 < 2 ^ 31) {d i : Nat} (h120 : d ≤ 120) (hp : pl k D d = some i) :
    ∃ P' S', F_X10_liftStriker (nI d) P S = some (nI (cn (onl w k D i) 2 (sm R ns)), (P', S')) ∧ CY w ns R (k - 1) (fun j => D (rm i j)) P' S' ∧ P'.2.2.2.2.2.2 = nI (v + 1) := by
  obtain ⟨hw, hP, hS⟩ := h
  have h30 := hw.2.2.2.1
  have hL := hw.last
  obtain ⟨-, hi, -, -⟩ := fi_some hp
  have hi : i < k := by omega
  obtain ⟨S', c1, c2, c3⟩ := L_current hw hP hS
  obtain ⟨T, t1, t2, t3⟩ := L_removeStriker hw hP hi
  have hver : T.2.2.2.2.2.2 = nI (v + 1) := by rw [t3]; exact vbump hv
  have hT : PX w ns R (k - 1) (fun j => D (rm i j)) (T.1, T.2.1, P.2.2.1, T.2.2.2.1, T.2.2.2.2.1, T.2.2.2.2.2.1, T.2.2.2.2.2.2) := ⟨t2.1, t2.2.1, hP.2.2.1, t2.2.2.2.1, t2.2.2.2.2.1, t2.2.2.2.2.2⟩
  unfold F_X10_liftStriker
  rw [L_placeOf hw hP (by omega), hp, Option.bind_some]
  dsimp only
  rw [if_neg (m1_ne (by omega)), c1, Option.bind_some, L_countGiven hw hP hL c2 hi, Option.bind_some, t1, Option.bind_some, show 1 + sm R ns - 1 = sm R ns by omega]
  exact ⟨_, S', rfl, ⟨hw.less hi, hT, c3.bump hv hver (by omega) (by omega)⟩, hver⟩
theorem G_lift_no (h : CY w ns R k D P S) {d : Nat} (h120 : d ≤ 120) (hp : pl k D d = none) : F_X10_liftStriker (nI d) P S = some (-2, (P, S)) := by
  obtain ⟨hw, hP, hS⟩ := h
  unfold F_X10_liftStriker
  rw [L_placeOf hw hP (by omega), hp, Option.bind_some]
  dsimp only
  rw [if_pos (show m1 = -1 from rfl)]
theorem mf_0 : (fun j => D (mf 0 j)) = D := by
  funext j
  unfold mf
  by_cases c : j = 0
  · rw [if_pos c, c]
  · rw [if_neg c, if_neg (by omega)]
theorem SOK.same {P' : PlanT} (h : SOK w k D L P S) (e : P'.2.2.2.2.2.2 = P.2.2.2.2.2.2) : SOK w k D L P' S := by
  unfold SOK at h ⊢
  rw [e]
  exact h
theorem G_first (h : CY w ns R k D P S) (hv : P.2.2.2.2.2.2 = nI v) (hv2 : v + 100 < 2 ^ 31) {d i : Nat} (h120 : d ≤ 120) (hp : pl k D d = some i) :
    ∃ P', F_X10_putFirst (nI d) P = some (nI i, P') ∧ CY w ns R k (fun j => D (mf i j)) P' S ∧ P'.2.2.2.2.2.2 = nI (v + i) ∧ i < 30 := by
  obtain ⟨hw, hP, hS⟩ := h
  have h30 := hw.2.2.2.1
  obtain ⟨-, hi, -, -⟩ := fi_some hp
  have hi : i < k := by omega
  obtain ⟨T, t1, t2, t3⟩ := L_moveToFront hw hP hv hi
  have hw' : WF w ns R k (fun j => D (mf i j)) := hw.perm (Nat.le_refl _) (fun j hj => mf_lt hi hj) (fun a b _ _ e => mf_inj e)
  have hT : PX w ns R k (fun j => D (mf i j)) (T.1, T.2.1, P.2.2.1, T.2.2.2.1, T.2.2.2.2.1, T.2.2.2.2.2.1, T.2.2.2.2.2.2) := ⟨t2.1, t2.2.1, hP.2.2.1, t2.2.2.2.1, t2.2.2.2.2.1, t2.2.2.2.2.2⟩
  unfold F_X10_putFirst
  rw [L_placeOf hw hP (by omega), hp, Option.bind_some]
  dsimp only
  rw [if_neg (m1_ne (by omega)), t1, Option.bind_some]
  refine ⟨_, rfl, ⟨hw', hT, ?_⟩, t3, by omega⟩
  by_cases z : i = 0
  · subst z
    rw [mf_0]
    exact hS.same (by rw [hv]; exact t3)
  · exact hS.bump hv t3 (by omega) (by omega)
theorem G_first_no (h : CY w ns R k D P S) {d : Nat} (h120 : d ≤ 120) (hp : pl k D d = none) : F_X10_putFirst (nI d) P = some (-2, P) := by
  obtain ⟨hw, hP, hS⟩ := h
  unfold F_X10_putFirst
  rw [L_placeOf hw hP (by omega), hp, Option.bind_some]
  dsimp only
  rw [if_pos (show m1 = -1 from rfl)]
theorem G_swap (h : CY w ns R k D P S) (hv : P.2.2.2.2.2.2 = nI v) (hv2 : v + 100 < 2 ^ 31) {a b i j : Nat} (ha : a ≤ 120) (hb : b ≤ 120) (hp : pl k D a = some i) (hp2 : pl k D b = some j) :
    ∃ P' S', F_X10_swapStrikers (nI a) (nI b) P S = some (nI (cn (chg w k D (fun x => D (sw i j x))) 2 (sm R ns)), (P', S')) ∧ CY w ns R k (fun x => D (sw i j x)) P' S' ∧ P'.2.2.2.2.2.2 = nI (v + 1) := by
  obtain ⟨hw, hP, hS⟩ := h
  have h30 := hw.2.2.2.1
  have hL := hw.last
  obtain ⟨-, hi, -, -⟩ := fi_some hp
  obtain ⟨-, hj, -, -⟩ := fi_some hp2
  have hi : i < k := by omega
  have hj : j < k := by omega
  obtain ⟨S', c1, c2, c3⟩ := L_current hw hP hS
  have hw' : WF w ns R k (fun x => D (sw i j x)) := hw.perm (Nat.le_refl _) (fun x hx => sw_lt hi hj hx) (fun a b _ _ e => sw_inj e)
  have hver := vbump hv
  have hT : PX w ns R k (fun x => D (sw i j x)) (P.1, P.2.1, P.2.2.1, P.2.2.2.1, P.2.2.2.2.1, upd (upd P.2.2.2.2.2.1 i (nI (D j))) j (nI (D i)), P.2.2.2.2.2.2 + 1) := by
    refine ⟨hP.1, hP.2.1, hP.2.2.1, hP.2.2.2.1, hP.2.2.2.2.1, fun x hx => ?_⟩
    show upd (upd P.2.2.2.2.2.1 i (nI (D j))) j (nI (D i)) x = nI (D (if x = j then i else if x = i then j else x))
    by_cases c : x = j
    · rw [c, pk_us, if_pos rfl]
    · rw [pk_un c, if_neg c]
      by_cases d : x = i
      · rw [d, pk_us, if_pos rfl]
      · rw [pk_un d, if_neg d]
        exact hP.2.2.2.2.2 x hx
  have hlp := L_swapLoop hw hL c2 hw' hT (fun n => fh_sw hi hj) (nI a) (nI b)
  rw [show max 2 (1 + sm R ns + 1) - 2 = sm R ns by omega] at hlp
  unfold F_X10_swapStrikers
  rw [L_placeOf hw hP (by omega), L_placeOf hw hP (by omega), hp, hp2, Option.bind_some, Option.bind_some]
  dsimp only
  rw [if_neg (show ¬ nI i = -1 from m1_ne (by omega)), if_neg (show ¬ nI j = -1 from m1_ne (by omega)), c1, Option.bind_some, L_exchange hw hP hi hj, Option.bind_some]
  exact ⟨_, S', hlp, ⟨hw', hT, c3.bump hv hver (by omega) (by omega)⟩, hver⟩
theorem WF.whl (hw : WF w ns R k D) {m : Nat} (hm : m ≤ 4) : WF m ns R k D := ⟨hm, hw.2⟩
theorem G_wheel (h : CY w ns R k D P S) (hv : P.2.2.2.2.2.2 = nI v) (hv2 : v + 100 < 2 ^ 31) {m : Nat} (hm : m ≤ 4) :
    ∃ P', F_X10_changeWheel (nI m) P = some (nI w, P') ∧ CY m ns R k D P' S ∧ P'.2.2.2.2.2.2 = nI (v + 1) := by
  obtain ⟨hw, hP, hS⟩ := h
  have hver := vbump hv
  unfold F_X10_changeWheel F_X3_wheelNow F_X3_setWheel
  rw [hP.1]
  exact ⟨_, rfl, ⟨hw.whl hm, ⟨rfl, hP.2⟩, hS.bump hv hver (by omega) (by omega)⟩, hver⟩
/-- filling, m times at most -/
def fl (w L : Nat) : Nat → Nat → (Nat → Nat) → Nat × (Nat → Nat)
  | 0, k, D => (k, D)
  | m + 1, k, D => if k = 30 then (k, D) else match fi (mz w k D L) 2 98 with
    | none => (k, D)
    | some d => fl w L m (k + 1) (up1 D k d)
theorem G_fillLoop {T : Nat} (hT2 : 2 ≤ T) (hT70 : T ≤ 70) (hT : 1 + sm R ns < T * T) (hi : ∀ i, i < T → i * i ≤ 1 + sm R ns) (hv2 : v + 100 < 2 ^ 31) {m : Nat} (hm : m ≤ 30) (ac : Nat → Int32) :
    ∀ n c k D P, m - c < n → c ≤ m → WF w ns R k D → PX w ns R k D P → P.2.2.2.2.2.2 = nI (v + c) →
      ∃ P' c', fx (fun _ _ _ _ => none) (B_X10_fillUp_4 (nI m)) n (nI c) (nI c) ac P = some (nI c', (upd ac 4 (ac 4 + nI c'), P')) ∧ c ≤ c' ∧ c' ≤ m ∧
        (fl w (1 + sm R ns) (m - c) k D).1 = k + (c' - c) ∧ WF w ns R (k + (c' - c)) (fl w (1 + sm R ns) (m - c) k D).2 ∧ PX w ns R (k + (c' - c)) (fl w (1 + sm R ns) (m - c) k D).2 P' ∧ P'.2.2.2.2.2.2 = nI (v + c') ∧
        (c' = c → (fl w (1 + sm R ns) (m - c) k D).2 = D) ∧ (fi (mz w k D (1 + sm R ns)) 2 98 = none → c' = c) := by
  intro n
  induction n with
  | zero => intro c k D P h; exact absurd h (by omega)
  | succ n ih =>
    intro c k D P hn hc hw hP hv
    have h30 := hw.2.2.2.1
    have hL := hw.last
    rw [fx_s]
    generalize hK1 : fx (fun _ _ _ _ => none) (B_X10_fillUp_4 (nI m)) n = K1 at ih ⊢
    unfold B_X10_fillUp_4 F_X3_strikerCount F_X3_wheelNow
    rw [hP.2.2.2.2.1, hP.1, Option.bind_some, Option.bind_some]
    have fin : fl w (1 + sm R ns) (m - c) k D = (k, D) → ∃ P' c', some (nI c, (upd ac 4 (ac 4 + nI c), P)) = some (nI c', (upd ac 4 (ac 4 + nI c'), P')) ∧ c ≤ c' ∧ c' ≤ m ∧
        (fl w (1 + sm R ns) (m - c) k D).1 = k + (c' - c) ∧ WF w ns R (k + (c' - c)) (fl w (1 + sm R ns) (m - c) k D).2 ∧ PX w ns R (k + (c' - c)) (fl w (1 + sm R ns) (m - c) k D).2 P' ∧ P'.2.2.2.2.2.2 = nI (v + c') ∧
        (c' = c → (fl w (1 + sm R ns) (m - c) k D).2 = D) ∧ (fi (mz w k D (1 + sm R ns)) 2 98 = none → c' = c) := fun e => by
      rw [e]
      exact ⟨P, c, rfl, Nat.le_refl _, hc, by rw [Nat.sub_self]; rfl, by rw [Nat.sub_self]; exact hw, by rw [Nat.sub_self]; exact hP, hv, fun _ => rfl, fun _ => rfl⟩
    by_cases q : m ≤ c
    · rw [if_pos (nI_le q (by omega)), nm_e1]
      exact fin (by rw [show m - c = 0 by omega]; rfl)
    · rw [if_neg (nI_ge (by omega) (by omega)), L_smallestMissing hw hP hT2 hT70 hT hi, (mz_top (w := w) (k := k) (D := D) hT2 hT70 hT hi).1]
      have em : m - c = (m - (c + 1)) + 1 := by omega
      have eu : fl w (1 + sm R ns) (m - c) k D = if k = 30 then (k, D) else match fi (mz w k D (1 + sm R ns)) 2 98 with
          | none => (k, D)
          | some d => fl w (1 + sm R ns) (m - (c + 1)) (k + 1) (up1 D k d) := by rw [em]; rfl
      by_cases z : k = 30
      · rw [if_pos (show 30 ≤ nI k from nI_le (a := 30) (by omega) (by omega)), nm_e1]
        exact fin (by rw [eu, if_pos z])
      · have hk : k < 30 := by omega
        rw [if_neg z] at eu
        rw [if_neg (show ¬ 30 ≤ nI k from nI_ge (b := 30) hk (by decide)), Option.bind_some]
        cases hf : fi (mz w k D (1 + sm R ns)) 2 98 with
        | none =>
          rw [hf] at eu fin
          rw [if_pos (show oI none = -1 from rfl), nm_e1]
          exact fin eu
        | some d =>
          rw [hf] at eu
          dsimp only at eu
          obtain ⟨d1, d2, d3, -⟩ := fi_some hf
          have d3' : ms w k D d = true := by
            unfold mz at d3
            rw [Bool.and_eq_true] at d3
            exact d3.2
          have nd : ¬ oI (some d) = -1 := m1_ne (k := d) (by omega)
          have hw' := hw.more hk d1 (by omega : d ≤ 120) (ms_pl d3')
          rw [if_neg nd, show oI (some d) = nI d from rfl, L_appendStriker hP hk, Option.bind_some, nm_e1, nm_e1]
          have ec : nI c + 1 = nI (c + 1) := e_add c 1
          have hver : P.2.2.2.2.2.2 + 1 = nI (v + (c + 1)) := by
            rw [hv]
            exact e_add (v + c) 1
          obtain ⟨P', c', i1, i2, i3, i4, i5, i6, i7, i8, -⟩ := ih (c + 1) (k + 1) (up1 D k d) (P.1, P.2.1, P.2.2.1, P.2.2.2.1, nI (k + 1), upd P.2.2.2.2.2.1 k (nI d), P.2.2.2.2.2.2 + 1) (by omega) (by omega) hw' (hP.more _) hver
          have ek : k + 1 + (c' - (c + 1)) = k + (c' - c) := by omega
          rw [ek] at i4 i5 i6
          rw [eu, ec]
          refine ⟨P', c', i1, by omega, i3, i4, i5, i6, i7, fun e => absurd e (by omega), fun e => by cases e⟩
theorem G_fill (h : CY w ns R k D P S) (hv : P.2.2.2.2.2.2 = nI v) (hv2 : v + 100 < 2 ^ 31) {m : Nat} (hm : m ≤ 30) (ac : Nat → Int32) :
    ∃ P' c, F_X10_fillUp (nI m) ac P = some (nI c, (upd ac 4 (ac 4 + nI c), P')) ∧ c ≤ m ∧ (fl w (1 + sm R ns) m k D).1 = k + c ∧ CY w ns R (k + c) (fl w (1 + sm R ns) m k D).2 P' S ∧ P'.2.2.2.2.2.2 = nI (v + c) ∧ c ≤ 30 ∧
      (fi (mz w k D (1 + sm R ns)) 2 98 = none → c = 0) := by
  obtain ⟨hw, hP, hS⟩ := h
  have hL := hw.last
  obtain ⟨T, T2, T70, hT, hi⟩ := sq_top (1 + sm R ns) (by omega) hL
  obtain ⟨P', c, i1, -, i3, i4, i5, i6, i7, i8, i9⟩ := G_fillLoop (v := v) T2 T70 hT hi hv2 hm ac FUEL 0 k D P (by unfold FUEL; omega) (Nat.zero_le _) hw hP hv
  rw [Nat.sub_zero, Nat.sub_zero] at i4 i5 i6
  rw [Nat.sub_zero] at i8
  refine ⟨P', c, i1, i3, i4, ⟨i5, i6, ?_⟩, i7, by omega, i9⟩
  by_cases z : c = 0
  · subst z
    rw [i8 rfl]
    exact hS.same (by rw [i7, hv]; rfl)
  · exact hS.bump hv i7 (by omega) (by omega)
/-! tidy: what stays is what owns something -/
theorem cn_enum {q : Nat → Bool} : ∀ (k kx : Nat) (σ : Nat → Nat), (∀ a, a < kx → σ a < k) → (∀ a b, a < b → b < kx → σ a < σ b) → (∀ a, a < kx → q (σ a) = true) → (∀ j, j < k → q j = true → ∃ a, a < kx ∧ σ a = j) → cn q 0 k = kx
  | 0, kx, σ, h1, _, _, _ => by
    match kx, h1 with
    | 0, _ => rfl
    | kx + 1, h1 => exact absurd (h1 0 (by omega)) (by omega)
  | k + 1, kx, σ, h1, h2, h3, h4 => by
    rw [cn_snoc, Nat.zero_add]
    by_cases e : q k = true
    · rw [if_pos e]
      obtain ⟨a, a1, a2⟩ := h4 k (by omega) e
      have ha : a + 1 = kx := by
        refine Nat.le_antisymm (by omega) (Nat.le_of_not_lt fun c => ?_)
        have := h2 a (a + 1) (by omega) c
        have := h1 (a + 1) c
        omega
      have := cn_enum k a σ (fun b hb => by have := h2 b a hb a1; omega) (fun b c hb hc => h2 b c hb (by omega)) (fun b hb => h3 b (by omega)) (fun j hj hq => by
        obtain ⟨b, b1, b2⟩ := h4 j (by omega) hq
        refine ⟨b, ?_, b2⟩
        by_cases z : b = a
        · rw [z, a2] at b2; omega
        · omega)
      omega
    · rw [if_neg e, Nat.add_zero]
      exact cn_enum k kx σ (fun b hb => by
        have h5 := h1 b hb
        have h6 := h3 b hb
        by_cases z : σ b = k
        · rw [z] at h6; exact absurd h6 e
        · omega) h2 h3 (fun j hj hq => h4 j (by omega) hq)
theorem cn_not (q : Nat → Bool) : ∀ (k a : Nat), cn q a k + cn (fun j => !q j) a k = k
  | 0, _ => rfl
  | k + 1, a => by
    have := cn_not q k (a + 1)
    rw [cn_s, cn_s]
    cases q a <;> simp <;> omega
/-- the same row, if only the first k count -/
theorem own_cong {D' : Nat → Nat} (e : ∀ i, i < k → D' i = D i) (i n : Nat) : own w k D' i n = own w k D i n := by
  unfold own fh
  rw [fi_cong (q := fun j => hit n (D j)) (fun j _ hj => by rw [e j (by omega)])]
theorem SV.cong {D' : Nat → Nat} (e : ∀ i, i < k → D' i = D i) (h : SV w k D L S) : SV w k D' L S := by
  have eD : ∀ n, fh k D' n = fh k D n := fun n => fi_cong (fun i _ hi => by rw [e i (by omega)])
  have eO : ∀ n, oD D' (fh k D n) = oD D (fh k D n) := fun n => by
    cases hf : fh k D n with
    | none => rfl
    | some i =>
      obtain ⟨-, hi, -⟩ := fi_some hf
      show nI (D' i) = nI (D i)
      rw [e i (by omega)]
  have em : mk w k D' = mk w k D := by
    funext n
    unfold mk
    rw [eD]
  refine ⟨h.1, fun n n1 n2 => ?_, ?_, h.2.2.2⟩
  · rw [em]
    refine ⟨?_, (h.2.1 n n1 n2).2⟩
    rw [(h.2.1 n n1 n2).1]
    unfold oz
    rw [eD, eO]
  · rw [em]; exact h.2.2.1
theorem SOK.cong {D' : Nat → Nat} (e : ∀ i, i < k → D' i = D i) (h : SOK w k D L P S) : SOK w k D' L P S := ⟨h.1, fun q => (h.2 q).cong e⟩
theorem G_tidy (h : CY w ns R k D P S) (hv : P.2.2.2.2.2.2 = nI v) (hv2 : v + 100 < 2 ^ 31) :
    ∃ kx σ P' S', F_X10_takeIdleAway P S = some (nI (k - kx), (P', S')) ∧ LO w k D (1 + sm R ns) kx σ ∧ (∀ p, p < kx → idl w k D (1 + sm R ns) (σ p) = false) ∧ CY w ns R kx (fun j => D (σ j)) P' S' ∧ P'.2.2.2.2.2.2 = nI (v + (k - kx)) ∧ k ≤ 30 ∧ k - kx = cn (idl w k D (1 + sm R ns)) 0 k := by
  obtain ⟨hw, hP, hS⟩ := h
  have h30 := hw.2.2.2.1
  obtain ⟨S', c1, c2, c3⟩ := L_current hw hP hS
  obtain ⟨kx, σ, T, l1, l2, l3, l4, l5, l6⟩ := L_tidyLoop hw hP hv c2
  have hkx := l2.1
  refine ⟨kx, σ, T, S', ?_, l2, l3, ⟨l2.wf hw, l4, ?_⟩, l5, h30, ?_⟩
  · unfold F_X10_takeIdleAway F_X3_strikerCount
    rw [c1, hP.2.2.2.2.1, Option.bind_some, Option.bind_some, nm_e1]
    exact l1
  · by_cases z : kx = k
    · have ev : T.2.2.2.2.2.2 = P.2.2.2.2.2.2 := by rw [l5, hv, z, Nat.sub_self]; rfl
      have e := l6 z
      subst z
      exact (c3.cong (D' := fun j => D (σ j)) (fun i hi => by rw [e i hi])).same ev
    · exact c3.bump hv l5 (by omega) (by omega)
  · have h1 := cn_enum (q := fun j => !idl w k D (1 + sm R ns) j) k kx σ l2.2.1 l2.2.2.1 (fun a ha => by rw [l3 a ha]; rfl) (fun j hj hq => by
      refine Classical.byContradiction fun z => ?_
      have := l2.2.2.2 j hj (fun q hq e => z ⟨q, hq, e⟩)
      rw [this] at hq
      cases hq)
    have h2 := cn_not (idl w k D (1 + sm R ns)) k 0
    rw [h1] at h2
    omega
end
/-! ===== VALUES: the history ===== -/
section
variable {w ns k v : Nat} {R D : Nat → Nat} {P : PlanT} {S : SieveT}
/-- c can be undone; the newest one kept is as told -/
def HI (t : HistT) (c : Nat) (top : PlanT → Prop) : Prop := ∃ a, a < 8 ∧ c ≤ 8 ∧ t.2.1 = nI a ∧ t.2.2 = nI c ∧ (0 < c → top (t.1 ((a + (c - 1)) % 8)))
theorem HI.any {t : HistT} {c : Nat} {top : PlanT → Prop} (h : HI t c top) : HI t c (fun _ => True) := by
  obtain ⟨a, h1, h2, h3, h4, -⟩ := h
  exact ⟨a, h1, h2, h3, h4, fun _ => trivial⟩
theorem G_push {t : HistT} {c : Nat} {top : PlanT → Prop} (h : HI t c top) (hw : WF w ns R k D) (hP : PX w ns R k D P) :
    ∃ t', F_X1_push t P = some t' ∧ HI t' (min (c + 1) 8) (PX w ns R k D) := by
  obtain ⟨a, ha, hc, h1, h2, -⟩ := h
  have hm : (a + c) % 8 < 8 := Nat.mod_lt _ (by decide)
  obtain ⟨T', t1, t2, -⟩ := L_takeOver hw hP (t.1 ((a + c) % 8))
  unfold F_X1_push
  rw [h1, h2]
  have e : nI a + nI c - (nI a + nI c) / 8 * 8 = nI ((a + c) % 8) := by
    rw [e_add]
    exact pk_rem (by omega) (by decide) (by decide)
  have e2 : nI a + 1 - (nI a + 1) / 8 * 8 = nI ((a + 1) % 8) := by
    rw [show nI a + 1 = nI (a + 1) from e_add a 1]
    exact pk_rem (by omega) (by decide) (by decide)
  rw [e, ix_nI hm (by decide), nm_e1, nI_clamp (by omega), t1, Option.bind_some]
  by_cases z : c = 8
  · rw [if_pos (show (8 : Int32) ≤ nI c from nI_le (a := 8) (by omega) (by omega)), nm_e1, e2]
    refine ⟨_, rfl, (a + 1) % 8, Nat.mod_lt _ (by decide), by omega, rfl, by rw [z]; rfl, fun _ => ?_⟩
    show PX w ns R k D (va_up t.1 ((a + c) % 8) T' (((a + 1) % 8 + (min (c + 1) 8 - 1)) % 8))
    rw [show ((a + 1) % 8 + (min (c + 1) 8 - 1)) % 8 = (a + c) % 8 by omega]
    unfold va_up
    rw [if_pos rfl]
    exact t2
  · rw [if_neg (show ¬ (8 : Int32) ≤ nI c from nI_ge (b := 8) (by omega) (by decide)), nm_e1, show nI c + 1 = nI (c + 1) from e_add c 1]
    refine ⟨_, rfl, a, ha, by omega, rfl, by rw [show min (c + 1) 8 = c + 1 by omega], fun _ => ?_⟩
    show PX w ns R k D (va_up t.1 ((a + c) % 8) T' ((a + (min (c + 1) 8 - 1)) % 8))
    rw [show (a + (min (c + 1) 8 - 1)) % 8 = (a + c) % 8 by omega]
    unfold va_up
    rw [if_pos rfl]
    exact t2
theorem G_undoCount {t : HistT} {c : Nat} {top : PlanT → Prop} (h : HI t c top) : F_X10_undoCount t = some (nI c) := by
  obtain ⟨a, ha, hc, h1, h2, -⟩ := h
  unfold F_X10_undoCount F_X1_count
  rw [h2]
  rfl
theorem G_undo {w' ns' k' : Nat} {R' D' : Nat → Nat} {t : HistT} {c : Nat} (hH : HI t (c + 1) (PX w' ns' R' k' D')) (hw' : WF w' ns' R' k' D') {L' : Nat} (hS : SOK w k D L' P S) (hv : P.2.2.2.2.2.2 = nI v) (hv2 : v + 100 < 2 ^ 31) (ac : Nat → Int32) :
    ∃ ac' t' P', F_X10_undo ac t P = some (nI c, (ac', t', P')) ∧ HI t' c (fun _ => True) ∧ CY w' ns' R' k' D' P' S ∧ P'.2.2.2.2.2.2 = nI (v + 1) := by
  obtain ⟨a, ha, hc, h1, h2, hk⟩ := hH
  have hk := hk (by omega)
  have hm : (a + c) % 8 < 8 := Nat.mod_lt _ (by decide)
  have e1 : nI (c + 1) - 1 = nI c := e_sub (a := c + 1) (b := 1) (by omega)
  have e : nI a + nI c - (nI a + nI c) / 8 * 8 = nI ((a + c) % 8) := by
    rw [e_add]
    exact pk_rem (by omega) (by decide) (by decide)
  rw [show a + (c + 1 - 1) = a + c by omega] at hk
  obtain ⟨P', p1, p2, p3⟩ := L_takeOver hw' hk P
  have hver : P'.2.2.2.2.2.2 = nI (v + 1) := by rw [p3]; exact vbump hv
  have hp : F_X1_pop t P = some ((t.1, t.2.1, nI c), P') := by
    unfold F_X1_pop
    rw [h1, h2, if_neg (nI_nle (by omega) (by omega)), nm_e1, e1, e, ix_nI hm (by decide), nm_e1, nI_clamp (by omega), p1]
    rfl
  unfold F_X10_undo F_X1_count
  rw [h2, Option.bind_some, if_neg (nI_ne0 (by omega) (by omega)), hp, Option.bind_some, nm_e1]
  exact ⟨_, (t.1, t.2.1, nI c), P', rfl, ⟨a, ha, by omega, h1, rfl, fun _ => trivial⟩, ⟨hw', p2, hS.bump hv hver (by omega) (by omega)⟩, hver⟩
theorem G_undo0 {t : HistT} {top : PlanT → Prop} (hH : HI t 0 top) (ac : Nat → Int32) : F_X10_undo ac t P = some (-1, (ac, t, P)) := by
  obtain ⟨a, ha, hc, h1, h2, -⟩ := hH
  unfold F_X10_undo F_X1_count
  rw [h2, Option.bind_some, if_pos (show nI 0 = 0 from rfl)]
theorem G_save (hw : WF w ns R k D) (hP : PX w ns R k D P) (b : Bool) (Ps : PlanT) : ∃ Ps', F_X10_saveSnapshot b P Ps = some (true, Ps') ∧ PX w ns R k D Ps' := by
  obtain ⟨Ps', p1, p2, -⟩ := L_takeOver hw hP Ps
  unfold F_X10_saveSnapshot
  rw [p1]
  exact ⟨Ps', rfl, p2⟩
theorem G_restore {w' ns' k' : Nat} {R' D' : Nat → Nat} {t : HistT} {c : Nat} {top : PlanT → Prop} {Ps : PlanT} (hH : HI t c top) (hw' : WF w' ns' R' k' D') (hs : PX w' ns' R' k' D' Ps) {L' : Nat} (hS : SOK w k D L' P S) (hv : P.2.2.2.2.2.2 = nI v) (hv2 : v + 100 < 2 ^ 31) :
    ∃ t' P', F_X10_restoreSnapshot true t P Ps = some (true, (t', P')) ∧ HI t' 0 (fun _ => True) ∧ CY w' ns' R' k' D' P' S ∧ P'.2.2.2.2.2.2 = nI (v + 1) := by
  obtain ⟨a, ha, hc, h1, h2, -⟩ := hH
  obtain ⟨P', p1, p2, p3⟩ := L_takeOver hw' hs P
  have hver : P'.2.2.2.2.2.2 = nI (v + 1) := by rw [p3]; exact vbump hv
  unfold F_X10_restoreSnapshot
  rw [if_pos rfl, p1, Option.bind_some]
  exact ⟨(t.1, t.2.1, 0), P', rfl, ⟨a, ha, by omega, h1, rfl, fun _ => trivial⟩, ⟨hw', p2, hS.bump hv hver (by omega) (by omega)⟩, hver⟩
/-! an operation as a whole -/
theorem cted {r : Int32} (ac : Nat → Int32) : ∃ ac', F_X10_counted r ac = some (r, ac') := by
  unfold F_X10_counted
  split
  · exact ⟨_, rfl⟩
  · exact ⟨_, rfl⟩
theorem U_done {q : Nat} {x y : Int32} {ac ac1 : Nat → Int32} {bf P' : PlanT} {t : HistT} {S' : SieveT} {r c : Nat} {top : PlanT → Prop} (hq : q < 9) (hr : r < 2 ^ 31) (hw : WF w ns R k D) (hP : PX w ns R k D P) (hH : HI t c top)
    (h1 : F_X2_isInRange q x y = some true) (h3 : F_X10_carryOut q x y ac P S = some (nI r, (ac1, P', S'))) :
    ∃ ac' bf' t', F_X10_operate q x y ac bf t P S = some (.inr (nI r), (ac', bf', t', P', S')) ∧ HI t' (min (c + 1) 8) (PX w ns R k D) := by
  obtain ⟨bf', b1, b2, -⟩ := L_takeOver hw hP bf
  obtain ⟨ac', a1⟩ := cted (r := nI r) ac1
  obtain ⟨t', t1, t2⟩ := G_push hH hw b2
  exact ⟨ac', bf', t', L_operate hq h1 b1 h3 a1 (by rw [if_neg (nI_pos hr)]; exact t1), t2⟩
theorem U_refused {q : Nat} {x y : Int32} {ac ac1 : Nat → Int32} {bf P' : PlanT} {t : HistT} {S' : SieveT} {r : Int32} (hq : q < 9) (hr : r < 0) (hw : WF w ns R k D) (hP : PX w ns R k D P)
    (h1 : F_X2_isInRange q x y = some true) (h3 : F_X10_carryOut q x y ac P S = some (r, (ac1, P', S'))) :
    ∃ ac' bf', F_X10_operate q x y ac bf t P S = some (.inr r, (ac', bf', t, P', S')) := by
  obtain ⟨bf', b1, b2, -⟩ := L_takeOver hw hP bf
  obtain ⟨ac', a1⟩ := cted (r := r) ac1
  exact ⟨ac', bf', L_operate hq h1 b1 h3 a1 (by rw [if_pos hr])⟩
end
