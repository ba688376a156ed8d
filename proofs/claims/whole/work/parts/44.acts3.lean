/-! ===== PURE: actions: first, lift ===== -/
section
variable {w ns k : Nat} {R D : Nat → Nat} {P : PlanT} {row : Nat → Int32} {S : SieveT} {L : Nat}
theorem WF.perm (hw : WF w ns R k D) {k' : Nat} {σ : Nat → Nat} (hk : k' ≤ k) (h1 : ∀ j, j < k' → σ j < k) (h2 : ∀ a b, a < k' → b < k' → σ a = σ b → a = b) : WF w ns R k' (fun j => D (σ j)) := by
  obtain ⟨a1, a2, a3, a4, a5, a6⟩ := hw
  exact ⟨a1, a2, a3, by omega, fun i hi => a5 _ (h1 i hi), fun i j hi hj e => h2 i j hi hj (a6 _ _ (h1 i hi) (h1 j hj) e)⟩
/-- i comes first -/
def mf (i j : Nat) : Nat := if j = 0 then i else if j ≤ i then j - 1 else j
/-- i has come to x -/
def mx (i x j : Nat) : Nat := if j = x then i else if x < j ∧ j ≤ i then j - 1 else j
theorem mx_0 {i j : Nat} : mx i 0 j = mf i j := by
  unfold mx mf
  by_cases e : j = 0
  · rw [if_pos e, if_pos e]
  · rw [if_neg e, if_neg e]
    by_cases c : j ≤ i
    · rw [if_pos ⟨by omega, c⟩, if_pos c]
    · rw [if_neg (fun q => c q.2), if_neg c]
theorem mx_i {i j : Nat} : mx i i j = j := by
  unfold mx
  by_cases e : j = i
  · rw [if_pos e, e]
  · rw [if_neg e, if_neg (by omega)]
theorem L_exchange (hw : WF w ns R k D) (hP : PX w ns R k D P) {i j : Nat} (hi : i < k) (hj : j < k) :
    F_X3_exchange (nI i) (nI j) P = some (P.1, P.2.1, P.2.2.1, P.2.2.2.1, P.2.2.2.2.1, upd (upd P.2.2.2.2.2.1 i (nI (D j))) j (nI (D i)), P.2.2.2.2.2.2 + 1) := by
  have h30 := hw.2.2.2.1
  unfold F_X3_exchange
  rw [if_neg (nI_pos (by omega)), if_neg (show ¬ 30 ≤ nI i from nI_ge (b := 30) (by omega) (by decide)), if_neg (nI_pos (by omega)), if_pos (show nI j < 30 from nI_lt (b := 30) (by omega) (by decide)), ix_nI (by omega) (by decide), nm_e1, ix_nI (by omega) (by decide), nm_e1, ix_nI (by omega) (by decide), ix_nI (by omega) (by decide), nm_e1, nI_clamp (by omega), nI_clamp (by omega), hP.2.2.2.2.2 i hi, hP.2.2.2.2.2 j hj]
theorem mx_step {i x j : Nat} (hx : 0 < x) (hxi : x ≤ i) : mx i (x - 1) j = if j = x - 1 then mx i x x else if j = x then mx i x (x - 1) else mx i x j := by
  unfold mx
  by_cases e : j = x - 1
  · rw [if_pos e, if_pos e, if_pos rfl]
  · rw [if_neg e, if_neg e]
    by_cases c : j = x
    · rw [if_pos c, if_pos ⟨by omega, by omega⟩, if_neg (by omega), if_neg (by omega)]
      omega
    · rw [if_neg c, if_neg c]
      by_cases d : x < j ∧ j ≤ i
      · rw [if_pos d, if_pos ⟨by omega, d.2⟩]
      · rw [if_neg d, if_neg (by omega)]
theorem mf_lt {i j : Nat} (hi : i < k) (hj : j < k) : mf i j < k := by
  unfold mf
  split
  · exact hi
  · split <;> omega
theorem mf_inj {i a b : Nat} (h : mf i a = mf i b) : a = b := by
  unfold mf at h
  split at h
  · split at h
    · omega
    · split at h <;> omega
  · split at h
    · split at h
      · omega
      · split at h <;> omega
    · split at h
      · omega
      · split at h <;> omega
theorem L_moveToFront (hw : WF w ns R k D) (hP : PX w ns R k D P) {v : Nat} (hv : P.2.2.2.2.2.2 = nI v) {i : Nat} (hi : i < k) :
    ∃ T, F_X3_moveToFront (nI i) P = some T ∧ PX w ns R k (fun j => D (mf i j)) T ∧ T.2.2.2.2.2.2 = nI (v + i) := by
  have h30 := hw.2.2.2.1
  unfold F_X3_moveToFront
  rw [show (if (30 - 1 : Int32) < nI i then (30 - 1 : Int32) else nI i) = nI i from if_neg (show ¬ nI 29 < nI i from nI_nlt (by omega) (by decide)), nm_e1]
  refine fx2E (Post := fun r => ∃ T, r = some T ∧ PX w ns R k (fun j => D (mf i j)) T ∧ T.2.2.2.2.2.2 = nI (v + i))
    (Q := fun a T m => ∃ x, a = nI x ∧ x ≤ i ∧ m = x ∧ PX w ns R k (fun j => D (mx i x j)) T ∧ T.2.2.2.2.2.2 = nI (v + (i - x)))
    ?_ FUEL _ _ i ⟨i, rfl, Nat.le_refl _, rfl, ?_, ?_⟩ (by unfold FUEL; omega)
  · rintro K _ T x ih ⟨_, rfl, hx, rfl, hT, hv⟩
    unfold B_X3_moveToFront_12
    by_cases z : x ≤ 0
    · have e : x = 0 := by omega
      subst e
      rw [if_pos (by decide)]
      refine ⟨T, rfl, ?_, hv⟩
      have : (fun j => D (mf i j)) = (fun j => D (mx i 0 j)) := by
        funext j
        rw [mx_0]
      rw [this]
      exact hT
    · have hw2 : WF w ns R k (fun j => D (mx i x j)) := by
        refine hw.perm (Nat.le_refl _) (fun j hj => ?_) (fun a b ha hb e => ?_)
        · unfold mx
          split
          · exact hi
          · split <;> omega
        · unfold mx at e
          split at e
          · split at e
            · omega
            · split at e <;> omega
          · split at e
            · split at e
              · omega
              · split at e <;> omega
            · split at e
              · omega
              · split at e <;> omega
      have e1 : nI x - 1 = nI (x - 1) := e_sub (b := 1) (by omega)
      have e2 : nI x + (-1) = nI (x - 1) := e_pred (by omega)
      rw [if_neg (nI_nle (by omega) (by omega)), e1, L_exchange hw2 hT (by omega) (by omega), Option.bind_some, nm_e1, e2]
      refine ih _ _ (x - 1) (by omega) ⟨x - 1, rfl, by omega, rfl, ⟨hT.1, hT.2.1, hT.2.2.1, hT.2.2.2.1, hT.2.2.2.2.1, fun j hj => ?_⟩, ?_⟩
      · show upd (upd T.2.2.2.2.2.1 x (nI (D (mx i x (x - 1))))) (x - 1) (nI (D (mx i x x))) j = nI (D (mx i (x - 1) j))
        rw [mx_step (by omega) hx]
        by_cases c : j = x - 1
        · rw [c, pk_us, if_pos rfl]
        · rw [pk_un c, if_neg c]
          by_cases d : j = x
          · rw [d, pk_us, if_pos rfl]
          · rw [pk_un d, if_neg d]
            exact hT.2.2.2.2.2 j hj
      · show T.2.2.2.2.2.2 + 1 = _
        rw [hv, show (1 : Int32) = nI 1 from rfl, e_add, show v + (i - x) + 1 = v + (i - (x - 1)) by omega]
  · have : (fun j => D (mx i i j)) = D := by
      funext j
      rw [mx_i]
    rw [this]
    exact hP
  · rw [hv, show i - i = 0 by omega]
    rfl
theorem M_doFirst (hw : WF w ns R k D) (hR : RX w ns R k D row) {i : Nat} (hi : i < k) (ac ac' : Nat → Int32) (he : F_X11_ends (nI i) ac = some (nI i, ac')) :
    ∃ row', fx (fun _ _ _ _ => none) (B_X11_doFirst_20 (nI (D i))) FUEL (nI i) (nI i) ac row = some (nI i, (ac', row')) ∧ RX w ns R k (fun j => D (mf i j)) row' := by
  have h30 := hw.2.2.2.1
  have h12 := hw.2.1
  refine fx4E (Post := fun r => ∃ row', r = some (nI i, (ac', row')) ∧ RX w ns R k (fun j => D (mf i j)) row')
    (Q := fun a b c T m => a = nI i ∧ c = ac ∧ ∃ x, b = nI x ∧ x ≤ i ∧ m = x ∧ T 0 = nI w ∧ T 1 = nI ns ∧ (∀ j, j < ns → T (2 + j) = nI (R j)) ∧ T 14 = nI k ∧ (∀ j, j < k → T (15 + j) = nI (D (if x < j ∧ j ≤ i then j - 1 else j))))
    ?_ FUEL _ _ _ _ i ⟨rfl, rfl, i, rfl, Nat.le_refl _, rfl, hR.1, hR.2.1, hR.2.2.1, hR.2.2.2.1, fun j hj => ?_⟩ (by unfold FUEL; omega)
  · rintro K _ _ _ T x ih ⟨rfl, rfl, _, rfl, hx, rfl, t0, t1, t2, t3, t4⟩
    unfold B_X11_doFirst_20
    by_cases z : x ≤ 0
    · have e : x = 0 := by omega
      subst e
      rw [if_pos (by decide), he, Option.bind_some]
      refine ⟨_, rfl, ?_, ?_, fun j hj => ?_, ?_, fun j hj => ?_⟩
      · rw [pk_un (by decide)]; exact t0
      · rw [pk_un (by decide)]; exact t1
      · rw [pk_un (by omega)]; exact t2 j hj
      · rw [pk_un (by decide)]; exact t3
      · by_cases c : j = 0
        · rw [c, Nat.add_zero, pk_us]
          rfl
        · rw [pk_un (by omega), t4 j hj]
          show nI (D (if 0 < j ∧ j ≤ i then j - 1 else j)) = nI (D (if j = 0 then i else if j ≤ i then j - 1 else j))
          rw [if_neg c]
          by_cases d : j ≤ i
          · rw [if_pos ⟨by omega, d⟩, if_pos d]
          · rw [if_neg (fun q => d q.2), if_neg d]
    · have e1 : (15 : Int32) + nI x - 1 = nI (15 + (x - 1)) := by
        show nI 15 + nI x - nI 1 = _
        rw [e_add, e_sub (by omega), show 15 + x - 1 = 15 + (x - 1) by omega]
      have e2 : (15 : Int32) + nI x = nI (15 + x) := e_add 15 x
      have e3 : nI x + (-1) = nI (x - 1) := e_pred (by omega)
      rw [if_neg (nI_nle (by omega) (by omega)), e1, e2, ix_nI (by omega) (by decide), nm_e1, ix_nI (by omega) (by decide), nm_e1, nI_clamp (by omega), nI_clamp (by omega), e3]
      refine ih _ _ _ _ (x - 1) (by omega) ⟨rfl, rfl, x - 1, rfl, by omega, rfl, ?_, ?_, fun j hj => ?_, ?_, fun j hj => ?_⟩
      · rw [pk_un (by omega)]; exact t0
      · rw [pk_un (by omega)]; exact t1
      · rw [pk_un (by omega)]; exact t2 j hj
      · rw [pk_un (by omega)]; exact t3
      · by_cases c : j = x
        · rw [c, pk_us, t4 (x - 1) (by omega), if_neg (by omega), if_pos ⟨by omega, hx⟩]
        · rw [pk_un (by omega), t4 j hj]
          by_cases d : x < j ∧ j ≤ i
          · rw [if_pos d, if_pos ⟨by omega, d.2⟩]
          · rw [if_neg d, if_neg (by omega)]
  · rw [if_neg (by omega)]
    exact hR.2.2.2.2 j hj
theorem A_first (h : CX w ns R k D P row S) {v : Nat} (hv : P.2.2.2.2.2.2 = nI v) (hv2 : v + 100 < 2 ^ 31) {d : Nat} (hd : d ≤ 120) (ac : Nat → Int32) :
    ∃ r P' ac' row', F_X10_putFirst (nI d) P = some (r, P') ∧ F_X11_doFirst (nI d) ac row = some (r, (ac', row')) ∧ F_X10_counted r ac = some (r, ac') ∧ AR P S v row' P' S := by
  obtain ⟨hw, hP, hR, hS⟩ := h
  have h30 := hw.2.2.2.1
  unfold F_X10_putFirst F_X11_doFirst
  rw [L_placeOf hw hP (by omega), M_placeOf hw hR (by omega), Option.bind_some, Option.bind_some]
  cases hp : pl k D d with
  | none =>
    obtain ⟨ac', he⟩ := ends_ex (-2) ac
    dsimp only
    rw [if_pos (show m1 = -1 from rfl), if_pos (show m1 = -1 from rfl), he]
    exact ⟨-2, P, ac', row, rfl, rfl, he, w, ns, R, k, D, v, ⟨hw, hP, hR, hS⟩, hv, Nat.le_refl _, by omega⟩
  | some i =>
    obtain ⟨-, hi, hdi, -⟩ := fi_some hp
    have hi : i < k := by omega
    have hdi : D i = d := by simpa using hdi
    obtain ⟨ac', he⟩ := ends_ex (nI i) ac
    obtain ⟨T, t1, t2, t3⟩ := L_moveToFront hw hP hv hi
    obtain ⟨row', r1, r2⟩ := M_doFirst hw hR hi ac ac' he
    rw [hdi] at r1
    dsimp only
    rw [if_neg (m1_ne (by omega)), if_neg (m1_ne (by omega)), t1, r1, Option.bind_some]
    have hw' : WF w ns R k (fun j => D (mf i j)) := hw.perm (Nat.le_refl _) (fun j hj => mf_lt hi hj) (fun a b _ _ e => mf_inj e)
    -- the plan as written keeps its rooms
    have hT : PX w ns R k (fun j => D (mf i j)) (T.1, T.2.1, P.2.2.1, T.2.2.2.1, T.2.2.2.2.1, T.2.2.2.2.2.1, T.2.2.2.2.2.2) := ⟨t2.1, t2.2.1, hP.2.2.1, t2.2.2.2.1, t2.2.2.2.2.1, t2.2.2.2.2.2⟩
    refine ⟨nI i, _, ac', row', rfl, rfl, he, w, ns, R, k, fun j => D (mf i j), v + i, ⟨hw', hT, r2, ?_⟩, t3, by omega, by omega⟩
    by_cases z : i = 0
    · -- it was first: nothing moves
      have e : (fun j => D (mf i j)) = D := by
        funext j
        rw [z]
        unfold mf
        by_cases c : j = 0
        · rw [if_pos c, c]
        · rw [if_neg c, if_neg (by omega)]
      rw [e]
      have ev : T.2.2.2.2.2.2 = P.2.2.2.2.2.2 := by rw [t3, hv, z]; rfl
      unfold SOK at hS ⊢
      show (S.2.2.2.2.2 = m1 ∨ S.2.2.2.2.2 = T.2.2.2.2.2.2 ∨ _) ∧ (S.2.2.2.2.2 = T.2.2.2.2.2.2 → _)
      rw [ev]
      exact hS
    · exact hS.bump hv t3 (by omega) (by omega)
end
