/-! ===== PURE: actions: first, lift ===== -/
section
variable {w ns k : Nat} {R D : Nat → Nat} {P : PlanT} {row : Nat → Int32} {S : SieveT} {L : Nat}
theorem WF.perm (hw : WF w ns R k D) {k' : Nat} {σ : Nat → Nat} (hk : k' ≤ k) (h1 : ∀ j, j < k' → σ j < k) (h2 : ∀ a b, a < k' → b < k' → σ a = σ b → a = b) : WF w ns R k' (fun j => D (σ j)) := by
  obtain ⟨a1, a2, a3, a4, a5, a6⟩ := hw
  exact ⟨a1, a2, a3, by omega, fun i hi => a5 _ (h1 i hi), fun i j hi hj e => h2 i j hi hj (a6 _ _ (h1 i hi) (h1 j hj) e)⟩
/-- i comes first -/
def mf (i j : Nat) : Nat := if j = 0 then i else if j ≤ i then j - 1 else j
/-- i has come to x -/
def mx (i x j : Nat) : Nat := if j = x then i else if x < j ∧ j ≤ i then j - 1 else j
theorem mx_0 {i j : Nat} : mx i 0 j = mf i j := by
  unfold mx mf
  by_cases e : j = 0
  · rw [if_pos e, if_pos e]
  · rw [if_neg e, if_neg e]
    by_cases c : j ≤ i
    · rw [if_pos ⟨by omega, c⟩, if_pos c]
    · rw [if_neg (fun q => c q.2), if_neg c]
theorem mx_i {i j : Nat} : mx i i j = j := by
  unfold mx
  by_cases e : j = i
  · rw [if_pos e, e]
  · rw [if_neg e, if_neg (by omega)]
theorem L_exchange (hw : WF w ns R k D) (hP : PX w ns R k D P) {i j : Nat} (hi : i < k) (hj : j < k) :
    F_X3_exchange (nI i) (nI j) P = some (P.1, P.2.1, P.2.2.1, P.2.2.2.1, P.2.2.2.2.1, upd (upd P.2.2.2.2.2.1 i (nI (D j))) j (nI (D i)), P.2.2.2.2.2.2 + 1) := by
  have h30 := hw.2.2.2.1
  unfold F_X3_exchange
  rw [if_neg (nI_pos (by omega)), if_neg (show ¬ 30 ≤ nI i from nI_ge (b := 30) (by omega) (by decide)), if_neg (nI_pos (by omega)), if_pos (show nI j < 30 from nI_lt (b := 30) (by omega) (by decide)), ix_nI (by omega) (by decide), nm_e1, ix_nI (by omega) (by decide), nm_e1, ix_nI (by omega) (by decide), ix_nI (by omega) (by decide), nm_e1, nI_clamp (by omega), nI_clamp (by omega), hP.2.2.2.2.2 i hi, hP.2.2.2.2.2 j hj]
theorem mx_step {i x j : Nat} (hx : 0 < x) (hxi : x ≤ i) : mx i (x - 1) j = if j = x - 1 then mx i x x else if j = x then mx i x (x - 1) else mx i x j := by
  unfold mx
  by_cases e : j = x - 1
  · rw [if_pos e, if_pos e, if_pos rfl]
  · rw [if_neg e, if_neg e]
    by_cases c : j = x
    · rw [if_pos c, if_pos ⟨by omega, by omega⟩, if_neg (by omega), if_neg (by omega)]
      omega
    · rw [if_neg c, if_neg c]
      by_cases d : x < j ∧ j ≤ i
      · rw [if_pos d, if_pos ⟨by omega, d.2⟩]
      · rw [if_neg d, if_neg (by omega)]
theorem mf_lt {i j : Nat} (hi : i < k) (hj : j < k) : mf i j < k := by
  unfold mf
  split
  · exact hi
  · split <;> omega
theorem mf_inj {i a b : Nat} (h : mf i a = mf i b) : a = b := by
  unfold mf at h
  split at h
  · split at h
    · omega
    · split at h <;> omega
  · split at h
    · split at h
      · omega
      · split at h <;> omega
    · split at h
      · omega
      · split at h <;> omega
theorem L_moveToFront (hw : WF w ns R k D) (hP : PX w ns R k D P) {v : Nat} (hv : P.2.2.2.2.2.2 = nI v) {i : Nat} (hi : i < k) :
    ∃ T, F_X3_moveToFront (nI i) P = some T ∧ PX w ns R k (fun j => D (mf i j)) T ∧ T.2.2.2.2.2.2 = nI (v + i) := by
  have h30 := hw.2.2.2.1
  unfold F_X3_moveToFront
  rw [show (if (30 - 1 : Int32) < nI i then (30 - 1 : Int32) else nI i) = nI i from if_neg (show ¬ nI 29 < nI i from nI_nlt (by omega) (by decide)), nm_e1]
  refine fx2E (Post := fun r => ∃ T, r = some T ∧ PX w ns R k (fun j => D (mf i j)) T ∧ T.2.2.2.2.2.2 = nI (v + i))
    (Q := fun a T m => ∃ x, a = nI x ∧ x ≤ i ∧ m = x ∧ PX w ns R k (fun j => D (mx i x j)) T ∧ T.2.2.2.2.2.2 = nI (v + (i - x)))
    ?_ FUEL _ _ i ⟨i, rfl, Nat.le_refl _, rfl, ?_, ?_⟩ (by unfold FUEL; omega)
  · rintro K _ T x ih ⟨_, rfl, hx, rfl, hT, hv⟩
    unfold B_X3_moveToFront_12
    by_cases z : x ≤ 0
    · have e : x = 0 := by omega
      subst e
      rw [if_pos (by decide)]
      refine ⟨T, rfl, ?_, hv⟩
      have : (fun j => D (mf i j)) = (fun j => D (mx i 0 j)) := by
        funext j
        rw [mx_0]
      rw [this]
      exact hT
    · have hw2 : WF w ns R k (fun j => D (mx i x j)) := by
        refine hw.perm (Nat.le_refl _) (fun j hj => ?_) (fun a b ha hb e => ?_)
        · unfold mx
          split
          · exact hi
          · split <;> omega
        · unfold mx at e
          split at e
          · split at e
            · omega
            · split at e <;> omega
          · split at e
            · split at e
              · omega
              · split at e <;> omega
            · split at e
              · omega
              · split at e <;> omega
      have e1 : nI x - 1 = nI (x - 1) := e_sub (b := 1) (by omega)
      have e2 : nI x + (-1) = nI (x - 1) := e_pred (by omega)
      rw [if_neg (nI_nle (by omega) (by omega)), e1, L_exchange hw2 hT (by omega) (by omega), Option.bind_some, nm_e1, e2]
      refine ih _ _ (x - 1) (by omega) ⟨x - 1, rfl, by omega, rfl, ⟨hT.1, hT.2.1, hT.2.2.1, hT.2.2.2.1, hT.2.2.2.2.1, fun j hj => ?_⟩, ?_⟩
      · show upd (upd T.2.2.2.2.2.1 x (nI (D (mx i x (x - 1))))) (x - 1) (nI (D (mx i x x))) j = nI (D (mx i (x - 1) j))
        rw [mx_step (by omega) hx]
        by_cases c : j = x - 1
        · rw [c, pk_us, if_pos rfl]
        · rw [pk_un c, if_neg c]
          by_cases d : j = x
          · rw [d, pk_us, if_pos rfl]
          · rw [pk_un d, if_neg d]
            exact hT.2.2.2.2.2 j hj
      · show T.2.2.2.2.2.2 + 1 = _
        rw [hv, show (1 : Int32) = nI 1 from rfl, e_add, show v + (i - x) + 1 = v + (i - (x - 1)) by omega]
  · have : (fun j => D (mx i i j)) = D := by
      funext j
      rw [mx_i]
    rw [this]
    exact hP
  · rw [hv, show i - i = 0 by omega]
    rfl
end
