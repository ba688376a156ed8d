/-! ===== PURE: actions: lift ===== -/
section
variable {w ns k : Nat} {R D : Nat → Nat} {P : PlanT} {row : Nat → Int32} {S : SieveT} {L : Nat}
/-- without i -/
def rm (i j : Nat) : Nat := if j < i then j else j + 1
theorem rm_lt {i j : Nat} (hi : i < k) (hj : j < k - 1) : rm i j < k := by
  unfold rm
  split <;> omega
theorem rm_inj {i a b : Nat} (h : rm i a = rm i b) : a = b := by
  unfold rm at h
  split at h
  · split at h <;> omega
  · split at h <;> omega
theorem WF.less (hw : WF w ns R k D) {i : Nat} (hi : i < k) : WF w ns R (k - 1) (fun j => D (rm i j)) :=
  hw.perm (by omega) (fun j hj => rm_lt hi hj) (fun a b _ _ e => rm_inj e)
theorem L_removeStriker (hw : WF w ns R k D) (hP : PX w ns R k D P) {i : Nat} (hi : i < k) :
    ∃ T, F_X3_removeStriker (nI i) P = some T ∧ PX w ns R (k - 1) (fun j => D (rm i j)) T ∧ T.2.2.2.2.2.2 = P.2.2.2.2.2.2 + 1 := by
  have h30 := hw.2.2.2.1
  unfold F_X3_removeStriker
  rw [hP.2.2.2.2.1, if_neg (nI_pos (by omega)), if_pos (nI_lt hi (by omega))]
  refine fx2E (Post := fun r => ∃ T, r = some T ∧ PX w ns R (k - 1) (fun j => D (rm i j)) T ∧ T.2.2.2.2.2.2 = P.2.2.2.2.2.2 + 1)
    (Q := fun a T m => ∃ x, a = nI x ∧ i ≤ x ∧ x < k ∧ m = k - x ∧ PX w ns R k (fun j => D (if i ≤ j ∧ j < x then j + 1 else j)) T ∧ T.2.2.2.2.2.2 = P.2.2.2.2.2.2)
    ?_ FUEL _ _ (k - i) ⟨i, rfl, Nat.le_refl _, hi, rfl, ?_, rfl⟩ (by unfold FUEL; omega)
  · rintro K _ T _ ih ⟨x, rfl, hx, hxk, rfl, hT, hv⟩
    unfold B_X3_removeStriker_15
    have e1 : nI x + 1 = nI (x + 1) := e_add x 1
    rw [e1, hT.2.2.2.2.1]
    by_cases z : k ≤ x + 1
    · rw [if_pos (nI_le z (by omega)), nm_e1, nm_e1, show nI k - 1 = nI (k - 1) from e_sub (b := 1) (by omega)]
      refine ⟨_, rfl, ⟨hT.1, hT.2.1, hT.2.2.1, hT.2.2.2.1, rfl, fun j hj => ?_⟩, ?_⟩
      · show T.2.2.2.2.2.1 j = nI (D (rm i j))
        rw [hT.2.2.2.2.2 j (by omega)]
        show nI (D (if i ≤ j ∧ j < x then j + 1 else j)) = nI (D (if j < i then j else j + 1))
        by_cases c : j < i
        · rw [if_neg (by omega), if_pos c]
        · rw [if_pos ⟨by omega, by omega⟩, if_neg c]
      · show T.2.2.2.2.2.2 + 1 = _
        rw [hv]
    · rw [if_neg (nI_ge (by omega) (by omega)), if_neg (show ¬ 30 ≤ nI (x + 1) from nI_ge (b := 30) (by omega) (by decide)), ix_nI (by omega) (by decide), nm_e1, ix_nI (by omega) (by decide), nm_e1, nI_clamp (by omega), nI_clamp (by omega), hT.2.2.2.2.2 (x + 1) (by omega)]
      refine ih _ _ (k - (x + 1)) (by omega) ⟨x + 1, rfl, by omega, by omega, rfl, ⟨hT.1, hT.2.1, hT.2.2.1, hT.2.2.2.1, rfl, fun j hj => ?_⟩, hv⟩
      show upd T.2.2.2.2.2.1 x (nI (D (if i ≤ x + 1 ∧ x + 1 < x then x + 1 + 1 else x + 1))) j = nI (D (if i ≤ j ∧ j < x + 1 then j + 1 else j))
      by_cases c : j = x
      · rw [c, pk_us, if_neg (by omega), if_pos ⟨hx, by omega⟩]
      · rw [pk_un c, hT.2.2.2.2.2 j hj]
        show nI (D (if i ≤ j ∧ j < x then j + 1 else j)) = _
        by_cases d : i ≤ j ∧ j < x
        · rw [if_pos d, if_pos ⟨d.1, by omega⟩]
        · rw [if_neg d, if_neg (by omega)]
  · have : (fun j => D (if i ≤ j ∧ j < i then j + 1 else j)) = D := by
      funext j
      rw [if_neg (by omega)]
    rw [this]
    exact hP
end
