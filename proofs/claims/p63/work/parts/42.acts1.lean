/-! ===== PURE: actions: wheel, drop, trim ===== -/
section
variable {w ns k : Nat} {R D : Nat → Nat} {P : PlanT} {row : Nat → Int32} {S : SieveT} {L : Nat}
theorem SOK.bump {w' k' : Nat} {D' : Nat → Nat} {L' : Nat} {P' : PlanT} {v v' : Nat} (h : SOK w k D L P S) (h1 : P.2.2.2.2.2.2 = nI v) (h2 : P'.2.2.2.2.2.2 = nI v') (h3 : v < v') (h4 : v' < 2 ^ 31) : SOK w' k' D' L' P' S := by
  obtain ⟨h, -⟩ := h
  have no : ∀ b, b ≤ v → S.2.2.2.2.2 = nI b → ¬ S.2.2.2.2.2 = P'.2.2.2.2.2.2 := by
    intro b hb e q
    rw [e, h2, e_eq (by omega) (by omega)] at q
    omega
  rcases h with h | h | ⟨b, u, hu, hb, e1, e2⟩
  · refine ⟨Or.inl h, fun q => ?_⟩
    rw [h, h2] at q
    exact absurd q.symm (m1_ne h4)
  · refine ⟨Or.inr (Or.inr ⟨v, v', h4, by omega, h2, by rw [h, h1]⟩), fun q => absurd q (no v (Nat.le_refl _) (by rw [h, h1]))⟩
  · rw [h1, e_eq (by omega) hu] at e1
    exact ⟨Or.inr (Or.inr ⟨b, v', h4, by omega, h2, e2⟩), fun q => absurd q (no b (by omega) e2)⟩
theorem L_lastRoom (hw : WF w ns R k D) (hP : PX w ns R k D P) (h0 : 0 < ns) : F_X3_lastRoom P = some (nI (R (ns - 1))) := by
  have h12 := hw.2.1
  unfold F_X3_lastRoom
  rw [hP.2.1]
  simp (disch := omega) only [↓m1_d, ↓m2_d, e_m2, e_m2', e_m12, e_m21, liN, e_le, e_lt, e_eqm, e_eq, e_m1, e_m1', e_m1l, e_m1e, e_m1g, e_m1h, e_add, e_mul, e_sub, e_pred, e_rem, ix_nI, nz_nI, nI_clamp, nm_e1, Nat.add_zero, if_true, if_false, Nat.reduceEqDiff, eq_self, reduceIte, hP.2.2.1 (ns - 1) (by omega)]
  rw [if_neg (by omega), if_pos (by omega)]
theorem L_removeStretch (hw : WF w ns R k D) (hP : PX w ns R k D P) (h0 : 0 < ns) :
    F_X3_removeStretch P = some (P.1, nI (ns - 1), P.2.2.1, nI (1 + sm R (ns - 1)), P.2.2.2.2.1, P.2.2.2.2.2.1, P.2.2.2.2.2.2 + 1) := by
  have h12 := hw.2.1
  have hr := hw.2.2.1 (ns - 1) (by omega)
  have hs : sm R ns = sm R (ns - 1) + R (ns - 1) := by
    rw [show ns = (ns - 1) + 1 by omega]
    rfl
  unfold F_X3_removeStretch
  rw [L_lastRoom hw hP h0, hP.2.1, hP.2.2.2.1, Option.bind_some]
  rw [if_neg (show ¬ nI (R (ns - 1)) ≤ 0 from nI_nle (by omega) (by omega)), nm_e1, nm_e1, nm_e1, show nI ns - 1 = nI (ns - 1) from e_sub (b := 1) (by omega), e_sub (by omega), show 1 + sm R ns - R (ns - 1) = 1 + sm R (ns - 1) by omega]
/-- one room changed -/
def up1 (R : Nat → Nat) (i m : Nat) : Nat → Nat := fun j => if j = i then m else R j
theorem up1_s {i m : Nat} : up1 R i m i = m := if_pos rfl
theorem up1_n {i j m : Nat} (h : j ≠ i) : up1 R i m j = R j := if_neg h
theorem sm_up1 {n m : Nat} : sm (up1 R n m) n = sm R n := sm_cong (fun i hi => up1_n (by omega))
theorem L_appendStretch {P : PlanT} {n l m : Nat} (h1 : P.2.1 = nI n) (h2 : n < 12) (h3 : P.2.2.2.1 = nI l) :
    F_X3_appendStretch (nI m) P = some (P.1, nI (n + 1), upd P.2.2.1 n (nI m), nI (l + m), P.2.2.2.2.1, P.2.2.2.2.2.1, P.2.2.2.2.2.2 + 1) := by
  unfold F_X3_appendStretch
  rw [h1, h3, if_neg (nI_pos (by omega)), if_neg (show ¬ 12 ≤ nI n from nI_ge (b := 12) h2 (by decide)), ix_nI (by omega) (by decide), nI_clamp (by omega), nm_e1, nm_e1, nm_e1, show nI n + 1 = nI (n + 1) from e_add n 1, e_add]
end
