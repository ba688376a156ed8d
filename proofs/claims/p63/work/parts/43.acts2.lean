/-! ===== PURE: actions: lay, add ===== -/
section
variable {w ns k : Nat} {R D : Nat → Nat} {P : PlanT} {row : Nat → Int32} {S : SieveT} {L : Nat}
/-- a striker more -/
theorem fh_more {d n : Nat} : fh k (up1 D k d) n = fh k D n := fi_cong (fun i _ hi => by rw [up1_n (by omega)])
theorem WF.more (hw : WF w ns R k D) {d : Nat} (h30 : k < 30) (h2 : 2 ≤ d) (h120 : d ≤ 120) (hn : pl k D d = none) : WF w ns R (k + 1) (up1 D k d) := by
  obtain ⟨a1, a2, a3, a4, a5, a6⟩ := hw
  have ne : ∀ i, i < k → D i ≠ d := fun i hi e => by
    have := fi_none.mp hn i (by omega) (by omega)
    rw [decide_eq_true e] at this
    cases this
  refine ⟨a1, a2, a3, by omega, fun i hi => ?_, fun i j hi hj e => ?_⟩
  · by_cases q : i = k
    · rw [q, up1_s]; omega
    · rw [up1_n q]; exact a5 i (by omega)
  · by_cases q : i = k
    · by_cases q2 : j = k
      · rw [q, q2]
      · rw [q, up1_s, up1_n q2] at e
        exact absurd e.symm (ne j (by omega))
    · by_cases q2 : j = k
      · rw [q2, up1_s, up1_n q] at e
        exact absurd e (ne i (by omega))
      · rw [up1_n q, up1_n q2] at e
        exact a6 i j (by omega) (by omega) e
theorem PX.more (hP : PX w ns R k D P) {d : Nat} (x : Int32) : PX w ns R (k + 1) (up1 D k d) (P.1, P.2.1, P.2.2.1, P.2.2.2.1, nI (k + 1), upd P.2.2.2.2.2.1 k (nI d), x) := by
  obtain ⟨r1, r2, r3, r4, r5, r6⟩ := hP
  refine ⟨r1, r2, r3, r4, rfl, fun i hi => ?_⟩
  show upd P.2.2.2.2.2.1 k (nI d) i = nI (up1 D k d i)
  by_cases e : i = k
  · rw [e, pk_us, up1_s]
  · rw [pk_un e, up1_n e]; exact r6 i (by omega)
theorem L_appendStriker (hP : PX w ns R k D P) (h30 : k < 30) (d : Nat) : F_X3_appendStriker (nI d) P = some (P.1, P.2.1, P.2.2.1, P.2.2.2.1, nI (k + 1), upd P.2.2.2.2.2.1 k (nI d), P.2.2.2.2.2.2 + 1) := by
  unfold F_X3_appendStriker
  rw [hP.2.2.2.2.1, if_neg (nI_pos (by omega)), if_neg (show ¬ 30 ≤ nI k from nI_ge (b := 30) h30 (by decide)), ix_nI (by omega) (by decide), nI_clamp (by omega), nm_e1, nm_e1, show nI k + 1 = nI (k + 1) from e_add k 1]
theorem own_more (h1 : D ≠ D ∨ True) {d n : Nat} : own w (k + 1) (up1 D k d) k n = (mk w k D n && hit n d) := by
  unfold own mk
  rw [fh_succ, fh_more, up1_s]
  cases off w n with
  | true => rfl
  | false =>
    cases hf : fh k D n with
    | some i =>
      obtain ⟨-, hi, -⟩ := fi_some hf
      have : ¬ i = k := by omega
      simp [this]
    | none =>
      cases hit n d <;> simp
end
