/-! ===== PURE: a text: stretches ===== -/
section
variable {w ns k : Nat} {R D : Nat → Nat} {P : PlanT} {row : Nat → Int32}
theorem WF.room (hw : WF w ns R k D) {m : Nat} (h12 : ns < 12) (h1 : 1 ≤ m) (h2 : m ≤ 400) : WF w (ns + 1) (up1 R ns m) k D :=
  ⟨hw.1, by omega, fun i hi => by
    by_cases e : i = ns
    · rw [e, up1_s]; omega
    · rw [up1_n e]; exact hw.2.2.1 i (by omega), hw.2.2.2⟩
theorem PX.room (hP : PX w ns R k D P) {m : Nat} (x : Int32) : PX w (ns + 1) (up1 R ns m) k D (P.1, nI (ns + 1), upd P.2.2.1 ns (nI m), nI (1 + sm R ns + m), P.2.2.2.2.1, P.2.2.2.2.2.1, x) := by
  refine ⟨hP.1, rfl, fun i hi => ?_, ?_, hP.2.2.2.2.1, hP.2.2.2.2.2⟩
  · show upd P.2.2.1 ns (nI m) i = nI (up1 R ns m i)
    by_cases e : i = ns
    · rw [e, pk_us, up1_s]
    · rw [pk_un e, up1_n e]; exact hP.2.2.1 i (by omega)
  · show nI (1 + sm R ns + m) = nI (1 + sm (up1 R ns m) (ns + 1))
    have : sm (up1 R ns m) (ns + 1) = sm R ns + m := by
      show sm (up1 R ns m) ns + up1 R ns m ns = _
      rw [sm_up1, up1_s]
    rw [this, Nat.add_assoc]
end
section
variable {g : Nat → Nat} {f n : Nat} {b : Nat → Int32} {w : Nat} {D : Nat → Nat}
theorem dt {e : Int32} (h : e = 0) : decide (e = 0) = true := decide_eq_true h
theorem df {e : Int32} (h : ¬ e = 0) : ¬ decide (e = 0) = true := fun q => h (of_decide_eq_true q)
end
