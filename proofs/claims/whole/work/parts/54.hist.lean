/-! ===== PURE: plans kept ===== -/
section
variable {w ns k : Nat} {R D : Nat → Nat} {P : PlanT} {row : Nat → Int32} {S : SieveT} {L : Nat}
theorem L_takeOver (hw : WF w ns R k D) (hP : PX w ns R k D P) (T : PlanT) : ∃ T', F_X3_takeOver T P = some T' ∧ PX w ns R k D T' ∧ T'.2.2.2.2.2.2 = T.2.2.2.2.2.2 + 1 := by
  have h12 := hw.2.1
  have h30 := hw.2.2.2.1
  refine ⟨_, rfl, ⟨hP.1, hP.2.1, fun i hi => ?_, hP.2.2.2.1, hP.2.2.2.2.1, fun i hi => ?_⟩, rfl⟩
  · show va_cpy P.2.2.1 T.2.2.1 0 0 12 i = nI (R i)
    rw [pk_cpy_in (Nat.zero_le _) (by omega), Nat.zero_add, Nat.sub_zero]
    exact hP.2.2.1 i hi
  · show va_cpy P.2.2.2.2.2.1 T.2.2.2.2.2.1 0 0 30 i = nI (D i)
    rw [pk_cpy_in (Nat.zero_le _) (by omega), Nat.zero_add, Nat.sub_zero]
    exact hP.2.2.2.2.2 i hi
/-- one plan kept on both sides -/
def KP (P : PlanT) (row : Nat → Int32) : Prop := ∃ w ns R k D, WF w ns R k D ∧ PX w ns R k D P ∧ RX w ns R k D row
/-- the histories: a the oldest, c so many -/
def HX (t : HistT) (hist : Nat → Int32) (u : Int32) : Prop :=
  ∃ a c, a < 8 ∧ c ≤ 8 ∧ t.2.1 = nI a ∧ t.2.2 = nI c ∧ u = nI c ∧ ∀ i, i < c → KP (t.1 ((a + i) % 8)) (fun j => hist (45 * i + j))
theorem KP.take (h : KP P row) (T : PlanT) : ∃ T', F_X3_takeOver T P = some T' ∧ KP T' row ∧ T'.2.2.2.2.2.2 = T.2.2.2.2.2.2 + 1 := by
  obtain ⟨w, ns, R, k, D, h1, h2, h3⟩ := h
  obtain ⟨T', t1, t2, t3⟩ := L_takeOver h1 h2 T
  exact ⟨T', t1, ⟨w, ns, R, k, D, h1, t2, h3⟩, t3⟩
theorem KP.rows {row' : Nat → Int32} (h : KP P row) (e : ∀ j, j < 45 → row' j = row j) : KP P row' := by
  obtain ⟨w, ns, R, k, D, h1, h2, r1, r2, r3, r4, r5⟩ := h
  have h12 := h1.2.1
  have h30 := h1.2.2.2.1
  refine ⟨w, ns, R, k, D, h1, h2, ?_, ?_, fun i hi => ?_, ?_, fun i hi => ?_⟩
  · rw [e 0 (by decide)]; exact r1
  · rw [e 1 (by decide)]; exact r2
  · rw [e (2 + i) (by omega)]; exact r3 i hi
  · rw [e 14 (by decide)]; exact r4
  · rw [e (15 + i) (by omega)]; exact r5 i hi
/-- the class's push -/
theorem L_push {t : HistT} {a c : Nat} (ha : a < 8) (hc : c ≤ 8) (h1 : t.2.1 = nI a) (h2 : t.2.2 = nI c) (hP : KP P row) :
    ∃ T', KP T' row ∧ F_X1_push t P = some (va_up t.1 ((a + c) % 8) T', (if c = 8 then nI ((a + 1) % 8) else nI a), (if c = 8 then nI 8 else nI (c + 1))) := by
  have hm : (a + c) % 8 < 8 := Nat.mod_lt _ (by decide)
  obtain ⟨T', t1, t2, -⟩ := hP.take (t.1 ((a + c) % 8))
  refine ⟨T', t2, ?_⟩
  unfold F_X1_push
  rw [h1, h2]
  have e : nI a + nI c - (nI a + nI c) / 8 * 8 = nI ((a + c) % 8) := by
    rw [e_add]
    exact pk_rem (by omega) (by decide) (by decide)
  have e2 : nI a + 1 - (nI a + 1) / 8 * 8 = nI ((a + 1) % 8) := by
    rw [show nI a + 1 = nI (a + 1) from e_add a 1]
    exact pk_rem (by omega) (by decide) (by decide)
  rw [e, ix_nI hm (by decide), nm_e1, nI_clamp (by omega), t1, Option.bind_some]
  by_cases z : c = 8
  · rw [if_pos (show (8 : Int32) ≤ nI c from nI_le (a := 8) (by omega) (by omega)), nm_e1, e2, if_pos z, if_pos z, z]
  · rw [if_neg (show ¬ (8 : Int32) ≤ nI c from nI_ge (b := 8) (by omega) (by decide)), nm_e1, if_neg z, if_neg z, show nI c + 1 = nI (c + 1) from e_add c 1]
end
