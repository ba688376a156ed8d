/-! ===== PURE: a push on both sides ===== -/
section
variable {P : PlanT}
theorem HX.push {t : HistT} {hist kept : Nat → Int32} {u : Int32} (h : HX t hist u) (hP : KP P kept) :
    ∃ t' hist' u', F_X1_push t P = some t' ∧ F_X11_record hist kept u = some (hist', u') ∧ HX t' hist' u' := by
  obtain ⟨a, c, ha, hc, h1, h2, rfl, hk⟩ := h
  obtain ⟨T', k1, k2⟩ := L_push ha hc h1 h2 hP
  by_cases z : c = 8
  · subst z
    obtain ⟨hist', r1, r2, r3⟩ := record_8 hist kept
    rw [if_pos rfl, if_pos rfl] at k2
    refine ⟨_, hist', nI 8, k2, r1, (a + 1) % 8, 8, Nat.mod_lt _ (by decide), Nat.le_refl _, rfl, rfl, rfl, fun i hi => ?_⟩
    have ea : (a + 8) % 8 = a := by rw [Nat.add_mod_right, Nat.mod_eq_of_lt ha]
    show KP (va_up t.1 ((a + 8) % 8) T' (((a + 1) % 8 + i) % 8)) _
    rw [ea]
    by_cases e : i = 7
    · have : ((a + 1) % 8 + i) % 8 = a := by omega
      rw [this]
      unfold va_up
      rw [if_pos rfl]
      refine k1.rows (fun j hj => ?_)
      rw [e]
      exact r3 j hj
    · have e2 : ((a + 1) % 8 + i) % 8 = (a + (i + 1)) % 8 := by omega
      have e3 : (a + (i + 1)) % 8 ≠ a := by omega
      rw [e2]
      unfold va_up
      rw [if_neg e3]
      exact (hk (i + 1) (by omega)).rows (fun j hj => r2 i (by omega) j hj)
  · obtain ⟨hist', r1, r2, r3⟩ := record_lo (by omega : c < 8) hist kept
    rw [if_neg z, if_neg z] at k2
    refine ⟨_, hist', nI (c + 1), k2, r1, a, c + 1, ha, by omega, rfl, rfl, rfl, fun i hi => ?_⟩
    show KP (va_up t.1 ((a + c) % 8) T' ((a + i) % 8)) _
    by_cases e : i = c
    · rw [e]
      unfold va_up
      rw [if_pos rfl]
      exact k1.rows (fun j hj => r3 j hj)
    · have e3 : (a + i) % 8 ≠ (a + c) % 8 := by omega
      unfold va_up
      rw [if_neg e3]
      exact (hk i (by omega)).rows (fun j hj => r2 i (by omega) j hj)
end
