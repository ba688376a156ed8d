/-! ===== PURE: actions: swap, the reference's half ===== -/
section
variable {w ns k : Nat} {R D : Nat → Nat} {P : PlanT} {row : Nat → Int32} {S : SieveT} {L : Nat}
/-- the D that struck first, kept -/
def od (w k : Nat) (D : Nat → Nat) (n : Nat) : Int32 := if off w n = true then m1 else (match fh k D n with
  | none => m1
  | some a => nI (D a))
theorem M_swapLoop2 (hw : WF w ns R k D) (hL : L ≤ 4801) {D' : Nat → Nat} (hw' : WF w ns R k D') (hR' : RX w ns R k D' row) (hs : ∀ n, (fh k D' n).isSome = (fh k D n).isSome) {o t kd ac ac' : Nat → Int32} (hS : RS w k D' L o t) (hkd : ∀ n, 2 ≤ n → n ≤ L → kd n = od w k D n) (a b : Int32)
    (he : F_X11_ends (nI (cn (chg w k D D') 2 (max 2 (L + 1) - 2))) ac = some (nI (cn (chg w k D D') 2 (max 2 (L + 1) - 2)), ac')) :
    fx (fun _ _ _ _ _ _ _ _ => none) (B_X11_doSwap_121 a b) FUEL (nI 0) (nI 2) ac (nI L) o kd row t = some (nI (cn (chg w k D D') 2 (max 2 (L + 1) - 2)), (ac', nI L, o, kd, row, t)) := by
  have h30 := hw.2.2.2.1
  refine fx8 (Q := fun u x c1 e oo kk rr tt m r => ac = c1 ∧ e = nI L ∧ o = oo ∧ kd = kk ∧ row = rr ∧ t = tt ∧ ∃ c n, u = nI c ∧ x = nI n ∧ 2 ≤ n ∧ n ≤ max 2 (L + 1) ∧ m = max 2 (L + 1) - n ∧ c + cn (chg w k D D') n (max 2 (L + 1) - n) = cn (chg w k D D') 2 (max 2 (L + 1) - 2) ∧ r = some (nI (cn (chg w k D D') 2 (max 2 (L + 1) - 2)), (ac', nI L, o, kd, row, t)))
    ?_ FUEL _ _ _ _ _ _ _ _ (max 2 (L + 1) - 2) _ ⟨rfl, rfl, rfl, rfl, rfl, rfl, 0, 2, rfl, rfl, by omega, by omega, rfl, by rw [Nat.zero_add], rfl⟩ (by unfold FUEL; omega)
  rintro K _ _ _ _ _ _ _ _ _ _ ih ⟨rfl, rfl, rfl, rfl, rfl, rfl, c, n, rfl, rfl, h1, h2, rfl, hcn, rfl⟩
  unfold B_X11_doSwap_121
  by_cases q : L < n
  · rw [show max 2 (L + 1) - n = 0 by omega] at hcn
    have hcn : c = cn (chg w k D D') 2 (max 2 (L + 1) - 2) := hcn
    rw [if_pos (nI_lt q (by omega)), hcn, he]
    rfl
  · rw [show max 2 (L + 1) - n = (max 2 (L + 1) - (n + 1)) + 1 by omega, cn_s] at hcn
    have hn : ∀ c, c + cn (chg w k D D') (n + 1) (max 2 (L + 1) - (n + 1)) = cn (chg w k D D') 2 (max 2 (L + 1) - 2) → K (nI c) (nI (n + 1)) ac (nI L) o kd row t = some (nI (cn (chg w k D D') 2 (max 2 (L + 1) - 2)), (ac', nI L, o, kd, row, t)) := fun c hc =>
      ih _ _ _ _ _ _ _ _ (max 2 (L + 1) - (n + 1)) _ (by omega) ⟨rfl, rfl, rfl, rfl, rfl, rfl, c, n + 1, rfl, rfl, by omega, by omega, rfl, hc, rfl⟩
    have e1 : nI n + 1 = nI (n + 1) := e_add n 1
    rw [if_neg (nI_nlt (by omega) (by omega)), ix_nI (by omega) (by decide), nI_clamp (by omega), ix_nI (by omega) (by decide), ix_nI (by omega) (by decide), (hS n (by omega)).1, hkd n h1 (by omega)]
    have ec : chg w k D D' n = (!off w n && (match fh k D n, fh k D' n with
      | some a, some b => decide (¬ D' b = D a)
      | _, _ => false)) := rfl
    have hsn := hs n
    unfold ow od
    rw [ec] at hcn
    cases ho : off w n with
    | true =>
      rw [ho, show ((!true && (match fh k D n, fh k D' n with
        | some a, some b => decide (¬ D' b = D a)
        | _, _ => false)) = false) from rfl, if_neg Bool.false_ne_true, Nat.zero_add] at hcn
      rw [if_pos rfl, if_pos (show m1 = -1 from rfl), nm_e1, nm_e1, e1, show nI c + 0 = nI c from Int32.add_zero _]
      exact hn c hcn
    | false =>
      rw [ho] at hcn
      rw [if_neg Bool.false_ne_true, if_neg Bool.false_ne_true]
      cases hf' : fh k D' n with
      | none =>
        rw [hf'] at hsn
        cases hf : fh k D n with
        | some a => rw [hf] at hsn; cases hsn
        | none =>
          rw [hf, hf'] at hcn
          rw [show oI none = m1 from rfl, if_pos (show m1 = -1 from rfl), nm_e1, nm_e1, e1, show nI c + 0 = nI c from Int32.add_zero _]
          refine hn c ?_
          have hcn : c + ((if (!false && false) = true then 1 else 0) + cn (chg w k D D') (n + 1) (max 2 (L + 1) - (n + 1))) = cn (chg w k D D') 2 (max 2 (L + 1) - 2) := hcn
          rw [show (if (!false && false) = true then 1 else 0) = 0 from rfl, Nat.zero_add] at hcn
          exact hcn
      | some j =>
        rw [hf'] at hsn
        cases hf : fh k D n with
        | none => rw [hf] at hsn; cases hsn
        | some i =>
          obtain ⟨-, hi, -⟩ := fi_some hf
          obtain ⟨-, hj, -⟩ := fi_some hf'
          have d1 := hw.2.2.2.2.1 i (by omega)
          have d2 := hw'.2.2.2.2.1 j (by omega)
          rw [hf, hf'] at hcn
          have hcn : c + ((if (!false && decide (¬ D' j = D i)) = true then 1 else 0) + cn (chg w k D D') (n + 1) (max 2 (L + 1) - (n + 1))) = cn (chg w k D D') 2 (max 2 (L + 1) - 2) := hcn
          have e2 : (15 : Int32) + nI j = nI (15 + j) := e_add 15 j
          show (if nI j = -1 then _ else ix (15 + nI j) 45 (if row (15 + nI j).toNatClampNeg = nI (D i) then _ else _)) = _
          rw [if_neg (m1_ne (by omega)), e2, ix_nI (by omega) (by decide), nI_clamp (by omega), hR'.2.2.2.2 j (by omega), nm_e1, nm_e1, nm_e1, nm_e1, e1, show nI c + 0 = nI c from Int32.add_zero _, show nI c + 1 = nI (c + 1) from e_add c 1]
          by_cases z : D' j = D i
          · rw [if_pos (by rw [z])]
            refine hn c ?_
            rw [show (if (!false && decide (¬ D' j = D i)) = true then 1 else 0) = 0 by simp [z], Nat.zero_add] at hcn
            exact hcn
          · rw [if_neg (fun y => z (by rw [e_eq (by omega) (by omega)] at y; exact y))]
            refine hn (c + 1) ?_
            rw [show (if (!false && decide (¬ D' j = D i)) = true then 1 else 0) = 1 by simp [z], ← Nat.add_assoc] at hcn
            exact hcn
end
