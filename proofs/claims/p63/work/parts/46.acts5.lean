/-! ===== PURE: actions: swap ===== -/
theorem fx9E {α β γ δ ε ζ η θ ι R : Type} {bot : α → β → γ → δ → ε → ζ → η → θ → ι → R} {B : (α → β → γ → δ → ε → ζ → η → θ → ι → R) → α → β → γ → δ → ε → ζ → η → θ → ι → R} {Q : α → β → γ → δ → ε → ζ → η → θ → ι → Nat → Prop} {Post : R → Prop}
    (H : ∀ K x y z u v t s q p m, (∀ x' y' z' u' v' t' s' q' p' m', m' < m → Q x' y' z' u' v' t' s' q' p' m' → Post (K x' y' z' u' v' t' s' q' p')) → Q x y z u v t s q p m → Post (B K x y z u v t s q p)) :
    ∀ n x y z u v t s q p m, Q x y z u v t s q p m → m < n → Post (fx bot B n x y z u v t s q p)
  | 0, _, _, _, _, _, _, _, _, _, _, _, h => absurd h (Nat.not_lt_zero _)
  | n + 1, x, y, z, u, v, t, s, q, p, m, hq, h => H _ x y z u v t s q p m (fun x' y' z' u' v' t' s' q' p' m' h1 h2 => fx9E H n x' y' z' u' v' t' s' q' p' m' h2 (by omega)) hq
section
variable {w ns k : Nat} {R D : Nat → Nat} {P : PlanT} {row : Nat → Int32} {S : SieveT} {L : Nat}
/-- i and j change places -/
def sw (i j x : Nat) : Nat := if x = j then i else if x = i then j else x
theorem sw_lt {i j x : Nat} (hi : i < k) (hj : j < k) (hx : x < k) : sw i j x < k := by
  unfold sw
  split
  · exact hi
  · split <;> omega
theorem sw_sw {i j x : Nat} : sw i j (sw i j x) = x := by
  unfold sw
  by_cases a : x = j
  · rw [if_pos a]
    by_cases b : i = j
    · rw [if_pos b, a, b]
    · rw [if_neg b, if_pos rfl, a]
  · rw [if_neg a]
    by_cases b : x = i
    · rw [if_pos b, if_pos rfl, b]
    · rw [if_neg b, if_neg a, if_neg b]
theorem sw_inj {i j a b : Nat} (h : sw i j a = sw i j b) : a = b := by
  rw [← sw_sw (i := i) (j := j) (x := a), h, sw_sw]
/-- struck, and by another first -/
def chg (w k : Nat) (D D' : Nat → Nat) (n : Nat) : Bool := !off w n && (match fh k D n, fh k D' n with
  | some a, some b => decide (¬ D' b = D a)
  | _, _ => false)
theorem fh_sw {i j n : Nat} (hi : i < k) (hj : j < k) : (fh k (fun x => D (sw i j x)) n).isSome = (fh k D n).isSome := by
  unfold fh
  rw [Bool.eq_iff_iff, fi_isSome, fi_isSome]
  refine ⟨fun ⟨x, _, h2, h3⟩ => ⟨sw i j x, by omega, ?_, h3⟩, fun ⟨x, _, h2, h3⟩ => ⟨sw i j x, by omega, ?_, ?_⟩⟩
  · have := sw_lt hi hj (by omega : x < k)
    omega
  · have := sw_lt hi hj (by omega : x < k)
    omega
  · show hit n (D (sw i j (sw i j x))) = true
    rw [sw_sw]
    exact h3
theorem L_swapLoop (hw : WF w ns R k D) (hL : L ≤ 4801) (hv : SV w k D L S) {D' : Nat → Nat} (hw' : WF w ns R k D') {T : PlanT} (hT : PX w ns R k D' T) (hs : ∀ n, (fh k D' n).isSome = (fh k D n).isSome) (a b : Int32) :
    fx (fun _ _ _ _ => none) (B_X10_swapStrikers_55 a b) FUEL (nI 0) (nI 2) T S = some (nI (cn (chg w k D D') 2 (max 2 (L + 1) - 2)), (T, S)) := by
  refine fx4 (Q := fun u x t s m r => T = t ∧ S = s ∧ ∃ c n, u = nI c ∧ x = nI n ∧ 2 ≤ n ∧ n ≤ max 2 (L + 1) ∧ m = max 2 (L + 1) - n ∧ r = some (nI (c + cn (chg w k D D') n (max 2 (L + 1) - n)), (T, S)))
    ?_ FUEL _ _ _ _ (max 2 (L + 1) - 2) _ ⟨rfl, rfl, 0, 2, rfl, rfl, by omega, by omega, rfl, by rw [Nat.zero_add]⟩ (by unfold FUEL; omega)
  rintro K _ _ _ _ _ _ ih ⟨rfl, rfl, c, n, rfl, rfl, h1, h2, rfl, rfl⟩
  unfold B_X10_swapStrikers_55 F_X7_lastNumber
  rw [hv.1, Option.bind_some]
  by_cases q : L < n
  · simp (disch := omega) only [↓m1_d, ↓m2_d, e_m2, e_m2', e_m12, e_m21, liN, e_le, e_lt, e_eqm, e_eq, e_m1, e_m1', e_m1l, e_m1e, e_m1g, e_m1h, e_add, e_mul, e_sub, e_pred, e_rem, ix_nI, nz_nI, nI_clamp, nm_e1, Nat.add_zero, if_true, if_false, Nat.reduceEqDiff, eq_self, reduceIte]
    rw [if_pos q, show max 2 (L + 1) - n = 0 by omega]
    rfl
  · have hn : ∀ c, K (nI c) (nI (n + 1)) T S = some (nI (c + cn (chg w k D D') (n + 1) (max 2 (L + 1) - (n + 1))), (T, S)) := fun c =>
      ih _ _ _ _ (max 2 (L + 1) - (n + 1)) _ (by omega) ⟨rfl, rfl, c, n + 1, rfl, rfl, by omega, by omega, rfl, rfl⟩
    simp (disch := omega) only [↓m1_d, ↓m2_d, e_m2, e_m2', e_m12, e_m21, liN, e_le, e_lt, e_eqm, e_eq, e_m1, e_m1', e_m1l, e_m1e, e_m1g, e_m1h, e_add, e_mul, e_sub, e_pred, e_rem, ix_nI, nz_nI, nI_clamp, nm_e1, Nat.add_zero, if_true, if_false, Nat.reduceEqDiff, eq_self, reduceIte, Option.bind_some, L_ownerOf hL hv (by omega : n < 2 ^ 31), L_firstHit hw' hT (by omega : n < 2 ^ 31)]
    rw [if_neg q, if_pos (show 2 ≤ n ∧ n ≤ L by omega), show max 2 (L + 1) - n = (max 2 (L + 1) - (n + 1)) + 1 by omega, cn_s]
    have ez : oz w k D n = if off w n = true then m1 else oD D (fh k D n) := rfl
    have ec : chg w k D D' n = (!off w n && (match fh k D n, fh k D' n with
      | some a, some b => decide (¬ D' b = D a)
      | _, _ => false)) := rfl
    have hsn := hs n
    rw [ez, ec]
    cases off w n with
    | true =>
      rw [if_pos rfl, if_pos (show m1 ≤ nI 0 by decide)]
      rw [show ((!true && (match fh k D n, fh k D' n with
        | some a, some b => decide (¬ D' b = D a)
        | _, _ => false)) = false) from rfl, if_neg Bool.false_ne_true, Nat.zero_add]
      exact hn c
    | false =>
      rw [if_neg Bool.false_ne_true]
      cases hf : fh k D n with
      | none =>
        rw [show oD D none = nI 0 from rfl, if_pos (show nI 0 ≤ nI 0 by decide)]
        show K _ _ _ _ = some (nI (c + ((if (!false && false) = true then 1 else 0) + _)), _)
        rw [show (if (!false && false) = true then 1 else 0) = 0 from rfl, Nat.zero_add]
        exact hn c
      | some i =>
        rw [hf] at hsn
        cases hf' : fh k D' n with
        | none => rw [hf'] at hsn; cases hsn
        | some j =>
          obtain ⟨-, hi, -⟩ := fi_some hf
          obtain ⟨-, hj, -⟩ := fi_some hf'
          have d1 := hw.2.2.2.2.1 i (by omega)
          have d2 := hw'.2.2.2.2.1 j (by omega)
          rw [show oD D (some i) = nI (D i) from rfl, if_neg (show ¬ nI (D i) ≤ nI 0 from nI_ge (by omega) (by omega))]
          show (if nI (D' j) = nI (D i) then _ else _) = some (nI (c + ((if (!false && decide (¬ D' j = D i)) = true then 1 else 0) + _)), _)
          simp (disch := omega) only [↓m1_d, ↓m2_d, e_m2, e_m2', e_m12, e_m21, liN, e_le, e_lt, e_eqm, e_eq, e_m1, e_m1', e_m1l, e_m1e, e_m1g, e_m1h, e_add, e_mul, e_sub, e_pred, e_rem, ix_nI, nz_nI, nI_clamp, nm_e1, Nat.add_zero, if_true, if_false, Nat.reduceEqDiff, eq_self, reduceIte]
          by_cases z : D' j = D i
          · rw [if_pos z, show (if (!false && decide (¬ D' j = D i)) = true then 1 else 0) = 0 by simp [z], Nat.zero_add]
            exact hn c
          · rw [if_neg z, show (if (!false && decide (¬ D' j = D i)) = true then 1 else 0) = 1 by simp [z], ← Nat.add_assoc]
            exact hn (c + 1)
end
