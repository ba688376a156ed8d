/-! ===== PURE: leastWheel, gaps, sums, leastOf ===== -/
theorem fx8 {α β γ δ ε ζ η θ R : Type} {bot : α → β → γ → δ → ε → ζ → η → θ → R} {B : (α → β → γ → δ → ε → ζ → η → θ → R) → α → β → γ → δ → ε → ζ → η → θ → R} {Q : α → β → γ → δ → ε → ζ → η → θ → Nat → R → Prop}
    (H : ∀ K x y z u v t s q m r, (∀ x' y' z' u' v' t' s' q' m' r', m' < m → Q x' y' z' u' v' t' s' q' m' r' → K x' y' z' u' v' t' s' q' = r') → Q x y z u v t s q m r → B K x y z u v t s q = r) :
    ∀ n x y z u v t s q m r, Q x y z u v t s q m r → m < n → fx bot B n x y z u v t s q = r
  | 0, _, _, _, _, _, _, _, _, _, _, _, h => absurd h (Nat.not_lt_zero _)
  | n + 1, x, y, z, u, v, t, s, q, m, r, hq, h => H _ x y z u v t s q m r (fun x' y' z' u' v' t' s' q' m' r' h1 h2 => fx8 H n x' y' z' u' v' t' s' q' m' r' h2 (by omega)) hq
section
variable {w ns k : Nat} {R D : Nat → Nat} {P : PlanT} {row : Nat → Int32} {S : SieveT} {L : Nat}
theorem WF.wheel (h : WF w ns R k D) {v : Nat} (hv : v ≤ 4) : WF v ns R k D := ⟨hv, h.2⟩
theorem PX.wheel (h : PX w ns R k D P) (v : Nat) : PX v ns R k D (nI v, P.2) := ⟨rfl, h.2⟩
theorem upd_row {a b : Int32} (h : row 0 = b) : upd (upd row 0 a) 0 b = row := by
  funext n
  by_cases e : n = 0
  · rw [e, pk_us, h]
  · rw [pk_un e, pk_un e]
/-- no striker is missing on wheel v -/
def nm0 (ns : Nat) (R : Nat → Nat) (k : Nat) (D : Nat → Nat) (T v : Nat) : Bool := (fi (ms v k D) 2 (T - 2)).isNone
/-! sums -/
theorem sub_big {x : Int32} (hx : x < 0) {i : Nat} (hi : i ≤ 5000) (hL : L ≤ 4801) : isMI w k D L (x - nI i) = false := by
  rcases i_cases (x - nI i) with h | ⟨n, hn, e⟩
  · exact isMI_neg h
  · rw [e, isMI_nI hn]
    refine isM_hi ?_
    have h1 : x = nI (n + i) := by
      rw [← e_add, ← e, Int32.sub_add_cancel]
    refine Nat.lt_of_not_le fun c => ?_
    rw [h1] at hx
    exact nI_pos (by omega) hx
/-- the sums' first parts -/
def su (w k : Nat) (D : Nat → Nat) (L n i : Nat) : Bool := isM w k D L i && isM w k D L (n - i)
def sN (L n : Nat) : Nat := max 2 (min (L + 1) (n / 2 + 1))
end
