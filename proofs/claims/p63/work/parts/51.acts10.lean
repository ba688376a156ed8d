/-! ===== PURE: actions: tidy, whole ===== -/
theorem fx7E {α β γ δ ε ζ η R : Type} {bot : α → β → γ → δ → ε → ζ → η → R} {B : (α → β → γ → δ → ε → ζ → η → R) → α → β → γ → δ → ε → ζ → η → R} {Q : α → β → γ → δ → ε → ζ → η → Nat → Prop} {Post : R → Prop}
    (H : ∀ K x y z u v t s m, (∀ x' y' z' u' v' t' s' m', m' < m → Q x' y' z' u' v' t' s' m' → Post (K x' y' z' u' v' t' s')) → Q x y z u v t s m → Post (B K x y z u v t s)) :
    ∀ n x y z u v t s m, Q x y z u v t s m → m < n → Post (fx bot B n x y z u v t s)
  | 0, _, _, _, _, _, _, _, _, _, h => absurd h (Nat.not_lt_zero _)
  | n + 1, x, y, z, u, v, t, s, m, hq, h => H _ x y z u v t s m (fun x' y' z' u' v' t' s' m' h1 h2 => fx7E H n x' y' z' u' v' t' s' m' h2 (by omega)) hq
section
variable {w ns k : Nat} {R D : Nat → Nat} {P : PlanT} {row : Nat → Int32} {S : SieveT} {L : Nat}
end
