/-! ===== PURE: both, meet, divisor, divisors, longest, chain, turn, next ===== -/
/-- two loops side by side -/
theorem fxp {κ1 κ2 : Type} {bot1 : κ1} {bot2 : κ2} {B1 : κ1 → κ1} {B2 : κ2 → κ2} {P : Nat → κ1 → κ2 → Prop} (h0 : P 0 bot1 bot2) (hs : ∀ n K1 K2, P n K1 K2 → P (n + 1) (B1 K1) (B2 K2)) : ∀ n, P n (fx bot1 B1 n) (fx bot2 B2 n)
  | 0 => h0
  | n + 1 => hs n _ _ (fxp h0 hs n)
section
variable {w ns k : Nat} {R D : Nat → Nat} {P : PlanT} {row : Nat → Int32} {S : SieveT} {L : Nat}
end
