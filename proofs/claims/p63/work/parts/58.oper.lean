/-! ===== PURE: an operation, recorded on both sides ===== -/
section
variable {w ns k : Nat} {R D : Nat → Nat} {P : PlanT} {row : Nat → Int32} {S : SieveT} {L : Nat}
theorem L_operate {q : Nat} {x y : Int32} {ac ac1 ac' : Nat → Int32} {bf bf' P' : PlanT} {t t' : HistT} {S' : SieveT} {r : Int32} (hq : q < 9)
    (h1 : F_X2_isInRange q x y = some true) (h2 : F_X3_takeOver bf P = some bf') (h3 : F_X10_carryOut q x y ac P S = some (r, (ac1, P', S')))
    (h4 : F_X10_counted r ac1 = some (r, ac')) (h5 : (if r < 0 then some t else F_X1_push t bf') = some t') :
    F_X10_operate q x y ac bf t P S = some (.inr r, (ac', bf', t', P', S')) := by
  unfold F_X10_operate kl
  rw [if_pos hq, h1, Option.bind_some, if_pos rfl, h2, Option.bind_some, h3, Option.bind_some]
  show (F_X10_counted r ac1).bind _ = _
  rw [h4, Option.bind_some]
  show (if r < 0 then some _ else (F_X1_push t bf').bind _) = _
  by_cases c : r < 0
  · rw [if_pos c] at h5 ⊢
    cases h5
    rfl
  · rw [if_neg c] at h5 ⊢
    rw [h5]
    rfl
theorem L_operate_no {q : Nat} {x y : Int32} {ac : Nat → Int32} {bf : PlanT} {t : HistT} (hq : q < 9) (h1 : F_X2_isInRange q x y = some false) :
    F_X10_operate q x y ac bf t P S = some (.inl 1, (ac, bf, t, P, S)) := by
  unfold F_X10_operate kl
  rw [if_pos hq, h1]
  rfl
section
variable {t : HistT} {hist : Nat → Int32} {u : Int32} {v : Nat}
end
end
