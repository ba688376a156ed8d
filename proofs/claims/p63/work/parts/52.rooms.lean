/-! ===== PURE: what an action leaves as it was ===== -/
section
theorem bd_some {α β : Type} {x : Option α} {f : α → Option β} {z : β} (h : x.bind f = some z) : ∃ y, x = some y ∧ f y = some z := by
  cases x with
  | none => cases h
  | some y => exact ⟨y, rfl, h⟩
theorem fill_rooms {x : Int32} {ac : Nat → Int32} {P : PlanT} {z : Int32 × ((Nat → Int32) × PlanT)} (h : F_X10_fillUp x ac P = some z) : z.2.2.2.2.1 = P.2.2.1 := by
  have key : ∀ n c i (a : Nat → Int32) (T : PlanT) z, T.2.2.1 = P.2.2.1 → fx (fun _ _ _ _ => none) (B_X10_fillUp_4 x) n c i a T = some z → z.2.2.2.2.1 = P.2.2.1 := by
    intro n
    induction n with
    | zero => intro c i a T z _ h; cases h
    | succ n ih =>
      intro c i a T z hT h
      rw [fx_s] at h
      generalize hK : fx (fun _ _ _ _ => none) (B_X10_fillUp_4 x) n = K at ih h
      unfold B_X10_fillUp_4 at h
      split at h
      · cases h; exact hT
      · obtain ⟨y1, -, h⟩ := bd_some h
        split at h
        · cases h; exact hT
        · obtain ⟨y2, -, h⟩ := bd_some h
          obtain ⟨y3, -, h⟩ := bd_some h
          split at h
          · cases h; exact hT
          · obtain ⟨y4, -, h⟩ := bd_some h
            exact ih (c + 1) (i + 1) a (y4.1, y4.2.1, T.2.2.1, y4.2.2.2.1, y4.2.2.2.2.1, y4.2.2.2.2.2.1, y4.2.2.2.2.2.2) z hT h
  exact key FUEL _ _ _ _ _ rfl h
theorem tidy_rooms {P : PlanT} {S : SieveT} {z : Int32 × (PlanT × SieveT)} (h : F_X10_takeIdleAway P S = some z) : z.2.1.2.2.1 = P.2.2.1 := by
  have key : ∀ n c i (T : PlanT) (s : SieveT) z, T.2.2.1 = P.2.2.1 → fx (fun _ _ _ _ => none) B_X10_takeIdleAway_17 n c i T s = some z → z.2.1.2.2.1 = P.2.2.1 := by
    intro n
    induction n with
    | zero => intro c i T s z _ h; cases h
    | succ n ih =>
      intro c i T s z hT h
      rw [fx_s] at h
      generalize hK : fx (fun _ _ _ _ => none) B_X10_takeIdleAway_17 n = K at ih h
      unfold B_X10_takeIdleAway_17 at h
      split at h
      · cases h; exact hT
      · obtain ⟨y1, -, h⟩ := bd_some h
        obtain ⟨y2, -, h⟩ := bd_some h
        split at h
        · obtain ⟨y3, -, h⟩ := bd_some h
          exact ih (c + 1) (i + (-1)) (y3.1, y3.2.1, T.2.2.1, y3.2.2.2.1, y3.2.2.2.2.1, y3.2.2.2.2.2.1, y3.2.2.2.2.2.2) s z hT h
        · exact ih c (i + (-1)) T s z hT h
  unfold F_X10_takeIdleAway at h
  obtain ⟨y1, -, h⟩ := bd_some h
  obtain ⟨y2, -, h⟩ := bd_some h
  exact key FUEL _ _ _ _ _ rfl h
end
