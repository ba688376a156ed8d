/-! ===== PURE: rows that an action leaves as they were ===== -/
section
variable {P : PlanT} {S : SieveT}
theorem wheel_keep {x : Int32} {z : Int32 × PlanT} (h : F_X10_changeWheel x P = some z) : z.2.2.2.1 = P.2.2.1 ∧ z.2.2.2.2.2.2.1 = P.2.2.2.2.2.1 := by
  unfold F_X10_changeWheel at h
  obtain ⟨y1, -, h⟩ := bd_some h
  obtain ⟨y2, -, h⟩ := bd_some h
  cases h
  exact ⟨rfl, rfl⟩
theorem drop_keep {z : Int32 × PlanT} (h : F_X10_dropStretch P = some z) : z.2.2.2.2.2.2.1 = P.2.2.2.2.2.1 := by
  unfold F_X10_dropStretch at h
  obtain ⟨y1, -, h⟩ := bd_some h
  split at h
  · cases h; rfl
  · obtain ⟨y2, -, h⟩ := bd_some h
    obtain ⟨y3, -, h⟩ := bd_some h
    cases h; rfl
theorem trim_keep {x : Int32} {z : Int32 × PlanT} (h : F_X10_trimStretch x P = some z) : z.2.2.2.2.2.2.1 = P.2.2.2.2.2.1 := by
  unfold F_X10_trimStretch at h
  obtain ⟨y1, -, h⟩ := bd_some h
  split at h
  · cases h; rfl
  · obtain ⟨y2, -, h⟩ := bd_some h
    split at h
    · obtain ⟨y3, -, h⟩ := bd_some h
      obtain ⟨y4, -, h⟩ := bd_some h
      obtain ⟨y5, -, h⟩ := bd_some h
      cases h; rfl
    · cases h; rfl
theorem first_keep {x : Int32} {z : Int32 × PlanT} (h : F_X10_putFirst x P = some z) : z.2.2.2.1 = P.2.2.1 := by
  unfold F_X10_putFirst at h
  obtain ⟨y1, -, h⟩ := bd_some h
  split at h
  · cases h; rfl
  · obtain ⟨y2, -, h⟩ := bd_some h
    cases h; rfl
theorem lift_keep {x : Int32} {z : Int32 × (PlanT × SieveT)} (h : F_X10_liftStriker x P S = some z) : z.2.1.2.2.1 = P.2.2.1 := by
  unfold F_X10_liftStriker at h
  obtain ⟨y1, -, h⟩ := bd_some h
  split at h
  · cases h; rfl
  · obtain ⟨y2, -, h⟩ := bd_some h
    obtain ⟨y3, -, h⟩ := bd_some h
    obtain ⟨y4, -, h⟩ := bd_some h
    cases h; rfl
theorem add_keep {x : Int32} {ac : Nat → Int32} {z : Int32 × ((Nat → Int32) × PlanT × SieveT)} (h : F_X10_addStriker x ac P S = some z) : z.2.2.1.2.2.1 = P.2.2.1 := by
  unfold F_X10_addStriker at h
  obtain ⟨y1, -, h⟩ := bd_some h
  split at h
  · obtain ⟨y2, -, h⟩ := bd_some h
    split at h
    · obtain ⟨y3, -, h⟩ := bd_some h
      obtain ⟨y4, -, h⟩ := bd_some h
      obtain ⟨y5, -, h⟩ := bd_some h
      cases h; rfl
    · cases h; rfl
  · cases h; rfl
theorem swap_keep {x y : Int32} {z : Int32 × (PlanT × SieveT)} (h : F_X10_swapStrikers x y P S = some z) : z.2.1.2.2.1 = P.2.2.1 := by
  have key : ∀ n c i (T : PlanT) (s : SieveT) z, T.2.2.1 = P.2.2.1 → fx (fun _ _ _ _ => none) (B_X10_swapStrikers_55 x y) n c i T s = some z → z.2.1.2.2.1 = P.2.2.1 := by
    intro n
    induction n with
    | zero => intro c i T s z _ h; cases h
    | succ n ih =>
      intro c i T s z hT h
      rw [fx_s] at h
      generalize hK : fx (fun _ _ _ _ => none) (B_X10_swapStrikers_55 x y) n = K at ih h
      unfold B_X10_swapStrikers_55 at h
      obtain ⟨y0, -, h⟩ := bd_some h
      split at h
      · cases h; exact hT
      · obtain ⟨y1, -, h⟩ := bd_some h
        split at h
        · exact ih c (i + 1) T s z hT h
        · obtain ⟨y2, -, h⟩ := bd_some h
          split at h
          · exact ih c (i + 1) T s z hT h
          · exact ih (c + 1) (i + 1) T s z hT h
  unfold F_X10_swapStrikers at h
  obtain ⟨y1, -, h⟩ := bd_some h
  obtain ⟨y2, -, h⟩ := bd_some h
  split at h
  · cases h; rfl
  · split at h
    · cases h; rfl
    · obtain ⟨y3, -, h⟩ := bd_some h
      obtain ⟨y4, -, h⟩ := bd_some h
      refine key FUEL _ _ _ _ _ ?_ h
      rfl
end
/-! ===== PURE: an order is carried out on both sides ===== -/
section
variable {w ns k : Nat} {R D : Nat → Nat} {P : PlanT} {row : Nat → Int32} {S : SieveT} {L : Nat}
end
