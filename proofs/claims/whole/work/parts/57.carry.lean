/-! ===== PURE: rows that an action leaves as they were ===== -/
section
variable {P : PlanT} {S : SieveT}
theorem wheel_keep {x : Int32} {z : Int32 × PlanT} (h : F_X10_changeWheel x P = some z) : z.2.2.2.1 = P.2.2.1 ∧ z.2.2.2.2.2.2.1 = P.2.2.2.2.2.1 := by
  unfold F_X10_changeWheel at h
  obtain ⟨y1, -, h⟩ := bd_some h
  obtain ⟨y2, -, h⟩ := bd_some h
  cases h
  exact ⟨rfl, rfl⟩
theorem drop_keep {z : Int32 × PlanT} (h : F_X10_dropStretch P = some z) : z.2.2.2.2.2.2.1 = P.2.2.2.2.2.1 := by
  unfold F_X10_dropStretch at h
  obtain ⟨y1, -, h⟩ := bd_some h
  split at h
  · cases h; rfl
  · obtain ⟨y2, -, h⟩ := bd_some h
    obtain ⟨y3, -, h⟩ := bd_some h
    cases h; rfl
theorem trim_keep {x : Int32} {z : Int32 × PlanT} (h : F_X10_trimStretch x P = some z) : z.2.2.2.2.2.2.1 = P.2.2.2.2.2.1 := by
  unfold F_X10_trimStretch at h
  obtain ⟨y1, -, h⟩ := bd_some h
  split at h
  · cases h; rfl
  · obtain ⟨y2, -, h⟩ := bd_some h
    split at h
    · obtain ⟨y3, -, h⟩ := bd_some h
      obtain ⟨y4, -, h⟩ := bd_some h
      obtain ⟨y5, -, h⟩ := bd_some h
      cases h; rfl
    · cases h; rfl
theorem first_keep {x : Int32} {z : Int32 × PlanT} (h : F_X10_putFirst x P = some z) : z.2.2.2.1 = P.2.2.1 := by
  unfold F_X10_putFirst at h
  obtain ⟨y1, -, h⟩ := bd_some h
  split at h
  · cases h; rfl
  · obtain ⟨y2, -, h⟩ := bd_some h
    cases h; rfl
theorem lift_keep {x : Int32} {z : Int32 × (PlanT × SieveT)} (h : F_X10_liftStriker x P S = some z) : z.2.1.2.2.1 = P.2.2.1 := by
  unfold F_X10_liftStriker at h
  obtain ⟨y1, -, h⟩ := bd_some h
  split at h
  · cases h; rfl
  · obtain ⟨y2, -, h⟩ := bd_some h
    obtain ⟨y3, -, h⟩ := bd_some h
    obtain ⟨y4, -, h⟩ := bd_some h
    cases h; rfl
theorem add_keep {x : Int32} {ac : Nat → Int32} {z : Int32 × ((Nat → Int32) × PlanT × SieveT)} (h : F_X10_addStriker x ac P S = some z) : z.2.2.1.2.2.1 = P.2.2.1 := by
  unfold F_X10_addStriker at h
  obtain ⟨y1, -, h⟩ := bd_some h
  split at h
  · obtain ⟨y2, -, h⟩ := bd_some h
    split at h
    · obtain ⟨y3, -, h⟩ := bd_some h
      obtain ⟨y4, -, h⟩ := bd_some h
      obtain ⟨y5, -, h⟩ := bd_some h
      cases h; rfl
    · cases h; rfl
  · cases h; rfl
theorem swap_keep {x y : Int32} {z : Int32 × (PlanT × SieveT)} (h : F_X10_swapStrikers x y P S = some z) : z.2.1.2.2.1 = P.2.2.1 := by
  have key : ∀ n c i (T : PlanT) (s : SieveT) z, T.2.2.1 = P.2.2.1 → fx (fun _ _ _ _ => none) (B_X10_swapStrikers_55 x y) n c i T s = some z → z.2.1.2.2.1 = P.2.2.1 := by
    intro n
    induction n with
    | zero => intro c i T s z _ h; cases h
    | succ n ih =>
      intro c i T s z hT h
      rw [fx_s] at h
      generalize hK : fx (fun _ _ _ _ => none) (B_X10_swapStrikers_55 x y) n = K at ih h
      unfold B_X10_swapStrikers_55 at h
      obtain ⟨y0, -, h⟩ := bd_some h
      split at h
      · cases h; exact hT
      · obtain ⟨y1, -, h⟩ := bd_some h
        split at h
        · exact ih c (i + 1) T s z hT h
        · obtain ⟨y2, -, h⟩ := bd_some h
          split at h
          · exact ih c (i + 1) T s z hT h
          · exact ih (c + 1) (i + 1) T s z hT h
  unfold F_X10_swapStrikers at h
  obtain ⟨y1, -, h⟩ := bd_some h
  obtain ⟨y2, -, h⟩ := bd_some h
  split at h
  · cases h; rfl
  · split at h
    · cases h; rfl
    · obtain ⟨y3, -, h⟩ := bd_some h
      obtain ⟨y4, -, h⟩ := bd_some h
      refine key FUEL _ _ _ _ _ ?_ h
      rfl
end
/-! ===== PURE: an order is carried out on both sides ===== -/
section
variable {w ns k : Nat} {R D : Nat → Nat} {P : PlanT} {row : Nat → Int32} {S : SieveT} {L : Nat}
theorem C_lay (h : CX w ns R k D P row S) {v : Nat} (hv : P.2.2.2.2.2.2 = nI v) (hv2 : v + 100 < 2 ^ 31) {m : Nat} (hm1 : 1 ≤ m) (hm : m ≤ 400) (y : Int32) (ac : Nat → Int32) (e0 : Int32) (o t : Nat → Int32) :
    ∃ r ac1 P' S' ac' e' o' row' t', F_X10_carryOut 0 (nI m) y ac P S = some (r, (ac1, P', S')) ∧ F_X11_doLay (nI m) ac e0 o row t = some (r, (ac', e', o', row', t')) ∧ F_X10_counted r ac1 = some (r, ac') ∧ AR P S v row' P' S' := by
  obtain ⟨r, ac1, P', S', ac', e', o', row', t', h1, h2, h3, h4⟩ := A_lay h hv hv2 hm1 hm ac e0 o t
  refine ⟨r, ac1, P', S', ac', e', o', row', t', ?_, h2, h3, h4⟩
  rw [cy_0, h1]
  rfl
theorem C_drop (h : CX w ns R k D P row S) {v : Nat} (hv : P.2.2.2.2.2.2 = nI v) (hv2 : v + 100 < 2 ^ 31) (x y : Int32) (ac : Nat → Int32) :
    ∃ r ac1 P' S' ac' row', F_X10_carryOut 1 x y ac P S = some (r, (ac1, P', S')) ∧ F_X11_doDrop ac row = some (r, (ac', row')) ∧ F_X10_counted r ac1 = some (r, ac') ∧ AR P S v row' P' S' := by
  obtain ⟨r, P', ac', row', h1, h2, h3, h4⟩ := A_drop h hv hv2 ac
  refine ⟨r, ac, P', S, ac', row', ?_, h2, h3, h4⟩
  have e := drop_keep h1
  rw [cy_1, h1, ← e]
  rfl
theorem C_trim (h : CX w ns R k D P row S) {v : Nat} (hv : P.2.2.2.2.2.2 = nI v) (hv2 : v + 100 < 2 ^ 31) {m : Nat} (hm1 : 1 ≤ m) (hm : m ≤ 399) (y : Int32) (ac : Nat → Int32) :
    ∃ r ac1 P' S' ac' row', F_X10_carryOut 8 (nI m) y ac P S = some (r, (ac1, P', S')) ∧ F_X11_doTrim (nI m) ac row = some (r, (ac', row')) ∧ F_X10_counted r ac1 = some (r, ac') ∧ AR P S v row' P' S' := by
  obtain ⟨r, P', ac', row', h1, h2, h3, h4⟩ := A_trim h hv hv2 hm1 hm ac
  refine ⟨r, ac, P', S, ac', row', ?_, h2, h3, h4⟩
  have e := trim_keep h1
  rw [cy_8, h1, ← e]
  rfl
theorem C_wheel (h : CX w ns R k D P row S) {v : Nat} (hv : P.2.2.2.2.2.2 = nI v) (hv2 : v + 100 < 2 ^ 31) {m : Nat} (hm : m ≤ 4) (y : Int32) (ac : Nat → Int32) :
    ∃ r ac1 P' S' ac' row', F_X10_carryOut 6 (nI m) y ac P S = some (r, (ac1, P', S')) ∧ F_X11_doWheel (nI m) ac row = some (r, (ac', row')) ∧ F_X10_counted r ac1 = some (r, ac') ∧ AR P S v row' P' S' := by
  obtain ⟨r, P', ac', row', h1, h2, h3, h4⟩ := A_wheel h hv hv2 hm ac
  refine ⟨r, ac, P', S, ac', row', ?_, h2, h3, h4⟩
  obtain ⟨e, f⟩ := wheel_keep h1
  rw [cy_6, h1, ← e, ← f]
  rfl
theorem C_first (h : CX w ns R k D P row S) {v : Nat} (hv : P.2.2.2.2.2.2 = nI v) (hv2 : v + 100 < 2 ^ 31) {m : Nat} (hm : m ≤ 120) (y : Int32) (ac : Nat → Int32) :
    ∃ r ac1 P' S' ac' row', F_X10_carryOut 4 (nI m) y ac P S = some (r, (ac1, P', S')) ∧ F_X11_doFirst (nI m) ac row = some (r, (ac', row')) ∧ F_X10_counted r ac1 = some (r, ac') ∧ AR P S v row' P' S' := by
  obtain ⟨r, P', ac', row', h1, h2, h3, h4⟩ := A_first h hv hv2 hm ac
  refine ⟨r, ac, P', S, ac', row', ?_, h2, h3, h4⟩
  have e := first_keep h1
  rw [cy_4, h1, ← e]
  rfl
theorem C_add (h : CX w ns R k D P row S) {v : Nat} (hv : P.2.2.2.2.2.2 = nI v) (hv2 : v + 100 < 2 ^ 31) {d : Nat} (h2 : 2 ≤ d) (h120 : d ≤ 120) (y : Int32) (ac : Nat → Int32) (e0 : Int32) (o t : Nat → Int32) :
    ∃ r ac1 P' S' ac' e' o' row' t', F_X10_carryOut 2 (nI d) y ac P S = some (r, (ac1, P', S')) ∧ F_X11_doAdd (nI d) ac e0 o row t = some (r, (ac', e', o', row', t')) ∧ F_X10_counted r ac1 = some (r, ac') ∧ AR P S v row' P' S' := by
  obtain ⟨r, ac1, P', S', ac', e', o', row', t', h1, h2, h3, h4⟩ := A_add h hv hv2 h2 h120 ac e0 o t
  refine ⟨r, ac1, P', S', ac', e', o', row', t', ?_, h2, h3, h4⟩
  have e := add_keep h1
  rw [cy_2, h1, ← e]
  rfl
theorem C_lift (h : CX w ns R k D P row S) {v : Nat} (hv : P.2.2.2.2.2.2 = nI v) (hv2 : v + 100 < 2 ^ 31) {d : Nat} (hd : d ≤ 120) (y : Int32) (ac : Nat → Int32) (e0 : Int32) (o t : Nat → Int32) :
    ∃ r ac1 P' S' ac' e' o' row' t', F_X10_carryOut 3 (nI d) y ac P S = some (r, (ac1, P', S')) ∧ F_X11_doLift (nI d) ac e0 o row t = some (r, (ac', e', o', row', t')) ∧ F_X10_counted r ac1 = some (r, ac') ∧ AR P S v row' P' S' := by
  obtain ⟨r, P', S', ac', e', o', row', t', h1, h2, h3, h4⟩ := A_lift h hv hv2 hd ac e0 o t
  refine ⟨r, ac, P', S', ac', e', o', row', t', ?_, h2, h3, h4⟩
  have e := lift_keep h1
  rw [cy_3, h1, ← e]
  rfl
theorem C_swap (h : CX w ns R k D P row S) {v : Nat} (hv : P.2.2.2.2.2.2 = nI v) (hv2 : v + 100 < 2 ^ 31) {a b : Nat} (ha : a ≤ 120) (hb : b ≤ 120) (ac : Nat → Int32) (e0 : Int32) (o t kd : Nat → Int32) :
    ∃ r ac1 P' S' ac' e' o' kd' row' t', F_X10_carryOut 5 (nI a) (nI b) ac P S = some (r, (ac1, P', S')) ∧ F_X11_doSwap (nI a) (nI b) ac e0 o kd row t = some (r, (ac', e', o', kd', row', t')) ∧ F_X10_counted r ac1 = some (r, ac') ∧ AR P S v row' P' S' := by
  obtain ⟨r, P', S', ac', e', o', kd', row', t', h1, h2, h3, h4⟩ := A_swap h hv hv2 ha hb ac e0 o t kd
  refine ⟨r, ac, P', S', ac', e', o', kd', row', t', ?_, h2, h3, h4⟩
  have e := swap_keep h1
  rw [cy_5, h1, ← e]
  rfl
theorem C_fill (h : CX w ns R k D P row S) {v : Nat} (hv : P.2.2.2.2.2.2 = nI v) (hv2 : v + 100 < 2 ^ 31) {m : Nat} (hm : m ≤ 30) (y : Int32) (ac : Nat → Int32) (e0 : Int32) (o t : Nat → Int32) :
    ∃ r ac1 P' S' ac' e' o' row' t', F_X10_carryOut 7 (nI m) y ac P S = some (r, (ac1, P', S')) ∧ F_X11_doFill (nI m) ac e0 o row t = some (r, (ac', e', o', row', t')) ∧ F_X10_counted r ac1 = some (r, ac') ∧ AR P S v row' P' S' := by
  obtain ⟨r, ac1, P', ac', e', o', row', t', h1, h2, h3, h4⟩ := A_fill h hv hv2 hm ac e0 o t
  refine ⟨r, ac1, P', S, ac', e', o', row', t', ?_, h2, h3, h4⟩
  have e := fill_rooms h1
  rw [cy_7, h1, ← e]
  rfl
theorem C_tidy (h : CX w ns R k D P row S) {v : Nat} (hv : P.2.2.2.2.2.2 = nI v) (hv2 : v + 100 < 2 ^ 31) (x y : Int32) (ac : Nat → Int32) (e0 : Int32) (o t : Nat → Int32) :
    ∃ r ac1 P' S' ac' e' o' row' t', F_X10_carryOut 9 x y ac P S = some (r, (ac1, P', S')) ∧ F_X11_doTidy ac e0 o row t = some (r, (ac', e', o', row', t')) ∧ F_X10_counted r ac1 = some (r, ac') ∧ AR P S v row' P' S' := by
  obtain ⟨r, P', S', ac', e', o', row', t', h1, h2, h3, h4⟩ := A_tidy h hv hv2 ac e0 o t
  refine ⟨r, ac, P', S', ac', e', o', row', t', ?_, h2, h3, h4⟩
  have e := tidy_rooms h1
  rw [cy_9, h1, ← e]
  rfl
end
