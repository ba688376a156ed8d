/-! ===== PURE: the ten orders ===== -/
theorem iy_0 (x y : Int32) : F_X2_isInRange 0 x y = F_X11_inRange x 1 400 := rfl
theorem iy_1 (x y : Int32) : F_X2_isInRange 1 x y = some true := rfl
theorem iy_2 (x y : Int32) : F_X2_isInRange 2 x y = F_X11_inRange x 2 120 := rfl
theorem iy_3 (x y : Int32) : F_X2_isInRange 3 x y = F_X11_inRange x 2 120 := rfl
theorem iy_4 (x y : Int32) : F_X2_isInRange 4 x y = F_X11_inRange x 2 120 := rfl
theorem iy_5 (x y : Int32) : F_X2_isInRange 5 x y = if x < 2 then some false else if 120 < x then some false else F_X11_inRange y 2 120 := rfl
theorem iy_6 (x y : Int32) : F_X2_isInRange 6 x y = F_X11_inRange x 0 4 := rfl
theorem iy_7 (x y : Int32) : F_X2_isInRange 7 x y = F_X11_inRange x 1 30 := rfl
theorem iy_8 (x y : Int32) : F_X2_isInRange 8 x y = F_X11_inRange x 1 399 := rfl
theorem iy_9 (x y : Int32) : F_X2_isInRange 9 x y = some true := rfl
theorem cy_0 (x y : Int32) (ac : Nat → Int32) (P : PlanT) (S : SieveT) : F_X10_carryOut 0 x y ac P S = (F_X10_layStretch x ac P S).bind (fun w_5 => some (w_5.1, (w_5.2.1, w_5.2.2.1, w_5.2.2.2))) := rfl
theorem cy_1 (x y : Int32) (ac : Nat → Int32) (P : PlanT) (S : SieveT) : F_X10_carryOut 1 x y ac P S = (F_X10_dropStretch P).bind (fun w => some (w.1, (ac, (w.2.1, w.2.2.1, w.2.2.2.1, w.2.2.2.2.1, w.2.2.2.2.2.1, P.2.2.2.2.2.1, w.2.2.2.2.2.2.2), S))) := rfl
theorem cy_8 (x y : Int32) (ac : Nat → Int32) (P : PlanT) (S : SieveT) : F_X10_carryOut 8 x y ac P S = (F_X10_trimStretch x P).bind (fun w => some (w.1, (ac, (w.2.1, w.2.2.1, w.2.2.2.1, w.2.2.2.2.1, w.2.2.2.2.2.1, P.2.2.2.2.2.1, w.2.2.2.2.2.2.2), S))) := rfl
theorem cy_5 (x y : Int32) (ac : Nat → Int32) (P : PlanT) (S : SieveT) : F_X10_carryOut 5 x y ac P S = (F_X10_swapStrikers x y P S).bind (fun w => some (w.1, (ac, (w.2.1.1, w.2.1.2.1, P.2.2.1, w.2.1.2.2.2.1, w.2.1.2.2.2.2.1, w.2.1.2.2.2.2.2.1, w.2.1.2.2.2.2.2.2), w.2.2))) := rfl
theorem cy_2 (x y : Int32) (ac : Nat → Int32) (P : PlanT) (S : SieveT) : F_X10_carryOut 2 x y ac P S = (F_X10_addStriker x ac P S).bind (fun w => some (w.1, (w.2.1, (w.2.2.1.1, w.2.2.1.2.1, P.2.2.1, w.2.2.1.2.2.2.1, w.2.2.1.2.2.2.2.1, w.2.2.1.2.2.2.2.2.1, w.2.2.1.2.2.2.2.2.2), w.2.2.2))) := rfl
theorem cy_3 (x y : Int32) (ac : Nat → Int32) (P : PlanT) (S : SieveT) : F_X10_carryOut 3 x y ac P S = (F_X10_liftStriker x P S).bind (fun w => some (w.1, (ac, (w.2.1.1, w.2.1.2.1, P.2.2.1, w.2.1.2.2.2.1, w.2.1.2.2.2.2.1, w.2.1.2.2.2.2.2.1, w.2.1.2.2.2.2.2.2), w.2.2))) := rfl
theorem cy_4 (x y : Int32) (ac : Nat → Int32) (P : PlanT) (S : SieveT) : F_X10_carryOut 4 x y ac P S = (F_X10_putFirst x P).bind (fun w => some (w.1, (ac, (w.2.1, w.2.2.1, P.2.2.1, w.2.2.2.2.1, w.2.2.2.2.2.1, w.2.2.2.2.2.2.1, w.2.2.2.2.2.2.2), S))) := rfl
theorem cy_6 (x y : Int32) (ac : Nat → Int32) (P : PlanT) (S : SieveT) : F_X10_carryOut 6 x y ac P S = (F_X10_changeWheel x P).bind (fun w => some (w.1, (ac, (w.2.1, w.2.2.1, P.2.2.1, w.2.2.2.2.1, w.2.2.2.2.2.1, P.2.2.2.2.2.1, w.2.2.2.2.2.2.2), S))) := rfl
theorem cy_7 (x y : Int32) (ac : Nat → Int32) (P : PlanT) (S : SieveT) : F_X10_carryOut 7 x y ac P S = (F_X10_fillUp x ac P).bind (fun w => some (w.1, (w.2.1, (w.2.2.1, w.2.2.2.1, P.2.2.1, w.2.2.2.2.2.1, w.2.2.2.2.2.2.1, w.2.2.2.2.2.2.2.1, w.2.2.2.2.2.2.2.2), S))) := rfl
theorem cy_9 (x y : Int32) (ac : Nat → Int32) (P : PlanT) (S : SieveT) : F_X10_carryOut 9 x y ac P S = (F_X10_takeIdleAway P S).bind (fun w => some (w.1, (ac, (w.2.1.1, w.2.1.2.1, P.2.2.1, w.2.1.2.2.2.1, w.2.1.2.2.2.2.1, w.2.1.2.2.2.2.2.1, w.2.1.2.2.2.2.2.2), w.2.2))) := rfl
