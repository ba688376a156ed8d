/-! ===== the law: its end ===== -/
section
variable {p : Program} {l : Launch} {e : Env} {s : State} {m : MethodId} {below : List Frame} {meth : Method} {c : Code} {H : Heap} {locs : List Loc} {cells slots : Nat} {Q : State → Prop} {G : va_G} {ca Z : Nat → Nat} {b L q v c9 w ns kk w0 ns0 k0 x1 : Nat} {xs : Nat → Int32} {a : Nat → Nat} {ls : Array Slot} {R D R0 D0 : Nat → Nat} {top : PlanT → Prop} {g1 : Nat → Int32}
  {P : PlanT} {Bf : PlanT} {Dr : PlanT} {Sn : PlanT} {hs : Bool} {t : HistT} {S : SieveT} {sc : SrcT} {rd : ReadT} {sr : ScrT} {sh : SheetT} {ac : (Nat → Int32)} {pe : Int32}
set_option maxHeartbeats 40000000 in
set_option maxRecDepth 100000 in
theorem lf_451 (C : lc63 p l s m meth c G ca Z b L xs) (hend : ∀ (H : Heap) (ls : Array Slot), W p l e room_1 s m #[.ref b] below meth c H [] 600086 7301442 Q (F0 m 490 ls [.int 1])) (hb1 : cells + 10 ≤ 600086) (hb2 : slots + 1000 ≤ 7301442) (hWF : WF w0 ns0 R0 k0 D0) (hSn : PX w0 ns0 R0 k0 D0 Sn) (hg1 : ∀ j, j < (10 + 2 * ns0 + 2 * k0) → g1 j = av w0 ns0 R0 k0 D0 j) (hC : CY w ns R kk D P S) (hH : HI t c9 top) (hv : P.2.2.2.2.2.2 = nI v) (hvv : v + 100 < 2 ^ 31)
    (hP : va_P G vwCl (OW ca Z q a P Bf Dr Sn true t S sc rd sr sh ac pe ++ [(x1, .inl (ca 0, (10 + 2 * ns0 + 2 * k0), .inl g1))]) H) (hD : va_D (lwA s) (OW ca Z q a P Bf Dr Sn true t S sc rd sr sh ac pe ++ [(x1, .inl (ca 0, (10 + 2 * ns0 + 2 * k0), .inl g1))])) (hS : va_S (lwA s) s.heap H locs) (hl : lv_has ls 12 [(8, .int (nI 5)), (7, .ref x1), (0, .ref b), (1, .ref q)]) : W p l e room_1 s m #[.ref b] below meth c H locs cells slots Q (F0 m 451 ls []) := by
  obtain ⟨Cx, hXs, hbl, hL⟩ := id C
  obtain ⟨⟨hx, hb, hml, hown, htU⟩, hK, hX, hY, hA⟩ := id Cx
  have hN12 := hWF.2.1
  have hN30 := hWF.2.2.2.1
  obtain ⟨h2, P1, hF1, hH1, hC1, hv1⟩ := G_restore1 (w' := w0) (ns' := ns0) (k' := k0) (R' := R0) (D' := D0) hH hWF hSn hC.2.2 hv (by omega)
  refine lv_aload_n hx hb dL_law_451 rfl (lv_at hl 3 rfl) ?_
  refine lw_i (sw_runV (As := []) (rest := []) Cx hP hD hS mv_X10_restoreSnapshot ml_L_210 (c_X10_restoreSnapshot l G ca Z q (a 12) (a 0) (a 2) (a 1) (a 9) (a 11) (a 10) (.ref (a 3)) (.ref (a 6)) (.ref (a 38)) (.ref (a 41)) (.ref (a 43)) (.ref (a 44)) (.ref (a 48)) (.ref (a 50)) (.int pe) (.ref (a 13)) H.size true t P Sn (true, ((t.1, h2), P1)) hF1) 7 rfl rfl rfl [0, 13, 1, 3, 2, 10, 12, 11] rfl rfl rfl rfl ⟨(Nat.le_of_ble_eq_true rfl), (Nat.le_of_ble_eq_true rfl)⟩ hl.1 rfl rfl (Nat.le_of_ble_eq_true rfl) dL_law_452 ⟨by show cells + 0 ≤ 600086; omega, by show slots + 0 ≤ 7301442; omega⟩) hP hD hS hA [0, 13, 1, 3, 2, 10, 12, 11] [1, 3, 5, 4, 0, 0, 0, 0, 0, 0, 6, 8, 7, 2, 0, 0, 0, 0, 0, 0, 0, 0, 0, 0, 0, 0, 0, 0, 0, 0, 0, 0, 0, 0, 0, 0, 0, 0, 0, 0, 0, 0, 0, 0, 0, 0, 0, 0, 0, 0, 0, 0, 0] rfl (fun _ => rfl) rfl (by decide +kernel) (fun r u9 H locs hw hP hD hS => ?_)
  obtain ⟨rfl, rfl⟩ := hw
  have hP : va_P G vwCl (OW ca Z q a P1 Bf Dr Sn true (t.1, h2) S sc rd sr sh ac pe ++ [(x1, .inl (ca 0, (10 + 2 * ns0 + 2 * k0), .inl g1))]) H := hP
  have hD : va_D (lwA s) (OW ca Z q a P1 Bf Dr Sn true (t.1, h2) S sc rd sr sh ac pe ++ [(x1, .inl (ca 0, (10 + 2 * ns0 + 2 * k0), .inl g1))]) := hD
  refine lv_if_eq (tgt := 489) hx hb dL_law_455 (by decide) (fun z9 => absurd z9 nq1) (fun _ => ?_)
  refine lv_aload_n hx hb dL_law_458 rfl (lv_at hl 3 rfl) ?_
  refine sj_cr (f0 := fun u : Nat × SieveT × (Nat → Int32) => u.1) (sw_runS (As := [.ref q]) (rest := []) Cx hP hD hS ms_L_all ml_L_189 (c_L_all l G ca Z q (a 0) (a 2) (a 1) (a 38) (a 39) (a 40) (.ref (a 3)) (.ref (a 6)) (.ref (a 9)) (.int (bI true)) (.ref (a 12)) (.ref (a 41)) (.ref (a 43)) (.ref (a 44)) (.ref (a 48)) (.ref (a 50)) (.int pe) H.size w0 ns0 k0 R0 D0 P1 S hC1 (10 + 2 * ns0 + 2 * k0) rfl) [0, 1, 3, 2, 39, 41, 40] rfl rfl rfl rfl ⟨(Nat.le_of_ble_eq_true rfl), (Nat.le_of_ble_eq_true rfl)⟩ hl.1 rfl rfl (Nat.le_of_ble_eq_true rfl) dL_law_459 ⟨by show cells + 1 ≤ 600086; omega, by show slots + 100 ≤ 7301442; omega⟩) hP hD hS hA [0, 1, 3, 2, 39, 41, 40] [4, 5, 6, 7, 8, 9, 10, 11, 12, 13, 14, 15, 16, 17, 18, 19, 20, 21, 22, 23, 24, 25, 26, 27, 28, 29, 30, 31, 32, 33, 34, 35, 36, 37, 38, 42, 43, 44, 45, 46, 47, 48, 49, 50, 51, 52] [46, 47, 49, 48, 0, 1, 2, 3, 4, 5, 6, 7, 8, 9, 10, 11, 12, 13, 14, 15, 16, 17, 18, 19, 20, 21, 22, 23, 24, 25, 26, 27, 28, 29, 30, 31, 32, 33, 34, 50, 52, 51, 35, 36, 37, 38, 39, 40, 41, 42, 43, 44, 45, 53] rfl rfl rfl (by decide) (fun _ => rfl) rfl (fun u9 H locs hw hP hD hS => ?_)
  obtain ⟨x2, S2, g2⟩ := u9
  obtain ⟨hC2, hg2⟩ := hw
  have hP : va_P G vwCl (OW ca Z q a P1 Bf Dr Sn true (t.1, h2) S2 sc rd sr sh ac pe ++ [(x1, .inl (ca 0, (10 + 2 * ns0 + 2 * k0), .inl g1)), (x2, .inl (ca 0, (10 + 2 * ns0 + 2 * k0), .inl g2))]) H := hP
  have hD : va_D (lwA s) (OW ca Z q a P1 Bf Dr Sn true (t.1, h2) S2 sc rd sr sh ac pe ++ [(x1, .inl (ca 0, (10 + 2 * ns0 + 2 * k0), .inl g1)), (x2, .inl (ca 0, (10 + 2 * ns0 + 2 * k0), .inl g2))]) := hD
  refine lv_aload hx hb dL_law_462 (lv_at hl 1 rfl) ?_
  refine lw_i (sw_runS (As := [.ref x2, .ref x1]) (rest := []) Cx hP hD hS ms_L_alike ml_L_203 (c_L_alike l G ca Z x2 x1 (10 + 2 * ns0 + 2 * k0) g2 g1 H.size (fun j hj => (hg2 j hj).trans (hg1 j hj).symm) (by omega)) [53, 52] rfl rfl rfl rfl ⟨(Nat.le_of_ble_eq_true rfl), (Nat.le_of_ble_eq_true rfl)⟩ hl.1 rfl rfl (Nat.le_of_ble_eq_true rfl) dL_law_464 ⟨by show cells + 1 + 0 ≤ 600086; omega, by show slots + 100 + 0 ≤ 7301442; omega⟩) hP hD hS hA [53, 52] [0, 0, 0, 0, 0, 0, 0, 0, 0, 0, 0, 0, 0, 0, 0, 0, 0, 0, 0, 0, 0, 0, 0, 0, 0, 0, 0, 0, 0, 0, 0, 0, 0, 0, 0, 0, 0, 0, 0, 0, 0, 0, 0, 0, 0, 0, 0, 0, 0, 0, 0, 0, 2, 1] rfl (fun _ => rfl) rfl (by decide +kernel) (fun r _ H locs hw hP hD hS => ?_)
  subst hw
  have hP : va_P G vwCl (OW ca Z q a P1 Bf Dr Sn true (t.1, h2) S2 sc rd sr sh ac pe ++ [(x1, .inl (ca 0, (10 + 2 * ns0 + 2 * k0), .inl g1)), (x2, .inl (ca 0, (10 + 2 * ns0 + 2 * k0), .inl g2))]) H := hP
  have hD : va_D (lwA s) (OW ca Z q a P1 Bf Dr Sn true (t.1, h2) S2 sc rd sr sh ac pe ++ [(x1, .inl (ca 0, (10 + 2 * ns0 + 2 * k0), .inl g1)), (x2, .inl (ca 0, (10 + 2 * ns0 + 2 * k0), .inl g2))]) := hD
  refine lv_if_eq (tgt := 489) hx hb dL_law_467 (by decide) (fun z9 => absurd z9 nq1) (fun _ => ?_)
  refine lv_aload_n hx hb dL_law_470 rfl (lv_at hl 3 rfl) ?_
  refine lw_i (sw_runV (As := []) (rest := []) Cx hP hD hS mv_X10_undoCount ml_L_193 (c_X10_undoCount l G ca Z q (a 12) (.ref (a 0)) (.ref (a 3)) (.ref (a 6)) (.ref (a 9)) (.int (bI true)) (.ref (a 38)) (.ref (a 41)) (.ref (a 43)) (.ref (a 44)) (.ref (a 48)) (.ref (a 50)) (.int pe) (.ref (a 13)) H.size (t.1, h2) (nI 0) (G_undoCount hH1)) 7 rfl rfl rfl [0, 13] rfl rfl rfl rfl ⟨(Nat.le_of_ble_eq_true rfl), (Nat.le_of_ble_eq_true rfl)⟩ hl.1 rfl rfl (Nat.le_of_ble_eq_true rfl) dL_law_471 ⟨by show cells + 1 + 0 ≤ 600086; omega, by show slots + 100 + 0 ≤ 7301442; omega⟩) hP hD hS hA [0, 13] [1, 0, 0, 0, 0, 0, 0, 0, 0, 0, 0, 0, 0, 2, 0, 0, 0, 0, 0, 0, 0, 0, 0, 0, 0, 0, 0, 0, 0, 0, 0, 0, 0, 0, 0, 0, 0, 0, 0, 0, 0, 0, 0, 0, 0, 0, 0, 0, 0, 0, 0, 0, 0, 0] rfl (fun _ => rfl) rfl (by decide +kernel) (fun r _ H locs hw hP hD hS => ?_)
  subst hw
  have hP : va_P G vwCl (OW ca Z q a P1 Bf Dr Sn true (t.1, h2) S2 sc rd sr sh ac pe ++ [(x1, .inl (ca 0, (10 + 2 * ns0 + 2 * k0), .inl g1)), (x2, .inl (ca 0, (10 + 2 * ns0 + 2 * k0), .inl g2))]) H := hP
  have hD : va_D (lwA s) (OW ca Z q a P1 Bf Dr Sn true (t.1, h2) S2 sc rd sr sh ac pe ++ [(x1, .inl (ca 0, (10 + 2 * ns0 + 2 * k0), .inl g1)), (x2, .inl (ca 0, (10 + 2 * ns0 + 2 * k0), .inl g2))]) := hD
  refine lv_if_ne (tgt := 489) hx hb dL_law_474 (by decide) (fun z9 => absurd rfl z9) (fun _ => ?_)
  refine lv_aload_n hx hb dL_law_477 rfl (lv_at hl 3 rfl) ?_
  refine lw_i (sw_runV (As := []) (rest := []) Cx hP hD hS mv_X10_undo ml_L_200 (c_X10_undo l G ca Z q (a 50) (a 12) (a 13) (fun j => a (14 + 3 * j)) (fun j => a (16 + 3 * j)) (fun j => a (15 + 3 * j)) (a 0) (a 2) (a 1) (.ref (a 3)) (.ref (a 6)) (.ref (a 9)) (.int (bI true)) (.ref (a 38)) (.ref (a 41)) (.ref (a 43)) (.ref (a 44)) (.ref (a 48)) (.int pe) H.size ac (t.1, h2) P1 (-1, (ac, (t.1, h2), P1)) (G_undo0 hH1 ac)) 7 rfl rfl rfl [0, 51, 13, 14, 15, 17, 16, 18, 20, 19, 21, 23, 22, 24, 26, 25, 27, 29, 28, 30, 32, 31, 33, 35, 34, 36, 38, 37, 1, 3, 2] rfl rfl rfl rfl ⟨(Nat.le_of_ble_eq_true rfl), (Nat.le_of_ble_eq_true rfl)⟩ hl.1 rfl rfl (Nat.le_of_ble_eq_true rfl) dL_law_478 ⟨by show cells + 1 + 0 ≤ 600086; omega, by show slots + 100 + 0 ≤ 7301442; omega⟩) hP hD hS hA [0, 51, 13, 14, 15, 17, 16, 18, 20, 19, 21, 23, 22, 24, 26, 25, 27, 29, 28, 30, 32, 31, 33, 35, 34, 36, 38, 37, 1, 3, 2] [1, 29, 31, 30, 0, 0, 0, 0, 0, 0, 0, 0, 0, 3, 4, 5, 7, 6, 8, 10, 9, 11, 13, 12, 14, 16, 15, 17, 19, 18, 20, 22, 21, 23, 25, 24, 26, 28, 27, 0, 0, 0, 0, 0, 0, 0, 0, 0, 0, 0, 0, 2, 0, 0] rfl (fun _ => rfl) rfl (by decide +kernel) (fun r u9 H locs hw hP hD hS => ?_)
  obtain ⟨rfl, rfl⟩ := hw
  have hP : va_P G vwCl (OW ca Z q a P1 Bf Dr Sn true (t.1, h2) S2 sc rd sr sh ac pe ++ [(x1, .inl (ca 0, (10 + 2 * ns0 + 2 * k0), .inl g1)), (x2, .inl (ca 0, (10 + 2 * ns0 + 2 * k0), .inl g2))]) H := hP
  have hD : va_D (lwA s) (OW ca Z q a P1 Bf Dr Sn true (t.1, h2) S2 sc rd sr sh ac pe ++ [(x1, .inl (ca 0, (10 + 2 * ns0 + 2 * k0), .inl g1)), (x2, .inl (ca 0, (10 + 2 * ns0 + 2 * k0), .inl g2))]) := hD
  refine lv_iconst (v := -1) hx hb dL_law_481 (by decide) ?_
  refine lv_icmp_ne (tgt := 489) hx hb dL_law_482 (by decide) (fun z9 => absurd rfl z9) (fun _ => ?_)
  refine lv_iconst (v := 1) hx hb dL_law_485 (by decide) ?_
  refine lv_goto (tgt := 490) hx hb dL_law_486 (by decide) ?_
  refine va_forget hS.2.2 ?_
  refine W.widen (k := 600086) (n := 7301442) (by omega) (by omega) ?_
  exact hend H ls
set_option maxHeartbeats 40000000 in
set_option maxRecDepth 100000 in
theorem lf_421 (C : lc63 p l s m meth c G ca Z b L xs) (hend : ∀ (H : Heap) (ls : Array Slot), W p l e room_1 s m #[.ref b] below meth c H [] 600086 7301442 Q (F0 m 490 ls [.int 1])) (hb1 : cells + 10 ≤ 600086) (hb2 : slots + 1000 ≤ 7301442) (hWF : WF w0 ns0 R0 k0 D0) (hSn : PX w0 ns0 R0 k0 D0 Sn) (hg1 : ∀ j, j < (10 + 2 * ns0 + 2 * k0) → g1 j = av w0 ns0 R0 k0 D0 j) : ∀ (r i : Nat) (w ns kk : Nat) (R D : Nat → Nat) (P Bf : PlanT) (t : HistT) (S : SieveT) (ac : Nat → Int32) (c9 : Nat) (top : PlanT → Prop) (v : Nat) (H : Heap) (locs : List Loc) (ls : Array Slot), i + r = 5 → CY w ns R kk D P S → 1 + sm R ns ≤ 300 → HI t c9 top → P.2.2.2.2.2.2 = nI v → v + 100 * r + 200 < 2 ^ 31 →
    va_P G vwCl (OW ca Z q a P Bf Dr Sn true t S sc rd sr sh ac pe ++ [(x1, .inl (ca 0, (10 + 2 * ns0 + 2 * k0), .inl g1))]) H → va_D (lwA s) (OW ca Z q a P Bf Dr Sn true t S sc rd sr sh ac pe ++ [(x1, .inl (ca 0, (10 + 2 * ns0 + 2 * k0), .inl g1))]) → va_S (lwA s) s.heap H locs → lv_has ls 12 [(8, .int (nI i)), (7, .ref x1), (0, .ref b), (1, .ref q)] → W p l e room_1 s m #[.ref b] below meth c H locs cells slots Q (F0 m 421 ls []) := by
  obtain ⟨Cx, hXs, hbl, hL⟩ := id C
  obtain ⟨⟨hx, hb, hml, hown, htU⟩, hK, hX, hY, hA⟩ := id Cx
  intro r
  induction r with
  | zero =>
    intro i w ns kk R D P Bf t S ac c9 top v H locs ls hi hC h300 hH hv hvv hP hD hS hl
    refine lv_iload hx hb dL_law_421 (lv_at hl 0 rfl) ?_
    refine lv_iconst (v := 5) hx hb dL_law_423 (by decide) ?_
    have hi : i = 5 := by omega
    subst hi
    refine lv_icmp_ge (tgt := 451) hx hb dL_law_424 (by decide) (fun _ => ?_) (fun z9 => absurd (show (5 : Int32) ≤ nI 5 by decide) z9)
    exact lf_451 C hend hb1 hb2 hWF hSn hg1 hC hH hv (by omega) hP hD hS hl
  | succ r ih =>
    intro i w ns kk R D P Bf t S ac c9 top v H locs ls hi hC h300 hH hv hvv hP hD hS hl
    refine lv_iload hx hb dL_law_421 (lv_at hl 0 rfl) ?_
    refine lv_iconst (v := 5) hx hb dL_law_423 (by decide) ?_
    refine lv_icmp_ge (tgt := 451) hx hb dL_law_424 (by decide) (fun z9 => absurd z9 (nI_ge (b := 5) (by omega) (by decide))) (fun _ => ?_)
    refine lv_aload_n hx hb dL_law_427 rfl (lv_at hl 3 rfl) ?_
    refine lv_aload_n hx hb dL_law_428 rfl (lv_at hl 2 rfl) ?_
    refine lv_bipush (v := 36) hx hb dL_law_429 (by decide) ?_
    refine lv_iload hx hb dL_law_431 (lv_at hl 0 rfl) ?_
    refine sj_iadd (v := nI (36 + i)) hx hb dL_law_433 (e_add 36 _) ?_
    refine sw_ci (sx_runS (X := sx_X b L xs) (As := [.ref b, .int (nI (36 + i))]) (rest := [.ref q]) Cx hP hD hS ms_L_cell ml_L_142 (c_L_cell l G ca Z b L (36 + i) xs H.size (by omega) (by omega)) sx_bl (fun U hU hW => lx_kept hXs hbl hS hU hW) [] rfl rfl rfl rfl ⟨(Nat.le_of_ble_eq_true rfl), (Nat.le_of_ble_eq_true rfl)⟩ hl.1 rfl rfl (Nat.le_of_ble_eq_true rfl) dL_law_434 ⟨by show cells + 0 ≤ 600086; omega, by show slots + 0 ≤ 7301442; omega⟩) hP hD hS hA [] [0, 1, 2, 3, 4, 5, 6, 7, 8, 9, 10, 11, 12, 13, 14, 15, 16, 17, 18, 19, 20, 21, 22, 23, 24, 25, 26, 27, 28, 29, 30, 31, 32, 33, 34, 35, 36, 37, 38, 39, 40, 41, 42, 43, 44, 45, 46, 47, 48, 49, 50, 51, 52] [0, 1, 2, 3, 4, 5, 6, 7, 8, 9, 10, 11, 12, 13, 14, 15, 16, 17, 18, 19, 20, 21, 22, 23, 24, 25, 26, 27, 28, 29, 30, 31, 32, 33, 34, 35, 36, 37, 38, 39, 40, 41, 42, 43, 44, 45, 46, 47, 48, 49, 50, 51, 52] rfl rfl rfl (by decide) (fun _ => rfl) rfl (fun r9 _ H locs hw hP hD hS => ?_)
    subst hw
    have hP : va_P G vwCl (OW ca Z q a P Bf Dr Sn true t S sc rd sr sh ac pe ++ [(x1, .inl (ca 0, (10 + 2 * ns0 + 2 * k0), .inl g1))]) H := hP
    have hD : va_D (lwA s) (OW ca Z q a P Bf Dr Sn true t S sc rd sr sh ac pe ++ [(x1, .inl (ca 0, (10 + 2 * ns0 + 2 * k0), .inl g1))]) := hD
    generalize cellv L xs (36 + i) = u
    obtain ⟨w1, ns1, R1, k1, D1, rec, hA1, hw1, h3001, hst⟩ := ACT u hC.1 h300
    obtain ⟨⟨r1, ac1, Bf1, t1, P1, S2⟩, hF1, hr1, hC2, ⟨v1, hv1, hv1a, hv1b⟩, hH1⟩ := hA1 P S ac Bf t c9 top v hC hv (by omega) hH
    have hr1 : r1 = true := hr1
    subst hr1
    have hC2 : CY w1 ns1 R1 k1 D1 P1 S2 := hC2
    have hv1 : P1.2.2.2.2.2.2 = nI v1 := hv1
    obtain ⟨c2, top2, hH2⟩ : ∃ c2 top2, HI t1 c2 top2 := by cases rec with
      | true => exact ⟨_, _, hH1⟩
      | false => exact ⟨_, _, hH1⟩
    refine lw_i (sw_runS (As := [.ref q, .int u]) (rest := []) Cx hP hD hS ms_L_act ml_L_196 (c_L_act l G ca Z q (a 50) (a 3) (a 5) (a 4) (a 12) (a 13) (fun j => a (14 + 3 * j)) (fun j => a (16 + 3 * j)) (fun j => a (15 + 3 * j)) (a 0) (a 2) (a 1) (a 38) (a 40) (a 39) (.ref (a 6)) (.ref (a 9)) (.int (bI true)) (.ref (a 41)) (.ref (a 43)) (.ref (a 44)) (.ref (a 48)) (.int pe) H.size u ac Bf t P S (true, (ac1, Bf1, t1, P1, S2)) hF1) [0, 51, 4, 6, 5, 13, 14, 15, 17, 16, 18, 20, 19, 21, 23, 22, 24, 26, 25, 27, 29, 28, 30, 32, 31, 33, 35, 34, 36, 38, 37, 1, 3, 2, 39, 41, 40] rfl rfl rfl rfl ⟨(Nat.le_of_ble_eq_true rfl), (Nat.le_of_ble_eq_true rfl)⟩ hl.1 rfl rfl (Nat.le_of_ble_eq_true rfl) dL_law_437 ⟨by show cells + 0 ≤ 600086; omega, by show slots + 0 ≤ 7301442; omega⟩) hP hD hS hA [0, 51, 4, 6, 5, 13, 14, 15, 17, 16, 18, 20, 19, 21, 23, 22, 24, 26, 25, 27, 29, 28, 30, 32, 31, 33, 35, 34, 36, 38, 37, 1, 3, 2, 39, 41, 40] [1, 32, 34, 33, 3, 5, 4, 0, 0, 0, 0, 0, 0, 6, 7, 8, 10, 9, 11, 13, 12, 14, 16, 15, 17, 19, 18, 20, 22, 21, 23, 25, 24, 26, 28, 27, 29, 31, 30, 35, 37, 36, 0, 0, 0, 0, 0, 0, 0, 0, 0, 2, 0] rfl (fun _ => rfl) rfl (by decide +kernel) (fun r u9 H locs hw hP hD hS => ?_)
    obtain ⟨rfl, rfl⟩ := hw
    have hP : va_P G vwCl (OW ca Z q a P1 Bf1 Dr Sn true t1 S2 sc rd sr sh ac1 pe ++ [(x1, .inl (ca 0, (10 + 2 * ns0 + 2 * k0), .inl g1))]) H := hP
    have hD : va_D (lwA s) (OW ca Z q a P1 Bf1 Dr Sn true t1 S2 sc rd sr sh ac1 pe ++ [(x1, .inl (ca 0, (10 + 2 * ns0 + 2 * k0), .inl g1))]) := hD
    refine lv_if_ne (tgt := 445) hx hb dL_law_440 (by decide) (fun _ => ?_) (fun z9 => absurd z9 nq1)
    refine lv_iinc (v := nI (i + 1)) (lv' := [(8, .int (nI (i + 1))), (7, .ref x1), (0, .ref b), (1, .ref q)]) hx hb dL_law_445 hl (k := 0) rfl (nI_1 i) (by decide) rfl (fun ls hl => ?_)
    refine lv_goto (tgt := 421) hx hb dL_law_448 (by decide) ?_
    exact ih (i + 1) w1 ns1 k1 R1 D1 P1 Bf1 t1 S2 ac1 c2 top2 v1 H locs ls (by omega) hC2 h3001 hH2 hv1 (by omega) hP hD hS hl
set_option maxHeartbeats 40000000 in
set_option maxRecDepth 100000 in
theorem lf_408 (C : lc63 p l s m meth c G ca Z b L xs) (hend : ∀ (H : Heap) (ls : Array Slot), W p l e room_1 s m #[.ref b] below meth c H [] 600086 7301442 Q (F0 m 490 ls [.int 1])) (hb1 : cells + 20 ≤ 600086) (hb2 : slots + 2000 ≤ 7301442) (hC : CY w ns R kk D P S) (h300 : 1 + sm R ns ≤ 300) (hH : HI t c9 top) (hv : P.2.2.2.2.2.2 = nI v) (hvv : v + 1000 < 2 ^ 31)
    (hP : va_P G vwCl (OW ca Z q a P Bf Dr Sn hs t S sc rd sr sh ac pe) H) (hD : va_D (lwA s) (OW ca Z q a P Bf Dr Sn hs t S sc rd sr sh ac pe)) (hS : va_S (lwA s) s.heap H locs) (hl : lv_has ls 12 [(7, .int (nI 28)), (0, .ref b), (1, .ref q)]) : W p l e room_1 s m #[.ref b] below meth c H locs cells slots Q (F0 m 408 ls []) := by
  obtain ⟨Cx, hXs, hbl, hL⟩ := id C
  obtain ⟨⟨hx, hb, hml, hown, htU⟩, hK, hX, hY, hA⟩ := id Cx
  have hN12 := hC.1.2.1
  have hN30 := hC.1.2.2.2.1
  obtain ⟨Sn1, hF0, hSn⟩ := G_save hC.1 hC.2.1 hs Sn
  refine lv_aload_n hx hb dL_law_408 rfl (lv_at hl 2 rfl) ?_
  refine lw_v (sw_runV (As := []) (rest := []) Cx hP hD hS mv_X10_saveSnapshot ml_L_207 (c_X10_saveSnapshot l G ca Z q (a 0) (a 2) (a 1) (a 9) (a 11) (a 10) (.ref (a 3)) (.ref (a 6)) (.ref (a 12)) (.ref (a 38)) (.ref (a 41)) (.ref (a 43)) (.ref (a 44)) (.ref (a 48)) (.ref (a 50)) (.int pe) H.size hs P Sn (true, Sn1) hF0) 7 rfl rfl rfl [0, 1, 3, 2, 10, 12, 11] rfl rfl rfl rfl ⟨(Nat.le_of_ble_eq_true rfl), (Nat.le_of_ble_eq_true rfl)⟩ hl.1 rfl rfl (Nat.le_of_ble_eq_true rfl) dL_law_409 ⟨by show cells + 0 ≤ 600086; omega, by show slots + 0 ≤ 7301442; omega⟩) hP hD hS hA [0, 1, 3, 2, 10, 12, 11] [1, 2, 4, 3, 0, 0, 0, 0, 0, 0, 5, 7, 6, 0, 0, 0, 0, 0, 0, 0, 0, 0, 0, 0, 0, 0, 0, 0, 0, 0, 0, 0, 0, 0, 0, 0, 0, 0, 0, 0, 0, 0, 0, 0, 0, 0, 0, 0, 0, 0, 0, 0] rfl (fun _ => rfl) rfl (by decide +kernel) (fun u9 H locs hw hP hD hS => ?_)
  subst hw
  have hP : va_P G vwCl (OW ca Z q a P Bf Dr Sn1 true t S sc rd sr sh ac pe) H := hP
  have hD : va_D (lwA s) (OW ca Z q a P Bf Dr Sn1 true t S sc rd sr sh ac pe) := hD
  refine lv_aload_n hx hb dL_law_412 rfl (lv_at hl 2 rfl) ?_
  refine sj_cr (f0 := fun u : Nat × SieveT × (Nat → Int32) => u.1) (sw_runS (As := [.ref q]) (rest := []) Cx hP hD hS ms_L_all ml_L_189 (c_L_all l G ca Z q (a 0) (a 2) (a 1) (a 38) (a 39) (a 40) (.ref (a 3)) (.ref (a 6)) (.ref (a 9)) (.int (bI true)) (.ref (a 12)) (.ref (a 41)) (.ref (a 43)) (.ref (a 44)) (.ref (a 48)) (.ref (a 50)) (.int pe) H.size w ns kk R D P S hC (10 + 2 * ns + 2 * kk) rfl) [0, 1, 3, 2, 39, 41, 40] rfl rfl rfl rfl ⟨(Nat.le_of_ble_eq_true rfl), (Nat.le_of_ble_eq_true rfl)⟩ hl.1 rfl rfl (Nat.le_of_ble_eq_true rfl) dL_law_413 ⟨by show cells + 1 ≤ 600086; omega, by show slots + 100 ≤ 7301442; omega⟩) hP hD hS hA [0, 1, 3, 2, 39, 41, 40] [4, 5, 6, 7, 8, 9, 10, 11, 12, 13, 14, 15, 16, 17, 18, 19, 20, 21, 22, 23, 24, 25, 26, 27, 28, 29, 30, 31, 32, 33, 34, 35, 36, 37, 38, 42, 43, 44, 45, 46, 47, 48, 49, 50, 51] [45, 46, 48, 47, 0, 1, 2, 3, 4, 5, 6, 7, 8, 9, 10, 11, 12, 13, 14, 15, 16, 17, 18, 19, 20, 21, 22, 23, 24, 25, 26, 27, 28, 29, 30, 31, 32, 33, 34, 49, 51, 50, 35, 36, 37, 38, 39, 40, 41, 42, 43, 44, 52] rfl rfl rfl (by decide) (fun _ => rfl) rfl (fun u9 H locs hw hP hD hS => ?_)
  obtain ⟨x1, S1, g1⟩ := u9
  obtain ⟨hC1, hg1⟩ := hw
  have hP : va_P G vwCl (OW ca Z q a P Bf Dr Sn1 true t S1 sc rd sr sh ac pe ++ [(x1, .inl (ca 0, (10 + 2 * ns + 2 * kk), .inl g1))]) H := hP
  have hD : va_D (lwA s) (OW ca Z q a P Bf Dr Sn1 true t S1 sc rd sr sh ac pe ++ [(x1, .inl (ca 0, (10 + 2 * ns + 2 * kk), .inl g1))]) := hD
  refine lv_astore (lv' := [(7, .ref x1), (0, .ref b), (1, .ref q)]) hx hb dL_law_416 hl (by decide) rfl (fun ls hl => ?_)
  refine lv_iconst (v := 0) hx hb dL_law_418 (by decide) ?_
  refine lv_istore (lv' := [(8, .int 0), (7, .ref x1), (0, .ref b), (1, .ref q)]) hx hb dL_law_419 hl (by decide) rfl (fun ls hl => ?_)
  exact lf_421 (cells := cells + 1) (slots := slots + 100) C hend (by omega) (by omega) hC.1 hSn hg1 5 0 w ns kk R D P Bf t S1 ac c9 top v H locs ls rfl hC1 h300 hH hv (by omega) hP hD hS hl
end
