/-! ===== the law: its rounds ===== -/
section
variable {p : Program} {l : Launch} {e : Env} {s : State} {m : MethodId} {below : List Frame} {meth : Method} {c : Code} {H : Heap} {locs : List Loc} {cells slots cells1 slots1 : Nat} {Q : State → Prop} {G : va_G} {ca Z : Nat → Nat} {b L q k v v1 c9 c2 w ns kk w1 ns1 k1 N1 N2 x1 x2 : Nat} {xs : Nat → Int32} {a : Nat → Nat} {ls : Array Slot} {R D R1 D1 : Nat → Nat} {top top2 : PlanT → Prop} {u : Int32} {g1 g2 : Nat → Int32}
  {P : PlanT} {Bf : PlanT} {Dr : PlanT} {Sn : PlanT} {hs : Bool} {t : HistT} {S : SieveT} {sc : SrcT} {rd : ReadT} {sr : ScrT} {sh : SheetT} {ac : (Nat → Int32)} {pe : Int32}
set_option maxHeartbeats 4000000 in
set_option maxRecDepth 100000 in
theorem le_402 (C : lc63 p l s m meth c G ca Z b L xs) (hk : k < 28) (hcl : cells1 ≤ cells + 5) (hsl : slots1 ≤ slots + 500) (hC : CY w ns R kk D P S) (h300 : 1 + sm R ns ≤ 300) (hH : HI t c2 top) (hv : P.2.2.2.2.2.2 = nI v1) (hv2 : v1 ≤ v + 200)
    (hP : va_P G vwCl (OW ca Z q a P Bf Dr Sn hs t S sc rd sr sh ac pe ++ [(x1, .inl (ca 0, N1, .inl g1)), (x2, .inl (ca 0, N2, .inl g2))]) H) (hD : va_D (lwA s) (OW ca Z q a P Bf Dr Sn hs t S sc rd sr sh ac pe ++ [(x1, .inl (ca 0, N1, .inl g1)), (x2, .inl (ca 0, N2, .inl g2))])) (hS : va_S (lwA s) s.heap H locs) (hl : lv_has ls 12 [(11, .ref x2), (10, .int (nI c9)), (9, .ref x1), (8, .int u), (7, .int (nI k)), (0, .ref b), (1, .ref q)]) (KK : kk63 p l e s m below meth c G ca Z b q a k cells slots v Q Dr Sn hs sc rd sr sh pe) : W p l e room_1 s m #[.ref b] below meth c H locs cells1 slots1 Q (F0 m 402 ls []) := by
  obtain ⟨Cx, hXs, hbl, hL⟩ := id C
  obtain ⟨⟨hx, hb, hml, hown, htU⟩, hK, hX, hY, hA⟩ := id Cx
  refine lv_iinc (v := nI (k + 1)) (lv' := [(7, .int (nI (k + 1))), (11, .ref x2), (10, .int (nI c9)), (9, .ref x1), (8, .int u), (0, .ref b), (1, .ref q)]) hx hb dL_law_402 hl (k := 4) rfl (nI_1 k) (by decide) rfl (fun ls hl => ?_)
  refine lv_goto (tgt := 223) hx hb dL_law_405 (by decide) ?_
  have hP : va_P G vwCl (OW ca Z q a P Bf Dr Sn hs t S sc rd sr sh ac pe) H := hP.sub [0, 1, 2, 3, 4, 5, 6, 7, 8, 9, 10, 11, 12, 13, 14, 15, 16, 17, 18, 19, 20, 21, 22, 23, 24, 25, 26, 27, 28, 29, 30, 31, 32, 33, 34, 35, 36, 37, 38, 39, 40, 41, 42, 43, 44, 45, 46, 47, 48, 49, 50, 51] rfl
  have hD : va_D (lwA s) (OW ca Z q a P Bf Dr Sn hs t S sc rd sr sh ac pe) := hD.sub [0, 1, 2, 3, 4, 5, 6, 7, 8, 9, 10, 11, 12, 13, 14, 15, 16, 17, 18, 19, 20, 21, 22, 23, 24, 25, 26, 27, 28, 29, 30, 31, 32, 33, 34, 35, 36, 37, 38, 39, 40, 41, 42, 43, 44, 45, 46, 47, 48, 49, 50, 51] rfl rfl
  refine va_forget hS.2.2 ?_
  refine W.widen (k := cells + 5) (n := slots + 500) hcl hsl ?_
  exact KK w ns kk R D P Bf t S ac c2 top v1 H ls hC h300 hH hv hv2 hP hD (va_forg hS) (lv_sub hl [0, 5, 6] rfl)
set_option maxHeartbeats 4000000 in
set_option maxRecDepth 100000 in
theorem le_374 (C : lc63 p l s m meth c G ca Z b L xs) (hk : k < 28) (hcl : cells1 ≤ cells + 5) (hsl : slots1 ≤ slots + 500) (hb1 : cells + 5 ≤ 600086) (hb2 : slots + 500 ≤ 7301442) (hC : CY w ns R kk D P S) (h300 : 1 + sm R ns ≤ 300) (hH : HI t c2 top) (hc9 : c9 ≤ 8) (hv : P.2.2.2.2.2.2 = nI v1) (hv2 : v1 ≤ v + 200) (hN : N2 ≤ 4096)
    (hq : c2 = c9 → c9 < 8 → N1 = N2 ∧ ∀ j, j < N1 → g1 j = g2 j)
    (hP : va_P G vwCl (OW ca Z q a P Bf Dr Sn hs t S sc rd sr sh ac pe ++ [(x1, .inl (ca 0, N1, .inl g1)), (x2, .inl (ca 0, N2, .inl g2))]) H) (hD : va_D (lwA s) (OW ca Z q a P Bf Dr Sn hs t S sc rd sr sh ac pe ++ [(x1, .inl (ca 0, N1, .inl g1)), (x2, .inl (ca 0, N2, .inl g2))])) (hS : va_S (lwA s) s.heap H locs) (hl : lv_has ls 12 [(11, .ref x2), (10, .int (nI c9)), (9, .ref x1), (8, .int u), (7, .int (nI k)), (0, .ref b), (1, .ref q)]) (KK : kk63 p l e s m below meth c G ca Z b q a k cells slots v Q Dr Sn hs sc rd sr sh pe) : W p l e room_1 s m #[.ref b] below meth c H locs cells1 slots1 Q (F0 m 374 ls []) := by
  obtain ⟨Cx, hXs, hbl, hL⟩ := id C
  obtain ⟨⟨hx, hb, hml, hown, htU⟩, hK, hX, hY, hA⟩ := id Cx
  have hc2 : c2 ≤ 8 := hH.choose_spec.2.1
  refine lv_aload_n hx hb dL_law_374 rfl (lv_at hl 6 rfl) ?_
  refine lw_i (sw_runV (As := []) (rest := []) Cx hP hD hS mv_X10_undoCount ml_L_193 (c_X10_undoCount l G ca Z q (a 12) (.ref (a 0)) (.ref (a 3)) (.ref (a 6)) (.ref (a 9)) (.int (bI hs)) (.ref (a 38)) (.ref (a 41)) (.ref (a 43)) (.ref (a 44)) (.ref (a 48)) (.ref (a 50)) (.int pe) (.ref (a 13)) H.size t (nI c2) (G_undoCount hH)) 7 rfl rfl rfl [0, 13] rfl rfl rfl rfl ⟨(Nat.le_of_ble_eq_true rfl), (Nat.le_of_ble_eq_true rfl)⟩ hl.1 rfl rfl (Nat.le_of_ble_eq_true rfl) dL_law_375 ⟨by show cells1 + 0 ≤ 600086; omega, by show slots1 + 0 ≤ 7301442; omega⟩) hP hD hS hA [0, 13] [1, 0, 0, 0, 0, 0, 0, 0, 0, 0, 0, 0, 0, 2, 0, 0, 0, 0, 0, 0, 0, 0, 0, 0, 0, 0, 0, 0, 0, 0, 0, 0, 0, 0, 0, 0, 0, 0, 0, 0, 0, 0, 0, 0, 0, 0, 0, 0, 0, 0, 0, 0, 0, 0] rfl (fun _ => rfl) rfl (by decide +kernel) (fun r _ H locs hw hP hD hS => ?_)
  subst hw
  have hP : va_P G vwCl (OW ca Z q a P Bf Dr Sn hs t S sc rd sr sh ac pe ++ [(x1, .inl (ca 0, N1, .inl g1)), (x2, .inl (ca 0, N2, .inl g2))]) H := hP
  have hD : va_D (lwA s) (OW ca Z q a P Bf Dr Sn hs t S sc rd sr sh ac pe ++ [(x1, .inl (ca 0, N1, .inl g1)), (x2, .inl (ca 0, N2, .inl g2))]) := hD
  refine lv_iload hx hb dL_law_378 (lv_at hl 1 rfl) ?_
  refine lv_icmp_ne (tgt := 402) hx hb dL_law_380 (by decide) (fun c0 => ?_) (fun c0 => ?_)
  · exact le_402 C hk hcl hsl hC h300 hH hv hv2 hP hD hS hl KK
  have e0 : c2 = c9 := (nI_eq (by omega) (by omega)).mp c0
  refine lv_iload hx hb dL_law_383 (lv_at hl 1 rfl) ?_
  refine lv_bipush (v := 8) hx hb dL_law_385 (by decide) ?_
  refine lv_icmp_ge (tgt := 402) hx hb dL_law_387 (by decide) (fun c8 => ?_) (fun c8 => ?_)
  · exact le_402 C hk hcl hsl hC h300 hH hv hv2 hP hD hS hl KK
  have e8 : c9 < 8 := Nat.lt_of_not_le fun z => c8 (nI_le (a := 8) z (by omega))
  obtain ⟨eN, eg⟩ := hq e0 e8
  subst eN
  refine lv_aload hx hb dL_law_390 (lv_at hl 2 rfl) ?_
  refine lv_aload hx hb dL_law_392 (lv_at hl 0 rfl) ?_
  refine lw_i (sw_runS (As := [.ref x1, .ref x2]) (rest := []) Cx hP hD hS ms_L_alike ml_L_203 (c_L_alike l G ca Z x1 x2 N1 g1 g2 H.size (eg) (by omega)) [52, 53] rfl rfl rfl rfl ⟨(Nat.le_of_ble_eq_true rfl), (Nat.le_of_ble_eq_true rfl)⟩ hl.1 rfl rfl (Nat.le_of_ble_eq_true rfl) dL_law_394 ⟨by show cells1 + 0 ≤ 600086; omega, by show slots1 + 0 ≤ 7301442; omega⟩) hP hD hS hA [52, 53] [0, 0, 0, 0, 0, 0, 0, 0, 0, 0, 0, 0, 0, 0, 0, 0, 0, 0, 0, 0, 0, 0, 0, 0, 0, 0, 0, 0, 0, 0, 0, 0, 0, 0, 0, 0, 0, 0, 0, 0, 0, 0, 0, 0, 0, 0, 0, 0, 0, 0, 0, 0, 1, 2] rfl (fun _ => rfl) rfl (by decide +kernel) (fun r _ H locs hw hP hD hS => ?_)
  subst hw
  have hP : va_P G vwCl (OW ca Z q a P Bf Dr Sn hs t S sc rd sr sh ac pe ++ [(x1, .inl (ca 0, N1, .inl g1)), (x2, .inl (ca 0, N1, .inl g2))]) H := hP
  have hD : va_D (lwA s) (OW ca Z q a P Bf Dr Sn hs t S sc rd sr sh ac pe ++ [(x1, .inl (ca 0, N1, .inl g1)), (x2, .inl (ca 0, N1, .inl g2))]) := hD
  refine lv_if_ne (tgt := 402) hx hb dL_law_397 (by decide) (fun _ => ?_) (fun z9 => absurd z9 nq1)
  exact le_402 C hk hcl hsl hC h300 hH hv hv2 hP hD hS hl KK
set_option maxHeartbeats 40000000 in
set_option maxRecDepth 100000 in
theorem le_330 (C : lc63 p l s m meth c G ca Z b L xs) (hk : k < 28) (hcc : cells1 ≤ cells + 2) (hss : slots1 ≤ slots + 200) (hb1 : cells + 5 ≤ 600086) (hb2 : slots + 500 ≤ 7301442) (hvv : v + 1000 < 2 ^ 31) (hWF : WF w ns R kk D) (h300 : 1 + sm R ns ≤ 300) (h3001 : 1 + sm R1 ns1 ≤ 300) (hA1 : ACX u w ns R kk D w1 ns1 R1 k1 D1 true) (hc8 : c9 < 8) (hC3 : CY w1 ns1 R1 k1 D1 P S) (hv1 : P.2.2.2.2.2.2 = nI v1) (hv1b : v1 ≤ v + 40) (hH1 : HI t (c9 + 1) (PX w ns R kk D)) (hg1 : ∀ j, j < (10 + 2 * ns + 2 * kk) → g1 j = av w ns R kk D j) (hg2 : ∀ j, j < (10 + 2 * ns1 + 2 * k1) → g2 j = av w1 ns1 R1 k1 D1 j)
    (hP : va_P G vwCl (OW ca Z q a P Bf Dr Sn hs t S sc rd sr sh ac pe ++ [(x1, .inl (ca 0, (10 + 2 * ns + 2 * kk), .inl g1)), (x2, .inl (ca 0, (10 + 2 * ns1 + 2 * k1), .inl g2))]) H) (hD : va_D (lwA s) (OW ca Z q a P Bf Dr Sn hs t S sc rd sr sh ac pe ++ [(x1, .inl (ca 0, (10 + 2 * ns + 2 * kk), .inl g1)), (x2, .inl (ca 0, (10 + 2 * ns1 + 2 * k1), .inl g2))])) (hS : va_S (lwA s) s.heap H locs) (hl : lv_has ls 12 [(11, .ref x2), (10, .int (nI c9)), (9, .ref x1), (8, .int u), (7, .int (nI k)), (0, .ref b), (1, .ref q)]) (KK : kk63 p l e s m below meth c G ca Z b q a k cells slots v Q Dr Sn hs sc rd sr sh pe) : W p l e room_1 s m #[.ref b] below meth c H locs cells1 slots1 Q (F0 m 330 ls []) := by
  obtain ⟨Cx, hXs, hbl, hL⟩ := id C
  obtain ⟨⟨hx, hb, hml, hown, htU⟩, hK, hX, hY, hA⟩ := id Cx
  have hN12 := hWF.2.1
  have hN30 := hWF.2.2.2.1
  have hM12 := hC3.1.2.1
  have hM30 := hC3.1.2.2.2.1
  obtain ⟨ac2, t2, P2, hF2, hH2, hC4, hv2⟩ := G_undo (w' := w) (ns' := ns) (k' := kk) (R' := R) (D' := D) hH1 hWF hC3.2.2 hv1 (by omega) ac
  refine lv_aload_n hx hb dL_law_330 rfl (lv_at hl 6 rfl) ?_
  refine lw_i (sw_runV (As := []) (rest := []) Cx hP hD hS mv_X10_undo ml_L_200 (c_X10_undo l G ca Z q (a 50) (a 12) (a 13) (fun j => a (14 + 3 * j)) (fun j => a (16 + 3 * j)) (fun j => a (15 + 3 * j)) (a 0) (a 2) (a 1) (.ref (a 3)) (.ref (a 6)) (.ref (a 9)) (.int (bI hs)) (.ref (a 38)) (.ref (a 41)) (.ref (a 43)) (.ref (a 44)) (.ref (a 48)) (.int pe) H.size ac t P (nI c9, (ac2, t2, P2)) hF2) 7 rfl rfl rfl [0, 51, 13, 14, 15, 17, 16, 18, 20, 19, 21, 23, 22, 24, 26, 25, 27, 29, 28, 30, 32, 31, 33, 35, 34, 36, 38, 37, 1, 3, 2] rfl rfl rfl rfl ⟨(Nat.le_of_ble_eq_true rfl), (Nat.le_of_ble_eq_true rfl)⟩ hl.1 rfl rfl (Nat.le_of_ble_eq_true rfl) dL_law_331 ⟨by show cells1 + 0 + 0 ≤ 600086; omega, by show slots1 + 0 + 0 ≤ 7301442; omega⟩) hP hD hS hA [0, 51, 13, 14, 15, 17, 16, 18, 20, 19, 21, 23, 22, 24, 26, 25, 27, 29, 28, 30, 32, 31, 33, 35, 34, 36, 38, 37, 1, 3, 2] [1, 29, 31, 30, 0, 0, 0, 0, 0, 0, 0, 0, 0, 3, 4, 5, 7, 6, 8, 10, 9, 11, 13, 12, 14, 16, 15, 17, 19, 18, 20, 22, 21, 23, 25, 24, 26, 28, 27, 0, 0, 0, 0, 0, 0, 0, 0, 0, 0, 0, 0, 2, 0, 0] rfl (fun _ => rfl) rfl (by decide +kernel) (fun r u9 H locs hw hP hD hS => ?_)
  obtain ⟨rfl, rfl⟩ := hw
  have hP : va_P G vwCl (OW ca Z q a P2 Bf Dr Sn hs t2 S sc rd sr sh ac2 pe ++ [(x1, .inl (ca 0, (10 + 2 * ns + 2 * kk), .inl g1)), (x2, .inl (ca 0, (10 + 2 * ns1 + 2 * k1), .inl g2))]) H := hP
  have hD : va_D (lwA s) (OW ca Z q a P2 Bf Dr Sn hs t2 S sc rd sr sh ac2 pe ++ [(x1, .inl (ca 0, (10 + 2 * ns + 2 * kk), .inl g1)), (x2, .inl (ca 0, (10 + 2 * ns1 + 2 * k1), .inl g2))]) := hD
  refine lv_iload hx hb dL_law_334 (lv_at hl 1 rfl) ?_
  refine lv_icmp_ne (tgt := 372) hx hb dL_law_336 (by decide) (fun z9 => absurd rfl z9) (fun _ => ?_)
  refine lv_aload_n hx hb dL_law_339 rfl (lv_at hl 6 rfl) ?_
  refine sj_cr (f0 := fun u : Nat × SieveT × (Nat → Int32) => u.1) (sw_runS (As := [.ref q]) (rest := []) Cx hP hD hS ms_L_all ml_L_189 (c_L_all l G ca Z q (a 0) (a 2) (a 1) (a 38) (a 39) (a 40) (.ref (a 3)) (.ref (a 6)) (.ref (a 9)) (.int (bI hs)) (.ref (a 12)) (.ref (a 41)) (.ref (a 43)) (.ref (a 44)) (.ref (a 48)) (.ref (a 50)) (.int pe) H.size w ns kk R D P2 S hC4 (10 + 2 * ns + 2 * kk) rfl) [0, 1, 3, 2, 39, 41, 40] rfl rfl rfl rfl ⟨(Nat.le_of_ble_eq_true rfl), (Nat.le_of_ble_eq_true rfl)⟩ hl.1 rfl rfl (Nat.le_of_ble_eq_true rfl) dL_law_340 ⟨by show cells1 + 0 + 1 ≤ 600086; omega, by show slots1 + 0 + 100 ≤ 7301442; omega⟩) hP hD hS hA [0, 1, 3, 2, 39, 41, 40] [4, 5, 6, 7, 8, 9, 10, 11, 12, 13, 14, 15, 16, 17, 18, 19, 20, 21, 22, 23, 24, 25, 26, 27, 28, 29, 30, 31, 32, 33, 34, 35, 36, 37, 38, 42, 43, 44, 45, 46, 47, 48, 49, 50, 51, 52, 53] [47, 48, 50, 49, 0, 1, 2, 3, 4, 5, 6, 7, 8, 9, 10, 11, 12, 13, 14, 15, 16, 17, 18, 19, 20, 21, 22, 23, 24, 25, 26, 27, 28, 29, 30, 31, 32, 33, 34, 51, 53, 52, 35, 36, 37, 38, 39, 40, 41, 42, 43, 44, 45, 46, 54] rfl rfl rfl (by decide) (fun _ => rfl) rfl (fun u9 H locs hw hP hD hS => ?_)
  obtain ⟨x3, S4, g3⟩ := u9
  obtain ⟨hC5, hg3⟩ := hw
  have hP : va_P G vwCl (OW ca Z q a P2 Bf Dr Sn hs t2 S4 sc rd sr sh ac2 pe ++ [(x1, .inl (ca 0, (10 + 2 * ns + 2 * kk), .inl g1)), (x2, .inl (ca 0, (10 + 2 * ns1 + 2 * k1), .inl g2)), (x3, .inl (ca 0, (10 + 2 * ns + 2 * kk), .inl g3))]) H := hP
  have hD : va_D (lwA s) (OW ca Z q a P2 Bf Dr Sn hs t2 S4 sc rd sr sh ac2 pe ++ [(x1, .inl (ca 0, (10 + 2 * ns + 2 * kk), .inl g1)), (x2, .inl (ca 0, (10 + 2 * ns1 + 2 * k1), .inl g2)), (x3, .inl (ca 0, (10 + 2 * ns + 2 * kk), .inl g3))]) := hD
  refine lv_aload hx hb dL_law_343 (lv_at hl 2 rfl) ?_
  refine lw_i (sw_runS (As := [.ref x3, .ref x1]) (rest := []) Cx hP hD hS ms_L_alike ml_L_203 (c_L_alike l G ca Z x3 x1 (10 + 2 * ns + 2 * kk) g3 g1 H.size (fun j hj => (hg3 j hj).trans (hg1 j hj).symm) (by omega)) [54, 52] rfl rfl rfl rfl ⟨(Nat.le_of_ble_eq_true rfl), (Nat.le_of_ble_eq_true rfl)⟩ hl.1 rfl rfl (Nat.le_of_ble_eq_true rfl) dL_law_345 ⟨by show cells1 + 1 + 0 ≤ 600086; omega, by show slots1 + 100 + 0 ≤ 7301442; omega⟩) hP hD hS hA [54, 52] [0, 0, 0, 0, 0, 0, 0, 0, 0, 0, 0, 0, 0, 0, 0, 0, 0, 0, 0, 0, 0, 0, 0, 0, 0, 0, 0, 0, 0, 0, 0, 0, 0, 0, 0, 0, 0, 0, 0, 0, 0, 0, 0, 0, 0, 0, 0, 0, 0, 0, 0, 0, 2, 0, 1] rfl (fun _ => rfl) rfl (by decide +kernel) (fun r _ H locs hw hP hD hS => ?_)
  subst hw
  have hP : va_P G vwCl (OW ca Z q a P2 Bf Dr Sn hs t2 S4 sc rd sr sh ac2 pe ++ [(x1, .inl (ca 0, (10 + 2 * ns + 2 * kk), .inl g1)), (x2, .inl (ca 0, (10 + 2 * ns1 + 2 * k1), .inl g2)), (x3, .inl (ca 0, (10 + 2 * ns + 2 * kk), .inl g3))]) H := hP
  have hD : va_D (lwA s) (OW ca Z q a P2 Bf Dr Sn hs t2 S4 sc rd sr sh ac2 pe ++ [(x1, .inl (ca 0, (10 + 2 * ns + 2 * kk), .inl g1)), (x2, .inl (ca 0, (10 + 2 * ns1 + 2 * k1), .inl g2)), (x3, .inl (ca 0, (10 + 2 * ns + 2 * kk), .inl g3))]) := hD
  refine lv_if_eq (tgt := 372) hx hb dL_law_348 (by decide) (fun z9 => absurd z9 nq1) (fun _ => ?_)
  obtain ⟨⟨r2, ac3, Bf3, t3, P3, S5⟩, hF3, hr2, hC6, ⟨v3, hv3, hv3a, hv3b⟩, hH3⟩ := hA1 P2 S4 ac2 Bf t2 c9 (fun _ => True) (v1 + 1) hC5 hv2 (by omega) hH2
  have hr2 : r2 = true := hr2
  subst hr2
  have hC6 : CY w1 ns1 R1 k1 D1 P3 S5 := hC6
  have hv3 : P3.2.2.2.2.2.2 = nI v3 := hv3
  have hH3 : HI t3 (min (c9 + 1) 8) (PX w ns R kk D) := hH3
  rw [show min (c9 + 1) 8 = c9 + 1 by omega] at hH3
  refine lv_aload_n hx hb dL_law_351 rfl (lv_at hl 6 rfl) ?_
  refine lv_iload hx hb dL_law_352 (lv_at hl 3 rfl) ?_
  refine lw_i (sw_runS (As := [.ref q, .int u]) (rest := []) Cx hP hD hS ms_L_act ml_L_196 (c_L_act l G ca Z q (a 50) (a 3) (a 5) (a 4) (a 12) (a 13) (fun j => a (14 + 3 * j)) (fun j => a (16 + 3 * j)) (fun j => a (15 + 3 * j)) (a 0) (a 2) (a 1) (a 38) (a 40) (a 39) (.ref (a 6)) (.ref (a 9)) (.int (bI hs)) (.ref (a 41)) (.ref (a 43)) (.ref (a 44)) (.ref (a 48)) (.int pe) H.size u ac2 Bf t2 P2 S4 (true, (ac3, Bf3, t3, P3, S5)) hF3) [0, 51, 4, 6, 5, 13, 14, 15, 17, 16, 18, 20, 19, 21, 23, 22, 24, 26, 25, 27, 29, 28, 30, 32, 31, 33, 35, 34, 36, 38, 37, 1, 3, 2, 39, 41, 40] rfl rfl rfl rfl ⟨(Nat.le_of_ble_eq_true rfl), (Nat.le_of_ble_eq_true rfl)⟩ hl.1 rfl rfl (Nat.le_of_ble_eq_true rfl) dL_law_354 ⟨by show cells1 + 1 + 0 ≤ 600086; omega, by show slots1 + 100 + 0 ≤ 7301442; omega⟩) hP hD hS hA [0, 51, 4, 6, 5, 13, 14, 15, 17, 16, 18, 20, 19, 21, 23, 22, 24, 26, 25, 27, 29, 28, 30, 32, 31, 33, 35, 34, 36, 38, 37, 1, 3, 2, 39, 41, 40] [1, 32, 34, 33, 3, 5, 4, 0, 0, 0, 0, 0, 0, 6, 7, 8, 10, 9, 11, 13, 12, 14, 16, 15, 17, 19, 18, 20, 22, 21, 23, 25, 24, 26, 28, 27, 29, 31, 30, 35, 37, 36, 0, 0, 0, 0, 0, 0, 0, 0, 0, 2, 0, 0, 0] rfl (fun _ => rfl) rfl (by decide +kernel) (fun r u9 H locs hw hP hD hS => ?_)
  obtain ⟨rfl, rfl⟩ := hw
  have hP : va_P G vwCl (OW ca Z q a P3 Bf3 Dr Sn hs t3 S5 sc rd sr sh ac3 pe ++ [(x1, .inl (ca 0, (10 + 2 * ns + 2 * kk), .inl g1)), (x2, .inl (ca 0, (10 + 2 * ns1 + 2 * k1), .inl g2)), (x3, .inl (ca 0, (10 + 2 * ns + 2 * kk), .inl g3))]) H := hP
  have hD : va_D (lwA s) (OW ca Z q a P3 Bf3 Dr Sn hs t3 S5 sc rd sr sh ac3 pe ++ [(x1, .inl (ca 0, (10 + 2 * ns + 2 * kk), .inl g1)), (x2, .inl (ca 0, (10 + 2 * ns1 + 2 * k1), .inl g2)), (x3, .inl (ca 0, (10 + 2 * ns + 2 * kk), .inl g3))]) := hD
  refine lv_if_eq (tgt := 372) hx hb dL_law_357 (by decide) (fun z9 => absurd z9 nq1) (fun _ => ?_)
  refine lv_aload_n hx hb dL_law_360 rfl (lv_at hl 6 rfl) ?_
  refine sj_cr (f0 := fun u : Nat × SieveT × (Nat → Int32) => u.1) (sw_runS (As := [.ref q]) (rest := []) Cx hP hD hS ms_L_all ml_L_189 (c_L_all l G ca Z q (a 0) (a 2) (a 1) (a 38) (a 39) (a 40) (.ref (a 3)) (.ref (a 6)) (.ref (a 9)) (.int (bI hs)) (.ref (a 12)) (.ref (a 41)) (.ref (a 43)) (.ref (a 44)) (.ref (a 48)) (.ref (a 50)) (.int pe) H.size w1 ns1 k1 R1 D1 P3 S5 hC6 (10 + 2 * ns1 + 2 * k1) rfl) [0, 1, 3, 2, 39, 41, 40] rfl rfl rfl rfl ⟨(Nat.le_of_ble_eq_true rfl), (Nat.le_of_ble_eq_true rfl)⟩ hl.1 rfl rfl (Nat.le_of_ble_eq_true rfl) dL_law_361 ⟨by show cells1 + 1 + 1 ≤ 600086; omega, by show slots1 + 100 + 100 ≤ 7301442; omega⟩) hP hD hS hA [0, 1, 3, 2, 39, 41, 40] [4, 5, 6, 7, 8, 9, 10, 11, 12, 13, 14, 15, 16, 17, 18, 19, 20, 21, 22, 23, 24, 25, 26, 27, 28, 29, 30, 31, 32, 33, 34, 35, 36, 37, 38, 42, 43, 44, 45, 46, 47, 48, 49, 50, 51, 52, 53, 54] [48, 49, 51, 50, 0, 1, 2, 3, 4, 5, 6, 7, 8, 9, 10, 11, 12, 13, 14, 15, 16, 17, 18, 19, 20, 21, 22, 23, 24, 25, 26, 27, 28, 29, 30, 31, 32, 33, 34, 52, 54, 53, 35, 36, 37, 38, 39, 40, 41, 42, 43, 44, 45, 46, 47, 55] rfl rfl rfl (by decide) (fun _ => rfl) rfl (fun u9 H locs hw hP hD hS => ?_)
  obtain ⟨x4, S6, g4⟩ := u9
  obtain ⟨hC7, hg4⟩ := hw
  have hP : va_P G vwCl (OW ca Z q a P3 Bf3 Dr Sn hs t3 S6 sc rd sr sh ac3 pe ++ [(x1, .inl (ca 0, (10 + 2 * ns + 2 * kk), .inl g1)), (x2, .inl (ca 0, (10 + 2 * ns1 + 2 * k1), .inl g2)), (x3, .inl (ca 0, (10 + 2 * ns + 2 * kk), .inl g3)), (x4, .inl (ca 0, (10 + 2 * ns1 + 2 * k1), .inl g4))]) H := hP
  have hD : va_D (lwA s) (OW ca Z q a P3 Bf3 Dr Sn hs t3 S6 sc rd sr sh ac3 pe ++ [(x1, .inl (ca 0, (10 + 2 * ns + 2 * kk), .inl g1)), (x2, .inl (ca 0, (10 + 2 * ns1 + 2 * k1), .inl g2)), (x3, .inl (ca 0, (10 + 2 * ns + 2 * kk), .inl g3)), (x4, .inl (ca 0, (10 + 2 * ns1 + 2 * k1), .inl g4))]) := hD
  refine lv_aload hx hb dL_law_364 (lv_at hl 0 rfl) ?_
  refine lw_i (sw_runS (As := [.ref x4, .ref x2]) (rest := []) Cx hP hD hS ms_L_alike ml_L_203 (c_L_alike l G ca Z x4 x2 (10 + 2 * ns1 + 2 * k1) g4 g2 H.size (fun j hj => (hg4 j hj).trans (hg2 j hj).symm) (by omega)) [55, 53] rfl rfl rfl rfl ⟨(Nat.le_of_ble_eq_true rfl), (Nat.le_of_ble_eq_true rfl)⟩ hl.1 rfl rfl (Nat.le_of_ble_eq_true rfl) dL_law_366 ⟨by show cells1 + 2 + 0 ≤ 600086; omega, by show slots1 + 200 + 0 ≤ 7301442; omega⟩) hP hD hS hA [55, 53] [0, 0, 0, 0, 0, 0, 0, 0, 0, 0, 0, 0, 0, 0, 0, 0, 0, 0, 0, 0, 0, 0, 0, 0, 0, 0, 0, 0, 0, 0, 0, 0, 0, 0, 0, 0, 0, 0, 0, 0, 0, 0, 0, 0, 0, 0, 0, 0, 0, 0, 0, 0, 0, 2, 0, 1] rfl (fun _ => rfl) rfl (by decide +kernel) (fun r _ H locs hw hP hD hS => ?_)
  subst hw
  have hP : va_P G vwCl (OW ca Z q a P3 Bf3 Dr Sn hs t3 S6 sc rd sr sh ac3 pe ++ [(x1, .inl (ca 0, (10 + 2 * ns + 2 * kk), .inl g1)), (x2, .inl (ca 0, (10 + 2 * ns1 + 2 * k1), .inl g2)), (x3, .inl (ca 0, (10 + 2 * ns + 2 * kk), .inl g3)), (x4, .inl (ca 0, (10 + 2 * ns1 + 2 * k1), .inl g4))]) H := hP
  have hD : va_D (lwA s) (OW ca Z q a P3 Bf3 Dr Sn hs t3 S6 sc rd sr sh ac3 pe ++ [(x1, .inl (ca 0, (10 + 2 * ns + 2 * kk), .inl g1)), (x2, .inl (ca 0, (10 + 2 * ns1 + 2 * k1), .inl g2)), (x3, .inl (ca 0, (10 + 2 * ns + 2 * kk), .inl g3)), (x4, .inl (ca 0, (10 + 2 * ns1 + 2 * k1), .inl g4))]) := hD
  refine lv_if_ne (tgt := 374) hx hb dL_law_369 (by decide) (fun _ => ?_) (fun z9 => absurd z9 nq1)
  have hP : va_P G vwCl (OW ca Z q a P3 Bf3 Dr Sn hs t3 S6 sc rd sr sh ac3 pe ++ [(x1, .inl (ca 0, (10 + 2 * ns + 2 * kk), .inl g1)), (x2, .inl (ca 0, (10 + 2 * ns1 + 2 * k1), .inl g2))]) H := hP.sub [0, 1, 2, 3, 4, 5, 6, 7, 8, 9, 10, 11, 12, 13, 14, 15, 16, 17, 18, 19, 20, 21, 22, 23, 24, 25, 26, 27, 28, 29, 30, 31, 32, 33, 34, 35, 36, 37, 38, 39, 40, 41, 42, 43, 44, 45, 46, 47, 48, 49, 50, 51, 52, 53] rfl
  have hD : va_D (lwA s) (OW ca Z q a P3 Bf3 Dr Sn hs t3 S6 sc rd sr sh ac3 pe ++ [(x1, .inl (ca 0, (10 + 2 * ns + 2 * kk), .inl g1)), (x2, .inl (ca 0, (10 + 2 * ns1 + 2 * k1), .inl g2))]) := hD.sub [0, 1, 2, 3, 4, 5, 6, 7, 8, 9, 10, 11, 12, 13, 14, 15, 16, 17, 18, 19, 20, 21, 22, 23, 24, 25, 26, 27, 28, 29, 30, 31, 32, 33, 34, 35, 36, 37, 38, 39, 40, 41, 42, 43, 44, 45, 46, 47, 48, 49, 50, 51, 52, 53] rfl rfl
  exact le_374 C hk (by omega) (by omega) hb1 hb2 hC7 h3001 hH3 (by omega) hv3 (by omega) (by omega) (fun z _ => absurd z (by omega)) hP hD hS hl KK
set_option maxHeartbeats 40000000 in
set_option maxRecDepth 100000 in
theorem le_312 (C : lc63 p l s m meth c G ca Z b L xs) (hk : k < 28) (hcc : cells1 ≤ cells + 2) (hss : slots1 ≤ slots + 200) (hb1 : cells + 5 ≤ 600086) (hb2 : slots + 500 ≤ 7301442) (hvv : v + 1000 < 2 ^ 31) (hWF : WF w ns R kk D) (h300 : 1 + sm R ns ≤ 300) (h3001 : 1 + sm R1 ns1 ≤ 300) {rec : Bool} (hA1 : ACX u w ns R kk D w1 ns1 R1 k1 D1 rec) (hst : rec = false → w1 = w ∧ ns1 = ns ∧ R1 = R ∧ k1 = kk ∧ D1 = D) (hc9 : c9 ≤ 8) (hC3 : CY w1 ns1 R1 k1 D1 P S) (hv1 : P.2.2.2.2.2.2 = nI v1) (hv1b : v1 ≤ v + 40) (hH1 : (rec = true → HI t (min (c9 + 1) 8) (PX w ns R kk D)) ∧ (rec = false → HI t c9 top)) (hg1 : ∀ j, j < (10 + 2 * ns + 2 * kk) → g1 j = av w ns R kk D j) (hg2 : ∀ j, j < (10 + 2 * ns1 + 2 * k1) → g2 j = av w1 ns1 R1 k1 D1 j)
    (hP : va_P G vwCl (OW ca Z q a P Bf Dr Sn hs t S sc rd sr sh ac pe ++ [(x1, .inl (ca 0, (10 + 2 * ns + 2 * kk), .inl g1)), (x2, .inl (ca 0, (10 + 2 * ns1 + 2 * k1), .inl g2))]) H) (hD : va_D (lwA s) (OW ca Z q a P Bf Dr Sn hs t S sc rd sr sh ac pe ++ [(x1, .inl (ca 0, (10 + 2 * ns + 2 * kk), .inl g1)), (x2, .inl (ca 0, (10 + 2 * ns1 + 2 * k1), .inl g2))])) (hS : va_S (lwA s) s.heap H locs) (hl : lv_has ls 12 [(11, .ref x2), (10, .int (nI c9)), (9, .ref x1), (8, .int u), (7, .int (nI k)), (0, .ref b), (1, .ref q)]) (KK : kk63 p l e s m below meth c G ca Z b q a k cells slots v Q Dr Sn hs sc rd sr sh pe) : W p l e room_1 s m #[.ref b] below meth c H locs cells1 slots1 Q (F0 m 312 ls []) := by
  obtain ⟨Cx, hXs, hbl, hL⟩ := id C
  obtain ⟨⟨hx, hb, hml, hown, htU⟩, hK, hX, hY, hA⟩ := id Cx
  have hM12 := hC3.1.2.1
  have hM30 := hC3.1.2.2.2.1
  refine lv_aload_n hx hb dL_law_312 rfl (lv_at hl 6 rfl) ?_
  cases rec with
  | false =>
    obtain ⟨rfl, rfl, rfl, rfl, rfl⟩ := hst rfl
    have hH1 : HI t c9 top := hH1.2 rfl
    refine lw_i (sw_runV (As := []) (rest := []) Cx hP hD hS mv_X10_undoCount ml_L_193 (c_X10_undoCount l G ca Z q (a 12) (.ref (a 0)) (.ref (a 3)) (.ref (a 6)) (.ref (a 9)) (.int (bI hs)) (.ref (a 38)) (.ref (a 41)) (.ref (a 43)) (.ref (a 44)) (.ref (a 48)) (.ref (a 50)) (.int pe) (.ref (a 13)) H.size t (nI (c9)) (G_undoCount hH1)) 7 rfl rfl rfl [0, 13] rfl rfl rfl rfl ⟨(Nat.le_of_ble_eq_true rfl), (Nat.le_of_ble_eq_true rfl)⟩ hl.1 rfl rfl (Nat.le_of_ble_eq_true rfl) dL_law_313 ⟨by show cells1 + 0 + 0 ≤ 600086; omega, by show slots1 + 0 + 0 ≤ 7301442; omega⟩) hP hD hS hA [0, 13] [1, 0, 0, 0, 0, 0, 0, 0, 0, 0, 0, 0, 0, 2, 0, 0, 0, 0, 0, 0, 0, 0, 0, 0, 0, 0, 0, 0, 0, 0, 0, 0, 0, 0, 0, 0, 0, 0, 0, 0, 0, 0, 0, 0, 0, 0, 0, 0, 0, 0, 0, 0, 0, 0] rfl (fun _ => rfl) rfl (by decide +kernel) (fun r _ H locs hw hP hD hS => ?_)
    subst hw
    have hP : va_P G vwCl (OW ca Z q a P Bf Dr Sn hs t S sc rd sr sh ac pe ++ [(x1, .inl (ca 0, (10 + 2 * ns1 + 2 * k1), .inl g1)), (x2, .inl (ca 0, (10 + 2 * ns1 + 2 * k1), .inl g2))]) H := hP
    have hD : va_D (lwA s) (OW ca Z q a P Bf Dr Sn hs t S sc rd sr sh ac pe ++ [(x1, .inl (ca 0, (10 + 2 * ns1 + 2 * k1), .inl g1)), (x2, .inl (ca 0, (10 + 2 * ns1 + 2 * k1), .inl g2))]) := hD
    refine lv_iload hx hb dL_law_316 (lv_at hl 1 rfl) ?_
    refine lv_iconst (v := 1) hx hb dL_law_318 (by decide) ?_
    refine sj_iadd (v := nI (c9 + 1)) hx hb dL_law_319 (nI_1 c9) ?_
    refine lv_icmp_ne (tgt := 374) hx hb dL_law_320 (by decide) (fun _ => ?_) (fun z9 => absurd ((nI_eq (by omega) (by omega)).mp z9) (by omega))
    exact le_374 C hk (by omega) (by omega) hb1 hb2 hC3 h3001 hH1 hc9 hv1 (by omega) (by omega) (fun _ _ => ⟨rfl, fun j hj => (hg1 j hj).trans (hg2 j hj).symm⟩) hP hD hS hl KK
  | true =>
    have hH1 : HI t (min (c9 + 1) 8) (PX w ns R kk D) := hH1.1 rfl
    by_cases c8 : c9 < 8
    · rw [show min (c9 + 1) 8 = c9 + 1 by omega] at hH1
      refine lw_i (sw_runV (As := []) (rest := []) Cx hP hD hS mv_X10_undoCount ml_L_193 (c_X10_undoCount l G ca Z q (a 12) (.ref (a 0)) (.ref (a 3)) (.ref (a 6)) (.ref (a 9)) (.int (bI hs)) (.ref (a 38)) (.ref (a 41)) (.ref (a 43)) (.ref (a 44)) (.ref (a 48)) (.ref (a 50)) (.int pe) (.ref (a 13)) H.size t (nI (c9 + 1)) (G_undoCount hH1)) 7 rfl rfl rfl [0, 13] rfl rfl rfl rfl ⟨(Nat.le_of_ble_eq_true rfl), (Nat.le_of_ble_eq_true rfl)⟩ hl.1 rfl rfl (Nat.le_of_ble_eq_true rfl) dL_law_313 ⟨by show cells1 + 0 + 0 ≤ 600086; omega, by show slots1 + 0 + 0 ≤ 7301442; omega⟩) hP hD hS hA [0, 13] [1, 0, 0, 0, 0, 0, 0, 0, 0, 0, 0, 0, 0, 2, 0, 0, 0, 0, 0, 0, 0, 0, 0, 0, 0, 0, 0, 0, 0, 0, 0, 0, 0, 0, 0, 0, 0, 0, 0, 0, 0, 0, 0, 0, 0, 0, 0, 0, 0, 0, 0, 0, 0, 0] rfl (fun _ => rfl) rfl (by decide +kernel) (fun r _ H locs hw hP hD hS => ?_)
      subst hw
      have hP : va_P G vwCl (OW ca Z q a P Bf Dr Sn hs t S sc rd sr sh ac pe ++ [(x1, .inl (ca 0, (10 + 2 * ns + 2 * kk), .inl g1)), (x2, .inl (ca 0, (10 + 2 * ns1 + 2 * k1), .inl g2))]) H := hP
      have hD : va_D (lwA s) (OW ca Z q a P Bf Dr Sn hs t S sc rd sr sh ac pe ++ [(x1, .inl (ca 0, (10 + 2 * ns + 2 * kk), .inl g1)), (x2, .inl (ca 0, (10 + 2 * ns1 + 2 * k1), .inl g2))]) := hD
      refine lv_iload hx hb dL_law_316 (lv_at hl 1 rfl) ?_
      refine lv_iconst (v := 1) hx hb dL_law_318 (by decide) ?_
      refine sj_iadd (v := nI (c9 + 1)) hx hb dL_law_319 (nI_1 c9) ?_
      refine lv_icmp_ne (tgt := 374) hx hb dL_law_320 (by decide) (fun z9 => absurd rfl z9) (fun _ => ?_)
      refine lv_iload hx hb dL_law_323 (lv_at hl 4 rfl) ?_
      refine lv_iconst (v := 3) hx hb dL_law_325 (by decide) ?_
      refine sj_iremN (v := nI (k % 3)) hx hb dL_law_326 (by decide) (pk_rem (d := 3) (by omega) (by decide) (by decide)) ?_
      refine lv_if_ne (tgt := 374) hx hb dL_law_327 (by decide) (fun _ => ?_) (fun _ => ?_)
      · exact le_374 C hk (by omega) (by omega) hb1 hb2 hC3 h3001 hH1 hc9 hv1 (by omega) (by omega) (fun z _ => absurd z (by omega)) hP hD hS hl KK
      exact le_330 C hk hcc hss hb1 hb2 hvv hWF h300 h3001 hA1 c8 hC3 hv1 hv1b hH1 hg1 hg2 hP hD hS hl KK
    · rw [show min (c9 + 1) 8 = c9 by omega] at hH1
      refine lw_i (sw_runV (As := []) (rest := []) Cx hP hD hS mv_X10_undoCount ml_L_193 (c_X10_undoCount l G ca Z q (a 12) (.ref (a 0)) (.ref (a 3)) (.ref (a 6)) (.ref (a 9)) (.int (bI hs)) (.ref (a 38)) (.ref (a 41)) (.ref (a 43)) (.ref (a 44)) (.ref (a 48)) (.ref (a 50)) (.int pe) (.ref (a 13)) H.size t (nI (c9)) (G_undoCount hH1)) 7 rfl rfl rfl [0, 13] rfl rfl rfl rfl ⟨(Nat.le_of_ble_eq_true rfl), (Nat.le_of_ble_eq_true rfl)⟩ hl.1 rfl rfl (Nat.le_of_ble_eq_true rfl) dL_law_313 ⟨by show cells1 + 0 + 0 ≤ 600086; omega, by show slots1 + 0 + 0 ≤ 7301442; omega⟩) hP hD hS hA [0, 13] [1, 0, 0, 0, 0, 0, 0, 0, 0, 0, 0, 0, 0, 2, 0, 0, 0, 0, 0, 0, 0, 0, 0, 0, 0, 0, 0, 0, 0, 0, 0, 0, 0, 0, 0, 0, 0, 0, 0, 0, 0, 0, 0, 0, 0, 0, 0, 0, 0, 0, 0, 0, 0, 0] rfl (fun _ => rfl) rfl (by decide +kernel) (fun r _ H locs hw hP hD hS => ?_)
      subst hw
      have hP : va_P G vwCl (OW ca Z q a P Bf Dr Sn hs t S sc rd sr sh ac pe ++ [(x1, .inl (ca 0, (10 + 2 * ns + 2 * kk), .inl g1)), (x2, .inl (ca 0, (10 + 2 * ns1 + 2 * k1), .inl g2))]) H := hP
      have hD : va_D (lwA s) (OW ca Z q a P Bf Dr Sn hs t S sc rd sr sh ac pe ++ [(x1, .inl (ca 0, (10 + 2 * ns + 2 * kk), .inl g1)), (x2, .inl (ca 0, (10 + 2 * ns1 + 2 * k1), .inl g2))]) := hD
      refine lv_iload hx hb dL_law_316 (lv_at hl 1 rfl) ?_
      refine lv_iconst (v := 1) hx hb dL_law_318 (by decide) ?_
      refine sj_iadd (v := nI (c9 + 1)) hx hb dL_law_319 (nI_1 c9) ?_
      refine lv_icmp_ne (tgt := 374) hx hb dL_law_320 (by decide) (fun _ => ?_) (fun z9 => absurd ((nI_eq (by omega) (by omega)).mp z9) (by omega))
      exact le_374 C hk (by omega) (by omega) hb1 hb2 hC3 h3001 hH1 hc9 hv1 (by omega) (by omega) (fun _ z => absurd z c8) hP hD hS hl KK
set_option maxHeartbeats 40000000 in
set_option maxRecDepth 100000 in
theorem le_261 (C : lc63 p l s m meth c G ca Z b L xs) (hk : k < 28) (hb1 : cells + 5 ≤ 600086) (hb2 : slots + 500 ≤ 7301442) (hvv : v + 1000 < 2 ^ 31) (hC : CY w ns R kk D P S) (h300 : 1 + sm R ns ≤ 300) (hH : HI t c9 top) (hv : P.2.2.2.2.2.2 = nI v)
    (hP : va_P G vwCl (OW ca Z q a P Bf Dr Sn hs t S sc rd sr sh ac pe) H) (hD : va_D (lwA s) (OW ca Z q a P Bf Dr Sn hs t S sc rd sr sh ac pe)) (hS : va_S (lwA s) s.heap H locs) (hl : lv_has ls 12 [(7, .int (nI k)), (0, .ref b), (1, .ref q)]) (KK : kk63 p l e s m below meth c G ca Z b q a k cells slots v Q Dr Sn hs sc rd sr sh pe) : W p l e room_1 s m #[.ref b] below meth c H locs cells slots Q (F0 m 261 ls []) := by
  obtain ⟨Cx, hXs, hbl, hL⟩ := id C
  obtain ⟨⟨hx, hb, hml, hown, htU⟩, hK, hX, hY, hA⟩ := id Cx
  have hc9 : c9 ≤ 8 := hH.choose_spec.2.1
  have hN12 := hC.1.2.1
  have hN30 := hC.1.2.2.2.1
  refine lv_aload_n hx hb dL_law_261 rfl (lv_at hl 1 rfl) ?_
  refine lv_bipush (v := 12) hx hb dL_law_262 (by decide) ?_
  refine lv_iload hx hb dL_law_264 (lv_at hl 0 rfl) ?_
  refine lv_bipush (v := 24) hx hb dL_law_266 (by decide) ?_
  refine sj_iremN (v := nI (k % 24)) hx hb dL_law_268 (by decide) (pk_rem (d := 24) (by omega) (by decide) (by decide)) ?_
  refine sj_iadd (v := nI (12 + k % 24)) hx hb dL_law_269 (e_add 12 _) ?_
  refine sw_ci (sx_runS (X := sx_X b L xs) (As := [.ref b, .int (nI (12 + k % 24))]) (rest := []) Cx hP hD hS ms_L_cell ml_L_142 (c_L_cell l G ca Z b L (12 + k % 24) xs H.size (by omega) (by omega)) sx_bl (fun U hU hW => lx_kept hXs hbl hS hU hW) [] rfl rfl rfl rfl ⟨(Nat.le_of_ble_eq_true rfl), (Nat.le_of_ble_eq_true rfl)⟩ hl.1 rfl rfl (Nat.le_of_ble_eq_true rfl) dL_law_270 ⟨by show cells + 0 ≤ 600086; omega, by show slots + 0 ≤ 7301442; omega⟩) hP hD hS hA [] [0, 1, 2, 3, 4, 5, 6, 7, 8, 9, 10, 11, 12, 13, 14, 15, 16, 17, 18, 19, 20, 21, 22, 23, 24, 25, 26, 27, 28, 29, 30, 31, 32, 33, 34, 35, 36, 37, 38, 39, 40, 41, 42, 43, 44, 45, 46, 47, 48, 49, 50, 51] [0, 1, 2, 3, 4, 5, 6, 7, 8, 9, 10, 11, 12, 13, 14, 15, 16, 17, 18, 19, 20, 21, 22, 23, 24, 25, 26, 27, 28, 29, 30, 31, 32, 33, 34, 35, 36, 37, 38, 39, 40, 41, 42, 43, 44, 45, 46, 47, 48, 49, 50, 51] rfl rfl rfl (by decide) (fun _ => rfl) rfl (fun r _ H locs hw hP hD hS => ?_)
  subst hw
  have hP : va_P G vwCl (OW ca Z q a P Bf Dr Sn hs t S sc rd sr sh ac pe) H := hP
  have hD : va_D (lwA s) (OW ca Z q a P Bf Dr Sn hs t S sc rd sr sh ac pe) := hD
  refine lv_iload hx hb dL_law_273 (lv_at hl 0 rfl) ?_
  refine lv_bipush (v := 24) hx hb dL_law_275 (by decide) ?_
  refine lv_idiv hx hb dL_law_277 (by decide) ?_
  refine lv_iconst (v := 2) hx hb dL_law_278 (by decide) ?_
  refine lv_imul hx hb dL_law_279 ?_
  refine lv_ishr hx hb dL_law_280 ?_
  generalize cellv L xs (12 + k % 24) >>> ((nI k / 24 * 2) &&& 31) = u
  refine lv_istore (lv' := [(8, .int u), (7, .int (nI k)), (0, .ref b), (1, .ref q)]) hx hb dL_law_281 hl (by decide) rfl (fun ls hl => ?_)
  refine lv_aload_n hx hb dL_law_283 rfl (lv_at hl 3 rfl) ?_
  refine sj_cr (f0 := fun u : Nat × SieveT × (Nat → Int32) => u.1) (sw_runS (As := [.ref q]) (rest := []) Cx hP hD hS ms_L_all ml_L_189 (c_L_all l G ca Z q (a 0) (a 2) (a 1) (a 38) (a 39) (a 40) (.ref (a 3)) (.ref (a 6)) (.ref (a 9)) (.int (bI hs)) (.ref (a 12)) (.ref (a 41)) (.ref (a 43)) (.ref (a 44)) (.ref (a 48)) (.ref (a 50)) (.int pe) H.size w ns kk R D P S hC (10 + 2 * ns + 2 * kk) rfl) [0, 1, 3, 2, 39, 41, 40] rfl rfl rfl rfl ⟨(Nat.le_of_ble_eq_true rfl), (Nat.le_of_ble_eq_true rfl)⟩ hl.1 rfl rfl (Nat.le_of_ble_eq_true rfl) dL_law_284 ⟨by show cells + 1 ≤ 600086; omega, by show slots + 100 ≤ 7301442; omega⟩) hP hD hS hA [0, 1, 3, 2, 39, 41, 40] [4, 5, 6, 7, 8, 9, 10, 11, 12, 13, 14, 15, 16, 17, 18, 19, 20, 21, 22, 23, 24, 25, 26, 27, 28, 29, 30, 31, 32, 33, 34, 35, 36, 37, 38, 42, 43, 44, 45, 46, 47, 48, 49, 50, 51] [45, 46, 48, 47, 0, 1, 2, 3, 4, 5, 6, 7, 8, 9, 10, 11, 12, 13, 14, 15, 16, 17, 18, 19, 20, 21, 22, 23, 24, 25, 26, 27, 28, 29, 30, 31, 32, 33, 34, 49, 51, 50, 35, 36, 37, 38, 39, 40, 41, 42, 43, 44, 52] rfl rfl rfl (by decide) (fun _ => rfl) rfl (fun u9 H locs hw hP hD hS => ?_)
  obtain ⟨x1, S1, g1⟩ := u9
  obtain ⟨hC1, hg1⟩ := hw
  have hP : va_P G vwCl (OW ca Z q a P Bf Dr Sn hs t S1 sc rd sr sh ac pe ++ [(x1, .inl (ca 0, (10 + 2 * ns + 2 * kk), .inl g1))]) H := hP
  have hD : va_D (lwA s) (OW ca Z q a P Bf Dr Sn hs t S1 sc rd sr sh ac pe ++ [(x1, .inl (ca 0, (10 + 2 * ns + 2 * kk), .inl g1))]) := hD
  refine lv_astore (lv' := [(9, .ref x1), (8, .int u), (7, .int (nI k)), (0, .ref b), (1, .ref q)]) hx hb dL_law_287 hl (by decide) rfl (fun ls hl => ?_)
  refine lv_aload_n hx hb dL_law_289 rfl (lv_at hl 4 rfl) ?_
  refine lw_i (sw_runV (As := []) (rest := []) Cx hP hD hS mv_X10_undoCount ml_L_193 (c_X10_undoCount l G ca Z q (a 12) (.ref (a 0)) (.ref (a 3)) (.ref (a 6)) (.ref (a 9)) (.int (bI hs)) (.ref (a 38)) (.ref (a 41)) (.ref (a 43)) (.ref (a 44)) (.ref (a 48)) (.ref (a 50)) (.int pe) (.ref (a 13)) H.size t (nI c9) (G_undoCount hH)) 7 rfl rfl rfl [0, 13] rfl rfl rfl rfl ⟨(Nat.le_of_ble_eq_true rfl), (Nat.le_of_ble_eq_true rfl)⟩ hl.1 rfl rfl (Nat.le_of_ble_eq_true rfl) dL_law_290 ⟨by show cells + 1 + 0 ≤ 600086; omega, by show slots + 100 + 0 ≤ 7301442; omega⟩) hP hD hS hA [0, 13] [1, 0, 0, 0, 0, 0, 0, 0, 0, 0, 0, 0, 0, 2, 0, 0, 0, 0, 0, 0, 0, 0, 0, 0, 0, 0, 0, 0, 0, 0, 0, 0, 0, 0, 0, 0, 0, 0, 0, 0, 0, 0, 0, 0, 0, 0, 0, 0, 0, 0, 0, 0, 0] rfl (fun _ => rfl) rfl (by decide +kernel) (fun r _ H locs hw hP hD hS => ?_)
  subst hw
  have hP : va_P G vwCl (OW ca Z q a P Bf Dr Sn hs t S1 sc rd sr sh ac pe ++ [(x1, .inl (ca 0, (10 + 2 * ns + 2 * kk), .inl g1))]) H := hP
  have hD : va_D (lwA s) (OW ca Z q a P Bf Dr Sn hs t S1 sc rd sr sh ac pe ++ [(x1, .inl (ca 0, (10 + 2 * ns + 2 * kk), .inl g1))]) := hD
  refine lv_istore (lv' := [(10, .int (nI c9)), (9, .ref x1), (8, .int u), (7, .int (nI k)), (0, .ref b), (1, .ref q)]) hx hb dL_law_293 hl (by decide) rfl (fun ls hl => ?_)
  obtain ⟨w1, ns1, R1, k1, D1, rec, hA1, hw1, h3001, hst⟩ := ACT u hC.1 h300
  obtain ⟨⟨r1, ac1, Bf1, t1, P1, S2⟩, hF1, hr1, hC2, ⟨v1, hv1, hv1a, hv1b⟩, hH1⟩ := hA1 P S1 ac Bf t c9 top v hC1 hv (by omega) hH
  have hr1 : r1 = true := hr1
  subst hr1
  have hC2 : CY w1 ns1 R1 k1 D1 P1 S2 := hC2
  have hv1 : P1.2.2.2.2.2.2 = nI v1 := hv1
  refine lv_aload_n hx hb dL_law_295 rfl (lv_at hl 5 rfl) ?_
  refine lv_iload hx hb dL_law_296 (lv_at hl 2 rfl) ?_
  refine lw_i (sw_runS (As := [.ref q, .int u]) (rest := []) Cx hP hD hS ms_L_act ml_L_196 (c_L_act l G ca Z q (a 50) (a 3) (a 5) (a 4) (a 12) (a 13) (fun j => a (14 + 3 * j)) (fun j => a (16 + 3 * j)) (fun j => a (15 + 3 * j)) (a 0) (a 2) (a 1) (a 38) (a 40) (a 39) (.ref (a 6)) (.ref (a 9)) (.int (bI hs)) (.ref (a 41)) (.ref (a 43)) (.ref (a 44)) (.ref (a 48)) (.int pe) H.size u ac Bf t P S1 (true, (ac1, Bf1, t1, P1, S2)) hF1) [0, 51, 4, 6, 5, 13, 14, 15, 17, 16, 18, 20, 19, 21, 23, 22, 24, 26, 25, 27, 29, 28, 30, 32, 31, 33, 35, 34, 36, 38, 37, 1, 3, 2, 39, 41, 40] rfl rfl rfl rfl ⟨(Nat.le_of_ble_eq_true rfl), (Nat.le_of_ble_eq_true rfl)⟩ hl.1 rfl rfl (Nat.le_of_ble_eq_true rfl) dL_law_298 ⟨by show cells + 1 + 0 ≤ 600086; omega, by show slots + 100 + 0 ≤ 7301442; omega⟩) hP hD hS hA [0, 51, 4, 6, 5, 13, 14, 15, 17, 16, 18, 20, 19, 21, 23, 22, 24, 26, 25, 27, 29, 28, 30, 32, 31, 33, 35, 34, 36, 38, 37, 1, 3, 2, 39, 41, 40] [1, 32, 34, 33, 3, 5, 4, 0, 0, 0, 0, 0, 0, 6, 7, 8, 10, 9, 11, 13, 12, 14, 16, 15, 17, 19, 18, 20, 22, 21, 23, 25, 24, 26, 28, 27, 29, 31, 30, 35, 37, 36, 0, 0, 0, 0, 0, 0, 0, 0, 0, 2, 0] rfl (fun _ => rfl) rfl (by decide +kernel) (fun r u9 H locs hw hP hD hS => ?_)
  obtain ⟨rfl, rfl⟩ := hw
  have hP : va_P G vwCl (OW ca Z q a P1 Bf1 Dr Sn hs t1 S2 sc rd sr sh ac1 pe ++ [(x1, .inl (ca 0, (10 + 2 * ns + 2 * kk), .inl g1))]) H := hP
  have hD : va_D (lwA s) (OW ca Z q a P1 Bf1 Dr Sn hs t1 S2 sc rd sr sh ac1 pe ++ [(x1, .inl (ca 0, (10 + 2 * ns + 2 * kk), .inl g1))]) := hD
  refine lv_if_ne (tgt := 306) hx hb dL_law_301 (by decide) (fun _ => ?_) (fun z9 => absurd z9 nq1)
  have hM12 := hC2.1.2.1
  have hM30 := hC2.1.2.2.2.1
  refine lv_aload_n hx hb dL_law_306 rfl (lv_at hl 5 rfl) ?_
  refine sj_cr (f0 := fun u : Nat × SieveT × (Nat → Int32) => u.1) (sw_runS (As := [.ref q]) (rest := []) Cx hP hD hS ms_L_all ml_L_189 (c_L_all l G ca Z q (a 0) (a 2) (a 1) (a 38) (a 39) (a 40) (.ref (a 3)) (.ref (a 6)) (.ref (a 9)) (.int (bI hs)) (.ref (a 12)) (.ref (a 41)) (.ref (a 43)) (.ref (a 44)) (.ref (a 48)) (.ref (a 50)) (.int pe) H.size w1 ns1 k1 R1 D1 P1 S2 hC2 (10 + 2 * ns1 + 2 * k1) rfl) [0, 1, 3, 2, 39, 41, 40] rfl rfl rfl rfl ⟨(Nat.le_of_ble_eq_true rfl), (Nat.le_of_ble_eq_true rfl)⟩ hl.1 rfl rfl (Nat.le_of_ble_eq_true rfl) dL_law_307 ⟨by show cells + 1 + 1 ≤ 600086; omega, by show slots + 100 + 100 ≤ 7301442; omega⟩) hP hD hS hA [0, 1, 3, 2, 39, 41, 40] [4, 5, 6, 7, 8, 9, 10, 11, 12, 13, 14, 15, 16, 17, 18, 19, 20, 21, 22, 23, 24, 25, 26, 27, 28, 29, 30, 31, 32, 33, 34, 35, 36, 37, 38, 42, 43, 44, 45, 46, 47, 48, 49, 50, 51, 52] [46, 47, 49, 48, 0, 1, 2, 3, 4, 5, 6, 7, 8, 9, 10, 11, 12, 13, 14, 15, 16, 17, 18, 19, 20, 21, 22, 23, 24, 25, 26, 27, 28, 29, 30, 31, 32, 33, 34, 50, 52, 51, 35, 36, 37, 38, 39, 40, 41, 42, 43, 44, 45, 53] rfl rfl rfl (by decide) (fun _ => rfl) rfl (fun u9 H locs hw hP hD hS => ?_)
  obtain ⟨x2, S3, g2⟩ := u9
  obtain ⟨hC3, hg2⟩ := hw
  have hP : va_P G vwCl (OW ca Z q a P1 Bf1 Dr Sn hs t1 S3 sc rd sr sh ac1 pe ++ [(x1, .inl (ca 0, (10 + 2 * ns + 2 * kk), .inl g1)), (x2, .inl (ca 0, (10 + 2 * ns1 + 2 * k1), .inl g2))]) H := hP
  have hD : va_D (lwA s) (OW ca Z q a P1 Bf1 Dr Sn hs t1 S3 sc rd sr sh ac1 pe ++ [(x1, .inl (ca 0, (10 + 2 * ns + 2 * kk), .inl g1)), (x2, .inl (ca 0, (10 + 2 * ns1 + 2 * k1), .inl g2))]) := hD
  refine lv_astore (lv' := [(11, .ref x2), (10, .int (nI c9)), (9, .ref x1), (8, .int u), (7, .int (nI k)), (0, .ref b), (1, .ref q)]) hx hb dL_law_310 hl (by decide) rfl (fun ls hl => ?_)
  exact le_312 C hk (by omega) (by omega) hb1 hb2 hvv hC.1 h300 h3001 hA1 hst hc9 hC3 hv1 (by omega) ⟨fun z => by subst z; exact hH1, fun z => by subst z; exact hH1⟩ hg1 hg2 hP hD hS hl KK
set_option maxHeartbeats 40000000 in
set_option maxRecDepth 100000 in
theorem le_223 (C : lc63 p l s m meth c G ca Z b L xs) (hk : k < 28) (hb1 : cells + 5 ≤ 600086) (hb2 : slots + 500 ≤ 7301442) (hvv : v + 1000 < 2 ^ 31) (hC : CY w ns R kk D P S) (h300 : 1 + sm R ns ≤ 300) (hH : HI t c9 top) (hv : P.2.2.2.2.2.2 = nI v)
    (hP : va_P G vwCl (OW ca Z q a P Bf Dr Sn hs t S sc rd sr sh ac pe) H) (hD : va_D (lwA s) (OW ca Z q a P Bf Dr Sn hs t S sc rd sr sh ac pe)) (hS : va_S (lwA s) s.heap H locs) (hl : lv_has ls 12 [(7, .int (nI k)), (0, .ref b), (1, .ref q)]) (KK : kk63 p l e s m below meth c G ca Z b q a k cells slots v Q Dr Sn hs sc rd sr sh pe) : W p l e room_1 s m #[.ref b] below meth c H locs cells slots Q (F0 m 223 ls []) := by
  obtain ⟨Cx, hXs, hbl, hL⟩ := id C
  obtain ⟨⟨hx, hb, hml, hown, htU⟩, hK, hX, hY, hA⟩ := id Cx
  have r244 : ∀ (S : SieveT) (H : Heap) (locs : List Loc), CY w ns R kk D P S → va_P G vwCl (OW ca Z q a P Bf Dr Sn hs t S sc rd sr sh ac pe) H → va_D (lwA s) (OW ca Z q a P Bf Dr Sn hs t S sc rd sr sh ac pe) → va_S (lwA s) s.heap H locs → W p l e room_1 s m #[.ref b] below meth c H locs cells slots Q (F0 m 244 ls []) := by
    intro S H locs hC hP hD hS
    refine lv_iload hx hb dL_law_244 (lv_at hl 0 rfl) ?_
    refine lv_iconst (v := 2) hx hb dL_law_246 (by decide) ?_
    refine sj_iremN (v := nI (k % 2)) hx hb dL_law_247 (by decide) (pk_rem (d := 2) (by omega) (by decide) (by decide)) ?_
    refine lv_iconst (v := 1) hx hb dL_law_248 (by decide) ?_
    refine lv_icmp_ne (tgt := 261) hx hb dL_law_249 (by decide) (fun _ => ?_) (fun _ => ?_)
    · exact le_261 C hk hb1 hb2 hvv hC h300 hH hv hP hD hS hl KK
    obtain ⟨S1, hF1, hC1⟩ := W_areStretches hC (by omega)
    refine lv_aload_n hx hb dL_law_252 rfl (lv_at hl 2 rfl) ?_
    refine lw_i (sw_runS (As := [.ref q]) (rest := []) Cx hP hD hS ms_L_areStretches ml_L_186 (c_L_areStretches l G ca Z q (a 0) (a 2) (a 1) (a 38) (a 40) (a 39) (.ref (a 3)) (.ref (a 6)) (.ref (a 9)) (.int (bI hs)) (.ref (a 12)) (.ref (a 41)) (.ref (a 43)) (.ref (a 44)) (.ref (a 48)) (.ref (a 50)) (.int pe) H.size P S (true, S1) hF1) [0, 1, 3, 2, 39, 41, 40] rfl rfl rfl rfl ⟨(Nat.le_of_ble_eq_true rfl), (Nat.le_of_ble_eq_true rfl)⟩ hl.1 rfl rfl (Nat.le_of_ble_eq_true rfl) dL_law_253 ⟨by show cells + 0 ≤ 600086; omega, by show slots + 0 ≤ 7301442; omega⟩) hP hD hS hA [0, 1, 3, 2, 39, 41, 40] [1, 2, 4, 3, 0, 0, 0, 0, 0, 0, 0, 0, 0, 0, 0, 0, 0, 0, 0, 0, 0, 0, 0, 0, 0, 0, 0, 0, 0, 0, 0, 0, 0, 0, 0, 0, 0, 0, 0, 5, 7, 6, 0, 0, 0, 0, 0, 0, 0, 0, 0, 0] rfl (fun _ => rfl) rfl (by decide +kernel) (fun r u9 H locs hw hP hD hS => ?_)
    obtain ⟨rfl, rfl⟩ := hw
    have hP : va_P G vwCl (OW ca Z q a P Bf Dr Sn hs t S1 sc rd sr sh ac pe) H := hP
    have hD : va_D (lwA s) (OW ca Z q a P Bf Dr Sn hs t S1 sc rd sr sh ac pe) := hD
    refine lv_if_ne (tgt := 261) hx hb dL_law_256 (by decide) (fun _ => ?_) (fun z9 => absurd z9 nq1)
    exact le_261 C hk hb1 hb2 hvv hC1 h300 hH hv hP hD hS hl KK
  refine lv_iload hx hb dL_law_223 (lv_at hl 0 rfl) ?_
  refine lv_bipush (v := 28) hx hb dL_law_225 (by decide) ?_
  refine lv_icmp_ge (tgt := 408) hx hb dL_law_227 (by decide) (fun z9 => absurd z9 (nI_ge (b := 28) hk (by decide))) (fun _ => ?_)
  refine lv_iload hx hb dL_law_230 (lv_at hl 0 rfl) ?_
  refine lv_iconst (v := 5) hx hb dL_law_232 (by decide) ?_
  refine sj_iremN (v := nI (k % 5)) hx hb dL_law_233 (by decide) (pk_rem (d := 5) (by omega) (by decide) (by decide)) ?_
  refine lv_if_ne (tgt := 244) hx hb dL_law_234 (by decide) (fun _ => ?_) (fun _ => ?_)
  · exact r244 S H locs hC hP hD hS
  obtain ⟨S1, hF1, hC1⟩ := W_areNumbers hC
  refine lv_aload_n hx hb dL_law_237 rfl (lv_at hl 2 rfl) ?_
  refine lw_i (sw_runS (As := [.ref q]) (rest := []) Cx hP hD hS ms_L_areNumbers ml_L_182 (c_L_areNumbers l G ca Z q (a 0) (a 2) (a 38) (a 40) (a 39) (.ref (a 3)) (.ref (a 6)) (.ref (a 9)) (.int (bI hs)) (.ref (a 12)) (.ref (a 41)) (.ref (a 43)) (.ref (a 44)) (.ref (a 48)) (.ref (a 50)) (.int pe) (.ref (a 1)) H.size P S (true, S1) hF1) [0, 1, 3, 39, 41, 40] rfl rfl rfl rfl ⟨(Nat.le_of_ble_eq_true rfl), (Nat.le_of_ble_eq_true rfl)⟩ hl.1 rfl rfl (Nat.le_of_ble_eq_true rfl) dL_law_238 ⟨by show cells + 0 ≤ 600086; omega, by show slots + 0 ≤ 7301442; omega⟩) hP hD hS hA [0, 1, 3, 39, 41, 40] [1, 2, 0, 3, 0, 0, 0, 0, 0, 0, 0, 0, 0, 0, 0, 0, 0, 0, 0, 0, 0, 0, 0, 0, 0, 0, 0, 0, 0, 0, 0, 0, 0, 0, 0, 0, 0, 0, 0, 4, 6, 5, 0, 0, 0, 0, 0, 0, 0, 0, 0, 0] rfl (fun _ => rfl) rfl (by decide +kernel) (fun r u9 H locs hw hP hD hS => ?_)
  obtain ⟨rfl, rfl⟩ := hw
  have hP : va_P G vwCl (OW ca Z q a P Bf Dr Sn hs t S1 sc rd sr sh ac pe) H := hP
  have hD : va_D (lwA s) (OW ca Z q a P Bf Dr Sn hs t S1 sc rd sr sh ac pe) := hD
  refine lv_if_eq (tgt := 259) hx hb dL_law_241 (by decide) (fun z9 => absurd z9 nq1) (fun _ => ?_)
  exact r244 S1 H locs hC1 hP hD hS
end
