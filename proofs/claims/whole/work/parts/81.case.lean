/-! ===== the law: cases ===== -/
section
variable {p : Program} {l : Launch} {e : Env} {s : State} {m : MethodId} {below : List Frame} {meth : Method} {c : Code} {H : Heap} {cells slots : Nat} {Q : State → Prop} {G : va_G} {ca Z : Nat → Nat} {b L q1 q2 qo i v : Nat} {a d : Nat → Nat} {xs : Nat → Int32} {ls : Array Slot}
  {P : PlanT} {Bf : PlanT} {Dr : PlanT} {Sn : PlanT} {hs : Bool} {t : HistT} {S : SieveT} {sc : SrcT} {rd : ReadT} {sr : ScrT} {sh : SheetT} {ac : Nat → Int32} {pe : Int32} {now : Nat → Int32} {dr : Nat → Int32} {kp : Nat → Int32} {sn : Nat → Int32} {hi : Nat → Int32} {u : Int32} {th : Int32} {ow : Nat → Int32} {tm : Nat → Int32} {en : Int32} {od : Nat → Int32} {fm : Nat → Int32} {fl : Int32} {bf : Nat → Int32} {bl : Int32} {li : Int32} {nx : Int32} {be : Int32} {tk : Int32} {er : Int32} {ea : Int32} {ne : Int32} {ors : Nat → Int32} {oc : Int32} {o : Nat → Int64}
set_option maxHeartbeats 1000000 in
set_option maxRecDepth 100000 in
theorem lc_2 (C : lwC p l s m meth c G ca Z b L xs) (hcl : cells + 2 ≤ 601024) (hsl : slots + 12 ≤ 7293033) (hil : i + 6 ≤ L) (hvv : v + 5000 < 2 ^ 31) (hRL : RLX v P Sn hs t S sc sh now sn hi u fm fl bf bl) (hP : va_P G vwCl (LW ca Z q1 a q2 d qo P Bf Dr Sn hs t S sc rd sr sh ac pe now dr kp sn hi ac u th hs ow tm en od fm fl bf bl li nx be tk er ea pe ne ors oc o) H) (hD : va_D (lwA s) (LW ca Z q1 a q2 d qo P Bf Dr Sn hs t S sc rd sr sh ac pe now dr kp sn hi ac u th hs ow tm en od fm fl bf bl li nx be tk er ea pe ne ors oc o)) (hS : va_S (lwA s) s.heap H []) (hl : lv_has ls 9 [(0, .ref b), (1, .ref q1), (2, .ref q2), (3, .ref qo), (4, .int (nI i))]) (KK : lwKK p l e s m below meth c G ca Z b q1 a q2 d qo cells slots i v Q) :
    W p l e room_1 s m #[.ref b] below meth c H [] cells slots Q (F0 m 425 ls []) := by
  obtain ⟨⟨⟨hx, hb, hml, hown, htU⟩, hK, hX, hY, hA⟩, hXs, hbl, hL, hfl⟩ := id C
  have Cx := C.1
  have hc1 : ∀ j, j ≤ 2 → cells + j ≤ room_1.cells := fun j hj => by show _ ≤ 601024; omega
  have hs1 : ∀ j, j ≤ 12 → slots + j ≤ room_1.slots := fun j hj => by show _ ≤ 7293033; omega
  obtain ⟨⟨w, ns, R, k, D, hC⟩, hv, hH, hN, hB, hF⟩ := hRL
  refine lv_aload_n hx hb dL_law_425 rfl (lv_at hl 1 rfl) ?_
  refine lw_i (sw_runV (As := []) (rest := []) Cx hP hD hS mv_X10_errorPosition ml_L_109 (c_X10_errorPosition l G ca Z q1 (.ref (a 0)) (.ref (a 3)) (.ref (a 6)) (.ref (a 9)) (.int (bI hs)) (.ref (a 12)) (.ref (a 38)) (.ref (a 41)) (.ref (a 43)) (.ref (a 44)) (.ref (a 48)) (.ref (a 50)) H.size  pe pe rfl) 7 rfl rfl rfl [0] rfl rfl rfl rfl ⟨(Nat.le_of_ble_eq_true rfl), (Nat.le_of_ble_eq_true rfl)⟩ hl.1 rfl rfl (Nat.le_of_ble_eq_true rfl) dL_law_426 ⟨hc1 0 (by decide), hs1 0 (by decide)⟩) hP hD hS hA [0] rfl (fun _ => rfl) (fun r1 u9 H locs hw hP hD hS => ?_)
  have hw1 := hw
  have hP : va_P G vwCl (LW ca Z q1 a q2 d qo P Bf Dr Sn hs t S sc rd sr sh ac pe now dr kp sn hi ac u th hs ow tm en od fm fl bf bl li nx be tk er ea pe ne ors oc o) H := hP
  have hD : va_D (lwA s) (LW ca Z q1 a q2 d qo P Bf Dr Sn hs t S sc rd sr sh ac pe now dr kp sn hi ac u th hs ow tm en od fm fl bf bl li nx be tk er ea pe ne ors oc o) := hD
  refine lv_aload_n hx hb dL_law_429 rfl (lv_at hl 2 rfl) ?_
  refine lw_i (sw_runV (As := []) (rest := [.int r1]) Cx hP hD hS mv_X11_errorPosition ml_L_112 (c_X11_errorPosition l G ca Z q2 (.ref (d 0)) (.ref (d 1)) (.ref (d 2)) (.ref (d 3)) (.ref (d 4)) (.ref (d 5)) (.ref (d 6)) (.ref (d 0)) (.int u) (.int (bI hs)) (.ref (d 7)) (.ref (d 8)) (.int en) (.ref (d 9)) (.ref (d 10)) (.int fl) (.ref (d 11)) (.int bl) (.int li) (.int nx) (.int be) (.int tk) (.int er) (.int ea) (.int ne) (.ref (d 12)) (.ref (d 13)) (.int oc) H.size  pe th (pe, 0) rfl) 8 rfl rfl rfl [52] rfl rfl rfl rfl ⟨(Nat.le_of_ble_eq_true rfl), (Nat.le_of_ble_eq_true rfl)⟩ hl.1 rfl rfl (Nat.le_of_ble_eq_true rfl) dL_law_430 ⟨hc1 0 (by decide), hs1 0 (by decide)⟩) hP hD hS hA [52] rfl (fun _ => rfl) (fun r2 u9 H locs hw hP hD hS => ?_)
  obtain ⟨hw2, rfl⟩ := hw
  have hP : va_P G vwCl (LW ca Z q1 a q2 d qo P Bf Dr Sn hs t S sc rd sr sh ac pe now dr kp sn hi ac u 0 hs ow tm en od fm fl bf bl li nx be tk er ea pe ne ors oc o) H := hP
  have hD : va_D (lwA s) (LW ca Z q1 a q2 d qo P Bf Dr Sn hs t S sc rd sr sh ac pe now dr kp sn hi ac u 0 hs ow tm en od fm fl bf bl li nx be tk er ea pe ne ors oc o) := hD
  refine lv_icmp_eq (tgt := 2547) hx hb dL_law_433 (by decide) (fun _ => ?_) (fun c9 => absurd (hw1.symm.trans hw2) c9)
  refine va_forget hS.2.2 ?_
  refine W.widen (k := cells + 2) (n := slots + 12) (by omega) (by omega) ?_
  exact KK v P Bf Dr Sn hs t S sc rd sr sh ac pe now dr kp sn hi u 0 ow tm en od fm fl bf bl li nx be tk er ea ne ors oc o H ls (by omega) ⟨⟨w, ns, R, k, D, hC⟩, hv, hH, hN, hB, hF⟩ hP hD (va_forg hS) hl

set_option maxHeartbeats 1000000 in
set_option maxRecDepth 100000 in
theorem lc_3 (C : lwC p l s m meth c G ca Z b L xs) (hcl : cells + 2 ≤ 601024) (hsl : slots + 12 ≤ 7293033) (hil : i + 6 ≤ L) (hvv : v + 5000 < 2 ^ 31) (hRL : RLX v P Sn hs t S sc sh now sn hi u fm fl bf bl) (hP : va_P G vwCl (LW ca Z q1 a q2 d qo P Bf Dr Sn hs t S sc rd sr sh ac pe now dr kp sn hi ac u th hs ow tm en od fm fl bf bl li nx be tk er ea pe ne ors oc o) H) (hD : va_D (lwA s) (LW ca Z q1 a q2 d qo P Bf Dr Sn hs t S sc rd sr sh ac pe now dr kp sn hi ac u th hs ow tm en od fm fl bf bl li nx be tk er ea pe ne ors oc o)) (hS : va_S (lwA s) s.heap H []) (hl : lv_has ls 9 [(0, .ref b), (1, .ref q1), (2, .ref q2), (3, .ref qo), (4, .int (nI i))]) (KK : lwKK p l e s m below meth c G ca Z b q1 a q2 d qo cells slots i v Q) :
    W p l e room_1 s m #[.ref b] below meth c H [] cells slots Q (F0 m 438 ls []) := by
  obtain ⟨⟨⟨hx, hb, hml, hown, htU⟩, hK, hX, hY, hA⟩, hXs, hbl, hL, hfl⟩ := id C
  have Cx := C.1
  have hc1 : ∀ j, j ≤ 2 → cells + j ≤ room_1.cells := fun j hj => by show _ ≤ 601024; omega
  have hs1 : ∀ j, j ≤ 12 → slots + j ≤ room_1.slots := fun j hj => by show _ ≤ 7293033; omega
  obtain ⟨⟨w, ns, R, k, D, hC⟩, hv, hH, hN, hB, hF⟩ := hRL
  obtain ⟨r0, S1, b1, en1, ow1, th1, tm1, z1, z2, z3, z4⟩ := Q_size hC (xs (i + 1)) en ow tm th
  refine lv_aload_n hx hb dL_law_438 rfl (lv_at hl 1 rfl) ?_
  refine lw_arg C hS (lv_at hl 0 rfl) (lv_at hl 4 rfl) (k := 1) (by decide) hil dL_law_439 dL_law_440 dL_law_442 dL_law_443 dL_law_444 ?_
  refine lv_aload_n hx hb dL_law_445 rfl (lv_at hl 3 rfl) ?_
  refine lw_i (sw_runH (As := [.ref q1, .int (xs (i + 1)), .ref qo]) (rest := []) Cx hP hD hS mh_L_size ml_L_113 (c_L_size l hfl G ca Z q1 (a 0) (a 2) (a 38) (a 40) (a 39) (.ref (a 3)) (.ref (a 6)) (.ref (a 9)) (.int (bI hs)) (.ref (a 12)) (.ref (a 41)) (.ref (a 43)) (.ref (a 44)) (.ref (a 48)) (.ref (a 50)) (.int pe) (.ref (a 1)) qo H.size (xs (i + 1)) P S o (r0, S1) z1 (agk z4)) [0, 1, 3, 39, 41, 40, 67] rfl rfl rfl rfl ⟨(Nat.le_of_ble_eq_true rfl), (Nat.le_of_ble_eq_true rfl)⟩ hl.1 rfl rfl (Nat.le_of_ble_eq_true rfl) dL_law_446 ⟨hc1 1 (by decide), hs1 6 (by decide)⟩) hP hD hS hA [0, 1, 3, 39, 41, 40, 67] rfl (fun _ => rfl) (fun r1 u9 H locs hw hP hD hS => ?_)
  obtain ⟨hw1, rfl⟩ := hw
  have hP : va_P G vwCl (LW ca Z q1 a q2 d qo P Bf Dr Sn hs t S1 sc rd sr sh ac pe now dr kp sn hi ac u th hs ow tm en od fm fl bf bl li nx be tk er ea pe ne ors oc (((wr1 r0 o).2))) H := hP
  have hD : va_D (lwA s) (LW ca Z q1 a q2 d qo P Bf Dr Sn hs t S1 sc rd sr sh ac pe now dr kp sn hi ac u th hs ow tm en od fm fl bf bl li nx be tk er ea pe ne ors oc (((wr1 r0 o).2))) := hD
  refine lv_istore (lv' := (5, .int r1) :: [(0, .ref b), (1, .ref q1), (2, .ref q2), (3, .ref qo), (4, .int (nI i))]) hx hb dL_law_449 hl (by decide) rfl (fun ls hl => ?_)
  refine lv_aload_n hx hb dL_law_451 rfl (lv_at hl 3 rfl) ?_
  refine lw_arg C hS (lv_at hl 1 rfl) (lv_at hl 5 rfl) (k := 1) (by decide) hil dL_law_452 dL_law_453 dL_law_455 dL_law_456 dL_law_457 ?_
  refine lw_i (sw_runV (As := [.int (xs (i + 1))]) (rest := []) Cx hP hD hS mv_X11_size ml_L_115 (c_X11_size l G ca Z q2 (d 7) (d 0) (d 8) (d 6) (.ref (d 0)) (.ref (d 1)) (.ref (d 2)) (.ref (d 3)) (.ref (d 4)) (.ref (d 5)) (.int u) (.int (bI hs)) (.ref (d 9)) (.ref (d 10)) (.int fl) (.ref (d 11)) (.int bl) (.int li) (.int nx) (.int be) (.int tk) (.int er) (.int ea) (.int pe) (.int ne) (.ref (d 12)) (.ref (d 13)) (.int oc) H.size (xs (i + 1)) en ow now th tm (b1, (en1, ow1, th1, tm1)) z3) 8 rfl rfl rfl [52, 60, 53, 61, 59] rfl rfl rfl rfl ⟨(Nat.le_of_ble_eq_true rfl), (Nat.le_of_ble_eq_true rfl)⟩ hl.1 rfl rfl (Nat.le_of_ble_eq_true rfl) dL_law_458 ⟨hc1 1 (by decide), hs1 6 (by decide)⟩) hP hD hS hA [52, 60, 53, 61, 59] rfl (fun _ => rfl) (fun r2 u9 H locs hw hP hD hS => ?_)
  obtain ⟨hw2, rfl⟩ := hw
  have hP : va_P G vwCl (LW ca Z q1 a q2 d qo P Bf Dr Sn hs t S1 sc rd sr sh ac pe now dr kp sn hi ac u th1 hs ow1 tm1 en1 od fm fl bf bl li nx be tk er ea pe ne ors oc (((wr1 r0 o).2))) H := hP
  have hD : va_D (lwA s) (LW ca Z q1 a q2 d qo P Bf Dr Sn hs t S1 sc rd sr sh ac pe now dr kp sn hi ac u th1 hs ow1 tm1 en1 od fm fl bf bl li nx be tk er ea pe ne ors oc (((wr1 r0 o).2))) := hD
  refine lv_istore (lv' := (6, .int r2) :: (5, .int r1) :: [(0, .ref b), (1, .ref q1), (2, .ref q2), (3, .ref qo), (4, .int (nI i))]) hx hb dL_law_461 hl (by decide) rfl (fun ls hl => ?_)
  refine lv_aload_n hx hb dL_law_463 rfl (lv_at hl 4 rfl) ?_
  refine lw_i (sw_runV (As := []) (rest := []) Cx hP hD hS mv_X11_thrown ml_L_105 (c_X11_thrown l G ca Z q2 (.ref (d 0)) (.ref (d 1)) (.ref (d 2)) (.ref (d 3)) (.ref (d 4)) (.ref (d 5)) (.ref (d 6)) (.ref (d 0)) (.int u) (.int (bI hs)) (.ref (d 7)) (.ref (d 8)) (.int en1) (.ref (d 9)) (.ref (d 10)) (.int fl) (.ref (d 11)) (.int bl) (.int li) (.int nx) (.int be) (.int tk) (.int er) (.int ea) (.int pe) (.int ne) (.ref (d 12)) (.ref (d 13)) (.int oc) H.size th1 th1 rfl) 8 rfl rfl rfl [52] rfl rfl rfl rfl ⟨(Nat.le_of_ble_eq_true rfl), (Nat.le_of_ble_eq_true rfl)⟩ hl.1 rfl rfl (Nat.le_of_ble_eq_true rfl) dL_law_464 ⟨hc1 1 (by decide), hs1 6 (by decide)⟩) hP hD hS hA [52] rfl (fun _ => rfl) (fun r3 u9 H locs hw hP hD hS => ?_)
  have hw3 : th1 = r3 := hw
  have hP : va_P G vwCl (LW ca Z q1 a q2 d qo P Bf Dr Sn hs t S1 sc rd sr sh ac pe now dr kp sn hi ac u th1 hs ow1 tm1 en1 od fm fl bf bl li nx be tk er ea pe ne ors oc (((wr1 r0 o).2))) H := hP
  have hD : va_D (lwA s) (LW ca Z q1 a q2 d qo P Bf Dr Sn hs t S1 sc rd sr sh ac pe now dr kp sn hi ac u th1 hs ow1 tm1 en1 od fm fl bf bl li nx be tk er ea pe ne ors oc (((wr1 r0 o).2))) := hD
  have hag := agw1 (o := o) z4
  refine lw_tail (q0 := 67) C hP rfl (lv_at hl 5 rfl) (lv_at hl 1 rfl) (lv_at hl 0 rfl) (hw1.symm.trans (hag.1.trans hw3)) (fun z9 => by rw [← hw2]; exact hag.2 (hw3.trans z9)) dL_law_467 dL_law_469 (by decide) dL_law_474 dL_law_476 (by decide) dL_law_479 dL_law_480 dL_law_481 dL_law_482 dL_law_484 dL_law_485 dL_law_486 (by decide) dL_law_491 (by decide) ?_
  refine va_forget hS.2.2 ?_
  refine W.widen (k := cells + 2) (n := slots + 12) (by omega) (by omega) ?_
  exact KK v P Bf Dr Sn hs t S1 sc rd sr sh ac pe now dr kp sn hi u th1 ow1 tm1 en1 od fm fl bf bl li nx be tk er ea ne ors oc ((wr1 r0 o).2) H ls (by omega) ⟨⟨w, ns, R, k, D, hC.1, hC.2.1, hC.2.2.1, z2⟩, hv, hH, hN, hB, hF⟩ hP hD (va_forg hS) (lv_sub hl [2, 3, 4, 5, 6] rfl)
end
