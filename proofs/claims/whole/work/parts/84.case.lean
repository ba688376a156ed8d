/-! ===== the law: cases 30 to 39 ===== -/
section
variable {p : Program} {l : Launch} {e : Env} {s : State} {m : MethodId} {below : List Frame} {meth : Method} {c : Code} {H : Heap} {cells slots : Nat} {Q : State → Prop} {G : va_G} {ca Z : Nat → Nat} {b L q1 q2 qo i v : Nat} {a d : Nat → Nat} {xs : Nat → Int32} {ls : Array Slot}
  {P : PlanT} {Bf : PlanT} {Dr : PlanT} {Sn : PlanT} {hs : Bool} {t : HistT} {S : SieveT} {sc : SrcT} {rd : ReadT} {sr : ScrT} {sh : SheetT} {ac : Nat → Int32} {pe : Int32} {now : Nat → Int32} {dr : Nat → Int32} {kp : Nat → Int32} {sn : Nat → Int32} {hi : Nat → Int32} {u : Int32} {th : Int32} {ow : Nat → Int32} {tm : Nat → Int32} {en : Int32} {od : Nat → Int32} {fm : Nat → Int32} {fl : Int32} {bf : Nat → Int32} {bl : Int32} {li : Int32} {nx : Int32} {be : Int32} {tk : Int32} {er : Int32} {ea : Int32} {ne : Int32} {ors : Nat → Int32} {oc : Int32} {o : Nat → Int64}
set_option maxHeartbeats 1000000 in
set_option maxRecDepth 100000 in
theorem lc_30 (C : lwC p l s m meth c G ca Z b L xs) (hcl : cells + 2 ≤ 601024) (hsl : slots + 12 ≤ 7293033) (hil : i + 6 ≤ L) (hvv : v + 5000 < 2 ^ 31) (hRL : RLX v P Sn hs t S sc sh now sn hi u fm fl bf bl) (hP : va_P G vwCl (LW ca Z q1 a q2 d qo P Bf Dr Sn hs t S sc rd sr sh ac pe now dr kp sn hi ac u th hs ow tm en od fm fl bf bl li nx be tk er ea pe ne ors oc o) H) (hD : va_D (lwA s) (LW ca Z q1 a q2 d qo P Bf Dr Sn hs t S sc rd sr sh ac pe now dr kp sn hi ac u th hs ow tm en od fm fl bf bl li nx be tk er ea pe ne ors oc o)) (hS : va_S (lwA s) s.heap H []) (hl : lv_has ls 9 [(0, .ref b), (1, .ref q1), (2, .ref q2), (3, .ref qo), (4, .int (nI i))]) (KK : lwKK p l e s m below meth c G ca Z b q1 a q2 d qo cells slots i v Q) :
    W p l e room_1 s m #[.ref b] below meth c H [] cells slots Q (F0 m 1475 ls []) := by
  obtain ⟨⟨⟨hx, hb, hml, hown, htU⟩, hK, hX, hY, hA⟩, hXs, hbl, hL, hfl⟩ := id C
  have Cx := C.1
  have hcR : ∀ j, j ≤ 2 → cells + j ≤ room_1.cells := fun j hj => by show _ ≤ 601024; omega
  have hsR : ∀ j, j ≤ 12 → slots + j ≤ room_1.slots := fun j hj => by show _ ≤ 7293033; omega
  obtain ⟨⟨w, ns, R, k, D, hC⟩, hv, hH, hN, hB, hF⟩ := hRL
  obtain ⟨r0, S1, b1, en1, ow1, th1, tm1, z1, z2, z3, z4⟩ := Q_thickest hC (xs (i + 1)) en ow tm th
  refine lv_aload_n hx hb dL_law_1475 rfl (lv_at hl 1 rfl) ?_
  refine lw_arg C hS (lv_at hl 0 rfl) (lv_at hl 4 rfl) (k := 1) (by decide) hil dL_law_1476 dL_law_1477 dL_law_1479 dL_law_1480 dL_law_1481 ?_
  refine lv_aload_n hx hb dL_law_1482 rfl (lv_at hl 3 rfl) ?_
  refine lw_i (sw_runH (As := [.ref q1, .int (xs (i + 1)), .ref qo]) (rest := []) Cx hP hD hS mh_L_thickest ml_L_213 (c_L_thickest l hfl G ca Z q1 (a 0) (a 2) (a 38) (a 40) (a 39) (.ref (a 3)) (.ref (a 6)) (.ref (a 9)) (.int (bI hs)) (.ref (a 12)) (.ref (a 41)) (.ref (a 43)) (.ref (a 44)) (.ref (a 48)) (.ref (a 50)) (.int pe) (.ref (a 1)) qo H.size (xs (i + 1)) P S o (r0, S1) z1 (agk z4)) [0, 1, 3, 39, 41, 40, 67] rfl rfl rfl rfl ⟨(Nat.le_of_ble_eq_true rfl), (Nat.le_of_ble_eq_true rfl)⟩ hl.1 rfl rfl (Nat.le_of_ble_eq_true rfl) dL_law_1483 ⟨hcR 1 (by decide), hsR 6 (by decide)⟩) hP hD hS hA [0, 1, 3, 39, 41, 40, 67] [1, 2, 0, 3, 0, 0, 0, 0, 0, 0, 0, 0, 0, 0, 0, 0, 0, 0, 0, 0, 0, 0, 0, 0, 0, 0, 0, 0, 0, 0, 0, 0, 0, 0, 0, 0, 0, 0, 0, 4, 6, 5, 0, 0, 0, 0, 0, 0, 0, 0, 0, 0, 0, 0, 0, 0, 0, 0, 0, 0, 0, 0, 0, 0, 0, 0, 0, 7] rfl (fun _ => rfl) rfl (by decide +kernel) (fun r1 u9 H locs hw hP hD hS => ?_)
  obtain ⟨hw1, rfl⟩ := hw
  have hP : va_P G vwCl (LW ca Z q1 a q2 d qo P Bf Dr Sn hs t S1 sc rd sr sh ac pe now dr kp sn hi ac u th hs ow tm en od fm fl bf bl li nx be tk er ea pe ne ors oc (((wr1 r0 o).2))) H := hP
  have hD : va_D (lwA s) (LW ca Z q1 a q2 d qo P Bf Dr Sn hs t S1 sc rd sr sh ac pe now dr kp sn hi ac u th hs ow tm en od fm fl bf bl li nx be tk er ea pe ne ors oc (((wr1 r0 o).2))) := hD
  refine lv_istore (lv' := (5, .int r1) :: [(0, .ref b), (1, .ref q1), (2, .ref q2), (3, .ref qo), (4, .int (nI i))]) hx hb dL_law_1486 hl (by decide) rfl (fun ls hl => ?_)
  refine lv_aload_n hx hb dL_law_1488 rfl (lv_at hl 3 rfl) ?_
  refine lw_arg C hS (lv_at hl 1 rfl) (lv_at hl 5 rfl) (k := 1) (by decide) hil dL_law_1489 dL_law_1490 dL_law_1492 dL_law_1493 dL_law_1494 ?_
  refine lw_i (sw_runV (As := [.int (xs (i + 1))]) (rest := []) Cx hP hD hS mv_X11_thickest ml_L_215 (c_X11_thickest l G ca Z q2 (d 7) (d 0) (d 8) (d 6) (.ref (d 0)) (.ref (d 1)) (.ref (d 2)) (.ref (d 3)) (.ref (d 4)) (.ref (d 5)) (.int u) (.int (bI hs)) (.ref (d 9)) (.ref (d 10)) (.int fl) (.ref (d 11)) (.int bl) (.int li) (.int nx) (.int be) (.int tk) (.int er) (.int ea) (.int pe) (.int ne) (.ref (d 12)) (.ref (d 13)) (.int oc) H.size (xs (i + 1)) en ow now th tm (b1, (en1, ow1, th1, tm1)) z3) 8 rfl rfl rfl [52, 60, 53, 61, 59] rfl rfl rfl rfl ⟨(Nat.le_of_ble_eq_true rfl), (Nat.le_of_ble_eq_true rfl)⟩ hl.1 rfl rfl (Nat.le_of_ble_eq_true rfl) dL_law_1495 ⟨hcR 1 (by decide), hsR 6 (by decide)⟩) hP hD hS hA [52, 60, 53, 61, 59] [0, 0, 0, 0, 0, 0, 0, 0, 0, 0, 0, 0, 0, 0, 0, 0, 0, 0, 0, 0, 0, 0, 0, 0, 0, 0, 0, 0, 0, 0, 0, 0, 0, 0, 0, 0, 0, 0, 0, 0, 0, 0, 0, 0, 0, 0, 0, 0, 0, 0, 0, 0, 1, 3, 0, 0, 0, 0, 0, 5, 2, 4, 0, 0, 0, 0, 0, 0] rfl (fun _ => rfl) rfl (by decide +kernel) (fun r2 u9 H locs hw hP hD hS => ?_)
  obtain ⟨hw2, rfl⟩ := hw
  have hP : va_P G vwCl (LW ca Z q1 a q2 d qo P Bf Dr Sn hs t S1 sc rd sr sh ac pe now dr kp sn hi ac u th1 hs ow1 tm1 en1 od fm fl bf bl li nx be tk er ea pe ne ors oc (((wr1 r0 o).2))) H := hP
  have hD : va_D (lwA s) (LW ca Z q1 a q2 d qo P Bf Dr Sn hs t S1 sc rd sr sh ac pe now dr kp sn hi ac u th1 hs ow1 tm1 en1 od fm fl bf bl li nx be tk er ea pe ne ors oc (((wr1 r0 o).2))) := hD
  refine lv_istore (lv' := (6, .int r2) :: (5, .int r1) :: [(0, .ref b), (1, .ref q1), (2, .ref q2), (3, .ref qo), (4, .int (nI i))]) hx hb dL_law_1498 hl (by decide) rfl (fun ls hl => ?_)
  refine lv_aload_n hx hb dL_law_1500 rfl (lv_at hl 4 rfl) ?_
  refine lw_i (sw_runV (As := []) (rest := []) Cx hP hD hS mv_X11_thrown ml_L_105 (c_X11_thrown l G ca Z q2 (.ref (d 0)) (.ref (d 1)) (.ref (d 2)) (.ref (d 3)) (.ref (d 4)) (.ref (d 5)) (.ref (d 6)) (.ref (d 0)) (.int u) (.int (bI hs)) (.ref (d 7)) (.ref (d 8)) (.int en1) (.ref (d 9)) (.ref (d 10)) (.int fl) (.ref (d 11)) (.int bl) (.int li) (.int nx) (.int be) (.int tk) (.int er) (.int ea) (.int pe) (.int ne) (.ref (d 12)) (.ref (d 13)) (.int oc) H.size th1 th1 rfl) 8 rfl rfl rfl [52] rfl rfl rfl rfl ⟨(Nat.le_of_ble_eq_true rfl), (Nat.le_of_ble_eq_true rfl)⟩ hl.1 rfl rfl (Nat.le_of_ble_eq_true rfl) dL_law_1501 ⟨hcR 1 (by decide), hsR 6 (by decide)⟩) hP hD hS hA [52] [0, 0, 0, 0, 0, 0, 0, 0, 0, 0, 0, 0, 0, 0, 0, 0, 0, 0, 0, 0, 0, 0, 0, 0, 0, 0, 0, 0, 0, 0, 0, 0, 0, 0, 0, 0, 0, 0, 0, 0, 0, 0, 0, 0, 0, 0, 0, 0, 0, 0, 0, 0, 1, 0, 0, 0, 0, 0, 0, 0, 0, 0, 0, 0, 0, 0, 0, 0] rfl (fun _ => rfl) rfl (by decide +kernel) (fun r3 u9 H locs hw hP hD hS => ?_)
  have hw3 : th1 = r3 := hw
  have hP : va_P G vwCl (LW ca Z q1 a q2 d qo P Bf Dr Sn hs t S1 sc rd sr sh ac pe now dr kp sn hi ac u th1 hs ow1 tm1 en1 od fm fl bf bl li nx be tk er ea pe ne ors oc (((wr1 r0 o).2))) H := hP
  have hD : va_D (lwA s) (LW ca Z q1 a q2 d qo P Bf Dr Sn hs t S1 sc rd sr sh ac pe now dr kp sn hi ac u th1 hs ow1 tm1 en1 od fm fl bf bl li nx be tk er ea pe ne ors oc (((wr1 r0 o).2))) := hD
  have hag := agw1 (o := o) z4
  refine lw_tail (q0 := 67) C hP rfl (lv_at hl 5 rfl) (lv_at hl 1 rfl) (lv_at hl 0 rfl) (hw1.symm.trans (hag.1.trans hw3)) (fun z9 => by rw [← hw2]; exact hag.2 (hw3.trans z9)) dL_law_1504 dL_law_1506 (by decide) dL_law_1511 dL_law_1513 (by decide) dL_law_1516 dL_law_1517 dL_law_1518 dL_law_1519 dL_law_1521 dL_law_1522 dL_law_1523 (by decide) dL_law_1528 (by decide) ?_
  refine va_forget hS.2.2 ?_
  refine W.widen (k := cells + 2) (n := slots + 12) (by omega) (by omega) ?_
  exact KK v P Bf Dr Sn hs t S1 sc rd sr sh ac pe now dr kp sn hi u th1 ow1 tm1 en1 od fm fl bf bl li nx be tk er ea ne ors oc ((wr1 r0 o).2) H ls (by omega) ⟨⟨w, ns, R, k, D, hC.1, hC.2.1, hC.2.2.1, z2⟩, hv, hH, hN, hB, hF⟩ hP hD (va_forg hS) (lv_sub hl [2, 3, 4, 5, 6] rfl)

set_option maxHeartbeats 1000000 in
set_option maxRecDepth 100000 in
theorem lc_31 (C : lwC p l s m meth c G ca Z b L xs) (hcl : cells + 2 ≤ 601024) (hsl : slots + 12 ≤ 7293033) (hil : i + 6 ≤ L) (hvv : v + 5000 < 2 ^ 31) (hRL : RLX v P Sn hs t S sc sh now sn hi u fm fl bf bl) (hP : va_P G vwCl (LW ca Z q1 a q2 d qo P Bf Dr Sn hs t S sc rd sr sh ac pe now dr kp sn hi ac u th hs ow tm en od fm fl bf bl li nx be tk er ea pe ne ors oc o) H) (hD : va_D (lwA s) (LW ca Z q1 a q2 d qo P Bf Dr Sn hs t S sc rd sr sh ac pe now dr kp sn hi ac u th hs ow tm en od fm fl bf bl li nx be tk er ea pe ne ors oc o)) (hS : va_S (lwA s) s.heap H []) (hl : lv_has ls 9 [(0, .ref b), (1, .ref q1), (2, .ref q2), (3, .ref qo), (4, .int (nI i))]) (KK : lwKK p l e s m below meth c G ca Z b q1 a q2 d qo cells slots i v Q) :
    W p l e room_1 s m #[.ref b] below meth c H [] cells slots Q (F0 m 1531 ls []) := by
  obtain ⟨⟨⟨hx, hb, hml, hown, htU⟩, hK, hX, hY, hA⟩, hXs, hbl, hL, hfl⟩ := id C
  have Cx := C.1
  have hcR : ∀ j, j ≤ 2 → cells + j ≤ room_1.cells := fun j hj => by show _ ≤ 601024; omega
  have hsR : ∀ j, j ≤ 12 → slots + j ≤ room_1.slots := fun j hj => by show _ ≤ 7293033; omega
  obtain ⟨⟨w, ns, R, k, D, hC⟩, hv, hH, hN, hB, hF⟩ := hRL
  obtain ⟨r0, S1, en1, ow1, th1, tm1, z1, z2, z3⟩ := Q_wrong hC  en ow tm th
  refine lv_aload_n hx hb dL_law_1531 rfl (lv_at hl 1 rfl) ?_
  refine lw_i (sw_runV (As := []) (rest := []) Cx hP hD hS mv_X10_wrong ml_L_216 (c_X10_wrong l G ca Z q1 (a 0) (a 2) (a 38) (a 40) (a 39) (.ref (a 3)) (.ref (a 6)) (.ref (a 9)) (.int (bI hs)) (.ref (a 12)) (.ref (a 41)) (.ref (a 43)) (.ref (a 44)) (.ref (a 48)) (.ref (a 50)) (.int pe) (.ref (a 1)) H.size  P S (r0, S1) z1) 7 rfl rfl rfl [0, 1, 3, 39, 41, 40] rfl rfl rfl rfl ⟨(Nat.le_of_ble_eq_true rfl), (Nat.le_of_ble_eq_true rfl)⟩ hl.1 rfl rfl (Nat.le_of_ble_eq_true rfl) dL_law_1532 ⟨hcR 0 (by decide), hsR 0 (by decide)⟩) hP hD hS hA [0, 1, 3, 39, 41, 40] [1, 2, 0, 3, 0, 0, 0, 0, 0, 0, 0, 0, 0, 0, 0, 0, 0, 0, 0, 0, 0, 0, 0, 0, 0, 0, 0, 0, 0, 0, 0, 0, 0, 0, 0, 0, 0, 0, 0, 4, 6, 5, 0, 0, 0, 0, 0, 0, 0, 0, 0, 0, 0, 0, 0, 0, 0, 0, 0, 0, 0, 0, 0, 0, 0, 0, 0, 0] rfl (fun _ => rfl) rfl (by decide +kernel) (fun r1 u9 H locs hw hP hD hS => ?_)
  obtain ⟨hw1, rfl⟩ := hw
  have hP : va_P G vwCl (LW ca Z q1 a q2 d qo P Bf Dr Sn hs t S1 sc rd sr sh ac pe now dr kp sn hi ac u th hs ow tm en od fm fl bf bl li nx be tk er ea pe ne ors oc o) H := hP
  have hD : va_D (lwA s) (LW ca Z q1 a q2 d qo P Bf Dr Sn hs t S1 sc rd sr sh ac pe now dr kp sn hi ac u th hs ow tm en od fm fl bf bl li nx be tk er ea pe ne ors oc o) := hD
  refine lv_aload_n hx hb dL_law_1535 rfl (lv_at hl 2 rfl) ?_
  refine lw_i (sw_runV (As := []) (rest := [.int r1]) Cx hP hD hS mv_X11_wrong ml_L_219 (c_X11_wrong l G ca Z q2 (d 7) (d 0) (d 8) (d 6) (.ref (d 0)) (.ref (d 1)) (.ref (d 2)) (.ref (d 3)) (.ref (d 4)) (.ref (d 5)) (.int u) (.int (bI hs)) (.ref (d 9)) (.ref (d 10)) (.int fl) (.ref (d 11)) (.int bl) (.int li) (.int nx) (.int be) (.int tk) (.int er) (.int ea) (.int pe) (.int ne) (.ref (d 12)) (.ref (d 13)) (.int oc) H.size  en ow now th tm (r0, (en1, ow1, th1, tm1)) z3) 8 rfl rfl rfl [52, 60, 53, 61, 59] rfl rfl rfl rfl ⟨(Nat.le_of_ble_eq_true rfl), (Nat.le_of_ble_eq_true rfl)⟩ hl.1 rfl rfl (Nat.le_of_ble_eq_true rfl) dL_law_1536 ⟨hcR 0 (by decide), hsR 0 (by decide)⟩) hP hD hS hA [52, 60, 53, 61, 59] [0, 0, 0, 0, 0, 0, 0, 0, 0, 0, 0, 0, 0, 0, 0, 0, 0, 0, 0, 0, 0, 0, 0, 0, 0, 0, 0, 0, 0, 0, 0, 0, 0, 0, 0, 0, 0, 0, 0, 0, 0, 0, 0, 0, 0, 0, 0, 0, 0, 0, 0, 0, 1, 3, 0, 0, 0, 0, 0, 5, 2, 4, 0, 0, 0, 0, 0, 0] rfl (fun _ => rfl) rfl (by decide +kernel) (fun r2 u9 H locs hw hP hD hS => ?_)
  obtain ⟨hw2, rfl⟩ := hw
  have hP : va_P G vwCl (LW ca Z q1 a q2 d qo P Bf Dr Sn hs t S1 sc rd sr sh ac pe now dr kp sn hi ac u th1 hs ow1 tm1 en1 od fm fl bf bl li nx be tk er ea pe ne ors oc o) H := hP
  have hD : va_D (lwA s) (LW ca Z q1 a q2 d qo P Bf Dr Sn hs t S1 sc rd sr sh ac pe now dr kp sn hi ac u th1 hs ow1 tm1 en1 od fm fl bf bl li nx be tk er ea pe ne ors oc o) := hD
  refine lv_icmp_eq (tgt := 2547) hx hb dL_law_1539 (by decide) (fun _ => ?_) (fun c9 => absurd (hw1.symm.trans hw2) c9)
  refine va_forget hS.2.2 ?_
  refine W.widen (k := cells + 2) (n := slots + 12) (by omega) (by omega) ?_
  exact KK v P Bf Dr Sn hs t S1 sc rd sr sh ac pe now dr kp sn hi u th1 ow1 tm1 en1 od fm fl bf bl li nx be tk er ea ne ors oc o H ls (by omega) ⟨⟨w, ns, R, k, D, hC.1, hC.2.1, hC.2.2.1, z2⟩, hv, hH, hN, hB, hF⟩ hP hD (va_forg hS) hl

set_option maxHeartbeats 1000000 in
set_option maxRecDepth 100000 in
theorem lc_32 (C : lwC p l s m meth c G ca Z b L xs) (hcl : cells + 2 ≤ 601024) (hsl : slots + 12 ≤ 7293033) (hil : i + 6 ≤ L) (hvv : v + 5000 < 2 ^ 31) (hRL : RLX v P Sn hs t S sc sh now sn hi u fm fl bf bl) (hP : va_P G vwCl (LW ca Z q1 a q2 d qo P Bf Dr Sn hs t S sc rd sr sh ac pe now dr kp sn hi ac u th hs ow tm en od fm fl bf bl li nx be tk er ea pe ne ors oc o) H) (hD : va_D (lwA s) (LW ca Z q1 a q2 d qo P Bf Dr Sn hs t S sc rd sr sh ac pe now dr kp sn hi ac u th hs ow tm en od fm fl bf bl li nx be tk er ea pe ne ors oc o)) (hS : va_S (lwA s) s.heap H []) (hl : lv_has ls 9 [(0, .ref b), (1, .ref q1), (2, .ref q2), (3, .ref qo), (4, .int (nI i))]) (KK : lwKK p l e s m below meth c G ca Z b q1 a q2 d qo cells slots i v Q) :
    W p l e room_1 s m #[.ref b] below meth c H [] cells slots Q (F0 m 1544 ls []) := by
  obtain ⟨⟨⟨hx, hb, hml, hown, htU⟩, hK, hX, hY, hA⟩, hXs, hbl, hL, hfl⟩ := id C
  have Cx := C.1
  have hcR : ∀ j, j ≤ 2 → cells + j ≤ room_1.cells := fun j hj => by show _ ≤ 601024; omega
  have hsR : ∀ j, j ≤ 12 → slots + j ≤ room_1.slots := fun j hj => by show _ ≤ 7293033; omega
  obtain ⟨⟨w, ns, R, k, D, hC⟩, hv, hH, hN, hB, hF⟩ := hRL
  obtain ⟨r0, S1, en1, ow1, th1, tm1, z1, z2, z3⟩ := Q_firstWrong hC  en ow tm th
  refine lv_aload_n hx hb dL_law_1544 rfl (lv_at hl 1 rfl) ?_
  refine lw_i (sw_runV (As := []) (rest := []) Cx hP hD hS mv_X10_firstWrong ml_L_220 (c_X10_firstWrong l G ca Z q1 (a 0) (a 2) (a 38) (a 40) (a 39) (.ref (a 3)) (.ref (a 6)) (.ref (a 9)) (.int (bI hs)) (.ref (a 12)) (.ref (a 41)) (.ref (a 43)) (.ref (a 44)) (.ref (a 48)) (.ref (a 50)) (.int pe) (.ref (a 1)) H.size  P S (r0, S1) z1) 7 rfl rfl rfl [0, 1, 3, 39, 41, 40] rfl rfl rfl rfl ⟨(Nat.le_of_ble_eq_true rfl), (Nat.le_of_ble_eq_true rfl)⟩ hl.1 rfl rfl (Nat.le_of_ble_eq_true rfl) dL_law_1545 ⟨hcR 0 (by decide), hsR 0 (by decide)⟩) hP hD hS hA [0, 1, 3, 39, 41, 40] [1, 2, 0, 3, 0, 0, 0, 0, 0, 0, 0, 0, 0, 0, 0, 0, 0, 0, 0, 0, 0, 0, 0, 0, 0, 0, 0, 0, 0, 0, 0, 0, 0, 0, 0, 0, 0, 0, 0, 4, 6, 5, 0, 0, 0, 0, 0, 0, 0, 0, 0, 0, 0, 0, 0, 0, 0, 0, 0, 0, 0, 0, 0, 0, 0, 0, 0, 0] rfl (fun _ => rfl) rfl (by decide +kernel) (fun r1 u9 H locs hw hP hD hS => ?_)
  obtain ⟨hw1, rfl⟩ := hw
  have hP : va_P G vwCl (LW ca Z q1 a q2 d qo P Bf Dr Sn hs t S1 sc rd sr sh ac pe now dr kp sn hi ac u th hs ow tm en od fm fl bf bl li nx be tk er ea pe ne ors oc o) H := hP
  have hD : va_D (lwA s) (LW ca Z q1 a q2 d qo P Bf Dr Sn hs t S1 sc rd sr sh ac pe now dr kp sn hi ac u th hs ow tm en od fm fl bf bl li nx be tk er ea pe ne ors oc o) := hD
  refine lv_aload_n hx hb dL_law_1548 rfl (lv_at hl 2 rfl) ?_
  refine lw_i (sw_runV (As := []) (rest := [.int r1]) Cx hP hD hS mv_X11_firstWrong ml_L_223 (c_X11_firstWrong l G ca Z q2 (d 7) (d 0) (d 8) (d 6) (.ref (d 0)) (.ref (d 1)) (.ref (d 2)) (.ref (d 3)) (.ref (d 4)) (.ref (d 5)) (.int u) (.int (bI hs)) (.ref (d 9)) (.ref (d 10)) (.int fl) (.ref (d 11)) (.int bl) (.int li) (.int nx) (.int be) (.int tk) (.int er) (.int ea) (.int pe) (.int ne) (.ref (d 12)) (.ref (d 13)) (.int oc) H.size  en ow now th tm (r0, (en1, ow1, th1, tm1)) z3) 8 rfl rfl rfl [52, 60, 53, 61, 59] rfl rfl rfl rfl ⟨(Nat.le_of_ble_eq_true rfl), (Nat.le_of_ble_eq_true rfl)⟩ hl.1 rfl rfl (Nat.le_of_ble_eq_true rfl) dL_law_1549 ⟨hcR 0 (by decide), hsR 0 (by decide)⟩) hP hD hS hA [52, 60, 53, 61, 59] [0, 0, 0, 0, 0, 0, 0, 0, 0, 0, 0, 0, 0, 0, 0, 0, 0, 0, 0, 0, 0, 0, 0, 0, 0, 0, 0, 0, 0, 0, 0, 0, 0, 0, 0, 0, 0, 0, 0, 0, 0, 0, 0, 0, 0, 0, 0, 0, 0, 0, 0, 0, 1, 3, 0, 0, 0, 0, 0, 5, 2, 4, 0, 0, 0, 0, 0, 0] rfl (fun _ => rfl) rfl (by decide +kernel) (fun r2 u9 H locs hw hP hD hS => ?_)
  obtain ⟨hw2, rfl⟩ := hw
  have hP : va_P G vwCl (LW ca Z q1 a q2 d qo P Bf Dr Sn hs t S1 sc rd sr sh ac pe now dr kp sn hi ac u th1 hs ow1 tm1 en1 od fm fl bf bl li nx be tk er ea pe ne ors oc o) H := hP
  have hD : va_D (lwA s) (LW ca Z q1 a q2 d qo P Bf Dr Sn hs t S1 sc rd sr sh ac pe now dr kp sn hi ac u th1 hs ow1 tm1 en1 od fm fl bf bl li nx be tk er ea pe ne ors oc o) := hD
  refine lv_icmp_eq (tgt := 2547) hx hb dL_law_1552 (by decide) (fun _ => ?_) (fun c9 => absurd (hw1.symm.trans hw2) c9)
  refine va_forget hS.2.2 ?_
  refine W.widen (k := cells + 2) (n := slots + 12) (by omega) (by omega) ?_
  exact KK v P Bf Dr Sn hs t S1 sc rd sr sh ac pe now dr kp sn hi u th1 ow1 tm1 en1 od fm fl bf bl li nx be tk er ea ne ors oc o H ls (by omega) ⟨⟨w, ns, R, k, D, hC.1, hC.2.1, hC.2.2.1, z2⟩, hv, hH, hN, hB, hF⟩ hP hD (va_forg hS) hl

set_option maxHeartbeats 1000000 in
set_option maxRecDepth 100000 in
theorem lc_33 (C : lwC p l s m meth c G ca Z b L xs) (hcl : cells + 2 ≤ 601024) (hsl : slots + 12 ≤ 7293033) (hil : i + 6 ≤ L) (hvv : v + 5000 < 2 ^ 31) (hRL : RLX v P Sn hs t S sc sh now sn hi u fm fl bf bl) (hP : va_P G vwCl (LW ca Z q1 a q2 d qo P Bf Dr Sn hs t S sc rd sr sh ac pe now dr kp sn hi ac u th hs ow tm en od fm fl bf bl li nx be tk er ea pe ne ors oc o) H) (hD : va_D (lwA s) (LW ca Z q1 a q2 d qo P Bf Dr Sn hs t S sc rd sr sh ac pe now dr kp sn hi ac u th hs ow tm en od fm fl bf bl li nx be tk er ea pe ne ors oc o)) (hS : va_S (lwA s) s.heap H []) (hl : lv_has ls 9 [(0, .ref b), (1, .ref q1), (2, .ref q2), (3, .ref qo), (4, .int (nI i))]) (KK : lwKK p l e s m below meth c G ca Z b q1 a q2 d qo cells slots i v Q) :
    W p l e room_1 s m #[.ref b] below meth c H [] cells slots Q (F0 m 1557 ls []) := by
  obtain ⟨⟨⟨hx, hb, hml, hown, htU⟩, hK, hX, hY, hA⟩, hXs, hbl, hL, hfl⟩ := id C
  have Cx := C.1
  have hcR : ∀ j, j ≤ 2 → cells + j ≤ room_1.cells := fun j hj => by show _ ≤ 601024; omega
  have hsR : ∀ j, j ≤ 12 → slots + j ≤ room_1.slots := fun j hj => by show _ ≤ 7293033; omega
  obtain ⟨⟨w, ns, R, k, D, hC⟩, hv, hH, hN, hB, hF⟩ := hRL
  obtain ⟨r0, S1, en1, ow1, th1, tm1, z1, z2, z3⟩ := Q_gap hC  en ow tm th
  refine lv_aload_n hx hb dL_law_1557 rfl (lv_at hl 1 rfl) ?_
  refine lw_i (sw_runV (As := []) (rest := []) Cx hP hD hS mv_X10_gap ml_L_224 (c_X10_gap l G ca Z q1 (a 0) (a 2) (a 38) (a 40) (a 39) (.ref (a 3)) (.ref (a 6)) (.ref (a 9)) (.int (bI hs)) (.ref (a 12)) (.ref (a 41)) (.ref (a 43)) (.ref (a 44)) (.ref (a 48)) (.ref (a 50)) (.int pe) (.ref (a 1)) H.size  P S (r0, S1) z1) 7 rfl rfl rfl [0, 1, 3, 39, 41, 40] rfl rfl rfl rfl ⟨(Nat.le_of_ble_eq_true rfl), (Nat.le_of_ble_eq_true rfl)⟩ hl.1 rfl rfl (Nat.le_of_ble_eq_true rfl) dL_law_1558 ⟨hcR 0 (by decide), hsR 0 (by decide)⟩) hP hD hS hA [0, 1, 3, 39, 41, 40] [1, 2, 0, 3, 0, 0, 0, 0, 0, 0, 0, 0, 0, 0, 0, 0, 0, 0, 0, 0, 0, 0, 0, 0, 0, 0, 0, 0, 0, 0, 0, 0, 0, 0, 0, 0, 0, 0, 0, 4, 6, 5, 0, 0, 0, 0, 0, 0, 0, 0, 0, 0, 0, 0, 0, 0, 0, 0, 0, 0, 0, 0, 0, 0, 0, 0, 0, 0] rfl (fun _ => rfl) rfl (by decide +kernel) (fun r1 u9 H locs hw hP hD hS => ?_)
  obtain ⟨hw1, rfl⟩ := hw
  have hP : va_P G vwCl (LW ca Z q1 a q2 d qo P Bf Dr Sn hs t S1 sc rd sr sh ac pe now dr kp sn hi ac u th hs ow tm en od fm fl bf bl li nx be tk er ea pe ne ors oc o) H := hP
  have hD : va_D (lwA s) (LW ca Z q1 a q2 d qo P Bf Dr Sn hs t S1 sc rd sr sh ac pe now dr kp sn hi ac u th hs ow tm en od fm fl bf bl li nx be tk er ea pe ne ors oc o) := hD
  refine lv_aload_n hx hb dL_law_1561 rfl (lv_at hl 2 rfl) ?_
  refine lw_i (sw_runV (As := []) (rest := [.int r1]) Cx hP hD hS mv_X11_gap ml_L_227 (c_X11_gap l G ca Z q2 (d 7) (d 0) (d 8) (d 6) (.ref (d 0)) (.ref (d 1)) (.ref (d 2)) (.ref (d 3)) (.ref (d 4)) (.ref (d 5)) (.int u) (.int (bI hs)) (.ref (d 9)) (.ref (d 10)) (.int fl) (.ref (d 11)) (.int bl) (.int li) (.int nx) (.int be) (.int tk) (.int er) (.int ea) (.int pe) (.int ne) (.ref (d 12)) (.ref (d 13)) (.int oc) H.size  en ow now th tm (r0, (en1, ow1, th1, tm1)) z3) 8 rfl rfl rfl [52, 60, 53, 61, 59] rfl rfl rfl rfl ⟨(Nat.le_of_ble_eq_true rfl), (Nat.le_of_ble_eq_true rfl)⟩ hl.1 rfl rfl (Nat.le_of_ble_eq_true rfl) dL_law_1562 ⟨hcR 0 (by decide), hsR 0 (by decide)⟩) hP hD hS hA [52, 60, 53, 61, 59] [0, 0, 0, 0, 0, 0, 0, 0, 0, 0, 0, 0, 0, 0, 0, 0, 0, 0, 0, 0, 0, 0, 0, 0, 0, 0, 0, 0, 0, 0, 0, 0, 0, 0, 0, 0, 0, 0, 0, 0, 0, 0, 0, 0, 0, 0, 0, 0, 0, 0, 0, 0, 1, 3, 0, 0, 0, 0, 0, 5, 2, 4, 0, 0, 0, 0, 0, 0] rfl (fun _ => rfl) rfl (by decide +kernel) (fun r2 u9 H locs hw hP hD hS => ?_)
  obtain ⟨hw2, rfl⟩ := hw
  have hP : va_P G vwCl (LW ca Z q1 a q2 d qo P Bf Dr Sn hs t S1 sc rd sr sh ac pe now dr kp sn hi ac u th1 hs ow1 tm1 en1 od fm fl bf bl li nx be tk er ea pe ne ors oc o) H := hP
  have hD : va_D (lwA s) (LW ca Z q1 a q2 d qo P Bf Dr Sn hs t S1 sc rd sr sh ac pe now dr kp sn hi ac u th1 hs ow1 tm1 en1 od fm fl bf bl li nx be tk er ea pe ne ors oc o) := hD
  refine lv_icmp_eq (tgt := 2547) hx hb dL_law_1565 (by decide) (fun _ => ?_) (fun c9 => absurd (hw1.symm.trans hw2) c9)
  refine va_forget hS.2.2 ?_
  refine W.widen (k := cells + 2) (n := slots + 12) (by omega) (by omega) ?_
  exact KK v P Bf Dr Sn hs t S1 sc rd sr sh ac pe now dr kp sn hi u th1 ow1 tm1 en1 od fm fl bf bl li nx be tk er ea ne ors oc o H ls (by omega) ⟨⟨w, ns, R, k, D, hC.1, hC.2.1, hC.2.2.1, z2⟩, hv, hH, hN, hB, hF⟩ hP hD (va_forg hS) hl

set_option maxHeartbeats 1000000 in
set_option maxRecDepth 100000 in
theorem lc_34 (C : lwC p l s m meth c G ca Z b L xs) (hcl : cells + 2 ≤ 601024) (hsl : slots + 12 ≤ 7293033) (hil : i + 6 ≤ L) (hvv : v + 5000 < 2 ^ 31) (hRL : RLX v P Sn hs t S sc sh now sn hi u fm fl bf bl) (hP : va_P G vwCl (LW ca Z q1 a q2 d qo P Bf Dr Sn hs t S sc rd sr sh ac pe now dr kp sn hi ac u th hs ow tm en od fm fl bf bl li nx be tk er ea pe ne ors oc o) H) (hD : va_D (lwA s) (LW ca Z q1 a q2 d qo P Bf Dr Sn hs t S sc rd sr sh ac pe now dr kp sn hi ac u th hs ow tm en od fm fl bf bl li nx be tk er ea pe ne ors oc o)) (hS : va_S (lwA s) s.heap H []) (hl : lv_has ls 9 [(0, .ref b), (1, .ref q1), (2, .ref q2), (3, .ref qo), (4, .int (nI i))]) (KK : lwKK p l e s m below meth c G ca Z b q1 a q2 d qo cells slots i v Q) :
    W p l e room_1 s m #[.ref b] below meth c H [] cells slots Q (F0 m 1570 ls []) := by
  obtain ⟨⟨⟨hx, hb, hml, hown, htU⟩, hK, hX, hY, hA⟩, hXs, hbl, hL, hfl⟩ := id C
  have Cx := C.1
  have hcR : ∀ j, j ≤ 2 → cells + j ≤ room_1.cells := fun j hj => by show _ ≤ 601024; omega
  have hsR : ∀ j, j ≤ 12 → slots + j ≤ room_1.slots := fun j hj => by show _ ≤ 7293033; omega
  obtain ⟨⟨w, ns, R, k, D, hC⟩, hv, hH, hN, hB, hF⟩ := hRL
  obtain ⟨r0, en1, ow1, th1, tm1, z1, z3⟩ := Q_missing hC en ow tm th
  refine lv_aload_n hx hb dL_law_1570 rfl (lv_at hl 1 rfl) ?_
  refine lw_i (sw_runV (As := []) (rest := []) Cx hP hD hS mv_X10_missing ml_L_228 (c_X10_missing l G ca Z q1 (a 0) (a 2) (.ref (a 3)) (.ref (a 6)) (.ref (a 9)) (.int (bI hs)) (.ref (a 12)) (.ref (a 38)) (.ref (a 41)) (.ref (a 43)) (.ref (a 44)) (.ref (a 48)) (.ref (a 50)) (.int pe) (.ref (a 1)) H.size  P r0 z1) 7 rfl rfl rfl [0, 1, 3] rfl rfl rfl rfl ⟨(Nat.le_of_ble_eq_true rfl), (Nat.le_of_ble_eq_true rfl)⟩ hl.1 rfl rfl (Nat.le_of_ble_eq_true rfl) dL_law_1571 ⟨hcR 0 (by decide), hsR 0 (by decide)⟩) hP hD hS hA [0, 1, 3] [1, 2, 0, 3, 0, 0, 0, 0, 0, 0, 0, 0, 0, 0, 0, 0, 0, 0, 0, 0, 0, 0, 0, 0, 0, 0, 0, 0, 0, 0, 0, 0, 0, 0, 0, 0, 0, 0, 0, 0, 0, 0, 0, 0, 0, 0, 0, 0, 0, 0, 0, 0, 0, 0, 0, 0, 0, 0, 0, 0, 0, 0, 0, 0, 0, 0, 0, 0] rfl (fun _ => rfl) rfl (by decide +kernel) (fun r1 u9 H locs hw hP hD hS => ?_)
  have hw1 := hw
  have hP : va_P G vwCl (LW ca Z q1 a q2 d qo P Bf Dr Sn hs t S sc rd sr sh ac pe now dr kp sn hi ac u th hs ow tm en od fm fl bf bl li nx be tk er ea pe ne ors oc o) H := hP
  have hD : va_D (lwA s) (LW ca Z q1 a q2 d qo P Bf Dr Sn hs t S sc rd sr sh ac pe now dr kp sn hi ac u th hs ow tm en od fm fl bf bl li nx be tk er ea pe ne ors oc o) := hD
  refine lv_aload_n hx hb dL_law_1574 rfl (lv_at hl 2 rfl) ?_
  refine lw_i (sw_runV (As := []) (rest := [.int r1]) Cx hP hD hS mv_X11_missing ml_L_231 (c_X11_missing l G ca Z q2 (d 7) (d 0) (d 8) (d 6) (.ref (d 0)) (.ref (d 1)) (.ref (d 2)) (.ref (d 3)) (.ref (d 4)) (.ref (d 5)) (.int u) (.int (bI hs)) (.ref (d 9)) (.ref (d 10)) (.int fl) (.ref (d 11)) (.int bl) (.int li) (.int nx) (.int be) (.int tk) (.int er) (.int ea) (.int pe) (.int ne) (.ref (d 12)) (.ref (d 13)) (.int oc) H.size  en ow now th tm (r0, (en1, ow1, th1, tm1)) z3) 8 rfl rfl rfl [52, 60, 53, 61, 59] rfl rfl rfl rfl ⟨(Nat.le_of_ble_eq_true rfl), (Nat.le_of_ble_eq_true rfl)⟩ hl.1 rfl rfl (Nat.le_of_ble_eq_true rfl) dL_law_1575 ⟨hcR 0 (by decide), hsR 0 (by decide)⟩) hP hD hS hA [52, 60, 53, 61, 59] [0, 0, 0, 0, 0, 0, 0, 0, 0, 0, 0, 0, 0, 0, 0, 0, 0, 0, 0, 0, 0, 0, 0, 0, 0, 0, 0, 0, 0, 0, 0, 0, 0, 0, 0, 0, 0, 0, 0, 0, 0, 0, 0, 0, 0, 0, 0, 0, 0, 0, 0, 0, 1, 3, 0, 0, 0, 0, 0, 5, 2, 4, 0, 0, 0, 0, 0, 0] rfl (fun _ => rfl) rfl (by decide +kernel) (fun r2 u9 H locs hw hP hD hS => ?_)
  obtain ⟨hw2, rfl⟩ := hw
  have hP : va_P G vwCl (LW ca Z q1 a q2 d qo P Bf Dr Sn hs t S sc rd sr sh ac pe now dr kp sn hi ac u th1 hs ow1 tm1 en1 od fm fl bf bl li nx be tk er ea pe ne ors oc o) H := hP
  have hD : va_D (lwA s) (LW ca Z q1 a q2 d qo P Bf Dr Sn hs t S sc rd sr sh ac pe now dr kp sn hi ac u th1 hs ow1 tm1 en1 od fm fl bf bl li nx be tk er ea pe ne ors oc o) := hD
  refine lv_icmp_eq (tgt := 2547) hx hb dL_law_1578 (by decide) (fun _ => ?_) (fun c9 => absurd (hw1.symm.trans hw2) c9)
  refine va_forget hS.2.2 ?_
  refine W.widen (k := cells + 2) (n := slots + 12) (by omega) (by omega) ?_
  exact KK v P Bf Dr Sn hs t S sc rd sr sh ac pe now dr kp sn hi u th1 ow1 tm1 en1 od fm fl bf bl li nx be tk er ea ne ors oc o H ls (by omega) ⟨⟨w, ns, R, k, D, hC⟩, hv, hH, hN, hB, hF⟩ hP hD (va_forg hS) hl

set_option maxHeartbeats 1000000 in
set_option maxRecDepth 100000 in
theorem lc_35 (C : lwC p l s m meth c G ca Z b L xs) (hcl : cells + 2 ≤ 601024) (hsl : slots + 12 ≤ 7293033) (hil : i + 6 ≤ L) (hvv : v + 5000 < 2 ^ 31) (hRL : RLX v P Sn hs t S sc sh now sn hi u fm fl bf bl) (hP : va_P G vwCl (LW ca Z q1 a q2 d qo P Bf Dr Sn hs t S sc rd sr sh ac pe now dr kp sn hi ac u th hs ow tm en od fm fl bf bl li nx be tk er ea pe ne ors oc o) H) (hD : va_D (lwA s) (LW ca Z q1 a q2 d qo P Bf Dr Sn hs t S sc rd sr sh ac pe now dr kp sn hi ac u th hs ow tm en od fm fl bf bl li nx be tk er ea pe ne ors oc o)) (hS : va_S (lwA s) s.heap H []) (hl : lv_has ls 9 [(0, .ref b), (1, .ref q1), (2, .ref q2), (3, .ref qo), (4, .int (nI i))]) (KK : lwKK p l e s m below meth c G ca Z b q1 a q2 d qo cells slots i v Q) :
    W p l e room_1 s m #[.ref b] below meth c H [] cells slots Q (F0 m 1583 ls []) := by
  obtain ⟨⟨⟨hx, hb, hml, hown, htU⟩, hK, hX, hY, hA⟩, hXs, hbl, hL, hfl⟩ := id C
  have Cx := C.1
  have hcR : ∀ j, j ≤ 2 → cells + j ≤ room_1.cells := fun j hj => by show _ ≤ 601024; omega
  have hsR : ∀ j, j ≤ 12 → slots + j ≤ room_1.slots := fun j hj => by show _ ≤ 7293033; omega
  obtain ⟨⟨w, ns, R, k, D, hC⟩, hv, hH, hN, hB, hF⟩ := hRL
  obtain ⟨r0, S1, b1, en1, ow1, th1, tm1, z1, z2, z3, z4⟩ := Q_takes hC (xs (i + 1)) en ow tm th
  refine lv_aload_n hx hb dL_law_1583 rfl (lv_at hl 1 rfl) ?_
  refine lw_arg C hS (lv_at hl 0 rfl) (lv_at hl 4 rfl) (k := 1) (by decide) hil dL_law_1584 dL_law_1585 dL_law_1587 dL_law_1588 dL_law_1589 ?_
  refine lv_aload_n hx hb dL_law_1590 rfl (lv_at hl 3 rfl) ?_
  refine lw_i (sw_runH (As := [.ref q1, .int (xs (i + 1)), .ref qo]) (rest := []) Cx hP hD hS mh_L_takes ml_L_232 (c_L_takes l hfl G ca Z q1 (a 0) (a 2) (a 38) (a 40) (a 39) (.ref (a 3)) (.ref (a 6)) (.ref (a 9)) (.int (bI hs)) (.ref (a 12)) (.ref (a 41)) (.ref (a 43)) (.ref (a 44)) (.ref (a 48)) (.ref (a 50)) (.int pe) (.ref (a 1)) qo H.size (xs (i + 1)) P S o (r0, S1) z1 (agk z4)) [0, 1, 3, 39, 41, 40, 67] rfl rfl rfl rfl ⟨(Nat.le_of_ble_eq_true rfl), (Nat.le_of_ble_eq_true rfl)⟩ hl.1 rfl rfl (Nat.le_of_ble_eq_true rfl) dL_law_1591 ⟨hcR 1 (by decide), hsR 6 (by decide)⟩) hP hD hS hA [0, 1, 3, 39, 41, 40, 67] [1, 2, 0, 3, 0, 0, 0, 0, 0, 0, 0, 0, 0, 0, 0, 0, 0, 0, 0, 0, 0, 0, 0, 0, 0, 0, 0, 0, 0, 0, 0, 0, 0, 0, 0, 0, 0, 0, 0, 4, 6, 5, 0, 0, 0, 0, 0, 0, 0, 0, 0, 0, 0, 0, 0, 0, 0, 0, 0, 0, 0, 0, 0, 0, 0, 0, 0, 7] rfl (fun _ => rfl) rfl (by decide +kernel) (fun r1 u9 H locs hw hP hD hS => ?_)
  obtain ⟨hw1, rfl⟩ := hw
  have hP : va_P G vwCl (LW ca Z q1 a q2 d qo P Bf Dr Sn hs t S1 sc rd sr sh ac pe now dr kp sn hi ac u th hs ow tm en od fm fl bf bl li nx be tk er ea pe ne ors oc (((wr1 r0 o).2))) H := hP
  have hD : va_D (lwA s) (LW ca Z q1 a q2 d qo P Bf Dr Sn hs t S1 sc rd sr sh ac pe now dr kp sn hi ac u th hs ow tm en od fm fl bf bl li nx be tk er ea pe ne ors oc (((wr1 r0 o).2))) := hD
  refine lv_istore (lv' := (5, .int r1) :: [(0, .ref b), (1, .ref q1), (2, .ref q2), (3, .ref qo), (4, .int (nI i))]) hx hb dL_law_1594 hl (by decide) rfl (fun ls hl => ?_)
  refine lv_aload_n hx hb dL_law_1596 rfl (lv_at hl 3 rfl) ?_
  refine lw_arg C hS (lv_at hl 1 rfl) (lv_at hl 5 rfl) (k := 1) (by decide) hil dL_law_1597 dL_law_1598 dL_law_1600 dL_law_1601 dL_law_1602 ?_
  refine lw_i (sw_runV (As := [.int (xs (i + 1))]) (rest := []) Cx hP hD hS mv_X11_takes ml_L_234 (c_X11_takes l G ca Z q2 (d 7) (d 0) (d 8) (d 6) (.ref (d 0)) (.ref (d 1)) (.ref (d 2)) (.ref (d 3)) (.ref (d 4)) (.ref (d 5)) (.int u) (.int (bI hs)) (.ref (d 9)) (.ref (d 10)) (.int fl) (.ref (d 11)) (.int bl) (.int li) (.int nx) (.int be) (.int tk) (.int er) (.int ea) (.int pe) (.int ne) (.ref (d 12)) (.ref (d 13)) (.int oc) H.size (xs (i + 1)) en ow now th tm (b1, (en1, ow1, th1, tm1)) z3) 8 rfl rfl rfl [52, 60, 53, 61, 59] rfl rfl rfl rfl ⟨(Nat.le_of_ble_eq_true rfl), (Nat.le_of_ble_eq_true rfl)⟩ hl.1 rfl rfl (Nat.le_of_ble_eq_true rfl) dL_law_1603 ⟨hcR 1 (by decide), hsR 6 (by decide)⟩) hP hD hS hA [52, 60, 53, 61, 59] [0, 0, 0, 0, 0, 0, 0, 0, 0, 0, 0, 0, 0, 0, 0, 0, 0, 0, 0, 0, 0, 0, 0, 0, 0, 0, 0, 0, 0, 0, 0, 0, 0, 0, 0, 0, 0, 0, 0, 0, 0, 0, 0, 0, 0, 0, 0, 0, 0, 0, 0, 0, 1, 3, 0, 0, 0, 0, 0, 5, 2, 4, 0, 0, 0, 0, 0, 0] rfl (fun _ => rfl) rfl (by decide +kernel) (fun r2 u9 H locs hw hP hD hS => ?_)
  obtain ⟨hw2, rfl⟩ := hw
  have hP : va_P G vwCl (LW ca Z q1 a q2 d qo P Bf Dr Sn hs t S1 sc rd sr sh ac pe now dr kp sn hi ac u th1 hs ow1 tm1 en1 od fm fl bf bl li nx be tk er ea pe ne ors oc (((wr1 r0 o).2))) H := hP
  have hD : va_D (lwA s) (LW ca Z q1 a q2 d qo P Bf Dr Sn hs t S1 sc rd sr sh ac pe now dr kp sn hi ac u th1 hs ow1 tm1 en1 od fm fl bf bl li nx be tk er ea pe ne ors oc (((wr1 r0 o).2))) := hD
  refine lv_istore (lv' := (6, .int r2) :: (5, .int r1) :: [(0, .ref b), (1, .ref q1), (2, .ref q2), (3, .ref qo), (4, .int (nI i))]) hx hb dL_law_1606 hl (by decide) rfl (fun ls hl => ?_)
  refine lv_aload_n hx hb dL_law_1608 rfl (lv_at hl 4 rfl) ?_
  refine lw_i (sw_runV (As := []) (rest := []) Cx hP hD hS mv_X11_thrown ml_L_105 (c_X11_thrown l G ca Z q2 (.ref (d 0)) (.ref (d 1)) (.ref (d 2)) (.ref (d 3)) (.ref (d 4)) (.ref (d 5)) (.ref (d 6)) (.ref (d 0)) (.int u) (.int (bI hs)) (.ref (d 7)) (.ref (d 8)) (.int en1) (.ref (d 9)) (.ref (d 10)) (.int fl) (.ref (d 11)) (.int bl) (.int li) (.int nx) (.int be) (.int tk) (.int er) (.int ea) (.int pe) (.int ne) (.ref (d 12)) (.ref (d 13)) (.int oc) H.size th1 th1 rfl) 8 rfl rfl rfl [52] rfl rfl rfl rfl ⟨(Nat.le_of_ble_eq_true rfl), (Nat.le_of_ble_eq_true rfl)⟩ hl.1 rfl rfl (Nat.le_of_ble_eq_true rfl) dL_law_1609 ⟨hcR 1 (by decide), hsR 6 (by decide)⟩) hP hD hS hA [52] [0, 0, 0, 0, 0, 0, 0, 0, 0, 0, 0, 0, 0, 0, 0, 0, 0, 0, 0, 0, 0, 0, 0, 0, 0, 0, 0, 0, 0, 0, 0, 0, 0, 0, 0, 0, 0, 0, 0, 0, 0, 0, 0, 0, 0, 0, 0, 0, 0, 0, 0, 0, 1, 0, 0, 0, 0, 0, 0, 0, 0, 0, 0, 0, 0, 0, 0, 0] rfl (fun _ => rfl) rfl (by decide +kernel) (fun r3 u9 H locs hw hP hD hS => ?_)
  have hw3 : th1 = r3 := hw
  have hP : va_P G vwCl (LW ca Z q1 a q2 d qo P Bf Dr Sn hs t S1 sc rd sr sh ac pe now dr kp sn hi ac u th1 hs ow1 tm1 en1 od fm fl bf bl li nx be tk er ea pe ne ors oc (((wr1 r0 o).2))) H := hP
  have hD : va_D (lwA s) (LW ca Z q1 a q2 d qo P Bf Dr Sn hs t S1 sc rd sr sh ac pe now dr kp sn hi ac u th1 hs ow1 tm1 en1 od fm fl bf bl li nx be tk er ea pe ne ors oc (((wr1 r0 o).2))) := hD
  have hag := agw1 (o := o) z4
  refine lw_tail (q0 := 67) C hP rfl (lv_at hl 5 rfl) (lv_at hl 1 rfl) (lv_at hl 0 rfl) (hw1.symm.trans (hag.1.trans hw3)) (fun z9 => by rw [← hw2]; exact hag.2 (hw3.trans z9)) dL_law_1612 dL_law_1614 (by decide) dL_law_1619 dL_law_1621 (by decide) dL_law_1624 dL_law_1625 dL_law_1626 dL_law_1627 dL_law_1629 dL_law_1630 dL_law_1631 (by decide) dL_law_1636 (by decide) ?_
  refine va_forget hS.2.2 ?_
  refine W.widen (k := cells + 2) (n := slots + 12) (by omega) (by omega) ?_
  exact KK v P Bf Dr Sn hs t S1 sc rd sr sh ac pe now dr kp sn hi u th1 ow1 tm1 en1 od fm fl bf bl li nx be tk er ea ne ors oc ((wr1 r0 o).2) H ls (by omega) ⟨⟨w, ns, R, k, D, hC.1, hC.2.1, hC.2.2.1, z2⟩, hv, hH, hN, hB, hF⟩ hP hD (va_forg hS) (lv_sub hl [2, 3, 4, 5, 6] rfl)

set_option maxHeartbeats 1000000 in
set_option maxRecDepth 100000 in
theorem lc_36 (C : lwC p l s m meth c G ca Z b L xs) (hcl : cells + 2 ≤ 601024) (hsl : slots + 12 ≤ 7293033) (hil : i + 6 ≤ L) (hvv : v + 5000 < 2 ^ 31) (hRL : RLX v P Sn hs t S sc sh now sn hi u fm fl bf bl) (hP : va_P G vwCl (LW ca Z q1 a q2 d qo P Bf Dr Sn hs t S sc rd sr sh ac pe now dr kp sn hi ac u th hs ow tm en od fm fl bf bl li nx be tk er ea pe ne ors oc o) H) (hD : va_D (lwA s) (LW ca Z q1 a q2 d qo P Bf Dr Sn hs t S sc rd sr sh ac pe now dr kp sn hi ac u th hs ow tm en od fm fl bf bl li nx be tk er ea pe ne ors oc o)) (hS : va_S (lwA s) s.heap H []) (hl : lv_has ls 9 [(0, .ref b), (1, .ref q1), (2, .ref q2), (3, .ref qo), (4, .int (nI i))]) (KK : lwKK p l e s m below meth c G ca Z b q1 a q2 d qo cells slots i v Q) :
    W p l e room_1 s m #[.ref b] below meth c H [] cells slots Q (F0 m 1639 ls []) := by
  obtain ⟨⟨⟨hx, hb, hml, hown, htU⟩, hK, hX, hY, hA⟩, hXs, hbl, hL, hfl⟩ := id C
  have Cx := C.1
  have hcR : ∀ j, j ≤ 2 → cells + j ≤ room_1.cells := fun j hj => by show _ ≤ 601024; omega
  have hsR : ∀ j, j ≤ 12 → slots + j ≤ room_1.slots := fun j hj => by show _ ≤ 7293033; omega
  obtain ⟨⟨w, ns, R, k, D, hC⟩, hv, hH, hN, hB, hF⟩ := hRL
  obtain ⟨r0, S1, b1, en1, ow1, th1, tm1, z1, z2, z3, z4⟩ := Q_gives hC (xs (i + 1)) en ow tm th
  refine lv_aload_n hx hb dL_law_1639 rfl (lv_at hl 1 rfl) ?_
  refine lw_arg C hS (lv_at hl 0 rfl) (lv_at hl 4 rfl) (k := 1) (by decide) hil dL_law_1640 dL_law_1641 dL_law_1643 dL_law_1644 dL_law_1645 ?_
  refine lv_aload_n hx hb dL_law_1646 rfl (lv_at hl 3 rfl) ?_
  refine lw_i (sw_runH (As := [.ref q1, .int (xs (i + 1)), .ref qo]) (rest := []) Cx hP hD hS mh_L_gives ml_L_235 (c_L_gives l hfl G ca Z q1 (a 0) (a 2) (a 38) (a 40) (a 39) (.ref (a 3)) (.ref (a 6)) (.ref (a 9)) (.int (bI hs)) (.ref (a 12)) (.ref (a 41)) (.ref (a 43)) (.ref (a 44)) (.ref (a 48)) (.ref (a 50)) (.int pe) (.ref (a 1)) qo H.size (xs (i + 1)) P S o (r0, S1) z1 (fun k9 e9 => by have := agk z4 k9 e9; omega)) [0, 1, 3, 39, 41, 40, 67] rfl rfl rfl rfl ⟨(Nat.le_of_ble_eq_true rfl), (Nat.le_of_ble_eq_true rfl)⟩ hl.1 rfl rfl (Nat.le_of_ble_eq_true rfl) dL_law_1647 ⟨hcR 1 (by decide), hsR 6 (by decide)⟩) hP hD hS hA [0, 1, 3, 39, 41, 40, 67] [1, 2, 0, 3, 0, 0, 0, 0, 0, 0, 0, 0, 0, 0, 0, 0, 0, 0, 0, 0, 0, 0, 0, 0, 0, 0, 0, 0, 0, 0, 0, 0, 0, 0, 0, 0, 0, 0, 0, 4, 6, 5, 0, 0, 0, 0, 0, 0, 0, 0, 0, 0, 0, 0, 0, 0, 0, 0, 0, 0, 0, 0, 0, 0, 0, 0, 0, 7] rfl (fun _ => rfl) rfl (by decide +kernel) (fun r1 u9 H locs hw hP hD hS => ?_)
  obtain ⟨hw1, rfl⟩ := hw
  have hP : va_P G vwCl (LW ca Z q1 a q2 d qo P Bf Dr Sn hs t S1 sc rd sr sh ac pe now dr kp sn hi ac u th hs ow tm en od fm fl bf bl li nx be tk er ea pe ne ors oc (((wr1 r0 o).2))) H := hP
  have hD : va_D (lwA s) (LW ca Z q1 a q2 d qo P Bf Dr Sn hs t S1 sc rd sr sh ac pe now dr kp sn hi ac u th hs ow tm en od fm fl bf bl li nx be tk er ea pe ne ors oc (((wr1 r0 o).2))) := hD
  refine lv_istore (lv' := (5, .int r1) :: [(0, .ref b), (1, .ref q1), (2, .ref q2), (3, .ref qo), (4, .int (nI i))]) hx hb dL_law_1650 hl (by decide) rfl (fun ls hl => ?_)
  refine lv_aload_n hx hb dL_law_1652 rfl (lv_at hl 3 rfl) ?_
  refine lw_arg C hS (lv_at hl 1 rfl) (lv_at hl 5 rfl) (k := 1) (by decide) hil dL_law_1653 dL_law_1654 dL_law_1656 dL_law_1657 dL_law_1658 ?_
  refine lw_i (sw_runV (As := [.int (xs (i + 1))]) (rest := []) Cx hP hD hS mv_X11_gives ml_L_237 (c_X11_gives l G ca Z q2 (d 7) (d 0) (d 8) (d 6) (.ref (d 0)) (.ref (d 1)) (.ref (d 2)) (.ref (d 3)) (.ref (d 4)) (.ref (d 5)) (.int u) (.int (bI hs)) (.ref (d 9)) (.ref (d 10)) (.int fl) (.ref (d 11)) (.int bl) (.int li) (.int nx) (.int be) (.int tk) (.int er) (.int ea) (.int pe) (.int ne) (.ref (d 12)) (.ref (d 13)) (.int oc) H.size (xs (i + 1)) en ow now th tm (b1, (en1, ow1, th1, tm1)) z3) 8 rfl rfl rfl [52, 60, 53, 61, 59] rfl rfl rfl rfl ⟨(Nat.le_of_ble_eq_true rfl), (Nat.le_of_ble_eq_true rfl)⟩ hl.1 rfl rfl (Nat.le_of_ble_eq_true rfl) dL_law_1659 ⟨hcR 1 (by decide), hsR 6 (by decide)⟩) hP hD hS hA [52, 60, 53, 61, 59] [0, 0, 0, 0, 0, 0, 0, 0, 0, 0, 0, 0, 0, 0, 0, 0, 0, 0, 0, 0, 0, 0, 0, 0, 0, 0, 0, 0, 0, 0, 0, 0, 0, 0, 0, 0, 0, 0, 0, 0, 0, 0, 0, 0, 0, 0, 0, 0, 0, 0, 0, 0, 1, 3, 0, 0, 0, 0, 0, 5, 2, 4, 0, 0, 0, 0, 0, 0] rfl (fun _ => rfl) rfl (by decide +kernel) (fun r2 u9 H locs hw hP hD hS => ?_)
  obtain ⟨hw2, rfl⟩ := hw
  have hP : va_P G vwCl (LW ca Z q1 a q2 d qo P Bf Dr Sn hs t S1 sc rd sr sh ac pe now dr kp sn hi ac u th1 hs ow1 tm1 en1 od fm fl bf bl li nx be tk er ea pe ne ors oc (((wr1 r0 o).2))) H := hP
  have hD : va_D (lwA s) (LW ca Z q1 a q2 d qo P Bf Dr Sn hs t S1 sc rd sr sh ac pe now dr kp sn hi ac u th1 hs ow1 tm1 en1 od fm fl bf bl li nx be tk er ea pe ne ors oc (((wr1 r0 o).2))) := hD
  refine lv_istore (lv' := (6, .int r2) :: (5, .int r1) :: [(0, .ref b), (1, .ref q1), (2, .ref q2), (3, .ref qo), (4, .int (nI i))]) hx hb dL_law_1662 hl (by decide) rfl (fun ls hl => ?_)
  refine lv_aload_n hx hb dL_law_1664 rfl (lv_at hl 4 rfl) ?_
  refine lw_i (sw_runV (As := []) (rest := []) Cx hP hD hS mv_X11_thrown ml_L_105 (c_X11_thrown l G ca Z q2 (.ref (d 0)) (.ref (d 1)) (.ref (d 2)) (.ref (d 3)) (.ref (d 4)) (.ref (d 5)) (.ref (d 6)) (.ref (d 0)) (.int u) (.int (bI hs)) (.ref (d 7)) (.ref (d 8)) (.int en1) (.ref (d 9)) (.ref (d 10)) (.int fl) (.ref (d 11)) (.int bl) (.int li) (.int nx) (.int be) (.int tk) (.int er) (.int ea) (.int pe) (.int ne) (.ref (d 12)) (.ref (d 13)) (.int oc) H.size th1 th1 rfl) 8 rfl rfl rfl [52] rfl rfl rfl rfl ⟨(Nat.le_of_ble_eq_true rfl), (Nat.le_of_ble_eq_true rfl)⟩ hl.1 rfl rfl (Nat.le_of_ble_eq_true rfl) dL_law_1665 ⟨hcR 1 (by decide), hsR 6 (by decide)⟩) hP hD hS hA [52] [0, 0, 0, 0, 0, 0, 0, 0, 0, 0, 0, 0, 0, 0, 0, 0, 0, 0, 0, 0, 0, 0, 0, 0, 0, 0, 0, 0, 0, 0, 0, 0, 0, 0, 0, 0, 0, 0, 0, 0, 0, 0, 0, 0, 0, 0, 0, 0, 0, 0, 0, 0, 1, 0, 0, 0, 0, 0, 0, 0, 0, 0, 0, 0, 0, 0, 0, 0] rfl (fun _ => rfl) rfl (by decide +kernel) (fun r3 u9 H locs hw hP hD hS => ?_)
  have hw3 : th1 = r3 := hw
  have hP : va_P G vwCl (LW ca Z q1 a q2 d qo P Bf Dr Sn hs t S1 sc rd sr sh ac pe now dr kp sn hi ac u th1 hs ow1 tm1 en1 od fm fl bf bl li nx be tk er ea pe ne ors oc (((wr1 r0 o).2))) H := hP
  have hD : va_D (lwA s) (LW ca Z q1 a q2 d qo P Bf Dr Sn hs t S1 sc rd sr sh ac pe now dr kp sn hi ac u th1 hs ow1 tm1 en1 od fm fl bf bl li nx be tk er ea pe ne ors oc (((wr1 r0 o).2))) := hD
  have hag := agw1 (o := o) z4
  refine lw_tail (q0 := 67) C hP rfl (lv_at hl 5 rfl) (lv_at hl 1 rfl) (lv_at hl 0 rfl) (hw1.symm.trans (hag.1.trans hw3)) (fun z9 => by rw [← hw2]; exact hag.2 (hw3.trans z9)) dL_law_1668 dL_law_1670 (by decide) dL_law_1675 dL_law_1677 (by decide) dL_law_1680 dL_law_1681 dL_law_1682 dL_law_1683 dL_law_1685 dL_law_1686 dL_law_1687 (by decide) dL_law_1692 (by decide) ?_
  refine va_forget hS.2.2 ?_
  refine W.widen (k := cells + 2) (n := slots + 12) (by omega) (by omega) ?_
  exact KK v P Bf Dr Sn hs t S1 sc rd sr sh ac pe now dr kp sn hi u th1 ow1 tm1 en1 od fm fl bf bl li nx be tk er ea ne ors oc ((wr1 r0 o).2) H ls (by omega) ⟨⟨w, ns, R, k, D, hC.1, hC.2.1, hC.2.2.1, z2⟩, hv, hH, hN, hB, hF⟩ hP hD (va_forg hS) (lv_sub hl [2, 3, 4, 5, 6] rfl)

set_option maxHeartbeats 1000000 in
set_option maxRecDepth 100000 in
theorem lc_37 (C : lwC p l s m meth c G ca Z b L xs) (hcl : cells + 2 ≤ 601024) (hsl : slots + 12 ≤ 7293033) (hil : i + 6 ≤ L) (hvv : v + 5000 < 2 ^ 31) (hRL : RLX v P Sn hs t S sc sh now sn hi u fm fl bf bl) (hP : va_P G vwCl (LW ca Z q1 a q2 d qo P Bf Dr Sn hs t S sc rd sr sh ac pe now dr kp sn hi ac u th hs ow tm en od fm fl bf bl li nx be tk er ea pe ne ors oc o) H) (hD : va_D (lwA s) (LW ca Z q1 a q2 d qo P Bf Dr Sn hs t S sc rd sr sh ac pe now dr kp sn hi ac u th hs ow tm en od fm fl bf bl li nx be tk er ea pe ne ors oc o)) (hS : va_S (lwA s) s.heap H []) (hl : lv_has ls 9 [(0, .ref b), (1, .ref q1), (2, .ref q2), (3, .ref qo), (4, .int (nI i))]) (KK : lwKK p l e s m below meth c G ca Z b q1 a q2 d qo cells slots i v Q) :
    W p l e room_1 s m #[.ref b] below meth c H [] cells slots Q (F0 m 1695 ls []) := by
  obtain ⟨⟨⟨hx, hb, hml, hown, htU⟩, hK, hX, hY, hA⟩, hXs, hbl, hL, hfl⟩ := id C
  have Cx := C.1
  have hcR : ∀ j, j ≤ 2 → cells + j ≤ room_1.cells := fun j hj => by show _ ≤ 601024; omega
  have hsR : ∀ j, j ≤ 12 → slots + j ≤ room_1.slots := fun j hj => by show _ ≤ 7293033; omega
  obtain ⟨⟨w, ns, R, k, D, hC⟩, hv, hH, hN, hB, hF⟩ := hRL
  obtain ⟨r0, S1, en1, ow1, th1, tm1, z1, z2, z3⟩ := Q_best hC  en ow tm th
  refine lv_aload_n hx hb dL_law_1695 rfl (lv_at hl 1 rfl) ?_
  refine lw_i (sw_runV (As := []) (rest := []) Cx hP hD hS mv_X10_best ml_L_238 (c_X10_best l G ca Z q1 (a 0) (a 2) (a 38) (a 40) (a 39) (.ref (a 3)) (.ref (a 6)) (.ref (a 9)) (.int (bI hs)) (.ref (a 12)) (.ref (a 41)) (.ref (a 43)) (.ref (a 44)) (.ref (a 48)) (.ref (a 50)) (.int pe) (.ref (a 1)) H.size  P S (r0, S1) z1) 7 rfl rfl rfl [0, 1, 3, 39, 41, 40] rfl rfl rfl rfl ⟨(Nat.le_of_ble_eq_true rfl), (Nat.le_of_ble_eq_true rfl)⟩ hl.1 rfl rfl (Nat.le_of_ble_eq_true rfl) dL_law_1696 ⟨hcR 0 (by decide), hsR 0 (by decide)⟩) hP hD hS hA [0, 1, 3, 39, 41, 40] [1, 2, 0, 3, 0, 0, 0, 0, 0, 0, 0, 0, 0, 0, 0, 0, 0, 0, 0, 0, 0, 0, 0, 0, 0, 0, 0, 0, 0, 0, 0, 0, 0, 0, 0, 0, 0, 0, 0, 4, 6, 5, 0, 0, 0, 0, 0, 0, 0, 0, 0, 0, 0, 0, 0, 0, 0, 0, 0, 0, 0, 0, 0, 0, 0, 0, 0, 0] rfl (fun _ => rfl) rfl (by decide +kernel) (fun r1 u9 H locs hw hP hD hS => ?_)
  obtain ⟨hw1, rfl⟩ := hw
  have hP : va_P G vwCl (LW ca Z q1 a q2 d qo P Bf Dr Sn hs t S1 sc rd sr sh ac pe now dr kp sn hi ac u th hs ow tm en od fm fl bf bl li nx be tk er ea pe ne ors oc o) H := hP
  have hD : va_D (lwA s) (LW ca Z q1 a q2 d qo P Bf Dr Sn hs t S1 sc rd sr sh ac pe now dr kp sn hi ac u th hs ow tm en od fm fl bf bl li nx be tk er ea pe ne ors oc o) := hD
  refine lv_aload_n hx hb dL_law_1699 rfl (lv_at hl 2 rfl) ?_
  refine lw_i (sw_runV (As := []) (rest := [.int r1]) Cx hP hD hS mv_X11_best ml_L_241 (c_X11_best l G ca Z q2 (d 7) (d 0) (d 8) (d 6) (.ref (d 0)) (.ref (d 1)) (.ref (d 2)) (.ref (d 3)) (.ref (d 4)) (.ref (d 5)) (.int u) (.int (bI hs)) (.ref (d 9)) (.ref (d 10)) (.int fl) (.ref (d 11)) (.int bl) (.int li) (.int nx) (.int be) (.int tk) (.int er) (.int ea) (.int pe) (.int ne) (.ref (d 12)) (.ref (d 13)) (.int oc) H.size  en ow now th tm (r0, (en1, ow1, th1, tm1)) z3) 8 rfl rfl rfl [52, 60, 53, 61, 59] rfl rfl rfl rfl ⟨(Nat.le_of_ble_eq_true rfl), (Nat.le_of_ble_eq_true rfl)⟩ hl.1 rfl rfl (Nat.le_of_ble_eq_true rfl) dL_law_1700 ⟨hcR 0 (by decide), hsR 0 (by decide)⟩) hP hD hS hA [52, 60, 53, 61, 59] [0, 0, 0, 0, 0, 0, 0, 0, 0, 0, 0, 0, 0, 0, 0, 0, 0, 0, 0, 0, 0, 0, 0, 0, 0, 0, 0, 0, 0, 0, 0, 0, 0, 0, 0, 0, 0, 0, 0, 0, 0, 0, 0, 0, 0, 0, 0, 0, 0, 0, 0, 0, 1, 3, 0, 0, 0, 0, 0, 5, 2, 4, 0, 0, 0, 0, 0, 0] rfl (fun _ => rfl) rfl (by decide +kernel) (fun r2 u9 H locs hw hP hD hS => ?_)
  obtain ⟨hw2, rfl⟩ := hw
  have hP : va_P G vwCl (LW ca Z q1 a q2 d qo P Bf Dr Sn hs t S1 sc rd sr sh ac pe now dr kp sn hi ac u th1 hs ow1 tm1 en1 od fm fl bf bl li nx be tk er ea pe ne ors oc o) H := hP
  have hD : va_D (lwA s) (LW ca Z q1 a q2 d qo P Bf Dr Sn hs t S1 sc rd sr sh ac pe now dr kp sn hi ac u th1 hs ow1 tm1 en1 od fm fl bf bl li nx be tk er ea pe ne ors oc o) := hD
  refine lv_icmp_eq (tgt := 2547) hx hb dL_law_1703 (by decide) (fun _ => ?_) (fun c9 => absurd (hw1.symm.trans hw2) c9)
  refine va_forget hS.2.2 ?_
  refine W.widen (k := cells + 2) (n := slots + 12) (by omega) (by omega) ?_
  exact KK v P Bf Dr Sn hs t S1 sc rd sr sh ac pe now dr kp sn hi u th1 ow1 tm1 en1 od fm fl bf bl li nx be tk er ea ne ors oc o H ls (by omega) ⟨⟨w, ns, R, k, D, hC.1, hC.2.1, hC.2.2.1, z2⟩, hv, hH, hN, hB, hF⟩ hP hD (va_forg hS) hl

set_option maxHeartbeats 1000000 in
set_option maxRecDepth 100000 in
theorem lc_38 (C : lwC p l s m meth c G ca Z b L xs) (hcl : cells + 2 ≤ 601024) (hsl : slots + 12 ≤ 7293033) (hil : i + 6 ≤ L) (hvv : v + 5000 < 2 ^ 31) (hRL : RLX v P Sn hs t S sc sh now sn hi u fm fl bf bl) (hP : va_P G vwCl (LW ca Z q1 a q2 d qo P Bf Dr Sn hs t S sc rd sr sh ac pe now dr kp sn hi ac u th hs ow tm en od fm fl bf bl li nx be tk er ea pe ne ors oc o) H) (hD : va_D (lwA s) (LW ca Z q1 a q2 d qo P Bf Dr Sn hs t S sc rd sr sh ac pe now dr kp sn hi ac u th hs ow tm en od fm fl bf bl li nx be tk er ea pe ne ors oc o)) (hS : va_S (lwA s) s.heap H []) (hl : lv_has ls 9 [(0, .ref b), (1, .ref q1), (2, .ref q2), (3, .ref qo), (4, .int (nI i))]) (KK : lwKK p l e s m below meth c G ca Z b q1 a q2 d qo cells slots i v Q) :
    W p l e room_1 s m #[.ref b] below meth c H [] cells slots Q (F0 m 1708 ls []) := by
  obtain ⟨⟨⟨hx, hb, hml, hown, htU⟩, hK, hX, hY, hA⟩, hXs, hbl, hL, hfl⟩ := id C
  have Cx := C.1
  have hcR : ∀ j, j ≤ 2 → cells + j ≤ room_1.cells := fun j hj => by show _ ≤ 601024; omega
  have hsR : ∀ j, j ≤ 12 → slots + j ≤ room_1.slots := fun j hj => by show _ ≤ 7293033; omega
  obtain ⟨⟨w, ns, R, k, D, hC⟩, hv, hH, hN, hB, hF⟩ := hRL
  obtain ⟨r0, b1, en1, ow1, th1, tm1, z1, z3, z4⟩ := Q_marksNext hC (xs (i + 1)) en ow tm th
  refine lv_aload_n hx hb dL_law_1708 rfl (lv_at hl 1 rfl) ?_
  refine lw_arg C hS (lv_at hl 0 rfl) (lv_at hl 4 rfl) (k := 1) (by decide) hil dL_law_1709 dL_law_1710 dL_law_1712 dL_law_1713 dL_law_1714 ?_
  refine lv_aload_n hx hb dL_law_1715 rfl (lv_at hl 3 rfl) ?_
  refine lw_i (sw_runH (As := [.ref q1, .int (xs (i + 1)), .ref qo]) (rest := []) Cx hP hD hS mh_L_marksNext ml_L_242 (c_L_marksNext l hfl G ca Z q1 (a 0) (a 2) (.ref (a 3)) (.ref (a 6)) (.ref (a 9)) (.int (bI hs)) (.ref (a 12)) (.ref (a 38)) (.ref (a 41)) (.ref (a 43)) (.ref (a 44)) (.ref (a 48)) (.ref (a 50)) (.int pe) (.ref (a 1)) qo H.size (xs (i + 1)) P o r0 z1 (agk z4)) [0, 1, 3, 67] rfl rfl rfl rfl ⟨(Nat.le_of_ble_eq_true rfl), (Nat.le_of_ble_eq_true rfl)⟩ hl.1 rfl rfl (Nat.le_of_ble_eq_true rfl) dL_law_1716 ⟨hcR 1 (by decide), hsR 6 (by decide)⟩) hP hD hS hA [0, 1, 3, 67] [1, 2, 0, 3, 0, 0, 0, 0, 0, 0, 0, 0, 0, 0, 0, 0, 0, 0, 0, 0, 0, 0, 0, 0, 0, 0, 0, 0, 0, 0, 0, 0, 0, 0, 0, 0, 0, 0, 0, 0, 0, 0, 0, 0, 0, 0, 0, 0, 0, 0, 0, 0, 0, 0, 0, 0, 0, 0, 0, 0, 0, 0, 0, 0, 0, 0, 0, 4] rfl (fun _ => rfl) rfl (by decide +kernel) (fun r1 u9 H locs hw hP hD hS => ?_)
  obtain ⟨hw1, rfl⟩ := hw
  have hP : va_P G vwCl (LW ca Z q1 a q2 d qo P Bf Dr Sn hs t S sc rd sr sh ac pe now dr kp sn hi ac u th hs ow tm en od fm fl bf bl li nx be tk er ea pe ne ors oc (((wr1 r0 o).2))) H := hP
  have hD : va_D (lwA s) (LW ca Z q1 a q2 d qo P Bf Dr Sn hs t S sc rd sr sh ac pe now dr kp sn hi ac u th hs ow tm en od fm fl bf bl li nx be tk er ea pe ne ors oc (((wr1 r0 o).2))) := hD
  refine lv_istore (lv' := (5, .int r1) :: [(0, .ref b), (1, .ref q1), (2, .ref q2), (3, .ref qo), (4, .int (nI i))]) hx hb dL_law_1719 hl (by decide) rfl (fun ls hl => ?_)
  refine lv_aload_n hx hb dL_law_1721 rfl (lv_at hl 3 rfl) ?_
  refine lw_arg C hS (lv_at hl 1 rfl) (lv_at hl 5 rfl) (k := 1) (by decide) hil dL_law_1722 dL_law_1723 dL_law_1725 dL_law_1726 dL_law_1727 ?_
  refine lw_i (sw_runV (As := [.int (xs (i + 1))]) (rest := []) Cx hP hD hS mv_X11_marksNext ml_L_244 (c_X11_marksNext l G ca Z q2 (d 7) (d 0) (d 8) (d 6) (.ref (d 0)) (.ref (d 1)) (.ref (d 2)) (.ref (d 3)) (.ref (d 4)) (.ref (d 5)) (.int u) (.int (bI hs)) (.ref (d 9)) (.ref (d 10)) (.int fl) (.ref (d 11)) (.int bl) (.int li) (.int nx) (.int be) (.int tk) (.int er) (.int ea) (.int pe) (.int ne) (.ref (d 12)) (.ref (d 13)) (.int oc) H.size (xs (i + 1)) en ow now th tm (b1, (en1, ow1, th1, tm1)) z3) 8 rfl rfl rfl [52, 60, 53, 61, 59] rfl rfl rfl rfl ⟨(Nat.le_of_ble_eq_true rfl), (Nat.le_of_ble_eq_true rfl)⟩ hl.1 rfl rfl (Nat.le_of_ble_eq_true rfl) dL_law_1728 ⟨hcR 1 (by decide), hsR 6 (by decide)⟩) hP hD hS hA [52, 60, 53, 61, 59] [0, 0, 0, 0, 0, 0, 0, 0, 0, 0, 0, 0, 0, 0, 0, 0, 0, 0, 0, 0, 0, 0, 0, 0, 0, 0, 0, 0, 0, 0, 0, 0, 0, 0, 0, 0, 0, 0, 0, 0, 0, 0, 0, 0, 0, 0, 0, 0, 0, 0, 0, 0, 1, 3, 0, 0, 0, 0, 0, 5, 2, 4, 0, 0, 0, 0, 0, 0] rfl (fun _ => rfl) rfl (by decide +kernel) (fun r2 u9 H locs hw hP hD hS => ?_)
  obtain ⟨hw2, rfl⟩ := hw
  have hP : va_P G vwCl (LW ca Z q1 a q2 d qo P Bf Dr Sn hs t S sc rd sr sh ac pe now dr kp sn hi ac u th1 hs ow1 tm1 en1 od fm fl bf bl li nx be tk er ea pe ne ors oc (((wr1 r0 o).2))) H := hP
  have hD : va_D (lwA s) (LW ca Z q1 a q2 d qo P Bf Dr Sn hs t S sc rd sr sh ac pe now dr kp sn hi ac u th1 hs ow1 tm1 en1 od fm fl bf bl li nx be tk er ea pe ne ors oc (((wr1 r0 o).2))) := hD
  refine lv_istore (lv' := (6, .int r2) :: (5, .int r1) :: [(0, .ref b), (1, .ref q1), (2, .ref q2), (3, .ref qo), (4, .int (nI i))]) hx hb dL_law_1731 hl (by decide) rfl (fun ls hl => ?_)
  refine lv_aload_n hx hb dL_law_1733 rfl (lv_at hl 4 rfl) ?_
  refine lw_i (sw_runV (As := []) (rest := []) Cx hP hD hS mv_X11_thrown ml_L_105 (c_X11_thrown l G ca Z q2 (.ref (d 0)) (.ref (d 1)) (.ref (d 2)) (.ref (d 3)) (.ref (d 4)) (.ref (d 5)) (.ref (d 6)) (.ref (d 0)) (.int u) (.int (bI hs)) (.ref (d 7)) (.ref (d 8)) (.int en1) (.ref (d 9)) (.ref (d 10)) (.int fl) (.ref (d 11)) (.int bl) (.int li) (.int nx) (.int be) (.int tk) (.int er) (.int ea) (.int pe) (.int ne) (.ref (d 12)) (.ref (d 13)) (.int oc) H.size th1 th1 rfl) 8 rfl rfl rfl [52] rfl rfl rfl rfl ⟨(Nat.le_of_ble_eq_true rfl), (Nat.le_of_ble_eq_true rfl)⟩ hl.1 rfl rfl (Nat.le_of_ble_eq_true rfl) dL_law_1734 ⟨hcR 1 (by decide), hsR 6 (by decide)⟩) hP hD hS hA [52] [0, 0, 0, 0, 0, 0, 0, 0, 0, 0, 0, 0, 0, 0, 0, 0, 0, 0, 0, 0, 0, 0, 0, 0, 0, 0, 0, 0, 0, 0, 0, 0, 0, 0, 0, 0, 0, 0, 0, 0, 0, 0, 0, 0, 0, 0, 0, 0, 0, 0, 0, 0, 1, 0, 0, 0, 0, 0, 0, 0, 0, 0, 0, 0, 0, 0, 0, 0] rfl (fun _ => rfl) rfl (by decide +kernel) (fun r3 u9 H locs hw hP hD hS => ?_)
  have hw3 : th1 = r3 := hw
  have hP : va_P G vwCl (LW ca Z q1 a q2 d qo P Bf Dr Sn hs t S sc rd sr sh ac pe now dr kp sn hi ac u th1 hs ow1 tm1 en1 od fm fl bf bl li nx be tk er ea pe ne ors oc (((wr1 r0 o).2))) H := hP
  have hD : va_D (lwA s) (LW ca Z q1 a q2 d qo P Bf Dr Sn hs t S sc rd sr sh ac pe now dr kp sn hi ac u th1 hs ow1 tm1 en1 od fm fl bf bl li nx be tk er ea pe ne ors oc (((wr1 r0 o).2))) := hD
  have hag := agw1 (o := o) z4
  refine lw_tail (q0 := 67) C hP rfl (lv_at hl 5 rfl) (lv_at hl 1 rfl) (lv_at hl 0 rfl) (hw1.symm.trans (hag.1.trans hw3)) (fun z9 => by rw [← hw2]; exact hag.2 (hw3.trans z9)) dL_law_1737 dL_law_1739 (by decide) dL_law_1744 dL_law_1746 (by decide) dL_law_1749 dL_law_1750 dL_law_1751 dL_law_1752 dL_law_1754 dL_law_1755 dL_law_1756 (by decide) dL_law_1761 (by decide) ?_
  refine va_forget hS.2.2 ?_
  refine W.widen (k := cells + 2) (n := slots + 12) (by omega) (by omega) ?_
  exact KK v P Bf Dr Sn hs t S sc rd sr sh ac pe now dr kp sn hi u th1 ow1 tm1 en1 od fm fl bf bl li nx be tk er ea ne ors oc ((wr1 r0 o).2) H ls (by omega) ⟨⟨w, ns, R, k, D, hC⟩, hv, hH, hN, hB, hF⟩ hP hD (va_forg hS) (lv_sub hl [2, 3, 4, 5, 6] rfl)

set_option maxHeartbeats 1000000 in
set_option maxRecDepth 100000 in
theorem lc_39 (C : lwC p l s m meth c G ca Z b L xs) (hcl : cells + 2 ≤ 601024) (hsl : slots + 12 ≤ 7293033) (hil : i + 6 ≤ L) (hvv : v + 5000 < 2 ^ 31) (hRL : RLX v P Sn hs t S sc sh now sn hi u fm fl bf bl) (hP : va_P G vwCl (LW ca Z q1 a q2 d qo P Bf Dr Sn hs t S sc rd sr sh ac pe now dr kp sn hi ac u th hs ow tm en od fm fl bf bl li nx be tk er ea pe ne ors oc o) H) (hD : va_D (lwA s) (LW ca Z q1 a q2 d qo P Bf Dr Sn hs t S sc rd sr sh ac pe now dr kp sn hi ac u th hs ow tm en od fm fl bf bl li nx be tk er ea pe ne ors oc o)) (hS : va_S (lwA s) s.heap H []) (hl : lv_has ls 9 [(0, .ref b), (1, .ref q1), (2, .ref q2), (3, .ref qo), (4, .int (nI i))]) (KK : lwKK p l e s m below meth c G ca Z b q1 a q2 d qo cells slots i v Q) :
    W p l e room_1 s m #[.ref b] below meth c H [] cells slots Q (F0 m 1764 ls []) := by
  obtain ⟨⟨⟨hx, hb, hml, hown, htU⟩, hK, hX, hY, hA⟩, hXs, hbl, hL, hfl⟩ := id C
  have Cx := C.1
  have hcR : ∀ j, j ≤ 2 → cells + j ≤ room_1.cells := fun j hj => by show _ ≤ 601024; omega
  have hsR : ∀ j, j ≤ 12 → slots + j ≤ room_1.slots := fun j hj => by show _ ≤ 7293033; omega
  obtain ⟨⟨w, ns, R, k, D, hC⟩, hv, hH, hN, hB, hF⟩ := hRL
  obtain ⟨r0, en1, ow1, th1, tm1, z1, z3⟩ := Q_leastWheel hC en ow tm th
  refine lv_aload_n hx hb dL_law_1764 rfl (lv_at hl 1 rfl) ?_
  refine lw_i (sw_runV (As := []) (rest := []) Cx hP hD hS mv_X10_leastWheel ml_L_245 (c_X10_leastWheel l G ca Z q1 (a 0) (a 2) (.ref (a 3)) (.ref (a 6)) (.ref (a 9)) (.int (bI hs)) (.ref (a 12)) (.ref (a 38)) (.ref (a 41)) (.ref (a 43)) (.ref (a 44)) (.ref (a 48)) (.ref (a 50)) (.int pe) (.ref (a 1)) H.size  P r0 z1) 7 rfl rfl rfl [0, 1, 3] rfl rfl rfl rfl ⟨(Nat.le_of_ble_eq_true rfl), (Nat.le_of_ble_eq_true rfl)⟩ hl.1 rfl rfl (Nat.le_of_ble_eq_true rfl) dL_law_1765 ⟨hcR 0 (by decide), hsR 0 (by decide)⟩) hP hD hS hA [0, 1, 3] [1, 2, 0, 3, 0, 0, 0, 0, 0, 0, 0, 0, 0, 0, 0, 0, 0, 0, 0, 0, 0, 0, 0, 0, 0, 0, 0, 0, 0, 0, 0, 0, 0, 0, 0, 0, 0, 0, 0, 0, 0, 0, 0, 0, 0, 0, 0, 0, 0, 0, 0, 0, 0, 0, 0, 0, 0, 0, 0, 0, 0, 0, 0, 0, 0, 0, 0, 0] rfl (fun _ => rfl) rfl (by decide +kernel) (fun r1 u9 H locs hw hP hD hS => ?_)
  have hw1 := hw
  have hP : va_P G vwCl (LW ca Z q1 a q2 d qo P Bf Dr Sn hs t S sc rd sr sh ac pe now dr kp sn hi ac u th hs ow tm en od fm fl bf bl li nx be tk er ea pe ne ors oc o) H := hP
  have hD : va_D (lwA s) (LW ca Z q1 a q2 d qo P Bf Dr Sn hs t S sc rd sr sh ac pe now dr kp sn hi ac u th hs ow tm en od fm fl bf bl li nx be tk er ea pe ne ors oc o) := hD
  refine lv_aload_n hx hb dL_law_1768 rfl (lv_at hl 2 rfl) ?_
  refine lw_i (sw_runV (As := []) (rest := [.int r1]) Cx hP hD hS mv_X11_leastWheel ml_L_248 (c_X11_leastWheel l G ca Z q2 (d 7) (d 0) (d 8) (d 6) (.ref (d 0)) (.ref (d 1)) (.ref (d 2)) (.ref (d 3)) (.ref (d 4)) (.ref (d 5)) (.int u) (.int (bI hs)) (.ref (d 9)) (.ref (d 10)) (.int fl) (.ref (d 11)) (.int bl) (.int li) (.int nx) (.int be) (.int tk) (.int er) (.int ea) (.int pe) (.int ne) (.ref (d 12)) (.ref (d 13)) (.int oc) H.size  en ow now th tm (r0, (en1, ow1, now, th1, tm1)) z3) 8 rfl rfl rfl [52, 60, 53, 61, 59] rfl rfl rfl rfl ⟨(Nat.le_of_ble_eq_true rfl), (Nat.le_of_ble_eq_true rfl)⟩ hl.1 rfl rfl (Nat.le_of_ble_eq_true rfl) dL_law_1769 ⟨hcR 0 (by decide), hsR 0 (by decide)⟩) hP hD hS hA [52, 60, 53, 61, 59] [0, 0, 0, 0, 0, 0, 0, 0, 0, 0, 0, 0, 0, 0, 0, 0, 0, 0, 0, 0, 0, 0, 0, 0, 0, 0, 0, 0, 0, 0, 0, 0, 0, 0, 0, 0, 0, 0, 0, 0, 0, 0, 0, 0, 0, 0, 0, 0, 0, 0, 0, 0, 1, 3, 0, 0, 0, 0, 0, 5, 2, 4, 0, 0, 0, 0, 0, 0] rfl (fun _ => rfl) rfl (by decide +kernel) (fun r2 u9 H locs hw hP hD hS => ?_)
  obtain ⟨hw2, rfl⟩ := hw
  have hP : va_P G vwCl (LW ca Z q1 a q2 d qo P Bf Dr Sn hs t S sc rd sr sh ac pe now dr kp sn hi ac u th1 hs ow1 tm1 en1 od fm fl bf bl li nx be tk er ea pe ne ors oc o) H := hP
  have hD : va_D (lwA s) (LW ca Z q1 a q2 d qo P Bf Dr Sn hs t S sc rd sr sh ac pe now dr kp sn hi ac u th1 hs ow1 tm1 en1 od fm fl bf bl li nx be tk er ea pe ne ors oc o) := hD
  refine lv_icmp_eq (tgt := 2547) hx hb dL_law_1772 (by decide) (fun _ => ?_) (fun c9 => absurd (hw1.symm.trans hw2) c9)
  refine va_forget hS.2.2 ?_
  refine W.widen (k := cells + 2) (n := slots + 12) (by omega) (by omega) ?_
  exact KK v P Bf Dr Sn hs t S sc rd sr sh ac pe now dr kp sn hi u th1 ow1 tm1 en1 od fm fl bf bl li nx be tk er ea ne ors oc o H ls (by omega) ⟨⟨w, ns, R, k, D, hC⟩, hv, hH, hN, hB, hF⟩ hP hD (va_forg hS) hl
end
