/-! ===== the law: cases 10 to 19 ===== -/
section
variable {p : Program} {l : Launch} {e : Env} {s : State} {m : MethodId} {below : List Frame} {meth : Method} {c : Code} {H : Heap} {cells slots : Nat} {Q : State → Prop} {G : va_G} {ca Z : Nat → Nat} {b L q1 q2 qo i v : Nat} {a d : Nat → Nat} {xs : Nat → Int32} {ls : Array Slot}
  {P : PlanT} {Bf : PlanT} {Dr : PlanT} {Sn : PlanT} {hs : Bool} {t : HistT} {S : SieveT} {sc : SrcT} {rd : ReadT} {sr : ScrT} {sh : SheetT} {ac : Nat → Int32} {pe : Int32} {now : Nat → Int32} {dr : Nat → Int32} {kp : Nat → Int32} {sn : Nat → Int32} {hi : Nat → Int32} {u : Int32} {th : Int32} {ow : Nat → Int32} {tm : Nat → Int32} {en : Int32} {od : Nat → Int32} {fm : Nat → Int32} {fl : Int32} {bf : Nat → Int32} {bl : Int32} {li : Int32} {nx : Int32} {be : Int32} {tk : Int32} {er : Int32} {ea : Int32} {ne : Int32} {ors : Nat → Int32} {oc : Int32} {o : Nat → Int64}
set_option maxHeartbeats 1000000 in
set_option maxRecDepth 100000 in
theorem lc_10 (C : lwC p l s m meth c G ca Z b L xs) (hcl : cells + 2 ≤ 601024) (hsl : slots + 12 ≤ 7293033) (hil : i + 6 ≤ L) (hvv : v + 5000 < 2 ^ 31) (hRL : RLX v P Sn hs t S sc sh now sn hi u fm fl bf bl) (hP : va_P G vwCl (LW ca Z q1 a q2 d qo P Bf Dr Sn hs t S sc rd sr sh ac pe now dr kp sn hi ac u th hs ow tm en od fm fl bf bl li nx be tk er ea pe ne ors oc o) H) (hD : va_D (lwA s) (LW ca Z q1 a q2 d qo P Bf Dr Sn hs t S sc rd sr sh ac pe now dr kp sn hi ac u th hs ow tm en od fm fl bf bl li nx be tk er ea pe ne ors oc o)) (hS : va_S (lwA s) s.heap H []) (hl : lv_has ls 9 [(0, .ref b), (1, .ref q1), (2, .ref q2), (3, .ref qo), (4, .int (nI i))]) (KK : lwKK p l e s m below meth c G ca Z b q1 a q2 d qo cells slots i v Q) :
    W p l e room_1 s m #[.ref b] below meth c H [] cells slots Q (F0 m 761 ls []) := by
  obtain ⟨⟨⟨hx, hb, hml, hown, htU⟩, hK, hX, hY, hA⟩, hXs, hbl, hL, hfl⟩ := id C
  have Cx := C.1
  have hcR : ∀ j, j ≤ 2 → cells + j ≤ room_1.cells := fun j hj => by show _ ≤ 601024; omega
  have hsR : ∀ j, j ≤ 12 → slots + j ≤ room_1.slots := fun j hj => by show _ ≤ 7293033; omega
  obtain ⟨⟨w, ns, R, k, D, hC⟩, hv, hH, hN, hB, hF⟩ := hRL
  obtain ⟨r0, S1, b1, en1, ow1, th1, tm1, z1, z2, z3, z4⟩ := Q_struck hC (xs (i + 1)) en ow tm th
  refine lv_aload_n hx hb dL_law_761 rfl (lv_at hl 1 rfl) ?_
  refine lw_arg C hS (lv_at hl 0 rfl) (lv_at hl 4 rfl) (k := 1) (by decide) hil dL_law_762 dL_law_763 dL_law_765 dL_law_766 dL_law_767 ?_
  refine lv_aload_n hx hb dL_law_768 rfl (lv_at hl 3 rfl) ?_
  refine lw_i (sw_runH (As := [.ref q1, .int (xs (i + 1)), .ref qo]) (rest := []) Cx hP hD hS mh_L_struck ml_L_138 (c_L_struck l hfl G ca Z q1 (a 0) (a 2) (a 38) (a 40) (a 39) (.ref (a 3)) (.ref (a 6)) (.ref (a 9)) (.int (bI hs)) (.ref (a 12)) (.ref (a 41)) (.ref (a 43)) (.ref (a 44)) (.ref (a 48)) (.ref (a 50)) (.int pe) (.ref (a 1)) qo H.size (xs (i + 1)) P S o (r0, S1) z1 (fun k9 e9 => by have := agk z4 k9 e9; omega)) [0, 1, 3, 39, 41, 40, 67] rfl rfl rfl rfl ⟨(Nat.le_of_ble_eq_true rfl), (Nat.le_of_ble_eq_true rfl)⟩ hl.1 rfl rfl (Nat.le_of_ble_eq_true rfl) dL_law_769 ⟨hcR 1 (by decide), hsR 6 (by decide)⟩) hP hD hS hA [0, 1, 3, 39, 41, 40, 67] [1, 2, 0, 3, 0, 0, 0, 0, 0, 0, 0, 0, 0, 0, 0, 0, 0, 0, 0, 0, 0, 0, 0, 0, 0, 0, 0, 0, 0, 0, 0, 0, 0, 0, 0, 0, 0, 0, 0, 4, 6, 5, 0, 0, 0, 0, 0, 0, 0, 0, 0, 0, 0, 0, 0, 0, 0, 0, 0, 0, 0, 0, 0, 0, 0, 0, 0, 7] rfl (fun _ => rfl) rfl (by decide +kernel) (fun r1 u9 H locs hw hP hD hS => ?_)
  obtain ⟨hw1, rfl⟩ := hw
  have hP : va_P G vwCl (LW ca Z q1 a q2 d qo P Bf Dr Sn hs t S1 sc rd sr sh ac pe now dr kp sn hi ac u th hs ow tm en od fm fl bf bl li nx be tk er ea pe ne ors oc (((wr1 r0 o).2))) H := hP
  have hD : va_D (lwA s) (LW ca Z q1 a q2 d qo P Bf Dr Sn hs t S1 sc rd sr sh ac pe now dr kp sn hi ac u th hs ow tm en od fm fl bf bl li nx be tk er ea pe ne ors oc (((wr1 r0 o).2))) := hD
  refine lv_istore (lv' := (5, .int r1) :: [(0, .ref b), (1, .ref q1), (2, .ref q2), (3, .ref qo), (4, .int (nI i))]) hx hb dL_law_772 hl (by decide) rfl (fun ls hl => ?_)
  refine lv_aload_n hx hb dL_law_774 rfl (lv_at hl 3 rfl) ?_
  refine lw_arg C hS (lv_at hl 1 rfl) (lv_at hl 5 rfl) (k := 1) (by decide) hil dL_law_775 dL_law_776 dL_law_778 dL_law_779 dL_law_780 ?_
  refine lw_i (sw_runV (As := [.int (xs (i + 1))]) (rest := []) Cx hP hD hS mv_X11_struck ml_L_140 (c_X11_struck l G ca Z q2 (d 7) (d 0) (d 8) (d 6) (.ref (d 0)) (.ref (d 1)) (.ref (d 2)) (.ref (d 3)) (.ref (d 4)) (.ref (d 5)) (.int u) (.int (bI hs)) (.ref (d 9)) (.ref (d 10)) (.int fl) (.ref (d 11)) (.int bl) (.int li) (.int nx) (.int be) (.int tk) (.int er) (.int ea) (.int pe) (.int ne) (.ref (d 12)) (.ref (d 13)) (.int oc) H.size (xs (i + 1)) en ow now th tm (b1, (en1, ow1, th1, tm1)) z3) 8 rfl rfl rfl [52, 60, 53, 61, 59] rfl rfl rfl rfl ⟨(Nat.le_of_ble_eq_true rfl), (Nat.le_of_ble_eq_true rfl)⟩ hl.1 rfl rfl (Nat.le_of_ble_eq_true rfl) dL_law_781 ⟨hcR 1 (by decide), hsR 6 (by decide)⟩) hP hD hS hA [52, 60, 53, 61, 59] [0, 0, 0, 0, 0, 0, 0, 0, 0, 0, 0, 0, 0, 0, 0, 0, 0, 0, 0, 0, 0, 0, 0, 0, 0, 0, 0, 0, 0, 0, 0, 0, 0, 0, 0, 0, 0, 0, 0, 0, 0, 0, 0, 0, 0, 0, 0, 0, 0, 0, 0, 0, 1, 3, 0, 0, 0, 0, 0, 5, 2, 4, 0, 0, 0, 0, 0, 0] rfl (fun _ => rfl) rfl (by decide +kernel) (fun r2 u9 H locs hw hP hD hS => ?_)
  obtain ⟨hw2, rfl⟩ := hw
  have hP : va_P G vwCl (LW ca Z q1 a q2 d qo P Bf Dr Sn hs t S1 sc rd sr sh ac pe now dr kp sn hi ac u th1 hs ow1 tm1 en1 od fm fl bf bl li nx be tk er ea pe ne ors oc (((wr1 r0 o).2))) H := hP
  have hD : va_D (lwA s) (LW ca Z q1 a q2 d qo P Bf Dr Sn hs t S1 sc rd sr sh ac pe now dr kp sn hi ac u th1 hs ow1 tm1 en1 od fm fl bf bl li nx be tk er ea pe ne ors oc (((wr1 r0 o).2))) := hD
  refine lv_istore (lv' := (6, .int r2) :: (5, .int r1) :: [(0, .ref b), (1, .ref q1), (2, .ref q2), (3, .ref qo), (4, .int (nI i))]) hx hb dL_law_784 hl (by decide) rfl (fun ls hl => ?_)
  refine lv_aload_n hx hb dL_law_786 rfl (lv_at hl 4 rfl) ?_
  refine lw_i (sw_runV (As := []) (rest := []) Cx hP hD hS mv_X11_thrown ml_L_105 (c_X11_thrown l G ca Z q2 (.ref (d 0)) (.ref (d 1)) (.ref (d 2)) (.ref (d 3)) (.ref (d 4)) (.ref (d 5)) (.ref (d 6)) (.ref (d 0)) (.int u) (.int (bI hs)) (.ref (d 7)) (.ref (d 8)) (.int en1) (.ref (d 9)) (.ref (d 10)) (.int fl) (.ref (d 11)) (.int bl) (.int li) (.int nx) (.int be) (.int tk) (.int er) (.int ea) (.int pe) (.int ne) (.ref (d 12)) (.ref (d 13)) (.int oc) H.size th1 th1 rfl) 8 rfl rfl rfl [52] rfl rfl rfl rfl ⟨(Nat.le_of_ble_eq_true rfl), (Nat.le_of_ble_eq_true rfl)⟩ hl.1 rfl rfl (Nat.le_of_ble_eq_true rfl) dL_law_787 ⟨hcR 1 (by decide), hsR 6 (by decide)⟩) hP hD hS hA [52] [0, 0, 0, 0, 0, 0, 0, 0, 0, 0, 0, 0, 0, 0, 0, 0, 0, 0, 0, 0, 0, 0, 0, 0, 0, 0, 0, 0, 0, 0, 0, 0, 0, 0, 0, 0, 0, 0, 0, 0, 0, 0, 0, 0, 0, 0, 0, 0, 0, 0, 0, 0, 1, 0, 0, 0, 0, 0, 0, 0, 0, 0, 0, 0, 0, 0, 0, 0] rfl (fun _ => rfl) rfl (by decide +kernel) (fun r3 u9 H locs hw hP hD hS => ?_)
  have hw3 : th1 = r3 := hw
  have hP : va_P G vwCl (LW ca Z q1 a q2 d qo P Bf Dr Sn hs t S1 sc rd sr sh ac pe now dr kp sn hi ac u th1 hs ow1 tm1 en1 od fm fl bf bl li nx be tk er ea pe ne ors oc (((wr1 r0 o).2))) H := hP
  have hD : va_D (lwA s) (LW ca Z q1 a q2 d qo P Bf Dr Sn hs t S1 sc rd sr sh ac pe now dr kp sn hi ac u th1 hs ow1 tm1 en1 od fm fl bf bl li nx be tk er ea pe ne ors oc (((wr1 r0 o).2))) := hD
  have hag := agw1 (o := o) z4
  refine lw_tail (q0 := 67) C hP rfl (lv_at hl 5 rfl) (lv_at hl 1 rfl) (lv_at hl 0 rfl) (hw1.symm.trans (hag.1.trans hw3)) (fun z9 => by rw [← hw2]; exact hag.2 (hw3.trans z9)) dL_law_790 dL_law_792 (by decide) dL_law_797 dL_law_799 (by decide) dL_law_802 dL_law_803 dL_law_804 dL_law_805 dL_law_807 dL_law_808 dL_law_809 (by decide) dL_law_814 (by decide) ?_
  refine va_forget hS.2.2 ?_
  refine W.widen (k := cells + 2) (n := slots + 12) (by omega) (by omega) ?_
  exact KK v P Bf Dr Sn hs t S1 sc rd sr sh ac pe now dr kp sn hi u th1 ow1 tm1 en1 od fm fl bf bl li nx be tk er ea ne ors oc ((wr1 r0 o).2) H ls (by omega) ⟨⟨w, ns, R, k, D, hC.1, hC.2.1, hC.2.2.1, z2⟩, hv, hH, hN, hB, hF⟩ hP hD (va_forg hS) (lv_sub hl [2, 3, 4, 5, 6] rfl)

set_option maxHeartbeats 1000000 in
set_option maxRecDepth 100000 in
theorem lc_11 (C : lwC p l s m meth c G ca Z b L xs) (hcl : cells + 2 ≤ 601024) (hsl : slots + 12 ≤ 7293033) (hil : i + 6 ≤ L) (hvv : v + 5000 < 2 ^ 31) (hRL : RLX v P Sn hs t S sc sh now sn hi u fm fl bf bl) (hP : va_P G vwCl (LW ca Z q1 a q2 d qo P Bf Dr Sn hs t S sc rd sr sh ac pe now dr kp sn hi ac u th hs ow tm en od fm fl bf bl li nx be tk er ea pe ne ors oc o) H) (hD : va_D (lwA s) (LW ca Z q1 a q2 d qo P Bf Dr Sn hs t S sc rd sr sh ac pe now dr kp sn hi ac u th hs ow tm en od fm fl bf bl li nx be tk er ea pe ne ors oc o)) (hS : va_S (lwA s) s.heap H []) (hl : lv_has ls 9 [(0, .ref b), (1, .ref q1), (2, .ref q2), (3, .ref qo), (4, .int (nI i))]) (KK : lwKK p l e s m below meth c G ca Z b q1 a q2 d qo cells slots i v Q) :
    W p l e room_1 s m #[.ref b] below meth c H [] cells slots Q (F0 m 817 ls []) := by
  obtain ⟨⟨⟨hx, hb, hml, hown, htU⟩, hK, hX, hY, hA⟩, hXs, hbl, hL, hfl⟩ := id C
  have Cx := C.1
  have hcR : ∀ j, j ≤ 2 → cells + j ≤ room_1.cells := fun j hj => by show _ ≤ 601024; omega
  have hsR : ∀ j, j ≤ 12 → slots + j ≤ room_1.slots := fun j hj => by show _ ≤ 7293033; omega
  obtain ⟨⟨w, ns, R, k, D, hC⟩, hv, hH, hN, hB, hF⟩ := hRL
  obtain ⟨r0, z1, z3⟩ := Q_spokeAt hC (xs (i + 1)) th
  refine lv_aload_n hx hb dL_law_817 rfl (lv_at hl 1 rfl) ?_
  refine lw_arg C hS (lv_at hl 0 rfl) (lv_at hl 4 rfl) (k := 1) (by decide) hil dL_law_818 dL_law_819 dL_law_821 dL_law_822 dL_law_823 ?_
  refine lw_i (sw_runV (As := [.int (xs (i + 1))]) (rest := []) Cx hP hD hS mv_X10_spokeAt ml_L_141 (c_X10_spokeAt l G ca Z q1 (a 0) (.ref (a 3)) (.ref (a 6)) (.ref (a 9)) (.int (bI hs)) (.ref (a 12)) (.ref (a 38)) (.ref (a 41)) (.ref (a 43)) (.ref (a 44)) (.ref (a 48)) (.ref (a 50)) (.int pe) (.ref (a 1)) (.ref (a 2)) H.size (xs (i + 1)) P r0 z1) 7 rfl rfl rfl [0, 1] rfl rfl rfl rfl ⟨(Nat.le_of_ble_eq_true rfl), (Nat.le_of_ble_eq_true rfl)⟩ hl.1 rfl rfl (Nat.le_of_ble_eq_true rfl) dL_law_824 ⟨hcR 0 (by decide), hsR 0 (by decide)⟩) hP hD hS hA [0, 1] [1, 2, 0, 0, 0, 0, 0, 0, 0, 0, 0, 0, 0, 0, 0, 0, 0, 0, 0, 0, 0, 0, 0, 0, 0, 0, 0, 0, 0, 0, 0, 0, 0, 0, 0, 0, 0, 0, 0, 0, 0, 0, 0, 0, 0, 0, 0, 0, 0, 0, 0, 0, 0, 0, 0, 0, 0, 0, 0, 0, 0, 0, 0, 0, 0, 0, 0, 0] rfl (fun _ => rfl) rfl (by decide +kernel) (fun r1 u9 H locs hw hP hD hS => ?_)
  have hw1 := hw
  have hP : va_P G vwCl (LW ca Z q1 a q2 d qo P Bf Dr Sn hs t S sc rd sr sh ac pe now dr kp sn hi ac u th hs ow tm en od fm fl bf bl li nx be tk er ea pe ne ors oc o) H := hP
  have hD : va_D (lwA s) (LW ca Z q1 a q2 d qo P Bf Dr Sn hs t S sc rd sr sh ac pe now dr kp sn hi ac u th hs ow tm en od fm fl bf bl li nx be tk er ea pe ne ors oc o) := hD
  refine lv_aload_n hx hb dL_law_827 rfl (lv_at hl 2 rfl) ?_
  refine lw_arg C hS (lv_at hl 0 rfl) (lv_at hl 4 rfl) (k := 1) (by decide) hil dL_law_828 dL_law_829 dL_law_831 dL_law_832 dL_law_833 ?_
  refine lw_i (sw_runV (As := [.int (xs (i + 1))]) (rest := [.int r1]) Cx hP hD hS mv_X11_spokeAt ml_L_144 (c_X11_spokeAt l G ca Z q2 (d 0) (d 6) (.ref (d 0)) (.ref (d 1)) (.ref (d 2)) (.ref (d 3)) (.ref (d 4)) (.ref (d 5)) (.int u) (.int (bI hs)) (.ref (d 7)) (.ref (d 8)) (.int en) (.ref (d 9)) (.ref (d 10)) (.int fl) (.ref (d 11)) (.int bl) (.int li) (.int nx) (.int be) (.int tk) (.int er) (.int ea) (.int pe) (.int ne) (.ref (d 12)) (.ref (d 13)) (.int oc) H.size (xs (i + 1)) now th (r0, 0) z3) 8 rfl rfl rfl [52, 53, 59] rfl rfl rfl rfl ⟨(Nat.le_of_ble_eq_true rfl), (Nat.le_of_ble_eq_true rfl)⟩ hl.1 rfl rfl (Nat.le_of_ble_eq_true rfl) dL_law_834 ⟨hcR 0 (by decide), hsR 0 (by decide)⟩) hP hD hS hA [52, 53, 59] [0, 0, 0, 0, 0, 0, 0, 0, 0, 0, 0, 0, 0, 0, 0, 0, 0, 0, 0, 0, 0, 0, 0, 0, 0, 0, 0, 0, 0, 0, 0, 0, 0, 0, 0, 0, 0, 0, 0, 0, 0, 0, 0, 0, 0, 0, 0, 0, 0, 0, 0, 0, 1, 2, 0, 0, 0, 0, 0, 3, 0, 0, 0, 0, 0, 0, 0, 0] rfl (fun _ => rfl) rfl (by decide +kernel) (fun r2 u9 H locs hw hP hD hS => ?_)
  obtain ⟨hw2, rfl⟩ := hw
  have hP : va_P G vwCl (LW ca Z q1 a q2 d qo P Bf Dr Sn hs t S sc rd sr sh ac pe now dr kp sn hi ac u 0 hs ow tm en od fm fl bf bl li nx be tk er ea pe ne ors oc o) H := hP
  have hD : va_D (lwA s) (LW ca Z q1 a q2 d qo P Bf Dr Sn hs t S sc rd sr sh ac pe now dr kp sn hi ac u 0 hs ow tm en od fm fl bf bl li nx be tk er ea pe ne ors oc o) := hD
  refine lv_icmp_eq (tgt := 2547) hx hb dL_law_837 (by decide) (fun _ => ?_) (fun c9 => absurd (hw1.symm.trans hw2) c9)
  refine va_forget hS.2.2 ?_
  refine W.widen (k := cells + 2) (n := slots + 12) (by omega) (by omega) ?_
  exact KK v P Bf Dr Sn hs t S sc rd sr sh ac pe now dr kp sn hi u 0 ow tm en od fm fl bf bl li nx be tk er ea ne ors oc o H ls (by omega) ⟨⟨w, ns, R, k, D, hC⟩, hv, hH, hN, hB, hF⟩ hP hD (va_forg hS) hl

set_option maxHeartbeats 1000000 in
set_option maxRecDepth 100000 in
theorem lc_12 (C : lwC p l s m meth c G ca Z b L xs) (hcl : cells + 2 ≤ 601024) (hsl : slots + 12 ≤ 7293033) (hil : i + 6 ≤ L) (hvv : v + 5000 < 2 ^ 31) (hRL : RLX v P Sn hs t S sc sh now sn hi u fm fl bf bl) (hP : va_P G vwCl (LW ca Z q1 a q2 d qo P Bf Dr Sn hs t S sc rd sr sh ac pe now dr kp sn hi ac u th hs ow tm en od fm fl bf bl li nx be tk er ea pe ne ors oc o) H) (hD : va_D (lwA s) (LW ca Z q1 a q2 d qo P Bf Dr Sn hs t S sc rd sr sh ac pe now dr kp sn hi ac u th hs ow tm en od fm fl bf bl li nx be tk er ea pe ne ors oc o)) (hS : va_S (lwA s) s.heap H []) (hl : lv_has ls 9 [(0, .ref b), (1, .ref q1), (2, .ref q2), (3, .ref qo), (4, .int (nI i))]) (KK : lwKK p l e s m below meth c G ca Z b q1 a q2 d qo cells slots i v Q) :
    W p l e room_1 s m #[.ref b] below meth c H [] cells slots Q (F0 m 842 ls []) := by
  obtain ⟨⟨⟨hx, hb, hml, hown, htU⟩, hK, hX, hY, hA⟩, hXs, hbl, hL, hfl⟩ := id C
  have Cx := C.1
  have hcR : ∀ j, j ≤ 2 → cells + j ≤ room_1.cells := fun j hj => by show _ ≤ 601024; omega
  have hsR : ∀ j, j ≤ 12 → slots + j ≤ room_1.slots := fun j hj => by show _ ≤ 7293033; omega
  obtain ⟨⟨w, ns, R, k, D, hC⟩, hv, hH, hN, hB, hF⟩ := hRL
  obtain ⟨r0, z1, z3⟩ := Q_spokeOf hC (xs (i + 1)) th
  refine lv_aload_n hx hb dL_law_842 rfl (lv_at hl 1 rfl) ?_
  refine lw_arg C hS (lv_at hl 0 rfl) (lv_at hl 4 rfl) (k := 1) (by decide) hil dL_law_843 dL_law_844 dL_law_846 dL_law_847 dL_law_848 ?_
  refine lw_i (sw_runV (As := [.int (xs (i + 1))]) (rest := []) Cx hP hD hS mv_X10_spokeOf ml_L_145 (c_X10_spokeOf l G ca Z q1 (a 0) (.ref (a 3)) (.ref (a 6)) (.ref (a 9)) (.int (bI hs)) (.ref (a 12)) (.ref (a 38)) (.ref (a 41)) (.ref (a 43)) (.ref (a 44)) (.ref (a 48)) (.ref (a 50)) (.int pe) (.ref (a 1)) (.ref (a 2)) H.size (xs (i + 1)) P r0 z1) 7 rfl rfl rfl [0, 1] rfl rfl rfl rfl ⟨(Nat.le_of_ble_eq_true rfl), (Nat.le_of_ble_eq_true rfl)⟩ hl.1 rfl rfl (Nat.le_of_ble_eq_true rfl) dL_law_849 ⟨hcR 0 (by decide), hsR 0 (by decide)⟩) hP hD hS hA [0, 1] [1, 2, 0, 0, 0, 0, 0, 0, 0, 0, 0, 0, 0, 0, 0, 0, 0, 0, 0, 0, 0, 0, 0, 0, 0, 0, 0, 0, 0, 0, 0, 0, 0, 0, 0, 0, 0, 0, 0, 0, 0, 0, 0, 0, 0, 0, 0, 0, 0, 0, 0, 0, 0, 0, 0, 0, 0, 0, 0, 0, 0, 0, 0, 0, 0, 0, 0, 0] rfl (fun _ => rfl) rfl (by decide +kernel) (fun r1 u9 H locs hw hP hD hS => ?_)
  have hw1 := hw
  have hP : va_P G vwCl (LW ca Z q1 a q2 d qo P Bf Dr Sn hs t S sc rd sr sh ac pe now dr kp sn hi ac u th hs ow tm en od fm fl bf bl li nx be tk er ea pe ne ors oc o) H := hP
  have hD : va_D (lwA s) (LW ca Z q1 a q2 d qo P Bf Dr Sn hs t S sc rd sr sh ac pe now dr kp sn hi ac u th hs ow tm en od fm fl bf bl li nx be tk er ea pe ne ors oc o) := hD
  refine lv_aload_n hx hb dL_law_852 rfl (lv_at hl 2 rfl) ?_
  refine lw_arg C hS (lv_at hl 0 rfl) (lv_at hl 4 rfl) (k := 1) (by decide) hil dL_law_853 dL_law_854 dL_law_856 dL_law_857 dL_law_858 ?_
  refine lw_i (sw_runV (As := [.int (xs (i + 1))]) (rest := [.int r1]) Cx hP hD hS mv_X11_spokeOf ml_L_148 (c_X11_spokeOf l G ca Z q2 (d 0) (d 6) (.ref (d 0)) (.ref (d 1)) (.ref (d 2)) (.ref (d 3)) (.ref (d 4)) (.ref (d 5)) (.int u) (.int (bI hs)) (.ref (d 7)) (.ref (d 8)) (.int en) (.ref (d 9)) (.ref (d 10)) (.int fl) (.ref (d 11)) (.int bl) (.int li) (.int nx) (.int be) (.int tk) (.int er) (.int ea) (.int pe) (.int ne) (.ref (d 12)) (.ref (d 13)) (.int oc) H.size (xs (i + 1)) now th (r0, 0) z3) 8 rfl rfl rfl [52, 53, 59] rfl rfl rfl rfl ⟨(Nat.le_of_ble_eq_true rfl), (Nat.le_of_ble_eq_true rfl)⟩ hl.1 rfl rfl (Nat.le_of_ble_eq_true rfl) dL_law_859 ⟨hcR 0 (by decide), hsR 0 (by decide)⟩) hP hD hS hA [52, 53, 59] [0, 0, 0, 0, 0, 0, 0, 0, 0, 0, 0, 0, 0, 0, 0, 0, 0, 0, 0, 0, 0, 0, 0, 0, 0, 0, 0, 0, 0, 0, 0, 0, 0, 0, 0, 0, 0, 0, 0, 0, 0, 0, 0, 0, 0, 0, 0, 0, 0, 0, 0, 0, 1, 2, 0, 0, 0, 0, 0, 3, 0, 0, 0, 0, 0, 0, 0, 0] rfl (fun _ => rfl) rfl (by decide +kernel) (fun r2 u9 H locs hw hP hD hS => ?_)
  obtain ⟨hw2, rfl⟩ := hw
  have hP : va_P G vwCl (LW ca Z q1 a q2 d qo P Bf Dr Sn hs t S sc rd sr sh ac pe now dr kp sn hi ac u 0 hs ow tm en od fm fl bf bl li nx be tk er ea pe ne ors oc o) H := hP
  have hD : va_D (lwA s) (LW ca Z q1 a q2 d qo P Bf Dr Sn hs t S sc rd sr sh ac pe now dr kp sn hi ac u 0 hs ow tm en od fm fl bf bl li nx be tk er ea pe ne ors oc o) := hD
  refine lv_icmp_eq (tgt := 2547) hx hb dL_law_862 (by decide) (fun _ => ?_) (fun c9 => absurd (hw1.symm.trans hw2) c9)
  refine va_forget hS.2.2 ?_
  refine W.widen (k := cells + 2) (n := slots + 12) (by omega) (by omega) ?_
  exact KK v P Bf Dr Sn hs t S sc rd sr sh ac pe now dr kp sn hi u 0 ow tm en od fm fl bf bl li nx be tk er ea ne ors oc o H ls (by omega) ⟨⟨w, ns, R, k, D, hC⟩, hv, hH, hN, hB, hF⟩ hP hD (va_forg hS) hl

set_option maxHeartbeats 1000000 in
set_option maxRecDepth 100000 in
theorem lc_13 (C : lwC p l s m meth c G ca Z b L xs) (hcl : cells + 2 ≤ 601024) (hsl : slots + 12 ≤ 7293033) (hil : i + 6 ≤ L) (hvv : v + 5000 < 2 ^ 31) (hRL : RLX v P Sn hs t S sc sh now sn hi u fm fl bf bl) (hP : va_P G vwCl (LW ca Z q1 a q2 d qo P Bf Dr Sn hs t S sc rd sr sh ac pe now dr kp sn hi ac u th hs ow tm en od fm fl bf bl li nx be tk er ea pe ne ors oc o) H) (hD : va_D (lwA s) (LW ca Z q1 a q2 d qo P Bf Dr Sn hs t S sc rd sr sh ac pe now dr kp sn hi ac u th hs ow tm en od fm fl bf bl li nx be tk er ea pe ne ors oc o)) (hS : va_S (lwA s) s.heap H []) (hl : lv_has ls 9 [(0, .ref b), (1, .ref q1), (2, .ref q2), (3, .ref qo), (4, .int (nI i))]) (KK : lwKK p l e s m below meth c G ca Z b q1 a q2 d qo cells slots i v Q) :
    W p l e room_1 s m #[.ref b] below meth c H [] cells slots Q (F0 m 867 ls []) := by
  obtain ⟨⟨⟨hx, hb, hml, hown, htU⟩, hK, hX, hY, hA⟩, hXs, hbl, hL, hfl⟩ := id C
  have Cx := C.1
  have hcR : ∀ j, j ≤ 2 → cells + j ≤ room_1.cells := fun j hj => by show _ ≤ 601024; omega
  have hsR : ∀ j, j ≤ 12 → slots + j ≤ room_1.slots := fun j hj => by show _ ≤ 7293033; omega
  obtain ⟨⟨w, ns, R, k, D, hC⟩, hv, hH, hN, hB, hF⟩ := hRL
  obtain ⟨r0, S1, b1, th1, z1, z2, z3, z4⟩ := Q_both hC (xs (i + 1)) (xs (i + 2)) th
  refine lv_aload_n hx hb dL_law_867 rfl (lv_at hl 1 rfl) ?_
  refine lw_arg C hS (lv_at hl 0 rfl) (lv_at hl 4 rfl) (k := 1) (by decide) hil dL_law_868 dL_law_869 dL_law_871 dL_law_872 dL_law_873 ?_
  refine lw_arg C hS (lv_at hl 0 rfl) (lv_at hl 4 rfl) (k := 2) (by decide) hil dL_law_874 dL_law_875 dL_law_877 dL_law_878 dL_law_879 ?_
  refine lv_aload_n hx hb dL_law_880 rfl (lv_at hl 3 rfl) ?_
  refine lw_i (sw_runH (As := [.ref q1, .int (xs (i + 1)), .int (xs (i + 2)), .ref qo]) (rest := []) Cx hP hD hS mh_L_both ml_L_149 (c_L_both l hfl G ca Z q1 (a 0) (a 2) (a 38) (a 40) (a 39) (.ref (a 3)) (.ref (a 6)) (.ref (a 9)) (.int (bI hs)) (.ref (a 12)) (.ref (a 41)) (.ref (a 43)) (.ref (a 44)) (.ref (a 48)) (.ref (a 50)) (.int pe) (.ref (a 1)) qo H.size (xs (i + 1)) (xs (i + 2)) P S o (r0, S1) z1 (fun k9 e9 => by have := agk z4 k9 e9; omega)) [0, 1, 3, 39, 41, 40, 67] rfl rfl rfl rfl ⟨(Nat.le_of_ble_eq_true rfl), (Nat.le_of_ble_eq_true rfl)⟩ hl.1 rfl rfl (Nat.le_of_ble_eq_true rfl) dL_law_881 ⟨hcR 2 (by decide), hsR 12 (by decide)⟩) hP hD hS hA [0, 1, 3, 39, 41, 40, 67] [1, 2, 0, 3, 0, 0, 0, 0, 0, 0, 0, 0, 0, 0, 0, 0, 0, 0, 0, 0, 0, 0, 0, 0, 0, 0, 0, 0, 0, 0, 0, 0, 0, 0, 0, 0, 0, 0, 0, 4, 6, 5, 0, 0, 0, 0, 0, 0, 0, 0, 0, 0, 0, 0, 0, 0, 0, 0, 0, 0, 0, 0, 0, 0, 0, 0, 0, 7] rfl (fun _ => rfl) rfl (by decide +kernel) (fun r1 u9 H locs hw hP hD hS => ?_)
  obtain ⟨hw1, rfl⟩ := hw
  have hP : va_P G vwCl (LW ca Z q1 a q2 d qo P Bf Dr Sn hs t S1 sc rd sr sh ac pe now dr kp sn hi ac u th hs ow tm en od fm fl bf bl li nx be tk er ea pe ne ors oc (((wr1 r0 o).2))) H := hP
  have hD : va_D (lwA s) (LW ca Z q1 a q2 d qo P Bf Dr Sn hs t S1 sc rd sr sh ac pe now dr kp sn hi ac u th hs ow tm en od fm fl bf bl li nx be tk er ea pe ne ors oc (((wr1 r0 o).2))) := hD
  refine lv_istore (lv' := (5, .int r1) :: [(0, .ref b), (1, .ref q1), (2, .ref q2), (3, .ref qo), (4, .int (nI i))]) hx hb dL_law_884 hl (by decide) rfl (fun ls hl => ?_)
  refine lv_aload_n hx hb dL_law_886 rfl (lv_at hl 3 rfl) ?_
  refine lw_arg C hS (lv_at hl 1 rfl) (lv_at hl 5 rfl) (k := 1) (by decide) hil dL_law_887 dL_law_888 dL_law_890 dL_law_891 dL_law_892 ?_
  refine lw_arg C hS (lv_at hl 1 rfl) (lv_at hl 5 rfl) (k := 2) (by decide) hil dL_law_893 dL_law_894 dL_law_896 dL_law_897 dL_law_898 ?_
  refine lw_i (sw_runV (As := [.int (xs (i + 1)), .int (xs (i + 2))]) (rest := []) Cx hP hD hS mv_X11_both ml_L_151 (c_X11_both l G ca Z q2 (d 0) (d 6) (.ref (d 0)) (.ref (d 1)) (.ref (d 2)) (.ref (d 3)) (.ref (d 4)) (.ref (d 5)) (.int u) (.int (bI hs)) (.ref (d 7)) (.ref (d 8)) (.int en) (.ref (d 9)) (.ref (d 10)) (.int fl) (.ref (d 11)) (.int bl) (.int li) (.int nx) (.int be) (.int tk) (.int er) (.int ea) (.int pe) (.int ne) (.ref (d 12)) (.ref (d 13)) (.int oc) H.size (xs (i + 1)) (xs (i + 2)) now th (b1, th1) z3) 8 rfl rfl rfl [52, 53, 59] rfl rfl rfl rfl ⟨(Nat.le_of_ble_eq_true rfl), (Nat.le_of_ble_eq_true rfl)⟩ hl.1 rfl rfl (Nat.le_of_ble_eq_true rfl) dL_law_899 ⟨hcR 2 (by decide), hsR 12 (by decide)⟩) hP hD hS hA [52, 53, 59] [0, 0, 0, 0, 0, 0, 0, 0, 0, 0, 0, 0, 0, 0, 0, 0, 0, 0, 0, 0, 0, 0, 0, 0, 0, 0, 0, 0, 0, 0, 0, 0, 0, 0, 0, 0, 0, 0, 0, 0, 0, 0, 0, 0, 0, 0, 0, 0, 0, 0, 0, 0, 1, 2, 0, 0, 0, 0, 0, 3, 0, 0, 0, 0, 0, 0, 0, 0] rfl (fun _ => rfl) rfl (by decide +kernel) (fun r2 u9 H locs hw hP hD hS => ?_)
  obtain ⟨hw2, rfl⟩ := hw
  have hP : va_P G vwCl (LW ca Z q1 a q2 d qo P Bf Dr Sn hs t S1 sc rd sr sh ac pe now dr kp sn hi ac u th1 hs ow tm en od fm fl bf bl li nx be tk er ea pe ne ors oc (((wr1 r0 o).2))) H := hP
  have hD : va_D (lwA s) (LW ca Z q1 a q2 d qo P Bf Dr Sn hs t S1 sc rd sr sh ac pe now dr kp sn hi ac u th1 hs ow tm en od fm fl bf bl li nx be tk er ea pe ne ors oc (((wr1 r0 o).2))) := hD
  refine lv_istore (lv' := (6, .int r2) :: (5, .int r1) :: [(0, .ref b), (1, .ref q1), (2, .ref q2), (3, .ref qo), (4, .int (nI i))]) hx hb dL_law_902 hl (by decide) rfl (fun ls hl => ?_)
  refine lv_aload_n hx hb dL_law_904 rfl (lv_at hl 4 rfl) ?_
  refine lw_i (sw_runV (As := []) (rest := []) Cx hP hD hS mv_X11_thrown ml_L_105 (c_X11_thrown l G ca Z q2 (.ref (d 0)) (.ref (d 1)) (.ref (d 2)) (.ref (d 3)) (.ref (d 4)) (.ref (d 5)) (.ref (d 6)) (.ref (d 0)) (.int u) (.int (bI hs)) (.ref (d 7)) (.ref (d 8)) (.int en) (.ref (d 9)) (.ref (d 10)) (.int fl) (.ref (d 11)) (.int bl) (.int li) (.int nx) (.int be) (.int tk) (.int er) (.int ea) (.int pe) (.int ne) (.ref (d 12)) (.ref (d 13)) (.int oc) H.size th1 th1 rfl) 8 rfl rfl rfl [52] rfl rfl rfl rfl ⟨(Nat.le_of_ble_eq_true rfl), (Nat.le_of_ble_eq_true rfl)⟩ hl.1 rfl rfl (Nat.le_of_ble_eq_true rfl) dL_law_905 ⟨hcR 2 (by decide), hsR 12 (by decide)⟩) hP hD hS hA [52] [0, 0, 0, 0, 0, 0, 0, 0, 0, 0, 0, 0, 0, 0, 0, 0, 0, 0, 0, 0, 0, 0, 0, 0, 0, 0, 0, 0, 0, 0, 0, 0, 0, 0, 0, 0, 0, 0, 0, 0, 0, 0, 0, 0, 0, 0, 0, 0, 0, 0, 0, 0, 1, 0, 0, 0, 0, 0, 0, 0, 0, 0, 0, 0, 0, 0, 0, 0] rfl (fun _ => rfl) rfl (by decide +kernel) (fun r3 u9 H locs hw hP hD hS => ?_)
  have hw3 : th1 = r3 := hw
  have hP : va_P G vwCl (LW ca Z q1 a q2 d qo P Bf Dr Sn hs t S1 sc rd sr sh ac pe now dr kp sn hi ac u th1 hs ow tm en od fm fl bf bl li nx be tk er ea pe ne ors oc (((wr1 r0 o).2))) H := hP
  have hD : va_D (lwA s) (LW ca Z q1 a q2 d qo P Bf Dr Sn hs t S1 sc rd sr sh ac pe now dr kp sn hi ac u th1 hs ow tm en od fm fl bf bl li nx be tk er ea pe ne ors oc (((wr1 r0 o).2))) := hD
  have hag := agw1 (o := o) z4
  refine lw_tail (q0 := 67) C hP rfl (lv_at hl 5 rfl) (lv_at hl 1 rfl) (lv_at hl 0 rfl) (hw1.symm.trans (hag.1.trans hw3)) (fun z9 => by rw [← hw2]; exact hag.2 (hw3.trans z9)) dL_law_908 dL_law_910 (by decide) dL_law_915 dL_law_917 (by decide) dL_law_920 dL_law_921 dL_law_922 dL_law_923 dL_law_925 dL_law_926 dL_law_927 (by decide) dL_law_932 (by decide) ?_
  refine va_forget hS.2.2 ?_
  refine W.widen (k := cells + 2) (n := slots + 12) (by omega) (by omega) ?_
  exact KK v P Bf Dr Sn hs t S1 sc rd sr sh ac pe now dr kp sn hi u th1 ow tm en od fm fl bf bl li nx be tk er ea ne ors oc ((wr1 r0 o).2) H ls (by omega) ⟨⟨w, ns, R, k, D, hC.1, hC.2.1, hC.2.2.1, z2⟩, hv, hH, hN, hB, hF⟩ hP hD (va_forg hS) (lv_sub hl [2, 3, 4, 5, 6] rfl)

set_option maxHeartbeats 1000000 in
set_option maxRecDepth 100000 in
theorem lc_14 (C : lwC p l s m meth c G ca Z b L xs) (hcl : cells + 2 ≤ 601024) (hsl : slots + 12 ≤ 7293033) (hil : i + 6 ≤ L) (hvv : v + 5000 < 2 ^ 31) (hRL : RLX v P Sn hs t S sc sh now sn hi u fm fl bf bl) (hP : va_P G vwCl (LW ca Z q1 a q2 d qo P Bf Dr Sn hs t S sc rd sr sh ac pe now dr kp sn hi ac u th hs ow tm en od fm fl bf bl li nx be tk er ea pe ne ors oc o) H) (hD : va_D (lwA s) (LW ca Z q1 a q2 d qo P Bf Dr Sn hs t S sc rd sr sh ac pe now dr kp sn hi ac u th hs ow tm en od fm fl bf bl li nx be tk er ea pe ne ors oc o)) (hS : va_S (lwA s) s.heap H []) (hl : lv_has ls 9 [(0, .ref b), (1, .ref q1), (2, .ref q2), (3, .ref qo), (4, .int (nI i))]) (KK : lwKK p l e s m below meth c G ca Z b q1 a q2 d qo cells slots i v Q) :
    W p l e room_1 s m #[.ref b] below meth c H [] cells slots Q (F0 m 935 ls []) := by
  obtain ⟨⟨⟨hx, hb, hml, hown, htU⟩, hK, hX, hY, hA⟩, hXs, hbl, hL, hfl⟩ := id C
  have Cx := C.1
  have hcR : ∀ j, j ≤ 2 → cells + j ≤ room_1.cells := fun j hj => by show _ ≤ 601024; omega
  have hsR : ∀ j, j ≤ 12 → slots + j ≤ room_1.slots := fun j hj => by show _ ≤ 7293033; omega
  obtain ⟨⟨w, ns, R, k, D, hC⟩, hv, hH, hN, hB, hF⟩ := hRL
  obtain ⟨r0, S1, b1, th1, z1, z2, z3, z4⟩ := Q_meet hC (xs (i + 1)) (xs (i + 2)) th
  refine lv_aload_n hx hb dL_law_935 rfl (lv_at hl 1 rfl) ?_
  refine lw_arg C hS (lv_at hl 0 rfl) (lv_at hl 4 rfl) (k := 1) (by decide) hil dL_law_936 dL_law_937 dL_law_939 dL_law_940 dL_law_941 ?_
  refine lw_arg C hS (lv_at hl 0 rfl) (lv_at hl 4 rfl) (k := 2) (by decide) hil dL_law_942 dL_law_943 dL_law_945 dL_law_946 dL_law_947 ?_
  refine lv_aload_n hx hb dL_law_948 rfl (lv_at hl 3 rfl) ?_
  refine lw_i (sw_runH (As := [.ref q1, .int (xs (i + 1)), .int (xs (i + 2)), .ref qo]) (rest := []) Cx hP hD hS mh_L_meet ml_L_152 (c_L_meet l hfl G ca Z q1 (a 0) (a 2) (a 38) (a 40) (a 39) (.ref (a 3)) (.ref (a 6)) (.ref (a 9)) (.int (bI hs)) (.ref (a 12)) (.ref (a 41)) (.ref (a 43)) (.ref (a 44)) (.ref (a 48)) (.ref (a 50)) (.int pe) (.ref (a 1)) qo H.size (xs (i + 1)) (xs (i + 2)) P S o (r0, S1) z1 (fun k9 e9 => by have := agk z4 k9 e9; omega)) [0, 1, 3, 39, 41, 40, 67] rfl rfl rfl rfl ⟨(Nat.le_of_ble_eq_true rfl), (Nat.le_of_ble_eq_true rfl)⟩ hl.1 rfl rfl (Nat.le_of_ble_eq_true rfl) dL_law_949 ⟨hcR 2 (by decide), hsR 12 (by decide)⟩) hP hD hS hA [0, 1, 3, 39, 41, 40, 67] [1, 2, 0, 3, 0, 0, 0, 0, 0, 0, 0, 0, 0, 0, 0, 0, 0, 0, 0, 0, 0, 0, 0, 0, 0, 0, 0, 0, 0, 0, 0, 0, 0, 0, 0, 0, 0, 0, 0, 4, 6, 5, 0, 0, 0, 0, 0, 0, 0, 0, 0, 0, 0, 0, 0, 0, 0, 0, 0, 0, 0, 0, 0, 0, 0, 0, 0, 7] rfl (fun _ => rfl) rfl (by decide +kernel) (fun r1 u9 H locs hw hP hD hS => ?_)
  obtain ⟨hw1, rfl⟩ := hw
  have hP : va_P G vwCl (LW ca Z q1 a q2 d qo P Bf Dr Sn hs t S1 sc rd sr sh ac pe now dr kp sn hi ac u th hs ow tm en od fm fl bf bl li nx be tk er ea pe ne ors oc (((wr1 r0 o).2))) H := hP
  have hD : va_D (lwA s) (LW ca Z q1 a q2 d qo P Bf Dr Sn hs t S1 sc rd sr sh ac pe now dr kp sn hi ac u th hs ow tm en od fm fl bf bl li nx be tk er ea pe ne ors oc (((wr1 r0 o).2))) := hD
  refine lv_istore (lv' := (5, .int r1) :: [(0, .ref b), (1, .ref q1), (2, .ref q2), (3, .ref qo), (4, .int (nI i))]) hx hb dL_law_952 hl (by decide) rfl (fun ls hl => ?_)
  refine lv_aload_n hx hb dL_law_954 rfl (lv_at hl 3 rfl) ?_
  refine lw_arg C hS (lv_at hl 1 rfl) (lv_at hl 5 rfl) (k := 1) (by decide) hil dL_law_955 dL_law_956 dL_law_958 dL_law_959 dL_law_960 ?_
  refine lw_arg C hS (lv_at hl 1 rfl) (lv_at hl 5 rfl) (k := 2) (by decide) hil dL_law_961 dL_law_962 dL_law_964 dL_law_965 dL_law_966 ?_
  refine lw_i (sw_runV (As := [.int (xs (i + 1)), .int (xs (i + 2))]) (rest := []) Cx hP hD hS mv_X11_meet ml_L_154 (c_X11_meet l G ca Z q2 (d 0) (d 6) (.ref (d 0)) (.ref (d 1)) (.ref (d 2)) (.ref (d 3)) (.ref (d 4)) (.ref (d 5)) (.int u) (.int (bI hs)) (.ref (d 7)) (.ref (d 8)) (.int en) (.ref (d 9)) (.ref (d 10)) (.int fl) (.ref (d 11)) (.int bl) (.int li) (.int nx) (.int be) (.int tk) (.int er) (.int ea) (.int pe) (.int ne) (.ref (d 12)) (.ref (d 13)) (.int oc) H.size (xs (i + 1)) (xs (i + 2)) now th (b1, th1) z3) 8 rfl rfl rfl [52, 53, 59] rfl rfl rfl rfl ⟨(Nat.le_of_ble_eq_true rfl), (Nat.le_of_ble_eq_true rfl)⟩ hl.1 rfl rfl (Nat.le_of_ble_eq_true rfl) dL_law_967 ⟨hcR 2 (by decide), hsR 12 (by decide)⟩) hP hD hS hA [52, 53, 59] [0, 0, 0, 0, 0, 0, 0, 0, 0, 0, 0, 0, 0, 0, 0, 0, 0, 0, 0, 0, 0, 0, 0, 0, 0, 0, 0, 0, 0, 0, 0, 0, 0, 0, 0, 0, 0, 0, 0, 0, 0, 0, 0, 0, 0, 0, 0, 0, 0, 0, 0, 0, 1, 2, 0, 0, 0, 0, 0, 3, 0, 0, 0, 0, 0, 0, 0, 0] rfl (fun _ => rfl) rfl (by decide +kernel) (fun r2 u9 H locs hw hP hD hS => ?_)
  obtain ⟨hw2, rfl⟩ := hw
  have hP : va_P G vwCl (LW ca Z q1 a q2 d qo P Bf Dr Sn hs t S1 sc rd sr sh ac pe now dr kp sn hi ac u th1 hs ow tm en od fm fl bf bl li nx be tk er ea pe ne ors oc (((wr1 r0 o).2))) H := hP
  have hD : va_D (lwA s) (LW ca Z q1 a q2 d qo P Bf Dr Sn hs t S1 sc rd sr sh ac pe now dr kp sn hi ac u th1 hs ow tm en od fm fl bf bl li nx be tk er ea pe ne ors oc (((wr1 r0 o).2))) := hD
  refine lv_istore (lv' := (6, .int r2) :: (5, .int r1) :: [(0, .ref b), (1, .ref q1), (2, .ref q2), (3, .ref qo), (4, .int (nI i))]) hx hb dL_law_970 hl (by decide) rfl (fun ls hl => ?_)
  refine lv_aload_n hx hb dL_law_972 rfl (lv_at hl 4 rfl) ?_
  refine lw_i (sw_runV (As := []) (rest := []) Cx hP hD hS mv_X11_thrown ml_L_105 (c_X11_thrown l G ca Z q2 (.ref (d 0)) (.ref (d 1)) (.ref (d 2)) (.ref (d 3)) (.ref (d 4)) (.ref (d 5)) (.ref (d 6)) (.ref (d 0)) (.int u) (.int (bI hs)) (.ref (d 7)) (.ref (d 8)) (.int en) (.ref (d 9)) (.ref (d 10)) (.int fl) (.ref (d 11)) (.int bl) (.int li) (.int nx) (.int be) (.int tk) (.int er) (.int ea) (.int pe) (.int ne) (.ref (d 12)) (.ref (d 13)) (.int oc) H.size th1 th1 rfl) 8 rfl rfl rfl [52] rfl rfl rfl rfl ⟨(Nat.le_of_ble_eq_true rfl), (Nat.le_of_ble_eq_true rfl)⟩ hl.1 rfl rfl (Nat.le_of_ble_eq_true rfl) dL_law_973 ⟨hcR 2 (by decide), hsR 12 (by decide)⟩) hP hD hS hA [52] [0, 0, 0, 0, 0, 0, 0, 0, 0, 0, 0, 0, 0, 0, 0, 0, 0, 0, 0, 0, 0, 0, 0, 0, 0, 0, 0, 0, 0, 0, 0, 0, 0, 0, 0, 0, 0, 0, 0, 0, 0, 0, 0, 0, 0, 0, 0, 0, 0, 0, 0, 0, 1, 0, 0, 0, 0, 0, 0, 0, 0, 0, 0, 0, 0, 0, 0, 0] rfl (fun _ => rfl) rfl (by decide +kernel) (fun r3 u9 H locs hw hP hD hS => ?_)
  have hw3 : th1 = r3 := hw
  have hP : va_P G vwCl (LW ca Z q1 a q2 d qo P Bf Dr Sn hs t S1 sc rd sr sh ac pe now dr kp sn hi ac u th1 hs ow tm en od fm fl bf bl li nx be tk er ea pe ne ors oc (((wr1 r0 o).2))) H := hP
  have hD : va_D (lwA s) (LW ca Z q1 a q2 d qo P Bf Dr Sn hs t S1 sc rd sr sh ac pe now dr kp sn hi ac u th1 hs ow tm en od fm fl bf bl li nx be tk er ea pe ne ors oc (((wr1 r0 o).2))) := hD
  have hag := agw1 (o := o) z4
  refine lw_tail (q0 := 67) C hP rfl (lv_at hl 5 rfl) (lv_at hl 1 rfl) (lv_at hl 0 rfl) (hw1.symm.trans (hag.1.trans hw3)) (fun z9 => by rw [← hw2]; exact hag.2 (hw3.trans z9)) dL_law_976 dL_law_978 (by decide) dL_law_983 dL_law_985 (by decide) dL_law_988 dL_law_989 dL_law_990 dL_law_991 dL_law_993 dL_law_994 dL_law_995 (by decide) dL_law_1000 (by decide) ?_
  refine va_forget hS.2.2 ?_
  refine W.widen (k := cells + 2) (n := slots + 12) (by omega) (by omega) ?_
  exact KK v P Bf Dr Sn hs t S1 sc rd sr sh ac pe now dr kp sn hi u th1 ow tm en od fm fl bf bl li nx be tk er ea ne ors oc ((wr1 r0 o).2) H ls (by omega) ⟨⟨w, ns, R, k, D, hC.1, hC.2.1, hC.2.2.1, z2⟩, hv, hH, hN, hB, hF⟩ hP hD (va_forg hS) (lv_sub hl [2, 3, 4, 5, 6] rfl)

set_option maxHeartbeats 1000000 in
set_option maxRecDepth 100000 in
theorem lc_15 (C : lwC p l s m meth c G ca Z b L xs) (hcl : cells + 2 ≤ 601024) (hsl : slots + 12 ≤ 7293033) (hil : i + 6 ≤ L) (hvv : v + 5000 < 2 ^ 31) (hRL : RLX v P Sn hs t S sc sh now sn hi u fm fl bf bl) (hP : va_P G vwCl (LW ca Z q1 a q2 d qo P Bf Dr Sn hs t S sc rd sr sh ac pe now dr kp sn hi ac u th hs ow tm en od fm fl bf bl li nx be tk er ea pe ne ors oc o) H) (hD : va_D (lwA s) (LW ca Z q1 a q2 d qo P Bf Dr Sn hs t S sc rd sr sh ac pe now dr kp sn hi ac u th hs ow tm en od fm fl bf bl li nx be tk er ea pe ne ors oc o)) (hS : va_S (lwA s) s.heap H []) (hl : lv_has ls 9 [(0, .ref b), (1, .ref q1), (2, .ref q2), (3, .ref qo), (4, .int (nI i))]) (KK : lwKK p l e s m below meth c G ca Z b q1 a q2 d qo cells slots i v Q) :
    W p l e room_1 s m #[.ref b] below meth c H [] cells slots Q (F0 m 1003 ls []) := by
  obtain ⟨⟨⟨hx, hb, hml, hown, htU⟩, hK, hX, hY, hA⟩, hXs, hbl, hL, hfl⟩ := id C
  have Cx := C.1
  have hcR : ∀ j, j ≤ 2 → cells + j ≤ room_1.cells := fun j hj => by show _ ≤ 601024; omega
  have hsR : ∀ j, j ≤ 12 → slots + j ≤ room_1.slots := fun j hj => by show _ ≤ 7293033; omega
  obtain ⟨⟨w, ns, R, k, D, hC⟩, hv, hH, hN, hB, hF⟩ := hRL
  obtain ⟨r0, S1, en1, ow1, th1, tm1, z1, z2, z3⟩ := Q_upTo hC (xs (i + 1)) en ow tm th
  refine lv_aload_n hx hb dL_law_1003 rfl (lv_at hl 1 rfl) ?_
  refine lw_arg C hS (lv_at hl 0 rfl) (lv_at hl 4 rfl) (k := 1) (by decide) hil dL_law_1004 dL_law_1005 dL_law_1007 dL_law_1008 dL_law_1009 ?_
  refine lw_i (sw_runV (As := [.int (xs (i + 1))]) (rest := []) Cx hP hD hS mv_X10_upTo ml_L_155 (c_X10_upTo l G ca Z q1 (a 0) (a 2) (a 38) (a 40) (a 39) (.ref (a 3)) (.ref (a 6)) (.ref (a 9)) (.int (bI hs)) (.ref (a 12)) (.ref (a 41)) (.ref (a 43)) (.ref (a 44)) (.ref (a 48)) (.ref (a 50)) (.int pe) (.ref (a 1)) H.size (xs (i + 1)) P S (r0, S1) z1) 7 rfl rfl rfl [0, 1, 3, 39, 41, 40] rfl rfl rfl rfl ⟨(Nat.le_of_ble_eq_true rfl), (Nat.le_of_ble_eq_true rfl)⟩ hl.1 rfl rfl (Nat.le_of_ble_eq_true rfl) dL_law_1010 ⟨hcR 0 (by decide), hsR 0 (by decide)⟩) hP hD hS hA [0, 1, 3, 39, 41, 40] [1, 2, 0, 3, 0, 0, 0, 0, 0, 0, 0, 0, 0, 0, 0, 0, 0, 0, 0, 0, 0, 0, 0, 0, 0, 0, 0, 0, 0, 0, 0, 0, 0, 0, 0, 0, 0, 0, 0, 4, 6, 5, 0, 0, 0, 0, 0, 0, 0, 0, 0, 0, 0, 0, 0, 0, 0, 0, 0, 0, 0, 0, 0, 0, 0, 0, 0, 0] rfl (fun _ => rfl) rfl (by decide +kernel) (fun r1 u9 H locs hw hP hD hS => ?_)
  obtain ⟨hw1, rfl⟩ := hw
  have hP : va_P G vwCl (LW ca Z q1 a q2 d qo P Bf Dr Sn hs t S1 sc rd sr sh ac pe now dr kp sn hi ac u th hs ow tm en od fm fl bf bl li nx be tk er ea pe ne ors oc o) H := hP
  have hD : va_D (lwA s) (LW ca Z q1 a q2 d qo P Bf Dr Sn hs t S1 sc rd sr sh ac pe now dr kp sn hi ac u th hs ow tm en od fm fl bf bl li nx be tk er ea pe ne ors oc o) := hD
  refine lv_aload_n hx hb dL_law_1013 rfl (lv_at hl 2 rfl) ?_
  refine lw_arg C hS (lv_at hl 0 rfl) (lv_at hl 4 rfl) (k := 1) (by decide) hil dL_law_1014 dL_law_1015 dL_law_1017 dL_law_1018 dL_law_1019 ?_
  refine lw_i (sw_runV (As := [.int (xs (i + 1))]) (rest := [.int r1]) Cx hP hD hS mv_X11_upTo ml_L_158 (c_X11_upTo l G ca Z q2 (d 7) (d 0) (d 8) (d 6) (.ref (d 0)) (.ref (d 1)) (.ref (d 2)) (.ref (d 3)) (.ref (d 4)) (.ref (d 5)) (.int u) (.int (bI hs)) (.ref (d 9)) (.ref (d 10)) (.int fl) (.ref (d 11)) (.int bl) (.int li) (.int nx) (.int be) (.int tk) (.int er) (.int ea) (.int pe) (.int ne) (.ref (d 12)) (.ref (d 13)) (.int oc) H.size (xs (i + 1)) en ow now th tm (r0, (en1, ow1, th1, tm1)) z3) 8 rfl rfl rfl [52, 60, 53, 61, 59] rfl rfl rfl rfl ⟨(Nat.le_of_ble_eq_true rfl), (Nat.le_of_ble_eq_true rfl)⟩ hl.1 rfl rfl (Nat.le_of_ble_eq_true rfl) dL_law_1020 ⟨hcR 0 (by decide), hsR 0 (by decide)⟩) hP hD hS hA [52, 60, 53, 61, 59] [0, 0, 0, 0, 0, 0, 0, 0, 0, 0, 0, 0, 0, 0, 0, 0, 0, 0, 0, 0, 0, 0, 0, 0, 0, 0, 0, 0, 0, 0, 0, 0, 0, 0, 0, 0, 0, 0, 0, 0, 0, 0, 0, 0, 0, 0, 0, 0, 0, 0, 0, 0, 1, 3, 0, 0, 0, 0, 0, 5, 2, 4, 0, 0, 0, 0, 0, 0] rfl (fun _ => rfl) rfl (by decide +kernel) (fun r2 u9 H locs hw hP hD hS => ?_)
  obtain ⟨hw2, rfl⟩ := hw
  have hP : va_P G vwCl (LW ca Z q1 a q2 d qo P Bf Dr Sn hs t S1 sc rd sr sh ac pe now dr kp sn hi ac u th1 hs ow1 tm1 en1 od fm fl bf bl li nx be tk er ea pe ne ors oc o) H := hP
  have hD : va_D (lwA s) (LW ca Z q1 a q2 d qo P Bf Dr Sn hs t S1 sc rd sr sh ac pe now dr kp sn hi ac u th1 hs ow1 tm1 en1 od fm fl bf bl li nx be tk er ea pe ne ors oc o) := hD
  refine lv_icmp_eq (tgt := 2547) hx hb dL_law_1023 (by decide) (fun _ => ?_) (fun c9 => absurd (hw1.symm.trans hw2) c9)
  refine va_forget hS.2.2 ?_
  refine W.widen (k := cells + 2) (n := slots + 12) (by omega) (by omega) ?_
  exact KK v P Bf Dr Sn hs t S1 sc rd sr sh ac pe now dr kp sn hi u th1 ow1 tm1 en1 od fm fl bf bl li nx be tk er ea ne ors oc o H ls (by omega) ⟨⟨w, ns, R, k, D, hC.1, hC.2.1, hC.2.2.1, z2⟩, hv, hH, hN, hB, hF⟩ hP hD (va_forg hS) hl

set_option maxHeartbeats 1000000 in
set_option maxRecDepth 100000 in
theorem lc_16 (C : lwC p l s m meth c G ca Z b L xs) (hcl : cells + 2 ≤ 601024) (hsl : slots + 12 ≤ 7293033) (hil : i + 6 ≤ L) (hvv : v + 5000 < 2 ^ 31) (hRL : RLX v P Sn hs t S sc sh now sn hi u fm fl bf bl) (hP : va_P G vwCl (LW ca Z q1 a q2 d qo P Bf Dr Sn hs t S sc rd sr sh ac pe now dr kp sn hi ac u th hs ow tm en od fm fl bf bl li nx be tk er ea pe ne ors oc o) H) (hD : va_D (lwA s) (LW ca Z q1 a q2 d qo P Bf Dr Sn hs t S sc rd sr sh ac pe now dr kp sn hi ac u th hs ow tm en od fm fl bf bl li nx be tk er ea pe ne ors oc o)) (hS : va_S (lwA s) s.heap H []) (hl : lv_has ls 9 [(0, .ref b), (1, .ref q1), (2, .ref q2), (3, .ref qo), (4, .int (nI i))]) (KK : lwKK p l e s m below meth c G ca Z b q1 a q2 d qo cells slots i v Q) :
    W p l e room_1 s m #[.ref b] below meth c H [] cells slots Q (F0 m 1028 ls []) := by
  obtain ⟨⟨⟨hx, hb, hml, hown, htU⟩, hK, hX, hY, hA⟩, hXs, hbl, hL, hfl⟩ := id C
  have Cx := C.1
  have hcR : ∀ j, j ≤ 2 → cells + j ≤ room_1.cells := fun j hj => by show _ ≤ 601024; omega
  have hsR : ∀ j, j ≤ 12 → slots + j ≤ room_1.slots := fun j hj => by show _ ≤ 7293033; omega
  obtain ⟨⟨w, ns, R, k, D, hC⟩, hv, hH, hN, hB, hF⟩ := hRL
  obtain ⟨r0, S1, en1, ow1, th1, tm1, z1, z2, z3⟩ := Q_mark hC (xs (i + 1)) en ow tm th
  refine lv_aload_n hx hb dL_law_1028 rfl (lv_at hl 1 rfl) ?_
  refine lw_arg C hS (lv_at hl 0 rfl) (lv_at hl 4 rfl) (k := 1) (by decide) hil dL_law_1029 dL_law_1030 dL_law_1032 dL_law_1033 dL_law_1034 ?_
  refine lw_i (sw_runV (As := [.int (xs (i + 1))]) (rest := []) Cx hP hD hS mv_X10_mark ml_L_159 (c_X10_mark l G ca Z q1 (a 0) (a 2) (a 38) (a 40) (a 39) (.ref (a 3)) (.ref (a 6)) (.ref (a 9)) (.int (bI hs)) (.ref (a 12)) (.ref (a 41)) (.ref (a 43)) (.ref (a 44)) (.ref (a 48)) (.ref (a 50)) (.int pe) (.ref (a 1)) H.size (xs (i + 1)) P S (r0, S1) z1) 7 rfl rfl rfl [0, 1, 3, 39, 41, 40] rfl rfl rfl rfl ⟨(Nat.le_of_ble_eq_true rfl), (Nat.le_of_ble_eq_true rfl)⟩ hl.1 rfl rfl (Nat.le_of_ble_eq_true rfl) dL_law_1035 ⟨hcR 0 (by decide), hsR 0 (by decide)⟩) hP hD hS hA [0, 1, 3, 39, 41, 40] [1, 2, 0, 3, 0, 0, 0, 0, 0, 0, 0, 0, 0, 0, 0, 0, 0, 0, 0, 0, 0, 0, 0, 0, 0, 0, 0, 0, 0, 0, 0, 0, 0, 0, 0, 0, 0, 0, 0, 4, 6, 5, 0, 0, 0, 0, 0, 0, 0, 0, 0, 0, 0, 0, 0, 0, 0, 0, 0, 0, 0, 0, 0, 0, 0, 0, 0, 0] rfl (fun _ => rfl) rfl (by decide +kernel) (fun r1 u9 H locs hw hP hD hS => ?_)
  obtain ⟨hw1, rfl⟩ := hw
  have hP : va_P G vwCl (LW ca Z q1 a q2 d qo P Bf Dr Sn hs t S1 sc rd sr sh ac pe now dr kp sn hi ac u th hs ow tm en od fm fl bf bl li nx be tk er ea pe ne ors oc o) H := hP
  have hD : va_D (lwA s) (LW ca Z q1 a q2 d qo P Bf Dr Sn hs t S1 sc rd sr sh ac pe now dr kp sn hi ac u th hs ow tm en od fm fl bf bl li nx be tk er ea pe ne ors oc o) := hD
  refine lv_aload_n hx hb dL_law_1038 rfl (lv_at hl 2 rfl) ?_
  refine lw_arg C hS (lv_at hl 0 rfl) (lv_at hl 4 rfl) (k := 1) (by decide) hil dL_law_1039 dL_law_1040 dL_law_1042 dL_law_1043 dL_law_1044 ?_
  refine lw_i (sw_runV (As := [.int (xs (i + 1))]) (rest := [.int r1]) Cx hP hD hS mv_X11_mark ml_L_162 (c_X11_mark l G ca Z q2 (d 7) (d 0) (d 8) (d 6) (.ref (d 0)) (.ref (d 1)) (.ref (d 2)) (.ref (d 3)) (.ref (d 4)) (.ref (d 5)) (.int u) (.int (bI hs)) (.ref (d 9)) (.ref (d 10)) (.int fl) (.ref (d 11)) (.int bl) (.int li) (.int nx) (.int be) (.int tk) (.int er) (.int ea) (.int pe) (.int ne) (.ref (d 12)) (.ref (d 13)) (.int oc) H.size (xs (i + 1)) en ow now th tm (r0, (en1, ow1, th1, tm1)) z3) 8 rfl rfl rfl [52, 60, 53, 61, 59] rfl rfl rfl rfl ⟨(Nat.le_of_ble_eq_true rfl), (Nat.le_of_ble_eq_true rfl)⟩ hl.1 rfl rfl (Nat.le_of_ble_eq_true rfl) dL_law_1045 ⟨hcR 0 (by decide), hsR 0 (by decide)⟩) hP hD hS hA [52, 60, 53, 61, 59] [0, 0, 0, 0, 0, 0, 0, 0, 0, 0, 0, 0, 0, 0, 0, 0, 0, 0, 0, 0, 0, 0, 0, 0, 0, 0, 0, 0, 0, 0, 0, 0, 0, 0, 0, 0, 0, 0, 0, 0, 0, 0, 0, 0, 0, 0, 0, 0, 0, 0, 0, 0, 1, 3, 0, 0, 0, 0, 0, 5, 2, 4, 0, 0, 0, 0, 0, 0] rfl (fun _ => rfl) rfl (by decide +kernel) (fun r2 u9 H locs hw hP hD hS => ?_)
  obtain ⟨hw2, rfl⟩ := hw
  have hP : va_P G vwCl (LW ca Z q1 a q2 d qo P Bf Dr Sn hs t S1 sc rd sr sh ac pe now dr kp sn hi ac u th1 hs ow1 tm1 en1 od fm fl bf bl li nx be tk er ea pe ne ors oc o) H := hP
  have hD : va_D (lwA s) (LW ca Z q1 a q2 d qo P Bf Dr Sn hs t S1 sc rd sr sh ac pe now dr kp sn hi ac u th1 hs ow1 tm1 en1 od fm fl bf bl li nx be tk er ea pe ne ors oc o) := hD
  refine lv_icmp_eq (tgt := 2547) hx hb dL_law_1048 (by decide) (fun _ => ?_) (fun c9 => absurd (hw1.symm.trans hw2) c9)
  refine va_forget hS.2.2 ?_
  refine W.widen (k := cells + 2) (n := slots + 12) (by omega) (by omega) ?_
  exact KK v P Bf Dr Sn hs t S1 sc rd sr sh ac pe now dr kp sn hi u th1 ow1 tm1 en1 od fm fl bf bl li nx be tk er ea ne ors oc o H ls (by omega) ⟨⟨w, ns, R, k, D, hC.1, hC.2.1, hC.2.2.1, z2⟩, hv, hH, hN, hB, hF⟩ hP hD (va_forg hS) hl

set_option maxHeartbeats 1000000 in
set_option maxRecDepth 100000 in
theorem lc_17 (C : lwC p l s m meth c G ca Z b L xs) (hcl : cells + 2 ≤ 601024) (hsl : slots + 12 ≤ 7293033) (hil : i + 6 ≤ L) (hvv : v + 5000 < 2 ^ 31) (hRL : RLX v P Sn hs t S sc sh now sn hi u fm fl bf bl) (hP : va_P G vwCl (LW ca Z q1 a q2 d qo P Bf Dr Sn hs t S sc rd sr sh ac pe now dr kp sn hi ac u th hs ow tm en od fm fl bf bl li nx be tk er ea pe ne ors oc o) H) (hD : va_D (lwA s) (LW ca Z q1 a q2 d qo P Bf Dr Sn hs t S sc rd sr sh ac pe now dr kp sn hi ac u th hs ow tm en od fm fl bf bl li nx be tk er ea pe ne ors oc o)) (hS : va_S (lwA s) s.heap H []) (hl : lv_has ls 9 [(0, .ref b), (1, .ref q1), (2, .ref q2), (3, .ref qo), (4, .int (nI i))]) (KK : lwKK p l e s m below meth c G ca Z b q1 a q2 d qo cells slots i v Q) :
    W p l e room_1 s m #[.ref b] below meth c H [] cells slots Q (F0 m 1053 ls []) := by
  obtain ⟨⟨⟨hx, hb, hml, hown, htU⟩, hK, hX, hY, hA⟩, hXs, hbl, hL, hfl⟩ := id C
  have Cx := C.1
  have hcR : ∀ j, j ≤ 2 → cells + j ≤ room_1.cells := fun j hj => by show _ ≤ 601024; omega
  have hsR : ∀ j, j ≤ 12 → slots + j ≤ room_1.slots := fun j hj => by show _ ≤ 7293033; omega
  obtain ⟨⟨w, ns, R, k, D, hC⟩, hv, hH, hN, hB, hF⟩ := hRL
  obtain ⟨r0, S1, en1, ow1, th1, tm1, z1, z2, z3⟩ := Q_between hC (xs (i + 1)) (xs (i + 2)) en ow tm th
  refine lv_aload_n hx hb dL_law_1053 rfl (lv_at hl 1 rfl) ?_
  refine lw_arg C hS (lv_at hl 0 rfl) (lv_at hl 4 rfl) (k := 1) (by decide) hil dL_law_1054 dL_law_1055 dL_law_1057 dL_law_1058 dL_law_1059 ?_
  refine lw_arg C hS (lv_at hl 0 rfl) (lv_at hl 4 rfl) (k := 2) (by decide) hil dL_law_1060 dL_law_1061 dL_law_1063 dL_law_1064 dL_law_1065 ?_
  refine lw_i (sw_runV (As := [.int (xs (i + 1)), .int (xs (i + 2))]) (rest := []) Cx hP hD hS mv_X10_between ml_L_163 (c_X10_between l G ca Z q1 (a 0) (a 2) (a 38) (a 40) (a 39) (.ref (a 3)) (.ref (a 6)) (.ref (a 9)) (.int (bI hs)) (.ref (a 12)) (.ref (a 41)) (.ref (a 43)) (.ref (a 44)) (.ref (a 48)) (.ref (a 50)) (.int pe) (.ref (a 1)) H.size (xs (i + 1)) (xs (i + 2)) P S (r0, S1) z1) 7 rfl rfl rfl [0, 1, 3, 39, 41, 40] rfl rfl rfl rfl ⟨(Nat.le_of_ble_eq_true rfl), (Nat.le_of_ble_eq_true rfl)⟩ hl.1 rfl rfl (Nat.le_of_ble_eq_true rfl) dL_law_1066 ⟨hcR 0 (by decide), hsR 0 (by decide)⟩) hP hD hS hA [0, 1, 3, 39, 41, 40] [1, 2, 0, 3, 0, 0, 0, 0, 0, 0, 0, 0, 0, 0, 0, 0, 0, 0, 0, 0, 0, 0, 0, 0, 0, 0, 0, 0, 0, 0, 0, 0, 0, 0, 0, 0, 0, 0, 0, 4, 6, 5, 0, 0, 0, 0, 0, 0, 0, 0, 0, 0, 0, 0, 0, 0, 0, 0, 0, 0, 0, 0, 0, 0, 0, 0, 0, 0] rfl (fun _ => rfl) rfl (by decide +kernel) (fun r1 u9 H locs hw hP hD hS => ?_)
  obtain ⟨hw1, rfl⟩ := hw
  have hP : va_P G vwCl (LW ca Z q1 a q2 d qo P Bf Dr Sn hs t S1 sc rd sr sh ac pe now dr kp sn hi ac u th hs ow tm en od fm fl bf bl li nx be tk er ea pe ne ors oc o) H := hP
  have hD : va_D (lwA s) (LW ca Z q1 a q2 d qo P Bf Dr Sn hs t S1 sc rd sr sh ac pe now dr kp sn hi ac u th hs ow tm en od fm fl bf bl li nx be tk er ea pe ne ors oc o) := hD
  refine lv_aload_n hx hb dL_law_1069 rfl (lv_at hl 2 rfl) ?_
  refine lw_arg C hS (lv_at hl 0 rfl) (lv_at hl 4 rfl) (k := 1) (by decide) hil dL_law_1070 dL_law_1071 dL_law_1073 dL_law_1074 dL_law_1075 ?_
  refine lw_arg C hS (lv_at hl 0 rfl) (lv_at hl 4 rfl) (k := 2) (by decide) hil dL_law_1076 dL_law_1077 dL_law_1079 dL_law_1080 dL_law_1081 ?_
  refine lw_i (sw_runV (As := [.int (xs (i + 1)), .int (xs (i + 2))]) (rest := [.int r1]) Cx hP hD hS mv_X11_between ml_L_166 (c_X11_between l G ca Z q2 (d 7) (d 0) (d 8) (d 6) (.ref (d 0)) (.ref (d 1)) (.ref (d 2)) (.ref (d 3)) (.ref (d 4)) (.ref (d 5)) (.int u) (.int (bI hs)) (.ref (d 9)) (.ref (d 10)) (.int fl) (.ref (d 11)) (.int bl) (.int li) (.int nx) (.int be) (.int tk) (.int er) (.int ea) (.int pe) (.int ne) (.ref (d 12)) (.ref (d 13)) (.int oc) H.size (xs (i + 1)) (xs (i + 2)) en ow now th tm (r0, (en1, ow1, th1, tm1)) z3) 8 rfl rfl rfl [52, 60, 53, 61, 59] rfl rfl rfl rfl ⟨(Nat.le_of_ble_eq_true rfl), (Nat.le_of_ble_eq_true rfl)⟩ hl.1 rfl rfl (Nat.le_of_ble_eq_true rfl) dL_law_1082 ⟨hcR 0 (by decide), hsR 0 (by decide)⟩) hP hD hS hA [52, 60, 53, 61, 59] [0, 0, 0, 0, 0, 0, 0, 0, 0, 0, 0, 0, 0, 0, 0, 0, 0, 0, 0, 0, 0, 0, 0, 0, 0, 0, 0, 0, 0, 0, 0, 0, 0, 0, 0, 0, 0, 0, 0, 0, 0, 0, 0, 0, 0, 0, 0, 0, 0, 0, 0, 0, 1, 3, 0, 0, 0, 0, 0, 5, 2, 4, 0, 0, 0, 0, 0, 0] rfl (fun _ => rfl) rfl (by decide +kernel) (fun r2 u9 H locs hw hP hD hS => ?_)
  obtain ⟨hw2, rfl⟩ := hw
  have hP : va_P G vwCl (LW ca Z q1 a q2 d qo P Bf Dr Sn hs t S1 sc rd sr sh ac pe now dr kp sn hi ac u th1 hs ow1 tm1 en1 od fm fl bf bl li nx be tk er ea pe ne ors oc o) H := hP
  have hD : va_D (lwA s) (LW ca Z q1 a q2 d qo P Bf Dr Sn hs t S1 sc rd sr sh ac pe now dr kp sn hi ac u th1 hs ow1 tm1 en1 od fm fl bf bl li nx be tk er ea pe ne ors oc o) := hD
  refine lv_icmp_eq (tgt := 2547) hx hb dL_law_1085 (by decide) (fun _ => ?_) (fun c9 => absurd (hw1.symm.trans hw2) c9)
  refine va_forget hS.2.2 ?_
  refine W.widen (k := cells + 2) (n := slots + 12) (by omega) (by omega) ?_
  exact KK v P Bf Dr Sn hs t S1 sc rd sr sh ac pe now dr kp sn hi u th1 ow1 tm1 en1 od fm fl bf bl li nx be tk er ea ne ors oc o H ls (by omega) ⟨⟨w, ns, R, k, D, hC.1, hC.2.1, hC.2.2.1, z2⟩, hv, hH, hN, hB, hF⟩ hP hD (va_forg hS) hl

set_option maxHeartbeats 1000000 in
set_option maxRecDepth 100000 in
theorem lc_18 (C : lwC p l s m meth c G ca Z b L xs) (hcl : cells + 2 ≤ 601024) (hsl : slots + 12 ≤ 7293033) (hil : i + 6 ≤ L) (hvv : v + 5000 < 2 ^ 31) (hRL : RLX v P Sn hs t S sc sh now sn hi u fm fl bf bl) (hP : va_P G vwCl (LW ca Z q1 a q2 d qo P Bf Dr Sn hs t S sc rd sr sh ac pe now dr kp sn hi ac u th hs ow tm en od fm fl bf bl li nx be tk er ea pe ne ors oc o) H) (hD : va_D (lwA s) (LW ca Z q1 a q2 d qo P Bf Dr Sn hs t S sc rd sr sh ac pe now dr kp sn hi ac u th hs ow tm en od fm fl bf bl li nx be tk er ea pe ne ors oc o)) (hS : va_S (lwA s) s.heap H []) (hl : lv_has ls 9 [(0, .ref b), (1, .ref q1), (2, .ref q2), (3, .ref qo), (4, .int (nI i))]) (KK : lwKK p l e s m below meth c G ca Z b q1 a q2 d qo cells slots i v Q) :
    W p l e room_1 s m #[.ref b] below meth c H [] cells slots Q (F0 m 1090 ls []) := by
  obtain ⟨⟨⟨hx, hb, hml, hown, htU⟩, hK, hX, hY, hA⟩, hXs, hbl, hL, hfl⟩ := id C
  have Cx := C.1
  have hcR : ∀ j, j ≤ 2 → cells + j ≤ room_1.cells := fun j hj => by show _ ≤ 601024; omega
  have hsR : ∀ j, j ≤ 12 → slots + j ≤ room_1.slots := fun j hj => by show _ ≤ 7293033; omega
  obtain ⟨⟨w, ns, R, k, D, hC⟩, hv, hH, hN, hB, hF⟩ := hRL
  obtain ⟨r0, S1, en1, ow1, th1, tm1, z1, z2, z3⟩ := Q_divisor hC (xs (i + 1)) en ow tm th
  refine lv_aload_n hx hb dL_law_1090 rfl (lv_at hl 1 rfl) ?_
  refine lw_arg C hS (lv_at hl 0 rfl) (lv_at hl 4 rfl) (k := 1) (by decide) hil dL_law_1091 dL_law_1092 dL_law_1094 dL_law_1095 dL_law_1096 ?_
  refine lw_i (sw_runV (As := [.int (xs (i + 1))]) (rest := []) Cx hP hD hS mv_X10_divisor ml_L_167 (c_X10_divisor l G ca Z q1 (a 0) (a 2) (a 38) (a 40) (a 39) (.ref (a 3)) (.ref (a 6)) (.ref (a 9)) (.int (bI hs)) (.ref (a 12)) (.ref (a 41)) (.ref (a 43)) (.ref (a 44)) (.ref (a 48)) (.ref (a 50)) (.int pe) (.ref (a 1)) H.size (xs (i + 1)) P S (r0, S1) z1) 7 rfl rfl rfl [0, 1, 3, 39, 41, 40] rfl rfl rfl rfl ⟨(Nat.le_of_ble_eq_true rfl), (Nat.le_of_ble_eq_true rfl)⟩ hl.1 rfl rfl (Nat.le_of_ble_eq_true rfl) dL_law_1097 ⟨hcR 0 (by decide), hsR 0 (by decide)⟩) hP hD hS hA [0, 1, 3, 39, 41, 40] [1, 2, 0, 3, 0, 0, 0, 0, 0, 0, 0, 0, 0, 0, 0, 0, 0, 0, 0, 0, 0, 0, 0, 0, 0, 0, 0, 0, 0, 0, 0, 0, 0, 0, 0, 0, 0, 0, 0, 4, 6, 5, 0, 0, 0, 0, 0, 0, 0, 0, 0, 0, 0, 0, 0, 0, 0, 0, 0, 0, 0, 0, 0, 0, 0, 0, 0, 0] rfl (fun _ => rfl) rfl (by decide +kernel) (fun r1 u9 H locs hw hP hD hS => ?_)
  obtain ⟨hw1, rfl⟩ := hw
  have hP : va_P G vwCl (LW ca Z q1 a q2 d qo P Bf Dr Sn hs t S1 sc rd sr sh ac pe now dr kp sn hi ac u th hs ow tm en od fm fl bf bl li nx be tk er ea pe ne ors oc o) H := hP
  have hD : va_D (lwA s) (LW ca Z q1 a q2 d qo P Bf Dr Sn hs t S1 sc rd sr sh ac pe now dr kp sn hi ac u th hs ow tm en od fm fl bf bl li nx be tk er ea pe ne ors oc o) := hD
  refine lv_aload_n hx hb dL_law_1100 rfl (lv_at hl 2 rfl) ?_
  refine lw_arg C hS (lv_at hl 0 rfl) (lv_at hl 4 rfl) (k := 1) (by decide) hil dL_law_1101 dL_law_1102 dL_law_1104 dL_law_1105 dL_law_1106 ?_
  refine lw_i (sw_runV (As := [.int (xs (i + 1))]) (rest := [.int r1]) Cx hP hD hS mv_X11_divisor ml_L_170 (c_X11_divisor l G ca Z q2 (d 7) (d 0) (d 8) (d 6) (.ref (d 0)) (.ref (d 1)) (.ref (d 2)) (.ref (d 3)) (.ref (d 4)) (.ref (d 5)) (.int u) (.int (bI hs)) (.ref (d 9)) (.ref (d 10)) (.int fl) (.ref (d 11)) (.int bl) (.int li) (.int nx) (.int be) (.int tk) (.int er) (.int ea) (.int pe) (.int ne) (.ref (d 12)) (.ref (d 13)) (.int oc) H.size (xs (i + 1)) en ow now th tm (r0, (en1, ow1, th1, tm1)) z3) 8 rfl rfl rfl [52, 60, 53, 61, 59] rfl rfl rfl rfl ⟨(Nat.le_of_ble_eq_true rfl), (Nat.le_of_ble_eq_true rfl)⟩ hl.1 rfl rfl (Nat.le_of_ble_eq_true rfl) dL_law_1107 ⟨hcR 0 (by decide), hsR 0 (by decide)⟩) hP hD hS hA [52, 60, 53, 61, 59] [0, 0, 0, 0, 0, 0, 0, 0, 0, 0, 0, 0, 0, 0, 0, 0, 0, 0, 0, 0, 0, 0, 0, 0, 0, 0, 0, 0, 0, 0, 0, 0, 0, 0, 0, 0, 0, 0, 0, 0, 0, 0, 0, 0, 0, 0, 0, 0, 0, 0, 0, 0, 1, 3, 0, 0, 0, 0, 0, 5, 2, 4, 0, 0, 0, 0, 0, 0] rfl (fun _ => rfl) rfl (by decide +kernel) (fun r2 u9 H locs hw hP hD hS => ?_)
  obtain ⟨hw2, rfl⟩ := hw
  have hP : va_P G vwCl (LW ca Z q1 a q2 d qo P Bf Dr Sn hs t S1 sc rd sr sh ac pe now dr kp sn hi ac u th1 hs ow1 tm1 en1 od fm fl bf bl li nx be tk er ea pe ne ors oc o) H := hP
  have hD : va_D (lwA s) (LW ca Z q1 a q2 d qo P Bf Dr Sn hs t S1 sc rd sr sh ac pe now dr kp sn hi ac u th1 hs ow1 tm1 en1 od fm fl bf bl li nx be tk er ea pe ne ors oc o) := hD
  refine lv_icmp_eq (tgt := 2547) hx hb dL_law_1110 (by decide) (fun _ => ?_) (fun c9 => absurd (hw1.symm.trans hw2) c9)
  refine va_forget hS.2.2 ?_
  refine W.widen (k := cells + 2) (n := slots + 12) (by omega) (by omega) ?_
  exact KK v P Bf Dr Sn hs t S1 sc rd sr sh ac pe now dr kp sn hi u th1 ow1 tm1 en1 od fm fl bf bl li nx be tk er ea ne ors oc o H ls (by omega) ⟨⟨w, ns, R, k, D, hC.1, hC.2.1, hC.2.2.1, z2⟩, hv, hH, hN, hB, hF⟩ hP hD (va_forg hS) hl

set_option maxHeartbeats 1000000 in
set_option maxRecDepth 100000 in
theorem lc_19 (C : lwC p l s m meth c G ca Z b L xs) (hcl : cells + 2 ≤ 601024) (hsl : slots + 12 ≤ 7293033) (hil : i + 6 ≤ L) (hvv : v + 5000 < 2 ^ 31) (hRL : RLX v P Sn hs t S sc sh now sn hi u fm fl bf bl) (hP : va_P G vwCl (LW ca Z q1 a q2 d qo P Bf Dr Sn hs t S sc rd sr sh ac pe now dr kp sn hi ac u th hs ow tm en od fm fl bf bl li nx be tk er ea pe ne ors oc o) H) (hD : va_D (lwA s) (LW ca Z q1 a q2 d qo P Bf Dr Sn hs t S sc rd sr sh ac pe now dr kp sn hi ac u th hs ow tm en od fm fl bf bl li nx be tk er ea pe ne ors oc o)) (hS : va_S (lwA s) s.heap H []) (hl : lv_has ls 9 [(0, .ref b), (1, .ref q1), (2, .ref q2), (3, .ref qo), (4, .int (nI i))]) (KK : lwKK p l e s m below meth c G ca Z b q1 a q2 d qo cells slots i v Q) :
    W p l e room_1 s m #[.ref b] below meth c H [] cells slots Q (F0 m 1115 ls []) := by
  obtain ⟨⟨⟨hx, hb, hml, hown, htU⟩, hK, hX, hY, hA⟩, hXs, hbl, hL, hfl⟩ := id C
  have Cx := C.1
  have hcR : ∀ j, j ≤ 2 → cells + j ≤ room_1.cells := fun j hj => by show _ ≤ 601024; omega
  have hsR : ∀ j, j ≤ 12 → slots + j ≤ room_1.slots := fun j hj => by show _ ≤ 7293033; omega
  obtain ⟨⟨w, ns, R, k, D, hC⟩, hv, hH, hN, hB, hF⟩ := hRL
  obtain ⟨r0, S1, en1, ow1, th1, tm1, z1, z2, z3⟩ := Q_divisors hC (xs (i + 1)) en ow tm th
  refine lv_aload_n hx hb dL_law_1115 rfl (lv_at hl 1 rfl) ?_
  refine lw_arg C hS (lv_at hl 0 rfl) (lv_at hl 4 rfl) (k := 1) (by decide) hil dL_law_1116 dL_law_1117 dL_law_1119 dL_law_1120 dL_law_1121 ?_
  refine lw_i (sw_runV (As := [.int (xs (i + 1))]) (rest := []) Cx hP hD hS mv_X10_divisors ml_L_171 (c_X10_divisors l G ca Z q1 (a 0) (a 2) (a 38) (a 40) (a 39) (.ref (a 3)) (.ref (a 6)) (.ref (a 9)) (.int (bI hs)) (.ref (a 12)) (.ref (a 41)) (.ref (a 43)) (.ref (a 44)) (.ref (a 48)) (.ref (a 50)) (.int pe) (.ref (a 1)) H.size (xs (i + 1)) P S (r0, S1) z1) 7 rfl rfl rfl [0, 1, 3, 39, 41, 40] rfl rfl rfl rfl ⟨(Nat.le_of_ble_eq_true rfl), (Nat.le_of_ble_eq_true rfl)⟩ hl.1 rfl rfl (Nat.le_of_ble_eq_true rfl) dL_law_1122 ⟨hcR 0 (by decide), hsR 0 (by decide)⟩) hP hD hS hA [0, 1, 3, 39, 41, 40] [1, 2, 0, 3, 0, 0, 0, 0, 0, 0, 0, 0, 0, 0, 0, 0, 0, 0, 0, 0, 0, 0, 0, 0, 0, 0, 0, 0, 0, 0, 0, 0, 0, 0, 0, 0, 0, 0, 0, 4, 6, 5, 0, 0, 0, 0, 0, 0, 0, 0, 0, 0, 0, 0, 0, 0, 0, 0, 0, 0, 0, 0, 0, 0, 0, 0, 0, 0] rfl (fun _ => rfl) rfl (by decide +kernel) (fun r1 u9 H locs hw hP hD hS => ?_)
  obtain ⟨hw1, rfl⟩ := hw
  have hP : va_P G vwCl (LW ca Z q1 a q2 d qo P Bf Dr Sn hs t S1 sc rd sr sh ac pe now dr kp sn hi ac u th hs ow tm en od fm fl bf bl li nx be tk er ea pe ne ors oc o) H := hP
  have hD : va_D (lwA s) (LW ca Z q1 a q2 d qo P Bf Dr Sn hs t S1 sc rd sr sh ac pe now dr kp sn hi ac u th hs ow tm en od fm fl bf bl li nx be tk er ea pe ne ors oc o) := hD
  refine lv_aload_n hx hb dL_law_1125 rfl (lv_at hl 2 rfl) ?_
  refine lw_arg C hS (lv_at hl 0 rfl) (lv_at hl 4 rfl) (k := 1) (by decide) hil dL_law_1126 dL_law_1127 dL_law_1129 dL_law_1130 dL_law_1131 ?_
  refine lw_i (sw_runV (As := [.int (xs (i + 1))]) (rest := [.int r1]) Cx hP hD hS mv_X11_divisors ml_L_174 (c_X11_divisors l G ca Z q2 (d 7) (d 0) (d 8) (d 6) (.ref (d 0)) (.ref (d 1)) (.ref (d 2)) (.ref (d 3)) (.ref (d 4)) (.ref (d 5)) (.int u) (.int (bI hs)) (.ref (d 9)) (.ref (d 10)) (.int fl) (.ref (d 11)) (.int bl) (.int li) (.int nx) (.int be) (.int tk) (.int er) (.int ea) (.int pe) (.int ne) (.ref (d 12)) (.ref (d 13)) (.int oc) H.size (xs (i + 1)) en ow now th tm (r0, (en1, ow1, th1, tm1)) z3) 8 rfl rfl rfl [52, 60, 53, 61, 59] rfl rfl rfl rfl ⟨(Nat.le_of_ble_eq_true rfl), (Nat.le_of_ble_eq_true rfl)⟩ hl.1 rfl rfl (Nat.le_of_ble_eq_true rfl) dL_law_1132 ⟨hcR 0 (by decide), hsR 0 (by decide)⟩) hP hD hS hA [52, 60, 53, 61, 59] [0, 0, 0, 0, 0, 0, 0, 0, 0, 0, 0, 0, 0, 0, 0, 0, 0, 0, 0, 0, 0, 0, 0, 0, 0, 0, 0, 0, 0, 0, 0, 0, 0, 0, 0, 0, 0, 0, 0, 0, 0, 0, 0, 0, 0, 0, 0, 0, 0, 0, 0, 0, 1, 3, 0, 0, 0, 0, 0, 5, 2, 4, 0, 0, 0, 0, 0, 0] rfl (fun _ => rfl) rfl (by decide +kernel) (fun r2 u9 H locs hw hP hD hS => ?_)
  obtain ⟨hw2, rfl⟩ := hw
  have hP : va_P G vwCl (LW ca Z q1 a q2 d qo P Bf Dr Sn hs t S1 sc rd sr sh ac pe now dr kp sn hi ac u th1 hs ow1 tm1 en1 od fm fl bf bl li nx be tk er ea pe ne ors oc o) H := hP
  have hD : va_D (lwA s) (LW ca Z q1 a q2 d qo P Bf Dr Sn hs t S1 sc rd sr sh ac pe now dr kp sn hi ac u th1 hs ow1 tm1 en1 od fm fl bf bl li nx be tk er ea pe ne ors oc o) := hD
  refine lv_icmp_eq (tgt := 2547) hx hb dL_law_1135 (by decide) (fun _ => ?_) (fun c9 => absurd (hw1.symm.trans hw2) c9)
  refine va_forget hS.2.2 ?_
  refine W.widen (k := cells + 2) (n := slots + 12) (by omega) (by omega) ?_
  exact KK v P Bf Dr Sn hs t S1 sc rd sr sh ac pe now dr kp sn hi u th1 ow1 tm1 en1 od fm fl bf bl li nx be tk er ea ne ors oc o H ls (by omega) ⟨⟨w, ns, R, k, D, hC.1, hC.2.1, hC.2.2.1, z2⟩, hv, hH, hN, hB, hF⟩ hP hD (va_forg hS) hl
end
