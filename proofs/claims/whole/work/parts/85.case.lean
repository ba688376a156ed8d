/-! ===== the law: cases 40 to 49 ===== -/
section
variable {p : Program} {l : Launch} {e : Env} {s : State} {m : MethodId} {below : List Frame} {meth : Method} {c : Code} {H : Heap} {cells slots : Nat} {Q : State → Prop} {G : va_G} {ca Z : Nat → Nat} {b L q1 q2 qo i v : Nat} {a d : Nat → Nat} {xs : Nat → Int32} {ls : Array Slot}
  {P : PlanT} {Bf : PlanT} {Dr : PlanT} {Sn : PlanT} {hs : Bool} {t : HistT} {S : SieveT} {sc : SrcT} {rd : ReadT} {sr : ScrT} {sh : SheetT} {ac : Nat → Int32} {pe : Int32} {now : Nat → Int32} {dr : Nat → Int32} {kp : Nat → Int32} {sn : Nat → Int32} {hi : Nat → Int32} {u : Int32} {th : Int32} {ow : Nat → Int32} {tm : Nat → Int32} {en : Int32} {od : Nat → Int32} {fm : Nat → Int32} {fl : Int32} {bf : Nat → Int32} {bl : Int32} {li : Int32} {nx : Int32} {be : Int32} {tk : Int32} {er : Int32} {ea : Int32} {ne : Int32} {ors : Nat → Int32} {oc : Int32} {o : Nat → Int64}
set_option maxHeartbeats 1000000 in
set_option maxRecDepth 100000 in
theorem lc_40 (C : lwC p l s m meth c G ca Z b L xs) (hcl : cells + 2 ≤ 601024) (hsl : slots + 12 ≤ 7293033) (hil : i + 6 ≤ L) (hvv : v + 5000 < 2 ^ 31) (hRL : RLX v P Sn hs t S sc sh now sn hi u fm fl bf bl) (hP : va_P G vwCl (LW ca Z q1 a q2 d qo P Bf Dr Sn hs t S sc rd sr sh ac pe now dr kp sn hi ac u th hs ow tm en od fm fl bf bl li nx be tk er ea pe ne ors oc o) H) (hD : va_D (lwA s) (LW ca Z q1 a q2 d qo P Bf Dr Sn hs t S sc rd sr sh ac pe now dr kp sn hi ac u th hs ow tm en od fm fl bf bl li nx be tk er ea pe ne ors oc o)) (hS : va_S (lwA s) s.heap H []) (hl : lv_has ls 9 [(0, .ref b), (1, .ref q1), (2, .ref q2), (3, .ref qo), (4, .int (nI i))]) (KK : lwKK p l e s m below meth c G ca Z b q1 a q2 d qo cells slots i v Q) :
    W p l e room_1 s m #[.ref b] below meth c H [] cells slots Q (F0 m 1777 ls []) := by
  obtain ⟨⟨⟨hx, hb, hml, hown, htU⟩, hK, hX, hY, hA⟩, hXs, hbl, hL, hfl⟩ := id C
  have Cx := C.1
  have hcR : ∀ j, j ≤ 2 → cells + j ≤ room_1.cells := fun j hj => by show _ ≤ 601024; omega
  have hsR : ∀ j, j ≤ 12 → slots + j ≤ room_1.slots := fun j hj => by show _ ≤ 7293033; omega
  obtain ⟨⟨w, ns, R, k, D, hC⟩, hv, hH, hN, hB, hF⟩ := hRL
  obtain ⟨r0, S1, en1, ow1, tm1, z1, z2, z3⟩ := Q_shareBits hC en ow tm th
  refine lv_aload_n hx hb dL_law_1777 rfl (lv_at hl 1 rfl) ?_
  refine lw_i (sw_runV (As := []) (rest := []) Cx hP hD hS mv_X10_shareBits ml_L_249 (c_X10_shareBits l G ca Z q1 (a 0) (a 2) (a 38) (a 40) (a 39) (.ref (a 3)) (.ref (a 6)) (.ref (a 9)) (.int (bI hs)) (.ref (a 12)) (.ref (a 41)) (.ref (a 43)) (.ref (a 44)) (.ref (a 48)) (.ref (a 50)) (.int pe) (.ref (a 1)) H.size  P S (r0, S1) z1) 7 rfl rfl rfl [0, 1, 3, 39, 41, 40] rfl rfl rfl rfl ⟨(Nat.le_of_ble_eq_true rfl), (Nat.le_of_ble_eq_true rfl)⟩ hl.1 rfl rfl (Nat.le_of_ble_eq_true rfl) dL_law_1778 ⟨hcR 0 (by decide), hsR 0 (by decide)⟩) hP hD hS hA [0, 1, 3, 39, 41, 40] [1, 2, 0, 3, 0, 0, 0, 0, 0, 0, 0, 0, 0, 0, 0, 0, 0, 0, 0, 0, 0, 0, 0, 0, 0, 0, 0, 0, 0, 0, 0, 0, 0, 0, 0, 0, 0, 0, 0, 4, 6, 5, 0, 0, 0, 0, 0, 0, 0, 0, 0, 0, 0, 0, 0, 0, 0, 0, 0, 0, 0, 0, 0, 0, 0, 0, 0, 0] rfl (fun _ => rfl) rfl (by decide +kernel) (fun r1 u9 H locs hw hP hD hS => ?_)
  obtain ⟨hw1, rfl⟩ := hw
  have hP : va_P G vwCl (LW ca Z q1 a q2 d qo P Bf Dr Sn hs t S1 sc rd sr sh ac pe now dr kp sn hi ac u th hs ow tm en od fm fl bf bl li nx be tk er ea pe ne ors oc o) H := hP
  have hD : va_D (lwA s) (LW ca Z q1 a q2 d qo P Bf Dr Sn hs t S1 sc rd sr sh ac pe now dr kp sn hi ac u th hs ow tm en od fm fl bf bl li nx be tk er ea pe ne ors oc o) := hD
  refine lv_aload_n hx hb dL_law_1781 rfl (lv_at hl 2 rfl) ?_
  refine lw_i (sw_runV (As := []) (rest := [.int r1]) Cx hP hD hS mv_X11_shareBits ml_L_252 (c_X11_shareBits l G ca Z q2 (d 7) (d 0) (d 8) (d 6) (.ref (d 0)) (.ref (d 1)) (.ref (d 2)) (.ref (d 3)) (.ref (d 4)) (.ref (d 5)) (.int u) (.int (bI hs)) (.ref (d 9)) (.ref (d 10)) (.int fl) (.ref (d 11)) (.int bl) (.int li) (.int nx) (.int be) (.int tk) (.int er) (.int ea) (.int pe) (.int ne) (.ref (d 12)) (.ref (d 13)) (.int oc) H.size  en ow now th tm (r0, (en1, ow1, 0, tm1)) z3) 8 rfl rfl rfl [52, 60, 53, 61, 59] rfl rfl rfl rfl ⟨(Nat.le_of_ble_eq_true rfl), (Nat.le_of_ble_eq_true rfl)⟩ hl.1 rfl rfl (Nat.le_of_ble_eq_true rfl) dL_law_1782 ⟨hcR 0 (by decide), hsR 0 (by decide)⟩) hP hD hS hA [52, 60, 53, 61, 59] [0, 0, 0, 0, 0, 0, 0, 0, 0, 0, 0, 0, 0, 0, 0, 0, 0, 0, 0, 0, 0, 0, 0, 0, 0, 0, 0, 0, 0, 0, 0, 0, 0, 0, 0, 0, 0, 0, 0, 0, 0, 0, 0, 0, 0, 0, 0, 0, 0, 0, 0, 0, 1, 3, 0, 0, 0, 0, 0, 5, 2, 4, 0, 0, 0, 0, 0, 0] rfl (fun _ => rfl) rfl (by decide +kernel) (fun r2 u9 H locs hw hP hD hS => ?_)
  obtain ⟨hw2, rfl⟩ := hw
  have hP : va_P G vwCl (LW ca Z q1 a q2 d qo P Bf Dr Sn hs t S1 sc rd sr sh ac pe now dr kp sn hi ac u 0 hs ow1 tm1 en1 od fm fl bf bl li nx be tk er ea pe ne ors oc o) H := hP
  have hD : va_D (lwA s) (LW ca Z q1 a q2 d qo P Bf Dr Sn hs t S1 sc rd sr sh ac pe now dr kp sn hi ac u 0 hs ow1 tm1 en1 od fm fl bf bl li nx be tk er ea pe ne ors oc o) := hD
  refine lv_icmp_eq (tgt := 2547) hx hb dL_law_1785 (by decide) (fun _ => ?_) (fun c9 => absurd (hw1.symm.trans hw2) c9)
  refine va_forget hS.2.2 ?_
  refine W.widen (k := cells + 2) (n := slots + 12) (by omega) (by omega) ?_
  exact KK v P Bf Dr Sn hs t S1 sc rd sr sh ac pe now dr kp sn hi u 0 ow1 tm1 en1 od fm fl bf bl li nx be tk er ea ne ors oc o H ls (by omega) ⟨⟨w, ns, R, k, D, hC.1, hC.2.1, hC.2.2.1, z2⟩, hv, hH, hN, hB, hF⟩ hP hD (va_forg hS) hl

set_option maxHeartbeats 1000000 in
set_option maxRecDepth 100000 in
theorem lc_41 (C : lwC p l s m meth c G ca Z b L xs) (hcl : cells + 2 ≤ 601024) (hsl : slots + 12 ≤ 7293033) (hil : i + 6 ≤ L) (hvv : v + 5000 < 2 ^ 31) (hRL : RLX v P Sn hs t S sc sh now sn hi u fm fl bf bl) (hP : va_P G vwCl (LW ca Z q1 a q2 d qo P Bf Dr Sn hs t S sc rd sr sh ac pe now dr kp sn hi ac u th hs ow tm en od fm fl bf bl li nx be tk er ea pe ne ors oc o) H) (hD : va_D (lwA s) (LW ca Z q1 a q2 d qo P Bf Dr Sn hs t S sc rd sr sh ac pe now dr kp sn hi ac u th hs ow tm en od fm fl bf bl li nx be tk er ea pe ne ors oc o)) (hS : va_S (lwA s) s.heap H []) (hl : lv_has ls 9 [(0, .ref b), (1, .ref q1), (2, .ref q2), (3, .ref qo), (4, .int (nI i))]) (KK : lwKK p l e s m below meth c G ca Z b q1 a q2 d qo cells slots i v Q) :
    W p l e room_1 s m #[.ref b] below meth c H [] cells slots Q (F0 m 1790 ls []) := by
  obtain ⟨⟨⟨hx, hb, hml, hown, htU⟩, hK, hX, hY, hA⟩, hXs, hbl, hL, hfl⟩ := id C
  have Cx := C.1
  have hcR : ∀ j, j ≤ 2 → cells + j ≤ room_1.cells := fun j hj => by show _ ≤ 601024; omega
  have hsR : ∀ j, j ≤ 12 → slots + j ≤ room_1.slots := fun j hj => by show _ ≤ 7293033; omega
  obtain ⟨⟨w, ns, R, k, D, hC⟩, hv, hH, hN, hB, hF⟩ := hRL
  obtain ⟨r0, S1, en1, ow1, tm1, z1, z2, z3, z5⟩ := Q_useful hC en ow tm th
  refine lv_aload_n hx hb dL_law_1790 rfl (lv_at hl 1 rfl) ?_
  refine lw_d (sw_runV (As := []) (rest := []) Cx hP hD hS mv_X10_useful ml_L_253 (c_X10_useful l G ca Z q1 (a 0) (a 2) (a 38) (a 40) (a 39) (.ref (a 3)) (.ref (a 6)) (.ref (a 9)) (.int (bI hs)) (.ref (a 12)) (.ref (a 41)) (.ref (a 43)) (.ref (a 44)) (.ref (a 48)) (.ref (a 50)) (.int pe) (.ref (a 1)) H.size  P S (r0, S1) z1) 7 rfl rfl rfl [0, 1, 3, 39, 41, 40] rfl rfl rfl rfl ⟨(Nat.le_of_ble_eq_true rfl), (Nat.le_of_ble_eq_true rfl)⟩ hl.1 rfl rfl (Nat.le_of_ble_eq_true rfl) dL_law_1791 ⟨hcR 0 (by decide), hsR 0 (by decide)⟩) hP hD hS hA [0, 1, 3, 39, 41, 40] [1, 2, 0, 3, 0, 0, 0, 0, 0, 0, 0, 0, 0, 0, 0, 0, 0, 0, 0, 0, 0, 0, 0, 0, 0, 0, 0, 0, 0, 0, 0, 0, 0, 0, 0, 0, 0, 0, 0, 4, 6, 5, 0, 0, 0, 0, 0, 0, 0, 0, 0, 0, 0, 0, 0, 0, 0, 0, 0, 0, 0, 0, 0, 0, 0, 0, 0, 0] rfl (fun _ => rfl) rfl (by decide +kernel) (fun r1 u9 H locs hw hP hD hS => ?_)
  obtain ⟨hw1, rfl⟩ := hw
  have hP : va_P G vwCl (LW ca Z q1 a q2 d qo P Bf Dr Sn hs t S1 sc rd sr sh ac pe now dr kp sn hi ac u th hs ow tm en od fm fl bf bl li nx be tk er ea pe ne ors oc o) H := hP
  have hD : va_D (lwA s) (LW ca Z q1 a q2 d qo P Bf Dr Sn hs t S1 sc rd sr sh ac pe now dr kp sn hi ac u th hs ow tm en od fm fl bf bl li nx be tk er ea pe ne ors oc o) := hD
  have hw1 : r0 = r1 := hw1
  rw [← hw1]
  refine lv_dstore (lv' := (5, .double r0) :: [(0, .ref b), (1, .ref q1), (2, .ref q2), (3, .ref qo), (4, .int (nI i))]) hx hb dL_law_1794 hl (by decide) rfl (fun ls hl => ?_)
  refine lv_aload_n hx hb dL_law_1796 rfl (lv_at hl 3 rfl) ?_
  refine lw_d (sw_runV (As := []) (rest := []) Cx hP hD hS mv_X11_useful ml_L_257 (c_X11_useful l G ca Z q2 (d 7) (d 0) (d 8) (d 6) (.ref (d 0)) (.ref (d 1)) (.ref (d 2)) (.ref (d 3)) (.ref (d 4)) (.ref (d 5)) (.int u) (.int (bI hs)) (.ref (d 9)) (.ref (d 10)) (.int fl) (.ref (d 11)) (.int bl) (.int li) (.int nx) (.int be) (.int tk) (.int er) (.int ea) (.int pe) (.int ne) (.ref (d 12)) (.ref (d 13)) (.int oc) H.size  en ow now th tm (r0, (en1, ow1, 0, tm1)) z3) 8 rfl rfl rfl [52, 60, 53, 61, 59] rfl rfl rfl rfl ⟨(Nat.le_of_ble_eq_true rfl), (Nat.le_of_ble_eq_true rfl)⟩ hl.1 rfl rfl (Nat.le_of_ble_eq_true rfl) dL_law_1797 ⟨hcR 0 (by decide), hsR 0 (by decide)⟩) hP hD hS hA [52, 60, 53, 61, 59] [0, 0, 0, 0, 0, 0, 0, 0, 0, 0, 0, 0, 0, 0, 0, 0, 0, 0, 0, 0, 0, 0, 0, 0, 0, 0, 0, 0, 0, 0, 0, 0, 0, 0, 0, 0, 0, 0, 0, 0, 0, 0, 0, 0, 0, 0, 0, 0, 0, 0, 0, 0, 1, 3, 0, 0, 0, 0, 0, 5, 2, 4, 0, 0, 0, 0, 0, 0] rfl (fun _ => rfl) rfl (by decide +kernel) (fun r2 u9 H locs hw hP hD hS => ?_)
  obtain ⟨hw2, rfl⟩ := hw
  have hP : va_P G vwCl (LW ca Z q1 a q2 d qo P Bf Dr Sn hs t S1 sc rd sr sh ac pe now dr kp sn hi ac u 0 hs ow1 tm1 en1 od fm fl bf bl li nx be tk er ea pe ne ors oc o) H := hP
  have hD : va_D (lwA s) (LW ca Z q1 a q2 d qo P Bf Dr Sn hs t S1 sc rd sr sh ac pe now dr kp sn hi ac u 0 hs ow1 tm1 en1 od fm fl bf bl li nx be tk er ea pe ne ors oc o) := hD
  have hw2 : r0 = r2 := hw2
  rw [← hw2]
  refine lv_dstore (lv' := (7, .double r0) :: (5, .double r0) :: [(0, .ref b), (1, .ref q1), (2, .ref q2), (3, .ref qo), (4, .int (nI i))]) hx hb dL_law_1800 hl (by decide) rfl (fun ls hl => ?_)
  refine lw_dtail C (lv_at hl 1 rfl) (lv_at hl 0 rfl) z5 dL_law_1802 dL_law_1804 dL_law_1806 dL_law_1807 (by decide) dL_law_1828 (by decide) ?_
  refine va_forget hS.2.2 ?_
  refine W.widen (k := cells + 2) (n := slots + 12) (by omega) (by omega) ?_
  exact KK v P Bf Dr Sn hs t S1 sc rd sr sh ac pe now dr kp sn hi u 0 ow1 tm1 en1 od fm fl bf bl li nx be tk er ea ne ors oc o H ls (by omega) ⟨⟨w, ns, R, k, D, hC.1, hC.2.1, hC.2.2.1, z2⟩, hv, hH, hN, hB, hF⟩ hP hD (va_forg hS) (lv_sub hl [2, 3, 4, 5, 6] rfl)

set_option maxHeartbeats 1000000 in
set_option maxRecDepth 100000 in
theorem lc_42 (C : lwC p l s m meth c G ca Z b L xs) (hcl : cells + 2 ≤ 601024) (hsl : slots + 12 ≤ 7293033) (hil : i + 6 ≤ L) (hvv : v + 5000 < 2 ^ 31) (hRL : RLX v P Sn hs t S sc sh now sn hi u fm fl bf bl) (hP : va_P G vwCl (LW ca Z q1 a q2 d qo P Bf Dr Sn hs t S sc rd sr sh ac pe now dr kp sn hi ac u th hs ow tm en od fm fl bf bl li nx be tk er ea pe ne ors oc o) H) (hD : va_D (lwA s) (LW ca Z q1 a q2 d qo P Bf Dr Sn hs t S sc rd sr sh ac pe now dr kp sn hi ac u th hs ow tm en od fm fl bf bl li nx be tk er ea pe ne ors oc o)) (hS : va_S (lwA s) s.heap H []) (hl : lv_has ls 9 [(0, .ref b), (1, .ref q1), (2, .ref q2), (3, .ref qo), (4, .int (nI i))]) (KK : lwKK p l e s m below meth c G ca Z b q1 a q2 d qo cells slots i v Q) :
    W p l e room_1 s m #[.ref b] below meth c H [] cells slots Q (F0 m 1831 ls []) := by
  obtain ⟨⟨⟨hx, hb, hml, hown, htU⟩, hK, hX, hY, hA⟩, hXs, hbl, hL, hfl⟩ := id C
  have Cx := C.1
  have hcR : ∀ j, j ≤ 2 → cells + j ≤ room_1.cells := fun j hj => by show _ ≤ 601024; omega
  have hsR : ∀ j, j ≤ 12 → slots + j ≤ room_1.slots := fun j hj => by show _ ≤ 7293033; omega
  obtain ⟨⟨w, ns, R, k, D, hC⟩, hv, hH, hN, hB, hF⟩ := hRL
  obtain ⟨r0, S1, z1, z2, z3, z5⟩ := Q_spokeShare hC th
  refine lv_aload_n hx hb dL_law_1831 rfl (lv_at hl 1 rfl) ?_
  refine lw_f (sw_runV (As := []) (rest := []) Cx hP hD hS mv_X10_spokeShare ml_L_258 (c_X10_spokeShare l G ca Z q1 (a 0) (a 2) (a 38) (a 40) (a 39) (.ref (a 3)) (.ref (a 6)) (.ref (a 9)) (.int (bI hs)) (.ref (a 12)) (.ref (a 41)) (.ref (a 43)) (.ref (a 44)) (.ref (a 48)) (.ref (a 50)) (.int pe) (.ref (a 1)) H.size  P S (r0, S1) z1) 7 rfl rfl rfl [0, 1, 3, 39, 41, 40] rfl rfl rfl rfl ⟨(Nat.le_of_ble_eq_true rfl), (Nat.le_of_ble_eq_true rfl)⟩ hl.1 rfl rfl (Nat.le_of_ble_eq_true rfl) dL_law_1832 ⟨hcR 0 (by decide), hsR 0 (by decide)⟩) hP hD hS hA [0, 1, 3, 39, 41, 40] [1, 2, 0, 3, 0, 0, 0, 0, 0, 0, 0, 0, 0, 0, 0, 0, 0, 0, 0, 0, 0, 0, 0, 0, 0, 0, 0, 0, 0, 0, 0, 0, 0, 0, 0, 0, 0, 0, 0, 4, 6, 5, 0, 0, 0, 0, 0, 0, 0, 0, 0, 0, 0, 0, 0, 0, 0, 0, 0, 0, 0, 0, 0, 0, 0, 0, 0, 0] rfl (fun _ => rfl) rfl (by decide +kernel) (fun r1 u9 H locs hw hP hD hS => ?_)
  obtain ⟨hw1, rfl⟩ := hw
  have hP : va_P G vwCl (LW ca Z q1 a q2 d qo P Bf Dr Sn hs t S1 sc rd sr sh ac pe now dr kp sn hi ac u th hs ow tm en od fm fl bf bl li nx be tk er ea pe ne ors oc o) H := hP
  have hD : va_D (lwA s) (LW ca Z q1 a q2 d qo P Bf Dr Sn hs t S1 sc rd sr sh ac pe now dr kp sn hi ac u th hs ow tm en od fm fl bf bl li nx be tk er ea pe ne ors oc o) := hD
  have hw1 : r0 = r1 := hw1
  rw [← hw1]
  refine lv_f2d hx hb dL_law_1835 z5.1 ?_
  refine lv_dstore (lv' := (5, .double (FP.f2d r0)) :: [(0, .ref b), (1, .ref q1), (2, .ref q2), (3, .ref qo), (4, .int (nI i))]) hx hb dL_law_1836 hl (by decide) rfl (fun ls hl => ?_)
  refine lv_aload_n hx hb dL_law_1838 rfl (lv_at hl 3 rfl) ?_
  refine lw_f (sw_runV (As := []) (rest := []) Cx hP hD hS mv_X11_spokeShare ml_L_262 (c_X11_spokeShare l G ca Z q2 (d 0) (d 6) (.ref (d 0)) (.ref (d 1)) (.ref (d 2)) (.ref (d 3)) (.ref (d 4)) (.ref (d 5)) (.int u) (.int (bI hs)) (.ref (d 7)) (.ref (d 8)) (.int en) (.ref (d 9)) (.ref (d 10)) (.int fl) (.ref (d 11)) (.int bl) (.int li) (.int nx) (.int be) (.int tk) (.int er) (.int ea) (.int pe) (.int ne) (.ref (d 12)) (.ref (d 13)) (.int oc) H.size  now th (r0, 0) z3) 8 rfl rfl rfl [52, 53, 59] rfl rfl rfl rfl ⟨(Nat.le_of_ble_eq_true rfl), (Nat.le_of_ble_eq_true rfl)⟩ hl.1 rfl rfl (Nat.le_of_ble_eq_true rfl) dL_law_1839 ⟨hcR 0 (by decide), hsR 0 (by decide)⟩) hP hD hS hA [52, 53, 59] [0, 0, 0, 0, 0, 0, 0, 0, 0, 0, 0, 0, 0, 0, 0, 0, 0, 0, 0, 0, 0, 0, 0, 0, 0, 0, 0, 0, 0, 0, 0, 0, 0, 0, 0, 0, 0, 0, 0, 0, 0, 0, 0, 0, 0, 0, 0, 0, 0, 0, 0, 0, 1, 2, 0, 0, 0, 0, 0, 3, 0, 0, 0, 0, 0, 0, 0, 0] rfl (fun _ => rfl) rfl (by decide +kernel) (fun r2 u9 H locs hw hP hD hS => ?_)
  obtain ⟨hw2, rfl⟩ := hw
  have hP : va_P G vwCl (LW ca Z q1 a q2 d qo P Bf Dr Sn hs t S1 sc rd sr sh ac pe now dr kp sn hi ac u 0 hs ow tm en od fm fl bf bl li nx be tk er ea pe ne ors oc o) H := hP
  have hD : va_D (lwA s) (LW ca Z q1 a q2 d qo P Bf Dr Sn hs t S1 sc rd sr sh ac pe now dr kp sn hi ac u 0 hs ow tm en od fm fl bf bl li nx be tk er ea pe ne ors oc o) := hD
  have hw2 : r0 = r2 := hw2
  rw [← hw2]
  refine lv_f2d hx hb dL_law_1842 z5.1 ?_
  refine lv_dstore (lv' := (7, .double (FP.f2d r0)) :: (5, .double (FP.f2d r0)) :: [(0, .ref b), (1, .ref q1), (2, .ref q2), (3, .ref qo), (4, .int (nI i))]) hx hb dL_law_1843 hl (by decide) rfl (fun ls hl => ?_)
  refine lw_dtail C (lv_at hl 1 rfl) (lv_at hl 0 rfl) z5.2 dL_law_1845 dL_law_1847 dL_law_1849 dL_law_1850 (by decide) dL_law_1871 (by decide) ?_
  refine va_forget hS.2.2 ?_
  refine W.widen (k := cells + 2) (n := slots + 12) (by omega) (by omega) ?_
  exact KK v P Bf Dr Sn hs t S1 sc rd sr sh ac pe now dr kp sn hi u 0 ow tm en od fm fl bf bl li nx be tk er ea ne ors oc o H ls (by omega) ⟨⟨w, ns, R, k, D, hC.1, hC.2.1, hC.2.2.1, z2⟩, hv, hH, hN, hB, hF⟩ hP hD (va_forg hS) (lv_sub hl [2, 3, 4, 5, 6] rfl)

set_option maxHeartbeats 1000000 in
set_option maxRecDepth 100000 in
theorem lc_43 (C : lwC p l s m meth c G ca Z b L xs) (hcl : cells + 2 ≤ 601024) (hsl : slots + 12 ≤ 7293033) (hil : i + 6 ≤ L) (hvv : v + 5000 < 2 ^ 31) (hRL : RLX v P Sn hs t S sc sh now sn hi u fm fl bf bl) (hP : va_P G vwCl (LW ca Z q1 a q2 d qo P Bf Dr Sn hs t S sc rd sr sh ac pe now dr kp sn hi ac u th hs ow tm en od fm fl bf bl li nx be tk er ea pe ne ors oc o) H) (hD : va_D (lwA s) (LW ca Z q1 a q2 d qo P Bf Dr Sn hs t S sc rd sr sh ac pe now dr kp sn hi ac u th hs ow tm en od fm fl bf bl li nx be tk er ea pe ne ors oc o)) (hS : va_S (lwA s) s.heap H []) (hl : lv_has ls 9 [(0, .ref b), (1, .ref q1), (2, .ref q2), (3, .ref qo), (4, .int (nI i))]) (KK : lwKK p l e s m below meth c G ca Z b q1 a q2 d qo cells slots i v Q) :
    W p l e room_1 s m #[.ref b] below meth c H [] cells slots Q (F0 m 1874 ls []) := by
  obtain ⟨⟨⟨hx, hb, hml, hown, htU⟩, hK, hX, hY, hA⟩, hXs, hbl, hL, hfl⟩ := id C
  have Cx := C.1
  have hcR : ∀ j, j ≤ 2 → cells + j ≤ room_1.cells := fun j hj => by show _ ≤ 601024; omega
  have hsR : ∀ j, j ≤ 12 → slots + j ≤ room_1.slots := fun j hj => by show _ ≤ 7293033; omega
  obtain ⟨⟨w, ns, R, k, D, hC⟩, hv, hH, hN, hB, hF⟩ := hRL
  obtain ⟨r0, ac1, Bf1, t1, P1, S1, b1, en1, hi1, kp1, now1, ow1, th1, tm1, u1, z1, z3, z4, y0, w1, ns1, R1, k1, D1, v1, y1, y2, y3, y4⟩ := O_lay hC hH hv (by omega) (xs (i + 1)) ac kp Bf en th ow tm
  refine lv_aload_n hx hb dL_law_1874 rfl (lv_at hl 1 rfl) ?_
  refine lw_arg C hS (lv_at hl 0 rfl) (lv_at hl 4 rfl) (k := 1) (by decide) hil dL_law_1875 dL_law_1876 dL_law_1878 dL_law_1879 dL_law_1880 ?_
  refine lv_aload_n hx hb dL_law_1881 rfl (lv_at hl 3 rfl) ?_
  refine lw_i (sw_runH (As := [.ref q1, .int (xs (i + 1)), .ref qo]) (rest := []) Cx hP hD hS mh_L_lay ml_L_263 (c_L_lay l hfl G ca Z q1 (a 50) (a 3) (a 5) (a 4) (a 12) (a 13) (fun j => a (14 + 3 * j)) (fun j => a (16 + 3 * j)) (fun j => a (15 + 3 * j)) (a 0) (a 2) (a 1) (a 38) (a 40) (a 39) (.ref (a 6)) (.ref (a 9)) (.int (bI hs)) (.ref (a 41)) (.ref (a 43)) (.ref (a 44)) (.ref (a 48)) (.int pe) qo H.size (xs (i + 1)) ac Bf t P S o (r0, (ac1, Bf1, t1, P1, S1)) z1 (agk z4)) [0, 51, 4, 6, 5, 13, 14, 15, 17, 16, 18, 20, 19, 21, 23, 22, 24, 26, 25, 27, 29, 28, 30, 32, 31, 33, 35, 34, 36, 38, 37, 1, 3, 2, 39, 41, 40, 67] rfl rfl rfl rfl ⟨(Nat.le_of_ble_eq_true rfl), (Nat.le_of_ble_eq_true rfl)⟩ hl.1 rfl rfl (Nat.le_of_ble_eq_true rfl) dL_law_1882 ⟨hcR 1 (by decide), hsR 6 (by decide)⟩) hP hD hS hA [0, 51, 4, 6, 5, 13, 14, 15, 17, 16, 18, 20, 19, 21, 23, 22, 24, 26, 25, 27, 29, 28, 30, 32, 31, 33, 35, 34, 36, 38, 37, 1, 3, 2, 39, 41, 40, 67] [1, 32, 34, 33, 3, 5, 4, 0, 0, 0, 0, 0, 0, 6, 7, 8, 10, 9, 11, 13, 12, 14, 16, 15, 17, 19, 18, 20, 22, 21, 23, 25, 24, 26, 28, 27, 29, 31, 30, 35, 37, 36, 0, 0, 0, 0, 0, 0, 0, 0, 0, 2, 0, 0, 0, 0, 0, 0, 0, 0, 0, 0, 0, 0, 0, 0, 0, 38] rfl (fun _ => rfl) rfl (by decide +kernel) (fun r1 u9 H locs hw hP hD hS => ?_)
  obtain ⟨hw1, rfl⟩ := hw
  have hP : va_P G vwCl (LW ca Z q1 a q2 d qo P1 Bf1 Dr Sn hs t1 S1 sc rd sr sh ac1 pe now dr kp sn hi ac u th hs ow tm en od fm fl bf bl li nx be tk er ea pe ne ors oc (((wr1 r0 o).2))) H := hP
  have hD : va_D (lwA s) (LW ca Z q1 a q2 d qo P1 Bf1 Dr Sn hs t1 S1 sc rd sr sh ac1 pe now dr kp sn hi ac u th hs ow tm en od fm fl bf bl li nx be tk er ea pe ne ors oc (((wr1 r0 o).2))) := hD
  refine lv_istore (lv' := (5, .int r1) :: [(0, .ref b), (1, .ref q1), (2, .ref q2), (3, .ref qo), (4, .int (nI i))]) hx hb dL_law_1885 hl (by decide) rfl (fun ls hl => ?_)
  refine lv_aload_n hx hb dL_law_1887 rfl (lv_at hl 3 rfl) ?_
  refine lw_arg C hS (lv_at hl 1 rfl) (lv_at hl 5 rfl) (k := 1) (by decide) hil dL_law_1888 dL_law_1889 dL_law_1891 dL_law_1892 dL_law_1893 ?_
  refine lw_i (sw_runV (As := [.int (xs (i + 1))]) (rest := []) Cx hP hD hS mv_X11_lay ml_L_265 (c_X11_lay l G ca Z q2 (d 5) (d 4) (d 2) (d 0) (d 7) (d 8) (d 6) (.ref (d 1)) (.ref (d 3)) (.int (bI hs)) (.ref (d 9)) (.ref (d 10)) (.int fl) (.ref (d 11)) (.int bl) (.int li) (.int nx) (.int be) (.int tk) (.int er) (.int ea) (.int pe) (.int ne) (.ref (d 12)) (.ref (d 13)) (.int oc) H.size (xs (i + 1)) ac en hi kp now ow th tm u (b1, (ac1, en1, hi1, kp1, now1, ow1, th1, tm1, u1)) z3) 8 rfl rfl rfl [52, 58, 57, 55, 53, 60, 61, 59] rfl rfl rfl rfl ⟨(Nat.le_of_ble_eq_true rfl), (Nat.le_of_ble_eq_true rfl)⟩ hl.1 rfl rfl (Nat.le_of_ble_eq_true rfl) dL_law_1894 ⟨hcR 1 (by decide), hsR 6 (by decide)⟩) hP hD hS hA [52, 58, 57, 55, 53, 60, 61, 59] [0, 0, 0, 0, 0, 0, 0, 0, 0, 0, 0, 0, 0, 0, 0, 0, 0, 0, 0, 0, 0, 0, 0, 0, 0, 0, 0, 0, 0, 0, 0, 0, 0, 0, 0, 0, 0, 0, 0, 0, 0, 0, 0, 0, 0, 0, 0, 0, 0, 0, 0, 0, 1, 5, 0, 4, 0, 3, 2, 8, 6, 7, 0, 0, 0, 0, 0, 0] rfl (fun _ => rfl) rfl (by decide +kernel) (fun r2 u9 H locs hw hP hD hS => ?_)
  obtain ⟨hw2, rfl⟩ := hw
  have hP : va_P G vwCl (LW ca Z q1 a q2 d qo P1 Bf1 Dr Sn hs t1 S1 sc rd sr sh ac1 pe now1 dr kp1 sn hi1 ac1 u1 th1 hs ow1 tm1 en1 od fm fl bf bl li nx be tk er ea pe ne ors oc (((wr1 r0 o).2))) H := hP
  have hD : va_D (lwA s) (LW ca Z q1 a q2 d qo P1 Bf1 Dr Sn hs t1 S1 sc rd sr sh ac1 pe now1 dr kp1 sn hi1 ac1 u1 th1 hs ow1 tm1 en1 od fm fl bf bl li nx be tk er ea pe ne ors oc (((wr1 r0 o).2))) := hD
  refine lv_istore (lv' := (6, .int r2) :: (5, .int r1) :: [(0, .ref b), (1, .ref q1), (2, .ref q2), (3, .ref qo), (4, .int (nI i))]) hx hb dL_law_1897 hl (by decide) rfl (fun ls hl => ?_)
  refine lv_aload_n hx hb dL_law_1899 rfl (lv_at hl 4 rfl) ?_
  refine lw_i (sw_runV (As := []) (rest := []) Cx hP hD hS mv_X11_thrown ml_L_105 (c_X11_thrown l G ca Z q2 (.ref (d 0)) (.ref (d 1)) (.ref (d 2)) (.ref (d 3)) (.ref (d 4)) (.ref (d 5)) (.ref (d 6)) (.ref (d 0)) (.int u1) (.int (bI hs)) (.ref (d 7)) (.ref (d 8)) (.int en1) (.ref (d 9)) (.ref (d 10)) (.int fl) (.ref (d 11)) (.int bl) (.int li) (.int nx) (.int be) (.int tk) (.int er) (.int ea) (.int pe) (.int ne) (.ref (d 12)) (.ref (d 13)) (.int oc) H.size th1 th1 rfl) 8 rfl rfl rfl [52] rfl rfl rfl rfl ⟨(Nat.le_of_ble_eq_true rfl), (Nat.le_of_ble_eq_true rfl)⟩ hl.1 rfl rfl (Nat.le_of_ble_eq_true rfl) dL_law_1900 ⟨hcR 1 (by decide), hsR 6 (by decide)⟩) hP hD hS hA [52] [0, 0, 0, 0, 0, 0, 0, 0, 0, 0, 0, 0, 0, 0, 0, 0, 0, 0, 0, 0, 0, 0, 0, 0, 0, 0, 0, 0, 0, 0, 0, 0, 0, 0, 0, 0, 0, 0, 0, 0, 0, 0, 0, 0, 0, 0, 0, 0, 0, 0, 0, 0, 1, 0, 0, 0, 0, 0, 0, 0, 0, 0, 0, 0, 0, 0, 0, 0] rfl (fun _ => rfl) rfl (by decide +kernel) (fun r3 u9 H locs hw hP hD hS => ?_)
  have hw3 : th1 = r3 := hw
  have hP : va_P G vwCl (LW ca Z q1 a q2 d qo P1 Bf1 Dr Sn hs t1 S1 sc rd sr sh ac1 pe now1 dr kp1 sn hi1 ac1 u1 th1 hs ow1 tm1 en1 od fm fl bf bl li nx be tk er ea pe ne ors oc (((wr1 r0 o).2))) H := hP
  have hD : va_D (lwA s) (LW ca Z q1 a q2 d qo P1 Bf1 Dr Sn hs t1 S1 sc rd sr sh ac1 pe now1 dr kp1 sn hi1 ac1 u1 th1 hs ow1 tm1 en1 od fm fl bf bl li nx be tk er ea pe ne ors oc (((wr1 r0 o).2))) := hD
  have hag := agw1 (o := o) z4
  refine lw_tail (q0 := 67) C hP rfl (lv_at hl 5 rfl) (lv_at hl 1 rfl) (lv_at hl 0 rfl) (hw1.symm.trans (hag.1.trans hw3)) (fun z9 => by rw [← hw2]; exact hag.2 (hw3.trans z9)) dL_law_1903 dL_law_1905 (by decide) dL_law_1910 dL_law_1912 (by decide) dL_law_1915 dL_law_1916 dL_law_1917 dL_law_1918 dL_law_1920 dL_law_1921 dL_law_1922 (by decide) dL_law_1927 (by decide) ?_
  refine va_forget hS.2.2 ?_
  refine W.widen (k := cells + 2) (n := slots + 12) (by omega) (by omega) ?_
  exact KK v1 P1 Bf1 Dr Sn hs t1 S1 sc rd sr sh ac1 pe now1 dr kp1 sn hi1 u1 th1 ow1 tm1 en1 od fm fl bf bl li nx be tk er ea ne ors oc ((wr1 r0 o).2) H ls (by omega) ⟨⟨w1, ns1, R1, k1, D1, y1⟩, y2, y0, hN, hB, hF⟩ hP hD (va_forg hS) (lv_sub hl [2, 3, 4, 5, 6] rfl)

set_option maxHeartbeats 1000000 in
set_option maxRecDepth 100000 in
theorem lc_44 (C : lwC p l s m meth c G ca Z b L xs) (hcl : cells + 2 ≤ 601024) (hsl : slots + 12 ≤ 7293033) (hil : i + 6 ≤ L) (hvv : v + 5000 < 2 ^ 31) (hRL : RLX v P Sn hs t S sc sh now sn hi u fm fl bf bl) (hP : va_P G vwCl (LW ca Z q1 a q2 d qo P Bf Dr Sn hs t S sc rd sr sh ac pe now dr kp sn hi ac u th hs ow tm en od fm fl bf bl li nx be tk er ea pe ne ors oc o) H) (hD : va_D (lwA s) (LW ca Z q1 a q2 d qo P Bf Dr Sn hs t S sc rd sr sh ac pe now dr kp sn hi ac u th hs ow tm en od fm fl bf bl li nx be tk er ea pe ne ors oc o)) (hS : va_S (lwA s) s.heap H []) (hl : lv_has ls 9 [(0, .ref b), (1, .ref q1), (2, .ref q2), (3, .ref qo), (4, .int (nI i))]) (KK : lwKK p l e s m below meth c G ca Z b q1 a q2 d qo cells slots i v Q) :
    W p l e room_1 s m #[.ref b] below meth c H [] cells slots Q (F0 m 1930 ls []) := by
  obtain ⟨⟨⟨hx, hb, hml, hown, htU⟩, hK, hX, hY, hA⟩, hXs, hbl, hL, hfl⟩ := id C
  have Cx := C.1
  have hcR : ∀ j, j ≤ 2 → cells + j ≤ room_1.cells := fun j hj => by show _ ≤ 601024; omega
  have hsR : ∀ j, j ≤ 12 → slots + j ≤ room_1.slots := fun j hj => by show _ ≤ 7293033; omega
  obtain ⟨⟨w, ns, R, k, D, hC⟩, hv, hH, hN, hB, hF⟩ := hRL
  obtain ⟨ac1, Bf1, t1, P1, S1, b1, hi1, kp1, now1, th1, u1, z1, z3, y0, w1, ns1, R1, k1, D1, v1, y1, y2, y3, y4⟩ := O_drop hC hH hv (by omega)  ac kp Bf th
  refine lv_aload_n hx hb dL_law_1930 rfl (lv_at hl 1 rfl) ?_
  refine lw_xi (sw_xunV (As := []) (rest := []) Cx hP hD hS mv_X10_drop ml_L_266 (c_X10_drop l hfl G ca Z q1 (a 50) (a 3) (a 5) (a 4) (a 12) (a 13) (fun j => a (14 + 3 * j)) (fun j => a (16 + 3 * j)) (fun j => a (15 + 3 * j)) (a 0) (a 2) (a 1) (a 38) (a 40) (a 39) (.ref (a 6)) (.ref (a 9)) (.int (bI hs)) (.ref (a 41)) (.ref (a 43)) (.ref (a 44)) (.ref (a 48)) (.int pe) H.size  ac Bf t P S (.inr b1, (ac1, Bf1, t1, P1, S1)) z1) 7 rfl rfl rfl [0, 51, 4, 6, 5, 13, 14, 15, 17, 16, 18, 20, 19, 21, 23, 22, 24, 26, 25, 27, 29, 28, 30, 32, 31, 33, 35, 34, 36, 38, 37, 1, 3, 2, 39, 41, 40] rfl rfl rfl rfl ⟨(Nat.le_of_ble_eq_true rfl), (Nat.le_of_ble_eq_true rfl)⟩ hl.1 rfl rfl (Nat.le_of_ble_eq_true rfl) dL_law_1931 ⟨hcR 1 (by decide), hsR 6 (by decide)⟩) hP hD hS hA [0, 51, 4, 6, 5, 13, 14, 15, 17, 16, 18, 20, 19, 21, 23, 22, 24, 26, 25, 27, 29, 28, 30, 32, 31, 33, 35, 34, 36, 38, 37, 1, 3, 2, 39, 41, 40] [1, 32, 34, 33, 3, 5, 4, 0, 0, 0, 0, 0, 0, 6, 7, 8, 10, 9, 11, 13, 12, 14, 16, 15, 17, 19, 18, 20, 22, 21, 23, 25, 24, 26, 28, 27, 29, 31, 30, 35, 37, 36, 0, 0, 0, 0, 0, 0, 0, 0, 0, 2, 0, 0, 0, 0, 0, 0, 0, 0, 0, 0, 0, 0, 0, 0, 0, 0] rfl (fun _ => rfl) rfl (by decide +kernel) (fun k9 u9 ce q9 H locs hw hP hD hS g1 g2 g3 => absurd hw.1 (fun h => by cases h)) (fun r1 u9 H locs hw hP hD hS => ?_)
  obtain ⟨hw1, rfl⟩ := hw
  have hP : va_P G vwCl (LW ca Z q1 a q2 d qo P1 Bf1 Dr Sn hs t1 S1 sc rd sr sh ac1 pe now dr kp sn hi ac u th hs ow tm en od fm fl bf bl li nx be tk er ea pe ne ors oc o) H := hP
  have hD : va_D (lwA s) (LW ca Z q1 a q2 d qo P1 Bf1 Dr Sn hs t1 S1 sc rd sr sh ac1 pe now dr kp sn hi ac u th hs ow tm en od fm fl bf bl li nx be tk er ea pe ne ors oc o) := hD
  refine lv_aload_n hx hb dL_law_1934 rfl (lv_at hl 2 rfl) ?_
  refine lw_i (sw_runV (As := []) (rest := [.int r1]) Cx hP hD hS mv_X11_drop ml_L_269 (c_X11_drop l G ca Z q2 (d 5) (d 4) (d 2) (d 0) (.ref (d 1)) (.ref (d 3)) (.ref (d 6)) (.int (bI hs)) (.ref (d 7)) (.ref (d 8)) (.int en) (.ref (d 9)) (.ref (d 10)) (.int fl) (.ref (d 11)) (.int bl) (.int li) (.int nx) (.int be) (.int tk) (.int er) (.int ea) (.int pe) (.int ne) (.ref (d 12)) (.ref (d 13)) (.int oc) H.size  ac hi kp now th u (b1, (ac1, hi1, kp1, now1, th1, u1)) z3) 8 rfl rfl rfl [52, 58, 57, 55, 53] rfl rfl rfl rfl ⟨(Nat.le_of_ble_eq_true rfl), (Nat.le_of_ble_eq_true rfl)⟩ hl.1 rfl rfl (Nat.le_of_ble_eq_true rfl) dL_law_1935 ⟨hcR 1 (by decide), hsR 6 (by decide)⟩) hP hD hS hA [52, 58, 57, 55, 53] [0, 0, 0, 0, 0, 0, 0, 0, 0, 0, 0, 0, 0, 0, 0, 0, 0, 0, 0, 0, 0, 0, 0, 0, 0, 0, 0, 0, 0, 0, 0, 0, 0, 0, 0, 0, 0, 0, 0, 0, 0, 0, 0, 0, 0, 0, 0, 0, 0, 0, 0, 0, 1, 5, 0, 4, 0, 3, 2, 0, 0, 0, 0, 0, 0, 0, 0, 0] rfl (fun _ => rfl) rfl (by decide +kernel) (fun r2 u9 H locs hw hP hD hS => ?_)
  obtain ⟨hw2, rfl⟩ := hw
  have hP : va_P G vwCl (LW ca Z q1 a q2 d qo P1 Bf1 Dr Sn hs t1 S1 sc rd sr sh ac1 pe now1 dr kp1 sn hi1 ac1 u1 th1 hs ow tm en od fm fl bf bl li nx be tk er ea pe ne ors oc o) H := hP
  have hD : va_D (lwA s) (LW ca Z q1 a q2 d qo P1 Bf1 Dr Sn hs t1 S1 sc rd sr sh ac1 pe now1 dr kp1 sn hi1 ac1 u1 th1 hs ow tm en od fm fl bf bl li nx be tk er ea pe ne ors oc o) := hD
  have hw1 := Sum.inr.inj hw1
  refine lv_icmp_eq (tgt := 2547) hx hb dL_law_1938 (by decide) (fun _ => ?_) (fun c9 => absurd (hw1.symm.trans hw2) c9)
  refine va_forget hS.2.2 ?_
  refine W.widen (k := cells + 2) (n := slots + 12) (by omega) (by omega) ?_
  exact KK v1 P1 Bf1 Dr Sn hs t1 S1 sc rd sr sh ac1 pe now1 dr kp1 sn hi1 u1 th1 ow tm en od fm fl bf bl li nx be tk er ea ne ors oc o H ls (by omega) ⟨⟨w1, ns1, R1, k1, D1, y1⟩, y2, y0, hN, hB, hF⟩ hP hD (va_forg hS) hl

set_option maxHeartbeats 1000000 in
set_option maxRecDepth 100000 in
theorem lc_45 (C : lwC p l s m meth c G ca Z b L xs) (hcl : cells + 2 ≤ 601024) (hsl : slots + 12 ≤ 7293033) (hil : i + 6 ≤ L) (hvv : v + 5000 < 2 ^ 31) (hRL : RLX v P Sn hs t S sc sh now sn hi u fm fl bf bl) (hP : va_P G vwCl (LW ca Z q1 a q2 d qo P Bf Dr Sn hs t S sc rd sr sh ac pe now dr kp sn hi ac u th hs ow tm en od fm fl bf bl li nx be tk er ea pe ne ors oc o) H) (hD : va_D (lwA s) (LW ca Z q1 a q2 d qo P Bf Dr Sn hs t S sc rd sr sh ac pe now dr kp sn hi ac u th hs ow tm en od fm fl bf bl li nx be tk er ea pe ne ors oc o)) (hS : va_S (lwA s) s.heap H []) (hl : lv_has ls 9 [(0, .ref b), (1, .ref q1), (2, .ref q2), (3, .ref qo), (4, .int (nI i))]) (KK : lwKK p l e s m below meth c G ca Z b q1 a q2 d qo cells slots i v Q) :
    W p l e room_1 s m #[.ref b] below meth c H [] cells slots Q (F0 m 1943 ls []) := by
  obtain ⟨⟨⟨hx, hb, hml, hown, htU⟩, hK, hX, hY, hA⟩, hXs, hbl, hL, hfl⟩ := id C
  have Cx := C.1
  have hcR : ∀ j, j ≤ 2 → cells + j ≤ room_1.cells := fun j hj => by show _ ≤ 601024; omega
  have hsR : ∀ j, j ≤ 12 → slots + j ≤ room_1.slots := fun j hj => by show _ ≤ 7293033; omega
  obtain ⟨⟨w, ns, R, k, D, hC⟩, hv, hH, hN, hB, hF⟩ := hRL
  obtain ⟨r0, ac1, Bf1, t1, P1, S1, b1, hi1, kp1, now1, th1, u1, z1, z3, z4, y0, w1, ns1, R1, k1, D1, v1, y1, y2, y3, y4⟩ := O_trim hC hH hv (by omega) (xs (i + 1)) ac kp Bf th
  refine lv_aload_n hx hb dL_law_1943 rfl (lv_at hl 1 rfl) ?_
  refine lw_arg C hS (lv_at hl 0 rfl) (lv_at hl 4 rfl) (k := 1) (by decide) hil dL_law_1944 dL_law_1945 dL_law_1947 dL_law_1948 dL_law_1949 ?_
  refine lv_aload_n hx hb dL_law_1950 rfl (lv_at hl 3 rfl) ?_
  refine lw_i (sw_runH (As := [.ref q1, .int (xs (i + 1)), .ref qo]) (rest := []) Cx hP hD hS mh_L_trim ml_L_270 (c_L_trim l hfl G ca Z q1 (a 50) (a 3) (a 5) (a 4) (a 12) (a 13) (fun j => a (14 + 3 * j)) (fun j => a (16 + 3 * j)) (fun j => a (15 + 3 * j)) (a 0) (a 2) (a 1) (a 38) (a 40) (a 39) (.ref (a 6)) (.ref (a 9)) (.int (bI hs)) (.ref (a 41)) (.ref (a 43)) (.ref (a 44)) (.ref (a 48)) (.int pe) qo H.size (xs (i + 1)) ac Bf t P S o (r0, (ac1, Bf1, t1, P1, S1)) z1 (agk z4)) [0, 51, 4, 6, 5, 13, 14, 15, 17, 16, 18, 20, 19, 21, 23, 22, 24, 26, 25, 27, 29, 28, 30, 32, 31, 33, 35, 34, 36, 38, 37, 1, 3, 2, 39, 41, 40, 67] rfl rfl rfl rfl ⟨(Nat.le_of_ble_eq_true rfl), (Nat.le_of_ble_eq_true rfl)⟩ hl.1 rfl rfl (Nat.le_of_ble_eq_true rfl) dL_law_1951 ⟨hcR 1 (by decide), hsR 6 (by decide)⟩) hP hD hS hA [0, 51, 4, 6, 5, 13, 14, 15, 17, 16, 18, 20, 19, 21, 23, 22, 24, 26, 25, 27, 29, 28, 30, 32, 31, 33, 35, 34, 36, 38, 37, 1, 3, 2, 39, 41, 40, 67] [1, 32, 34, 33, 3, 5, 4, 0, 0, 0, 0, 0, 0, 6, 7, 8, 10, 9, 11, 13, 12, 14, 16, 15, 17, 19, 18, 20, 22, 21, 23, 25, 24, 26, 28, 27, 29, 31, 30, 35, 37, 36, 0, 0, 0, 0, 0, 0, 0, 0, 0, 2, 0, 0, 0, 0, 0, 0, 0, 0, 0, 0, 0, 0, 0, 0, 0, 38] rfl (fun _ => rfl) rfl (by decide +kernel) (fun r1 u9 H locs hw hP hD hS => ?_)
  obtain ⟨hw1, rfl⟩ := hw
  have hP : va_P G vwCl (LW ca Z q1 a q2 d qo P1 Bf1 Dr Sn hs t1 S1 sc rd sr sh ac1 pe now dr kp sn hi ac u th hs ow tm en od fm fl bf bl li nx be tk er ea pe ne ors oc (((wr1 r0 o).2))) H := hP
  have hD : va_D (lwA s) (LW ca Z q1 a q2 d qo P1 Bf1 Dr Sn hs t1 S1 sc rd sr sh ac1 pe now dr kp sn hi ac u th hs ow tm en od fm fl bf bl li nx be tk er ea pe ne ors oc (((wr1 r0 o).2))) := hD
  refine lv_istore (lv' := (5, .int r1) :: [(0, .ref b), (1, .ref q1), (2, .ref q2), (3, .ref qo), (4, .int (nI i))]) hx hb dL_law_1954 hl (by decide) rfl (fun ls hl => ?_)
  refine lv_aload_n hx hb dL_law_1956 rfl (lv_at hl 3 rfl) ?_
  refine lw_arg C hS (lv_at hl 1 rfl) (lv_at hl 5 rfl) (k := 1) (by decide) hil dL_law_1957 dL_law_1958 dL_law_1960 dL_law_1961 dL_law_1962 ?_
  refine lw_i (sw_runV (As := [.int (xs (i + 1))]) (rest := []) Cx hP hD hS mv_X11_trim ml_L_272 (c_X11_trim l G ca Z q2 (d 5) (d 4) (d 2) (d 0) (.ref (d 1)) (.ref (d 3)) (.ref (d 6)) (.int (bI hs)) (.ref (d 7)) (.ref (d 8)) (.int en) (.ref (d 9)) (.ref (d 10)) (.int fl) (.ref (d 11)) (.int bl) (.int li) (.int nx) (.int be) (.int tk) (.int er) (.int ea) (.int pe) (.int ne) (.ref (d 12)) (.ref (d 13)) (.int oc) H.size (xs (i + 1)) ac hi kp now th u (b1, (ac1, hi1, kp1, now1, th1, u1)) z3) 8 rfl rfl rfl [52, 58, 57, 55, 53] rfl rfl rfl rfl ⟨(Nat.le_of_ble_eq_true rfl), (Nat.le_of_ble_eq_true rfl)⟩ hl.1 rfl rfl (Nat.le_of_ble_eq_true rfl) dL_law_1963 ⟨hcR 1 (by decide), hsR 6 (by decide)⟩) hP hD hS hA [52, 58, 57, 55, 53] [0, 0, 0, 0, 0, 0, 0, 0, 0, 0, 0, 0, 0, 0, 0, 0, 0, 0, 0, 0, 0, 0, 0, 0, 0, 0, 0, 0, 0, 0, 0, 0, 0, 0, 0, 0, 0, 0, 0, 0, 0, 0, 0, 0, 0, 0, 0, 0, 0, 0, 0, 0, 1, 5, 0, 4, 0, 3, 2, 0, 0, 0, 0, 0, 0, 0, 0, 0] rfl (fun _ => rfl) rfl (by decide +kernel) (fun r2 u9 H locs hw hP hD hS => ?_)
  obtain ⟨hw2, rfl⟩ := hw
  have hP : va_P G vwCl (LW ca Z q1 a q2 d qo P1 Bf1 Dr Sn hs t1 S1 sc rd sr sh ac1 pe now1 dr kp1 sn hi1 ac1 u1 th1 hs ow tm en od fm fl bf bl li nx be tk er ea pe ne ors oc (((wr1 r0 o).2))) H := hP
  have hD : va_D (lwA s) (LW ca Z q1 a q2 d qo P1 Bf1 Dr Sn hs t1 S1 sc rd sr sh ac1 pe now1 dr kp1 sn hi1 ac1 u1 th1 hs ow tm en od fm fl bf bl li nx be tk er ea pe ne ors oc (((wr1 r0 o).2))) := hD
  refine lv_istore (lv' := (6, .int r2) :: (5, .int r1) :: [(0, .ref b), (1, .ref q1), (2, .ref q2), (3, .ref qo), (4, .int (nI i))]) hx hb dL_law_1966 hl (by decide) rfl (fun ls hl => ?_)
  refine lv_aload_n hx hb dL_law_1968 rfl (lv_at hl 4 rfl) ?_
  refine lw_i (sw_runV (As := []) (rest := []) Cx hP hD hS mv_X11_thrown ml_L_105 (c_X11_thrown l G ca Z q2 (.ref (d 0)) (.ref (d 1)) (.ref (d 2)) (.ref (d 3)) (.ref (d 4)) (.ref (d 5)) (.ref (d 6)) (.ref (d 0)) (.int u1) (.int (bI hs)) (.ref (d 7)) (.ref (d 8)) (.int en) (.ref (d 9)) (.ref (d 10)) (.int fl) (.ref (d 11)) (.int bl) (.int li) (.int nx) (.int be) (.int tk) (.int er) (.int ea) (.int pe) (.int ne) (.ref (d 12)) (.ref (d 13)) (.int oc) H.size th1 th1 rfl) 8 rfl rfl rfl [52] rfl rfl rfl rfl ⟨(Nat.le_of_ble_eq_true rfl), (Nat.le_of_ble_eq_true rfl)⟩ hl.1 rfl rfl (Nat.le_of_ble_eq_true rfl) dL_law_1969 ⟨hcR 1 (by decide), hsR 6 (by decide)⟩) hP hD hS hA [52] [0, 0, 0, 0, 0, 0, 0, 0, 0, 0, 0, 0, 0, 0, 0, 0, 0, 0, 0, 0, 0, 0, 0, 0, 0, 0, 0, 0, 0, 0, 0, 0, 0, 0, 0, 0, 0, 0, 0, 0, 0, 0, 0, 0, 0, 0, 0, 0, 0, 0, 0, 0, 1, 0, 0, 0, 0, 0, 0, 0, 0, 0, 0, 0, 0, 0, 0, 0] rfl (fun _ => rfl) rfl (by decide +kernel) (fun r3 u9 H locs hw hP hD hS => ?_)
  have hw3 : th1 = r3 := hw
  have hP : va_P G vwCl (LW ca Z q1 a q2 d qo P1 Bf1 Dr Sn hs t1 S1 sc rd sr sh ac1 pe now1 dr kp1 sn hi1 ac1 u1 th1 hs ow tm en od fm fl bf bl li nx be tk er ea pe ne ors oc (((wr1 r0 o).2))) H := hP
  have hD : va_D (lwA s) (LW ca Z q1 a q2 d qo P1 Bf1 Dr Sn hs t1 S1 sc rd sr sh ac1 pe now1 dr kp1 sn hi1 ac1 u1 th1 hs ow tm en od fm fl bf bl li nx be tk er ea pe ne ors oc (((wr1 r0 o).2))) := hD
  have hag := agw1 (o := o) z4
  refine lw_tail (q0 := 67) C hP rfl (lv_at hl 5 rfl) (lv_at hl 1 rfl) (lv_at hl 0 rfl) (hw1.symm.trans (hag.1.trans hw3)) (fun z9 => by rw [← hw2]; exact hag.2 (hw3.trans z9)) dL_law_1972 dL_law_1974 (by decide) dL_law_1979 dL_law_1981 (by decide) dL_law_1984 dL_law_1985 dL_law_1986 dL_law_1987 dL_law_1989 dL_law_1990 dL_law_1991 (by decide) dL_law_1996 (by decide) ?_
  refine va_forget hS.2.2 ?_
  refine W.widen (k := cells + 2) (n := slots + 12) (by omega) (by omega) ?_
  exact KK v1 P1 Bf1 Dr Sn hs t1 S1 sc rd sr sh ac1 pe now1 dr kp1 sn hi1 u1 th1 ow tm en od fm fl bf bl li nx be tk er ea ne ors oc ((wr1 r0 o).2) H ls (by omega) ⟨⟨w1, ns1, R1, k1, D1, y1⟩, y2, y0, hN, hB, hF⟩ hP hD (va_forg hS) (lv_sub hl [2, 3, 4, 5, 6] rfl)

set_option maxHeartbeats 1000000 in
set_option maxRecDepth 100000 in
theorem lc_46 (C : lwC p l s m meth c G ca Z b L xs) (hcl : cells + 2 ≤ 601024) (hsl : slots + 12 ≤ 7293033) (hil : i + 6 ≤ L) (hvv : v + 5000 < 2 ^ 31) (hRL : RLX v P Sn hs t S sc sh now sn hi u fm fl bf bl) (hP : va_P G vwCl (LW ca Z q1 a q2 d qo P Bf Dr Sn hs t S sc rd sr sh ac pe now dr kp sn hi ac u th hs ow tm en od fm fl bf bl li nx be tk er ea pe ne ors oc o) H) (hD : va_D (lwA s) (LW ca Z q1 a q2 d qo P Bf Dr Sn hs t S sc rd sr sh ac pe now dr kp sn hi ac u th hs ow tm en od fm fl bf bl li nx be tk er ea pe ne ors oc o)) (hS : va_S (lwA s) s.heap H []) (hl : lv_has ls 9 [(0, .ref b), (1, .ref q1), (2, .ref q2), (3, .ref qo), (4, .int (nI i))]) (KK : lwKK p l e s m below meth c G ca Z b q1 a q2 d qo cells slots i v Q) :
    W p l e room_1 s m #[.ref b] below meth c H [] cells slots Q (F0 m 1999 ls []) := by
  obtain ⟨⟨⟨hx, hb, hml, hown, htU⟩, hK, hX, hY, hA⟩, hXs, hbl, hL, hfl⟩ := id C
  have Cx := C.1
  have hcR : ∀ j, j ≤ 2 → cells + j ≤ room_1.cells := fun j hj => by show _ ≤ 601024; omega
  have hsR : ∀ j, j ≤ 12 → slots + j ≤ room_1.slots := fun j hj => by show _ ≤ 7293033; omega
  obtain ⟨⟨w, ns, R, k, D, hC⟩, hv, hH, hN, hB, hF⟩ := hRL
  obtain ⟨r0, ac1, Bf1, t1, P1, S1, b1, en1, hi1, kp1, now1, ow1, od1, th1, tm1, u1, z1, z3, z4, y0, w1, ns1, R1, k1, D1, v1, y1, y2, y3, y4⟩ := O_swap hC hH hv (by omega) (xs (i + 1)) (xs (i + 2)) ac kp Bf en th ow od tm
  refine lv_aload_n hx hb dL_law_1999 rfl (lv_at hl 1 rfl) ?_
  refine lw_arg C hS (lv_at hl 0 rfl) (lv_at hl 4 rfl) (k := 1) (by decide) hil dL_law_2000 dL_law_2001 dL_law_2003 dL_law_2004 dL_law_2005 ?_
  refine lw_arg C hS (lv_at hl 0 rfl) (lv_at hl 4 rfl) (k := 2) (by decide) hil dL_law_2006 dL_law_2007 dL_law_2009 dL_law_2010 dL_law_2011 ?_
  refine lv_aload_n hx hb dL_law_2012 rfl (lv_at hl 3 rfl) ?_
  refine lw_i (sw_runH (As := [.ref q1, .int (xs (i + 1)), .int (xs (i + 2)), .ref qo]) (rest := []) Cx hP hD hS mh_L_swap ml_L_273 (c_L_swap l hfl G ca Z q1 (a 50) (a 3) (a 5) (a 4) (a 12) (a 13) (fun j => a (14 + 3 * j)) (fun j => a (16 + 3 * j)) (fun j => a (15 + 3 * j)) (a 0) (a 2) (a 1) (a 38) (a 40) (a 39) (.ref (a 6)) (.ref (a 9)) (.int (bI hs)) (.ref (a 41)) (.ref (a 43)) (.ref (a 44)) (.ref (a 48)) (.int pe) qo H.size (xs (i + 1)) (xs (i + 2)) ac Bf t P S o (r0, (ac1, Bf1, t1, P1, S1)) z1 (agk z4)) [0, 51, 4, 6, 5, 13, 14, 15, 17, 16, 18, 20, 19, 21, 23, 22, 24, 26, 25, 27, 29, 28, 30, 32, 31, 33, 35, 34, 36, 38, 37, 1, 3, 2, 39, 41, 40, 67] rfl rfl rfl rfl ⟨(Nat.le_of_ble_eq_true rfl), (Nat.le_of_ble_eq_true rfl)⟩ hl.1 rfl rfl (Nat.le_of_ble_eq_true rfl) dL_law_2013 ⟨hcR 1 (by decide), hsR 6 (by decide)⟩) hP hD hS hA [0, 51, 4, 6, 5, 13, 14, 15, 17, 16, 18, 20, 19, 21, 23, 22, 24, 26, 25, 27, 29, 28, 30, 32, 31, 33, 35, 34, 36, 38, 37, 1, 3, 2, 39, 41, 40, 67] [1, 32, 34, 33, 3, 5, 4, 0, 0, 0, 0, 0, 0, 6, 7, 8, 10, 9, 11, 13, 12, 14, 16, 15, 17, 19, 18, 20, 22, 21, 23, 25, 24, 26, 28, 27, 29, 31, 30, 35, 37, 36, 0, 0, 0, 0, 0, 0, 0, 0, 0, 2, 0, 0, 0, 0, 0, 0, 0, 0, 0, 0, 0, 0, 0, 0, 0, 38] rfl (fun _ => rfl) rfl (by decide +kernel) (fun r1 u9 H locs hw hP hD hS => ?_)
  obtain ⟨hw1, rfl⟩ := hw
  have hP : va_P G vwCl (LW ca Z q1 a q2 d qo P1 Bf1 Dr Sn hs t1 S1 sc rd sr sh ac1 pe now dr kp sn hi ac u th hs ow tm en od fm fl bf bl li nx be tk er ea pe ne ors oc (((wr1 r0 o).2))) H := hP
  have hD : va_D (lwA s) (LW ca Z q1 a q2 d qo P1 Bf1 Dr Sn hs t1 S1 sc rd sr sh ac1 pe now dr kp sn hi ac u th hs ow tm en od fm fl bf bl li nx be tk er ea pe ne ors oc (((wr1 r0 o).2))) := hD
  refine lv_istore (lv' := (5, .int r1) :: [(0, .ref b), (1, .ref q1), (2, .ref q2), (3, .ref qo), (4, .int (nI i))]) hx hb dL_law_2016 hl (by decide) rfl (fun ls hl => ?_)
  refine lv_aload_n hx hb dL_law_2018 rfl (lv_at hl 3 rfl) ?_
  refine lw_arg C hS (lv_at hl 1 rfl) (lv_at hl 5 rfl) (k := 1) (by decide) hil dL_law_2019 dL_law_2020 dL_law_2022 dL_law_2023 dL_law_2024 ?_
  refine lw_arg C hS (lv_at hl 1 rfl) (lv_at hl 5 rfl) (k := 2) (by decide) hil dL_law_2025 dL_law_2026 dL_law_2028 dL_law_2029 dL_law_2030 ?_
  refine lw_i (sw_runV (As := [.int (xs (i + 1)), .int (xs (i + 2))]) (rest := []) Cx hP hD hS mv_X11_swap ml_L_275 (c_X11_swap l G ca Z q2 (d 5) (d 4) (d 2) (d 0) (d 7) (d 9) (d 8) (d 6) (.ref (d 1)) (.ref (d 3)) (.int (bI hs)) (.ref (d 10)) (.int fl) (.ref (d 11)) (.int bl) (.int li) (.int nx) (.int be) (.int tk) (.int er) (.int ea) (.int pe) (.int ne) (.ref (d 12)) (.ref (d 13)) (.int oc) H.size (xs (i + 1)) (xs (i + 2)) ac en hi kp now ow od th tm u (b1, (ac1, en1, hi1, kp1, now1, ow1, od1, th1, tm1, u1)) z3) 8 rfl rfl rfl [52, 58, 57, 55, 53, 60, 62, 61, 59] rfl rfl rfl rfl ⟨(Nat.le_of_ble_eq_true rfl), (Nat.le_of_ble_eq_true rfl)⟩ hl.1 rfl rfl (Nat.le_of_ble_eq_true rfl) dL_law_2031 ⟨hcR 1 (by decide), hsR 6 (by decide)⟩) hP hD hS hA [52, 58, 57, 55, 53, 60, 62, 61, 59] [0, 0, 0, 0, 0, 0, 0, 0, 0, 0, 0, 0, 0, 0, 0, 0, 0, 0, 0, 0, 0, 0, 0, 0, 0, 0, 0, 0, 0, 0, 0, 0, 0, 0, 0, 0, 0, 0, 0, 0, 0, 0, 0, 0, 0, 0, 0, 0, 0, 0, 0, 0, 1, 5, 0, 4, 0, 3, 2, 9, 6, 8, 7, 0, 0, 0, 0, 0] rfl (fun _ => rfl) rfl (by decide +kernel) (fun r2 u9 H locs hw hP hD hS => ?_)
  obtain ⟨hw2, rfl⟩ := hw
  have hP : va_P G vwCl (LW ca Z q1 a q2 d qo P1 Bf1 Dr Sn hs t1 S1 sc rd sr sh ac1 pe now1 dr kp1 sn hi1 ac1 u1 th1 hs ow1 tm1 en1 od1 fm fl bf bl li nx be tk er ea pe ne ors oc (((wr1 r0 o).2))) H := hP
  have hD : va_D (lwA s) (LW ca Z q1 a q2 d qo P1 Bf1 Dr Sn hs t1 S1 sc rd sr sh ac1 pe now1 dr kp1 sn hi1 ac1 u1 th1 hs ow1 tm1 en1 od1 fm fl bf bl li nx be tk er ea pe ne ors oc (((wr1 r0 o).2))) := hD
  refine lv_istore (lv' := (6, .int r2) :: (5, .int r1) :: [(0, .ref b), (1, .ref q1), (2, .ref q2), (3, .ref qo), (4, .int (nI i))]) hx hb dL_law_2034 hl (by decide) rfl (fun ls hl => ?_)
  refine lv_aload_n hx hb dL_law_2036 rfl (lv_at hl 4 rfl) ?_
  refine lw_i (sw_runV (As := []) (rest := []) Cx hP hD hS mv_X11_thrown ml_L_105 (c_X11_thrown l G ca Z q2 (.ref (d 0)) (.ref (d 1)) (.ref (d 2)) (.ref (d 3)) (.ref (d 4)) (.ref (d 5)) (.ref (d 6)) (.ref (d 0)) (.int u1) (.int (bI hs)) (.ref (d 7)) (.ref (d 8)) (.int en1) (.ref (d 9)) (.ref (d 10)) (.int fl) (.ref (d 11)) (.int bl) (.int li) (.int nx) (.int be) (.int tk) (.int er) (.int ea) (.int pe) (.int ne) (.ref (d 12)) (.ref (d 13)) (.int oc) H.size th1 th1 rfl) 8 rfl rfl rfl [52] rfl rfl rfl rfl ⟨(Nat.le_of_ble_eq_true rfl), (Nat.le_of_ble_eq_true rfl)⟩ hl.1 rfl rfl (Nat.le_of_ble_eq_true rfl) dL_law_2037 ⟨hcR 1 (by decide), hsR 6 (by decide)⟩) hP hD hS hA [52] [0, 0, 0, 0, 0, 0, 0, 0, 0, 0, 0, 0, 0, 0, 0, 0, 0, 0, 0, 0, 0, 0, 0, 0, 0, 0, 0, 0, 0, 0, 0, 0, 0, 0, 0, 0, 0, 0, 0, 0, 0, 0, 0, 0, 0, 0, 0, 0, 0, 0, 0, 0, 1, 0, 0, 0, 0, 0, 0, 0, 0, 0, 0, 0, 0, 0, 0, 0] rfl (fun _ => rfl) rfl (by decide +kernel) (fun r3 u9 H locs hw hP hD hS => ?_)
  have hw3 : th1 = r3 := hw
  have hP : va_P G vwCl (LW ca Z q1 a q2 d qo P1 Bf1 Dr Sn hs t1 S1 sc rd sr sh ac1 pe now1 dr kp1 sn hi1 ac1 u1 th1 hs ow1 tm1 en1 od1 fm fl bf bl li nx be tk er ea pe ne ors oc (((wr1 r0 o).2))) H := hP
  have hD : va_D (lwA s) (LW ca Z q1 a q2 d qo P1 Bf1 Dr Sn hs t1 S1 sc rd sr sh ac1 pe now1 dr kp1 sn hi1 ac1 u1 th1 hs ow1 tm1 en1 od1 fm fl bf bl li nx be tk er ea pe ne ors oc (((wr1 r0 o).2))) := hD
  have hag := agw1 (o := o) z4
  refine lw_tail (q0 := 67) C hP rfl (lv_at hl 5 rfl) (lv_at hl 1 rfl) (lv_at hl 0 rfl) (hw1.symm.trans (hag.1.trans hw3)) (fun z9 => by rw [← hw2]; exact hag.2 (hw3.trans z9)) dL_law_2040 dL_law_2042 (by decide) dL_law_2047 dL_law_2049 (by decide) dL_law_2052 dL_law_2053 dL_law_2054 dL_law_2055 dL_law_2057 dL_law_2058 dL_law_2059 (by decide) dL_law_2064 (by decide) ?_
  refine va_forget hS.2.2 ?_
  refine W.widen (k := cells + 2) (n := slots + 12) (by omega) (by omega) ?_
  exact KK v1 P1 Bf1 Dr Sn hs t1 S1 sc rd sr sh ac1 pe now1 dr kp1 sn hi1 u1 th1 ow1 tm1 en1 od1 fm fl bf bl li nx be tk er ea ne ors oc ((wr1 r0 o).2) H ls (by omega) ⟨⟨w1, ns1, R1, k1, D1, y1⟩, y2, y0, hN, hB, hF⟩ hP hD (va_forg hS) (lv_sub hl [2, 3, 4, 5, 6] rfl)

set_option maxHeartbeats 1000000 in
set_option maxRecDepth 100000 in
theorem lc_47 (C : lwC p l s m meth c G ca Z b L xs) (hcl : cells + 2 ≤ 601024) (hsl : slots + 12 ≤ 7293033) (hil : i + 6 ≤ L) (hvv : v + 5000 < 2 ^ 31) (hRL : RLX v P Sn hs t S sc sh now sn hi u fm fl bf bl) (hP : va_P G vwCl (LW ca Z q1 a q2 d qo P Bf Dr Sn hs t S sc rd sr sh ac pe now dr kp sn hi ac u th hs ow tm en od fm fl bf bl li nx be tk er ea pe ne ors oc o) H) (hD : va_D (lwA s) (LW ca Z q1 a q2 d qo P Bf Dr Sn hs t S sc rd sr sh ac pe now dr kp sn hi ac u th hs ow tm en od fm fl bf bl li nx be tk er ea pe ne ors oc o)) (hS : va_S (lwA s) s.heap H []) (hl : lv_has ls 9 [(0, .ref b), (1, .ref q1), (2, .ref q2), (3, .ref qo), (4, .int (nI i))]) (KK : lwKK p l e s m below meth c G ca Z b q1 a q2 d qo cells slots i v Q) :
    W p l e room_1 s m #[.ref b] below meth c H [] cells slots Q (F0 m 2067 ls []) := by
  obtain ⟨⟨⟨hx, hb, hml, hown, htU⟩, hK, hX, hY, hA⟩, hXs, hbl, hL, hfl⟩ := id C
  have Cx := C.1
  have hcR : ∀ j, j ≤ 2 → cells + j ≤ room_1.cells := fun j hj => by show _ ≤ 601024; omega
  have hsR : ∀ j, j ≤ 12 → slots + j ≤ room_1.slots := fun j hj => by show _ ≤ 7293033; omega
  obtain ⟨⟨w, ns, R, k, D, hC⟩, hv, hH, hN, hB, hF⟩ := hRL
  obtain ⟨r0, ac1, Bf1, t1, P1, S1, b1, en1, hi1, kp1, now1, ow1, th1, tm1, u1, z1, z3, z4, y0, w1, ns1, R1, k1, D1, v1, y1, y2, y3, y4⟩ := O_add hC hH hv (by omega) (xs (i + 1)) ac kp Bf en th ow tm
  refine lv_aload_n hx hb dL_law_2067 rfl (lv_at hl 1 rfl) ?_
  refine lw_arg C hS (lv_at hl 0 rfl) (lv_at hl 4 rfl) (k := 1) (by decide) hil dL_law_2068 dL_law_2069 dL_law_2071 dL_law_2072 dL_law_2073 ?_
  refine lv_aload_n hx hb dL_law_2074 rfl (lv_at hl 3 rfl) ?_
  refine lw_i (sw_runH (As := [.ref q1, .int (xs (i + 1)), .ref qo]) (rest := []) Cx hP hD hS mh_L_add ml_L_276 (c_L_add l hfl G ca Z q1 (a 50) (a 3) (a 5) (a 4) (a 12) (a 13) (fun j => a (14 + 3 * j)) (fun j => a (16 + 3 * j)) (fun j => a (15 + 3 * j)) (a 0) (a 2) (a 1) (a 38) (a 40) (a 39) (.ref (a 6)) (.ref (a 9)) (.int (bI hs)) (.ref (a 41)) (.ref (a 43)) (.ref (a 44)) (.ref (a 48)) (.int pe) qo H.size (xs (i + 1)) ac Bf t P S o (r0, (ac1, Bf1, t1, P1, S1)) z1 (agk z4)) [0, 51, 4, 6, 5, 13, 14, 15, 17, 16, 18, 20, 19, 21, 23, 22, 24, 26, 25, 27, 29, 28, 30, 32, 31, 33, 35, 34, 36, 38, 37, 1, 3, 2, 39, 41, 40, 67] rfl rfl rfl rfl ⟨(Nat.le_of_ble_eq_true rfl), (Nat.le_of_ble_eq_true rfl)⟩ hl.1 rfl rfl (Nat.le_of_ble_eq_true rfl) dL_law_2075 ⟨hcR 1 (by decide), hsR 6 (by decide)⟩) hP hD hS hA [0, 51, 4, 6, 5, 13, 14, 15, 17, 16, 18, 20, 19, 21, 23, 22, 24, 26, 25, 27, 29, 28, 30, 32, 31, 33, 35, 34, 36, 38, 37, 1, 3, 2, 39, 41, 40, 67] [1, 32, 34, 33, 3, 5, 4, 0, 0, 0, 0, 0, 0, 6, 7, 8, 10, 9, 11, 13, 12, 14, 16, 15, 17, 19, 18, 20, 22, 21, 23, 25, 24, 26, 28, 27, 29, 31, 30, 35, 37, 36, 0, 0, 0, 0, 0, 0, 0, 0, 0, 2, 0, 0, 0, 0, 0, 0, 0, 0, 0, 0, 0, 0, 0, 0, 0, 38] rfl (fun _ => rfl) rfl (by decide +kernel) (fun r1 u9 H locs hw hP hD hS => ?_)
  obtain ⟨hw1, rfl⟩ := hw
  have hP : va_P G vwCl (LW ca Z q1 a q2 d qo P1 Bf1 Dr Sn hs t1 S1 sc rd sr sh ac1 pe now dr kp sn hi ac u th hs ow tm en od fm fl bf bl li nx be tk er ea pe ne ors oc (((wr1 r0 o).2))) H := hP
  have hD : va_D (lwA s) (LW ca Z q1 a q2 d qo P1 Bf1 Dr Sn hs t1 S1 sc rd sr sh ac1 pe now dr kp sn hi ac u th hs ow tm en od fm fl bf bl li nx be tk er ea pe ne ors oc (((wr1 r0 o).2))) := hD
  refine lv_istore (lv' := (5, .int r1) :: [(0, .ref b), (1, .ref q1), (2, .ref q2), (3, .ref qo), (4, .int (nI i))]) hx hb dL_law_2078 hl (by decide) rfl (fun ls hl => ?_)
  refine lv_aload_n hx hb dL_law_2080 rfl (lv_at hl 3 rfl) ?_
  refine lw_arg C hS (lv_at hl 1 rfl) (lv_at hl 5 rfl) (k := 1) (by decide) hil dL_law_2081 dL_law_2082 dL_law_2084 dL_law_2085 dL_law_2086 ?_
  refine lw_i (sw_runV (As := [.int (xs (i + 1))]) (rest := []) Cx hP hD hS mv_X11_add ml_L_278 (c_X11_add l G ca Z q2 (d 5) (d 4) (d 2) (d 0) (d 7) (d 8) (d 6) (.ref (d 1)) (.ref (d 3)) (.int (bI hs)) (.ref (d 9)) (.ref (d 10)) (.int fl) (.ref (d 11)) (.int bl) (.int li) (.int nx) (.int be) (.int tk) (.int er) (.int ea) (.int pe) (.int ne) (.ref (d 12)) (.ref (d 13)) (.int oc) H.size (xs (i + 1)) ac en hi kp now ow th tm u (b1, (ac1, en1, hi1, kp1, now1, ow1, th1, tm1, u1)) z3) 8 rfl rfl rfl [52, 58, 57, 55, 53, 60, 61, 59] rfl rfl rfl rfl ⟨(Nat.le_of_ble_eq_true rfl), (Nat.le_of_ble_eq_true rfl)⟩ hl.1 rfl rfl (Nat.le_of_ble_eq_true rfl) dL_law_2087 ⟨hcR 1 (by decide), hsR 6 (by decide)⟩) hP hD hS hA [52, 58, 57, 55, 53, 60, 61, 59] [0, 0, 0, 0, 0, 0, 0, 0, 0, 0, 0, 0, 0, 0, 0, 0, 0, 0, 0, 0, 0, 0, 0, 0, 0, 0, 0, 0, 0, 0, 0, 0, 0, 0, 0, 0, 0, 0, 0, 0, 0, 0, 0, 0, 0, 0, 0, 0, 0, 0, 0, 0, 1, 5, 0, 4, 0, 3, 2, 8, 6, 7, 0, 0, 0, 0, 0, 0] rfl (fun _ => rfl) rfl (by decide +kernel) (fun r2 u9 H locs hw hP hD hS => ?_)
  obtain ⟨hw2, rfl⟩ := hw
  have hP : va_P G vwCl (LW ca Z q1 a q2 d qo P1 Bf1 Dr Sn hs t1 S1 sc rd sr sh ac1 pe now1 dr kp1 sn hi1 ac1 u1 th1 hs ow1 tm1 en1 od fm fl bf bl li nx be tk er ea pe ne ors oc (((wr1 r0 o).2))) H := hP
  have hD : va_D (lwA s) (LW ca Z q1 a q2 d qo P1 Bf1 Dr Sn hs t1 S1 sc rd sr sh ac1 pe now1 dr kp1 sn hi1 ac1 u1 th1 hs ow1 tm1 en1 od fm fl bf bl li nx be tk er ea pe ne ors oc (((wr1 r0 o).2))) := hD
  refine lv_istore (lv' := (6, .int r2) :: (5, .int r1) :: [(0, .ref b), (1, .ref q1), (2, .ref q2), (3, .ref qo), (4, .int (nI i))]) hx hb dL_law_2090 hl (by decide) rfl (fun ls hl => ?_)
  refine lv_aload_n hx hb dL_law_2092 rfl (lv_at hl 4 rfl) ?_
  refine lw_i (sw_runV (As := []) (rest := []) Cx hP hD hS mv_X11_thrown ml_L_105 (c_X11_thrown l G ca Z q2 (.ref (d 0)) (.ref (d 1)) (.ref (d 2)) (.ref (d 3)) (.ref (d 4)) (.ref (d 5)) (.ref (d 6)) (.ref (d 0)) (.int u1) (.int (bI hs)) (.ref (d 7)) (.ref (d 8)) (.int en1) (.ref (d 9)) (.ref (d 10)) (.int fl) (.ref (d 11)) (.int bl) (.int li) (.int nx) (.int be) (.int tk) (.int er) (.int ea) (.int pe) (.int ne) (.ref (d 12)) (.ref (d 13)) (.int oc) H.size th1 th1 rfl) 8 rfl rfl rfl [52] rfl rfl rfl rfl ⟨(Nat.le_of_ble_eq_true rfl), (Nat.le_of_ble_eq_true rfl)⟩ hl.1 rfl rfl (Nat.le_of_ble_eq_true rfl) dL_law_2093 ⟨hcR 1 (by decide), hsR 6 (by decide)⟩) hP hD hS hA [52] [0, 0, 0, 0, 0, 0, 0, 0, 0, 0, 0, 0, 0, 0, 0, 0, 0, 0, 0, 0, 0, 0, 0, 0, 0, 0, 0, 0, 0, 0, 0, 0, 0, 0, 0, 0, 0, 0, 0, 0, 0, 0, 0, 0, 0, 0, 0, 0, 0, 0, 0, 0, 1, 0, 0, 0, 0, 0, 0, 0, 0, 0, 0, 0, 0, 0, 0, 0] rfl (fun _ => rfl) rfl (by decide +kernel) (fun r3 u9 H locs hw hP hD hS => ?_)
  have hw3 : th1 = r3 := hw
  have hP : va_P G vwCl (LW ca Z q1 a q2 d qo P1 Bf1 Dr Sn hs t1 S1 sc rd sr sh ac1 pe now1 dr kp1 sn hi1 ac1 u1 th1 hs ow1 tm1 en1 od fm fl bf bl li nx be tk er ea pe ne ors oc (((wr1 r0 o).2))) H := hP
  have hD : va_D (lwA s) (LW ca Z q1 a q2 d qo P1 Bf1 Dr Sn hs t1 S1 sc rd sr sh ac1 pe now1 dr kp1 sn hi1 ac1 u1 th1 hs ow1 tm1 en1 od fm fl bf bl li nx be tk er ea pe ne ors oc (((wr1 r0 o).2))) := hD
  have hag := agw1 (o := o) z4
  refine lw_tail (q0 := 67) C hP rfl (lv_at hl 5 rfl) (lv_at hl 1 rfl) (lv_at hl 0 rfl) (hw1.symm.trans (hag.1.trans hw3)) (fun z9 => by rw [← hw2]; exact hag.2 (hw3.trans z9)) dL_law_2096 dL_law_2098 (by decide) dL_law_2103 dL_law_2105 (by decide) dL_law_2108 dL_law_2109 dL_law_2110 dL_law_2111 dL_law_2113 dL_law_2114 dL_law_2115 (by decide) dL_law_2120 (by decide) ?_
  refine va_forget hS.2.2 ?_
  refine W.widen (k := cells + 2) (n := slots + 12) (by omega) (by omega) ?_
  exact KK v1 P1 Bf1 Dr Sn hs t1 S1 sc rd sr sh ac1 pe now1 dr kp1 sn hi1 u1 th1 ow1 tm1 en1 od fm fl bf bl li nx be tk er ea ne ors oc ((wr1 r0 o).2) H ls (by omega) ⟨⟨w1, ns1, R1, k1, D1, y1⟩, y2, y0, hN, hB, hF⟩ hP hD (va_forg hS) (lv_sub hl [2, 3, 4, 5, 6] rfl)

set_option maxHeartbeats 1000000 in
set_option maxRecDepth 100000 in
theorem lc_48 (C : lwC p l s m meth c G ca Z b L xs) (hcl : cells + 2 ≤ 601024) (hsl : slots + 12 ≤ 7293033) (hil : i + 6 ≤ L) (hvv : v + 5000 < 2 ^ 31) (hRL : RLX v P Sn hs t S sc sh now sn hi u fm fl bf bl) (hP : va_P G vwCl (LW ca Z q1 a q2 d qo P Bf Dr Sn hs t S sc rd sr sh ac pe now dr kp sn hi ac u th hs ow tm en od fm fl bf bl li nx be tk er ea pe ne ors oc o) H) (hD : va_D (lwA s) (LW ca Z q1 a q2 d qo P Bf Dr Sn hs t S sc rd sr sh ac pe now dr kp sn hi ac u th hs ow tm en od fm fl bf bl li nx be tk er ea pe ne ors oc o)) (hS : va_S (lwA s) s.heap H []) (hl : lv_has ls 9 [(0, .ref b), (1, .ref q1), (2, .ref q2), (3, .ref qo), (4, .int (nI i))]) (KK : lwKK p l e s m below meth c G ca Z b q1 a q2 d qo cells slots i v Q) :
    W p l e room_1 s m #[.ref b] below meth c H [] cells slots Q (F0 m 2123 ls []) := by
  obtain ⟨⟨⟨hx, hb, hml, hown, htU⟩, hK, hX, hY, hA⟩, hXs, hbl, hL, hfl⟩ := id C
  have Cx := C.1
  have hcR : ∀ j, j ≤ 2 → cells + j ≤ room_1.cells := fun j hj => by show _ ≤ 601024; omega
  have hsR : ∀ j, j ≤ 12 → slots + j ≤ room_1.slots := fun j hj => by show _ ≤ 7293033; omega
  obtain ⟨⟨w, ns, R, k, D, hC⟩, hv, hH, hN, hB, hF⟩ := hRL
  obtain ⟨r0, ac1, Bf1, t1, P1, S1, b1, en1, hi1, kp1, now1, ow1, th1, tm1, u1, z1, z3, z4, y0, w1, ns1, R1, k1, D1, v1, y1, y2, y3, y4⟩ := O_lift hC hH hv (by omega) (xs (i + 1)) ac kp Bf en th ow tm
  refine lv_aload_n hx hb dL_law_2123 rfl (lv_at hl 1 rfl) ?_
  refine lw_arg C hS (lv_at hl 0 rfl) (lv_at hl 4 rfl) (k := 1) (by decide) hil dL_law_2124 dL_law_2125 dL_law_2127 dL_law_2128 dL_law_2129 ?_
  refine lv_aload_n hx hb dL_law_2130 rfl (lv_at hl 3 rfl) ?_
  refine lw_i (sw_runH (As := [.ref q1, .int (xs (i + 1)), .ref qo]) (rest := []) Cx hP hD hS mh_L_lift ml_L_279 (c_L_lift l hfl G ca Z q1 (a 50) (a 3) (a 5) (a 4) (a 12) (a 13) (fun j => a (14 + 3 * j)) (fun j => a (16 + 3 * j)) (fun j => a (15 + 3 * j)) (a 0) (a 2) (a 1) (a 38) (a 40) (a 39) (.ref (a 6)) (.ref (a 9)) (.int (bI hs)) (.ref (a 41)) (.ref (a 43)) (.ref (a 44)) (.ref (a 48)) (.int pe) qo H.size (xs (i + 1)) ac Bf t P S o (r0, (ac1, Bf1, t1, P1, S1)) z1 (agk z4)) [0, 51, 4, 6, 5, 13, 14, 15, 17, 16, 18, 20, 19, 21, 23, 22, 24, 26, 25, 27, 29, 28, 30, 32, 31, 33, 35, 34, 36, 38, 37, 1, 3, 2, 39, 41, 40, 67] rfl rfl rfl rfl ⟨(Nat.le_of_ble_eq_true rfl), (Nat.le_of_ble_eq_true rfl)⟩ hl.1 rfl rfl (Nat.le_of_ble_eq_true rfl) dL_law_2131 ⟨hcR 1 (by decide), hsR 6 (by decide)⟩) hP hD hS hA [0, 51, 4, 6, 5, 13, 14, 15, 17, 16, 18, 20, 19, 21, 23, 22, 24, 26, 25, 27, 29, 28, 30, 32, 31, 33, 35, 34, 36, 38, 37, 1, 3, 2, 39, 41, 40, 67] [1, 32, 34, 33, 3, 5, 4, 0, 0, 0, 0, 0, 0, 6, 7, 8, 10, 9, 11, 13, 12, 14, 16, 15, 17, 19, 18, 20, 22, 21, 23, 25, 24, 26, 28, 27, 29, 31, 30, 35, 37, 36, 0, 0, 0, 0, 0, 0, 0, 0, 0, 2, 0, 0, 0, 0, 0, 0, 0, 0, 0, 0, 0, 0, 0, 0, 0, 38] rfl (fun _ => rfl) rfl (by decide +kernel) (fun r1 u9 H locs hw hP hD hS => ?_)
  obtain ⟨hw1, rfl⟩ := hw
  have hP : va_P G vwCl (LW ca Z q1 a q2 d qo P1 Bf1 Dr Sn hs t1 S1 sc rd sr sh ac1 pe now dr kp sn hi ac u th hs ow tm en od fm fl bf bl li nx be tk er ea pe ne ors oc (((wr1 r0 o).2))) H := hP
  have hD : va_D (lwA s) (LW ca Z q1 a q2 d qo P1 Bf1 Dr Sn hs t1 S1 sc rd sr sh ac1 pe now dr kp sn hi ac u th hs ow tm en od fm fl bf bl li nx be tk er ea pe ne ors oc (((wr1 r0 o).2))) := hD
  refine lv_istore (lv' := (5, .int r1) :: [(0, .ref b), (1, .ref q1), (2, .ref q2), (3, .ref qo), (4, .int (nI i))]) hx hb dL_law_2134 hl (by decide) rfl (fun ls hl => ?_)
  refine lv_aload_n hx hb dL_law_2136 rfl (lv_at hl 3 rfl) ?_
  refine lw_arg C hS (lv_at hl 1 rfl) (lv_at hl 5 rfl) (k := 1) (by decide) hil dL_law_2137 dL_law_2138 dL_law_2140 dL_law_2141 dL_law_2142 ?_
  refine lw_i (sw_runV (As := [.int (xs (i + 1))]) (rest := []) Cx hP hD hS mv_X11_lift ml_L_281 (c_X11_lift l G ca Z q2 (d 5) (d 4) (d 2) (d 0) (d 7) (d 8) (d 6) (.ref (d 1)) (.ref (d 3)) (.int (bI hs)) (.ref (d 9)) (.ref (d 10)) (.int fl) (.ref (d 11)) (.int bl) (.int li) (.int nx) (.int be) (.int tk) (.int er) (.int ea) (.int pe) (.int ne) (.ref (d 12)) (.ref (d 13)) (.int oc) H.size (xs (i + 1)) ac en hi kp now ow th tm u (b1, (ac1, en1, hi1, kp1, now1, ow1, th1, tm1, u1)) z3) 8 rfl rfl rfl [52, 58, 57, 55, 53, 60, 61, 59] rfl rfl rfl rfl ⟨(Nat.le_of_ble_eq_true rfl), (Nat.le_of_ble_eq_true rfl)⟩ hl.1 rfl rfl (Nat.le_of_ble_eq_true rfl) dL_law_2143 ⟨hcR 1 (by decide), hsR 6 (by decide)⟩) hP hD hS hA [52, 58, 57, 55, 53, 60, 61, 59] [0, 0, 0, 0, 0, 0, 0, 0, 0, 0, 0, 0, 0, 0, 0, 0, 0, 0, 0, 0, 0, 0, 0, 0, 0, 0, 0, 0, 0, 0, 0, 0, 0, 0, 0, 0, 0, 0, 0, 0, 0, 0, 0, 0, 0, 0, 0, 0, 0, 0, 0, 0, 1, 5, 0, 4, 0, 3, 2, 8, 6, 7, 0, 0, 0, 0, 0, 0] rfl (fun _ => rfl) rfl (by decide +kernel) (fun r2 u9 H locs hw hP hD hS => ?_)
  obtain ⟨hw2, rfl⟩ := hw
  have hP : va_P G vwCl (LW ca Z q1 a q2 d qo P1 Bf1 Dr Sn hs t1 S1 sc rd sr sh ac1 pe now1 dr kp1 sn hi1 ac1 u1 th1 hs ow1 tm1 en1 od fm fl bf bl li nx be tk er ea pe ne ors oc (((wr1 r0 o).2))) H := hP
  have hD : va_D (lwA s) (LW ca Z q1 a q2 d qo P1 Bf1 Dr Sn hs t1 S1 sc rd sr sh ac1 pe now1 dr kp1 sn hi1 ac1 u1 th1 hs ow1 tm1 en1 od fm fl bf bl li nx be tk er ea pe ne ors oc (((wr1 r0 o).2))) := hD
  refine lv_istore (lv' := (6, .int r2) :: (5, .int r1) :: [(0, .ref b), (1, .ref q1), (2, .ref q2), (3, .ref qo), (4, .int (nI i))]) hx hb dL_law_2146 hl (by decide) rfl (fun ls hl => ?_)
  refine lv_aload_n hx hb dL_law_2148 rfl (lv_at hl 4 rfl) ?_
  refine lw_i (sw_runV (As := []) (rest := []) Cx hP hD hS mv_X11_thrown ml_L_105 (c_X11_thrown l G ca Z q2 (.ref (d 0)) (.ref (d 1)) (.ref (d 2)) (.ref (d 3)) (.ref (d 4)) (.ref (d 5)) (.ref (d 6)) (.ref (d 0)) (.int u1) (.int (bI hs)) (.ref (d 7)) (.ref (d 8)) (.int en1) (.ref (d 9)) (.ref (d 10)) (.int fl) (.ref (d 11)) (.int bl) (.int li) (.int nx) (.int be) (.int tk) (.int er) (.int ea) (.int pe) (.int ne) (.ref (d 12)) (.ref (d 13)) (.int oc) H.size th1 th1 rfl) 8 rfl rfl rfl [52] rfl rfl rfl rfl ⟨(Nat.le_of_ble_eq_true rfl), (Nat.le_of_ble_eq_true rfl)⟩ hl.1 rfl rfl (Nat.le_of_ble_eq_true rfl) dL_law_2149 ⟨hcR 1 (by decide), hsR 6 (by decide)⟩) hP hD hS hA [52] [0, 0, 0, 0, 0, 0, 0, 0, 0, 0, 0, 0, 0, 0, 0, 0, 0, 0, 0, 0, 0, 0, 0, 0, 0, 0, 0, 0, 0, 0, 0, 0, 0, 0, 0, 0, 0, 0, 0, 0, 0, 0, 0, 0, 0, 0, 0, 0, 0, 0, 0, 0, 1, 0, 0, 0, 0, 0, 0, 0, 0, 0, 0, 0, 0, 0, 0, 0] rfl (fun _ => rfl) rfl (by decide +kernel) (fun r3 u9 H locs hw hP hD hS => ?_)
  have hw3 : th1 = r3 := hw
  have hP : va_P G vwCl (LW ca Z q1 a q2 d qo P1 Bf1 Dr Sn hs t1 S1 sc rd sr sh ac1 pe now1 dr kp1 sn hi1 ac1 u1 th1 hs ow1 tm1 en1 od fm fl bf bl li nx be tk er ea pe ne ors oc (((wr1 r0 o).2))) H := hP
  have hD : va_D (lwA s) (LW ca Z q1 a q2 d qo P1 Bf1 Dr Sn hs t1 S1 sc rd sr sh ac1 pe now1 dr kp1 sn hi1 ac1 u1 th1 hs ow1 tm1 en1 od fm fl bf bl li nx be tk er ea pe ne ors oc (((wr1 r0 o).2))) := hD
  have hag := agw1 (o := o) z4
  refine lw_tail (q0 := 67) C hP rfl (lv_at hl 5 rfl) (lv_at hl 1 rfl) (lv_at hl 0 rfl) (hw1.symm.trans (hag.1.trans hw3)) (fun z9 => by rw [← hw2]; exact hag.2 (hw3.trans z9)) dL_law_2152 dL_law_2154 (by decide) dL_law_2159 dL_law_2161 (by decide) dL_law_2164 dL_law_2165 dL_law_2166 dL_law_2167 dL_law_2169 dL_law_2170 dL_law_2171 (by decide) dL_law_2176 (by decide) ?_
  refine va_forget hS.2.2 ?_
  refine W.widen (k := cells + 2) (n := slots + 12) (by omega) (by omega) ?_
  exact KK v1 P1 Bf1 Dr Sn hs t1 S1 sc rd sr sh ac1 pe now1 dr kp1 sn hi1 u1 th1 ow1 tm1 en1 od fm fl bf bl li nx be tk er ea ne ors oc ((wr1 r0 o).2) H ls (by omega) ⟨⟨w1, ns1, R1, k1, D1, y1⟩, y2, y0, hN, hB, hF⟩ hP hD (va_forg hS) (lv_sub hl [2, 3, 4, 5, 6] rfl)

set_option maxHeartbeats 1000000 in
set_option maxRecDepth 100000 in
theorem lc_49 (C : lwC p l s m meth c G ca Z b L xs) (hcl : cells + 2 ≤ 601024) (hsl : slots + 12 ≤ 7293033) (hil : i + 6 ≤ L) (hvv : v + 5000 < 2 ^ 31) (hRL : RLX v P Sn hs t S sc sh now sn hi u fm fl bf bl) (hP : va_P G vwCl (LW ca Z q1 a q2 d qo P Bf Dr Sn hs t S sc rd sr sh ac pe now dr kp sn hi ac u th hs ow tm en od fm fl bf bl li nx be tk er ea pe ne ors oc o) H) (hD : va_D (lwA s) (LW ca Z q1 a q2 d qo P Bf Dr Sn hs t S sc rd sr sh ac pe now dr kp sn hi ac u th hs ow tm en od fm fl bf bl li nx be tk er ea pe ne ors oc o)) (hS : va_S (lwA s) s.heap H []) (hl : lv_has ls 9 [(0, .ref b), (1, .ref q1), (2, .ref q2), (3, .ref qo), (4, .int (nI i))]) (KK : lwKK p l e s m below meth c G ca Z b q1 a q2 d qo cells slots i v Q) :
    W p l e room_1 s m #[.ref b] below meth c H [] cells slots Q (F0 m 2179 ls []) := by
  obtain ⟨⟨⟨hx, hb, hml, hown, htU⟩, hK, hX, hY, hA⟩, hXs, hbl, hL, hfl⟩ := id C
  have Cx := C.1
  have hcR : ∀ j, j ≤ 2 → cells + j ≤ room_1.cells := fun j hj => by show _ ≤ 601024; omega
  have hsR : ∀ j, j ≤ 12 → slots + j ≤ room_1.slots := fun j hj => by show _ ≤ 7293033; omega
  obtain ⟨⟨w, ns, R, k, D, hC⟩, hv, hH, hN, hB, hF⟩ := hRL
  obtain ⟨r0, ac1, Bf1, t1, P1, S1, b1, hi1, kp1, now1, th1, u1, z1, z3, z4, y0, w1, ns1, R1, k1, D1, v1, y1, y2, y3, y4⟩ := O_first hC hH hv (by omega) (xs (i + 1)) ac kp Bf th
  refine lv_aload_n hx hb dL_law_2179 rfl (lv_at hl 1 rfl) ?_
  refine lw_arg C hS (lv_at hl 0 rfl) (lv_at hl 4 rfl) (k := 1) (by decide) hil dL_law_2180 dL_law_2181 dL_law_2183 dL_law_2184 dL_law_2185 ?_
  refine lv_aload_n hx hb dL_law_2186 rfl (lv_at hl 3 rfl) ?_
  refine lw_i (sw_runH (As := [.ref q1, .int (xs (i + 1)), .ref qo]) (rest := []) Cx hP hD hS mh_L_first ml_L_282 (c_L_first l hfl G ca Z q1 (a 50) (a 3) (a 5) (a 4) (a 12) (a 13) (fun j => a (14 + 3 * j)) (fun j => a (16 + 3 * j)) (fun j => a (15 + 3 * j)) (a 0) (a 2) (a 1) (a 38) (a 40) (a 39) (.ref (a 6)) (.ref (a 9)) (.int (bI hs)) (.ref (a 41)) (.ref (a 43)) (.ref (a 44)) (.ref (a 48)) (.int pe) qo H.size (xs (i + 1)) ac Bf t P S o (r0, (ac1, Bf1, t1, P1, S1)) z1 (agk z4)) [0, 51, 4, 6, 5, 13, 14, 15, 17, 16, 18, 20, 19, 21, 23, 22, 24, 26, 25, 27, 29, 28, 30, 32, 31, 33, 35, 34, 36, 38, 37, 1, 3, 2, 39, 41, 40, 67] rfl rfl rfl rfl ⟨(Nat.le_of_ble_eq_true rfl), (Nat.le_of_ble_eq_true rfl)⟩ hl.1 rfl rfl (Nat.le_of_ble_eq_true rfl) dL_law_2187 ⟨hcR 1 (by decide), hsR 6 (by decide)⟩) hP hD hS hA [0, 51, 4, 6, 5, 13, 14, 15, 17, 16, 18, 20, 19, 21, 23, 22, 24, 26, 25, 27, 29, 28, 30, 32, 31, 33, 35, 34, 36, 38, 37, 1, 3, 2, 39, 41, 40, 67] [1, 32, 34, 33, 3, 5, 4, 0, 0, 0, 0, 0, 0, 6, 7, 8, 10, 9, 11, 13, 12, 14, 16, 15, 17, 19, 18, 20, 22, 21, 23, 25, 24, 26, 28, 27, 29, 31, 30, 35, 37, 36, 0, 0, 0, 0, 0, 0, 0, 0, 0, 2, 0, 0, 0, 0, 0, 0, 0, 0, 0, 0, 0, 0, 0, 0, 0, 38] rfl (fun _ => rfl) rfl (by decide +kernel) (fun r1 u9 H locs hw hP hD hS => ?_)
  obtain ⟨hw1, rfl⟩ := hw
  have hP : va_P G vwCl (LW ca Z q1 a q2 d qo P1 Bf1 Dr Sn hs t1 S1 sc rd sr sh ac1 pe now dr kp sn hi ac u th hs ow tm en od fm fl bf bl li nx be tk er ea pe ne ors oc (((wr1 r0 o).2))) H := hP
  have hD : va_D (lwA s) (LW ca Z q1 a q2 d qo P1 Bf1 Dr Sn hs t1 S1 sc rd sr sh ac1 pe now dr kp sn hi ac u th hs ow tm en od fm fl bf bl li nx be tk er ea pe ne ors oc (((wr1 r0 o).2))) := hD
  refine lv_istore (lv' := (5, .int r1) :: [(0, .ref b), (1, .ref q1), (2, .ref q2), (3, .ref qo), (4, .int (nI i))]) hx hb dL_law_2190 hl (by decide) rfl (fun ls hl => ?_)
  refine lv_aload_n hx hb dL_law_2192 rfl (lv_at hl 3 rfl) ?_
  refine lw_arg C hS (lv_at hl 1 rfl) (lv_at hl 5 rfl) (k := 1) (by decide) hil dL_law_2193 dL_law_2194 dL_law_2196 dL_law_2197 dL_law_2198 ?_
  refine lw_i (sw_runV (As := [.int (xs (i + 1))]) (rest := []) Cx hP hD hS mv_X11_first ml_L_284 (c_X11_first l G ca Z q2 (d 5) (d 4) (d 2) (d 0) (.ref (d 1)) (.ref (d 3)) (.ref (d 6)) (.int (bI hs)) (.ref (d 7)) (.ref (d 8)) (.int en) (.ref (d 9)) (.ref (d 10)) (.int fl) (.ref (d 11)) (.int bl) (.int li) (.int nx) (.int be) (.int tk) (.int er) (.int ea) (.int pe) (.int ne) (.ref (d 12)) (.ref (d 13)) (.int oc) H.size (xs (i + 1)) ac hi kp now th u (b1, (ac1, hi1, kp1, now1, th1, u1)) z3) 8 rfl rfl rfl [52, 58, 57, 55, 53] rfl rfl rfl rfl ⟨(Nat.le_of_ble_eq_true rfl), (Nat.le_of_ble_eq_true rfl)⟩ hl.1 rfl rfl (Nat.le_of_ble_eq_true rfl) dL_law_2199 ⟨hcR 1 (by decide), hsR 6 (by decide)⟩) hP hD hS hA [52, 58, 57, 55, 53] [0, 0, 0, 0, 0, 0, 0, 0, 0, 0, 0, 0, 0, 0, 0, 0, 0, 0, 0, 0, 0, 0, 0, 0, 0, 0, 0, 0, 0, 0, 0, 0, 0, 0, 0, 0, 0, 0, 0, 0, 0, 0, 0, 0, 0, 0, 0, 0, 0, 0, 0, 0, 1, 5, 0, 4, 0, 3, 2, 0, 0, 0, 0, 0, 0, 0, 0, 0] rfl (fun _ => rfl) rfl (by decide +kernel) (fun r2 u9 H locs hw hP hD hS => ?_)
  obtain ⟨hw2, rfl⟩ := hw
  have hP : va_P G vwCl (LW ca Z q1 a q2 d qo P1 Bf1 Dr Sn hs t1 S1 sc rd sr sh ac1 pe now1 dr kp1 sn hi1 ac1 u1 th1 hs ow tm en od fm fl bf bl li nx be tk er ea pe ne ors oc (((wr1 r0 o).2))) H := hP
  have hD : va_D (lwA s) (LW ca Z q1 a q2 d qo P1 Bf1 Dr Sn hs t1 S1 sc rd sr sh ac1 pe now1 dr kp1 sn hi1 ac1 u1 th1 hs ow tm en od fm fl bf bl li nx be tk er ea pe ne ors oc (((wr1 r0 o).2))) := hD
  refine lv_istore (lv' := (6, .int r2) :: (5, .int r1) :: [(0, .ref b), (1, .ref q1), (2, .ref q2), (3, .ref qo), (4, .int (nI i))]) hx hb dL_law_2202 hl (by decide) rfl (fun ls hl => ?_)
  refine lv_aload_n hx hb dL_law_2204 rfl (lv_at hl 4 rfl) ?_
  refine lw_i (sw_runV (As := []) (rest := []) Cx hP hD hS mv_X11_thrown ml_L_105 (c_X11_thrown l G ca Z q2 (.ref (d 0)) (.ref (d 1)) (.ref (d 2)) (.ref (d 3)) (.ref (d 4)) (.ref (d 5)) (.ref (d 6)) (.ref (d 0)) (.int u1) (.int (bI hs)) (.ref (d 7)) (.ref (d 8)) (.int en) (.ref (d 9)) (.ref (d 10)) (.int fl) (.ref (d 11)) (.int bl) (.int li) (.int nx) (.int be) (.int tk) (.int er) (.int ea) (.int pe) (.int ne) (.ref (d 12)) (.ref (d 13)) (.int oc) H.size th1 th1 rfl) 8 rfl rfl rfl [52] rfl rfl rfl rfl ⟨(Nat.le_of_ble_eq_true rfl), (Nat.le_of_ble_eq_true rfl)⟩ hl.1 rfl rfl (Nat.le_of_ble_eq_true rfl) dL_law_2205 ⟨hcR 1 (by decide), hsR 6 (by decide)⟩) hP hD hS hA [52] [0, 0, 0, 0, 0, 0, 0, 0, 0, 0, 0, 0, 0, 0, 0, 0, 0, 0, 0, 0, 0, 0, 0, 0, 0, 0, 0, 0, 0, 0, 0, 0, 0, 0, 0, 0, 0, 0, 0, 0, 0, 0, 0, 0, 0, 0, 0, 0, 0, 0, 0, 0, 1, 0, 0, 0, 0, 0, 0, 0, 0, 0, 0, 0, 0, 0, 0, 0] rfl (fun _ => rfl) rfl (by decide +kernel) (fun r3 u9 H locs hw hP hD hS => ?_)
  have hw3 : th1 = r3 := hw
  have hP : va_P G vwCl (LW ca Z q1 a q2 d qo P1 Bf1 Dr Sn hs t1 S1 sc rd sr sh ac1 pe now1 dr kp1 sn hi1 ac1 u1 th1 hs ow tm en od fm fl bf bl li nx be tk er ea pe ne ors oc (((wr1 r0 o).2))) H := hP
  have hD : va_D (lwA s) (LW ca Z q1 a q2 d qo P1 Bf1 Dr Sn hs t1 S1 sc rd sr sh ac1 pe now1 dr kp1 sn hi1 ac1 u1 th1 hs ow tm en od fm fl bf bl li nx be tk er ea pe ne ors oc (((wr1 r0 o).2))) := hD
  have hag := agw1 (o := o) z4
  refine lw_tail (q0 := 67) C hP rfl (lv_at hl 5 rfl) (lv_at hl 1 rfl) (lv_at hl 0 rfl) (hw1.symm.trans (hag.1.trans hw3)) (fun z9 => by rw [← hw2]; exact hag.2 (hw3.trans z9)) dL_law_2208 dL_law_2210 (by decide) dL_law_2215 dL_law_2217 (by decide) dL_law_2220 dL_law_2221 dL_law_2222 dL_law_2223 dL_law_2225 dL_law_2226 dL_law_2227 (by decide) dL_law_2232 (by decide) ?_
  refine va_forget hS.2.2 ?_
  refine W.widen (k := cells + 2) (n := slots + 12) (by omega) (by omega) ?_
  exact KK v1 P1 Bf1 Dr Sn hs t1 S1 sc rd sr sh ac1 pe now1 dr kp1 sn hi1 u1 th1 ow tm en od fm fl bf bl li nx be tk er ea ne ors oc ((wr1 r0 o).2) H ls (by omega) ⟨⟨w1, ns1, R1, k1, D1, y1⟩, y2, y0, hN, hB, hF⟩ hP hD (va_forg hS) (lv_sub hl [2, 3, 4, 5, 6] rfl)
end
