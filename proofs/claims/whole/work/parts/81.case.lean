/-! ===== the law: cases 0 to 9 ===== -/
section
variable {p : Program} {l : Launch} {e : Env} {s : State} {m : MethodId} {below : List Frame} {meth : Method} {c : Code} {H : Heap} {cells slots : Nat} {Q : State → Prop} {G : va_G} {ca Z : Nat → Nat} {b L q1 q2 qo i v : Nat} {a d : Nat → Nat} {xs : Nat → Int32} {ls : Array Slot}
  {P : PlanT} {Bf : PlanT} {Dr : PlanT} {Sn : PlanT} {hs : Bool} {t : HistT} {S : SieveT} {sc : SrcT} {rd : ReadT} {sr : ScrT} {sh : SheetT} {ac : Nat → Int32} {pe : Int32} {now : Nat → Int32} {dr : Nat → Int32} {kp : Nat → Int32} {sn : Nat → Int32} {hi : Nat → Int32} {u : Int32} {th : Int32} {ow : Nat → Int32} {tm : Nat → Int32} {en : Int32} {od : Nat → Int32} {fm : Nat → Int32} {fl : Int32} {bf : Nat → Int32} {bl : Int32} {li : Int32} {nx : Int32} {be : Int32} {tk : Int32} {er : Int32} {ea : Int32} {ne : Int32} {ors : Nat → Int32} {oc : Int32} {o : Nat → Int64}
set_option maxHeartbeats 1000000 in
set_option maxRecDepth 100000 in
theorem lc_0 (C : lwC p l s m meth c G ca Z b L xs) (hcl : cells + 2 ≤ 601024) (hsl : slots + 12 ≤ 7293033) (hil : i + 6 ≤ L) (hvv : v + 5000 < 2 ^ 31) (hRL : RLX v P Sn hs t S sc sh now sn hi u fm fl bf bl) (hP : va_P G vwCl (LW ca Z q1 a q2 d qo P Bf Dr Sn hs t S sc rd sr sh ac pe now dr kp sn hi ac u th hs ow tm en od fm fl bf bl li nx be tk er ea pe ne ors oc o) H) (hD : va_D (lwA s) (LW ca Z q1 a q2 d qo P Bf Dr Sn hs t S sc rd sr sh ac pe now dr kp sn hi ac u th hs ow tm en od fm fl bf bl li nx be tk er ea pe ne ors oc o)) (hS : va_S (lwA s) s.heap H []) (hl : lv_has ls 9 [(0, .ref b), (1, .ref q1), (2, .ref q2), (3, .ref qo), (4, .int (nI i))]) (KK : lwKK p l e s m below meth c G ca Z b q1 a q2 d qo cells slots i v Q) :
    W p l e room_1 s m #[.ref b] below meth c H [] cells slots Q (F0 m 296 ls []) := by
  obtain ⟨⟨⟨hx, hb, hml, hown, htU⟩, hK, hX, hY, hA⟩, hXs, hbl, hL, hfl⟩ := id C
  have Cx := C.1
  have hcR : ∀ j, j ≤ 2 → cells + j ≤ room_1.cells := fun j hj => by show _ ≤ 601024; omega
  have hsR : ∀ j, j ≤ 12 → slots + j ≤ room_1.slots := fun j hj => by show _ ≤ 7293033; omega
  obtain ⟨⟨w, ns, R, k, D, hC⟩, hv, hH, hN, hB, hF⟩ := hRL
  obtain ⟨g, f, hg, hg1, rfl⟩ := id hB
  obtain ⟨r0, sc1, bf1, bl1, f2, g2, z1, z3, y1, y2, y3⟩ := O_feed hg hg1 (xs (i + 1)) (xs (i + 2)) (xs (i + 3)) (xs (i + 4)) (xs (i + 5)) th
  refine lv_aload_n hx hb dL_law_296 rfl (lv_at hl 1 rfl) ?_
  refine lw_arg C hS (lv_at hl 0 rfl) (lv_at hl 4 rfl) (k := 1) (by decide) hil dL_law_297 dL_law_298 dL_law_300 dL_law_301 dL_law_302 ?_
  refine lw_arg C hS (lv_at hl 0 rfl) (lv_at hl 4 rfl) (k := 2) (by decide) hil dL_law_303 dL_law_304 dL_law_306 dL_law_307 dL_law_308 ?_
  refine lw_arg C hS (lv_at hl 0 rfl) (lv_at hl 4 rfl) (k := 3) (by decide) hil dL_law_309 dL_law_310 dL_law_312 dL_law_313 dL_law_314 ?_
  refine lw_arg C hS (lv_at hl 0 rfl) (lv_at hl 4 rfl) (k := 4) (by decide) hil dL_law_315 dL_law_316 dL_law_318 dL_law_319 dL_law_320 ?_
  refine lw_arg C hS (lv_at hl 0 rfl) (lv_at hl 4 rfl) (k := 5) (by decide) hil dL_law_321 dL_law_322 dL_law_324 dL_law_325 dL_law_326 ?_
  refine lw_i (sw_runV (As := [.int (xs (i + 1)), .int (xs (i + 2)), .int (xs (i + 3)), .int (xs (i + 4)), .int (xs (i + 5))]) (rest := []) Cx hP hD hS mv_X10_feed ml_L_94 (c_X10_feed l G ca Z q1 (a 41) (a 42) (.ref (a 0)) (.ref (a 3)) (.ref (a 6)) (.ref (a 9)) (.int (bI hs)) (.ref (a 12)) (.ref (a 38)) (.ref (a 43)) (.ref (a 44)) (.ref (a 48)) (.ref (a 50)) (.int pe) H.size (xs (i + 1)) (xs (i + 2)) (xs (i + 3)) (xs (i + 4)) (xs (i + 5)) sc (r0, sc1) z1) 7 rfl rfl rfl [0, 42, 43] rfl rfl rfl rfl ⟨(Nat.le_of_ble_eq_true rfl), (Nat.le_of_ble_eq_true rfl)⟩ hl.1 rfl rfl (Nat.le_of_ble_eq_true rfl) dL_law_327 ⟨hcR 0 (by decide), hsR 0 (by decide)⟩) hP hD hS hA [0, 42, 43] [1, 0, 0, 0, 0, 0, 0, 0, 0, 0, 0, 0, 0, 0, 0, 0, 0, 0, 0, 0, 0, 0, 0, 0, 0, 0, 0, 0, 0, 0, 0, 0, 0, 0, 0, 0, 0, 0, 0, 0, 0, 0, 2, 3, 0, 0, 0, 0, 0, 0, 0, 0, 0, 0, 0, 0, 0, 0, 0, 0, 0, 0, 0, 0, 0, 0, 0, 0] rfl (fun _ => rfl) rfl (by decide +kernel) (fun r1 u9 H locs hw hP hD hS => ?_)
  obtain ⟨hw1, rfl⟩ := hw
  have hP : va_P G vwCl (LW ca Z q1 a q2 d qo P Bf Dr Sn hs t S sc1 rd sr sh ac pe now dr kp sn hi ac u th hs ow tm en od fm fl bf ((nI f)) li nx be tk er ea pe ne ors oc o) H := hP
  have hD : va_D (lwA s) (LW ca Z q1 a q2 d qo P Bf Dr Sn hs t S sc1 rd sr sh ac pe now dr kp sn hi ac u th hs ow tm en od fm fl bf ((nI f)) li nx be tk er ea pe ne ors oc o) := hD
  refine lv_aload_n hx hb dL_law_330 rfl (lv_at hl 2 rfl) ?_
  refine lw_arg C hS (lv_at hl 0 rfl) (lv_at hl 4 rfl) (k := 1) (by decide) hil dL_law_331 dL_law_332 dL_law_334 dL_law_335 dL_law_336 ?_
  refine lw_arg C hS (lv_at hl 0 rfl) (lv_at hl 4 rfl) (k := 2) (by decide) hil dL_law_337 dL_law_338 dL_law_340 dL_law_341 dL_law_342 ?_
  refine lw_arg C hS (lv_at hl 0 rfl) (lv_at hl 4 rfl) (k := 3) (by decide) hil dL_law_343 dL_law_344 dL_law_346 dL_law_347 dL_law_348 ?_
  refine lw_arg C hS (lv_at hl 0 rfl) (lv_at hl 4 rfl) (k := 4) (by decide) hil dL_law_349 dL_law_350 dL_law_352 dL_law_353 dL_law_354 ?_
  refine lw_arg C hS (lv_at hl 0 rfl) (lv_at hl 4 rfl) (k := 5) (by decide) hil dL_law_355 dL_law_356 dL_law_358 dL_law_359 dL_law_360 ?_
  refine lw_i (sw_runV (As := [.int (xs (i + 1)), .int (xs (i + 2)), .int (xs (i + 3)), .int (xs (i + 4)), .int (xs (i + 5))]) (rest := [.int r1]) Cx hP hD hS mv_X11_feed ml_L_98 (c_X11_feed l G ca Z q2 (d 11) (.ref (d 0)) (.ref (d 1)) (.ref (d 2)) (.ref (d 3)) (.ref (d 4)) (.ref (d 5)) (.ref (d 6)) (.ref (d 0)) (.int u) (.int (bI hs)) (.ref (d 7)) (.ref (d 8)) (.int en) (.ref (d 9)) (.ref (d 10)) (.int fl) (.int li) (.int nx) (.int be) (.int tk) (.int er) (.int ea) (.int pe) (.int ne) (.ref (d 12)) (.ref (d 13)) (.int oc) H.size (xs (i + 1)) (xs (i + 2)) (xs (i + 3)) (xs (i + 4)) (xs (i + 5)) bf (nI f) th (r0, (bf1, bl1, 0)) z3) 8 rfl rfl rfl [52, 64] rfl rfl rfl rfl ⟨(Nat.le_of_ble_eq_true rfl), (Nat.le_of_ble_eq_true rfl)⟩ hl.1 rfl rfl (Nat.le_of_ble_eq_true rfl) dL_law_361 ⟨hcR 0 (by decide), hsR 0 (by decide)⟩) hP hD hS hA [52, 64] [0, 0, 0, 0, 0, 0, 0, 0, 0, 0, 0, 0, 0, 0, 0, 0, 0, 0, 0, 0, 0, 0, 0, 0, 0, 0, 0, 0, 0, 0, 0, 0, 0, 0, 0, 0, 0, 0, 0, 0, 0, 0, 0, 0, 0, 0, 0, 0, 0, 0, 0, 0, 1, 0, 0, 0, 0, 0, 0, 0, 0, 0, 0, 0, 2, 0, 0, 0] rfl (fun _ => rfl) rfl (by decide +kernel) (fun r2 u9 H locs hw hP hD hS => ?_)
  obtain ⟨hw2, rfl⟩ := hw
  have hP : va_P G vwCl (LW ca Z q1 a q2 d qo P Bf Dr Sn hs t S sc1 rd sr sh ac pe now dr kp sn hi ac u 0 hs ow tm en od fm fl bf1 bl1 li nx be tk er ea pe ne ors oc o) H := hP
  have hD : va_D (lwA s) (LW ca Z q1 a q2 d qo P Bf Dr Sn hs t S sc1 rd sr sh ac pe now dr kp sn hi ac u 0 hs ow tm en od fm fl bf1 bl1 li nx be tk er ea pe ne ors oc o) := hD
  refine lv_icmp_eq (tgt := 2547) hx hb dL_law_364 (by decide) (fun _ => ?_) (fun c9 => absurd (hw1.symm.trans hw2) c9)
  refine va_forget hS.2.2 ?_
  refine W.widen (k := cells + 2) (n := slots + 12) (by omega) (by omega) ?_
  exact KK v P Bf Dr Sn hs t S sc1 rd sr sh ac pe now dr kp sn hi u 0 ow tm en od fm fl bf1 bl1 li nx be tk er ea ne ors oc o H ls (by omega) ⟨⟨w, ns, R, k, D, hC⟩, hv, hH, hN, ⟨g2, f2, y3, y2, y1⟩, hF⟩ hP hD (va_forg hS) hl

set_option maxHeartbeats 1000000 in
set_option maxRecDepth 100000 in
theorem lc_1 (C : lwC p l s m meth c G ca Z b L xs) (hcl : cells + 2 ≤ 601024) (hsl : slots + 12 ≤ 7293033) (hil : i + 6 ≤ L) (hvv : v + 5000 < 2 ^ 31) (hRL : RLX v P Sn hs t S sc sh now sn hi u fm fl bf bl) (hP : va_P G vwCl (LW ca Z q1 a q2 d qo P Bf Dr Sn hs t S sc rd sr sh ac pe now dr kp sn hi ac u th hs ow tm en od fm fl bf bl li nx be tk er ea pe ne ors oc o) H) (hD : va_D (lwA s) (LW ca Z q1 a q2 d qo P Bf Dr Sn hs t S sc rd sr sh ac pe now dr kp sn hi ac u th hs ow tm en od fm fl bf bl li nx be tk er ea pe ne ors oc o)) (hS : va_S (lwA s) s.heap H []) (hl : lv_has ls 9 [(0, .ref b), (1, .ref q1), (2, .ref q2), (3, .ref qo), (4, .int (nI i))]) (KK : lwKK p l e s m below meth c G ca Z b q1 a q2 d qo cells slots i v Q) :
    W p l e room_1 s m #[.ref b] below meth c H [] cells slots Q (F0 m 369 ls []) := by
  obtain ⟨⟨⟨hx, hb, hml, hown, htU⟩, hK, hX, hY, hA⟩, hXs, hbl, hL, hfl⟩ := id C
  have Cx := C.1
  have hcR : ∀ j, j ≤ 2 → cells + j ≤ room_1.cells := fun j hj => by show _ ≤ 601024; omega
  have hsR : ∀ j, j ≤ 12 → slots + j ≤ room_1.slots := fun j hj => by show _ ≤ 7293033; omega
  obtain ⟨⟨w, ns, R, k, D, hC⟩, hv, hH, hN, hB, hF⟩ := hRL
  obtain ⟨g, f, hg, hg1, rfl⟩ := id hB
  obtain ⟨r0, Dr1, hs1, t0, P1, pe1, rd1, sc1, b1, be1, bl1, dr1, er1, ea1, li1, ne1, nx1, now1, th1, tk1, u1, z1, z3, z4, ⟨y0, w1, ns1, R1, k1, D1, v1, y1, y2, y3, y4⟩, ⟨f2, y5, y6, y7⟩, y8, ⟨t9, rfl⟩⟩ := O_load hC hH hv (by omega) hg hg1 (xs (i + 1)) Dr hs pe rd be dr er ea li ne nx th tk
  refine lv_aload_n hx hb dL_law_369 rfl (lv_at hl 1 rfl) ?_
  refine lw_arg C hS (lv_at hl 0 rfl) (lv_at hl 4 rfl) (k := 1) (by decide) hil dL_law_370 dL_law_371 dL_law_373 dL_law_374 dL_law_375 ?_
  refine lv_aload_n hx hb dL_law_376 rfl (lv_at hl 3 rfl) ?_
  refine lw_i (sw_runH (As := [.ref q1, .int (xs (i + 1)), .ref qo]) (rest := []) Cx hP hD hS mh_L_load ml_L_99 (c_L_load l hfl G ca Z q1 (a 6) (a 8) (a 7) (a 12) (a 0) (a 2) (a 1) (a 43) (a 41) (a 42) (.ref (a 3)) (.ref (a 9)) (.ref (a 38)) (.ref (a 44)) (.ref (a 48)) (.ref (a 50)) (.ref (a 13)) qo H.size (xs (i + 1)) Dr hs t P pe rd sc o (r0, (Dr1, hs1, (t.1, t9), P1, pe1, rd1, sc1)) z1 (agk z4)) [0, 7, 9, 8, 13, 1, 3, 2, 44, 42, 43, 67] rfl rfl rfl rfl ⟨(Nat.le_of_ble_eq_true rfl), (Nat.le_of_ble_eq_true rfl)⟩ hl.1 rfl rfl (Nat.le_of_ble_eq_true rfl) dL_law_377 ⟨hcR 1 (by decide), hsR 6 (by decide)⟩) hP hD hS hA [0, 7, 9, 8, 13, 1, 3, 2, 44, 42, 43, 67] [1, 6, 8, 7, 0, 0, 0, 2, 4, 3, 0, 0, 0, 5, 0, 0, 0, 0, 0, 0, 0, 0, 0, 0, 0, 0, 0, 0, 0, 0, 0, 0, 0, 0, 0, 0, 0, 0, 0, 0, 0, 0, 10, 11, 9, 0, 0, 0, 0, 0, 0, 0, 0, 0, 0, 0, 0, 0, 0, 0, 0, 0, 0, 0, 0, 0, 0, 12] rfl (fun _ => rfl) rfl (by decide +kernel) (fun r1 u9 H locs hw hP hD hS => ?_)
  obtain ⟨hw1, rfl⟩ := hw
  have hP : va_P G vwCl (LW ca Z q1 a q2 d qo P1 Bf Dr1 Sn hs1 ((t.1, t9)) S sc1 rd1 sr sh ac pe1 now dr kp sn hi ac u th hs ow tm en od fm fl bf ((nI f)) li nx be tk er ea pe ne ors oc (((wr1 r0 o).2))) H := hP
  have hD : va_D (lwA s) (LW ca Z q1 a q2 d qo P1 Bf Dr1 Sn hs1 ((t.1, t9)) S sc1 rd1 sr sh ac pe1 now dr kp sn hi ac u th hs ow tm en od fm fl bf ((nI f)) li nx be tk er ea pe ne ors oc (((wr1 r0 o).2))) := hD
  refine lv_istore (lv' := (5, .int r1) :: [(0, .ref b), (1, .ref q1), (2, .ref q2), (3, .ref qo), (4, .int (nI i))]) hx hb dL_law_380 hl (by decide) rfl (fun ls hl => ?_)
  refine lv_aload_n hx hb dL_law_382 rfl (lv_at hl 3 rfl) ?_
  refine lw_arg C hS (lv_at hl 1 rfl) (lv_at hl 5 rfl) (k := 1) (by decide) hil dL_law_383 dL_law_384 dL_law_386 dL_law_387 dL_law_388 ?_
  refine lw_i (sw_runV (As := [.int (xs (i + 1))]) (rest := []) Cx hP hD hS mv_X11_load ml_L_104 (c_X11_load l G ca Z q2 (d 11) (d 1) (d 0) (.ref (d 2)) (.ref (d 3)) (.ref (d 4)) (.ref (d 5)) (.ref (d 6)) (.ref (d 7)) (.ref (d 8)) (.int en) (.ref (d 9)) (.ref (d 10)) (.int fl) (.ref (d 12)) (.ref (d 13)) (.int oc) H.size (xs (i + 1)) be bf (nI f) dr er ea pe hs li ne nx now th tk u (b1, (be1, bl1, dr1, er1, ea1, pe1, hs1, li1, ne1, nx1, now1, th1, tk1, u1)) z3) 8 rfl rfl rfl [52, 64, 54, 53] rfl rfl rfl rfl ⟨(Nat.le_of_ble_eq_true rfl), (Nat.le_of_ble_eq_true rfl)⟩ hl.1 rfl rfl (Nat.le_of_ble_eq_true rfl) dL_law_389 ⟨hcR 1 (by decide), hsR 6 (by decide)⟩) hP hD hS hA [52, 64, 54, 53] [0, 0, 0, 0, 0, 0, 0, 0, 0, 0, 0, 0, 0, 0, 0, 0, 0, 0, 0, 0, 0, 0, 0, 0, 0, 0, 0, 0, 0, 0, 0, 0, 0, 0, 0, 0, 0, 0, 0, 0, 0, 0, 0, 0, 0, 0, 0, 0, 0, 0, 0, 0, 1, 4, 3, 0, 0, 0, 0, 0, 0, 0, 0, 0, 2, 0, 0, 0] rfl (fun _ => rfl) rfl (by decide +kernel) (fun r2 u9 H locs hw hP hD hS => ?_)
  obtain ⟨hw2, rfl⟩ := hw
  have hP : va_P G vwCl (LW ca Z q1 a q2 d qo P1 Bf Dr1 Sn hs1 ((t.1, t9)) S sc1 rd1 sr sh ac pe1 now1 dr1 kp sn hi ac u1 th1 hs1 ow tm en od fm fl bf bl1 li1 nx1 be1 tk1 er1 ea1 pe1 ne1 ors oc (((wr1 r0 o).2))) H := hP
  have hD : va_D (lwA s) (LW ca Z q1 a q2 d qo P1 Bf Dr1 Sn hs1 ((t.1, t9)) S sc1 rd1 sr sh ac pe1 now1 dr1 kp sn hi ac u1 th1 hs1 ow tm en od fm fl bf bl1 li1 nx1 be1 tk1 er1 ea1 pe1 ne1 ors oc (((wr1 r0 o).2))) := hD
  refine lv_istore (lv' := (6, .int r2) :: (5, .int r1) :: [(0, .ref b), (1, .ref q1), (2, .ref q2), (3, .ref qo), (4, .int (nI i))]) hx hb dL_law_392 hl (by decide) rfl (fun ls hl => ?_)
  refine lv_aload_n hx hb dL_law_394 rfl (lv_at hl 4 rfl) ?_
  refine lw_i (sw_runV (As := []) (rest := []) Cx hP hD hS mv_X11_thrown ml_L_105 (c_X11_thrown l G ca Z q2 (.ref (d 0)) (.ref (d 1)) (.ref (d 2)) (.ref (d 3)) (.ref (d 4)) (.ref (d 5)) (.ref (d 6)) (.ref (d 0)) (.int u1) (.int (bI hs1)) (.ref (d 7)) (.ref (d 8)) (.int en) (.ref (d 9)) (.ref (d 10)) (.int fl) (.ref (d 11)) (.int bl1) (.int li1) (.int nx1) (.int be1) (.int tk1) (.int er1) (.int ea1) (.int pe1) (.int ne1) (.ref (d 12)) (.ref (d 13)) (.int oc) H.size th1 th1 rfl) 8 rfl rfl rfl [52] rfl rfl rfl rfl ⟨(Nat.le_of_ble_eq_true rfl), (Nat.le_of_ble_eq_true rfl)⟩ hl.1 rfl rfl (Nat.le_of_ble_eq_true rfl) dL_law_395 ⟨hcR 1 (by decide), hsR 6 (by decide)⟩) hP hD hS hA [52] [0, 0, 0, 0, 0, 0, 0, 0, 0, 0, 0, 0, 0, 0, 0, 0, 0, 0, 0, 0, 0, 0, 0, 0, 0, 0, 0, 0, 0, 0, 0, 0, 0, 0, 0, 0, 0, 0, 0, 0, 0, 0, 0, 0, 0, 0, 0, 0, 0, 0, 0, 0, 1, 0, 0, 0, 0, 0, 0, 0, 0, 0, 0, 0, 0, 0, 0, 0] rfl (fun _ => rfl) rfl (by decide +kernel) (fun r3 u9 H locs hw hP hD hS => ?_)
  have hw3 : th1 = r3 := hw
  have hP : va_P G vwCl (LW ca Z q1 a q2 d qo P1 Bf Dr1 Sn hs1 ((t.1, t9)) S sc1 rd1 sr sh ac pe1 now1 dr1 kp sn hi ac u1 th1 hs1 ow tm en od fm fl bf bl1 li1 nx1 be1 tk1 er1 ea1 pe1 ne1 ors oc (((wr1 r0 o).2))) H := hP
  have hD : va_D (lwA s) (LW ca Z q1 a q2 d qo P1 Bf Dr1 Sn hs1 ((t.1, t9)) S sc1 rd1 sr sh ac pe1 now1 dr1 kp sn hi ac u1 th1 hs1 ow tm en od fm fl bf bl1 li1 nx1 be1 tk1 er1 ea1 pe1 ne1 ors oc (((wr1 r0 o).2))) := hD
  have hag := agw1 (o := o) z4
  refine lw_tail (q0 := 67) C hP rfl (lv_at hl 5 rfl) (lv_at hl 1 rfl) (lv_at hl 0 rfl) (hw1.symm.trans (hag.1.trans hw3)) (fun z9 => by rw [← hw2]; exact hag.2 (hw3.trans z9)) dL_law_398 dL_law_400 (by decide) dL_law_405 dL_law_407 (by decide) dL_law_410 dL_law_411 dL_law_412 dL_law_413 dL_law_415 dL_law_416 dL_law_417 (by decide) dL_law_422 (by decide) ?_
  refine va_forget hS.2.2 ?_
  refine W.widen (k := cells + 2) (n := slots + 12) (by omega) (by omega) ?_
  exact KK v1 P1 Bf Dr1 Sn hs1 (t.1, t9) S sc1 rd1 sr sh ac pe1 now1 dr1 kp sn hi u1 th1 ow tm en od fm fl bf bl1 li1 nx1 be1 tk1 er1 ea1 ne1 ors oc ((wr1 r0 o).2) H ls (by omega) ⟨⟨w1, ns1, R1, k1, D1, y1⟩, y2, y0, fun q => hN (y8 q), ⟨g, f2, y7, y5, y6⟩, hF⟩ hP hD (va_forg hS) (lv_sub hl [2, 3, 4, 5, 6] rfl)

set_option maxHeartbeats 1000000 in
set_option maxRecDepth 100000 in
theorem lc_2 (C : lwC p l s m meth c G ca Z b L xs) (hcl : cells + 2 ≤ 601024) (hsl : slots + 12 ≤ 7293033) (hil : i + 6 ≤ L) (hvv : v + 5000 < 2 ^ 31) (hRL : RLX v P Sn hs t S sc sh now sn hi u fm fl bf bl) (hP : va_P G vwCl (LW ca Z q1 a q2 d qo P Bf Dr Sn hs t S sc rd sr sh ac pe now dr kp sn hi ac u th hs ow tm en od fm fl bf bl li nx be tk er ea pe ne ors oc o) H) (hD : va_D (lwA s) (LW ca Z q1 a q2 d qo P Bf Dr Sn hs t S sc rd sr sh ac pe now dr kp sn hi ac u th hs ow tm en od fm fl bf bl li nx be tk er ea pe ne ors oc o)) (hS : va_S (lwA s) s.heap H []) (hl : lv_has ls 9 [(0, .ref b), (1, .ref q1), (2, .ref q2), (3, .ref qo), (4, .int (nI i))]) (KK : lwKK p l e s m below meth c G ca Z b q1 a q2 d qo cells slots i v Q) :
    W p l e room_1 s m #[.ref b] below meth c H [] cells slots Q (F0 m 425 ls []) := by
  obtain ⟨⟨⟨hx, hb, hml, hown, htU⟩, hK, hX, hY, hA⟩, hXs, hbl, hL, hfl⟩ := id C
  have Cx := C.1
  have hcR : ∀ j, j ≤ 2 → cells + j ≤ room_1.cells := fun j hj => by show _ ≤ 601024; omega
  have hsR : ∀ j, j ≤ 12 → slots + j ≤ room_1.slots := fun j hj => by show _ ≤ 7293033; omega
  obtain ⟨⟨w, ns, R, k, D, hC⟩, hv, hH, hN, hB, hF⟩ := hRL
  refine lv_aload_n hx hb dL_law_425 rfl (lv_at hl 1 rfl) ?_
  refine lw_i (sw_runV (As := []) (rest := []) Cx hP hD hS mv_X10_errorPosition ml_L_109 (c_X10_errorPosition l G ca Z q1 (.ref (a 0)) (.ref (a 3)) (.ref (a 6)) (.ref (a 9)) (.int (bI hs)) (.ref (a 12)) (.ref (a 38)) (.ref (a 41)) (.ref (a 43)) (.ref (a 44)) (.ref (a 48)) (.ref (a 50)) H.size  pe pe rfl) 7 rfl rfl rfl [0] rfl rfl rfl rfl ⟨(Nat.le_of_ble_eq_true rfl), (Nat.le_of_ble_eq_true rfl)⟩ hl.1 rfl rfl (Nat.le_of_ble_eq_true rfl) dL_law_426 ⟨hcR 0 (by decide), hsR 0 (by decide)⟩) hP hD hS hA [0] [1, 0, 0, 0, 0, 0, 0, 0, 0, 0, 0, 0, 0, 0, 0, 0, 0, 0, 0, 0, 0, 0, 0, 0, 0, 0, 0, 0, 0, 0, 0, 0, 0, 0, 0, 0, 0, 0, 0, 0, 0, 0, 0, 0, 0, 0, 0, 0, 0, 0, 0, 0, 0, 0, 0, 0, 0, 0, 0, 0, 0, 0, 0, 0, 0, 0, 0, 0] rfl (fun _ => rfl) rfl (by decide +kernel) (fun r1 u9 H locs hw hP hD hS => ?_)
  have hw1 := hw
  have hP : va_P G vwCl (LW ca Z q1 a q2 d qo P Bf Dr Sn hs t S sc rd sr sh ac pe now dr kp sn hi ac u th hs ow tm en od fm fl bf bl li nx be tk er ea pe ne ors oc o) H := hP
  have hD : va_D (lwA s) (LW ca Z q1 a q2 d qo P Bf Dr Sn hs t S sc rd sr sh ac pe now dr kp sn hi ac u th hs ow tm en od fm fl bf bl li nx be tk er ea pe ne ors oc o) := hD
  refine lv_aload_n hx hb dL_law_429 rfl (lv_at hl 2 rfl) ?_
  refine lw_i (sw_runV (As := []) (rest := [.int r1]) Cx hP hD hS mv_X11_errorPosition ml_L_112 (c_X11_errorPosition l G ca Z q2 (.ref (d 0)) (.ref (d 1)) (.ref (d 2)) (.ref (d 3)) (.ref (d 4)) (.ref (d 5)) (.ref (d 6)) (.ref (d 0)) (.int u) (.int (bI hs)) (.ref (d 7)) (.ref (d 8)) (.int en) (.ref (d 9)) (.ref (d 10)) (.int fl) (.ref (d 11)) (.int bl) (.int li) (.int nx) (.int be) (.int tk) (.int er) (.int ea) (.int ne) (.ref (d 12)) (.ref (d 13)) (.int oc) H.size  pe th (pe, 0) rfl) 8 rfl rfl rfl [52] rfl rfl rfl rfl ⟨(Nat.le_of_ble_eq_true rfl), (Nat.le_of_ble_eq_true rfl)⟩ hl.1 rfl rfl (Nat.le_of_ble_eq_true rfl) dL_law_430 ⟨hcR 0 (by decide), hsR 0 (by decide)⟩) hP hD hS hA [52] [0, 0, 0, 0, 0, 0, 0, 0, 0, 0, 0, 0, 0, 0, 0, 0, 0, 0, 0, 0, 0, 0, 0, 0, 0, 0, 0, 0, 0, 0, 0, 0, 0, 0, 0, 0, 0, 0, 0, 0, 0, 0, 0, 0, 0, 0, 0, 0, 0, 0, 0, 0, 1, 0, 0, 0, 0, 0, 0, 0, 0, 0, 0, 0, 0, 0, 0, 0] rfl (fun _ => rfl) rfl (by decide +kernel) (fun r2 u9 H locs hw hP hD hS => ?_)
  obtain ⟨hw2, rfl⟩ := hw
  have hP : va_P G vwCl (LW ca Z q1 a q2 d qo P Bf Dr Sn hs t S sc rd sr sh ac pe now dr kp sn hi ac u 0 hs ow tm en od fm fl bf bl li nx be tk er ea pe ne ors oc o) H := hP
  have hD : va_D (lwA s) (LW ca Z q1 a q2 d qo P Bf Dr Sn hs t S sc rd sr sh ac pe now dr kp sn hi ac u 0 hs ow tm en od fm fl bf bl li nx be tk er ea pe ne ors oc o) := hD
  refine lv_icmp_eq (tgt := 2547) hx hb dL_law_433 (by decide) (fun _ => ?_) (fun c9 => absurd (hw1.symm.trans hw2) c9)
  refine va_forget hS.2.2 ?_
  refine W.widen (k := cells + 2) (n := slots + 12) (by omega) (by omega) ?_
  exact KK v P Bf Dr Sn hs t S sc rd sr sh ac pe now dr kp sn hi u 0 ow tm en od fm fl bf bl li nx be tk er ea ne ors oc o H ls (by omega) ⟨⟨w, ns, R, k, D, hC⟩, hv, hH, hN, hB, hF⟩ hP hD (va_forg hS) hl

set_option maxHeartbeats 1000000 in
set_option maxRecDepth 100000 in
theorem lc_3 (C : lwC p l s m meth c G ca Z b L xs) (hcl : cells + 2 ≤ 601024) (hsl : slots + 12 ≤ 7293033) (hil : i + 6 ≤ L) (hvv : v + 5000 < 2 ^ 31) (hRL : RLX v P Sn hs t S sc sh now sn hi u fm fl bf bl) (hP : va_P G vwCl (LW ca Z q1 a q2 d qo P Bf Dr Sn hs t S sc rd sr sh ac pe now dr kp sn hi ac u th hs ow tm en od fm fl bf bl li nx be tk er ea pe ne ors oc o) H) (hD : va_D (lwA s) (LW ca Z q1 a q2 d qo P Bf Dr Sn hs t S sc rd sr sh ac pe now dr kp sn hi ac u th hs ow tm en od fm fl bf bl li nx be tk er ea pe ne ors oc o)) (hS : va_S (lwA s) s.heap H []) (hl : lv_has ls 9 [(0, .ref b), (1, .ref q1), (2, .ref q2), (3, .ref qo), (4, .int (nI i))]) (KK : lwKK p l e s m below meth c G ca Z b q1 a q2 d qo cells slots i v Q) :
    W p l e room_1 s m #[.ref b] below meth c H [] cells slots Q (F0 m 438 ls []) := by
  obtain ⟨⟨⟨hx, hb, hml, hown, htU⟩, hK, hX, hY, hA⟩, hXs, hbl, hL, hfl⟩ := id C
  have Cx := C.1
  have hcR : ∀ j, j ≤ 2 → cells + j ≤ room_1.cells := fun j hj => by show _ ≤ 601024; omega
  have hsR : ∀ j, j ≤ 12 → slots + j ≤ room_1.slots := fun j hj => by show _ ≤ 7293033; omega
  obtain ⟨⟨w, ns, R, k, D, hC⟩, hv, hH, hN, hB, hF⟩ := hRL
  obtain ⟨r0, S1, b1, en1, ow1, th1, tm1, z1, z2, z3, z4⟩ := Q_size hC (xs (i + 1)) en ow tm th
  refine lv_aload_n hx hb dL_law_438 rfl (lv_at hl 1 rfl) ?_
  refine lw_arg C hS (lv_at hl 0 rfl) (lv_at hl 4 rfl) (k := 1) (by decide) hil dL_law_439 dL_law_440 dL_law_442 dL_law_443 dL_law_444 ?_
  refine lv_aload_n hx hb dL_law_445 rfl (lv_at hl 3 rfl) ?_
  refine lw_i (sw_runH (As := [.ref q1, .int (xs (i + 1)), .ref qo]) (rest := []) Cx hP hD hS mh_L_size ml_L_113 (c_L_size l hfl G ca Z q1 (a 0) (a 2) (a 38) (a 40) (a 39) (.ref (a 3)) (.ref (a 6)) (.ref (a 9)) (.int (bI hs)) (.ref (a 12)) (.ref (a 41)) (.ref (a 43)) (.ref (a 44)) (.ref (a 48)) (.ref (a 50)) (.int pe) (.ref (a 1)) qo H.size (xs (i + 1)) P S o (r0, S1) z1 (agk z4)) [0, 1, 3, 39, 41, 40, 67] rfl rfl rfl rfl ⟨(Nat.le_of_ble_eq_true rfl), (Nat.le_of_ble_eq_true rfl)⟩ hl.1 rfl rfl (Nat.le_of_ble_eq_true rfl) dL_law_446 ⟨hcR 1 (by decide), hsR 6 (by decide)⟩) hP hD hS hA [0, 1, 3, 39, 41, 40, 67] [1, 2, 0, 3, 0, 0, 0, 0, 0, 0, 0, 0, 0, 0, 0, 0, 0, 0, 0, 0, 0, 0, 0, 0, 0, 0, 0, 0, 0, 0, 0, 0, 0, 0, 0, 0, 0, 0, 0, 4, 6, 5, 0, 0, 0, 0, 0, 0, 0, 0, 0, 0, 0, 0, 0, 0, 0, 0, 0, 0, 0, 0, 0, 0, 0, 0, 0, 7] rfl (fun _ => rfl) rfl (by decide +kernel) (fun r1 u9 H locs hw hP hD hS => ?_)
  obtain ⟨hw1, rfl⟩ := hw
  have hP : va_P G vwCl (LW ca Z q1 a q2 d qo P Bf Dr Sn hs t S1 sc rd sr sh ac pe now dr kp sn hi ac u th hs ow tm en od fm fl bf bl li nx be tk er ea pe ne ors oc (((wr1 r0 o).2))) H := hP
  have hD : va_D (lwA s) (LW ca Z q1 a q2 d qo P Bf Dr Sn hs t S1 sc rd sr sh ac pe now dr kp sn hi ac u th hs ow tm en od fm fl bf bl li nx be tk er ea pe ne ors oc (((wr1 r0 o).2))) := hD
  refine lv_istore (lv' := (5, .int r1) :: [(0, .ref b), (1, .ref q1), (2, .ref q2), (3, .ref qo), (4, .int (nI i))]) hx hb dL_law_449 hl (by decide) rfl (fun ls hl => ?_)
  refine lv_aload_n hx hb dL_law_451 rfl (lv_at hl 3 rfl) ?_
  refine lw_arg C hS (lv_at hl 1 rfl) (lv_at hl 5 rfl) (k := 1) (by decide) hil dL_law_452 dL_law_453 dL_law_455 dL_law_456 dL_law_457 ?_
  refine lw_i (sw_runV (As := [.int (xs (i + 1))]) (rest := []) Cx hP hD hS mv_X11_size ml_L_115 (c_X11_size l G ca Z q2 (d 7) (d 0) (d 8) (d 6) (.ref (d 0)) (.ref (d 1)) (.ref (d 2)) (.ref (d 3)) (.ref (d 4)) (.ref (d 5)) (.int u) (.int (bI hs)) (.ref (d 9)) (.ref (d 10)) (.int fl) (.ref (d 11)) (.int bl) (.int li) (.int nx) (.int be) (.int tk) (.int er) (.int ea) (.int pe) (.int ne) (.ref (d 12)) (.ref (d 13)) (.int oc) H.size (xs (i + 1)) en ow now th tm (b1, (en1, ow1, th1, tm1)) z3) 8 rfl rfl rfl [52, 60, 53, 61, 59] rfl rfl rfl rfl ⟨(Nat.le_of_ble_eq_true rfl), (Nat.le_of_ble_eq_true rfl)⟩ hl.1 rfl rfl (Nat.le_of_ble_eq_true rfl) dL_law_458 ⟨hcR 1 (by decide), hsR 6 (by decide)⟩) hP hD hS hA [52, 60, 53, 61, 59] [0, 0, 0, 0, 0, 0, 0, 0, 0, 0, 0, 0, 0, 0, 0, 0, 0, 0, 0, 0, 0, 0, 0, 0, 0, 0, 0, 0, 0, 0, 0, 0, 0, 0, 0, 0, 0, 0, 0, 0, 0, 0, 0, 0, 0, 0, 0, 0, 0, 0, 0, 0, 1, 3, 0, 0, 0, 0, 0, 5, 2, 4, 0, 0, 0, 0, 0, 0] rfl (fun _ => rfl) rfl (by decide +kernel) (fun r2 u9 H locs hw hP hD hS => ?_)
  obtain ⟨hw2, rfl⟩ := hw
  have hP : va_P G vwCl (LW ca Z q1 a q2 d qo P Bf Dr Sn hs t S1 sc rd sr sh ac pe now dr kp sn hi ac u th1 hs ow1 tm1 en1 od fm fl bf bl li nx be tk er ea pe ne ors oc (((wr1 r0 o).2))) H := hP
  have hD : va_D (lwA s) (LW ca Z q1 a q2 d qo P Bf Dr Sn hs t S1 sc rd sr sh ac pe now dr kp sn hi ac u th1 hs ow1 tm1 en1 od fm fl bf bl li nx be tk er ea pe ne ors oc (((wr1 r0 o).2))) := hD
  refine lv_istore (lv' := (6, .int r2) :: (5, .int r1) :: [(0, .ref b), (1, .ref q1), (2, .ref q2), (3, .ref qo), (4, .int (nI i))]) hx hb dL_law_461 hl (by decide) rfl (fun ls hl => ?_)
  refine lv_aload_n hx hb dL_law_463 rfl (lv_at hl 4 rfl) ?_
  refine lw_i (sw_runV (As := []) (rest := []) Cx hP hD hS mv_X11_thrown ml_L_105 (c_X11_thrown l G ca Z q2 (.ref (d 0)) (.ref (d 1)) (.ref (d 2)) (.ref (d 3)) (.ref (d 4)) (.ref (d 5)) (.ref (d 6)) (.ref (d 0)) (.int u) (.int (bI hs)) (.ref (d 7)) (.ref (d 8)) (.int en1) (.ref (d 9)) (.ref (d 10)) (.int fl) (.ref (d 11)) (.int bl) (.int li) (.int nx) (.int be) (.int tk) (.int er) (.int ea) (.int pe) (.int ne) (.ref (d 12)) (.ref (d 13)) (.int oc) H.size th1 th1 rfl) 8 rfl rfl rfl [52] rfl rfl rfl rfl ⟨(Nat.le_of_ble_eq_true rfl), (Nat.le_of_ble_eq_true rfl)⟩ hl.1 rfl rfl (Nat.le_of_ble_eq_true rfl) dL_law_464 ⟨hcR 1 (by decide), hsR 6 (by decide)⟩) hP hD hS hA [52] [0, 0, 0, 0, 0, 0, 0, 0, 0, 0, 0, 0, 0, 0, 0, 0, 0, 0, 0, 0, 0, 0, 0, 0, 0, 0, 0, 0, 0, 0, 0, 0, 0, 0, 0, 0, 0, 0, 0, 0, 0, 0, 0, 0, 0, 0, 0, 0, 0, 0, 0, 0, 1, 0, 0, 0, 0, 0, 0, 0, 0, 0, 0, 0, 0, 0, 0, 0] rfl (fun _ => rfl) rfl (by decide +kernel) (fun r3 u9 H locs hw hP hD hS => ?_)
  have hw3 : th1 = r3 := hw
  have hP : va_P G vwCl (LW ca Z q1 a q2 d qo P Bf Dr Sn hs t S1 sc rd sr sh ac pe now dr kp sn hi ac u th1 hs ow1 tm1 en1 od fm fl bf bl li nx be tk er ea pe ne ors oc (((wr1 r0 o).2))) H := hP
  have hD : va_D (lwA s) (LW ca Z q1 a q2 d qo P Bf Dr Sn hs t S1 sc rd sr sh ac pe now dr kp sn hi ac u th1 hs ow1 tm1 en1 od fm fl bf bl li nx be tk er ea pe ne ors oc (((wr1 r0 o).2))) := hD
  have hag := agw1 (o := o) z4
  refine lw_tail (q0 := 67) C hP rfl (lv_at hl 5 rfl) (lv_at hl 1 rfl) (lv_at hl 0 rfl) (hw1.symm.trans (hag.1.trans hw3)) (fun z9 => by rw [← hw2]; exact hag.2 (hw3.trans z9)) dL_law_467 dL_law_469 (by decide) dL_law_474 dL_law_476 (by decide) dL_law_479 dL_law_480 dL_law_481 dL_law_482 dL_law_484 dL_law_485 dL_law_486 (by decide) dL_law_491 (by decide) ?_
  refine va_forget hS.2.2 ?_
  refine W.widen (k := cells + 2) (n := slots + 12) (by omega) (by omega) ?_
  exact KK v P Bf Dr Sn hs t S1 sc rd sr sh ac pe now dr kp sn hi u th1 ow1 tm1 en1 od fm fl bf bl li nx be tk er ea ne ors oc ((wr1 r0 o).2) H ls (by omega) ⟨⟨w, ns, R, k, D, hC.1, hC.2.1, hC.2.2.1, z2⟩, hv, hH, hN, hB, hF⟩ hP hD (va_forg hS) (lv_sub hl [2, 3, 4, 5, 6] rfl)

set_option maxHeartbeats 1000000 in
set_option maxRecDepth 100000 in
theorem lc_4 (C : lwC p l s m meth c G ca Z b L xs) (hcl : cells + 2 ≤ 601024) (hsl : slots + 12 ≤ 7293033) (hil : i + 6 ≤ L) (hvv : v + 5000 < 2 ^ 31) (hRL : RLX v P Sn hs t S sc sh now sn hi u fm fl bf bl) (hP : va_P G vwCl (LW ca Z q1 a q2 d qo P Bf Dr Sn hs t S sc rd sr sh ac pe now dr kp sn hi ac u th hs ow tm en od fm fl bf bl li nx be tk er ea pe ne ors oc o) H) (hD : va_D (lwA s) (LW ca Z q1 a q2 d qo P Bf Dr Sn hs t S sc rd sr sh ac pe now dr kp sn hi ac u th hs ow tm en od fm fl bf bl li nx be tk er ea pe ne ors oc o)) (hS : va_S (lwA s) s.heap H []) (hl : lv_has ls 9 [(0, .ref b), (1, .ref q1), (2, .ref q2), (3, .ref qo), (4, .int (nI i))]) (KK : lwKK p l e s m below meth c G ca Z b q1 a q2 d qo cells slots i v Q) :
    W p l e room_1 s m #[.ref b] below meth c H [] cells slots Q (F0 m 494 ls []) := by
  obtain ⟨⟨⟨hx, hb, hml, hown, htU⟩, hK, hX, hY, hA⟩, hXs, hbl, hL, hfl⟩ := id C
  have Cx := C.1
  have hcR : ∀ j, j ≤ 2 → cells + j ≤ room_1.cells := fun j hj => by show _ ≤ 601024; omega
  have hsR : ∀ j, j ≤ 12 → slots + j ≤ room_1.slots := fun j hj => by show _ ≤ 7293033; omega
  obtain ⟨⟨w, ns, R, k, D, hC⟩, hv, hH, hN, hB, hF⟩ := hRL
  obtain ⟨r0, b1, th1, z1, z3, z4⟩ := Q_account (xs (i + 1)) ac ac th
  refine lv_aload_n hx hb dL_law_494 rfl (lv_at hl 1 rfl) ?_
  refine lw_arg C hS (lv_at hl 0 rfl) (lv_at hl 4 rfl) (k := 1) (by decide) hil dL_law_495 dL_law_496 dL_law_498 dL_law_499 dL_law_500 ?_
  refine lv_aload_n hx hb dL_law_501 rfl (lv_at hl 3 rfl) ?_
  refine lw_i (sw_runH (As := [.ref q1, .int (xs (i + 1)), .ref qo]) (rest := []) Cx hP hD hS mh_L_account ml_L_116 (c_L_account l hfl G ca Z q1 (a 50) (.ref (a 0)) (.ref (a 3)) (.ref (a 6)) (.ref (a 9)) (.int (bI hs)) (.ref (a 12)) (.ref (a 38)) (.ref (a 41)) (.ref (a 43)) (.ref (a 44)) (.ref (a 48)) (.int pe) qo H.size (xs (i + 1)) ac o r0 z1 (agk z4)) [0, 51, 67] rfl rfl rfl rfl ⟨(Nat.le_of_ble_eq_true rfl), (Nat.le_of_ble_eq_true rfl)⟩ hl.1 rfl rfl (Nat.le_of_ble_eq_true rfl) dL_law_502 ⟨hcR 1 (by decide), hsR 6 (by decide)⟩) hP hD hS hA [0, 51, 67] [1, 0, 0, 0, 0, 0, 0, 0, 0, 0, 0, 0, 0, 0, 0, 0, 0, 0, 0, 0, 0, 0, 0, 0, 0, 0, 0, 0, 0, 0, 0, 0, 0, 0, 0, 0, 0, 0, 0, 0, 0, 0, 0, 0, 0, 0, 0, 0, 0, 0, 0, 2, 0, 0, 0, 0, 0, 0, 0, 0, 0, 0, 0, 0, 0, 0, 0, 3] rfl (fun _ => rfl) rfl (by decide +kernel) (fun r1 u9 H locs hw hP hD hS => ?_)
  obtain ⟨hw1, rfl⟩ := hw
  have hP : va_P G vwCl (LW ca Z q1 a q2 d qo P Bf Dr Sn hs t S sc rd sr sh ac pe now dr kp sn hi ac u th hs ow tm en od fm fl bf bl li nx be tk er ea pe ne ors oc (((wr1 r0 o).2))) H := hP
  have hD : va_D (lwA s) (LW ca Z q1 a q2 d qo P Bf Dr Sn hs t S sc rd sr sh ac pe now dr kp sn hi ac u th hs ow tm en od fm fl bf bl li nx be tk er ea pe ne ors oc (((wr1 r0 o).2))) := hD
  refine lv_istore (lv' := (5, .int r1) :: [(0, .ref b), (1, .ref q1), (2, .ref q2), (3, .ref qo), (4, .int (nI i))]) hx hb dL_law_505 hl (by decide) rfl (fun ls hl => ?_)
  refine lv_aload_n hx hb dL_law_507 rfl (lv_at hl 3 rfl) ?_
  refine lw_arg C hS (lv_at hl 1 rfl) (lv_at hl 5 rfl) (k := 1) (by decide) hil dL_law_508 dL_law_509 dL_law_511 dL_law_512 dL_law_513 ?_
  refine lw_i (sw_runV (As := [.int (xs (i + 1))]) (rest := []) Cx hP hD hS mv_X11_account ml_L_118 (c_X11_account l G ca Z q2 (d 5) (.ref (d 0)) (.ref (d 1)) (.ref (d 2)) (.ref (d 3)) (.ref (d 4)) (.ref (d 6)) (.ref (d 0)) (.int u) (.int (bI hs)) (.ref (d 7)) (.ref (d 8)) (.int en) (.ref (d 9)) (.ref (d 10)) (.int fl) (.ref (d 11)) (.int bl) (.int li) (.int nx) (.int be) (.int tk) (.int er) (.int ea) (.int pe) (.int ne) (.ref (d 12)) (.ref (d 13)) (.int oc) H.size (xs (i + 1)) ac th (b1, th1) z3) 8 rfl rfl rfl [52, 58] rfl rfl rfl rfl ⟨(Nat.le_of_ble_eq_true rfl), (Nat.le_of_ble_eq_true rfl)⟩ hl.1 rfl rfl (Nat.le_of_ble_eq_true rfl) dL_law_514 ⟨hcR 1 (by decide), hsR 6 (by decide)⟩) hP hD hS hA [52, 58] [0, 0, 0, 0, 0, 0, 0, 0, 0, 0, 0, 0, 0, 0, 0, 0, 0, 0, 0, 0, 0, 0, 0, 0, 0, 0, 0, 0, 0, 0, 0, 0, 0, 0, 0, 0, 0, 0, 0, 0, 0, 0, 0, 0, 0, 0, 0, 0, 0, 0, 0, 0, 1, 0, 0, 0, 0, 0, 2, 0, 0, 0, 0, 0, 0, 0, 0, 0] rfl (fun _ => rfl) rfl (by decide +kernel) (fun r2 u9 H locs hw hP hD hS => ?_)
  obtain ⟨hw2, rfl⟩ := hw
  have hP : va_P G vwCl (LW ca Z q1 a q2 d qo P Bf Dr Sn hs t S sc rd sr sh ac pe now dr kp sn hi ac u th1 hs ow tm en od fm fl bf bl li nx be tk er ea pe ne ors oc (((wr1 r0 o).2))) H := hP
  have hD : va_D (lwA s) (LW ca Z q1 a q2 d qo P Bf Dr Sn hs t S sc rd sr sh ac pe now dr kp sn hi ac u th1 hs ow tm en od fm fl bf bl li nx be tk er ea pe ne ors oc (((wr1 r0 o).2))) := hD
  refine lv_istore (lv' := (6, .int r2) :: (5, .int r1) :: [(0, .ref b), (1, .ref q1), (2, .ref q2), (3, .ref qo), (4, .int (nI i))]) hx hb dL_law_517 hl (by decide) rfl (fun ls hl => ?_)
  refine lv_aload_n hx hb dL_law_519 rfl (lv_at hl 4 rfl) ?_
  refine lw_i (sw_runV (As := []) (rest := []) Cx hP hD hS mv_X11_thrown ml_L_105 (c_X11_thrown l G ca Z q2 (.ref (d 0)) (.ref (d 1)) (.ref (d 2)) (.ref (d 3)) (.ref (d 4)) (.ref (d 5)) (.ref (d 6)) (.ref (d 0)) (.int u) (.int (bI hs)) (.ref (d 7)) (.ref (d 8)) (.int en) (.ref (d 9)) (.ref (d 10)) (.int fl) (.ref (d 11)) (.int bl) (.int li) (.int nx) (.int be) (.int tk) (.int er) (.int ea) (.int pe) (.int ne) (.ref (d 12)) (.ref (d 13)) (.int oc) H.size th1 th1 rfl) 8 rfl rfl rfl [52] rfl rfl rfl rfl ⟨(Nat.le_of_ble_eq_true rfl), (Nat.le_of_ble_eq_true rfl)⟩ hl.1 rfl rfl (Nat.le_of_ble_eq_true rfl) dL_law_520 ⟨hcR 1 (by decide), hsR 6 (by decide)⟩) hP hD hS hA [52] [0, 0, 0, 0, 0, 0, 0, 0, 0, 0, 0, 0, 0, 0, 0, 0, 0, 0, 0, 0, 0, 0, 0, 0, 0, 0, 0, 0, 0, 0, 0, 0, 0, 0, 0, 0, 0, 0, 0, 0, 0, 0, 0, 0, 0, 0, 0, 0, 0, 0, 0, 0, 1, 0, 0, 0, 0, 0, 0, 0, 0, 0, 0, 0, 0, 0, 0, 0] rfl (fun _ => rfl) rfl (by decide +kernel) (fun r3 u9 H locs hw hP hD hS => ?_)
  have hw3 : th1 = r3 := hw
  have hP : va_P G vwCl (LW ca Z q1 a q2 d qo P Bf Dr Sn hs t S sc rd sr sh ac pe now dr kp sn hi ac u th1 hs ow tm en od fm fl bf bl li nx be tk er ea pe ne ors oc (((wr1 r0 o).2))) H := hP
  have hD : va_D (lwA s) (LW ca Z q1 a q2 d qo P Bf Dr Sn hs t S sc rd sr sh ac pe now dr kp sn hi ac u th1 hs ow tm en od fm fl bf bl li nx be tk er ea pe ne ors oc (((wr1 r0 o).2))) := hD
  have hag := agw1 (o := o) z4
  refine lw_tail (q0 := 67) C hP rfl (lv_at hl 5 rfl) (lv_at hl 1 rfl) (lv_at hl 0 rfl) (hw1.symm.trans (hag.1.trans hw3)) (fun z9 => by rw [← hw2]; exact hag.2 (hw3.trans z9)) dL_law_523 dL_law_525 (by decide) dL_law_530 dL_law_532 (by decide) dL_law_535 dL_law_536 dL_law_537 dL_law_538 dL_law_540 dL_law_541 dL_law_542 (by decide) dL_law_547 (by decide) ?_
  refine va_forget hS.2.2 ?_
  refine W.widen (k := cells + 2) (n := slots + 12) (by omega) (by omega) ?_
  exact KK v P Bf Dr Sn hs t S sc rd sr sh ac pe now dr kp sn hi u th1 ow tm en od fm fl bf bl li nx be tk er ea ne ors oc ((wr1 r0 o).2) H ls (by omega) ⟨⟨w, ns, R, k, D, hC⟩, hv, hH, hN, hB, hF⟩ hP hD (va_forg hS) (lv_sub hl [2, 3, 4, 5, 6] rfl)

set_option maxHeartbeats 1000000 in
set_option maxRecDepth 100000 in
theorem lc_5 (C : lwC p l s m meth c G ca Z b L xs) (hcl : cells + 2 ≤ 601024) (hsl : slots + 12 ≤ 7293033) (hil : i + 6 ≤ L) (hvv : v + 5000 < 2 ^ 31) (hRL : RLX v P Sn hs t S sc sh now sn hi u fm fl bf bl) (hP : va_P G vwCl (LW ca Z q1 a q2 d qo P Bf Dr Sn hs t S sc rd sr sh ac pe now dr kp sn hi ac u th hs ow tm en od fm fl bf bl li nx be tk er ea pe ne ors oc o) H) (hD : va_D (lwA s) (LW ca Z q1 a q2 d qo P Bf Dr Sn hs t S sc rd sr sh ac pe now dr kp sn hi ac u th hs ow tm en od fm fl bf bl li nx be tk er ea pe ne ors oc o)) (hS : va_S (lwA s) s.heap H []) (hl : lv_has ls 9 [(0, .ref b), (1, .ref q1), (2, .ref q2), (3, .ref qo), (4, .int (nI i))]) (KK : lwKK p l e s m below meth c G ca Z b q1 a q2 d qo cells slots i v Q) :
    W p l e room_1 s m #[.ref b] below meth c H [] cells slots Q (F0 m 550 ls []) := by
  obtain ⟨⟨⟨hx, hb, hml, hown, htU⟩, hK, hX, hY, hA⟩, hXs, hbl, hL, hfl⟩ := id C
  have Cx := C.1
  have hcR : ∀ j, j ≤ 2 → cells + j ≤ room_1.cells := fun j hj => by show _ ≤ 601024; omega
  have hsR : ∀ j, j ≤ 12 → slots + j ≤ room_1.slots := fun j hj => by show _ ≤ 7293033; omega
  obtain ⟨⟨w, ns, R, k, D, hC⟩, hv, hH, hN, hB, hF⟩ := hRL
  obtain ⟨r0, S1, b1, en1, ow1, th1, tm1, z1, z2, z3, z4⟩ := Q_stretch hC (xs (i + 1)) (xs (i + 2)) en ow tm th
  refine lv_aload_n hx hb dL_law_550 rfl (lv_at hl 1 rfl) ?_
  refine lw_arg C hS (lv_at hl 0 rfl) (lv_at hl 4 rfl) (k := 1) (by decide) hil dL_law_551 dL_law_552 dL_law_554 dL_law_555 dL_law_556 ?_
  refine lw_arg C hS (lv_at hl 0 rfl) (lv_at hl 4 rfl) (k := 2) (by decide) hil dL_law_557 dL_law_558 dL_law_560 dL_law_561 dL_law_562 ?_
  refine lv_aload_n hx hb dL_law_563 rfl (lv_at hl 3 rfl) ?_
  refine lw_i (sw_runH (As := [.ref q1, .int (xs (i + 1)), .int (xs (i + 2)), .ref qo]) (rest := []) Cx hP hD hS mh_L_stretch ml_L_119 (c_L_stretch l hfl G ca Z q1 (a 0) (a 2) (a 1) (a 38) (a 40) (a 39) (.ref (a 3)) (.ref (a 6)) (.ref (a 9)) (.int (bI hs)) (.ref (a 12)) (.ref (a 41)) (.ref (a 43)) (.ref (a 44)) (.ref (a 48)) (.ref (a 50)) (.int pe) qo H.size (xs (i + 1)) (xs (i + 2)) P S o (r0, S1) z1) [0, 1, 3, 2, 39, 41, 40, 67] rfl rfl rfl rfl ⟨(Nat.le_of_ble_eq_true rfl), (Nat.le_of_ble_eq_true rfl)⟩ hl.1 rfl rfl (Nat.le_of_ble_eq_true rfl) dL_law_564 ⟨hcR 2 (by decide), hsR 12 (by decide)⟩) hP hD hS hA [0, 1, 3, 2, 39, 41, 40, 67] [1, 2, 4, 3, 0, 0, 0, 0, 0, 0, 0, 0, 0, 0, 0, 0, 0, 0, 0, 0, 0, 0, 0, 0, 0, 0, 0, 0, 0, 0, 0, 0, 0, 0, 0, 0, 0, 0, 0, 5, 7, 6, 0, 0, 0, 0, 0, 0, 0, 0, 0, 0, 0, 0, 0, 0, 0, 0, 0, 0, 0, 0, 0, 0, 0, 0, 0, 8] rfl (fun _ => rfl) rfl (by decide +kernel) (fun r1 u9 H locs hw hP hD hS => ?_)
  obtain ⟨hw1, rfl⟩ := hw
  have hP : va_P G vwCl (LW ca Z q1 a q2 d qo P Bf Dr Sn hs t S1 sc rd sr sh ac pe now dr kp sn hi ac u th hs ow tm en od fm fl bf bl li nx be tk er ea pe ne ors oc (((wr2 r0 o).2))) H := hP
  have hD : va_D (lwA s) (LW ca Z q1 a q2 d qo P Bf Dr Sn hs t S1 sc rd sr sh ac pe now dr kp sn hi ac u th hs ow tm en od fm fl bf bl li nx be tk er ea pe ne ors oc (((wr2 r0 o).2))) := hD
  refine lv_istore (lv' := (5, .int r1) :: [(0, .ref b), (1, .ref q1), (2, .ref q2), (3, .ref qo), (4, .int (nI i))]) hx hb dL_law_567 hl (by decide) rfl (fun ls hl => ?_)
  refine lv_aload_n hx hb dL_law_569 rfl (lv_at hl 3 rfl) ?_
  refine lw_arg C hS (lv_at hl 1 rfl) (lv_at hl 5 rfl) (k := 1) (by decide) hil dL_law_570 dL_law_571 dL_law_573 dL_law_574 dL_law_575 ?_
  refine lw_arg C hS (lv_at hl 1 rfl) (lv_at hl 5 rfl) (k := 2) (by decide) hil dL_law_576 dL_law_577 dL_law_579 dL_law_580 dL_law_581 ?_
  refine lw_i (sw_runV (As := [.int (xs (i + 1)), .int (xs (i + 2))]) (rest := []) Cx hP hD hS mv_X11_stretch ml_L_122 (c_X11_stretch l G ca Z q2 (d 7) (d 0) (d 8) (d 6) (.ref (d 0)) (.ref (d 1)) (.ref (d 2)) (.ref (d 3)) (.ref (d 4)) (.ref (d 5)) (.int u) (.int (bI hs)) (.ref (d 9)) (.ref (d 10)) (.int fl) (.ref (d 11)) (.int bl) (.int li) (.int nx) (.int be) (.int tk) (.int er) (.int ea) (.int pe) (.int ne) (.ref (d 12)) (.ref (d 13)) (.int oc) H.size (xs (i + 1)) (xs (i + 2)) en ow now th tm (b1, (en1, ow1, th1, tm1)) z3) 8 rfl rfl rfl [52, 60, 53, 61, 59] rfl rfl rfl rfl ⟨(Nat.le_of_ble_eq_true rfl), (Nat.le_of_ble_eq_true rfl)⟩ hl.1 rfl rfl (Nat.le_of_ble_eq_true rfl) dL_law_582 ⟨hcR 2 (by decide), hsR 12 (by decide)⟩) hP hD hS hA [52, 60, 53, 61, 59] [0, 0, 0, 0, 0, 0, 0, 0, 0, 0, 0, 0, 0, 0, 0, 0, 0, 0, 0, 0, 0, 0, 0, 0, 0, 0, 0, 0, 0, 0, 0, 0, 0, 0, 0, 0, 0, 0, 0, 0, 0, 0, 0, 0, 0, 0, 0, 0, 0, 0, 0, 0, 1, 3, 0, 0, 0, 0, 0, 5, 2, 4, 0, 0, 0, 0, 0, 0] rfl (fun _ => rfl) rfl (by decide +kernel) (fun r2 u9 H locs hw hP hD hS => ?_)
  obtain ⟨hw2, rfl⟩ := hw
  have hP : va_P G vwCl (LW ca Z q1 a q2 d qo P Bf Dr Sn hs t S1 sc rd sr sh ac pe now dr kp sn hi ac u th1 hs ow1 tm1 en1 od fm fl bf bl li nx be tk er ea pe ne ors oc (((wr2 r0 o).2))) H := hP
  have hD : va_D (lwA s) (LW ca Z q1 a q2 d qo P Bf Dr Sn hs t S1 sc rd sr sh ac pe now dr kp sn hi ac u th1 hs ow1 tm1 en1 od fm fl bf bl li nx be tk er ea pe ne ors oc (((wr2 r0 o).2))) := hD
  refine lv_istore (lv' := (6, .int r2) :: (5, .int r1) :: [(0, .ref b), (1, .ref q1), (2, .ref q2), (3, .ref qo), (4, .int (nI i))]) hx hb dL_law_585 hl (by decide) rfl (fun ls hl => ?_)
  refine lv_aload_n hx hb dL_law_587 rfl (lv_at hl 4 rfl) ?_
  refine lw_i (sw_runV (As := []) (rest := []) Cx hP hD hS mv_X11_thrown ml_L_105 (c_X11_thrown l G ca Z q2 (.ref (d 0)) (.ref (d 1)) (.ref (d 2)) (.ref (d 3)) (.ref (d 4)) (.ref (d 5)) (.ref (d 6)) (.ref (d 0)) (.int u) (.int (bI hs)) (.ref (d 7)) (.ref (d 8)) (.int en1) (.ref (d 9)) (.ref (d 10)) (.int fl) (.ref (d 11)) (.int bl) (.int li) (.int nx) (.int be) (.int tk) (.int er) (.int ea) (.int pe) (.int ne) (.ref (d 12)) (.ref (d 13)) (.int oc) H.size th1 th1 rfl) 8 rfl rfl rfl [52] rfl rfl rfl rfl ⟨(Nat.le_of_ble_eq_true rfl), (Nat.le_of_ble_eq_true rfl)⟩ hl.1 rfl rfl (Nat.le_of_ble_eq_true rfl) dL_law_588 ⟨hcR 2 (by decide), hsR 12 (by decide)⟩) hP hD hS hA [52] [0, 0, 0, 0, 0, 0, 0, 0, 0, 0, 0, 0, 0, 0, 0, 0, 0, 0, 0, 0, 0, 0, 0, 0, 0, 0, 0, 0, 0, 0, 0, 0, 0, 0, 0, 0, 0, 0, 0, 0, 0, 0, 0, 0, 0, 0, 0, 0, 0, 0, 0, 0, 1, 0, 0, 0, 0, 0, 0, 0, 0, 0, 0, 0, 0, 0, 0, 0] rfl (fun _ => rfl) rfl (by decide +kernel) (fun r3 u9 H locs hw hP hD hS => ?_)
  have hw3 : th1 = r3 := hw
  have hP : va_P G vwCl (LW ca Z q1 a q2 d qo P Bf Dr Sn hs t S1 sc rd sr sh ac pe now dr kp sn hi ac u th1 hs ow1 tm1 en1 od fm fl bf bl li nx be tk er ea pe ne ors oc (((wr2 r0 o).2))) H := hP
  have hD : va_D (lwA s) (LW ca Z q1 a q2 d qo P Bf Dr Sn hs t S1 sc rd sr sh ac pe now dr kp sn hi ac u th1 hs ow1 tm1 en1 od fm fl bf bl li nx be tk er ea pe ne ors oc (((wr2 r0 o).2))) := hD
  have hag := agw2 (o := o) z4
  refine lw_tail (q0 := 67) C hP rfl (lv_at hl 5 rfl) (lv_at hl 1 rfl) (lv_at hl 0 rfl) (hw1.symm.trans (hag.1.trans hw3)) (fun z9 => by rw [← hw2]; exact hag.2 (hw3.trans z9)) dL_law_591 dL_law_593 (by decide) dL_law_598 dL_law_600 (by decide) dL_law_603 dL_law_604 dL_law_605 dL_law_606 dL_law_608 dL_law_609 dL_law_610 (by decide) dL_law_615 (by decide) ?_
  refine va_forget hS.2.2 ?_
  refine W.widen (k := cells + 2) (n := slots + 12) (by omega) (by omega) ?_
  exact KK v P Bf Dr Sn hs t S1 sc rd sr sh ac pe now dr kp sn hi u th1 ow1 tm1 en1 od fm fl bf bl li nx be tk er ea ne ors oc ((wr2 r0 o).2) H ls (by omega) ⟨⟨w, ns, R, k, D, hC.1, hC.2.1, hC.2.2.1, z2⟩, hv, hH, hN, hB, hF⟩ hP hD (va_forg hS) (lv_sub hl [2, 3, 4, 5, 6] rfl)

set_option maxHeartbeats 1000000 in
set_option maxRecDepth 100000 in
theorem lc_6 (C : lwC p l s m meth c G ca Z b L xs) (hcl : cells + 2 ≤ 601024) (hsl : slots + 12 ≤ 7293033) (hil : i + 6 ≤ L) (hvv : v + 5000 < 2 ^ 31) (hRL : RLX v P Sn hs t S sc sh now sn hi u fm fl bf bl) (hP : va_P G vwCl (LW ca Z q1 a q2 d qo P Bf Dr Sn hs t S sc rd sr sh ac pe now dr kp sn hi ac u th hs ow tm en od fm fl bf bl li nx be tk er ea pe ne ors oc o) H) (hD : va_D (lwA s) (LW ca Z q1 a q2 d qo P Bf Dr Sn hs t S sc rd sr sh ac pe now dr kp sn hi ac u th hs ow tm en od fm fl bf bl li nx be tk er ea pe ne ors oc o)) (hS : va_S (lwA s) s.heap H []) (hl : lv_has ls 9 [(0, .ref b), (1, .ref q1), (2, .ref q2), (3, .ref qo), (4, .int (nI i))]) (KK : lwKK p l e s m below meth c G ca Z b q1 a q2 d qo cells slots i v Q) :
    W p l e room_1 s m #[.ref b] below meth c H [] cells slots Q (F0 m 618 ls []) := by
  obtain ⟨⟨⟨hx, hb, hml, hown, htU⟩, hK, hX, hY, hA⟩, hXs, hbl, hL, hfl⟩ := id C
  have Cx := C.1
  have hcR : ∀ j, j ≤ 2 → cells + j ≤ room_1.cells := fun j hj => by show _ ≤ 601024; omega
  have hsR : ∀ j, j ≤ 12 → slots + j ≤ room_1.slots := fun j hj => by show _ ≤ 7293033; omega
  obtain ⟨⟨w, ns, R, k, D, hC⟩, hv, hH, hN, hB, hF⟩ := hRL
  obtain ⟨r0, S1, b1, en1, ow1, th1, tm1, z1, z2, z3, z4⟩ := Q_striker hC (xs (i + 1)) (xs (i + 2)) en ow tm th
  refine lv_aload_n hx hb dL_law_618 rfl (lv_at hl 1 rfl) ?_
  refine lw_arg C hS (lv_at hl 0 rfl) (lv_at hl 4 rfl) (k := 1) (by decide) hil dL_law_619 dL_law_620 dL_law_622 dL_law_623 dL_law_624 ?_
  refine lw_arg C hS (lv_at hl 0 rfl) (lv_at hl 4 rfl) (k := 2) (by decide) hil dL_law_625 dL_law_626 dL_law_628 dL_law_629 dL_law_630 ?_
  refine lv_aload_n hx hb dL_law_631 rfl (lv_at hl 3 rfl) ?_
  refine lw_i (sw_runH (As := [.ref q1, .int (xs (i + 1)), .int (xs (i + 2)), .ref qo]) (rest := []) Cx hP hD hS mh_L_striker ml_L_123 (c_L_striker l hfl G ca Z q1 (a 0) (a 2) (a 38) (a 40) (a 39) (.ref (a 3)) (.ref (a 6)) (.ref (a 9)) (.int (bI hs)) (.ref (a 12)) (.ref (a 41)) (.ref (a 43)) (.ref (a 44)) (.ref (a 48)) (.ref (a 50)) (.int pe) (.ref (a 1)) qo H.size (xs (i + 1)) (xs (i + 2)) P S o (r0, S1) z1) [0, 1, 3, 39, 41, 40, 67] rfl rfl rfl rfl ⟨(Nat.le_of_ble_eq_true rfl), (Nat.le_of_ble_eq_true rfl)⟩ hl.1 rfl rfl (Nat.le_of_ble_eq_true rfl) dL_law_632 ⟨hcR 2 (by decide), hsR 12 (by decide)⟩) hP hD hS hA [0, 1, 3, 39, 41, 40, 67] [1, 2, 0, 3, 0, 0, 0, 0, 0, 0, 0, 0, 0, 0, 0, 0, 0, 0, 0, 0, 0, 0, 0, 0, 0, 0, 0, 0, 0, 0, 0, 0, 0, 0, 0, 0, 0, 0, 0, 4, 6, 5, 0, 0, 0, 0, 0, 0, 0, 0, 0, 0, 0, 0, 0, 0, 0, 0, 0, 0, 0, 0, 0, 0, 0, 0, 0, 7] rfl (fun _ => rfl) rfl (by decide +kernel) (fun r1 u9 H locs hw hP hD hS => ?_)
  obtain ⟨hw1, rfl⟩ := hw
  have hP : va_P G vwCl (LW ca Z q1 a q2 d qo P Bf Dr Sn hs t S1 sc rd sr sh ac pe now dr kp sn hi ac u th hs ow tm en od fm fl bf bl li nx be tk er ea pe ne ors oc (((wr2 r0 o).2))) H := hP
  have hD : va_D (lwA s) (LW ca Z q1 a q2 d qo P Bf Dr Sn hs t S1 sc rd sr sh ac pe now dr kp sn hi ac u th hs ow tm en od fm fl bf bl li nx be tk er ea pe ne ors oc (((wr2 r0 o).2))) := hD
  refine lv_istore (lv' := (5, .int r1) :: [(0, .ref b), (1, .ref q1), (2, .ref q2), (3, .ref qo), (4, .int (nI i))]) hx hb dL_law_635 hl (by decide) rfl (fun ls hl => ?_)
  refine lv_aload_n hx hb dL_law_637 rfl (lv_at hl 3 rfl) ?_
  refine lw_arg C hS (lv_at hl 1 rfl) (lv_at hl 5 rfl) (k := 1) (by decide) hil dL_law_638 dL_law_639 dL_law_641 dL_law_642 dL_law_643 ?_
  refine lw_arg C hS (lv_at hl 1 rfl) (lv_at hl 5 rfl) (k := 2) (by decide) hil dL_law_644 dL_law_645 dL_law_647 dL_law_648 dL_law_649 ?_
  refine lw_i (sw_runV (As := [.int (xs (i + 1)), .int (xs (i + 2))]) (rest := []) Cx hP hD hS mv_X11_striker ml_L_125 (c_X11_striker l G ca Z q2 (d 7) (d 0) (d 8) (d 6) (.ref (d 0)) (.ref (d 1)) (.ref (d 2)) (.ref (d 3)) (.ref (d 4)) (.ref (d 5)) (.int u) (.int (bI hs)) (.ref (d 9)) (.ref (d 10)) (.int fl) (.ref (d 11)) (.int bl) (.int li) (.int nx) (.int be) (.int tk) (.int er) (.int ea) (.int pe) (.int ne) (.ref (d 12)) (.ref (d 13)) (.int oc) H.size (xs (i + 1)) (xs (i + 2)) en ow now th tm (b1, (en1, ow1, th1, tm1)) z3) 8 rfl rfl rfl [52, 60, 53, 61, 59] rfl rfl rfl rfl ⟨(Nat.le_of_ble_eq_true rfl), (Nat.le_of_ble_eq_true rfl)⟩ hl.1 rfl rfl (Nat.le_of_ble_eq_true rfl) dL_law_650 ⟨hcR 2 (by decide), hsR 12 (by decide)⟩) hP hD hS hA [52, 60, 53, 61, 59] [0, 0, 0, 0, 0, 0, 0, 0, 0, 0, 0, 0, 0, 0, 0, 0, 0, 0, 0, 0, 0, 0, 0, 0, 0, 0, 0, 0, 0, 0, 0, 0, 0, 0, 0, 0, 0, 0, 0, 0, 0, 0, 0, 0, 0, 0, 0, 0, 0, 0, 0, 0, 1, 3, 0, 0, 0, 0, 0, 5, 2, 4, 0, 0, 0, 0, 0, 0] rfl (fun _ => rfl) rfl (by decide +kernel) (fun r2 u9 H locs hw hP hD hS => ?_)
  obtain ⟨hw2, rfl⟩ := hw
  have hP : va_P G vwCl (LW ca Z q1 a q2 d qo P Bf Dr Sn hs t S1 sc rd sr sh ac pe now dr kp sn hi ac u th1 hs ow1 tm1 en1 od fm fl bf bl li nx be tk er ea pe ne ors oc (((wr2 r0 o).2))) H := hP
  have hD : va_D (lwA s) (LW ca Z q1 a q2 d qo P Bf Dr Sn hs t S1 sc rd sr sh ac pe now dr kp sn hi ac u th1 hs ow1 tm1 en1 od fm fl bf bl li nx be tk er ea pe ne ors oc (((wr2 r0 o).2))) := hD
  refine lv_istore (lv' := (6, .int r2) :: (5, .int r1) :: [(0, .ref b), (1, .ref q1), (2, .ref q2), (3, .ref qo), (4, .int (nI i))]) hx hb dL_law_653 hl (by decide) rfl (fun ls hl => ?_)
  refine lv_aload_n hx hb dL_law_655 rfl (lv_at hl 4 rfl) ?_
  refine lw_i (sw_runV (As := []) (rest := []) Cx hP hD hS mv_X11_thrown ml_L_105 (c_X11_thrown l G ca Z q2 (.ref (d 0)) (.ref (d 1)) (.ref (d 2)) (.ref (d 3)) (.ref (d 4)) (.ref (d 5)) (.ref (d 6)) (.ref (d 0)) (.int u) (.int (bI hs)) (.ref (d 7)) (.ref (d 8)) (.int en1) (.ref (d 9)) (.ref (d 10)) (.int fl) (.ref (d 11)) (.int bl) (.int li) (.int nx) (.int be) (.int tk) (.int er) (.int ea) (.int pe) (.int ne) (.ref (d 12)) (.ref (d 13)) (.int oc) H.size th1 th1 rfl) 8 rfl rfl rfl [52] rfl rfl rfl rfl ⟨(Nat.le_of_ble_eq_true rfl), (Nat.le_of_ble_eq_true rfl)⟩ hl.1 rfl rfl (Nat.le_of_ble_eq_true rfl) dL_law_656 ⟨hcR 2 (by decide), hsR 12 (by decide)⟩) hP hD hS hA [52] [0, 0, 0, 0, 0, 0, 0, 0, 0, 0, 0, 0, 0, 0, 0, 0, 0, 0, 0, 0, 0, 0, 0, 0, 0, 0, 0, 0, 0, 0, 0, 0, 0, 0, 0, 0, 0, 0, 0, 0, 0, 0, 0, 0, 0, 0, 0, 0, 0, 0, 0, 0, 1, 0, 0, 0, 0, 0, 0, 0, 0, 0, 0, 0, 0, 0, 0, 0] rfl (fun _ => rfl) rfl (by decide +kernel) (fun r3 u9 H locs hw hP hD hS => ?_)
  have hw3 : th1 = r3 := hw
  have hP : va_P G vwCl (LW ca Z q1 a q2 d qo P Bf Dr Sn hs t S1 sc rd sr sh ac pe now dr kp sn hi ac u th1 hs ow1 tm1 en1 od fm fl bf bl li nx be tk er ea pe ne ors oc (((wr2 r0 o).2))) H := hP
  have hD : va_D (lwA s) (LW ca Z q1 a q2 d qo P Bf Dr Sn hs t S1 sc rd sr sh ac pe now dr kp sn hi ac u th1 hs ow1 tm1 en1 od fm fl bf bl li nx be tk er ea pe ne ors oc (((wr2 r0 o).2))) := hD
  have hag := agw2 (o := o) z4
  refine lw_tail (q0 := 67) C hP rfl (lv_at hl 5 rfl) (lv_at hl 1 rfl) (lv_at hl 0 rfl) (hw1.symm.trans (hag.1.trans hw3)) (fun z9 => by rw [← hw2]; exact hag.2 (hw3.trans z9)) dL_law_659 dL_law_661 (by decide) dL_law_666 dL_law_668 (by decide) dL_law_671 dL_law_672 dL_law_673 dL_law_674 dL_law_676 dL_law_677 dL_law_678 (by decide) dL_law_683 (by decide) ?_
  refine va_forget hS.2.2 ?_
  refine W.widen (k := cells + 2) (n := slots + 12) (by omega) (by omega) ?_
  exact KK v P Bf Dr Sn hs t S1 sc rd sr sh ac pe now dr kp sn hi u th1 ow1 tm1 en1 od fm fl bf bl li nx be tk er ea ne ors oc ((wr2 r0 o).2) H ls (by omega) ⟨⟨w, ns, R, k, D, hC.1, hC.2.1, hC.2.2.1, z2⟩, hv, hH, hN, hB, hF⟩ hP hD (va_forg hS) (lv_sub hl [2, 3, 4, 5, 6] rfl)

set_option maxHeartbeats 1000000 in
set_option maxRecDepth 100000 in
theorem lc_7 (C : lwC p l s m meth c G ca Z b L xs) (hcl : cells + 2 ≤ 601024) (hsl : slots + 12 ≤ 7293033) (hil : i + 6 ≤ L) (hvv : v + 5000 < 2 ^ 31) (hRL : RLX v P Sn hs t S sc sh now sn hi u fm fl bf bl) (hP : va_P G vwCl (LW ca Z q1 a q2 d qo P Bf Dr Sn hs t S sc rd sr sh ac pe now dr kp sn hi ac u th hs ow tm en od fm fl bf bl li nx be tk er ea pe ne ors oc o) H) (hD : va_D (lwA s) (LW ca Z q1 a q2 d qo P Bf Dr Sn hs t S sc rd sr sh ac pe now dr kp sn hi ac u th hs ow tm en od fm fl bf bl li nx be tk er ea pe ne ors oc o)) (hS : va_S (lwA s) s.heap H []) (hl : lv_has ls 9 [(0, .ref b), (1, .ref q1), (2, .ref q2), (3, .ref qo), (4, .int (nI i))]) (KK : lwKK p l e s m below meth c G ca Z b q1 a q2 d qo cells slots i v Q) :
    W p l e room_1 s m #[.ref b] below meth c H [] cells slots Q (F0 m 686 ls []) := by
  obtain ⟨⟨⟨hx, hb, hml, hown, htU⟩, hK, hX, hY, hA⟩, hXs, hbl, hL, hfl⟩ := id C
  have Cx := C.1
  have hcR : ∀ j, j ≤ 2 → cells + j ≤ room_1.cells := fun j hj => by show _ ≤ 601024; omega
  have hsR : ∀ j, j ≤ 12 → slots + j ≤ room_1.slots := fun j hj => by show _ ≤ 7293033; omega
  obtain ⟨⟨w, ns, R, k, D, hC⟩, hv, hH, hN, hB, hF⟩ := hRL
  obtain ⟨r0, z1, z3⟩ := Q_find hC (xs (i + 1)) th
  refine lv_aload_n hx hb dL_law_686 rfl (lv_at hl 1 rfl) ?_
  refine lw_arg C hS (lv_at hl 0 rfl) (lv_at hl 4 rfl) (k := 1) (by decide) hil dL_law_687 dL_law_688 dL_law_690 dL_law_691 dL_law_692 ?_
  refine lw_i (sw_runV (As := [.int (xs (i + 1))]) (rest := []) Cx hP hD hS mv_X10_find ml_L_126 (c_X10_find l G ca Z q1 (a 0) (a 2) (.ref (a 3)) (.ref (a 6)) (.ref (a 9)) (.int (bI hs)) (.ref (a 12)) (.ref (a 38)) (.ref (a 41)) (.ref (a 43)) (.ref (a 44)) (.ref (a 48)) (.ref (a 50)) (.int pe) (.ref (a 1)) H.size (xs (i + 1)) P r0 z1) 7 rfl rfl rfl [0, 1, 3] rfl rfl rfl rfl ⟨(Nat.le_of_ble_eq_true rfl), (Nat.le_of_ble_eq_true rfl)⟩ hl.1 rfl rfl (Nat.le_of_ble_eq_true rfl) dL_law_693 ⟨hcR 0 (by decide), hsR 0 (by decide)⟩) hP hD hS hA [0, 1, 3] [1, 2, 0, 3, 0, 0, 0, 0, 0, 0, 0, 0, 0, 0, 0, 0, 0, 0, 0, 0, 0, 0, 0, 0, 0, 0, 0, 0, 0, 0, 0, 0, 0, 0, 0, 0, 0, 0, 0, 0, 0, 0, 0, 0, 0, 0, 0, 0, 0, 0, 0, 0, 0, 0, 0, 0, 0, 0, 0, 0, 0, 0, 0, 0, 0, 0, 0, 0] rfl (fun _ => rfl) rfl (by decide +kernel) (fun r1 u9 H locs hw hP hD hS => ?_)
  have hw1 := hw
  have hP : va_P G vwCl (LW ca Z q1 a q2 d qo P Bf Dr Sn hs t S sc rd sr sh ac pe now dr kp sn hi ac u th hs ow tm en od fm fl bf bl li nx be tk er ea pe ne ors oc o) H := hP
  have hD : va_D (lwA s) (LW ca Z q1 a q2 d qo P Bf Dr Sn hs t S sc rd sr sh ac pe now dr kp sn hi ac u th hs ow tm en od fm fl bf bl li nx be tk er ea pe ne ors oc o) := hD
  refine lv_aload_n hx hb dL_law_696 rfl (lv_at hl 2 rfl) ?_
  refine lw_arg C hS (lv_at hl 0 rfl) (lv_at hl 4 rfl) (k := 1) (by decide) hil dL_law_697 dL_law_698 dL_law_700 dL_law_701 dL_law_702 ?_
  refine lw_i (sw_runV (As := [.int (xs (i + 1))]) (rest := [.int r1]) Cx hP hD hS mv_X11_find ml_L_129 (c_X11_find l G ca Z q2 (d 0) (.ref (d 0)) (.ref (d 1)) (.ref (d 2)) (.ref (d 3)) (.ref (d 4)) (.ref (d 5)) (.ref (d 6)) (.int u) (.int (bI hs)) (.ref (d 7)) (.ref (d 8)) (.int en) (.ref (d 9)) (.ref (d 10)) (.int fl) (.ref (d 11)) (.int bl) (.int li) (.int nx) (.int be) (.int tk) (.int er) (.int ea) (.int pe) (.int ne) (.ref (d 12)) (.ref (d 13)) (.int oc) H.size (xs (i + 1)) now th (r0, 0) z3) 8 rfl rfl rfl [52, 53] rfl rfl rfl rfl ⟨(Nat.le_of_ble_eq_true rfl), (Nat.le_of_ble_eq_true rfl)⟩ hl.1 rfl rfl (Nat.le_of_ble_eq_true rfl) dL_law_703 ⟨hcR 0 (by decide), hsR 0 (by decide)⟩) hP hD hS hA [52, 53] [0, 0, 0, 0, 0, 0, 0, 0, 0, 0, 0, 0, 0, 0, 0, 0, 0, 0, 0, 0, 0, 0, 0, 0, 0, 0, 0, 0, 0, 0, 0, 0, 0, 0, 0, 0, 0, 0, 0, 0, 0, 0, 0, 0, 0, 0, 0, 0, 0, 0, 0, 0, 1, 2, 0, 0, 0, 0, 0, 0, 0, 0, 0, 0, 0, 0, 0, 0] rfl (fun _ => rfl) rfl (by decide +kernel) (fun r2 u9 H locs hw hP hD hS => ?_)
  obtain ⟨hw2, rfl⟩ := hw
  have hP : va_P G vwCl (LW ca Z q1 a q2 d qo P Bf Dr Sn hs t S sc rd sr sh ac pe now dr kp sn hi ac u 0 hs ow tm en od fm fl bf bl li nx be tk er ea pe ne ors oc o) H := hP
  have hD : va_D (lwA s) (LW ca Z q1 a q2 d qo P Bf Dr Sn hs t S sc rd sr sh ac pe now dr kp sn hi ac u 0 hs ow tm en od fm fl bf bl li nx be tk er ea pe ne ors oc o) := hD
  refine lv_icmp_eq (tgt := 2547) hx hb dL_law_706 (by decide) (fun _ => ?_) (fun c9 => absurd (hw1.symm.trans hw2) c9)
  refine va_forget hS.2.2 ?_
  refine W.widen (k := cells + 2) (n := slots + 12) (by omega) (by omega) ?_
  exact KK v P Bf Dr Sn hs t S sc rd sr sh ac pe now dr kp sn hi u 0 ow tm en od fm fl bf bl li nx be tk er ea ne ors oc o H ls (by omega) ⟨⟨w, ns, R, k, D, hC⟩, hv, hH, hN, hB, hF⟩ hP hD (va_forg hS) hl

set_option maxHeartbeats 1000000 in
set_option maxRecDepth 100000 in
theorem lc_8 (C : lwC p l s m meth c G ca Z b L xs) (hcl : cells + 2 ≤ 601024) (hsl : slots + 12 ≤ 7293033) (hil : i + 6 ≤ L) (hvv : v + 5000 < 2 ^ 31) (hRL : RLX v P Sn hs t S sc sh now sn hi u fm fl bf bl) (hP : va_P G vwCl (LW ca Z q1 a q2 d qo P Bf Dr Sn hs t S sc rd sr sh ac pe now dr kp sn hi ac u th hs ow tm en od fm fl bf bl li nx be tk er ea pe ne ors oc o) H) (hD : va_D (lwA s) (LW ca Z q1 a q2 d qo P Bf Dr Sn hs t S sc rd sr sh ac pe now dr kp sn hi ac u th hs ow tm en od fm fl bf bl li nx be tk er ea pe ne ors oc o)) (hS : va_S (lwA s) s.heap H []) (hl : lv_has ls 9 [(0, .ref b), (1, .ref q1), (2, .ref q2), (3, .ref qo), (4, .int (nI i))]) (KK : lwKK p l e s m below meth c G ca Z b q1 a q2 d qo cells slots i v Q) :
    W p l e room_1 s m #[.ref b] below meth c H [] cells slots Q (F0 m 711 ls []) := by
  obtain ⟨⟨⟨hx, hb, hml, hown, htU⟩, hK, hX, hY, hA⟩, hXs, hbl, hL, hfl⟩ := id C
  have Cx := C.1
  have hcR : ∀ j, j ≤ 2 → cells + j ≤ room_1.cells := fun j hj => by show _ ≤ 601024; omega
  have hsR : ∀ j, j ≤ 12 → slots + j ≤ room_1.slots := fun j hj => by show _ ≤ 7293033; omega
  obtain ⟨⟨w, ns, R, k, D, hC⟩, hv, hH, hN, hB, hF⟩ := hRL
  obtain ⟨r0, S1, en1, ow1, th1, tm1, z1, z2, z3⟩ := Q_at hC (xs (i + 1)) en ow tm th
  refine lv_aload_n hx hb dL_law_711 rfl (lv_at hl 1 rfl) ?_
  refine lw_arg C hS (lv_at hl 0 rfl) (lv_at hl 4 rfl) (k := 1) (by decide) hil dL_law_712 dL_law_713 dL_law_715 dL_law_716 dL_law_717 ?_
  refine lw_i (sw_runV (As := [.int (xs (i + 1))]) (rest := []) Cx hP hD hS mv_X10_at ml_L_130 (c_X10_at l G ca Z q1 (a 0) (a 2) (a 38) (a 40) (a 39) (.ref (a 3)) (.ref (a 6)) (.ref (a 9)) (.int (bI hs)) (.ref (a 12)) (.ref (a 41)) (.ref (a 43)) (.ref (a 44)) (.ref (a 48)) (.ref (a 50)) (.int pe) (.ref (a 1)) H.size (xs (i + 1)) P S (r0, S1) z1) 7 rfl rfl rfl [0, 1, 3, 39, 41, 40] rfl rfl rfl rfl ⟨(Nat.le_of_ble_eq_true rfl), (Nat.le_of_ble_eq_true rfl)⟩ hl.1 rfl rfl (Nat.le_of_ble_eq_true rfl) dL_law_718 ⟨hcR 0 (by decide), hsR 0 (by decide)⟩) hP hD hS hA [0, 1, 3, 39, 41, 40] [1, 2, 0, 3, 0, 0, 0, 0, 0, 0, 0, 0, 0, 0, 0, 0, 0, 0, 0, 0, 0, 0, 0, 0, 0, 0, 0, 0, 0, 0, 0, 0, 0, 0, 0, 0, 0, 0, 0, 4, 6, 5, 0, 0, 0, 0, 0, 0, 0, 0, 0, 0, 0, 0, 0, 0, 0, 0, 0, 0, 0, 0, 0, 0, 0, 0, 0, 0] rfl (fun _ => rfl) rfl (by decide +kernel) (fun r1 u9 H locs hw hP hD hS => ?_)
  obtain ⟨hw1, rfl⟩ := hw
  have hP : va_P G vwCl (LW ca Z q1 a q2 d qo P Bf Dr Sn hs t S1 sc rd sr sh ac pe now dr kp sn hi ac u th hs ow tm en od fm fl bf bl li nx be tk er ea pe ne ors oc o) H := hP
  have hD : va_D (lwA s) (LW ca Z q1 a q2 d qo P Bf Dr Sn hs t S1 sc rd sr sh ac pe now dr kp sn hi ac u th hs ow tm en od fm fl bf bl li nx be tk er ea pe ne ors oc o) := hD
  refine lv_aload_n hx hb dL_law_721 rfl (lv_at hl 2 rfl) ?_
  refine lw_arg C hS (lv_at hl 0 rfl) (lv_at hl 4 rfl) (k := 1) (by decide) hil dL_law_722 dL_law_723 dL_law_725 dL_law_726 dL_law_727 ?_
  refine lw_i (sw_runV (As := [.int (xs (i + 1))]) (rest := [.int r1]) Cx hP hD hS mv_X11_at ml_L_133 (c_X11_at l G ca Z q2 (d 7) (d 0) (d 8) (d 6) (.ref (d 0)) (.ref (d 1)) (.ref (d 2)) (.ref (d 3)) (.ref (d 4)) (.ref (d 5)) (.int u) (.int (bI hs)) (.ref (d 9)) (.ref (d 10)) (.int fl) (.ref (d 11)) (.int bl) (.int li) (.int nx) (.int be) (.int tk) (.int er) (.int ea) (.int pe) (.int ne) (.ref (d 12)) (.ref (d 13)) (.int oc) H.size (xs (i + 1)) en ow now th tm (r0, (en1, ow1, th1, tm1)) z3) 8 rfl rfl rfl [52, 60, 53, 61, 59] rfl rfl rfl rfl ⟨(Nat.le_of_ble_eq_true rfl), (Nat.le_of_ble_eq_true rfl)⟩ hl.1 rfl rfl (Nat.le_of_ble_eq_true rfl) dL_law_728 ⟨hcR 0 (by decide), hsR 0 (by decide)⟩) hP hD hS hA [52, 60, 53, 61, 59] [0, 0, 0, 0, 0, 0, 0, 0, 0, 0, 0, 0, 0, 0, 0, 0, 0, 0, 0, 0, 0, 0, 0, 0, 0, 0, 0, 0, 0, 0, 0, 0, 0, 0, 0, 0, 0, 0, 0, 0, 0, 0, 0, 0, 0, 0, 0, 0, 0, 0, 0, 0, 1, 3, 0, 0, 0, 0, 0, 5, 2, 4, 0, 0, 0, 0, 0, 0] rfl (fun _ => rfl) rfl (by decide +kernel) (fun r2 u9 H locs hw hP hD hS => ?_)
  obtain ⟨hw2, rfl⟩ := hw
  have hP : va_P G vwCl (LW ca Z q1 a q2 d qo P Bf Dr Sn hs t S1 sc rd sr sh ac pe now dr kp sn hi ac u th1 hs ow1 tm1 en1 od fm fl bf bl li nx be tk er ea pe ne ors oc o) H := hP
  have hD : va_D (lwA s) (LW ca Z q1 a q2 d qo P Bf Dr Sn hs t S1 sc rd sr sh ac pe now dr kp sn hi ac u th1 hs ow1 tm1 en1 od fm fl bf bl li nx be tk er ea pe ne ors oc o) := hD
  refine lv_icmp_eq (tgt := 2547) hx hb dL_law_731 (by decide) (fun _ => ?_) (fun c9 => absurd (hw1.symm.trans hw2) c9)
  refine va_forget hS.2.2 ?_
  refine W.widen (k := cells + 2) (n := slots + 12) (by omega) (by omega) ?_
  exact KK v P Bf Dr Sn hs t S1 sc rd sr sh ac pe now dr kp sn hi u th1 ow1 tm1 en1 od fm fl bf bl li nx be tk er ea ne ors oc o H ls (by omega) ⟨⟨w, ns, R, k, D, hC.1, hC.2.1, hC.2.2.1, z2⟩, hv, hH, hN, hB, hF⟩ hP hD (va_forg hS) hl

set_option maxHeartbeats 1000000 in
set_option maxRecDepth 100000 in
theorem lc_9 (C : lwC p l s m meth c G ca Z b L xs) (hcl : cells + 2 ≤ 601024) (hsl : slots + 12 ≤ 7293033) (hil : i + 6 ≤ L) (hvv : v + 5000 < 2 ^ 31) (hRL : RLX v P Sn hs t S sc sh now sn hi u fm fl bf bl) (hP : va_P G vwCl (LW ca Z q1 a q2 d qo P Bf Dr Sn hs t S sc rd sr sh ac pe now dr kp sn hi ac u th hs ow tm en od fm fl bf bl li nx be tk er ea pe ne ors oc o) H) (hD : va_D (lwA s) (LW ca Z q1 a q2 d qo P Bf Dr Sn hs t S sc rd sr sh ac pe now dr kp sn hi ac u th hs ow tm en od fm fl bf bl li nx be tk er ea pe ne ors oc o)) (hS : va_S (lwA s) s.heap H []) (hl : lv_has ls 9 [(0, .ref b), (1, .ref q1), (2, .ref q2), (3, .ref qo), (4, .int (nI i))]) (KK : lwKK p l e s m below meth c G ca Z b q1 a q2 d qo cells slots i v Q) :
    W p l e room_1 s m #[.ref b] below meth c H [] cells slots Q (F0 m 736 ls []) := by
  obtain ⟨⟨⟨hx, hb, hml, hown, htU⟩, hK, hX, hY, hA⟩, hXs, hbl, hL, hfl⟩ := id C
  have Cx := C.1
  have hcR : ∀ j, j ≤ 2 → cells + j ≤ room_1.cells := fun j hj => by show _ ≤ 601024; omega
  have hsR : ∀ j, j ≤ 12 → slots + j ≤ room_1.slots := fun j hj => by show _ ≤ 7293033; omega
  obtain ⟨⟨w, ns, R, k, D, hC⟩, hv, hH, hN, hB, hF⟩ := hRL
  obtain ⟨r0, S1, en1, ow1, th1, tm1, z1, z2, z3⟩ := Q_cause hC (xs (i + 1)) en ow tm th
  refine lv_aload_n hx hb dL_law_736 rfl (lv_at hl 1 rfl) ?_
  refine lw_arg C hS (lv_at hl 0 rfl) (lv_at hl 4 rfl) (k := 1) (by decide) hil dL_law_737 dL_law_738 dL_law_740 dL_law_741 dL_law_742 ?_
  refine lw_i (sw_runV (As := [.int (xs (i + 1))]) (rest := []) Cx hP hD hS mv_X10_cause ml_L_134 (c_X10_cause l G ca Z q1 (a 0) (a 2) (a 38) (a 40) (a 39) (.ref (a 3)) (.ref (a 6)) (.ref (a 9)) (.int (bI hs)) (.ref (a 12)) (.ref (a 41)) (.ref (a 43)) (.ref (a 44)) (.ref (a 48)) (.ref (a 50)) (.int pe) (.ref (a 1)) H.size (xs (i + 1)) P S (r0, S1) z1) 7 rfl rfl rfl [0, 1, 3, 39, 41, 40] rfl rfl rfl rfl ⟨(Nat.le_of_ble_eq_true rfl), (Nat.le_of_ble_eq_true rfl)⟩ hl.1 rfl rfl (Nat.le_of_ble_eq_true rfl) dL_law_743 ⟨hcR 0 (by decide), hsR 0 (by decide)⟩) hP hD hS hA [0, 1, 3, 39, 41, 40] [1, 2, 0, 3, 0, 0, 0, 0, 0, 0, 0, 0, 0, 0, 0, 0, 0, 0, 0, 0, 0, 0, 0, 0, 0, 0, 0, 0, 0, 0, 0, 0, 0, 0, 0, 0, 0, 0, 0, 4, 6, 5, 0, 0, 0, 0, 0, 0, 0, 0, 0, 0, 0, 0, 0, 0, 0, 0, 0, 0, 0, 0, 0, 0, 0, 0, 0, 0] rfl (fun _ => rfl) rfl (by decide +kernel) (fun r1 u9 H locs hw hP hD hS => ?_)
  obtain ⟨hw1, rfl⟩ := hw
  have hP : va_P G vwCl (LW ca Z q1 a q2 d qo P Bf Dr Sn hs t S1 sc rd sr sh ac pe now dr kp sn hi ac u th hs ow tm en od fm fl bf bl li nx be tk er ea pe ne ors oc o) H := hP
  have hD : va_D (lwA s) (LW ca Z q1 a q2 d qo P Bf Dr Sn hs t S1 sc rd sr sh ac pe now dr kp sn hi ac u th hs ow tm en od fm fl bf bl li nx be tk er ea pe ne ors oc o) := hD
  refine lv_aload_n hx hb dL_law_746 rfl (lv_at hl 2 rfl) ?_
  refine lw_arg C hS (lv_at hl 0 rfl) (lv_at hl 4 rfl) (k := 1) (by decide) hil dL_law_747 dL_law_748 dL_law_750 dL_law_751 dL_law_752 ?_
  refine lw_i (sw_runV (As := [.int (xs (i + 1))]) (rest := [.int r1]) Cx hP hD hS mv_X11_cause ml_L_137 (c_X11_cause l G ca Z q2 (d 7) (d 0) (d 8) (d 6) (.ref (d 0)) (.ref (d 1)) (.ref (d 2)) (.ref (d 3)) (.ref (d 4)) (.ref (d 5)) (.int u) (.int (bI hs)) (.ref (d 9)) (.ref (d 10)) (.int fl) (.ref (d 11)) (.int bl) (.int li) (.int nx) (.int be) (.int tk) (.int er) (.int ea) (.int pe) (.int ne) (.ref (d 12)) (.ref (d 13)) (.int oc) H.size (xs (i + 1)) en ow now th tm (r0, (en1, ow1, th1, tm1)) z3) 8 rfl rfl rfl [52, 60, 53, 61, 59] rfl rfl rfl rfl ⟨(Nat.le_of_ble_eq_true rfl), (Nat.le_of_ble_eq_true rfl)⟩ hl.1 rfl rfl (Nat.le_of_ble_eq_true rfl) dL_law_753 ⟨hcR 0 (by decide), hsR 0 (by decide)⟩) hP hD hS hA [52, 60, 53, 61, 59] [0, 0, 0, 0, 0, 0, 0, 0, 0, 0, 0, 0, 0, 0, 0, 0, 0, 0, 0, 0, 0, 0, 0, 0, 0, 0, 0, 0, 0, 0, 0, 0, 0, 0, 0, 0, 0, 0, 0, 0, 0, 0, 0, 0, 0, 0, 0, 0, 0, 0, 0, 0, 1, 3, 0, 0, 0, 0, 0, 5, 2, 4, 0, 0, 0, 0, 0, 0] rfl (fun _ => rfl) rfl (by decide +kernel) (fun r2 u9 H locs hw hP hD hS => ?_)
  obtain ⟨hw2, rfl⟩ := hw
  have hP : va_P G vwCl (LW ca Z q1 a q2 d qo P Bf Dr Sn hs t S1 sc rd sr sh ac pe now dr kp sn hi ac u th1 hs ow1 tm1 en1 od fm fl bf bl li nx be tk er ea pe ne ors oc o) H := hP
  have hD : va_D (lwA s) (LW ca Z q1 a q2 d qo P Bf Dr Sn hs t S1 sc rd sr sh ac pe now dr kp sn hi ac u th1 hs ow1 tm1 en1 od fm fl bf bl li nx be tk er ea pe ne ors oc o) := hD
  refine lv_icmp_eq (tgt := 2547) hx hb dL_law_756 (by decide) (fun _ => ?_) (fun c9 => absurd (hw1.symm.trans hw2) c9)
  refine va_forget hS.2.2 ?_
  refine W.widen (k := cells + 2) (n := slots + 12) (by omega) (by omega) ?_
  exact KK v P Bf Dr Sn hs t S1 sc rd sr sh ac pe now dr kp sn hi u th1 ow1 tm1 en1 od fm fl bf bl li nx be tk er ea ne ors oc o H ls (by omega) ⟨⟨w, ns, R, k, D, hC.1, hC.2.1, hC.2.2.1, z2⟩, hv, hH, hN, hB, hF⟩ hP hD (va_forg hS) hl
end
