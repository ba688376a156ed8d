/-! ===== the law: its start ===== -/
abbrev ZPl : PlanT := (0, 0, (fun _ => 0), 1, 0, (fun _ => 0), 0)
theorem lw_first {P w1 w2 : PlanT} (h1 : F_X3_beginWith 1 ZPl = some w1) (h2 : F_X3_appendStretch 29 w1 = some w2) (h3 : F_X3_appendStriker 3 w2 = some P) :
    CY 1 1 (fun _ => 29) 1 (fun _ => 3) P ((fun _ => 0), (fun _ => 0), 1, 0, 0, -1) ∧ P.2.2.2.2.2.2 = nI 3 := by
  have e1 : F_X3_beginWith 1 ZPl = some (1, 0, (fun _ => 0), 1, 0, (fun _ => 0), 1) := by rfl
  obtain rfl := Option.some.inj (h1.symm.trans e1)
  have e2 : F_X3_appendStretch 29 (1, 0, (fun _ => 0), 1, 0, (fun _ => 0), 1) = some (1, 1, upd (fun _ => 0) 0 29, 30, 0, (fun _ => 0), 2) := by rfl
  obtain rfl := Option.some.inj (h2.symm.trans e2)
  have e3 : F_X3_appendStriker 3 (1, 1, upd (fun _ => 0) 0 29, 30, 0, (fun _ => 0), 2) = some (1, 1, upd (fun _ => 0) 0 29, 30, 1, upd (fun _ => 0) 0 3, 3) := by rfl
  obtain rfl := Option.some.inj (h3.symm.trans e3)
  have z : ∀ i, i < 1 → i = 0 := fun i hi => by omega
  refine ⟨⟨⟨by decide, by decide, fun i _ => ⟨(by decide : 1 ≤ 29), (by decide : 29 ≤ 400)⟩, by decide, fun i _ => ⟨(by decide : 2 ≤ 3), (by decide : 3 ≤ 120)⟩, fun i j hi hj _ => by omega⟩, ⟨by decide, by decide, fun i hi => ?_, by decide, by decide, fun i hi => ?_⟩, ⟨Or.inl (by decide), fun h => absurd h (by decide)⟩⟩, by decide⟩
  · rw [z i hi]; decide
  · rw [z i hi]; decide
section
variable {p : Program} {l : Launch} {e : Env} {s : State} {m : MethodId} {below : List Frame} {meth : Method} {c : Code} {Q : State → Prop} {G : va_G} {ca Z : Nat → Nat} {b L q : Nat} {xs : Nat → Int32} {a : Nat → Nat} 
  {P : PlanT} {Bf : PlanT} {Dr : PlanT} {Sn : PlanT} {hs : Bool} {t : HistT} {S : SieveT} {sc : SrcT} {rd : ReadT} {sr : ScrT} {sh : SheetT} {ac : (Nat → Int32)} {pe : Int32}
set_option maxHeartbeats 40000000 in
set_option maxRecDepth 100000 in
theorem la_0 (C : lc63 p l s m meth c G ca Z b L xs) (KG : ∀ (q : Nat) (a : Nat → Nat) (w ns kk : Nat) (R D : Nat → Nat) (P Bf Dr Sn : PlanT) (hs : Bool) (t : HistT) (S : SieveT) (sc : SrcT) (rd : ReadT) (sr : ScrT) (sh : SheetT) (ac : Nat → Int32) (pe : Int32) (c9 : Nat) (top : PlanT → Prop) (v : Nat) (H : Heap) (locs : List Loc) (ls : Array Slot) (cells slots : Nat), cells ≤ 1100 → slots ≤ 200000 → CY w ns R kk D P S → 1 + sm R ns ≤ 300 → HI t c9 top → P.2.2.2.2.2.2 = nI v → v ≤ 2000 → va_P G vwCl (OW ca Z q a P Bf Dr Sn hs t S sc rd sr sh ac pe) H → va_D (lwA s) (OW ca Z q a P Bf Dr Sn hs t S sc rd sr sh ac pe) → va_S (lwA s) s.heap H locs → lv_has ls 12 [(7, .int (nI 0)), (0, .ref b), (1, .ref q)] → W p l e room_1 s m #[.ref b] below meth c H locs cells slots Q (F0 m 223 ls [])) {ls : Array Slot} (hl : lv_has ls 12 [(0, .ref b)]) : W p l e room_1 s m #[.ref b] below meth c s.heap [] 0 0 Q (F0 m 0 ls []) := by
  obtain ⟨Cx, hXs, hbl, hL⟩ := id C
  obtain ⟨⟨hx, hb, hml, hown, htU⟩, hK, hX, hY, hA⟩ := id Cx
  have hP : va_P G vwCl [] s.heap := fun k q h => by simp at h
  have hD : va_D (lwA s) [] := ⟨fun i j p q h => by simp at h, fun k q h => by simp at h⟩
  have hS : va_S (lwA s) s.heap s.heap [] := va_S.rf
  refine va_new (ci := 7) (fs := [.null, .null, .null, .null, .int 0, .null, .null, .null, .null, .null, .null, .null, .int 0]) (C := RX10) (T := TX10) (N := 13) hx hb htU iU_X10 tyX10 tyX10_ok hown (htU _ cl_L_9) (htU _ ins_X10) (htU _ ini_X10) hK hP hD hS hA rfl (fun j hj => by rcases (show j = 0 ∨ j = 1 ∨ j = 2 ∨ j = 3 ∨ j = 4 ∨ j = 5 ∨ j = 6 ∨ j = 7 ∨ j = 8 ∨ j = 9 ∨ j = 10 ∨ j = 11 ∨ j = 12 by omega) with rfl | rfl | rfl | rfl | rfl | rfl | rfl | rfl | rfl | rfl | rfl | rfl | rfl <;> rfl) (Nat.le_of_ble_eq_true rfl) (Nat.le_of_ble_eq_true rfl) dL_law_0 (fun q1 H hP hD hS => ?_)
  refine lv_dup hx hb dL_law_3 rfl ?_
  refine lw_tailv (w0 := []) (n := 0) (sw_runI (As := []) (rest := [.ref q1]) Cx hP hD hS co_X10_init ini_X10 im_X10_init ml_L_141 rfl (c_X10_init l G ca Z q1 H.size) ⟨by decide, by decide, (by decide +kernel : Option.map (fun d => d.parameters.length) (parseMethodDescriptor yX10_init.desc) = some 0)⟩ [0] rfl rfl rfl rfl ⟨(Nat.le_of_ble_eq_true rfl), (Nat.le_of_ble_eq_true rfl)⟩ hl.1 rfl rfl (Nat.le_of_ble_eq_true rfl) dL_law_4 ⟨(Nat.le_of_ble_eq_true rfl), (Nat.le_of_ble_eq_true rfl)⟩) hP hD hS hA rfl rfl [0] rfl tl_d1 (fun u1 H locs hw1 hP hD hS => ?_)
  obtain ⟨w1, w2, g1, g2, g3⟩ := hw1
  obtain ⟨hC0, hv0⟩ := lw_first g1 g2 g3
  have e13 : vp_cell (ca 2) (8, .inr (.inr (.inr (.inr (va_up (va_up (va_up (va_up (va_up (va_up (va_up (va_up (fun _ => none) 0 (some (u1.1 14))) 1 (some (u1.1 17))) 2 (some (u1.1 20))) 3 (some (u1.1 23))) 4 (some (u1.1 26))) 5 (some (u1.1 29))) 6 (some (u1.1 32))) 7 (some (u1.1 35))))))) = vp_cell (ca 2) (8, .inr (.inr (.inr (.inr (fun j => some (u1.1 (14 + 3 * j))))))) := by rfl
  have h13 : va_at G vwCl (u1.1 13, .inl (ca 2, 8, .inr (.inr (.inr (.inr (fun j => some (u1.1 (14 + 3 * j)))))))) H := (show H[u1.1 13]? = some (vp_cell (ca 2) (8, .inr (.inr (.inr (.inr (va_up (va_up (va_up (va_up (va_up (va_up (va_up (va_up (fun _ => none) 0 (some (u1.1 14))) 1 (some (u1.1 17))) 2 (some (u1.1 20))) 3 (some (u1.1 23))) 4 (some (u1.1 26))) 5 (some (u1.1 29))) 6 (some (u1.1 32))) 7 (some (u1.1 35)))))))) from hP 14 _ rfl).trans (congrArg some e13)
  have hP := hP.set (p := 14) hD rfl h13 (fun _ _ => rfl)
  have hD := hD.set (p := 14) (e := .inl (ca 2, 8, .inr (.inr (.inr (.inr (fun j => some (u1.1 (14 + 3 * j)))))))) rfl
  have hP : va_P G vwCl (OW ca Z q1 u1.1 u1.2 ZPl ZPl ZPl false ((fun _ => ZPl), 0, 0) ((fun _ => 0), (fun _ => 0), 1, 0, 0, -1) ((fun _ => 0), 0, 0, 0, 0, 0, 0) (0, -1, 0) ((fun _ => none), (fun _ => 0), (fun _ => 0), 0) ((fun _ => 0), 0) (fun _ => 0) (-1)) H := hP
  have hD : va_D (lwA s) (OW ca Z q1 u1.1 u1.2 ZPl ZPl ZPl false ((fun _ => ZPl), 0, 0) ((fun _ => 0), (fun _ => 0), 1, 0, 0, -1) ((fun _ => 0), 0, 0, 0, 0, 0, 0) (0, -1, 0) ((fun _ => none), (fun _ => 0), (fun _ => 0), 0) ((fun _ => 0), 0) (fun _ => 0) (-1)) := hD
  refine lv_astore_n (lv' := [(1, .ref q1), (0, .ref b)]) hx hb dL_law_7 rfl hl (by decide) rfl (fun ls hl => ?_)
  refine lv_bipush (v := 6) hx hb dL_law_8 (by decide) ?_
  refine sw_newi hx hb htU hK hP hD hS hA (by decide) (by decide : (6 : Int32).toNatClampNeg = 6) (Nat.le_of_ble_eq_true rfl) (Nat.le_of_ble_eq_true rfl) (Nat.le_of_ble_eq_true rfl) dL_law_10 (fun qw H hP hD hS => ?_)
  have hn0 : ((OW ca Z q1 u1.1 u1.2 ZPl ZPl ZPl false ((fun _ => ZPl), 0, 0) ((fun _ => 0), (fun _ => 0), 1, 0, 0, -1) ((fun _ => 0), 0, 0, 0, 0, 0, 0) (0, -1, 0) ((fun _ => none), (fun _ => 0), (fun _ => 0), 0) ((fun _ => 0), 0) (fun _ => 0) (-1) ++ [(qw, .inl (ca 0, 6, .inl (fun _ => 0)))]) : va_W).length = 53 := rfl
  refine lv_astore_n (lv' := [(2, .ref qw), (1, .ref q1), (0, .ref b)]) hx hb dL_law_12 rfl hl (by decide) rfl (fun ls hl => ?_)
  refine lv_aload_n hx hb dL_law_13 rfl (lv_at hl 2 rfl) ?_
  refine lv_iconst (v := nI 0) hx hb dL_law_14 (by decide) ?_
  refine lw_c0 (sx_runS (X := sx_X b L xs) (As := [.ref b, .int (nI 0)]) (rest := []) Cx hP hD hS ms_L_cell ml_L_142 (c_L_cell l G ca Z b L 0 xs H.size (by omega) (by omega)) sx_bl (fun U hU hW => lx_kept hXs hbl hS hU hW) [] rfl rfl rfl rfl ⟨(Nat.le_of_ble_eq_true rfl), (Nat.le_of_ble_eq_true rfl)⟩ hl.1 rfl rfl (Nat.le_of_ble_eq_true rfl) dL_law_15 ⟨by show _ ≤ 600086; omega, by show _ ≤ 7301442; omega⟩) hP hD hS hA hn0 (n := 53) (by decide +kernel) (fun r9 H locs hw hP hD hS => ?_)
  subst hw
  generalize cellv L xs 0 = v0
  refine lv_istore_n (lv' := [(3, .int v0), (2, .ref qw), (1, .ref q1), (0, .ref b)]) hx hb dL_law_18 rfl hl (by decide) rfl (fun ls hl => ?_)
  have hw9 := mo_lt v0 (m := 5) (by decide)
  refine va_new (ci := 8) (fs := [.null, .int 0, .int 0, .int 0]) (C := RJ4) (T := TJ4) (N := 4) hx hb htU iU_J4 tyJ4 tyJ4_ok hown (htU _ cl_L_146) (htU _ ins_J4) (htU _ ini_J4) hK hP hD hS hA rfl (fun j hj => by rcases (show j = 0 ∨ j = 1 ∨ j = 2 ∨ j = 3 by omega) with rfl | rfl | rfl | rfl <;> rfl) (Nat.le_of_ble_eq_true rfl) (Nat.le_of_ble_eq_true rfl) dL_law_19 (fun bb H hP hD hS => ?_)
  refine lv_dup hx hb dL_law_22 rfl ?_
  refine va_ldcS hx hb hown (sw_sR hY 3 rfl) dL_law_23 ?_
  refine lw_tailv (n := 53) (sw_runI (As := [.ref (Z (20 + 3))]) (rest := [.ref bb]) Cx hP hD hS co_J4_init_a7421 ini_J4 im_J4_init_a7421 ml_L_150 rfl (c_sj_init l G ca Z bb 3 H.size (by decide) (by decide)) ⟨by decide, by decide, (by decide +kernel : Option.map (fun d => d.parameters.length) (parseMethodDescriptor yJ4_init_a7421.desc) = some 1)⟩ [53] (tl_1 hn0) rfl rfl rfl ⟨(Nat.le_of_ble_eq_true rfl), (Nat.le_of_ble_eq_true rfl)⟩ hl.1 rfl rfl (Nat.le_of_ble_eq_true rfl) dL_law_25 ⟨(Nat.le_of_ble_eq_true rfl), (Nat.le_of_ble_eq_true rfl)⟩) hP hD hS hA hn0 (by decide +kernel) [53] (tl_1 hn0) tl_d1 (fun u9 H locs hw hP hD hS => ?_)
  obtain ⟨vv, mm⟩ := u9
  obtain ⟨hnm, hm, hm2⟩ := hw
  refine lv_iload_n hx hb dL_law_28 rfl (lv_at hl 0 rfl) ?_
  refine lv_iconst (v := 5) hx hb dL_law_29 (by decide) ?_
  refine lw_c0 (sw_runS (As := [.int v0, .int 5]) (rest := [.ref bb]) Cx hP hD hS ms_L_most ml_L_103 (c_L_most l G ca Z H.size v0 5 (nI (mo v0 5)) (V_most (m := 5) _ (by decide) (by decide))) [] rfl rfl rfl rfl ⟨(Nat.le_of_ble_eq_true rfl), (Nat.le_of_ble_eq_true rfl)⟩ hl.1 rfl rfl (Nat.le_of_ble_eq_true rfl) dL_law_30 ⟨by show _ ≤ 600086; omega, by show _ ≤ 7301442; omega⟩) hP hD hS hA (by rw [List.length_append, hn0]; rfl) (n := 55) (by decide +kernel) (fun r9 H locs hw hP hD hS => ?_)
  subst hw
  generalize mo v0 5 = w9 at hw9
  have hA1 : sj_A (sw_byt.getD 3 []) := by unfold sj_A; decide
  have hn1 : (sw_byt.getD 3 []).length = sw_len.getD 3 0 := rfl
  have hd2 := sj_dn2 w9
  refine lw_tailr (f0 := fun _ : Nat × Nat => bb) (sw_runV (As := [.int (nI w9)]) (rest := []) Cx hP hD hS mv_J4_append_bf812 ml_L_153 (c_sj_AppI l G ca Z bb vv (sw_len.getD 3 0) mm (sw_byt.getD 3 []) w9 H.size hA1 hn1 hnm hm hm2 (by omega) (by show 6 + sj_dn w9 ≤ 119; omega)) 8 rfl rfl rfl [53, 54] (tl_2 hn0) rfl rfl rfl ⟨(Nat.le_of_ble_eq_true rfl), (Nat.le_of_ble_eq_true rfl)⟩ hl.1 rfl rfl (Nat.le_of_ble_eq_true rfl) dL_law_33 ⟨by show _ ≤ 600086; omega, by show _ ≤ 7301442; omega⟩) hP hD hS hA hn0 (by decide +kernel) [53, 54] (tl_2 hn0) tl_d2 (fun u9 H locs hw hP hD hS => ?_)
  obtain ⟨vv, mm⟩ := u9
  obtain ⟨hnm, hm, hm2⟩ := hw
  have hn2 : ((sw_byt.getD 3 []) ++ sj_dg w9).length = (sw_len.getD 3 0 + sj_dn w9) := by rw [List.length_append, hn1, sj_dgl]
  have hA2 : sj_A ((sw_byt.getD 3 []) ++ sj_dg w9) := hA1.app (sj_dgA (by omega))
  refine lv_bipush (v := nI 59) hx hb dL_law_36 (by decide) ?_
  refine lw_tailr (f0 := fun _ : Nat × Nat => bb) (sw_runV (As := [.int (nI 59)]) (rest := []) Cx hP hD hS mv_J4_append_cf468 ml_L_157 (c_sj_AppC l G ca Z bb vv (sw_len.getD 3 0 + sj_dn w9) mm ((sw_byt.getD 3 []) ++ sj_dg w9) (nI 59) H.size hA2 hn2 hnm hm hm2 (by decide) (by show 6 + sj_dn w9 + 1 ≤ 119; omega)) 8 rfl rfl rfl [53, 54] (tl_2 hn0) rfl rfl rfl ⟨(Nat.le_of_ble_eq_true rfl), (Nat.le_of_ble_eq_true rfl)⟩ hl.1 rfl rfl (Nat.le_of_ble_eq_true rfl) dL_law_38 ⟨by show _ ≤ 600086; omega, by show _ ≤ 7301442; omega⟩) hP hD hS hA hn0 (by decide +kernel) [53, 54] (tl_2 hn0) tl_d2 (fun u9 H locs hw hP hD hS => ?_)
  obtain ⟨vv, mm⟩ := u9
  obtain ⟨hnm, hm, hm2⟩ := hw
  have hn3 : (((sw_byt.getD 3 []) ++ sj_dg w9) ++ [nI 59]).length = (sw_len.getD 3 0 + sj_dn w9) + 1 := by rw [List.length_append, hn2]; rfl
  have eT : ((sw_byt.getD 3 []) ++ sj_dg w9) ++ [nI 59] = tx0 w9 ++ its 1 [] := (List.append_nil (tx0 w9)).symm
  rw [eT] at hP hD hn3
  refine lv_astore (lv' := [(4, .ref bb), (3, .int v0), (2, .ref qw), (1, .ref q1), (0, .ref b)]) hx hb dL_law_41 hl (by decide) rfl (fun ls hl => ?_)
  refine lv_iconst (v := nI 1) hx hb dL_law_43 (by decide) ?_
  refine lv_istore (lv' := [(5, .int (nI 1)), (4, .ref bb), (3, .int v0), (2, .ref qw), (1, .ref q1), (0, .ref b)]) hx hb dL_law_44 hl (by decide) rfl (fun ls hl => ?_)
  refine lv_iconst (v := nI 0) hx hb dL_law_46 (by decide) ?_
  refine lv_istore (lv' := [(6, .int (nI 0)), (5, .int (nI 1)), (4, .ref bb), (3, .int v0), (2, .ref qw), (1, .ref q1), (0, .ref b)]) hx hb dL_law_47 hl (by decide) rfl (fun ls hl => ?_)
  have hmo := mo_lt (v0 >>> ((1 : Int32) &&& 31)) (m := 4) (by decide)
  have hH0 : HI ((fun _ => ZPl), 0, 0) 0 (fun _ => True) := ⟨0, by decide, by decide, by decide, by decide, fun _ => trivial⟩
  exact lb_49 C hn0 hw9 (fun rs bb vv n mm H locs ls cells slots hr1 hr4 hrs hn hnm hm hm2 hcb hsb hP hD hS hl => lk_111 C hn0 hw9 hr4 hrs (fun ds bb vv n mm H locs ls cells slots hd5 hds hnd hn hnm hm2 hcb hsb hP hD hS hl => ld_194 C KG hC0 hH0 hv0 (by decide) rfl hw9 rs ds hr1 hr4 hrs hd5 hds hnd hn hnm hm2 hcb hsb hP hD hS hl) hn hnm hm hm2 hcb hsb hP hD hS hl) (1 + mo (v0 >>> ((1 : Int32) &&& 31)) 4) 0 [] bb vv _ mm H locs ls _ _ (Nat.zero_add _) rfl (fun _ h => absurd h List.not_mem_nil) hn3 hnm hm hm2 (by omega) (by omega) hP hD hS hl
end
