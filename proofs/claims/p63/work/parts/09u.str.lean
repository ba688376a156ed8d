abbrev RM_st_init2 : Room := ({ frames := 3, cells := 1, slots := 1024, locals := 86 } : Room)
set_option maxHeartbeats 4000000 in
set_option maxRecDepth 100000 in
theorem c_st_init2 (l : Launch) (G : va_G) (ca Z : Nat → Nat) (q b v n m : Nat) (t : List Int32) (sz : Nat) (hA0 : sj_A t) (htn : t.length = n) (hnm : n ≤ m) (hm2 : m ≤ 240) : Met l yJ0_init_db425 (.code yJ0_init_db425 cJ0_init_db425 5 (Option.none : Option Jvm.ClassFile.FieldType) :: sw_U) RM_st_init2 (va_Pc [.ref q, .ref b, .null] (sw_Pre G ca Z [(q, .inr (9, [.null, .int 0, .int 0, .int 0])), (b, .inr (8, [.ref v, .int 0, .int 0, .int (nI n)])), (v, .inl (ca 1, m, .inl (sj_F t)))] sz)) ((fun A => va_Qv (fun (u : Nat) => True) (sw_Post G A (fun (u : Nat) => [(q, .inr (9, [.ref u, .int 0, .int 0, .int 0])), (b, .inr (8, [.ref v, .int 0, .int 0, .int (nI n)])), (v, .inl (ca 1, m, .inl (sj_F t))), (u, .inl (ca 1, n, .inl (sj_F t)))])) A) (va_A [(q, .inr (9, [.null, .int 0, .int 0, .int 0])), (b, .inr (8, [.ref v, .int 0, .int 0, .int (nI n)])), (v, .inl (ca 1, m, .inl (sj_F t)))] sz)) 1 1024 (va_A [(q, .inr (9, [.null, .int 0, .int 0, .int 0])), (b, .inr (8, [.ref v, .int 0, .int 0, .int (nI n)])), (v, .inl (ca 1, m, .inl (sj_F t)))] sz) := by
  refine sw_ofW (Qc := fun A => va_Qv (fun (u : Nat) => True) (sw_Post G A (fun (u : Nat) => [(q, .inr (9, [.ref u, .int 0, .int 0, .int 0])), (b, .inr (8, [.ref v, .int 0, .int 0, .int (nI n)])), (v, .inl (ca 1, m, .inl (sj_F t))), (u, .inl (ca 1, n, .inl (sj_F t)))])) A) (by decide +kernel) [(0, .ref q), (1, .ref b), (2, .null)] rfl (Nat.le_of_ble_eq_true rfl) ?_
  intro p e s m9 args below meth c ls A hx hb hr hml hown htU hlocks hin hP hK hD hX hY hS hA hl
  have hown : s.vm.findClass RJ0 = some m9.cls := hown
  have hin : meth.name = "<init>" := hin
  have Cx : sw_Cx p s m9 args c cJ0_init_db425 5 RJ0 G ca Z A := ⟨⟨hx, hb, hml, hown, htU⟩, hK, hX, hY, hA⟩
  have hP : va_P G vwCl [(q, .inr (9, [.null, .int 0, .int 0, .int 0])), (b, .inr (8, [.ref v, .int 0, .int 0, .int (nI n)])), (v, .inl (ca 1, m, .inl (sj_F t)))] s.heap := hP
  have hD : va_D A [(q, .inr (9, [.null, .int 0, .int 0, .int 0])), (b, .inr (8, [.ref v, .int 0, .int 0, .int (nI n)])), (v, .inl (ca 1, m, .inl (sj_F t)))] := hD
  refine lv_aload_n hx hb dJ0_init_db425_0 rfl (lv_at hl 0 rfl) ?_
  refine W.objInit hx hb hown (htU _ ml_J0_1) (htU _ im_obj) (htU _ co_obj) rfl (by rw [hml]; exact hl.1) rfl dJ0_init_db425_1 (Nat.le_of_ble_eq_true rfl) (Nat.le_of_ble_eq_true rfl) ?_
  refine W.eq (g2 := F0 m9 4 ls []) rfl ?_
  refine lv_aload_n hx hb dJ0_init_db425_4 rfl (lv_at hl 1 rfl) ?_
  refine sw_cr (sj_runX (n := 0) (As := []) (rest := []) Cx hP hD hS ml_J0_552 sm_J5_getValue_6d5f1 im_J5_getValue_6d5f1 co_J5_getValue_6d5f1 (fun h9 => h9 _ sx_J5_getValue_6d5f1) im_J5_getValue_6d5f1 ini_J5 co_J5_getValue_6d5f1 (by decide +kernel) (c_sj_getValue l G ca Z b v (.int (nI n)) s.heap.size) rfl [1] rfl rfl rfl rfl ⟨(Nat.le_of_ble_eq_true rfl), (Nat.le_of_ble_eq_true rfl)⟩ hl.1 rfl rfl (Nat.le_of_ble_eq_true rfl) dJ0_init_db425_5 ⟨(Nat.le_of_ble_eq_true rfl), (Nat.le_of_ble_eq_true rfl)⟩) hP hD hS hA [1] [0, 2] [0, 2, 1] rfl rfl rfl (by decide) (fun _ => rfl) rfl (fun _ H locs hw hP hD hS => ?_)
  have hP : va_P G vwCl [(q, .inr (9, [.null, .int 0, .int 0, .int 0])), (b, .inr (8, [.ref v, .int 0, .int 0, .int (nI n)])), (v, .inl (ca 1, m, .inl (sj_F t)))] H := hP
  have hD : va_D A [(q, .inr (9, [.null, .int 0, .int 0, .int 0])), (b, .inr (8, [.ref v, .int 0, .int 0, .int (nI n)])), (v, .inl (ca 1, m, .inl (sj_F t)))] := hD
  refine lv_astore_n (lv' := [(3, .ref v), (0, .ref q), (1, .ref b), (2, .null)]) hx hb dJ0_init_db425_8 rfl hl (by decide) rfl (fun ls hl => ?_)
  refine lv_aload_n hx hb dJ0_init_db425_9 rfl (lv_at hl 2 rfl) ?_
  refine sw_ci (sj_runX (n := 0) (As := []) (rest := []) Cx hP hD hS ml_J0_549 sm_J5_length_8abf5 im_J5_length_8abf5 co_J5_length_8abf5 (fun h9 => h9 _ sx_J5_length_8abf5) im_J4_length_8abf5 ini_J4 co_J4_length_8abf5 (by decide +kernel) (c_sj_length4 l G ca Z b n (.ref v) H.size) rfl [1] rfl rfl rfl rfl ⟨(Nat.le_of_ble_eq_true rfl), (Nat.le_of_ble_eq_true rfl)⟩ hl.1 rfl rfl (Nat.le_of_ble_eq_true rfl) dJ0_init_db425_10 ⟨(Nat.le_of_ble_eq_true rfl), (Nat.le_of_ble_eq_true rfl)⟩) hP hD hS hA [1] [0, 2] [0, 2, 1] rfl rfl rfl (by decide) (fun _ => rfl) rfl (fun r _ H locs hw hP hD hS => ?_)
  subst hw
  have hP : va_P G vwCl [(q, .inr (9, [.null, .int 0, .int 0, .int 0])), (b, .inr (8, [.ref v, .int 0, .int 0, .int (nI n)])), (v, .inl (ca 1, m, .inl (sj_F t)))] H := hP
  have hD : va_D A [(q, .inr (9, [.null, .int 0, .int 0, .int 0])), (b, .inr (8, [.ref v, .int 0, .int 0, .int (nI n)])), (v, .inl (ca 1, m, .inl (sj_F t)))] := hD
  refine lv_istore (lv' := [(4, .int (nI n)), (3, .ref v), (0, .ref q), (1, .ref b), (2, .null)]) hx hb dJ0_init_db425_13 hl (by decide) rfl (fun ls hl => ?_)
  refine lv_aload_n hx hb dJ0_init_db425_15 rfl (lv_at hl 3 rfl) ?_
  refine sw_ci (sj_runX (n := 0) (As := []) (rest := []) Cx hP hD hS ml_J0_1047 sm_J5_isLatin1_aae02 im_J5_isLatin1_aae02 co_J5_isLatin1_aae02 (fun h9 => h9 _ sx_J5_isLatin1_aae02) im_J5_isLatin1_aae02 ini_J5 co_J5_isLatin1_aae02 (by decide +kernel) (c_sj_isLatin1 l G ca Z b (.ref v) (.int (nI n)) H.size) rfl [1] rfl rfl rfl rfl ⟨(Nat.le_of_ble_eq_true rfl), (Nat.le_of_ble_eq_true rfl)⟩ hl.1 rfl rfl (Nat.le_of_ble_eq_true rfl) dJ0_init_db425_16 ⟨(Nat.le_of_ble_eq_true rfl), (Nat.le_of_ble_eq_true rfl)⟩) hP hD hS hA [1] [0, 2] [0, 2, 1] rfl rfl rfl (by decide) (fun _ => rfl) rfl (fun r _ H locs hw hP hD hS => ?_)
  subst hw
  have hP : va_P G vwCl [(q, .inr (9, [.null, .int 0, .int 0, .int 0])), (b, .inr (8, [.ref v, .int 0, .int 0, .int (nI n)])), (v, .inl (ca 1, m, .inl (sj_F t)))] H := hP
  have hD : va_D A [(q, .inr (9, [.null, .int 0, .int 0, .int 0])), (b, .inr (8, [.ref v, .int 0, .int 0, .int (nI n)])), (v, .inl (ca 1, m, .inl (sj_F t)))] := hD
  refine lv_if_eq (tgt := 41) hx hb dJ0_init_db425_19 (by decide) (fun c9 => absurd c9 (by decide)) (fun _ => ?_)
  refine lv_aload_n hx hb dJ0_init_db425_22 rfl (lv_at hl 2 rfl) ?_
  refine lv_iconst (v := 0) hx hb dJ0_init_db425_23 (by decide) ?_
  refine va_putF (v := .int 0) (ty := .byte) hx hb htU iU_J0 tyJ0 tyJ0_ok nmJ0 hown hK hP hD hS 0 rfl rfl 1 (by decide) (htU _ fl_J0_15) (fun _ h9 => h9) rfl hin rfl (by decide +kernel) rfl rfl (Nat.le_of_ble_eq_true rfl) dJ0_init_db425_24 (fun H locs hP hD hS => ?_)
  have hP : va_P G vwCl [(q, .inr (9, [.null, .int 0, .int 0, .int 0])), (b, .inr (8, [.ref v, .int 0, .int 0, .int (nI n)])), (v, .inl (ca 1, m, .inl (sj_F t)))] H := hP
  have hD : va_D A [(q, .inr (9, [.null, .int 0, .int 0, .int 0])), (b, .inr (8, [.ref v, .int 0, .int 0, .int (nI n)])), (v, .inl (ca 1, m, .inl (sj_F t)))] := hD
  refine lv_aload_n hx hb dJ0_init_db425_27 rfl (lv_at hl 2 rfl) ?_
  refine lv_aload_n hx hb dJ0_init_db425_28 rfl (lv_at hl 1 rfl) ?_
  refine lv_iconst (v := 0) hx hb dJ0_init_db425_29 (by decide) ?_
  refine lv_iload hx hb dJ0_init_db425_30 (lv_at hl 0 rfl) ?_
  refine sj_cr (f0 := fun u => u) (sw_runS (As := [.ref v, .int 0, .int (nI n)]) (rest := [.ref q]) Cx hP hD hS ms_J7_copyOfRange_39247 ml_J0_54 (c_sj_range l G ca Z v m n t H.size hA0 htn hnm hm2) [2] rfl rfl rfl rfl ⟨(Nat.le_of_ble_eq_true rfl), (Nat.le_of_ble_eq_true rfl)⟩ hl.1 rfl rfl (Nat.le_of_ble_eq_true rfl) dJ0_init_db425_32 ⟨(Nat.le_of_ble_eq_true rfl), (Nat.le_of_ble_eq_true rfl)⟩) hP hD hS hA [2] [0, 1] [0, 1, 2, 3] rfl rfl rfl (by decide) (fun _ => rfl) rfl (fun u H locs hw hP hD hS => ?_)
  have hP : va_P G vwCl [(q, .inr (9, [.null, .int 0, .int 0, .int 0])), (b, .inr (8, [.ref v, .int 0, .int 0, .int (nI n)])), (v, .inl (ca 1, m, .inl (sj_F t))), (u, .inl (ca 1, n, .inl (sj_F t)))] H := hP
  have hD : va_D A [(q, .inr (9, [.null, .int 0, .int 0, .int 0])), (b, .inr (8, [.ref v, .int 0, .int 0, .int (nI n)])), (v, .inl (ca 1, m, .inl (sj_F t))), (u, .inl (ca 1, n, .inl (sj_F t)))] := hD
  refine va_putF (v := .ref u) (ty := (.array .byte)) hx hb htU iU_J0 tyJ0 tyJ0_ok nmJ0 hown hK hP hD hS 0 rfl rfl 0 (by decide) (htU _ fl_J0_9) (fun _ h9 => h9) rfl hin rfl (by decide +kernel) rfl rfl (Nat.le_of_ble_eq_true rfl) dJ0_init_db425_35 (fun H locs hP hD hS => ?_)
  have hP : va_P G vwCl [(q, .inr (9, [.ref u, .int 0, .int 0, .int 0])), (b, .inr (8, [.ref v, .int 0, .int 0, .int (nI n)])), (v, .inl (ca 1, m, .inl (sj_F t))), (u, .inl (ca 1, n, .inl (sj_F t)))] H := hP
  have hD : va_D A [(q, .inr (9, [.ref u, .int 0, .int 0, .int 0])), (b, .inr (8, [.ref v, .int 0, .int 0, .int (nI n)])), (v, .inl (ca 1, m, .inl (sj_F t))), (u, .inl (ca 1, n, .inl (sj_F t)))] := hD
  refine lv_goto (tgt := 97) hx hb dJ0_init_db425_38 (by decide) ?_
  exact sw_rv hx hb hr hlocks hS u trivial hP hD dJ0_init_db425_97
abbrev RM_st_init : Room := ({ frames := 4, cells := 1, slots := 1024, locals := 110 } : Room)
set_option maxHeartbeats 4000000 in
set_option maxRecDepth 100000 in
theorem c_st_init (l : Launch) (G : va_G) (ca Z : Nat → Nat) (q b v n m : Nat) (t : List Int32) (sz : Nat) (hA0 : sj_A t) (htn : t.length = n) (hnm : n ≤ m) (hm2 : m ≤ 240) : Met l yJ0_init_81219 (.code yJ0_init_81219 cJ0_init_81219 2 (Option.none : Option Jvm.ClassFile.FieldType) :: sw_U) RM_st_init (va_Pc [.ref q, .ref b] (sw_Pre G ca Z [(q, .inr (9, [.null, .int 0, .int 0, .int 0])), (b, .inr (8, [.ref v, .int 0, .int 0, .int (nI n)])), (v, .inl (ca 1, m, .inl (sj_F t)))] sz)) ((fun A => va_Qv (fun (u : Nat) => True) (sw_Post G A (fun (u : Nat) => [(q, .inr (9, [.ref u, .int 0, .int 0, .int 0])), (b, .inr (8, [.ref v, .int 0, .int 0, .int (nI n)])), (v, .inl (ca 1, m, .inl (sj_F t))), (u, .inl (ca 1, n, .inl (sj_F t)))])) A) (va_A [(q, .inr (9, [.null, .int 0, .int 0, .int 0])), (b, .inr (8, [.ref v, .int 0, .int 0, .int (nI n)])), (v, .inl (ca 1, m, .inl (sj_F t)))] sz)) 1 1024 (va_A [(q, .inr (9, [.null, .int 0, .int 0, .int 0])), (b, .inr (8, [.ref v, .int 0, .int 0, .int (nI n)])), (v, .inl (ca 1, m, .inl (sj_F t)))] sz) := by
  refine sw_ofW (Qc := fun A => va_Qv (fun (u : Nat) => True) (sw_Post G A (fun (u : Nat) => [(q, .inr (9, [.ref u, .int 0, .int 0, .int 0])), (b, .inr (8, [.ref v, .int 0, .int 0, .int (nI n)])), (v, .inl (ca 1, m, .inl (sj_F t))), (u, .inl (ca 1, n, .inl (sj_F t)))])) A) (by decide +kernel) [(0, .ref q), (1, .ref b)] rfl (Nat.le_of_ble_eq_true rfl) ?_
  intro p e s m9 args below meth c ls A hx hb hr hml hown htU hlocks hin hP hK hD hX hY hS hA hl
  have hown : s.vm.findClass RJ0 = some m9.cls := hown
  have hin : meth.name = "<init>" := hin
  have Cx : sw_Cx p s m9 args c cJ0_init_81219 2 RJ0 G ca Z A := ⟨⟨hx, hb, hml, hown, htU⟩, hK, hX, hY, hA⟩
  have hP : va_P G vwCl [(q, .inr (9, [.null, .int 0, .int 0, .int 0])), (b, .inr (8, [.ref v, .int 0, .int 0, .int (nI n)])), (v, .inl (ca 1, m, .inl (sj_F t)))] s.heap := hP
  have hD : va_D A [(q, .inr (9, [.null, .int 0, .int 0, .int 0])), (b, .inr (8, [.ref v, .int 0, .int 0, .int (nI n)])), (v, .inl (ca 1, m, .inl (sj_F t)))] := hD
  refine lv_aload_n hx hb dJ0_init_81219_0 rfl (lv_at hl 0 rfl) ?_
  refine lv_aload_n hx hb dJ0_init_81219_1 rfl (lv_at hl 1 rfl) ?_
  refine lv_null hx hb dJ0_init_81219_2 ?_
  refine sw_cv (sw_runI (n := 2) (As := [.ref b, .null]) (rest := []) Cx hP hD hS co_J0_init_db425 ini_J0 im_J0_init_db425 ml_J0_489 rfl (c_st_init2 l G ca Z q b v n m t s.heap.size hA0 htn hnm hm2) (by decide +kernel) [0, 1, 2] rfl rfl rfl rfl ⟨(Nat.le_of_ble_eq_true rfl), (Nat.le_of_ble_eq_true rfl)⟩ hl.1 rfl rfl (Nat.le_of_ble_eq_true rfl) dJ0_init_81219_3 ⟨(Nat.le_of_ble_eq_true rfl), (Nat.le_of_ble_eq_true rfl)⟩) hP hD hS hA [0, 1, 2] [] [0, 1, 2, 3] rfl rfl rfl (by decide) (fun _ => rfl) rfl (fun u H locs hw hP hD hS => ?_)
  have hP : va_P G vwCl [(q, .inr (9, [.ref u, .int 0, .int 0, .int 0])), (b, .inr (8, [.ref v, .int 0, .int 0, .int (nI n)])), (v, .inl (ca 1, m, .inl (sj_F t))), (u, .inl (ca 1, n, .inl (sj_F t)))] H := hP
  have hD : va_D A [(q, .inr (9, [.ref u, .int 0, .int 0, .int 0])), (b, .inr (8, [.ref v, .int 0, .int 0, .int (nI n)])), (v, .inl (ca 1, m, .inl (sj_F t))), (u, .inl (ca 1, n, .inl (sj_F t)))] := hD
  exact sw_rv hx hb hr hlocks hS u trivial hP hD dJ0_init_81219_6
abbrev RM_sj_toString : Room := ({ frames := 5, cells := 2, slots := 1040, locals := 131 } : Room)
set_option maxHeartbeats 4000000 in
set_option maxRecDepth 100000 in
theorem c_sj_toString (l : Launch) (G : va_G) (ca Z : Nat → Nat) (b v n m : Nat) (t : List Int32) (sz : Nat) (hA0 : sj_A t) (htn : t.length = n) (hnm : n ≤ m) (hm2 : m ≤ 240) : Met l yJ4_toString_0e30d (.code yJ4_toString_0e30d cJ4_toString_0e30d 1 (Option.some (Jvm.ClassFile.FieldType.object "java/lang/String")) :: sw_U) RM_sj_toString (va_Pc [.ref b] (sw_Pre G ca Z [(b, .inr (8, [.ref v, .int 0, .int 0, .int (nI n)])), (v, .inl (ca 1, m, .inl (sj_F t)))] sz)) ((fun A => va_Qr (fun (u : Nat × Nat) => True) (fun (u : Nat × Nat) q9 t9 => q9 = (fun u : Nat × Nat => u.1) u ∧ sw_Post G A (fun (u : Nat × Nat) => [(b, .inr (8, [.ref v, .int 0, .int 0, .int (nI n)])), (v, .inl (ca 1, m, .inl (sj_F t))), (u.1, .inr (9, [.ref u.2, .int 0, .int 0, .int 0])), (u.2, .inl (ca 1, n, .inl (sj_F t)))]) u t9) A) (va_A [(b, .inr (8, [.ref v, .int 0, .int 0, .int (nI n)])), (v, .inl (ca 1, m, .inl (sj_F t)))] sz)) 2 1040 (va_A [(b, .inr (8, [.ref v, .int 0, .int 0, .int (nI n)])), (v, .inl (ca 1, m, .inl (sj_F t)))] sz) := by
  refine sw_ofW (Qc := fun A => va_Qr (fun (u : Nat × Nat) => True) (fun (u : Nat × Nat) q9 t9 => q9 = (fun u : Nat × Nat => u.1) u ∧ sw_Post G A (fun (u : Nat × Nat) => [(b, .inr (8, [.ref v, .int 0, .int 0, .int (nI n)])), (v, .inl (ca 1, m, .inl (sj_F t))), (u.1, .inr (9, [.ref u.2, .int 0, .int 0, .int 0])), (u.2, .inl (ca 1, n, .inl (sj_F t)))]) u t9) A) (by decide +kernel) [(0, .ref b)] rfl (Nat.le_of_ble_eq_true rfl) ?_
  intro p e s m9 args below meth c ls A hx hb hr hml hown htU hlocks hin hP hK hD hX hY hS hA hl
  have hown : s.vm.findClass RJ4 = some m9.cls := hown
  have Cx : sw_Cx p s m9 args c cJ4_toString_0e30d 1 RJ4 G ca Z A := ⟨⟨hx, hb, hml, hown, htU⟩, hK, hX, hY, hA⟩
  have hP : va_P G vwCl [(b, .inr (8, [.ref v, .int 0, .int 0, .int (nI n)])), (v, .inl (ca 1, m, .inl (sj_F t)))] s.heap := hP
  have hD : va_D A [(b, .inr (8, [.ref v, .int 0, .int 0, .int (nI n)])), (v, .inl (ca 1, m, .inl (sj_F t)))] := hD
  refine va_new (ci := 9) (fs := [.null, .int 0, .int 0, .int 0]) (C := RJ0) (T := TJ0) (N := 4) hx hb htU iU_J0 tyJ0 tyJ0_ok hown (htU _ cl_J4_18) (htU _ ins_J0) (htU _ ini_J0) hK hP hD hS hA rfl (fun j hj => by rcases (show j = 0 ∨ j = 1 ∨ j = 2 ∨ j = 3 by omega) with rfl | rfl | rfl | rfl <;> rfl) (Nat.le_of_ble_eq_true rfl) (Nat.le_of_ble_eq_true rfl) dJ4_toString_0e30d_0 (fun q0 H hP hD hS => ?_)
  have hP : va_P G vwCl [(b, .inr (8, [.ref v, .int 0, .int 0, .int (nI n)])), (v, .inl (ca 1, m, .inl (sj_F t))), (q0, .inr (9, [.null, .int 0, .int 0, .int 0]))] H := hP
  have hD : va_D A [(b, .inr (8, [.ref v, .int 0, .int 0, .int (nI n)])), (v, .inl (ca 1, m, .inl (sj_F t))), (q0, .inr (9, [.null, .int 0, .int 0, .int 0]))] := hD
  refine lv_dup hx hb dJ4_toString_0e30d_3 rfl ?_
  refine lv_aload_n hx hb dJ4_toString_0e30d_4 rfl (lv_at hl 0 rfl) ?_
  refine sw_cv (sw_runI (n := 1) (As := [.ref b]) (rest := [.ref q0]) Cx hP hD hS co_J0_init_81219 ini_J0 im_J0_init_81219 ml_J4_137 rfl (c_st_init l G ca Z q0 b v n m t H.size hA0 htn hnm hm2) (by decide +kernel) [2, 0, 1] rfl rfl rfl rfl ⟨(Nat.le_of_ble_eq_true rfl), (Nat.le_of_ble_eq_true rfl)⟩ hl.1 rfl rfl (Nat.le_of_ble_eq_true rfl) dJ4_toString_0e30d_5 ⟨(Nat.le_of_ble_eq_true rfl), (Nat.le_of_ble_eq_true rfl)⟩) hP hD hS hA [2, 0, 1] [] [1, 2, 0, 3] rfl rfl rfl (by decide) (fun _ => rfl) rfl (fun u H locs hw hP hD hS => ?_)
  have hP : va_P G vwCl [(b, .inr (8, [.ref v, .int 0, .int 0, .int (nI n)])), (v, .inl (ca 1, m, .inl (sj_F t))), (q0, .inr (9, [.ref u, .int 0, .int 0, .int 0])), (u, .inl (ca 1, n, .inl (sj_F t)))] H := hP
  have hD : va_D A [(b, .inr (8, [.ref v, .int 0, .int 0, .int (nI n)])), (v, .inl (ca 1, m, .inl (sj_F t))), (q0, .inr (9, [.ref u, .int 0, .int 0, .int 0])), (u, .inl (ca 1, n, .inl (sj_F t)))] := hD
  refine W.widen (k := 2) (n := 1040) (Nat.le_of_ble_eq_true rfl) (Nat.le_of_ble_eq_true rfl) ?_
  exact sj_rr (f0 := fun u : Nat × Nat => u.1) hx hb hr hlocks hS (q0, u) rfl trivial hP hD dJ4_toString_0e30d_8
abbrev RM_st_coder : Room := ({ frames := 0, cells := 0, slots := 0, locals := 0 } : Room)
set_option maxHeartbeats 4000000 in
set_option maxRecDepth 100000 in
theorem c_st_coder (l : Launch) (G : va_G) (ca Z : Nat → Nat) (q : Nat) (vv : Value) (sz : Nat)  : Met l yJ0_coder_7d493 (.code yJ0_coder_7d493 cJ0_coder_7d493 1 (Option.some Jvm.ClassFile.FieldType.byte) :: sw_U) RM_st_coder (va_Pc [.ref q] (sw_Pre G ca Z [(q, .inr (9, [vv, .int 0, .int 0, .int 0]))] sz)) ((fun A => va_Qi (fun r (u : Unit) => 0 = r) (sw_Post G A (fun (u : Unit) => [(q, .inr (9, [vv, .int 0, .int 0, .int 0]))])) A) (va_A [(q, .inr (9, [vv, .int 0, .int 0, .int 0]))] sz)) 0 0 (va_A [(q, .inr (9, [vv, .int 0, .int 0, .int 0]))] sz) := by
  refine sw_ofW (Qc := fun A => va_Qi (fun r (u : Unit) => 0 = r) (sw_Post G A (fun (u : Unit) => [(q, .inr (9, [vv, .int 0, .int 0, .int 0]))])) A) (by decide +kernel) [(0, .ref q)] rfl (Nat.le_of_ble_eq_true rfl) ?_
  intro p e s m9 args below meth c ls A hx hb hr hml hown htU hlocks hin hP hK hD hX hY hS hA hl
  have hown : s.vm.findClass RJ0 = some m9.cls := hown
  have Cx : sw_Cx p s m9 args c cJ0_coder_7d493 1 RJ0 G ca Z A := ⟨⟨hx, hb, hml, hown, htU⟩, hK, hX, hY, hA⟩
  have hP : va_P G vwCl [(q, .inr (9, [vv, .int 0, .int 0, .int 0]))] s.heap := hP
  have hD : va_D A [(q, .inr (9, [vv, .int 0, .int 0, .int 0]))] := hD
  refine va_gets (v := .int 1) hx hb hX.2.2.2.2.2.2.2.1 hS hown (htU _ fl_J0_38) (fun _ h9 => h9) dJ0_coder_7d493_0 ?_
  refine lv_if_eq (tgt := 13) hx hb dJ0_coder_7d493_3 (by decide) (fun c9 => absurd c9 (by decide)) (fun _ => ?_)
  refine lv_aload_n hx hb dJ0_coder_7d493_6 rfl (lv_at hl 0 rfl) ?_
  refine va_get (v := .int 0) hx hb htU iU_J0 hown hK hP 0 rfl rfl 1 (by decide) (htU _ fl_J0_15) (fun _ h9 => h9) rfl dJ0_coder_7d493_7 ?_
  refine lv_goto (tgt := 14) hx hb dJ0_coder_7d493_10 (by decide) ?_
  exact sw_rz hx hb hr rfl hlocks hS () rfl hP hD dJ0_coder_7d493_14
abbrev RM_st_isLatin1 : Room := ({ frames := 0, cells := 0, slots := 0, locals := 0 } : Room)
set_option maxHeartbeats 4000000 in
set_option maxRecDepth 100000 in
theorem c_st_isLatin1 (l : Launch) (G : va_G) (ca Z : Nat → Nat) (q : Nat) (vv : Value) (sz : Nat)  : Met l yJ0_isLatin1_aae02 (.code yJ0_isLatin1_aae02 cJ0_isLatin1_aae02 1 (Option.some Jvm.ClassFile.FieldType.boolean) :: sw_U) RM_st_isLatin1 (va_Pc [.ref q] (sw_Pre G ca Z [(q, .inr (9, [vv, .int 0, .int 0, .int 0]))] sz)) ((fun A => va_Qi (fun r (u : Unit) => 1 = r) (sw_Post G A (fun (u : Unit) => [(q, .inr (9, [vv, .int 0, .int 0, .int 0]))])) A) (va_A [(q, .inr (9, [vv, .int 0, .int 0, .int 0]))] sz)) 0 0 (va_A [(q, .inr (9, [vv, .int 0, .int 0, .int 0]))] sz) := by
  refine sw_ofW (Qc := fun A => va_Qi (fun r (u : Unit) => 1 = r) (sw_Post G A (fun (u : Unit) => [(q, .inr (9, [vv, .int 0, .int 0, .int 0]))])) A) (by decide +kernel) [(0, .ref q)] rfl (Nat.le_of_ble_eq_true rfl) ?_
  intro p e s m9 args below meth c ls A hx hb hr hml hown htU hlocks hin hP hK hD hX hY hS hA hl
  have hown : s.vm.findClass RJ0 = some m9.cls := hown
  have Cx : sw_Cx p s m9 args c cJ0_isLatin1_aae02 1 RJ0 G ca Z A := ⟨⟨hx, hb, hml, hown, htU⟩, hK, hX, hY, hA⟩
  have hP : va_P G vwCl [(q, .inr (9, [vv, .int 0, .int 0, .int 0]))] s.heap := hP
  have hD : va_D A [(q, .inr (9, [vv, .int 0, .int 0, .int 0]))] := hD
  refine va_gets (v := .int 1) hx hb hX.2.2.2.2.2.2.2.1 hS hown (htU _ fl_J0_38) (fun _ h9 => h9) dJ0_isLatin1_aae02_0 ?_
  refine lv_if_eq (tgt := 17) hx hb dJ0_isLatin1_aae02_3 (by decide) (fun c9 => absurd c9 (by decide)) (fun _ => ?_)
  refine lv_aload_n hx hb dJ0_isLatin1_aae02_6 rfl (lv_at hl 0 rfl) ?_
  refine va_get (v := .int 0) hx hb htU iU_J0 hown hK hP 0 rfl rfl 1 (by decide) (htU _ fl_J0_15) (fun _ h9 => h9) rfl dJ0_isLatin1_aae02_7 ?_
  refine lv_if_ne (tgt := 17) hx hb dJ0_isLatin1_aae02_10 (by decide) (fun c9 => absurd rfl c9) (fun _ => ?_)
  refine lv_iconst (v := 1) hx hb dJ0_isLatin1_aae02_13 (by decide) ?_
  refine lv_goto (tgt := 18) hx hb dJ0_isLatin1_aae02_14 (by decide) ?_
  exact sw_rz hx hb hr rfl hlocks hS () rfl hP hD dJ0_isLatin1_aae02_18
abbrev RM_st_length : Room := ({ frames := 1, cells := 0, slots := 0, locals := 20 } : Room)
set_option maxHeartbeats 4000000 in
set_option maxRecDepth 100000 in
theorem c_st_length (l : Launch) (G : va_G) (ca Z : Nat → Nat) (q v n : Nat) (t : List Int32) (sz : Nat)  : Met l yJ0_length_8abf5 (.code yJ0_length_8abf5 cJ0_length_8abf5 1 (Option.some Jvm.ClassFile.FieldType.int) :: sw_U) RM_st_length (va_Pc [.ref q] (sw_Pre G ca Z [(q, .inr (9, [.ref v, .int 0, .int 0, .int 0])), (v, .inl (ca 1, n, .inl (sj_F t)))] sz)) ((fun A => va_Qi (fun r (u : Unit) => nI n = r) (sw_Post G A (fun (u : Unit) => [(q, .inr (9, [.ref v, .int 0, .int 0, .int 0])), (v, .inl (ca 1, n, .inl (sj_F t)))])) A) (va_A [(q, .inr (9, [.ref v, .int 0, .int 0, .int 0])), (v, .inl (ca 1, n, .inl (sj_F t)))] sz)) 0 0 (va_A [(q, .inr (9, [.ref v, .int 0, .int 0, .int 0])), (v, .inl (ca 1, n, .inl (sj_F t)))] sz) := by
  refine sw_ofW (Qc := fun A => va_Qi (fun r (u : Unit) => nI n = r) (sw_Post G A (fun (u : Unit) => [(q, .inr (9, [.ref v, .int 0, .int 0, .int 0])), (v, .inl (ca 1, n, .inl (sj_F t)))])) A) (by decide +kernel) [(0, .ref q)] rfl (Nat.le_of_ble_eq_true rfl) ?_
  intro p e s m9 args below meth c ls A hx hb hr hml hown htU hlocks hin hP hK hD hX hY hS hA hl
  have hown : s.vm.findClass RJ0 = some m9.cls := hown
  have Cx : sw_Cx p s m9 args c cJ0_length_8abf5 1 RJ0 G ca Z A := ⟨⟨hx, hb, hml, hown, htU⟩, hK, hX, hY, hA⟩
  have hP : va_P G vwCl [(q, .inr (9, [.ref v, .int 0, .int 0, .int 0])), (v, .inl (ca 1, n, .inl (sj_F t)))] s.heap := hP
  have hD : va_D A [(q, .inr (9, [.ref v, .int 0, .int 0, .int 0])), (v, .inl (ca 1, n, .inl (sj_F t)))] := hD
  refine lv_aload_n hx hb dJ0_length_8abf5_0 rfl (lv_at hl 0 rfl) ?_
  refine va_get (v := .ref v) hx hb htU iU_J0 hown hK hP 0 rfl rfl 0 (by decide) (htU _ fl_J0_9) (fun _ h9 => h9) rfl dJ0_length_8abf5_1 ?_
  refine va_alen (v := nI n) hx hb hK hP 1 1 rfl rfl rfl dJ0_length_8abf5_4 ?_
  refine lv_aload_n hx hb dJ0_length_8abf5_5 rfl (lv_at hl 0 rfl) ?_
  refine sw_ci (sw_runV (As := []) (rest := [.int (nI n)]) Cx hP hD hS mv_J0_coder_7d493 ml_J0_335 (c_st_coder l G ca Z q (.ref v) s.heap.size) 9 rfl rfl rfl [0] rfl rfl rfl rfl ⟨(Nat.le_of_ble_eq_true rfl), (Nat.le_of_ble_eq_true rfl)⟩ hl.1 rfl rfl (Nat.le_of_ble_eq_true rfl) dJ0_length_8abf5_6 ⟨(Nat.le_of_ble_eq_true rfl), (Nat.le_of_ble_eq_true rfl)⟩) hP hD hS hA [0] [1] [1, 0] rfl rfl rfl (by decide) (fun _ => rfl) rfl (fun r _ H locs hw hP hD hS => ?_)
  subst hw
  have hP : va_P G vwCl [(q, .inr (9, [.ref v, .int 0, .int 0, .int 0])), (v, .inl (ca 1, n, .inl (sj_F t)))] H := hP
  have hD : va_D A [(q, .inr (9, [.ref v, .int 0, .int 0, .int 0])), (v, .inl (ca 1, n, .inl (sj_F t)))] := hD
  refine sj_ishr (v := nI n) hx hb dJ0_length_8abf5_9 (sj_r0 _) ?_
  exact sw_ri hx hb hr hlocks hS () rfl hP hD dJ0_length_8abf5_10
theorem sj_FA {t : List Int32} (h : sj_A t) (j : Nat) : 0 ≤ (sj_F t j).toInt ∧ (sj_F t j).toInt < 128 := by
  unfold sj_F
  rw [List.getD_eq_getElem?_getD]
  cases e : t[j]? with
  | none => decide
  | some x => exact h x (List.mem_of_getElem? e)
theorem sj_nat {x : Int32} (h : 0 ≤ x.toInt ∧ x.toInt < 128) : ∃ k : Nat, k < 128 ∧ x = nI k := ⟨x.toInt.toNat, by omega, Int32.toInt_inj.mp (by rw [nI_toInt (by omega)]; omega)⟩
theorem sj_255k : ∀ k, k < 128 → (nI k &&& (255 : Int32)) = nI k ∧ ((nI k).toUInt32 % 65536).toInt32 = nI k ∧ narrow .char (.int (nI k)) = .int (nI k) := by decide +kernel
theorem sj_255 {x : Int32} (h : 0 ≤ x.toInt ∧ x.toInt < 128) : (x &&& (255 : Int32)) = x := by
  obtain ⟨k, hk, rfl⟩ := sj_nat h
  exact (sj_255k k hk).1
theorem sj_chr {x : Int32} (h : 0 ≤ x.toInt ∧ x.toInt < 128) : (x.toUInt32 % 65536).toInt32 = x := by
  obtain ⟨k, hk, rfl⟩ := sj_nat h
  exact (sj_255k k hk).2.1
theorem sj_nch {x : Int32} (h : 0 ≤ x.toInt ∧ x.toInt < 128) : narrow .char (.int x) = .int x := by
  obtain ⟨k, hk, rfl⟩ := sj_nat h
  exact (sj_255k k hk).2.2
theorem st_chk {i n : Nat} (hi : i < n) (hn : n ≤ 600) : F_J0_checkIndex_df160 (nI i) (nI n) = some () := by
  have h1 : ¬ nI i < 0 := nI_pos (by omega)
  have h2 : nI i < nI n := nI_lt hi (by omega)
  unfold F_J0_checkIndex_df160 F_J3_checkIndex_8e157
  simp [h1, h2]
abbrev RM_st_charAt1 : Room := ({ frames := 2, cells := 0, slots := 0, locals := 43 } : Room)
set_option maxHeartbeats 4000000 in
set_option maxRecDepth 100000 in
theorem c_st_charAt1 (l : Launch) (G : va_G) (ca Z : Nat → Nat) (v n i : Nat) (t : List Int32) (sz : Nat) (hA0 : sj_A t) (hi : i < n) (hn : n ≤ 600) : Met l yJ1_charAt_3b067 (.code yJ1_charAt_3b067 cJ1_charAt_3b067 2 (Option.some Jvm.ClassFile.FieldType.char) :: sw_U) RM_st_charAt1 (va_Pc [.ref v, .int (nI i)] (sw_Pre G ca Z [(v, .inl (ca 1, n, .inl (sj_F t)))] sz)) ((fun A => va_Qi (fun r (u : Unit) => sj_F t i = r) (sw_Post G A (fun (u : Unit) => [(v, .inl (ca 1, n, .inl (sj_F t)))])) A) (va_A [(v, .inl (ca 1, n, .inl (sj_F t)))] sz)) 0 0 (va_A [(v, .inl (ca 1, n, .inl (sj_F t)))] sz) := by
  refine sw_ofW (Qc := fun A => va_Qi (fun r (u : Unit) => sj_F t i = r) (sw_Post G A (fun (u : Unit) => [(v, .inl (ca 1, n, .inl (sj_F t)))])) A) (by decide +kernel) [(0, .ref v), (1, .int (nI i))] rfl (Nat.le_of_ble_eq_true rfl) ?_
  intro p e s m9 args below meth c ls A hx hb hr hml hown htU hlocks hin hP hK hD hX hY hS hA hl
  have hown : s.vm.findClass RJ1 = some m9.cls := hown
  have Cx : sw_Cx p s m9 args c cJ1_charAt_3b067 2 RJ1 G ca Z A := ⟨⟨hx, hb, hml, hown, htU⟩, hK, hX, hY, hA⟩
  have hP : va_P G vwCl [(v, .inl (ca 1, n, .inl (sj_F t)))] s.heap := hP
  have hD : va_D A [(v, .inl (ca 1, n, .inl (sj_F t)))] := hD
  refine lv_iload_n hx hb dJ1_charAt_3b067_0 rfl (lv_at hl 1 rfl) ?_
  refine lv_aload_n hx hb dJ1_charAt_3b067_1 rfl (lv_at hl 0 rfl) ?_
  refine va_alen (v := nI n) hx hb hK hP 0 1 rfl rfl rfl dJ1_charAt_3b067_2 ?_
  refine sw_cv (sw_runS (As := [.int (nI i), .int (nI n)]) (rest := []) Cx hP hD hS ms_J0_checkIndex_df160 ml_J1_9 (c_J0_checkIndex_df160 l G ca Z s.heap.size (nI i) (nI n) () (st_chk hi hn)) [] rfl rfl rfl rfl ⟨(Nat.le_of_ble_eq_true rfl), (Nat.le_of_ble_eq_true rfl)⟩ hl.1 rfl rfl (Nat.le_of_ble_eq_true rfl) dJ1_charAt_3b067_3 ⟨(Nat.le_of_ble_eq_true rfl), (Nat.le_of_ble_eq_true rfl)⟩) hP hD hS hA [] [0] [0] rfl rfl rfl (by decide) (fun _ => rfl) rfl (fun _ H locs hw hP hD hS => ?_)
  have hP : va_P G vwCl [(v, .inl (ca 1, n, .inl (sj_F t)))] H := hP
  have hD : va_D A [(v, .inl (ca 1, n, .inl (sj_F t)))] := hD
  refine lv_aload_n hx hb dJ1_charAt_3b067_6 rfl (lv_at hl 0 rfl) ?_
  refine lv_iload_n hx hb dJ1_charAt_3b067_7 rfl (lv_at hl 1 rfl) ?_
  refine va_bald hx hb hK hP 0 1 rfl rfl (nI_in hi (by omega)) dJ1_charAt_3b067_8 ?_
  rw [nI_clamp (by omega)]
  refine lv_sipush (v := 255) hx hb dJ1_charAt_3b067_9 (by decide) ?_
  refine sj_iand (v := sj_F t i) hx hb dJ1_charAt_3b067_12 (sj_255 (sj_FA hA0 i)) ?_
  refine lv_i2c (v := sj_F t i) hx hb dJ1_charAt_3b067_13 (sj_chr (sj_FA hA0 i)) ?_
  exact sw_rz hx hb hr (sj_nch (sj_FA hA0 i)) hlocks hS () rfl hP hD dJ1_charAt_3b067_14
abbrev RM_st_charAt : Room := ({ frames := 3, cells := 0, slots := 0, locals := 64 } : Room)
set_option maxHeartbeats 4000000 in
set_option maxRecDepth 100000 in
theorem c_st_charAt (l : Launch) (G : va_G) (ca Z : Nat → Nat) (q v n i : Nat) (t : List Int32) (sz : Nat) (hA0 : sj_A t) (hi : i < n) (hn : n ≤ 600) : Met l yJ0_charAt_5068e (.code yJ0_charAt_5068e cJ0_charAt_5068e 2 (Option.some Jvm.ClassFile.FieldType.char) :: sw_U) RM_st_charAt (va_Pc [.ref q, .int (nI i)] (sw_Pre G ca Z [(q, .inr (9, [.ref v, .int 0, .int 0, .int 0])), (v, .inl (ca 1, n, .inl (sj_F t)))] sz)) ((fun A => va_Qi (fun r (u : Unit) => sj_F t i = r) (sw_Post G A (fun (u : Unit) => [(q, .inr (9, [.ref v, .int 0, .int 0, .int 0])), (v, .inl (ca 1, n, .inl (sj_F t)))])) A) (va_A [(q, .inr (9, [.ref v, .int 0, .int 0, .int 0])), (v, .inl (ca 1, n, .inl (sj_F t)))] sz)) 0 0 (va_A [(q, .inr (9, [.ref v, .int 0, .int 0, .int 0])), (v, .inl (ca 1, n, .inl (sj_F t)))] sz) := by
  refine sw_ofW (Qc := fun A => va_Qi (fun r (u : Unit) => sj_F t i = r) (sw_Post G A (fun (u : Unit) => [(q, .inr (9, [.ref v, .int 0, .int 0, .int 0])), (v, .inl (ca 1, n, .inl (sj_F t)))])) A) (by decide +kernel) [(0, .ref q), (1, .int (nI i))] rfl (Nat.le_of_ble_eq_true rfl) ?_
  intro p e s m9 args below meth c ls A hx hb hr hml hown htU hlocks hin hP hK hD hX hY hS hA hl
  have hown : s.vm.findClass RJ0 = some m9.cls := hown
  have Cx : sw_Cx p s m9 args c cJ0_charAt_5068e 2 RJ0 G ca Z A := ⟨⟨hx, hb, hml, hown, htU⟩, hK, hX, hY, hA⟩
  have hP : va_P G vwCl [(q, .inr (9, [.ref v, .int 0, .int 0, .int 0])), (v, .inl (ca 1, n, .inl (sj_F t)))] s.heap := hP
  have hD : va_D A [(q, .inr (9, [.ref v, .int 0, .int 0, .int 0])), (v, .inl (ca 1, n, .inl (sj_F t)))] := hD
  refine lv_aload_n hx hb dJ0_charAt_5068e_0 rfl (lv_at hl 0 rfl) ?_
  refine sw_ci (sw_runV (As := []) (rest := []) Cx hP hD hS mv_J0_isLatin1_aae02 ml_J0_492 (c_st_isLatin1 l G ca Z q (.ref v) s.heap.size) 9 rfl rfl rfl [0] rfl rfl rfl rfl ⟨(Nat.le_of_ble_eq_true rfl), (Nat.le_of_ble_eq_true rfl)⟩ hl.1 rfl rfl (Nat.le_of_ble_eq_true rfl) dJ0_charAt_5068e_1 ⟨(Nat.le_of_ble_eq_true rfl), (Nat.le_of_ble_eq_true rfl)⟩) hP hD hS hA [0] [1] [1, 0] rfl rfl rfl (by decide) (fun _ => rfl) rfl (fun r _ H locs hw hP hD hS => ?_)
  subst hw
  have hP : va_P G vwCl [(q, .inr (9, [.ref v, .int 0, .int 0, .int 0])), (v, .inl (ca 1, n, .inl (sj_F t)))] H := hP
  have hD : va_D A [(q, .inr (9, [.ref v, .int 0, .int 0, .int 0])), (v, .inl (ca 1, n, .inl (sj_F t)))] := hD
  refine lv_if_eq (tgt := 16) hx hb dJ0_charAt_5068e_4 (by decide) (fun c9 => absurd c9 (by decide)) (fun _ => ?_)
  refine lv_aload_n hx hb dJ0_charAt_5068e_7 rfl (lv_at hl 0 rfl) ?_
  refine va_get (v := .ref v) hx hb htU iU_J0 hown hK hP 0 rfl rfl 0 (by decide) (htU _ fl_J0_9) (fun _ h9 => h9) rfl dJ0_charAt_5068e_8 ?_
  refine lv_iload_n hx hb dJ0_charAt_5068e_11 rfl (lv_at hl 1 rfl) ?_
  refine sw_ci (sw_runS (As := [.ref v, .int (nI i)]) (rest := []) Cx hP hD hS ms_J1_charAt_3b067 ml_J0_495 (c_st_charAt1 l G ca Z v n i t H.size hA0 hi hn) [1] rfl rfl rfl rfl ⟨(Nat.le_of_ble_eq_true rfl), (Nat.le_of_ble_eq_true rfl)⟩ hl.1 rfl rfl (Nat.le_of_ble_eq_true rfl) dJ0_charAt_5068e_12 ⟨(Nat.le_of_ble_eq_true rfl), (Nat.le_of_ble_eq_true rfl)⟩) hP hD hS hA [1] [0] [0, 1] rfl rfl rfl (by decide) (fun _ => rfl) rfl (fun r _ H locs hw hP hD hS => ?_)
  subst hw
  have hP : va_P G vwCl [(q, .inr (9, [.ref v, .int 0, .int 0, .int 0])), (v, .inl (ca 1, n, .inl (sj_F t)))] H := hP
  have hD : va_D A [(q, .inr (9, [.ref v, .int 0, .int 0, .int 0])), (v, .inl (ca 1, n, .inl (sj_F t)))] := hD
  exact sw_rz hx hb hr (sj_nch (sj_FA hA0 i)) hlocks hS () rfl hP hD dJ0_charAt_5068e_15
