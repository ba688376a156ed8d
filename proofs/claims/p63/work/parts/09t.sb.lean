abbrev RM_sj_isLatin1 : Room := ({ frames := 0, cells := 0, slots := 0, locals := 0 } : Room)
set_option maxHeartbeats 4000000 in
set_option maxRecDepth 100000 in
theorem c_sj_isLatin1 (l : Launch) (G : va_G) (ca Z : Nat → Nat) (b : Nat) (vv nn : Value) (sz : Nat)  : Met l yJ5_isLatin1_aae02 (.code yJ5_isLatin1_aae02 cJ5_isLatin1_aae02 1 (Option.some Jvm.ClassFile.FieldType.boolean) :: sw_U) RM_sj_isLatin1 (va_Pc [.ref b] (sw_Pre G ca Z [(b, .inr (8, [vv, .int 0, .int 0, nn]))] sz)) ((fun A => va_Qi (fun r (u : Unit) => r = 1) (sw_Post G A (fun (u : Unit) => [(b, .inr (8, [vv, .int 0, .int 0, nn]))])) A) (va_A [(b, .inr (8, [vv, .int 0, .int 0, nn]))] sz)) 0 0 (va_A [(b, .inr (8, [vv, .int 0, .int 0, nn]))] sz) := by
  refine sw_ofW (Qc := fun A => va_Qi (fun r (u : Unit) => r = 1) (sw_Post G A (fun (u : Unit) => [(b, .inr (8, [vv, .int 0, .int 0, nn]))])) A) (by decide +kernel) [(0, .ref b)] rfl (Nat.le_of_ble_eq_true rfl) ?_
  intro p e s m9 args below meth c ls A hx hb hr hml hown htU hlocks hin hP hK hD hX hY hS hA hl
  have hown : s.vm.findClass RJ5 = some m9.cls := hown
  have Cx : sw_Cx p s m9 args c cJ5_isLatin1_aae02 1 RJ5 G ca Z A := ⟨⟨hx, hb, hml, hown, htU⟩, hK, hX, hY, hA⟩
  have hP : va_P G vwCl [(b, .inr (8, [vv, .int 0, .int 0, nn]))] s.heap := hP
  have hD : va_D A [(b, .inr (8, [vv, .int 0, .int 0, nn]))] := hD
  refine va_gets (v := .int 1) hx hb hX.2.2.2.2.2.2.2.1 hS hown (htU _ fl_J5_18) (fun _ h9 => h9) dJ5_isLatin1_aae02_0 ?_
  refine lv_if_eq (tgt := 17) hx hb dJ5_isLatin1_aae02_3 (by decide) (fun c9 => absurd c9 (by decide)) (fun _ => ?_)
  refine lv_aload_n hx hb dJ5_isLatin1_aae02_6 rfl (lv_at hl 0 rfl) ?_
  refine va_get (v := .int 0) hx hb htU iU_J4 hown hK hP 0 rfl rfl 1 (by decide) (htU _ fl_J5_22) (fun _ h9 => h9) rfl dJ5_isLatin1_aae02_7 ?_
  refine lv_if_ne (tgt := 17) hx hb dJ5_isLatin1_aae02_10 (by decide) (fun c9 => absurd rfl c9) (fun _ => ?_)
  refine lv_iconst (v := 1) hx hb dJ5_isLatin1_aae02_13 (by decide) ?_
  refine lv_goto (tgt := 18) hx hb dJ5_isLatin1_aae02_14 (by decide) ?_
  exact sw_rz hx hb hr rfl hlocks hS () rfl hP hD dJ5_isLatin1_aae02_18
abbrev RM_sj_newLength : Room := ({ frames := 1, cells := 0, slots := 0, locals := 40 } : Room)
set_option maxHeartbeats 4000000 in
set_option maxRecDepth 100000 in
theorem c_sj_newLength (l : Launch) (G : va_G) (ca Z : Nat → Nat) (m g h : Nat) (sz : Nat) (hgh : g < h) (hb : m + h ≤ 1000) : Met l yJ8_newLength_cabcc (.code yJ8_newLength_cabcc cJ8_newLength_cabcc 4 (Option.some Jvm.ClassFile.FieldType.int) :: sw_U) RM_sj_newLength (va_Pc [.int (nI m), .int (nI g), .int (nI h)] (sw_Pre G ca Z [] sz)) ((fun A => va_Qi (fun r (u : Unit) => r = nI (m + h)) (sw_Post G A (fun (u : Unit) => [])) A) (va_A [] sz)) 0 0 (va_A [] sz) := by
  refine sw_ofW (Qc := fun A => va_Qi (fun r (u : Unit) => r = nI (m + h)) (sw_Post G A (fun (u : Unit) => [])) A) (by decide +kernel) [(0, .int (nI m)), (1, .int (nI g)), (2, .int (nI h))] rfl (Nat.le_of_ble_eq_true rfl) ?_
  intro p e s m9 args below meth c ls A hx hb hr hml hown htU hlocks hin hP hK hD hX hY hS hA hl
  have hown : s.vm.findClass RJ8 = some m9.cls := hown
  have Cx : sw_Cx p s m9 args c cJ8_newLength_cabcc 4 RJ8 G ca Z A := ⟨⟨hx, hb, hml, hown, htU⟩, hK, hX, hY, hA⟩
  have hP : va_P G vwCl [] s.heap := hP
  have hD : va_D A [] := hD
  refine lv_iload_n hx hb dJ8_newLength_cabcc_0 rfl (lv_at hl 0 rfl) ?_
  refine lv_iload_n hx hb dJ8_newLength_cabcc_1 rfl (lv_at hl 1 rfl) ?_
  refine lv_iload_n hx hb dJ8_newLength_cabcc_2 rfl (lv_at hl 2 rfl) ?_
  refine va_mmax hx hb (hml.trans hl.1.symm) hown (htU _ mm_J8_194) (htU _ mm_st_max) (htU _ mm_ini) (htU _ mm_co_max) (Nat.le_of_ble_eq_true rfl) (Nat.le_of_ble_eq_true rfl) (Nat.le_of_ble_eq_true rfl) (Nat.le_of_ble_eq_true rfl) dJ8_newLength_cabcc_3 ?_
  rw [show (if nI g < nI h then nI h else nI g) = nI h from by rw [if_pos (nI_lt (by omega) (by omega))]]
  refine sj_iadd (v := nI (m + h)) hx hb dJ8_newLength_cabcc_6 (nI_add _ _) ?_
  refine lv_istore_n (lv' := [(3, .int (nI (m + h))), (0, .int (nI m)), (1, .int (nI g)), (2, .int (nI h))]) hx hb dJ8_newLength_cabcc_7 rfl hl (by decide) rfl (fun ls hl => ?_)
  refine lv_iconst (v := 0) hx hb dJ8_newLength_cabcc_8 (by decide) ?_
  refine lv_iload_n hx hb dJ8_newLength_cabcc_9 rfl (lv_at hl 0 rfl) ?_
  refine lv_icmp_ge (tgt := 21) hx hb dJ8_newLength_cabcc_10 (by decide) (fun c9 => absurd c9 (nI_ge (by omega) (by omega) : ¬ nI (m + h) ≤ nI 0)) (fun _ => ?_)
  refine lv_iload_n hx hb dJ8_newLength_cabcc_13 rfl (lv_at hl 0 rfl) ?_
  refine lv_ldc (v := 2147483639) hx hb hown (htU _ kc_J8_200) dJ8_newLength_cabcc_14 ?_
  refine lv_icmp_gt (tgt := 21) hx hb dJ8_newLength_cabcc_16 (by decide) (fun c9 => absurd c9 (Int32.not_lt.mpr (by rw [show (2147483639 : Int32) = nI 2147483639 from by decide]; exact nI_le (by omega) (by omega)))) (fun _ => ?_)
  refine lv_iload_n hx hb dJ8_newLength_cabcc_19 rfl (lv_at hl 0 rfl) ?_
  exact sw_ri hx hb hr hlocks hS () rfl hP hD dJ8_newLength_cabcc_20
abbrev RM_sj_newCapacity : Room := ({ frames := 2, cells := 0, slots := 0, locals := 63 } : Room)
set_option maxHeartbeats 4000000 in
set_option maxRecDepth 100000 in
theorem c_sj_newCapacity (l : Launch) (G : va_G) (ca Z : Nat → Nat) (b v n m k : Nat) (t : List Int32) (sz : Nat) (hm : 22 ≤ m) (hm2 : m ≤ 240) (hk : k ≤ m + 16) (hmk : m < k) : Met l yJ5_newCapacity_0f7a4 (.code yJ5_newCapacity_0f7a4 cJ5_newCapacity_0f7a4 6 (Option.some Jvm.ClassFile.FieldType.int) :: sw_U) RM_sj_newCapacity (va_Pc [.ref b, .int (nI k)] (sw_Pre G ca Z [(b, .inr (8, [.ref v, .int 0, .int 0, .int (nI n)])), (v, .inl (ca 1, m, .inl (sj_F t)))] sz)) ((fun A => va_Qi (fun r (u : Unit) => r = nI (m + (m + 2))) (sw_Post G A (fun (u : Unit) => [(b, .inr (8, [.ref v, .int 0, .int 0, .int (nI n)])), (v, .inl (ca 1, m, .inl (sj_F t)))])) A) (va_A [(b, .inr (8, [.ref v, .int 0, .int 0, .int (nI n)])), (v, .inl (ca 1, m, .inl (sj_F t)))] sz)) 0 0 (va_A [(b, .inr (8, [.ref v, .int 0, .int 0, .int (nI n)])), (v, .inl (ca 1, m, .inl (sj_F t)))] sz) := by
  refine sw_ofW (Qc := fun A => va_Qi (fun r (u : Unit) => r = nI (m + (m + 2))) (sw_Post G A (fun (u : Unit) => [(b, .inr (8, [.ref v, .int 0, .int 0, .int (nI n)])), (v, .inl (ca 1, m, .inl (sj_F t)))])) A) (by decide +kernel) [(0, .ref b), (1, .int (nI k))] rfl (Nat.le_of_ble_eq_true rfl) ?_
  intro p e s m9 args below meth c ls A hx hb hr hml hown htU hlocks hin hP hK hD hX hY hS hA hl
  have hown : s.vm.findClass RJ5 = some m9.cls := hown
  have Cx : sw_Cx p s m9 args c cJ5_newCapacity_0f7a4 6 RJ5 G ca Z A := ⟨⟨hx, hb, hml, hown, htU⟩, hK, hX, hY, hA⟩
  have hP : va_P G vwCl [(b, .inr (8, [.ref v, .int 0, .int 0, .int (nI n)])), (v, .inl (ca 1, m, .inl (sj_F t)))] s.heap := hP
  have hD : va_D A [(b, .inr (8, [.ref v, .int 0, .int 0, .int (nI n)])), (v, .inl (ca 1, m, .inl (sj_F t)))] := hD
  refine lv_aload_n hx hb dJ5_newCapacity_0f7a4_0 rfl (lv_at hl 0 rfl) ?_
  refine va_get (v := .ref v) hx hb htU iU_J4 hown hK hP 0 rfl rfl 0 (by decide) (htU _ fl_J5_15) (fun _ h9 => h9) rfl dJ5_newCapacity_0f7a4_1 ?_
  refine va_alen (v := nI m) hx hb hK hP 1 1 rfl rfl rfl dJ5_newCapacity_0f7a4_4 ?_
  refine lv_istore_n (lv' := [(2, .int (nI m)), (0, .ref b), (1, .int (nI k))]) hx hb dJ5_newCapacity_0f7a4_5 rfl hl (by decide) rfl (fun ls hl => ?_)
  refine lv_iload_n hx hb dJ5_newCapacity_0f7a4_6 rfl (lv_at hl 2 rfl) ?_
  refine lv_aload_n hx hb dJ5_newCapacity_0f7a4_7 rfl (lv_at hl 1 rfl) ?_
  refine va_get (v := .int 0) hx hb htU iU_J4 hown hK hP 0 rfl rfl 1 (by decide) (htU _ fl_J5_22) (fun _ h9 => h9) rfl dJ5_newCapacity_0f7a4_8 ?_
  refine sj_ishl (v := nI k) hx hb dJ5_newCapacity_0f7a4_11 (sj_l0 _) ?_
  refine lv_istore_n (lv' := [(3, .int (nI k)), (2, .int (nI m)), (0, .ref b), (1, .int (nI k))]) hx hb dJ5_newCapacity_0f7a4_12 rfl hl (by decide) rfl (fun ls hl => ?_)
  refine lv_iload_n hx hb dJ5_newCapacity_0f7a4_13 rfl (lv_at hl 0 rfl) ?_
  refine lv_iload_n hx hb dJ5_newCapacity_0f7a4_14 rfl (lv_at hl 1 rfl) ?_
  refine sj_isub (v := nI (k - m)) hx hb dJ5_newCapacity_0f7a4_15 (sj_esub (by omega)) ?_
  refine lv_istore (lv' := [(4, .int (nI (k - m))), (3, .int (nI k)), (2, .int (nI m)), (0, .ref b), (1, .int (nI k))]) hx hb dJ5_newCapacity_0f7a4_16 hl (by decide) rfl (fun ls hl => ?_)
  refine lv_iload_n hx hb dJ5_newCapacity_0f7a4_18 rfl (lv_at hl 2 rfl) ?_
  refine lv_iload hx hb dJ5_newCapacity_0f7a4_19 (lv_at hl 0 rfl) ?_
  refine lv_iload_n hx hb dJ5_newCapacity_0f7a4_21 rfl (lv_at hl 2 rfl) ?_
  refine lv_iconst (v := 2) hx hb dJ5_newCapacity_0f7a4_22 (by decide) ?_
  refine lv_aload_n hx hb dJ5_newCapacity_0f7a4_23 rfl (lv_at hl 3 rfl) ?_
  refine va_get (v := .int 0) hx hb htU iU_J4 hown hK hP 0 rfl rfl 1 (by decide) (htU _ fl_J5_22) (fun _ h9 => h9) rfl dJ5_newCapacity_0f7a4_24 ?_
  refine sj_ishl (v := 2) hx hb dJ5_newCapacity_0f7a4_27 (sj_l0 _) ?_
  refine sj_iadd (v := nI (m + 2)) hx hb dJ5_newCapacity_0f7a4_28 (nI_add m 2) ?_
  refine sw_ci (sw_runS (As := [.int (nI m), .int (nI (k - m)), .int (nI (m + 2))]) (rest := []) Cx hP hD hS ms_J8_newLength_cabcc ml_J5_114 (c_sj_newLength l G ca Z m (k - m) (m + 2) s.heap.size (by omega) (by omega)) [] rfl rfl rfl rfl ⟨(Nat.le_of_ble_eq_true rfl), (Nat.le_of_ble_eq_true rfl)⟩ hl.1 rfl rfl (Nat.le_of_ble_eq_true rfl) dJ5_newCapacity_0f7a4_29 ⟨(Nat.le_of_ble_eq_true rfl), (Nat.le_of_ble_eq_true rfl)⟩) hP hD hS hA [] [0, 1] [0, 1] rfl rfl rfl (by decide) (fun _ => rfl) rfl (fun r _ H locs hw hP hD hS => ?_)
  subst hw
  have hP : va_P G vwCl [(b, .inr (8, [.ref v, .int 0, .int 0, .int (nI n)])), (v, .inl (ca 1, m, .inl (sj_F t)))] H := hP
  have hD : va_D A [(b, .inr (8, [.ref v, .int 0, .int 0, .int (nI n)])), (v, .inl (ca 1, m, .inl (sj_F t)))] := hD
  refine lv_istore (lv' := [(5, .int (nI (m + (m + 2)))), (4, .int (nI (k - m))), (3, .int (nI k)), (2, .int (nI m)), (0, .ref b), (1, .int (nI k))]) hx hb dJ5_newCapacity_0f7a4_32 hl (by decide) rfl (fun ls hl => ?_)
  refine lv_iload hx hb dJ5_newCapacity_0f7a4_34 (lv_at hl 0 rfl) ?_
  refine lv_ldc (v := 2147483647) hx hb hown (htU _ kc_J5_39) dJ5_newCapacity_0f7a4_36 ?_
  refine lv_icmp_ne (tgt := 51) hx hb dJ5_newCapacity_0f7a4_38 (by decide) (fun _ => ?_) (fun c9 => absurd c9 (fun q => absurd (show nI (m + (m + 2)) = nI 2147483647 from q) (fun q => by have := (nI_eq (by omega) (by omega)).mp q; omega)))
  refine lv_iload hx hb dJ5_newCapacity_0f7a4_51 (lv_at hl 0 rfl) ?_
  refine lv_aload_n hx hb dJ5_newCapacity_0f7a4_53 rfl (lv_at hl 4 rfl) ?_
  refine va_get (v := .int 0) hx hb htU iU_J4 hown hK hP 0 rfl rfl 1 (by decide) (htU _ fl_J5_22) (fun _ h9 => h9) rfl dJ5_newCapacity_0f7a4_54 ?_
  refine sj_ishr (v := nI (m + (m + 2))) hx hb dJ5_newCapacity_0f7a4_57 (sj_r0 _) ?_
  exact sw_ri hx hb hr hlocks hS () rfl hP hD dJ5_newCapacity_0f7a4_58
abbrev RM_sj_copyOf : Room := ({ frames := 1, cells := 1, slots := 1024, locals := 40 } : Room)
set_option maxHeartbeats 4000000 in
set_option maxRecDepth 100000 in
theorem c_sj_copyOf (l : Launch) (G : va_G) (ca Z : Nat → Nat) (v m q : Nat) (t : List Int32) (sz : Nat) (hA0 : sj_A t) (ht : t.length ≤ m) (hmq : m < q) (hq : q ≤ 600) : Met l yJ7_copyOf_9075b (.code yJ7_copyOf_9075b cJ7_copyOf_9075b 3 (Option.some (Jvm.ClassFile.FieldType.array Jvm.ClassFile.FieldType.byte)) :: sw_U) RM_sj_copyOf (va_Pc [.ref v, .int (nI q)] (sw_Pre G ca Z [(v, .inl (ca 1, m, .inl (sj_F t)))] sz)) ((fun A => va_Qr (fun (u : Nat) => True) (fun (u : Nat) q9 t9 => q9 = (fun u => u) u ∧ sw_Post G A (fun (u : Nat) => [(v, .inl (ca 1, m, .inl (sj_F t))), (u, .inl (ca 1, q, .inl (sj_F t)))]) u t9) A) (va_A [(v, .inl (ca 1, m, .inl (sj_F t)))] sz)) 1 1024 (va_A [(v, .inl (ca 1, m, .inl (sj_F t)))] sz) := by
  refine sw_ofW (Qc := fun A => va_Qr (fun (u : Nat) => True) (fun (u : Nat) q9 t9 => q9 = (fun u => u) u ∧ sw_Post G A (fun (u : Nat) => [(v, .inl (ca 1, m, .inl (sj_F t))), (u, .inl (ca 1, q, .inl (sj_F t)))]) u t9) A) (by decide +kernel) [(0, .ref v), (1, .int (nI q))] rfl (Nat.le_of_ble_eq_true rfl) ?_
  intro p e s m9 args below meth c ls A hx hb hr hml hown htU hlocks hin hP hK hD hX hY hS hA hl
  have hown : s.vm.findClass RJ7 = some m9.cls := hown
  have Cx : sw_Cx p s m9 args c cJ7_copyOf_9075b 3 RJ7 G ca Z A := ⟨⟨hx, hb, hml, hown, htU⟩, hK, hX, hY, hA⟩
  have hP : va_P G vwCl [(v, .inl (ca 1, m, .inl (sj_F t)))] s.heap := hP
  have hD : va_D A [(v, .inl (ca 1, m, .inl (sj_F t)))] := hD
  refine lv_iload_n hx hb dJ7_copyOf_9075b_0 rfl (lv_at hl 1 rfl) ?_
  refine lv_aload_n hx hb dJ7_copyOf_9075b_1 rfl (lv_at hl 0 rfl) ?_
  refine va_alen (v := nI m) hx hb hK hP 0 1 rfl rfl rfl dJ7_copyOf_9075b_2 ?_
  refine lv_icmp_ne (tgt := 14) hx hb dJ7_copyOf_9075b_3 (by decide) (fun _ => ?_) (fun c9 => absurd c9 (fun q => by have := (nI_eq (by omega) (by omega)).mp q; omega))
  refine lv_iload_n hx hb dJ7_copyOf_9075b_14 rfl (lv_at hl 1 rfl) ?_
  refine sw_newb hx hb htU hK hP hD hS hA (nI_pos (by omega)) (nI_clamp (by omega) : (nI q).toNatClampNeg = q) (by show q * 1 ≤ 536870912; omega) (Nat.le_of_ble_eq_true rfl) (by show 0 + q ≤ 1024; omega) dJ7_copyOf_9075b_15 (fun q15 H hP hD hS => ?_)
  have hP : va_P G vwCl [(v, .inl (ca 1, m, .inl (sj_F t))), (q15, .inl (ca 1, q, .inl (fun _ => 0)))] H := hP
  have hD : va_D A [(v, .inl (ca 1, m, .inl (sj_F t))), (q15, .inl (ca 1, q, .inl (fun _ => 0)))] := hD
  refine lv_astore_n (lv' := [(2, .ref q15), (0, .ref v), (1, .int (nI q))]) hx hb dJ7_copyOf_9075b_17 rfl hl (by decide) rfl (fun ls hl => ?_)
  refine lv_aload_n hx hb dJ7_copyOf_9075b_18 rfl (lv_at hl 1 rfl) ?_
  refine lv_iconst (v := 0) hx hb dJ7_copyOf_9075b_19 (by decide) ?_
  refine lv_aload_n hx hb dJ7_copyOf_9075b_20 rfl (lv_at hl 0 rfl) ?_
  refine lv_iconst (v := 0) hx hb dJ7_copyOf_9075b_21 (by decide) ?_
  refine lv_aload_n hx hb dJ7_copyOf_9075b_22 rfl (lv_at hl 1 rfl) ?_
  refine va_alen (v := nI m) hx hb hK hP 0 1 rfl rfl rfl dJ7_copyOf_9075b_23 ?_
  refine lv_iload_n hx hb dJ7_copyOf_9075b_24 rfl (lv_at hl 2 rfl) ?_
  refine va_mmin hx hb (hml.trans hl.1.symm) hown (htU _ mm_J7_304) (htU _ mm_st_min) (htU _ mm_ini) (htU _ mm_co_min) (Nat.le_of_ble_eq_true rfl) (Nat.le_of_ble_eq_true rfl) (Nat.le_of_ble_eq_true rfl) (by show 0 + q + 0 ≤ 1024; omega) dJ7_copyOf_9075b_25 ?_
  rw [show (if nI q < nI m then nI q else nI m) = nI m from by rw [if_neg (nI_nlt (by omega) (by omega))]]
  refine va_copyi hx hb (hml.trans hl.1.symm) hown (htU _ ac_J7_150) (htU _ ac_nat) (htU _ ac_st) (htU _ ac_ini) hK hP hD hS 0 1 1 1 rfl rfl rfl rfl rfl (by decide) (by decide) (nI_pos (by omega)) (by rw [nI_clamp (by omega), sj_c0]; omega) (by rw [nI_clamp (by omega), sj_c0]; omega) (fun i _ => sj_fitF hA0 _) (Nat.le_of_ble_eq_true rfl) (Nat.le_of_ble_eq_true rfl) dJ7_copyOf_9075b_28 (fun H locs hP hD hS => ?_)
  rw [sj_c0, nI_clamp (by omega), sj_grow ht] at hP hD
  have hP : va_P G vwCl [(v, .inl (ca 1, m, .inl (sj_F t))), (q15, .inl (ca 1, q, .inl (sj_F t)))] H := hP
  have hD : va_D A [(v, .inl (ca 1, m, .inl (sj_F t))), (q15, .inl (ca 1, q, .inl (sj_F t)))] := hD
  refine lv_aload_n hx hb dJ7_copyOf_9075b_31 rfl (lv_at hl 0 rfl) ?_
  refine W.widen (k := 1) (n := 1024) (Nat.le_of_ble_eq_true rfl) (by omega) ?_
  exact sj_rar (f0 := fun u => u) hx hb hr hlocks hS q15 rfl trivial hP hD dJ7_copyOf_9075b_32
theorem sj_subI {a b : Nat} (ha : a < 2 ^ 30) (hb : b < 2 ^ 30) : (nI a - nI b).toInt = (a : Int) - b := by
  rw [Int32.toInt_sub, nI_toInt (by omega), nI_toInt (by omega)]
  exact Int.bmod_eq_of_le (by omega) (by omega)
abbrev RM_sj_ensure : Room := ({ frames := 3, cells := 1, slots := 1024, locals := 88 } : Room)
set_option maxHeartbeats 4000000 in
set_option maxRecDepth 100000 in
theorem c_sj_ensure (l : Launch) (G : va_G) (ca Z : Nat → Nat) (b v n m k : Nat) (t : List Int32) (sz : Nat) (hA0 : sj_A t) (ht : t.length ≤ m) (hm : 22 ≤ m) (hm2 : m ≤ 240) (hk : k ≤ m + 16) (hk2 : k ≤ 119) : Met l yJ5_ensureCapacityInternal_d00df (.code yJ5_ensureCapacityInternal_d00df cJ5_ensureCapacityInternal_d00df 3 (Option.none : Option Jvm.ClassFile.FieldType) :: sw_U) RM_sj_ensure (va_Pc [.ref b, .int (nI k)] (sw_Pre G ca Z [(b, .inr (8, [.ref v, .int 0, .int 0, .int (nI n)])), (v, .inl (ca 1, m, .inl (sj_F t)))] sz)) ((fun A => va_Qv (fun (u : Nat × Nat) => k ≤ u.2 ∧ 22 ≤ u.2 ∧ u.2 ≤ 240) (sw_Post G A (fun (u : Nat × Nat) => [(b, .inr (8, [.ref (u.1), .int 0, .int 0, .int (nI n)])), (u.1, .inl (ca 1, u.2, .inl (sj_F t)))])) A) (va_A [(b, .inr (8, [.ref v, .int 0, .int 0, .int (nI n)])), (v, .inl (ca 1, m, .inl (sj_F t)))] sz)) 1 1024 (va_A [(b, .inr (8, [.ref v, .int 0, .int 0, .int (nI n)])), (v, .inl (ca 1, m, .inl (sj_F t)))] sz) := by
  refine sw_ofW (Qc := fun A => va_Qv (fun (u : Nat × Nat) => k ≤ u.2 ∧ 22 ≤ u.2 ∧ u.2 ≤ 240) (sw_Post G A (fun (u : Nat × Nat) => [(b, .inr (8, [.ref (u.1), .int 0, .int 0, .int (nI n)])), (u.1, .inl (ca 1, u.2, .inl (sj_F t)))])) A) (by decide +kernel) [(0, .ref b), (1, .int (nI k))] rfl (Nat.le_of_ble_eq_true rfl) ?_
  intro p e s m9 args below meth c ls A hx hb hr hml hown htU hlocks hin hP hK hD hX hY hS hA hl
  have hown : s.vm.findClass RJ5 = some m9.cls := hown
  have Cx : sw_Cx p s m9 args c cJ5_ensureCapacityInternal_d00df 3 RJ5 G ca Z A := ⟨⟨hx, hb, hml, hown, htU⟩, hK, hX, hY, hA⟩
  have hP : va_P G vwCl [(b, .inr (8, [.ref v, .int 0, .int 0, .int (nI n)])), (v, .inl (ca 1, m, .inl (sj_F t)))] s.heap := hP
  have hD : va_D A [(b, .inr (8, [.ref v, .int 0, .int 0, .int (nI n)])), (v, .inl (ca 1, m, .inl (sj_F t)))] := hD
  refine lv_aload_n hx hb dJ5_ensureCapacityInternal_d00df_0 rfl (lv_at hl 0 rfl) ?_
  refine va_get (v := .ref v) hx hb htU iU_J4 hown hK hP 0 rfl rfl 0 (by decide) (htU _ fl_J5_15) (fun _ h9 => h9) rfl dJ5_ensureCapacityInternal_d00df_1 ?_
  refine va_alen (v := nI m) hx hb hK hP 1 1 rfl rfl rfl dJ5_ensureCapacityInternal_d00df_4 ?_
  refine lv_aload_n hx hb dJ5_ensureCapacityInternal_d00df_5 rfl (lv_at hl 0 rfl) ?_
  refine va_get (v := .int 0) hx hb htU iU_J4 hown hK hP 0 rfl rfl 1 (by decide) (htU _ fl_J5_22) (fun _ h9 => h9) rfl dJ5_ensureCapacityInternal_d00df_6 ?_
  refine sj_ishr (v := nI m) hx hb dJ5_ensureCapacityInternal_d00df_9 (sj_r0 _) ?_
  refine lv_istore_n (lv' := [(2, .int (nI m)), (0, .ref b), (1, .int (nI k))]) hx hb dJ5_ensureCapacityInternal_d00df_10 rfl hl (by decide) rfl (fun ls hl => ?_)
  refine lv_iload_n hx hb dJ5_ensureCapacityInternal_d00df_11 rfl (lv_at hl 2 rfl) ?_
  refine lv_iload_n hx hb dJ5_ensureCapacityInternal_d00df_12 rfl (lv_at hl 0 rfl) ?_
  refine lv_isub hx hb dJ5_ensureCapacityInternal_d00df_13 ?_
  refine lv_if_le (tgt := 38) hx hb dJ5_ensureCapacityInternal_d00df_14 (by decide) (fun c14 => ?_) (fun c14 => ?_)
  · have hmk : k ≤ m := Nat.le_of_not_lt fun q => absurd c14 (by rw [sj_esub (by omega)]; exact fun c => absurd (show nI (k - m) ≤ nI 0 from c) (nI_ge (by omega) (by omega)))
    refine W.widen (k := 1) (n := 1024) (Nat.le_of_ble_eq_true rfl) (Nat.le_of_ble_eq_true rfl) ?_
    exact sw_rv hx hb hr hlocks hS (v, m) ⟨hmk, hm, hm2⟩ hP hD dJ5_ensureCapacityInternal_d00df_38
  · have hmk : m < k := Nat.lt_of_not_le fun q => c14 (by have : (nI k - nI m).toInt = (k : Int) - m := sj_subI (by omega) (by omega); exact Int32.le_iff_toInt_le.mpr (by rw [this]; show _ ≤ (0 : Int); omega))
    refine lv_aload_n hx hb dJ5_ensureCapacityInternal_d00df_17 rfl (lv_at hl 1 rfl) ?_
    refine lv_aload_n hx hb dJ5_ensureCapacityInternal_d00df_18 rfl (lv_at hl 1 rfl) ?_
    refine va_get (v := .ref v) hx hb htU iU_J4 hown hK hP 0 rfl rfl 0 (by decide) (htU _ fl_J5_15) (fun _ h9 => h9) rfl dJ5_ensureCapacityInternal_d00df_19 ?_
    refine lv_aload_n hx hb dJ5_ensureCapacityInternal_d00df_22 rfl (lv_at hl 1 rfl) ?_
    refine lv_iload_n hx hb dJ5_ensureCapacityInternal_d00df_23 rfl (lv_at hl 2 rfl) ?_
    refine sw_ci (sj_runX (n := 1) (As := [.int (nI k)]) (rest := [.ref v, .ref b]) Cx hP hD hS ml_J5_104 sm_J5_newCapacity_0f7a4 im_J5_newCapacity_0f7a4 co_J5_newCapacity_0f7a4 (sj_sel htU (hY.2.2.2 _ pm_J5_newCapacity_0f7a4 rfl) sm_J5_newCapacity_0f7a4 im_J5_newCapacity_0f7a4) im_J5_newCapacity_0f7a4 ini_J5 co_J5_newCapacity_0f7a4 (by decide +kernel) (c_sj_newCapacity l G ca Z b v n m k t s.heap.size hm hm2 hk hmk) rfl [0, 1] rfl rfl rfl rfl ⟨(Nat.le_of_ble_eq_true rfl), (Nat.le_of_ble_eq_true rfl)⟩ hl.1 rfl rfl (Nat.le_of_ble_eq_true rfl) dJ5_ensureCapacityInternal_d00df_24 ⟨(Nat.le_of_ble_eq_true rfl), (Nat.le_of_ble_eq_true rfl)⟩) hP hD hS hA [0, 1] [] [0, 1] rfl rfl rfl (by decide) (fun _ => rfl) rfl (fun r _ H locs hw hP hD hS => ?_)
    subst hw
    have hP : va_P G vwCl [(b, .inr (8, [.ref v, .int 0, .int 0, .int (nI n)])), (v, .inl (ca 1, m, .inl (sj_F t)))] H := hP
    have hD : va_D A [(b, .inr (8, [.ref v, .int 0, .int 0, .int (nI n)])), (v, .inl (ca 1, m, .inl (sj_F t)))] := hD
    refine lv_aload_n hx hb dJ5_ensureCapacityInternal_d00df_27 rfl (lv_at hl 1 rfl) ?_
    refine va_get (v := .int 0) hx hb htU iU_J4 hown hK hP 0 rfl rfl 1 (by decide) (htU _ fl_J5_22) (fun _ h9 => h9) rfl dJ5_ensureCapacityInternal_d00df_28 ?_
    refine sj_ishl (v := nI (m + (m + 2))) hx hb dJ5_ensureCapacityInternal_d00df_31 (sj_l0 _) ?_
    refine sj_cr (f0 := fun u => u) (sw_runS (As := [.ref v, .int (nI (m + (m + 2)))]) (rest := [.ref b]) Cx hP hD hS ms_J7_copyOf_9075b ml_J5_108 (c_sj_copyOf l G ca Z v m (m + (m + 2)) t H.size hA0 ht (by omega) (by omega)) [1] rfl rfl rfl rfl ⟨(Nat.le_of_ble_eq_true rfl), (Nat.le_of_ble_eq_true rfl)⟩ hl.1 rfl rfl (Nat.le_of_ble_eq_true rfl) dJ5_ensureCapacityInternal_d00df_32 ⟨(Nat.le_of_ble_eq_true rfl), (Nat.le_of_ble_eq_true rfl)⟩) hP hD hS hA [1] [0] [0, 1, 2] rfl rfl rfl (by decide) (fun _ => rfl) rfl (fun u H locs hw hP hD hS => ?_)
    have hP : va_P G vwCl [(b, .inr (8, [.ref v, .int 0, .int 0, .int (nI n)])), (v, .inl (ca 1, m, .inl (sj_F t))), (u, .inl (ca 1, m + (m + 2), .inl (sj_F t)))] H := hP
    have hD : va_D A [(b, .inr (8, [.ref v, .int 0, .int 0, .int (nI n)])), (v, .inl (ca 1, m, .inl (sj_F t))), (u, .inl (ca 1, m + (m + 2), .inl (sj_F t)))] := hD
    refine va_put (v := .ref u) (ty := (.array .byte)) hx hb htU iU_J4 tyJ4 tyJ4_ok nmJ4 hown hK hP hD hS 0 rfl rfl 0 (by decide) (htU _ fl_J5_15) (fun _ h9 => h9) rfl (by decide +kernel) rfl rfl (Nat.le_of_ble_eq_true rfl) dJ5_ensureCapacityInternal_d00df_35 (fun H locs hP hD hS => ?_)
    have hP : va_P G vwCl [(b, .inr (8, [.ref u, .int 0, .int 0, .int (nI n)])), (v, .inl (ca 1, m, .inl (sj_F t))), (u, .inl (ca 1, m + (m + 2), .inl (sj_F t)))] H := hP
    have hD : va_D A [(b, .inr (8, [.ref u, .int 0, .int 0, .int (nI n)])), (v, .inl (ca 1, m, .inl (sj_F t))), (u, .inl (ca 1, m + (m + 2), .inl (sj_F t)))] := hD
    have hP : va_P G vwCl [(b, .inr (8, [.ref u, .int 0, .int 0, .int (nI n)])), (u, .inl (ca 1, m + (m + 2), .inl (sj_F t)))] H := hP.sub [0, 2] rfl
    have hD : va_D A [(b, .inr (8, [.ref u, .int 0, .int 0, .int (nI n)])), (u, .inl (ca 1, m + (m + 2), .inl (sj_F t)))] := hD.sub [0, 2] rfl rfl
    exact sw_rv hx hb hr hlocks hS (u, m + (m + 2)) ⟨by show k ≤ m + (m + 2); omega, by show 22 ≤ m + (m + 2); omega, by show m + (m + 2) ≤ 240; omega⟩ hP hD dJ5_ensureCapacityInternal_d00df_38
abbrev RM_sj_canEncode : Room := ({ frames := 0, cells := 0, slots := 0, locals := 0 } : Room)
set_option maxHeartbeats 4000000 in
set_option maxRecDepth 100000 in
theorem c_sj_canEncode (l : Launch) (G : va_G) (ca Z : Nat → Nat) (x : Int32) (sz : Nat) (hx0 : 0 ≤ x.toInt ∧ x.toInt < 128) : Met l yJ1_canEncode_fc78d (.code yJ1_canEncode_fc78d cJ1_canEncode_fc78d 1 (Option.some Jvm.ClassFile.FieldType.boolean) :: sw_U) RM_sj_canEncode (va_Pc [.int x] (sw_Pre G ca Z [] sz)) ((fun A => va_Qi (fun r (u : Unit) => r = 1) (sw_Post G A (fun (u : Unit) => [])) A) (va_A [] sz)) 0 0 (va_A [] sz) := by
  refine sw_ofW (Qc := fun A => va_Qi (fun r (u : Unit) => r = 1) (sw_Post G A (fun (u : Unit) => [])) A) (by decide +kernel) [(0, .int x)] rfl (Nat.le_of_ble_eq_true rfl) ?_
  intro p e s m9 args below meth c ls A hx hb hr hml hown htU hlocks hin hP hK hD hX hY hS hA hl
  have hown : s.vm.findClass RJ1 = some m9.cls := hown
  have Cx : sw_Cx p s m9 args c cJ1_canEncode_fc78d 1 RJ1 G ca Z A := ⟨⟨hx, hb, hml, hown, htU⟩, hK, hX, hY, hA⟩
  have hP : va_P G vwCl [] s.heap := hP
  have hD : va_D A [] := hD
  refine lv_iload_n hx hb dJ1_canEncode_fc78d_0 rfl (lv_at hl 0 rfl) ?_
  refine lv_sipush (v := 255) hx hb dJ1_canEncode_fc78d_1 (by decide) ?_
  refine lv_icmp_gt (tgt := 11) hx hb dJ1_canEncode_fc78d_4 (by decide) (fun c9 => absurd c9 (sj_le255 hx0)) (fun _ => ?_)
  refine lv_iconst (v := 1) hx hb dJ1_canEncode_fc78d_7 (by decide) ?_
  refine lv_goto (tgt := 12) hx hb dJ1_canEncode_fc78d_8 (by decide) ?_
  exact sw_rz hx hb hr rfl hlocks hS () rfl hP hD dJ1_canEncode_fc78d_12
abbrev RM_sj_appC : Room := ({ frames := 4, cells := 1, slots := 1024, locals := 110 } : Room)
set_option maxHeartbeats 4000000 in
set_option maxRecDepth 100000 in
theorem c_sj_appC (l : Launch) (G : va_G) (ca Z : Nat → Nat) (b v n m : Nat) (t : List Int32) (x : Int32) (sz : Nat) (hA0 : sj_A t) (htn : t.length = n) (hnm : n ≤ m) (hm : 22 ≤ m) (hm2 : m ≤ 240) (hx0 : 0 ≤ x.toInt ∧ x.toInt < 128) (hn : n + 1 ≤ 119) : Met l yJ5_append_3fe6f (.code yJ5_append_3fe6f cJ5_append_3fe6f 2 (Option.some (Jvm.ClassFile.FieldType.object "java/lang/AbstractStringBuilder")) :: sw_U) RM_sj_appC (va_Pc [.ref b, .int x] (sw_Pre G ca Z [(b, .inr (8, [.ref v, .int 0, .int 0, .int (nI n)])), (v, .inl (ca 1, m, .inl (sj_F t)))] sz)) ((fun A => va_Qr (fun (u : Nat × Nat) => n + 1 ≤ u.2 ∧ 22 ≤ u.2 ∧ u.2 ≤ 240) (fun (u : Nat × Nat) q9 t9 => q9 = b ∧ sw_Post G A (fun (u : Nat × Nat) => [(b, .inr (8, [.ref (u.1), .int 0, .int 0, .int (nI (n + 1))])), (u.1, .inl (ca 1, u.2, .inl (sj_F (t ++ [x]))))]) u t9) A) (va_A [(b, .inr (8, [.ref v, .int 0, .int 0, .int (nI n)])), (v, .inl (ca 1, m, .inl (sj_F t)))] sz)) 1 1024 (va_A [(b, .inr (8, [.ref v, .int 0, .int 0, .int (nI n)])), (v, .inl (ca 1, m, .inl (sj_F t)))] sz) := by
  refine sw_ofW (Qc := fun A => va_Qr (fun (u : Nat × Nat) => n + 1 ≤ u.2 ∧ 22 ≤ u.2 ∧ u.2 ≤ 240) (fun (u : Nat × Nat) q9 t9 => q9 = b ∧ sw_Post G A (fun (u : Nat × Nat) => [(b, .inr (8, [.ref (u.1), .int 0, .int 0, .int (nI (n + 1))])), (u.1, .inl (ca 1, u.2, .inl (sj_F (t ++ [x]))))]) u t9) A) (by decide +kernel) [(0, .ref b), (1, .int x)] rfl (Nat.le_of_ble_eq_true rfl) ?_
  intro p e s m9 args below meth c ls A hx hb hr hml hown htU hlocks hin hP hK hD hX hY hS hA hl
  have hown : s.vm.findClass RJ5 = some m9.cls := hown
  have Cx : sw_Cx p s m9 args c cJ5_append_3fe6f 2 RJ5 G ca Z A := ⟨⟨hx, hb, hml, hown, htU⟩, hK, hX, hY, hA⟩
  have hP : va_P G vwCl [(b, .inr (8, [.ref v, .int 0, .int 0, .int (nI n)])), (v, .inl (ca 1, m, .inl (sj_F t)))] s.heap := hP
  have hD : va_D A [(b, .inr (8, [.ref v, .int 0, .int 0, .int (nI n)])), (v, .inl (ca 1, m, .inl (sj_F t)))] := hD
  refine lv_aload_n hx hb dJ5_append_3fe6f_0 rfl (lv_at hl 0 rfl) ?_
  refine lv_aload_n hx hb dJ5_append_3fe6f_1 rfl (lv_at hl 0 rfl) ?_
  refine va_get (v := .int (nI n)) hx hb htU iU_J4 hown hK hP 0 rfl rfl 3 (by decide) (htU _ fl_J5_79) (fun _ h9 => h9) rfl dJ5_append_3fe6f_2 ?_
  refine lv_iconst (v := 1) hx hb dJ5_append_3fe6f_5 (by decide) ?_
  refine sj_iadd (v := nI (n + 1)) hx hb dJ5_append_3fe6f_6 (nI_1 n) ?_
  refine sw_cv (sj_runX (n := 1) (As := [.int (nI (n + 1))]) (rest := []) Cx hP hD hS ml_J5_100 sm_J5_ensureCapacityInternal_d00df im_J5_ensureCapacityInternal_d00df co_J5_ensureCapacityInternal_d00df (sj_sel htU (hY.2.2.2 _ pm_J5_ensureCapacityInternal_d00df rfl) sm_J5_ensureCapacityInternal_d00df im_J5_ensureCapacityInternal_d00df) im_J5_ensureCapacityInternal_d00df ini_J5 co_J5_ensureCapacityInternal_d00df (by decide +kernel) (c_sj_ensure l G ca Z b v n m (n + 1) t s.heap.size hA0 (by omega) hm hm2 (by omega) (by omega)) rfl [0, 1] rfl rfl rfl rfl ⟨(Nat.le_of_ble_eq_true rfl), (Nat.le_of_ble_eq_true rfl)⟩ hl.1 rfl rfl (Nat.le_of_ble_eq_true rfl) dJ5_append_3fe6f_7 ⟨(Nat.le_of_ble_eq_true rfl), (Nat.le_of_ble_eq_true rfl)⟩) hP hD hS hA [0, 1] [] [0, 1] rfl rfl rfl (by decide) (fun _ => rfl) rfl (fun u H locs hw hP hD hS => ?_)
  obtain ⟨g1, g2, g3⟩ := hw
  have hP : va_P G vwCl [(b, .inr (8, [.ref (u.1), .int 0, .int 0, .int (nI n)])), (u.1, .inl (ca 1, u.2, .inl (sj_F t)))] H := hP
  have hD : va_D A [(b, .inr (8, [.ref (u.1), .int 0, .int 0, .int (nI n)])), (u.1, .inl (ca 1, u.2, .inl (sj_F t)))] := hD
  refine lv_aload_n hx hb dJ5_append_3fe6f_10 rfl (lv_at hl 0 rfl) ?_
  refine sw_ci (sj_runX (n := 0) (As := []) (rest := []) Cx hP hD hS ml_J5_83 sm_J5_isLatin1_aae02 im_J5_isLatin1_aae02 co_J5_isLatin1_aae02 (fun h9 => h9 _ sx_J5_isLatin1_aae02) im_J5_isLatin1_aae02 ini_J5 co_J5_isLatin1_aae02 (by decide +kernel) (c_sj_isLatin1 l G ca Z b (.ref u.1) (.int (nI n)) H.size) rfl [0] rfl rfl rfl rfl ⟨(Nat.le_of_ble_eq_true rfl), (Nat.le_of_ble_eq_true rfl)⟩ hl.1 rfl rfl (Nat.le_of_ble_eq_true rfl) dJ5_append_3fe6f_11 ⟨(Nat.le_of_ble_eq_true rfl), (Nat.le_of_ble_eq_true rfl)⟩) hP hD hS hA [0] [1] [1, 0] rfl rfl rfl (by decide) (fun _ => rfl) rfl (fun r _ H locs hw hP hD hS => ?_)
  subst hw
  have hP : va_P G vwCl [(b, .inr (8, [.ref (u.1), .int 0, .int 0, .int (nI n)])), (u.1, .inl (ca 1, u.2, .inl (sj_F t)))] H := hP
  have hD : va_D A [(b, .inr (8, [.ref (u.1), .int 0, .int 0, .int (nI n)])), (u.1, .inl (ca 1, u.2, .inl (sj_F t)))] := hD
  refine lv_if_eq (tgt := 45) hx hb dJ5_append_3fe6f_14 (by decide) (fun c9 => absurd c9 (by decide)) (fun _ => ?_)
  refine lv_iload_n hx hb dJ5_append_3fe6f_17 rfl (lv_at hl 1 rfl) ?_
  refine sw_ci (sw_runS (As := [.int x]) (rest := []) Cx hP hD hS ms_J1_canEncode_fc78d ml_J5_191 (c_sj_canEncode l G ca Z x H.size hx0) [] rfl rfl rfl rfl ⟨(Nat.le_of_ble_eq_true rfl), (Nat.le_of_ble_eq_true rfl)⟩ hl.1 rfl rfl (Nat.le_of_ble_eq_true rfl) dJ5_append_3fe6f_18 ⟨(Nat.le_of_ble_eq_true rfl), (Nat.le_of_ble_eq_true rfl)⟩) hP hD hS hA [] [0, 1] [0, 1] rfl rfl rfl (by decide) (fun _ => rfl) rfl (fun r _ H locs hw hP hD hS => ?_)
  subst hw
  have hP : va_P G vwCl [(b, .inr (8, [.ref (u.1), .int 0, .int 0, .int (nI n)])), (u.1, .inl (ca 1, u.2, .inl (sj_F t)))] H := hP
  have hD : va_D A [(b, .inr (8, [.ref (u.1), .int 0, .int 0, .int (nI n)])), (u.1, .inl (ca 1, u.2, .inl (sj_F t)))] := hD
  refine lv_if_eq (tgt := 45) hx hb dJ5_append_3fe6f_21 (by decide) (fun c9 => absurd c9 (by decide)) (fun _ => ?_)
  refine lv_aload_n hx hb dJ5_append_3fe6f_24 rfl (lv_at hl 0 rfl) ?_
  refine va_get (v := .ref (u.1)) hx hb htU iU_J4 hown hK hP 0 rfl rfl 0 (by decide) (htU _ fl_J5_15) (fun _ h9 => h9) rfl dJ5_append_3fe6f_25 ?_
  refine lv_aload_n hx hb dJ5_append_3fe6f_28 rfl (lv_at hl 0 rfl) ?_
  refine lv_dup hx hb dJ5_append_3fe6f_29 rfl ?_
  refine va_get (v := .int (nI n)) hx hb htU iU_J4 hown hK hP 0 rfl rfl 3 (by decide) (htU _ fl_J5_79) (fun _ h9 => h9) rfl dJ5_append_3fe6f_30 ?_
  refine lv_dup_x1 hx hb dJ5_append_3fe6f_33 rfl rfl ?_
  refine lv_iconst (v := 1) hx hb dJ5_append_3fe6f_34 (by decide) ?_
  refine sj_iadd (v := nI (n + 1)) hx hb dJ5_append_3fe6f_35 (nI_1 n) ?_
  refine va_put (v := .int (nI (n + 1))) (ty := .int) hx hb htU iU_J4 tyJ4 tyJ4_ok nmJ4 hown hK hP hD hS 0 rfl rfl 3 (by decide) (htU _ fl_J5_79) (fun _ h9 => h9) rfl (by decide +kernel) rfl rfl (Nat.le_of_ble_eq_true rfl) dJ5_append_3fe6f_36 (fun H locs hP hD hS => ?_)
  have hP : va_P G vwCl [(b, .inr (8, [.ref (u.1), .int 0, .int 0, .int (nI (n + 1))])), (u.1, .inl (ca 1, u.2, .inl (sj_F t)))] H := hP
  have hD : va_D A [(b, .inr (8, [.ref (u.1), .int 0, .int 0, .int (nI (n + 1))])), (u.1, .inl (ca 1, u.2, .inl (sj_F t)))] := hD
  refine lv_iload_n hx hb dJ5_append_3fe6f_39 rfl (lv_at hl 1 rfl) ?_
  refine lv_i2b (v := x) hx hb dJ5_append_3fe6f_40 (sj_i2b hx0) ?_
  refine va_bast hx hb hK hP hD hS 1 1 rfl rfl (nI_in (by omega) (by omega)) dJ5_append_3fe6f_41 (fun H locs hP hD hS => ?_)
  rw [nI_clamp (by omega), sj_nar hx0, sj_up htn] at hP hD
  have hP : va_P G vwCl [(b, .inr (8, [.ref (u.1), .int 0, .int 0, .int (nI (n + 1))])), (u.1, .inl (ca 1, u.2, .inl (sj_F (t ++ [x]))))] H := hP
  have hD : va_D A [(b, .inr (8, [.ref (u.1), .int 0, .int 0, .int (nI (n + 1))])), (u.1, .inl (ca 1, u.2, .inl (sj_F (t ++ [x]))))] := hD
  refine lv_goto (tgt := 75) hx hb dJ5_append_3fe6f_42 (by decide) ?_
  refine lv_aload_n hx hb dJ5_append_3fe6f_75 rfl (lv_at hl 0 rfl) ?_
  exact sw_rr hx hb hr hlocks hS u ⟨g1, g2, g3⟩ hP hD dJ5_append_3fe6f_76
theorem sj_k1 {k : Nat} (h : k < 6) : F_J0_coder_7d493 k = some 0 := by
  unfold F_J0_coder_7d493 kl
  rw [if_pos h]
theorem sj_k2 {k : Nat} (h : k < 6) : F_J0_length_8abf5 k = some (nI (sw_len.getD k 0)) := by
  unfold F_J0_length_8abf5 kl
  rw [if_pos h, sj_k1 h]
  show some (sw_sl k >>> ((0 : Int32) &&& 31)) = _
  rw [sj_r0]
  rfl
theorem sj_k3 {k : Nat} (h : k < 6) : (sw_byt.getD k []).length = sw_len.getD k 0 ∧ sw_len.getD k 0 ≤ 8 ∧ sj_A (sw_byt.getD k []) := by
  rcases (show k = 0 ∨ k = 1 ∨ k = 2 ∨ k = 3 ∨ k = 4 ∨ k = 5 by omega) with rfl | rfl | rfl | rfl | rfl | rfl <;> exact ⟨rfl, by decide, by unfold sj_A; decide +kernel⟩
abbrev RM_sj_inflateIf : Room := ({ frames := 1, cells := 0, slots := 0, locals := 20 } : Room)
set_option maxHeartbeats 4000000 in
set_option maxRecDepth 100000 in
theorem c_sj_inflateIf (l : Launch) (G : va_G) (ca Z : Nat → Nat) (b k : Nat) (vv nn : Value) (sz : Nat) (hk6 : k < 6) : Met l yJ5_inflateIfNeededFor_a7421 (.code yJ5_inflateIfNeededFor_a7421 cJ5_inflateIfNeededFor_a7421 2 (Option.none : Option Jvm.ClassFile.FieldType) :: sw_U) RM_sj_inflateIf (va_Pc [.ref b, .ref (Z (20 + k))] (sw_Pre G ca Z [(b, .inr (8, [vv, .int 0, .int 0, nn]))] sz)) ((fun A => va_Qv (fun (u : Unit) => True) (sw_Post G A (fun (u : Unit) => [(b, .inr (8, [vv, .int 0, .int 0, nn]))])) A) (va_A [(b, .inr (8, [vv, .int 0, .int 0, nn]))] sz)) 0 0 (va_A [(b, .inr (8, [vv, .int 0, .int 0, nn]))] sz) := by
  refine sw_ofW (Qc := fun A => va_Qv (fun (u : Unit) => True) (sw_Post G A (fun (u : Unit) => [(b, .inr (8, [vv, .int 0, .int 0, nn]))])) A) (by decide +kernel) [(0, .ref b), (1, .ref (Z (20 + k)))] rfl (Nat.le_of_ble_eq_true rfl) ?_
  intro p e s m9 args below meth c ls A hx hb hr hml hown htU hlocks hin hP hK hD hX hY hS hA hl
  have hown : s.vm.findClass RJ5 = some m9.cls := hown
  have Cx : sw_Cx p s m9 args c cJ5_inflateIfNeededFor_a7421 2 RJ5 G ca Z A := ⟨⟨hx, hb, hml, hown, htU⟩, hK, hX, hY, hA⟩
  have hP : va_P G vwCl [(b, .inr (8, [vv, .int 0, .int 0, nn]))] s.heap := hP
  have hD : va_D A [(b, .inr (8, [vv, .int 0, .int 0, nn]))] := hD
  refine va_gets (v := .int 1) hx hb hX.2.2.2.2.2.2.2.1 hS hown (htU _ fl_J5_18) (fun _ h9 => h9) dJ5_inflateIfNeededFor_a7421_0 ?_
  refine lv_if_eq (tgt := 21) hx hb dJ5_inflateIfNeededFor_a7421_3 (by decide) (fun c9 => absurd c9 (by decide)) (fun _ => ?_)
  refine lv_aload_n hx hb dJ5_inflateIfNeededFor_a7421_6 rfl (lv_at hl 0 rfl) ?_
  refine va_get (v := .int 0) hx hb htU iU_J4 hown hK hP 0 rfl rfl 1 (by decide) (htU _ fl_J5_22) (fun _ h9 => h9) rfl dJ5_inflateIfNeededFor_a7421_7 ?_
  refine lv_aload_n hx hb dJ5_inflateIfNeededFor_a7421_10 rfl (lv_at hl 1 rfl) ?_
  refine sw_ci (sw_runR (As := []) (rest := [.int 0]) Cx hP hD hS mv_J0_coder_7d493 ml_J5_40 (c_J0_coder_7d493 l G ca Z s.heap.size k 0 (sj_k1 hk6)) (sw_rcS hX hS hk6) [] rfl rfl rfl rfl ⟨(Nat.le_of_ble_eq_true rfl), (Nat.le_of_ble_eq_true rfl)⟩ hl.1 rfl rfl (Nat.le_of_ble_eq_true rfl) dJ5_inflateIfNeededFor_a7421_11 ⟨(Nat.le_of_ble_eq_true rfl), (Nat.le_of_ble_eq_true rfl)⟩) hP hD hS hA [] [0] [0] rfl rfl rfl (by decide) (fun _ => rfl) rfl (fun r _ H locs hw hP hD hS => ?_)
  subst hw
  have hP : va_P G vwCl [(b, .inr (8, [vv, .int 0, .int 0, nn]))] H := hP
  have hD : va_D A [(b, .inr (8, [vv, .int 0, .int 0, nn]))] := hD
  refine lv_icmp_eq (tgt := 21) hx hb dJ5_inflateIfNeededFor_a7421_14 (by decide) (fun _ => ?_) (fun c9 => absurd (rfl : (0 : Int32) = 0) c9)
  exact sw_rv hx hb hr hlocks hS () trivial hP hD dJ5_inflateIfNeededFor_a7421_21
abbrev RM_sj_getBytes : Room := ({ frames := 1, cells := 0, slots := 0, locals := 40 } : Room)
set_option maxHeartbeats 4000000 in
set_option maxRecDepth 100000 in
theorem c_sj_getBytes (l : Launch) (G : va_G) (ca Z : Nat → Nat) (k v n m : Nat) (t : List Int32) (sz : Nat) (hk6 : k < 6) (htn : t.length = n) (hnm : n + sw_len.getD k 0 ≤ m) (hm2 : m ≤ 240) : Met l yJ0_getBytes_840e7 (.code yJ0_getBytes_840e7 cJ0_getBytes_840e7 4 (Option.none : Option Jvm.ClassFile.FieldType) :: sw_U) RM_sj_getBytes (va_Pc [.ref (Z (20 + k)), .ref v, .int (nI n), .int 0] (sw_Pre G ca Z [(v, .inl (ca 1, m, .inl (sj_F t)))] sz)) ((fun A => va_Qv (fun (u : Unit) => True) (sw_Post G A (fun (u : Unit) => [(v, .inl (ca 1, m, .inl (sj_F (t ++ sw_byt.getD k []))))])) A) (va_A [(v, .inl (ca 1, m, .inl (sj_F t)))] sz)) 0 0 (va_A [(v, .inl (ca 1, m, .inl (sj_F t)))] sz) := by
  refine sw_ofW (Qc := fun A => va_Qv (fun (u : Unit) => True) (sw_Post G A (fun (u : Unit) => [(v, .inl (ca 1, m, .inl (sj_F (t ++ sw_byt.getD k []))))])) A) (by decide +kernel) [(0, .ref (Z (20 + k))), (1, .ref v), (2, .int (nI n)), (3, .int 0)] rfl (Nat.le_of_ble_eq_true rfl) ?_
  intro p e s m9 args below meth c ls A hx hb hr hml hown htU hlocks hin hP hK hD hX hY hS hA hl
  have hown : s.vm.findClass RJ0 = some m9.cls := hown
  have Cx : sw_Cx p s m9 args c cJ0_getBytes_840e7 4 RJ0 G ca Z A := ⟨⟨hx, hb, hml, hown, htU⟩, hK, hX, hY, hA⟩
  have hP : va_P G vwCl [(v, .inl (ca 1, m, .inl (sj_F t)))] s.heap := hP
  have hD : va_D A [(v, .inl (ca 1, m, .inl (sj_F t)))] := hD
  refine lv_aload_n hx hb dJ0_getBytes_840e7_0 rfl (lv_at hl 0 rfl) ?_
  refine sw_ci (sw_runR (As := []) (rest := []) Cx hP hD hS mv_J0_coder_7d493 ml_J0_335 (c_J0_coder_7d493 l G ca Z s.heap.size k 0 (sj_k1 hk6)) (sw_rcS hX hS hk6) [] rfl rfl rfl rfl ⟨(Nat.le_of_ble_eq_true rfl), (Nat.le_of_ble_eq_true rfl)⟩ hl.1 rfl rfl (Nat.le_of_ble_eq_true rfl) dJ0_getBytes_840e7_1 ⟨(Nat.le_of_ble_eq_true rfl), (Nat.le_of_ble_eq_true rfl)⟩) hP hD hS hA [] [0] [0] rfl rfl rfl (by decide) (fun _ => rfl) rfl (fun r _ H locs hw hP hD hS => ?_)
  subst hw
  have hP : va_P G vwCl [(v, .inl (ca 1, m, .inl (sj_F t)))] H := hP
  have hD : va_D A [(v, .inl (ca 1, m, .inl (sj_F t)))] := hD
  refine lv_iload_n hx hb dJ0_getBytes_840e7_4 rfl (lv_at hl 3 rfl) ?_
  refine lv_icmp_ne (tgt := 28) hx hb dJ0_getBytes_840e7_5 (by decide) (fun c9 => absurd rfl c9) (fun _ => ?_)
  refine lv_aload_n hx hb dJ0_getBytes_840e7_8 rfl (lv_at hl 0 rfl) ?_
  refine vk_getf (v := .ref (Z (40 + k))) hx hb (sw_sC hX hk6).2.1 hS hown (htU _ fl_J0_9) (fun _ h9 => h9) dJ0_getBytes_840e7_9 ?_
  refine lv_iconst (v := 0) hx hb dJ0_getBytes_840e7_12 (by decide) ?_
  refine lv_aload_n hx hb dJ0_getBytes_840e7_13 rfl (lv_at hl 1 rfl) ?_
  refine lv_iload_n hx hb dJ0_getBytes_840e7_14 rfl (lv_at hl 2 rfl) ?_
  refine lv_iload_n hx hb dJ0_getBytes_840e7_15 rfl (lv_at hl 3 rfl) ?_
  refine sj_ishl (v := nI n) hx hb dJ0_getBytes_840e7_16 (sj_l0 _) ?_
  refine lv_aload_n hx hb dJ0_getBytes_840e7_17 rfl (lv_at hl 0 rfl) ?_
  refine vk_getf (v := .ref (Z (40 + k))) hx hb (sw_sC hX hk6).2.1 hS hown (htU _ fl_J0_9) (fun _ h9 => h9) dJ0_getBytes_840e7_18 ?_
  refine va_tlen (v := nI (sw_len.getD k 0)) hx hb (sw_sC hX hk6).2.2 hS rfl dJ0_getBytes_840e7_21 ?_
  obtain ⟨k1, k2, k3⟩ := sj_k3 hk6
  refine vk_copyt hx hb (hml.trans hl.1.symm) hown (htU _ ac_J0_212) (htU _ ac_nat) (htU _ ac_st) (htU _ ac_ini) hK hP hD hS (f := sj_F (sw_byt.getD k [])) (sw_sC hX hk6).2.2 0 1 rfl rfl (by decide) (nI_pos (by omega)) (nI_pos (by omega)) (by rw [nI_clamp (by omega), sj_c0]; omega) (by rw [nI_clamp (by omega), nI_clamp (by omega)]; omega) (fun i _ => sj_fitF k3 _) (Nat.le_of_ble_eq_true rfl) (Nat.le_of_ble_eq_true rfl) dJ0_getBytes_840e7_22 (fun H locs hP hD hS => ?_)
  rw [sj_c0, nI_clamp (by omega), nI_clamp (by omega), sj_app htn k1] at hP hD
  have hP : va_P G vwCl [(v, .inl (ca 1, m, .inl (sj_F (t ++ sw_byt.getD k []))))] H := hP
  have hD : va_D A [(v, .inl (ca 1, m, .inl (sj_F (t ++ sw_byt.getD k []))))] := hD
  refine lv_goto (tgt := 43) hx hb dJ0_getBytes_840e7_25 (by decide) ?_
  exact sw_rv hx hb hr hlocks hS () trivial hP hD dJ0_getBytes_840e7_43
theorem mv_J0_getBytes_840e7 : sw_MV yJ0_getBytes_840e7 RJ0 cJ0_getBytes_840e7 4 (Option.none : Option Jvm.ClassFile.FieldType) 3 := ⟨im_J0_getBytes_840e7, se_J0_getBytes_840e7, ini_J0, co_J0_getBytes_840e7, by decide +kernel⟩
abbrev RM_sj_put : Room := ({ frames := 2, cells := 0, slots := 0, locals := 63 } : Room)
set_option maxHeartbeats 4000000 in
set_option maxRecDepth 100000 in
theorem c_sj_put (l : Launch) (G : va_G) (ca Z : Nat → Nat) (b v n m k : Nat) (t : List Int32) (sz : Nat) (hk6 : k < 6) (htn : t.length = n) (hnm : n + sw_len.getD k 0 ≤ m) (hm2 : m ≤ 240) : Met l yJ5_putStringAt_47b60 (.code yJ5_putStringAt_47b60 cJ5_putStringAt_47b60 3 (Option.none : Option Jvm.ClassFile.FieldType) :: sw_U) RM_sj_put (va_Pc [.ref b, .int (nI n), .ref (Z (20 + k))] (sw_Pre G ca Z [(b, .inr (8, [.ref v, .int 0, .int 0, .int (nI n)])), (v, .inl (ca 1, m, .inl (sj_F t)))] sz)) ((fun A => va_Qv (fun (u : Unit) => True) (sw_Post G A (fun (u : Unit) => [(b, .inr (8, [.ref v, .int 0, .int 0, .int (nI n)])), (v, .inl (ca 1, m, .inl (sj_F (t ++ sw_byt.getD k []))))])) A) (va_A [(b, .inr (8, [.ref v, .int 0, .int 0, .int (nI n)])), (v, .inl (ca 1, m, .inl (sj_F t)))] sz)) 0 0 (va_A [(b, .inr (8, [.ref v, .int 0, .int 0, .int (nI n)])), (v, .inl (ca 1, m, .inl (sj_F t)))] sz) := by
  refine sw_ofW (Qc := fun A => va_Qv (fun (u : Unit) => True) (sw_Post G A (fun (u : Unit) => [(b, .inr (8, [.ref v, .int 0, .int 0, .int (nI n)])), (v, .inl (ca 1, m, .inl (sj_F (t ++ sw_byt.getD k []))))])) A) (by decide +kernel) [(0, .ref b), (1, .int (nI n)), (2, .ref (Z (20 + k)))] rfl (Nat.le_of_ble_eq_true rfl) ?_
  intro p e s m9 args below meth c ls A hx hb hr hml hown htU hlocks hin hP hK hD hX hY hS hA hl
  have hown : s.vm.findClass RJ5 = some m9.cls := hown
  have Cx : sw_Cx p s m9 args c cJ5_putStringAt_47b60 3 RJ5 G ca Z A := ⟨⟨hx, hb, hml, hown, htU⟩, hK, hX, hY, hA⟩
  have hP : va_P G vwCl [(b, .inr (8, [.ref v, .int 0, .int 0, .int (nI n)])), (v, .inl (ca 1, m, .inl (sj_F t)))] s.heap := hP
  have hD : va_D A [(b, .inr (8, [.ref v, .int 0, .int 0, .int (nI n)])), (v, .inl (ca 1, m, .inl (sj_F t)))] := hD
  refine lv_aload_n hx hb dJ5_putStringAt_47b60_0 rfl (lv_at hl 0 rfl) ?_
  refine lv_aload_n hx hb dJ5_putStringAt_47b60_1 rfl (lv_at hl 2 rfl) ?_
  refine sw_cv (sj_runX (n := 1) (As := [.ref (Z (20 + k))]) (rest := []) Cx hP hD hS ml_J5_397 sm_J5_inflateIfNeededFor_a7421 im_J5_inflateIfNeededFor_a7421 co_J5_inflateIfNeededFor_a7421 (sj_sel htU (hY.2.2.2 _ pm_J5_inflateIfNeededFor_a7421 rfl) sm_J5_inflateIfNeededFor_a7421 im_J5_inflateIfNeededFor_a7421) im_J5_inflateIfNeededFor_a7421 ini_J5 co_J5_inflateIfNeededFor_a7421 (by decide +kernel) (c_sj_inflateIf l G ca Z b k (.ref v) (.int (nI n)) s.heap.size hk6) rfl [0] rfl rfl rfl rfl ⟨(Nat.le_of_ble_eq_true rfl), (Nat.le_of_ble_eq_true rfl)⟩ hl.1 rfl rfl (Nat.le_of_ble_eq_true rfl) dJ5_putStringAt_47b60_2 ⟨(Nat.le_of_ble_eq_true rfl), (Nat.le_of_ble_eq_true rfl)⟩) hP hD hS hA [0] [1] [1, 0] rfl rfl rfl (by decide) (fun _ => rfl) rfl (fun _ H locs hw hP hD hS => ?_)
  have hP : va_P G vwCl [(b, .inr (8, [.ref v, .int 0, .int 0, .int (nI n)])), (v, .inl (ca 1, m, .inl (sj_F t)))] H := hP
  have hD : va_D A [(b, .inr (8, [.ref v, .int 0, .int 0, .int (nI n)])), (v, .inl (ca 1, m, .inl (sj_F t)))] := hD
  refine lv_aload_n hx hb dJ5_putStringAt_47b60_5 rfl (lv_at hl 2 rfl) ?_
  refine lv_aload_n hx hb dJ5_putStringAt_47b60_6 rfl (lv_at hl 0 rfl) ?_
  refine va_get (v := .ref v) hx hb htU iU_J4 hown hK hP 0 rfl rfl 0 (by decide) (htU _ fl_J5_15) (fun _ h9 => h9) rfl dJ5_putStringAt_47b60_7 ?_
  refine lv_iload_n hx hb dJ5_putStringAt_47b60_10 rfl (lv_at hl 1 rfl) ?_
  refine lv_aload_n hx hb dJ5_putStringAt_47b60_11 rfl (lv_at hl 0 rfl) ?_
  refine va_get (v := .int 0) hx hb htU iU_J4 hown hK hP 0 rfl rfl 1 (by decide) (htU _ fl_J5_22) (fun _ h9 => h9) rfl dJ5_putStringAt_47b60_12 ?_
  refine sw_cv (sw_runR (As := [.ref v, .int (nI n), .int 0]) (rest := []) Cx hP hD hS mv_J0_getBytes_840e7 ml_J5_399 (c_sj_getBytes l G ca Z k v n m t H.size hk6 htn hnm hm2) (sw_rcS hX hS hk6) [1] rfl rfl rfl rfl ⟨(Nat.le_of_ble_eq_true rfl), (Nat.le_of_ble_eq_true rfl)⟩ hl.1 rfl rfl (Nat.le_of_ble_eq_true rfl) dJ5_putStringAt_47b60_15 ⟨(Nat.le_of_ble_eq_true rfl), (Nat.le_of_ble_eq_true rfl)⟩) hP hD hS hA [1] [0] [0, 1] rfl rfl rfl (by decide) (fun _ => rfl) rfl (fun _ H locs hw hP hD hS => ?_)
  have hP : va_P G vwCl [(b, .inr (8, [.ref v, .int 0, .int 0, .int (nI n)])), (v, .inl (ca 1, m, .inl (sj_F (t ++ sw_byt.getD k []))))] H := hP
  have hD : va_D A [(b, .inr (8, [.ref v, .int 0, .int 0, .int (nI n)])), (v, .inl (ca 1, m, .inl (sj_F (t ++ sw_byt.getD k []))))] := hD
  exact sw_rv hx hb hr hlocks hS () trivial hP hD dJ5_putStringAt_47b60_18
abbrev RM_sj_appS : Room := ({ frames := 4, cells := 1, slots := 1024, locals := 110 } : Room)
set_option maxHeartbeats 4000000 in
set_option maxRecDepth 100000 in
theorem c_sj_appS (l : Launch) (G : va_G) (ca Z : Nat → Nat) (b v n m : Nat) (t : List Int32) (k : Nat) (sz : Nat) (hA0 : sj_A t) (htn : t.length = n) (hnm : n ≤ m) (hm : 22 ≤ m) (hm2 : m ≤ 240) (hk6 : k < 6) (hn : n + sw_len.getD k 0 ≤ 119) : Met l yJ5_append_cf1ce (.code yJ5_append_cf1ce cJ5_append_cf1ce 3 (Option.some (Jvm.ClassFile.FieldType.object "java/lang/AbstractStringBuilder")) :: sw_U) RM_sj_appS (va_Pc [.ref b, .ref (Z (20 + k))] (sw_Pre G ca Z [(b, .inr (8, [.ref v, .int 0, .int 0, .int (nI n)])), (v, .inl (ca 1, m, .inl (sj_F t)))] sz)) ((fun A => va_Qr (fun (u : Nat × Nat) => n + sw_len.getD k 0 ≤ u.2 ∧ 22 ≤ u.2 ∧ u.2 ≤ 240) (fun (u : Nat × Nat) q9 t9 => q9 = b ∧ sw_Post G A (fun (u : Nat × Nat) => [(b, .inr (8, [.ref (u.1), .int 0, .int 0, .int (nI (n + sw_len.getD k 0))])), (u.1, .inl (ca 1, u.2, .inl (sj_F (t ++ sw_byt.getD k []))))]) u t9) A) (va_A [(b, .inr (8, [.ref v, .int 0, .int 0, .int (nI n)])), (v, .inl (ca 1, m, .inl (sj_F t)))] sz)) 1 1024 (va_A [(b, .inr (8, [.ref v, .int 0, .int 0, .int (nI n)])), (v, .inl (ca 1, m, .inl (sj_F t)))] sz) := by
  refine sw_ofW (Qc := fun A => va_Qr (fun (u : Nat × Nat) => n + sw_len.getD k 0 ≤ u.2 ∧ 22 ≤ u.2 ∧ u.2 ≤ 240) (fun (u : Nat × Nat) q9 t9 => q9 = b ∧ sw_Post G A (fun (u : Nat × Nat) => [(b, .inr (8, [.ref (u.1), .int 0, .int 0, .int (nI (n + sw_len.getD k 0))])), (u.1, .inl (ca 1, u.2, .inl (sj_F (t ++ sw_byt.getD k []))))]) u t9) A) (by decide +kernel) [(0, .ref b), (1, .ref (Z (20 + k)))] rfl (Nat.le_of_ble_eq_true rfl) ?_
  intro p e s m9 args below meth c ls A hx hb hr hml hown htU hlocks hin hP hK hD hX hY hS hA hl
  have hown : s.vm.findClass RJ5 = some m9.cls := hown
  have Cx : sw_Cx p s m9 args c cJ5_append_cf1ce 3 RJ5 G ca Z A := ⟨⟨hx, hb, hml, hown, htU⟩, hK, hX, hY, hA⟩
  have hP : va_P G vwCl [(b, .inr (8, [.ref v, .int 0, .int 0, .int (nI n)])), (v, .inl (ca 1, m, .inl (sj_F t)))] s.heap := hP
  have hD : va_D A [(b, .inr (8, [.ref v, .int 0, .int 0, .int (nI n)])), (v, .inl (ca 1, m, .inl (sj_F t)))] := hD
  obtain ⟨k1, k2, k3⟩ := sj_k3 hk6
  refine lv_aload_n hx hb dJ5_append_cf1ce_0 rfl (lv_at hl 1 rfl) ?_
  refine lv_ifnonnull (tgt := 9) hx hb dJ5_append_cf1ce_1 (by decide) ?_
  refine lv_aload_n hx hb dJ5_append_cf1ce_9 rfl (lv_at hl 1 rfl) ?_
  refine sw_ci (sw_runR (As := []) (rest := []) Cx hP hD hS mv_J0_length_8abf5 ml_J5_32 (c_J0_length_8abf5 l G ca Z s.heap.size k (nI (sw_len.getD k 0)) (sj_k2 hk6)) (sw_rcS hX hS hk6) [] rfl rfl rfl rfl ⟨(Nat.le_of_ble_eq_true rfl), (Nat.le_of_ble_eq_true rfl)⟩ hl.1 rfl rfl (Nat.le_of_ble_eq_true rfl) dJ5_append_cf1ce_10 ⟨(Nat.le_of_ble_eq_true rfl), (Nat.le_of_ble_eq_true rfl)⟩) hP hD hS hA [] [0, 1] [0, 1] rfl rfl rfl (by decide) (fun _ => rfl) rfl (fun r _ H locs hw hP hD hS => ?_)
  subst hw
  have hP : va_P G vwCl [(b, .inr (8, [.ref v, .int 0, .int 0, .int (nI n)])), (v, .inl (ca 1, m, .inl (sj_F t)))] H := hP
  have hD : va_D A [(b, .inr (8, [.ref v, .int 0, .int 0, .int (nI n)])), (v, .inl (ca 1, m, .inl (sj_F t)))] := hD
  refine lv_istore_n (lv' := [(2, .int (nI (sw_len.getD k 0))), (0, .ref b), (1, .ref (Z (20 + k)))]) hx hb dJ5_append_cf1ce_13 rfl hl (by decide) rfl (fun ls hl => ?_)
  refine lv_aload_n hx hb dJ5_append_cf1ce_14 rfl (lv_at hl 1 rfl) ?_
  refine lv_aload_n hx hb dJ5_append_cf1ce_15 rfl (lv_at hl 1 rfl) ?_
  refine va_get (v := .int (nI n)) hx hb htU iU_J4 hown hK hP 0 rfl rfl 3 (by decide) (htU _ fl_J5_79) (fun _ h9 => h9) rfl dJ5_append_cf1ce_16 ?_
  refine lv_iload_n hx hb dJ5_append_cf1ce_19 rfl (lv_at hl 0 rfl) ?_
  refine sj_iadd (v := nI (n + sw_len.getD k 0)) hx hb dJ5_append_cf1ce_20 (nI_add _ _) ?_
  refine sw_cv (sj_runX (n := 1) (As := [.int (nI (n + sw_len.getD k 0))]) (rest := []) Cx hP hD hS ml_J5_100 sm_J5_ensureCapacityInternal_d00df im_J5_ensureCapacityInternal_d00df co_J5_ensureCapacityInternal_d00df (sj_sel htU (hY.2.2.2 _ pm_J5_ensureCapacityInternal_d00df rfl) sm_J5_ensureCapacityInternal_d00df im_J5_ensureCapacityInternal_d00df) im_J5_ensureCapacityInternal_d00df ini_J5 co_J5_ensureCapacityInternal_d00df (by decide +kernel) (c_sj_ensure l G ca Z b v n m (n + sw_len.getD k 0) t H.size hA0 (by omega) hm hm2 (by omega) (by omega)) rfl [0, 1] rfl rfl rfl rfl ⟨(Nat.le_of_ble_eq_true rfl), (Nat.le_of_ble_eq_true rfl)⟩ hl.1 rfl rfl (Nat.le_of_ble_eq_true rfl) dJ5_append_cf1ce_21 ⟨(Nat.le_of_ble_eq_true rfl), (Nat.le_of_ble_eq_true rfl)⟩) hP hD hS hA [0, 1] [] [0, 1] rfl rfl rfl (by decide) (fun _ => rfl) rfl (fun u H locs hw hP hD hS => ?_)
  obtain ⟨g1, g2, g3⟩ := hw
  have hP : va_P G vwCl [(b, .inr (8, [.ref (u.1), .int 0, .int 0, .int (nI n)])), (u.1, .inl (ca 1, u.2, .inl (sj_F t)))] H := hP
  have hD : va_D A [(b, .inr (8, [.ref (u.1), .int 0, .int 0, .int (nI n)])), (u.1, .inl (ca 1, u.2, .inl (sj_F t)))] := hD
  refine lv_aload_n hx hb dJ5_append_cf1ce_24 rfl (lv_at hl 1 rfl) ?_
  refine lv_aload_n hx hb dJ5_append_cf1ce_25 rfl (lv_at hl 1 rfl) ?_
  refine va_get (v := .int (nI n)) hx hb htU iU_J4 hown hK hP 0 rfl rfl 3 (by decide) (htU _ fl_J5_79) (fun _ h9 => h9) rfl dJ5_append_cf1ce_26 ?_
  refine lv_aload_n hx hb dJ5_append_cf1ce_29 rfl (lv_at hl 2 rfl) ?_
  refine sw_cv (sj_runX (n := 2) (As := [.int (nI n), .ref (Z (20 + k))]) (rest := []) Cx hP hD hS ml_J5_208 sm_J5_putStringAt_47b60 im_J5_putStringAt_47b60 co_J5_putStringAt_47b60 (sj_sel htU (hY.2.2.2 _ pm_J5_putStringAt_47b60 rfl) sm_J5_putStringAt_47b60 im_J5_putStringAt_47b60) im_J5_putStringAt_47b60 ini_J5 co_J5_putStringAt_47b60 (by decide +kernel) (c_sj_put l G ca Z b u.1 n u.2 k t H.size hk6 htn g1 g3) rfl [0, 1] rfl rfl rfl rfl ⟨(Nat.le_of_ble_eq_true rfl), (Nat.le_of_ble_eq_true rfl)⟩ hl.1 rfl rfl (Nat.le_of_ble_eq_true rfl) dJ5_append_cf1ce_30 ⟨(Nat.le_of_ble_eq_true rfl), (Nat.le_of_ble_eq_true rfl)⟩) hP hD hS hA [0, 1] [] [0, 1] rfl rfl rfl (by decide) (fun _ => rfl) rfl (fun _ H locs hw hP hD hS => ?_)
  have hP : va_P G vwCl [(b, .inr (8, [.ref (u.1), .int 0, .int 0, .int (nI n)])), (u.1, .inl (ca 1, u.2, .inl (sj_F (t ++ sw_byt.getD k []))))] H := hP
  have hD : va_D A [(b, .inr (8, [.ref (u.1), .int 0, .int 0, .int (nI n)])), (u.1, .inl (ca 1, u.2, .inl (sj_F (t ++ sw_byt.getD k []))))] := hD
  refine lv_aload_n hx hb dJ5_append_cf1ce_33 rfl (lv_at hl 1 rfl) ?_
  refine lv_dup hx hb dJ5_append_cf1ce_34 rfl ?_
  refine va_get (v := .int (nI n)) hx hb htU iU_J4 hown hK hP 0 rfl rfl 3 (by decide) (htU _ fl_J5_79) (fun _ h9 => h9) rfl dJ5_append_cf1ce_35 ?_
  refine lv_iload_n hx hb dJ5_append_cf1ce_38 rfl (lv_at hl 0 rfl) ?_
  refine sj_iadd (v := nI (n + sw_len.getD k 0)) hx hb dJ5_append_cf1ce_39 (nI_add _ _) ?_
  refine va_put (v := .int (nI (n + sw_len.getD k 0))) (ty := .int) hx hb htU iU_J4 tyJ4 tyJ4_ok nmJ4 hown hK hP hD hS 0 rfl rfl 3 (by decide) (htU _ fl_J5_79) (fun _ h9 => h9) rfl (by decide +kernel) rfl rfl (Nat.le_of_ble_eq_true rfl) dJ5_append_cf1ce_40 (fun H locs hP hD hS => ?_)
  have hP : va_P G vwCl [(b, .inr (8, [.ref (u.1), .int 0, .int 0, .int (nI (n + sw_len.getD k 0))])), (u.1, .inl (ca 1, u.2, .inl (sj_F (t ++ sw_byt.getD k []))))] H := hP
  have hD : va_D A [(b, .inr (8, [.ref (u.1), .int 0, .int 0, .int (nI (n + sw_len.getD k 0))])), (u.1, .inl (ca 1, u.2, .inl (sj_F (t ++ sw_byt.getD k []))))] := hD
  refine lv_aload_n hx hb dJ5_append_cf1ce_43 rfl (lv_at hl 1 rfl) ?_
  exact sw_rr hx hb hr hlocks hS u ⟨g1, g2, g3⟩ hP hD dJ5_append_cf1ce_44
abbrev RM_sj_AppC : Room := ({ frames := 5, cells := 1, slots := 1024, locals := 131 } : Room)
set_option maxHeartbeats 4000000 in
set_option maxRecDepth 100000 in
theorem c_sj_AppC (l : Launch) (G : va_G) (ca Z : Nat → Nat) (b v n m : Nat) (t : List Int32) (x : Int32) (sz : Nat) (hA0 : sj_A t) (htn : t.length = n) (hnm : n ≤ m) (hm : 22 ≤ m) (hm2 : m ≤ 240) (hx0 : 0 ≤ x.toInt ∧ x.toInt < 128) (hn : n + 1 ≤ 119) : Met l yJ4_append_cf468 (.code yJ4_append_cf468 cJ4_append_cf468 2 (Option.some (Jvm.ClassFile.FieldType.object "java/lang/StringBuilder")) :: sw_U) RM_sj_AppC (va_Pc [.ref b, .int x] (sw_Pre G ca Z [(b, .inr (8, [.ref v, .int 0, .int 0, .int (nI n)])), (v, .inl (ca 1, m, .inl (sj_F t)))] sz)) ((fun A => va_Qr (fun (u : Nat × Nat) => n + 1 ≤ u.2 ∧ 22 ≤ u.2 ∧ u.2 ≤ 240) (fun (u : Nat × Nat) q9 t9 => q9 = b ∧ sw_Post G A (fun (u : Nat × Nat) => [(b, .inr (8, [.ref (u.1), .int 0, .int 0, .int (nI (n + 1))])), (u.1, .inl (ca 1, u.2, .inl (sj_F (t ++ [x]))))]) u t9) A) (va_A [(b, .inr (8, [.ref v, .int 0, .int 0, .int (nI n)])), (v, .inl (ca 1, m, .inl (sj_F t)))] sz)) 1 1024 (va_A [(b, .inr (8, [.ref v, .int 0, .int 0, .int (nI n)])), (v, .inl (ca 1, m, .inl (sj_F t)))] sz) := by
  refine sw_ofW (Qc := fun A => va_Qr (fun (u : Nat × Nat) => n + 1 ≤ u.2 ∧ 22 ≤ u.2 ∧ u.2 ≤ 240) (fun (u : Nat × Nat) q9 t9 => q9 = b ∧ sw_Post G A (fun (u : Nat × Nat) => [(b, .inr (8, [.ref (u.1), .int 0, .int 0, .int (nI (n + 1))])), (u.1, .inl (ca 1, u.2, .inl (sj_F (t ++ [x]))))]) u t9) A) (by decide +kernel) [(0, .ref b), (1, .int x)] rfl (Nat.le_of_ble_eq_true rfl) ?_
  intro p e s m9 args below meth c ls A hx hb hr hml hown htU hlocks hin hP hK hD hX hY hS hA hl
  have hown : s.vm.findClass RJ4 = some m9.cls := hown
  have Cx : sw_Cx p s m9 args c cJ4_append_cf468 2 RJ4 G ca Z A := ⟨⟨hx, hb, hml, hown, htU⟩, hK, hX, hY, hA⟩
  have hP : va_P G vwCl [(b, .inr (8, [.ref v, .int 0, .int 0, .int (nI n)])), (v, .inl (ca 1, m, .inl (sj_F t)))] s.heap := hP
  have hD : va_D A [(b, .inr (8, [.ref v, .int 0, .int 0, .int (nI n)])), (v, .inl (ca 1, m, .inl (sj_F t)))] := hD
  refine lv_aload_n hx hb dJ4_append_cf468_0 rfl (lv_at hl 0 rfl) ?_
  refine lv_iload_n hx hb dJ4_append_cf468_1 rfl (lv_at hl 1 rfl) ?_
  refine sw_cr (sj_runU (n := 1) (As := [.int x]) (rest := []) Cx hP hD hS ml_J4_50 sm_J5_append_3fe6f sup_J4 im_J5_append_3fe6f ini_J5 co_J5_append_3fe6f (by decide +kernel) (c_sj_appC l G ca Z b v n m t x s.heap.size hA0 htn hnm hm hm2 hx0 hn) rfl [0, 1] rfl rfl rfl rfl ⟨(Nat.le_of_ble_eq_true rfl), (Nat.le_of_ble_eq_true rfl)⟩ hl.1 rfl rfl (Nat.le_of_ble_eq_true rfl) dJ4_append_cf468_2 ⟨(Nat.le_of_ble_eq_true rfl), (Nat.le_of_ble_eq_true rfl)⟩) hP hD hS hA [0, 1] [] [0, 1] rfl rfl rfl (by decide) (fun _ => rfl) rfl (fun u H locs hw hP hD hS => ?_)
  have hP : va_P G vwCl [(b, .inr (8, [.ref (u.1), .int 0, .int 0, .int (nI (n + 1))])), (u.1, .inl (ca 1, u.2, .inl (sj_F (t ++ [x]))))] H := hP
  have hD : va_D A [(b, .inr (8, [.ref (u.1), .int 0, .int 0, .int (nI (n + 1))])), (u.1, .inl (ca 1, u.2, .inl (sj_F (t ++ [x]))))] := hD
  refine lv_pop hx hb dJ4_append_cf468_5 rfl ?_
  refine lv_aload_n hx hb dJ4_append_cf468_6 rfl (lv_at hl 0 rfl) ?_
  exact sw_rr hx hb hr hlocks hS u hw hP hD dJ4_append_cf468_7
abbrev RM_sj_AppS : Room := ({ frames := 5, cells := 1, slots := 1024, locals := 132 } : Room)
set_option maxHeartbeats 4000000 in
set_option maxRecDepth 100000 in
theorem c_sj_AppS (l : Launch) (G : va_G) (ca Z : Nat → Nat) (b v n m : Nat) (t : List Int32) (k : Nat) (sz : Nat) (hA0 : sj_A t) (htn : t.length = n) (hnm : n ≤ m) (hm : 22 ≤ m) (hm2 : m ≤ 240) (hk6 : k < 6) (hn : n + sw_len.getD k 0 ≤ 119) : Met l yJ4_append_15ec4 (.code yJ4_append_15ec4 cJ4_append_15ec4 2 (Option.some (Jvm.ClassFile.FieldType.object "java/lang/StringBuilder")) :: sw_U) RM_sj_AppS (va_Pc [.ref b, .ref (Z (20 + k))] (sw_Pre G ca Z [(b, .inr (8, [.ref v, .int 0, .int 0, .int (nI n)])), (v, .inl (ca 1, m, .inl (sj_F t)))] sz)) ((fun A => va_Qr (fun (u : Nat × Nat) => n + sw_len.getD k 0 ≤ u.2 ∧ 22 ≤ u.2 ∧ u.2 ≤ 240) (fun (u : Nat × Nat) q9 t9 => q9 = b ∧ sw_Post G A (fun (u : Nat × Nat) => [(b, .inr (8, [.ref (u.1), .int 0, .int 0, .int (nI (n + sw_len.getD k 0))])), (u.1, .inl (ca 1, u.2, .inl (sj_F (t ++ sw_byt.getD k []))))]) u t9) A) (va_A [(b, .inr (8, [.ref v, .int 0, .int 0, .int (nI n)])), (v, .inl (ca 1, m, .inl (sj_F t)))] sz)) 1 1024 (va_A [(b, .inr (8, [.ref v, .int 0, .int 0, .int (nI n)])), (v, .inl (ca 1, m, .inl (sj_F t)))] sz) := by
  refine sw_ofW (Qc := fun A => va_Qr (fun (u : Nat × Nat) => n + sw_len.getD k 0 ≤ u.2 ∧ 22 ≤ u.2 ∧ u.2 ≤ 240) (fun (u : Nat × Nat) q9 t9 => q9 = b ∧ sw_Post G A (fun (u : Nat × Nat) => [(b, .inr (8, [.ref (u.1), .int 0, .int 0, .int (nI (n + sw_len.getD k 0))])), (u.1, .inl (ca 1, u.2, .inl (sj_F (t ++ sw_byt.getD k []))))]) u t9) A) (by decide +kernel) [(0, .ref b), (1, .ref (Z (20 + k)))] rfl (Nat.le_of_ble_eq_true rfl) ?_
  intro p e s m9 args below meth c ls A hx hb hr hml hown htU hlocks hin hP hK hD hX hY hS hA hl
  have hown : s.vm.findClass RJ4 = some m9.cls := hown
  have Cx : sw_Cx p s m9 args c cJ4_append_15ec4 2 RJ4 G ca Z A := ⟨⟨hx, hb, hml, hown, htU⟩, hK, hX, hY, hA⟩
  have hP : va_P G vwCl [(b, .inr (8, [.ref v, .int 0, .int 0, .int (nI n)])), (v, .inl (ca 1, m, .inl (sj_F t)))] s.heap := hP
  have hD : va_D A [(b, .inr (8, [.ref v, .int 0, .int 0, .int (nI n)])), (v, .inl (ca 1, m, .inl (sj_F t)))] := hD
  refine lv_aload_n hx hb dJ4_append_15ec4_0 rfl (lv_at hl 0 rfl) ?_
  refine lv_aload_n hx hb dJ4_append_15ec4_1 rfl (lv_at hl 1 rfl) ?_
  refine sw_cr (sj_runU (n := 1) (As := [.ref (Z (20 + k))]) (rest := []) Cx hP hD hS ml_J4_29 sm_J5_append_cf1ce sup_J4 im_J5_append_cf1ce ini_J5 co_J5_append_cf1ce (by decide +kernel) (c_sj_appS l G ca Z b v n m t k s.heap.size hA0 htn hnm hm hm2 hk6 hn) rfl [0, 1] rfl rfl rfl rfl ⟨(Nat.le_of_ble_eq_true rfl), (Nat.le_of_ble_eq_true rfl)⟩ hl.1 rfl rfl (Nat.le_of_ble_eq_true rfl) dJ4_append_15ec4_2 ⟨(Nat.le_of_ble_eq_true rfl), (Nat.le_of_ble_eq_true rfl)⟩) hP hD hS hA [0, 1] [] [0, 1] rfl rfl rfl (by decide) (fun _ => rfl) rfl (fun u H locs hw hP hD hS => ?_)
  have hP : va_P G vwCl [(b, .inr (8, [.ref (u.1), .int 0, .int 0, .int (nI (n + sw_len.getD k 0))])), (u.1, .inl (ca 1, u.2, .inl (sj_F (t ++ sw_byt.getD k []))))] H := hP
  have hD : va_D A [(b, .inr (8, [.ref (u.1), .int 0, .int 0, .int (nI (n + sw_len.getD k 0))])), (u.1, .inl (ca 1, u.2, .inl (sj_F (t ++ sw_byt.getD k []))))] := hD
  refine lv_pop hx hb dJ4_append_15ec4_5 rfl ?_
  refine lv_aload_n hx hb dJ4_append_15ec4_6 rfl (lv_at hl 0 rfl) ?_
  exact sw_rr hx hb hr hlocks hS u hw hP hD dJ4_append_15ec4_7
abbrev RM_sj_AppB : Room := ({ frames := 6, cells := 1, slots := 1024, locals := 153 } : Room)
set_option maxHeartbeats 4000000 in
set_option maxRecDepth 100000 in
theorem c_sj_AppB (l : Launch) (G : va_G) (ca Z : Nat → Nat) (b v n m : Nat) (t : List Int32) (k : Nat) (sz : Nat) (hA0 : sj_A t) (htn : t.length = n) (hnm : n ≤ m) (hm : 22 ≤ m) (hm2 : m ≤ 240) (hk6 : k < 6) (hn : n + sw_len.getD k 0 ≤ 119) : Met l yJ4_append_cf1ce (.code yJ4_append_cf1ce cJ4_append_cf1ce 2 (Option.some (Jvm.ClassFile.FieldType.object "java/lang/AbstractStringBuilder")) :: sw_U) RM_sj_AppB (va_Pc [.ref b, .ref (Z (20 + k))] (sw_Pre G ca Z [(b, .inr (8, [.ref v, .int 0, .int 0, .int (nI n)])), (v, .inl (ca 1, m, .inl (sj_F t)))] sz)) ((fun A => va_Qr (fun (u : Nat × Nat) => n + sw_len.getD k 0 ≤ u.2 ∧ 22 ≤ u.2 ∧ u.2 ≤ 240) (fun (u : Nat × Nat) q9 t9 => q9 = b ∧ sw_Post G A (fun (u : Nat × Nat) => [(b, .inr (8, [.ref (u.1), .int 0, .int 0, .int (nI (n + sw_len.getD k 0))])), (u.1, .inl (ca 1, u.2, .inl (sj_F (t ++ sw_byt.getD k []))))]) u t9) A) (va_A [(b, .inr (8, [.ref v, .int 0, .int 0, .int (nI n)])), (v, .inl (ca 1, m, .inl (sj_F t)))] sz)) 1 1024 (va_A [(b, .inr (8, [.ref v, .int 0, .int 0, .int (nI n)])), (v, .inl (ca 1, m, .inl (sj_F t)))] sz) := by
  refine sw_ofW (Qc := fun A => va_Qr (fun (u : Nat × Nat) => n + sw_len.getD k 0 ≤ u.2 ∧ 22 ≤ u.2 ∧ u.2 ≤ 240) (fun (u : Nat × Nat) q9 t9 => q9 = b ∧ sw_Post G A (fun (u : Nat × Nat) => [(b, .inr (8, [.ref (u.1), .int 0, .int 0, .int (nI (n + sw_len.getD k 0))])), (u.1, .inl (ca 1, u.2, .inl (sj_F (t ++ sw_byt.getD k []))))]) u t9) A) (by decide +kernel) [(0, .ref b), (1, .ref (Z (20 + k)))] rfl (Nat.le_of_ble_eq_true rfl) ?_
  intro p e s m9 args below meth c ls A hx hb hr hml hown htU hlocks hin hP hK hD hX hY hS hA hl
  have hown : s.vm.findClass RJ4 = some m9.cls := hown
  have Cx : sw_Cx p s m9 args c cJ4_append_cf1ce 2 RJ4 G ca Z A := ⟨⟨hx, hb, hml, hown, htU⟩, hK, hX, hY, hA⟩
  have hP : va_P G vwCl [(b, .inr (8, [.ref v, .int 0, .int 0, .int (nI n)])), (v, .inl (ca 1, m, .inl (sj_F t)))] s.heap := hP
  have hD : va_D A [(b, .inr (8, [.ref v, .int 0, .int 0, .int (nI n)])), (v, .inl (ca 1, m, .inl (sj_F t)))] := hD
  refine lv_aload_n hx hb dJ4_append_cf1ce_0 rfl (lv_at hl 0 rfl) ?_
  refine lv_aload_n hx hb dJ4_append_cf1ce_1 rfl (lv_at hl 1 rfl) ?_
  refine sw_cr (sw_runV (As := [.ref (Z (20 + k))]) (rest := []) Cx hP hD hS mv_J4_append_15ec4 ml_J4_23 (c_sj_AppS l G ca Z b v n m t k s.heap.size hA0 htn hnm hm hm2 hk6 hn) 8 rfl rfl rfl [0, 1] rfl rfl rfl rfl ⟨(Nat.le_of_ble_eq_true rfl), (Nat.le_of_ble_eq_true rfl)⟩ hl.1 rfl rfl (Nat.le_of_ble_eq_true rfl) dJ4_append_cf1ce_2 ⟨(Nat.le_of_ble_eq_true rfl), (Nat.le_of_ble_eq_true rfl)⟩) hP hD hS hA [0, 1] [] [0, 1] rfl rfl rfl (by decide) (fun _ => rfl) rfl (fun u H locs hw hP hD hS => ?_)
  have hP : va_P G vwCl [(b, .inr (8, [.ref (u.1), .int 0, .int 0, .int (nI (n + sw_len.getD k 0))])), (u.1, .inl (ca 1, u.2, .inl (sj_F (t ++ sw_byt.getD k []))))] H := hP
  have hD : va_D A [(b, .inr (8, [.ref (u.1), .int 0, .int 0, .int (nI (n + sw_len.getD k 0))])), (u.1, .inl (ca 1, u.2, .inl (sj_F (t ++ sw_byt.getD k []))))] := hD
  exact sw_rr hx hb hr hlocks hS u hw hP hD dJ4_append_cf1ce_5
def sj_dn (v : Nat) : Nat := if v < 10 then 1 else 2
def sj_dg (v : Nat) : List Int32 := if v < 10 then [nI (48 + v)] else [nI (48 + v / 10), nI (48 + v % 10)]
theorem sj_dgl (v : Nat) : (sj_dg v).length = sj_dn v := by
  unfold sj_dg sj_dn
  split <;> rfl
theorem sj_dn2 (v : Nat) : sj_dn v ≤ 2 := by
  unfold sj_dn
  split <;> omega
theorem sj_negI {v : Nat} (h : v < 2 ^ 30) : (-(nI v)).toInt = -(v : Int) := by
  rw [Int32.toInt_neg, nI_toInt (by omega)]
  exact Int.bmod_eq_of_le (by omega) (by omega)
theorem sj_dgA {v : Nat} (h : v < 100) : sj_A (sj_dg v) := by
  have hx : ∀ w : Nat, w < 10 → 0 ≤ (nI (48 + w)).toInt ∧ (nI (48 + w)).toInt < 128 := fun w hw => by
    rw [nI_toInt (by omega)]
    omega
  unfold sj_dg
  intro x hm
  split at hm
  · rw [List.mem_singleton.mp hm]
    exact hx v (by omega)
  · rcases List.mem_cons.mp hm with h1 | h1
    · rw [h1]
      exact hx _ (by omega)
    · rw [List.mem_singleton.mp h1]
      exact hx _ (by omega)
theorem sj_m10 {v : Nat} (h : v < 100) : (-(nI v) ≤ (-10 : Int32)) ↔ 10 ≤ v := by
  rw [Int32.le_iff_toInt_le, sj_negI (by omega), show (-10 : Int32).toInt = -10 from by decide]
  omega
theorem sj_m100 {v : Nat} (h : v < 100) : ¬ -(nI v) ≤ (-100 : Int32) := by
  rw [Int32.le_iff_toInt_le, sj_negI (by omega), show (-100 : Int32).toInt = -100 from by decide]
  omega
theorem sj_m9 {v : Nat} (h : v < 100) : ((-9 : Int32) ≤ -(nI v)) ↔ v < 10 := by
  rw [Int32.le_iff_toInt_le, sj_negI (by omega), show (-9 : Int32).toInt = -9 from by decide]
  omega
theorem sj_nn {v : Nat} : -(-(nI v)) = nI v := Int32.neg_neg
abbrev RM_sj_size : Room := ({ frames := 0, cells := 0, slots := 0, locals := 0 } : Room)
set_option maxHeartbeats 4000000 in
set_option maxRecDepth 100000 in
theorem c_sj_size (l : Launch) (G : va_G) (ca Z : Nat → Nat) (v : Nat) (sz : Nat) (hv : v < 100) : Met l yJ6_stringSize_0f7a4 (.code yJ6_stringSize_0f7a4 cJ6_stringSize_0f7a4 4 (Option.some Jvm.ClassFile.FieldType.int) :: sw_U) RM_sj_size (va_Pc [.int (nI v)] (sw_Pre G ca Z [] sz)) ((fun A => va_Qi (fun r (u : Unit) => nI (sj_dn v) = r) (sw_Post G A (fun (u : Unit) => [])) A) (va_A [] sz)) 0 0 (va_A [] sz) := by
  refine sw_ofW (Qc := fun A => va_Qi (fun r (u : Unit) => nI (sj_dn v) = r) (sw_Post G A (fun (u : Unit) => [])) A) (by decide +kernel) [(0, .int (nI v))] rfl (Nat.le_of_ble_eq_true rfl) ?_
  intro p e s m9 args below meth c ls A hx hb hr hml hown htU hlocks hin hP hK hD hX hY hS hA hl
  have hown : s.vm.findClass RJ6 = some m9.cls := hown
  have Cx : sw_Cx p s m9 args c cJ6_stringSize_0f7a4 4 RJ6 G ca Z A := ⟨⟨hx, hb, hml, hown, htU⟩, hK, hX, hY, hA⟩
  have hP : va_P G vwCl [] s.heap := hP
  have hD : va_D A [] := hD
  refine lv_iconst (v := 1) hx hb dJ6_stringSize_0f7a4_0 (by decide) ?_
  refine lv_istore_n (lv' := [(1, .int 1), (0, .int (nI v))]) hx hb dJ6_stringSize_0f7a4_1 rfl hl (by decide) rfl (fun ls hl => ?_)
  refine lv_iload_n hx hb dJ6_stringSize_0f7a4_2 rfl (lv_at hl 1 rfl) ?_
  refine lv_if_lt (tgt := 11) hx hb dJ6_stringSize_0f7a4_3 (by decide) (fun c9 => absurd c9 (nI_pos (by omega))) (fun _ => ?_)
  refine lv_iconst (v := 0) hx hb dJ6_stringSize_0f7a4_6 (by decide) ?_
  refine lv_istore_n (lv' := [(1, .int 0), (0, .int (nI v))]) hx hb dJ6_stringSize_0f7a4_7 rfl hl (by decide) rfl (fun ls hl => ?_)
  refine lv_iload_n hx hb dJ6_stringSize_0f7a4_8 rfl (lv_at hl 1 rfl) ?_
  refine sj_ineg (v := -(nI v)) hx hb dJ6_stringSize_0f7a4_9 (rfl) ?_
  refine lv_istore_n (lv' := [(0, .int (-(nI v))), (1, .int 0)]) hx hb dJ6_stringSize_0f7a4_10 rfl hl (by decide) rfl (fun ls hl => ?_)
  refine lv_bipush (v := -10) hx hb dJ6_stringSize_0f7a4_11 (by decide) ?_
  refine lv_istore_n (lv' := [(2, .int (-10)), (0, .int (-(nI v))), (1, .int 0)]) hx hb dJ6_stringSize_0f7a4_13 rfl hl (by decide) rfl (fun ls hl => ?_)
  refine lv_iconst (v := 1) hx hb dJ6_stringSize_0f7a4_14 (by decide) ?_
  refine lv_istore_n (lv' := [(3, .int 1), (2, .int (-10)), (0, .int (-(nI v))), (1, .int 0)]) hx hb dJ6_stringSize_0f7a4_15 rfl hl (by decide) rfl (fun ls hl => ?_)
  refine lv_iload_n hx hb dJ6_stringSize_0f7a4_16 rfl (lv_at hl 0 rfl) ?_
  refine lv_bipush (v := 10) hx hb dJ6_stringSize_0f7a4_17 (by decide) ?_
  refine lv_icmp_ge (tgt := 42) hx hb dJ6_stringSize_0f7a4_19 (by decide) (fun c9 => absurd c9 (by decide)) (fun _ => ?_)
  refine lv_iload_n hx hb dJ6_stringSize_0f7a4_22 rfl (lv_at hl 2 rfl) ?_
  refine lv_iload_n hx hb dJ6_stringSize_0f7a4_23 rfl (lv_at hl 1 rfl) ?_
  refine lv_icmp_le (tgt := 31) hx hb dJ6_stringSize_0f7a4_24 (by decide) (fun c24 => ?_) (fun c24 => ?_)
  · have h10 : 10 ≤ v := (sj_m10 hv).mp c24
    refine lv_bipush (v := 10) hx hb dJ6_stringSize_0f7a4_31 (by decide) ?_
    refine lv_iload_n hx hb dJ6_stringSize_0f7a4_33 rfl (lv_at hl 1 rfl) ?_
    refine sj_imul (v := -100) hx hb dJ6_stringSize_0f7a4_34 (by decide) ?_
    refine lv_istore_n (lv' := [(2, .int (-100)), (3, .int 1), (0, .int (-(nI v))), (1, .int 0)]) hx hb dJ6_stringSize_0f7a4_35 rfl hl (by decide) rfl (fun ls hl => ?_)
    refine lv_iinc (v := 2) (lv' := [(3, .int (2)), (2, .int (-100)), (0, .int (-(nI v))), (1, .int 0)]) hx hb dJ6_stringSize_0f7a4_36 hl (k := 1) rfl (by decide) (by decide) rfl (fun ls hl => ?_)
    refine lv_goto (tgt := 16) hx hb dJ6_stringSize_0f7a4_39 (by decide) ?_
    refine lv_iload_n hx hb dJ6_stringSize_0f7a4_16 rfl (lv_at hl 0 rfl) ?_
    refine lv_bipush (v := 10) hx hb dJ6_stringSize_0f7a4_17 (by decide) ?_
    refine lv_icmp_ge (tgt := 42) hx hb dJ6_stringSize_0f7a4_19 (by decide) (fun c9 => absurd c9 (by decide)) (fun _ => ?_)
    refine lv_iload_n hx hb dJ6_stringSize_0f7a4_22 rfl (lv_at hl 2 rfl) ?_
    refine lv_iload_n hx hb dJ6_stringSize_0f7a4_23 rfl (lv_at hl 1 rfl) ?_
    refine lv_icmp_le (tgt := 31) hx hb dJ6_stringSize_0f7a4_24 (by decide) (fun c9 => absurd c9 (sj_m100 hv)) (fun _ => ?_)
    refine lv_iload_n hx hb dJ6_stringSize_0f7a4_27 rfl (lv_at hl 0 rfl) ?_
    refine lv_iload_n hx hb dJ6_stringSize_0f7a4_28 rfl (lv_at hl 3 rfl) ?_
    refine sj_iadd (v := 2) hx hb dJ6_stringSize_0f7a4_29 (by decide) ?_
    exact sw_ri hx hb hr hlocks hS () ((congrArg nI (if_neg (by omega) : sj_dn v = 2)).trans rfl) hP hD dJ6_stringSize_0f7a4_30
  · have h10 : v < 10 := Nat.lt_of_not_le fun q => c24 ((sj_m10 hv).mpr q)
    refine lv_iload_n hx hb dJ6_stringSize_0f7a4_27 rfl (lv_at hl 0 rfl) ?_
    refine lv_iload_n hx hb dJ6_stringSize_0f7a4_28 rfl (lv_at hl 3 rfl) ?_
    refine sj_iadd (v := 1) hx hb dJ6_stringSize_0f7a4_29 (by decide) ?_
    exact sw_ri hx hb hr hlocks hS () ((congrArg nI (if_pos h10 : sj_dn v = 1)).trans rfl) hP hD dJ6_stringSize_0f7a4_30
theorem sj_dd {v : Nat} (h : v < 100) : sw_do v = nI (48 + v % 10) ∧ sw_dt v = nI (48 + v / 10) := ⟨rfl, rfl⟩
theorem sj_c1 {t : List Int32} {n v : Nat} (h : t.length = n) (hv : v < 10) : upd (sj_F t) n (nI (48 + v % 10)) = sj_F (t ++ sj_dg v) := by
  rw [sj_up h]
  unfold sj_dg
  rw [if_pos hv, Nat.mod_eq_of_lt hv]
theorem sj_c2 {t : List Int32} {n v : Nat} (h : t.length = n) (hv : 10 ≤ v) : upd (upd (sj_F t) (n + 1) (nI (48 + v % 10))) n (nI (48 + v / 10)) = sj_F (t ++ sj_dg v) := by
  have e : sj_F (t ++ sj_dg v) = upd (upd (sj_F t) n (nI (48 + v / 10))) (n + 1) (nI (48 + v % 10)) := by
    rw [sj_up h, sj_up (show (t ++ [nI (48 + v / 10)]).length = n + 1 by simp [h])]
    unfold sj_dg
    rw [if_neg (by omega)]
    simp
  rw [e]
  funext j
  unfold upd
  by_cases c : j = n
  · subst c
    rw [if_pos rfl, if_neg (by omega), if_pos rfl]
  · rw [if_neg c]
    by_cases d : j = n + 1
    · rw [if_pos d, if_pos d]
    · rw [if_neg d, if_neg d, if_neg c]
theorem sj_dn1 (v : Nat) : 1 ≤ sj_dn v := by
  unfold sj_dn
  split <;> omega
theorem sj_dec {a : Nat} (h : 1 ≤ a) : nI a + Int32.ofInt (-1) = nI (a - 1) := by
  have e : nI a = nI (a - 1) + 1 := by rw [nI_1]; congr 1; omega
  rw [e, Int32.add_assoc, show (1 : Int32) + Int32.ofInt (-1) = 0 from by decide, Int32.add_zero]
theorem sj_dgN {w : Nat} (h : w < 10) : 0 ≤ (nI (48 + w)).toInt ∧ (nI (48 + w)).toInt < 128 := by
  rw [nI_toInt (by omega)]
  omega
abbrev RM_sj_getChars : Room := ({ frames := 0, cells := 0, slots := 0, locals := 0 } : Room)
set_option maxHeartbeats 4000000 in
set_option maxRecDepth 100000 in
theorem c_sj_getChars (l : Launch) (G : va_G) (ca Z : Nat → Nat) (v a n m : Nat) (t : List Int32) (sz : Nat) (hv : v < 100) (htn : t.length = n) (hnm : n + sj_dn v ≤ m) (hm2 : m ≤ 240) : Met l yJ6_getChars_ba4f3 (.code yJ6_getChars_ba4f3 cJ6_getChars_ba4f3 7 (Option.some Jvm.ClassFile.FieldType.int) :: sw_U) RM_sj_getChars (va_Pc [.int (nI v), .int (nI (n + sj_dn v)), .ref a] (sw_Pre G ca Z [(a, .inl (ca 1, m, .inl (sj_F t)))] sz)) ((fun A => va_Qi (fun r (u : Unit) => True) (sw_Post G A (fun (u : Unit) => [(a, .inl (ca 1, m, .inl (sj_F (t ++ sj_dg v))))])) A) (va_A [(a, .inl (ca 1, m, .inl (sj_F t)))] sz)) 0 0 (va_A [(a, .inl (ca 1, m, .inl (sj_F t)))] sz) := by
  refine sw_ofW (Qc := fun A => va_Qi (fun r (u : Unit) => True) (sw_Post G A (fun (u : Unit) => [(a, .inl (ca 1, m, .inl (sj_F (t ++ sj_dg v))))])) A) (by decide +kernel) [(0, .int (nI v)), (1, .int (nI (n + sj_dn v))), (2, .ref a)] rfl (Nat.le_of_ble_eq_true rfl) ?_
  intro p e s m9 args below meth c ls A hx hb hr hml hown htU hlocks hin hP hK hD hX hY hS hA hl
  have hown : s.vm.findClass RJ6 = some m9.cls := hown
  have Cx : sw_Cx p s m9 args c cJ6_getChars_ba4f3 7 RJ6 G ca Z A := ⟨⟨hx, hb, hml, hown, htU⟩, hK, hX, hY, hA⟩
  have hP : va_P G vwCl [(a, .inl (ca 1, m, .inl (sj_F t)))] s.heap := hP
  have hD : va_D A [(a, .inl (ca 1, m, .inl (sj_F t)))] := hD
  refine lv_iload_n hx hb dJ6_getChars_ba4f3_0 rfl (lv_at hl 1 rfl) ?_
  refine lv_istore (lv' := [(5, .int (nI (n + sj_dn v))), (0, .int (nI v)), (1, .int (nI (n + sj_dn v))), (2, .ref a)]) hx hb dJ6_getChars_ba4f3_1 hl (by decide) rfl (fun ls hl => ?_)
  refine lv_iload_n hx hb dJ6_getChars_ba4f3_3 rfl (lv_at hl 1 rfl) ?_
  refine lv_if_ge (tgt := 11) hx hb dJ6_getChars_ba4f3_4 (by decide) (fun _ => ?_) (fun c9 => absurd (nI_pos' (by omega) : 0 ≤ nI v) c9)
  refine lv_iconst (v := 0) hx hb dJ6_getChars_ba4f3_11 (by decide) ?_
  refine lv_istore (lv' := [(6, .int 0), (5, .int (nI (n + sj_dn v))), (0, .int (nI v)), (1, .int (nI (n + sj_dn v))), (2, .ref a)]) hx hb dJ6_getChars_ba4f3_12 hl (by decide) rfl (fun ls hl => ?_)
  refine lv_iload hx hb dJ6_getChars_ba4f3_14 (lv_at hl 0 rfl) ?_
  refine lv_if_ne (tgt := 22) hx hb dJ6_getChars_ba4f3_16 (by decide) (fun c9 => absurd rfl c9) (fun _ => ?_)
  refine lv_iload_n hx hb dJ6_getChars_ba4f3_19 rfl (lv_at hl 2 rfl) ?_
  refine sj_ineg (v := -(nI v)) hx hb dJ6_getChars_ba4f3_20 (rfl) ?_
  refine lv_istore_n (lv' := [(0, .int (-(nI v))), (6, .int 0), (5, .int (nI (n + sj_dn v))), (1, .int (nI (n + sj_dn v))), (2, .ref a)]) hx hb dJ6_getChars_ba4f3_21 rfl hl (by decide) rfl (fun ls hl => ?_)
  refine lv_iload_n hx hb dJ6_getChars_ba4f3_22 rfl (lv_at hl 0 rfl) ?_
  refine lv_bipush (v := -100) hx hb dJ6_getChars_ba4f3_23 (by decide) ?_
  refine lv_icmp_gt (tgt := 72) hx hb dJ6_getChars_ba4f3_25 (by decide) (fun _ => ?_) (fun c9 => absurd (Int32.not_le.mp (sj_m100 hv)) c9)
  refine lv_aload_n hx hb dJ6_getChars_ba4f3_72 rfl (lv_at hl 4 rfl) ?_
  refine lv_iinc (v := nI (n + sj_dn v - 1)) (lv' := [(5, .int (nI (n + sj_dn v - 1))), (0, .int (-(nI v))), (6, .int 0), (1, .int (nI (n + sj_dn v))), (2, .ref a)]) hx hb dJ6_getChars_ba4f3_73 hl (k := 2) rfl (sj_dec (by have := sj_dn1 v; omega)) (by decide) rfl (fun ls hl => ?_)
  refine lv_iload hx hb dJ6_getChars_ba4f3_76 (lv_at hl 0 rfl) ?_
  refine va_gets (v := .ref (Z 4)) hx hb hX.2.2.2.2.2.1.1 hS hown (htU _ fl_J6_83) (fun _ h9 => h9) dJ6_getChars_ba4f3_78 ?_
  refine lv_iload_n hx hb dJ6_getChars_ba4f3_81 rfl (lv_at hl 1 rfl) ?_
  refine sj_ineg (v := nI v) hx hb dJ6_getChars_ba4f3_82 (sj_nn) ?_
  refine va_tb (v := .int (sw_do v)) hx hb hX.2.2.2.2.2.1.2 hS (nI_in (by omega) (by omega)) (by show Value.int (sw_do (nI v).toNatClampNeg) = _; rw [nI_clamp (by omega)]) dJ6_getChars_ba4f3_83 ?_
  refine va_bast hx hb hK hP hD hS 0 1 rfl rfl (nI_in (by have := sj_dn1 v; omega) (by omega)) dJ6_getChars_ba4f3_84 (fun H locs hP hD hS => ?_)
  rw [nI_clamp (by omega), (sj_dd hv).1, sj_nar (sj_dgN (by omega))] at hP hD
  have hP : va_P G vwCl [(a, .inl (ca 1, m, .inl (upd (sj_F t) (n + sj_dn v - 1) (nI (48 + v % 10)))))] H := hP
  have hD : va_D A [(a, .inl (ca 1, m, .inl (upd (sj_F t) (n + sj_dn v - 1) (nI (48 + v % 10)))))] := hD
  refine lv_iload_n hx hb dJ6_getChars_ba4f3_85 rfl (lv_at hl 1 rfl) ?_
  refine lv_bipush (v := -9) hx hb dJ6_getChars_ba4f3_86 (by decide) ?_
  refine lv_icmp_ge (tgt := 104) hx hb dJ6_getChars_ba4f3_88 (by decide) (fun c88 => ?_) (fun c88 => ?_)
  · have h10 : v < 10 := (sj_m9 hv).mp c88
    have e1 : n + sj_dn v - 1 = n := by unfold sj_dn; rw [if_pos h10]; rfl
    rw [e1, sj_c1 htn h10] at hP hD
    have hP : va_P G vwCl [(a, .inl (ca 1, m, .inl (sj_F (t ++ sj_dg v))))] H := hP
    have hD : va_D A [(a, .inl (ca 1, m, .inl (sj_F (t ++ sj_dg v))))] := hD
    refine lv_iload hx hb dJ6_getChars_ba4f3_104 (lv_at hl 2 rfl) ?_
    refine lv_if_eq (tgt := 118) hx hb dJ6_getChars_ba4f3_106 (by decide) (fun _ => ?_) (fun c9 => absurd (rfl : (0 : Int32) = 0) c9)
    refine lv_iload hx hb dJ6_getChars_ba4f3_118 (lv_at hl 0 rfl) ?_
    exact sw_ri hx hb hr hlocks hS () trivial hP hD dJ6_getChars_ba4f3_120
  · have h10 : 10 ≤ v := Nat.le_of_not_lt fun q => c88 ((sj_m9 hv).mpr q)
    have e1 : n + sj_dn v - 1 = n + 1 := by unfold sj_dn; rw [if_neg (by omega)]; rfl
    refine lv_aload_n hx hb dJ6_getChars_ba4f3_91 rfl (lv_at hl 4 rfl) ?_
    refine lv_iinc (v := nI n) (lv' := [(5, .int (nI n)), (0, .int (-(nI v))), (6, .int 0), (1, .int (nI (n + sj_dn v))), (2, .ref a)]) hx hb dJ6_getChars_ba4f3_92 hl (k := 0) rfl (by rw [e1]; exact sj_dec (by omega)) (by decide) rfl (fun ls hl => ?_)
    refine lv_iload hx hb dJ6_getChars_ba4f3_95 (lv_at hl 0 rfl) ?_
    refine va_gets (v := .ref (Z 3)) hx hb hX.2.2.2.1.1 hS hown (htU _ fl_J6_87) (fun _ h9 => h9) dJ6_getChars_ba4f3_97 ?_
    refine lv_iload_n hx hb dJ6_getChars_ba4f3_100 rfl (lv_at hl 1 rfl) ?_
    refine sj_ineg (v := nI v) hx hb dJ6_getChars_ba4f3_101 (sj_nn) ?_
    refine va_tb (v := .int (sw_dt v)) hx hb hX.2.2.2.1.2 hS (nI_in (by omega) (by omega)) (by show Value.int (sw_dt (nI v).toNatClampNeg) = _; rw [nI_clamp (by omega)]) dJ6_getChars_ba4f3_102 ?_
    refine va_bast hx hb hK hP hD hS 0 1 rfl rfl (nI_in (by omega) (by omega)) dJ6_getChars_ba4f3_103 (fun H locs hP hD hS => ?_)
    rw [nI_clamp (by omega), (sj_dd hv).2, sj_nar (sj_dgN (by omega)), e1, sj_c2 htn h10] at hP hD
    have hP : va_P G vwCl [(a, .inl (ca 1, m, .inl (sj_F (t ++ sj_dg v))))] H := hP
    have hD : va_D A [(a, .inl (ca 1, m, .inl (sj_F (t ++ sj_dg v))))] := hD
    refine lv_iload hx hb dJ6_getChars_ba4f3_104 (lv_at hl 2 rfl) ?_
    refine lv_if_eq (tgt := 118) hx hb dJ6_getChars_ba4f3_106 (by decide) (fun _ => ?_) (fun c9 => absurd (rfl : (0 : Int32) = 0) c9)
    refine lv_iload hx hb dJ6_getChars_ba4f3_118 (lv_at hl 0 rfl) ?_
    exact sw_ri hx hb hr hlocks hS () trivial hP hD dJ6_getChars_ba4f3_120
abbrev RM_sj_appI : Room := ({ frames := 4, cells := 1, slots := 1024, locals := 110 } : Room)
set_option maxHeartbeats 4000000 in
set_option maxRecDepth 100000 in
theorem c_sj_appI (l : Launch) (G : va_G) (ca Z : Nat → Nat) (b v n m : Nat) (t : List Int32) (x : Nat) (sz : Nat) (hA0 : sj_A t) (htn : t.length = n) (hnm : n ≤ m) (hm : 22 ≤ m) (hm2 : m ≤ 240) (hx0 : x < 100) (hn : n + sj_dn x ≤ 119) : Met l yJ5_append_c97b9 (.code yJ5_append_c97b9 cJ5_append_c97b9 4 (Option.some (Jvm.ClassFile.FieldType.object "java/lang/AbstractStringBuilder")) :: sw_U) RM_sj_appI (va_Pc [.ref b, .int (nI x)] (sw_Pre G ca Z [(b, .inr (8, [.ref v, .int 0, .int 0, .int (nI n)])), (v, .inl (ca 1, m, .inl (sj_F t)))] sz)) ((fun A => va_Qr (fun (u : Nat × Nat) => n + sj_dn x ≤ u.2 ∧ 22 ≤ u.2 ∧ u.2 ≤ 240) (fun (u : Nat × Nat) q9 t9 => q9 = b ∧ sw_Post G A (fun (u : Nat × Nat) => [(b, .inr (8, [.ref (u.1), .int 0, .int 0, .int (nI (n + sj_dn x))])), (u.1, .inl (ca 1, u.2, .inl (sj_F (t ++ sj_dg x))))]) u t9) A) (va_A [(b, .inr (8, [.ref v, .int 0, .int 0, .int (nI n)])), (v, .inl (ca 1, m, .inl (sj_F t)))] sz)) 1 1024 (va_A [(b, .inr (8, [.ref v, .int 0, .int 0, .int (nI n)])), (v, .inl (ca 1, m, .inl (sj_F t)))] sz) := by
  refine sw_ofW (Qc := fun A => va_Qr (fun (u : Nat × Nat) => n + sj_dn x ≤ u.2 ∧ 22 ≤ u.2 ∧ u.2 ≤ 240) (fun (u : Nat × Nat) q9 t9 => q9 = b ∧ sw_Post G A (fun (u : Nat × Nat) => [(b, .inr (8, [.ref (u.1), .int 0, .int 0, .int (nI (n + sj_dn x))])), (u.1, .inl (ca 1, u.2, .inl (sj_F (t ++ sj_dg x))))]) u t9) A) (by decide +kernel) [(0, .ref b), (1, .int (nI x))] rfl (Nat.le_of_ble_eq_true rfl) ?_
  intro p e s m9 args below meth c ls A hx hb hr hml hown htU hlocks hin hP hK hD hX hY hS hA hl
  have hown : s.vm.findClass RJ5 = some m9.cls := hown
  have Cx : sw_Cx p s m9 args c cJ5_append_c97b9 4 RJ5 G ca Z A := ⟨⟨hx, hb, hml, hown, htU⟩, hK, hX, hY, hA⟩
  have hP : va_P G vwCl [(b, .inr (8, [.ref v, .int 0, .int 0, .int (nI n)])), (v, .inl (ca 1, m, .inl (sj_F t)))] s.heap := hP
  have hD : va_D A [(b, .inr (8, [.ref v, .int 0, .int 0, .int (nI n)])), (v, .inl (ca 1, m, .inl (sj_F t)))] := hD
  have d2 := sj_dn2 x
  have d1 := sj_dgl x
  refine lv_aload_n hx hb dJ5_append_c97b9_0 rfl (lv_at hl 0 rfl) ?_
  refine va_get (v := .int (nI n)) hx hb htU iU_J4 hown hK hP 0 rfl rfl 3 (by decide) (htU _ fl_J5_79) (fun _ h9 => h9) rfl dJ5_append_c97b9_1 ?_
  refine lv_istore_n (lv' := [(2, .int (nI n)), (0, .ref b), (1, .int (nI x))]) hx hb dJ5_append_c97b9_4 rfl hl (by decide) rfl (fun ls hl => ?_)
  refine lv_iload_n hx hb dJ5_append_c97b9_5 rfl (lv_at hl 0 rfl) ?_
  refine lv_iload_n hx hb dJ5_append_c97b9_6 rfl (lv_at hl 2 rfl) ?_
  refine sw_ci (sw_runS (As := [.int (nI x)]) (rest := [.int (nI n)]) Cx hP hD hS ms_J6_stringSize_0f7a4 ml_J5_245 (c_sj_size l G ca Z x s.heap.size hx0) [] rfl rfl rfl rfl ⟨(Nat.le_of_ble_eq_true rfl), (Nat.le_of_ble_eq_true rfl)⟩ hl.1 rfl rfl (Nat.le_of_ble_eq_true rfl) dJ5_append_c97b9_7 ⟨(Nat.le_of_ble_eq_true rfl), (Nat.le_of_ble_eq_true rfl)⟩) hP hD hS hA [] [0, 1] [0, 1] rfl rfl rfl (by decide) (fun _ => rfl) rfl (fun r _ H locs hw hP hD hS => ?_)
  subst hw
  have hP : va_P G vwCl [(b, .inr (8, [.ref v, .int 0, .int 0, .int (nI n)])), (v, .inl (ca 1, m, .inl (sj_F t)))] H := hP
  have hD : va_D A [(b, .inr (8, [.ref v, .int 0, .int 0, .int (nI n)])), (v, .inl (ca 1, m, .inl (sj_F t)))] := hD
  refine sj_iadd (v := nI (n + sj_dn x)) hx hb dJ5_append_c97b9_10 (nI_add _ _) ?_
  refine lv_istore_n (lv' := [(3, .int (nI (n + sj_dn x))), (2, .int (nI n)), (0, .ref b), (1, .int (nI x))]) hx hb dJ5_append_c97b9_11 rfl hl (by decide) rfl (fun ls hl => ?_)
  refine lv_aload_n hx hb dJ5_append_c97b9_12 rfl (lv_at hl 2 rfl) ?_
  refine lv_iload_n hx hb dJ5_append_c97b9_13 rfl (lv_at hl 0 rfl) ?_
  refine sw_cv (sj_runX (n := 1) (As := [.int (nI (n + sj_dn x))]) (rest := []) Cx hP hD hS ml_J5_100 sm_J5_ensureCapacityInternal_d00df im_J5_ensureCapacityInternal_d00df co_J5_ensureCapacityInternal_d00df (sj_sel htU (hY.2.2.2 _ pm_J5_ensureCapacityInternal_d00df rfl) sm_J5_ensureCapacityInternal_d00df im_J5_ensureCapacityInternal_d00df) im_J5_ensureCapacityInternal_d00df ini_J5 co_J5_ensureCapacityInternal_d00df (by decide +kernel) (c_sj_ensure l G ca Z b v n m (n + sj_dn x) t H.size hA0 (by omega) hm hm2 (by omega) (by omega)) rfl [0, 1] rfl rfl rfl rfl ⟨(Nat.le_of_ble_eq_true rfl), (Nat.le_of_ble_eq_true rfl)⟩ hl.1 rfl rfl (Nat.le_of_ble_eq_true rfl) dJ5_append_c97b9_14 ⟨(Nat.le_of_ble_eq_true rfl), (Nat.le_of_ble_eq_true rfl)⟩) hP hD hS hA [0, 1] [] [0, 1] rfl rfl rfl (by decide) (fun _ => rfl) rfl (fun u H locs hw hP hD hS => ?_)
  obtain ⟨g1, g2, g3⟩ := hw
  have hP : va_P G vwCl [(b, .inr (8, [.ref (u.1), .int 0, .int 0, .int (nI n)])), (u.1, .inl (ca 1, u.2, .inl (sj_F t)))] H := hP
  have hD : va_D A [(b, .inr (8, [.ref (u.1), .int 0, .int 0, .int (nI n)])), (u.1, .inl (ca 1, u.2, .inl (sj_F t)))] := hD
  refine lv_aload_n hx hb dJ5_append_c97b9_17 rfl (lv_at hl 2 rfl) ?_
  refine sw_ci (sj_runX (n := 0) (As := []) (rest := []) Cx hP hD hS ml_J5_83 sm_J5_isLatin1_aae02 im_J5_isLatin1_aae02 co_J5_isLatin1_aae02 (fun h9 => h9 _ sx_J5_isLatin1_aae02) im_J5_isLatin1_aae02 ini_J5 co_J5_isLatin1_aae02 (by decide +kernel) (c_sj_isLatin1 l G ca Z b (.ref u.1) (.int (nI n)) H.size) rfl [0] rfl rfl rfl rfl ⟨(Nat.le_of_ble_eq_true rfl), (Nat.le_of_ble_eq_true rfl)⟩ hl.1 rfl rfl (Nat.le_of_ble_eq_true rfl) dJ5_append_c97b9_18 ⟨(Nat.le_of_ble_eq_true rfl), (Nat.le_of_ble_eq_true rfl)⟩) hP hD hS hA [0] [1] [1, 0] rfl rfl rfl (by decide) (fun _ => rfl) rfl (fun r _ H locs hw hP hD hS => ?_)
  subst hw
  have hP : va_P G vwCl [(b, .inr (8, [.ref (u.1), .int 0, .int 0, .int (nI n)])), (u.1, .inl (ca 1, u.2, .inl (sj_F t)))] H := hP
  have hD : va_D A [(b, .inr (8, [.ref (u.1), .int 0, .int 0, .int (nI n)])), (u.1, .inl (ca 1, u.2, .inl (sj_F t)))] := hD
  refine lv_if_eq (tgt := 37) hx hb dJ5_append_c97b9_21 (by decide) (fun c9 => absurd c9 (by decide)) (fun _ => ?_)
  refine lv_iload_n hx hb dJ5_append_c97b9_24 rfl (lv_at hl 3 rfl) ?_
  refine lv_iload_n hx hb dJ5_append_c97b9_25 rfl (lv_at hl 0 rfl) ?_
  refine lv_aload_n hx hb dJ5_append_c97b9_26 rfl (lv_at hl 2 rfl) ?_
  refine va_get (v := .ref (u.1)) hx hb htU iU_J4 hown hK hP 0 rfl rfl 0 (by decide) (htU _ fl_J5_15) (fun _ h9 => h9) rfl dJ5_append_c97b9_27 ?_
  refine sw_ci (sw_runS (As := [.int (nI x), .int (nI (n + sj_dn x)), .ref (u.1)]) (rest := []) Cx hP hD hS ms_J6_getChars_ba4f3 ml_J5_248 (c_sj_getChars l G ca Z x u.1 n u.2 t H.size hx0 htn g1 g3) [1] rfl rfl rfl rfl ⟨(Nat.le_of_ble_eq_true rfl), (Nat.le_of_ble_eq_true rfl)⟩ hl.1 rfl rfl (Nat.le_of_ble_eq_true rfl) dJ5_append_c97b9_30 ⟨(Nat.le_of_ble_eq_true rfl), (Nat.le_of_ble_eq_true rfl)⟩) hP hD hS hA [1] [0] [0, 1] rfl rfl rfl (by decide) (fun _ => rfl) rfl (fun r _ H locs hw hP hD hS => ?_)
  have hP : va_P G vwCl [(b, .inr (8, [.ref (u.1), .int 0, .int 0, .int (nI n)])), (u.1, .inl (ca 1, u.2, .inl (sj_F (t ++ sj_dg x))))] H := hP
  have hD : va_D A [(b, .inr (8, [.ref (u.1), .int 0, .int 0, .int (nI n)])), (u.1, .inl (ca 1, u.2, .inl (sj_F (t ++ sj_dg x))))] := hD
  refine lv_pop hx hb dJ5_append_c97b9_33 rfl ?_
  refine lv_goto (tgt := 48) hx hb dJ5_append_c97b9_34 (by decide) ?_
  refine lv_aload_n hx hb dJ5_append_c97b9_48 rfl (lv_at hl 2 rfl) ?_
  refine lv_iload_n hx hb dJ5_append_c97b9_49 rfl (lv_at hl 0 rfl) ?_
  refine va_put (v := .int (nI (n + sj_dn x))) (ty := .int) hx hb htU iU_J4 tyJ4 tyJ4_ok nmJ4 hown hK hP hD hS 0 rfl rfl 3 (by decide) (htU _ fl_J5_79) (fun _ h9 => h9) rfl (by decide +kernel) rfl rfl (Nat.le_of_ble_eq_true rfl) dJ5_append_c97b9_50 (fun H locs hP hD hS => ?_)
  have hP : va_P G vwCl [(b, .inr (8, [.ref (u.1), .int 0, .int 0, .int (nI (n + sj_dn x))])), (u.1, .inl (ca 1, u.2, .inl (sj_F (t ++ sj_dg x))))] H := hP
  have hD : va_D A [(b, .inr (8, [.ref (u.1), .int 0, .int 0, .int (nI (n + sj_dn x))])), (u.1, .inl (ca 1, u.2, .inl (sj_F (t ++ sj_dg x))))] := hD
  refine lv_aload_n hx hb dJ5_append_c97b9_53 rfl (lv_at hl 2 rfl) ?_
  exact sw_rr hx hb hr hlocks hS u ⟨g1, g2, g3⟩ hP hD dJ5_append_c97b9_54
abbrev RM_sj_AppI : Room := ({ frames := 5, cells := 1, slots := 1024, locals := 133 } : Room)
set_option maxHeartbeats 4000000 in
set_option maxRecDepth 100000 in
theorem c_sj_AppI (l : Launch) (G : va_G) (ca Z : Nat → Nat) (b v n m : Nat) (t : List Int32) (x : Nat) (sz : Nat) (hA0 : sj_A t) (htn : t.length = n) (hnm : n ≤ m) (hm : 22 ≤ m) (hm2 : m ≤ 240) (hx0 : x < 100) (hn : n + sj_dn x ≤ 119) : Met l yJ4_append_bf812 (.code yJ4_append_bf812 cJ4_append_bf812 2 (Option.some (Jvm.ClassFile.FieldType.object "java/lang/StringBuilder")) :: sw_U) RM_sj_AppI (va_Pc [.ref b, .int (nI x)] (sw_Pre G ca Z [(b, .inr (8, [.ref v, .int 0, .int 0, .int (nI n)])), (v, .inl (ca 1, m, .inl (sj_F t)))] sz)) ((fun A => va_Qr (fun (u : Nat × Nat) => n + sj_dn x ≤ u.2 ∧ 22 ≤ u.2 ∧ u.2 ≤ 240) (fun (u : Nat × Nat) q9 t9 => q9 = b ∧ sw_Post G A (fun (u : Nat × Nat) => [(b, .inr (8, [.ref (u.1), .int 0, .int 0, .int (nI (n + sj_dn x))])), (u.1, .inl (ca 1, u.2, .inl (sj_F (t ++ sj_dg x))))]) u t9) A) (va_A [(b, .inr (8, [.ref v, .int 0, .int 0, .int (nI n)])), (v, .inl (ca 1, m, .inl (sj_F t)))] sz)) 1 1024 (va_A [(b, .inr (8, [.ref v, .int 0, .int 0, .int (nI n)])), (v, .inl (ca 1, m, .inl (sj_F t)))] sz) := by
  refine sw_ofW (Qc := fun A => va_Qr (fun (u : Nat × Nat) => n + sj_dn x ≤ u.2 ∧ 22 ≤ u.2 ∧ u.2 ≤ 240) (fun (u : Nat × Nat) q9 t9 => q9 = b ∧ sw_Post G A (fun (u : Nat × Nat) => [(b, .inr (8, [.ref (u.1), .int 0, .int 0, .int (nI (n + sj_dn x))])), (u.1, .inl (ca 1, u.2, .inl (sj_F (t ++ sj_dg x))))]) u t9) A) (by decide +kernel) [(0, .ref b), (1, .int (nI x))] rfl (Nat.le_of_ble_eq_true rfl) ?_
  intro p e s m9 args below meth c ls A hx hb hr hml hown htU hlocks hin hP hK hD hX hY hS hA hl
  have hown : s.vm.findClass RJ4 = some m9.cls := hown
  have Cx : sw_Cx p s m9 args c cJ4_append_bf812 2 RJ4 G ca Z A := ⟨⟨hx, hb, hml, hown, htU⟩, hK, hX, hY, hA⟩
  have hP : va_P G vwCl [(b, .inr (8, [.ref v, .int 0, .int 0, .int (nI n)])), (v, .inl (ca 1, m, .inl (sj_F t)))] s.heap := hP
  have hD : va_D A [(b, .inr (8, [.ref v, .int 0, .int 0, .int (nI n)])), (v, .inl (ca 1, m, .inl (sj_F t)))] := hD
  refine lv_aload_n hx hb dJ4_append_bf812_0 rfl (lv_at hl 0 rfl) ?_
  refine lv_iload_n hx hb dJ4_append_bf812_1 rfl (lv_at hl 1 rfl) ?_
  refine sw_cr (sj_runU (n := 1) (As := [.int (nI x)]) (rest := []) Cx hP hD hS ml_J4_53 sm_J5_append_c97b9 sup_J4 im_J5_append_c97b9 ini_J5 co_J5_append_c97b9 (by decide +kernel) (c_sj_appI l G ca Z b v n m t x s.heap.size hA0 htn hnm hm hm2 hx0 hn) rfl [0, 1] rfl rfl rfl rfl ⟨(Nat.le_of_ble_eq_true rfl), (Nat.le_of_ble_eq_true rfl)⟩ hl.1 rfl rfl (Nat.le_of_ble_eq_true rfl) dJ4_append_bf812_2 ⟨(Nat.le_of_ble_eq_true rfl), (Nat.le_of_ble_eq_true rfl)⟩) hP hD hS hA [0, 1] [] [0, 1] rfl rfl rfl (by decide) (fun _ => rfl) rfl (fun u H locs hw hP hD hS => ?_)
  have hP : va_P G vwCl [(b, .inr (8, [.ref (u.1), .int 0, .int 0, .int (nI (n + sj_dn x))])), (u.1, .inl (ca 1, u.2, .inl (sj_F (t ++ sj_dg x))))] H := hP
  have hD : va_D A [(b, .inr (8, [.ref (u.1), .int 0, .int 0, .int (nI (n + sj_dn x))])), (u.1, .inl (ca 1, u.2, .inl (sj_F (t ++ sj_dg x))))] := hD
  refine lv_pop hx hb dJ4_append_bf812_5 rfl ?_
  refine lv_aload_n hx hb dJ4_append_bf812_6 rfl (lv_at hl 0 rfl) ?_
  exact sw_rr hx hb hr hlocks hS u hw hP hD dJ4_append_bf812_7
abbrev RM_sj_init5 : Room := ({ frames := 7, cells := 2, slots := 2048, locals := 174 } : Room)
set_option maxHeartbeats 4000000 in
set_option maxRecDepth 100000 in
theorem c_sj_init5 (l : Launch) (G : va_G) (ca Z : Nat → Nat) (b k : Nat) (sz : Nat) (hk6 : k < 6) (hk3 : 6 ≤ sw_len.getD k 0) : Met l yJ5_init_a7421 (.code yJ5_init_a7421 cJ5_init_a7421 5 (Option.none : Option Jvm.ClassFile.FieldType) :: sw_U) RM_sj_init5 (va_Pc [.ref b, .ref (Z (20 + k))] (sw_Pre G ca Z [(b, .inr (8, [.null, .int 0, .int 0, .int 0]))] sz)) ((fun A => va_Qv (fun (u : Nat × Nat) => sw_len.getD k 0 ≤ u.2 ∧ 22 ≤ u.2 ∧ u.2 ≤ 240) (sw_Post G A (fun (u : Nat × Nat) => [(b, .inr (8, [.ref (u.1), .int 0, .int 0, .int (nI (sw_len.getD k 0))])), (u.1, .inl (ca 1, u.2, .inl (sj_F (sw_byt.getD k []))))])) A) (va_A [(b, .inr (8, [.null, .int 0, .int 0, .int 0]))] sz)) 2 2048 (va_A [(b, .inr (8, [.null, .int 0, .int 0, .int 0]))] sz) := by
  refine sw_ofW (Qc := fun A => va_Qv (fun (u : Nat × Nat) => sw_len.getD k 0 ≤ u.2 ∧ 22 ≤ u.2 ∧ u.2 ≤ 240) (sw_Post G A (fun (u : Nat × Nat) => [(b, .inr (8, [.ref (u.1), .int 0, .int 0, .int (nI (sw_len.getD k 0))])), (u.1, .inl (ca 1, u.2, .inl (sj_F (sw_byt.getD k []))))])) A) (by decide +kernel) [(0, .ref b), (1, .ref (Z (20 + k)))] rfl (Nat.le_of_ble_eq_true rfl) ?_
  intro p e s m9 args below meth c ls A hx hb hr hml hown htU hlocks hin hP hK hD hX hY hS hA hl
  have hown : s.vm.findClass RJ5 = some m9.cls := hown
  have hin : meth.name = "<init>" := hin
  have Cx : sw_Cx p s m9 args c cJ5_init_a7421 5 RJ5 G ca Z A := ⟨⟨hx, hb, hml, hown, htU⟩, hK, hX, hY, hA⟩
  have hP : va_P G vwCl [(b, .inr (8, [.null, .int 0, .int 0, .int 0]))] s.heap := hP
  have hD : va_D A [(b, .inr (8, [.null, .int 0, .int 0, .int 0]))] := hD
  obtain ⟨k1, k2, k3⟩ := sj_k3 hk6
  refine lv_aload_n hx hb dJ5_init_a7421_0 rfl (lv_at hl 0 rfl) ?_
  refine W.objInit hx hb hown (htU _ ml_J5_3) (htU _ im_obj) (htU _ co_obj) rfl (by rw [hml]; exact hl.1) rfl dJ5_init_a7421_1 (Nat.le_of_ble_eq_true rfl) (Nat.le_of_ble_eq_true rfl) ?_
  refine W.eq (g2 := F0 m9 4 ls []) rfl ?_
  refine lv_aload_n hx hb dJ5_init_a7421_4 rfl (lv_at hl 1 rfl) ?_
  refine sw_ci (sw_runR (As := []) (rest := []) Cx hP hD hS mv_J0_length_8abf5 ml_J5_32 (c_J0_length_8abf5 l G ca Z s.heap.size k (nI (sw_len.getD k 0)) (sj_k2 hk6)) (sw_rcS hX hS hk6) [] rfl rfl rfl rfl ⟨(Nat.le_of_ble_eq_true rfl), (Nat.le_of_ble_eq_true rfl)⟩ hl.1 rfl rfl (Nat.le_of_ble_eq_true rfl) dJ5_init_a7421_5 ⟨(Nat.le_of_ble_eq_true rfl), (Nat.le_of_ble_eq_true rfl)⟩) hP hD hS hA [] [0] [0] rfl rfl rfl (by decide) (fun _ => rfl) rfl (fun r _ H locs hw hP hD hS => ?_)
  subst hw
  have hP : va_P G vwCl [(b, .inr (8, [.null, .int 0, .int 0, .int 0]))] H := hP
  have hD : va_D A [(b, .inr (8, [.null, .int 0, .int 0, .int 0]))] := hD
  refine lv_istore_n (lv' := [(2, .int (nI (sw_len.getD k 0))), (0, .ref b), (1, .ref (Z (20 + k)))]) hx hb dJ5_init_a7421_8 rfl hl (by decide) rfl (fun ls hl => ?_)
  refine lv_iload_n hx hb dJ5_init_a7421_9 rfl (lv_at hl 0 rfl) ?_
  refine lv_ldc (v := 2147483631) hx hb hown (htU _ kc_J5_38) dJ5_init_a7421_10 ?_
  refine lv_icmp_ge (tgt := 22) hx hb dJ5_init_a7421_12 (by decide) (fun c9 => absurd c9 (Int32.not_le.mpr (by rw [show (2147483631 : Int32) = nI 2147483631 from by decide]; exact nI_lt (by omega) (by omega)))) (fun _ => ?_)
  refine lv_iload_n hx hb dJ5_init_a7421_15 rfl (lv_at hl 0 rfl) ?_
  refine lv_bipush (v := 16) hx hb dJ5_init_a7421_16 (by decide) ?_
  refine sj_iadd (v := nI (sw_len.getD k 0 + 16)) hx hb dJ5_init_a7421_18 (nI_add _ 16) ?_
  refine lv_goto (tgt := 24) hx hb dJ5_init_a7421_19 (by decide) ?_
  refine lv_istore_n (lv' := [(3, .int (nI (sw_len.getD k 0 + 16))), (2, .int (nI (sw_len.getD k 0))), (0, .ref b), (1, .ref (Z (20 + k)))]) hx hb dJ5_init_a7421_24 rfl hl (by decide) rfl (fun ls hl => ?_)
  refine lv_aload_n hx hb dJ5_init_a7421_25 rfl (lv_at hl 3 rfl) ?_
  refine sw_ci (sw_runR (As := []) (rest := []) Cx hP hD hS mv_J0_coder_7d493 ml_J5_40 (c_J0_coder_7d493 l G ca Z H.size k 0 (sj_k1 hk6)) (sw_rcS hX hS hk6) [] rfl rfl rfl rfl ⟨(Nat.le_of_ble_eq_true rfl), (Nat.le_of_ble_eq_true rfl)⟩ hl.1 rfl rfl (Nat.le_of_ble_eq_true rfl) dJ5_init_a7421_26 ⟨(Nat.le_of_ble_eq_true rfl), (Nat.le_of_ble_eq_true rfl)⟩) hP hD hS hA [] [0] [0] rfl rfl rfl (by decide) (fun _ => rfl) rfl (fun r _ H locs hw hP hD hS => ?_)
  subst hw
  have hP : va_P G vwCl [(b, .inr (8, [.null, .int 0, .int 0, .int 0]))] H := hP
  have hD : va_D A [(b, .inr (8, [.null, .int 0, .int 0, .int 0]))] := hD
  refine lv_istore (lv' := [(4, .int 0), (3, .int (nI (sw_len.getD k 0 + 16))), (2, .int (nI (sw_len.getD k 0))), (0, .ref b), (1, .ref (Z (20 + k)))]) hx hb dJ5_init_a7421_29 hl (by decide) rfl (fun ls hl => ?_)
  refine lv_aload_n hx hb dJ5_init_a7421_31 rfl (lv_at hl 3 rfl) ?_
  refine lv_iload hx hb dJ5_init_a7421_32 (lv_at hl 0 rfl) ?_
  refine va_put (v := .int 0) (ty := .byte) hx hb htU iU_J4 tyJ4 tyJ4_ok nmJ4 hown hK hP hD hS 0 rfl rfl 1 (by decide) (htU _ fl_J5_22) (fun _ h9 => h9) rfl (by decide +kernel) rfl rfl (Nat.le_of_ble_eq_true rfl) dJ5_init_a7421_34 (fun H locs hP hD hS => ?_)
  have hP : va_P G vwCl [(b, .inr (8, [.null, .int 0, .int 0, .int 0]))] H := hP
  have hD : va_D A [(b, .inr (8, [.null, .int 0, .int 0, .int 0]))] := hD
  refine lv_aload_n hx hb dJ5_init_a7421_37 rfl (lv_at hl 3 rfl) ?_
  refine lv_iload hx hb dJ5_init_a7421_38 (lv_at hl 0 rfl) ?_
  refine lv_if_ne (tgt := 49) hx hb dJ5_init_a7421_40 (by decide) (fun c9 => absurd rfl c9) (fun _ => ?_)
  refine lv_iload_n hx hb dJ5_init_a7421_43 rfl (lv_at hl 1 rfl) ?_
  refine sw_newb hx hb htU hK hP hD hS hA (nI_pos (by omega)) (nI_clamp (by omega) : (nI (sw_len.getD k 0 + 16)).toNatClampNeg = sw_len.getD k 0 + 16) (by show (sw_len.getD k 0 + 16) * 1 ≤ 536870912; omega) (Nat.le_of_ble_eq_true rfl) (by show 0 + (sw_len.getD k 0 + 16) ≤ 2048; omega) dJ5_init_a7421_44 (fun q44 H hP hD hS => ?_)
  have hP : va_P G vwCl [(b, .inr (8, [.null, .int 0, .int 0, .int 0])), (q44, .inl (ca 1, sw_len.getD k 0 + 16, .inl (fun _ => 0)))] H := hP
  have hD : va_D A [(b, .inr (8, [.null, .int 0, .int 0, .int 0])), (q44, .inl (ca 1, sw_len.getD k 0 + 16, .inl (fun _ => 0)))] := hD
  refine lv_goto (tgt := 53) hx hb dJ5_init_a7421_46 (by decide) ?_
  refine va_put (v := .ref q44) (ty := (.array .byte)) hx hb htU iU_J4 tyJ4 tyJ4_ok nmJ4 hown hK hP hD hS 0 rfl rfl 0 (by decide) (htU _ fl_J5_15) (fun _ h9 => h9) rfl (by decide +kernel) rfl rfl (Nat.le_of_ble_eq_true rfl) dJ5_init_a7421_53 (fun H locs hP hD hS => ?_)
  have hP : va_P G vwCl [(b, .inr (8, [.ref q44, .int 0, .int 0, .int 0])), (q44, .inl (ca 1, sw_len.getD k 0 + 16, .inl (fun _ => 0)))] H := hP
  have hD : va_D A [(b, .inr (8, [.ref q44, .int 0, .int 0, .int 0])), (q44, .inl (ca 1, sw_len.getD k 0 + 16, .inl (fun _ => 0)))] := hD
  refine lv_aload_n hx hb dJ5_init_a7421_56 rfl (lv_at hl 3 rfl) ?_
  refine lv_aload_n hx hb dJ5_init_a7421_57 rfl (lv_at hl 4 rfl) ?_
  have e0 : (fun _ => (0 : Int32)) = sj_F [] := by funext j; rfl
  rw [e0] at hP hD
  have hP : va_P G vwCl [(b, .inr (8, [.ref q44, .int 0, .int 0, .int 0])), (q44, .inl (ca 1, sw_len.getD k 0 + 16, .inl (sj_F [])))] H := hP
  have hD : va_D A [(b, .inr (8, [.ref q44, .int 0, .int 0, .int 0])), (q44, .inl (ca 1, sw_len.getD k 0 + 16, .inl (sj_F [])))] := hD
  refine sw_cr (sj_runX (n := 1) (As := [.ref (Z (20 + k))]) (rest := []) Cx hP hD hS ml_J5_43 sm_J5_append_cf1ce im_J5_append_cf1ce co_J5_append_cf1ce (fun h9 => h9 _ sx_J5_append_cf1ce) im_J4_append_cf1ce ini_J4 co_J4_append_cf1ce (by decide +kernel) (c_sj_AppB l G ca Z b q44 0 (sw_len.getD k 0 + 16) [] k H.size (fun _ h => by cases h) rfl (by omega) (by omega) (by omega) hk6 (by omega)) rfl [0, 1] rfl rfl rfl rfl ⟨(Nat.le_of_ble_eq_true rfl), (Nat.le_of_ble_eq_true rfl)⟩ hl.1 rfl rfl (Nat.le_of_ble_eq_true rfl) dJ5_init_a7421_58 ⟨(Nat.le_of_ble_eq_true rfl), (by show 0 + (sw_len.getD k 0 + 16) + 1024 ≤ 2048; omega)⟩) hP hD hS hA [0, 1] [] [0, 1] rfl rfl rfl (by decide) (fun _ => rfl) rfl (fun u H locs hw hP hD hS => ?_)
  have hP : va_P G vwCl [(b, .inr (8, [.ref (u.1), .int 0, .int 0, .int (nI (0 + sw_len.getD k 0))])), (u.1, .inl (ca 1, u.2, .inl (sj_F ([] ++ sw_byt.getD k []))))] H := hP
  have hD : va_D A [(b, .inr (8, [.ref (u.1), .int 0, .int 0, .int (nI (0 + sw_len.getD k 0))])), (u.1, .inl (ca 1, u.2, .inl (sj_F ([] ++ sw_byt.getD k []))))] := hD
  rw [Nat.zero_add, List.nil_append] at hP hD
  have hP : va_P G vwCl [(b, .inr (8, [.ref (u.1), .int 0, .int 0, .int (nI (sw_len.getD k 0))])), (u.1, .inl (ca 1, u.2, .inl (sj_F (sw_byt.getD k []))))] H := hP
  have hD : va_D A [(b, .inr (8, [.ref (u.1), .int 0, .int 0, .int (nI (sw_len.getD k 0))])), (u.1, .inl (ca 1, u.2, .inl (sj_F (sw_byt.getD k []))))] := hD
  refine lv_pop hx hb dJ5_init_a7421_61 rfl ?_
  refine W.widen (k := 2) (n := 2048) (Nat.le_of_ble_eq_true rfl) (by omega) ?_
  exact sw_rv hx hb hr hlocks hS u (by rw [Nat.zero_add] at hw; exact hw) hP hD dJ5_init_a7421_62
abbrev RM_sj_init : Room := ({ frames := 8, cells := 2, slots := 2048, locals := 198 } : Room)
set_option maxHeartbeats 4000000 in
set_option maxRecDepth 100000 in
theorem c_sj_init (l : Launch) (G : va_G) (ca Z : Nat → Nat) (b k : Nat) (sz : Nat) (hk6 : k < 6) (hk3 : 6 ≤ sw_len.getD k 0) : Met l yJ4_init_a7421 (.code yJ4_init_a7421 cJ4_init_a7421 2 (Option.none : Option Jvm.ClassFile.FieldType) :: sw_U) RM_sj_init (va_Pc [.ref b, .ref (Z (20 + k))] (sw_Pre G ca Z [(b, .inr (8, [.null, .int 0, .int 0, .int 0]))] sz)) ((fun A => va_Qv (fun (u : Nat × Nat) => sw_len.getD k 0 ≤ u.2 ∧ 22 ≤ u.2 ∧ u.2 ≤ 240) (sw_Post G A (fun (u : Nat × Nat) => [(b, .inr (8, [.ref (u.1), .int 0, .int 0, .int (nI (sw_len.getD k 0))])), (u.1, .inl (ca 1, u.2, .inl (sj_F (sw_byt.getD k []))))])) A) (va_A [(b, .inr (8, [.null, .int 0, .int 0, .int 0]))] sz)) 2 2048 (va_A [(b, .inr (8, [.null, .int 0, .int 0, .int 0]))] sz) := by
  refine sw_ofW (Qc := fun A => va_Qv (fun (u : Nat × Nat) => sw_len.getD k 0 ≤ u.2 ∧ 22 ≤ u.2 ∧ u.2 ≤ 240) (sw_Post G A (fun (u : Nat × Nat) => [(b, .inr (8, [.ref (u.1), .int 0, .int 0, .int (nI (sw_len.getD k 0))])), (u.1, .inl (ca 1, u.2, .inl (sj_F (sw_byt.getD k []))))])) A) (by decide +kernel) [(0, .ref b), (1, .ref (Z (20 + k)))] rfl (Nat.le_of_ble_eq_true rfl) ?_
  intro p e s m9 args below meth c ls A hx hb hr hml hown htU hlocks hin hP hK hD hX hY hS hA hl
  have hown : s.vm.findClass RJ4 = some m9.cls := hown
  have hin : meth.name = "<init>" := hin
  have Cx : sw_Cx p s m9 args c cJ4_init_a7421 2 RJ4 G ca Z A := ⟨⟨hx, hb, hml, hown, htU⟩, hK, hX, hY, hA⟩
  have hP : va_P G vwCl [(b, .inr (8, [.null, .int 0, .int 0, .int 0]))] s.heap := hP
  have hD : va_D A [(b, .inr (8, [.null, .int 0, .int 0, .int 0]))] := hD
  refine lv_aload_n hx hb dJ4_init_a7421_0 rfl (lv_at hl 0 rfl) ?_
  refine lv_aload_n hx hb dJ4_init_a7421_1 rfl (lv_at hl 1 rfl) ?_
  refine sw_cv (sw_runI (n := 1) (As := [.ref (Z (20 + k))]) (rest := []) Cx hP hD hS co_J5_init_a7421 ini_J5 im_J5_init_a7421 ml_J4_7 rfl (c_sj_init5 l G ca Z b k s.heap.size hk6 hk3) (by decide +kernel) [0] rfl rfl rfl rfl ⟨(Nat.le_of_ble_eq_true rfl), (Nat.le_of_ble_eq_true rfl)⟩ hl.1 rfl rfl (Nat.le_of_ble_eq_true rfl) dJ4_init_a7421_2 ⟨(Nat.le_of_ble_eq_true rfl), (Nat.le_of_ble_eq_true rfl)⟩) hP hD hS hA [0] [] [0, 1] rfl rfl rfl (by decide) (fun _ => rfl) rfl (fun u H locs hw hP hD hS => ?_)
  have hP : va_P G vwCl [(b, .inr (8, [.ref (u.1), .int 0, .int 0, .int (nI (sw_len.getD k 0))])), (u.1, .inl (ca 1, u.2, .inl (sj_F (sw_byt.getD k []))))] H := hP
  have hD : va_D A [(b, .inr (8, [.ref (u.1), .int 0, .int 0, .int (nI (sw_len.getD k 0))])), (u.1, .inl (ca 1, u.2, .inl (sj_F (sw_byt.getD k []))))] := hD
  exact sw_rv hx hb hr hlocks hS u hw hP hD dJ4_init_a7421_5
abbrev RM_sj_getValue : Room := ({ frames := 0, cells := 0, slots := 0, locals := 0 } : Room)
set_option maxHeartbeats 4000000 in
set_option maxRecDepth 100000 in
theorem c_sj_getValue (l : Launch) (G : va_G) (ca Z : Nat → Nat) (b v : Nat) (nn : Value) (sz : Nat)  : Met l yJ5_getValue_6d5f1 (.code yJ5_getValue_6d5f1 cJ5_getValue_6d5f1 1 (Option.some (Jvm.ClassFile.FieldType.array Jvm.ClassFile.FieldType.byte)) :: sw_U) RM_sj_getValue (va_Pc [.ref b] (sw_Pre G ca Z [(b, .inr (8, [.ref v, .int 0, .int 0, nn]))] sz)) ((fun A => va_Qr (fun (u : Unit) => True) (fun (u : Unit) q9 t9 => q9 = v ∧ sw_Post G A (fun (u : Unit) => [(b, .inr (8, [.ref v, .int 0, .int 0, nn]))]) u t9) A) (va_A [(b, .inr (8, [.ref v, .int 0, .int 0, nn]))] sz)) 0 0 (va_A [(b, .inr (8, [.ref v, .int 0, .int 0, nn]))] sz) := by
  refine sw_ofW (Qc := fun A => va_Qr (fun (u : Unit) => True) (fun (u : Unit) q9 t9 => q9 = v ∧ sw_Post G A (fun (u : Unit) => [(b, .inr (8, [.ref v, .int 0, .int 0, nn]))]) u t9) A) (by decide +kernel) [(0, .ref b)] rfl (Nat.le_of_ble_eq_true rfl) ?_
  intro p e s m9 args below meth c ls A hx hb hr hml hown htU hlocks hin hP hK hD hX hY hS hA hl
  have hown : s.vm.findClass RJ5 = some m9.cls := hown
  have Cx : sw_Cx p s m9 args c cJ5_getValue_6d5f1 1 RJ5 G ca Z A := ⟨⟨hx, hb, hml, hown, htU⟩, hK, hX, hY, hA⟩
  have hP : va_P G vwCl [(b, .inr (8, [.ref v, .int 0, .int 0, nn]))] s.heap := hP
  have hD : va_D A [(b, .inr (8, [.ref v, .int 0, .int 0, nn]))] := hD
  refine lv_aload_n hx hb dJ5_getValue_6d5f1_0 rfl (lv_at hl 0 rfl) ?_
  refine va_get (v := .ref v) hx hb htU iU_J4 hown hK hP 0 rfl rfl 0 (by decide) (htU _ fl_J5_15) (fun _ h9 => h9) rfl dJ5_getValue_6d5f1_1 ?_
  exact sj_ra hx hb hr hlocks hS () trivial hP hD dJ5_getValue_6d5f1_4
abbrev RM_sj_length5 : Room := ({ frames := 0, cells := 0, slots := 0, locals := 0 } : Room)
set_option maxHeartbeats 4000000 in
set_option maxRecDepth 100000 in
theorem c_sj_length5 (l : Launch) (G : va_G) (ca Z : Nat → Nat) (b n : Nat) (vv : Value) (sz : Nat)  : Met l yJ5_length_8abf5 (.code yJ5_length_8abf5 cJ5_length_8abf5 1 (Option.some Jvm.ClassFile.FieldType.int) :: sw_U) RM_sj_length5 (va_Pc [.ref b] (sw_Pre G ca Z [(b, .inr (8, [vv, .int 0, .int 0, .int (nI n)]))] sz)) ((fun A => va_Qi (fun r (u : Unit) => nI n = r) (sw_Post G A (fun (u : Unit) => [(b, .inr (8, [vv, .int 0, .int 0, .int (nI n)]))])) A) (va_A [(b, .inr (8, [vv, .int 0, .int 0, .int (nI n)]))] sz)) 0 0 (va_A [(b, .inr (8, [vv, .int 0, .int 0, .int (nI n)]))] sz) := by
  refine sw_ofW (Qc := fun A => va_Qi (fun r (u : Unit) => nI n = r) (sw_Post G A (fun (u : Unit) => [(b, .inr (8, [vv, .int 0, .int 0, .int (nI n)]))])) A) (by decide +kernel) [(0, .ref b)] rfl (Nat.le_of_ble_eq_true rfl) ?_
  intro p e s m9 args below meth c ls A hx hb hr hml hown htU hlocks hin hP hK hD hX hY hS hA hl
  have hown : s.vm.findClass RJ5 = some m9.cls := hown
  have Cx : sw_Cx p s m9 args c cJ5_length_8abf5 1 RJ5 G ca Z A := ⟨⟨hx, hb, hml, hown, htU⟩, hK, hX, hY, hA⟩
  have hP : va_P G vwCl [(b, .inr (8, [vv, .int 0, .int 0, .int (nI n)]))] s.heap := hP
  have hD : va_D A [(b, .inr (8, [vv, .int 0, .int 0, .int (nI n)]))] := hD
  refine lv_aload_n hx hb dJ5_length_8abf5_0 rfl (lv_at hl 0 rfl) ?_
  refine va_get (v := .int (nI n)) hx hb htU iU_J4 hown hK hP 0 rfl rfl 3 (by decide) (htU _ fl_J5_79) (fun _ h9 => h9) rfl dJ5_length_8abf5_1 ?_
  exact sw_ri hx hb hr hlocks hS () rfl hP hD dJ5_length_8abf5_4
abbrev RM_sj_length4 : Room := ({ frames := 1, cells := 0, slots := 0, locals := 20 } : Room)
set_option maxHeartbeats 4000000 in
set_option maxRecDepth 100000 in
theorem c_sj_length4 (l : Launch) (G : va_G) (ca Z : Nat → Nat) (b n : Nat) (vv : Value) (sz : Nat)  : Met l yJ4_length_8abf5 (.code yJ4_length_8abf5 cJ4_length_8abf5 1 (Option.some Jvm.ClassFile.FieldType.int) :: sw_U) RM_sj_length4 (va_Pc [.ref b] (sw_Pre G ca Z [(b, .inr (8, [vv, .int 0, .int 0, .int (nI n)]))] sz)) ((fun A => va_Qi (fun r (u : Unit) => nI n = r) (sw_Post G A (fun (u : Unit) => [(b, .inr (8, [vv, .int 0, .int 0, .int (nI n)]))])) A) (va_A [(b, .inr (8, [vv, .int 0, .int 0, .int (nI n)]))] sz)) 0 0 (va_A [(b, .inr (8, [vv, .int 0, .int 0, .int (nI n)]))] sz) := by
  refine sw_ofW (Qc := fun A => va_Qi (fun r (u : Unit) => nI n = r) (sw_Post G A (fun (u : Unit) => [(b, .inr (8, [vv, .int 0, .int 0, .int (nI n)]))])) A) (by decide +kernel) [(0, .ref b)] rfl (Nat.le_of_ble_eq_true rfl) ?_
  intro p e s m9 args below meth c ls A hx hb hr hml hown htU hlocks hin hP hK hD hX hY hS hA hl
  have hown : s.vm.findClass RJ4 = some m9.cls := hown
  have Cx : sw_Cx p s m9 args c cJ4_length_8abf5 1 RJ4 G ca Z A := ⟨⟨hx, hb, hml, hown, htU⟩, hK, hX, hY, hA⟩
  have hP : va_P G vwCl [(b, .inr (8, [vv, .int 0, .int 0, .int (nI n)]))] s.heap := hP
  have hD : va_D A [(b, .inr (8, [vv, .int 0, .int 0, .int (nI n)]))] := hD
  refine lv_aload_n hx hb dJ4_length_8abf5_0 rfl (lv_at hl 0 rfl) ?_
  refine sw_ci (sj_runU (n := 0) (As := []) (rest := []) Cx hP hD hS ml_J4_343 sm_J5_length_8abf5 sup_J4 im_J5_length_8abf5 ini_J5 co_J5_length_8abf5 (by decide +kernel) (c_sj_length5 l G ca Z b n vv s.heap.size) rfl [0] rfl rfl rfl rfl ⟨(Nat.le_of_ble_eq_true rfl), (Nat.le_of_ble_eq_true rfl)⟩ hl.1 rfl rfl (Nat.le_of_ble_eq_true rfl) dJ4_length_8abf5_1 ⟨(Nat.le_of_ble_eq_true rfl), (Nat.le_of_ble_eq_true rfl)⟩) hP hD hS hA [0] [] [0] rfl rfl rfl (by decide) (fun _ => rfl) rfl (fun r _ H locs hw hP hD hS => ?_)
  subst hw
  have hP : va_P G vwCl [(b, .inr (8, [vv, .int 0, .int 0, .int (nI n)]))] H := hP
  have hD : va_D A [(b, .inr (8, [vv, .int 0, .int 0, .int (nI n)]))] := hD
  exact sw_ri hx hb hr hlocks hS () rfl hP hD dJ4_length_8abf5_4
abbrev RM_sj_check : Room := ({ frames := 0, cells := 0, slots := 0, locals := 0 } : Room)
set_option maxHeartbeats 4000000 in
set_option maxRecDepth 100000 in
theorem c_sj_check (l : Launch) (G : va_G) (ca Z : Nat → Nat) (n : Nat) (sz : Nat) (hn : n ≤ 600) : Met l yJ7_checkLength_df160 (.code yJ7_checkLength_df160 cJ7_checkLength_df160 2 (Option.none : Option Jvm.ClassFile.FieldType) :: sw_U) RM_sj_check (va_Pc [.int 0, .int (nI n)] (sw_Pre G ca Z [] sz)) ((fun A => va_Qv (fun (u : Unit) => True) (sw_Post G A (fun (u : Unit) => [])) A) (va_A [] sz)) 0 0 (va_A [] sz) := by
  refine sw_ofW (Qc := fun A => va_Qv (fun (u : Unit) => True) (sw_Post G A (fun (u : Unit) => [])) A) (by decide +kernel) [(0, .int 0), (1, .int (nI n))] rfl (Nat.le_of_ble_eq_true rfl) ?_
  intro p e s m9 args below meth c ls A hx hb hr hml hown htU hlocks hin hP hK hD hX hY hS hA hl
  have hown : s.vm.findClass RJ7 = some m9.cls := hown
  have Cx : sw_Cx p s m9 args c cJ7_checkLength_df160 2 RJ7 G ca Z A := ⟨⟨hx, hb, hml, hown, htU⟩, hK, hX, hY, hA⟩
  have hP : va_P G vwCl [] s.heap := hP
  have hD : va_D A [] := hD
  refine lv_iload_n hx hb dJ7_checkLength_df160_0 rfl (lv_at hl 1 rfl) ?_
  refine lv_iload_n hx hb dJ7_checkLength_df160_1 rfl (lv_at hl 0 rfl) ?_
  refine lv_icmp_ge (tgt := 37) hx hb dJ7_checkLength_df160_2 (by decide) (fun _ => ?_) (fun c9 => absurd (nI_pos' (by omega) : (0 : Int32) ≤ nI n) c9)
  exact sw_rv hx hb hr hlocks hS () trivial hP hD dJ7_checkLength_df160_37
theorem sj_min {n m : Nat} (h : n ≤ m) (hm : m < 2 ^ 31) : (if nI n < nI m then nI n else nI m) = nI n := by
  by_cases c : n = m
  · subst c
    split <;> rfl
  · rw [if_pos (nI_lt (by omega) hm)]
abbrev RM_sj_rangeB : Room := ({ frames := 1, cells := 1, slots := 1024, locals := 40 } : Room)
set_option maxHeartbeats 4000000 in
set_option maxRecDepth 100000 in
theorem c_sj_rangeB (l : Launch) (G : va_G) (ca Z : Nat → Nat) (v m n : Nat) (t : List Int32) (sz : Nat) (hA0 : sj_A t) (htn : t.length = n) (hnm : n ≤ m) (hm2 : m ≤ 240) : Met l yJ7_copyOfRangeByte_39247 (.code yJ7_copyOfRangeByte_39247 cJ7_copyOfRangeByte_39247 5 (Option.some (Jvm.ClassFile.FieldType.array Jvm.ClassFile.FieldType.byte)) :: sw_U) RM_sj_rangeB (va_Pc [.ref v, .int 0, .int (nI n)] (sw_Pre G ca Z [(v, .inl (ca 1, m, .inl (sj_F t)))] sz)) ((fun A => va_Qr (fun (u : Nat) => True) (fun (u : Nat) q9 t9 => q9 = (fun u => u) u ∧ sw_Post G A (fun (u : Nat) => [(v, .inl (ca 1, m, .inl (sj_F t))), (u, .inl (ca 1, n, .inl (sj_F t)))]) u t9) A) (va_A [(v, .inl (ca 1, m, .inl (sj_F t)))] sz)) 1 1024 (va_A [(v, .inl (ca 1, m, .inl (sj_F t)))] sz) := by
  refine sw_ofW (Qc := fun A => va_Qr (fun (u : Nat) => True) (fun (u : Nat) q9 t9 => q9 = (fun u => u) u ∧ sw_Post G A (fun (u : Nat) => [(v, .inl (ca 1, m, .inl (sj_F t))), (u, .inl (ca 1, n, .inl (sj_F t)))]) u t9) A) (by decide +kernel) [(0, .ref v), (1, .int 0), (2, .int (nI n))] rfl (Nat.le_of_ble_eq_true rfl) ?_
  intro p e s m9 args below meth c ls A hx hb hr hml hown htU hlocks hin hP hK hD hX hY hS hA hl
  have hown : s.vm.findClass RJ7 = some m9.cls := hown
  have Cx : sw_Cx p s m9 args c cJ7_copyOfRangeByte_39247 5 RJ7 G ca Z A := ⟨⟨hx, hb, hml, hown, htU⟩, hK, hX, hY, hA⟩
  have hP : va_P G vwCl [(v, .inl (ca 1, m, .inl (sj_F t)))] s.heap := hP
  have hD : va_D A [(v, .inl (ca 1, m, .inl (sj_F t)))] := hD
  refine lv_iload_n hx hb dJ7_copyOfRangeByte_39247_0 rfl (lv_at hl 1 rfl) ?_
  refine lv_iload_n hx hb dJ7_copyOfRangeByte_39247_1 rfl (lv_at hl 2 rfl) ?_
  refine sw_cv (sw_runS (As := [.int 0, .int (nI n)]) (rest := []) Cx hP hD hS ms_J7_checkLength_df160 ml_J7_343 (c_sj_check l G ca Z n s.heap.size (by omega)) [] rfl rfl rfl rfl ⟨(Nat.le_of_ble_eq_true rfl), (Nat.le_of_ble_eq_true rfl)⟩ hl.1 rfl rfl (Nat.le_of_ble_eq_true rfl) dJ7_copyOfRangeByte_39247_2 ⟨(Nat.le_of_ble_eq_true rfl), (Nat.le_of_ble_eq_true rfl)⟩) hP hD hS hA [] [0] [0] rfl rfl rfl (by decide) (fun _ => rfl) rfl (fun _ H locs hw hP hD hS => ?_)
  have hP : va_P G vwCl [(v, .inl (ca 1, m, .inl (sj_F t)))] H := hP
  have hD : va_D A [(v, .inl (ca 1, m, .inl (sj_F t)))] := hD
  refine lv_iload_n hx hb dJ7_copyOfRangeByte_39247_5 rfl (lv_at hl 2 rfl) ?_
  refine lv_iload_n hx hb dJ7_copyOfRangeByte_39247_6 rfl (lv_at hl 1 rfl) ?_
  refine sj_isub (v := nI n) hx hb dJ7_copyOfRangeByte_39247_7 (Int32.sub_zero _) ?_
  refine lv_istore_n (lv' := [(3, .int (nI n)), (0, .ref v), (1, .int 0), (2, .int (nI n))]) hx hb dJ7_copyOfRangeByte_39247_8 rfl hl (by decide) rfl (fun ls hl => ?_)
  refine lv_iload_n hx hb dJ7_copyOfRangeByte_39247_9 rfl (lv_at hl 0 rfl) ?_
  refine sw_newb hx hb htU hK hP hD hS hA (nI_pos (by omega)) (nI_clamp (by omega) : (nI n).toNatClampNeg = n) (by show n * 1 ≤ 536870912; omega) (Nat.le_of_ble_eq_true rfl) (by show 0 + n ≤ 1024; omega) dJ7_copyOfRangeByte_39247_10 (fun q10 H hP hD hS => ?_)
  have hP : va_P G vwCl [(v, .inl (ca 1, m, .inl (sj_F t))), (q10, .inl (ca 1, n, .inl (fun _ => 0)))] H := hP
  have hD : va_D A [(v, .inl (ca 1, m, .inl (sj_F t))), (q10, .inl (ca 1, n, .inl (fun _ => 0)))] := hD
  refine lv_astore (lv' := [(4, .ref q10), (3, .int (nI n)), (0, .ref v), (1, .int 0), (2, .int (nI n))]) hx hb dJ7_copyOfRangeByte_39247_12 hl (by decide) rfl (fun ls hl => ?_)
  refine lv_aload_n hx hb dJ7_copyOfRangeByte_39247_14 rfl (lv_at hl 2 rfl) ?_
  refine lv_iload_n hx hb dJ7_copyOfRangeByte_39247_15 rfl (lv_at hl 3 rfl) ?_
  refine lv_aload hx hb dJ7_copyOfRangeByte_39247_16 (lv_at hl 0 rfl) ?_
  refine lv_iconst (v := 0) hx hb dJ7_copyOfRangeByte_39247_18 (by decide) ?_
  refine lv_aload_n hx hb dJ7_copyOfRangeByte_39247_19 rfl (lv_at hl 2 rfl) ?_
  refine va_alen (v := nI m) hx hb hK hP 0 1 rfl rfl rfl dJ7_copyOfRangeByte_39247_20 ?_
  refine lv_iload_n hx hb dJ7_copyOfRangeByte_39247_21 rfl (lv_at hl 3 rfl) ?_
  refine sj_isub (v := nI m) hx hb dJ7_copyOfRangeByte_39247_22 (Int32.sub_zero _) ?_
  refine lv_iload_n hx hb dJ7_copyOfRangeByte_39247_23 rfl (lv_at hl 1 rfl) ?_
  refine va_mmin hx hb (hml.trans hl.1.symm) hown (htU _ mm_J7_304) (htU _ mm_st_min) (htU _ mm_ini) (htU _ mm_co_min) (Nat.le_of_ble_eq_true rfl) (Nat.le_of_ble_eq_true rfl) (Nat.le_of_ble_eq_true rfl) (by show 0 + n + 0 ≤ 1024; omega) dJ7_copyOfRangeByte_39247_24 ?_
  rw [show (if nI n < nI m then nI n else nI m) = nI n from sj_min hnm (by omega)]
  refine va_copyi hx hb (hml.trans hl.1.symm) hown (htU _ ac_J7_150) (htU _ ac_nat) (htU _ ac_st) (htU _ ac_ini) hK hP hD hS 0 1 1 1 rfl rfl rfl rfl rfl (by decide) (by decide) (nI_pos (by omega)) (by rw [nI_clamp (by omega), sj_c0]; omega) (by rw [nI_clamp (by omega), sj_c0]; omega) (fun i _ => sj_fitF hA0 _) (Nat.le_of_ble_eq_true rfl) (Nat.le_of_ble_eq_true rfl) dJ7_copyOfRangeByte_39247_27 (fun H locs hP hD hS => ?_)
  rw [sj_c0, nI_clamp (by omega), sj_cut htn] at hP hD
  have hP : va_P G vwCl [(v, .inl (ca 1, m, .inl (sj_F t))), (q10, .inl (ca 1, n, .inl (sj_F t)))] H := hP
  have hD : va_D A [(v, .inl (ca 1, m, .inl (sj_F t))), (q10, .inl (ca 1, n, .inl (sj_F t)))] := hD
  refine lv_aload hx hb dJ7_copyOfRangeByte_39247_30 (lv_at hl 0 rfl) ?_
  refine W.widen (k := 1) (n := 1024) (Nat.le_of_ble_eq_true rfl) (by omega) ?_
  exact sj_rar (f0 := fun u => u) hx hb hr hlocks hS q10 rfl trivial hP hD dJ7_copyOfRangeByte_39247_32
theorem sj_cellfit {t : List Int32} (h : sj_A t) {cA : ClassId} {n i : Nat} {v : Value} (hv : (vp_cell cA (n, .inl (sj_F t))).slots[i]? = some v) : fits .byte v = true := by
  have hv : (arrV cA n (fun j => .int (sj_F t j))).slots[i]? = some v := hv
  have hl : i < n := by
    have := (Array.getElem?_eq_some_iff.mp hv).1
    rw [arrV_size] at this
    exact this
  rw [arrV_read _ _ hl] at hv
  cases hv
  exact sj_fitF h i
abbrev RM_sj_range : Room := ({ frames := 2, cells := 1, slots := 1024, locals := 64 } : Room)
set_option maxHeartbeats 4000000 in
set_option maxRecDepth 100000 in
theorem c_sj_range (l : Launch) (G : va_G) (ca Z : Nat → Nat) (v m n : Nat) (t : List Int32) (sz : Nat) (hA0 : sj_A t) (htn : t.length = n) (hnm : n ≤ m) (hm2 : m ≤ 240) : Met l yJ7_copyOfRange_39247 (.code yJ7_copyOfRange_39247 cJ7_copyOfRange_39247 3 (Option.some (Jvm.ClassFile.FieldType.array Jvm.ClassFile.FieldType.byte)) :: sw_U) RM_sj_range (va_Pc [.ref v, .int 0, .int (nI n)] (sw_Pre G ca Z [(v, .inl (ca 1, m, .inl (sj_F t)))] sz)) ((fun A => va_Qr (fun (u : Nat) => True) (fun (u : Nat) q9 t9 => q9 = (fun u => u) u ∧ sw_Post G A (fun (u : Nat) => [(v, .inl (ca 1, m, .inl (sj_F t))), (u, .inl (ca 1, n, .inl (sj_F t)))]) u t9) A) (va_A [(v, .inl (ca 1, m, .inl (sj_F t)))] sz)) 1 1024 (va_A [(v, .inl (ca 1, m, .inl (sj_F t)))] sz) := by
  refine sw_ofW (Qc := fun A => va_Qr (fun (u : Nat) => True) (fun (u : Nat) q9 t9 => q9 = (fun u => u) u ∧ sw_Post G A (fun (u : Nat) => [(v, .inl (ca 1, m, .inl (sj_F t))), (u, .inl (ca 1, n, .inl (sj_F t)))]) u t9) A) (by decide +kernel) [(0, .ref v), (1, .int 0), (2, .int (nI n))] rfl (Nat.le_of_ble_eq_true rfl) ?_
  intro p e s m9 args below meth c ls A hx hb hr hml hown htU hlocks hin hP hK hD hX hY hS hA hl
  have hown : s.vm.findClass RJ7 = some m9.cls := hown
  have Cx : sw_Cx p s m9 args c cJ7_copyOfRange_39247 3 RJ7 G ca Z A := ⟨⟨hx, hb, hml, hown, htU⟩, hK, hX, hY, hA⟩
  have hP : va_P G vwCl [(v, .inl (ca 1, m, .inl (sj_F t)))] s.heap := hP
  have hD : va_D A [(v, .inl (ca 1, m, .inl (sj_F t)))] := hD
  refine lv_iload_n hx hb dJ7_copyOfRange_39247_0 rfl (lv_at hl 1 rfl) ?_
  refine lv_if_ne (tgt := 10) hx hb dJ7_copyOfRange_39247_1 (by decide) (fun c9 => absurd rfl c9) (fun _ => ?_)
  refine lv_iload_n hx hb dJ7_copyOfRange_39247_4 rfl (lv_at hl 2 rfl) ?_
  refine lv_aload_n hx hb dJ7_copyOfRange_39247_5 rfl (lv_at hl 0 rfl) ?_
  refine va_alen (v := nI m) hx hb hK hP 0 1 rfl rfl rfl dJ7_copyOfRange_39247_6 ?_
  refine lv_icmp_eq (tgt := 17) hx hb dJ7_copyOfRange_39247_7 (by decide) (fun c7 => ?_) (fun c7 => ?_)
  · have hmn : n = m := (nI_eq (by omega) (by omega)).mp c7
    subst hmn
    have hP : va_P G vwCl [(v, .inl (ca 1, n, .inl (sj_F t)))] s.heap := hP
    have hD : va_D A [(v, .inl (ca 1, n, .inl (sj_F t)))] := hD
    refine lv_aload_n hx hb dJ7_copyOfRange_39247_17 rfl (lv_at hl 0 rfl) ?_
    have hbn : s.vm.findClass "[B" = some (ca 1) := (hK.2 1 _ rfl).2
    refine va_clone hx hb (hml.trans hl.1.symm) hown (htU _ ml_J7_310) (htU _ cln_sm) (htU _ cln_nat) (htU _ cln_im) (htU _ cln_se) (hY.2.2.2 _ cln_cs rfl) hK hP hD hS hA 0 1 rfl rfl hbn (fun i x hx1 => sj_cellfit hA0 hx1) (Nat.le_of_ble_eq_true rfl) (Nat.le_of_ble_eq_true rfl) (Nat.le_of_ble_eq_true rfl) (by show 0 + n ≤ 1024; omega) dJ7_copyOfRange_39247_18 (fun q18 H _ hP hD hS => ?_)
    have hP : va_P G vwCl [(v, .inl (ca 1, n, .inl (sj_F t))), (q18, .inl (ca 1, n, .inl (sj_F t)))] H := hP
    have hD : va_D A [(v, .inl (ca 1, n, .inl (sj_F t))), (q18, .inl (ca 1, n, .inl (sj_F t)))] := hD
    refine va_castA hx hb hown (htU _ cl_J7_311) hP 1 rfl hbn dJ7_copyOfRange_39247_21 ?_
    refine W.widen (k := 1) (n := 1024) (Nat.le_of_ble_eq_true rfl) (by show 0 + n ≤ 1024; omega) ?_
    exact sj_rar (f0 := fun u => u) hx hb hr hlocks hS q18 rfl trivial hP hD dJ7_copyOfRange_39247_24
  · refine lv_aload_n hx hb dJ7_copyOfRange_39247_10 rfl (lv_at hl 0 rfl) ?_
    refine lv_iload_n hx hb dJ7_copyOfRange_39247_11 rfl (lv_at hl 1 rfl) ?_
    refine lv_iload_n hx hb dJ7_copyOfRange_39247_12 rfl (lv_at hl 2 rfl) ?_
    refine sj_cr (f0 := fun u => u) (sw_runS (As := [.ref v, .int 0, .int (nI n)]) (rest := []) Cx hP hD hS ms_J7_copyOfRangeByte_39247 ml_J7_339 (c_sj_rangeB l G ca Z v m n t s.heap.size hA0 htn hnm hm2) [0] rfl rfl rfl rfl ⟨(Nat.le_of_ble_eq_true rfl), (Nat.le_of_ble_eq_true rfl)⟩ hl.1 rfl rfl (Nat.le_of_ble_eq_true rfl) dJ7_copyOfRange_39247_13 ⟨(Nat.le_of_ble_eq_true rfl), (Nat.le_of_ble_eq_true rfl)⟩) hP hD hS hA [0] [] [0, 1] rfl rfl rfl (by decide) (fun _ => rfl) rfl (fun u H locs hw hP hD hS => ?_)
    have hP : va_P G vwCl [(v, .inl (ca 1, m, .inl (sj_F t))), (u, .inl (ca 1, n, .inl (sj_F t)))] H := hP
    have hD : va_D A [(v, .inl (ca 1, m, .inl (sj_F t))), (u, .inl (ca 1, n, .inl (sj_F t)))] := hD
    exact sj_rar (f0 := fun u => u) hx hb hr hlocks hS u rfl trivial hP hD dJ7_copyOfRange_39247_16
