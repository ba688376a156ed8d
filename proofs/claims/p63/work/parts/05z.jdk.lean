theorem mv_X2_isInRange : sw_MV yX2_isInRange RX2 cX2_isInRange 3 (Option.some Jvm.ClassFile.FieldType.boolean) 2 := ⟨im_X2_isInRange, se_X2_isInRange, ini_X2, co_X2_isInRange, by decide +kernel⟩
def F_X2_isInRange (x0 : Nat) (x1 : Int32) (x2 : Int32) : Option (Bool) :=
 kl x0 9 ((if (sw_on x0) < 1 then (if (sw_on x0) < 2 then some true else (if x2 < (sw_ol x0) then some false else (if (sw_om x0) < x2 then some false else some true))) else (if x1 < (sw_ol x0) then some false else (if (sw_om x0) < x1 then some false else (if (sw_on x0) < 2 then some true else (if x2 < (sw_ol x0) then some false else (if (sw_om x0) < x2 then some false else some true)))))))
abbrev RM_X2_isInRange : Room := ({ frames := 0, cells := 0, slots := 0, locals := 0 } : Room)
set_option maxHeartbeats 4000000 in
set_option maxRecDepth 100000 in
theorem c_X2_isInRange (l : Launch) (G : va_G) (ca Z : Nat → Nat) (sz : Nat) (x0 : Nat) (x1 : Int32) (x2 : Int32) (res : Bool) (hF : F_X2_isInRange x0 x1 x2 = some res) : Met l yX2_isInRange (.code yX2_isInRange cX2_isInRange 3 (Option.some Jvm.ClassFile.FieldType.boolean) :: sw_U) RM_X2_isInRange (va_Pc [.ref (Z (10 + x0)), .int x1, .int x2] (sw_Pre G ca Z [] sz)) ((fun A => va_Qi (fun r (u : Unit) => bI res = r) (sw_Post G A (fun (u : Unit) => [])) A) (va_A [] sz)) 0 0 (va_A [] sz) := by
  refine sw_ofW (Qc := fun A => va_Qi (fun r (u : Unit) => bI res = r) (sw_Post G A (fun (u : Unit) => [])) A) (by decide) [(0, .ref (Z (10 + x0))), (1, .int x1), (2, .int x2)] rfl (Nat.le_of_ble_eq_true rfl) ?_
  intro p e s m args below meth c ls A hx hb hr hml hown htU hlocks hnm hP hK hD hX hY hS hA hl
  have hown : s.vm.findClass RX2 = some m.cls := hown
  have Cx : sw_Cx p s m args c cX2_isInRange 3 RX2 G ca Z A := ⟨⟨hx, hb, hml, hown, htU⟩, hK, hX, hY, hA⟩
  have h := hF
  unfold F_X2_isInRange at h
  refine lv_aload_n hx hb dX2_isInRange_0 rfl (lv_at hl 0 rfl) ?_
  obtain ⟨hk_1, h⟩ := kl_at h
  refine vk_getf (v := .int (sw_on x0)) hx hb (sw_oI hX hk_1 _ (List.mem_of_getElem? (i := 1) rfl)) hS hown (htU _ fl_X2_59) (fun _ h9 => h9) dX2_isInRange_1 ?_
  refine lv_iconst (v := 1) hx hb dX2_isInRange_4 (by decide) ?_
  refine lv_icmp_lt (tgt := 24) hx hb dX2_isInRange_5 (by decide) (fun c_2 => ?_) (fun c_2 => ?_)
  · have h := if_t c_2 h
    refine lv_aload_n hx hb dX2_isInRange_24 rfl (lv_at hl 0 rfl) ?_
    refine vk_getf (v := .int (sw_on x0)) hx hb (sw_oI hX hk_1 _ (List.mem_of_getElem? (i := 1) rfl)) hS hown (htU _ fl_X2_59) (fun _ h9 => h9) dX2_isInRange_25 ?_
    refine lv_iconst (v := 2) hx hb dX2_isInRange_28 (by decide) ?_
    refine lv_icmp_lt (tgt := 48) hx hb dX2_isInRange_29 (by decide) (fun c_3 => ?_) (fun c_3 => ?_)
    · have h := if_t c_3 h
      refine lv_iconst (v := 1) hx hb dX2_isInRange_48 (by decide) ?_
      refine lv_goto (tgt := 53) hx hb dX2_isInRange_49 (by decide) ?_
      exact sw_rz hx hb hr rfl hlocks hS () (pb1 h) hP hD dX2_isInRange_53
    · have h := if_f c_3 h
      refine lv_iload_n hx hb dX2_isInRange_32 rfl (lv_at hl 2 rfl) ?_
      refine lv_aload_n hx hb dX2_isInRange_33 rfl (lv_at hl 0 rfl) ?_
      refine vk_getf (v := .int (sw_ol x0)) hx hb (sw_oI hX hk_1 _ (List.mem_of_getElem? (i := 2) rfl)) hS hown (htU _ fl_X2_63) (fun _ h9 => h9) dX2_isInRange_34 ?_
      refine lv_icmp_lt (tgt := 52) hx hb dX2_isInRange_37 (by decide) (fun c_4 => ?_) (fun c_4 => ?_)
      · have h := if_t c_4 h
        refine lv_iconst (v := 0) hx hb dX2_isInRange_52 (by decide) ?_
        exact sw_rz hx hb hr rfl hlocks hS () (pb1 h) hP hD dX2_isInRange_53
      · have h := if_f c_4 h
        refine lv_iload_n hx hb dX2_isInRange_40 rfl (lv_at hl 2 rfl) ?_
        refine lv_aload_n hx hb dX2_isInRange_41 rfl (lv_at hl 0 rfl) ?_
        refine vk_getf (v := .int (sw_om x0)) hx hb (sw_oI hX hk_1 _ (List.mem_of_getElem? (i := 3) rfl)) hS hown (htU _ fl_X2_66) (fun _ h9 => h9) dX2_isInRange_42 ?_
        refine lv_icmp_gt (tgt := 52) hx hb dX2_isInRange_45 (by decide) (fun c_5 => ?_) (fun c_5 => ?_)
        · have h := if_t c_5 h
          refine lv_iconst (v := 0) hx hb dX2_isInRange_52 (by decide) ?_
          exact sw_rz hx hb hr rfl hlocks hS () (pb1 h) hP hD dX2_isInRange_53
        · have h := if_f c_5 h
          refine lv_iconst (v := 1) hx hb dX2_isInRange_48 (by decide) ?_
          refine lv_goto (tgt := 53) hx hb dX2_isInRange_49 (by decide) ?_
          exact sw_rz hx hb hr rfl hlocks hS () (pb1 h) hP hD dX2_isInRange_53
  · have h := if_f c_2 h
    refine lv_iload_n hx hb dX2_isInRange_8 rfl (lv_at hl 1 rfl) ?_
    refine lv_aload_n hx hb dX2_isInRange_9 rfl (lv_at hl 0 rfl) ?_
    refine vk_getf (v := .int (sw_ol x0)) hx hb (sw_oI hX hk_1 _ (List.mem_of_getElem? (i := 2) rfl)) hS hown (htU _ fl_X2_63) (fun _ h9 => h9) dX2_isInRange_10 ?_
    refine lv_icmp_lt (tgt := 52) hx hb dX2_isInRange_13 (by decide) (fun c_6 => ?_) (fun c_6 => ?_)
    · have h := if_t c_6 h
      refine lv_iconst (v := 0) hx hb dX2_isInRange_52 (by decide) ?_
      exact sw_rz hx hb hr rfl hlocks hS () (pb1 h) hP hD dX2_isInRange_53
    · have h := if_f c_6 h
      refine lv_iload_n hx hb dX2_isInRange_16 rfl (lv_at hl 1 rfl) ?_
      refine lv_aload_n hx hb dX2_isInRange_17 rfl (lv_at hl 0 rfl) ?_
      refine vk_getf (v := .int (sw_om x0)) hx hb (sw_oI hX hk_1 _ (List.mem_of_getElem? (i := 3) rfl)) hS hown (htU _ fl_X2_66) (fun _ h9 => h9) dX2_isInRange_18 ?_
      refine lv_icmp_gt (tgt := 52) hx hb dX2_isInRange_21 (by decide) (fun c_7 => ?_) (fun c_7 => ?_)
      · have h := if_t c_7 h
        refine lv_iconst (v := 0) hx hb dX2_isInRange_52 (by decide) ?_
        exact sw_rz hx hb hr rfl hlocks hS () (pb1 h) hP hD dX2_isInRange_53
      · have h := if_f c_7 h
        refine lv_aload_n hx hb dX2_isInRange_24 rfl (lv_at hl 0 rfl) ?_
        refine vk_getf (v := .int (sw_on x0)) hx hb (sw_oI hX hk_1 _ (List.mem_of_getElem? (i := 1) rfl)) hS hown (htU _ fl_X2_59) (fun _ h9 => h9) dX2_isInRange_25 ?_
        refine lv_iconst (v := 2) hx hb dX2_isInRange_28 (by decide) ?_
        refine lv_icmp_lt (tgt := 48) hx hb dX2_isInRange_29 (by decide) (fun c_8 => ?_) (fun c_8 => ?_)
        · have h := if_t c_8 h
          refine lv_iconst (v := 1) hx hb dX2_isInRange_48 (by decide) ?_
          refine lv_goto (tgt := 53) hx hb dX2_isInRange_49 (by decide) ?_
          exact sw_rz hx hb hr rfl hlocks hS () (pb1 h) hP hD dX2_isInRange_53
        · have h := if_f c_8 h
          refine lv_iload_n hx hb dX2_isInRange_32 rfl (lv_at hl 2 rfl) ?_
          refine lv_aload_n hx hb dX2_isInRange_33 rfl (lv_at hl 0 rfl) ?_
          refine vk_getf (v := .int (sw_ol x0)) hx hb (sw_oI hX hk_1 _ (List.mem_of_getElem? (i := 2) rfl)) hS hown (htU _ fl_X2_63) (fun _ h9 => h9) dX2_isInRange_34 ?_
          refine lv_icmp_lt (tgt := 52) hx hb dX2_isInRange_37 (by decide) (fun c_9 => ?_) (fun c_9 => ?_)
          · have h := if_t c_9 h
            refine lv_iconst (v := 0) hx hb dX2_isInRange_52 (by decide) ?_
            exact sw_rz hx hb hr rfl hlocks hS () (pb1 h) hP hD dX2_isInRange_53
          · have h := if_f c_9 h
            refine lv_iload_n hx hb dX2_isInRange_40 rfl (lv_at hl 2 rfl) ?_
            refine lv_aload_n hx hb dX2_isInRange_41 rfl (lv_at hl 0 rfl) ?_
            refine vk_getf (v := .int (sw_om x0)) hx hb (sw_oI hX hk_1 _ (List.mem_of_getElem? (i := 3) rfl)) hS hown (htU _ fl_X2_66) (fun _ h9 => h9) dX2_isInRange_42 ?_
            refine lv_icmp_gt (tgt := 52) hx hb dX2_isInRange_45 (by decide) (fun c_10 => ?_) (fun c_10 => ?_)
            · have h := if_t c_10 h
              refine lv_iconst (v := 0) hx hb dX2_isInRange_52 (by decide) ?_
              exact sw_rz hx hb hr rfl hlocks hS () (pb1 h) hP hD dX2_isInRange_53
            · have h := if_f c_10 h
              refine lv_iconst (v := 1) hx hb dX2_isInRange_48 (by decide) ?_
              refine lv_goto (tgt := 53) hx hb dX2_isInRange_49 (by decide) ?_
              exact sw_rz hx hb hr rfl hlocks hS () (pb1 h) hP hD dX2_isInRange_53
theorem mv_J0_coder_7d493 : sw_MV yJ0_coder_7d493 RJ0 cJ0_coder_7d493 1 (Option.some Jvm.ClassFile.FieldType.byte) 0 := ⟨im_J0_coder_7d493, se_J0_coder_7d493, ini_J0, co_J0_coder_7d493, by decide +kernel⟩
def F_J0_coder_7d493 (x0 : Nat) : Option (Int32) :=
 kl x0 6 (some 0)
abbrev RM_J0_coder_7d493 : Room := ({ frames := 0, cells := 0, slots := 0, locals := 0 } : Room)
set_option maxHeartbeats 4000000 in
set_option maxRecDepth 100000 in
theorem c_J0_coder_7d493 (l : Launch) (G : va_G) (ca Z : Nat → Nat) (sz : Nat) (x0 : Nat) (res : Int32) (hF : F_J0_coder_7d493 x0 = some res) : Met l yJ0_coder_7d493 (.code yJ0_coder_7d493 cJ0_coder_7d493 1 (Option.some Jvm.ClassFile.FieldType.byte) :: sw_U) RM_J0_coder_7d493 (va_Pc [.ref (Z (20 + x0))] (sw_Pre G ca Z [] sz)) ((fun A => va_Qi (fun r (u : Unit) => res = r) (sw_Post G A (fun (u : Unit) => [])) A) (va_A [] sz)) 0 0 (va_A [] sz) := by
  refine sw_ofW (Qc := fun A => va_Qi (fun r (u : Unit) => res = r) (sw_Post G A (fun (u : Unit) => [])) A) (by decide) [(0, .ref (Z (20 + x0)))] rfl (Nat.le_of_ble_eq_true rfl) ?_
  intro p e s m args below meth c ls A hx hb hr hml hown htU hlocks hnm hP hK hD hX hY hS hA hl
  have hown : s.vm.findClass RJ0 = some m.cls := hown
  have Cx : sw_Cx p s m args c cJ0_coder_7d493 1 RJ0 G ca Z A := ⟨⟨hx, hb, hml, hown, htU⟩, hK, hX, hY, hA⟩
  have h := hF
  unfold F_J0_coder_7d493 at h
  refine va_gets (v := .int 1) hx hb hX.2.2.2.2.2.2.2.1 hS hown (htU _ fl_J0_38) (fun _ h9 => h9) dJ0_coder_7d493_0 ?_
  refine lv_if_eq (tgt := 13) hx hb dJ0_coder_7d493_3 (by decide) (fun c_2 => ?_) (fun c_2 => ?_)
  · exact absurd c_2 (by decide)
  · refine lv_aload_n hx hb dJ0_coder_7d493_6 rfl (lv_at hl 0 rfl) ?_
    obtain ⟨hk_3, h⟩ := kl_at h
    refine vk_getf (v := .int 0) hx hb (sw_sC hX hk_3).1 hS hown (htU _ fl_J0_15) (fun _ h9 => h9) dJ0_coder_7d493_7 ?_
    refine lv_goto (tgt := 14) hx hb dJ0_coder_7d493_10 (by decide) ?_
    exact sw_rz hx hb hr rfl hlocks hS () (pr1 h) hP hD dJ0_coder_7d493_14
theorem mv_J0_length_8abf5 : sw_MV yJ0_length_8abf5 RJ0 cJ0_length_8abf5 1 (Option.some Jvm.ClassFile.FieldType.int) 0 := ⟨im_J0_length_8abf5, se_J0_length_8abf5, ini_J0, co_J0_length_8abf5, by decide +kernel⟩
def F_J0_length_8abf5 (x0 : Nat) : Option (Int32) :=
 kl x0 6 ((F_J0_coder_7d493 x0).bind (fun w_2 => some ((sw_sl x0) >>> (w_2 &&& 31))))
abbrev RM_J0_length_8abf5 : Room := ({ frames := 1, cells := 0, slots := 0, locals := 20 } : Room)
set_option maxHeartbeats 4000000 in
set_option maxRecDepth 100000 in
theorem c_J0_length_8abf5 (l : Launch) (G : va_G) (ca Z : Nat → Nat) (sz : Nat) (x0 : Nat) (res : Int32) (hF : F_J0_length_8abf5 x0 = some res) : Met l yJ0_length_8abf5 (.code yJ0_length_8abf5 cJ0_length_8abf5 1 (Option.some Jvm.ClassFile.FieldType.int) :: sw_U) RM_J0_length_8abf5 (va_Pc [.ref (Z (20 + x0))] (sw_Pre G ca Z [] sz)) ((fun A => va_Qi (fun r (u : Unit) => res = r) (sw_Post G A (fun (u : Unit) => [])) A) (va_A [] sz)) 0 0 (va_A [] sz) := by
  refine sw_ofW (Qc := fun A => va_Qi (fun r (u : Unit) => res = r) (sw_Post G A (fun (u : Unit) => [])) A) (by decide) [(0, .ref (Z (20 + x0)))] rfl (Nat.le_of_ble_eq_true rfl) ?_
  intro p e s m args below meth c ls A hx hb hr hml hown htU hlocks hnm hP hK hD hX hY hS hA hl
  have hown : s.vm.findClass RJ0 = some m.cls := hown
  have Cx : sw_Cx p s m args c cJ0_length_8abf5 1 RJ0 G ca Z A := ⟨⟨hx, hb, hml, hown, htU⟩, hK, hX, hY, hA⟩
  have h := hF
  unfold F_J0_length_8abf5 at h
  refine lv_aload_n hx hb dJ0_length_8abf5_0 rfl (lv_at hl 0 rfl) ?_
  obtain ⟨hk_1, h⟩ := kl_at h
  refine vk_getf (v := .ref (Z (40 + x0))) hx hb (sw_sC hX hk_1).2.1 hS hown (htU _ fl_J0_9) (fun _ h9 => h9) dJ0_length_8abf5_1 ?_
  refine va_tlen (v := (sw_sl x0)) hx hb (sw_sC hX hk_1).2.2 hS rfl dJ0_length_8abf5_4 ?_
  refine lv_aload_n hx hb dJ0_length_8abf5_5 rfl (lv_at hl 0 rfl) ?_
  obtain ⟨w_2, hg_3, h⟩ := bd_at h
  refine sw_ci (sw_runR (As := []) (rest := [.int (sw_sl x0)]) Cx hP hD hS mv_J0_coder_7d493 ml_J0_335 (c_J0_coder_7d493 l G ca Z s.heap.size x0 w_2 hg_3) (sw_rcS hX hS hk_1) [] rfl rfl rfl rfl ⟨(Nat.le_of_ble_eq_true rfl), (Nat.le_of_ble_eq_true rfl)⟩ hl.1 rfl rfl (Nat.le_of_ble_eq_true rfl) dJ0_length_8abf5_6 ⟨(Nat.le_of_ble_eq_true rfl), (Nat.le_of_ble_eq_true rfl)⟩) hP hD hS hA [] [] [] rfl rfl rfl (by decide) (fun _ => rfl) rfl (fun r u H locs hw hP hD hS => ?_)
  subst hw
  have hP : va_P G vwCl [] H := hP
  have hD : va_D A [] := hD
  refine lv_ishr hx hb dJ0_length_8abf5_9 ?_
  exact sw_ri hx hb hr hlocks hS () (pr1 h) hP hD dJ0_length_8abf5_10
theorem mv_J0_isLatin1_aae02 : sw_MV yJ0_isLatin1_aae02 RJ0 cJ0_isLatin1_aae02 1 (Option.some Jvm.ClassFile.FieldType.boolean) 0 := ⟨im_J0_isLatin1_aae02, se_J0_isLatin1_aae02, ini_J0, co_J0_isLatin1_aae02, by decide +kernel⟩
def F_J0_isLatin1_aae02 (x0 : Nat) : Option (Bool) :=
 kl x0 6 (some true)
abbrev RM_J0_isLatin1_aae02 : Room := ({ frames := 0, cells := 0, slots := 0, locals := 0 } : Room)
set_option maxHeartbeats 4000000 in
set_option maxRecDepth 100000 in
theorem c_J0_isLatin1_aae02 (l : Launch) (G : va_G) (ca Z : Nat → Nat) (sz : Nat) (x0 : Nat) (res : Bool) (hF : F_J0_isLatin1_aae02 x0 = some res) : Met l yJ0_isLatin1_aae02 (.code yJ0_isLatin1_aae02 cJ0_isLatin1_aae02 1 (Option.some Jvm.ClassFile.FieldType.boolean) :: sw_U) RM_J0_isLatin1_aae02 (va_Pc [.ref (Z (20 + x0))] (sw_Pre G ca Z [] sz)) ((fun A => va_Qi (fun r (u : Unit) => bI res = r) (sw_Post G A (fun (u : Unit) => [])) A) (va_A [] sz)) 0 0 (va_A [] sz) := by
  refine sw_ofW (Qc := fun A => va_Qi (fun r (u : Unit) => bI res = r) (sw_Post G A (fun (u : Unit) => [])) A) (by decide) [(0, .ref (Z (20 + x0)))] rfl (Nat.le_of_ble_eq_true rfl) ?_
  intro p e s m args below meth c ls A hx hb hr hml hown htU hlocks hnm hP hK hD hX hY hS hA hl
  have hown : s.vm.findClass RJ0 = some m.cls := hown
  have Cx : sw_Cx p s m args c cJ0_isLatin1_aae02 1 RJ0 G ca Z A := ⟨⟨hx, hb, hml, hown, htU⟩, hK, hX, hY, hA⟩
  have h := hF
  unfold F_J0_isLatin1_aae02 at h
  refine va_gets (v := .int 1) hx hb hX.2.2.2.2.2.2.2.1 hS hown (htU _ fl_J0_38) (fun _ h9 => h9) dJ0_isLatin1_aae02_0 ?_
  refine lv_if_eq (tgt := 17) hx hb dJ0_isLatin1_aae02_3 (by decide) (fun c_2 => ?_) (fun c_2 => ?_)
  · exact absurd c_2 (by decide)
  · refine lv_aload_n hx hb dJ0_isLatin1_aae02_6 rfl (lv_at hl 0 rfl) ?_
    obtain ⟨hk_3, h⟩ := kl_at h
    refine vk_getf (v := .int 0) hx hb (sw_sC hX hk_3).1 hS hown (htU _ fl_J0_15) (fun _ h9 => h9) dJ0_isLatin1_aae02_7 ?_
    refine lv_if_ne (tgt := 17) hx hb dJ0_isLatin1_aae02_10 (by decide) (fun c_5 => ?_) (fun c_5 => ?_)
    · exact absurd c_5 (by decide)
    · refine lv_iconst (v := 1) hx hb dJ0_isLatin1_aae02_13 (by decide) ?_
      refine lv_goto (tgt := 18) hx hb dJ0_isLatin1_aae02_14 (by decide) ?_
      exact sw_rz hx hb hr rfl hlocks hS () (pb1 h) hP hD dJ0_isLatin1_aae02_18
theorem ms_J3_checkIndex_8e157 : sw_MS yJ3_checkIndex_8e157 cJ3_checkIndex_8e157 3 (Option.some Jvm.ClassFile.FieldType.int) 3 := ⟨st_J3_checkIndex_8e157, ini_J3, co_J3_checkIndex_8e157, by decide +kernel⟩
def F_J3_checkIndex_8e157 (x0 : Int32) (x1 : Int32) : Option (Int32) :=
 (if x0 < 0 then none else (if x0 < x1 then some x0 else none))
abbrev RM_J3_checkIndex_8e157 : Room := ({ frames := 0, cells := 0, slots := 0, locals := 0 } : Room)
set_option maxHeartbeats 4000000 in
set_option maxRecDepth 100000 in
theorem c_J3_checkIndex_8e157 (l : Launch) (G : va_G) (ca Z : Nat → Nat) (x2 : Option Nat) (sz : Nat) (x0 : Int32) (x1 : Int32) (res : Int32) (hF : F_J3_checkIndex_8e157 x0 x1 = some res) : Met l yJ3_checkIndex_8e157 (.code yJ3_checkIndex_8e157 cJ3_checkIndex_8e157 3 (Option.some Jvm.ClassFile.FieldType.int) :: sw_U) RM_J3_checkIndex_8e157 (va_Pc [.int x0, .int x1, va_rf x2] (sw_Pre G ca Z [] sz)) ((fun A => va_Qi (fun r (u : Unit) => res = r) (sw_Post G A (fun (u : Unit) => [])) A) (va_A [] sz)) 0 0 (va_A [] sz) := by
  refine sw_ofW (Qc := fun A => va_Qi (fun r (u : Unit) => res = r) (sw_Post G A (fun (u : Unit) => [])) A) (by decide) [(0, .int x0), (1, .int x1), (2, va_rf x2)] rfl (by cases x2 <;> exact (Nat.le_of_ble_eq_true rfl)) ?_
  intro p e s m args below meth c ls A hx hb hr hml hown htU hlocks hnm hP hK hD hX hY hS hA hl
  have hown : s.vm.findClass RJ3 = some m.cls := hown
  have Cx : sw_Cx p s m args c cJ3_checkIndex_8e157 3 RJ3 G ca Z A := ⟨⟨hx, hb, hml, hown, htU⟩, hK, hX, hY, hA⟩
  have h := hF
  unfold F_J3_checkIndex_8e157 at h
  refine lv_iload_n hx hb dJ3_checkIndex_8e157_0 rfl (lv_at hl 0 rfl) ?_
  refine lv_if_lt (tgt := 9) hx hb dJ3_checkIndex_8e157_1 (by decide) (fun c_1 => ?_) (fun c_1 => ?_)
  · have h := if_t c_1 h
    exact no_at h
  · have h := if_f c_1 h
    refine lv_iload_n hx hb dJ3_checkIndex_8e157_4 rfl (lv_at hl 0 rfl) ?_
    refine lv_iload_n hx hb dJ3_checkIndex_8e157_5 rfl (lv_at hl 1 rfl) ?_
    refine lv_icmp_lt (tgt := 16) hx hb dJ3_checkIndex_8e157_6 (by decide) (fun c_2 => ?_) (fun c_2 => ?_)
    · have h := if_t c_2 h
      refine lv_iload_n hx hb dJ3_checkIndex_8e157_16 rfl (lv_at hl 0 rfl) ?_
      exact sw_ri hx hb hr hlocks hS () (pr1 h) hP hD dJ3_checkIndex_8e157_17
    · have h := if_f c_2 h
      exact no_at h
theorem ms_J0_checkIndex_df160 : sw_MS yJ0_checkIndex_df160 cJ0_checkIndex_df160 2 (Option.none : Option Jvm.ClassFile.FieldType) 2 := ⟨st_J0_checkIndex_df160, ini_J0, co_J0_checkIndex_df160, by decide +kernel⟩
def F_J0_checkIndex_df160 (x0 : Int32) (x1 : Int32) : Option (Unit) :=
 (F_J3_checkIndex_8e157 x0 x1).bind (fun w_2 => some ())
abbrev RM_J0_checkIndex_df160 : Room := ({ frames := 1, cells := 0, slots := 0, locals := 22 } : Room)
set_option maxHeartbeats 4000000 in
set_option maxRecDepth 100000 in
theorem c_J0_checkIndex_df160 (l : Launch) (G : va_G) (ca Z : Nat → Nat) (sz : Nat) (x0 : Int32) (x1 : Int32) (res : Unit) (hF : F_J0_checkIndex_df160 x0 x1 = some res) : Met l yJ0_checkIndex_df160 (.code yJ0_checkIndex_df160 cJ0_checkIndex_df160 2 (Option.none : Option Jvm.ClassFile.FieldType) :: sw_U) RM_J0_checkIndex_df160 (va_Pc [.int x0, .int x1] (sw_Pre G ca Z [] sz)) ((fun A => va_Qv (fun (u : Unit) => True) (sw_Post G A (fun (u : Unit) => [])) A) (va_A [] sz)) 0 0 (va_A [] sz) := by
  refine sw_ofW (Qc := fun A => va_Qv (fun (u : Unit) => True) (sw_Post G A (fun (u : Unit) => [])) A) (by decide) [(0, .int x0), (1, .int x1)] rfl (Nat.le_of_ble_eq_true rfl) ?_
  intro p e s m args below meth c ls A hx hb hr hml hown htU hlocks hnm hP hK hD hX hY hS hA hl
  have hown : s.vm.findClass RJ0 = some m.cls := hown
  have Cx : sw_Cx p s m args c cJ0_checkIndex_df160 2 RJ0 G ca Z A := ⟨⟨hx, hb, hml, hown, htU⟩, hK, hX, hY, hA⟩
  have h := hF
  unfold F_J0_checkIndex_df160 at h
  refine lv_iload_n hx hb dJ0_checkIndex_df160_0 rfl (lv_at hl 0 rfl) ?_
  refine lv_iload_n hx hb dJ0_checkIndex_df160_1 rfl (lv_at hl 1 rfl) ?_
  refine sw_getsq hx hb hX.2.2.2.2.2.2.2.2 hS hown (htU _ fl_J0_1053) (fun _ h9 => h9) dJ0_checkIndex_df160_2 (fun o_1 => ?_)
  obtain ⟨w_2, hg_3, h⟩ := bd_at h
  refine sw_ci (sw_runS (As := [.int x0, .int x1, va_rf o_1]) (rest := []) Cx hP hD hS ms_J3_checkIndex_8e157 ml_J0_1059 (c_J3_checkIndex_8e157 l G ca Z o_1 s.heap.size x0 x1 w_2 hg_3) [] rfl rfl rfl rfl ⟨(Nat.le_of_ble_eq_true rfl), (Nat.le_of_ble_eq_true rfl)⟩ hl.1 rfl rfl (Nat.le_of_ble_eq_true rfl) dJ0_checkIndex_df160_5 ⟨(Nat.le_of_ble_eq_true rfl), (Nat.le_of_ble_eq_true rfl)⟩) hP hD hS hA [] [] [] rfl rfl rfl (by decide) (fun _ => rfl) rfl (fun r u H locs hw hP hD hS => ?_)
  subst hw
  have hP : va_P G vwCl [] H := hP
  have hD : va_D A [] := hD
  refine lv_pop hx hb dJ0_checkIndex_df160_8 rfl ?_
  exact sw_rv hx hb hr hlocks hS () trivial hP hD dJ0_checkIndex_df160_9
theorem ms_J1_charAt_3b067 : sw_MS yJ1_charAt_3b067 cJ1_charAt_3b067 2 (Option.some Jvm.ClassFile.FieldType.char) 2 := ⟨st_J1_charAt_3b067, ini_J1, co_J1_charAt_3b067, by decide +kernel⟩
def F_J1_charAt_3b067 (x0 : Nat) (x1 : Int32) : Option (Int32) :=
 kl x0 6 ((F_J0_checkIndex_df160 x1 (sw_sl x0)).bind (fun w_2 => ix x1 (sw_len.getD x0 0) (some (((((sw_byt.getD x0 []).getD x1.toNatClampNeg 0) &&& 255).toUInt32 % 65536).toInt32))))
abbrev RM_J1_charAt_3b067 : Room := ({ frames := 2, cells := 0, slots := 0, locals := 43 } : Room)
set_option maxHeartbeats 4000000 in
set_option maxRecDepth 100000 in
theorem c_J1_charAt_3b067 (l : Launch) (G : va_G) (ca Z : Nat → Nat) (sz : Nat) (x0 : Nat) (x1 : Int32) (res : Int32) (hF : F_J1_charAt_3b067 x0 x1 = some res) : Met l yJ1_charAt_3b067 (.code yJ1_charAt_3b067 cJ1_charAt_3b067 2 (Option.some Jvm.ClassFile.FieldType.char) :: sw_U) RM_J1_charAt_3b067 (va_Pc [.ref (Z (40 + x0)), .int x1] (sw_Pre G ca Z [] sz)) ((fun A => va_Qi (fun r (u : Unit) => res = r) (sw_Post G A (fun (u : Unit) => [])) A) (va_A [] sz)) 0 0 (va_A [] sz) := by
  refine sw_ofW (Qc := fun A => va_Qi (fun r (u : Unit) => res = r) (sw_Post G A (fun (u : Unit) => [])) A) (by decide) [(0, .ref (Z (40 + x0))), (1, .int x1)] rfl (Nat.le_of_ble_eq_true rfl) ?_
  intro p e s m args below meth c ls A hx hb hr hml hown htU hlocks hnm hP hK hD hX hY hS hA hl
  have hown : s.vm.findClass RJ1 = some m.cls := hown
  have Cx : sw_Cx p s m args c cJ1_charAt_3b067 2 RJ1 G ca Z A := ⟨⟨hx, hb, hml, hown, htU⟩, hK, hX, hY, hA⟩
  have h := hF
  unfold F_J1_charAt_3b067 at h
  refine lv_iload_n hx hb dJ1_charAt_3b067_0 rfl (lv_at hl 1 rfl) ?_
  refine lv_aload_n hx hb dJ1_charAt_3b067_1 rfl (lv_at hl 0 rfl) ?_
  obtain ⟨hk_1, h⟩ := kl_at h
  refine va_tlen (v := (sw_sl x0)) hx hb (sw_sC hX hk_1).2.2 hS rfl dJ1_charAt_3b067_2 ?_
  obtain ⟨w_2, hg_3, h⟩ := bd_at h
  refine sw_cv (sw_runS (As := [.int x1, .int (sw_sl x0)]) (rest := []) Cx hP hD hS ms_J0_checkIndex_df160 ml_J1_9 (c_J0_checkIndex_df160 l G ca Z s.heap.size x1 (sw_sl x0) w_2 hg_3) [] rfl rfl rfl rfl ⟨(Nat.le_of_ble_eq_true rfl), (Nat.le_of_ble_eq_true rfl)⟩ hl.1 rfl rfl (Nat.le_of_ble_eq_true rfl) dJ1_charAt_3b067_3 ⟨(Nat.le_of_ble_eq_true rfl), (Nat.le_of_ble_eq_true rfl)⟩) hP hD hS hA [] [] [] rfl rfl rfl (by decide) (fun _ => rfl) rfl (fun u H locs hw hP hD hS => ?_)
  have hP : va_P G vwCl [] H := hP
  have hD : va_D A [] := hD
  refine lv_aload_n hx hb dJ1_charAt_3b067_6 rfl (lv_at hl 0 rfl) ?_
  refine lv_iload_n hx hb dJ1_charAt_3b067_7 rfl (lv_at hl 1 rfl) ?_
  obtain ⟨hi_4, h⟩ := ix_at h
  refine va_tb (v := .int ((sw_byt.getD x0 []).getD x1.toNatClampNeg 0)) hx hb (sw_sC hX hk_1).2.2 hS hi_4 rfl dJ1_charAt_3b067_8 ?_
  refine lv_sipush (v := 255) hx hb dJ1_charAt_3b067_9 (by decide) ?_
  refine lv_iand hx hb dJ1_charAt_3b067_12 ?_
  refine lv_i2c (v := ((((sw_byt.getD x0 []).getD x1.toNatClampNeg 0) &&& 255).toUInt32 % 65536).toInt32) hx hb dJ1_charAt_3b067_13 rfl ?_
  exact sw_rz hx hb hr (pk_nc _) hlocks hS () (pr1 h) hP hD dJ1_charAt_3b067_14
theorem nar_J1 {k : Nat} {i w : Int32} (h : F_J1_charAt_3b067 k i = some w) : narrow .char (.int w) = .int w := by
  unfold F_J1_charAt_3b067 at h
  obtain ⟨-, h⟩ := kl_at h
  obtain ⟨_, -, h⟩ := bd_at h
  obtain ⟨-, h⟩ := ix_at h
  cases h
  exact pk_nc _
theorem mv_J0_charAt_5068e : sw_MV yJ0_charAt_5068e RJ0 cJ0_charAt_5068e 2 (Option.some Jvm.ClassFile.FieldType.char) 1 := ⟨im_J0_charAt_5068e, se_J0_charAt_5068e, ini_J0, co_J0_charAt_5068e, by decide +kernel⟩
def F_J0_charAt_5068e (x0 : Nat) (x1 : Int32) : Option (Int32) :=
 kl x0 6 ((F_J0_isLatin1_aae02 x0).bind (fun w_2 => (if w_2 = true then (F_J1_charAt_3b067 x0 x1).bind (fun w_5 => some w_5) else none)))
abbrev RM_J0_charAt_5068e : Room := ({ frames := 3, cells := 0, slots := 0, locals := 64 } : Room)
set_option maxHeartbeats 4000000 in
set_option maxRecDepth 100000 in
theorem c_J0_charAt_5068e (l : Launch) (G : va_G) (ca Z : Nat → Nat) (sz : Nat) (x0 : Nat) (x1 : Int32) (res : Int32) (hF : F_J0_charAt_5068e x0 x1 = some res) : Met l yJ0_charAt_5068e (.code yJ0_charAt_5068e cJ0_charAt_5068e 2 (Option.some Jvm.ClassFile.FieldType.char) :: sw_U) RM_J0_charAt_5068e (va_Pc [.ref (Z (20 + x0)), .int x1] (sw_Pre G ca Z [] sz)) ((fun A => va_Qi (fun r (u : Unit) => res = r) (sw_Post G A (fun (u : Unit) => [])) A) (va_A [] sz)) 0 0 (va_A [] sz) := by
  refine sw_ofW (Qc := fun A => va_Qi (fun r (u : Unit) => res = r) (sw_Post G A (fun (u : Unit) => [])) A) (by decide) [(0, .ref (Z (20 + x0))), (1, .int x1)] rfl (Nat.le_of_ble_eq_true rfl) ?_
  intro p e s m args below meth c ls A hx hb hr hml hown htU hlocks hnm hP hK hD hX hY hS hA hl
  have hown : s.vm.findClass RJ0 = some m.cls := hown
  have Cx : sw_Cx p s m args c cJ0_charAt_5068e 2 RJ0 G ca Z A := ⟨⟨hx, hb, hml, hown, htU⟩, hK, hX, hY, hA⟩
  have h := hF
  unfold F_J0_charAt_5068e at h
  refine lv_aload_n hx hb dJ0_charAt_5068e_0 rfl (lv_at hl 0 rfl) ?_
  obtain ⟨hk_1, h⟩ := kl_at h
  obtain ⟨w_2, hg_3, h⟩ := bd_at h
  refine sw_ci (sw_runR (As := []) (rest := []) Cx hP hD hS mv_J0_isLatin1_aae02 ml_J0_492 (c_J0_isLatin1_aae02 l G ca Z s.heap.size x0 w_2 hg_3) (sw_rcS hX hS hk_1) [] rfl rfl rfl rfl ⟨(Nat.le_of_ble_eq_true rfl), (Nat.le_of_ble_eq_true rfl)⟩ hl.1 rfl rfl (Nat.le_of_ble_eq_true rfl) dJ0_charAt_5068e_1 ⟨(Nat.le_of_ble_eq_true rfl), (Nat.le_of_ble_eq_true rfl)⟩) hP hD hS hA [] [] [] rfl rfl rfl (by decide) (fun _ => rfl) rfl (fun r u H locs hw hP hD hS => ?_)
  subst hw
  have hP : va_P G vwCl [] H := hP
  have hD : va_D A [] := hD
  refine lv_if_eq (tgt := 16) hx hb dJ0_charAt_5068e_4 (by decide) (fun c_4 => ?_) (fun c_4 => ?_)
  · have c_4 := bI_z.mp c_4
    have h := if_f c_4 h
    exact no_at h
  · have c_4 := bI_nz.mp c_4
    have h := if_t c_4 h
    refine lv_aload_n hx hb dJ0_charAt_5068e_7 rfl (lv_at hl 0 rfl) ?_
    refine vk_getf (v := .ref (Z (40 + x0))) hx hb (sw_sC hX hk_1).2.1 hS hown (htU _ fl_J0_9) (fun _ h9 => h9) dJ0_charAt_5068e_8 ?_
    refine lv_iload_n hx hb dJ0_charAt_5068e_11 rfl (lv_at hl 1 rfl) ?_
    obtain ⟨w_5, hg_6, h⟩ := bd_at h
    refine sw_ci (sw_runS (As := [.ref (Z (40 + x0)), .int x1]) (rest := []) Cx hP hD hS ms_J1_charAt_3b067 ml_J0_495 (c_J1_charAt_3b067 l G ca Z H.size x0 x1 w_5 hg_6) [] rfl rfl rfl rfl ⟨(Nat.le_of_ble_eq_true rfl), (Nat.le_of_ble_eq_true rfl)⟩ hl.1 rfl rfl (Nat.le_of_ble_eq_true rfl) dJ0_charAt_5068e_12 ⟨(Nat.le_of_ble_eq_true rfl), (Nat.le_of_ble_eq_true rfl)⟩) hP hD hS hA [] [] [] rfl rfl rfl (by decide) (fun _ => rfl) rfl (fun r u H locs hw hP hD hS => ?_)
    subst hw
    have hP : va_P G vwCl [] H := hP
    have hD : va_D A [] := hD
    exact sw_rz hx hb hr (nar_J1 hg_6) hlocks hS () (pr1 h) hP hD dJ0_charAt_5068e_15
def F_Jx29ce0_ordinal_8abf5 (x0 : Nat) : Option (Int32) :=
 kl x0 9 (some (sw_oo x0))
abbrev RM_Jx29ce0_ordinal_8abf5 : Room := ({ frames := 0, cells := 0, slots := 0, locals := 0 } : Room)
set_option maxHeartbeats 4000000 in
set_option maxRecDepth 100000 in
theorem c_Jx29ce0_ordinal_8abf5 (l : Launch) (G : va_G) (ca Z : Nat → Nat) (sz : Nat) (x0 : Nat) (res : Int32) (hF : F_Jx29ce0_ordinal_8abf5 x0 = some res) : Met l yJx29ce0_ordinal_8abf5 (.code yJx29ce0_ordinal_8abf5 cJx29ce0_ordinal_8abf5 1 (Option.some Jvm.ClassFile.FieldType.int) :: sw_U) RM_Jx29ce0_ordinal_8abf5 (va_Pc [.ref (Z (10 + x0))] (sw_Pre G ca Z [] sz)) ((fun A => va_Qi (fun r (u : Unit) => res = r) (sw_Post G A (fun (u : Unit) => [])) A) (va_A [] sz)) 0 0 (va_A [] sz) := by
  refine sw_ofW (Qc := fun A => va_Qi (fun r (u : Unit) => res = r) (sw_Post G A (fun (u : Unit) => [])) A) (by decide) [(0, .ref (Z (10 + x0)))] rfl (Nat.le_of_ble_eq_true rfl) ?_
  intro p e s m args below meth c ls A hx hb hr hml hown htU hlocks hnm hP hK hD hX hY hS hA hl
  have hown : s.vm.findClass RJx29ce0 = some m.cls := hown
  have Cx : sw_Cx p s m args c cJx29ce0_ordinal_8abf5 1 RJx29ce0 G ca Z A := ⟨⟨hx, hb, hml, hown, htU⟩, hK, hX, hY, hA⟩
  have h := hF
  unfold F_Jx29ce0_ordinal_8abf5 at h
  refine lv_aload_n hx hb dJx29ce0_ordinal_8abf5_0 rfl (lv_at hl 0 rfl) ?_
  obtain ⟨hk_1, h⟩ := kl_at h
  refine vk_getf (v := .int (sw_oo x0)) hx hb (sw_oI hX hk_1 _ (List.mem_of_getElem? (i := 0) rfl)) hS hown (htU _ fl_Jx29ce0_7) (fun _ h9 => h9) dJx29ce0_ordinal_8abf5_1 ?_
  exact sw_ri hx hb hr hlocks hS () (pr1 h) hP hD dJx29ce0_ordinal_8abf5_4
