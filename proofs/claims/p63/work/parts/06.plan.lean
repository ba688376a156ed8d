theorem mv_X3_takeOver : sw_MV yX3_takeOver RX3 cX3_takeOver 2 (Option.none : Option Jvm.ClassFile.FieldType) 1 := ⟨im_X3_takeOver, se_X3_takeOver, ini_X3, co_X3_takeOver, by decide +kernel⟩
def F_X3_takeOver (t : PlanT) (a0 : PlanT) : Option (PlanT) :=
 nm ((t.2.2.2.2.2.2 + 1)) (fun f_1 => some (a0.1, a0.2.1, (va_cpy a0.2.2.1 t.2.2.1 0 0 12), a0.2.2.2.1, a0.2.2.2.2.1, (va_cpy a0.2.2.2.2.2.1 t.2.2.2.2.2.1 0 0 30), f_1))
abbrev RM_X3_takeOver : Room := ({ frames := 1, cells := 0, slots := 0, locals := 40 } : Room)
set_option maxHeartbeats 4000000 in
set_option maxRecDepth 100000 in
theorem c_X3_takeOver (l : Launch) (G : va_G) (ca Z : Nat → Nat) (q_t : Nat) (q_t_ds : Nat) (q_t_rooms : Nat) (q_a0 : Nat) (q_a0_ds : Nat) (q_a0_rooms : Nat) (sz : Nat) (t : PlanT) (a0 : PlanT) (res : PlanT) (hF : F_X3_takeOver t a0 = some res) : Met l yX3_takeOver (.code yX3_takeOver cX3_takeOver 2 (Option.none : Option Jvm.ClassFile.FieldType) :: sw_U) RM_X3_takeOver (va_Pc [.ref q_t, .ref q_a0] (sw_Pre G ca Z [(q_t, .inr (1, [.int t.1, .int t.2.1, .ref q_t_rooms, .int t.2.2.2.1, .int t.2.2.2.2.1, .ref q_t_ds, .int t.2.2.2.2.2.2])), (q_t_ds, .inl (ca 0, 30, .inl t.2.2.2.2.2.1)), (q_t_rooms, .inl (ca 0, 12, .inl t.2.2.1)), (q_a0, .inr (1, [.int a0.1, .int a0.2.1, .ref q_a0_rooms, .int a0.2.2.2.1, .int a0.2.2.2.2.1, .ref q_a0_ds, .int a0.2.2.2.2.2.2])), (q_a0_ds, .inl (ca 0, 30, .inl a0.2.2.2.2.2.1)), (q_a0_rooms, .inl (ca 0, 12, .inl a0.2.2.1))] sz)) ((fun A => va_Qv (fun (u : PlanT) => res = u) (sw_Post G A (fun (u : PlanT) => [(q_t, .inr (1, [.int u.1, .int u.2.1, .ref q_t_rooms, .int u.2.2.2.1, .int u.2.2.2.2.1, .ref q_t_ds, .int u.2.2.2.2.2.2])), (q_t_ds, .inl (ca 0, 30, .inl u.2.2.2.2.2.1)), (q_t_rooms, .inl (ca 0, 12, .inl u.2.2.1)), (q_a0, .inr (1, [.int a0.1, .int a0.2.1, .ref q_a0_rooms, .int a0.2.2.2.1, .int a0.2.2.2.2.1, .ref q_a0_ds, .int a0.2.2.2.2.2.2])), (q_a0_ds, .inl (ca 0, 30, .inl a0.2.2.2.2.2.1)), (q_a0_rooms, .inl (ca 0, 12, .inl a0.2.2.1))])) A) (va_A [(q_t, .inr (1, [.int t.1, .int t.2.1, .ref q_t_rooms, .int t.2.2.2.1, .int t.2.2.2.2.1, .ref q_t_ds, .int t.2.2.2.2.2.2])), (q_t_ds, .inl (ca 0, 30, .inl t.2.2.2.2.2.1)), (q_t_rooms, .inl (ca 0, 12, .inl t.2.2.1)), (q_a0, .inr (1, [.int a0.1, .int a0.2.1, .ref q_a0_rooms, .int a0.2.2.2.1, .int a0.2.2.2.2.1, .ref q_a0_ds, .int a0.2.2.2.2.2.2])), (q_a0_ds, .inl (ca 0, 30, .inl a0.2.2.2.2.2.1)), (q_a0_rooms, .inl (ca 0, 12, .inl a0.2.2.1))] sz)) 0 0 (va_A [(q_t, .inr (1, [.int t.1, .int t.2.1, .ref q_t_rooms, .int t.2.2.2.1, .int t.2.2.2.2.1, .ref q_t_ds, .int t.2.2.2.2.2.2])), (q_t_ds, .inl (ca 0, 30, .inl t.2.2.2.2.2.1)), (q_t_rooms, .inl (ca 0, 12, .inl t.2.2.1)), (q_a0, .inr (1, [.int a0.1, .int a0.2.1, .ref q_a0_rooms, .int a0.2.2.2.1, .int a0.2.2.2.2.1, .ref q_a0_ds, .int a0.2.2.2.2.2.2])), (q_a0_ds, .inl (ca 0, 30, .inl a0.2.2.2.2.2.1)), (q_a0_rooms, .inl (ca 0, 12, .inl a0.2.2.1))] sz) := by
  refine sw_ofW (Qc := fun A => va_Qv (fun (u : PlanT) => res = u) (sw_Post G A (fun (u : PlanT) => [(q_t, .inr (1, [.int u.1, .int u.2.1, .ref q_t_rooms, .int u.2.2.2.1, .int u.2.2.2.2.1, .ref q_t_ds, .int u.2.2.2.2.2.2])), (q_t_ds, .inl (ca 0, 30, .inl u.2.2.2.2.2.1)), (q_t_rooms, .inl (ca 0, 12, .inl u.2.2.1)), (q_a0, .inr (1, [.int a0.1, .int a0.2.1, .ref q_a0_rooms, .int a0.2.2.2.1, .int a0.2.2.2.2.1, .ref q_a0_ds, .int a0.2.2.2.2.2.2])), (q_a0_ds, .inl (ca 0, 30, .inl a0.2.2.2.2.2.1)), (q_a0_rooms, .inl (ca 0, 12, .inl a0.2.2.1))])) A) (by decide) [(0, .ref q_t), (1, .ref q_a0)] rfl (Nat.le_of_ble_eq_true rfl) ?_
  intro p e s m args below meth c ls A hx hb hr hml hown htU hlocks hnm hP hK hD hX hY hS hA hl
  have hown : s.vm.findClass RX3 = some m.cls := hown
  have Cx : sw_Cx p s m args c cX3_takeOver 2 RX3 G ca Z A := ⟨⟨hx, hb, hml, hown, htU⟩, hK, hX, hY, hA⟩
  have h := hF
  unfold F_X3_takeOver at h
  refine lv_aload_n hx hb dX3_takeOver_0 rfl (lv_at hl 0 rfl) ?_
  refine lv_aload_n hx hb dX3_takeOver_1 rfl (lv_at hl 1 rfl) ?_
  refine va_get (v := .int a0.1) hx hb htU iU_X3 hown hK hP 3 rfl rfl 0 (by decide) (htU _ fl_X3_9) (fun _ h9 => h9) rfl dX3_takeOver_2 ?_
  refine va_put (v := .int a0.1) (ty := .int) hx hb htU iU_X3 tyX3 tyX3_ok nmX3 hown hK hP hD hS 0 rfl rfl 0 (by decide) (htU _ fl_X3_9) (fun _ h9 => h9) rfl (by decide +kernel) rfl rfl (Nat.le_of_ble_eq_true rfl) dX3_takeOver_5 (fun H locs hP hD hS => ?_)
  have hP : va_P G vwCl [(q_t, .inr (1, [.int a0.1, .int t.2.1, .ref q_t_rooms, .int t.2.2.2.1, .int t.2.2.2.2.1, .ref q_t_ds, .int t.2.2.2.2.2.2])), (q_t_ds, .inl (ca 0, 30, .inl t.2.2.2.2.2.1)), (q_t_rooms, .inl (ca 0, 12, .inl t.2.2.1)), (q_a0, .inr (1, [.int a0.1, .int a0.2.1, .ref q_a0_rooms, .int a0.2.2.2.1, .int a0.2.2.2.2.1, .ref q_a0_ds, .int a0.2.2.2.2.2.2])), (q_a0_ds, .inl (ca 0, 30, .inl a0.2.2.2.2.2.1)), (q_a0_rooms, .inl (ca 0, 12, .inl a0.2.2.1))] H := hP
  have hD : va_D A [(q_t, .inr (1, [.int a0.1, .int t.2.1, .ref q_t_rooms, .int t.2.2.2.1, .int t.2.2.2.2.1, .ref q_t_ds, .int t.2.2.2.2.2.2])), (q_t_ds, .inl (ca 0, 30, .inl t.2.2.2.2.2.1)), (q_t_rooms, .inl (ca 0, 12, .inl t.2.2.1)), (q_a0, .inr (1, [.int a0.1, .int a0.2.1, .ref q_a0_rooms, .int a0.2.2.2.1, .int a0.2.2.2.2.1, .ref q_a0_ds, .int a0.2.2.2.2.2.2])), (q_a0_ds, .inl (ca 0, 30, .inl a0.2.2.2.2.2.1)), (q_a0_rooms, .inl (ca 0, 12, .inl a0.2.2.1))] := hD
  refine lv_aload_n hx hb dX3_takeOver_8 rfl (lv_at hl 0 rfl) ?_
  refine lv_aload_n hx hb dX3_takeOver_9 rfl (lv_at hl 1 rfl) ?_
  refine va_get (v := .int a0.2.1) hx hb htU iU_X3 hown hK hP 3 rfl rfl 1 (by decide) (htU _ fl_X3_15) (fun _ h9 => h9) rfl dX3_takeOver_10 ?_
  refine va_put (v := .int a0.2.1) (ty := .int) hx hb htU iU_X3 tyX3 tyX3_ok nmX3 hown hK hP hD hS 0 rfl rfl 1 (by decide) (htU _ fl_X3_15) (fun _ h9 => h9) rfl (by decide +kernel) rfl rfl (Nat.le_of_ble_eq_true rfl) dX3_takeOver_13 (fun H locs hP hD hS => ?_)
  have hP : va_P G vwCl [(q_t, .inr (1, [.int a0.1, .int a0.2.1, .ref q_t_rooms, .int t.2.2.2.1, .int t.2.2.2.2.1, .ref q_t_ds, .int t.2.2.2.2.2.2])), (q_t_ds, .inl (ca 0, 30, .inl t.2.2.2.2.2.1)), (q_t_rooms, .inl (ca 0, 12, .inl t.2.2.1)), (q_a0, .inr (1, [.int a0.1, .int a0.2.1, .ref q_a0_rooms, .int a0.2.2.2.1, .int a0.2.2.2.2.1, .ref q_a0_ds, .int a0.2.2.2.2.2.2])), (q_a0_ds, .inl (ca 0, 30, .inl a0.2.2.2.2.2.1)), (q_a0_rooms, .inl (ca 0, 12, .inl a0.2.2.1))] H := hP
  have hD : va_D A [(q_t, .inr (1, [.int a0.1, .int a0.2.1, .ref q_t_rooms, .int t.2.2.2.1, .int t.2.2.2.2.1, .ref q_t_ds, .int t.2.2.2.2.2.2])), (q_t_ds, .inl (ca 0, 30, .inl t.2.2.2.2.2.1)), (q_t_rooms, .inl (ca 0, 12, .inl t.2.2.1)), (q_a0, .inr (1, [.int a0.1, .int a0.2.1, .ref q_a0_rooms, .int a0.2.2.2.1, .int a0.2.2.2.2.1, .ref q_a0_ds, .int a0.2.2.2.2.2.2])), (q_a0_ds, .inl (ca 0, 30, .inl a0.2.2.2.2.2.1)), (q_a0_rooms, .inl (ca 0, 12, .inl a0.2.2.1))] := hD
  refine lv_aload_n hx hb dX3_takeOver_16 rfl (lv_at hl 0 rfl) ?_
  refine lv_aload_n hx hb dX3_takeOver_17 rfl (lv_at hl 1 rfl) ?_
  refine va_get (v := .int a0.2.2.2.1) hx hb htU iU_X3 hown hK hP 3 rfl rfl 3 (by decide) (htU _ fl_X3_22) (fun _ h9 => h9) rfl dX3_takeOver_18 ?_
  refine va_put (v := .int a0.2.2.2.1) (ty := .int) hx hb htU iU_X3 tyX3 tyX3_ok nmX3 hown hK hP hD hS 0 rfl rfl 3 (by decide) (htU _ fl_X3_22) (fun _ h9 => h9) rfl (by decide +kernel) rfl rfl (Nat.le_of_ble_eq_true rfl) dX3_takeOver_21 (fun H locs hP hD hS => ?_)
  have hP : va_P G vwCl [(q_t, .inr (1, [.int a0.1, .int a0.2.1, .ref q_t_rooms, .int a0.2.2.2.1, .int t.2.2.2.2.1, .ref q_t_ds, .int t.2.2.2.2.2.2])), (q_t_ds, .inl (ca 0, 30, .inl t.2.2.2.2.2.1)), (q_t_rooms, .inl (ca 0, 12, .inl t.2.2.1)), (q_a0, .inr (1, [.int a0.1, .int a0.2.1, .ref q_a0_rooms, .int a0.2.2.2.1, .int a0.2.2.2.2.1, .ref q_a0_ds, .int a0.2.2.2.2.2.2])), (q_a0_ds, .inl (ca 0, 30, .inl a0.2.2.2.2.2.1)), (q_a0_rooms, .inl (ca 0, 12, .inl a0.2.2.1))] H := hP
  have hD : va_D A [(q_t, .inr (1, [.int a0.1, .int a0.2.1, .ref q_t_rooms, .int a0.2.2.2.1, .int t.2.2.2.2.1, .ref q_t_ds, .int t.2.2.2.2.2.2])), (q_t_ds, .inl (ca 0, 30, .inl t.2.2.2.2.2.1)), (q_t_rooms, .inl (ca 0, 12, .inl t.2.2.1)), (q_a0, .inr (1, [.int a0.1, .int a0.2.1, .ref q_a0_rooms, .int a0.2.2.2.1, .int a0.2.2.2.2.1, .ref q_a0_ds, .int a0.2.2.2.2.2.2])), (q_a0_ds, .inl (ca 0, 30, .inl a0.2.2.2.2.2.1)), (q_a0_rooms, .inl (ca 0, 12, .inl a0.2.2.1))] := hD
  refine lv_aload_n hx hb dX3_takeOver_24 rfl (lv_at hl 0 rfl) ?_
  refine lv_aload_n hx hb dX3_takeOver_25 rfl (lv_at hl 1 rfl) ?_
  refine va_get (v := .int a0.2.2.2.2.1) hx hb htU iU_X3 hown hK hP 3 rfl rfl 4 (by decide) (htU _ fl_X3_25) (fun _ h9 => h9) rfl dX3_takeOver_26 ?_
  refine va_put (v := .int a0.2.2.2.2.1) (ty := .int) hx hb htU iU_X3 tyX3 tyX3_ok nmX3 hown hK hP hD hS 0 rfl rfl 4 (by decide) (htU _ fl_X3_25) (fun _ h9 => h9) rfl (by decide +kernel) rfl rfl (Nat.le_of_ble_eq_true rfl) dX3_takeOver_29 (fun H locs hP hD hS => ?_)
  have hP : va_P G vwCl [(q_t, .inr (1, [.int a0.1, .int a0.2.1, .ref q_t_rooms, .int a0.2.2.2.1, .int a0.2.2.2.2.1, .ref q_t_ds, .int t.2.2.2.2.2.2])), (q_t_ds, .inl (ca 0, 30, .inl t.2.2.2.2.2.1)), (q_t_rooms, .inl (ca 0, 12, .inl t.2.2.1)), (q_a0, .inr (1, [.int a0.1, .int a0.2.1, .ref q_a0_rooms, .int a0.2.2.2.1, .int a0.2.2.2.2.1, .ref q_a0_ds, .int a0.2.2.2.2.2.2])), (q_a0_ds, .inl (ca 0, 30, .inl a0.2.2.2.2.2.1)), (q_a0_rooms, .inl (ca 0, 12, .inl a0.2.2.1))] H := hP
  have hD : va_D A [(q_t, .inr (1, [.int a0.1, .int a0.2.1, .ref q_t_rooms, .int a0.2.2.2.1, .int a0.2.2.2.2.1, .ref q_t_ds, .int t.2.2.2.2.2.2])), (q_t_ds, .inl (ca 0, 30, .inl t.2.2.2.2.2.1)), (q_t_rooms, .inl (ca 0, 12, .inl t.2.2.1)), (q_a0, .inr (1, [.int a0.1, .int a0.2.1, .ref q_a0_rooms, .int a0.2.2.2.1, .int a0.2.2.2.2.1, .ref q_a0_ds, .int a0.2.2.2.2.2.2])), (q_a0_ds, .inl (ca 0, 30, .inl a0.2.2.2.2.2.1)), (q_a0_rooms, .inl (ca 0, 12, .inl a0.2.2.1))] := hD
  refine lv_aload_n hx hb dX3_takeOver_32 rfl (lv_at hl 1 rfl) ?_
  refine va_get (v := .ref q_a0_rooms) hx hb htU iU_X3 hown hK hP 3 rfl rfl 2 (by decide) (htU _ fl_X3_18) (fun _ h9 => h9) rfl dX3_takeOver_33 ?_
  refine lv_iconst (v := 0) hx hb dX3_takeOver_36 (by decide) ?_
  refine lv_aload_n hx hb dX3_takeOver_37 rfl (lv_at hl 0 rfl) ?_
  refine va_get (v := .ref q_t_rooms) hx hb htU iU_X3 hown hK hP 0 rfl rfl 2 (by decide) (htU _ fl_X3_18) (fun _ h9 => h9) rfl dX3_takeOver_38 ?_
  refine lv_iconst (v := 0) hx hb dX3_takeOver_41 (by decide) ?_
  refine lv_bipush (v := 12) hx hb dX3_takeOver_42 (by decide) ?_
  refine va_copyi hx hb (hml.trans hl.1.symm) hown (htU _ ac_X3_34) (htU _ ac_nat) (htU _ ac_st) (htU _ ac_ini) hK hP hD hS 5 2 0 0 rfl rfl rfl rfl rfl (by decide) (by decide) (by decide) (by decide) (by decide) (fun _ _ => rfl) (Nat.le_of_ble_eq_true rfl) (Nat.le_of_ble_eq_true rfl) dX3_takeOver_44 (fun H locs hP hD hS => ?_)
  have hP : va_P G vwCl [(q_t, .inr (1, [.int a0.1, .int a0.2.1, .ref q_t_rooms, .int a0.2.2.2.1, .int a0.2.2.2.2.1, .ref q_t_ds, .int t.2.2.2.2.2.2])), (q_t_ds, .inl (ca 0, 30, .inl t.2.2.2.2.2.1)), (q_t_rooms, .inl (ca 0, 12, .inl (va_cpy a0.2.2.1 t.2.2.1 0 0 12))), (q_a0, .inr (1, [.int a0.1, .int a0.2.1, .ref q_a0_rooms, .int a0.2.2.2.1, .int a0.2.2.2.2.1, .ref q_a0_ds, .int a0.2.2.2.2.2.2])), (q_a0_ds, .inl (ca 0, 30, .inl a0.2.2.2.2.2.1)), (q_a0_rooms, .inl (ca 0, 12, .inl a0.2.2.1))] H := hP
  have hD : va_D A [(q_t, .inr (1, [.int a0.1, .int a0.2.1, .ref q_t_rooms, .int a0.2.2.2.1, .int a0.2.2.2.2.1, .ref q_t_ds, .int t.2.2.2.2.2.2])), (q_t_ds, .inl (ca 0, 30, .inl t.2.2.2.2.2.1)), (q_t_rooms, .inl (ca 0, 12, .inl (va_cpy a0.2.2.1 t.2.2.1 0 0 12))), (q_a0, .inr (1, [.int a0.1, .int a0.2.1, .ref q_a0_rooms, .int a0.2.2.2.1, .int a0.2.2.2.2.1, .ref q_a0_ds, .int a0.2.2.2.2.2.2])), (q_a0_ds, .inl (ca 0, 30, .inl a0.2.2.2.2.2.1)), (q_a0_rooms, .inl (ca 0, 12, .inl a0.2.2.1))] := hD
  refine lv_aload_n hx hb dX3_takeOver_47 rfl (lv_at hl 1 rfl) ?_
  refine va_get (v := .ref q_a0_ds) hx hb htU iU_X3 hown hK hP 3 rfl rfl 5 (by decide) (htU _ fl_X3_28) (fun _ h9 => h9) rfl dX3_takeOver_48 ?_
  refine lv_iconst (v := 0) hx hb dX3_takeOver_51 (by decide) ?_
  refine lv_aload_n hx hb dX3_takeOver_52 rfl (lv_at hl 0 rfl) ?_
  refine va_get (v := .ref q_t_ds) hx hb htU iU_X3 hown hK hP 0 rfl rfl 5 (by decide) (htU _ fl_X3_28) (fun _ h9 => h9) rfl dX3_takeOver_53 ?_
  refine lv_iconst (v := 0) hx hb dX3_takeOver_56 (by decide) ?_
  refine lv_bipush (v := 30) hx hb dX3_takeOver_57 (by decide) ?_
  refine va_copyi hx hb (hml.trans hl.1.symm) hown (htU _ ac_X3_34) (htU _ ac_nat) (htU _ ac_st) (htU _ ac_ini) hK hP hD hS 4 1 0 0 rfl rfl rfl rfl rfl (by decide) (by decide) (by decide) (by decide) (by decide) (fun _ _ => rfl) (Nat.le_of_ble_eq_true rfl) (Nat.le_of_ble_eq_true rfl) dX3_takeOver_59 (fun H locs hP hD hS => ?_)
  have hP : va_P G vwCl [(q_t, .inr (1, [.int a0.1, .int a0.2.1, .ref q_t_rooms, .int a0.2.2.2.1, .int a0.2.2.2.2.1, .ref q_t_ds, .int t.2.2.2.2.2.2])), (q_t_ds, .inl (ca 0, 30, .inl (va_cpy a0.2.2.2.2.2.1 t.2.2.2.2.2.1 0 0 30))), (q_t_rooms, .inl (ca 0, 12, .inl (va_cpy a0.2.2.1 t.2.2.1 0 0 12))), (q_a0, .inr (1, [.int a0.1, .int a0.2.1, .ref q_a0_rooms, .int a0.2.2.2.1, .int a0.2.2.2.2.1, .ref q_a0_ds, .int a0.2.2.2.2.2.2])), (q_a0_ds, .inl (ca 0, 30, .inl a0.2.2.2.2.2.1)), (q_a0_rooms, .inl (ca 0, 12, .inl a0.2.2.1))] H := hP
  have hD : va_D A [(q_t, .inr (1, [.int a0.1, .int a0.2.1, .ref q_t_rooms, .int a0.2.2.2.1, .int a0.2.2.2.2.1, .ref q_t_ds, .int t.2.2.2.2.2.2])), (q_t_ds, .inl (ca 0, 30, .inl (va_cpy a0.2.2.2.2.2.1 t.2.2.2.2.2.1 0 0 30))), (q_t_rooms, .inl (ca 0, 12, .inl (va_cpy a0.2.2.1 t.2.2.1 0 0 12))), (q_a0, .inr (1, [.int a0.1, .int a0.2.1, .ref q_a0_rooms, .int a0.2.2.2.1, .int a0.2.2.2.2.1, .ref q_a0_ds, .int a0.2.2.2.2.2.2])), (q_a0_ds, .inl (ca 0, 30, .inl a0.2.2.2.2.2.1)), (q_a0_rooms, .inl (ca 0, 12, .inl a0.2.2.1))] := hD
  refine lv_aload_n hx hb dX3_takeOver_62 rfl (lv_at hl 0 rfl) ?_
  refine lv_dup hx hb dX3_takeOver_63 rfl ?_
  refine va_get (v := .int t.2.2.2.2.2.2) hx hb htU iU_X3 hown hK hP 0 rfl rfl 6 (by decide) (htU _ fl_X3_31) (fun _ h9 => h9) rfl dX3_takeOver_64 ?_
  refine lv_iconst (v := 1) hx hb dX3_takeOver_67 (by decide) ?_
  refine lv_iadd hx hb dX3_takeOver_68 ?_
  refine lv_topi (fun f_1 e_f_1 => ?_)
  have h := nm_at e_f_1 h
  refine va_put (v := .int f_1) (ty := .int) hx hb htU iU_X3 tyX3 tyX3_ok nmX3 hown hK hP hD hS 0 rfl rfl 6 (by decide) (htU _ fl_X3_31) (fun _ h9 => h9) rfl (by decide +kernel) rfl rfl (Nat.le_of_ble_eq_true rfl) dX3_takeOver_69 (fun H locs hP hD hS => ?_)
  have hP : va_P G vwCl [(q_t, .inr (1, [.int a0.1, .int a0.2.1, .ref q_t_rooms, .int a0.2.2.2.1, .int a0.2.2.2.2.1, .ref q_t_ds, .int f_1])), (q_t_ds, .inl (ca 0, 30, .inl (va_cpy a0.2.2.2.2.2.1 t.2.2.2.2.2.1 0 0 30))), (q_t_rooms, .inl (ca 0, 12, .inl (va_cpy a0.2.2.1 t.2.2.1 0 0 12))), (q_a0, .inr (1, [.int a0.1, .int a0.2.1, .ref q_a0_rooms, .int a0.2.2.2.1, .int a0.2.2.2.2.1, .ref q_a0_ds, .int a0.2.2.2.2.2.2])), (q_a0_ds, .inl (ca 0, 30, .inl a0.2.2.2.2.2.1)), (q_a0_rooms, .inl (ca 0, 12, .inl a0.2.2.1))] H := hP
  have hD : va_D A [(q_t, .inr (1, [.int a0.1, .int a0.2.1, .ref q_t_rooms, .int a0.2.2.2.1, .int a0.2.2.2.2.1, .ref q_t_ds, .int f_1])), (q_t_ds, .inl (ca 0, 30, .inl (va_cpy a0.2.2.2.2.2.1 t.2.2.2.2.2.1 0 0 30))), (q_t_rooms, .inl (ca 0, 12, .inl (va_cpy a0.2.2.1 t.2.2.1 0 0 12))), (q_a0, .inr (1, [.int a0.1, .int a0.2.1, .ref q_a0_rooms, .int a0.2.2.2.1, .int a0.2.2.2.2.1, .ref q_a0_ds, .int a0.2.2.2.2.2.2])), (q_a0_ds, .inl (ca 0, 30, .inl a0.2.2.2.2.2.1)), (q_a0_rooms, .inl (ca 0, 12, .inl a0.2.2.1))] := hD
  exact sw_rv hx hb hr hlocks hS (a0.1, a0.2.1, (va_cpy a0.2.2.1 t.2.2.1 0 0 12), a0.2.2.2.1, a0.2.2.2.2.1, (va_cpy a0.2.2.2.2.2.1 t.2.2.2.2.2.1 0 0 30), f_1) (pr1 h) hP hD dX3_takeOver_72
theorem mv_X3_beginWith : sw_MV yX3_beginWith RX3 cX3_beginWith 2 (Option.none : Option Jvm.ClassFile.FieldType) 1 := ⟨im_X3_beginWith, se_X3_beginWith, ini_X3, co_X3_beginWith, by decide +kernel⟩
def F_X3_beginWith (x1 : Int32) (t : PlanT) : Option (PlanT) :=
 nm ((t.2.2.2.2.2.2 + 1)) (fun f_1 => some (x1, 0, t.2.2.1, 1, 0, t.2.2.2.2.2.1, f_1))
abbrev RM_X3_beginWith : Room := ({ frames := 0, cells := 0, slots := 0, locals := 0 } : Room)
set_option maxHeartbeats 4000000 in
set_option maxRecDepth 100000 in
theorem c_X3_beginWith (l : Launch) (G : va_G) (ca Z : Nat → Nat) (q_t : Nat) (z_t_rooms : Value) (z_t_ds : Value) (sz : Nat) (x1 : Int32) (t : PlanT) (res : PlanT) (hF : F_X3_beginWith x1 t = some res) : Met l yX3_beginWith (.code yX3_beginWith cX3_beginWith 2 (Option.none : Option Jvm.ClassFile.FieldType) :: sw_U) RM_X3_beginWith (va_Pc [.ref q_t, .int x1] (sw_Pre G ca Z [(q_t, .inr (1, [.int t.1, .int t.2.1, z_t_rooms, .int t.2.2.2.1, .int t.2.2.2.2.1, z_t_ds, .int t.2.2.2.2.2.2]))] sz)) ((fun A => va_Qv (fun (u : PlanT) => res = u) (sw_Post G A (fun (u : PlanT) => [(q_t, .inr (1, [.int u.1, .int u.2.1, z_t_rooms, .int u.2.2.2.1, .int u.2.2.2.2.1, z_t_ds, .int u.2.2.2.2.2.2]))])) A) (va_A [(q_t, .inr (1, [.int t.1, .int t.2.1, z_t_rooms, .int t.2.2.2.1, .int t.2.2.2.2.1, z_t_ds, .int t.2.2.2.2.2.2]))] sz)) 0 0 (va_A [(q_t, .inr (1, [.int t.1, .int t.2.1, z_t_rooms, .int t.2.2.2.1, .int t.2.2.2.2.1, z_t_ds, .int t.2.2.2.2.2.2]))] sz) := by
  refine sw_ofW (Qc := fun A => va_Qv (fun (u : PlanT) => res = u) (sw_Post G A (fun (u : PlanT) => [(q_t, .inr (1, [.int u.1, .int u.2.1, z_t_rooms, .int u.2.2.2.1, .int u.2.2.2.2.1, z_t_ds, .int u.2.2.2.2.2.2]))])) A) (by decide) [(0, .ref q_t), (1, .int x1)] rfl (Nat.le_of_ble_eq_true rfl) ?_
  intro p e s m args below meth c ls A hx hb hr hml hown htU hlocks hnm hP hK hD hX hY hS hA hl
  have hown : s.vm.findClass RX3 = some m.cls := hown
  have Cx : sw_Cx p s m args c cX3_beginWith 2 RX3 G ca Z A := ⟨⟨hx, hb, hml, hown, htU⟩, hK, hX, hY, hA⟩
  have h := hF
  unfold F_X3_beginWith at h
  refine lv_aload_n hx hb dX3_beginWith_0 rfl (lv_at hl 0 rfl) ?_
  refine lv_iload_n hx hb dX3_beginWith_1 rfl (lv_at hl 1 rfl) ?_
  refine va_put (v := .int x1) (ty := .int) hx hb htU iU_X3 tyX3 tyX3_ok nmX3 hown hK hP hD hS 0 rfl rfl 0 (by decide) (htU _ fl_X3_9) (fun _ h9 => h9) rfl (by decide +kernel) rfl rfl (Nat.le_of_ble_eq_true rfl) dX3_beginWith_2 (fun H locs hP hD hS => ?_)
  have hP : va_P G vwCl [(q_t, .inr (1, [.int x1, .int t.2.1, z_t_rooms, .int t.2.2.2.1, .int t.2.2.2.2.1, z_t_ds, .int t.2.2.2.2.2.2]))] H := hP
  have hD : va_D A [(q_t, .inr (1, [.int x1, .int t.2.1, z_t_rooms, .int t.2.2.2.1, .int t.2.2.2.2.1, z_t_ds, .int t.2.2.2.2.2.2]))] := hD
  refine lv_aload_n hx hb dX3_beginWith_5 rfl (lv_at hl 0 rfl) ?_
  refine lv_iconst (v := 0) hx hb dX3_beginWith_6 (by decide) ?_
  refine va_put (v := .int 0) (ty := .int) hx hb htU iU_X3 tyX3 tyX3_ok nmX3 hown hK hP hD hS 0 rfl rfl 1 (by decide) (htU _ fl_X3_15) (fun _ h9 => h9) rfl (by decide +kernel) rfl rfl (Nat.le_of_ble_eq_true rfl) dX3_beginWith_7 (fun H locs hP hD hS => ?_)
  have hP : va_P G vwCl [(q_t, .inr (1, [.int x1, .int 0, z_t_rooms, .int t.2.2.2.1, .int t.2.2.2.2.1, z_t_ds, .int t.2.2.2.2.2.2]))] H := hP
  have hD : va_D A [(q_t, .inr (1, [.int x1, .int 0, z_t_rooms, .int t.2.2.2.1, .int t.2.2.2.2.1, z_t_ds, .int t.2.2.2.2.2.2]))] := hD
  refine lv_aload_n hx hb dX3_beginWith_10 rfl (lv_at hl 0 rfl) ?_
  refine lv_iconst (v := 1) hx hb dX3_beginWith_11 (by decide) ?_
  refine va_put (v := .int 1) (ty := .int) hx hb htU iU_X3 tyX3 tyX3_ok nmX3 hown hK hP hD hS 0 rfl rfl 3 (by decide) (htU _ fl_X3_22) (fun _ h9 => h9) rfl (by decide +kernel) rfl rfl (Nat.le_of_ble_eq_true rfl) dX3_beginWith_12 (fun H locs hP hD hS => ?_)
  have hP : va_P G vwCl [(q_t, .inr (1, [.int x1, .int 0, z_t_rooms, .int 1, .int t.2.2.2.2.1, z_t_ds, .int t.2.2.2.2.2.2]))] H := hP
  have hD : va_D A [(q_t, .inr (1, [.int x1, .int 0, z_t_rooms, .int 1, .int t.2.2.2.2.1, z_t_ds, .int t.2.2.2.2.2.2]))] := hD
  refine lv_aload_n hx hb dX3_beginWith_15 rfl (lv_at hl 0 rfl) ?_
  refine lv_iconst (v := 0) hx hb dX3_beginWith_16 (by decide) ?_
  refine va_put (v := .int 0) (ty := .int) hx hb htU iU_X3 tyX3 tyX3_ok nmX3 hown hK hP hD hS 0 rfl rfl 4 (by decide) (htU _ fl_X3_25) (fun _ h9 => h9) rfl (by decide +kernel) rfl rfl (Nat.le_of_ble_eq_true rfl) dX3_beginWith_17 (fun H locs hP hD hS => ?_)
  have hP : va_P G vwCl [(q_t, .inr (1, [.int x1, .int 0, z_t_rooms, .int 1, .int 0, z_t_ds, .int t.2.2.2.2.2.2]))] H := hP
  have hD : va_D A [(q_t, .inr (1, [.int x1, .int 0, z_t_rooms, .int 1, .int 0, z_t_ds, .int t.2.2.2.2.2.2]))] := hD
  refine lv_aload_n hx hb dX3_beginWith_20 rfl (lv_at hl 0 rfl) ?_
  refine lv_dup hx hb dX3_beginWith_21 rfl ?_
  refine va_get (v := .int t.2.2.2.2.2.2) hx hb htU iU_X3 hown hK hP 0 rfl rfl 6 (by decide) (htU _ fl_X3_31) (fun _ h9 => h9) rfl dX3_beginWith_22 ?_
  refine lv_iconst (v := 1) hx hb dX3_beginWith_25 (by decide) ?_
  refine lv_iadd hx hb dX3_beginWith_26 ?_
  refine lv_topi (fun f_1 e_f_1 => ?_)
  have h := nm_at e_f_1 h
  refine va_put (v := .int f_1) (ty := .int) hx hb htU iU_X3 tyX3 tyX3_ok nmX3 hown hK hP hD hS 0 rfl rfl 6 (by decide) (htU _ fl_X3_31) (fun _ h9 => h9) rfl (by decide +kernel) rfl rfl (Nat.le_of_ble_eq_true rfl) dX3_beginWith_27 (fun H locs hP hD hS => ?_)
  have hP : va_P G vwCl [(q_t, .inr (1, [.int x1, .int 0, z_t_rooms, .int 1, .int 0, z_t_ds, .int f_1]))] H := hP
  have hD : va_D A [(q_t, .inr (1, [.int x1, .int 0, z_t_rooms, .int 1, .int 0, z_t_ds, .int f_1]))] := hD
  exact sw_rv hx hb hr hlocks hS (x1, 0, t.2.2.1, 1, 0, t.2.2.2.2.2.1, f_1) (pr1 h) hP hD dX3_beginWith_30
theorem mv_X3_version : sw_MV yX3_version RX3 cX3_version 1 (Option.some Jvm.ClassFile.FieldType.int) 0 := ⟨im_X3_version, se_X3_version, ini_X3, co_X3_version, by decide +kernel⟩
def F_X3_version (t : PlanT) : Option (Int32) :=
 some t.2.2.2.2.2.2
abbrev RM_X3_version : Room := ({ frames := 0, cells := 0, slots := 0, locals := 0 } : Room)
set_option maxHeartbeats 4000000 in
set_option maxRecDepth 100000 in
theorem c_X3_version (l : Launch) (G : va_G) (ca Z : Nat → Nat) (q_t : Nat) (z_t_rooms : Value) (z_t_ds : Value) (sz : Nat) (t : PlanT) (res : Int32) (hF : F_X3_version t = some res) : Met l yX3_version (.code yX3_version cX3_version 1 (Option.some Jvm.ClassFile.FieldType.int) :: sw_U) RM_X3_version (va_Pc [.ref q_t] (sw_Pre G ca Z [(q_t, .inr (1, [.int t.1, .int t.2.1, z_t_rooms, .int t.2.2.2.1, .int t.2.2.2.2.1, z_t_ds, .int t.2.2.2.2.2.2]))] sz)) ((fun A => va_Qi (fun r (u : Unit) => res = r) (sw_Post G A (fun (u : Unit) => [(q_t, .inr (1, [.int t.1, .int t.2.1, z_t_rooms, .int t.2.2.2.1, .int t.2.2.2.2.1, z_t_ds, .int t.2.2.2.2.2.2]))])) A) (va_A [(q_t, .inr (1, [.int t.1, .int t.2.1, z_t_rooms, .int t.2.2.2.1, .int t.2.2.2.2.1, z_t_ds, .int t.2.2.2.2.2.2]))] sz)) 0 0 (va_A [(q_t, .inr (1, [.int t.1, .int t.2.1, z_t_rooms, .int t.2.2.2.1, .int t.2.2.2.2.1, z_t_ds, .int t.2.2.2.2.2.2]))] sz) := by
  refine sw_ofW (Qc := fun A => va_Qi (fun r (u : Unit) => res = r) (sw_Post G A (fun (u : Unit) => [(q_t, .inr (1, [.int t.1, .int t.2.1, z_t_rooms, .int t.2.2.2.1, .int t.2.2.2.2.1, z_t_ds, .int t.2.2.2.2.2.2]))])) A) (by decide) [(0, .ref q_t)] rfl (Nat.le_of_ble_eq_true rfl) ?_
  intro p e s m args below meth c ls A hx hb hr hml hown htU hlocks hnm hP hK hD hX hY hS hA hl
  have hown : s.vm.findClass RX3 = some m.cls := hown
  have Cx : sw_Cx p s m args c cX3_version 1 RX3 G ca Z A := ⟨⟨hx, hb, hml, hown, htU⟩, hK, hX, hY, hA⟩
  have h := hF
  unfold F_X3_version at h
  refine lv_aload_n hx hb dX3_version_0 rfl (lv_at hl 0 rfl) ?_
  refine va_get (v := .int t.2.2.2.2.2.2) hx hb htU iU_X3 hown hK hP 0 rfl rfl 6 (by decide) (htU _ fl_X3_31) (fun _ h9 => h9) rfl dX3_version_1 ?_
  exact sw_ri hx hb hr hlocks hS () (pr1 h) hP hD dX3_version_4
theorem mv_X3_wheelNow : sw_MV yX3_wheelNow RX3 cX3_wheelNow 1 (Option.some Jvm.ClassFile.FieldType.int) 0 := ⟨im_X3_wheelNow, se_X3_wheelNow, ini_X3, co_X3_wheelNow, by decide +kernel⟩
def F_X3_wheelNow (t : PlanT) : Option (Int32) :=
 some t.1
abbrev RM_X3_wheelNow : Room := ({ frames := 0, cells := 0, slots := 0, locals := 0 } : Room)
set_option maxHeartbeats 4000000 in
set_option maxRecDepth 100000 in
theorem c_X3_wheelNow (l : Launch) (G : va_G) (ca Z : Nat → Nat) (q_t : Nat) (z_t_rooms : Value) (z_t_ds : Value) (sz : Nat) (t : PlanT) (res : Int32) (hF : F_X3_wheelNow t = some res) : Met l yX3_wheelNow (.code yX3_wheelNow cX3_wheelNow 1 (Option.some Jvm.ClassFile.FieldType.int) :: sw_U) RM_X3_wheelNow (va_Pc [.ref q_t] (sw_Pre G ca Z [(q_t, .inr (1, [.int t.1, .int t.2.1, z_t_rooms, .int t.2.2.2.1, .int t.2.2.2.2.1, z_t_ds, .int t.2.2.2.2.2.2]))] sz)) ((fun A => va_Qi (fun r (u : Unit) => res = r) (sw_Post G A (fun (u : Unit) => [(q_t, .inr (1, [.int t.1, .int t.2.1, z_t_rooms, .int t.2.2.2.1, .int t.2.2.2.2.1, z_t_ds, .int t.2.2.2.2.2.2]))])) A) (va_A [(q_t, .inr (1, [.int t.1, .int t.2.1, z_t_rooms, .int t.2.2.2.1, .int t.2.2.2.2.1, z_t_ds, .int t.2.2.2.2.2.2]))] sz)) 0 0 (va_A [(q_t, .inr (1, [.int t.1, .int t.2.1, z_t_rooms, .int t.2.2.2.1, .int t.2.2.2.2.1, z_t_ds, .int t.2.2.2.2.2.2]))] sz) := by
  refine sw_ofW (Qc := fun A => va_Qi (fun r (u : Unit) => res = r) (sw_Post G A (fun (u : Unit) => [(q_t, .inr (1, [.int t.1, .int t.2.1, z_t_rooms, .int t.2.2.2.1, .int t.2.2.2.2.1, z_t_ds, .int t.2.2.2.2.2.2]))])) A) (by decide) [(0, .ref q_t)] rfl (Nat.le_of_ble_eq_true rfl) ?_
  intro p e s m args below meth c ls A hx hb hr hml hown htU hlocks hnm hP hK hD hX hY hS hA hl
  have hown : s.vm.findClass RX3 = some m.cls := hown
  have Cx : sw_Cx p s m args c cX3_wheelNow 1 RX3 G ca Z A := ⟨⟨hx, hb, hml, hown, htU⟩, hK, hX, hY, hA⟩
  have h := hF
  unfold F_X3_wheelNow at h
  refine lv_aload_n hx hb dX3_wheelNow_0 rfl (lv_at hl 0 rfl) ?_
  refine va_get (v := .int t.1) hx hb htU iU_X3 hown hK hP 0 rfl rfl 0 (by decide) (htU _ fl_X3_9) (fun _ h9 => h9) rfl dX3_wheelNow_1 ?_
  exact sw_ri hx hb hr hlocks hS () (pr1 h) hP hD dX3_wheelNow_4
theorem mv_X3_setWheel : sw_MV yX3_setWheel RX3 cX3_setWheel 2 (Option.none : Option Jvm.ClassFile.FieldType) 1 := ⟨im_X3_setWheel, se_X3_setWheel, ini_X3, co_X3_setWheel, by decide +kernel⟩
def F_X3_setWheel (x1 : Int32) (t : PlanT) : Option (PlanT) :=
 nm ((t.2.2.2.2.2.2 + 1)) (fun f_1 => some (x1, t.2.1, t.2.2.1, t.2.2.2.1, t.2.2.2.2.1, t.2.2.2.2.2.1, f_1))
abbrev RM_X3_setWheel : Room := ({ frames := 0, cells := 0, slots := 0, locals := 0 } : Room)
set_option maxHeartbeats 4000000 in
set_option maxRecDepth 100000 in
theorem c_X3_setWheel (l : Launch) (G : va_G) (ca Z : Nat → Nat) (q_t : Nat) (z_t_rooms : Value) (z_t_ds : Value) (sz : Nat) (x1 : Int32) (t : PlanT) (res : PlanT) (hF : F_X3_setWheel x1 t = some res) : Met l yX3_setWheel (.code yX3_setWheel cX3_setWheel 2 (Option.none : Option Jvm.ClassFile.FieldType) :: sw_U) RM_X3_setWheel (va_Pc [.ref q_t, .int x1] (sw_Pre G ca Z [(q_t, .inr (1, [.int t.1, .int t.2.1, z_t_rooms, .int t.2.2.2.1, .int t.2.2.2.2.1, z_t_ds, .int t.2.2.2.2.2.2]))] sz)) ((fun A => va_Qv (fun (u : PlanT) => res = u) (sw_Post G A (fun (u : PlanT) => [(q_t, .inr (1, [.int u.1, .int u.2.1, z_t_rooms, .int u.2.2.2.1, .int u.2.2.2.2.1, z_t_ds, .int u.2.2.2.2.2.2]))])) A) (va_A [(q_t, .inr (1, [.int t.1, .int t.2.1, z_t_rooms, .int t.2.2.2.1, .int t.2.2.2.2.1, z_t_ds, .int t.2.2.2.2.2.2]))] sz)) 0 0 (va_A [(q_t, .inr (1, [.int t.1, .int t.2.1, z_t_rooms, .int t.2.2.2.1, .int t.2.2.2.2.1, z_t_ds, .int t.2.2.2.2.2.2]))] sz) := by
  refine sw_ofW (Qc := fun A => va_Qv (fun (u : PlanT) => res = u) (sw_Post G A (fun (u : PlanT) => [(q_t, .inr (1, [.int u.1, .int u.2.1, z_t_rooms, .int u.2.2.2.1, .int u.2.2.2.2.1, z_t_ds, .int u.2.2.2.2.2.2]))])) A) (by decide) [(0, .ref q_t), (1, .int x1)] rfl (Nat.le_of_ble_eq_true rfl) ?_
  intro p e s m args below meth c ls A hx hb hr hml hown htU hlocks hnm hP hK hD hX hY hS hA hl
  have hown : s.vm.findClass RX3 = some m.cls := hown
  have Cx : sw_Cx p s m args c cX3_setWheel 2 RX3 G ca Z A := ⟨⟨hx, hb, hml, hown, htU⟩, hK, hX, hY, hA⟩
  have h := hF
  unfold F_X3_setWheel at h
  refine lv_aload_n hx hb dX3_setWheel_0 rfl (lv_at hl 0 rfl) ?_
  refine lv_iload_n hx hb dX3_setWheel_1 rfl (lv_at hl 1 rfl) ?_
  refine va_put (v := .int x1) (ty := .int) hx hb htU iU_X3 tyX3 tyX3_ok nmX3 hown hK hP hD hS 0 rfl rfl 0 (by decide) (htU _ fl_X3_9) (fun _ h9 => h9) rfl (by decide +kernel) rfl rfl (Nat.le_of_ble_eq_true rfl) dX3_setWheel_2 (fun H locs hP hD hS => ?_)
  have hP : va_P G vwCl [(q_t, .inr (1, [.int x1, .int t.2.1, z_t_rooms, .int t.2.2.2.1, .int t.2.2.2.2.1, z_t_ds, .int t.2.2.2.2.2.2]))] H := hP
  have hD : va_D A [(q_t, .inr (1, [.int x1, .int t.2.1, z_t_rooms, .int t.2.2.2.1, .int t.2.2.2.2.1, z_t_ds, .int t.2.2.2.2.2.2]))] := hD
  refine lv_aload_n hx hb dX3_setWheel_5 rfl (lv_at hl 0 rfl) ?_
  refine lv_dup hx hb dX3_setWheel_6 rfl ?_
  refine va_get (v := .int t.2.2.2.2.2.2) hx hb htU iU_X3 hown hK hP 0 rfl rfl 6 (by decide) (htU _ fl_X3_31) (fun _ h9 => h9) rfl dX3_setWheel_7 ?_
  refine lv_iconst (v := 1) hx hb dX3_setWheel_10 (by decide) ?_
  refine lv_iadd hx hb dX3_setWheel_11 ?_
  refine lv_topi (fun f_1 e_f_1 => ?_)
  have h := nm_at e_f_1 h
  refine va_put (v := .int f_1) (ty := .int) hx hb htU iU_X3 tyX3 tyX3_ok nmX3 hown hK hP hD hS 0 rfl rfl 6 (by decide) (htU _ fl_X3_31) (fun _ h9 => h9) rfl (by decide +kernel) rfl rfl (Nat.le_of_ble_eq_true rfl) dX3_setWheel_12 (fun H locs hP hD hS => ?_)
  have hP : va_P G vwCl [(q_t, .inr (1, [.int x1, .int t.2.1, z_t_rooms, .int t.2.2.2.1, .int t.2.2.2.2.1, z_t_ds, .int f_1]))] H := hP
  have hD : va_D A [(q_t, .inr (1, [.int x1, .int t.2.1, z_t_rooms, .int t.2.2.2.1, .int t.2.2.2.2.1, z_t_ds, .int f_1]))] := hD
  exact sw_rv hx hb hr hlocks hS (x1, t.2.1, t.2.2.1, t.2.2.2.1, t.2.2.2.2.1, t.2.2.2.2.2.1, f_1) (pr1 h) hP hD dX3_setWheel_15
theorem mv_X3_stretchCount : sw_MV yX3_stretchCount RX3 cX3_stretchCount 1 (Option.some Jvm.ClassFile.FieldType.int) 0 := ⟨im_X3_stretchCount, se_X3_stretchCount, ini_X3, co_X3_stretchCount, by decide +kernel⟩
def F_X3_stretchCount (t : PlanT) : Option (Int32) :=
 some t.2.1
abbrev RM_X3_stretchCount : Room := ({ frames := 0, cells := 0, slots := 0, locals := 0 } : Room)
set_option maxHeartbeats 4000000 in
set_option maxRecDepth 100000 in
theorem c_X3_stretchCount (l : Launch) (G : va_G) (ca Z : Nat → Nat) (q_t : Nat) (z_t_rooms : Value) (z_t_ds : Value) (sz : Nat) (t : PlanT) (res : Int32) (hF : F_X3_stretchCount t = some res) : Met l yX3_stretchCount (.code yX3_stretchCount cX3_stretchCount 1 (Option.some Jvm.ClassFile.FieldType.int) :: sw_U) RM_X3_stretchCount (va_Pc [.ref q_t] (sw_Pre G ca Z [(q_t, .inr (1, [.int t.1, .int t.2.1, z_t_rooms, .int t.2.2.2.1, .int t.2.2.2.2.1, z_t_ds, .int t.2.2.2.2.2.2]))] sz)) ((fun A => va_Qi (fun r (u : Unit) => res = r) (sw_Post G A (fun (u : Unit) => [(q_t, .inr (1, [.int t.1, .int t.2.1, z_t_rooms, .int t.2.2.2.1, .int t.2.2.2.2.1, z_t_ds, .int t.2.2.2.2.2.2]))])) A) (va_A [(q_t, .inr (1, [.int t.1, .int t.2.1, z_t_rooms, .int t.2.2.2.1, .int t.2.2.2.2.1, z_t_ds, .int t.2.2.2.2.2.2]))] sz)) 0 0 (va_A [(q_t, .inr (1, [.int t.1, .int t.2.1, z_t_rooms, .int t.2.2.2.1, .int t.2.2.2.2.1, z_t_ds, .int t.2.2.2.2.2.2]))] sz) := by
  refine sw_ofW (Qc := fun A => va_Qi (fun r (u : Unit) => res = r) (sw_Post G A (fun (u : Unit) => [(q_t, .inr (1, [.int t.1, .int t.2.1, z_t_rooms, .int t.2.2.2.1, .int t.2.2.2.2.1, z_t_ds, .int t.2.2.2.2.2.2]))])) A) (by decide) [(0, .ref q_t)] rfl (Nat.le_of_ble_eq_true rfl) ?_
  intro p e s m args below meth c ls A hx hb hr hml hown htU hlocks hnm hP hK hD hX hY hS hA hl
  have hown : s.vm.findClass RX3 = some m.cls := hown
  have Cx : sw_Cx p s m args c cX3_stretchCount 1 RX3 G ca Z A := ⟨⟨hx, hb, hml, hown, htU⟩, hK, hX, hY, hA⟩
  have h := hF
  unfold F_X3_stretchCount at h
  refine lv_aload_n hx hb dX3_stretchCount_0 rfl (lv_at hl 0 rfl) ?_
  refine va_get (v := .int t.2.1) hx hb htU iU_X3 hown hK hP 0 rfl rfl 1 (by decide) (htU _ fl_X3_15) (fun _ h9 => h9) rfl dX3_stretchCount_1 ?_
  exact sw_ri hx hb hr hlocks hS () (pr1 h) hP hD dX3_stretchCount_4
theorem mv_X3_roomAhead : sw_MV yX3_roomAhead RX3 cX3_roomAhead 4 (Option.some Jvm.ClassFile.FieldType.int) 1 := ⟨im_X3_roomAhead, se_X3_roomAhead, ini_X3, co_X3_roomAhead, by decide +kernel⟩
def B_X3_roomAhead_4 (x1 : Int32) (t : PlanT) (k_4 : Int32 → Int32 → Option (Int32)) (x2 : Int32) (x3 : Int32) : Option (Int32) :=
 (if x1 ≤ x3 then some x2 else (if 12 ≤ x3 then some x2 else ix x3 12 (nm ((x2 + (t.2.2.1 x3.toNatClampNeg))) (fun x2_4 => nm (x3 + 1) (fun x3_5 => k_4 x2_4 x3_5)))))
def F_X3_roomAhead (x1 : Int32) (t : PlanT) : Option (Int32) :=
 fx (fun _ _ => none) (B_X3_roomAhead_4 x1 t) FUEL 0 0
abbrev RM_X3_roomAhead : Room := ({ frames := 0, cells := 0, slots := 0, locals := 0 } : Room)
set_option maxHeartbeats 4000000 in
set_option maxRecDepth 100000 in
theorem c_X3_roomAhead (l : Launch) (G : va_G) (ca Z : Nat → Nat) (q_t : Nat) (q_t_rooms : Nat) (z_t_ds : Value) (sz : Nat) (x1 : Int32) (t : PlanT) (res : Int32) (hF : F_X3_roomAhead x1 t = some res) : Met l yX3_roomAhead (.code yX3_roomAhead cX3_roomAhead 4 (Option.some Jvm.ClassFile.FieldType.int) :: sw_U) RM_X3_roomAhead (va_Pc [.ref q_t, .int x1] (sw_Pre G ca Z [(q_t, .inr (1, [.int t.1, .int t.2.1, .ref q_t_rooms, .int t.2.2.2.1, .int t.2.2.2.2.1, z_t_ds, .int t.2.2.2.2.2.2])), (q_t_rooms, .inl (ca 0, 12, .inl t.2.2.1))] sz)) ((fun A => va_Qi (fun r (u : Unit) => res = r) (sw_Post G A (fun (u : Unit) => [(q_t, .inr (1, [.int t.1, .int t.2.1, .ref q_t_rooms, .int t.2.2.2.1, .int t.2.2.2.2.1, z_t_ds, .int t.2.2.2.2.2.2])), (q_t_rooms, .inl (ca 0, 12, .inl t.2.2.1))])) A) (va_A [(q_t, .inr (1, [.int t.1, .int t.2.1, .ref q_t_rooms, .int t.2.2.2.1, .int t.2.2.2.2.1, z_t_ds, .int t.2.2.2.2.2.2])), (q_t_rooms, .inl (ca 0, 12, .inl t.2.2.1))] sz)) 0 0 (va_A [(q_t, .inr (1, [.int t.1, .int t.2.1, .ref q_t_rooms, .int t.2.2.2.1, .int t.2.2.2.2.1, z_t_ds, .int t.2.2.2.2.2.2])), (q_t_rooms, .inl (ca 0, 12, .inl t.2.2.1))] sz) := by
  refine sw_ofW (Qc := fun A => va_Qi (fun r (u : Unit) => res = r) (sw_Post G A (fun (u : Unit) => [(q_t, .inr (1, [.int t.1, .int t.2.1, .ref q_t_rooms, .int t.2.2.2.1, .int t.2.2.2.2.1, z_t_ds, .int t.2.2.2.2.2.2])), (q_t_rooms, .inl (ca 0, 12, .inl t.2.2.1))])) A) (by decide) [(0, .ref q_t), (1, .int x1)] rfl (Nat.le_of_ble_eq_true rfl) ?_
  intro p e s m args below meth c ls A hx hb hr hml hown htU hlocks hnm hP hK hD hX hY hS hA hl
  have hown : s.vm.findClass RX3 = some m.cls := hown
  have Cx : sw_Cx p s m args c cX3_roomAhead 4 RX3 G ca Z A := ⟨⟨hx, hb, hml, hown, htU⟩, hK, hX, hY, hA⟩
  have h := hF
  unfold F_X3_roomAhead at h
  have hL_4 : ∀ (n_4 : Nat) (x2 : Int32) (x3 : Int32) (ls : Array Slot) (H : Heap) (locs : List Loc), lv_has ls 4 [(0, .ref q_t), (1, .int x1), (2, .int x2), (3, .int x3)] → va_P G vwCl [(q_t, .inr (1, [.int t.1, .int t.2.1, .ref q_t_rooms, .int t.2.2.2.1, .int t.2.2.2.2.1, z_t_ds, .int t.2.2.2.2.2.2])), (q_t_rooms, .inl (ca 0, 12, .inl t.2.2.1))] H → va_D A [(q_t, .inr (1, [.int t.1, .int t.2.1, .ref q_t_rooms, .int t.2.2.2.1, .int t.2.2.2.2.1, z_t_ds, .int t.2.2.2.2.2.2])), (q_t_rooms, .inl (ca 0, 12, .inl t.2.2.1))] → va_S A s.heap H locs → fx (fun _ _ => none) (B_X3_roomAhead_4 x1 t) n_4 x2 x3 = some res → W p l e RM_X3_roomAhead s m args below meth c H locs 0 0 (MQ below ((fun A => va_Qi (fun r (u : Unit) => res = r) (sw_Post G A (fun (u : Unit) => [(q_t, .inr (1, [.int t.1, .int t.2.1, .ref q_t_rooms, .int t.2.2.2.1, .int t.2.2.2.2.1, z_t_ds, .int t.2.2.2.2.2.2])), (q_t_rooms, .inl (ca 0, 12, .inl t.2.2.1))])) A) A) args s 0 0 A) (F0 m 4 ls []) := by
    intro n_4
    induction n_4 with
    | zero => intro x2 x3 ls H locs hl hP hD hS h; exact no_at h
    | succ n_4 ih_4 =>
      intro x2 x3 ls H locs hl hP hD hS h
      rw [fx_s] at h
      unfold B_X3_roomAhead_4 at h
      refine lv_iload_n hx hb dX3_roomAhead_4 rfl (lv_at hl 3 rfl) ?_
      refine lv_iload_n hx hb dX3_roomAhead_5 rfl (lv_at hl 1 rfl) ?_
      refine lv_icmp_ge (tgt := 33) hx hb dX3_roomAhead_6 (by decide) (fun c_1 => ?_) (fun c_1 => ?_)
      · have h := if_t c_1 h
        refine lv_iload_n hx hb dX3_roomAhead_33 rfl (lv_at hl 2 rfl) ?_
        exact sw_ri hx hb hr hlocks hS () (pr1 h) hP hD dX3_roomAhead_34
      · have h := if_f c_1 h
        refine lv_iload_n hx hb dX3_roomAhead_9 rfl (lv_at hl 3 rfl) ?_
        refine lv_aload_n hx hb dX3_roomAhead_10 rfl (lv_at hl 0 rfl) ?_
        refine va_get (v := .ref q_t_rooms) hx hb htU iU_X3 hown hK hP 0 rfl rfl 2 (by decide) (htU _ fl_X3_18) (fun _ h9 => h9) rfl dX3_roomAhead_11 ?_
        refine va_alen (v := 12) hx hb hK hP 1 0 rfl rfl (by decide : Int32.ofNat 12 = 12) dX3_roomAhead_14 ?_
        refine lv_icmp_ge (tgt := 33) hx hb dX3_roomAhead_15 (by decide) (fun c_2 => ?_) (fun c_2 => ?_)
        · have h := if_t c_2 h
          refine lv_iload_n hx hb dX3_roomAhead_33 rfl (lv_at hl 2 rfl) ?_
          exact sw_ri hx hb hr hlocks hS () (pr1 h) hP hD dX3_roomAhead_34
        · have h := if_f c_2 h
          refine lv_iload_n hx hb dX3_roomAhead_18 rfl (lv_at hl 2 rfl) ?_
          refine lv_aload_n hx hb dX3_roomAhead_19 rfl (lv_at hl 0 rfl) ?_
          refine va_get (v := .ref q_t_rooms) hx hb htU iU_X3 hown hK hP 0 rfl rfl 2 (by decide) (htU _ fl_X3_18) (fun _ h9 => h9) rfl dX3_roomAhead_20 ?_
          refine lv_iload_n hx hb dX3_roomAhead_23 rfl (lv_at hl 3 rfl) ?_
          obtain ⟨hi_3, h⟩ := ix_at h
          refine va_iald hx hb hK hP 1 0 rfl rfl hi_3 dX3_roomAhead_24 ?_
          refine lv_iadd hx hb dX3_roomAhead_25 ?_
          refine lv_topi (fun x2_4 e_x2_4 => ?_)
          have h := nm_at e_x2_4 h
          refine lv_istore_n (lv' := [(2, .int x2_4), (0, .ref q_t), (1, .int x1), (3, .int x3)]) hx hb dX3_roomAhead_26 rfl hl (by decide) rfl (fun ls hl => ?_)
          obtain ⟨x3_5, e_x3_5⟩ : ∃ y : Int32, y = x3 + 1 := ⟨_, rfl⟩
          refine lv_iinc (v := x3_5) (lv' := [(3, .int x3_5), (2, .int x2_4), (0, .ref q_t), (1, .int x1)]) hx hb dX3_roomAhead_27 hl (k := 3) rfl (by rw [e_x3_5]; rfl) (by decide) rfl (fun ls hl => ?_)
          have h := nm_at e_x3_5 h
          refine lv_goto (tgt := 4) hx hb dX3_roomAhead_30 (by decide) ?_
          exact ih_4 x2_4 x3_5 ls H _ (lv_sub hl [2, 3, 1, 0] rfl) hP hD hS h
  refine lv_iconst (v := 0) hx hb dX3_roomAhead_0 (by decide) ?_
  refine lv_istore_n (lv' := [(2, .int 0), (0, .ref q_t), (1, .int x1)]) hx hb dX3_roomAhead_1 rfl hl (by decide) rfl (fun ls hl => ?_)
  refine lv_iconst (v := 0) hx hb dX3_roomAhead_2 (by decide) ?_
  refine lv_istore_n (lv' := [(3, .int 0), (2, .int 0), (0, .ref q_t), (1, .int x1)]) hx hb dX3_roomAhead_3 rfl hl (by decide) rfl (fun ls hl => ?_)
  exact hL_4 FUEL 0 0 ls s.heap _ (lv_sub hl [2, 3, 1, 0] rfl) hP hD hS h
theorem mv_X3_firstNumberOf : sw_MV yX3_firstNumberOf RX3 cX3_firstNumberOf 2 (Option.some Jvm.ClassFile.FieldType.int) 1 := ⟨im_X3_firstNumberOf, se_X3_firstNumberOf, ini_X3, co_X3_firstNumberOf, by decide +kernel⟩
def F_X3_firstNumberOf (x1 : Int32) (t : PlanT) : Option (Int32) :=
 (F_X3_roomAhead x1 t).bind (fun w_1 => some (2 + w_1))
abbrev RM_X3_firstNumberOf : Room := ({ frames := 1, cells := 0, slots := 0, locals := 23 } : Room)
set_option maxHeartbeats 4000000 in
set_option maxRecDepth 100000 in
theorem c_X3_firstNumberOf (l : Launch) (G : va_G) (ca Z : Nat → Nat) (q_t : Nat) (q_t_rooms : Nat) (z_t_ds : Value) (sz : Nat) (x1 : Int32) (t : PlanT) (res : Int32) (hF : F_X3_firstNumberOf x1 t = some res) : Met l yX3_firstNumberOf (.code yX3_firstNumberOf cX3_firstNumberOf 2 (Option.some Jvm.ClassFile.FieldType.int) :: sw_U) RM_X3_firstNumberOf (va_Pc [.ref q_t, .int x1] (sw_Pre G ca Z [(q_t, .inr (1, [.int t.1, .int t.2.1, .ref q_t_rooms, .int t.2.2.2.1, .int t.2.2.2.2.1, z_t_ds, .int t.2.2.2.2.2.2])), (q_t_rooms, .inl (ca 0, 12, .inl t.2.2.1))] sz)) ((fun A => va_Qi (fun r (u : Unit) => res = r) (sw_Post G A (fun (u : Unit) => [(q_t, .inr (1, [.int t.1, .int t.2.1, .ref q_t_rooms, .int t.2.2.2.1, .int t.2.2.2.2.1, z_t_ds, .int t.2.2.2.2.2.2])), (q_t_rooms, .inl (ca 0, 12, .inl t.2.2.1))])) A) (va_A [(q_t, .inr (1, [.int t.1, .int t.2.1, .ref q_t_rooms, .int t.2.2.2.1, .int t.2.2.2.2.1, z_t_ds, .int t.2.2.2.2.2.2])), (q_t_rooms, .inl (ca 0, 12, .inl t.2.2.1))] sz)) 0 0 (va_A [(q_t, .inr (1, [.int t.1, .int t.2.1, .ref q_t_rooms, .int t.2.2.2.1, .int t.2.2.2.2.1, z_t_ds, .int t.2.2.2.2.2.2])), (q_t_rooms, .inl (ca 0, 12, .inl t.2.2.1))] sz) := by
  refine sw_ofW (Qc := fun A => va_Qi (fun r (u : Unit) => res = r) (sw_Post G A (fun (u : Unit) => [(q_t, .inr (1, [.int t.1, .int t.2.1, .ref q_t_rooms, .int t.2.2.2.1, .int t.2.2.2.2.1, z_t_ds, .int t.2.2.2.2.2.2])), (q_t_rooms, .inl (ca 0, 12, .inl t.2.2.1))])) A) (by decide) [(0, .ref q_t), (1, .int x1)] rfl (Nat.le_of_ble_eq_true rfl) ?_
  intro p e s m args below meth c ls A hx hb hr hml hown htU hlocks hnm hP hK hD hX hY hS hA hl
  have hown : s.vm.findClass RX3 = some m.cls := hown
  have Cx : sw_Cx p s m args c cX3_firstNumberOf 2 RX3 G ca Z A := ⟨⟨hx, hb, hml, hown, htU⟩, hK, hX, hY, hA⟩
  have h := hF
  unfold F_X3_firstNumberOf at h
  refine lv_iconst (v := 2) hx hb dX3_firstNumberOf_0 (by decide) ?_
  refine lv_aload_n hx hb dX3_firstNumberOf_1 rfl (lv_at hl 0 rfl) ?_
  refine lv_iload_n hx hb dX3_firstNumberOf_2 rfl (lv_at hl 1 rfl) ?_
  obtain ⟨w_1, hg_2, h⟩ := bd_at h
  refine sw_ci (sw_runV (As := [.int x1]) (rest := [.int 2]) Cx hP hD hS mv_X3_roomAhead ml_X3_40 (c_X3_roomAhead l G ca Z q_t q_t_rooms (z_t_ds) s.heap.size x1 t w_1 hg_2) 1 rfl rfl rfl [0, 1] rfl rfl rfl rfl ⟨(Nat.le_of_ble_eq_true rfl), (Nat.le_of_ble_eq_true rfl)⟩ hl.1 rfl rfl (Nat.le_of_ble_eq_true rfl) dX3_firstNumberOf_3 ⟨(Nat.le_of_ble_eq_true rfl), (Nat.le_of_ble_eq_true rfl)⟩) hP hD hS hA [0, 1] [] [0, 1] rfl rfl rfl (by decide) (fun _ => rfl) rfl (fun r u H locs hw hP hD hS => ?_)
  subst hw
  have hP : va_P G vwCl [(q_t, .inr (1, [.int t.1, .int t.2.1, .ref q_t_rooms, .int t.2.2.2.1, .int t.2.2.2.2.1, z_t_ds, .int t.2.2.2.2.2.2])), (q_t_rooms, .inl (ca 0, 12, .inl t.2.2.1))] H := hP
  have hD : va_D A [(q_t, .inr (1, [.int t.1, .int t.2.1, .ref q_t_rooms, .int t.2.2.2.1, .int t.2.2.2.2.1, z_t_ds, .int t.2.2.2.2.2.2])), (q_t_rooms, .inl (ca 0, 12, .inl t.2.2.1))] := hD
  refine lv_iadd hx hb dX3_firstNumberOf_6 ?_
  exact sw_ri hx hb hr hlocks hS () (pr1 h) hP hD dX3_firstNumberOf_7
theorem mv_X3_lastNumberOf : sw_MV yX3_lastNumberOf RX3 cX3_lastNumberOf 2 (Option.some Jvm.ClassFile.FieldType.int) 1 := ⟨im_X3_lastNumberOf, se_X3_lastNumberOf, ini_X3, co_X3_lastNumberOf, by decide +kernel⟩
def F_X3_lastNumberOf (x1 : Int32) (t : PlanT) : Option (Int32) :=
 (F_X3_roomAhead (x1 + 1) t).bind (fun w_1 => some (1 + w_1))
abbrev RM_X3_lastNumberOf : Room := ({ frames := 1, cells := 0, slots := 0, locals := 23 } : Room)
set_option maxHeartbeats 4000000 in
set_option maxRecDepth 100000 in
theorem c_X3_lastNumberOf (l : Launch) (G : va_G) (ca Z : Nat → Nat) (q_t : Nat) (q_t_rooms : Nat) (z_t_ds : Value) (sz : Nat) (x1 : Int32) (t : PlanT) (res : Int32) (hF : F_X3_lastNumberOf x1 t = some res) : Met l yX3_lastNumberOf (.code yX3_lastNumberOf cX3_lastNumberOf 2 (Option.some Jvm.ClassFile.FieldType.int) :: sw_U) RM_X3_lastNumberOf (va_Pc [.ref q_t, .int x1] (sw_Pre G ca Z [(q_t, .inr (1, [.int t.1, .int t.2.1, .ref q_t_rooms, .int t.2.2.2.1, .int t.2.2.2.2.1, z_t_ds, .int t.2.2.2.2.2.2])), (q_t_rooms, .inl (ca 0, 12, .inl t.2.2.1))] sz)) ((fun A => va_Qi (fun r (u : Unit) => res = r) (sw_Post G A (fun (u : Unit) => [(q_t, .inr (1, [.int t.1, .int t.2.1, .ref q_t_rooms, .int t.2.2.2.1, .int t.2.2.2.2.1, z_t_ds, .int t.2.2.2.2.2.2])), (q_t_rooms, .inl (ca 0, 12, .inl t.2.2.1))])) A) (va_A [(q_t, .inr (1, [.int t.1, .int t.2.1, .ref q_t_rooms, .int t.2.2.2.1, .int t.2.2.2.2.1, z_t_ds, .int t.2.2.2.2.2.2])), (q_t_rooms, .inl (ca 0, 12, .inl t.2.2.1))] sz)) 0 0 (va_A [(q_t, .inr (1, [.int t.1, .int t.2.1, .ref q_t_rooms, .int t.2.2.2.1, .int t.2.2.2.2.1, z_t_ds, .int t.2.2.2.2.2.2])), (q_t_rooms, .inl (ca 0, 12, .inl t.2.2.1))] sz) := by
  refine sw_ofW (Qc := fun A => va_Qi (fun r (u : Unit) => res = r) (sw_Post G A (fun (u : Unit) => [(q_t, .inr (1, [.int t.1, .int t.2.1, .ref q_t_rooms, .int t.2.2.2.1, .int t.2.2.2.2.1, z_t_ds, .int t.2.2.2.2.2.2])), (q_t_rooms, .inl (ca 0, 12, .inl t.2.2.1))])) A) (by decide) [(0, .ref q_t), (1, .int x1)] rfl (Nat.le_of_ble_eq_true rfl) ?_
  intro p e s m args below meth c ls A hx hb hr hml hown htU hlocks hnm hP hK hD hX hY hS hA hl
  have hown : s.vm.findClass RX3 = some m.cls := hown
  have Cx : sw_Cx p s m args c cX3_lastNumberOf 2 RX3 G ca Z A := ⟨⟨hx, hb, hml, hown, htU⟩, hK, hX, hY, hA⟩
  have h := hF
  unfold F_X3_lastNumberOf at h
  refine lv_iconst (v := 1) hx hb dX3_lastNumberOf_0 (by decide) ?_
  refine lv_aload_n hx hb dX3_lastNumberOf_1 rfl (lv_at hl 0 rfl) ?_
  refine lv_iload_n hx hb dX3_lastNumberOf_2 rfl (lv_at hl 1 rfl) ?_
  refine lv_iconst (v := 1) hx hb dX3_lastNumberOf_3 (by decide) ?_
  refine lv_iadd hx hb dX3_lastNumberOf_4 ?_
  obtain ⟨w_1, hg_2, h⟩ := bd_at h
  refine sw_ci (sw_runV (As := [.int (x1 + 1)]) (rest := [.int 1]) Cx hP hD hS mv_X3_roomAhead ml_X3_40 (c_X3_roomAhead l G ca Z q_t q_t_rooms (z_t_ds) s.heap.size (x1 + 1) t w_1 hg_2) 1 rfl rfl rfl [0, 1] rfl rfl rfl rfl ⟨(Nat.le_of_ble_eq_true rfl), (Nat.le_of_ble_eq_true rfl)⟩ hl.1 rfl rfl (Nat.le_of_ble_eq_true rfl) dX3_lastNumberOf_5 ⟨(Nat.le_of_ble_eq_true rfl), (Nat.le_of_ble_eq_true rfl)⟩) hP hD hS hA [0, 1] [] [0, 1] rfl rfl rfl (by decide) (fun _ => rfl) rfl (fun r u H locs hw hP hD hS => ?_)
  subst hw
  have hP : va_P G vwCl [(q_t, .inr (1, [.int t.1, .int t.2.1, .ref q_t_rooms, .int t.2.2.2.1, .int t.2.2.2.2.1, z_t_ds, .int t.2.2.2.2.2.2])), (q_t_rooms, .inl (ca 0, 12, .inl t.2.2.1))] H := hP
  have hD : va_D A [(q_t, .inr (1, [.int t.1, .int t.2.1, .ref q_t_rooms, .int t.2.2.2.1, .int t.2.2.2.2.1, z_t_ds, .int t.2.2.2.2.2.2])), (q_t_rooms, .inl (ca 0, 12, .inl t.2.2.1))] := hD
  refine lv_iadd hx hb dX3_lastNumberOf_8 ?_
  exact sw_ri hx hb hr hlocks hS () (pr1 h) hP hD dX3_lastNumberOf_9
theorem mv_X3_lastNumber : sw_MV yX3_lastNumber RX3 cX3_lastNumber 1 (Option.some Jvm.ClassFile.FieldType.int) 0 := ⟨im_X3_lastNumber, se_X3_lastNumber, ini_X3, co_X3_lastNumber, by decide +kernel⟩
def F_X3_lastNumber (t : PlanT) : Option (Int32) :=
 some t.2.2.2.1
abbrev RM_X3_lastNumber : Room := ({ frames := 0, cells := 0, slots := 0, locals := 0 } : Room)
set_option maxHeartbeats 4000000 in
set_option maxRecDepth 100000 in
theorem c_X3_lastNumber (l : Launch) (G : va_G) (ca Z : Nat → Nat) (q_t : Nat) (z_t_rooms : Value) (z_t_ds : Value) (sz : Nat) (t : PlanT) (res : Int32) (hF : F_X3_lastNumber t = some res) : Met l yX3_lastNumber (.code yX3_lastNumber cX3_lastNumber 1 (Option.some Jvm.ClassFile.FieldType.int) :: sw_U) RM_X3_lastNumber (va_Pc [.ref q_t] (sw_Pre G ca Z [(q_t, .inr (1, [.int t.1, .int t.2.1, z_t_rooms, .int t.2.2.2.1, .int t.2.2.2.2.1, z_t_ds, .int t.2.2.2.2.2.2]))] sz)) ((fun A => va_Qi (fun r (u : Unit) => res = r) (sw_Post G A (fun (u : Unit) => [(q_t, .inr (1, [.int t.1, .int t.2.1, z_t_rooms, .int t.2.2.2.1, .int t.2.2.2.2.1, z_t_ds, .int t.2.2.2.2.2.2]))])) A) (va_A [(q_t, .inr (1, [.int t.1, .int t.2.1, z_t_rooms, .int t.2.2.2.1, .int t.2.2.2.2.1, z_t_ds, .int t.2.2.2.2.2.2]))] sz)) 0 0 (va_A [(q_t, .inr (1, [.int t.1, .int t.2.1, z_t_rooms, .int t.2.2.2.1, .int t.2.2.2.2.1, z_t_ds, .int t.2.2.2.2.2.2]))] sz) := by
  refine sw_ofW (Qc := fun A => va_Qi (fun r (u : Unit) => res = r) (sw_Post G A (fun (u : Unit) => [(q_t, .inr (1, [.int t.1, .int t.2.1, z_t_rooms, .int t.2.2.2.1, .int t.2.2.2.2.1, z_t_ds, .int t.2.2.2.2.2.2]))])) A) (by decide) [(0, .ref q_t)] rfl (Nat.le_of_ble_eq_true rfl) ?_
  intro p e s m args below meth c ls A hx hb hr hml hown htU hlocks hnm hP hK hD hX hY hS hA hl
  have hown : s.vm.findClass RX3 = some m.cls := hown
  have Cx : sw_Cx p s m args c cX3_lastNumber 1 RX3 G ca Z A := ⟨⟨hx, hb, hml, hown, htU⟩, hK, hX, hY, hA⟩
  have h := hF
  unfold F_X3_lastNumber at h
  refine lv_aload_n hx hb dX3_lastNumber_0 rfl (lv_at hl 0 rfl) ?_
  refine va_get (v := .int t.2.2.2.1) hx hb htU iU_X3 hown hK hP 0 rfl rfl 3 (by decide) (htU _ fl_X3_22) (fun _ h9 => h9) rfl dX3_lastNumber_1 ?_
  exact sw_ri hx hb hr hlocks hS () (pr1 h) hP hD dX3_lastNumber_4
theorem mv_X3_lastRoom : sw_MV yX3_lastRoom RX3 cX3_lastRoom 1 (Option.some Jvm.ClassFile.FieldType.int) 0 := ⟨im_X3_lastRoom, se_X3_lastRoom, ini_X3, co_X3_lastRoom, by decide +kernel⟩
def F_X3_lastRoom (t : PlanT) : Option (Int32) :=
 (if t.2.1 < 1 then some 0 else (if t.2.1 ≤ 12 then ix (t.2.1 - 1) 12 (some (t.2.2.1 (t.2.1 - 1).toNatClampNeg)) else some 0))
abbrev RM_X3_lastRoom : Room := ({ frames := 0, cells := 0, slots := 0, locals := 0 } : Room)
set_option maxHeartbeats 4000000 in
set_option maxRecDepth 100000 in
theorem c_X3_lastRoom (l : Launch) (G : va_G) (ca Z : Nat → Nat) (q_t : Nat) (q_t_rooms : Nat) (z_t_ds : Value) (sz : Nat) (t : PlanT) (res : Int32) (hF : F_X3_lastRoom t = some res) : Met l yX3_lastRoom (.code yX3_lastRoom cX3_lastRoom 1 (Option.some Jvm.ClassFile.FieldType.int) :: sw_U) RM_X3_lastRoom (va_Pc [.ref q_t] (sw_Pre G ca Z [(q_t, .inr (1, [.int t.1, .int t.2.1, .ref q_t_rooms, .int t.2.2.2.1, .int t.2.2.2.2.1, z_t_ds, .int t.2.2.2.2.2.2])), (q_t_rooms, .inl (ca 0, 12, .inl t.2.2.1))] sz)) ((fun A => va_Qi (fun r (u : Unit) => res = r) (sw_Post G A (fun (u : Unit) => [(q_t, .inr (1, [.int t.1, .int t.2.1, .ref q_t_rooms, .int t.2.2.2.1, .int t.2.2.2.2.1, z_t_ds, .int t.2.2.2.2.2.2])), (q_t_rooms, .inl (ca 0, 12, .inl t.2.2.1))])) A) (va_A [(q_t, .inr (1, [.int t.1, .int t.2.1, .ref q_t_rooms, .int t.2.2.2.1, .int t.2.2.2.2.1, z_t_ds, .int t.2.2.2.2.2.2])), (q_t_rooms, .inl (ca 0, 12, .inl t.2.2.1))] sz)) 0 0 (va_A [(q_t, .inr (1, [.int t.1, .int t.2.1, .ref q_t_rooms, .int t.2.2.2.1, .int t.2.2.2.2.1, z_t_ds, .int t.2.2.2.2.2.2])), (q_t_rooms, .inl (ca 0, 12, .inl t.2.2.1))] sz) := by
  refine sw_ofW (Qc := fun A => va_Qi (fun r (u : Unit) => res = r) (sw_Post G A (fun (u : Unit) => [(q_t, .inr (1, [.int t.1, .int t.2.1, .ref q_t_rooms, .int t.2.2.2.1, .int t.2.2.2.2.1, z_t_ds, .int t.2.2.2.2.2.2])), (q_t_rooms, .inl (ca 0, 12, .inl t.2.2.1))])) A) (by decide) [(0, .ref q_t)] rfl (Nat.le_of_ble_eq_true rfl) ?_
  intro p e s m args below meth c ls A hx hb hr hml hown htU hlocks hnm hP hK hD hX hY hS hA hl
  have hown : s.vm.findClass RX3 = some m.cls := hown
  have Cx : sw_Cx p s m args c cX3_lastRoom 1 RX3 G ca Z A := ⟨⟨hx, hb, hml, hown, htU⟩, hK, hX, hY, hA⟩
  have h := hF
  unfold F_X3_lastRoom at h
  refine lv_aload_n hx hb dX3_lastRoom_0 rfl (lv_at hl 0 rfl) ?_
  refine va_get (v := .int t.2.1) hx hb htU iU_X3 hown hK hP 0 rfl rfl 1 (by decide) (htU _ fl_X3_15) (fun _ h9 => h9) rfl dX3_lastRoom_1 ?_
  refine lv_iconst (v := 1) hx hb dX3_lastRoom_4 (by decide) ?_
  refine lv_icmp_lt (tgt := 20) hx hb dX3_lastRoom_5 (by decide) (fun c_1 => ?_) (fun c_1 => ?_)
  · have h := if_t c_1 h
    refine lv_iconst (v := 0) hx hb dX3_lastRoom_20 (by decide) ?_
    refine lv_goto (tgt := 35) hx hb dX3_lastRoom_21 (by decide) ?_
    exact sw_ri hx hb hr hlocks hS () (pr1 h) hP hD dX3_lastRoom_35
  · have h := if_f c_1 h
    refine lv_aload_n hx hb dX3_lastRoom_8 rfl (lv_at hl 0 rfl) ?_
    refine va_get (v := .int t.2.1) hx hb htU iU_X3 hown hK hP 0 rfl rfl 1 (by decide) (htU _ fl_X3_15) (fun _ h9 => h9) rfl dX3_lastRoom_9 ?_
    refine lv_aload_n hx hb dX3_lastRoom_12 rfl (lv_at hl 0 rfl) ?_
    refine va_get (v := .ref q_t_rooms) hx hb htU iU_X3 hown hK hP 0 rfl rfl 2 (by decide) (htU _ fl_X3_18) (fun _ h9 => h9) rfl dX3_lastRoom_13 ?_
    refine va_alen (v := 12) hx hb hK hP 1 0 rfl rfl (by decide : Int32.ofNat 12 = 12) dX3_lastRoom_16 ?_
    refine lv_icmp_le (tgt := 24) hx hb dX3_lastRoom_17 (by decide) (fun c_2 => ?_) (fun c_2 => ?_)
    · have h := if_t c_2 h
      refine lv_aload_n hx hb dX3_lastRoom_24 rfl (lv_at hl 0 rfl) ?_
      refine va_get (v := .ref q_t_rooms) hx hb htU iU_X3 hown hK hP 0 rfl rfl 2 (by decide) (htU _ fl_X3_18) (fun _ h9 => h9) rfl dX3_lastRoom_25 ?_
      refine lv_aload_n hx hb dX3_lastRoom_28 rfl (lv_at hl 0 rfl) ?_
      refine va_get (v := .int t.2.1) hx hb htU iU_X3 hown hK hP 0 rfl rfl 1 (by decide) (htU _ fl_X3_15) (fun _ h9 => h9) rfl dX3_lastRoom_29 ?_
      refine lv_iconst (v := 1) hx hb dX3_lastRoom_32 (by decide) ?_
      refine lv_isub hx hb dX3_lastRoom_33 ?_
      obtain ⟨hi_3, h⟩ := ix_at h
      refine va_iald hx hb hK hP 1 0 rfl rfl hi_3 dX3_lastRoom_34 ?_
      exact sw_ri hx hb hr hlocks hS () (pr1 h) hP hD dX3_lastRoom_35
    · have h := if_f c_2 h
      refine lv_iconst (v := 0) hx hb dX3_lastRoom_20 (by decide) ?_
      refine lv_goto (tgt := 35) hx hb dX3_lastRoom_21 (by decide) ?_
      exact sw_ri hx hb hr hlocks hS () (pr1 h) hP hD dX3_lastRoom_35
theorem mv_X3_appendStretch : sw_MV yX3_appendStretch RX3 cX3_appendStretch 2 (Option.none : Option Jvm.ClassFile.FieldType) 1 := ⟨im_X3_appendStretch, se_X3_appendStretch, ini_X3, co_X3_appendStretch, by decide +kernel⟩
def F_X3_appendStretch (x1 : Int32) (t : PlanT) : Option (PlanT) :=
 (if t.2.1 < 0 then some t else (if 12 ≤ t.2.1 then some t else ix t.2.1 12 (nm ((t.2.1 + 1)) (fun f_4 => nm ((t.2.2.2.1 + x1)) (fun f_5 => nm ((t.2.2.2.2.2.2 + 1)) (fun f_6 => some (t.1, f_4, (upd t.2.2.1 t.2.1.toNatClampNeg x1), f_5, t.2.2.2.2.1, t.2.2.2.2.2.1, f_6)))))))
abbrev RM_X3_appendStretch : Room := ({ frames := 0, cells := 0, slots := 0, locals := 0 } : Room)
set_option maxHeartbeats 4000000 in
set_option maxRecDepth 100000 in
theorem c_X3_appendStretch (l : Launch) (G : va_G) (ca Z : Nat → Nat) (q_t : Nat) (q_t_rooms : Nat) (z_t_ds : Value) (sz : Nat) (x1 : Int32) (t : PlanT) (res : PlanT) (hF : F_X3_appendStretch x1 t = some res) : Met l yX3_appendStretch (.code yX3_appendStretch cX3_appendStretch 2 (Option.none : Option Jvm.ClassFile.FieldType) :: sw_U) RM_X3_appendStretch (va_Pc [.ref q_t, .int x1] (sw_Pre G ca Z [(q_t, .inr (1, [.int t.1, .int t.2.1, .ref q_t_rooms, .int t.2.2.2.1, .int t.2.2.2.2.1, z_t_ds, .int t.2.2.2.2.2.2])), (q_t_rooms, .inl (ca 0, 12, .inl t.2.2.1))] sz)) ((fun A => va_Qv (fun (u : PlanT) => res = u) (sw_Post G A (fun (u : PlanT) => [(q_t, .inr (1, [.int u.1, .int u.2.1, .ref q_t_rooms, .int u.2.2.2.1, .int u.2.2.2.2.1, z_t_ds, .int u.2.2.2.2.2.2])), (q_t_rooms, .inl (ca 0, 12, .inl u.2.2.1))])) A) (va_A [(q_t, .inr (1, [.int t.1, .int t.2.1, .ref q_t_rooms, .int t.2.2.2.1, .int t.2.2.2.2.1, z_t_ds, .int t.2.2.2.2.2.2])), (q_t_rooms, .inl (ca 0, 12, .inl t.2.2.1))] sz)) 0 0 (va_A [(q_t, .inr (1, [.int t.1, .int t.2.1, .ref q_t_rooms, .int t.2.2.2.1, .int t.2.2.2.2.1, z_t_ds, .int t.2.2.2.2.2.2])), (q_t_rooms, .inl (ca 0, 12, .inl t.2.2.1))] sz) := by
  refine sw_ofW (Qc := fun A => va_Qv (fun (u : PlanT) => res = u) (sw_Post G A (fun (u : PlanT) => [(q_t, .inr (1, [.int u.1, .int u.2.1, .ref q_t_rooms, .int u.2.2.2.1, .int u.2.2.2.2.1, z_t_ds, .int u.2.2.2.2.2.2])), (q_t_rooms, .inl (ca 0, 12, .inl u.2.2.1))])) A) (by decide) [(0, .ref q_t), (1, .int x1)] rfl (Nat.le_of_ble_eq_true rfl) ?_
  intro p e s m args below meth c ls A hx hb hr hml hown htU hlocks hnm hP hK hD hX hY hS hA hl
  have hown : s.vm.findClass RX3 = some m.cls := hown
  have Cx : sw_Cx p s m args c cX3_appendStretch 2 RX3 G ca Z A := ⟨⟨hx, hb, hml, hown, htU⟩, hK, hX, hY, hA⟩
  have h := hF
  unfold F_X3_appendStretch at h
  refine lv_aload_n hx hb dX3_appendStretch_0 rfl (lv_at hl 0 rfl) ?_
  refine va_get (v := .int t.2.1) hx hb htU iU_X3 hown hK hP 0 rfl rfl 1 (by decide) (htU _ fl_X3_15) (fun _ h9 => h9) rfl dX3_appendStretch_1 ?_
  refine lv_if_lt (tgt := 59) hx hb dX3_appendStretch_4 (by decide) (fun c_1 => ?_) (fun c_1 => ?_)
  · have h := if_t c_1 h
    exact sw_rv hx hb hr hlocks hS t (pr1 h) hP hD dX3_appendStretch_59
  · have h := if_f c_1 h
    refine lv_aload_n hx hb dX3_appendStretch_7 rfl (lv_at hl 0 rfl) ?_
    refine va_get (v := .int t.2.1) hx hb htU iU_X3 hown hK hP 0 rfl rfl 1 (by decide) (htU _ fl_X3_15) (fun _ h9 => h9) rfl dX3_appendStretch_8 ?_
    refine lv_aload_n hx hb dX3_appendStretch_11 rfl (lv_at hl 0 rfl) ?_
    refine va_get (v := .ref q_t_rooms) hx hb htU iU_X3 hown hK hP 0 rfl rfl 2 (by decide) (htU _ fl_X3_18) (fun _ h9 => h9) rfl dX3_appendStretch_12 ?_
    refine va_alen (v := 12) hx hb hK hP 1 0 rfl rfl (by decide : Int32.ofNat 12 = 12) dX3_appendStretch_15 ?_
    refine lv_icmp_ge (tgt := 59) hx hb dX3_appendStretch_16 (by decide) (fun c_2 => ?_) (fun c_2 => ?_)
    · have h := if_t c_2 h
      exact sw_rv hx hb hr hlocks hS t (pr1 h) hP hD dX3_appendStretch_59
    · have h := if_f c_2 h
      refine lv_aload_n hx hb dX3_appendStretch_19 rfl (lv_at hl 0 rfl) ?_
      refine va_get (v := .ref q_t_rooms) hx hb htU iU_X3 hown hK hP 0 rfl rfl 2 (by decide) (htU _ fl_X3_18) (fun _ h9 => h9) rfl dX3_appendStretch_20 ?_
      refine lv_aload_n hx hb dX3_appendStretch_23 rfl (lv_at hl 0 rfl) ?_
      refine va_get (v := .int t.2.1) hx hb htU iU_X3 hown hK hP 0 rfl rfl 1 (by decide) (htU _ fl_X3_15) (fun _ h9 => h9) rfl dX3_appendStretch_24 ?_
      refine lv_iload_n hx hb dX3_appendStretch_27 rfl (lv_at hl 1 rfl) ?_
      obtain ⟨hi_3, h⟩ := ix_at h
      refine va_iast hx hb hK hP hD hS 1 0 rfl rfl hi_3 dX3_appendStretch_28 (fun H locs hP hD hS => ?_)
      have hP : va_P G vwCl [(q_t, .inr (1, [.int t.1, .int t.2.1, .ref q_t_rooms, .int t.2.2.2.1, .int t.2.2.2.2.1, z_t_ds, .int t.2.2.2.2.2.2])), (q_t_rooms, .inl (ca 0, 12, .inl (upd t.2.2.1 t.2.1.toNatClampNeg x1)))] H := hP
      have hD : va_D A [(q_t, .inr (1, [.int t.1, .int t.2.1, .ref q_t_rooms, .int t.2.2.2.1, .int t.2.2.2.2.1, z_t_ds, .int t.2.2.2.2.2.2])), (q_t_rooms, .inl (ca 0, 12, .inl (upd t.2.2.1 t.2.1.toNatClampNeg x1)))] := hD
      refine lv_aload_n hx hb dX3_appendStretch_29 rfl (lv_at hl 0 rfl) ?_
      refine lv_dup hx hb dX3_appendStretch_30 rfl ?_
      refine va_get (v := .int t.2.1) hx hb htU iU_X3 hown hK hP 0 rfl rfl 1 (by decide) (htU _ fl_X3_15) (fun _ h9 => h9) rfl dX3_appendStretch_31 ?_
      refine lv_iconst (v := 1) hx hb dX3_appendStretch_34 (by decide) ?_
      refine lv_iadd hx hb dX3_appendStretch_35 ?_
      refine lv_topi (fun f_4 e_f_4 => ?_)
      have h := nm_at e_f_4 h
      refine va_put (v := .int f_4) (ty := .int) hx hb htU iU_X3 tyX3 tyX3_ok nmX3 hown hK hP hD hS 0 rfl rfl 1 (by decide) (htU _ fl_X3_15) (fun _ h9 => h9) rfl (by decide +kernel) rfl rfl (Nat.le_of_ble_eq_true rfl) dX3_appendStretch_36 (fun H locs hP hD hS => ?_)
      have hP : va_P G vwCl [(q_t, .inr (1, [.int t.1, .int f_4, .ref q_t_rooms, .int t.2.2.2.1, .int t.2.2.2.2.1, z_t_ds, .int t.2.2.2.2.2.2])), (q_t_rooms, .inl (ca 0, 12, .inl (upd t.2.2.1 t.2.1.toNatClampNeg x1)))] H := hP
      have hD : va_D A [(q_t, .inr (1, [.int t.1, .int f_4, .ref q_t_rooms, .int t.2.2.2.1, .int t.2.2.2.2.1, z_t_ds, .int t.2.2.2.2.2.2])), (q_t_rooms, .inl (ca 0, 12, .inl (upd t.2.2.1 t.2.1.toNatClampNeg x1)))] := hD
      refine lv_aload_n hx hb dX3_appendStretch_39 rfl (lv_at hl 0 rfl) ?_
      refine lv_dup hx hb dX3_appendStretch_40 rfl ?_
      refine va_get (v := .int t.2.2.2.1) hx hb htU iU_X3 hown hK hP 0 rfl rfl 3 (by decide) (htU _ fl_X3_22) (fun _ h9 => h9) rfl dX3_appendStretch_41 ?_
      refine lv_iload_n hx hb dX3_appendStretch_44 rfl (lv_at hl 1 rfl) ?_
      refine lv_iadd hx hb dX3_appendStretch_45 ?_
      refine lv_topi (fun f_5 e_f_5 => ?_)
      have h := nm_at e_f_5 h
      refine va_put (v := .int f_5) (ty := .int) hx hb htU iU_X3 tyX3 tyX3_ok nmX3 hown hK hP hD hS 0 rfl rfl 3 (by decide) (htU _ fl_X3_22) (fun _ h9 => h9) rfl (by decide +kernel) rfl rfl (Nat.le_of_ble_eq_true rfl) dX3_appendStretch_46 (fun H locs hP hD hS => ?_)
      have hP : va_P G vwCl [(q_t, .inr (1, [.int t.1, .int f_4, .ref q_t_rooms, .int f_5, .int t.2.2.2.2.1, z_t_ds, .int t.2.2.2.2.2.2])), (q_t_rooms, .inl (ca 0, 12, .inl (upd t.2.2.1 t.2.1.toNatClampNeg x1)))] H := hP
      have hD : va_D A [(q_t, .inr (1, [.int t.1, .int f_4, .ref q_t_rooms, .int f_5, .int t.2.2.2.2.1, z_t_ds, .int t.2.2.2.2.2.2])), (q_t_rooms, .inl (ca 0, 12, .inl (upd t.2.2.1 t.2.1.toNatClampNeg x1)))] := hD
      refine lv_aload_n hx hb dX3_appendStretch_49 rfl (lv_at hl 0 rfl) ?_
      refine lv_dup hx hb dX3_appendStretch_50 rfl ?_
      refine va_get (v := .int t.2.2.2.2.2.2) hx hb htU iU_X3 hown hK hP 0 rfl rfl 6 (by decide) (htU _ fl_X3_31) (fun _ h9 => h9) rfl dX3_appendStretch_51 ?_
      refine lv_iconst (v := 1) hx hb dX3_appendStretch_54 (by decide) ?_
      refine lv_iadd hx hb dX3_appendStretch_55 ?_
      refine lv_topi (fun f_6 e_f_6 => ?_)
      have h := nm_at e_f_6 h
      refine va_put (v := .int f_6) (ty := .int) hx hb htU iU_X3 tyX3 tyX3_ok nmX3 hown hK hP hD hS 0 rfl rfl 6 (by decide) (htU _ fl_X3_31) (fun _ h9 => h9) rfl (by decide +kernel) rfl rfl (Nat.le_of_ble_eq_true rfl) dX3_appendStretch_56 (fun H locs hP hD hS => ?_)
      have hP : va_P G vwCl [(q_t, .inr (1, [.int t.1, .int f_4, .ref q_t_rooms, .int f_5, .int t.2.2.2.2.1, z_t_ds, .int f_6])), (q_t_rooms, .inl (ca 0, 12, .inl (upd t.2.2.1 t.2.1.toNatClampNeg x1)))] H := hP
      have hD : va_D A [(q_t, .inr (1, [.int t.1, .int f_4, .ref q_t_rooms, .int f_5, .int t.2.2.2.2.1, z_t_ds, .int f_6])), (q_t_rooms, .inl (ca 0, 12, .inl (upd t.2.2.1 t.2.1.toNatClampNeg x1)))] := hD
      exact sw_rv hx hb hr hlocks hS (t.1, f_4, (upd t.2.2.1 t.2.1.toNatClampNeg x1), f_5, t.2.2.2.2.1, t.2.2.2.2.2.1, f_6) (pr1 h) hP hD dX3_appendStretch_59
theorem mv_X3_removeStretch : sw_MV yX3_removeStretch RX3 cX3_removeStretch 2 (Option.none : Option Jvm.ClassFile.FieldType) 0 := ⟨im_X3_removeStretch, se_X3_removeStretch, ini_X3, co_X3_removeStretch, by decide +kernel⟩
def F_X3_removeStretch (t : PlanT) : Option (PlanT) :=
 (F_X3_lastRoom t).bind (fun w_1 => (if w_1 ≤ 0 then some t else nm ((t.2.1 - 1)) (fun f_4 => nm ((t.2.2.2.1 - w_1)) (fun f_5 => nm ((t.2.2.2.2.2.2 + 1)) (fun f_6 => some (t.1, f_4, t.2.2.1, f_5, t.2.2.2.2.1, t.2.2.2.2.2.1, f_6))))))
abbrev RM_X3_removeStretch : Room := ({ frames := 1, cells := 0, slots := 0, locals := 20 } : Room)
set_option maxHeartbeats 4000000 in
set_option maxRecDepth 100000 in
theorem c_X3_removeStretch (l : Launch) (G : va_G) (ca Z : Nat → Nat) (q_t : Nat) (q_t_rooms : Nat) (z_t_ds : Value) (sz : Nat) (t : PlanT) (res : PlanT) (hF : F_X3_removeStretch t = some res) : Met l yX3_removeStretch (.code yX3_removeStretch cX3_removeStretch 2 (Option.none : Option Jvm.ClassFile.FieldType) :: sw_U) RM_X3_removeStretch (va_Pc [.ref q_t] (sw_Pre G ca Z [(q_t, .inr (1, [.int t.1, .int t.2.1, .ref q_t_rooms, .int t.2.2.2.1, .int t.2.2.2.2.1, z_t_ds, .int t.2.2.2.2.2.2])), (q_t_rooms, .inl (ca 0, 12, .inl t.2.2.1))] sz)) ((fun A => va_Qv (fun (u : PlanT) => res = u) (sw_Post G A (fun (u : PlanT) => [(q_t, .inr (1, [.int u.1, .int u.2.1, .ref q_t_rooms, .int u.2.2.2.1, .int u.2.2.2.2.1, z_t_ds, .int u.2.2.2.2.2.2])), (q_t_rooms, .inl (ca 0, 12, .inl u.2.2.1))])) A) (va_A [(q_t, .inr (1, [.int t.1, .int t.2.1, .ref q_t_rooms, .int t.2.2.2.1, .int t.2.2.2.2.1, z_t_ds, .int t.2.2.2.2.2.2])), (q_t_rooms, .inl (ca 0, 12, .inl t.2.2.1))] sz)) 0 0 (va_A [(q_t, .inr (1, [.int t.1, .int t.2.1, .ref q_t_rooms, .int t.2.2.2.1, .int t.2.2.2.2.1, z_t_ds, .int t.2.2.2.2.2.2])), (q_t_rooms, .inl (ca 0, 12, .inl t.2.2.1))] sz) := by
  refine sw_ofW (Qc := fun A => va_Qv (fun (u : PlanT) => res = u) (sw_Post G A (fun (u : PlanT) => [(q_t, .inr (1, [.int u.1, .int u.2.1, .ref q_t_rooms, .int u.2.2.2.1, .int u.2.2.2.2.1, z_t_ds, .int u.2.2.2.2.2.2])), (q_t_rooms, .inl (ca 0, 12, .inl u.2.2.1))])) A) (by decide) [(0, .ref q_t)] rfl (Nat.le_of_ble_eq_true rfl) ?_
  intro p e s m args below meth c ls A hx hb hr hml hown htU hlocks hnm hP hK hD hX hY hS hA hl
  have hown : s.vm.findClass RX3 = some m.cls := hown
  have Cx : sw_Cx p s m args c cX3_removeStretch 2 RX3 G ca Z A := ⟨⟨hx, hb, hml, hown, htU⟩, hK, hX, hY, hA⟩
  have h := hF
  unfold F_X3_removeStretch at h
  refine lv_aload_n hx hb dX3_removeStretch_0 rfl (lv_at hl 0 rfl) ?_
  obtain ⟨w_1, hg_2, h⟩ := bd_at h
  refine sw_ci (sw_runV (As := []) (rest := []) Cx hP hD hS mv_X3_lastRoom ml_X3_44 (c_X3_lastRoom l G ca Z q_t q_t_rooms (z_t_ds) s.heap.size t w_1 hg_2) 1 rfl rfl rfl [0, 1] rfl rfl rfl rfl ⟨(Nat.le_of_ble_eq_true rfl), (Nat.le_of_ble_eq_true rfl)⟩ hl.1 rfl rfl (Nat.le_of_ble_eq_true rfl) dX3_removeStretch_1 ⟨(Nat.le_of_ble_eq_true rfl), (Nat.le_of_ble_eq_true rfl)⟩) hP hD hS hA [0, 1] [] [0, 1] rfl rfl rfl (by decide) (fun _ => rfl) rfl (fun r u H locs hw hP hD hS => ?_)
  subst hw
  have hP : va_P G vwCl [(q_t, .inr (1, [.int t.1, .int t.2.1, .ref q_t_rooms, .int t.2.2.2.1, .int t.2.2.2.2.1, z_t_ds, .int t.2.2.2.2.2.2])), (q_t_rooms, .inl (ca 0, 12, .inl t.2.2.1))] H := hP
  have hD : va_D A [(q_t, .inr (1, [.int t.1, .int t.2.1, .ref q_t_rooms, .int t.2.2.2.1, .int t.2.2.2.2.1, z_t_ds, .int t.2.2.2.2.2.2])), (q_t_rooms, .inl (ca 0, 12, .inl t.2.2.1))] := hD
  refine lv_istore_n (lv' := [(1, .int w_1), (0, .ref q_t)]) hx hb dX3_removeStretch_4 rfl hl (by decide) rfl (fun ls hl => ?_)
  refine lv_iload_n hx hb dX3_removeStretch_5 rfl (lv_at hl 0 rfl) ?_
  refine lv_if_le (tgt := 39) hx hb dX3_removeStretch_6 (by decide) (fun c_3 => ?_) (fun c_3 => ?_)
  · have h := if_t c_3 h
    exact sw_rv hx hb hr hlocks hS t (pr1 h) hP hD dX3_removeStretch_39
  · have h := if_f c_3 h
    refine lv_aload_n hx hb dX3_removeStretch_9 rfl (lv_at hl 1 rfl) ?_
    refine lv_dup hx hb dX3_removeStretch_10 rfl ?_
    refine va_get (v := .int t.2.1) hx hb htU iU_X3 hown hK hP 0 rfl rfl 1 (by decide) (htU _ fl_X3_15) (fun _ h9 => h9) rfl dX3_removeStretch_11 ?_
    refine lv_iconst (v := 1) hx hb dX3_removeStretch_14 (by decide) ?_
    refine lv_isub hx hb dX3_removeStretch_15 ?_
    refine lv_topi (fun f_4 e_f_4 => ?_)
    have h := nm_at e_f_4 h
    refine va_put (v := .int f_4) (ty := .int) hx hb htU iU_X3 tyX3 tyX3_ok nmX3 hown hK hP hD hS 0 rfl rfl 1 (by decide) (htU _ fl_X3_15) (fun _ h9 => h9) rfl (by decide +kernel) rfl rfl (Nat.le_of_ble_eq_true rfl) dX3_removeStretch_16 (fun H locs hP hD hS => ?_)
    have hP : va_P G vwCl [(q_t, .inr (1, [.int t.1, .int f_4, .ref q_t_rooms, .int t.2.2.2.1, .int t.2.2.2.2.1, z_t_ds, .int t.2.2.2.2.2.2])), (q_t_rooms, .inl (ca 0, 12, .inl t.2.2.1))] H := hP
    have hD : va_D A [(q_t, .inr (1, [.int t.1, .int f_4, .ref q_t_rooms, .int t.2.2.2.1, .int t.2.2.2.2.1, z_t_ds, .int t.2.2.2.2.2.2])), (q_t_rooms, .inl (ca 0, 12, .inl t.2.2.1))] := hD
    refine lv_aload_n hx hb dX3_removeStretch_19 rfl (lv_at hl 1 rfl) ?_
    refine lv_dup hx hb dX3_removeStretch_20 rfl ?_
    refine va_get (v := .int t.2.2.2.1) hx hb htU iU_X3 hown hK hP 0 rfl rfl 3 (by decide) (htU _ fl_X3_22) (fun _ h9 => h9) rfl dX3_removeStretch_21 ?_
    refine lv_iload_n hx hb dX3_removeStretch_24 rfl (lv_at hl 0 rfl) ?_
    refine lv_isub hx hb dX3_removeStretch_25 ?_
    refine lv_topi (fun f_5 e_f_5 => ?_)
    have h := nm_at e_f_5 h
    refine va_put (v := .int f_5) (ty := .int) hx hb htU iU_X3 tyX3 tyX3_ok nmX3 hown hK hP hD hS 0 rfl rfl 3 (by decide) (htU _ fl_X3_22) (fun _ h9 => h9) rfl (by decide +kernel) rfl rfl (Nat.le_of_ble_eq_true rfl) dX3_removeStretch_26 (fun H locs hP hD hS => ?_)
    have hP : va_P G vwCl [(q_t, .inr (1, [.int t.1, .int f_4, .ref q_t_rooms, .int f_5, .int t.2.2.2.2.1, z_t_ds, .int t.2.2.2.2.2.2])), (q_t_rooms, .inl (ca 0, 12, .inl t.2.2.1))] H := hP
    have hD : va_D A [(q_t, .inr (1, [.int t.1, .int f_4, .ref q_t_rooms, .int f_5, .int t.2.2.2.2.1, z_t_ds, .int t.2.2.2.2.2.2])), (q_t_rooms, .inl (ca 0, 12, .inl t.2.2.1))] := hD
    refine lv_aload_n hx hb dX3_removeStretch_29 rfl (lv_at hl 1 rfl) ?_
    refine lv_dup hx hb dX3_removeStretch_30 rfl ?_
    refine va_get (v := .int t.2.2.2.2.2.2) hx hb htU iU_X3 hown hK hP 0 rfl rfl 6 (by decide) (htU _ fl_X3_31) (fun _ h9 => h9) rfl dX3_removeStretch_31 ?_
    refine lv_iconst (v := 1) hx hb dX3_removeStretch_34 (by decide) ?_
    refine lv_iadd hx hb dX3_removeStretch_35 ?_
    refine lv_topi (fun f_6 e_f_6 => ?_)
    have h := nm_at e_f_6 h
    refine va_put (v := .int f_6) (ty := .int) hx hb htU iU_X3 tyX3 tyX3_ok nmX3 hown hK hP hD hS 0 rfl rfl 6 (by decide) (htU _ fl_X3_31) (fun _ h9 => h9) rfl (by decide +kernel) rfl rfl (Nat.le_of_ble_eq_true rfl) dX3_removeStretch_36 (fun H locs hP hD hS => ?_)
    have hP : va_P G vwCl [(q_t, .inr (1, [.int t.1, .int f_4, .ref q_t_rooms, .int f_5, .int t.2.2.2.2.1, z_t_ds, .int f_6])), (q_t_rooms, .inl (ca 0, 12, .inl t.2.2.1))] H := hP
    have hD : va_D A [(q_t, .inr (1, [.int t.1, .int f_4, .ref q_t_rooms, .int f_5, .int t.2.2.2.2.1, z_t_ds, .int f_6])), (q_t_rooms, .inl (ca 0, 12, .inl t.2.2.1))] := hD
    exact sw_rv hx hb hr hlocks hS (t.1, f_4, t.2.2.1, f_5, t.2.2.2.2.1, t.2.2.2.2.2.1, f_6) (pr1 h) hP hD dX3_removeStretch_39
theorem mv_X3_strikerCount : sw_MV yX3_strikerCount RX3 cX3_strikerCount 1 (Option.some Jvm.ClassFile.FieldType.int) 0 := ⟨im_X3_strikerCount, se_X3_strikerCount, ini_X3, co_X3_strikerCount, by decide +kernel⟩
def F_X3_strikerCount (t : PlanT) : Option (Int32) :=
 some t.2.2.2.2.1
abbrev RM_X3_strikerCount : Room := ({ frames := 0, cells := 0, slots := 0, locals := 0 } : Room)
set_option maxHeartbeats 4000000 in
set_option maxRecDepth 100000 in
theorem c_X3_strikerCount (l : Launch) (G : va_G) (ca Z : Nat → Nat) (q_t : Nat) (z_t_rooms : Value) (z_t_ds : Value) (sz : Nat) (t : PlanT) (res : Int32) (hF : F_X3_strikerCount t = some res) : Met l yX3_strikerCount (.code yX3_strikerCount cX3_strikerCount 1 (Option.some Jvm.ClassFile.FieldType.int) :: sw_U) RM_X3_strikerCount (va_Pc [.ref q_t] (sw_Pre G ca Z [(q_t, .inr (1, [.int t.1, .int t.2.1, z_t_rooms, .int t.2.2.2.1, .int t.2.2.2.2.1, z_t_ds, .int t.2.2.2.2.2.2]))] sz)) ((fun A => va_Qi (fun r (u : Unit) => res = r) (sw_Post G A (fun (u : Unit) => [(q_t, .inr (1, [.int t.1, .int t.2.1, z_t_rooms, .int t.2.2.2.1, .int t.2.2.2.2.1, z_t_ds, .int t.2.2.2.2.2.2]))])) A) (va_A [(q_t, .inr (1, [.int t.1, .int t.2.1, z_t_rooms, .int t.2.2.2.1, .int t.2.2.2.2.1, z_t_ds, .int t.2.2.2.2.2.2]))] sz)) 0 0 (va_A [(q_t, .inr (1, [.int t.1, .int t.2.1, z_t_rooms, .int t.2.2.2.1, .int t.2.2.2.2.1, z_t_ds, .int t.2.2.2.2.2.2]))] sz) := by
  refine sw_ofW (Qc := fun A => va_Qi (fun r (u : Unit) => res = r) (sw_Post G A (fun (u : Unit) => [(q_t, .inr (1, [.int t.1, .int t.2.1, z_t_rooms, .int t.2.2.2.1, .int t.2.2.2.2.1, z_t_ds, .int t.2.2.2.2.2.2]))])) A) (by decide) [(0, .ref q_t)] rfl (Nat.le_of_ble_eq_true rfl) ?_
  intro p e s m args below meth c ls A hx hb hr hml hown htU hlocks hnm hP hK hD hX hY hS hA hl
  have hown : s.vm.findClass RX3 = some m.cls := hown
  have Cx : sw_Cx p s m args c cX3_strikerCount 1 RX3 G ca Z A := ⟨⟨hx, hb, hml, hown, htU⟩, hK, hX, hY, hA⟩
  have h := hF
  unfold F_X3_strikerCount at h
  refine lv_aload_n hx hb dX3_strikerCount_0 rfl (lv_at hl 0 rfl) ?_
  refine va_get (v := .int t.2.2.2.2.1) hx hb htU iU_X3 hown hK hP 0 rfl rfl 4 (by decide) (htU _ fl_X3_25) (fun _ h9 => h9) rfl dX3_strikerCount_1 ?_
  exact sw_ri hx hb hr hlocks hS () (pr1 h) hP hD dX3_strikerCount_4
theorem mv_X3_dOf : sw_MV yX3_dOf RX3 cX3_dOf 2 (Option.some Jvm.ClassFile.FieldType.int) 1 := ⟨im_X3_dOf, se_X3_dOf, ini_X3, co_X3_dOf, by decide +kernel⟩
def F_X3_dOf (x1 : Int32) (t : PlanT) : Option (Int32) :=
 (if x1 < 0 then some (-1) else (if t.2.2.2.2.1 ≤ x1 then some (-1) else (if x1 < 30 then ix x1 30 (some (t.2.2.2.2.2.1 x1.toNatClampNeg)) else some (-1))))
abbrev RM_X3_dOf : Room := ({ frames := 0, cells := 0, slots := 0, locals := 0 } : Room)
set_option maxHeartbeats 4000000 in
set_option maxRecDepth 100000 in
theorem c_X3_dOf (l : Launch) (G : va_G) (ca Z : Nat → Nat) (q_t : Nat) (q_t_ds : Nat) (z_t_rooms : Value) (sz : Nat) (x1 : Int32) (t : PlanT) (res : Int32) (hF : F_X3_dOf x1 t = some res) : Met l yX3_dOf (.code yX3_dOf cX3_dOf 2 (Option.some Jvm.ClassFile.FieldType.int) :: sw_U) RM_X3_dOf (va_Pc [.ref q_t, .int x1] (sw_Pre G ca Z [(q_t, .inr (1, [.int t.1, .int t.2.1, z_t_rooms, .int t.2.2.2.1, .int t.2.2.2.2.1, .ref q_t_ds, .int t.2.2.2.2.2.2])), (q_t_ds, .inl (ca 0, 30, .inl t.2.2.2.2.2.1))] sz)) ((fun A => va_Qi (fun r (u : Unit) => res = r) (sw_Post G A (fun (u : Unit) => [(q_t, .inr (1, [.int t.1, .int t.2.1, z_t_rooms, .int t.2.2.2.1, .int t.2.2.2.2.1, .ref q_t_ds, .int t.2.2.2.2.2.2])), (q_t_ds, .inl (ca 0, 30, .inl t.2.2.2.2.2.1))])) A) (va_A [(q_t, .inr (1, [.int t.1, .int t.2.1, z_t_rooms, .int t.2.2.2.1, .int t.2.2.2.2.1, .ref q_t_ds, .int t.2.2.2.2.2.2])), (q_t_ds, .inl (ca 0, 30, .inl t.2.2.2.2.2.1))] sz)) 0 0 (va_A [(q_t, .inr (1, [.int t.1, .int t.2.1, z_t_rooms, .int t.2.2.2.1, .int t.2.2.2.2.1, .ref q_t_ds, .int t.2.2.2.2.2.2])), (q_t_ds, .inl (ca 0, 30, .inl t.2.2.2.2.2.1))] sz) := by
  refine sw_ofW (Qc := fun A => va_Qi (fun r (u : Unit) => res = r) (sw_Post G A (fun (u : Unit) => [(q_t, .inr (1, [.int t.1, .int t.2.1, z_t_rooms, .int t.2.2.2.1, .int t.2.2.2.2.1, .ref q_t_ds, .int t.2.2.2.2.2.2])), (q_t_ds, .inl (ca 0, 30, .inl t.2.2.2.2.2.1))])) A) (by decide) [(0, .ref q_t), (1, .int x1)] rfl (Nat.le_of_ble_eq_true rfl) ?_
  intro p e s m args below meth c ls A hx hb hr hml hown htU hlocks hnm hP hK hD hX hY hS hA hl
  have hown : s.vm.findClass RX3 = some m.cls := hown
  have Cx : sw_Cx p s m args c cX3_dOf 2 RX3 G ca Z A := ⟨⟨hx, hb, hml, hown, htU⟩, hK, hX, hY, hA⟩
  have h := hF
  unfold F_X3_dOf at h
  refine lv_iload_n hx hb dX3_dOf_0 rfl (lv_at hl 1 rfl) ?_
  refine lv_if_lt (tgt := 21) hx hb dX3_dOf_1 (by decide) (fun c_1 => ?_) (fun c_1 => ?_)
  · have h := if_t c_1 h
    refine lv_iconst (v := (-1)) hx hb dX3_dOf_21 (by decide) ?_
    refine lv_goto (tgt := 31) hx hb dX3_dOf_22 (by decide) ?_
    exact sw_ri hx hb hr hlocks hS () (pr1 h) hP hD dX3_dOf_31
  · have h := if_f c_1 h
    refine lv_iload_n hx hb dX3_dOf_4 rfl (lv_at hl 1 rfl) ?_
    refine lv_aload_n hx hb dX3_dOf_5 rfl (lv_at hl 0 rfl) ?_
    refine va_get (v := .int t.2.2.2.2.1) hx hb htU iU_X3 hown hK hP 0 rfl rfl 4 (by decide) (htU _ fl_X3_25) (fun _ h9 => h9) rfl dX3_dOf_6 ?_
    refine lv_icmp_ge (tgt := 21) hx hb dX3_dOf_9 (by decide) (fun c_2 => ?_) (fun c_2 => ?_)
    · have h := if_t c_2 h
      refine lv_iconst (v := (-1)) hx hb dX3_dOf_21 (by decide) ?_
      refine lv_goto (tgt := 31) hx hb dX3_dOf_22 (by decide) ?_
      exact sw_ri hx hb hr hlocks hS () (pr1 h) hP hD dX3_dOf_31
    · have h := if_f c_2 h
      refine lv_iload_n hx hb dX3_dOf_12 rfl (lv_at hl 1 rfl) ?_
      refine lv_aload_n hx hb dX3_dOf_13 rfl (lv_at hl 0 rfl) ?_
      refine va_get (v := .ref q_t_ds) hx hb htU iU_X3 hown hK hP 0 rfl rfl 5 (by decide) (htU _ fl_X3_28) (fun _ h9 => h9) rfl dX3_dOf_14 ?_
      refine va_alen (v := 30) hx hb hK hP 1 0 rfl rfl (by decide : Int32.ofNat 30 = 30) dX3_dOf_17 ?_
      refine lv_icmp_lt (tgt := 25) hx hb dX3_dOf_18 (by decide) (fun c_3 => ?_) (fun c_3 => ?_)
      · have h := if_t c_3 h
        refine lv_aload_n hx hb dX3_dOf_25 rfl (lv_at hl 0 rfl) ?_
        refine va_get (v := .ref q_t_ds) hx hb htU iU_X3 hown hK hP 0 rfl rfl 5 (by decide) (htU _ fl_X3_28) (fun _ h9 => h9) rfl dX3_dOf_26 ?_
        refine lv_iload_n hx hb dX3_dOf_29 rfl (lv_at hl 1 rfl) ?_
        obtain ⟨hi_4, h⟩ := ix_at h
        refine va_iald hx hb hK hP 1 0 rfl rfl hi_4 dX3_dOf_30 ?_
        exact sw_ri hx hb hr hlocks hS () (pr1 h) hP hD dX3_dOf_31
      · have h := if_f c_3 h
        refine lv_iconst (v := (-1)) hx hb dX3_dOf_21 (by decide) ?_
        refine lv_goto (tgt := 31) hx hb dX3_dOf_22 (by decide) ?_
        exact sw_ri hx hb hr hlocks hS () (pr1 h) hP hD dX3_dOf_31
theorem mv_X3_placeOf : sw_MV yX3_placeOf RX3 cX3_placeOf 3 (Option.some Jvm.ClassFile.FieldType.int) 1 := ⟨im_X3_placeOf, se_X3_placeOf, ini_X3, co_X3_placeOf, by decide +kernel⟩
def B_X3_placeOf_2 (x1 : Int32) (t : PlanT) (k_2 : Int32 → Option (Int32)) (x2 : Int32) : Option (Int32) :=
 (if t.2.2.2.2.1 ≤ x2 then some (-1) else (if 30 ≤ x2 then some (-1) else ix x2 30 ((if (t.2.2.2.2.2.1 x2.toNatClampNeg) = x1 then some x2 else nm (x2 + 1) (fun x2_5 => k_2 x2_5)))))
def F_X3_placeOf (x1 : Int32) (t : PlanT) : Option (Int32) :=
 fx (fun _ => none) (B_X3_placeOf_2 x1 t) FUEL 0
abbrev RM_X3_placeOf : Room := ({ frames := 0, cells := 0, slots := 0, locals := 0 } : Room)
set_option maxHeartbeats 4000000 in
set_option maxRecDepth 100000 in
theorem c_X3_placeOf (l : Launch) (G : va_G) (ca Z : Nat → Nat) (q_t : Nat) (q_t_ds : Nat) (z_t_rooms : Value) (sz : Nat) (x1 : Int32) (t : PlanT) (res : Int32) (hF : F_X3_placeOf x1 t = some res) : Met l yX3_placeOf (.code yX3_placeOf cX3_placeOf 3 (Option.some Jvm.ClassFile.FieldType.int) :: sw_U) RM_X3_placeOf (va_Pc [.ref q_t, .int x1] (sw_Pre G ca Z [(q_t, .inr (1, [.int t.1, .int t.2.1, z_t_rooms, .int t.2.2.2.1, .int t.2.2.2.2.1, .ref q_t_ds, .int t.2.2.2.2.2.2])), (q_t_ds, .inl (ca 0, 30, .inl t.2.2.2.2.2.1))] sz)) ((fun A => va_Qi (fun r (u : Unit) => res = r) (sw_Post G A (fun (u : Unit) => [(q_t, .inr (1, [.int t.1, .int t.2.1, z_t_rooms, .int t.2.2.2.1, .int t.2.2.2.2.1, .ref q_t_ds, .int t.2.2.2.2.2.2])), (q_t_ds, .inl (ca 0, 30, .inl t.2.2.2.2.2.1))])) A) (va_A [(q_t, .inr (1, [.int t.1, .int t.2.1, z_t_rooms, .int t.2.2.2.1, .int t.2.2.2.2.1, .ref q_t_ds, .int t.2.2.2.2.2.2])), (q_t_ds, .inl (ca 0, 30, .inl t.2.2.2.2.2.1))] sz)) 0 0 (va_A [(q_t, .inr (1, [.int t.1, .int t.2.1, z_t_rooms, .int t.2.2.2.1, .int t.2.2.2.2.1, .ref q_t_ds, .int t.2.2.2.2.2.2])), (q_t_ds, .inl (ca 0, 30, .inl t.2.2.2.2.2.1))] sz) := by
  refine sw_ofW (Qc := fun A => va_Qi (fun r (u : Unit) => res = r) (sw_Post G A (fun (u : Unit) => [(q_t, .inr (1, [.int t.1, .int t.2.1, z_t_rooms, .int t.2.2.2.1, .int t.2.2.2.2.1, .ref q_t_ds, .int t.2.2.2.2.2.2])), (q_t_ds, .inl (ca 0, 30, .inl t.2.2.2.2.2.1))])) A) (by decide) [(0, .ref q_t), (1, .int x1)] rfl (Nat.le_of_ble_eq_true rfl) ?_
  intro p e s m args below meth c ls A hx hb hr hml hown htU hlocks hnm hP hK hD hX hY hS hA hl
  have hown : s.vm.findClass RX3 = some m.cls := hown
  have Cx : sw_Cx p s m args c cX3_placeOf 3 RX3 G ca Z A := ⟨⟨hx, hb, hml, hown, htU⟩, hK, hX, hY, hA⟩
  have h := hF
  unfold F_X3_placeOf at h
  have hL_2 : ∀ (n_2 : Nat) (x2 : Int32) (ls : Array Slot) (H : Heap) (locs : List Loc), lv_has ls 3 [(0, .ref q_t), (1, .int x1), (2, .int x2)] → va_P G vwCl [(q_t, .inr (1, [.int t.1, .int t.2.1, z_t_rooms, .int t.2.2.2.1, .int t.2.2.2.2.1, .ref q_t_ds, .int t.2.2.2.2.2.2])), (q_t_ds, .inl (ca 0, 30, .inl t.2.2.2.2.2.1))] H → va_D A [(q_t, .inr (1, [.int t.1, .int t.2.1, z_t_rooms, .int t.2.2.2.1, .int t.2.2.2.2.1, .ref q_t_ds, .int t.2.2.2.2.2.2])), (q_t_ds, .inl (ca 0, 30, .inl t.2.2.2.2.2.1))] → va_S A s.heap H locs → fx (fun _ => none) (B_X3_placeOf_2 x1 t) n_2 x2 = some res → W p l e RM_X3_placeOf s m args below meth c H locs 0 0 (MQ below ((fun A => va_Qi (fun r (u : Unit) => res = r) (sw_Post G A (fun (u : Unit) => [(q_t, .inr (1, [.int t.1, .int t.2.1, z_t_rooms, .int t.2.2.2.1, .int t.2.2.2.2.1, .ref q_t_ds, .int t.2.2.2.2.2.2])), (q_t_ds, .inl (ca 0, 30, .inl t.2.2.2.2.2.1))])) A) A) args s 0 0 A) (F0 m 2 ls []) := by
    intro n_2
    induction n_2 with
    | zero => intro x2 ls H locs hl hP hD hS h; exact no_at h
    | succ n_2 ih_2 =>
      intro x2 ls H locs hl hP hD hS h
      rw [fx_s] at h
      unfold B_X3_placeOf_2 at h
      refine lv_iload_n hx hb dX3_placeOf_2 rfl (lv_at hl 2 rfl) ?_
      refine lv_aload_n hx hb dX3_placeOf_3 rfl (lv_at hl 0 rfl) ?_
      refine va_get (v := .int t.2.2.2.2.1) hx hb htU iU_X3 hown hK hP 0 rfl rfl 4 (by decide) (htU _ fl_X3_25) (fun _ h9 => h9) rfl dX3_placeOf_4 ?_
      refine lv_icmp_ge (tgt := 37) hx hb dX3_placeOf_7 (by decide) (fun c_1 => ?_) (fun c_1 => ?_)
      · have h := if_t c_1 h
        refine lv_iconst (v := (-1)) hx hb dX3_placeOf_37 (by decide) ?_
        exact sw_ri hx hb hr hlocks hS () (pr1 h) hP hD dX3_placeOf_38
      · have h := if_f c_1 h
        refine lv_iload_n hx hb dX3_placeOf_10 rfl (lv_at hl 2 rfl) ?_
        refine lv_aload_n hx hb dX3_placeOf_11 rfl (lv_at hl 0 rfl) ?_
        refine va_get (v := .ref q_t_ds) hx hb htU iU_X3 hown hK hP 0 rfl rfl 5 (by decide) (htU _ fl_X3_28) (fun _ h9 => h9) rfl dX3_placeOf_12 ?_
        refine va_alen (v := 30) hx hb hK hP 1 0 rfl rfl (by decide : Int32.ofNat 30 = 30) dX3_placeOf_15 ?_
        refine lv_icmp_ge (tgt := 37) hx hb dX3_placeOf_16 (by decide) (fun c_2 => ?_) (fun c_2 => ?_)
        · have h := if_t c_2 h
          refine lv_iconst (v := (-1)) hx hb dX3_placeOf_37 (by decide) ?_
          exact sw_ri hx hb hr hlocks hS () (pr1 h) hP hD dX3_placeOf_38
        · have h := if_f c_2 h
          refine lv_aload_n hx hb dX3_placeOf_19 rfl (lv_at hl 0 rfl) ?_
          refine va_get (v := .ref q_t_ds) hx hb htU iU_X3 hown hK hP 0 rfl rfl 5 (by decide) (htU _ fl_X3_28) (fun _ h9 => h9) rfl dX3_placeOf_20 ?_
          refine lv_iload_n hx hb dX3_placeOf_23 rfl (lv_at hl 2 rfl) ?_
          obtain ⟨hi_3, h⟩ := ix_at h
          refine va_iald hx hb hK hP 1 0 rfl rfl hi_3 dX3_placeOf_24 ?_
          refine lv_iload_n hx hb dX3_placeOf_25 rfl (lv_at hl 1 rfl) ?_
          refine lv_icmp_ne (tgt := 31) hx hb dX3_placeOf_26 (by decide) (fun c_4 => ?_) (fun c_4 => ?_)
          · have h := if_f c_4 h
            obtain ⟨x2_5, e_x2_5⟩ : ∃ y : Int32, y = x2 + 1 := ⟨_, rfl⟩
            refine lv_iinc (v := x2_5) (lv' := [(2, .int x2_5), (0, .ref q_t), (1, .int x1)]) hx hb dX3_placeOf_31 hl (k := 2) rfl (by rw [e_x2_5]; rfl) (by decide) rfl (fun ls hl => ?_)
            have h := nm_at e_x2_5 h
            refine lv_goto (tgt := 2) hx hb dX3_placeOf_34 (by decide) ?_
            exact ih_2 x2_5 ls H _ (lv_sub hl [1, 2, 0] rfl) hP hD hS h
          · have h := if_t c_4 h
            refine lv_iload_n hx hb dX3_placeOf_29 rfl (lv_at hl 2 rfl) ?_
            exact sw_ri hx hb hr hlocks hS () (pr1 h) hP hD dX3_placeOf_30
  refine lv_iconst (v := 0) hx hb dX3_placeOf_0 (by decide) ?_
  refine lv_istore_n (lv' := [(2, .int 0), (0, .ref q_t), (1, .int x1)]) hx hb dX3_placeOf_1 rfl hl (by decide) rfl (fun ls hl => ?_)
  exact hL_2 FUEL 0 ls s.heap _ (lv_sub hl [1, 2, 0] rfl) hP hD hS h
theorem mv_X3_appendStriker : sw_MV yX3_appendStriker RX3 cX3_appendStriker 2 (Option.none : Option Jvm.ClassFile.FieldType) 1 := ⟨im_X3_appendStriker, se_X3_appendStriker, ini_X3, co_X3_appendStriker, by decide +kernel⟩
def F_X3_appendStriker (x1 : Int32) (t : PlanT) : Option (PlanT) :=
 (if t.2.2.2.2.1 < 0 then some t else (if 30 ≤ t.2.2.2.2.1 then some t else ix t.2.2.2.2.1 30 (nm ((t.2.2.2.2.1 + 1)) (fun f_4 => nm ((t.2.2.2.2.2.2 + 1)) (fun f_5 => some (t.1, t.2.1, t.2.2.1, t.2.2.2.1, f_4, (upd t.2.2.2.2.2.1 t.2.2.2.2.1.toNatClampNeg x1), f_5))))))
abbrev RM_X3_appendStriker : Room := ({ frames := 0, cells := 0, slots := 0, locals := 0 } : Room)
set_option maxHeartbeats 4000000 in
set_option maxRecDepth 100000 in
theorem c_X3_appendStriker (l : Launch) (G : va_G) (ca Z : Nat → Nat) (q_t : Nat) (q_t_ds : Nat) (z_t_rooms : Value) (sz : Nat) (x1 : Int32) (t : PlanT) (res : PlanT) (hF : F_X3_appendStriker x1 t = some res) : Met l yX3_appendStriker (.code yX3_appendStriker cX3_appendStriker 2 (Option.none : Option Jvm.ClassFile.FieldType) :: sw_U) RM_X3_appendStriker (va_Pc [.ref q_t, .int x1] (sw_Pre G ca Z [(q_t, .inr (1, [.int t.1, .int t.2.1, z_t_rooms, .int t.2.2.2.1, .int t.2.2.2.2.1, .ref q_t_ds, .int t.2.2.2.2.2.2])), (q_t_ds, .inl (ca 0, 30, .inl t.2.2.2.2.2.1))] sz)) ((fun A => va_Qv (fun (u : PlanT) => res = u) (sw_Post G A (fun (u : PlanT) => [(q_t, .inr (1, [.int u.1, .int u.2.1, z_t_rooms, .int u.2.2.2.1, .int u.2.2.2.2.1, .ref q_t_ds, .int u.2.2.2.2.2.2])), (q_t_ds, .inl (ca 0, 30, .inl u.2.2.2.2.2.1))])) A) (va_A [(q_t, .inr (1, [.int t.1, .int t.2.1, z_t_rooms, .int t.2.2.2.1, .int t.2.2.2.2.1, .ref q_t_ds, .int t.2.2.2.2.2.2])), (q_t_ds, .inl (ca 0, 30, .inl t.2.2.2.2.2.1))] sz)) 0 0 (va_A [(q_t, .inr (1, [.int t.1, .int t.2.1, z_t_rooms, .int t.2.2.2.1, .int t.2.2.2.2.1, .ref q_t_ds, .int t.2.2.2.2.2.2])), (q_t_ds, .inl (ca 0, 30, .inl t.2.2.2.2.2.1))] sz) := by
  refine sw_ofW (Qc := fun A => va_Qv (fun (u : PlanT) => res = u) (sw_Post G A (fun (u : PlanT) => [(q_t, .inr (1, [.int u.1, .int u.2.1, z_t_rooms, .int u.2.2.2.1, .int u.2.2.2.2.1, .ref q_t_ds, .int u.2.2.2.2.2.2])), (q_t_ds, .inl (ca 0, 30, .inl u.2.2.2.2.2.1))])) A) (by decide) [(0, .ref q_t), (1, .int x1)] rfl (Nat.le_of_ble_eq_true rfl) ?_
  intro p e s m args below meth c ls A hx hb hr hml hown htU hlocks hnm hP hK hD hX hY hS hA hl
  have hown : s.vm.findClass RX3 = some m.cls := hown
  have Cx : sw_Cx p s m args c cX3_appendStriker 2 RX3 G ca Z A := ⟨⟨hx, hb, hml, hown, htU⟩, hK, hX, hY, hA⟩
  have h := hF
  unfold F_X3_appendStriker at h
  refine lv_aload_n hx hb dX3_appendStriker_0 rfl (lv_at hl 0 rfl) ?_
  refine va_get (v := .int t.2.2.2.2.1) hx hb htU iU_X3 hown hK hP 0 rfl rfl 4 (by decide) (htU _ fl_X3_25) (fun _ h9 => h9) rfl dX3_appendStriker_1 ?_
  refine lv_if_lt (tgt := 49) hx hb dX3_appendStriker_4 (by decide) (fun c_1 => ?_) (fun c_1 => ?_)
  · have h := if_t c_1 h
    exact sw_rv hx hb hr hlocks hS t (pr1 h) hP hD dX3_appendStriker_49
  · have h := if_f c_1 h
    refine lv_aload_n hx hb dX3_appendStriker_7 rfl (lv_at hl 0 rfl) ?_
    refine va_get (v := .int t.2.2.2.2.1) hx hb htU iU_X3 hown hK hP 0 rfl rfl 4 (by decide) (htU _ fl_X3_25) (fun _ h9 => h9) rfl dX3_appendStriker_8 ?_
    refine lv_aload_n hx hb dX3_appendStriker_11 rfl (lv_at hl 0 rfl) ?_
    refine va_get (v := .ref q_t_ds) hx hb htU iU_X3 hown hK hP 0 rfl rfl 5 (by decide) (htU _ fl_X3_28) (fun _ h9 => h9) rfl dX3_appendStriker_12 ?_
    refine va_alen (v := 30) hx hb hK hP 1 0 rfl rfl (by decide : Int32.ofNat 30 = 30) dX3_appendStriker_15 ?_
    refine lv_icmp_ge (tgt := 49) hx hb dX3_appendStriker_16 (by decide) (fun c_2 => ?_) (fun c_2 => ?_)
    · have h := if_t c_2 h
      exact sw_rv hx hb hr hlocks hS t (pr1 h) hP hD dX3_appendStriker_49
    · have h := if_f c_2 h
      refine lv_aload_n hx hb dX3_appendStriker_19 rfl (lv_at hl 0 rfl) ?_
      refine va_get (v := .ref q_t_ds) hx hb htU iU_X3 hown hK hP 0 rfl rfl 5 (by decide) (htU _ fl_X3_28) (fun _ h9 => h9) rfl dX3_appendStriker_20 ?_
      refine lv_aload_n hx hb dX3_appendStriker_23 rfl (lv_at hl 0 rfl) ?_
      refine va_get (v := .int t.2.2.2.2.1) hx hb htU iU_X3 hown hK hP 0 rfl rfl 4 (by decide) (htU _ fl_X3_25) (fun _ h9 => h9) rfl dX3_appendStriker_24 ?_
      refine lv_iload_n hx hb dX3_appendStriker_27 rfl (lv_at hl 1 rfl) ?_
      obtain ⟨hi_3, h⟩ := ix_at h
      refine va_iast hx hb hK hP hD hS 1 0 rfl rfl hi_3 dX3_appendStriker_28 (fun H locs hP hD hS => ?_)
      have hP : va_P G vwCl [(q_t, .inr (1, [.int t.1, .int t.2.1, z_t_rooms, .int t.2.2.2.1, .int t.2.2.2.2.1, .ref q_t_ds, .int t.2.2.2.2.2.2])), (q_t_ds, .inl (ca 0, 30, .inl (upd t.2.2.2.2.2.1 t.2.2.2.2.1.toNatClampNeg x1)))] H := hP
      have hD : va_D A [(q_t, .inr (1, [.int t.1, .int t.2.1, z_t_rooms, .int t.2.2.2.1, .int t.2.2.2.2.1, .ref q_t_ds, .int t.2.2.2.2.2.2])), (q_t_ds, .inl (ca 0, 30, .inl (upd t.2.2.2.2.2.1 t.2.2.2.2.1.toNatClampNeg x1)))] := hD
      refine lv_aload_n hx hb dX3_appendStriker_29 rfl (lv_at hl 0 rfl) ?_
      refine lv_dup hx hb dX3_appendStriker_30 rfl ?_
      refine va_get (v := .int t.2.2.2.2.1) hx hb htU iU_X3 hown hK hP 0 rfl rfl 4 (by decide) (htU _ fl_X3_25) (fun _ h9 => h9) rfl dX3_appendStriker_31 ?_
      refine lv_iconst (v := 1) hx hb dX3_appendStriker_34 (by decide) ?_
      refine lv_iadd hx hb dX3_appendStriker_35 ?_
      refine lv_topi (fun f_4 e_f_4 => ?_)
      have h := nm_at e_f_4 h
      refine va_put (v := .int f_4) (ty := .int) hx hb htU iU_X3 tyX3 tyX3_ok nmX3 hown hK hP hD hS 0 rfl rfl 4 (by decide) (htU _ fl_X3_25) (fun _ h9 => h9) rfl (by decide +kernel) rfl rfl (Nat.le_of_ble_eq_true rfl) dX3_appendStriker_36 (fun H locs hP hD hS => ?_)
      have hP : va_P G vwCl [(q_t, .inr (1, [.int t.1, .int t.2.1, z_t_rooms, .int t.2.2.2.1, .int f_4, .ref q_t_ds, .int t.2.2.2.2.2.2])), (q_t_ds, .inl (ca 0, 30, .inl (upd t.2.2.2.2.2.1 t.2.2.2.2.1.toNatClampNeg x1)))] H := hP
      have hD : va_D A [(q_t, .inr (1, [.int t.1, .int t.2.1, z_t_rooms, .int t.2.2.2.1, .int f_4, .ref q_t_ds, .int t.2.2.2.2.2.2])), (q_t_ds, .inl (ca 0, 30, .inl (upd t.2.2.2.2.2.1 t.2.2.2.2.1.toNatClampNeg x1)))] := hD
      refine lv_aload_n hx hb dX3_appendStriker_39 rfl (lv_at hl 0 rfl) ?_
      refine lv_dup hx hb dX3_appendStriker_40 rfl ?_
      refine va_get (v := .int t.2.2.2.2.2.2) hx hb htU iU_X3 hown hK hP 0 rfl rfl 6 (by decide) (htU _ fl_X3_31) (fun _ h9 => h9) rfl dX3_appendStriker_41 ?_
      refine lv_iconst (v := 1) hx hb dX3_appendStriker_44 (by decide) ?_
      refine lv_iadd hx hb dX3_appendStriker_45 ?_
      refine lv_topi (fun f_5 e_f_5 => ?_)
      have h := nm_at e_f_5 h
      refine va_put (v := .int f_5) (ty := .int) hx hb htU iU_X3 tyX3 tyX3_ok nmX3 hown hK hP hD hS 0 rfl rfl 6 (by decide) (htU _ fl_X3_31) (fun _ h9 => h9) rfl (by decide +kernel) rfl rfl (Nat.le_of_ble_eq_true rfl) dX3_appendStriker_46 (fun H locs hP hD hS => ?_)
      have hP : va_P G vwCl [(q_t, .inr (1, [.int t.1, .int t.2.1, z_t_rooms, .int t.2.2.2.1, .int f_4, .ref q_t_ds, .int f_5])), (q_t_ds, .inl (ca 0, 30, .inl (upd t.2.2.2.2.2.1 t.2.2.2.2.1.toNatClampNeg x1)))] H := hP
      have hD : va_D A [(q_t, .inr (1, [.int t.1, .int t.2.1, z_t_rooms, .int t.2.2.2.1, .int f_4, .ref q_t_ds, .int f_5])), (q_t_ds, .inl (ca 0, 30, .inl (upd t.2.2.2.2.2.1 t.2.2.2.2.1.toNatClampNeg x1)))] := hD
      exact sw_rv hx hb hr hlocks hS (t.1, t.2.1, t.2.2.1, t.2.2.2.1, f_4, (upd t.2.2.2.2.2.1 t.2.2.2.2.1.toNatClampNeg x1), f_5) (pr1 h) hP hD dX3_appendStriker_49
theorem mv_X3_removeStriker : sw_MV yX3_removeStriker RX3 cX3_removeStriker 3 (Option.none : Option Jvm.ClassFile.FieldType) 1 := ⟨im_X3_removeStriker, se_X3_removeStriker, ini_X3, co_X3_removeStriker, by decide +kernel⟩
def B_X3_removeStriker_15 (x1 : Int32) (k_15 : Int32 → PlanT → Option (PlanT)) (x2 : Int32) (t : PlanT) : Option (PlanT) :=
 (if t.2.2.2.2.1 ≤ (x2 + 1) then nm ((t.2.2.2.2.1 - 1)) (fun f_4 => nm ((t.2.2.2.2.2.2 + 1)) (fun f_5 => some (t.1, t.2.1, t.2.2.1, t.2.2.2.1, f_4, t.2.2.2.2.2.1, f_5))) else (if 30 ≤ (x2 + 1) then nm ((t.2.2.2.2.1 - 1)) (fun f_7 => nm ((t.2.2.2.2.2.2 + 1)) (fun f_8 => some (t.1, t.2.1, t.2.2.1, t.2.2.2.1, f_7, t.2.2.2.2.2.1, f_8))) else ix (x2 + 1) 30 (nm ((t.2.2.2.2.2.1 (x2 + 1).toNatClampNeg)) (fun a_10 => ix x2 30 (nm (x2 + 1) (fun x2_12 => k_15 x2_12 (t.1, t.2.1, t.2.2.1, t.2.2.2.1, t.2.2.2.2.1, (upd t.2.2.2.2.2.1 x2.toNatClampNeg a_10), t.2.2.2.2.2.2)))))))
def F_X3_removeStriker (x1 : Int32) (t : PlanT) : Option (PlanT) :=
 (if x1 < 0 then some t else (if x1 < t.2.2.2.2.1 then fx (fun _ _ => none) (B_X3_removeStriker_15 x1) FUEL x1 t else some t))
abbrev RM_X3_removeStriker : Room := ({ frames := 0, cells := 0, slots := 0, locals := 0 } : Room)
set_option maxHeartbeats 4000000 in
set_option maxRecDepth 100000 in
theorem c_X3_removeStriker (l : Launch) (G : va_G) (ca Z : Nat → Nat) (q_t : Nat) (q_t_ds : Nat) (z_t_rooms : Value) (sz : Nat) (x1 : Int32) (t : PlanT) (res : PlanT) (hF : F_X3_removeStriker x1 t = some res) : Met l yX3_removeStriker (.code yX3_removeStriker cX3_removeStriker 3 (Option.none : Option Jvm.ClassFile.FieldType) :: sw_U) RM_X3_removeStriker (va_Pc [.ref q_t, .int x1] (sw_Pre G ca Z [(q_t, .inr (1, [.int t.1, .int t.2.1, z_t_rooms, .int t.2.2.2.1, .int t.2.2.2.2.1, .ref q_t_ds, .int t.2.2.2.2.2.2])), (q_t_ds, .inl (ca 0, 30, .inl t.2.2.2.2.2.1))] sz)) ((fun A => va_Qv (fun (u : PlanT) => res = u) (sw_Post G A (fun (u : PlanT) => [(q_t, .inr (1, [.int u.1, .int u.2.1, z_t_rooms, .int u.2.2.2.1, .int u.2.2.2.2.1, .ref q_t_ds, .int u.2.2.2.2.2.2])), (q_t_ds, .inl (ca 0, 30, .inl u.2.2.2.2.2.1))])) A) (va_A [(q_t, .inr (1, [.int t.1, .int t.2.1, z_t_rooms, .int t.2.2.2.1, .int t.2.2.2.2.1, .ref q_t_ds, .int t.2.2.2.2.2.2])), (q_t_ds, .inl (ca 0, 30, .inl t.2.2.2.2.2.1))] sz)) 0 0 (va_A [(q_t, .inr (1, [.int t.1, .int t.2.1, z_t_rooms, .int t.2.2.2.1, .int t.2.2.2.2.1, .ref q_t_ds, .int t.2.2.2.2.2.2])), (q_t_ds, .inl (ca 0, 30, .inl t.2.2.2.2.2.1))] sz) := by
  refine sw_ofW (Qc := fun A => va_Qv (fun (u : PlanT) => res = u) (sw_Post G A (fun (u : PlanT) => [(q_t, .inr (1, [.int u.1, .int u.2.1, z_t_rooms, .int u.2.2.2.1, .int u.2.2.2.2.1, .ref q_t_ds, .int u.2.2.2.2.2.2])), (q_t_ds, .inl (ca 0, 30, .inl u.2.2.2.2.2.1))])) A) (by decide) [(0, .ref q_t), (1, .int x1)] rfl (Nat.le_of_ble_eq_true rfl) ?_
  intro p e s m args below meth c ls A hx hb hr hml hown htU hlocks hnm hP hK hD hX hY hS hA hl
  have hown : s.vm.findClass RX3 = some m.cls := hown
  have Cx : sw_Cx p s m args c cX3_removeStriker 3 RX3 G ca Z A := ⟨⟨hx, hb, hml, hown, htU⟩, hK, hX, hY, hA⟩
  have h := hF
  unfold F_X3_removeStriker at h
  have hL_15 : ∀ (n_15 : Nat) (x2 : Int32) (t : PlanT) (ls : Array Slot) (H : Heap) (locs : List Loc), lv_has ls 3 [(0, .ref q_t), (2, .int x2)] → va_P G vwCl [(q_t, .inr (1, [.int t.1, .int t.2.1, z_t_rooms, .int t.2.2.2.1, .int t.2.2.2.2.1, .ref q_t_ds, .int t.2.2.2.2.2.2])), (q_t_ds, .inl (ca 0, 30, .inl t.2.2.2.2.2.1))] H → va_D A [(q_t, .inr (1, [.int t.1, .int t.2.1, z_t_rooms, .int t.2.2.2.1, .int t.2.2.2.2.1, .ref q_t_ds, .int t.2.2.2.2.2.2])), (q_t_ds, .inl (ca 0, 30, .inl t.2.2.2.2.2.1))] → va_S A s.heap H locs → fx (fun _ _ => none) (B_X3_removeStriker_15 x1) n_15 x2 t = some res → W p l e RM_X3_removeStriker s m args below meth c H locs 0 0 (MQ below ((fun A => va_Qv (fun (u : PlanT) => res = u) (sw_Post G A (fun (u : PlanT) => [(q_t, .inr (1, [.int u.1, .int u.2.1, z_t_rooms, .int u.2.2.2.1, .int u.2.2.2.2.1, .ref q_t_ds, .int u.2.2.2.2.2.2])), (q_t_ds, .inl (ca 0, 30, .inl u.2.2.2.2.2.1))])) A) A) args s 0 0 A) (F0 m 15 ls []) := by
    intro n_15
    induction n_15 with
    | zero => intro x2 t ls H locs hl hP hD hS h; exact no_at h
    | succ n_15 ih_15 =>
      intro x2 t ls H locs hl hP hD hS h
      rw [fx_s] at h
      unfold B_X3_removeStriker_15 at h
      refine lv_iload_n hx hb dX3_removeStriker_15 rfl (lv_at hl 1 rfl) ?_
      refine lv_iconst (v := 1) hx hb dX3_removeStriker_16 (by decide) ?_
      refine lv_iadd hx hb dX3_removeStriker_17 ?_
      refine lv_aload_n hx hb dX3_removeStriker_18 rfl (lv_at hl 0 rfl) ?_
      refine va_get (v := .int t.2.2.2.2.1) hx hb htU iU_X3 hown hK hP 0 rfl rfl 4 (by decide) (htU _ fl_X3_25) (fun _ h9 => h9) rfl dX3_removeStriker_19 ?_
      refine lv_icmp_ge (tgt := 56) hx hb dX3_removeStriker_22 (by decide) (fun c_3 => ?_) (fun c_3 => ?_)
      · have h := if_t c_3 h
        refine lv_aload_n hx hb dX3_removeStriker_56 rfl (lv_at hl 0 rfl) ?_
        refine lv_dup hx hb dX3_removeStriker_57 rfl ?_
        refine va_get (v := .int t.2.2.2.2.1) hx hb htU iU_X3 hown hK hP 0 rfl rfl 4 (by decide) (htU _ fl_X3_25) (fun _ h9 => h9) rfl dX3_removeStriker_58 ?_
        refine lv_iconst (v := 1) hx hb dX3_removeStriker_61 (by decide) ?_
        refine lv_isub hx hb dX3_removeStriker_62 ?_
        refine lv_topi (fun f_4 e_f_4 => ?_)
        have h := nm_at e_f_4 h
        refine va_put (v := .int f_4) (ty := .int) hx hb htU iU_X3 tyX3 tyX3_ok nmX3 hown hK hP hD hS 0 rfl rfl 4 (by decide) (htU _ fl_X3_25) (fun _ h9 => h9) rfl (by decide +kernel) rfl rfl (Nat.le_of_ble_eq_true rfl) dX3_removeStriker_63 (fun H locs hP hD hS => ?_)
        have hP : va_P G vwCl [(q_t, .inr (1, [.int t.1, .int t.2.1, z_t_rooms, .int t.2.2.2.1, .int f_4, .ref q_t_ds, .int t.2.2.2.2.2.2])), (q_t_ds, .inl (ca 0, 30, .inl t.2.2.2.2.2.1))] H := hP
        have hD : va_D A [(q_t, .inr (1, [.int t.1, .int t.2.1, z_t_rooms, .int t.2.2.2.1, .int f_4, .ref q_t_ds, .int t.2.2.2.2.2.2])), (q_t_ds, .inl (ca 0, 30, .inl t.2.2.2.2.2.1))] := hD
        refine lv_aload_n hx hb dX3_removeStriker_66 rfl (lv_at hl 0 rfl) ?_
        refine lv_dup hx hb dX3_removeStriker_67 rfl ?_
        refine va_get (v := .int t.2.2.2.2.2.2) hx hb htU iU_X3 hown hK hP 0 rfl rfl 6 (by decide) (htU _ fl_X3_31) (fun _ h9 => h9) rfl dX3_removeStriker_68 ?_
        refine lv_iconst (v := 1) hx hb dX3_removeStriker_71 (by decide) ?_
        refine lv_iadd hx hb dX3_removeStriker_72 ?_
        refine lv_topi (fun f_5 e_f_5 => ?_)
        have h := nm_at e_f_5 h
        refine va_put (v := .int f_5) (ty := .int) hx hb htU iU_X3 tyX3 tyX3_ok nmX3 hown hK hP hD hS 0 rfl rfl 6 (by decide) (htU _ fl_X3_31) (fun _ h9 => h9) rfl (by decide +kernel) rfl rfl (Nat.le_of_ble_eq_true rfl) dX3_removeStriker_73 (fun H locs hP hD hS => ?_)
        have hP : va_P G vwCl [(q_t, .inr (1, [.int t.1, .int t.2.1, z_t_rooms, .int t.2.2.2.1, .int f_4, .ref q_t_ds, .int f_5])), (q_t_ds, .inl (ca 0, 30, .inl t.2.2.2.2.2.1))] H := hP
        have hD : va_D A [(q_t, .inr (1, [.int t.1, .int t.2.1, z_t_rooms, .int t.2.2.2.1, .int f_4, .ref q_t_ds, .int f_5])), (q_t_ds, .inl (ca 0, 30, .inl t.2.2.2.2.2.1))] := hD
        exact sw_rv hx hb hr hlocks hS (t.1, t.2.1, t.2.2.1, t.2.2.2.1, f_4, t.2.2.2.2.2.1, f_5) (pr1 h) hP hD dX3_removeStriker_76
      · have h := if_f c_3 h
        refine lv_iload_n hx hb dX3_removeStriker_25 rfl (lv_at hl 1 rfl) ?_
        refine lv_iconst (v := 1) hx hb dX3_removeStriker_26 (by decide) ?_
        refine lv_iadd hx hb dX3_removeStriker_27 ?_
        refine lv_aload_n hx hb dX3_removeStriker_28 rfl (lv_at hl 0 rfl) ?_
        refine va_get (v := .ref q_t_ds) hx hb htU iU_X3 hown hK hP 0 rfl rfl 5 (by decide) (htU _ fl_X3_28) (fun _ h9 => h9) rfl dX3_removeStriker_29 ?_
        refine va_alen (v := 30) hx hb hK hP 1 0 rfl rfl (by decide : Int32.ofNat 30 = 30) dX3_removeStriker_32 ?_
        refine lv_icmp_ge (tgt := 56) hx hb dX3_removeStriker_33 (by decide) (fun c_6 => ?_) (fun c_6 => ?_)
        · have h := if_t c_6 h
          refine lv_aload_n hx hb dX3_removeStriker_56 rfl (lv_at hl 0 rfl) ?_
          refine lv_dup hx hb dX3_removeStriker_57 rfl ?_
          refine va_get (v := .int t.2.2.2.2.1) hx hb htU iU_X3 hown hK hP 0 rfl rfl 4 (by decide) (htU _ fl_X3_25) (fun _ h9 => h9) rfl dX3_removeStriker_58 ?_
          refine lv_iconst (v := 1) hx hb dX3_removeStriker_61 (by decide) ?_
          refine lv_isub hx hb dX3_removeStriker_62 ?_
          refine lv_topi (fun f_7 e_f_7 => ?_)
          have h := nm_at e_f_7 h
          refine va_put (v := .int f_7) (ty := .int) hx hb htU iU_X3 tyX3 tyX3_ok nmX3 hown hK hP hD hS 0 rfl rfl 4 (by decide) (htU _ fl_X3_25) (fun _ h9 => h9) rfl (by decide +kernel) rfl rfl (Nat.le_of_ble_eq_true rfl) dX3_removeStriker_63 (fun H locs hP hD hS => ?_)
          have hP : va_P G vwCl [(q_t, .inr (1, [.int t.1, .int t.2.1, z_t_rooms, .int t.2.2.2.1, .int f_7, .ref q_t_ds, .int t.2.2.2.2.2.2])), (q_t_ds, .inl (ca 0, 30, .inl t.2.2.2.2.2.1))] H := hP
          have hD : va_D A [(q_t, .inr (1, [.int t.1, .int t.2.1, z_t_rooms, .int t.2.2.2.1, .int f_7, .ref q_t_ds, .int t.2.2.2.2.2.2])), (q_t_ds, .inl (ca 0, 30, .inl t.2.2.2.2.2.1))] := hD
          refine lv_aload_n hx hb dX3_removeStriker_66 rfl (lv_at hl 0 rfl) ?_
          refine lv_dup hx hb dX3_removeStriker_67 rfl ?_
          refine va_get (v := .int t.2.2.2.2.2.2) hx hb htU iU_X3 hown hK hP 0 rfl rfl 6 (by decide) (htU _ fl_X3_31) (fun _ h9 => h9) rfl dX3_removeStriker_68 ?_
          refine lv_iconst (v := 1) hx hb dX3_removeStriker_71 (by decide) ?_
          refine lv_iadd hx hb dX3_removeStriker_72 ?_
          refine lv_topi (fun f_8 e_f_8 => ?_)
          have h := nm_at e_f_8 h
          refine va_put (v := .int f_8) (ty := .int) hx hb htU iU_X3 tyX3 tyX3_ok nmX3 hown hK hP hD hS 0 rfl rfl 6 (by decide) (htU _ fl_X3_31) (fun _ h9 => h9) rfl (by decide +kernel) rfl rfl (Nat.le_of_ble_eq_true rfl) dX3_removeStriker_73 (fun H locs hP hD hS => ?_)
          have hP : va_P G vwCl [(q_t, .inr (1, [.int t.1, .int t.2.1, z_t_rooms, .int t.2.2.2.1, .int f_7, .ref q_t_ds, .int f_8])), (q_t_ds, .inl (ca 0, 30, .inl t.2.2.2.2.2.1))] H := hP
          have hD : va_D A [(q_t, .inr (1, [.int t.1, .int t.2.1, z_t_rooms, .int t.2.2.2.1, .int f_7, .ref q_t_ds, .int f_8])), (q_t_ds, .inl (ca 0, 30, .inl t.2.2.2.2.2.1))] := hD
          exact sw_rv hx hb hr hlocks hS (t.1, t.2.1, t.2.2.1, t.2.2.2.1, f_7, t.2.2.2.2.2.1, f_8) (pr1 h) hP hD dX3_removeStriker_76
        · have h := if_f c_6 h
          refine lv_aload_n hx hb dX3_removeStriker_36 rfl (lv_at hl 0 rfl) ?_
          refine va_get (v := .ref q_t_ds) hx hb htU iU_X3 hown hK hP 0 rfl rfl 5 (by decide) (htU _ fl_X3_28) (fun _ h9 => h9) rfl dX3_removeStriker_37 ?_
          refine lv_iload_n hx hb dX3_removeStriker_40 rfl (lv_at hl 1 rfl) ?_
          refine lv_aload_n hx hb dX3_removeStriker_41 rfl (lv_at hl 0 rfl) ?_
          refine va_get (v := .ref q_t_ds) hx hb htU iU_X3 hown hK hP 0 rfl rfl 5 (by decide) (htU _ fl_X3_28) (fun _ h9 => h9) rfl dX3_removeStriker_42 ?_
          refine lv_iload_n hx hb dX3_removeStriker_45 rfl (lv_at hl 1 rfl) ?_
          refine lv_iconst (v := 1) hx hb dX3_removeStriker_46 (by decide) ?_
          refine lv_iadd hx hb dX3_removeStriker_47 ?_
          obtain ⟨hi_9, h⟩ := ix_at h
          refine va_iald hx hb hK hP 1 0 rfl rfl hi_9 dX3_removeStriker_48 ?_
          refine lv_topi (fun a_10 e_a_10 => ?_)
          have h := nm_at e_a_10 h
          obtain ⟨hi_11, h⟩ := ix_at h
          refine va_iast hx hb hK hP hD hS 1 0 rfl rfl hi_11 dX3_removeStriker_49 (fun H locs hP hD hS => ?_)
          have hP : va_P G vwCl [(q_t, .inr (1, [.int t.1, .int t.2.1, z_t_rooms, .int t.2.2.2.1, .int t.2.2.2.2.1, .ref q_t_ds, .int t.2.2.2.2.2.2])), (q_t_ds, .inl (ca 0, 30, .inl (upd t.2.2.2.2.2.1 x2.toNatClampNeg a_10)))] H := hP
          have hD : va_D A [(q_t, .inr (1, [.int t.1, .int t.2.1, z_t_rooms, .int t.2.2.2.1, .int t.2.2.2.2.1, .ref q_t_ds, .int t.2.2.2.2.2.2])), (q_t_ds, .inl (ca 0, 30, .inl (upd t.2.2.2.2.2.1 x2.toNatClampNeg a_10)))] := hD
          obtain ⟨x2_12, e_x2_12⟩ : ∃ y : Int32, y = x2 + 1 := ⟨_, rfl⟩
          refine lv_iinc (v := x2_12) (lv' := [(2, .int x2_12), (0, .ref q_t)]) hx hb dX3_removeStriker_50 hl (k := 1) rfl (by rw [e_x2_12]; rfl) (by decide) rfl (fun ls hl => ?_)
          have h := nm_at e_x2_12 h
          refine lv_goto (tgt := 15) hx hb dX3_removeStriker_53 (by decide) ?_
          exact ih_15 x2_12 (t.1, t.2.1, t.2.2.1, t.2.2.2.1, t.2.2.2.2.1, (upd t.2.2.2.2.2.1 x2.toNatClampNeg a_10), t.2.2.2.2.2.2) ls H _ (lv_sub hl [1, 0] rfl) hP hD hS h
  refine lv_iload_n hx hb dX3_removeStriker_0 rfl (lv_at hl 1 rfl) ?_
  refine lv_if_lt (tgt := 12) hx hb dX3_removeStriker_1 (by decide) (fun c_1 => ?_) (fun c_1 => ?_)
  · have h := if_t c_1 h
    exact sw_rv hx hb hr hlocks hS t (pr1 h) hP hD dX3_removeStriker_12
  · have h := if_f c_1 h
    refine lv_iload_n hx hb dX3_removeStriker_4 rfl (lv_at hl 1 rfl) ?_
    refine lv_aload_n hx hb dX3_removeStriker_5 rfl (lv_at hl 0 rfl) ?_
    refine va_get (v := .int t.2.2.2.2.1) hx hb htU iU_X3 hown hK hP 0 rfl rfl 4 (by decide) (htU _ fl_X3_25) (fun _ h9 => h9) rfl dX3_removeStriker_6 ?_
    refine lv_icmp_lt (tgt := 13) hx hb dX3_removeStriker_9 (by decide) (fun c_2 => ?_) (fun c_2 => ?_)
    · have h := if_t c_2 h
      refine lv_iload_n hx hb dX3_removeStriker_13 rfl (lv_at hl 1 rfl) ?_
      refine lv_istore_n (lv' := [(2, .int x1), (0, .ref q_t), (1, .int x1)]) hx hb dX3_removeStriker_14 rfl hl (by decide) rfl (fun ls hl => ?_)
      exact hL_15 FUEL x1 t ls s.heap _ (lv_sub hl [1, 0] rfl) hP hD hS h
    · have h := if_f c_2 h
      exact sw_rv hx hb hr hlocks hS t (pr1 h) hP hD dX3_removeStriker_12
theorem mv_X3_exchange : sw_MV yX3_exchange RX3 cX3_exchange 4 (Option.none : Option Jvm.ClassFile.FieldType) 2 := ⟨im_X3_exchange, se_X3_exchange, ini_X3, co_X3_exchange, by decide +kernel⟩
def F_X3_exchange (x1 : Int32) (x2 : Int32) (t : PlanT) : Option (PlanT) :=
 (if x1 < 0 then some t else (if 30 ≤ x1 then some t else (if x2 < 0 then some t else (if x2 < 30 then ix x1 30 (nm ((t.2.2.2.2.2.1 x1.toNatClampNeg)) (fun x3_6 => ix x2 30 (nm ((t.2.2.2.2.2.1 x2.toNatClampNeg)) (fun a_8 => ix x1 30 (ix x2 30 (nm ((t.2.2.2.2.2.2 + 1)) (fun f_11 => some (t.1, t.2.1, t.2.2.1, t.2.2.2.1, t.2.2.2.2.1, (upd (upd t.2.2.2.2.2.1 x1.toNatClampNeg a_8) x2.toNatClampNeg x3_6), f_11)))))))) else some t))))
abbrev RM_X3_exchange : Room := ({ frames := 0, cells := 0, slots := 0, locals := 0 } : Room)
set_option maxHeartbeats 4000000 in
set_option maxRecDepth 100000 in
theorem c_X3_exchange (l : Launch) (G : va_G) (ca Z : Nat → Nat) (q_t : Nat) (q_t_ds : Nat) (z_t_rooms : Value) (sz : Nat) (x1 : Int32) (x2 : Int32) (t : PlanT) (res : PlanT) (hF : F_X3_exchange x1 x2 t = some res) : Met l yX3_exchange (.code yX3_exchange cX3_exchange 4 (Option.none : Option Jvm.ClassFile.FieldType) :: sw_U) RM_X3_exchange (va_Pc [.ref q_t, .int x1, .int x2] (sw_Pre G ca Z [(q_t, .inr (1, [.int t.1, .int t.2.1, z_t_rooms, .int t.2.2.2.1, .int t.2.2.2.2.1, .ref q_t_ds, .int t.2.2.2.2.2.2])), (q_t_ds, .inl (ca 0, 30, .inl t.2.2.2.2.2.1))] sz)) ((fun A => va_Qv (fun (u : PlanT) => res = u) (sw_Post G A (fun (u : PlanT) => [(q_t, .inr (1, [.int u.1, .int u.2.1, z_t_rooms, .int u.2.2.2.1, .int u.2.2.2.2.1, .ref q_t_ds, .int u.2.2.2.2.2.2])), (q_t_ds, .inl (ca 0, 30, .inl u.2.2.2.2.2.1))])) A) (va_A [(q_t, .inr (1, [.int t.1, .int t.2.1, z_t_rooms, .int t.2.2.2.1, .int t.2.2.2.2.1, .ref q_t_ds, .int t.2.2.2.2.2.2])), (q_t_ds, .inl (ca 0, 30, .inl t.2.2.2.2.2.1))] sz)) 0 0 (va_A [(q_t, .inr (1, [.int t.1, .int t.2.1, z_t_rooms, .int t.2.2.2.1, .int t.2.2.2.2.1, .ref q_t_ds, .int t.2.2.2.2.2.2])), (q_t_ds, .inl (ca 0, 30, .inl t.2.2.2.2.2.1))] sz) := by
  refine sw_ofW (Qc := fun A => va_Qv (fun (u : PlanT) => res = u) (sw_Post G A (fun (u : PlanT) => [(q_t, .inr (1, [.int u.1, .int u.2.1, z_t_rooms, .int u.2.2.2.1, .int u.2.2.2.2.1, .ref q_t_ds, .int u.2.2.2.2.2.2])), (q_t_ds, .inl (ca 0, 30, .inl u.2.2.2.2.2.1))])) A) (by decide) [(0, .ref q_t), (1, .int x1), (2, .int x2)] rfl (Nat.le_of_ble_eq_true rfl) ?_
  intro p e s m args below meth c ls A hx hb hr hml hown htU hlocks hnm hP hK hD hX hY hS hA hl
  have hown : s.vm.findClass RX3 = some m.cls := hown
  have Cx : sw_Cx p s m args c cX3_exchange 4 RX3 G ca Z A := ⟨⟨hx, hb, hml, hown, htU⟩, hK, hX, hY, hA⟩
  have h := hF
  unfold F_X3_exchange at h
  refine lv_iload_n hx hb dX3_exchange_0 rfl (lv_at hl 1 rfl) ?_
  refine lv_if_lt (tgt := 26) hx hb dX3_exchange_1 (by decide) (fun c_1 => ?_) (fun c_1 => ?_)
  · have h := if_t c_1 h
    exact sw_rv hx hb hr hlocks hS t (pr1 h) hP hD dX3_exchange_26
  · have h := if_f c_1 h
    refine lv_iload_n hx hb dX3_exchange_4 rfl (lv_at hl 1 rfl) ?_
    refine lv_aload_n hx hb dX3_exchange_5 rfl (lv_at hl 0 rfl) ?_
    refine va_get (v := .ref q_t_ds) hx hb htU iU_X3 hown hK hP 0 rfl rfl 5 (by decide) (htU _ fl_X3_28) (fun _ h9 => h9) rfl dX3_exchange_6 ?_
    refine va_alen (v := 30) hx hb hK hP 1 0 rfl rfl (by decide : Int32.ofNat 30 = 30) dX3_exchange_9 ?_
    refine lv_icmp_ge (tgt := 26) hx hb dX3_exchange_10 (by decide) (fun c_2 => ?_) (fun c_2 => ?_)
    · have h := if_t c_2 h
      exact sw_rv hx hb hr hlocks hS t (pr1 h) hP hD dX3_exchange_26
    · have h := if_f c_2 h
      refine lv_iload_n hx hb dX3_exchange_13 rfl (lv_at hl 2 rfl) ?_
      refine lv_if_lt (tgt := 26) hx hb dX3_exchange_14 (by decide) (fun c_3 => ?_) (fun c_3 => ?_)
      · have h := if_t c_3 h
        exact sw_rv hx hb hr hlocks hS t (pr1 h) hP hD dX3_exchange_26
      · have h := if_f c_3 h
        refine lv_iload_n hx hb dX3_exchange_17 rfl (lv_at hl 2 rfl) ?_
        refine lv_aload_n hx hb dX3_exchange_18 rfl (lv_at hl 0 rfl) ?_
        refine va_get (v := .ref q_t_ds) hx hb htU iU_X3 hown hK hP 0 rfl rfl 5 (by decide) (htU _ fl_X3_28) (fun _ h9 => h9) rfl dX3_exchange_19 ?_
        refine va_alen (v := 30) hx hb hK hP 1 0 rfl rfl (by decide : Int32.ofNat 30 = 30) dX3_exchange_22 ?_
        refine lv_icmp_lt (tgt := 27) hx hb dX3_exchange_23 (by decide) (fun c_4 => ?_) (fun c_4 => ?_)
        · have h := if_t c_4 h
          refine lv_aload_n hx hb dX3_exchange_27 rfl (lv_at hl 0 rfl) ?_
          refine va_get (v := .ref q_t_ds) hx hb htU iU_X3 hown hK hP 0 rfl rfl 5 (by decide) (htU _ fl_X3_28) (fun _ h9 => h9) rfl dX3_exchange_28 ?_
          refine lv_iload_n hx hb dX3_exchange_31 rfl (lv_at hl 1 rfl) ?_
          obtain ⟨hi_5, h⟩ := ix_at h
          refine va_iald hx hb hK hP 1 0 rfl rfl hi_5 dX3_exchange_32 ?_
          refine lv_topi (fun x3_6 e_x3_6 => ?_)
          have h := nm_at e_x3_6 h
          refine lv_istore_n (lv' := [(3, .int x3_6), (0, .ref q_t), (1, .int x1), (2, .int x2)]) hx hb dX3_exchange_33 rfl hl (by decide) rfl (fun ls hl => ?_)
          refine lv_aload_n hx hb dX3_exchange_34 rfl (lv_at hl 1 rfl) ?_
          refine va_get (v := .ref q_t_ds) hx hb htU iU_X3 hown hK hP 0 rfl rfl 5 (by decide) (htU _ fl_X3_28) (fun _ h9 => h9) rfl dX3_exchange_35 ?_
          refine lv_iload_n hx hb dX3_exchange_38 rfl (lv_at hl 2 rfl) ?_
          refine lv_aload_n hx hb dX3_exchange_39 rfl (lv_at hl 1 rfl) ?_
          refine va_get (v := .ref q_t_ds) hx hb htU iU_X3 hown hK hP 0 rfl rfl 5 (by decide) (htU _ fl_X3_28) (fun _ h9 => h9) rfl dX3_exchange_40 ?_
          refine lv_iload_n hx hb dX3_exchange_43 rfl (lv_at hl 3 rfl) ?_
          obtain ⟨hi_7, h⟩ := ix_at h
          refine va_iald hx hb hK hP 1 0 rfl rfl hi_7 dX3_exchange_44 ?_
          refine lv_topi (fun a_8 e_a_8 => ?_)
          have h := nm_at e_a_8 h
          obtain ⟨hi_9, h⟩ := ix_at h
          refine va_iast hx hb hK hP hD hS 1 0 rfl rfl hi_9 dX3_exchange_45 (fun H locs hP hD hS => ?_)
          have hP : va_P G vwCl [(q_t, .inr (1, [.int t.1, .int t.2.1, z_t_rooms, .int t.2.2.2.1, .int t.2.2.2.2.1, .ref q_t_ds, .int t.2.2.2.2.2.2])), (q_t_ds, .inl (ca 0, 30, .inl (upd t.2.2.2.2.2.1 x1.toNatClampNeg a_8)))] H := hP
          have hD : va_D A [(q_t, .inr (1, [.int t.1, .int t.2.1, z_t_rooms, .int t.2.2.2.1, .int t.2.2.2.2.1, .ref q_t_ds, .int t.2.2.2.2.2.2])), (q_t_ds, .inl (ca 0, 30, .inl (upd t.2.2.2.2.2.1 x1.toNatClampNeg a_8)))] := hD
          refine lv_aload_n hx hb dX3_exchange_46 rfl (lv_at hl 1 rfl) ?_
          refine va_get (v := .ref q_t_ds) hx hb htU iU_X3 hown hK hP 0 rfl rfl 5 (by decide) (htU _ fl_X3_28) (fun _ h9 => h9) rfl dX3_exchange_47 ?_
          refine lv_iload_n hx hb dX3_exchange_50 rfl (lv_at hl 3 rfl) ?_
          refine lv_iload_n hx hb dX3_exchange_51 rfl (lv_at hl 0 rfl) ?_
          obtain ⟨hi_10, h⟩ := ix_at h
          refine va_iast hx hb hK hP hD hS 1 0 rfl rfl hi_10 dX3_exchange_52 (fun H locs hP hD hS => ?_)
          have hP : va_P G vwCl [(q_t, .inr (1, [.int t.1, .int t.2.1, z_t_rooms, .int t.2.2.2.1, .int t.2.2.2.2.1, .ref q_t_ds, .int t.2.2.2.2.2.2])), (q_t_ds, .inl (ca 0, 30, .inl (upd (upd t.2.2.2.2.2.1 x1.toNatClampNeg a_8) x2.toNatClampNeg x3_6)))] H := hP
          have hD : va_D A [(q_t, .inr (1, [.int t.1, .int t.2.1, z_t_rooms, .int t.2.2.2.1, .int t.2.2.2.2.1, .ref q_t_ds, .int t.2.2.2.2.2.2])), (q_t_ds, .inl (ca 0, 30, .inl (upd (upd t.2.2.2.2.2.1 x1.toNatClampNeg a_8) x2.toNatClampNeg x3_6)))] := hD
          refine lv_aload_n hx hb dX3_exchange_53 rfl (lv_at hl 1 rfl) ?_
          refine lv_dup hx hb dX3_exchange_54 rfl ?_
          refine va_get (v := .int t.2.2.2.2.2.2) hx hb htU iU_X3 hown hK hP 0 rfl rfl 6 (by decide) (htU _ fl_X3_31) (fun _ h9 => h9) rfl dX3_exchange_55 ?_
          refine lv_iconst (v := 1) hx hb dX3_exchange_58 (by decide) ?_
          refine lv_iadd hx hb dX3_exchange_59 ?_
          refine lv_topi (fun f_11 e_f_11 => ?_)
          have h := nm_at e_f_11 h
          refine va_put (v := .int f_11) (ty := .int) hx hb htU iU_X3 tyX3 tyX3_ok nmX3 hown hK hP hD hS 0 rfl rfl 6 (by decide) (htU _ fl_X3_31) (fun _ h9 => h9) rfl (by decide +kernel) rfl rfl (Nat.le_of_ble_eq_true rfl) dX3_exchange_60 (fun H locs hP hD hS => ?_)
          have hP : va_P G vwCl [(q_t, .inr (1, [.int t.1, .int t.2.1, z_t_rooms, .int t.2.2.2.1, .int t.2.2.2.2.1, .ref q_t_ds, .int f_11])), (q_t_ds, .inl (ca 0, 30, .inl (upd (upd t.2.2.2.2.2.1 x1.toNatClampNeg a_8) x2.toNatClampNeg x3_6)))] H := hP
          have hD : va_D A [(q_t, .inr (1, [.int t.1, .int t.2.1, z_t_rooms, .int t.2.2.2.1, .int t.2.2.2.2.1, .ref q_t_ds, .int f_11])), (q_t_ds, .inl (ca 0, 30, .inl (upd (upd t.2.2.2.2.2.1 x1.toNatClampNeg a_8) x2.toNatClampNeg x3_6)))] := hD
          exact sw_rv hx hb hr hlocks hS (t.1, t.2.1, t.2.2.1, t.2.2.2.1, t.2.2.2.2.1, (upd (upd t.2.2.2.2.2.1 x1.toNatClampNeg a_8) x2.toNatClampNeg x3_6), f_11) (pr1 h) hP hD dX3_exchange_63
        · have h := if_f c_4 h
          exact sw_rv hx hb hr hlocks hS t (pr1 h) hP hD dX3_exchange_26
theorem mv_X3_moveToFront : sw_MV yX3_moveToFront RX3 cX3_moveToFront 3 (Option.none : Option Jvm.ClassFile.FieldType) 1 := ⟨im_X3_moveToFront, se_X3_moveToFront, ini_X3, co_X3_moveToFront, by decide +kernel⟩
def B_X3_moveToFront_12 (x1 : Int32) (k_12 : Int32 → PlanT → Option (PlanT)) (x2 : Int32) (t : PlanT) : Option (PlanT) :=
 (if x2 ≤ 0 then some t else (F_X3_exchange x2 (x2 - 1) t).bind (fun w_3 => nm (x2 + (-1)) (fun x2_5 => k_12 x2_5 (w_3.1, w_3.2.1, t.2.2.1, w_3.2.2.2.1, w_3.2.2.2.2.1, w_3.2.2.2.2.2.1, w_3.2.2.2.2.2.2))))
def F_X3_moveToFront (x1 : Int32) (t : PlanT) : Option (PlanT) :=
 nm ((if (30 - 1) < x1 then (30 - 1) else x1)) (fun x2_1 => fx (fun _ _ => none) (B_X3_moveToFront_12 x1) FUEL x2_1 t)
abbrev RM_X3_moveToFront : Room := ({ frames := 1, cells := 0, slots := 0, locals := 23 } : Room)
set_option maxHeartbeats 4000000 in
set_option maxRecDepth 100000 in
theorem c_X3_moveToFront (l : Launch) (G : va_G) (ca Z : Nat → Nat) (q_t : Nat) (q_t_ds : Nat) (z_t_rooms : Value) (sz : Nat) (x1 : Int32) (t : PlanT) (res : PlanT) (hF : F_X3_moveToFront x1 t = some res) : Met l yX3_moveToFront (.code yX3_moveToFront cX3_moveToFront 3 (Option.none : Option Jvm.ClassFile.FieldType) :: sw_U) RM_X3_moveToFront (va_Pc [.ref q_t, .int x1] (sw_Pre G ca Z [(q_t, .inr (1, [.int t.1, .int t.2.1, z_t_rooms, .int t.2.2.2.1, .int t.2.2.2.2.1, .ref q_t_ds, .int t.2.2.2.2.2.2])), (q_t_ds, .inl (ca 0, 30, .inl t.2.2.2.2.2.1))] sz)) ((fun A => va_Qv (fun (u : PlanT) => res = u) (sw_Post G A (fun (u : PlanT) => [(q_t, .inr (1, [.int u.1, .int u.2.1, z_t_rooms, .int u.2.2.2.1, .int u.2.2.2.2.1, .ref q_t_ds, .int u.2.2.2.2.2.2])), (q_t_ds, .inl (ca 0, 30, .inl u.2.2.2.2.2.1))])) A) (va_A [(q_t, .inr (1, [.int t.1, .int t.2.1, z_t_rooms, .int t.2.2.2.1, .int t.2.2.2.2.1, .ref q_t_ds, .int t.2.2.2.2.2.2])), (q_t_ds, .inl (ca 0, 30, .inl t.2.2.2.2.2.1))] sz)) 0 0 (va_A [(q_t, .inr (1, [.int t.1, .int t.2.1, z_t_rooms, .int t.2.2.2.1, .int t.2.2.2.2.1, .ref q_t_ds, .int t.2.2.2.2.2.2])), (q_t_ds, .inl (ca 0, 30, .inl t.2.2.2.2.2.1))] sz) := by
  refine sw_ofW (Qc := fun A => va_Qv (fun (u : PlanT) => res = u) (sw_Post G A (fun (u : PlanT) => [(q_t, .inr (1, [.int u.1, .int u.2.1, z_t_rooms, .int u.2.2.2.1, .int u.2.2.2.2.1, .ref q_t_ds, .int u.2.2.2.2.2.2])), (q_t_ds, .inl (ca 0, 30, .inl u.2.2.2.2.2.1))])) A) (by decide) [(0, .ref q_t), (1, .int x1)] rfl (Nat.le_of_ble_eq_true rfl) ?_
  intro p e s m args below meth c ls A hx hb hr hml hown htU hlocks hnm hP hK hD hX hY hS hA hl
  have hown : s.vm.findClass RX3 = some m.cls := hown
  have Cx : sw_Cx p s m args c cX3_moveToFront 3 RX3 G ca Z A := ⟨⟨hx, hb, hml, hown, htU⟩, hK, hX, hY, hA⟩
  have h := hF
  unfold F_X3_moveToFront at h
  have hL_12 : ∀ (n_12 : Nat) (x2 : Int32) (t : PlanT) (ls : Array Slot) (H : Heap) (locs : List Loc), lv_has ls 3 [(0, .ref q_t), (2, .int x2)] → va_P G vwCl [(q_t, .inr (1, [.int t.1, .int t.2.1, z_t_rooms, .int t.2.2.2.1, .int t.2.2.2.2.1, .ref q_t_ds, .int t.2.2.2.2.2.2])), (q_t_ds, .inl (ca 0, 30, .inl t.2.2.2.2.2.1))] H → va_D A [(q_t, .inr (1, [.int t.1, .int t.2.1, z_t_rooms, .int t.2.2.2.1, .int t.2.2.2.2.1, .ref q_t_ds, .int t.2.2.2.2.2.2])), (q_t_ds, .inl (ca 0, 30, .inl t.2.2.2.2.2.1))] → va_S A s.heap H locs → fx (fun _ _ => none) (B_X3_moveToFront_12 x1) n_12 x2 t = some res → W p l e RM_X3_moveToFront s m args below meth c H locs 0 0 (MQ below ((fun A => va_Qv (fun (u : PlanT) => res = u) (sw_Post G A (fun (u : PlanT) => [(q_t, .inr (1, [.int u.1, .int u.2.1, z_t_rooms, .int u.2.2.2.1, .int u.2.2.2.2.1, .ref q_t_ds, .int u.2.2.2.2.2.2])), (q_t_ds, .inl (ca 0, 30, .inl u.2.2.2.2.2.1))])) A) A) args s 0 0 A) (F0 m 12 ls []) := by
    intro n_12
    induction n_12 with
    | zero => intro x2 t ls H locs hl hP hD hS h; exact no_at h
    | succ n_12 ih_12 =>
      intro x2 t ls H locs hl hP hD hS h
      rw [fx_s] at h
      unfold B_X3_moveToFront_12 at h
      refine lv_iload_n hx hb dX3_moveToFront_12 rfl (lv_at hl 1 rfl) ?_
      refine lv_if_le (tgt := 30) hx hb dX3_moveToFront_13 (by decide) (fun c_2 => ?_) (fun c_2 => ?_)
      · have h := if_t c_2 h
        exact sw_rv hx hb hr hlocks hS t (pr1 h) hP hD dX3_moveToFront_30
      · have h := if_f c_2 h
        refine lv_aload_n hx hb dX3_moveToFront_16 rfl (lv_at hl 0 rfl) ?_
        refine lv_iload_n hx hb dX3_moveToFront_17 rfl (lv_at hl 1 rfl) ?_
        refine lv_iload_n hx hb dX3_moveToFront_18 rfl (lv_at hl 1 rfl) ?_
        refine lv_iconst (v := 1) hx hb dX3_moveToFront_19 (by decide) ?_
        refine lv_isub hx hb dX3_moveToFront_20 ?_
        obtain ⟨w_3, hg_4, h⟩ := bd_at h
        refine sw_cv (sw_runV (As := [.int x2, .int (x2 - 1)]) (rest := []) Cx hP hD hS mv_X3_exchange ml_X3_54 (c_X3_exchange l G ca Z q_t q_t_ds (z_t_rooms) H.size x2 (x2 - 1) t w_3 hg_4) 1 rfl rfl rfl [0, 1] rfl rfl rfl rfl ⟨(Nat.le_of_ble_eq_true rfl), (Nat.le_of_ble_eq_true rfl)⟩ hl.1 rfl rfl (Nat.le_of_ble_eq_true rfl) dX3_moveToFront_21 ⟨(Nat.le_of_ble_eq_true rfl), (Nat.le_of_ble_eq_true rfl)⟩) hP hD hS hA [0, 1] [] [0, 1] rfl rfl rfl (by decide) (fun _ => rfl) rfl (fun u H locs hw hP hD hS => ?_)
        subst hw
        have hP : va_P G vwCl [(q_t, .inr (1, [.int w_3.1, .int w_3.2.1, z_t_rooms, .int w_3.2.2.2.1, .int w_3.2.2.2.2.1, .ref q_t_ds, .int w_3.2.2.2.2.2.2])), (q_t_ds, .inl (ca 0, 30, .inl w_3.2.2.2.2.2.1))] H := hP
        have hD : va_D A [(q_t, .inr (1, [.int w_3.1, .int w_3.2.1, z_t_rooms, .int w_3.2.2.2.1, .int w_3.2.2.2.2.1, .ref q_t_ds, .int w_3.2.2.2.2.2.2])), (q_t_ds, .inl (ca 0, 30, .inl w_3.2.2.2.2.2.1))] := hD
        obtain ⟨x2_5, e_x2_5⟩ : ∃ y : Int32, y = x2 + (-1) := ⟨_, rfl⟩
        refine lv_iinc (v := x2_5) (lv' := [(2, .int x2_5), (0, .ref q_t)]) hx hb dX3_moveToFront_24 hl (k := 1) rfl (by rw [e_x2_5]; rfl) (by decide) rfl (fun ls hl => ?_)
        have h := nm_at e_x2_5 h
        refine lv_goto (tgt := 12) hx hb dX3_moveToFront_27 (by decide) ?_
        exact ih_12 x2_5 (w_3.1, w_3.2.1, t.2.2.1, w_3.2.2.2.1, w_3.2.2.2.2.1, w_3.2.2.2.2.2.1, w_3.2.2.2.2.2.2) ls H _ (lv_sub hl [1, 0] rfl) hP hD hS h
  refine lv_iload_n hx hb dX3_moveToFront_0 rfl (lv_at hl 1 rfl) ?_
  refine lv_aload_n hx hb dX3_moveToFront_1 rfl (lv_at hl 0 rfl) ?_
  refine va_get (v := .ref q_t_ds) hx hb htU iU_X3 hown hK hP 0 rfl rfl 5 (by decide) (htU _ fl_X3_28) (fun _ h9 => h9) rfl dX3_moveToFront_2 ?_
  refine va_alen (v := 30) hx hb hK hP 1 0 rfl rfl (by decide : Int32.ofNat 30 = 30) dX3_moveToFront_5 ?_
  refine lv_iconst (v := 1) hx hb dX3_moveToFront_6 (by decide) ?_
  refine lv_isub hx hb dX3_moveToFront_7 ?_
  refine va_mmin hx hb (hml.trans hl.1.symm) hown (htU _ mm_X3_48) (htU _ mm_st_min) (htU _ mm_ini) (htU _ mm_co_min) (Nat.le_of_ble_eq_true rfl) (Nat.le_of_ble_eq_true rfl) (Nat.le_of_ble_eq_true rfl) (Nat.le_of_ble_eq_true rfl) dX3_moveToFront_8 ?_
  refine lv_topi (fun x2_1 e_x2_1 => ?_)
  have h := nm_at e_x2_1 h
  refine lv_istore_n (lv' := [(2, .int x2_1), (0, .ref q_t), (1, .int x1)]) hx hb dX3_moveToFront_11 rfl hl (by decide) rfl (fun ls hl => ?_)
  exact hL_12 FUEL x2_1 t ls s.heap _ (lv_sub hl [1, 0] rfl) hP hD hS h
theorem mv_X3_countHits : sw_MV yX3_countHits RX3 cX3_countHits 7 (Option.some Jvm.ClassFile.FieldType.int) 3 := ⟨im_X3_countHits, se_X3_countHits, ini_X3, co_X3_countHits, by decide +kernel⟩
def B_X3_countHits_10 (x1 : Int32) (x2 : Int32) (x3 : Int32) (t : PlanT) (k_10 : Int32 → Int32 → Option (Int32)) (x4 : Int32) (x5 : Int32) : Option (Int32) :=
 (if x3 ≤ x5 then some x4 else (if t.2.2.2.2.1 ≤ x5 then some x4 else (if 30 ≤ x5 then some x4 else ix x5 30 (nm ((t.2.2.2.2.2.1 x5.toNatClampNeg)) (fun x6_6 => (if x6_6 < 2 then nm (x5 + 1) (fun x5_8 => k_10 x4 x5_8) else (if x1 < (x6_6 * x6_6) then nm (x5 + 1) (fun x5_10 => k_10 x4 x5_10) else nz x6_6 ((if (x1 - x1 / x6_6 * x6_6) = 0 then nm (x4 + 1) (fun x4_14 => nm (x5 + 1) (fun x5_15 => k_10 x4_14 x5_15)) else nm (x5 + 1) (fun x5_13 => k_10 x4 x5_13))))))))))
def F_X3_countHits (x1 : Int32) (x2 : Int32) (x3 : Int32) (t : PlanT) : Option (Int32) :=
 nm ((if x2 < 0 then 0 else x2)) (fun x5_1 => fx (fun _ _ => none) (B_X3_countHits_10 x1 x2 x3 t) FUEL 0 x5_1)
abbrev RM_X3_countHits : Room := ({ frames := 1, cells := 0, slots := 0, locals := 13 } : Room)
set_option maxHeartbeats 4000000 in
set_option maxRecDepth 100000 in
theorem c_X3_countHits (l : Launch) (G : va_G) (ca Z : Nat → Nat) (q_t : Nat) (q_t_ds : Nat) (z_t_rooms : Value) (sz : Nat) (x1 : Int32) (x2 : Int32) (x3 : Int32) (t : PlanT) (res : Int32) (hF : F_X3_countHits x1 x2 x3 t = some res) : Met l yX3_countHits (.code yX3_countHits cX3_countHits 7 (Option.some Jvm.ClassFile.FieldType.int) :: sw_U) RM_X3_countHits (va_Pc [.ref q_t, .int x1, .int x2, .int x3] (sw_Pre G ca Z [(q_t, .inr (1, [.int t.1, .int t.2.1, z_t_rooms, .int t.2.2.2.1, .int t.2.2.2.2.1, .ref q_t_ds, .int t.2.2.2.2.2.2])), (q_t_ds, .inl (ca 0, 30, .inl t.2.2.2.2.2.1))] sz)) ((fun A => va_Qi (fun r (u : Unit) => res = r) (sw_Post G A (fun (u : Unit) => [(q_t, .inr (1, [.int t.1, .int t.2.1, z_t_rooms, .int t.2.2.2.1, .int t.2.2.2.2.1, .ref q_t_ds, .int t.2.2.2.2.2.2])), (q_t_ds, .inl (ca 0, 30, .inl t.2.2.2.2.2.1))])) A) (va_A [(q_t, .inr (1, [.int t.1, .int t.2.1, z_t_rooms, .int t.2.2.2.1, .int t.2.2.2.2.1, .ref q_t_ds, .int t.2.2.2.2.2.2])), (q_t_ds, .inl (ca 0, 30, .inl t.2.2.2.2.2.1))] sz)) 0 0 (va_A [(q_t, .inr (1, [.int t.1, .int t.2.1, z_t_rooms, .int t.2.2.2.1, .int t.2.2.2.2.1, .ref q_t_ds, .int t.2.2.2.2.2.2])), (q_t_ds, .inl (ca 0, 30, .inl t.2.2.2.2.2.1))] sz) := by
  refine sw_ofW (Qc := fun A => va_Qi (fun r (u : Unit) => res = r) (sw_Post G A (fun (u : Unit) => [(q_t, .inr (1, [.int t.1, .int t.2.1, z_t_rooms, .int t.2.2.2.1, .int t.2.2.2.2.1, .ref q_t_ds, .int t.2.2.2.2.2.2])), (q_t_ds, .inl (ca 0, 30, .inl t.2.2.2.2.2.1))])) A) (by decide) [(0, .ref q_t), (1, .int x1), (2, .int x2), (3, .int x3)] rfl (Nat.le_of_ble_eq_true rfl) ?_
  intro p e s m args below meth c ls A hx hb hr hml hown htU hlocks hnm hP hK hD hX hY hS hA hl
  have hown : s.vm.findClass RX3 = some m.cls := hown
  have Cx : sw_Cx p s m args c cX3_countHits 7 RX3 G ca Z A := ⟨⟨hx, hb, hml, hown, htU⟩, hK, hX, hY, hA⟩
  have h := hF
  unfold F_X3_countHits at h
  have hL_10 : ∀ (n_10 : Nat) (x4 : Int32) (x5 : Int32) (ls : Array Slot) (H : Heap) (locs : List Loc), lv_has ls 7 [(0, .ref q_t), (1, .int x1), (3, .int x3), (4, .int x4), (5, .int x5)] → va_P G vwCl [(q_t, .inr (1, [.int t.1, .int t.2.1, z_t_rooms, .int t.2.2.2.1, .int t.2.2.2.2.1, .ref q_t_ds, .int t.2.2.2.2.2.2])), (q_t_ds, .inl (ca 0, 30, .inl t.2.2.2.2.2.1))] H → va_D A [(q_t, .inr (1, [.int t.1, .int t.2.1, z_t_rooms, .int t.2.2.2.1, .int t.2.2.2.2.1, .ref q_t_ds, .int t.2.2.2.2.2.2])), (q_t_ds, .inl (ca 0, 30, .inl t.2.2.2.2.2.1))] → va_S A s.heap H locs → fx (fun _ _ => none) (B_X3_countHits_10 x1 x2 x3 t) n_10 x4 x5 = some res → W p l e RM_X3_countHits s m args below meth c H locs 0 0 (MQ below ((fun A => va_Qi (fun r (u : Unit) => res = r) (sw_Post G A (fun (u : Unit) => [(q_t, .inr (1, [.int t.1, .int t.2.1, z_t_rooms, .int t.2.2.2.1, .int t.2.2.2.2.1, .ref q_t_ds, .int t.2.2.2.2.2.2])), (q_t_ds, .inl (ca 0, 30, .inl t.2.2.2.2.2.1))])) A) A) args s 0 0 A) (F0 m 10 ls []) := by
    intro n_10
    induction n_10 with
    | zero => intro x4 x5 ls H locs hl hP hD hS h; exact no_at h
    | succ n_10 ih_10 =>
      intro x4 x5 ls H locs hl hP hD hS h
      rw [fx_s] at h
      unfold B_X3_countHits_10 at h
      refine lv_iload hx hb dX3_countHits_10 (lv_at hl 4 rfl) ?_
      refine lv_iload_n hx hb dX3_countHits_12 rfl (lv_at hl 2 rfl) ?_
      refine lv_icmp_ge (tgt := 75) hx hb dX3_countHits_13 (by decide) (fun c_2 => ?_) (fun c_2 => ?_)
      · have h := if_t c_2 h
        refine lv_iload hx hb dX3_countHits_75 (lv_at hl 3 rfl) ?_
        exact sw_ri hx hb hr hlocks hS () (pr1 h) hP hD dX3_countHits_77
      · have h := if_f c_2 h
        refine lv_iload hx hb dX3_countHits_16 (lv_at hl 4 rfl) ?_
        refine lv_aload_n hx hb dX3_countHits_18 rfl (lv_at hl 0 rfl) ?_
        refine va_get (v := .int t.2.2.2.2.1) hx hb htU iU_X3 hown hK hP 0 rfl rfl 4 (by decide) (htU _ fl_X3_25) (fun _ h9 => h9) rfl dX3_countHits_19 ?_
        refine lv_icmp_ge (tgt := 75) hx hb dX3_countHits_22 (by decide) (fun c_3 => ?_) (fun c_3 => ?_)
        · have h := if_t c_3 h
          refine lv_iload hx hb dX3_countHits_75 (lv_at hl 3 rfl) ?_
          exact sw_ri hx hb hr hlocks hS () (pr1 h) hP hD dX3_countHits_77
        · have h := if_f c_3 h
          refine lv_iload hx hb dX3_countHits_25 (lv_at hl 4 rfl) ?_
          refine lv_aload_n hx hb dX3_countHits_27 rfl (lv_at hl 0 rfl) ?_
          refine va_get (v := .ref q_t_ds) hx hb htU iU_X3 hown hK hP 0 rfl rfl 5 (by decide) (htU _ fl_X3_28) (fun _ h9 => h9) rfl dX3_countHits_28 ?_
          refine va_alen (v := 30) hx hb hK hP 1 0 rfl rfl (by decide : Int32.ofNat 30 = 30) dX3_countHits_31 ?_
          refine lv_icmp_ge (tgt := 75) hx hb dX3_countHits_32 (by decide) (fun c_4 => ?_) (fun c_4 => ?_)
          · have h := if_t c_4 h
            refine lv_iload hx hb dX3_countHits_75 (lv_at hl 3 rfl) ?_
            exact sw_ri hx hb hr hlocks hS () (pr1 h) hP hD dX3_countHits_77
          · have h := if_f c_4 h
            refine lv_aload_n hx hb dX3_countHits_35 rfl (lv_at hl 0 rfl) ?_
            refine va_get (v := .ref q_t_ds) hx hb htU iU_X3 hown hK hP 0 rfl rfl 5 (by decide) (htU _ fl_X3_28) (fun _ h9 => h9) rfl dX3_countHits_36 ?_
            refine lv_iload hx hb dX3_countHits_39 (lv_at hl 4 rfl) ?_
            obtain ⟨hi_5, h⟩ := ix_at h
            refine va_iald hx hb hK hP 1 0 rfl rfl hi_5 dX3_countHits_41 ?_
            refine lv_topi (fun x6_6 e_x6_6 => ?_)
            have h := nm_at e_x6_6 h
            refine lv_istore (lv' := [(6, .int x6_6), (0, .ref q_t), (1, .int x1), (3, .int x3), (4, .int x4), (5, .int x5)]) hx hb dX3_countHits_42 hl (by decide) rfl (fun ls hl => ?_)
            refine lv_iload hx hb dX3_countHits_44 (lv_at hl 0 rfl) ?_
            refine lv_iconst (v := 2) hx hb dX3_countHits_46 (by decide) ?_
            refine lv_icmp_lt (tgt := 69) hx hb dX3_countHits_47 (by decide) (fun c_7 => ?_) (fun c_7 => ?_)
            · have h := if_t c_7 h
              obtain ⟨x5_8, e_x5_8⟩ : ∃ y : Int32, y = x5 + 1 := ⟨_, rfl⟩
              refine lv_iinc (v := x5_8) (lv' := [(5, .int x5_8), (6, .int x6_6), (0, .ref q_t), (1, .int x1), (3, .int x3), (4, .int x4)]) hx hb dX3_countHits_69 hl (k := 5) rfl (by rw [e_x5_8]; rfl) (by decide) rfl (fun ls hl => ?_)
              have h := nm_at e_x5_8 h
              refine lv_goto (tgt := 10) hx hb dX3_countHits_72 (by decide) ?_
              exact ih_10 x4 x5_8 ls H _ (lv_sub hl [2, 3, 4, 5, 0] rfl) hP hD hS h
            · have h := if_f c_7 h
              refine lv_iload_n hx hb dX3_countHits_50 rfl (lv_at hl 2 rfl) ?_
              refine lv_iload hx hb dX3_countHits_51 (lv_at hl 0 rfl) ?_
              refine lv_iload hx hb dX3_countHits_53 (lv_at hl 0 rfl) ?_
              refine lv_imul hx hb dX3_countHits_55 ?_
              refine lv_icmp_lt (tgt := 69) hx hb dX3_countHits_56 (by decide) (fun c_9 => ?_) (fun c_9 => ?_)
              · have h := if_t c_9 h
                obtain ⟨x5_10, e_x5_10⟩ : ∃ y : Int32, y = x5 + 1 := ⟨_, rfl⟩
                refine lv_iinc (v := x5_10) (lv' := [(5, .int x5_10), (6, .int x6_6), (0, .ref q_t), (1, .int x1), (3, .int x3), (4, .int x4)]) hx hb dX3_countHits_69 hl (k := 5) rfl (by rw [e_x5_10]; rfl) (by decide) rfl (fun ls hl => ?_)
                have h := nm_at e_x5_10 h
                refine lv_goto (tgt := 10) hx hb dX3_countHits_72 (by decide) ?_
                exact ih_10 x4 x5_10 ls H _ (lv_sub hl [2, 3, 4, 5, 0] rfl) hP hD hS h
              · have h := if_f c_9 h
                refine lv_iload_n hx hb dX3_countHits_59 rfl (lv_at hl 2 rfl) ?_
                refine lv_iload hx hb dX3_countHits_60 (lv_at hl 0 rfl) ?_
                obtain ⟨hz_11, h⟩ := nz_at h
                refine lv_irem hx hb dX3_countHits_62 hz_11 ?_
                refine lv_if_ne (tgt := 69) hx hb dX3_countHits_63 (by decide) (fun c_12 => ?_) (fun c_12 => ?_)
                · have h := if_f c_12 h
                  obtain ⟨x5_13, e_x5_13⟩ : ∃ y : Int32, y = x5 + 1 := ⟨_, rfl⟩
                  refine lv_iinc (v := x5_13) (lv' := [(5, .int x5_13), (6, .int x6_6), (0, .ref q_t), (1, .int x1), (3, .int x3), (4, .int x4)]) hx hb dX3_countHits_69 hl (k := 5) rfl (by rw [e_x5_13]; rfl) (by decide) rfl (fun ls hl => ?_)
                  have h := nm_at e_x5_13 h
                  refine lv_goto (tgt := 10) hx hb dX3_countHits_72 (by decide) ?_
                  exact ih_10 x4 x5_13 ls H _ (lv_sub hl [2, 3, 4, 5, 0] rfl) hP hD hS h
                · have h := if_t c_12 h
                  obtain ⟨x4_14, e_x4_14⟩ : ∃ y : Int32, y = x4 + 1 := ⟨_, rfl⟩
                  refine lv_iinc (v := x4_14) (lv' := [(4, .int x4_14), (6, .int x6_6), (0, .ref q_t), (1, .int x1), (3, .int x3), (5, .int x5)]) hx hb dX3_countHits_66 hl (k := 4) rfl (by rw [e_x4_14]; rfl) (by decide) rfl (fun ls hl => ?_)
                  have h := nm_at e_x4_14 h
                  obtain ⟨x5_15, e_x5_15⟩ : ∃ y : Int32, y = x5 + 1 := ⟨_, rfl⟩
                  refine lv_iinc (v := x5_15) (lv' := [(5, .int x5_15), (4, .int x4_14), (6, .int x6_6), (0, .ref q_t), (1, .int x1), (3, .int x3)]) hx hb dX3_countHits_69 hl (k := 5) rfl (by rw [e_x5_15]; rfl) (by decide) rfl (fun ls hl => ?_)
                  have h := nm_at e_x5_15 h
                  refine lv_goto (tgt := 10) hx hb dX3_countHits_72 (by decide) ?_
                  exact ih_10 x4_14 x5_15 ls H _ (lv_sub hl [3, 4, 5, 1, 0] rfl) hP hD hS h
  refine lv_iconst (v := 0) hx hb dX3_countHits_0 (by decide) ?_
  refine lv_istore (lv' := [(4, .int 0), (0, .ref q_t), (1, .int x1), (2, .int x2), (3, .int x3)]) hx hb dX3_countHits_1 hl (by decide) rfl (fun ls hl => ?_)
  refine lv_iload_n hx hb dX3_countHits_3 rfl (lv_at hl 3 rfl) ?_
  refine lv_iconst (v := 0) hx hb dX3_countHits_4 (by decide) ?_
  refine va_mmax hx hb (hml.trans hl.1.symm) hown (htU _ mm_X3_58) (htU _ mm_st_max) (htU _ mm_ini) (htU _ mm_co_max) (Nat.le_of_ble_eq_true rfl) (Nat.le_of_ble_eq_true rfl) (Nat.le_of_ble_eq_true rfl) (Nat.le_of_ble_eq_true rfl) dX3_countHits_5 ?_
  refine lv_topi (fun x5_1 e_x5_1 => ?_)
  have h := nm_at e_x5_1 h
  refine lv_istore (lv' := [(5, .int x5_1), (4, .int 0), (0, .ref q_t), (1, .int x1), (2, .int x2), (3, .int x3)]) hx hb dX3_countHits_8 hl (by decide) rfl (fun ls hl => ?_)
  exact hL_10 FUEL 0 x5_1 ls s.heap _ (lv_sub hl [2, 3, 5, 1, 0] rfl) hP hD hS h
theorem mv_X3_firstHit : sw_MV yX3_firstHit RX3 cX3_firstHit 4 (Option.some Jvm.ClassFile.FieldType.int) 1 := ⟨im_X3_firstHit, se_X3_firstHit, ini_X3, co_X3_firstHit, by decide +kernel⟩
def B_X3_firstHit_2 (x1 : Int32) (t : PlanT) (k_2 : Int32 → Option (Int32)) (x2 : Int32) : Option (Int32) :=
 (if t.2.2.2.2.1 ≤ x2 then some (-1) else (if 30 ≤ x2 then some (-1) else ix x2 30 (nm ((t.2.2.2.2.2.1 x2.toNatClampNeg)) (fun x3_4 => (if x3_4 < 2 then nm (x2 + 1) (fun x2_6 => k_2 x2_6) else (if x1 < (x3_4 * x3_4) then nm (x2 + 1) (fun x2_8 => k_2 x2_8) else nz x3_4 ((if (x1 - x1 / x3_4 * x3_4) = 0 then some x3_4 else nm (x2 + 1) (fun x2_11 => k_2 x2_11)))))))))
def F_X3_firstHit (x1 : Int32) (t : PlanT) : Option (Int32) :=
 fx (fun _ => none) (B_X3_firstHit_2 x1 t) FUEL 0
abbrev RM_X3_firstHit : Room := ({ frames := 0, cells := 0, slots := 0, locals := 0 } : Room)
set_option maxHeartbeats 4000000 in
set_option maxRecDepth 100000 in
theorem c_X3_firstHit (l : Launch) (G : va_G) (ca Z : Nat → Nat) (q_t : Nat) (q_t_ds : Nat) (z_t_rooms : Value) (sz : Nat) (x1 : Int32) (t : PlanT) (res : Int32) (hF : F_X3_firstHit x1 t = some res) : Met l yX3_firstHit (.code yX3_firstHit cX3_firstHit 4 (Option.some Jvm.ClassFile.FieldType.int) :: sw_U) RM_X3_firstHit (va_Pc [.ref q_t, .int x1] (sw_Pre G ca Z [(q_t, .inr (1, [.int t.1, .int t.2.1, z_t_rooms, .int t.2.2.2.1, .int t.2.2.2.2.1, .ref q_t_ds, .int t.2.2.2.2.2.2])), (q_t_ds, .inl (ca 0, 30, .inl t.2.2.2.2.2.1))] sz)) ((fun A => va_Qi (fun r (u : Unit) => res = r) (sw_Post G A (fun (u : Unit) => [(q_t, .inr (1, [.int t.1, .int t.2.1, z_t_rooms, .int t.2.2.2.1, .int t.2.2.2.2.1, .ref q_t_ds, .int t.2.2.2.2.2.2])), (q_t_ds, .inl (ca 0, 30, .inl t.2.2.2.2.2.1))])) A) (va_A [(q_t, .inr (1, [.int t.1, .int t.2.1, z_t_rooms, .int t.2.2.2.1, .int t.2.2.2.2.1, .ref q_t_ds, .int t.2.2.2.2.2.2])), (q_t_ds, .inl (ca 0, 30, .inl t.2.2.2.2.2.1))] sz)) 0 0 (va_A [(q_t, .inr (1, [.int t.1, .int t.2.1, z_t_rooms, .int t.2.2.2.1, .int t.2.2.2.2.1, .ref q_t_ds, .int t.2.2.2.2.2.2])), (q_t_ds, .inl (ca 0, 30, .inl t.2.2.2.2.2.1))] sz) := by
  refine sw_ofW (Qc := fun A => va_Qi (fun r (u : Unit) => res = r) (sw_Post G A (fun (u : Unit) => [(q_t, .inr (1, [.int t.1, .int t.2.1, z_t_rooms, .int t.2.2.2.1, .int t.2.2.2.2.1, .ref q_t_ds, .int t.2.2.2.2.2.2])), (q_t_ds, .inl (ca 0, 30, .inl t.2.2.2.2.2.1))])) A) (by decide) [(0, .ref q_t), (1, .int x1)] rfl (Nat.le_of_ble_eq_true rfl) ?_
  intro p e s m args below meth c ls A hx hb hr hml hown htU hlocks hnm hP hK hD hX hY hS hA hl
  have hown : s.vm.findClass RX3 = some m.cls := hown
  have Cx : sw_Cx p s m args c cX3_firstHit 4 RX3 G ca Z A := ⟨⟨hx, hb, hml, hown, htU⟩, hK, hX, hY, hA⟩
  have h := hF
  unfold F_X3_firstHit at h
  have hL_2 : ∀ (n_2 : Nat) (x2 : Int32) (ls : Array Slot) (H : Heap) (locs : List Loc), lv_has ls 4 [(0, .ref q_t), (1, .int x1), (2, .int x2)] → va_P G vwCl [(q_t, .inr (1, [.int t.1, .int t.2.1, z_t_rooms, .int t.2.2.2.1, .int t.2.2.2.2.1, .ref q_t_ds, .int t.2.2.2.2.2.2])), (q_t_ds, .inl (ca 0, 30, .inl t.2.2.2.2.2.1))] H → va_D A [(q_t, .inr (1, [.int t.1, .int t.2.1, z_t_rooms, .int t.2.2.2.1, .int t.2.2.2.2.1, .ref q_t_ds, .int t.2.2.2.2.2.2])), (q_t_ds, .inl (ca 0, 30, .inl t.2.2.2.2.2.1))] → va_S A s.heap H locs → fx (fun _ => none) (B_X3_firstHit_2 x1 t) n_2 x2 = some res → W p l e RM_X3_firstHit s m args below meth c H locs 0 0 (MQ below ((fun A => va_Qi (fun r (u : Unit) => res = r) (sw_Post G A (fun (u : Unit) => [(q_t, .inr (1, [.int t.1, .int t.2.1, z_t_rooms, .int t.2.2.2.1, .int t.2.2.2.2.1, .ref q_t_ds, .int t.2.2.2.2.2.2])), (q_t_ds, .inl (ca 0, 30, .inl t.2.2.2.2.2.1))])) A) A) args s 0 0 A) (F0 m 2 ls []) := by
    intro n_2
    induction n_2 with
    | zero => intro x2 ls H locs hl hP hD hS h; exact no_at h
    | succ n_2 ih_2 =>
      intro x2 ls H locs hl hP hD hS h
      rw [fx_s] at h
      unfold B_X3_firstHit_2 at h
      refine lv_iload_n hx hb dX3_firstHit_2 rfl (lv_at hl 2 rfl) ?_
      refine lv_aload_n hx hb dX3_firstHit_3 rfl (lv_at hl 0 rfl) ?_
      refine va_get (v := .int t.2.2.2.2.1) hx hb htU iU_X3 hown hK hP 0 rfl rfl 4 (by decide) (htU _ fl_X3_25) (fun _ h9 => h9) rfl dX3_firstHit_4 ?_
      refine lv_icmp_ge (tgt := 52) hx hb dX3_firstHit_7 (by decide) (fun c_1 => ?_) (fun c_1 => ?_)
      · have h := if_t c_1 h
        refine lv_iconst (v := (-1)) hx hb dX3_firstHit_52 (by decide) ?_
        exact sw_ri hx hb hr hlocks hS () (pr1 h) hP hD dX3_firstHit_53
      · have h := if_f c_1 h
        refine lv_iload_n hx hb dX3_firstHit_10 rfl (lv_at hl 2 rfl) ?_
        refine lv_aload_n hx hb dX3_firstHit_11 rfl (lv_at hl 0 rfl) ?_
        refine va_get (v := .ref q_t_ds) hx hb htU iU_X3 hown hK hP 0 rfl rfl 5 (by decide) (htU _ fl_X3_28) (fun _ h9 => h9) rfl dX3_firstHit_12 ?_
        refine va_alen (v := 30) hx hb hK hP 1 0 rfl rfl (by decide : Int32.ofNat 30 = 30) dX3_firstHit_15 ?_
        refine lv_icmp_ge (tgt := 52) hx hb dX3_firstHit_16 (by decide) (fun c_2 => ?_) (fun c_2 => ?_)
        · have h := if_t c_2 h
          refine lv_iconst (v := (-1)) hx hb dX3_firstHit_52 (by decide) ?_
          exact sw_ri hx hb hr hlocks hS () (pr1 h) hP hD dX3_firstHit_53
        · have h := if_f c_2 h
          refine lv_aload_n hx hb dX3_firstHit_19 rfl (lv_at hl 0 rfl) ?_
          refine va_get (v := .ref q_t_ds) hx hb htU iU_X3 hown hK hP 0 rfl rfl 5 (by decide) (htU _ fl_X3_28) (fun _ h9 => h9) rfl dX3_firstHit_20 ?_
          refine lv_iload_n hx hb dX3_firstHit_23 rfl (lv_at hl 2 rfl) ?_
          obtain ⟨hi_3, h⟩ := ix_at h
          refine va_iald hx hb hK hP 1 0 rfl rfl hi_3 dX3_firstHit_24 ?_
          refine lv_topi (fun x3_4 e_x3_4 => ?_)
          have h := nm_at e_x3_4 h
          refine lv_istore_n (lv' := [(3, .int x3_4), (0, .ref q_t), (1, .int x1), (2, .int x2)]) hx hb dX3_firstHit_25 rfl hl (by decide) rfl (fun ls hl => ?_)
          refine lv_iload_n hx hb dX3_firstHit_26 rfl (lv_at hl 0 rfl) ?_
          refine lv_iconst (v := 2) hx hb dX3_firstHit_27 (by decide) ?_
          refine lv_icmp_lt (tgt := 46) hx hb dX3_firstHit_28 (by decide) (fun c_5 => ?_) (fun c_5 => ?_)
          · have h := if_t c_5 h
            obtain ⟨x2_6, e_x2_6⟩ : ∃ y : Int32, y = x2 + 1 := ⟨_, rfl⟩
            refine lv_iinc (v := x2_6) (lv' := [(2, .int x2_6), (3, .int x3_4), (0, .ref q_t), (1, .int x1)]) hx hb dX3_firstHit_46 hl (k := 3) rfl (by rw [e_x2_6]; rfl) (by decide) rfl (fun ls hl => ?_)
            have h := nm_at e_x2_6 h
            refine lv_goto (tgt := 2) hx hb dX3_firstHit_49 (by decide) ?_
            exact ih_2 x2_6 ls H _ (lv_sub hl [2, 3, 0] rfl) hP hD hS h
          · have h := if_f c_5 h
            refine lv_iload_n hx hb dX3_firstHit_31 rfl (lv_at hl 2 rfl) ?_
            refine lv_iload_n hx hb dX3_firstHit_32 rfl (lv_at hl 0 rfl) ?_
            refine lv_iload_n hx hb dX3_firstHit_33 rfl (lv_at hl 0 rfl) ?_
            refine lv_imul hx hb dX3_firstHit_34 ?_
            refine lv_icmp_lt (tgt := 46) hx hb dX3_firstHit_35 (by decide) (fun c_7 => ?_) (fun c_7 => ?_)
            · have h := if_t c_7 h
              obtain ⟨x2_8, e_x2_8⟩ : ∃ y : Int32, y = x2 + 1 := ⟨_, rfl⟩
              refine lv_iinc (v := x2_8) (lv' := [(2, .int x2_8), (3, .int x3_4), (0, .ref q_t), (1, .int x1)]) hx hb dX3_firstHit_46 hl (k := 3) rfl (by rw [e_x2_8]; rfl) (by decide) rfl (fun ls hl => ?_)
              have h := nm_at e_x2_8 h
              refine lv_goto (tgt := 2) hx hb dX3_firstHit_49 (by decide) ?_
              exact ih_2 x2_8 ls H _ (lv_sub hl [2, 3, 0] rfl) hP hD hS h
            · have h := if_f c_7 h
              refine lv_iload_n hx hb dX3_firstHit_38 rfl (lv_at hl 2 rfl) ?_
              refine lv_iload_n hx hb dX3_firstHit_39 rfl (lv_at hl 0 rfl) ?_
              obtain ⟨hz_9, h⟩ := nz_at h
              refine lv_irem hx hb dX3_firstHit_40 hz_9 ?_
              refine lv_if_ne (tgt := 46) hx hb dX3_firstHit_41 (by decide) (fun c_10 => ?_) (fun c_10 => ?_)
              · have h := if_f c_10 h
                obtain ⟨x2_11, e_x2_11⟩ : ∃ y : Int32, y = x2 + 1 := ⟨_, rfl⟩
                refine lv_iinc (v := x2_11) (lv' := [(2, .int x2_11), (3, .int x3_4), (0, .ref q_t), (1, .int x1)]) hx hb dX3_firstHit_46 hl (k := 3) rfl (by rw [e_x2_11]; rfl) (by decide) rfl (fun ls hl => ?_)
                have h := nm_at e_x2_11 h
                refine lv_goto (tgt := 2) hx hb dX3_firstHit_49 (by decide) ?_
                exact ih_2 x2_11 ls H _ (lv_sub hl [2, 3, 0] rfl) hP hD hS h
              · have h := if_t c_10 h
                refine lv_iload_n hx hb dX3_firstHit_44 rfl (lv_at hl 0 rfl) ?_
                exact sw_ri hx hb hr hlocks hS () (pr1 h) hP hD dX3_firstHit_45
  refine lv_iconst (v := 0) hx hb dX3_firstHit_0 (by decide) ?_
  refine lv_istore_n (lv' := [(2, .int 0), (0, .ref q_t), (1, .int x1)]) hx hb dX3_firstHit_1 rfl hl (by decide) rfl (fun ls hl => ?_)
  exact hL_2 FUEL 0 ls s.heap _ (lv_sub hl [1, 2, 0] rfl) hP hD hS h
theorem ms_X9_smallestPrimeOf : sw_MS yX9_smallestPrimeOf cX9_smallestPrimeOf 3 (Option.some Jvm.ClassFile.FieldType.int) 2 := ⟨st_X9_smallestPrimeOf, ini_X9, co_X9_smallestPrimeOf, by decide +kernel⟩
def B_X9_smallestPrimeOf_2 (x0 : Int32) (x1 : Int32) (k_2 : Int32 → Option (Int32)) (x2 : Int32) : Option (Int32) :=
 (if x1 ≤ x2 then some (-1) else (if 4 ≤ x2 then some (-1) else ix x2 4 (nz (sw_p4 x2.toNatClampNeg) ((if (x0 - x0 / (sw_p4 x2.toNatClampNeg) * (sw_p4 x2.toNatClampNeg)) = 0 then ix x2 4 (some (sw_p4 x2.toNatClampNeg)) else nm (x2 + 1) (fun x2_6 => k_2 x2_6))))))
def F_X9_smallestPrimeOf (x0 : Int32) (x1 : Int32) : Option (Int32) :=
 fx (fun _ => none) (B_X9_smallestPrimeOf_2 x0 x1) FUEL 0
abbrev RM_X9_smallestPrimeOf : Room := ({ frames := 0, cells := 0, slots := 0, locals := 0 } : Room)
set_option maxHeartbeats 4000000 in
set_option maxRecDepth 100000 in
theorem c_X9_smallestPrimeOf (l : Launch) (G : va_G) (ca Z : Nat → Nat) (sz : Nat) (x0 : Int32) (x1 : Int32) (res : Int32) (hF : F_X9_smallestPrimeOf x0 x1 = some res) : Met l yX9_smallestPrimeOf (.code yX9_smallestPrimeOf cX9_smallestPrimeOf 3 (Option.some Jvm.ClassFile.FieldType.int) :: sw_U) RM_X9_smallestPrimeOf (va_Pc [.int x0, .int x1] (sw_Pre G ca Z [] sz)) ((fun A => va_Qi (fun r (u : Unit) => res = r) (sw_Post G A (fun (u : Unit) => [])) A) (va_A [] sz)) 0 0 (va_A [] sz) := by
  refine sw_ofW (Qc := fun A => va_Qi (fun r (u : Unit) => res = r) (sw_Post G A (fun (u : Unit) => [])) A) (by decide) [(0, .int x0), (1, .int x1)] rfl (Nat.le_of_ble_eq_true rfl) ?_
  intro p e s m args below meth c ls A hx hb hr hml hown htU hlocks hnm hP hK hD hX hY hS hA hl
  have hown : s.vm.findClass RX9 = some m.cls := hown
  have Cx : sw_Cx p s m args c cX9_smallestPrimeOf 3 RX9 G ca Z A := ⟨⟨hx, hb, hml, hown, htU⟩, hK, hX, hY, hA⟩
  have h := hF
  unfold F_X9_smallestPrimeOf at h
  have hL_2 : ∀ (n_2 : Nat) (x2 : Int32) (ls : Array Slot) (H : Heap) (locs : List Loc), lv_has ls 3 [(0, .int x0), (1, .int x1), (2, .int x2)] → va_P G vwCl [] H → va_D A [] → va_S A s.heap H locs → fx (fun _ => none) (B_X9_smallestPrimeOf_2 x0 x1) n_2 x2 = some res → W p l e RM_X9_smallestPrimeOf s m args below meth c H locs 0 0 (MQ below ((fun A => va_Qi (fun r (u : Unit) => res = r) (sw_Post G A (fun (u : Unit) => [])) A) A) args s 0 0 A) (F0 m 2 ls []) := by
    intro n_2
    induction n_2 with
    | zero => intro x2 ls H locs hl hP hD hS h; exact no_at h
    | succ n_2 ih_2 =>
      intro x2 ls H locs hl hP hD hS h
      rw [fx_s] at h
      unfold B_X9_smallestPrimeOf_2 at h
      refine lv_iload_n hx hb dX9_smallestPrimeOf_2 rfl (lv_at hl 2 rfl) ?_
      refine lv_iload_n hx hb dX9_smallestPrimeOf_3 rfl (lv_at hl 1 rfl) ?_
      refine lv_icmp_ge (tgt := 37) hx hb dX9_smallestPrimeOf_4 (by decide) (fun c_1 => ?_) (fun c_1 => ?_)
      · have h := if_t c_1 h
        refine lv_iconst (v := (-1)) hx hb dX9_smallestPrimeOf_37 (by decide) ?_
        exact sw_ri hx hb hr hlocks hS () (pr1 h) hP hD dX9_smallestPrimeOf_38
      · have h := if_f c_1 h
        refine lv_iload_n hx hb dX9_smallestPrimeOf_7 rfl (lv_at hl 2 rfl) ?_
        refine va_gets hx hb hX.1.1 hS hown (htU _ fl_X9_9) (fun _ h9 => h9) dX9_smallestPrimeOf_8 ?_
        refine va_tlen (v := 4) hx hb hX.1.2 hS (by decide) dX9_smallestPrimeOf_11 ?_
        refine lv_icmp_ge (tgt := 37) hx hb dX9_smallestPrimeOf_12 (by decide) (fun c_2 => ?_) (fun c_2 => ?_)
        · have h := if_t c_2 h
          refine lv_iconst (v := (-1)) hx hb dX9_smallestPrimeOf_37 (by decide) ?_
          exact sw_ri hx hb hr hlocks hS () (pr1 h) hP hD dX9_smallestPrimeOf_38
        · have h := if_f c_2 h
          refine lv_iload_n hx hb dX9_smallestPrimeOf_15 rfl (lv_at hl 0 rfl) ?_
          refine va_gets hx hb hX.1.1 hS hown (htU _ fl_X9_9) (fun _ h9 => h9) dX9_smallestPrimeOf_16 ?_
          refine lv_iload_n hx hb dX9_smallestPrimeOf_19 rfl (lv_at hl 2 rfl) ?_
          obtain ⟨hi_3, h⟩ := ix_at h
          refine va_ti (v := .int (sw_p4 x2.toNatClampNeg)) hx hb hX.1.2 hS hi_3 rfl dX9_smallestPrimeOf_20 ?_
          obtain ⟨hz_4, h⟩ := nz_at h
          refine lv_irem hx hb dX9_smallestPrimeOf_21 hz_4 ?_
          refine lv_if_ne (tgt := 31) hx hb dX9_smallestPrimeOf_22 (by decide) (fun c_5 => ?_) (fun c_5 => ?_)
          · have h := if_f c_5 h
            obtain ⟨x2_6, e_x2_6⟩ : ∃ y : Int32, y = x2 + 1 := ⟨_, rfl⟩
            refine lv_iinc (v := x2_6) (lv' := [(2, .int x2_6), (0, .int x0), (1, .int x1)]) hx hb dX9_smallestPrimeOf_31 hl (k := 2) rfl (by rw [e_x2_6]; rfl) (by decide) rfl (fun ls hl => ?_)
            have h := nm_at e_x2_6 h
            refine lv_goto (tgt := 2) hx hb dX9_smallestPrimeOf_34 (by decide) ?_
            exact ih_2 x2_6 ls H _ (lv_sub hl [1, 2, 0] rfl) hP hD hS h
          · have h := if_t c_5 h
            refine va_gets hx hb hX.1.1 hS hown (htU _ fl_X9_9) (fun _ h9 => h9) dX9_smallestPrimeOf_25 ?_
            refine lv_iload_n hx hb dX9_smallestPrimeOf_28 rfl (lv_at hl 2 rfl) ?_
            obtain ⟨hi_7, h⟩ := ix_at h
            refine va_ti (v := .int (sw_p4 x2.toNatClampNeg)) hx hb hX.1.2 hS hi_7 rfl dX9_smallestPrimeOf_29 ?_
            exact sw_ri hx hb hr hlocks hS () (pr1 h) hP hD dX9_smallestPrimeOf_30
  refine lv_iconst (v := 0) hx hb dX9_smallestPrimeOf_0 (by decide) ?_
  refine lv_istore_n (lv' := [(2, .int 0), (0, .int x0), (1, .int x1)]) hx hb dX9_smallestPrimeOf_1 rfl hl (by decide) rfl (fun ls hl => ?_)
  exact hL_2 FUEL 0 ls s.heap _ (lv_sub hl [1, 2, 0] rfl) hP hD hS h
theorem mv_X3_isMissing : sw_MV yX3_isMissing RX3 cX3_isMissing 3 (Option.some Jvm.ClassFile.FieldType.boolean) 2 := ⟨im_X3_isMissing, se_X3_isMissing, ini_X3, co_X3_isMissing, by decide +kernel⟩
def F_X3_isMissing (x1 : Int32) (x2 : Int32) (t : PlanT) : Option (Bool) :=
 (F_X9_smallestPrimeOf x1 x2).bind (fun w_1 => (if w_1 = (-1) then (F_X3_placeOf x1 t).bind (fun w_4 => (if w_4 = (-1) then (F_X3_firstHit x1 t).bind (fun w_7 => (if w_7 = (-1) then some true else some false)) else some false)) else some false))
abbrev RM_X3_isMissing : Room := ({ frames := 1, cells := 0, slots := 0, locals := 23 } : Room)
set_option maxHeartbeats 4000000 in
set_option maxRecDepth 100000 in
theorem c_X3_isMissing (l : Launch) (G : va_G) (ca Z : Nat → Nat) (q_t : Nat) (q_t_ds : Nat) (z_t_rooms : Value) (sz : Nat) (x1 : Int32) (x2 : Int32) (t : PlanT) (res : Bool) (hF : F_X3_isMissing x1 x2 t = some res) : Met l yX3_isMissing (.code yX3_isMissing cX3_isMissing 3 (Option.some Jvm.ClassFile.FieldType.boolean) :: sw_U) RM_X3_isMissing (va_Pc [.ref q_t, .int x1, .int x2] (sw_Pre G ca Z [(q_t, .inr (1, [.int t.1, .int t.2.1, z_t_rooms, .int t.2.2.2.1, .int t.2.2.2.2.1, .ref q_t_ds, .int t.2.2.2.2.2.2])), (q_t_ds, .inl (ca 0, 30, .inl t.2.2.2.2.2.1))] sz)) ((fun A => va_Qi (fun r (u : Unit) => bI res = r) (sw_Post G A (fun (u : Unit) => [(q_t, .inr (1, [.int t.1, .int t.2.1, z_t_rooms, .int t.2.2.2.1, .int t.2.2.2.2.1, .ref q_t_ds, .int t.2.2.2.2.2.2])), (q_t_ds, .inl (ca 0, 30, .inl t.2.2.2.2.2.1))])) A) (va_A [(q_t, .inr (1, [.int t.1, .int t.2.1, z_t_rooms, .int t.2.2.2.1, .int t.2.2.2.2.1, .ref q_t_ds, .int t.2.2.2.2.2.2])), (q_t_ds, .inl (ca 0, 30, .inl t.2.2.2.2.2.1))] sz)) 0 0 (va_A [(q_t, .inr (1, [.int t.1, .int t.2.1, z_t_rooms, .int t.2.2.2.1, .int t.2.2.2.2.1, .ref q_t_ds, .int t.2.2.2.2.2.2])), (q_t_ds, .inl (ca 0, 30, .inl t.2.2.2.2.2.1))] sz) := by
  refine sw_ofW (Qc := fun A => va_Qi (fun r (u : Unit) => bI res = r) (sw_Post G A (fun (u : Unit) => [(q_t, .inr (1, [.int t.1, .int t.2.1, z_t_rooms, .int t.2.2.2.1, .int t.2.2.2.2.1, .ref q_t_ds, .int t.2.2.2.2.2.2])), (q_t_ds, .inl (ca 0, 30, .inl t.2.2.2.2.2.1))])) A) (by decide) [(0, .ref q_t), (1, .int x1), (2, .int x2)] rfl (Nat.le_of_ble_eq_true rfl) ?_
  intro p e s m args below meth c ls A hx hb hr hml hown htU hlocks hnm hP hK hD hX hY hS hA hl
  have hown : s.vm.findClass RX3 = some m.cls := hown
  have Cx : sw_Cx p s m args c cX3_isMissing 3 RX3 G ca Z A := ⟨⟨hx, hb, hml, hown, htU⟩, hK, hX, hY, hA⟩
  have h := hF
  unfold F_X3_isMissing at h
  refine lv_iload_n hx hb dX3_isMissing_0 rfl (lv_at hl 1 rfl) ?_
  refine lv_iload_n hx hb dX3_isMissing_1 rfl (lv_at hl 2 rfl) ?_
  obtain ⟨w_1, hg_2, h⟩ := bd_at h
  refine sw_ci (sw_runS (As := [.int x1, .int x2]) (rest := []) Cx hP hD hS ms_X9_smallestPrimeOf ml_X3_61 (c_X9_smallestPrimeOf l G ca Z s.heap.size x1 x2 w_1 hg_2) [] rfl rfl rfl rfl ⟨(Nat.le_of_ble_eq_true rfl), (Nat.le_of_ble_eq_true rfl)⟩ hl.1 rfl rfl (Nat.le_of_ble_eq_true rfl) dX3_isMissing_2 ⟨(Nat.le_of_ble_eq_true rfl), (Nat.le_of_ble_eq_true rfl)⟩) hP hD hS hA [] [0, 1] [0, 1] rfl rfl rfl (by decide) (fun _ => rfl) rfl (fun r u H locs hw hP hD hS => ?_)
  subst hw
  have hP : va_P G vwCl [(q_t, .inr (1, [.int t.1, .int t.2.1, z_t_rooms, .int t.2.2.2.1, .int t.2.2.2.2.1, .ref q_t_ds, .int t.2.2.2.2.2.2])), (q_t_ds, .inl (ca 0, 30, .inl t.2.2.2.2.2.1))] H := hP
  have hD : va_D A [(q_t, .inr (1, [.int t.1, .int t.2.1, z_t_rooms, .int t.2.2.2.1, .int t.2.2.2.2.1, .ref q_t_ds, .int t.2.2.2.2.2.2])), (q_t_ds, .inl (ca 0, 30, .inl t.2.2.2.2.2.1))] := hD
  refine lv_iconst (v := (-1)) hx hb dX3_isMissing_5 (by decide) ?_
  refine lv_icmp_ne (tgt := 31) hx hb dX3_isMissing_6 (by decide) (fun c_3 => ?_) (fun c_3 => ?_)
  · have h := if_f c_3 h
    refine lv_iconst (v := 0) hx hb dX3_isMissing_31 (by decide) ?_
    exact sw_rz hx hb hr rfl hlocks hS () (pb1 h) hP hD dX3_isMissing_32
  · have h := if_t c_3 h
    refine lv_aload_n hx hb dX3_isMissing_9 rfl (lv_at hl 0 rfl) ?_
    refine lv_iload_n hx hb dX3_isMissing_10 rfl (lv_at hl 1 rfl) ?_
    obtain ⟨w_4, hg_5, h⟩ := bd_at h
    refine sw_ci (sw_runV (As := [.int x1]) (rest := []) Cx hP hD hS mv_X3_placeOf ml_X3_66 (c_X3_placeOf l G ca Z q_t q_t_ds (z_t_rooms) H.size x1 t w_4 hg_5) 1 rfl rfl rfl [0, 1] rfl rfl rfl rfl ⟨(Nat.le_of_ble_eq_true rfl), (Nat.le_of_ble_eq_true rfl)⟩ hl.1 rfl rfl (Nat.le_of_ble_eq_true rfl) dX3_isMissing_11 ⟨(Nat.le_of_ble_eq_true rfl), (Nat.le_of_ble_eq_true rfl)⟩) hP hD hS hA [0, 1] [] [0, 1] rfl rfl rfl (by decide) (fun _ => rfl) rfl (fun r u H locs hw hP hD hS => ?_)
    subst hw
    have hP : va_P G vwCl [(q_t, .inr (1, [.int t.1, .int t.2.1, z_t_rooms, .int t.2.2.2.1, .int t.2.2.2.2.1, .ref q_t_ds, .int t.2.2.2.2.2.2])), (q_t_ds, .inl (ca 0, 30, .inl t.2.2.2.2.2.1))] H := hP
    have hD : va_D A [(q_t, .inr (1, [.int t.1, .int t.2.1, z_t_rooms, .int t.2.2.2.1, .int t.2.2.2.2.1, .ref q_t_ds, .int t.2.2.2.2.2.2])), (q_t_ds, .inl (ca 0, 30, .inl t.2.2.2.2.2.1))] := hD
    refine lv_iconst (v := (-1)) hx hb dX3_isMissing_14 (by decide) ?_
    refine lv_icmp_ne (tgt := 31) hx hb dX3_isMissing_15 (by decide) (fun c_6 => ?_) (fun c_6 => ?_)
    · have h := if_f c_6 h
      refine lv_iconst (v := 0) hx hb dX3_isMissing_31 (by decide) ?_
      exact sw_rz hx hb hr rfl hlocks hS () (pb1 h) hP hD dX3_isMissing_32
    · have h := if_t c_6 h
      refine lv_aload_n hx hb dX3_isMissing_18 rfl (lv_at hl 0 rfl) ?_
      refine lv_iload_n hx hb dX3_isMissing_19 rfl (lv_at hl 1 rfl) ?_
      obtain ⟨w_7, hg_8, h⟩ := bd_at h
      refine sw_ci (sw_runV (As := [.int x1]) (rest := []) Cx hP hD hS mv_X3_firstHit ml_X3_69 (c_X3_firstHit l G ca Z q_t q_t_ds (z_t_rooms) H.size x1 t w_7 hg_8) 1 rfl rfl rfl [0, 1] rfl rfl rfl rfl ⟨(Nat.le_of_ble_eq_true rfl), (Nat.le_of_ble_eq_true rfl)⟩ hl.1 rfl rfl (Nat.le_of_ble_eq_true rfl) dX3_isMissing_20 ⟨(Nat.le_of_ble_eq_true rfl), (Nat.le_of_ble_eq_true rfl)⟩) hP hD hS hA [0, 1] [] [0, 1] rfl rfl rfl (by decide) (fun _ => rfl) rfl (fun r u H locs hw hP hD hS => ?_)
      subst hw
      have hP : va_P G vwCl [(q_t, .inr (1, [.int t.1, .int t.2.1, z_t_rooms, .int t.2.2.2.1, .int t.2.2.2.2.1, .ref q_t_ds, .int t.2.2.2.2.2.2])), (q_t_ds, .inl (ca 0, 30, .inl t.2.2.2.2.2.1))] H := hP
      have hD : va_D A [(q_t, .inr (1, [.int t.1, .int t.2.1, z_t_rooms, .int t.2.2.2.1, .int t.2.2.2.2.1, .ref q_t_ds, .int t.2.2.2.2.2.2])), (q_t_ds, .inl (ca 0, 30, .inl t.2.2.2.2.2.1))] := hD
      refine lv_iconst (v := (-1)) hx hb dX3_isMissing_23 (by decide) ?_
      refine lv_icmp_ne (tgt := 31) hx hb dX3_isMissing_24 (by decide) (fun c_9 => ?_) (fun c_9 => ?_)
      · have h := if_f c_9 h
        refine lv_iconst (v := 0) hx hb dX3_isMissing_31 (by decide) ?_
        exact sw_rz hx hb hr rfl hlocks hS () (pb1 h) hP hD dX3_isMissing_32
      · have h := if_t c_9 h
        refine lv_iconst (v := 1) hx hb dX3_isMissing_27 (by decide) ?_
        refine lv_goto (tgt := 32) hx hb dX3_isMissing_28 (by decide) ?_
        exact sw_rz hx hb hr rfl hlocks hS () (pb1 h) hP hD dX3_isMissing_32
theorem mv_X3_smallestMissing : sw_MV yX3_smallestMissing RX3 cX3_smallestMissing 4 (Option.some Jvm.ClassFile.FieldType.int) 1 := ⟨im_X3_smallestMissing, se_X3_smallestMissing, ini_X3, co_X3_smallestMissing, by decide +kernel⟩
def B_X3_smallestMissing_7 (x1 : Int32) (t : PlanT) (k_7 : Int32 → Int32 → Option (Int32)) (x2 : Int32) (x3 : Int32) : Option (Int32) :=
 (if 120 < x3 then some (-1) else (if x2 < (x3 * x3) then some (-1) else (F_X3_isMissing x3 x1 t).bind (fun w_5 => (if w_5 = true then some x3 else nm (x3 + 1) (fun x3_8 => k_7 x2 x3_8)))))
def F_X3_smallestMissing (x1 : Int32) (t : PlanT) : Option (Int32) :=
 (F_X3_lastNumber t).bind (fun w_1 => fx (fun _ _ => none) (B_X3_smallestMissing_7 x1 t) FUEL w_1 2)
abbrev RM_X3_smallestMissing : Room := ({ frames := 2, cells := 0, slots := 0, locals := 45 } : Room)
set_option maxHeartbeats 4000000 in
set_option maxRecDepth 100000 in
theorem c_X3_smallestMissing (l : Launch) (G : va_G) (ca Z : Nat → Nat) (q_t : Nat) (q_t_ds : Nat) (z_t_rooms : Value) (sz : Nat) (x1 : Int32) (t : PlanT) (res : Int32) (hF : F_X3_smallestMissing x1 t = some res) : Met l yX3_smallestMissing (.code yX3_smallestMissing cX3_smallestMissing 4 (Option.some Jvm.ClassFile.FieldType.int) :: sw_U) RM_X3_smallestMissing (va_Pc [.ref q_t, .int x1] (sw_Pre G ca Z [(q_t, .inr (1, [.int t.1, .int t.2.1, z_t_rooms, .int t.2.2.2.1, .int t.2.2.2.2.1, .ref q_t_ds, .int t.2.2.2.2.2.2])), (q_t_ds, .inl (ca 0, 30, .inl t.2.2.2.2.2.1))] sz)) ((fun A => va_Qi (fun r (u : Unit) => res = r) (sw_Post G A (fun (u : Unit) => [(q_t, .inr (1, [.int t.1, .int t.2.1, z_t_rooms, .int t.2.2.2.1, .int t.2.2.2.2.1, .ref q_t_ds, .int t.2.2.2.2.2.2])), (q_t_ds, .inl (ca 0, 30, .inl t.2.2.2.2.2.1))])) A) (va_A [(q_t, .inr (1, [.int t.1, .int t.2.1, z_t_rooms, .int t.2.2.2.1, .int t.2.2.2.2.1, .ref q_t_ds, .int t.2.2.2.2.2.2])), (q_t_ds, .inl (ca 0, 30, .inl t.2.2.2.2.2.1))] sz)) 0 0 (va_A [(q_t, .inr (1, [.int t.1, .int t.2.1, z_t_rooms, .int t.2.2.2.1, .int t.2.2.2.2.1, .ref q_t_ds, .int t.2.2.2.2.2.2])), (q_t_ds, .inl (ca 0, 30, .inl t.2.2.2.2.2.1))] sz) := by
  refine sw_ofW (Qc := fun A => va_Qi (fun r (u : Unit) => res = r) (sw_Post G A (fun (u : Unit) => [(q_t, .inr (1, [.int t.1, .int t.2.1, z_t_rooms, .int t.2.2.2.1, .int t.2.2.2.2.1, .ref q_t_ds, .int t.2.2.2.2.2.2])), (q_t_ds, .inl (ca 0, 30, .inl t.2.2.2.2.2.1))])) A) (by decide) [(0, .ref q_t), (1, .int x1)] rfl (Nat.le_of_ble_eq_true rfl) ?_
  intro p e s m args below meth c ls A hx hb hr hml hown htU hlocks hnm hP hK hD hX hY hS hA hl
  have hown : s.vm.findClass RX3 = some m.cls := hown
  have Cx : sw_Cx p s m args c cX3_smallestMissing 4 RX3 G ca Z A := ⟨⟨hx, hb, hml, hown, htU⟩, hK, hX, hY, hA⟩
  have h := hF
  unfold F_X3_smallestMissing at h
  have hL_7 : ∀ (n_7 : Nat) (x2 : Int32) (x3 : Int32) (ls : Array Slot) (H : Heap) (locs : List Loc), lv_has ls 4 [(0, .ref q_t), (1, .int x1), (2, .int x2), (3, .int x3)] → va_P G vwCl [(q_t, .inr (1, [.int t.1, .int t.2.1, z_t_rooms, .int t.2.2.2.1, .int t.2.2.2.2.1, .ref q_t_ds, .int t.2.2.2.2.2.2])), (q_t_ds, .inl (ca 0, 30, .inl t.2.2.2.2.2.1))] H → va_D A [(q_t, .inr (1, [.int t.1, .int t.2.1, z_t_rooms, .int t.2.2.2.1, .int t.2.2.2.2.1, .ref q_t_ds, .int t.2.2.2.2.2.2])), (q_t_ds, .inl (ca 0, 30, .inl t.2.2.2.2.2.1))] → va_S A s.heap H locs → fx (fun _ _ => none) (B_X3_smallestMissing_7 x1 t) n_7 x2 x3 = some res → W p l e RM_X3_smallestMissing s m args below meth c H locs 0 0 (MQ below ((fun A => va_Qi (fun r (u : Unit) => res = r) (sw_Post G A (fun (u : Unit) => [(q_t, .inr (1, [.int t.1, .int t.2.1, z_t_rooms, .int t.2.2.2.1, .int t.2.2.2.2.1, .ref q_t_ds, .int t.2.2.2.2.2.2])), (q_t_ds, .inl (ca 0, 30, .inl t.2.2.2.2.2.1))])) A) A) args s 0 0 A) (F0 m 7 ls []) := by
    intro n_7
    induction n_7 with
    | zero => intro x2 x3 ls H locs hl hP hD hS h; exact no_at h
    | succ n_7 ih_7 =>
      intro x2 x3 ls H locs hl hP hD hS h
      rw [fx_s] at h
      unfold B_X3_smallestMissing_7 at h
      refine lv_iload_n hx hb dX3_smallestMissing_7 rfl (lv_at hl 3 rfl) ?_
      refine lv_bipush (v := 120) hx hb dX3_smallestMissing_8 (by decide) ?_
      refine lv_icmp_gt (tgt := 37) hx hb dX3_smallestMissing_10 (by decide) (fun c_3 => ?_) (fun c_3 => ?_)
      · have h := if_t c_3 h
        refine lv_iconst (v := (-1)) hx hb dX3_smallestMissing_37 (by decide) ?_
        exact sw_ri hx hb hr hlocks hS () (pr1 h) hP hD dX3_smallestMissing_38
      · have h := if_f c_3 h
        refine lv_iload_n hx hb dX3_smallestMissing_13 rfl (lv_at hl 3 rfl) ?_
        refine lv_iload_n hx hb dX3_smallestMissing_14 rfl (lv_at hl 3 rfl) ?_
        refine lv_imul hx hb dX3_smallestMissing_15 ?_
        refine lv_iload_n hx hb dX3_smallestMissing_16 rfl (lv_at hl 2 rfl) ?_
        refine lv_icmp_gt (tgt := 37) hx hb dX3_smallestMissing_17 (by decide) (fun c_4 => ?_) (fun c_4 => ?_)
        · have h := if_t c_4 h
          refine lv_iconst (v := (-1)) hx hb dX3_smallestMissing_37 (by decide) ?_
          exact sw_ri hx hb hr hlocks hS () (pr1 h) hP hD dX3_smallestMissing_38
        · have h := if_f c_4 h
          refine lv_aload_n hx hb dX3_smallestMissing_20 rfl (lv_at hl 0 rfl) ?_
          refine lv_iload_n hx hb dX3_smallestMissing_21 rfl (lv_at hl 3 rfl) ?_
          refine lv_iload_n hx hb dX3_smallestMissing_22 rfl (lv_at hl 1 rfl) ?_
          obtain ⟨w_5, hg_6, h⟩ := bd_at h
          refine sw_ci (sw_runV (As := [.int x3, .int x1]) (rest := []) Cx hP hD hS mv_X3_isMissing ml_X3_75 (c_X3_isMissing l G ca Z q_t q_t_ds (z_t_rooms) H.size x3 x1 t w_5 hg_6) 1 rfl rfl rfl [0, 1] rfl rfl rfl rfl ⟨(Nat.le_of_ble_eq_true rfl), (Nat.le_of_ble_eq_true rfl)⟩ hl.1 rfl rfl (Nat.le_of_ble_eq_true rfl) dX3_smallestMissing_23 ⟨(Nat.le_of_ble_eq_true rfl), (Nat.le_of_ble_eq_true rfl)⟩) hP hD hS hA [0, 1] [] [0, 1] rfl rfl rfl (by decide) (fun _ => rfl) rfl (fun r u H locs hw hP hD hS => ?_)
          subst hw
          have hP : va_P G vwCl [(q_t, .inr (1, [.int t.1, .int t.2.1, z_t_rooms, .int t.2.2.2.1, .int t.2.2.2.2.1, .ref q_t_ds, .int t.2.2.2.2.2.2])), (q_t_ds, .inl (ca 0, 30, .inl t.2.2.2.2.2.1))] H := hP
          have hD : va_D A [(q_t, .inr (1, [.int t.1, .int t.2.1, z_t_rooms, .int t.2.2.2.1, .int t.2.2.2.2.1, .ref q_t_ds, .int t.2.2.2.2.2.2])), (q_t_ds, .inl (ca 0, 30, .inl t.2.2.2.2.2.1))] := hD
          refine lv_if_eq (tgt := 31) hx hb dX3_smallestMissing_26 (by decide) (fun c_7 => ?_) (fun c_7 => ?_)
          · have c_7 := bI_z.mp c_7
            have h := if_f c_7 h
            obtain ⟨x3_8, e_x3_8⟩ : ∃ y : Int32, y = x3 + 1 := ⟨_, rfl⟩
            refine lv_iinc (v := x3_8) (lv' := [(3, .int x3_8), (0, .ref q_t), (1, .int x1), (2, .int x2)]) hx hb dX3_smallestMissing_31 hl (k := 3) rfl (by rw [e_x3_8]; rfl) (by decide) rfl (fun ls hl => ?_)
            have h := nm_at e_x3_8 h
            refine lv_goto (tgt := 7) hx hb dX3_smallestMissing_34 (by decide) ?_
            exact ih_7 x2 x3_8 ls H _ (lv_sub hl [1, 2, 3, 0] rfl) hP hD hS h
          · have c_7 := bI_nz.mp c_7
            have h := if_t c_7 h
            refine lv_iload_n hx hb dX3_smallestMissing_29 rfl (lv_at hl 3 rfl) ?_
            exact sw_ri hx hb hr hlocks hS () (pr1 h) hP hD dX3_smallestMissing_30
  refine lv_aload_n hx hb dX3_smallestMissing_0 rfl (lv_at hl 0 rfl) ?_
  obtain ⟨w_1, hg_2, h⟩ := bd_at h
  refine sw_ci (sw_runV (As := []) (rest := []) Cx hP hD hS mv_X3_lastNumber ml_X3_72 (c_X3_lastNumber l G ca Z q_t (z_t_rooms) (.ref q_t_ds) s.heap.size t w_1 hg_2) 1 rfl rfl rfl [0] rfl rfl rfl rfl ⟨(Nat.le_of_ble_eq_true rfl), (Nat.le_of_ble_eq_true rfl)⟩ hl.1 rfl rfl (Nat.le_of_ble_eq_true rfl) dX3_smallestMissing_1 ⟨(Nat.le_of_ble_eq_true rfl), (Nat.le_of_ble_eq_true rfl)⟩) hP hD hS hA [0] [1] [1, 0] rfl rfl rfl (by decide) (fun _ => rfl) rfl (fun r u H locs hw hP hD hS => ?_)
  subst hw
  have hP : va_P G vwCl [(q_t, .inr (1, [.int t.1, .int t.2.1, z_t_rooms, .int t.2.2.2.1, .int t.2.2.2.2.1, .ref q_t_ds, .int t.2.2.2.2.2.2])), (q_t_ds, .inl (ca 0, 30, .inl t.2.2.2.2.2.1))] H := hP
  have hD : va_D A [(q_t, .inr (1, [.int t.1, .int t.2.1, z_t_rooms, .int t.2.2.2.1, .int t.2.2.2.2.1, .ref q_t_ds, .int t.2.2.2.2.2.2])), (q_t_ds, .inl (ca 0, 30, .inl t.2.2.2.2.2.1))] := hD
  refine lv_istore_n (lv' := [(2, .int w_1), (0, .ref q_t), (1, .int x1)]) hx hb dX3_smallestMissing_4 rfl hl (by decide) rfl (fun ls hl => ?_)
  refine lv_iconst (v := 2) hx hb dX3_smallestMissing_5 (by decide) ?_
  refine lv_istore_n (lv' := [(3, .int 2), (2, .int w_1), (0, .ref q_t), (1, .int x1)]) hx hb dX3_smallestMissing_6 rfl hl (by decide) rfl (fun ls hl => ?_)
  exact hL_7 FUEL w_1 2 ls H _ (lv_sub hl [2, 3, 1, 0] rfl) hP hD hS h
theorem mv_X3_countMissing : sw_MV yX3_countMissing RX3 cX3_countMissing 5 (Option.some Jvm.ClassFile.FieldType.int) 1 := ⟨im_X3_countMissing, se_X3_countMissing, ini_X3, co_X3_countMissing, by decide +kernel⟩
def B_X3_countMissing_10 (x1 : Int32) (t : PlanT) (k_10 : Int32 → Int32 → Int32 → Option (Int32)) (x2 : Int32) (x3 : Int32) (x4 : Int32) : Option (Int32) :=
 (if 120 < x4 then some x3 else (if x2 < (x4 * x4) then some x3 else (F_X3_isMissing x4 x1 t).bind (fun w_5 => (if w_5 = true then nm (x3 + 1) (fun x3_9 => nm (x4 + 1) (fun x4_10 => k_10 x2 x3_9 x4_10)) else nm (x4 + 1) (fun x4_8 => k_10 x2 x3 x4_8)))))
def F_X3_countMissing (x1 : Int32) (t : PlanT) : Option (Int32) :=
 (F_X3_lastNumber t).bind (fun w_1 => fx (fun _ _ _ => none) (B_X3_countMissing_10 x1 t) FUEL w_1 0 2)
abbrev RM_X3_countMissing : Room := ({ frames := 2, cells := 0, slots := 0, locals := 45 } : Room)
set_option maxHeartbeats 4000000 in
set_option maxRecDepth 100000 in
theorem c_X3_countMissing (l : Launch) (G : va_G) (ca Z : Nat → Nat) (q_t : Nat) (q_t_ds : Nat) (z_t_rooms : Value) (sz : Nat) (x1 : Int32) (t : PlanT) (res : Int32) (hF : F_X3_countMissing x1 t = some res) : Met l yX3_countMissing (.code yX3_countMissing cX3_countMissing 5 (Option.some Jvm.ClassFile.FieldType.int) :: sw_U) RM_X3_countMissing (va_Pc [.ref q_t, .int x1] (sw_Pre G ca Z [(q_t, .inr (1, [.int t.1, .int t.2.1, z_t_rooms, .int t.2.2.2.1, .int t.2.2.2.2.1, .ref q_t_ds, .int t.2.2.2.2.2.2])), (q_t_ds, .inl (ca 0, 30, .inl t.2.2.2.2.2.1))] sz)) ((fun A => va_Qi (fun r (u : Unit) => res = r) (sw_Post G A (fun (u : Unit) => [(q_t, .inr (1, [.int t.1, .int t.2.1, z_t_rooms, .int t.2.2.2.1, .int t.2.2.2.2.1, .ref q_t_ds, .int t.2.2.2.2.2.2])), (q_t_ds, .inl (ca 0, 30, .inl t.2.2.2.2.2.1))])) A) (va_A [(q_t, .inr (1, [.int t.1, .int t.2.1, z_t_rooms, .int t.2.2.2.1, .int t.2.2.2.2.1, .ref q_t_ds, .int t.2.2.2.2.2.2])), (q_t_ds, .inl (ca 0, 30, .inl t.2.2.2.2.2.1))] sz)) 0 0 (va_A [(q_t, .inr (1, [.int t.1, .int t.2.1, z_t_rooms, .int t.2.2.2.1, .int t.2.2.2.2.1, .ref q_t_ds, .int t.2.2.2.2.2.2])), (q_t_ds, .inl (ca 0, 30, .inl t.2.2.2.2.2.1))] sz) := by
  refine sw_ofW (Qc := fun A => va_Qi (fun r (u : Unit) => res = r) (sw_Post G A (fun (u : Unit) => [(q_t, .inr (1, [.int t.1, .int t.2.1, z_t_rooms, .int t.2.2.2.1, .int t.2.2.2.2.1, .ref q_t_ds, .int t.2.2.2.2.2.2])), (q_t_ds, .inl (ca 0, 30, .inl t.2.2.2.2.2.1))])) A) (by decide) [(0, .ref q_t), (1, .int x1)] rfl (Nat.le_of_ble_eq_true rfl) ?_
  intro p e s m args below meth c ls A hx hb hr hml hown htU hlocks hnm hP hK hD hX hY hS hA hl
  have hown : s.vm.findClass RX3 = some m.cls := hown
  have Cx : sw_Cx p s m args c cX3_countMissing 5 RX3 G ca Z A := ⟨⟨hx, hb, hml, hown, htU⟩, hK, hX, hY, hA⟩
  have h := hF
  unfold F_X3_countMissing at h
  have hL_10 : ∀ (n_10 : Nat) (x2 : Int32) (x3 : Int32) (x4 : Int32) (ls : Array Slot) (H : Heap) (locs : List Loc), lv_has ls 5 [(0, .ref q_t), (1, .int x1), (2, .int x2), (3, .int x3), (4, .int x4)] → va_P G vwCl [(q_t, .inr (1, [.int t.1, .int t.2.1, z_t_rooms, .int t.2.2.2.1, .int t.2.2.2.2.1, .ref q_t_ds, .int t.2.2.2.2.2.2])), (q_t_ds, .inl (ca 0, 30, .inl t.2.2.2.2.2.1))] H → va_D A [(q_t, .inr (1, [.int t.1, .int t.2.1, z_t_rooms, .int t.2.2.2.1, .int t.2.2.2.2.1, .ref q_t_ds, .int t.2.2.2.2.2.2])), (q_t_ds, .inl (ca 0, 30, .inl t.2.2.2.2.2.1))] → va_S A s.heap H locs → fx (fun _ _ _ => none) (B_X3_countMissing_10 x1 t) n_10 x2 x3 x4 = some res → W p l e RM_X3_countMissing s m args below meth c H locs 0 0 (MQ below ((fun A => va_Qi (fun r (u : Unit) => res = r) (sw_Post G A (fun (u : Unit) => [(q_t, .inr (1, [.int t.1, .int t.2.1, z_t_rooms, .int t.2.2.2.1, .int t.2.2.2.2.1, .ref q_t_ds, .int t.2.2.2.2.2.2])), (q_t_ds, .inl (ca 0, 30, .inl t.2.2.2.2.2.1))])) A) A) args s 0 0 A) (F0 m 10 ls []) := by
    intro n_10
    induction n_10 with
    | zero => intro x2 x3 x4 ls H locs hl hP hD hS h; exact no_at h
    | succ n_10 ih_10 =>
      intro x2 x3 x4 ls H locs hl hP hD hS h
      rw [fx_s] at h
      unfold B_X3_countMissing_10 at h
      refine lv_iload hx hb dX3_countMissing_10 (lv_at hl 4 rfl) ?_
      refine lv_bipush (v := 120) hx hb dX3_countMissing_12 (by decide) ?_
      refine lv_icmp_gt (tgt := 45) hx hb dX3_countMissing_14 (by decide) (fun c_3 => ?_) (fun c_3 => ?_)
      · have h := if_t c_3 h
        refine lv_iload_n hx hb dX3_countMissing_45 rfl (lv_at hl 3 rfl) ?_
        exact sw_ri hx hb hr hlocks hS () (pr1 h) hP hD dX3_countMissing_46
      · have h := if_f c_3 h
        refine lv_iload hx hb dX3_countMissing_17 (lv_at hl 4 rfl) ?_
        refine lv_iload hx hb dX3_countMissing_19 (lv_at hl 4 rfl) ?_
        refine lv_imul hx hb dX3_countMissing_21 ?_
        refine lv_iload_n hx hb dX3_countMissing_22 rfl (lv_at hl 2 rfl) ?_
        refine lv_icmp_gt (tgt := 45) hx hb dX3_countMissing_23 (by decide) (fun c_4 => ?_) (fun c_4 => ?_)
        · have h := if_t c_4 h
          refine lv_iload_n hx hb dX3_countMissing_45 rfl (lv_at hl 3 rfl) ?_
          exact sw_ri hx hb hr hlocks hS () (pr1 h) hP hD dX3_countMissing_46
        · have h := if_f c_4 h
          refine lv_aload_n hx hb dX3_countMissing_26 rfl (lv_at hl 0 rfl) ?_
          refine lv_iload hx hb dX3_countMissing_27 (lv_at hl 4 rfl) ?_
          refine lv_iload_n hx hb dX3_countMissing_29 rfl (lv_at hl 1 rfl) ?_
          obtain ⟨w_5, hg_6, h⟩ := bd_at h
          refine sw_ci (sw_runV (As := [.int x4, .int x1]) (rest := []) Cx hP hD hS mv_X3_isMissing ml_X3_75 (c_X3_isMissing l G ca Z q_t q_t_ds (z_t_rooms) H.size x4 x1 t w_5 hg_6) 1 rfl rfl rfl [0, 1] rfl rfl rfl rfl ⟨(Nat.le_of_ble_eq_true rfl), (Nat.le_of_ble_eq_true rfl)⟩ hl.1 rfl rfl (Nat.le_of_ble_eq_true rfl) dX3_countMissing_30 ⟨(Nat.le_of_ble_eq_true rfl), (Nat.le_of_ble_eq_true rfl)⟩) hP hD hS hA [0, 1] [] [0, 1] rfl rfl rfl (by decide) (fun _ => rfl) rfl (fun r u H locs hw hP hD hS => ?_)
          subst hw
          have hP : va_P G vwCl [(q_t, .inr (1, [.int t.1, .int t.2.1, z_t_rooms, .int t.2.2.2.1, .int t.2.2.2.2.1, .ref q_t_ds, .int t.2.2.2.2.2.2])), (q_t_ds, .inl (ca 0, 30, .inl t.2.2.2.2.2.1))] H := hP
          have hD : va_D A [(q_t, .inr (1, [.int t.1, .int t.2.1, z_t_rooms, .int t.2.2.2.1, .int t.2.2.2.2.1, .ref q_t_ds, .int t.2.2.2.2.2.2])), (q_t_ds, .inl (ca 0, 30, .inl t.2.2.2.2.2.1))] := hD
          refine lv_if_eq (tgt := 39) hx hb dX3_countMissing_33 (by decide) (fun c_7 => ?_) (fun c_7 => ?_)
          · have c_7 := bI_z.mp c_7
            have h := if_f c_7 h
            obtain ⟨x4_8, e_x4_8⟩ : ∃ y : Int32, y = x4 + 1 := ⟨_, rfl⟩
            refine lv_iinc (v := x4_8) (lv' := [(4, .int x4_8), (0, .ref q_t), (1, .int x1), (2, .int x2), (3, .int x3)]) hx hb dX3_countMissing_39 hl (k := 4) rfl (by rw [e_x4_8]; rfl) (by decide) rfl (fun ls hl => ?_)
            have h := nm_at e_x4_8 h
            refine lv_goto (tgt := 10) hx hb dX3_countMissing_42 (by decide) ?_
            exact ih_10 x2 x3 x4_8 ls H _ (lv_sub hl [1, 2, 3, 4, 0] rfl) hP hD hS h
          · have c_7 := bI_nz.mp c_7
            have h := if_t c_7 h
            obtain ⟨x3_9, e_x3_9⟩ : ∃ y : Int32, y = x3 + 1 := ⟨_, rfl⟩
            refine lv_iinc (v := x3_9) (lv' := [(3, .int x3_9), (0, .ref q_t), (1, .int x1), (2, .int x2), (4, .int x4)]) hx hb dX3_countMissing_36 hl (k := 3) rfl (by rw [e_x3_9]; rfl) (by decide) rfl (fun ls hl => ?_)
            have h := nm_at e_x3_9 h
            obtain ⟨x4_10, e_x4_10⟩ : ∃ y : Int32, y = x4 + 1 := ⟨_, rfl⟩
            refine lv_iinc (v := x4_10) (lv' := [(4, .int x4_10), (3, .int x3_9), (0, .ref q_t), (1, .int x1), (2, .int x2)]) hx hb dX3_countMissing_39 hl (k := 4) rfl (by rw [e_x4_10]; rfl) (by decide) rfl (fun ls hl => ?_)
            have h := nm_at e_x4_10 h
            refine lv_goto (tgt := 10) hx hb dX3_countMissing_42 (by decide) ?_
            exact ih_10 x2 x3_9 x4_10 ls H _ (lv_sub hl [2, 3, 4, 1, 0] rfl) hP hD hS h
  refine lv_aload_n hx hb dX3_countMissing_0 rfl (lv_at hl 0 rfl) ?_
  obtain ⟨w_1, hg_2, h⟩ := bd_at h
  refine sw_ci (sw_runV (As := []) (rest := []) Cx hP hD hS mv_X3_lastNumber ml_X3_72 (c_X3_lastNumber l G ca Z q_t (z_t_rooms) (.ref q_t_ds) s.heap.size t w_1 hg_2) 1 rfl rfl rfl [0] rfl rfl rfl rfl ⟨(Nat.le_of_ble_eq_true rfl), (Nat.le_of_ble_eq_true rfl)⟩ hl.1 rfl rfl (Nat.le_of_ble_eq_true rfl) dX3_countMissing_1 ⟨(Nat.le_of_ble_eq_true rfl), (Nat.le_of_ble_eq_true rfl)⟩) hP hD hS hA [0] [1] [1, 0] rfl rfl rfl (by decide) (fun _ => rfl) rfl (fun r u H locs hw hP hD hS => ?_)
  subst hw
  have hP : va_P G vwCl [(q_t, .inr (1, [.int t.1, .int t.2.1, z_t_rooms, .int t.2.2.2.1, .int t.2.2.2.2.1, .ref q_t_ds, .int t.2.2.2.2.2.2])), (q_t_ds, .inl (ca 0, 30, .inl t.2.2.2.2.2.1))] H := hP
  have hD : va_D A [(q_t, .inr (1, [.int t.1, .int t.2.1, z_t_rooms, .int t.2.2.2.1, .int t.2.2.2.2.1, .ref q_t_ds, .int t.2.2.2.2.2.2])), (q_t_ds, .inl (ca 0, 30, .inl t.2.2.2.2.2.1))] := hD
  refine lv_istore_n (lv' := [(2, .int w_1), (0, .ref q_t), (1, .int x1)]) hx hb dX3_countMissing_4 rfl hl (by decide) rfl (fun ls hl => ?_)
  refine lv_iconst (v := 0) hx hb dX3_countMissing_5 (by decide) ?_
  refine lv_istore_n (lv' := [(3, .int 0), (2, .int w_1), (0, .ref q_t), (1, .int x1)]) hx hb dX3_countMissing_6 rfl hl (by decide) rfl (fun ls hl => ?_)
  refine lv_iconst (v := 2) hx hb dX3_countMissing_7 (by decide) ?_
  refine lv_istore (lv' := [(4, .int 2), (3, .int 0), (2, .int w_1), (0, .ref q_t), (1, .int x1)]) hx hb dX3_countMissing_8 hl (by decide) rfl (fun ls hl => ?_)
  exact hL_10 FUEL w_1 0 2 ls H _ (lv_sub hl [3, 4, 2, 1, 0] rfl) hP hD hS h
theorem ms_X9_primeAt : sw_MS yX9_primeAt cX9_primeAt 1 (Option.some Jvm.ClassFile.FieldType.int) 1 := ⟨st_X9_primeAt, ini_X9, co_X9_primeAt, by decide +kernel⟩
def F_X9_primeAt (x0 : Int32) : Option (Int32) :=
 (if x0 < 0 then some 1 else (if x0 < 4 then ix x0 4 (some (sw_p4 x0.toNatClampNeg)) else some 1))
abbrev RM_X9_primeAt : Room := ({ frames := 0, cells := 0, slots := 0, locals := 0 } : Room)
set_option maxHeartbeats 4000000 in
set_option maxRecDepth 100000 in
theorem c_X9_primeAt (l : Launch) (G : va_G) (ca Z : Nat → Nat) (sz : Nat) (x0 : Int32) (res : Int32) (hF : F_X9_primeAt x0 = some res) : Met l yX9_primeAt (.code yX9_primeAt cX9_primeAt 1 (Option.some Jvm.ClassFile.FieldType.int) :: sw_U) RM_X9_primeAt (va_Pc [.int x0] (sw_Pre G ca Z [] sz)) ((fun A => va_Qi (fun r (u : Unit) => res = r) (sw_Post G A (fun (u : Unit) => [])) A) (va_A [] sz)) 0 0 (va_A [] sz) := by
  refine sw_ofW (Qc := fun A => va_Qi (fun r (u : Unit) => res = r) (sw_Post G A (fun (u : Unit) => [])) A) (by decide) [(0, .int x0)] rfl (Nat.le_of_ble_eq_true rfl) ?_
  intro p e s m args below meth c ls A hx hb hr hml hown htU hlocks hnm hP hK hD hX hY hS hA hl
  have hown : s.vm.findClass RX9 = some m.cls := hown
  have Cx : sw_Cx p s m args c cX9_primeAt 1 RX9 G ca Z A := ⟨⟨hx, hb, hml, hown, htU⟩, hK, hX, hY, hA⟩
  have h := hF
  unfold F_X9_primeAt at h
  refine lv_iload_n hx hb dX9_primeAt_0 rfl (lv_at hl 0 rfl) ?_
  refine lv_if_lt (tgt := 12) hx hb dX9_primeAt_1 (by decide) (fun c_1 => ?_) (fun c_1 => ?_)
  · have h := if_t c_1 h
    refine lv_iconst (v := 1) hx hb dX9_primeAt_12 (by decide) ?_
    refine lv_goto (tgt := 21) hx hb dX9_primeAt_13 (by decide) ?_
    exact sw_ri hx hb hr hlocks hS () (pr1 h) hP hD dX9_primeAt_21
  · have h := if_f c_1 h
    refine lv_iload_n hx hb dX9_primeAt_4 rfl (lv_at hl 0 rfl) ?_
    refine va_gets hx hb hX.1.1 hS hown (htU _ fl_X9_9) (fun _ h9 => h9) dX9_primeAt_5 ?_
    refine va_tlen (v := 4) hx hb hX.1.2 hS (by decide) dX9_primeAt_8 ?_
    refine lv_icmp_lt (tgt := 16) hx hb dX9_primeAt_9 (by decide) (fun c_2 => ?_) (fun c_2 => ?_)
    · have h := if_t c_2 h
      refine va_gets hx hb hX.1.1 hS hown (htU _ fl_X9_9) (fun _ h9 => h9) dX9_primeAt_16 ?_
      refine lv_iload_n hx hb dX9_primeAt_19 rfl (lv_at hl 0 rfl) ?_
      obtain ⟨hi_3, h⟩ := ix_at h
      refine va_ti (v := .int (sw_p4 x0.toNatClampNeg)) hx hb hX.1.2 hS hi_3 rfl dX9_primeAt_20 ?_
      exact sw_ri hx hb hr hlocks hS () (pr1 h) hP hD dX9_primeAt_21
    · have h := if_f c_2 h
      refine lv_iconst (v := 1) hx hb dX9_primeAt_12 (by decide) ?_
      refine lv_goto (tgt := 21) hx hb dX9_primeAt_13 (by decide) ?_
      exact sw_ri hx hb hr hlocks hS () (pr1 h) hP hD dX9_primeAt_21
theorem ms_X9_product : sw_MS yX9_product cX9_product 1 (Option.some Jvm.ClassFile.FieldType.int) 1 := ⟨st_X9_product, ini_X9, co_X9_product, by decide +kernel⟩
def F_X9_product (x0 : Int32) : Option (Int32) :=
 (if x0 < 0 then some 1 else (if x0 < 5 then ix x0 5 (some (sw_p5 x0.toNatClampNeg)) else some 1))
abbrev RM_X9_product : Room := ({ frames := 0, cells := 0, slots := 0, locals := 0 } : Room)
set_option maxHeartbeats 4000000 in
set_option maxRecDepth 100000 in
theorem c_X9_product (l : Launch) (G : va_G) (ca Z : Nat → Nat) (sz : Nat) (x0 : Int32) (res : Int32) (hF : F_X9_product x0 = some res) : Met l yX9_product (.code yX9_product cX9_product 1 (Option.some Jvm.ClassFile.FieldType.int) :: sw_U) RM_X9_product (va_Pc [.int x0] (sw_Pre G ca Z [] sz)) ((fun A => va_Qi (fun r (u : Unit) => res = r) (sw_Post G A (fun (u : Unit) => [])) A) (va_A [] sz)) 0 0 (va_A [] sz) := by
  refine sw_ofW (Qc := fun A => va_Qi (fun r (u : Unit) => res = r) (sw_Post G A (fun (u : Unit) => [])) A) (by decide) [(0, .int x0)] rfl (Nat.le_of_ble_eq_true rfl) ?_
  intro p e s m args below meth c ls A hx hb hr hml hown htU hlocks hnm hP hK hD hX hY hS hA hl
  have hown : s.vm.findClass RX9 = some m.cls := hown
  have Cx : sw_Cx p s m args c cX9_product 1 RX9 G ca Z A := ⟨⟨hx, hb, hml, hown, htU⟩, hK, hX, hY, hA⟩
  have h := hF
  unfold F_X9_product at h
  refine lv_iload_n hx hb dX9_product_0 rfl (lv_at hl 0 rfl) ?_
  refine lv_if_lt (tgt := 12) hx hb dX9_product_1 (by decide) (fun c_1 => ?_) (fun c_1 => ?_)
  · have h := if_t c_1 h
    refine lv_iconst (v := 1) hx hb dX9_product_12 (by decide) ?_
    refine lv_goto (tgt := 21) hx hb dX9_product_13 (by decide) ?_
    exact sw_ri hx hb hr hlocks hS () (pr1 h) hP hD dX9_product_21
  · have h := if_f c_1 h
    refine lv_iload_n hx hb dX9_product_4 rfl (lv_at hl 0 rfl) ?_
    refine va_gets hx hb hX.2.1.1 hS hown (htU _ fl_X9_15) (fun _ h9 => h9) dX9_product_5 ?_
    refine va_tlen (v := 5) hx hb hX.2.1.2 hS (by decide) dX9_product_8 ?_
    refine lv_icmp_lt (tgt := 16) hx hb dX9_product_9 (by decide) (fun c_2 => ?_) (fun c_2 => ?_)
    · have h := if_t c_2 h
      refine va_gets hx hb hX.2.1.1 hS hown (htU _ fl_X9_15) (fun _ h9 => h9) dX9_product_16 ?_
      refine lv_iload_n hx hb dX9_product_19 rfl (lv_at hl 0 rfl) ?_
      obtain ⟨hi_3, h⟩ := ix_at h
      refine va_ti (v := .int (sw_p5 x0.toNatClampNeg)) hx hb hX.2.1.2 hS hi_3 rfl dX9_product_20 ?_
      exact sw_ri hx hb hr hlocks hS () (pr1 h) hP hD dX9_product_21
    · have h := if_f c_2 h
      refine lv_iconst (v := 1) hx hb dX9_product_12 (by decide) ?_
      refine lv_goto (tgt := 21) hx hb dX9_product_13 (by decide) ?_
      exact sw_ri hx hb hr hlocks hS () (pr1 h) hP hD dX9_product_21
theorem ms_X9_isFree : sw_MS yX9_isFree cX9_isFree 2 (Option.some Jvm.ClassFile.FieldType.boolean) 2 := ⟨st_X9_isFree, ini_X9, co_X9_isFree, by decide +kernel⟩
def F_X9_isFree (x0 : Int32) (x1 : Int32) : Option (Bool) :=
 (F_X9_smallestPrimeOf x0 x1).bind (fun w_1 => (if w_1 = (-1) then some true else some false))
abbrev RM_X9_isFree : Room := ({ frames := 1, cells := 0, slots := 0, locals := 22 } : Room)
set_option maxHeartbeats 4000000 in
set_option maxRecDepth 100000 in
theorem c_X9_isFree (l : Launch) (G : va_G) (ca Z : Nat → Nat) (sz : Nat) (x0 : Int32) (x1 : Int32) (res : Bool) (hF : F_X9_isFree x0 x1 = some res) : Met l yX9_isFree (.code yX9_isFree cX9_isFree 2 (Option.some Jvm.ClassFile.FieldType.boolean) :: sw_U) RM_X9_isFree (va_Pc [.int x0, .int x1] (sw_Pre G ca Z [] sz)) ((fun A => va_Qi (fun r (u : Unit) => bI res = r) (sw_Post G A (fun (u : Unit) => [])) A) (va_A [] sz)) 0 0 (va_A [] sz) := by
  refine sw_ofW (Qc := fun A => va_Qi (fun r (u : Unit) => bI res = r) (sw_Post G A (fun (u : Unit) => [])) A) (by decide) [(0, .int x0), (1, .int x1)] rfl (Nat.le_of_ble_eq_true rfl) ?_
  intro p e s m args below meth c ls A hx hb hr hml hown htU hlocks hnm hP hK hD hX hY hS hA hl
  have hown : s.vm.findClass RX9 = some m.cls := hown
  have Cx : sw_Cx p s m args c cX9_isFree 2 RX9 G ca Z A := ⟨⟨hx, hb, hml, hown, htU⟩, hK, hX, hY, hA⟩
  have h := hF
  unfold F_X9_isFree at h
  refine lv_iload_n hx hb dX9_isFree_0 rfl (lv_at hl 0 rfl) ?_
  refine lv_iload_n hx hb dX9_isFree_1 rfl (lv_at hl 1 rfl) ?_
  obtain ⟨w_1, hg_2, h⟩ := bd_at h
  refine sw_ci (sw_runS (As := [.int x0, .int x1]) (rest := []) Cx hP hD hS ms_X9_smallestPrimeOf ml_X9_18 (c_X9_smallestPrimeOf l G ca Z s.heap.size x0 x1 w_1 hg_2) [] rfl rfl rfl rfl ⟨(Nat.le_of_ble_eq_true rfl), (Nat.le_of_ble_eq_true rfl)⟩ hl.1 rfl rfl (Nat.le_of_ble_eq_true rfl) dX9_isFree_2 ⟨(Nat.le_of_ble_eq_true rfl), (Nat.le_of_ble_eq_true rfl)⟩) hP hD hS hA [] [] [] rfl rfl rfl (by decide) (fun _ => rfl) rfl (fun r u H locs hw hP hD hS => ?_)
  subst hw
  have hP : va_P G vwCl [] H := hP
  have hD : va_D A [] := hD
  refine lv_iconst (v := (-1)) hx hb dX9_isFree_5 (by decide) ?_
  refine lv_icmp_ne (tgt := 13) hx hb dX9_isFree_6 (by decide) (fun c_3 => ?_) (fun c_3 => ?_)
  · have h := if_f c_3 h
    refine lv_iconst (v := 0) hx hb dX9_isFree_13 (by decide) ?_
    exact sw_rz hx hb hr rfl hlocks hS () (pb1 h) hP hD dX9_isFree_14
  · have h := if_t c_3 h
    refine lv_iconst (v := 1) hx hb dX9_isFree_9 (by decide) ?_
    refine lv_goto (tgt := 14) hx hb dX9_isFree_10 (by decide) ?_
    exact sw_rz hx hb hr rfl hlocks hS () (pb1 h) hP hD dX9_isFree_14
theorem ms_X9_isOnSpoke : sw_MS yX9_isOnSpoke cX9_isOnSpoke 3 (Option.some Jvm.ClassFile.FieldType.boolean) 2 := ⟨st_X9_isOnSpoke, ini_X9, co_X9_isOnSpoke, by decide +kernel⟩
def F_X9_isOnSpoke (x0 : Int32) (x1 : Int32) : Option (Bool) :=
 (F_X9_smallestPrimeOf x0 x1).bind (fun w_1 => (if w_1 = (-1) then some true else (if w_1 = x0 then some true else some false)))
abbrev RM_X9_isOnSpoke : Room := ({ frames := 1, cells := 0, slots := 0, locals := 22 } : Room)
set_option maxHeartbeats 4000000 in
set_option maxRecDepth 100000 in
theorem c_X9_isOnSpoke (l : Launch) (G : va_G) (ca Z : Nat → Nat) (sz : Nat) (x0 : Int32) (x1 : Int32) (res : Bool) (hF : F_X9_isOnSpoke x0 x1 = some res) : Met l yX9_isOnSpoke (.code yX9_isOnSpoke cX9_isOnSpoke 3 (Option.some Jvm.ClassFile.FieldType.boolean) :: sw_U) RM_X9_isOnSpoke (va_Pc [.int x0, .int x1] (sw_Pre G ca Z [] sz)) ((fun A => va_Qi (fun r (u : Unit) => bI res = r) (sw_Post G A (fun (u : Unit) => [])) A) (va_A [] sz)) 0 0 (va_A [] sz) := by
  refine sw_ofW (Qc := fun A => va_Qi (fun r (u : Unit) => bI res = r) (sw_Post G A (fun (u : Unit) => [])) A) (by decide) [(0, .int x0), (1, .int x1)] rfl (Nat.le_of_ble_eq_true rfl) ?_
  intro p e s m args below meth c ls A hx hb hr hml hown htU hlocks hnm hP hK hD hX hY hS hA hl
  have hown : s.vm.findClass RX9 = some m.cls := hown
  have Cx : sw_Cx p s m args c cX9_isOnSpoke 3 RX9 G ca Z A := ⟨⟨hx, hb, hml, hown, htU⟩, hK, hX, hY, hA⟩
  have h := hF
  unfold F_X9_isOnSpoke at h
  refine lv_iload_n hx hb dX9_isOnSpoke_0 rfl (lv_at hl 0 rfl) ?_
  refine lv_iload_n hx hb dX9_isOnSpoke_1 rfl (lv_at hl 1 rfl) ?_
  obtain ⟨w_1, hg_2, h⟩ := bd_at h
  refine sw_ci (sw_runS (As := [.int x0, .int x1]) (rest := []) Cx hP hD hS ms_X9_smallestPrimeOf ml_X9_18 (c_X9_smallestPrimeOf l G ca Z s.heap.size x0 x1 w_1 hg_2) [] rfl rfl rfl rfl ⟨(Nat.le_of_ble_eq_true rfl), (Nat.le_of_ble_eq_true rfl)⟩ hl.1 rfl rfl (Nat.le_of_ble_eq_true rfl) dX9_isOnSpoke_2 ⟨(Nat.le_of_ble_eq_true rfl), (Nat.le_of_ble_eq_true rfl)⟩) hP hD hS hA [] [] [] rfl rfl rfl (by decide) (fun _ => rfl) rfl (fun r u H locs hw hP hD hS => ?_)
  subst hw
  have hP : va_P G vwCl [] H := hP
  have hD : va_D A [] := hD
  refine lv_istore_n (lv' := [(2, .int w_1), (0, .int x0), (1, .int x1)]) hx hb dX9_isOnSpoke_5 rfl hl (by decide) rfl (fun ls hl => ?_)
  refine lv_iload_n hx hb dX9_isOnSpoke_6 rfl (lv_at hl 0 rfl) ?_
  refine lv_iconst (v := (-1)) hx hb dX9_isOnSpoke_7 (by decide) ?_
  refine lv_icmp_eq (tgt := 16) hx hb dX9_isOnSpoke_8 (by decide) (fun c_3 => ?_) (fun c_3 => ?_)
  · have h := if_t c_3 h
    refine lv_iconst (v := 1) hx hb dX9_isOnSpoke_16 (by decide) ?_
    refine lv_goto (tgt := 21) hx hb dX9_isOnSpoke_17 (by decide) ?_
    exact sw_rz hx hb hr rfl hlocks hS () (pb1 h) hP hD dX9_isOnSpoke_21
  · have h := if_f c_3 h
    refine lv_iload_n hx hb dX9_isOnSpoke_11 rfl (lv_at hl 0 rfl) ?_
    refine lv_iload_n hx hb dX9_isOnSpoke_12 rfl (lv_at hl 1 rfl) ?_
    refine lv_icmp_ne (tgt := 20) hx hb dX9_isOnSpoke_13 (by decide) (fun c_4 => ?_) (fun c_4 => ?_)
    · have h := if_f c_4 h
      refine lv_iconst (v := 0) hx hb dX9_isOnSpoke_20 (by decide) ?_
      exact sw_rz hx hb hr rfl hlocks hS () (pb1 h) hP hD dX9_isOnSpoke_21
    · have h := if_t c_4 h
      refine lv_iconst (v := 1) hx hb dX9_isOnSpoke_16 (by decide) ?_
      refine lv_goto (tgt := 21) hx hb dX9_isOnSpoke_17 (by decide) ?_
      exact sw_rz hx hb hr rfl hlocks hS () (pb1 h) hP hD dX9_isOnSpoke_21
theorem ms_X9_spokesUpTo : sw_MS yX9_spokesUpTo cX9_spokesUpTo 4 (Option.some Jvm.ClassFile.FieldType.int) 2 := ⟨st_X9_spokesUpTo, ini_X9, co_X9_spokesUpTo, by decide +kernel⟩
def B_X9_spokesUpTo_4 (x0 : Int32) (x1 : Int32) (k_4 : Int32 → Int32 → Option (Int32)) (x2 : Int32) (x3 : Int32) : Option (Int32) :=
 (if x0 < x3 then some x2 else (F_X9_isFree x3 x1).bind (fun w_2 => (if w_2 = true then nm (x2 + 1) (fun x2_6 => nm (x3 + 1) (fun x3_7 => k_4 x2_6 x3_7)) else nm (x3 + 1) (fun x3_5 => k_4 x2 x3_5))))
def F_X9_spokesUpTo (x0 : Int32) (x1 : Int32) : Option (Int32) :=
 fx (fun _ _ => none) (B_X9_spokesUpTo_4 x0 x1) FUEL 0 1
abbrev RM_X9_spokesUpTo : Room := ({ frames := 2, cells := 0, slots := 0, locals := 43 } : Room)
set_option maxHeartbeats 4000000 in
set_option maxRecDepth 100000 in
theorem c_X9_spokesUpTo (l : Launch) (G : va_G) (ca Z : Nat → Nat) (sz : Nat) (x0 : Int32) (x1 : Int32) (res : Int32) (hF : F_X9_spokesUpTo x0 x1 = some res) : Met l yX9_spokesUpTo (.code yX9_spokesUpTo cX9_spokesUpTo 4 (Option.some Jvm.ClassFile.FieldType.int) :: sw_U) RM_X9_spokesUpTo (va_Pc [.int x0, .int x1] (sw_Pre G ca Z [] sz)) ((fun A => va_Qi (fun r (u : Unit) => res = r) (sw_Post G A (fun (u : Unit) => [])) A) (va_A [] sz)) 0 0 (va_A [] sz) := by
  refine sw_ofW (Qc := fun A => va_Qi (fun r (u : Unit) => res = r) (sw_Post G A (fun (u : Unit) => [])) A) (by decide) [(0, .int x0), (1, .int x1)] rfl (Nat.le_of_ble_eq_true rfl) ?_
  intro p e s m args below meth c ls A hx hb hr hml hown htU hlocks hnm hP hK hD hX hY hS hA hl
  have hown : s.vm.findClass RX9 = some m.cls := hown
  have Cx : sw_Cx p s m args c cX9_spokesUpTo 4 RX9 G ca Z A := ⟨⟨hx, hb, hml, hown, htU⟩, hK, hX, hY, hA⟩
  have h := hF
  unfold F_X9_spokesUpTo at h
  have hL_4 : ∀ (n_4 : Nat) (x2 : Int32) (x3 : Int32) (ls : Array Slot) (H : Heap) (locs : List Loc), lv_has ls 4 [(0, .int x0), (1, .int x1), (2, .int x2), (3, .int x3)] → va_P G vwCl [] H → va_D A [] → va_S A s.heap H locs → fx (fun _ _ => none) (B_X9_spokesUpTo_4 x0 x1) n_4 x2 x3 = some res → W p l e RM_X9_spokesUpTo s m args below meth c H locs 0 0 (MQ below ((fun A => va_Qi (fun r (u : Unit) => res = r) (sw_Post G A (fun (u : Unit) => [])) A) A) args s 0 0 A) (F0 m 4 ls []) := by
    intro n_4
    induction n_4 with
    | zero => intro x2 x3 ls H locs hl hP hD hS h; exact no_at h
    | succ n_4 ih_4 =>
      intro x2 x3 ls H locs hl hP hD hS h
      rw [fx_s] at h
      unfold B_X9_spokesUpTo_4 at h
      refine lv_iload_n hx hb dX9_spokesUpTo_4 rfl (lv_at hl 3 rfl) ?_
      refine lv_iload_n hx hb dX9_spokesUpTo_5 rfl (lv_at hl 0 rfl) ?_
      refine lv_icmp_gt (tgt := 26) hx hb dX9_spokesUpTo_6 (by decide) (fun c_1 => ?_) (fun c_1 => ?_)
      · have h := if_t c_1 h
        refine lv_iload_n hx hb dX9_spokesUpTo_26 rfl (lv_at hl 2 rfl) ?_
        exact sw_ri hx hb hr hlocks hS () (pr1 h) hP hD dX9_spokesUpTo_27
      · have h := if_f c_1 h
        refine lv_iload_n hx hb dX9_spokesUpTo_9 rfl (lv_at hl 3 rfl) ?_
        refine lv_iload_n hx hb dX9_spokesUpTo_10 rfl (lv_at hl 1 rfl) ?_
        obtain ⟨w_2, hg_3, h⟩ := bd_at h
        refine sw_ci (sw_runS (As := [.int x3, .int x1]) (rest := []) Cx hP hD hS ms_X9_isFree ml_X9_22 (c_X9_isFree l G ca Z H.size x3 x1 w_2 hg_3) [] rfl rfl rfl rfl ⟨(Nat.le_of_ble_eq_true rfl), (Nat.le_of_ble_eq_true rfl)⟩ hl.1 rfl rfl (Nat.le_of_ble_eq_true rfl) dX9_spokesUpTo_11 ⟨(Nat.le_of_ble_eq_true rfl), (Nat.le_of_ble_eq_true rfl)⟩) hP hD hS hA [] [] [] rfl rfl rfl (by decide) (fun _ => rfl) rfl (fun r u H locs hw hP hD hS => ?_)
        subst hw
        have hP : va_P G vwCl [] H := hP
        have hD : va_D A [] := hD
        refine lv_if_eq (tgt := 20) hx hb dX9_spokesUpTo_14 (by decide) (fun c_4 => ?_) (fun c_4 => ?_)
        · have c_4 := bI_z.mp c_4
          have h := if_f c_4 h
          obtain ⟨x3_5, e_x3_5⟩ : ∃ y : Int32, y = x3 + 1 := ⟨_, rfl⟩
          refine lv_iinc (v := x3_5) (lv' := [(3, .int x3_5), (0, .int x0), (1, .int x1), (2, .int x2)]) hx hb dX9_spokesUpTo_20 hl (k := 3) rfl (by rw [e_x3_5]; rfl) (by decide) rfl (fun ls hl => ?_)
          have h := nm_at e_x3_5 h
          refine lv_goto (tgt := 4) hx hb dX9_spokesUpTo_23 (by decide) ?_
          exact ih_4 x2 x3_5 ls H _ (lv_sub hl [1, 2, 3, 0] rfl) hP hD hS h
        · have c_4 := bI_nz.mp c_4
          have h := if_t c_4 h
          obtain ⟨x2_6, e_x2_6⟩ : ∃ y : Int32, y = x2 + 1 := ⟨_, rfl⟩
          refine lv_iinc (v := x2_6) (lv' := [(2, .int x2_6), (0, .int x0), (1, .int x1), (3, .int x3)]) hx hb dX9_spokesUpTo_17 hl (k := 2) rfl (by rw [e_x2_6]; rfl) (by decide) rfl (fun ls hl => ?_)
          have h := nm_at e_x2_6 h
          obtain ⟨x3_7, e_x3_7⟩ : ∃ y : Int32, y = x3 + 1 := ⟨_, rfl⟩
          refine lv_iinc (v := x3_7) (lv' := [(3, .int x3_7), (2, .int x2_6), (0, .int x0), (1, .int x1)]) hx hb dX9_spokesUpTo_20 hl (k := 3) rfl (by rw [e_x3_7]; rfl) (by decide) rfl (fun ls hl => ?_)
          have h := nm_at e_x3_7 h
          refine lv_goto (tgt := 4) hx hb dX9_spokesUpTo_23 (by decide) ?_
          exact ih_4 x2_6 x3_7 ls H _ (lv_sub hl [2, 3, 1, 0] rfl) hP hD hS h
  refine lv_iconst (v := 0) hx hb dX9_spokesUpTo_0 (by decide) ?_
  refine lv_istore_n (lv' := [(2, .int 0), (0, .int x0), (1, .int x1)]) hx hb dX9_spokesUpTo_1 rfl hl (by decide) rfl (fun ls hl => ?_)
  refine lv_iconst (v := 1) hx hb dX9_spokesUpTo_2 (by decide) ?_
  refine lv_istore_n (lv' := [(3, .int 1), (2, .int 0), (0, .int x0), (1, .int x1)]) hx hb dX9_spokesUpTo_3 rfl hl (by decide) rfl (fun ls hl => ?_)
  exact hL_4 FUEL 0 1 ls s.heap _ (lv_sub hl [2, 3, 1, 0] rfl) hP hD hS h
theorem ms_X9_strikeAbove : sw_MS yX9_strikeAbove cX9_strikeAbove 6 (Option.some Jvm.ClassFile.FieldType.int) 3 := ⟨st_X9_strikeAbove, ini_X9, co_X9_strikeAbove, by decide +kernel⟩
def B_X9_strikeAbove_30 (x0 : Int32) (x1 : Int32) (x2 : Int32) (k_30 : Int32 → Int32 → Int32 → Option (Int32)) (x3 : Int32) (x4 : Int32) (x5 : Int32) : Option (Int32) :=
 (if x4 ≤ x5 then some (-1) else (F_X9_isOnSpoke x3 x2).bind (fun w_7 => (if w_7 = true then some x3 else nm ((x3 + x1)) (fun x3_10 => nm (x5 + 1) (fun x5_11 => k_30 x3_10 x4 x5_11)))))
def F_X9_strikeAbove (x0 : Int32) (x1 : Int32) (x2 : Int32) : Option (Int32) :=
 (if 2 ≤ x1 then nz x1 (nm ((if (x1 * x1) < (((x0 / x1) + 1) * x1) then (((x0 / x1) + 1) * x1) else (x1 * x1))) (fun x3_3 => (F_X9_product x2).bind (fun w_4 => fx (fun _ _ _ => none) (B_X9_strikeAbove_30 x0 x1 x2) FUEL x3_3 w_4 0))) else some (-1))
abbrev RM_X9_strikeAbove : Room := ({ frames := 2, cells := 0, slots := 0, locals := 44 } : Room)
set_option maxHeartbeats 4000000 in
set_option maxRecDepth 100000 in
theorem c_X9_strikeAbove (l : Launch) (G : va_G) (ca Z : Nat → Nat) (sz : Nat) (x0 : Int32) (x1 : Int32) (x2 : Int32) (res : Int32) (hF : F_X9_strikeAbove x0 x1 x2 = some res) : Met l yX9_strikeAbove (.code yX9_strikeAbove cX9_strikeAbove 6 (Option.some Jvm.ClassFile.FieldType.int) :: sw_U) RM_X9_strikeAbove (va_Pc [.int x0, .int x1, .int x2] (sw_Pre G ca Z [] sz)) ((fun A => va_Qi (fun r (u : Unit) => res = r) (sw_Post G A (fun (u : Unit) => [])) A) (va_A [] sz)) 0 0 (va_A [] sz) := by
  refine sw_ofW (Qc := fun A => va_Qi (fun r (u : Unit) => res = r) (sw_Post G A (fun (u : Unit) => [])) A) (by decide) [(0, .int x0), (1, .int x1), (2, .int x2)] rfl (Nat.le_of_ble_eq_true rfl) ?_
  intro p e s m args below meth c ls A hx hb hr hml hown htU hlocks hnm hP hK hD hX hY hS hA hl
  have hown : s.vm.findClass RX9 = some m.cls := hown
  have Cx : sw_Cx p s m args c cX9_strikeAbove 6 RX9 G ca Z A := ⟨⟨hx, hb, hml, hown, htU⟩, hK, hX, hY, hA⟩
  have h := hF
  unfold F_X9_strikeAbove at h
  have hL_30 : ∀ (n_30 : Nat) (x3 : Int32) (x4 : Int32) (x5 : Int32) (ls : Array Slot) (H : Heap) (locs : List Loc), lv_has ls 6 [(1, .int x1), (2, .int x2), (3, .int x3), (4, .int x4), (5, .int x5)] → va_P G vwCl [] H → va_D A [] → va_S A s.heap H locs → fx (fun _ _ _ => none) (B_X9_strikeAbove_30 x0 x1 x2) n_30 x3 x4 x5 = some res → W p l e RM_X9_strikeAbove s m args below meth c H locs 0 0 (MQ below ((fun A => va_Qi (fun r (u : Unit) => res = r) (sw_Post G A (fun (u : Unit) => [])) A) A) args s 0 0 A) (F0 m 30 ls []) := by
    intro n_30
    induction n_30 with
    | zero => intro x3 x4 x5 ls H locs hl hP hD hS h; exact no_at h
    | succ n_30 ih_30 =>
      intro x3 x4 x5 ls H locs hl hP hD hS h
      rw [fx_s] at h
      unfold B_X9_strikeAbove_30 at h
      refine lv_iload hx hb dX9_strikeAbove_30 (lv_at hl 4 rfl) ?_
      refine lv_iload hx hb dX9_strikeAbove_32 (lv_at hl 3 rfl) ?_
      refine lv_icmp_ge (tgt := 57) hx hb dX9_strikeAbove_34 (by decide) (fun c_6 => ?_) (fun c_6 => ?_)
      · have h := if_t c_6 h
        refine lv_iconst (v := (-1)) hx hb dX9_strikeAbove_57 (by decide) ?_
        exact sw_ri hx hb hr hlocks hS () (pr1 h) hP hD dX9_strikeAbove_58
      · have h := if_f c_6 h
        refine lv_iload_n hx hb dX9_strikeAbove_37 rfl (lv_at hl 2 rfl) ?_
        refine lv_iload_n hx hb dX9_strikeAbove_38 rfl (lv_at hl 1 rfl) ?_
        obtain ⟨w_7, hg_8, h⟩ := bd_at h
        refine sw_ci (sw_runS (As := [.int x3, .int x2]) (rest := []) Cx hP hD hS ms_X9_isOnSpoke ml_X9_35 (c_X9_isOnSpoke l G ca Z H.size x3 x2 w_7 hg_8) [] rfl rfl rfl rfl ⟨(Nat.le_of_ble_eq_true rfl), (Nat.le_of_ble_eq_true rfl)⟩ hl.1 rfl rfl (Nat.le_of_ble_eq_true rfl) dX9_strikeAbove_39 ⟨(Nat.le_of_ble_eq_true rfl), (Nat.le_of_ble_eq_true rfl)⟩) hP hD hS hA [] [] [] rfl rfl rfl (by decide) (fun _ => rfl) rfl (fun r u H locs hw hP hD hS => ?_)
        subst hw
        have hP : va_P G vwCl [] H := hP
        have hD : va_D A [] := hD
        refine lv_if_eq (tgt := 47) hx hb dX9_strikeAbove_42 (by decide) (fun c_9 => ?_) (fun c_9 => ?_)
        · have c_9 := bI_z.mp c_9
          have h := if_f c_9 h
          refine lv_iload_n hx hb dX9_strikeAbove_47 rfl (lv_at hl 2 rfl) ?_
          refine lv_iload_n hx hb dX9_strikeAbove_48 rfl (lv_at hl 0 rfl) ?_
          refine lv_iadd hx hb dX9_strikeAbove_49 ?_
          refine lv_topi (fun x3_10 e_x3_10 => ?_)
          have h := nm_at e_x3_10 h
          refine lv_istore_n (lv' := [(3, .int x3_10), (1, .int x1), (2, .int x2), (4, .int x4), (5, .int x5)]) hx hb dX9_strikeAbove_50 rfl hl (by decide) rfl (fun ls hl => ?_)
          obtain ⟨x5_11, e_x5_11⟩ : ∃ y : Int32, y = x5 + 1 := ⟨_, rfl⟩
          refine lv_iinc (v := x5_11) (lv' := [(5, .int x5_11), (3, .int x3_10), (1, .int x1), (2, .int x2), (4, .int x4)]) hx hb dX9_strikeAbove_51 hl (k := 4) rfl (by rw [e_x5_11]; rfl) (by decide) rfl (fun ls hl => ?_)
          have h := nm_at e_x5_11 h
          refine lv_goto (tgt := 30) hx hb dX9_strikeAbove_54 (by decide) ?_
          exact ih_30 x3_10 x4 x5_11 ls H _ (lv_sub hl [2, 3, 1, 4, 0] rfl) hP hD hS h
        · have c_9 := bI_nz.mp c_9
          have h := if_t c_9 h
          refine lv_iload_n hx hb dX9_strikeAbove_45 rfl (lv_at hl 2 rfl) ?_
          exact sw_ri hx hb hr hlocks hS () (pr1 h) hP hD dX9_strikeAbove_46
  refine lv_iload_n hx hb dX9_strikeAbove_0 rfl (lv_at hl 1 rfl) ?_
  refine lv_iconst (v := 2) hx hb dX9_strikeAbove_1 (by decide) ?_
  refine lv_icmp_ge (tgt := 7) hx hb dX9_strikeAbove_2 (by decide) (fun c_1 => ?_) (fun c_1 => ?_)
  · have h := if_t c_1 h
    refine lv_iload_n hx hb dX9_strikeAbove_7 rfl (lv_at hl 1 rfl) ?_
    refine lv_iload_n hx hb dX9_strikeAbove_8 rfl (lv_at hl 1 rfl) ?_
    refine lv_imul hx hb dX9_strikeAbove_9 ?_
    refine lv_iload_n hx hb dX9_strikeAbove_10 rfl (lv_at hl 0 rfl) ?_
    refine lv_iload_n hx hb dX9_strikeAbove_11 rfl (lv_at hl 1 rfl) ?_
    obtain ⟨hz_2, h⟩ := nz_at h
    refine lv_idiv hx hb dX9_strikeAbove_12 hz_2 ?_
    refine lv_iconst (v := 1) hx hb dX9_strikeAbove_13 (by decide) ?_
    refine lv_iadd hx hb dX9_strikeAbove_14 ?_
    refine lv_iload_n hx hb dX9_strikeAbove_15 rfl (lv_at hl 1 rfl) ?_
    refine lv_imul hx hb dX9_strikeAbove_16 ?_
    refine va_mmax hx hb (hml.trans hl.1.symm) hown (htU _ mm_X9_26) (htU _ mm_st_max) (htU _ mm_ini) (htU _ mm_co_max) (Nat.le_of_ble_eq_true rfl) (Nat.le_of_ble_eq_true rfl) (Nat.le_of_ble_eq_true rfl) (Nat.le_of_ble_eq_true rfl) dX9_strikeAbove_17 ?_
    refine lv_topi (fun x3_3 e_x3_3 => ?_)
    have h := nm_at e_x3_3 h
    refine lv_istore_n (lv' := [(3, .int x3_3), (0, .int x0), (1, .int x1), (2, .int x2)]) hx hb dX9_strikeAbove_20 rfl hl (by decide) rfl (fun ls hl => ?_)
    refine lv_iload_n hx hb dX9_strikeAbove_21 rfl (lv_at hl 3 rfl) ?_
    obtain ⟨w_4, hg_5, h⟩ := bd_at h
    refine sw_ci (sw_runS (As := [.int x2]) (rest := []) Cx hP hD hS ms_X9_product ml_X9_31 (c_X9_product l G ca Z s.heap.size x2 w_4 hg_5) [] rfl rfl rfl rfl ⟨(Nat.le_of_ble_eq_true rfl), (Nat.le_of_ble_eq_true rfl)⟩ hl.1 rfl rfl (Nat.le_of_ble_eq_true rfl) dX9_strikeAbove_22 ⟨(Nat.le_of_ble_eq_true rfl), (Nat.le_of_ble_eq_true rfl)⟩) hP hD hS hA [] [] [] rfl rfl rfl (by decide) (fun _ => rfl) rfl (fun r u H locs hw hP hD hS => ?_)
    subst hw
    have hP : va_P G vwCl [] H := hP
    have hD : va_D A [] := hD
    refine lv_istore (lv' := [(4, .int w_4), (3, .int x3_3), (0, .int x0), (1, .int x1), (2, .int x2)]) hx hb dX9_strikeAbove_25 hl (by decide) rfl (fun ls hl => ?_)
    refine lv_iconst (v := 0) hx hb dX9_strikeAbove_27 (by decide) ?_
    refine lv_istore (lv' := [(5, .int 0), (4, .int w_4), (3, .int x3_3), (0, .int x0), (1, .int x1), (2, .int x2)]) hx hb dX9_strikeAbove_28 hl (by decide) rfl (fun ls hl => ?_)
    exact hL_30 FUEL x3_3 w_4 0 ls H _ (lv_sub hl [4, 5, 2, 1, 0] rfl) hP hD hS h
  · have h := if_f c_1 h
    refine lv_iconst (v := (-1)) hx hb dX9_strikeAbove_5 (by decide) ?_
    exact sw_ri hx hb hr hlocks hS () (pr1 h) hP hD dX9_strikeAbove_6
theorem ms_X9_isPrime : sw_MS yX9_isPrime cX9_isPrime 2 (Option.some Jvm.ClassFile.FieldType.boolean) 1 := ⟨st_X9_isPrime, ini_X9, co_X9_isPrime, by decide +kernel⟩
def B_X9_isPrime_2 (x0 : Int32) (k_2 : Int32 → Option (Bool)) (x1 : Int32) : Option (Bool) :=
 (if 4801 < x1 then (if x0 < 2 then some false else some true) else (if x0 < (x1 * x1) then (if x0 < 2 then some false else some true) else nz x1 ((if (x0 - x0 / x1 * x1) = 0 then some false else nm (x1 + 1) (fun x1_7 => k_2 x1_7)))))
def F_X9_isPrime (x0 : Int32) : Option (Bool) :=
 fx (fun _ => none) (B_X9_isPrime_2 x0) FUEL 2
abbrev RM_X9_isPrime : Room := ({ frames := 0, cells := 0, slots := 0, locals := 0 } : Room)
set_option maxHeartbeats 4000000 in
set_option maxRecDepth 100000 in
theorem c_X9_isPrime (l : Launch) (G : va_G) (ca Z : Nat → Nat) (sz : Nat) (x0 : Int32) (res : Bool) (hF : F_X9_isPrime x0 = some res) : Met l yX9_isPrime (.code yX9_isPrime cX9_isPrime 2 (Option.some Jvm.ClassFile.FieldType.boolean) :: sw_U) RM_X9_isPrime (va_Pc [.int x0] (sw_Pre G ca Z [] sz)) ((fun A => va_Qi (fun r (u : Unit) => bI res = r) (sw_Post G A (fun (u : Unit) => [])) A) (va_A [] sz)) 0 0 (va_A [] sz) := by
  refine sw_ofW (Qc := fun A => va_Qi (fun r (u : Unit) => bI res = r) (sw_Post G A (fun (u : Unit) => [])) A) (by decide) [(0, .int x0)] rfl (Nat.le_of_ble_eq_true rfl) ?_
  intro p e s m args below meth c ls A hx hb hr hml hown htU hlocks hnm hP hK hD hX hY hS hA hl
  have hown : s.vm.findClass RX9 = some m.cls := hown
  have Cx : sw_Cx p s m args c cX9_isPrime 2 RX9 G ca Z A := ⟨⟨hx, hb, hml, hown, htU⟩, hK, hX, hY, hA⟩
  have h := hF
  unfold F_X9_isPrime at h
  have hL_2 : ∀ (n_2 : Nat) (x1 : Int32) (ls : Array Slot) (H : Heap) (locs : List Loc), lv_has ls 2 [(0, .int x0), (1, .int x1)] → va_P G vwCl [] H → va_D A [] → va_S A s.heap H locs → fx (fun _ => none) (B_X9_isPrime_2 x0) n_2 x1 = some res → W p l e RM_X9_isPrime s m args below meth c H locs 0 0 (MQ below ((fun A => va_Qi (fun r (u : Unit) => bI res = r) (sw_Post G A (fun (u : Unit) => [])) A) A) args s 0 0 A) (F0 m 2 ls []) := by
    intro n_2
    induction n_2 with
    | zero => intro x1 ls H locs hl hP hD hS h; exact no_at h
    | succ n_2 ih_2 =>
      intro x1 ls H locs hl hP hD hS h
      rw [fx_s] at h
      unfold B_X9_isPrime_2 at h
      refine lv_iload_n hx hb dX9_isPrime_2 rfl (lv_at hl 1 rfl) ?_
      refine lv_sipush (v := 4801) hx hb dX9_isPrime_3 (by decide) ?_
      refine lv_icmp_gt (tgt := 30) hx hb dX9_isPrime_6 (by decide) (fun c_1 => ?_) (fun c_1 => ?_)
      · have h := if_t c_1 h
        refine lv_iload_n hx hb dX9_isPrime_30 rfl (lv_at hl 0 rfl) ?_
        refine lv_iconst (v := 2) hx hb dX9_isPrime_31 (by decide) ?_
        refine lv_icmp_lt (tgt := 39) hx hb dX9_isPrime_32 (by decide) (fun c_2 => ?_) (fun c_2 => ?_)
        · have h := if_t c_2 h
          refine lv_iconst (v := 0) hx hb dX9_isPrime_39 (by decide) ?_
          exact sw_rz hx hb hr rfl hlocks hS () (pb1 h) hP hD dX9_isPrime_40
        · have h := if_f c_2 h
          refine lv_iconst (v := 1) hx hb dX9_isPrime_35 (by decide) ?_
          refine lv_goto (tgt := 40) hx hb dX9_isPrime_36 (by decide) ?_
          exact sw_rz hx hb hr rfl hlocks hS () (pb1 h) hP hD dX9_isPrime_40
      · have h := if_f c_1 h
        refine lv_iload_n hx hb dX9_isPrime_9 rfl (lv_at hl 1 rfl) ?_
        refine lv_iload_n hx hb dX9_isPrime_10 rfl (lv_at hl 1 rfl) ?_
        refine lv_imul hx hb dX9_isPrime_11 ?_
        refine lv_iload_n hx hb dX9_isPrime_12 rfl (lv_at hl 0 rfl) ?_
        refine lv_icmp_gt (tgt := 30) hx hb dX9_isPrime_13 (by decide) (fun c_3 => ?_) (fun c_3 => ?_)
        · have h := if_t c_3 h
          refine lv_iload_n hx hb dX9_isPrime_30 rfl (lv_at hl 0 rfl) ?_
          refine lv_iconst (v := 2) hx hb dX9_isPrime_31 (by decide) ?_
          refine lv_icmp_lt (tgt := 39) hx hb dX9_isPrime_32 (by decide) (fun c_4 => ?_) (fun c_4 => ?_)
          · have h := if_t c_4 h
            refine lv_iconst (v := 0) hx hb dX9_isPrime_39 (by decide) ?_
            exact sw_rz hx hb hr rfl hlocks hS () (pb1 h) hP hD dX9_isPrime_40
          · have h := if_f c_4 h
            refine lv_iconst (v := 1) hx hb dX9_isPrime_35 (by decide) ?_
            refine lv_goto (tgt := 40) hx hb dX9_isPrime_36 (by decide) ?_
            exact sw_rz hx hb hr rfl hlocks hS () (pb1 h) hP hD dX9_isPrime_40
        · have h := if_f c_3 h
          refine lv_iload_n hx hb dX9_isPrime_16 rfl (lv_at hl 0 rfl) ?_
          refine lv_iload_n hx hb dX9_isPrime_17 rfl (lv_at hl 1 rfl) ?_
          obtain ⟨hz_5, h⟩ := nz_at h
          refine lv_irem hx hb dX9_isPrime_18 hz_5 ?_
          refine lv_if_ne (tgt := 24) hx hb dX9_isPrime_19 (by decide) (fun c_6 => ?_) (fun c_6 => ?_)
          · have h := if_f c_6 h
            obtain ⟨x1_7, e_x1_7⟩ : ∃ y : Int32, y = x1 + 1 := ⟨_, rfl⟩
            refine lv_iinc (v := x1_7) (lv' := [(1, .int x1_7), (0, .int x0)]) hx hb dX9_isPrime_24 hl (k := 1) rfl (by rw [e_x1_7]; rfl) (by decide) rfl (fun ls hl => ?_)
            have h := nm_at e_x1_7 h
            refine lv_goto (tgt := 2) hx hb dX9_isPrime_27 (by decide) ?_
            exact ih_2 x1_7 ls H _ (lv_sub hl [1, 0] rfl) hP hD hS h
          · have h := if_t c_6 h
            refine lv_iconst (v := 0) hx hb dX9_isPrime_22 (by decide) ?_
            exact sw_rz hx hb hr rfl hlocks hS () (pb1 h) hP hD dX9_isPrime_23
  refine lv_iconst (v := 2) hx hb dX9_isPrime_0 (by decide) ?_
  refine lv_istore_n (lv' := [(1, .int 2), (0, .int x0)]) hx hb dX9_isPrime_1 rfl hl (by decide) rfl (fun ls hl => ?_)
  exact hL_2 FUEL 2 ls s.heap _ (lv_sub hl [1, 0] rfl) hP hD hS h
