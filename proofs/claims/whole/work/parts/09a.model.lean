/-! ===== StrikeWheelsModel.copy: rows of 45 ===== -/
theorem ms_X11_copy : sw_MS yX11_copy cX11_copy 4 (Option.none : Option Jvm.ClassFile.FieldType) 4 := ⟨st_X11_copy, ini_X11, co_X11_copy, by decide +kernel⟩
def F_X11_copy (f : Nat → Int32) (i : Int32) (g : Nat → Int32) (j : Int32) (n0 n1 : Nat) : Option (Nat → Int32) :=
  cp (45 * i) (45 * j) 45 n0 n1 (some (va_cpy f g (45 * i).toNatClampNeg (45 * j).toNatClampNeg (45 : Int32).toNatClampNeg))
abbrev RM_X11_copy : Room := ({ frames := 1, cells := 0, slots := 0, locals := 40 } : Room)
set_option maxHeartbeats 4000000 in
set_option maxRecDepth 100000 in
theorem c_X11_copy (l : Launch) (G : va_G) (ca Z : Nat → Nat) (q_a0 q_a2 sz n0 n1 : Nat) (f g : Nat → Int32) (x1 x3 : Int32) (res : Nat → Int32) (hF : F_X11_copy f x1 g x3 n0 n1 = some res) : Met l yX11_copy (.code yX11_copy cX11_copy 4 (Option.none : Option Jvm.ClassFile.FieldType) :: sw_U) RM_X11_copy (va_Pc [.ref q_a0, .int x1, .ref q_a2, .int x3] (sw_Pre G ca Z [(q_a0, .inl (ca 0, n0, .inl f)), (q_a2, .inl (ca 0, n1, .inl g))] sz)) ((fun A => va_Qv (fun (u : Nat → Int32) => res = u) (sw_Post G A (fun (u : Nat → Int32) => [(q_a0, .inl (ca 0, n0, .inl f)), (q_a2, .inl (ca 0, n1, .inl u))])) A) (va_A [(q_a0, .inl (ca 0, n0, .inl f)), (q_a2, .inl (ca 0, n1, .inl g))] sz)) 0 0 (va_A [(q_a0, .inl (ca 0, n0, .inl f)), (q_a2, .inl (ca 0, n1, .inl g))] sz) := by
  refine sw_ofW (Qc := fun A => va_Qv (fun (u : Nat → Int32) => res = u) (sw_Post G A (fun (u : Nat → Int32) => [(q_a0, .inl (ca 0, n0, .inl f)), (q_a2, .inl (ca 0, n1, .inl u))])) A) (by decide) [(0, .ref q_a0), (1, .int x1), (2, .ref q_a2), (3, .int x3)] rfl (Nat.le_of_ble_eq_true rfl) ?_
  intro p e s m args below meth c ls A hx hb hr hml hown htU hlocks hnm hP hK hD hX hY hS hA hl
  have hown : s.vm.findClass RX11 = some m.cls := hown
  have h := hF
  unfold F_X11_copy at h
  obtain ⟨hc, h⟩ := cp_at h
  refine lv_aload_n hx hb dX11_copy_0 rfl (lv_at hl 0 rfl) ?_
  refine lv_bipush (v := 45) hx hb dX11_copy_1 (by decide) ?_
  refine lv_iload_n hx hb dX11_copy_3 rfl (lv_at hl 1 rfl) ?_
  refine lv_imul hx hb dX11_copy_4 ?_
  refine lv_aload_n hx hb dX11_copy_5 rfl (lv_at hl 2 rfl) ?_
  refine lv_bipush (v := 45) hx hb dX11_copy_6 (by decide) ?_
  refine lv_iload_n hx hb dX11_copy_8 rfl (lv_at hl 3 rfl) ?_
  refine lv_imul hx hb dX11_copy_9 ?_
  refine lv_bipush (v := 45) hx hb dX11_copy_10 (by decide) ?_
  refine va_copyi hx hb (hml.trans hl.1.symm) hown (htU _ ac_X11_235) (htU _ ac_nat) (htU _ ac_st) (htU _ ac_ini) hK hP hD hS 0 1 0 0 rfl rfl rfl rfl rfl hc.1 hc.2.1 hc.2.2.1 hc.2.2.2.1 hc.2.2.2.2 (fun _ _ => rfl) (Nat.le_of_ble_eq_true rfl) (Nat.le_of_ble_eq_true rfl) dX11_copy_12 (fun H locs hP hD hS => ?_)
  exact sw_rv hx hb hr hlocks hS _ (pr1 h) hP hD dX11_copy_15
set_option maxHeartbeats 4000000 in
set_option maxRecDepth 100000 in
theorem c_X11_copy1 (l : Launch) (G : va_G) (ca Z : Nat → Nat) (q_a0 sz n0 : Nat) (f : Nat → Int32) (x1 x3 : Int32) (res : Nat → Int32) (hF : F_X11_copy f x1 f x3 n0 n0 = some res) : Met l yX11_copy (.code yX11_copy cX11_copy 4 (Option.none : Option Jvm.ClassFile.FieldType) :: sw_U) RM_X11_copy (va_Pc [.ref q_a0, .int x1, .ref q_a0, .int x3] (sw_Pre G ca Z [(q_a0, .inl (ca 0, n0, .inl f))] sz)) ((fun A => va_Qv (fun (u : Nat → Int32) => res = u) (sw_Post G A (fun (u : Nat → Int32) => [(q_a0, .inl (ca 0, n0, .inl u))])) A) (va_A [(q_a0, .inl (ca 0, n0, .inl f))] sz)) 0 0 (va_A [(q_a0, .inl (ca 0, n0, .inl f))] sz) := by
  refine sw_ofW (Qc := fun A => va_Qv (fun (u : Nat → Int32) => res = u) (sw_Post G A (fun (u : Nat → Int32) => [(q_a0, .inl (ca 0, n0, .inl u))])) A) (by decide) [(0, .ref q_a0), (1, .int x1), (2, .ref q_a0), (3, .int x3)] rfl (Nat.le_of_ble_eq_true rfl) ?_
  intro p e s m args below meth c ls A hx hb hr hml hown htU hlocks hnm hP hK hD hX hY hS hA hl
  have hown : s.vm.findClass RX11 = some m.cls := hown
  have h := hF
  unfold F_X11_copy at h
  obtain ⟨hc, h⟩ := cp_at h
  refine lv_aload_n hx hb dX11_copy_0 rfl (lv_at hl 0 rfl) ?_
  refine lv_bipush (v := 45) hx hb dX11_copy_1 (by decide) ?_
  refine lv_iload_n hx hb dX11_copy_3 rfl (lv_at hl 1 rfl) ?_
  refine lv_imul hx hb dX11_copy_4 ?_
  refine lv_aload_n hx hb dX11_copy_5 rfl (lv_at hl 2 rfl) ?_
  refine lv_bipush (v := 45) hx hb dX11_copy_6 (by decide) ?_
  refine lv_iload_n hx hb dX11_copy_8 rfl (lv_at hl 3 rfl) ?_
  refine lv_imul hx hb dX11_copy_9 ?_
  refine lv_bipush (v := 45) hx hb dX11_copy_10 (by decide) ?_
  refine va_copyi hx hb (hml.trans hl.1.symm) hown (htU _ ac_X11_235) (htU _ ac_nat) (htU _ ac_st) (htU _ ac_ini) hK hP hD hS 0 0 0 0 rfl rfl rfl rfl rfl hc.1 hc.2.1 hc.2.2.1 hc.2.2.2.1 hc.2.2.2.2 (fun _ _ => rfl) (Nat.le_of_ble_eq_true rfl) (Nat.le_of_ble_eq_true rfl) dX11_copy_12 (fun H locs hP hD hS => ?_)
  exact sw_rv hx hb hr hlocks hS _ (pr1 h) hP hD dX11_copy_15
theorem mv_X11_thrown : sw_MV yX11_thrown RX11 cX11_thrown 1 (Option.some Jvm.ClassFile.FieldType.int) 0 := ⟨im_X11_thrown, se_X11_thrown, ini_X11, co_X11_thrown, by decide +kernel⟩
def F_X11_thrown (t_thrown : Int32) : Option (Int32) :=
 some t_thrown
abbrev RM_X11_thrown : Room := ({ frames := 0, cells := 0, slots := 0, locals := 0 } : Room)
set_option maxHeartbeats 4000000 in
set_option maxRecDepth 100000 in
theorem c_X11_thrown (l : Launch) (G : va_G) (ca Z : Nat → Nat) (q_t : Nat) (z_t_now : Value) (z_t_draft : Value) (z_t_kept : Value) (z_t_snapshot : Value) (z_t_history : Value) (z_t_accounts : Value) (z_t_wheelPrimes : Value) (z_t_row : Value) (z_t_undoCount : Value) (z_t_hasSnapshot : Value) (z_t_owner : Value) (z_t_times : Value) (z_t_end : Value) (z_t_ownerD : Value) (z_t_formatted : Value) (z_t_formattedLength : Value) (z_t_buffer : Value) (z_t_bufferLength : Value) (z_t_limit : Value) (z_t_nextByte : Value) (z_t_beginsAt : Value) (z_t_token : Value) (z_t_error : Value) (z_t_errorAt : Value) (z_t_errorPosition : Value) (z_t_nested : Value) (z_t_orders : Value) (z_t_orderWords : Value) (z_t_orderCount : Value) (sz : Nat) (t_thrown : Int32) (res : Int32) (hF : F_X11_thrown t_thrown = some res) : Met l yX11_thrown (.code yX11_thrown cX11_thrown 1 (Option.some Jvm.ClassFile.FieldType.int) :: sw_U) RM_X11_thrown (va_Pc [.ref q_t] (sw_Pre G ca Z [(q_t, .inr (8, [z_t_now, z_t_draft, z_t_kept, z_t_snapshot, z_t_history, z_t_accounts, z_t_wheelPrimes, z_t_row, z_t_undoCount, .int t_thrown, z_t_hasSnapshot, z_t_owner, z_t_times, z_t_end, z_t_ownerD, z_t_formatted, z_t_formattedLength, z_t_buffer, z_t_bufferLength, z_t_limit, z_t_nextByte, z_t_beginsAt, z_t_token, z_t_error, z_t_errorAt, z_t_errorPosition, z_t_nested, z_t_orders, z_t_orderWords, z_t_orderCount]))] sz)) ((fun A => va_Qi (fun r (u : Unit) => res = r) (sw_Post G A (fun (u : Unit) => [(q_t, .inr (8, [z_t_now, z_t_draft, z_t_kept, z_t_snapshot, z_t_history, z_t_accounts, z_t_wheelPrimes, z_t_row, z_t_undoCount, .int t_thrown, z_t_hasSnapshot, z_t_owner, z_t_times, z_t_end, z_t_ownerD, z_t_formatted, z_t_formattedLength, z_t_buffer, z_t_bufferLength, z_t_limit, z_t_nextByte, z_t_beginsAt, z_t_token, z_t_error, z_t_errorAt, z_t_errorPosition, z_t_nested, z_t_orders, z_t_orderWords, z_t_orderCount]))])) A) (va_A [(q_t, .inr (8, [z_t_now, z_t_draft, z_t_kept, z_t_snapshot, z_t_history, z_t_accounts, z_t_wheelPrimes, z_t_row, z_t_undoCount, .int t_thrown, z_t_hasSnapshot, z_t_owner, z_t_times, z_t_end, z_t_ownerD, z_t_formatted, z_t_formattedLength, z_t_buffer, z_t_bufferLength, z_t_limit, z_t_nextByte, z_t_beginsAt, z_t_token, z_t_error, z_t_errorAt, z_t_errorPosition, z_t_nested, z_t_orders, z_t_orderWords, z_t_orderCount]))] sz)) 0 0 (va_A [(q_t, .inr (8, [z_t_now, z_t_draft, z_t_kept, z_t_snapshot, z_t_history, z_t_accounts, z_t_wheelPrimes, z_t_row, z_t_undoCount, .int t_thrown, z_t_hasSnapshot, z_t_owner, z_t_times, z_t_end, z_t_ownerD, z_t_formatted, z_t_formattedLength, z_t_buffer, z_t_bufferLength, z_t_limit, z_t_nextByte, z_t_beginsAt, z_t_token, z_t_error, z_t_errorAt, z_t_errorPosition, z_t_nested, z_t_orders, z_t_orderWords, z_t_orderCount]))] sz) := by
  refine sw_ofW (Qc := fun A => va_Qi (fun r (u : Unit) => res = r) (sw_Post G A (fun (u : Unit) => [(q_t, .inr (8, [z_t_now, z_t_draft, z_t_kept, z_t_snapshot, z_t_history, z_t_accounts, z_t_wheelPrimes, z_t_row, z_t_undoCount, .int t_thrown, z_t_hasSnapshot, z_t_owner, z_t_times, z_t_end, z_t_ownerD, z_t_formatted, z_t_formattedLength, z_t_buffer, z_t_bufferLength, z_t_limit, z_t_nextByte, z_t_beginsAt, z_t_token, z_t_error, z_t_errorAt, z_t_errorPosition, z_t_nested, z_t_orders, z_t_orderWords, z_t_orderCount]))])) A) (by decide) [(0, .ref q_t)] rfl (Nat.le_of_ble_eq_true rfl) ?_
  intro p e s m args below meth c ls A hx hb hr hml hown htU hlocks hnm hP hK hD hX hY hS hA hl
  have hown : s.vm.findClass RX11 = some m.cls := hown
  have Cx : sw_Cx p s m args c cX11_thrown 1 RX11 G ca Z A := ⟨⟨hx, hb, hml, hown, htU⟩, hK, hX, hY, hA⟩
  have h := hF
  unfold F_X11_thrown at h
  refine lv_aload_n hx hb dX11_thrown_0 rfl (lv_at hl 0 rfl) ?_
  refine va_get (v := .int t_thrown) hx hb htU iU_X11 hown hK hP 0 rfl rfl 9 (by decide) (htU _ fl_X11_78) (fun _ h9 => h9) rfl dX11_thrown_1 ?_
  exact sw_ri hx hb hr hlocks hS () (pr1 h) hP hD dX11_thrown_4
theorem mv_X11_raise : sw_MV yX11_raise RX11 cX11_raise 2 (Option.some Jvm.ClassFile.FieldType.int) 1 := ⟨im_X11_raise, se_X11_raise, ini_X11, co_X11_raise, by decide +kernel⟩
def F_X11_raise (x1 : Int32) (t_thrown : Int32) : Option (Int32 × (Int32)) :=
 some (0, x1)
abbrev RM_X11_raise : Room := ({ frames := 0, cells := 0, slots := 0, locals := 0 } : Room)
set_option maxHeartbeats 4000000 in
set_option maxRecDepth 100000 in
theorem c_X11_raise (l : Launch) (G : va_G) (ca Z : Nat → Nat) (q_t : Nat) (z_t_now : Value) (z_t_draft : Value) (z_t_kept : Value) (z_t_snapshot : Value) (z_t_history : Value) (z_t_accounts : Value) (z_t_wheelPrimes : Value) (z_t_row : Value) (z_t_undoCount : Value) (z_t_hasSnapshot : Value) (z_t_owner : Value) (z_t_times : Value) (z_t_end : Value) (z_t_ownerD : Value) (z_t_formatted : Value) (z_t_formattedLength : Value) (z_t_buffer : Value) (z_t_bufferLength : Value) (z_t_limit : Value) (z_t_nextByte : Value) (z_t_beginsAt : Value) (z_t_token : Value) (z_t_error : Value) (z_t_errorAt : Value) (z_t_errorPosition : Value) (z_t_nested : Value) (z_t_orders : Value) (z_t_orderWords : Value) (z_t_orderCount : Value) (sz : Nat) (x1 : Int32) (t_thrown : Int32) (res : Int32 × (Int32)) (hF : F_X11_raise x1 t_thrown = some res) : Met l yX11_raise (.code yX11_raise cX11_raise 2 (Option.some Jvm.ClassFile.FieldType.int) :: sw_U) RM_X11_raise (va_Pc [.ref q_t, .int x1] (sw_Pre G ca Z [(q_t, .inr (8, [z_t_now, z_t_draft, z_t_kept, z_t_snapshot, z_t_history, z_t_accounts, z_t_wheelPrimes, z_t_row, z_t_undoCount, .int t_thrown, z_t_hasSnapshot, z_t_owner, z_t_times, z_t_end, z_t_ownerD, z_t_formatted, z_t_formattedLength, z_t_buffer, z_t_bufferLength, z_t_limit, z_t_nextByte, z_t_beginsAt, z_t_token, z_t_error, z_t_errorAt, z_t_errorPosition, z_t_nested, z_t_orders, z_t_orderWords, z_t_orderCount]))] sz)) ((fun A => va_Qi (fun r (u : Int32) => res.1 = r ∧ res.2 = u) (sw_Post G A (fun (u : Int32) => [(q_t, .inr (8, [z_t_now, z_t_draft, z_t_kept, z_t_snapshot, z_t_history, z_t_accounts, z_t_wheelPrimes, z_t_row, z_t_undoCount, .int u, z_t_hasSnapshot, z_t_owner, z_t_times, z_t_end, z_t_ownerD, z_t_formatted, z_t_formattedLength, z_t_buffer, z_t_bufferLength, z_t_limit, z_t_nextByte, z_t_beginsAt, z_t_token, z_t_error, z_t_errorAt, z_t_errorPosition, z_t_nested, z_t_orders, z_t_orderWords, z_t_orderCount]))])) A) (va_A [(q_t, .inr (8, [z_t_now, z_t_draft, z_t_kept, z_t_snapshot, z_t_history, z_t_accounts, z_t_wheelPrimes, z_t_row, z_t_undoCount, .int t_thrown, z_t_hasSnapshot, z_t_owner, z_t_times, z_t_end, z_t_ownerD, z_t_formatted, z_t_formattedLength, z_t_buffer, z_t_bufferLength, z_t_limit, z_t_nextByte, z_t_beginsAt, z_t_token, z_t_error, z_t_errorAt, z_t_errorPosition, z_t_nested, z_t_orders, z_t_orderWords, z_t_orderCount]))] sz)) 0 0 (va_A [(q_t, .inr (8, [z_t_now, z_t_draft, z_t_kept, z_t_snapshot, z_t_history, z_t_accounts, z_t_wheelPrimes, z_t_row, z_t_undoCount, .int t_thrown, z_t_hasSnapshot, z_t_owner, z_t_times, z_t_end, z_t_ownerD, z_t_formatted, z_t_formattedLength, z_t_buffer, z_t_bufferLength, z_t_limit, z_t_nextByte, z_t_beginsAt, z_t_token, z_t_error, z_t_errorAt, z_t_errorPosition, z_t_nested, z_t_orders, z_t_orderWords, z_t_orderCount]))] sz) := by
  refine sw_ofW (Qc := fun A => va_Qi (fun r (u : Int32) => res.1 = r ∧ res.2 = u) (sw_Post G A (fun (u : Int32) => [(q_t, .inr (8, [z_t_now, z_t_draft, z_t_kept, z_t_snapshot, z_t_history, z_t_accounts, z_t_wheelPrimes, z_t_row, z_t_undoCount, .int u, z_t_hasSnapshot, z_t_owner, z_t_times, z_t_end, z_t_ownerD, z_t_formatted, z_t_formattedLength, z_t_buffer, z_t_bufferLength, z_t_limit, z_t_nextByte, z_t_beginsAt, z_t_token, z_t_error, z_t_errorAt, z_t_errorPosition, z_t_nested, z_t_orders, z_t_orderWords, z_t_orderCount]))])) A) (by decide) [(0, .ref q_t), (1, .int x1)] rfl (Nat.le_of_ble_eq_true rfl) ?_
  intro p e s m args below meth c ls A hx hb hr hml hown htU hlocks hnm hP hK hD hX hY hS hA hl
  have hown : s.vm.findClass RX11 = some m.cls := hown
  have Cx : sw_Cx p s m args c cX11_raise 2 RX11 G ca Z A := ⟨⟨hx, hb, hml, hown, htU⟩, hK, hX, hY, hA⟩
  have h := hF
  unfold F_X11_raise at h
  refine lv_aload_n hx hb dX11_raise_0 rfl (lv_at hl 0 rfl) ?_
  refine lv_iload_n hx hb dX11_raise_1 rfl (lv_at hl 1 rfl) ?_
  refine va_put (v := .int x1) (ty := .int) hx hb htU iU_X11 tyX11 tyX11_ok nmX11 hown hK hP hD hS 0 rfl rfl 9 (by decide) (htU _ fl_X11_78) (fun _ h9 => h9) rfl (by decide +kernel) rfl rfl (Nat.le_of_ble_eq_true rfl) dX11_raise_2 (fun H locs hP hD hS => ?_)
  have hP : va_P G vwCl [(q_t, .inr (8, [z_t_now, z_t_draft, z_t_kept, z_t_snapshot, z_t_history, z_t_accounts, z_t_wheelPrimes, z_t_row, z_t_undoCount, .int x1, z_t_hasSnapshot, z_t_owner, z_t_times, z_t_end, z_t_ownerD, z_t_formatted, z_t_formattedLength, z_t_buffer, z_t_bufferLength, z_t_limit, z_t_nextByte, z_t_beginsAt, z_t_token, z_t_error, z_t_errorAt, z_t_errorPosition, z_t_nested, z_t_orders, z_t_orderWords, z_t_orderCount]))] H := hP
  have hD : va_D A [(q_t, .inr (8, [z_t_now, z_t_draft, z_t_kept, z_t_snapshot, z_t_history, z_t_accounts, z_t_wheelPrimes, z_t_row, z_t_undoCount, .int x1, z_t_hasSnapshot, z_t_owner, z_t_times, z_t_end, z_t_ownerD, z_t_formatted, z_t_formattedLength, z_t_buffer, z_t_bufferLength, z_t_limit, z_t_nextByte, z_t_beginsAt, z_t_token, z_t_error, z_t_errorAt, z_t_errorPosition, z_t_nested, z_t_orders, z_t_orderWords, z_t_orderCount]))] := hD
  refine lv_iconst (v := 0) hx hb dX11_raise_5 (by decide) ?_
  exact sw_ri hx hb hr hlocks hS x1 (pr2 h) hP hD dX11_raise_6
theorem ms_X11_inRange : sw_MS yX11_inRange cX11_inRange 3 (Option.some Jvm.ClassFile.FieldType.boolean) 3 := ⟨st_X11_inRange, ini_X11, co_X11_inRange, by decide +kernel⟩
def F_X11_inRange (x0 : Int32) (x1 : Int32) (x2 : Int32) : Option (Bool) :=
 (if x0 < x1 then some false else (if x2 < x0 then some false else some true))
abbrev RM_X11_inRange : Room := ({ frames := 0, cells := 0, slots := 0, locals := 0 } : Room)
set_option maxHeartbeats 4000000 in
set_option maxRecDepth 100000 in
theorem c_X11_inRange (l : Launch) (G : va_G) (ca Z : Nat → Nat) (sz : Nat) (x0 : Int32) (x1 : Int32) (x2 : Int32) (res : Bool) (hF : F_X11_inRange x0 x1 x2 = some res) : Met l yX11_inRange (.code yX11_inRange cX11_inRange 3 (Option.some Jvm.ClassFile.FieldType.boolean) :: sw_U) RM_X11_inRange (va_Pc [.int x0, .int x1, .int x2] (sw_Pre G ca Z [] sz)) ((fun A => va_Qi (fun r (u : Unit) => bI res = r) (sw_Post G A (fun (u : Unit) => [])) A) (va_A [] sz)) 0 0 (va_A [] sz) := by
  refine sw_ofW (Qc := fun A => va_Qi (fun r (u : Unit) => bI res = r) (sw_Post G A (fun (u : Unit) => [])) A) (by decide) [(0, .int x0), (1, .int x1), (2, .int x2)] rfl (Nat.le_of_ble_eq_true rfl) ?_
  intro p e s m args below meth c ls A hx hb hr hml hown htU hlocks hnm hP hK hD hX hY hS hA hl
  have hown : s.vm.findClass RX11 = some m.cls := hown
  have Cx : sw_Cx p s m args c cX11_inRange 3 RX11 G ca Z A := ⟨⟨hx, hb, hml, hown, htU⟩, hK, hX, hY, hA⟩
  have h := hF
  unfold F_X11_inRange at h
  refine lv_iload_n hx hb dX11_inRange_0 rfl (lv_at hl 0 rfl) ?_
  refine lv_iload_n hx hb dX11_inRange_1 rfl (lv_at hl 1 rfl) ?_
  refine lv_icmp_lt (tgt := 14) hx hb dX11_inRange_2 (by decide) (fun c_1 => ?_) (fun c_1 => ?_)
  · have h := if_t c_1 h
    refine lv_iconst (v := 0) hx hb dX11_inRange_14 (by decide) ?_
    exact sw_rz hx hb hr rfl hlocks hS () (pb1 h) hP hD dX11_inRange_15
  · have h := if_f c_1 h
    refine lv_iload_n hx hb dX11_inRange_5 rfl (lv_at hl 0 rfl) ?_
    refine lv_iload_n hx hb dX11_inRange_6 rfl (lv_at hl 2 rfl) ?_
    refine lv_icmp_gt (tgt := 14) hx hb dX11_inRange_7 (by decide) (fun c_2 => ?_) (fun c_2 => ?_)
    · have h := if_t c_2 h
      refine lv_iconst (v := 0) hx hb dX11_inRange_14 (by decide) ?_
      exact sw_rz hx hb hr rfl hlocks hS () (pb1 h) hP hD dX11_inRange_15
    · have h := if_f c_2 h
      refine lv_iconst (v := 1) hx hb dX11_inRange_10 (by decide) ?_
      refine lv_goto (tgt := 15) hx hb dX11_inRange_11 (by decide) ?_
      exact sw_rz hx hb hr rfl hlocks hS () (pb1 h) hP hD dX11_inRange_15
theorem mv_X11_lacks : sw_MV yX11_lacks RX11 cX11_lacks 2 (Option.some Jvm.ClassFile.FieldType.boolean) 1 := ⟨im_X11_lacks, se_X11_lacks, ini_X11, co_X11_lacks, by decide +kernel⟩
def F_X11_lacks (x1 : Bool) (t_thrown : Int32) : Option (Bool × (Int32)) :=
 (if x1 = true then (if x1 = true then some (false, 0) else some (true, 0)) else (if x1 = true then some (false, 1) else some (true, 1)))
abbrev RM_X11_lacks : Room := ({ frames := 0, cells := 0, slots := 0, locals := 0 } : Room)
set_option maxHeartbeats 4000000 in
set_option maxRecDepth 100000 in
theorem c_X11_lacks (l : Launch) (G : va_G) (ca Z : Nat → Nat) (q_t : Nat) (z_t_now : Value) (z_t_draft : Value) (z_t_kept : Value) (z_t_snapshot : Value) (z_t_history : Value) (z_t_accounts : Value) (z_t_wheelPrimes : Value) (z_t_row : Value) (z_t_undoCount : Value) (z_t_hasSnapshot : Value) (z_t_owner : Value) (z_t_times : Value) (z_t_end : Value) (z_t_ownerD : Value) (z_t_formatted : Value) (z_t_formattedLength : Value) (z_t_buffer : Value) (z_t_bufferLength : Value) (z_t_limit : Value) (z_t_nextByte : Value) (z_t_beginsAt : Value) (z_t_token : Value) (z_t_error : Value) (z_t_errorAt : Value) (z_t_errorPosition : Value) (z_t_nested : Value) (z_t_orders : Value) (z_t_orderWords : Value) (z_t_orderCount : Value) (sz : Nat) (x1 : Bool) (t_thrown : Int32) (res : Bool × (Int32)) (hF : F_X11_lacks x1 t_thrown = some res) : Met l yX11_lacks (.code yX11_lacks cX11_lacks 2 (Option.some Jvm.ClassFile.FieldType.boolean) :: sw_U) RM_X11_lacks (va_Pc [.ref q_t, .int (bI x1)] (sw_Pre G ca Z [(q_t, .inr (8, [z_t_now, z_t_draft, z_t_kept, z_t_snapshot, z_t_history, z_t_accounts, z_t_wheelPrimes, z_t_row, z_t_undoCount, .int t_thrown, z_t_hasSnapshot, z_t_owner, z_t_times, z_t_end, z_t_ownerD, z_t_formatted, z_t_formattedLength, z_t_buffer, z_t_bufferLength, z_t_limit, z_t_nextByte, z_t_beginsAt, z_t_token, z_t_error, z_t_errorAt, z_t_errorPosition, z_t_nested, z_t_orders, z_t_orderWords, z_t_orderCount]))] sz)) ((fun A => va_Qi (fun r (u : Int32) => bI res.1 = r ∧ res.2 = u) (sw_Post G A (fun (u : Int32) => [(q_t, .inr (8, [z_t_now, z_t_draft, z_t_kept, z_t_snapshot, z_t_history, z_t_accounts, z_t_wheelPrimes, z_t_row, z_t_undoCount, .int u, z_t_hasSnapshot, z_t_owner, z_t_times, z_t_end, z_t_ownerD, z_t_formatted, z_t_formattedLength, z_t_buffer, z_t_bufferLength, z_t_limit, z_t_nextByte, z_t_beginsAt, z_t_token, z_t_error, z_t_errorAt, z_t_errorPosition, z_t_nested, z_t_orders, z_t_orderWords, z_t_orderCount]))])) A) (va_A [(q_t, .inr (8, [z_t_now, z_t_draft, z_t_kept, z_t_snapshot, z_t_history, z_t_accounts, z_t_wheelPrimes, z_t_row, z_t_undoCount, .int t_thrown, z_t_hasSnapshot, z_t_owner, z_t_times, z_t_end, z_t_ownerD, z_t_formatted, z_t_formattedLength, z_t_buffer, z_t_bufferLength, z_t_limit, z_t_nextByte, z_t_beginsAt, z_t_token, z_t_error, z_t_errorAt, z_t_errorPosition, z_t_nested, z_t_orders, z_t_orderWords, z_t_orderCount]))] sz)) 0 0 (va_A [(q_t, .inr (8, [z_t_now, z_t_draft, z_t_kept, z_t_snapshot, z_t_history, z_t_accounts, z_t_wheelPrimes, z_t_row, z_t_undoCount, .int t_thrown, z_t_hasSnapshot, z_t_owner, z_t_times, z_t_end, z_t_ownerD, z_t_formatted, z_t_formattedLength, z_t_buffer, z_t_bufferLength, z_t_limit, z_t_nextByte, z_t_beginsAt, z_t_token, z_t_error, z_t_errorAt, z_t_errorPosition, z_t_nested, z_t_orders, z_t_orderWords, z_t_orderCount]))] sz) := by
  refine sw_ofW (Qc := fun A => va_Qi (fun r (u : Int32) => bI res.1 = r ∧ res.2 = u) (sw_Post G A (fun (u : Int32) => [(q_t, .inr (8, [z_t_now, z_t_draft, z_t_kept, z_t_snapshot, z_t_history, z_t_accounts, z_t_wheelPrimes, z_t_row, z_t_undoCount, .int u, z_t_hasSnapshot, z_t_owner, z_t_times, z_t_end, z_t_ownerD, z_t_formatted, z_t_formattedLength, z_t_buffer, z_t_bufferLength, z_t_limit, z_t_nextByte, z_t_beginsAt, z_t_token, z_t_error, z_t_errorAt, z_t_errorPosition, z_t_nested, z_t_orders, z_t_orderWords, z_t_orderCount]))])) A) (by decide) [(0, .ref q_t), (1, .int (bI x1))] rfl (Nat.le_of_ble_eq_true rfl) ?_
  intro p e s m args below meth c ls A hx hb hr hml hown htU hlocks hnm hP hK hD hX hY hS hA hl
  have hown : s.vm.findClass RX11 = some m.cls := hown
  have Cx : sw_Cx p s m args c cX11_lacks 2 RX11 G ca Z A := ⟨⟨hx, hb, hml, hown, htU⟩, hK, hX, hY, hA⟩
  have h := hF
  unfold F_X11_lacks at h
  refine lv_aload_n hx hb dX11_lacks_0 rfl (lv_at hl 0 rfl) ?_
  refine lv_iload_n hx hb dX11_lacks_1 rfl (lv_at hl 1 rfl) ?_
  refine lv_if_eq (tgt := 9) hx hb dX11_lacks_2 (by decide) (fun c_1 => ?_) (fun c_1 => ?_)
  · have c_1 := bI_z.mp c_1
    have h := if_f c_1 h
    refine lv_iconst (v := 1) hx hb dX11_lacks_9 (by decide) ?_
    refine va_put (v := .int 1) (ty := .int) hx hb htU iU_X11 tyX11 tyX11_ok nmX11 hown hK hP hD hS 0 rfl rfl 9 (by decide) (htU _ fl_X11_78) (fun _ h9 => h9) rfl (by decide +kernel) rfl rfl (Nat.le_of_ble_eq_true rfl) dX11_lacks_10 (fun H locs hP hD hS => ?_)
    have hP : va_P G vwCl [(q_t, .inr (8, [z_t_now, z_t_draft, z_t_kept, z_t_snapshot, z_t_history, z_t_accounts, z_t_wheelPrimes, z_t_row, z_t_undoCount, .int 1, z_t_hasSnapshot, z_t_owner, z_t_times, z_t_end, z_t_ownerD, z_t_formatted, z_t_formattedLength, z_t_buffer, z_t_bufferLength, z_t_limit, z_t_nextByte, z_t_beginsAt, z_t_token, z_t_error, z_t_errorAt, z_t_errorPosition, z_t_nested, z_t_orders, z_t_orderWords, z_t_orderCount]))] H := hP
    have hD : va_D A [(q_t, .inr (8, [z_t_now, z_t_draft, z_t_kept, z_t_snapshot, z_t_history, z_t_accounts, z_t_wheelPrimes, z_t_row, z_t_undoCount, .int 1, z_t_hasSnapshot, z_t_owner, z_t_times, z_t_end, z_t_ownerD, z_t_formatted, z_t_formattedLength, z_t_buffer, z_t_bufferLength, z_t_limit, z_t_nextByte, z_t_beginsAt, z_t_token, z_t_error, z_t_errorAt, z_t_errorPosition, z_t_nested, z_t_orders, z_t_orderWords, z_t_orderCount]))] := hD
    refine lv_iload_n hx hb dX11_lacks_13 rfl (lv_at hl 1 rfl) ?_
    refine lv_if_ne (tgt := 21) hx hb dX11_lacks_14 (by decide) (fun c_2 => ?_) (fun c_2 => ?_)
    · have c_2 := bI_nz.mp c_2
      have h := if_t c_2 h
      refine lv_iconst (v := 0) hx hb dX11_lacks_21 (by decide) ?_
      exact sw_rz hx hb hr rfl hlocks hS 1 (pb2 h) hP hD dX11_lacks_22
    · have c_2 := bI_z.mp c_2
      have h := if_f c_2 h
      refine lv_iconst (v := 1) hx hb dX11_lacks_17 (by decide) ?_
      refine lv_goto (tgt := 22) hx hb dX11_lacks_18 (by decide) ?_
      exact sw_rz hx hb hr rfl hlocks hS 1 (pb2 h) hP hD dX11_lacks_22
  · have c_1 := bI_nz.mp c_1
    have h := if_t c_1 h
    refine lv_iconst (v := 0) hx hb dX11_lacks_5 (by decide) ?_
    refine lv_goto (tgt := 10) hx hb dX11_lacks_6 (by decide) ?_
    refine va_put (v := .int 0) (ty := .int) hx hb htU iU_X11 tyX11 tyX11_ok nmX11 hown hK hP hD hS 0 rfl rfl 9 (by decide) (htU _ fl_X11_78) (fun _ h9 => h9) rfl (by decide +kernel) rfl rfl (Nat.le_of_ble_eq_true rfl) dX11_lacks_10 (fun H locs hP hD hS => ?_)
    have hP : va_P G vwCl [(q_t, .inr (8, [z_t_now, z_t_draft, z_t_kept, z_t_snapshot, z_t_history, z_t_accounts, z_t_wheelPrimes, z_t_row, z_t_undoCount, .int 0, z_t_hasSnapshot, z_t_owner, z_t_times, z_t_end, z_t_ownerD, z_t_formatted, z_t_formattedLength, z_t_buffer, z_t_bufferLength, z_t_limit, z_t_nextByte, z_t_beginsAt, z_t_token, z_t_error, z_t_errorAt, z_t_errorPosition, z_t_nested, z_t_orders, z_t_orderWords, z_t_orderCount]))] H := hP
    have hD : va_D A [(q_t, .inr (8, [z_t_now, z_t_draft, z_t_kept, z_t_snapshot, z_t_history, z_t_accounts, z_t_wheelPrimes, z_t_row, z_t_undoCount, .int 0, z_t_hasSnapshot, z_t_owner, z_t_times, z_t_end, z_t_ownerD, z_t_formatted, z_t_formattedLength, z_t_buffer, z_t_bufferLength, z_t_limit, z_t_nextByte, z_t_beginsAt, z_t_token, z_t_error, z_t_errorAt, z_t_errorPosition, z_t_nested, z_t_orders, z_t_orderWords, z_t_orderCount]))] := hD
    refine lv_iload_n hx hb dX11_lacks_13 rfl (lv_at hl 1 rfl) ?_
    refine lv_if_ne (tgt := 21) hx hb dX11_lacks_14 (by decide) (fun c_3 => ?_) (fun c_3 => ?_)
    · have c_3 := bI_nz.mp c_3
      have h := if_t c_3 h
      refine lv_iconst (v := 0) hx hb dX11_lacks_21 (by decide) ?_
      exact sw_rz hx hb hr rfl hlocks hS 0 (pb2 h) hP hD dX11_lacks_22
    · have c_3 := bI_z.mp c_3
      have h := if_f c_3 h
      refine lv_iconst (v := 1) hx hb dX11_lacks_17 (by decide) ?_
      refine lv_goto (tgt := 22) hx hb dX11_lacks_18 (by decide) ?_
      exact sw_rz hx hb hr rfl hlocks hS 0 (pb2 h) hP hD dX11_lacks_22
theorem mv_X11_isStretch : sw_MV yX11_isStretch RX11 cX11_isStretch 2 (Option.some Jvm.ClassFile.FieldType.boolean) 1 := ⟨im_X11_isStretch, se_X11_isStretch, ini_X11, co_X11_isStretch, by decide +kernel⟩
def F_X11_isStretch (x1 : Int32) (t_row : (Nat → Int32)) : Option (Bool) :=
 (F_X11_inRange x1 0 ((t_row 1) - 1)).bind (fun w_1 => some w_1)
abbrev RM_X11_isStretch : Room := ({ frames := 1, cells := 0, slots := 0, locals := 22 } : Room)
set_option maxHeartbeats 4000000 in
set_option maxRecDepth 100000 in
theorem c_X11_isStretch (l : Launch) (G : va_G) (ca Z : Nat → Nat) (q_t : Nat) (q_t_row : Nat) (z_t_now : Value) (z_t_draft : Value) (z_t_kept : Value) (z_t_snapshot : Value) (z_t_history : Value) (z_t_accounts : Value) (z_t_wheelPrimes : Value) (z_t_undoCount : Value) (z_t_thrown : Value) (z_t_hasSnapshot : Value) (z_t_owner : Value) (z_t_times : Value) (z_t_end : Value) (z_t_ownerD : Value) (z_t_formatted : Value) (z_t_formattedLength : Value) (z_t_buffer : Value) (z_t_bufferLength : Value) (z_t_limit : Value) (z_t_nextByte : Value) (z_t_beginsAt : Value) (z_t_token : Value) (z_t_error : Value) (z_t_errorAt : Value) (z_t_errorPosition : Value) (z_t_nested : Value) (z_t_orders : Value) (z_t_orderWords : Value) (z_t_orderCount : Value) (sz : Nat) (x1 : Int32) (t_row : (Nat → Int32)) (res : Bool) (hF : F_X11_isStretch x1 t_row = some res) : Met l yX11_isStretch (.code yX11_isStretch cX11_isStretch 2 (Option.some Jvm.ClassFile.FieldType.boolean) :: sw_U) RM_X11_isStretch (va_Pc [.ref q_t, .int x1] (sw_Pre G ca Z [(q_t, .inr (8, [z_t_now, z_t_draft, z_t_kept, z_t_snapshot, z_t_history, z_t_accounts, z_t_wheelPrimes, .ref q_t_row, z_t_undoCount, z_t_thrown, z_t_hasSnapshot, z_t_owner, z_t_times, z_t_end, z_t_ownerD, z_t_formatted, z_t_formattedLength, z_t_buffer, z_t_bufferLength, z_t_limit, z_t_nextByte, z_t_beginsAt, z_t_token, z_t_error, z_t_errorAt, z_t_errorPosition, z_t_nested, z_t_orders, z_t_orderWords, z_t_orderCount])), (q_t_row, .inl (ca 0, 45, .inl t_row))] sz)) ((fun A => va_Qi (fun r (u : Unit) => bI res = r) (sw_Post G A (fun (u : Unit) => [(q_t, .inr (8, [z_t_now, z_t_draft, z_t_kept, z_t_snapshot, z_t_history, z_t_accounts, z_t_wheelPrimes, .ref q_t_row, z_t_undoCount, z_t_thrown, z_t_hasSnapshot, z_t_owner, z_t_times, z_t_end, z_t_ownerD, z_t_formatted, z_t_formattedLength, z_t_buffer, z_t_bufferLength, z_t_limit, z_t_nextByte, z_t_beginsAt, z_t_token, z_t_error, z_t_errorAt, z_t_errorPosition, z_t_nested, z_t_orders, z_t_orderWords, z_t_orderCount])), (q_t_row, .inl (ca 0, 45, .inl t_row))])) A) (va_A [(q_t, .inr (8, [z_t_now, z_t_draft, z_t_kept, z_t_snapshot, z_t_history, z_t_accounts, z_t_wheelPrimes, .ref q_t_row, z_t_undoCount, z_t_thrown, z_t_hasSnapshot, z_t_owner, z_t_times, z_t_end, z_t_ownerD, z_t_formatted, z_t_formattedLength, z_t_buffer, z_t_bufferLength, z_t_limit, z_t_nextByte, z_t_beginsAt, z_t_token, z_t_error, z_t_errorAt, z_t_errorPosition, z_t_nested, z_t_orders, z_t_orderWords, z_t_orderCount])), (q_t_row, .inl (ca 0, 45, .inl t_row))] sz)) 0 0 (va_A [(q_t, .inr (8, [z_t_now, z_t_draft, z_t_kept, z_t_snapshot, z_t_history, z_t_accounts, z_t_wheelPrimes, .ref q_t_row, z_t_undoCount, z_t_thrown, z_t_hasSnapshot, z_t_owner, z_t_times, z_t_end, z_t_ownerD, z_t_formatted, z_t_formattedLength, z_t_buffer, z_t_bufferLength, z_t_limit, z_t_nextByte, z_t_beginsAt, z_t_token, z_t_error, z_t_errorAt, z_t_errorPosition, z_t_nested, z_t_orders, z_t_orderWords, z_t_orderCount])), (q_t_row, .inl (ca 0, 45, .inl t_row))] sz) := by
  refine sw_ofW (Qc := fun A => va_Qi (fun r (u : Unit) => bI res = r) (sw_Post G A (fun (u : Unit) => [(q_t, .inr (8, [z_t_now, z_t_draft, z_t_kept, z_t_snapshot, z_t_history, z_t_accounts, z_t_wheelPrimes, .ref q_t_row, z_t_undoCount, z_t_thrown, z_t_hasSnapshot, z_t_owner, z_t_times, z_t_end, z_t_ownerD, z_t_formatted, z_t_formattedLength, z_t_buffer, z_t_bufferLength, z_t_limit, z_t_nextByte, z_t_beginsAt, z_t_token, z_t_error, z_t_errorAt, z_t_errorPosition, z_t_nested, z_t_orders, z_t_orderWords, z_t_orderCount])), (q_t_row, .inl (ca 0, 45, .inl t_row))])) A) (by decide) [(0, .ref q_t), (1, .int x1)] rfl (Nat.le_of_ble_eq_true rfl) ?_
  intro p e s m args below meth c ls A hx hb hr hml hown htU hlocks hnm hP hK hD hX hY hS hA hl
  have hown : s.vm.findClass RX11 = some m.cls := hown
  have Cx : sw_Cx p s m args c cX11_isStretch 2 RX11 G ca Z A := ⟨⟨hx, hb, hml, hown, htU⟩, hK, hX, hY, hA⟩
  have h := hF
  unfold F_X11_isStretch at h
  refine lv_iload_n hx hb dX11_isStretch_0 rfl (lv_at hl 1 rfl) ?_
  refine lv_iconst (v := 0) hx hb dX11_isStretch_1 (by decide) ?_
  refine lv_aload_n hx hb dX11_isStretch_2 rfl (lv_at hl 0 rfl) ?_
  refine va_get (v := .ref q_t_row) hx hb htU iU_X11 hown hK hP 0 rfl rfl 7 (by decide) (htU _ fl_X11_31) (fun _ h9 => h9) rfl dX11_isStretch_3 ?_
  refine lv_iconst (v := 1) hx hb dX11_isStretch_6 (by decide) ?_
  refine sw_iald0 hx hb hK hP 1 0 rfl rfl 1 rfl (sw_vin (by decide)) dX11_isStretch_7 ?_
  refine lv_iconst (v := 1) hx hb dX11_isStretch_8 (by decide) ?_
  refine lv_isub hx hb dX11_isStretch_9 ?_
  obtain ⟨w_1, hg_2, h⟩ := bd_at h
  refine sw_ci (sw_runS (As := [.int x1, .int 0, .int ((t_row 1) - 1)]) (rest := []) Cx hP hD hS ms_X11_inRange ml_X11_81 (c_X11_inRange l G ca Z s.heap.size x1 0 ((t_row 1) - 1) w_1 hg_2) [] rfl rfl rfl rfl ⟨(Nat.le_of_ble_eq_true rfl), (Nat.le_of_ble_eq_true rfl)⟩ hl.1 rfl rfl (Nat.le_of_ble_eq_true rfl) dX11_isStretch_10 ⟨(Nat.le_of_ble_eq_true rfl), (Nat.le_of_ble_eq_true rfl)⟩) hP hD hS hA [] [0, 1] [0, 1] rfl rfl rfl (by decide) (fun _ => rfl) rfl (fun r u H locs hw hP hD hS => ?_)
  subst hw
  have hP : va_P G vwCl [(q_t, .inr (8, [z_t_now, z_t_draft, z_t_kept, z_t_snapshot, z_t_history, z_t_accounts, z_t_wheelPrimes, .ref q_t_row, z_t_undoCount, z_t_thrown, z_t_hasSnapshot, z_t_owner, z_t_times, z_t_end, z_t_ownerD, z_t_formatted, z_t_formattedLength, z_t_buffer, z_t_bufferLength, z_t_limit, z_t_nextByte, z_t_beginsAt, z_t_token, z_t_error, z_t_errorAt, z_t_errorPosition, z_t_nested, z_t_orders, z_t_orderWords, z_t_orderCount])), (q_t_row, .inl (ca 0, 45, .inl t_row))] H := hP
  have hD : va_D A [(q_t, .inr (8, [z_t_now, z_t_draft, z_t_kept, z_t_snapshot, z_t_history, z_t_accounts, z_t_wheelPrimes, .ref q_t_row, z_t_undoCount, z_t_thrown, z_t_hasSnapshot, z_t_owner, z_t_times, z_t_end, z_t_ownerD, z_t_formatted, z_t_formattedLength, z_t_buffer, z_t_bufferLength, z_t_limit, z_t_nextByte, z_t_beginsAt, z_t_token, z_t_error, z_t_errorAt, z_t_errorPosition, z_t_nested, z_t_orders, z_t_orderWords, z_t_orderCount])), (q_t_row, .inl (ca 0, 45, .inl t_row))] := hD
  exact sw_rz hx hb hr (bI_nar _) hlocks hS () (pb1 h) hP hD dX11_isStretch_13
theorem mv_X11_isStriker : sw_MV yX11_isStriker RX11 cX11_isStriker 2 (Option.some Jvm.ClassFile.FieldType.boolean) 1 := ⟨im_X11_isStriker, se_X11_isStriker, ini_X11, co_X11_isStriker, by decide +kernel⟩
def F_X11_isStriker (x1 : Int32) (t_row : (Nat → Int32)) : Option (Bool) :=
 (F_X11_inRange x1 0 ((t_row 14) - 1)).bind (fun w_1 => some w_1)
abbrev RM_X11_isStriker : Room := ({ frames := 1, cells := 0, slots := 0, locals := 22 } : Room)
set_option maxHeartbeats 4000000 in
set_option maxRecDepth 100000 in
theorem c_X11_isStriker (l : Launch) (G : va_G) (ca Z : Nat → Nat) (q_t : Nat) (q_t_row : Nat) (z_t_now : Value) (z_t_draft : Value) (z_t_kept : Value) (z_t_snapshot : Value) (z_t_history : Value) (z_t_accounts : Value) (z_t_wheelPrimes : Value) (z_t_undoCount : Value) (z_t_thrown : Value) (z_t_hasSnapshot : Value) (z_t_owner : Value) (z_t_times : Value) (z_t_end : Value) (z_t_ownerD : Value) (z_t_formatted : Value) (z_t_formattedLength : Value) (z_t_buffer : Value) (z_t_bufferLength : Value) (z_t_limit : Value) (z_t_nextByte : Value) (z_t_beginsAt : Value) (z_t_token : Value) (z_t_error : Value) (z_t_errorAt : Value) (z_t_errorPosition : Value) (z_t_nested : Value) (z_t_orders : Value) (z_t_orderWords : Value) (z_t_orderCount : Value) (sz : Nat) (x1 : Int32) (t_row : (Nat → Int32)) (res : Bool) (hF : F_X11_isStriker x1 t_row = some res) : Met l yX11_isStriker (.code yX11_isStriker cX11_isStriker 2 (Option.some Jvm.ClassFile.FieldType.boolean) :: sw_U) RM_X11_isStriker (va_Pc [.ref q_t, .int x1] (sw_Pre G ca Z [(q_t, .inr (8, [z_t_now, z_t_draft, z_t_kept, z_t_snapshot, z_t_history, z_t_accounts, z_t_wheelPrimes, .ref q_t_row, z_t_undoCount, z_t_thrown, z_t_hasSnapshot, z_t_owner, z_t_times, z_t_end, z_t_ownerD, z_t_formatted, z_t_formattedLength, z_t_buffer, z_t_bufferLength, z_t_limit, z_t_nextByte, z_t_beginsAt, z_t_token, z_t_error, z_t_errorAt, z_t_errorPosition, z_t_nested, z_t_orders, z_t_orderWords, z_t_orderCount])), (q_t_row, .inl (ca 0, 45, .inl t_row))] sz)) ((fun A => va_Qi (fun r (u : Unit) => bI res = r) (sw_Post G A (fun (u : Unit) => [(q_t, .inr (8, [z_t_now, z_t_draft, z_t_kept, z_t_snapshot, z_t_history, z_t_accounts, z_t_wheelPrimes, .ref q_t_row, z_t_undoCount, z_t_thrown, z_t_hasSnapshot, z_t_owner, z_t_times, z_t_end, z_t_ownerD, z_t_formatted, z_t_formattedLength, z_t_buffer, z_t_bufferLength, z_t_limit, z_t_nextByte, z_t_beginsAt, z_t_token, z_t_error, z_t_errorAt, z_t_errorPosition, z_t_nested, z_t_orders, z_t_orderWords, z_t_orderCount])), (q_t_row, .inl (ca 0, 45, .inl t_row))])) A) (va_A [(q_t, .inr (8, [z_t_now, z_t_draft, z_t_kept, z_t_snapshot, z_t_history, z_t_accounts, z_t_wheelPrimes, .ref q_t_row, z_t_undoCount, z_t_thrown, z_t_hasSnapshot, z_t_owner, z_t_times, z_t_end, z_t_ownerD, z_t_formatted, z_t_formattedLength, z_t_buffer, z_t_bufferLength, z_t_limit, z_t_nextByte, z_t_beginsAt, z_t_token, z_t_error, z_t_errorAt, z_t_errorPosition, z_t_nested, z_t_orders, z_t_orderWords, z_t_orderCount])), (q_t_row, .inl (ca 0, 45, .inl t_row))] sz)) 0 0 (va_A [(q_t, .inr (8, [z_t_now, z_t_draft, z_t_kept, z_t_snapshot, z_t_history, z_t_accounts, z_t_wheelPrimes, .ref q_t_row, z_t_undoCount, z_t_thrown, z_t_hasSnapshot, z_t_owner, z_t_times, z_t_end, z_t_ownerD, z_t_formatted, z_t_formattedLength, z_t_buffer, z_t_bufferLength, z_t_limit, z_t_nextByte, z_t_beginsAt, z_t_token, z_t_error, z_t_errorAt, z_t_errorPosition, z_t_nested, z_t_orders, z_t_orderWords, z_t_orderCount])), (q_t_row, .inl (ca 0, 45, .inl t_row))] sz) := by
  refine sw_ofW (Qc := fun A => va_Qi (fun r (u : Unit) => bI res = r) (sw_Post G A (fun (u : Unit) => [(q_t, .inr (8, [z_t_now, z_t_draft, z_t_kept, z_t_snapshot, z_t_history, z_t_accounts, z_t_wheelPrimes, .ref q_t_row, z_t_undoCount, z_t_thrown, z_t_hasSnapshot, z_t_owner, z_t_times, z_t_end, z_t_ownerD, z_t_formatted, z_t_formattedLength, z_t_buffer, z_t_bufferLength, z_t_limit, z_t_nextByte, z_t_beginsAt, z_t_token, z_t_error, z_t_errorAt, z_t_errorPosition, z_t_nested, z_t_orders, z_t_orderWords, z_t_orderCount])), (q_t_row, .inl (ca 0, 45, .inl t_row))])) A) (by decide) [(0, .ref q_t), (1, .int x1)] rfl (Nat.le_of_ble_eq_true rfl) ?_
  intro p e s m args below meth c ls A hx hb hr hml hown htU hlocks hnm hP hK hD hX hY hS hA hl
  have hown : s.vm.findClass RX11 = some m.cls := hown
  have Cx : sw_Cx p s m args c cX11_isStriker 2 RX11 G ca Z A := ⟨⟨hx, hb, hml, hown, htU⟩, hK, hX, hY, hA⟩
  have h := hF
  unfold F_X11_isStriker at h
  refine lv_iload_n hx hb dX11_isStriker_0 rfl (lv_at hl 1 rfl) ?_
  refine lv_iconst (v := 0) hx hb dX11_isStriker_1 (by decide) ?_
  refine lv_aload_n hx hb dX11_isStriker_2 rfl (lv_at hl 0 rfl) ?_
  refine va_get (v := .ref q_t_row) hx hb htU iU_X11 hown hK hP 0 rfl rfl 7 (by decide) (htU _ fl_X11_31) (fun _ h9 => h9) rfl dX11_isStriker_3 ?_
  refine lv_bipush (v := 14) hx hb dX11_isStriker_6 (by decide) ?_
  refine sw_iald0 hx hb hK hP 1 0 rfl rfl 14 rfl (sw_vin (by decide)) dX11_isStriker_8 ?_
  refine lv_iconst (v := 1) hx hb dX11_isStriker_9 (by decide) ?_
  refine lv_isub hx hb dX11_isStriker_10 ?_
  obtain ⟨w_1, hg_2, h⟩ := bd_at h
  refine sw_ci (sw_runS (As := [.int x1, .int 0, .int ((t_row 14) - 1)]) (rest := []) Cx hP hD hS ms_X11_inRange ml_X11_81 (c_X11_inRange l G ca Z s.heap.size x1 0 ((t_row 14) - 1) w_1 hg_2) [] rfl rfl rfl rfl ⟨(Nat.le_of_ble_eq_true rfl), (Nat.le_of_ble_eq_true rfl)⟩ hl.1 rfl rfl (Nat.le_of_ble_eq_true rfl) dX11_isStriker_11 ⟨(Nat.le_of_ble_eq_true rfl), (Nat.le_of_ble_eq_true rfl)⟩) hP hD hS hA [] [0, 1] [0, 1] rfl rfl rfl (by decide) (fun _ => rfl) rfl (fun r u H locs hw hP hD hS => ?_)
  subst hw
  have hP : va_P G vwCl [(q_t, .inr (8, [z_t_now, z_t_draft, z_t_kept, z_t_snapshot, z_t_history, z_t_accounts, z_t_wheelPrimes, .ref q_t_row, z_t_undoCount, z_t_thrown, z_t_hasSnapshot, z_t_owner, z_t_times, z_t_end, z_t_ownerD, z_t_formatted, z_t_formattedLength, z_t_buffer, z_t_bufferLength, z_t_limit, z_t_nextByte, z_t_beginsAt, z_t_token, z_t_error, z_t_errorAt, z_t_errorPosition, z_t_nested, z_t_orders, z_t_orderWords, z_t_orderCount])), (q_t_row, .inl (ca 0, 45, .inl t_row))] H := hP
  have hD : va_D A [(q_t, .inr (8, [z_t_now, z_t_draft, z_t_kept, z_t_snapshot, z_t_history, z_t_accounts, z_t_wheelPrimes, .ref q_t_row, z_t_undoCount, z_t_thrown, z_t_hasSnapshot, z_t_owner, z_t_times, z_t_end, z_t_ownerD, z_t_formatted, z_t_formattedLength, z_t_buffer, z_t_bufferLength, z_t_limit, z_t_nextByte, z_t_beginsAt, z_t_token, z_t_error, z_t_errorAt, z_t_errorPosition, z_t_nested, z_t_orders, z_t_orderWords, z_t_orderCount])), (q_t_row, .inl (ca 0, 45, .inl t_row))] := hD
  exact sw_rz hx hb hr (bI_nar _) hlocks hS () (pb1 h) hP hD dX11_isStriker_14
theorem ms_X11_isD : sw_MS yX11_isD cX11_isD 1 (Option.some Jvm.ClassFile.FieldType.boolean) 1 := ⟨st_X11_isD, ini_X11, co_X11_isD, by decide +kernel⟩
def F_X11_isD (x0 : Int32) : Option (Bool) :=
 (F_X11_inRange x0 2 120).bind (fun w_1 => some w_1)
abbrev RM_X11_isD : Room := ({ frames := 1, cells := 0, slots := 0, locals := 22 } : Room)
set_option maxHeartbeats 4000000 in
set_option maxRecDepth 100000 in
theorem c_X11_isD (l : Launch) (G : va_G) (ca Z : Nat → Nat) (sz : Nat) (x0 : Int32) (res : Bool) (hF : F_X11_isD x0 = some res) : Met l yX11_isD (.code yX11_isD cX11_isD 1 (Option.some Jvm.ClassFile.FieldType.boolean) :: sw_U) RM_X11_isD (va_Pc [.int x0] (sw_Pre G ca Z [] sz)) ((fun A => va_Qi (fun r (u : Unit) => bI res = r) (sw_Post G A (fun (u : Unit) => [])) A) (va_A [] sz)) 0 0 (va_A [] sz) := by
  refine sw_ofW (Qc := fun A => va_Qi (fun r (u : Unit) => bI res = r) (sw_Post G A (fun (u : Unit) => [])) A) (by decide) [(0, .int x0)] rfl (Nat.le_of_ble_eq_true rfl) ?_
  intro p e s m args below meth c ls A hx hb hr hml hown htU hlocks hnm hP hK hD hX hY hS hA hl
  have hown : s.vm.findClass RX11 = some m.cls := hown
  have Cx : sw_Cx p s m args c cX11_isD 1 RX11 G ca Z A := ⟨⟨hx, hb, hml, hown, htU⟩, hK, hX, hY, hA⟩
  have h := hF
  unfold F_X11_isD at h
  refine lv_iload_n hx hb dX11_isD_0 rfl (lv_at hl 0 rfl) ?_
  refine lv_iconst (v := 2) hx hb dX11_isD_1 (by decide) ?_
  refine lv_bipush (v := 120) hx hb dX11_isD_2 (by decide) ?_
  obtain ⟨w_1, hg_2, h⟩ := bd_at h
  refine sw_ci (sw_runS (As := [.int x0, .int 2, .int 120]) (rest := []) Cx hP hD hS ms_X11_inRange ml_X11_81 (c_X11_inRange l G ca Z s.heap.size x0 2 120 w_1 hg_2) [] rfl rfl rfl rfl ⟨(Nat.le_of_ble_eq_true rfl), (Nat.le_of_ble_eq_true rfl)⟩ hl.1 rfl rfl (Nat.le_of_ble_eq_true rfl) dX11_isD_4 ⟨(Nat.le_of_ble_eq_true rfl), (Nat.le_of_ble_eq_true rfl)⟩) hP hD hS hA [] [] [] rfl rfl rfl (by decide) (fun _ => rfl) rfl (fun r u H locs hw hP hD hS => ?_)
  subst hw
  have hP : va_P G vwCl [] H := hP
  have hD : va_D A [] := hD
  exact sw_rz hx hb hr (bI_nar _) hlocks hS () (pb1 h) hP hD dX11_isD_7
theorem ms_X11_isRoom : sw_MS yX11_isRoom cX11_isRoom 1 (Option.some Jvm.ClassFile.FieldType.boolean) 1 := ⟨st_X11_isRoom, ini_X11, co_X11_isRoom, by decide +kernel⟩
def F_X11_isRoom (x0 : Int32) : Option (Bool) :=
 (F_X11_inRange x0 1 400).bind (fun w_1 => some w_1)
abbrev RM_X11_isRoom : Room := ({ frames := 1, cells := 0, slots := 0, locals := 22 } : Room)
set_option maxHeartbeats 4000000 in
set_option maxRecDepth 100000 in
theorem c_X11_isRoom (l : Launch) (G : va_G) (ca Z : Nat → Nat) (sz : Nat) (x0 : Int32) (res : Bool) (hF : F_X11_isRoom x0 = some res) : Met l yX11_isRoom (.code yX11_isRoom cX11_isRoom 1 (Option.some Jvm.ClassFile.FieldType.boolean) :: sw_U) RM_X11_isRoom (va_Pc [.int x0] (sw_Pre G ca Z [] sz)) ((fun A => va_Qi (fun r (u : Unit) => bI res = r) (sw_Post G A (fun (u : Unit) => [])) A) (va_A [] sz)) 0 0 (va_A [] sz) := by
  refine sw_ofW (Qc := fun A => va_Qi (fun r (u : Unit) => bI res = r) (sw_Post G A (fun (u : Unit) => [])) A) (by decide) [(0, .int x0)] rfl (Nat.le_of_ble_eq_true rfl) ?_
  intro p e s m args below meth c ls A hx hb hr hml hown htU hlocks hnm hP hK hD hX hY hS hA hl
  have hown : s.vm.findClass RX11 = some m.cls := hown
  have Cx : sw_Cx p s m args c cX11_isRoom 1 RX11 G ca Z A := ⟨⟨hx, hb, hml, hown, htU⟩, hK, hX, hY, hA⟩
  have h := hF
  unfold F_X11_isRoom at h
  refine lv_iload_n hx hb dX11_isRoom_0 rfl (lv_at hl 0 rfl) ?_
  refine lv_iconst (v := 1) hx hb dX11_isRoom_1 (by decide) ?_
  refine lv_sipush (v := 400) hx hb dX11_isRoom_2 (by decide) ?_
  obtain ⟨w_1, hg_2, h⟩ := bd_at h
  refine sw_ci (sw_runS (As := [.int x0, .int 1, .int 400]) (rest := []) Cx hP hD hS ms_X11_inRange ml_X11_81 (c_X11_inRange l G ca Z s.heap.size x0 1 400 w_1 hg_2) [] rfl rfl rfl rfl ⟨(Nat.le_of_ble_eq_true rfl), (Nat.le_of_ble_eq_true rfl)⟩ hl.1 rfl rfl (Nat.le_of_ble_eq_true rfl) dX11_isRoom_5 ⟨(Nat.le_of_ble_eq_true rfl), (Nat.le_of_ble_eq_true rfl)⟩) hP hD hS hA [] [] [] rfl rfl rfl (by decide) (fun _ => rfl) rfl (fun r u H locs hw hP hD hS => ?_)
  subst hw
  have hP : va_P G vwCl [] H := hP
  have hD : va_D A [] := hD
  exact sw_rz hx hb hr (bI_nar _) hlocks hS () (pb1 h) hP hD dX11_isRoom_8
theorem mv_X11_lastOf : sw_MV yX11_lastOf RX11 cX11_lastOf 4 (Option.some Jvm.ClassFile.FieldType.int) 1 := ⟨im_X11_lastOf, se_X11_lastOf, ini_X11, co_X11_lastOf, by decide +kernel⟩
def B_X11_lastOf_4 (x1 : Int32) (t_row : (Nat → Int32)) (k_4 : Int32 → Int32 → Option (Int32)) (x2 : Int32) (x3 : Int32) : Option (Int32) :=
 (if x1 ≤ x3 then some x2 else ix (2 + x3) 45 (nm ((x2 + (t_row (2 + x3).toNatClampNeg))) (fun x2_3 => nm (x3 + 1) (fun x3_4 => k_4 x2_3 x3_4))))
def F_X11_lastOf (x1 : Int32) (t_row : (Nat → Int32)) : Option (Int32) :=
 fx (fun _ _ => none) (B_X11_lastOf_4 x1 t_row) FUEL 1 0
abbrev RM_X11_lastOf : Room := ({ frames := 0, cells := 0, slots := 0, locals := 0 } : Room)
set_option maxHeartbeats 4000000 in
set_option maxRecDepth 100000 in
theorem c_X11_lastOf (l : Launch) (G : va_G) (ca Z : Nat → Nat) (q_t : Nat) (q_t_row : Nat) (z_t_now : Value) (z_t_draft : Value) (z_t_kept : Value) (z_t_snapshot : Value) (z_t_history : Value) (z_t_accounts : Value) (z_t_wheelPrimes : Value) (z_t_undoCount : Value) (z_t_thrown : Value) (z_t_hasSnapshot : Value) (z_t_owner : Value) (z_t_times : Value) (z_t_end : Value) (z_t_ownerD : Value) (z_t_formatted : Value) (z_t_formattedLength : Value) (z_t_buffer : Value) (z_t_bufferLength : Value) (z_t_limit : Value) (z_t_nextByte : Value) (z_t_beginsAt : Value) (z_t_token : Value) (z_t_error : Value) (z_t_errorAt : Value) (z_t_errorPosition : Value) (z_t_nested : Value) (z_t_orders : Value) (z_t_orderWords : Value) (z_t_orderCount : Value) (sz : Nat) (x1 : Int32) (t_row : (Nat → Int32)) (res : Int32) (hF : F_X11_lastOf x1 t_row = some res) : Met l yX11_lastOf (.code yX11_lastOf cX11_lastOf 4 (Option.some Jvm.ClassFile.FieldType.int) :: sw_U) RM_X11_lastOf (va_Pc [.ref q_t, .int x1] (sw_Pre G ca Z [(q_t, .inr (8, [z_t_now, z_t_draft, z_t_kept, z_t_snapshot, z_t_history, z_t_accounts, z_t_wheelPrimes, .ref q_t_row, z_t_undoCount, z_t_thrown, z_t_hasSnapshot, z_t_owner, z_t_times, z_t_end, z_t_ownerD, z_t_formatted, z_t_formattedLength, z_t_buffer, z_t_bufferLength, z_t_limit, z_t_nextByte, z_t_beginsAt, z_t_token, z_t_error, z_t_errorAt, z_t_errorPosition, z_t_nested, z_t_orders, z_t_orderWords, z_t_orderCount])), (q_t_row, .inl (ca 0, 45, .inl t_row))] sz)) ((fun A => va_Qi (fun r (u : Unit) => res = r) (sw_Post G A (fun (u : Unit) => [(q_t, .inr (8, [z_t_now, z_t_draft, z_t_kept, z_t_snapshot, z_t_history, z_t_accounts, z_t_wheelPrimes, .ref q_t_row, z_t_undoCount, z_t_thrown, z_t_hasSnapshot, z_t_owner, z_t_times, z_t_end, z_t_ownerD, z_t_formatted, z_t_formattedLength, z_t_buffer, z_t_bufferLength, z_t_limit, z_t_nextByte, z_t_beginsAt, z_t_token, z_t_error, z_t_errorAt, z_t_errorPosition, z_t_nested, z_t_orders, z_t_orderWords, z_t_orderCount])), (q_t_row, .inl (ca 0, 45, .inl t_row))])) A) (va_A [(q_t, .inr (8, [z_t_now, z_t_draft, z_t_kept, z_t_snapshot, z_t_history, z_t_accounts, z_t_wheelPrimes, .ref q_t_row, z_t_undoCount, z_t_thrown, z_t_hasSnapshot, z_t_owner, z_t_times, z_t_end, z_t_ownerD, z_t_formatted, z_t_formattedLength, z_t_buffer, z_t_bufferLength, z_t_limit, z_t_nextByte, z_t_beginsAt, z_t_token, z_t_error, z_t_errorAt, z_t_errorPosition, z_t_nested, z_t_orders, z_t_orderWords, z_t_orderCount])), (q_t_row, .inl (ca 0, 45, .inl t_row))] sz)) 0 0 (va_A [(q_t, .inr (8, [z_t_now, z_t_draft, z_t_kept, z_t_snapshot, z_t_history, z_t_accounts, z_t_wheelPrimes, .ref q_t_row, z_t_undoCount, z_t_thrown, z_t_hasSnapshot, z_t_owner, z_t_times, z_t_end, z_t_ownerD, z_t_formatted, z_t_formattedLength, z_t_buffer, z_t_bufferLength, z_t_limit, z_t_nextByte, z_t_beginsAt, z_t_token, z_t_error, z_t_errorAt, z_t_errorPosition, z_t_nested, z_t_orders, z_t_orderWords, z_t_orderCount])), (q_t_row, .inl (ca 0, 45, .inl t_row))] sz) := by
  refine sw_ofW (Qc := fun A => va_Qi (fun r (u : Unit) => res = r) (sw_Post G A (fun (u : Unit) => [(q_t, .inr (8, [z_t_now, z_t_draft, z_t_kept, z_t_snapshot, z_t_history, z_t_accounts, z_t_wheelPrimes, .ref q_t_row, z_t_undoCount, z_t_thrown, z_t_hasSnapshot, z_t_owner, z_t_times, z_t_end, z_t_ownerD, z_t_formatted, z_t_formattedLength, z_t_buffer, z_t_bufferLength, z_t_limit, z_t_nextByte, z_t_beginsAt, z_t_token, z_t_error, z_t_errorAt, z_t_errorPosition, z_t_nested, z_t_orders, z_t_orderWords, z_t_orderCount])), (q_t_row, .inl (ca 0, 45, .inl t_row))])) A) (by decide) [(0, .ref q_t), (1, .int x1)] rfl (Nat.le_of_ble_eq_true rfl) ?_
  intro p e s m args below meth c ls A hx hb hr hml hown htU hlocks hnm hP hK hD hX hY hS hA hl
  have hown : s.vm.findClass RX11 = some m.cls := hown
  have Cx : sw_Cx p s m args c cX11_lastOf 4 RX11 G ca Z A := ⟨⟨hx, hb, hml, hown, htU⟩, hK, hX, hY, hA⟩
  have h := hF
  unfold F_X11_lastOf at h
  have hL_4 : ∀ (n_4 : Nat) (x2 : Int32) (x3 : Int32) (ls : Array Slot) (H : Heap) (locs : List Loc), lv_has ls 4 [(0, .ref q_t), (1, .int x1), (2, .int x2), (3, .int x3)] → va_P G vwCl [(q_t, .inr (8, [z_t_now, z_t_draft, z_t_kept, z_t_snapshot, z_t_history, z_t_accounts, z_t_wheelPrimes, .ref q_t_row, z_t_undoCount, z_t_thrown, z_t_hasSnapshot, z_t_owner, z_t_times, z_t_end, z_t_ownerD, z_t_formatted, z_t_formattedLength, z_t_buffer, z_t_bufferLength, z_t_limit, z_t_nextByte, z_t_beginsAt, z_t_token, z_t_error, z_t_errorAt, z_t_errorPosition, z_t_nested, z_t_orders, z_t_orderWords, z_t_orderCount])), (q_t_row, .inl (ca 0, 45, .inl t_row))] H → va_D A [(q_t, .inr (8, [z_t_now, z_t_draft, z_t_kept, z_t_snapshot, z_t_history, z_t_accounts, z_t_wheelPrimes, .ref q_t_row, z_t_undoCount, z_t_thrown, z_t_hasSnapshot, z_t_owner, z_t_times, z_t_end, z_t_ownerD, z_t_formatted, z_t_formattedLength, z_t_buffer, z_t_bufferLength, z_t_limit, z_t_nextByte, z_t_beginsAt, z_t_token, z_t_error, z_t_errorAt, z_t_errorPosition, z_t_nested, z_t_orders, z_t_orderWords, z_t_orderCount])), (q_t_row, .inl (ca 0, 45, .inl t_row))] → va_S A s.heap H locs → fx (fun _ _ => none) (B_X11_lastOf_4 x1 t_row) n_4 x2 x3 = some res → W p l e RM_X11_lastOf s m args below meth c H locs 0 0 (MQ below ((fun A => va_Qi (fun r (u : Unit) => res = r) (sw_Post G A (fun (u : Unit) => [(q_t, .inr (8, [z_t_now, z_t_draft, z_t_kept, z_t_snapshot, z_t_history, z_t_accounts, z_t_wheelPrimes, .ref q_t_row, z_t_undoCount, z_t_thrown, z_t_hasSnapshot, z_t_owner, z_t_times, z_t_end, z_t_ownerD, z_t_formatted, z_t_formattedLength, z_t_buffer, z_t_bufferLength, z_t_limit, z_t_nextByte, z_t_beginsAt, z_t_token, z_t_error, z_t_errorAt, z_t_errorPosition, z_t_nested, z_t_orders, z_t_orderWords, z_t_orderCount])), (q_t_row, .inl (ca 0, 45, .inl t_row))])) A) A) args s 0 0 A) (F0 m 4 ls []) := by
    intro n_4
    induction n_4 with
    | zero => intro x2 x3 ls H locs hl hP hD hS h; exact no_at h
    | succ n_4 ih_4 =>
      intro x2 x3 ls H locs hl hP hD hS h
      rw [fx_s] at h
      unfold B_X11_lastOf_4 at h
      refine lv_iload_n hx hb dX11_lastOf_4 rfl (lv_at hl 3 rfl) ?_
      refine lv_iload_n hx hb dX11_lastOf_5 rfl (lv_at hl 1 rfl) ?_
      refine lv_icmp_ge (tgt := 26) hx hb dX11_lastOf_6 (by decide) (fun c_1 => ?_) (fun c_1 => ?_)
      · have h := if_t c_1 h
        refine lv_iload_n hx hb dX11_lastOf_26 rfl (lv_at hl 2 rfl) ?_
        exact sw_ri hx hb hr hlocks hS () (pr1 h) hP hD dX11_lastOf_27
      · have h := if_f c_1 h
        refine lv_iload_n hx hb dX11_lastOf_9 rfl (lv_at hl 2 rfl) ?_
        refine lv_aload_n hx hb dX11_lastOf_10 rfl (lv_at hl 0 rfl) ?_
        refine va_get (v := .ref q_t_row) hx hb htU iU_X11 hown hK hP 0 rfl rfl 7 (by decide) (htU _ fl_X11_31) (fun _ h9 => h9) rfl dX11_lastOf_11 ?_
        refine lv_iconst (v := 2) hx hb dX11_lastOf_14 (by decide) ?_
        refine lv_iload_n hx hb dX11_lastOf_15 rfl (lv_at hl 3 rfl) ?_
        refine lv_iadd hx hb dX11_lastOf_16 ?_
        obtain ⟨hi_2, h⟩ := ix_at h
        refine va_iald hx hb hK hP 1 0 rfl rfl hi_2 dX11_lastOf_17 ?_
        refine lv_iadd hx hb dX11_lastOf_18 ?_
        refine lv_topi (fun x2_3 e_x2_3 => ?_)
        have h := nm_at e_x2_3 h
        refine lv_istore_n (lv' := [(2, .int x2_3), (0, .ref q_t), (1, .int x1), (3, .int x3)]) hx hb dX11_lastOf_19 rfl hl (by decide) rfl (fun ls hl => ?_)
        obtain ⟨x3_4, e_x3_4⟩ : ∃ y : Int32, y = x3 + 1 := ⟨_, rfl⟩
        refine lv_iinc (v := x3_4) (lv' := [(3, .int x3_4), (2, .int x2_3), (0, .ref q_t), (1, .int x1)]) hx hb dX11_lastOf_20 hl (k := 3) rfl (by rw [e_x3_4]; rfl) (by decide) rfl (fun ls hl => ?_)
        have h := nm_at e_x3_4 h
        refine lv_goto (tgt := 4) hx hb dX11_lastOf_23 (by decide) ?_
        exact ih_4 x2_3 x3_4 ls H _ (lv_sub hl [2, 3, 1, 0] rfl) hP hD hS h
  refine lv_iconst (v := 1) hx hb dX11_lastOf_0 (by decide) ?_
  refine lv_istore_n (lv' := [(2, .int 1), (0, .ref q_t), (1, .int x1)]) hx hb dX11_lastOf_1 rfl hl (by decide) rfl (fun ls hl => ?_)
  refine lv_iconst (v := 0) hx hb dX11_lastOf_2 (by decide) ?_
  refine lv_istore_n (lv' := [(3, .int 0), (2, .int 1), (0, .ref q_t), (1, .int x1)]) hx hb dX11_lastOf_3 rfl hl (by decide) rfl (fun ls hl => ?_)
  exact hL_4 FUEL 1 0 ls s.heap _ (lv_sub hl [2, 3, 1, 0] rfl) hP hD hS h
theorem mv_X11_last : sw_MV yX11_last RX11 cX11_last 1 (Option.some Jvm.ClassFile.FieldType.int) 0 := ⟨im_X11_last, se_X11_last, ini_X11, co_X11_last, by decide +kernel⟩
def F_X11_last (t_row : (Nat → Int32)) : Option (Int32) :=
 (F_X11_lastOf (t_row 1) t_row).bind (fun w_1 => some w_1)
abbrev RM_X11_last : Room := ({ frames := 1, cells := 0, slots := 0, locals := 23 } : Room)
set_option maxHeartbeats 4000000 in
set_option maxRecDepth 100000 in
theorem c_X11_last (l : Launch) (G : va_G) (ca Z : Nat → Nat) (q_t : Nat) (q_t_row : Nat) (z_t_now : Value) (z_t_draft : Value) (z_t_kept : Value) (z_t_snapshot : Value) (z_t_history : Value) (z_t_accounts : Value) (z_t_wheelPrimes : Value) (z_t_undoCount : Value) (z_t_thrown : Value) (z_t_hasSnapshot : Value) (z_t_owner : Value) (z_t_times : Value) (z_t_end : Value) (z_t_ownerD : Value) (z_t_formatted : Value) (z_t_formattedLength : Value) (z_t_buffer : Value) (z_t_bufferLength : Value) (z_t_limit : Value) (z_t_nextByte : Value) (z_t_beginsAt : Value) (z_t_token : Value) (z_t_error : Value) (z_t_errorAt : Value) (z_t_errorPosition : Value) (z_t_nested : Value) (z_t_orders : Value) (z_t_orderWords : Value) (z_t_orderCount : Value) (sz : Nat) (t_row : (Nat → Int32)) (res : Int32) (hF : F_X11_last t_row = some res) : Met l yX11_last (.code yX11_last cX11_last 1 (Option.some Jvm.ClassFile.FieldType.int) :: sw_U) RM_X11_last (va_Pc [.ref q_t] (sw_Pre G ca Z [(q_t, .inr (8, [z_t_now, z_t_draft, z_t_kept, z_t_snapshot, z_t_history, z_t_accounts, z_t_wheelPrimes, .ref q_t_row, z_t_undoCount, z_t_thrown, z_t_hasSnapshot, z_t_owner, z_t_times, z_t_end, z_t_ownerD, z_t_formatted, z_t_formattedLength, z_t_buffer, z_t_bufferLength, z_t_limit, z_t_nextByte, z_t_beginsAt, z_t_token, z_t_error, z_t_errorAt, z_t_errorPosition, z_t_nested, z_t_orders, z_t_orderWords, z_t_orderCount])), (q_t_row, .inl (ca 0, 45, .inl t_row))] sz)) ((fun A => va_Qi (fun r (u : Unit) => res = r) (sw_Post G A (fun (u : Unit) => [(q_t, .inr (8, [z_t_now, z_t_draft, z_t_kept, z_t_snapshot, z_t_history, z_t_accounts, z_t_wheelPrimes, .ref q_t_row, z_t_undoCount, z_t_thrown, z_t_hasSnapshot, z_t_owner, z_t_times, z_t_end, z_t_ownerD, z_t_formatted, z_t_formattedLength, z_t_buffer, z_t_bufferLength, z_t_limit, z_t_nextByte, z_t_beginsAt, z_t_token, z_t_error, z_t_errorAt, z_t_errorPosition, z_t_nested, z_t_orders, z_t_orderWords, z_t_orderCount])), (q_t_row, .inl (ca 0, 45, .inl t_row))])) A) (va_A [(q_t, .inr (8, [z_t_now, z_t_draft, z_t_kept, z_t_snapshot, z_t_history, z_t_accounts, z_t_wheelPrimes, .ref q_t_row, z_t_undoCount, z_t_thrown, z_t_hasSnapshot, z_t_owner, z_t_times, z_t_end, z_t_ownerD, z_t_formatted, z_t_formattedLength, z_t_buffer, z_t_bufferLength, z_t_limit, z_t_nextByte, z_t_beginsAt, z_t_token, z_t_error, z_t_errorAt, z_t_errorPosition, z_t_nested, z_t_orders, z_t_orderWords, z_t_orderCount])), (q_t_row, .inl (ca 0, 45, .inl t_row))] sz)) 0 0 (va_A [(q_t, .inr (8, [z_t_now, z_t_draft, z_t_kept, z_t_snapshot, z_t_history, z_t_accounts, z_t_wheelPrimes, .ref q_t_row, z_t_undoCount, z_t_thrown, z_t_hasSnapshot, z_t_owner, z_t_times, z_t_end, z_t_ownerD, z_t_formatted, z_t_formattedLength, z_t_buffer, z_t_bufferLength, z_t_limit, z_t_nextByte, z_t_beginsAt, z_t_token, z_t_error, z_t_errorAt, z_t_errorPosition, z_t_nested, z_t_orders, z_t_orderWords, z_t_orderCount])), (q_t_row, .inl (ca 0, 45, .inl t_row))] sz) := by
  refine sw_ofW (Qc := fun A => va_Qi (fun r (u : Unit) => res = r) (sw_Post G A (fun (u : Unit) => [(q_t, .inr (8, [z_t_now, z_t_draft, z_t_kept, z_t_snapshot, z_t_history, z_t_accounts, z_t_wheelPrimes, .ref q_t_row, z_t_undoCount, z_t_thrown, z_t_hasSnapshot, z_t_owner, z_t_times, z_t_end, z_t_ownerD, z_t_formatted, z_t_formattedLength, z_t_buffer, z_t_bufferLength, z_t_limit, z_t_nextByte, z_t_beginsAt, z_t_token, z_t_error, z_t_errorAt, z_t_errorPosition, z_t_nested, z_t_orders, z_t_orderWords, z_t_orderCount])), (q_t_row, .inl (ca 0, 45, .inl t_row))])) A) (by decide) [(0, .ref q_t)] rfl (Nat.le_of_ble_eq_true rfl) ?_
  intro p e s m args below meth c ls A hx hb hr hml hown htU hlocks hnm hP hK hD hX hY hS hA hl
  have hown : s.vm.findClass RX11 = some m.cls := hown
  have Cx : sw_Cx p s m args c cX11_last 1 RX11 G ca Z A := ⟨⟨hx, hb, hml, hown, htU⟩, hK, hX, hY, hA⟩
  have h := hF
  unfold F_X11_last at h
  refine lv_aload_n hx hb dX11_last_0 rfl (lv_at hl 0 rfl) ?_
  refine lv_aload_n hx hb dX11_last_1 rfl (lv_at hl 0 rfl) ?_
  refine va_get (v := .ref q_t_row) hx hb htU iU_X11 hown hK hP 0 rfl rfl 7 (by decide) (htU _ fl_X11_31) (fun _ h9 => h9) rfl dX11_last_2 ?_
  refine lv_iconst (v := 1) hx hb dX11_last_5 (by decide) ?_
  refine sw_iald0 hx hb hK hP 1 0 rfl rfl 1 rfl (sw_vin (by decide)) dX11_last_6 ?_
  obtain ⟨w_1, hg_2, h⟩ := bd_at h
  refine sw_ci (sw_runV (As := [.int (t_row 1)]) (rest := []) Cx hP hD hS mv_X11_lastOf ml_X11_85 (c_X11_lastOf l G ca Z q_t q_t_row (z_t_now) (z_t_draft) (z_t_kept) (z_t_snapshot) (z_t_history) (z_t_accounts) (z_t_wheelPrimes) (z_t_undoCount) (z_t_thrown) (z_t_hasSnapshot) (z_t_owner) (z_t_times) (z_t_end) (z_t_ownerD) (z_t_formatted) (z_t_formattedLength) (z_t_buffer) (z_t_bufferLength) (z_t_limit) (z_t_nextByte) (z_t_beginsAt) (z_t_token) (z_t_error) (z_t_errorAt) (z_t_errorPosition) (z_t_nested) (z_t_orders) (z_t_orderWords) (z_t_orderCount) s.heap.size (t_row 1) t_row w_1 hg_2) 8 rfl rfl rfl [0, 1] rfl rfl rfl rfl ⟨(Nat.le_of_ble_eq_true rfl), (Nat.le_of_ble_eq_true rfl)⟩ hl.1 rfl rfl (Nat.le_of_ble_eq_true rfl) dX11_last_7 ⟨(Nat.le_of_ble_eq_true rfl), (Nat.le_of_ble_eq_true rfl)⟩) hP hD hS hA [0, 1] [] [0, 1] rfl rfl rfl (by decide) (fun _ => rfl) rfl (fun r u H locs hw hP hD hS => ?_)
  subst hw
  have hP : va_P G vwCl [(q_t, .inr (8, [z_t_now, z_t_draft, z_t_kept, z_t_snapshot, z_t_history, z_t_accounts, z_t_wheelPrimes, .ref q_t_row, z_t_undoCount, z_t_thrown, z_t_hasSnapshot, z_t_owner, z_t_times, z_t_end, z_t_ownerD, z_t_formatted, z_t_formattedLength, z_t_buffer, z_t_bufferLength, z_t_limit, z_t_nextByte, z_t_beginsAt, z_t_token, z_t_error, z_t_errorAt, z_t_errorPosition, z_t_nested, z_t_orders, z_t_orderWords, z_t_orderCount])), (q_t_row, .inl (ca 0, 45, .inl t_row))] H := hP
  have hD : va_D A [(q_t, .inr (8, [z_t_now, z_t_draft, z_t_kept, z_t_snapshot, z_t_history, z_t_accounts, z_t_wheelPrimes, .ref q_t_row, z_t_undoCount, z_t_thrown, z_t_hasSnapshot, z_t_owner, z_t_times, z_t_end, z_t_ownerD, z_t_formatted, z_t_formattedLength, z_t_buffer, z_t_bufferLength, z_t_limit, z_t_nextByte, z_t_beginsAt, z_t_token, z_t_error, z_t_errorAt, z_t_errorPosition, z_t_nested, z_t_orders, z_t_orderWords, z_t_orderCount])), (q_t_row, .inl (ca 0, 45, .inl t_row))] := hD
  exact sw_ri hx hb hr hlocks hS () (pr1 h) hP hD dX11_last_10
theorem mv_X11_isLaid : sw_MV yX11_isLaid RX11 cX11_isLaid 2 (Option.some Jvm.ClassFile.FieldType.boolean) 1 := ⟨im_X11_isLaid, se_X11_isLaid, ini_X11, co_X11_isLaid, by decide +kernel⟩
def F_X11_isLaid (x1 : Int32) (t_row : (Nat → Int32)) : Option (Bool) :=
 (F_X11_last t_row).bind (fun w_1 => (F_X11_inRange x1 2 w_1).bind (fun w_3 => some w_3))
abbrev RM_X11_isLaid : Room := ({ frames := 2, cells := 0, slots := 0, locals := 43 } : Room)
set_option maxHeartbeats 4000000 in
set_option maxRecDepth 100000 in
theorem c_X11_isLaid (l : Launch) (G : va_G) (ca Z : Nat → Nat) (q_t : Nat) (q_t_row : Nat) (z_t_now : Value) (z_t_draft : Value) (z_t_kept : Value) (z_t_snapshot : Value) (z_t_history : Value) (z_t_accounts : Value) (z_t_wheelPrimes : Value) (z_t_undoCount : Value) (z_t_thrown : Value) (z_t_hasSnapshot : Value) (z_t_owner : Value) (z_t_times : Value) (z_t_end : Value) (z_t_ownerD : Value) (z_t_formatted : Value) (z_t_formattedLength : Value) (z_t_buffer : Value) (z_t_bufferLength : Value) (z_t_limit : Value) (z_t_nextByte : Value) (z_t_beginsAt : Value) (z_t_token : Value) (z_t_error : Value) (z_t_errorAt : Value) (z_t_errorPosition : Value) (z_t_nested : Value) (z_t_orders : Value) (z_t_orderWords : Value) (z_t_orderCount : Value) (sz : Nat) (x1 : Int32) (t_row : (Nat → Int32)) (res : Bool) (hF : F_X11_isLaid x1 t_row = some res) : Met l yX11_isLaid (.code yX11_isLaid cX11_isLaid 2 (Option.some Jvm.ClassFile.FieldType.boolean) :: sw_U) RM_X11_isLaid (va_Pc [.ref q_t, .int x1] (sw_Pre G ca Z [(q_t, .inr (8, [z_t_now, z_t_draft, z_t_kept, z_t_snapshot, z_t_history, z_t_accounts, z_t_wheelPrimes, .ref q_t_row, z_t_undoCount, z_t_thrown, z_t_hasSnapshot, z_t_owner, z_t_times, z_t_end, z_t_ownerD, z_t_formatted, z_t_formattedLength, z_t_buffer, z_t_bufferLength, z_t_limit, z_t_nextByte, z_t_beginsAt, z_t_token, z_t_error, z_t_errorAt, z_t_errorPosition, z_t_nested, z_t_orders, z_t_orderWords, z_t_orderCount])), (q_t_row, .inl (ca 0, 45, .inl t_row))] sz)) ((fun A => va_Qi (fun r (u : Unit) => bI res = r) (sw_Post G A (fun (u : Unit) => [(q_t, .inr (8, [z_t_now, z_t_draft, z_t_kept, z_t_snapshot, z_t_history, z_t_accounts, z_t_wheelPrimes, .ref q_t_row, z_t_undoCount, z_t_thrown, z_t_hasSnapshot, z_t_owner, z_t_times, z_t_end, z_t_ownerD, z_t_formatted, z_t_formattedLength, z_t_buffer, z_t_bufferLength, z_t_limit, z_t_nextByte, z_t_beginsAt, z_t_token, z_t_error, z_t_errorAt, z_t_errorPosition, z_t_nested, z_t_orders, z_t_orderWords, z_t_orderCount])), (q_t_row, .inl (ca 0, 45, .inl t_row))])) A) (va_A [(q_t, .inr (8, [z_t_now, z_t_draft, z_t_kept, z_t_snapshot, z_t_history, z_t_accounts, z_t_wheelPrimes, .ref q_t_row, z_t_undoCount, z_t_thrown, z_t_hasSnapshot, z_t_owner, z_t_times, z_t_end, z_t_ownerD, z_t_formatted, z_t_formattedLength, z_t_buffer, z_t_bufferLength, z_t_limit, z_t_nextByte, z_t_beginsAt, z_t_token, z_t_error, z_t_errorAt, z_t_errorPosition, z_t_nested, z_t_orders, z_t_orderWords, z_t_orderCount])), (q_t_row, .inl (ca 0, 45, .inl t_row))] sz)) 0 0 (va_A [(q_t, .inr (8, [z_t_now, z_t_draft, z_t_kept, z_t_snapshot, z_t_history, z_t_accounts, z_t_wheelPrimes, .ref q_t_row, z_t_undoCount, z_t_thrown, z_t_hasSnapshot, z_t_owner, z_t_times, z_t_end, z_t_ownerD, z_t_formatted, z_t_formattedLength, z_t_buffer, z_t_bufferLength, z_t_limit, z_t_nextByte, z_t_beginsAt, z_t_token, z_t_error, z_t_errorAt, z_t_errorPosition, z_t_nested, z_t_orders, z_t_orderWords, z_t_orderCount])), (q_t_row, .inl (ca 0, 45, .inl t_row))] sz) := by
  refine sw_ofW (Qc := fun A => va_Qi (fun r (u : Unit) => bI res = r) (sw_Post G A (fun (u : Unit) => [(q_t, .inr (8, [z_t_now, z_t_draft, z_t_kept, z_t_snapshot, z_t_history, z_t_accounts, z_t_wheelPrimes, .ref q_t_row, z_t_undoCount, z_t_thrown, z_t_hasSnapshot, z_t_owner, z_t_times, z_t_end, z_t_ownerD, z_t_formatted, z_t_formattedLength, z_t_buffer, z_t_bufferLength, z_t_limit, z_t_nextByte, z_t_beginsAt, z_t_token, z_t_error, z_t_errorAt, z_t_errorPosition, z_t_nested, z_t_orders, z_t_orderWords, z_t_orderCount])), (q_t_row, .inl (ca 0, 45, .inl t_row))])) A) (by decide) [(0, .ref q_t), (1, .int x1)] rfl (Nat.le_of_ble_eq_true rfl) ?_
  intro p e s m args below meth c ls A hx hb hr hml hown htU hlocks hnm hP hK hD hX hY hS hA hl
  have hown : s.vm.findClass RX11 = some m.cls := hown
  have Cx : sw_Cx p s m args c cX11_isLaid 2 RX11 G ca Z A := ⟨⟨hx, hb, hml, hown, htU⟩, hK, hX, hY, hA⟩
  have h := hF
  unfold F_X11_isLaid at h
  refine lv_iload_n hx hb dX11_isLaid_0 rfl (lv_at hl 1 rfl) ?_
  refine lv_iconst (v := 2) hx hb dX11_isLaid_1 (by decide) ?_
  refine lv_aload_n hx hb dX11_isLaid_2 rfl (lv_at hl 0 rfl) ?_
  obtain ⟨w_1, hg_2, h⟩ := bd_at h
  refine sw_ci (sw_runV (As := []) (rest := [.int 2, .int x1]) Cx hP hD hS mv_X11_last ml_X11_89 (c_X11_last l G ca Z q_t q_t_row (z_t_now) (z_t_draft) (z_t_kept) (z_t_snapshot) (z_t_history) (z_t_accounts) (z_t_wheelPrimes) (z_t_undoCount) (z_t_thrown) (z_t_hasSnapshot) (z_t_owner) (z_t_times) (z_t_end) (z_t_ownerD) (z_t_formatted) (z_t_formattedLength) (z_t_buffer) (z_t_bufferLength) (z_t_limit) (z_t_nextByte) (z_t_beginsAt) (z_t_token) (z_t_error) (z_t_errorAt) (z_t_errorPosition) (z_t_nested) (z_t_orders) (z_t_orderWords) (z_t_orderCount) s.heap.size t_row w_1 hg_2) 8 rfl rfl rfl [0, 1] rfl rfl rfl rfl ⟨(Nat.le_of_ble_eq_true rfl), (Nat.le_of_ble_eq_true rfl)⟩ hl.1 rfl rfl (Nat.le_of_ble_eq_true rfl) dX11_isLaid_3 ⟨(Nat.le_of_ble_eq_true rfl), (Nat.le_of_ble_eq_true rfl)⟩) hP hD hS hA [0, 1] [] [0, 1] rfl rfl rfl (by decide) (fun _ => rfl) rfl (fun r u H locs hw hP hD hS => ?_)
  subst hw
  have hP : va_P G vwCl [(q_t, .inr (8, [z_t_now, z_t_draft, z_t_kept, z_t_snapshot, z_t_history, z_t_accounts, z_t_wheelPrimes, .ref q_t_row, z_t_undoCount, z_t_thrown, z_t_hasSnapshot, z_t_owner, z_t_times, z_t_end, z_t_ownerD, z_t_formatted, z_t_formattedLength, z_t_buffer, z_t_bufferLength, z_t_limit, z_t_nextByte, z_t_beginsAt, z_t_token, z_t_error, z_t_errorAt, z_t_errorPosition, z_t_nested, z_t_orders, z_t_orderWords, z_t_orderCount])), (q_t_row, .inl (ca 0, 45, .inl t_row))] H := hP
  have hD : va_D A [(q_t, .inr (8, [z_t_now, z_t_draft, z_t_kept, z_t_snapshot, z_t_history, z_t_accounts, z_t_wheelPrimes, .ref q_t_row, z_t_undoCount, z_t_thrown, z_t_hasSnapshot, z_t_owner, z_t_times, z_t_end, z_t_ownerD, z_t_formatted, z_t_formattedLength, z_t_buffer, z_t_bufferLength, z_t_limit, z_t_nextByte, z_t_beginsAt, z_t_token, z_t_error, z_t_errorAt, z_t_errorPosition, z_t_nested, z_t_orders, z_t_orderWords, z_t_orderCount])), (q_t_row, .inl (ca 0, 45, .inl t_row))] := hD
  obtain ⟨w_3, hg_4, h⟩ := bd_at h
  refine sw_ci (sw_runS (As := [.int x1, .int 2, .int w_1]) (rest := []) Cx hP hD hS ms_X11_inRange ml_X11_81 (c_X11_inRange l G ca Z H.size x1 2 w_1 w_3 hg_4) [] rfl rfl rfl rfl ⟨(Nat.le_of_ble_eq_true rfl), (Nat.le_of_ble_eq_true rfl)⟩ hl.1 rfl rfl (Nat.le_of_ble_eq_true rfl) dX11_isLaid_6 ⟨(Nat.le_of_ble_eq_true rfl), (Nat.le_of_ble_eq_true rfl)⟩) hP hD hS hA [] [0, 1] [0, 1] rfl rfl rfl (by decide) (fun _ => rfl) rfl (fun r u H locs hw hP hD hS => ?_)
  subst hw
  have hP : va_P G vwCl [(q_t, .inr (8, [z_t_now, z_t_draft, z_t_kept, z_t_snapshot, z_t_history, z_t_accounts, z_t_wheelPrimes, .ref q_t_row, z_t_undoCount, z_t_thrown, z_t_hasSnapshot, z_t_owner, z_t_times, z_t_end, z_t_ownerD, z_t_formatted, z_t_formattedLength, z_t_buffer, z_t_bufferLength, z_t_limit, z_t_nextByte, z_t_beginsAt, z_t_token, z_t_error, z_t_errorAt, z_t_errorPosition, z_t_nested, z_t_orders, z_t_orderWords, z_t_orderCount])), (q_t_row, .inl (ca 0, 45, .inl t_row))] H := hP
  have hD : va_D A [(q_t, .inr (8, [z_t_now, z_t_draft, z_t_kept, z_t_snapshot, z_t_history, z_t_accounts, z_t_wheelPrimes, .ref q_t_row, z_t_undoCount, z_t_thrown, z_t_hasSnapshot, z_t_owner, z_t_times, z_t_end, z_t_ownerD, z_t_formatted, z_t_formattedLength, z_t_buffer, z_t_bufferLength, z_t_limit, z_t_nextByte, z_t_beginsAt, z_t_token, z_t_error, z_t_errorAt, z_t_errorPosition, z_t_nested, z_t_orders, z_t_orderWords, z_t_orderCount])), (q_t_row, .inl (ca 0, 45, .inl t_row))] := hD
  exact sw_rz hx hb hr (bI_nar _) hlocks hS () (pb1 h) hP hD dX11_isLaid_9
theorem mv_X11_placeOf : sw_MV yX11_placeOf RX11 cX11_placeOf 3 (Option.some Jvm.ClassFile.FieldType.int) 1 := ⟨im_X11_placeOf, se_X11_placeOf, ini_X11, co_X11_placeOf, by decide +kernel⟩
def B_X11_placeOf_2 (x1 : Int32) (t_row : (Nat → Int32)) (k_2 : Int32 → Option (Int32)) (x2 : Int32) : Option (Int32) :=
 (if (t_row 14) ≤ x2 then some (-1) else ix (15 + x2) 45 ((if (t_row (15 + x2).toNatClampNeg) = x1 then some x2 else nm (x2 + 1) (fun x2_4 => k_2 x2_4))))
def F_X11_placeOf (x1 : Int32) (t_row : (Nat → Int32)) : Option (Int32) :=
 fx (fun _ => none) (B_X11_placeOf_2 x1 t_row) FUEL 0
abbrev RM_X11_placeOf : Room := ({ frames := 0, cells := 0, slots := 0, locals := 0 } : Room)
set_option maxHeartbeats 4000000 in
set_option maxRecDepth 100000 in
theorem c_X11_placeOf (l : Launch) (G : va_G) (ca Z : Nat → Nat) (q_t : Nat) (q_t_row : Nat) (z_t_now : Value) (z_t_draft : Value) (z_t_kept : Value) (z_t_snapshot : Value) (z_t_history : Value) (z_t_accounts : Value) (z_t_wheelPrimes : Value) (z_t_undoCount : Value) (z_t_thrown : Value) (z_t_hasSnapshot : Value) (z_t_owner : Value) (z_t_times : Value) (z_t_end : Value) (z_t_ownerD : Value) (z_t_formatted : Value) (z_t_formattedLength : Value) (z_t_buffer : Value) (z_t_bufferLength : Value) (z_t_limit : Value) (z_t_nextByte : Value) (z_t_beginsAt : Value) (z_t_token : Value) (z_t_error : Value) (z_t_errorAt : Value) (z_t_errorPosition : Value) (z_t_nested : Value) (z_t_orders : Value) (z_t_orderWords : Value) (z_t_orderCount : Value) (sz : Nat) (x1 : Int32) (t_row : (Nat → Int32)) (res : Int32) (hF : F_X11_placeOf x1 t_row = some res) : Met l yX11_placeOf (.code yX11_placeOf cX11_placeOf 3 (Option.some Jvm.ClassFile.FieldType.int) :: sw_U) RM_X11_placeOf (va_Pc [.ref q_t, .int x1] (sw_Pre G ca Z [(q_t, .inr (8, [z_t_now, z_t_draft, z_t_kept, z_t_snapshot, z_t_history, z_t_accounts, z_t_wheelPrimes, .ref q_t_row, z_t_undoCount, z_t_thrown, z_t_hasSnapshot, z_t_owner, z_t_times, z_t_end, z_t_ownerD, z_t_formatted, z_t_formattedLength, z_t_buffer, z_t_bufferLength, z_t_limit, z_t_nextByte, z_t_beginsAt, z_t_token, z_t_error, z_t_errorAt, z_t_errorPosition, z_t_nested, z_t_orders, z_t_orderWords, z_t_orderCount])), (q_t_row, .inl (ca 0, 45, .inl t_row))] sz)) ((fun A => va_Qi (fun r (u : Unit) => res = r) (sw_Post G A (fun (u : Unit) => [(q_t, .inr (8, [z_t_now, z_t_draft, z_t_kept, z_t_snapshot, z_t_history, z_t_accounts, z_t_wheelPrimes, .ref q_t_row, z_t_undoCount, z_t_thrown, z_t_hasSnapshot, z_t_owner, z_t_times, z_t_end, z_t_ownerD, z_t_formatted, z_t_formattedLength, z_t_buffer, z_t_bufferLength, z_t_limit, z_t_nextByte, z_t_beginsAt, z_t_token, z_t_error, z_t_errorAt, z_t_errorPosition, z_t_nested, z_t_orders, z_t_orderWords, z_t_orderCount])), (q_t_row, .inl (ca 0, 45, .inl t_row))])) A) (va_A [(q_t, .inr (8, [z_t_now, z_t_draft, z_t_kept, z_t_snapshot, z_t_history, z_t_accounts, z_t_wheelPrimes, .ref q_t_row, z_t_undoCount, z_t_thrown, z_t_hasSnapshot, z_t_owner, z_t_times, z_t_end, z_t_ownerD, z_t_formatted, z_t_formattedLength, z_t_buffer, z_t_bufferLength, z_t_limit, z_t_nextByte, z_t_beginsAt, z_t_token, z_t_error, z_t_errorAt, z_t_errorPosition, z_t_nested, z_t_orders, z_t_orderWords, z_t_orderCount])), (q_t_row, .inl (ca 0, 45, .inl t_row))] sz)) 0 0 (va_A [(q_t, .inr (8, [z_t_now, z_t_draft, z_t_kept, z_t_snapshot, z_t_history, z_t_accounts, z_t_wheelPrimes, .ref q_t_row, z_t_undoCount, z_t_thrown, z_t_hasSnapshot, z_t_owner, z_t_times, z_t_end, z_t_ownerD, z_t_formatted, z_t_formattedLength, z_t_buffer, z_t_bufferLength, z_t_limit, z_t_nextByte, z_t_beginsAt, z_t_token, z_t_error, z_t_errorAt, z_t_errorPosition, z_t_nested, z_t_orders, z_t_orderWords, z_t_orderCount])), (q_t_row, .inl (ca 0, 45, .inl t_row))] sz) := by
  refine sw_ofW (Qc := fun A => va_Qi (fun r (u : Unit) => res = r) (sw_Post G A (fun (u : Unit) => [(q_t, .inr (8, [z_t_now, z_t_draft, z_t_kept, z_t_snapshot, z_t_history, z_t_accounts, z_t_wheelPrimes, .ref q_t_row, z_t_undoCount, z_t_thrown, z_t_hasSnapshot, z_t_owner, z_t_times, z_t_end, z_t_ownerD, z_t_formatted, z_t_formattedLength, z_t_buffer, z_t_bufferLength, z_t_limit, z_t_nextByte, z_t_beginsAt, z_t_token, z_t_error, z_t_errorAt, z_t_errorPosition, z_t_nested, z_t_orders, z_t_orderWords, z_t_orderCount])), (q_t_row, .inl (ca 0, 45, .inl t_row))])) A) (by decide) [(0, .ref q_t), (1, .int x1)] rfl (Nat.le_of_ble_eq_true rfl) ?_
  intro p e s m args below meth c ls A hx hb hr hml hown htU hlocks hnm hP hK hD hX hY hS hA hl
  have hown : s.vm.findClass RX11 = some m.cls := hown
  have Cx : sw_Cx p s m args c cX11_placeOf 3 RX11 G ca Z A := ⟨⟨hx, hb, hml, hown, htU⟩, hK, hX, hY, hA⟩
  have h := hF
  unfold F_X11_placeOf at h
  have hL_2 : ∀ (n_2 : Nat) (x2 : Int32) (ls : Array Slot) (H : Heap) (locs : List Loc), lv_has ls 3 [(0, .ref q_t), (1, .int x1), (2, .int x2)] → va_P G vwCl [(q_t, .inr (8, [z_t_now, z_t_draft, z_t_kept, z_t_snapshot, z_t_history, z_t_accounts, z_t_wheelPrimes, .ref q_t_row, z_t_undoCount, z_t_thrown, z_t_hasSnapshot, z_t_owner, z_t_times, z_t_end, z_t_ownerD, z_t_formatted, z_t_formattedLength, z_t_buffer, z_t_bufferLength, z_t_limit, z_t_nextByte, z_t_beginsAt, z_t_token, z_t_error, z_t_errorAt, z_t_errorPosition, z_t_nested, z_t_orders, z_t_orderWords, z_t_orderCount])), (q_t_row, .inl (ca 0, 45, .inl t_row))] H → va_D A [(q_t, .inr (8, [z_t_now, z_t_draft, z_t_kept, z_t_snapshot, z_t_history, z_t_accounts, z_t_wheelPrimes, .ref q_t_row, z_t_undoCount, z_t_thrown, z_t_hasSnapshot, z_t_owner, z_t_times, z_t_end, z_t_ownerD, z_t_formatted, z_t_formattedLength, z_t_buffer, z_t_bufferLength, z_t_limit, z_t_nextByte, z_t_beginsAt, z_t_token, z_t_error, z_t_errorAt, z_t_errorPosition, z_t_nested, z_t_orders, z_t_orderWords, z_t_orderCount])), (q_t_row, .inl (ca 0, 45, .inl t_row))] → va_S A s.heap H locs → fx (fun _ => none) (B_X11_placeOf_2 x1 t_row) n_2 x2 = some res → W p l e RM_X11_placeOf s m args below meth c H locs 0 0 (MQ below ((fun A => va_Qi (fun r (u : Unit) => res = r) (sw_Post G A (fun (u : Unit) => [(q_t, .inr (8, [z_t_now, z_t_draft, z_t_kept, z_t_snapshot, z_t_history, z_t_accounts, z_t_wheelPrimes, .ref q_t_row, z_t_undoCount, z_t_thrown, z_t_hasSnapshot, z_t_owner, z_t_times, z_t_end, z_t_ownerD, z_t_formatted, z_t_formattedLength, z_t_buffer, z_t_bufferLength, z_t_limit, z_t_nextByte, z_t_beginsAt, z_t_token, z_t_error, z_t_errorAt, z_t_errorPosition, z_t_nested, z_t_orders, z_t_orderWords, z_t_orderCount])), (q_t_row, .inl (ca 0, 45, .inl t_row))])) A) A) args s 0 0 A) (F0 m 2 ls []) := by
    intro n_2
    induction n_2 with
    | zero => intro x2 ls H locs hl hP hD hS h; exact no_at h
    | succ n_2 ih_2 =>
      intro x2 ls H locs hl hP hD hS h
      rw [fx_s] at h
      unfold B_X11_placeOf_2 at h
      refine lv_iload_n hx hb dX11_placeOf_2 rfl (lv_at hl 2 rfl) ?_
      refine lv_aload_n hx hb dX11_placeOf_3 rfl (lv_at hl 0 rfl) ?_
      refine va_get (v := .ref q_t_row) hx hb htU iU_X11 hown hK hP 0 rfl rfl 7 (by decide) (htU _ fl_X11_31) (fun _ h9 => h9) rfl dX11_placeOf_4 ?_
      refine lv_bipush (v := 14) hx hb dX11_placeOf_7 (by decide) ?_
      refine sw_iald0 hx hb hK hP 1 0 rfl rfl 14 rfl (sw_vin (by decide)) dX11_placeOf_9 ?_
      refine lv_icmp_ge (tgt := 34) hx hb dX11_placeOf_10 (by decide) (fun c_1 => ?_) (fun c_1 => ?_)
      · have h := if_t c_1 h
        refine lv_iconst (v := (-1)) hx hb dX11_placeOf_34 (by decide) ?_
        exact sw_ri hx hb hr hlocks hS () (pr1 h) hP hD dX11_placeOf_35
      · have h := if_f c_1 h
        refine lv_aload_n hx hb dX11_placeOf_13 rfl (lv_at hl 0 rfl) ?_
        refine va_get (v := .ref q_t_row) hx hb htU iU_X11 hown hK hP 0 rfl rfl 7 (by decide) (htU _ fl_X11_31) (fun _ h9 => h9) rfl dX11_placeOf_14 ?_
        refine lv_bipush (v := 15) hx hb dX11_placeOf_17 (by decide) ?_
        refine lv_iload_n hx hb dX11_placeOf_19 rfl (lv_at hl 2 rfl) ?_
        refine lv_iadd hx hb dX11_placeOf_20 ?_
        obtain ⟨hi_2, h⟩ := ix_at h
        refine va_iald hx hb hK hP 1 0 rfl rfl hi_2 dX11_placeOf_21 ?_
        refine lv_iload_n hx hb dX11_placeOf_22 rfl (lv_at hl 1 rfl) ?_
        refine lv_icmp_ne (tgt := 28) hx hb dX11_placeOf_23 (by decide) (fun c_3 => ?_) (fun c_3 => ?_)
        · have h := if_f c_3 h
          obtain ⟨x2_4, e_x2_4⟩ : ∃ y : Int32, y = x2 + 1 := ⟨_, rfl⟩
          refine lv_iinc (v := x2_4) (lv' := [(2, .int x2_4), (0, .ref q_t), (1, .int x1)]) hx hb dX11_placeOf_28 hl (k := 2) rfl (by rw [e_x2_4]; rfl) (by decide) rfl (fun ls hl => ?_)
          have h := nm_at e_x2_4 h
          refine lv_goto (tgt := 2) hx hb dX11_placeOf_31 (by decide) ?_
          exact ih_2 x2_4 ls H _ (lv_sub hl [1, 2, 0] rfl) hP hD hS h
        · have h := if_t c_3 h
          refine lv_iload_n hx hb dX11_placeOf_26 rfl (lv_at hl 2 rfl) ?_
          exact sw_ri hx hb hr hlocks hS () (pr1 h) hP hD dX11_placeOf_27
  refine lv_iconst (v := 0) hx hb dX11_placeOf_0 (by decide) ?_
  refine lv_istore_n (lv' := [(2, .int 0), (0, .ref q_t), (1, .int x1)]) hx hb dX11_placeOf_1 rfl hl (by decide) rfl (fun ls hl => ?_)
  exact hL_2 FUEL 0 ls s.heap _ (lv_sub hl [1, 2, 0] rfl) hP hD hS h
theorem mv_X11_wheelPrimeOf : sw_MV yX11_wheelPrimeOf RX11 cX11_wheelPrimeOf 3 (Option.some Jvm.ClassFile.FieldType.int) 1 := ⟨im_X11_wheelPrimeOf, se_X11_wheelPrimeOf, ini_X11, co_X11_wheelPrimeOf, by decide +kernel⟩
def B_X11_wheelPrimeOf_2 (x1 : Int32) (t_row : (Nat → Int32)) (k_2 : Int32 → Option (Int32)) (x2 : Int32) : Option (Int32) :=
 (if (t_row 0) ≤ x2 then some 0 else ix x2 4 (nz (sw_p4 x2.toNatClampNeg) ((if (x1 - x1 / (sw_p4 x2.toNatClampNeg) * (sw_p4 x2.toNatClampNeg)) = 0 then ix x2 4 ((if x1 = (sw_p4 x2.toNatClampNeg) then nm (x2 + 1) (fun x2_8 => k_2 x2_8) else ix x2 4 (some (sw_p4 x2.toNatClampNeg)))) else nm (x2 + 1) (fun x2_5 => k_2 x2_5)))))
def F_X11_wheelPrimeOf (x1 : Int32) (t_row : (Nat → Int32)) : Option (Int32) :=
 fx (fun _ => none) (B_X11_wheelPrimeOf_2 x1 t_row) FUEL 0
abbrev RM_X11_wheelPrimeOf : Room := ({ frames := 0, cells := 0, slots := 0, locals := 0 } : Room)
set_option maxHeartbeats 4000000 in
set_option maxRecDepth 100000 in
theorem c_X11_wheelPrimeOf (l : Launch) (G : va_G) (ca Z : Nat → Nat) (q_t : Nat) (q_t_row : Nat) (q_t_wheelPrimes : Nat) (z_t_now : Value) (z_t_draft : Value) (z_t_kept : Value) (z_t_snapshot : Value) (z_t_history : Value) (z_t_accounts : Value) (z_t_undoCount : Value) (z_t_thrown : Value) (z_t_hasSnapshot : Value) (z_t_owner : Value) (z_t_times : Value) (z_t_end : Value) (z_t_ownerD : Value) (z_t_formatted : Value) (z_t_formattedLength : Value) (z_t_buffer : Value) (z_t_bufferLength : Value) (z_t_limit : Value) (z_t_nextByte : Value) (z_t_beginsAt : Value) (z_t_token : Value) (z_t_error : Value) (z_t_errorAt : Value) (z_t_errorPosition : Value) (z_t_nested : Value) (z_t_orders : Value) (z_t_orderWords : Value) (z_t_orderCount : Value) (sz : Nat) (x1 : Int32) (t_row : (Nat → Int32)) (res : Int32) (hF : F_X11_wheelPrimeOf x1 t_row = some res) : Met l yX11_wheelPrimeOf (.code yX11_wheelPrimeOf cX11_wheelPrimeOf 3 (Option.some Jvm.ClassFile.FieldType.int) :: sw_U) RM_X11_wheelPrimeOf (va_Pc [.ref q_t, .int x1] (sw_Pre G ca Z [(q_t, .inr (8, [z_t_now, z_t_draft, z_t_kept, z_t_snapshot, z_t_history, z_t_accounts, .ref q_t_wheelPrimes, .ref q_t_row, z_t_undoCount, z_t_thrown, z_t_hasSnapshot, z_t_owner, z_t_times, z_t_end, z_t_ownerD, z_t_formatted, z_t_formattedLength, z_t_buffer, z_t_bufferLength, z_t_limit, z_t_nextByte, z_t_beginsAt, z_t_token, z_t_error, z_t_errorAt, z_t_errorPosition, z_t_nested, z_t_orders, z_t_orderWords, z_t_orderCount])), (q_t_row, .inl (ca 0, 45, .inl t_row)), (q_t_wheelPrimes, .inl (ca 0, 4, .inl sw_p4))] sz)) ((fun A => va_Qi (fun r (u : Unit) => res = r) (sw_Post G A (fun (u : Unit) => [(q_t, .inr (8, [z_t_now, z_t_draft, z_t_kept, z_t_snapshot, z_t_history, z_t_accounts, .ref q_t_wheelPrimes, .ref q_t_row, z_t_undoCount, z_t_thrown, z_t_hasSnapshot, z_t_owner, z_t_times, z_t_end, z_t_ownerD, z_t_formatted, z_t_formattedLength, z_t_buffer, z_t_bufferLength, z_t_limit, z_t_nextByte, z_t_beginsAt, z_t_token, z_t_error, z_t_errorAt, z_t_errorPosition, z_t_nested, z_t_orders, z_t_orderWords, z_t_orderCount])), (q_t_row, .inl (ca 0, 45, .inl t_row)), (q_t_wheelPrimes, .inl (ca 0, 4, .inl sw_p4))])) A) (va_A [(q_t, .inr (8, [z_t_now, z_t_draft, z_t_kept, z_t_snapshot, z_t_history, z_t_accounts, .ref q_t_wheelPrimes, .ref q_t_row, z_t_undoCount, z_t_thrown, z_t_hasSnapshot, z_t_owner, z_t_times, z_t_end, z_t_ownerD, z_t_formatted, z_t_formattedLength, z_t_buffer, z_t_bufferLength, z_t_limit, z_t_nextByte, z_t_beginsAt, z_t_token, z_t_error, z_t_errorAt, z_t_errorPosition, z_t_nested, z_t_orders, z_t_orderWords, z_t_orderCount])), (q_t_row, .inl (ca 0, 45, .inl t_row)), (q_t_wheelPrimes, .inl (ca 0, 4, .inl sw_p4))] sz)) 0 0 (va_A [(q_t, .inr (8, [z_t_now, z_t_draft, z_t_kept, z_t_snapshot, z_t_history, z_t_accounts, .ref q_t_wheelPrimes, .ref q_t_row, z_t_undoCount, z_t_thrown, z_t_hasSnapshot, z_t_owner, z_t_times, z_t_end, z_t_ownerD, z_t_formatted, z_t_formattedLength, z_t_buffer, z_t_bufferLength, z_t_limit, z_t_nextByte, z_t_beginsAt, z_t_token, z_t_error, z_t_errorAt, z_t_errorPosition, z_t_nested, z_t_orders, z_t_orderWords, z_t_orderCount])), (q_t_row, .inl (ca 0, 45, .inl t_row)), (q_t_wheelPrimes, .inl (ca 0, 4, .inl sw_p4))] sz) := by
  refine sw_ofW (Qc := fun A => va_Qi (fun r (u : Unit) => res = r) (sw_Post G A (fun (u : Unit) => [(q_t, .inr (8, [z_t_now, z_t_draft, z_t_kept, z_t_snapshot, z_t_history, z_t_accounts, .ref q_t_wheelPrimes, .ref q_t_row, z_t_undoCount, z_t_thrown, z_t_hasSnapshot, z_t_owner, z_t_times, z_t_end, z_t_ownerD, z_t_formatted, z_t_formattedLength, z_t_buffer, z_t_bufferLength, z_t_limit, z_t_nextByte, z_t_beginsAt, z_t_token, z_t_error, z_t_errorAt, z_t_errorPosition, z_t_nested, z_t_orders, z_t_orderWords, z_t_orderCount])), (q_t_row, .inl (ca 0, 45, .inl t_row)), (q_t_wheelPrimes, .inl (ca 0, 4, .inl sw_p4))])) A) (by decide) [(0, .ref q_t), (1, .int x1)] rfl (Nat.le_of_ble_eq_true rfl) ?_
  intro p e s m args below meth c ls A hx hb hr hml hown htU hlocks hnm hP hK hD hX hY hS hA hl
  have hown : s.vm.findClass RX11 = some m.cls := hown
  have Cx : sw_Cx p s m args c cX11_wheelPrimeOf 3 RX11 G ca Z A := ⟨⟨hx, hb, hml, hown, htU⟩, hK, hX, hY, hA⟩
  have h := hF
  unfold F_X11_wheelPrimeOf at h
  have hL_2 : ∀ (n_2 : Nat) (x2 : Int32) (ls : Array Slot) (H : Heap) (locs : List Loc), lv_has ls 3 [(0, .ref q_t), (1, .int x1), (2, .int x2)] → va_P G vwCl [(q_t, .inr (8, [z_t_now, z_t_draft, z_t_kept, z_t_snapshot, z_t_history, z_t_accounts, .ref q_t_wheelPrimes, .ref q_t_row, z_t_undoCount, z_t_thrown, z_t_hasSnapshot, z_t_owner, z_t_times, z_t_end, z_t_ownerD, z_t_formatted, z_t_formattedLength, z_t_buffer, z_t_bufferLength, z_t_limit, z_t_nextByte, z_t_beginsAt, z_t_token, z_t_error, z_t_errorAt, z_t_errorPosition, z_t_nested, z_t_orders, z_t_orderWords, z_t_orderCount])), (q_t_row, .inl (ca 0, 45, .inl t_row)), (q_t_wheelPrimes, .inl (ca 0, 4, .inl sw_p4))] H → va_D A [(q_t, .inr (8, [z_t_now, z_t_draft, z_t_kept, z_t_snapshot, z_t_history, z_t_accounts, .ref q_t_wheelPrimes, .ref q_t_row, z_t_undoCount, z_t_thrown, z_t_hasSnapshot, z_t_owner, z_t_times, z_t_end, z_t_ownerD, z_t_formatted, z_t_formattedLength, z_t_buffer, z_t_bufferLength, z_t_limit, z_t_nextByte, z_t_beginsAt, z_t_token, z_t_error, z_t_errorAt, z_t_errorPosition, z_t_nested, z_t_orders, z_t_orderWords, z_t_orderCount])), (q_t_row, .inl (ca 0, 45, .inl t_row)), (q_t_wheelPrimes, .inl (ca 0, 4, .inl sw_p4))] → va_S A s.heap H locs → fx (fun _ => none) (B_X11_wheelPrimeOf_2 x1 t_row) n_2 x2 = some res → W p l e RM_X11_wheelPrimeOf s m args below meth c H locs 0 0 (MQ below ((fun A => va_Qi (fun r (u : Unit) => res = r) (sw_Post G A (fun (u : Unit) => [(q_t, .inr (8, [z_t_now, z_t_draft, z_t_kept, z_t_snapshot, z_t_history, z_t_accounts, .ref q_t_wheelPrimes, .ref q_t_row, z_t_undoCount, z_t_thrown, z_t_hasSnapshot, z_t_owner, z_t_times, z_t_end, z_t_ownerD, z_t_formatted, z_t_formattedLength, z_t_buffer, z_t_bufferLength, z_t_limit, z_t_nextByte, z_t_beginsAt, z_t_token, z_t_error, z_t_errorAt, z_t_errorPosition, z_t_nested, z_t_orders, z_t_orderWords, z_t_orderCount])), (q_t_row, .inl (ca 0, 45, .inl t_row)), (q_t_wheelPrimes, .inl (ca 0, 4, .inl sw_p4))])) A) A) args s 0 0 A) (F0 m 2 ls []) := by
    intro n_2
    induction n_2 with
    | zero => intro x2 ls H locs hl hP hD hS h; exact no_at h
    | succ n_2 ih_2 =>
      intro x2 ls H locs hl hP hD hS h
      rw [fx_s] at h
      unfold B_X11_wheelPrimeOf_2 at h
      refine lv_iload_n hx hb dX11_wheelPrimeOf_2 rfl (lv_at hl 2 rfl) ?_
      refine lv_aload_n hx hb dX11_wheelPrimeOf_3 rfl (lv_at hl 0 rfl) ?_
      refine va_get (v := .ref q_t_row) hx hb htU iU_X11 hown hK hP 0 rfl rfl 7 (by decide) (htU _ fl_X11_31) (fun _ h9 => h9) rfl dX11_wheelPrimeOf_4 ?_
      refine lv_iconst (v := 0) hx hb dX11_wheelPrimeOf_7 (by decide) ?_
      refine sw_iald0 hx hb hK hP 1 0 rfl rfl 0 rfl (sw_vin (by decide)) dX11_wheelPrimeOf_8 ?_
      refine lv_icmp_ge (tgt := 46) hx hb dX11_wheelPrimeOf_9 (by decide) (fun c_1 => ?_) (fun c_1 => ?_)
      · have h := if_t c_1 h
        refine lv_iconst (v := 0) hx hb dX11_wheelPrimeOf_46 (by decide) ?_
        exact sw_ri hx hb hr hlocks hS () (pr1 h) hP hD dX11_wheelPrimeOf_47
      · have h := if_f c_1 h
        refine lv_iload_n hx hb dX11_wheelPrimeOf_12 rfl (lv_at hl 1 rfl) ?_
        refine lv_aload_n hx hb dX11_wheelPrimeOf_13 rfl (lv_at hl 0 rfl) ?_
        refine va_get (v := .ref q_t_wheelPrimes) hx hb htU iU_X11 hown hK hP 0 rfl rfl 6 (by decide) (htU _ fl_X11_28) (fun _ h9 => h9) rfl dX11_wheelPrimeOf_14 ?_
        refine lv_iload_n hx hb dX11_wheelPrimeOf_17 rfl (lv_at hl 2 rfl) ?_
        obtain ⟨hi_2, h⟩ := ix_at h
        refine va_iald hx hb hK hP 2 0 rfl rfl hi_2 dX11_wheelPrimeOf_18 ?_
        obtain ⟨hz_3, h⟩ := nz_at h
        refine lv_irem hx hb dX11_wheelPrimeOf_19 hz_3 ?_
        refine lv_if_ne (tgt := 40) hx hb dX11_wheelPrimeOf_20 (by decide) (fun c_4 => ?_) (fun c_4 => ?_)
        · have h := if_f c_4 h
          obtain ⟨x2_5, e_x2_5⟩ : ∃ y : Int32, y = x2 + 1 := ⟨_, rfl⟩
          refine lv_iinc (v := x2_5) (lv' := [(2, .int x2_5), (0, .ref q_t), (1, .int x1)]) hx hb dX11_wheelPrimeOf_40 hl (k := 2) rfl (by rw [e_x2_5]; rfl) (by decide) rfl (fun ls hl => ?_)
          have h := nm_at e_x2_5 h
          refine lv_goto (tgt := 2) hx hb dX11_wheelPrimeOf_43 (by decide) ?_
          exact ih_2 x2_5 ls H _ (lv_sub hl [1, 2, 0] rfl) hP hD hS h
        · have h := if_t c_4 h
          refine lv_iload_n hx hb dX11_wheelPrimeOf_23 rfl (lv_at hl 1 rfl) ?_
          refine lv_aload_n hx hb dX11_wheelPrimeOf_24 rfl (lv_at hl 0 rfl) ?_
          refine va_get (v := .ref q_t_wheelPrimes) hx hb htU iU_X11 hown hK hP 0 rfl rfl 6 (by decide) (htU _ fl_X11_28) (fun _ h9 => h9) rfl dX11_wheelPrimeOf_25 ?_
          refine lv_iload_n hx hb dX11_wheelPrimeOf_28 rfl (lv_at hl 2 rfl) ?_
          obtain ⟨hi_6, h⟩ := ix_at h
          refine va_iald hx hb hK hP 2 0 rfl rfl hi_6 dX11_wheelPrimeOf_29 ?_
          refine lv_icmp_eq (tgt := 40) hx hb dX11_wheelPrimeOf_30 (by decide) (fun c_7 => ?_) (fun c_7 => ?_)
          · have h := if_t c_7 h
            obtain ⟨x2_8, e_x2_8⟩ : ∃ y : Int32, y = x2 + 1 := ⟨_, rfl⟩
            refine lv_iinc (v := x2_8) (lv' := [(2, .int x2_8), (0, .ref q_t), (1, .int x1)]) hx hb dX11_wheelPrimeOf_40 hl (k := 2) rfl (by rw [e_x2_8]; rfl) (by decide) rfl (fun ls hl => ?_)
            have h := nm_at e_x2_8 h
            refine lv_goto (tgt := 2) hx hb dX11_wheelPrimeOf_43 (by decide) ?_
            exact ih_2 x2_8 ls H _ (lv_sub hl [1, 2, 0] rfl) hP hD hS h
          · have h := if_f c_7 h
            refine lv_aload_n hx hb dX11_wheelPrimeOf_33 rfl (lv_at hl 0 rfl) ?_
            refine va_get (v := .ref q_t_wheelPrimes) hx hb htU iU_X11 hown hK hP 0 rfl rfl 6 (by decide) (htU _ fl_X11_28) (fun _ h9 => h9) rfl dX11_wheelPrimeOf_34 ?_
            refine lv_iload_n hx hb dX11_wheelPrimeOf_37 rfl (lv_at hl 2 rfl) ?_
            obtain ⟨hi_9, h⟩ := ix_at h
            refine va_iald hx hb hK hP 2 0 rfl rfl hi_9 dX11_wheelPrimeOf_38 ?_
            exact sw_ri hx hb hr hlocks hS () (pr1 h) hP hD dX11_wheelPrimeOf_39
  refine lv_iconst (v := 0) hx hb dX11_wheelPrimeOf_0 (by decide) ?_
  refine lv_istore_n (lv' := [(2, .int 0), (0, .ref q_t), (1, .int x1)]) hx hb dX11_wheelPrimeOf_1 rfl hl (by decide) rfl (fun ls hl => ?_)
  exact hL_2 FUEL 0 ls s.heap _ (lv_sub hl [1, 2, 0] rfl) hP hD hS h
theorem mv_X11_isOnSpoke : sw_MV yX11_isOnSpoke RX11 cX11_isOnSpoke 2 (Option.some Jvm.ClassFile.FieldType.boolean) 1 := ⟨im_X11_isOnSpoke, se_X11_isOnSpoke, ini_X11, co_X11_isOnSpoke, by decide +kernel⟩
def F_X11_isOnSpoke (x1 : Int32) (t_row : (Nat → Int32)) : Option (Bool) :=
 (F_X11_wheelPrimeOf x1 t_row).bind (fun w_1 => (if w_1 = 0 then some true else some false))
abbrev RM_X11_isOnSpoke : Room := ({ frames := 1, cells := 0, slots := 0, locals := 22 } : Room)
set_option maxHeartbeats 4000000 in
set_option maxRecDepth 100000 in
theorem c_X11_isOnSpoke (l : Launch) (G : va_G) (ca Z : Nat → Nat) (q_t : Nat) (q_t_row : Nat) (q_t_wheelPrimes : Nat) (z_t_now : Value) (z_t_draft : Value) (z_t_kept : Value) (z_t_snapshot : Value) (z_t_history : Value) (z_t_accounts : Value) (z_t_undoCount : Value) (z_t_thrown : Value) (z_t_hasSnapshot : Value) (z_t_owner : Value) (z_t_times : Value) (z_t_end : Value) (z_t_ownerD : Value) (z_t_formatted : Value) (z_t_formattedLength : Value) (z_t_buffer : Value) (z_t_bufferLength : Value) (z_t_limit : Value) (z_t_nextByte : Value) (z_t_beginsAt : Value) (z_t_token : Value) (z_t_error : Value) (z_t_errorAt : Value) (z_t_errorPosition : Value) (z_t_nested : Value) (z_t_orders : Value) (z_t_orderWords : Value) (z_t_orderCount : Value) (sz : Nat) (x1 : Int32) (t_row : (Nat → Int32)) (res : Bool) (hF : F_X11_isOnSpoke x1 t_row = some res) : Met l yX11_isOnSpoke (.code yX11_isOnSpoke cX11_isOnSpoke 2 (Option.some Jvm.ClassFile.FieldType.boolean) :: sw_U) RM_X11_isOnSpoke (va_Pc [.ref q_t, .int x1] (sw_Pre G ca Z [(q_t, .inr (8, [z_t_now, z_t_draft, z_t_kept, z_t_snapshot, z_t_history, z_t_accounts, .ref q_t_wheelPrimes, .ref q_t_row, z_t_undoCount, z_t_thrown, z_t_hasSnapshot, z_t_owner, z_t_times, z_t_end, z_t_ownerD, z_t_formatted, z_t_formattedLength, z_t_buffer, z_t_bufferLength, z_t_limit, z_t_nextByte, z_t_beginsAt, z_t_token, z_t_error, z_t_errorAt, z_t_errorPosition, z_t_nested, z_t_orders, z_t_orderWords, z_t_orderCount])), (q_t_row, .inl (ca 0, 45, .inl t_row)), (q_t_wheelPrimes, .inl (ca 0, 4, .inl sw_p4))] sz)) ((fun A => va_Qi (fun r (u : Unit) => bI res = r) (sw_Post G A (fun (u : Unit) => [(q_t, .inr (8, [z_t_now, z_t_draft, z_t_kept, z_t_snapshot, z_t_history, z_t_accounts, .ref q_t_wheelPrimes, .ref q_t_row, z_t_undoCount, z_t_thrown, z_t_hasSnapshot, z_t_owner, z_t_times, z_t_end, z_t_ownerD, z_t_formatted, z_t_formattedLength, z_t_buffer, z_t_bufferLength, z_t_limit, z_t_nextByte, z_t_beginsAt, z_t_token, z_t_error, z_t_errorAt, z_t_errorPosition, z_t_nested, z_t_orders, z_t_orderWords, z_t_orderCount])), (q_t_row, .inl (ca 0, 45, .inl t_row)), (q_t_wheelPrimes, .inl (ca 0, 4, .inl sw_p4))])) A) (va_A [(q_t, .inr (8, [z_t_now, z_t_draft, z_t_kept, z_t_snapshot, z_t_history, z_t_accounts, .ref q_t_wheelPrimes, .ref q_t_row, z_t_undoCount, z_t_thrown, z_t_hasSnapshot, z_t_owner, z_t_times, z_t_end, z_t_ownerD, z_t_formatted, z_t_formattedLength, z_t_buffer, z_t_bufferLength, z_t_limit, z_t_nextByte, z_t_beginsAt, z_t_token, z_t_error, z_t_errorAt, z_t_errorPosition, z_t_nested, z_t_orders, z_t_orderWords, z_t_orderCount])), (q_t_row, .inl (ca 0, 45, .inl t_row)), (q_t_wheelPrimes, .inl (ca 0, 4, .inl sw_p4))] sz)) 0 0 (va_A [(q_t, .inr (8, [z_t_now, z_t_draft, z_t_kept, z_t_snapshot, z_t_history, z_t_accounts, .ref q_t_wheelPrimes, .ref q_t_row, z_t_undoCount, z_t_thrown, z_t_hasSnapshot, z_t_owner, z_t_times, z_t_end, z_t_ownerD, z_t_formatted, z_t_formattedLength, z_t_buffer, z_t_bufferLength, z_t_limit, z_t_nextByte, z_t_beginsAt, z_t_token, z_t_error, z_t_errorAt, z_t_errorPosition, z_t_nested, z_t_orders, z_t_orderWords, z_t_orderCount])), (q_t_row, .inl (ca 0, 45, .inl t_row)), (q_t_wheelPrimes, .inl (ca 0, 4, .inl sw_p4))] sz) := by
  refine sw_ofW (Qc := fun A => va_Qi (fun r (u : Unit) => bI res = r) (sw_Post G A (fun (u : Unit) => [(q_t, .inr (8, [z_t_now, z_t_draft, z_t_kept, z_t_snapshot, z_t_history, z_t_accounts, .ref q_t_wheelPrimes, .ref q_t_row, z_t_undoCount, z_t_thrown, z_t_hasSnapshot, z_t_owner, z_t_times, z_t_end, z_t_ownerD, z_t_formatted, z_t_formattedLength, z_t_buffer, z_t_bufferLength, z_t_limit, z_t_nextByte, z_t_beginsAt, z_t_token, z_t_error, z_t_errorAt, z_t_errorPosition, z_t_nested, z_t_orders, z_t_orderWords, z_t_orderCount])), (q_t_row, .inl (ca 0, 45, .inl t_row)), (q_t_wheelPrimes, .inl (ca 0, 4, .inl sw_p4))])) A) (by decide) [(0, .ref q_t), (1, .int x1)] rfl (Nat.le_of_ble_eq_true rfl) ?_
  intro p e s m args below meth c ls A hx hb hr hml hown htU hlocks hnm hP hK hD hX hY hS hA hl
  have hown : s.vm.findClass RX11 = some m.cls := hown
  have Cx : sw_Cx p s m args c cX11_isOnSpoke 2 RX11 G ca Z A := ⟨⟨hx, hb, hml, hown, htU⟩, hK, hX, hY, hA⟩
  have h := hF
  unfold F_X11_isOnSpoke at h
  refine lv_aload_n hx hb dX11_isOnSpoke_0 rfl (lv_at hl 0 rfl) ?_
  refine lv_iload_n hx hb dX11_isOnSpoke_1 rfl (lv_at hl 1 rfl) ?_
  obtain ⟨w_1, hg_2, h⟩ := bd_at h
  refine sw_ci (sw_runV (As := [.int x1]) (rest := []) Cx hP hD hS mv_X11_wheelPrimeOf ml_X11_93 (c_X11_wheelPrimeOf l G ca Z q_t q_t_row q_t_wheelPrimes (z_t_now) (z_t_draft) (z_t_kept) (z_t_snapshot) (z_t_history) (z_t_accounts) (z_t_undoCount) (z_t_thrown) (z_t_hasSnapshot) (z_t_owner) (z_t_times) (z_t_end) (z_t_ownerD) (z_t_formatted) (z_t_formattedLength) (z_t_buffer) (z_t_bufferLength) (z_t_limit) (z_t_nextByte) (z_t_beginsAt) (z_t_token) (z_t_error) (z_t_errorAt) (z_t_errorPosition) (z_t_nested) (z_t_orders) (z_t_orderWords) (z_t_orderCount) s.heap.size x1 t_row w_1 hg_2) 8 rfl rfl rfl [0, 1, 2] rfl rfl rfl rfl ⟨(Nat.le_of_ble_eq_true rfl), (Nat.le_of_ble_eq_true rfl)⟩ hl.1 rfl rfl (Nat.le_of_ble_eq_true rfl) dX11_isOnSpoke_2 ⟨(Nat.le_of_ble_eq_true rfl), (Nat.le_of_ble_eq_true rfl)⟩) hP hD hS hA [0, 1, 2] [] [0, 1, 2] rfl rfl rfl (by decide) (fun _ => rfl) rfl (fun r u H locs hw hP hD hS => ?_)
  subst hw
  have hP : va_P G vwCl [(q_t, .inr (8, [z_t_now, z_t_draft, z_t_kept, z_t_snapshot, z_t_history, z_t_accounts, .ref q_t_wheelPrimes, .ref q_t_row, z_t_undoCount, z_t_thrown, z_t_hasSnapshot, z_t_owner, z_t_times, z_t_end, z_t_ownerD, z_t_formatted, z_t_formattedLength, z_t_buffer, z_t_bufferLength, z_t_limit, z_t_nextByte, z_t_beginsAt, z_t_token, z_t_error, z_t_errorAt, z_t_errorPosition, z_t_nested, z_t_orders, z_t_orderWords, z_t_orderCount])), (q_t_row, .inl (ca 0, 45, .inl t_row)), (q_t_wheelPrimes, .inl (ca 0, 4, .inl sw_p4))] H := hP
  have hD : va_D A [(q_t, .inr (8, [z_t_now, z_t_draft, z_t_kept, z_t_snapshot, z_t_history, z_t_accounts, .ref q_t_wheelPrimes, .ref q_t_row, z_t_undoCount, z_t_thrown, z_t_hasSnapshot, z_t_owner, z_t_times, z_t_end, z_t_ownerD, z_t_formatted, z_t_formattedLength, z_t_buffer, z_t_bufferLength, z_t_limit, z_t_nextByte, z_t_beginsAt, z_t_token, z_t_error, z_t_errorAt, z_t_errorPosition, z_t_nested, z_t_orders, z_t_orderWords, z_t_orderCount])), (q_t_row, .inl (ca 0, 45, .inl t_row)), (q_t_wheelPrimes, .inl (ca 0, 4, .inl sw_p4))] := hD
  refine lv_if_ne (tgt := 12) hx hb dX11_isOnSpoke_5 (by decide) (fun c_3 => ?_) (fun c_3 => ?_)
  · have h := if_f c_3 h
    refine lv_iconst (v := 0) hx hb dX11_isOnSpoke_12 (by decide) ?_
    exact sw_rz hx hb hr rfl hlocks hS () (pb1 h) hP hD dX11_isOnSpoke_13
  · have h := if_t c_3 h
    refine lv_iconst (v := 1) hx hb dX11_isOnSpoke_8 (by decide) ?_
    refine lv_goto (tgt := 13) hx hb dX11_isOnSpoke_9 (by decide) ?_
    exact sw_rz hx hb hr rfl hlocks hS () (pb1 h) hP hD dX11_isOnSpoke_13
theorem mv_X11_isWheelPrime : sw_MV yX11_isWheelPrime RX11 cX11_isWheelPrime 3 (Option.some Jvm.ClassFile.FieldType.boolean) 1 := ⟨im_X11_isWheelPrime, se_X11_isWheelPrime, ini_X11, co_X11_isWheelPrime, by decide +kernel⟩
def B_X11_isWheelPrime_2 (x1 : Int32) (t_row : (Nat → Int32)) (k_2 : Int32 → Option (Bool)) (x2 : Int32) : Option (Bool) :=
 (if (t_row 0) ≤ x2 then some false else ix x2 4 ((if (sw_p4 x2.toNatClampNeg) = x1 then some true else nm (x2 + 1) (fun x2_4 => k_2 x2_4))))
def F_X11_isWheelPrime (x1 : Int32) (t_row : (Nat → Int32)) : Option (Bool) :=
 fx (fun _ => none) (B_X11_isWheelPrime_2 x1 t_row) FUEL 0
abbrev RM_X11_isWheelPrime : Room := ({ frames := 0, cells := 0, slots := 0, locals := 0 } : Room)
set_option maxHeartbeats 4000000 in
set_option maxRecDepth 100000 in
theorem c_X11_isWheelPrime (l : Launch) (G : va_G) (ca Z : Nat → Nat) (q_t : Nat) (q_t_row : Nat) (q_t_wheelPrimes : Nat) (z_t_now : Value) (z_t_draft : Value) (z_t_kept : Value) (z_t_snapshot : Value) (z_t_history : Value) (z_t_accounts : Value) (z_t_undoCount : Value) (z_t_thrown : Value) (z_t_hasSnapshot : Value) (z_t_owner : Value) (z_t_times : Value) (z_t_end : Value) (z_t_ownerD : Value) (z_t_formatted : Value) (z_t_formattedLength : Value) (z_t_buffer : Value) (z_t_bufferLength : Value) (z_t_limit : Value) (z_t_nextByte : Value) (z_t_beginsAt : Value) (z_t_token : Value) (z_t_error : Value) (z_t_errorAt : Value) (z_t_errorPosition : Value) (z_t_nested : Value) (z_t_orders : Value) (z_t_orderWords : Value) (z_t_orderCount : Value) (sz : Nat) (x1 : Int32) (t_row : (Nat → Int32)) (res : Bool) (hF : F_X11_isWheelPrime x1 t_row = some res) : Met l yX11_isWheelPrime (.code yX11_isWheelPrime cX11_isWheelPrime 3 (Option.some Jvm.ClassFile.FieldType.boolean) :: sw_U) RM_X11_isWheelPrime (va_Pc [.ref q_t, .int x1] (sw_Pre G ca Z [(q_t, .inr (8, [z_t_now, z_t_draft, z_t_kept, z_t_snapshot, z_t_history, z_t_accounts, .ref q_t_wheelPrimes, .ref q_t_row, z_t_undoCount, z_t_thrown, z_t_hasSnapshot, z_t_owner, z_t_times, z_t_end, z_t_ownerD, z_t_formatted, z_t_formattedLength, z_t_buffer, z_t_bufferLength, z_t_limit, z_t_nextByte, z_t_beginsAt, z_t_token, z_t_error, z_t_errorAt, z_t_errorPosition, z_t_nested, z_t_orders, z_t_orderWords, z_t_orderCount])), (q_t_row, .inl (ca 0, 45, .inl t_row)), (q_t_wheelPrimes, .inl (ca 0, 4, .inl sw_p4))] sz)) ((fun A => va_Qi (fun r (u : Unit) => bI res = r) (sw_Post G A (fun (u : Unit) => [(q_t, .inr (8, [z_t_now, z_t_draft, z_t_kept, z_t_snapshot, z_t_history, z_t_accounts, .ref q_t_wheelPrimes, .ref q_t_row, z_t_undoCount, z_t_thrown, z_t_hasSnapshot, z_t_owner, z_t_times, z_t_end, z_t_ownerD, z_t_formatted, z_t_formattedLength, z_t_buffer, z_t_bufferLength, z_t_limit, z_t_nextByte, z_t_beginsAt, z_t_token, z_t_error, z_t_errorAt, z_t_errorPosition, z_t_nested, z_t_orders, z_t_orderWords, z_t_orderCount])), (q_t_row, .inl (ca 0, 45, .inl t_row)), (q_t_wheelPrimes, .inl (ca 0, 4, .inl sw_p4))])) A) (va_A [(q_t, .inr (8, [z_t_now, z_t_draft, z_t_kept, z_t_snapshot, z_t_history, z_t_accounts, .ref q_t_wheelPrimes, .ref q_t_row, z_t_undoCount, z_t_thrown, z_t_hasSnapshot, z_t_owner, z_t_times, z_t_end, z_t_ownerD, z_t_formatted, z_t_formattedLength, z_t_buffer, z_t_bufferLength, z_t_limit, z_t_nextByte, z_t_beginsAt, z_t_token, z_t_error, z_t_errorAt, z_t_errorPosition, z_t_nested, z_t_orders, z_t_orderWords, z_t_orderCount])), (q_t_row, .inl (ca 0, 45, .inl t_row)), (q_t_wheelPrimes, .inl (ca 0, 4, .inl sw_p4))] sz)) 0 0 (va_A [(q_t, .inr (8, [z_t_now, z_t_draft, z_t_kept, z_t_snapshot, z_t_history, z_t_accounts, .ref q_t_wheelPrimes, .ref q_t_row, z_t_undoCount, z_t_thrown, z_t_hasSnapshot, z_t_owner, z_t_times, z_t_end, z_t_ownerD, z_t_formatted, z_t_formattedLength, z_t_buffer, z_t_bufferLength, z_t_limit, z_t_nextByte, z_t_beginsAt, z_t_token, z_t_error, z_t_errorAt, z_t_errorPosition, z_t_nested, z_t_orders, z_t_orderWords, z_t_orderCount])), (q_t_row, .inl (ca 0, 45, .inl t_row)), (q_t_wheelPrimes, .inl (ca 0, 4, .inl sw_p4))] sz) := by
  refine sw_ofW (Qc := fun A => va_Qi (fun r (u : Unit) => bI res = r) (sw_Post G A (fun (u : Unit) => [(q_t, .inr (8, [z_t_now, z_t_draft, z_t_kept, z_t_snapshot, z_t_history, z_t_accounts, .ref q_t_wheelPrimes, .ref q_t_row, z_t_undoCount, z_t_thrown, z_t_hasSnapshot, z_t_owner, z_t_times, z_t_end, z_t_ownerD, z_t_formatted, z_t_formattedLength, z_t_buffer, z_t_bufferLength, z_t_limit, z_t_nextByte, z_t_beginsAt, z_t_token, z_t_error, z_t_errorAt, z_t_errorPosition, z_t_nested, z_t_orders, z_t_orderWords, z_t_orderCount])), (q_t_row, .inl (ca 0, 45, .inl t_row)), (q_t_wheelPrimes, .inl (ca 0, 4, .inl sw_p4))])) A) (by decide) [(0, .ref q_t), (1, .int x1)] rfl (Nat.le_of_ble_eq_true rfl) ?_
  intro p e s m args below meth c ls A hx hb hr hml hown htU hlocks hnm hP hK hD hX hY hS hA hl
  have hown : s.vm.findClass RX11 = some m.cls := hown
  have Cx : sw_Cx p s m args c cX11_isWheelPrime 3 RX11 G ca Z A := ⟨⟨hx, hb, hml, hown, htU⟩, hK, hX, hY, hA⟩
  have h := hF
  unfold F_X11_isWheelPrime at h
  have hL_2 : ∀ (n_2 : Nat) (x2 : Int32) (ls : Array Slot) (H : Heap) (locs : List Loc), lv_has ls 3 [(0, .ref q_t), (1, .int x1), (2, .int x2)] → va_P G vwCl [(q_t, .inr (8, [z_t_now, z_t_draft, z_t_kept, z_t_snapshot, z_t_history, z_t_accounts, .ref q_t_wheelPrimes, .ref q_t_row, z_t_undoCount, z_t_thrown, z_t_hasSnapshot, z_t_owner, z_t_times, z_t_end, z_t_ownerD, z_t_formatted, z_t_formattedLength, z_t_buffer, z_t_bufferLength, z_t_limit, z_t_nextByte, z_t_beginsAt, z_t_token, z_t_error, z_t_errorAt, z_t_errorPosition, z_t_nested, z_t_orders, z_t_orderWords, z_t_orderCount])), (q_t_row, .inl (ca 0, 45, .inl t_row)), (q_t_wheelPrimes, .inl (ca 0, 4, .inl sw_p4))] H → va_D A [(q_t, .inr (8, [z_t_now, z_t_draft, z_t_kept, z_t_snapshot, z_t_history, z_t_accounts, .ref q_t_wheelPrimes, .ref q_t_row, z_t_undoCount, z_t_thrown, z_t_hasSnapshot, z_t_owner, z_t_times, z_t_end, z_t_ownerD, z_t_formatted, z_t_formattedLength, z_t_buffer, z_t_bufferLength, z_t_limit, z_t_nextByte, z_t_beginsAt, z_t_token, z_t_error, z_t_errorAt, z_t_errorPosition, z_t_nested, z_t_orders, z_t_orderWords, z_t_orderCount])), (q_t_row, .inl (ca 0, 45, .inl t_row)), (q_t_wheelPrimes, .inl (ca 0, 4, .inl sw_p4))] → va_S A s.heap H locs → fx (fun _ => none) (B_X11_isWheelPrime_2 x1 t_row) n_2 x2 = some res → W p l e RM_X11_isWheelPrime s m args below meth c H locs 0 0 (MQ below ((fun A => va_Qi (fun r (u : Unit) => bI res = r) (sw_Post G A (fun (u : Unit) => [(q_t, .inr (8, [z_t_now, z_t_draft, z_t_kept, z_t_snapshot, z_t_history, z_t_accounts, .ref q_t_wheelPrimes, .ref q_t_row, z_t_undoCount, z_t_thrown, z_t_hasSnapshot, z_t_owner, z_t_times, z_t_end, z_t_ownerD, z_t_formatted, z_t_formattedLength, z_t_buffer, z_t_bufferLength, z_t_limit, z_t_nextByte, z_t_beginsAt, z_t_token, z_t_error, z_t_errorAt, z_t_errorPosition, z_t_nested, z_t_orders, z_t_orderWords, z_t_orderCount])), (q_t_row, .inl (ca 0, 45, .inl t_row)), (q_t_wheelPrimes, .inl (ca 0, 4, .inl sw_p4))])) A) A) args s 0 0 A) (F0 m 2 ls []) := by
    intro n_2
    induction n_2 with
    | zero => intro x2 ls H locs hl hP hD hS h; exact no_at h
    | succ n_2 ih_2 =>
      intro x2 ls H locs hl hP hD hS h
      rw [fx_s] at h
      unfold B_X11_isWheelPrime_2 at h
      refine lv_iload_n hx hb dX11_isWheelPrime_2 rfl (lv_at hl 2 rfl) ?_
      refine lv_aload_n hx hb dX11_isWheelPrime_3 rfl (lv_at hl 0 rfl) ?_
      refine va_get (v := .ref q_t_row) hx hb htU iU_X11 hown hK hP 0 rfl rfl 7 (by decide) (htU _ fl_X11_31) (fun _ h9 => h9) rfl dX11_isWheelPrime_4 ?_
      refine lv_iconst (v := 0) hx hb dX11_isWheelPrime_7 (by decide) ?_
      refine sw_iald0 hx hb hK hP 1 0 rfl rfl 0 rfl (sw_vin (by decide)) dX11_isWheelPrime_8 ?_
      refine lv_icmp_ge (tgt := 30) hx hb dX11_isWheelPrime_9 (by decide) (fun c_1 => ?_) (fun c_1 => ?_)
      · have h := if_t c_1 h
        refine lv_iconst (v := 0) hx hb dX11_isWheelPrime_30 (by decide) ?_
        exact sw_rz hx hb hr rfl hlocks hS () (pb1 h) hP hD dX11_isWheelPrime_31
      · have h := if_f c_1 h
        refine lv_aload_n hx hb dX11_isWheelPrime_12 rfl (lv_at hl 0 rfl) ?_
        refine va_get (v := .ref q_t_wheelPrimes) hx hb htU iU_X11 hown hK hP 0 rfl rfl 6 (by decide) (htU _ fl_X11_28) (fun _ h9 => h9) rfl dX11_isWheelPrime_13 ?_
        refine lv_iload_n hx hb dX11_isWheelPrime_16 rfl (lv_at hl 2 rfl) ?_
        obtain ⟨hi_2, h⟩ := ix_at h
        refine va_iald hx hb hK hP 2 0 rfl rfl hi_2 dX11_isWheelPrime_17 ?_
        refine lv_iload_n hx hb dX11_isWheelPrime_18 rfl (lv_at hl 1 rfl) ?_
        refine lv_icmp_ne (tgt := 24) hx hb dX11_isWheelPrime_19 (by decide) (fun c_3 => ?_) (fun c_3 => ?_)
        · have h := if_f c_3 h
          obtain ⟨x2_4, e_x2_4⟩ : ∃ y : Int32, y = x2 + 1 := ⟨_, rfl⟩
          refine lv_iinc (v := x2_4) (lv' := [(2, .int x2_4), (0, .ref q_t), (1, .int x1)]) hx hb dX11_isWheelPrime_24 hl (k := 2) rfl (by rw [e_x2_4]; rfl) (by decide) rfl (fun ls hl => ?_)
          have h := nm_at e_x2_4 h
          refine lv_goto (tgt := 2) hx hb dX11_isWheelPrime_27 (by decide) ?_
          exact ih_2 x2_4 ls H _ (lv_sub hl [1, 2, 0] rfl) hP hD hS h
        · have h := if_t c_3 h
          refine lv_iconst (v := 1) hx hb dX11_isWheelPrime_22 (by decide) ?_
          exact sw_rz hx hb hr rfl hlocks hS () (pb1 h) hP hD dX11_isWheelPrime_23
  refine lv_iconst (v := 0) hx hb dX11_isWheelPrime_0 (by decide) ?_
  refine lv_istore_n (lv' := [(2, .int 0), (0, .ref q_t), (1, .int x1)]) hx hb dX11_isWheelPrime_1 rfl hl (by decide) rfl (fun ls hl => ?_)
  exact hL_2 FUEL 0 ls s.heap _ (lv_sub hl [1, 2, 0] rfl) hP hD hS h
theorem mv_X11_strikes : sw_MV yX11_strikes RX11 cX11_strikes 3 (Option.some Jvm.ClassFile.FieldType.boolean) 2 := ⟨im_X11_strikes, se_X11_strikes, ini_X11, co_X11_strikes, by decide +kernel⟩
def F_X11_strikes (x1 : Int32) (x2 : Int32) (t_row : (Nat → Int32)) : Option (Bool) :=
 (if x2 < (x1 * x1) then some false else nz x1 ((if (x2 - x2 / x1 * x1) = 0 then (F_X11_isOnSpoke x2 t_row).bind (fun w_4 => (if w_4 = true then some true else some false)) else some false)))
abbrev RM_X11_strikes : Room := ({ frames := 2, cells := 0, slots := 0, locals := 43 } : Room)
set_option maxHeartbeats 4000000 in
set_option maxRecDepth 100000 in
theorem c_X11_strikes (l : Launch) (G : va_G) (ca Z : Nat → Nat) (q_t : Nat) (q_t_row : Nat) (q_t_wheelPrimes : Nat) (z_t_now : Value) (z_t_draft : Value) (z_t_kept : Value) (z_t_snapshot : Value) (z_t_history : Value) (z_t_accounts : Value) (z_t_undoCount : Value) (z_t_thrown : Value) (z_t_hasSnapshot : Value) (z_t_owner : Value) (z_t_times : Value) (z_t_end : Value) (z_t_ownerD : Value) (z_t_formatted : Value) (z_t_formattedLength : Value) (z_t_buffer : Value) (z_t_bufferLength : Value) (z_t_limit : Value) (z_t_nextByte : Value) (z_t_beginsAt : Value) (z_t_token : Value) (z_t_error : Value) (z_t_errorAt : Value) (z_t_errorPosition : Value) (z_t_nested : Value) (z_t_orders : Value) (z_t_orderWords : Value) (z_t_orderCount : Value) (sz : Nat) (x1 : Int32) (x2 : Int32) (t_row : (Nat → Int32)) (res : Bool) (hF : F_X11_strikes x1 x2 t_row = some res) : Met l yX11_strikes (.code yX11_strikes cX11_strikes 3 (Option.some Jvm.ClassFile.FieldType.boolean) :: sw_U) RM_X11_strikes (va_Pc [.ref q_t, .int x1, .int x2] (sw_Pre G ca Z [(q_t, .inr (8, [z_t_now, z_t_draft, z_t_kept, z_t_snapshot, z_t_history, z_t_accounts, .ref q_t_wheelPrimes, .ref q_t_row, z_t_undoCount, z_t_thrown, z_t_hasSnapshot, z_t_owner, z_t_times, z_t_end, z_t_ownerD, z_t_formatted, z_t_formattedLength, z_t_buffer, z_t_bufferLength, z_t_limit, z_t_nextByte, z_t_beginsAt, z_t_token, z_t_error, z_t_errorAt, z_t_errorPosition, z_t_nested, z_t_orders, z_t_orderWords, z_t_orderCount])), (q_t_row, .inl (ca 0, 45, .inl t_row)), (q_t_wheelPrimes, .inl (ca 0, 4, .inl sw_p4))] sz)) ((fun A => va_Qi (fun r (u : Unit) => bI res = r) (sw_Post G A (fun (u : Unit) => [(q_t, .inr (8, [z_t_now, z_t_draft, z_t_kept, z_t_snapshot, z_t_history, z_t_accounts, .ref q_t_wheelPrimes, .ref q_t_row, z_t_undoCount, z_t_thrown, z_t_hasSnapshot, z_t_owner, z_t_times, z_t_end, z_t_ownerD, z_t_formatted, z_t_formattedLength, z_t_buffer, z_t_bufferLength, z_t_limit, z_t_nextByte, z_t_beginsAt, z_t_token, z_t_error, z_t_errorAt, z_t_errorPosition, z_t_nested, z_t_orders, z_t_orderWords, z_t_orderCount])), (q_t_row, .inl (ca 0, 45, .inl t_row)), (q_t_wheelPrimes, .inl (ca 0, 4, .inl sw_p4))])) A) (va_A [(q_t, .inr (8, [z_t_now, z_t_draft, z_t_kept, z_t_snapshot, z_t_history, z_t_accounts, .ref q_t_wheelPrimes, .ref q_t_row, z_t_undoCount, z_t_thrown, z_t_hasSnapshot, z_t_owner, z_t_times, z_t_end, z_t_ownerD, z_t_formatted, z_t_formattedLength, z_t_buffer, z_t_bufferLength, z_t_limit, z_t_nextByte, z_t_beginsAt, z_t_token, z_t_error, z_t_errorAt, z_t_errorPosition, z_t_nested, z_t_orders, z_t_orderWords, z_t_orderCount])), (q_t_row, .inl (ca 0, 45, .inl t_row)), (q_t_wheelPrimes, .inl (ca 0, 4, .inl sw_p4))] sz)) 0 0 (va_A [(q_t, .inr (8, [z_t_now, z_t_draft, z_t_kept, z_t_snapshot, z_t_history, z_t_accounts, .ref q_t_wheelPrimes, .ref q_t_row, z_t_undoCount, z_t_thrown, z_t_hasSnapshot, z_t_owner, z_t_times, z_t_end, z_t_ownerD, z_t_formatted, z_t_formattedLength, z_t_buffer, z_t_bufferLength, z_t_limit, z_t_nextByte, z_t_beginsAt, z_t_token, z_t_error, z_t_errorAt, z_t_errorPosition, z_t_nested, z_t_orders, z_t_orderWords, z_t_orderCount])), (q_t_row, .inl (ca 0, 45, .inl t_row)), (q_t_wheelPrimes, .inl (ca 0, 4, .inl sw_p4))] sz) := by
  refine sw_ofW (Qc := fun A => va_Qi (fun r (u : Unit) => bI res = r) (sw_Post G A (fun (u : Unit) => [(q_t, .inr (8, [z_t_now, z_t_draft, z_t_kept, z_t_snapshot, z_t_history, z_t_accounts, .ref q_t_wheelPrimes, .ref q_t_row, z_t_undoCount, z_t_thrown, z_t_hasSnapshot, z_t_owner, z_t_times, z_t_end, z_t_ownerD, z_t_formatted, z_t_formattedLength, z_t_buffer, z_t_bufferLength, z_t_limit, z_t_nextByte, z_t_beginsAt, z_t_token, z_t_error, z_t_errorAt, z_t_errorPosition, z_t_nested, z_t_orders, z_t_orderWords, z_t_orderCount])), (q_t_row, .inl (ca 0, 45, .inl t_row)), (q_t_wheelPrimes, .inl (ca 0, 4, .inl sw_p4))])) A) (by decide) [(0, .ref q_t), (1, .int x1), (2, .int x2)] rfl (Nat.le_of_ble_eq_true rfl) ?_
  intro p e s m args below meth c ls A hx hb hr hml hown htU hlocks hnm hP hK hD hX hY hS hA hl
  have hown : s.vm.findClass RX11 = some m.cls := hown
  have Cx : sw_Cx p s m args c cX11_strikes 3 RX11 G ca Z A := ⟨⟨hx, hb, hml, hown, htU⟩, hK, hX, hY, hA⟩
  have h := hF
  unfold F_X11_strikes at h
  refine lv_iload_n hx hb dX11_strikes_0 rfl (lv_at hl 2 rfl) ?_
  refine lv_iload_n hx hb dX11_strikes_1 rfl (lv_at hl 1 rfl) ?_
  refine lv_iload_n hx hb dX11_strikes_2 rfl (lv_at hl 1 rfl) ?_
  refine lv_imul hx hb dX11_strikes_3 ?_
  refine lv_icmp_lt (tgt := 25) hx hb dX11_strikes_4 (by decide) (fun c_1 => ?_) (fun c_1 => ?_)
  · have h := if_t c_1 h
    refine lv_iconst (v := 0) hx hb dX11_strikes_25 (by decide) ?_
    exact sw_rz hx hb hr rfl hlocks hS () (pb1 h) hP hD dX11_strikes_26
  · have h := if_f c_1 h
    refine lv_iload_n hx hb dX11_strikes_7 rfl (lv_at hl 2 rfl) ?_
    refine lv_iload_n hx hb dX11_strikes_8 rfl (lv_at hl 1 rfl) ?_
    obtain ⟨hz_2, h⟩ := nz_at h
    refine lv_irem hx hb dX11_strikes_9 hz_2 ?_
    refine lv_if_ne (tgt := 25) hx hb dX11_strikes_10 (by decide) (fun c_3 => ?_) (fun c_3 => ?_)
    · have h := if_f c_3 h
      refine lv_iconst (v := 0) hx hb dX11_strikes_25 (by decide) ?_
      exact sw_rz hx hb hr rfl hlocks hS () (pb1 h) hP hD dX11_strikes_26
    · have h := if_t c_3 h
      refine lv_aload_n hx hb dX11_strikes_13 rfl (lv_at hl 0 rfl) ?_
      refine lv_iload_n hx hb dX11_strikes_14 rfl (lv_at hl 2 rfl) ?_
      obtain ⟨w_4, hg_5, h⟩ := bd_at h
      refine sw_ci (sw_runV (As := [.int x2]) (rest := []) Cx hP hD hS mv_X11_isOnSpoke ml_X11_96 (c_X11_isOnSpoke l G ca Z q_t q_t_row q_t_wheelPrimes (z_t_now) (z_t_draft) (z_t_kept) (z_t_snapshot) (z_t_history) (z_t_accounts) (z_t_undoCount) (z_t_thrown) (z_t_hasSnapshot) (z_t_owner) (z_t_times) (z_t_end) (z_t_ownerD) (z_t_formatted) (z_t_formattedLength) (z_t_buffer) (z_t_bufferLength) (z_t_limit) (z_t_nextByte) (z_t_beginsAt) (z_t_token) (z_t_error) (z_t_errorAt) (z_t_errorPosition) (z_t_nested) (z_t_orders) (z_t_orderWords) (z_t_orderCount) s.heap.size x2 t_row w_4 hg_5) 8 rfl rfl rfl [0, 1, 2] rfl rfl rfl rfl ⟨(Nat.le_of_ble_eq_true rfl), (Nat.le_of_ble_eq_true rfl)⟩ hl.1 rfl rfl (Nat.le_of_ble_eq_true rfl) dX11_strikes_15 ⟨(Nat.le_of_ble_eq_true rfl), (Nat.le_of_ble_eq_true rfl)⟩) hP hD hS hA [0, 1, 2] [] [0, 1, 2] rfl rfl rfl (by decide) (fun _ => rfl) rfl (fun r u H locs hw hP hD hS => ?_)
      subst hw
      have hP : va_P G vwCl [(q_t, .inr (8, [z_t_now, z_t_draft, z_t_kept, z_t_snapshot, z_t_history, z_t_accounts, .ref q_t_wheelPrimes, .ref q_t_row, z_t_undoCount, z_t_thrown, z_t_hasSnapshot, z_t_owner, z_t_times, z_t_end, z_t_ownerD, z_t_formatted, z_t_formattedLength, z_t_buffer, z_t_bufferLength, z_t_limit, z_t_nextByte, z_t_beginsAt, z_t_token, z_t_error, z_t_errorAt, z_t_errorPosition, z_t_nested, z_t_orders, z_t_orderWords, z_t_orderCount])), (q_t_row, .inl (ca 0, 45, .inl t_row)), (q_t_wheelPrimes, .inl (ca 0, 4, .inl sw_p4))] H := hP
      have hD : va_D A [(q_t, .inr (8, [z_t_now, z_t_draft, z_t_kept, z_t_snapshot, z_t_history, z_t_accounts, .ref q_t_wheelPrimes, .ref q_t_row, z_t_undoCount, z_t_thrown, z_t_hasSnapshot, z_t_owner, z_t_times, z_t_end, z_t_ownerD, z_t_formatted, z_t_formattedLength, z_t_buffer, z_t_bufferLength, z_t_limit, z_t_nextByte, z_t_beginsAt, z_t_token, z_t_error, z_t_errorAt, z_t_errorPosition, z_t_nested, z_t_orders, z_t_orderWords, z_t_orderCount])), (q_t_row, .inl (ca 0, 45, .inl t_row)), (q_t_wheelPrimes, .inl (ca 0, 4, .inl sw_p4))] := hD
      refine lv_if_eq (tgt := 25) hx hb dX11_strikes_18 (by decide) (fun c_6 => ?_) (fun c_6 => ?_)
      · have c_6 := bI_z.mp c_6
        have h := if_f c_6 h
        refine lv_iconst (v := 0) hx hb dX11_strikes_25 (by decide) ?_
        exact sw_rz hx hb hr rfl hlocks hS () (pb1 h) hP hD dX11_strikes_26
      · have c_6 := bI_nz.mp c_6
        have h := if_t c_6 h
        refine lv_iconst (v := 1) hx hb dX11_strikes_21 (by decide) ?_
        refine lv_goto (tgt := 26) hx hb dX11_strikes_22 (by decide) ?_
        exact sw_rz hx hb hr rfl hlocks hS () (pb1 h) hP hD dX11_strikes_26
theorem mv_X11_strikeUpTo : sw_MV yX11_strikeUpTo RX11 cX11_strikeUpTo 5 (Option.none : Option Jvm.ClassFile.FieldType) 1 := ⟨im_X11_strikeUpTo, se_X11_strikeUpTo, ini_X11, co_X11_strikeUpTo, by decide +kernel⟩
def B_X11_strikeUpTo_61 (x1 : Int32) (t_row : (Nat → Int32)) (k_42 : Int32 → Int32 → ((Nat → Int32)) → ((Nat → Int32)) → Option (Int32 × (Nat → Int32) × (Nat → Int32))) (k_61 : Int32 → Int32 → Int32 → Int32 → ((Nat → Int32)) → ((Nat → Int32)) → Option (Int32 × (Nat → Int32) × (Nat → Int32))) (x2 : Int32) (x3 : Int32) (x4 : Int32) (t_end : Int32) (t_owner : (Nat → Int32)) (t_times : (Nat → Int32)) : Option (Int32 × (Nat → Int32) × (Nat → Int32)) :=
 (if x1 < x4 then nm (x2 + (-1)) (fun x2_8 => k_42 x2_8 t_end t_owner t_times) else (F_X11_isOnSpoke x4 t_row).bind (fun w_9 => (if w_9 = true then ix x4 5300 (ix x4 5300 (nm (((t_times x4.toNatClampNeg) + 1)) (fun a_15 => ix x4 5300 (nm ((x4 + x3)) (fun x4_17 => k_61 x2 x3 x4_17 t_end (upd t_owner x4.toNatClampNeg x2) (upd t_times x4.toNatClampNeg a_15)))))) else nm ((x4 + x3)) (fun x4_12 => k_61 x2 x3 x4_12 t_end t_owner t_times))))
def B_X11_strikeUpTo_42 (x1 : Int32) (t_row : (Nat → Int32)) (k_42 : Int32 → Int32 → ((Nat → Int32)) → ((Nat → Int32)) → Option (Int32 × (Nat → Int32) × (Nat → Int32))) (x2 : Int32) (t_end : Int32) (t_owner : (Nat → Int32)) (t_times : (Nat → Int32)) : Option (Int32 × (Nat → Int32) × (Nat → Int32)) :=
 (if x2 < 0 then some (t_end, t_owner, t_times) else ix (15 + x2) 45 (nm ((t_row (15 + x2).toNatClampNeg)) (fun x3_5 => nm ((x3_5 * x3_5)) (fun x4_6 => fx (fun _ _ _ _ _ _ => none) (B_X11_strikeUpTo_61 x1 t_row k_42) FUEL x2 x3_5 x4_6 t_end t_owner t_times))))
def B_X11_strikeUpTo_7 (x1 : Int32) (t_row : (Nat → Int32)) (k_7 : Int32 → Int32 → ((Nat → Int32)) → ((Nat → Int32)) → Option (Int32 × (Nat → Int32) × (Nat → Int32))) (x2 : Int32) (t_end : Int32) (t_owner : (Nat → Int32)) (t_times : (Nat → Int32)) : Option (Int32 × (Nat → Int32) × (Nat → Int32)) :=
 (if x1 < x2 then nm (((t_row 14) - 1)) (fun x2_2 => fx (fun _ _ _ _ => none) (B_X11_strikeUpTo_42 x1 t_row) FUEL x2_2 t_end t_owner t_times) else ix x2 5300 (ix x2 5300 (nm (x2 + 1) (fun x2_20 => k_7 x2_20 t_end (upd t_owner x2.toNatClampNeg (-1)) (upd t_times x2.toNatClampNeg 0)))))
def F_X11_strikeUpTo (x1 : Int32) (t_end : Int32) (t_owner : (Nat → Int32)) (t_row : (Nat → Int32)) (t_times : (Nat → Int32)) : Option (Int32 × (Nat → Int32) × (Nat → Int32)) :=
 fx (fun _ _ _ _ => none) (B_X11_strikeUpTo_7 x1 t_row) FUEL 0 x1 t_owner t_times
abbrev RM_X11_strikeUpTo : Room := ({ frames := 2, cells := 0, slots := 0, locals := 43 } : Room)
set_option maxHeartbeats 4000000 in
set_option maxRecDepth 100000 in
theorem c_X11_strikeUpTo (l : Launch) (G : va_G) (ca Z : Nat → Nat) (q_t : Nat) (q_t_owner : Nat) (q_t_row : Nat) (q_t_times : Nat) (q_t_wheelPrimes : Nat) (z_t_now : Value) (z_t_draft : Value) (z_t_kept : Value) (z_t_snapshot : Value) (z_t_history : Value) (z_t_accounts : Value) (z_t_undoCount : Value) (z_t_thrown : Value) (z_t_hasSnapshot : Value) (z_t_ownerD : Value) (z_t_formatted : Value) (z_t_formattedLength : Value) (z_t_buffer : Value) (z_t_bufferLength : Value) (z_t_limit : Value) (z_t_nextByte : Value) (z_t_beginsAt : Value) (z_t_token : Value) (z_t_error : Value) (z_t_errorAt : Value) (z_t_errorPosition : Value) (z_t_nested : Value) (z_t_orders : Value) (z_t_orderWords : Value) (z_t_orderCount : Value) (sz : Nat) (x1 : Int32) (t_end : Int32) (t_owner : (Nat → Int32)) (t_row : (Nat → Int32)) (t_times : (Nat → Int32)) (res : Int32 × (Nat → Int32) × (Nat → Int32)) (hF : F_X11_strikeUpTo x1 t_end t_owner t_row t_times = some res) : Met l yX11_strikeUpTo (.code yX11_strikeUpTo cX11_strikeUpTo 5 (Option.none : Option Jvm.ClassFile.FieldType) :: sw_U) RM_X11_strikeUpTo (va_Pc [.ref q_t, .int x1] (sw_Pre G ca Z [(q_t, .inr (8, [z_t_now, z_t_draft, z_t_kept, z_t_snapshot, z_t_history, z_t_accounts, .ref q_t_wheelPrimes, .ref q_t_row, z_t_undoCount, z_t_thrown, z_t_hasSnapshot, .ref q_t_owner, .ref q_t_times, .int t_end, z_t_ownerD, z_t_formatted, z_t_formattedLength, z_t_buffer, z_t_bufferLength, z_t_limit, z_t_nextByte, z_t_beginsAt, z_t_token, z_t_error, z_t_errorAt, z_t_errorPosition, z_t_nested, z_t_orders, z_t_orderWords, z_t_orderCount])), (q_t_owner, .inl (ca 0, 5300, .inl t_owner)), (q_t_row, .inl (ca 0, 45, .inl t_row)), (q_t_times, .inl (ca 0, 5300, .inl t_times)), (q_t_wheelPrimes, .inl (ca 0, 4, .inl sw_p4))] sz)) ((fun A => va_Qv (fun (u : Int32 × (Nat → Int32) × (Nat → Int32)) => res = u) (sw_Post G A (fun (u : Int32 × (Nat → Int32) × (Nat → Int32)) => [(q_t, .inr (8, [z_t_now, z_t_draft, z_t_kept, z_t_snapshot, z_t_history, z_t_accounts, .ref q_t_wheelPrimes, .ref q_t_row, z_t_undoCount, z_t_thrown, z_t_hasSnapshot, .ref q_t_owner, .ref q_t_times, .int u.1, z_t_ownerD, z_t_formatted, z_t_formattedLength, z_t_buffer, z_t_bufferLength, z_t_limit, z_t_nextByte, z_t_beginsAt, z_t_token, z_t_error, z_t_errorAt, z_t_errorPosition, z_t_nested, z_t_orders, z_t_orderWords, z_t_orderCount])), (q_t_owner, .inl (ca 0, 5300, .inl u.2.1)), (q_t_row, .inl (ca 0, 45, .inl t_row)), (q_t_times, .inl (ca 0, 5300, .inl u.2.2)), (q_t_wheelPrimes, .inl (ca 0, 4, .inl sw_p4))])) A) (va_A [(q_t, .inr (8, [z_t_now, z_t_draft, z_t_kept, z_t_snapshot, z_t_history, z_t_accounts, .ref q_t_wheelPrimes, .ref q_t_row, z_t_undoCount, z_t_thrown, z_t_hasSnapshot, .ref q_t_owner, .ref q_t_times, .int t_end, z_t_ownerD, z_t_formatted, z_t_formattedLength, z_t_buffer, z_t_bufferLength, z_t_limit, z_t_nextByte, z_t_beginsAt, z_t_token, z_t_error, z_t_errorAt, z_t_errorPosition, z_t_nested, z_t_orders, z_t_orderWords, z_t_orderCount])), (q_t_owner, .inl (ca 0, 5300, .inl t_owner)), (q_t_row, .inl (ca 0, 45, .inl t_row)), (q_t_times, .inl (ca 0, 5300, .inl t_times)), (q_t_wheelPrimes, .inl (ca 0, 4, .inl sw_p4))] sz)) 0 0 (va_A [(q_t, .inr (8, [z_t_now, z_t_draft, z_t_kept, z_t_snapshot, z_t_history, z_t_accounts, .ref q_t_wheelPrimes, .ref q_t_row, z_t_undoCount, z_t_thrown, z_t_hasSnapshot, .ref q_t_owner, .ref q_t_times, .int t_end, z_t_ownerD, z_t_formatted, z_t_formattedLength, z_t_buffer, z_t_bufferLength, z_t_limit, z_t_nextByte, z_t_beginsAt, z_t_token, z_t_error, z_t_errorAt, z_t_errorPosition, z_t_nested, z_t_orders, z_t_orderWords, z_t_orderCount])), (q_t_owner, .inl (ca 0, 5300, .inl t_owner)), (q_t_row, .inl (ca 0, 45, .inl t_row)), (q_t_times, .inl (ca 0, 5300, .inl t_times)), (q_t_wheelPrimes, .inl (ca 0, 4, .inl sw_p4))] sz) := by
  refine sw_ofW (Qc := fun A => va_Qv (fun (u : Int32 × (Nat → Int32) × (Nat → Int32)) => res = u) (sw_Post G A (fun (u : Int32 × (Nat → Int32) × (Nat → Int32)) => [(q_t, .inr (8, [z_t_now, z_t_draft, z_t_kept, z_t_snapshot, z_t_history, z_t_accounts, .ref q_t_wheelPrimes, .ref q_t_row, z_t_undoCount, z_t_thrown, z_t_hasSnapshot, .ref q_t_owner, .ref q_t_times, .int u.1, z_t_ownerD, z_t_formatted, z_t_formattedLength, z_t_buffer, z_t_bufferLength, z_t_limit, z_t_nextByte, z_t_beginsAt, z_t_token, z_t_error, z_t_errorAt, z_t_errorPosition, z_t_nested, z_t_orders, z_t_orderWords, z_t_orderCount])), (q_t_owner, .inl (ca 0, 5300, .inl u.2.1)), (q_t_row, .inl (ca 0, 45, .inl t_row)), (q_t_times, .inl (ca 0, 5300, .inl u.2.2)), (q_t_wheelPrimes, .inl (ca 0, 4, .inl sw_p4))])) A) (by decide) [(0, .ref q_t), (1, .int x1)] rfl (Nat.le_of_ble_eq_true rfl) ?_
  intro p e s m args below meth c ls A hx hb hr hml hown htU hlocks hnm hP hK hD hX hY hS hA hl
  have hown : s.vm.findClass RX11 = some m.cls := hown
  have Cx : sw_Cx p s m args c cX11_strikeUpTo 5 RX11 G ca Z A := ⟨⟨hx, hb, hml, hown, htU⟩, hK, hX, hY, hA⟩
  have h := hF
  unfold F_X11_strikeUpTo at h
  have hL_42 : ∀ (n_42 : Nat) (x2 : Int32) (t_end : Int32) (t_owner : (Nat → Int32)) (t_times : (Nat → Int32)) (ls : Array Slot) (H : Heap) (locs : List Loc), lv_has ls 5 [(0, .ref q_t), (1, .int x1), (2, .int x2)] → va_P G vwCl [(q_t, .inr (8, [z_t_now, z_t_draft, z_t_kept, z_t_snapshot, z_t_history, z_t_accounts, .ref q_t_wheelPrimes, .ref q_t_row, z_t_undoCount, z_t_thrown, z_t_hasSnapshot, .ref q_t_owner, .ref q_t_times, .int t_end, z_t_ownerD, z_t_formatted, z_t_formattedLength, z_t_buffer, z_t_bufferLength, z_t_limit, z_t_nextByte, z_t_beginsAt, z_t_token, z_t_error, z_t_errorAt, z_t_errorPosition, z_t_nested, z_t_orders, z_t_orderWords, z_t_orderCount])), (q_t_owner, .inl (ca 0, 5300, .inl t_owner)), (q_t_row, .inl (ca 0, 45, .inl t_row)), (q_t_times, .inl (ca 0, 5300, .inl t_times)), (q_t_wheelPrimes, .inl (ca 0, 4, .inl sw_p4))] H → va_D A [(q_t, .inr (8, [z_t_now, z_t_draft, z_t_kept, z_t_snapshot, z_t_history, z_t_accounts, .ref q_t_wheelPrimes, .ref q_t_row, z_t_undoCount, z_t_thrown, z_t_hasSnapshot, .ref q_t_owner, .ref q_t_times, .int t_end, z_t_ownerD, z_t_formatted, z_t_formattedLength, z_t_buffer, z_t_bufferLength, z_t_limit, z_t_nextByte, z_t_beginsAt, z_t_token, z_t_error, z_t_errorAt, z_t_errorPosition, z_t_nested, z_t_orders, z_t_orderWords, z_t_orderCount])), (q_t_owner, .inl (ca 0, 5300, .inl t_owner)), (q_t_row, .inl (ca 0, 45, .inl t_row)), (q_t_times, .inl (ca 0, 5300, .inl t_times)), (q_t_wheelPrimes, .inl (ca 0, 4, .inl sw_p4))] → va_S A s.heap H locs → fx (fun _ _ _ _ => none) (B_X11_strikeUpTo_42 x1 t_row) n_42 x2 t_end t_owner t_times = some res → W p l e RM_X11_strikeUpTo s m args below meth c H locs 0 0 (MQ below ((fun A => va_Qv (fun (u : Int32 × (Nat → Int32) × (Nat → Int32)) => res = u) (sw_Post G A (fun (u : Int32 × (Nat → Int32) × (Nat → Int32)) => [(q_t, .inr (8, [z_t_now, z_t_draft, z_t_kept, z_t_snapshot, z_t_history, z_t_accounts, .ref q_t_wheelPrimes, .ref q_t_row, z_t_undoCount, z_t_thrown, z_t_hasSnapshot, .ref q_t_owner, .ref q_t_times, .int u.1, z_t_ownerD, z_t_formatted, z_t_formattedLength, z_t_buffer, z_t_bufferLength, z_t_limit, z_t_nextByte, z_t_beginsAt, z_t_token, z_t_error, z_t_errorAt, z_t_errorPosition, z_t_nested, z_t_orders, z_t_orderWords, z_t_orderCount])), (q_t_owner, .inl (ca 0, 5300, .inl u.2.1)), (q_t_row, .inl (ca 0, 45, .inl t_row)), (q_t_times, .inl (ca 0, 5300, .inl u.2.2)), (q_t_wheelPrimes, .inl (ca 0, 4, .inl sw_p4))])) A) A) args s 0 0 A) (F0 m 42 ls []) := by
    intro n_42
    induction n_42 with
    | zero => intro x2 t_end t_owner t_times ls H locs hl hP hD hS h; exact no_at h
    | succ n_42 ih_42 =>
      intro x2 t_end t_owner t_times ls H locs hl hP hD hS h
      rw [fx_s] at h
      unfold B_X11_strikeUpTo_42 at h
      have hL_61 : ∀ (n_61 : Nat) (x2 : Int32) (x3 : Int32) (x4 : Int32) (t_end : Int32) (t_owner : (Nat → Int32)) (t_times : (Nat → Int32)) (ls : Array Slot) (H : Heap) (locs : List Loc), lv_has ls 5 [(0, .ref q_t), (1, .int x1), (2, .int x2), (3, .int x3), (4, .int x4)] → va_P G vwCl [(q_t, .inr (8, [z_t_now, z_t_draft, z_t_kept, z_t_snapshot, z_t_history, z_t_accounts, .ref q_t_wheelPrimes, .ref q_t_row, z_t_undoCount, z_t_thrown, z_t_hasSnapshot, .ref q_t_owner, .ref q_t_times, .int t_end, z_t_ownerD, z_t_formatted, z_t_formattedLength, z_t_buffer, z_t_bufferLength, z_t_limit, z_t_nextByte, z_t_beginsAt, z_t_token, z_t_error, z_t_errorAt, z_t_errorPosition, z_t_nested, z_t_orders, z_t_orderWords, z_t_orderCount])), (q_t_owner, .inl (ca 0, 5300, .inl t_owner)), (q_t_row, .inl (ca 0, 45, .inl t_row)), (q_t_times, .inl (ca 0, 5300, .inl t_times)), (q_t_wheelPrimes, .inl (ca 0, 4, .inl sw_p4))] H → va_D A [(q_t, .inr (8, [z_t_now, z_t_draft, z_t_kept, z_t_snapshot, z_t_history, z_t_accounts, .ref q_t_wheelPrimes, .ref q_t_row, z_t_undoCount, z_t_thrown, z_t_hasSnapshot, .ref q_t_owner, .ref q_t_times, .int t_end, z_t_ownerD, z_t_formatted, z_t_formattedLength, z_t_buffer, z_t_bufferLength, z_t_limit, z_t_nextByte, z_t_beginsAt, z_t_token, z_t_error, z_t_errorAt, z_t_errorPosition, z_t_nested, z_t_orders, z_t_orderWords, z_t_orderCount])), (q_t_owner, .inl (ca 0, 5300, .inl t_owner)), (q_t_row, .inl (ca 0, 45, .inl t_row)), (q_t_times, .inl (ca 0, 5300, .inl t_times)), (q_t_wheelPrimes, .inl (ca 0, 4, .inl sw_p4))] → va_S A s.heap H locs → fx (fun _ _ _ _ _ _ => none) (B_X11_strikeUpTo_61 x1 t_row (fx (fun _ _ _ _ => none) (B_X11_strikeUpTo_42 x1 t_row) n_42)) n_61 x2 x3 x4 t_end t_owner t_times = some res → W p l e RM_X11_strikeUpTo s m args below meth c H locs 0 0 (MQ below ((fun A => va_Qv (fun (u : Int32 × (Nat → Int32) × (Nat → Int32)) => res = u) (sw_Post G A (fun (u : Int32 × (Nat → Int32) × (Nat → Int32)) => [(q_t, .inr (8, [z_t_now, z_t_draft, z_t_kept, z_t_snapshot, z_t_history, z_t_accounts, .ref q_t_wheelPrimes, .ref q_t_row, z_t_undoCount, z_t_thrown, z_t_hasSnapshot, .ref q_t_owner, .ref q_t_times, .int u.1, z_t_ownerD, z_t_formatted, z_t_formattedLength, z_t_buffer, z_t_bufferLength, z_t_limit, z_t_nextByte, z_t_beginsAt, z_t_token, z_t_error, z_t_errorAt, z_t_errorPosition, z_t_nested, z_t_orders, z_t_orderWords, z_t_orderCount])), (q_t_owner, .inl (ca 0, 5300, .inl u.2.1)), (q_t_row, .inl (ca 0, 45, .inl t_row)), (q_t_times, .inl (ca 0, 5300, .inl u.2.2)), (q_t_wheelPrimes, .inl (ca 0, 4, .inl sw_p4))])) A) A) args s 0 0 A) (F0 m 61 ls []) := by
        intro n_61
        induction n_61 with
        | zero => intro x2 x3 x4 t_end t_owner t_times ls H locs hl hP hD hS h; exact no_at h
        | succ n_61 ih_61 =>
          intro x2 x3 x4 t_end t_owner t_times ls H locs hl hP hD hS h
          rw [fx_s] at h
          unfold B_X11_strikeUpTo_61 at h
          refine lv_iload hx hb dX11_strikeUpTo_61 (lv_at hl 4 rfl) ?_
          refine lv_iload_n hx hb dX11_strikeUpTo_63 rfl (lv_at hl 1 rfl) ?_
          refine lv_icmp_gt (tgt := 104) hx hb dX11_strikeUpTo_64 (by decide) (fun c_7 => ?_) (fun c_7 => ?_)
          · have h := if_t c_7 h
            obtain ⟨x2_8, e_x2_8⟩ : ∃ y : Int32, y = x2 + (-1) := ⟨_, rfl⟩
            refine lv_iinc (v := x2_8) (lv' := [(2, .int x2_8), (0, .ref q_t), (1, .int x1), (3, .int x3), (4, .int x4)]) hx hb dX11_strikeUpTo_104 hl (k := 2) rfl (by rw [e_x2_8]; rfl) (by decide) rfl (fun ls hl => ?_)
            have h := nm_at e_x2_8 h
            refine lv_goto (tgt := 42) hx hb dX11_strikeUpTo_107 (by decide) ?_
            exact ih_42 x2_8 t_end t_owner t_times ls H _ (lv_sub hl [1, 2, 0] rfl) hP hD hS h
          · have h := if_f c_7 h
            refine lv_aload_n hx hb dX11_strikeUpTo_67 rfl (lv_at hl 0 rfl) ?_
            refine lv_iload hx hb dX11_strikeUpTo_68 (lv_at hl 4 rfl) ?_
            obtain ⟨w_9, hg_10, h⟩ := bd_at h
            refine sw_ci (sw_runV (As := [.int x4]) (rest := []) Cx hP hD hS mv_X11_isOnSpoke ml_X11_96 (c_X11_isOnSpoke l G ca Z q_t q_t_row q_t_wheelPrimes (z_t_now) (z_t_draft) (z_t_kept) (z_t_snapshot) (z_t_history) (z_t_accounts) (z_t_undoCount) (z_t_thrown) (z_t_hasSnapshot) (.ref q_t_owner) (.ref q_t_times) (.int t_end) (z_t_ownerD) (z_t_formatted) (z_t_formattedLength) (z_t_buffer) (z_t_bufferLength) (z_t_limit) (z_t_nextByte) (z_t_beginsAt) (z_t_token) (z_t_error) (z_t_errorAt) (z_t_errorPosition) (z_t_nested) (z_t_orders) (z_t_orderWords) (z_t_orderCount) H.size x4 t_row w_9 hg_10) 8 rfl rfl rfl [0, 2, 4] rfl rfl rfl rfl ⟨(Nat.le_of_ble_eq_true rfl), (Nat.le_of_ble_eq_true rfl)⟩ hl.1 rfl rfl (Nat.le_of_ble_eq_true rfl) dX11_strikeUpTo_70 ⟨(Nat.le_of_ble_eq_true rfl), (Nat.le_of_ble_eq_true rfl)⟩) hP hD hS hA [0, 2, 4] [1, 3] [2, 0, 3, 1, 4] rfl rfl rfl (by decide) (fun _ => rfl) rfl (fun r u H locs hw hP hD hS => ?_)
            subst hw
            have hP : va_P G vwCl [(q_t, .inr (8, [z_t_now, z_t_draft, z_t_kept, z_t_snapshot, z_t_history, z_t_accounts, .ref q_t_wheelPrimes, .ref q_t_row, z_t_undoCount, z_t_thrown, z_t_hasSnapshot, .ref q_t_owner, .ref q_t_times, .int t_end, z_t_ownerD, z_t_formatted, z_t_formattedLength, z_t_buffer, z_t_bufferLength, z_t_limit, z_t_nextByte, z_t_beginsAt, z_t_token, z_t_error, z_t_errorAt, z_t_errorPosition, z_t_nested, z_t_orders, z_t_orderWords, z_t_orderCount])), (q_t_owner, .inl (ca 0, 5300, .inl t_owner)), (q_t_row, .inl (ca 0, 45, .inl t_row)), (q_t_times, .inl (ca 0, 5300, .inl t_times)), (q_t_wheelPrimes, .inl (ca 0, 4, .inl sw_p4))] H := hP
            have hD : va_D A [(q_t, .inr (8, [z_t_now, z_t_draft, z_t_kept, z_t_snapshot, z_t_history, z_t_accounts, .ref q_t_wheelPrimes, .ref q_t_row, z_t_undoCount, z_t_thrown, z_t_hasSnapshot, .ref q_t_owner, .ref q_t_times, .int t_end, z_t_ownerD, z_t_formatted, z_t_formattedLength, z_t_buffer, z_t_bufferLength, z_t_limit, z_t_nextByte, z_t_beginsAt, z_t_token, z_t_error, z_t_errorAt, z_t_errorPosition, z_t_nested, z_t_orders, z_t_orderWords, z_t_orderCount])), (q_t_owner, .inl (ca 0, 5300, .inl t_owner)), (q_t_row, .inl (ca 0, 45, .inl t_row)), (q_t_times, .inl (ca 0, 5300, .inl t_times)), (q_t_wheelPrimes, .inl (ca 0, 4, .inl sw_p4))] := hD
            refine lv_if_eq (tgt := 95) hx hb dX11_strikeUpTo_73 (by decide) (fun c_11 => ?_) (fun c_11 => ?_)
            · have c_11 := bI_z.mp c_11
              have h := if_f c_11 h
              refine lv_iload hx hb dX11_strikeUpTo_95 (lv_at hl 4 rfl) ?_
              refine lv_iload_n hx hb dX11_strikeUpTo_97 rfl (lv_at hl 3 rfl) ?_
              refine lv_iadd hx hb dX11_strikeUpTo_98 ?_
              refine lv_topi (fun x4_12 e_x4_12 => ?_)
              have h := nm_at e_x4_12 h
              refine lv_istore (lv' := [(4, .int x4_12), (0, .ref q_t), (1, .int x1), (2, .int x2), (3, .int x3)]) hx hb dX11_strikeUpTo_99 hl (by decide) rfl (fun ls hl => ?_)
              refine lv_goto (tgt := 61) hx hb dX11_strikeUpTo_101 (by decide) ?_
              exact ih_61 x2 x3 x4_12 t_end t_owner t_times ls H _ (lv_sub hl [1, 2, 3, 4, 0] rfl) hP hD hS h
            · have c_11 := bI_nz.mp c_11
              have h := if_t c_11 h
              refine lv_aload_n hx hb dX11_strikeUpTo_76 rfl (lv_at hl 0 rfl) ?_
              refine va_get (v := .ref q_t_owner) hx hb htU iU_X11 hown hK hP 0 rfl rfl 11 (by decide) (htU _ fl_X11_34) (fun _ h9 => h9) rfl dX11_strikeUpTo_77 ?_
              refine lv_iload hx hb dX11_strikeUpTo_80 (lv_at hl 4 rfl) ?_
              refine lv_iload_n hx hb dX11_strikeUpTo_82 rfl (lv_at hl 2 rfl) ?_
              obtain ⟨hi_13, h⟩ := ix_at h
              refine va_iast hx hb hK hP hD hS 1 0 rfl rfl hi_13 dX11_strikeUpTo_83 (fun H locs hP hD hS => ?_)
              have hP : va_P G vwCl [(q_t, .inr (8, [z_t_now, z_t_draft, z_t_kept, z_t_snapshot, z_t_history, z_t_accounts, .ref q_t_wheelPrimes, .ref q_t_row, z_t_undoCount, z_t_thrown, z_t_hasSnapshot, .ref q_t_owner, .ref q_t_times, .int t_end, z_t_ownerD, z_t_formatted, z_t_formattedLength, z_t_buffer, z_t_bufferLength, z_t_limit, z_t_nextByte, z_t_beginsAt, z_t_token, z_t_error, z_t_errorAt, z_t_errorPosition, z_t_nested, z_t_orders, z_t_orderWords, z_t_orderCount])), (q_t_owner, .inl (ca 0, 5300, .inl (upd t_owner x4.toNatClampNeg x2))), (q_t_row, .inl (ca 0, 45, .inl t_row)), (q_t_times, .inl (ca 0, 5300, .inl t_times)), (q_t_wheelPrimes, .inl (ca 0, 4, .inl sw_p4))] H := hP
              have hD : va_D A [(q_t, .inr (8, [z_t_now, z_t_draft, z_t_kept, z_t_snapshot, z_t_history, z_t_accounts, .ref q_t_wheelPrimes, .ref q_t_row, z_t_undoCount, z_t_thrown, z_t_hasSnapshot, .ref q_t_owner, .ref q_t_times, .int t_end, z_t_ownerD, z_t_formatted, z_t_formattedLength, z_t_buffer, z_t_bufferLength, z_t_limit, z_t_nextByte, z_t_beginsAt, z_t_token, z_t_error, z_t_errorAt, z_t_errorPosition, z_t_nested, z_t_orders, z_t_orderWords, z_t_orderCount])), (q_t_owner, .inl (ca 0, 5300, .inl (upd t_owner x4.toNatClampNeg x2))), (q_t_row, .inl (ca 0, 45, .inl t_row)), (q_t_times, .inl (ca 0, 5300, .inl t_times)), (q_t_wheelPrimes, .inl (ca 0, 4, .inl sw_p4))] := hD
              refine lv_aload_n hx hb dX11_strikeUpTo_84 rfl (lv_at hl 0 rfl) ?_
              refine va_get (v := .ref q_t_times) hx hb htU iU_X11 hown hK hP 0 rfl rfl 12 (by decide) (htU _ fl_X11_37) (fun _ h9 => h9) rfl dX11_strikeUpTo_85 ?_
              refine lv_iload hx hb dX11_strikeUpTo_88 (lv_at hl 4 rfl) ?_
              refine lv_dup2_11 hx hb dX11_strikeUpTo_90 rfl rfl ?_
              obtain ⟨hi_14, h⟩ := ix_at h
              refine va_iald hx hb hK hP 3 0 rfl rfl hi_14 dX11_strikeUpTo_91 ?_
              refine lv_iconst (v := 1) hx hb dX11_strikeUpTo_92 (by decide) ?_
              refine lv_iadd hx hb dX11_strikeUpTo_93 ?_
              refine lv_topi (fun a_15 e_a_15 => ?_)
              have h := nm_at e_a_15 h
              obtain ⟨hi_16, h⟩ := ix_at h
              refine va_iast hx hb hK hP hD hS 3 0 rfl rfl hi_16 dX11_strikeUpTo_94 (fun H locs hP hD hS => ?_)
              have hP : va_P G vwCl [(q_t, .inr (8, [z_t_now, z_t_draft, z_t_kept, z_t_snapshot, z_t_history, z_t_accounts, .ref q_t_wheelPrimes, .ref q_t_row, z_t_undoCount, z_t_thrown, z_t_hasSnapshot, .ref q_t_owner, .ref q_t_times, .int t_end, z_t_ownerD, z_t_formatted, z_t_formattedLength, z_t_buffer, z_t_bufferLength, z_t_limit, z_t_nextByte, z_t_beginsAt, z_t_token, z_t_error, z_t_errorAt, z_t_errorPosition, z_t_nested, z_t_orders, z_t_orderWords, z_t_orderCount])), (q_t_owner, .inl (ca 0, 5300, .inl (upd t_owner x4.toNatClampNeg x2))), (q_t_row, .inl (ca 0, 45, .inl t_row)), (q_t_times, .inl (ca 0, 5300, .inl (upd t_times x4.toNatClampNeg a_15))), (q_t_wheelPrimes, .inl (ca 0, 4, .inl sw_p4))] H := hP
              have hD : va_D A [(q_t, .inr (8, [z_t_now, z_t_draft, z_t_kept, z_t_snapshot, z_t_history, z_t_accounts, .ref q_t_wheelPrimes, .ref q_t_row, z_t_undoCount, z_t_thrown, z_t_hasSnapshot, .ref q_t_owner, .ref q_t_times, .int t_end, z_t_ownerD, z_t_formatted, z_t_formattedLength, z_t_buffer, z_t_bufferLength, z_t_limit, z_t_nextByte, z_t_beginsAt, z_t_token, z_t_error, z_t_errorAt, z_t_errorPosition, z_t_nested, z_t_orders, z_t_orderWords, z_t_orderCount])), (q_t_owner, .inl (ca 0, 5300, .inl (upd t_owner x4.toNatClampNeg x2))), (q_t_row, .inl (ca 0, 45, .inl t_row)), (q_t_times, .inl (ca 0, 5300, .inl (upd t_times x4.toNatClampNeg a_15))), (q_t_wheelPrimes, .inl (ca 0, 4, .inl sw_p4))] := hD
              refine lv_iload hx hb dX11_strikeUpTo_95 (lv_at hl 4 rfl) ?_
              refine lv_iload_n hx hb dX11_strikeUpTo_97 rfl (lv_at hl 3 rfl) ?_
              refine lv_iadd hx hb dX11_strikeUpTo_98 ?_
              refine lv_topi (fun x4_17 e_x4_17 => ?_)
              have h := nm_at e_x4_17 h
              refine lv_istore (lv' := [(4, .int x4_17), (0, .ref q_t), (1, .int x1), (2, .int x2), (3, .int x3)]) hx hb dX11_strikeUpTo_99 hl (by decide) rfl (fun ls hl => ?_)
              refine lv_goto (tgt := 61) hx hb dX11_strikeUpTo_101 (by decide) ?_
              exact ih_61 x2 x3 x4_17 t_end (upd t_owner x4.toNatClampNeg x2) (upd t_times x4.toNatClampNeg a_15) ls H _ (lv_sub hl [1, 2, 3, 4, 0] rfl) hP hD hS h
      refine lv_iload_n hx hb dX11_strikeUpTo_42 rfl (lv_at hl 2 rfl) ?_
      refine lv_if_lt (tgt := 110) hx hb dX11_strikeUpTo_43 (by decide) (fun c_3 => ?_) (fun c_3 => ?_)
      · have h := if_t c_3 h
        exact sw_rv hx hb hr hlocks hS (t_end, t_owner, t_times) (pr1 h) hP hD dX11_strikeUpTo_110
      · have h := if_f c_3 h
        refine lv_aload_n hx hb dX11_strikeUpTo_46 rfl (lv_at hl 0 rfl) ?_
        refine va_get (v := .ref q_t_row) hx hb htU iU_X11 hown hK hP 0 rfl rfl 7 (by decide) (htU _ fl_X11_31) (fun _ h9 => h9) rfl dX11_strikeUpTo_47 ?_
        refine lv_bipush (v := 15) hx hb dX11_strikeUpTo_50 (by decide) ?_
        refine lv_iload_n hx hb dX11_strikeUpTo_52 rfl (lv_at hl 2 rfl) ?_
        refine lv_iadd hx hb dX11_strikeUpTo_53 ?_
        obtain ⟨hi_4, h⟩ := ix_at h
        refine va_iald hx hb hK hP 2 0 rfl rfl hi_4 dX11_strikeUpTo_54 ?_
        refine lv_topi (fun x3_5 e_x3_5 => ?_)
        have h := nm_at e_x3_5 h
        refine lv_istore_n (lv' := [(3, .int x3_5), (0, .ref q_t), (1, .int x1), (2, .int x2)]) hx hb dX11_strikeUpTo_55 rfl hl (by decide) rfl (fun ls hl => ?_)
        refine lv_iload_n hx hb dX11_strikeUpTo_56 rfl (lv_at hl 0 rfl) ?_
        refine lv_iload_n hx hb dX11_strikeUpTo_57 rfl (lv_at hl 0 rfl) ?_
        refine lv_imul hx hb dX11_strikeUpTo_58 ?_
        refine lv_topi (fun x4_6 e_x4_6 => ?_)
        have h := nm_at e_x4_6 h
        refine lv_istore (lv' := [(4, .int x4_6), (3, .int x3_5), (0, .ref q_t), (1, .int x1), (2, .int x2)]) hx hb dX11_strikeUpTo_59 hl (by decide) rfl (fun ls hl => ?_)
        exact hL_61 FUEL x2 x3_5 x4_6 t_end t_owner t_times ls H _ (lv_sub hl [2, 3, 4, 1, 0] rfl) hP hD hS h
  have hL_7 : ∀ (n_7 : Nat) (x2 : Int32) (t_end : Int32) (t_owner : (Nat → Int32)) (t_times : (Nat → Int32)) (ls : Array Slot) (H : Heap) (locs : List Loc), lv_has ls 5 [(0, .ref q_t), (1, .int x1), (2, .int x2)] → va_P G vwCl [(q_t, .inr (8, [z_t_now, z_t_draft, z_t_kept, z_t_snapshot, z_t_history, z_t_accounts, .ref q_t_wheelPrimes, .ref q_t_row, z_t_undoCount, z_t_thrown, z_t_hasSnapshot, .ref q_t_owner, .ref q_t_times, .int t_end, z_t_ownerD, z_t_formatted, z_t_formattedLength, z_t_buffer, z_t_bufferLength, z_t_limit, z_t_nextByte, z_t_beginsAt, z_t_token, z_t_error, z_t_errorAt, z_t_errorPosition, z_t_nested, z_t_orders, z_t_orderWords, z_t_orderCount])), (q_t_owner, .inl (ca 0, 5300, .inl t_owner)), (q_t_row, .inl (ca 0, 45, .inl t_row)), (q_t_times, .inl (ca 0, 5300, .inl t_times)), (q_t_wheelPrimes, .inl (ca 0, 4, .inl sw_p4))] H → va_D A [(q_t, .inr (8, [z_t_now, z_t_draft, z_t_kept, z_t_snapshot, z_t_history, z_t_accounts, .ref q_t_wheelPrimes, .ref q_t_row, z_t_undoCount, z_t_thrown, z_t_hasSnapshot, .ref q_t_owner, .ref q_t_times, .int t_end, z_t_ownerD, z_t_formatted, z_t_formattedLength, z_t_buffer, z_t_bufferLength, z_t_limit, z_t_nextByte, z_t_beginsAt, z_t_token, z_t_error, z_t_errorAt, z_t_errorPosition, z_t_nested, z_t_orders, z_t_orderWords, z_t_orderCount])), (q_t_owner, .inl (ca 0, 5300, .inl t_owner)), (q_t_row, .inl (ca 0, 45, .inl t_row)), (q_t_times, .inl (ca 0, 5300, .inl t_times)), (q_t_wheelPrimes, .inl (ca 0, 4, .inl sw_p4))] → va_S A s.heap H locs → fx (fun _ _ _ _ => none) (B_X11_strikeUpTo_7 x1 t_row) n_7 x2 t_end t_owner t_times = some res → W p l e RM_X11_strikeUpTo s m args below meth c H locs 0 0 (MQ below ((fun A => va_Qv (fun (u : Int32 × (Nat → Int32) × (Nat → Int32)) => res = u) (sw_Post G A (fun (u : Int32 × (Nat → Int32) × (Nat → Int32)) => [(q_t, .inr (8, [z_t_now, z_t_draft, z_t_kept, z_t_snapshot, z_t_history, z_t_accounts, .ref q_t_wheelPrimes, .ref q_t_row, z_t_undoCount, z_t_thrown, z_t_hasSnapshot, .ref q_t_owner, .ref q_t_times, .int u.1, z_t_ownerD, z_t_formatted, z_t_formattedLength, z_t_buffer, z_t_bufferLength, z_t_limit, z_t_nextByte, z_t_beginsAt, z_t_token, z_t_error, z_t_errorAt, z_t_errorPosition, z_t_nested, z_t_orders, z_t_orderWords, z_t_orderCount])), (q_t_owner, .inl (ca 0, 5300, .inl u.2.1)), (q_t_row, .inl (ca 0, 45, .inl t_row)), (q_t_times, .inl (ca 0, 5300, .inl u.2.2)), (q_t_wheelPrimes, .inl (ca 0, 4, .inl sw_p4))])) A) A) args s 0 0 A) (F0 m 7 ls []) := by
    intro n_7
    induction n_7 with
    | zero => intro x2 t_end t_owner t_times ls H locs hl hP hD hS h; exact no_at h
    | succ n_7 ih_7 =>
      intro x2 t_end t_owner t_times ls H locs hl hP hD hS h
      rw [fx_s] at h
      unfold B_X11_strikeUpTo_7 at h
      refine lv_iload_n hx hb dX11_strikeUpTo_7 rfl (lv_at hl 2 rfl) ?_
      refine lv_iload_n hx hb dX11_strikeUpTo_8 rfl (lv_at hl 1 rfl) ?_
      refine lv_icmp_gt (tgt := 32) hx hb dX11_strikeUpTo_9 (by decide) (fun c_1 => ?_) (fun c_1 => ?_)
      · have h := if_t c_1 h
        refine lv_aload_n hx hb dX11_strikeUpTo_32 rfl (lv_at hl 0 rfl) ?_
        refine va_get (v := .ref q_t_row) hx hb htU iU_X11 hown hK hP 0 rfl rfl 7 (by decide) (htU _ fl_X11_31) (fun _ h9 => h9) rfl dX11_strikeUpTo_33 ?_
        refine lv_bipush (v := 14) hx hb dX11_strikeUpTo_36 (by decide) ?_
        refine sw_iald0 hx hb hK hP 2 0 rfl rfl 14 rfl (sw_vin (by decide)) dX11_strikeUpTo_38 ?_
        refine lv_iconst (v := 1) hx hb dX11_strikeUpTo_39 (by decide) ?_
        refine lv_isub hx hb dX11_strikeUpTo_40 ?_
        refine lv_topi (fun x2_2 e_x2_2 => ?_)
        have h := nm_at e_x2_2 h
        refine lv_istore_n (lv' := [(2, .int x2_2), (0, .ref q_t), (1, .int x1)]) hx hb dX11_strikeUpTo_41 rfl hl (by decide) rfl (fun ls hl => ?_)
        exact hL_42 FUEL x2_2 t_end t_owner t_times ls H _ (lv_sub hl [1, 2, 0] rfl) hP hD hS h
      · have h := if_f c_1 h
        refine lv_aload_n hx hb dX11_strikeUpTo_12 rfl (lv_at hl 0 rfl) ?_
        refine va_get (v := .ref q_t_owner) hx hb htU iU_X11 hown hK hP 0 rfl rfl 11 (by decide) (htU _ fl_X11_34) (fun _ h9 => h9) rfl dX11_strikeUpTo_13 ?_
        refine lv_iload_n hx hb dX11_strikeUpTo_16 rfl (lv_at hl 2 rfl) ?_
        refine lv_iconst (v := (-1)) hx hb dX11_strikeUpTo_17 (by decide) ?_
        obtain ⟨hi_18, h⟩ := ix_at h
        refine va_iast hx hb hK hP hD hS 1 0 rfl rfl hi_18 dX11_strikeUpTo_18 (fun H locs hP hD hS => ?_)
        have hP : va_P G vwCl [(q_t, .inr (8, [z_t_now, z_t_draft, z_t_kept, z_t_snapshot, z_t_history, z_t_accounts, .ref q_t_wheelPrimes, .ref q_t_row, z_t_undoCount, z_t_thrown, z_t_hasSnapshot, .ref q_t_owner, .ref q_t_times, .int t_end, z_t_ownerD, z_t_formatted, z_t_formattedLength, z_t_buffer, z_t_bufferLength, z_t_limit, z_t_nextByte, z_t_beginsAt, z_t_token, z_t_error, z_t_errorAt, z_t_errorPosition, z_t_nested, z_t_orders, z_t_orderWords, z_t_orderCount])), (q_t_owner, .inl (ca 0, 5300, .inl (upd t_owner x2.toNatClampNeg (-1)))), (q_t_row, .inl (ca 0, 45, .inl t_row)), (q_t_times, .inl (ca 0, 5300, .inl t_times)), (q_t_wheelPrimes, .inl (ca 0, 4, .inl sw_p4))] H := hP
        have hD : va_D A [(q_t, .inr (8, [z_t_now, z_t_draft, z_t_kept, z_t_snapshot, z_t_history, z_t_accounts, .ref q_t_wheelPrimes, .ref q_t_row, z_t_undoCount, z_t_thrown, z_t_hasSnapshot, .ref q_t_owner, .ref q_t_times, .int t_end, z_t_ownerD, z_t_formatted, z_t_formattedLength, z_t_buffer, z_t_bufferLength, z_t_limit, z_t_nextByte, z_t_beginsAt, z_t_token, z_t_error, z_t_errorAt, z_t_errorPosition, z_t_nested, z_t_orders, z_t_orderWords, z_t_orderCount])), (q_t_owner, .inl (ca 0, 5300, .inl (upd t_owner x2.toNatClampNeg (-1)))), (q_t_row, .inl (ca 0, 45, .inl t_row)), (q_t_times, .inl (ca 0, 5300, .inl t_times)), (q_t_wheelPrimes, .inl (ca 0, 4, .inl sw_p4))] := hD
        refine lv_aload_n hx hb dX11_strikeUpTo_19 rfl (lv_at hl 0 rfl) ?_
        refine va_get (v := .ref q_t_times) hx hb htU iU_X11 hown hK hP 0 rfl rfl 12 (by decide) (htU _ fl_X11_37) (fun _ h9 => h9) rfl dX11_strikeUpTo_20 ?_
        refine lv_iload_n hx hb dX11_strikeUpTo_23 rfl (lv_at hl 2 rfl) ?_
        refine lv_iconst (v := 0) hx hb dX11_strikeUpTo_24 (by decide) ?_
        obtain ⟨hi_19, h⟩ := ix_at h
        refine va_iast hx hb hK hP hD hS 3 0 rfl rfl hi_19 dX11_strikeUpTo_25 (fun H locs hP hD hS => ?_)
        have hP : va_P G vwCl [(q_t, .inr (8, [z_t_now, z_t_draft, z_t_kept, z_t_snapshot, z_t_history, z_t_accounts, .ref q_t_wheelPrimes, .ref q_t_row, z_t_undoCount, z_t_thrown, z_t_hasSnapshot, .ref q_t_owner, .ref q_t_times, .int t_end, z_t_ownerD, z_t_formatted, z_t_formattedLength, z_t_buffer, z_t_bufferLength, z_t_limit, z_t_nextByte, z_t_beginsAt, z_t_token, z_t_error, z_t_errorAt, z_t_errorPosition, z_t_nested, z_t_orders, z_t_orderWords, z_t_orderCount])), (q_t_owner, .inl (ca 0, 5300, .inl (upd t_owner x2.toNatClampNeg (-1)))), (q_t_row, .inl (ca 0, 45, .inl t_row)), (q_t_times, .inl (ca 0, 5300, .inl (upd t_times x2.toNatClampNeg 0))), (q_t_wheelPrimes, .inl (ca 0, 4, .inl sw_p4))] H := hP
        have hD : va_D A [(q_t, .inr (8, [z_t_now, z_t_draft, z_t_kept, z_t_snapshot, z_t_history, z_t_accounts, .ref q_t_wheelPrimes, .ref q_t_row, z_t_undoCount, z_t_thrown, z_t_hasSnapshot, .ref q_t_owner, .ref q_t_times, .int t_end, z_t_ownerD, z_t_formatted, z_t_formattedLength, z_t_buffer, z_t_bufferLength, z_t_limit, z_t_nextByte, z_t_beginsAt, z_t_token, z_t_error, z_t_errorAt, z_t_errorPosition, z_t_nested, z_t_orders, z_t_orderWords, z_t_orderCount])), (q_t_owner, .inl (ca 0, 5300, .inl (upd t_owner x2.toNatClampNeg (-1)))), (q_t_row, .inl (ca 0, 45, .inl t_row)), (q_t_times, .inl (ca 0, 5300, .inl (upd t_times x2.toNatClampNeg 0))), (q_t_wheelPrimes, .inl (ca 0, 4, .inl sw_p4))] := hD
        obtain ⟨x2_20, e_x2_20⟩ : ∃ y : Int32, y = x2 + 1 := ⟨_, rfl⟩
        refine lv_iinc (v := x2_20) (lv' := [(2, .int x2_20), (0, .ref q_t), (1, .int x1)]) hx hb dX11_strikeUpTo_26 hl (k := 2) rfl (by rw [e_x2_20]; rfl) (by decide) rfl (fun ls hl => ?_)
        have h := nm_at e_x2_20 h
        refine lv_goto (tgt := 7) hx hb dX11_strikeUpTo_29 (by decide) ?_
        exact ih_7 x2_20 t_end (upd t_owner x2.toNatClampNeg (-1)) (upd t_times x2.toNatClampNeg 0) ls H _ (lv_sub hl [1, 2, 0] rfl) hP hD hS h
  refine lv_aload_n hx hb dX11_strikeUpTo_0 rfl (lv_at hl 0 rfl) ?_
  refine lv_iload_n hx hb dX11_strikeUpTo_1 rfl (lv_at hl 1 rfl) ?_
  refine va_put (v := .int x1) (ty := .int) hx hb htU iU_X11 tyX11 tyX11_ok nmX11 hown hK hP hD hS 0 rfl rfl 13 (by decide) (htU _ fl_X11_100) (fun _ h9 => h9) rfl (by decide +kernel) rfl rfl (Nat.le_of_ble_eq_true rfl) dX11_strikeUpTo_2 (fun H locs hP hD hS => ?_)
  have hP : va_P G vwCl [(q_t, .inr (8, [z_t_now, z_t_draft, z_t_kept, z_t_snapshot, z_t_history, z_t_accounts, .ref q_t_wheelPrimes, .ref q_t_row, z_t_undoCount, z_t_thrown, z_t_hasSnapshot, .ref q_t_owner, .ref q_t_times, .int x1, z_t_ownerD, z_t_formatted, z_t_formattedLength, z_t_buffer, z_t_bufferLength, z_t_limit, z_t_nextByte, z_t_beginsAt, z_t_token, z_t_error, z_t_errorAt, z_t_errorPosition, z_t_nested, z_t_orders, z_t_orderWords, z_t_orderCount])), (q_t_owner, .inl (ca 0, 5300, .inl t_owner)), (q_t_row, .inl (ca 0, 45, .inl t_row)), (q_t_times, .inl (ca 0, 5300, .inl t_times)), (q_t_wheelPrimes, .inl (ca 0, 4, .inl sw_p4))] H := hP
  have hD : va_D A [(q_t, .inr (8, [z_t_now, z_t_draft, z_t_kept, z_t_snapshot, z_t_history, z_t_accounts, .ref q_t_wheelPrimes, .ref q_t_row, z_t_undoCount, z_t_thrown, z_t_hasSnapshot, .ref q_t_owner, .ref q_t_times, .int x1, z_t_ownerD, z_t_formatted, z_t_formattedLength, z_t_buffer, z_t_bufferLength, z_t_limit, z_t_nextByte, z_t_beginsAt, z_t_token, z_t_error, z_t_errorAt, z_t_errorPosition, z_t_nested, z_t_orders, z_t_orderWords, z_t_orderCount])), (q_t_owner, .inl (ca 0, 5300, .inl t_owner)), (q_t_row, .inl (ca 0, 45, .inl t_row)), (q_t_times, .inl (ca 0, 5300, .inl t_times)), (q_t_wheelPrimes, .inl (ca 0, 4, .inl sw_p4))] := hD
  refine lv_iconst (v := 0) hx hb dX11_strikeUpTo_5 (by decide) ?_
  refine lv_istore_n (lv' := [(2, .int 0), (0, .ref q_t), (1, .int x1)]) hx hb dX11_strikeUpTo_6 rfl hl (by decide) rfl (fun ls hl => ?_)
  exact hL_7 FUEL 0 x1 t_owner t_times ls H _ (lv_sub hl [1, 2, 0] rfl) hP hD hS h
theorem mv_X11_strike : sw_MV yX11_strike RX11 cX11_strike 1 (Option.none : Option Jvm.ClassFile.FieldType) 0 := ⟨im_X11_strike, se_X11_strike, ini_X11, co_X11_strike, by decide +kernel⟩
def F_X11_strike (t_end : Int32) (t_owner : (Nat → Int32)) (t_row : (Nat → Int32)) (t_times : (Nat → Int32)) : Option (Int32 × (Nat → Int32) × (Nat → Int32)) :=
 (F_X11_last t_row).bind (fun w_1 => (F_X11_strikeUpTo w_1 t_end t_owner t_row t_times).bind (fun w_3 => some (w_3.1, w_3.2.1, w_3.2.2)))
abbrev RM_X11_strike : Room := ({ frames := 3, cells := 0, slots := 0, locals := 67 } : Room)
set_option maxHeartbeats 4000000 in
set_option maxRecDepth 100000 in
theorem c_X11_strike (l : Launch) (G : va_G) (ca Z : Nat → Nat) (q_t : Nat) (q_t_owner : Nat) (q_t_row : Nat) (q_t_times : Nat) (q_t_wheelPrimes : Nat) (z_t_now : Value) (z_t_draft : Value) (z_t_kept : Value) (z_t_snapshot : Value) (z_t_history : Value) (z_t_accounts : Value) (z_t_undoCount : Value) (z_t_thrown : Value) (z_t_hasSnapshot : Value) (z_t_ownerD : Value) (z_t_formatted : Value) (z_t_formattedLength : Value) (z_t_buffer : Value) (z_t_bufferLength : Value) (z_t_limit : Value) (z_t_nextByte : Value) (z_t_beginsAt : Value) (z_t_token : Value) (z_t_error : Value) (z_t_errorAt : Value) (z_t_errorPosition : Value) (z_t_nested : Value) (z_t_orders : Value) (z_t_orderWords : Value) (z_t_orderCount : Value) (sz : Nat) (t_end : Int32) (t_owner : (Nat → Int32)) (t_row : (Nat → Int32)) (t_times : (Nat → Int32)) (res : Int32 × (Nat → Int32) × (Nat → Int32)) (hF : F_X11_strike t_end t_owner t_row t_times = some res) : Met l yX11_strike (.code yX11_strike cX11_strike 1 (Option.none : Option Jvm.ClassFile.FieldType) :: sw_U) RM_X11_strike (va_Pc [.ref q_t] (sw_Pre G ca Z [(q_t, .inr (8, [z_t_now, z_t_draft, z_t_kept, z_t_snapshot, z_t_history, z_t_accounts, .ref q_t_wheelPrimes, .ref q_t_row, z_t_undoCount, z_t_thrown, z_t_hasSnapshot, .ref q_t_owner, .ref q_t_times, .int t_end, z_t_ownerD, z_t_formatted, z_t_formattedLength, z_t_buffer, z_t_bufferLength, z_t_limit, z_t_nextByte, z_t_beginsAt, z_t_token, z_t_error, z_t_errorAt, z_t_errorPosition, z_t_nested, z_t_orders, z_t_orderWords, z_t_orderCount])), (q_t_owner, .inl (ca 0, 5300, .inl t_owner)), (q_t_row, .inl (ca 0, 45, .inl t_row)), (q_t_times, .inl (ca 0, 5300, .inl t_times)), (q_t_wheelPrimes, .inl (ca 0, 4, .inl sw_p4))] sz)) ((fun A => va_Qv (fun (u : Int32 × (Nat → Int32) × (Nat → Int32)) => res = u) (sw_Post G A (fun (u : Int32 × (Nat → Int32) × (Nat → Int32)) => [(q_t, .inr (8, [z_t_now, z_t_draft, z_t_kept, z_t_snapshot, z_t_history, z_t_accounts, .ref q_t_wheelPrimes, .ref q_t_row, z_t_undoCount, z_t_thrown, z_t_hasSnapshot, .ref q_t_owner, .ref q_t_times, .int u.1, z_t_ownerD, z_t_formatted, z_t_formattedLength, z_t_buffer, z_t_bufferLength, z_t_limit, z_t_nextByte, z_t_beginsAt, z_t_token, z_t_error, z_t_errorAt, z_t_errorPosition, z_t_nested, z_t_orders, z_t_orderWords, z_t_orderCount])), (q_t_owner, .inl (ca 0, 5300, .inl u.2.1)), (q_t_row, .inl (ca 0, 45, .inl t_row)), (q_t_times, .inl (ca 0, 5300, .inl u.2.2)), (q_t_wheelPrimes, .inl (ca 0, 4, .inl sw_p4))])) A) (va_A [(q_t, .inr (8, [z_t_now, z_t_draft, z_t_kept, z_t_snapshot, z_t_history, z_t_accounts, .ref q_t_wheelPrimes, .ref q_t_row, z_t_undoCount, z_t_thrown, z_t_hasSnapshot, .ref q_t_owner, .ref q_t_times, .int t_end, z_t_ownerD, z_t_formatted, z_t_formattedLength, z_t_buffer, z_t_bufferLength, z_t_limit, z_t_nextByte, z_t_beginsAt, z_t_token, z_t_error, z_t_errorAt, z_t_errorPosition, z_t_nested, z_t_orders, z_t_orderWords, z_t_orderCount])), (q_t_owner, .inl (ca 0, 5300, .inl t_owner)), (q_t_row, .inl (ca 0, 45, .inl t_row)), (q_t_times, .inl (ca 0, 5300, .inl t_times)), (q_t_wheelPrimes, .inl (ca 0, 4, .inl sw_p4))] sz)) 0 0 (va_A [(q_t, .inr (8, [z_t_now, z_t_draft, z_t_kept, z_t_snapshot, z_t_history, z_t_accounts, .ref q_t_wheelPrimes, .ref q_t_row, z_t_undoCount, z_t_thrown, z_t_hasSnapshot, .ref q_t_owner, .ref q_t_times, .int t_end, z_t_ownerD, z_t_formatted, z_t_formattedLength, z_t_buffer, z_t_bufferLength, z_t_limit, z_t_nextByte, z_t_beginsAt, z_t_token, z_t_error, z_t_errorAt, z_t_errorPosition, z_t_nested, z_t_orders, z_t_orderWords, z_t_orderCount])), (q_t_owner, .inl (ca 0, 5300, .inl t_owner)), (q_t_row, .inl (ca 0, 45, .inl t_row)), (q_t_times, .inl (ca 0, 5300, .inl t_times)), (q_t_wheelPrimes, .inl (ca 0, 4, .inl sw_p4))] sz) := by
  refine sw_ofW (Qc := fun A => va_Qv (fun (u : Int32 × (Nat → Int32) × (Nat → Int32)) => res = u) (sw_Post G A (fun (u : Int32 × (Nat → Int32) × (Nat → Int32)) => [(q_t, .inr (8, [z_t_now, z_t_draft, z_t_kept, z_t_snapshot, z_t_history, z_t_accounts, .ref q_t_wheelPrimes, .ref q_t_row, z_t_undoCount, z_t_thrown, z_t_hasSnapshot, .ref q_t_owner, .ref q_t_times, .int u.1, z_t_ownerD, z_t_formatted, z_t_formattedLength, z_t_buffer, z_t_bufferLength, z_t_limit, z_t_nextByte, z_t_beginsAt, z_t_token, z_t_error, z_t_errorAt, z_t_errorPosition, z_t_nested, z_t_orders, z_t_orderWords, z_t_orderCount])), (q_t_owner, .inl (ca 0, 5300, .inl u.2.1)), (q_t_row, .inl (ca 0, 45, .inl t_row)), (q_t_times, .inl (ca 0, 5300, .inl u.2.2)), (q_t_wheelPrimes, .inl (ca 0, 4, .inl sw_p4))])) A) (by decide) [(0, .ref q_t)] rfl (Nat.le_of_ble_eq_true rfl) ?_
  intro p e s m args below meth c ls A hx hb hr hml hown htU hlocks hnm hP hK hD hX hY hS hA hl
  have hown : s.vm.findClass RX11 = some m.cls := hown
  have Cx : sw_Cx p s m args c cX11_strike 1 RX11 G ca Z A := ⟨⟨hx, hb, hml, hown, htU⟩, hK, hX, hY, hA⟩
  have h := hF
  unfold F_X11_strike at h
  refine lv_aload_n hx hb dX11_strike_0 rfl (lv_at hl 0 rfl) ?_
  refine lv_aload_n hx hb dX11_strike_1 rfl (lv_at hl 0 rfl) ?_
  obtain ⟨w_1, hg_2, h⟩ := bd_at h
  refine sw_ci (sw_runV (As := []) (rest := [.ref q_t]) Cx hP hD hS mv_X11_last ml_X11_89 (c_X11_last l G ca Z q_t q_t_row (z_t_now) (z_t_draft) (z_t_kept) (z_t_snapshot) (z_t_history) (z_t_accounts) (.ref q_t_wheelPrimes) (z_t_undoCount) (z_t_thrown) (z_t_hasSnapshot) (.ref q_t_owner) (.ref q_t_times) (.int t_end) (z_t_ownerD) (z_t_formatted) (z_t_formattedLength) (z_t_buffer) (z_t_bufferLength) (z_t_limit) (z_t_nextByte) (z_t_beginsAt) (z_t_token) (z_t_error) (z_t_errorAt) (z_t_errorPosition) (z_t_nested) (z_t_orders) (z_t_orderWords) (z_t_orderCount) s.heap.size t_row w_1 hg_2) 8 rfl rfl rfl [0, 2] rfl rfl rfl rfl ⟨(Nat.le_of_ble_eq_true rfl), (Nat.le_of_ble_eq_true rfl)⟩ hl.1 rfl rfl (Nat.le_of_ble_eq_true rfl) dX11_strike_2 ⟨(Nat.le_of_ble_eq_true rfl), (Nat.le_of_ble_eq_true rfl)⟩) hP hD hS hA [0, 2] [1, 3, 4] [3, 0, 4, 1, 2] rfl rfl rfl (by decide) (fun _ => rfl) rfl (fun r u H locs hw hP hD hS => ?_)
  subst hw
  have hP : va_P G vwCl [(q_t, .inr (8, [z_t_now, z_t_draft, z_t_kept, z_t_snapshot, z_t_history, z_t_accounts, .ref q_t_wheelPrimes, .ref q_t_row, z_t_undoCount, z_t_thrown, z_t_hasSnapshot, .ref q_t_owner, .ref q_t_times, .int t_end, z_t_ownerD, z_t_formatted, z_t_formattedLength, z_t_buffer, z_t_bufferLength, z_t_limit, z_t_nextByte, z_t_beginsAt, z_t_token, z_t_error, z_t_errorAt, z_t_errorPosition, z_t_nested, z_t_orders, z_t_orderWords, z_t_orderCount])), (q_t_owner, .inl (ca 0, 5300, .inl t_owner)), (q_t_row, .inl (ca 0, 45, .inl t_row)), (q_t_times, .inl (ca 0, 5300, .inl t_times)), (q_t_wheelPrimes, .inl (ca 0, 4, .inl sw_p4))] H := hP
  have hD : va_D A [(q_t, .inr (8, [z_t_now, z_t_draft, z_t_kept, z_t_snapshot, z_t_history, z_t_accounts, .ref q_t_wheelPrimes, .ref q_t_row, z_t_undoCount, z_t_thrown, z_t_hasSnapshot, .ref q_t_owner, .ref q_t_times, .int t_end, z_t_ownerD, z_t_formatted, z_t_formattedLength, z_t_buffer, z_t_bufferLength, z_t_limit, z_t_nextByte, z_t_beginsAt, z_t_token, z_t_error, z_t_errorAt, z_t_errorPosition, z_t_nested, z_t_orders, z_t_orderWords, z_t_orderCount])), (q_t_owner, .inl (ca 0, 5300, .inl t_owner)), (q_t_row, .inl (ca 0, 45, .inl t_row)), (q_t_times, .inl (ca 0, 5300, .inl t_times)), (q_t_wheelPrimes, .inl (ca 0, 4, .inl sw_p4))] := hD
  obtain ⟨w_3, hg_4, h⟩ := bd_at h
  refine sw_cv (sw_runV (As := [.int w_1]) (rest := []) Cx hP hD hS mv_X11_strikeUpTo ml_X11_103 (c_X11_strikeUpTo l G ca Z q_t q_t_owner q_t_row q_t_times q_t_wheelPrimes (z_t_now) (z_t_draft) (z_t_kept) (z_t_snapshot) (z_t_history) (z_t_accounts) (z_t_undoCount) (z_t_thrown) (z_t_hasSnapshot) (z_t_ownerD) (z_t_formatted) (z_t_formattedLength) (z_t_buffer) (z_t_bufferLength) (z_t_limit) (z_t_nextByte) (z_t_beginsAt) (z_t_token) (z_t_error) (z_t_errorAt) (z_t_errorPosition) (z_t_nested) (z_t_orders) (z_t_orderWords) (z_t_orderCount) H.size w_1 t_end t_owner t_row t_times w_3 hg_4) 8 rfl rfl rfl [0, 1, 2, 3, 4] rfl rfl rfl rfl ⟨(Nat.le_of_ble_eq_true rfl), (Nat.le_of_ble_eq_true rfl)⟩ hl.1 rfl rfl (Nat.le_of_ble_eq_true rfl) dX11_strike_5 ⟨(Nat.le_of_ble_eq_true rfl), (Nat.le_of_ble_eq_true rfl)⟩) hP hD hS hA [0, 1, 2, 3, 4] [] [0, 1, 2, 3, 4] rfl rfl rfl (by decide) (fun _ => rfl) rfl (fun u H locs hw hP hD hS => ?_)
  subst hw
  have hP : va_P G vwCl [(q_t, .inr (8, [z_t_now, z_t_draft, z_t_kept, z_t_snapshot, z_t_history, z_t_accounts, .ref q_t_wheelPrimes, .ref q_t_row, z_t_undoCount, z_t_thrown, z_t_hasSnapshot, .ref q_t_owner, .ref q_t_times, .int w_3.1, z_t_ownerD, z_t_formatted, z_t_formattedLength, z_t_buffer, z_t_bufferLength, z_t_limit, z_t_nextByte, z_t_beginsAt, z_t_token, z_t_error, z_t_errorAt, z_t_errorPosition, z_t_nested, z_t_orders, z_t_orderWords, z_t_orderCount])), (q_t_owner, .inl (ca 0, 5300, .inl w_3.2.1)), (q_t_row, .inl (ca 0, 45, .inl t_row)), (q_t_times, .inl (ca 0, 5300, .inl w_3.2.2)), (q_t_wheelPrimes, .inl (ca 0, 4, .inl sw_p4))] H := hP
  have hD : va_D A [(q_t, .inr (8, [z_t_now, z_t_draft, z_t_kept, z_t_snapshot, z_t_history, z_t_accounts, .ref q_t_wheelPrimes, .ref q_t_row, z_t_undoCount, z_t_thrown, z_t_hasSnapshot, .ref q_t_owner, .ref q_t_times, .int w_3.1, z_t_ownerD, z_t_formatted, z_t_formattedLength, z_t_buffer, z_t_bufferLength, z_t_limit, z_t_nextByte, z_t_beginsAt, z_t_token, z_t_error, z_t_errorAt, z_t_errorPosition, z_t_nested, z_t_orders, z_t_orderWords, z_t_orderCount])), (q_t_owner, .inl (ca 0, 5300, .inl w_3.2.1)), (q_t_row, .inl (ca 0, 45, .inl t_row)), (q_t_times, .inl (ca 0, 5300, .inl w_3.2.2)), (q_t_wheelPrimes, .inl (ca 0, 4, .inl sw_p4))] := hD
  exact sw_rv hx hb hr hlocks hS (w_3.1, w_3.2.1, w_3.2.2) (pr1 h) hP hD dX11_strike_8
theorem mv_X11_isMark : sw_MV yX11_isMark RX11 cX11_isMark 2 (Option.some Jvm.ClassFile.FieldType.boolean) 1 := ⟨im_X11_isMark, se_X11_isMark, ini_X11, co_X11_isMark, by decide +kernel⟩
def F_X11_isMark (x1 : Int32) (t_end : Int32) (t_row : (Nat → Int32)) (t_times : (Nat → Int32)) : Option (Bool) :=
 (F_X11_inRange x1 2 t_end).bind (fun w_1 => (if w_1 = true then ix x1 5300 ((if (t_times x1.toNatClampNeg) = 0 then (F_X11_isOnSpoke x1 t_row).bind (fun w_6 => (if w_6 = true then some true else some false)) else some false)) else some false))
abbrev RM_X11_isMark : Room := ({ frames := 2, cells := 0, slots := 0, locals := 43 } : Room)
set_option maxHeartbeats 4000000 in
set_option maxRecDepth 100000 in
theorem c_X11_isMark (l : Launch) (G : va_G) (ca Z : Nat → Nat) (q_t : Nat) (q_t_row : Nat) (q_t_times : Nat) (q_t_wheelPrimes : Nat) (z_t_now : Value) (z_t_draft : Value) (z_t_kept : Value) (z_t_snapshot : Value) (z_t_history : Value) (z_t_accounts : Value) (z_t_undoCount : Value) (z_t_thrown : Value) (z_t_hasSnapshot : Value) (z_t_owner : Value) (z_t_ownerD : Value) (z_t_formatted : Value) (z_t_formattedLength : Value) (z_t_buffer : Value) (z_t_bufferLength : Value) (z_t_limit : Value) (z_t_nextByte : Value) (z_t_beginsAt : Value) (z_t_token : Value) (z_t_error : Value) (z_t_errorAt : Value) (z_t_errorPosition : Value) (z_t_nested : Value) (z_t_orders : Value) (z_t_orderWords : Value) (z_t_orderCount : Value) (sz : Nat) (x1 : Int32) (t_end : Int32) (t_row : (Nat → Int32)) (t_times : (Nat → Int32)) (res : Bool) (hF : F_X11_isMark x1 t_end t_row t_times = some res) : Met l yX11_isMark (.code yX11_isMark cX11_isMark 2 (Option.some Jvm.ClassFile.FieldType.boolean) :: sw_U) RM_X11_isMark (va_Pc [.ref q_t, .int x1] (sw_Pre G ca Z [(q_t, .inr (8, [z_t_now, z_t_draft, z_t_kept, z_t_snapshot, z_t_history, z_t_accounts, .ref q_t_wheelPrimes, .ref q_t_row, z_t_undoCount, z_t_thrown, z_t_hasSnapshot, z_t_owner, .ref q_t_times, .int t_end, z_t_ownerD, z_t_formatted, z_t_formattedLength, z_t_buffer, z_t_bufferLength, z_t_limit, z_t_nextByte, z_t_beginsAt, z_t_token, z_t_error, z_t_errorAt, z_t_errorPosition, z_t_nested, z_t_orders, z_t_orderWords, z_t_orderCount])), (q_t_row, .inl (ca 0, 45, .inl t_row)), (q_t_times, .inl (ca 0, 5300, .inl t_times)), (q_t_wheelPrimes, .inl (ca 0, 4, .inl sw_p4))] sz)) ((fun A => va_Qi (fun r (u : Unit) => bI res = r) (sw_Post G A (fun (u : Unit) => [(q_t, .inr (8, [z_t_now, z_t_draft, z_t_kept, z_t_snapshot, z_t_history, z_t_accounts, .ref q_t_wheelPrimes, .ref q_t_row, z_t_undoCount, z_t_thrown, z_t_hasSnapshot, z_t_owner, .ref q_t_times, .int t_end, z_t_ownerD, z_t_formatted, z_t_formattedLength, z_t_buffer, z_t_bufferLength, z_t_limit, z_t_nextByte, z_t_beginsAt, z_t_token, z_t_error, z_t_errorAt, z_t_errorPosition, z_t_nested, z_t_orders, z_t_orderWords, z_t_orderCount])), (q_t_row, .inl (ca 0, 45, .inl t_row)), (q_t_times, .inl (ca 0, 5300, .inl t_times)), (q_t_wheelPrimes, .inl (ca 0, 4, .inl sw_p4))])) A) (va_A [(q_t, .inr (8, [z_t_now, z_t_draft, z_t_kept, z_t_snapshot, z_t_history, z_t_accounts, .ref q_t_wheelPrimes, .ref q_t_row, z_t_undoCount, z_t_thrown, z_t_hasSnapshot, z_t_owner, .ref q_t_times, .int t_end, z_t_ownerD, z_t_formatted, z_t_formattedLength, z_t_buffer, z_t_bufferLength, z_t_limit, z_t_nextByte, z_t_beginsAt, z_t_token, z_t_error, z_t_errorAt, z_t_errorPosition, z_t_nested, z_t_orders, z_t_orderWords, z_t_orderCount])), (q_t_row, .inl (ca 0, 45, .inl t_row)), (q_t_times, .inl (ca 0, 5300, .inl t_times)), (q_t_wheelPrimes, .inl (ca 0, 4, .inl sw_p4))] sz)) 0 0 (va_A [(q_t, .inr (8, [z_t_now, z_t_draft, z_t_kept, z_t_snapshot, z_t_history, z_t_accounts, .ref q_t_wheelPrimes, .ref q_t_row, z_t_undoCount, z_t_thrown, z_t_hasSnapshot, z_t_owner, .ref q_t_times, .int t_end, z_t_ownerD, z_t_formatted, z_t_formattedLength, z_t_buffer, z_t_bufferLength, z_t_limit, z_t_nextByte, z_t_beginsAt, z_t_token, z_t_error, z_t_errorAt, z_t_errorPosition, z_t_nested, z_t_orders, z_t_orderWords, z_t_orderCount])), (q_t_row, .inl (ca 0, 45, .inl t_row)), (q_t_times, .inl (ca 0, 5300, .inl t_times)), (q_t_wheelPrimes, .inl (ca 0, 4, .inl sw_p4))] sz) := by
  refine sw_ofW (Qc := fun A => va_Qi (fun r (u : Unit) => bI res = r) (sw_Post G A (fun (u : Unit) => [(q_t, .inr (8, [z_t_now, z_t_draft, z_t_kept, z_t_snapshot, z_t_history, z_t_accounts, .ref q_t_wheelPrimes, .ref q_t_row, z_t_undoCount, z_t_thrown, z_t_hasSnapshot, z_t_owner, .ref q_t_times, .int t_end, z_t_ownerD, z_t_formatted, z_t_formattedLength, z_t_buffer, z_t_bufferLength, z_t_limit, z_t_nextByte, z_t_beginsAt, z_t_token, z_t_error, z_t_errorAt, z_t_errorPosition, z_t_nested, z_t_orders, z_t_orderWords, z_t_orderCount])), (q_t_row, .inl (ca 0, 45, .inl t_row)), (q_t_times, .inl (ca 0, 5300, .inl t_times)), (q_t_wheelPrimes, .inl (ca 0, 4, .inl sw_p4))])) A) (by decide) [(0, .ref q_t), (1, .int x1)] rfl (Nat.le_of_ble_eq_true rfl) ?_
  intro p e s m args below meth c ls A hx hb hr hml hown htU hlocks hnm hP hK hD hX hY hS hA hl
  have hown : s.vm.findClass RX11 = some m.cls := hown
  have Cx : sw_Cx p s m args c cX11_isMark 2 RX11 G ca Z A := ⟨⟨hx, hb, hml, hown, htU⟩, hK, hX, hY, hA⟩
  have h := hF
  unfold F_X11_isMark at h
  refine lv_iload_n hx hb dX11_isMark_0 rfl (lv_at hl 1 rfl) ?_
  refine lv_iconst (v := 2) hx hb dX11_isMark_1 (by decide) ?_
  refine lv_aload_n hx hb dX11_isMark_2 rfl (lv_at hl 0 rfl) ?_
  refine va_get (v := .int t_end) hx hb htU iU_X11 hown hK hP 0 rfl rfl 13 (by decide) (htU _ fl_X11_100) (fun _ h9 => h9) rfl dX11_isMark_3 ?_
  obtain ⟨w_1, hg_2, h⟩ := bd_at h
  refine sw_ci (sw_runS (As := [.int x1, .int 2, .int t_end]) (rest := []) Cx hP hD hS ms_X11_inRange ml_X11_81 (c_X11_inRange l G ca Z s.heap.size x1 2 t_end w_1 hg_2) [] rfl rfl rfl rfl ⟨(Nat.le_of_ble_eq_true rfl), (Nat.le_of_ble_eq_true rfl)⟩ hl.1 rfl rfl (Nat.le_of_ble_eq_true rfl) dX11_isMark_6 ⟨(Nat.le_of_ble_eq_true rfl), (Nat.le_of_ble_eq_true rfl)⟩) hP hD hS hA [] [0, 1, 2, 3] [0, 1, 2, 3] rfl rfl rfl (by decide) (fun _ => rfl) rfl (fun r u H locs hw hP hD hS => ?_)
  subst hw
  have hP : va_P G vwCl [(q_t, .inr (8, [z_t_now, z_t_draft, z_t_kept, z_t_snapshot, z_t_history, z_t_accounts, .ref q_t_wheelPrimes, .ref q_t_row, z_t_undoCount, z_t_thrown, z_t_hasSnapshot, z_t_owner, .ref q_t_times, .int t_end, z_t_ownerD, z_t_formatted, z_t_formattedLength, z_t_buffer, z_t_bufferLength, z_t_limit, z_t_nextByte, z_t_beginsAt, z_t_token, z_t_error, z_t_errorAt, z_t_errorPosition, z_t_nested, z_t_orders, z_t_orderWords, z_t_orderCount])), (q_t_row, .inl (ca 0, 45, .inl t_row)), (q_t_times, .inl (ca 0, 5300, .inl t_times)), (q_t_wheelPrimes, .inl (ca 0, 4, .inl sw_p4))] H := hP
  have hD : va_D A [(q_t, .inr (8, [z_t_now, z_t_draft, z_t_kept, z_t_snapshot, z_t_history, z_t_accounts, .ref q_t_wheelPrimes, .ref q_t_row, z_t_undoCount, z_t_thrown, z_t_hasSnapshot, z_t_owner, .ref q_t_times, .int t_end, z_t_ownerD, z_t_formatted, z_t_formattedLength, z_t_buffer, z_t_bufferLength, z_t_limit, z_t_nextByte, z_t_beginsAt, z_t_token, z_t_error, z_t_errorAt, z_t_errorPosition, z_t_nested, z_t_orders, z_t_orderWords, z_t_orderCount])), (q_t_row, .inl (ca 0, 45, .inl t_row)), (q_t_times, .inl (ca 0, 5300, .inl t_times)), (q_t_wheelPrimes, .inl (ca 0, 4, .inl sw_p4))] := hD
  refine lv_if_eq (tgt := 33) hx hb dX11_isMark_9 (by decide) (fun c_3 => ?_) (fun c_3 => ?_)
  · have c_3 := bI_z.mp c_3
    have h := if_f c_3 h
    refine lv_iconst (v := 0) hx hb dX11_isMark_33 (by decide) ?_
    exact sw_rz hx hb hr rfl hlocks hS () (pb1 h) hP hD dX11_isMark_34
  · have c_3 := bI_nz.mp c_3
    have h := if_t c_3 h
    refine lv_aload_n hx hb dX11_isMark_12 rfl (lv_at hl 0 rfl) ?_
    refine va_get (v := .ref q_t_times) hx hb htU iU_X11 hown hK hP 0 rfl rfl 12 (by decide) (htU _ fl_X11_37) (fun _ h9 => h9) rfl dX11_isMark_13 ?_
    refine lv_iload_n hx hb dX11_isMark_16 rfl (lv_at hl 1 rfl) ?_
    obtain ⟨hi_4, h⟩ := ix_at h
    refine va_iald hx hb hK hP 2 0 rfl rfl hi_4 dX11_isMark_17 ?_
    refine lv_if_ne (tgt := 33) hx hb dX11_isMark_18 (by decide) (fun c_5 => ?_) (fun c_5 => ?_)
    · have h := if_f c_5 h
      refine lv_iconst (v := 0) hx hb dX11_isMark_33 (by decide) ?_
      exact sw_rz hx hb hr rfl hlocks hS () (pb1 h) hP hD dX11_isMark_34
    · have h := if_t c_5 h
      refine lv_aload_n hx hb dX11_isMark_21 rfl (lv_at hl 0 rfl) ?_
      refine lv_iload_n hx hb dX11_isMark_22 rfl (lv_at hl 1 rfl) ?_
      obtain ⟨w_6, hg_7, h⟩ := bd_at h
      refine sw_ci (sw_runV (As := [.int x1]) (rest := []) Cx hP hD hS mv_X11_isOnSpoke ml_X11_96 (c_X11_isOnSpoke l G ca Z q_t q_t_row q_t_wheelPrimes (z_t_now) (z_t_draft) (z_t_kept) (z_t_snapshot) (z_t_history) (z_t_accounts) (z_t_undoCount) (z_t_thrown) (z_t_hasSnapshot) (z_t_owner) (.ref q_t_times) (.int t_end) (z_t_ownerD) (z_t_formatted) (z_t_formattedLength) (z_t_buffer) (z_t_bufferLength) (z_t_limit) (z_t_nextByte) (z_t_beginsAt) (z_t_token) (z_t_error) (z_t_errorAt) (z_t_errorPosition) (z_t_nested) (z_t_orders) (z_t_orderWords) (z_t_orderCount) H.size x1 t_row w_6 hg_7) 8 rfl rfl rfl [0, 1, 3] rfl rfl rfl rfl ⟨(Nat.le_of_ble_eq_true rfl), (Nat.le_of_ble_eq_true rfl)⟩ hl.1 rfl rfl (Nat.le_of_ble_eq_true rfl) dX11_isMark_23 ⟨(Nat.le_of_ble_eq_true rfl), (Nat.le_of_ble_eq_true rfl)⟩) hP hD hS hA [0, 1, 3] [2] [1, 2, 0, 3] rfl rfl rfl (by decide) (fun _ => rfl) rfl (fun r u H locs hw hP hD hS => ?_)
      subst hw
      have hP : va_P G vwCl [(q_t, .inr (8, [z_t_now, z_t_draft, z_t_kept, z_t_snapshot, z_t_history, z_t_accounts, .ref q_t_wheelPrimes, .ref q_t_row, z_t_undoCount, z_t_thrown, z_t_hasSnapshot, z_t_owner, .ref q_t_times, .int t_end, z_t_ownerD, z_t_formatted, z_t_formattedLength, z_t_buffer, z_t_bufferLength, z_t_limit, z_t_nextByte, z_t_beginsAt, z_t_token, z_t_error, z_t_errorAt, z_t_errorPosition, z_t_nested, z_t_orders, z_t_orderWords, z_t_orderCount])), (q_t_row, .inl (ca 0, 45, .inl t_row)), (q_t_times, .inl (ca 0, 5300, .inl t_times)), (q_t_wheelPrimes, .inl (ca 0, 4, .inl sw_p4))] H := hP
      have hD : va_D A [(q_t, .inr (8, [z_t_now, z_t_draft, z_t_kept, z_t_snapshot, z_t_history, z_t_accounts, .ref q_t_wheelPrimes, .ref q_t_row, z_t_undoCount, z_t_thrown, z_t_hasSnapshot, z_t_owner, .ref q_t_times, .int t_end, z_t_ownerD, z_t_formatted, z_t_formattedLength, z_t_buffer, z_t_bufferLength, z_t_limit, z_t_nextByte, z_t_beginsAt, z_t_token, z_t_error, z_t_errorAt, z_t_errorPosition, z_t_nested, z_t_orders, z_t_orderWords, z_t_orderCount])), (q_t_row, .inl (ca 0, 45, .inl t_row)), (q_t_times, .inl (ca 0, 5300, .inl t_times)), (q_t_wheelPrimes, .inl (ca 0, 4, .inl sw_p4))] := hD
      refine lv_if_eq (tgt := 33) hx hb dX11_isMark_26 (by decide) (fun c_8 => ?_) (fun c_8 => ?_)
      · have c_8 := bI_z.mp c_8
        have h := if_f c_8 h
        refine lv_iconst (v := 0) hx hb dX11_isMark_33 (by decide) ?_
        exact sw_rz hx hb hr rfl hlocks hS () (pb1 h) hP hD dX11_isMark_34
      · have c_8 := bI_nz.mp c_8
        have h := if_t c_8 h
        refine lv_iconst (v := 1) hx hb dX11_isMark_29 (by decide) ?_
        refine lv_goto (tgt := 34) hx hb dX11_isMark_30 (by decide) ?_
        exact sw_rz hx hb hr rfl hlocks hS () (pb1 h) hP hD dX11_isMark_34
theorem mv_X11_marksIn : sw_MV yX11_marksIn RX11 cX11_marksIn 5 (Option.some Jvm.ClassFile.FieldType.int) 2 := ⟨im_X11_marksIn, se_X11_marksIn, ini_X11, co_X11_marksIn, by decide +kernel⟩
def B_X11_marksIn_5 (x1 : Int32) (x2 : Int32) (t_end : Int32) (t_row : (Nat → Int32)) (t_times : (Nat → Int32)) (k_5 : Int32 → Int32 → Option (Int32)) (x3 : Int32) (x4 : Int32) : Option (Int32) :=
 (if x2 < x4 then some x3 else (F_X11_isMark x4 t_end t_row t_times).bind (fun w_2 => (if w_2 = true then nm ((x3 + 1)) (fun x3_7 => nm (x4 + 1) (fun x4_8 => k_5 x3_7 x4_8)) else nm ((x3 + 0)) (fun x3_5 => nm (x4 + 1) (fun x4_6 => k_5 x3_5 x4_6)))))
def F_X11_marksIn (x1 : Int32) (x2 : Int32) (t_end : Int32) (t_row : (Nat → Int32)) (t_times : (Nat → Int32)) : Option (Int32) :=
 fx (fun _ _ => none) (B_X11_marksIn_5 x1 x2 t_end t_row t_times) FUEL 0 x1
abbrev RM_X11_marksIn : Room := ({ frames := 3, cells := 0, slots := 0, locals := 64 } : Room)
set_option maxHeartbeats 4000000 in
set_option maxRecDepth 100000 in
theorem c_X11_marksIn (l : Launch) (G : va_G) (ca Z : Nat → Nat) (q_t : Nat) (q_t_row : Nat) (q_t_times : Nat) (q_t_wheelPrimes : Nat) (z_t_now : Value) (z_t_draft : Value) (z_t_kept : Value) (z_t_snapshot : Value) (z_t_history : Value) (z_t_accounts : Value) (z_t_undoCount : Value) (z_t_thrown : Value) (z_t_hasSnapshot : Value) (z_t_owner : Value) (z_t_ownerD : Value) (z_t_formatted : Value) (z_t_formattedLength : Value) (z_t_buffer : Value) (z_t_bufferLength : Value) (z_t_limit : Value) (z_t_nextByte : Value) (z_t_beginsAt : Value) (z_t_token : Value) (z_t_error : Value) (z_t_errorAt : Value) (z_t_errorPosition : Value) (z_t_nested : Value) (z_t_orders : Value) (z_t_orderWords : Value) (z_t_orderCount : Value) (sz : Nat) (x1 : Int32) (x2 : Int32) (t_end : Int32) (t_row : (Nat → Int32)) (t_times : (Nat → Int32)) (res : Int32) (hF : F_X11_marksIn x1 x2 t_end t_row t_times = some res) : Met l yX11_marksIn (.code yX11_marksIn cX11_marksIn 5 (Option.some Jvm.ClassFile.FieldType.int) :: sw_U) RM_X11_marksIn (va_Pc [.ref q_t, .int x1, .int x2] (sw_Pre G ca Z [(q_t, .inr (8, [z_t_now, z_t_draft, z_t_kept, z_t_snapshot, z_t_history, z_t_accounts, .ref q_t_wheelPrimes, .ref q_t_row, z_t_undoCount, z_t_thrown, z_t_hasSnapshot, z_t_owner, .ref q_t_times, .int t_end, z_t_ownerD, z_t_formatted, z_t_formattedLength, z_t_buffer, z_t_bufferLength, z_t_limit, z_t_nextByte, z_t_beginsAt, z_t_token, z_t_error, z_t_errorAt, z_t_errorPosition, z_t_nested, z_t_orders, z_t_orderWords, z_t_orderCount])), (q_t_row, .inl (ca 0, 45, .inl t_row)), (q_t_times, .inl (ca 0, 5300, .inl t_times)), (q_t_wheelPrimes, .inl (ca 0, 4, .inl sw_p4))] sz)) ((fun A => va_Qi (fun r (u : Unit) => res = r) (sw_Post G A (fun (u : Unit) => [(q_t, .inr (8, [z_t_now, z_t_draft, z_t_kept, z_t_snapshot, z_t_history, z_t_accounts, .ref q_t_wheelPrimes, .ref q_t_row, z_t_undoCount, z_t_thrown, z_t_hasSnapshot, z_t_owner, .ref q_t_times, .int t_end, z_t_ownerD, z_t_formatted, z_t_formattedLength, z_t_buffer, z_t_bufferLength, z_t_limit, z_t_nextByte, z_t_beginsAt, z_t_token, z_t_error, z_t_errorAt, z_t_errorPosition, z_t_nested, z_t_orders, z_t_orderWords, z_t_orderCount])), (q_t_row, .inl (ca 0, 45, .inl t_row)), (q_t_times, .inl (ca 0, 5300, .inl t_times)), (q_t_wheelPrimes, .inl (ca 0, 4, .inl sw_p4))])) A) (va_A [(q_t, .inr (8, [z_t_now, z_t_draft, z_t_kept, z_t_snapshot, z_t_history, z_t_accounts, .ref q_t_wheelPrimes, .ref q_t_row, z_t_undoCount, z_t_thrown, z_t_hasSnapshot, z_t_owner, .ref q_t_times, .int t_end, z_t_ownerD, z_t_formatted, z_t_formattedLength, z_t_buffer, z_t_bufferLength, z_t_limit, z_t_nextByte, z_t_beginsAt, z_t_token, z_t_error, z_t_errorAt, z_t_errorPosition, z_t_nested, z_t_orders, z_t_orderWords, z_t_orderCount])), (q_t_row, .inl (ca 0, 45, .inl t_row)), (q_t_times, .inl (ca 0, 5300, .inl t_times)), (q_t_wheelPrimes, .inl (ca 0, 4, .inl sw_p4))] sz)) 0 0 (va_A [(q_t, .inr (8, [z_t_now, z_t_draft, z_t_kept, z_t_snapshot, z_t_history, z_t_accounts, .ref q_t_wheelPrimes, .ref q_t_row, z_t_undoCount, z_t_thrown, z_t_hasSnapshot, z_t_owner, .ref q_t_times, .int t_end, z_t_ownerD, z_t_formatted, z_t_formattedLength, z_t_buffer, z_t_bufferLength, z_t_limit, z_t_nextByte, z_t_beginsAt, z_t_token, z_t_error, z_t_errorAt, z_t_errorPosition, z_t_nested, z_t_orders, z_t_orderWords, z_t_orderCount])), (q_t_row, .inl (ca 0, 45, .inl t_row)), (q_t_times, .inl (ca 0, 5300, .inl t_times)), (q_t_wheelPrimes, .inl (ca 0, 4, .inl sw_p4))] sz) := by
  refine sw_ofW (Qc := fun A => va_Qi (fun r (u : Unit) => res = r) (sw_Post G A (fun (u : Unit) => [(q_t, .inr (8, [z_t_now, z_t_draft, z_t_kept, z_t_snapshot, z_t_history, z_t_accounts, .ref q_t_wheelPrimes, .ref q_t_row, z_t_undoCount, z_t_thrown, z_t_hasSnapshot, z_t_owner, .ref q_t_times, .int t_end, z_t_ownerD, z_t_formatted, z_t_formattedLength, z_t_buffer, z_t_bufferLength, z_t_limit, z_t_nextByte, z_t_beginsAt, z_t_token, z_t_error, z_t_errorAt, z_t_errorPosition, z_t_nested, z_t_orders, z_t_orderWords, z_t_orderCount])), (q_t_row, .inl (ca 0, 45, .inl t_row)), (q_t_times, .inl (ca 0, 5300, .inl t_times)), (q_t_wheelPrimes, .inl (ca 0, 4, .inl sw_p4))])) A) (by decide) [(0, .ref q_t), (1, .int x1), (2, .int x2)] rfl (Nat.le_of_ble_eq_true rfl) ?_
  intro p e s m args below meth c ls A hx hb hr hml hown htU hlocks hnm hP hK hD hX hY hS hA hl
  have hown : s.vm.findClass RX11 = some m.cls := hown
  have Cx : sw_Cx p s m args c cX11_marksIn 5 RX11 G ca Z A := ⟨⟨hx, hb, hml, hown, htU⟩, hK, hX, hY, hA⟩
  have h := hF
  unfold F_X11_marksIn at h
  have hL_5 : ∀ (n_5 : Nat) (x3 : Int32) (x4 : Int32) (ls : Array Slot) (H : Heap) (locs : List Loc), lv_has ls 5 [(0, .ref q_t), (2, .int x2), (3, .int x3), (4, .int x4)] → va_P G vwCl [(q_t, .inr (8, [z_t_now, z_t_draft, z_t_kept, z_t_snapshot, z_t_history, z_t_accounts, .ref q_t_wheelPrimes, .ref q_t_row, z_t_undoCount, z_t_thrown, z_t_hasSnapshot, z_t_owner, .ref q_t_times, .int t_end, z_t_ownerD, z_t_formatted, z_t_formattedLength, z_t_buffer, z_t_bufferLength, z_t_limit, z_t_nextByte, z_t_beginsAt, z_t_token, z_t_error, z_t_errorAt, z_t_errorPosition, z_t_nested, z_t_orders, z_t_orderWords, z_t_orderCount])), (q_t_row, .inl (ca 0, 45, .inl t_row)), (q_t_times, .inl (ca 0, 5300, .inl t_times)), (q_t_wheelPrimes, .inl (ca 0, 4, .inl sw_p4))] H → va_D A [(q_t, .inr (8, [z_t_now, z_t_draft, z_t_kept, z_t_snapshot, z_t_history, z_t_accounts, .ref q_t_wheelPrimes, .ref q_t_row, z_t_undoCount, z_t_thrown, z_t_hasSnapshot, z_t_owner, .ref q_t_times, .int t_end, z_t_ownerD, z_t_formatted, z_t_formattedLength, z_t_buffer, z_t_bufferLength, z_t_limit, z_t_nextByte, z_t_beginsAt, z_t_token, z_t_error, z_t_errorAt, z_t_errorPosition, z_t_nested, z_t_orders, z_t_orderWords, z_t_orderCount])), (q_t_row, .inl (ca 0, 45, .inl t_row)), (q_t_times, .inl (ca 0, 5300, .inl t_times)), (q_t_wheelPrimes, .inl (ca 0, 4, .inl sw_p4))] → va_S A s.heap H locs → fx (fun _ _ => none) (B_X11_marksIn_5 x1 x2 t_end t_row t_times) n_5 x3 x4 = some res → W p l e RM_X11_marksIn s m args below meth c H locs 0 0 (MQ below ((fun A => va_Qi (fun r (u : Unit) => res = r) (sw_Post G A (fun (u : Unit) => [(q_t, .inr (8, [z_t_now, z_t_draft, z_t_kept, z_t_snapshot, z_t_history, z_t_accounts, .ref q_t_wheelPrimes, .ref q_t_row, z_t_undoCount, z_t_thrown, z_t_hasSnapshot, z_t_owner, .ref q_t_times, .int t_end, z_t_ownerD, z_t_formatted, z_t_formattedLength, z_t_buffer, z_t_bufferLength, z_t_limit, z_t_nextByte, z_t_beginsAt, z_t_token, z_t_error, z_t_errorAt, z_t_errorPosition, z_t_nested, z_t_orders, z_t_orderWords, z_t_orderCount])), (q_t_row, .inl (ca 0, 45, .inl t_row)), (q_t_times, .inl (ca 0, 5300, .inl t_times)), (q_t_wheelPrimes, .inl (ca 0, 4, .inl sw_p4))])) A) A) args s 0 0 A) (F0 m 5 ls []) := by
    intro n_5
    induction n_5 with
    | zero => intro x3 x4 ls H locs hl hP hD hS h; exact no_at h
    | succ n_5 ih_5 =>
      intro x3 x4 ls H locs hl hP hD hS h
      rw [fx_s] at h
      unfold B_X11_marksIn_5 at h
      refine lv_iload hx hb dX11_marksIn_5 (lv_at hl 3 rfl) ?_
      refine lv_iload_n hx hb dX11_marksIn_7 rfl (lv_at hl 1 rfl) ?_
      refine lv_icmp_gt (tgt := 34) hx hb dX11_marksIn_8 (by decide) (fun c_1 => ?_) (fun c_1 => ?_)
      · have h := if_t c_1 h
        refine lv_iload_n hx hb dX11_marksIn_34 rfl (lv_at hl 2 rfl) ?_
        exact sw_ri hx hb hr hlocks hS () (pr1 h) hP hD dX11_marksIn_35
      · have h := if_f c_1 h
        refine lv_iload_n hx hb dX11_marksIn_11 rfl (lv_at hl 2 rfl) ?_
        refine lv_aload_n hx hb dX11_marksIn_12 rfl (lv_at hl 0 rfl) ?_
        refine lv_iload hx hb dX11_marksIn_13 (lv_at hl 3 rfl) ?_
        obtain ⟨w_2, hg_3, h⟩ := bd_at h
        refine sw_ci (sw_runV (As := [.int x4]) (rest := [.int x3]) Cx hP hD hS mv_X11_isMark ml_X11_107 (c_X11_isMark l G ca Z q_t q_t_row q_t_times q_t_wheelPrimes (z_t_now) (z_t_draft) (z_t_kept) (z_t_snapshot) (z_t_history) (z_t_accounts) (z_t_undoCount) (z_t_thrown) (z_t_hasSnapshot) (z_t_owner) (z_t_ownerD) (z_t_formatted) (z_t_formattedLength) (z_t_buffer) (z_t_bufferLength) (z_t_limit) (z_t_nextByte) (z_t_beginsAt) (z_t_token) (z_t_error) (z_t_errorAt) (z_t_errorPosition) (z_t_nested) (z_t_orders) (z_t_orderWords) (z_t_orderCount) H.size x4 t_end t_row t_times w_2 hg_3) 8 rfl rfl rfl [0, 1, 2, 3] rfl rfl rfl rfl ⟨(Nat.le_of_ble_eq_true rfl), (Nat.le_of_ble_eq_true rfl)⟩ hl.1 rfl rfl (Nat.le_of_ble_eq_true rfl) dX11_marksIn_15 ⟨(Nat.le_of_ble_eq_true rfl), (Nat.le_of_ble_eq_true rfl)⟩) hP hD hS hA [0, 1, 2, 3] [] [0, 1, 2, 3] rfl rfl rfl (by decide) (fun _ => rfl) rfl (fun r u H locs hw hP hD hS => ?_)
        subst hw
        have hP : va_P G vwCl [(q_t, .inr (8, [z_t_now, z_t_draft, z_t_kept, z_t_snapshot, z_t_history, z_t_accounts, .ref q_t_wheelPrimes, .ref q_t_row, z_t_undoCount, z_t_thrown, z_t_hasSnapshot, z_t_owner, .ref q_t_times, .int t_end, z_t_ownerD, z_t_formatted, z_t_formattedLength, z_t_buffer, z_t_bufferLength, z_t_limit, z_t_nextByte, z_t_beginsAt, z_t_token, z_t_error, z_t_errorAt, z_t_errorPosition, z_t_nested, z_t_orders, z_t_orderWords, z_t_orderCount])), (q_t_row, .inl (ca 0, 45, .inl t_row)), (q_t_times, .inl (ca 0, 5300, .inl t_times)), (q_t_wheelPrimes, .inl (ca 0, 4, .inl sw_p4))] H := hP
        have hD : va_D A [(q_t, .inr (8, [z_t_now, z_t_draft, z_t_kept, z_t_snapshot, z_t_history, z_t_accounts, .ref q_t_wheelPrimes, .ref q_t_row, z_t_undoCount, z_t_thrown, z_t_hasSnapshot, z_t_owner, .ref q_t_times, .int t_end, z_t_ownerD, z_t_formatted, z_t_formattedLength, z_t_buffer, z_t_bufferLength, z_t_limit, z_t_nextByte, z_t_beginsAt, z_t_token, z_t_error, z_t_errorAt, z_t_errorPosition, z_t_nested, z_t_orders, z_t_orderWords, z_t_orderCount])), (q_t_row, .inl (ca 0, 45, .inl t_row)), (q_t_times, .inl (ca 0, 5300, .inl t_times)), (q_t_wheelPrimes, .inl (ca 0, 4, .inl sw_p4))] := hD
        refine lv_if_eq (tgt := 25) hx hb dX11_marksIn_18 (by decide) (fun c_4 => ?_) (fun c_4 => ?_)
        · have c_4 := bI_z.mp c_4
          have h := if_f c_4 h
          refine lv_iconst (v := 0) hx hb dX11_marksIn_25 (by decide) ?_
          refine lv_iadd hx hb dX11_marksIn_26 ?_
          refine lv_topi (fun x3_5 e_x3_5 => ?_)
          have h := nm_at e_x3_5 h
          refine lv_istore_n (lv' := [(3, .int x3_5), (0, .ref q_t), (2, .int x2), (4, .int x4)]) hx hb dX11_marksIn_27 rfl hl (by decide) rfl (fun ls hl => ?_)
          obtain ⟨x4_6, e_x4_6⟩ : ∃ y : Int32, y = x4 + 1 := ⟨_, rfl⟩
          refine lv_iinc (v := x4_6) (lv' := [(4, .int x4_6), (3, .int x3_5), (0, .ref q_t), (2, .int x2)]) hx hb dX11_marksIn_28 hl (k := 3) rfl (by rw [e_x4_6]; rfl) (by decide) rfl (fun ls hl => ?_)
          have h := nm_at e_x4_6 h
          refine lv_goto (tgt := 5) hx hb dX11_marksIn_31 (by decide) ?_
          exact ih_5 x3_5 x4_6 ls H _ (lv_sub hl [2, 3, 1, 0] rfl) hP hD hS h
        · have c_4 := bI_nz.mp c_4
          have h := if_t c_4 h
          refine lv_iconst (v := 1) hx hb dX11_marksIn_21 (by decide) ?_
          refine lv_goto (tgt := 26) hx hb dX11_marksIn_22 (by decide) ?_
          refine lv_iadd hx hb dX11_marksIn_26 ?_
          refine lv_topi (fun x3_7 e_x3_7 => ?_)
          have h := nm_at e_x3_7 h
          refine lv_istore_n (lv' := [(3, .int x3_7), (0, .ref q_t), (2, .int x2), (4, .int x4)]) hx hb dX11_marksIn_27 rfl hl (by decide) rfl (fun ls hl => ?_)
          obtain ⟨x4_8, e_x4_8⟩ : ∃ y : Int32, y = x4 + 1 := ⟨_, rfl⟩
          refine lv_iinc (v := x4_8) (lv' := [(4, .int x4_8), (3, .int x3_7), (0, .ref q_t), (2, .int x2)]) hx hb dX11_marksIn_28 hl (k := 3) rfl (by rw [e_x4_8]; rfl) (by decide) rfl (fun ls hl => ?_)
          have h := nm_at e_x4_8 h
          refine lv_goto (tgt := 5) hx hb dX11_marksIn_31 (by decide) ?_
          exact ih_5 x3_7 x4_8 ls H _ (lv_sub hl [2, 3, 1, 0] rfl) hP hD hS h
  refine lv_iconst (v := 0) hx hb dX11_marksIn_0 (by decide) ?_
  refine lv_istore_n (lv' := [(3, .int 0), (0, .ref q_t), (1, .int x1), (2, .int x2)]) hx hb dX11_marksIn_1 rfl hl (by decide) rfl (fun ls hl => ?_)
  refine lv_iload_n hx hb dX11_marksIn_2 rfl (lv_at hl 2 rfl) ?_
  refine lv_istore (lv' := [(4, .int x1), (3, .int 0), (0, .ref q_t), (1, .int x1), (2, .int x2)]) hx hb dX11_marksIn_3 hl (by decide) rfl (fun ls hl => ?_)
  exact hL_5 FUEL 0 x1 ls s.heap _ (lv_sub hl [2, 4, 1, 0] rfl) hP hD hS h
theorem mv_X11_spokesIn : sw_MV yX11_spokesIn RX11 cX11_spokesIn 5 (Option.some Jvm.ClassFile.FieldType.int) 2 := ⟨im_X11_spokesIn, se_X11_spokesIn, ini_X11, co_X11_spokesIn, by decide +kernel⟩
def B_X11_spokesIn_5 (x1 : Int32) (x2 : Int32) (t_row : (Nat → Int32)) (k_5 : Int32 → Int32 → Option (Int32)) (x3 : Int32) (x4 : Int32) : Option (Int32) :=
 (if x2 < x4 then some x3 else (F_X11_isOnSpoke x4 t_row).bind (fun w_2 => (if w_2 = true then nm ((x3 + 1)) (fun x3_7 => nm (x4 + 1) (fun x4_8 => k_5 x3_7 x4_8)) else nm ((x3 + 0)) (fun x3_5 => nm (x4 + 1) (fun x4_6 => k_5 x3_5 x4_6)))))
def F_X11_spokesIn (x1 : Int32) (x2 : Int32) (t_row : (Nat → Int32)) : Option (Int32) :=
 fx (fun _ _ => none) (B_X11_spokesIn_5 x1 x2 t_row) FUEL 0 x1
abbrev RM_X11_spokesIn : Room := ({ frames := 2, cells := 0, slots := 0, locals := 43 } : Room)
set_option maxHeartbeats 4000000 in
set_option maxRecDepth 100000 in
theorem c_X11_spokesIn (l : Launch) (G : va_G) (ca Z : Nat → Nat) (q_t : Nat) (q_t_row : Nat) (q_t_wheelPrimes : Nat) (z_t_now : Value) (z_t_draft : Value) (z_t_kept : Value) (z_t_snapshot : Value) (z_t_history : Value) (z_t_accounts : Value) (z_t_undoCount : Value) (z_t_thrown : Value) (z_t_hasSnapshot : Value) (z_t_owner : Value) (z_t_times : Value) (z_t_end : Value) (z_t_ownerD : Value) (z_t_formatted : Value) (z_t_formattedLength : Value) (z_t_buffer : Value) (z_t_bufferLength : Value) (z_t_limit : Value) (z_t_nextByte : Value) (z_t_beginsAt : Value) (z_t_token : Value) (z_t_error : Value) (z_t_errorAt : Value) (z_t_errorPosition : Value) (z_t_nested : Value) (z_t_orders : Value) (z_t_orderWords : Value) (z_t_orderCount : Value) (sz : Nat) (x1 : Int32) (x2 : Int32) (t_row : (Nat → Int32)) (res : Int32) (hF : F_X11_spokesIn x1 x2 t_row = some res) : Met l yX11_spokesIn (.code yX11_spokesIn cX11_spokesIn 5 (Option.some Jvm.ClassFile.FieldType.int) :: sw_U) RM_X11_spokesIn (va_Pc [.ref q_t, .int x1, .int x2] (sw_Pre G ca Z [(q_t, .inr (8, [z_t_now, z_t_draft, z_t_kept, z_t_snapshot, z_t_history, z_t_accounts, .ref q_t_wheelPrimes, .ref q_t_row, z_t_undoCount, z_t_thrown, z_t_hasSnapshot, z_t_owner, z_t_times, z_t_end, z_t_ownerD, z_t_formatted, z_t_formattedLength, z_t_buffer, z_t_bufferLength, z_t_limit, z_t_nextByte, z_t_beginsAt, z_t_token, z_t_error, z_t_errorAt, z_t_errorPosition, z_t_nested, z_t_orders, z_t_orderWords, z_t_orderCount])), (q_t_row, .inl (ca 0, 45, .inl t_row)), (q_t_wheelPrimes, .inl (ca 0, 4, .inl sw_p4))] sz)) ((fun A => va_Qi (fun r (u : Unit) => res = r) (sw_Post G A (fun (u : Unit) => [(q_t, .inr (8, [z_t_now, z_t_draft, z_t_kept, z_t_snapshot, z_t_history, z_t_accounts, .ref q_t_wheelPrimes, .ref q_t_row, z_t_undoCount, z_t_thrown, z_t_hasSnapshot, z_t_owner, z_t_times, z_t_end, z_t_ownerD, z_t_formatted, z_t_formattedLength, z_t_buffer, z_t_bufferLength, z_t_limit, z_t_nextByte, z_t_beginsAt, z_t_token, z_t_error, z_t_errorAt, z_t_errorPosition, z_t_nested, z_t_orders, z_t_orderWords, z_t_orderCount])), (q_t_row, .inl (ca 0, 45, .inl t_row)), (q_t_wheelPrimes, .inl (ca 0, 4, .inl sw_p4))])) A) (va_A [(q_t, .inr (8, [z_t_now, z_t_draft, z_t_kept, z_t_snapshot, z_t_history, z_t_accounts, .ref q_t_wheelPrimes, .ref q_t_row, z_t_undoCount, z_t_thrown, z_t_hasSnapshot, z_t_owner, z_t_times, z_t_end, z_t_ownerD, z_t_formatted, z_t_formattedLength, z_t_buffer, z_t_bufferLength, z_t_limit, z_t_nextByte, z_t_beginsAt, z_t_token, z_t_error, z_t_errorAt, z_t_errorPosition, z_t_nested, z_t_orders, z_t_orderWords, z_t_orderCount])), (q_t_row, .inl (ca 0, 45, .inl t_row)), (q_t_wheelPrimes, .inl (ca 0, 4, .inl sw_p4))] sz)) 0 0 (va_A [(q_t, .inr (8, [z_t_now, z_t_draft, z_t_kept, z_t_snapshot, z_t_history, z_t_accounts, .ref q_t_wheelPrimes, .ref q_t_row, z_t_undoCount, z_t_thrown, z_t_hasSnapshot, z_t_owner, z_t_times, z_t_end, z_t_ownerD, z_t_formatted, z_t_formattedLength, z_t_buffer, z_t_bufferLength, z_t_limit, z_t_nextByte, z_t_beginsAt, z_t_token, z_t_error, z_t_errorAt, z_t_errorPosition, z_t_nested, z_t_orders, z_t_orderWords, z_t_orderCount])), (q_t_row, .inl (ca 0, 45, .inl t_row)), (q_t_wheelPrimes, .inl (ca 0, 4, .inl sw_p4))] sz) := by
  refine sw_ofW (Qc := fun A => va_Qi (fun r (u : Unit) => res = r) (sw_Post G A (fun (u : Unit) => [(q_t, .inr (8, [z_t_now, z_t_draft, z_t_kept, z_t_snapshot, z_t_history, z_t_accounts, .ref q_t_wheelPrimes, .ref q_t_row, z_t_undoCount, z_t_thrown, z_t_hasSnapshot, z_t_owner, z_t_times, z_t_end, z_t_ownerD, z_t_formatted, z_t_formattedLength, z_t_buffer, z_t_bufferLength, z_t_limit, z_t_nextByte, z_t_beginsAt, z_t_token, z_t_error, z_t_errorAt, z_t_errorPosition, z_t_nested, z_t_orders, z_t_orderWords, z_t_orderCount])), (q_t_row, .inl (ca 0, 45, .inl t_row)), (q_t_wheelPrimes, .inl (ca 0, 4, .inl sw_p4))])) A) (by decide) [(0, .ref q_t), (1, .int x1), (2, .int x2)] rfl (Nat.le_of_ble_eq_true rfl) ?_
  intro p e s m args below meth c ls A hx hb hr hml hown htU hlocks hnm hP hK hD hX hY hS hA hl
  have hown : s.vm.findClass RX11 = some m.cls := hown
  have Cx : sw_Cx p s m args c cX11_spokesIn 5 RX11 G ca Z A := ⟨⟨hx, hb, hml, hown, htU⟩, hK, hX, hY, hA⟩
  have h := hF
  unfold F_X11_spokesIn at h
  have hL_5 : ∀ (n_5 : Nat) (x3 : Int32) (x4 : Int32) (ls : Array Slot) (H : Heap) (locs : List Loc), lv_has ls 5 [(0, .ref q_t), (2, .int x2), (3, .int x3), (4, .int x4)] → va_P G vwCl [(q_t, .inr (8, [z_t_now, z_t_draft, z_t_kept, z_t_snapshot, z_t_history, z_t_accounts, .ref q_t_wheelPrimes, .ref q_t_row, z_t_undoCount, z_t_thrown, z_t_hasSnapshot, z_t_owner, z_t_times, z_t_end, z_t_ownerD, z_t_formatted, z_t_formattedLength, z_t_buffer, z_t_bufferLength, z_t_limit, z_t_nextByte, z_t_beginsAt, z_t_token, z_t_error, z_t_errorAt, z_t_errorPosition, z_t_nested, z_t_orders, z_t_orderWords, z_t_orderCount])), (q_t_row, .inl (ca 0, 45, .inl t_row)), (q_t_wheelPrimes, .inl (ca 0, 4, .inl sw_p4))] H → va_D A [(q_t, .inr (8, [z_t_now, z_t_draft, z_t_kept, z_t_snapshot, z_t_history, z_t_accounts, .ref q_t_wheelPrimes, .ref q_t_row, z_t_undoCount, z_t_thrown, z_t_hasSnapshot, z_t_owner, z_t_times, z_t_end, z_t_ownerD, z_t_formatted, z_t_formattedLength, z_t_buffer, z_t_bufferLength, z_t_limit, z_t_nextByte, z_t_beginsAt, z_t_token, z_t_error, z_t_errorAt, z_t_errorPosition, z_t_nested, z_t_orders, z_t_orderWords, z_t_orderCount])), (q_t_row, .inl (ca 0, 45, .inl t_row)), (q_t_wheelPrimes, .inl (ca 0, 4, .inl sw_p4))] → va_S A s.heap H locs → fx (fun _ _ => none) (B_X11_spokesIn_5 x1 x2 t_row) n_5 x3 x4 = some res → W p l e RM_X11_spokesIn s m args below meth c H locs 0 0 (MQ below ((fun A => va_Qi (fun r (u : Unit) => res = r) (sw_Post G A (fun (u : Unit) => [(q_t, .inr (8, [z_t_now, z_t_draft, z_t_kept, z_t_snapshot, z_t_history, z_t_accounts, .ref q_t_wheelPrimes, .ref q_t_row, z_t_undoCount, z_t_thrown, z_t_hasSnapshot, z_t_owner, z_t_times, z_t_end, z_t_ownerD, z_t_formatted, z_t_formattedLength, z_t_buffer, z_t_bufferLength, z_t_limit, z_t_nextByte, z_t_beginsAt, z_t_token, z_t_error, z_t_errorAt, z_t_errorPosition, z_t_nested, z_t_orders, z_t_orderWords, z_t_orderCount])), (q_t_row, .inl (ca 0, 45, .inl t_row)), (q_t_wheelPrimes, .inl (ca 0, 4, .inl sw_p4))])) A) A) args s 0 0 A) (F0 m 5 ls []) := by
    intro n_5
    induction n_5 with
    | zero => intro x3 x4 ls H locs hl hP hD hS h; exact no_at h
    | succ n_5 ih_5 =>
      intro x3 x4 ls H locs hl hP hD hS h
      rw [fx_s] at h
      unfold B_X11_spokesIn_5 at h
      refine lv_iload hx hb dX11_spokesIn_5 (lv_at hl 3 rfl) ?_
      refine lv_iload_n hx hb dX11_spokesIn_7 rfl (lv_at hl 1 rfl) ?_
      refine lv_icmp_gt (tgt := 34) hx hb dX11_spokesIn_8 (by decide) (fun c_1 => ?_) (fun c_1 => ?_)
      · have h := if_t c_1 h
        refine lv_iload_n hx hb dX11_spokesIn_34 rfl (lv_at hl 2 rfl) ?_
        exact sw_ri hx hb hr hlocks hS () (pr1 h) hP hD dX11_spokesIn_35
      · have h := if_f c_1 h
        refine lv_iload_n hx hb dX11_spokesIn_11 rfl (lv_at hl 2 rfl) ?_
        refine lv_aload_n hx hb dX11_spokesIn_12 rfl (lv_at hl 0 rfl) ?_
        refine lv_iload hx hb dX11_spokesIn_13 (lv_at hl 3 rfl) ?_
        obtain ⟨w_2, hg_3, h⟩ := bd_at h
        refine sw_ci (sw_runV (As := [.int x4]) (rest := [.int x3]) Cx hP hD hS mv_X11_isOnSpoke ml_X11_96 (c_X11_isOnSpoke l G ca Z q_t q_t_row q_t_wheelPrimes (z_t_now) (z_t_draft) (z_t_kept) (z_t_snapshot) (z_t_history) (z_t_accounts) (z_t_undoCount) (z_t_thrown) (z_t_hasSnapshot) (z_t_owner) (z_t_times) (z_t_end) (z_t_ownerD) (z_t_formatted) (z_t_formattedLength) (z_t_buffer) (z_t_bufferLength) (z_t_limit) (z_t_nextByte) (z_t_beginsAt) (z_t_token) (z_t_error) (z_t_errorAt) (z_t_errorPosition) (z_t_nested) (z_t_orders) (z_t_orderWords) (z_t_orderCount) H.size x4 t_row w_2 hg_3) 8 rfl rfl rfl [0, 1, 2] rfl rfl rfl rfl ⟨(Nat.le_of_ble_eq_true rfl), (Nat.le_of_ble_eq_true rfl)⟩ hl.1 rfl rfl (Nat.le_of_ble_eq_true rfl) dX11_spokesIn_15 ⟨(Nat.le_of_ble_eq_true rfl), (Nat.le_of_ble_eq_true rfl)⟩) hP hD hS hA [0, 1, 2] [] [0, 1, 2] rfl rfl rfl (by decide) (fun _ => rfl) rfl (fun r u H locs hw hP hD hS => ?_)
        subst hw
        have hP : va_P G vwCl [(q_t, .inr (8, [z_t_now, z_t_draft, z_t_kept, z_t_snapshot, z_t_history, z_t_accounts, .ref q_t_wheelPrimes, .ref q_t_row, z_t_undoCount, z_t_thrown, z_t_hasSnapshot, z_t_owner, z_t_times, z_t_end, z_t_ownerD, z_t_formatted, z_t_formattedLength, z_t_buffer, z_t_bufferLength, z_t_limit, z_t_nextByte, z_t_beginsAt, z_t_token, z_t_error, z_t_errorAt, z_t_errorPosition, z_t_nested, z_t_orders, z_t_orderWords, z_t_orderCount])), (q_t_row, .inl (ca 0, 45, .inl t_row)), (q_t_wheelPrimes, .inl (ca 0, 4, .inl sw_p4))] H := hP
        have hD : va_D A [(q_t, .inr (8, [z_t_now, z_t_draft, z_t_kept, z_t_snapshot, z_t_history, z_t_accounts, .ref q_t_wheelPrimes, .ref q_t_row, z_t_undoCount, z_t_thrown, z_t_hasSnapshot, z_t_owner, z_t_times, z_t_end, z_t_ownerD, z_t_formatted, z_t_formattedLength, z_t_buffer, z_t_bufferLength, z_t_limit, z_t_nextByte, z_t_beginsAt, z_t_token, z_t_error, z_t_errorAt, z_t_errorPosition, z_t_nested, z_t_orders, z_t_orderWords, z_t_orderCount])), (q_t_row, .inl (ca 0, 45, .inl t_row)), (q_t_wheelPrimes, .inl (ca 0, 4, .inl sw_p4))] := hD
        refine lv_if_eq (tgt := 25) hx hb dX11_spokesIn_18 (by decide) (fun c_4 => ?_) (fun c_4 => ?_)
        · have c_4 := bI_z.mp c_4
          have h := if_f c_4 h
          refine lv_iconst (v := 0) hx hb dX11_spokesIn_25 (by decide) ?_
          refine lv_iadd hx hb dX11_spokesIn_26 ?_
          refine lv_topi (fun x3_5 e_x3_5 => ?_)
          have h := nm_at e_x3_5 h
          refine lv_istore_n (lv' := [(3, .int x3_5), (0, .ref q_t), (2, .int x2), (4, .int x4)]) hx hb dX11_spokesIn_27 rfl hl (by decide) rfl (fun ls hl => ?_)
          obtain ⟨x4_6, e_x4_6⟩ : ∃ y : Int32, y = x4 + 1 := ⟨_, rfl⟩
          refine lv_iinc (v := x4_6) (lv' := [(4, .int x4_6), (3, .int x3_5), (0, .ref q_t), (2, .int x2)]) hx hb dX11_spokesIn_28 hl (k := 3) rfl (by rw [e_x4_6]; rfl) (by decide) rfl (fun ls hl => ?_)
          have h := nm_at e_x4_6 h
          refine lv_goto (tgt := 5) hx hb dX11_spokesIn_31 (by decide) ?_
          exact ih_5 x3_5 x4_6 ls H _ (lv_sub hl [2, 3, 1, 0] rfl) hP hD hS h
        · have c_4 := bI_nz.mp c_4
          have h := if_t c_4 h
          refine lv_iconst (v := 1) hx hb dX11_spokesIn_21 (by decide) ?_
          refine lv_goto (tgt := 26) hx hb dX11_spokesIn_22 (by decide) ?_
          refine lv_iadd hx hb dX11_spokesIn_26 ?_
          refine lv_topi (fun x3_7 e_x3_7 => ?_)
          have h := nm_at e_x3_7 h
          refine lv_istore_n (lv' := [(3, .int x3_7), (0, .ref q_t), (2, .int x2), (4, .int x4)]) hx hb dX11_spokesIn_27 rfl hl (by decide) rfl (fun ls hl => ?_)
          obtain ⟨x4_8, e_x4_8⟩ : ∃ y : Int32, y = x4 + 1 := ⟨_, rfl⟩
          refine lv_iinc (v := x4_8) (lv' := [(4, .int x4_8), (3, .int x3_7), (0, .ref q_t), (2, .int x2)]) hx hb dX11_spokesIn_28 hl (k := 3) rfl (by rw [e_x4_8]; rfl) (by decide) rfl (fun ls hl => ?_)
          have h := nm_at e_x4_8 h
          refine lv_goto (tgt := 5) hx hb dX11_spokesIn_31 (by decide) ?_
          exact ih_5 x3_7 x4_8 ls H _ (lv_sub hl [2, 3, 1, 0] rfl) hP hD hS h
  refine lv_iconst (v := 0) hx hb dX11_spokesIn_0 (by decide) ?_
  refine lv_istore_n (lv' := [(3, .int 0), (0, .ref q_t), (1, .int x1), (2, .int x2)]) hx hb dX11_spokesIn_1 rfl hl (by decide) rfl (fun ls hl => ?_)
  refine lv_iload_n hx hb dX11_spokesIn_2 rfl (lv_at hl 2 rfl) ?_
  refine lv_istore (lv' := [(4, .int x1), (3, .int 0), (0, .ref q_t), (1, .int x1), (2, .int x2)]) hx hb dX11_spokesIn_3 hl (by decide) rfl (fun ls hl => ?_)
  exact hL_5 FUEL 0 x1 ls s.heap _ (lv_sub hl [2, 4, 1, 0] rfl) hP hD hS h
theorem mv_X11_ownedBy : sw_MV yX11_ownedBy RX11 cX11_ownedBy 4 (Option.some Jvm.ClassFile.FieldType.int) 1 := ⟨im_X11_ownedBy, se_X11_ownedBy, ini_X11, co_X11_ownedBy, by decide +kernel⟩
def B_X11_ownedBy_4 (x1 : Int32) (t_end : Int32) (t_owner : (Nat → Int32)) (k_4 : Int32 → Int32 → Option (Int32)) (x2 : Int32) (x3 : Int32) : Option (Int32) :=
 (if t_end < x3 then some x2 else ix x3 5300 ((if (t_owner x3.toNatClampNeg) = x1 then nm ((x2 + 1)) (fun x2_6 => nm (x3 + 1) (fun x3_7 => k_4 x2_6 x3_7)) else nm ((x2 + 0)) (fun x2_4 => nm (x3 + 1) (fun x3_5 => k_4 x2_4 x3_5)))))
def F_X11_ownedBy (x1 : Int32) (t_end : Int32) (t_owner : (Nat → Int32)) : Option (Int32) :=
 fx (fun _ _ => none) (B_X11_ownedBy_4 x1 t_end t_owner) FUEL 0 2
abbrev RM_X11_ownedBy : Room := ({ frames := 0, cells := 0, slots := 0, locals := 0 } : Room)
set_option maxHeartbeats 4000000 in
set_option maxRecDepth 100000 in
theorem c_X11_ownedBy (l : Launch) (G : va_G) (ca Z : Nat → Nat) (q_t : Nat) (q_t_owner : Nat) (z_t_now : Value) (z_t_draft : Value) (z_t_kept : Value) (z_t_snapshot : Value) (z_t_history : Value) (z_t_accounts : Value) (z_t_wheelPrimes : Value) (z_t_row : Value) (z_t_undoCount : Value) (z_t_thrown : Value) (z_t_hasSnapshot : Value) (z_t_times : Value) (z_t_ownerD : Value) (z_t_formatted : Value) (z_t_formattedLength : Value) (z_t_buffer : Value) (z_t_bufferLength : Value) (z_t_limit : Value) (z_t_nextByte : Value) (z_t_beginsAt : Value) (z_t_token : Value) (z_t_error : Value) (z_t_errorAt : Value) (z_t_errorPosition : Value) (z_t_nested : Value) (z_t_orders : Value) (z_t_orderWords : Value) (z_t_orderCount : Value) (sz : Nat) (x1 : Int32) (t_end : Int32) (t_owner : (Nat → Int32)) (res : Int32) (hF : F_X11_ownedBy x1 t_end t_owner = some res) : Met l yX11_ownedBy (.code yX11_ownedBy cX11_ownedBy 4 (Option.some Jvm.ClassFile.FieldType.int) :: sw_U) RM_X11_ownedBy (va_Pc [.ref q_t, .int x1] (sw_Pre G ca Z [(q_t, .inr (8, [z_t_now, z_t_draft, z_t_kept, z_t_snapshot, z_t_history, z_t_accounts, z_t_wheelPrimes, z_t_row, z_t_undoCount, z_t_thrown, z_t_hasSnapshot, .ref q_t_owner, z_t_times, .int t_end, z_t_ownerD, z_t_formatted, z_t_formattedLength, z_t_buffer, z_t_bufferLength, z_t_limit, z_t_nextByte, z_t_beginsAt, z_t_token, z_t_error, z_t_errorAt, z_t_errorPosition, z_t_nested, z_t_orders, z_t_orderWords, z_t_orderCount])), (q_t_owner, .inl (ca 0, 5300, .inl t_owner))] sz)) ((fun A => va_Qi (fun r (u : Unit) => res = r) (sw_Post G A (fun (u : Unit) => [(q_t, .inr (8, [z_t_now, z_t_draft, z_t_kept, z_t_snapshot, z_t_history, z_t_accounts, z_t_wheelPrimes, z_t_row, z_t_undoCount, z_t_thrown, z_t_hasSnapshot, .ref q_t_owner, z_t_times, .int t_end, z_t_ownerD, z_t_formatted, z_t_formattedLength, z_t_buffer, z_t_bufferLength, z_t_limit, z_t_nextByte, z_t_beginsAt, z_t_token, z_t_error, z_t_errorAt, z_t_errorPosition, z_t_nested, z_t_orders, z_t_orderWords, z_t_orderCount])), (q_t_owner, .inl (ca 0, 5300, .inl t_owner))])) A) (va_A [(q_t, .inr (8, [z_t_now, z_t_draft, z_t_kept, z_t_snapshot, z_t_history, z_t_accounts, z_t_wheelPrimes, z_t_row, z_t_undoCount, z_t_thrown, z_t_hasSnapshot, .ref q_t_owner, z_t_times, .int t_end, z_t_ownerD, z_t_formatted, z_t_formattedLength, z_t_buffer, z_t_bufferLength, z_t_limit, z_t_nextByte, z_t_beginsAt, z_t_token, z_t_error, z_t_errorAt, z_t_errorPosition, z_t_nested, z_t_orders, z_t_orderWords, z_t_orderCount])), (q_t_owner, .inl (ca 0, 5300, .inl t_owner))] sz)) 0 0 (va_A [(q_t, .inr (8, [z_t_now, z_t_draft, z_t_kept, z_t_snapshot, z_t_history, z_t_accounts, z_t_wheelPrimes, z_t_row, z_t_undoCount, z_t_thrown, z_t_hasSnapshot, .ref q_t_owner, z_t_times, .int t_end, z_t_ownerD, z_t_formatted, z_t_formattedLength, z_t_buffer, z_t_bufferLength, z_t_limit, z_t_nextByte, z_t_beginsAt, z_t_token, z_t_error, z_t_errorAt, z_t_errorPosition, z_t_nested, z_t_orders, z_t_orderWords, z_t_orderCount])), (q_t_owner, .inl (ca 0, 5300, .inl t_owner))] sz) := by
  refine sw_ofW (Qc := fun A => va_Qi (fun r (u : Unit) => res = r) (sw_Post G A (fun (u : Unit) => [(q_t, .inr (8, [z_t_now, z_t_draft, z_t_kept, z_t_snapshot, z_t_history, z_t_accounts, z_t_wheelPrimes, z_t_row, z_t_undoCount, z_t_thrown, z_t_hasSnapshot, .ref q_t_owner, z_t_times, .int t_end, z_t_ownerD, z_t_formatted, z_t_formattedLength, z_t_buffer, z_t_bufferLength, z_t_limit, z_t_nextByte, z_t_beginsAt, z_t_token, z_t_error, z_t_errorAt, z_t_errorPosition, z_t_nested, z_t_orders, z_t_orderWords, z_t_orderCount])), (q_t_owner, .inl (ca 0, 5300, .inl t_owner))])) A) (by decide) [(0, .ref q_t), (1, .int x1)] rfl (Nat.le_of_ble_eq_true rfl) ?_
  intro p e s m args below meth c ls A hx hb hr hml hown htU hlocks hnm hP hK hD hX hY hS hA hl
  have hown : s.vm.findClass RX11 = some m.cls := hown
  have Cx : sw_Cx p s m args c cX11_ownedBy 4 RX11 G ca Z A := ⟨⟨hx, hb, hml, hown, htU⟩, hK, hX, hY, hA⟩
  have h := hF
  unfold F_X11_ownedBy at h
  have hL_4 : ∀ (n_4 : Nat) (x2 : Int32) (x3 : Int32) (ls : Array Slot) (H : Heap) (locs : List Loc), lv_has ls 4 [(0, .ref q_t), (1, .int x1), (2, .int x2), (3, .int x3)] → va_P G vwCl [(q_t, .inr (8, [z_t_now, z_t_draft, z_t_kept, z_t_snapshot, z_t_history, z_t_accounts, z_t_wheelPrimes, z_t_row, z_t_undoCount, z_t_thrown, z_t_hasSnapshot, .ref q_t_owner, z_t_times, .int t_end, z_t_ownerD, z_t_formatted, z_t_formattedLength, z_t_buffer, z_t_bufferLength, z_t_limit, z_t_nextByte, z_t_beginsAt, z_t_token, z_t_error, z_t_errorAt, z_t_errorPosition, z_t_nested, z_t_orders, z_t_orderWords, z_t_orderCount])), (q_t_owner, .inl (ca 0, 5300, .inl t_owner))] H → va_D A [(q_t, .inr (8, [z_t_now, z_t_draft, z_t_kept, z_t_snapshot, z_t_history, z_t_accounts, z_t_wheelPrimes, z_t_row, z_t_undoCount, z_t_thrown, z_t_hasSnapshot, .ref q_t_owner, z_t_times, .int t_end, z_t_ownerD, z_t_formatted, z_t_formattedLength, z_t_buffer, z_t_bufferLength, z_t_limit, z_t_nextByte, z_t_beginsAt, z_t_token, z_t_error, z_t_errorAt, z_t_errorPosition, z_t_nested, z_t_orders, z_t_orderWords, z_t_orderCount])), (q_t_owner, .inl (ca 0, 5300, .inl t_owner))] → va_S A s.heap H locs → fx (fun _ _ => none) (B_X11_ownedBy_4 x1 t_end t_owner) n_4 x2 x3 = some res → W p l e RM_X11_ownedBy s m args below meth c H locs 0 0 (MQ below ((fun A => va_Qi (fun r (u : Unit) => res = r) (sw_Post G A (fun (u : Unit) => [(q_t, .inr (8, [z_t_now, z_t_draft, z_t_kept, z_t_snapshot, z_t_history, z_t_accounts, z_t_wheelPrimes, z_t_row, z_t_undoCount, z_t_thrown, z_t_hasSnapshot, .ref q_t_owner, z_t_times, .int t_end, z_t_ownerD, z_t_formatted, z_t_formattedLength, z_t_buffer, z_t_bufferLength, z_t_limit, z_t_nextByte, z_t_beginsAt, z_t_token, z_t_error, z_t_errorAt, z_t_errorPosition, z_t_nested, z_t_orders, z_t_orderWords, z_t_orderCount])), (q_t_owner, .inl (ca 0, 5300, .inl t_owner))])) A) A) args s 0 0 A) (F0 m 4 ls []) := by
    intro n_4
    induction n_4 with
    | zero => intro x2 x3 ls H locs hl hP hD hS h; exact no_at h
    | succ n_4 ih_4 =>
      intro x2 x3 ls H locs hl hP hD hS h
      rw [fx_s] at h
      unfold B_X11_ownedBy_4 at h
      refine lv_iload_n hx hb dX11_ownedBy_4 rfl (lv_at hl 3 rfl) ?_
      refine lv_aload_n hx hb dX11_ownedBy_5 rfl (lv_at hl 0 rfl) ?_
      refine va_get (v := .int t_end) hx hb htU iU_X11 hown hK hP 0 rfl rfl 13 (by decide) (htU _ fl_X11_100) (fun _ h9 => h9) rfl dX11_ownedBy_6 ?_
      refine lv_icmp_gt (tgt := 36) hx hb dX11_ownedBy_9 (by decide) (fun c_1 => ?_) (fun c_1 => ?_)
      · have h := if_t c_1 h
        refine lv_iload_n hx hb dX11_ownedBy_36 rfl (lv_at hl 2 rfl) ?_
        exact sw_ri hx hb hr hlocks hS () (pr1 h) hP hD dX11_ownedBy_37
      · have h := if_f c_1 h
        refine lv_iload_n hx hb dX11_ownedBy_12 rfl (lv_at hl 2 rfl) ?_
        refine lv_aload_n hx hb dX11_ownedBy_13 rfl (lv_at hl 0 rfl) ?_
        refine va_get (v := .ref q_t_owner) hx hb htU iU_X11 hown hK hP 0 rfl rfl 11 (by decide) (htU _ fl_X11_34) (fun _ h9 => h9) rfl dX11_ownedBy_14 ?_
        refine lv_iload_n hx hb dX11_ownedBy_17 rfl (lv_at hl 3 rfl) ?_
        obtain ⟨hi_2, h⟩ := ix_at h
        refine va_iald hx hb hK hP 1 0 rfl rfl hi_2 dX11_ownedBy_18 ?_
        refine lv_iload_n hx hb dX11_ownedBy_19 rfl (lv_at hl 1 rfl) ?_
        refine lv_icmp_ne (tgt := 27) hx hb dX11_ownedBy_20 (by decide) (fun c_3 => ?_) (fun c_3 => ?_)
        · have h := if_f c_3 h
          refine lv_iconst (v := 0) hx hb dX11_ownedBy_27 (by decide) ?_
          refine lv_iadd hx hb dX11_ownedBy_28 ?_
          refine lv_topi (fun x2_4 e_x2_4 => ?_)
          have h := nm_at e_x2_4 h
          refine lv_istore_n (lv' := [(2, .int x2_4), (0, .ref q_t), (1, .int x1), (3, .int x3)]) hx hb dX11_ownedBy_29 rfl hl (by decide) rfl (fun ls hl => ?_)
          obtain ⟨x3_5, e_x3_5⟩ : ∃ y : Int32, y = x3 + 1 := ⟨_, rfl⟩
          refine lv_iinc (v := x3_5) (lv' := [(3, .int x3_5), (2, .int x2_4), (0, .ref q_t), (1, .int x1)]) hx hb dX11_ownedBy_30 hl (k := 3) rfl (by rw [e_x3_5]; rfl) (by decide) rfl (fun ls hl => ?_)
          have h := nm_at e_x3_5 h
          refine lv_goto (tgt := 4) hx hb dX11_ownedBy_33 (by decide) ?_
          exact ih_4 x2_4 x3_5 ls H _ (lv_sub hl [2, 3, 1, 0] rfl) hP hD hS h
        · have h := if_t c_3 h
          refine lv_iconst (v := 1) hx hb dX11_ownedBy_23 (by decide) ?_
          refine lv_goto (tgt := 28) hx hb dX11_ownedBy_24 (by decide) ?_
          refine lv_iadd hx hb dX11_ownedBy_28 ?_
          refine lv_topi (fun x2_6 e_x2_6 => ?_)
          have h := nm_at e_x2_6 h
          refine lv_istore_n (lv' := [(2, .int x2_6), (0, .ref q_t), (1, .int x1), (3, .int x3)]) hx hb dX11_ownedBy_29 rfl hl (by decide) rfl (fun ls hl => ?_)
          obtain ⟨x3_7, e_x3_7⟩ : ∃ y : Int32, y = x3 + 1 := ⟨_, rfl⟩
          refine lv_iinc (v := x3_7) (lv' := [(3, .int x3_7), (2, .int x2_6), (0, .ref q_t), (1, .int x1)]) hx hb dX11_ownedBy_30 hl (k := 3) rfl (by rw [e_x3_7]; rfl) (by decide) rfl (fun ls hl => ?_)
          have h := nm_at e_x3_7 h
          refine lv_goto (tgt := 4) hx hb dX11_ownedBy_33 (by decide) ?_
          exact ih_4 x2_6 x3_7 ls H _ (lv_sub hl [2, 3, 1, 0] rfl) hP hD hS h
  refine lv_iconst (v := 0) hx hb dX11_ownedBy_0 (by decide) ?_
  refine lv_istore_n (lv' := [(2, .int 0), (0, .ref q_t), (1, .int x1)]) hx hb dX11_ownedBy_1 rfl hl (by decide) rfl (fun ls hl => ?_)
  refine lv_iconst (v := 2) hx hb dX11_ownedBy_2 (by decide) ?_
  refine lv_istore_n (lv' := [(3, .int 2), (2, .int 0), (0, .ref q_t), (1, .int x1)]) hx hb dX11_ownedBy_3 rfl hl (by decide) rfl (fun ls hl => ?_)
  exact hL_4 FUEL 0 2 ls s.heap _ (lv_sub hl [2, 3, 1, 0] rfl) hP hD hS h
theorem mv_X11_couldStrike : sw_MV yX11_couldStrike RX11 cX11_couldStrike 2 (Option.some Jvm.ClassFile.FieldType.boolean) 1 := ⟨im_X11_couldStrike, se_X11_couldStrike, ini_X11, co_X11_couldStrike, by decide +kernel⟩
def F_X11_couldStrike (x1 : Int32) (t_end : Int32) (t_row : (Nat → Int32)) (t_times : (Nat → Int32)) : Option (Bool) :=
 (if t_end < (x1 * x1) then some false else (F_X11_isMark x1 t_end t_row t_times).bind (fun w_2 => (if w_2 = true then (F_X11_placeOf x1 t_row).bind (fun w_5 => (if w_5 = (-1) then (F_X11_isWheelPrime x1 t_row).bind (fun w_8 => (if w_8 = true then some false else some true)) else some false)) else some false)))
abbrev RM_X11_couldStrike : Room := ({ frames := 3, cells := 0, slots := 0, locals := 64 } : Room)
set_option maxHeartbeats 4000000 in
set_option maxRecDepth 100000 in
theorem c_X11_couldStrike (l : Launch) (G : va_G) (ca Z : Nat → Nat) (q_t : Nat) (q_t_row : Nat) (q_t_times : Nat) (q_t_wheelPrimes : Nat) (z_t_now : Value) (z_t_draft : Value) (z_t_kept : Value) (z_t_snapshot : Value) (z_t_history : Value) (z_t_accounts : Value) (z_t_undoCount : Value) (z_t_thrown : Value) (z_t_hasSnapshot : Value) (z_t_owner : Value) (z_t_ownerD : Value) (z_t_formatted : Value) (z_t_formattedLength : Value) (z_t_buffer : Value) (z_t_bufferLength : Value) (z_t_limit : Value) (z_t_nextByte : Value) (z_t_beginsAt : Value) (z_t_token : Value) (z_t_error : Value) (z_t_errorAt : Value) (z_t_errorPosition : Value) (z_t_nested : Value) (z_t_orders : Value) (z_t_orderWords : Value) (z_t_orderCount : Value) (sz : Nat) (x1 : Int32) (t_end : Int32) (t_row : (Nat → Int32)) (t_times : (Nat → Int32)) (res : Bool) (hF : F_X11_couldStrike x1 t_end t_row t_times = some res) : Met l yX11_couldStrike (.code yX11_couldStrike cX11_couldStrike 2 (Option.some Jvm.ClassFile.FieldType.boolean) :: sw_U) RM_X11_couldStrike (va_Pc [.ref q_t, .int x1] (sw_Pre G ca Z [(q_t, .inr (8, [z_t_now, z_t_draft, z_t_kept, z_t_snapshot, z_t_history, z_t_accounts, .ref q_t_wheelPrimes, .ref q_t_row, z_t_undoCount, z_t_thrown, z_t_hasSnapshot, z_t_owner, .ref q_t_times, .int t_end, z_t_ownerD, z_t_formatted, z_t_formattedLength, z_t_buffer, z_t_bufferLength, z_t_limit, z_t_nextByte, z_t_beginsAt, z_t_token, z_t_error, z_t_errorAt, z_t_errorPosition, z_t_nested, z_t_orders, z_t_orderWords, z_t_orderCount])), (q_t_row, .inl (ca 0, 45, .inl t_row)), (q_t_times, .inl (ca 0, 5300, .inl t_times)), (q_t_wheelPrimes, .inl (ca 0, 4, .inl sw_p4))] sz)) ((fun A => va_Qi (fun r (u : Unit) => bI res = r) (sw_Post G A (fun (u : Unit) => [(q_t, .inr (8, [z_t_now, z_t_draft, z_t_kept, z_t_snapshot, z_t_history, z_t_accounts, .ref q_t_wheelPrimes, .ref q_t_row, z_t_undoCount, z_t_thrown, z_t_hasSnapshot, z_t_owner, .ref q_t_times, .int t_end, z_t_ownerD, z_t_formatted, z_t_formattedLength, z_t_buffer, z_t_bufferLength, z_t_limit, z_t_nextByte, z_t_beginsAt, z_t_token, z_t_error, z_t_errorAt, z_t_errorPosition, z_t_nested, z_t_orders, z_t_orderWords, z_t_orderCount])), (q_t_row, .inl (ca 0, 45, .inl t_row)), (q_t_times, .inl (ca 0, 5300, .inl t_times)), (q_t_wheelPrimes, .inl (ca 0, 4, .inl sw_p4))])) A) (va_A [(q_t, .inr (8, [z_t_now, z_t_draft, z_t_kept, z_t_snapshot, z_t_history, z_t_accounts, .ref q_t_wheelPrimes, .ref q_t_row, z_t_undoCount, z_t_thrown, z_t_hasSnapshot, z_t_owner, .ref q_t_times, .int t_end, z_t_ownerD, z_t_formatted, z_t_formattedLength, z_t_buffer, z_t_bufferLength, z_t_limit, z_t_nextByte, z_t_beginsAt, z_t_token, z_t_error, z_t_errorAt, z_t_errorPosition, z_t_nested, z_t_orders, z_t_orderWords, z_t_orderCount])), (q_t_row, .inl (ca 0, 45, .inl t_row)), (q_t_times, .inl (ca 0, 5300, .inl t_times)), (q_t_wheelPrimes, .inl (ca 0, 4, .inl sw_p4))] sz)) 0 0 (va_A [(q_t, .inr (8, [z_t_now, z_t_draft, z_t_kept, z_t_snapshot, z_t_history, z_t_accounts, .ref q_t_wheelPrimes, .ref q_t_row, z_t_undoCount, z_t_thrown, z_t_hasSnapshot, z_t_owner, .ref q_t_times, .int t_end, z_t_ownerD, z_t_formatted, z_t_formattedLength, z_t_buffer, z_t_bufferLength, z_t_limit, z_t_nextByte, z_t_beginsAt, z_t_token, z_t_error, z_t_errorAt, z_t_errorPosition, z_t_nested, z_t_orders, z_t_orderWords, z_t_orderCount])), (q_t_row, .inl (ca 0, 45, .inl t_row)), (q_t_times, .inl (ca 0, 5300, .inl t_times)), (q_t_wheelPrimes, .inl (ca 0, 4, .inl sw_p4))] sz) := by
  refine sw_ofW (Qc := fun A => va_Qi (fun r (u : Unit) => bI res = r) (sw_Post G A (fun (u : Unit) => [(q_t, .inr (8, [z_t_now, z_t_draft, z_t_kept, z_t_snapshot, z_t_history, z_t_accounts, .ref q_t_wheelPrimes, .ref q_t_row, z_t_undoCount, z_t_thrown, z_t_hasSnapshot, z_t_owner, .ref q_t_times, .int t_end, z_t_ownerD, z_t_formatted, z_t_formattedLength, z_t_buffer, z_t_bufferLength, z_t_limit, z_t_nextByte, z_t_beginsAt, z_t_token, z_t_error, z_t_errorAt, z_t_errorPosition, z_t_nested, z_t_orders, z_t_orderWords, z_t_orderCount])), (q_t_row, .inl (ca 0, 45, .inl t_row)), (q_t_times, .inl (ca 0, 5300, .inl t_times)), (q_t_wheelPrimes, .inl (ca 0, 4, .inl sw_p4))])) A) (by decide) [(0, .ref q_t), (1, .int x1)] rfl (Nat.le_of_ble_eq_true rfl) ?_
  intro p e s m args below meth c ls A hx hb hr hml hown htU hlocks hnm hP hK hD hX hY hS hA hl
  have hown : s.vm.findClass RX11 = some m.cls := hown
  have Cx : sw_Cx p s m args c cX11_couldStrike 2 RX11 G ca Z A := ⟨⟨hx, hb, hml, hown, htU⟩, hK, hX, hY, hA⟩
  have h := hF
  unfold F_X11_couldStrike at h
  refine lv_iload_n hx hb dX11_couldStrike_0 rfl (lv_at hl 1 rfl) ?_
  refine lv_iload_n hx hb dX11_couldStrike_1 rfl (lv_at hl 1 rfl) ?_
  refine lv_imul hx hb dX11_couldStrike_2 ?_
  refine lv_aload_n hx hb dX11_couldStrike_3 rfl (lv_at hl 0 rfl) ?_
  refine va_get (v := .int t_end) hx hb htU iU_X11 hown hK hP 0 rfl rfl 13 (by decide) (htU _ fl_X11_100) (fun _ h9 => h9) rfl dX11_couldStrike_4 ?_
  refine lv_icmp_gt (tgt := 39) hx hb dX11_couldStrike_7 (by decide) (fun c_1 => ?_) (fun c_1 => ?_)
  · have h := if_t c_1 h
    refine lv_iconst (v := 0) hx hb dX11_couldStrike_39 (by decide) ?_
    exact sw_rz hx hb hr rfl hlocks hS () (pb1 h) hP hD dX11_couldStrike_40
  · have h := if_f c_1 h
    refine lv_aload_n hx hb dX11_couldStrike_10 rfl (lv_at hl 0 rfl) ?_
    refine lv_iload_n hx hb dX11_couldStrike_11 rfl (lv_at hl 1 rfl) ?_
    obtain ⟨w_2, hg_3, h⟩ := bd_at h
    refine sw_ci (sw_runV (As := [.int x1]) (rest := []) Cx hP hD hS mv_X11_isMark ml_X11_107 (c_X11_isMark l G ca Z q_t q_t_row q_t_times q_t_wheelPrimes (z_t_now) (z_t_draft) (z_t_kept) (z_t_snapshot) (z_t_history) (z_t_accounts) (z_t_undoCount) (z_t_thrown) (z_t_hasSnapshot) (z_t_owner) (z_t_ownerD) (z_t_formatted) (z_t_formattedLength) (z_t_buffer) (z_t_bufferLength) (z_t_limit) (z_t_nextByte) (z_t_beginsAt) (z_t_token) (z_t_error) (z_t_errorAt) (z_t_errorPosition) (z_t_nested) (z_t_orders) (z_t_orderWords) (z_t_orderCount) s.heap.size x1 t_end t_row t_times w_2 hg_3) 8 rfl rfl rfl [0, 1, 2, 3] rfl rfl rfl rfl ⟨(Nat.le_of_ble_eq_true rfl), (Nat.le_of_ble_eq_true rfl)⟩ hl.1 rfl rfl (Nat.le_of_ble_eq_true rfl) dX11_couldStrike_12 ⟨(Nat.le_of_ble_eq_true rfl), (Nat.le_of_ble_eq_true rfl)⟩) hP hD hS hA [0, 1, 2, 3] [] [0, 1, 2, 3] rfl rfl rfl (by decide) (fun _ => rfl) rfl (fun r u H locs hw hP hD hS => ?_)
    subst hw
    have hP : va_P G vwCl [(q_t, .inr (8, [z_t_now, z_t_draft, z_t_kept, z_t_snapshot, z_t_history, z_t_accounts, .ref q_t_wheelPrimes, .ref q_t_row, z_t_undoCount, z_t_thrown, z_t_hasSnapshot, z_t_owner, .ref q_t_times, .int t_end, z_t_ownerD, z_t_formatted, z_t_formattedLength, z_t_buffer, z_t_bufferLength, z_t_limit, z_t_nextByte, z_t_beginsAt, z_t_token, z_t_error, z_t_errorAt, z_t_errorPosition, z_t_nested, z_t_orders, z_t_orderWords, z_t_orderCount])), (q_t_row, .inl (ca 0, 45, .inl t_row)), (q_t_times, .inl (ca 0, 5300, .inl t_times)), (q_t_wheelPrimes, .inl (ca 0, 4, .inl sw_p4))] H := hP
    have hD : va_D A [(q_t, .inr (8, [z_t_now, z_t_draft, z_t_kept, z_t_snapshot, z_t_history, z_t_accounts, .ref q_t_wheelPrimes, .ref q_t_row, z_t_undoCount, z_t_thrown, z_t_hasSnapshot, z_t_owner, .ref q_t_times, .int t_end, z_t_ownerD, z_t_formatted, z_t_formattedLength, z_t_buffer, z_t_bufferLength, z_t_limit, z_t_nextByte, z_t_beginsAt, z_t_token, z_t_error, z_t_errorAt, z_t_errorPosition, z_t_nested, z_t_orders, z_t_orderWords, z_t_orderCount])), (q_t_row, .inl (ca 0, 45, .inl t_row)), (q_t_times, .inl (ca 0, 5300, .inl t_times)), (q_t_wheelPrimes, .inl (ca 0, 4, .inl sw_p4))] := hD
    refine lv_if_eq (tgt := 39) hx hb dX11_couldStrike_15 (by decide) (fun c_4 => ?_) (fun c_4 => ?_)
    · have c_4 := bI_z.mp c_4
      have h := if_f c_4 h
      refine lv_iconst (v := 0) hx hb dX11_couldStrike_39 (by decide) ?_
      exact sw_rz hx hb hr rfl hlocks hS () (pb1 h) hP hD dX11_couldStrike_40
    · have c_4 := bI_nz.mp c_4
      have h := if_t c_4 h
      refine lv_aload_n hx hb dX11_couldStrike_18 rfl (lv_at hl 0 rfl) ?_
      refine lv_iload_n hx hb dX11_couldStrike_19 rfl (lv_at hl 1 rfl) ?_
      obtain ⟨w_5, hg_6, h⟩ := bd_at h
      refine sw_ci (sw_runV (As := [.int x1]) (rest := []) Cx hP hD hS mv_X11_placeOf ml_X11_110 (c_X11_placeOf l G ca Z q_t q_t_row (z_t_now) (z_t_draft) (z_t_kept) (z_t_snapshot) (z_t_history) (z_t_accounts) (.ref q_t_wheelPrimes) (z_t_undoCount) (z_t_thrown) (z_t_hasSnapshot) (z_t_owner) (.ref q_t_times) (.int t_end) (z_t_ownerD) (z_t_formatted) (z_t_formattedLength) (z_t_buffer) (z_t_bufferLength) (z_t_limit) (z_t_nextByte) (z_t_beginsAt) (z_t_token) (z_t_error) (z_t_errorAt) (z_t_errorPosition) (z_t_nested) (z_t_orders) (z_t_orderWords) (z_t_orderCount) H.size x1 t_row w_5 hg_6) 8 rfl rfl rfl [0, 1] rfl rfl rfl rfl ⟨(Nat.le_of_ble_eq_true rfl), (Nat.le_of_ble_eq_true rfl)⟩ hl.1 rfl rfl (Nat.le_of_ble_eq_true rfl) dX11_couldStrike_20 ⟨(Nat.le_of_ble_eq_true rfl), (Nat.le_of_ble_eq_true rfl)⟩) hP hD hS hA [0, 1] [2, 3] [2, 3, 0, 1] rfl rfl rfl (by decide) (fun _ => rfl) rfl (fun r u H locs hw hP hD hS => ?_)
      subst hw
      have hP : va_P G vwCl [(q_t, .inr (8, [z_t_now, z_t_draft, z_t_kept, z_t_snapshot, z_t_history, z_t_accounts, .ref q_t_wheelPrimes, .ref q_t_row, z_t_undoCount, z_t_thrown, z_t_hasSnapshot, z_t_owner, .ref q_t_times, .int t_end, z_t_ownerD, z_t_formatted, z_t_formattedLength, z_t_buffer, z_t_bufferLength, z_t_limit, z_t_nextByte, z_t_beginsAt, z_t_token, z_t_error, z_t_errorAt, z_t_errorPosition, z_t_nested, z_t_orders, z_t_orderWords, z_t_orderCount])), (q_t_row, .inl (ca 0, 45, .inl t_row)), (q_t_times, .inl (ca 0, 5300, .inl t_times)), (q_t_wheelPrimes, .inl (ca 0, 4, .inl sw_p4))] H := hP
      have hD : va_D A [(q_t, .inr (8, [z_t_now, z_t_draft, z_t_kept, z_t_snapshot, z_t_history, z_t_accounts, .ref q_t_wheelPrimes, .ref q_t_row, z_t_undoCount, z_t_thrown, z_t_hasSnapshot, z_t_owner, .ref q_t_times, .int t_end, z_t_ownerD, z_t_formatted, z_t_formattedLength, z_t_buffer, z_t_bufferLength, z_t_limit, z_t_nextByte, z_t_beginsAt, z_t_token, z_t_error, z_t_errorAt, z_t_errorPosition, z_t_nested, z_t_orders, z_t_orderWords, z_t_orderCount])), (q_t_row, .inl (ca 0, 45, .inl t_row)), (q_t_times, .inl (ca 0, 5300, .inl t_times)), (q_t_wheelPrimes, .inl (ca 0, 4, .inl sw_p4))] := hD
      refine lv_iconst (v := (-1)) hx hb dX11_couldStrike_23 (by decide) ?_
      refine lv_icmp_ne (tgt := 39) hx hb dX11_couldStrike_24 (by decide) (fun c_7 => ?_) (fun c_7 => ?_)
      · have h := if_f c_7 h
        refine lv_iconst (v := 0) hx hb dX11_couldStrike_39 (by decide) ?_
        exact sw_rz hx hb hr rfl hlocks hS () (pb1 h) hP hD dX11_couldStrike_40
      · have h := if_t c_7 h
        refine lv_aload_n hx hb dX11_couldStrike_27 rfl (lv_at hl 0 rfl) ?_
        refine lv_iload_n hx hb dX11_couldStrike_28 rfl (lv_at hl 1 rfl) ?_
        obtain ⟨w_8, hg_9, h⟩ := bd_at h
        refine sw_ci (sw_runV (As := [.int x1]) (rest := []) Cx hP hD hS mv_X11_isWheelPrime ml_X11_113 (c_X11_isWheelPrime l G ca Z q_t q_t_row q_t_wheelPrimes (z_t_now) (z_t_draft) (z_t_kept) (z_t_snapshot) (z_t_history) (z_t_accounts) (z_t_undoCount) (z_t_thrown) (z_t_hasSnapshot) (z_t_owner) (.ref q_t_times) (.int t_end) (z_t_ownerD) (z_t_formatted) (z_t_formattedLength) (z_t_buffer) (z_t_bufferLength) (z_t_limit) (z_t_nextByte) (z_t_beginsAt) (z_t_token) (z_t_error) (z_t_errorAt) (z_t_errorPosition) (z_t_nested) (z_t_orders) (z_t_orderWords) (z_t_orderCount) H.size x1 t_row w_8 hg_9) 8 rfl rfl rfl [0, 1, 3] rfl rfl rfl rfl ⟨(Nat.le_of_ble_eq_true rfl), (Nat.le_of_ble_eq_true rfl)⟩ hl.1 rfl rfl (Nat.le_of_ble_eq_true rfl) dX11_couldStrike_29 ⟨(Nat.le_of_ble_eq_true rfl), (Nat.le_of_ble_eq_true rfl)⟩) hP hD hS hA [0, 1, 3] [2] [1, 2, 0, 3] rfl rfl rfl (by decide) (fun _ => rfl) rfl (fun r u H locs hw hP hD hS => ?_)
        subst hw
        have hP : va_P G vwCl [(q_t, .inr (8, [z_t_now, z_t_draft, z_t_kept, z_t_snapshot, z_t_history, z_t_accounts, .ref q_t_wheelPrimes, .ref q_t_row, z_t_undoCount, z_t_thrown, z_t_hasSnapshot, z_t_owner, .ref q_t_times, .int t_end, z_t_ownerD, z_t_formatted, z_t_formattedLength, z_t_buffer, z_t_bufferLength, z_t_limit, z_t_nextByte, z_t_beginsAt, z_t_token, z_t_error, z_t_errorAt, z_t_errorPosition, z_t_nested, z_t_orders, z_t_orderWords, z_t_orderCount])), (q_t_row, .inl (ca 0, 45, .inl t_row)), (q_t_times, .inl (ca 0, 5300, .inl t_times)), (q_t_wheelPrimes, .inl (ca 0, 4, .inl sw_p4))] H := hP
        have hD : va_D A [(q_t, .inr (8, [z_t_now, z_t_draft, z_t_kept, z_t_snapshot, z_t_history, z_t_accounts, .ref q_t_wheelPrimes, .ref q_t_row, z_t_undoCount, z_t_thrown, z_t_hasSnapshot, z_t_owner, .ref q_t_times, .int t_end, z_t_ownerD, z_t_formatted, z_t_formattedLength, z_t_buffer, z_t_bufferLength, z_t_limit, z_t_nextByte, z_t_beginsAt, z_t_token, z_t_error, z_t_errorAt, z_t_errorPosition, z_t_nested, z_t_orders, z_t_orderWords, z_t_orderCount])), (q_t_row, .inl (ca 0, 45, .inl t_row)), (q_t_times, .inl (ca 0, 5300, .inl t_times)), (q_t_wheelPrimes, .inl (ca 0, 4, .inl sw_p4))] := hD
        refine lv_if_ne (tgt := 39) hx hb dX11_couldStrike_32 (by decide) (fun c_10 => ?_) (fun c_10 => ?_)
        · have c_10 := bI_nz.mp c_10
          have h := if_t c_10 h
          refine lv_iconst (v := 0) hx hb dX11_couldStrike_39 (by decide) ?_
          exact sw_rz hx hb hr rfl hlocks hS () (pb1 h) hP hD dX11_couldStrike_40
        · have c_10 := bI_z.mp c_10
          have h := if_f c_10 h
          refine lv_iconst (v := 1) hx hb dX11_couldStrike_35 (by decide) ?_
          refine lv_goto (tgt := 40) hx hb dX11_couldStrike_36 (by decide) ?_
          exact sw_rz hx hb hr rfl hlocks hS () (pb1 h) hP hD dX11_couldStrike_40
theorem mv_X11_missingFrom : sw_MV yX11_missingFrom RX11 cX11_missingFrom 3 (Option.some Jvm.ClassFile.FieldType.int) 1 := ⟨im_X11_missingFrom, se_X11_missingFrom, ini_X11, co_X11_missingFrom, by decide +kernel⟩
def B_X11_missingFrom_2 (x1 : Int32) (t_end : Int32) (t_row : (Nat → Int32)) (t_times : (Nat → Int32)) (k_2 : Int32 → Option (Int32)) (x2 : Int32) : Option (Int32) :=
 (if t_end < (x2 * x2) then some (-1) else (F_X11_couldStrike x2 t_end t_row t_times).bind (fun w_2 => (if w_2 = true then some x2 else nm (x2 + 1) (fun x2_5 => k_2 x2_5))))
def F_X11_missingFrom (x1 : Int32) (t_end : Int32) (t_row : (Nat → Int32)) (t_times : (Nat → Int32)) : Option (Int32) :=
 fx (fun _ => none) (B_X11_missingFrom_2 x1 t_end t_row t_times) FUEL x1
abbrev RM_X11_missingFrom : Room := ({ frames := 4, cells := 0, slots := 0, locals := 85 } : Room)
set_option maxHeartbeats 4000000 in
set_option maxRecDepth 100000 in
theorem c_X11_missingFrom (l : Launch) (G : va_G) (ca Z : Nat → Nat) (q_t : Nat) (q_t_row : Nat) (q_t_times : Nat) (q_t_wheelPrimes : Nat) (z_t_now : Value) (z_t_draft : Value) (z_t_kept : Value) (z_t_snapshot : Value) (z_t_history : Value) (z_t_accounts : Value) (z_t_undoCount : Value) (z_t_thrown : Value) (z_t_hasSnapshot : Value) (z_t_owner : Value) (z_t_ownerD : Value) (z_t_formatted : Value) (z_t_formattedLength : Value) (z_t_buffer : Value) (z_t_bufferLength : Value) (z_t_limit : Value) (z_t_nextByte : Value) (z_t_beginsAt : Value) (z_t_token : Value) (z_t_error : Value) (z_t_errorAt : Value) (z_t_errorPosition : Value) (z_t_nested : Value) (z_t_orders : Value) (z_t_orderWords : Value) (z_t_orderCount : Value) (sz : Nat) (x1 : Int32) (t_end : Int32) (t_row : (Nat → Int32)) (t_times : (Nat → Int32)) (res : Int32) (hF : F_X11_missingFrom x1 t_end t_row t_times = some res) : Met l yX11_missingFrom (.code yX11_missingFrom cX11_missingFrom 3 (Option.some Jvm.ClassFile.FieldType.int) :: sw_U) RM_X11_missingFrom (va_Pc [.ref q_t, .int x1] (sw_Pre G ca Z [(q_t, .inr (8, [z_t_now, z_t_draft, z_t_kept, z_t_snapshot, z_t_history, z_t_accounts, .ref q_t_wheelPrimes, .ref q_t_row, z_t_undoCount, z_t_thrown, z_t_hasSnapshot, z_t_owner, .ref q_t_times, .int t_end, z_t_ownerD, z_t_formatted, z_t_formattedLength, z_t_buffer, z_t_bufferLength, z_t_limit, z_t_nextByte, z_t_beginsAt, z_t_token, z_t_error, z_t_errorAt, z_t_errorPosition, z_t_nested, z_t_orders, z_t_orderWords, z_t_orderCount])), (q_t_row, .inl (ca 0, 45, .inl t_row)), (q_t_times, .inl (ca 0, 5300, .inl t_times)), (q_t_wheelPrimes, .inl (ca 0, 4, .inl sw_p4))] sz)) ((fun A => va_Qi (fun r (u : Unit) => res = r) (sw_Post G A (fun (u : Unit) => [(q_t, .inr (8, [z_t_now, z_t_draft, z_t_kept, z_t_snapshot, z_t_history, z_t_accounts, .ref q_t_wheelPrimes, .ref q_t_row, z_t_undoCount, z_t_thrown, z_t_hasSnapshot, z_t_owner, .ref q_t_times, .int t_end, z_t_ownerD, z_t_formatted, z_t_formattedLength, z_t_buffer, z_t_bufferLength, z_t_limit, z_t_nextByte, z_t_beginsAt, z_t_token, z_t_error, z_t_errorAt, z_t_errorPosition, z_t_nested, z_t_orders, z_t_orderWords, z_t_orderCount])), (q_t_row, .inl (ca 0, 45, .inl t_row)), (q_t_times, .inl (ca 0, 5300, .inl t_times)), (q_t_wheelPrimes, .inl (ca 0, 4, .inl sw_p4))])) A) (va_A [(q_t, .inr (8, [z_t_now, z_t_draft, z_t_kept, z_t_snapshot, z_t_history, z_t_accounts, .ref q_t_wheelPrimes, .ref q_t_row, z_t_undoCount, z_t_thrown, z_t_hasSnapshot, z_t_owner, .ref q_t_times, .int t_end, z_t_ownerD, z_t_formatted, z_t_formattedLength, z_t_buffer, z_t_bufferLength, z_t_limit, z_t_nextByte, z_t_beginsAt, z_t_token, z_t_error, z_t_errorAt, z_t_errorPosition, z_t_nested, z_t_orders, z_t_orderWords, z_t_orderCount])), (q_t_row, .inl (ca 0, 45, .inl t_row)), (q_t_times, .inl (ca 0, 5300, .inl t_times)), (q_t_wheelPrimes, .inl (ca 0, 4, .inl sw_p4))] sz)) 0 0 (va_A [(q_t, .inr (8, [z_t_now, z_t_draft, z_t_kept, z_t_snapshot, z_t_history, z_t_accounts, .ref q_t_wheelPrimes, .ref q_t_row, z_t_undoCount, z_t_thrown, z_t_hasSnapshot, z_t_owner, .ref q_t_times, .int t_end, z_t_ownerD, z_t_formatted, z_t_formattedLength, z_t_buffer, z_t_bufferLength, z_t_limit, z_t_nextByte, z_t_beginsAt, z_t_token, z_t_error, z_t_errorAt, z_t_errorPosition, z_t_nested, z_t_orders, z_t_orderWords, z_t_orderCount])), (q_t_row, .inl (ca 0, 45, .inl t_row)), (q_t_times, .inl (ca 0, 5300, .inl t_times)), (q_t_wheelPrimes, .inl (ca 0, 4, .inl sw_p4))] sz) := by
  refine sw_ofW (Qc := fun A => va_Qi (fun r (u : Unit) => res = r) (sw_Post G A (fun (u : Unit) => [(q_t, .inr (8, [z_t_now, z_t_draft, z_t_kept, z_t_snapshot, z_t_history, z_t_accounts, .ref q_t_wheelPrimes, .ref q_t_row, z_t_undoCount, z_t_thrown, z_t_hasSnapshot, z_t_owner, .ref q_t_times, .int t_end, z_t_ownerD, z_t_formatted, z_t_formattedLength, z_t_buffer, z_t_bufferLength, z_t_limit, z_t_nextByte, z_t_beginsAt, z_t_token, z_t_error, z_t_errorAt, z_t_errorPosition, z_t_nested, z_t_orders, z_t_orderWords, z_t_orderCount])), (q_t_row, .inl (ca 0, 45, .inl t_row)), (q_t_times, .inl (ca 0, 5300, .inl t_times)), (q_t_wheelPrimes, .inl (ca 0, 4, .inl sw_p4))])) A) (by decide) [(0, .ref q_t), (1, .int x1)] rfl (Nat.le_of_ble_eq_true rfl) ?_
  intro p e s m args below meth c ls A hx hb hr hml hown htU hlocks hnm hP hK hD hX hY hS hA hl
  have hown : s.vm.findClass RX11 = some m.cls := hown
  have Cx : sw_Cx p s m args c cX11_missingFrom 3 RX11 G ca Z A := ⟨⟨hx, hb, hml, hown, htU⟩, hK, hX, hY, hA⟩
  have h := hF
  unfold F_X11_missingFrom at h
  have hL_2 : ∀ (n_2 : Nat) (x2 : Int32) (ls : Array Slot) (H : Heap) (locs : List Loc), lv_has ls 3 [(0, .ref q_t), (2, .int x2)] → va_P G vwCl [(q_t, .inr (8, [z_t_now, z_t_draft, z_t_kept, z_t_snapshot, z_t_history, z_t_accounts, .ref q_t_wheelPrimes, .ref q_t_row, z_t_undoCount, z_t_thrown, z_t_hasSnapshot, z_t_owner, .ref q_t_times, .int t_end, z_t_ownerD, z_t_formatted, z_t_formattedLength, z_t_buffer, z_t_bufferLength, z_t_limit, z_t_nextByte, z_t_beginsAt, z_t_token, z_t_error, z_t_errorAt, z_t_errorPosition, z_t_nested, z_t_orders, z_t_orderWords, z_t_orderCount])), (q_t_row, .inl (ca 0, 45, .inl t_row)), (q_t_times, .inl (ca 0, 5300, .inl t_times)), (q_t_wheelPrimes, .inl (ca 0, 4, .inl sw_p4))] H → va_D A [(q_t, .inr (8, [z_t_now, z_t_draft, z_t_kept, z_t_snapshot, z_t_history, z_t_accounts, .ref q_t_wheelPrimes, .ref q_t_row, z_t_undoCount, z_t_thrown, z_t_hasSnapshot, z_t_owner, .ref q_t_times, .int t_end, z_t_ownerD, z_t_formatted, z_t_formattedLength, z_t_buffer, z_t_bufferLength, z_t_limit, z_t_nextByte, z_t_beginsAt, z_t_token, z_t_error, z_t_errorAt, z_t_errorPosition, z_t_nested, z_t_orders, z_t_orderWords, z_t_orderCount])), (q_t_row, .inl (ca 0, 45, .inl t_row)), (q_t_times, .inl (ca 0, 5300, .inl t_times)), (q_t_wheelPrimes, .inl (ca 0, 4, .inl sw_p4))] → va_S A s.heap H locs → fx (fun _ => none) (B_X11_missingFrom_2 x1 t_end t_row t_times) n_2 x2 = some res → W p l e RM_X11_missingFrom s m args below meth c H locs 0 0 (MQ below ((fun A => va_Qi (fun r (u : Unit) => res = r) (sw_Post G A (fun (u : Unit) => [(q_t, .inr (8, [z_t_now, z_t_draft, z_t_kept, z_t_snapshot, z_t_history, z_t_accounts, .ref q_t_wheelPrimes, .ref q_t_row, z_t_undoCount, z_t_thrown, z_t_hasSnapshot, z_t_owner, .ref q_t_times, .int t_end, z_t_ownerD, z_t_formatted, z_t_formattedLength, z_t_buffer, z_t_bufferLength, z_t_limit, z_t_nextByte, z_t_beginsAt, z_t_token, z_t_error, z_t_errorAt, z_t_errorPosition, z_t_nested, z_t_orders, z_t_orderWords, z_t_orderCount])), (q_t_row, .inl (ca 0, 45, .inl t_row)), (q_t_times, .inl (ca 0, 5300, .inl t_times)), (q_t_wheelPrimes, .inl (ca 0, 4, .inl sw_p4))])) A) A) args s 0 0 A) (F0 m 2 ls []) := by
    intro n_2
    induction n_2 with
    | zero => intro x2 ls H locs hl hP hD hS h; exact no_at h
    | succ n_2 ih_2 =>
      intro x2 ls H locs hl hP hD hS h
      rw [fx_s] at h
      unfold B_X11_missingFrom_2 at h
      refine lv_iload_n hx hb dX11_missingFrom_2 rfl (lv_at hl 1 rfl) ?_
      refine lv_iload_n hx hb dX11_missingFrom_3 rfl (lv_at hl 1 rfl) ?_
      refine lv_imul hx hb dX11_missingFrom_4 ?_
      refine lv_aload_n hx hb dX11_missingFrom_5 rfl (lv_at hl 0 rfl) ?_
      refine va_get (v := .int t_end) hx hb htU iU_X11 hown hK hP 0 rfl rfl 13 (by decide) (htU _ fl_X11_100) (fun _ h9 => h9) rfl dX11_missingFrom_6 ?_
      refine lv_icmp_gt (tgt := 28) hx hb dX11_missingFrom_9 (by decide) (fun c_1 => ?_) (fun c_1 => ?_)
      · have h := if_t c_1 h
        refine lv_iconst (v := (-1)) hx hb dX11_missingFrom_28 (by decide) ?_
        exact sw_ri hx hb hr hlocks hS () (pr1 h) hP hD dX11_missingFrom_29
      · have h := if_f c_1 h
        refine lv_aload_n hx hb dX11_missingFrom_12 rfl (lv_at hl 0 rfl) ?_
        refine lv_iload_n hx hb dX11_missingFrom_13 rfl (lv_at hl 1 rfl) ?_
        obtain ⟨w_2, hg_3, h⟩ := bd_at h
        refine sw_ci (sw_runV (As := [.int x2]) (rest := []) Cx hP hD hS mv_X11_couldStrike ml_X11_116 (c_X11_couldStrike l G ca Z q_t q_t_row q_t_times q_t_wheelPrimes (z_t_now) (z_t_draft) (z_t_kept) (z_t_snapshot) (z_t_history) (z_t_accounts) (z_t_undoCount) (z_t_thrown) (z_t_hasSnapshot) (z_t_owner) (z_t_ownerD) (z_t_formatted) (z_t_formattedLength) (z_t_buffer) (z_t_bufferLength) (z_t_limit) (z_t_nextByte) (z_t_beginsAt) (z_t_token) (z_t_error) (z_t_errorAt) (z_t_errorPosition) (z_t_nested) (z_t_orders) (z_t_orderWords) (z_t_orderCount) H.size x2 t_end t_row t_times w_2 hg_3) 8 rfl rfl rfl [0, 1, 2, 3] rfl rfl rfl rfl ⟨(Nat.le_of_ble_eq_true rfl), (Nat.le_of_ble_eq_true rfl)⟩ hl.1 rfl rfl (Nat.le_of_ble_eq_true rfl) dX11_missingFrom_14 ⟨(Nat.le_of_ble_eq_true rfl), (Nat.le_of_ble_eq_true rfl)⟩) hP hD hS hA [0, 1, 2, 3] [] [0, 1, 2, 3] rfl rfl rfl (by decide) (fun _ => rfl) rfl (fun r u H locs hw hP hD hS => ?_)
        subst hw
        have hP : va_P G vwCl [(q_t, .inr (8, [z_t_now, z_t_draft, z_t_kept, z_t_snapshot, z_t_history, z_t_accounts, .ref q_t_wheelPrimes, .ref q_t_row, z_t_undoCount, z_t_thrown, z_t_hasSnapshot, z_t_owner, .ref q_t_times, .int t_end, z_t_ownerD, z_t_formatted, z_t_formattedLength, z_t_buffer, z_t_bufferLength, z_t_limit, z_t_nextByte, z_t_beginsAt, z_t_token, z_t_error, z_t_errorAt, z_t_errorPosition, z_t_nested, z_t_orders, z_t_orderWords, z_t_orderCount])), (q_t_row, .inl (ca 0, 45, .inl t_row)), (q_t_times, .inl (ca 0, 5300, .inl t_times)), (q_t_wheelPrimes, .inl (ca 0, 4, .inl sw_p4))] H := hP
        have hD : va_D A [(q_t, .inr (8, [z_t_now, z_t_draft, z_t_kept, z_t_snapshot, z_t_history, z_t_accounts, .ref q_t_wheelPrimes, .ref q_t_row, z_t_undoCount, z_t_thrown, z_t_hasSnapshot, z_t_owner, .ref q_t_times, .int t_end, z_t_ownerD, z_t_formatted, z_t_formattedLength, z_t_buffer, z_t_bufferLength, z_t_limit, z_t_nextByte, z_t_beginsAt, z_t_token, z_t_error, z_t_errorAt, z_t_errorPosition, z_t_nested, z_t_orders, z_t_orderWords, z_t_orderCount])), (q_t_row, .inl (ca 0, 45, .inl t_row)), (q_t_times, .inl (ca 0, 5300, .inl t_times)), (q_t_wheelPrimes, .inl (ca 0, 4, .inl sw_p4))] := hD
        refine lv_if_eq (tgt := 22) hx hb dX11_missingFrom_17 (by decide) (fun c_4 => ?_) (fun c_4 => ?_)
        · have c_4 := bI_z.mp c_4
          have h := if_f c_4 h
          obtain ⟨x2_5, e_x2_5⟩ : ∃ y : Int32, y = x2 + 1 := ⟨_, rfl⟩
          refine lv_iinc (v := x2_5) (lv' := [(2, .int x2_5), (0, .ref q_t)]) hx hb dX11_missingFrom_22 hl (k := 1) rfl (by rw [e_x2_5]; rfl) (by decide) rfl (fun ls hl => ?_)
          have h := nm_at e_x2_5 h
          refine lv_goto (tgt := 2) hx hb dX11_missingFrom_25 (by decide) ?_
          exact ih_2 x2_5 ls H _ (lv_sub hl [1, 0] rfl) hP hD hS h
        · have c_4 := bI_nz.mp c_4
          have h := if_t c_4 h
          refine lv_iload_n hx hb dX11_missingFrom_20 rfl (lv_at hl 1 rfl) ?_
          exact sw_ri hx hb hr hlocks hS () (pr1 h) hP hD dX11_missingFrom_21
  refine lv_iload_n hx hb dX11_missingFrom_0 rfl (lv_at hl 1 rfl) ?_
  refine lv_istore_n (lv' := [(2, .int x1), (0, .ref q_t), (1, .int x1)]) hx hb dX11_missingFrom_1 rfl hl (by decide) rfl (fun ls hl => ?_)
  exact hL_2 FUEL x1 ls s.heap _ (lv_sub hl [1, 0] rfl) hP hD hS h
theorem ms_X11_isPrime : sw_MS yX11_isPrime cX11_isPrime 3 (Option.some Jvm.ClassFile.FieldType.boolean) 1 := ⟨st_X11_isPrime, ini_X11, co_X11_isPrime, by decide +kernel⟩
def B_X11_isPrime_13 (x0 : Int32) (k_13 : Bool → Int32 → Option (Bool)) (x1 : Bool) (x2 : Int32) : Option (Bool) :=
 (if x0 < (x2 * x2) then some x1 else (if x1 = true then nz x2 ((if (x0 - x0 / x2 * x2) = 0 then nm (x2 + 1) (fun x2_6 => k_13 false x2_6) else nm (x2 + 1) (fun x2_7 => k_13 true x2_7))) else some x1))
def F_X11_isPrime (x0 : Int32) : Option (Bool) :=
 (if x0 ≤ 1 then fx (fun _ _ => none) (B_X11_isPrime_13 x0) FUEL false 2 else fx (fun _ _ => none) (B_X11_isPrime_13 x0) FUEL true 2)
abbrev RM_X11_isPrime : Room := ({ frames := 0, cells := 0, slots := 0, locals := 0 } : Room)
set_option maxHeartbeats 4000000 in
set_option maxRecDepth 100000 in
theorem c_X11_isPrime (l : Launch) (G : va_G) (ca Z : Nat → Nat) (sz : Nat) (x0 : Int32) (res : Bool) (hF : F_X11_isPrime x0 = some res) : Met l yX11_isPrime (.code yX11_isPrime cX11_isPrime 3 (Option.some Jvm.ClassFile.FieldType.boolean) :: sw_U) RM_X11_isPrime (va_Pc [.int x0] (sw_Pre G ca Z [] sz)) ((fun A => va_Qi (fun r (u : Unit) => bI res = r) (sw_Post G A (fun (u : Unit) => [])) A) (va_A [] sz)) 0 0 (va_A [] sz) := by
  refine sw_ofW (Qc := fun A => va_Qi (fun r (u : Unit) => bI res = r) (sw_Post G A (fun (u : Unit) => [])) A) (by decide) [(0, .int x0)] rfl (Nat.le_of_ble_eq_true rfl) ?_
  intro p e s m args below meth c ls A hx hb hr hml hown htU hlocks hnm hP hK hD hX hY hS hA hl
  have hown : s.vm.findClass RX11 = some m.cls := hown
  have Cx : sw_Cx p s m args c cX11_isPrime 3 RX11 G ca Z A := ⟨⟨hx, hb, hml, hown, htU⟩, hK, hX, hY, hA⟩
  have h := hF
  unfold F_X11_isPrime at h
  have hL_13 : ∀ (n_13 : Nat) (x1 : Bool) (x2 : Int32) (ls : Array Slot) (H : Heap) (locs : List Loc), lv_has ls 3 [(0, .int x0), (1, .int (bI x1)), (2, .int x2)] → va_P G vwCl [] H → va_D A [] → va_S A s.heap H locs → fx (fun _ _ => none) (B_X11_isPrime_13 x0) n_13 x1 x2 = some res → W p l e RM_X11_isPrime s m args below meth c H locs 0 0 (MQ below ((fun A => va_Qi (fun r (u : Unit) => bI res = r) (sw_Post G A (fun (u : Unit) => [])) A) A) args s 0 0 A) (F0 m 13 ls []) := by
    intro n_13
    induction n_13 with
    | zero => intro x1 x2 ls H locs hl hP hD hS h; exact no_at h
    | succ n_13 ih_13 =>
      intro x1 x2 ls H locs hl hP hD hS h
      rw [fx_s] at h
      unfold B_X11_isPrime_13 at h
      refine lv_iload_n hx hb dX11_isPrime_13 rfl (lv_at hl 2 rfl) ?_
      refine lv_iload_n hx hb dX11_isPrime_14 rfl (lv_at hl 2 rfl) ?_
      refine lv_imul hx hb dX11_isPrime_15 ?_
      refine lv_iload_n hx hb dX11_isPrime_16 rfl (lv_at hl 0 rfl) ?_
      refine lv_icmp_gt (tgt := 42) hx hb dX11_isPrime_17 (by decide) (fun c_2 => ?_) (fun c_2 => ?_)
      · have h := if_t c_2 h
        refine lv_iload_n hx hb dX11_isPrime_42 rfl (lv_at hl 1 rfl) ?_
        exact sw_rz hx hb hr (bI_nar _) hlocks hS () (pb1 h) hP hD dX11_isPrime_43
      · have h := if_f c_2 h
        refine lv_iload_n hx hb dX11_isPrime_20 rfl (lv_at hl 1 rfl) ?_
        refine lv_if_eq (tgt := 42) hx hb dX11_isPrime_21 (by decide) (fun c_3 => ?_) (fun c_3 => ?_)
        · have c_3 := bI_z.mp c_3
          have h := if_f c_3 h
          refine lv_iload_n hx hb dX11_isPrime_42 rfl (lv_at hl 1 rfl) ?_
          exact sw_rz hx hb hr (bI_nar _) hlocks hS () (pb1 h) hP hD dX11_isPrime_43
        · have c_3 := bI_nz.mp c_3
          have h := if_t c_3 h
          refine lv_iload_n hx hb dX11_isPrime_24 rfl (lv_at hl 0 rfl) ?_
          refine lv_iload_n hx hb dX11_isPrime_25 rfl (lv_at hl 2 rfl) ?_
          obtain ⟨hz_4, h⟩ := nz_at h
          refine lv_irem hx hb dX11_isPrime_26 hz_4 ?_
          refine lv_if_eq (tgt := 34) hx hb dX11_isPrime_27 (by decide) (fun c_5 => ?_) (fun c_5 => ?_)
          · have h := if_t c_5 h
            refine lv_iconst (v := 0) hx hb dX11_isPrime_34 (by decide) ?_
            refine lv_istore_n (lv' := [(1, .int 0), (0, .int x0), (2, .int x2)]) hx hb dX11_isPrime_35 rfl hl (by decide) rfl (fun ls hl => ?_)
            obtain ⟨x2_6, e_x2_6⟩ : ∃ y : Int32, y = x2 + 1 := ⟨_, rfl⟩
            refine lv_iinc (v := x2_6) (lv' := [(2, .int x2_6), (1, .int 0), (0, .int x0)]) hx hb dX11_isPrime_36 hl (k := 2) rfl (by rw [e_x2_6]; rfl) (by decide) rfl (fun ls hl => ?_)
            have h := nm_at e_x2_6 h
            refine lv_goto (tgt := 13) hx hb dX11_isPrime_39 (by decide) ?_
            exact ih_13 false x2_6 ls H _ (lv_sub hl [2, 1, 0] rfl) hP hD hS h
          · have h := if_f c_5 h
            refine lv_iconst (v := 1) hx hb dX11_isPrime_30 (by decide) ?_
            refine lv_goto (tgt := 35) hx hb dX11_isPrime_31 (by decide) ?_
            refine lv_istore_n (lv' := [(1, .int 1), (0, .int x0), (2, .int x2)]) hx hb dX11_isPrime_35 rfl hl (by decide) rfl (fun ls hl => ?_)
            obtain ⟨x2_7, e_x2_7⟩ : ∃ y : Int32, y = x2 + 1 := ⟨_, rfl⟩
            refine lv_iinc (v := x2_7) (lv' := [(2, .int x2_7), (1, .int 1), (0, .int x0)]) hx hb dX11_isPrime_36 hl (k := 2) rfl (by rw [e_x2_7]; rfl) (by decide) rfl (fun ls hl => ?_)
            have h := nm_at e_x2_7 h
            refine lv_goto (tgt := 13) hx hb dX11_isPrime_39 (by decide) ?_
            exact ih_13 true x2_7 ls H _ (lv_sub hl [2, 1, 0] rfl) hP hD hS h
  refine lv_iload_n hx hb dX11_isPrime_0 rfl (lv_at hl 0 rfl) ?_
  refine lv_iconst (v := 1) hx hb dX11_isPrime_1 (by decide) ?_
  refine lv_icmp_le (tgt := 9) hx hb dX11_isPrime_2 (by decide) (fun c_1 => ?_) (fun c_1 => ?_)
  · have h := if_t c_1 h
    refine lv_iconst (v := 0) hx hb dX11_isPrime_9 (by decide) ?_
    refine lv_istore_n (lv' := [(1, .int 0), (0, .int x0)]) hx hb dX11_isPrime_10 rfl hl (by decide) rfl (fun ls hl => ?_)
    refine lv_iconst (v := 2) hx hb dX11_isPrime_11 (by decide) ?_
    refine lv_istore_n (lv' := [(2, .int 2), (1, .int 0), (0, .int x0)]) hx hb dX11_isPrime_12 rfl hl (by decide) rfl (fun ls hl => ?_)
    exact hL_13 FUEL false 2 ls s.heap _ (lv_sub hl [2, 1, 0] rfl) hP hD hS h
  · have h := if_f c_1 h
    refine lv_iconst (v := 1) hx hb dX11_isPrime_5 (by decide) ?_
    refine lv_goto (tgt := 10) hx hb dX11_isPrime_6 (by decide) ?_
    refine lv_istore_n (lv' := [(1, .int 1), (0, .int x0)]) hx hb dX11_isPrime_10 rfl hl (by decide) rfl (fun ls hl => ?_)
    refine lv_iconst (v := 2) hx hb dX11_isPrime_11 (by decide) ?_
    refine lv_istore_n (lv' := [(2, .int 2), (1, .int 1), (0, .int x0)]) hx hb dX11_isPrime_12 rfl hl (by decide) rfl (fun ls hl => ?_)
    exact hL_13 FUEL true 2 ls s.heap _ (lv_sub hl [2, 1, 0] rfl) hP hD hS h
theorem mv_X11_product : sw_MV yX11_product RX11 cX11_product 3 (Option.some Jvm.ClassFile.FieldType.int) 0 := ⟨im_X11_product, se_X11_product, ini_X11, co_X11_product, by decide +kernel⟩
def B_X11_product_4 (t_row : (Nat → Int32)) (k_4 : Int32 → Int32 → Option (Int32)) (x1 : Int32) (x2 : Int32) : Option (Int32) :=
 (if (t_row 0) ≤ x2 then some x1 else ix x2 4 (nm ((x1 * (sw_p4 x2.toNatClampNeg))) (fun x1_3 => nm (x2 + 1) (fun x2_4 => k_4 x1_3 x2_4))))
def F_X11_product (t_row : (Nat → Int32)) : Option (Int32) :=
 fx (fun _ _ => none) (B_X11_product_4 t_row) FUEL 1 0
abbrev RM_X11_product : Room := ({ frames := 0, cells := 0, slots := 0, locals := 0 } : Room)
set_option maxHeartbeats 4000000 in
set_option maxRecDepth 100000 in
theorem c_X11_product (l : Launch) (G : va_G) (ca Z : Nat → Nat) (q_t : Nat) (q_t_row : Nat) (q_t_wheelPrimes : Nat) (z_t_now : Value) (z_t_draft : Value) (z_t_kept : Value) (z_t_snapshot : Value) (z_t_history : Value) (z_t_accounts : Value) (z_t_undoCount : Value) (z_t_thrown : Value) (z_t_hasSnapshot : Value) (z_t_owner : Value) (z_t_times : Value) (z_t_end : Value) (z_t_ownerD : Value) (z_t_formatted : Value) (z_t_formattedLength : Value) (z_t_buffer : Value) (z_t_bufferLength : Value) (z_t_limit : Value) (z_t_nextByte : Value) (z_t_beginsAt : Value) (z_t_token : Value) (z_t_error : Value) (z_t_errorAt : Value) (z_t_errorPosition : Value) (z_t_nested : Value) (z_t_orders : Value) (z_t_orderWords : Value) (z_t_orderCount : Value) (sz : Nat) (t_row : (Nat → Int32)) (res : Int32) (hF : F_X11_product t_row = some res) : Met l yX11_product (.code yX11_product cX11_product 3 (Option.some Jvm.ClassFile.FieldType.int) :: sw_U) RM_X11_product (va_Pc [.ref q_t] (sw_Pre G ca Z [(q_t, .inr (8, [z_t_now, z_t_draft, z_t_kept, z_t_snapshot, z_t_history, z_t_accounts, .ref q_t_wheelPrimes, .ref q_t_row, z_t_undoCount, z_t_thrown, z_t_hasSnapshot, z_t_owner, z_t_times, z_t_end, z_t_ownerD, z_t_formatted, z_t_formattedLength, z_t_buffer, z_t_bufferLength, z_t_limit, z_t_nextByte, z_t_beginsAt, z_t_token, z_t_error, z_t_errorAt, z_t_errorPosition, z_t_nested, z_t_orders, z_t_orderWords, z_t_orderCount])), (q_t_row, .inl (ca 0, 45, .inl t_row)), (q_t_wheelPrimes, .inl (ca 0, 4, .inl sw_p4))] sz)) ((fun A => va_Qi (fun r (u : Unit) => res = r) (sw_Post G A (fun (u : Unit) => [(q_t, .inr (8, [z_t_now, z_t_draft, z_t_kept, z_t_snapshot, z_t_history, z_t_accounts, .ref q_t_wheelPrimes, .ref q_t_row, z_t_undoCount, z_t_thrown, z_t_hasSnapshot, z_t_owner, z_t_times, z_t_end, z_t_ownerD, z_t_formatted, z_t_formattedLength, z_t_buffer, z_t_bufferLength, z_t_limit, z_t_nextByte, z_t_beginsAt, z_t_token, z_t_error, z_t_errorAt, z_t_errorPosition, z_t_nested, z_t_orders, z_t_orderWords, z_t_orderCount])), (q_t_row, .inl (ca 0, 45, .inl t_row)), (q_t_wheelPrimes, .inl (ca 0, 4, .inl sw_p4))])) A) (va_A [(q_t, .inr (8, [z_t_now, z_t_draft, z_t_kept, z_t_snapshot, z_t_history, z_t_accounts, .ref q_t_wheelPrimes, .ref q_t_row, z_t_undoCount, z_t_thrown, z_t_hasSnapshot, z_t_owner, z_t_times, z_t_end, z_t_ownerD, z_t_formatted, z_t_formattedLength, z_t_buffer, z_t_bufferLength, z_t_limit, z_t_nextByte, z_t_beginsAt, z_t_token, z_t_error, z_t_errorAt, z_t_errorPosition, z_t_nested, z_t_orders, z_t_orderWords, z_t_orderCount])), (q_t_row, .inl (ca 0, 45, .inl t_row)), (q_t_wheelPrimes, .inl (ca 0, 4, .inl sw_p4))] sz)) 0 0 (va_A [(q_t, .inr (8, [z_t_now, z_t_draft, z_t_kept, z_t_snapshot, z_t_history, z_t_accounts, .ref q_t_wheelPrimes, .ref q_t_row, z_t_undoCount, z_t_thrown, z_t_hasSnapshot, z_t_owner, z_t_times, z_t_end, z_t_ownerD, z_t_formatted, z_t_formattedLength, z_t_buffer, z_t_bufferLength, z_t_limit, z_t_nextByte, z_t_beginsAt, z_t_token, z_t_error, z_t_errorAt, z_t_errorPosition, z_t_nested, z_t_orders, z_t_orderWords, z_t_orderCount])), (q_t_row, .inl (ca 0, 45, .inl t_row)), (q_t_wheelPrimes, .inl (ca 0, 4, .inl sw_p4))] sz) := by
  refine sw_ofW (Qc := fun A => va_Qi (fun r (u : Unit) => res = r) (sw_Post G A (fun (u : Unit) => [(q_t, .inr (8, [z_t_now, z_t_draft, z_t_kept, z_t_snapshot, z_t_history, z_t_accounts, .ref q_t_wheelPrimes, .ref q_t_row, z_t_undoCount, z_t_thrown, z_t_hasSnapshot, z_t_owner, z_t_times, z_t_end, z_t_ownerD, z_t_formatted, z_t_formattedLength, z_t_buffer, z_t_bufferLength, z_t_limit, z_t_nextByte, z_t_beginsAt, z_t_token, z_t_error, z_t_errorAt, z_t_errorPosition, z_t_nested, z_t_orders, z_t_orderWords, z_t_orderCount])), (q_t_row, .inl (ca 0, 45, .inl t_row)), (q_t_wheelPrimes, .inl (ca 0, 4, .inl sw_p4))])) A) (by decide) [(0, .ref q_t)] rfl (Nat.le_of_ble_eq_true rfl) ?_
  intro p e s m args below meth c ls A hx hb hr hml hown htU hlocks hnm hP hK hD hX hY hS hA hl
  have hown : s.vm.findClass RX11 = some m.cls := hown
  have Cx : sw_Cx p s m args c cX11_product 3 RX11 G ca Z A := ⟨⟨hx, hb, hml, hown, htU⟩, hK, hX, hY, hA⟩
  have h := hF
  unfold F_X11_product at h
  have hL_4 : ∀ (n_4 : Nat) (x1 : Int32) (x2 : Int32) (ls : Array Slot) (H : Heap) (locs : List Loc), lv_has ls 3 [(0, .ref q_t), (1, .int x1), (2, .int x2)] → va_P G vwCl [(q_t, .inr (8, [z_t_now, z_t_draft, z_t_kept, z_t_snapshot, z_t_history, z_t_accounts, .ref q_t_wheelPrimes, .ref q_t_row, z_t_undoCount, z_t_thrown, z_t_hasSnapshot, z_t_owner, z_t_times, z_t_end, z_t_ownerD, z_t_formatted, z_t_formattedLength, z_t_buffer, z_t_bufferLength, z_t_limit, z_t_nextByte, z_t_beginsAt, z_t_token, z_t_error, z_t_errorAt, z_t_errorPosition, z_t_nested, z_t_orders, z_t_orderWords, z_t_orderCount])), (q_t_row, .inl (ca 0, 45, .inl t_row)), (q_t_wheelPrimes, .inl (ca 0, 4, .inl sw_p4))] H → va_D A [(q_t, .inr (8, [z_t_now, z_t_draft, z_t_kept, z_t_snapshot, z_t_history, z_t_accounts, .ref q_t_wheelPrimes, .ref q_t_row, z_t_undoCount, z_t_thrown, z_t_hasSnapshot, z_t_owner, z_t_times, z_t_end, z_t_ownerD, z_t_formatted, z_t_formattedLength, z_t_buffer, z_t_bufferLength, z_t_limit, z_t_nextByte, z_t_beginsAt, z_t_token, z_t_error, z_t_errorAt, z_t_errorPosition, z_t_nested, z_t_orders, z_t_orderWords, z_t_orderCount])), (q_t_row, .inl (ca 0, 45, .inl t_row)), (q_t_wheelPrimes, .inl (ca 0, 4, .inl sw_p4))] → va_S A s.heap H locs → fx (fun _ _ => none) (B_X11_product_4 t_row) n_4 x1 x2 = some res → W p l e RM_X11_product s m args below meth c H locs 0 0 (MQ below ((fun A => va_Qi (fun r (u : Unit) => res = r) (sw_Post G A (fun (u : Unit) => [(q_t, .inr (8, [z_t_now, z_t_draft, z_t_kept, z_t_snapshot, z_t_history, z_t_accounts, .ref q_t_wheelPrimes, .ref q_t_row, z_t_undoCount, z_t_thrown, z_t_hasSnapshot, z_t_owner, z_t_times, z_t_end, z_t_ownerD, z_t_formatted, z_t_formattedLength, z_t_buffer, z_t_bufferLength, z_t_limit, z_t_nextByte, z_t_beginsAt, z_t_token, z_t_error, z_t_errorAt, z_t_errorPosition, z_t_nested, z_t_orders, z_t_orderWords, z_t_orderCount])), (q_t_row, .inl (ca 0, 45, .inl t_row)), (q_t_wheelPrimes, .inl (ca 0, 4, .inl sw_p4))])) A) A) args s 0 0 A) (F0 m 4 ls []) := by
    intro n_4
    induction n_4 with
    | zero => intro x1 x2 ls H locs hl hP hD hS h; exact no_at h
    | succ n_4 ih_4 =>
      intro x1 x2 ls H locs hl hP hD hS h
      rw [fx_s] at h
      unfold B_X11_product_4 at h
      refine lv_iload_n hx hb dX11_product_4 rfl (lv_at hl 2 rfl) ?_
      refine lv_aload_n hx hb dX11_product_5 rfl (lv_at hl 0 rfl) ?_
      refine va_get (v := .ref q_t_row) hx hb htU iU_X11 hown hK hP 0 rfl rfl 7 (by decide) (htU _ fl_X11_31) (fun _ h9 => h9) rfl dX11_product_6 ?_
      refine lv_iconst (v := 0) hx hb dX11_product_9 (by decide) ?_
      refine sw_iald0 hx hb hK hP 1 0 rfl rfl 0 rfl (sw_vin (by decide)) dX11_product_10 ?_
      refine lv_icmp_ge (tgt := 29) hx hb dX11_product_11 (by decide) (fun c_1 => ?_) (fun c_1 => ?_)
      · have h := if_t c_1 h
        refine lv_iload_n hx hb dX11_product_29 rfl (lv_at hl 1 rfl) ?_
        exact sw_ri hx hb hr hlocks hS () (pr1 h) hP hD dX11_product_30
      · have h := if_f c_1 h
        refine lv_iload_n hx hb dX11_product_14 rfl (lv_at hl 1 rfl) ?_
        refine lv_aload_n hx hb dX11_product_15 rfl (lv_at hl 0 rfl) ?_
        refine va_get (v := .ref q_t_wheelPrimes) hx hb htU iU_X11 hown hK hP 0 rfl rfl 6 (by decide) (htU _ fl_X11_28) (fun _ h9 => h9) rfl dX11_product_16 ?_
        refine lv_iload_n hx hb dX11_product_19 rfl (lv_at hl 2 rfl) ?_
        obtain ⟨hi_2, h⟩ := ix_at h
        refine va_iald hx hb hK hP 2 0 rfl rfl hi_2 dX11_product_20 ?_
        refine lv_imul hx hb dX11_product_21 ?_
        refine lv_topi (fun x1_3 e_x1_3 => ?_)
        have h := nm_at e_x1_3 h
        refine lv_istore_n (lv' := [(1, .int x1_3), (0, .ref q_t), (2, .int x2)]) hx hb dX11_product_22 rfl hl (by decide) rfl (fun ls hl => ?_)
        obtain ⟨x2_4, e_x2_4⟩ : ∃ y : Int32, y = x2 + 1 := ⟨_, rfl⟩
        refine lv_iinc (v := x2_4) (lv' := [(2, .int x2_4), (1, .int x1_3), (0, .ref q_t)]) hx hb dX11_product_23 hl (k := 2) rfl (by rw [e_x2_4]; rfl) (by decide) rfl (fun ls hl => ?_)
        have h := nm_at e_x2_4 h
        refine lv_goto (tgt := 4) hx hb dX11_product_26 (by decide) ?_
        exact ih_4 x1_3 x2_4 ls H _ (lv_sub hl [2, 1, 0] rfl) hP hD hS h
  refine lv_iconst (v := 1) hx hb dX11_product_0 (by decide) ?_
  refine lv_istore_n (lv' := [(1, .int 1), (0, .ref q_t)]) hx hb dX11_product_1 rfl hl (by decide) rfl (fun ls hl => ?_)
  refine lv_iconst (v := 0) hx hb dX11_product_2 (by decide) ?_
  refine lv_istore_n (lv' := [(2, .int 0), (1, .int 1), (0, .ref q_t)]) hx hb dX11_product_3 rfl hl (by decide) rfl (fun ls hl => ?_)
  exact hL_4 FUEL 1 0 ls s.heap _ (lv_sub hl [2, 1, 0] rfl) hP hD hS h
theorem mv_X11_rightOnes : sw_MV yX11_rightOnes RX11 cX11_rightOnes 3 (Option.some Jvm.ClassFile.FieldType.int) 0 := ⟨im_X11_rightOnes, se_X11_rightOnes, ini_X11, co_X11_rightOnes, by decide +kernel⟩
def B_X11_rightOnes_4 (t_row : (Nat → Int32)) (k_4 : Int32 → Int32 → Option (Int32)) (x1 : Int32) (x2 : Int32) : Option (Int32) :=
 (if (t_row 0) ≤ x2 then some x1 else ix x2 4 (nm ((x1 * ((sw_p4 x2.toNatClampNeg) - 1))) (fun x1_3 => nm (x2 + 1) (fun x2_4 => k_4 x1_3 x2_4))))
def F_X11_rightOnes (t_row : (Nat → Int32)) : Option (Int32) :=
 fx (fun _ _ => none) (B_X11_rightOnes_4 t_row) FUEL 1 0
abbrev RM_X11_rightOnes : Room := ({ frames := 0, cells := 0, slots := 0, locals := 0 } : Room)
set_option maxHeartbeats 4000000 in
set_option maxRecDepth 100000 in
theorem c_X11_rightOnes (l : Launch) (G : va_G) (ca Z : Nat → Nat) (q_t : Nat) (q_t_row : Nat) (q_t_wheelPrimes : Nat) (z_t_now : Value) (z_t_draft : Value) (z_t_kept : Value) (z_t_snapshot : Value) (z_t_history : Value) (z_t_accounts : Value) (z_t_undoCount : Value) (z_t_thrown : Value) (z_t_hasSnapshot : Value) (z_t_owner : Value) (z_t_times : Value) (z_t_end : Value) (z_t_ownerD : Value) (z_t_formatted : Value) (z_t_formattedLength : Value) (z_t_buffer : Value) (z_t_bufferLength : Value) (z_t_limit : Value) (z_t_nextByte : Value) (z_t_beginsAt : Value) (z_t_token : Value) (z_t_error : Value) (z_t_errorAt : Value) (z_t_errorPosition : Value) (z_t_nested : Value) (z_t_orders : Value) (z_t_orderWords : Value) (z_t_orderCount : Value) (sz : Nat) (t_row : (Nat → Int32)) (res : Int32) (hF : F_X11_rightOnes t_row = some res) : Met l yX11_rightOnes (.code yX11_rightOnes cX11_rightOnes 3 (Option.some Jvm.ClassFile.FieldType.int) :: sw_U) RM_X11_rightOnes (va_Pc [.ref q_t] (sw_Pre G ca Z [(q_t, .inr (8, [z_t_now, z_t_draft, z_t_kept, z_t_snapshot, z_t_history, z_t_accounts, .ref q_t_wheelPrimes, .ref q_t_row, z_t_undoCount, z_t_thrown, z_t_hasSnapshot, z_t_owner, z_t_times, z_t_end, z_t_ownerD, z_t_formatted, z_t_formattedLength, z_t_buffer, z_t_bufferLength, z_t_limit, z_t_nextByte, z_t_beginsAt, z_t_token, z_t_error, z_t_errorAt, z_t_errorPosition, z_t_nested, z_t_orders, z_t_orderWords, z_t_orderCount])), (q_t_row, .inl (ca 0, 45, .inl t_row)), (q_t_wheelPrimes, .inl (ca 0, 4, .inl sw_p4))] sz)) ((fun A => va_Qi (fun r (u : Unit) => res = r) (sw_Post G A (fun (u : Unit) => [(q_t, .inr (8, [z_t_now, z_t_draft, z_t_kept, z_t_snapshot, z_t_history, z_t_accounts, .ref q_t_wheelPrimes, .ref q_t_row, z_t_undoCount, z_t_thrown, z_t_hasSnapshot, z_t_owner, z_t_times, z_t_end, z_t_ownerD, z_t_formatted, z_t_formattedLength, z_t_buffer, z_t_bufferLength, z_t_limit, z_t_nextByte, z_t_beginsAt, z_t_token, z_t_error, z_t_errorAt, z_t_errorPosition, z_t_nested, z_t_orders, z_t_orderWords, z_t_orderCount])), (q_t_row, .inl (ca 0, 45, .inl t_row)), (q_t_wheelPrimes, .inl (ca 0, 4, .inl sw_p4))])) A) (va_A [(q_t, .inr (8, [z_t_now, z_t_draft, z_t_kept, z_t_snapshot, z_t_history, z_t_accounts, .ref q_t_wheelPrimes, .ref q_t_row, z_t_undoCount, z_t_thrown, z_t_hasSnapshot, z_t_owner, z_t_times, z_t_end, z_t_ownerD, z_t_formatted, z_t_formattedLength, z_t_buffer, z_t_bufferLength, z_t_limit, z_t_nextByte, z_t_beginsAt, z_t_token, z_t_error, z_t_errorAt, z_t_errorPosition, z_t_nested, z_t_orders, z_t_orderWords, z_t_orderCount])), (q_t_row, .inl (ca 0, 45, .inl t_row)), (q_t_wheelPrimes, .inl (ca 0, 4, .inl sw_p4))] sz)) 0 0 (va_A [(q_t, .inr (8, [z_t_now, z_t_draft, z_t_kept, z_t_snapshot, z_t_history, z_t_accounts, .ref q_t_wheelPrimes, .ref q_t_row, z_t_undoCount, z_t_thrown, z_t_hasSnapshot, z_t_owner, z_t_times, z_t_end, z_t_ownerD, z_t_formatted, z_t_formattedLength, z_t_buffer, z_t_bufferLength, z_t_limit, z_t_nextByte, z_t_beginsAt, z_t_token, z_t_error, z_t_errorAt, z_t_errorPosition, z_t_nested, z_t_orders, z_t_orderWords, z_t_orderCount])), (q_t_row, .inl (ca 0, 45, .inl t_row)), (q_t_wheelPrimes, .inl (ca 0, 4, .inl sw_p4))] sz) := by
  refine sw_ofW (Qc := fun A => va_Qi (fun r (u : Unit) => res = r) (sw_Post G A (fun (u : Unit) => [(q_t, .inr (8, [z_t_now, z_t_draft, z_t_kept, z_t_snapshot, z_t_history, z_t_accounts, .ref q_t_wheelPrimes, .ref q_t_row, z_t_undoCount, z_t_thrown, z_t_hasSnapshot, z_t_owner, z_t_times, z_t_end, z_t_ownerD, z_t_formatted, z_t_formattedLength, z_t_buffer, z_t_bufferLength, z_t_limit, z_t_nextByte, z_t_beginsAt, z_t_token, z_t_error, z_t_errorAt, z_t_errorPosition, z_t_nested, z_t_orders, z_t_orderWords, z_t_orderCount])), (q_t_row, .inl (ca 0, 45, .inl t_row)), (q_t_wheelPrimes, .inl (ca 0, 4, .inl sw_p4))])) A) (by decide) [(0, .ref q_t)] rfl (Nat.le_of_ble_eq_true rfl) ?_
  intro p e s m args below meth c ls A hx hb hr hml hown htU hlocks hnm hP hK hD hX hY hS hA hl
  have hown : s.vm.findClass RX11 = some m.cls := hown
  have Cx : sw_Cx p s m args c cX11_rightOnes 3 RX11 G ca Z A := ⟨⟨hx, hb, hml, hown, htU⟩, hK, hX, hY, hA⟩
  have h := hF
  unfold F_X11_rightOnes at h
  have hL_4 : ∀ (n_4 : Nat) (x1 : Int32) (x2 : Int32) (ls : Array Slot) (H : Heap) (locs : List Loc), lv_has ls 3 [(0, .ref q_t), (1, .int x1), (2, .int x2)] → va_P G vwCl [(q_t, .inr (8, [z_t_now, z_t_draft, z_t_kept, z_t_snapshot, z_t_history, z_t_accounts, .ref q_t_wheelPrimes, .ref q_t_row, z_t_undoCount, z_t_thrown, z_t_hasSnapshot, z_t_owner, z_t_times, z_t_end, z_t_ownerD, z_t_formatted, z_t_formattedLength, z_t_buffer, z_t_bufferLength, z_t_limit, z_t_nextByte, z_t_beginsAt, z_t_token, z_t_error, z_t_errorAt, z_t_errorPosition, z_t_nested, z_t_orders, z_t_orderWords, z_t_orderCount])), (q_t_row, .inl (ca 0, 45, .inl t_row)), (q_t_wheelPrimes, .inl (ca 0, 4, .inl sw_p4))] H → va_D A [(q_t, .inr (8, [z_t_now, z_t_draft, z_t_kept, z_t_snapshot, z_t_history, z_t_accounts, .ref q_t_wheelPrimes, .ref q_t_row, z_t_undoCount, z_t_thrown, z_t_hasSnapshot, z_t_owner, z_t_times, z_t_end, z_t_ownerD, z_t_formatted, z_t_formattedLength, z_t_buffer, z_t_bufferLength, z_t_limit, z_t_nextByte, z_t_beginsAt, z_t_token, z_t_error, z_t_errorAt, z_t_errorPosition, z_t_nested, z_t_orders, z_t_orderWords, z_t_orderCount])), (q_t_row, .inl (ca 0, 45, .inl t_row)), (q_t_wheelPrimes, .inl (ca 0, 4, .inl sw_p4))] → va_S A s.heap H locs → fx (fun _ _ => none) (B_X11_rightOnes_4 t_row) n_4 x1 x2 = some res → W p l e RM_X11_rightOnes s m args below meth c H locs 0 0 (MQ below ((fun A => va_Qi (fun r (u : Unit) => res = r) (sw_Post G A (fun (u : Unit) => [(q_t, .inr (8, [z_t_now, z_t_draft, z_t_kept, z_t_snapshot, z_t_history, z_t_accounts, .ref q_t_wheelPrimes, .ref q_t_row, z_t_undoCount, z_t_thrown, z_t_hasSnapshot, z_t_owner, z_t_times, z_t_end, z_t_ownerD, z_t_formatted, z_t_formattedLength, z_t_buffer, z_t_bufferLength, z_t_limit, z_t_nextByte, z_t_beginsAt, z_t_token, z_t_error, z_t_errorAt, z_t_errorPosition, z_t_nested, z_t_orders, z_t_orderWords, z_t_orderCount])), (q_t_row, .inl (ca 0, 45, .inl t_row)), (q_t_wheelPrimes, .inl (ca 0, 4, .inl sw_p4))])) A) A) args s 0 0 A) (F0 m 4 ls []) := by
    intro n_4
    induction n_4 with
    | zero => intro x1 x2 ls H locs hl hP hD hS h; exact no_at h
    | succ n_4 ih_4 =>
      intro x1 x2 ls H locs hl hP hD hS h
      rw [fx_s] at h
      unfold B_X11_rightOnes_4 at h
      refine lv_iload_n hx hb dX11_rightOnes_4 rfl (lv_at hl 2 rfl) ?_
      refine lv_aload_n hx hb dX11_rightOnes_5 rfl (lv_at hl 0 rfl) ?_
      refine va_get (v := .ref q_t_row) hx hb htU iU_X11 hown hK hP 0 rfl rfl 7 (by decide) (htU _ fl_X11_31) (fun _ h9 => h9) rfl dX11_rightOnes_6 ?_
      refine lv_iconst (v := 0) hx hb dX11_rightOnes_9 (by decide) ?_
      refine sw_iald0 hx hb hK hP 1 0 rfl rfl 0 rfl (sw_vin (by decide)) dX11_rightOnes_10 ?_
      refine lv_icmp_ge (tgt := 31) hx hb dX11_rightOnes_11 (by decide) (fun c_1 => ?_) (fun c_1 => ?_)
      · have h := if_t c_1 h
        refine lv_iload_n hx hb dX11_rightOnes_31 rfl (lv_at hl 1 rfl) ?_
        exact sw_ri hx hb hr hlocks hS () (pr1 h) hP hD dX11_rightOnes_32
      · have h := if_f c_1 h
        refine lv_iload_n hx hb dX11_rightOnes_14 rfl (lv_at hl 1 rfl) ?_
        refine lv_aload_n hx hb dX11_rightOnes_15 rfl (lv_at hl 0 rfl) ?_
        refine va_get (v := .ref q_t_wheelPrimes) hx hb htU iU_X11 hown hK hP 0 rfl rfl 6 (by decide) (htU _ fl_X11_28) (fun _ h9 => h9) rfl dX11_rightOnes_16 ?_
        refine lv_iload_n hx hb dX11_rightOnes_19 rfl (lv_at hl 2 rfl) ?_
        obtain ⟨hi_2, h⟩ := ix_at h
        refine va_iald hx hb hK hP 2 0 rfl rfl hi_2 dX11_rightOnes_20 ?_
        refine lv_iconst (v := 1) hx hb dX11_rightOnes_21 (by decide) ?_
        refine lv_isub hx hb dX11_rightOnes_22 ?_
        refine lv_imul hx hb dX11_rightOnes_23 ?_
        refine lv_topi (fun x1_3 e_x1_3 => ?_)
        have h := nm_at e_x1_3 h
        refine lv_istore_n (lv' := [(1, .int x1_3), (0, .ref q_t), (2, .int x2)]) hx hb dX11_rightOnes_24 rfl hl (by decide) rfl (fun ls hl => ?_)
        obtain ⟨x2_4, e_x2_4⟩ : ∃ y : Int32, y = x2 + 1 := ⟨_, rfl⟩
        refine lv_iinc (v := x2_4) (lv' := [(2, .int x2_4), (1, .int x1_3), (0, .ref q_t)]) hx hb dX11_rightOnes_25 hl (k := 2) rfl (by rw [e_x2_4]; rfl) (by decide) rfl (fun ls hl => ?_)
        have h := nm_at e_x2_4 h
        refine lv_goto (tgt := 4) hx hb dX11_rightOnes_28 (by decide) ?_
        exact ih_4 x1_3 x2_4 ls H _ (lv_sub hl [2, 1, 0] rfl) hP hD hS h
  refine lv_iconst (v := 1) hx hb dX11_rightOnes_0 (by decide) ?_
  refine lv_istore_n (lv' := [(1, .int 1), (0, .ref q_t)]) hx hb dX11_rightOnes_1 rfl hl (by decide) rfl (fun ls hl => ?_)
  refine lv_iconst (v := 0) hx hb dX11_rightOnes_2 (by decide) ?_
  refine lv_istore_n (lv' := [(2, .int 0), (1, .int 1), (0, .ref q_t)]) hx hb dX11_rightOnes_3 rfl hl (by decide) rfl (fun ls hl => ?_)
  exact hL_4 FUEL 1 0 ls s.heap _ (lv_sub hl [2, 1, 0] rfl) hP hD hS h
theorem mv_X11_countMissing : sw_MV yX11_countMissing RX11 cX11_countMissing 3 (Option.some Jvm.ClassFile.FieldType.int) 0 := ⟨im_X11_countMissing, se_X11_countMissing, ini_X11, co_X11_countMissing, by decide +kernel⟩
def B_X11_countMissing_8 (t_end : Int32) (t_row : (Nat → Int32)) (t_times : (Nat → Int32)) (k_8 : Int32 → Int32 → Option (Int32)) (x1 : Int32) (x2 : Int32) : Option (Int32) :=
 (if x2 = (-1) then some x1 else nm (x1 + 1) (fun x1_4 => (F_X11_missingFrom (x2 + 1) t_end t_row t_times).bind (fun w_5 => k_8 x1_4 w_5)))
def F_X11_countMissing (t_end : Int32) (t_row : (Nat → Int32)) (t_times : (Nat → Int32)) : Option (Int32) :=
 (F_X11_missingFrom 2 t_end t_row t_times).bind (fun w_1 => fx (fun _ _ => none) (B_X11_countMissing_8 t_end t_row t_times) FUEL 0 w_1)
abbrev RM_X11_countMissing : Room := ({ frames := 5, cells := 0, slots := 0, locals := 107 } : Room)
set_option maxHeartbeats 4000000 in
set_option maxRecDepth 100000 in
theorem c_X11_countMissing (l : Launch) (G : va_G) (ca Z : Nat → Nat) (q_t : Nat) (q_t_row : Nat) (q_t_times : Nat) (q_t_wheelPrimes : Nat) (z_t_now : Value) (z_t_draft : Value) (z_t_kept : Value) (z_t_snapshot : Value) (z_t_history : Value) (z_t_accounts : Value) (z_t_undoCount : Value) (z_t_thrown : Value) (z_t_hasSnapshot : Value) (z_t_owner : Value) (z_t_ownerD : Value) (z_t_formatted : Value) (z_t_formattedLength : Value) (z_t_buffer : Value) (z_t_bufferLength : Value) (z_t_limit : Value) (z_t_nextByte : Value) (z_t_beginsAt : Value) (z_t_token : Value) (z_t_error : Value) (z_t_errorAt : Value) (z_t_errorPosition : Value) (z_t_nested : Value) (z_t_orders : Value) (z_t_orderWords : Value) (z_t_orderCount : Value) (sz : Nat) (t_end : Int32) (t_row : (Nat → Int32)) (t_times : (Nat → Int32)) (res : Int32) (hF : F_X11_countMissing t_end t_row t_times = some res) : Met l yX11_countMissing (.code yX11_countMissing cX11_countMissing 3 (Option.some Jvm.ClassFile.FieldType.int) :: sw_U) RM_X11_countMissing (va_Pc [.ref q_t] (sw_Pre G ca Z [(q_t, .inr (8, [z_t_now, z_t_draft, z_t_kept, z_t_snapshot, z_t_history, z_t_accounts, .ref q_t_wheelPrimes, .ref q_t_row, z_t_undoCount, z_t_thrown, z_t_hasSnapshot, z_t_owner, .ref q_t_times, .int t_end, z_t_ownerD, z_t_formatted, z_t_formattedLength, z_t_buffer, z_t_bufferLength, z_t_limit, z_t_nextByte, z_t_beginsAt, z_t_token, z_t_error, z_t_errorAt, z_t_errorPosition, z_t_nested, z_t_orders, z_t_orderWords, z_t_orderCount])), (q_t_row, .inl (ca 0, 45, .inl t_row)), (q_t_times, .inl (ca 0, 5300, .inl t_times)), (q_t_wheelPrimes, .inl (ca 0, 4, .inl sw_p4))] sz)) ((fun A => va_Qi (fun r (u : Unit) => res = r) (sw_Post G A (fun (u : Unit) => [(q_t, .inr (8, [z_t_now, z_t_draft, z_t_kept, z_t_snapshot, z_t_history, z_t_accounts, .ref q_t_wheelPrimes, .ref q_t_row, z_t_undoCount, z_t_thrown, z_t_hasSnapshot, z_t_owner, .ref q_t_times, .int t_end, z_t_ownerD, z_t_formatted, z_t_formattedLength, z_t_buffer, z_t_bufferLength, z_t_limit, z_t_nextByte, z_t_beginsAt, z_t_token, z_t_error, z_t_errorAt, z_t_errorPosition, z_t_nested, z_t_orders, z_t_orderWords, z_t_orderCount])), (q_t_row, .inl (ca 0, 45, .inl t_row)), (q_t_times, .inl (ca 0, 5300, .inl t_times)), (q_t_wheelPrimes, .inl (ca 0, 4, .inl sw_p4))])) A) (va_A [(q_t, .inr (8, [z_t_now, z_t_draft, z_t_kept, z_t_snapshot, z_t_history, z_t_accounts, .ref q_t_wheelPrimes, .ref q_t_row, z_t_undoCount, z_t_thrown, z_t_hasSnapshot, z_t_owner, .ref q_t_times, .int t_end, z_t_ownerD, z_t_formatted, z_t_formattedLength, z_t_buffer, z_t_bufferLength, z_t_limit, z_t_nextByte, z_t_beginsAt, z_t_token, z_t_error, z_t_errorAt, z_t_errorPosition, z_t_nested, z_t_orders, z_t_orderWords, z_t_orderCount])), (q_t_row, .inl (ca 0, 45, .inl t_row)), (q_t_times, .inl (ca 0, 5300, .inl t_times)), (q_t_wheelPrimes, .inl (ca 0, 4, .inl sw_p4))] sz)) 0 0 (va_A [(q_t, .inr (8, [z_t_now, z_t_draft, z_t_kept, z_t_snapshot, z_t_history, z_t_accounts, .ref q_t_wheelPrimes, .ref q_t_row, z_t_undoCount, z_t_thrown, z_t_hasSnapshot, z_t_owner, .ref q_t_times, .int t_end, z_t_ownerD, z_t_formatted, z_t_formattedLength, z_t_buffer, z_t_bufferLength, z_t_limit, z_t_nextByte, z_t_beginsAt, z_t_token, z_t_error, z_t_errorAt, z_t_errorPosition, z_t_nested, z_t_orders, z_t_orderWords, z_t_orderCount])), (q_t_row, .inl (ca 0, 45, .inl t_row)), (q_t_times, .inl (ca 0, 5300, .inl t_times)), (q_t_wheelPrimes, .inl (ca 0, 4, .inl sw_p4))] sz) := by
  refine sw_ofW (Qc := fun A => va_Qi (fun r (u : Unit) => res = r) (sw_Post G A (fun (u : Unit) => [(q_t, .inr (8, [z_t_now, z_t_draft, z_t_kept, z_t_snapshot, z_t_history, z_t_accounts, .ref q_t_wheelPrimes, .ref q_t_row, z_t_undoCount, z_t_thrown, z_t_hasSnapshot, z_t_owner, .ref q_t_times, .int t_end, z_t_ownerD, z_t_formatted, z_t_formattedLength, z_t_buffer, z_t_bufferLength, z_t_limit, z_t_nextByte, z_t_beginsAt, z_t_token, z_t_error, z_t_errorAt, z_t_errorPosition, z_t_nested, z_t_orders, z_t_orderWords, z_t_orderCount])), (q_t_row, .inl (ca 0, 45, .inl t_row)), (q_t_times, .inl (ca 0, 5300, .inl t_times)), (q_t_wheelPrimes, .inl (ca 0, 4, .inl sw_p4))])) A) (by decide) [(0, .ref q_t)] rfl (Nat.le_of_ble_eq_true rfl) ?_
  intro p e s m args below meth c ls A hx hb hr hml hown htU hlocks hnm hP hK hD hX hY hS hA hl
  have hown : s.vm.findClass RX11 = some m.cls := hown
  have Cx : sw_Cx p s m args c cX11_countMissing 3 RX11 G ca Z A := ⟨⟨hx, hb, hml, hown, htU⟩, hK, hX, hY, hA⟩
  have h := hF
  unfold F_X11_countMissing at h
  have hL_8 : ∀ (n_8 : Nat) (x1 : Int32) (x2 : Int32) (ls : Array Slot) (H : Heap) (locs : List Loc), lv_has ls 3 [(0, .ref q_t), (1, .int x1), (2, .int x2)] → va_P G vwCl [(q_t, .inr (8, [z_t_now, z_t_draft, z_t_kept, z_t_snapshot, z_t_history, z_t_accounts, .ref q_t_wheelPrimes, .ref q_t_row, z_t_undoCount, z_t_thrown, z_t_hasSnapshot, z_t_owner, .ref q_t_times, .int t_end, z_t_ownerD, z_t_formatted, z_t_formattedLength, z_t_buffer, z_t_bufferLength, z_t_limit, z_t_nextByte, z_t_beginsAt, z_t_token, z_t_error, z_t_errorAt, z_t_errorPosition, z_t_nested, z_t_orders, z_t_orderWords, z_t_orderCount])), (q_t_row, .inl (ca 0, 45, .inl t_row)), (q_t_times, .inl (ca 0, 5300, .inl t_times)), (q_t_wheelPrimes, .inl (ca 0, 4, .inl sw_p4))] H → va_D A [(q_t, .inr (8, [z_t_now, z_t_draft, z_t_kept, z_t_snapshot, z_t_history, z_t_accounts, .ref q_t_wheelPrimes, .ref q_t_row, z_t_undoCount, z_t_thrown, z_t_hasSnapshot, z_t_owner, .ref q_t_times, .int t_end, z_t_ownerD, z_t_formatted, z_t_formattedLength, z_t_buffer, z_t_bufferLength, z_t_limit, z_t_nextByte, z_t_beginsAt, z_t_token, z_t_error, z_t_errorAt, z_t_errorPosition, z_t_nested, z_t_orders, z_t_orderWords, z_t_orderCount])), (q_t_row, .inl (ca 0, 45, .inl t_row)), (q_t_times, .inl (ca 0, 5300, .inl t_times)), (q_t_wheelPrimes, .inl (ca 0, 4, .inl sw_p4))] → va_S A s.heap H locs → fx (fun _ _ => none) (B_X11_countMissing_8 t_end t_row t_times) n_8 x1 x2 = some res → W p l e RM_X11_countMissing s m args below meth c H locs 0 0 (MQ below ((fun A => va_Qi (fun r (u : Unit) => res = r) (sw_Post G A (fun (u : Unit) => [(q_t, .inr (8, [z_t_now, z_t_draft, z_t_kept, z_t_snapshot, z_t_history, z_t_accounts, .ref q_t_wheelPrimes, .ref q_t_row, z_t_undoCount, z_t_thrown, z_t_hasSnapshot, z_t_owner, .ref q_t_times, .int t_end, z_t_ownerD, z_t_formatted, z_t_formattedLength, z_t_buffer, z_t_bufferLength, z_t_limit, z_t_nextByte, z_t_beginsAt, z_t_token, z_t_error, z_t_errorAt, z_t_errorPosition, z_t_nested, z_t_orders, z_t_orderWords, z_t_orderCount])), (q_t_row, .inl (ca 0, 45, .inl t_row)), (q_t_times, .inl (ca 0, 5300, .inl t_times)), (q_t_wheelPrimes, .inl (ca 0, 4, .inl sw_p4))])) A) A) args s 0 0 A) (F0 m 8 ls []) := by
    intro n_8
    induction n_8 with
    | zero => intro x1 x2 ls H locs hl hP hD hS h; exact no_at h
    | succ n_8 ih_8 =>
      intro x1 x2 ls H locs hl hP hD hS h
      rw [fx_s] at h
      unfold B_X11_countMissing_8 at h
      refine lv_iload_n hx hb dX11_countMissing_8 rfl (lv_at hl 2 rfl) ?_
      refine lv_iconst (v := (-1)) hx hb dX11_countMissing_9 (by decide) ?_
      refine lv_icmp_eq (tgt := 27) hx hb dX11_countMissing_10 (by decide) (fun c_3 => ?_) (fun c_3 => ?_)
      · have h := if_t c_3 h
        refine lv_iload_n hx hb dX11_countMissing_27 rfl (lv_at hl 1 rfl) ?_
        exact sw_ri hx hb hr hlocks hS () (pr1 h) hP hD dX11_countMissing_28
      · have h := if_f c_3 h
        obtain ⟨x1_4, e_x1_4⟩ : ∃ y : Int32, y = x1 + 1 := ⟨_, rfl⟩
        refine lv_iinc (v := x1_4) (lv' := [(1, .int x1_4), (0, .ref q_t), (2, .int x2)]) hx hb dX11_countMissing_13 hl (k := 1) rfl (by rw [e_x1_4]; rfl) (by decide) rfl (fun ls hl => ?_)
        have h := nm_at e_x1_4 h
        refine lv_aload_n hx hb dX11_countMissing_16 rfl (lv_at hl 1 rfl) ?_
        refine lv_iload_n hx hb dX11_countMissing_17 rfl (lv_at hl 2 rfl) ?_
        refine lv_iconst (v := 1) hx hb dX11_countMissing_18 (by decide) ?_
        refine lv_iadd hx hb dX11_countMissing_19 ?_
        obtain ⟨w_5, hg_6, h⟩ := bd_at h
        refine sw_ci (sw_runV (As := [.int (x2 + 1)]) (rest := []) Cx hP hD hS mv_X11_missingFrom ml_X11_119 (c_X11_missingFrom l G ca Z q_t q_t_row q_t_times q_t_wheelPrimes (z_t_now) (z_t_draft) (z_t_kept) (z_t_snapshot) (z_t_history) (z_t_accounts) (z_t_undoCount) (z_t_thrown) (z_t_hasSnapshot) (z_t_owner) (z_t_ownerD) (z_t_formatted) (z_t_formattedLength) (z_t_buffer) (z_t_bufferLength) (z_t_limit) (z_t_nextByte) (z_t_beginsAt) (z_t_token) (z_t_error) (z_t_errorAt) (z_t_errorPosition) (z_t_nested) (z_t_orders) (z_t_orderWords) (z_t_orderCount) H.size (x2 + 1) t_end t_row t_times w_5 hg_6) 8 rfl rfl rfl [0, 1, 2, 3] rfl rfl rfl rfl ⟨(Nat.le_of_ble_eq_true rfl), (Nat.le_of_ble_eq_true rfl)⟩ hl.1 rfl rfl (Nat.le_of_ble_eq_true rfl) dX11_countMissing_20 ⟨(Nat.le_of_ble_eq_true rfl), (Nat.le_of_ble_eq_true rfl)⟩) hP hD hS hA [0, 1, 2, 3] [] [0, 1, 2, 3] rfl rfl rfl (by decide) (fun _ => rfl) rfl (fun r u H locs hw hP hD hS => ?_)
        subst hw
        have hP : va_P G vwCl [(q_t, .inr (8, [z_t_now, z_t_draft, z_t_kept, z_t_snapshot, z_t_history, z_t_accounts, .ref q_t_wheelPrimes, .ref q_t_row, z_t_undoCount, z_t_thrown, z_t_hasSnapshot, z_t_owner, .ref q_t_times, .int t_end, z_t_ownerD, z_t_formatted, z_t_formattedLength, z_t_buffer, z_t_bufferLength, z_t_limit, z_t_nextByte, z_t_beginsAt, z_t_token, z_t_error, z_t_errorAt, z_t_errorPosition, z_t_nested, z_t_orders, z_t_orderWords, z_t_orderCount])), (q_t_row, .inl (ca 0, 45, .inl t_row)), (q_t_times, .inl (ca 0, 5300, .inl t_times)), (q_t_wheelPrimes, .inl (ca 0, 4, .inl sw_p4))] H := hP
        have hD : va_D A [(q_t, .inr (8, [z_t_now, z_t_draft, z_t_kept, z_t_snapshot, z_t_history, z_t_accounts, .ref q_t_wheelPrimes, .ref q_t_row, z_t_undoCount, z_t_thrown, z_t_hasSnapshot, z_t_owner, .ref q_t_times, .int t_end, z_t_ownerD, z_t_formatted, z_t_formattedLength, z_t_buffer, z_t_bufferLength, z_t_limit, z_t_nextByte, z_t_beginsAt, z_t_token, z_t_error, z_t_errorAt, z_t_errorPosition, z_t_nested, z_t_orders, z_t_orderWords, z_t_orderCount])), (q_t_row, .inl (ca 0, 45, .inl t_row)), (q_t_times, .inl (ca 0, 5300, .inl t_times)), (q_t_wheelPrimes, .inl (ca 0, 4, .inl sw_p4))] := hD
        refine lv_istore_n (lv' := [(2, .int w_5), (1, .int x1_4), (0, .ref q_t)]) hx hb dX11_countMissing_23 rfl hl (by decide) rfl (fun ls hl => ?_)
        refine lv_goto (tgt := 8) hx hb dX11_countMissing_24 (by decide) ?_
        exact ih_8 x1_4 w_5 ls H _ (lv_sub hl [2, 1, 0] rfl) hP hD hS h
  refine lv_iconst (v := 0) hx hb dX11_countMissing_0 (by decide) ?_
  refine lv_istore_n (lv' := [(1, .int 0), (0, .ref q_t)]) hx hb dX11_countMissing_1 rfl hl (by decide) rfl (fun ls hl => ?_)
  refine lv_aload_n hx hb dX11_countMissing_2 rfl (lv_at hl 1 rfl) ?_
  refine lv_iconst (v := 2) hx hb dX11_countMissing_3 (by decide) ?_
  obtain ⟨w_1, hg_2, h⟩ := bd_at h
  refine sw_ci (sw_runV (As := [.int 2]) (rest := []) Cx hP hD hS mv_X11_missingFrom ml_X11_119 (c_X11_missingFrom l G ca Z q_t q_t_row q_t_times q_t_wheelPrimes (z_t_now) (z_t_draft) (z_t_kept) (z_t_snapshot) (z_t_history) (z_t_accounts) (z_t_undoCount) (z_t_thrown) (z_t_hasSnapshot) (z_t_owner) (z_t_ownerD) (z_t_formatted) (z_t_formattedLength) (z_t_buffer) (z_t_bufferLength) (z_t_limit) (z_t_nextByte) (z_t_beginsAt) (z_t_token) (z_t_error) (z_t_errorAt) (z_t_errorPosition) (z_t_nested) (z_t_orders) (z_t_orderWords) (z_t_orderCount) s.heap.size 2 t_end t_row t_times w_1 hg_2) 8 rfl rfl rfl [0, 1, 2, 3] rfl rfl rfl rfl ⟨(Nat.le_of_ble_eq_true rfl), (Nat.le_of_ble_eq_true rfl)⟩ hl.1 rfl rfl (Nat.le_of_ble_eq_true rfl) dX11_countMissing_4 ⟨(Nat.le_of_ble_eq_true rfl), (Nat.le_of_ble_eq_true rfl)⟩) hP hD hS hA [0, 1, 2, 3] [] [0, 1, 2, 3] rfl rfl rfl (by decide) (fun _ => rfl) rfl (fun r u H locs hw hP hD hS => ?_)
  subst hw
  have hP : va_P G vwCl [(q_t, .inr (8, [z_t_now, z_t_draft, z_t_kept, z_t_snapshot, z_t_history, z_t_accounts, .ref q_t_wheelPrimes, .ref q_t_row, z_t_undoCount, z_t_thrown, z_t_hasSnapshot, z_t_owner, .ref q_t_times, .int t_end, z_t_ownerD, z_t_formatted, z_t_formattedLength, z_t_buffer, z_t_bufferLength, z_t_limit, z_t_nextByte, z_t_beginsAt, z_t_token, z_t_error, z_t_errorAt, z_t_errorPosition, z_t_nested, z_t_orders, z_t_orderWords, z_t_orderCount])), (q_t_row, .inl (ca 0, 45, .inl t_row)), (q_t_times, .inl (ca 0, 5300, .inl t_times)), (q_t_wheelPrimes, .inl (ca 0, 4, .inl sw_p4))] H := hP
  have hD : va_D A [(q_t, .inr (8, [z_t_now, z_t_draft, z_t_kept, z_t_snapshot, z_t_history, z_t_accounts, .ref q_t_wheelPrimes, .ref q_t_row, z_t_undoCount, z_t_thrown, z_t_hasSnapshot, z_t_owner, .ref q_t_times, .int t_end, z_t_ownerD, z_t_formatted, z_t_formattedLength, z_t_buffer, z_t_bufferLength, z_t_limit, z_t_nextByte, z_t_beginsAt, z_t_token, z_t_error, z_t_errorAt, z_t_errorPosition, z_t_nested, z_t_orders, z_t_orderWords, z_t_orderCount])), (q_t_row, .inl (ca 0, 45, .inl t_row)), (q_t_times, .inl (ca 0, 5300, .inl t_times)), (q_t_wheelPrimes, .inl (ca 0, 4, .inl sw_p4))] := hD
  refine lv_istore_n (lv' := [(2, .int w_1), (1, .int 0), (0, .ref q_t)]) hx hb dX11_countMissing_7 rfl hl (by decide) rfl (fun ls hl => ?_)
  exact hL_8 FUEL 0 w_1 ls H _ (lv_sub hl [2, 1, 0] rfl) hP hD hS h
theorem mv_X11_countIdle : sw_MV yX11_countIdle RX11 cX11_countIdle 3 (Option.some Jvm.ClassFile.FieldType.int) 0 := ⟨im_X11_countIdle, se_X11_countIdle, ini_X11, co_X11_countIdle, by decide +kernel⟩
def B_X11_countIdle_4 (t_end : Int32) (t_owner : (Nat → Int32)) (t_row : (Nat → Int32)) (k_4 : Int32 → Int32 → Option (Int32)) (x1 : Int32) (x2 : Int32) : Option (Int32) :=
 (if (t_row 14) ≤ x2 then some x1 else (F_X11_ownedBy x2 t_end t_owner).bind (fun w_2 => (if w_2 = 0 then nm ((x1 + 1)) (fun x1_7 => nm (x2 + 1) (fun x2_8 => k_4 x1_7 x2_8)) else nm ((x1 + 0)) (fun x1_5 => nm (x2 + 1) (fun x2_6 => k_4 x1_5 x2_6)))))
def F_X11_countIdle (t_end : Int32) (t_owner : (Nat → Int32)) (t_row : (Nat → Int32)) : Option (Int32) :=
 fx (fun _ _ => none) (B_X11_countIdle_4 t_end t_owner t_row) FUEL 0 0
abbrev RM_X11_countIdle : Room := ({ frames := 1, cells := 0, slots := 0, locals := 23 } : Room)
set_option maxHeartbeats 4000000 in
set_option maxRecDepth 100000 in
theorem c_X11_countIdle (l : Launch) (G : va_G) (ca Z : Nat → Nat) (q_t : Nat) (q_t_owner : Nat) (q_t_row : Nat) (z_t_now : Value) (z_t_draft : Value) (z_t_kept : Value) (z_t_snapshot : Value) (z_t_history : Value) (z_t_accounts : Value) (z_t_wheelPrimes : Value) (z_t_undoCount : Value) (z_t_thrown : Value) (z_t_hasSnapshot : Value) (z_t_times : Value) (z_t_ownerD : Value) (z_t_formatted : Value) (z_t_formattedLength : Value) (z_t_buffer : Value) (z_t_bufferLength : Value) (z_t_limit : Value) (z_t_nextByte : Value) (z_t_beginsAt : Value) (z_t_token : Value) (z_t_error : Value) (z_t_errorAt : Value) (z_t_errorPosition : Value) (z_t_nested : Value) (z_t_orders : Value) (z_t_orderWords : Value) (z_t_orderCount : Value) (sz : Nat) (t_end : Int32) (t_owner : (Nat → Int32)) (t_row : (Nat → Int32)) (res : Int32) (hF : F_X11_countIdle t_end t_owner t_row = some res) : Met l yX11_countIdle (.code yX11_countIdle cX11_countIdle 3 (Option.some Jvm.ClassFile.FieldType.int) :: sw_U) RM_X11_countIdle (va_Pc [.ref q_t] (sw_Pre G ca Z [(q_t, .inr (8, [z_t_now, z_t_draft, z_t_kept, z_t_snapshot, z_t_history, z_t_accounts, z_t_wheelPrimes, .ref q_t_row, z_t_undoCount, z_t_thrown, z_t_hasSnapshot, .ref q_t_owner, z_t_times, .int t_end, z_t_ownerD, z_t_formatted, z_t_formattedLength, z_t_buffer, z_t_bufferLength, z_t_limit, z_t_nextByte, z_t_beginsAt, z_t_token, z_t_error, z_t_errorAt, z_t_errorPosition, z_t_nested, z_t_orders, z_t_orderWords, z_t_orderCount])), (q_t_owner, .inl (ca 0, 5300, .inl t_owner)), (q_t_row, .inl (ca 0, 45, .inl t_row))] sz)) ((fun A => va_Qi (fun r (u : Unit) => res = r) (sw_Post G A (fun (u : Unit) => [(q_t, .inr (8, [z_t_now, z_t_draft, z_t_kept, z_t_snapshot, z_t_history, z_t_accounts, z_t_wheelPrimes, .ref q_t_row, z_t_undoCount, z_t_thrown, z_t_hasSnapshot, .ref q_t_owner, z_t_times, .int t_end, z_t_ownerD, z_t_formatted, z_t_formattedLength, z_t_buffer, z_t_bufferLength, z_t_limit, z_t_nextByte, z_t_beginsAt, z_t_token, z_t_error, z_t_errorAt, z_t_errorPosition, z_t_nested, z_t_orders, z_t_orderWords, z_t_orderCount])), (q_t_owner, .inl (ca 0, 5300, .inl t_owner)), (q_t_row, .inl (ca 0, 45, .inl t_row))])) A) (va_A [(q_t, .inr (8, [z_t_now, z_t_draft, z_t_kept, z_t_snapshot, z_t_history, z_t_accounts, z_t_wheelPrimes, .ref q_t_row, z_t_undoCount, z_t_thrown, z_t_hasSnapshot, .ref q_t_owner, z_t_times, .int t_end, z_t_ownerD, z_t_formatted, z_t_formattedLength, z_t_buffer, z_t_bufferLength, z_t_limit, z_t_nextByte, z_t_beginsAt, z_t_token, z_t_error, z_t_errorAt, z_t_errorPosition, z_t_nested, z_t_orders, z_t_orderWords, z_t_orderCount])), (q_t_owner, .inl (ca 0, 5300, .inl t_owner)), (q_t_row, .inl (ca 0, 45, .inl t_row))] sz)) 0 0 (va_A [(q_t, .inr (8, [z_t_now, z_t_draft, z_t_kept, z_t_snapshot, z_t_history, z_t_accounts, z_t_wheelPrimes, .ref q_t_row, z_t_undoCount, z_t_thrown, z_t_hasSnapshot, .ref q_t_owner, z_t_times, .int t_end, z_t_ownerD, z_t_formatted, z_t_formattedLength, z_t_buffer, z_t_bufferLength, z_t_limit, z_t_nextByte, z_t_beginsAt, z_t_token, z_t_error, z_t_errorAt, z_t_errorPosition, z_t_nested, z_t_orders, z_t_orderWords, z_t_orderCount])), (q_t_owner, .inl (ca 0, 5300, .inl t_owner)), (q_t_row, .inl (ca 0, 45, .inl t_row))] sz) := by
  refine sw_ofW (Qc := fun A => va_Qi (fun r (u : Unit) => res = r) (sw_Post G A (fun (u : Unit) => [(q_t, .inr (8, [z_t_now, z_t_draft, z_t_kept, z_t_snapshot, z_t_history, z_t_accounts, z_t_wheelPrimes, .ref q_t_row, z_t_undoCount, z_t_thrown, z_t_hasSnapshot, .ref q_t_owner, z_t_times, .int t_end, z_t_ownerD, z_t_formatted, z_t_formattedLength, z_t_buffer, z_t_bufferLength, z_t_limit, z_t_nextByte, z_t_beginsAt, z_t_token, z_t_error, z_t_errorAt, z_t_errorPosition, z_t_nested, z_t_orders, z_t_orderWords, z_t_orderCount])), (q_t_owner, .inl (ca 0, 5300, .inl t_owner)), (q_t_row, .inl (ca 0, 45, .inl t_row))])) A) (by decide) [(0, .ref q_t)] rfl (Nat.le_of_ble_eq_true rfl) ?_
  intro p e s m args below meth c ls A hx hb hr hml hown htU hlocks hnm hP hK hD hX hY hS hA hl
  have hown : s.vm.findClass RX11 = some m.cls := hown
  have Cx : sw_Cx p s m args c cX11_countIdle 3 RX11 G ca Z A := ⟨⟨hx, hb, hml, hown, htU⟩, hK, hX, hY, hA⟩
  have h := hF
  unfold F_X11_countIdle at h
  have hL_4 : ∀ (n_4 : Nat) (x1 : Int32) (x2 : Int32) (ls : Array Slot) (H : Heap) (locs : List Loc), lv_has ls 3 [(0, .ref q_t), (1, .int x1), (2, .int x2)] → va_P G vwCl [(q_t, .inr (8, [z_t_now, z_t_draft, z_t_kept, z_t_snapshot, z_t_history, z_t_accounts, z_t_wheelPrimes, .ref q_t_row, z_t_undoCount, z_t_thrown, z_t_hasSnapshot, .ref q_t_owner, z_t_times, .int t_end, z_t_ownerD, z_t_formatted, z_t_formattedLength, z_t_buffer, z_t_bufferLength, z_t_limit, z_t_nextByte, z_t_beginsAt, z_t_token, z_t_error, z_t_errorAt, z_t_errorPosition, z_t_nested, z_t_orders, z_t_orderWords, z_t_orderCount])), (q_t_owner, .inl (ca 0, 5300, .inl t_owner)), (q_t_row, .inl (ca 0, 45, .inl t_row))] H → va_D A [(q_t, .inr (8, [z_t_now, z_t_draft, z_t_kept, z_t_snapshot, z_t_history, z_t_accounts, z_t_wheelPrimes, .ref q_t_row, z_t_undoCount, z_t_thrown, z_t_hasSnapshot, .ref q_t_owner, z_t_times, .int t_end, z_t_ownerD, z_t_formatted, z_t_formattedLength, z_t_buffer, z_t_bufferLength, z_t_limit, z_t_nextByte, z_t_beginsAt, z_t_token, z_t_error, z_t_errorAt, z_t_errorPosition, z_t_nested, z_t_orders, z_t_orderWords, z_t_orderCount])), (q_t_owner, .inl (ca 0, 5300, .inl t_owner)), (q_t_row, .inl (ca 0, 45, .inl t_row))] → va_S A s.heap H locs → fx (fun _ _ => none) (B_X11_countIdle_4 t_end t_owner t_row) n_4 x1 x2 = some res → W p l e RM_X11_countIdle s m args below meth c H locs 0 0 (MQ below ((fun A => va_Qi (fun r (u : Unit) => res = r) (sw_Post G A (fun (u : Unit) => [(q_t, .inr (8, [z_t_now, z_t_draft, z_t_kept, z_t_snapshot, z_t_history, z_t_accounts, z_t_wheelPrimes, .ref q_t_row, z_t_undoCount, z_t_thrown, z_t_hasSnapshot, .ref q_t_owner, z_t_times, .int t_end, z_t_ownerD, z_t_formatted, z_t_formattedLength, z_t_buffer, z_t_bufferLength, z_t_limit, z_t_nextByte, z_t_beginsAt, z_t_token, z_t_error, z_t_errorAt, z_t_errorPosition, z_t_nested, z_t_orders, z_t_orderWords, z_t_orderCount])), (q_t_owner, .inl (ca 0, 5300, .inl t_owner)), (q_t_row, .inl (ca 0, 45, .inl t_row))])) A) A) args s 0 0 A) (F0 m 4 ls []) := by
    intro n_4
    induction n_4 with
    | zero => intro x1 x2 ls H locs hl hP hD hS h; exact no_at h
    | succ n_4 ih_4 =>
      intro x1 x2 ls H locs hl hP hD hS h
      rw [fx_s] at h
      unfold B_X11_countIdle_4 at h
      refine lv_iload_n hx hb dX11_countIdle_4 rfl (lv_at hl 2 rfl) ?_
      refine lv_aload_n hx hb dX11_countIdle_5 rfl (lv_at hl 0 rfl) ?_
      refine va_get (v := .ref q_t_row) hx hb htU iU_X11 hown hK hP 0 rfl rfl 7 (by decide) (htU _ fl_X11_31) (fun _ h9 => h9) rfl dX11_countIdle_6 ?_
      refine lv_bipush (v := 14) hx hb dX11_countIdle_9 (by decide) ?_
      refine sw_iald0 hx hb hK hP 2 0 rfl rfl 14 rfl (sw_vin (by decide)) dX11_countIdle_11 ?_
      refine lv_icmp_ge (tgt := 37) hx hb dX11_countIdle_12 (by decide) (fun c_1 => ?_) (fun c_1 => ?_)
      · have h := if_t c_1 h
        refine lv_iload_n hx hb dX11_countIdle_37 rfl (lv_at hl 1 rfl) ?_
        exact sw_ri hx hb hr hlocks hS () (pr1 h) hP hD dX11_countIdle_38
      · have h := if_f c_1 h
        refine lv_iload_n hx hb dX11_countIdle_15 rfl (lv_at hl 1 rfl) ?_
        refine lv_aload_n hx hb dX11_countIdle_16 rfl (lv_at hl 0 rfl) ?_
        refine lv_iload_n hx hb dX11_countIdle_17 rfl (lv_at hl 2 rfl) ?_
        obtain ⟨w_2, hg_3, h⟩ := bd_at h
        refine sw_ci (sw_runV (As := [.int x2]) (rest := [.int x1]) Cx hP hD hS mv_X11_ownedBy ml_X11_122 (c_X11_ownedBy l G ca Z q_t q_t_owner (z_t_now) (z_t_draft) (z_t_kept) (z_t_snapshot) (z_t_history) (z_t_accounts) (z_t_wheelPrimes) (.ref q_t_row) (z_t_undoCount) (z_t_thrown) (z_t_hasSnapshot) (z_t_times) (z_t_ownerD) (z_t_formatted) (z_t_formattedLength) (z_t_buffer) (z_t_bufferLength) (z_t_limit) (z_t_nextByte) (z_t_beginsAt) (z_t_token) (z_t_error) (z_t_errorAt) (z_t_errorPosition) (z_t_nested) (z_t_orders) (z_t_orderWords) (z_t_orderCount) H.size x2 t_end t_owner w_2 hg_3) 8 rfl rfl rfl [0, 1] rfl rfl rfl rfl ⟨(Nat.le_of_ble_eq_true rfl), (Nat.le_of_ble_eq_true rfl)⟩ hl.1 rfl rfl (Nat.le_of_ble_eq_true rfl) dX11_countIdle_18 ⟨(Nat.le_of_ble_eq_true rfl), (Nat.le_of_ble_eq_true rfl)⟩) hP hD hS hA [0, 1] [2] [1, 2, 0] rfl rfl rfl (by decide) (fun _ => rfl) rfl (fun r u H locs hw hP hD hS => ?_)
        subst hw
        have hP : va_P G vwCl [(q_t, .inr (8, [z_t_now, z_t_draft, z_t_kept, z_t_snapshot, z_t_history, z_t_accounts, z_t_wheelPrimes, .ref q_t_row, z_t_undoCount, z_t_thrown, z_t_hasSnapshot, .ref q_t_owner, z_t_times, .int t_end, z_t_ownerD, z_t_formatted, z_t_formattedLength, z_t_buffer, z_t_bufferLength, z_t_limit, z_t_nextByte, z_t_beginsAt, z_t_token, z_t_error, z_t_errorAt, z_t_errorPosition, z_t_nested, z_t_orders, z_t_orderWords, z_t_orderCount])), (q_t_owner, .inl (ca 0, 5300, .inl t_owner)), (q_t_row, .inl (ca 0, 45, .inl t_row))] H := hP
        have hD : va_D A [(q_t, .inr (8, [z_t_now, z_t_draft, z_t_kept, z_t_snapshot, z_t_history, z_t_accounts, z_t_wheelPrimes, .ref q_t_row, z_t_undoCount, z_t_thrown, z_t_hasSnapshot, .ref q_t_owner, z_t_times, .int t_end, z_t_ownerD, z_t_formatted, z_t_formattedLength, z_t_buffer, z_t_bufferLength, z_t_limit, z_t_nextByte, z_t_beginsAt, z_t_token, z_t_error, z_t_errorAt, z_t_errorPosition, z_t_nested, z_t_orders, z_t_orderWords, z_t_orderCount])), (q_t_owner, .inl (ca 0, 5300, .inl t_owner)), (q_t_row, .inl (ca 0, 45, .inl t_row))] := hD
        refine lv_if_ne (tgt := 28) hx hb dX11_countIdle_21 (by decide) (fun c_4 => ?_) (fun c_4 => ?_)
        · have h := if_f c_4 h
          refine lv_iconst (v := 0) hx hb dX11_countIdle_28 (by decide) ?_
          refine lv_iadd hx hb dX11_countIdle_29 ?_
          refine lv_topi (fun x1_5 e_x1_5 => ?_)
          have h := nm_at e_x1_5 h
          refine lv_istore_n (lv' := [(1, .int x1_5), (0, .ref q_t), (2, .int x2)]) hx hb dX11_countIdle_30 rfl hl (by decide) rfl (fun ls hl => ?_)
          obtain ⟨x2_6, e_x2_6⟩ : ∃ y : Int32, y = x2 + 1 := ⟨_, rfl⟩
          refine lv_iinc (v := x2_6) (lv' := [(2, .int x2_6), (1, .int x1_5), (0, .ref q_t)]) hx hb dX11_countIdle_31 hl (k := 2) rfl (by rw [e_x2_6]; rfl) (by decide) rfl (fun ls hl => ?_)
          have h := nm_at e_x2_6 h
          refine lv_goto (tgt := 4) hx hb dX11_countIdle_34 (by decide) ?_
          exact ih_4 x1_5 x2_6 ls H _ (lv_sub hl [2, 1, 0] rfl) hP hD hS h
        · have h := if_t c_4 h
          refine lv_iconst (v := 1) hx hb dX11_countIdle_24 (by decide) ?_
          refine lv_goto (tgt := 29) hx hb dX11_countIdle_25 (by decide) ?_
          refine lv_iadd hx hb dX11_countIdle_29 ?_
          refine lv_topi (fun x1_7 e_x1_7 => ?_)
          have h := nm_at e_x1_7 h
          refine lv_istore_n (lv' := [(1, .int x1_7), (0, .ref q_t), (2, .int x2)]) hx hb dX11_countIdle_30 rfl hl (by decide) rfl (fun ls hl => ?_)
          obtain ⟨x2_8, e_x2_8⟩ : ∃ y : Int32, y = x2 + 1 := ⟨_, rfl⟩
          refine lv_iinc (v := x2_8) (lv' := [(2, .int x2_8), (1, .int x1_7), (0, .ref q_t)]) hx hb dX11_countIdle_31 hl (k := 2) rfl (by rw [e_x2_8]; rfl) (by decide) rfl (fun ls hl => ?_)
          have h := nm_at e_x2_8 h
          refine lv_goto (tgt := 4) hx hb dX11_countIdle_34 (by decide) ?_
          exact ih_4 x1_7 x2_8 ls H _ (lv_sub hl [2, 1, 0] rfl) hP hD hS h
  refine lv_iconst (v := 0) hx hb dX11_countIdle_0 (by decide) ?_
  refine lv_istore_n (lv' := [(1, .int 0), (0, .ref q_t)]) hx hb dX11_countIdle_1 rfl hl (by decide) rfl (fun ls hl => ?_)
  refine lv_iconst (v := 0) hx hb dX11_countIdle_2 (by decide) ?_
  refine lv_istore_n (lv' := [(2, .int 0), (1, .int 0), (0, .ref q_t)]) hx hb dX11_countIdle_3 rfl hl (by decide) rfl (fun ls hl => ?_)
  exact hL_4 FUEL 0 0 ls s.heap _ (lv_sub hl [2, 1, 0] rfl) hP hD hS h
theorem mv_X11_size : sw_MV yX11_size RX11 cX11_size 2 (Option.some Jvm.ClassFile.FieldType.int) 1 := ⟨im_X11_size, se_X11_size, ini_X11, co_X11_size, by decide +kernel⟩
def F_X11_size (x1 : Int32) (t_end : Int32) (t_owner : (Nat → Int32)) (t_row : (Nat → Int32)) (t_thrown : Int32) (t_times : (Nat → Int32)) : Option (Int32 × (Int32 × (Nat → Int32) × Int32 × (Nat → Int32))) :=
 (F_X11_inRange x1 0 9).bind (fun w_1 => (F_X11_lacks w_1 t_thrown).bind (fun w_3 => (if w_3.1 = true then some (0, (t_end, t_owner, w_3.2, t_times)) else (F_X11_strike t_end t_owner t_row t_times).bind (fun w_6 => (if x1 = 0 then some ((t_row 0), (w_6.1, w_6.2.1, w_3.2, w_6.2.2)) else (if x1 = 1 then some ((t_row 1), (w_6.1, w_6.2.1, w_3.2, w_6.2.2)) else (if x1 = 2 then some (w_6.1, (w_6.1, w_6.2.1, w_3.2, w_6.2.2)) else (if x1 = 3 then some ((t_row 14), (w_6.1, w_6.2.1, w_3.2, w_6.2.2)) else (if x1 = 4 then (F_X11_marksIn 2 w_6.1 w_6.1 t_row w_6.2.2).bind (fun w_8 => some (w_8, (w_6.1, w_6.2.1, w_3.2, w_6.2.2))) else (if x1 = 5 then (F_X11_spokesIn 2 w_6.1 t_row).bind (fun w_10 => some (w_10, (w_6.1, w_6.2.1, w_3.2, w_6.2.2))) else (if x1 = 6 then (F_X11_product t_row).bind (fun w_12 => some (w_12, (w_6.1, w_6.2.1, w_3.2, w_6.2.2))) else (if x1 = 7 then (F_X11_rightOnes t_row).bind (fun w_14 => some (w_14, (w_6.1, w_6.2.1, w_3.2, w_6.2.2))) else (if x1 = 8 then (F_X11_countMissing w_6.1 t_row w_6.2.2).bind (fun w_16 => some (w_16, (w_6.1, w_6.2.1, w_3.2, w_6.2.2))) else (F_X11_countIdle w_6.1 w_6.2.1 t_row).bind (fun w_18 => some (w_18, (w_6.1, w_6.2.1, w_3.2, w_6.2.2))))))))))))))))
abbrev RM_X11_size : Room := ({ frames := 6, cells := 0, slots := 0, locals := 129 } : Room)
set_option maxHeartbeats 4000000 in
set_option maxRecDepth 100000 in
theorem c_X11_size (l : Launch) (G : va_G) (ca Z : Nat → Nat) (q_t : Nat) (q_t_owner : Nat) (q_t_row : Nat) (q_t_times : Nat) (q_t_wheelPrimes : Nat) (z_t_now : Value) (z_t_draft : Value) (z_t_kept : Value) (z_t_snapshot : Value) (z_t_history : Value) (z_t_accounts : Value) (z_t_undoCount : Value) (z_t_hasSnapshot : Value) (z_t_ownerD : Value) (z_t_formatted : Value) (z_t_formattedLength : Value) (z_t_buffer : Value) (z_t_bufferLength : Value) (z_t_limit : Value) (z_t_nextByte : Value) (z_t_beginsAt : Value) (z_t_token : Value) (z_t_error : Value) (z_t_errorAt : Value) (z_t_errorPosition : Value) (z_t_nested : Value) (z_t_orders : Value) (z_t_orderWords : Value) (z_t_orderCount : Value) (sz : Nat) (x1 : Int32) (t_end : Int32) (t_owner : (Nat → Int32)) (t_row : (Nat → Int32)) (t_thrown : Int32) (t_times : (Nat → Int32)) (res : Int32 × (Int32 × (Nat → Int32) × Int32 × (Nat → Int32))) (hF : F_X11_size x1 t_end t_owner t_row t_thrown t_times = some res) : Met l yX11_size (.code yX11_size cX11_size 2 (Option.some Jvm.ClassFile.FieldType.int) :: sw_U) RM_X11_size (va_Pc [.ref q_t, .int x1] (sw_Pre G ca Z [(q_t, .inr (8, [z_t_now, z_t_draft, z_t_kept, z_t_snapshot, z_t_history, z_t_accounts, .ref q_t_wheelPrimes, .ref q_t_row, z_t_undoCount, .int t_thrown, z_t_hasSnapshot, .ref q_t_owner, .ref q_t_times, .int t_end, z_t_ownerD, z_t_formatted, z_t_formattedLength, z_t_buffer, z_t_bufferLength, z_t_limit, z_t_nextByte, z_t_beginsAt, z_t_token, z_t_error, z_t_errorAt, z_t_errorPosition, z_t_nested, z_t_orders, z_t_orderWords, z_t_orderCount])), (q_t_owner, .inl (ca 0, 5300, .inl t_owner)), (q_t_row, .inl (ca 0, 45, .inl t_row)), (q_t_times, .inl (ca 0, 5300, .inl t_times)), (q_t_wheelPrimes, .inl (ca 0, 4, .inl sw_p4))] sz)) ((fun A => va_Qi (fun r (u : Int32 × (Nat → Int32) × Int32 × (Nat → Int32)) => res.1 = r ∧ res.2 = u) (sw_Post G A (fun (u : Int32 × (Nat → Int32) × Int32 × (Nat → Int32)) => [(q_t, .inr (8, [z_t_now, z_t_draft, z_t_kept, z_t_snapshot, z_t_history, z_t_accounts, .ref q_t_wheelPrimes, .ref q_t_row, z_t_undoCount, .int u.2.2.1, z_t_hasSnapshot, .ref q_t_owner, .ref q_t_times, .int u.1, z_t_ownerD, z_t_formatted, z_t_formattedLength, z_t_buffer, z_t_bufferLength, z_t_limit, z_t_nextByte, z_t_beginsAt, z_t_token, z_t_error, z_t_errorAt, z_t_errorPosition, z_t_nested, z_t_orders, z_t_orderWords, z_t_orderCount])), (q_t_owner, .inl (ca 0, 5300, .inl u.2.1)), (q_t_row, .inl (ca 0, 45, .inl t_row)), (q_t_times, .inl (ca 0, 5300, .inl u.2.2.2)), (q_t_wheelPrimes, .inl (ca 0, 4, .inl sw_p4))])) A) (va_A [(q_t, .inr (8, [z_t_now, z_t_draft, z_t_kept, z_t_snapshot, z_t_history, z_t_accounts, .ref q_t_wheelPrimes, .ref q_t_row, z_t_undoCount, .int t_thrown, z_t_hasSnapshot, .ref q_t_owner, .ref q_t_times, .int t_end, z_t_ownerD, z_t_formatted, z_t_formattedLength, z_t_buffer, z_t_bufferLength, z_t_limit, z_t_nextByte, z_t_beginsAt, z_t_token, z_t_error, z_t_errorAt, z_t_errorPosition, z_t_nested, z_t_orders, z_t_orderWords, z_t_orderCount])), (q_t_owner, .inl (ca 0, 5300, .inl t_owner)), (q_t_row, .inl (ca 0, 45, .inl t_row)), (q_t_times, .inl (ca 0, 5300, .inl t_times)), (q_t_wheelPrimes, .inl (ca 0, 4, .inl sw_p4))] sz)) 0 0 (va_A [(q_t, .inr (8, [z_t_now, z_t_draft, z_t_kept, z_t_snapshot, z_t_history, z_t_accounts, .ref q_t_wheelPrimes, .ref q_t_row, z_t_undoCount, .int t_thrown, z_t_hasSnapshot, .ref q_t_owner, .ref q_t_times, .int t_end, z_t_ownerD, z_t_formatted, z_t_formattedLength, z_t_buffer, z_t_bufferLength, z_t_limit, z_t_nextByte, z_t_beginsAt, z_t_token, z_t_error, z_t_errorAt, z_t_errorPosition, z_t_nested, z_t_orders, z_t_orderWords, z_t_orderCount])), (q_t_owner, .inl (ca 0, 5300, .inl t_owner)), (q_t_row, .inl (ca 0, 45, .inl t_row)), (q_t_times, .inl (ca 0, 5300, .inl t_times)), (q_t_wheelPrimes, .inl (ca 0, 4, .inl sw_p4))] sz) := by
  refine sw_ofW (Qc := fun A => va_Qi (fun r (u : Int32 × (Nat → Int32) × Int32 × (Nat → Int32)) => res.1 = r ∧ res.2 = u) (sw_Post G A (fun (u : Int32 × (Nat → Int32) × Int32 × (Nat → Int32)) => [(q_t, .inr (8, [z_t_now, z_t_draft, z_t_kept, z_t_snapshot, z_t_history, z_t_accounts, .ref q_t_wheelPrimes, .ref q_t_row, z_t_undoCount, .int u.2.2.1, z_t_hasSnapshot, .ref q_t_owner, .ref q_t_times, .int u.1, z_t_ownerD, z_t_formatted, z_t_formattedLength, z_t_buffer, z_t_bufferLength, z_t_limit, z_t_nextByte, z_t_beginsAt, z_t_token, z_t_error, z_t_errorAt, z_t_errorPosition, z_t_nested, z_t_orders, z_t_orderWords, z_t_orderCount])), (q_t_owner, .inl (ca 0, 5300, .inl u.2.1)), (q_t_row, .inl (ca 0, 45, .inl t_row)), (q_t_times, .inl (ca 0, 5300, .inl u.2.2.2)), (q_t_wheelPrimes, .inl (ca 0, 4, .inl sw_p4))])) A) (by decide) [(0, .ref q_t), (1, .int x1)] rfl (Nat.le_of_ble_eq_true rfl) ?_
  intro p e s m args below meth c ls A hx hb hr hml hown htU hlocks hnm hP hK hD hX hY hS hA hl
  have hown : s.vm.findClass RX11 = some m.cls := hown
  have Cx : sw_Cx p s m args c cX11_size 2 RX11 G ca Z A := ⟨⟨hx, hb, hml, hown, htU⟩, hK, hX, hY, hA⟩
  have h := hF
  unfold F_X11_size at h
  refine lv_aload_n hx hb dX11_size_0 rfl (lv_at hl 0 rfl) ?_
  refine lv_iload_n hx hb dX11_size_1 rfl (lv_at hl 1 rfl) ?_
  refine lv_iconst (v := 0) hx hb dX11_size_2 (by decide) ?_
  refine lv_bipush (v := 9) hx hb dX11_size_3 (by decide) ?_
  obtain ⟨w_1, hg_2, h⟩ := bd_at h
  refine sw_ci (sw_runS (As := [.int x1, .int 0, .int 9]) (rest := [.ref q_t]) Cx hP hD hS ms_X11_inRange ml_X11_81 (c_X11_inRange l G ca Z s.heap.size x1 0 9 w_1 hg_2) [] rfl rfl rfl rfl ⟨(Nat.le_of_ble_eq_true rfl), (Nat.le_of_ble_eq_true rfl)⟩ hl.1 rfl rfl (Nat.le_of_ble_eq_true rfl) dX11_size_5 ⟨(Nat.le_of_ble_eq_true rfl), (Nat.le_of_ble_eq_true rfl)⟩) hP hD hS hA [] [0, 1, 2, 3, 4] [0, 1, 2, 3, 4] rfl rfl rfl (by decide) (fun _ => rfl) rfl (fun r u H locs hw hP hD hS => ?_)
  subst hw
  have hP : va_P G vwCl [(q_t, .inr (8, [z_t_now, z_t_draft, z_t_kept, z_t_snapshot, z_t_history, z_t_accounts, .ref q_t_wheelPrimes, .ref q_t_row, z_t_undoCount, .int t_thrown, z_t_hasSnapshot, .ref q_t_owner, .ref q_t_times, .int t_end, z_t_ownerD, z_t_formatted, z_t_formattedLength, z_t_buffer, z_t_bufferLength, z_t_limit, z_t_nextByte, z_t_beginsAt, z_t_token, z_t_error, z_t_errorAt, z_t_errorPosition, z_t_nested, z_t_orders, z_t_orderWords, z_t_orderCount])), (q_t_owner, .inl (ca 0, 5300, .inl t_owner)), (q_t_row, .inl (ca 0, 45, .inl t_row)), (q_t_times, .inl (ca 0, 5300, .inl t_times)), (q_t_wheelPrimes, .inl (ca 0, 4, .inl sw_p4))] H := hP
  have hD : va_D A [(q_t, .inr (8, [z_t_now, z_t_draft, z_t_kept, z_t_snapshot, z_t_history, z_t_accounts, .ref q_t_wheelPrimes, .ref q_t_row, z_t_undoCount, .int t_thrown, z_t_hasSnapshot, .ref q_t_owner, .ref q_t_times, .int t_end, z_t_ownerD, z_t_formatted, z_t_formattedLength, z_t_buffer, z_t_bufferLength, z_t_limit, z_t_nextByte, z_t_beginsAt, z_t_token, z_t_error, z_t_errorAt, z_t_errorPosition, z_t_nested, z_t_orders, z_t_orderWords, z_t_orderCount])), (q_t_owner, .inl (ca 0, 5300, .inl t_owner)), (q_t_row, .inl (ca 0, 45, .inl t_row)), (q_t_times, .inl (ca 0, 5300, .inl t_times)), (q_t_wheelPrimes, .inl (ca 0, 4, .inl sw_p4))] := hD
  obtain ⟨w_3, hg_4, h⟩ := bd_at h
  refine sw_ci (sw_runV (As := [.int (bI w_1)]) (rest := []) Cx hP hD hS mv_X11_lacks ml_X11_125 (c_X11_lacks l G ca Z q_t (z_t_now) (z_t_draft) (z_t_kept) (z_t_snapshot) (z_t_history) (z_t_accounts) (.ref q_t_wheelPrimes) (.ref q_t_row) (z_t_undoCount) (z_t_hasSnapshot) (.ref q_t_owner) (.ref q_t_times) (.int t_end) (z_t_ownerD) (z_t_formatted) (z_t_formattedLength) (z_t_buffer) (z_t_bufferLength) (z_t_limit) (z_t_nextByte) (z_t_beginsAt) (z_t_token) (z_t_error) (z_t_errorAt) (z_t_errorPosition) (z_t_nested) (z_t_orders) (z_t_orderWords) (z_t_orderCount) H.size w_1 t_thrown w_3 hg_4) 8 rfl rfl rfl [0] rfl rfl rfl rfl ⟨(Nat.le_of_ble_eq_true rfl), (Nat.le_of_ble_eq_true rfl)⟩ hl.1 rfl rfl (Nat.le_of_ble_eq_true rfl) dX11_size_8 ⟨(Nat.le_of_ble_eq_true rfl), (Nat.le_of_ble_eq_true rfl)⟩) hP hD hS hA [0] [1, 2, 3, 4] [4, 0, 1, 2, 3] rfl rfl rfl (by decide) (fun _ => rfl) rfl (fun r u H locs hw hP hD hS => ?_)
  obtain ⟨rfl, rfl⟩ := hw
  have hP : va_P G vwCl [(q_t, .inr (8, [z_t_now, z_t_draft, z_t_kept, z_t_snapshot, z_t_history, z_t_accounts, .ref q_t_wheelPrimes, .ref q_t_row, z_t_undoCount, .int w_3.2, z_t_hasSnapshot, .ref q_t_owner, .ref q_t_times, .int t_end, z_t_ownerD, z_t_formatted, z_t_formattedLength, z_t_buffer, z_t_bufferLength, z_t_limit, z_t_nextByte, z_t_beginsAt, z_t_token, z_t_error, z_t_errorAt, z_t_errorPosition, z_t_nested, z_t_orders, z_t_orderWords, z_t_orderCount])), (q_t_owner, .inl (ca 0, 5300, .inl t_owner)), (q_t_row, .inl (ca 0, 45, .inl t_row)), (q_t_times, .inl (ca 0, 5300, .inl t_times)), (q_t_wheelPrimes, .inl (ca 0, 4, .inl sw_p4))] H := hP
  have hD : va_D A [(q_t, .inr (8, [z_t_now, z_t_draft, z_t_kept, z_t_snapshot, z_t_history, z_t_accounts, .ref q_t_wheelPrimes, .ref q_t_row, z_t_undoCount, .int w_3.2, z_t_hasSnapshot, .ref q_t_owner, .ref q_t_times, .int t_end, z_t_ownerD, z_t_formatted, z_t_formattedLength, z_t_buffer, z_t_bufferLength, z_t_limit, z_t_nextByte, z_t_beginsAt, z_t_token, z_t_error, z_t_errorAt, z_t_errorPosition, z_t_nested, z_t_orders, z_t_orderWords, z_t_orderCount])), (q_t_owner, .inl (ca 0, 5300, .inl t_owner)), (q_t_row, .inl (ca 0, 45, .inl t_row)), (q_t_times, .inl (ca 0, 5300, .inl t_times)), (q_t_wheelPrimes, .inl (ca 0, 4, .inl sw_p4))] := hD
  refine lv_if_eq (tgt := 16) hx hb dX11_size_11 (by decide) (fun c_5 => ?_) (fun c_5 => ?_)
  · have c_5 := bI_z.mp c_5
    have h := if_f c_5 h
    refine lv_aload_n hx hb dX11_size_16 rfl (lv_at hl 0 rfl) ?_
    obtain ⟨w_6, hg_7, h⟩ := bd_at h
    refine sw_cv (sw_runV (As := []) (rest := []) Cx hP hD hS mv_X11_strike ml_X11_129 (c_X11_strike l G ca Z q_t q_t_owner q_t_row q_t_times q_t_wheelPrimes (z_t_now) (z_t_draft) (z_t_kept) (z_t_snapshot) (z_t_history) (z_t_accounts) (z_t_undoCount) (.int w_3.2) (z_t_hasSnapshot) (z_t_ownerD) (z_t_formatted) (z_t_formattedLength) (z_t_buffer) (z_t_bufferLength) (z_t_limit) (z_t_nextByte) (z_t_beginsAt) (z_t_token) (z_t_error) (z_t_errorAt) (z_t_errorPosition) (z_t_nested) (z_t_orders) (z_t_orderWords) (z_t_orderCount) H.size t_end t_owner t_row t_times w_6 hg_7) 8 rfl rfl rfl [0, 1, 2, 3, 4] rfl rfl rfl rfl ⟨(Nat.le_of_ble_eq_true rfl), (Nat.le_of_ble_eq_true rfl)⟩ hl.1 rfl rfl (Nat.le_of_ble_eq_true rfl) dX11_size_17 ⟨(Nat.le_of_ble_eq_true rfl), (Nat.le_of_ble_eq_true rfl)⟩) hP hD hS hA [0, 1, 2, 3, 4] [] [0, 1, 2, 3, 4] rfl rfl rfl (by decide) (fun _ => rfl) rfl (fun u H locs hw hP hD hS => ?_)
    subst hw
    have hP : va_P G vwCl [(q_t, .inr (8, [z_t_now, z_t_draft, z_t_kept, z_t_snapshot, z_t_history, z_t_accounts, .ref q_t_wheelPrimes, .ref q_t_row, z_t_undoCount, .int w_3.2, z_t_hasSnapshot, .ref q_t_owner, .ref q_t_times, .int w_6.1, z_t_ownerD, z_t_formatted, z_t_formattedLength, z_t_buffer, z_t_bufferLength, z_t_limit, z_t_nextByte, z_t_beginsAt, z_t_token, z_t_error, z_t_errorAt, z_t_errorPosition, z_t_nested, z_t_orders, z_t_orderWords, z_t_orderCount])), (q_t_owner, .inl (ca 0, 5300, .inl w_6.2.1)), (q_t_row, .inl (ca 0, 45, .inl t_row)), (q_t_times, .inl (ca 0, 5300, .inl w_6.2.2)), (q_t_wheelPrimes, .inl (ca 0, 4, .inl sw_p4))] H := hP
    have hD : va_D A [(q_t, .inr (8, [z_t_now, z_t_draft, z_t_kept, z_t_snapshot, z_t_history, z_t_accounts, .ref q_t_wheelPrimes, .ref q_t_row, z_t_undoCount, .int w_3.2, z_t_hasSnapshot, .ref q_t_owner, .ref q_t_times, .int w_6.1, z_t_ownerD, z_t_formatted, z_t_formattedLength, z_t_buffer, z_t_bufferLength, z_t_limit, z_t_nextByte, z_t_beginsAt, z_t_token, z_t_error, z_t_errorAt, z_t_errorPosition, z_t_nested, z_t_orders, z_t_orderWords, z_t_orderCount])), (q_t_owner, .inl (ca 0, 5300, .inl w_6.2.1)), (q_t_row, .inl (ca 0, 45, .inl t_row)), (q_t_times, .inl (ca 0, 5300, .inl w_6.2.2)), (q_t_wheelPrimes, .inl (ca 0, 4, .inl sw_p4))] := hD
    refine lv_iload_n hx hb dX11_size_20 rfl (lv_at hl 1 rfl) ?_
    by_cases c_21_0 : x1 = 0
    · have h := if_t c_21_0 h
      refine lv_tableIn (tgt := 72) hx hb dX11_size_21 (by rw [c_21_0]; decide) (by rw [c_21_0]; decide) (by rw [c_21_0]; rfl) (by decide) ?_
      refine lv_aload_n hx hb dX11_size_72 rfl (lv_at hl 0 rfl) ?_
      refine va_get (v := .ref q_t_row) hx hb htU iU_X11 hown hK hP 0 rfl rfl 7 (by decide) (htU _ fl_X11_31) (fun _ h9 => h9) rfl dX11_size_73 ?_
      refine lv_iconst (v := 0) hx hb dX11_size_76 (by decide) ?_
      refine sw_iald0 hx hb hK hP 2 0 rfl rfl 0 rfl (sw_vin (by decide)) dX11_size_77 ?_
      exact sw_ri hx hb hr hlocks hS (w_6.1, w_6.2.1, w_3.2, w_6.2.2) (pr2 h) hP hD dX11_size_78
    · have h := if_f c_21_0 h
      by_cases c_21_1 : x1 = 1
      · have h := if_t c_21_1 h
        refine lv_tableIn (tgt := 79) hx hb dX11_size_21 (by rw [c_21_1]; decide) (by rw [c_21_1]; decide) (by rw [c_21_1]; rfl) (by decide) ?_
        refine lv_aload_n hx hb dX11_size_79 rfl (lv_at hl 0 rfl) ?_
        refine va_get (v := .ref q_t_row) hx hb htU iU_X11 hown hK hP 0 rfl rfl 7 (by decide) (htU _ fl_X11_31) (fun _ h9 => h9) rfl dX11_size_80 ?_
        refine lv_iconst (v := 1) hx hb dX11_size_83 (by decide) ?_
        refine sw_iald0 hx hb hK hP 2 0 rfl rfl 1 rfl (sw_vin (by decide)) dX11_size_84 ?_
        exact sw_ri hx hb hr hlocks hS (w_6.1, w_6.2.1, w_3.2, w_6.2.2) (pr2 h) hP hD dX11_size_85
      · have h := if_f c_21_1 h
        by_cases c_21_2 : x1 = 2
        · have h := if_t c_21_2 h
          refine lv_tableIn (tgt := 86) hx hb dX11_size_21 (by rw [c_21_2]; decide) (by rw [c_21_2]; decide) (by rw [c_21_2]; rfl) (by decide) ?_
          refine lv_aload_n hx hb dX11_size_86 rfl (lv_at hl 0 rfl) ?_
          refine va_get (v := .int w_6.1) hx hb htU iU_X11 hown hK hP 0 rfl rfl 13 (by decide) (htU _ fl_X11_100) (fun _ h9 => h9) rfl dX11_size_87 ?_
          exact sw_ri hx hb hr hlocks hS (w_6.1, w_6.2.1, w_3.2, w_6.2.2) (pr2 h) hP hD dX11_size_90
        · have h := if_f c_21_2 h
          by_cases c_21_3 : x1 = 3
          · have h := if_t c_21_3 h
            refine lv_tableIn (tgt := 91) hx hb dX11_size_21 (by rw [c_21_3]; decide) (by rw [c_21_3]; decide) (by rw [c_21_3]; rfl) (by decide) ?_
            refine lv_aload_n hx hb dX11_size_91 rfl (lv_at hl 0 rfl) ?_
            refine va_get (v := .ref q_t_row) hx hb htU iU_X11 hown hK hP 0 rfl rfl 7 (by decide) (htU _ fl_X11_31) (fun _ h9 => h9) rfl dX11_size_92 ?_
            refine lv_bipush (v := 14) hx hb dX11_size_95 (by decide) ?_
            refine sw_iald0 hx hb hK hP 2 0 rfl rfl 14 rfl (sw_vin (by decide)) dX11_size_97 ?_
            exact sw_ri hx hb hr hlocks hS (w_6.1, w_6.2.1, w_3.2, w_6.2.2) (pr2 h) hP hD dX11_size_98
          · have h := if_f c_21_3 h
            by_cases c_21_4 : x1 = 4
            · have h := if_t c_21_4 h
              refine lv_tableIn (tgt := 99) hx hb dX11_size_21 (by rw [c_21_4]; decide) (by rw [c_21_4]; decide) (by rw [c_21_4]; rfl) (by decide) ?_
              refine lv_aload_n hx hb dX11_size_99 rfl (lv_at hl 0 rfl) ?_
              refine lv_iconst (v := 2) hx hb dX11_size_100 (by decide) ?_
              refine lv_aload_n hx hb dX11_size_101 rfl (lv_at hl 0 rfl) ?_
              refine va_get (v := .int w_6.1) hx hb htU iU_X11 hown hK hP 0 rfl rfl 13 (by decide) (htU _ fl_X11_100) (fun _ h9 => h9) rfl dX11_size_102 ?_
              obtain ⟨w_8, hg_9, h⟩ := bd_at h
              refine sw_ci (sw_runV (As := [.int 2, .int w_6.1]) (rest := []) Cx hP hD hS mv_X11_marksIn ml_X11_132 (c_X11_marksIn l G ca Z q_t q_t_row q_t_times q_t_wheelPrimes (z_t_now) (z_t_draft) (z_t_kept) (z_t_snapshot) (z_t_history) (z_t_accounts) (z_t_undoCount) (.int w_3.2) (z_t_hasSnapshot) (.ref q_t_owner) (z_t_ownerD) (z_t_formatted) (z_t_formattedLength) (z_t_buffer) (z_t_bufferLength) (z_t_limit) (z_t_nextByte) (z_t_beginsAt) (z_t_token) (z_t_error) (z_t_errorAt) (z_t_errorPosition) (z_t_nested) (z_t_orders) (z_t_orderWords) (z_t_orderCount) H.size 2 w_6.1 w_6.1 t_row w_6.2.2 w_8 hg_9) 8 rfl rfl rfl [0, 2, 3, 4] rfl rfl rfl rfl ⟨(Nat.le_of_ble_eq_true rfl), (Nat.le_of_ble_eq_true rfl)⟩ hl.1 rfl rfl (Nat.le_of_ble_eq_true rfl) dX11_size_105 ⟨(Nat.le_of_ble_eq_true rfl), (Nat.le_of_ble_eq_true rfl)⟩) hP hD hS hA [0, 2, 3, 4] [1] [1, 0, 2, 3, 4] rfl rfl rfl (by decide) (fun _ => rfl) rfl (fun r u H locs hw hP hD hS => ?_)
              subst hw
              have hP : va_P G vwCl [(q_t, .inr (8, [z_t_now, z_t_draft, z_t_kept, z_t_snapshot, z_t_history, z_t_accounts, .ref q_t_wheelPrimes, .ref q_t_row, z_t_undoCount, .int w_3.2, z_t_hasSnapshot, .ref q_t_owner, .ref q_t_times, .int w_6.1, z_t_ownerD, z_t_formatted, z_t_formattedLength, z_t_buffer, z_t_bufferLength, z_t_limit, z_t_nextByte, z_t_beginsAt, z_t_token, z_t_error, z_t_errorAt, z_t_errorPosition, z_t_nested, z_t_orders, z_t_orderWords, z_t_orderCount])), (q_t_owner, .inl (ca 0, 5300, .inl w_6.2.1)), (q_t_row, .inl (ca 0, 45, .inl t_row)), (q_t_times, .inl (ca 0, 5300, .inl w_6.2.2)), (q_t_wheelPrimes, .inl (ca 0, 4, .inl sw_p4))] H := hP
              have hD : va_D A [(q_t, .inr (8, [z_t_now, z_t_draft, z_t_kept, z_t_snapshot, z_t_history, z_t_accounts, .ref q_t_wheelPrimes, .ref q_t_row, z_t_undoCount, .int w_3.2, z_t_hasSnapshot, .ref q_t_owner, .ref q_t_times, .int w_6.1, z_t_ownerD, z_t_formatted, z_t_formattedLength, z_t_buffer, z_t_bufferLength, z_t_limit, z_t_nextByte, z_t_beginsAt, z_t_token, z_t_error, z_t_errorAt, z_t_errorPosition, z_t_nested, z_t_orders, z_t_orderWords, z_t_orderCount])), (q_t_owner, .inl (ca 0, 5300, .inl w_6.2.1)), (q_t_row, .inl (ca 0, 45, .inl t_row)), (q_t_times, .inl (ca 0, 5300, .inl w_6.2.2)), (q_t_wheelPrimes, .inl (ca 0, 4, .inl sw_p4))] := hD
              exact sw_ri hx hb hr hlocks hS (w_6.1, w_6.2.1, w_3.2, w_6.2.2) (pr2 h) hP hD dX11_size_108
            · have h := if_f c_21_4 h
              by_cases c_21_5 : x1 = 5
              · have h := if_t c_21_5 h
                refine lv_tableIn (tgt := 109) hx hb dX11_size_21 (by rw [c_21_5]; decide) (by rw [c_21_5]; decide) (by rw [c_21_5]; rfl) (by decide) ?_
                refine lv_aload_n hx hb dX11_size_109 rfl (lv_at hl 0 rfl) ?_
                refine lv_iconst (v := 2) hx hb dX11_size_110 (by decide) ?_
                refine lv_aload_n hx hb dX11_size_111 rfl (lv_at hl 0 rfl) ?_
                refine va_get (v := .int w_6.1) hx hb htU iU_X11 hown hK hP 0 rfl rfl 13 (by decide) (htU _ fl_X11_100) (fun _ h9 => h9) rfl dX11_size_112 ?_
                obtain ⟨w_10, hg_11, h⟩ := bd_at h
                refine sw_ci (sw_runV (As := [.int 2, .int w_6.1]) (rest := []) Cx hP hD hS mv_X11_spokesIn ml_X11_136 (c_X11_spokesIn l G ca Z q_t q_t_row q_t_wheelPrimes (z_t_now) (z_t_draft) (z_t_kept) (z_t_snapshot) (z_t_history) (z_t_accounts) (z_t_undoCount) (.int w_3.2) (z_t_hasSnapshot) (.ref q_t_owner) (.ref q_t_times) (.int w_6.1) (z_t_ownerD) (z_t_formatted) (z_t_formattedLength) (z_t_buffer) (z_t_bufferLength) (z_t_limit) (z_t_nextByte) (z_t_beginsAt) (z_t_token) (z_t_error) (z_t_errorAt) (z_t_errorPosition) (z_t_nested) (z_t_orders) (z_t_orderWords) (z_t_orderCount) H.size 2 w_6.1 t_row w_10 hg_11) 8 rfl rfl rfl [0, 2, 4] rfl rfl rfl rfl ⟨(Nat.le_of_ble_eq_true rfl), (Nat.le_of_ble_eq_true rfl)⟩ hl.1 rfl rfl (Nat.le_of_ble_eq_true rfl) dX11_size_115 ⟨(Nat.le_of_ble_eq_true rfl), (Nat.le_of_ble_eq_true rfl)⟩) hP hD hS hA [0, 2, 4] [1, 3] [2, 0, 3, 1, 4] rfl rfl rfl (by decide) (fun _ => rfl) rfl (fun r u H locs hw hP hD hS => ?_)
                subst hw
                have hP : va_P G vwCl [(q_t, .inr (8, [z_t_now, z_t_draft, z_t_kept, z_t_snapshot, z_t_history, z_t_accounts, .ref q_t_wheelPrimes, .ref q_t_row, z_t_undoCount, .int w_3.2, z_t_hasSnapshot, .ref q_t_owner, .ref q_t_times, .int w_6.1, z_t_ownerD, z_t_formatted, z_t_formattedLength, z_t_buffer, z_t_bufferLength, z_t_limit, z_t_nextByte, z_t_beginsAt, z_t_token, z_t_error, z_t_errorAt, z_t_errorPosition, z_t_nested, z_t_orders, z_t_orderWords, z_t_orderCount])), (q_t_owner, .inl (ca 0, 5300, .inl w_6.2.1)), (q_t_row, .inl (ca 0, 45, .inl t_row)), (q_t_times, .inl (ca 0, 5300, .inl w_6.2.2)), (q_t_wheelPrimes, .inl (ca 0, 4, .inl sw_p4))] H := hP
                have hD : va_D A [(q_t, .inr (8, [z_t_now, z_t_draft, z_t_kept, z_t_snapshot, z_t_history, z_t_accounts, .ref q_t_wheelPrimes, .ref q_t_row, z_t_undoCount, .int w_3.2, z_t_hasSnapshot, .ref q_t_owner, .ref q_t_times, .int w_6.1, z_t_ownerD, z_t_formatted, z_t_formattedLength, z_t_buffer, z_t_bufferLength, z_t_limit, z_t_nextByte, z_t_beginsAt, z_t_token, z_t_error, z_t_errorAt, z_t_errorPosition, z_t_nested, z_t_orders, z_t_orderWords, z_t_orderCount])), (q_t_owner, .inl (ca 0, 5300, .inl w_6.2.1)), (q_t_row, .inl (ca 0, 45, .inl t_row)), (q_t_times, .inl (ca 0, 5300, .inl w_6.2.2)), (q_t_wheelPrimes, .inl (ca 0, 4, .inl sw_p4))] := hD
                exact sw_ri hx hb hr hlocks hS (w_6.1, w_6.2.1, w_3.2, w_6.2.2) (pr2 h) hP hD dX11_size_118
              · have h := if_f c_21_5 h
                by_cases c_21_6 : x1 = 6
                · have h := if_t c_21_6 h
                  refine lv_tableIn (tgt := 119) hx hb dX11_size_21 (by rw [c_21_6]; decide) (by rw [c_21_6]; decide) (by rw [c_21_6]; rfl) (by decide) ?_
                  refine lv_aload_n hx hb dX11_size_119 rfl (lv_at hl 0 rfl) ?_
                  obtain ⟨w_12, hg_13, h⟩ := bd_at h
                  refine sw_ci (sw_runV (As := []) (rest := []) Cx hP hD hS mv_X11_product ml_X11_139 (c_X11_product l G ca Z q_t q_t_row q_t_wheelPrimes (z_t_now) (z_t_draft) (z_t_kept) (z_t_snapshot) (z_t_history) (z_t_accounts) (z_t_undoCount) (.int w_3.2) (z_t_hasSnapshot) (.ref q_t_owner) (.ref q_t_times) (.int w_6.1) (z_t_ownerD) (z_t_formatted) (z_t_formattedLength) (z_t_buffer) (z_t_bufferLength) (z_t_limit) (z_t_nextByte) (z_t_beginsAt) (z_t_token) (z_t_error) (z_t_errorAt) (z_t_errorPosition) (z_t_nested) (z_t_orders) (z_t_orderWords) (z_t_orderCount) H.size t_row w_12 hg_13) 8 rfl rfl rfl [0, 2, 4] rfl rfl rfl rfl ⟨(Nat.le_of_ble_eq_true rfl), (Nat.le_of_ble_eq_true rfl)⟩ hl.1 rfl rfl (Nat.le_of_ble_eq_true rfl) dX11_size_120 ⟨(Nat.le_of_ble_eq_true rfl), (Nat.le_of_ble_eq_true rfl)⟩) hP hD hS hA [0, 2, 4] [1, 3] [2, 0, 3, 1, 4] rfl rfl rfl (by decide) (fun _ => rfl) rfl (fun r u H locs hw hP hD hS => ?_)
                  subst hw
                  have hP : va_P G vwCl [(q_t, .inr (8, [z_t_now, z_t_draft, z_t_kept, z_t_snapshot, z_t_history, z_t_accounts, .ref q_t_wheelPrimes, .ref q_t_row, z_t_undoCount, .int w_3.2, z_t_hasSnapshot, .ref q_t_owner, .ref q_t_times, .int w_6.1, z_t_ownerD, z_t_formatted, z_t_formattedLength, z_t_buffer, z_t_bufferLength, z_t_limit, z_t_nextByte, z_t_beginsAt, z_t_token, z_t_error, z_t_errorAt, z_t_errorPosition, z_t_nested, z_t_orders, z_t_orderWords, z_t_orderCount])), (q_t_owner, .inl (ca 0, 5300, .inl w_6.2.1)), (q_t_row, .inl (ca 0, 45, .inl t_row)), (q_t_times, .inl (ca 0, 5300, .inl w_6.2.2)), (q_t_wheelPrimes, .inl (ca 0, 4, .inl sw_p4))] H := hP
                  have hD : va_D A [(q_t, .inr (8, [z_t_now, z_t_draft, z_t_kept, z_t_snapshot, z_t_history, z_t_accounts, .ref q_t_wheelPrimes, .ref q_t_row, z_t_undoCount, .int w_3.2, z_t_hasSnapshot, .ref q_t_owner, .ref q_t_times, .int w_6.1, z_t_ownerD, z_t_formatted, z_t_formattedLength, z_t_buffer, z_t_bufferLength, z_t_limit, z_t_nextByte, z_t_beginsAt, z_t_token, z_t_error, z_t_errorAt, z_t_errorPosition, z_t_nested, z_t_orders, z_t_orderWords, z_t_orderCount])), (q_t_owner, .inl (ca 0, 5300, .inl w_6.2.1)), (q_t_row, .inl (ca 0, 45, .inl t_row)), (q_t_times, .inl (ca 0, 5300, .inl w_6.2.2)), (q_t_wheelPrimes, .inl (ca 0, 4, .inl sw_p4))] := hD
                  exact sw_ri hx hb hr hlocks hS (w_6.1, w_6.2.1, w_3.2, w_6.2.2) (pr2 h) hP hD dX11_size_123
                · have h := if_f c_21_6 h
                  by_cases c_21_7 : x1 = 7
                  · have h := if_t c_21_7 h
                    refine lv_tableIn (tgt := 124) hx hb dX11_size_21 (by rw [c_21_7]; decide) (by rw [c_21_7]; decide) (by rw [c_21_7]; rfl) (by decide) ?_
                    refine lv_aload_n hx hb dX11_size_124 rfl (lv_at hl 0 rfl) ?_
                    obtain ⟨w_14, hg_15, h⟩ := bd_at h
                    refine sw_ci (sw_runV (As := []) (rest := []) Cx hP hD hS mv_X11_rightOnes ml_X11_142 (c_X11_rightOnes l G ca Z q_t q_t_row q_t_wheelPrimes (z_t_now) (z_t_draft) (z_t_kept) (z_t_snapshot) (z_t_history) (z_t_accounts) (z_t_undoCount) (.int w_3.2) (z_t_hasSnapshot) (.ref q_t_owner) (.ref q_t_times) (.int w_6.1) (z_t_ownerD) (z_t_formatted) (z_t_formattedLength) (z_t_buffer) (z_t_bufferLength) (z_t_limit) (z_t_nextByte) (z_t_beginsAt) (z_t_token) (z_t_error) (z_t_errorAt) (z_t_errorPosition) (z_t_nested) (z_t_orders) (z_t_orderWords) (z_t_orderCount) H.size t_row w_14 hg_15) 8 rfl rfl rfl [0, 2, 4] rfl rfl rfl rfl ⟨(Nat.le_of_ble_eq_true rfl), (Nat.le_of_ble_eq_true rfl)⟩ hl.1 rfl rfl (Nat.le_of_ble_eq_true rfl) dX11_size_125 ⟨(Nat.le_of_ble_eq_true rfl), (Nat.le_of_ble_eq_true rfl)⟩) hP hD hS hA [0, 2, 4] [1, 3] [2, 0, 3, 1, 4] rfl rfl rfl (by decide) (fun _ => rfl) rfl (fun r u H locs hw hP hD hS => ?_)
                    subst hw
                    have hP : va_P G vwCl [(q_t, .inr (8, [z_t_now, z_t_draft, z_t_kept, z_t_snapshot, z_t_history, z_t_accounts, .ref q_t_wheelPrimes, .ref q_t_row, z_t_undoCount, .int w_3.2, z_t_hasSnapshot, .ref q_t_owner, .ref q_t_times, .int w_6.1, z_t_ownerD, z_t_formatted, z_t_formattedLength, z_t_buffer, z_t_bufferLength, z_t_limit, z_t_nextByte, z_t_beginsAt, z_t_token, z_t_error, z_t_errorAt, z_t_errorPosition, z_t_nested, z_t_orders, z_t_orderWords, z_t_orderCount])), (q_t_owner, .inl (ca 0, 5300, .inl w_6.2.1)), (q_t_row, .inl (ca 0, 45, .inl t_row)), (q_t_times, .inl (ca 0, 5300, .inl w_6.2.2)), (q_t_wheelPrimes, .inl (ca 0, 4, .inl sw_p4))] H := hP
                    have hD : va_D A [(q_t, .inr (8, [z_t_now, z_t_draft, z_t_kept, z_t_snapshot, z_t_history, z_t_accounts, .ref q_t_wheelPrimes, .ref q_t_row, z_t_undoCount, .int w_3.2, z_t_hasSnapshot, .ref q_t_owner, .ref q_t_times, .int w_6.1, z_t_ownerD, z_t_formatted, z_t_formattedLength, z_t_buffer, z_t_bufferLength, z_t_limit, z_t_nextByte, z_t_beginsAt, z_t_token, z_t_error, z_t_errorAt, z_t_errorPosition, z_t_nested, z_t_orders, z_t_orderWords, z_t_orderCount])), (q_t_owner, .inl (ca 0, 5300, .inl w_6.2.1)), (q_t_row, .inl (ca 0, 45, .inl t_row)), (q_t_times, .inl (ca 0, 5300, .inl w_6.2.2)), (q_t_wheelPrimes, .inl (ca 0, 4, .inl sw_p4))] := hD
                    exact sw_ri hx hb hr hlocks hS (w_6.1, w_6.2.1, w_3.2, w_6.2.2) (pr2 h) hP hD dX11_size_128
                  · have h := if_f c_21_7 h
                    by_cases c_21_8 : x1 = 8
                    · have h := if_t c_21_8 h
                      refine lv_tableIn (tgt := 129) hx hb dX11_size_21 (by rw [c_21_8]; decide) (by rw [c_21_8]; decide) (by rw [c_21_8]; rfl) (by decide) ?_
                      refine lv_aload_n hx hb dX11_size_129 rfl (lv_at hl 0 rfl) ?_
                      obtain ⟨w_16, hg_17, h⟩ := bd_at h
                      refine sw_ci (sw_runV (As := []) (rest := []) Cx hP hD hS mv_X11_countMissing ml_X11_145 (c_X11_countMissing l G ca Z q_t q_t_row q_t_times q_t_wheelPrimes (z_t_now) (z_t_draft) (z_t_kept) (z_t_snapshot) (z_t_history) (z_t_accounts) (z_t_undoCount) (.int w_3.2) (z_t_hasSnapshot) (.ref q_t_owner) (z_t_ownerD) (z_t_formatted) (z_t_formattedLength) (z_t_buffer) (z_t_bufferLength) (z_t_limit) (z_t_nextByte) (z_t_beginsAt) (z_t_token) (z_t_error) (z_t_errorAt) (z_t_errorPosition) (z_t_nested) (z_t_orders) (z_t_orderWords) (z_t_orderCount) H.size w_6.1 t_row w_6.2.2 w_16 hg_17) 8 rfl rfl rfl [0, 2, 3, 4] rfl rfl rfl rfl ⟨(Nat.le_of_ble_eq_true rfl), (Nat.le_of_ble_eq_true rfl)⟩ hl.1 rfl rfl (Nat.le_of_ble_eq_true rfl) dX11_size_130 ⟨(Nat.le_of_ble_eq_true rfl), (Nat.le_of_ble_eq_true rfl)⟩) hP hD hS hA [0, 2, 3, 4] [1] [1, 0, 2, 3, 4] rfl rfl rfl (by decide) (fun _ => rfl) rfl (fun r u H locs hw hP hD hS => ?_)
                      subst hw
                      have hP : va_P G vwCl [(q_t, .inr (8, [z_t_now, z_t_draft, z_t_kept, z_t_snapshot, z_t_history, z_t_accounts, .ref q_t_wheelPrimes, .ref q_t_row, z_t_undoCount, .int w_3.2, z_t_hasSnapshot, .ref q_t_owner, .ref q_t_times, .int w_6.1, z_t_ownerD, z_t_formatted, z_t_formattedLength, z_t_buffer, z_t_bufferLength, z_t_limit, z_t_nextByte, z_t_beginsAt, z_t_token, z_t_error, z_t_errorAt, z_t_errorPosition, z_t_nested, z_t_orders, z_t_orderWords, z_t_orderCount])), (q_t_owner, .inl (ca 0, 5300, .inl w_6.2.1)), (q_t_row, .inl (ca 0, 45, .inl t_row)), (q_t_times, .inl (ca 0, 5300, .inl w_6.2.2)), (q_t_wheelPrimes, .inl (ca 0, 4, .inl sw_p4))] H := hP
                      have hD : va_D A [(q_t, .inr (8, [z_t_now, z_t_draft, z_t_kept, z_t_snapshot, z_t_history, z_t_accounts, .ref q_t_wheelPrimes, .ref q_t_row, z_t_undoCount, .int w_3.2, z_t_hasSnapshot, .ref q_t_owner, .ref q_t_times, .int w_6.1, z_t_ownerD, z_t_formatted, z_t_formattedLength, z_t_buffer, z_t_bufferLength, z_t_limit, z_t_nextByte, z_t_beginsAt, z_t_token, z_t_error, z_t_errorAt, z_t_errorPosition, z_t_nested, z_t_orders, z_t_orderWords, z_t_orderCount])), (q_t_owner, .inl (ca 0, 5300, .inl w_6.2.1)), (q_t_row, .inl (ca 0, 45, .inl t_row)), (q_t_times, .inl (ca 0, 5300, .inl w_6.2.2)), (q_t_wheelPrimes, .inl (ca 0, 4, .inl sw_p4))] := hD
                      exact sw_ri hx hb hr hlocks hS (w_6.1, w_6.2.1, w_3.2, w_6.2.2) (pr2 h) hP hD dX11_size_133
                    · have h := if_f c_21_8 h
                      refine lv_tableOut (tgt := 134) hx hb dX11_size_21 (sw_nin 0 8 (fun k9 a9 b9 e9 => by rcases (by omega : k9 = 0 ∨ k9 = 1 ∨ k9 = 2 ∨ k9 = 3 ∨ k9 = 4 ∨ k9 = 5 ∨ k9 = 6 ∨ k9 = 7 ∨ k9 = 8) with rfl | rfl | rfl | rfl | rfl | rfl | rfl | rfl | rfl <;> first | exact c_21_0 (sw_ti e9) | exact c_21_1 (sw_ti e9) | exact c_21_2 (sw_ti e9) | exact c_21_3 (sw_ti e9) | exact c_21_4 (sw_ti e9) | exact c_21_5 (sw_ti e9) | exact c_21_6 (sw_ti e9) | exact c_21_7 (sw_ti e9) | exact c_21_8 (sw_ti e9))) (by decide) ?_
                      refine lv_aload_n hx hb dX11_size_134 rfl (lv_at hl 0 rfl) ?_
                      obtain ⟨w_18, hg_19, h⟩ := bd_at h
                      refine sw_ci (sw_runV (As := []) (rest := []) Cx hP hD hS mv_X11_countIdle ml_X11_148 (c_X11_countIdle l G ca Z q_t q_t_owner q_t_row (z_t_now) (z_t_draft) (z_t_kept) (z_t_snapshot) (z_t_history) (z_t_accounts) (.ref q_t_wheelPrimes) (z_t_undoCount) (.int w_3.2) (z_t_hasSnapshot) (.ref q_t_times) (z_t_ownerD) (z_t_formatted) (z_t_formattedLength) (z_t_buffer) (z_t_bufferLength) (z_t_limit) (z_t_nextByte) (z_t_beginsAt) (z_t_token) (z_t_error) (z_t_errorAt) (z_t_errorPosition) (z_t_nested) (z_t_orders) (z_t_orderWords) (z_t_orderCount) H.size w_6.1 w_6.2.1 t_row w_18 hg_19) 8 rfl rfl rfl [0, 1, 2] rfl rfl rfl rfl ⟨(Nat.le_of_ble_eq_true rfl), (Nat.le_of_ble_eq_true rfl)⟩ hl.1 rfl rfl (Nat.le_of_ble_eq_true rfl) dX11_size_135 ⟨(Nat.le_of_ble_eq_true rfl), (Nat.le_of_ble_eq_true rfl)⟩) hP hD hS hA [0, 1, 2] [3, 4] [2, 3, 4, 0, 1] rfl rfl rfl (by decide) (fun _ => rfl) rfl (fun r u H locs hw hP hD hS => ?_)
                      subst hw
                      have hP : va_P G vwCl [(q_t, .inr (8, [z_t_now, z_t_draft, z_t_kept, z_t_snapshot, z_t_history, z_t_accounts, .ref q_t_wheelPrimes, .ref q_t_row, z_t_undoCount, .int w_3.2, z_t_hasSnapshot, .ref q_t_owner, .ref q_t_times, .int w_6.1, z_t_ownerD, z_t_formatted, z_t_formattedLength, z_t_buffer, z_t_bufferLength, z_t_limit, z_t_nextByte, z_t_beginsAt, z_t_token, z_t_error, z_t_errorAt, z_t_errorPosition, z_t_nested, z_t_orders, z_t_orderWords, z_t_orderCount])), (q_t_owner, .inl (ca 0, 5300, .inl w_6.2.1)), (q_t_row, .inl (ca 0, 45, .inl t_row)), (q_t_times, .inl (ca 0, 5300, .inl w_6.2.2)), (q_t_wheelPrimes, .inl (ca 0, 4, .inl sw_p4))] H := hP
                      have hD : va_D A [(q_t, .inr (8, [z_t_now, z_t_draft, z_t_kept, z_t_snapshot, z_t_history, z_t_accounts, .ref q_t_wheelPrimes, .ref q_t_row, z_t_undoCount, .int w_3.2, z_t_hasSnapshot, .ref q_t_owner, .ref q_t_times, .int w_6.1, z_t_ownerD, z_t_formatted, z_t_formattedLength, z_t_buffer, z_t_bufferLength, z_t_limit, z_t_nextByte, z_t_beginsAt, z_t_token, z_t_error, z_t_errorAt, z_t_errorPosition, z_t_nested, z_t_orders, z_t_orderWords, z_t_orderCount])), (q_t_owner, .inl (ca 0, 5300, .inl w_6.2.1)), (q_t_row, .inl (ca 0, 45, .inl t_row)), (q_t_times, .inl (ca 0, 5300, .inl w_6.2.2)), (q_t_wheelPrimes, .inl (ca 0, 4, .inl sw_p4))] := hD
                      exact sw_ri hx hb hr hlocks hS (w_6.1, w_6.2.1, w_3.2, w_6.2.2) (pr2 h) hP hD dX11_size_138
  · have c_5 := bI_nz.mp c_5
    have h := if_t c_5 h
    refine lv_iconst (v := 0) hx hb dX11_size_14 (by decide) ?_
    exact sw_ri hx hb hr hlocks hS (t_end, t_owner, w_3.2, t_times) (pr2 h) hP hD dX11_size_15
theorem mv_X11_account : sw_MV yX11_account RX11 cX11_account 2 (Option.some Jvm.ClassFile.FieldType.int) 1 := ⟨im_X11_account, se_X11_account, ini_X11, co_X11_account, by decide +kernel⟩
def F_X11_account (x1 : Int32) (t_accounts : (Nat → Int32)) (t_thrown : Int32) : Option (Int32 × (Int32)) :=
 (F_X11_inRange x1 0 4).bind (fun w_1 => (F_X11_lacks w_1 t_thrown).bind (fun w_3 => (if w_3.1 = true then some (0, w_3.2) else ix x1 5 (some ((t_accounts x1.toNatClampNeg), w_3.2)))))
abbrev RM_X11_account : Room := ({ frames := 1, cells := 0, slots := 0, locals := 22 } : Room)
set_option maxHeartbeats 4000000 in
set_option maxRecDepth 100000 in
theorem c_X11_account (l : Launch) (G : va_G) (ca Z : Nat → Nat) (q_t : Nat) (q_t_accounts : Nat) (z_t_now : Value) (z_t_draft : Value) (z_t_kept : Value) (z_t_snapshot : Value) (z_t_history : Value) (z_t_wheelPrimes : Value) (z_t_row : Value) (z_t_undoCount : Value) (z_t_hasSnapshot : Value) (z_t_owner : Value) (z_t_times : Value) (z_t_end : Value) (z_t_ownerD : Value) (z_t_formatted : Value) (z_t_formattedLength : Value) (z_t_buffer : Value) (z_t_bufferLength : Value) (z_t_limit : Value) (z_t_nextByte : Value) (z_t_beginsAt : Value) (z_t_token : Value) (z_t_error : Value) (z_t_errorAt : Value) (z_t_errorPosition : Value) (z_t_nested : Value) (z_t_orders : Value) (z_t_orderWords : Value) (z_t_orderCount : Value) (sz : Nat) (x1 : Int32) (t_accounts : (Nat → Int32)) (t_thrown : Int32) (res : Int32 × (Int32)) (hF : F_X11_account x1 t_accounts t_thrown = some res) : Met l yX11_account (.code yX11_account cX11_account 2 (Option.some Jvm.ClassFile.FieldType.int) :: sw_U) RM_X11_account (va_Pc [.ref q_t, .int x1] (sw_Pre G ca Z [(q_t, .inr (8, [z_t_now, z_t_draft, z_t_kept, z_t_snapshot, z_t_history, .ref q_t_accounts, z_t_wheelPrimes, z_t_row, z_t_undoCount, .int t_thrown, z_t_hasSnapshot, z_t_owner, z_t_times, z_t_end, z_t_ownerD, z_t_formatted, z_t_formattedLength, z_t_buffer, z_t_bufferLength, z_t_limit, z_t_nextByte, z_t_beginsAt, z_t_token, z_t_error, z_t_errorAt, z_t_errorPosition, z_t_nested, z_t_orders, z_t_orderWords, z_t_orderCount])), (q_t_accounts, .inl (ca 0, 5, .inl t_accounts))] sz)) ((fun A => va_Qi (fun r (u : Int32) => res.1 = r ∧ res.2 = u) (sw_Post G A (fun (u : Int32) => [(q_t, .inr (8, [z_t_now, z_t_draft, z_t_kept, z_t_snapshot, z_t_history, .ref q_t_accounts, z_t_wheelPrimes, z_t_row, z_t_undoCount, .int u, z_t_hasSnapshot, z_t_owner, z_t_times, z_t_end, z_t_ownerD, z_t_formatted, z_t_formattedLength, z_t_buffer, z_t_bufferLength, z_t_limit, z_t_nextByte, z_t_beginsAt, z_t_token, z_t_error, z_t_errorAt, z_t_errorPosition, z_t_nested, z_t_orders, z_t_orderWords, z_t_orderCount])), (q_t_accounts, .inl (ca 0, 5, .inl t_accounts))])) A) (va_A [(q_t, .inr (8, [z_t_now, z_t_draft, z_t_kept, z_t_snapshot, z_t_history, .ref q_t_accounts, z_t_wheelPrimes, z_t_row, z_t_undoCount, .int t_thrown, z_t_hasSnapshot, z_t_owner, z_t_times, z_t_end, z_t_ownerD, z_t_formatted, z_t_formattedLength, z_t_buffer, z_t_bufferLength, z_t_limit, z_t_nextByte, z_t_beginsAt, z_t_token, z_t_error, z_t_errorAt, z_t_errorPosition, z_t_nested, z_t_orders, z_t_orderWords, z_t_orderCount])), (q_t_accounts, .inl (ca 0, 5, .inl t_accounts))] sz)) 0 0 (va_A [(q_t, .inr (8, [z_t_now, z_t_draft, z_t_kept, z_t_snapshot, z_t_history, .ref q_t_accounts, z_t_wheelPrimes, z_t_row, z_t_undoCount, .int t_thrown, z_t_hasSnapshot, z_t_owner, z_t_times, z_t_end, z_t_ownerD, z_t_formatted, z_t_formattedLength, z_t_buffer, z_t_bufferLength, z_t_limit, z_t_nextByte, z_t_beginsAt, z_t_token, z_t_error, z_t_errorAt, z_t_errorPosition, z_t_nested, z_t_orders, z_t_orderWords, z_t_orderCount])), (q_t_accounts, .inl (ca 0, 5, .inl t_accounts))] sz) := by
  refine sw_ofW (Qc := fun A => va_Qi (fun r (u : Int32) => res.1 = r ∧ res.2 = u) (sw_Post G A (fun (u : Int32) => [(q_t, .inr (8, [z_t_now, z_t_draft, z_t_kept, z_t_snapshot, z_t_history, .ref q_t_accounts, z_t_wheelPrimes, z_t_row, z_t_undoCount, .int u, z_t_hasSnapshot, z_t_owner, z_t_times, z_t_end, z_t_ownerD, z_t_formatted, z_t_formattedLength, z_t_buffer, z_t_bufferLength, z_t_limit, z_t_nextByte, z_t_beginsAt, z_t_token, z_t_error, z_t_errorAt, z_t_errorPosition, z_t_nested, z_t_orders, z_t_orderWords, z_t_orderCount])), (q_t_accounts, .inl (ca 0, 5, .inl t_accounts))])) A) (by decide) [(0, .ref q_t), (1, .int x1)] rfl (Nat.le_of_ble_eq_true rfl) ?_
  intro p e s m args below meth c ls A hx hb hr hml hown htU hlocks hnm hP hK hD hX hY hS hA hl
  have hown : s.vm.findClass RX11 = some m.cls := hown
  have Cx : sw_Cx p s m args c cX11_account 2 RX11 G ca Z A := ⟨⟨hx, hb, hml, hown, htU⟩, hK, hX, hY, hA⟩
  have h := hF
  unfold F_X11_account at h
  refine lv_aload_n hx hb dX11_account_0 rfl (lv_at hl 0 rfl) ?_
  refine lv_iload_n hx hb dX11_account_1 rfl (lv_at hl 1 rfl) ?_
  refine lv_iconst (v := 0) hx hb dX11_account_2 (by decide) ?_
  refine lv_iconst (v := 4) hx hb dX11_account_3 (by decide) ?_
  obtain ⟨w_1, hg_2, h⟩ := bd_at h
  refine sw_ci (sw_runS (As := [.int x1, .int 0, .int 4]) (rest := [.ref q_t]) Cx hP hD hS ms_X11_inRange ml_X11_81 (c_X11_inRange l G ca Z s.heap.size x1 0 4 w_1 hg_2) [] rfl rfl rfl rfl ⟨(Nat.le_of_ble_eq_true rfl), (Nat.le_of_ble_eq_true rfl)⟩ hl.1 rfl rfl (Nat.le_of_ble_eq_true rfl) dX11_account_4 ⟨(Nat.le_of_ble_eq_true rfl), (Nat.le_of_ble_eq_true rfl)⟩) hP hD hS hA [] [0, 1] [0, 1] rfl rfl rfl (by decide) (fun _ => rfl) rfl (fun r u H locs hw hP hD hS => ?_)
  subst hw
  have hP : va_P G vwCl [(q_t, .inr (8, [z_t_now, z_t_draft, z_t_kept, z_t_snapshot, z_t_history, .ref q_t_accounts, z_t_wheelPrimes, z_t_row, z_t_undoCount, .int t_thrown, z_t_hasSnapshot, z_t_owner, z_t_times, z_t_end, z_t_ownerD, z_t_formatted, z_t_formattedLength, z_t_buffer, z_t_bufferLength, z_t_limit, z_t_nextByte, z_t_beginsAt, z_t_token, z_t_error, z_t_errorAt, z_t_errorPosition, z_t_nested, z_t_orders, z_t_orderWords, z_t_orderCount])), (q_t_accounts, .inl (ca 0, 5, .inl t_accounts))] H := hP
  have hD : va_D A [(q_t, .inr (8, [z_t_now, z_t_draft, z_t_kept, z_t_snapshot, z_t_history, .ref q_t_accounts, z_t_wheelPrimes, z_t_row, z_t_undoCount, .int t_thrown, z_t_hasSnapshot, z_t_owner, z_t_times, z_t_end, z_t_ownerD, z_t_formatted, z_t_formattedLength, z_t_buffer, z_t_bufferLength, z_t_limit, z_t_nextByte, z_t_beginsAt, z_t_token, z_t_error, z_t_errorAt, z_t_errorPosition, z_t_nested, z_t_orders, z_t_orderWords, z_t_orderCount])), (q_t_accounts, .inl (ca 0, 5, .inl t_accounts))] := hD
  obtain ⟨w_3, hg_4, h⟩ := bd_at h
  refine sw_ci (sw_runV (As := [.int (bI w_1)]) (rest := []) Cx hP hD hS mv_X11_lacks ml_X11_125 (c_X11_lacks l G ca Z q_t (z_t_now) (z_t_draft) (z_t_kept) (z_t_snapshot) (z_t_history) (.ref q_t_accounts) (z_t_wheelPrimes) (z_t_row) (z_t_undoCount) (z_t_hasSnapshot) (z_t_owner) (z_t_times) (z_t_end) (z_t_ownerD) (z_t_formatted) (z_t_formattedLength) (z_t_buffer) (z_t_bufferLength) (z_t_limit) (z_t_nextByte) (z_t_beginsAt) (z_t_token) (z_t_error) (z_t_errorAt) (z_t_errorPosition) (z_t_nested) (z_t_orders) (z_t_orderWords) (z_t_orderCount) H.size w_1 t_thrown w_3 hg_4) 8 rfl rfl rfl [0] rfl rfl rfl rfl ⟨(Nat.le_of_ble_eq_true rfl), (Nat.le_of_ble_eq_true rfl)⟩ hl.1 rfl rfl (Nat.le_of_ble_eq_true rfl) dX11_account_7 ⟨(Nat.le_of_ble_eq_true rfl), (Nat.le_of_ble_eq_true rfl)⟩) hP hD hS hA [0] [1] [1, 0] rfl rfl rfl (by decide) (fun _ => rfl) rfl (fun r u H locs hw hP hD hS => ?_)
  obtain ⟨rfl, rfl⟩ := hw
  have hP : va_P G vwCl [(q_t, .inr (8, [z_t_now, z_t_draft, z_t_kept, z_t_snapshot, z_t_history, .ref q_t_accounts, z_t_wheelPrimes, z_t_row, z_t_undoCount, .int w_3.2, z_t_hasSnapshot, z_t_owner, z_t_times, z_t_end, z_t_ownerD, z_t_formatted, z_t_formattedLength, z_t_buffer, z_t_bufferLength, z_t_limit, z_t_nextByte, z_t_beginsAt, z_t_token, z_t_error, z_t_errorAt, z_t_errorPosition, z_t_nested, z_t_orders, z_t_orderWords, z_t_orderCount])), (q_t_accounts, .inl (ca 0, 5, .inl t_accounts))] H := hP
  have hD : va_D A [(q_t, .inr (8, [z_t_now, z_t_draft, z_t_kept, z_t_snapshot, z_t_history, .ref q_t_accounts, z_t_wheelPrimes, z_t_row, z_t_undoCount, .int w_3.2, z_t_hasSnapshot, z_t_owner, z_t_times, z_t_end, z_t_ownerD, z_t_formatted, z_t_formattedLength, z_t_buffer, z_t_bufferLength, z_t_limit, z_t_nextByte, z_t_beginsAt, z_t_token, z_t_error, z_t_errorAt, z_t_errorPosition, z_t_nested, z_t_orders, z_t_orderWords, z_t_orderCount])), (q_t_accounts, .inl (ca 0, 5, .inl t_accounts))] := hD
  refine lv_if_eq (tgt := 17) hx hb dX11_account_10 (by decide) (fun c_5 => ?_) (fun c_5 => ?_)
  · have c_5 := bI_z.mp c_5
    have h := if_f c_5 h
    refine lv_aload_n hx hb dX11_account_17 rfl (lv_at hl 0 rfl) ?_
    refine va_get (v := .ref q_t_accounts) hx hb htU iU_X11 hown hK hP 0 rfl rfl 5 (by decide) (htU _ fl_X11_25) (fun _ h9 => h9) rfl dX11_account_18 ?_
    refine lv_iload_n hx hb dX11_account_21 rfl (lv_at hl 1 rfl) ?_
    obtain ⟨hi_6, h⟩ := ix_at h
    refine va_iald hx hb hK hP 1 0 rfl rfl hi_6 dX11_account_22 ?_
    exact sw_ri hx hb hr hlocks hS w_3.2 (pr2 h) hP hD dX11_account_23
  · have c_5 := bI_nz.mp c_5
    have h := if_t c_5 h
    refine lv_iconst (v := 0) hx hb dX11_account_13 (by decide) ?_
    refine lv_goto (tgt := 23) hx hb dX11_account_14 (by decide) ?_
    exact sw_ri hx hb hr hlocks hS w_3.2 (pr2 h) hP hD dX11_account_23
theorem mv_X11_firstMark : sw_MV yX11_firstMark RX11 cX11_firstMark 4 (Option.some Jvm.ClassFile.FieldType.int) 2 := ⟨im_X11_firstMark, se_X11_firstMark, ini_X11, co_X11_firstMark, by decide +kernel⟩
def B_X11_firstMark_2 (x1 : Int32) (x2 : Int32) (t_end : Int32) (t_row : (Nat → Int32)) (t_times : (Nat → Int32)) (k_2 : Int32 → Option (Int32)) (x3 : Int32) : Option (Int32) :=
 (if x2 < x3 then some (-1) else (F_X11_isMark x3 t_end t_row t_times).bind (fun w_2 => (if w_2 = true then some x3 else nm (x3 + 1) (fun x3_5 => k_2 x3_5))))
def F_X11_firstMark (x1 : Int32) (x2 : Int32) (t_end : Int32) (t_row : (Nat → Int32)) (t_times : (Nat → Int32)) : Option (Int32) :=
 fx (fun _ => none) (B_X11_firstMark_2 x1 x2 t_end t_row t_times) FUEL x1
abbrev RM_X11_firstMark : Room := ({ frames := 3, cells := 0, slots := 0, locals := 64 } : Room)
set_option maxHeartbeats 4000000 in
set_option maxRecDepth 100000 in
theorem c_X11_firstMark (l : Launch) (G : va_G) (ca Z : Nat → Nat) (q_t : Nat) (q_t_row : Nat) (q_t_times : Nat) (q_t_wheelPrimes : Nat) (z_t_now : Value) (z_t_draft : Value) (z_t_kept : Value) (z_t_snapshot : Value) (z_t_history : Value) (z_t_accounts : Value) (z_t_undoCount : Value) (z_t_thrown : Value) (z_t_hasSnapshot : Value) (z_t_owner : Value) (z_t_ownerD : Value) (z_t_formatted : Value) (z_t_formattedLength : Value) (z_t_buffer : Value) (z_t_bufferLength : Value) (z_t_limit : Value) (z_t_nextByte : Value) (z_t_beginsAt : Value) (z_t_token : Value) (z_t_error : Value) (z_t_errorAt : Value) (z_t_errorPosition : Value) (z_t_nested : Value) (z_t_orders : Value) (z_t_orderWords : Value) (z_t_orderCount : Value) (sz : Nat) (x1 : Int32) (x2 : Int32) (t_end : Int32) (t_row : (Nat → Int32)) (t_times : (Nat → Int32)) (res : Int32) (hF : F_X11_firstMark x1 x2 t_end t_row t_times = some res) : Met l yX11_firstMark (.code yX11_firstMark cX11_firstMark 4 (Option.some Jvm.ClassFile.FieldType.int) :: sw_U) RM_X11_firstMark (va_Pc [.ref q_t, .int x1, .int x2] (sw_Pre G ca Z [(q_t, .inr (8, [z_t_now, z_t_draft, z_t_kept, z_t_snapshot, z_t_history, z_t_accounts, .ref q_t_wheelPrimes, .ref q_t_row, z_t_undoCount, z_t_thrown, z_t_hasSnapshot, z_t_owner, .ref q_t_times, .int t_end, z_t_ownerD, z_t_formatted, z_t_formattedLength, z_t_buffer, z_t_bufferLength, z_t_limit, z_t_nextByte, z_t_beginsAt, z_t_token, z_t_error, z_t_errorAt, z_t_errorPosition, z_t_nested, z_t_orders, z_t_orderWords, z_t_orderCount])), (q_t_row, .inl (ca 0, 45, .inl t_row)), (q_t_times, .inl (ca 0, 5300, .inl t_times)), (q_t_wheelPrimes, .inl (ca 0, 4, .inl sw_p4))] sz)) ((fun A => va_Qi (fun r (u : Unit) => res = r) (sw_Post G A (fun (u : Unit) => [(q_t, .inr (8, [z_t_now, z_t_draft, z_t_kept, z_t_snapshot, z_t_history, z_t_accounts, .ref q_t_wheelPrimes, .ref q_t_row, z_t_undoCount, z_t_thrown, z_t_hasSnapshot, z_t_owner, .ref q_t_times, .int t_end, z_t_ownerD, z_t_formatted, z_t_formattedLength, z_t_buffer, z_t_bufferLength, z_t_limit, z_t_nextByte, z_t_beginsAt, z_t_token, z_t_error, z_t_errorAt, z_t_errorPosition, z_t_nested, z_t_orders, z_t_orderWords, z_t_orderCount])), (q_t_row, .inl (ca 0, 45, .inl t_row)), (q_t_times, .inl (ca 0, 5300, .inl t_times)), (q_t_wheelPrimes, .inl (ca 0, 4, .inl sw_p4))])) A) (va_A [(q_t, .inr (8, [z_t_now, z_t_draft, z_t_kept, z_t_snapshot, z_t_history, z_t_accounts, .ref q_t_wheelPrimes, .ref q_t_row, z_t_undoCount, z_t_thrown, z_t_hasSnapshot, z_t_owner, .ref q_t_times, .int t_end, z_t_ownerD, z_t_formatted, z_t_formattedLength, z_t_buffer, z_t_bufferLength, z_t_limit, z_t_nextByte, z_t_beginsAt, z_t_token, z_t_error, z_t_errorAt, z_t_errorPosition, z_t_nested, z_t_orders, z_t_orderWords, z_t_orderCount])), (q_t_row, .inl (ca 0, 45, .inl t_row)), (q_t_times, .inl (ca 0, 5300, .inl t_times)), (q_t_wheelPrimes, .inl (ca 0, 4, .inl sw_p4))] sz)) 0 0 (va_A [(q_t, .inr (8, [z_t_now, z_t_draft, z_t_kept, z_t_snapshot, z_t_history, z_t_accounts, .ref q_t_wheelPrimes, .ref q_t_row, z_t_undoCount, z_t_thrown, z_t_hasSnapshot, z_t_owner, .ref q_t_times, .int t_end, z_t_ownerD, z_t_formatted, z_t_formattedLength, z_t_buffer, z_t_bufferLength, z_t_limit, z_t_nextByte, z_t_beginsAt, z_t_token, z_t_error, z_t_errorAt, z_t_errorPosition, z_t_nested, z_t_orders, z_t_orderWords, z_t_orderCount])), (q_t_row, .inl (ca 0, 45, .inl t_row)), (q_t_times, .inl (ca 0, 5300, .inl t_times)), (q_t_wheelPrimes, .inl (ca 0, 4, .inl sw_p4))] sz) := by
  refine sw_ofW (Qc := fun A => va_Qi (fun r (u : Unit) => res = r) (sw_Post G A (fun (u : Unit) => [(q_t, .inr (8, [z_t_now, z_t_draft, z_t_kept, z_t_snapshot, z_t_history, z_t_accounts, .ref q_t_wheelPrimes, .ref q_t_row, z_t_undoCount, z_t_thrown, z_t_hasSnapshot, z_t_owner, .ref q_t_times, .int t_end, z_t_ownerD, z_t_formatted, z_t_formattedLength, z_t_buffer, z_t_bufferLength, z_t_limit, z_t_nextByte, z_t_beginsAt, z_t_token, z_t_error, z_t_errorAt, z_t_errorPosition, z_t_nested, z_t_orders, z_t_orderWords, z_t_orderCount])), (q_t_row, .inl (ca 0, 45, .inl t_row)), (q_t_times, .inl (ca 0, 5300, .inl t_times)), (q_t_wheelPrimes, .inl (ca 0, 4, .inl sw_p4))])) A) (by decide) [(0, .ref q_t), (1, .int x1), (2, .int x2)] rfl (Nat.le_of_ble_eq_true rfl) ?_
  intro p e s m args below meth c ls A hx hb hr hml hown htU hlocks hnm hP hK hD hX hY hS hA hl
  have hown : s.vm.findClass RX11 = some m.cls := hown
  have Cx : sw_Cx p s m args c cX11_firstMark 4 RX11 G ca Z A := ⟨⟨hx, hb, hml, hown, htU⟩, hK, hX, hY, hA⟩
  have h := hF
  unfold F_X11_firstMark at h
  have hL_2 : ∀ (n_2 : Nat) (x3 : Int32) (ls : Array Slot) (H : Heap) (locs : List Loc), lv_has ls 4 [(0, .ref q_t), (2, .int x2), (3, .int x3)] → va_P G vwCl [(q_t, .inr (8, [z_t_now, z_t_draft, z_t_kept, z_t_snapshot, z_t_history, z_t_accounts, .ref q_t_wheelPrimes, .ref q_t_row, z_t_undoCount, z_t_thrown, z_t_hasSnapshot, z_t_owner, .ref q_t_times, .int t_end, z_t_ownerD, z_t_formatted, z_t_formattedLength, z_t_buffer, z_t_bufferLength, z_t_limit, z_t_nextByte, z_t_beginsAt, z_t_token, z_t_error, z_t_errorAt, z_t_errorPosition, z_t_nested, z_t_orders, z_t_orderWords, z_t_orderCount])), (q_t_row, .inl (ca 0, 45, .inl t_row)), (q_t_times, .inl (ca 0, 5300, .inl t_times)), (q_t_wheelPrimes, .inl (ca 0, 4, .inl sw_p4))] H → va_D A [(q_t, .inr (8, [z_t_now, z_t_draft, z_t_kept, z_t_snapshot, z_t_history, z_t_accounts, .ref q_t_wheelPrimes, .ref q_t_row, z_t_undoCount, z_t_thrown, z_t_hasSnapshot, z_t_owner, .ref q_t_times, .int t_end, z_t_ownerD, z_t_formatted, z_t_formattedLength, z_t_buffer, z_t_bufferLength, z_t_limit, z_t_nextByte, z_t_beginsAt, z_t_token, z_t_error, z_t_errorAt, z_t_errorPosition, z_t_nested, z_t_orders, z_t_orderWords, z_t_orderCount])), (q_t_row, .inl (ca 0, 45, .inl t_row)), (q_t_times, .inl (ca 0, 5300, .inl t_times)), (q_t_wheelPrimes, .inl (ca 0, 4, .inl sw_p4))] → va_S A s.heap H locs → fx (fun _ => none) (B_X11_firstMark_2 x1 x2 t_end t_row t_times) n_2 x3 = some res → W p l e RM_X11_firstMark s m args below meth c H locs 0 0 (MQ below ((fun A => va_Qi (fun r (u : Unit) => res = r) (sw_Post G A (fun (u : Unit) => [(q_t, .inr (8, [z_t_now, z_t_draft, z_t_kept, z_t_snapshot, z_t_history, z_t_accounts, .ref q_t_wheelPrimes, .ref q_t_row, z_t_undoCount, z_t_thrown, z_t_hasSnapshot, z_t_owner, .ref q_t_times, .int t_end, z_t_ownerD, z_t_formatted, z_t_formattedLength, z_t_buffer, z_t_bufferLength, z_t_limit, z_t_nextByte, z_t_beginsAt, z_t_token, z_t_error, z_t_errorAt, z_t_errorPosition, z_t_nested, z_t_orders, z_t_orderWords, z_t_orderCount])), (q_t_row, .inl (ca 0, 45, .inl t_row)), (q_t_times, .inl (ca 0, 5300, .inl t_times)), (q_t_wheelPrimes, .inl (ca 0, 4, .inl sw_p4))])) A) A) args s 0 0 A) (F0 m 2 ls []) := by
    intro n_2
    induction n_2 with
    | zero => intro x3 ls H locs hl hP hD hS h; exact no_at h
    | succ n_2 ih_2 =>
      intro x3 ls H locs hl hP hD hS h
      rw [fx_s] at h
      unfold B_X11_firstMark_2 at h
      refine lv_iload_n hx hb dX11_firstMark_2 rfl (lv_at hl 2 rfl) ?_
      refine lv_iload_n hx hb dX11_firstMark_3 rfl (lv_at hl 1 rfl) ?_
      refine lv_icmp_gt (tgt := 23) hx hb dX11_firstMark_4 (by decide) (fun c_1 => ?_) (fun c_1 => ?_)
      · have h := if_t c_1 h
        refine lv_iconst (v := (-1)) hx hb dX11_firstMark_23 (by decide) ?_
        exact sw_ri hx hb hr hlocks hS () (pr1 h) hP hD dX11_firstMark_24
      · have h := if_f c_1 h
        refine lv_aload_n hx hb dX11_firstMark_7 rfl (lv_at hl 0 rfl) ?_
        refine lv_iload_n hx hb dX11_firstMark_8 rfl (lv_at hl 2 rfl) ?_
        obtain ⟨w_2, hg_3, h⟩ := bd_at h
        refine sw_ci (sw_runV (As := [.int x3]) (rest := []) Cx hP hD hS mv_X11_isMark ml_X11_107 (c_X11_isMark l G ca Z q_t q_t_row q_t_times q_t_wheelPrimes (z_t_now) (z_t_draft) (z_t_kept) (z_t_snapshot) (z_t_history) (z_t_accounts) (z_t_undoCount) (z_t_thrown) (z_t_hasSnapshot) (z_t_owner) (z_t_ownerD) (z_t_formatted) (z_t_formattedLength) (z_t_buffer) (z_t_bufferLength) (z_t_limit) (z_t_nextByte) (z_t_beginsAt) (z_t_token) (z_t_error) (z_t_errorAt) (z_t_errorPosition) (z_t_nested) (z_t_orders) (z_t_orderWords) (z_t_orderCount) H.size x3 t_end t_row t_times w_2 hg_3) 8 rfl rfl rfl [0, 1, 2, 3] rfl rfl rfl rfl ⟨(Nat.le_of_ble_eq_true rfl), (Nat.le_of_ble_eq_true rfl)⟩ hl.1 rfl rfl (Nat.le_of_ble_eq_true rfl) dX11_firstMark_9 ⟨(Nat.le_of_ble_eq_true rfl), (Nat.le_of_ble_eq_true rfl)⟩) hP hD hS hA [0, 1, 2, 3] [] [0, 1, 2, 3] rfl rfl rfl (by decide) (fun _ => rfl) rfl (fun r u H locs hw hP hD hS => ?_)
        subst hw
        have hP : va_P G vwCl [(q_t, .inr (8, [z_t_now, z_t_draft, z_t_kept, z_t_snapshot, z_t_history, z_t_accounts, .ref q_t_wheelPrimes, .ref q_t_row, z_t_undoCount, z_t_thrown, z_t_hasSnapshot, z_t_owner, .ref q_t_times, .int t_end, z_t_ownerD, z_t_formatted, z_t_formattedLength, z_t_buffer, z_t_bufferLength, z_t_limit, z_t_nextByte, z_t_beginsAt, z_t_token, z_t_error, z_t_errorAt, z_t_errorPosition, z_t_nested, z_t_orders, z_t_orderWords, z_t_orderCount])), (q_t_row, .inl (ca 0, 45, .inl t_row)), (q_t_times, .inl (ca 0, 5300, .inl t_times)), (q_t_wheelPrimes, .inl (ca 0, 4, .inl sw_p4))] H := hP
        have hD : va_D A [(q_t, .inr (8, [z_t_now, z_t_draft, z_t_kept, z_t_snapshot, z_t_history, z_t_accounts, .ref q_t_wheelPrimes, .ref q_t_row, z_t_undoCount, z_t_thrown, z_t_hasSnapshot, z_t_owner, .ref q_t_times, .int t_end, z_t_ownerD, z_t_formatted, z_t_formattedLength, z_t_buffer, z_t_bufferLength, z_t_limit, z_t_nextByte, z_t_beginsAt, z_t_token, z_t_error, z_t_errorAt, z_t_errorPosition, z_t_nested, z_t_orders, z_t_orderWords, z_t_orderCount])), (q_t_row, .inl (ca 0, 45, .inl t_row)), (q_t_times, .inl (ca 0, 5300, .inl t_times)), (q_t_wheelPrimes, .inl (ca 0, 4, .inl sw_p4))] := hD
        refine lv_if_eq (tgt := 17) hx hb dX11_firstMark_12 (by decide) (fun c_4 => ?_) (fun c_4 => ?_)
        · have c_4 := bI_z.mp c_4
          have h := if_f c_4 h
          obtain ⟨x3_5, e_x3_5⟩ : ∃ y : Int32, y = x3 + 1 := ⟨_, rfl⟩
          refine lv_iinc (v := x3_5) (lv' := [(3, .int x3_5), (0, .ref q_t), (2, .int x2)]) hx hb dX11_firstMark_17 hl (k := 2) rfl (by rw [e_x3_5]; rfl) (by decide) rfl (fun ls hl => ?_)
          have h := nm_at e_x3_5 h
          refine lv_goto (tgt := 2) hx hb dX11_firstMark_20 (by decide) ?_
          exact ih_2 x3_5 ls H _ (lv_sub hl [1, 2, 0] rfl) hP hD hS h
        · have c_4 := bI_nz.mp c_4
          have h := if_t c_4 h
          refine lv_iload_n hx hb dX11_firstMark_15 rfl (lv_at hl 2 rfl) ?_
          exact sw_ri hx hb hr hlocks hS () (pr1 h) hP hD dX11_firstMark_16
  refine lv_iload_n hx hb dX11_firstMark_0 rfl (lv_at hl 1 rfl) ?_
  refine lv_istore_n (lv' := [(3, .int x1), (0, .ref q_t), (1, .int x1), (2, .int x2)]) hx hb dX11_firstMark_1 rfl hl (by decide) rfl (fun ls hl => ?_)
  exact hL_2 FUEL x1 ls s.heap _ (lv_sub hl [1, 3, 0] rfl) hP hD hS h
theorem mv_X11_lastMark : sw_MV yX11_lastMark RX11 cX11_lastMark 4 (Option.some Jvm.ClassFile.FieldType.int) 2 := ⟨im_X11_lastMark, se_X11_lastMark, ini_X11, co_X11_lastMark, by decide +kernel⟩
def B_X11_lastMark_2 (x1 : Int32) (x2 : Int32) (t_end : Int32) (t_row : (Nat → Int32)) (t_times : (Nat → Int32)) (k_2 : Int32 → Option (Int32)) (x3 : Int32) : Option (Int32) :=
 (if x3 < x1 then some (-1) else (F_X11_isMark x3 t_end t_row t_times).bind (fun w_2 => (if w_2 = true then some x3 else nm (x3 + (-1)) (fun x3_5 => k_2 x3_5))))
def F_X11_lastMark (x1 : Int32) (x2 : Int32) (t_end : Int32) (t_row : (Nat → Int32)) (t_times : (Nat → Int32)) : Option (Int32) :=
 fx (fun _ => none) (B_X11_lastMark_2 x1 x2 t_end t_row t_times) FUEL x2
abbrev RM_X11_lastMark : Room := ({ frames := 3, cells := 0, slots := 0, locals := 64 } : Room)
set_option maxHeartbeats 4000000 in
set_option maxRecDepth 100000 in
theorem c_X11_lastMark (l : Launch) (G : va_G) (ca Z : Nat → Nat) (q_t : Nat) (q_t_row : Nat) (q_t_times : Nat) (q_t_wheelPrimes : Nat) (z_t_now : Value) (z_t_draft : Value) (z_t_kept : Value) (z_t_snapshot : Value) (z_t_history : Value) (z_t_accounts : Value) (z_t_undoCount : Value) (z_t_thrown : Value) (z_t_hasSnapshot : Value) (z_t_owner : Value) (z_t_ownerD : Value) (z_t_formatted : Value) (z_t_formattedLength : Value) (z_t_buffer : Value) (z_t_bufferLength : Value) (z_t_limit : Value) (z_t_nextByte : Value) (z_t_beginsAt : Value) (z_t_token : Value) (z_t_error : Value) (z_t_errorAt : Value) (z_t_errorPosition : Value) (z_t_nested : Value) (z_t_orders : Value) (z_t_orderWords : Value) (z_t_orderCount : Value) (sz : Nat) (x1 : Int32) (x2 : Int32) (t_end : Int32) (t_row : (Nat → Int32)) (t_times : (Nat → Int32)) (res : Int32) (hF : F_X11_lastMark x1 x2 t_end t_row t_times = some res) : Met l yX11_lastMark (.code yX11_lastMark cX11_lastMark 4 (Option.some Jvm.ClassFile.FieldType.int) :: sw_U) RM_X11_lastMark (va_Pc [.ref q_t, .int x1, .int x2] (sw_Pre G ca Z [(q_t, .inr (8, [z_t_now, z_t_draft, z_t_kept, z_t_snapshot, z_t_history, z_t_accounts, .ref q_t_wheelPrimes, .ref q_t_row, z_t_undoCount, z_t_thrown, z_t_hasSnapshot, z_t_owner, .ref q_t_times, .int t_end, z_t_ownerD, z_t_formatted, z_t_formattedLength, z_t_buffer, z_t_bufferLength, z_t_limit, z_t_nextByte, z_t_beginsAt, z_t_token, z_t_error, z_t_errorAt, z_t_errorPosition, z_t_nested, z_t_orders, z_t_orderWords, z_t_orderCount])), (q_t_row, .inl (ca 0, 45, .inl t_row)), (q_t_times, .inl (ca 0, 5300, .inl t_times)), (q_t_wheelPrimes, .inl (ca 0, 4, .inl sw_p4))] sz)) ((fun A => va_Qi (fun r (u : Unit) => res = r) (sw_Post G A (fun (u : Unit) => [(q_t, .inr (8, [z_t_now, z_t_draft, z_t_kept, z_t_snapshot, z_t_history, z_t_accounts, .ref q_t_wheelPrimes, .ref q_t_row, z_t_undoCount, z_t_thrown, z_t_hasSnapshot, z_t_owner, .ref q_t_times, .int t_end, z_t_ownerD, z_t_formatted, z_t_formattedLength, z_t_buffer, z_t_bufferLength, z_t_limit, z_t_nextByte, z_t_beginsAt, z_t_token, z_t_error, z_t_errorAt, z_t_errorPosition, z_t_nested, z_t_orders, z_t_orderWords, z_t_orderCount])), (q_t_row, .inl (ca 0, 45, .inl t_row)), (q_t_times, .inl (ca 0, 5300, .inl t_times)), (q_t_wheelPrimes, .inl (ca 0, 4, .inl sw_p4))])) A) (va_A [(q_t, .inr (8, [z_t_now, z_t_draft, z_t_kept, z_t_snapshot, z_t_history, z_t_accounts, .ref q_t_wheelPrimes, .ref q_t_row, z_t_undoCount, z_t_thrown, z_t_hasSnapshot, z_t_owner, .ref q_t_times, .int t_end, z_t_ownerD, z_t_formatted, z_t_formattedLength, z_t_buffer, z_t_bufferLength, z_t_limit, z_t_nextByte, z_t_beginsAt, z_t_token, z_t_error, z_t_errorAt, z_t_errorPosition, z_t_nested, z_t_orders, z_t_orderWords, z_t_orderCount])), (q_t_row, .inl (ca 0, 45, .inl t_row)), (q_t_times, .inl (ca 0, 5300, .inl t_times)), (q_t_wheelPrimes, .inl (ca 0, 4, .inl sw_p4))] sz)) 0 0 (va_A [(q_t, .inr (8, [z_t_now, z_t_draft, z_t_kept, z_t_snapshot, z_t_history, z_t_accounts, .ref q_t_wheelPrimes, .ref q_t_row, z_t_undoCount, z_t_thrown, z_t_hasSnapshot, z_t_owner, .ref q_t_times, .int t_end, z_t_ownerD, z_t_formatted, z_t_formattedLength, z_t_buffer, z_t_bufferLength, z_t_limit, z_t_nextByte, z_t_beginsAt, z_t_token, z_t_error, z_t_errorAt, z_t_errorPosition, z_t_nested, z_t_orders, z_t_orderWords, z_t_orderCount])), (q_t_row, .inl (ca 0, 45, .inl t_row)), (q_t_times, .inl (ca 0, 5300, .inl t_times)), (q_t_wheelPrimes, .inl (ca 0, 4, .inl sw_p4))] sz) := by
  refine sw_ofW (Qc := fun A => va_Qi (fun r (u : Unit) => res = r) (sw_Post G A (fun (u : Unit) => [(q_t, .inr (8, [z_t_now, z_t_draft, z_t_kept, z_t_snapshot, z_t_history, z_t_accounts, .ref q_t_wheelPrimes, .ref q_t_row, z_t_undoCount, z_t_thrown, z_t_hasSnapshot, z_t_owner, .ref q_t_times, .int t_end, z_t_ownerD, z_t_formatted, z_t_formattedLength, z_t_buffer, z_t_bufferLength, z_t_limit, z_t_nextByte, z_t_beginsAt, z_t_token, z_t_error, z_t_errorAt, z_t_errorPosition, z_t_nested, z_t_orders, z_t_orderWords, z_t_orderCount])), (q_t_row, .inl (ca 0, 45, .inl t_row)), (q_t_times, .inl (ca 0, 5300, .inl t_times)), (q_t_wheelPrimes, .inl (ca 0, 4, .inl sw_p4))])) A) (by decide) [(0, .ref q_t), (1, .int x1), (2, .int x2)] rfl (Nat.le_of_ble_eq_true rfl) ?_
  intro p e s m args below meth c ls A hx hb hr hml hown htU hlocks hnm hP hK hD hX hY hS hA hl
  have hown : s.vm.findClass RX11 = some m.cls := hown
  have Cx : sw_Cx p s m args c cX11_lastMark 4 RX11 G ca Z A := ⟨⟨hx, hb, hml, hown, htU⟩, hK, hX, hY, hA⟩
  have h := hF
  unfold F_X11_lastMark at h
  have hL_2 : ∀ (n_2 : Nat) (x3 : Int32) (ls : Array Slot) (H : Heap) (locs : List Loc), lv_has ls 4 [(0, .ref q_t), (1, .int x1), (3, .int x3)] → va_P G vwCl [(q_t, .inr (8, [z_t_now, z_t_draft, z_t_kept, z_t_snapshot, z_t_history, z_t_accounts, .ref q_t_wheelPrimes, .ref q_t_row, z_t_undoCount, z_t_thrown, z_t_hasSnapshot, z_t_owner, .ref q_t_times, .int t_end, z_t_ownerD, z_t_formatted, z_t_formattedLength, z_t_buffer, z_t_bufferLength, z_t_limit, z_t_nextByte, z_t_beginsAt, z_t_token, z_t_error, z_t_errorAt, z_t_errorPosition, z_t_nested, z_t_orders, z_t_orderWords, z_t_orderCount])), (q_t_row, .inl (ca 0, 45, .inl t_row)), (q_t_times, .inl (ca 0, 5300, .inl t_times)), (q_t_wheelPrimes, .inl (ca 0, 4, .inl sw_p4))] H → va_D A [(q_t, .inr (8, [z_t_now, z_t_draft, z_t_kept, z_t_snapshot, z_t_history, z_t_accounts, .ref q_t_wheelPrimes, .ref q_t_row, z_t_undoCount, z_t_thrown, z_t_hasSnapshot, z_t_owner, .ref q_t_times, .int t_end, z_t_ownerD, z_t_formatted, z_t_formattedLength, z_t_buffer, z_t_bufferLength, z_t_limit, z_t_nextByte, z_t_beginsAt, z_t_token, z_t_error, z_t_errorAt, z_t_errorPosition, z_t_nested, z_t_orders, z_t_orderWords, z_t_orderCount])), (q_t_row, .inl (ca 0, 45, .inl t_row)), (q_t_times, .inl (ca 0, 5300, .inl t_times)), (q_t_wheelPrimes, .inl (ca 0, 4, .inl sw_p4))] → va_S A s.heap H locs → fx (fun _ => none) (B_X11_lastMark_2 x1 x2 t_end t_row t_times) n_2 x3 = some res → W p l e RM_X11_lastMark s m args below meth c H locs 0 0 (MQ below ((fun A => va_Qi (fun r (u : Unit) => res = r) (sw_Post G A (fun (u : Unit) => [(q_t, .inr (8, [z_t_now, z_t_draft, z_t_kept, z_t_snapshot, z_t_history, z_t_accounts, .ref q_t_wheelPrimes, .ref q_t_row, z_t_undoCount, z_t_thrown, z_t_hasSnapshot, z_t_owner, .ref q_t_times, .int t_end, z_t_ownerD, z_t_formatted, z_t_formattedLength, z_t_buffer, z_t_bufferLength, z_t_limit, z_t_nextByte, z_t_beginsAt, z_t_token, z_t_error, z_t_errorAt, z_t_errorPosition, z_t_nested, z_t_orders, z_t_orderWords, z_t_orderCount])), (q_t_row, .inl (ca 0, 45, .inl t_row)), (q_t_times, .inl (ca 0, 5300, .inl t_times)), (q_t_wheelPrimes, .inl (ca 0, 4, .inl sw_p4))])) A) A) args s 0 0 A) (F0 m 2 ls []) := by
    intro n_2
    induction n_2 with
    | zero => intro x3 ls H locs hl hP hD hS h; exact no_at h
    | succ n_2 ih_2 =>
      intro x3 ls H locs hl hP hD hS h
      rw [fx_s] at h
      unfold B_X11_lastMark_2 at h
      refine lv_iload_n hx hb dX11_lastMark_2 rfl (lv_at hl 2 rfl) ?_
      refine lv_iload_n hx hb dX11_lastMark_3 rfl (lv_at hl 1 rfl) ?_
      refine lv_icmp_lt (tgt := 23) hx hb dX11_lastMark_4 (by decide) (fun c_1 => ?_) (fun c_1 => ?_)
      · have h := if_t c_1 h
        refine lv_iconst (v := (-1)) hx hb dX11_lastMark_23 (by decide) ?_
        exact sw_ri hx hb hr hlocks hS () (pr1 h) hP hD dX11_lastMark_24
      · have h := if_f c_1 h
        refine lv_aload_n hx hb dX11_lastMark_7 rfl (lv_at hl 0 rfl) ?_
        refine lv_iload_n hx hb dX11_lastMark_8 rfl (lv_at hl 2 rfl) ?_
        obtain ⟨w_2, hg_3, h⟩ := bd_at h
        refine sw_ci (sw_runV (As := [.int x3]) (rest := []) Cx hP hD hS mv_X11_isMark ml_X11_107 (c_X11_isMark l G ca Z q_t q_t_row q_t_times q_t_wheelPrimes (z_t_now) (z_t_draft) (z_t_kept) (z_t_snapshot) (z_t_history) (z_t_accounts) (z_t_undoCount) (z_t_thrown) (z_t_hasSnapshot) (z_t_owner) (z_t_ownerD) (z_t_formatted) (z_t_formattedLength) (z_t_buffer) (z_t_bufferLength) (z_t_limit) (z_t_nextByte) (z_t_beginsAt) (z_t_token) (z_t_error) (z_t_errorAt) (z_t_errorPosition) (z_t_nested) (z_t_orders) (z_t_orderWords) (z_t_orderCount) H.size x3 t_end t_row t_times w_2 hg_3) 8 rfl rfl rfl [0, 1, 2, 3] rfl rfl rfl rfl ⟨(Nat.le_of_ble_eq_true rfl), (Nat.le_of_ble_eq_true rfl)⟩ hl.1 rfl rfl (Nat.le_of_ble_eq_true rfl) dX11_lastMark_9 ⟨(Nat.le_of_ble_eq_true rfl), (Nat.le_of_ble_eq_true rfl)⟩) hP hD hS hA [0, 1, 2, 3] [] [0, 1, 2, 3] rfl rfl rfl (by decide) (fun _ => rfl) rfl (fun r u H locs hw hP hD hS => ?_)
        subst hw
        have hP : va_P G vwCl [(q_t, .inr (8, [z_t_now, z_t_draft, z_t_kept, z_t_snapshot, z_t_history, z_t_accounts, .ref q_t_wheelPrimes, .ref q_t_row, z_t_undoCount, z_t_thrown, z_t_hasSnapshot, z_t_owner, .ref q_t_times, .int t_end, z_t_ownerD, z_t_formatted, z_t_formattedLength, z_t_buffer, z_t_bufferLength, z_t_limit, z_t_nextByte, z_t_beginsAt, z_t_token, z_t_error, z_t_errorAt, z_t_errorPosition, z_t_nested, z_t_orders, z_t_orderWords, z_t_orderCount])), (q_t_row, .inl (ca 0, 45, .inl t_row)), (q_t_times, .inl (ca 0, 5300, .inl t_times)), (q_t_wheelPrimes, .inl (ca 0, 4, .inl sw_p4))] H := hP
        have hD : va_D A [(q_t, .inr (8, [z_t_now, z_t_draft, z_t_kept, z_t_snapshot, z_t_history, z_t_accounts, .ref q_t_wheelPrimes, .ref q_t_row, z_t_undoCount, z_t_thrown, z_t_hasSnapshot, z_t_owner, .ref q_t_times, .int t_end, z_t_ownerD, z_t_formatted, z_t_formattedLength, z_t_buffer, z_t_bufferLength, z_t_limit, z_t_nextByte, z_t_beginsAt, z_t_token, z_t_error, z_t_errorAt, z_t_errorPosition, z_t_nested, z_t_orders, z_t_orderWords, z_t_orderCount])), (q_t_row, .inl (ca 0, 45, .inl t_row)), (q_t_times, .inl (ca 0, 5300, .inl t_times)), (q_t_wheelPrimes, .inl (ca 0, 4, .inl sw_p4))] := hD
        refine lv_if_eq (tgt := 17) hx hb dX11_lastMark_12 (by decide) (fun c_4 => ?_) (fun c_4 => ?_)
        · have c_4 := bI_z.mp c_4
          have h := if_f c_4 h
          obtain ⟨x3_5, e_x3_5⟩ : ∃ y : Int32, y = x3 + (-1) := ⟨_, rfl⟩
          refine lv_iinc (v := x3_5) (lv' := [(3, .int x3_5), (0, .ref q_t), (1, .int x1)]) hx hb dX11_lastMark_17 hl (k := 2) rfl (by rw [e_x3_5]; rfl) (by decide) rfl (fun ls hl => ?_)
          have h := nm_at e_x3_5 h
          refine lv_goto (tgt := 2) hx hb dX11_lastMark_20 (by decide) ?_
          exact ih_2 x3_5 ls H _ (lv_sub hl [1, 2, 0] rfl) hP hD hS h
        · have c_4 := bI_nz.mp c_4
          have h := if_t c_4 h
          refine lv_iload_n hx hb dX11_lastMark_15 rfl (lv_at hl 2 rfl) ?_
          exact sw_ri hx hb hr hlocks hS () (pr1 h) hP hD dX11_lastMark_16
  refine lv_iload_n hx hb dX11_lastMark_0 rfl (lv_at hl 2 rfl) ?_
  refine lv_istore_n (lv' := [(3, .int x2), (0, .ref q_t), (1, .int x1), (2, .int x2)]) hx hb dX11_lastMark_1 rfl hl (by decide) rfl (fun ls hl => ?_)
  exact hL_2 FUEL x2 ls s.heap _ (lv_sub hl [1, 2, 0] rfl) hP hD hS h
theorem mv_X11_stretch : sw_MV yX11_stretch RX11 cX11_stretch 5 (Option.some Jvm.ClassFile.FieldType.int) 2 := ⟨im_X11_stretch, se_X11_stretch, ini_X11, co_X11_stretch, by decide +kernel⟩
def F_X11_stretch (x1 : Int32) (x2 : Int32) (t_end : Int32) (t_owner : (Nat → Int32)) (t_row : (Nat → Int32)) (t_thrown : Int32) (t_times : (Nat → Int32)) : Option (Int32 × (Int32 × (Nat → Int32) × Int32 × (Nat → Int32))) :=
 (F_X11_isStretch x1 t_row).bind (fun w_1 => (F_X11_lacks w_1 t_thrown).bind (fun w_3 => (if w_3.1 = true then some (0, (t_end, t_owner, w_3.2, t_times)) else (F_X11_lastOf x1 t_row).bind (fun w_6 => nm ((w_6 + 1)) (fun x3_8 => (F_X11_lastOf (x1 + 1) t_row).bind (fun w_9 => (F_X11_strike t_end t_owner t_row t_times).bind (fun w_11 => (if x2 = 0 then some (x3_8, (w_11.1, w_11.2.1, w_3.2, w_11.2.2)) else (if x2 = 1 then some (w_9, (w_11.1, w_11.2.1, w_3.2, w_11.2.2)) else (if x2 = 2 then (F_X11_marksIn x3_8 w_9 w_11.1 t_row w_11.2.2).bind (fun w_13 => some (w_13, (w_11.1, w_11.2.1, w_3.2, w_11.2.2))) else (if x2 = 3 then (F_X11_spokesIn x3_8 w_9 t_row).bind (fun w_15 => some (w_15, (w_11.1, w_11.2.1, w_3.2, w_11.2.2))) else (if x2 = 4 then (F_X11_firstMark x3_8 w_9 w_11.1 t_row w_11.2.2).bind (fun w_17 => some (w_17, (w_11.1, w_11.2.1, w_3.2, w_11.2.2))) else (if x2 = 5 then (F_X11_lastMark x3_8 w_9 w_11.1 t_row w_11.2.2).bind (fun w_19 => some (w_19, (w_11.1, w_11.2.1, w_3.2, w_11.2.2))) else (F_X11_raise 2 w_3.2).bind (fun w_21 => some (w_21.1, (w_11.1, w_11.2.1, w_21.2, w_11.2.2))))))))))))))))
abbrev RM_X11_stretch : Room := ({ frames := 4, cells := 0, slots := 0, locals := 88 } : Room)
set_option maxHeartbeats 4000000 in
set_option maxRecDepth 100000 in
theorem c_X11_stretch (l : Launch) (G : va_G) (ca Z : Nat → Nat) (q_t : Nat) (q_t_owner : Nat) (q_t_row : Nat) (q_t_times : Nat) (q_t_wheelPrimes : Nat) (z_t_now : Value) (z_t_draft : Value) (z_t_kept : Value) (z_t_snapshot : Value) (z_t_history : Value) (z_t_accounts : Value) (z_t_undoCount : Value) (z_t_hasSnapshot : Value) (z_t_ownerD : Value) (z_t_formatted : Value) (z_t_formattedLength : Value) (z_t_buffer : Value) (z_t_bufferLength : Value) (z_t_limit : Value) (z_t_nextByte : Value) (z_t_beginsAt : Value) (z_t_token : Value) (z_t_error : Value) (z_t_errorAt : Value) (z_t_errorPosition : Value) (z_t_nested : Value) (z_t_orders : Value) (z_t_orderWords : Value) (z_t_orderCount : Value) (sz : Nat) (x1 : Int32) (x2 : Int32) (t_end : Int32) (t_owner : (Nat → Int32)) (t_row : (Nat → Int32)) (t_thrown : Int32) (t_times : (Nat → Int32)) (res : Int32 × (Int32 × (Nat → Int32) × Int32 × (Nat → Int32))) (hF : F_X11_stretch x1 x2 t_end t_owner t_row t_thrown t_times = some res) : Met l yX11_stretch (.code yX11_stretch cX11_stretch 5 (Option.some Jvm.ClassFile.FieldType.int) :: sw_U) RM_X11_stretch (va_Pc [.ref q_t, .int x1, .int x2] (sw_Pre G ca Z [(q_t, .inr (8, [z_t_now, z_t_draft, z_t_kept, z_t_snapshot, z_t_history, z_t_accounts, .ref q_t_wheelPrimes, .ref q_t_row, z_t_undoCount, .int t_thrown, z_t_hasSnapshot, .ref q_t_owner, .ref q_t_times, .int t_end, z_t_ownerD, z_t_formatted, z_t_formattedLength, z_t_buffer, z_t_bufferLength, z_t_limit, z_t_nextByte, z_t_beginsAt, z_t_token, z_t_error, z_t_errorAt, z_t_errorPosition, z_t_nested, z_t_orders, z_t_orderWords, z_t_orderCount])), (q_t_owner, .inl (ca 0, 5300, .inl t_owner)), (q_t_row, .inl (ca 0, 45, .inl t_row)), (q_t_times, .inl (ca 0, 5300, .inl t_times)), (q_t_wheelPrimes, .inl (ca 0, 4, .inl sw_p4))] sz)) ((fun A => va_Qi (fun r (u : Int32 × (Nat → Int32) × Int32 × (Nat → Int32)) => res.1 = r ∧ res.2 = u) (sw_Post G A (fun (u : Int32 × (Nat → Int32) × Int32 × (Nat → Int32)) => [(q_t, .inr (8, [z_t_now, z_t_draft, z_t_kept, z_t_snapshot, z_t_history, z_t_accounts, .ref q_t_wheelPrimes, .ref q_t_row, z_t_undoCount, .int u.2.2.1, z_t_hasSnapshot, .ref q_t_owner, .ref q_t_times, .int u.1, z_t_ownerD, z_t_formatted, z_t_formattedLength, z_t_buffer, z_t_bufferLength, z_t_limit, z_t_nextByte, z_t_beginsAt, z_t_token, z_t_error, z_t_errorAt, z_t_errorPosition, z_t_nested, z_t_orders, z_t_orderWords, z_t_orderCount])), (q_t_owner, .inl (ca 0, 5300, .inl u.2.1)), (q_t_row, .inl (ca 0, 45, .inl t_row)), (q_t_times, .inl (ca 0, 5300, .inl u.2.2.2)), (q_t_wheelPrimes, .inl (ca 0, 4, .inl sw_p4))])) A) (va_A [(q_t, .inr (8, [z_t_now, z_t_draft, z_t_kept, z_t_snapshot, z_t_history, z_t_accounts, .ref q_t_wheelPrimes, .ref q_t_row, z_t_undoCount, .int t_thrown, z_t_hasSnapshot, .ref q_t_owner, .ref q_t_times, .int t_end, z_t_ownerD, z_t_formatted, z_t_formattedLength, z_t_buffer, z_t_bufferLength, z_t_limit, z_t_nextByte, z_t_beginsAt, z_t_token, z_t_error, z_t_errorAt, z_t_errorPosition, z_t_nested, z_t_orders, z_t_orderWords, z_t_orderCount])), (q_t_owner, .inl (ca 0, 5300, .inl t_owner)), (q_t_row, .inl (ca 0, 45, .inl t_row)), (q_t_times, .inl (ca 0, 5300, .inl t_times)), (q_t_wheelPrimes, .inl (ca 0, 4, .inl sw_p4))] sz)) 0 0 (va_A [(q_t, .inr (8, [z_t_now, z_t_draft, z_t_kept, z_t_snapshot, z_t_history, z_t_accounts, .ref q_t_wheelPrimes, .ref q_t_row, z_t_undoCount, .int t_thrown, z_t_hasSnapshot, .ref q_t_owner, .ref q_t_times, .int t_end, z_t_ownerD, z_t_formatted, z_t_formattedLength, z_t_buffer, z_t_bufferLength, z_t_limit, z_t_nextByte, z_t_beginsAt, z_t_token, z_t_error, z_t_errorAt, z_t_errorPosition, z_t_nested, z_t_orders, z_t_orderWords, z_t_orderCount])), (q_t_owner, .inl (ca 0, 5300, .inl t_owner)), (q_t_row, .inl (ca 0, 45, .inl t_row)), (q_t_times, .inl (ca 0, 5300, .inl t_times)), (q_t_wheelPrimes, .inl (ca 0, 4, .inl sw_p4))] sz) := by
  refine sw_ofW (Qc := fun A => va_Qi (fun r (u : Int32 × (Nat → Int32) × Int32 × (Nat → Int32)) => res.1 = r ∧ res.2 = u) (sw_Post G A (fun (u : Int32 × (Nat → Int32) × Int32 × (Nat → Int32)) => [(q_t, .inr (8, [z_t_now, z_t_draft, z_t_kept, z_t_snapshot, z_t_history, z_t_accounts, .ref q_t_wheelPrimes, .ref q_t_row, z_t_undoCount, .int u.2.2.1, z_t_hasSnapshot, .ref q_t_owner, .ref q_t_times, .int u.1, z_t_ownerD, z_t_formatted, z_t_formattedLength, z_t_buffer, z_t_bufferLength, z_t_limit, z_t_nextByte, z_t_beginsAt, z_t_token, z_t_error, z_t_errorAt, z_t_errorPosition, z_t_nested, z_t_orders, z_t_orderWords, z_t_orderCount])), (q_t_owner, .inl (ca 0, 5300, .inl u.2.1)), (q_t_row, .inl (ca 0, 45, .inl t_row)), (q_t_times, .inl (ca 0, 5300, .inl u.2.2.2)), (q_t_wheelPrimes, .inl (ca 0, 4, .inl sw_p4))])) A) (by decide) [(0, .ref q_t), (1, .int x1), (2, .int x2)] rfl (Nat.le_of_ble_eq_true rfl) ?_
  intro p e s m args below meth c ls A hx hb hr hml hown htU hlocks hnm hP hK hD hX hY hS hA hl
  have hown : s.vm.findClass RX11 = some m.cls := hown
  have Cx : sw_Cx p s m args c cX11_stretch 5 RX11 G ca Z A := ⟨⟨hx, hb, hml, hown, htU⟩, hK, hX, hY, hA⟩
  have h := hF
  unfold F_X11_stretch at h
  refine lv_aload_n hx hb dX11_stretch_0 rfl (lv_at hl 0 rfl) ?_
  refine lv_aload_n hx hb dX11_stretch_1 rfl (lv_at hl 0 rfl) ?_
  refine lv_iload_n hx hb dX11_stretch_2 rfl (lv_at hl 1 rfl) ?_
  obtain ⟨w_1, hg_2, h⟩ := bd_at h
  refine sw_ci (sw_runV (As := [.int x1]) (rest := [.ref q_t]) Cx hP hD hS mv_X11_isStretch ml_X11_151 (c_X11_isStretch l G ca Z q_t q_t_row (z_t_now) (z_t_draft) (z_t_kept) (z_t_snapshot) (z_t_history) (z_t_accounts) (.ref q_t_wheelPrimes) (z_t_undoCount) (.int t_thrown) (z_t_hasSnapshot) (.ref q_t_owner) (.ref q_t_times) (.int t_end) (z_t_ownerD) (z_t_formatted) (z_t_formattedLength) (z_t_buffer) (z_t_bufferLength) (z_t_limit) (z_t_nextByte) (z_t_beginsAt) (z_t_token) (z_t_error) (z_t_errorAt) (z_t_errorPosition) (z_t_nested) (z_t_orders) (z_t_orderWords) (z_t_orderCount) s.heap.size x1 t_row w_1 hg_2) 8 rfl rfl rfl [0, 2] rfl rfl rfl rfl ⟨(Nat.le_of_ble_eq_true rfl), (Nat.le_of_ble_eq_true rfl)⟩ hl.1 rfl rfl (Nat.le_of_ble_eq_true rfl) dX11_stretch_3 ⟨(Nat.le_of_ble_eq_true rfl), (Nat.le_of_ble_eq_true rfl)⟩) hP hD hS hA [0, 2] [1, 3, 4] [3, 0, 4, 1, 2] rfl rfl rfl (by decide) (fun _ => rfl) rfl (fun r u H locs hw hP hD hS => ?_)
  subst hw
  have hP : va_P G vwCl [(q_t, .inr (8, [z_t_now, z_t_draft, z_t_kept, z_t_snapshot, z_t_history, z_t_accounts, .ref q_t_wheelPrimes, .ref q_t_row, z_t_undoCount, .int t_thrown, z_t_hasSnapshot, .ref q_t_owner, .ref q_t_times, .int t_end, z_t_ownerD, z_t_formatted, z_t_formattedLength, z_t_buffer, z_t_bufferLength, z_t_limit, z_t_nextByte, z_t_beginsAt, z_t_token, z_t_error, z_t_errorAt, z_t_errorPosition, z_t_nested, z_t_orders, z_t_orderWords, z_t_orderCount])), (q_t_owner, .inl (ca 0, 5300, .inl t_owner)), (q_t_row, .inl (ca 0, 45, .inl t_row)), (q_t_times, .inl (ca 0, 5300, .inl t_times)), (q_t_wheelPrimes, .inl (ca 0, 4, .inl sw_p4))] H := hP
  have hD : va_D A [(q_t, .inr (8, [z_t_now, z_t_draft, z_t_kept, z_t_snapshot, z_t_history, z_t_accounts, .ref q_t_wheelPrimes, .ref q_t_row, z_t_undoCount, .int t_thrown, z_t_hasSnapshot, .ref q_t_owner, .ref q_t_times, .int t_end, z_t_ownerD, z_t_formatted, z_t_formattedLength, z_t_buffer, z_t_bufferLength, z_t_limit, z_t_nextByte, z_t_beginsAt, z_t_token, z_t_error, z_t_errorAt, z_t_errorPosition, z_t_nested, z_t_orders, z_t_orderWords, z_t_orderCount])), (q_t_owner, .inl (ca 0, 5300, .inl t_owner)), (q_t_row, .inl (ca 0, 45, .inl t_row)), (q_t_times, .inl (ca 0, 5300, .inl t_times)), (q_t_wheelPrimes, .inl (ca 0, 4, .inl sw_p4))] := hD
  obtain ⟨w_3, hg_4, h⟩ := bd_at h
  refine sw_ci (sw_runV (As := [.int (bI w_1)]) (rest := []) Cx hP hD hS mv_X11_lacks ml_X11_125 (c_X11_lacks l G ca Z q_t (z_t_now) (z_t_draft) (z_t_kept) (z_t_snapshot) (z_t_history) (z_t_accounts) (.ref q_t_wheelPrimes) (.ref q_t_row) (z_t_undoCount) (z_t_hasSnapshot) (.ref q_t_owner) (.ref q_t_times) (.int t_end) (z_t_ownerD) (z_t_formatted) (z_t_formattedLength) (z_t_buffer) (z_t_bufferLength) (z_t_limit) (z_t_nextByte) (z_t_beginsAt) (z_t_token) (z_t_error) (z_t_errorAt) (z_t_errorPosition) (z_t_nested) (z_t_orders) (z_t_orderWords) (z_t_orderCount) H.size w_1 t_thrown w_3 hg_4) 8 rfl rfl rfl [0] rfl rfl rfl rfl ⟨(Nat.le_of_ble_eq_true rfl), (Nat.le_of_ble_eq_true rfl)⟩ hl.1 rfl rfl (Nat.le_of_ble_eq_true rfl) dX11_stretch_6 ⟨(Nat.le_of_ble_eq_true rfl), (Nat.le_of_ble_eq_true rfl)⟩) hP hD hS hA [0] [1, 2, 3, 4] [4, 0, 1, 2, 3] rfl rfl rfl (by decide) (fun _ => rfl) rfl (fun r u H locs hw hP hD hS => ?_)
  obtain ⟨rfl, rfl⟩ := hw
  have hP : va_P G vwCl [(q_t, .inr (8, [z_t_now, z_t_draft, z_t_kept, z_t_snapshot, z_t_history, z_t_accounts, .ref q_t_wheelPrimes, .ref q_t_row, z_t_undoCount, .int w_3.2, z_t_hasSnapshot, .ref q_t_owner, .ref q_t_times, .int t_end, z_t_ownerD, z_t_formatted, z_t_formattedLength, z_t_buffer, z_t_bufferLength, z_t_limit, z_t_nextByte, z_t_beginsAt, z_t_token, z_t_error, z_t_errorAt, z_t_errorPosition, z_t_nested, z_t_orders, z_t_orderWords, z_t_orderCount])), (q_t_owner, .inl (ca 0, 5300, .inl t_owner)), (q_t_row, .inl (ca 0, 45, .inl t_row)), (q_t_times, .inl (ca 0, 5300, .inl t_times)), (q_t_wheelPrimes, .inl (ca 0, 4, .inl sw_p4))] H := hP
  have hD : va_D A [(q_t, .inr (8, [z_t_now, z_t_draft, z_t_kept, z_t_snapshot, z_t_history, z_t_accounts, .ref q_t_wheelPrimes, .ref q_t_row, z_t_undoCount, .int w_3.2, z_t_hasSnapshot, .ref q_t_owner, .ref q_t_times, .int t_end, z_t_ownerD, z_t_formatted, z_t_formattedLength, z_t_buffer, z_t_bufferLength, z_t_limit, z_t_nextByte, z_t_beginsAt, z_t_token, z_t_error, z_t_errorAt, z_t_errorPosition, z_t_nested, z_t_orders, z_t_orderWords, z_t_orderCount])), (q_t_owner, .inl (ca 0, 5300, .inl t_owner)), (q_t_row, .inl (ca 0, 45, .inl t_row)), (q_t_times, .inl (ca 0, 5300, .inl t_times)), (q_t_wheelPrimes, .inl (ca 0, 4, .inl sw_p4))] := hD
  refine lv_if_eq (tgt := 14) hx hb dX11_stretch_9 (by decide) (fun c_5 => ?_) (fun c_5 => ?_)
  · have c_5 := bI_z.mp c_5
    have h := if_f c_5 h
    refine lv_aload_n hx hb dX11_stretch_14 rfl (lv_at hl 0 rfl) ?_
    refine lv_iload_n hx hb dX11_stretch_15 rfl (lv_at hl 1 rfl) ?_
    obtain ⟨w_6, hg_7, h⟩ := bd_at h
    refine sw_ci (sw_runV (As := [.int x1]) (rest := []) Cx hP hD hS mv_X11_lastOf ml_X11_85 (c_X11_lastOf l G ca Z q_t q_t_row (z_t_now) (z_t_draft) (z_t_kept) (z_t_snapshot) (z_t_history) (z_t_accounts) (.ref q_t_wheelPrimes) (z_t_undoCount) (.int w_3.2) (z_t_hasSnapshot) (.ref q_t_owner) (.ref q_t_times) (.int t_end) (z_t_ownerD) (z_t_formatted) (z_t_formattedLength) (z_t_buffer) (z_t_bufferLength) (z_t_limit) (z_t_nextByte) (z_t_beginsAt) (z_t_token) (z_t_error) (z_t_errorAt) (z_t_errorPosition) (z_t_nested) (z_t_orders) (z_t_orderWords) (z_t_orderCount) H.size x1 t_row w_6 hg_7) 8 rfl rfl rfl [0, 2] rfl rfl rfl rfl ⟨(Nat.le_of_ble_eq_true rfl), (Nat.le_of_ble_eq_true rfl)⟩ hl.1 rfl rfl (Nat.le_of_ble_eq_true rfl) dX11_stretch_16 ⟨(Nat.le_of_ble_eq_true rfl), (Nat.le_of_ble_eq_true rfl)⟩) hP hD hS hA [0, 2] [1, 3, 4] [3, 0, 4, 1, 2] rfl rfl rfl (by decide) (fun _ => rfl) rfl (fun r u H locs hw hP hD hS => ?_)
    subst hw
    have hP : va_P G vwCl [(q_t, .inr (8, [z_t_now, z_t_draft, z_t_kept, z_t_snapshot, z_t_history, z_t_accounts, .ref q_t_wheelPrimes, .ref q_t_row, z_t_undoCount, .int w_3.2, z_t_hasSnapshot, .ref q_t_owner, .ref q_t_times, .int t_end, z_t_ownerD, z_t_formatted, z_t_formattedLength, z_t_buffer, z_t_bufferLength, z_t_limit, z_t_nextByte, z_t_beginsAt, z_t_token, z_t_error, z_t_errorAt, z_t_errorPosition, z_t_nested, z_t_orders, z_t_orderWords, z_t_orderCount])), (q_t_owner, .inl (ca 0, 5300, .inl t_owner)), (q_t_row, .inl (ca 0, 45, .inl t_row)), (q_t_times, .inl (ca 0, 5300, .inl t_times)), (q_t_wheelPrimes, .inl (ca 0, 4, .inl sw_p4))] H := hP
    have hD : va_D A [(q_t, .inr (8, [z_t_now, z_t_draft, z_t_kept, z_t_snapshot, z_t_history, z_t_accounts, .ref q_t_wheelPrimes, .ref q_t_row, z_t_undoCount, .int w_3.2, z_t_hasSnapshot, .ref q_t_owner, .ref q_t_times, .int t_end, z_t_ownerD, z_t_formatted, z_t_formattedLength, z_t_buffer, z_t_bufferLength, z_t_limit, z_t_nextByte, z_t_beginsAt, z_t_token, z_t_error, z_t_errorAt, z_t_errorPosition, z_t_nested, z_t_orders, z_t_orderWords, z_t_orderCount])), (q_t_owner, .inl (ca 0, 5300, .inl t_owner)), (q_t_row, .inl (ca 0, 45, .inl t_row)), (q_t_times, .inl (ca 0, 5300, .inl t_times)), (q_t_wheelPrimes, .inl (ca 0, 4, .inl sw_p4))] := hD
    refine lv_iconst (v := 1) hx hb dX11_stretch_19 (by decide) ?_
    refine lv_iadd hx hb dX11_stretch_20 ?_
    refine lv_topi (fun x3_8 e_x3_8 => ?_)
    have h := nm_at e_x3_8 h
    refine lv_istore_n (lv' := [(3, .int x3_8), (0, .ref q_t), (1, .int x1), (2, .int x2)]) hx hb dX11_stretch_21 rfl hl (by decide) rfl (fun ls hl => ?_)
    refine lv_aload_n hx hb dX11_stretch_22 rfl (lv_at hl 1 rfl) ?_
    refine lv_iload_n hx hb dX11_stretch_23 rfl (lv_at hl 2 rfl) ?_
    refine lv_iconst (v := 1) hx hb dX11_stretch_24 (by decide) ?_
    refine lv_iadd hx hb dX11_stretch_25 ?_
    obtain ⟨w_9, hg_10, h⟩ := bd_at h
    refine sw_ci (sw_runV (As := [.int (x1 + 1)]) (rest := []) Cx hP hD hS mv_X11_lastOf ml_X11_85 (c_X11_lastOf l G ca Z q_t q_t_row (z_t_now) (z_t_draft) (z_t_kept) (z_t_snapshot) (z_t_history) (z_t_accounts) (.ref q_t_wheelPrimes) (z_t_undoCount) (.int w_3.2) (z_t_hasSnapshot) (.ref q_t_owner) (.ref q_t_times) (.int t_end) (z_t_ownerD) (z_t_formatted) (z_t_formattedLength) (z_t_buffer) (z_t_bufferLength) (z_t_limit) (z_t_nextByte) (z_t_beginsAt) (z_t_token) (z_t_error) (z_t_errorAt) (z_t_errorPosition) (z_t_nested) (z_t_orders) (z_t_orderWords) (z_t_orderCount) H.size (x1 + 1) t_row w_9 hg_10) 8 rfl rfl rfl [0, 2] rfl rfl rfl rfl ⟨(Nat.le_of_ble_eq_true rfl), (Nat.le_of_ble_eq_true rfl)⟩ hl.1 rfl rfl (Nat.le_of_ble_eq_true rfl) dX11_stretch_26 ⟨(Nat.le_of_ble_eq_true rfl), (Nat.le_of_ble_eq_true rfl)⟩) hP hD hS hA [0, 2] [1, 3, 4] [3, 0, 4, 1, 2] rfl rfl rfl (by decide) (fun _ => rfl) rfl (fun r u H locs hw hP hD hS => ?_)
    subst hw
    have hP : va_P G vwCl [(q_t, .inr (8, [z_t_now, z_t_draft, z_t_kept, z_t_snapshot, z_t_history, z_t_accounts, .ref q_t_wheelPrimes, .ref q_t_row, z_t_undoCount, .int w_3.2, z_t_hasSnapshot, .ref q_t_owner, .ref q_t_times, .int t_end, z_t_ownerD, z_t_formatted, z_t_formattedLength, z_t_buffer, z_t_bufferLength, z_t_limit, z_t_nextByte, z_t_beginsAt, z_t_token, z_t_error, z_t_errorAt, z_t_errorPosition, z_t_nested, z_t_orders, z_t_orderWords, z_t_orderCount])), (q_t_owner, .inl (ca 0, 5300, .inl t_owner)), (q_t_row, .inl (ca 0, 45, .inl t_row)), (q_t_times, .inl (ca 0, 5300, .inl t_times)), (q_t_wheelPrimes, .inl (ca 0, 4, .inl sw_p4))] H := hP
    have hD : va_D A [(q_t, .inr (8, [z_t_now, z_t_draft, z_t_kept, z_t_snapshot, z_t_history, z_t_accounts, .ref q_t_wheelPrimes, .ref q_t_row, z_t_undoCount, .int w_3.2, z_t_hasSnapshot, .ref q_t_owner, .ref q_t_times, .int t_end, z_t_ownerD, z_t_formatted, z_t_formattedLength, z_t_buffer, z_t_bufferLength, z_t_limit, z_t_nextByte, z_t_beginsAt, z_t_token, z_t_error, z_t_errorAt, z_t_errorPosition, z_t_nested, z_t_orders, z_t_orderWords, z_t_orderCount])), (q_t_owner, .inl (ca 0, 5300, .inl t_owner)), (q_t_row, .inl (ca 0, 45, .inl t_row)), (q_t_times, .inl (ca 0, 5300, .inl t_times)), (q_t_wheelPrimes, .inl (ca 0, 4, .inl sw_p4))] := hD
    refine lv_istore (lv' := [(4, .int w_9), (3, .int x3_8), (0, .ref q_t), (1, .int x1), (2, .int x2)]) hx hb dX11_stretch_29 hl (by decide) rfl (fun ls hl => ?_)
    refine lv_aload_n hx hb dX11_stretch_31 rfl (lv_at hl 2 rfl) ?_
    obtain ⟨w_11, hg_12, h⟩ := bd_at h
    refine sw_cv (sw_runV (As := []) (rest := []) Cx hP hD hS mv_X11_strike ml_X11_129 (c_X11_strike l G ca Z q_t q_t_owner q_t_row q_t_times q_t_wheelPrimes (z_t_now) (z_t_draft) (z_t_kept) (z_t_snapshot) (z_t_history) (z_t_accounts) (z_t_undoCount) (.int w_3.2) (z_t_hasSnapshot) (z_t_ownerD) (z_t_formatted) (z_t_formattedLength) (z_t_buffer) (z_t_bufferLength) (z_t_limit) (z_t_nextByte) (z_t_beginsAt) (z_t_token) (z_t_error) (z_t_errorAt) (z_t_errorPosition) (z_t_nested) (z_t_orders) (z_t_orderWords) (z_t_orderCount) H.size t_end t_owner t_row t_times w_11 hg_12) 8 rfl rfl rfl [0, 1, 2, 3, 4] rfl rfl rfl rfl ⟨(Nat.le_of_ble_eq_true rfl), (Nat.le_of_ble_eq_true rfl)⟩ hl.1 rfl rfl (Nat.le_of_ble_eq_true rfl) dX11_stretch_32 ⟨(Nat.le_of_ble_eq_true rfl), (Nat.le_of_ble_eq_true rfl)⟩) hP hD hS hA [0, 1, 2, 3, 4] [] [0, 1, 2, 3, 4] rfl rfl rfl (by decide) (fun _ => rfl) rfl (fun u H locs hw hP hD hS => ?_)
    subst hw
    have hP : va_P G vwCl [(q_t, .inr (8, [z_t_now, z_t_draft, z_t_kept, z_t_snapshot, z_t_history, z_t_accounts, .ref q_t_wheelPrimes, .ref q_t_row, z_t_undoCount, .int w_3.2, z_t_hasSnapshot, .ref q_t_owner, .ref q_t_times, .int w_11.1, z_t_ownerD, z_t_formatted, z_t_formattedLength, z_t_buffer, z_t_bufferLength, z_t_limit, z_t_nextByte, z_t_beginsAt, z_t_token, z_t_error, z_t_errorAt, z_t_errorPosition, z_t_nested, z_t_orders, z_t_orderWords, z_t_orderCount])), (q_t_owner, .inl (ca 0, 5300, .inl w_11.2.1)), (q_t_row, .inl (ca 0, 45, .inl t_row)), (q_t_times, .inl (ca 0, 5300, .inl w_11.2.2)), (q_t_wheelPrimes, .inl (ca 0, 4, .inl sw_p4))] H := hP
    have hD : va_D A [(q_t, .inr (8, [z_t_now, z_t_draft, z_t_kept, z_t_snapshot, z_t_history, z_t_accounts, .ref q_t_wheelPrimes, .ref q_t_row, z_t_undoCount, .int w_3.2, z_t_hasSnapshot, .ref q_t_owner, .ref q_t_times, .int w_11.1, z_t_ownerD, z_t_formatted, z_t_formattedLength, z_t_buffer, z_t_bufferLength, z_t_limit, z_t_nextByte, z_t_beginsAt, z_t_token, z_t_error, z_t_errorAt, z_t_errorPosition, z_t_nested, z_t_orders, z_t_orderWords, z_t_orderCount])), (q_t_owner, .inl (ca 0, 5300, .inl w_11.2.1)), (q_t_row, .inl (ca 0, 45, .inl t_row)), (q_t_times, .inl (ca 0, 5300, .inl w_11.2.2)), (q_t_wheelPrimes, .inl (ca 0, 4, .inl sw_p4))] := hD
    refine lv_iload_n hx hb dX11_stretch_35 rfl (lv_at hl 4 rfl) ?_
    by_cases c_36_0 : x2 = 0
    · have h := if_t c_36_0 h
      refine lv_tableIn (tgt := 76) hx hb dX11_stretch_36 (by rw [c_36_0]; decide) (by rw [c_36_0]; decide) (by rw [c_36_0]; rfl) (by decide) ?_
      refine lv_iload_n hx hb dX11_stretch_76 rfl (lv_at hl 1 rfl) ?_
      exact sw_ri hx hb hr hlocks hS (w_11.1, w_11.2.1, w_3.2, w_11.2.2) (pr2 h) hP hD dX11_stretch_77
    · have h := if_f c_36_0 h
      by_cases c_36_1 : x2 = 1
      · have h := if_t c_36_1 h
        refine lv_tableIn (tgt := 78) hx hb dX11_stretch_36 (by rw [c_36_1]; decide) (by rw [c_36_1]; decide) (by rw [c_36_1]; rfl) (by decide) ?_
        refine lv_iload hx hb dX11_stretch_78 (lv_at hl 0 rfl) ?_
        exact sw_ri hx hb hr hlocks hS (w_11.1, w_11.2.1, w_3.2, w_11.2.2) (pr2 h) hP hD dX11_stretch_80
      · have h := if_f c_36_1 h
        by_cases c_36_2 : x2 = 2
        · have h := if_t c_36_2 h
          refine lv_tableIn (tgt := 81) hx hb dX11_stretch_36 (by rw [c_36_2]; decide) (by rw [c_36_2]; decide) (by rw [c_36_2]; rfl) (by decide) ?_
          refine lv_aload_n hx hb dX11_stretch_81 rfl (lv_at hl 2 rfl) ?_
          refine lv_iload_n hx hb dX11_stretch_82 rfl (lv_at hl 1 rfl) ?_
          refine lv_iload hx hb dX11_stretch_83 (lv_at hl 0 rfl) ?_
          obtain ⟨w_13, hg_14, h⟩ := bd_at h
          refine sw_ci (sw_runV (As := [.int x3_8, .int w_9]) (rest := []) Cx hP hD hS mv_X11_marksIn ml_X11_132 (c_X11_marksIn l G ca Z q_t q_t_row q_t_times q_t_wheelPrimes (z_t_now) (z_t_draft) (z_t_kept) (z_t_snapshot) (z_t_history) (z_t_accounts) (z_t_undoCount) (.int w_3.2) (z_t_hasSnapshot) (.ref q_t_owner) (z_t_ownerD) (z_t_formatted) (z_t_formattedLength) (z_t_buffer) (z_t_bufferLength) (z_t_limit) (z_t_nextByte) (z_t_beginsAt) (z_t_token) (z_t_error) (z_t_errorAt) (z_t_errorPosition) (z_t_nested) (z_t_orders) (z_t_orderWords) (z_t_orderCount) H.size x3_8 w_9 w_11.1 t_row w_11.2.2 w_13 hg_14) 8 rfl rfl rfl [0, 2, 3, 4] rfl rfl rfl rfl ⟨(Nat.le_of_ble_eq_true rfl), (Nat.le_of_ble_eq_true rfl)⟩ hl.1 rfl rfl (Nat.le_of_ble_eq_true rfl) dX11_stretch_85 ⟨(Nat.le_of_ble_eq_true rfl), (Nat.le_of_ble_eq_true rfl)⟩) hP hD hS hA [0, 2, 3, 4] [1] [1, 0, 2, 3, 4] rfl rfl rfl (by decide) (fun _ => rfl) rfl (fun r u H locs hw hP hD hS => ?_)
          subst hw
          have hP : va_P G vwCl [(q_t, .inr (8, [z_t_now, z_t_draft, z_t_kept, z_t_snapshot, z_t_history, z_t_accounts, .ref q_t_wheelPrimes, .ref q_t_row, z_t_undoCount, .int w_3.2, z_t_hasSnapshot, .ref q_t_owner, .ref q_t_times, .int w_11.1, z_t_ownerD, z_t_formatted, z_t_formattedLength, z_t_buffer, z_t_bufferLength, z_t_limit, z_t_nextByte, z_t_beginsAt, z_t_token, z_t_error, z_t_errorAt, z_t_errorPosition, z_t_nested, z_t_orders, z_t_orderWords, z_t_orderCount])), (q_t_owner, .inl (ca 0, 5300, .inl w_11.2.1)), (q_t_row, .inl (ca 0, 45, .inl t_row)), (q_t_times, .inl (ca 0, 5300, .inl w_11.2.2)), (q_t_wheelPrimes, .inl (ca 0, 4, .inl sw_p4))] H := hP
          have hD : va_D A [(q_t, .inr (8, [z_t_now, z_t_draft, z_t_kept, z_t_snapshot, z_t_history, z_t_accounts, .ref q_t_wheelPrimes, .ref q_t_row, z_t_undoCount, .int w_3.2, z_t_hasSnapshot, .ref q_t_owner, .ref q_t_times, .int w_11.1, z_t_ownerD, z_t_formatted, z_t_formattedLength, z_t_buffer, z_t_bufferLength, z_t_limit, z_t_nextByte, z_t_beginsAt, z_t_token, z_t_error, z_t_errorAt, z_t_errorPosition, z_t_nested, z_t_orders, z_t_orderWords, z_t_orderCount])), (q_t_owner, .inl (ca 0, 5300, .inl w_11.2.1)), (q_t_row, .inl (ca 0, 45, .inl t_row)), (q_t_times, .inl (ca 0, 5300, .inl w_11.2.2)), (q_t_wheelPrimes, .inl (ca 0, 4, .inl sw_p4))] := hD
          exact sw_ri hx hb hr hlocks hS (w_11.1, w_11.2.1, w_3.2, w_11.2.2) (pr2 h) hP hD dX11_stretch_88
        · have h := if_f c_36_2 h
          by_cases c_36_3 : x2 = 3
          · have h := if_t c_36_3 h
            refine lv_tableIn (tgt := 89) hx hb dX11_stretch_36 (by rw [c_36_3]; decide) (by rw [c_36_3]; decide) (by rw [c_36_3]; rfl) (by decide) ?_
            refine lv_aload_n hx hb dX11_stretch_89 rfl (lv_at hl 2 rfl) ?_
            refine lv_iload_n hx hb dX11_stretch_90 rfl (lv_at hl 1 rfl) ?_
            refine lv_iload hx hb dX11_stretch_91 (lv_at hl 0 rfl) ?_
            obtain ⟨w_15, hg_16, h⟩ := bd_at h
            refine sw_ci (sw_runV (As := [.int x3_8, .int w_9]) (rest := []) Cx hP hD hS mv_X11_spokesIn ml_X11_136 (c_X11_spokesIn l G ca Z q_t q_t_row q_t_wheelPrimes (z_t_now) (z_t_draft) (z_t_kept) (z_t_snapshot) (z_t_history) (z_t_accounts) (z_t_undoCount) (.int w_3.2) (z_t_hasSnapshot) (.ref q_t_owner) (.ref q_t_times) (.int w_11.1) (z_t_ownerD) (z_t_formatted) (z_t_formattedLength) (z_t_buffer) (z_t_bufferLength) (z_t_limit) (z_t_nextByte) (z_t_beginsAt) (z_t_token) (z_t_error) (z_t_errorAt) (z_t_errorPosition) (z_t_nested) (z_t_orders) (z_t_orderWords) (z_t_orderCount) H.size x3_8 w_9 t_row w_15 hg_16) 8 rfl rfl rfl [0, 2, 4] rfl rfl rfl rfl ⟨(Nat.le_of_ble_eq_true rfl), (Nat.le_of_ble_eq_true rfl)⟩ hl.1 rfl rfl (Nat.le_of_ble_eq_true rfl) dX11_stretch_93 ⟨(Nat.le_of_ble_eq_true rfl), (Nat.le_of_ble_eq_true rfl)⟩) hP hD hS hA [0, 2, 4] [1, 3] [2, 0, 3, 1, 4] rfl rfl rfl (by decide) (fun _ => rfl) rfl (fun r u H locs hw hP hD hS => ?_)
            subst hw
            have hP : va_P G vwCl [(q_t, .inr (8, [z_t_now, z_t_draft, z_t_kept, z_t_snapshot, z_t_history, z_t_accounts, .ref q_t_wheelPrimes, .ref q_t_row, z_t_undoCount, .int w_3.2, z_t_hasSnapshot, .ref q_t_owner, .ref q_t_times, .int w_11.1, z_t_ownerD, z_t_formatted, z_t_formattedLength, z_t_buffer, z_t_bufferLength, z_t_limit, z_t_nextByte, z_t_beginsAt, z_t_token, z_t_error, z_t_errorAt, z_t_errorPosition, z_t_nested, z_t_orders, z_t_orderWords, z_t_orderCount])), (q_t_owner, .inl (ca 0, 5300, .inl w_11.2.1)), (q_t_row, .inl (ca 0, 45, .inl t_row)), (q_t_times, .inl (ca 0, 5300, .inl w_11.2.2)), (q_t_wheelPrimes, .inl (ca 0, 4, .inl sw_p4))] H := hP
            have hD : va_D A [(q_t, .inr (8, [z_t_now, z_t_draft, z_t_kept, z_t_snapshot, z_t_history, z_t_accounts, .ref q_t_wheelPrimes, .ref q_t_row, z_t_undoCount, .int w_3.2, z_t_hasSnapshot, .ref q_t_owner, .ref q_t_times, .int w_11.1, z_t_ownerD, z_t_formatted, z_t_formattedLength, z_t_buffer, z_t_bufferLength, z_t_limit, z_t_nextByte, z_t_beginsAt, z_t_token, z_t_error, z_t_errorAt, z_t_errorPosition, z_t_nested, z_t_orders, z_t_orderWords, z_t_orderCount])), (q_t_owner, .inl (ca 0, 5300, .inl w_11.2.1)), (q_t_row, .inl (ca 0, 45, .inl t_row)), (q_t_times, .inl (ca 0, 5300, .inl w_11.2.2)), (q_t_wheelPrimes, .inl (ca 0, 4, .inl sw_p4))] := hD
            exact sw_ri hx hb hr hlocks hS (w_11.1, w_11.2.1, w_3.2, w_11.2.2) (pr2 h) hP hD dX11_stretch_96
          · have h := if_f c_36_3 h
            by_cases c_36_4 : x2 = 4
            · have h := if_t c_36_4 h
              refine lv_tableIn (tgt := 97) hx hb dX11_stretch_36 (by rw [c_36_4]; decide) (by rw [c_36_4]; decide) (by rw [c_36_4]; rfl) (by decide) ?_
              refine lv_aload_n hx hb dX11_stretch_97 rfl (lv_at hl 2 rfl) ?_
              refine lv_iload_n hx hb dX11_stretch_98 rfl (lv_at hl 1 rfl) ?_
              refine lv_iload hx hb dX11_stretch_99 (lv_at hl 0 rfl) ?_
              obtain ⟨w_17, hg_18, h⟩ := bd_at h
              refine sw_ci (sw_runV (As := [.int x3_8, .int w_9]) (rest := []) Cx hP hD hS mv_X11_firstMark ml_X11_154 (c_X11_firstMark l G ca Z q_t q_t_row q_t_times q_t_wheelPrimes (z_t_now) (z_t_draft) (z_t_kept) (z_t_snapshot) (z_t_history) (z_t_accounts) (z_t_undoCount) (.int w_3.2) (z_t_hasSnapshot) (.ref q_t_owner) (z_t_ownerD) (z_t_formatted) (z_t_formattedLength) (z_t_buffer) (z_t_bufferLength) (z_t_limit) (z_t_nextByte) (z_t_beginsAt) (z_t_token) (z_t_error) (z_t_errorAt) (z_t_errorPosition) (z_t_nested) (z_t_orders) (z_t_orderWords) (z_t_orderCount) H.size x3_8 w_9 w_11.1 t_row w_11.2.2 w_17 hg_18) 8 rfl rfl rfl [0, 2, 3, 4] rfl rfl rfl rfl ⟨(Nat.le_of_ble_eq_true rfl), (Nat.le_of_ble_eq_true rfl)⟩ hl.1 rfl rfl (Nat.le_of_ble_eq_true rfl) dX11_stretch_101 ⟨(Nat.le_of_ble_eq_true rfl), (Nat.le_of_ble_eq_true rfl)⟩) hP hD hS hA [0, 2, 3, 4] [1] [1, 0, 2, 3, 4] rfl rfl rfl (by decide) (fun _ => rfl) rfl (fun r u H locs hw hP hD hS => ?_)
              subst hw
              have hP : va_P G vwCl [(q_t, .inr (8, [z_t_now, z_t_draft, z_t_kept, z_t_snapshot, z_t_history, z_t_accounts, .ref q_t_wheelPrimes, .ref q_t_row, z_t_undoCount, .int w_3.2, z_t_hasSnapshot, .ref q_t_owner, .ref q_t_times, .int w_11.1, z_t_ownerD, z_t_formatted, z_t_formattedLength, z_t_buffer, z_t_bufferLength, z_t_limit, z_t_nextByte, z_t_beginsAt, z_t_token, z_t_error, z_t_errorAt, z_t_errorPosition, z_t_nested, z_t_orders, z_t_orderWords, z_t_orderCount])), (q_t_owner, .inl (ca 0, 5300, .inl w_11.2.1)), (q_t_row, .inl (ca 0, 45, .inl t_row)), (q_t_times, .inl (ca 0, 5300, .inl w_11.2.2)), (q_t_wheelPrimes, .inl (ca 0, 4, .inl sw_p4))] H := hP
              have hD : va_D A [(q_t, .inr (8, [z_t_now, z_t_draft, z_t_kept, z_t_snapshot, z_t_history, z_t_accounts, .ref q_t_wheelPrimes, .ref q_t_row, z_t_undoCount, .int w_3.2, z_t_hasSnapshot, .ref q_t_owner, .ref q_t_times, .int w_11.1, z_t_ownerD, z_t_formatted, z_t_formattedLength, z_t_buffer, z_t_bufferLength, z_t_limit, z_t_nextByte, z_t_beginsAt, z_t_token, z_t_error, z_t_errorAt, z_t_errorPosition, z_t_nested, z_t_orders, z_t_orderWords, z_t_orderCount])), (q_t_owner, .inl (ca 0, 5300, .inl w_11.2.1)), (q_t_row, .inl (ca 0, 45, .inl t_row)), (q_t_times, .inl (ca 0, 5300, .inl w_11.2.2)), (q_t_wheelPrimes, .inl (ca 0, 4, .inl sw_p4))] := hD
              exact sw_ri hx hb hr hlocks hS (w_11.1, w_11.2.1, w_3.2, w_11.2.2) (pr2 h) hP hD dX11_stretch_104
            · have h := if_f c_36_4 h
              by_cases c_36_5 : x2 = 5
              · have h := if_t c_36_5 h
                refine lv_tableIn (tgt := 105) hx hb dX11_stretch_36 (by rw [c_36_5]; decide) (by rw [c_36_5]; decide) (by rw [c_36_5]; rfl) (by decide) ?_
                refine lv_aload_n hx hb dX11_stretch_105 rfl (lv_at hl 2 rfl) ?_
                refine lv_iload_n hx hb dX11_stretch_106 rfl (lv_at hl 1 rfl) ?_
                refine lv_iload hx hb dX11_stretch_107 (lv_at hl 0 rfl) ?_
                obtain ⟨w_19, hg_20, h⟩ := bd_at h
                refine sw_ci (sw_runV (As := [.int x3_8, .int w_9]) (rest := []) Cx hP hD hS mv_X11_lastMark ml_X11_157 (c_X11_lastMark l G ca Z q_t q_t_row q_t_times q_t_wheelPrimes (z_t_now) (z_t_draft) (z_t_kept) (z_t_snapshot) (z_t_history) (z_t_accounts) (z_t_undoCount) (.int w_3.2) (z_t_hasSnapshot) (.ref q_t_owner) (z_t_ownerD) (z_t_formatted) (z_t_formattedLength) (z_t_buffer) (z_t_bufferLength) (z_t_limit) (z_t_nextByte) (z_t_beginsAt) (z_t_token) (z_t_error) (z_t_errorAt) (z_t_errorPosition) (z_t_nested) (z_t_orders) (z_t_orderWords) (z_t_orderCount) H.size x3_8 w_9 w_11.1 t_row w_11.2.2 w_19 hg_20) 8 rfl rfl rfl [0, 2, 3, 4] rfl rfl rfl rfl ⟨(Nat.le_of_ble_eq_true rfl), (Nat.le_of_ble_eq_true rfl)⟩ hl.1 rfl rfl (Nat.le_of_ble_eq_true rfl) dX11_stretch_109 ⟨(Nat.le_of_ble_eq_true rfl), (Nat.le_of_ble_eq_true rfl)⟩) hP hD hS hA [0, 2, 3, 4] [1] [1, 0, 2, 3, 4] rfl rfl rfl (by decide) (fun _ => rfl) rfl (fun r u H locs hw hP hD hS => ?_)
                subst hw
                have hP : va_P G vwCl [(q_t, .inr (8, [z_t_now, z_t_draft, z_t_kept, z_t_snapshot, z_t_history, z_t_accounts, .ref q_t_wheelPrimes, .ref q_t_row, z_t_undoCount, .int w_3.2, z_t_hasSnapshot, .ref q_t_owner, .ref q_t_times, .int w_11.1, z_t_ownerD, z_t_formatted, z_t_formattedLength, z_t_buffer, z_t_bufferLength, z_t_limit, z_t_nextByte, z_t_beginsAt, z_t_token, z_t_error, z_t_errorAt, z_t_errorPosition, z_t_nested, z_t_orders, z_t_orderWords, z_t_orderCount])), (q_t_owner, .inl (ca 0, 5300, .inl w_11.2.1)), (q_t_row, .inl (ca 0, 45, .inl t_row)), (q_t_times, .inl (ca 0, 5300, .inl w_11.2.2)), (q_t_wheelPrimes, .inl (ca 0, 4, .inl sw_p4))] H := hP
                have hD : va_D A [(q_t, .inr (8, [z_t_now, z_t_draft, z_t_kept, z_t_snapshot, z_t_history, z_t_accounts, .ref q_t_wheelPrimes, .ref q_t_row, z_t_undoCount, .int w_3.2, z_t_hasSnapshot, .ref q_t_owner, .ref q_t_times, .int w_11.1, z_t_ownerD, z_t_formatted, z_t_formattedLength, z_t_buffer, z_t_bufferLength, z_t_limit, z_t_nextByte, z_t_beginsAt, z_t_token, z_t_error, z_t_errorAt, z_t_errorPosition, z_t_nested, z_t_orders, z_t_orderWords, z_t_orderCount])), (q_t_owner, .inl (ca 0, 5300, .inl w_11.2.1)), (q_t_row, .inl (ca 0, 45, .inl t_row)), (q_t_times, .inl (ca 0, 5300, .inl w_11.2.2)), (q_t_wheelPrimes, .inl (ca 0, 4, .inl sw_p4))] := hD
                exact sw_ri hx hb hr hlocks hS (w_11.1, w_11.2.1, w_3.2, w_11.2.2) (pr2 h) hP hD dX11_stretch_112
              · have h := if_f c_36_5 h
                refine lv_tableOut (tgt := 113) hx hb dX11_stretch_36 (sw_nin 0 5 (fun k9 a9 b9 e9 => by rcases (by omega : k9 = 0 ∨ k9 = 1 ∨ k9 = 2 ∨ k9 = 3 ∨ k9 = 4 ∨ k9 = 5) with rfl | rfl | rfl | rfl | rfl | rfl <;> first | exact c_36_0 (sw_ti e9) | exact c_36_1 (sw_ti e9) | exact c_36_2 (sw_ti e9) | exact c_36_3 (sw_ti e9) | exact c_36_4 (sw_ti e9) | exact c_36_5 (sw_ti e9))) (by decide) ?_
                refine lv_aload_n hx hb dX11_stretch_113 rfl (lv_at hl 2 rfl) ?_
                refine lv_iconst (v := 2) hx hb dX11_stretch_114 (by decide) ?_
                obtain ⟨w_21, hg_22, h⟩ := bd_at h
                refine sw_ci (sw_runV (As := [.int 2]) (rest := []) Cx hP hD hS mv_X11_raise ml_X11_160 (c_X11_raise l G ca Z q_t (z_t_now) (z_t_draft) (z_t_kept) (z_t_snapshot) (z_t_history) (z_t_accounts) (.ref q_t_wheelPrimes) (.ref q_t_row) (z_t_undoCount) (z_t_hasSnapshot) (.ref q_t_owner) (.ref q_t_times) (.int w_11.1) (z_t_ownerD) (z_t_formatted) (z_t_formattedLength) (z_t_buffer) (z_t_bufferLength) (z_t_limit) (z_t_nextByte) (z_t_beginsAt) (z_t_token) (z_t_error) (z_t_errorAt) (z_t_errorPosition) (z_t_nested) (z_t_orders) (z_t_orderWords) (z_t_orderCount) H.size 2 w_3.2 w_21 hg_22) 8 rfl rfl rfl [0] rfl rfl rfl rfl ⟨(Nat.le_of_ble_eq_true rfl), (Nat.le_of_ble_eq_true rfl)⟩ hl.1 rfl rfl (Nat.le_of_ble_eq_true rfl) dX11_stretch_115 ⟨(Nat.le_of_ble_eq_true rfl), (Nat.le_of_ble_eq_true rfl)⟩) hP hD hS hA [0] [1, 2, 3, 4] [4, 0, 1, 2, 3] rfl rfl rfl (by decide) (fun _ => rfl) rfl (fun r u H locs hw hP hD hS => ?_)
                obtain ⟨rfl, rfl⟩ := hw
                have hP : va_P G vwCl [(q_t, .inr (8, [z_t_now, z_t_draft, z_t_kept, z_t_snapshot, z_t_history, z_t_accounts, .ref q_t_wheelPrimes, .ref q_t_row, z_t_undoCount, .int w_21.2, z_t_hasSnapshot, .ref q_t_owner, .ref q_t_times, .int w_11.1, z_t_ownerD, z_t_formatted, z_t_formattedLength, z_t_buffer, z_t_bufferLength, z_t_limit, z_t_nextByte, z_t_beginsAt, z_t_token, z_t_error, z_t_errorAt, z_t_errorPosition, z_t_nested, z_t_orders, z_t_orderWords, z_t_orderCount])), (q_t_owner, .inl (ca 0, 5300, .inl w_11.2.1)), (q_t_row, .inl (ca 0, 45, .inl t_row)), (q_t_times, .inl (ca 0, 5300, .inl w_11.2.2)), (q_t_wheelPrimes, .inl (ca 0, 4, .inl sw_p4))] H := hP
                have hD : va_D A [(q_t, .inr (8, [z_t_now, z_t_draft, z_t_kept, z_t_snapshot, z_t_history, z_t_accounts, .ref q_t_wheelPrimes, .ref q_t_row, z_t_undoCount, .int w_21.2, z_t_hasSnapshot, .ref q_t_owner, .ref q_t_times, .int w_11.1, z_t_ownerD, z_t_formatted, z_t_formattedLength, z_t_buffer, z_t_bufferLength, z_t_limit, z_t_nextByte, z_t_beginsAt, z_t_token, z_t_error, z_t_errorAt, z_t_errorPosition, z_t_nested, z_t_orders, z_t_orderWords, z_t_orderCount])), (q_t_owner, .inl (ca 0, 5300, .inl w_11.2.1)), (q_t_row, .inl (ca 0, 45, .inl t_row)), (q_t_times, .inl (ca 0, 5300, .inl w_11.2.2)), (q_t_wheelPrimes, .inl (ca 0, 4, .inl sw_p4))] := hD
                exact sw_ri hx hb hr hlocks hS (w_11.1, w_11.2.1, w_21.2, w_11.2.2) (pr2 h) hP hD dX11_stretch_118
  · have c_5 := bI_nz.mp c_5
    have h := if_t c_5 h
    refine lv_iconst (v := 0) hx hb dX11_stretch_12 (by decide) ?_
    exact sw_ri hx hb hr hlocks hS (t_end, t_owner, w_3.2, t_times) (pr2 h) hP hD dX11_stretch_13
theorem mv_X11_struckBy : sw_MV yX11_struckBy RX11 cX11_struckBy 4 (Option.some Jvm.ClassFile.FieldType.int) 1 := ⟨im_X11_struckBy, se_X11_struckBy, ini_X11, co_X11_struckBy, by decide +kernel⟩
def B_X11_struckBy_6 (x1 : Int32) (t_end : Int32) (t_row : (Nat → Int32)) (k_6 : Int32 → Int32 → Option (Int32)) (x2 : Int32) (x3 : Int32) : Option (Int32) :=
 (if t_end < x3 then some x2 else (F_X11_isOnSpoke x3 t_row).bind (fun w_3 => (if w_3 = true then nm ((x2 + 1)) (fun x2_8 => nm ((x3 + x1)) (fun x3_9 => k_6 x2_8 x3_9)) else nm ((x2 + 0)) (fun x2_6 => nm ((x3 + x1)) (fun x3_7 => k_6 x2_6 x3_7)))))
def F_X11_struckBy (x1 : Int32) (t_end : Int32) (t_row : (Nat → Int32)) : Option (Int32) :=
 nm ((x1 * x1)) (fun x3_1 => fx (fun _ _ => none) (B_X11_struckBy_6 x1 t_end t_row) FUEL 0 x3_1)
abbrev RM_X11_struckBy : Room := ({ frames := 2, cells := 0, slots := 0, locals := 43 } : Room)
set_option maxHeartbeats 4000000 in
set_option maxRecDepth 100000 in
theorem c_X11_struckBy (l : Launch) (G : va_G) (ca Z : Nat → Nat) (q_t : Nat) (q_t_row : Nat) (q_t_wheelPrimes : Nat) (z_t_now : Value) (z_t_draft : Value) (z_t_kept : Value) (z_t_snapshot : Value) (z_t_history : Value) (z_t_accounts : Value) (z_t_undoCount : Value) (z_t_thrown : Value) (z_t_hasSnapshot : Value) (z_t_owner : Value) (z_t_times : Value) (z_t_ownerD : Value) (z_t_formatted : Value) (z_t_formattedLength : Value) (z_t_buffer : Value) (z_t_bufferLength : Value) (z_t_limit : Value) (z_t_nextByte : Value) (z_t_beginsAt : Value) (z_t_token : Value) (z_t_error : Value) (z_t_errorAt : Value) (z_t_errorPosition : Value) (z_t_nested : Value) (z_t_orders : Value) (z_t_orderWords : Value) (z_t_orderCount : Value) (sz : Nat) (x1 : Int32) (t_end : Int32) (t_row : (Nat → Int32)) (res : Int32) (hF : F_X11_struckBy x1 t_end t_row = some res) : Met l yX11_struckBy (.code yX11_struckBy cX11_struckBy 4 (Option.some Jvm.ClassFile.FieldType.int) :: sw_U) RM_X11_struckBy (va_Pc [.ref q_t, .int x1] (sw_Pre G ca Z [(q_t, .inr (8, [z_t_now, z_t_draft, z_t_kept, z_t_snapshot, z_t_history, z_t_accounts, .ref q_t_wheelPrimes, .ref q_t_row, z_t_undoCount, z_t_thrown, z_t_hasSnapshot, z_t_owner, z_t_times, .int t_end, z_t_ownerD, z_t_formatted, z_t_formattedLength, z_t_buffer, z_t_bufferLength, z_t_limit, z_t_nextByte, z_t_beginsAt, z_t_token, z_t_error, z_t_errorAt, z_t_errorPosition, z_t_nested, z_t_orders, z_t_orderWords, z_t_orderCount])), (q_t_row, .inl (ca 0, 45, .inl t_row)), (q_t_wheelPrimes, .inl (ca 0, 4, .inl sw_p4))] sz)) ((fun A => va_Qi (fun r (u : Unit) => res = r) (sw_Post G A (fun (u : Unit) => [(q_t, .inr (8, [z_t_now, z_t_draft, z_t_kept, z_t_snapshot, z_t_history, z_t_accounts, .ref q_t_wheelPrimes, .ref q_t_row, z_t_undoCount, z_t_thrown, z_t_hasSnapshot, z_t_owner, z_t_times, .int t_end, z_t_ownerD, z_t_formatted, z_t_formattedLength, z_t_buffer, z_t_bufferLength, z_t_limit, z_t_nextByte, z_t_beginsAt, z_t_token, z_t_error, z_t_errorAt, z_t_errorPosition, z_t_nested, z_t_orders, z_t_orderWords, z_t_orderCount])), (q_t_row, .inl (ca 0, 45, .inl t_row)), (q_t_wheelPrimes, .inl (ca 0, 4, .inl sw_p4))])) A) (va_A [(q_t, .inr (8, [z_t_now, z_t_draft, z_t_kept, z_t_snapshot, z_t_history, z_t_accounts, .ref q_t_wheelPrimes, .ref q_t_row, z_t_undoCount, z_t_thrown, z_t_hasSnapshot, z_t_owner, z_t_times, .int t_end, z_t_ownerD, z_t_formatted, z_t_formattedLength, z_t_buffer, z_t_bufferLength, z_t_limit, z_t_nextByte, z_t_beginsAt, z_t_token, z_t_error, z_t_errorAt, z_t_errorPosition, z_t_nested, z_t_orders, z_t_orderWords, z_t_orderCount])), (q_t_row, .inl (ca 0, 45, .inl t_row)), (q_t_wheelPrimes, .inl (ca 0, 4, .inl sw_p4))] sz)) 0 0 (va_A [(q_t, .inr (8, [z_t_now, z_t_draft, z_t_kept, z_t_snapshot, z_t_history, z_t_accounts, .ref q_t_wheelPrimes, .ref q_t_row, z_t_undoCount, z_t_thrown, z_t_hasSnapshot, z_t_owner, z_t_times, .int t_end, z_t_ownerD, z_t_formatted, z_t_formattedLength, z_t_buffer, z_t_bufferLength, z_t_limit, z_t_nextByte, z_t_beginsAt, z_t_token, z_t_error, z_t_errorAt, z_t_errorPosition, z_t_nested, z_t_orders, z_t_orderWords, z_t_orderCount])), (q_t_row, .inl (ca 0, 45, .inl t_row)), (q_t_wheelPrimes, .inl (ca 0, 4, .inl sw_p4))] sz) := by
  refine sw_ofW (Qc := fun A => va_Qi (fun r (u : Unit) => res = r) (sw_Post G A (fun (u : Unit) => [(q_t, .inr (8, [z_t_now, z_t_draft, z_t_kept, z_t_snapshot, z_t_history, z_t_accounts, .ref q_t_wheelPrimes, .ref q_t_row, z_t_undoCount, z_t_thrown, z_t_hasSnapshot, z_t_owner, z_t_times, .int t_end, z_t_ownerD, z_t_formatted, z_t_formattedLength, z_t_buffer, z_t_bufferLength, z_t_limit, z_t_nextByte, z_t_beginsAt, z_t_token, z_t_error, z_t_errorAt, z_t_errorPosition, z_t_nested, z_t_orders, z_t_orderWords, z_t_orderCount])), (q_t_row, .inl (ca 0, 45, .inl t_row)), (q_t_wheelPrimes, .inl (ca 0, 4, .inl sw_p4))])) A) (by decide) [(0, .ref q_t), (1, .int x1)] rfl (Nat.le_of_ble_eq_true rfl) ?_
  intro p e s m args below meth c ls A hx hb hr hml hown htU hlocks hnm hP hK hD hX hY hS hA hl
  have hown : s.vm.findClass RX11 = some m.cls := hown
  have Cx : sw_Cx p s m args c cX11_struckBy 4 RX11 G ca Z A := ⟨⟨hx, hb, hml, hown, htU⟩, hK, hX, hY, hA⟩
  have h := hF
  unfold F_X11_struckBy at h
  have hL_6 : ∀ (n_6 : Nat) (x2 : Int32) (x3 : Int32) (ls : Array Slot) (H : Heap) (locs : List Loc), lv_has ls 4 [(0, .ref q_t), (1, .int x1), (2, .int x2), (3, .int x3)] → va_P G vwCl [(q_t, .inr (8, [z_t_now, z_t_draft, z_t_kept, z_t_snapshot, z_t_history, z_t_accounts, .ref q_t_wheelPrimes, .ref q_t_row, z_t_undoCount, z_t_thrown, z_t_hasSnapshot, z_t_owner, z_t_times, .int t_end, z_t_ownerD, z_t_formatted, z_t_formattedLength, z_t_buffer, z_t_bufferLength, z_t_limit, z_t_nextByte, z_t_beginsAt, z_t_token, z_t_error, z_t_errorAt, z_t_errorPosition, z_t_nested, z_t_orders, z_t_orderWords, z_t_orderCount])), (q_t_row, .inl (ca 0, 45, .inl t_row)), (q_t_wheelPrimes, .inl (ca 0, 4, .inl sw_p4))] H → va_D A [(q_t, .inr (8, [z_t_now, z_t_draft, z_t_kept, z_t_snapshot, z_t_history, z_t_accounts, .ref q_t_wheelPrimes, .ref q_t_row, z_t_undoCount, z_t_thrown, z_t_hasSnapshot, z_t_owner, z_t_times, .int t_end, z_t_ownerD, z_t_formatted, z_t_formattedLength, z_t_buffer, z_t_bufferLength, z_t_limit, z_t_nextByte, z_t_beginsAt, z_t_token, z_t_error, z_t_errorAt, z_t_errorPosition, z_t_nested, z_t_orders, z_t_orderWords, z_t_orderCount])), (q_t_row, .inl (ca 0, 45, .inl t_row)), (q_t_wheelPrimes, .inl (ca 0, 4, .inl sw_p4))] → va_S A s.heap H locs → fx (fun _ _ => none) (B_X11_struckBy_6 x1 t_end t_row) n_6 x2 x3 = some res → W p l e RM_X11_struckBy s m args below meth c H locs 0 0 (MQ below ((fun A => va_Qi (fun r (u : Unit) => res = r) (sw_Post G A (fun (u : Unit) => [(q_t, .inr (8, [z_t_now, z_t_draft, z_t_kept, z_t_snapshot, z_t_history, z_t_accounts, .ref q_t_wheelPrimes, .ref q_t_row, z_t_undoCount, z_t_thrown, z_t_hasSnapshot, z_t_owner, z_t_times, .int t_end, z_t_ownerD, z_t_formatted, z_t_formattedLength, z_t_buffer, z_t_bufferLength, z_t_limit, z_t_nextByte, z_t_beginsAt, z_t_token, z_t_error, z_t_errorAt, z_t_errorPosition, z_t_nested, z_t_orders, z_t_orderWords, z_t_orderCount])), (q_t_row, .inl (ca 0, 45, .inl t_row)), (q_t_wheelPrimes, .inl (ca 0, 4, .inl sw_p4))])) A) A) args s 0 0 A) (F0 m 6 ls []) := by
    intro n_6
    induction n_6 with
    | zero => intro x2 x3 ls H locs hl hP hD hS h; exact no_at h
    | succ n_6 ih_6 =>
      intro x2 x3 ls H locs hl hP hD hS h
      rw [fx_s] at h
      unfold B_X11_struckBy_6 at h
      refine lv_iload_n hx hb dX11_struckBy_6 rfl (lv_at hl 3 rfl) ?_
      refine lv_aload_n hx hb dX11_struckBy_7 rfl (lv_at hl 0 rfl) ?_
      refine va_get (v := .int t_end) hx hb htU iU_X11 hown hK hP 0 rfl rfl 13 (by decide) (htU _ fl_X11_100) (fun _ h9 => h9) rfl dX11_struckBy_8 ?_
      refine lv_icmp_gt (tgt := 37) hx hb dX11_struckBy_11 (by decide) (fun c_2 => ?_) (fun c_2 => ?_)
      · have h := if_t c_2 h
        refine lv_iload_n hx hb dX11_struckBy_37 rfl (lv_at hl 2 rfl) ?_
        exact sw_ri hx hb hr hlocks hS () (pr1 h) hP hD dX11_struckBy_38
      · have h := if_f c_2 h
        refine lv_iload_n hx hb dX11_struckBy_14 rfl (lv_at hl 2 rfl) ?_
        refine lv_aload_n hx hb dX11_struckBy_15 rfl (lv_at hl 0 rfl) ?_
        refine lv_iload_n hx hb dX11_struckBy_16 rfl (lv_at hl 3 rfl) ?_
        obtain ⟨w_3, hg_4, h⟩ := bd_at h
        refine sw_ci (sw_runV (As := [.int x3]) (rest := [.int x2]) Cx hP hD hS mv_X11_isOnSpoke ml_X11_96 (c_X11_isOnSpoke l G ca Z q_t q_t_row q_t_wheelPrimes (z_t_now) (z_t_draft) (z_t_kept) (z_t_snapshot) (z_t_history) (z_t_accounts) (z_t_undoCount) (z_t_thrown) (z_t_hasSnapshot) (z_t_owner) (z_t_times) (.int t_end) (z_t_ownerD) (z_t_formatted) (z_t_formattedLength) (z_t_buffer) (z_t_bufferLength) (z_t_limit) (z_t_nextByte) (z_t_beginsAt) (z_t_token) (z_t_error) (z_t_errorAt) (z_t_errorPosition) (z_t_nested) (z_t_orders) (z_t_orderWords) (z_t_orderCount) H.size x3 t_row w_3 hg_4) 8 rfl rfl rfl [0, 1, 2] rfl rfl rfl rfl ⟨(Nat.le_of_ble_eq_true rfl), (Nat.le_of_ble_eq_true rfl)⟩ hl.1 rfl rfl (Nat.le_of_ble_eq_true rfl) dX11_struckBy_17 ⟨(Nat.le_of_ble_eq_true rfl), (Nat.le_of_ble_eq_true rfl)⟩) hP hD hS hA [0, 1, 2] [] [0, 1, 2] rfl rfl rfl (by decide) (fun _ => rfl) rfl (fun r u H locs hw hP hD hS => ?_)
        subst hw
        have hP : va_P G vwCl [(q_t, .inr (8, [z_t_now, z_t_draft, z_t_kept, z_t_snapshot, z_t_history, z_t_accounts, .ref q_t_wheelPrimes, .ref q_t_row, z_t_undoCount, z_t_thrown, z_t_hasSnapshot, z_t_owner, z_t_times, .int t_end, z_t_ownerD, z_t_formatted, z_t_formattedLength, z_t_buffer, z_t_bufferLength, z_t_limit, z_t_nextByte, z_t_beginsAt, z_t_token, z_t_error, z_t_errorAt, z_t_errorPosition, z_t_nested, z_t_orders, z_t_orderWords, z_t_orderCount])), (q_t_row, .inl (ca 0, 45, .inl t_row)), (q_t_wheelPrimes, .inl (ca 0, 4, .inl sw_p4))] H := hP
        have hD : va_D A [(q_t, .inr (8, [z_t_now, z_t_draft, z_t_kept, z_t_snapshot, z_t_history, z_t_accounts, .ref q_t_wheelPrimes, .ref q_t_row, z_t_undoCount, z_t_thrown, z_t_hasSnapshot, z_t_owner, z_t_times, .int t_end, z_t_ownerD, z_t_formatted, z_t_formattedLength, z_t_buffer, z_t_bufferLength, z_t_limit, z_t_nextByte, z_t_beginsAt, z_t_token, z_t_error, z_t_errorAt, z_t_errorPosition, z_t_nested, z_t_orders, z_t_orderWords, z_t_orderCount])), (q_t_row, .inl (ca 0, 45, .inl t_row)), (q_t_wheelPrimes, .inl (ca 0, 4, .inl sw_p4))] := hD
        refine lv_if_eq (tgt := 27) hx hb dX11_struckBy_20 (by decide) (fun c_5 => ?_) (fun c_5 => ?_)
        · have c_5 := bI_z.mp c_5
          have h := if_f c_5 h
          refine lv_iconst (v := 0) hx hb dX11_struckBy_27 (by decide) ?_
          refine lv_iadd hx hb dX11_struckBy_28 ?_
          refine lv_topi (fun x2_6 e_x2_6 => ?_)
          have h := nm_at e_x2_6 h
          refine lv_istore_n (lv' := [(2, .int x2_6), (0, .ref q_t), (1, .int x1), (3, .int x3)]) hx hb dX11_struckBy_29 rfl hl (by decide) rfl (fun ls hl => ?_)
          refine lv_iload_n hx hb dX11_struckBy_30 rfl (lv_at hl 3 rfl) ?_
          refine lv_iload_n hx hb dX11_struckBy_31 rfl (lv_at hl 2 rfl) ?_
          refine lv_iadd hx hb dX11_struckBy_32 ?_
          refine lv_topi (fun x3_7 e_x3_7 => ?_)
          have h := nm_at e_x3_7 h
          refine lv_istore_n (lv' := [(3, .int x3_7), (2, .int x2_6), (0, .ref q_t), (1, .int x1)]) hx hb dX11_struckBy_33 rfl hl (by decide) rfl (fun ls hl => ?_)
          refine lv_goto (tgt := 6) hx hb dX11_struckBy_34 (by decide) ?_
          exact ih_6 x2_6 x3_7 ls H _ (lv_sub hl [2, 3, 1, 0] rfl) hP hD hS h
        · have c_5 := bI_nz.mp c_5
          have h := if_t c_5 h
          refine lv_iconst (v := 1) hx hb dX11_struckBy_23 (by decide) ?_
          refine lv_goto (tgt := 28) hx hb dX11_struckBy_24 (by decide) ?_
          refine lv_iadd hx hb dX11_struckBy_28 ?_
          refine lv_topi (fun x2_8 e_x2_8 => ?_)
          have h := nm_at e_x2_8 h
          refine lv_istore_n (lv' := [(2, .int x2_8), (0, .ref q_t), (1, .int x1), (3, .int x3)]) hx hb dX11_struckBy_29 rfl hl (by decide) rfl (fun ls hl => ?_)
          refine lv_iload_n hx hb dX11_struckBy_30 rfl (lv_at hl 3 rfl) ?_
          refine lv_iload_n hx hb dX11_struckBy_31 rfl (lv_at hl 2 rfl) ?_
          refine lv_iadd hx hb dX11_struckBy_32 ?_
          refine lv_topi (fun x3_9 e_x3_9 => ?_)
          have h := nm_at e_x3_9 h
          refine lv_istore_n (lv' := [(3, .int x3_9), (2, .int x2_8), (0, .ref q_t), (1, .int x1)]) hx hb dX11_struckBy_33 rfl hl (by decide) rfl (fun ls hl => ?_)
          refine lv_goto (tgt := 6) hx hb dX11_struckBy_34 (by decide) ?_
          exact ih_6 x2_8 x3_9 ls H _ (lv_sub hl [2, 3, 1, 0] rfl) hP hD hS h
  refine lv_iconst (v := 0) hx hb dX11_struckBy_0 (by decide) ?_
  refine lv_istore_n (lv' := [(2, .int 0), (0, .ref q_t), (1, .int x1)]) hx hb dX11_struckBy_1 rfl hl (by decide) rfl (fun ls hl => ?_)
  refine lv_iload_n hx hb dX11_struckBy_2 rfl (lv_at hl 2 rfl) ?_
  refine lv_iload_n hx hb dX11_struckBy_3 rfl (lv_at hl 2 rfl) ?_
  refine lv_imul hx hb dX11_struckBy_4 ?_
  refine lv_topi (fun x3_1 e_x3_1 => ?_)
  have h := nm_at e_x3_1 h
  refine lv_istore_n (lv' := [(3, .int x3_1), (2, .int 0), (0, .ref q_t), (1, .int x1)]) hx hb dX11_struckBy_5 rfl hl (by decide) rfl (fun ls hl => ?_)
  exact hL_6 FUEL 0 x3_1 ls s.heap _ (lv_sub hl [2, 3, 1, 0] rfl) hP hD hS h
theorem mv_X11_nextStruck : sw_MV yX11_nextStruck RX11 cX11_nextStruck 3 (Option.some Jvm.ClassFile.FieldType.int) 1 := ⟨im_X11_nextStruck, se_X11_nextStruck, ini_X11, co_X11_nextStruck, by decide +kernel⟩
def B_X11_nextStruck_41 (x1 : Int32) (t_end : Int32) (t_row : (Nat → Int32)) (k_41 : Int32 → Option (Int32)) (x2 : Int32) : Option (Int32) :=
 (F_X11_strikes x1 x2 t_row).bind (fun w_9 => (if w_9 = true then some x2 else nm (x2 + 1) (fun x2_12 => k_41 x2_12)))
def F_X11_nextStruck (x1 : Int32) (t_end : Int32) (t_row : (Nat → Int32)) : Option (Int32) :=
 (F_X11_isOnSpoke x1 t_row).bind (fun w_1 => (if w_1 = true then (F_X11_isWheelPrime x1 t_row).bind (fun w_4 => (if w_4 = true then some (-1) else (if (x1 * x1) ≤ t_end then nm ((t_end + 1)) (fun x2_8 => fx (fun _ => none) (B_X11_nextStruck_41 x1 t_end t_row) FUEL x2_8) else nm ((x1 * x1)) (fun x2_13 => fx (fun _ => none) (B_X11_nextStruck_41 x1 t_end t_row) FUEL x2_13)))) else some (-1)))
abbrev RM_X11_nextStruck : Room := ({ frames := 3, cells := 0, slots := 0, locals := 65 } : Room)
set_option maxHeartbeats 4000000 in
set_option maxRecDepth 100000 in
theorem c_X11_nextStruck (l : Launch) (G : va_G) (ca Z : Nat → Nat) (q_t : Nat) (q_t_row : Nat) (q_t_wheelPrimes : Nat) (z_t_now : Value) (z_t_draft : Value) (z_t_kept : Value) (z_t_snapshot : Value) (z_t_history : Value) (z_t_accounts : Value) (z_t_undoCount : Value) (z_t_thrown : Value) (z_t_hasSnapshot : Value) (z_t_owner : Value) (z_t_times : Value) (z_t_ownerD : Value) (z_t_formatted : Value) (z_t_formattedLength : Value) (z_t_buffer : Value) (z_t_bufferLength : Value) (z_t_limit : Value) (z_t_nextByte : Value) (z_t_beginsAt : Value) (z_t_token : Value) (z_t_error : Value) (z_t_errorAt : Value) (z_t_errorPosition : Value) (z_t_nested : Value) (z_t_orders : Value) (z_t_orderWords : Value) (z_t_orderCount : Value) (sz : Nat) (x1 : Int32) (t_end : Int32) (t_row : (Nat → Int32)) (res : Int32) (hF : F_X11_nextStruck x1 t_end t_row = some res) : Met l yX11_nextStruck (.code yX11_nextStruck cX11_nextStruck 3 (Option.some Jvm.ClassFile.FieldType.int) :: sw_U) RM_X11_nextStruck (va_Pc [.ref q_t, .int x1] (sw_Pre G ca Z [(q_t, .inr (8, [z_t_now, z_t_draft, z_t_kept, z_t_snapshot, z_t_history, z_t_accounts, .ref q_t_wheelPrimes, .ref q_t_row, z_t_undoCount, z_t_thrown, z_t_hasSnapshot, z_t_owner, z_t_times, .int t_end, z_t_ownerD, z_t_formatted, z_t_formattedLength, z_t_buffer, z_t_bufferLength, z_t_limit, z_t_nextByte, z_t_beginsAt, z_t_token, z_t_error, z_t_errorAt, z_t_errorPosition, z_t_nested, z_t_orders, z_t_orderWords, z_t_orderCount])), (q_t_row, .inl (ca 0, 45, .inl t_row)), (q_t_wheelPrimes, .inl (ca 0, 4, .inl sw_p4))] sz)) ((fun A => va_Qi (fun r (u : Unit) => res = r) (sw_Post G A (fun (u : Unit) => [(q_t, .inr (8, [z_t_now, z_t_draft, z_t_kept, z_t_snapshot, z_t_history, z_t_accounts, .ref q_t_wheelPrimes, .ref q_t_row, z_t_undoCount, z_t_thrown, z_t_hasSnapshot, z_t_owner, z_t_times, .int t_end, z_t_ownerD, z_t_formatted, z_t_formattedLength, z_t_buffer, z_t_bufferLength, z_t_limit, z_t_nextByte, z_t_beginsAt, z_t_token, z_t_error, z_t_errorAt, z_t_errorPosition, z_t_nested, z_t_orders, z_t_orderWords, z_t_orderCount])), (q_t_row, .inl (ca 0, 45, .inl t_row)), (q_t_wheelPrimes, .inl (ca 0, 4, .inl sw_p4))])) A) (va_A [(q_t, .inr (8, [z_t_now, z_t_draft, z_t_kept, z_t_snapshot, z_t_history, z_t_accounts, .ref q_t_wheelPrimes, .ref q_t_row, z_t_undoCount, z_t_thrown, z_t_hasSnapshot, z_t_owner, z_t_times, .int t_end, z_t_ownerD, z_t_formatted, z_t_formattedLength, z_t_buffer, z_t_bufferLength, z_t_limit, z_t_nextByte, z_t_beginsAt, z_t_token, z_t_error, z_t_errorAt, z_t_errorPosition, z_t_nested, z_t_orders, z_t_orderWords, z_t_orderCount])), (q_t_row, .inl (ca 0, 45, .inl t_row)), (q_t_wheelPrimes, .inl (ca 0, 4, .inl sw_p4))] sz)) 0 0 (va_A [(q_t, .inr (8, [z_t_now, z_t_draft, z_t_kept, z_t_snapshot, z_t_history, z_t_accounts, .ref q_t_wheelPrimes, .ref q_t_row, z_t_undoCount, z_t_thrown, z_t_hasSnapshot, z_t_owner, z_t_times, .int t_end, z_t_ownerD, z_t_formatted, z_t_formattedLength, z_t_buffer, z_t_bufferLength, z_t_limit, z_t_nextByte, z_t_beginsAt, z_t_token, z_t_error, z_t_errorAt, z_t_errorPosition, z_t_nested, z_t_orders, z_t_orderWords, z_t_orderCount])), (q_t_row, .inl (ca 0, 45, .inl t_row)), (q_t_wheelPrimes, .inl (ca 0, 4, .inl sw_p4))] sz) := by
  refine sw_ofW (Qc := fun A => va_Qi (fun r (u : Unit) => res = r) (sw_Post G A (fun (u : Unit) => [(q_t, .inr (8, [z_t_now, z_t_draft, z_t_kept, z_t_snapshot, z_t_history, z_t_accounts, .ref q_t_wheelPrimes, .ref q_t_row, z_t_undoCount, z_t_thrown, z_t_hasSnapshot, z_t_owner, z_t_times, .int t_end, z_t_ownerD, z_t_formatted, z_t_formattedLength, z_t_buffer, z_t_bufferLength, z_t_limit, z_t_nextByte, z_t_beginsAt, z_t_token, z_t_error, z_t_errorAt, z_t_errorPosition, z_t_nested, z_t_orders, z_t_orderWords, z_t_orderCount])), (q_t_row, .inl (ca 0, 45, .inl t_row)), (q_t_wheelPrimes, .inl (ca 0, 4, .inl sw_p4))])) A) (by decide) [(0, .ref q_t), (1, .int x1)] rfl (Nat.le_of_ble_eq_true rfl) ?_
  intro p e s m args below meth c ls A hx hb hr hml hown htU hlocks hnm hP hK hD hX hY hS hA hl
  have hown : s.vm.findClass RX11 = some m.cls := hown
  have Cx : sw_Cx p s m args c cX11_nextStruck 3 RX11 G ca Z A := ⟨⟨hx, hb, hml, hown, htU⟩, hK, hX, hY, hA⟩
  have h := hF
  unfold F_X11_nextStruck at h
  have hL_41 : ∀ (n_41 : Nat) (x2 : Int32) (ls : Array Slot) (H : Heap) (locs : List Loc), lv_has ls 3 [(0, .ref q_t), (1, .int x1), (2, .int x2)] → va_P G vwCl [(q_t, .inr (8, [z_t_now, z_t_draft, z_t_kept, z_t_snapshot, z_t_history, z_t_accounts, .ref q_t_wheelPrimes, .ref q_t_row, z_t_undoCount, z_t_thrown, z_t_hasSnapshot, z_t_owner, z_t_times, .int t_end, z_t_ownerD, z_t_formatted, z_t_formattedLength, z_t_buffer, z_t_bufferLength, z_t_limit, z_t_nextByte, z_t_beginsAt, z_t_token, z_t_error, z_t_errorAt, z_t_errorPosition, z_t_nested, z_t_orders, z_t_orderWords, z_t_orderCount])), (q_t_row, .inl (ca 0, 45, .inl t_row)), (q_t_wheelPrimes, .inl (ca 0, 4, .inl sw_p4))] H → va_D A [(q_t, .inr (8, [z_t_now, z_t_draft, z_t_kept, z_t_snapshot, z_t_history, z_t_accounts, .ref q_t_wheelPrimes, .ref q_t_row, z_t_undoCount, z_t_thrown, z_t_hasSnapshot, z_t_owner, z_t_times, .int t_end, z_t_ownerD, z_t_formatted, z_t_formattedLength, z_t_buffer, z_t_bufferLength, z_t_limit, z_t_nextByte, z_t_beginsAt, z_t_token, z_t_error, z_t_errorAt, z_t_errorPosition, z_t_nested, z_t_orders, z_t_orderWords, z_t_orderCount])), (q_t_row, .inl (ca 0, 45, .inl t_row)), (q_t_wheelPrimes, .inl (ca 0, 4, .inl sw_p4))] → va_S A s.heap H locs → fx (fun _ => none) (B_X11_nextStruck_41 x1 t_end t_row) n_41 x2 = some res → W p l e RM_X11_nextStruck s m args below meth c H locs 0 0 (MQ below ((fun A => va_Qi (fun r (u : Unit) => res = r) (sw_Post G A (fun (u : Unit) => [(q_t, .inr (8, [z_t_now, z_t_draft, z_t_kept, z_t_snapshot, z_t_history, z_t_accounts, .ref q_t_wheelPrimes, .ref q_t_row, z_t_undoCount, z_t_thrown, z_t_hasSnapshot, z_t_owner, z_t_times, .int t_end, z_t_ownerD, z_t_formatted, z_t_formattedLength, z_t_buffer, z_t_bufferLength, z_t_limit, z_t_nextByte, z_t_beginsAt, z_t_token, z_t_error, z_t_errorAt, z_t_errorPosition, z_t_nested, z_t_orders, z_t_orderWords, z_t_orderCount])), (q_t_row, .inl (ca 0, 45, .inl t_row)), (q_t_wheelPrimes, .inl (ca 0, 4, .inl sw_p4))])) A) A) args s 0 0 A) (F0 m 41 ls []) := by
    intro n_41
    induction n_41 with
    | zero => intro x2 ls H locs hl hP hD hS h; exact no_at h
    | succ n_41 ih_41 =>
      intro x2 ls H locs hl hP hD hS h
      rw [fx_s] at h
      unfold B_X11_nextStruck_41 at h
      refine lv_aload_n hx hb dX11_nextStruck_41 rfl (lv_at hl 0 rfl) ?_
      refine lv_iload_n hx hb dX11_nextStruck_42 rfl (lv_at hl 1 rfl) ?_
      refine lv_iload_n hx hb dX11_nextStruck_43 rfl (lv_at hl 2 rfl) ?_
      obtain ⟨w_9, hg_10, h⟩ := bd_at h
      refine sw_ci (sw_runV (As := [.int x1, .int x2]) (rest := []) Cx hP hD hS mv_X11_strikes ml_X11_163 (c_X11_strikes l G ca Z q_t q_t_row q_t_wheelPrimes (z_t_now) (z_t_draft) (z_t_kept) (z_t_snapshot) (z_t_history) (z_t_accounts) (z_t_undoCount) (z_t_thrown) (z_t_hasSnapshot) (z_t_owner) (z_t_times) (.int t_end) (z_t_ownerD) (z_t_formatted) (z_t_formattedLength) (z_t_buffer) (z_t_bufferLength) (z_t_limit) (z_t_nextByte) (z_t_beginsAt) (z_t_token) (z_t_error) (z_t_errorAt) (z_t_errorPosition) (z_t_nested) (z_t_orders) (z_t_orderWords) (z_t_orderCount) H.size x1 x2 t_row w_9 hg_10) 8 rfl rfl rfl [0, 1, 2] rfl rfl rfl rfl ⟨(Nat.le_of_ble_eq_true rfl), (Nat.le_of_ble_eq_true rfl)⟩ hl.1 rfl rfl (Nat.le_of_ble_eq_true rfl) dX11_nextStruck_44 ⟨(Nat.le_of_ble_eq_true rfl), (Nat.le_of_ble_eq_true rfl)⟩) hP hD hS hA [0, 1, 2] [] [0, 1, 2] rfl rfl rfl (by decide) (fun _ => rfl) rfl (fun r u H locs hw hP hD hS => ?_)
      subst hw
      have hP : va_P G vwCl [(q_t, .inr (8, [z_t_now, z_t_draft, z_t_kept, z_t_snapshot, z_t_history, z_t_accounts, .ref q_t_wheelPrimes, .ref q_t_row, z_t_undoCount, z_t_thrown, z_t_hasSnapshot, z_t_owner, z_t_times, .int t_end, z_t_ownerD, z_t_formatted, z_t_formattedLength, z_t_buffer, z_t_bufferLength, z_t_limit, z_t_nextByte, z_t_beginsAt, z_t_token, z_t_error, z_t_errorAt, z_t_errorPosition, z_t_nested, z_t_orders, z_t_orderWords, z_t_orderCount])), (q_t_row, .inl (ca 0, 45, .inl t_row)), (q_t_wheelPrimes, .inl (ca 0, 4, .inl sw_p4))] H := hP
      have hD : va_D A [(q_t, .inr (8, [z_t_now, z_t_draft, z_t_kept, z_t_snapshot, z_t_history, z_t_accounts, .ref q_t_wheelPrimes, .ref q_t_row, z_t_undoCount, z_t_thrown, z_t_hasSnapshot, z_t_owner, z_t_times, .int t_end, z_t_ownerD, z_t_formatted, z_t_formattedLength, z_t_buffer, z_t_bufferLength, z_t_limit, z_t_nextByte, z_t_beginsAt, z_t_token, z_t_error, z_t_errorAt, z_t_errorPosition, z_t_nested, z_t_orders, z_t_orderWords, z_t_orderCount])), (q_t_row, .inl (ca 0, 45, .inl t_row)), (q_t_wheelPrimes, .inl (ca 0, 4, .inl sw_p4))] := hD
      refine lv_if_ne (tgt := 56) hx hb dX11_nextStruck_47 (by decide) (fun c_11 => ?_) (fun c_11 => ?_)
      · have c_11 := bI_nz.mp c_11
        have h := if_t c_11 h
        refine lv_iload_n hx hb dX11_nextStruck_56 rfl (lv_at hl 2 rfl) ?_
        exact sw_ri hx hb hr hlocks hS () (pr1 h) hP hD dX11_nextStruck_57
      · have c_11 := bI_z.mp c_11
        have h := if_f c_11 h
        obtain ⟨x2_12, e_x2_12⟩ : ∃ y : Int32, y = x2 + 1 := ⟨_, rfl⟩
        refine lv_iinc (v := x2_12) (lv' := [(2, .int x2_12), (0, .ref q_t), (1, .int x1)]) hx hb dX11_nextStruck_50 hl (k := 2) rfl (by rw [e_x2_12]; rfl) (by decide) rfl (fun ls hl => ?_)
        have h := nm_at e_x2_12 h
        refine lv_goto (tgt := 41) hx hb dX11_nextStruck_53 (by decide) ?_
        exact ih_41 x2_12 ls H _ (lv_sub hl [1, 2, 0] rfl) hP hD hS h
  refine lv_aload_n hx hb dX11_nextStruck_0 rfl (lv_at hl 0 rfl) ?_
  refine lv_iload_n hx hb dX11_nextStruck_1 rfl (lv_at hl 1 rfl) ?_
  obtain ⟨w_1, hg_2, h⟩ := bd_at h
  refine sw_ci (sw_runV (As := [.int x1]) (rest := []) Cx hP hD hS mv_X11_isOnSpoke ml_X11_96 (c_X11_isOnSpoke l G ca Z q_t q_t_row q_t_wheelPrimes (z_t_now) (z_t_draft) (z_t_kept) (z_t_snapshot) (z_t_history) (z_t_accounts) (z_t_undoCount) (z_t_thrown) (z_t_hasSnapshot) (z_t_owner) (z_t_times) (.int t_end) (z_t_ownerD) (z_t_formatted) (z_t_formattedLength) (z_t_buffer) (z_t_bufferLength) (z_t_limit) (z_t_nextByte) (z_t_beginsAt) (z_t_token) (z_t_error) (z_t_errorAt) (z_t_errorPosition) (z_t_nested) (z_t_orders) (z_t_orderWords) (z_t_orderCount) s.heap.size x1 t_row w_1 hg_2) 8 rfl rfl rfl [0, 1, 2] rfl rfl rfl rfl ⟨(Nat.le_of_ble_eq_true rfl), (Nat.le_of_ble_eq_true rfl)⟩ hl.1 rfl rfl (Nat.le_of_ble_eq_true rfl) dX11_nextStruck_2 ⟨(Nat.le_of_ble_eq_true rfl), (Nat.le_of_ble_eq_true rfl)⟩) hP hD hS hA [0, 1, 2] [] [0, 1, 2] rfl rfl rfl (by decide) (fun _ => rfl) rfl (fun r u H locs hw hP hD hS => ?_)
  subst hw
  have hP : va_P G vwCl [(q_t, .inr (8, [z_t_now, z_t_draft, z_t_kept, z_t_snapshot, z_t_history, z_t_accounts, .ref q_t_wheelPrimes, .ref q_t_row, z_t_undoCount, z_t_thrown, z_t_hasSnapshot, z_t_owner, z_t_times, .int t_end, z_t_ownerD, z_t_formatted, z_t_formattedLength, z_t_buffer, z_t_bufferLength, z_t_limit, z_t_nextByte, z_t_beginsAt, z_t_token, z_t_error, z_t_errorAt, z_t_errorPosition, z_t_nested, z_t_orders, z_t_orderWords, z_t_orderCount])), (q_t_row, .inl (ca 0, 45, .inl t_row)), (q_t_wheelPrimes, .inl (ca 0, 4, .inl sw_p4))] H := hP
  have hD : va_D A [(q_t, .inr (8, [z_t_now, z_t_draft, z_t_kept, z_t_snapshot, z_t_history, z_t_accounts, .ref q_t_wheelPrimes, .ref q_t_row, z_t_undoCount, z_t_thrown, z_t_hasSnapshot, z_t_owner, z_t_times, .int t_end, z_t_ownerD, z_t_formatted, z_t_formattedLength, z_t_buffer, z_t_bufferLength, z_t_limit, z_t_nextByte, z_t_beginsAt, z_t_token, z_t_error, z_t_errorAt, z_t_errorPosition, z_t_nested, z_t_orders, z_t_orderWords, z_t_orderCount])), (q_t_row, .inl (ca 0, 45, .inl t_row)), (q_t_wheelPrimes, .inl (ca 0, 4, .inl sw_p4))] := hD
  refine lv_if_eq (tgt := 16) hx hb dX11_nextStruck_5 (by decide) (fun c_3 => ?_) (fun c_3 => ?_)
  · have c_3 := bI_z.mp c_3
    have h := if_f c_3 h
    refine lv_iconst (v := (-1)) hx hb dX11_nextStruck_16 (by decide) ?_
    exact sw_ri hx hb hr hlocks hS () (pr1 h) hP hD dX11_nextStruck_17
  · have c_3 := bI_nz.mp c_3
    have h := if_t c_3 h
    refine lv_aload_n hx hb dX11_nextStruck_8 rfl (lv_at hl 0 rfl) ?_
    refine lv_iload_n hx hb dX11_nextStruck_9 rfl (lv_at hl 1 rfl) ?_
    obtain ⟨w_4, hg_5, h⟩ := bd_at h
    refine sw_ci (sw_runV (As := [.int x1]) (rest := []) Cx hP hD hS mv_X11_isWheelPrime ml_X11_113 (c_X11_isWheelPrime l G ca Z q_t q_t_row q_t_wheelPrimes (z_t_now) (z_t_draft) (z_t_kept) (z_t_snapshot) (z_t_history) (z_t_accounts) (z_t_undoCount) (z_t_thrown) (z_t_hasSnapshot) (z_t_owner) (z_t_times) (.int t_end) (z_t_ownerD) (z_t_formatted) (z_t_formattedLength) (z_t_buffer) (z_t_bufferLength) (z_t_limit) (z_t_nextByte) (z_t_beginsAt) (z_t_token) (z_t_error) (z_t_errorAt) (z_t_errorPosition) (z_t_nested) (z_t_orders) (z_t_orderWords) (z_t_orderCount) H.size x1 t_row w_4 hg_5) 8 rfl rfl rfl [0, 1, 2] rfl rfl rfl rfl ⟨(Nat.le_of_ble_eq_true rfl), (Nat.le_of_ble_eq_true rfl)⟩ hl.1 rfl rfl (Nat.le_of_ble_eq_true rfl) dX11_nextStruck_10 ⟨(Nat.le_of_ble_eq_true rfl), (Nat.le_of_ble_eq_true rfl)⟩) hP hD hS hA [0, 1, 2] [] [0, 1, 2] rfl rfl rfl (by decide) (fun _ => rfl) rfl (fun r u H locs hw hP hD hS => ?_)
    subst hw
    have hP : va_P G vwCl [(q_t, .inr (8, [z_t_now, z_t_draft, z_t_kept, z_t_snapshot, z_t_history, z_t_accounts, .ref q_t_wheelPrimes, .ref q_t_row, z_t_undoCount, z_t_thrown, z_t_hasSnapshot, z_t_owner, z_t_times, .int t_end, z_t_ownerD, z_t_formatted, z_t_formattedLength, z_t_buffer, z_t_bufferLength, z_t_limit, z_t_nextByte, z_t_beginsAt, z_t_token, z_t_error, z_t_errorAt, z_t_errorPosition, z_t_nested, z_t_orders, z_t_orderWords, z_t_orderCount])), (q_t_row, .inl (ca 0, 45, .inl t_row)), (q_t_wheelPrimes, .inl (ca 0, 4, .inl sw_p4))] H := hP
    have hD : va_D A [(q_t, .inr (8, [z_t_now, z_t_draft, z_t_kept, z_t_snapshot, z_t_history, z_t_accounts, .ref q_t_wheelPrimes, .ref q_t_row, z_t_undoCount, z_t_thrown, z_t_hasSnapshot, z_t_owner, z_t_times, .int t_end, z_t_ownerD, z_t_formatted, z_t_formattedLength, z_t_buffer, z_t_bufferLength, z_t_limit, z_t_nextByte, z_t_beginsAt, z_t_token, z_t_error, z_t_errorAt, z_t_errorPosition, z_t_nested, z_t_orders, z_t_orderWords, z_t_orderCount])), (q_t_row, .inl (ca 0, 45, .inl t_row)), (q_t_wheelPrimes, .inl (ca 0, 4, .inl sw_p4))] := hD
    refine lv_if_eq (tgt := 18) hx hb dX11_nextStruck_13 (by decide) (fun c_6 => ?_) (fun c_6 => ?_)
    · have c_6 := bI_z.mp c_6
      have h := if_f c_6 h
      refine lv_iload_n hx hb dX11_nextStruck_18 rfl (lv_at hl 1 rfl) ?_
      refine lv_iload_n hx hb dX11_nextStruck_19 rfl (lv_at hl 1 rfl) ?_
      refine lv_imul hx hb dX11_nextStruck_20 ?_
      refine lv_aload_n hx hb dX11_nextStruck_21 rfl (lv_at hl 0 rfl) ?_
      refine va_get (v := .int t_end) hx hb htU iU_X11 hown hK hP 0 rfl rfl 13 (by decide) (htU _ fl_X11_100) (fun _ h9 => h9) rfl dX11_nextStruck_22 ?_
      refine lv_icmp_le (tgt := 34) hx hb dX11_nextStruck_25 (by decide) (fun c_7 => ?_) (fun c_7 => ?_)
      · have h := if_t c_7 h
        refine lv_aload_n hx hb dX11_nextStruck_34 rfl (lv_at hl 0 rfl) ?_
        refine va_get (v := .int t_end) hx hb htU iU_X11 hown hK hP 0 rfl rfl 13 (by decide) (htU _ fl_X11_100) (fun _ h9 => h9) rfl dX11_nextStruck_35 ?_
        refine lv_iconst (v := 1) hx hb dX11_nextStruck_38 (by decide) ?_
        refine lv_iadd hx hb dX11_nextStruck_39 ?_
        refine lv_topi (fun x2_8 e_x2_8 => ?_)
        have h := nm_at e_x2_8 h
        refine lv_istore_n (lv' := [(2, .int x2_8), (0, .ref q_t), (1, .int x1)]) hx hb dX11_nextStruck_40 rfl hl (by decide) rfl (fun ls hl => ?_)
        exact hL_41 FUEL x2_8 ls H _ (lv_sub hl [1, 2, 0] rfl) hP hD hS h
      · have h := if_f c_7 h
        refine lv_iload_n hx hb dX11_nextStruck_28 rfl (lv_at hl 1 rfl) ?_
        refine lv_iload_n hx hb dX11_nextStruck_29 rfl (lv_at hl 1 rfl) ?_
        refine lv_imul hx hb dX11_nextStruck_30 ?_
        refine lv_goto (tgt := 40) hx hb dX11_nextStruck_31 (by decide) ?_
        refine lv_topi (fun x2_13 e_x2_13 => ?_)
        have h := nm_at e_x2_13 h
        refine lv_istore_n (lv' := [(2, .int x2_13), (0, .ref q_t), (1, .int x1)]) hx hb dX11_nextStruck_40 rfl hl (by decide) rfl (fun ls hl => ?_)
        exact hL_41 FUEL x2_13 ls H _ (lv_sub hl [1, 2, 0] rfl) hP hD hS h
    · have c_6 := bI_nz.mp c_6
      have h := if_t c_6 h
      refine lv_iconst (v := (-1)) hx hb dX11_nextStruck_16 (by decide) ?_
      exact sw_ri hx hb hr hlocks hS () (pr1 h) hP hD dX11_nextStruck_17
