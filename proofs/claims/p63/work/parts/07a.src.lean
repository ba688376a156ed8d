theorem mv_X8_byteAt : sw_MV yX8_byteAt RX8 cX8_byteAt 2 (Option.some Jvm.ClassFile.FieldType.int) 1 := ⟨im_X8_byteAt, se_X8_byteAt, ini_X8, co_X8_byteAt, by decide +kernel⟩
def F_X8_byteAt (x1 : Int32) (t : SrcT) : Option (Int32) :=
 (if x1 < 0 then some 0 else (if x1 < 600 then ix x1 600 (some ((t.1 x1.toNatClampNeg) &&& 255)) else some 0))
abbrev RM_X8_byteAt : Room := ({ frames := 0, cells := 0, slots := 0, locals := 0 } : Room)
set_option maxHeartbeats 4000000 in
set_option maxRecDepth 100000 in
theorem c_X8_byteAt (l : Launch) (G : va_G) (ca Z : Nat → Nat) (q_t : Nat) (q_t_bytes : Nat) (sz : Nat) (x1 : Int32) (t : SrcT) (res : Int32) (hF : F_X8_byteAt x1 t = some res) : Met l yX8_byteAt (.code yX8_byteAt cX8_byteAt 2 (Option.some Jvm.ClassFile.FieldType.int) :: sw_U) RM_X8_byteAt (va_Pc [.ref q_t, .int x1] (sw_Pre G ca Z [(q_t, .inr (6, [.ref q_t_bytes, .int t.2.1, .int t.2.2.1, .int t.2.2.2.1, .int t.2.2.2.2.1, .int t.2.2.2.2.2.1, .int t.2.2.2.2.2.2])), (q_t_bytes, .inl (ca 1, 600, .inl t.1))] sz)) ((fun A => va_Qi (fun r (u : Unit) => res = r) (sw_Post G A (fun (u : Unit) => [(q_t, .inr (6, [.ref q_t_bytes, .int t.2.1, .int t.2.2.1, .int t.2.2.2.1, .int t.2.2.2.2.1, .int t.2.2.2.2.2.1, .int t.2.2.2.2.2.2])), (q_t_bytes, .inl (ca 1, 600, .inl t.1))])) A) (va_A [(q_t, .inr (6, [.ref q_t_bytes, .int t.2.1, .int t.2.2.1, .int t.2.2.2.1, .int t.2.2.2.2.1, .int t.2.2.2.2.2.1, .int t.2.2.2.2.2.2])), (q_t_bytes, .inl (ca 1, 600, .inl t.1))] sz)) 0 0 (va_A [(q_t, .inr (6, [.ref q_t_bytes, .int t.2.1, .int t.2.2.1, .int t.2.2.2.1, .int t.2.2.2.2.1, .int t.2.2.2.2.2.1, .int t.2.2.2.2.2.2])), (q_t_bytes, .inl (ca 1, 600, .inl t.1))] sz) := by
  refine sw_ofW (Qc := fun A => va_Qi (fun r (u : Unit) => res = r) (sw_Post G A (fun (u : Unit) => [(q_t, .inr (6, [.ref q_t_bytes, .int t.2.1, .int t.2.2.1, .int t.2.2.2.1, .int t.2.2.2.2.1, .int t.2.2.2.2.2.1, .int t.2.2.2.2.2.2])), (q_t_bytes, .inl (ca 1, 600, .inl t.1))])) A) (by decide) [(0, .ref q_t), (1, .int x1)] rfl (Nat.le_of_ble_eq_true rfl) ?_
  intro p e s m args below meth c ls A hx hb hr hml hown htU hlocks hnm hP hK hD hX hY hS hA hl
  have hown : s.vm.findClass RX8 = some m.cls := hown
  have Cx : sw_Cx p s m args c cX8_byteAt 2 RX8 G ca Z A := ⟨⟨hx, hb, hml, hown, htU⟩, hK, hX, hY, hA⟩
  have h := hF
  unfold F_X8_byteAt at h
  refine lv_iload_n hx hb dX8_byteAt_0 rfl (lv_at hl 1 rfl) ?_
  refine lv_if_lt (tgt := 13) hx hb dX8_byteAt_1 (by decide) (fun c_1 => ?_) (fun c_1 => ?_)
  · have h := if_t c_1 h
    refine lv_iconst (v := 0) hx hb dX8_byteAt_13 (by decide) ?_
    refine lv_goto (tgt := 27) hx hb dX8_byteAt_14 (by decide) ?_
    exact sw_ri hx hb hr hlocks hS () (pr1 h) hP hD dX8_byteAt_27
  · have h := if_f c_1 h
    refine lv_iload_n hx hb dX8_byteAt_4 rfl (lv_at hl 1 rfl) ?_
    refine lv_aload_n hx hb dX8_byteAt_5 rfl (lv_at hl 0 rfl) ?_
    refine va_get (v := .ref q_t_bytes) hx hb htU iU_X8 hown hK hP 0 rfl rfl 0 (by decide) (htU _ fl_X8_9) (fun _ h9 => h9) rfl dX8_byteAt_6 ?_
    refine va_alen (v := 600) hx hb hK hP 1 1 rfl rfl (by decide : Int32.ofNat 600 = 600) dX8_byteAt_9 ?_
    refine lv_icmp_lt (tgt := 17) hx hb dX8_byteAt_10 (by decide) (fun c_2 => ?_) (fun c_2 => ?_)
    · have h := if_t c_2 h
      refine lv_aload_n hx hb dX8_byteAt_17 rfl (lv_at hl 0 rfl) ?_
      refine va_get (v := .ref q_t_bytes) hx hb htU iU_X8 hown hK hP 0 rfl rfl 0 (by decide) (htU _ fl_X8_9) (fun _ h9 => h9) rfl dX8_byteAt_18 ?_
      refine lv_iload_n hx hb dX8_byteAt_21 rfl (lv_at hl 1 rfl) ?_
      obtain ⟨hi_3, h⟩ := ix_at h
      refine va_bald hx hb hK hP 1 1 rfl rfl hi_3 dX8_byteAt_22 ?_
      refine lv_sipush (v := 255) hx hb dX8_byteAt_23 (by decide) ?_
      refine lv_iand hx hb dX8_byteAt_26 ?_
      exact sw_ri hx hb hr hlocks hS () (pr1 h) hP hD dX8_byteAt_27
    · have h := if_f c_2 h
      refine lv_iconst (v := 0) hx hb dX8_byteAt_13 (by decide) ?_
      refine lv_goto (tgt := 27) hx hb dX8_byteAt_14 (by decide) ?_
      exact sw_ri hx hb hr hlocks hS () (pr1 h) hP hD dX8_byteAt_27
theorem ms_X8_isBlank : sw_MS yX8_isBlank cX8_isBlank 1 (Option.some Jvm.ClassFile.FieldType.boolean) 1 := ⟨st_X8_isBlank, ini_X8, co_X8_isBlank, by decide +kernel⟩
def F_X8_isBlank (x0 : Int32) : Option (Bool) :=
 (if x0 = 32 then some true else (if x0 = 10 then some true else some false))
abbrev RM_X8_isBlank : Room := ({ frames := 0, cells := 0, slots := 0, locals := 0 } : Room)
set_option maxHeartbeats 4000000 in
set_option maxRecDepth 100000 in
theorem c_X8_isBlank (l : Launch) (G : va_G) (ca Z : Nat → Nat) (sz : Nat) (x0 : Int32) (res : Bool) (hF : F_X8_isBlank x0 = some res) : Met l yX8_isBlank (.code yX8_isBlank cX8_isBlank 1 (Option.some Jvm.ClassFile.FieldType.boolean) :: sw_U) RM_X8_isBlank (va_Pc [.int x0] (sw_Pre G ca Z [] sz)) ((fun A => va_Qi (fun r (u : Unit) => bI res = r) (sw_Post G A (fun (u : Unit) => [])) A) (va_A [] sz)) 0 0 (va_A [] sz) := by
  refine sw_ofW (Qc := fun A => va_Qi (fun r (u : Unit) => bI res = r) (sw_Post G A (fun (u : Unit) => [])) A) (by decide) [(0, .int x0)] rfl (Nat.le_of_ble_eq_true rfl) ?_
  intro p e s m args below meth c ls A hx hb hr hml hown htU hlocks hnm hP hK hD hX hY hS hA hl
  have hown : s.vm.findClass RX8 = some m.cls := hown
  have Cx : sw_Cx p s m args c cX8_isBlank 1 RX8 G ca Z A := ⟨⟨hx, hb, hml, hown, htU⟩, hK, hX, hY, hA⟩
  have h := hF
  unfold F_X8_isBlank at h
  refine lv_iload_n hx hb dX8_isBlank_0 rfl (lv_at hl 0 rfl) ?_
  refine lv_bipush (v := 32) hx hb dX8_isBlank_1 (by decide) ?_
  refine lv_icmp_eq (tgt := 12) hx hb dX8_isBlank_3 (by decide) (fun c_1 => ?_) (fun c_1 => ?_)
  · have h := if_t c_1 h
    refine lv_iconst (v := 1) hx hb dX8_isBlank_12 (by decide) ?_
    refine lv_goto (tgt := 17) hx hb dX8_isBlank_13 (by decide) ?_
    exact sw_rz hx hb hr rfl hlocks hS () (pb1 h) hP hD dX8_isBlank_17
  · have h := if_f c_1 h
    refine lv_iload_n hx hb dX8_isBlank_6 rfl (lv_at hl 0 rfl) ?_
    refine lv_bipush (v := 10) hx hb dX8_isBlank_7 (by decide) ?_
    refine lv_icmp_ne (tgt := 16) hx hb dX8_isBlank_9 (by decide) (fun c_2 => ?_) (fun c_2 => ?_)
    · have h := if_f c_2 h
      refine lv_iconst (v := 0) hx hb dX8_isBlank_16 (by decide) ?_
      exact sw_rz hx hb hr rfl hlocks hS () (pb1 h) hP hD dX8_isBlank_17
    · have h := if_t c_2 h
      refine lv_iconst (v := 1) hx hb dX8_isBlank_12 (by decide) ?_
      refine lv_goto (tgt := 17) hx hb dX8_isBlank_13 (by decide) ?_
      exact sw_rz hx hb hr rfl hlocks hS () (pb1 h) hP hD dX8_isBlank_17
theorem ms_X8_isLetter : sw_MS yX8_isLetter cX8_isLetter 1 (Option.some Jvm.ClassFile.FieldType.boolean) 1 := ⟨st_X8_isLetter, ini_X8, co_X8_isLetter, by decide +kernel⟩
def F_X8_isLetter (x0 : Int32) : Option (Bool) :=
 (if x0 < 97 then some false else (if 122 < x0 then some false else some true))
abbrev RM_X8_isLetter : Room := ({ frames := 0, cells := 0, slots := 0, locals := 0 } : Room)
set_option maxHeartbeats 4000000 in
set_option maxRecDepth 100000 in
theorem c_X8_isLetter (l : Launch) (G : va_G) (ca Z : Nat → Nat) (sz : Nat) (x0 : Int32) (res : Bool) (hF : F_X8_isLetter x0 = some res) : Met l yX8_isLetter (.code yX8_isLetter cX8_isLetter 1 (Option.some Jvm.ClassFile.FieldType.boolean) :: sw_U) RM_X8_isLetter (va_Pc [.int x0] (sw_Pre G ca Z [] sz)) ((fun A => va_Qi (fun r (u : Unit) => bI res = r) (sw_Post G A (fun (u : Unit) => [])) A) (va_A [] sz)) 0 0 (va_A [] sz) := by
  refine sw_ofW (Qc := fun A => va_Qi (fun r (u : Unit) => bI res = r) (sw_Post G A (fun (u : Unit) => [])) A) (by decide) [(0, .int x0)] rfl (Nat.le_of_ble_eq_true rfl) ?_
  intro p e s m args below meth c ls A hx hb hr hml hown htU hlocks hnm hP hK hD hX hY hS hA hl
  have hown : s.vm.findClass RX8 = some m.cls := hown
  have Cx : sw_Cx p s m args c cX8_isLetter 1 RX8 G ca Z A := ⟨⟨hx, hb, hml, hown, htU⟩, hK, hX, hY, hA⟩
  have h := hF
  unfold F_X8_isLetter at h
  refine lv_iload_n hx hb dX8_isLetter_0 rfl (lv_at hl 0 rfl) ?_
  refine lv_bipush (v := 97) hx hb dX8_isLetter_1 (by decide) ?_
  refine lv_icmp_lt (tgt := 16) hx hb dX8_isLetter_3 (by decide) (fun c_1 => ?_) (fun c_1 => ?_)
  · have h := if_t c_1 h
    refine lv_iconst (v := 0) hx hb dX8_isLetter_16 (by decide) ?_
    exact sw_rz hx hb hr rfl hlocks hS () (pb1 h) hP hD dX8_isLetter_17
  · have h := if_f c_1 h
    refine lv_iload_n hx hb dX8_isLetter_6 rfl (lv_at hl 0 rfl) ?_
    refine lv_bipush (v := 122) hx hb dX8_isLetter_7 (by decide) ?_
    refine lv_icmp_gt (tgt := 16) hx hb dX8_isLetter_9 (by decide) (fun c_2 => ?_) (fun c_2 => ?_)
    · have h := if_t c_2 h
      refine lv_iconst (v := 0) hx hb dX8_isLetter_16 (by decide) ?_
      exact sw_rz hx hb hr rfl hlocks hS () (pb1 h) hP hD dX8_isLetter_17
    · have h := if_f c_2 h
      refine lv_iconst (v := 1) hx hb dX8_isLetter_12 (by decide) ?_
      refine lv_goto (tgt := 17) hx hb dX8_isLetter_13 (by decide) ?_
      exact sw_rz hx hb hr rfl hlocks hS () (pb1 h) hP hD dX8_isLetter_17
theorem mv_X8_skipLetters : sw_MV yX8_skipLetters RX8 cX8_skipLetters 1 (Option.none : Option Jvm.ClassFile.FieldType) 0 := ⟨im_X8_skipLetters, se_X8_skipLetters, ini_X8, co_X8_skipLetters, by decide +kernel⟩
def B_X8_skipLetters_0 (k_0 : SrcT → Option (SrcT)) (t : SrcT) : Option (SrcT) :=
 (if t.2.2.1 ≤ t.2.2.2.1 then some t else (F_X8_byteAt t.2.2.2.1 t).bind (fun w_2 => (F_X8_isLetter w_2).bind (fun w_4 => (if w_4 = true then nm ((t.2.2.2.1 + 1)) (fun f_7 => k_0 (t.1, t.2.1, t.2.2.1, f_7, t.2.2.2.2.1, t.2.2.2.2.2.1, t.2.2.2.2.2.2)) else some t))))
def F_X8_skipLetters (t : SrcT) : Option (SrcT) :=
 fx (fun _ => none) (B_X8_skipLetters_0) FUEL t
abbrev RM_X8_skipLetters : Room := ({ frames := 1, cells := 0, slots := 0, locals := 21 } : Room)
set_option maxHeartbeats 4000000 in
set_option maxRecDepth 100000 in
theorem c_X8_skipLetters (l : Launch) (G : va_G) (ca Z : Nat → Nat) (q_t : Nat) (q_t_bytes : Nat) (sz : Nat) (t : SrcT) (res : SrcT) (hF : F_X8_skipLetters t = some res) : Met l yX8_skipLetters (.code yX8_skipLetters cX8_skipLetters 1 (Option.none : Option Jvm.ClassFile.FieldType) :: sw_U) RM_X8_skipLetters (va_Pc [.ref q_t] (sw_Pre G ca Z [(q_t, .inr (6, [.ref q_t_bytes, .int t.2.1, .int t.2.2.1, .int t.2.2.2.1, .int t.2.2.2.2.1, .int t.2.2.2.2.2.1, .int t.2.2.2.2.2.2])), (q_t_bytes, .inl (ca 1, 600, .inl t.1))] sz)) ((fun A => va_Qv (fun (u : SrcT) => res = u) (sw_Post G A (fun (u : SrcT) => [(q_t, .inr (6, [.ref q_t_bytes, .int u.2.1, .int u.2.2.1, .int u.2.2.2.1, .int u.2.2.2.2.1, .int u.2.2.2.2.2.1, .int u.2.2.2.2.2.2])), (q_t_bytes, .inl (ca 1, 600, .inl u.1))])) A) (va_A [(q_t, .inr (6, [.ref q_t_bytes, .int t.2.1, .int t.2.2.1, .int t.2.2.2.1, .int t.2.2.2.2.1, .int t.2.2.2.2.2.1, .int t.2.2.2.2.2.2])), (q_t_bytes, .inl (ca 1, 600, .inl t.1))] sz)) 0 0 (va_A [(q_t, .inr (6, [.ref q_t_bytes, .int t.2.1, .int t.2.2.1, .int t.2.2.2.1, .int t.2.2.2.2.1, .int t.2.2.2.2.2.1, .int t.2.2.2.2.2.2])), (q_t_bytes, .inl (ca 1, 600, .inl t.1))] sz) := by
  refine sw_ofW (Qc := fun A => va_Qv (fun (u : SrcT) => res = u) (sw_Post G A (fun (u : SrcT) => [(q_t, .inr (6, [.ref q_t_bytes, .int u.2.1, .int u.2.2.1, .int u.2.2.2.1, .int u.2.2.2.2.1, .int u.2.2.2.2.2.1, .int u.2.2.2.2.2.2])), (q_t_bytes, .inl (ca 1, 600, .inl u.1))])) A) (by decide) [(0, .ref q_t)] rfl (Nat.le_of_ble_eq_true rfl) ?_
  intro p e s m args below meth c ls A hx hb hr hml hown htU hlocks hnm hP hK hD hX hY hS hA hl
  have hown : s.vm.findClass RX8 = some m.cls := hown
  have Cx : sw_Cx p s m args c cX8_skipLetters 1 RX8 G ca Z A := ⟨⟨hx, hb, hml, hown, htU⟩, hK, hX, hY, hA⟩
  have h := hF
  unfold F_X8_skipLetters at h
  have hL_0 : ∀ (n_0 : Nat) (t : SrcT) (ls : Array Slot) (H : Heap) (locs : List Loc), lv_has ls 1 [(0, .ref q_t)] → va_P G vwCl [(q_t, .inr (6, [.ref q_t_bytes, .int t.2.1, .int t.2.2.1, .int t.2.2.2.1, .int t.2.2.2.2.1, .int t.2.2.2.2.2.1, .int t.2.2.2.2.2.2])), (q_t_bytes, .inl (ca 1, 600, .inl t.1))] H → va_D A [(q_t, .inr (6, [.ref q_t_bytes, .int t.2.1, .int t.2.2.1, .int t.2.2.2.1, .int t.2.2.2.2.1, .int t.2.2.2.2.2.1, .int t.2.2.2.2.2.2])), (q_t_bytes, .inl (ca 1, 600, .inl t.1))] → va_S A s.heap H locs → fx (fun _ => none) (B_X8_skipLetters_0) n_0 t = some res → W p l e RM_X8_skipLetters s m args below meth c H locs 0 0 (MQ below ((fun A => va_Qv (fun (u : SrcT) => res = u) (sw_Post G A (fun (u : SrcT) => [(q_t, .inr (6, [.ref q_t_bytes, .int u.2.1, .int u.2.2.1, .int u.2.2.2.1, .int u.2.2.2.2.1, .int u.2.2.2.2.2.1, .int u.2.2.2.2.2.2])), (q_t_bytes, .inl (ca 1, 600, .inl u.1))])) A) A) args s 0 0 A) (F0 m 0 ls []) := by
    intro n_0
    induction n_0 with
    | zero => intro t ls H locs hl hP hD hS h; exact no_at h
    | succ n_0 ih_0 =>
      intro t ls H locs hl hP hD hS h
      rw [fx_s] at h
      unfold B_X8_skipLetters_0 at h
      refine lv_aload_n hx hb dX8_skipLetters_0 rfl (lv_at hl 0 rfl) ?_
      refine va_get (v := .int t.2.2.2.1) hx hb htU iU_X8 hown hK hP 0 rfl rfl 3 (by decide) (htU _ fl_X8_22) (fun _ h9 => h9) rfl dX8_skipLetters_1 ?_
      refine lv_aload_n hx hb dX8_skipLetters_4 rfl (lv_at hl 0 rfl) ?_
      refine va_get (v := .int t.2.2.1) hx hb htU iU_X8 hown hK hP 0 rfl rfl 2 (by decide) (htU _ fl_X8_19) (fun _ h9 => h9) rfl dX8_skipLetters_5 ?_
      refine lv_icmp_ge (tgt := 38) hx hb dX8_skipLetters_8 (by decide) (fun c_1 => ?_) (fun c_1 => ?_)
      · have h := if_t c_1 h
        exact sw_rv hx hb hr hlocks hS t (pr1 h) hP hD dX8_skipLetters_38
      · have h := if_f c_1 h
        refine lv_aload_n hx hb dX8_skipLetters_11 rfl (lv_at hl 0 rfl) ?_
        refine lv_aload_n hx hb dX8_skipLetters_12 rfl (lv_at hl 0 rfl) ?_
        refine va_get (v := .int t.2.2.2.1) hx hb htU iU_X8 hown hK hP 0 rfl rfl 3 (by decide) (htU _ fl_X8_22) (fun _ h9 => h9) rfl dX8_skipLetters_13 ?_
        obtain ⟨w_2, hg_3, h⟩ := bd_at h
        refine sw_ci (sw_runV (As := [.int t.2.2.2.1]) (rest := []) Cx hP hD hS mv_X8_byteAt ml_X8_43 (c_X8_byteAt l G ca Z q_t q_t_bytes H.size t.2.2.2.1 t w_2 hg_3) 6 rfl rfl rfl [0, 1] rfl rfl rfl rfl ⟨(Nat.le_of_ble_eq_true rfl), (Nat.le_of_ble_eq_true rfl)⟩ hl.1 rfl rfl (Nat.le_of_ble_eq_true rfl) dX8_skipLetters_16 ⟨(Nat.le_of_ble_eq_true rfl), (Nat.le_of_ble_eq_true rfl)⟩) hP hD hS hA [0, 1] [] [0, 1] rfl rfl rfl (by decide) (fun _ => rfl) rfl (fun r u H locs hw hP hD hS => ?_)
        subst hw
        have hP : va_P G vwCl [(q_t, .inr (6, [.ref q_t_bytes, .int t.2.1, .int t.2.2.1, .int t.2.2.2.1, .int t.2.2.2.2.1, .int t.2.2.2.2.2.1, .int t.2.2.2.2.2.2])), (q_t_bytes, .inl (ca 1, 600, .inl t.1))] H := hP
        have hD : va_D A [(q_t, .inr (6, [.ref q_t_bytes, .int t.2.1, .int t.2.2.1, .int t.2.2.2.1, .int t.2.2.2.2.1, .int t.2.2.2.2.2.1, .int t.2.2.2.2.2.2])), (q_t_bytes, .inl (ca 1, 600, .inl t.1))] := hD
        obtain ⟨w_4, hg_5, h⟩ := bd_at h
        refine sw_ci (sw_runS (As := [.int w_2]) (rest := []) Cx hP hD hS ms_X8_isLetter ml_X8_51 (c_X8_isLetter l G ca Z H.size w_2 w_4 hg_5) [] rfl rfl rfl rfl ⟨(Nat.le_of_ble_eq_true rfl), (Nat.le_of_ble_eq_true rfl)⟩ hl.1 rfl rfl (Nat.le_of_ble_eq_true rfl) dX8_skipLetters_19 ⟨(Nat.le_of_ble_eq_true rfl), (Nat.le_of_ble_eq_true rfl)⟩) hP hD hS hA [] [0, 1] [0, 1] rfl rfl rfl (by decide) (fun _ => rfl) rfl (fun r u H locs hw hP hD hS => ?_)
        subst hw
        have hP : va_P G vwCl [(q_t, .inr (6, [.ref q_t_bytes, .int t.2.1, .int t.2.2.1, .int t.2.2.2.1, .int t.2.2.2.2.1, .int t.2.2.2.2.2.1, .int t.2.2.2.2.2.2])), (q_t_bytes, .inl (ca 1, 600, .inl t.1))] H := hP
        have hD : va_D A [(q_t, .inr (6, [.ref q_t_bytes, .int t.2.1, .int t.2.2.1, .int t.2.2.2.1, .int t.2.2.2.2.1, .int t.2.2.2.2.2.1, .int t.2.2.2.2.2.2])), (q_t_bytes, .inl (ca 1, 600, .inl t.1))] := hD
        refine lv_if_eq (tgt := 38) hx hb dX8_skipLetters_22 (by decide) (fun c_6 => ?_) (fun c_6 => ?_)
        · have c_6 := bI_z.mp c_6
          have h := if_f c_6 h
          exact sw_rv hx hb hr hlocks hS t (pr1 h) hP hD dX8_skipLetters_38
        · have c_6 := bI_nz.mp c_6
          have h := if_t c_6 h
          refine lv_aload_n hx hb dX8_skipLetters_25 rfl (lv_at hl 0 rfl) ?_
          refine lv_dup hx hb dX8_skipLetters_26 rfl ?_
          refine va_get (v := .int t.2.2.2.1) hx hb htU iU_X8 hown hK hP 0 rfl rfl 3 (by decide) (htU _ fl_X8_22) (fun _ h9 => h9) rfl dX8_skipLetters_27 ?_
          refine lv_iconst (v := 1) hx hb dX8_skipLetters_30 (by decide) ?_
          refine lv_iadd hx hb dX8_skipLetters_31 ?_
          refine lv_topi (fun f_7 e_f_7 => ?_)
          have h := nm_at e_f_7 h
          refine va_put (v := .int f_7) (ty := .int) hx hb htU iU_X8 tyX8 tyX8_ok nmX8 hown hK hP hD hS 0 rfl rfl 3 (by decide) (htU _ fl_X8_22) (fun _ h9 => h9) rfl (by decide +kernel) rfl rfl (Nat.le_of_ble_eq_true rfl) dX8_skipLetters_32 (fun H locs hP hD hS => ?_)
          have hP : va_P G vwCl [(q_t, .inr (6, [.ref q_t_bytes, .int t.2.1, .int t.2.2.1, .int f_7, .int t.2.2.2.2.1, .int t.2.2.2.2.2.1, .int t.2.2.2.2.2.2])), (q_t_bytes, .inl (ca 1, 600, .inl t.1))] H := hP
          have hD : va_D A [(q_t, .inr (6, [.ref q_t_bytes, .int t.2.1, .int t.2.2.1, .int f_7, .int t.2.2.2.2.1, .int t.2.2.2.2.2.1, .int t.2.2.2.2.2.2])), (q_t_bytes, .inl (ca 1, 600, .inl t.1))] := hD
          refine lv_goto (tgt := 0) hx hb dX8_skipLetters_35 (by decide) ?_
          exact ih_0 (t.1, t.2.1, t.2.2.1, f_7, t.2.2.2.2.1, t.2.2.2.2.2.1, t.2.2.2.2.2.2) ls H _ (lv_sub hl [0] rfl) hP hD hS h
  exact hL_0 FUEL t ls s.heap _ (lv_sub hl [0] rfl) hP hD hS h
theorem ms_X8_isDigit : sw_MS yX8_isDigit cX8_isDigit 1 (Option.some Jvm.ClassFile.FieldType.boolean) 1 := ⟨st_X8_isDigit, ini_X8, co_X8_isDigit, by decide +kernel⟩
def F_X8_isDigit (x0 : Int32) : Option (Bool) :=
 (if x0 < 48 then some false else (if 57 < x0 then some false else some true))
abbrev RM_X8_isDigit : Room := ({ frames := 0, cells := 0, slots := 0, locals := 0 } : Room)
set_option maxHeartbeats 4000000 in
set_option maxRecDepth 100000 in
theorem c_X8_isDigit (l : Launch) (G : va_G) (ca Z : Nat → Nat) (sz : Nat) (x0 : Int32) (res : Bool) (hF : F_X8_isDigit x0 = some res) : Met l yX8_isDigit (.code yX8_isDigit cX8_isDigit 1 (Option.some Jvm.ClassFile.FieldType.boolean) :: sw_U) RM_X8_isDigit (va_Pc [.int x0] (sw_Pre G ca Z [] sz)) ((fun A => va_Qi (fun r (u : Unit) => bI res = r) (sw_Post G A (fun (u : Unit) => [])) A) (va_A [] sz)) 0 0 (va_A [] sz) := by
  refine sw_ofW (Qc := fun A => va_Qi (fun r (u : Unit) => bI res = r) (sw_Post G A (fun (u : Unit) => [])) A) (by decide) [(0, .int x0)] rfl (Nat.le_of_ble_eq_true rfl) ?_
  intro p e s m args below meth c ls A hx hb hr hml hown htU hlocks hnm hP hK hD hX hY hS hA hl
  have hown : s.vm.findClass RX8 = some m.cls := hown
  have Cx : sw_Cx p s m args c cX8_isDigit 1 RX8 G ca Z A := ⟨⟨hx, hb, hml, hown, htU⟩, hK, hX, hY, hA⟩
  have h := hF
  unfold F_X8_isDigit at h
  refine lv_iload_n hx hb dX8_isDigit_0 rfl (lv_at hl 0 rfl) ?_
  refine lv_bipush (v := 48) hx hb dX8_isDigit_1 (by decide) ?_
  refine lv_icmp_lt (tgt := 16) hx hb dX8_isDigit_3 (by decide) (fun c_1 => ?_) (fun c_1 => ?_)
  · have h := if_t c_1 h
    refine lv_iconst (v := 0) hx hb dX8_isDigit_16 (by decide) ?_
    exact sw_rz hx hb hr rfl hlocks hS () (pb1 h) hP hD dX8_isDigit_17
  · have h := if_f c_1 h
    refine lv_iload_n hx hb dX8_isDigit_6 rfl (lv_at hl 0 rfl) ?_
    refine lv_bipush (v := 57) hx hb dX8_isDigit_7 (by decide) ?_
    refine lv_icmp_gt (tgt := 16) hx hb dX8_isDigit_9 (by decide) (fun c_2 => ?_) (fun c_2 => ?_)
    · have h := if_t c_2 h
      refine lv_iconst (v := 0) hx hb dX8_isDigit_16 (by decide) ?_
      exact sw_rz hx hb hr rfl hlocks hS () (pb1 h) hP hD dX8_isDigit_17
    · have h := if_f c_2 h
      refine lv_iconst (v := 1) hx hb dX8_isDigit_12 (by decide) ?_
      refine lv_goto (tgt := 17) hx hb dX8_isDigit_13 (by decide) ?_
      exact sw_rz hx hb hr rfl hlocks hS () (pb1 h) hP hD dX8_isDigit_17
theorem mv_X8_readDigits : sw_MV yX8_readDigits RX8 cX8_readDigits 1 (Option.none : Option Jvm.ClassFile.FieldType) 0 := ⟨im_X8_readDigits, se_X8_readDigits, ini_X8, co_X8_readDigits, by decide +kernel⟩
def B_X8_readDigits_0 (k_0 : SrcT → Option (SrcT)) (t : SrcT) : Option (SrcT) :=
 (if t.2.2.1 ≤ t.2.2.2.1 then some t else (F_X8_byteAt t.2.2.2.1 t).bind (fun w_2 => (F_X8_isDigit w_2).bind (fun w_4 => (if w_4 = true then (F_X8_byteAt t.2.2.2.1 t).bind (fun w_7 => nm ((if 1000000 < (((t.2.2.2.2.2.2 * 10) + w_7) - 48) then 1000000 else (((t.2.2.2.2.2.2 * 10) + w_7) - 48))) (fun f_9 => nm ((t.2.2.2.1 + 1)) (fun f_10 => k_0 (t.1, t.2.1, t.2.2.1, f_10, t.2.2.2.2.1, t.2.2.2.2.2.1, f_9)))) else some t))))
def F_X8_readDigits (t : SrcT) : Option (SrcT) :=
 fx (fun _ => none) (B_X8_readDigits_0) FUEL t
abbrev RM_X8_readDigits : Room := ({ frames := 1, cells := 0, slots := 0, locals := 21 } : Room)
set_option maxHeartbeats 4000000 in
set_option maxRecDepth 100000 in
theorem c_X8_readDigits (l : Launch) (G : va_G) (ca Z : Nat → Nat) (q_t : Nat) (q_t_bytes : Nat) (sz : Nat) (t : SrcT) (res : SrcT) (hF : F_X8_readDigits t = some res) : Met l yX8_readDigits (.code yX8_readDigits cX8_readDigits 1 (Option.none : Option Jvm.ClassFile.FieldType) :: sw_U) RM_X8_readDigits (va_Pc [.ref q_t] (sw_Pre G ca Z [(q_t, .inr (6, [.ref q_t_bytes, .int t.2.1, .int t.2.2.1, .int t.2.2.2.1, .int t.2.2.2.2.1, .int t.2.2.2.2.2.1, .int t.2.2.2.2.2.2])), (q_t_bytes, .inl (ca 1, 600, .inl t.1))] sz)) ((fun A => va_Qv (fun (u : SrcT) => res = u) (sw_Post G A (fun (u : SrcT) => [(q_t, .inr (6, [.ref q_t_bytes, .int u.2.1, .int u.2.2.1, .int u.2.2.2.1, .int u.2.2.2.2.1, .int u.2.2.2.2.2.1, .int u.2.2.2.2.2.2])), (q_t_bytes, .inl (ca 1, 600, .inl u.1))])) A) (va_A [(q_t, .inr (6, [.ref q_t_bytes, .int t.2.1, .int t.2.2.1, .int t.2.2.2.1, .int t.2.2.2.2.1, .int t.2.2.2.2.2.1, .int t.2.2.2.2.2.2])), (q_t_bytes, .inl (ca 1, 600, .inl t.1))] sz)) 0 0 (va_A [(q_t, .inr (6, [.ref q_t_bytes, .int t.2.1, .int t.2.2.1, .int t.2.2.2.1, .int t.2.2.2.2.1, .int t.2.2.2.2.2.1, .int t.2.2.2.2.2.2])), (q_t_bytes, .inl (ca 1, 600, .inl t.1))] sz) := by
  refine sw_ofW (Qc := fun A => va_Qv (fun (u : SrcT) => res = u) (sw_Post G A (fun (u : SrcT) => [(q_t, .inr (6, [.ref q_t_bytes, .int u.2.1, .int u.2.2.1, .int u.2.2.2.1, .int u.2.2.2.2.1, .int u.2.2.2.2.2.1, .int u.2.2.2.2.2.2])), (q_t_bytes, .inl (ca 1, 600, .inl u.1))])) A) (by decide) [(0, .ref q_t)] rfl (Nat.le_of_ble_eq_true rfl) ?_
  intro p e s m args below meth c ls A hx hb hr hml hown htU hlocks hnm hP hK hD hX hY hS hA hl
  have hown : s.vm.findClass RX8 = some m.cls := hown
  have Cx : sw_Cx p s m args c cX8_readDigits 1 RX8 G ca Z A := ⟨⟨hx, hb, hml, hown, htU⟩, hK, hX, hY, hA⟩
  have h := hF
  unfold F_X8_readDigits at h
  have hL_0 : ∀ (n_0 : Nat) (t : SrcT) (ls : Array Slot) (H : Heap) (locs : List Loc), lv_has ls 1 [(0, .ref q_t)] → va_P G vwCl [(q_t, .inr (6, [.ref q_t_bytes, .int t.2.1, .int t.2.2.1, .int t.2.2.2.1, .int t.2.2.2.2.1, .int t.2.2.2.2.2.1, .int t.2.2.2.2.2.2])), (q_t_bytes, .inl (ca 1, 600, .inl t.1))] H → va_D A [(q_t, .inr (6, [.ref q_t_bytes, .int t.2.1, .int t.2.2.1, .int t.2.2.2.1, .int t.2.2.2.2.1, .int t.2.2.2.2.2.1, .int t.2.2.2.2.2.2])), (q_t_bytes, .inl (ca 1, 600, .inl t.1))] → va_S A s.heap H locs → fx (fun _ => none) (B_X8_readDigits_0) n_0 t = some res → W p l e RM_X8_readDigits s m args below meth c H locs 0 0 (MQ below ((fun A => va_Qv (fun (u : SrcT) => res = u) (sw_Post G A (fun (u : SrcT) => [(q_t, .inr (6, [.ref q_t_bytes, .int u.2.1, .int u.2.2.1, .int u.2.2.2.1, .int u.2.2.2.2.1, .int u.2.2.2.2.2.1, .int u.2.2.2.2.2.2])), (q_t_bytes, .inl (ca 1, 600, .inl u.1))])) A) A) args s 0 0 A) (F0 m 0 ls []) := by
    intro n_0
    induction n_0 with
    | zero => intro t ls H locs hl hP hD hS h; exact no_at h
    | succ n_0 ih_0 =>
      intro t ls H locs hl hP hD hS h
      rw [fx_s] at h
      unfold B_X8_readDigits_0 at h
      refine lv_aload_n hx hb dX8_readDigits_0 rfl (lv_at hl 0 rfl) ?_
      refine va_get (v := .int t.2.2.2.1) hx hb htU iU_X8 hown hK hP 0 rfl rfl 3 (by decide) (htU _ fl_X8_22) (fun _ h9 => h9) rfl dX8_readDigits_1 ?_
      refine lv_aload_n hx hb dX8_readDigits_4 rfl (lv_at hl 0 rfl) ?_
      refine va_get (v := .int t.2.2.1) hx hb htU iU_X8 hown hK hP 0 rfl rfl 2 (by decide) (htU _ fl_X8_19) (fun _ h9 => h9) rfl dX8_readDigits_5 ?_
      refine lv_icmp_ge (tgt := 66) hx hb dX8_readDigits_8 (by decide) (fun c_1 => ?_) (fun c_1 => ?_)
      · have h := if_t c_1 h
        exact sw_rv hx hb hr hlocks hS t (pr1 h) hP hD dX8_readDigits_66
      · have h := if_f c_1 h
        refine lv_aload_n hx hb dX8_readDigits_11 rfl (lv_at hl 0 rfl) ?_
        refine lv_aload_n hx hb dX8_readDigits_12 rfl (lv_at hl 0 rfl) ?_
        refine va_get (v := .int t.2.2.2.1) hx hb htU iU_X8 hown hK hP 0 rfl rfl 3 (by decide) (htU _ fl_X8_22) (fun _ h9 => h9) rfl dX8_readDigits_13 ?_
        obtain ⟨w_2, hg_3, h⟩ := bd_at h
        refine sw_ci (sw_runV (As := [.int t.2.2.2.1]) (rest := []) Cx hP hD hS mv_X8_byteAt ml_X8_43 (c_X8_byteAt l G ca Z q_t q_t_bytes H.size t.2.2.2.1 t w_2 hg_3) 6 rfl rfl rfl [0, 1] rfl rfl rfl rfl ⟨(Nat.le_of_ble_eq_true rfl), (Nat.le_of_ble_eq_true rfl)⟩ hl.1 rfl rfl (Nat.le_of_ble_eq_true rfl) dX8_readDigits_16 ⟨(Nat.le_of_ble_eq_true rfl), (Nat.le_of_ble_eq_true rfl)⟩) hP hD hS hA [0, 1] [] [0, 1] rfl rfl rfl (by decide) (fun _ => rfl) rfl (fun r u H locs hw hP hD hS => ?_)
        subst hw
        have hP : va_P G vwCl [(q_t, .inr (6, [.ref q_t_bytes, .int t.2.1, .int t.2.2.1, .int t.2.2.2.1, .int t.2.2.2.2.1, .int t.2.2.2.2.2.1, .int t.2.2.2.2.2.2])), (q_t_bytes, .inl (ca 1, 600, .inl t.1))] H := hP
        have hD : va_D A [(q_t, .inr (6, [.ref q_t_bytes, .int t.2.1, .int t.2.2.1, .int t.2.2.2.1, .int t.2.2.2.2.1, .int t.2.2.2.2.2.1, .int t.2.2.2.2.2.2])), (q_t_bytes, .inl (ca 1, 600, .inl t.1))] := hD
        obtain ⟨w_4, hg_5, h⟩ := bd_at h
        refine sw_ci (sw_runS (As := [.int w_2]) (rest := []) Cx hP hD hS ms_X8_isDigit ml_X8_57 (c_X8_isDigit l G ca Z H.size w_2 w_4 hg_5) [] rfl rfl rfl rfl ⟨(Nat.le_of_ble_eq_true rfl), (Nat.le_of_ble_eq_true rfl)⟩ hl.1 rfl rfl (Nat.le_of_ble_eq_true rfl) dX8_readDigits_19 ⟨(Nat.le_of_ble_eq_true rfl), (Nat.le_of_ble_eq_true rfl)⟩) hP hD hS hA [] [0, 1] [0, 1] rfl rfl rfl (by decide) (fun _ => rfl) rfl (fun r u H locs hw hP hD hS => ?_)
        subst hw
        have hP : va_P G vwCl [(q_t, .inr (6, [.ref q_t_bytes, .int t.2.1, .int t.2.2.1, .int t.2.2.2.1, .int t.2.2.2.2.1, .int t.2.2.2.2.2.1, .int t.2.2.2.2.2.2])), (q_t_bytes, .inl (ca 1, 600, .inl t.1))] H := hP
        have hD : va_D A [(q_t, .inr (6, [.ref q_t_bytes, .int t.2.1, .int t.2.2.1, .int t.2.2.2.1, .int t.2.2.2.2.1, .int t.2.2.2.2.2.1, .int t.2.2.2.2.2.2])), (q_t_bytes, .inl (ca 1, 600, .inl t.1))] := hD
        refine lv_if_eq (tgt := 66) hx hb dX8_readDigits_22 (by decide) (fun c_6 => ?_) (fun c_6 => ?_)
        · have c_6 := bI_z.mp c_6
          have h := if_f c_6 h
          exact sw_rv hx hb hr hlocks hS t (pr1 h) hP hD dX8_readDigits_66
        · have c_6 := bI_nz.mp c_6
          have h := if_t c_6 h
          refine lv_aload_n hx hb dX8_readDigits_25 rfl (lv_at hl 0 rfl) ?_
          refine lv_aload_n hx hb dX8_readDigits_26 rfl (lv_at hl 0 rfl) ?_
          refine va_get (v := .int t.2.2.2.2.2.2) hx hb htU iU_X8 hown hK hP 0 rfl rfl 6 (by decide) (htU _ fl_X8_31) (fun _ h9 => h9) rfl dX8_readDigits_27 ?_
          refine lv_bipush (v := 10) hx hb dX8_readDigits_30 (by decide) ?_
          refine lv_imul hx hb dX8_readDigits_32 ?_
          refine lv_aload_n hx hb dX8_readDigits_33 rfl (lv_at hl 0 rfl) ?_
          refine lv_aload_n hx hb dX8_readDigits_34 rfl (lv_at hl 0 rfl) ?_
          refine va_get (v := .int t.2.2.2.1) hx hb htU iU_X8 hown hK hP 0 rfl rfl 3 (by decide) (htU _ fl_X8_22) (fun _ h9 => h9) rfl dX8_readDigits_35 ?_
          obtain ⟨w_7, hg_8, h⟩ := bd_at h
          refine sw_ci (sw_runV (As := [.int t.2.2.2.1]) (rest := [.int (t.2.2.2.2.2.2 * 10), .ref q_t]) Cx hP hD hS mv_X8_byteAt ml_X8_43 (c_X8_byteAt l G ca Z q_t q_t_bytes H.size t.2.2.2.1 t w_7 hg_8) 6 rfl rfl rfl [0, 1] rfl rfl rfl rfl ⟨(Nat.le_of_ble_eq_true rfl), (Nat.le_of_ble_eq_true rfl)⟩ hl.1 rfl rfl (Nat.le_of_ble_eq_true rfl) dX8_readDigits_38 ⟨(Nat.le_of_ble_eq_true rfl), (Nat.le_of_ble_eq_true rfl)⟩) hP hD hS hA [0, 1] [] [0, 1] rfl rfl rfl (by decide) (fun _ => rfl) rfl (fun r u H locs hw hP hD hS => ?_)
          subst hw
          have hP : va_P G vwCl [(q_t, .inr (6, [.ref q_t_bytes, .int t.2.1, .int t.2.2.1, .int t.2.2.2.1, .int t.2.2.2.2.1, .int t.2.2.2.2.2.1, .int t.2.2.2.2.2.2])), (q_t_bytes, .inl (ca 1, 600, .inl t.1))] H := hP
          have hD : va_D A [(q_t, .inr (6, [.ref q_t_bytes, .int t.2.1, .int t.2.2.1, .int t.2.2.2.1, .int t.2.2.2.2.1, .int t.2.2.2.2.2.1, .int t.2.2.2.2.2.2])), (q_t_bytes, .inl (ca 1, 600, .inl t.1))] := hD
          refine lv_iadd hx hb dX8_readDigits_41 ?_
          refine lv_bipush (v := 48) hx hb dX8_readDigits_42 (by decide) ?_
          refine lv_isub hx hb dX8_readDigits_44 ?_
          refine lv_ldc (v := 1000000) hx hb hown (htU _ kc_X8_63) dX8_readDigits_45 ?_
          refine va_mmin hx hb (hml.trans hl.1.symm) hown (htU _ mm_X8_34) (htU _ mm_st_min) (htU _ mm_ini) (htU _ mm_co_min) (Nat.le_of_ble_eq_true rfl) (Nat.le_of_ble_eq_true rfl) (Nat.le_of_ble_eq_true rfl) (Nat.le_of_ble_eq_true rfl) dX8_readDigits_47 ?_
          refine lv_topi (fun f_9 e_f_9 => ?_)
          have h := nm_at e_f_9 h
          refine va_put (v := .int f_9) (ty := .int) hx hb htU iU_X8 tyX8 tyX8_ok nmX8 hown hK hP hD hS 0 rfl rfl 6 (by decide) (htU _ fl_X8_31) (fun _ h9 => h9) rfl (by decide +kernel) rfl rfl (Nat.le_of_ble_eq_true rfl) dX8_readDigits_50 (fun H locs hP hD hS => ?_)
          have hP : va_P G vwCl [(q_t, .inr (6, [.ref q_t_bytes, .int t.2.1, .int t.2.2.1, .int t.2.2.2.1, .int t.2.2.2.2.1, .int t.2.2.2.2.2.1, .int f_9])), (q_t_bytes, .inl (ca 1, 600, .inl t.1))] H := hP
          have hD : va_D A [(q_t, .inr (6, [.ref q_t_bytes, .int t.2.1, .int t.2.2.1, .int t.2.2.2.1, .int t.2.2.2.2.1, .int t.2.2.2.2.2.1, .int f_9])), (q_t_bytes, .inl (ca 1, 600, .inl t.1))] := hD
          refine lv_aload_n hx hb dX8_readDigits_53 rfl (lv_at hl 0 rfl) ?_
          refine lv_dup hx hb dX8_readDigits_54 rfl ?_
          refine va_get (v := .int t.2.2.2.1) hx hb htU iU_X8 hown hK hP 0 rfl rfl 3 (by decide) (htU _ fl_X8_22) (fun _ h9 => h9) rfl dX8_readDigits_55 ?_
          refine lv_iconst (v := 1) hx hb dX8_readDigits_58 (by decide) ?_
          refine lv_iadd hx hb dX8_readDigits_59 ?_
          refine lv_topi (fun f_10 e_f_10 => ?_)
          have h := nm_at e_f_10 h
          refine va_put (v := .int f_10) (ty := .int) hx hb htU iU_X8 tyX8 tyX8_ok nmX8 hown hK hP hD hS 0 rfl rfl 3 (by decide) (htU _ fl_X8_22) (fun _ h9 => h9) rfl (by decide +kernel) rfl rfl (Nat.le_of_ble_eq_true rfl) dX8_readDigits_60 (fun H locs hP hD hS => ?_)
          have hP : va_P G vwCl [(q_t, .inr (6, [.ref q_t_bytes, .int t.2.1, .int t.2.2.1, .int f_10, .int t.2.2.2.2.1, .int t.2.2.2.2.2.1, .int f_9])), (q_t_bytes, .inl (ca 1, 600, .inl t.1))] H := hP
          have hD : va_D A [(q_t, .inr (6, [.ref q_t_bytes, .int t.2.1, .int t.2.2.1, .int f_10, .int t.2.2.2.2.1, .int t.2.2.2.2.2.1, .int f_9])), (q_t_bytes, .inl (ca 1, 600, .inl t.1))] := hD
          refine lv_goto (tgt := 0) hx hb dX8_readDigits_63 (by decide) ?_
          exact ih_0 (t.1, t.2.1, t.2.2.1, f_10, t.2.2.2.2.1, t.2.2.2.2.2.1, f_9) ls H _ (lv_sub hl [0] rfl) hP hD hS h
  exact hL_0 FUEL t ls s.heap _ (lv_sub hl [0] rfl) hP hD hS h
theorem mv_X8_advance : sw_MV yX8_advance RX8 cX8_advance 1 (Option.none : Option Jvm.ClassFile.FieldType) 0 := ⟨im_X8_advance, se_X8_advance, ini_X8, co_X8_advance, by decide +kernel⟩
def B_X8_advance_0 (k_0 : SrcT → Option (SrcT)) (t : SrcT) : Option (SrcT) :=
 (if t.2.2.1 ≤ t.2.2.2.1 then (if t.2.2.2.1 < t.2.2.1 then (F_X8_byteAt t.2.2.2.1 (t.1, t.2.1, t.2.2.1, t.2.2.2.1, t.2.2.2.2.1, t.2.2.2.1, 0)).bind (fun w_3 => (F_X8_isLetter w_3).bind (fun w_5 => (if w_5 = true then (F_X8_skipLetters (t.1, t.2.1, t.2.2.1, t.2.2.2.1, 1, t.2.2.2.1, 0)).bind (fun w_20 => some w_20) else (F_X8_byteAt t.2.2.2.1 (t.1, t.2.1, t.2.2.1, t.2.2.2.1, t.2.2.2.2.1, t.2.2.2.1, 0)).bind (fun w_8 => (F_X8_isDigit w_8).bind (fun w_10 => (if w_10 = true then (F_X8_readDigits (t.1, t.2.1, t.2.2.1, t.2.2.2.1, 2, t.2.2.2.1, 0)).bind (fun w_18 => some w_18) else (F_X8_byteAt t.2.2.2.1 (t.1, t.2.1, t.2.2.1, t.2.2.2.1, t.2.2.2.2.1, t.2.2.2.1, 0)).bind (fun w_13 => (if w_13 = 59 then nm ((t.2.2.2.1 + 1)) (fun f_17 => some (t.1, t.2.1, t.2.2.1, f_17, 3, t.2.2.2.1, 0)) else nm ((t.2.2.2.1 + 1)) (fun f_16 => some (t.1, t.2.1, t.2.2.1, f_16, 4, t.2.2.2.1, 0)))))))))) else some (t.1, t.2.1, t.2.2.1, t.2.2.2.1, 0, t.2.2.2.1, 0)) else (F_X8_byteAt t.2.2.2.1 t).bind (fun w_22 => (F_X8_isBlank w_22).bind (fun w_24 => (if w_24 = true then nm ((t.2.2.2.1 + 1)) (fun f_47 => k_0 (t.1, t.2.1, t.2.2.1, f_47, t.2.2.2.2.1, t.2.2.2.2.2.1, t.2.2.2.2.2.2)) else (if t.2.2.2.1 < t.2.2.1 then (F_X8_byteAt t.2.2.2.1 (t.1, t.2.1, t.2.2.1, t.2.2.2.1, t.2.2.2.2.1, t.2.2.2.1, 0)).bind (fun w_28 => (F_X8_isLetter w_28).bind (fun w_30 => (if w_30 = true then (F_X8_skipLetters (t.1, t.2.1, t.2.2.1, t.2.2.2.1, 1, t.2.2.2.1, 0)).bind (fun w_45 => some w_45) else (F_X8_byteAt t.2.2.2.1 (t.1, t.2.1, t.2.2.1, t.2.2.2.1, t.2.2.2.2.1, t.2.2.2.1, 0)).bind (fun w_33 => (F_X8_isDigit w_33).bind (fun w_35 => (if w_35 = true then (F_X8_readDigits (t.1, t.2.1, t.2.2.1, t.2.2.2.1, 2, t.2.2.2.1, 0)).bind (fun w_43 => some w_43) else (F_X8_byteAt t.2.2.2.1 (t.1, t.2.1, t.2.2.1, t.2.2.2.1, t.2.2.2.2.1, t.2.2.2.1, 0)).bind (fun w_38 => (if w_38 = 59 then nm ((t.2.2.2.1 + 1)) (fun f_42 => some (t.1, t.2.1, t.2.2.1, f_42, 3, t.2.2.2.1, 0)) else nm ((t.2.2.2.1 + 1)) (fun f_41 => some (t.1, t.2.1, t.2.2.1, f_41, 4, t.2.2.2.1, 0)))))))))) else some (t.1, t.2.1, t.2.2.1, t.2.2.2.1, 0, t.2.2.2.1, 0))))))
def F_X8_advance (t : SrcT) : Option (SrcT) :=
 fx (fun _ => none) (B_X8_advance_0) FUEL t
abbrev RM_X8_advance : Room := ({ frames := 2, cells := 0, slots := 0, locals := 41 } : Room)
set_option maxHeartbeats 4000000 in
set_option maxRecDepth 100000 in
theorem c_X8_advance (l : Launch) (G : va_G) (ca Z : Nat → Nat) (q_t : Nat) (q_t_bytes : Nat) (sz : Nat) (t : SrcT) (res : SrcT) (hF : F_X8_advance t = some res) : Met l yX8_advance (.code yX8_advance cX8_advance 1 (Option.none : Option Jvm.ClassFile.FieldType) :: sw_U) RM_X8_advance (va_Pc [.ref q_t] (sw_Pre G ca Z [(q_t, .inr (6, [.ref q_t_bytes, .int t.2.1, .int t.2.2.1, .int t.2.2.2.1, .int t.2.2.2.2.1, .int t.2.2.2.2.2.1, .int t.2.2.2.2.2.2])), (q_t_bytes, .inl (ca 1, 600, .inl t.1))] sz)) ((fun A => va_Qv (fun (u : SrcT) => res = u) (sw_Post G A (fun (u : SrcT) => [(q_t, .inr (6, [.ref q_t_bytes, .int u.2.1, .int u.2.2.1, .int u.2.2.2.1, .int u.2.2.2.2.1, .int u.2.2.2.2.2.1, .int u.2.2.2.2.2.2])), (q_t_bytes, .inl (ca 1, 600, .inl u.1))])) A) (va_A [(q_t, .inr (6, [.ref q_t_bytes, .int t.2.1, .int t.2.2.1, .int t.2.2.2.1, .int t.2.2.2.2.1, .int t.2.2.2.2.2.1, .int t.2.2.2.2.2.2])), (q_t_bytes, .inl (ca 1, 600, .inl t.1))] sz)) 0 0 (va_A [(q_t, .inr (6, [.ref q_t_bytes, .int t.2.1, .int t.2.2.1, .int t.2.2.2.1, .int t.2.2.2.2.1, .int t.2.2.2.2.2.1, .int t.2.2.2.2.2.2])), (q_t_bytes, .inl (ca 1, 600, .inl t.1))] sz) := by
  refine sw_ofW (Qc := fun A => va_Qv (fun (u : SrcT) => res = u) (sw_Post G A (fun (u : SrcT) => [(q_t, .inr (6, [.ref q_t_bytes, .int u.2.1, .int u.2.2.1, .int u.2.2.2.1, .int u.2.2.2.2.1, .int u.2.2.2.2.2.1, .int u.2.2.2.2.2.2])), (q_t_bytes, .inl (ca 1, 600, .inl u.1))])) A) (by decide) [(0, .ref q_t)] rfl (Nat.le_of_ble_eq_true rfl) ?_
  intro p e s m args below meth c ls A hx hb hr hml hown htU hlocks hnm hP hK hD hX hY hS hA hl
  have hown : s.vm.findClass RX8 = some m.cls := hown
  have Cx : sw_Cx p s m args c cX8_advance 1 RX8 G ca Z A := ⟨⟨hx, hb, hml, hown, htU⟩, hK, hX, hY, hA⟩
  have h := hF
  unfold F_X8_advance at h
  have hL_0 : ∀ (n_0 : Nat) (t : SrcT) (ls : Array Slot) (H : Heap) (locs : List Loc), lv_has ls 1 [(0, .ref q_t)] → va_P G vwCl [(q_t, .inr (6, [.ref q_t_bytes, .int t.2.1, .int t.2.2.1, .int t.2.2.2.1, .int t.2.2.2.2.1, .int t.2.2.2.2.2.1, .int t.2.2.2.2.2.2])), (q_t_bytes, .inl (ca 1, 600, .inl t.1))] H → va_D A [(q_t, .inr (6, [.ref q_t_bytes, .int t.2.1, .int t.2.2.1, .int t.2.2.2.1, .int t.2.2.2.2.1, .int t.2.2.2.2.2.1, .int t.2.2.2.2.2.2])), (q_t_bytes, .inl (ca 1, 600, .inl t.1))] → va_S A s.heap H locs → fx (fun _ => none) (B_X8_advance_0) n_0 t = some res → W p l e RM_X8_advance s m args below meth c H locs 0 0 (MQ below ((fun A => va_Qv (fun (u : SrcT) => res = u) (sw_Post G A (fun (u : SrcT) => [(q_t, .inr (6, [.ref q_t_bytes, .int u.2.1, .int u.2.2.1, .int u.2.2.2.1, .int u.2.2.2.2.1, .int u.2.2.2.2.2.1, .int u.2.2.2.2.2.2])), (q_t_bytes, .inl (ca 1, 600, .inl u.1))])) A) A) args s 0 0 A) (F0 m 0 ls []) := by
    intro n_0
    induction n_0 with
    | zero => intro t ls H locs hl hP hD hS h; exact no_at h
    | succ n_0 ih_0 =>
      intro t ls H locs hl hP hD hS h
      rw [fx_s] at h
      unfold B_X8_advance_0 at h
      refine lv_aload_n hx hb dX8_advance_0 rfl (lv_at hl 0 rfl) ?_
      refine va_get (v := .int t.2.2.2.1) hx hb htU iU_X8 hown hK hP 0 rfl rfl 3 (by decide) (htU _ fl_X8_22) (fun _ h9 => h9) rfl dX8_advance_1 ?_
      refine lv_aload_n hx hb dX8_advance_4 rfl (lv_at hl 0 rfl) ?_
      refine va_get (v := .int t.2.2.1) hx hb htU iU_X8 hown hK hP 0 rfl rfl 2 (by decide) (htU _ fl_X8_19) (fun _ h9 => h9) rfl dX8_advance_5 ?_
      refine lv_icmp_ge (tgt := 38) hx hb dX8_advance_8 (by decide) (fun c_1 => ?_) (fun c_1 => ?_)
      · have h := if_t c_1 h
        refine lv_aload_n hx hb dX8_advance_38 rfl (lv_at hl 0 rfl) ?_
        refine lv_aload_n hx hb dX8_advance_39 rfl (lv_at hl 0 rfl) ?_
        refine va_get (v := .int t.2.2.2.1) hx hb htU iU_X8 hown hK hP 0 rfl rfl 3 (by decide) (htU _ fl_X8_22) (fun _ h9 => h9) rfl dX8_advance_40 ?_
        refine va_put (v := .int t.2.2.2.1) (ty := .int) hx hb htU iU_X8 tyX8 tyX8_ok nmX8 hown hK hP hD hS 0 rfl rfl 5 (by decide) (htU _ fl_X8_28) (fun _ h9 => h9) rfl (by decide +kernel) rfl rfl (Nat.le_of_ble_eq_true rfl) dX8_advance_43 (fun H locs hP hD hS => ?_)
        have hP : va_P G vwCl [(q_t, .inr (6, [.ref q_t_bytes, .int t.2.1, .int t.2.2.1, .int t.2.2.2.1, .int t.2.2.2.2.1, .int t.2.2.2.1, .int t.2.2.2.2.2.2])), (q_t_bytes, .inl (ca 1, 600, .inl t.1))] H := hP
        have hD : va_D A [(q_t, .inr (6, [.ref q_t_bytes, .int t.2.1, .int t.2.2.1, .int t.2.2.2.1, .int t.2.2.2.2.1, .int t.2.2.2.1, .int t.2.2.2.2.2.2])), (q_t_bytes, .inl (ca 1, 600, .inl t.1))] := hD
        refine lv_aload_n hx hb dX8_advance_46 rfl (lv_at hl 0 rfl) ?_
        refine lv_iconst (v := 0) hx hb dX8_advance_47 (by decide) ?_
        refine va_put (v := .int 0) (ty := .int) hx hb htU iU_X8 tyX8 tyX8_ok nmX8 hown hK hP hD hS 0 rfl rfl 6 (by decide) (htU _ fl_X8_31) (fun _ h9 => h9) rfl (by decide +kernel) rfl rfl (Nat.le_of_ble_eq_true rfl) dX8_advance_48 (fun H locs hP hD hS => ?_)
        have hP : va_P G vwCl [(q_t, .inr (6, [.ref q_t_bytes, .int t.2.1, .int t.2.2.1, .int t.2.2.2.1, .int t.2.2.2.2.1, .int t.2.2.2.1, .int 0])), (q_t_bytes, .inl (ca 1, 600, .inl t.1))] H := hP
        have hD : va_D A [(q_t, .inr (6, [.ref q_t_bytes, .int t.2.1, .int t.2.2.1, .int t.2.2.2.1, .int t.2.2.2.2.1, .int t.2.2.2.1, .int 0])), (q_t_bytes, .inl (ca 1, 600, .inl t.1))] := hD
        refine lv_aload_n hx hb dX8_advance_51 rfl (lv_at hl 0 rfl) ?_
        refine va_get (v := .int t.2.2.2.1) hx hb htU iU_X8 hown hK hP 0 rfl rfl 3 (by decide) (htU _ fl_X8_22) (fun _ h9 => h9) rfl dX8_advance_52 ?_
        refine lv_aload_n hx hb dX8_advance_55 rfl (lv_at hl 0 rfl) ?_
        refine va_get (v := .int t.2.2.1) hx hb htU iU_X8 hown hK hP 0 rfl rfl 2 (by decide) (htU _ fl_X8_19) (fun _ h9 => h9) rfl dX8_advance_56 ?_
        refine lv_icmp_lt (tgt := 70) hx hb dX8_advance_59 (by decide) (fun c_2 => ?_) (fun c_2 => ?_)
        · have h := if_t c_2 h
          refine lv_aload_n hx hb dX8_advance_70 rfl (lv_at hl 0 rfl) ?_
          refine lv_aload_n hx hb dX8_advance_71 rfl (lv_at hl 0 rfl) ?_
          refine va_get (v := .int t.2.2.2.1) hx hb htU iU_X8 hown hK hP 0 rfl rfl 3 (by decide) (htU _ fl_X8_22) (fun _ h9 => h9) rfl dX8_advance_72 ?_
          obtain ⟨w_3, hg_4, h⟩ := bd_at h
          refine sw_ci (sw_runV (As := [.int t.2.2.2.1]) (rest := []) Cx hP hD hS mv_X8_byteAt ml_X8_43 (c_X8_byteAt l G ca Z q_t q_t_bytes H.size t.2.2.2.1 (t.1, t.2.1, t.2.2.1, t.2.2.2.1, t.2.2.2.2.1, t.2.2.2.1, 0) w_3 hg_4) 6 rfl rfl rfl [0, 1] rfl rfl rfl rfl ⟨(Nat.le_of_ble_eq_true rfl), (Nat.le_of_ble_eq_true rfl)⟩ hl.1 rfl rfl (Nat.le_of_ble_eq_true rfl) dX8_advance_75 ⟨(Nat.le_of_ble_eq_true rfl), (Nat.le_of_ble_eq_true rfl)⟩) hP hD hS hA [0, 1] [] [0, 1] rfl rfl rfl (by decide) (fun _ => rfl) rfl (fun r u H locs hw hP hD hS => ?_)
          subst hw
          have hP : va_P G vwCl [(q_t, .inr (6, [.ref q_t_bytes, .int t.2.1, .int t.2.2.1, .int t.2.2.2.1, .int t.2.2.2.2.1, .int t.2.2.2.1, .int 0])), (q_t_bytes, .inl (ca 1, 600, .inl t.1))] H := hP
          have hD : va_D A [(q_t, .inr (6, [.ref q_t_bytes, .int t.2.1, .int t.2.2.1, .int t.2.2.2.1, .int t.2.2.2.2.1, .int t.2.2.2.1, .int 0])), (q_t_bytes, .inl (ca 1, 600, .inl t.1))] := hD
          obtain ⟨w_5, hg_6, h⟩ := bd_at h
          refine sw_ci (sw_runS (As := [.int w_3]) (rest := []) Cx hP hD hS ms_X8_isLetter ml_X8_51 (c_X8_isLetter l G ca Z H.size w_3 w_5 hg_6) [] rfl rfl rfl rfl ⟨(Nat.le_of_ble_eq_true rfl), (Nat.le_of_ble_eq_true rfl)⟩ hl.1 rfl rfl (Nat.le_of_ble_eq_true rfl) dX8_advance_78 ⟨(Nat.le_of_ble_eq_true rfl), (Nat.le_of_ble_eq_true rfl)⟩) hP hD hS hA [] [0, 1] [0, 1] rfl rfl rfl (by decide) (fun _ => rfl) rfl (fun r u H locs hw hP hD hS => ?_)
          subst hw
          have hP : va_P G vwCl [(q_t, .inr (6, [.ref q_t_bytes, .int t.2.1, .int t.2.2.1, .int t.2.2.2.1, .int t.2.2.2.2.1, .int t.2.2.2.1, .int 0])), (q_t_bytes, .inl (ca 1, 600, .inl t.1))] H := hP
          have hD : va_D A [(q_t, .inr (6, [.ref q_t_bytes, .int t.2.1, .int t.2.2.1, .int t.2.2.2.1, .int t.2.2.2.2.1, .int t.2.2.2.1, .int 0])), (q_t_bytes, .inl (ca 1, 600, .inl t.1))] := hD
          refine lv_if_eq (tgt := 96) hx hb dX8_advance_81 (by decide) (fun c_7 => ?_) (fun c_7 => ?_)
          · have c_7 := bI_z.mp c_7
            have h := if_f c_7 h
            refine lv_aload_n hx hb dX8_advance_96 rfl (lv_at hl 0 rfl) ?_
            refine lv_aload_n hx hb dX8_advance_97 rfl (lv_at hl 0 rfl) ?_
            refine va_get (v := .int t.2.2.2.1) hx hb htU iU_X8 hown hK hP 0 rfl rfl 3 (by decide) (htU _ fl_X8_22) (fun _ h9 => h9) rfl dX8_advance_98 ?_
            obtain ⟨w_8, hg_9, h⟩ := bd_at h
            refine sw_ci (sw_runV (As := [.int t.2.2.2.1]) (rest := []) Cx hP hD hS mv_X8_byteAt ml_X8_43 (c_X8_byteAt l G ca Z q_t q_t_bytes H.size t.2.2.2.1 (t.1, t.2.1, t.2.2.1, t.2.2.2.1, t.2.2.2.2.1, t.2.2.2.1, 0) w_8 hg_9) 6 rfl rfl rfl [0, 1] rfl rfl rfl rfl ⟨(Nat.le_of_ble_eq_true rfl), (Nat.le_of_ble_eq_true rfl)⟩ hl.1 rfl rfl (Nat.le_of_ble_eq_true rfl) dX8_advance_101 ⟨(Nat.le_of_ble_eq_true rfl), (Nat.le_of_ble_eq_true rfl)⟩) hP hD hS hA [0, 1] [] [0, 1] rfl rfl rfl (by decide) (fun _ => rfl) rfl (fun r u H locs hw hP hD hS => ?_)
            subst hw
            have hP : va_P G vwCl [(q_t, .inr (6, [.ref q_t_bytes, .int t.2.1, .int t.2.2.1, .int t.2.2.2.1, .int t.2.2.2.2.1, .int t.2.2.2.1, .int 0])), (q_t_bytes, .inl (ca 1, 600, .inl t.1))] H := hP
            have hD : va_D A [(q_t, .inr (6, [.ref q_t_bytes, .int t.2.1, .int t.2.2.1, .int t.2.2.2.1, .int t.2.2.2.2.1, .int t.2.2.2.1, .int 0])), (q_t_bytes, .inl (ca 1, 600, .inl t.1))] := hD
            obtain ⟨w_10, hg_11, h⟩ := bd_at h
            refine sw_ci (sw_runS (As := [.int w_8]) (rest := []) Cx hP hD hS ms_X8_isDigit ml_X8_57 (c_X8_isDigit l G ca Z H.size w_8 w_10 hg_11) [] rfl rfl rfl rfl ⟨(Nat.le_of_ble_eq_true rfl), (Nat.le_of_ble_eq_true rfl)⟩ hl.1 rfl rfl (Nat.le_of_ble_eq_true rfl) dX8_advance_104 ⟨(Nat.le_of_ble_eq_true rfl), (Nat.le_of_ble_eq_true rfl)⟩) hP hD hS hA [] [0, 1] [0, 1] rfl rfl rfl (by decide) (fun _ => rfl) rfl (fun r u H locs hw hP hD hS => ?_)
            subst hw
            have hP : va_P G vwCl [(q_t, .inr (6, [.ref q_t_bytes, .int t.2.1, .int t.2.2.1, .int t.2.2.2.1, .int t.2.2.2.2.1, .int t.2.2.2.1, .int 0])), (q_t_bytes, .inl (ca 1, 600, .inl t.1))] H := hP
            have hD : va_D A [(q_t, .inr (6, [.ref q_t_bytes, .int t.2.1, .int t.2.2.1, .int t.2.2.2.1, .int t.2.2.2.2.1, .int t.2.2.2.1, .int 0])), (q_t_bytes, .inl (ca 1, 600, .inl t.1))] := hD
            refine lv_if_eq (tgt := 122) hx hb dX8_advance_107 (by decide) (fun c_12 => ?_) (fun c_12 => ?_)
            · have c_12 := bI_z.mp c_12
              have h := if_f c_12 h
              refine lv_aload_n hx hb dX8_advance_122 rfl (lv_at hl 0 rfl) ?_
              refine lv_aload_n hx hb dX8_advance_123 rfl (lv_at hl 0 rfl) ?_
              refine lv_aload_n hx hb dX8_advance_124 rfl (lv_at hl 0 rfl) ?_
              refine va_get (v := .int t.2.2.2.1) hx hb htU iU_X8 hown hK hP 0 rfl rfl 3 (by decide) (htU _ fl_X8_22) (fun _ h9 => h9) rfl dX8_advance_125 ?_
              obtain ⟨w_13, hg_14, h⟩ := bd_at h
              refine sw_ci (sw_runV (As := [.int t.2.2.2.1]) (rest := [.ref q_t]) Cx hP hD hS mv_X8_byteAt ml_X8_43 (c_X8_byteAt l G ca Z q_t q_t_bytes H.size t.2.2.2.1 (t.1, t.2.1, t.2.2.1, t.2.2.2.1, t.2.2.2.2.1, t.2.2.2.1, 0) w_13 hg_14) 6 rfl rfl rfl [0, 1] rfl rfl rfl rfl ⟨(Nat.le_of_ble_eq_true rfl), (Nat.le_of_ble_eq_true rfl)⟩ hl.1 rfl rfl (Nat.le_of_ble_eq_true rfl) dX8_advance_128 ⟨(Nat.le_of_ble_eq_true rfl), (Nat.le_of_ble_eq_true rfl)⟩) hP hD hS hA [0, 1] [] [0, 1] rfl rfl rfl (by decide) (fun _ => rfl) rfl (fun r u H locs hw hP hD hS => ?_)
              subst hw
              have hP : va_P G vwCl [(q_t, .inr (6, [.ref q_t_bytes, .int t.2.1, .int t.2.2.1, .int t.2.2.2.1, .int t.2.2.2.2.1, .int t.2.2.2.1, .int 0])), (q_t_bytes, .inl (ca 1, 600, .inl t.1))] H := hP
              have hD : va_D A [(q_t, .inr (6, [.ref q_t_bytes, .int t.2.1, .int t.2.2.1, .int t.2.2.2.1, .int t.2.2.2.2.1, .int t.2.2.2.1, .int 0])), (q_t_bytes, .inl (ca 1, 600, .inl t.1))] := hD
              refine lv_bipush (v := 59) hx hb dX8_advance_131 (by decide) ?_
              refine lv_icmp_ne (tgt := 140) hx hb dX8_advance_133 (by decide) (fun c_15 => ?_) (fun c_15 => ?_)
              · have h := if_f c_15 h
                refine lv_iconst (v := 4) hx hb dX8_advance_140 (by decide) ?_
                refine va_put (v := .int 4) (ty := .int) hx hb htU iU_X8 tyX8 tyX8_ok nmX8 hown hK hP hD hS 0 rfl rfl 4 (by decide) (htU _ fl_X8_25) (fun _ h9 => h9) rfl (by decide +kernel) rfl rfl (Nat.le_of_ble_eq_true rfl) dX8_advance_141 (fun H locs hP hD hS => ?_)
                have hP : va_P G vwCl [(q_t, .inr (6, [.ref q_t_bytes, .int t.2.1, .int t.2.2.1, .int t.2.2.2.1, .int 4, .int t.2.2.2.1, .int 0])), (q_t_bytes, .inl (ca 1, 600, .inl t.1))] H := hP
                have hD : va_D A [(q_t, .inr (6, [.ref q_t_bytes, .int t.2.1, .int t.2.2.1, .int t.2.2.2.1, .int 4, .int t.2.2.2.1, .int 0])), (q_t_bytes, .inl (ca 1, 600, .inl t.1))] := hD
                refine lv_aload_n hx hb dX8_advance_144 rfl (lv_at hl 0 rfl) ?_
                refine lv_dup hx hb dX8_advance_145 rfl ?_
                refine va_get (v := .int t.2.2.2.1) hx hb htU iU_X8 hown hK hP 0 rfl rfl 3 (by decide) (htU _ fl_X8_22) (fun _ h9 => h9) rfl dX8_advance_146 ?_
                refine lv_iconst (v := 1) hx hb dX8_advance_149 (by decide) ?_
                refine lv_iadd hx hb dX8_advance_150 ?_
                refine lv_topi (fun f_16 e_f_16 => ?_)
                have h := nm_at e_f_16 h
                refine va_put (v := .int f_16) (ty := .int) hx hb htU iU_X8 tyX8 tyX8_ok nmX8 hown hK hP hD hS 0 rfl rfl 3 (by decide) (htU _ fl_X8_22) (fun _ h9 => h9) rfl (by decide +kernel) rfl rfl (Nat.le_of_ble_eq_true rfl) dX8_advance_151 (fun H locs hP hD hS => ?_)
                have hP : va_P G vwCl [(q_t, .inr (6, [.ref q_t_bytes, .int t.2.1, .int t.2.2.1, .int f_16, .int 4, .int t.2.2.2.1, .int 0])), (q_t_bytes, .inl (ca 1, 600, .inl t.1))] H := hP
                have hD : va_D A [(q_t, .inr (6, [.ref q_t_bytes, .int t.2.1, .int t.2.2.1, .int f_16, .int 4, .int t.2.2.2.1, .int 0])), (q_t_bytes, .inl (ca 1, 600, .inl t.1))] := hD
                exact sw_rv hx hb hr hlocks hS (t.1, t.2.1, t.2.2.1, f_16, 4, t.2.2.2.1, 0) (pr1 h) hP hD dX8_advance_154
              · have h := if_t c_15 h
                refine lv_iconst (v := 3) hx hb dX8_advance_136 (by decide) ?_
                refine lv_goto (tgt := 141) hx hb dX8_advance_137 (by decide) ?_
                refine va_put (v := .int 3) (ty := .int) hx hb htU iU_X8 tyX8 tyX8_ok nmX8 hown hK hP hD hS 0 rfl rfl 4 (by decide) (htU _ fl_X8_25) (fun _ h9 => h9) rfl (by decide +kernel) rfl rfl (Nat.le_of_ble_eq_true rfl) dX8_advance_141 (fun H locs hP hD hS => ?_)
                have hP : va_P G vwCl [(q_t, .inr (6, [.ref q_t_bytes, .int t.2.1, .int t.2.2.1, .int t.2.2.2.1, .int 3, .int t.2.2.2.1, .int 0])), (q_t_bytes, .inl (ca 1, 600, .inl t.1))] H := hP
                have hD : va_D A [(q_t, .inr (6, [.ref q_t_bytes, .int t.2.1, .int t.2.2.1, .int t.2.2.2.1, .int 3, .int t.2.2.2.1, .int 0])), (q_t_bytes, .inl (ca 1, 600, .inl t.1))] := hD
                refine lv_aload_n hx hb dX8_advance_144 rfl (lv_at hl 0 rfl) ?_
                refine lv_dup hx hb dX8_advance_145 rfl ?_
                refine va_get (v := .int t.2.2.2.1) hx hb htU iU_X8 hown hK hP 0 rfl rfl 3 (by decide) (htU _ fl_X8_22) (fun _ h9 => h9) rfl dX8_advance_146 ?_
                refine lv_iconst (v := 1) hx hb dX8_advance_149 (by decide) ?_
                refine lv_iadd hx hb dX8_advance_150 ?_
                refine lv_topi (fun f_17 e_f_17 => ?_)
                have h := nm_at e_f_17 h
                refine va_put (v := .int f_17) (ty := .int) hx hb htU iU_X8 tyX8 tyX8_ok nmX8 hown hK hP hD hS 0 rfl rfl 3 (by decide) (htU _ fl_X8_22) (fun _ h9 => h9) rfl (by decide +kernel) rfl rfl (Nat.le_of_ble_eq_true rfl) dX8_advance_151 (fun H locs hP hD hS => ?_)
                have hP : va_P G vwCl [(q_t, .inr (6, [.ref q_t_bytes, .int t.2.1, .int t.2.2.1, .int f_17, .int 3, .int t.2.2.2.1, .int 0])), (q_t_bytes, .inl (ca 1, 600, .inl t.1))] H := hP
                have hD : va_D A [(q_t, .inr (6, [.ref q_t_bytes, .int t.2.1, .int t.2.2.1, .int f_17, .int 3, .int t.2.2.2.1, .int 0])), (q_t_bytes, .inl (ca 1, 600, .inl t.1))] := hD
                exact sw_rv hx hb hr hlocks hS (t.1, t.2.1, t.2.2.1, f_17, 3, t.2.2.2.1, 0) (pr1 h) hP hD dX8_advance_154
            · have c_12 := bI_nz.mp c_12
              have h := if_t c_12 h
              refine lv_aload_n hx hb dX8_advance_110 rfl (lv_at hl 0 rfl) ?_
              refine lv_iconst (v := 2) hx hb dX8_advance_111 (by decide) ?_
              refine va_put (v := .int 2) (ty := .int) hx hb htU iU_X8 tyX8 tyX8_ok nmX8 hown hK hP hD hS 0 rfl rfl 4 (by decide) (htU _ fl_X8_25) (fun _ h9 => h9) rfl (by decide +kernel) rfl rfl (Nat.le_of_ble_eq_true rfl) dX8_advance_112 (fun H locs hP hD hS => ?_)
              have hP : va_P G vwCl [(q_t, .inr (6, [.ref q_t_bytes, .int t.2.1, .int t.2.2.1, .int t.2.2.2.1, .int 2, .int t.2.2.2.1, .int 0])), (q_t_bytes, .inl (ca 1, 600, .inl t.1))] H := hP
              have hD : va_D A [(q_t, .inr (6, [.ref q_t_bytes, .int t.2.1, .int t.2.2.1, .int t.2.2.2.1, .int 2, .int t.2.2.2.1, .int 0])), (q_t_bytes, .inl (ca 1, 600, .inl t.1))] := hD
              refine lv_aload_n hx hb dX8_advance_115 rfl (lv_at hl 0 rfl) ?_
              obtain ⟨w_18, hg_19, h⟩ := bd_at h
              refine sw_cv (sw_runV (As := []) (rest := []) Cx hP hD hS mv_X8_readDigits ml_X8_60 (c_X8_readDigits l G ca Z q_t q_t_bytes H.size (t.1, t.2.1, t.2.2.1, t.2.2.2.1, 2, t.2.2.2.1, 0) w_18 hg_19) 6 rfl rfl rfl [0, 1] rfl rfl rfl rfl ⟨(Nat.le_of_ble_eq_true rfl), (Nat.le_of_ble_eq_true rfl)⟩ hl.1 rfl rfl (Nat.le_of_ble_eq_true rfl) dX8_advance_116 ⟨(Nat.le_of_ble_eq_true rfl), (Nat.le_of_ble_eq_true rfl)⟩) hP hD hS hA [0, 1] [] [0, 1] rfl rfl rfl (by decide) (fun _ => rfl) rfl (fun u H locs hw hP hD hS => ?_)
              subst hw
              have hP : va_P G vwCl [(q_t, .inr (6, [.ref q_t_bytes, .int w_18.2.1, .int w_18.2.2.1, .int w_18.2.2.2.1, .int w_18.2.2.2.2.1, .int w_18.2.2.2.2.2.1, .int w_18.2.2.2.2.2.2])), (q_t_bytes, .inl (ca 1, 600, .inl w_18.1))] H := hP
              have hD : va_D A [(q_t, .inr (6, [.ref q_t_bytes, .int w_18.2.1, .int w_18.2.2.1, .int w_18.2.2.2.1, .int w_18.2.2.2.2.1, .int w_18.2.2.2.2.2.1, .int w_18.2.2.2.2.2.2])), (q_t_bytes, .inl (ca 1, 600, .inl w_18.1))] := hD
              refine lv_goto (tgt := 154) hx hb dX8_advance_119 (by decide) ?_
              exact sw_rv hx hb hr hlocks hS w_18 (pr1 h) hP hD dX8_advance_154
          · have c_7 := bI_nz.mp c_7
            have h := if_t c_7 h
            refine lv_aload_n hx hb dX8_advance_84 rfl (lv_at hl 0 rfl) ?_
            refine lv_iconst (v := 1) hx hb dX8_advance_85 (by decide) ?_
            refine va_put (v := .int 1) (ty := .int) hx hb htU iU_X8 tyX8 tyX8_ok nmX8 hown hK hP hD hS 0 rfl rfl 4 (by decide) (htU _ fl_X8_25) (fun _ h9 => h9) rfl (by decide +kernel) rfl rfl (Nat.le_of_ble_eq_true rfl) dX8_advance_86 (fun H locs hP hD hS => ?_)
            have hP : va_P G vwCl [(q_t, .inr (6, [.ref q_t_bytes, .int t.2.1, .int t.2.2.1, .int t.2.2.2.1, .int 1, .int t.2.2.2.1, .int 0])), (q_t_bytes, .inl (ca 1, 600, .inl t.1))] H := hP
            have hD : va_D A [(q_t, .inr (6, [.ref q_t_bytes, .int t.2.1, .int t.2.2.1, .int t.2.2.2.1, .int 1, .int t.2.2.2.1, .int 0])), (q_t_bytes, .inl (ca 1, 600, .inl t.1))] := hD
            refine lv_aload_n hx hb dX8_advance_89 rfl (lv_at hl 0 rfl) ?_
            obtain ⟨w_20, hg_21, h⟩ := bd_at h
            refine sw_cv (sw_runV (As := []) (rest := []) Cx hP hD hS mv_X8_skipLetters ml_X8_54 (c_X8_skipLetters l G ca Z q_t q_t_bytes H.size (t.1, t.2.1, t.2.2.1, t.2.2.2.1, 1, t.2.2.2.1, 0) w_20 hg_21) 6 rfl rfl rfl [0, 1] rfl rfl rfl rfl ⟨(Nat.le_of_ble_eq_true rfl), (Nat.le_of_ble_eq_true rfl)⟩ hl.1 rfl rfl (Nat.le_of_ble_eq_true rfl) dX8_advance_90 ⟨(Nat.le_of_ble_eq_true rfl), (Nat.le_of_ble_eq_true rfl)⟩) hP hD hS hA [0, 1] [] [0, 1] rfl rfl rfl (by decide) (fun _ => rfl) rfl (fun u H locs hw hP hD hS => ?_)
            subst hw
            have hP : va_P G vwCl [(q_t, .inr (6, [.ref q_t_bytes, .int w_20.2.1, .int w_20.2.2.1, .int w_20.2.2.2.1, .int w_20.2.2.2.2.1, .int w_20.2.2.2.2.2.1, .int w_20.2.2.2.2.2.2])), (q_t_bytes, .inl (ca 1, 600, .inl w_20.1))] H := hP
            have hD : va_D A [(q_t, .inr (6, [.ref q_t_bytes, .int w_20.2.1, .int w_20.2.2.1, .int w_20.2.2.2.1, .int w_20.2.2.2.2.1, .int w_20.2.2.2.2.2.1, .int w_20.2.2.2.2.2.2])), (q_t_bytes, .inl (ca 1, 600, .inl w_20.1))] := hD
            refine lv_goto (tgt := 154) hx hb dX8_advance_93 (by decide) ?_
            exact sw_rv hx hb hr hlocks hS w_20 (pr1 h) hP hD dX8_advance_154
        · have h := if_f c_2 h
          refine lv_aload_n hx hb dX8_advance_62 rfl (lv_at hl 0 rfl) ?_
          refine lv_iconst (v := 0) hx hb dX8_advance_63 (by decide) ?_
          refine va_put (v := .int 0) (ty := .int) hx hb htU iU_X8 tyX8 tyX8_ok nmX8 hown hK hP hD hS 0 rfl rfl 4 (by decide) (htU _ fl_X8_25) (fun _ h9 => h9) rfl (by decide +kernel) rfl rfl (Nat.le_of_ble_eq_true rfl) dX8_advance_64 (fun H locs hP hD hS => ?_)
          have hP : va_P G vwCl [(q_t, .inr (6, [.ref q_t_bytes, .int t.2.1, .int t.2.2.1, .int t.2.2.2.1, .int 0, .int t.2.2.2.1, .int 0])), (q_t_bytes, .inl (ca 1, 600, .inl t.1))] H := hP
          have hD : va_D A [(q_t, .inr (6, [.ref q_t_bytes, .int t.2.1, .int t.2.2.1, .int t.2.2.2.1, .int 0, .int t.2.2.2.1, .int 0])), (q_t_bytes, .inl (ca 1, 600, .inl t.1))] := hD
          refine lv_goto (tgt := 154) hx hb dX8_advance_67 (by decide) ?_
          exact sw_rv hx hb hr hlocks hS (t.1, t.2.1, t.2.2.1, t.2.2.2.1, 0, t.2.2.2.1, 0) (pr1 h) hP hD dX8_advance_154
      · have h := if_f c_1 h
        refine lv_aload_n hx hb dX8_advance_11 rfl (lv_at hl 0 rfl) ?_
        refine lv_aload_n hx hb dX8_advance_12 rfl (lv_at hl 0 rfl) ?_
        refine va_get (v := .int t.2.2.2.1) hx hb htU iU_X8 hown hK hP 0 rfl rfl 3 (by decide) (htU _ fl_X8_22) (fun _ h9 => h9) rfl dX8_advance_13 ?_
        obtain ⟨w_22, hg_23, h⟩ := bd_at h
        refine sw_ci (sw_runV (As := [.int t.2.2.2.1]) (rest := []) Cx hP hD hS mv_X8_byteAt ml_X8_43 (c_X8_byteAt l G ca Z q_t q_t_bytes H.size t.2.2.2.1 t w_22 hg_23) 6 rfl rfl rfl [0, 1] rfl rfl rfl rfl ⟨(Nat.le_of_ble_eq_true rfl), (Nat.le_of_ble_eq_true rfl)⟩ hl.1 rfl rfl (Nat.le_of_ble_eq_true rfl) dX8_advance_16 ⟨(Nat.le_of_ble_eq_true rfl), (Nat.le_of_ble_eq_true rfl)⟩) hP hD hS hA [0, 1] [] [0, 1] rfl rfl rfl (by decide) (fun _ => rfl) rfl (fun r u H locs hw hP hD hS => ?_)
        subst hw
        have hP : va_P G vwCl [(q_t, .inr (6, [.ref q_t_bytes, .int t.2.1, .int t.2.2.1, .int t.2.2.2.1, .int t.2.2.2.2.1, .int t.2.2.2.2.2.1, .int t.2.2.2.2.2.2])), (q_t_bytes, .inl (ca 1, 600, .inl t.1))] H := hP
        have hD : va_D A [(q_t, .inr (6, [.ref q_t_bytes, .int t.2.1, .int t.2.2.1, .int t.2.2.2.1, .int t.2.2.2.2.1, .int t.2.2.2.2.2.1, .int t.2.2.2.2.2.2])), (q_t_bytes, .inl (ca 1, 600, .inl t.1))] := hD
        obtain ⟨w_24, hg_25, h⟩ := bd_at h
        refine sw_ci (sw_runS (As := [.int w_22]) (rest := []) Cx hP hD hS ms_X8_isBlank ml_X8_47 (c_X8_isBlank l G ca Z H.size w_22 w_24 hg_25) [] rfl rfl rfl rfl ⟨(Nat.le_of_ble_eq_true rfl), (Nat.le_of_ble_eq_true rfl)⟩ hl.1 rfl rfl (Nat.le_of_ble_eq_true rfl) dX8_advance_19 ⟨(Nat.le_of_ble_eq_true rfl), (Nat.le_of_ble_eq_true rfl)⟩) hP hD hS hA [] [0, 1] [0, 1] rfl rfl rfl (by decide) (fun _ => rfl) rfl (fun r u H locs hw hP hD hS => ?_)
        subst hw
        have hP : va_P G vwCl [(q_t, .inr (6, [.ref q_t_bytes, .int t.2.1, .int t.2.2.1, .int t.2.2.2.1, .int t.2.2.2.2.1, .int t.2.2.2.2.2.1, .int t.2.2.2.2.2.2])), (q_t_bytes, .inl (ca 1, 600, .inl t.1))] H := hP
        have hD : va_D A [(q_t, .inr (6, [.ref q_t_bytes, .int t.2.1, .int t.2.2.1, .int t.2.2.2.1, .int t.2.2.2.2.1, .int t.2.2.2.2.2.1, .int t.2.2.2.2.2.2])), (q_t_bytes, .inl (ca 1, 600, .inl t.1))] := hD
        refine lv_if_eq (tgt := 38) hx hb dX8_advance_22 (by decide) (fun c_26 => ?_) (fun c_26 => ?_)
        · have c_26 := bI_z.mp c_26
          have h := if_f c_26 h
          refine lv_aload_n hx hb dX8_advance_38 rfl (lv_at hl 0 rfl) ?_
          refine lv_aload_n hx hb dX8_advance_39 rfl (lv_at hl 0 rfl) ?_
          refine va_get (v := .int t.2.2.2.1) hx hb htU iU_X8 hown hK hP 0 rfl rfl 3 (by decide) (htU _ fl_X8_22) (fun _ h9 => h9) rfl dX8_advance_40 ?_
          refine va_put (v := .int t.2.2.2.1) (ty := .int) hx hb htU iU_X8 tyX8 tyX8_ok nmX8 hown hK hP hD hS 0 rfl rfl 5 (by decide) (htU _ fl_X8_28) (fun _ h9 => h9) rfl (by decide +kernel) rfl rfl (Nat.le_of_ble_eq_true rfl) dX8_advance_43 (fun H locs hP hD hS => ?_)
          have hP : va_P G vwCl [(q_t, .inr (6, [.ref q_t_bytes, .int t.2.1, .int t.2.2.1, .int t.2.2.2.1, .int t.2.2.2.2.1, .int t.2.2.2.1, .int t.2.2.2.2.2.2])), (q_t_bytes, .inl (ca 1, 600, .inl t.1))] H := hP
          have hD : va_D A [(q_t, .inr (6, [.ref q_t_bytes, .int t.2.1, .int t.2.2.1, .int t.2.2.2.1, .int t.2.2.2.2.1, .int t.2.2.2.1, .int t.2.2.2.2.2.2])), (q_t_bytes, .inl (ca 1, 600, .inl t.1))] := hD
          refine lv_aload_n hx hb dX8_advance_46 rfl (lv_at hl 0 rfl) ?_
          refine lv_iconst (v := 0) hx hb dX8_advance_47 (by decide) ?_
          refine va_put (v := .int 0) (ty := .int) hx hb htU iU_X8 tyX8 tyX8_ok nmX8 hown hK hP hD hS 0 rfl rfl 6 (by decide) (htU _ fl_X8_31) (fun _ h9 => h9) rfl (by decide +kernel) rfl rfl (Nat.le_of_ble_eq_true rfl) dX8_advance_48 (fun H locs hP hD hS => ?_)
          have hP : va_P G vwCl [(q_t, .inr (6, [.ref q_t_bytes, .int t.2.1, .int t.2.2.1, .int t.2.2.2.1, .int t.2.2.2.2.1, .int t.2.2.2.1, .int 0])), (q_t_bytes, .inl (ca 1, 600, .inl t.1))] H := hP
          have hD : va_D A [(q_t, .inr (6, [.ref q_t_bytes, .int t.2.1, .int t.2.2.1, .int t.2.2.2.1, .int t.2.2.2.2.1, .int t.2.2.2.1, .int 0])), (q_t_bytes, .inl (ca 1, 600, .inl t.1))] := hD
          refine lv_aload_n hx hb dX8_advance_51 rfl (lv_at hl 0 rfl) ?_
          refine va_get (v := .int t.2.2.2.1) hx hb htU iU_X8 hown hK hP 0 rfl rfl 3 (by decide) (htU _ fl_X8_22) (fun _ h9 => h9) rfl dX8_advance_52 ?_
          refine lv_aload_n hx hb dX8_advance_55 rfl (lv_at hl 0 rfl) ?_
          refine va_get (v := .int t.2.2.1) hx hb htU iU_X8 hown hK hP 0 rfl rfl 2 (by decide) (htU _ fl_X8_19) (fun _ h9 => h9) rfl dX8_advance_56 ?_
          refine lv_icmp_lt (tgt := 70) hx hb dX8_advance_59 (by decide) (fun c_27 => ?_) (fun c_27 => ?_)
          · have h := if_t c_27 h
            refine lv_aload_n hx hb dX8_advance_70 rfl (lv_at hl 0 rfl) ?_
            refine lv_aload_n hx hb dX8_advance_71 rfl (lv_at hl 0 rfl) ?_
            refine va_get (v := .int t.2.2.2.1) hx hb htU iU_X8 hown hK hP 0 rfl rfl 3 (by decide) (htU _ fl_X8_22) (fun _ h9 => h9) rfl dX8_advance_72 ?_
            obtain ⟨w_28, hg_29, h⟩ := bd_at h
            refine sw_ci (sw_runV (As := [.int t.2.2.2.1]) (rest := []) Cx hP hD hS mv_X8_byteAt ml_X8_43 (c_X8_byteAt l G ca Z q_t q_t_bytes H.size t.2.2.2.1 (t.1, t.2.1, t.2.2.1, t.2.2.2.1, t.2.2.2.2.1, t.2.2.2.1, 0) w_28 hg_29) 6 rfl rfl rfl [0, 1] rfl rfl rfl rfl ⟨(Nat.le_of_ble_eq_true rfl), (Nat.le_of_ble_eq_true rfl)⟩ hl.1 rfl rfl (Nat.le_of_ble_eq_true rfl) dX8_advance_75 ⟨(Nat.le_of_ble_eq_true rfl), (Nat.le_of_ble_eq_true rfl)⟩) hP hD hS hA [0, 1] [] [0, 1] rfl rfl rfl (by decide) (fun _ => rfl) rfl (fun r u H locs hw hP hD hS => ?_)
            subst hw
            have hP : va_P G vwCl [(q_t, .inr (6, [.ref q_t_bytes, .int t.2.1, .int t.2.2.1, .int t.2.2.2.1, .int t.2.2.2.2.1, .int t.2.2.2.1, .int 0])), (q_t_bytes, .inl (ca 1, 600, .inl t.1))] H := hP
            have hD : va_D A [(q_t, .inr (6, [.ref q_t_bytes, .int t.2.1, .int t.2.2.1, .int t.2.2.2.1, .int t.2.2.2.2.1, .int t.2.2.2.1, .int 0])), (q_t_bytes, .inl (ca 1, 600, .inl t.1))] := hD
            obtain ⟨w_30, hg_31, h⟩ := bd_at h
            refine sw_ci (sw_runS (As := [.int w_28]) (rest := []) Cx hP hD hS ms_X8_isLetter ml_X8_51 (c_X8_isLetter l G ca Z H.size w_28 w_30 hg_31) [] rfl rfl rfl rfl ⟨(Nat.le_of_ble_eq_true rfl), (Nat.le_of_ble_eq_true rfl)⟩ hl.1 rfl rfl (Nat.le_of_ble_eq_true rfl) dX8_advance_78 ⟨(Nat.le_of_ble_eq_true rfl), (Nat.le_of_ble_eq_true rfl)⟩) hP hD hS hA [] [0, 1] [0, 1] rfl rfl rfl (by decide) (fun _ => rfl) rfl (fun r u H locs hw hP hD hS => ?_)
            subst hw
            have hP : va_P G vwCl [(q_t, .inr (6, [.ref q_t_bytes, .int t.2.1, .int t.2.2.1, .int t.2.2.2.1, .int t.2.2.2.2.1, .int t.2.2.2.1, .int 0])), (q_t_bytes, .inl (ca 1, 600, .inl t.1))] H := hP
            have hD : va_D A [(q_t, .inr (6, [.ref q_t_bytes, .int t.2.1, .int t.2.2.1, .int t.2.2.2.1, .int t.2.2.2.2.1, .int t.2.2.2.1, .int 0])), (q_t_bytes, .inl (ca 1, 600, .inl t.1))] := hD
            refine lv_if_eq (tgt := 96) hx hb dX8_advance_81 (by decide) (fun c_32 => ?_) (fun c_32 => ?_)
            · have c_32 := bI_z.mp c_32
              have h := if_f c_32 h
              refine lv_aload_n hx hb dX8_advance_96 rfl (lv_at hl 0 rfl) ?_
              refine lv_aload_n hx hb dX8_advance_97 rfl (lv_at hl 0 rfl) ?_
              refine va_get (v := .int t.2.2.2.1) hx hb htU iU_X8 hown hK hP 0 rfl rfl 3 (by decide) (htU _ fl_X8_22) (fun _ h9 => h9) rfl dX8_advance_98 ?_
              obtain ⟨w_33, hg_34, h⟩ := bd_at h
              refine sw_ci (sw_runV (As := [.int t.2.2.2.1]) (rest := []) Cx hP hD hS mv_X8_byteAt ml_X8_43 (c_X8_byteAt l G ca Z q_t q_t_bytes H.size t.2.2.2.1 (t.1, t.2.1, t.2.2.1, t.2.2.2.1, t.2.2.2.2.1, t.2.2.2.1, 0) w_33 hg_34) 6 rfl rfl rfl [0, 1] rfl rfl rfl rfl ⟨(Nat.le_of_ble_eq_true rfl), (Nat.le_of_ble_eq_true rfl)⟩ hl.1 rfl rfl (Nat.le_of_ble_eq_true rfl) dX8_advance_101 ⟨(Nat.le_of_ble_eq_true rfl), (Nat.le_of_ble_eq_true rfl)⟩) hP hD hS hA [0, 1] [] [0, 1] rfl rfl rfl (by decide) (fun _ => rfl) rfl (fun r u H locs hw hP hD hS => ?_)
              subst hw
              have hP : va_P G vwCl [(q_t, .inr (6, [.ref q_t_bytes, .int t.2.1, .int t.2.2.1, .int t.2.2.2.1, .int t.2.2.2.2.1, .int t.2.2.2.1, .int 0])), (q_t_bytes, .inl (ca 1, 600, .inl t.1))] H := hP
              have hD : va_D A [(q_t, .inr (6, [.ref q_t_bytes, .int t.2.1, .int t.2.2.1, .int t.2.2.2.1, .int t.2.2.2.2.1, .int t.2.2.2.1, .int 0])), (q_t_bytes, .inl (ca 1, 600, .inl t.1))] := hD
              obtain ⟨w_35, hg_36, h⟩ := bd_at h
              refine sw_ci (sw_runS (As := [.int w_33]) (rest := []) Cx hP hD hS ms_X8_isDigit ml_X8_57 (c_X8_isDigit l G ca Z H.size w_33 w_35 hg_36) [] rfl rfl rfl rfl ⟨(Nat.le_of_ble_eq_true rfl), (Nat.le_of_ble_eq_true rfl)⟩ hl.1 rfl rfl (Nat.le_of_ble_eq_true rfl) dX8_advance_104 ⟨(Nat.le_of_ble_eq_true rfl), (Nat.le_of_ble_eq_true rfl)⟩) hP hD hS hA [] [0, 1] [0, 1] rfl rfl rfl (by decide) (fun _ => rfl) rfl (fun r u H locs hw hP hD hS => ?_)
              subst hw
              have hP : va_P G vwCl [(q_t, .inr (6, [.ref q_t_bytes, .int t.2.1, .int t.2.2.1, .int t.2.2.2.1, .int t.2.2.2.2.1, .int t.2.2.2.1, .int 0])), (q_t_bytes, .inl (ca 1, 600, .inl t.1))] H := hP
              have hD : va_D A [(q_t, .inr (6, [.ref q_t_bytes, .int t.2.1, .int t.2.2.1, .int t.2.2.2.1, .int t.2.2.2.2.1, .int t.2.2.2.1, .int 0])), (q_t_bytes, .inl (ca 1, 600, .inl t.1))] := hD
              refine lv_if_eq (tgt := 122) hx hb dX8_advance_107 (by decide) (fun c_37 => ?_) (fun c_37 => ?_)
              · have c_37 := bI_z.mp c_37
                have h := if_f c_37 h
                refine lv_aload_n hx hb dX8_advance_122 rfl (lv_at hl 0 rfl) ?_
                refine lv_aload_n hx hb dX8_advance_123 rfl (lv_at hl 0 rfl) ?_
                refine lv_aload_n hx hb dX8_advance_124 rfl (lv_at hl 0 rfl) ?_
                refine va_get (v := .int t.2.2.2.1) hx hb htU iU_X8 hown hK hP 0 rfl rfl 3 (by decide) (htU _ fl_X8_22) (fun _ h9 => h9) rfl dX8_advance_125 ?_
                obtain ⟨w_38, hg_39, h⟩ := bd_at h
                refine sw_ci (sw_runV (As := [.int t.2.2.2.1]) (rest := [.ref q_t]) Cx hP hD hS mv_X8_byteAt ml_X8_43 (c_X8_byteAt l G ca Z q_t q_t_bytes H.size t.2.2.2.1 (t.1, t.2.1, t.2.2.1, t.2.2.2.1, t.2.2.2.2.1, t.2.2.2.1, 0) w_38 hg_39) 6 rfl rfl rfl [0, 1] rfl rfl rfl rfl ⟨(Nat.le_of_ble_eq_true rfl), (Nat.le_of_ble_eq_true rfl)⟩ hl.1 rfl rfl (Nat.le_of_ble_eq_true rfl) dX8_advance_128 ⟨(Nat.le_of_ble_eq_true rfl), (Nat.le_of_ble_eq_true rfl)⟩) hP hD hS hA [0, 1] [] [0, 1] rfl rfl rfl (by decide) (fun _ => rfl) rfl (fun r u H locs hw hP hD hS => ?_)
                subst hw
                have hP : va_P G vwCl [(q_t, .inr (6, [.ref q_t_bytes, .int t.2.1, .int t.2.2.1, .int t.2.2.2.1, .int t.2.2.2.2.1, .int t.2.2.2.1, .int 0])), (q_t_bytes, .inl (ca 1, 600, .inl t.1))] H := hP
                have hD : va_D A [(q_t, .inr (6, [.ref q_t_bytes, .int t.2.1, .int t.2.2.1, .int t.2.2.2.1, .int t.2.2.2.2.1, .int t.2.2.2.1, .int 0])), (q_t_bytes, .inl (ca 1, 600, .inl t.1))] := hD
                refine lv_bipush (v := 59) hx hb dX8_advance_131 (by decide) ?_
                refine lv_icmp_ne (tgt := 140) hx hb dX8_advance_133 (by decide) (fun c_40 => ?_) (fun c_40 => ?_)
                · have h := if_f c_40 h
                  refine lv_iconst (v := 4) hx hb dX8_advance_140 (by decide) ?_
                  refine va_put (v := .int 4) (ty := .int) hx hb htU iU_X8 tyX8 tyX8_ok nmX8 hown hK hP hD hS 0 rfl rfl 4 (by decide) (htU _ fl_X8_25) (fun _ h9 => h9) rfl (by decide +kernel) rfl rfl (Nat.le_of_ble_eq_true rfl) dX8_advance_141 (fun H locs hP hD hS => ?_)
                  have hP : va_P G vwCl [(q_t, .inr (6, [.ref q_t_bytes, .int t.2.1, .int t.2.2.1, .int t.2.2.2.1, .int 4, .int t.2.2.2.1, .int 0])), (q_t_bytes, .inl (ca 1, 600, .inl t.1))] H := hP
                  have hD : va_D A [(q_t, .inr (6, [.ref q_t_bytes, .int t.2.1, .int t.2.2.1, .int t.2.2.2.1, .int 4, .int t.2.2.2.1, .int 0])), (q_t_bytes, .inl (ca 1, 600, .inl t.1))] := hD
                  refine lv_aload_n hx hb dX8_advance_144 rfl (lv_at hl 0 rfl) ?_
                  refine lv_dup hx hb dX8_advance_145 rfl ?_
                  refine va_get (v := .int t.2.2.2.1) hx hb htU iU_X8 hown hK hP 0 rfl rfl 3 (by decide) (htU _ fl_X8_22) (fun _ h9 => h9) rfl dX8_advance_146 ?_
                  refine lv_iconst (v := 1) hx hb dX8_advance_149 (by decide) ?_
                  refine lv_iadd hx hb dX8_advance_150 ?_
                  refine lv_topi (fun f_41 e_f_41 => ?_)
                  have h := nm_at e_f_41 h
                  refine va_put (v := .int f_41) (ty := .int) hx hb htU iU_X8 tyX8 tyX8_ok nmX8 hown hK hP hD hS 0 rfl rfl 3 (by decide) (htU _ fl_X8_22) (fun _ h9 => h9) rfl (by decide +kernel) rfl rfl (Nat.le_of_ble_eq_true rfl) dX8_advance_151 (fun H locs hP hD hS => ?_)
                  have hP : va_P G vwCl [(q_t, .inr (6, [.ref q_t_bytes, .int t.2.1, .int t.2.2.1, .int f_41, .int 4, .int t.2.2.2.1, .int 0])), (q_t_bytes, .inl (ca 1, 600, .inl t.1))] H := hP
                  have hD : va_D A [(q_t, .inr (6, [.ref q_t_bytes, .int t.2.1, .int t.2.2.1, .int f_41, .int 4, .int t.2.2.2.1, .int 0])), (q_t_bytes, .inl (ca 1, 600, .inl t.1))] := hD
                  exact sw_rv hx hb hr hlocks hS (t.1, t.2.1, t.2.2.1, f_41, 4, t.2.2.2.1, 0) (pr1 h) hP hD dX8_advance_154
                · have h := if_t c_40 h
                  refine lv_iconst (v := 3) hx hb dX8_advance_136 (by decide) ?_
                  refine lv_goto (tgt := 141) hx hb dX8_advance_137 (by decide) ?_
                  refine va_put (v := .int 3) (ty := .int) hx hb htU iU_X8 tyX8 tyX8_ok nmX8 hown hK hP hD hS 0 rfl rfl 4 (by decide) (htU _ fl_X8_25) (fun _ h9 => h9) rfl (by decide +kernel) rfl rfl (Nat.le_of_ble_eq_true rfl) dX8_advance_141 (fun H locs hP hD hS => ?_)
                  have hP : va_P G vwCl [(q_t, .inr (6, [.ref q_t_bytes, .int t.2.1, .int t.2.2.1, .int t.2.2.2.1, .int 3, .int t.2.2.2.1, .int 0])), (q_t_bytes, .inl (ca 1, 600, .inl t.1))] H := hP
                  have hD : va_D A [(q_t, .inr (6, [.ref q_t_bytes, .int t.2.1, .int t.2.2.1, .int t.2.2.2.1, .int 3, .int t.2.2.2.1, .int 0])), (q_t_bytes, .inl (ca 1, 600, .inl t.1))] := hD
                  refine lv_aload_n hx hb dX8_advance_144 rfl (lv_at hl 0 rfl) ?_
                  refine lv_dup hx hb dX8_advance_145 rfl ?_
                  refine va_get (v := .int t.2.2.2.1) hx hb htU iU_X8 hown hK hP 0 rfl rfl 3 (by decide) (htU _ fl_X8_22) (fun _ h9 => h9) rfl dX8_advance_146 ?_
                  refine lv_iconst (v := 1) hx hb dX8_advance_149 (by decide) ?_
                  refine lv_iadd hx hb dX8_advance_150 ?_
                  refine lv_topi (fun f_42 e_f_42 => ?_)
                  have h := nm_at e_f_42 h
                  refine va_put (v := .int f_42) (ty := .int) hx hb htU iU_X8 tyX8 tyX8_ok nmX8 hown hK hP hD hS 0 rfl rfl 3 (by decide) (htU _ fl_X8_22) (fun _ h9 => h9) rfl (by decide +kernel) rfl rfl (Nat.le_of_ble_eq_true rfl) dX8_advance_151 (fun H locs hP hD hS => ?_)
                  have hP : va_P G vwCl [(q_t, .inr (6, [.ref q_t_bytes, .int t.2.1, .int t.2.2.1, .int f_42, .int 3, .int t.2.2.2.1, .int 0])), (q_t_bytes, .inl (ca 1, 600, .inl t.1))] H := hP
                  have hD : va_D A [(q_t, .inr (6, [.ref q_t_bytes, .int t.2.1, .int t.2.2.1, .int f_42, .int 3, .int t.2.2.2.1, .int 0])), (q_t_bytes, .inl (ca 1, 600, .inl t.1))] := hD
                  exact sw_rv hx hb hr hlocks hS (t.1, t.2.1, t.2.2.1, f_42, 3, t.2.2.2.1, 0) (pr1 h) hP hD dX8_advance_154
              · have c_37 := bI_nz.mp c_37
                have h := if_t c_37 h
                refine lv_aload_n hx hb dX8_advance_110 rfl (lv_at hl 0 rfl) ?_
                refine lv_iconst (v := 2) hx hb dX8_advance_111 (by decide) ?_
                refine va_put (v := .int 2) (ty := .int) hx hb htU iU_X8 tyX8 tyX8_ok nmX8 hown hK hP hD hS 0 rfl rfl 4 (by decide) (htU _ fl_X8_25) (fun _ h9 => h9) rfl (by decide +kernel) rfl rfl (Nat.le_of_ble_eq_true rfl) dX8_advance_112 (fun H locs hP hD hS => ?_)
                have hP : va_P G vwCl [(q_t, .inr (6, [.ref q_t_bytes, .int t.2.1, .int t.2.2.1, .int t.2.2.2.1, .int 2, .int t.2.2.2.1, .int 0])), (q_t_bytes, .inl (ca 1, 600, .inl t.1))] H := hP
                have hD : va_D A [(q_t, .inr (6, [.ref q_t_bytes, .int t.2.1, .int t.2.2.1, .int t.2.2.2.1, .int 2, .int t.2.2.2.1, .int 0])), (q_t_bytes, .inl (ca 1, 600, .inl t.1))] := hD
                refine lv_aload_n hx hb dX8_advance_115 rfl (lv_at hl 0 rfl) ?_
                obtain ⟨w_43, hg_44, h⟩ := bd_at h
                refine sw_cv (sw_runV (As := []) (rest := []) Cx hP hD hS mv_X8_readDigits ml_X8_60 (c_X8_readDigits l G ca Z q_t q_t_bytes H.size (t.1, t.2.1, t.2.2.1, t.2.2.2.1, 2, t.2.2.2.1, 0) w_43 hg_44) 6 rfl rfl rfl [0, 1] rfl rfl rfl rfl ⟨(Nat.le_of_ble_eq_true rfl), (Nat.le_of_ble_eq_true rfl)⟩ hl.1 rfl rfl (Nat.le_of_ble_eq_true rfl) dX8_advance_116 ⟨(Nat.le_of_ble_eq_true rfl), (Nat.le_of_ble_eq_true rfl)⟩) hP hD hS hA [0, 1] [] [0, 1] rfl rfl rfl (by decide) (fun _ => rfl) rfl (fun u H locs hw hP hD hS => ?_)
                subst hw
                have hP : va_P G vwCl [(q_t, .inr (6, [.ref q_t_bytes, .int w_43.2.1, .int w_43.2.2.1, .int w_43.2.2.2.1, .int w_43.2.2.2.2.1, .int w_43.2.2.2.2.2.1, .int w_43.2.2.2.2.2.2])), (q_t_bytes, .inl (ca 1, 600, .inl w_43.1))] H := hP
                have hD : va_D A [(q_t, .inr (6, [.ref q_t_bytes, .int w_43.2.1, .int w_43.2.2.1, .int w_43.2.2.2.1, .int w_43.2.2.2.2.1, .int w_43.2.2.2.2.2.1, .int w_43.2.2.2.2.2.2])), (q_t_bytes, .inl (ca 1, 600, .inl w_43.1))] := hD
                refine lv_goto (tgt := 154) hx hb dX8_advance_119 (by decide) ?_
                exact sw_rv hx hb hr hlocks hS w_43 (pr1 h) hP hD dX8_advance_154
            · have c_32 := bI_nz.mp c_32
              have h := if_t c_32 h
              refine lv_aload_n hx hb dX8_advance_84 rfl (lv_at hl 0 rfl) ?_
              refine lv_iconst (v := 1) hx hb dX8_advance_85 (by decide) ?_
              refine va_put (v := .int 1) (ty := .int) hx hb htU iU_X8 tyX8 tyX8_ok nmX8 hown hK hP hD hS 0 rfl rfl 4 (by decide) (htU _ fl_X8_25) (fun _ h9 => h9) rfl (by decide +kernel) rfl rfl (Nat.le_of_ble_eq_true rfl) dX8_advance_86 (fun H locs hP hD hS => ?_)
              have hP : va_P G vwCl [(q_t, .inr (6, [.ref q_t_bytes, .int t.2.1, .int t.2.2.1, .int t.2.2.2.1, .int 1, .int t.2.2.2.1, .int 0])), (q_t_bytes, .inl (ca 1, 600, .inl t.1))] H := hP
              have hD : va_D A [(q_t, .inr (6, [.ref q_t_bytes, .int t.2.1, .int t.2.2.1, .int t.2.2.2.1, .int 1, .int t.2.2.2.1, .int 0])), (q_t_bytes, .inl (ca 1, 600, .inl t.1))] := hD
              refine lv_aload_n hx hb dX8_advance_89 rfl (lv_at hl 0 rfl) ?_
              obtain ⟨w_45, hg_46, h⟩ := bd_at h
              refine sw_cv (sw_runV (As := []) (rest := []) Cx hP hD hS mv_X8_skipLetters ml_X8_54 (c_X8_skipLetters l G ca Z q_t q_t_bytes H.size (t.1, t.2.1, t.2.2.1, t.2.2.2.1, 1, t.2.2.2.1, 0) w_45 hg_46) 6 rfl rfl rfl [0, 1] rfl rfl rfl rfl ⟨(Nat.le_of_ble_eq_true rfl), (Nat.le_of_ble_eq_true rfl)⟩ hl.1 rfl rfl (Nat.le_of_ble_eq_true rfl) dX8_advance_90 ⟨(Nat.le_of_ble_eq_true rfl), (Nat.le_of_ble_eq_true rfl)⟩) hP hD hS hA [0, 1] [] [0, 1] rfl rfl rfl (by decide) (fun _ => rfl) rfl (fun u H locs hw hP hD hS => ?_)
              subst hw
              have hP : va_P G vwCl [(q_t, .inr (6, [.ref q_t_bytes, .int w_45.2.1, .int w_45.2.2.1, .int w_45.2.2.2.1, .int w_45.2.2.2.2.1, .int w_45.2.2.2.2.2.1, .int w_45.2.2.2.2.2.2])), (q_t_bytes, .inl (ca 1, 600, .inl w_45.1))] H := hP
              have hD : va_D A [(q_t, .inr (6, [.ref q_t_bytes, .int w_45.2.1, .int w_45.2.2.1, .int w_45.2.2.2.1, .int w_45.2.2.2.2.1, .int w_45.2.2.2.2.2.1, .int w_45.2.2.2.2.2.2])), (q_t_bytes, .inl (ca 1, 600, .inl w_45.1))] := hD
              refine lv_goto (tgt := 154) hx hb dX8_advance_93 (by decide) ?_
              exact sw_rv hx hb hr hlocks hS w_45 (pr1 h) hP hD dX8_advance_154
          · have h := if_f c_27 h
            refine lv_aload_n hx hb dX8_advance_62 rfl (lv_at hl 0 rfl) ?_
            refine lv_iconst (v := 0) hx hb dX8_advance_63 (by decide) ?_
            refine va_put (v := .int 0) (ty := .int) hx hb htU iU_X8 tyX8 tyX8_ok nmX8 hown hK hP hD hS 0 rfl rfl 4 (by decide) (htU _ fl_X8_25) (fun _ h9 => h9) rfl (by decide +kernel) rfl rfl (Nat.le_of_ble_eq_true rfl) dX8_advance_64 (fun H locs hP hD hS => ?_)
            have hP : va_P G vwCl [(q_t, .inr (6, [.ref q_t_bytes, .int t.2.1, .int t.2.2.1, .int t.2.2.2.1, .int 0, .int t.2.2.2.1, .int 0])), (q_t_bytes, .inl (ca 1, 600, .inl t.1))] H := hP
            have hD : va_D A [(q_t, .inr (6, [.ref q_t_bytes, .int t.2.1, .int t.2.2.1, .int t.2.2.2.1, .int 0, .int t.2.2.2.1, .int 0])), (q_t_bytes, .inl (ca 1, 600, .inl t.1))] := hD
            refine lv_goto (tgt := 154) hx hb dX8_advance_67 (by decide) ?_
            exact sw_rv hx hb hr hlocks hS (t.1, t.2.1, t.2.2.1, t.2.2.2.1, 0, t.2.2.2.1, 0) (pr1 h) hP hD dX8_advance_154
        · have c_26 := bI_nz.mp c_26
          have h := if_t c_26 h
          refine lv_aload_n hx hb dX8_advance_25 rfl (lv_at hl 0 rfl) ?_
          refine lv_dup hx hb dX8_advance_26 rfl ?_
          refine va_get (v := .int t.2.2.2.1) hx hb htU iU_X8 hown hK hP 0 rfl rfl 3 (by decide) (htU _ fl_X8_22) (fun _ h9 => h9) rfl dX8_advance_27 ?_
          refine lv_iconst (v := 1) hx hb dX8_advance_30 (by decide) ?_
          refine lv_iadd hx hb dX8_advance_31 ?_
          refine lv_topi (fun f_47 e_f_47 => ?_)
          have h := nm_at e_f_47 h
          refine va_put (v := .int f_47) (ty := .int) hx hb htU iU_X8 tyX8 tyX8_ok nmX8 hown hK hP hD hS 0 rfl rfl 3 (by decide) (htU _ fl_X8_22) (fun _ h9 => h9) rfl (by decide +kernel) rfl rfl (Nat.le_of_ble_eq_true rfl) dX8_advance_32 (fun H locs hP hD hS => ?_)
          have hP : va_P G vwCl [(q_t, .inr (6, [.ref q_t_bytes, .int t.2.1, .int t.2.2.1, .int f_47, .int t.2.2.2.2.1, .int t.2.2.2.2.2.1, .int t.2.2.2.2.2.2])), (q_t_bytes, .inl (ca 1, 600, .inl t.1))] H := hP
          have hD : va_D A [(q_t, .inr (6, [.ref q_t_bytes, .int t.2.1, .int t.2.2.1, .int f_47, .int t.2.2.2.2.1, .int t.2.2.2.2.2.1, .int t.2.2.2.2.2.2])), (q_t_bytes, .inl (ca 1, 600, .inl t.1))] := hD
          refine lv_goto (tgt := 0) hx hb dX8_advance_35 (by decide) ?_
          exact ih_0 (t.1, t.2.1, t.2.2.1, f_47, t.2.2.2.2.1, t.2.2.2.2.2.1, t.2.2.2.2.2.2) ls H _ (lv_sub hl [0] rfl) hP hD hS h
  exact hL_0 FUEL t ls s.heap _ (lv_sub hl [0] rfl) hP hD hS h
theorem mv_X8_open : sw_MV yX8_open RX8 cX8_open 2 (Option.none : Option Jvm.ClassFile.FieldType) 1 := ⟨im_X8_open, se_X8_open, ini_X8, co_X8_open, by decide +kernel⟩
def F_X8_open (x1 : Int32) (t : SrcT) : Option (SrcT) :=
 nm ((if t.2.1 < x1 then t.2.1 else x1)) (fun f_1 => (F_X8_advance (t.1, t.2.1, f_1, 0, t.2.2.2.2.1, t.2.2.2.2.2.1, t.2.2.2.2.2.2)).bind (fun w_2 => some w_2))
abbrev RM_X8_open : Room := ({ frames := 3, cells := 0, slots := 0, locals := 61 } : Room)
set_option maxHeartbeats 4000000 in
set_option maxRecDepth 100000 in
theorem c_X8_open (l : Launch) (G : va_G) (ca Z : Nat → Nat) (q_t : Nat) (q_t_bytes : Nat) (sz : Nat) (x1 : Int32) (t : SrcT) (res : SrcT) (hF : F_X8_open x1 t = some res) : Met l yX8_open (.code yX8_open cX8_open 2 (Option.none : Option Jvm.ClassFile.FieldType) :: sw_U) RM_X8_open (va_Pc [.ref q_t, .int x1] (sw_Pre G ca Z [(q_t, .inr (6, [.ref q_t_bytes, .int t.2.1, .int t.2.2.1, .int t.2.2.2.1, .int t.2.2.2.2.1, .int t.2.2.2.2.2.1, .int t.2.2.2.2.2.2])), (q_t_bytes, .inl (ca 1, 600, .inl t.1))] sz)) ((fun A => va_Qv (fun (u : SrcT) => res = u) (sw_Post G A (fun (u : SrcT) => [(q_t, .inr (6, [.ref q_t_bytes, .int u.2.1, .int u.2.2.1, .int u.2.2.2.1, .int u.2.2.2.2.1, .int u.2.2.2.2.2.1, .int u.2.2.2.2.2.2])), (q_t_bytes, .inl (ca 1, 600, .inl u.1))])) A) (va_A [(q_t, .inr (6, [.ref q_t_bytes, .int t.2.1, .int t.2.2.1, .int t.2.2.2.1, .int t.2.2.2.2.1, .int t.2.2.2.2.2.1, .int t.2.2.2.2.2.2])), (q_t_bytes, .inl (ca 1, 600, .inl t.1))] sz)) 0 0 (va_A [(q_t, .inr (6, [.ref q_t_bytes, .int t.2.1, .int t.2.2.1, .int t.2.2.2.1, .int t.2.2.2.2.1, .int t.2.2.2.2.2.1, .int t.2.2.2.2.2.2])), (q_t_bytes, .inl (ca 1, 600, .inl t.1))] sz) := by
  refine sw_ofW (Qc := fun A => va_Qv (fun (u : SrcT) => res = u) (sw_Post G A (fun (u : SrcT) => [(q_t, .inr (6, [.ref q_t_bytes, .int u.2.1, .int u.2.2.1, .int u.2.2.2.1, .int u.2.2.2.2.1, .int u.2.2.2.2.2.1, .int u.2.2.2.2.2.2])), (q_t_bytes, .inl (ca 1, 600, .inl u.1))])) A) (by decide) [(0, .ref q_t), (1, .int x1)] rfl (Nat.le_of_ble_eq_true rfl) ?_
  intro p e s m args below meth c ls A hx hb hr hml hown htU hlocks hnm hP hK hD hX hY hS hA hl
  have hown : s.vm.findClass RX8 = some m.cls := hown
  have Cx : sw_Cx p s m args c cX8_open 2 RX8 G ca Z A := ⟨⟨hx, hb, hml, hown, htU⟩, hK, hX, hY, hA⟩
  have h := hF
  unfold F_X8_open at h
  refine lv_aload_n hx hb dX8_open_0 rfl (lv_at hl 0 rfl) ?_
  refine lv_iload_n hx hb dX8_open_1 rfl (lv_at hl 1 rfl) ?_
  refine lv_aload_n hx hb dX8_open_2 rfl (lv_at hl 0 rfl) ?_
  refine va_get (v := .int t.2.1) hx hb htU iU_X8 hown hK hP 0 rfl rfl 1 (by decide) (htU _ fl_X8_15) (fun _ h9 => h9) rfl dX8_open_3 ?_
  refine va_mmin hx hb (hml.trans hl.1.symm) hown (htU _ mm_X8_34) (htU _ mm_st_min) (htU _ mm_ini) (htU _ mm_co_min) (Nat.le_of_ble_eq_true rfl) (Nat.le_of_ble_eq_true rfl) (Nat.le_of_ble_eq_true rfl) (Nat.le_of_ble_eq_true rfl) dX8_open_6 ?_
  refine lv_topi (fun f_1 e_f_1 => ?_)
  have h := nm_at e_f_1 h
  refine va_put (v := .int f_1) (ty := .int) hx hb htU iU_X8 tyX8 tyX8_ok nmX8 hown hK hP hD hS 0 rfl rfl 2 (by decide) (htU _ fl_X8_19) (fun _ h9 => h9) rfl (by decide +kernel) rfl rfl (Nat.le_of_ble_eq_true rfl) dX8_open_9 (fun H locs hP hD hS => ?_)
  have hP : va_P G vwCl [(q_t, .inr (6, [.ref q_t_bytes, .int t.2.1, .int f_1, .int t.2.2.2.1, .int t.2.2.2.2.1, .int t.2.2.2.2.2.1, .int t.2.2.2.2.2.2])), (q_t_bytes, .inl (ca 1, 600, .inl t.1))] H := hP
  have hD : va_D A [(q_t, .inr (6, [.ref q_t_bytes, .int t.2.1, .int f_1, .int t.2.2.2.1, .int t.2.2.2.2.1, .int t.2.2.2.2.2.1, .int t.2.2.2.2.2.2])), (q_t_bytes, .inl (ca 1, 600, .inl t.1))] := hD
  refine lv_aload_n hx hb dX8_open_12 rfl (lv_at hl 0 rfl) ?_
  refine lv_iconst (v := 0) hx hb dX8_open_13 (by decide) ?_
  refine va_put (v := .int 0) (ty := .int) hx hb htU iU_X8 tyX8 tyX8_ok nmX8 hown hK hP hD hS 0 rfl rfl 3 (by decide) (htU _ fl_X8_22) (fun _ h9 => h9) rfl (by decide +kernel) rfl rfl (Nat.le_of_ble_eq_true rfl) dX8_open_14 (fun H locs hP hD hS => ?_)
  have hP : va_P G vwCl [(q_t, .inr (6, [.ref q_t_bytes, .int t.2.1, .int f_1, .int 0, .int t.2.2.2.2.1, .int t.2.2.2.2.2.1, .int t.2.2.2.2.2.2])), (q_t_bytes, .inl (ca 1, 600, .inl t.1))] H := hP
  have hD : va_D A [(q_t, .inr (6, [.ref q_t_bytes, .int t.2.1, .int f_1, .int 0, .int t.2.2.2.2.1, .int t.2.2.2.2.2.1, .int t.2.2.2.2.2.2])), (q_t_bytes, .inl (ca 1, 600, .inl t.1))] := hD
  refine lv_aload_n hx hb dX8_open_17 rfl (lv_at hl 0 rfl) ?_
  obtain ⟨w_2, hg_3, h⟩ := bd_at h
  refine sw_cv (sw_runV (As := []) (rest := []) Cx hP hD hS mv_X8_advance ml_X8_40 (c_X8_advance l G ca Z q_t q_t_bytes H.size (t.1, t.2.1, f_1, 0, t.2.2.2.2.1, t.2.2.2.2.2.1, t.2.2.2.2.2.2) w_2 hg_3) 6 rfl rfl rfl [0, 1] rfl rfl rfl rfl ⟨(Nat.le_of_ble_eq_true rfl), (Nat.le_of_ble_eq_true rfl)⟩ hl.1 rfl rfl (Nat.le_of_ble_eq_true rfl) dX8_open_18 ⟨(Nat.le_of_ble_eq_true rfl), (Nat.le_of_ble_eq_true rfl)⟩) hP hD hS hA [0, 1] [] [0, 1] rfl rfl rfl (by decide) (fun _ => rfl) rfl (fun u H locs hw hP hD hS => ?_)
  subst hw
  have hP : va_P G vwCl [(q_t, .inr (6, [.ref q_t_bytes, .int w_2.2.1, .int w_2.2.2.1, .int w_2.2.2.2.1, .int w_2.2.2.2.2.1, .int w_2.2.2.2.2.2.1, .int w_2.2.2.2.2.2.2])), (q_t_bytes, .inl (ca 1, 600, .inl w_2.1))] H := hP
  have hD : va_D A [(q_t, .inr (6, [.ref q_t_bytes, .int w_2.2.1, .int w_2.2.2.1, .int w_2.2.2.2.1, .int w_2.2.2.2.2.1, .int w_2.2.2.2.2.2.1, .int w_2.2.2.2.2.2.2])), (q_t_bytes, .inl (ca 1, 600, .inl w_2.1))] := hD
  exact sw_rv hx hb hr hlocks hS w_2 (pr1 h) hP hD dX8_open_21
theorem mv_X8_isWord : sw_MV yX8_isWord RX8 cX8_isWord 3 (Option.some Jvm.ClassFile.FieldType.boolean) 1 := ⟨im_X8_isWord, se_X8_isWord, ini_X8, co_X8_isWord, by decide +kernel⟩
def B_X8_isWord_28 (x1 : Nat) (t : SrcT) (k_28 : Int32 → Option (Bool)) (x2 : Int32) : Option (Bool) :=
 kl x1 6 ((F_J0_length_8abf5 x1).bind (fun w_7 => (if w_7 ≤ x2 then some true else (F_X8_byteAt (t.2.2.2.2.2.1 + x2) t).bind (fun w_10 => (F_J0_charAt_5068e x1 x2).bind (fun w_12 => (if w_10 = w_12 then nm (x2 + 1) (fun x2_15 => k_28 x2_15) else some false))))))
def F_X8_isWord (x1 : Nat) (t : SrcT) : Option (Bool) :=
 (if t.2.2.2.2.1 = 1 then kl x1 6 ((F_J0_length_8abf5 x1).bind (fun w_3 => (if (t.2.2.2.1 - t.2.2.2.2.2.1) = w_3 then fx (fun _ => none) (B_X8_isWord_28 x1 t) FUEL 0 else some false))) else some false)
abbrev RM_X8_isWord : Room := ({ frames := 4, cells := 0, slots := 0, locals := 85 } : Room)
set_option maxHeartbeats 4000000 in
set_option maxRecDepth 100000 in
theorem c_X8_isWord (l : Launch) (G : va_G) (ca Z : Nat → Nat) (q_t : Nat) (q_t_bytes : Nat) (sz : Nat) (x1 : Nat) (t : SrcT) (res : Bool) (hF : F_X8_isWord x1 t = some res) : Met l yX8_isWord (.code yX8_isWord cX8_isWord 3 (Option.some Jvm.ClassFile.FieldType.boolean) :: sw_U) RM_X8_isWord (va_Pc [.ref q_t, .ref (Z (20 + x1))] (sw_Pre G ca Z [(q_t, .inr (6, [.ref q_t_bytes, .int t.2.1, .int t.2.2.1, .int t.2.2.2.1, .int t.2.2.2.2.1, .int t.2.2.2.2.2.1, .int t.2.2.2.2.2.2])), (q_t_bytes, .inl (ca 1, 600, .inl t.1))] sz)) ((fun A => va_Qi (fun r (u : Unit) => bI res = r) (sw_Post G A (fun (u : Unit) => [(q_t, .inr (6, [.ref q_t_bytes, .int t.2.1, .int t.2.2.1, .int t.2.2.2.1, .int t.2.2.2.2.1, .int t.2.2.2.2.2.1, .int t.2.2.2.2.2.2])), (q_t_bytes, .inl (ca 1, 600, .inl t.1))])) A) (va_A [(q_t, .inr (6, [.ref q_t_bytes, .int t.2.1, .int t.2.2.1, .int t.2.2.2.1, .int t.2.2.2.2.1, .int t.2.2.2.2.2.1, .int t.2.2.2.2.2.2])), (q_t_bytes, .inl (ca 1, 600, .inl t.1))] sz)) 0 0 (va_A [(q_t, .inr (6, [.ref q_t_bytes, .int t.2.1, .int t.2.2.1, .int t.2.2.2.1, .int t.2.2.2.2.1, .int t.2.2.2.2.2.1, .int t.2.2.2.2.2.2])), (q_t_bytes, .inl (ca 1, 600, .inl t.1))] sz) := by
  refine sw_ofW (Qc := fun A => va_Qi (fun r (u : Unit) => bI res = r) (sw_Post G A (fun (u : Unit) => [(q_t, .inr (6, [.ref q_t_bytes, .int t.2.1, .int t.2.2.1, .int t.2.2.2.1, .int t.2.2.2.2.1, .int t.2.2.2.2.2.1, .int t.2.2.2.2.2.2])), (q_t_bytes, .inl (ca 1, 600, .inl t.1))])) A) (by decide) [(0, .ref q_t), (1, .ref (Z (20 + x1)))] rfl (Nat.le_of_ble_eq_true rfl) ?_
  intro p e s m args below meth c ls A hx hb hr hml hown htU hlocks hnm hP hK hD hX hY hS hA hl
  have hown : s.vm.findClass RX8 = some m.cls := hown
  have Cx : sw_Cx p s m args c cX8_isWord 3 RX8 G ca Z A := ⟨⟨hx, hb, hml, hown, htU⟩, hK, hX, hY, hA⟩
  have h := hF
  unfold F_X8_isWord at h
  have hL_28 : ∀ (n_28 : Nat) (x2 : Int32) (ls : Array Slot) (H : Heap) (locs : List Loc), lv_has ls 3 [(0, .ref q_t), (1, .ref (Z (20 + x1))), (2, .int x2)] → va_P G vwCl [(q_t, .inr (6, [.ref q_t_bytes, .int t.2.1, .int t.2.2.1, .int t.2.2.2.1, .int t.2.2.2.2.1, .int t.2.2.2.2.2.1, .int t.2.2.2.2.2.2])), (q_t_bytes, .inl (ca 1, 600, .inl t.1))] H → va_D A [(q_t, .inr (6, [.ref q_t_bytes, .int t.2.1, .int t.2.2.1, .int t.2.2.2.1, .int t.2.2.2.2.1, .int t.2.2.2.2.2.1, .int t.2.2.2.2.2.2])), (q_t_bytes, .inl (ca 1, 600, .inl t.1))] → va_S A s.heap H locs → fx (fun _ => none) (B_X8_isWord_28 x1 t) n_28 x2 = some res → W p l e RM_X8_isWord s m args below meth c H locs 0 0 (MQ below ((fun A => va_Qi (fun r (u : Unit) => bI res = r) (sw_Post G A (fun (u : Unit) => [(q_t, .inr (6, [.ref q_t_bytes, .int t.2.1, .int t.2.2.1, .int t.2.2.2.1, .int t.2.2.2.2.1, .int t.2.2.2.2.2.1, .int t.2.2.2.2.2.2])), (q_t_bytes, .inl (ca 1, 600, .inl t.1))])) A) A) args s 0 0 A) (F0 m 28 ls []) := by
    intro n_28
    induction n_28 with
    | zero => intro x2 ls H locs hl hP hD hS h; exact no_at h
    | succ n_28 ih_28 =>
      intro x2 ls H locs hl hP hD hS h
      rw [fx_s] at h
      unfold B_X8_isWord_28 at h
      refine lv_iload_n hx hb dX8_isWord_28 rfl (lv_at hl 2 rfl) ?_
      refine lv_aload_n hx hb dX8_isWord_29 rfl (lv_at hl 1 rfl) ?_
      obtain ⟨hk_6, h⟩ := kl_at h
      obtain ⟨w_7, hg_8, h⟩ := bd_at h
      refine sw_ci (sw_runR (As := []) (rest := [.int x2]) Cx hP hD hS mv_J0_length_8abf5 ml_X8_64 (c_J0_length_8abf5 l G ca Z H.size x1 w_7 hg_8) (sw_rcS hX hS hk_6) [] rfl rfl rfl rfl ⟨(Nat.le_of_ble_eq_true rfl), (Nat.le_of_ble_eq_true rfl)⟩ hl.1 rfl rfl (Nat.le_of_ble_eq_true rfl) dX8_isWord_30 ⟨(Nat.le_of_ble_eq_true rfl), (Nat.le_of_ble_eq_true rfl)⟩) hP hD hS hA [] [0, 1] [0, 1] rfl rfl rfl (by decide) (fun _ => rfl) rfl (fun r u H locs hw hP hD hS => ?_)
      subst hw
      have hP : va_P G vwCl [(q_t, .inr (6, [.ref q_t_bytes, .int t.2.1, .int t.2.2.1, .int t.2.2.2.1, .int t.2.2.2.2.1, .int t.2.2.2.2.2.1, .int t.2.2.2.2.2.2])), (q_t_bytes, .inl (ca 1, 600, .inl t.1))] H := hP
      have hD : va_D A [(q_t, .inr (6, [.ref q_t_bytes, .int t.2.1, .int t.2.2.1, .int t.2.2.2.1, .int t.2.2.2.2.1, .int t.2.2.2.2.2.1, .int t.2.2.2.2.2.2])), (q_t_bytes, .inl (ca 1, 600, .inl t.1))] := hD
      refine lv_icmp_ge (tgt := 62) hx hb dX8_isWord_33 (by decide) (fun c_9 => ?_) (fun c_9 => ?_)
      · have h := if_t c_9 h
        refine lv_iconst (v := 1) hx hb dX8_isWord_62 (by decide) ?_
        exact sw_rz hx hb hr rfl hlocks hS () (pb1 h) hP hD dX8_isWord_63
      · have h := if_f c_9 h
        refine lv_aload_n hx hb dX8_isWord_36 rfl (lv_at hl 0 rfl) ?_
        refine lv_aload_n hx hb dX8_isWord_37 rfl (lv_at hl 0 rfl) ?_
        refine va_get (v := .int t.2.2.2.2.2.1) hx hb htU iU_X8 hown hK hP 0 rfl rfl 5 (by decide) (htU _ fl_X8_28) (fun _ h9 => h9) rfl dX8_isWord_38 ?_
        refine lv_iload_n hx hb dX8_isWord_41 rfl (lv_at hl 2 rfl) ?_
        refine lv_iadd hx hb dX8_isWord_42 ?_
        obtain ⟨w_10, hg_11, h⟩ := bd_at h
        refine sw_ci (sw_runV (As := [.int (t.2.2.2.2.2.1 + x2)]) (rest := []) Cx hP hD hS mv_X8_byteAt ml_X8_43 (c_X8_byteAt l G ca Z q_t q_t_bytes H.size (t.2.2.2.2.2.1 + x2) t w_10 hg_11) 6 rfl rfl rfl [0, 1] rfl rfl rfl rfl ⟨(Nat.le_of_ble_eq_true rfl), (Nat.le_of_ble_eq_true rfl)⟩ hl.1 rfl rfl (Nat.le_of_ble_eq_true rfl) dX8_isWord_43 ⟨(Nat.le_of_ble_eq_true rfl), (Nat.le_of_ble_eq_true rfl)⟩) hP hD hS hA [0, 1] [] [0, 1] rfl rfl rfl (by decide) (fun _ => rfl) rfl (fun r u H locs hw hP hD hS => ?_)
        subst hw
        have hP : va_P G vwCl [(q_t, .inr (6, [.ref q_t_bytes, .int t.2.1, .int t.2.2.1, .int t.2.2.2.1, .int t.2.2.2.2.1, .int t.2.2.2.2.2.1, .int t.2.2.2.2.2.2])), (q_t_bytes, .inl (ca 1, 600, .inl t.1))] H := hP
        have hD : va_D A [(q_t, .inr (6, [.ref q_t_bytes, .int t.2.1, .int t.2.2.1, .int t.2.2.2.1, .int t.2.2.2.2.1, .int t.2.2.2.2.2.1, .int t.2.2.2.2.2.2])), (q_t_bytes, .inl (ca 1, 600, .inl t.1))] := hD
        refine lv_aload_n hx hb dX8_isWord_46 rfl (lv_at hl 1 rfl) ?_
        refine lv_iload_n hx hb dX8_isWord_47 rfl (lv_at hl 2 rfl) ?_
        obtain ⟨w_12, hg_13, h⟩ := bd_at h
        refine sw_ci (sw_runR (As := [.int x2]) (rest := [.int w_10]) Cx hP hD hS mv_J0_charAt_5068e ml_X8_70 (c_J0_charAt_5068e l G ca Z H.size x1 x2 w_12 hg_13) (sw_rcS hX hS hk_6) [] rfl rfl rfl rfl ⟨(Nat.le_of_ble_eq_true rfl), (Nat.le_of_ble_eq_true rfl)⟩ hl.1 rfl rfl (Nat.le_of_ble_eq_true rfl) dX8_isWord_48 ⟨(Nat.le_of_ble_eq_true rfl), (Nat.le_of_ble_eq_true rfl)⟩) hP hD hS hA [] [0, 1] [0, 1] rfl rfl rfl (by decide) (fun _ => rfl) rfl (fun r u H locs hw hP hD hS => ?_)
        subst hw
        have hP : va_P G vwCl [(q_t, .inr (6, [.ref q_t_bytes, .int t.2.1, .int t.2.2.1, .int t.2.2.2.1, .int t.2.2.2.2.1, .int t.2.2.2.2.2.1, .int t.2.2.2.2.2.2])), (q_t_bytes, .inl (ca 1, 600, .inl t.1))] H := hP
        have hD : va_D A [(q_t, .inr (6, [.ref q_t_bytes, .int t.2.1, .int t.2.2.1, .int t.2.2.2.1, .int t.2.2.2.2.1, .int t.2.2.2.2.2.1, .int t.2.2.2.2.2.2])), (q_t_bytes, .inl (ca 1, 600, .inl t.1))] := hD
        refine lv_icmp_eq (tgt := 56) hx hb dX8_isWord_51 (by decide) (fun c_14 => ?_) (fun c_14 => ?_)
        · have h := if_t c_14 h
          obtain ⟨x2_15, e_x2_15⟩ : ∃ y : Int32, y = x2 + 1 := ⟨_, rfl⟩
          refine lv_iinc (v := x2_15) (lv' := [(2, .int x2_15), (0, .ref q_t), (1, .ref (Z (20 + x1)))]) hx hb dX8_isWord_56 hl (k := 2) rfl (by rw [e_x2_15]; rfl) (by decide) rfl (fun ls hl => ?_)
          have h := nm_at e_x2_15 h
          refine lv_goto (tgt := 28) hx hb dX8_isWord_59 (by decide) ?_
          exact ih_28 x2_15 ls H _ (lv_sub hl [1, 2, 0] rfl) hP hD hS h
        · have h := if_f c_14 h
          refine lv_iconst (v := 0) hx hb dX8_isWord_54 (by decide) ?_
          exact sw_rz hx hb hr rfl hlocks hS () (pb1 h) hP hD dX8_isWord_55
  refine lv_aload_n hx hb dX8_isWord_0 rfl (lv_at hl 0 rfl) ?_
  refine va_get (v := .int t.2.2.2.2.1) hx hb htU iU_X8 hown hK hP 0 rfl rfl 4 (by decide) (htU _ fl_X8_25) (fun _ h9 => h9) rfl dX8_isWord_1 ?_
  refine lv_iconst (v := 1) hx hb dX8_isWord_4 (by decide) ?_
  refine lv_icmp_ne (tgt := 24) hx hb dX8_isWord_5 (by decide) (fun c_1 => ?_) (fun c_1 => ?_)
  · have h := if_f c_1 h
    refine lv_iconst (v := 0) hx hb dX8_isWord_24 (by decide) ?_
    exact sw_rz hx hb hr rfl hlocks hS () (pb1 h) hP hD dX8_isWord_25
  · have h := if_t c_1 h
    refine lv_aload_n hx hb dX8_isWord_8 rfl (lv_at hl 0 rfl) ?_
    refine va_get (v := .int t.2.2.2.1) hx hb htU iU_X8 hown hK hP 0 rfl rfl 3 (by decide) (htU _ fl_X8_22) (fun _ h9 => h9) rfl dX8_isWord_9 ?_
    refine lv_aload_n hx hb dX8_isWord_12 rfl (lv_at hl 0 rfl) ?_
    refine va_get (v := .int t.2.2.2.2.2.1) hx hb htU iU_X8 hown hK hP 0 rfl rfl 5 (by decide) (htU _ fl_X8_28) (fun _ h9 => h9) rfl dX8_isWord_13 ?_
    refine lv_isub hx hb dX8_isWord_16 ?_
    refine lv_aload_n hx hb dX8_isWord_17 rfl (lv_at hl 1 rfl) ?_
    obtain ⟨hk_2, h⟩ := kl_at h
    obtain ⟨w_3, hg_4, h⟩ := bd_at h
    refine sw_ci (sw_runR (As := []) (rest := [.int (t.2.2.2.1 - t.2.2.2.2.2.1)]) Cx hP hD hS mv_J0_length_8abf5 ml_X8_64 (c_J0_length_8abf5 l G ca Z s.heap.size x1 w_3 hg_4) (sw_rcS hX hS hk_2) [] rfl rfl rfl rfl ⟨(Nat.le_of_ble_eq_true rfl), (Nat.le_of_ble_eq_true rfl)⟩ hl.1 rfl rfl (Nat.le_of_ble_eq_true rfl) dX8_isWord_18 ⟨(Nat.le_of_ble_eq_true rfl), (Nat.le_of_ble_eq_true rfl)⟩) hP hD hS hA [] [0, 1] [0, 1] rfl rfl rfl (by decide) (fun _ => rfl) rfl (fun r u H locs hw hP hD hS => ?_)
    subst hw
    have hP : va_P G vwCl [(q_t, .inr (6, [.ref q_t_bytes, .int t.2.1, .int t.2.2.1, .int t.2.2.2.1, .int t.2.2.2.2.1, .int t.2.2.2.2.2.1, .int t.2.2.2.2.2.2])), (q_t_bytes, .inl (ca 1, 600, .inl t.1))] H := hP
    have hD : va_D A [(q_t, .inr (6, [.ref q_t_bytes, .int t.2.1, .int t.2.2.1, .int t.2.2.2.1, .int t.2.2.2.2.1, .int t.2.2.2.2.2.1, .int t.2.2.2.2.2.2])), (q_t_bytes, .inl (ca 1, 600, .inl t.1))] := hD
    refine lv_icmp_eq (tgt := 26) hx hb dX8_isWord_21 (by decide) (fun c_5 => ?_) (fun c_5 => ?_)
    · have h := if_t c_5 h
      refine lv_iconst (v := 0) hx hb dX8_isWord_26 (by decide) ?_
      refine lv_istore_n (lv' := [(2, .int 0), (0, .ref q_t), (1, .ref (Z (20 + x1)))]) hx hb dX8_isWord_27 rfl hl (by decide) rfl (fun ls hl => ?_)
      exact hL_28 FUEL 0 ls H _ (lv_sub hl [1, 2, 0] rfl) hP hD hS h
    · have h := if_f c_5 h
      refine lv_iconst (v := 0) hx hb dX8_isWord_24 (by decide) ?_
      exact sw_rz hx hb hr rfl hlocks hS () (pb1 h) hP hD dX8_isWord_25
theorem mv_X8_tokenStart : sw_MV yX8_tokenStart RX8 cX8_tokenStart 1 (Option.some Jvm.ClassFile.FieldType.int) 0 := ⟨im_X8_tokenStart, se_X8_tokenStart, ini_X8, co_X8_tokenStart, by decide +kernel⟩
def F_X8_tokenStart (t : SrcT) : Option (Int32) :=
 some t.2.2.2.2.2.1
abbrev RM_X8_tokenStart : Room := ({ frames := 0, cells := 0, slots := 0, locals := 0 } : Room)
set_option maxHeartbeats 4000000 in
set_option maxRecDepth 100000 in
theorem c_X8_tokenStart (l : Launch) (G : va_G) (ca Z : Nat → Nat) (q_t : Nat) (z_t_bytes : Value) (sz : Nat) (t : SrcT) (res : Int32) (hF : F_X8_tokenStart t = some res) : Met l yX8_tokenStart (.code yX8_tokenStart cX8_tokenStart 1 (Option.some Jvm.ClassFile.FieldType.int) :: sw_U) RM_X8_tokenStart (va_Pc [.ref q_t] (sw_Pre G ca Z [(q_t, .inr (6, [z_t_bytes, .int t.2.1, .int t.2.2.1, .int t.2.2.2.1, .int t.2.2.2.2.1, .int t.2.2.2.2.2.1, .int t.2.2.2.2.2.2]))] sz)) ((fun A => va_Qi (fun r (u : Unit) => res = r) (sw_Post G A (fun (u : Unit) => [(q_t, .inr (6, [z_t_bytes, .int t.2.1, .int t.2.2.1, .int t.2.2.2.1, .int t.2.2.2.2.1, .int t.2.2.2.2.2.1, .int t.2.2.2.2.2.2]))])) A) (va_A [(q_t, .inr (6, [z_t_bytes, .int t.2.1, .int t.2.2.1, .int t.2.2.2.1, .int t.2.2.2.2.1, .int t.2.2.2.2.2.1, .int t.2.2.2.2.2.2]))] sz)) 0 0 (va_A [(q_t, .inr (6, [z_t_bytes, .int t.2.1, .int t.2.2.1, .int t.2.2.2.1, .int t.2.2.2.2.1, .int t.2.2.2.2.2.1, .int t.2.2.2.2.2.2]))] sz) := by
  refine sw_ofW (Qc := fun A => va_Qi (fun r (u : Unit) => res = r) (sw_Post G A (fun (u : Unit) => [(q_t, .inr (6, [z_t_bytes, .int t.2.1, .int t.2.2.1, .int t.2.2.2.1, .int t.2.2.2.2.1, .int t.2.2.2.2.2.1, .int t.2.2.2.2.2.2]))])) A) (by decide) [(0, .ref q_t)] rfl (Nat.le_of_ble_eq_true rfl) ?_
  intro p e s m args below meth c ls A hx hb hr hml hown htU hlocks hnm hP hK hD hX hY hS hA hl
  have hown : s.vm.findClass RX8 = some m.cls := hown
  have Cx : sw_Cx p s m args c cX8_tokenStart 1 RX8 G ca Z A := ⟨⟨hx, hb, hml, hown, htU⟩, hK, hX, hY, hA⟩
  have h := hF
  unfold F_X8_tokenStart at h
  refine lv_aload_n hx hb dX8_tokenStart_0 rfl (lv_at hl 0 rfl) ?_
  refine va_get (v := .int t.2.2.2.2.2.1) hx hb htU iU_X8 hown hK hP 0 rfl rfl 5 (by decide) (htU _ fl_X8_28) (fun _ h9 => h9) rfl dX8_tokenStart_1 ?_
  exact sw_ri hx hb hr hlocks hS () (pr1 h) hP hD dX8_tokenStart_4
theorem mv_X8_isNumber : sw_MV yX8_isNumber RX8 cX8_isNumber 1 (Option.some Jvm.ClassFile.FieldType.boolean) 0 := ⟨im_X8_isNumber, se_X8_isNumber, ini_X8, co_X8_isNumber, by decide +kernel⟩
def F_X8_isNumber (t : SrcT) : Option (Bool) :=
 (if t.2.2.2.2.1 = 2 then some true else some false)
abbrev RM_X8_isNumber : Room := ({ frames := 0, cells := 0, slots := 0, locals := 0 } : Room)
set_option maxHeartbeats 4000000 in
set_option maxRecDepth 100000 in
theorem c_X8_isNumber (l : Launch) (G : va_G) (ca Z : Nat → Nat) (q_t : Nat) (z_t_bytes : Value) (sz : Nat) (t : SrcT) (res : Bool) (hF : F_X8_isNumber t = some res) : Met l yX8_isNumber (.code yX8_isNumber cX8_isNumber 1 (Option.some Jvm.ClassFile.FieldType.boolean) :: sw_U) RM_X8_isNumber (va_Pc [.ref q_t] (sw_Pre G ca Z [(q_t, .inr (6, [z_t_bytes, .int t.2.1, .int t.2.2.1, .int t.2.2.2.1, .int t.2.2.2.2.1, .int t.2.2.2.2.2.1, .int t.2.2.2.2.2.2]))] sz)) ((fun A => va_Qi (fun r (u : Unit) => bI res = r) (sw_Post G A (fun (u : Unit) => [(q_t, .inr (6, [z_t_bytes, .int t.2.1, .int t.2.2.1, .int t.2.2.2.1, .int t.2.2.2.2.1, .int t.2.2.2.2.2.1, .int t.2.2.2.2.2.2]))])) A) (va_A [(q_t, .inr (6, [z_t_bytes, .int t.2.1, .int t.2.2.1, .int t.2.2.2.1, .int t.2.2.2.2.1, .int t.2.2.2.2.2.1, .int t.2.2.2.2.2.2]))] sz)) 0 0 (va_A [(q_t, .inr (6, [z_t_bytes, .int t.2.1, .int t.2.2.1, .int t.2.2.2.1, .int t.2.2.2.2.1, .int t.2.2.2.2.2.1, .int t.2.2.2.2.2.2]))] sz) := by
  refine sw_ofW (Qc := fun A => va_Qi (fun r (u : Unit) => bI res = r) (sw_Post G A (fun (u : Unit) => [(q_t, .inr (6, [z_t_bytes, .int t.2.1, .int t.2.2.1, .int t.2.2.2.1, .int t.2.2.2.2.1, .int t.2.2.2.2.2.1, .int t.2.2.2.2.2.2]))])) A) (by decide) [(0, .ref q_t)] rfl (Nat.le_of_ble_eq_true rfl) ?_
  intro p e s m args below meth c ls A hx hb hr hml hown htU hlocks hnm hP hK hD hX hY hS hA hl
  have hown : s.vm.findClass RX8 = some m.cls := hown
  have Cx : sw_Cx p s m args c cX8_isNumber 1 RX8 G ca Z A := ⟨⟨hx, hb, hml, hown, htU⟩, hK, hX, hY, hA⟩
  have h := hF
  unfold F_X8_isNumber at h
  refine lv_aload_n hx hb dX8_isNumber_0 rfl (lv_at hl 0 rfl) ?_
  refine va_get (v := .int t.2.2.2.2.1) hx hb htU iU_X8 hown hK hP 0 rfl rfl 4 (by decide) (htU _ fl_X8_25) (fun _ h9 => h9) rfl dX8_isNumber_1 ?_
  refine lv_iconst (v := 2) hx hb dX8_isNumber_4 (by decide) ?_
  refine lv_icmp_ne (tgt := 12) hx hb dX8_isNumber_5 (by decide) (fun c_1 => ?_) (fun c_1 => ?_)
  · have h := if_f c_1 h
    refine lv_iconst (v := 0) hx hb dX8_isNumber_12 (by decide) ?_
    exact sw_rz hx hb hr rfl hlocks hS () (pb1 h) hP hD dX8_isNumber_13
  · have h := if_t c_1 h
    refine lv_iconst (v := 1) hx hb dX8_isNumber_8 (by decide) ?_
    refine lv_goto (tgt := 13) hx hb dX8_isNumber_9 (by decide) ?_
    exact sw_rz hx hb hr rfl hlocks hS () (pb1 h) hP hD dX8_isNumber_13
theorem mv_X8_tokenValue : sw_MV yX8_tokenValue RX8 cX8_tokenValue 1 (Option.some Jvm.ClassFile.FieldType.int) 0 := ⟨im_X8_tokenValue, se_X8_tokenValue, ini_X8, co_X8_tokenValue, by decide +kernel⟩
def F_X8_tokenValue (t : SrcT) : Option (Int32) :=
 some t.2.2.2.2.2.2
abbrev RM_X8_tokenValue : Room := ({ frames := 0, cells := 0, slots := 0, locals := 0 } : Room)
set_option maxHeartbeats 4000000 in
set_option maxRecDepth 100000 in
theorem c_X8_tokenValue (l : Launch) (G : va_G) (ca Z : Nat → Nat) (q_t : Nat) (z_t_bytes : Value) (sz : Nat) (t : SrcT) (res : Int32) (hF : F_X8_tokenValue t = some res) : Met l yX8_tokenValue (.code yX8_tokenValue cX8_tokenValue 1 (Option.some Jvm.ClassFile.FieldType.int) :: sw_U) RM_X8_tokenValue (va_Pc [.ref q_t] (sw_Pre G ca Z [(q_t, .inr (6, [z_t_bytes, .int t.2.1, .int t.2.2.1, .int t.2.2.2.1, .int t.2.2.2.2.1, .int t.2.2.2.2.2.1, .int t.2.2.2.2.2.2]))] sz)) ((fun A => va_Qi (fun r (u : Unit) => res = r) (sw_Post G A (fun (u : Unit) => [(q_t, .inr (6, [z_t_bytes, .int t.2.1, .int t.2.2.1, .int t.2.2.2.1, .int t.2.2.2.2.1, .int t.2.2.2.2.2.1, .int t.2.2.2.2.2.2]))])) A) (va_A [(q_t, .inr (6, [z_t_bytes, .int t.2.1, .int t.2.2.1, .int t.2.2.2.1, .int t.2.2.2.2.1, .int t.2.2.2.2.2.1, .int t.2.2.2.2.2.2]))] sz)) 0 0 (va_A [(q_t, .inr (6, [z_t_bytes, .int t.2.1, .int t.2.2.1, .int t.2.2.2.1, .int t.2.2.2.2.1, .int t.2.2.2.2.2.1, .int t.2.2.2.2.2.2]))] sz) := by
  refine sw_ofW (Qc := fun A => va_Qi (fun r (u : Unit) => res = r) (sw_Post G A (fun (u : Unit) => [(q_t, .inr (6, [z_t_bytes, .int t.2.1, .int t.2.2.1, .int t.2.2.2.1, .int t.2.2.2.2.1, .int t.2.2.2.2.2.1, .int t.2.2.2.2.2.2]))])) A) (by decide) [(0, .ref q_t)] rfl (Nat.le_of_ble_eq_true rfl) ?_
  intro p e s m args below meth c ls A hx hb hr hml hown htU hlocks hnm hP hK hD hX hY hS hA hl
  have hown : s.vm.findClass RX8 = some m.cls := hown
  have Cx : sw_Cx p s m args c cX8_tokenValue 1 RX8 G ca Z A := ⟨⟨hx, hb, hml, hown, htU⟩, hK, hX, hY, hA⟩
  have h := hF
  unfold F_X8_tokenValue at h
  refine lv_aload_n hx hb dX8_tokenValue_0 rfl (lv_at hl 0 rfl) ?_
  refine va_get (v := .int t.2.2.2.2.2.2) hx hb htU iU_X8 hown hK hP 0 rfl rfl 6 (by decide) (htU _ fl_X8_31) (fun _ h9 => h9) rfl dX8_tokenValue_1 ?_
  exact sw_ri hx hb hr hlocks hS () (pr1 h) hP hD dX8_tokenValue_4
theorem mv_X8_isSemicolon : sw_MV yX8_isSemicolon RX8 cX8_isSemicolon 1 (Option.some Jvm.ClassFile.FieldType.boolean) 0 := ⟨im_X8_isSemicolon, se_X8_isSemicolon, ini_X8, co_X8_isSemicolon, by decide +kernel⟩
def F_X8_isSemicolon (t : SrcT) : Option (Bool) :=
 (if t.2.2.2.2.1 = 3 then some true else some false)
abbrev RM_X8_isSemicolon : Room := ({ frames := 0, cells := 0, slots := 0, locals := 0 } : Room)
set_option maxHeartbeats 4000000 in
set_option maxRecDepth 100000 in
theorem c_X8_isSemicolon (l : Launch) (G : va_G) (ca Z : Nat → Nat) (q_t : Nat) (z_t_bytes : Value) (sz : Nat) (t : SrcT) (res : Bool) (hF : F_X8_isSemicolon t = some res) : Met l yX8_isSemicolon (.code yX8_isSemicolon cX8_isSemicolon 1 (Option.some Jvm.ClassFile.FieldType.boolean) :: sw_U) RM_X8_isSemicolon (va_Pc [.ref q_t] (sw_Pre G ca Z [(q_t, .inr (6, [z_t_bytes, .int t.2.1, .int t.2.2.1, .int t.2.2.2.1, .int t.2.2.2.2.1, .int t.2.2.2.2.2.1, .int t.2.2.2.2.2.2]))] sz)) ((fun A => va_Qi (fun r (u : Unit) => bI res = r) (sw_Post G A (fun (u : Unit) => [(q_t, .inr (6, [z_t_bytes, .int t.2.1, .int t.2.2.1, .int t.2.2.2.1, .int t.2.2.2.2.1, .int t.2.2.2.2.2.1, .int t.2.2.2.2.2.2]))])) A) (va_A [(q_t, .inr (6, [z_t_bytes, .int t.2.1, .int t.2.2.1, .int t.2.2.2.1, .int t.2.2.2.2.1, .int t.2.2.2.2.2.1, .int t.2.2.2.2.2.2]))] sz)) 0 0 (va_A [(q_t, .inr (6, [z_t_bytes, .int t.2.1, .int t.2.2.1, .int t.2.2.2.1, .int t.2.2.2.2.1, .int t.2.2.2.2.2.1, .int t.2.2.2.2.2.2]))] sz) := by
  refine sw_ofW (Qc := fun A => va_Qi (fun r (u : Unit) => bI res = r) (sw_Post G A (fun (u : Unit) => [(q_t, .inr (6, [z_t_bytes, .int t.2.1, .int t.2.2.1, .int t.2.2.2.1, .int t.2.2.2.2.1, .int t.2.2.2.2.2.1, .int t.2.2.2.2.2.2]))])) A) (by decide) [(0, .ref q_t)] rfl (Nat.le_of_ble_eq_true rfl) ?_
  intro p e s m args below meth c ls A hx hb hr hml hown htU hlocks hnm hP hK hD hX hY hS hA hl
  have hown : s.vm.findClass RX8 = some m.cls := hown
  have Cx : sw_Cx p s m args c cX8_isSemicolon 1 RX8 G ca Z A := ⟨⟨hx, hb, hml, hown, htU⟩, hK, hX, hY, hA⟩
  have h := hF
  unfold F_X8_isSemicolon at h
  refine lv_aload_n hx hb dX8_isSemicolon_0 rfl (lv_at hl 0 rfl) ?_
  refine va_get (v := .int t.2.2.2.2.1) hx hb htU iU_X8 hown hK hP 0 rfl rfl 4 (by decide) (htU _ fl_X8_25) (fun _ h9 => h9) rfl dX8_isSemicolon_1 ?_
  refine lv_iconst (v := 3) hx hb dX8_isSemicolon_4 (by decide) ?_
  refine lv_icmp_ne (tgt := 12) hx hb dX8_isSemicolon_5 (by decide) (fun c_1 => ?_) (fun c_1 => ?_)
  · have h := if_f c_1 h
    refine lv_iconst (v := 0) hx hb dX8_isSemicolon_12 (by decide) ?_
    exact sw_rz hx hb hr rfl hlocks hS () (pb1 h) hP hD dX8_isSemicolon_13
  · have h := if_t c_1 h
    refine lv_iconst (v := 1) hx hb dX8_isSemicolon_8 (by decide) ?_
    refine lv_goto (tgt := 13) hx hb dX8_isSemicolon_9 (by decide) ?_
    exact sw_rz hx hb hr rfl hlocks hS () (pb1 h) hP hD dX8_isSemicolon_13
theorem mv_X8_isEnd : sw_MV yX8_isEnd RX8 cX8_isEnd 1 (Option.some Jvm.ClassFile.FieldType.boolean) 0 := ⟨im_X8_isEnd, se_X8_isEnd, ini_X8, co_X8_isEnd, by decide +kernel⟩
def F_X8_isEnd (t : SrcT) : Option (Bool) :=
 (if t.2.2.2.2.1 = 0 then some true else some false)
abbrev RM_X8_isEnd : Room := ({ frames := 0, cells := 0, slots := 0, locals := 0 } : Room)
set_option maxHeartbeats 4000000 in
set_option maxRecDepth 100000 in
theorem c_X8_isEnd (l : Launch) (G : va_G) (ca Z : Nat → Nat) (q_t : Nat) (z_t_bytes : Value) (sz : Nat) (t : SrcT) (res : Bool) (hF : F_X8_isEnd t = some res) : Met l yX8_isEnd (.code yX8_isEnd cX8_isEnd 1 (Option.some Jvm.ClassFile.FieldType.boolean) :: sw_U) RM_X8_isEnd (va_Pc [.ref q_t] (sw_Pre G ca Z [(q_t, .inr (6, [z_t_bytes, .int t.2.1, .int t.2.2.1, .int t.2.2.2.1, .int t.2.2.2.2.1, .int t.2.2.2.2.2.1, .int t.2.2.2.2.2.2]))] sz)) ((fun A => va_Qi (fun r (u : Unit) => bI res = r) (sw_Post G A (fun (u : Unit) => [(q_t, .inr (6, [z_t_bytes, .int t.2.1, .int t.2.2.1, .int t.2.2.2.1, .int t.2.2.2.2.1, .int t.2.2.2.2.2.1, .int t.2.2.2.2.2.2]))])) A) (va_A [(q_t, .inr (6, [z_t_bytes, .int t.2.1, .int t.2.2.1, .int t.2.2.2.1, .int t.2.2.2.2.1, .int t.2.2.2.2.2.1, .int t.2.2.2.2.2.2]))] sz)) 0 0 (va_A [(q_t, .inr (6, [z_t_bytes, .int t.2.1, .int t.2.2.1, .int t.2.2.2.1, .int t.2.2.2.2.1, .int t.2.2.2.2.2.1, .int t.2.2.2.2.2.2]))] sz) := by
  refine sw_ofW (Qc := fun A => va_Qi (fun r (u : Unit) => bI res = r) (sw_Post G A (fun (u : Unit) => [(q_t, .inr (6, [z_t_bytes, .int t.2.1, .int t.2.2.1, .int t.2.2.2.1, .int t.2.2.2.2.1, .int t.2.2.2.2.2.1, .int t.2.2.2.2.2.2]))])) A) (by decide) [(0, .ref q_t)] rfl (Nat.le_of_ble_eq_true rfl) ?_
  intro p e s m args below meth c ls A hx hb hr hml hown htU hlocks hnm hP hK hD hX hY hS hA hl
  have hown : s.vm.findClass RX8 = some m.cls := hown
  have Cx : sw_Cx p s m args c cX8_isEnd 1 RX8 G ca Z A := ⟨⟨hx, hb, hml, hown, htU⟩, hK, hX, hY, hA⟩
  have h := hF
  unfold F_X8_isEnd at h
  refine lv_aload_n hx hb dX8_isEnd_0 rfl (lv_at hl 0 rfl) ?_
  refine va_get (v := .int t.2.2.2.2.1) hx hb htU iU_X8 hown hK hP 0 rfl rfl 4 (by decide) (htU _ fl_X8_25) (fun _ h9 => h9) rfl dX8_isEnd_1 ?_
  refine lv_if_ne (tgt := 11) hx hb dX8_isEnd_4 (by decide) (fun c_1 => ?_) (fun c_1 => ?_)
  · have h := if_f c_1 h
    refine lv_iconst (v := 0) hx hb dX8_isEnd_11 (by decide) ?_
    exact sw_rz hx hb hr rfl hlocks hS () (pb1 h) hP hD dX8_isEnd_12
  · have h := if_t c_1 h
    refine lv_iconst (v := 1) hx hb dX8_isEnd_7 (by decide) ?_
    refine lv_goto (tgt := 12) hx hb dX8_isEnd_8 (by decide) ?_
    exact sw_rz hx hb hr rfl hlocks hS () (pb1 h) hP hD dX8_isEnd_12
theorem mv_X8_filled : sw_MV yX8_filled RX8 cX8_filled 1 (Option.some Jvm.ClassFile.FieldType.int) 0 := ⟨im_X8_filled, se_X8_filled, ini_X8, co_X8_filled, by decide +kernel⟩
def F_X8_filled (t : SrcT) : Option (Int32) :=
 some t.2.1
abbrev RM_X8_filled : Room := ({ frames := 0, cells := 0, slots := 0, locals := 0 } : Room)
set_option maxHeartbeats 4000000 in
set_option maxRecDepth 100000 in
theorem c_X8_filled (l : Launch) (G : va_G) (ca Z : Nat → Nat) (q_t : Nat) (z_t_bytes : Value) (sz : Nat) (t : SrcT) (res : Int32) (hF : F_X8_filled t = some res) : Met l yX8_filled (.code yX8_filled cX8_filled 1 (Option.some Jvm.ClassFile.FieldType.int) :: sw_U) RM_X8_filled (va_Pc [.ref q_t] (sw_Pre G ca Z [(q_t, .inr (6, [z_t_bytes, .int t.2.1, .int t.2.2.1, .int t.2.2.2.1, .int t.2.2.2.2.1, .int t.2.2.2.2.2.1, .int t.2.2.2.2.2.2]))] sz)) ((fun A => va_Qi (fun r (u : Unit) => res = r) (sw_Post G A (fun (u : Unit) => [(q_t, .inr (6, [z_t_bytes, .int t.2.1, .int t.2.2.1, .int t.2.2.2.1, .int t.2.2.2.2.1, .int t.2.2.2.2.2.1, .int t.2.2.2.2.2.2]))])) A) (va_A [(q_t, .inr (6, [z_t_bytes, .int t.2.1, .int t.2.2.1, .int t.2.2.2.1, .int t.2.2.2.2.1, .int t.2.2.2.2.2.1, .int t.2.2.2.2.2.2]))] sz)) 0 0 (va_A [(q_t, .inr (6, [z_t_bytes, .int t.2.1, .int t.2.2.1, .int t.2.2.2.1, .int t.2.2.2.2.1, .int t.2.2.2.2.2.1, .int t.2.2.2.2.2.2]))] sz) := by
  refine sw_ofW (Qc := fun A => va_Qi (fun r (u : Unit) => res = r) (sw_Post G A (fun (u : Unit) => [(q_t, .inr (6, [z_t_bytes, .int t.2.1, .int t.2.2.1, .int t.2.2.2.1, .int t.2.2.2.2.1, .int t.2.2.2.2.2.1, .int t.2.2.2.2.2.2]))])) A) (by decide) [(0, .ref q_t)] rfl (Nat.le_of_ble_eq_true rfl) ?_
  intro p e s m args below meth c ls A hx hb hr hml hown htU hlocks hnm hP hK hD hX hY hS hA hl
  have hown : s.vm.findClass RX8 = some m.cls := hown
  have Cx : sw_Cx p s m args c cX8_filled 1 RX8 G ca Z A := ⟨⟨hx, hb, hml, hown, htU⟩, hK, hX, hY, hA⟩
  have h := hF
  unfold F_X8_filled at h
  refine lv_aload_n hx hb dX8_filled_0 rfl (lv_at hl 0 rfl) ?_
  refine va_get (v := .int t.2.1) hx hb htU iU_X8 hown hK hP 0 rfl rfl 1 (by decide) (htU _ fl_X8_15) (fun _ h9 => h9) rfl dX8_filled_1 ?_
  exact sw_ri hx hb hr hlocks hS () (pr1 h) hP hD dX8_filled_4
theorem mv_X8_empty : sw_MV yX8_empty RX8 cX8_empty 1 (Option.none : Option Jvm.ClassFile.FieldType) 0 := ⟨im_X8_empty, se_X8_empty, ini_X8, co_X8_empty, by decide +kernel⟩
def F_X8_empty (t : SrcT) : Option (SrcT) :=
 some (t.1, 0, t.2.2.1, t.2.2.2.1, t.2.2.2.2.1, t.2.2.2.2.2.1, t.2.2.2.2.2.2)
abbrev RM_X8_empty : Room := ({ frames := 0, cells := 0, slots := 0, locals := 0 } : Room)
set_option maxHeartbeats 4000000 in
set_option maxRecDepth 100000 in
theorem c_X8_empty (l : Launch) (G : va_G) (ca Z : Nat → Nat) (q_t : Nat) (z_t_bytes : Value) (sz : Nat) (t : SrcT) (res : SrcT) (hF : F_X8_empty t = some res) : Met l yX8_empty (.code yX8_empty cX8_empty 1 (Option.none : Option Jvm.ClassFile.FieldType) :: sw_U) RM_X8_empty (va_Pc [.ref q_t] (sw_Pre G ca Z [(q_t, .inr (6, [z_t_bytes, .int t.2.1, .int t.2.2.1, .int t.2.2.2.1, .int t.2.2.2.2.1, .int t.2.2.2.2.2.1, .int t.2.2.2.2.2.2]))] sz)) ((fun A => va_Qv (fun (u : SrcT) => res = u) (sw_Post G A (fun (u : SrcT) => [(q_t, .inr (6, [z_t_bytes, .int u.2.1, .int u.2.2.1, .int u.2.2.2.1, .int u.2.2.2.2.1, .int u.2.2.2.2.2.1, .int u.2.2.2.2.2.2]))])) A) (va_A [(q_t, .inr (6, [z_t_bytes, .int t.2.1, .int t.2.2.1, .int t.2.2.2.1, .int t.2.2.2.2.1, .int t.2.2.2.2.2.1, .int t.2.2.2.2.2.2]))] sz)) 0 0 (va_A [(q_t, .inr (6, [z_t_bytes, .int t.2.1, .int t.2.2.1, .int t.2.2.2.1, .int t.2.2.2.2.1, .int t.2.2.2.2.2.1, .int t.2.2.2.2.2.2]))] sz) := by
  refine sw_ofW (Qc := fun A => va_Qv (fun (u : SrcT) => res = u) (sw_Post G A (fun (u : SrcT) => [(q_t, .inr (6, [z_t_bytes, .int u.2.1, .int u.2.2.1, .int u.2.2.2.1, .int u.2.2.2.2.1, .int u.2.2.2.2.2.1, .int u.2.2.2.2.2.2]))])) A) (by decide) [(0, .ref q_t)] rfl (Nat.le_of_ble_eq_true rfl) ?_
  intro p e s m args below meth c ls A hx hb hr hml hown htU hlocks hnm hP hK hD hX hY hS hA hl
  have hown : s.vm.findClass RX8 = some m.cls := hown
  have Cx : sw_Cx p s m args c cX8_empty 1 RX8 G ca Z A := ⟨⟨hx, hb, hml, hown, htU⟩, hK, hX, hY, hA⟩
  have h := hF
  unfold F_X8_empty at h
  refine lv_aload_n hx hb dX8_empty_0 rfl (lv_at hl 0 rfl) ?_
  refine lv_iconst (v := 0) hx hb dX8_empty_1 (by decide) ?_
  refine va_put (v := .int 0) (ty := .int) hx hb htU iU_X8 tyX8 tyX8_ok nmX8 hown hK hP hD hS 0 rfl rfl 1 (by decide) (htU _ fl_X8_15) (fun _ h9 => h9) rfl (by decide +kernel) rfl rfl (Nat.le_of_ble_eq_true rfl) dX8_empty_2 (fun H locs hP hD hS => ?_)
  have hP : va_P G vwCl [(q_t, .inr (6, [z_t_bytes, .int 0, .int t.2.2.1, .int t.2.2.2.1, .int t.2.2.2.2.1, .int t.2.2.2.2.2.1, .int t.2.2.2.2.2.2]))] H := hP
  have hD : va_D A [(q_t, .inr (6, [z_t_bytes, .int 0, .int t.2.2.1, .int t.2.2.2.1, .int t.2.2.2.2.1, .int t.2.2.2.2.2.1, .int t.2.2.2.2.2.2]))] := hD
  exact sw_rv hx hb hr hlocks hS (t.1, 0, t.2.2.1, t.2.2.2.1, t.2.2.2.2.1, t.2.2.2.2.2.1, t.2.2.2.2.2.2) (pr1 h) hP hD dX8_empty_5
theorem mv_X8_appendFour : sw_MV yX8_appendFour RX8 cX8_appendFour 3 (Option.none : Option Jvm.ClassFile.FieldType) 1 := ⟨im_X8_appendFour, se_X8_appendFour, ini_X8, co_X8_appendFour, by decide +kernel⟩
def B_X8_appendFour_3 (x1 : Int32) (k_3 : Int32 → SrcT → Option (SrcT)) (x2 : Int32) (t : SrcT) : Option (SrcT) :=
 (if x2 < 0 then some t else (if 600 ≤ t.2.1 then nm (x2 + (-8)) (fun x2_3 => k_3 x2_3 t) else nm (((x1.toUInt32 >>> (x2.toUInt32 &&& Int32.toUInt32 31)).toInt32).toInt8.toInt32) (fun a_4 => ix t.2.1 600 (nm ((t.2.1 + 1)) (fun f_6 => nm (x2 + (-8)) (fun x2_7 => k_3 x2_7 ((upd t.1 t.2.1.toNatClampNeg (vp_nar .byte a_4)), f_6, t.2.2.1, t.2.2.2.1, t.2.2.2.2.1, t.2.2.2.2.2.1, t.2.2.2.2.2.2)))))))
def F_X8_appendFour (x1 : Int32) (t : SrcT) : Option (SrcT) :=
 fx (fun _ _ => none) (B_X8_appendFour_3 x1) FUEL 24 t
abbrev RM_X8_appendFour : Room := ({ frames := 0, cells := 0, slots := 0, locals := 0 } : Room)
set_option maxHeartbeats 4000000 in
set_option maxRecDepth 100000 in
theorem c_X8_appendFour (l : Launch) (G : va_G) (ca Z : Nat → Nat) (q_t : Nat) (q_t_bytes : Nat) (sz : Nat) (x1 : Int32) (t : SrcT) (res : SrcT) (hF : F_X8_appendFour x1 t = some res) : Met l yX8_appendFour (.code yX8_appendFour cX8_appendFour 3 (Option.none : Option Jvm.ClassFile.FieldType) :: sw_U) RM_X8_appendFour (va_Pc [.ref q_t, .int x1] (sw_Pre G ca Z [(q_t, .inr (6, [.ref q_t_bytes, .int t.2.1, .int t.2.2.1, .int t.2.2.2.1, .int t.2.2.2.2.1, .int t.2.2.2.2.2.1, .int t.2.2.2.2.2.2])), (q_t_bytes, .inl (ca 1, 600, .inl t.1))] sz)) ((fun A => va_Qv (fun (u : SrcT) => res = u) (sw_Post G A (fun (u : SrcT) => [(q_t, .inr (6, [.ref q_t_bytes, .int u.2.1, .int u.2.2.1, .int u.2.2.2.1, .int u.2.2.2.2.1, .int u.2.2.2.2.2.1, .int u.2.2.2.2.2.2])), (q_t_bytes, .inl (ca 1, 600, .inl u.1))])) A) (va_A [(q_t, .inr (6, [.ref q_t_bytes, .int t.2.1, .int t.2.2.1, .int t.2.2.2.1, .int t.2.2.2.2.1, .int t.2.2.2.2.2.1, .int t.2.2.2.2.2.2])), (q_t_bytes, .inl (ca 1, 600, .inl t.1))] sz)) 0 0 (va_A [(q_t, .inr (6, [.ref q_t_bytes, .int t.2.1, .int t.2.2.1, .int t.2.2.2.1, .int t.2.2.2.2.1, .int t.2.2.2.2.2.1, .int t.2.2.2.2.2.2])), (q_t_bytes, .inl (ca 1, 600, .inl t.1))] sz) := by
  refine sw_ofW (Qc := fun A => va_Qv (fun (u : SrcT) => res = u) (sw_Post G A (fun (u : SrcT) => [(q_t, .inr (6, [.ref q_t_bytes, .int u.2.1, .int u.2.2.1, .int u.2.2.2.1, .int u.2.2.2.2.1, .int u.2.2.2.2.2.1, .int u.2.2.2.2.2.2])), (q_t_bytes, .inl (ca 1, 600, .inl u.1))])) A) (by decide) [(0, .ref q_t), (1, .int x1)] rfl (Nat.le_of_ble_eq_true rfl) ?_
  intro p e s m args below meth c ls A hx hb hr hml hown htU hlocks hnm hP hK hD hX hY hS hA hl
  have hown : s.vm.findClass RX8 = some m.cls := hown
  have Cx : sw_Cx p s m args c cX8_appendFour 3 RX8 G ca Z A := ⟨⟨hx, hb, hml, hown, htU⟩, hK, hX, hY, hA⟩
  have h := hF
  unfold F_X8_appendFour at h
  have hL_3 : ∀ (n_3 : Nat) (x2 : Int32) (t : SrcT) (ls : Array Slot) (H : Heap) (locs : List Loc), lv_has ls 3 [(0, .ref q_t), (1, .int x1), (2, .int x2)] → va_P G vwCl [(q_t, .inr (6, [.ref q_t_bytes, .int t.2.1, .int t.2.2.1, .int t.2.2.2.1, .int t.2.2.2.2.1, .int t.2.2.2.2.2.1, .int t.2.2.2.2.2.2])), (q_t_bytes, .inl (ca 1, 600, .inl t.1))] H → va_D A [(q_t, .inr (6, [.ref q_t_bytes, .int t.2.1, .int t.2.2.1, .int t.2.2.2.1, .int t.2.2.2.2.1, .int t.2.2.2.2.2.1, .int t.2.2.2.2.2.2])), (q_t_bytes, .inl (ca 1, 600, .inl t.1))] → va_S A s.heap H locs → fx (fun _ _ => none) (B_X8_appendFour_3 x1) n_3 x2 t = some res → W p l e RM_X8_appendFour s m args below meth c H locs 0 0 (MQ below ((fun A => va_Qv (fun (u : SrcT) => res = u) (sw_Post G A (fun (u : SrcT) => [(q_t, .inr (6, [.ref q_t_bytes, .int u.2.1, .int u.2.2.1, .int u.2.2.2.1, .int u.2.2.2.2.1, .int u.2.2.2.2.2.1, .int u.2.2.2.2.2.2])), (q_t_bytes, .inl (ca 1, 600, .inl u.1))])) A) A) args s 0 0 A) (F0 m 3 ls []) := by
    intro n_3
    induction n_3 with
    | zero => intro x2 t ls H locs hl hP hD hS h; exact no_at h
    | succ n_3 ih_3 =>
      intro x2 t ls H locs hl hP hD hS h
      rw [fx_s] at h
      unfold B_X8_appendFour_3 at h
      refine lv_iload_n hx hb dX8_appendFour_3 rfl (lv_at hl 2 rfl) ?_
      refine lv_if_lt (tgt := 48) hx hb dX8_appendFour_4 (by decide) (fun c_1 => ?_) (fun c_1 => ?_)
      · have h := if_t c_1 h
        exact sw_rv hx hb hr hlocks hS t (pr1 h) hP hD dX8_appendFour_48
      · have h := if_f c_1 h
        refine lv_aload_n hx hb dX8_appendFour_7 rfl (lv_at hl 0 rfl) ?_
        refine va_get (v := .int t.2.1) hx hb htU iU_X8 hown hK hP 0 rfl rfl 1 (by decide) (htU _ fl_X8_15) (fun _ h9 => h9) rfl dX8_appendFour_8 ?_
        refine lv_aload_n hx hb dX8_appendFour_11 rfl (lv_at hl 0 rfl) ?_
        refine va_get (v := .ref q_t_bytes) hx hb htU iU_X8 hown hK hP 0 rfl rfl 0 (by decide) (htU _ fl_X8_9) (fun _ h9 => h9) rfl dX8_appendFour_12 ?_
        refine va_alen (v := 600) hx hb hK hP 1 1 rfl rfl (by decide : Int32.ofNat 600 = 600) dX8_appendFour_15 ?_
        refine lv_icmp_ge (tgt := 42) hx hb dX8_appendFour_16 (by decide) (fun c_2 => ?_) (fun c_2 => ?_)
        · have h := if_t c_2 h
          obtain ⟨x2_3, e_x2_3⟩ : ∃ y : Int32, y = x2 + (-8) := ⟨_, rfl⟩
          refine lv_iinc (v := x2_3) (lv' := [(2, .int x2_3), (0, .ref q_t), (1, .int x1)]) hx hb dX8_appendFour_42 hl (k := 2) rfl (by rw [e_x2_3]; rfl) (by decide) rfl (fun ls hl => ?_)
          have h := nm_at e_x2_3 h
          refine lv_goto (tgt := 3) hx hb dX8_appendFour_45 (by decide) ?_
          exact ih_3 x2_3 t ls H _ (lv_sub hl [1, 2, 0] rfl) hP hD hS h
        · have h := if_f c_2 h
          refine lv_aload_n hx hb dX8_appendFour_19 rfl (lv_at hl 0 rfl) ?_
          refine va_get (v := .ref q_t_bytes) hx hb htU iU_X8 hown hK hP 0 rfl rfl 0 (by decide) (htU _ fl_X8_9) (fun _ h9 => h9) rfl dX8_appendFour_20 ?_
          refine lv_aload_n hx hb dX8_appendFour_23 rfl (lv_at hl 0 rfl) ?_
          refine va_get (v := .int t.2.1) hx hb htU iU_X8 hown hK hP 0 rfl rfl 1 (by decide) (htU _ fl_X8_15) (fun _ h9 => h9) rfl dX8_appendFour_24 ?_
          refine lv_iload_n hx hb dX8_appendFour_27 rfl (lv_at hl 1 rfl) ?_
          refine lv_iload_n hx hb dX8_appendFour_28 rfl (lv_at hl 2 rfl) ?_
          refine lv_iushr (v := (x1.toUInt32 >>> (x2.toUInt32 &&& Int32.toUInt32 31)).toInt32) hx hb dX8_appendFour_29 rfl ?_
          refine lv_i2b (v := ((x1.toUInt32 >>> (x2.toUInt32 &&& Int32.toUInt32 31)).toInt32).toInt8.toInt32) hx hb dX8_appendFour_30 rfl ?_
          refine lv_topi (fun a_4 e_a_4 => ?_)
          have h := nm_at e_a_4 h
          obtain ⟨hi_5, h⟩ := ix_at h
          refine va_bast hx hb hK hP hD hS 1 1 rfl rfl hi_5 dX8_appendFour_31 (fun H locs hP hD hS => ?_)
          have hP : va_P G vwCl [(q_t, .inr (6, [.ref q_t_bytes, .int t.2.1, .int t.2.2.1, .int t.2.2.2.1, .int t.2.2.2.2.1, .int t.2.2.2.2.2.1, .int t.2.2.2.2.2.2])), (q_t_bytes, .inl (ca 1, 600, .inl (upd t.1 t.2.1.toNatClampNeg (vp_nar .byte a_4))))] H := hP
          have hD : va_D A [(q_t, .inr (6, [.ref q_t_bytes, .int t.2.1, .int t.2.2.1, .int t.2.2.2.1, .int t.2.2.2.2.1, .int t.2.2.2.2.2.1, .int t.2.2.2.2.2.2])), (q_t_bytes, .inl (ca 1, 600, .inl (upd t.1 t.2.1.toNatClampNeg (vp_nar .byte a_4))))] := hD
          refine lv_aload_n hx hb dX8_appendFour_32 rfl (lv_at hl 0 rfl) ?_
          refine lv_dup hx hb dX8_appendFour_33 rfl ?_
          refine va_get (v := .int t.2.1) hx hb htU iU_X8 hown hK hP 0 rfl rfl 1 (by decide) (htU _ fl_X8_15) (fun _ h9 => h9) rfl dX8_appendFour_34 ?_
          refine lv_iconst (v := 1) hx hb dX8_appendFour_37 (by decide) ?_
          refine lv_iadd hx hb dX8_appendFour_38 ?_
          refine lv_topi (fun f_6 e_f_6 => ?_)
          have h := nm_at e_f_6 h
          refine va_put (v := .int f_6) (ty := .int) hx hb htU iU_X8 tyX8 tyX8_ok nmX8 hown hK hP hD hS 0 rfl rfl 1 (by decide) (htU _ fl_X8_15) (fun _ h9 => h9) rfl (by decide +kernel) rfl rfl (Nat.le_of_ble_eq_true rfl) dX8_appendFour_39 (fun H locs hP hD hS => ?_)
          have hP : va_P G vwCl [(q_t, .inr (6, [.ref q_t_bytes, .int f_6, .int t.2.2.1, .int t.2.2.2.1, .int t.2.2.2.2.1, .int t.2.2.2.2.2.1, .int t.2.2.2.2.2.2])), (q_t_bytes, .inl (ca 1, 600, .inl (upd t.1 t.2.1.toNatClampNeg (vp_nar .byte a_4))))] H := hP
          have hD : va_D A [(q_t, .inr (6, [.ref q_t_bytes, .int f_6, .int t.2.2.1, .int t.2.2.2.1, .int t.2.2.2.2.1, .int t.2.2.2.2.2.1, .int t.2.2.2.2.2.2])), (q_t_bytes, .inl (ca 1, 600, .inl (upd t.1 t.2.1.toNatClampNeg (vp_nar .byte a_4))))] := hD
          obtain ⟨x2_7, e_x2_7⟩ : ∃ y : Int32, y = x2 + (-8) := ⟨_, rfl⟩
          refine lv_iinc (v := x2_7) (lv' := [(2, .int x2_7), (0, .ref q_t), (1, .int x1)]) hx hb dX8_appendFour_42 hl (k := 2) rfl (by rw [e_x2_7]; rfl) (by decide) rfl (fun ls hl => ?_)
          have h := nm_at e_x2_7 h
          refine lv_goto (tgt := 3) hx hb dX8_appendFour_45 (by decide) ?_
          exact ih_3 x2_7 ((upd t.1 t.2.1.toNatClampNeg (vp_nar .byte a_4)), f_6, t.2.2.1, t.2.2.2.1, t.2.2.2.2.1, t.2.2.2.2.2.1, t.2.2.2.2.2.2) ls H _ (lv_sub hl [1, 2, 0] rfl) hP hD hS h
  refine lv_bipush (v := 24) hx hb dX8_appendFour_0 (by decide) ?_
  refine lv_istore_n (lv' := [(2, .int 24), (0, .ref q_t), (1, .int x1)]) hx hb dX8_appendFour_2 rfl hl (by decide) rfl (fun ls hl => ?_)
  exact hL_3 FUEL 24 t ls s.heap _ (lv_sub hl [1, 2, 0] rfl) hP hD hS h
