theorem mv_X7_isBuiltFor : sw_MV yX7_isBuiltFor RX7 cX7_isBuiltFor 2 (Option.some Jvm.ClassFile.FieldType.boolean) 1 := ⟨im_X7_isBuiltFor, se_X7_isBuiltFor, ini_X7, co_X7_isBuiltFor, by decide +kernel⟩
def F_X7_isBuiltFor (t : SieveT) (a0 : PlanT) : Option (Bool) :=
 (F_X3_version a0).bind (fun w_1 => (if t.2.2.2.2.2 = w_1 then some true else some false))
abbrev RM_X7_isBuiltFor : Room := ({ frames := 1, cells := 0, slots := 0, locals := 20 } : Room)
set_option maxHeartbeats 4000000 in
set_option maxRecDepth 100000 in
theorem c_X7_isBuiltFor (l : Launch) (G : va_G) (ca Z : Nat → Nat) (q_t : Nat) (q_a0 : Nat) (z_t_owners : Value) (z_t_counts : Value) (z_a0_rooms : Value) (z_a0_ds : Value) (sz : Nat) (t : SieveT) (a0 : PlanT) (res : Bool) (hF : F_X7_isBuiltFor t a0 = some res) : Met l yX7_isBuiltFor (.code yX7_isBuiltFor cX7_isBuiltFor 2 (Option.some Jvm.ClassFile.FieldType.boolean) :: sw_U) RM_X7_isBuiltFor (va_Pc [.ref q_t, .ref q_a0] (sw_Pre G ca Z [(q_t, .inr (5, [z_t_owners, z_t_counts, .int t.2.2.1, .int t.2.2.2.1, .int t.2.2.2.2.1, .int t.2.2.2.2.2])), (q_a0, .inr (1, [.int a0.1, .int a0.2.1, z_a0_rooms, .int a0.2.2.2.1, .int a0.2.2.2.2.1, z_a0_ds, .int a0.2.2.2.2.2.2]))] sz)) ((fun A => va_Qi (fun r (u : Unit) => bI res = r) (sw_Post G A (fun (u : Unit) => [(q_t, .inr (5, [z_t_owners, z_t_counts, .int t.2.2.1, .int t.2.2.2.1, .int t.2.2.2.2.1, .int t.2.2.2.2.2])), (q_a0, .inr (1, [.int a0.1, .int a0.2.1, z_a0_rooms, .int a0.2.2.2.1, .int a0.2.2.2.2.1, z_a0_ds, .int a0.2.2.2.2.2.2]))])) A) (va_A [(q_t, .inr (5, [z_t_owners, z_t_counts, .int t.2.2.1, .int t.2.2.2.1, .int t.2.2.2.2.1, .int t.2.2.2.2.2])), (q_a0, .inr (1, [.int a0.1, .int a0.2.1, z_a0_rooms, .int a0.2.2.2.1, .int a0.2.2.2.2.1, z_a0_ds, .int a0.2.2.2.2.2.2]))] sz)) 0 0 (va_A [(q_t, .inr (5, [z_t_owners, z_t_counts, .int t.2.2.1, .int t.2.2.2.1, .int t.2.2.2.2.1, .int t.2.2.2.2.2])), (q_a0, .inr (1, [.int a0.1, .int a0.2.1, z_a0_rooms, .int a0.2.2.2.1, .int a0.2.2.2.2.1, z_a0_ds, .int a0.2.2.2.2.2.2]))] sz) := by
  refine sw_ofW (Qc := fun A => va_Qi (fun r (u : Unit) => bI res = r) (sw_Post G A (fun (u : Unit) => [(q_t, .inr (5, [z_t_owners, z_t_counts, .int t.2.2.1, .int t.2.2.2.1, .int t.2.2.2.2.1, .int t.2.2.2.2.2])), (q_a0, .inr (1, [.int a0.1, .int a0.2.1, z_a0_rooms, .int a0.2.2.2.1, .int a0.2.2.2.2.1, z_a0_ds, .int a0.2.2.2.2.2.2]))])) A) (by decide) [(0, .ref q_t), (1, .ref q_a0)] rfl (Nat.le_of_ble_eq_true rfl) ?_
  intro p e s m args below meth c ls A hx hb hr hml hown htU hlocks hnm hP hK hD hX hY hS hA hl
  have hown : s.vm.findClass RX7 = some m.cls := hown
  have Cx : sw_Cx p s m args c cX7_isBuiltFor 2 RX7 G ca Z A := ⟨⟨hx, hb, hml, hown, htU⟩, hK, hX, hY, hA⟩
  have h := hF
  unfold F_X7_isBuiltFor at h
  refine lv_aload_n hx hb dX7_isBuiltFor_0 rfl (lv_at hl 0 rfl) ?_
  refine va_get (v := .int t.2.2.2.2.2) hx hb htU iU_X7 hown hK hP 0 rfl rfl 5 (by decide) (htU _ fl_X7_28) (fun _ h9 => h9) rfl dX7_isBuiltFor_1 ?_
  refine lv_aload_n hx hb dX7_isBuiltFor_4 rfl (lv_at hl 1 rfl) ?_
  obtain ⟨w_1, hg_2, h⟩ := bd_at h
  refine sw_ci (sw_runV (As := []) (rest := [.int t.2.2.2.2.2]) Cx hP hD hS mv_X3_version ml_X7_31 (c_X3_version l G ca Z q_a0 (z_a0_rooms) (z_a0_ds) s.heap.size a0 w_1 hg_2) 1 rfl rfl rfl [1] rfl rfl rfl rfl ⟨(Nat.le_of_ble_eq_true rfl), (Nat.le_of_ble_eq_true rfl)⟩ hl.1 rfl rfl (Nat.le_of_ble_eq_true rfl) dX7_isBuiltFor_5 ⟨(Nat.le_of_ble_eq_true rfl), (Nat.le_of_ble_eq_true rfl)⟩) hP hD hS hA [1] [0] [0, 1] rfl rfl rfl (by decide) (fun _ => rfl) rfl (fun r u H locs hw hP hD hS => ?_)
  subst hw
  have hP : va_P G vwCl [(q_t, .inr (5, [z_t_owners, z_t_counts, .int t.2.2.1, .int t.2.2.2.1, .int t.2.2.2.2.1, .int t.2.2.2.2.2])), (q_a0, .inr (1, [.int a0.1, .int a0.2.1, z_a0_rooms, .int a0.2.2.2.1, .int a0.2.2.2.2.1, z_a0_ds, .int a0.2.2.2.2.2.2]))] H := hP
  have hD : va_D A [(q_t, .inr (5, [z_t_owners, z_t_counts, .int t.2.2.1, .int t.2.2.2.1, .int t.2.2.2.2.1, .int t.2.2.2.2.2])), (q_a0, .inr (1, [.int a0.1, .int a0.2.1, z_a0_rooms, .int a0.2.2.2.1, .int a0.2.2.2.2.1, z_a0_ds, .int a0.2.2.2.2.2.2]))] := hD
  refine lv_icmp_ne (tgt := 15) hx hb dX7_isBuiltFor_8 (by decide) (fun c_3 => ?_) (fun c_3 => ?_)
  · have h := if_f c_3 h
    refine lv_iconst (v := 0) hx hb dX7_isBuiltFor_15 (by decide) ?_
    exact sw_rz hx hb hr rfl hlocks hS () (pb1 h) hP hD dX7_isBuiltFor_16
  · have h := if_t c_3 h
    refine lv_iconst (v := 1) hx hb dX7_isBuiltFor_11 (by decide) ?_
    refine lv_goto (tgt := 16) hx hb dX7_isBuiltFor_12 (by decide) ?_
    exact sw_rz hx hb hr rfl hlocks hS () (pb1 h) hP hD dX7_isBuiltFor_16
theorem mv_X7_strikeOut : sw_MV yX7_strikeOut RX7 cX7_strikeOut 5 (Option.none : Option Jvm.ClassFile.FieldType) 3 := ⟨im_X7_strikeOut, se_X7_strikeOut, ini_X7, co_X7_strikeOut, by decide +kernel⟩
def B_X7_strikeOut_14 (x1 : Int32) (x2 : Int32) (x3 : Int32) (k_14 : Int32 → SieveT → Option (SieveT)) (x4 : Int32) (t : SieveT) : Option (SieveT) :=
 (if t.2.2.1 < x4 then some t else ix x4 4802 ((if (t.1 x4.toNatClampNeg) = 0 then ix x4 4802 (nm ((x4 + x2)) (fun x4_8 => k_14 x4_8 ((upd t.1 x4.toNatClampNeg x3), t.2.1, t.2.2.1, t.2.2.2.1, t.2.2.2.2.1, t.2.2.2.2.2))) else nm ((x4 + x2)) (fun x4_6 => k_14 x4_6 t))))
def F_X7_strikeOut (x1 : Int32) (x2 : Int32) (x3 : Int32) (t : SieveT) : Option (SieveT) :=
 (if x1 < 2 then some t else (if 2 ≤ x2 then fx (fun _ _ => none) (B_X7_strikeOut_14 x1 x2 x3) FUEL x1 t else some t))
abbrev RM_X7_strikeOut : Room := ({ frames := 0, cells := 0, slots := 0, locals := 0 } : Room)
set_option maxHeartbeats 4000000 in
set_option maxRecDepth 100000 in
theorem c_X7_strikeOut (l : Launch) (G : va_G) (ca Z : Nat → Nat) (q_t : Nat) (q_t_owners : Nat) (z_t_counts : Value) (sz : Nat) (x1 : Int32) (x2 : Int32) (x3 : Int32) (t : SieveT) (res : SieveT) (hF : F_X7_strikeOut x1 x2 x3 t = some res) : Met l yX7_strikeOut (.code yX7_strikeOut cX7_strikeOut 5 (Option.none : Option Jvm.ClassFile.FieldType) :: sw_U) RM_X7_strikeOut (va_Pc [.ref q_t, .int x1, .int x2, .int x3] (sw_Pre G ca Z [(q_t, .inr (5, [.ref q_t_owners, z_t_counts, .int t.2.2.1, .int t.2.2.2.1, .int t.2.2.2.2.1, .int t.2.2.2.2.2])), (q_t_owners, .inl (ca 0, 4802, .inl t.1))] sz)) ((fun A => va_Qv (fun (u : SieveT) => res = u) (sw_Post G A (fun (u : SieveT) => [(q_t, .inr (5, [.ref q_t_owners, z_t_counts, .int u.2.2.1, .int u.2.2.2.1, .int u.2.2.2.2.1, .int u.2.2.2.2.2])), (q_t_owners, .inl (ca 0, 4802, .inl u.1))])) A) (va_A [(q_t, .inr (5, [.ref q_t_owners, z_t_counts, .int t.2.2.1, .int t.2.2.2.1, .int t.2.2.2.2.1, .int t.2.2.2.2.2])), (q_t_owners, .inl (ca 0, 4802, .inl t.1))] sz)) 0 0 (va_A [(q_t, .inr (5, [.ref q_t_owners, z_t_counts, .int t.2.2.1, .int t.2.2.2.1, .int t.2.2.2.2.1, .int t.2.2.2.2.2])), (q_t_owners, .inl (ca 0, 4802, .inl t.1))] sz) := by
  refine sw_ofW (Qc := fun A => va_Qv (fun (u : SieveT) => res = u) (sw_Post G A (fun (u : SieveT) => [(q_t, .inr (5, [.ref q_t_owners, z_t_counts, .int u.2.2.1, .int u.2.2.2.1, .int u.2.2.2.2.1, .int u.2.2.2.2.2])), (q_t_owners, .inl (ca 0, 4802, .inl u.1))])) A) (by decide) [(0, .ref q_t), (1, .int x1), (2, .int x2), (3, .int x3)] rfl (Nat.le_of_ble_eq_true rfl) ?_
  intro p e s m args below meth c ls A hx hb hr hml hown htU hlocks hnm hP hK hD hX hY hS hA hl
  have hown : s.vm.findClass RX7 = some m.cls := hown
  have Cx : sw_Cx p s m args c cX7_strikeOut 5 RX7 G ca Z A := ⟨⟨hx, hb, hml, hown, htU⟩, hK, hX, hY, hA⟩
  have h := hF
  unfold F_X7_strikeOut at h
  have hL_14 : ∀ (n_14 : Nat) (x4 : Int32) (t : SieveT) (ls : Array Slot) (H : Heap) (locs : List Loc), lv_has ls 5 [(0, .ref q_t), (2, .int x2), (3, .int x3), (4, .int x4)] → va_P G vwCl [(q_t, .inr (5, [.ref q_t_owners, z_t_counts, .int t.2.2.1, .int t.2.2.2.1, .int t.2.2.2.2.1, .int t.2.2.2.2.2])), (q_t_owners, .inl (ca 0, 4802, .inl t.1))] H → va_D A [(q_t, .inr (5, [.ref q_t_owners, z_t_counts, .int t.2.2.1, .int t.2.2.2.1, .int t.2.2.2.2.1, .int t.2.2.2.2.2])), (q_t_owners, .inl (ca 0, 4802, .inl t.1))] → va_S A s.heap H locs → fx (fun _ _ => none) (B_X7_strikeOut_14 x1 x2 x3) n_14 x4 t = some res → W p l e RM_X7_strikeOut s m args below meth c H locs 0 0 (MQ below ((fun A => va_Qv (fun (u : SieveT) => res = u) (sw_Post G A (fun (u : SieveT) => [(q_t, .inr (5, [.ref q_t_owners, z_t_counts, .int u.2.2.1, .int u.2.2.2.1, .int u.2.2.2.2.1, .int u.2.2.2.2.2])), (q_t_owners, .inl (ca 0, 4802, .inl u.1))])) A) A) args s 0 0 A) (F0 m 14 ls []) := by
    intro n_14
    induction n_14 with
    | zero => intro x4 t ls H locs hl hP hD hS h; exact no_at h
    | succ n_14 ih_14 =>
      intro x4 t ls H locs hl hP hD hS h
      rw [fx_s] at h
      unfold B_X7_strikeOut_14 at h
      refine lv_iload hx hb dX7_strikeOut_14 (lv_at hl 3 rfl) ?_
      refine lv_aload_n hx hb dX7_strikeOut_16 rfl (lv_at hl 0 rfl) ?_
      refine va_get (v := .int t.2.2.1) hx hb htU iU_X7 hown hK hP 0 rfl rfl 2 (by decide) (htU _ fl_X7_18) (fun _ h9 => h9) rfl dX7_strikeOut_17 ?_
      refine lv_icmp_gt (tgt := 50) hx hb dX7_strikeOut_20 (by decide) (fun c_3 => ?_) (fun c_3 => ?_)
      · have h := if_t c_3 h
        exact sw_rv hx hb hr hlocks hS t (pr1 h) hP hD dX7_strikeOut_50
      · have h := if_f c_3 h
        refine lv_aload_n hx hb dX7_strikeOut_23 rfl (lv_at hl 0 rfl) ?_
        refine va_get (v := .ref q_t_owners) hx hb htU iU_X7 hown hK hP 0 rfl rfl 0 (by decide) (htU _ fl_X7_9) (fun _ h9 => h9) rfl dX7_strikeOut_24 ?_
        refine lv_iload hx hb dX7_strikeOut_27 (lv_at hl 3 rfl) ?_
        obtain ⟨hi_4, h⟩ := ix_at h
        refine va_iald hx hb hK hP 1 0 rfl rfl hi_4 dX7_strikeOut_29 ?_
        refine lv_if_ne (tgt := 41) hx hb dX7_strikeOut_30 (by decide) (fun c_5 => ?_) (fun c_5 => ?_)
        · have h := if_f c_5 h
          refine lv_iload hx hb dX7_strikeOut_41 (lv_at hl 3 rfl) ?_
          refine lv_iload_n hx hb dX7_strikeOut_43 rfl (lv_at hl 1 rfl) ?_
          refine lv_iadd hx hb dX7_strikeOut_44 ?_
          refine lv_topi (fun x4_6 e_x4_6 => ?_)
          have h := nm_at e_x4_6 h
          refine lv_istore (lv' := [(4, .int x4_6), (0, .ref q_t), (2, .int x2), (3, .int x3)]) hx hb dX7_strikeOut_45 hl (by decide) rfl (fun ls hl => ?_)
          refine lv_goto (tgt := 14) hx hb dX7_strikeOut_47 (by decide) ?_
          exact ih_14 x4_6 t ls H _ (lv_sub hl [1, 2, 3, 0] rfl) hP hD hS h
        · have h := if_t c_5 h
          refine lv_aload_n hx hb dX7_strikeOut_33 rfl (lv_at hl 0 rfl) ?_
          refine va_get (v := .ref q_t_owners) hx hb htU iU_X7 hown hK hP 0 rfl rfl 0 (by decide) (htU _ fl_X7_9) (fun _ h9 => h9) rfl dX7_strikeOut_34 ?_
          refine lv_iload hx hb dX7_strikeOut_37 (lv_at hl 3 rfl) ?_
          refine lv_iload_n hx hb dX7_strikeOut_39 rfl (lv_at hl 2 rfl) ?_
          obtain ⟨hi_7, h⟩ := ix_at h
          refine va_iast hx hb hK hP hD hS 1 0 rfl rfl hi_7 dX7_strikeOut_40 (fun H locs hP hD hS => ?_)
          have hP : va_P G vwCl [(q_t, .inr (5, [.ref q_t_owners, z_t_counts, .int t.2.2.1, .int t.2.2.2.1, .int t.2.2.2.2.1, .int t.2.2.2.2.2])), (q_t_owners, .inl (ca 0, 4802, .inl (upd t.1 x4.toNatClampNeg x3)))] H := hP
          have hD : va_D A [(q_t, .inr (5, [.ref q_t_owners, z_t_counts, .int t.2.2.1, .int t.2.2.2.1, .int t.2.2.2.2.1, .int t.2.2.2.2.2])), (q_t_owners, .inl (ca 0, 4802, .inl (upd t.1 x4.toNatClampNeg x3)))] := hD
          refine lv_iload hx hb dX7_strikeOut_41 (lv_at hl 3 rfl) ?_
          refine lv_iload_n hx hb dX7_strikeOut_43 rfl (lv_at hl 1 rfl) ?_
          refine lv_iadd hx hb dX7_strikeOut_44 ?_
          refine lv_topi (fun x4_8 e_x4_8 => ?_)
          have h := nm_at e_x4_8 h
          refine lv_istore (lv' := [(4, .int x4_8), (0, .ref q_t), (2, .int x2), (3, .int x3)]) hx hb dX7_strikeOut_45 hl (by decide) rfl (fun ls hl => ?_)
          refine lv_goto (tgt := 14) hx hb dX7_strikeOut_47 (by decide) ?_
          exact ih_14 x4_8 ((upd t.1 x4.toNatClampNeg x3), t.2.1, t.2.2.1, t.2.2.2.1, t.2.2.2.2.1, t.2.2.2.2.2) ls H _ (lv_sub hl [1, 2, 3, 0] rfl) hP hD hS h
  refine lv_iload_n hx hb dX7_strikeOut_0 rfl (lv_at hl 1 rfl) ?_
  refine lv_iconst (v := 2) hx hb dX7_strikeOut_1 (by decide) ?_
  refine lv_icmp_lt (tgt := 10) hx hb dX7_strikeOut_2 (by decide) (fun c_1 => ?_) (fun c_1 => ?_)
  · have h := if_t c_1 h
    exact sw_rv hx hb hr hlocks hS t (pr1 h) hP hD dX7_strikeOut_10
  · have h := if_f c_1 h
    refine lv_iload_n hx hb dX7_strikeOut_5 rfl (lv_at hl 2 rfl) ?_
    refine lv_iconst (v := 2) hx hb dX7_strikeOut_6 (by decide) ?_
    refine lv_icmp_ge (tgt := 11) hx hb dX7_strikeOut_7 (by decide) (fun c_2 => ?_) (fun c_2 => ?_)
    · have h := if_t c_2 h
      refine lv_iload_n hx hb dX7_strikeOut_11 rfl (lv_at hl 1 rfl) ?_
      refine lv_istore (lv' := [(4, .int x1), (0, .ref q_t), (1, .int x1), (2, .int x2), (3, .int x3)]) hx hb dX7_strikeOut_12 hl (by decide) rfl (fun ls hl => ?_)
      exact hL_14 FUEL x1 t ls s.heap _ (lv_sub hl [1, 3, 4, 0] rfl) hP hD hS h
    · have h := if_f c_2 h
      exact sw_rv hx hb hr hlocks hS t (pr1 h) hP hD dX7_strikeOut_10
theorem mv_X7_countAll : sw_MV yX7_countAll RX7 cX7_countAll 2 (Option.none : Option Jvm.ClassFile.FieldType) 0 := ⟨im_X7_countAll, se_X7_countAll, ini_X7, co_X7_countAll, by decide +kernel⟩
def B_X7_countAll_12 (k_12 : Int32 → SieveT → Option (SieveT)) (x1 : Int32) (t : SieveT) : Option (SieveT) :=
 (if t.2.2.1 < x1 then some t else ix x1 4802 ((if (t.1 x1.toNatClampNeg) = 0 then nm ((t.2.2.2.1 + 1)) (fun f_11 => ix x1 4802 ((if (t.1 x1.toNatClampNeg) = (-1) then ix x1 4802 (nm (x1 + 1) (fun x1_15 => k_12 x1_15 (t.1, (upd t.2.1 x1.toNatClampNeg f_11), t.2.2.1, f_11, t.2.2.2.2.1, t.2.2.2.2.2))) else nm ((t.2.2.2.2.1 + 1)) (fun f_16 => ix x1 4802 (nm (x1 + 1) (fun x1_18 => k_12 x1_18 (t.1, (upd t.2.1 x1.toNatClampNeg f_11), t.2.2.1, f_11, f_16, t.2.2.2.2.2))))))) else ix x1 4802 ((if (t.1 x1.toNatClampNeg) = (-1) then ix x1 4802 (nm (x1 + 1) (fun x1_7 => k_12 x1_7 (t.1, (upd t.2.1 x1.toNatClampNeg t.2.2.2.1), t.2.2.1, t.2.2.2.1, t.2.2.2.2.1, t.2.2.2.2.2))) else nm ((t.2.2.2.2.1 + 1)) (fun f_8 => ix x1 4802 (nm (x1 + 1) (fun x1_10 => k_12 x1_10 (t.1, (upd t.2.1 x1.toNatClampNeg t.2.2.2.1), t.2.2.1, t.2.2.2.1, f_8, t.2.2.2.2.2)))))))))
def F_X7_countAll (t : SieveT) : Option (SieveT) :=
 fx (fun _ _ => none) (B_X7_countAll_12) FUEL 2 (t.1, t.2.1, t.2.2.1, 0, 0, t.2.2.2.2.2)
abbrev RM_X7_countAll : Room := ({ frames := 0, cells := 0, slots := 0, locals := 0 } : Room)
set_option maxHeartbeats 4000000 in
set_option maxRecDepth 100000 in
theorem c_X7_countAll (l : Launch) (G : va_G) (ca Z : Nat → Nat) (q_t : Nat) (q_t_counts : Nat) (q_t_owners : Nat) (sz : Nat) (t : SieveT) (res : SieveT) (hF : F_X7_countAll t = some res) : Met l yX7_countAll (.code yX7_countAll cX7_countAll 2 (Option.none : Option Jvm.ClassFile.FieldType) :: sw_U) RM_X7_countAll (va_Pc [.ref q_t] (sw_Pre G ca Z [(q_t, .inr (5, [.ref q_t_owners, .ref q_t_counts, .int t.2.2.1, .int t.2.2.2.1, .int t.2.2.2.2.1, .int t.2.2.2.2.2])), (q_t_counts, .inl (ca 0, 4802, .inl t.2.1)), (q_t_owners, .inl (ca 0, 4802, .inl t.1))] sz)) ((fun A => va_Qv (fun (u : SieveT) => res = u) (sw_Post G A (fun (u : SieveT) => [(q_t, .inr (5, [.ref q_t_owners, .ref q_t_counts, .int u.2.2.1, .int u.2.2.2.1, .int u.2.2.2.2.1, .int u.2.2.2.2.2])), (q_t_counts, .inl (ca 0, 4802, .inl u.2.1)), (q_t_owners, .inl (ca 0, 4802, .inl u.1))])) A) (va_A [(q_t, .inr (5, [.ref q_t_owners, .ref q_t_counts, .int t.2.2.1, .int t.2.2.2.1, .int t.2.2.2.2.1, .int t.2.2.2.2.2])), (q_t_counts, .inl (ca 0, 4802, .inl t.2.1)), (q_t_owners, .inl (ca 0, 4802, .inl t.1))] sz)) 0 0 (va_A [(q_t, .inr (5, [.ref q_t_owners, .ref q_t_counts, .int t.2.2.1, .int t.2.2.2.1, .int t.2.2.2.2.1, .int t.2.2.2.2.2])), (q_t_counts, .inl (ca 0, 4802, .inl t.2.1)), (q_t_owners, .inl (ca 0, 4802, .inl t.1))] sz) := by
  refine sw_ofW (Qc := fun A => va_Qv (fun (u : SieveT) => res = u) (sw_Post G A (fun (u : SieveT) => [(q_t, .inr (5, [.ref q_t_owners, .ref q_t_counts, .int u.2.2.1, .int u.2.2.2.1, .int u.2.2.2.2.1, .int u.2.2.2.2.2])), (q_t_counts, .inl (ca 0, 4802, .inl u.2.1)), (q_t_owners, .inl (ca 0, 4802, .inl u.1))])) A) (by decide) [(0, .ref q_t)] rfl (Nat.le_of_ble_eq_true rfl) ?_
  intro p e s m args below meth c ls A hx hb hr hml hown htU hlocks hnm hP hK hD hX hY hS hA hl
  have hown : s.vm.findClass RX7 = some m.cls := hown
  have Cx : sw_Cx p s m args c cX7_countAll 2 RX7 G ca Z A := ⟨⟨hx, hb, hml, hown, htU⟩, hK, hX, hY, hA⟩
  have h := hF
  unfold F_X7_countAll at h
  have hL_12 : ∀ (n_12 : Nat) (x1 : Int32) (t : SieveT) (ls : Array Slot) (H : Heap) (locs : List Loc), lv_has ls 2 [(0, .ref q_t), (1, .int x1)] → va_P G vwCl [(q_t, .inr (5, [.ref q_t_owners, .ref q_t_counts, .int t.2.2.1, .int t.2.2.2.1, .int t.2.2.2.2.1, .int t.2.2.2.2.2])), (q_t_counts, .inl (ca 0, 4802, .inl t.2.1)), (q_t_owners, .inl (ca 0, 4802, .inl t.1))] H → va_D A [(q_t, .inr (5, [.ref q_t_owners, .ref q_t_counts, .int t.2.2.1, .int t.2.2.2.1, .int t.2.2.2.2.1, .int t.2.2.2.2.2])), (q_t_counts, .inl (ca 0, 4802, .inl t.2.1)), (q_t_owners, .inl (ca 0, 4802, .inl t.1))] → va_S A s.heap H locs → fx (fun _ _ => none) (B_X7_countAll_12) n_12 x1 t = some res → W p l e RM_X7_countAll s m args below meth c H locs 0 0 (MQ below ((fun A => va_Qv (fun (u : SieveT) => res = u) (sw_Post G A (fun (u : SieveT) => [(q_t, .inr (5, [.ref q_t_owners, .ref q_t_counts, .int u.2.2.1, .int u.2.2.2.1, .int u.2.2.2.2.1, .int u.2.2.2.2.2])), (q_t_counts, .inl (ca 0, 4802, .inl u.2.1)), (q_t_owners, .inl (ca 0, 4802, .inl u.1))])) A) A) args s 0 0 A) (F0 m 12 ls []) := by
    intro n_12
    induction n_12 with
    | zero => intro x1 t ls H locs hl hP hD hS h; exact no_at h
    | succ n_12 ih_12 =>
      intro x1 t ls H locs hl hP hD hS h
      rw [fx_s] at h
      unfold B_X7_countAll_12 at h
      refine lv_iload_n hx hb dX7_countAll_12 rfl (lv_at hl 1 rfl) ?_
      refine lv_aload_n hx hb dX7_countAll_13 rfl (lv_at hl 0 rfl) ?_
      refine va_get (v := .int t.2.2.1) hx hb htU iU_X7 hown hK hP 0 rfl rfl 2 (by decide) (htU _ fl_X7_18) (fun _ h9 => h9) rfl dX7_countAll_14 ?_
      refine lv_icmp_gt (tgt := 75) hx hb dX7_countAll_17 (by decide) (fun c_1 => ?_) (fun c_1 => ?_)
      · have h := if_t c_1 h
        exact sw_rv hx hb hr hlocks hS t (pr1 h) hP hD dX7_countAll_75
      · have h := if_f c_1 h
        refine lv_aload_n hx hb dX7_countAll_20 rfl (lv_at hl 0 rfl) ?_
        refine va_get (v := .ref q_t_owners) hx hb htU iU_X7 hown hK hP 0 rfl rfl 0 (by decide) (htU _ fl_X7_9) (fun _ h9 => h9) rfl dX7_countAll_21 ?_
        refine lv_iload_n hx hb dX7_countAll_24 rfl (lv_at hl 1 rfl) ?_
        obtain ⟨hi_2, h⟩ := ix_at h
        refine va_iald hx hb hK hP 2 0 rfl rfl hi_2 dX7_countAll_25 ?_
        refine lv_if_ne (tgt := 39) hx hb dX7_countAll_26 (by decide) (fun c_3 => ?_) (fun c_3 => ?_)
        · have h := if_f c_3 h
          refine lv_aload_n hx hb dX7_countAll_39 rfl (lv_at hl 0 rfl) ?_
          refine va_get (v := .ref q_t_owners) hx hb htU iU_X7 hown hK hP 0 rfl rfl 0 (by decide) (htU _ fl_X7_9) (fun _ h9 => h9) rfl dX7_countAll_40 ?_
          refine lv_iload_n hx hb dX7_countAll_43 rfl (lv_at hl 1 rfl) ?_
          obtain ⟨hi_4, h⟩ := ix_at h
          refine va_iald hx hb hK hP 2 0 rfl rfl hi_4 dX7_countAll_44 ?_
          refine lv_iconst (v := (-1)) hx hb dX7_countAll_45 (by decide) ?_
          refine lv_icmp_eq (tgt := 59) hx hb dX7_countAll_46 (by decide) (fun c_5 => ?_) (fun c_5 => ?_)
          · have h := if_t c_5 h
            refine lv_aload_n hx hb dX7_countAll_59 rfl (lv_at hl 0 rfl) ?_
            refine va_get (v := .ref q_t_counts) hx hb htU iU_X7 hown hK hP 0 rfl rfl 1 (by decide) (htU _ fl_X7_15) (fun _ h9 => h9) rfl dX7_countAll_60 ?_
            refine lv_iload_n hx hb dX7_countAll_63 rfl (lv_at hl 1 rfl) ?_
            refine lv_aload_n hx hb dX7_countAll_64 rfl (lv_at hl 0 rfl) ?_
            refine va_get (v := .int t.2.2.2.1) hx hb htU iU_X7 hown hK hP 0 rfl rfl 3 (by decide) (htU _ fl_X7_22) (fun _ h9 => h9) rfl dX7_countAll_65 ?_
            obtain ⟨hi_6, h⟩ := ix_at h
            refine va_iast hx hb hK hP hD hS 1 0 rfl rfl hi_6 dX7_countAll_68 (fun H locs hP hD hS => ?_)
            have hP : va_P G vwCl [(q_t, .inr (5, [.ref q_t_owners, .ref q_t_counts, .int t.2.2.1, .int t.2.2.2.1, .int t.2.2.2.2.1, .int t.2.2.2.2.2])), (q_t_counts, .inl (ca 0, 4802, .inl (upd t.2.1 x1.toNatClampNeg t.2.2.2.1))), (q_t_owners, .inl (ca 0, 4802, .inl t.1))] H := hP
            have hD : va_D A [(q_t, .inr (5, [.ref q_t_owners, .ref q_t_counts, .int t.2.2.1, .int t.2.2.2.1, .int t.2.2.2.2.1, .int t.2.2.2.2.2])), (q_t_counts, .inl (ca 0, 4802, .inl (upd t.2.1 x1.toNatClampNeg t.2.2.2.1))), (q_t_owners, .inl (ca 0, 4802, .inl t.1))] := hD
            obtain ⟨x1_7, e_x1_7⟩ : ∃ y : Int32, y = x1 + 1 := ⟨_, rfl⟩
            refine lv_iinc (v := x1_7) (lv' := [(1, .int x1_7), (0, .ref q_t)]) hx hb dX7_countAll_69 hl (k := 1) rfl (by rw [e_x1_7]; rfl) (by decide) rfl (fun ls hl => ?_)
            have h := nm_at e_x1_7 h
            refine lv_goto (tgt := 12) hx hb dX7_countAll_72 (by decide) ?_
            exact ih_12 x1_7 (t.1, (upd t.2.1 x1.toNatClampNeg t.2.2.2.1), t.2.2.1, t.2.2.2.1, t.2.2.2.2.1, t.2.2.2.2.2) ls H _ (lv_sub hl [1, 0] rfl) hP hD hS h
          · have h := if_f c_5 h
            refine lv_aload_n hx hb dX7_countAll_49 rfl (lv_at hl 0 rfl) ?_
            refine lv_dup hx hb dX7_countAll_50 rfl ?_
            refine va_get (v := .int t.2.2.2.2.1) hx hb htU iU_X7 hown hK hP 0 rfl rfl 4 (by decide) (htU _ fl_X7_25) (fun _ h9 => h9) rfl dX7_countAll_51 ?_
            refine lv_iconst (v := 1) hx hb dX7_countAll_54 (by decide) ?_
            refine lv_iadd hx hb dX7_countAll_55 ?_
            refine lv_topi (fun f_8 e_f_8 => ?_)
            have h := nm_at e_f_8 h
            refine va_put (v := .int f_8) (ty := .int) hx hb htU iU_X7 tyX7 tyX7_ok nmX7 hown hK hP hD hS 0 rfl rfl 4 (by decide) (htU _ fl_X7_25) (fun _ h9 => h9) rfl (by decide +kernel) rfl rfl (Nat.le_of_ble_eq_true rfl) dX7_countAll_56 (fun H locs hP hD hS => ?_)
            have hP : va_P G vwCl [(q_t, .inr (5, [.ref q_t_owners, .ref q_t_counts, .int t.2.2.1, .int t.2.2.2.1, .int f_8, .int t.2.2.2.2.2])), (q_t_counts, .inl (ca 0, 4802, .inl t.2.1)), (q_t_owners, .inl (ca 0, 4802, .inl t.1))] H := hP
            have hD : va_D A [(q_t, .inr (5, [.ref q_t_owners, .ref q_t_counts, .int t.2.2.1, .int t.2.2.2.1, .int f_8, .int t.2.2.2.2.2])), (q_t_counts, .inl (ca 0, 4802, .inl t.2.1)), (q_t_owners, .inl (ca 0, 4802, .inl t.1))] := hD
            refine lv_aload_n hx hb dX7_countAll_59 rfl (lv_at hl 0 rfl) ?_
            refine va_get (v := .ref q_t_counts) hx hb htU iU_X7 hown hK hP 0 rfl rfl 1 (by decide) (htU _ fl_X7_15) (fun _ h9 => h9) rfl dX7_countAll_60 ?_
            refine lv_iload_n hx hb dX7_countAll_63 rfl (lv_at hl 1 rfl) ?_
            refine lv_aload_n hx hb dX7_countAll_64 rfl (lv_at hl 0 rfl) ?_
            refine va_get (v := .int t.2.2.2.1) hx hb htU iU_X7 hown hK hP 0 rfl rfl 3 (by decide) (htU _ fl_X7_22) (fun _ h9 => h9) rfl dX7_countAll_65 ?_
            obtain ⟨hi_9, h⟩ := ix_at h
            refine va_iast hx hb hK hP hD hS 1 0 rfl rfl hi_9 dX7_countAll_68 (fun H locs hP hD hS => ?_)
            have hP : va_P G vwCl [(q_t, .inr (5, [.ref q_t_owners, .ref q_t_counts, .int t.2.2.1, .int t.2.2.2.1, .int f_8, .int t.2.2.2.2.2])), (q_t_counts, .inl (ca 0, 4802, .inl (upd t.2.1 x1.toNatClampNeg t.2.2.2.1))), (q_t_owners, .inl (ca 0, 4802, .inl t.1))] H := hP
            have hD : va_D A [(q_t, .inr (5, [.ref q_t_owners, .ref q_t_counts, .int t.2.2.1, .int t.2.2.2.1, .int f_8, .int t.2.2.2.2.2])), (q_t_counts, .inl (ca 0, 4802, .inl (upd t.2.1 x1.toNatClampNeg t.2.2.2.1))), (q_t_owners, .inl (ca 0, 4802, .inl t.1))] := hD
            obtain ⟨x1_10, e_x1_10⟩ : ∃ y : Int32, y = x1 + 1 := ⟨_, rfl⟩
            refine lv_iinc (v := x1_10) (lv' := [(1, .int x1_10), (0, .ref q_t)]) hx hb dX7_countAll_69 hl (k := 1) rfl (by rw [e_x1_10]; rfl) (by decide) rfl (fun ls hl => ?_)
            have h := nm_at e_x1_10 h
            refine lv_goto (tgt := 12) hx hb dX7_countAll_72 (by decide) ?_
            exact ih_12 x1_10 (t.1, (upd t.2.1 x1.toNatClampNeg t.2.2.2.1), t.2.2.1, t.2.2.2.1, f_8, t.2.2.2.2.2) ls H _ (lv_sub hl [1, 0] rfl) hP hD hS h
        · have h := if_t c_3 h
          refine lv_aload_n hx hb dX7_countAll_29 rfl (lv_at hl 0 rfl) ?_
          refine lv_dup hx hb dX7_countAll_30 rfl ?_
          refine va_get (v := .int t.2.2.2.1) hx hb htU iU_X7 hown hK hP 0 rfl rfl 3 (by decide) (htU _ fl_X7_22) (fun _ h9 => h9) rfl dX7_countAll_31 ?_
          refine lv_iconst (v := 1) hx hb dX7_countAll_34 (by decide) ?_
          refine lv_iadd hx hb dX7_countAll_35 ?_
          refine lv_topi (fun f_11 e_f_11 => ?_)
          have h := nm_at e_f_11 h
          refine va_put (v := .int f_11) (ty := .int) hx hb htU iU_X7 tyX7 tyX7_ok nmX7 hown hK hP hD hS 0 rfl rfl 3 (by decide) (htU _ fl_X7_22) (fun _ h9 => h9) rfl (by decide +kernel) rfl rfl (Nat.le_of_ble_eq_true rfl) dX7_countAll_36 (fun H locs hP hD hS => ?_)
          have hP : va_P G vwCl [(q_t, .inr (5, [.ref q_t_owners, .ref q_t_counts, .int t.2.2.1, .int f_11, .int t.2.2.2.2.1, .int t.2.2.2.2.2])), (q_t_counts, .inl (ca 0, 4802, .inl t.2.1)), (q_t_owners, .inl (ca 0, 4802, .inl t.1))] H := hP
          have hD : va_D A [(q_t, .inr (5, [.ref q_t_owners, .ref q_t_counts, .int t.2.2.1, .int f_11, .int t.2.2.2.2.1, .int t.2.2.2.2.2])), (q_t_counts, .inl (ca 0, 4802, .inl t.2.1)), (q_t_owners, .inl (ca 0, 4802, .inl t.1))] := hD
          refine lv_aload_n hx hb dX7_countAll_39 rfl (lv_at hl 0 rfl) ?_
          refine va_get (v := .ref q_t_owners) hx hb htU iU_X7 hown hK hP 0 rfl rfl 0 (by decide) (htU _ fl_X7_9) (fun _ h9 => h9) rfl dX7_countAll_40 ?_
          refine lv_iload_n hx hb dX7_countAll_43 rfl (lv_at hl 1 rfl) ?_
          obtain ⟨hi_12, h⟩ := ix_at h
          refine va_iald hx hb hK hP 2 0 rfl rfl hi_12 dX7_countAll_44 ?_
          refine lv_iconst (v := (-1)) hx hb dX7_countAll_45 (by decide) ?_
          refine lv_icmp_eq (tgt := 59) hx hb dX7_countAll_46 (by decide) (fun c_13 => ?_) (fun c_13 => ?_)
          · have h := if_t c_13 h
            refine lv_aload_n hx hb dX7_countAll_59 rfl (lv_at hl 0 rfl) ?_
            refine va_get (v := .ref q_t_counts) hx hb htU iU_X7 hown hK hP 0 rfl rfl 1 (by decide) (htU _ fl_X7_15) (fun _ h9 => h9) rfl dX7_countAll_60 ?_
            refine lv_iload_n hx hb dX7_countAll_63 rfl (lv_at hl 1 rfl) ?_
            refine lv_aload_n hx hb dX7_countAll_64 rfl (lv_at hl 0 rfl) ?_
            refine va_get (v := .int f_11) hx hb htU iU_X7 hown hK hP 0 rfl rfl 3 (by decide) (htU _ fl_X7_22) (fun _ h9 => h9) rfl dX7_countAll_65 ?_
            obtain ⟨hi_14, h⟩ := ix_at h
            refine va_iast hx hb hK hP hD hS 1 0 rfl rfl hi_14 dX7_countAll_68 (fun H locs hP hD hS => ?_)
            have hP : va_P G vwCl [(q_t, .inr (5, [.ref q_t_owners, .ref q_t_counts, .int t.2.2.1, .int f_11, .int t.2.2.2.2.1, .int t.2.2.2.2.2])), (q_t_counts, .inl (ca 0, 4802, .inl (upd t.2.1 x1.toNatClampNeg f_11))), (q_t_owners, .inl (ca 0, 4802, .inl t.1))] H := hP
            have hD : va_D A [(q_t, .inr (5, [.ref q_t_owners, .ref q_t_counts, .int t.2.2.1, .int f_11, .int t.2.2.2.2.1, .int t.2.2.2.2.2])), (q_t_counts, .inl (ca 0, 4802, .inl (upd t.2.1 x1.toNatClampNeg f_11))), (q_t_owners, .inl (ca 0, 4802, .inl t.1))] := hD
            obtain ⟨x1_15, e_x1_15⟩ : ∃ y : Int32, y = x1 + 1 := ⟨_, rfl⟩
            refine lv_iinc (v := x1_15) (lv' := [(1, .int x1_15), (0, .ref q_t)]) hx hb dX7_countAll_69 hl (k := 1) rfl (by rw [e_x1_15]; rfl) (by decide) rfl (fun ls hl => ?_)
            have h := nm_at e_x1_15 h
            refine lv_goto (tgt := 12) hx hb dX7_countAll_72 (by decide) ?_
            exact ih_12 x1_15 (t.1, (upd t.2.1 x1.toNatClampNeg f_11), t.2.2.1, f_11, t.2.2.2.2.1, t.2.2.2.2.2) ls H _ (lv_sub hl [1, 0] rfl) hP hD hS h
          · have h := if_f c_13 h
            refine lv_aload_n hx hb dX7_countAll_49 rfl (lv_at hl 0 rfl) ?_
            refine lv_dup hx hb dX7_countAll_50 rfl ?_
            refine va_get (v := .int t.2.2.2.2.1) hx hb htU iU_X7 hown hK hP 0 rfl rfl 4 (by decide) (htU _ fl_X7_25) (fun _ h9 => h9) rfl dX7_countAll_51 ?_
            refine lv_iconst (v := 1) hx hb dX7_countAll_54 (by decide) ?_
            refine lv_iadd hx hb dX7_countAll_55 ?_
            refine lv_topi (fun f_16 e_f_16 => ?_)
            have h := nm_at e_f_16 h
            refine va_put (v := .int f_16) (ty := .int) hx hb htU iU_X7 tyX7 tyX7_ok nmX7 hown hK hP hD hS 0 rfl rfl 4 (by decide) (htU _ fl_X7_25) (fun _ h9 => h9) rfl (by decide +kernel) rfl rfl (Nat.le_of_ble_eq_true rfl) dX7_countAll_56 (fun H locs hP hD hS => ?_)
            have hP : va_P G vwCl [(q_t, .inr (5, [.ref q_t_owners, .ref q_t_counts, .int t.2.2.1, .int f_11, .int f_16, .int t.2.2.2.2.2])), (q_t_counts, .inl (ca 0, 4802, .inl t.2.1)), (q_t_owners, .inl (ca 0, 4802, .inl t.1))] H := hP
            have hD : va_D A [(q_t, .inr (5, [.ref q_t_owners, .ref q_t_counts, .int t.2.2.1, .int f_11, .int f_16, .int t.2.2.2.2.2])), (q_t_counts, .inl (ca 0, 4802, .inl t.2.1)), (q_t_owners, .inl (ca 0, 4802, .inl t.1))] := hD
            refine lv_aload_n hx hb dX7_countAll_59 rfl (lv_at hl 0 rfl) ?_
            refine va_get (v := .ref q_t_counts) hx hb htU iU_X7 hown hK hP 0 rfl rfl 1 (by decide) (htU _ fl_X7_15) (fun _ h9 => h9) rfl dX7_countAll_60 ?_
            refine lv_iload_n hx hb dX7_countAll_63 rfl (lv_at hl 1 rfl) ?_
            refine lv_aload_n hx hb dX7_countAll_64 rfl (lv_at hl 0 rfl) ?_
            refine va_get (v := .int f_11) hx hb htU iU_X7 hown hK hP 0 rfl rfl 3 (by decide) (htU _ fl_X7_22) (fun _ h9 => h9) rfl dX7_countAll_65 ?_
            obtain ⟨hi_17, h⟩ := ix_at h
            refine va_iast hx hb hK hP hD hS 1 0 rfl rfl hi_17 dX7_countAll_68 (fun H locs hP hD hS => ?_)
            have hP : va_P G vwCl [(q_t, .inr (5, [.ref q_t_owners, .ref q_t_counts, .int t.2.2.1, .int f_11, .int f_16, .int t.2.2.2.2.2])), (q_t_counts, .inl (ca 0, 4802, .inl (upd t.2.1 x1.toNatClampNeg f_11))), (q_t_owners, .inl (ca 0, 4802, .inl t.1))] H := hP
            have hD : va_D A [(q_t, .inr (5, [.ref q_t_owners, .ref q_t_counts, .int t.2.2.1, .int f_11, .int f_16, .int t.2.2.2.2.2])), (q_t_counts, .inl (ca 0, 4802, .inl (upd t.2.1 x1.toNatClampNeg f_11))), (q_t_owners, .inl (ca 0, 4802, .inl t.1))] := hD
            obtain ⟨x1_18, e_x1_18⟩ : ∃ y : Int32, y = x1 + 1 := ⟨_, rfl⟩
            refine lv_iinc (v := x1_18) (lv' := [(1, .int x1_18), (0, .ref q_t)]) hx hb dX7_countAll_69 hl (k := 1) rfl (by rw [e_x1_18]; rfl) (by decide) rfl (fun ls hl => ?_)
            have h := nm_at e_x1_18 h
            refine lv_goto (tgt := 12) hx hb dX7_countAll_72 (by decide) ?_
            exact ih_12 x1_18 (t.1, (upd t.2.1 x1.toNatClampNeg f_11), t.2.2.1, f_11, f_16, t.2.2.2.2.2) ls H _ (lv_sub hl [1, 0] rfl) hP hD hS h
  refine lv_aload_n hx hb dX7_countAll_0 rfl (lv_at hl 0 rfl) ?_
  refine lv_iconst (v := 0) hx hb dX7_countAll_1 (by decide) ?_
  refine va_put (v := .int 0) (ty := .int) hx hb htU iU_X7 tyX7 tyX7_ok nmX7 hown hK hP hD hS 0 rfl rfl 3 (by decide) (htU _ fl_X7_22) (fun _ h9 => h9) rfl (by decide +kernel) rfl rfl (Nat.le_of_ble_eq_true rfl) dX7_countAll_2 (fun H locs hP hD hS => ?_)
  have hP : va_P G vwCl [(q_t, .inr (5, [.ref q_t_owners, .ref q_t_counts, .int t.2.2.1, .int 0, .int t.2.2.2.2.1, .int t.2.2.2.2.2])), (q_t_counts, .inl (ca 0, 4802, .inl t.2.1)), (q_t_owners, .inl (ca 0, 4802, .inl t.1))] H := hP
  have hD : va_D A [(q_t, .inr (5, [.ref q_t_owners, .ref q_t_counts, .int t.2.2.1, .int 0, .int t.2.2.2.2.1, .int t.2.2.2.2.2])), (q_t_counts, .inl (ca 0, 4802, .inl t.2.1)), (q_t_owners, .inl (ca 0, 4802, .inl t.1))] := hD
  refine lv_aload_n hx hb dX7_countAll_5 rfl (lv_at hl 0 rfl) ?_
  refine lv_iconst (v := 0) hx hb dX7_countAll_6 (by decide) ?_
  refine va_put (v := .int 0) (ty := .int) hx hb htU iU_X7 tyX7 tyX7_ok nmX7 hown hK hP hD hS 0 rfl rfl 4 (by decide) (htU _ fl_X7_25) (fun _ h9 => h9) rfl (by decide +kernel) rfl rfl (Nat.le_of_ble_eq_true rfl) dX7_countAll_7 (fun H locs hP hD hS => ?_)
  have hP : va_P G vwCl [(q_t, .inr (5, [.ref q_t_owners, .ref q_t_counts, .int t.2.2.1, .int 0, .int 0, .int t.2.2.2.2.2])), (q_t_counts, .inl (ca 0, 4802, .inl t.2.1)), (q_t_owners, .inl (ca 0, 4802, .inl t.1))] H := hP
  have hD : va_D A [(q_t, .inr (5, [.ref q_t_owners, .ref q_t_counts, .int t.2.2.1, .int 0, .int 0, .int t.2.2.2.2.2])), (q_t_counts, .inl (ca 0, 4802, .inl t.2.1)), (q_t_owners, .inl (ca 0, 4802, .inl t.1))] := hD
  refine lv_iconst (v := 2) hx hb dX7_countAll_10 (by decide) ?_
  refine lv_istore_n (lv' := [(1, .int 2), (0, .ref q_t)]) hx hb dX7_countAll_11 rfl hl (by decide) rfl (fun ls hl => ?_)
  exact hL_12 FUEL 2 (t.1, t.2.1, t.2.2.1, 0, 0, t.2.2.2.2.2) ls H _ (lv_sub hl [1, 0] rfl) hP hD hS h
theorem mv_X7_build : sw_MV yX7_build RX7 cX7_build 4 (Option.none : Option Jvm.ClassFile.FieldType) 1 := ⟨im_X7_build, se_X7_build, ini_X7, co_X7_build, by decide +kernel⟩
def B_X7_build_69 (a0 : PlanT) (k_69 : Int32 → SieveT → Option (SieveT)) (x2 : Int32) (t : SieveT) : Option (SieveT) :=
 (F_X3_strikerCount a0).bind (fun w_8 => (if w_8 ≤ x2 then (F_X7_countAll t).bind (fun w_11 => (F_X3_version a0).bind (fun w_13 => some (w_11.1, w_11.2.1, w_11.2.2.1, w_11.2.2.2.1, w_11.2.2.2.2.1, w_13))) else (F_X3_dOf x2 a0).bind (fun w_15 => (F_X7_strikeOut (w_15 * w_15) w_15 w_15 t).bind (fun w_17 => nm (x2 + 1) (fun x2_19 => k_69 x2_19 (w_17.1, t.2.1, w_17.2.2.1, w_17.2.2.2.1, w_17.2.2.2.2.1, w_17.2.2.2.2.2))))))
def B_X7_build_39 (a0 : PlanT) (k_39 : Int32 → SieveT → Option (SieveT)) (x2 : Int32) (t : SieveT) : Option (SieveT) :=
 (F_X3_wheelNow a0).bind (fun w_5 => (if w_5 ≤ x2 then fx (fun _ _ => none) (B_X7_build_69 a0) FUEL 0 t else (F_X9_primeAt x2).bind (fun w_20 => (F_X7_strikeOut (2 * w_20) w_20 (-1) t).bind (fun w_22 => nm (x2 + 1) (fun x2_24 => k_39 x2_24 (w_22.1, t.2.1, w_22.2.2.1, w_22.2.2.2.1, w_22.2.2.2.2.1, w_22.2.2.2.2.2))))))
def B_X7_build_16 (a0 : PlanT) (k_16 : Int32 → SieveT → Option (SieveT)) (x2 : Int32) (t : SieveT) : Option (SieveT) :=
 (if t.2.2.1 < x2 then fx (fun _ _ => none) (B_X7_build_39 a0) FUEL 0 t else ix x2 4802 (nm (x2 + 1) (fun x2_26 => k_16 x2_26 ((upd t.1 x2.toNatClampNeg 0), t.2.1, t.2.2.1, t.2.2.2.1, t.2.2.2.2.1, t.2.2.2.2.2))))
def F_X7_build (t : SieveT) (a0 : PlanT) : Option (SieveT) :=
 (F_X3_lastNumber a0).bind (fun w_1 => nm ((if 4801 < w_1 then 4801 else w_1)) (fun f_3 => fx (fun _ _ => none) (B_X7_build_16 a0) FUEL 2 (t.1, t.2.1, f_3, t.2.2.2.1, t.2.2.2.2.1, t.2.2.2.2.2)))
abbrev RM_X7_build : Room := ({ frames := 1, cells := 0, slots := 0, locals := 24 } : Room)
set_option maxHeartbeats 4000000 in
set_option maxRecDepth 100000 in
theorem c_X7_build (l : Launch) (G : va_G) (ca Z : Nat → Nat) (q_t : Nat) (q_t_counts : Nat) (q_t_owners : Nat) (q_a0 : Nat) (q_a0_ds : Nat) (z_a0_rooms : Value) (sz : Nat) (t : SieveT) (a0 : PlanT) (res : SieveT) (hF : F_X7_build t a0 = some res) : Met l yX7_build (.code yX7_build cX7_build 4 (Option.none : Option Jvm.ClassFile.FieldType) :: sw_U) RM_X7_build (va_Pc [.ref q_t, .ref q_a0] (sw_Pre G ca Z [(q_t, .inr (5, [.ref q_t_owners, .ref q_t_counts, .int t.2.2.1, .int t.2.2.2.1, .int t.2.2.2.2.1, .int t.2.2.2.2.2])), (q_t_counts, .inl (ca 0, 4802, .inl t.2.1)), (q_t_owners, .inl (ca 0, 4802, .inl t.1)), (q_a0, .inr (1, [.int a0.1, .int a0.2.1, z_a0_rooms, .int a0.2.2.2.1, .int a0.2.2.2.2.1, .ref q_a0_ds, .int a0.2.2.2.2.2.2])), (q_a0_ds, .inl (ca 0, 30, .inl a0.2.2.2.2.2.1))] sz)) ((fun A => va_Qv (fun (u : SieveT) => res = u) (sw_Post G A (fun (u : SieveT) => [(q_t, .inr (5, [.ref q_t_owners, .ref q_t_counts, .int u.2.2.1, .int u.2.2.2.1, .int u.2.2.2.2.1, .int u.2.2.2.2.2])), (q_t_counts, .inl (ca 0, 4802, .inl u.2.1)), (q_t_owners, .inl (ca 0, 4802, .inl u.1)), (q_a0, .inr (1, [.int a0.1, .int a0.2.1, z_a0_rooms, .int a0.2.2.2.1, .int a0.2.2.2.2.1, .ref q_a0_ds, .int a0.2.2.2.2.2.2])), (q_a0_ds, .inl (ca 0, 30, .inl a0.2.2.2.2.2.1))])) A) (va_A [(q_t, .inr (5, [.ref q_t_owners, .ref q_t_counts, .int t.2.2.1, .int t.2.2.2.1, .int t.2.2.2.2.1, .int t.2.2.2.2.2])), (q_t_counts, .inl (ca 0, 4802, .inl t.2.1)), (q_t_owners, .inl (ca 0, 4802, .inl t.1)), (q_a0, .inr (1, [.int a0.1, .int a0.2.1, z_a0_rooms, .int a0.2.2.2.1, .int a0.2.2.2.2.1, .ref q_a0_ds, .int a0.2.2.2.2.2.2])), (q_a0_ds, .inl (ca 0, 30, .inl a0.2.2.2.2.2.1))] sz)) 0 0 (va_A [(q_t, .inr (5, [.ref q_t_owners, .ref q_t_counts, .int t.2.2.1, .int t.2.2.2.1, .int t.2.2.2.2.1, .int t.2.2.2.2.2])), (q_t_counts, .inl (ca 0, 4802, .inl t.2.1)), (q_t_owners, .inl (ca 0, 4802, .inl t.1)), (q_a0, .inr (1, [.int a0.1, .int a0.2.1, z_a0_rooms, .int a0.2.2.2.1, .int a0.2.2.2.2.1, .ref q_a0_ds, .int a0.2.2.2.2.2.2])), (q_a0_ds, .inl (ca 0, 30, .inl a0.2.2.2.2.2.1))] sz) := by
  refine sw_ofW (Qc := fun A => va_Qv (fun (u : SieveT) => res = u) (sw_Post G A (fun (u : SieveT) => [(q_t, .inr (5, [.ref q_t_owners, .ref q_t_counts, .int u.2.2.1, .int u.2.2.2.1, .int u.2.2.2.2.1, .int u.2.2.2.2.2])), (q_t_counts, .inl (ca 0, 4802, .inl u.2.1)), (q_t_owners, .inl (ca 0, 4802, .inl u.1)), (q_a0, .inr (1, [.int a0.1, .int a0.2.1, z_a0_rooms, .int a0.2.2.2.1, .int a0.2.2.2.2.1, .ref q_a0_ds, .int a0.2.2.2.2.2.2])), (q_a0_ds, .inl (ca 0, 30, .inl a0.2.2.2.2.2.1))])) A) (by decide) [(0, .ref q_t), (1, .ref q_a0)] rfl (Nat.le_of_ble_eq_true rfl) ?_
  intro p e s m args below meth c ls A hx hb hr hml hown htU hlocks hnm hP hK hD hX hY hS hA hl
  have hown : s.vm.findClass RX7 = some m.cls := hown
  have Cx : sw_Cx p s m args c cX7_build 4 RX7 G ca Z A := ⟨⟨hx, hb, hml, hown, htU⟩, hK, hX, hY, hA⟩
  have h := hF
  unfold F_X7_build at h
  have hL_69 : ∀ (n_69 : Nat) (x2 : Int32) (t : SieveT) (ls : Array Slot) (H : Heap) (locs : List Loc), lv_has ls 4 [(0, .ref q_t), (1, .ref q_a0), (2, .int x2)] → va_P G vwCl [(q_t, .inr (5, [.ref q_t_owners, .ref q_t_counts, .int t.2.2.1, .int t.2.2.2.1, .int t.2.2.2.2.1, .int t.2.2.2.2.2])), (q_t_counts, .inl (ca 0, 4802, .inl t.2.1)), (q_t_owners, .inl (ca 0, 4802, .inl t.1)), (q_a0, .inr (1, [.int a0.1, .int a0.2.1, z_a0_rooms, .int a0.2.2.2.1, .int a0.2.2.2.2.1, .ref q_a0_ds, .int a0.2.2.2.2.2.2])), (q_a0_ds, .inl (ca 0, 30, .inl a0.2.2.2.2.2.1))] H → va_D A [(q_t, .inr (5, [.ref q_t_owners, .ref q_t_counts, .int t.2.2.1, .int t.2.2.2.1, .int t.2.2.2.2.1, .int t.2.2.2.2.2])), (q_t_counts, .inl (ca 0, 4802, .inl t.2.1)), (q_t_owners, .inl (ca 0, 4802, .inl t.1)), (q_a0, .inr (1, [.int a0.1, .int a0.2.1, z_a0_rooms, .int a0.2.2.2.1, .int a0.2.2.2.2.1, .ref q_a0_ds, .int a0.2.2.2.2.2.2])), (q_a0_ds, .inl (ca 0, 30, .inl a0.2.2.2.2.2.1))] → va_S A s.heap H locs → fx (fun _ _ => none) (B_X7_build_69 a0) n_69 x2 t = some res → W p l e RM_X7_build s m args below meth c H locs 0 0 (MQ below ((fun A => va_Qv (fun (u : SieveT) => res = u) (sw_Post G A (fun (u : SieveT) => [(q_t, .inr (5, [.ref q_t_owners, .ref q_t_counts, .int u.2.2.1, .int u.2.2.2.1, .int u.2.2.2.2.1, .int u.2.2.2.2.2])), (q_t_counts, .inl (ca 0, 4802, .inl u.2.1)), (q_t_owners, .inl (ca 0, 4802, .inl u.1)), (q_a0, .inr (1, [.int a0.1, .int a0.2.1, z_a0_rooms, .int a0.2.2.2.1, .int a0.2.2.2.2.1, .ref q_a0_ds, .int a0.2.2.2.2.2.2])), (q_a0_ds, .inl (ca 0, 30, .inl a0.2.2.2.2.2.1))])) A) A) args s 0 0 A) (F0 m 69 ls []) := by
    intro n_69
    induction n_69 with
    | zero => intro x2 t ls H locs hl hP hD hS h; exact no_at h
    | succ n_69 ih_69 =>
      intro x2 t ls H locs hl hP hD hS h
      rw [fx_s] at h
      unfold B_X7_build_69 at h
      refine lv_iload_n hx hb dX7_build_69 rfl (lv_at hl 2 rfl) ?_
      refine lv_aload_n hx hb dX7_build_70 rfl (lv_at hl 1 rfl) ?_
      obtain ⟨w_8, hg_9, h⟩ := bd_at h
      refine sw_ci (sw_runV (As := []) (rest := [.int x2]) Cx hP hD hS mv_X3_strikerCount ml_X7_59 (c_X3_strikerCount l G ca Z q_a0 (z_a0_rooms) (.ref q_a0_ds) H.size a0 w_8 hg_9) 1 rfl rfl rfl [3] rfl rfl rfl rfl ⟨(Nat.le_of_ble_eq_true rfl), (Nat.le_of_ble_eq_true rfl)⟩ hl.1 rfl rfl (Nat.le_of_ble_eq_true rfl) dX7_build_71 ⟨(Nat.le_of_ble_eq_true rfl), (Nat.le_of_ble_eq_true rfl)⟩) hP hD hS hA [3] [0, 1, 2, 4] [0, 1, 2, 4, 3] rfl rfl rfl (by decide) (fun _ => rfl) rfl (fun r u H locs hw hP hD hS => ?_)
      subst hw
      have hP : va_P G vwCl [(q_t, .inr (5, [.ref q_t_owners, .ref q_t_counts, .int t.2.2.1, .int t.2.2.2.1, .int t.2.2.2.2.1, .int t.2.2.2.2.2])), (q_t_counts, .inl (ca 0, 4802, .inl t.2.1)), (q_t_owners, .inl (ca 0, 4802, .inl t.1)), (q_a0, .inr (1, [.int a0.1, .int a0.2.1, z_a0_rooms, .int a0.2.2.2.1, .int a0.2.2.2.2.1, .ref q_a0_ds, .int a0.2.2.2.2.2.2])), (q_a0_ds, .inl (ca 0, 30, .inl a0.2.2.2.2.2.1))] H := hP
      have hD : va_D A [(q_t, .inr (5, [.ref q_t_owners, .ref q_t_counts, .int t.2.2.1, .int t.2.2.2.1, .int t.2.2.2.2.1, .int t.2.2.2.2.2])), (q_t_counts, .inl (ca 0, 4802, .inl t.2.1)), (q_t_owners, .inl (ca 0, 4802, .inl t.1)), (q_a0, .inr (1, [.int a0.1, .int a0.2.1, z_a0_rooms, .int a0.2.2.2.1, .int a0.2.2.2.2.1, .ref q_a0_ds, .int a0.2.2.2.2.2.2])), (q_a0_ds, .inl (ca 0, 30, .inl a0.2.2.2.2.2.1))] := hD
      refine lv_icmp_ge (tgt := 98) hx hb dX7_build_74 (by decide) (fun c_10 => ?_) (fun c_10 => ?_)
      · have h := if_t c_10 h
        refine lv_aload_n hx hb dX7_build_98 rfl (lv_at hl 0 rfl) ?_
        obtain ⟨w_11, hg_12, h⟩ := bd_at h
        refine sw_cv (sw_runV (As := []) (rest := []) Cx hP hD hS mv_X7_countAll ml_X7_65 (c_X7_countAll l G ca Z q_t q_t_counts q_t_owners H.size t w_11 hg_12) 5 rfl rfl rfl [0, 1, 2] rfl rfl rfl rfl ⟨(Nat.le_of_ble_eq_true rfl), (Nat.le_of_ble_eq_true rfl)⟩ hl.1 rfl rfl (Nat.le_of_ble_eq_true rfl) dX7_build_99 ⟨(Nat.le_of_ble_eq_true rfl), (Nat.le_of_ble_eq_true rfl)⟩) hP hD hS hA [0, 1, 2] [3, 4] [2, 3, 4, 0, 1] rfl rfl rfl (by decide) (fun _ => rfl) rfl (fun u H locs hw hP hD hS => ?_)
        subst hw
        have hP : va_P G vwCl [(q_t, .inr (5, [.ref q_t_owners, .ref q_t_counts, .int w_11.2.2.1, .int w_11.2.2.2.1, .int w_11.2.2.2.2.1, .int w_11.2.2.2.2.2])), (q_t_counts, .inl (ca 0, 4802, .inl w_11.2.1)), (q_t_owners, .inl (ca 0, 4802, .inl w_11.1)), (q_a0, .inr (1, [.int a0.1, .int a0.2.1, z_a0_rooms, .int a0.2.2.2.1, .int a0.2.2.2.2.1, .ref q_a0_ds, .int a0.2.2.2.2.2.2])), (q_a0_ds, .inl (ca 0, 30, .inl a0.2.2.2.2.2.1))] H := hP
        have hD : va_D A [(q_t, .inr (5, [.ref q_t_owners, .ref q_t_counts, .int w_11.2.2.1, .int w_11.2.2.2.1, .int w_11.2.2.2.2.1, .int w_11.2.2.2.2.2])), (q_t_counts, .inl (ca 0, 4802, .inl w_11.2.1)), (q_t_owners, .inl (ca 0, 4802, .inl w_11.1)), (q_a0, .inr (1, [.int a0.1, .int a0.2.1, z_a0_rooms, .int a0.2.2.2.1, .int a0.2.2.2.2.1, .ref q_a0_ds, .int a0.2.2.2.2.2.2])), (q_a0_ds, .inl (ca 0, 30, .inl a0.2.2.2.2.2.1))] := hD
        refine lv_aload_n hx hb dX7_build_102 rfl (lv_at hl 0 rfl) ?_
        refine lv_aload_n hx hb dX7_build_103 rfl (lv_at hl 1 rfl) ?_
        obtain ⟨w_13, hg_14, h⟩ := bd_at h
        refine sw_ci (sw_runV (As := []) (rest := [.ref q_t]) Cx hP hD hS mv_X3_version ml_X7_31 (c_X3_version l G ca Z q_a0 (z_a0_rooms) (.ref q_a0_ds) H.size a0 w_13 hg_14) 1 rfl rfl rfl [3] rfl rfl rfl rfl ⟨(Nat.le_of_ble_eq_true rfl), (Nat.le_of_ble_eq_true rfl)⟩ hl.1 rfl rfl (Nat.le_of_ble_eq_true rfl) dX7_build_104 ⟨(Nat.le_of_ble_eq_true rfl), (Nat.le_of_ble_eq_true rfl)⟩) hP hD hS hA [3] [0, 1, 2, 4] [0, 1, 2, 4, 3] rfl rfl rfl (by decide) (fun _ => rfl) rfl (fun r u H locs hw hP hD hS => ?_)
        subst hw
        have hP : va_P G vwCl [(q_t, .inr (5, [.ref q_t_owners, .ref q_t_counts, .int w_11.2.2.1, .int w_11.2.2.2.1, .int w_11.2.2.2.2.1, .int w_11.2.2.2.2.2])), (q_t_counts, .inl (ca 0, 4802, .inl w_11.2.1)), (q_t_owners, .inl (ca 0, 4802, .inl w_11.1)), (q_a0, .inr (1, [.int a0.1, .int a0.2.1, z_a0_rooms, .int a0.2.2.2.1, .int a0.2.2.2.2.1, .ref q_a0_ds, .int a0.2.2.2.2.2.2])), (q_a0_ds, .inl (ca 0, 30, .inl a0.2.2.2.2.2.1))] H := hP
        have hD : va_D A [(q_t, .inr (5, [.ref q_t_owners, .ref q_t_counts, .int w_11.2.2.1, .int w_11.2.2.2.1, .int w_11.2.2.2.2.1, .int w_11.2.2.2.2.2])), (q_t_counts, .inl (ca 0, 4802, .inl w_11.2.1)), (q_t_owners, .inl (ca 0, 4802, .inl w_11.1)), (q_a0, .inr (1, [.int a0.1, .int a0.2.1, z_a0_rooms, .int a0.2.2.2.1, .int a0.2.2.2.2.1, .ref q_a0_ds, .int a0.2.2.2.2.2.2])), (q_a0_ds, .inl (ca 0, 30, .inl a0.2.2.2.2.2.1))] := hD
        refine va_put (v := .int w_13) (ty := .int) hx hb htU iU_X7 tyX7 tyX7_ok nmX7 hown hK hP hD hS 0 rfl rfl 5 (by decide) (htU _ fl_X7_28) (fun _ h9 => h9) rfl (by decide +kernel) rfl rfl (Nat.le_of_ble_eq_true rfl) dX7_build_107 (fun H locs hP hD hS => ?_)
        have hP : va_P G vwCl [(q_t, .inr (5, [.ref q_t_owners, .ref q_t_counts, .int w_11.2.2.1, .int w_11.2.2.2.1, .int w_11.2.2.2.2.1, .int w_13])), (q_t_counts, .inl (ca 0, 4802, .inl w_11.2.1)), (q_t_owners, .inl (ca 0, 4802, .inl w_11.1)), (q_a0, .inr (1, [.int a0.1, .int a0.2.1, z_a0_rooms, .int a0.2.2.2.1, .int a0.2.2.2.2.1, .ref q_a0_ds, .int a0.2.2.2.2.2.2])), (q_a0_ds, .inl (ca 0, 30, .inl a0.2.2.2.2.2.1))] H := hP
        have hD : va_D A [(q_t, .inr (5, [.ref q_t_owners, .ref q_t_counts, .int w_11.2.2.1, .int w_11.2.2.2.1, .int w_11.2.2.2.2.1, .int w_13])), (q_t_counts, .inl (ca 0, 4802, .inl w_11.2.1)), (q_t_owners, .inl (ca 0, 4802, .inl w_11.1)), (q_a0, .inr (1, [.int a0.1, .int a0.2.1, z_a0_rooms, .int a0.2.2.2.1, .int a0.2.2.2.2.1, .ref q_a0_ds, .int a0.2.2.2.2.2.2])), (q_a0_ds, .inl (ca 0, 30, .inl a0.2.2.2.2.2.1))] := hD
        exact sw_rv hx hb hr hlocks hS (w_11.1, w_11.2.1, w_11.2.2.1, w_11.2.2.2.1, w_11.2.2.2.2.1, w_13) (pr1 h) hP hD dX7_build_110
      · have h := if_f c_10 h
        refine lv_aload_n hx hb dX7_build_77 rfl (lv_at hl 1 rfl) ?_
        refine lv_iload_n hx hb dX7_build_78 rfl (lv_at hl 2 rfl) ?_
        obtain ⟨w_15, hg_16, h⟩ := bd_at h
        refine sw_ci (sw_runV (As := [.int x2]) (rest := []) Cx hP hD hS mv_X3_dOf ml_X7_62 (c_X3_dOf l G ca Z q_a0 q_a0_ds (z_a0_rooms) H.size x2 a0 w_15 hg_16) 1 rfl rfl rfl [3, 4] rfl rfl rfl rfl ⟨(Nat.le_of_ble_eq_true rfl), (Nat.le_of_ble_eq_true rfl)⟩ hl.1 rfl rfl (Nat.le_of_ble_eq_true rfl) dX7_build_79 ⟨(Nat.le_of_ble_eq_true rfl), (Nat.le_of_ble_eq_true rfl)⟩) hP hD hS hA [3, 4] [0, 1, 2] [0, 1, 2, 3, 4] rfl rfl rfl (by decide) (fun _ => rfl) rfl (fun r u H locs hw hP hD hS => ?_)
        subst hw
        have hP : va_P G vwCl [(q_t, .inr (5, [.ref q_t_owners, .ref q_t_counts, .int t.2.2.1, .int t.2.2.2.1, .int t.2.2.2.2.1, .int t.2.2.2.2.2])), (q_t_counts, .inl (ca 0, 4802, .inl t.2.1)), (q_t_owners, .inl (ca 0, 4802, .inl t.1)), (q_a0, .inr (1, [.int a0.1, .int a0.2.1, z_a0_rooms, .int a0.2.2.2.1, .int a0.2.2.2.2.1, .ref q_a0_ds, .int a0.2.2.2.2.2.2])), (q_a0_ds, .inl (ca 0, 30, .inl a0.2.2.2.2.2.1))] H := hP
        have hD : va_D A [(q_t, .inr (5, [.ref q_t_owners, .ref q_t_counts, .int t.2.2.1, .int t.2.2.2.1, .int t.2.2.2.2.1, .int t.2.2.2.2.2])), (q_t_counts, .inl (ca 0, 4802, .inl t.2.1)), (q_t_owners, .inl (ca 0, 4802, .inl t.1)), (q_a0, .inr (1, [.int a0.1, .int a0.2.1, z_a0_rooms, .int a0.2.2.2.1, .int a0.2.2.2.2.1, .ref q_a0_ds, .int a0.2.2.2.2.2.2])), (q_a0_ds, .inl (ca 0, 30, .inl a0.2.2.2.2.2.1))] := hD
        refine lv_istore_n (lv' := [(3, .int w_15), (0, .ref q_t), (1, .ref q_a0), (2, .int x2)]) hx hb dX7_build_82 rfl hl (by decide) rfl (fun ls hl => ?_)
        refine lv_aload_n hx hb dX7_build_83 rfl (lv_at hl 1 rfl) ?_
        refine lv_iload_n hx hb dX7_build_84 rfl (lv_at hl 0 rfl) ?_
        refine lv_iload_n hx hb dX7_build_85 rfl (lv_at hl 0 rfl) ?_
        refine lv_imul hx hb dX7_build_86 ?_
        refine lv_iload_n hx hb dX7_build_87 rfl (lv_at hl 0 rfl) ?_
        refine lv_iload_n hx hb dX7_build_88 rfl (lv_at hl 0 rfl) ?_
        obtain ⟨w_17, hg_18, h⟩ := bd_at h
        refine sw_cv (sw_runV (As := [.int (w_15 * w_15), .int w_15, .int w_15]) (rest := []) Cx hP hD hS mv_X7_strikeOut ml_X7_55 (c_X7_strikeOut l G ca Z q_t q_t_owners (.ref q_t_counts) H.size (w_15 * w_15) w_15 w_15 t w_17 hg_18) 5 rfl rfl rfl [0, 2] rfl rfl rfl rfl ⟨(Nat.le_of_ble_eq_true rfl), (Nat.le_of_ble_eq_true rfl)⟩ hl.1 rfl rfl (Nat.le_of_ble_eq_true rfl) dX7_build_89 ⟨(Nat.le_of_ble_eq_true rfl), (Nat.le_of_ble_eq_true rfl)⟩) hP hD hS hA [0, 2] [1, 3, 4] [3, 0, 4, 1, 2] rfl rfl rfl (by decide) (fun _ => rfl) rfl (fun u H locs hw hP hD hS => ?_)
        subst hw
        have hP : va_P G vwCl [(q_t, .inr (5, [.ref q_t_owners, .ref q_t_counts, .int w_17.2.2.1, .int w_17.2.2.2.1, .int w_17.2.2.2.2.1, .int w_17.2.2.2.2.2])), (q_t_counts, .inl (ca 0, 4802, .inl t.2.1)), (q_t_owners, .inl (ca 0, 4802, .inl w_17.1)), (q_a0, .inr (1, [.int a0.1, .int a0.2.1, z_a0_rooms, .int a0.2.2.2.1, .int a0.2.2.2.2.1, .ref q_a0_ds, .int a0.2.2.2.2.2.2])), (q_a0_ds, .inl (ca 0, 30, .inl a0.2.2.2.2.2.1))] H := hP
        have hD : va_D A [(q_t, .inr (5, [.ref q_t_owners, .ref q_t_counts, .int w_17.2.2.1, .int w_17.2.2.2.1, .int w_17.2.2.2.2.1, .int w_17.2.2.2.2.2])), (q_t_counts, .inl (ca 0, 4802, .inl t.2.1)), (q_t_owners, .inl (ca 0, 4802, .inl w_17.1)), (q_a0, .inr (1, [.int a0.1, .int a0.2.1, z_a0_rooms, .int a0.2.2.2.1, .int a0.2.2.2.2.1, .ref q_a0_ds, .int a0.2.2.2.2.2.2])), (q_a0_ds, .inl (ca 0, 30, .inl a0.2.2.2.2.2.1))] := hD
        obtain ⟨x2_19, e_x2_19⟩ : ∃ y : Int32, y = x2 + 1 := ⟨_, rfl⟩
        refine lv_iinc (v := x2_19) (lv' := [(2, .int x2_19), (3, .int w_15), (0, .ref q_t), (1, .ref q_a0)]) hx hb dX7_build_92 hl (k := 3) rfl (by rw [e_x2_19]; rfl) (by decide) rfl (fun ls hl => ?_)
        have h := nm_at e_x2_19 h
        refine lv_goto (tgt := 69) hx hb dX7_build_95 (by decide) ?_
        exact ih_69 x2_19 (w_17.1, t.2.1, w_17.2.2.1, w_17.2.2.2.1, w_17.2.2.2.2.1, w_17.2.2.2.2.2) ls H _ (lv_sub hl [2, 3, 0] rfl) hP hD hS h
  have hL_39 : ∀ (n_39 : Nat) (x2 : Int32) (t : SieveT) (ls : Array Slot) (H : Heap) (locs : List Loc), lv_has ls 4 [(0, .ref q_t), (1, .ref q_a0), (2, .int x2)] → va_P G vwCl [(q_t, .inr (5, [.ref q_t_owners, .ref q_t_counts, .int t.2.2.1, .int t.2.2.2.1, .int t.2.2.2.2.1, .int t.2.2.2.2.2])), (q_t_counts, .inl (ca 0, 4802, .inl t.2.1)), (q_t_owners, .inl (ca 0, 4802, .inl t.1)), (q_a0, .inr (1, [.int a0.1, .int a0.2.1, z_a0_rooms, .int a0.2.2.2.1, .int a0.2.2.2.2.1, .ref q_a0_ds, .int a0.2.2.2.2.2.2])), (q_a0_ds, .inl (ca 0, 30, .inl a0.2.2.2.2.2.1))] H → va_D A [(q_t, .inr (5, [.ref q_t_owners, .ref q_t_counts, .int t.2.2.1, .int t.2.2.2.1, .int t.2.2.2.2.1, .int t.2.2.2.2.2])), (q_t_counts, .inl (ca 0, 4802, .inl t.2.1)), (q_t_owners, .inl (ca 0, 4802, .inl t.1)), (q_a0, .inr (1, [.int a0.1, .int a0.2.1, z_a0_rooms, .int a0.2.2.2.1, .int a0.2.2.2.2.1, .ref q_a0_ds, .int a0.2.2.2.2.2.2])), (q_a0_ds, .inl (ca 0, 30, .inl a0.2.2.2.2.2.1))] → va_S A s.heap H locs → fx (fun _ _ => none) (B_X7_build_39 a0) n_39 x2 t = some res → W p l e RM_X7_build s m args below meth c H locs 0 0 (MQ below ((fun A => va_Qv (fun (u : SieveT) => res = u) (sw_Post G A (fun (u : SieveT) => [(q_t, .inr (5, [.ref q_t_owners, .ref q_t_counts, .int u.2.2.1, .int u.2.2.2.1, .int u.2.2.2.2.1, .int u.2.2.2.2.2])), (q_t_counts, .inl (ca 0, 4802, .inl u.2.1)), (q_t_owners, .inl (ca 0, 4802, .inl u.1)), (q_a0, .inr (1, [.int a0.1, .int a0.2.1, z_a0_rooms, .int a0.2.2.2.1, .int a0.2.2.2.2.1, .ref q_a0_ds, .int a0.2.2.2.2.2.2])), (q_a0_ds, .inl (ca 0, 30, .inl a0.2.2.2.2.2.1))])) A) A) args s 0 0 A) (F0 m 39 ls []) := by
    intro n_39
    induction n_39 with
    | zero => intro x2 t ls H locs hl hP hD hS h; exact no_at h
    | succ n_39 ih_39 =>
      intro x2 t ls H locs hl hP hD hS h
      rw [fx_s] at h
      unfold B_X7_build_39 at h
      refine lv_iload_n hx hb dX7_build_39 rfl (lv_at hl 2 rfl) ?_
      refine lv_aload_n hx hb dX7_build_40 rfl (lv_at hl 1 rfl) ?_
      obtain ⟨w_5, hg_6, h⟩ := bd_at h
      refine sw_ci (sw_runV (As := []) (rest := [.int x2]) Cx hP hD hS mv_X3_wheelNow ml_X7_46 (c_X3_wheelNow l G ca Z q_a0 (z_a0_rooms) (.ref q_a0_ds) H.size a0 w_5 hg_6) 1 rfl rfl rfl [3] rfl rfl rfl rfl ⟨(Nat.le_of_ble_eq_true rfl), (Nat.le_of_ble_eq_true rfl)⟩ hl.1 rfl rfl (Nat.le_of_ble_eq_true rfl) dX7_build_41 ⟨(Nat.le_of_ble_eq_true rfl), (Nat.le_of_ble_eq_true rfl)⟩) hP hD hS hA [3] [0, 1, 2, 4] [0, 1, 2, 4, 3] rfl rfl rfl (by decide) (fun _ => rfl) rfl (fun r u H locs hw hP hD hS => ?_)
      subst hw
      have hP : va_P G vwCl [(q_t, .inr (5, [.ref q_t_owners, .ref q_t_counts, .int t.2.2.1, .int t.2.2.2.1, .int t.2.2.2.2.1, .int t.2.2.2.2.2])), (q_t_counts, .inl (ca 0, 4802, .inl t.2.1)), (q_t_owners, .inl (ca 0, 4802, .inl t.1)), (q_a0, .inr (1, [.int a0.1, .int a0.2.1, z_a0_rooms, .int a0.2.2.2.1, .int a0.2.2.2.2.1, .ref q_a0_ds, .int a0.2.2.2.2.2.2])), (q_a0_ds, .inl (ca 0, 30, .inl a0.2.2.2.2.2.1))] H := hP
      have hD : va_D A [(q_t, .inr (5, [.ref q_t_owners, .ref q_t_counts, .int t.2.2.1, .int t.2.2.2.1, .int t.2.2.2.2.1, .int t.2.2.2.2.2])), (q_t_counts, .inl (ca 0, 4802, .inl t.2.1)), (q_t_owners, .inl (ca 0, 4802, .inl t.1)), (q_a0, .inr (1, [.int a0.1, .int a0.2.1, z_a0_rooms, .int a0.2.2.2.1, .int a0.2.2.2.2.1, .ref q_a0_ds, .int a0.2.2.2.2.2.2])), (q_a0_ds, .inl (ca 0, 30, .inl a0.2.2.2.2.2.1))] := hD
      refine lv_icmp_ge (tgt := 67) hx hb dX7_build_44 (by decide) (fun c_7 => ?_) (fun c_7 => ?_)
      · have h := if_t c_7 h
        refine lv_iconst (v := 0) hx hb dX7_build_67 (by decide) ?_
        refine lv_istore_n (lv' := [(2, .int 0), (0, .ref q_t), (1, .ref q_a0)]) hx hb dX7_build_68 rfl hl (by decide) rfl (fun ls hl => ?_)
        exact hL_69 FUEL 0 t ls H _ (lv_sub hl [1, 2, 0] rfl) hP hD hS h
      · have h := if_f c_7 h
        refine lv_iload_n hx hb dX7_build_47 rfl (lv_at hl 2 rfl) ?_
        obtain ⟨w_20, hg_21, h⟩ := bd_at h
        refine sw_ci (sw_runS (As := [.int x2]) (rest := []) Cx hP hD hS ms_X9_primeAt ml_X7_49 (c_X9_primeAt l G ca Z H.size x2 w_20 hg_21) [] rfl rfl rfl rfl ⟨(Nat.le_of_ble_eq_true rfl), (Nat.le_of_ble_eq_true rfl)⟩ hl.1 rfl rfl (Nat.le_of_ble_eq_true rfl) dX7_build_48 ⟨(Nat.le_of_ble_eq_true rfl), (Nat.le_of_ble_eq_true rfl)⟩) hP hD hS hA [] [0, 1, 2, 3, 4] [0, 1, 2, 3, 4] rfl rfl rfl (by decide) (fun _ => rfl) rfl (fun r u H locs hw hP hD hS => ?_)
        subst hw
        have hP : va_P G vwCl [(q_t, .inr (5, [.ref q_t_owners, .ref q_t_counts, .int t.2.2.1, .int t.2.2.2.1, .int t.2.2.2.2.1, .int t.2.2.2.2.2])), (q_t_counts, .inl (ca 0, 4802, .inl t.2.1)), (q_t_owners, .inl (ca 0, 4802, .inl t.1)), (q_a0, .inr (1, [.int a0.1, .int a0.2.1, z_a0_rooms, .int a0.2.2.2.1, .int a0.2.2.2.2.1, .ref q_a0_ds, .int a0.2.2.2.2.2.2])), (q_a0_ds, .inl (ca 0, 30, .inl a0.2.2.2.2.2.1))] H := hP
        have hD : va_D A [(q_t, .inr (5, [.ref q_t_owners, .ref q_t_counts, .int t.2.2.1, .int t.2.2.2.1, .int t.2.2.2.2.1, .int t.2.2.2.2.2])), (q_t_counts, .inl (ca 0, 4802, .inl t.2.1)), (q_t_owners, .inl (ca 0, 4802, .inl t.1)), (q_a0, .inr (1, [.int a0.1, .int a0.2.1, z_a0_rooms, .int a0.2.2.2.1, .int a0.2.2.2.2.1, .ref q_a0_ds, .int a0.2.2.2.2.2.2])), (q_a0_ds, .inl (ca 0, 30, .inl a0.2.2.2.2.2.1))] := hD
        refine lv_istore_n (lv' := [(3, .int w_20), (0, .ref q_t), (1, .ref q_a0), (2, .int x2)]) hx hb dX7_build_51 rfl hl (by decide) rfl (fun ls hl => ?_)
        refine lv_aload_n hx hb dX7_build_52 rfl (lv_at hl 1 rfl) ?_
        refine lv_iconst (v := 2) hx hb dX7_build_53 (by decide) ?_
        refine lv_iload_n hx hb dX7_build_54 rfl (lv_at hl 0 rfl) ?_
        refine lv_imul hx hb dX7_build_55 ?_
        refine lv_iload_n hx hb dX7_build_56 rfl (lv_at hl 0 rfl) ?_
        refine lv_iconst (v := (-1)) hx hb dX7_build_57 (by decide) ?_
        obtain ⟨w_22, hg_23, h⟩ := bd_at h
        refine sw_cv (sw_runV (As := [.int (2 * w_20), .int w_20, .int (-1)]) (rest := []) Cx hP hD hS mv_X7_strikeOut ml_X7_55 (c_X7_strikeOut l G ca Z q_t q_t_owners (.ref q_t_counts) H.size (2 * w_20) w_20 (-1) t w_22 hg_23) 5 rfl rfl rfl [0, 2] rfl rfl rfl rfl ⟨(Nat.le_of_ble_eq_true rfl), (Nat.le_of_ble_eq_true rfl)⟩ hl.1 rfl rfl (Nat.le_of_ble_eq_true rfl) dX7_build_58 ⟨(Nat.le_of_ble_eq_true rfl), (Nat.le_of_ble_eq_true rfl)⟩) hP hD hS hA [0, 2] [1, 3, 4] [3, 0, 4, 1, 2] rfl rfl rfl (by decide) (fun _ => rfl) rfl (fun u H locs hw hP hD hS => ?_)
        subst hw
        have hP : va_P G vwCl [(q_t, .inr (5, [.ref q_t_owners, .ref q_t_counts, .int w_22.2.2.1, .int w_22.2.2.2.1, .int w_22.2.2.2.2.1, .int w_22.2.2.2.2.2])), (q_t_counts, .inl (ca 0, 4802, .inl t.2.1)), (q_t_owners, .inl (ca 0, 4802, .inl w_22.1)), (q_a0, .inr (1, [.int a0.1, .int a0.2.1, z_a0_rooms, .int a0.2.2.2.1, .int a0.2.2.2.2.1, .ref q_a0_ds, .int a0.2.2.2.2.2.2])), (q_a0_ds, .inl (ca 0, 30, .inl a0.2.2.2.2.2.1))] H := hP
        have hD : va_D A [(q_t, .inr (5, [.ref q_t_owners, .ref q_t_counts, .int w_22.2.2.1, .int w_22.2.2.2.1, .int w_22.2.2.2.2.1, .int w_22.2.2.2.2.2])), (q_t_counts, .inl (ca 0, 4802, .inl t.2.1)), (q_t_owners, .inl (ca 0, 4802, .inl w_22.1)), (q_a0, .inr (1, [.int a0.1, .int a0.2.1, z_a0_rooms, .int a0.2.2.2.1, .int a0.2.2.2.2.1, .ref q_a0_ds, .int a0.2.2.2.2.2.2])), (q_a0_ds, .inl (ca 0, 30, .inl a0.2.2.2.2.2.1))] := hD
        obtain ⟨x2_24, e_x2_24⟩ : ∃ y : Int32, y = x2 + 1 := ⟨_, rfl⟩
        refine lv_iinc (v := x2_24) (lv' := [(2, .int x2_24), (3, .int w_20), (0, .ref q_t), (1, .ref q_a0)]) hx hb dX7_build_61 hl (k := 3) rfl (by rw [e_x2_24]; rfl) (by decide) rfl (fun ls hl => ?_)
        have h := nm_at e_x2_24 h
        refine lv_goto (tgt := 39) hx hb dX7_build_64 (by decide) ?_
        exact ih_39 x2_24 (w_22.1, t.2.1, w_22.2.2.1, w_22.2.2.2.1, w_22.2.2.2.2.1, w_22.2.2.2.2.2) ls H _ (lv_sub hl [2, 3, 0] rfl) hP hD hS h
  have hL_16 : ∀ (n_16 : Nat) (x2 : Int32) (t : SieveT) (ls : Array Slot) (H : Heap) (locs : List Loc), lv_has ls 4 [(0, .ref q_t), (1, .ref q_a0), (2, .int x2)] → va_P G vwCl [(q_t, .inr (5, [.ref q_t_owners, .ref q_t_counts, .int t.2.2.1, .int t.2.2.2.1, .int t.2.2.2.2.1, .int t.2.2.2.2.2])), (q_t_counts, .inl (ca 0, 4802, .inl t.2.1)), (q_t_owners, .inl (ca 0, 4802, .inl t.1)), (q_a0, .inr (1, [.int a0.1, .int a0.2.1, z_a0_rooms, .int a0.2.2.2.1, .int a0.2.2.2.2.1, .ref q_a0_ds, .int a0.2.2.2.2.2.2])), (q_a0_ds, .inl (ca 0, 30, .inl a0.2.2.2.2.2.1))] H → va_D A [(q_t, .inr (5, [.ref q_t_owners, .ref q_t_counts, .int t.2.2.1, .int t.2.2.2.1, .int t.2.2.2.2.1, .int t.2.2.2.2.2])), (q_t_counts, .inl (ca 0, 4802, .inl t.2.1)), (q_t_owners, .inl (ca 0, 4802, .inl t.1)), (q_a0, .inr (1, [.int a0.1, .int a0.2.1, z_a0_rooms, .int a0.2.2.2.1, .int a0.2.2.2.2.1, .ref q_a0_ds, .int a0.2.2.2.2.2.2])), (q_a0_ds, .inl (ca 0, 30, .inl a0.2.2.2.2.2.1))] → va_S A s.heap H locs → fx (fun _ _ => none) (B_X7_build_16 a0) n_16 x2 t = some res → W p l e RM_X7_build s m args below meth c H locs 0 0 (MQ below ((fun A => va_Qv (fun (u : SieveT) => res = u) (sw_Post G A (fun (u : SieveT) => [(q_t, .inr (5, [.ref q_t_owners, .ref q_t_counts, .int u.2.2.1, .int u.2.2.2.1, .int u.2.2.2.2.1, .int u.2.2.2.2.2])), (q_t_counts, .inl (ca 0, 4802, .inl u.2.1)), (q_t_owners, .inl (ca 0, 4802, .inl u.1)), (q_a0, .inr (1, [.int a0.1, .int a0.2.1, z_a0_rooms, .int a0.2.2.2.1, .int a0.2.2.2.2.1, .ref q_a0_ds, .int a0.2.2.2.2.2.2])), (q_a0_ds, .inl (ca 0, 30, .inl a0.2.2.2.2.2.1))])) A) A) args s 0 0 A) (F0 m 16 ls []) := by
    intro n_16
    induction n_16 with
    | zero => intro x2 t ls H locs hl hP hD hS h; exact no_at h
    | succ n_16 ih_16 =>
      intro x2 t ls H locs hl hP hD hS h
      rw [fx_s] at h
      unfold B_X7_build_16 at h
      refine lv_iload_n hx hb dX7_build_16 rfl (lv_at hl 2 rfl) ?_
      refine lv_aload_n hx hb dX7_build_17 rfl (lv_at hl 0 rfl) ?_
      refine va_get (v := .int t.2.2.1) hx hb htU iU_X7 hown hK hP 0 rfl rfl 2 (by decide) (htU _ fl_X7_18) (fun _ h9 => h9) rfl dX7_build_18 ?_
      refine lv_icmp_gt (tgt := 37) hx hb dX7_build_21 (by decide) (fun c_4 => ?_) (fun c_4 => ?_)
      · have h := if_t c_4 h
        refine lv_iconst (v := 0) hx hb dX7_build_37 (by decide) ?_
        refine lv_istore_n (lv' := [(2, .int 0), (0, .ref q_t), (1, .ref q_a0)]) hx hb dX7_build_38 rfl hl (by decide) rfl (fun ls hl => ?_)
        exact hL_39 FUEL 0 t ls H _ (lv_sub hl [1, 2, 0] rfl) hP hD hS h
      · have h := if_f c_4 h
        refine lv_aload_n hx hb dX7_build_24 rfl (lv_at hl 0 rfl) ?_
        refine va_get (v := .ref q_t_owners) hx hb htU iU_X7 hown hK hP 0 rfl rfl 0 (by decide) (htU _ fl_X7_9) (fun _ h9 => h9) rfl dX7_build_25 ?_
        refine lv_iload_n hx hb dX7_build_28 rfl (lv_at hl 2 rfl) ?_
        refine lv_iconst (v := 0) hx hb dX7_build_29 (by decide) ?_
        obtain ⟨hi_25, h⟩ := ix_at h
        refine va_iast hx hb hK hP hD hS 2 0 rfl rfl hi_25 dX7_build_30 (fun H locs hP hD hS => ?_)
        have hP : va_P G vwCl [(q_t, .inr (5, [.ref q_t_owners, .ref q_t_counts, .int t.2.2.1, .int t.2.2.2.1, .int t.2.2.2.2.1, .int t.2.2.2.2.2])), (q_t_counts, .inl (ca 0, 4802, .inl t.2.1)), (q_t_owners, .inl (ca 0, 4802, .inl (upd t.1 x2.toNatClampNeg 0))), (q_a0, .inr (1, [.int a0.1, .int a0.2.1, z_a0_rooms, .int a0.2.2.2.1, .int a0.2.2.2.2.1, .ref q_a0_ds, .int a0.2.2.2.2.2.2])), (q_a0_ds, .inl (ca 0, 30, .inl a0.2.2.2.2.2.1))] H := hP
        have hD : va_D A [(q_t, .inr (5, [.ref q_t_owners, .ref q_t_counts, .int t.2.2.1, .int t.2.2.2.1, .int t.2.2.2.2.1, .int t.2.2.2.2.2])), (q_t_counts, .inl (ca 0, 4802, .inl t.2.1)), (q_t_owners, .inl (ca 0, 4802, .inl (upd t.1 x2.toNatClampNeg 0))), (q_a0, .inr (1, [.int a0.1, .int a0.2.1, z_a0_rooms, .int a0.2.2.2.1, .int a0.2.2.2.2.1, .ref q_a0_ds, .int a0.2.2.2.2.2.2])), (q_a0_ds, .inl (ca 0, 30, .inl a0.2.2.2.2.2.1))] := hD
        obtain ⟨x2_26, e_x2_26⟩ : ∃ y : Int32, y = x2 + 1 := ⟨_, rfl⟩
        refine lv_iinc (v := x2_26) (lv' := [(2, .int x2_26), (0, .ref q_t), (1, .ref q_a0)]) hx hb dX7_build_31 hl (k := 2) rfl (by rw [e_x2_26]; rfl) (by decide) rfl (fun ls hl => ?_)
        have h := nm_at e_x2_26 h
        refine lv_goto (tgt := 16) hx hb dX7_build_34 (by decide) ?_
        exact ih_16 x2_26 ((upd t.1 x2.toNatClampNeg 0), t.2.1, t.2.2.1, t.2.2.2.1, t.2.2.2.2.1, t.2.2.2.2.2) ls H _ (lv_sub hl [1, 2, 0] rfl) hP hD hS h
  refine lv_aload_n hx hb dX7_build_0 rfl (lv_at hl 0 rfl) ?_
  refine lv_aload_n hx hb dX7_build_1 rfl (lv_at hl 1 rfl) ?_
  obtain ⟨w_1, hg_2, h⟩ := bd_at h
  refine sw_ci (sw_runV (As := []) (rest := [.ref q_t]) Cx hP hD hS mv_X3_lastNumber ml_X7_37 (c_X3_lastNumber l G ca Z q_a0 (z_a0_rooms) (.ref q_a0_ds) s.heap.size a0 w_1 hg_2) 1 rfl rfl rfl [3] rfl rfl rfl rfl ⟨(Nat.le_of_ble_eq_true rfl), (Nat.le_of_ble_eq_true rfl)⟩ hl.1 rfl rfl (Nat.le_of_ble_eq_true rfl) dX7_build_2 ⟨(Nat.le_of_ble_eq_true rfl), (Nat.le_of_ble_eq_true rfl)⟩) hP hD hS hA [3] [0, 1, 2, 4] [0, 1, 2, 4, 3] rfl rfl rfl (by decide) (fun _ => rfl) rfl (fun r u H locs hw hP hD hS => ?_)
  subst hw
  have hP : va_P G vwCl [(q_t, .inr (5, [.ref q_t_owners, .ref q_t_counts, .int t.2.2.1, .int t.2.2.2.1, .int t.2.2.2.2.1, .int t.2.2.2.2.2])), (q_t_counts, .inl (ca 0, 4802, .inl t.2.1)), (q_t_owners, .inl (ca 0, 4802, .inl t.1)), (q_a0, .inr (1, [.int a0.1, .int a0.2.1, z_a0_rooms, .int a0.2.2.2.1, .int a0.2.2.2.2.1, .ref q_a0_ds, .int a0.2.2.2.2.2.2])), (q_a0_ds, .inl (ca 0, 30, .inl a0.2.2.2.2.2.1))] H := hP
  have hD : va_D A [(q_t, .inr (5, [.ref q_t_owners, .ref q_t_counts, .int t.2.2.1, .int t.2.2.2.1, .int t.2.2.2.2.1, .int t.2.2.2.2.2])), (q_t_counts, .inl (ca 0, 4802, .inl t.2.1)), (q_t_owners, .inl (ca 0, 4802, .inl t.1)), (q_a0, .inr (1, [.int a0.1, .int a0.2.1, z_a0_rooms, .int a0.2.2.2.1, .int a0.2.2.2.2.1, .ref q_a0_ds, .int a0.2.2.2.2.2.2])), (q_a0_ds, .inl (ca 0, 30, .inl a0.2.2.2.2.2.1))] := hD
  refine lv_sipush (v := 4801) hx hb dX7_build_5 (by decide) ?_
  refine va_mmin hx hb (hml.trans hl.1.symm) hown (htU _ mm_X7_40) (htU _ mm_st_min) (htU _ mm_ini) (htU _ mm_co_min) (Nat.le_of_ble_eq_true rfl) (Nat.le_of_ble_eq_true rfl) (Nat.le_of_ble_eq_true rfl) (Nat.le_of_ble_eq_true rfl) dX7_build_8 ?_
  refine lv_topi (fun f_3 e_f_3 => ?_)
  have h := nm_at e_f_3 h
  refine va_put (v := .int f_3) (ty := .int) hx hb htU iU_X7 tyX7 tyX7_ok nmX7 hown hK hP hD hS 0 rfl rfl 2 (by decide) (htU _ fl_X7_18) (fun _ h9 => h9) rfl (by decide +kernel) rfl rfl (Nat.le_of_ble_eq_true rfl) dX7_build_11 (fun H locs hP hD hS => ?_)
  have hP : va_P G vwCl [(q_t, .inr (5, [.ref q_t_owners, .ref q_t_counts, .int f_3, .int t.2.2.2.1, .int t.2.2.2.2.1, .int t.2.2.2.2.2])), (q_t_counts, .inl (ca 0, 4802, .inl t.2.1)), (q_t_owners, .inl (ca 0, 4802, .inl t.1)), (q_a0, .inr (1, [.int a0.1, .int a0.2.1, z_a0_rooms, .int a0.2.2.2.1, .int a0.2.2.2.2.1, .ref q_a0_ds, .int a0.2.2.2.2.2.2])), (q_a0_ds, .inl (ca 0, 30, .inl a0.2.2.2.2.2.1))] H := hP
  have hD : va_D A [(q_t, .inr (5, [.ref q_t_owners, .ref q_t_counts, .int f_3, .int t.2.2.2.1, .int t.2.2.2.2.1, .int t.2.2.2.2.2])), (q_t_counts, .inl (ca 0, 4802, .inl t.2.1)), (q_t_owners, .inl (ca 0, 4802, .inl t.1)), (q_a0, .inr (1, [.int a0.1, .int a0.2.1, z_a0_rooms, .int a0.2.2.2.1, .int a0.2.2.2.2.1, .ref q_a0_ds, .int a0.2.2.2.2.2.2])), (q_a0_ds, .inl (ca 0, 30, .inl a0.2.2.2.2.2.1))] := hD
  refine lv_iconst (v := 2) hx hb dX7_build_14 (by decide) ?_
  refine lv_istore_n (lv' := [(2, .int 2), (0, .ref q_t), (1, .ref q_a0)]) hx hb dX7_build_15 rfl hl (by decide) rfl (fun ls hl => ?_)
  exact hL_16 FUEL 2 (t.1, t.2.1, f_3, t.2.2.2.1, t.2.2.2.2.1, t.2.2.2.2.2) ls H _ (lv_sub hl [1, 2, 0] rfl) hP hD hS h
theorem mv_X7_lastNumber : sw_MV yX7_lastNumber RX7 cX7_lastNumber 1 (Option.some Jvm.ClassFile.FieldType.int) 0 := ⟨im_X7_lastNumber, se_X7_lastNumber, ini_X7, co_X7_lastNumber, by decide +kernel⟩
def F_X7_lastNumber (t : SieveT) : Option (Int32) :=
 some t.2.2.1
abbrev RM_X7_lastNumber : Room := ({ frames := 0, cells := 0, slots := 0, locals := 0 } : Room)
set_option maxHeartbeats 4000000 in
set_option maxRecDepth 100000 in
theorem c_X7_lastNumber (l : Launch) (G : va_G) (ca Z : Nat → Nat) (q_t : Nat) (z_t_owners : Value) (z_t_counts : Value) (sz : Nat) (t : SieveT) (res : Int32) (hF : F_X7_lastNumber t = some res) : Met l yX7_lastNumber (.code yX7_lastNumber cX7_lastNumber 1 (Option.some Jvm.ClassFile.FieldType.int) :: sw_U) RM_X7_lastNumber (va_Pc [.ref q_t] (sw_Pre G ca Z [(q_t, .inr (5, [z_t_owners, z_t_counts, .int t.2.2.1, .int t.2.2.2.1, .int t.2.2.2.2.1, .int t.2.2.2.2.2]))] sz)) ((fun A => va_Qi (fun r (u : Unit) => res = r) (sw_Post G A (fun (u : Unit) => [(q_t, .inr (5, [z_t_owners, z_t_counts, .int t.2.2.1, .int t.2.2.2.1, .int t.2.2.2.2.1, .int t.2.2.2.2.2]))])) A) (va_A [(q_t, .inr (5, [z_t_owners, z_t_counts, .int t.2.2.1, .int t.2.2.2.1, .int t.2.2.2.2.1, .int t.2.2.2.2.2]))] sz)) 0 0 (va_A [(q_t, .inr (5, [z_t_owners, z_t_counts, .int t.2.2.1, .int t.2.2.2.1, .int t.2.2.2.2.1, .int t.2.2.2.2.2]))] sz) := by
  refine sw_ofW (Qc := fun A => va_Qi (fun r (u : Unit) => res = r) (sw_Post G A (fun (u : Unit) => [(q_t, .inr (5, [z_t_owners, z_t_counts, .int t.2.2.1, .int t.2.2.2.1, .int t.2.2.2.2.1, .int t.2.2.2.2.2]))])) A) (by decide) [(0, .ref q_t)] rfl (Nat.le_of_ble_eq_true rfl) ?_
  intro p e s m args below meth c ls A hx hb hr hml hown htU hlocks hnm hP hK hD hX hY hS hA hl
  have hown : s.vm.findClass RX7 = some m.cls := hown
  have Cx : sw_Cx p s m args c cX7_lastNumber 1 RX7 G ca Z A := ⟨⟨hx, hb, hml, hown, htU⟩, hK, hX, hY, hA⟩
  have h := hF
  unfold F_X7_lastNumber at h
  refine lv_aload_n hx hb dX7_lastNumber_0 rfl (lv_at hl 0 rfl) ?_
  refine va_get (v := .int t.2.2.1) hx hb htU iU_X7 hown hK hP 0 rfl rfl 2 (by decide) (htU _ fl_X7_18) (fun _ h9 => h9) rfl dX7_lastNumber_1 ?_
  exact sw_ri hx hb hr hlocks hS () (pr1 h) hP hD dX7_lastNumber_4
theorem mv_X7_markCount : sw_MV yX7_markCount RX7 cX7_markCount 1 (Option.some Jvm.ClassFile.FieldType.int) 0 := ⟨im_X7_markCount, se_X7_markCount, ini_X7, co_X7_markCount, by decide +kernel⟩
def F_X7_markCount (t : SieveT) : Option (Int32) :=
 some t.2.2.2.1
abbrev RM_X7_markCount : Room := ({ frames := 0, cells := 0, slots := 0, locals := 0 } : Room)
set_option maxHeartbeats 4000000 in
set_option maxRecDepth 100000 in
theorem c_X7_markCount (l : Launch) (G : va_G) (ca Z : Nat → Nat) (q_t : Nat) (z_t_owners : Value) (z_t_counts : Value) (sz : Nat) (t : SieveT) (res : Int32) (hF : F_X7_markCount t = some res) : Met l yX7_markCount (.code yX7_markCount cX7_markCount 1 (Option.some Jvm.ClassFile.FieldType.int) :: sw_U) RM_X7_markCount (va_Pc [.ref q_t] (sw_Pre G ca Z [(q_t, .inr (5, [z_t_owners, z_t_counts, .int t.2.2.1, .int t.2.2.2.1, .int t.2.2.2.2.1, .int t.2.2.2.2.2]))] sz)) ((fun A => va_Qi (fun r (u : Unit) => res = r) (sw_Post G A (fun (u : Unit) => [(q_t, .inr (5, [z_t_owners, z_t_counts, .int t.2.2.1, .int t.2.2.2.1, .int t.2.2.2.2.1, .int t.2.2.2.2.2]))])) A) (va_A [(q_t, .inr (5, [z_t_owners, z_t_counts, .int t.2.2.1, .int t.2.2.2.1, .int t.2.2.2.2.1, .int t.2.2.2.2.2]))] sz)) 0 0 (va_A [(q_t, .inr (5, [z_t_owners, z_t_counts, .int t.2.2.1, .int t.2.2.2.1, .int t.2.2.2.2.1, .int t.2.2.2.2.2]))] sz) := by
  refine sw_ofW (Qc := fun A => va_Qi (fun r (u : Unit) => res = r) (sw_Post G A (fun (u : Unit) => [(q_t, .inr (5, [z_t_owners, z_t_counts, .int t.2.2.1, .int t.2.2.2.1, .int t.2.2.2.2.1, .int t.2.2.2.2.2]))])) A) (by decide) [(0, .ref q_t)] rfl (Nat.le_of_ble_eq_true rfl) ?_
  intro p e s m args below meth c ls A hx hb hr hml hown htU hlocks hnm hP hK hD hX hY hS hA hl
  have hown : s.vm.findClass RX7 = some m.cls := hown
  have Cx : sw_Cx p s m args c cX7_markCount 1 RX7 G ca Z A := ⟨⟨hx, hb, hml, hown, htU⟩, hK, hX, hY, hA⟩
  have h := hF
  unfold F_X7_markCount at h
  refine lv_aload_n hx hb dX7_markCount_0 rfl (lv_at hl 0 rfl) ?_
  refine va_get (v := .int t.2.2.2.1) hx hb htU iU_X7 hown hK hP 0 rfl rfl 3 (by decide) (htU _ fl_X7_22) (fun _ h9 => h9) rfl dX7_markCount_1 ?_
  exact sw_ri hx hb hr hlocks hS () (pr1 h) hP hD dX7_markCount_4
theorem mv_X7_spokeCount : sw_MV yX7_spokeCount RX7 cX7_spokeCount 1 (Option.some Jvm.ClassFile.FieldType.int) 0 := ⟨im_X7_spokeCount, se_X7_spokeCount, ini_X7, co_X7_spokeCount, by decide +kernel⟩
def F_X7_spokeCount (t : SieveT) : Option (Int32) :=
 some t.2.2.2.2.1
abbrev RM_X7_spokeCount : Room := ({ frames := 0, cells := 0, slots := 0, locals := 0 } : Room)
set_option maxHeartbeats 4000000 in
set_option maxRecDepth 100000 in
theorem c_X7_spokeCount (l : Launch) (G : va_G) (ca Z : Nat → Nat) (q_t : Nat) (z_t_owners : Value) (z_t_counts : Value) (sz : Nat) (t : SieveT) (res : Int32) (hF : F_X7_spokeCount t = some res) : Met l yX7_spokeCount (.code yX7_spokeCount cX7_spokeCount 1 (Option.some Jvm.ClassFile.FieldType.int) :: sw_U) RM_X7_spokeCount (va_Pc [.ref q_t] (sw_Pre G ca Z [(q_t, .inr (5, [z_t_owners, z_t_counts, .int t.2.2.1, .int t.2.2.2.1, .int t.2.2.2.2.1, .int t.2.2.2.2.2]))] sz)) ((fun A => va_Qi (fun r (u : Unit) => res = r) (sw_Post G A (fun (u : Unit) => [(q_t, .inr (5, [z_t_owners, z_t_counts, .int t.2.2.1, .int t.2.2.2.1, .int t.2.2.2.2.1, .int t.2.2.2.2.2]))])) A) (va_A [(q_t, .inr (5, [z_t_owners, z_t_counts, .int t.2.2.1, .int t.2.2.2.1, .int t.2.2.2.2.1, .int t.2.2.2.2.2]))] sz)) 0 0 (va_A [(q_t, .inr (5, [z_t_owners, z_t_counts, .int t.2.2.1, .int t.2.2.2.1, .int t.2.2.2.2.1, .int t.2.2.2.2.2]))] sz) := by
  refine sw_ofW (Qc := fun A => va_Qi (fun r (u : Unit) => res = r) (sw_Post G A (fun (u : Unit) => [(q_t, .inr (5, [z_t_owners, z_t_counts, .int t.2.2.1, .int t.2.2.2.1, .int t.2.2.2.2.1, .int t.2.2.2.2.2]))])) A) (by decide) [(0, .ref q_t)] rfl (Nat.le_of_ble_eq_true rfl) ?_
  intro p e s m args below meth c ls A hx hb hr hml hown htU hlocks hnm hP hK hD hX hY hS hA hl
  have hown : s.vm.findClass RX7 = some m.cls := hown
  have Cx : sw_Cx p s m args c cX7_spokeCount 1 RX7 G ca Z A := ⟨⟨hx, hb, hml, hown, htU⟩, hK, hX, hY, hA⟩
  have h := hF
  unfold F_X7_spokeCount at h
  refine lv_aload_n hx hb dX7_spokeCount_0 rfl (lv_at hl 0 rfl) ?_
  refine va_get (v := .int t.2.2.2.2.1) hx hb htU iU_X7 hown hK hP 0 rfl rfl 4 (by decide) (htU _ fl_X7_25) (fun _ h9 => h9) rfl dX7_spokeCount_1 ?_
  exact sw_ri hx hb hr hlocks hS () (pr1 h) hP hD dX7_spokeCount_4
theorem mv_X7_ownerOf : sw_MV yX7_ownerOf RX7 cX7_ownerOf 2 (Option.some Jvm.ClassFile.FieldType.int) 1 := ⟨im_X7_ownerOf, se_X7_ownerOf, ini_X7, co_X7_ownerOf, by decide +kernel⟩
def F_X7_ownerOf (x1 : Int32) (t : SieveT) : Option (Int32) :=
 (if x1 < 2 then some (-2) else (if x1 ≤ t.2.2.1 then ix x1 4802 (some (t.1 x1.toNatClampNeg)) else some (-2)))
abbrev RM_X7_ownerOf : Room := ({ frames := 0, cells := 0, slots := 0, locals := 0 } : Room)
set_option maxHeartbeats 4000000 in
set_option maxRecDepth 100000 in
theorem c_X7_ownerOf (l : Launch) (G : va_G) (ca Z : Nat → Nat) (q_t : Nat) (q_t_owners : Nat) (z_t_counts : Value) (sz : Nat) (x1 : Int32) (t : SieveT) (res : Int32) (hF : F_X7_ownerOf x1 t = some res) : Met l yX7_ownerOf (.code yX7_ownerOf cX7_ownerOf 2 (Option.some Jvm.ClassFile.FieldType.int) :: sw_U) RM_X7_ownerOf (va_Pc [.ref q_t, .int x1] (sw_Pre G ca Z [(q_t, .inr (5, [.ref q_t_owners, z_t_counts, .int t.2.2.1, .int t.2.2.2.1, .int t.2.2.2.2.1, .int t.2.2.2.2.2])), (q_t_owners, .inl (ca 0, 4802, .inl t.1))] sz)) ((fun A => va_Qi (fun r (u : Unit) => res = r) (sw_Post G A (fun (u : Unit) => [(q_t, .inr (5, [.ref q_t_owners, z_t_counts, .int t.2.2.1, .int t.2.2.2.1, .int t.2.2.2.2.1, .int t.2.2.2.2.2])), (q_t_owners, .inl (ca 0, 4802, .inl t.1))])) A) (va_A [(q_t, .inr (5, [.ref q_t_owners, z_t_counts, .int t.2.2.1, .int t.2.2.2.1, .int t.2.2.2.2.1, .int t.2.2.2.2.2])), (q_t_owners, .inl (ca 0, 4802, .inl t.1))] sz)) 0 0 (va_A [(q_t, .inr (5, [.ref q_t_owners, z_t_counts, .int t.2.2.1, .int t.2.2.2.1, .int t.2.2.2.2.1, .int t.2.2.2.2.2])), (q_t_owners, .inl (ca 0, 4802, .inl t.1))] sz) := by
  refine sw_ofW (Qc := fun A => va_Qi (fun r (u : Unit) => res = r) (sw_Post G A (fun (u : Unit) => [(q_t, .inr (5, [.ref q_t_owners, z_t_counts, .int t.2.2.1, .int t.2.2.2.1, .int t.2.2.2.2.1, .int t.2.2.2.2.2])), (q_t_owners, .inl (ca 0, 4802, .inl t.1))])) A) (by decide) [(0, .ref q_t), (1, .int x1)] rfl (Nat.le_of_ble_eq_true rfl) ?_
  intro p e s m args below meth c ls A hx hb hr hml hown htU hlocks hnm hP hK hD hX hY hS hA hl
  have hown : s.vm.findClass RX7 = some m.cls := hown
  have Cx : sw_Cx p s m args c cX7_ownerOf 2 RX7 G ca Z A := ⟨⟨hx, hb, hml, hown, htU⟩, hK, hX, hY, hA⟩
  have h := hF
  unfold F_X7_ownerOf at h
  refine lv_iload_n hx hb dX7_ownerOf_0 rfl (lv_at hl 1 rfl) ?_
  refine lv_iconst (v := 2) hx hb dX7_ownerOf_1 (by decide) ?_
  refine lv_icmp_lt (tgt := 13) hx hb dX7_ownerOf_2 (by decide) (fun c_1 => ?_) (fun c_1 => ?_)
  · have h := if_t c_1 h
    refine lv_bipush (v := (-2)) hx hb dX7_ownerOf_13 (by decide) ?_
    refine lv_goto (tgt := 24) hx hb dX7_ownerOf_15 (by decide) ?_
    exact sw_ri hx hb hr hlocks hS () (pr1 h) hP hD dX7_ownerOf_24
  · have h := if_f c_1 h
    refine lv_iload_n hx hb dX7_ownerOf_5 rfl (lv_at hl 1 rfl) ?_
    refine lv_aload_n hx hb dX7_ownerOf_6 rfl (lv_at hl 0 rfl) ?_
    refine va_get (v := .int t.2.2.1) hx hb htU iU_X7 hown hK hP 0 rfl rfl 2 (by decide) (htU _ fl_X7_18) (fun _ h9 => h9) rfl dX7_ownerOf_7 ?_
    refine lv_icmp_le (tgt := 18) hx hb dX7_ownerOf_10 (by decide) (fun c_2 => ?_) (fun c_2 => ?_)
    · have h := if_t c_2 h
      refine lv_aload_n hx hb dX7_ownerOf_18 rfl (lv_at hl 0 rfl) ?_
      refine va_get (v := .ref q_t_owners) hx hb htU iU_X7 hown hK hP 0 rfl rfl 0 (by decide) (htU _ fl_X7_9) (fun _ h9 => h9) rfl dX7_ownerOf_19 ?_
      refine lv_iload_n hx hb dX7_ownerOf_22 rfl (lv_at hl 1 rfl) ?_
      obtain ⟨hi_3, h⟩ := ix_at h
      refine va_iald hx hb hK hP 1 0 rfl rfl hi_3 dX7_ownerOf_23 ?_
      exact sw_ri hx hb hr hlocks hS () (pr1 h) hP hD dX7_ownerOf_24
    · have h := if_f c_2 h
      refine lv_bipush (v := (-2)) hx hb dX7_ownerOf_13 (by decide) ?_
      refine lv_goto (tgt := 24) hx hb dX7_ownerOf_15 (by decide) ?_
      exact sw_ri hx hb hr hlocks hS () (pr1 h) hP hD dX7_ownerOf_24
theorem mv_X7_isMark : sw_MV yX7_isMark RX7 cX7_isMark 2 (Option.some Jvm.ClassFile.FieldType.boolean) 1 := ⟨im_X7_isMark, se_X7_isMark, ini_X7, co_X7_isMark, by decide +kernel⟩
def F_X7_isMark (x1 : Int32) (t : SieveT) : Option (Bool) :=
 (F_X7_ownerOf x1 t).bind (fun w_1 => (if w_1 = 0 then some true else some false))
abbrev RM_X7_isMark : Room := ({ frames := 1, cells := 0, slots := 0, locals := 21 } : Room)
set_option maxHeartbeats 4000000 in
set_option maxRecDepth 100000 in
theorem c_X7_isMark (l : Launch) (G : va_G) (ca Z : Nat → Nat) (q_t : Nat) (q_t_owners : Nat) (z_t_counts : Value) (sz : Nat) (x1 : Int32) (t : SieveT) (res : Bool) (hF : F_X7_isMark x1 t = some res) : Met l yX7_isMark (.code yX7_isMark cX7_isMark 2 (Option.some Jvm.ClassFile.FieldType.boolean) :: sw_U) RM_X7_isMark (va_Pc [.ref q_t, .int x1] (sw_Pre G ca Z [(q_t, .inr (5, [.ref q_t_owners, z_t_counts, .int t.2.2.1, .int t.2.2.2.1, .int t.2.2.2.2.1, .int t.2.2.2.2.2])), (q_t_owners, .inl (ca 0, 4802, .inl t.1))] sz)) ((fun A => va_Qi (fun r (u : Unit) => bI res = r) (sw_Post G A (fun (u : Unit) => [(q_t, .inr (5, [.ref q_t_owners, z_t_counts, .int t.2.2.1, .int t.2.2.2.1, .int t.2.2.2.2.1, .int t.2.2.2.2.2])), (q_t_owners, .inl (ca 0, 4802, .inl t.1))])) A) (va_A [(q_t, .inr (5, [.ref q_t_owners, z_t_counts, .int t.2.2.1, .int t.2.2.2.1, .int t.2.2.2.2.1, .int t.2.2.2.2.2])), (q_t_owners, .inl (ca 0, 4802, .inl t.1))] sz)) 0 0 (va_A [(q_t, .inr (5, [.ref q_t_owners, z_t_counts, .int t.2.2.1, .int t.2.2.2.1, .int t.2.2.2.2.1, .int t.2.2.2.2.2])), (q_t_owners, .inl (ca 0, 4802, .inl t.1))] sz) := by
  refine sw_ofW (Qc := fun A => va_Qi (fun r (u : Unit) => bI res = r) (sw_Post G A (fun (u : Unit) => [(q_t, .inr (5, [.ref q_t_owners, z_t_counts, .int t.2.2.1, .int t.2.2.2.1, .int t.2.2.2.2.1, .int t.2.2.2.2.2])), (q_t_owners, .inl (ca 0, 4802, .inl t.1))])) A) (by decide) [(0, .ref q_t), (1, .int x1)] rfl (Nat.le_of_ble_eq_true rfl) ?_
  intro p e s m args below meth c ls A hx hb hr hml hown htU hlocks hnm hP hK hD hX hY hS hA hl
  have hown : s.vm.findClass RX7 = some m.cls := hown
  have Cx : sw_Cx p s m args c cX7_isMark 2 RX7 G ca Z A := ⟨⟨hx, hb, hml, hown, htU⟩, hK, hX, hY, hA⟩
  have h := hF
  unfold F_X7_isMark at h
  refine lv_aload_n hx hb dX7_isMark_0 rfl (lv_at hl 0 rfl) ?_
  refine lv_iload_n hx hb dX7_isMark_1 rfl (lv_at hl 1 rfl) ?_
  obtain ⟨w_1, hg_2, h⟩ := bd_at h
  refine sw_ci (sw_runV (As := [.int x1]) (rest := []) Cx hP hD hS mv_X7_ownerOf ml_X7_68 (c_X7_ownerOf l G ca Z q_t q_t_owners (z_t_counts) s.heap.size x1 t w_1 hg_2) 5 rfl rfl rfl [0, 1] rfl rfl rfl rfl ⟨(Nat.le_of_ble_eq_true rfl), (Nat.le_of_ble_eq_true rfl)⟩ hl.1 rfl rfl (Nat.le_of_ble_eq_true rfl) dX7_isMark_2 ⟨(Nat.le_of_ble_eq_true rfl), (Nat.le_of_ble_eq_true rfl)⟩) hP hD hS hA [0, 1] [] [0, 1] rfl rfl rfl (by decide) (fun _ => rfl) rfl (fun r u H locs hw hP hD hS => ?_)
  subst hw
  have hP : va_P G vwCl [(q_t, .inr (5, [.ref q_t_owners, z_t_counts, .int t.2.2.1, .int t.2.2.2.1, .int t.2.2.2.2.1, .int t.2.2.2.2.2])), (q_t_owners, .inl (ca 0, 4802, .inl t.1))] H := hP
  have hD : va_D A [(q_t, .inr (5, [.ref q_t_owners, z_t_counts, .int t.2.2.1, .int t.2.2.2.1, .int t.2.2.2.2.1, .int t.2.2.2.2.2])), (q_t_owners, .inl (ca 0, 4802, .inl t.1))] := hD
  refine lv_if_ne (tgt := 12) hx hb dX7_isMark_5 (by decide) (fun c_3 => ?_) (fun c_3 => ?_)
  · have h := if_f c_3 h
    refine lv_iconst (v := 0) hx hb dX7_isMark_12 (by decide) ?_
    exact sw_rz hx hb hr rfl hlocks hS () (pb1 h) hP hD dX7_isMark_13
  · have h := if_t c_3 h
    refine lv_iconst (v := 1) hx hb dX7_isMark_8 (by decide) ?_
    refine lv_goto (tgt := 13) hx hb dX7_isMark_9 (by decide) ?_
    exact sw_rz hx hb hr rfl hlocks hS () (pb1 h) hP hD dX7_isMark_13
theorem mv_X7_markAt : sw_MV yX7_markAt RX7 cX7_markAt 3 (Option.some Jvm.ClassFile.FieldType.int) 1 := ⟨im_X7_markAt, se_X7_markAt, ini_X7, co_X7_markAt, by decide +kernel⟩
def B_X7_markAt_2 (x1 : Int32) (t : SieveT) (k_2 : Int32 → Option (Int32)) (x2 : Int32) : Option (Int32) :=
 (if t.2.2.1 < x2 then some (-1) else (if x1 < 0 then some (-1) else ix x2 4802 ((if (t.2.1 x2.toNatClampNeg) ≤ x1 then nm (x2 + 1) (fun x2_5 => k_2 x2_5) else some x2))))
def F_X7_markAt (x1 : Int32) (t : SieveT) : Option (Int32) :=
 fx (fun _ => none) (B_X7_markAt_2 x1 t) FUEL 2
abbrev RM_X7_markAt : Room := ({ frames := 0, cells := 0, slots := 0, locals := 0 } : Room)
set_option maxHeartbeats 4000000 in
set_option maxRecDepth 100000 in
theorem c_X7_markAt (l : Launch) (G : va_G) (ca Z : Nat → Nat) (q_t : Nat) (q_t_counts : Nat) (z_t_owners : Value) (sz : Nat) (x1 : Int32) (t : SieveT) (res : Int32) (hF : F_X7_markAt x1 t = some res) : Met l yX7_markAt (.code yX7_markAt cX7_markAt 3 (Option.some Jvm.ClassFile.FieldType.int) :: sw_U) RM_X7_markAt (va_Pc [.ref q_t, .int x1] (sw_Pre G ca Z [(q_t, .inr (5, [z_t_owners, .ref q_t_counts, .int t.2.2.1, .int t.2.2.2.1, .int t.2.2.2.2.1, .int t.2.2.2.2.2])), (q_t_counts, .inl (ca 0, 4802, .inl t.2.1))] sz)) ((fun A => va_Qi (fun r (u : Unit) => res = r) (sw_Post G A (fun (u : Unit) => [(q_t, .inr (5, [z_t_owners, .ref q_t_counts, .int t.2.2.1, .int t.2.2.2.1, .int t.2.2.2.2.1, .int t.2.2.2.2.2])), (q_t_counts, .inl (ca 0, 4802, .inl t.2.1))])) A) (va_A [(q_t, .inr (5, [z_t_owners, .ref q_t_counts, .int t.2.2.1, .int t.2.2.2.1, .int t.2.2.2.2.1, .int t.2.2.2.2.2])), (q_t_counts, .inl (ca 0, 4802, .inl t.2.1))] sz)) 0 0 (va_A [(q_t, .inr (5, [z_t_owners, .ref q_t_counts, .int t.2.2.1, .int t.2.2.2.1, .int t.2.2.2.2.1, .int t.2.2.2.2.2])), (q_t_counts, .inl (ca 0, 4802, .inl t.2.1))] sz) := by
  refine sw_ofW (Qc := fun A => va_Qi (fun r (u : Unit) => res = r) (sw_Post G A (fun (u : Unit) => [(q_t, .inr (5, [z_t_owners, .ref q_t_counts, .int t.2.2.1, .int t.2.2.2.1, .int t.2.2.2.2.1, .int t.2.2.2.2.2])), (q_t_counts, .inl (ca 0, 4802, .inl t.2.1))])) A) (by decide) [(0, .ref q_t), (1, .int x1)] rfl (Nat.le_of_ble_eq_true rfl) ?_
  intro p e s m args below meth c ls A hx hb hr hml hown htU hlocks hnm hP hK hD hX hY hS hA hl
  have hown : s.vm.findClass RX7 = some m.cls := hown
  have Cx : sw_Cx p s m args c cX7_markAt 3 RX7 G ca Z A := ⟨⟨hx, hb, hml, hown, htU⟩, hK, hX, hY, hA⟩
  have h := hF
  unfold F_X7_markAt at h
  have hL_2 : ∀ (n_2 : Nat) (x2 : Int32) (ls : Array Slot) (H : Heap) (locs : List Loc), lv_has ls 3 [(0, .ref q_t), (1, .int x1), (2, .int x2)] → va_P G vwCl [(q_t, .inr (5, [z_t_owners, .ref q_t_counts, .int t.2.2.1, .int t.2.2.2.1, .int t.2.2.2.2.1, .int t.2.2.2.2.2])), (q_t_counts, .inl (ca 0, 4802, .inl t.2.1))] H → va_D A [(q_t, .inr (5, [z_t_owners, .ref q_t_counts, .int t.2.2.1, .int t.2.2.2.1, .int t.2.2.2.2.1, .int t.2.2.2.2.2])), (q_t_counts, .inl (ca 0, 4802, .inl t.2.1))] → va_S A s.heap H locs → fx (fun _ => none) (B_X7_markAt_2 x1 t) n_2 x2 = some res → W p l e RM_X7_markAt s m args below meth c H locs 0 0 (MQ below ((fun A => va_Qi (fun r (u : Unit) => res = r) (sw_Post G A (fun (u : Unit) => [(q_t, .inr (5, [z_t_owners, .ref q_t_counts, .int t.2.2.1, .int t.2.2.2.1, .int t.2.2.2.2.1, .int t.2.2.2.2.2])), (q_t_counts, .inl (ca 0, 4802, .inl t.2.1))])) A) A) args s 0 0 A) (F0 m 2 ls []) := by
    intro n_2
    induction n_2 with
    | zero => intro x2 ls H locs hl hP hD hS h; exact no_at h
    | succ n_2 ih_2 =>
      intro x2 ls H locs hl hP hD hS h
      rw [fx_s] at h
      unfold B_X7_markAt_2 at h
      refine lv_iload_n hx hb dX7_markAt_2 rfl (lv_at hl 2 rfl) ?_
      refine lv_aload_n hx hb dX7_markAt_3 rfl (lv_at hl 0 rfl) ?_
      refine va_get (v := .int t.2.2.1) hx hb htU iU_X7 hown hK hP 0 rfl rfl 2 (by decide) (htU _ fl_X7_18) (fun _ h9 => h9) rfl dX7_markAt_4 ?_
      refine lv_icmp_gt (tgt := 32) hx hb dX7_markAt_7 (by decide) (fun c_1 => ?_) (fun c_1 => ?_)
      · have h := if_t c_1 h
        refine lv_iconst (v := (-1)) hx hb dX7_markAt_32 (by decide) ?_
        exact sw_ri hx hb hr hlocks hS () (pr1 h) hP hD dX7_markAt_33
      · have h := if_f c_1 h
        refine lv_iload_n hx hb dX7_markAt_10 rfl (lv_at hl 1 rfl) ?_
        refine lv_if_lt (tgt := 32) hx hb dX7_markAt_11 (by decide) (fun c_2 => ?_) (fun c_2 => ?_)
        · have h := if_t c_2 h
          refine lv_iconst (v := (-1)) hx hb dX7_markAt_32 (by decide) ?_
          exact sw_ri hx hb hr hlocks hS () (pr1 h) hP hD dX7_markAt_33
        · have h := if_f c_2 h
          refine lv_aload_n hx hb dX7_markAt_14 rfl (lv_at hl 0 rfl) ?_
          refine va_get (v := .ref q_t_counts) hx hb htU iU_X7 hown hK hP 0 rfl rfl 1 (by decide) (htU _ fl_X7_15) (fun _ h9 => h9) rfl dX7_markAt_15 ?_
          refine lv_iload_n hx hb dX7_markAt_18 rfl (lv_at hl 2 rfl) ?_
          obtain ⟨hi_3, h⟩ := ix_at h
          refine va_iald hx hb hK hP 1 0 rfl rfl hi_3 dX7_markAt_19 ?_
          refine lv_iload_n hx hb dX7_markAt_20 rfl (lv_at hl 1 rfl) ?_
          refine lv_icmp_le (tgt := 26) hx hb dX7_markAt_21 (by decide) (fun c_4 => ?_) (fun c_4 => ?_)
          · have h := if_t c_4 h
            obtain ⟨x2_5, e_x2_5⟩ : ∃ y : Int32, y = x2 + 1 := ⟨_, rfl⟩
            refine lv_iinc (v := x2_5) (lv' := [(2, .int x2_5), (0, .ref q_t), (1, .int x1)]) hx hb dX7_markAt_26 hl (k := 2) rfl (by rw [e_x2_5]; rfl) (by decide) rfl (fun ls hl => ?_)
            have h := nm_at e_x2_5 h
            refine lv_goto (tgt := 2) hx hb dX7_markAt_29 (by decide) ?_
            exact ih_2 x2_5 ls H _ (lv_sub hl [1, 2, 0] rfl) hP hD hS h
          · have h := if_f c_4 h
            refine lv_iload_n hx hb dX7_markAt_24 rfl (lv_at hl 2 rfl) ?_
            exact sw_ri hx hb hr hlocks hS () (pr1 h) hP hD dX7_markAt_25
  refine lv_iconst (v := 2) hx hb dX7_markAt_0 (by decide) ?_
  refine lv_istore_n (lv' := [(2, .int 2), (0, .ref q_t), (1, .int x1)]) hx hb dX7_markAt_1 rfl hl (by decide) rfl (fun ls hl => ?_)
  exact hL_2 FUEL 2 ls s.heap _ (lv_sub hl [1, 2, 0] rfl) hP hD hS h
theorem mv_X7_marksUpTo : sw_MV yX7_marksUpTo RX7 cX7_marksUpTo 2 (Option.some Jvm.ClassFile.FieldType.int) 1 := ⟨im_X7_marksUpTo, se_X7_marksUpTo, ini_X7, co_X7_marksUpTo, by decide +kernel⟩
def F_X7_marksUpTo (x1 : Int32) (t : SieveT) : Option (Int32) :=
 (if 2 ≤ x1 then (if x1 < t.2.2.1 then ix x1 4802 (some (t.2.1 x1.toNatClampNeg)) else some t.2.2.2.1) else some 0)
abbrev RM_X7_marksUpTo : Room := ({ frames := 0, cells := 0, slots := 0, locals := 0 } : Room)
set_option maxHeartbeats 4000000 in
set_option maxRecDepth 100000 in
theorem c_X7_marksUpTo (l : Launch) (G : va_G) (ca Z : Nat → Nat) (q_t : Nat) (q_t_counts : Nat) (z_t_owners : Value) (sz : Nat) (x1 : Int32) (t : SieveT) (res : Int32) (hF : F_X7_marksUpTo x1 t = some res) : Met l yX7_marksUpTo (.code yX7_marksUpTo cX7_marksUpTo 2 (Option.some Jvm.ClassFile.FieldType.int) :: sw_U) RM_X7_marksUpTo (va_Pc [.ref q_t, .int x1] (sw_Pre G ca Z [(q_t, .inr (5, [z_t_owners, .ref q_t_counts, .int t.2.2.1, .int t.2.2.2.1, .int t.2.2.2.2.1, .int t.2.2.2.2.2])), (q_t_counts, .inl (ca 0, 4802, .inl t.2.1))] sz)) ((fun A => va_Qi (fun r (u : Unit) => res = r) (sw_Post G A (fun (u : Unit) => [(q_t, .inr (5, [z_t_owners, .ref q_t_counts, .int t.2.2.1, .int t.2.2.2.1, .int t.2.2.2.2.1, .int t.2.2.2.2.2])), (q_t_counts, .inl (ca 0, 4802, .inl t.2.1))])) A) (va_A [(q_t, .inr (5, [z_t_owners, .ref q_t_counts, .int t.2.2.1, .int t.2.2.2.1, .int t.2.2.2.2.1, .int t.2.2.2.2.2])), (q_t_counts, .inl (ca 0, 4802, .inl t.2.1))] sz)) 0 0 (va_A [(q_t, .inr (5, [z_t_owners, .ref q_t_counts, .int t.2.2.1, .int t.2.2.2.1, .int t.2.2.2.2.1, .int t.2.2.2.2.2])), (q_t_counts, .inl (ca 0, 4802, .inl t.2.1))] sz) := by
  refine sw_ofW (Qc := fun A => va_Qi (fun r (u : Unit) => res = r) (sw_Post G A (fun (u : Unit) => [(q_t, .inr (5, [z_t_owners, .ref q_t_counts, .int t.2.2.1, .int t.2.2.2.1, .int t.2.2.2.2.1, .int t.2.2.2.2.2])), (q_t_counts, .inl (ca 0, 4802, .inl t.2.1))])) A) (by decide) [(0, .ref q_t), (1, .int x1)] rfl (Nat.le_of_ble_eq_true rfl) ?_
  intro p e s m args below meth c ls A hx hb hr hml hown htU hlocks hnm hP hK hD hX hY hS hA hl
  have hown : s.vm.findClass RX7 = some m.cls := hown
  have Cx : sw_Cx p s m args c cX7_marksUpTo 2 RX7 G ca Z A := ⟨⟨hx, hb, hml, hown, htU⟩, hK, hX, hY, hA⟩
  have h := hF
  unfold F_X7_marksUpTo at h
  refine lv_iload_n hx hb dX7_marksUpTo_0 rfl (lv_at hl 1 rfl) ?_
  refine lv_iconst (v := 2) hx hb dX7_marksUpTo_1 (by decide) ?_
  refine lv_icmp_ge (tgt := 7) hx hb dX7_marksUpTo_2 (by decide) (fun c_1 => ?_) (fun c_1 => ?_)
  · have h := if_t c_1 h
    refine lv_iload_n hx hb dX7_marksUpTo_7 rfl (lv_at hl 1 rfl) ?_
    refine lv_aload_n hx hb dX7_marksUpTo_8 rfl (lv_at hl 0 rfl) ?_
    refine va_get (v := .int t.2.2.1) hx hb htU iU_X7 hown hK hP 0 rfl rfl 2 (by decide) (htU _ fl_X7_18) (fun _ h9 => h9) rfl dX7_marksUpTo_9 ?_
    refine lv_icmp_lt (tgt := 22) hx hb dX7_marksUpTo_12 (by decide) (fun c_2 => ?_) (fun c_2 => ?_)
    · have h := if_t c_2 h
      refine lv_aload_n hx hb dX7_marksUpTo_22 rfl (lv_at hl 0 rfl) ?_
      refine va_get (v := .ref q_t_counts) hx hb htU iU_X7 hown hK hP 0 rfl rfl 1 (by decide) (htU _ fl_X7_15) (fun _ h9 => h9) rfl dX7_marksUpTo_23 ?_
      refine lv_iload_n hx hb dX7_marksUpTo_26 rfl (lv_at hl 1 rfl) ?_
      obtain ⟨hi_3, h⟩ := ix_at h
      refine va_iald hx hb hK hP 1 0 rfl rfl hi_3 dX7_marksUpTo_27 ?_
      exact sw_ri hx hb hr hlocks hS () (pr1 h) hP hD dX7_marksUpTo_28
    · have h := if_f c_2 h
      refine lv_aload_n hx hb dX7_marksUpTo_15 rfl (lv_at hl 0 rfl) ?_
      refine va_get (v := .int t.2.2.2.1) hx hb htU iU_X7 hown hK hP 0 rfl rfl 3 (by decide) (htU _ fl_X7_22) (fun _ h9 => h9) rfl dX7_marksUpTo_16 ?_
      refine lv_goto (tgt := 28) hx hb dX7_marksUpTo_19 (by decide) ?_
      exact sw_ri hx hb hr hlocks hS () (pr1 h) hP hD dX7_marksUpTo_28
  · have h := if_f c_1 h
    refine lv_iconst (v := 0) hx hb dX7_marksUpTo_5 (by decide) ?_
    exact sw_ri hx hb hr hlocks hS () (pr1 h) hP hD dX7_marksUpTo_6
theorem mv_X7_marksBetween : sw_MV yX7_marksBetween RX7 cX7_marksBetween 4 (Option.some Jvm.ClassFile.FieldType.int) 2 := ⟨im_X7_marksBetween, se_X7_marksBetween, ini_X7, co_X7_marksBetween, by decide +kernel⟩
def F_X7_marksBetween (x1 : Int32) (x2 : Int32) (t : SieveT) : Option (Int32) :=
 nm ((if x1 < 2 then 2 else x1)) (fun x3_1 => (if x3_1 ≤ x2 then (F_X7_marksUpTo x2 t).bind (fun w_3 => (F_X7_marksUpTo (x3_1 - 1) t).bind (fun w_5 => some (w_3 - w_5))) else some 0))
abbrev RM_X7_marksBetween : Room := ({ frames := 1, cells := 0, slots := 0, locals := 21 } : Room)
set_option maxHeartbeats 4000000 in
set_option maxRecDepth 100000 in
theorem c_X7_marksBetween (l : Launch) (G : va_G) (ca Z : Nat → Nat) (q_t : Nat) (q_t_counts : Nat) (z_t_owners : Value) (sz : Nat) (x1 : Int32) (x2 : Int32) (t : SieveT) (res : Int32) (hF : F_X7_marksBetween x1 x2 t = some res) : Met l yX7_marksBetween (.code yX7_marksBetween cX7_marksBetween 4 (Option.some Jvm.ClassFile.FieldType.int) :: sw_U) RM_X7_marksBetween (va_Pc [.ref q_t, .int x1, .int x2] (sw_Pre G ca Z [(q_t, .inr (5, [z_t_owners, .ref q_t_counts, .int t.2.2.1, .int t.2.2.2.1, .int t.2.2.2.2.1, .int t.2.2.2.2.2])), (q_t_counts, .inl (ca 0, 4802, .inl t.2.1))] sz)) ((fun A => va_Qi (fun r (u : Unit) => res = r) (sw_Post G A (fun (u : Unit) => [(q_t, .inr (5, [z_t_owners, .ref q_t_counts, .int t.2.2.1, .int t.2.2.2.1, .int t.2.2.2.2.1, .int t.2.2.2.2.2])), (q_t_counts, .inl (ca 0, 4802, .inl t.2.1))])) A) (va_A [(q_t, .inr (5, [z_t_owners, .ref q_t_counts, .int t.2.2.1, .int t.2.2.2.1, .int t.2.2.2.2.1, .int t.2.2.2.2.2])), (q_t_counts, .inl (ca 0, 4802, .inl t.2.1))] sz)) 0 0 (va_A [(q_t, .inr (5, [z_t_owners, .ref q_t_counts, .int t.2.2.1, .int t.2.2.2.1, .int t.2.2.2.2.1, .int t.2.2.2.2.2])), (q_t_counts, .inl (ca 0, 4802, .inl t.2.1))] sz) := by
  refine sw_ofW (Qc := fun A => va_Qi (fun r (u : Unit) => res = r) (sw_Post G A (fun (u : Unit) => [(q_t, .inr (5, [z_t_owners, .ref q_t_counts, .int t.2.2.1, .int t.2.2.2.1, .int t.2.2.2.2.1, .int t.2.2.2.2.2])), (q_t_counts, .inl (ca 0, 4802, .inl t.2.1))])) A) (by decide) [(0, .ref q_t), (1, .int x1), (2, .int x2)] rfl (Nat.le_of_ble_eq_true rfl) ?_
  intro p e s m args below meth c ls A hx hb hr hml hown htU hlocks hnm hP hK hD hX hY hS hA hl
  have hown : s.vm.findClass RX7 = some m.cls := hown
  have Cx : sw_Cx p s m args c cX7_marksBetween 4 RX7 G ca Z A := ⟨⟨hx, hb, hml, hown, htU⟩, hK, hX, hY, hA⟩
  have h := hF
  unfold F_X7_marksBetween at h
  refine lv_iload_n hx hb dX7_marksBetween_0 rfl (lv_at hl 1 rfl) ?_
  refine lv_iconst (v := 2) hx hb dX7_marksBetween_1 (by decide) ?_
  refine va_mmax hx hb (hml.trans hl.1.symm) hown (htU _ mm_X7_71) (htU _ mm_st_max) (htU _ mm_ini) (htU _ mm_co_max) (Nat.le_of_ble_eq_true rfl) (Nat.le_of_ble_eq_true rfl) (Nat.le_of_ble_eq_true rfl) (Nat.le_of_ble_eq_true rfl) dX7_marksBetween_2 ?_
  refine lv_topi (fun x3_1 e_x3_1 => ?_)
  have h := nm_at e_x3_1 h
  refine lv_istore_n (lv' := [(3, .int x3_1), (0, .ref q_t), (1, .int x1), (2, .int x2)]) hx hb dX7_marksBetween_5 rfl hl (by decide) rfl (fun ls hl => ?_)
  refine lv_iload_n hx hb dX7_marksBetween_6 rfl (lv_at hl 3 rfl) ?_
  refine lv_iload_n hx hb dX7_marksBetween_7 rfl (lv_at hl 0 rfl) ?_
  refine lv_icmp_ge (tgt := 15) hx hb dX7_marksBetween_8 (by decide) (fun c_2 => ?_) (fun c_2 => ?_)
  · have h := if_t c_2 h
    refine lv_aload_n hx hb dX7_marksBetween_15 rfl (lv_at hl 1 rfl) ?_
    refine lv_iload_n hx hb dX7_marksBetween_16 rfl (lv_at hl 3 rfl) ?_
    obtain ⟨w_3, hg_4, h⟩ := bd_at h
    refine sw_ci (sw_runV (As := [.int x2]) (rest := []) Cx hP hD hS mv_X7_marksUpTo ml_X7_74 (c_X7_marksUpTo l G ca Z q_t q_t_counts (z_t_owners) s.heap.size x2 t w_3 hg_4) 5 rfl rfl rfl [0, 1] rfl rfl rfl rfl ⟨(Nat.le_of_ble_eq_true rfl), (Nat.le_of_ble_eq_true rfl)⟩ hl.1 rfl rfl (Nat.le_of_ble_eq_true rfl) dX7_marksBetween_17 ⟨(Nat.le_of_ble_eq_true rfl), (Nat.le_of_ble_eq_true rfl)⟩) hP hD hS hA [0, 1] [] [0, 1] rfl rfl rfl (by decide) (fun _ => rfl) rfl (fun r u H locs hw hP hD hS => ?_)
    subst hw
    have hP : va_P G vwCl [(q_t, .inr (5, [z_t_owners, .ref q_t_counts, .int t.2.2.1, .int t.2.2.2.1, .int t.2.2.2.2.1, .int t.2.2.2.2.2])), (q_t_counts, .inl (ca 0, 4802, .inl t.2.1))] H := hP
    have hD : va_D A [(q_t, .inr (5, [z_t_owners, .ref q_t_counts, .int t.2.2.1, .int t.2.2.2.1, .int t.2.2.2.2.1, .int t.2.2.2.2.2])), (q_t_counts, .inl (ca 0, 4802, .inl t.2.1))] := hD
    refine lv_aload_n hx hb dX7_marksBetween_20 rfl (lv_at hl 1 rfl) ?_
    refine lv_iload_n hx hb dX7_marksBetween_21 rfl (lv_at hl 0 rfl) ?_
    refine lv_iconst (v := 1) hx hb dX7_marksBetween_22 (by decide) ?_
    refine lv_isub hx hb dX7_marksBetween_23 ?_
    obtain ⟨w_5, hg_6, h⟩ := bd_at h
    refine sw_ci (sw_runV (As := [.int (x3_1 - 1)]) (rest := [.int w_3]) Cx hP hD hS mv_X7_marksUpTo ml_X7_74 (c_X7_marksUpTo l G ca Z q_t q_t_counts (z_t_owners) H.size (x3_1 - 1) t w_5 hg_6) 5 rfl rfl rfl [0, 1] rfl rfl rfl rfl ⟨(Nat.le_of_ble_eq_true rfl), (Nat.le_of_ble_eq_true rfl)⟩ hl.1 rfl rfl (Nat.le_of_ble_eq_true rfl) dX7_marksBetween_24 ⟨(Nat.le_of_ble_eq_true rfl), (Nat.le_of_ble_eq_true rfl)⟩) hP hD hS hA [0, 1] [] [0, 1] rfl rfl rfl (by decide) (fun _ => rfl) rfl (fun r u H locs hw hP hD hS => ?_)
    subst hw
    have hP : va_P G vwCl [(q_t, .inr (5, [z_t_owners, .ref q_t_counts, .int t.2.2.1, .int t.2.2.2.1, .int t.2.2.2.2.1, .int t.2.2.2.2.2])), (q_t_counts, .inl (ca 0, 4802, .inl t.2.1))] H := hP
    have hD : va_D A [(q_t, .inr (5, [z_t_owners, .ref q_t_counts, .int t.2.2.1, .int t.2.2.2.1, .int t.2.2.2.2.1, .int t.2.2.2.2.2])), (q_t_counts, .inl (ca 0, 4802, .inl t.2.1))] := hD
    refine lv_isub hx hb dX7_marksBetween_27 ?_
    exact sw_ri hx hb hr hlocks hS () (pr1 h) hP hD dX7_marksBetween_28
  · have h := if_f c_2 h
    refine lv_iconst (v := 0) hx hb dX7_marksBetween_11 (by decide) ?_
    refine lv_goto (tgt := 28) hx hb dX7_marksBetween_12 (by decide) ?_
    exact sw_ri hx hb hr hlocks hS () (pr1 h) hP hD dX7_marksBetween_28
theorem mv_X7_markAbove : sw_MV yX7_markAbove RX7 cX7_markAbove 3 (Option.some Jvm.ClassFile.FieldType.int) 1 := ⟨im_X7_markAbove, se_X7_markAbove, ini_X7, co_X7_markAbove, by decide +kernel⟩
def B_X7_markAbove_6 (x1 : Int32) (t : SieveT) (k_6 : Int32 → Option (Int32)) (x2 : Int32) : Option (Int32) :=
 (if t.2.2.1 ≤ x2 then some (-1) else ix (x2 + 1) 4802 ((if (t.1 (x2 + 1).toNatClampNeg) = 0 then some (x2 + 1) else nm (x2 + 1) (fun x2_5 => k_6 x2_5))))
def F_X7_markAbove (x1 : Int32) (t : SieveT) : Option (Int32) :=
 nm ((if x1 < 1 then 1 else x1)) (fun x2_1 => fx (fun _ => none) (B_X7_markAbove_6 x1 t) FUEL x2_1)
abbrev RM_X7_markAbove : Room := ({ frames := 1, cells := 0, slots := 0, locals := 13 } : Room)
set_option maxHeartbeats 4000000 in
set_option maxRecDepth 100000 in
theorem c_X7_markAbove (l : Launch) (G : va_G) (ca Z : Nat → Nat) (q_t : Nat) (q_t_owners : Nat) (z_t_counts : Value) (sz : Nat) (x1 : Int32) (t : SieveT) (res : Int32) (hF : F_X7_markAbove x1 t = some res) : Met l yX7_markAbove (.code yX7_markAbove cX7_markAbove 3 (Option.some Jvm.ClassFile.FieldType.int) :: sw_U) RM_X7_markAbove (va_Pc [.ref q_t, .int x1] (sw_Pre G ca Z [(q_t, .inr (5, [.ref q_t_owners, z_t_counts, .int t.2.2.1, .int t.2.2.2.1, .int t.2.2.2.2.1, .int t.2.2.2.2.2])), (q_t_owners, .inl (ca 0, 4802, .inl t.1))] sz)) ((fun A => va_Qi (fun r (u : Unit) => res = r) (sw_Post G A (fun (u : Unit) => [(q_t, .inr (5, [.ref q_t_owners, z_t_counts, .int t.2.2.1, .int t.2.2.2.1, .int t.2.2.2.2.1, .int t.2.2.2.2.2])), (q_t_owners, .inl (ca 0, 4802, .inl t.1))])) A) (va_A [(q_t, .inr (5, [.ref q_t_owners, z_t_counts, .int t.2.2.1, .int t.2.2.2.1, .int t.2.2.2.2.1, .int t.2.2.2.2.2])), (q_t_owners, .inl (ca 0, 4802, .inl t.1))] sz)) 0 0 (va_A [(q_t, .inr (5, [.ref q_t_owners, z_t_counts, .int t.2.2.1, .int t.2.2.2.1, .int t.2.2.2.2.1, .int t.2.2.2.2.2])), (q_t_owners, .inl (ca 0, 4802, .inl t.1))] sz) := by
  refine sw_ofW (Qc := fun A => va_Qi (fun r (u : Unit) => res = r) (sw_Post G A (fun (u : Unit) => [(q_t, .inr (5, [.ref q_t_owners, z_t_counts, .int t.2.2.1, .int t.2.2.2.1, .int t.2.2.2.2.1, .int t.2.2.2.2.2])), (q_t_owners, .inl (ca 0, 4802, .inl t.1))])) A) (by decide) [(0, .ref q_t), (1, .int x1)] rfl (Nat.le_of_ble_eq_true rfl) ?_
  intro p e s m args below meth c ls A hx hb hr hml hown htU hlocks hnm hP hK hD hX hY hS hA hl
  have hown : s.vm.findClass RX7 = some m.cls := hown
  have Cx : sw_Cx p s m args c cX7_markAbove 3 RX7 G ca Z A := ⟨⟨hx, hb, hml, hown, htU⟩, hK, hX, hY, hA⟩
  have h := hF
  unfold F_X7_markAbove at h
  have hL_6 : ∀ (n_6 : Nat) (x2 : Int32) (ls : Array Slot) (H : Heap) (locs : List Loc), lv_has ls 3 [(0, .ref q_t), (2, .int x2)] → va_P G vwCl [(q_t, .inr (5, [.ref q_t_owners, z_t_counts, .int t.2.2.1, .int t.2.2.2.1, .int t.2.2.2.2.1, .int t.2.2.2.2.2])), (q_t_owners, .inl (ca 0, 4802, .inl t.1))] H → va_D A [(q_t, .inr (5, [.ref q_t_owners, z_t_counts, .int t.2.2.1, .int t.2.2.2.1, .int t.2.2.2.2.1, .int t.2.2.2.2.2])), (q_t_owners, .inl (ca 0, 4802, .inl t.1))] → va_S A s.heap H locs → fx (fun _ => none) (B_X7_markAbove_6 x1 t) n_6 x2 = some res → W p l e RM_X7_markAbove s m args below meth c H locs 0 0 (MQ below ((fun A => va_Qi (fun r (u : Unit) => res = r) (sw_Post G A (fun (u : Unit) => [(q_t, .inr (5, [.ref q_t_owners, z_t_counts, .int t.2.2.1, .int t.2.2.2.1, .int t.2.2.2.2.1, .int t.2.2.2.2.2])), (q_t_owners, .inl (ca 0, 4802, .inl t.1))])) A) A) args s 0 0 A) (F0 m 6 ls []) := by
    intro n_6
    induction n_6 with
    | zero => intro x2 ls H locs hl hP hD hS h; exact no_at h
    | succ n_6 ih_6 =>
      intro x2 ls H locs hl hP hD hS h
      rw [fx_s] at h
      unfold B_X7_markAbove_6 at h
      refine lv_iload_n hx hb dX7_markAbove_6 rfl (lv_at hl 1 rfl) ?_
      refine lv_aload_n hx hb dX7_markAbove_7 rfl (lv_at hl 0 rfl) ?_
      refine va_get (v := .int t.2.2.1) hx hb htU iU_X7 hown hK hP 0 rfl rfl 2 (by decide) (htU _ fl_X7_18) (fun _ h9 => h9) rfl dX7_markAbove_8 ?_
      refine lv_icmp_ge (tgt := 35) hx hb dX7_markAbove_11 (by decide) (fun c_2 => ?_) (fun c_2 => ?_)
      · have h := if_t c_2 h
        refine lv_iconst (v := (-1)) hx hb dX7_markAbove_35 (by decide) ?_
        exact sw_ri hx hb hr hlocks hS () (pr1 h) hP hD dX7_markAbove_36
      · have h := if_f c_2 h
        refine lv_aload_n hx hb dX7_markAbove_14 rfl (lv_at hl 0 rfl) ?_
        refine va_get (v := .ref q_t_owners) hx hb htU iU_X7 hown hK hP 0 rfl rfl 0 (by decide) (htU _ fl_X7_9) (fun _ h9 => h9) rfl dX7_markAbove_15 ?_
        refine lv_iload_n hx hb dX7_markAbove_18 rfl (lv_at hl 1 rfl) ?_
        refine lv_iconst (v := 1) hx hb dX7_markAbove_19 (by decide) ?_
        refine lv_iadd hx hb dX7_markAbove_20 ?_
        obtain ⟨hi_3, h⟩ := ix_at h
        refine va_iald hx hb hK hP 1 0 rfl rfl hi_3 dX7_markAbove_21 ?_
        refine lv_if_ne (tgt := 29) hx hb dX7_markAbove_22 (by decide) (fun c_4 => ?_) (fun c_4 => ?_)
        · have h := if_f c_4 h
          obtain ⟨x2_5, e_x2_5⟩ : ∃ y : Int32, y = x2 + 1 := ⟨_, rfl⟩
          refine lv_iinc (v := x2_5) (lv' := [(2, .int x2_5), (0, .ref q_t)]) hx hb dX7_markAbove_29 hl (k := 1) rfl (by rw [e_x2_5]; rfl) (by decide) rfl (fun ls hl => ?_)
          have h := nm_at e_x2_5 h
          refine lv_goto (tgt := 6) hx hb dX7_markAbove_32 (by decide) ?_
          exact ih_6 x2_5 ls H _ (lv_sub hl [1, 0] rfl) hP hD hS h
        · have h := if_t c_4 h
          refine lv_iload_n hx hb dX7_markAbove_25 rfl (lv_at hl 1 rfl) ?_
          refine lv_iconst (v := 1) hx hb dX7_markAbove_26 (by decide) ?_
          refine lv_iadd hx hb dX7_markAbove_27 ?_
          exact sw_ri hx hb hr hlocks hS () (pr1 h) hP hD dX7_markAbove_28
  refine lv_iload_n hx hb dX7_markAbove_0 rfl (lv_at hl 1 rfl) ?_
  refine lv_iconst (v := 1) hx hb dX7_markAbove_1 (by decide) ?_
  refine va_mmax hx hb (hml.trans hl.1.symm) hown (htU _ mm_X7_71) (htU _ mm_st_max) (htU _ mm_ini) (htU _ mm_co_max) (Nat.le_of_ble_eq_true rfl) (Nat.le_of_ble_eq_true rfl) (Nat.le_of_ble_eq_true rfl) (Nat.le_of_ble_eq_true rfl) dX7_markAbove_2 ?_
  refine lv_topi (fun x2_1 e_x2_1 => ?_)
  have h := nm_at e_x2_1 h
  refine lv_istore_n (lv' := [(2, .int x2_1), (0, .ref q_t), (1, .int x1)]) hx hb dX7_markAbove_5 rfl hl (by decide) rfl (fun ls hl => ?_)
  exact hL_6 FUEL x2_1 ls s.heap _ (lv_sub hl [1, 0] rfl) hP hD hS h
theorem mv_X7_markBelow : sw_MV yX7_markBelow RX7 cX7_markBelow 3 (Option.some Jvm.ClassFile.FieldType.int) 1 := ⟨im_X7_markBelow, se_X7_markBelow, ini_X7, co_X7_markBelow, by decide +kernel⟩
def B_X7_markBelow_11 (x1 : Int32) (t : SieveT) (k_11 : Int32 → Option (Int32)) (x2 : Int32) : Option (Int32) :=
 (if x2 ≤ 2 then some (-1) else ix (x2 - 1) 4802 ((if (t.1 (x2 - 1).toNatClampNeg) = 0 then some (x2 - 1) else nm (x2 + (-1)) (fun x2_5 => k_11 x2_5))))
def F_X7_markBelow (x1 : Int32) (t : SieveT) : Option (Int32) :=
 nm ((if (t.2.2.1 + 1) < x1 then (t.2.2.1 + 1) else x1)) (fun x2_1 => fx (fun _ => none) (B_X7_markBelow_11 x1 t) FUEL x2_1)
abbrev RM_X7_markBelow : Room := ({ frames := 1, cells := 0, slots := 0, locals := 13 } : Room)
set_option maxHeartbeats 4000000 in
set_option maxRecDepth 100000 in
theorem c_X7_markBelow (l : Launch) (G : va_G) (ca Z : Nat → Nat) (q_t : Nat) (q_t_owners : Nat) (z_t_counts : Value) (sz : Nat) (x1 : Int32) (t : SieveT) (res : Int32) (hF : F_X7_markBelow x1 t = some res) : Met l yX7_markBelow (.code yX7_markBelow cX7_markBelow 3 (Option.some Jvm.ClassFile.FieldType.int) :: sw_U) RM_X7_markBelow (va_Pc [.ref q_t, .int x1] (sw_Pre G ca Z [(q_t, .inr (5, [.ref q_t_owners, z_t_counts, .int t.2.2.1, .int t.2.2.2.1, .int t.2.2.2.2.1, .int t.2.2.2.2.2])), (q_t_owners, .inl (ca 0, 4802, .inl t.1))] sz)) ((fun A => va_Qi (fun r (u : Unit) => res = r) (sw_Post G A (fun (u : Unit) => [(q_t, .inr (5, [.ref q_t_owners, z_t_counts, .int t.2.2.1, .int t.2.2.2.1, .int t.2.2.2.2.1, .int t.2.2.2.2.2])), (q_t_owners, .inl (ca 0, 4802, .inl t.1))])) A) (va_A [(q_t, .inr (5, [.ref q_t_owners, z_t_counts, .int t.2.2.1, .int t.2.2.2.1, .int t.2.2.2.2.1, .int t.2.2.2.2.2])), (q_t_owners, .inl (ca 0, 4802, .inl t.1))] sz)) 0 0 (va_A [(q_t, .inr (5, [.ref q_t_owners, z_t_counts, .int t.2.2.1, .int t.2.2.2.1, .int t.2.2.2.2.1, .int t.2.2.2.2.2])), (q_t_owners, .inl (ca 0, 4802, .inl t.1))] sz) := by
  refine sw_ofW (Qc := fun A => va_Qi (fun r (u : Unit) => res = r) (sw_Post G A (fun (u : Unit) => [(q_t, .inr (5, [.ref q_t_owners, z_t_counts, .int t.2.2.1, .int t.2.2.2.1, .int t.2.2.2.2.1, .int t.2.2.2.2.2])), (q_t_owners, .inl (ca 0, 4802, .inl t.1))])) A) (by decide) [(0, .ref q_t), (1, .int x1)] rfl (Nat.le_of_ble_eq_true rfl) ?_
  intro p e s m args below meth c ls A hx hb hr hml hown htU hlocks hnm hP hK hD hX hY hS hA hl
  have hown : s.vm.findClass RX7 = some m.cls := hown
  have Cx : sw_Cx p s m args c cX7_markBelow 3 RX7 G ca Z A := ⟨⟨hx, hb, hml, hown, htU⟩, hK, hX, hY, hA⟩
  have h := hF
  unfold F_X7_markBelow at h
  have hL_11 : ∀ (n_11 : Nat) (x2 : Int32) (ls : Array Slot) (H : Heap) (locs : List Loc), lv_has ls 3 [(0, .ref q_t), (2, .int x2)] → va_P G vwCl [(q_t, .inr (5, [.ref q_t_owners, z_t_counts, .int t.2.2.1, .int t.2.2.2.1, .int t.2.2.2.2.1, .int t.2.2.2.2.2])), (q_t_owners, .inl (ca 0, 4802, .inl t.1))] H → va_D A [(q_t, .inr (5, [.ref q_t_owners, z_t_counts, .int t.2.2.1, .int t.2.2.2.1, .int t.2.2.2.2.1, .int t.2.2.2.2.2])), (q_t_owners, .inl (ca 0, 4802, .inl t.1))] → va_S A s.heap H locs → fx (fun _ => none) (B_X7_markBelow_11 x1 t) n_11 x2 = some res → W p l e RM_X7_markBelow s m args below meth c H locs 0 0 (MQ below ((fun A => va_Qi (fun r (u : Unit) => res = r) (sw_Post G A (fun (u : Unit) => [(q_t, .inr (5, [.ref q_t_owners, z_t_counts, .int t.2.2.1, .int t.2.2.2.1, .int t.2.2.2.2.1, .int t.2.2.2.2.2])), (q_t_owners, .inl (ca 0, 4802, .inl t.1))])) A) A) args s 0 0 A) (F0 m 11 ls []) := by
    intro n_11
    induction n_11 with
    | zero => intro x2 ls H locs hl hP hD hS h; exact no_at h
    | succ n_11 ih_11 =>
      intro x2 ls H locs hl hP hD hS h
      rw [fx_s] at h
      unfold B_X7_markBelow_11 at h
      refine lv_iload_n hx hb dX7_markBelow_11 rfl (lv_at hl 1 rfl) ?_
      refine lv_iconst (v := 2) hx hb dX7_markBelow_12 (by decide) ?_
      refine lv_icmp_le (tgt := 37) hx hb dX7_markBelow_13 (by decide) (fun c_2 => ?_) (fun c_2 => ?_)
      · have h := if_t c_2 h
        refine lv_iconst (v := (-1)) hx hb dX7_markBelow_37 (by decide) ?_
        exact sw_ri hx hb hr hlocks hS () (pr1 h) hP hD dX7_markBelow_38
      · have h := if_f c_2 h
        refine lv_aload_n hx hb dX7_markBelow_16 rfl (lv_at hl 0 rfl) ?_
        refine va_get (v := .ref q_t_owners) hx hb htU iU_X7 hown hK hP 0 rfl rfl 0 (by decide) (htU _ fl_X7_9) (fun _ h9 => h9) rfl dX7_markBelow_17 ?_
        refine lv_iload_n hx hb dX7_markBelow_20 rfl (lv_at hl 1 rfl) ?_
        refine lv_iconst (v := 1) hx hb dX7_markBelow_21 (by decide) ?_
        refine lv_isub hx hb dX7_markBelow_22 ?_
        obtain ⟨hi_3, h⟩ := ix_at h
        refine va_iald hx hb hK hP 1 0 rfl rfl hi_3 dX7_markBelow_23 ?_
        refine lv_if_ne (tgt := 31) hx hb dX7_markBelow_24 (by decide) (fun c_4 => ?_) (fun c_4 => ?_)
        · have h := if_f c_4 h
          obtain ⟨x2_5, e_x2_5⟩ : ∃ y : Int32, y = x2 + (-1) := ⟨_, rfl⟩
          refine lv_iinc (v := x2_5) (lv' := [(2, .int x2_5), (0, .ref q_t)]) hx hb dX7_markBelow_31 hl (k := 1) rfl (by rw [e_x2_5]; rfl) (by decide) rfl (fun ls hl => ?_)
          have h := nm_at e_x2_5 h
          refine lv_goto (tgt := 11) hx hb dX7_markBelow_34 (by decide) ?_
          exact ih_11 x2_5 ls H _ (lv_sub hl [1, 0] rfl) hP hD hS h
        · have h := if_t c_4 h
          refine lv_iload_n hx hb dX7_markBelow_27 rfl (lv_at hl 1 rfl) ?_
          refine lv_iconst (v := 1) hx hb dX7_markBelow_28 (by decide) ?_
          refine lv_isub hx hb dX7_markBelow_29 ?_
          exact sw_ri hx hb hr hlocks hS () (pr1 h) hP hD dX7_markBelow_30
  refine lv_iload_n hx hb dX7_markBelow_0 rfl (lv_at hl 1 rfl) ?_
  refine lv_aload_n hx hb dX7_markBelow_1 rfl (lv_at hl 0 rfl) ?_
  refine va_get (v := .int t.2.2.1) hx hb htU iU_X7 hown hK hP 0 rfl rfl 2 (by decide) (htU _ fl_X7_18) (fun _ h9 => h9) rfl dX7_markBelow_2 ?_
  refine lv_iconst (v := 1) hx hb dX7_markBelow_5 (by decide) ?_
  refine lv_iadd hx hb dX7_markBelow_6 ?_
  refine va_mmin hx hb (hml.trans hl.1.symm) hown (htU _ mm_X7_40) (htU _ mm_st_min) (htU _ mm_ini) (htU _ mm_co_min) (Nat.le_of_ble_eq_true rfl) (Nat.le_of_ble_eq_true rfl) (Nat.le_of_ble_eq_true rfl) (Nat.le_of_ble_eq_true rfl) dX7_markBelow_7 ?_
  refine lv_topi (fun x2_1 e_x2_1 => ?_)
  have h := nm_at e_x2_1 h
  refine lv_istore_n (lv' := [(2, .int x2_1), (0, .ref q_t), (1, .int x1)]) hx hb dX7_markBelow_10 rfl hl (by decide) rfl (fun ls hl => ?_)
  exact hL_11 FUEL x2_1 ls s.heap _ (lv_sub hl [1, 0] rfl) hP hD hS h
theorem mv_X7_spokesBetween : sw_MV yX7_spokesBetween RX7 cX7_spokesBetween 6 (Option.some Jvm.ClassFile.FieldType.int) 2 := ⟨im_X7_spokesBetween, se_X7_spokesBetween, ini_X7, co_X7_spokesBetween, by decide +kernel⟩
def B_X7_spokesBetween_19 (x1 : Int32) (x2 : Int32) (t : SieveT) (k_19 : Int32 → Int32 → Int32 → Option (Int32)) (x3 : Int32) (x4 : Int32) (x5 : Int32) : Option (Int32) :=
 (if x4 < x5 then some x3 else ix x5 4802 ((if (t.1 x5.toNatClampNeg) = (-1) then nm (x5 + 1) (fun x5_6 => k_19 x3 x4 x5_6) else nm (x3 + 1) (fun x3_7 => nm (x5 + 1) (fun x5_8 => k_19 x3_7 x4 x5_8)))))
def F_X7_spokesBetween (x1 : Int32) (x2 : Int32) (t : SieveT) : Option (Int32) :=
 nm ((if t.2.2.1 < x2 then t.2.2.1 else x2)) (fun x4_1 => nm ((if x1 < 2 then 2 else x1)) (fun x5_2 => fx (fun _ _ _ => none) (B_X7_spokesBetween_19 x1 x2 t) FUEL 0 x4_1 x5_2))
abbrev RM_X7_spokesBetween : Room := ({ frames := 1, cells := 0, slots := 0, locals := 13 } : Room)
set_option maxHeartbeats 4000000 in
set_option maxRecDepth 100000 in
theorem c_X7_spokesBetween (l : Launch) (G : va_G) (ca Z : Nat → Nat) (q_t : Nat) (q_t_owners : Nat) (z_t_counts : Value) (sz : Nat) (x1 : Int32) (x2 : Int32) (t : SieveT) (res : Int32) (hF : F_X7_spokesBetween x1 x2 t = some res) : Met l yX7_spokesBetween (.code yX7_spokesBetween cX7_spokesBetween 6 (Option.some Jvm.ClassFile.FieldType.int) :: sw_U) RM_X7_spokesBetween (va_Pc [.ref q_t, .int x1, .int x2] (sw_Pre G ca Z [(q_t, .inr (5, [.ref q_t_owners, z_t_counts, .int t.2.2.1, .int t.2.2.2.1, .int t.2.2.2.2.1, .int t.2.2.2.2.2])), (q_t_owners, .inl (ca 0, 4802, .inl t.1))] sz)) ((fun A => va_Qi (fun r (u : Unit) => res = r) (sw_Post G A (fun (u : Unit) => [(q_t, .inr (5, [.ref q_t_owners, z_t_counts, .int t.2.2.1, .int t.2.2.2.1, .int t.2.2.2.2.1, .int t.2.2.2.2.2])), (q_t_owners, .inl (ca 0, 4802, .inl t.1))])) A) (va_A [(q_t, .inr (5, [.ref q_t_owners, z_t_counts, .int t.2.2.1, .int t.2.2.2.1, .int t.2.2.2.2.1, .int t.2.2.2.2.2])), (q_t_owners, .inl (ca 0, 4802, .inl t.1))] sz)) 0 0 (va_A [(q_t, .inr (5, [.ref q_t_owners, z_t_counts, .int t.2.2.1, .int t.2.2.2.1, .int t.2.2.2.2.1, .int t.2.2.2.2.2])), (q_t_owners, .inl (ca 0, 4802, .inl t.1))] sz) := by
  refine sw_ofW (Qc := fun A => va_Qi (fun r (u : Unit) => res = r) (sw_Post G A (fun (u : Unit) => [(q_t, .inr (5, [.ref q_t_owners, z_t_counts, .int t.2.2.1, .int t.2.2.2.1, .int t.2.2.2.2.1, .int t.2.2.2.2.2])), (q_t_owners, .inl (ca 0, 4802, .inl t.1))])) A) (by decide) [(0, .ref q_t), (1, .int x1), (2, .int x2)] rfl (Nat.le_of_ble_eq_true rfl) ?_
  intro p e s m args below meth c ls A hx hb hr hml hown htU hlocks hnm hP hK hD hX hY hS hA hl
  have hown : s.vm.findClass RX7 = some m.cls := hown
  have Cx : sw_Cx p s m args c cX7_spokesBetween 6 RX7 G ca Z A := ⟨⟨hx, hb, hml, hown, htU⟩, hK, hX, hY, hA⟩
  have h := hF
  unfold F_X7_spokesBetween at h
  have hL_19 : ∀ (n_19 : Nat) (x3 : Int32) (x4 : Int32) (x5 : Int32) (ls : Array Slot) (H : Heap) (locs : List Loc), lv_has ls 6 [(0, .ref q_t), (3, .int x3), (4, .int x4), (5, .int x5)] → va_P G vwCl [(q_t, .inr (5, [.ref q_t_owners, z_t_counts, .int t.2.2.1, .int t.2.2.2.1, .int t.2.2.2.2.1, .int t.2.2.2.2.2])), (q_t_owners, .inl (ca 0, 4802, .inl t.1))] H → va_D A [(q_t, .inr (5, [.ref q_t_owners, z_t_counts, .int t.2.2.1, .int t.2.2.2.1, .int t.2.2.2.2.1, .int t.2.2.2.2.2])), (q_t_owners, .inl (ca 0, 4802, .inl t.1))] → va_S A s.heap H locs → fx (fun _ _ _ => none) (B_X7_spokesBetween_19 x1 x2 t) n_19 x3 x4 x5 = some res → W p l e RM_X7_spokesBetween s m args below meth c H locs 0 0 (MQ below ((fun A => va_Qi (fun r (u : Unit) => res = r) (sw_Post G A (fun (u : Unit) => [(q_t, .inr (5, [.ref q_t_owners, z_t_counts, .int t.2.2.1, .int t.2.2.2.1, .int t.2.2.2.2.1, .int t.2.2.2.2.2])), (q_t_owners, .inl (ca 0, 4802, .inl t.1))])) A) A) args s 0 0 A) (F0 m 19 ls []) := by
    intro n_19
    induction n_19 with
    | zero => intro x3 x4 x5 ls H locs hl hP hD hS h; exact no_at h
    | succ n_19 ih_19 =>
      intro x3 x4 x5 ls H locs hl hP hD hS h
      rw [fx_s] at h
      unfold B_X7_spokesBetween_19 at h
      refine lv_iload hx hb dX7_spokesBetween_19 (lv_at hl 3 rfl) ?_
      refine lv_iload hx hb dX7_spokesBetween_21 (lv_at hl 2 rfl) ?_
      refine lv_icmp_gt (tgt := 46) hx hb dX7_spokesBetween_23 (by decide) (fun c_3 => ?_) (fun c_3 => ?_)
      · have h := if_t c_3 h
        refine lv_iload_n hx hb dX7_spokesBetween_46 rfl (lv_at hl 1 rfl) ?_
        exact sw_ri hx hb hr hlocks hS () (pr1 h) hP hD dX7_spokesBetween_47
      · have h := if_f c_3 h
        refine lv_aload_n hx hb dX7_spokesBetween_26 rfl (lv_at hl 0 rfl) ?_
        refine va_get (v := .ref q_t_owners) hx hb htU iU_X7 hown hK hP 0 rfl rfl 0 (by decide) (htU _ fl_X7_9) (fun _ h9 => h9) rfl dX7_spokesBetween_27 ?_
        refine lv_iload hx hb dX7_spokesBetween_30 (lv_at hl 3 rfl) ?_
        obtain ⟨hi_4, h⟩ := ix_at h
        refine va_iald hx hb hK hP 1 0 rfl rfl hi_4 dX7_spokesBetween_32 ?_
        refine lv_iconst (v := (-1)) hx hb dX7_spokesBetween_33 (by decide) ?_
        refine lv_icmp_eq (tgt := 40) hx hb dX7_spokesBetween_34 (by decide) (fun c_5 => ?_) (fun c_5 => ?_)
        · have h := if_t c_5 h
          obtain ⟨x5_6, e_x5_6⟩ : ∃ y : Int32, y = x5 + 1 := ⟨_, rfl⟩
          refine lv_iinc (v := x5_6) (lv' := [(5, .int x5_6), (0, .ref q_t), (3, .int x3), (4, .int x4)]) hx hb dX7_spokesBetween_40 hl (k := 3) rfl (by rw [e_x5_6]; rfl) (by decide) rfl (fun ls hl => ?_)
          have h := nm_at e_x5_6 h
          refine lv_goto (tgt := 19) hx hb dX7_spokesBetween_43 (by decide) ?_
          exact ih_19 x3 x4 x5_6 ls H _ (lv_sub hl [1, 2, 3, 0] rfl) hP hD hS h
        · have h := if_f c_5 h
          obtain ⟨x3_7, e_x3_7⟩ : ∃ y : Int32, y = x3 + 1 := ⟨_, rfl⟩
          refine lv_iinc (v := x3_7) (lv' := [(3, .int x3_7), (0, .ref q_t), (4, .int x4), (5, .int x5)]) hx hb dX7_spokesBetween_37 hl (k := 1) rfl (by rw [e_x3_7]; rfl) (by decide) rfl (fun ls hl => ?_)
          have h := nm_at e_x3_7 h
          obtain ⟨x5_8, e_x5_8⟩ : ∃ y : Int32, y = x5 + 1 := ⟨_, rfl⟩
          refine lv_iinc (v := x5_8) (lv' := [(5, .int x5_8), (3, .int x3_7), (0, .ref q_t), (4, .int x4)]) hx hb dX7_spokesBetween_40 hl (k := 3) rfl (by rw [e_x5_8]; rfl) (by decide) rfl (fun ls hl => ?_)
          have h := nm_at e_x5_8 h
          refine lv_goto (tgt := 19) hx hb dX7_spokesBetween_43 (by decide) ?_
          exact ih_19 x3_7 x4 x5_8 ls H _ (lv_sub hl [2, 1, 3, 0] rfl) hP hD hS h
  refine lv_iconst (v := 0) hx hb dX7_spokesBetween_0 (by decide) ?_
  refine lv_istore_n (lv' := [(3, .int 0), (0, .ref q_t), (1, .int x1), (2, .int x2)]) hx hb dX7_spokesBetween_1 rfl hl (by decide) rfl (fun ls hl => ?_)
  refine lv_iload_n hx hb dX7_spokesBetween_2 rfl (lv_at hl 3 rfl) ?_
  refine lv_aload_n hx hb dX7_spokesBetween_3 rfl (lv_at hl 1 rfl) ?_
  refine va_get (v := .int t.2.2.1) hx hb htU iU_X7 hown hK hP 0 rfl rfl 2 (by decide) (htU _ fl_X7_18) (fun _ h9 => h9) rfl dX7_spokesBetween_4 ?_
  refine va_mmin hx hb (hml.trans hl.1.symm) hown (htU _ mm_X7_40) (htU _ mm_st_min) (htU _ mm_ini) (htU _ mm_co_min) (Nat.le_of_ble_eq_true rfl) (Nat.le_of_ble_eq_true rfl) (Nat.le_of_ble_eq_true rfl) (Nat.le_of_ble_eq_true rfl) dX7_spokesBetween_7 ?_
  refine lv_topi (fun x4_1 e_x4_1 => ?_)
  have h := nm_at e_x4_1 h
  refine lv_istore (lv' := [(4, .int x4_1), (3, .int 0), (0, .ref q_t), (1, .int x1), (2, .int x2)]) hx hb dX7_spokesBetween_10 hl (by decide) rfl (fun ls hl => ?_)
  refine lv_iload_n hx hb dX7_spokesBetween_12 rfl (lv_at hl 3 rfl) ?_
  refine lv_iconst (v := 2) hx hb dX7_spokesBetween_13 (by decide) ?_
  refine va_mmax hx hb (hml.trans hl.1.symm) hown (htU _ mm_X7_71) (htU _ mm_st_max) (htU _ mm_ini) (htU _ mm_co_max) (Nat.le_of_ble_eq_true rfl) (Nat.le_of_ble_eq_true rfl) (Nat.le_of_ble_eq_true rfl) (Nat.le_of_ble_eq_true rfl) dX7_spokesBetween_14 ?_
  refine lv_topi (fun x5_2 e_x5_2 => ?_)
  have h := nm_at e_x5_2 h
  refine lv_istore (lv' := [(5, .int x5_2), (4, .int x4_1), (3, .int 0), (0, .ref q_t), (1, .int x1), (2, .int x2)]) hx hb dX7_spokesBetween_17 hl (by decide) rfl (fun ls hl => ?_)
  exact hL_19 FUEL 0 x4_1 x5_2 ls s.heap _ (lv_sub hl [3, 2, 1, 0] rfl) hP hD hS h
theorem mv_X7_countStrikes : sw_MV yX7_countStrikes RX7 cX7_countStrikes 4 (Option.some Jvm.ClassFile.FieldType.int) 1 := ⟨im_X7_countStrikes, se_X7_countStrikes, ini_X7, co_X7_countStrikes, by decide +kernel⟩
def B_X7_countStrikes_6 (x1 : Int32) (t : SieveT) (k_6 : Int32 → Int32 → Option (Int32)) (x2 : Int32) (x3 : Int32) : Option (Int32) :=
 (if x1 < 2 then some x2 else (if t.2.2.1 < x3 then some x2 else ix x3 4802 ((if (t.1 x3.toNatClampNeg) = (-1) then nm ((x3 + x1)) (fun x3_6 => k_6 x2 x3_6) else nm (x2 + 1) (fun x2_7 => nm ((x3 + x1)) (fun x3_8 => k_6 x2_7 x3_8))))))
def F_X7_countStrikes (x1 : Int32) (t : SieveT) : Option (Int32) :=
 nm ((x1 * x1)) (fun x3_1 => fx (fun _ _ => none) (B_X7_countStrikes_6 x1 t) FUEL 0 x3_1)
abbrev RM_X7_countStrikes : Room := ({ frames := 0, cells := 0, slots := 0, locals := 0 } : Room)
set_option maxHeartbeats 4000000 in
set_option maxRecDepth 100000 in
theorem c_X7_countStrikes (l : Launch) (G : va_G) (ca Z : Nat → Nat) (q_t : Nat) (q_t_owners : Nat) (z_t_counts : Value) (sz : Nat) (x1 : Int32) (t : SieveT) (res : Int32) (hF : F_X7_countStrikes x1 t = some res) : Met l yX7_countStrikes (.code yX7_countStrikes cX7_countStrikes 4 (Option.some Jvm.ClassFile.FieldType.int) :: sw_U) RM_X7_countStrikes (va_Pc [.ref q_t, .int x1] (sw_Pre G ca Z [(q_t, .inr (5, [.ref q_t_owners, z_t_counts, .int t.2.2.1, .int t.2.2.2.1, .int t.2.2.2.2.1, .int t.2.2.2.2.2])), (q_t_owners, .inl (ca 0, 4802, .inl t.1))] sz)) ((fun A => va_Qi (fun r (u : Unit) => res = r) (sw_Post G A (fun (u : Unit) => [(q_t, .inr (5, [.ref q_t_owners, z_t_counts, .int t.2.2.1, .int t.2.2.2.1, .int t.2.2.2.2.1, .int t.2.2.2.2.2])), (q_t_owners, .inl (ca 0, 4802, .inl t.1))])) A) (va_A [(q_t, .inr (5, [.ref q_t_owners, z_t_counts, .int t.2.2.1, .int t.2.2.2.1, .int t.2.2.2.2.1, .int t.2.2.2.2.2])), (q_t_owners, .inl (ca 0, 4802, .inl t.1))] sz)) 0 0 (va_A [(q_t, .inr (5, [.ref q_t_owners, z_t_counts, .int t.2.2.1, .int t.2.2.2.1, .int t.2.2.2.2.1, .int t.2.2.2.2.2])), (q_t_owners, .inl (ca 0, 4802, .inl t.1))] sz) := by
  refine sw_ofW (Qc := fun A => va_Qi (fun r (u : Unit) => res = r) (sw_Post G A (fun (u : Unit) => [(q_t, .inr (5, [.ref q_t_owners, z_t_counts, .int t.2.2.1, .int t.2.2.2.1, .int t.2.2.2.2.1, .int t.2.2.2.2.2])), (q_t_owners, .inl (ca 0, 4802, .inl t.1))])) A) (by decide) [(0, .ref q_t), (1, .int x1)] rfl (Nat.le_of_ble_eq_true rfl) ?_
  intro p e s m args below meth c ls A hx hb hr hml hown htU hlocks hnm hP hK hD hX hY hS hA hl
  have hown : s.vm.findClass RX7 = some m.cls := hown
  have Cx : sw_Cx p s m args c cX7_countStrikes 4 RX7 G ca Z A := ⟨⟨hx, hb, hml, hown, htU⟩, hK, hX, hY, hA⟩
  have h := hF
  unfold F_X7_countStrikes at h
  have hL_6 : ∀ (n_6 : Nat) (x2 : Int32) (x3 : Int32) (ls : Array Slot) (H : Heap) (locs : List Loc), lv_has ls 4 [(0, .ref q_t), (1, .int x1), (2, .int x2), (3, .int x3)] → va_P G vwCl [(q_t, .inr (5, [.ref q_t_owners, z_t_counts, .int t.2.2.1, .int t.2.2.2.1, .int t.2.2.2.2.1, .int t.2.2.2.2.2])), (q_t_owners, .inl (ca 0, 4802, .inl t.1))] H → va_D A [(q_t, .inr (5, [.ref q_t_owners, z_t_counts, .int t.2.2.1, .int t.2.2.2.1, .int t.2.2.2.2.1, .int t.2.2.2.2.2])), (q_t_owners, .inl (ca 0, 4802, .inl t.1))] → va_S A s.heap H locs → fx (fun _ _ => none) (B_X7_countStrikes_6 x1 t) n_6 x2 x3 = some res → W p l e RM_X7_countStrikes s m args below meth c H locs 0 0 (MQ below ((fun A => va_Qi (fun r (u : Unit) => res = r) (sw_Post G A (fun (u : Unit) => [(q_t, .inr (5, [.ref q_t_owners, z_t_counts, .int t.2.2.1, .int t.2.2.2.1, .int t.2.2.2.2.1, .int t.2.2.2.2.2])), (q_t_owners, .inl (ca 0, 4802, .inl t.1))])) A) A) args s 0 0 A) (F0 m 6 ls []) := by
    intro n_6
    induction n_6 with
    | zero => intro x2 x3 ls H locs hl hP hD hS h; exact no_at h
    | succ n_6 ih_6 =>
      intro x2 x3 ls H locs hl hP hD hS h
      rw [fx_s] at h
      unfold B_X7_countStrikes_6 at h
      refine lv_iload_n hx hb dX7_countStrikes_6 rfl (lv_at hl 1 rfl) ?_
      refine lv_iconst (v := 2) hx hb dX7_countStrikes_7 (by decide) ?_
      refine lv_icmp_lt (tgt := 39) hx hb dX7_countStrikes_8 (by decide) (fun c_2 => ?_) (fun c_2 => ?_)
      · have h := if_t c_2 h
        refine lv_iload_n hx hb dX7_countStrikes_39 rfl (lv_at hl 2 rfl) ?_
        exact sw_ri hx hb hr hlocks hS () (pr1 h) hP hD dX7_countStrikes_40
      · have h := if_f c_2 h
        refine lv_iload_n hx hb dX7_countStrikes_11 rfl (lv_at hl 3 rfl) ?_
        refine lv_aload_n hx hb dX7_countStrikes_12 rfl (lv_at hl 0 rfl) ?_
        refine va_get (v := .int t.2.2.1) hx hb htU iU_X7 hown hK hP 0 rfl rfl 2 (by decide) (htU _ fl_X7_18) (fun _ h9 => h9) rfl dX7_countStrikes_13 ?_
        refine lv_icmp_gt (tgt := 39) hx hb dX7_countStrikes_16 (by decide) (fun c_3 => ?_) (fun c_3 => ?_)
        · have h := if_t c_3 h
          refine lv_iload_n hx hb dX7_countStrikes_39 rfl (lv_at hl 2 rfl) ?_
          exact sw_ri hx hb hr hlocks hS () (pr1 h) hP hD dX7_countStrikes_40
        · have h := if_f c_3 h
          refine lv_aload_n hx hb dX7_countStrikes_19 rfl (lv_at hl 0 rfl) ?_
          refine va_get (v := .ref q_t_owners) hx hb htU iU_X7 hown hK hP 0 rfl rfl 0 (by decide) (htU _ fl_X7_9) (fun _ h9 => h9) rfl dX7_countStrikes_20 ?_
          refine lv_iload_n hx hb dX7_countStrikes_23 rfl (lv_at hl 3 rfl) ?_
          obtain ⟨hi_4, h⟩ := ix_at h
          refine va_iald hx hb hK hP 1 0 rfl rfl hi_4 dX7_countStrikes_24 ?_
          refine lv_iconst (v := (-1)) hx hb dX7_countStrikes_25 (by decide) ?_
          refine lv_icmp_eq (tgt := 32) hx hb dX7_countStrikes_26 (by decide) (fun c_5 => ?_) (fun c_5 => ?_)
          · have h := if_t c_5 h
            refine lv_iload_n hx hb dX7_countStrikes_32 rfl (lv_at hl 3 rfl) ?_
            refine lv_iload_n hx hb dX7_countStrikes_33 rfl (lv_at hl 1 rfl) ?_
            refine lv_iadd hx hb dX7_countStrikes_34 ?_
            refine lv_topi (fun x3_6 e_x3_6 => ?_)
            have h := nm_at e_x3_6 h
            refine lv_istore_n (lv' := [(3, .int x3_6), (0, .ref q_t), (1, .int x1), (2, .int x2)]) hx hb dX7_countStrikes_35 rfl hl (by decide) rfl (fun ls hl => ?_)
            refine lv_goto (tgt := 6) hx hb dX7_countStrikes_36 (by decide) ?_
            exact ih_6 x2 x3_6 ls H _ (lv_sub hl [1, 2, 3, 0] rfl) hP hD hS h
          · have h := if_f c_5 h
            obtain ⟨x2_7, e_x2_7⟩ : ∃ y : Int32, y = x2 + 1 := ⟨_, rfl⟩
            refine lv_iinc (v := x2_7) (lv' := [(2, .int x2_7), (0, .ref q_t), (1, .int x1), (3, .int x3)]) hx hb dX7_countStrikes_29 hl (k := 2) rfl (by rw [e_x2_7]; rfl) (by decide) rfl (fun ls hl => ?_)
            have h := nm_at e_x2_7 h
            refine lv_iload_n hx hb dX7_countStrikes_32 rfl (lv_at hl 3 rfl) ?_
            refine lv_iload_n hx hb dX7_countStrikes_33 rfl (lv_at hl 2 rfl) ?_
            refine lv_iadd hx hb dX7_countStrikes_34 ?_
            refine lv_topi (fun x3_8 e_x3_8 => ?_)
            have h := nm_at e_x3_8 h
            refine lv_istore_n (lv' := [(3, .int x3_8), (2, .int x2_7), (0, .ref q_t), (1, .int x1)]) hx hb dX7_countStrikes_35 rfl hl (by decide) rfl (fun ls hl => ?_)
            refine lv_goto (tgt := 6) hx hb dX7_countStrikes_36 (by decide) ?_
            exact ih_6 x2_7 x3_8 ls H _ (lv_sub hl [2, 3, 1, 0] rfl) hP hD hS h
  refine lv_iconst (v := 0) hx hb dX7_countStrikes_0 (by decide) ?_
  refine lv_istore_n (lv' := [(2, .int 0), (0, .ref q_t), (1, .int x1)]) hx hb dX7_countStrikes_1 rfl hl (by decide) rfl (fun ls hl => ?_)
  refine lv_iload_n hx hb dX7_countStrikes_2 rfl (lv_at hl 2 rfl) ?_
  refine lv_iload_n hx hb dX7_countStrikes_3 rfl (lv_at hl 2 rfl) ?_
  refine lv_imul hx hb dX7_countStrikes_4 ?_
  refine lv_topi (fun x3_1 e_x3_1 => ?_)
  have h := nm_at e_x3_1 h
  refine lv_istore_n (lv' := [(3, .int x3_1), (2, .int 0), (0, .ref q_t), (1, .int x1)]) hx hb dX7_countStrikes_5 rfl hl (by decide) rfl (fun ls hl => ?_)
  exact hL_6 FUEL 0 x3_1 ls s.heap _ (lv_sub hl [2, 3, 1, 0] rfl) hP hD hS h
theorem mv_X7_countWithOwner : sw_MV yX7_countWithOwner RX7 cX7_countWithOwner 5 (Option.some Jvm.ClassFile.FieldType.int) 2 := ⟨im_X7_countWithOwner, se_X7_countWithOwner, ini_X7, co_X7_countWithOwner, by decide +kernel⟩
def B_X7_countWithOwner_7 (x1 : Int32) (x2 : Int32) (t : SieveT) (k_7 : Int32 → Int32 → Option (Int32)) (x3 : Int32) (x4 : Int32) : Option (Int32) :=
 (if x1 < 2 then some x3 else (if t.2.2.1 < x4 then some x3 else ix x4 4802 ((if (t.1 x4.toNatClampNeg) = x2 then nm (x3 + 1) (fun x3_7 => nm ((x4 + x1)) (fun x4_8 => k_7 x3_7 x4_8)) else nm ((x4 + x1)) (fun x4_6 => k_7 x3 x4_6)))))
def F_X7_countWithOwner (x1 : Int32) (x2 : Int32) (t : SieveT) : Option (Int32) :=
 nm ((x1 * x1)) (fun x4_1 => fx (fun _ _ => none) (B_X7_countWithOwner_7 x1 x2 t) FUEL 0 x4_1)
abbrev RM_X7_countWithOwner : Room := ({ frames := 0, cells := 0, slots := 0, locals := 0 } : Room)
set_option maxHeartbeats 4000000 in
set_option maxRecDepth 100000 in
theorem c_X7_countWithOwner (l : Launch) (G : va_G) (ca Z : Nat → Nat) (q_t : Nat) (q_t_owners : Nat) (z_t_counts : Value) (sz : Nat) (x1 : Int32) (x2 : Int32) (t : SieveT) (res : Int32) (hF : F_X7_countWithOwner x1 x2 t = some res) : Met l yX7_countWithOwner (.code yX7_countWithOwner cX7_countWithOwner 5 (Option.some Jvm.ClassFile.FieldType.int) :: sw_U) RM_X7_countWithOwner (va_Pc [.ref q_t, .int x1, .int x2] (sw_Pre G ca Z [(q_t, .inr (5, [.ref q_t_owners, z_t_counts, .int t.2.2.1, .int t.2.2.2.1, .int t.2.2.2.2.1, .int t.2.2.2.2.2])), (q_t_owners, .inl (ca 0, 4802, .inl t.1))] sz)) ((fun A => va_Qi (fun r (u : Unit) => res = r) (sw_Post G A (fun (u : Unit) => [(q_t, .inr (5, [.ref q_t_owners, z_t_counts, .int t.2.2.1, .int t.2.2.2.1, .int t.2.2.2.2.1, .int t.2.2.2.2.2])), (q_t_owners, .inl (ca 0, 4802, .inl t.1))])) A) (va_A [(q_t, .inr (5, [.ref q_t_owners, z_t_counts, .int t.2.2.1, .int t.2.2.2.1, .int t.2.2.2.2.1, .int t.2.2.2.2.2])), (q_t_owners, .inl (ca 0, 4802, .inl t.1))] sz)) 0 0 (va_A [(q_t, .inr (5, [.ref q_t_owners, z_t_counts, .int t.2.2.1, .int t.2.2.2.1, .int t.2.2.2.2.1, .int t.2.2.2.2.2])), (q_t_owners, .inl (ca 0, 4802, .inl t.1))] sz) := by
  refine sw_ofW (Qc := fun A => va_Qi (fun r (u : Unit) => res = r) (sw_Post G A (fun (u : Unit) => [(q_t, .inr (5, [.ref q_t_owners, z_t_counts, .int t.2.2.1, .int t.2.2.2.1, .int t.2.2.2.2.1, .int t.2.2.2.2.2])), (q_t_owners, .inl (ca 0, 4802, .inl t.1))])) A) (by decide) [(0, .ref q_t), (1, .int x1), (2, .int x2)] rfl (Nat.le_of_ble_eq_true rfl) ?_
  intro p e s m args below meth c ls A hx hb hr hml hown htU hlocks hnm hP hK hD hX hY hS hA hl
  have hown : s.vm.findClass RX7 = some m.cls := hown
  have Cx : sw_Cx p s m args c cX7_countWithOwner 5 RX7 G ca Z A := ⟨⟨hx, hb, hml, hown, htU⟩, hK, hX, hY, hA⟩
  have h := hF
  unfold F_X7_countWithOwner at h
  have hL_7 : ∀ (n_7 : Nat) (x3 : Int32) (x4 : Int32) (ls : Array Slot) (H : Heap) (locs : List Loc), lv_has ls 5 [(0, .ref q_t), (1, .int x1), (2, .int x2), (3, .int x3), (4, .int x4)] → va_P G vwCl [(q_t, .inr (5, [.ref q_t_owners, z_t_counts, .int t.2.2.1, .int t.2.2.2.1, .int t.2.2.2.2.1, .int t.2.2.2.2.2])), (q_t_owners, .inl (ca 0, 4802, .inl t.1))] H → va_D A [(q_t, .inr (5, [.ref q_t_owners, z_t_counts, .int t.2.2.1, .int t.2.2.2.1, .int t.2.2.2.2.1, .int t.2.2.2.2.2])), (q_t_owners, .inl (ca 0, 4802, .inl t.1))] → va_S A s.heap H locs → fx (fun _ _ => none) (B_X7_countWithOwner_7 x1 x2 t) n_7 x3 x4 = some res → W p l e RM_X7_countWithOwner s m args below meth c H locs 0 0 (MQ below ((fun A => va_Qi (fun r (u : Unit) => res = r) (sw_Post G A (fun (u : Unit) => [(q_t, .inr (5, [.ref q_t_owners, z_t_counts, .int t.2.2.1, .int t.2.2.2.1, .int t.2.2.2.2.1, .int t.2.2.2.2.2])), (q_t_owners, .inl (ca 0, 4802, .inl t.1))])) A) A) args s 0 0 A) (F0 m 7 ls []) := by
    intro n_7
    induction n_7 with
    | zero => intro x3 x4 ls H locs hl hP hD hS h; exact no_at h
    | succ n_7 ih_7 =>
      intro x3 x4 ls H locs hl hP hD hS h
      rw [fx_s] at h
      unfold B_X7_countWithOwner_7 at h
      refine lv_iload_n hx hb dX7_countWithOwner_7 rfl (lv_at hl 1 rfl) ?_
      refine lv_iconst (v := 2) hx hb dX7_countWithOwner_8 (by decide) ?_
      refine lv_icmp_lt (tgt := 44) hx hb dX7_countWithOwner_9 (by decide) (fun c_2 => ?_) (fun c_2 => ?_)
      · have h := if_t c_2 h
        refine lv_iload_n hx hb dX7_countWithOwner_44 rfl (lv_at hl 3 rfl) ?_
        exact sw_ri hx hb hr hlocks hS () (pr1 h) hP hD dX7_countWithOwner_45
      · have h := if_f c_2 h
        refine lv_iload hx hb dX7_countWithOwner_12 (lv_at hl 4 rfl) ?_
        refine lv_aload_n hx hb dX7_countWithOwner_14 rfl (lv_at hl 0 rfl) ?_
        refine va_get (v := .int t.2.2.1) hx hb htU iU_X7 hown hK hP 0 rfl rfl 2 (by decide) (htU _ fl_X7_18) (fun _ h9 => h9) rfl dX7_countWithOwner_15 ?_
        refine lv_icmp_gt (tgt := 44) hx hb dX7_countWithOwner_18 (by decide) (fun c_3 => ?_) (fun c_3 => ?_)
        · have h := if_t c_3 h
          refine lv_iload_n hx hb dX7_countWithOwner_44 rfl (lv_at hl 3 rfl) ?_
          exact sw_ri hx hb hr hlocks hS () (pr1 h) hP hD dX7_countWithOwner_45
        · have h := if_f c_3 h
          refine lv_aload_n hx hb dX7_countWithOwner_21 rfl (lv_at hl 0 rfl) ?_
          refine va_get (v := .ref q_t_owners) hx hb htU iU_X7 hown hK hP 0 rfl rfl 0 (by decide) (htU _ fl_X7_9) (fun _ h9 => h9) rfl dX7_countWithOwner_22 ?_
          refine lv_iload hx hb dX7_countWithOwner_25 (lv_at hl 4 rfl) ?_
          obtain ⟨hi_4, h⟩ := ix_at h
          refine va_iald hx hb hK hP 1 0 rfl rfl hi_4 dX7_countWithOwner_27 ?_
          refine lv_iload_n hx hb dX7_countWithOwner_28 rfl (lv_at hl 2 rfl) ?_
          refine lv_icmp_ne (tgt := 35) hx hb dX7_countWithOwner_29 (by decide) (fun c_5 => ?_) (fun c_5 => ?_)
          · have h := if_f c_5 h
            refine lv_iload hx hb dX7_countWithOwner_35 (lv_at hl 4 rfl) ?_
            refine lv_iload_n hx hb dX7_countWithOwner_37 rfl (lv_at hl 1 rfl) ?_
            refine lv_iadd hx hb dX7_countWithOwner_38 ?_
            refine lv_topi (fun x4_6 e_x4_6 => ?_)
            have h := nm_at e_x4_6 h
            refine lv_istore (lv' := [(4, .int x4_6), (0, .ref q_t), (1, .int x1), (2, .int x2), (3, .int x3)]) hx hb dX7_countWithOwner_39 hl (by decide) rfl (fun ls hl => ?_)
            refine lv_goto (tgt := 7) hx hb dX7_countWithOwner_41 (by decide) ?_
            exact ih_7 x3 x4_6 ls H _ (lv_sub hl [1, 2, 3, 4, 0] rfl) hP hD hS h
          · have h := if_t c_5 h
            obtain ⟨x3_7, e_x3_7⟩ : ∃ y : Int32, y = x3 + 1 := ⟨_, rfl⟩
            refine lv_iinc (v := x3_7) (lv' := [(3, .int x3_7), (0, .ref q_t), (1, .int x1), (2, .int x2), (4, .int x4)]) hx hb dX7_countWithOwner_32 hl (k := 3) rfl (by rw [e_x3_7]; rfl) (by decide) rfl (fun ls hl => ?_)
            have h := nm_at e_x3_7 h
            refine lv_iload hx hb dX7_countWithOwner_35 (lv_at hl 4 rfl) ?_
            refine lv_iload_n hx hb dX7_countWithOwner_37 rfl (lv_at hl 2 rfl) ?_
            refine lv_iadd hx hb dX7_countWithOwner_38 ?_
            refine lv_topi (fun x4_8 e_x4_8 => ?_)
            have h := nm_at e_x4_8 h
            refine lv_istore (lv' := [(4, .int x4_8), (3, .int x3_7), (0, .ref q_t), (1, .int x1), (2, .int x2)]) hx hb dX7_countWithOwner_39 hl (by decide) rfl (fun ls hl => ?_)
            refine lv_goto (tgt := 7) hx hb dX7_countWithOwner_41 (by decide) ?_
            exact ih_7 x3_7 x4_8 ls H _ (lv_sub hl [2, 3, 4, 1, 0] rfl) hP hD hS h
  refine lv_iconst (v := 0) hx hb dX7_countWithOwner_0 (by decide) ?_
  refine lv_istore_n (lv' := [(3, .int 0), (0, .ref q_t), (1, .int x1), (2, .int x2)]) hx hb dX7_countWithOwner_1 rfl hl (by decide) rfl (fun ls hl => ?_)
  refine lv_iload_n hx hb dX7_countWithOwner_2 rfl (lv_at hl 2 rfl) ?_
  refine lv_iload_n hx hb dX7_countWithOwner_3 rfl (lv_at hl 2 rfl) ?_
  refine lv_imul hx hb dX7_countWithOwner_4 ?_
  refine lv_topi (fun x4_1 e_x4_1 => ?_)
  have h := nm_at e_x4_1 h
  refine lv_istore (lv' := [(4, .int x4_1), (3, .int 0), (0, .ref q_t), (1, .int x1), (2, .int x2)]) hx hb dX7_countWithOwner_5 hl (by decide) rfl (fun ls hl => ?_)
  exact hL_7 FUEL 0 x4_1 ls s.heap _ (lv_sub hl [2, 3, 4, 1, 0] rfl) hP hD hS h
theorem mv_X7_countOwned : sw_MV yX7_countOwned RX7 cX7_countOwned 2 (Option.some Jvm.ClassFile.FieldType.int) 1 := ⟨im_X7_countOwned, se_X7_countOwned, ini_X7, co_X7_countOwned, by decide +kernel⟩
def F_X7_countOwned (x1 : Int32) (t : SieveT) : Option (Int32) :=
 (F_X7_countWithOwner x1 x1 t).bind (fun w_1 => some w_1)
abbrev RM_X7_countOwned : Room := ({ frames := 1, cells := 0, slots := 0, locals := 24 } : Room)
set_option maxHeartbeats 4000000 in
set_option maxRecDepth 100000 in
theorem c_X7_countOwned (l : Launch) (G : va_G) (ca Z : Nat → Nat) (q_t : Nat) (q_t_owners : Nat) (z_t_counts : Value) (sz : Nat) (x1 : Int32) (t : SieveT) (res : Int32) (hF : F_X7_countOwned x1 t = some res) : Met l yX7_countOwned (.code yX7_countOwned cX7_countOwned 2 (Option.some Jvm.ClassFile.FieldType.int) :: sw_U) RM_X7_countOwned (va_Pc [.ref q_t, .int x1] (sw_Pre G ca Z [(q_t, .inr (5, [.ref q_t_owners, z_t_counts, .int t.2.2.1, .int t.2.2.2.1, .int t.2.2.2.2.1, .int t.2.2.2.2.2])), (q_t_owners, .inl (ca 0, 4802, .inl t.1))] sz)) ((fun A => va_Qi (fun r (u : Unit) => res = r) (sw_Post G A (fun (u : Unit) => [(q_t, .inr (5, [.ref q_t_owners, z_t_counts, .int t.2.2.1, .int t.2.2.2.1, .int t.2.2.2.2.1, .int t.2.2.2.2.2])), (q_t_owners, .inl (ca 0, 4802, .inl t.1))])) A) (va_A [(q_t, .inr (5, [.ref q_t_owners, z_t_counts, .int t.2.2.1, .int t.2.2.2.1, .int t.2.2.2.2.1, .int t.2.2.2.2.2])), (q_t_owners, .inl (ca 0, 4802, .inl t.1))] sz)) 0 0 (va_A [(q_t, .inr (5, [.ref q_t_owners, z_t_counts, .int t.2.2.1, .int t.2.2.2.1, .int t.2.2.2.2.1, .int t.2.2.2.2.2])), (q_t_owners, .inl (ca 0, 4802, .inl t.1))] sz) := by
  refine sw_ofW (Qc := fun A => va_Qi (fun r (u : Unit) => res = r) (sw_Post G A (fun (u : Unit) => [(q_t, .inr (5, [.ref q_t_owners, z_t_counts, .int t.2.2.1, .int t.2.2.2.1, .int t.2.2.2.2.1, .int t.2.2.2.2.2])), (q_t_owners, .inl (ca 0, 4802, .inl t.1))])) A) (by decide) [(0, .ref q_t), (1, .int x1)] rfl (Nat.le_of_ble_eq_true rfl) ?_
  intro p e s m args below meth c ls A hx hb hr hml hown htU hlocks hnm hP hK hD hX hY hS hA hl
  have hown : s.vm.findClass RX7 = some m.cls := hown
  have Cx : sw_Cx p s m args c cX7_countOwned 2 RX7 G ca Z A := ⟨⟨hx, hb, hml, hown, htU⟩, hK, hX, hY, hA⟩
  have h := hF
  unfold F_X7_countOwned at h
  refine lv_aload_n hx hb dX7_countOwned_0 rfl (lv_at hl 0 rfl) ?_
  refine lv_iload_n hx hb dX7_countOwned_1 rfl (lv_at hl 1 rfl) ?_
  refine lv_iload_n hx hb dX7_countOwned_2 rfl (lv_at hl 1 rfl) ?_
  obtain ⟨w_1, hg_2, h⟩ := bd_at h
  refine sw_ci (sw_runV (As := [.int x1, .int x1]) (rest := []) Cx hP hD hS mv_X7_countWithOwner ml_X7_77 (c_X7_countWithOwner l G ca Z q_t q_t_owners (z_t_counts) s.heap.size x1 x1 t w_1 hg_2) 5 rfl rfl rfl [0, 1] rfl rfl rfl rfl ⟨(Nat.le_of_ble_eq_true rfl), (Nat.le_of_ble_eq_true rfl)⟩ hl.1 rfl rfl (Nat.le_of_ble_eq_true rfl) dX7_countOwned_3 ⟨(Nat.le_of_ble_eq_true rfl), (Nat.le_of_ble_eq_true rfl)⟩) hP hD hS hA [0, 1] [] [0, 1] rfl rfl rfl (by decide) (fun _ => rfl) rfl (fun r u H locs hw hP hD hS => ?_)
  subst hw
  have hP : va_P G vwCl [(q_t, .inr (5, [.ref q_t_owners, z_t_counts, .int t.2.2.1, .int t.2.2.2.1, .int t.2.2.2.2.1, .int t.2.2.2.2.2])), (q_t_owners, .inl (ca 0, 4802, .inl t.1))] H := hP
  have hD : va_D A [(q_t, .inr (5, [.ref q_t_owners, z_t_counts, .int t.2.2.1, .int t.2.2.2.1, .int t.2.2.2.2.1, .int t.2.2.2.2.2])), (q_t_owners, .inl (ca 0, 4802, .inl t.1))] := hD
  exact sw_ri hx hb hr hlocks hS () (pr1 h) hP hD dX7_countOwned_6
theorem mv_X7_countTaken : sw_MV yX7_countTaken RX7 cX7_countTaken 2 (Option.some Jvm.ClassFile.FieldType.int) 1 := ⟨im_X7_countTaken, se_X7_countTaken, ini_X7, co_X7_countTaken, by decide +kernel⟩
def F_X7_countTaken (x1 : Int32) (t : SieveT) : Option (Int32) :=
 (F_X7_countWithOwner x1 0 t).bind (fun w_1 => some w_1)
abbrev RM_X7_countTaken : Room := ({ frames := 1, cells := 0, slots := 0, locals := 24 } : Room)
set_option maxHeartbeats 4000000 in
set_option maxRecDepth 100000 in
theorem c_X7_countTaken (l : Launch) (G : va_G) (ca Z : Nat → Nat) (q_t : Nat) (q_t_owners : Nat) (z_t_counts : Value) (sz : Nat) (x1 : Int32) (t : SieveT) (res : Int32) (hF : F_X7_countTaken x1 t = some res) : Met l yX7_countTaken (.code yX7_countTaken cX7_countTaken 2 (Option.some Jvm.ClassFile.FieldType.int) :: sw_U) RM_X7_countTaken (va_Pc [.ref q_t, .int x1] (sw_Pre G ca Z [(q_t, .inr (5, [.ref q_t_owners, z_t_counts, .int t.2.2.1, .int t.2.2.2.1, .int t.2.2.2.2.1, .int t.2.2.2.2.2])), (q_t_owners, .inl (ca 0, 4802, .inl t.1))] sz)) ((fun A => va_Qi (fun r (u : Unit) => res = r) (sw_Post G A (fun (u : Unit) => [(q_t, .inr (5, [.ref q_t_owners, z_t_counts, .int t.2.2.1, .int t.2.2.2.1, .int t.2.2.2.2.1, .int t.2.2.2.2.2])), (q_t_owners, .inl (ca 0, 4802, .inl t.1))])) A) (va_A [(q_t, .inr (5, [.ref q_t_owners, z_t_counts, .int t.2.2.1, .int t.2.2.2.1, .int t.2.2.2.2.1, .int t.2.2.2.2.2])), (q_t_owners, .inl (ca 0, 4802, .inl t.1))] sz)) 0 0 (va_A [(q_t, .inr (5, [.ref q_t_owners, z_t_counts, .int t.2.2.1, .int t.2.2.2.1, .int t.2.2.2.2.1, .int t.2.2.2.2.2])), (q_t_owners, .inl (ca 0, 4802, .inl t.1))] sz) := by
  refine sw_ofW (Qc := fun A => va_Qi (fun r (u : Unit) => res = r) (sw_Post G A (fun (u : Unit) => [(q_t, .inr (5, [.ref q_t_owners, z_t_counts, .int t.2.2.1, .int t.2.2.2.1, .int t.2.2.2.2.1, .int t.2.2.2.2.2])), (q_t_owners, .inl (ca 0, 4802, .inl t.1))])) A) (by decide) [(0, .ref q_t), (1, .int x1)] rfl (Nat.le_of_ble_eq_true rfl) ?_
  intro p e s m args below meth c ls A hx hb hr hml hown htU hlocks hnm hP hK hD hX hY hS hA hl
  have hown : s.vm.findClass RX7 = some m.cls := hown
  have Cx : sw_Cx p s m args c cX7_countTaken 2 RX7 G ca Z A := ⟨⟨hx, hb, hml, hown, htU⟩, hK, hX, hY, hA⟩
  have h := hF
  unfold F_X7_countTaken at h
  refine lv_aload_n hx hb dX7_countTaken_0 rfl (lv_at hl 0 rfl) ?_
  refine lv_iload_n hx hb dX7_countTaken_1 rfl (lv_at hl 1 rfl) ?_
  refine lv_iconst (v := 0) hx hb dX7_countTaken_2 (by decide) ?_
  obtain ⟨w_1, hg_2, h⟩ := bd_at h
  refine sw_ci (sw_runV (As := [.int x1, .int 0]) (rest := []) Cx hP hD hS mv_X7_countWithOwner ml_X7_77 (c_X7_countWithOwner l G ca Z q_t q_t_owners (z_t_counts) s.heap.size x1 0 t w_1 hg_2) 5 rfl rfl rfl [0, 1] rfl rfl rfl rfl ⟨(Nat.le_of_ble_eq_true rfl), (Nat.le_of_ble_eq_true rfl)⟩ hl.1 rfl rfl (Nat.le_of_ble_eq_true rfl) dX7_countTaken_3 ⟨(Nat.le_of_ble_eq_true rfl), (Nat.le_of_ble_eq_true rfl)⟩) hP hD hS hA [0, 1] [] [0, 1] rfl rfl rfl (by decide) (fun _ => rfl) rfl (fun r u H locs hw hP hD hS => ?_)
  subst hw
  have hP : va_P G vwCl [(q_t, .inr (5, [.ref q_t_owners, z_t_counts, .int t.2.2.1, .int t.2.2.2.1, .int t.2.2.2.2.1, .int t.2.2.2.2.2])), (q_t_owners, .inl (ca 0, 4802, .inl t.1))] H := hP
  have hD : va_D A [(q_t, .inr (5, [.ref q_t_owners, z_t_counts, .int t.2.2.1, .int t.2.2.2.1, .int t.2.2.2.2.1, .int t.2.2.2.2.2])), (q_t_owners, .inl (ca 0, 4802, .inl t.1))] := hD
  exact sw_ri hx hb hr hlocks hS () (pr1 h) hP hD dX7_countTaken_6
theorem mv_X7_smallestOwned : sw_MV yX7_smallestOwned RX7 cX7_smallestOwned 3 (Option.some Jvm.ClassFile.FieldType.int) 1 := ⟨im_X7_smallestOwned, se_X7_smallestOwned, ini_X7, co_X7_smallestOwned, by decide +kernel⟩
def B_X7_smallestOwned_4 (x1 : Int32) (t : SieveT) (k_4 : Int32 → Option (Int32)) (x2 : Int32) : Option (Int32) :=
 (if x1 < 2 then some (-1) else (if t.2.2.1 < x2 then some (-1) else ix x2 4802 ((if (t.1 x2.toNatClampNeg) = x1 then some x2 else nm ((x2 + x1)) (fun x2_6 => k_4 x2_6)))))
def F_X7_smallestOwned (x1 : Int32) (t : SieveT) : Option (Int32) :=
 nm ((x1 * x1)) (fun x2_1 => fx (fun _ => none) (B_X7_smallestOwned_4 x1 t) FUEL x2_1)
abbrev RM_X7_smallestOwned : Room := ({ frames := 0, cells := 0, slots := 0, locals := 0 } : Room)
set_option maxHeartbeats 4000000 in
set_option maxRecDepth 100000 in
theorem c_X7_smallestOwned (l : Launch) (G : va_G) (ca Z : Nat → Nat) (q_t : Nat) (q_t_owners : Nat) (z_t_counts : Value) (sz : Nat) (x1 : Int32) (t : SieveT) (res : Int32) (hF : F_X7_smallestOwned x1 t = some res) : Met l yX7_smallestOwned (.code yX7_smallestOwned cX7_smallestOwned 3 (Option.some Jvm.ClassFile.FieldType.int) :: sw_U) RM_X7_smallestOwned (va_Pc [.ref q_t, .int x1] (sw_Pre G ca Z [(q_t, .inr (5, [.ref q_t_owners, z_t_counts, .int t.2.2.1, .int t.2.2.2.1, .int t.2.2.2.2.1, .int t.2.2.2.2.2])), (q_t_owners, .inl (ca 0, 4802, .inl t.1))] sz)) ((fun A => va_Qi (fun r (u : Unit) => res = r) (sw_Post G A (fun (u : Unit) => [(q_t, .inr (5, [.ref q_t_owners, z_t_counts, .int t.2.2.1, .int t.2.2.2.1, .int t.2.2.2.2.1, .int t.2.2.2.2.2])), (q_t_owners, .inl (ca 0, 4802, .inl t.1))])) A) (va_A [(q_t, .inr (5, [.ref q_t_owners, z_t_counts, .int t.2.2.1, .int t.2.2.2.1, .int t.2.2.2.2.1, .int t.2.2.2.2.2])), (q_t_owners, .inl (ca 0, 4802, .inl t.1))] sz)) 0 0 (va_A [(q_t, .inr (5, [.ref q_t_owners, z_t_counts, .int t.2.2.1, .int t.2.2.2.1, .int t.2.2.2.2.1, .int t.2.2.2.2.2])), (q_t_owners, .inl (ca 0, 4802, .inl t.1))] sz) := by
  refine sw_ofW (Qc := fun A => va_Qi (fun r (u : Unit) => res = r) (sw_Post G A (fun (u : Unit) => [(q_t, .inr (5, [.ref q_t_owners, z_t_counts, .int t.2.2.1, .int t.2.2.2.1, .int t.2.2.2.2.1, .int t.2.2.2.2.2])), (q_t_owners, .inl (ca 0, 4802, .inl t.1))])) A) (by decide) [(0, .ref q_t), (1, .int x1)] rfl (Nat.le_of_ble_eq_true rfl) ?_
  intro p e s m args below meth c ls A hx hb hr hml hown htU hlocks hnm hP hK hD hX hY hS hA hl
  have hown : s.vm.findClass RX7 = some m.cls := hown
  have Cx : sw_Cx p s m args c cX7_smallestOwned 3 RX7 G ca Z A := ⟨⟨hx, hb, hml, hown, htU⟩, hK, hX, hY, hA⟩
  have h := hF
  unfold F_X7_smallestOwned at h
  have hL_4 : ∀ (n_4 : Nat) (x2 : Int32) (ls : Array Slot) (H : Heap) (locs : List Loc), lv_has ls 3 [(0, .ref q_t), (1, .int x1), (2, .int x2)] → va_P G vwCl [(q_t, .inr (5, [.ref q_t_owners, z_t_counts, .int t.2.2.1, .int t.2.2.2.1, .int t.2.2.2.2.1, .int t.2.2.2.2.2])), (q_t_owners, .inl (ca 0, 4802, .inl t.1))] H → va_D A [(q_t, .inr (5, [.ref q_t_owners, z_t_counts, .int t.2.2.1, .int t.2.2.2.1, .int t.2.2.2.2.1, .int t.2.2.2.2.2])), (q_t_owners, .inl (ca 0, 4802, .inl t.1))] → va_S A s.heap H locs → fx (fun _ => none) (B_X7_smallestOwned_4 x1 t) n_4 x2 = some res → W p l e RM_X7_smallestOwned s m args below meth c H locs 0 0 (MQ below ((fun A => va_Qi (fun r (u : Unit) => res = r) (sw_Post G A (fun (u : Unit) => [(q_t, .inr (5, [.ref q_t_owners, z_t_counts, .int t.2.2.1, .int t.2.2.2.1, .int t.2.2.2.2.1, .int t.2.2.2.2.2])), (q_t_owners, .inl (ca 0, 4802, .inl t.1))])) A) A) args s 0 0 A) (F0 m 4 ls []) := by
    intro n_4
    induction n_4 with
    | zero => intro x2 ls H locs hl hP hD hS h; exact no_at h
    | succ n_4 ih_4 =>
      intro x2 ls H locs hl hP hD hS h
      rw [fx_s] at h
      unfold B_X7_smallestOwned_4 at h
      refine lv_iload_n hx hb dX7_smallestOwned_4 rfl (lv_at hl 1 rfl) ?_
      refine lv_iconst (v := 2) hx hb dX7_smallestOwned_5 (by decide) ?_
      refine lv_icmp_lt (tgt := 36) hx hb dX7_smallestOwned_6 (by decide) (fun c_2 => ?_) (fun c_2 => ?_)
      · have h := if_t c_2 h
        refine lv_iconst (v := (-1)) hx hb dX7_smallestOwned_36 (by decide) ?_
        exact sw_ri hx hb hr hlocks hS () (pr1 h) hP hD dX7_smallestOwned_37
      · have h := if_f c_2 h
        refine lv_iload_n hx hb dX7_smallestOwned_9 rfl (lv_at hl 2 rfl) ?_
        refine lv_aload_n hx hb dX7_smallestOwned_10 rfl (lv_at hl 0 rfl) ?_
        refine va_get (v := .int t.2.2.1) hx hb htU iU_X7 hown hK hP 0 rfl rfl 2 (by decide) (htU _ fl_X7_18) (fun _ h9 => h9) rfl dX7_smallestOwned_11 ?_
        refine lv_icmp_gt (tgt := 36) hx hb dX7_smallestOwned_14 (by decide) (fun c_3 => ?_) (fun c_3 => ?_)
        · have h := if_t c_3 h
          refine lv_iconst (v := (-1)) hx hb dX7_smallestOwned_36 (by decide) ?_
          exact sw_ri hx hb hr hlocks hS () (pr1 h) hP hD dX7_smallestOwned_37
        · have h := if_f c_3 h
          refine lv_aload_n hx hb dX7_smallestOwned_17 rfl (lv_at hl 0 rfl) ?_
          refine va_get (v := .ref q_t_owners) hx hb htU iU_X7 hown hK hP 0 rfl rfl 0 (by decide) (htU _ fl_X7_9) (fun _ h9 => h9) rfl dX7_smallestOwned_18 ?_
          refine lv_iload_n hx hb dX7_smallestOwned_21 rfl (lv_at hl 2 rfl) ?_
          obtain ⟨hi_4, h⟩ := ix_at h
          refine va_iald hx hb hK hP 1 0 rfl rfl hi_4 dX7_smallestOwned_22 ?_
          refine lv_iload_n hx hb dX7_smallestOwned_23 rfl (lv_at hl 1 rfl) ?_
          refine lv_icmp_ne (tgt := 29) hx hb dX7_smallestOwned_24 (by decide) (fun c_5 => ?_) (fun c_5 => ?_)
          · have h := if_f c_5 h
            refine lv_iload_n hx hb dX7_smallestOwned_29 rfl (lv_at hl 2 rfl) ?_
            refine lv_iload_n hx hb dX7_smallestOwned_30 rfl (lv_at hl 1 rfl) ?_
            refine lv_iadd hx hb dX7_smallestOwned_31 ?_
            refine lv_topi (fun x2_6 e_x2_6 => ?_)
            have h := nm_at e_x2_6 h
            refine lv_istore_n (lv' := [(2, .int x2_6), (0, .ref q_t), (1, .int x1)]) hx hb dX7_smallestOwned_32 rfl hl (by decide) rfl (fun ls hl => ?_)
            refine lv_goto (tgt := 4) hx hb dX7_smallestOwned_33 (by decide) ?_
            exact ih_4 x2_6 ls H _ (lv_sub hl [1, 2, 0] rfl) hP hD hS h
          · have h := if_t c_5 h
            refine lv_iload_n hx hb dX7_smallestOwned_27 rfl (lv_at hl 2 rfl) ?_
            exact sw_ri hx hb hr hlocks hS () (pr1 h) hP hD dX7_smallestOwned_28
  refine lv_iload_n hx hb dX7_smallestOwned_0 rfl (lv_at hl 1 rfl) ?_
  refine lv_iload_n hx hb dX7_smallestOwned_1 rfl (lv_at hl 1 rfl) ?_
  refine lv_imul hx hb dX7_smallestOwned_2 ?_
  refine lv_topi (fun x2_1 e_x2_1 => ?_)
  have h := nm_at e_x2_1 h
  refine lv_istore_n (lv' := [(2, .int x2_1), (0, .ref q_t), (1, .int x1)]) hx hb dX7_smallestOwned_3 rfl hl (by decide) rfl (fun ls hl => ?_)
  exact hL_4 FUEL x2_1 ls s.heap _ (lv_sub hl [1, 2, 0] rfl) hP hD hS h
