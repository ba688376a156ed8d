theorem kcf_X10_359 : Cond.constantFloat RX10 359 1258291200 ∈ sw_U := sw_in (sw_t3 (List.mem_of_getElem? (i := 21) (by decide +kernel))) rfl
theorem raw_static : Cond.static ⟨"java/lang/Float", "floatToRawIntBits", "(F)I"⟩ ∈ sw_U := sw_in (sw_t7 (List.mem_of_getElem? (i := 223) (by decide +kernel))) rfl
theorem raw_native : Cond.native ⟨"java/lang/Float", "floatToRawIntBits", "(F)I"⟩ ∈ sw_U := sw_in (sw_t7 (List.mem_of_getElem? (i := 224) (by decide +kernel))) rfl
/-! ===== a method of a class that has rows of its own, by a name that has none ===== -/
theorem sw_ofWF {l : Launch} {y : MethodName} {cc : ByteArray} {maxL : Nat} {ret : Option FieldType} {rm : Room} {av : List Value} {G : va_G} {ca : Nat → ClassId} {Z : Nat → Nat} {ws : va_W} {sz : Nat} {Qc : (Nat → Prop) → Array Value → State → Outcome → State → Prop} {mc ms : Nat}
    (hy : plainFor y = true) (lv : List (Nat × Value)) (hlv : lv_args 0 av = lv) (hn : (lg_sl av).length ≤ maxL)
    (body : ∀ (p : Program) (e : Env) (s : State) (m : MethodId) (args : Array Value) (below : List Frame) (meth : Method) (c : Code) (ls : Array Slot) (A : Nat → Prop), p.tables.exec = Jvm.exec → c.code = cc → meth.sig.returnType = ret → c.maxLocals = maxL → s.vm.findClass y.cls = some m.cls → (∀ w ∈ sw_U, w.before args s = true) → meth.locks = false → meth.name = y.name → va_P G vwCl ws s.heap → va_K G vwCl (sw_tys ca) s → va_D A ws → sw_SX Z A s s.heap → sw_SY Z s → va_S A s.heap s.heap [] → (∀ q : Nat, s.heap.size ≤ q → A q) → lv_has ls maxL lv →
      W p l e rm s m args below meth c s.heap [] 0 0 (MQ below (Qc A) args s mc ms A) (F0 m 0 ls [])) :
    Met l y (.code y cc maxL ret :: sw_U) rm (va_Pc av (sw_Pre G ca Z ws sz)) (Qc (va_A ws sz)) mc ms (va_A ws sz) := by
  refine MetFree.of_bodySF (code := cc) (maxLocals := maxL) (ret := ret) hy ?_ ?_
  · intro args s m h hn
    obtain ⟨meth, c, h1, h2, h3, h4, h5, h6, -, -⟩ := Cond.code_spec hn (atoms_spec (ws := .code y cc maxL ret :: sw_U) h _ List.mem_cons_self)
    exact ⟨meth, c, h1, h2, h3, h4, h5, h6⟩
  intro p e s m args below meth c s₁ B hml hv _
  have hh0 : s₁.heap = s.heap := by rw [B.state]; rfl
  suffices w : W p l e rm s m args below meth c s.heap [] 0 0 (MQ below (Qc (va_A ws sz)) args s mc ms (va_A ws sz)) (entryFrame m args maxL) by
    obtain ⟨t, a1, o, b1, b2, b3⟩ := w s₁ hh0 (Stand.of_body B)
    exact ⟨t, o, a1, b1, b2, ⟨b3.1, b3.2⟩⟩
  obtain ⟨rfl, hsz, hP, hK, hD0, hX, hY⟩ := hv
  subst hsz
  have hts := atoms_spec (ws := .code y cc maxL ret :: sw_U) B.pre
  have hl := lv_entry av (n := maxL) hn
  rw [lg_entry_eq]
  rw [hlv] at hl
  exact body p e s m av.toArray below meth c _ (va_A ws s.heap.size) B.exec B.bytes B.returns hml (findClass_of_methodNamed B.named) (fun w hw => hts w (List.mem_cons_of_mem _ hw)) B.notSynchronized (name_of_methodNamed B.named B.method).1 hP hK hD0.self hX hY va_S.rf sw_hA hl
/-! ===== floats and doubles: no NaN is made ===== -/
def n32 {α : Type} (v : UInt32) (k : Option α) : Option α := if v &&& 0x7fffffff ≤ 0x7f800000 then k else none
def n64 {α : Type} (v : UInt64) (k : Option α) : Option α := if v &&& 0x7fffffffffffffff ≤ 0x7ff0000000000000 then k else none
theorem n32_at {α : Type} {v : UInt32} {k : Option α} {r : α} (h : n32 v k = some r) : vf_n32 v ∧ k = some r := by
  unfold n32 at h
  split at h
  · rename_i c; exact ⟨c, h⟩
  · cases h
theorem n64_at {α : Type} {v : UInt64} {k : Option α} {r : α} (h : n64 v k = some r) : vf_n64 v ∧ k = some r := by
  unfold n64 at h
  split at h
  · rename_i c; exact ⟨c, h⟩
  · cases h
section SWF
variable {p : Program} {l : Launch} {e : Env} {R : Room} {s : State} {m : MethodId} {args : Array Value} {below : List Frame} {meth : Method} {c : Code} {H : Heap} {locs : List Loc} {cells slots : Nat} {Q : State → Prop}
  {mc ms pc : Nat} {G : va_G} {A : Nat → Prop} {ws wc : va_W} {rest st : List Value} {S : Type} {cs : S → va_W} {ls : Array Slot} {a : Array Value} {cc : ByteArray}
theorem sw_rf {post : UInt32 → S → Prop} {v : UInt32} (hx : p.tables.exec = Jvm.exec) (hb : c.code = cc) (hr : meth.sig.returnType = some .float) (hlocks : meth.locks = false) (hS : va_S A s.heap H locs) (u : S) (hw : post v u) (hP : va_P G vwCl (cs u) H) (hD : va_D A (cs u)) (hdg : decode cc pc = .ok (.freturn, 1)) : W p l e R s m args below meth c H locs cells slots (MQ below (va_Qf post (sw_Post G A cs) A) args s cells slots A) (F0 m pc ls [.float v]) :=
  W.fret hx hb hr (fun t ht _ => ⟨⟨v, u, rfl, hw, by rw [ht]; exact hP, hD⟩, hS.F ht⟩) hS.2.2 hdg hlocks
theorem sw_rd {post : UInt64 → S → Prop} {v : UInt64} (hx : p.tables.exec = Jvm.exec) (hb : c.code = cc) (hr : meth.sig.returnType = some .double) (hlocks : meth.locks = false) (hS : va_S A s.heap H locs) (u : S) (hw : post v u) (hP : va_P G vwCl (cs u) H) (hD : va_D A (cs u)) (hdg : decode cc pc = .ok (.dreturn, 1)) : W p l e R s m args below meth c H locs cells slots (MQ below (va_Qd post (sw_Post G A cs) A) args s cells slots A) (F0 m pc ls [.double v]) :=
  W.dret hx hb hr (fun t ht _ => ⟨⟨v, u, rfl, hw, by rw [ht]; exact hP, hD⟩, hS.F ht⟩) hS.2.2 hdg hlocks
theorem sw_cf {post : UInt32 → S → Prop} (hr : va_Run p l e R s m args below meth c H locs cells slots mc ms (F0 m pc ls st) rest (va_Qf post (sw_Post G (va_A wc H.size) cs) (va_A wc H.size) a) (va_A wc H.size))
    (hP : va_P G vwCl ws H) (hD : va_D A ws) (hS : va_S A s.heap H locs) (hA : ∀ q : Nat, s.heap.size ≤ q → A q) (isC isR pm : List Nat) (hC : isC.map (fun i => ws[i]?) = wc.map some) (hR : isR.map (fun i => ws[i]?) = (isR.filterMap (fun i => ws[i]?)).map some) (hn : va_nd isR = true) (hdis : ∀ i ∈ isR, i ∉ isC)
    (hpm : ∀ u, pm.map (fun i => ((isR.filterMap (fun i => ws[i]?)) ++ cs u)[i]?) = (pm.filterMap (fun i => ((isR.filterMap (fun i => ws[i]?)) ++ cs u)[i]?)).map some) (hpn : va_nd pm = true)
    (kk : ∀ (r : UInt32) (u : S) (H1 : Heap) (locs1 : List Loc), post r u → va_P G vwCl (pm.filterMap (fun i => ((isR.filterMap (fun i => ws[i]?)) ++ cs u)[i]?)) H1 → va_D A (pm.filterMap (fun i => ((isR.filterMap (fun i => ws[i]?)) ++ cs u)[i]?)) → va_S A s.heap H1 locs1 → W p l e R s m args below meth c H1 locs1 (cells + mc) (slots + ms) Q (F0 m (pc + 3) ls (.float r :: rest))) : W p l e R s m args below meth c H locs cells slots Q (F0 m pc ls st) := by
  have hFc := va_free hD hS hA isC hC
  refine va_callf hr hS (fun q _ h => hFc q h) hFc (fun r u t H1 locs1 ht hvm hw hB hz1 hk1 hS1 => ?_)
  obtain ⟨hP2, hD2⟩ := sw_back hP hD hS hA isC isR pm hC hR hn hdis hpm hpn ht hB hk1
  exact kk r u H1 locs1 hw hP2 hD2 hS1
theorem sw_cd {post : UInt64 → S → Prop} (hr : va_Run p l e R s m args below meth c H locs cells slots mc ms (F0 m pc ls st) rest (va_Qd post (sw_Post G (va_A wc H.size) cs) (va_A wc H.size) a) (va_A wc H.size))
    (hP : va_P G vwCl ws H) (hD : va_D A ws) (hS : va_S A s.heap H locs) (hA : ∀ q : Nat, s.heap.size ≤ q → A q) (isC isR pm : List Nat) (hC : isC.map (fun i => ws[i]?) = wc.map some) (hR : isR.map (fun i => ws[i]?) = (isR.filterMap (fun i => ws[i]?)).map some) (hn : va_nd isR = true) (hdis : ∀ i ∈ isR, i ∉ isC)
    (hpm : ∀ u, pm.map (fun i => ((isR.filterMap (fun i => ws[i]?)) ++ cs u)[i]?) = (pm.filterMap (fun i => ((isR.filterMap (fun i => ws[i]?)) ++ cs u)[i]?)).map some) (hpn : va_nd pm = true)
    (kk : ∀ (r : UInt64) (u : S) (H1 : Heap) (locs1 : List Loc), post r u → va_P G vwCl (pm.filterMap (fun i => ((isR.filterMap (fun i => ws[i]?)) ++ cs u)[i]?)) H1 → va_D A (pm.filterMap (fun i => ((isR.filterMap (fun i => ws[i]?)) ++ cs u)[i]?)) → va_S A s.heap H1 locs1 → W p l e R s m args below meth c H1 locs1 (cells + mc) (slots + ms) Q (F0 m (pc + 3) ls (.double r :: rest))) : W p l e R s m args below meth c H locs cells slots Q (F0 m pc ls st) := by
  have hFc := va_free hD hS hA isC hC
  refine va_calld hr hS (fun q _ h => hFc q h) hFc (fun r u t H1 locs1 ht hvm hw hB hz1 hk1 hS1 => ?_)
  obtain ⟨hP2, hD2⟩ := sw_back hP hD hS hA isC isR pm hC hR hn hdis hpm hpn ht hB hk1
  exact kk r u H1 locs1 hw hP2 hD2 hS1
theorem sw_ldcwf (hexec : p.tables.exec = Jvm.exec) (hb : c.code = cc) {own : String} {index : Nat} {v : UInt32} (hown : s.vm.findClass own = some m.cls) (hconst : (Jvm.Cond.constantFloat own index v).before args s = true) (hdg : decode cc pc = .ok (.ldc_w index, 3)) (k : W p l e R s m args below meth c H locs cells slots Q (F0 m (pc + 3) ls (.float v :: rest))) : W p l e R s m args below meth c H locs cells slots Q (F0 m pc ls rest) := by
  intro T hT X
  obtain ⟨t, a1, b1⟩ := k T hT X
  refine ⟨t, ?_, b1⟩
  obtain ⟨kc, cf, hk, hcf, hcp⟩ := Cond.constantFloat_spec hown hconst
  obtain ⟨k', hk', he⟩ := X.warmed.alike.2.2 _ _ hk
  have hdg' : decode c.code (F0 m pc ls rest).pc = .ok (.ldc_w index, 3) := by rw [hb]; exact hdg
  jvm_step X.here [hexec, hdg', ldc_w.wp_float (s := T) (f := F0 m pc ls rest) X.here.top hk' (by rw [he]; exact hcf) hcp]
  exact a1
end SWF
theorem ms_Jxf58ca_isNaN_12338 : sw_MS yJxf58ca_isNaN_12338 cJxf58ca_isNaN_12338 1 (Option.some Jvm.ClassFile.FieldType.boolean) 1 := ⟨st_Jxf58ca_isNaN_12338, ini_Jxf58ca, co_Jxf58ca_isNaN_12338, by decide +kernel⟩
def F_Jxf58ca_isNaN_12338 (x0 : UInt32) : Option (Bool) :=
 (if (Op.cmpValue (FP.fcmp x0 x0) .l) = 0 then some false else some true)
abbrev RM_Jxf58ca_isNaN_12338 : Room := ({ frames := 0, cells := 0, slots := 0, locals := 0 } : Room)
set_option maxHeartbeats 4000000 in
set_option maxRecDepth 100000 in
theorem c_Jxf58ca_isNaN_12338 (l : Launch) (G : va_G) (ca Z : Nat → Nat) (sz : Nat) (x0 : UInt32) (res : Bool) (hF : F_Jxf58ca_isNaN_12338 x0 = some res) : Met l yJxf58ca_isNaN_12338 (.code yJxf58ca_isNaN_12338 cJxf58ca_isNaN_12338 1 (Option.some Jvm.ClassFile.FieldType.boolean) :: sw_U) RM_Jxf58ca_isNaN_12338 (va_Pc [.float x0] (sw_Pre G ca Z [] sz)) ((fun A => va_Qi (fun r (u : Unit) => bI res = r) (sw_Post G A (fun (u : Unit) => [])) A) (va_A [] sz)) 0 0 (va_A [] sz) := by
  refine sw_ofWF (Qc := fun A => va_Qi (fun r (u : Unit) => bI res = r) (sw_Post G A (fun (u : Unit) => [])) A) (by decide +kernel) [(0, .float x0)] rfl (Nat.le_of_ble_eq_true rfl) ?_
  intro p e s m args below meth c ls A hx hb hr hml hown htU hlocks hnm hP hK hD hX hY hS hA hl
  have hown : s.vm.findClass RJxf58ca = some m.cls := hown
  have Cx : sw_Cx p s m args c cJxf58ca_isNaN_12338 1 RJxf58ca G ca Z A := ⟨⟨hx, hb, hml, hown, htU⟩, hK, hX, hY, hA⟩
  have h := hF
  unfold F_Jxf58ca_isNaN_12338 at h
  refine lv_fload_n hx hb dJxf58ca_isNaN_12338_0 rfl (lv_at hl 0 rfl) ?_
  refine lv_fload_n hx hb dJxf58ca_isNaN_12338_1 rfl (lv_at hl 0 rfl) ?_
  refine lv_fcmp hx hb dJxf58ca_isNaN_12338_2 ?_
  refine lv_if_eq (tgt := 10) hx hb dJxf58ca_isNaN_12338_3 (by decide) (fun c_1 => ?_) (fun c_1 => ?_)
  · have h := if_t c_1 h
    refine lv_iconst (v := 0) hx hb dJxf58ca_isNaN_12338_10 (by decide) ?_
    exact sw_rz hx hb hr rfl hlocks hS () (pb1 h) hP hD dJxf58ca_isNaN_12338_11
  · have h := if_f c_1 h
    refine lv_iconst (v := 1) hx hb dJxf58ca_isNaN_12338_6 (by decide) ?_
    refine lv_goto (tgt := 11) hx hb dJxf58ca_isNaN_12338_7 (by decide) ?_
    exact sw_rz hx hb hr rfl hlocks hS () (pb1 h) hP hD dJxf58ca_isNaN_12338_11
theorem ms_Jxf58ca_floatToIntBits_5c35a : sw_MS yJxf58ca_floatToIntBits_5c35a cJxf58ca_floatToIntBits_5c35a 1 (Option.some Jvm.ClassFile.FieldType.int) 1 := ⟨st_Jxf58ca_floatToIntBits_5c35a, ini_Jxf58ca, co_Jxf58ca_floatToIntBits_5c35a, by decide +kernel⟩
def F_Jxf58ca_floatToIntBits_5c35a (x0 : UInt32) : Option (Int32) :=
 (F_Jxf58ca_isNaN_12338 x0).bind (fun w_1 => (if w_1 = true then some 2143289344 else some x0.toInt32))
abbrev RM_Jxf58ca_floatToIntBits_5c35a : Room := ({ frames := 1, cells := 0, slots := 0, locals := 20 } : Room)
set_option maxHeartbeats 4000000 in
set_option maxRecDepth 100000 in
theorem c_Jxf58ca_floatToIntBits_5c35a (l : Launch) (G : va_G) (ca Z : Nat → Nat) (sz : Nat) (x0 : UInt32) (res : Int32) (hF : F_Jxf58ca_floatToIntBits_5c35a x0 = some res) : Met l yJxf58ca_floatToIntBits_5c35a (.code yJxf58ca_floatToIntBits_5c35a cJxf58ca_floatToIntBits_5c35a 1 (Option.some Jvm.ClassFile.FieldType.int) :: sw_U) RM_Jxf58ca_floatToIntBits_5c35a (va_Pc [.float x0] (sw_Pre G ca Z [] sz)) ((fun A => va_Qi (fun r (u : Unit) => res = r) (sw_Post G A (fun (u : Unit) => [])) A) (va_A [] sz)) 0 0 (va_A [] sz) := by
  refine sw_ofWF (Qc := fun A => va_Qi (fun r (u : Unit) => res = r) (sw_Post G A (fun (u : Unit) => [])) A) (by decide +kernel) [(0, .float x0)] rfl (Nat.le_of_ble_eq_true rfl) ?_
  intro p e s m args below meth c ls A hx hb hr hml hown htU hlocks hnm hP hK hD hX hY hS hA hl
  have hown : s.vm.findClass RJxf58ca = some m.cls := hown
  have Cx : sw_Cx p s m args c cJxf58ca_floatToIntBits_5c35a 1 RJxf58ca G ca Z A := ⟨⟨hx, hb, hml, hown, htU⟩, hK, hX, hY, hA⟩
  have h := hF
  unfold F_Jxf58ca_floatToIntBits_5c35a at h
  refine lv_fload_n hx hb dJxf58ca_floatToIntBits_5c35a_0 rfl (lv_at hl 0 rfl) ?_
  obtain ⟨w_1, hg_2, h⟩ := bd_at h
  refine sw_ci (sw_runS (As := [.float x0]) (rest := []) Cx hP hD hS ms_Jxf58ca_isNaN_12338 ml_Jxf58ca_59 (c_Jxf58ca_isNaN_12338 l G ca Z s.heap.size x0 w_1 hg_2) [] rfl rfl rfl rfl ⟨(Nat.le_of_ble_eq_true rfl), (Nat.le_of_ble_eq_true rfl)⟩ hl.1 rfl rfl (Nat.le_of_ble_eq_true rfl) dJxf58ca_floatToIntBits_5c35a_1 ⟨(Nat.le_of_ble_eq_true rfl), (Nat.le_of_ble_eq_true rfl)⟩) hP hD hS hA [] [] [] rfl rfl rfl (by decide) (fun _ => rfl) rfl (fun r u H locs hw hP hD hS => ?_)
  subst hw
  have hP : va_P G vwCl [] H := hP
  have hD : va_D A [] := hD
  refine lv_if_ne (tgt := 12) hx hb dJxf58ca_floatToIntBits_5c35a_4 (by decide) (fun c_3 => ?_) (fun c_3 => ?_)
  · have c_3 := bI_nz.mp c_3
    have h := if_t c_3 h
    refine lv_ldc (v := 2143289344) hx hb hown (htU _ kc_Jxf58ca_77) dJxf58ca_floatToIntBits_5c35a_12 ?_
    exact sw_ri hx hb hr hlocks hS () (pr1 h) hP hD dJxf58ca_floatToIntBits_5c35a_14
  · have c_3 := bI_z.mp c_3
    have h := if_f c_3 h
    refine lv_fload_n hx hb dJxf58ca_floatToIntBits_5c35a_7 rfl (lv_at hl 0 rfl) ?_
    refine vn_f2i hx hb (hml.trans hl.1.symm) hown (htU _ ml_Jxf58ca_74) (htU _ raw_native) (htU _ raw_static) (htU _ ini_Jxf58ca) (Nat.le_of_ble_eq_true rfl) (Nat.le_of_ble_eq_true rfl) dJxf58ca_floatToIntBits_5c35a_8 ?_
    exact sw_ri hx hb hr hlocks hS () (pr1 h) hP hD dJxf58ca_floatToIntBits_5c35a_11
theorem ms_X10_bitsOfShare : sw_MS yX10_bitsOfShare cX10_bitsOfShare 4 (Option.some Jvm.ClassFile.FieldType.int) 1 := ⟨st_X10_bitsOfShare, ini_X10, co_X10_bitsOfShare, by decide +kernel⟩
def B_X10_bitsOfShare_15 (x0 : UInt32) (k_15 : Int32 → UInt32 → Int32 → Option (Int32)) (x1 : Int32) (x2 : UInt32) (x3 : Int32) : Option (Int32) :=
 (if 126 ≤ x3 then n32 (FP.fmul x2 (1258291200 : UInt32)) (some ((x1 <<< (23 &&& 31)) + ((FP.f2i (FP.fmul x2 (1258291200 : UInt32))) - 8388608))) else (if 0 ≤ (Op.cmpValue (FP.fcmp x2 FP.fconst1) .g) then n32 (FP.fmul x2 (1258291200 : UInt32)) (some ((x1 <<< (23 &&& 31)) + ((FP.f2i (FP.fmul x2 (1258291200 : UInt32))) - 8388608))) else n32 (FP.fmul x2 FP.fconst2) (nm ((FP.fmul x2 FP.fconst2)) (fun x2_7 => nm (x1 + (-1)) (fun x1_8 => nm (x3 + 1) (fun x3_9 => k_15 x1_8 x2_7 x3_9))))))
def F_X10_bitsOfShare (x0 : UInt32) : Option (Int32) :=
 (if 0 < (Op.cmpValue (FP.fcmp x0 FP.fconst0) .g) then fx (fun _ _ _ => none) (B_X10_bitsOfShare_15 x0) FUEL 127 x0 0 else some 0)
abbrev RM_X10_bitsOfShare : Room := ({ frames := 0, cells := 0, slots := 0, locals := 0 } : Room)
set_option maxHeartbeats 4000000 in
set_option maxRecDepth 100000 in
theorem c_X10_bitsOfShare (l : Launch) (G : va_G) (ca Z : Nat → Nat) (sz : Nat) (x0 : UInt32) (res : Int32) (hF : F_X10_bitsOfShare x0 = some res) : Met l yX10_bitsOfShare (.code yX10_bitsOfShare cX10_bitsOfShare 4 (Option.some Jvm.ClassFile.FieldType.int) :: sw_U) RM_X10_bitsOfShare (va_Pc [.float x0] (sw_Pre G ca Z [] sz)) ((fun A => va_Qi (fun r (u : Unit) => res = r) (sw_Post G A (fun (u : Unit) => [])) A) (va_A [] sz)) 0 0 (va_A [] sz) := by
  refine sw_ofW (Qc := fun A => va_Qi (fun r (u : Unit) => res = r) (sw_Post G A (fun (u : Unit) => [])) A) (by decide) [(0, .float x0)] rfl (Nat.le_of_ble_eq_true rfl) ?_
  intro p e s m args below meth c ls A hx hb hr hml hown htU hlocks hnm hP hK hD hX hY hS hA hl
  have hown : s.vm.findClass RX10 = some m.cls := hown
  have Cx : sw_Cx p s m args c cX10_bitsOfShare 4 RX10 G ca Z A := ⟨⟨hx, hb, hml, hown, htU⟩, hK, hX, hY, hA⟩
  have h := hF
  unfold F_X10_bitsOfShare at h
  have hL_15 : ∀ (n_15 : Nat) (x1 : Int32) (x2 : UInt32) (x3 : Int32) (ls : Array Slot) (H : Heap) (locs : List Loc), lv_has ls 4 [(1, .int x1), (2, .float x2), (3, .int x3)] → va_P G vwCl [] H → va_D A [] → va_S A s.heap H locs → fx (fun _ _ _ => none) (B_X10_bitsOfShare_15 x0) n_15 x1 x2 x3 = some res → W p l e RM_X10_bitsOfShare s m args below meth c H locs 0 0 (MQ below ((fun A => va_Qi (fun r (u : Unit) => res = r) (sw_Post G A (fun (u : Unit) => [])) A) A) args s 0 0 A) (F0 m 15 ls []) := by
    intro n_15
    induction n_15 with
    | zero => intro x1 x2 x3 ls H locs hl hP hD hS h; exact no_at h
    | succ n_15 ih_15 =>
      intro x1 x2 x3 ls H locs hl hP hD hS h
      rw [fx_s] at h
      unfold B_X10_bitsOfShare_15 at h
      refine lv_iload_n hx hb dX10_bitsOfShare_15 rfl (lv_at hl 2 rfl) ?_
      refine lv_bipush (v := 126) hx hb dX10_bitsOfShare_16 (by decide) ?_
      refine lv_icmp_ge (tgt := 40) hx hb dX10_bitsOfShare_18 (by decide) (fun c_2 => ?_) (fun c_2 => ?_)
      · have h := if_t c_2 h
        refine lv_iload_n hx hb dX10_bitsOfShare_40 rfl (lv_at hl 0 rfl) ?_
        refine lv_bipush (v := 23) hx hb dX10_bitsOfShare_41 (by decide) ?_
        refine lv_ishl hx hb dX10_bitsOfShare_43 ?_
        refine lv_fload_n hx hb dX10_bitsOfShare_44 rfl (lv_at hl 1 rfl) ?_
        refine sw_ldcwf hx hb hown (htU _ kcf_X10_359) dX10_bitsOfShare_45 ?_
        obtain ⟨hn_3, h⟩ := n32_at h
        refine lv_fmul hx hb dX10_bitsOfShare_48 hn_3 ?_
        refine lv_f2i hx hb dX10_bitsOfShare_49 ?_
        refine lv_ldcw (v := 8388608) hx hb hown (htU _ kc_X10_360) dX10_bitsOfShare_50 ?_
        refine lv_isub hx hb dX10_bitsOfShare_53 ?_
        refine lv_iadd hx hb dX10_bitsOfShare_54 ?_
        exact sw_ri hx hb hr hlocks hS () (pr1 h) hP hD dX10_bitsOfShare_55
      · have h := if_f c_2 h
        refine lv_fload_n hx hb dX10_bitsOfShare_21 rfl (lv_at hl 1 rfl) ?_
        refine lv_fconst1 hx hb dX10_bitsOfShare_22 ?_
        refine lv_fcmp hx hb dX10_bitsOfShare_23 ?_
        refine lv_if_ge (tgt := 40) hx hb dX10_bitsOfShare_24 (by decide) (fun c_4 => ?_) (fun c_4 => ?_)
        · have h := if_t c_4 h
          refine lv_iload_n hx hb dX10_bitsOfShare_40 rfl (lv_at hl 0 rfl) ?_
          refine lv_bipush (v := 23) hx hb dX10_bitsOfShare_41 (by decide) ?_
          refine lv_ishl hx hb dX10_bitsOfShare_43 ?_
          refine lv_fload_n hx hb dX10_bitsOfShare_44 rfl (lv_at hl 1 rfl) ?_
          refine sw_ldcwf hx hb hown (htU _ kcf_X10_359) dX10_bitsOfShare_45 ?_
          obtain ⟨hn_5, h⟩ := n32_at h
          refine lv_fmul hx hb dX10_bitsOfShare_48 hn_5 ?_
          refine lv_f2i hx hb dX10_bitsOfShare_49 ?_
          refine lv_ldcw (v := 8388608) hx hb hown (htU _ kc_X10_360) dX10_bitsOfShare_50 ?_
          refine lv_isub hx hb dX10_bitsOfShare_53 ?_
          refine lv_iadd hx hb dX10_bitsOfShare_54 ?_
          exact sw_ri hx hb hr hlocks hS () (pr1 h) hP hD dX10_bitsOfShare_55
        · have h := if_f c_4 h
          refine lv_fload_n hx hb dX10_bitsOfShare_27 rfl (lv_at hl 1 rfl) ?_
          refine lv_fconst2 hx hb dX10_bitsOfShare_28 ?_
          obtain ⟨hn_6, h⟩ := n32_at h
          refine lv_fmul hx hb dX10_bitsOfShare_29 hn_6 ?_
          refine lv_topf (fun x2_7 e_x2_7 => ?_)
          have h := nm_at e_x2_7 h
          refine lv_fstore_n (lv' := [(2, .float x2_7), (1, .int x1), (3, .int x3)]) hx hb dX10_bitsOfShare_30 rfl hl (by decide) rfl (fun ls hl => ?_)
          obtain ⟨x1_8, e_x1_8⟩ : ∃ y : Int32, y = x1 + (-1) := ⟨_, rfl⟩
          refine lv_iinc (v := x1_8) (lv' := [(1, .int x1_8), (2, .float x2_7), (3, .int x3)]) hx hb dX10_bitsOfShare_31 hl (k := 1) rfl (by rw [e_x1_8]; rfl) (by decide) rfl (fun ls hl => ?_)
          have h := nm_at e_x1_8 h
          obtain ⟨x3_9, e_x3_9⟩ : ∃ y : Int32, y = x3 + 1 := ⟨_, rfl⟩
          refine lv_iinc (v := x3_9) (lv' := [(3, .int x3_9), (1, .int x1_8), (2, .float x2_7)]) hx hb dX10_bitsOfShare_34 hl (k := 2) rfl (by rw [e_x3_9]; rfl) (by decide) rfl (fun ls hl => ?_)
          have h := nm_at e_x3_9 h
          refine lv_goto (tgt := 15) hx hb dX10_bitsOfShare_37 (by decide) ?_
          exact ih_15 x1_8 x2_7 x3_9 ls H _ (lv_sub hl [1, 2, 0] rfl) hP hD hS h
  refine lv_fload_n hx hb dX10_bitsOfShare_0 rfl (lv_at hl 0 rfl) ?_
  refine lv_fconst0 hx hb dX10_bitsOfShare_1 ?_
  refine lv_fcmp hx hb dX10_bitsOfShare_2 ?_
  refine lv_if_gt (tgt := 8) hx hb dX10_bitsOfShare_3 (by decide) (fun c_1 => ?_) (fun c_1 => ?_)
  · have h := if_t c_1 h
    refine lv_bipush (v := 127) hx hb dX10_bitsOfShare_8 (by decide) ?_
    refine lv_istore_n (lv' := [(1, .int 127), (0, .float x0)]) hx hb dX10_bitsOfShare_10 rfl hl (by decide) rfl (fun ls hl => ?_)
    refine lv_fload_n hx hb dX10_bitsOfShare_11 rfl (lv_at hl 1 rfl) ?_
    refine lv_fstore_n (lv' := [(2, .float x0), (1, .int 127), (0, .float x0)]) hx hb dX10_bitsOfShare_12 rfl hl (by decide) rfl (fun ls hl => ?_)
    refine lv_iconst (v := 0) hx hb dX10_bitsOfShare_13 (by decide) ?_
    refine lv_istore_n (lv' := [(3, .int 0), (2, .float x0), (1, .int 127), (0, .float x0)]) hx hb dX10_bitsOfShare_14 rfl hl (by decide) rfl (fun ls hl => ?_)
    exact hL_15 FUEL 127 x0 0 ls s.heap _ (lv_sub hl [2, 1, 0] rfl) hP hD hS h
  · have h := if_f c_1 h
    refine lv_iconst (v := 0) hx hb dX10_bitsOfShare_6 (by decide) ?_
    exact sw_ri hx hb hr hlocks hS () (pr1 h) hP hD dX10_bitsOfShare_7
theorem mv_X10_shareBits : sw_MV yX10_shareBits RX10 cX10_shareBits 2 (Option.some Jvm.ClassFile.FieldType.int) 0 := ⟨im_X10_shareBits, se_X10_shareBits, ini_X10, co_X10_shareBits, by decide +kernel⟩
def F_X10_shareBits (t_plan : PlanT) (t_sieve : SieveT) : Option (Int32 × (SieveT)) :=
 (F_X3_lastNumber t_plan).bind (fun w_1 => nm ((w_1 - 1)) (fun x1_3 => (if x1_3 = 0 then some (0, t_sieve) else (F_X10_current t_plan t_sieve).bind (fun w_5 => (F_X7_markCount w_5).bind (fun w_7 => n32 (FP.fdiv (FP.i2f w_7) (FP.i2f x1_3)) ((F_X10_bitsOfShare (FP.fdiv (FP.i2f w_7) (FP.i2f x1_3))).bind (fun w_10 => some (w_10, w_5))))))))
abbrev RM_X10_shareBits : Room := ({ frames := 3, cells := 0, slots := 0, locals := 67 } : Room)
set_option maxHeartbeats 4000000 in
set_option maxRecDepth 100000 in
theorem c_X10_shareBits (l : Launch) (G : va_G) (ca Z : Nat → Nat) (q_t : Nat) (q_t_plan : Nat) (q_t_plan_ds : Nat) (q_t_sieve : Nat) (q_t_sieve_counts : Nat) (q_t_sieve_owners : Nat) (z_t_before : Value) (z_t_draft : Value) (z_t_snapshot : Value) (z_t_hasSnapshot : Value) (z_t_history : Value) (z_t_source : Value) (z_t_reader : Value) (z_t_script : Value) (z_t_sheet : Value) (z_t_accounts : Value) (z_t_positionOfError : Value) (z_t_plan_rooms : Value) (sz : Nat) (t_plan : PlanT) (t_sieve : SieveT) (res : Int32 × (SieveT)) (hF : F_X10_shareBits t_plan t_sieve = some res) : Met l yX10_shareBits (.code yX10_shareBits cX10_shareBits 2 (Option.some Jvm.ClassFile.FieldType.int) :: sw_U) RM_X10_shareBits (va_Pc [.ref q_t] (sw_Pre G ca Z [(q_t, .inr (7, [.ref q_t_plan, z_t_before, z_t_draft, z_t_snapshot, z_t_hasSnapshot, z_t_history, .ref q_t_sieve, z_t_source, z_t_reader, z_t_script, z_t_sheet, z_t_accounts, z_t_positionOfError])), (q_t_plan, .inr (1, [.int t_plan.1, .int t_plan.2.1, z_t_plan_rooms, .int t_plan.2.2.2.1, .int t_plan.2.2.2.2.1, .ref q_t_plan_ds, .int t_plan.2.2.2.2.2.2])), (q_t_plan_ds, .inl (ca 0, 30, .inl t_plan.2.2.2.2.2.1)), (q_t_sieve, .inr (5, [.ref q_t_sieve_owners, .ref q_t_sieve_counts, .int t_sieve.2.2.1, .int t_sieve.2.2.2.1, .int t_sieve.2.2.2.2.1, .int t_sieve.2.2.2.2.2])), (q_t_sieve_counts, .inl (ca 0, 4802, .inl t_sieve.2.1)), (q_t_sieve_owners, .inl (ca 0, 4802, .inl t_sieve.1))] sz)) ((fun A => va_Qi (fun r (u : SieveT) => res.1 = r ∧ res.2 = u) (sw_Post G A (fun (u : SieveT) => [(q_t, .inr (7, [.ref q_t_plan, z_t_before, z_t_draft, z_t_snapshot, z_t_hasSnapshot, z_t_history, .ref q_t_sieve, z_t_source, z_t_reader, z_t_script, z_t_sheet, z_t_accounts, z_t_positionOfError])), (q_t_plan, .inr (1, [.int t_plan.1, .int t_plan.2.1, z_t_plan_rooms, .int t_plan.2.2.2.1, .int t_plan.2.2.2.2.1, .ref q_t_plan_ds, .int t_plan.2.2.2.2.2.2])), (q_t_plan_ds, .inl (ca 0, 30, .inl t_plan.2.2.2.2.2.1)), (q_t_sieve, .inr (5, [.ref q_t_sieve_owners, .ref q_t_sieve_counts, .int u.2.2.1, .int u.2.2.2.1, .int u.2.2.2.2.1, .int u.2.2.2.2.2])), (q_t_sieve_counts, .inl (ca 0, 4802, .inl u.2.1)), (q_t_sieve_owners, .inl (ca 0, 4802, .inl u.1))])) A) (va_A [(q_t, .inr (7, [.ref q_t_plan, z_t_before, z_t_draft, z_t_snapshot, z_t_hasSnapshot, z_t_history, .ref q_t_sieve, z_t_source, z_t_reader, z_t_script, z_t_sheet, z_t_accounts, z_t_positionOfError])), (q_t_plan, .inr (1, [.int t_plan.1, .int t_plan.2.1, z_t_plan_rooms, .int t_plan.2.2.2.1, .int t_plan.2.2.2.2.1, .ref q_t_plan_ds, .int t_plan.2.2.2.2.2.2])), (q_t_plan_ds, .inl (ca 0, 30, .inl t_plan.2.2.2.2.2.1)), (q_t_sieve, .inr (5, [.ref q_t_sieve_owners, .ref q_t_sieve_counts, .int t_sieve.2.2.1, .int t_sieve.2.2.2.1, .int t_sieve.2.2.2.2.1, .int t_sieve.2.2.2.2.2])), (q_t_sieve_counts, .inl (ca 0, 4802, .inl t_sieve.2.1)), (q_t_sieve_owners, .inl (ca 0, 4802, .inl t_sieve.1))] sz)) 0 0 (va_A [(q_t, .inr (7, [.ref q_t_plan, z_t_before, z_t_draft, z_t_snapshot, z_t_hasSnapshot, z_t_history, .ref q_t_sieve, z_t_source, z_t_reader, z_t_script, z_t_sheet, z_t_accounts, z_t_positionOfError])), (q_t_plan, .inr (1, [.int t_plan.1, .int t_plan.2.1, z_t_plan_rooms, .int t_plan.2.2.2.1, .int t_plan.2.2.2.2.1, .ref q_t_plan_ds, .int t_plan.2.2.2.2.2.2])), (q_t_plan_ds, .inl (ca 0, 30, .inl t_plan.2.2.2.2.2.1)), (q_t_sieve, .inr (5, [.ref q_t_sieve_owners, .ref q_t_sieve_counts, .int t_sieve.2.2.1, .int t_sieve.2.2.2.1, .int t_sieve.2.2.2.2.1, .int t_sieve.2.2.2.2.2])), (q_t_sieve_counts, .inl (ca 0, 4802, .inl t_sieve.2.1)), (q_t_sieve_owners, .inl (ca 0, 4802, .inl t_sieve.1))] sz) := by
  refine sw_ofW (Qc := fun A => va_Qi (fun r (u : SieveT) => res.1 = r ∧ res.2 = u) (sw_Post G A (fun (u : SieveT) => [(q_t, .inr (7, [.ref q_t_plan, z_t_before, z_t_draft, z_t_snapshot, z_t_hasSnapshot, z_t_history, .ref q_t_sieve, z_t_source, z_t_reader, z_t_script, z_t_sheet, z_t_accounts, z_t_positionOfError])), (q_t_plan, .inr (1, [.int t_plan.1, .int t_plan.2.1, z_t_plan_rooms, .int t_plan.2.2.2.1, .int t_plan.2.2.2.2.1, .ref q_t_plan_ds, .int t_plan.2.2.2.2.2.2])), (q_t_plan_ds, .inl (ca 0, 30, .inl t_plan.2.2.2.2.2.1)), (q_t_sieve, .inr (5, [.ref q_t_sieve_owners, .ref q_t_sieve_counts, .int u.2.2.1, .int u.2.2.2.1, .int u.2.2.2.2.1, .int u.2.2.2.2.2])), (q_t_sieve_counts, .inl (ca 0, 4802, .inl u.2.1)), (q_t_sieve_owners, .inl (ca 0, 4802, .inl u.1))])) A) (by decide) [(0, .ref q_t)] rfl (Nat.le_of_ble_eq_true rfl) ?_
  intro p e s m args below meth c ls A hx hb hr hml hown htU hlocks hnm hP hK hD hX hY hS hA hl
  have hown : s.vm.findClass RX10 = some m.cls := hown
  have Cx : sw_Cx p s m args c cX10_shareBits 2 RX10 G ca Z A := ⟨⟨hx, hb, hml, hown, htU⟩, hK, hX, hY, hA⟩
  have h := hF
  unfold F_X10_shareBits at h
  refine lv_aload_n hx hb dX10_shareBits_0 rfl (lv_at hl 0 rfl) ?_
  refine va_get (v := .ref q_t_plan) hx hb htU iU_X10 hown hK hP 0 rfl rfl 0 (by decide) (htU _ fl_X10_12) (fun _ h9 => h9) rfl dX10_shareBits_1 ?_
  obtain ⟨w_1, hg_2, h⟩ := bd_at h
  refine sw_ci (sw_runV (As := []) (rest := []) Cx hP hD hS mv_X3_lastNumber ml_X10_116 (c_X3_lastNumber l G ca Z q_t_plan (z_t_plan_rooms) (.ref q_t_plan_ds) s.heap.size t_plan w_1 hg_2) 1 rfl rfl rfl [1] rfl rfl rfl rfl ⟨(Nat.le_of_ble_eq_true rfl), (Nat.le_of_ble_eq_true rfl)⟩ hl.1 rfl rfl (Nat.le_of_ble_eq_true rfl) dX10_shareBits_4 ⟨(Nat.le_of_ble_eq_true rfl), (Nat.le_of_ble_eq_true rfl)⟩) hP hD hS hA [1] [0, 2, 3, 4, 5] [0, 5, 1, 2, 3, 4] rfl rfl rfl (by decide) (fun _ => rfl) rfl (fun r u H locs hw hP hD hS => ?_)
  subst hw
  have hP : va_P G vwCl [(q_t, .inr (7, [.ref q_t_plan, z_t_before, z_t_draft, z_t_snapshot, z_t_hasSnapshot, z_t_history, .ref q_t_sieve, z_t_source, z_t_reader, z_t_script, z_t_sheet, z_t_accounts, z_t_positionOfError])), (q_t_plan, .inr (1, [.int t_plan.1, .int t_plan.2.1, z_t_plan_rooms, .int t_plan.2.2.2.1, .int t_plan.2.2.2.2.1, .ref q_t_plan_ds, .int t_plan.2.2.2.2.2.2])), (q_t_plan_ds, .inl (ca 0, 30, .inl t_plan.2.2.2.2.2.1)), (q_t_sieve, .inr (5, [.ref q_t_sieve_owners, .ref q_t_sieve_counts, .int t_sieve.2.2.1, .int t_sieve.2.2.2.1, .int t_sieve.2.2.2.2.1, .int t_sieve.2.2.2.2.2])), (q_t_sieve_counts, .inl (ca 0, 4802, .inl t_sieve.2.1)), (q_t_sieve_owners, .inl (ca 0, 4802, .inl t_sieve.1))] H := hP
  have hD : va_D A [(q_t, .inr (7, [.ref q_t_plan, z_t_before, z_t_draft, z_t_snapshot, z_t_hasSnapshot, z_t_history, .ref q_t_sieve, z_t_source, z_t_reader, z_t_script, z_t_sheet, z_t_accounts, z_t_positionOfError])), (q_t_plan, .inr (1, [.int t_plan.1, .int t_plan.2.1, z_t_plan_rooms, .int t_plan.2.2.2.1, .int t_plan.2.2.2.2.1, .ref q_t_plan_ds, .int t_plan.2.2.2.2.2.2])), (q_t_plan_ds, .inl (ca 0, 30, .inl t_plan.2.2.2.2.2.1)), (q_t_sieve, .inr (5, [.ref q_t_sieve_owners, .ref q_t_sieve_counts, .int t_sieve.2.2.1, .int t_sieve.2.2.2.1, .int t_sieve.2.2.2.2.1, .int t_sieve.2.2.2.2.2])), (q_t_sieve_counts, .inl (ca 0, 4802, .inl t_sieve.2.1)), (q_t_sieve_owners, .inl (ca 0, 4802, .inl t_sieve.1))] := hD
  refine lv_iconst (v := 1) hx hb dX10_shareBits_7 (by decide) ?_
  refine lv_isub hx hb dX10_shareBits_8 ?_
  refine lv_topi (fun x1_3 e_x1_3 => ?_)
  have h := nm_at e_x1_3 h
  refine lv_istore_n (lv' := [(1, .int x1_3), (0, .ref q_t)]) hx hb dX10_shareBits_9 rfl hl (by decide) rfl (fun ls hl => ?_)
  refine lv_iload_n hx hb dX10_shareBits_10 rfl (lv_at hl 0 rfl) ?_
  refine lv_if_ne (tgt := 18) hx hb dX10_shareBits_11 (by decide) (fun c_4 => ?_) (fun c_4 => ?_)
  · have h := if_f c_4 h
    refine lv_aload_n hx hb dX10_shareBits_18 rfl (lv_at hl 1 rfl) ?_
    obtain ⟨w_5, hg_6, h⟩ := bd_at h
    refine sw_cr (sw_runV (As := []) (rest := []) Cx hP hD hS mv_X10_current ml_X10_128 (c_X10_current l G ca Z q_t q_t_plan q_t_plan_ds q_t_sieve q_t_sieve_counts q_t_sieve_owners (z_t_before) (z_t_draft) (z_t_snapshot) (z_t_hasSnapshot) (z_t_history) (z_t_source) (z_t_reader) (z_t_script) (z_t_sheet) (z_t_accounts) (z_t_positionOfError) (z_t_plan_rooms) H.size t_plan t_sieve w_5 hg_6) 7 rfl rfl rfl [0, 1, 2, 3, 4, 5] rfl rfl rfl rfl ⟨(Nat.le_of_ble_eq_true rfl), (Nat.le_of_ble_eq_true rfl)⟩ hl.1 rfl rfl (Nat.le_of_ble_eq_true rfl) dX10_shareBits_19 ⟨(Nat.le_of_ble_eq_true rfl), (Nat.le_of_ble_eq_true rfl)⟩) hP hD hS hA [0, 1, 2, 3, 4, 5] [] [0, 1, 2, 3, 4, 5] rfl rfl rfl (by decide) (fun _ => rfl) rfl (fun u H locs hw hP hD hS => ?_)
    subst hw
    have hP : va_P G vwCl [(q_t, .inr (7, [.ref q_t_plan, z_t_before, z_t_draft, z_t_snapshot, z_t_hasSnapshot, z_t_history, .ref q_t_sieve, z_t_source, z_t_reader, z_t_script, z_t_sheet, z_t_accounts, z_t_positionOfError])), (q_t_plan, .inr (1, [.int t_plan.1, .int t_plan.2.1, z_t_plan_rooms, .int t_plan.2.2.2.1, .int t_plan.2.2.2.2.1, .ref q_t_plan_ds, .int t_plan.2.2.2.2.2.2])), (q_t_plan_ds, .inl (ca 0, 30, .inl t_plan.2.2.2.2.2.1)), (q_t_sieve, .inr (5, [.ref q_t_sieve_owners, .ref q_t_sieve_counts, .int w_5.2.2.1, .int w_5.2.2.2.1, .int w_5.2.2.2.2.1, .int w_5.2.2.2.2.2])), (q_t_sieve_counts, .inl (ca 0, 4802, .inl w_5.2.1)), (q_t_sieve_owners, .inl (ca 0, 4802, .inl w_5.1))] H := hP
    have hD : va_D A [(q_t, .inr (7, [.ref q_t_plan, z_t_before, z_t_draft, z_t_snapshot, z_t_hasSnapshot, z_t_history, .ref q_t_sieve, z_t_source, z_t_reader, z_t_script, z_t_sheet, z_t_accounts, z_t_positionOfError])), (q_t_plan, .inr (1, [.int t_plan.1, .int t_plan.2.1, z_t_plan_rooms, .int t_plan.2.2.2.1, .int t_plan.2.2.2.2.1, .ref q_t_plan_ds, .int t_plan.2.2.2.2.2.2])), (q_t_plan_ds, .inl (ca 0, 30, .inl t_plan.2.2.2.2.2.1)), (q_t_sieve, .inr (5, [.ref q_t_sieve_owners, .ref q_t_sieve_counts, .int w_5.2.2.1, .int w_5.2.2.2.1, .int w_5.2.2.2.2.1, .int w_5.2.2.2.2.2])), (q_t_sieve_counts, .inl (ca 0, 4802, .inl w_5.2.1)), (q_t_sieve_owners, .inl (ca 0, 4802, .inl w_5.1))] := hD
    obtain ⟨w_7, hg_8, h⟩ := bd_at h
    refine sw_ci (sw_runV (As := []) (rest := []) Cx hP hD hS mv_X7_markCount ml_X10_132 (c_X7_markCount l G ca Z q_t_sieve (.ref q_t_sieve_owners) (.ref q_t_sieve_counts) H.size w_5 w_7 hg_8) 5 rfl rfl rfl [3] rfl rfl rfl rfl ⟨(Nat.le_of_ble_eq_true rfl), (Nat.le_of_ble_eq_true rfl)⟩ hl.1 rfl rfl (Nat.le_of_ble_eq_true rfl) dX10_shareBits_22 ⟨(Nat.le_of_ble_eq_true rfl), (Nat.le_of_ble_eq_true rfl)⟩) hP hD hS hA [3] [0, 1, 2, 4, 5] [0, 1, 2, 5, 3, 4] rfl rfl rfl (by decide) (fun _ => rfl) rfl (fun r u H locs hw hP hD hS => ?_)
    subst hw
    have hP : va_P G vwCl [(q_t, .inr (7, [.ref q_t_plan, z_t_before, z_t_draft, z_t_snapshot, z_t_hasSnapshot, z_t_history, .ref q_t_sieve, z_t_source, z_t_reader, z_t_script, z_t_sheet, z_t_accounts, z_t_positionOfError])), (q_t_plan, .inr (1, [.int t_plan.1, .int t_plan.2.1, z_t_plan_rooms, .int t_plan.2.2.2.1, .int t_plan.2.2.2.2.1, .ref q_t_plan_ds, .int t_plan.2.2.2.2.2.2])), (q_t_plan_ds, .inl (ca 0, 30, .inl t_plan.2.2.2.2.2.1)), (q_t_sieve, .inr (5, [.ref q_t_sieve_owners, .ref q_t_sieve_counts, .int w_5.2.2.1, .int w_5.2.2.2.1, .int w_5.2.2.2.2.1, .int w_5.2.2.2.2.2])), (q_t_sieve_counts, .inl (ca 0, 4802, .inl w_5.2.1)), (q_t_sieve_owners, .inl (ca 0, 4802, .inl w_5.1))] H := hP
    have hD : va_D A [(q_t, .inr (7, [.ref q_t_plan, z_t_before, z_t_draft, z_t_snapshot, z_t_hasSnapshot, z_t_history, .ref q_t_sieve, z_t_source, z_t_reader, z_t_script, z_t_sheet, z_t_accounts, z_t_positionOfError])), (q_t_plan, .inr (1, [.int t_plan.1, .int t_plan.2.1, z_t_plan_rooms, .int t_plan.2.2.2.1, .int t_plan.2.2.2.2.1, .ref q_t_plan_ds, .int t_plan.2.2.2.2.2.2])), (q_t_plan_ds, .inl (ca 0, 30, .inl t_plan.2.2.2.2.2.1)), (q_t_sieve, .inr (5, [.ref q_t_sieve_owners, .ref q_t_sieve_counts, .int w_5.2.2.1, .int w_5.2.2.2.1, .int w_5.2.2.2.2.1, .int w_5.2.2.2.2.2])), (q_t_sieve_counts, .inl (ca 0, 4802, .inl w_5.2.1)), (q_t_sieve_owners, .inl (ca 0, 4802, .inl w_5.1))] := hD
    refine lv_i2f hx hb dX10_shareBits_25 ?_
    refine lv_iload_n hx hb dX10_shareBits_26 rfl (lv_at hl 0 rfl) ?_
    refine lv_i2f hx hb dX10_shareBits_27 ?_
    obtain ⟨hn_9, h⟩ := n32_at h
    refine lv_fdiv hx hb dX10_shareBits_28 hn_9 ?_
    obtain ⟨w_10, hg_11, h⟩ := bd_at h
    refine sw_ci (sw_runS (As := [.float (FP.fdiv (FP.i2f w_7) (FP.i2f x1_3))]) (rest := []) Cx hP hD hS ms_X10_bitsOfShare ml_X10_263 (c_X10_bitsOfShare l G ca Z H.size (FP.fdiv (FP.i2f w_7) (FP.i2f x1_3)) w_10 hg_11) [] rfl rfl rfl rfl ⟨(Nat.le_of_ble_eq_true rfl), (Nat.le_of_ble_eq_true rfl)⟩ hl.1 rfl rfl (Nat.le_of_ble_eq_true rfl) dX10_shareBits_29 ⟨(Nat.le_of_ble_eq_true rfl), (Nat.le_of_ble_eq_true rfl)⟩) hP hD hS hA [] [0, 1, 2, 3, 4, 5] [0, 1, 2, 3, 4, 5] rfl rfl rfl (by decide) (fun _ => rfl) rfl (fun r u H locs hw hP hD hS => ?_)
    subst hw
    have hP : va_P G vwCl [(q_t, .inr (7, [.ref q_t_plan, z_t_before, z_t_draft, z_t_snapshot, z_t_hasSnapshot, z_t_history, .ref q_t_sieve, z_t_source, z_t_reader, z_t_script, z_t_sheet, z_t_accounts, z_t_positionOfError])), (q_t_plan, .inr (1, [.int t_plan.1, .int t_plan.2.1, z_t_plan_rooms, .int t_plan.2.2.2.1, .int t_plan.2.2.2.2.1, .ref q_t_plan_ds, .int t_plan.2.2.2.2.2.2])), (q_t_plan_ds, .inl (ca 0, 30, .inl t_plan.2.2.2.2.2.1)), (q_t_sieve, .inr (5, [.ref q_t_sieve_owners, .ref q_t_sieve_counts, .int w_5.2.2.1, .int w_5.2.2.2.1, .int w_5.2.2.2.2.1, .int w_5.2.2.2.2.2])), (q_t_sieve_counts, .inl (ca 0, 4802, .inl w_5.2.1)), (q_t_sieve_owners, .inl (ca 0, 4802, .inl w_5.1))] H := hP
    have hD : va_D A [(q_t, .inr (7, [.ref q_t_plan, z_t_before, z_t_draft, z_t_snapshot, z_t_hasSnapshot, z_t_history, .ref q_t_sieve, z_t_source, z_t_reader, z_t_script, z_t_sheet, z_t_accounts, z_t_positionOfError])), (q_t_plan, .inr (1, [.int t_plan.1, .int t_plan.2.1, z_t_plan_rooms, .int t_plan.2.2.2.1, .int t_plan.2.2.2.2.1, .ref q_t_plan_ds, .int t_plan.2.2.2.2.2.2])), (q_t_plan_ds, .inl (ca 0, 30, .inl t_plan.2.2.2.2.2.1)), (q_t_sieve, .inr (5, [.ref q_t_sieve_owners, .ref q_t_sieve_counts, .int w_5.2.2.1, .int w_5.2.2.2.1, .int w_5.2.2.2.2.1, .int w_5.2.2.2.2.2])), (q_t_sieve_counts, .inl (ca 0, 4802, .inl w_5.2.1)), (q_t_sieve_owners, .inl (ca 0, 4802, .inl w_5.1))] := hD
    exact sw_ri hx hb hr hlocks hS w_5 (pr2 h) hP hD dX10_shareBits_32
  · have h := if_t c_4 h
    refine lv_iconst (v := 0) hx hb dX10_shareBits_14 (by decide) ?_
    refine lv_goto (tgt := 32) hx hb dX10_shareBits_15 (by decide) ?_
    exact sw_ri hx hb hr hlocks hS t_sieve (pr2 h) hP hD dX10_shareBits_32
theorem mv_X10_useful : sw_MV yX10_useful RX10 cX10_useful 4 (Option.some Jvm.ClassFile.FieldType.double) 0 := ⟨im_X10_useful, se_X10_useful, ini_X10, co_X10_useful, by decide +kernel⟩
def B_X10_useful_9 (t_plan : PlanT) (k_9 : Int32 → Int32 → SieveT → Option (UInt64 × (SieveT))) (x2 : Int32) (x3 : Int32) (t_sieve : SieveT) : Option (UInt64 × (SieveT)) :=
 (F_X3_strikerCount t_plan).bind (fun w_3 => (if w_3 ≤ x3 then (if x2 = 0 then some (FP.dconst1, t_sieve) else (F_X7_spokeCount t_sieve).bind (fun w_7 => (F_X7_markCount t_sieve).bind (fun w_9 => n64 (FP.ddiv (FP.i2d (w_7 - w_9)) (FP.i2d x2)) (some ((FP.ddiv (FP.i2d (w_7 - w_9)) (FP.i2d x2)), t_sieve))))) else (F_X3_dOf x3 t_plan).bind (fun w_12 => (F_X7_countStrikes w_12 t_sieve).bind (fun w_14 => nm ((x2 + w_14)) (fun x2_16 => nm (x3 + 1) (fun x3_17 => k_9 x2_16 x3_17 t_sieve))))))
def F_X10_useful (t_plan : PlanT) (t_sieve : SieveT) : Option (UInt64 × (SieveT)) :=
 (F_X10_current t_plan t_sieve).bind (fun w_1 => fx (fun _ _ _ => none) (B_X10_useful_9 t_plan) FUEL 0 0 w_1)
abbrev RM_X10_useful : Room := ({ frames := 3, cells := 0, slots := 0, locals := 67 } : Room)
set_option maxHeartbeats 4000000 in
set_option maxRecDepth 100000 in
theorem c_X10_useful (l : Launch) (G : va_G) (ca Z : Nat → Nat) (q_t : Nat) (q_t_plan : Nat) (q_t_plan_ds : Nat) (q_t_sieve : Nat) (q_t_sieve_counts : Nat) (q_t_sieve_owners : Nat) (z_t_before : Value) (z_t_draft : Value) (z_t_snapshot : Value) (z_t_hasSnapshot : Value) (z_t_history : Value) (z_t_source : Value) (z_t_reader : Value) (z_t_script : Value) (z_t_sheet : Value) (z_t_accounts : Value) (z_t_positionOfError : Value) (z_t_plan_rooms : Value) (sz : Nat) (t_plan : PlanT) (t_sieve : SieveT) (res : UInt64 × (SieveT)) (hF : F_X10_useful t_plan t_sieve = some res) : Met l yX10_useful (.code yX10_useful cX10_useful 4 (Option.some Jvm.ClassFile.FieldType.double) :: sw_U) RM_X10_useful (va_Pc [.ref q_t] (sw_Pre G ca Z [(q_t, .inr (7, [.ref q_t_plan, z_t_before, z_t_draft, z_t_snapshot, z_t_hasSnapshot, z_t_history, .ref q_t_sieve, z_t_source, z_t_reader, z_t_script, z_t_sheet, z_t_accounts, z_t_positionOfError])), (q_t_plan, .inr (1, [.int t_plan.1, .int t_plan.2.1, z_t_plan_rooms, .int t_plan.2.2.2.1, .int t_plan.2.2.2.2.1, .ref q_t_plan_ds, .int t_plan.2.2.2.2.2.2])), (q_t_plan_ds, .inl (ca 0, 30, .inl t_plan.2.2.2.2.2.1)), (q_t_sieve, .inr (5, [.ref q_t_sieve_owners, .ref q_t_sieve_counts, .int t_sieve.2.2.1, .int t_sieve.2.2.2.1, .int t_sieve.2.2.2.2.1, .int t_sieve.2.2.2.2.2])), (q_t_sieve_counts, .inl (ca 0, 4802, .inl t_sieve.2.1)), (q_t_sieve_owners, .inl (ca 0, 4802, .inl t_sieve.1))] sz)) ((fun A => va_Qd (fun r (u : SieveT) => res.1 = r ∧ res.2 = u) (sw_Post G A (fun (u : SieveT) => [(q_t, .inr (7, [.ref q_t_plan, z_t_before, z_t_draft, z_t_snapshot, z_t_hasSnapshot, z_t_history, .ref q_t_sieve, z_t_source, z_t_reader, z_t_script, z_t_sheet, z_t_accounts, z_t_positionOfError])), (q_t_plan, .inr (1, [.int t_plan.1, .int t_plan.2.1, z_t_plan_rooms, .int t_plan.2.2.2.1, .int t_plan.2.2.2.2.1, .ref q_t_plan_ds, .int t_plan.2.2.2.2.2.2])), (q_t_plan_ds, .inl (ca 0, 30, .inl t_plan.2.2.2.2.2.1)), (q_t_sieve, .inr (5, [.ref q_t_sieve_owners, .ref q_t_sieve_counts, .int u.2.2.1, .int u.2.2.2.1, .int u.2.2.2.2.1, .int u.2.2.2.2.2])), (q_t_sieve_counts, .inl (ca 0, 4802, .inl u.2.1)), (q_t_sieve_owners, .inl (ca 0, 4802, .inl u.1))])) A) (va_A [(q_t, .inr (7, [.ref q_t_plan, z_t_before, z_t_draft, z_t_snapshot, z_t_hasSnapshot, z_t_history, .ref q_t_sieve, z_t_source, z_t_reader, z_t_script, z_t_sheet, z_t_accounts, z_t_positionOfError])), (q_t_plan, .inr (1, [.int t_plan.1, .int t_plan.2.1, z_t_plan_rooms, .int t_plan.2.2.2.1, .int t_plan.2.2.2.2.1, .ref q_t_plan_ds, .int t_plan.2.2.2.2.2.2])), (q_t_plan_ds, .inl (ca 0, 30, .inl t_plan.2.2.2.2.2.1)), (q_t_sieve, .inr (5, [.ref q_t_sieve_owners, .ref q_t_sieve_counts, .int t_sieve.2.2.1, .int t_sieve.2.2.2.1, .int t_sieve.2.2.2.2.1, .int t_sieve.2.2.2.2.2])), (q_t_sieve_counts, .inl (ca 0, 4802, .inl t_sieve.2.1)), (q_t_sieve_owners, .inl (ca 0, 4802, .inl t_sieve.1))] sz)) 0 0 (va_A [(q_t, .inr (7, [.ref q_t_plan, z_t_before, z_t_draft, z_t_snapshot, z_t_hasSnapshot, z_t_history, .ref q_t_sieve, z_t_source, z_t_reader, z_t_script, z_t_sheet, z_t_accounts, z_t_positionOfError])), (q_t_plan, .inr (1, [.int t_plan.1, .int t_plan.2.1, z_t_plan_rooms, .int t_plan.2.2.2.1, .int t_plan.2.2.2.2.1, .ref q_t_plan_ds, .int t_plan.2.2.2.2.2.2])), (q_t_plan_ds, .inl (ca 0, 30, .inl t_plan.2.2.2.2.2.1)), (q_t_sieve, .inr (5, [.ref q_t_sieve_owners, .ref q_t_sieve_counts, .int t_sieve.2.2.1, .int t_sieve.2.2.2.1, .int t_sieve.2.2.2.2.1, .int t_sieve.2.2.2.2.2])), (q_t_sieve_counts, .inl (ca 0, 4802, .inl t_sieve.2.1)), (q_t_sieve_owners, .inl (ca 0, 4802, .inl t_sieve.1))] sz) := by
  refine sw_ofW (Qc := fun A => va_Qd (fun r (u : SieveT) => res.1 = r ∧ res.2 = u) (sw_Post G A (fun (u : SieveT) => [(q_t, .inr (7, [.ref q_t_plan, z_t_before, z_t_draft, z_t_snapshot, z_t_hasSnapshot, z_t_history, .ref q_t_sieve, z_t_source, z_t_reader, z_t_script, z_t_sheet, z_t_accounts, z_t_positionOfError])), (q_t_plan, .inr (1, [.int t_plan.1, .int t_plan.2.1, z_t_plan_rooms, .int t_plan.2.2.2.1, .int t_plan.2.2.2.2.1, .ref q_t_plan_ds, .int t_plan.2.2.2.2.2.2])), (q_t_plan_ds, .inl (ca 0, 30, .inl t_plan.2.2.2.2.2.1)), (q_t_sieve, .inr (5, [.ref q_t_sieve_owners, .ref q_t_sieve_counts, .int u.2.2.1, .int u.2.2.2.1, .int u.2.2.2.2.1, .int u.2.2.2.2.2])), (q_t_sieve_counts, .inl (ca 0, 4802, .inl u.2.1)), (q_t_sieve_owners, .inl (ca 0, 4802, .inl u.1))])) A) (by decide) [(0, .ref q_t)] rfl (Nat.le_of_ble_eq_true rfl) ?_
  intro p e s m args below meth c ls A hx hb hr hml hown htU hlocks hnm hP hK hD hX hY hS hA hl
  have hown : s.vm.findClass RX10 = some m.cls := hown
  have Cx : sw_Cx p s m args c cX10_useful 4 RX10 G ca Z A := ⟨⟨hx, hb, hml, hown, htU⟩, hK, hX, hY, hA⟩
  have h := hF
  unfold F_X10_useful at h
  have hL_9 : ∀ (n_9 : Nat) (x2 : Int32) (x3 : Int32) (t_sieve : SieveT) (ls : Array Slot) (H : Heap) (locs : List Loc), lv_has ls 4 [(0, .ref q_t), (1, .ref q_t_sieve), (2, .int x2), (3, .int x3)] → va_P G vwCl [(q_t, .inr (7, [.ref q_t_plan, z_t_before, z_t_draft, z_t_snapshot, z_t_hasSnapshot, z_t_history, .ref q_t_sieve, z_t_source, z_t_reader, z_t_script, z_t_sheet, z_t_accounts, z_t_positionOfError])), (q_t_plan, .inr (1, [.int t_plan.1, .int t_plan.2.1, z_t_plan_rooms, .int t_plan.2.2.2.1, .int t_plan.2.2.2.2.1, .ref q_t_plan_ds, .int t_plan.2.2.2.2.2.2])), (q_t_plan_ds, .inl (ca 0, 30, .inl t_plan.2.2.2.2.2.1)), (q_t_sieve, .inr (5, [.ref q_t_sieve_owners, .ref q_t_sieve_counts, .int t_sieve.2.2.1, .int t_sieve.2.2.2.1, .int t_sieve.2.2.2.2.1, .int t_sieve.2.2.2.2.2])), (q_t_sieve_counts, .inl (ca 0, 4802, .inl t_sieve.2.1)), (q_t_sieve_owners, .inl (ca 0, 4802, .inl t_sieve.1))] H → va_D A [(q_t, .inr (7, [.ref q_t_plan, z_t_before, z_t_draft, z_t_snapshot, z_t_hasSnapshot, z_t_history, .ref q_t_sieve, z_t_source, z_t_reader, z_t_script, z_t_sheet, z_t_accounts, z_t_positionOfError])), (q_t_plan, .inr (1, [.int t_plan.1, .int t_plan.2.1, z_t_plan_rooms, .int t_plan.2.2.2.1, .int t_plan.2.2.2.2.1, .ref q_t_plan_ds, .int t_plan.2.2.2.2.2.2])), (q_t_plan_ds, .inl (ca 0, 30, .inl t_plan.2.2.2.2.2.1)), (q_t_sieve, .inr (5, [.ref q_t_sieve_owners, .ref q_t_sieve_counts, .int t_sieve.2.2.1, .int t_sieve.2.2.2.1, .int t_sieve.2.2.2.2.1, .int t_sieve.2.2.2.2.2])), (q_t_sieve_counts, .inl (ca 0, 4802, .inl t_sieve.2.1)), (q_t_sieve_owners, .inl (ca 0, 4802, .inl t_sieve.1))] → va_S A s.heap H locs → fx (fun _ _ _ => none) (B_X10_useful_9 t_plan) n_9 x2 x3 t_sieve = some res → W p l e RM_X10_useful s m args below meth c H locs 0 0 (MQ below ((fun A => va_Qd (fun r (u : SieveT) => res.1 = r ∧ res.2 = u) (sw_Post G A (fun (u : SieveT) => [(q_t, .inr (7, [.ref q_t_plan, z_t_before, z_t_draft, z_t_snapshot, z_t_hasSnapshot, z_t_history, .ref q_t_sieve, z_t_source, z_t_reader, z_t_script, z_t_sheet, z_t_accounts, z_t_positionOfError])), (q_t_plan, .inr (1, [.int t_plan.1, .int t_plan.2.1, z_t_plan_rooms, .int t_plan.2.2.2.1, .int t_plan.2.2.2.2.1, .ref q_t_plan_ds, .int t_plan.2.2.2.2.2.2])), (q_t_plan_ds, .inl (ca 0, 30, .inl t_plan.2.2.2.2.2.1)), (q_t_sieve, .inr (5, [.ref q_t_sieve_owners, .ref q_t_sieve_counts, .int u.2.2.1, .int u.2.2.2.1, .int u.2.2.2.2.1, .int u.2.2.2.2.2])), (q_t_sieve_counts, .inl (ca 0, 4802, .inl u.2.1)), (q_t_sieve_owners, .inl (ca 0, 4802, .inl u.1))])) A) A) args s 0 0 A) (F0 m 9 ls []) := by
    intro n_9
    induction n_9 with
    | zero => intro x2 x3 t_sieve ls H locs hl hP hD hS h; exact no_at h
    | succ n_9 ih_9 =>
      intro x2 x3 t_sieve ls H locs hl hP hD hS h
      rw [fx_s] at h
      unfold B_X10_useful_9 at h
      refine lv_iload_n hx hb dX10_useful_9 rfl (lv_at hl 3 rfl) ?_
      refine lv_aload_n hx hb dX10_useful_10 rfl (lv_at hl 0 rfl) ?_
      refine va_get (v := .ref q_t_plan) hx hb htU iU_X10 hown hK hP 0 rfl rfl 0 (by decide) (htU _ fl_X10_12) (fun _ h9 => h9) rfl dX10_useful_11 ?_
      obtain ⟨w_3, hg_4, h⟩ := bd_at h
      refine sw_ci (sw_runV (As := []) (rest := [.int x3]) Cx hP hD hS mv_X3_strikerCount ml_X10_125 (c_X3_strikerCount l G ca Z q_t_plan (z_t_plan_rooms) (.ref q_t_plan_ds) H.size t_plan w_3 hg_4) 1 rfl rfl rfl [1] rfl rfl rfl rfl ⟨(Nat.le_of_ble_eq_true rfl), (Nat.le_of_ble_eq_true rfl)⟩ hl.1 rfl rfl (Nat.le_of_ble_eq_true rfl) dX10_useful_14 ⟨(Nat.le_of_ble_eq_true rfl), (Nat.le_of_ble_eq_true rfl)⟩) hP hD hS hA [1] [0, 2, 3, 4, 5] [0, 5, 1, 2, 3, 4] rfl rfl rfl (by decide) (fun _ => rfl) rfl (fun r u H locs hw hP hD hS => ?_)
      subst hw
      have hP : va_P G vwCl [(q_t, .inr (7, [.ref q_t_plan, z_t_before, z_t_draft, z_t_snapshot, z_t_hasSnapshot, z_t_history, .ref q_t_sieve, z_t_source, z_t_reader, z_t_script, z_t_sheet, z_t_accounts, z_t_positionOfError])), (q_t_plan, .inr (1, [.int t_plan.1, .int t_plan.2.1, z_t_plan_rooms, .int t_plan.2.2.2.1, .int t_plan.2.2.2.2.1, .ref q_t_plan_ds, .int t_plan.2.2.2.2.2.2])), (q_t_plan_ds, .inl (ca 0, 30, .inl t_plan.2.2.2.2.2.1)), (q_t_sieve, .inr (5, [.ref q_t_sieve_owners, .ref q_t_sieve_counts, .int t_sieve.2.2.1, .int t_sieve.2.2.2.1, .int t_sieve.2.2.2.2.1, .int t_sieve.2.2.2.2.2])), (q_t_sieve_counts, .inl (ca 0, 4802, .inl t_sieve.2.1)), (q_t_sieve_owners, .inl (ca 0, 4802, .inl t_sieve.1))] H := hP
      have hD : va_D A [(q_t, .inr (7, [.ref q_t_plan, z_t_before, z_t_draft, z_t_snapshot, z_t_hasSnapshot, z_t_history, .ref q_t_sieve, z_t_source, z_t_reader, z_t_script, z_t_sheet, z_t_accounts, z_t_positionOfError])), (q_t_plan, .inr (1, [.int t_plan.1, .int t_plan.2.1, z_t_plan_rooms, .int t_plan.2.2.2.1, .int t_plan.2.2.2.2.1, .ref q_t_plan_ds, .int t_plan.2.2.2.2.2.2])), (q_t_plan_ds, .inl (ca 0, 30, .inl t_plan.2.2.2.2.2.1)), (q_t_sieve, .inr (5, [.ref q_t_sieve_owners, .ref q_t_sieve_counts, .int t_sieve.2.2.1, .int t_sieve.2.2.2.1, .int t_sieve.2.2.2.2.1, .int t_sieve.2.2.2.2.2])), (q_t_sieve_counts, .inl (ca 0, 4802, .inl t_sieve.2.1)), (q_t_sieve_owners, .inl (ca 0, 4802, .inl t_sieve.1))] := hD
      refine lv_icmp_ge (tgt := 41) hx hb dX10_useful_17 (by decide) (fun c_5 => ?_) (fun c_5 => ?_)
      · have h := if_t c_5 h
        refine lv_iload_n hx hb dX10_useful_41 rfl (lv_at hl 2 rfl) ?_
        refine lv_if_ne (tgt := 49) hx hb dX10_useful_42 (by decide) (fun c_6 => ?_) (fun c_6 => ?_)
        · have h := if_f c_6 h
          refine lv_aload_n hx hb dX10_useful_49 rfl (lv_at hl 1 rfl) ?_
          obtain ⟨w_7, hg_8, h⟩ := bd_at h
          refine sw_ci (sw_runV (As := []) (rest := []) Cx hP hD hS mv_X7_spokeCount ml_X10_135 (c_X7_spokeCount l G ca Z q_t_sieve (.ref q_t_sieve_owners) (.ref q_t_sieve_counts) H.size t_sieve w_7 hg_8) 5 rfl rfl rfl [3] rfl rfl rfl rfl ⟨(Nat.le_of_ble_eq_true rfl), (Nat.le_of_ble_eq_true rfl)⟩ hl.1 rfl rfl (Nat.le_of_ble_eq_true rfl) dX10_useful_50 ⟨(Nat.le_of_ble_eq_true rfl), (Nat.le_of_ble_eq_true rfl)⟩) hP hD hS hA [3] [0, 1, 2, 4, 5] [0, 1, 2, 5, 3, 4] rfl rfl rfl (by decide) (fun _ => rfl) rfl (fun r u H locs hw hP hD hS => ?_)
          subst hw
          have hP : va_P G vwCl [(q_t, .inr (7, [.ref q_t_plan, z_t_before, z_t_draft, z_t_snapshot, z_t_hasSnapshot, z_t_history, .ref q_t_sieve, z_t_source, z_t_reader, z_t_script, z_t_sheet, z_t_accounts, z_t_positionOfError])), (q_t_plan, .inr (1, [.int t_plan.1, .int t_plan.2.1, z_t_plan_rooms, .int t_plan.2.2.2.1, .int t_plan.2.2.2.2.1, .ref q_t_plan_ds, .int t_plan.2.2.2.2.2.2])), (q_t_plan_ds, .inl (ca 0, 30, .inl t_plan.2.2.2.2.2.1)), (q_t_sieve, .inr (5, [.ref q_t_sieve_owners, .ref q_t_sieve_counts, .int t_sieve.2.2.1, .int t_sieve.2.2.2.1, .int t_sieve.2.2.2.2.1, .int t_sieve.2.2.2.2.2])), (q_t_sieve_counts, .inl (ca 0, 4802, .inl t_sieve.2.1)), (q_t_sieve_owners, .inl (ca 0, 4802, .inl t_sieve.1))] H := hP
          have hD : va_D A [(q_t, .inr (7, [.ref q_t_plan, z_t_before, z_t_draft, z_t_snapshot, z_t_hasSnapshot, z_t_history, .ref q_t_sieve, z_t_source, z_t_reader, z_t_script, z_t_sheet, z_t_accounts, z_t_positionOfError])), (q_t_plan, .inr (1, [.int t_plan.1, .int t_plan.2.1, z_t_plan_rooms, .int t_plan.2.2.2.1, .int t_plan.2.2.2.2.1, .ref q_t_plan_ds, .int t_plan.2.2.2.2.2.2])), (q_t_plan_ds, .inl (ca 0, 30, .inl t_plan.2.2.2.2.2.1)), (q_t_sieve, .inr (5, [.ref q_t_sieve_owners, .ref q_t_sieve_counts, .int t_sieve.2.2.1, .int t_sieve.2.2.2.1, .int t_sieve.2.2.2.2.1, .int t_sieve.2.2.2.2.2])), (q_t_sieve_counts, .inl (ca 0, 4802, .inl t_sieve.2.1)), (q_t_sieve_owners, .inl (ca 0, 4802, .inl t_sieve.1))] := hD
          refine lv_aload_n hx hb dX10_useful_53 rfl (lv_at hl 1 rfl) ?_
          obtain ⟨w_9, hg_10, h⟩ := bd_at h
          refine sw_ci (sw_runV (As := []) (rest := [.int w_7]) Cx hP hD hS mv_X7_markCount ml_X10_132 (c_X7_markCount l G ca Z q_t_sieve (.ref q_t_sieve_owners) (.ref q_t_sieve_counts) H.size t_sieve w_9 hg_10) 5 rfl rfl rfl [3] rfl rfl rfl rfl ⟨(Nat.le_of_ble_eq_true rfl), (Nat.le_of_ble_eq_true rfl)⟩ hl.1 rfl rfl (Nat.le_of_ble_eq_true rfl) dX10_useful_54 ⟨(Nat.le_of_ble_eq_true rfl), (Nat.le_of_ble_eq_true rfl)⟩) hP hD hS hA [3] [0, 1, 2, 4, 5] [0, 1, 2, 5, 3, 4] rfl rfl rfl (by decide) (fun _ => rfl) rfl (fun r u H locs hw hP hD hS => ?_)
          subst hw
          have hP : va_P G vwCl [(q_t, .inr (7, [.ref q_t_plan, z_t_before, z_t_draft, z_t_snapshot, z_t_hasSnapshot, z_t_history, .ref q_t_sieve, z_t_source, z_t_reader, z_t_script, z_t_sheet, z_t_accounts, z_t_positionOfError])), (q_t_plan, .inr (1, [.int t_plan.1, .int t_plan.2.1, z_t_plan_rooms, .int t_plan.2.2.2.1, .int t_plan.2.2.2.2.1, .ref q_t_plan_ds, .int t_plan.2.2.2.2.2.2])), (q_t_plan_ds, .inl (ca 0, 30, .inl t_plan.2.2.2.2.2.1)), (q_t_sieve, .inr (5, [.ref q_t_sieve_owners, .ref q_t_sieve_counts, .int t_sieve.2.2.1, .int t_sieve.2.2.2.1, .int t_sieve.2.2.2.2.1, .int t_sieve.2.2.2.2.2])), (q_t_sieve_counts, .inl (ca 0, 4802, .inl t_sieve.2.1)), (q_t_sieve_owners, .inl (ca 0, 4802, .inl t_sieve.1))] H := hP
          have hD : va_D A [(q_t, .inr (7, [.ref q_t_plan, z_t_before, z_t_draft, z_t_snapshot, z_t_hasSnapshot, z_t_history, .ref q_t_sieve, z_t_source, z_t_reader, z_t_script, z_t_sheet, z_t_accounts, z_t_positionOfError])), (q_t_plan, .inr (1, [.int t_plan.1, .int t_plan.2.1, z_t_plan_rooms, .int t_plan.2.2.2.1, .int t_plan.2.2.2.2.1, .ref q_t_plan_ds, .int t_plan.2.2.2.2.2.2])), (q_t_plan_ds, .inl (ca 0, 30, .inl t_plan.2.2.2.2.2.1)), (q_t_sieve, .inr (5, [.ref q_t_sieve_owners, .ref q_t_sieve_counts, .int t_sieve.2.2.1, .int t_sieve.2.2.2.1, .int t_sieve.2.2.2.2.1, .int t_sieve.2.2.2.2.2])), (q_t_sieve_counts, .inl (ca 0, 4802, .inl t_sieve.2.1)), (q_t_sieve_owners, .inl (ca 0, 4802, .inl t_sieve.1))] := hD
          refine lv_isub hx hb dX10_useful_57 ?_
          refine lv_i2d hx hb dX10_useful_58 ?_
          refine lv_iload_n hx hb dX10_useful_59 rfl (lv_at hl 2 rfl) ?_
          refine lv_i2d hx hb dX10_useful_60 ?_
          obtain ⟨hn_11, h⟩ := n64_at h
          refine lv_ddiv hx hb dX10_useful_61 hn_11 ?_
          exact sw_rd hx hb hr hlocks hS t_sieve (pr2 h) hP hD dX10_useful_62
        · have h := if_t c_6 h
          refine lv_dconst1 hx hb dX10_useful_45 ?_
          refine lv_goto (tgt := 62) hx hb dX10_useful_46 (by decide) ?_
          exact sw_rd hx hb hr hlocks hS t_sieve (pr2 h) hP hD dX10_useful_62
      · have h := if_f c_5 h
        refine lv_iload_n hx hb dX10_useful_20 rfl (lv_at hl 2 rfl) ?_
        refine lv_aload_n hx hb dX10_useful_21 rfl (lv_at hl 1 rfl) ?_
        refine lv_aload_n hx hb dX10_useful_22 rfl (lv_at hl 0 rfl) ?_
        refine va_get (v := .ref q_t_plan) hx hb htU iU_X10 hown hK hP 0 rfl rfl 0 (by decide) (htU _ fl_X10_12) (fun _ h9 => h9) rfl dX10_useful_23 ?_
        refine lv_iload_n hx hb dX10_useful_26 rfl (lv_at hl 3 rfl) ?_
        obtain ⟨w_12, hg_13, h⟩ := bd_at h
        refine sw_ci (sw_runV (As := [.int x3]) (rest := [.ref q_t_sieve, .int x2]) Cx hP hD hS mv_X3_dOf ml_X10_182 (c_X3_dOf l G ca Z q_t_plan q_t_plan_ds (z_t_plan_rooms) H.size x3 t_plan w_12 hg_13) 1 rfl rfl rfl [1, 2] rfl rfl rfl rfl ⟨(Nat.le_of_ble_eq_true rfl), (Nat.le_of_ble_eq_true rfl)⟩ hl.1 rfl rfl (Nat.le_of_ble_eq_true rfl) dX10_useful_27 ⟨(Nat.le_of_ble_eq_true rfl), (Nat.le_of_ble_eq_true rfl)⟩) hP hD hS hA [1, 2] [0, 3, 4, 5] [0, 4, 5, 1, 2, 3] rfl rfl rfl (by decide) (fun _ => rfl) rfl (fun r u H locs hw hP hD hS => ?_)
        subst hw
        have hP : va_P G vwCl [(q_t, .inr (7, [.ref q_t_plan, z_t_before, z_t_draft, z_t_snapshot, z_t_hasSnapshot, z_t_history, .ref q_t_sieve, z_t_source, z_t_reader, z_t_script, z_t_sheet, z_t_accounts, z_t_positionOfError])), (q_t_plan, .inr (1, [.int t_plan.1, .int t_plan.2.1, z_t_plan_rooms, .int t_plan.2.2.2.1, .int t_plan.2.2.2.2.1, .ref q_t_plan_ds, .int t_plan.2.2.2.2.2.2])), (q_t_plan_ds, .inl (ca 0, 30, .inl t_plan.2.2.2.2.2.1)), (q_t_sieve, .inr (5, [.ref q_t_sieve_owners, .ref q_t_sieve_counts, .int t_sieve.2.2.1, .int t_sieve.2.2.2.1, .int t_sieve.2.2.2.2.1, .int t_sieve.2.2.2.2.2])), (q_t_sieve_counts, .inl (ca 0, 4802, .inl t_sieve.2.1)), (q_t_sieve_owners, .inl (ca 0, 4802, .inl t_sieve.1))] H := hP
        have hD : va_D A [(q_t, .inr (7, [.ref q_t_plan, z_t_before, z_t_draft, z_t_snapshot, z_t_hasSnapshot, z_t_history, .ref q_t_sieve, z_t_source, z_t_reader, z_t_script, z_t_sheet, z_t_accounts, z_t_positionOfError])), (q_t_plan, .inr (1, [.int t_plan.1, .int t_plan.2.1, z_t_plan_rooms, .int t_plan.2.2.2.1, .int t_plan.2.2.2.2.1, .ref q_t_plan_ds, .int t_plan.2.2.2.2.2.2])), (q_t_plan_ds, .inl (ca 0, 30, .inl t_plan.2.2.2.2.2.1)), (q_t_sieve, .inr (5, [.ref q_t_sieve_owners, .ref q_t_sieve_counts, .int t_sieve.2.2.1, .int t_sieve.2.2.2.1, .int t_sieve.2.2.2.2.1, .int t_sieve.2.2.2.2.2])), (q_t_sieve_counts, .inl (ca 0, 4802, .inl t_sieve.2.1)), (q_t_sieve_owners, .inl (ca 0, 4802, .inl t_sieve.1))] := hD
        obtain ⟨w_14, hg_15, h⟩ := bd_at h
        refine sw_ci (sw_runV (As := [.int w_12]) (rest := [.int x2]) Cx hP hD hS mv_X7_countStrikes ml_X10_185 (c_X7_countStrikes l G ca Z q_t_sieve q_t_sieve_owners (.ref q_t_sieve_counts) H.size w_12 t_sieve w_14 hg_15) 5 rfl rfl rfl [3, 5] rfl rfl rfl rfl ⟨(Nat.le_of_ble_eq_true rfl), (Nat.le_of_ble_eq_true rfl)⟩ hl.1 rfl rfl (Nat.le_of_ble_eq_true rfl) dX10_useful_30 ⟨(Nat.le_of_ble_eq_true rfl), (Nat.le_of_ble_eq_true rfl)⟩) hP hD hS hA [3, 5] [0, 1, 2, 4] [0, 1, 2, 4, 3, 5] rfl rfl rfl (by decide) (fun _ => rfl) rfl (fun r u H locs hw hP hD hS => ?_)
        subst hw
        have hP : va_P G vwCl [(q_t, .inr (7, [.ref q_t_plan, z_t_before, z_t_draft, z_t_snapshot, z_t_hasSnapshot, z_t_history, .ref q_t_sieve, z_t_source, z_t_reader, z_t_script, z_t_sheet, z_t_accounts, z_t_positionOfError])), (q_t_plan, .inr (1, [.int t_plan.1, .int t_plan.2.1, z_t_plan_rooms, .int t_plan.2.2.2.1, .int t_plan.2.2.2.2.1, .ref q_t_plan_ds, .int t_plan.2.2.2.2.2.2])), (q_t_plan_ds, .inl (ca 0, 30, .inl t_plan.2.2.2.2.2.1)), (q_t_sieve, .inr (5, [.ref q_t_sieve_owners, .ref q_t_sieve_counts, .int t_sieve.2.2.1, .int t_sieve.2.2.2.1, .int t_sieve.2.2.2.2.1, .int t_sieve.2.2.2.2.2])), (q_t_sieve_counts, .inl (ca 0, 4802, .inl t_sieve.2.1)), (q_t_sieve_owners, .inl (ca 0, 4802, .inl t_sieve.1))] H := hP
        have hD : va_D A [(q_t, .inr (7, [.ref q_t_plan, z_t_before, z_t_draft, z_t_snapshot, z_t_hasSnapshot, z_t_history, .ref q_t_sieve, z_t_source, z_t_reader, z_t_script, z_t_sheet, z_t_accounts, z_t_positionOfError])), (q_t_plan, .inr (1, [.int t_plan.1, .int t_plan.2.1, z_t_plan_rooms, .int t_plan.2.2.2.1, .int t_plan.2.2.2.2.1, .ref q_t_plan_ds, .int t_plan.2.2.2.2.2.2])), (q_t_plan_ds, .inl (ca 0, 30, .inl t_plan.2.2.2.2.2.1)), (q_t_sieve, .inr (5, [.ref q_t_sieve_owners, .ref q_t_sieve_counts, .int t_sieve.2.2.1, .int t_sieve.2.2.2.1, .int t_sieve.2.2.2.2.1, .int t_sieve.2.2.2.2.2])), (q_t_sieve_counts, .inl (ca 0, 4802, .inl t_sieve.2.1)), (q_t_sieve_owners, .inl (ca 0, 4802, .inl t_sieve.1))] := hD
        refine lv_iadd hx hb dX10_useful_33 ?_
        refine lv_topi (fun x2_16 e_x2_16 => ?_)
        have h := nm_at e_x2_16 h
        refine lv_istore_n (lv' := [(2, .int x2_16), (0, .ref q_t), (1, .ref q_t_sieve), (3, .int x3)]) hx hb dX10_useful_34 rfl hl (by decide) rfl (fun ls hl => ?_)
        obtain ⟨x3_17, e_x3_17⟩ : ∃ y : Int32, y = x3 + 1 := ⟨_, rfl⟩
        refine lv_iinc (v := x3_17) (lv' := [(3, .int x3_17), (2, .int x2_16), (0, .ref q_t), (1, .ref q_t_sieve)]) hx hb dX10_useful_35 hl (k := 3) rfl (by rw [e_x3_17]; rfl) (by decide) rfl (fun ls hl => ?_)
        have h := nm_at e_x3_17 h
        refine lv_goto (tgt := 9) hx hb dX10_useful_38 (by decide) ?_
        exact ih_9 x2_16 x3_17 t_sieve ls H _ (lv_sub hl [2, 3, 1, 0] rfl) hP hD hS h
  refine lv_aload_n hx hb dX10_useful_0 rfl (lv_at hl 0 rfl) ?_
  obtain ⟨w_1, hg_2, h⟩ := bd_at h
  refine sw_cr (sw_runV (As := []) (rest := []) Cx hP hD hS mv_X10_current ml_X10_128 (c_X10_current l G ca Z q_t q_t_plan q_t_plan_ds q_t_sieve q_t_sieve_counts q_t_sieve_owners (z_t_before) (z_t_draft) (z_t_snapshot) (z_t_hasSnapshot) (z_t_history) (z_t_source) (z_t_reader) (z_t_script) (z_t_sheet) (z_t_accounts) (z_t_positionOfError) (z_t_plan_rooms) s.heap.size t_plan t_sieve w_1 hg_2) 7 rfl rfl rfl [0, 1, 2, 3, 4, 5] rfl rfl rfl rfl ⟨(Nat.le_of_ble_eq_true rfl), (Nat.le_of_ble_eq_true rfl)⟩ hl.1 rfl rfl (Nat.le_of_ble_eq_true rfl) dX10_useful_1 ⟨(Nat.le_of_ble_eq_true rfl), (Nat.le_of_ble_eq_true rfl)⟩) hP hD hS hA [0, 1, 2, 3, 4, 5] [] [0, 1, 2, 3, 4, 5] rfl rfl rfl (by decide) (fun _ => rfl) rfl (fun u H locs hw hP hD hS => ?_)
  subst hw
  have hP : va_P G vwCl [(q_t, .inr (7, [.ref q_t_plan, z_t_before, z_t_draft, z_t_snapshot, z_t_hasSnapshot, z_t_history, .ref q_t_sieve, z_t_source, z_t_reader, z_t_script, z_t_sheet, z_t_accounts, z_t_positionOfError])), (q_t_plan, .inr (1, [.int t_plan.1, .int t_plan.2.1, z_t_plan_rooms, .int t_plan.2.2.2.1, .int t_plan.2.2.2.2.1, .ref q_t_plan_ds, .int t_plan.2.2.2.2.2.2])), (q_t_plan_ds, .inl (ca 0, 30, .inl t_plan.2.2.2.2.2.1)), (q_t_sieve, .inr (5, [.ref q_t_sieve_owners, .ref q_t_sieve_counts, .int w_1.2.2.1, .int w_1.2.2.2.1, .int w_1.2.2.2.2.1, .int w_1.2.2.2.2.2])), (q_t_sieve_counts, .inl (ca 0, 4802, .inl w_1.2.1)), (q_t_sieve_owners, .inl (ca 0, 4802, .inl w_1.1))] H := hP
  have hD : va_D A [(q_t, .inr (7, [.ref q_t_plan, z_t_before, z_t_draft, z_t_snapshot, z_t_hasSnapshot, z_t_history, .ref q_t_sieve, z_t_source, z_t_reader, z_t_script, z_t_sheet, z_t_accounts, z_t_positionOfError])), (q_t_plan, .inr (1, [.int t_plan.1, .int t_plan.2.1, z_t_plan_rooms, .int t_plan.2.2.2.1, .int t_plan.2.2.2.2.1, .ref q_t_plan_ds, .int t_plan.2.2.2.2.2.2])), (q_t_plan_ds, .inl (ca 0, 30, .inl t_plan.2.2.2.2.2.1)), (q_t_sieve, .inr (5, [.ref q_t_sieve_owners, .ref q_t_sieve_counts, .int w_1.2.2.1, .int w_1.2.2.2.1, .int w_1.2.2.2.2.1, .int w_1.2.2.2.2.2])), (q_t_sieve_counts, .inl (ca 0, 4802, .inl w_1.2.1)), (q_t_sieve_owners, .inl (ca 0, 4802, .inl w_1.1))] := hD
  refine lv_astore_n (lv' := [(1, .ref q_t_sieve), (0, .ref q_t)]) hx hb dX10_useful_4 rfl hl (by decide) rfl (fun ls hl => ?_)
  refine lv_iconst (v := 0) hx hb dX10_useful_5 (by decide) ?_
  refine lv_istore_n (lv' := [(2, .int 0), (1, .ref q_t_sieve), (0, .ref q_t)]) hx hb dX10_useful_6 rfl hl (by decide) rfl (fun ls hl => ?_)
  refine lv_iconst (v := 0) hx hb dX10_useful_7 (by decide) ?_
  refine lv_istore_n (lv' := [(3, .int 0), (2, .int 0), (1, .ref q_t_sieve), (0, .ref q_t)]) hx hb dX10_useful_8 rfl hl (by decide) rfl (fun ls hl => ?_)
  exact hL_9 FUEL 0 0 w_1 ls H _ (lv_sub hl [3, 2, 1, 0] rfl) hP hD hS h
theorem mv_X10_spokeShare : sw_MV yX10_spokeShare RX10 cX10_spokeShare 2 (Option.some Jvm.ClassFile.FieldType.float) 0 := ⟨im_X10_spokeShare, se_X10_spokeShare, ini_X10, co_X10_spokeShare, by decide +kernel⟩
def F_X10_spokeShare (t_plan : PlanT) (t_sieve : SieveT) : Option (UInt32 × (SieveT)) :=
 (F_X3_lastNumber t_plan).bind (fun w_1 => nm ((w_1 - 1)) (fun x1_3 => (if x1_3 = 0 then some (FP.fconst0, t_sieve) else (F_X10_current t_plan t_sieve).bind (fun w_5 => (F_X7_spokeCount w_5).bind (fun w_7 => n32 (FP.fdiv (FP.i2f w_7) (FP.i2f x1_3)) (some ((FP.fdiv (FP.i2f w_7) (FP.i2f x1_3)), w_5)))))))
abbrev RM_X10_spokeShare : Room := ({ frames := 3, cells := 0, slots := 0, locals := 67 } : Room)
set_option maxHeartbeats 4000000 in
set_option maxRecDepth 100000 in
theorem c_X10_spokeShare (l : Launch) (G : va_G) (ca Z : Nat → Nat) (q_t : Nat) (q_t_plan : Nat) (q_t_plan_ds : Nat) (q_t_sieve : Nat) (q_t_sieve_counts : Nat) (q_t_sieve_owners : Nat) (z_t_before : Value) (z_t_draft : Value) (z_t_snapshot : Value) (z_t_hasSnapshot : Value) (z_t_history : Value) (z_t_source : Value) (z_t_reader : Value) (z_t_script : Value) (z_t_sheet : Value) (z_t_accounts : Value) (z_t_positionOfError : Value) (z_t_plan_rooms : Value) (sz : Nat) (t_plan : PlanT) (t_sieve : SieveT) (res : UInt32 × (SieveT)) (hF : F_X10_spokeShare t_plan t_sieve = some res) : Met l yX10_spokeShare (.code yX10_spokeShare cX10_spokeShare 2 (Option.some Jvm.ClassFile.FieldType.float) :: sw_U) RM_X10_spokeShare (va_Pc [.ref q_t] (sw_Pre G ca Z [(q_t, .inr (7, [.ref q_t_plan, z_t_before, z_t_draft, z_t_snapshot, z_t_hasSnapshot, z_t_history, .ref q_t_sieve, z_t_source, z_t_reader, z_t_script, z_t_sheet, z_t_accounts, z_t_positionOfError])), (q_t_plan, .inr (1, [.int t_plan.1, .int t_plan.2.1, z_t_plan_rooms, .int t_plan.2.2.2.1, .int t_plan.2.2.2.2.1, .ref q_t_plan_ds, .int t_plan.2.2.2.2.2.2])), (q_t_plan_ds, .inl (ca 0, 30, .inl t_plan.2.2.2.2.2.1)), (q_t_sieve, .inr (5, [.ref q_t_sieve_owners, .ref q_t_sieve_counts, .int t_sieve.2.2.1, .int t_sieve.2.2.2.1, .int t_sieve.2.2.2.2.1, .int t_sieve.2.2.2.2.2])), (q_t_sieve_counts, .inl (ca 0, 4802, .inl t_sieve.2.1)), (q_t_sieve_owners, .inl (ca 0, 4802, .inl t_sieve.1))] sz)) ((fun A => va_Qf (fun r (u : SieveT) => res.1 = r ∧ res.2 = u) (sw_Post G A (fun (u : SieveT) => [(q_t, .inr (7, [.ref q_t_plan, z_t_before, z_t_draft, z_t_snapshot, z_t_hasSnapshot, z_t_history, .ref q_t_sieve, z_t_source, z_t_reader, z_t_script, z_t_sheet, z_t_accounts, z_t_positionOfError])), (q_t_plan, .inr (1, [.int t_plan.1, .int t_plan.2.1, z_t_plan_rooms, .int t_plan.2.2.2.1, .int t_plan.2.2.2.2.1, .ref q_t_plan_ds, .int t_plan.2.2.2.2.2.2])), (q_t_plan_ds, .inl (ca 0, 30, .inl t_plan.2.2.2.2.2.1)), (q_t_sieve, .inr (5, [.ref q_t_sieve_owners, .ref q_t_sieve_counts, .int u.2.2.1, .int u.2.2.2.1, .int u.2.2.2.2.1, .int u.2.2.2.2.2])), (q_t_sieve_counts, .inl (ca 0, 4802, .inl u.2.1)), (q_t_sieve_owners, .inl (ca 0, 4802, .inl u.1))])) A) (va_A [(q_t, .inr (7, [.ref q_t_plan, z_t_before, z_t_draft, z_t_snapshot, z_t_hasSnapshot, z_t_history, .ref q_t_sieve, z_t_source, z_t_reader, z_t_script, z_t_sheet, z_t_accounts, z_t_positionOfError])), (q_t_plan, .inr (1, [.int t_plan.1, .int t_plan.2.1, z_t_plan_rooms, .int t_plan.2.2.2.1, .int t_plan.2.2.2.2.1, .ref q_t_plan_ds, .int t_plan.2.2.2.2.2.2])), (q_t_plan_ds, .inl (ca 0, 30, .inl t_plan.2.2.2.2.2.1)), (q_t_sieve, .inr (5, [.ref q_t_sieve_owners, .ref q_t_sieve_counts, .int t_sieve.2.2.1, .int t_sieve.2.2.2.1, .int t_sieve.2.2.2.2.1, .int t_sieve.2.2.2.2.2])), (q_t_sieve_counts, .inl (ca 0, 4802, .inl t_sieve.2.1)), (q_t_sieve_owners, .inl (ca 0, 4802, .inl t_sieve.1))] sz)) 0 0 (va_A [(q_t, .inr (7, [.ref q_t_plan, z_t_before, z_t_draft, z_t_snapshot, z_t_hasSnapshot, z_t_history, .ref q_t_sieve, z_t_source, z_t_reader, z_t_script, z_t_sheet, z_t_accounts, z_t_positionOfError])), (q_t_plan, .inr (1, [.int t_plan.1, .int t_plan.2.1, z_t_plan_rooms, .int t_plan.2.2.2.1, .int t_plan.2.2.2.2.1, .ref q_t_plan_ds, .int t_plan.2.2.2.2.2.2])), (q_t_plan_ds, .inl (ca 0, 30, .inl t_plan.2.2.2.2.2.1)), (q_t_sieve, .inr (5, [.ref q_t_sieve_owners, .ref q_t_sieve_counts, .int t_sieve.2.2.1, .int t_sieve.2.2.2.1, .int t_sieve.2.2.2.2.1, .int t_sieve.2.2.2.2.2])), (q_t_sieve_counts, .inl (ca 0, 4802, .inl t_sieve.2.1)), (q_t_sieve_owners, .inl (ca 0, 4802, .inl t_sieve.1))] sz) := by
  refine sw_ofW (Qc := fun A => va_Qf (fun r (u : SieveT) => res.1 = r ∧ res.2 = u) (sw_Post G A (fun (u : SieveT) => [(q_t, .inr (7, [.ref q_t_plan, z_t_before, z_t_draft, z_t_snapshot, z_t_hasSnapshot, z_t_history, .ref q_t_sieve, z_t_source, z_t_reader, z_t_script, z_t_sheet, z_t_accounts, z_t_positionOfError])), (q_t_plan, .inr (1, [.int t_plan.1, .int t_plan.2.1, z_t_plan_rooms, .int t_plan.2.2.2.1, .int t_plan.2.2.2.2.1, .ref q_t_plan_ds, .int t_plan.2.2.2.2.2.2])), (q_t_plan_ds, .inl (ca 0, 30, .inl t_plan.2.2.2.2.2.1)), (q_t_sieve, .inr (5, [.ref q_t_sieve_owners, .ref q_t_sieve_counts, .int u.2.2.1, .int u.2.2.2.1, .int u.2.2.2.2.1, .int u.2.2.2.2.2])), (q_t_sieve_counts, .inl (ca 0, 4802, .inl u.2.1)), (q_t_sieve_owners, .inl (ca 0, 4802, .inl u.1))])) A) (by decide) [(0, .ref q_t)] rfl (Nat.le_of_ble_eq_true rfl) ?_
  intro p e s m args below meth c ls A hx hb hr hml hown htU hlocks hnm hP hK hD hX hY hS hA hl
  have hown : s.vm.findClass RX10 = some m.cls := hown
  have Cx : sw_Cx p s m args c cX10_spokeShare 2 RX10 G ca Z A := ⟨⟨hx, hb, hml, hown, htU⟩, hK, hX, hY, hA⟩
  have h := hF
  unfold F_X10_spokeShare at h
  refine lv_aload_n hx hb dX10_spokeShare_0 rfl (lv_at hl 0 rfl) ?_
  refine va_get (v := .ref q_t_plan) hx hb htU iU_X10 hown hK hP 0 rfl rfl 0 (by decide) (htU _ fl_X10_12) (fun _ h9 => h9) rfl dX10_spokeShare_1 ?_
  obtain ⟨w_1, hg_2, h⟩ := bd_at h
  refine sw_ci (sw_runV (As := []) (rest := []) Cx hP hD hS mv_X3_lastNumber ml_X10_116 (c_X3_lastNumber l G ca Z q_t_plan (z_t_plan_rooms) (.ref q_t_plan_ds) s.heap.size t_plan w_1 hg_2) 1 rfl rfl rfl [1] rfl rfl rfl rfl ⟨(Nat.le_of_ble_eq_true rfl), (Nat.le_of_ble_eq_true rfl)⟩ hl.1 rfl rfl (Nat.le_of_ble_eq_true rfl) dX10_spokeShare_4 ⟨(Nat.le_of_ble_eq_true rfl), (Nat.le_of_ble_eq_true rfl)⟩) hP hD hS hA [1] [0, 2, 3, 4, 5] [0, 5, 1, 2, 3, 4] rfl rfl rfl (by decide) (fun _ => rfl) rfl (fun r u H locs hw hP hD hS => ?_)
  subst hw
  have hP : va_P G vwCl [(q_t, .inr (7, [.ref q_t_plan, z_t_before, z_t_draft, z_t_snapshot, z_t_hasSnapshot, z_t_history, .ref q_t_sieve, z_t_source, z_t_reader, z_t_script, z_t_sheet, z_t_accounts, z_t_positionOfError])), (q_t_plan, .inr (1, [.int t_plan.1, .int t_plan.2.1, z_t_plan_rooms, .int t_plan.2.2.2.1, .int t_plan.2.2.2.2.1, .ref q_t_plan_ds, .int t_plan.2.2.2.2.2.2])), (q_t_plan_ds, .inl (ca 0, 30, .inl t_plan.2.2.2.2.2.1)), (q_t_sieve, .inr (5, [.ref q_t_sieve_owners, .ref q_t_sieve_counts, .int t_sieve.2.2.1, .int t_sieve.2.2.2.1, .int t_sieve.2.2.2.2.1, .int t_sieve.2.2.2.2.2])), (q_t_sieve_counts, .inl (ca 0, 4802, .inl t_sieve.2.1)), (q_t_sieve_owners, .inl (ca 0, 4802, .inl t_sieve.1))] H := hP
  have hD : va_D A [(q_t, .inr (7, [.ref q_t_plan, z_t_before, z_t_draft, z_t_snapshot, z_t_hasSnapshot, z_t_history, .ref q_t_sieve, z_t_source, z_t_reader, z_t_script, z_t_sheet, z_t_accounts, z_t_positionOfError])), (q_t_plan, .inr (1, [.int t_plan.1, .int t_plan.2.1, z_t_plan_rooms, .int t_plan.2.2.2.1, .int t_plan.2.2.2.2.1, .ref q_t_plan_ds, .int t_plan.2.2.2.2.2.2])), (q_t_plan_ds, .inl (ca 0, 30, .inl t_plan.2.2.2.2.2.1)), (q_t_sieve, .inr (5, [.ref q_t_sieve_owners, .ref q_t_sieve_counts, .int t_sieve.2.2.1, .int t_sieve.2.2.2.1, .int t_sieve.2.2.2.2.1, .int t_sieve.2.2.2.2.2])), (q_t_sieve_counts, .inl (ca 0, 4802, .inl t_sieve.2.1)), (q_t_sieve_owners, .inl (ca 0, 4802, .inl t_sieve.1))] := hD
  refine lv_iconst (v := 1) hx hb dX10_spokeShare_7 (by decide) ?_
  refine lv_isub hx hb dX10_spokeShare_8 ?_
  refine lv_topi (fun x1_3 e_x1_3 => ?_)
  have h := nm_at e_x1_3 h
  refine lv_istore_n (lv' := [(1, .int x1_3), (0, .ref q_t)]) hx hb dX10_spokeShare_9 rfl hl (by decide) rfl (fun ls hl => ?_)
  refine lv_iload_n hx hb dX10_spokeShare_10 rfl (lv_at hl 0 rfl) ?_
  refine lv_if_ne (tgt := 18) hx hb dX10_spokeShare_11 (by decide) (fun c_4 => ?_) (fun c_4 => ?_)
  · have h := if_f c_4 h
    refine lv_aload_n hx hb dX10_spokeShare_18 rfl (lv_at hl 1 rfl) ?_
    obtain ⟨w_5, hg_6, h⟩ := bd_at h
    refine sw_cr (sw_runV (As := []) (rest := []) Cx hP hD hS mv_X10_current ml_X10_128 (c_X10_current l G ca Z q_t q_t_plan q_t_plan_ds q_t_sieve q_t_sieve_counts q_t_sieve_owners (z_t_before) (z_t_draft) (z_t_snapshot) (z_t_hasSnapshot) (z_t_history) (z_t_source) (z_t_reader) (z_t_script) (z_t_sheet) (z_t_accounts) (z_t_positionOfError) (z_t_plan_rooms) H.size t_plan t_sieve w_5 hg_6) 7 rfl rfl rfl [0, 1, 2, 3, 4, 5] rfl rfl rfl rfl ⟨(Nat.le_of_ble_eq_true rfl), (Nat.le_of_ble_eq_true rfl)⟩ hl.1 rfl rfl (Nat.le_of_ble_eq_true rfl) dX10_spokeShare_19 ⟨(Nat.le_of_ble_eq_true rfl), (Nat.le_of_ble_eq_true rfl)⟩) hP hD hS hA [0, 1, 2, 3, 4, 5] [] [0, 1, 2, 3, 4, 5] rfl rfl rfl (by decide) (fun _ => rfl) rfl (fun u H locs hw hP hD hS => ?_)
    subst hw
    have hP : va_P G vwCl [(q_t, .inr (7, [.ref q_t_plan, z_t_before, z_t_draft, z_t_snapshot, z_t_hasSnapshot, z_t_history, .ref q_t_sieve, z_t_source, z_t_reader, z_t_script, z_t_sheet, z_t_accounts, z_t_positionOfError])), (q_t_plan, .inr (1, [.int t_plan.1, .int t_plan.2.1, z_t_plan_rooms, .int t_plan.2.2.2.1, .int t_plan.2.2.2.2.1, .ref q_t_plan_ds, .int t_plan.2.2.2.2.2.2])), (q_t_plan_ds, .inl (ca 0, 30, .inl t_plan.2.2.2.2.2.1)), (q_t_sieve, .inr (5, [.ref q_t_sieve_owners, .ref q_t_sieve_counts, .int w_5.2.2.1, .int w_5.2.2.2.1, .int w_5.2.2.2.2.1, .int w_5.2.2.2.2.2])), (q_t_sieve_counts, .inl (ca 0, 4802, .inl w_5.2.1)), (q_t_sieve_owners, .inl (ca 0, 4802, .inl w_5.1))] H := hP
    have hD : va_D A [(q_t, .inr (7, [.ref q_t_plan, z_t_before, z_t_draft, z_t_snapshot, z_t_hasSnapshot, z_t_history, .ref q_t_sieve, z_t_source, z_t_reader, z_t_script, z_t_sheet, z_t_accounts, z_t_positionOfError])), (q_t_plan, .inr (1, [.int t_plan.1, .int t_plan.2.1, z_t_plan_rooms, .int t_plan.2.2.2.1, .int t_plan.2.2.2.2.1, .ref q_t_plan_ds, .int t_plan.2.2.2.2.2.2])), (q_t_plan_ds, .inl (ca 0, 30, .inl t_plan.2.2.2.2.2.1)), (q_t_sieve, .inr (5, [.ref q_t_sieve_owners, .ref q_t_sieve_counts, .int w_5.2.2.1, .int w_5.2.2.2.1, .int w_5.2.2.2.2.1, .int w_5.2.2.2.2.2])), (q_t_sieve_counts, .inl (ca 0, 4802, .inl w_5.2.1)), (q_t_sieve_owners, .inl (ca 0, 4802, .inl w_5.1))] := hD
    obtain ⟨w_7, hg_8, h⟩ := bd_at h
    refine sw_ci (sw_runV (As := []) (rest := []) Cx hP hD hS mv_X7_spokeCount ml_X10_135 (c_X7_spokeCount l G ca Z q_t_sieve (.ref q_t_sieve_owners) (.ref q_t_sieve_counts) H.size w_5 w_7 hg_8) 5 rfl rfl rfl [3] rfl rfl rfl rfl ⟨(Nat.le_of_ble_eq_true rfl), (Nat.le_of_ble_eq_true rfl)⟩ hl.1 rfl rfl (Nat.le_of_ble_eq_true rfl) dX10_spokeShare_22 ⟨(Nat.le_of_ble_eq_true rfl), (Nat.le_of_ble_eq_true rfl)⟩) hP hD hS hA [3] [0, 1, 2, 4, 5] [0, 1, 2, 5, 3, 4] rfl rfl rfl (by decide) (fun _ => rfl) rfl (fun r u H locs hw hP hD hS => ?_)
    subst hw
    have hP : va_P G vwCl [(q_t, .inr (7, [.ref q_t_plan, z_t_before, z_t_draft, z_t_snapshot, z_t_hasSnapshot, z_t_history, .ref q_t_sieve, z_t_source, z_t_reader, z_t_script, z_t_sheet, z_t_accounts, z_t_positionOfError])), (q_t_plan, .inr (1, [.int t_plan.1, .int t_plan.2.1, z_t_plan_rooms, .int t_plan.2.2.2.1, .int t_plan.2.2.2.2.1, .ref q_t_plan_ds, .int t_plan.2.2.2.2.2.2])), (q_t_plan_ds, .inl (ca 0, 30, .inl t_plan.2.2.2.2.2.1)), (q_t_sieve, .inr (5, [.ref q_t_sieve_owners, .ref q_t_sieve_counts, .int w_5.2.2.1, .int w_5.2.2.2.1, .int w_5.2.2.2.2.1, .int w_5.2.2.2.2.2])), (q_t_sieve_counts, .inl (ca 0, 4802, .inl w_5.2.1)), (q_t_sieve_owners, .inl (ca 0, 4802, .inl w_5.1))] H := hP
    have hD : va_D A [(q_t, .inr (7, [.ref q_t_plan, z_t_before, z_t_draft, z_t_snapshot, z_t_hasSnapshot, z_t_history, .ref q_t_sieve, z_t_source, z_t_reader, z_t_script, z_t_sheet, z_t_accounts, z_t_positionOfError])), (q_t_plan, .inr (1, [.int t_plan.1, .int t_plan.2.1, z_t_plan_rooms, .int t_plan.2.2.2.1, .int t_plan.2.2.2.2.1, .ref q_t_plan_ds, .int t_plan.2.2.2.2.2.2])), (q_t_plan_ds, .inl (ca 0, 30, .inl t_plan.2.2.2.2.2.1)), (q_t_sieve, .inr (5, [.ref q_t_sieve_owners, .ref q_t_sieve_counts, .int w_5.2.2.1, .int w_5.2.2.2.1, .int w_5.2.2.2.2.1, .int w_5.2.2.2.2.2])), (q_t_sieve_counts, .inl (ca 0, 4802, .inl w_5.2.1)), (q_t_sieve_owners, .inl (ca 0, 4802, .inl w_5.1))] := hD
    refine lv_i2f hx hb dX10_spokeShare_25 ?_
    refine lv_iload_n hx hb dX10_spokeShare_26 rfl (lv_at hl 0 rfl) ?_
    refine lv_i2f hx hb dX10_spokeShare_27 ?_
    obtain ⟨hn_9, h⟩ := n32_at h
    refine lv_fdiv hx hb dX10_spokeShare_28 hn_9 ?_
    exact sw_rf hx hb hr hlocks hS w_5 (pr2 h) hP hD dX10_spokeShare_29
  · have h := if_t c_4 h
    refine lv_fconst0 hx hb dX10_spokeShare_14 ?_
    refine lv_goto (tgt := 29) hx hb dX10_spokeShare_15 (by decide) ?_
    exact sw_rf hx hb hr hlocks hS t_sieve (pr2 h) hP hD dX10_spokeShare_29
theorem mv_X11_shareBits : sw_MV yX11_shareBits RX11 cX11_shareBits 3 (Option.some Jvm.ClassFile.FieldType.int) 0 := ⟨im_X11_shareBits, se_X11_shareBits, ini_X11, co_X11_shareBits, by decide +kernel⟩
def F_X11_shareBits (t_end : Int32) (t_owner : (Nat → Int32)) (t_row : (Nat → Int32)) (t_thrown : Int32) (t_times : (Nat → Int32)) : Option (Int32 × (Int32 × (Nat → Int32) × Int32 × (Nat → Int32))) :=
 (F_X11_strike t_end t_owner t_row t_times).bind (fun w_1 => nm ((w_1.1 - 1)) (fun x1_3 => (if x1_3 = 0 then (F_Jxf58ca_floatToIntBits_5c35a FP.fconst0).bind (fun w_11 => some (w_11, (w_1.1, w_1.2.1, 0, w_1.2.2))) else (F_X11_marksIn 2 w_1.1 w_1.1 t_row w_1.2.2).bind (fun w_5 => n32 (FP.fdiv (FP.i2f w_5) (FP.i2f x1_3)) (nm ((FP.fdiv (FP.i2f w_5) (FP.i2f x1_3))) (fun x2_8 => (F_Jxf58ca_floatToIntBits_5c35a x2_8).bind (fun w_9 => some (w_9, (w_1.1, w_1.2.1, 0, w_1.2.2)))))))))
abbrev RM_X11_shareBits : Room := ({ frames := 4, cells := 0, slots := 0, locals := 88 } : Room)
set_option maxHeartbeats 4000000 in
set_option maxRecDepth 100000 in
theorem c_X11_shareBits (l : Launch) (G : va_G) (ca Z : Nat → Nat) (q_t : Nat) (q_t_owner : Nat) (q_t_row : Nat) (q_t_times : Nat) (q_t_wheelPrimes : Nat) (z_t_now : Value) (z_t_draft : Value) (z_t_kept : Value) (z_t_snapshot : Value) (z_t_history : Value) (z_t_accounts : Value) (z_t_undoCount : Value) (z_t_hasSnapshot : Value) (z_t_ownerD : Value) (z_t_formatted : Value) (z_t_formattedLength : Value) (z_t_buffer : Value) (z_t_bufferLength : Value) (z_t_limit : Value) (z_t_nextByte : Value) (z_t_beginsAt : Value) (z_t_token : Value) (z_t_error : Value) (z_t_errorAt : Value) (z_t_errorPosition : Value) (z_t_nested : Value) (z_t_orders : Value) (z_t_orderWords : Value) (z_t_orderCount : Value) (sz : Nat) (t_end : Int32) (t_owner : (Nat → Int32)) (t_row : (Nat → Int32)) (t_thrown : Int32) (t_times : (Nat → Int32)) (res : Int32 × (Int32 × (Nat → Int32) × Int32 × (Nat → Int32))) (hF : F_X11_shareBits t_end t_owner t_row t_thrown t_times = some res) : Met l yX11_shareBits (.code yX11_shareBits cX11_shareBits 3 (Option.some Jvm.ClassFile.FieldType.int) :: sw_U) RM_X11_shareBits (va_Pc [.ref q_t] (sw_Pre G ca Z [(q_t, .inr (8, [z_t_now, z_t_draft, z_t_kept, z_t_snapshot, z_t_history, z_t_accounts, .ref q_t_wheelPrimes, .ref q_t_row, z_t_undoCount, .int t_thrown, z_t_hasSnapshot, .ref q_t_owner, .ref q_t_times, .int t_end, z_t_ownerD, z_t_formatted, z_t_formattedLength, z_t_buffer, z_t_bufferLength, z_t_limit, z_t_nextByte, z_t_beginsAt, z_t_token, z_t_error, z_t_errorAt, z_t_errorPosition, z_t_nested, z_t_orders, z_t_orderWords, z_t_orderCount])), (q_t_owner, .inl (ca 0, 5300, .inl t_owner)), (q_t_row, .inl (ca 0, 45, .inl t_row)), (q_t_times, .inl (ca 0, 5300, .inl t_times)), (q_t_wheelPrimes, .inl (ca 0, 4, .inl sw_p4))] sz)) ((fun A => va_Qi (fun r (u : Int32 × (Nat → Int32) × Int32 × (Nat → Int32)) => res.1 = r ∧ res.2 = u) (sw_Post G A (fun (u : Int32 × (Nat → Int32) × Int32 × (Nat → Int32)) => [(q_t, .inr (8, [z_t_now, z_t_draft, z_t_kept, z_t_snapshot, z_t_history, z_t_accounts, .ref q_t_wheelPrimes, .ref q_t_row, z_t_undoCount, .int u.2.2.1, z_t_hasSnapshot, .ref q_t_owner, .ref q_t_times, .int u.1, z_t_ownerD, z_t_formatted, z_t_formattedLength, z_t_buffer, z_t_bufferLength, z_t_limit, z_t_nextByte, z_t_beginsAt, z_t_token, z_t_error, z_t_errorAt, z_t_errorPosition, z_t_nested, z_t_orders, z_t_orderWords, z_t_orderCount])), (q_t_owner, .inl (ca 0, 5300, .inl u.2.1)), (q_t_row, .inl (ca 0, 45, .inl t_row)), (q_t_times, .inl (ca 0, 5300, .inl u.2.2.2)), (q_t_wheelPrimes, .inl (ca 0, 4, .inl sw_p4))])) A) (va_A [(q_t, .inr (8, [z_t_now, z_t_draft, z_t_kept, z_t_snapshot, z_t_history, z_t_accounts, .ref q_t_wheelPrimes, .ref q_t_row, z_t_undoCount, .int t_thrown, z_t_hasSnapshot, .ref q_t_owner, .ref q_t_times, .int t_end, z_t_ownerD, z_t_formatted, z_t_formattedLength, z_t_buffer, z_t_bufferLength, z_t_limit, z_t_nextByte, z_t_beginsAt, z_t_token, z_t_error, z_t_errorAt, z_t_errorPosition, z_t_nested, z_t_orders, z_t_orderWords, z_t_orderCount])), (q_t_owner, .inl (ca 0, 5300, .inl t_owner)), (q_t_row, .inl (ca 0, 45, .inl t_row)), (q_t_times, .inl (ca 0, 5300, .inl t_times)), (q_t_wheelPrimes, .inl (ca 0, 4, .inl sw_p4))] sz)) 0 0 (va_A [(q_t, .inr (8, [z_t_now, z_t_draft, z_t_kept, z_t_snapshot, z_t_history, z_t_accounts, .ref q_t_wheelPrimes, .ref q_t_row, z_t_undoCount, .int t_thrown, z_t_hasSnapshot, .ref q_t_owner, .ref q_t_times, .int t_end, z_t_ownerD, z_t_formatted, z_t_formattedLength, z_t_buffer, z_t_bufferLength, z_t_limit, z_t_nextByte, z_t_beginsAt, z_t_token, z_t_error, z_t_errorAt, z_t_errorPosition, z_t_nested, z_t_orders, z_t_orderWords, z_t_orderCount])), (q_t_owner, .inl (ca 0, 5300, .inl t_owner)), (q_t_row, .inl (ca 0, 45, .inl t_row)), (q_t_times, .inl (ca 0, 5300, .inl t_times)), (q_t_wheelPrimes, .inl (ca 0, 4, .inl sw_p4))] sz) := by
  refine sw_ofW (Qc := fun A => va_Qi (fun r (u : Int32 × (Nat → Int32) × Int32 × (Nat → Int32)) => res.1 = r ∧ res.2 = u) (sw_Post G A (fun (u : Int32 × (Nat → Int32) × Int32 × (Nat → Int32)) => [(q_t, .inr (8, [z_t_now, z_t_draft, z_t_kept, z_t_snapshot, z_t_history, z_t_accounts, .ref q_t_wheelPrimes, .ref q_t_row, z_t_undoCount, .int u.2.2.1, z_t_hasSnapshot, .ref q_t_owner, .ref q_t_times, .int u.1, z_t_ownerD, z_t_formatted, z_t_formattedLength, z_t_buffer, z_t_bufferLength, z_t_limit, z_t_nextByte, z_t_beginsAt, z_t_token, z_t_error, z_t_errorAt, z_t_errorPosition, z_t_nested, z_t_orders, z_t_orderWords, z_t_orderCount])), (q_t_owner, .inl (ca 0, 5300, .inl u.2.1)), (q_t_row, .inl (ca 0, 45, .inl t_row)), (q_t_times, .inl (ca 0, 5300, .inl u.2.2.2)), (q_t_wheelPrimes, .inl (ca 0, 4, .inl sw_p4))])) A) (by decide) [(0, .ref q_t)] rfl (Nat.le_of_ble_eq_true rfl) ?_
  intro p e s m args below meth c ls A hx hb hr hml hown htU hlocks hnm hP hK hD hX hY hS hA hl
  have hown : s.vm.findClass RX11 = some m.cls := hown
  have Cx : sw_Cx p s m args c cX11_shareBits 3 RX11 G ca Z A := ⟨⟨hx, hb, hml, hown, htU⟩, hK, hX, hY, hA⟩
  have h := hF
  unfold F_X11_shareBits at h
  refine lv_aload_n hx hb dX11_shareBits_0 rfl (lv_at hl 0 rfl) ?_
  refine lv_iconst (v := 0) hx hb dX11_shareBits_1 (by decide) ?_
  refine va_put (v := .int 0) (ty := .int) hx hb htU iU_X11 tyX11 tyX11_ok nmX11 hown hK hP hD hS 0 rfl rfl 9 (by decide) (htU _ fl_X11_78) (fun _ h9 => h9) rfl (by decide +kernel) rfl rfl (Nat.le_of_ble_eq_true rfl) dX11_shareBits_2 (fun H locs hP hD hS => ?_)
  have hP : va_P G vwCl [(q_t, .inr (8, [z_t_now, z_t_draft, z_t_kept, z_t_snapshot, z_t_history, z_t_accounts, .ref q_t_wheelPrimes, .ref q_t_row, z_t_undoCount, .int 0, z_t_hasSnapshot, .ref q_t_owner, .ref q_t_times, .int t_end, z_t_ownerD, z_t_formatted, z_t_formattedLength, z_t_buffer, z_t_bufferLength, z_t_limit, z_t_nextByte, z_t_beginsAt, z_t_token, z_t_error, z_t_errorAt, z_t_errorPosition, z_t_nested, z_t_orders, z_t_orderWords, z_t_orderCount])), (q_t_owner, .inl (ca 0, 5300, .inl t_owner)), (q_t_row, .inl (ca 0, 45, .inl t_row)), (q_t_times, .inl (ca 0, 5300, .inl t_times)), (q_t_wheelPrimes, .inl (ca 0, 4, .inl sw_p4))] H := hP
  have hD : va_D A [(q_t, .inr (8, [z_t_now, z_t_draft, z_t_kept, z_t_snapshot, z_t_history, z_t_accounts, .ref q_t_wheelPrimes, .ref q_t_row, z_t_undoCount, .int 0, z_t_hasSnapshot, .ref q_t_owner, .ref q_t_times, .int t_end, z_t_ownerD, z_t_formatted, z_t_formattedLength, z_t_buffer, z_t_bufferLength, z_t_limit, z_t_nextByte, z_t_beginsAt, z_t_token, z_t_error, z_t_errorAt, z_t_errorPosition, z_t_nested, z_t_orders, z_t_orderWords, z_t_orderCount])), (q_t_owner, .inl (ca 0, 5300, .inl t_owner)), (q_t_row, .inl (ca 0, 45, .inl t_row)), (q_t_times, .inl (ca 0, 5300, .inl t_times)), (q_t_wheelPrimes, .inl (ca 0, 4, .inl sw_p4))] := hD
  refine lv_aload_n hx hb dX11_shareBits_5 rfl (lv_at hl 0 rfl) ?_
  obtain ⟨w_1, hg_2, h⟩ := bd_at h
  refine sw_cv (sw_runV (As := []) (rest := []) Cx hP hD hS mv_X11_strike ml_X11_129 (c_X11_strike l G ca Z q_t q_t_owner q_t_row q_t_times q_t_wheelPrimes (z_t_now) (z_t_draft) (z_t_kept) (z_t_snapshot) (z_t_history) (z_t_accounts) (z_t_undoCount) (.int 0) (z_t_hasSnapshot) (z_t_ownerD) (z_t_formatted) (z_t_formattedLength) (z_t_buffer) (z_t_bufferLength) (z_t_limit) (z_t_nextByte) (z_t_beginsAt) (z_t_token) (z_t_error) (z_t_errorAt) (z_t_errorPosition) (z_t_nested) (z_t_orders) (z_t_orderWords) (z_t_orderCount) H.size t_end t_owner t_row t_times w_1 hg_2) 8 rfl rfl rfl [0, 1, 2, 3, 4] rfl rfl rfl rfl ⟨(Nat.le_of_ble_eq_true rfl), (Nat.le_of_ble_eq_true rfl)⟩ hl.1 rfl rfl (Nat.le_of_ble_eq_true rfl) dX11_shareBits_6 ⟨(Nat.le_of_ble_eq_true rfl), (Nat.le_of_ble_eq_true rfl)⟩) hP hD hS hA [0, 1, 2, 3, 4] [] [0, 1, 2, 3, 4] rfl rfl rfl (by decide) (fun _ => rfl) rfl (fun u H locs hw hP hD hS => ?_)
  subst hw
  have hP : va_P G vwCl [(q_t, .inr (8, [z_t_now, z_t_draft, z_t_kept, z_t_snapshot, z_t_history, z_t_accounts, .ref q_t_wheelPrimes, .ref q_t_row, z_t_undoCount, .int 0, z_t_hasSnapshot, .ref q_t_owner, .ref q_t_times, .int w_1.1, z_t_ownerD, z_t_formatted, z_t_formattedLength, z_t_buffer, z_t_bufferLength, z_t_limit, z_t_nextByte, z_t_beginsAt, z_t_token, z_t_error, z_t_errorAt, z_t_errorPosition, z_t_nested, z_t_orders, z_t_orderWords, z_t_orderCount])), (q_t_owner, .inl (ca 0, 5300, .inl w_1.2.1)), (q_t_row, .inl (ca 0, 45, .inl t_row)), (q_t_times, .inl (ca 0, 5300, .inl w_1.2.2)), (q_t_wheelPrimes, .inl (ca 0, 4, .inl sw_p4))] H := hP
  have hD : va_D A [(q_t, .inr (8, [z_t_now, z_t_draft, z_t_kept, z_t_snapshot, z_t_history, z_t_accounts, .ref q_t_wheelPrimes, .ref q_t_row, z_t_undoCount, .int 0, z_t_hasSnapshot, .ref q_t_owner, .ref q_t_times, .int w_1.1, z_t_ownerD, z_t_formatted, z_t_formattedLength, z_t_buffer, z_t_bufferLength, z_t_limit, z_t_nextByte, z_t_beginsAt, z_t_token, z_t_error, z_t_errorAt, z_t_errorPosition, z_t_nested, z_t_orders, z_t_orderWords, z_t_orderCount])), (q_t_owner, .inl (ca 0, 5300, .inl w_1.2.1)), (q_t_row, .inl (ca 0, 45, .inl t_row)), (q_t_times, .inl (ca 0, 5300, .inl w_1.2.2)), (q_t_wheelPrimes, .inl (ca 0, 4, .inl sw_p4))] := hD
  refine lv_aload_n hx hb dX11_shareBits_9 rfl (lv_at hl 0 rfl) ?_
  refine va_get (v := .int w_1.1) hx hb htU iU_X11 hown hK hP 0 rfl rfl 13 (by decide) (htU _ fl_X11_100) (fun _ h9 => h9) rfl dX11_shareBits_10 ?_
  refine lv_iconst (v := 1) hx hb dX11_shareBits_13 (by decide) ?_
  refine lv_isub hx hb dX11_shareBits_14 ?_
  refine lv_topi (fun x1_3 e_x1_3 => ?_)
  have h := nm_at e_x1_3 h
  refine lv_istore_n (lv' := [(1, .int x1_3), (0, .ref q_t)]) hx hb dX11_shareBits_15 rfl hl (by decide) rfl (fun ls hl => ?_)
  refine lv_iload_n hx hb dX11_shareBits_16 rfl (lv_at hl 0 rfl) ?_
  refine lv_if_ne (tgt := 24) hx hb dX11_shareBits_17 (by decide) (fun c_4 => ?_) (fun c_4 => ?_)
  · have h := if_f c_4 h
    refine lv_aload_n hx hb dX11_shareBits_24 rfl (lv_at hl 1 rfl) ?_
    refine lv_iconst (v := 2) hx hb dX11_shareBits_25 (by decide) ?_
    refine lv_aload_n hx hb dX11_shareBits_26 rfl (lv_at hl 1 rfl) ?_
    refine va_get (v := .int w_1.1) hx hb htU iU_X11 hown hK hP 0 rfl rfl 13 (by decide) (htU _ fl_X11_100) (fun _ h9 => h9) rfl dX11_shareBits_27 ?_
    obtain ⟨w_5, hg_6, h⟩ := bd_at h
    refine sw_ci (sw_runV (As := [.int 2, .int w_1.1]) (rest := []) Cx hP hD hS mv_X11_marksIn ml_X11_132 (c_X11_marksIn l G ca Z q_t q_t_row q_t_times q_t_wheelPrimes (z_t_now) (z_t_draft) (z_t_kept) (z_t_snapshot) (z_t_history) (z_t_accounts) (z_t_undoCount) (.int 0) (z_t_hasSnapshot) (.ref q_t_owner) (z_t_ownerD) (z_t_formatted) (z_t_formattedLength) (z_t_buffer) (z_t_bufferLength) (z_t_limit) (z_t_nextByte) (z_t_beginsAt) (z_t_token) (z_t_error) (z_t_errorAt) (z_t_errorPosition) (z_t_nested) (z_t_orders) (z_t_orderWords) (z_t_orderCount) H.size 2 w_1.1 w_1.1 t_row w_1.2.2 w_5 hg_6) 8 rfl rfl rfl [0, 2, 3, 4] rfl rfl rfl rfl ⟨(Nat.le_of_ble_eq_true rfl), (Nat.le_of_ble_eq_true rfl)⟩ hl.1 rfl rfl (Nat.le_of_ble_eq_true rfl) dX11_shareBits_30 ⟨(Nat.le_of_ble_eq_true rfl), (Nat.le_of_ble_eq_true rfl)⟩) hP hD hS hA [0, 2, 3, 4] [1] [1, 0, 2, 3, 4] rfl rfl rfl (by decide) (fun _ => rfl) rfl (fun r u H locs hw hP hD hS => ?_)
    subst hw
    have hP : va_P G vwCl [(q_t, .inr (8, [z_t_now, z_t_draft, z_t_kept, z_t_snapshot, z_t_history, z_t_accounts, .ref q_t_wheelPrimes, .ref q_t_row, z_t_undoCount, .int 0, z_t_hasSnapshot, .ref q_t_owner, .ref q_t_times, .int w_1.1, z_t_ownerD, z_t_formatted, z_t_formattedLength, z_t_buffer, z_t_bufferLength, z_t_limit, z_t_nextByte, z_t_beginsAt, z_t_token, z_t_error, z_t_errorAt, z_t_errorPosition, z_t_nested, z_t_orders, z_t_orderWords, z_t_orderCount])), (q_t_owner, .inl (ca 0, 5300, .inl w_1.2.1)), (q_t_row, .inl (ca 0, 45, .inl t_row)), (q_t_times, .inl (ca 0, 5300, .inl w_1.2.2)), (q_t_wheelPrimes, .inl (ca 0, 4, .inl sw_p4))] H := hP
    have hD : va_D A [(q_t, .inr (8, [z_t_now, z_t_draft, z_t_kept, z_t_snapshot, z_t_history, z_t_accounts, .ref q_t_wheelPrimes, .ref q_t_row, z_t_undoCount, .int 0, z_t_hasSnapshot, .ref q_t_owner, .ref q_t_times, .int w_1.1, z_t_ownerD, z_t_formatted, z_t_formattedLength, z_t_buffer, z_t_bufferLength, z_t_limit, z_t_nextByte, z_t_beginsAt, z_t_token, z_t_error, z_t_errorAt, z_t_errorPosition, z_t_nested, z_t_orders, z_t_orderWords, z_t_orderCount])), (q_t_owner, .inl (ca 0, 5300, .inl w_1.2.1)), (q_t_row, .inl (ca 0, 45, .inl t_row)), (q_t_times, .inl (ca 0, 5300, .inl w_1.2.2)), (q_t_wheelPrimes, .inl (ca 0, 4, .inl sw_p4))] := hD
    refine lv_i2f hx hb dX11_shareBits_33 ?_
    refine lv_iload_n hx hb dX11_shareBits_34 rfl (lv_at hl 0 rfl) ?_
    refine lv_i2f hx hb dX11_shareBits_35 ?_
    obtain ⟨hn_7, h⟩ := n32_at h
    refine lv_fdiv hx hb dX11_shareBits_36 hn_7 ?_
    refine lv_topf (fun x2_8 e_x2_8 => ?_)
    have h := nm_at e_x2_8 h
    refine lv_fstore_n (lv' := [(2, .float x2_8), (1, .int x1_3), (0, .ref q_t)]) hx hb dX11_shareBits_37 rfl hl (by decide) rfl (fun ls hl => ?_)
    refine lv_fload_n hx hb dX11_shareBits_38 rfl (lv_at hl 0 rfl) ?_
    obtain ⟨w_9, hg_10, h⟩ := bd_at h
    refine sw_ci (sw_runS (As := [.float x2_8]) (rest := []) Cx hP hD hS ms_Jxf58ca_floatToIntBits_5c35a ml_X11_220 (c_Jxf58ca_floatToIntBits_5c35a l G ca Z H.size x2_8 w_9 hg_10) [] rfl rfl rfl rfl ⟨(Nat.le_of_ble_eq_true rfl), (Nat.le_of_ble_eq_true rfl)⟩ hl.1 rfl rfl (Nat.le_of_ble_eq_true rfl) dX11_shareBits_39 ⟨(Nat.le_of_ble_eq_true rfl), (Nat.le_of_ble_eq_true rfl)⟩) hP hD hS hA [] [0, 1, 2, 3, 4] [0, 1, 2, 3, 4] rfl rfl rfl (by decide) (fun _ => rfl) rfl (fun r u H locs hw hP hD hS => ?_)
    subst hw
    have hP : va_P G vwCl [(q_t, .inr (8, [z_t_now, z_t_draft, z_t_kept, z_t_snapshot, z_t_history, z_t_accounts, .ref q_t_wheelPrimes, .ref q_t_row, z_t_undoCount, .int 0, z_t_hasSnapshot, .ref q_t_owner, .ref q_t_times, .int w_1.1, z_t_ownerD, z_t_formatted, z_t_formattedLength, z_t_buffer, z_t_bufferLength, z_t_limit, z_t_nextByte, z_t_beginsAt, z_t_token, z_t_error, z_t_errorAt, z_t_errorPosition, z_t_nested, z_t_orders, z_t_orderWords, z_t_orderCount])), (q_t_owner, .inl (ca 0, 5300, .inl w_1.2.1)), (q_t_row, .inl (ca 0, 45, .inl t_row)), (q_t_times, .inl (ca 0, 5300, .inl w_1.2.2)), (q_t_wheelPrimes, .inl (ca 0, 4, .inl sw_p4))] H := hP
    have hD : va_D A [(q_t, .inr (8, [z_t_now, z_t_draft, z_t_kept, z_t_snapshot, z_t_history, z_t_accounts, .ref q_t_wheelPrimes, .ref q_t_row, z_t_undoCount, .int 0, z_t_hasSnapshot, .ref q_t_owner, .ref q_t_times, .int w_1.1, z_t_ownerD, z_t_formatted, z_t_formattedLength, z_t_buffer, z_t_bufferLength, z_t_limit, z_t_nextByte, z_t_beginsAt, z_t_token, z_t_error, z_t_errorAt, z_t_errorPosition, z_t_nested, z_t_orders, z_t_orderWords, z_t_orderCount])), (q_t_owner, .inl (ca 0, 5300, .inl w_1.2.1)), (q_t_row, .inl (ca 0, 45, .inl t_row)), (q_t_times, .inl (ca 0, 5300, .inl w_1.2.2)), (q_t_wheelPrimes, .inl (ca 0, 4, .inl sw_p4))] := hD
    exact sw_ri hx hb hr hlocks hS (w_1.1, w_1.2.1, 0, w_1.2.2) (pr2 h) hP hD dX11_shareBits_42
  · have h := if_t c_4 h
    refine lv_fconst0 hx hb dX11_shareBits_20 ?_
    refine lv_goto (tgt := 37) hx hb dX11_shareBits_21 (by decide) ?_
    refine lv_fstore_n (lv' := [(2, .float FP.fconst0), (1, .int x1_3), (0, .ref q_t)]) hx hb dX11_shareBits_37 rfl hl (by decide) rfl (fun ls hl => ?_)
    refine lv_fload_n hx hb dX11_shareBits_38 rfl (lv_at hl 0 rfl) ?_
    obtain ⟨w_11, hg_12, h⟩ := bd_at h
    refine sw_ci (sw_runS (As := [.float FP.fconst0]) (rest := []) Cx hP hD hS ms_Jxf58ca_floatToIntBits_5c35a ml_X11_220 (c_Jxf58ca_floatToIntBits_5c35a l G ca Z H.size FP.fconst0 w_11 hg_12) [] rfl rfl rfl rfl ⟨(Nat.le_of_ble_eq_true rfl), (Nat.le_of_ble_eq_true rfl)⟩ hl.1 rfl rfl (Nat.le_of_ble_eq_true rfl) dX11_shareBits_39 ⟨(Nat.le_of_ble_eq_true rfl), (Nat.le_of_ble_eq_true rfl)⟩) hP hD hS hA [] [0, 1, 2, 3, 4] [0, 1, 2, 3, 4] rfl rfl rfl (by decide) (fun _ => rfl) rfl (fun r u H locs hw hP hD hS => ?_)
    subst hw
    have hP : va_P G vwCl [(q_t, .inr (8, [z_t_now, z_t_draft, z_t_kept, z_t_snapshot, z_t_history, z_t_accounts, .ref q_t_wheelPrimes, .ref q_t_row, z_t_undoCount, .int 0, z_t_hasSnapshot, .ref q_t_owner, .ref q_t_times, .int w_1.1, z_t_ownerD, z_t_formatted, z_t_formattedLength, z_t_buffer, z_t_bufferLength, z_t_limit, z_t_nextByte, z_t_beginsAt, z_t_token, z_t_error, z_t_errorAt, z_t_errorPosition, z_t_nested, z_t_orders, z_t_orderWords, z_t_orderCount])), (q_t_owner, .inl (ca 0, 5300, .inl w_1.2.1)), (q_t_row, .inl (ca 0, 45, .inl t_row)), (q_t_times, .inl (ca 0, 5300, .inl w_1.2.2)), (q_t_wheelPrimes, .inl (ca 0, 4, .inl sw_p4))] H := hP
    have hD : va_D A [(q_t, .inr (8, [z_t_now, z_t_draft, z_t_kept, z_t_snapshot, z_t_history, z_t_accounts, .ref q_t_wheelPrimes, .ref q_t_row, z_t_undoCount, .int 0, z_t_hasSnapshot, .ref q_t_owner, .ref q_t_times, .int w_1.1, z_t_ownerD, z_t_formatted, z_t_formattedLength, z_t_buffer, z_t_bufferLength, z_t_limit, z_t_nextByte, z_t_beginsAt, z_t_token, z_t_error, z_t_errorAt, z_t_errorPosition, z_t_nested, z_t_orders, z_t_orderWords, z_t_orderCount])), (q_t_owner, .inl (ca 0, 5300, .inl w_1.2.1)), (q_t_row, .inl (ca 0, 45, .inl t_row)), (q_t_times, .inl (ca 0, 5300, .inl w_1.2.2)), (q_t_wheelPrimes, .inl (ca 0, 4, .inl sw_p4))] := hD
    exact sw_ri hx hb hr hlocks hS (w_1.1, w_1.2.1, 0, w_1.2.2) (pr2 h) hP hD dX11_shareBits_42
theorem mv_X11_useful : sw_MV yX11_useful RX11 cX11_useful 4 (Option.some Jvm.ClassFile.FieldType.double) 0 := ⟨im_X11_useful, se_X11_useful, ini_X11, co_X11_useful, by decide +kernel⟩
def B_X11_useful_15 (t_row : (Nat → Int32)) (k_15 : Int32 → Int32 → Int32 → Int32 → ((Nat → Int32)) → Int32 → ((Nat → Int32)) → Option (UInt64 × (Int32 × (Nat → Int32) × Int32 × (Nat → Int32)))) (x1 : Int32) (x2 : Int32) (x3 : Int32) (t_end : Int32) (t_owner : (Nat → Int32)) (t_thrown : Int32) (t_times : (Nat → Int32)) : Option (UInt64 × (Int32 × (Nat → Int32) × Int32 × (Nat → Int32))) :=
 (if t_end < x3 then (if x2 = 0 then some (FP.dconst1, (t_end, t_owner, t_thrown, t_times)) else n64 (FP.ddiv (FP.i2d x1) (FP.i2d x2)) (some ((FP.ddiv (FP.i2d x1) (FP.i2d x2)), (t_end, t_owner, t_thrown, t_times)))) else ix x3 5300 ((if (t_times x3.toNatClampNeg) ≤ 0 then nm ((x1 + 0)) (fun x1_8 => ix x3 5300 (nm ((x2 + (t_times x3.toNatClampNeg))) (fun x2_10 => nm (x3 + 1) (fun x3_11 => k_15 x1_8 x2_10 x3_11 t_end t_owner t_thrown t_times)))) else nm ((x1 + 1)) (fun x1_12 => ix x3 5300 (nm ((x2 + (t_times x3.toNatClampNeg))) (fun x2_14 => nm (x3 + 1) (fun x3_15 => k_15 x1_12 x2_14 x3_15 t_end t_owner t_thrown t_times)))))))
def F_X11_useful (t_end : Int32) (t_owner : (Nat → Int32)) (t_row : (Nat → Int32)) (t_thrown : Int32) (t_times : (Nat → Int32)) : Option (UInt64 × (Int32 × (Nat → Int32) × Int32 × (Nat → Int32))) :=
 (F_X11_strike t_end t_owner t_row t_times).bind (fun w_1 => fx (fun _ _ _ _ _ _ _ => none) (B_X11_useful_15 t_row) FUEL 0 0 2 w_1.1 w_1.2.1 0 w_1.2.2)
abbrev RM_X11_useful : Room := ({ frames := 4, cells := 0, slots := 0, locals := 87 } : Room)
set_option maxHeartbeats 4000000 in
set_option maxRecDepth 100000 in
theorem c_X11_useful (l : Launch) (G : va_G) (ca Z : Nat → Nat) (q_t : Nat) (q_t_owner : Nat) (q_t_row : Nat) (q_t_times : Nat) (q_t_wheelPrimes : Nat) (z_t_now : Value) (z_t_draft : Value) (z_t_kept : Value) (z_t_snapshot : Value) (z_t_history : Value) (z_t_accounts : Value) (z_t_undoCount : Value) (z_t_hasSnapshot : Value) (z_t_ownerD : Value) (z_t_formatted : Value) (z_t_formattedLength : Value) (z_t_buffer : Value) (z_t_bufferLength : Value) (z_t_limit : Value) (z_t_nextByte : Value) (z_t_beginsAt : Value) (z_t_token : Value) (z_t_error : Value) (z_t_errorAt : Value) (z_t_errorPosition : Value) (z_t_nested : Value) (z_t_orders : Value) (z_t_orderWords : Value) (z_t_orderCount : Value) (sz : Nat) (t_end : Int32) (t_owner : (Nat → Int32)) (t_row : (Nat → Int32)) (t_thrown : Int32) (t_times : (Nat → Int32)) (res : UInt64 × (Int32 × (Nat → Int32) × Int32 × (Nat → Int32))) (hF : F_X11_useful t_end t_owner t_row t_thrown t_times = some res) : Met l yX11_useful (.code yX11_useful cX11_useful 4 (Option.some Jvm.ClassFile.FieldType.double) :: sw_U) RM_X11_useful (va_Pc [.ref q_t] (sw_Pre G ca Z [(q_t, .inr (8, [z_t_now, z_t_draft, z_t_kept, z_t_snapshot, z_t_history, z_t_accounts, .ref q_t_wheelPrimes, .ref q_t_row, z_t_undoCount, .int t_thrown, z_t_hasSnapshot, .ref q_t_owner, .ref q_t_times, .int t_end, z_t_ownerD, z_t_formatted, z_t_formattedLength, z_t_buffer, z_t_bufferLength, z_t_limit, z_t_nextByte, z_t_beginsAt, z_t_token, z_t_error, z_t_errorAt, z_t_errorPosition, z_t_nested, z_t_orders, z_t_orderWords, z_t_orderCount])), (q_t_owner, .inl (ca 0, 5300, .inl t_owner)), (q_t_row, .inl (ca 0, 45, .inl t_row)), (q_t_times, .inl (ca 0, 5300, .inl t_times)), (q_t_wheelPrimes, .inl (ca 0, 4, .inl sw_p4))] sz)) ((fun A => va_Qd (fun r (u : Int32 × (Nat → Int32) × Int32 × (Nat → Int32)) => res.1 = r ∧ res.2 = u) (sw_Post G A (fun (u : Int32 × (Nat → Int32) × Int32 × (Nat → Int32)) => [(q_t, .inr (8, [z_t_now, z_t_draft, z_t_kept, z_t_snapshot, z_t_history, z_t_accounts, .ref q_t_wheelPrimes, .ref q_t_row, z_t_undoCount, .int u.2.2.1, z_t_hasSnapshot, .ref q_t_owner, .ref q_t_times, .int u.1, z_t_ownerD, z_t_formatted, z_t_formattedLength, z_t_buffer, z_t_bufferLength, z_t_limit, z_t_nextByte, z_t_beginsAt, z_t_token, z_t_error, z_t_errorAt, z_t_errorPosition, z_t_nested, z_t_orders, z_t_orderWords, z_t_orderCount])), (q_t_owner, .inl (ca 0, 5300, .inl u.2.1)), (q_t_row, .inl (ca 0, 45, .inl t_row)), (q_t_times, .inl (ca 0, 5300, .inl u.2.2.2)), (q_t_wheelPrimes, .inl (ca 0, 4, .inl sw_p4))])) A) (va_A [(q_t, .inr (8, [z_t_now, z_t_draft, z_t_kept, z_t_snapshot, z_t_history, z_t_accounts, .ref q_t_wheelPrimes, .ref q_t_row, z_t_undoCount, .int t_thrown, z_t_hasSnapshot, .ref q_t_owner, .ref q_t_times, .int t_end, z_t_ownerD, z_t_formatted, z_t_formattedLength, z_t_buffer, z_t_bufferLength, z_t_limit, z_t_nextByte, z_t_beginsAt, z_t_token, z_t_error, z_t_errorAt, z_t_errorPosition, z_t_nested, z_t_orders, z_t_orderWords, z_t_orderCount])), (q_t_owner, .inl (ca 0, 5300, .inl t_owner)), (q_t_row, .inl (ca 0, 45, .inl t_row)), (q_t_times, .inl (ca 0, 5300, .inl t_times)), (q_t_wheelPrimes, .inl (ca 0, 4, .inl sw_p4))] sz)) 0 0 (va_A [(q_t, .inr (8, [z_t_now, z_t_draft, z_t_kept, z_t_snapshot, z_t_history, z_t_accounts, .ref q_t_wheelPrimes, .ref q_t_row, z_t_undoCount, .int t_thrown, z_t_hasSnapshot, .ref q_t_owner, .ref q_t_times, .int t_end, z_t_ownerD, z_t_formatted, z_t_formattedLength, z_t_buffer, z_t_bufferLength, z_t_limit, z_t_nextByte, z_t_beginsAt, z_t_token, z_t_error, z_t_errorAt, z_t_errorPosition, z_t_nested, z_t_orders, z_t_orderWords, z_t_orderCount])), (q_t_owner, .inl (ca 0, 5300, .inl t_owner)), (q_t_row, .inl (ca 0, 45, .inl t_row)), (q_t_times, .inl (ca 0, 5300, .inl t_times)), (q_t_wheelPrimes, .inl (ca 0, 4, .inl sw_p4))] sz) := by
  refine sw_ofW (Qc := fun A => va_Qd (fun r (u : Int32 × (Nat → Int32) × Int32 × (Nat → Int32)) => res.1 = r ∧ res.2 = u) (sw_Post G A (fun (u : Int32 × (Nat → Int32) × Int32 × (Nat → Int32)) => [(q_t, .inr (8, [z_t_now, z_t_draft, z_t_kept, z_t_snapshot, z_t_history, z_t_accounts, .ref q_t_wheelPrimes, .ref q_t_row, z_t_undoCount, .int u.2.2.1, z_t_hasSnapshot, .ref q_t_owner, .ref q_t_times, .int u.1, z_t_ownerD, z_t_formatted, z_t_formattedLength, z_t_buffer, z_t_bufferLength, z_t_limit, z_t_nextByte, z_t_beginsAt, z_t_token, z_t_error, z_t_errorAt, z_t_errorPosition, z_t_nested, z_t_orders, z_t_orderWords, z_t_orderCount])), (q_t_owner, .inl (ca 0, 5300, .inl u.2.1)), (q_t_row, .inl (ca 0, 45, .inl t_row)), (q_t_times, .inl (ca 0, 5300, .inl u.2.2.2)), (q_t_wheelPrimes, .inl (ca 0, 4, .inl sw_p4))])) A) (by decide) [(0, .ref q_t)] rfl (Nat.le_of_ble_eq_true rfl) ?_
  intro p e s m args below meth c ls A hx hb hr hml hown htU hlocks hnm hP hK hD hX hY hS hA hl
  have hown : s.vm.findClass RX11 = some m.cls := hown
  have Cx : sw_Cx p s m args c cX11_useful 4 RX11 G ca Z A := ⟨⟨hx, hb, hml, hown, htU⟩, hK, hX, hY, hA⟩
  have h := hF
  unfold F_X11_useful at h
  have hL_15 : ∀ (n_15 : Nat) (x1 : Int32) (x2 : Int32) (x3 : Int32) (t_end : Int32) (t_owner : (Nat → Int32)) (t_thrown : Int32) (t_times : (Nat → Int32)) (ls : Array Slot) (H : Heap) (locs : List Loc), lv_has ls 4 [(0, .ref q_t), (1, .int x1), (2, .int x2), (3, .int x3)] → va_P G vwCl [(q_t, .inr (8, [z_t_now, z_t_draft, z_t_kept, z_t_snapshot, z_t_history, z_t_accounts, .ref q_t_wheelPrimes, .ref q_t_row, z_t_undoCount, .int t_thrown, z_t_hasSnapshot, .ref q_t_owner, .ref q_t_times, .int t_end, z_t_ownerD, z_t_formatted, z_t_formattedLength, z_t_buffer, z_t_bufferLength, z_t_limit, z_t_nextByte, z_t_beginsAt, z_t_token, z_t_error, z_t_errorAt, z_t_errorPosition, z_t_nested, z_t_orders, z_t_orderWords, z_t_orderCount])), (q_t_owner, .inl (ca 0, 5300, .inl t_owner)), (q_t_row, .inl (ca 0, 45, .inl t_row)), (q_t_times, .inl (ca 0, 5300, .inl t_times)), (q_t_wheelPrimes, .inl (ca 0, 4, .inl sw_p4))] H → va_D A [(q_t, .inr (8, [z_t_now, z_t_draft, z_t_kept, z_t_snapshot, z_t_history, z_t_accounts, .ref q_t_wheelPrimes, .ref q_t_row, z_t_undoCount, .int t_thrown, z_t_hasSnapshot, .ref q_t_owner, .ref q_t_times, .int t_end, z_t_ownerD, z_t_formatted, z_t_formattedLength, z_t_buffer, z_t_bufferLength, z_t_limit, z_t_nextByte, z_t_beginsAt, z_t_token, z_t_error, z_t_errorAt, z_t_errorPosition, z_t_nested, z_t_orders, z_t_orderWords, z_t_orderCount])), (q_t_owner, .inl (ca 0, 5300, .inl t_owner)), (q_t_row, .inl (ca 0, 45, .inl t_row)), (q_t_times, .inl (ca 0, 5300, .inl t_times)), (q_t_wheelPrimes, .inl (ca 0, 4, .inl sw_p4))] → va_S A s.heap H locs → fx (fun _ _ _ _ _ _ _ => none) (B_X11_useful_15 t_row) n_15 x1 x2 x3 t_end t_owner t_thrown t_times = some res → W p l e RM_X11_useful s m args below meth c H locs 0 0 (MQ below ((fun A => va_Qd (fun r (u : Int32 × (Nat → Int32) × Int32 × (Nat → Int32)) => res.1 = r ∧ res.2 = u) (sw_Post G A (fun (u : Int32 × (Nat → Int32) × Int32 × (Nat → Int32)) => [(q_t, .inr (8, [z_t_now, z_t_draft, z_t_kept, z_t_snapshot, z_t_history, z_t_accounts, .ref q_t_wheelPrimes, .ref q_t_row, z_t_undoCount, .int u.2.2.1, z_t_hasSnapshot, .ref q_t_owner, .ref q_t_times, .int u.1, z_t_ownerD, z_t_formatted, z_t_formattedLength, z_t_buffer, z_t_bufferLength, z_t_limit, z_t_nextByte, z_t_beginsAt, z_t_token, z_t_error, z_t_errorAt, z_t_errorPosition, z_t_nested, z_t_orders, z_t_orderWords, z_t_orderCount])), (q_t_owner, .inl (ca 0, 5300, .inl u.2.1)), (q_t_row, .inl (ca 0, 45, .inl t_row)), (q_t_times, .inl (ca 0, 5300, .inl u.2.2.2)), (q_t_wheelPrimes, .inl (ca 0, 4, .inl sw_p4))])) A) A) args s 0 0 A) (F0 m 15 ls []) := by
    intro n_15
    induction n_15 with
    | zero => intro x1 x2 x3 t_end t_owner t_thrown t_times ls H locs hl hP hD hS h; exact no_at h
    | succ n_15 ih_15 =>
      intro x1 x2 x3 t_end t_owner t_thrown t_times ls H locs hl hP hD hS h
      rw [fx_s] at h
      unfold B_X11_useful_15 at h
      refine lv_iload_n hx hb dX11_useful_15 rfl (lv_at hl 3 rfl) ?_
      refine lv_aload_n hx hb dX11_useful_16 rfl (lv_at hl 0 rfl) ?_
      refine va_get (v := .int t_end) hx hb htU iU_X11 hown hK hP 0 rfl rfl 13 (by decide) (htU _ fl_X11_100) (fun _ h9 => h9) rfl dX11_useful_17 ?_
      refine lv_icmp_gt (tgt := 55) hx hb dX11_useful_20 (by decide) (fun c_3 => ?_) (fun c_3 => ?_)
      · have h := if_t c_3 h
        refine lv_iload_n hx hb dX11_useful_55 rfl (lv_at hl 2 rfl) ?_
        refine lv_if_ne (tgt := 63) hx hb dX11_useful_56 (by decide) (fun c_4 => ?_) (fun c_4 => ?_)
        · have h := if_f c_4 h
          refine lv_iload_n hx hb dX11_useful_63 rfl (lv_at hl 1 rfl) ?_
          refine lv_i2d hx hb dX11_useful_64 ?_
          refine lv_iload_n hx hb dX11_useful_65 rfl (lv_at hl 2 rfl) ?_
          refine lv_i2d hx hb dX11_useful_66 ?_
          obtain ⟨hn_5, h⟩ := n64_at h
          refine lv_ddiv hx hb dX11_useful_67 hn_5 ?_
          exact sw_rd hx hb hr hlocks hS (t_end, t_owner, t_thrown, t_times) (pr2 h) hP hD dX11_useful_68
        · have h := if_t c_4 h
          refine lv_dconst1 hx hb dX11_useful_59 ?_
          refine lv_goto (tgt := 68) hx hb dX11_useful_60 (by decide) ?_
          exact sw_rd hx hb hr hlocks hS (t_end, t_owner, t_thrown, t_times) (pr2 h) hP hD dX11_useful_68
      · have h := if_f c_3 h
        refine lv_iload_n hx hb dX11_useful_23 rfl (lv_at hl 1 rfl) ?_
        refine lv_aload_n hx hb dX11_useful_24 rfl (lv_at hl 0 rfl) ?_
        refine va_get (v := .ref q_t_times) hx hb htU iU_X11 hown hK hP 0 rfl rfl 12 (by decide) (htU _ fl_X11_37) (fun _ h9 => h9) rfl dX11_useful_25 ?_
        refine lv_iload_n hx hb dX11_useful_28 rfl (lv_at hl 3 rfl) ?_
        obtain ⟨hi_6, h⟩ := ix_at h
        refine va_iald hx hb hK hP 3 0 rfl rfl hi_6 dX11_useful_29 ?_
        refine lv_if_le (tgt := 37) hx hb dX11_useful_30 (by decide) (fun c_7 => ?_) (fun c_7 => ?_)
        · have h := if_t c_7 h
          refine lv_iconst (v := 0) hx hb dX11_useful_37 (by decide) ?_
          refine lv_iadd hx hb dX11_useful_38 ?_
          refine lv_topi (fun x1_8 e_x1_8 => ?_)
          have h := nm_at e_x1_8 h
          refine lv_istore_n (lv' := [(1, .int x1_8), (0, .ref q_t), (2, .int x2), (3, .int x3)]) hx hb dX11_useful_39 rfl hl (by decide) rfl (fun ls hl => ?_)
          refine lv_iload_n hx hb dX11_useful_40 rfl (lv_at hl 2 rfl) ?_
          refine lv_aload_n hx hb dX11_useful_41 rfl (lv_at hl 1 rfl) ?_
          refine va_get (v := .ref q_t_times) hx hb htU iU_X11 hown hK hP 0 rfl rfl 12 (by decide) (htU _ fl_X11_37) (fun _ h9 => h9) rfl dX11_useful_42 ?_
          refine lv_iload_n hx hb dX11_useful_45 rfl (lv_at hl 3 rfl) ?_
          obtain ⟨hi_9, h⟩ := ix_at h
          refine va_iald hx hb hK hP 3 0 rfl rfl hi_9 dX11_useful_46 ?_
          refine lv_iadd hx hb dX11_useful_47 ?_
          refine lv_topi (fun x2_10 e_x2_10 => ?_)
          have h := nm_at e_x2_10 h
          refine lv_istore_n (lv' := [(2, .int x2_10), (1, .int x1_8), (0, .ref q_t), (3, .int x3)]) hx hb dX11_useful_48 rfl hl (by decide) rfl (fun ls hl => ?_)
          obtain ⟨x3_11, e_x3_11⟩ : ∃ y : Int32, y = x3 + 1 := ⟨_, rfl⟩
          refine lv_iinc (v := x3_11) (lv' := [(3, .int x3_11), (2, .int x2_10), (1, .int x1_8), (0, .ref q_t)]) hx hb dX11_useful_49 hl (k := 3) rfl (by rw [e_x3_11]; rfl) (by decide) rfl (fun ls hl => ?_)
          have h := nm_at e_x3_11 h
          refine lv_goto (tgt := 15) hx hb dX11_useful_52 (by decide) ?_
          exact ih_15 x1_8 x2_10 x3_11 t_end t_owner t_thrown t_times ls H _ (lv_sub hl [3, 2, 1, 0] rfl) hP hD hS h
        · have h := if_f c_7 h
          refine lv_iconst (v := 1) hx hb dX11_useful_33 (by decide) ?_
          refine lv_goto (tgt := 38) hx hb dX11_useful_34 (by decide) ?_
          refine lv_iadd hx hb dX11_useful_38 ?_
          refine lv_topi (fun x1_12 e_x1_12 => ?_)
          have h := nm_at e_x1_12 h
          refine lv_istore_n (lv' := [(1, .int x1_12), (0, .ref q_t), (2, .int x2), (3, .int x3)]) hx hb dX11_useful_39 rfl hl (by decide) rfl (fun ls hl => ?_)
          refine lv_iload_n hx hb dX11_useful_40 rfl (lv_at hl 2 rfl) ?_
          refine lv_aload_n hx hb dX11_useful_41 rfl (lv_at hl 1 rfl) ?_
          refine va_get (v := .ref q_t_times) hx hb htU iU_X11 hown hK hP 0 rfl rfl 12 (by decide) (htU _ fl_X11_37) (fun _ h9 => h9) rfl dX11_useful_42 ?_
          refine lv_iload_n hx hb dX11_useful_45 rfl (lv_at hl 3 rfl) ?_
          obtain ⟨hi_13, h⟩ := ix_at h
          refine va_iald hx hb hK hP 3 0 rfl rfl hi_13 dX11_useful_46 ?_
          refine lv_iadd hx hb dX11_useful_47 ?_
          refine lv_topi (fun x2_14 e_x2_14 => ?_)
          have h := nm_at e_x2_14 h
          refine lv_istore_n (lv' := [(2, .int x2_14), (1, .int x1_12), (0, .ref q_t), (3, .int x3)]) hx hb dX11_useful_48 rfl hl (by decide) rfl (fun ls hl => ?_)
          obtain ⟨x3_15, e_x3_15⟩ : ∃ y : Int32, y = x3 + 1 := ⟨_, rfl⟩
          refine lv_iinc (v := x3_15) (lv' := [(3, .int x3_15), (2, .int x2_14), (1, .int x1_12), (0, .ref q_t)]) hx hb dX11_useful_49 hl (k := 3) rfl (by rw [e_x3_15]; rfl) (by decide) rfl (fun ls hl => ?_)
          have h := nm_at e_x3_15 h
          refine lv_goto (tgt := 15) hx hb dX11_useful_52 (by decide) ?_
          exact ih_15 x1_12 x2_14 x3_15 t_end t_owner t_thrown t_times ls H _ (lv_sub hl [3, 2, 1, 0] rfl) hP hD hS h
  refine lv_aload_n hx hb dX11_useful_0 rfl (lv_at hl 0 rfl) ?_
  refine lv_iconst (v := 0) hx hb dX11_useful_1 (by decide) ?_
  refine va_put (v := .int 0) (ty := .int) hx hb htU iU_X11 tyX11 tyX11_ok nmX11 hown hK hP hD hS 0 rfl rfl 9 (by decide) (htU _ fl_X11_78) (fun _ h9 => h9) rfl (by decide +kernel) rfl rfl (Nat.le_of_ble_eq_true rfl) dX11_useful_2 (fun H locs hP hD hS => ?_)
  have hP : va_P G vwCl [(q_t, .inr (8, [z_t_now, z_t_draft, z_t_kept, z_t_snapshot, z_t_history, z_t_accounts, .ref q_t_wheelPrimes, .ref q_t_row, z_t_undoCount, .int 0, z_t_hasSnapshot, .ref q_t_owner, .ref q_t_times, .int t_end, z_t_ownerD, z_t_formatted, z_t_formattedLength, z_t_buffer, z_t_bufferLength, z_t_limit, z_t_nextByte, z_t_beginsAt, z_t_token, z_t_error, z_t_errorAt, z_t_errorPosition, z_t_nested, z_t_orders, z_t_orderWords, z_t_orderCount])), (q_t_owner, .inl (ca 0, 5300, .inl t_owner)), (q_t_row, .inl (ca 0, 45, .inl t_row)), (q_t_times, .inl (ca 0, 5300, .inl t_times)), (q_t_wheelPrimes, .inl (ca 0, 4, .inl sw_p4))] H := hP
  have hD : va_D A [(q_t, .inr (8, [z_t_now, z_t_draft, z_t_kept, z_t_snapshot, z_t_history, z_t_accounts, .ref q_t_wheelPrimes, .ref q_t_row, z_t_undoCount, .int 0, z_t_hasSnapshot, .ref q_t_owner, .ref q_t_times, .int t_end, z_t_ownerD, z_t_formatted, z_t_formattedLength, z_t_buffer, z_t_bufferLength, z_t_limit, z_t_nextByte, z_t_beginsAt, z_t_token, z_t_error, z_t_errorAt, z_t_errorPosition, z_t_nested, z_t_orders, z_t_orderWords, z_t_orderCount])), (q_t_owner, .inl (ca 0, 5300, .inl t_owner)), (q_t_row, .inl (ca 0, 45, .inl t_row)), (q_t_times, .inl (ca 0, 5300, .inl t_times)), (q_t_wheelPrimes, .inl (ca 0, 4, .inl sw_p4))] := hD
  refine lv_aload_n hx hb dX11_useful_5 rfl (lv_at hl 0 rfl) ?_
  obtain ⟨w_1, hg_2, h⟩ := bd_at h
  refine sw_cv (sw_runV (As := []) (rest := []) Cx hP hD hS mv_X11_strike ml_X11_129 (c_X11_strike l G ca Z q_t q_t_owner q_t_row q_t_times q_t_wheelPrimes (z_t_now) (z_t_draft) (z_t_kept) (z_t_snapshot) (z_t_history) (z_t_accounts) (z_t_undoCount) (.int 0) (z_t_hasSnapshot) (z_t_ownerD) (z_t_formatted) (z_t_formattedLength) (z_t_buffer) (z_t_bufferLength) (z_t_limit) (z_t_nextByte) (z_t_beginsAt) (z_t_token) (z_t_error) (z_t_errorAt) (z_t_errorPosition) (z_t_nested) (z_t_orders) (z_t_orderWords) (z_t_orderCount) H.size t_end t_owner t_row t_times w_1 hg_2) 8 rfl rfl rfl [0, 1, 2, 3, 4] rfl rfl rfl rfl ⟨(Nat.le_of_ble_eq_true rfl), (Nat.le_of_ble_eq_true rfl)⟩ hl.1 rfl rfl (Nat.le_of_ble_eq_true rfl) dX11_useful_6 ⟨(Nat.le_of_ble_eq_true rfl), (Nat.le_of_ble_eq_true rfl)⟩) hP hD hS hA [0, 1, 2, 3, 4] [] [0, 1, 2, 3, 4] rfl rfl rfl (by decide) (fun _ => rfl) rfl (fun u H locs hw hP hD hS => ?_)
  subst hw
  have hP : va_P G vwCl [(q_t, .inr (8, [z_t_now, z_t_draft, z_t_kept, z_t_snapshot, z_t_history, z_t_accounts, .ref q_t_wheelPrimes, .ref q_t_row, z_t_undoCount, .int 0, z_t_hasSnapshot, .ref q_t_owner, .ref q_t_times, .int w_1.1, z_t_ownerD, z_t_formatted, z_t_formattedLength, z_t_buffer, z_t_bufferLength, z_t_limit, z_t_nextByte, z_t_beginsAt, z_t_token, z_t_error, z_t_errorAt, z_t_errorPosition, z_t_nested, z_t_orders, z_t_orderWords, z_t_orderCount])), (q_t_owner, .inl (ca 0, 5300, .inl w_1.2.1)), (q_t_row, .inl (ca 0, 45, .inl t_row)), (q_t_times, .inl (ca 0, 5300, .inl w_1.2.2)), (q_t_wheelPrimes, .inl (ca 0, 4, .inl sw_p4))] H := hP
  have hD : va_D A [(q_t, .inr (8, [z_t_now, z_t_draft, z_t_kept, z_t_snapshot, z_t_history, z_t_accounts, .ref q_t_wheelPrimes, .ref q_t_row, z_t_undoCount, .int 0, z_t_hasSnapshot, .ref q_t_owner, .ref q_t_times, .int w_1.1, z_t_ownerD, z_t_formatted, z_t_formattedLength, z_t_buffer, z_t_bufferLength, z_t_limit, z_t_nextByte, z_t_beginsAt, z_t_token, z_t_error, z_t_errorAt, z_t_errorPosition, z_t_nested, z_t_orders, z_t_orderWords, z_t_orderCount])), (q_t_owner, .inl (ca 0, 5300, .inl w_1.2.1)), (q_t_row, .inl (ca 0, 45, .inl t_row)), (q_t_times, .inl (ca 0, 5300, .inl w_1.2.2)), (q_t_wheelPrimes, .inl (ca 0, 4, .inl sw_p4))] := hD
  refine lv_iconst (v := 0) hx hb dX11_useful_9 (by decide) ?_
  refine lv_istore_n (lv' := [(1, .int 0), (0, .ref q_t)]) hx hb dX11_useful_10 rfl hl (by decide) rfl (fun ls hl => ?_)
  refine lv_iconst (v := 0) hx hb dX11_useful_11 (by decide) ?_
  refine lv_istore_n (lv' := [(2, .int 0), (1, .int 0), (0, .ref q_t)]) hx hb dX11_useful_12 rfl hl (by decide) rfl (fun ls hl => ?_)
  refine lv_iconst (v := 2) hx hb dX11_useful_13 (by decide) ?_
  refine lv_istore_n (lv' := [(3, .int 2), (2, .int 0), (1, .int 0), (0, .ref q_t)]) hx hb dX11_useful_14 rfl hl (by decide) rfl (fun ls hl => ?_)
  exact hL_15 FUEL 0 0 2 w_1.1 w_1.2.1 0 w_1.2.2 ls H _ (lv_sub hl [3, 2, 1, 0] rfl) hP hD hS h
theorem mv_X11_spokeShare : sw_MV yX11_spokeShare RX11 cX11_spokeShare 2 (Option.some Jvm.ClassFile.FieldType.float) 0 := ⟨im_X11_spokeShare, se_X11_spokeShare, ini_X11, co_X11_spokeShare, by decide +kernel⟩
def F_X11_spokeShare (t_row : (Nat → Int32)) (t_thrown : Int32) : Option (UInt32 × (Int32)) :=
 (F_X11_last t_row).bind (fun w_1 => (if w_1 = 1 then some (FP.fconst0, 0) else (F_X11_spokesIn 2 w_1 t_row).bind (fun w_4 => n32 (FP.fdiv (FP.i2f w_4) (FP.i2f (w_1 - 1))) (some ((FP.fdiv (FP.i2f w_4) (FP.i2f (w_1 - 1))), 0)))))
abbrev RM_X11_spokeShare : Room := ({ frames := 3, cells := 0, slots := 0, locals := 67 } : Room)
set_option maxHeartbeats 4000000 in
set_option maxRecDepth 100000 in
theorem c_X11_spokeShare (l : Launch) (G : va_G) (ca Z : Nat → Nat) (q_t : Nat) (q_t_row : Nat) (q_t_wheelPrimes : Nat) (z_t_now : Value) (z_t_draft : Value) (z_t_kept : Value) (z_t_snapshot : Value) (z_t_history : Value) (z_t_accounts : Value) (z_t_undoCount : Value) (z_t_hasSnapshot : Value) (z_t_owner : Value) (z_t_times : Value) (z_t_end : Value) (z_t_ownerD : Value) (z_t_formatted : Value) (z_t_formattedLength : Value) (z_t_buffer : Value) (z_t_bufferLength : Value) (z_t_limit : Value) (z_t_nextByte : Value) (z_t_beginsAt : Value) (z_t_token : Value) (z_t_error : Value) (z_t_errorAt : Value) (z_t_errorPosition : Value) (z_t_nested : Value) (z_t_orders : Value) (z_t_orderWords : Value) (z_t_orderCount : Value) (sz : Nat) (t_row : (Nat → Int32)) (t_thrown : Int32) (res : UInt32 × (Int32)) (hF : F_X11_spokeShare t_row t_thrown = some res) : Met l yX11_spokeShare (.code yX11_spokeShare cX11_spokeShare 2 (Option.some Jvm.ClassFile.FieldType.float) :: sw_U) RM_X11_spokeShare (va_Pc [.ref q_t] (sw_Pre G ca Z [(q_t, .inr (8, [z_t_now, z_t_draft, z_t_kept, z_t_snapshot, z_t_history, z_t_accounts, .ref q_t_wheelPrimes, .ref q_t_row, z_t_undoCount, .int t_thrown, z_t_hasSnapshot, z_t_owner, z_t_times, z_t_end, z_t_ownerD, z_t_formatted, z_t_formattedLength, z_t_buffer, z_t_bufferLength, z_t_limit, z_t_nextByte, z_t_beginsAt, z_t_token, z_t_error, z_t_errorAt, z_t_errorPosition, z_t_nested, z_t_orders, z_t_orderWords, z_t_orderCount])), (q_t_row, .inl (ca 0, 45, .inl t_row)), (q_t_wheelPrimes, .inl (ca 0, 4, .inl sw_p4))] sz)) ((fun A => va_Qf (fun r (u : Int32) => res.1 = r ∧ res.2 = u) (sw_Post G A (fun (u : Int32) => [(q_t, .inr (8, [z_t_now, z_t_draft, z_t_kept, z_t_snapshot, z_t_history, z_t_accounts, .ref q_t_wheelPrimes, .ref q_t_row, z_t_undoCount, .int u, z_t_hasSnapshot, z_t_owner, z_t_times, z_t_end, z_t_ownerD, z_t_formatted, z_t_formattedLength, z_t_buffer, z_t_bufferLength, z_t_limit, z_t_nextByte, z_t_beginsAt, z_t_token, z_t_error, z_t_errorAt, z_t_errorPosition, z_t_nested, z_t_orders, z_t_orderWords, z_t_orderCount])), (q_t_row, .inl (ca 0, 45, .inl t_row)), (q_t_wheelPrimes, .inl (ca 0, 4, .inl sw_p4))])) A) (va_A [(q_t, .inr (8, [z_t_now, z_t_draft, z_t_kept, z_t_snapshot, z_t_history, z_t_accounts, .ref q_t_wheelPrimes, .ref q_t_row, z_t_undoCount, .int t_thrown, z_t_hasSnapshot, z_t_owner, z_t_times, z_t_end, z_t_ownerD, z_t_formatted, z_t_formattedLength, z_t_buffer, z_t_bufferLength, z_t_limit, z_t_nextByte, z_t_beginsAt, z_t_token, z_t_error, z_t_errorAt, z_t_errorPosition, z_t_nested, z_t_orders, z_t_orderWords, z_t_orderCount])), (q_t_row, .inl (ca 0, 45, .inl t_row)), (q_t_wheelPrimes, .inl (ca 0, 4, .inl sw_p4))] sz)) 0 0 (va_A [(q_t, .inr (8, [z_t_now, z_t_draft, z_t_kept, z_t_snapshot, z_t_history, z_t_accounts, .ref q_t_wheelPrimes, .ref q_t_row, z_t_undoCount, .int t_thrown, z_t_hasSnapshot, z_t_owner, z_t_times, z_t_end, z_t_ownerD, z_t_formatted, z_t_formattedLength, z_t_buffer, z_t_bufferLength, z_t_limit, z_t_nextByte, z_t_beginsAt, z_t_token, z_t_error, z_t_errorAt, z_t_errorPosition, z_t_nested, z_t_orders, z_t_orderWords, z_t_orderCount])), (q_t_row, .inl (ca 0, 45, .inl t_row)), (q_t_wheelPrimes, .inl (ca 0, 4, .inl sw_p4))] sz) := by
  refine sw_ofW (Qc := fun A => va_Qf (fun r (u : Int32) => res.1 = r ∧ res.2 = u) (sw_Post G A (fun (u : Int32) => [(q_t, .inr (8, [z_t_now, z_t_draft, z_t_kept, z_t_snapshot, z_t_history, z_t_accounts, .ref q_t_wheelPrimes, .ref q_t_row, z_t_undoCount, .int u, z_t_hasSnapshot, z_t_owner, z_t_times, z_t_end, z_t_ownerD, z_t_formatted, z_t_formattedLength, z_t_buffer, z_t_bufferLength, z_t_limit, z_t_nextByte, z_t_beginsAt, z_t_token, z_t_error, z_t_errorAt, z_t_errorPosition, z_t_nested, z_t_orders, z_t_orderWords, z_t_orderCount])), (q_t_row, .inl (ca 0, 45, .inl t_row)), (q_t_wheelPrimes, .inl (ca 0, 4, .inl sw_p4))])) A) (by decide) [(0, .ref q_t)] rfl (Nat.le_of_ble_eq_true rfl) ?_
  intro p e s m args below meth c ls A hx hb hr hml hown htU hlocks hnm hP hK hD hX hY hS hA hl
  have hown : s.vm.findClass RX11 = some m.cls := hown
  have Cx : sw_Cx p s m args c cX11_spokeShare 2 RX11 G ca Z A := ⟨⟨hx, hb, hml, hown, htU⟩, hK, hX, hY, hA⟩
  have h := hF
  unfold F_X11_spokeShare at h
  refine lv_aload_n hx hb dX11_spokeShare_0 rfl (lv_at hl 0 rfl) ?_
  refine lv_iconst (v := 0) hx hb dX11_spokeShare_1 (by decide) ?_
  refine va_put (v := .int 0) (ty := .int) hx hb htU iU_X11 tyX11 tyX11_ok nmX11 hown hK hP hD hS 0 rfl rfl 9 (by decide) (htU _ fl_X11_78) (fun _ h9 => h9) rfl (by decide +kernel) rfl rfl (Nat.le_of_ble_eq_true rfl) dX11_spokeShare_2 (fun H locs hP hD hS => ?_)
  have hP : va_P G vwCl [(q_t, .inr (8, [z_t_now, z_t_draft, z_t_kept, z_t_snapshot, z_t_history, z_t_accounts, .ref q_t_wheelPrimes, .ref q_t_row, z_t_undoCount, .int 0, z_t_hasSnapshot, z_t_owner, z_t_times, z_t_end, z_t_ownerD, z_t_formatted, z_t_formattedLength, z_t_buffer, z_t_bufferLength, z_t_limit, z_t_nextByte, z_t_beginsAt, z_t_token, z_t_error, z_t_errorAt, z_t_errorPosition, z_t_nested, z_t_orders, z_t_orderWords, z_t_orderCount])), (q_t_row, .inl (ca 0, 45, .inl t_row)), (q_t_wheelPrimes, .inl (ca 0, 4, .inl sw_p4))] H := hP
  have hD : va_D A [(q_t, .inr (8, [z_t_now, z_t_draft, z_t_kept, z_t_snapshot, z_t_history, z_t_accounts, .ref q_t_wheelPrimes, .ref q_t_row, z_t_undoCount, .int 0, z_t_hasSnapshot, z_t_owner, z_t_times, z_t_end, z_t_ownerD, z_t_formatted, z_t_formattedLength, z_t_buffer, z_t_bufferLength, z_t_limit, z_t_nextByte, z_t_beginsAt, z_t_token, z_t_error, z_t_errorAt, z_t_errorPosition, z_t_nested, z_t_orders, z_t_orderWords, z_t_orderCount])), (q_t_row, .inl (ca 0, 45, .inl t_row)), (q_t_wheelPrimes, .inl (ca 0, 4, .inl sw_p4))] := hD
  refine lv_aload_n hx hb dX11_spokeShare_5 rfl (lv_at hl 0 rfl) ?_
  obtain ⟨w_1, hg_2, h⟩ := bd_at h
  refine sw_ci (sw_runV (As := []) (rest := []) Cx hP hD hS mv_X11_last ml_X11_89 (c_X11_last l G ca Z q_t q_t_row (z_t_now) (z_t_draft) (z_t_kept) (z_t_snapshot) (z_t_history) (z_t_accounts) (.ref q_t_wheelPrimes) (z_t_undoCount) (.int 0) (z_t_hasSnapshot) (z_t_owner) (z_t_times) (z_t_end) (z_t_ownerD) (z_t_formatted) (z_t_formattedLength) (z_t_buffer) (z_t_bufferLength) (z_t_limit) (z_t_nextByte) (z_t_beginsAt) (z_t_token) (z_t_error) (z_t_errorAt) (z_t_errorPosition) (z_t_nested) (z_t_orders) (z_t_orderWords) (z_t_orderCount) H.size t_row w_1 hg_2) 8 rfl rfl rfl [0, 1] rfl rfl rfl rfl ⟨(Nat.le_of_ble_eq_true rfl), (Nat.le_of_ble_eq_true rfl)⟩ hl.1 rfl rfl (Nat.le_of_ble_eq_true rfl) dX11_spokeShare_6 ⟨(Nat.le_of_ble_eq_true rfl), (Nat.le_of_ble_eq_true rfl)⟩) hP hD hS hA [0, 1] [2] [1, 2, 0] rfl rfl rfl (by decide) (fun _ => rfl) rfl (fun r u H locs hw hP hD hS => ?_)
  subst hw
  have hP : va_P G vwCl [(q_t, .inr (8, [z_t_now, z_t_draft, z_t_kept, z_t_snapshot, z_t_history, z_t_accounts, .ref q_t_wheelPrimes, .ref q_t_row, z_t_undoCount, .int 0, z_t_hasSnapshot, z_t_owner, z_t_times, z_t_end, z_t_ownerD, z_t_formatted, z_t_formattedLength, z_t_buffer, z_t_bufferLength, z_t_limit, z_t_nextByte, z_t_beginsAt, z_t_token, z_t_error, z_t_errorAt, z_t_errorPosition, z_t_nested, z_t_orders, z_t_orderWords, z_t_orderCount])), (q_t_row, .inl (ca 0, 45, .inl t_row)), (q_t_wheelPrimes, .inl (ca 0, 4, .inl sw_p4))] H := hP
  have hD : va_D A [(q_t, .inr (8, [z_t_now, z_t_draft, z_t_kept, z_t_snapshot, z_t_history, z_t_accounts, .ref q_t_wheelPrimes, .ref q_t_row, z_t_undoCount, .int 0, z_t_hasSnapshot, z_t_owner, z_t_times, z_t_end, z_t_ownerD, z_t_formatted, z_t_formattedLength, z_t_buffer, z_t_bufferLength, z_t_limit, z_t_nextByte, z_t_beginsAt, z_t_token, z_t_error, z_t_errorAt, z_t_errorPosition, z_t_nested, z_t_orders, z_t_orderWords, z_t_orderCount])), (q_t_row, .inl (ca 0, 45, .inl t_row)), (q_t_wheelPrimes, .inl (ca 0, 4, .inl sw_p4))] := hD
  refine lv_istore_n (lv' := [(1, .int w_1), (0, .ref q_t)]) hx hb dX11_spokeShare_9 rfl hl (by decide) rfl (fun ls hl => ?_)
  refine lv_iload_n hx hb dX11_spokeShare_10 rfl (lv_at hl 0 rfl) ?_
  refine lv_iconst (v := 1) hx hb dX11_spokeShare_11 (by decide) ?_
  refine lv_icmp_ne (tgt := 19) hx hb dX11_spokeShare_12 (by decide) (fun c_3 => ?_) (fun c_3 => ?_)
  · have h := if_f c_3 h
    refine lv_aload_n hx hb dX11_spokeShare_19 rfl (lv_at hl 1 rfl) ?_
    refine lv_iconst (v := 2) hx hb dX11_spokeShare_20 (by decide) ?_
    refine lv_iload_n hx hb dX11_spokeShare_21 rfl (lv_at hl 0 rfl) ?_
    obtain ⟨w_4, hg_5, h⟩ := bd_at h
    refine sw_ci (sw_runV (As := [.int 2, .int w_1]) (rest := []) Cx hP hD hS mv_X11_spokesIn ml_X11_136 (c_X11_spokesIn l G ca Z q_t q_t_row q_t_wheelPrimes (z_t_now) (z_t_draft) (z_t_kept) (z_t_snapshot) (z_t_history) (z_t_accounts) (z_t_undoCount) (.int 0) (z_t_hasSnapshot) (z_t_owner) (z_t_times) (z_t_end) (z_t_ownerD) (z_t_formatted) (z_t_formattedLength) (z_t_buffer) (z_t_bufferLength) (z_t_limit) (z_t_nextByte) (z_t_beginsAt) (z_t_token) (z_t_error) (z_t_errorAt) (z_t_errorPosition) (z_t_nested) (z_t_orders) (z_t_orderWords) (z_t_orderCount) H.size 2 w_1 t_row w_4 hg_5) 8 rfl rfl rfl [0, 1, 2] rfl rfl rfl rfl ⟨(Nat.le_of_ble_eq_true rfl), (Nat.le_of_ble_eq_true rfl)⟩ hl.1 rfl rfl (Nat.le_of_ble_eq_true rfl) dX11_spokeShare_22 ⟨(Nat.le_of_ble_eq_true rfl), (Nat.le_of_ble_eq_true rfl)⟩) hP hD hS hA [0, 1, 2] [] [0, 1, 2] rfl rfl rfl (by decide) (fun _ => rfl) rfl (fun r u H locs hw hP hD hS => ?_)
    subst hw
    have hP : va_P G vwCl [(q_t, .inr (8, [z_t_now, z_t_draft, z_t_kept, z_t_snapshot, z_t_history, z_t_accounts, .ref q_t_wheelPrimes, .ref q_t_row, z_t_undoCount, .int 0, z_t_hasSnapshot, z_t_owner, z_t_times, z_t_end, z_t_ownerD, z_t_formatted, z_t_formattedLength, z_t_buffer, z_t_bufferLength, z_t_limit, z_t_nextByte, z_t_beginsAt, z_t_token, z_t_error, z_t_errorAt, z_t_errorPosition, z_t_nested, z_t_orders, z_t_orderWords, z_t_orderCount])), (q_t_row, .inl (ca 0, 45, .inl t_row)), (q_t_wheelPrimes, .inl (ca 0, 4, .inl sw_p4))] H := hP
    have hD : va_D A [(q_t, .inr (8, [z_t_now, z_t_draft, z_t_kept, z_t_snapshot, z_t_history, z_t_accounts, .ref q_t_wheelPrimes, .ref q_t_row, z_t_undoCount, .int 0, z_t_hasSnapshot, z_t_owner, z_t_times, z_t_end, z_t_ownerD, z_t_formatted, z_t_formattedLength, z_t_buffer, z_t_bufferLength, z_t_limit, z_t_nextByte, z_t_beginsAt, z_t_token, z_t_error, z_t_errorAt, z_t_errorPosition, z_t_nested, z_t_orders, z_t_orderWords, z_t_orderCount])), (q_t_row, .inl (ca 0, 45, .inl t_row)), (q_t_wheelPrimes, .inl (ca 0, 4, .inl sw_p4))] := hD
    refine lv_i2f hx hb dX11_spokeShare_25 ?_
    refine lv_iload_n hx hb dX11_spokeShare_26 rfl (lv_at hl 0 rfl) ?_
    refine lv_iconst (v := 1) hx hb dX11_spokeShare_27 (by decide) ?_
    refine lv_isub hx hb dX11_spokeShare_28 ?_
    refine lv_i2f hx hb dX11_spokeShare_29 ?_
    obtain ⟨hn_6, h⟩ := n32_at h
    refine lv_fdiv hx hb dX11_spokeShare_30 hn_6 ?_
    exact sw_rf hx hb hr hlocks hS 0 (pr2 h) hP hD dX11_spokeShare_31
  · have h := if_t c_3 h
    refine lv_fconst0 hx hb dX11_spokeShare_15 ?_
    refine lv_goto (tgt := 31) hx hb dX11_spokeShare_16 (by decide) ?_
    exact sw_rf hx hb hr hlocks hS 0 (pr2 h) hP hD dX11_spokeShare_31
