/-! ===== the law's own small methods ===== -/
section SX
variable {p : Program} {l : Launch} {e : Env} {R : Room} {s : State} {m : MethodId} {args : Array Value} {below : List Frame} {meth : Method} {c : Code} {H : Heap} {locs : List Loc} {cells slots : Nat} {Q : State → Prop}
  {cc bytes : ByteArray} {nL maxL n idx b pc mc ms : Nat} {own C : String} {G : va_G} {ca Z : Nat → Nat} {A : Nat → Prop} {ws wc : va_W} {y : MethodName} {ret : Option FieldType} {rm : Room} {As rest st : List Value} {ls : Array Slot} {Qc : Array Value → State → Outcome → State → Prop} {X : State → Prop}
/-- a method that looks at more than its world: X -/
def sx_Pre (G : va_G) (ca Z : Nat → Nat) (ws : va_W) (sz : Nat) (X : State → Prop) (U : State) : Prop := sw_Pre G ca Z ws sz U ∧ X U
theorem sx_ofW {av : List Value} {sz : Nat} {Qc : (Nat → Prop) → Array Value → State → Outcome → State → Prop}
    (hy : plainName y.cls = true) (lv : List (Nat × Value)) (hlv : lv_args 0 av = lv) (hn : (lg_sl av).length ≤ maxL)
    (body : ∀ (p : Program) (e : Env) (s : State) (m : MethodId) (args : Array Value) (below : List Frame) (meth : Method) (c : Code) (ls : Array Slot) (A : Nat → Prop), p.tables.exec = Jvm.exec → c.code = cc → meth.sig.returnType = ret → c.maxLocals = maxL → s.vm.findClass y.cls = some m.cls → (∀ w ∈ sw_U, w.before args s = true) → meth.locks = false → va_P G vwCl ws s.heap → va_K G vwCl (sw_tys ca) s → va_D A ws → sw_SX Z A s s.heap → sw_SY Z s → va_S A s.heap s.heap [] → (∀ q : Nat, s.heap.size ≤ q → A q) → X s → A = va_A ws s.heap.size → lv_has ls maxL lv →
      W p l e rm s m args below meth c s.heap [] 0 0 (MQ below (Qc A) args s mc ms A) (F0 m 0 ls [])) :
    Met l y (.code y cc maxL ret :: sw_U) rm (va_Pc av (sx_Pre G ca Z ws sz X)) (Qc (va_A ws sz)) mc ms (va_A ws sz) := by
  refine Met.ofW (cc := cc) (maxL := maxL) (ret := ret) hy rfl ?_
  intro p e s m args below meth c s₁ B hml hv
  obtain ⟨rfl, ⟨hsz, hP, hK, hD0, hX, hY⟩, hXs⟩ := hv
  subst hsz
  have hts := atoms_spec (ws := .code y cc maxL ret :: sw_U) B.pre
  have hl := lv_entry av (n := maxL) hn
  rw [lg_entry_eq]
  rw [hlv] at hl
  exact body p e s m av.toArray below meth c _ (va_A ws s.heap.size) B.exec B.bytes B.returns hml (findClass_of_methodNamed B.named) (fun w hw => hts w (List.mem_cons_of_mem _ hw)) B.notSynchronized hP hK hD0.self hX hY va_S.rf sw_hA hXs rfl hl
theorem sx_runS (Cx : sw_Cx p s m args c cc nL own G ca Z A) (hP : va_P G vwCl ws H) (hD : va_D A ws) (hS : va_S A s.heap H locs) (mb : sw_MS y bytes maxL ret n) (hl : Cond.methodLink own idx y ∈ sw_U)
    (hM : Met l y (.code y bytes maxL ret :: sw_U) rm (va_Pc As (sx_Pre G ca Z wc H.size X)) Qc mc ms (va_A wc H.size))
    (hbl : ∀ (a : Array Value) (U : State) (g : JFrame) (mk : MethodId), X U → X (U.calling g mk a)) (hXU : ∀ U : State, U.heap = H → s.WarmedH U.vm → X U)
    (isC : List Nat) (hC : isC.map (fun i => ws[i]?) = wc.map some) (hCn : va_nd isC = true)
    (hcz : rm.cells = mc) (hsz : rm.slots = ms) (hrf : rm.frames + 1 ≤ R.frames ∧ 8 + (maxL + 11) + rm.locals ≤ R.locals) (hls : ls.size = nL) (hst : st = As.reverse ++ rest) (hAn : As.length = n) (hre : (rest.map fun v => v.category).sum ≤ 8)
    (hdg : decode cc pc = .ok (.invokestatic idx, 3)) (hcs : cells + mc ≤ R.cells ∧ slots + ms ≤ R.slots) :
    va_Run p l e R s m args below meth c H locs cells slots mc ms (F0 m pc ls st) rest (Qc As.toArray) (va_A wc H.size) := by
  obtain ⟨⟨hx, hb, hml, hown, htU⟩, hK, hX, hY, hA⟩ := Cx
  have hPc := hP.sub (ws' := wc) isC (sw_fm hC)
  have hDc := hD.sub (ws' := wc) isC hCn hC
  have hFc := va_free hD hS hA isC hC
  obtain ⟨m1, m3, m4, m5⟩ := mb
  have hp := sw_pre (av := As) (Z := Z) hPc hK hDc hX hY hS hFc
  refine va_runS (As := As) (rest := rest) ⟨hx, hb, hml, hown, htU⟩ hM (va_cwS n htU (sw_S hl m1 m3 m4) rfl hcz hsz m5 hrf) ⟨?_, fun U hU hW => ⟨(hp U hU hW).1, (hp U hU hW).2, hXU U hU hW⟩⟩ rfl hAn hls hst (lv_room hre) hdg hcs
  intro a U g mk q
  obtain ⟨q0, q1, q2⟩ := q
  exact ⟨q0, (sw_blind (av := As) a U g mk ⟨q0, q1⟩).2, hbl a U g mk q2⟩
end SX
/-- the script's value at a place, as the law reads it -/
def cellv (L : Nat) (xs : Nat → Int32) (j : Nat) : Int32 := if j < L then xs j else 37 * nI j
def sx_X (b L : Nat) (xs : Nat → Int32) (U : State) : Prop := va_X b L xs U U.heap ∧ b < U.heap.size
theorem sx_bl {b L : Nat} {xs : Nat → Int32} : ∀ (a : Array Value) (U : State) (g : JFrame) (mk : MethodId), sx_X b L xs U → sx_X b L xs (U.calling g mk a) := fun a U g mk h => ⟨va_X.moved (u := U) (U := U.calling g mk a) (Vm.Alike.refl U.vm) h.1, h.2⟩
theorem ms_L_cell : sw_MS yL_cell cL_cell 2 (Option.some Jvm.ClassFile.FieldType.int) 2 := ⟨st_L_cell, ini_L, co_L_cell, by decide +kernel⟩
theorem ms_L_say : sw_MS yL_say cL_say 4 (Option.none : Option Jvm.ClassFile.FieldType) 3 := ⟨st_L_say, ini_L, co_L_say, by decide +kernel⟩
theorem ms_L_alike : sw_MS yL_alike cL_alike 3 (Option.some Jvm.ClassFile.FieldType.boolean) 2 := ⟨st_L_alike, ini_L, co_L_alike, by decide +kernel⟩
theorem ms_L_all : sw_MS yL_all cL_all 5 (Option.some (Jvm.ClassFile.FieldType.array Jvm.ClassFile.FieldType.int)) 1 := ⟨st_L_all, ini_L, co_L_all, by decide +kernel⟩
abbrev RM_L_cell : Room := ({ frames := 0, cells := 0, slots := 0, locals := 0 } : Room)
set_option maxHeartbeats 4000000 in
set_option maxRecDepth 100000 in
theorem c_L_cell (l : Launch) (G : va_G) (ca Z : Nat → Nat) (b L j : Nat) (xs : Nat → Int32) (sz : Nat) (hL : L ≤ 4096) (hj : j ≤ 4096) : Met l yL_cell (.code yL_cell cL_cell 2 (Option.some Jvm.ClassFile.FieldType.int) :: sw_U) RM_L_cell (va_Pc [.ref b, .int (nI j)] (sx_Pre G ca Z [] sz (sx_X b L xs))) ((fun A => va_Qi (fun r (u : Unit) => r = cellv L xs j) (sw_Post G A (fun (u : Unit) => [])) A) (va_A [] sz)) 0 0 (va_A [] sz) := by
  refine sx_ofW (Qc := fun A => va_Qi (fun r (u : Unit) => r = cellv L xs j) (sw_Post G A (fun (u : Unit) => [])) A) (by decide +kernel) [(0, .ref b), (1, .int (nI j))] rfl (Nat.le_of_ble_eq_true rfl) ?_
  intro p e s m9 args below meth c ls A hx hb hr hml hown htU hlocks hP hK hD hX hY hS hA hXs hAe hl
  have hbA : ¬ A b := by
    subst hAe
    rintro (⟨k9, e9, h9⟩ | h9)
    · cases h9
    · have := hXs.2
      omega
  refine lv_iload_n hx hb dL_cell_0 rfl (lv_at hl 1 rfl) ?_
  refine lv_aload_n hx hb dL_cell_1 rfl (lv_at hl 0 rfl) ?_
  refine va_slen hx hb hXs.1 hXs.2 hbA hS dL_cell_2 ?_
  refine lv_icmp_ge (tgt := 12) hx hb dL_cell_3 (by decide) (fun c3 => ?_) (fun c3 => ?_)
  · have hq : ¬ j < L := fun q => absurd c3 (nI_ge q (by omega))
    refine lv_bipush (v := 37) hx hb dL_cell_12 (by decide) ?_
    refine lv_iload_n hx hb dL_cell_14 rfl (lv_at hl 1 rfl) ?_
    refine lv_imul hx hb dL_cell_15 ?_
    exact sw_ri hx hb hr hlocks hS () (by unfold cellv; rw [if_neg hq]) hP hD dL_cell_16
  · have hq : j < L := Nat.lt_of_not_le fun q => c3 (nI_le q (by omega))
    refine lv_aload_n hx hb dL_cell_6 rfl (lv_at hl 0 rfl) ?_
    refine lv_iload_n hx hb dL_cell_7 rfl (lv_at hl 1 rfl) ?_
    refine va_sld hx hb hXs.1 hXs.2 hbA hS (nI_in hq (by omega)) dL_cell_8 ?_
    rw [nI_clamp (by omega)]
    refine lv_goto (tgt := 16) hx hb dL_cell_9 (by decide) ?_
    exact sw_ri hx hb hr hlocks hS () (by unfold cellv; rw [if_pos hq]) hP hD dL_cell_16
abbrev RM_L_alike : Room := ({ frames := 0, cells := 0, slots := 0, locals := 0 } : Room)
set_option maxHeartbeats 4000000 in
set_option maxRecDepth 100000 in
theorem c_L_alike (l : Launch) (G : va_G) (ca Z : Nat → Nat) (x y n : Nat) (f g : Nat → Int32) (sz : Nat) (hfg : ∀ j, j < n → f j = g j) (hn : n ≤ 4096) : Met l yL_alike (.code yL_alike cL_alike 3 (Option.some Jvm.ClassFile.FieldType.boolean) :: sw_U) RM_L_alike (va_Pc [.ref x, .ref y] (sw_Pre G ca Z ([(x, .inl (ca 0, n, .inl f)), (y, .inl (ca 0, n, .inl g))]) sz)) ((fun A => va_Qi (fun r (u : Unit) => r = 1) (sw_Post G A (fun (u : Unit) => [(x, .inl (ca 0, n, .inl f)), (y, .inl (ca 0, n, .inl g))])) A) (va_A ([(x, .inl (ca 0, n, .inl f)), (y, .inl (ca 0, n, .inl g))]) sz)) 0 0 (va_A ([(x, .inl (ca 0, n, .inl f)), (y, .inl (ca 0, n, .inl g))]) sz) := by
  refine sw_ofW (Qc := fun A => va_Qi (fun r (u : Unit) => r = 1) (sw_Post G A (fun (u : Unit) => [(x, .inl (ca 0, n, .inl f)), (y, .inl (ca 0, n, .inl g))])) A) (by decide +kernel) [(0, .ref x), (1, .ref y)] rfl (Nat.le_of_ble_eq_true rfl) ?_
  intro p e s m9 args below meth c ls A hx hb hr hml hown htU hlocks hin hP hK hD hX hY hS hA hl
  have hown : s.vm.findClass RL = some m9.cls := hown
  have Cx : sw_Cx p s m9 args c cL_alike 3 RL G ca Z A := ⟨⟨hx, hb, hml, hown, htU⟩, hK, hX, hY, hA⟩
  have hP : va_P G vwCl ([(x, .inl (ca 0, n, .inl f)), (y, .inl (ca 0, n, .inl g))]) s.heap := hP
  have hD : va_D A ([(x, .inl (ca 0, n, .inl f)), (y, .inl (ca 0, n, .inl g))]) := hD
  refine lv_aload_n hx hb dL_alike_0 rfl (lv_at hl 0 rfl) ?_
  refine va_alen (v := nI n) hx hb hK hP 0 0 rfl rfl rfl dL_alike_1 ?_
  refine lv_aload_n hx hb dL_alike_2 rfl (lv_at hl 1 rfl) ?_
  refine va_alen (v := nI n) hx hb hK hP 1 0 rfl rfl rfl dL_alike_3 ?_
  refine lv_icmp_eq (tgt := 9) hx hb dL_alike_4 (by decide) (fun _ => ?_) (fun c9 => absurd rfl c9)
  refine lv_iconst (v := 0) hx hb dL_alike_9 (by decide) ?_
  refine lv_istore_n (lv' := [(2, .int 0), (0, .ref x), (1, .ref y)]) hx hb dL_alike_10 rfl hl (by decide) rfl (fun ls hl => ?_)
  have loop : ∀ (r i : Nat) (ls : Array Slot), i + r = n → lv_has ls 3 [(2, .int (nI i)), (0, .ref x), (1, .ref y)] → W p l e RM_L_alike s m9 args below meth c s.heap [] 0 0 (MQ below ((fun A => va_Qi (fun r (u : Unit) => r = 1) (sw_Post G A (fun (u : Unit) => [(x, .inl (ca 0, n, .inl f)), (y, .inl (ca 0, n, .inl g))])) A) A) args s 0 0 A) (F0 m9 11 ls []) := by
    intro r
    induction r with
    | zero =>
      intro i ls hi hl
      refine lv_iload_n hx hb dL_alike_11 rfl (lv_at hl 0 rfl) ?_
      refine lv_aload_n hx hb dL_alike_12 rfl (lv_at hl 1 rfl) ?_
      refine va_alen (v := nI n) hx hb hK hP 0 0 rfl rfl rfl dL_alike_13 ?_
      refine lv_icmp_ge (tgt := 34) hx hb dL_alike_14 (by decide) (fun _ => ?_) (fun c9 => absurd (nI_le (by omega) (by omega)) c9)
      refine lv_iconst (v := 1) hx hb dL_alike_34 (by decide) ?_
      exact sw_rz hx hb hr rfl hlocks hS () rfl hP hD dL_alike_35
    | succ r ih =>
      intro i ls hi hl
      refine lv_iload_n hx hb dL_alike_11 rfl (lv_at hl 0 rfl) ?_
      refine lv_aload_n hx hb dL_alike_12 rfl (lv_at hl 1 rfl) ?_
      refine va_alen (v := nI n) hx hb hK hP 0 0 rfl rfl rfl dL_alike_13 ?_
      refine lv_icmp_ge (tgt := 34) hx hb dL_alike_14 (by decide) (fun c9 => absurd c9 (nI_ge (by omega) (by omega))) (fun _ => ?_)
      refine lv_aload_n hx hb dL_alike_17 rfl (lv_at hl 1 rfl) ?_
      refine lv_iload_n hx hb dL_alike_18 rfl (lv_at hl 0 rfl) ?_
      refine va_iald hx hb hK hP 0 0 rfl rfl (nI_in (by omega) (by omega)) dL_alike_19 ?_
      refine lv_aload_n hx hb dL_alike_20 rfl (lv_at hl 2 rfl) ?_
      refine lv_iload_n hx hb dL_alike_21 rfl (lv_at hl 0 rfl) ?_
      refine va_iald hx hb hK hP 1 0 rfl rfl (nI_in (by omega) (by omega)) dL_alike_22 ?_
      rw [nI_clamp (by omega)]
      refine lv_icmp_eq (tgt := 28) hx hb dL_alike_23 (by decide) (fun _ => ?_) (fun c9 => absurd (hfg i (by omega)) c9)
      refine lv_iinc (v := nI (i + 1)) (lv' := [(2, .int (nI (i + 1))), (0, .ref x), (1, .ref y)]) hx hb dL_alike_28 hl (k := 0) rfl (nI_1 i) (by decide) rfl (fun ls hl => ?_)
      refine lv_goto (tgt := 11) hx hb dL_alike_31 (by decide) ?_
      exact ih (i + 1) ls (by omega) hl
  exact loop n 0 ls (by omega) hl
/-- what say adds, sign by sign -/
def fsay : List Int32 → SrcT → (Nat → Int32) → Option (SrcT × (Nat → Int32))
  | [], s, w => some (s, w)
  | x :: t, s, w => (F_L_add x s w).bind fun r => fsay t r.1 r.2
abbrev SW (ca : Nat → Nat) (q qs qb qw qt v n : Nat) (z0 z1 z2 z3 z4 z5 z6 z7 z8 z9 z10 z11 : Value) (t : List Int32) (SC : SrcT) (WW : Nat → Int32) : va_W := [(q, .inr (7, [z0, z1, z2, z3, z4, z5, z6, .ref qs, z7, z8, z9, z10, z11])), (qs, .inr (6, [.ref qb, .int SC.2.1, .int SC.2.2.1, .int SC.2.2.2.1, .int SC.2.2.2.2.1, .int SC.2.2.2.2.2.1, .int SC.2.2.2.2.2.2])), (qb, .inl (ca 1, 600, .inl SC.1)), (qw, .inl (ca 0, 6, .inl WW)), (qt, .inr (9, [.ref v, .int 0, .int 0, .int 0])), (v, .inl (ca 1, n, .inl (sj_F t)))]
abbrev RM_L_say : Room := ({ frames := 4, cells := 0, slots := 0, locals := 85 } : Room)
set_option maxHeartbeats 4000000 in
set_option maxRecDepth 100000 in
theorem c_L_say (l : Launch) (G : va_G) (ca Z : Nat → Nat) (q qs qb qw qt v n : Nat) (z0 z1 z2 z3 z4 z5 z6 z7 z8 z9 z10 z11 : Value) (sz : Nat) (t : List Int32) (sc : SrcT) (w : Nat → Int32) (res : SrcT × (Nat → Int32)) (hA0 : sj_A t) (htn : t.length = n) (hn : n ≤ 600) (hF : fsay t sc w = some res) : Met l yL_say (.code yL_say cL_say 4 (Option.none : Option Jvm.ClassFile.FieldType) :: sw_U) RM_L_say (va_Pc [.ref q, .ref qw, .ref qt] (sw_Pre G ca Z (SW ca q qs qb qw qt v n z0 z1 z2 z3 z4 z5 z6 z7 z8 z9 z10 z11 t sc w) sz)) ((fun A => va_Qv (fun (u : SrcT × (Nat → Int32)) => res = u) (sw_Post G A (fun (u : SrcT × (Nat → Int32)) => SW ca q qs qb qw qt v n z0 z1 z2 z3 z4 z5 z6 z7 z8 z9 z10 z11 t u.1 u.2)) A) (va_A (SW ca q qs qb qw qt v n z0 z1 z2 z3 z4 z5 z6 z7 z8 z9 z10 z11 t sc w) sz)) 0 0 (va_A (SW ca q qs qb qw qt v n z0 z1 z2 z3 z4 z5 z6 z7 z8 z9 z10 z11 t sc w) sz) := by
  refine sw_ofW (Qc := fun A => va_Qv (fun (u : SrcT × (Nat → Int32)) => res = u) (sw_Post G A (fun (u : SrcT × (Nat → Int32)) => SW ca q qs qb qw qt v n z0 z1 z2 z3 z4 z5 z6 z7 z8 z9 z10 z11 t u.1 u.2)) A) (by decide +kernel) [(0, .ref q), (1, .ref qw), (2, .ref qt)] rfl (Nat.le_of_ble_eq_true rfl) ?_
  intro p e s m9 args below meth c ls A hx hb hr hml hown htU hlocks hin hP hK hD hX hY hS hA hl
  have hown : s.vm.findClass RL = some m9.cls := hown
  have Cx : sw_Cx p s m9 args c cL_say 4 RL G ca Z A := ⟨⟨hx, hb, hml, hown, htU⟩, hK, hX, hY, hA⟩
  have hP : va_P G vwCl (SW ca q qs qb qw qt v n z0 z1 z2 z3 z4 z5 z6 z7 z8 z9 z10 z11 t sc w) s.heap := hP
  have hD : va_D A (SW ca q qs qb qw qt v n z0 z1 z2 z3 z4 z5 z6 z7 z8 z9 z10 z11 t sc w) := hD
  refine lv_iconst (v := 0) hx hb dL_say_0 (by decide) ?_
  refine lv_istore_n (lv' := [(3, .int 0), (0, .ref q), (1, .ref qw), (2, .ref qt)]) hx hb dL_say_1 rfl hl (by decide) rfl (fun ls hl => ?_)
  have loop : ∀ (r i : Nat) (sc : SrcT) (w : Nat → Int32) (ls : Array Slot) (H : Heap) (locs : List Loc), i + r = n → fsay (t.drop i) sc w = some res → lv_has ls 4 [(3, .int (nI i)), (0, .ref q), (1, .ref qw), (2, .ref qt)] → va_P G vwCl (SW ca q qs qb qw qt v n z0 z1 z2 z3 z4 z5 z6 z7 z8 z9 z10 z11 t sc w) H → va_D A (SW ca q qs qb qw qt v n z0 z1 z2 z3 z4 z5 z6 z7 z8 z9 z10 z11 t sc w) → va_S A s.heap H locs → W p l e RM_L_say s m9 args below meth c H locs 0 0 (MQ below ((fun A => va_Qv (fun (u : SrcT × (Nat → Int32)) => res = u) (sw_Post G A (fun (u : SrcT × (Nat → Int32)) => SW ca q qs qb qw qt v n z0 z1 z2 z3 z4 z5 z6 z7 z8 z9 z10 z11 t u.1 u.2)) A) A) args s 0 0 A) (F0 m9 2 ls []) := by
    intro r
    induction r with
    | zero =>
      intro i sc w ls H locs hi hF hl hP hD hS
      refine lv_iload_n hx hb dL_say_2 rfl (lv_at hl 0 rfl) ?_
      refine lv_aload_n hx hb dL_say_3 rfl (lv_at hl 3 rfl) ?_
      refine sw_ci (sw_runV (As := []) (rest := [.int (nI i)]) Cx hP hD hS mv_J0_length_8abf5 ml_L_14 (c_st_length l G ca Z qt v n t H.size) 9 rfl rfl rfl [4, 5] rfl rfl rfl rfl ⟨(Nat.le_of_ble_eq_true rfl), (Nat.le_of_ble_eq_true rfl)⟩ hl.1 rfl rfl (Nat.le_of_ble_eq_true rfl) dL_say_4 ⟨(Nat.le_of_ble_eq_true rfl), (Nat.le_of_ble_eq_true rfl)⟩) hP hD hS hA [4, 5] [0, 1, 2, 3] [0, 1, 2, 3, 4, 5] rfl rfl rfl (by decide) (fun _ => rfl) rfl (fun r _ H locs hw hP hD hS => ?_)
      subst hw
      have hP : va_P G vwCl (SW ca q qs qb qw qt v n z0 z1 z2 z3 z4 z5 z6 z7 z8 z9 z10 z11 t sc w) H := hP
      have hD : va_D A (SW ca q qs qb qw qt v n z0 z1 z2 z3 z4 z5 z6 z7 z8 z9 z10 z11 t sc w) := hD
      refine lv_icmp_ge (tgt := 26) hx hb dL_say_7 (by decide) (fun _ => ?_) (fun c9 => absurd (nI_le (by omega) (by omega)) c9)
      have e9 : res = (sc, w) := by
        rw [List.drop_eq_nil_of_le (by omega)] at hF
        exact (Option.some.inj hF).symm
      exact sw_rv hx hb hr hlocks hS (sc, w) e9 hP hD dL_say_26
    | succ r ih =>
      intro i sc w ls H locs hi hF hl hP hD hS
      refine lv_iload_n hx hb dL_say_2 rfl (lv_at hl 0 rfl) ?_
      refine lv_aload_n hx hb dL_say_3 rfl (lv_at hl 3 rfl) ?_
      refine sw_ci (sw_runV (As := []) (rest := [.int (nI i)]) Cx hP hD hS mv_J0_length_8abf5 ml_L_14 (c_st_length l G ca Z qt v n t H.size) 9 rfl rfl rfl [4, 5] rfl rfl rfl rfl ⟨(Nat.le_of_ble_eq_true rfl), (Nat.le_of_ble_eq_true rfl)⟩ hl.1 rfl rfl (Nat.le_of_ble_eq_true rfl) dL_say_4 ⟨(Nat.le_of_ble_eq_true rfl), (Nat.le_of_ble_eq_true rfl)⟩) hP hD hS hA [4, 5] [0, 1, 2, 3] [0, 1, 2, 3, 4, 5] rfl rfl rfl (by decide) (fun _ => rfl) rfl (fun r _ H locs hw hP hD hS => ?_)
      subst hw
      have hP : va_P G vwCl (SW ca q qs qb qw qt v n z0 z1 z2 z3 z4 z5 z6 z7 z8 z9 z10 z11 t sc w) H := hP
      have hD : va_D A (SW ca q qs qb qw qt v n z0 z1 z2 z3 z4 z5 z6 z7 z8 z9 z10 z11 t sc w) := hD
      refine lv_icmp_ge (tgt := 26) hx hb dL_say_7 (by decide) (fun c9 => absurd c9 (nI_ge (by omega) (by omega))) (fun _ => ?_)
      refine lv_aload_n hx hb dL_say_10 rfl (lv_at hl 1 rfl) ?_
      refine lv_aload_n hx hb dL_say_11 rfl (lv_at hl 2 rfl) ?_
      refine lv_aload_n hx hb dL_say_12 rfl (lv_at hl 3 rfl) ?_
      refine lv_iload_n hx hb dL_say_13 rfl (lv_at hl 0 rfl) ?_
      refine sw_ci (sw_runV (As := [.int (nI i)]) (rest := [.ref qw, .ref q]) Cx hP hD hS mv_J0_charAt_5068e ml_L_20 (c_st_charAt l G ca Z qt v n i t H.size hA0 (by omega) (by omega)) 9 rfl rfl rfl [4, 5] rfl rfl rfl rfl ⟨(Nat.le_of_ble_eq_true rfl), (Nat.le_of_ble_eq_true rfl)⟩ hl.1 rfl rfl (Nat.le_of_ble_eq_true rfl) dL_say_14 ⟨(Nat.le_of_ble_eq_true rfl), (Nat.le_of_ble_eq_true rfl)⟩) hP hD hS hA [4, 5] [0, 1, 2, 3] [0, 1, 2, 3, 4, 5] rfl rfl rfl (by decide) (fun _ => rfl) rfl (fun r _ H locs hw hP hD hS => ?_)
      subst hw
      have hP : va_P G vwCl (SW ca q qs qb qw qt v n z0 z1 z2 z3 z4 z5 z6 z7 z8 z9 z10 z11 t sc w) H := hP
      have hD : va_D A (SW ca q qs qb qw qt v n z0 z1 z2 z3 z4 z5 z6 z7 z8 z9 z10 z11 t sc w) := hD
      have e9 : t.drop i = sj_F t i :: t.drop (i + 1) := by
        rw [List.drop_eq_getElem_cons (by omega)]
        congr 1
        unfold sj_F
        rw [List.getD_eq_getElem?_getD, List.getElem?_eq_getElem (by omega)]
        rfl
      rw [e9] at hF
      obtain ⟨w1, h1, hF⟩ := bd_at (show (F_L_add (sj_F t i) sc w).bind (fun r => fsay (t.drop (i + 1)) r.1 r.2) = some res from hF)
      refine sw_cv (sw_runS (As := [.ref q, .ref qw, .int (sj_F t i)]) (rest := []) Cx hP hD hS ms_L_add ml_L_24 (c_L_add l G ca Z q qs qb qw (z0) (z1) (z2) (z3) (z4) (z5) (z6) (z7) (z8) (z9) (z10) (z11) H.size (sj_F t i) sc w w1 h1) [0, 1, 2, 3] rfl rfl rfl rfl ⟨(Nat.le_of_ble_eq_true rfl), (Nat.le_of_ble_eq_true rfl)⟩ hl.1 rfl rfl (Nat.le_of_ble_eq_true rfl) dL_say_17 ⟨(Nat.le_of_ble_eq_true rfl), (Nat.le_of_ble_eq_true rfl)⟩) hP hD hS hA [0, 1, 2, 3] [4, 5] [2, 3, 4, 5, 0, 1] rfl rfl rfl (by decide) (fun _ => rfl) rfl (fun u H locs hw hP hD hS => ?_)
      subst hw
      have hP : va_P G vwCl (SW ca q qs qb qw qt v n z0 z1 z2 z3 z4 z5 z6 z7 z8 z9 z10 z11 t w1.1 w1.2) H := hP
      have hD : va_D A (SW ca q qs qb qw qt v n z0 z1 z2 z3 z4 z5 z6 z7 z8 z9 z10 z11 t w1.1 w1.2) := hD
      refine lv_iinc (v := nI (i + 1)) (lv' := [(3, .int (nI (i + 1))), (0, .ref q), (1, .ref qw), (2, .ref qt)]) hx hb dL_say_20 hl (k := 0) rfl (nI_1 i) (by decide) rfl (fun ls hl => ?_)
      refine lv_goto (tgt := 2) hx hb dL_say_23 (by decide) ?_
      exact ih (i + 1) w1.1 w1.2 ls H locs (by omega) hF hl hP hD hS
  exact loop n 0 sc w ls s.heap [] (by omega) hF hl hP hD hS
