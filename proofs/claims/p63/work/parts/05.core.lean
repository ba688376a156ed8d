/-! ===== what all walks of this claim share ===== -/
abbrev vwCl : List vw_C := [(RX1, TX1, 3), (RX3, TX3, 7), (RX4, TX4, 4), (RX5, TX5, 4), (RX6, TX6, 2), (RX7, TX7, 6), (RX8, TX8, 7), (RX10, TX10, 13), (RJ4, TJ4, 4), (RJ0, TJ0, 4)]
abbrev sw_tys (ca : Nat → ClassId) : List (ClassId × FieldType) := [(ca 0, .int), (ca 1, .byte), (ca 2, .object RX3), (ca 3, .object RX2)]
def sw_p4 (j : Nat) : Int32 := ([2, 3, 5, 7] : List Int32).getD j 0
def sw_p5 (j : Nat) : Int32 := ([1, 2, 6, 30, 210] : List Int32).getD j 0
def sw_sm (j : Nat) : Int32 := ([1, 2, 5, 6, 7, 4, 8, 9, 3, 0] : List Int32).getD j 0
def sw_nm : List String := ["LAY", "DROP", "ADD", "LIFT", "FIRST", "SWAP", "WHEEL", "FILL", "TIDY"]
def sw_oF : List (String × String × String × List Int32) := [("java/lang/Enum", "ordinal", "I", [0, 1, 2, 3, 4, 5, 6, 7, 9]), (RX2, "numbers", "I", [1, 0, 1, 1, 1, 2, 1, 1, 0]), (RX2, "least", "I", [1, 0, 2, 2, 2, 2, 0, 1, 0]), (RX2, "most", "I", [400, 0, 120, 120, 120, 120, 4, 30, 0])]
/-- the texts: sieve stretch striker, then the law's own -/
def sw_len : List Nat := [5, 7, 7, 6, 8, 8]
def sw_byt : List (List Int32) := [[115, 105, 101, 118, 101], [115, 116, 114, 101, 116, 99, 104], [115, 116, 114, 105, 107, 101, 114], [115, 105, 101, 118, 101, 32], [115, 116, 114, 101, 116, 99, 104, 32], [115, 116, 114, 105, 107, 101, 114, 32]]
def sw_sr : List (String × Nat × String × Nat) := [(RX4, 29, "sieve", 0), (RX4, 80, "stretch", 1), (RX4, 91, "striker", 2), (RL, 148, "sieve ", 3), (RL, 160, "stretch ", 4), (RL, 165, "striker ", 5)]
def sw_dt (j : Nat) : Int32 := Int32.ofNat (48 + j / 10)
def sw_do (j : Nat) : Int32 := Int32.ofNat (48 + j % 10)
def sw_lk : Cond → Bool
  | .fieldLinkNest .. => true
  | .castable .. => true
  | .privateMethod .. => true
  | .declares .. => true
  | _ => false
theorem sw_lk_tab {w : Cond} (h : sw_lk w = true) : w.onTables = true := by
  cases w <;> first | rfl | simp [sw_lk] at h
theorem sw_warmP {x : MethodName} {s U : State} (hW : s.WarmedH U.vm) (hZ : va_Nw (.privateMethod x) s) : va_Nw (.privateMethod x) U := va_tabs rfl (rfl : (s.setVm U.vm).vm = U.vm) (by rw [Cond.privateMethod_setVm hW.alike]; exact hZ)
theorem sw_lk_warm {w : Cond} (h : sw_lk w = true) {s U : State} (hW : s.WarmedH U.vm) (hZ : va_Nw w s) : va_Nw w U := by
  cases w <;> first | exact va_Nw.warmF hW hZ | exact va_Nw.warmC hW hZ | exact va_Nw.warmD hW hZ | exact sw_warmP hW hZ | simp [sw_lk] at h
def sw_TB (U : State) : Prop := ∀ w ∈ lw_tbl, sw_lk w = true → va_Nw w U
theorem sw_TB.warm {s U : State} (hW : s.WarmedH U.vm) (h : sw_TB s) : sw_TB U := fun w hw hk => sw_lk_warm hk hW (h w hw hk)
/-- what the statics hold, at addresses Z -/
def sw_SX (Z : Nat → Nat) (A : Nat → Prop) (U : State) (H : Heap) : Prop :=
  (va_Z RX9 "PRIMES" "[I" (.ref (Z 0)) A U H ∧ va_T .int (Z 0) 4 (fun j => .int (sw_p4 j)) A U H) ∧
  (va_Z RX9 "PRODUCTS" "[I" (.ref (Z 1)) A U H ∧ va_T .int (Z 1) 5 (fun j => .int (sw_p5 j)) A U H) ∧
  (va_Z RX0 "$SwitchMap$StrikeWheels$Order" "[I" (.ref (Z 2)) A U H ∧ va_T .int (Z 2) 10 (fun j => .int (sw_sm j)) A U H) ∧
  (va_Z RJ6 "DigitTens" "[B" (.ref (Z 3)) A U H ∧ va_T .byte (Z 3) 100 (fun j => .int (sw_dt j)) A U H) ∧
  va_En RX2 "LStrikeWheels$Order;" sw_nm sw_oF (fun k => Z (10 + k)) A U H ∧
  (va_Z RJ6 "DigitOnes" "[B" (.ref (Z 4)) A U H ∧ va_T .byte (Z 4) 100 (fun j => .int (sw_do j)) A U H) ∧
  vk_S 6 sw_len sw_byt (fun k => Z (20 + k)) (fun k => Z (40 + k)) A U H ∧
  va_Z RJ0 "COMPACT_STRINGS" "Z" (.int 1) A U H ∧
  va_Zq "jdk/internal/util/Preconditions" "SIOOBE_FORMATTER" "Ljava/util/function/BiFunction;" A U H
def sw_SY (Z : Nat → Nat) (U : State) : Prop :=
  (∀ q ∈ sw_sr, vk_R q.1 q.2.1 q.2.2.1 (Z (20 + q.2.2.2)) U) ∧ va_AO RX3 U ∧ va_AO RX2 U ∧ sw_TB U
theorem sw_SX.moved {Z : Nat → Nat} {A : Nat → Prop} {u U : State} {H : Heap} (hvm : u.vm.Alike U.vm) (h : sw_SX Z A u H) : sw_SX Z A U H := by
  obtain ⟨⟨a1, a2⟩, ⟨b1, b2⟩, ⟨c1, c2⟩, ⟨d1, d2⟩, e1, ⟨f1, f2⟩, g1, i1, j1⟩ := h
  exact ⟨⟨a1.moved hvm, a2.moved hvm⟩, ⟨b1.moved hvm, b2.moved hvm⟩, ⟨c1.moved hvm, c2.moved hvm⟩, ⟨d1.moved hvm, d2.moved hvm⟩, e1.moved hvm, ⟨f1.moved hvm, f2.moved hvm⟩, g1.moved hvm, i1.moved hvm, j1.moved hvm⟩
theorem sw_SX.kept {Z : Nat → Nat} {A : Nat → Prop} {U : State} {H H1 : Heap} (h : sw_SX Z A U H) (hq : ∀ a : Nat, a < H.size → ¬ A a → H1[a]? = H[a]?) : sw_SX Z A U H1 := by
  obtain ⟨⟨a1, a2⟩, ⟨b1, b2⟩, ⟨c1, c2⟩, ⟨d1, d2⟩, e1, ⟨f1, f2⟩, g1, i1, j1⟩ := h
  exact ⟨⟨a1.kept hq, a2.kept hq⟩, ⟨b1.kept hq, b2.kept hq⟩, ⟨c1.kept hq, c2.kept hq⟩, ⟨d1.kept hq, d2.kept hq⟩, e1.kept hq, ⟨f1.kept hq, f2.kept hq⟩, g1.kept hq, i1.kept hq, j1.kept hq⟩
theorem sw_SX.narrow {Z : Nat → Nat} {A B : Nat → Prop} {U : State} {H : Heap} (h : sw_SX Z A U H) (hq : ∀ q, B q → A q) : sw_SX Z B U H := by
  obtain ⟨⟨a1, a2⟩, ⟨b1, b2⟩, ⟨c1, c2⟩, ⟨d1, d2⟩, e1, ⟨f1, f2⟩, g1, i1, j1⟩ := h
  exact ⟨⟨a1.narrow hq, a2.narrow hq⟩, ⟨b1.narrow hq, b2.narrow hq⟩, ⟨c1.narrow hq, c2.narrow hq⟩, ⟨d1.narrow hq, d2.narrow hq⟩, e1.narrow hq, ⟨f1.narrow hq, f2.narrow hq⟩, g1.narrow hq, i1.narrow hq, j1.narrow hq⟩
theorem sw_SY.warm {Z : Nat → Nat} {s U : State} (hW : s.WarmedH U.vm) (h : sw_SY Z s) : sw_SY Z U :=
  ⟨fun q hq => (h.1 q hq).warm hW, h.2.1.moved hW.alike, h.2.2.1.moved hW.alike, h.2.2.2.warm hW⟩
theorem sw_SY.same {Z : Nat → Nat} {u U : State} (hv : u.vm = U.vm) (h : sw_SY Z u) : sw_SY Z U := by
  have ha : u.vm.Alike U.vm := by rw [hv]; exact Vm.Alike.refl _
  exact ⟨fun q hq => (h.1 q hq).same hv.symm, h.2.1.moved ha, h.2.2.1.moved ha, fun w hw hk => va_Nw.same (sw_lk_tab hk) hv (h.2.2.2 w hw hk)⟩
/-- a method's start: its world ws, alone in the room from sz on -/
def sw_Pre (G : va_G) (ca : Nat → ClassId) (Z : Nat → Nat) (ws : va_W) (sz : Nat) (U : State) : Prop :=
  U.heap.size = sz ∧ va_P G vwCl ws U.heap ∧ va_K G vwCl (sw_tys ca) U ∧ va_D (fun _ => True) ws ∧ sw_SX Z (va_A ws sz) U U.heap ∧ sw_SY Z U
/-- a method's end: its cells -/
def sw_Post {S : Type} (G : va_G) (A : Nat → Prop) (cs : S → va_W) (u : S) (t : State) : Prop := va_P G vwCl (cs u) t.heap ∧ va_D A (cs u)
theorem sw_blind {av : List Value} {G : va_G} {ca : Nat → ClassId} {Z : Nat → Nat} {ws : va_W} {sz : Nat} : FrameBlind (va_Pc av (sw_Pre G ca Z ws sz)) := fun a U g mk q => by
  obtain ⟨q0, q1, qP, qK, qD, qX, qY⟩ := q
  exact ⟨q0, q1, qP, va_K.moved (u := U) (U := U.calling g mk a) (Vm.Alike.refl U.vm) qK, qD, sw_SX.moved (u := U) (U := U.calling g mk a) (Vm.Alike.refl U.vm) qX, sw_SY.same (u := U) (U := U.calling g mk a) rfl qY⟩
theorem sw_pre {av : List Value} {G : va_G} {ca : Nat → ClassId} {Z : Nat → Nat} {wc : va_W} {A : Nat → Prop} {s : State} {H : Heap} {locs : List Loc} (hP : va_P G vwCl wc H) (hK : va_K G vwCl (sw_tys ca) s) (hD : va_D A wc) (hX : sw_SX Z A s s.heap) (hY : sw_SY Z s) (hS : va_S A s.heap H locs) (hF : ∀ q, va_A wc H.size q → A q) :
    ∀ U : State, U.heap = H → s.WarmedH U.vm → va_Pc av (sw_Pre G ca Z wc H.size) av.toArray U := fun U hU hW => by
  refine ⟨rfl, by rw [hU], by rw [hU]; exact hP, va_K.moved hW.alike hK, hD.weaken (fun _ _ _ _ => trivial), ?_, hY.warm hW⟩
  rw [hU]
  exact ((hX.kept (fun a h1 h2 => hS.2.1 a h1 h2)).narrow hF).moved hW.alike
theorem sw_hA {ws : va_W} {sz : Nat} : ∀ q : Nat, sz ≤ q → va_A ws sz q := fun _ h => Or.inr h
/-- a contract, from the walk of its body -/
theorem sw_ofW {l : Launch} {y : MethodName} {cc : ByteArray} {maxL : Nat} {ret : Option FieldType} {rm : Room} {av : List Value} {G : va_G} {ca : Nat → ClassId} {Z : Nat → Nat} {ws : va_W} {sz : Nat} {Qc : (Nat → Prop) → Array Value → State → Outcome → State → Prop} {mc ms : Nat}
    (hy : plainName y.cls = true) (lv : List (Nat × Value)) (hlv : lv_args 0 av = lv) (hn : (lg_sl av).length ≤ maxL)
    (body : ∀ (p : Program) (e : Env) (s : State) (m : MethodId) (args : Array Value) (below : List Frame) (meth : Method) (c : Code) (ls : Array Slot) (A : Nat → Prop), p.tables.exec = Jvm.exec → c.code = cc → meth.sig.returnType = ret → c.maxLocals = maxL → s.vm.findClass y.cls = some m.cls → (∀ w ∈ sw_U, w.before args s = true) → meth.locks = false → meth.name = y.name → va_P G vwCl ws s.heap → va_K G vwCl (sw_tys ca) s → va_D A ws → sw_SX Z A s s.heap → sw_SY Z s → va_S A s.heap s.heap [] → (∀ q : Nat, s.heap.size ≤ q → A q) → lv_has ls maxL lv →
      W p l e rm s m args below meth c s.heap [] 0 0 (MQ below (Qc A) args s mc ms A) (F0 m 0 ls [])) :
    Met l y (.code y cc maxL ret :: sw_U) rm (va_Pc av (sw_Pre G ca Z ws sz)) (Qc (va_A ws sz)) mc ms (va_A ws sz) := by
  refine Met.ofW (cc := cc) (maxL := maxL) (ret := ret) hy rfl ?_
  intro p e s m args below meth c s₁ B hml hv
  obtain ⟨rfl, hsz, hP, hK, hD0, hX, hY⟩ := hv
  subst hsz
  have hts := atoms_spec (ws := .code y cc maxL ret :: sw_U) B.pre
  have hl := lv_entry av (n := maxL) hn
  rw [lg_entry_eq]
  rw [hlv] at hl
  exact body p e s m av.toArray below meth c _ (va_A ws s.heap.size) B.exec B.bytes B.returns hml (findClass_of_methodNamed B.named) (fun w hw => hts w (List.mem_cons_of_mem _ hw)) B.notSynchronized (name_of_methodNamed B.named B.method).1 hP hK hD0.self hX hY va_S.rf sw_hA hl
theorem sw_fm {α β : Type} {f : α → Option β} : ∀ {is : List α} {l : List β}, is.map f = l.map some → is.filterMap f = l
  | [], [], _ => rfl
  | [], _ :: _, h => by simp at h
  | _ :: _, [], h => by simp at h
  | a :: t, b :: l, h => by
    simp only [List.map_cons, List.cons.injEq] at h
    rw [List.filterMap_cons_some h.1, sw_fm h.2]
/-- a method by the tables: found by its receiver's class, or static -/
def sw_MV (y : MethodName) (C : String) (bytes : ByteArray) (maxL : Nat) (ret : Option FieldType) (n : Nat) : Prop :=
  Cond.instanceMethod y ∈ sw_U ∧ Cond.selects C y y ∈ sw_U ∧ Cond.initialized C ∈ sw_U ∧ Cond.code y bytes maxL ret ∈ sw_U ∧ (y.cls = C ∧ y.cls ≠ "java/lang/invoke/MethodHandle" ∧ y.cls ≠ "java/lang/invoke/VarHandle" ∧ (parseMethodDescriptor y.desc).map (fun d => d.parameters.length) = some n)
def sw_MS (y : MethodName) (bytes : ByteArray) (maxL : Nat) (ret : Option FieldType) (n : Nat) : Prop :=
  Cond.static y ∈ sw_U ∧ Cond.initialized y.cls ∈ sw_U ∧ Cond.code y bytes maxL ret ∈ sw_U ∧ (y.cls ≠ "java/lang/invoke/MethodHandle" ∧ y.cls ≠ "java/lang/invoke/VarHandle" ∧ (parseMethodDescriptor y.desc).map (fun d => d.parameters.length) = some n)
theorem sw_S {own : String} {idx : Nat} {y : MethodName} {w : Cond} (h1 : Cond.methodLink own idx y ∈ sw_U) (h2 : Cond.static y ∈ sw_U) (h3 : Cond.initialized y.cls ∈ sw_U) (h5 : w ∈ sw_U) : GoodIn sw_U (va_wsS own idx y (w :: sw_U)) :=
  sw_G (sw_c h1 (sw_c h2 (sw_c h3 (sw_c h5 sw_self))))
/-- what every call needs of its caller -/
def sw_Cx (p : Program) (s : State) (m : MethodId) (args : Array Value) (c : Code) (cc : ByteArray) (nL : Nat) (own : String) (G : va_G) (ca Z : Nat → Nat) (A : Nat → Prop) : Prop :=
  (p.tables.exec = Jvm.exec ∧ c.code = cc ∧ c.maxLocals = nL ∧ s.vm.findClass own = some m.cls ∧ ∀ w ∈ sw_U, w.before args s = true) ∧ va_K G vwCl (sw_tys ca) s ∧ sw_SX Z A s s.heap ∧ sw_SY Z s ∧ ∀ q : Nat, s.heap.size ≤ q → A q
section SWC
variable {p : Program} {l : Launch} {e : Env} {R : Room} {s : State} {m : MethodId} {args : Array Value} {below : List Frame} {meth : Method} {c : Code} {H : Heap} {locs : List Loc} {cells slots : Nat} {Q : State → Prop}
  {cc bytes : ByteArray} {nL maxL n idx b pc mc ms : Nat} {own C : String} {G : va_G} {ca Z : Nat → Nat} {A : Nat → Prop} {ws wc : va_W} {y : MethodName} {ret : Option FieldType} {rm : Room} {As rest st : List Value} {S : Type} {cs : S → va_W} {ls : Array Slot} {Qc : Array Value → State → Outcome → State → Prop}
theorem sw_runV (Cx : sw_Cx p s m args c cc nL own G ca Z A) (hP : va_P G vwCl ws H) (hD : va_D A ws) (hS : va_S A s.heap H locs) (mb : sw_MV y C bytes maxL ret n) (hl : Cond.methodLink own idx y ∈ sw_U)
    (hM : Met l y (.code y bytes maxL ret :: sw_U) rm (va_Pc (.ref b :: As) (sw_Pre G ca Z wc H.size)) Qc mc ms (va_A wc H.size))
    (ci : Nat) {fs : List Value} {q : vw_C} (h0 : wc[0]? = some (b, .inr (ci, fs))) (hci : vwCl[ci]? = some q) (hcn : q.1 = C) (isC : List Nat) (hC : isC.map (fun i => ws[i]?) = wc.map some) (hCn : va_nd isC = true)
    (hcz : rm.cells = mc) (hsz : rm.slots = ms) (hrf : rm.frames + 1 ≤ R.frames ∧ 8 + (maxL + 11) + rm.locals ≤ R.locals) (hls : ls.size = nL) (hst : st = As.reverse ++ .ref b :: rest) (hAn : As.length = n) (hre : (rest.map fun v => v.category).sum ≤ 8)
    (hdg : decode cc pc = .ok (.invokevirtual idx, 3)) (hcs : cells + mc ≤ R.cells ∧ slots + ms ≤ R.slots) :
    va_Run p l e R s m args below meth c H locs cells slots mc ms (F0 m pc ls st) rest (Qc (Value.ref b :: As).toArray) (va_A wc H.size) := by
  obtain ⟨⟨hx, hb, hml, hown, htU⟩, hK, hX, hY, hA⟩ := Cx
  have hPc := hP.sub (ws' := wc) isC (sw_fm hC)
  have hDc := hD.sub (ws' := wc) isC hCn hC
  have hFc := va_free hD hS hA isC hC
  obtain ⟨m1, m2, m3, m4, m5⟩ := mb
  have hrv := va_recv hK hPc hci h0
  rw [hcn] at hrv
  exact va_runV (As := As) (rest := rest) ⟨hx, hb, hml, hown, htU⟩ hM (cwV n htU (sw_V hl m1 m2 m3 m4) rfl hcz hsz m5 hrf) ⟨sw_blind, hrv, sw_pre hPc hK hDc hX hY hS hFc⟩ rfl hAn hls hst (lv_room hre) hdg hcs
theorem sw_runS (Cx : sw_Cx p s m args c cc nL own G ca Z A) (hP : va_P G vwCl ws H) (hD : va_D A ws) (hS : va_S A s.heap H locs) (mb : sw_MS y bytes maxL ret n) (hl : Cond.methodLink own idx y ∈ sw_U)
    (hM : Met l y (.code y bytes maxL ret :: sw_U) rm (va_Pc As (sw_Pre G ca Z wc H.size)) Qc mc ms (va_A wc H.size))
    (isC : List Nat) (hC : isC.map (fun i => ws[i]?) = wc.map some) (hCn : va_nd isC = true)
    (hcz : rm.cells = mc) (hsz : rm.slots = ms) (hrf : rm.frames + 1 ≤ R.frames ∧ 8 + (maxL + 11) + rm.locals ≤ R.locals) (hls : ls.size = nL) (hst : st = As.reverse ++ rest) (hAn : As.length = n) (hre : (rest.map fun v => v.category).sum ≤ 8)
    (hdg : decode cc pc = .ok (.invokestatic idx, 3)) (hcs : cells + mc ≤ R.cells ∧ slots + ms ≤ R.slots) :
    va_Run p l e R s m args below meth c H locs cells slots mc ms (F0 m pc ls st) rest (Qc As.toArray) (va_A wc H.size) := by
  obtain ⟨⟨hx, hb, hml, hown, htU⟩, hK, hX, hY, hA⟩ := Cx
  have hPc := hP.sub (ws' := wc) isC (sw_fm hC)
  have hDc := hD.sub (ws' := wc) isC hCn hC
  have hFc := va_free hD hS hA isC hC
  obtain ⟨m1, m3, m4, m5⟩ := mb
  exact va_runS (As := As) (rest := rest) ⟨hx, hb, hml, hown, htU⟩ hM (va_cwS n htU (sw_S hl m1 m3 m4) rfl hcz hsz m5 hrf) ⟨sw_blind, sw_pre hPc hK hDc hX hY hS hFc⟩ rfl hAn hls hst (lv_room hre) hdg hcs
/-- behind a call: the callee's cells put back among the others, in the order that is asked for -/
theorem sw_back {u : S} {H1 : Heap} {t : State} (hP : va_P G vwCl ws H) (hD : va_D A ws) (hS : va_S A s.heap H locs) (hA : ∀ q : Nat, s.heap.size ≤ q → A q) (isC isR pm : List Nat) (hC : isC.map (fun i => ws[i]?) = wc.map some) (hR : isR.map (fun i => ws[i]?) = (isR.filterMap (fun i => ws[i]?)).map some) (hn : va_nd isR = true) (hdis : ∀ i ∈ isR, i ∉ isC)
    (hpm : ∀ u, pm.map (fun i => ((isR.filterMap (fun i => ws[i]?)) ++ cs u)[i]?) = (pm.filterMap (fun i => ((isR.filterMap (fun i => ws[i]?)) ++ cs u)[i]?)).map some) (hpn : va_nd pm = true) (ht : t.heap = H1) (hB : sw_Post G (va_A wc H.size) cs u t) (hk1 : ∀ q : Nat, q < H.size → ¬ va_A wc H.size q → H1[q]? = H[q]?) : va_P G vwCl (pm.filterMap (fun i => ((isR.filterMap (fun i => ws[i]?)) ++ cs u)[i]?)) H1 ∧ va_D A (pm.filterMap (fun i => ((isR.filterMap (fun i => ws[i]?)) ++ cs u)[i]?)) := by
  obtain ⟨hP1, hD1⟩ := hB
  rw [ht] at hP1
  obtain ⟨hP2, hD2⟩ := va_join (wr := (isR.filterMap (fun i => ws[i]?))) (w1 := cs u) hP hD isC isR hC hR hn hdis hk1 (va_free hD hS hA isC hC) hP1 hD1
  exact ⟨hP2.sub pm (sw_fm (hpm u)), hD2.sub pm hpn (hpm u)⟩
end SWC
section SWD
variable {p : Program} {l : Launch} {e : Env} {R : Room} {s : State} {m : MethodId} {args : Array Value} {below : List Frame} {meth : Method} {c : Code} {H : Heap} {locs : List Loc} {cells slots : Nat} {Q : State → Prop}
  {mc ms pc : Nat} {G : va_G} {A : Nat → Prop} {ws wc : va_W} {rest st : List Value} {S : Type} {cs : S → va_W} {ls : Array Slot} {a : Array Value}
theorem sw_ci {post : Int32 → S → Prop} (hr : va_Run p l e R s m args below meth c H locs cells slots mc ms (F0 m pc ls st) rest (va_Qi post (sw_Post G (va_A wc H.size) cs) (va_A wc H.size) a) (va_A wc H.size))
    (hP : va_P G vwCl ws H) (hD : va_D A ws) (hS : va_S A s.heap H locs) (hA : ∀ q : Nat, s.heap.size ≤ q → A q) (isC isR pm : List Nat) (hC : isC.map (fun i => ws[i]?) = wc.map some) (hR : isR.map (fun i => ws[i]?) = (isR.filterMap (fun i => ws[i]?)).map some) (hn : va_nd isR = true) (hdis : ∀ i ∈ isR, i ∉ isC)
    (hpm : ∀ u, pm.map (fun i => ((isR.filterMap (fun i => ws[i]?)) ++ cs u)[i]?) = (pm.filterMap (fun i => ((isR.filterMap (fun i => ws[i]?)) ++ cs u)[i]?)).map some) (hpn : va_nd pm = true)
    (kk : ∀ (r : Int32) (u : S) (H1 : Heap) (locs1 : List Loc), post r u → va_P G vwCl (pm.filterMap (fun i => ((isR.filterMap (fun i => ws[i]?)) ++ cs u)[i]?)) H1 → va_D A (pm.filterMap (fun i => ((isR.filterMap (fun i => ws[i]?)) ++ cs u)[i]?)) → va_S A s.heap H1 locs1 → W p l e R s m args below meth c H1 locs1 (cells + mc) (slots + ms) Q (F0 m (pc + 3) ls (.int r :: rest))) : W p l e R s m args below meth c H locs cells slots Q (F0 m pc ls st) := by
  have hFc := va_free hD hS hA isC hC
  refine va_calli hr hS (fun q _ h => hFc q h) hFc (fun r u t H1 locs1 ht hvm hw hB hz1 hk1 hS1 => ?_)
  obtain ⟨hP2, hD2⟩ := sw_back hP hD hS hA isC isR pm hC hR hn hdis hpm hpn ht hB hk1
  exact kk r u H1 locs1 hw hP2 hD2 hS1
theorem sw_cv {post : S → Prop} (hr : va_Run p l e R s m args below meth c H locs cells slots mc ms (F0 m pc ls st) rest (va_Qv post (sw_Post G (va_A wc H.size) cs) (va_A wc H.size) a) (va_A wc H.size))
    (hP : va_P G vwCl ws H) (hD : va_D A ws) (hS : va_S A s.heap H locs) (hA : ∀ q : Nat, s.heap.size ≤ q → A q) (isC isR pm : List Nat) (hC : isC.map (fun i => ws[i]?) = wc.map some) (hR : isR.map (fun i => ws[i]?) = (isR.filterMap (fun i => ws[i]?)).map some) (hn : va_nd isR = true) (hdis : ∀ i ∈ isR, i ∉ isC)
    (hpm : ∀ u, pm.map (fun i => ((isR.filterMap (fun i => ws[i]?)) ++ cs u)[i]?) = (pm.filterMap (fun i => ((isR.filterMap (fun i => ws[i]?)) ++ cs u)[i]?)).map some) (hpn : va_nd pm = true)
    (kk : ∀ (u : S) (H1 : Heap) (locs1 : List Loc), post u → va_P G vwCl (pm.filterMap (fun i => ((isR.filterMap (fun i => ws[i]?)) ++ cs u)[i]?)) H1 → va_D A (pm.filterMap (fun i => ((isR.filterMap (fun i => ws[i]?)) ++ cs u)[i]?)) → va_S A s.heap H1 locs1 → W p l e R s m args below meth c H1 locs1 (cells + mc) (slots + ms) Q (F0 m (pc + 3) ls (rest))) : W p l e R s m args below meth c H locs cells slots Q (F0 m pc ls st) := by
  have hFc := va_free hD hS hA isC hC
  refine va_callv hr hS (fun q _ h => hFc q h) hFc (fun u t H1 locs1 ht hvm hw hB hz1 hk1 hS1 => ?_)
  obtain ⟨hP2, hD2⟩ := sw_back hP hD hS hA isC isR pm hC hR hn hdis hpm hpn ht hB hk1
  exact kk u H1 locs1 hw hP2 hD2 hS1
theorem sw_cq {post : Option Nat → S → Prop} (hr : va_Run p l e R s m args below meth c H locs cells slots mc ms (F0 m pc ls st) rest (va_Qq post (sw_Post G (va_A wc H.size) cs) (va_A wc H.size) a) (va_A wc H.size))
    (hP : va_P G vwCl ws H) (hD : va_D A ws) (hS : va_S A s.heap H locs) (hA : ∀ q : Nat, s.heap.size ≤ q → A q) (isC isR pm : List Nat) (hC : isC.map (fun i => ws[i]?) = wc.map some) (hR : isR.map (fun i => ws[i]?) = (isR.filterMap (fun i => ws[i]?)).map some) (hn : va_nd isR = true) (hdis : ∀ i ∈ isR, i ∉ isC)
    (hpm : ∀ u, pm.map (fun i => ((isR.filterMap (fun i => ws[i]?)) ++ cs u)[i]?) = (pm.filterMap (fun i => ((isR.filterMap (fun i => ws[i]?)) ++ cs u)[i]?)).map some) (hpn : va_nd pm = true)
    (kk : ∀ (r : Option Nat) (u : S) (H1 : Heap) (locs1 : List Loc), post r u → va_P G vwCl (pm.filterMap (fun i => ((isR.filterMap (fun i => ws[i]?)) ++ cs u)[i]?)) H1 → va_D A (pm.filterMap (fun i => ((isR.filterMap (fun i => ws[i]?)) ++ cs u)[i]?)) → va_S A s.heap H1 locs1 → W p l e R s m args below meth c H1 locs1 (cells + mc) (slots + ms) Q (F0 m (pc + 3) ls (va_rf r :: rest))) : W p l e R s m args below meth c H locs cells slots Q (F0 m pc ls st) := by
  have hFc := va_free hD hS hA isC hC
  refine va_callq hr hS (fun q _ h => hFc q h) hFc (fun r u t H1 locs1 ht hvm hw hB hz1 hk1 hS1 => ?_)
  obtain ⟨hP2, hD2⟩ := sw_back hP hD hS hA isC isR pm hC hR hn hdis hpm hpn ht hB hk1
  exact kk r u H1 locs1 hw hP2 hD2 hS1
theorem sw_ce {ad : Nat → Nat} {post : Option Nat → S → Prop} (hr : va_Run p l e R s m args below meth c H locs cells slots mc ms (F0 m pc ls st) rest (va_Qe ad post (sw_Post G (va_A wc H.size) cs) (va_A wc H.size) a) (va_A wc H.size))
    (hP : va_P G vwCl ws H) (hD : va_D A ws) (hS : va_S A s.heap H locs) (hA : ∀ q : Nat, s.heap.size ≤ q → A q) (isC isR pm : List Nat) (hC : isC.map (fun i => ws[i]?) = wc.map some) (hR : isR.map (fun i => ws[i]?) = (isR.filterMap (fun i => ws[i]?)).map some) (hn : va_nd isR = true) (hdis : ∀ i ∈ isR, i ∉ isC)
    (hpm : ∀ u, pm.map (fun i => ((isR.filterMap (fun i => ws[i]?)) ++ cs u)[i]?) = (pm.filterMap (fun i => ((isR.filterMap (fun i => ws[i]?)) ++ cs u)[i]?)).map some) (hpn : va_nd pm = true)
    (kk : ∀ (r : Option Nat) (u : S) (H1 : Heap) (locs1 : List Loc), post r u → va_P G vwCl (pm.filterMap (fun i => ((isR.filterMap (fun i => ws[i]?)) ++ cs u)[i]?)) H1 → va_D A (pm.filterMap (fun i => ((isR.filterMap (fun i => ws[i]?)) ++ cs u)[i]?)) → va_S A s.heap H1 locs1 → W p l e R s m args below meth c H1 locs1 (cells + mc) (slots + ms) Q (F0 m (pc + 3) ls (va_re ad r :: rest))) : W p l e R s m args below meth c H locs cells slots Q (F0 m pc ls st) := by
  have hFc := va_free hD hS hA isC hC
  refine va_calle hr hS (fun q _ h => hFc q h) hFc (fun r u t H1 locs1 ht hvm hw hB hz1 hk1 hS1 => ?_)
  obtain ⟨hP2, hD2⟩ := sw_back hP hD hS hA isC isR pm hC hR hn hdis hpm hpn ht hB hk1
  exact kk r u H1 locs1 hw hP2 hD2 hS1
theorem sw_cr {post : S → Prop} {a0 : Nat} (hr : va_Run p l e R s m args below meth c H locs cells slots mc ms (F0 m pc ls st) rest (va_Qr post (fun u q t => q = a0 ∧ sw_Post G (va_A wc H.size) cs u t) (va_A wc H.size) a) (va_A wc H.size))
    (hP : va_P G vwCl ws H) (hD : va_D A ws) (hS : va_S A s.heap H locs) (hA : ∀ q : Nat, s.heap.size ≤ q → A q) (isC isR pm : List Nat) (hC : isC.map (fun i => ws[i]?) = wc.map some) (hR : isR.map (fun i => ws[i]?) = (isR.filterMap (fun i => ws[i]?)).map some) (hn : va_nd isR = true) (hdis : ∀ i ∈ isR, i ∉ isC)
    (hpm : ∀ u, pm.map (fun i => ((isR.filterMap (fun i => ws[i]?)) ++ cs u)[i]?) = (pm.filterMap (fun i => ((isR.filterMap (fun i => ws[i]?)) ++ cs u)[i]?)).map some) (hpn : va_nd pm = true)
    (kk : ∀ (u : S) (H1 : Heap) (locs1 : List Loc), post u → va_P G vwCl (pm.filterMap (fun i => ((isR.filterMap (fun i => ws[i]?)) ++ cs u)[i]?)) H1 → va_D A (pm.filterMap (fun i => ((isR.filterMap (fun i => ws[i]?)) ++ cs u)[i]?)) → va_S A s.heap H1 locs1 → W p l e R s m args below meth c H1 locs1 (cells + mc) (slots + ms) Q (F0 m (pc + 3) ls (.ref a0 :: rest))) : W p l e R s m args below meth c H locs cells slots Q (F0 m pc ls st) := by
  have hFc := va_free hD hS hA isC hC
  refine va_callr hr hS (fun q _ h => hFc q h) hFc (fun u ra t H1 locs1 ht hvm hw hB hz1 hk1 hS1 => ?_)
  obtain ⟨rfl, hB⟩ := hB
  obtain ⟨hP2, hD2⟩ := sw_back hP hD hS hA isC isR pm hC hR hn hdis hpm hpn ht hB hk1
  exact kk u H1 locs1 hw hP2 hD2 hS1
theorem sw_ri {cc : ByteArray} {post : Int32 → S → Prop} {v : Int32} (hx : p.tables.exec = Jvm.exec) (hb : c.code = cc) (hr : meth.sig.returnType = some .int) (hlocks : meth.locks = false) (hS : va_S A s.heap H locs) (u : S) (hw : post v u) (hP : va_P G vwCl (cs u) H) (hD : va_D A (cs u)) (hdg : decode cc pc = .ok (.ireturn, 1)) : W p l e R s m args below meth c H locs cells slots (MQ below (va_Qi post (sw_Post G A cs) A) args s cells slots A) (F0 m pc ls [.int v]) :=
  W.iret hx hb hr (fun t ht _ => ⟨⟨v, u, rfl, hw, by rw [ht]; exact hP, hD⟩, hS.F ht⟩) hS.2.2 hdg hlocks
theorem sw_rz {cc : ByteArray} {post : Int32 → S → Prop} {v : Int32} {ty : FieldType} (hx : p.tables.exec = Jvm.exec) (hb : c.code = cc) (hr : meth.sig.returnType = some ty) (hz : narrow ty (.int v) = .int v) (hlocks : meth.locks = false) (hS : va_S A s.heap H locs) (u : S) (hw : post v u) (hP : va_P G vwCl (cs u) H) (hD : va_D A (cs u)) (hdg : decode cc pc = .ok (.ireturn, 1)) : W p l e R s m args below meth c H locs cells slots (MQ below (va_Qi post (sw_Post G A cs) A) args s cells slots A) (F0 m pc ls [.int v]) :=
  W.zret hx hb hr hz (fun t ht _ => ⟨⟨v, u, rfl, hw, by rw [ht]; exact hP, hD⟩, hS.F ht⟩) hS.2.2 hdg hlocks
theorem sw_rv {cc : ByteArray} {post : S → Prop} (hx : p.tables.exec = Jvm.exec) (hb : c.code = cc) (hr : meth.sig.returnType = none) (hlocks : meth.locks = false) (hS : va_S A s.heap H locs) (u : S) (hw : post u) (hP : va_P G vwCl (cs u) H) (hD : va_D A (cs u)) (hdg : decode cc pc = .ok (.return_, 1)) : W p l e R s m args below meth c H locs cells slots (MQ below (va_Qv post (sw_Post G A cs) A) args s cells slots A) (F0 m pc ls []) :=
  W.vret hx hb hr (fun t ht _ => ⟨⟨u, rfl, hw, by rw [ht]; exact hP, hD⟩, hS.F ht⟩) hS.2.2 hdg hlocks
theorem sw_rr {cc : ByteArray} {post : S → Prop} {a0 : Nat} {C : String} (hx : p.tables.exec = Jvm.exec) (hb : c.code = cc) (hr : meth.sig.returnType = some (.object C)) (hlocks : meth.locks = false) (hS : va_S A s.heap H locs) (u : S) (hw : post u) (hP : va_P G vwCl (cs u) H) (hD : va_D A (cs u)) (hdg : decode cc pc = .ok (.areturn, 1)) : W p l e R s m args below meth c H locs cells slots (MQ below (va_Qr post (fun u q t => q = a0 ∧ sw_Post G A cs u t) A) args s cells slots A) (F0 m pc ls [.ref a0]) :=
  W.aret hx hb hr (Or.inl ⟨C, rfl⟩) (Or.inr ⟨a0, rfl⟩) (fun t ht _ => ⟨⟨u, a0, rfl, hw, rfl, by rw [ht]; exact hP, hD⟩, hS.F ht⟩) hS.2.2 hdg hlocks
end SWD
/-! ===== pure words ===== -/
/-- n rounds of a loop's body, then none -/
def fx {F : Type} (bot : F) (B : F → F) : Nat → F
  | 0 => bot
  | n + 1 => B (fx bot B n)
def FUEL : Nat := 1000000
/-- a name for a value -/
def nm {α β : Type} (v : α) (k : α → β) : β := k v
/-- an index that must lie in its row -/
def ix {α : Type} (i : Int32) (n : Nat) (k : Option α) : Option α := if i < 0 ∨ n ≤ i.toNatClampNeg then none else k
def nz {α : Type} (d : Int32) (k : Option α) : Option α := if d = 0 then none else k
def bI (b : Bool) : Int32 := if b then 1 else 0
theorem nm_at {α β : Type} {v y : α} {k : α → β} {r : β} (e : y = v) (h : nm v k = r) : k y = r := by rw [e]; exact h
theorem ix_at {α : Type} {i : Int32} {n : Nat} {k : Option α} {r : α} (h : ix i n k = some r) : vp_in i n ∧ k = some r := by
  unfold ix at h
  by_cases c : i < 0 ∨ n ≤ i.toNatClampNeg
  · rw [if_pos c] at h; cases h
  · rw [if_neg c] at h; exact ⟨c, h⟩
theorem nz_at {α : Type} {d : Int32} {k : Option α} {r : α} (h : nz d k = some r) : ¬ d = 0 ∧ k = some r := by
  unfold nz at h
  by_cases c : d = 0
  · rw [if_pos c] at h; cases h
  · rw [if_neg c] at h; exact ⟨c, h⟩
theorem if_t {α : Type} {c : Prop} [Decidable c] {a b x : α} (hc : c) (h : (if c then a else b) = x) : a = x := by rw [if_pos hc] at h; exact h
theorem if_f {α : Type} {c : Prop} [Decidable c] {a b x : α} (hc : ¬ c) (h : (if c then a else b) = x) : b = x := by rw [if_neg hc] at h; exact h
theorem bI_z {b : Bool} : bI b = 0 ↔ ¬ b = true := by cases b <;> decide
theorem bI_nz {b : Bool} : ¬ bI b = 0 ↔ b = true := by cases b <;> decide
theorem bI_nar (b : Bool) : narrow .boolean (.int (bI b)) = .int (bI b) := by cases b <;> rfl
theorem bI_fit (b : Bool) : fits .boolean (.int (bI b)) = true := by cases b <;> rfl
theorem bd_at {α β : Type} {x : Option α} {k : α → Option β} {r : β} (h : x.bind k = some r) : ∃ v, x = some v ∧ k v = some r := Option.bind_eq_some_iff.mp h
theorem no_at {α : Type} {r : α} {Q : Prop} (h : (none : Option α) = some r) : Q := by cases h
theorem pr1 {α : Type} {v : α} {r : α} (h : some v = some r) : r = v := (Option.some.inj h).symm
theorem pr2 {α β : Type} {v : α} {u : β} {r : α × β} (h : some (v, u) = some r) : r.1 = v ∧ r.2 = u := by cases h; exact ⟨rfl, rfl⟩
theorem pb1 {v r : Bool} (h : some v = some r) : bI r = bI v := by cases h; rfl
theorem pb2 {β : Type} {v : Bool} {u : β} {r : Bool × β} (h : some (v, u) = some r) : bI r.1 = bI v ∧ r.2 = u := by cases h; exact ⟨rfl, rfl⟩
theorem fx_s {F : Type} {bot : F} {B : F → F} {n : Nat} : fx bot B (n + 1) = B (fx bot B n) := rfl
theorem sw_vin {i : Int32} {N : Nat} (h : decide (¬ (i < 0 ∨ N ≤ i.toNatClampNeg)) = true) : vp_in i N := (of_decide_eq_true h : ¬ (i < 0 ∨ N ≤ i.toNatClampNeg))
section SWI
variable {p : Program} {l : Launch} {e : Env} {R : Room} {s : State} {m : MethodId} {args : Array Value} {below : List Frame} {meth : Method} {c : Code} {H : Heap} {locs : List Loc} {cells slots : Nat} {Q : State → Prop}
  {cc : ByteArray} {pc a : Nat} {D : va_G} {cl : List vw_C} {tys : List (ClassId × FieldType)} {ws : va_W} {A : Nat → Prop} {H0 : Heap} {rest : List Value} {ls : Array Slot}
/-- loads and stores at a written index -/
theorem sw_iald0 (hexec : p.tables.exec = Jvm.exec) (hb : c.code = cc) (hK : va_K D cl tys s) (hP : va_P D cl ws H) (q0 t0 : Nat) {cA : ClassId} {n : Nat} {f : Nat → Int32} (ha : ws[q0]? = some (a, .inl (cA, n, .inl f))) (ht : tys[t0]? = some (cA, .int)) {i : Int32} (k : Nat) (hk : i.toNatClampNeg = k) (hin : vp_in i n) (hdg : decode cc pc = .ok (.iaload, 1))
    (kk : W p l e R s m args below meth c H locs cells slots Q (F0 m (pc + 1) ls (.int (f k) :: rest))) : W p l e R s m args below meth c H locs cells slots Q (F0 m pc ls (.int i :: .ref a :: rest)) :=
  va_iald hexec hb hK hP q0 t0 ha ht hin hdg (by rw [hk]; exact kk)
theorem sw_iast0 (hexec : p.tables.exec = Jvm.exec) (hb : c.code = cc) (hK : va_K D cl tys s) (hP : va_P D cl ws H) (hD : va_D A ws) (hS : va_S A H0 H locs) (q0 t0 : Nat) {cA : ClassId} {n : Nat} {f : Nat → Int32} (ha : ws[q0]? = some (a, .inl (cA, n, .inl f))) (ht : tys[t0]? = some (cA, .int)) {i : Int32} {x : Int32} (k : Nat) (hk : i.toNatClampNeg = k) (hin : vp_in i n) (hdg : decode cc pc = .ok (.iastore, 1))
    (kk : ∀ (H1 : Heap) (locs1 : List Loc), va_P D cl (ws.set q0 (a, .inl (cA, n, .inl (upd f k x)))) H1 → va_D A (ws.set q0 (a, .inl (cA, n, .inl (upd f k x)))) → va_S A H0 H1 locs1 → W p l e R s m args below meth c H1 locs1 cells slots Q (F0 m (pc + 1) ls rest)) : W p l e R s m args below meth c H locs cells slots Q (F0 m pc ls (.int x :: .int i :: .ref a :: rest)) :=
  va_iast hexec hb hK hP hD hS q0 t0 ha ht hin hdg (fun H1 locs1 h1 h2 h3 => kk H1 locs1 (by rw [hk] at h1; exact h1) (by rw [hk] at h2; exact h2) h3)
end SWI
abbrev PlanT : Type := Int32 × Int32 × (Nat → Int32) × Int32 × Int32 × (Nat → Int32) × Int32
abbrev SieveT : Type := (Nat → Int32) × (Nat → Int32) × Int32 × Int32 × Int32 × Int32
abbrev SrcT : Type := (Nat → Int32) × Int32 × Int32 × Int32 × Int32 × Int32 × Int32
abbrev ReadT : Type := Int32 × Int32 × Int32
abbrev ScrT : Type := (Nat → Option Nat) × (Nat → Int32) × (Nat → Int32) × Int32
abbrev SheetT : Type := (Nat → Int32) × Int32
abbrev HistT : Type := (Nat → PlanT) × Int32 × Int32
def cp {α : Type} (sp dp n : Int32) (n0 n1 : Nat) (k : Option α) : Option α := if ¬ sp < 0 ∧ ¬ dp < 0 ∧ ¬ n < 0 ∧ sp.toNatClampNeg + n.toNatClampNeg ≤ n0 ∧ dp.toNatClampNeg + n.toNatClampNeg ≤ n1 then k else none
theorem cp_at {α : Type} {sp dp n : Int32} {n0 n1 : Nat} {k : Option α} {r : α} (h : cp sp dp n n0 n1 k = some r) : (¬ sp < 0 ∧ ¬ dp < 0 ∧ ¬ n < 0 ∧ sp.toNatClampNeg + n.toNatClampNeg ≤ n0 ∧ dp.toNatClampNeg + n.toNatClampNeg ≤ n1) ∧ k = some r := by
  unfold cp at h
  split at h
  · exact ⟨by assumption, h⟩
  · cases h
/-- an int that is none of lo .. hi -/
theorem sw_nin {x : Int32} (lo hi : Int) (h : ∀ k : Int, lo ≤ k → k ≤ hi → x.toInt ≠ k) : x.toInt < lo ∨ hi < x.toInt := by
  rcases Int.lt_or_le x.toInt lo with a | a
  · exact Or.inl a
  · rcases Int.lt_or_le hi x.toInt with b | b
    · exact Or.inr b
    · exact absurd rfl (h _ a b)
theorem sw_Ek {Z : Nat → Nat} {A : Nat → Prop} {U : State} {H : Heap} (h : sw_SX Z A U H) (k : Nat) (hk : k < 9) {n : String} (hn : sw_nm.getD k "" = n) : va_Z RX2 n "LStrikeWheels$Order;" (.ref (Z (10 + k))) A U H := by
  have e := (h.2.2.2.2.1.1 k hk).1
  rw [hn] at e
  exact e
theorem sw_ti {x y : Int32} (e : x.toInt = y.toInt) : x = y := Int32.toInt_inj.mp e
