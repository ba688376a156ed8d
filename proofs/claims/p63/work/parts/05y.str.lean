theorem sw_o1 : Cond.methodLink RX10 369 ⟨"StrikeWheels$Order", "ordinal", "()I"⟩ ∈ sw_U := sw_in (sw_t4 (List.mem_of_getElem? (i := 171) (by decide +kernel))) rfl
theorem sw_o2 : Cond.sameMethod "StrikeWheels$Order" "java/lang/Enum" "ordinal" "()I" ∈ sw_U := sw_in (sw_t4 (List.mem_of_getElem? (i := 172) (by decide +kernel))) rfl
theorem sw_o3 : Cond.selects "StrikeWheels$Order" ⟨"StrikeWheels$Order", "ordinal", "()I"⟩ yJx29ce0_ordinal_8abf5 ∈ sw_U := sw_in (sw_t4 (List.mem_of_getElem? (i := 174) (by decide +kernel))) rfl
/-! ===== constants: texts, orders; the JDK's methods that are reached ===== -/
def kl {α : Type} (k n : Nat) (x : Option α) : Option α := if k < n then x else none
theorem kl_at {α : Type} {k n : Nat} {x : Option α} {r : α} (h : kl k n x = some r) : k < n ∧ x = some r := by
  unfold kl at h
  split at h
  · exact ⟨by assumption, h⟩
  · cases h
/-- the length of a text, and its signs -/
def sw_sl (k : Nat) : Int32 := Int32.ofNat (sw_len.getD k 0)
def sw_ch (k j : Nat) : Int32 := (((sw_byt.getD k []).getD j 0 &&& 255).toUInt32 % 65536).toInt32
def sw_on (k : Nat) : Int32 := ([1, 0, 1, 1, 1, 2, 1, 1, 0] : List Int32).getD k 0
def sw_ol (k : Nat) : Int32 := ([1, 0, 2, 2, 2, 2, 0, 1, 0] : List Int32).getD k 0
def sw_om (k : Nat) : Int32 := ([400, 0, 120, 120, 120, 120, 4, 30, 0] : List Int32).getD k 0
def sw_oo (k : Nat) : Int32 := ([0, 1, 2, 3, 4, 5, 6, 7, 9] : List Int32).getD k 0
section SWK
variable {p : Program} {l : Launch} {e : Env} {R : Room} {s : State} {m : MethodId} {args : Array Value} {below : List Frame} {meth : Method} {c : Code} {H : Heap} {locs : List Loc} {cells slots : Nat} {Q : State → Prop}
  {cc bytes : ByteArray} {nL maxL n idx b pc mc ms : Nat} {own C : String} {G : va_G} {ca Z : Nat → Nat} {A : Nat → Prop} {ws wc : va_W} {y : MethodName} {ret : Option FieldType} {rm : Room} {As rest st : List Value} {S : Type} {cs : S → va_W} {ls : Array Slot} {Qc : Array Value → State → Outcome → State → Prop}
theorem sw_rcS (hX : sw_SX Z A s s.heap) (hS : va_S A s.heap H locs) {k : Nat} (hk : k < 6) : ∃ cell : Cell, H[Z (20 + k)]? = some cell ∧ cell.vm.isStatics = false ∧ s.vm.findClass RJ0 = some cell.cls := vk_recv hX.2.2.2.2.2.2.1 (i := k) hk hS
theorem sw_rcE (hX : sw_SX Z A s s.heap) (hS : va_S A s.heap H locs) {k : Nat} (hk : k < 9) : ∃ cell : Cell, H[Z (10 + k)]? = some cell ∧ cell.vm.isStatics = false ∧ s.vm.findClass RX2 = some cell.cls := va_recvE hX.2.2.2.2.1 (i := k) hk hS
/-- a call whose receiver is a constant -/
theorem sw_runR (Cx : sw_Cx p s m args c cc nL own G ca Z A) (hP : va_P G vwCl ws H) (hD : va_D A ws) (hS : va_S A s.heap H locs) (mb : sw_MV y C bytes maxL ret n) (hl : Cond.methodLink own idx y ∈ sw_U)
    (hM : Met l y (.code y bytes maxL ret :: sw_U) rm (va_Pc (.ref b :: As) (sw_Pre G ca Z wc H.size)) Qc mc ms (va_A wc H.size))
    (hrv : ∃ cell : Cell, H[b]? = some cell ∧ cell.vm.isStatics = false ∧ s.vm.findClass C = some cell.cls) (isC : List Nat) (hC : isC.map (fun i => ws[i]?) = wc.map some) (hCn : va_nd isC = true)
    (hcz : rm.cells = mc) (hsz : rm.slots = ms) (hrf : rm.frames + 1 ≤ R.frames ∧ 8 + (maxL + 11) + rm.locals ≤ R.locals) (hls : ls.size = nL) (hst : st = As.reverse ++ .ref b :: rest) (hAn : As.length = n) (hre : (rest.map fun v => v.category).sum ≤ 8)
    (hdg : decode cc pc = .ok (.invokevirtual idx, 3)) (hcs : cells + mc ≤ R.cells ∧ slots + ms ≤ R.slots) :
    va_Run p l e R s m args below meth c H locs cells slots mc ms (F0 m pc ls st) rest (Qc (Value.ref b :: As).toArray) (va_A wc H.size) := by
  obtain ⟨⟨hx, hb, hml, hown, htU⟩, hK, hX, hY, hA⟩ := Cx
  have hPc := hP.sub (ws' := wc) isC (sw_fm hC)
  have hDc := hD.sub (ws' := wc) isC hCn hC
  have hFc := va_free hD hS hA isC hC
  obtain ⟨m1, m2, m3, m4, m5⟩ := mb
  exact va_runV (As := As) (rest := rest) ⟨hx, hb, hml, hown, htU⟩ hM (cwV n htU (sw_V hl m1 m2 m3 m4) rfl hcz hsz m5 hrf) ⟨sw_blind, hrv, sw_pre hPc hK hDc hX hY hS hFc⟩ rfl hAn hls hst (lv_room hre) hdg hcs
/-- order.ordinal(), found above -/
theorem sw_runO (Cx : sw_Cx p s m args c cc nL RX10 G ca Z A) (hP : va_P G vwCl ws H) (hD : va_D A ws) (hS : va_S A s.heap H locs)
    (hM : Met l yJx29ce0_ordinal_8abf5 (.code yJx29ce0_ordinal_8abf5 cJx29ce0_ordinal_8abf5 1 (some .int) :: sw_U) rm (va_Pc [.ref b] (sw_Pre G ca Z wc H.size)) Qc mc ms (va_A wc H.size))
    (hrv : ∃ cell : Cell, H[b]? = some cell ∧ cell.vm.isStatics = false ∧ s.vm.findClass RX2 = some cell.cls) (isC : List Nat) (hC : isC.map (fun i => ws[i]?) = wc.map some) (hCn : va_nd isC = true)
    (hcz : rm.cells = mc) (hsz : rm.slots = ms) (hrf : rm.frames + 1 ≤ R.frames ∧ 8 + (1 + 11) + rm.locals ≤ R.locals) (hls : ls.size = nL) (hst : st = .ref b :: rest) (hre : (rest.map fun v => v.category).sum ≤ 8)
    (hdg : decode cc pc = .ok (.invokevirtual 369, 3)) (hcs : cells + mc ≤ R.cells ∧ slots + ms ≤ R.slots) :
    va_Run p l e R s m args below meth c H locs cells slots mc ms (F0 m pc ls st) rest (Qc #[Value.ref b]) (va_A wc H.size) := by
  obtain ⟨⟨hx, hb, hml, hown, htU⟩, hK, hX, hY, hA⟩ := Cx
  have hPc := hP.sub (ws' := wc) isC (sw_fm hC)
  have hDc := hD.sub (ws' := wc) isC hCn hC
  have hFc := va_free hD hS hA isC hC
  exact va_runU (x := ⟨"StrikeWheels$Order", "ordinal", "()I"⟩) (C := RX2) (owner := "java/lang/Enum") (As := []) (rest := rest) ⟨hx, hb, hml, hown, htU⟩ hM
    (va_cwU 0 htU (sw_G (sw_c sw_o1 (sw_c sw_o2 (sw_c sw_o3 (sw_c im_Jx29ce0_ordinal_8abf5 (sw_c ini_Jx29ce0 (sw_c co_Jx29ce0_ordinal_8abf5 sw_self))))))) rfl hcz hsz rfl (by decide +kernel) hrf) ⟨sw_blind, hrv, sw_pre hPc hK hDc hX hY hS hFc⟩ rfl rfl hls hst (lv_room hre) hdg hcs
/-- a field of a constant by a nest mate's link -/
theorem sw_getfN (hexec : p.tables.exec = Jvm.exec) (hb : c.code = cc) {o n d own ref host : String} {index q : Nat} {v : Value} (hE : va_OF o n d v q A s s.heap) (hS : va_S A s.heap H locs) (hown : s.vm.findClass own = some m.cls) (hlink : (Cond.fieldLinkNest own index ref n d host).before args s = true) (hsame : ∀ x, s.fieldFound? o n d = some x → s.fieldFound? ref n d = some x) (hdg : decode cc pc = .ok (.getfield index, 3))
    (kk : W p l e R s m args below meth c H locs cells slots Q (F0 m (pc + 3) ls (v :: rest))) : W p l e R s m args below meth c H locs cells slots Q (F0 m pc ls (.ref q :: rest)) := by
  obtain ⟨cf, k, fi, f, cell, h1, h2, h3, h4, h5, h6⟩ := hE.kept hS.2.1
  exact va_Wgetf hexec hb hown hlink (hsame _ h1) h2 h3 h4 (v := v) h5 rfl rfl hdg kk
end SWK
theorem sw_oI {Z : Nat → Nat} {A : Nat → Prop} {U : State} {H : Heap} (h : sw_SX Z A U H) {k : Nat} (hk : k < 9) : ∀ q ∈ sw_oF, va_OF q.1 q.2.1 q.2.2.1 (.int (q.2.2.2.getD k 0)) (Z (10 + k)) A U H := (h.2.2.2.2.1.1 k hk).2.2
theorem sw_sC {Z : Nat → Nat} {A : Nat → Prop} {U : State} {H : Heap} (h : sw_SX Z A U H) {k : Nat} (hk : k < 6) : va_OF "java/lang/String" "coder" "B" (.int 0) (Z (20 + k)) A U H ∧ va_OF "java/lang/String" "value" "[B" (.ref (Z (40 + k))) (Z (20 + k)) A U H ∧ va_T .byte (Z (40 + k)) (sw_len.getD k 0) (fun j => .int ((sw_byt.getD k []).getD j 0)) A U H := (h.2.2.2.2.2.2.1.1 k hk).2
/-- an order stored in a row of orders -/
theorem sw_mapup {g : Nat → Nat} {o : Nat → Option Nat} {i k : Nat} : va_up (fun j => (o j).map g) i (some (g k)) = fun j => (va_up o i (some k) j).map g := by
  funext j
  unfold va_up
  split <;> rfl
section SWL
variable {p : Program} {l : Launch} {e : Env} {R : Room} {s : State} {m : MethodId} {args : Array Value} {below : List Frame} {meth : Method} {c : Code} {H : Heap} {locs : List Loc} {cells slots : Nat} {Q : State → Prop}
  {cc : ByteArray} {pc a : Nat} {D : va_G} {cl : List vw_C} {tys : List (ClassId × FieldType)} {ws : va_W} {A : Nat → Prop} {H0 : Heap} {rest : List Value} {ls : Array Slot} {Z : Nat → Nat}
theorem sw_ldcw (hexec : p.tables.exec = Jvm.exec) (hb : c.code = cc) {own tx : String} {index q : Nat} (hown : s.vm.findClass own = some m.cls) (hZ : vk_R own index tx q s) (hdg : decode cc pc = .ok (.ldc_w index, 3))
    (k : W p l e R s m args below meth c H locs cells slots Q (F0 m (pc + 3) ls (.ref q :: rest))) : W p l e R s m args below meth c H locs cells slots Q (F0 m pc ls rest) := by
  intro T hT X
  obtain ⟨t, a1, b1⟩ := k T hT X
  refine ⟨t, ?_, b1⟩
  obtain ⟨kk, cf, i, a', hk, hcf, hcp, -, hr, hev'⟩ := Cond.stringRef_spec (args := args) hown hZ.1
  cases (show (Term.string own index).eval args s none [] s = some (.ref q) from hZ.2).symm.trans hev'
  obtain ⟨k', hk', he⟩ := X.warmed.alike.2.2 _ _ hk
  have hr' : k'.resolved[index]? = some (some (.string q)) := by
    rcases X.warmed.entry hk hk' index with h | ⟨h, -⟩
    · rw [h]; exact hr
    · rw [hr] at h; cases h
  have hdg' : decode c.code (F0 m pc ls rest).pc = .ok (.ldc_w index, 3) := by rw [hb]; exact hdg
  jvm_step X.here [hexec, hdg', ldc_w.wp_string (e := e) (s := T) (f := F0 m pc ls rest) X.here.top hk' (by rw [he]; exact hcf) hcp hr']
  exact a1
theorem sw_getsq (hexec : p.tables.exec = Jvm.exec) (hb : c.code = cc) {C n d own ref : String} {index : Nat} (hZ : va_Zq C n d A s s.heap) (hS : va_S A s.heap H locs) (hown : s.vm.findClass own = some m.cls) (hlink : (Cond.fieldLink own index ref n d).before args s = true) (hsame : ∀ x, s.fieldFound? C n d = some x → s.fieldFound? ref n d = some x) (hdg : decode cc pc = .ok (.getstatic index, 3))
    (kk : ∀ r : Option Nat, W p l e R s m args below meth c H locs cells slots Q (F0 m (pc + 3) ls (va_rf r :: rest))) : W p l e R s m args below meth c H locs cells slots Q (F0 m pc ls rest) := by
  rcases hZ with hz | ⟨t, hz⟩
  · exact va_gets hexec hb hz hS hown hlink hsame hdg (kk none)
  · exact va_gets hexec hb hz hS hown hlink hsame hdg (kk (some t))
/-- a load out of a row of references, the reference known -/
theorem sw_aldk (hexec : p.tables.exec = Jvm.exec) (hb : c.code = cc) (hK : va_K D cl tys s) (hP : va_P D cl ws H) (q0 t0 : Nat) {cA : ClassId} {C : String} {n : Nat} {f : Nat → Option Nat} (ha : ws[q0]? = some (a, .inl (cA, n, .inr (.inr (.inr (.inr f)))))) (ht : tys[t0]? = some (cA, .object C)) {i : Int32} (hin : vp_in i n) {k b : Nat} (hk : k = i.toNatClampNeg) (hf : f k = some b) (hdg : decode cc pc = .ok (.aaload, 1))
    (kk : W p l e R s m args below meth c H locs cells slots Q (F0 m (pc + 1) ls (.ref b :: rest))) : W p l e R s m args below meth c H locs cells slots Q (F0 m pc ls (.int i :: .ref a :: rest)) :=
  va_aldq hexec hb hK hP q0 t0 ha ht hin hdg (by rw [← hk, hf]; exact kk)
theorem sw_lt8 {i : Int32} (h : vp_in i 8) : ∃ j : Nat, j < 8 ∧ j = i.toNatClampNeg := ⟨i.toNatClampNeg, Nat.not_le.mp fun q => h (Or.inr q), rfl⟩
end SWL
theorem sw_sR {Z : Nat → Nat} {U : State} (h : sw_SY Z U) (j : Nat) {q : String × Nat × String × Nat} (hq : sw_sr[j]? = some q) : vk_R q.1 q.2.1 q.2.2.1 (Z (20 + q.2.2.2)) U := h.1 q (List.mem_of_getElem? hq)
def oe {α β : Type} (r : Option α) (a : β) (b : α → β) : β := match r with
  | none => a
  | some k => b k
theorem oe_n {α β : Type} {r : Option α} {a : β} {b : α → β} {x : β} (e : r = none) (h : oe r a b = x) : a = x := by subst e; exact h
theorem oe_s {α β : Type} {r : Option α} {a : β} {b : α → β} {x : β} {k : α} (e : r = some k) (h : oe r a b = x) : b k = x := by subst e; exact h
section SWE
variable {p : Program} {l : Launch} {e : Env} {R : Room} {s : State} {m : MethodId} {args : Array Value} {below : List Frame} {meth : Method} {c : Code} {H : Heap} {locs : List Loc} {cells slots : Nat} {A : Nat → Prop} {G : va_G} {S : Type} {cs : S → va_W} {pc : Nat} {ls : Array Slot}
theorem sw_re {cc : ByteArray} {ad : Nat → Nat} {post : Option Nat → S → Prop} {r : Option Nat} {v : Value} {C : String} (hx : p.tables.exec = Jvm.exec) (hb : c.code = cc) (hr : meth.sig.returnType = some (.object C)) (hlocks : meth.locks = false) (hS : va_S A s.heap H locs) (hv : v = va_re ad r) (u : S) (hw : post r u) (hP : va_P G vwCl (cs u) H) (hD : va_D A (cs u)) (hdg : decode cc pc = .ok (.areturn, 1)) : W p l e R s m args below meth c H locs cells slots (MQ below (va_Qe ad post (sw_Post G A cs) A) args s cells slots A) (F0 m pc ls [v]) := by
  subst hv
  exact W.aret hx hb hr (Or.inl ⟨C, rfl⟩) (va_re_or ad r) (fun t ht _ => ⟨⟨r, u, rfl, hw, by rw [ht]; exact hP, hD⟩, hS.F ht⟩) hS.2.2 hdg hlocks
end SWE
