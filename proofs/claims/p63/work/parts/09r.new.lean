theorem im_obj : Cond.instanceMethod objectInit ∈ sw_U := sw_in (sw_t1 (List.mem_of_getElem? (i := 36) (by decide +kernel))) rfl
theorem co_obj : Cond.code objectInit ⟨#[0xb1]⟩ 1 none ∈ sw_U := sw_in (sw_t1 (List.mem_of_getElem? (i := 37) (by decide +kernel))) rfl
/-! ===== constructors ===== -/
theorem sw_caP {G : va_G} {ca : Nat → ClassId} {s : State} (hK : va_K G vwCl (sw_tys ca) s) {cA : ClassId} {ty : FieldType} (k : Nat) (hk : (sw_tys ca)[k]? = some (ca k, ty)) (h : va_K G vwCl (sw_tys ca ++ [(cA, ty)]) s) (hp : ∀ C, ty ≠ .object C) : cA = ca k := by
  have h1 := (hK.2 k _ hk).2
  have h2 := (h.2 4 (cA, ty) rfl).2
  have e : ∀ c : ClassId, va_RA s c ty → s.vm.findClass ("[" ++ ty.toString) = some c := by
    intro c hc
    cases ty <;> first | exact hc | exact absurd rfl (hp _)
  exact Option.some.inj ((e _ h2).symm.trans (e _ h1))
theorem sw_caO {G : va_G} {ca : Nat → ClassId} {s : State} (hK : va_K G vwCl (sw_tys ca) s) {cA : ClassId} {C : String} (k : Nat) (hk : (sw_tys ca)[k]? = some (ca k, .object C)) (h : va_K G vwCl (sw_tys ca ++ [(cA, .object C)]) s) : cA = ca k := by
  obtain ⟨-, -, -, -, -, h1⟩ := (hK.2 k _ hk).2
  obtain ⟨-, -, -, -, -, h2⟩ := (h.2 4 (cA, .object C) rfl).2
  exact Option.some.inj (h2.symm.trans h1)
section SWN
variable {p : Program} {l : Launch} {e : Env} {R : Room} {s : State} {m : MethodId} {args : Array Value} {below : List Frame} {meth : Method} {c : Code} {H : Heap} {locs : List Loc} {cells slots : Nat} {Q : State → Prop}
  {cc : ByteArray} {pc a : Nat} {G : va_G} {ca : Nat → ClassId} {ws wc : va_W} {A : Nat → Prop} {H0 : Heap} {rest st : List Value} {ls : Array Slot}
theorem sw_newi (hx : p.tables.exec = Jvm.exec) (hb : c.code = cc) (htU : ∀ w ∈ sw_U, w.before args s = true) (hK : va_K G vwCl (sw_tys ca) s) (hP : va_P G vwCl ws H) (hD : va_D A ws) (hS : va_S A H0 H locs) (hA : ∀ q, H0.size ≤ q → A q)
    {n : Int32} {N' : Nat} (hn : ¬ n < 0) (hN : n.toNatClampNeg = N') (hbytes : N' * componentBytes .int ≤ 536870912) (hcells : cells + 1 ≤ R.cells) (hslots : slots + N' ≤ R.slots) (hdg : decode cc pc = .ok (.newarray .int, 2))
    (kk : ∀ (q : Nat) (H1 : Heap), va_P G vwCl (ws ++ [(q, .inl (ca 0, N', .inl (fun _ => 0)))]) H1 → va_D A (ws ++ [(q, .inl (ca 0, N', .inl (fun _ => 0)))]) → va_S A H0 H1 locs →
      W p l e R s m args below meth c H1 locs (cells + 1) (slots + N') Q (F0 m (pc + 2) ls (.ref q :: rest))) : W p l e R s m args below meth c H locs cells slots Q (F0 m pc ls (.int n :: rest)) :=
  va_newa (atype := .int) (a0 := (N', .inl (fun _ => 0))) hx hb (htU _ ac_int) rfl hK hP hD hS hA (fun _ => rfl) hn hN hbytes hcells hslots hdg (fun q cA H1 hK1 hP1 hD1 hS1 => by
    have e := sw_caP hK 0 rfl hK1 (fun _ h => by cases h)
    subst e
    exact kk q H1 hP1 hD1 hS1)
theorem sw_newb (hx : p.tables.exec = Jvm.exec) (hb : c.code = cc) (htU : ∀ w ∈ sw_U, w.before args s = true) (hK : va_K G vwCl (sw_tys ca) s) (hP : va_P G vwCl ws H) (hD : va_D A ws) (hS : va_S A H0 H locs) (hA : ∀ q, H0.size ≤ q → A q)
    {n : Int32} {N' : Nat} (hn : ¬ n < 0) (hN : n.toNatClampNeg = N') (hbytes : N' * componentBytes .byte ≤ 536870912) (hcells : cells + 1 ≤ R.cells) (hslots : slots + N' ≤ R.slots) (hdg : decode cc pc = .ok (.newarray .byte, 2))
    (kk : ∀ (q : Nat) (H1 : Heap), va_P G vwCl (ws ++ [(q, .inl (ca 1, N', .inl (fun _ => 0)))]) H1 → va_D A (ws ++ [(q, .inl (ca 1, N', .inl (fun _ => 0)))]) → va_S A H0 H1 locs →
      W p l e R s m args below meth c H1 locs (cells + 1) (slots + N') Q (F0 m (pc + 2) ls (.ref q :: rest))) : W p l e R s m args below meth c H locs cells slots Q (F0 m pc ls (.int n :: rest)) :=
  va_newa (atype := .byte) (a0 := (N', .inl (fun _ => 0))) hx hb (htU _ ac_byte) rfl hK hP hD hS hA (fun _ => rfl) hn hN hbytes hcells hslots hdg (fun q cA H1 hK1 hP1 hD1 hS1 => by
    have e := sw_caP hK 1 rfl hK1 (fun _ h => by cases h)
    subst e
    exact kk q H1 hP1 hD1 hS1)
theorem sw_newq (hx : p.tables.exec = Jvm.exec) (hb : c.code = cc) {own C : String} {index : Nat} (k : Nat) (hk : (sw_tys ca)[k]? = some (ca k, .object C)) (hown : s.vm.findClass own = some m.cls) (hclink : (Cond.classLink own index C).before args s = true) (hover : va_AO C s) (hK : va_K G vwCl (sw_tys ca) s) (hP : va_P G vwCl ws H) (hD : va_D A ws) (hS : va_S A H0 H locs) (hA : ∀ q, H0.size ≤ q → A q)
    {n : Int32} {N' : Nat} (hn : ¬ n < 0) (hN : n.toNatClampNeg = N') (hbytes : N' * 4 ≤ 536870912) (hcells : cells + 1 ≤ R.cells) (hslots : slots + N' ≤ R.slots) (hdg : decode cc pc = .ok (.anewarray index, 3))
    (kk : ∀ (q : Nat) (H1 : Heap), va_P G vwCl (ws ++ [(q, .inl (ca k, N', .inr (.inr (.inr (.inr (fun _ => none))))))]) H1 → va_D A (ws ++ [(q, .inl (ca k, N', .inr (.inr (.inr (.inr (fun _ => none))))))]) → va_S A H0 H1 locs →
      W p l e R s m args below meth c H1 locs (cells + 1) (slots + N') Q (F0 m (pc + 3) ls (.ref q :: rest))) : W p l e R s m args below meth c H locs cells slots Q (F0 m pc ls (.int n :: rest)) :=
  va_newq hx hb hown hclink hover hK hP hD hS hA hn hN hbytes hcells hslots hdg (fun q cA H1 hK1 hP1 hD1 hS1 => by
    have e := sw_caO hK k hk hK1
    subst e
    exact kk q H1 hP1 hD1 hS1)
/-- a constructor called -/
theorem sw_runI {b nL maxL n idx mc ms : Nat} {own : String} {bytes : ByteArray} {Z : Nat → Nat} {y : MethodName} {rm : Room} {As : List Value} {Qc : Array Value → State → Outcome → State → Prop} (Cx : sw_Cx p s m args c cc nL own G ca Z A) (hP : va_P G vwCl ws H) (hD : va_D A ws) (hS : va_S A s.heap H locs) (hc1 : Cond.code y bytes maxL none ∈ sw_U) (hi1 : Cond.initialized y.cls ∈ sw_U) (him : Cond.instanceMethod y ∈ sw_U) (hl : Cond.methodLink own idx y ∈ sw_U) (hy1 : y.name = "<init>")
    (hM : Met l y (.code y bytes maxL none :: sw_U) rm (va_Pc (.ref b :: As) (sw_Pre G ca Z wc H.size)) Qc mc ms (va_A wc H.size))
    (hd : y.cls ≠ "java/lang/invoke/MethodHandle" ∧ y.cls ≠ "java/lang/invoke/VarHandle" ∧ (parseMethodDescriptor y.desc).map (fun d => d.parameters.length) = some n)
    (isC : List Nat) (hC : isC.map (fun i => ws[i]?) = wc.map some) (hCn : va_nd isC = true)
    (hcz : rm.cells = mc) (hsz : rm.slots = ms) (hrf : rm.frames + 1 ≤ R.frames ∧ 8 + (maxL + 11) + rm.locals ≤ R.locals) (hls : ls.size = nL) (hst : st = As.reverse ++ .ref b :: rest) (hAn : As.length = n) (hre : (rest.map fun v => v.category).sum ≤ 8)
    (hdg : decode cc pc = .ok (.invokespecial idx, 3)) (hcs : cells + mc ≤ R.cells ∧ slots + ms ≤ R.slots) :
    va_Run p l e R s m args below meth c H locs cells slots mc ms (F0 m pc ls st) rest (Qc (Value.ref b :: As).toArray) (va_A wc H.size) := by
  obtain ⟨⟨hx, hb, hml, hown, htU⟩, hK, hX, hY, hA⟩ := Cx
  have hPc := hP.sub (ws' := wc) isC (sw_fm hC)
  have hDc := hD.sub (ws' := wc) isC hCn hC
  have hFc := va_free hD hS hA isC hC
  exact va_runI (As := As) (rest := rest) ⟨hx, hb, hml, hown, htU⟩ hM (cwI n htU (sw_W hc1) rfl hcz hsz (htU _ hi1) (htU _ hl) (htU _ him) hy1 hd hrf) ⟨sw_blind, sw_pre hPc hK hDc hX hY hS hFc⟩ rfl hAn hls hst (lv_room hre) hdg hcs
end SWN
/-- the plan of a new one, step by step -/
abbrev ct_w1 : PlanT := (1, 0, (fun _ => 0), 1, 0, (fun _ => 0), 0 + 1)
abbrev ct_w2 : PlanT := (1, 0 + 1, upd (fun _ => 0) 0 29, 1 + 29, 0, (fun _ => 0), 0 + 1 + 1)
abbrev ct_w3 : PlanT := (1, 0 + 1, upd (fun _ => 0) 0 29, 1 + 29, 0 + 1, upd (fun _ => 0) 0 3, 0 + 1 + 1 + 1)
theorem ct_h1 : F_X3_beginWith 1 (0, 0, (fun _ => 0), 1, 0, (fun _ => 0), 0) = some ct_w1 := rfl
theorem ct_h2 : F_X3_appendStretch 29 ct_w1 = some ct_w2 := by
  unfold F_X3_appendStretch
  rw [if_neg (show ¬ ct_w1.2.1 < 0 by decide), if_neg (show ¬ 12 ≤ ct_w1.2.1 by decide)]
  unfold ix
  rw [if_neg (by decide)]
  rfl
theorem ct_h3 : F_X3_appendStriker 3 ct_w2 = some ct_w3 := by
  unfold F_X3_appendStriker
  rw [if_neg (show ¬ ct_w2.2.2.2.2.1 < 0 by decide), if_neg (show ¬ 30 ≤ ct_w2.2.2.2.2.1 by decide)]
  unfold ix
  rw [if_neg (by decide)]
  rfl
