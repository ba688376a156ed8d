theorem im_obj : Cond.instanceMethod objectInit ∈ sw_U := sw_in (sw_t1 (List.mem_of_getElem? (i := 36) (by decide +kernel))) rfl
theorem co_obj : Cond.code objectInit ⟨#[0xb1]⟩ 1 none ∈ sw_U := sw_in (sw_t1 (List.mem_of_getElem? (i := 37) (by decide +kernel))) rfl
/-! ===== StringBuilder and String: Latin-1 texts of some hundred signs ===== -/
def sb_F (t : List Int32) : Nat → Int32 := fun j => t.getD j 0
def sb_A (t : List Int32) : Prop := ∀ x ∈ t, 0 ≤ x.toInt ∧ x.toInt < 128
theorem sb_l0 (x : Int32) : x <<< ((0 : Int32) &&& 31) = x := by
  rw [show ((0 : Int32) &&& 31) = 0 from by decide]; exact Int32.shiftLeft_zero
theorem sb_r0 (x : Int32) : x >>> ((0 : Int32) &&& 31) = x := by
  rw [show ((0 : Int32) &&& 31) = 0 from by decide]; exact Int32.shiftRight_zero
theorem sb_esub {a b : Nat} (h : b ≤ a) : nI a - nI b = nI (a - b) := by
  have e : nI a = nI (a - b) + nI b := by rw [nI_add]; congr 1; omega
  rw [e, Int32.sub_eq_add_neg, Int32.add_assoc, Int32.add_right_neg, Int32.add_zero]
theorem sb_c0 : (0 : Int32).toNatClampNeg = 0 := by decide
theorem sb_z (P : Prop) (h : ¬ (0 : Int32) = 0) : P := absurd rfl h
theorem sb_fit {x : Int32} (h : 0 ≤ x.toInt ∧ x.toInt < 128) : fits .byte (.int x) = true := by
  have h1 : (-128 : Int32) ≤ x := Int32.le_iff_toInt_le.mpr (by have e : (-128 : Int32).toInt = -128 := by decide
                                                               omega)
  have h2 : x ≤ (127 : Int32) := Int32.le_iff_toInt_le.mpr (by have e : (127 : Int32).toInt = 127 := by decide
                                                              omega)
  simp [fits, h1, h2]
theorem sb_fit0 : fits .byte (.int 0) = true := by decide
theorem sb_fitF {t : List Int32} (h : sb_A t) (j : Nat) : fits .byte (.int (sb_F t j)) = true := by
  unfold sb_F
  rw [List.getD_eq_getElem?_getD]
  cases e : t[j]? with
  | none => exact sb_fit0
  | some x => exact sb_fit (h x (List.mem_of_getElem? e))
theorem sb_A.app {t s : List Int32} (h : sb_A t) (g : sb_A s) : sb_A (t ++ s) := fun x hx => (List.mem_append.mp hx).elim (h x) (g x)
theorem sb_beyond {t : List Int32} {j : Nat} (h : t.length ≤ j) : sb_F t j = 0 := by
  unfold sb_F
  rw [List.getD_eq_getElem?_getD, List.getElem?_eq_none h]
  rfl
/-- a grown array holds the same text -/
theorem sb_grow {t : List Int32} {m : Nat} (h : t.length ≤ m) : va_cpy (sb_F t) (fun _ => (0 : Int32)) 0 0 m = sb_F t := by
  funext j
  unfold va_cpy
  by_cases c : 0 ≤ j ∧ j < 0 + m
  · rw [if_pos c]
    congr 1
    omega
  · rw [if_neg c]
    exact (sb_beyond (by omega)).symm
/-- the first n of them -/
theorem sb_cut {t : List Int32} {n : Nat} (h : t.length = n) : va_cpy (sb_F t) (fun _ => (0 : Int32)) 0 0 n = sb_F t := sb_grow (Nat.le_of_eq h)
theorem sb_up {t : List Int32} {n : Nat} {x : Int32} (h : t.length = n) : upd (sb_F t) n x = sb_F (t ++ [x]) := by
  funext j
  unfold upd sb_F
  rw [List.getD_eq_getElem?_getD, List.getD_eq_getElem?_getD]
  by_cases c : j = n
  · subst c
    rw [if_pos rfl, ← h, List.getElem?_append_right (Nat.le_refl _)]
    simp
  · rw [if_neg c]
    by_cases d : j < t.length
    · rw [List.getElem?_append_left d]
    · rw [List.getElem?_eq_none (by omega), List.getElem?_eq_none (by simp; omega)]
theorem sb_app {t s : List Int32} {n w : Nat} (h : t.length = n) (g : s.length = w) : va_cpy (sb_F s) (sb_F t) 0 n w = sb_F (t ++ s) := by
  funext j
  unfold va_cpy
  by_cases c : n ≤ j ∧ j < n + w
  · rw [if_pos c]
    unfold sb_F
    rw [List.getD_eq_getElem?_getD, List.getD_eq_getElem?_getD, List.getElem?_append_right (by omega), h, Nat.zero_add]
  · rw [if_neg c]
    unfold sb_F
    rw [List.getD_eq_getElem?_getD, List.getD_eq_getElem?_getD]
    by_cases d : j < t.length
    · rw [List.getElem?_append_left d]
    · rw [List.getElem?_eq_none (by omega), List.getElem?_eq_none (by simp; omega)]
theorem sb_i2b {x : Int32} (h : 0 ≤ x.toInt ∧ x.toInt < 128) : x.toInt8.toInt32 = x := by
  apply Int32.toInt_inj.mp
  rw [Int8.toInt_toInt32, Int32.toInt_toInt8]
  omega
theorem sb_nar {x : Int32} (h : 0 ≤ x.toInt ∧ x.toInt < 128) : vp_nar .byte x = x := by rw [vp_nar_byte, sb_i2b h]
theorem sb_le255 {x : Int32} (h : 0 ≤ x.toInt ∧ x.toInt < 128) : ¬ (255 : Int32) < x := fun c => by
  have e : (255 : Int32).toInt = 255 := by decide
  have := Int32.lt_iff_toInt_lt.mp c
  omega
section SBE
variable {p : Program} {l : Launch} {e : Env} {R : Room} {s : State} {m : MethodId} {args : Array Value} {below : List Frame} {meth : Method} {c : Code} {H : Heap} {locs : List Loc} {cells slots : Nat} {Q : State → Prop} {cc : ByteArray} {pc : Nat} {ls : Array Slot} {rest : List Value}
theorem sb_iadd (hx : p.tables.exec = Jvm.exec) (hb : c.code = cc) {x y v : Int32} (hdg : decode cc pc = .ok (.iadd, 1)) (hv : x + y = v) (k : W p l e R s m args below meth c H locs cells slots Q (F0 m (pc + 1) ls (.int v :: rest))) : W p l e R s m args below meth c H locs cells slots Q (F0 m pc ls (.int y :: .int x :: rest)) := by subst hv; exact lv_iadd hx hb hdg k
theorem sb_isub (hx : p.tables.exec = Jvm.exec) (hb : c.code = cc) {x y v : Int32} (hdg : decode cc pc = .ok (.isub, 1)) (hv : x - y = v) (k : W p l e R s m args below meth c H locs cells slots Q (F0 m (pc + 1) ls (.int v :: rest))) : W p l e R s m args below meth c H locs cells slots Q (F0 m pc ls (.int y :: .int x :: rest)) := by subst hv; exact lv_isub hx hb hdg k
theorem sb_imul (hx : p.tables.exec = Jvm.exec) (hb : c.code = cc) {x y v : Int32} (hdg : decode cc pc = .ok (.imul, 1)) (hv : x * y = v) (k : W p l e R s m args below meth c H locs cells slots Q (F0 m (pc + 1) ls (.int v :: rest))) : W p l e R s m args below meth c H locs cells slots Q (F0 m pc ls (.int y :: .int x :: rest)) := by subst hv; exact lv_imul hx hb hdg k
theorem sb_ishl (hx : p.tables.exec = Jvm.exec) (hb : c.code = cc) {x y v : Int32} (hdg : decode cc pc = .ok (.ishl, 1)) (hv : x <<< (y &&& 31) = v) (k : W p l e R s m args below meth c H locs cells slots Q (F0 m (pc + 1) ls (.int v :: rest))) : W p l e R s m args below meth c H locs cells slots Q (F0 m pc ls (.int y :: .int x :: rest)) := by subst hv; exact lv_ishl hx hb hdg k
theorem sb_ishr (hx : p.tables.exec = Jvm.exec) (hb : c.code = cc) {x y v : Int32} (hdg : decode cc pc = .ok (.ishr, 1)) (hv : x >>> (y &&& 31) = v) (k : W p l e R s m args below meth c H locs cells slots Q (F0 m (pc + 1) ls (.int v :: rest))) : W p l e R s m args below meth c H locs cells slots Q (F0 m pc ls (.int y :: .int x :: rest)) := by subst hv; exact lv_ishr hx hb hdg k
theorem sb_iand (hx : p.tables.exec = Jvm.exec) (hb : c.code = cc) {x y v : Int32} (hdg : decode cc pc = .ok (.iand, 1)) (hv : x &&& y = v) (k : W p l e R s m args below meth c H locs cells slots Q (F0 m (pc + 1) ls (.int v :: rest))) : W p l e R s m args below meth c H locs cells slots Q (F0 m pc ls (.int y :: .int x :: rest)) := by subst hv; exact lv_iand hx hb hdg k
theorem sb_ineg (hx : p.tables.exec = Jvm.exec) (hb : c.code = cc) {x v : Int32} (hdg : decode cc pc = .ok (.ineg, 1)) (hv : -x = v) (k : W p l e R s m args below meth c H locs cells slots Q (F0 m (pc + 1) ls (.int v :: rest))) : W p l e R s m args below meth c H locs cells slots Q (F0 m pc ls (.int x :: rest)) := by subst hv; exact lv_ineg hx hb hdg k
end SBE
/-- a private method of a class that can't be made, on an object below it -/
theorem sb_sel {y : MethodName} {s : State} {args : Array Value} (htU : ∀ w ∈ sw_U, w.before args s = true) (hz : va_Nw (.privateMethod y) s) (hsm : Cond.sameMethod y.cls y.cls y.name y.desc ∈ sw_U) (him : Cond.instanceMethod y ∈ sw_U) : (∀ w ∈ sw_U, w.before args s = true) → (Cond.selects RJ4 y y).before args s = true := fun _ => by
  obtain ⟨c, k, hc, hk, -, -⟩ := Cond.instantiable_spec (htU _ ins_J4)
  obtain ⟨cn, ck, r1, hcn, hck, hni, hf, hn1⟩ := Cond.sameMethod_found (htU _ hsm)
  obtain ⟨mk, methM, hnamed, hmethM, -, -⟩ := Cond.instanceMethod_spec (htU _ him)
  cases hnamed.symm.trans hn1
  have hpriv := Cond.privateMethod_at (va_Nw.use (A := args) rfl hz)
  have hcls : mk.cls = cn := Option.some.inj ((findClass_of_methodNamed hnamed).symm.trans hcn)
  have hsel : selectMethod {} s.vm c mk = .method mk := selectMethod_private hmethM (hpriv mk methM hnamed hmethM)
  simp only [Cond.before, Cond.holds, Cond.value, hc, hf, hnamed, hsel, hcls, hck]
  simp; exact hni
section SBC
variable {p : Program} {l : Launch} {e : Env} {R : Room} {s : State} {m : MethodId} {args : Array Value} {below : List Frame} {meth : Method} {c : Code} {H : Heap} {locs : List Loc} {cells slots : Nat} {Q : State → Prop}
  {cc bytes b0 : ByteArray} {nL maxL n idx b pc mc ms m0 : Nat} {own C : String} {G : va_G} {ca Z : Nat → Nat} {A : Nat → Prop} {ws wc : va_W} {x y : MethodName} {ret r0 : Option FieldType} {rm : Room} {As rest st : List Value} {ls : Array Slot} {Qc : Array Value → State → Outcome → State → Prop}
/-- a call on a StringBuilder of what its superclass declares: inherited, overridden or private -/
theorem sb_runX (Cx : sw_Cx p s m args c cc nL own G ca Z A) (hP : va_P G vwCl ws H) (hD : va_D A ws) (hS : va_S A s.heap H locs) (hl : Cond.methodLink own idx x ∈ sw_U) (hsm : Cond.sameMethod x.cls x.cls x.name x.desc ∈ sw_U) (hix : Cond.instanceMethod x ∈ sw_U) (hcx : Cond.code x b0 m0 r0 ∈ sw_U) (hsel : (∀ w ∈ sw_U, w.before args s = true) → (Cond.selects RJ4 x y).before args s = true) (hiy : Cond.instanceMethod y ∈ sw_U) (hini : Cond.initialized y.cls ∈ sw_U) (hcy : Cond.code y bytes maxL ret ∈ sw_U) (hd : x.cls ≠ "java/lang/invoke/MethodHandle" ∧ x.cls ≠ "java/lang/invoke/VarHandle" ∧ (parseMethodDescriptor x.desc).map (fun d => d.parameters.length) = some n)
    (hM : Met l y (.code y bytes maxL ret :: sw_U) rm (va_Pc (.ref b :: As) (sw_Pre G ca Z wc H.size)) Qc mc ms (va_A wc H.size))
    {fs : List Value} (h0 : wc[0]? = some (b, .inr (8, fs))) (isC : List Nat) (hC : isC.map (fun i => ws[i]?) = wc.map some) (hCn : va_nd isC = true)
    (hcz : rm.cells = mc) (hsz : rm.slots = ms) (hrf : rm.frames + 1 ≤ R.frames ∧ 8 + (maxL + 11) + rm.locals ≤ R.locals) (hls : ls.size = nL) (hst : st = As.reverse ++ .ref b :: rest) (hAn : As.length = n) (hre : (rest.map fun v => v.category).sum ≤ 8)
    (hdg : decode cc pc = .ok (.invokevirtual idx, 3)) (hcs : cells + mc ≤ R.cells ∧ slots + ms ≤ R.slots) :
    va_Run p l e R s m args below meth c H locs cells slots mc ms (F0 m pc ls st) rest (Qc (Value.ref b :: As).toArray) (va_A wc H.size) := by
  obtain ⟨⟨hx, hb, hml, hown, htU⟩, hK, hX, hY, hA⟩ := Cx
  have hPc := hP.sub (ws' := wc) isC (sw_fm hC)
  have hDc := hD.sub (ws' := wc) isC hCn hC
  have hFc := va_free hD hS hA isC hC
  have hrv := va_recv hK hPc (show vwCl[8]? = some (RJ4, TJ4, 4) from rfl) h0
  exact va_runU (x := x) (C := RJ4) (owner := x.cls) (As := As) (rest := rest) ⟨hx, hb, hml, hown, htU⟩ hM
    ⟨⟨hcz, hsz, hrf.1, hrf.2, pay_in htU (sw_W hcy), List.mem_cons_self⟩, htU _ hcy, htU _ hini, ⟨hd.1, hd.2.1⟩, fun sig h => by
      have h2 := hd.2.2
      rw [h] at h2
      exact (Option.some.inj h2).symm, htU _ hl, htU _ hsm, va_Decl.of (htU _ hix) (htU _ hcx), hsel htU, htU _ hiy⟩
    ⟨sw_blind, hrv, sw_pre hPc hK hDc hX hY hS hFc⟩ rfl hAn hls hst (lv_room hre) hdg hcs
/-- super.m(..) on a StringBuilder -/
theorem sb_runU (Cx : sw_Cx p s m args c cc nL RJ4 G ca Z A) (hP : va_P G vwCl ws H) (hD : va_D A ws) (hS : va_S A s.heap H locs) (hl : Cond.methodLink RJ4 idx y ∈ sw_U) (hsm : Cond.sameMethod y.cls y.cls y.name y.desc ∈ sw_U) (hsu : Cond.superclass RJ4 y.cls ∈ sw_U) (hiy : Cond.instanceMethod y ∈ sw_U) (hini : Cond.initialized y.cls ∈ sw_U) (hcy : Cond.code y bytes maxL ret ∈ sw_U) (hd : y.name ≠ "<init>" ∧ (parseMethodDescriptor y.desc).map (fun d => d.parameters.length) = some n)
    (hM : Met l y (.code y bytes maxL ret :: sw_U) rm (va_Pc (.ref b :: As) (sw_Pre G ca Z wc H.size)) Qc mc ms (va_A wc H.size))
    {fs : List Value} (h0 : wc[0]? = some (b, .inr (8, fs))) (isC : List Nat) (hC : isC.map (fun i => ws[i]?) = wc.map some) (hCn : va_nd isC = true)
    (hcz : rm.cells = mc) (hsz : rm.slots = ms) (hrf : rm.frames + 1 ≤ R.frames ∧ 8 + (maxL + 11) + rm.locals ≤ R.locals) (hls : ls.size = nL) (hst : st = As.reverse ++ .ref b :: rest) (hAn : As.length = n) (hre : (rest.map fun v => v.category).sum ≤ 8)
    (hdg : decode cc pc = .ok (.invokespecial idx, 3)) (hcs : cells + mc ≤ R.cells ∧ slots + ms ≤ R.slots) :
    va_Run p l e R s m args below meth c H locs cells slots mc ms (F0 m pc ls st) rest (Qc (Value.ref b :: As).toArray) (va_A wc H.size) := by
  obtain ⟨⟨hx, hb, hml, hown, htU⟩, hK, hX, hY, hA⟩ := Cx
  have hPc := hP.sub (ws' := wc) isC (sw_fm hC)
  have hDc := hD.sub (ws' := wc) isC hCn hC
  have hFc := va_free hD hS hA isC hC
  have hrv := va_recv hK hPc (show vwCl[8]? = some (RJ4, TJ4, 4) from rfl) h0
  exact va_runSU (C := RJ4) (As := As) (rest := rest) (hK.1 8 (RJ4, TJ4, 4) rfl).2 ⟨hx, hb, hml, hown, htU⟩ hM
    (va_cwSU n htU (sw_G (sw_c hl (sw_c hsm (sw_c hsu (sw_c hiy (sw_c hini (sw_c hcy sw_self))))))) rfl hcz hsz hd hrf)
    ⟨sw_blind, hrv, sw_pre hPc hK hDc hX hY hS hFc⟩ rfl hAn hls hst (lv_room hre) hdg hcs
theorem sb_ra {S : Type} {cs : S → va_W} {post : S → Prop} {a0 : Nat} {T : FieldType} (hx : p.tables.exec = Jvm.exec) (hb : c.code = cc) (hr : meth.sig.returnType = some (.array T)) (hlocks : meth.locks = false) (hS : va_S A s.heap H locs) (u : S) (hw : post u) (hP : va_P G vwCl (cs u) H) (hD : va_D A (cs u)) (hdg : decode cc pc = .ok (.areturn, 1)) : W p l e R s m args below meth c H locs cells slots (MQ below (va_Qr post (fun u q t => q = a0 ∧ sw_Post G A cs u t) A) args s cells slots A) (F0 m pc ls [.ref a0]) :=
  W.aret hx hb hr (Or.inr ⟨T, rfl⟩) (Or.inr ⟨a0, rfl⟩) (fun t ht _ => ⟨⟨u, a0, rfl, hw, rfl, by rw [ht]; exact hP, hD⟩, hS.F ht⟩) hS.2.2 hdg hlocks
theorem sb_cr {S : Type} {cs : S → va_W} {post : S → Prop} {f0 : S → Nat} {a : Array Value} (hr : va_Run p l e R s m args below meth c H locs cells slots mc ms (F0 m pc ls st) rest (va_Qr post (fun u q t => q = f0 u ∧ sw_Post G (va_A wc H.size) cs u t) (va_A wc H.size) a) (va_A wc H.size))
    (hP : va_P G vwCl ws H) (hD : va_D A ws) (hS : va_S A s.heap H locs) (hA : ∀ q : Nat, s.heap.size ≤ q → A q) (isC isR pm : List Nat) (hC : isC.map (fun i => ws[i]?) = wc.map some) (hR : isR.map (fun i => ws[i]?) = (isR.filterMap (fun i => ws[i]?)).map some) (hn : va_nd isR = true) (hdis : ∀ i ∈ isR, i ∉ isC)
    (hpm : ∀ u, pm.map (fun i => ((isR.filterMap (fun i => ws[i]?)) ++ cs u)[i]?) = (pm.filterMap (fun i => ((isR.filterMap (fun i => ws[i]?)) ++ cs u)[i]?)).map some) (hpn : va_nd pm = true)
    (kk : ∀ (u : S) (H1 : Heap) (locs1 : List Loc), post u → va_P G vwCl (pm.filterMap (fun i => ((isR.filterMap (fun i => ws[i]?)) ++ cs u)[i]?)) H1 → va_D A (pm.filterMap (fun i => ((isR.filterMap (fun i => ws[i]?)) ++ cs u)[i]?)) → va_S A s.heap H1 locs1 → W p l e R s m args below meth c H1 locs1 (cells + mc) (slots + ms) Q (F0 m (pc + 3) ls (.ref (f0 u) :: rest))) : W p l e R s m args below meth c H locs cells slots Q (F0 m pc ls st) := by
  have hFc := va_free hD hS hA isC hC
  refine va_callr hr hS (fun q _ h => hFc q h) hFc (fun u ra t H1 locs1 ht hvm hw hB hz1 hk1 hS1 => ?_)
  obtain ⟨rfl, hB⟩ := hB
  obtain ⟨hP2, hD2⟩ := sw_back hP hD hS hA isC isR pm hC hR hn hdis hpm hpn ht hB hk1
  exact kk u H1 locs1 hw hP2 hD2 hS1
theorem sb_rr {S : Type} {cs : S → va_W} {post : S → Prop} {f0 : S → Nat} {C : String} {v : Value} (hx : p.tables.exec = Jvm.exec) (hb : c.code = cc) (hr : meth.sig.returnType = some (.object C)) (hlocks : meth.locks = false) (hS : va_S A s.heap H locs) (u : S) (hv : v = .ref (f0 u)) (hw : post u) (hP : va_P G vwCl (cs u) H) (hD : va_D A (cs u)) (hdg : decode cc pc = .ok (.areturn, 1)) : W p l e R s m args below meth c H locs cells slots (MQ below (va_Qr post (fun u q t => q = f0 u ∧ sw_Post G A cs u t) A) args s cells slots A) (F0 m pc ls [v]) := by
  subst hv
  exact W.aret hx hb hr (Or.inl ⟨C, rfl⟩) (Or.inr ⟨f0 u, rfl⟩) (fun t ht _ => ⟨⟨u, f0 u, rfl, hw, rfl, by rw [ht]; exact hP, hD⟩, hS.F ht⟩) hS.2.2 hdg hlocks
theorem sb_rar {S : Type} {cs : S → va_W} {post : S → Prop} {f0 : S → Nat} {T : FieldType} {v : Value} (hx : p.tables.exec = Jvm.exec) (hb : c.code = cc) (hr : meth.sig.returnType = some (.array T)) (hlocks : meth.locks = false) (hS : va_S A s.heap H locs) (u : S) (hv : v = .ref (f0 u)) (hw : post u) (hP : va_P G vwCl (cs u) H) (hD : va_D A (cs u)) (hdg : decode cc pc = .ok (.areturn, 1)) : W p l e R s m args below meth c H locs cells slots (MQ below (va_Qr post (fun u q t => q = f0 u ∧ sw_Post G A cs u t) A) args s cells slots A) (F0 m pc ls [v]) := by
  subst hv
  exact W.aret hx hb hr (Or.inr ⟨T, rfl⟩) (Or.inr ⟨f0 u, rfl⟩) (fun t ht _ => ⟨⟨u, f0 u, rfl, hw, rfl, by rw [ht]; exact hP, hD⟩, hS.F ht⟩) hS.2.2 hdg hlocks
end SBC
theorem ms_J8_newLength_cabcc : sw_MS yJ8_newLength_cabcc cJ8_newLength_cabcc 4 (Option.some Jvm.ClassFile.FieldType.int) 3 := ⟨st_J8_newLength_cabcc, ini_J8, co_J8_newLength_cabcc, by decide +kernel⟩
theorem ms_J7_copyOf_9075b : sw_MS yJ7_copyOf_9075b cJ7_copyOf_9075b 3 (Option.some (Jvm.ClassFile.FieldType.array Jvm.ClassFile.FieldType.byte)) 2 := ⟨st_J7_copyOf_9075b, ini_J7, co_J7_copyOf_9075b, by decide +kernel⟩
theorem ms_J7_copyOfRange_39247 : sw_MS yJ7_copyOfRange_39247 cJ7_copyOfRange_39247 3 (Option.some (Jvm.ClassFile.FieldType.array Jvm.ClassFile.FieldType.byte)) 3 := ⟨st_J7_copyOfRange_39247, ini_J7, co_J7_copyOfRange_39247, by decide +kernel⟩
theorem ms_J7_copyOfRangeByte_39247 : sw_MS yJ7_copyOfRangeByte_39247 cJ7_copyOfRangeByte_39247 5 (Option.some (Jvm.ClassFile.FieldType.array Jvm.ClassFile.FieldType.byte)) 3 := ⟨st_J7_copyOfRangeByte_39247, ini_J7, co_J7_copyOfRangeByte_39247, by decide +kernel⟩
theorem ms_J7_checkLength_df160 : sw_MS yJ7_checkLength_df160 cJ7_checkLength_df160 2 (Option.none : Option Jvm.ClassFile.FieldType) 2 := ⟨st_J7_checkLength_df160, ini_J7, co_J7_checkLength_df160, by decide +kernel⟩
theorem ms_J6_stringSize_0f7a4 : sw_MS yJ6_stringSize_0f7a4 cJ6_stringSize_0f7a4 4 (Option.some Jvm.ClassFile.FieldType.int) 1 := ⟨st_J6_stringSize_0f7a4, ini_J6, co_J6_stringSize_0f7a4, by decide +kernel⟩
theorem ms_J6_getChars_ba4f3 : sw_MS yJ6_getChars_ba4f3 cJ6_getChars_ba4f3 7 (Option.some Jvm.ClassFile.FieldType.int) 3 := ⟨st_J6_getChars_ba4f3, ini_J6, co_J6_getChars_ba4f3, by decide +kernel⟩
theorem ms_J1_canEncode_fc78d : sw_MS yJ1_canEncode_fc78d cJ1_canEncode_fc78d 1 (Option.some Jvm.ClassFile.FieldType.boolean) 1 := ⟨st_J1_canEncode_fc78d, ini_J1, co_J1_canEncode_fc78d, by decide +kernel⟩
theorem mv_J4_append_15ec4 : sw_MV yJ4_append_15ec4 RJ4 cJ4_append_15ec4 2 (Option.some (Jvm.ClassFile.FieldType.object "java/lang/StringBuilder")) 1 := ⟨im_J4_append_15ec4, se_J4_append_15ec4, ini_J4, co_J4_append_15ec4, by decide +kernel⟩
theorem mv_J4_append_cf468 : sw_MV yJ4_append_cf468 RJ4 cJ4_append_cf468 2 (Option.some (Jvm.ClassFile.FieldType.object "java/lang/StringBuilder")) 1 := ⟨im_J4_append_cf468, se_J4_append_cf468, ini_J4, co_J4_append_cf468, by decide +kernel⟩
theorem mv_J4_append_bf812 : sw_MV yJ4_append_bf812 RJ4 cJ4_append_bf812 2 (Option.some (Jvm.ClassFile.FieldType.object "java/lang/StringBuilder")) 1 := ⟨im_J4_append_bf812, se_J4_append_bf812, ini_J4, co_J4_append_bf812, by decide +kernel⟩
theorem mv_J4_toString_0e30d : sw_MV yJ4_toString_0e30d RJ4 cJ4_toString_0e30d 1 (Option.some (Jvm.ClassFile.FieldType.object "java/lang/String")) 0 := ⟨im_J4_toString_0e30d, se_J4_toString_0e30d, ini_J4, co_J4_toString_0e30d, by decide +kernel⟩
abbrev RM_sb_isLatin1 : Room := ({ frames := 0, cells := 0, slots := 0, locals := 0 } : Room)
set_option maxHeartbeats 4000000 in
set_option maxRecDepth 100000 in
theorem c_sb_isLatin1 (l : Launch) (G : va_G) (ca Z : Nat → Nat) (b : Nat) (vv nn : Value) (sz : Nat)  : Met l yJ5_isLatin1_aae02 (.code yJ5_isLatin1_aae02 cJ5_isLatin1_aae02 1 (Option.some Jvm.ClassFile.FieldType.boolean) :: sw_U) RM_sb_isLatin1 (va_Pc [.ref b] (sw_Pre G ca Z [(b, .inr (8, [vv, .int 0, .int 0, nn]))] sz)) ((fun A => va_Qi (fun r (u : Unit) => r = 1) (sw_Post G A (fun (u : Unit) => [(b, .inr (8, [vv, .int 0, .int 0, nn]))])) A) (va_A [(b, .inr (8, [vv, .int 0, .int 0, nn]))] sz)) 0 0 (va_A [(b, .inr (8, [vv, .int 0, .int 0, nn]))] sz) := by
  refine sw_ofW (Qc := fun A => va_Qi (fun r (u : Unit) => r = 1) (sw_Post G A (fun (u : Unit) => [(b, .inr (8, [vv, .int 0, .int 0, nn]))])) A) (by decide +kernel) [(0, .ref b)] rfl (Nat.le_of_ble_eq_true rfl) ?_
  intro p e s m9 args below meth c ls A hx hb hr hml hown htU hlocks hin hP hK hD hX hY hS hA hl
  have hown : s.vm.findClass RJ5 = some m9.cls := hown
  have Cx : sw_Cx p s m args c cJ5_isLatin1_aae02 1 RJ5 G ca Z A := ⟨⟨hx, hb, hml, hown, htU⟩, hK, hX, hY, hA⟩
  have hP : va_P G vwCl [(b, .inr (8, [vv, .int 0, .int 0, nn]))] s.heap := hP
  have hD : va_D A [(b, .inr (8, [vv, .int 0, .int 0, nn]))] := hD
  refine va_gets (v := .int 1) hx hb hX.2.2.2.2.2.2.2.1 hS hown (htU _ fl_J5_18) (fun _ h9 => h9) dJ5_isLatin1_aae02_0 ?_
  refine lv_if_eq (tgt := 17) hx hb dJ5_isLatin1_aae02_3 (by decide) (fun c9 => absurd c9 (by decide)) (fun _ => ?_)
  refine lv_aload_n hx hb dJ5_isLatin1_aae02_6 rfl (lv_at hl 0 rfl) ?_
  refine va_get (v := .int 0) hx hb htU iU_J4 hown hK hP 0 rfl rfl 1 (by decide) (htU _ fl_J5_22) (fun _ h9 => h9) rfl dJ5_isLatin1_aae02_7 ?_
  refine lv_if_ne (tgt := 17) hx hb dJ5_isLatin1_aae02_10 (by decide) (fun c9 => absurd rfl c9) (fun _ => ?_)
  refine lv_iconst (v := 1) hx hb dJ5_isLatin1_aae02_13 (by decide) ?_
  refine lv_goto (tgt := 18) hx hb dJ5_isLatin1_aae02_14 (by decide) ?_
  exact sw_rz hx hb hr rfl hlocks hS () rfl hP hD dJ5_isLatin1_aae02_18
abbrev RM_sb_newLength : Room := ({ frames := 1, cells := 0, slots := 0, locals := 40 } : Room)
set_option maxHeartbeats 4000000 in
set_option maxRecDepth 100000 in
theorem c_sb_newLength (l : Launch) (G : va_G) (ca Z : Nat → Nat) (m g h : Nat) (sz : Nat) (hgh : g < h) (hb : m + h ≤ 1000) : Met l yJ8_newLength_cabcc (.code yJ8_newLength_cabcc cJ8_newLength_cabcc 4 (Option.some Jvm.ClassFile.FieldType.int) :: sw_U) RM_sb_newLength (va_Pc [.int (nI m), .int (nI g), .int (nI h)] (sw_Pre G ca Z [] sz)) ((fun A => va_Qi (fun r (u : Unit) => r = nI (m + h)) (sw_Post G A (fun (u : Unit) => [])) A) (va_A [] sz)) 0 0 (va_A [] sz) := by
  refine sw_ofW (Qc := fun A => va_Qi (fun r (u : Unit) => r = nI (m + h)) (sw_Post G A (fun (u : Unit) => [])) A) (by decide +kernel) [(0, .int (nI m)), (1, .int (nI g)), (2, .int (nI h))] rfl (Nat.le_of_ble_eq_true rfl) ?_
  intro p e s m9 args below meth c ls A hx hb hr hml hown htU hlocks hin hP hK hD hX hY hS hA hl
  have hown : s.vm.findClass RJ8 = some m9.cls := hown
  have Cx : sw_Cx p s m args c cJ8_newLength_cabcc 4 RJ8 G ca Z A := ⟨⟨hx, hb, hml, hown, htU⟩, hK, hX, hY, hA⟩
  have hP : va_P G vwCl [] s.heap := hP
  have hD : va_D A [] := hD
  refine lv_iload_n hx hb dJ8_newLength_cabcc_0 rfl (lv_at hl 0 rfl) ?_
  refine lv_iload_n hx hb dJ8_newLength_cabcc_1 rfl (lv_at hl 1 rfl) ?_
  refine lv_iload_n hx hb dJ8_newLength_cabcc_2 rfl (lv_at hl 2 rfl) ?_
  refine va_mmax hx hb (hml.trans hl.1.symm) hown (htU _ mm_J8_194) (htU _ mm_st_max) (htU _ mm_ini) (htU _ mm_co_max) (Nat.le_of_ble_eq_true rfl) (Nat.le_of_ble_eq_true rfl) (Nat.le_of_ble_eq_true rfl) (Nat.le_of_ble_eq_true rfl) dJ8_newLength_cabcc_3 ?_
  rw [show (if nI g < nI h then nI h else nI g) = nI h from by rw [if_pos (nI_lt (by omega) (by omega))]]
  refine sb_iadd (v := nI (m + h)) hx hb dJ8_newLength_cabcc_6 (nI_add _ _) ?_
  refine lv_istore_n (lv' := [(3, .int (nI (m + h))), (0, .int (nI m)), (1, .int (nI g)), (2, .int (nI h))]) hx hb dJ8_newLength_cabcc_7 rfl hl (by decide) rfl (fun ls hl => ?_)
  refine lv_iconst (v := 0) hx hb dJ8_newLength_cabcc_8 (by decide) ?_
  refine lv_iload_n hx hb dJ8_newLength_cabcc_9 rfl (lv_at hl 0 rfl) ?_
  refine lv_icmp_ge (tgt := 21) hx hb dJ8_newLength_cabcc_10 (by decide) (fun c9 => absurd c9 (nI_ge (by omega) (by omega) : ¬ nI (m + h) ≤ nI 0)) (fun _ => ?_)
  refine lv_iload_n hx hb dJ8_newLength_cabcc_13 rfl (lv_at hl 0 rfl) ?_
  refine lv_ldc (v := 2147483639) hx hb hown (htU _ kc_J8_200) dJ8_newLength_cabcc_14 ?_
  refine lv_icmp_gt (tgt := 21) hx hb dJ8_newLength_cabcc_16 (by decide) (fun c9 => absurd c9 (Int32.not_lt.mpr (by rw [show (2147483639 : Int32) = nI 2147483639 from by decide]; exact nI_le (by omega) (by omega)))) (fun _ => ?_)
  refine lv_iload_n hx hb dJ8_newLength_cabcc_19 rfl (lv_at hl 0 rfl) ?_
  exact sw_ri hx hb hr hlocks hS () rfl hP hD dJ8_newLength_cabcc_20
abbrev RM_sb_newCapacity : Room := ({ frames := 2, cells := 0, slots := 0, locals := 63 } : Room)
set_option maxHeartbeats 4000000 in
set_option maxRecDepth 100000 in
theorem c_sb_newCapacity (l : Launch) (G : va_G) (ca Z : Nat → Nat) (b v n m k : Nat) (t : List Int32) (sz : Nat) (hm : 22 ≤ m) (hm2 : m ≤ 240) (hk : k ≤ m + 16) (hmk : m < k) : Met l yJ5_newCapacity_0f7a4 (.code yJ5_newCapacity_0f7a4 cJ5_newCapacity_0f7a4 6 (Option.some Jvm.ClassFile.FieldType.int) :: sw_U) RM_sb_newCapacity (va_Pc [.ref b, .int (nI k)] (sw_Pre G ca Z [(b, .inr (8, [.ref v, .int 0, .int 0, .int (nI n)])), (v, .inl (ca 1, m, .inl (sb_F t)))] sz)) ((fun A => va_Qi (fun r (u : Unit) => r = nI (m + (m + 2))) (sw_Post G A (fun (u : Unit) => [(b, .inr (8, [.ref v, .int 0, .int 0, .int (nI n)])), (v, .inl (ca 1, m, .inl (sb_F t)))])) A) (va_A [(b, .inr (8, [.ref v, .int 0, .int 0, .int (nI n)])), (v, .inl (ca 1, m, .inl (sb_F t)))] sz)) 0 0 (va_A [(b, .inr (8, [.ref v, .int 0, .int 0, .int (nI n)])), (v, .inl (ca 1, m, .inl (sb_F t)))] sz) := by
  refine sw_ofW (Qc := fun A => va_Qi (fun r (u : Unit) => r = nI (m + (m + 2))) (sw_Post G A (fun (u : Unit) => [(b, .inr (8, [.ref v, .int 0, .int 0, .int (nI n)])), (v, .inl (ca 1, m, .inl (sb_F t)))])) A) (by decide +kernel) [(0, .ref b), (1, .int (nI k))] rfl (Nat.le_of_ble_eq_true rfl) ?_
  intro p e s m9 args below meth c ls A hx hb hr hml hown htU hlocks hin hP hK hD hX hY hS hA hl
  have hown : s.vm.findClass RJ5 = some m9.cls := hown
  have Cx : sw_Cx p s m args c cJ5_newCapacity_0f7a4 6 RJ5 G ca Z A := ⟨⟨hx, hb, hml, hown, htU⟩, hK, hX, hY, hA⟩
  have hP : va_P G vwCl [(b, .inr (8, [.ref v, .int 0, .int 0, .int (nI n)])), (v, .inl (ca 1, m, .inl (sb_F t)))] s.heap := hP
  have hD : va_D A [(b, .inr (8, [.ref v, .int 0, .int 0, .int (nI n)])), (v, .inl (ca 1, m, .inl (sb_F t)))] := hD
  refine lv_aload_n hx hb dJ5_newCapacity_0f7a4_0 rfl (lv_at hl 0 rfl) ?_
  refine va_get (v := .ref v) hx hb htU iU_J4 hown hK hP 0 rfl rfl 0 (by decide) (htU _ fl_J5_15) (fun _ h9 => h9) rfl dJ5_newCapacity_0f7a4_1 ?_
  refine va_alen (v := nI m) hx hb hK hP 1 1 rfl rfl rfl dJ5_newCapacity_0f7a4_4 ?_
  refine lv_istore_n (lv' := [(2, .int (nI m)), (0, .ref b), (1, .int (nI k))]) hx hb dJ5_newCapacity_0f7a4_5 rfl hl (by decide) rfl (fun ls hl => ?_)
  refine lv_iload_n hx hb dJ5_newCapacity_0f7a4_6 rfl (lv_at hl 2 rfl) ?_
  refine lv_aload_n hx hb dJ5_newCapacity_0f7a4_7 rfl (lv_at hl 1 rfl) ?_
  refine va_get (v := .int 0) hx hb htU iU_J4 hown hK hP 0 rfl rfl 1 (by decide) (htU _ fl_J5_22) (fun _ h9 => h9) rfl dJ5_newCapacity_0f7a4_8 ?_
  refine sb_ishl (v := nI k) hx hb dJ5_newCapacity_0f7a4_11 (sb_l0 _) ?_
  refine lv_istore_n (lv' := [(3, .int (nI k)), (2, .int (nI m)), (0, .ref b), (1, .int (nI k))]) hx hb dJ5_newCapacity_0f7a4_12 rfl hl (by decide) rfl (fun ls hl => ?_)
  refine lv_iload_n hx hb dJ5_newCapacity_0f7a4_13 rfl (lv_at hl 0 rfl) ?_
  refine lv_iload_n hx hb dJ5_newCapacity_0f7a4_14 rfl (lv_at hl 1 rfl) ?_
  refine sb_isub (v := nI (k - m)) hx hb dJ5_newCapacity_0f7a4_15 (sb_esub (by omega)) ?_
  refine lv_istore (lv' := [(4, .int (nI (k - m))), (3, .int (nI k)), (2, .int (nI m)), (0, .ref b), (1, .int (nI k))]) hx hb dJ5_newCapacity_0f7a4_16 hl (by decide) rfl (fun ls hl => ?_)
  refine lv_iload_n hx hb dJ5_newCapacity_0f7a4_18 rfl (lv_at hl 2 rfl) ?_
  refine lv_iload hx hb dJ5_newCapacity_0f7a4_19 (lv_at hl 0 rfl) ?_
  refine lv_iload_n hx hb dJ5_newCapacity_0f7a4_21 rfl (lv_at hl 2 rfl) ?_
  refine lv_iconst (v := 2) hx hb dJ5_newCapacity_0f7a4_22 (by decide) ?_
  refine lv_aload_n hx hb dJ5_newCapacity_0f7a4_23 rfl (lv_at hl 3 rfl) ?_
  refine va_get (v := .int 0) hx hb htU iU_J4 hown hK hP 0 rfl rfl 1 (by decide) (htU _ fl_J5_22) (fun _ h9 => h9) rfl dJ5_newCapacity_0f7a4_24 ?_
  refine sb_ishl (v := 2) hx hb dJ5_newCapacity_0f7a4_27 (sb_l0 _) ?_
  refine sb_iadd (v := nI (m + 2)) hx hb dJ5_newCapacity_0f7a4_28 (nI_add m 2) ?_
  refine sw_ci (sw_runS (As := [.int (nI m), .int (nI (k - m)), .int (nI (m + 2))]) (rest := []) Cx hP hD hS ms_J8_newLength_cabcc ml_J5_114 (c_sb_newLength l G ca Z m (k - m) (m + 2) s.heap.size (by omega) (by omega)) [] rfl rfl rfl rfl ⟨(Nat.le_of_ble_eq_true rfl), (Nat.le_of_ble_eq_true rfl)⟩ hl.1 rfl rfl (Nat.le_of_ble_eq_true rfl) dJ5_newCapacity_0f7a4_29 ⟨(Nat.le_of_ble_eq_true rfl), (Nat.le_of_ble_eq_true rfl)⟩) hP hD hS hA [] [0, 1] [0, 1] rfl rfl rfl (by decide) (fun _ => rfl) rfl (fun r _ H locs hw hP hD hS => ?_)
  subst hw
  have hP : va_P G vwCl [(b, .inr (8, [.ref v, .int 0, .int 0, .int (nI n)])), (v, .inl (ca 1, m, .inl (sb_F t)))] H := hP
  have hD : va_D A [(b, .inr (8, [.ref v, .int 0, .int 0, .int (nI n)])), (v, .inl (ca 1, m, .inl (sb_F t)))] := hD
  refine lv_istore (lv' := [(5, .int (nI (m + (m + 2)))), (4, .int (nI (k - m))), (3, .int (nI k)), (2, .int (nI m)), (0, .ref b), (1, .int (nI k))]) hx hb dJ5_newCapacity_0f7a4_32 hl (by decide) rfl (fun ls hl => ?_)
  refine lv_iload hx hb dJ5_newCapacity_0f7a4_34 (lv_at hl 0 rfl) ?_
  refine lv_ldc (v := 2147483647) hx hb hown (htU _ kc_J5_39) dJ5_newCapacity_0f7a4_36 ?_
  refine lv_icmp_ne (tgt := 51) hx hb dJ5_newCapacity_0f7a4_38 (by decide) (fun _ => ?_) (fun c9 => absurd c9 (fun q => absurd (show nI (m + (m + 2)) = nI 2147483647 from q) (fun q => by have := (nI_eq (by omega) (by omega)).mp q; omega)))
  refine lv_iload hx hb dJ5_newCapacity_0f7a4_51 (lv_at hl 0 rfl) ?_
  refine lv_aload_n hx hb dJ5_newCapacity_0f7a4_53 rfl (lv_at hl 4 rfl) ?_
  refine va_get (v := .int 0) hx hb htU iU_J4 hown hK hP 0 rfl rfl 1 (by decide) (htU _ fl_J5_22) (fun _ h9 => h9) rfl dJ5_newCapacity_0f7a4_54 ?_
  refine sb_ishr (v := nI (m + (m + 2))) hx hb dJ5_newCapacity_0f7a4_57 (sb_r0 _) ?_
  exact sw_ri hx hb hr hlocks hS () rfl hP hD dJ5_newCapacity_0f7a4_58
abbrev RM_sb_copyOf : Room := ({ frames := 1, cells := 1, slots := 1024, locals := 40 } : Room)
set_option maxHeartbeats 4000000 in
set_option maxRecDepth 100000 in
theorem c_sb_copyOf (l : Launch) (G : va_G) (ca Z : Nat → Nat) (v m q : Nat) (t : List Int32) (sz : Nat) (hA0 : sb_A t) (ht : t.length ≤ m) (hmq : m < q) (hq : q ≤ 600) : Met l yJ7_copyOf_9075b (.code yJ7_copyOf_9075b cJ7_copyOf_9075b 3 (Option.some (Jvm.ClassFile.FieldType.array Jvm.ClassFile.FieldType.byte)) :: sw_U) RM_sb_copyOf (va_Pc [.ref v, .int (nI q)] (sw_Pre G ca Z [(v, .inl (ca 1, m, .inl (sb_F t)))] sz)) ((fun A => va_Qr (fun (u : Nat) => True) (fun (u : Nat) q t => q = (fun u => u) u ∧ sw_Post G A (fun (u : Nat) => [(v, .inl (ca 1, m, .inl (sb_F t))), (u, .inl (ca 1, q, .inl (sb_F t)))]) u t) A) (va_A [(v, .inl (ca 1, m, .inl (sb_F t)))] sz)) 1 1024 (va_A [(v, .inl (ca 1, m, .inl (sb_F t)))] sz) := by
  refine sw_ofW (Qc := fun A => va_Qr (fun (u : Nat) => True) (fun (u : Nat) q t => q = (fun u => u) u ∧ sw_Post G A (fun (u : Nat) => [(v, .inl (ca 1, m, .inl (sb_F t))), (u, .inl (ca 1, q, .inl (sb_F t)))]) u t) A) (by decide +kernel) [(0, .ref v), (1, .int (nI q))] rfl (Nat.le_of_ble_eq_true rfl) ?_
  intro p e s m9 args below meth c ls A hx hb hr hml hown htU hlocks hin hP hK hD hX hY hS hA hl
  have hown : s.vm.findClass RJ7 = some m9.cls := hown
  have Cx : sw_Cx p s m args c cJ7_copyOf_9075b 3 RJ7 G ca Z A := ⟨⟨hx, hb, hml, hown, htU⟩, hK, hX, hY, hA⟩
  have hP : va_P G vwCl [(v, .inl (ca 1, m, .inl (sb_F t)))] s.heap := hP
  have hD : va_D A [(v, .inl (ca 1, m, .inl (sb_F t)))] := hD
  refine lv_iload_n hx hb dJ7_copyOf_9075b_0 rfl (lv_at hl 1 rfl) ?_
  refine lv_aload_n hx hb dJ7_copyOf_9075b_1 rfl (lv_at hl 0 rfl) ?_
  refine va_alen (v := nI m) hx hb hK hP 0 1 rfl rfl rfl dJ7_copyOf_9075b_2 ?_
  refine lv_icmp_ne (tgt := 14) hx hb dJ7_copyOf_9075b_3 (by decide) (fun _ => ?_) (fun c9 => absurd c9 (fun q => by have := (nI_eq (by omega) (by omega)).mp q; omega))
  refine lv_iload_n hx hb dJ7_copyOf_9075b_14 rfl (lv_at hl 1 rfl) ?_
  refine sw_newb hx hb htU hK hP hD hS hA (nI_pos (by omega)) (nI_clamp (by omega) : (nI q).toNatClampNeg = q) (by show q * 1 ≤ 536870912; omega) (Nat.le_of_ble_eq_true rfl) (by show 0 + q ≤ 1024; omega) dJ7_copyOf_9075b_15 (fun q15 H hP hD hS => ?_)
  have hP : va_P G vwCl [(v, .inl (ca 1, m, .inl (sb_F t))), (q15, .inl (ca 1, q, .inl (fun _ => 0)))] H := hP
  have hD : va_D A [(v, .inl (ca 1, m, .inl (sb_F t))), (q15, .inl (ca 1, q, .inl (fun _ => 0)))] := hD
  refine lv_astore_n (lv' := [(2, .ref q15), (0, .ref v), (1, .int (nI q))]) hx hb dJ7_copyOf_9075b_17 rfl hl (by decide) rfl (fun ls hl => ?_)
  refine lv_aload_n hx hb dJ7_copyOf_9075b_18 rfl (lv_at hl 1 rfl) ?_
  refine lv_iconst (v := 0) hx hb dJ7_copyOf_9075b_19 (by decide) ?_
  refine lv_aload_n hx hb dJ7_copyOf_9075b_20 rfl (lv_at hl 0 rfl) ?_
  refine lv_iconst (v := 0) hx hb dJ7_copyOf_9075b_21 (by decide) ?_
  refine lv_aload_n hx hb dJ7_copyOf_9075b_22 rfl (lv_at hl 1 rfl) ?_
  refine va_alen (v := nI m) hx hb hK hP 0 1 rfl rfl rfl dJ7_copyOf_9075b_23 ?_
  refine lv_iload_n hx hb dJ7_copyOf_9075b_24 rfl (lv_at hl 2 rfl) ?_
  refine va_mmin hx hb (hml.trans hl.1.symm) hown (htU _ mm_J7_304) (htU _ mm_st_min) (htU _ mm_ini) (htU _ mm_co_min) (Nat.le_of_ble_eq_true rfl) (Nat.le_of_ble_eq_true rfl) (Nat.le_of_ble_eq_true rfl) (by show 0 + q + 0 ≤ 1024; omega) dJ7_copyOf_9075b_25 ?_
  rw [show (if nI q < nI m then nI q else nI m) = nI m from by rw [if_neg (nI_nlt (by omega) (by omega))]]
  refine va_copyi hx hb (hml.trans hl.1.symm) hown (htU _ ac_J7_150) (htU _ ac_nat) (htU _ ac_st) (htU _ ac_ini) hK hP hD hS 0 1 1 1 rfl rfl rfl rfl rfl (by decide) (by decide) (nI_pos (by omega)) (by rw [nI_clamp (by omega), sb_c0]; omega) (by rw [nI_clamp (by omega), sb_c0]; omega) (fun i _ => sb_fitF hA0 _) (Nat.le_of_ble_eq_true rfl) (Nat.le_of_ble_eq_true rfl) dJ7_copyOf_9075b_28 (fun H locs hP hD hS => ?_)
  rw [sb_c0, nI_clamp (by omega), sb_grow ht] at hP hD
  have hP : va_P G vwCl [(v, .inl (ca 1, m, .inl (sb_F t))), (q15, .inl (ca 1, q, .inl (sb_F t)))] H := hP
  have hD : va_D A [(v, .inl (ca 1, m, .inl (sb_F t))), (q15, .inl (ca 1, q, .inl (sb_F t)))] := hD
  refine lv_aload_n hx hb dJ7_copyOf_9075b_31 rfl (lv_at hl 0 rfl) ?_
  refine W.widen (k := 1) (n := 1024) (Nat.le_of_ble_eq_true rfl) (by omega) ?_
  exact sb_rar (f0 := fun u => u) hx hb hr hlocks hS q15 rfl trivial hP hD dJ7_copyOf_9075b_32
theorem sb_subI {a b : Nat} (ha : a < 2 ^ 30) (hb : b < 2 ^ 30) : (nI a - nI b).toInt = (a : Int) - b := by
  rw [Int32.toInt_sub, nI_toInt (by omega), nI_toInt (by omega)]
  exact Int.bmod_eq_of_le (by omega) (by omega)
abbrev RM_sb_ensure : Room := ({ frames := 3, cells := 1, slots := 1024, locals := 88 } : Room)
set_option maxHeartbeats 4000000 in
set_option maxRecDepth 100000 in
theorem c_sb_ensure (l : Launch) (G : va_G) (ca Z : Nat → Nat) (b v n m k : Nat) (t : List Int32) (sz : Nat) (hA0 : sb_A t) (ht : t.length ≤ m) (hm : 22 ≤ m) (hm2 : m ≤ 240) (hk : k ≤ m + 16) (hk2 : k ≤ 119) : Met l yJ5_ensureCapacityInternal_d00df (.code yJ5_ensureCapacityInternal_d00df cJ5_ensureCapacityInternal_d00df 3 (Option.none : Option Jvm.ClassFile.FieldType) :: sw_U) RM_sb_ensure (va_Pc [.ref b, .int (nI k)] (sw_Pre G ca Z [(b, .inr (8, [.ref v, .int 0, .int 0, .int (nI n)])), (v, .inl (ca 1, m, .inl (sb_F t)))] sz)) ((fun A => va_Qv (fun (u : Nat × Nat) => k ≤ u.2 ∧ 22 ≤ u.2 ∧ u.2 ≤ 240) (sw_Post G A (fun (u : Nat × Nat) => [(b, .inr (8, [.ref (u.1), .int 0, .int 0, .int (nI n)])), (u.1, .inl (ca 1, u.2, .inl (sb_F t)))])) A) (va_A [(b, .inr (8, [.ref v, .int 0, .int 0, .int (nI n)])), (v, .inl (ca 1, m, .inl (sb_F t)))] sz)) 1 1024 (va_A [(b, .inr (8, [.ref v, .int 0, .int 0, .int (nI n)])), (v, .inl (ca 1, m, .inl (sb_F t)))] sz) := by
  refine sw_ofW (Qc := fun A => va_Qv (fun (u : Nat × Nat) => k ≤ u.2 ∧ 22 ≤ u.2 ∧ u.2 ≤ 240) (sw_Post G A (fun (u : Nat × Nat) => [(b, .inr (8, [.ref (u.1), .int 0, .int 0, .int (nI n)])), (u.1, .inl (ca 1, u.2, .inl (sb_F t)))])) A) (by decide +kernel) [(0, .ref b), (1, .int (nI k))] rfl (Nat.le_of_ble_eq_true rfl) ?_
  intro p e s m9 args below meth c ls A hx hb hr hml hown htU hlocks hin hP hK hD hX hY hS hA hl
  have hown : s.vm.findClass RJ5 = some m9.cls := hown
  have Cx : sw_Cx p s m args c cJ5_ensureCapacityInternal_d00df 3 RJ5 G ca Z A := ⟨⟨hx, hb, hml, hown, htU⟩, hK, hX, hY, hA⟩
  have hP : va_P G vwCl [(b, .inr (8, [.ref v, .int 0, .int 0, .int (nI n)])), (v, .inl (ca 1, m, .inl (sb_F t)))] s.heap := hP
  have hD : va_D A [(b, .inr (8, [.ref v, .int 0, .int 0, .int (nI n)])), (v, .inl (ca 1, m, .inl (sb_F t)))] := hD
  refine lv_aload_n hx hb dJ5_ensureCapacityInternal_d00df_0 rfl (lv_at hl 0 rfl) ?_
  refine va_get (v := .ref v) hx hb htU iU_J4 hown hK hP 0 rfl rfl 0 (by decide) (htU _ fl_J5_15) (fun _ h9 => h9) rfl dJ5_ensureCapacityInternal_d00df_1 ?_
  refine va_alen (v := nI m) hx hb hK hP 1 1 rfl rfl rfl dJ5_ensureCapacityInternal_d00df_4 ?_
  refine lv_aload_n hx hb dJ5_ensureCapacityInternal_d00df_5 rfl (lv_at hl 0 rfl) ?_
  refine va_get (v := .int 0) hx hb htU iU_J4 hown hK hP 0 rfl rfl 1 (by decide) (htU _ fl_J5_22) (fun _ h9 => h9) rfl dJ5_ensureCapacityInternal_d00df_6 ?_
  refine sb_ishr (v := nI m) hx hb dJ5_ensureCapacityInternal_d00df_9 (sb_r0 _) ?_
  refine lv_istore_n (lv' := [(2, .int (nI m)), (0, .ref b), (1, .int (nI k))]) hx hb dJ5_ensureCapacityInternal_d00df_10 rfl hl (by decide) rfl (fun ls hl => ?_)
  refine lv_iload_n hx hb dJ5_ensureCapacityInternal_d00df_11 rfl (lv_at hl 2 rfl) ?_
  refine lv_iload_n hx hb dJ5_ensureCapacityInternal_d00df_12 rfl (lv_at hl 0 rfl) ?_
  refine lv_isub hx hb dJ5_ensureCapacityInternal_d00df_13 ?_
  refine lv_if_le (tgt := 38) hx hb dJ5_ensureCapacityInternal_d00df_14 (by decide) (fun c14 => ?_) (fun c14 => ?_)
  · have hmk : k ≤ m := Nat.le_of_not_lt fun q => absurd c14 (by rw [sb_esub (by omega)]; exact fun c => absurd (show nI (k - m) ≤ nI 0 from c) (nI_ge (by omega) (by omega)))
    refine W.widen (k := 1) (n := 1024) (Nat.le_of_ble_eq_true rfl) (Nat.le_of_ble_eq_true rfl) ?_
    exact sw_rv hx hb hr hlocks hS (v, m) ⟨hmk, hm, hm2⟩ hP hD dJ5_ensureCapacityInternal_d00df_38
  · have hmk : m < k := Nat.lt_of_not_le fun q => c14 (by have : (nI k - nI m).toInt = (k : Int) - m := sb_subI (by omega) (by omega); exact Int32.le_iff_toInt_le.mpr (by rw [this]; show _ ≤ (0 : Int); omega))
    refine lv_aload_n hx hb dJ5_ensureCapacityInternal_d00df_17 rfl (lv_at hl 1 rfl) ?_
    refine lv_aload_n hx hb dJ5_ensureCapacityInternal_d00df_18 rfl (lv_at hl 1 rfl) ?_
    refine va_get (v := .ref v) hx hb htU iU_J4 hown hK hP 0 rfl rfl 0 (by decide) (htU _ fl_J5_15) (fun _ h9 => h9) rfl dJ5_ensureCapacityInternal_d00df_19 ?_
    refine lv_aload_n hx hb dJ5_ensureCapacityInternal_d00df_22 rfl (lv_at hl 1 rfl) ?_
    refine lv_iload_n hx hb dJ5_ensureCapacityInternal_d00df_23 rfl (lv_at hl 2 rfl) ?_
    refine sw_ci (sb_runX (As := [.int (nI k)]) (rest := [.ref v, .ref b]) Cx hP hD hS ml_J5_104 sm_J5_newCapacity_0f7a4 im_J5_newCapacity_0f7a4 co_J5_newCapacity_0f7a4 (sb_sel htU (hY.2.2.2 _ pm_J5_newCapacity_0f7a4 rfl) sm_J5_newCapacity_0f7a4 im_J5_newCapacity_0f7a4) im_J5_newCapacity_0f7a4 ini_J5 co_J5_newCapacity_0f7a4 (by decide +kernel) (c_sb_newCapacity l G ca Z b v n m k t s.heap.size hm hm2 hk hmk) rfl [0, 1] rfl rfl rfl rfl ⟨(Nat.le_of_ble_eq_true rfl), (Nat.le_of_ble_eq_true rfl)⟩ hl.1 rfl rfl (Nat.le_of_ble_eq_true rfl) dJ5_ensureCapacityInternal_d00df_24 ⟨(Nat.le_of_ble_eq_true rfl), (Nat.le_of_ble_eq_true rfl)⟩) hP hD hS hA [0, 1] [] [0, 1] rfl rfl rfl (by decide) (fun _ => rfl) rfl (fun r _ H locs hw hP hD hS => ?_)
    subst hw
    have hP : va_P G vwCl [(b, .inr (8, [.ref v, .int 0, .int 0, .int (nI n)])), (v, .inl (ca 1, m, .inl (sb_F t)))] H := hP
    have hD : va_D A [(b, .inr (8, [.ref v, .int 0, .int 0, .int (nI n)])), (v, .inl (ca 1, m, .inl (sb_F t)))] := hD
    refine lv_aload_n hx hb dJ5_ensureCapacityInternal_d00df_27 rfl (lv_at hl 1 rfl) ?_
    refine va_get (v := .int 0) hx hb htU iU_J4 hown hK hP 0 rfl rfl 1 (by decide) (htU _ fl_J5_22) (fun _ h9 => h9) rfl dJ5_ensureCapacityInternal_d00df_28 ?_
    refine sb_ishl (v := nI (m + (m + 2))) hx hb dJ5_ensureCapacityInternal_d00df_31 (sb_l0 _) ?_
    refine sb_cr (f0 := fun u => u) (sw_runS (As := [.ref v, .int (nI (m + (m + 2)))]) (rest := [.ref b]) Cx hP hD hS ms_J7_copyOf_9075b ml_J5_108 (c_sb_copyOf l G ca Z v m (m + (m + 2)) t H.size hA0 ht (by omega) (by omega)) [1] rfl rfl rfl rfl ⟨(Nat.le_of_ble_eq_true rfl), (Nat.le_of_ble_eq_true rfl)⟩ hl.1 rfl rfl (Nat.le_of_ble_eq_true rfl) dJ5_ensureCapacityInternal_d00df_32 ⟨(Nat.le_of_ble_eq_true rfl), (Nat.le_of_ble_eq_true rfl)⟩) hP hD hS hA [1] [0] [0, 1, 2] rfl rfl rfl (by decide) (fun _ => rfl) rfl (fun u H locs hw hP hD hS => ?_)
    have hP : va_P G vwCl [(b, .inr (8, [.ref v, .int 0, .int 0, .int (nI n)])), (v, .inl (ca 1, m, .inl (sb_F t))), (u, .inl (ca 1, m + (m + 2), .inl (sb_F t)))] H := hP
    have hD : va_D A [(b, .inr (8, [.ref v, .int 0, .int 0, .int (nI n)])), (v, .inl (ca 1, m, .inl (sb_F t))), (u, .inl (ca 1, m + (m + 2), .inl (sb_F t)))] := hD
    refine va_put (v := .ref u) (ty := (.array .byte)) hx hb htU iU_J4 tyJ4 tyJ4_ok nmJ4 hown hK hP hD hS 0 rfl rfl 0 (by decide) (htU _ fl_J5_15) (fun _ h9 => h9) rfl (by decide +kernel) rfl rfl (Nat.le_of_ble_eq_true rfl) dJ5_ensureCapacityInternal_d00df_35 (fun H locs hP hD hS => ?_)
    have hP : va_P G vwCl [(b, .inr (8, [.ref u, .int 0, .int 0, .int (nI n)])), (v, .inl (ca 1, m, .inl (sb_F t))), (u, .inl (ca 1, m + (m + 2), .inl (sb_F t)))] H := hP
    have hD : va_D A [(b, .inr (8, [.ref u, .int 0, .int 0, .int (nI n)])), (v, .inl (ca 1, m, .inl (sb_F t))), (u, .inl (ca 1, m + (m + 2), .inl (sb_F t)))] := hD
    have hP : va_P G vwCl [(b, .inr (8, [.ref u, .int 0, .int 0, .int (nI n)])), (u, .inl (ca 1, m + (m + 2), .inl (sb_F t)))] H := hP.sub [0, 2] rfl
    have hD : va_D A [(b, .inr (8, [.ref u, .int 0, .int 0, .int (nI n)])), (u, .inl (ca 1, m + (m + 2), .inl (sb_F t)))] := hD.sub [0, 2] rfl rfl
    exact sw_rv hx hb hr hlocks hS (u, m + (m + 2)) ⟨by show k ≤ m + (m + 2); omega, by show 22 ≤ m + (m + 2); omega, by show m + (m + 2) ≤ 240; omega⟩ hP hD dJ5_ensureCapacityInternal_d00df_38
abbrev RM_sb_canEncode : Room := ({ frames := 0, cells := 0, slots := 0, locals := 0 } : Room)
set_option maxHeartbeats 4000000 in
set_option maxRecDepth 100000 in
theorem c_sb_canEncode (l : Launch) (G : va_G) (ca Z : Nat → Nat) (x : Int32) (sz : Nat) (hx0 : 0 ≤ x.toInt ∧ x.toInt < 128) : Met l yJ1_canEncode_fc78d (.code yJ1_canEncode_fc78d cJ1_canEncode_fc78d 1 (Option.some Jvm.ClassFile.FieldType.boolean) :: sw_U) RM_sb_canEncode (va_Pc [.int x] (sw_Pre G ca Z [] sz)) ((fun A => va_Qi (fun r (u : Unit) => r = 1) (sw_Post G A (fun (u : Unit) => [])) A) (va_A [] sz)) 0 0 (va_A [] sz) := by
  refine sw_ofW (Qc := fun A => va_Qi (fun r (u : Unit) => r = 1) (sw_Post G A (fun (u : Unit) => [])) A) (by decide +kernel) [(0, .int x)] rfl (Nat.le_of_ble_eq_true rfl) ?_
  intro p e s m9 args below meth c ls A hx hb hr hml hown htU hlocks hin hP hK hD hX hY hS hA hl
  have hown : s.vm.findClass RJ1 = some m9.cls := hown
  have Cx : sw_Cx p s m args c cJ1_canEncode_fc78d 1 RJ1 G ca Z A := ⟨⟨hx, hb, hml, hown, htU⟩, hK, hX, hY, hA⟩
  have hP : va_P G vwCl [] s.heap := hP
  have hD : va_D A [] := hD
  refine lv_iload_n hx hb dJ1_canEncode_fc78d_0 rfl (lv_at hl 0 rfl) ?_
  refine lv_sipush (v := 255) hx hb dJ1_canEncode_fc78d_1 (by decide) ?_
  refine lv_icmp_gt (tgt := 11) hx hb dJ1_canEncode_fc78d_4 (by decide) (fun c9 => absurd c9 (sb_le255 hx0)) (fun _ => ?_)
  refine lv_iconst (v := 1) hx hb dJ1_canEncode_fc78d_7 (by decide) ?_
  refine lv_goto (tgt := 12) hx hb dJ1_canEncode_fc78d_8 (by decide) ?_
  exact sw_rz hx hb hr rfl hlocks hS () rfl hP hD dJ1_canEncode_fc78d_12
abbrev RM_sb_appC : Room := ({ frames := 4, cells := 1, slots := 1024, locals := 110 } : Room)
set_option maxHeartbeats 4000000 in
set_option maxRecDepth 100000 in
theorem c_sb_appC (l : Launch) (G : va_G) (ca Z : Nat → Nat) (b v n m : Nat) (t : List Int32) (x : Int32) (sz : Nat) (hA0 : sb_A t) (htn : t.length = n) (hnm : n ≤ m) (hm : 22 ≤ m) (hm2 : m ≤ 240) (hx0 : 0 ≤ x.toInt ∧ x.toInt < 128) (hn : n + 1 ≤ 119) : Met l yJ5_append_3fe6f (.code yJ5_append_3fe6f cJ5_append_3fe6f 2 (Option.some (Jvm.ClassFile.FieldType.object "java/lang/AbstractStringBuilder")) :: sw_U) RM_sb_appC (va_Pc [.ref b, .int x] (sw_Pre G ca Z [(b, .inr (8, [.ref v, .int 0, .int 0, .int (nI n)])), (v, .inl (ca 1, m, .inl (sb_F t)))] sz)) ((fun A => va_Qr (fun (u : Nat × Nat) => n + 1 ≤ u.2 ∧ 22 ≤ u.2 ∧ u.2 ≤ 240) (fun (u : Nat × Nat) q t => q = b ∧ sw_Post G A (fun (u : Nat × Nat) => [(b, .inr (8, [.ref (u.1), .int 0, .int 0, .int (nI (n + 1))])), (u.1, .inl (ca 1, u.2, .inl (sb_F (t ++ [x]))))]) u t) A) (va_A [(b, .inr (8, [.ref v, .int 0, .int 0, .int (nI n)])), (v, .inl (ca 1, m, .inl (sb_F t)))] sz)) 1 1024 (va_A [(b, .inr (8, [.ref v, .int 0, .int 0, .int (nI n)])), (v, .inl (ca 1, m, .inl (sb_F t)))] sz) := by
  refine sw_ofW (Qc := fun A => va_Qr (fun (u : Nat × Nat) => n + 1 ≤ u.2 ∧ 22 ≤ u.2 ∧ u.2 ≤ 240) (fun (u : Nat × Nat) q t => q = b ∧ sw_Post G A (fun (u : Nat × Nat) => [(b, .inr (8, [.ref (u.1), .int 0, .int 0, .int (nI (n + 1))])), (u.1, .inl (ca 1, u.2, .inl (sb_F (t ++ [x]))))]) u t) A) (by decide +kernel) [(0, .ref b), (1, .int x)] rfl (Nat.le_of_ble_eq_true rfl) ?_
  intro p e s m9 args below meth c ls A hx hb hr hml hown htU hlocks hin hP hK hD hX hY hS hA hl
  have hown : s.vm.findClass RJ5 = some m9.cls := hown
  have Cx : sw_Cx p s m args c cJ5_append_3fe6f 2 RJ5 G ca Z A := ⟨⟨hx, hb, hml, hown, htU⟩, hK, hX, hY, hA⟩
  have hP : va_P G vwCl [(b, .inr (8, [.ref v, .int 0, .int 0, .int (nI n)])), (v, .inl (ca 1, m, .inl (sb_F t)))] s.heap := hP
  have hD : va_D A [(b, .inr (8, [.ref v, .int 0, .int 0, .int (nI n)])), (v, .inl (ca 1, m, .inl (sb_F t)))] := hD
  refine lv_aload_n hx hb dJ5_append_3fe6f_0 rfl (lv_at hl 0 rfl) ?_
  refine lv_aload_n hx hb dJ5_append_3fe6f_1 rfl (lv_at hl 0 rfl) ?_
  refine va_get (v := .int (nI n)) hx hb htU iU_J4 hown hK hP 0 rfl rfl 3 (by decide) (htU _ fl_J5_79) (fun _ h9 => h9) rfl dJ5_append_3fe6f_2 ?_
  refine lv_iconst (v := 1) hx hb dJ5_append_3fe6f_5 (by decide) ?_
  refine sb_iadd (v := nI (n + 1)) hx hb dJ5_append_3fe6f_6 (nI_1 n) ?_
  refine sw_cv (sb_runX (As := [.int (nI (n + 1))]) (rest := []) Cx hP hD hS ml_J5_100 sm_J5_ensureCapacityInternal_d00df im_J5_ensureCapacityInternal_d00df co_J5_ensureCapacityInternal_d00df (sb_sel htU (hY.2.2.2 _ pm_J5_ensureCapacityInternal_d00df rfl) sm_J5_ensureCapacityInternal_d00df im_J5_ensureCapacityInternal_d00df) im_J5_ensureCapacityInternal_d00df ini_J5 co_J5_ensureCapacityInternal_d00df (by decide +kernel) (c_sb_ensure l G ca Z b v n m (n + 1) t s.heap.size hA0 (by omega) hm hm2 (by omega) (by omega)) rfl [0, 1] rfl rfl rfl rfl ⟨(Nat.le_of_ble_eq_true rfl), (Nat.le_of_ble_eq_true rfl)⟩ hl.1 rfl rfl (Nat.le_of_ble_eq_true rfl) dJ5_append_3fe6f_7 ⟨(Nat.le_of_ble_eq_true rfl), (Nat.le_of_ble_eq_true rfl)⟩) hP hD hS hA [0, 1] [] [0, 1] rfl rfl rfl (by decide) (fun _ => rfl) rfl (fun u H locs hw hP hD hS => ?_)
  obtain ⟨g1, g2, g3⟩ := hw
  have hP : va_P G vwCl [(b, .inr (8, [.ref (u.1), .int 0, .int 0, .int (nI n)])), (u.1, .inl (ca 1, u.2, .inl (sb_F t)))] H := hP
  have hD : va_D A [(b, .inr (8, [.ref (u.1), .int 0, .int 0, .int (nI n)])), (u.1, .inl (ca 1, u.2, .inl (sb_F t)))] := hD
  refine lv_aload_n hx hb dJ5_append_3fe6f_10 rfl (lv_at hl 0 rfl) ?_
  refine sw_ci (sb_runX (As := []) (rest := []) Cx hP hD hS ml_J5_83 sm_J5_isLatin1_aae02 im_J5_isLatin1_aae02 co_J5_isLatin1_aae02 (fun h9 => h9 _ sx_J5_isLatin1_aae02) im_J5_isLatin1_aae02 ini_J5 co_J5_isLatin1_aae02 (by decide +kernel) (c_sb_isLatin1 l G ca Z b (.ref u.1) (.int (nI n)) H.size) rfl [0] rfl rfl rfl rfl ⟨(Nat.le_of_ble_eq_true rfl), (Nat.le_of_ble_eq_true rfl)⟩ hl.1 rfl rfl (Nat.le_of_ble_eq_true rfl) dJ5_append_3fe6f_11 ⟨(Nat.le_of_ble_eq_true rfl), (Nat.le_of_ble_eq_true rfl)⟩) hP hD hS hA [0] [1] [1, 0] rfl rfl rfl (by decide) (fun _ => rfl) rfl (fun r _ H locs hw hP hD hS => ?_)
  subst hw
  have hP : va_P G vwCl [(b, .inr (8, [.ref (u.1), .int 0, .int 0, .int (nI n)])), (u.1, .inl (ca 1, u.2, .inl (sb_F t)))] H := hP
  have hD : va_D A [(b, .inr (8, [.ref (u.1), .int 0, .int 0, .int (nI n)])), (u.1, .inl (ca 1, u.2, .inl (sb_F t)))] := hD
  refine lv_if_eq (tgt := 45) hx hb dJ5_append_3fe6f_14 (by decide) (fun c9 => absurd c9 (by decide)) (fun _ => ?_)
  refine lv_iload_n hx hb dJ5_append_3fe6f_17 rfl (lv_at hl 1 rfl) ?_
  refine sw_ci (sw_runS (As := [.int x]) (rest := []) Cx hP hD hS ms_J1_canEncode_fc78d ml_J5_191 (c_sb_canEncode l G ca Z x H.size hx0) [] rfl rfl rfl rfl ⟨(Nat.le_of_ble_eq_true rfl), (Nat.le_of_ble_eq_true rfl)⟩ hl.1 rfl rfl (Nat.le_of_ble_eq_true rfl) dJ5_append_3fe6f_18 ⟨(Nat.le_of_ble_eq_true rfl), (Nat.le_of_ble_eq_true rfl)⟩) hP hD hS hA [] [0, 1] [0, 1] rfl rfl rfl (by decide) (fun _ => rfl) rfl (fun r _ H locs hw hP hD hS => ?_)
  subst hw
  have hP : va_P G vwCl [(b, .inr (8, [.ref (u.1), .int 0, .int 0, .int (nI n)])), (u.1, .inl (ca 1, u.2, .inl (sb_F t)))] H := hP
  have hD : va_D A [(b, .inr (8, [.ref (u.1), .int 0, .int 0, .int (nI n)])), (u.1, .inl (ca 1, u.2, .inl (sb_F t)))] := hD
  refine lv_if_eq (tgt := 45) hx hb dJ5_append_3fe6f_21 (by decide) (fun c9 => absurd c9 (by decide)) (fun _ => ?_)
  refine lv_aload_n hx hb dJ5_append_3fe6f_24 rfl (lv_at hl 0 rfl) ?_
  refine va_get (v := .ref (u.1)) hx hb htU iU_J4 hown hK hP 0 rfl rfl 0 (by decide) (htU _ fl_J5_15) (fun _ h9 => h9) rfl dJ5_append_3fe6f_25 ?_
  refine lv_aload_n hx hb dJ5_append_3fe6f_28 rfl (lv_at hl 0 rfl) ?_
  refine lv_dup hx hb dJ5_append_3fe6f_29 rfl ?_
  refine va_get (v := .int (nI n)) hx hb htU iU_J4 hown hK hP 0 rfl rfl 3 (by decide) (htU _ fl_J5_79) (fun _ h9 => h9) rfl dJ5_append_3fe6f_30 ?_
  refine lv_dup_x1 hx hb dJ5_append_3fe6f_33 rfl rfl ?_
  refine lv_iconst (v := 1) hx hb dJ5_append_3fe6f_34 (by decide) ?_
  refine sb_iadd (v := nI (n + 1)) hx hb dJ5_append_3fe6f_35 (nI_1 n) ?_
  refine va_put (v := .int (nI (n + 1))) (ty := .int) hx hb htU iU_J4 tyJ4 tyJ4_ok nmJ4 hown hK hP hD hS 0 rfl rfl 3 (by decide) (htU _ fl_J5_79) (fun _ h9 => h9) rfl (by decide +kernel) rfl rfl (Nat.le_of_ble_eq_true rfl) dJ5_append_3fe6f_36 (fun H locs hP hD hS => ?_)
  have hP : va_P G vwCl [(b, .inr (8, [.ref (u.1), .int 0, .int 0, .int (nI (n + 1))])), (u.1, .inl (ca 1, u.2, .inl (sb_F t)))] H := hP
  have hD : va_D A [(b, .inr (8, [.ref (u.1), .int 0, .int 0, .int (nI (n + 1))])), (u.1, .inl (ca 1, u.2, .inl (sb_F t)))] := hD
  refine lv_iload_n hx hb dJ5_append_3fe6f_39 rfl (lv_at hl 1 rfl) ?_
  refine lv_i2b (v := x) hx hb dJ5_append_3fe6f_40 (sb_i2b hx0) ?_
  refine va_bast hx hb hK hP hD hS 1 1 rfl rfl (nI_in (by omega) (by omega)) dJ5_append_3fe6f_41 (fun H locs hP hD hS => ?_)
  rw [nI_clamp (by omega), sb_nar hx0, sb_up htn] at hP hD
  have hP : va_P G vwCl [(b, .inr (8, [.ref (u.1), .int 0, .int 0, .int (nI (n + 1))])), (u.1, .inl (ca 1, u.2, .inl (sb_F (t ++ [x]))))] H := hP
  have hD : va_D A [(b, .inr (8, [.ref (u.1), .int 0, .int 0, .int (nI (n + 1))])), (u.1, .inl (ca 1, u.2, .inl (sb_F (t ++ [x]))))] := hD
  refine lv_goto (tgt := 75) hx hb dJ5_append_3fe6f_42 (by decide) ?_
  refine lv_aload_n hx hb dJ5_append_3fe6f_75 rfl (lv_at hl 0 rfl) ?_
  exact sw_rr hx hb hr hlocks hS u ⟨g1, g2, g3⟩ hP hD dJ5_append_3fe6f_76
theorem sb_k1 {k : Nat} (h : k < 6) : F_J0_coder_7d493 k = some 0 := by
  unfold F_J0_coder_7d493 kl
  rw [if_pos h]
theorem sb_k2 {k : Nat} (h : k < 6) : F_J0_length_8abf5 k = some (nI (sw_len.getD k 0)) := by
  unfold F_J0_length_8abf5 kl
  rw [if_pos h, sb_k1 h]
  show some (sw_sl k >>> ((0 : Int32) &&& 31)) = _
  rw [sb_r0]
  rfl
theorem sb_k3 {k : Nat} (h : k < 6) : (sw_byt.getD k []).length = sw_len.getD k 0 ∧ sw_len.getD k 0 ≤ 8 ∧ sb_A (sw_byt.getD k []) := by
  rcases (show k = 0 ∨ k = 1 ∨ k = 2 ∨ k = 3 ∨ k = 4 ∨ k = 5 by omega) with rfl | rfl | rfl | rfl | rfl | rfl <;> exact ⟨rfl, by decide, by decide +kernel⟩
abbrev RM_sb_inflateIf : Room := ({ frames := 1, cells := 0, slots := 0, locals := 20 } : Room)
set_option maxHeartbeats 4000000 in
set_option maxRecDepth 100000 in
theorem c_sb_inflateIf (l : Launch) (G : va_G) (ca Z : Nat → Nat) (b k : Nat) (vv nn : Value) (sz : Nat) (hk6 : k < 6) : Met l yJ5_inflateIfNeededFor_a7421 (.code yJ5_inflateIfNeededFor_a7421 cJ5_inflateIfNeededFor_a7421 2 (Option.none : Option Jvm.ClassFile.FieldType) :: sw_U) RM_sb_inflateIf (va_Pc [.ref b, .ref (Z (20 + k))] (sw_Pre G ca Z [(b, .inr (8, [vv, .int 0, .int 0, nn]))] sz)) ((fun A => va_Qv (fun (u : Unit) => True) (sw_Post G A (fun (u : Unit) => [(b, .inr (8, [vv, .int 0, .int 0, nn]))])) A) (va_A [(b, .inr (8, [vv, .int 0, .int 0, nn]))] sz)) 0 0 (va_A [(b, .inr (8, [vv, .int 0, .int 0, nn]))] sz) := by
  refine sw_ofW (Qc := fun A => va_Qv (fun (u : Unit) => True) (sw_Post G A (fun (u : Unit) => [(b, .inr (8, [vv, .int 0, .int 0, nn]))])) A) (by decide +kernel) [(0, .ref b), (1, .ref (Z (20 + k)))] rfl (Nat.le_of_ble_eq_true rfl) ?_
  intro p e s m9 args below meth c ls A hx hb hr hml hown htU hlocks hin hP hK hD hX hY hS hA hl
  have hown : s.vm.findClass RJ5 = some m9.cls := hown
  have Cx : sw_Cx p s m args c cJ5_inflateIfNeededFor_a7421 2 RJ5 G ca Z A := ⟨⟨hx, hb, hml, hown, htU⟩, hK, hX, hY, hA⟩
  have hP : va_P G vwCl [(b, .inr (8, [vv, .int 0, .int 0, nn]))] s.heap := hP
  have hD : va_D A [(b, .inr (8, [vv, .int 0, .int 0, nn]))] := hD
  refine va_gets (v := .int 1) hx hb hX.2.2.2.2.2.2.2.1 hS hown (htU _ fl_J5_18) (fun _ h9 => h9) dJ5_inflateIfNeededFor_a7421_0 ?_
  refine lv_if_eq (tgt := 21) hx hb dJ5_inflateIfNeededFor_a7421_3 (by decide) (fun c9 => absurd c9 (by decide)) (fun _ => ?_)
  refine lv_aload_n hx hb dJ5_inflateIfNeededFor_a7421_6 rfl (lv_at hl 0 rfl) ?_
  refine va_get (v := .int 0) hx hb htU iU_J4 hown hK hP 0 rfl rfl 1 (by decide) (htU _ fl_J5_22) (fun _ h9 => h9) rfl dJ5_inflateIfNeededFor_a7421_7 ?_
  refine lv_aload_n hx hb dJ5_inflateIfNeededFor_a7421_10 rfl (lv_at hl 1 rfl) ?_
  refine sw_ci (sw_runR (As := []) (rest := [.int 0]) Cx hP hD hS mv_J0_coder_7d493 ml_J5_40 (c_J0_coder_7d493 l G ca Z s.heap.size k 0 (sb_k1 hk6)) (sw_rcS hX hS hk6) [] rfl rfl rfl rfl ⟨(Nat.le_of_ble_eq_true rfl), (Nat.le_of_ble_eq_true rfl)⟩ hl.1 rfl rfl (Nat.le_of_ble_eq_true rfl) dJ5_inflateIfNeededFor_a7421_11 ⟨(Nat.le_of_ble_eq_true rfl), (Nat.le_of_ble_eq_true rfl)⟩) hP hD hS hA [] [0] [0] rfl rfl rfl (by decide) (fun _ => rfl) rfl (fun r _ H locs hw hP hD hS => ?_)
  subst hw
  have hP : va_P G vwCl [(b, .inr (8, [vv, .int 0, .int 0, nn]))] H := hP
  have hD : va_D A [(b, .inr (8, [vv, .int 0, .int 0, nn]))] := hD
  refine lv_icmp_eq (tgt := 21) hx hb dJ5_inflateIfNeededFor_a7421_14 (by decide) (fun _ => ?_) (fun c9 => absurd (rfl : (0 : Int32) = 0) c9)
  exact sw_rv hx hb hr hlocks hS () trivial hP hD dJ5_inflateIfNeededFor_a7421_21
abbrev RM_sb_getBytes : Room := ({ frames := 1, cells := 0, slots := 0, locals := 40 } : Room)
set_option maxHeartbeats 4000000 in
set_option maxRecDepth 100000 in
theorem c_sb_getBytes (l : Launch) (G : va_G) (ca Z : Nat → Nat) (k v n m : Nat) (t : List Int32) (sz : Nat) (hk6 : k < 6) (htn : t.length = n) (hnm : n + sw_len.getD k 0 ≤ m) (hm2 : m ≤ 240) : Met l yJ0_getBytes_840e7 (.code yJ0_getBytes_840e7 cJ0_getBytes_840e7 4 (Option.none : Option Jvm.ClassFile.FieldType) :: sw_U) RM_sb_getBytes (va_Pc [.ref (Z (20 + k)), .ref v, .int (nI n), .int 0] (sw_Pre G ca Z [(v, .inl (ca 1, m, .inl (sb_F t)))] sz)) ((fun A => va_Qv (fun (u : Unit) => True) (sw_Post G A (fun (u : Unit) => [(v, .inl (ca 1, m, .inl (sb_F (t ++ sw_byt.getD k []))))])) A) (va_A [(v, .inl (ca 1, m, .inl (sb_F t)))] sz)) 0 0 (va_A [(v, .inl (ca 1, m, .inl (sb_F t)))] sz) := by
  refine sw_ofW (Qc := fun A => va_Qv (fun (u : Unit) => True) (sw_Post G A (fun (u : Unit) => [(v, .inl (ca 1, m, .inl (sb_F (t ++ sw_byt.getD k []))))])) A) (by decide +kernel) [(0, .ref (Z (20 + k))), (1, .ref v), (2, .int (nI n)), (3, .int 0)] rfl (Nat.le_of_ble_eq_true rfl) ?_
  intro p e s m9 args below meth c ls A hx hb hr hml hown htU hlocks hin hP hK hD hX hY hS hA hl
  have hown : s.vm.findClass RJ0 = some m9.cls := hown
  have Cx : sw_Cx p s m args c cJ0_getBytes_840e7 4 RJ0 G ca Z A := ⟨⟨hx, hb, hml, hown, htU⟩, hK, hX, hY, hA⟩
  have hP : va_P G vwCl [(v, .inl (ca 1, m, .inl (sb_F t)))] s.heap := hP
  have hD : va_D A [(v, .inl (ca 1, m, .inl (sb_F t)))] := hD
  refine lv_aload_n hx hb dJ0_getBytes_840e7_0 rfl (lv_at hl 0 rfl) ?_
  refine sw_ci (sw_runR (As := []) (rest := []) Cx hP hD hS mv_J0_coder_7d493 ml_J0_335 (c_J0_coder_7d493 l G ca Z s.heap.size k 0 (sb_k1 hk6)) (sw_rcS hX hS hk6) [] rfl rfl rfl rfl ⟨(Nat.le_of_ble_eq_true rfl), (Nat.le_of_ble_eq_true rfl)⟩ hl.1 rfl rfl (Nat.le_of_ble_eq_true rfl) dJ0_getBytes_840e7_1 ⟨(Nat.le_of_ble_eq_true rfl), (Nat.le_of_ble_eq_true rfl)⟩) hP hD hS hA [] [0] [0] rfl rfl rfl (by decide) (fun _ => rfl) rfl (fun r _ H locs hw hP hD hS => ?_)
  subst hw
  have hP : va_P G vwCl [(v, .inl (ca 1, m, .inl (sb_F t)))] H := hP
  have hD : va_D A [(v, .inl (ca 1, m, .inl (sb_F t)))] := hD
  refine lv_iload_n hx hb dJ0_getBytes_840e7_4 rfl (lv_at hl 3 rfl) ?_
  refine lv_icmp_ne (tgt := 28) hx hb dJ0_getBytes_840e7_5 (by decide) (fun c9 => absurd rfl c9) (fun _ => ?_)
  refine lv_aload_n hx hb dJ0_getBytes_840e7_8 rfl (lv_at hl 0 rfl) ?_
  refine vk_getf (v := .ref (Z (40 + k))) hx hb (sw_sC hX hk6).2.1 hS hown (htU _ fl_J0_9) (fun _ h9 => h9) dJ0_getBytes_840e7_9 ?_
  refine lv_iconst (v := 0) hx hb dJ0_getBytes_840e7_12 (by decide) ?_
  refine lv_aload_n hx hb dJ0_getBytes_840e7_13 rfl (lv_at hl 1 rfl) ?_
  refine lv_iload_n hx hb dJ0_getBytes_840e7_14 rfl (lv_at hl 2 rfl) ?_
  refine lv_iload_n hx hb dJ0_getBytes_840e7_15 rfl (lv_at hl 3 rfl) ?_
  refine sb_ishl (v := nI n) hx hb dJ0_getBytes_840e7_16 (sb_l0 _) ?_
  refine lv_aload_n hx hb dJ0_getBytes_840e7_17 rfl (lv_at hl 0 rfl) ?_
  refine vk_getf (v := .ref (Z (40 + k))) hx hb (sw_sC hX hk6).2.1 hS hown (htU _ fl_J0_9) (fun _ h9 => h9) dJ0_getBytes_840e7_18 ?_
  refine va_tlen (v := nI (sw_len.getD k 0)) hx hb (sw_sC hX hk6).2.2 hS rfl dJ0_getBytes_840e7_21 ?_
  obtain ⟨k1, k2, k3⟩ := sb_k3 hk6
  refine vk_copyt hx hb (hml.trans hl.1.symm) hown (htU _ ac_J0_212) (htU _ ac_nat) (htU _ ac_st) (htU _ ac_ini) hK hP hD hS (f := sb_F (sw_byt.getD k [])) (sw_sC hX hk6).2.2 0 1 rfl rfl (by decide) (nI_pos (by omega)) (nI_pos (by omega)) (by rw [nI_clamp (by omega), sb_c0]; omega) (by rw [nI_clamp (by omega), nI_clamp (by omega)]; omega) (fun i _ => sb_fitF k3 _) (Nat.le_of_ble_eq_true rfl) (Nat.le_of_ble_eq_true rfl) dJ0_getBytes_840e7_22 (fun H locs hP hD hS => ?_)
  rw [sb_c0, nI_clamp (by omega), nI_clamp (by omega), sb_app htn k1] at hP hD
  have hP : va_P G vwCl [(v, .inl (ca 1, m, .inl (sb_F (t ++ sw_byt.getD k []))))] H := hP
  have hD : va_D A [(v, .inl (ca 1, m, .inl (sb_F (t ++ sw_byt.getD k []))))] := hD
  refine lv_goto (tgt := 43) hx hb dJ0_getBytes_840e7_25 (by decide) ?_
  exact sw_rv hx hb hr hlocks hS () trivial hP hD dJ0_getBytes_840e7_43
theorem mv_J0_getBytes_840e7 : sw_MV yJ0_getBytes_840e7 RJ0 cJ0_getBytes_840e7 4 (Option.none : Option Jvm.ClassFile.FieldType) 3 := ⟨im_J0_getBytes_840e7, se_J0_getBytes_840e7, ini_J0, co_J0_getBytes_840e7, by decide +kernel⟩
abbrev RM_sb_put : Room := ({ frames := 2, cells := 0, slots := 0, locals := 63 } : Room)
set_option maxHeartbeats 4000000 in
set_option maxRecDepth 100000 in
theorem c_sb_put (l : Launch) (G : va_G) (ca Z : Nat → Nat) (b v n m k : Nat) (t : List Int32) (sz : Nat) (hk6 : k < 6) (htn : t.length = n) (hnm : n + sw_len.getD k 0 ≤ m) (hm2 : m ≤ 240) : Met l yJ5_putStringAt_47b60 (.code yJ5_putStringAt_47b60 cJ5_putStringAt_47b60 3 (Option.none : Option Jvm.ClassFile.FieldType) :: sw_U) RM_sb_put (va_Pc [.ref b, .int (nI n), .ref (Z (20 + k))] (sw_Pre G ca Z [(b, .inr (8, [.ref v, .int 0, .int 0, .int (nI n)])), (v, .inl (ca 1, m, .inl (sb_F t)))] sz)) ((fun A => va_Qv (fun (u : Unit) => True) (sw_Post G A (fun (u : Unit) => [(b, .inr (8, [.ref v, .int 0, .int 0, .int (nI n)])), (v, .inl (ca 1, m, .inl (sb_F (t ++ sw_byt.getD k []))))])) A) (va_A [(b, .inr (8, [.ref v, .int 0, .int 0, .int (nI n)])), (v, .inl (ca 1, m, .inl (sb_F t)))] sz)) 0 0 (va_A [(b, .inr (8, [.ref v, .int 0, .int 0, .int (nI n)])), (v, .inl (ca 1, m, .inl (sb_F t)))] sz) := by
  refine sw_ofW (Qc := fun A => va_Qv (fun (u : Unit) => True) (sw_Post G A (fun (u : Unit) => [(b, .inr (8, [.ref v, .int 0, .int 0, .int (nI n)])), (v, .inl (ca 1, m, .inl (sb_F (t ++ sw_byt.getD k []))))])) A) (by decide +kernel) [(0, .ref b), (1, .int (nI n)), (2, .ref (Z (20 + k)))] rfl (Nat.le_of_ble_eq_true rfl) ?_
  intro p e s m9 args below meth c ls A hx hb hr hml hown htU hlocks hin hP hK hD hX hY hS hA hl
  have hown : s.vm.findClass RJ5 = some m9.cls := hown
  have Cx : sw_Cx p s m args c cJ5_putStringAt_47b60 3 RJ5 G ca Z A := ⟨⟨hx, hb, hml, hown, htU⟩, hK, hX, hY, hA⟩
  have hP : va_P G vwCl [(b, .inr (8, [.ref v, .int 0, .int 0, .int (nI n)])), (v, .inl (ca 1, m, .inl (sb_F t)))] s.heap := hP
  have hD : va_D A [(b, .inr (8, [.ref v, .int 0, .int 0, .int (nI n)])), (v, .inl (ca 1, m, .inl (sb_F t)))] := hD
  refine lv_aload_n hx hb dJ5_putStringAt_47b60_0 rfl (lv_at hl 0 rfl) ?_
  refine lv_aload_n hx hb dJ5_putStringAt_47b60_1 rfl (lv_at hl 2 rfl) ?_
  refine sw_cv (sb_runX (As := [.ref (Z (20 + k))]) (rest := []) Cx hP hD hS ml_J5_397 sm_J5_inflateIfNeededFor_a7421 im_J5_inflateIfNeededFor_a7421 co_J5_inflateIfNeededFor_a7421 (sb_sel htU (hY.2.2.2 _ pm_J5_inflateIfNeededFor_a7421 rfl) sm_J5_inflateIfNeededFor_a7421 im_J5_inflateIfNeededFor_a7421) im_J5_inflateIfNeededFor_a7421 ini_J5 co_J5_inflateIfNeededFor_a7421 (by decide +kernel) (c_sb_inflateIf l G ca Z b k (.ref v) (.int (nI n)) s.heap.size hk6) rfl [0] rfl rfl rfl rfl ⟨(Nat.le_of_ble_eq_true rfl), (Nat.le_of_ble_eq_true rfl)⟩ hl.1 rfl rfl (Nat.le_of_ble_eq_true rfl) dJ5_putStringAt_47b60_2 ⟨(Nat.le_of_ble_eq_true rfl), (Nat.le_of_ble_eq_true rfl)⟩) hP hD hS hA [0] [1] [1, 0] rfl rfl rfl (by decide) (fun _ => rfl) rfl (fun _ H locs hw hP hD hS => ?_)
  have hP : va_P G vwCl [(b, .inr (8, [.ref v, .int 0, .int 0, .int (nI n)])), (v, .inl (ca 1, m, .inl (sb_F t)))] H := hP
  have hD : va_D A [(b, .inr (8, [.ref v, .int 0, .int 0, .int (nI n)])), (v, .inl (ca 1, m, .inl (sb_F t)))] := hD
  refine lv_aload_n hx hb dJ5_putStringAt_47b60_5 rfl (lv_at hl 2 rfl) ?_
  refine lv_aload_n hx hb dJ5_putStringAt_47b60_6 rfl (lv_at hl 0 rfl) ?_
  refine va_get (v := .ref v) hx hb htU iU_J4 hown hK hP 0 rfl rfl 0 (by decide) (htU _ fl_J5_15) (fun _ h9 => h9) rfl dJ5_putStringAt_47b60_7 ?_
  refine lv_iload_n hx hb dJ5_putStringAt_47b60_10 rfl (lv_at hl 1 rfl) ?_
  refine lv_aload_n hx hb dJ5_putStringAt_47b60_11 rfl (lv_at hl 0 rfl) ?_
  refine va_get (v := .int 0) hx hb htU iU_J4 hown hK hP 0 rfl rfl 1 (by decide) (htU _ fl_J5_22) (fun _ h9 => h9) rfl dJ5_putStringAt_47b60_12 ?_
  refine sw_cv (sw_runR (As := [.ref v, .int (nI n), .int 0]) (rest := []) Cx hP hD hS mv_J0_getBytes_840e7 ml_J5_399 (c_sb_getBytes l G ca Z k v n m t H.size hk6 htn hnm hm2) (sw_rcS hX hS hk6) [1] rfl rfl rfl rfl ⟨(Nat.le_of_ble_eq_true rfl), (Nat.le_of_ble_eq_true rfl)⟩ hl.1 rfl rfl (Nat.le_of_ble_eq_true rfl) dJ5_putStringAt_47b60_15 ⟨(Nat.le_of_ble_eq_true rfl), (Nat.le_of_ble_eq_true rfl)⟩) hP hD hS hA [1] [0] [0, 1] rfl rfl rfl (by decide) (fun _ => rfl) rfl (fun _ H locs hw hP hD hS => ?_)
  have hP : va_P G vwCl [(b, .inr (8, [.ref v, .int 0, .int 0, .int (nI n)])), (v, .inl (ca 1, m, .inl (sb_F (t ++ sw_byt.getD k []))))] H := hP
  have hD : va_D A [(b, .inr (8, [.ref v, .int 0, .int 0, .int (nI n)])), (v, .inl (ca 1, m, .inl (sb_F (t ++ sw_byt.getD k []))))] := hD
  exact sw_rv hx hb hr hlocks hS () trivial hP hD dJ5_putStringAt_47b60_18
abbrev RM_sb_appS : Room := ({ frames := 4, cells := 1, slots := 1024, locals := 110 } : Room)
set_option maxHeartbeats 4000000 in
set_option maxRecDepth 100000 in
theorem c_sb_appS (l : Launch) (G : va_G) (ca Z : Nat → Nat) (b v n m : Nat) (t : List Int32) (k : Nat) (sz : Nat) (hA0 : sb_A t) (htn : t.length = n) (hnm : n ≤ m) (hm : 22 ≤ m) (hm2 : m ≤ 240) (hk6 : k < 6) (hn : n + sw_len.getD k 0 ≤ 119) : Met l yJ5_append_cf1ce (.code yJ5_append_cf1ce cJ5_append_cf1ce 3 (Option.some (Jvm.ClassFile.FieldType.object "java/lang/AbstractStringBuilder")) :: sw_U) RM_sb_appS (va_Pc [.ref b, .ref (Z (20 + k))] (sw_Pre G ca Z [(b, .inr (8, [.ref v, .int 0, .int 0, .int (nI n)])), (v, .inl (ca 1, m, .inl (sb_F t)))] sz)) ((fun A => va_Qr (fun (u : Nat × Nat) => n + sw_len.getD k 0 ≤ u.2 ∧ 22 ≤ u.2 ∧ u.2 ≤ 240) (fun (u : Nat × Nat) q t => q = b ∧ sw_Post G A (fun (u : Nat × Nat) => [(b, .inr (8, [.ref (u.1), .int 0, .int 0, .int (nI (n + sw_len.getD k 0))])), (u.1, .inl (ca 1, u.2, .inl (sb_F (t ++ sw_byt.getD k []))))]) u t) A) (va_A [(b, .inr (8, [.ref v, .int 0, .int 0, .int (nI n)])), (v, .inl (ca 1, m, .inl (sb_F t)))] sz)) 1 1024 (va_A [(b, .inr (8, [.ref v, .int 0, .int 0, .int (nI n)])), (v, .inl (ca 1, m, .inl (sb_F t)))] sz) := by
  refine sw_ofW (Qc := fun A => va_Qr (fun (u : Nat × Nat) => n + sw_len.getD k 0 ≤ u.2 ∧ 22 ≤ u.2 ∧ u.2 ≤ 240) (fun (u : Nat × Nat) q t => q = b ∧ sw_Post G A (fun (u : Nat × Nat) => [(b, .inr (8, [.ref (u.1), .int 0, .int 0, .int (nI (n + sw_len.getD k 0))])), (u.1, .inl (ca 1, u.2, .inl (sb_F (t ++ sw_byt.getD k []))))]) u t) A) (by decide +kernel) [(0, .ref b), (1, .ref (Z (20 + k)))] rfl (Nat.le_of_ble_eq_true rfl) ?_
  intro p e s m9 args below meth c ls A hx hb hr hml hown htU hlocks hin hP hK hD hX hY hS hA hl
  have hown : s.vm.findClass RJ5 = some m9.cls := hown
  have Cx : sw_Cx p s m args c cJ5_append_cf1ce 3 RJ5 G ca Z A := ⟨⟨hx, hb, hml, hown, htU⟩, hK, hX, hY, hA⟩
  have hP : va_P G vwCl [(b, .inr (8, [.ref v, .int 0, .int 0, .int (nI n)])), (v, .inl (ca 1, m, .inl (sb_F t)))] s.heap := hP
  have hD : va_D A [(b, .inr (8, [.ref v, .int 0, .int 0, .int (nI n)])), (v, .inl (ca 1, m, .inl (sb_F t)))] := hD
  obtain ⟨k1, k2, k3⟩ := sb_k3 hk6
  refine lv_aload_n hx hb dJ5_append_cf1ce_0 rfl (lv_at hl 1 rfl) ?_
  refine lv_ifnonnull (tgt := 9) hx hb dJ5_append_cf1ce_1 (by decide) ?_
  refine lv_aload_n hx hb dJ5_append_cf1ce_9 rfl (lv_at hl 1 rfl) ?_
  refine sw_ci (sw_runR (As := []) (rest := []) Cx hP hD hS mv_J0_length_8abf5 ml_J5_32 (c_J0_length_8abf5 l G ca Z s.heap.size k (nI (sw_len.getD k 0)) (sb_k2 hk6)) (sw_rcS hX hS hk6) [] rfl rfl rfl rfl ⟨(Nat.le_of_ble_eq_true rfl), (Nat.le_of_ble_eq_true rfl)⟩ hl.1 rfl rfl (Nat.le_of_ble_eq_true rfl) dJ5_append_cf1ce_10 ⟨(Nat.le_of_ble_eq_true rfl), (Nat.le_of_ble_eq_true rfl)⟩) hP hD hS hA [] [0, 1] [0, 1] rfl rfl rfl (by decide) (fun _ => rfl) rfl (fun r _ H locs hw hP hD hS => ?_)
  subst hw
  have hP : va_P G vwCl [(b, .inr (8, [.ref v, .int 0, .int 0, .int (nI n)])), (v, .inl (ca 1, m, .inl (sb_F t)))] H := hP
  have hD : va_D A [(b, .inr (8, [.ref v, .int 0, .int 0, .int (nI n)])), (v, .inl (ca 1, m, .inl (sb_F t)))] := hD
  refine lv_istore_n (lv' := [(2, .int (nI (sw_len.getD k 0))), (0, .ref b), (1, .ref (Z (20 + k)))]) hx hb dJ5_append_cf1ce_13 rfl hl (by decide) rfl (fun ls hl => ?_)
  refine lv_aload_n hx hb dJ5_append_cf1ce_14 rfl (lv_at hl 1 rfl) ?_
  refine lv_aload_n hx hb dJ5_append_cf1ce_15 rfl (lv_at hl 1 rfl) ?_
  refine va_get (v := .int (nI n)) hx hb htU iU_J4 hown hK hP 0 rfl rfl 3 (by decide) (htU _ fl_J5_79) (fun _ h9 => h9) rfl dJ5_append_cf1ce_16 ?_
  refine lv_iload_n hx hb dJ5_append_cf1ce_19 rfl (lv_at hl 0 rfl) ?_
  refine sb_iadd (v := nI (n + sw_len.getD k 0)) hx hb dJ5_append_cf1ce_20 (nI_add _ _) ?_
  refine sw_cv (sb_runX (As := [.int (nI (n + sw_len.getD k 0))]) (rest := []) Cx hP hD hS ml_J5_100 sm_J5_ensureCapacityInternal_d00df im_J5_ensureCapacityInternal_d00df co_J5_ensureCapacityInternal_d00df (sb_sel htU (hY.2.2.2 _ pm_J5_ensureCapacityInternal_d00df rfl) sm_J5_ensureCapacityInternal_d00df im_J5_ensureCapacityInternal_d00df) im_J5_ensureCapacityInternal_d00df ini_J5 co_J5_ensureCapacityInternal_d00df (by decide +kernel) (c_sb_ensure l G ca Z b v n m (n + sw_len.getD k 0) t H.size hA0 (by omega) hm hm2 (by omega) (by omega)) rfl [0, 1] rfl rfl rfl rfl ⟨(Nat.le_of_ble_eq_true rfl), (Nat.le_of_ble_eq_true rfl)⟩ hl.1 rfl rfl (Nat.le_of_ble_eq_true rfl) dJ5_append_cf1ce_21 ⟨(Nat.le_of_ble_eq_true rfl), (Nat.le_of_ble_eq_true rfl)⟩) hP hD hS hA [0, 1] [] [0, 1] rfl rfl rfl (by decide) (fun _ => rfl) rfl (fun u H locs hw hP hD hS => ?_)
  obtain ⟨g1, g2, g3⟩ := hw
  have hP : va_P G vwCl [(b, .inr (8, [.ref (u.1), .int 0, .int 0, .int (nI n)])), (u.1, .inl (ca 1, u.2, .inl (sb_F t)))] H := hP
  have hD : va_D A [(b, .inr (8, [.ref (u.1), .int 0, .int 0, .int (nI n)])), (u.1, .inl (ca 1, u.2, .inl (sb_F t)))] := hD
  refine lv_aload_n hx hb dJ5_append_cf1ce_24 rfl (lv_at hl 1 rfl) ?_
  refine lv_aload_n hx hb dJ5_append_cf1ce_25 rfl (lv_at hl 1 rfl) ?_
  refine va_get (v := .int (nI n)) hx hb htU iU_J4 hown hK hP 0 rfl rfl 3 (by decide) (htU _ fl_J5_79) (fun _ h9 => h9) rfl dJ5_append_cf1ce_26 ?_
  refine lv_aload_n hx hb dJ5_append_cf1ce_29 rfl (lv_at hl 2 rfl) ?_
  refine sw_cv (sb_runX (As := [.int (nI n), .ref (Z (20 + k))]) (rest := []) Cx hP hD hS ml_J5_208 sm_J5_putStringAt_47b60 im_J5_putStringAt_47b60 co_J5_putStringAt_47b60 (sb_sel htU (hY.2.2.2 _ pm_J5_putStringAt_47b60 rfl) sm_J5_putStringAt_47b60 im_J5_putStringAt_47b60) im_J5_putStringAt_47b60 ini_J5 co_J5_putStringAt_47b60 (by decide +kernel) (c_sb_put l G ca Z b u.1 n u.2 k t H.size hk6 htn g1 g3) rfl [0, 1] rfl rfl rfl rfl ⟨(Nat.le_of_ble_eq_true rfl), (Nat.le_of_ble_eq_true rfl)⟩ hl.1 rfl rfl (Nat.le_of_ble_eq_true rfl) dJ5_append_cf1ce_30 ⟨(Nat.le_of_ble_eq_true rfl), (Nat.le_of_ble_eq_true rfl)⟩) hP hD hS hA [0, 1] [] [0, 1] rfl rfl rfl (by decide) (fun _ => rfl) rfl (fun _ H locs hw hP hD hS => ?_)
  have hP : va_P G vwCl [(b, .inr (8, [.ref (u.1), .int 0, .int 0, .int (nI n)])), (u.1, .inl (ca 1, u.2, .inl (sb_F (t ++ sw_byt.getD k []))))] H := hP
  have hD : va_D A [(b, .inr (8, [.ref (u.1), .int 0, .int 0, .int (nI n)])), (u.1, .inl (ca 1, u.2, .inl (sb_F (t ++ sw_byt.getD k []))))] := hD
  refine lv_aload_n hx hb dJ5_append_cf1ce_33 rfl (lv_at hl 1 rfl) ?_
  refine lv_dup hx hb dJ5_append_cf1ce_34 rfl ?_
  refine va_get (v := .int (nI n)) hx hb htU iU_J4 hown hK hP 0 rfl rfl 3 (by decide) (htU _ fl_J5_79) (fun _ h9 => h9) rfl dJ5_append_cf1ce_35 ?_
  refine lv_iload_n hx hb dJ5_append_cf1ce_38 rfl (lv_at hl 0 rfl) ?_
  refine sb_iadd (v := nI (n + sw_len.getD k 0)) hx hb dJ5_append_cf1ce_39 (nI_add _ _) ?_
  refine va_put (v := .int (nI (n + sw_len.getD k 0))) (ty := .int) hx hb htU iU_J4 tyJ4 tyJ4_ok nmJ4 hown hK hP hD hS 0 rfl rfl 3 (by decide) (htU _ fl_J5_79) (fun _ h9 => h9) rfl (by decide +kernel) rfl rfl (Nat.le_of_ble_eq_true rfl) dJ5_append_cf1ce_40 (fun H locs hP hD hS => ?_)
  have hP : va_P G vwCl [(b, .inr (8, [.ref (u.1), .int 0, .int 0, .int (nI (n + sw_len.getD k 0))])), (u.1, .inl (ca 1, u.2, .inl (sb_F (t ++ sw_byt.getD k []))))] H := hP
  have hD : va_D A [(b, .inr (8, [.ref (u.1), .int 0, .int 0, .int (nI (n + sw_len.getD k 0))])), (u.1, .inl (ca 1, u.2, .inl (sb_F (t ++ sw_byt.getD k []))))] := hD
  refine lv_aload_n hx hb dJ5_append_cf1ce_43 rfl (lv_at hl 1 rfl) ?_
  exact sw_rr hx hb hr hlocks hS u ⟨g1, g2, g3⟩ hP hD dJ5_append_cf1ce_44
abbrev RM_sb_AppC : Room := ({ frames := 5, cells := 1, slots := 1024, locals := 131 } : Room)
set_option maxHeartbeats 4000000 in
set_option maxRecDepth 100000 in
theorem c_sb_AppC (l : Launch) (G : va_G) (ca Z : Nat → Nat) (b v n m : Nat) (t : List Int32) (x : Int32) (sz : Nat) (hA0 : sb_A t) (htn : t.length = n) (hnm : n ≤ m) (hm : 22 ≤ m) (hm2 : m ≤ 240) (hx0 : 0 ≤ x.toInt ∧ x.toInt < 128) (hn : n + 1 ≤ 119) : Met l yJ4_append_cf468 (.code yJ4_append_cf468 cJ4_append_cf468 2 (Option.some (Jvm.ClassFile.FieldType.object "java/lang/StringBuilder")) :: sw_U) RM_sb_AppC (va_Pc [.ref b, .int x] (sw_Pre G ca Z [(b, .inr (8, [.ref v, .int 0, .int 0, .int (nI n)])), (v, .inl (ca 1, m, .inl (sb_F t)))] sz)) ((fun A => va_Qr (fun (u : Nat × Nat) => n + 1 ≤ u.2 ∧ 22 ≤ u.2 ∧ u.2 ≤ 240) (fun (u : Nat × Nat) q t => q = b ∧ sw_Post G A (fun (u : Nat × Nat) => [(b, .inr (8, [.ref (u.1), .int 0, .int 0, .int (nI (n + 1))])), (u.1, .inl (ca 1, u.2, .inl (sb_F (t ++ [x]))))]) u t) A) (va_A [(b, .inr (8, [.ref v, .int 0, .int 0, .int (nI n)])), (v, .inl (ca 1, m, .inl (sb_F t)))] sz)) 1 1024 (va_A [(b, .inr (8, [.ref v, .int 0, .int 0, .int (nI n)])), (v, .inl (ca 1, m, .inl (sb_F t)))] sz) := by
  refine sw_ofW (Qc := fun A => va_Qr (fun (u : Nat × Nat) => n + 1 ≤ u.2 ∧ 22 ≤ u.2 ∧ u.2 ≤ 240) (fun (u : Nat × Nat) q t => q = b ∧ sw_Post G A (fun (u : Nat × Nat) => [(b, .inr (8, [.ref (u.1), .int 0, .int 0, .int (nI (n + 1))])), (u.1, .inl (ca 1, u.2, .inl (sb_F (t ++ [x]))))]) u t) A) (by decide +kernel) [(0, .ref b), (1, .int x)] rfl (Nat.le_of_ble_eq_true rfl) ?_
  intro p e s m9 args below meth c ls A hx hb hr hml hown htU hlocks hin hP hK hD hX hY hS hA hl
  have hown : s.vm.findClass RJ4 = some m9.cls := hown
  have Cx : sw_Cx p s m args c cJ4_append_cf468 2 RJ4 G ca Z A := ⟨⟨hx, hb, hml, hown, htU⟩, hK, hX, hY, hA⟩
  have hP : va_P G vwCl [(b, .inr (8, [.ref v, .int 0, .int 0, .int (nI n)])), (v, .inl (ca 1, m, .inl (sb_F t)))] s.heap := hP
  have hD : va_D A [(b, .inr (8, [.ref v, .int 0, .int 0, .int (nI n)])), (v, .inl (ca 1, m, .inl (sb_F t)))] := hD
  refine lv_aload_n hx hb dJ4_append_cf468_0 rfl (lv_at hl 0 rfl) ?_
  refine lv_iload_n hx hb dJ4_append_cf468_1 rfl (lv_at hl 1 rfl) ?_
  refine sw_cr (sb_runU (As := [.int x]) (rest := []) Cx hP hD hS ml_J4_50 sm_J5_append_3fe6f sup_J4 im_J5_append_3fe6f ini_J5 co_J5_append_3fe6f (by decide +kernel) (c_sb_appC l G ca Z b v n m t x s.heap.size hA0 htn hnm hm hm2 hx0 hn) rfl [0, 1] rfl rfl rfl rfl ⟨(Nat.le_of_ble_eq_true rfl), (Nat.le_of_ble_eq_true rfl)⟩ hl.1 rfl rfl (Nat.le_of_ble_eq_true rfl) dJ4_append_cf468_2 ⟨(Nat.le_of_ble_eq_true rfl), (Nat.le_of_ble_eq_true rfl)⟩) hP hD hS hA [0, 1] [] [0, 1] rfl rfl rfl (by decide) (fun _ => rfl) rfl (fun u H locs hw hP hD hS => ?_)
  have hP : va_P G vwCl [(b, .inr (8, [.ref (u.1), .int 0, .int 0, .int (nI (n + 1))])), (u.1, .inl (ca 1, u.2, .inl (sb_F (t ++ [x]))))] H := hP
  have hD : va_D A [(b, .inr (8, [.ref (u.1), .int 0, .int 0, .int (nI (n + 1))])), (u.1, .inl (ca 1, u.2, .inl (sb_F (t ++ [x]))))] := hD
  refine lv_pop hx hb dJ4_append_cf468_5 rfl ?_
  refine lv_aload_n hx hb dJ4_append_cf468_6 rfl (lv_at hl 0 rfl) ?_
  exact sw_rr hx hb hr hlocks hS u hw hP hD dJ4_append_cf468_7
abbrev RM_sb_AppS : Room := ({ frames := 5, cells := 1, slots := 1024, locals := 132 } : Room)
set_option maxHeartbeats 4000000 in
set_option maxRecDepth 100000 in
theorem c_sb_AppS (l : Launch) (G : va_G) (ca Z : Nat → Nat) (b v n m : Nat) (t : List Int32) (k : Nat) (sz : Nat) (hA0 : sb_A t) (htn : t.length = n) (hnm : n ≤ m) (hm : 22 ≤ m) (hm2 : m ≤ 240) (hk6 : k < 6) (hn : n + sw_len.getD k 0 ≤ 119) : Met l yJ4_append_15ec4 (.code yJ4_append_15ec4 cJ4_append_15ec4 2 (Option.some (Jvm.ClassFile.FieldType.object "java/lang/StringBuilder")) :: sw_U) RM_sb_AppS (va_Pc [.ref b, .ref (Z (20 + k))] (sw_Pre G ca Z [(b, .inr (8, [.ref v, .int 0, .int 0, .int (nI n)])), (v, .inl (ca 1, m, .inl (sb_F t)))] sz)) ((fun A => va_Qr (fun (u : Nat × Nat) => n + sw_len.getD k 0 ≤ u.2 ∧ 22 ≤ u.2 ∧ u.2 ≤ 240) (fun (u : Nat × Nat) q t => q = b ∧ sw_Post G A (fun (u : Nat × Nat) => [(b, .inr (8, [.ref (u.1), .int 0, .int 0, .int (nI (n + sw_len.getD k 0))])), (u.1, .inl (ca 1, u.2, .inl (sb_F (t ++ sw_byt.getD k []))))]) u t) A) (va_A [(b, .inr (8, [.ref v, .int 0, .int 0, .int (nI n)])), (v, .inl (ca 1, m, .inl (sb_F t)))] sz)) 1 1024 (va_A [(b, .inr (8, [.ref v, .int 0, .int 0, .int (nI n)])), (v, .inl (ca 1, m, .inl (sb_F t)))] sz) := by
  refine sw_ofW (Qc := fun A => va_Qr (fun (u : Nat × Nat) => n + sw_len.getD k 0 ≤ u.2 ∧ 22 ≤ u.2 ∧ u.2 ≤ 240) (fun (u : Nat × Nat) q t => q = b ∧ sw_Post G A (fun (u : Nat × Nat) => [(b, .inr (8, [.ref (u.1), .int 0, .int 0, .int (nI (n + sw_len.getD k 0))])), (u.1, .inl (ca 1, u.2, .inl (sb_F (t ++ sw_byt.getD k []))))]) u t) A) (by decide +kernel) [(0, .ref b), (1, .ref (Z (20 + k)))] rfl (Nat.le_of_ble_eq_true rfl) ?_
  intro p e s m9 args below meth c ls A hx hb hr hml hown htU hlocks hin hP hK hD hX hY hS hA hl
  have hown : s.vm.findClass RJ4 = some m9.cls := hown
  have Cx : sw_Cx p s m args c cJ4_append_15ec4 2 RJ4 G ca Z A := ⟨⟨hx, hb, hml, hown, htU⟩, hK, hX, hY, hA⟩
  have hP : va_P G vwCl [(b, .inr (8, [.ref v, .int 0, .int 0, .int (nI n)])), (v, .inl (ca 1, m, .inl (sb_F t)))] s.heap := hP
  have hD : va_D A [(b, .inr (8, [.ref v, .int 0, .int 0, .int (nI n)])), (v, .inl (ca 1, m, .inl (sb_F t)))] := hD
  refine lv_aload_n hx hb dJ4_append_15ec4_0 rfl (lv_at hl 0 rfl) ?_
  refine lv_aload_n hx hb dJ4_append_15ec4_1 rfl (lv_at hl 1 rfl) ?_
  refine sw_cr (sb_runU (As := [.ref (Z (20 + k))]) (rest := []) Cx hP hD hS ml_J4_29 sm_J5_append_cf1ce sup_J4 im_J5_append_cf1ce ini_J5 co_J5_append_cf1ce (by decide +kernel) (c_sb_appS l G ca Z b v n m t k s.heap.size hA0 htn hnm hm hm2 hk6 hn) rfl [0, 1] rfl rfl rfl rfl ⟨(Nat.le_of_ble_eq_true rfl), (Nat.le_of_ble_eq_true rfl)⟩ hl.1 rfl rfl (Nat.le_of_ble_eq_true rfl) dJ4_append_15ec4_2 ⟨(Nat.le_of_ble_eq_true rfl), (Nat.le_of_ble_eq_true rfl)⟩) hP hD hS hA [0, 1] [] [0, 1] rfl rfl rfl (by decide) (fun _ => rfl) rfl (fun u H locs hw hP hD hS => ?_)
  have hP : va_P G vwCl [(b, .inr (8, [.ref (u.1), .int 0, .int 0, .int (nI (n + sw_len.getD k 0))])), (u.1, .inl (ca 1, u.2, .inl (sb_F (t ++ sw_byt.getD k []))))] H := hP
  have hD : va_D A [(b, .inr (8, [.ref (u.1), .int 0, .int 0, .int (nI (n + sw_len.getD k 0))])), (u.1, .inl (ca 1, u.2, .inl (sb_F (t ++ sw_byt.getD k []))))] := hD
  refine lv_pop hx hb dJ4_append_15ec4_5 rfl ?_
  refine lv_aload_n hx hb dJ4_append_15ec4_6 rfl (lv_at hl 0 rfl) ?_
  exact sw_rr hx hb hr hlocks hS u hw hP hD dJ4_append_15ec4_7
abbrev RM_sb_AppB : Room := ({ frames := 6, cells := 1, slots := 1024, locals := 153 } : Room)
set_option maxHeartbeats 4000000 in
set_option maxRecDepth 100000 in
theorem c_sb_AppB (l : Launch) (G : va_G) (ca Z : Nat → Nat) (b v n m : Nat) (t : List Int32) (k : Nat) (sz : Nat) (hA0 : sb_A t) (htn : t.length = n) (hnm : n ≤ m) (hm : 22 ≤ m) (hm2 : m ≤ 240) (hk6 : k < 6) (hn : n + sw_len.getD k 0 ≤ 119) : Met l yJ4_append_cf1ce (.code yJ4_append_cf1ce cJ4_append_cf1ce 2 (Option.some (Jvm.ClassFile.FieldType.object "java/lang/AbstractStringBuilder")) :: sw_U) RM_sb_AppB (va_Pc [.ref b, .ref (Z (20 + k))] (sw_Pre G ca Z [(b, .inr (8, [.ref v, .int 0, .int 0, .int (nI n)])), (v, .inl (ca 1, m, .inl (sb_F t)))] sz)) ((fun A => va_Qr (fun (u : Nat × Nat) => n + sw_len.getD k 0 ≤ u.2 ∧ 22 ≤ u.2 ∧ u.2 ≤ 240) (fun (u : Nat × Nat) q t => q = b ∧ sw_Post G A (fun (u : Nat × Nat) => [(b, .inr (8, [.ref (u.1), .int 0, .int 0, .int (nI (n + sw_len.getD k 0))])), (u.1, .inl (ca 1, u.2, .inl (sb_F (t ++ sw_byt.getD k []))))]) u t) A) (va_A [(b, .inr (8, [.ref v, .int 0, .int 0, .int (nI n)])), (v, .inl (ca 1, m, .inl (sb_F t)))] sz)) 1 1024 (va_A [(b, .inr (8, [.ref v, .int 0, .int 0, .int (nI n)])), (v, .inl (ca 1, m, .inl (sb_F t)))] sz) := by
  refine sw_ofW (Qc := fun A => va_Qr (fun (u : Nat × Nat) => n + sw_len.getD k 0 ≤ u.2 ∧ 22 ≤ u.2 ∧ u.2 ≤ 240) (fun (u : Nat × Nat) q t => q = b ∧ sw_Post G A (fun (u : Nat × Nat) => [(b, .inr (8, [.ref (u.1), .int 0, .int 0, .int (nI (n + sw_len.getD k 0))])), (u.1, .inl (ca 1, u.2, .inl (sb_F (t ++ sw_byt.getD k []))))]) u t) A) (by decide +kernel) [(0, .ref b), (1, .ref (Z (20 + k)))] rfl (Nat.le_of_ble_eq_true rfl) ?_
  intro p e s m9 args below meth c ls A hx hb hr hml hown htU hlocks hin hP hK hD hX hY hS hA hl
  have hown : s.vm.findClass RJ4 = some m9.cls := hown
  have Cx : sw_Cx p s m args c cJ4_append_cf1ce 2 RJ4 G ca Z A := ⟨⟨hx, hb, hml, hown, htU⟩, hK, hX, hY, hA⟩
  have hP : va_P G vwCl [(b, .inr (8, [.ref v, .int 0, .int 0, .int (nI n)])), (v, .inl (ca 1, m, .inl (sb_F t)))] s.heap := hP
  have hD : va_D A [(b, .inr (8, [.ref v, .int 0, .int 0, .int (nI n)])), (v, .inl (ca 1, m, .inl (sb_F t)))] := hD
  refine lv_aload_n hx hb dJ4_append_cf1ce_0 rfl (lv_at hl 0 rfl) ?_
  refine lv_aload_n hx hb dJ4_append_cf1ce_1 rfl (lv_at hl 1 rfl) ?_
  refine sw_cr (sw_runV (As := [.ref (Z (20 + k))]) (rest := []) Cx hP hD hS mv_J4_append_15ec4 ml_J4_23 (c_sb_AppS l G ca Z b v n m t k s.heap.size hA0 htn hnm hm hm2 hk6 hn) 8 rfl rfl rfl [0, 1] rfl rfl rfl rfl ⟨(Nat.le_of_ble_eq_true rfl), (Nat.le_of_ble_eq_true rfl)⟩ hl.1 rfl rfl (Nat.le_of_ble_eq_true rfl) dJ4_append_cf1ce_2 ⟨(Nat.le_of_ble_eq_true rfl), (Nat.le_of_ble_eq_true rfl)⟩) hP hD hS hA [0, 1] [] [0, 1] rfl rfl rfl (by decide) (fun _ => rfl) rfl (fun u H locs hw hP hD hS => ?_)
  have hP : va_P G vwCl [(b, .inr (8, [.ref (u.1), .int 0, .int 0, .int (nI (n + sw_len.getD k 0))])), (u.1, .inl (ca 1, u.2, .inl (sb_F (t ++ sw_byt.getD k []))))] H := hP
  have hD : va_D A [(b, .inr (8, [.ref (u.1), .int 0, .int 0, .int (nI (n + sw_len.getD k 0))])), (u.1, .inl (ca 1, u.2, .inl (sb_F (t ++ sw_byt.getD k []))))] := hD
  exact sw_rr hx hb hr hlocks hS u hw hP hD dJ4_append_cf1ce_5
def sb_dn (v : Nat) : Nat := if v < 10 then 1 else 2
def sb_dg (v : Nat) : List Int32 := if v < 10 then [nI (48 + v)] else [nI (48 + v / 10), nI (48 + v % 10)]
theorem sb_dgl (v : Nat) : (sb_dg v).length = sb_dn v := by
  unfold sb_dg sb_dn
  split <;> rfl
theorem sb_dn2 (v : Nat) : sb_dn v ≤ 2 := by
  unfold sb_dn
  split <;> omega
theorem sb_negI {v : Nat} (h : v < 2 ^ 30) : (-(nI v)).toInt = -(v : Int) := by
  rw [Int32.toInt_neg, nI_toInt (by omega)]
  exact Int.bmod_eq_of_le (by omega) (by omega)
theorem sb_dgA {v : Nat} (h : v < 100) : sb_A (sb_dg v) := by
  have hx : ∀ w : Nat, w < 10 → 0 ≤ (nI (48 + w)).toInt ∧ (nI (48 + w)).toInt < 128 := fun w hw => by
    rw [nI_toInt (by omega)]
    omega
  unfold sb_dg
  intro x hm
  split at hm
  · rw [List.mem_singleton.mp hm]
    exact hx v (by omega)
  · rcases List.mem_cons.mp hm with h1 | h1
    · rw [h1]
      exact hx _ (by omega)
    · rw [List.mem_singleton.mp h1]
      exact hx _ (by omega)
theorem sb_m10 {v : Nat} (h : v < 100) : (-(nI v) ≤ (-10 : Int32)) ↔ 10 ≤ v := by
  rw [Int32.le_iff_toInt_le, sb_negI (by omega), show (-10 : Int32).toInt = -10 from by decide]
  omega
theorem sb_m100 {v : Nat} (h : v < 100) : ¬ -(nI v) ≤ (-100 : Int32) := by
  rw [Int32.le_iff_toInt_le, sb_negI (by omega), show (-100 : Int32).toInt = -100 from by decide]
  omega
theorem sb_m9 {v : Nat} (h : v < 100) : ((-9 : Int32) ≤ -(nI v)) ↔ v < 10 := by
  rw [Int32.le_iff_toInt_le, sb_negI (by omega), show (-9 : Int32).toInt = -9 from by decide]
  omega
theorem sb_nn {v : Nat} : -(-(nI v)) = nI v := Int32.neg_neg
abbrev RM_sb_size : Room := ({ frames := 0, cells := 0, slots := 0, locals := 0 } : Room)
set_option maxHeartbeats 4000000 in
set_option maxRecDepth 100000 in
theorem c_sb_size (l : Launch) (G : va_G) (ca Z : Nat → Nat) (v : Nat) (sz : Nat) (hv : v < 100) : Met l yJ6_stringSize_0f7a4 (.code yJ6_stringSize_0f7a4 cJ6_stringSize_0f7a4 4 (Option.some Jvm.ClassFile.FieldType.int) :: sw_U) RM_sb_size (va_Pc [.int (nI v)] (sw_Pre G ca Z [] sz)) ((fun A => va_Qi (fun r (u : Unit) => nI (sb_dn v) = r) (sw_Post G A (fun (u : Unit) => [])) A) (va_A [] sz)) 0 0 (va_A [] sz) := by
  refine sw_ofW (Qc := fun A => va_Qi (fun r (u : Unit) => nI (sb_dn v) = r) (sw_Post G A (fun (u : Unit) => [])) A) (by decide +kernel) [(0, .int (nI v))] rfl (Nat.le_of_ble_eq_true rfl) ?_
  intro p e s m9 args below meth c ls A hx hb hr hml hown htU hlocks hin hP hK hD hX hY hS hA hl
  have hown : s.vm.findClass RJ6 = some m9.cls := hown
  have Cx : sw_Cx p s m args c cJ6_stringSize_0f7a4 4 RJ6 G ca Z A := ⟨⟨hx, hb, hml, hown, htU⟩, hK, hX, hY, hA⟩
  have hP : va_P G vwCl [] s.heap := hP
  have hD : va_D A [] := hD
  refine lv_iconst (v := 1) hx hb dJ6_stringSize_0f7a4_0 (by decide) ?_
  refine lv_istore_n (lv' := [(1, .int 1), (0, .int (nI v))]) hx hb dJ6_stringSize_0f7a4_1 rfl hl (by decide) rfl (fun ls hl => ?_)
  refine lv_iload_n hx hb dJ6_stringSize_0f7a4_2 rfl (lv_at hl 1 rfl) ?_
  refine lv_if_lt (tgt := 11) hx hb dJ6_stringSize_0f7a4_3 (by decide) (fun c9 => absurd c9 (nI_pos (by omega))) (fun _ => ?_)
  refine lv_iconst (v := 0) hx hb dJ6_stringSize_0f7a4_6 (by decide) ?_
  refine lv_istore_n (lv' := [(1, .int 0), (0, .int (nI v))]) hx hb dJ6_stringSize_0f7a4_7 rfl hl (by decide) rfl (fun ls hl => ?_)
  refine lv_iload_n hx hb dJ6_stringSize_0f7a4_8 rfl (lv_at hl 1 rfl) ?_
  refine sb_ineg (v := -(nI v)) hx hb dJ6_stringSize_0f7a4_9 (rfl) ?_
  refine lv_istore_n (lv' := [(0, .int (-(nI v))), (1, .int 0)]) hx hb dJ6_stringSize_0f7a4_10 rfl hl (by decide) rfl (fun ls hl => ?_)
  refine lv_bipush (v := -10) hx hb dJ6_stringSize_0f7a4_11 (by decide) ?_
  refine lv_istore_n (lv' := [(2, .int (-10)), (0, .int (-(nI v))), (1, .int 0)]) hx hb dJ6_stringSize_0f7a4_13 rfl hl (by decide) rfl (fun ls hl => ?_)
  refine lv_iconst (v := 1) hx hb dJ6_stringSize_0f7a4_14 (by decide) ?_
  refine lv_istore_n (lv' := [(3, .int 1), (2, .int (-10)), (0, .int (-(nI v))), (1, .int 0)]) hx hb dJ6_stringSize_0f7a4_15 rfl hl (by decide) rfl (fun ls hl => ?_)
  refine lv_iload_n hx hb dJ6_stringSize_0f7a4_16 rfl (lv_at hl 0 rfl) ?_
  refine lv_bipush (v := 10) hx hb dJ6_stringSize_0f7a4_17 (by decide) ?_
  refine lv_icmp_ge (tgt := 42) hx hb dJ6_stringSize_0f7a4_19 (by decide) (fun c9 => absurd c9 (by decide)) (fun _ => ?_)
  refine lv_iload_n hx hb dJ6_stringSize_0f7a4_22 rfl (lv_at hl 2 rfl) ?_
  refine lv_iload_n hx hb dJ6_stringSize_0f7a4_23 rfl (lv_at hl 1 rfl) ?_
  refine lv_icmp_le (tgt := 31) hx hb dJ6_stringSize_0f7a4_24 (by decide) (fun c24 => ?_) (fun c24 => ?_)
  · have h10 : 10 ≤ v := (sb_m10 hv).mp c24
    refine lv_bipush (v := 10) hx hb dJ6_stringSize_0f7a4_31 (by decide) ?_
    refine lv_iload_n hx hb dJ6_stringSize_0f7a4_33 rfl (lv_at hl 1 rfl) ?_
    refine sb_imul (v := -100) hx hb dJ6_stringSize_0f7a4_34 (by decide) ?_
    refine lv_istore_n (lv' := [(2, .int (-100)), (3, .int 1), (0, .int (-(nI v))), (1, .int 0)]) hx hb dJ6_stringSize_0f7a4_35 rfl hl (by decide) rfl (fun ls hl => ?_)
    refine lv_iinc (v := 2) (lv' := [(3, .int (2)), (2, .int (-100)), (0, .int (-(nI v))), (1, .int 0)]) hx hb dJ6_stringSize_0f7a4_36 hl (k := 1) rfl (by decide) (by decide) rfl (fun ls hl => ?_)
    refine lv_goto (tgt := 16) hx hb dJ6_stringSize_0f7a4_39 (by decide) ?_
    refine lv_iload_n hx hb dJ6_stringSize_0f7a4_16 rfl (lv_at hl 0 rfl) ?_
    refine lv_bipush (v := 10) hx hb dJ6_stringSize_0f7a4_17 (by decide) ?_
    refine lv_icmp_ge (tgt := 42) hx hb dJ6_stringSize_0f7a4_19 (by decide) (fun c9 => absurd c9 (by decide)) (fun _ => ?_)
    refine lv_iload_n hx hb dJ6_stringSize_0f7a4_22 rfl (lv_at hl 2 rfl) ?_
    refine lv_iload_n hx hb dJ6_stringSize_0f7a4_23 rfl (lv_at hl 1 rfl) ?_
    refine lv_icmp_le (tgt := 31) hx hb dJ6_stringSize_0f7a4_24 (by decide) (fun c9 => absurd c9 (sb_m100 hv)) (fun _ => ?_)
    refine lv_iload_n hx hb dJ6_stringSize_0f7a4_27 rfl (lv_at hl 0 rfl) ?_
    refine lv_iload_n hx hb dJ6_stringSize_0f7a4_28 rfl (lv_at hl 3 rfl) ?_
    refine sb_iadd (v := 2) hx hb dJ6_stringSize_0f7a4_29 (by decide) ?_
    exact sw_ri hx hb hr hlocks hS () ((congrArg nI (if_neg (by omega) : sb_dn v = 2)).trans rfl) hP hD dJ6_stringSize_0f7a4_30
  · have h10 : v < 10 := Nat.lt_of_not_le fun q => c24 ((sb_m10 hv).mpr q)
    refine lv_iload_n hx hb dJ6_stringSize_0f7a4_27 rfl (lv_at hl 0 rfl) ?_
    refine lv_iload_n hx hb dJ6_stringSize_0f7a4_28 rfl (lv_at hl 3 rfl) ?_
    refine sb_iadd (v := 1) hx hb dJ6_stringSize_0f7a4_29 (by decide) ?_
    exact sw_ri hx hb hr hlocks hS () ((congrArg nI (if_pos h10 : sb_dn v = 1)).trans rfl) hP hD dJ6_stringSize_0f7a4_30
theorem sb_dd {v : Nat} (h : v < 100) : sw_do v = nI (48 + v % 10) ∧ sw_dt v = nI (48 + v / 10) := ⟨rfl, rfl⟩
theorem sb_c1 {t : List Int32} {n v : Nat} (h : t.length = n) (hv : v < 10) : upd (sb_F t) n (nI (48 + v % 10)) = sb_F (t ++ sb_dg v) := by
  rw [sb_up h]
  unfold sb_dg
  rw [if_pos hv, Nat.mod_eq_of_lt hv]
theorem sb_c2 {t : List Int32} {n v : Nat} (h : t.length = n) (hv : 10 ≤ v) : upd (upd (sb_F t) (n + 1) (nI (48 + v % 10))) n (nI (48 + v / 10)) = sb_F (t ++ sb_dg v) := by
  have e : sb_F (t ++ sb_dg v) = upd (upd (sb_F t) n (nI (48 + v / 10))) (n + 1) (nI (48 + v % 10)) := by
    rw [sb_up h, sb_up (show (t ++ [nI (48 + v / 10)]).length = n + 1 by simp [h])]
    unfold sb_dg
    rw [if_neg (by omega)]
    simp
  rw [e]
  funext j
  unfold upd
  by_cases c : j = n
  · subst c
    rw [if_pos rfl, if_neg (by omega), if_pos rfl]
  · rw [if_neg c]
    by_cases d : j = n + 1
    · rw [if_pos d, if_pos d]
    · rw [if_neg d, if_neg d, if_neg c]
theorem sb_dn1 (v : Nat) : 1 ≤ sb_dn v := by
  unfold sb_dn
  split <;> omega
theorem sb_dec {a : Nat} (h : 1 ≤ a) : nI a + Int32.ofInt (-1) = nI (a - 1) := by
  have e : nI a = nI (a - 1) + 1 := by rw [nI_1]; congr 1; omega
  rw [e, Int32.add_assoc, show (1 : Int32) + Int32.ofInt (-1) = 0 from by decide, Int32.add_zero]
theorem sb_dgN {w : Nat} (h : w < 10) : 0 ≤ (nI (48 + w)).toInt ∧ (nI (48 + w)).toInt < 128 := by
  rw [nI_toInt (by omega)]
  omega
abbrev RM_sb_getChars : Room := ({ frames := 0, cells := 0, slots := 0, locals := 0 } : Room)
set_option maxHeartbeats 4000000 in
set_option maxRecDepth 100000 in
theorem c_sb_getChars (l : Launch) (G : va_G) (ca Z : Nat → Nat) (v a n m : Nat) (t : List Int32) (sz : Nat) (hv : v < 100) (htn : t.length = n) (hnm : n + sb_dn v ≤ m) (hm2 : m ≤ 240) : Met l yJ6_getChars_ba4f3 (.code yJ6_getChars_ba4f3 cJ6_getChars_ba4f3 7 (Option.some Jvm.ClassFile.FieldType.int) :: sw_U) RM_sb_getChars (va_Pc [.int (nI v), .int (nI (n + sb_dn v)), .ref a] (sw_Pre G ca Z [(a, .inl (ca 1, m, .inl (sb_F t)))] sz)) ((fun A => va_Qi (fun r (u : Unit) => True) (sw_Post G A (fun (u : Unit) => [(a, .inl (ca 1, m, .inl (sb_F (t ++ sb_dg v))))])) A) (va_A [(a, .inl (ca 1, m, .inl (sb_F t)))] sz)) 0 0 (va_A [(a, .inl (ca 1, m, .inl (sb_F t)))] sz) := by
  refine sw_ofW (Qc := fun A => va_Qi (fun r (u : Unit) => True) (sw_Post G A (fun (u : Unit) => [(a, .inl (ca 1, m, .inl (sb_F (t ++ sb_dg v))))])) A) (by decide +kernel) [(0, .int (nI v)), (1, .int (nI (n + sb_dn v))), (2, .ref a)] rfl (Nat.le_of_ble_eq_true rfl) ?_
  intro p e s m9 args below meth c ls A hx hb hr hml hown htU hlocks hin hP hK hD hX hY hS hA hl
  have hown : s.vm.findClass RJ6 = some m9.cls := hown
  have Cx : sw_Cx p s m args c cJ6_getChars_ba4f3 7 RJ6 G ca Z A := ⟨⟨hx, hb, hml, hown, htU⟩, hK, hX, hY, hA⟩
  have hP : va_P G vwCl [(a, .inl (ca 1, m, .inl (sb_F t)))] s.heap := hP
  have hD : va_D A [(a, .inl (ca 1, m, .inl (sb_F t)))] := hD
  refine lv_iload_n hx hb dJ6_getChars_ba4f3_0 rfl (lv_at hl 1 rfl) ?_
  refine lv_istore (lv' := [(5, .int (nI (n + sb_dn v))), (0, .int (nI v)), (1, .int (nI (n + sb_dn v))), (2, .ref a)]) hx hb dJ6_getChars_ba4f3_1 hl (by decide) rfl (fun ls hl => ?_)
  refine lv_iload_n hx hb dJ6_getChars_ba4f3_3 rfl (lv_at hl 1 rfl) ?_
  refine lv_if_ge (tgt := 11) hx hb dJ6_getChars_ba4f3_4 (by decide) (fun _ => ?_) (fun c9 => absurd (nI_pos' (by omega) : 0 ≤ nI v) c9)
  refine lv_iconst (v := 0) hx hb dJ6_getChars_ba4f3_11 (by decide) ?_
  refine lv_istore (lv' := [(6, .int 0), (5, .int (nI (n + sb_dn v))), (0, .int (nI v)), (1, .int (nI (n + sb_dn v))), (2, .ref a)]) hx hb dJ6_getChars_ba4f3_12 hl (by decide) rfl (fun ls hl => ?_)
  refine lv_iload hx hb dJ6_getChars_ba4f3_14 (lv_at hl 0 rfl) ?_
  refine lv_if_ne (tgt := 22) hx hb dJ6_getChars_ba4f3_16 (by decide) (fun c9 => absurd rfl c9) (fun _ => ?_)
  refine lv_iload_n hx hb dJ6_getChars_ba4f3_19 rfl (lv_at hl 2 rfl) ?_
  refine sb_ineg (v := -(nI v)) hx hb dJ6_getChars_ba4f3_20 (rfl) ?_
  refine lv_istore_n (lv' := [(0, .int (-(nI v))), (6, .int 0), (5, .int (nI (n + sb_dn v))), (1, .int (nI (n + sb_dn v))), (2, .ref a)]) hx hb dJ6_getChars_ba4f3_21 rfl hl (by decide) rfl (fun ls hl => ?_)
  refine lv_iload_n hx hb dJ6_getChars_ba4f3_22 rfl (lv_at hl 0 rfl) ?_
  refine lv_bipush (v := -100) hx hb dJ6_getChars_ba4f3_23 (by decide) ?_
  refine lv_icmp_gt (tgt := 72) hx hb dJ6_getChars_ba4f3_25 (by decide) (fun _ => ?_) (fun c9 => absurd (Int32.not_le.mp (sb_m100 hv)) c9)
  refine lv_aload_n hx hb dJ6_getChars_ba4f3_72 rfl (lv_at hl 4 rfl) ?_
  refine lv_iinc (v := nI (n + sb_dn v - 1)) (lv' := [(5, .int (nI (n + sb_dn v - 1))), (0, .int (-(nI v))), (6, .int 0), (1, .int (nI (n + sb_dn v))), (2, .ref a)]) hx hb dJ6_getChars_ba4f3_73 hl (k := 2) rfl (sb_dec (by have := sb_dn1 v; omega)) (by decide) rfl (fun ls hl => ?_)
  refine lv_iload hx hb dJ6_getChars_ba4f3_76 (lv_at hl 0 rfl) ?_
  refine va_gets (v := .ref (Z 4)) hx hb hX.2.2.2.2.2.1.1 hS hown (htU _ fl_J6_83) (fun _ h9 => h9) dJ6_getChars_ba4f3_78 ?_
  refine lv_iload_n hx hb dJ6_getChars_ba4f3_81 rfl (lv_at hl 1 rfl) ?_
  refine sb_ineg (v := nI v) hx hb dJ6_getChars_ba4f3_82 (sb_nn) ?_
  refine va_tb (v := .int (sw_do v)) hx hb hX.2.2.2.2.2.1.2 hS (nI_in (by omega) (by omega)) (by show Value.int (sw_do (nI v).toNatClampNeg) = _; rw [nI_clamp (by omega)]) dJ6_getChars_ba4f3_83 ?_
  refine va_bast hx hb hK hP hD hS 0 1 rfl rfl (nI_in (by have := sb_dn1 v; omega) (by omega)) dJ6_getChars_ba4f3_84 (fun H locs hP hD hS => ?_)
  rw [nI_clamp (by omega), (sb_dd hv).1, sb_nar (sb_dgN (by omega))] at hP hD
  have hP : va_P G vwCl [(a, .inl (ca 1, m, .inl (upd (sb_F t) (n + sb_dn v - 1) (nI (48 + v % 10)))))] H := hP
  have hD : va_D A [(a, .inl (ca 1, m, .inl (upd (sb_F t) (n + sb_dn v - 1) (nI (48 + v % 10)))))] := hD
  refine lv_iload_n hx hb dJ6_getChars_ba4f3_85 rfl (lv_at hl 1 rfl) ?_
  refine lv_bipush (v := -9) hx hb dJ6_getChars_ba4f3_86 (by decide) ?_
  refine lv_icmp_ge (tgt := 104) hx hb dJ6_getChars_ba4f3_88 (by decide) (fun c88 => ?_) (fun c88 => ?_)
  · have h10 : v < 10 := (sb_m9 hv).mp c88
    have e1 : n + sb_dn v - 1 = n := by unfold sb_dn; rw [if_pos h10]; rfl
    rw [e1, sb_c1 htn h10] at hP hD
    have hP : va_P G vwCl [(a, .inl (ca 1, m, .inl (sb_F (t ++ sb_dg v))))] H := hP
    have hD : va_D A [(a, .inl (ca 1, m, .inl (sb_F (t ++ sb_dg v))))] := hD
    refine lv_iload hx hb dJ6_getChars_ba4f3_104 (lv_at hl 2 rfl) ?_
    refine lv_if_eq (tgt := 118) hx hb dJ6_getChars_ba4f3_106 (by decide) (fun _ => ?_) (fun c9 => absurd (rfl : (0 : Int32) = 0) c9)
    refine lv_iload hx hb dJ6_getChars_ba4f3_118 (lv_at hl 0 rfl) ?_
    exact sw_ri hx hb hr hlocks hS () trivial hP hD dJ6_getChars_ba4f3_120
  · have h10 : 10 ≤ v := Nat.le_of_not_lt fun q => c88 ((sb_m9 hv).mpr q)
    have e1 : n + sb_dn v - 1 = n + 1 := by unfold sb_dn; rw [if_neg (by omega)]; rfl
    refine lv_aload_n hx hb dJ6_getChars_ba4f3_91 rfl (lv_at hl 4 rfl) ?_
    refine lv_iinc (v := nI n) (lv' := [(5, .int (nI n)), (0, .int (-(nI v))), (6, .int 0), (1, .int (nI (n + sb_dn v))), (2, .ref a)]) hx hb dJ6_getChars_ba4f3_92 hl (k := 0) rfl (by rw [e1]; exact sb_dec (by omega)) (by decide) rfl (fun ls hl => ?_)
    refine lv_iload hx hb dJ6_getChars_ba4f3_95 (lv_at hl 0 rfl) ?_
    refine va_gets (v := .ref (Z 3)) hx hb hX.2.2.2.1.1 hS hown (htU _ fl_J6_87) (fun _ h9 => h9) dJ6_getChars_ba4f3_97 ?_
    refine lv_iload_n hx hb dJ6_getChars_ba4f3_100 rfl (lv_at hl 1 rfl) ?_
    refine sb_ineg (v := nI v) hx hb dJ6_getChars_ba4f3_101 (sb_nn) ?_
    refine va_tb (v := .int (sw_dt v)) hx hb hX.2.2.2.1.2 hS (nI_in (by omega) (by omega)) (by show Value.int (sw_dt (nI v).toNatClampNeg) = _; rw [nI_clamp (by omega)]) dJ6_getChars_ba4f3_102 ?_
    refine va_bast hx hb hK hP hD hS 0 1 rfl rfl (nI_in (by omega) (by omega)) dJ6_getChars_ba4f3_103 (fun H locs hP hD hS => ?_)
    rw [nI_clamp (by omega), (sb_dd hv).2, sb_nar (sb_dgN (by omega)), e1, sb_c2 htn h10] at hP hD
    have hP : va_P G vwCl [(a, .inl (ca 1, m, .inl (sb_F (t ++ sb_dg v))))] H := hP
    have hD : va_D A [(a, .inl (ca 1, m, .inl (sb_F (t ++ sb_dg v))))] := hD
    refine lv_iload hx hb dJ6_getChars_ba4f3_104 (lv_at hl 2 rfl) ?_
    refine lv_if_eq (tgt := 118) hx hb dJ6_getChars_ba4f3_106 (by decide) (fun _ => ?_) (fun c9 => absurd (rfl : (0 : Int32) = 0) c9)
    refine lv_iload hx hb dJ6_getChars_ba4f3_118 (lv_at hl 0 rfl) ?_
    exact sw_ri hx hb hr hlocks hS () trivial hP hD dJ6_getChars_ba4f3_120
abbrev RM_sb_appI : Room := ({ frames := 4, cells := 1, slots := 1024, locals := 110 } : Room)
set_option maxHeartbeats 4000000 in
set_option maxRecDepth 100000 in
theorem c_sb_appI (l : Launch) (G : va_G) (ca Z : Nat → Nat) (b v n m : Nat) (t : List Int32) (x : Nat) (sz : Nat) (hA0 : sb_A t) (htn : t.length = n) (hnm : n ≤ m) (hm : 22 ≤ m) (hm2 : m ≤ 240) (hx0 : x < 100) (hn : n + sb_dn x ≤ 119) : Met l yJ5_append_c97b9 (.code yJ5_append_c97b9 cJ5_append_c97b9 4 (Option.some (Jvm.ClassFile.FieldType.object "java/lang/AbstractStringBuilder")) :: sw_U) RM_sb_appI (va_Pc [.ref b, .int (nI x)] (sw_Pre G ca Z [(b, .inr (8, [.ref v, .int 0, .int 0, .int (nI n)])), (v, .inl (ca 1, m, .inl (sb_F t)))] sz)) ((fun A => va_Qr (fun (u : Nat × Nat) => n + sb_dn x ≤ u.2 ∧ 22 ≤ u.2 ∧ u.2 ≤ 240) (fun (u : Nat × Nat) q t => q = b ∧ sw_Post G A (fun (u : Nat × Nat) => [(b, .inr (8, [.ref (u.1), .int 0, .int 0, .int (nI (n + sb_dn x))])), (u.1, .inl (ca 1, u.2, .inl (sb_F (t ++ sb_dg x))))]) u t) A) (va_A [(b, .inr (8, [.ref v, .int 0, .int 0, .int (nI n)])), (v, .inl (ca 1, m, .inl (sb_F t)))] sz)) 1 1024 (va_A [(b, .inr (8, [.ref v, .int 0, .int 0, .int (nI n)])), (v, .inl (ca 1, m, .inl (sb_F t)))] sz) := by
  refine sw_ofW (Qc := fun A => va_Qr (fun (u : Nat × Nat) => n + sb_dn x ≤ u.2 ∧ 22 ≤ u.2 ∧ u.2 ≤ 240) (fun (u : Nat × Nat) q t => q = b ∧ sw_Post G A (fun (u : Nat × Nat) => [(b, .inr (8, [.ref (u.1), .int 0, .int 0, .int (nI (n + sb_dn x))])), (u.1, .inl (ca 1, u.2, .inl (sb_F (t ++ sb_dg x))))]) u t) A) (by decide +kernel) [(0, .ref b), (1, .int (nI x))] rfl (Nat.le_of_ble_eq_true rfl) ?_
  intro p e s m9 args below meth c ls A hx hb hr hml hown htU hlocks hin hP hK hD hX hY hS hA hl
  have hown : s.vm.findClass RJ5 = some m9.cls := hown
  have Cx : sw_Cx p s m args c cJ5_append_c97b9 4 RJ5 G ca Z A := ⟨⟨hx, hb, hml, hown, htU⟩, hK, hX, hY, hA⟩
  have hP : va_P G vwCl [(b, .inr (8, [.ref v, .int 0, .int 0, .int (nI n)])), (v, .inl (ca 1, m, .inl (sb_F t)))] s.heap := hP
  have hD : va_D A [(b, .inr (8, [.ref v, .int 0, .int 0, .int (nI n)])), (v, .inl (ca 1, m, .inl (sb_F t)))] := hD
  have d2 := sb_dn2 x
  have d1 := sb_dgl x
  refine lv_aload_n hx hb dJ5_append_c97b9_0 rfl (lv_at hl 0 rfl) ?_
  refine va_get (v := .int (nI n)) hx hb htU iU_J4 hown hK hP 0 rfl rfl 3 (by decide) (htU _ fl_J5_79) (fun _ h9 => h9) rfl dJ5_append_c97b9_1 ?_
  refine lv_istore_n (lv' := [(2, .int (nI n)), (0, .ref b), (1, .int (nI x))]) hx hb dJ5_append_c97b9_4 rfl hl (by decide) rfl (fun ls hl => ?_)
  refine lv_iload_n hx hb dJ5_append_c97b9_5 rfl (lv_at hl 0 rfl) ?_
  refine lv_iload_n hx hb dJ5_append_c97b9_6 rfl (lv_at hl 2 rfl) ?_
  refine sw_ci (sw_runS (As := [.int (nI x)]) (rest := [.int (nI n)]) Cx hP hD hS ms_J6_stringSize_0f7a4 ml_J5_245 (c_sb_size l G ca Z x s.heap.size hx0) [] rfl rfl rfl rfl ⟨(Nat.le_of_ble_eq_true rfl), (Nat.le_of_ble_eq_true rfl)⟩ hl.1 rfl rfl (Nat.le_of_ble_eq_true rfl) dJ5_append_c97b9_7 ⟨(Nat.le_of_ble_eq_true rfl), (Nat.le_of_ble_eq_true rfl)⟩) hP hD hS hA [] [0, 1] [0, 1] rfl rfl rfl (by decide) (fun _ => rfl) rfl (fun r _ H locs hw hP hD hS => ?_)
  subst hw
  have hP : va_P G vwCl [(b, .inr (8, [.ref v, .int 0, .int 0, .int (nI n)])), (v, .inl (ca 1, m, .inl (sb_F t)))] H := hP
  have hD : va_D A [(b, .inr (8, [.ref v, .int 0, .int 0, .int (nI n)])), (v, .inl (ca 1, m, .inl (sb_F t)))] := hD
  refine sb_iadd (v := nI (n + sb_dn x)) hx hb dJ5_append_c97b9_10 (nI_add _ _) ?_
  refine lv_istore_n (lv' := [(3, .int (nI (n + sb_dn x))), (2, .int (nI n)), (0, .ref b), (1, .int (nI x))]) hx hb dJ5_append_c97b9_11 rfl hl (by decide) rfl (fun ls hl => ?_)
  refine lv_aload_n hx hb dJ5_append_c97b9_12 rfl (lv_at hl 2 rfl) ?_
  refine lv_iload_n hx hb dJ5_append_c97b9_13 rfl (lv_at hl 0 rfl) ?_
  refine sw_cv (sb_runX (As := [.int (nI (n + sb_dn x))]) (rest := []) Cx hP hD hS ml_J5_100 sm_J5_ensureCapacityInternal_d00df im_J5_ensureCapacityInternal_d00df co_J5_ensureCapacityInternal_d00df (sb_sel htU (hY.2.2.2 _ pm_J5_ensureCapacityInternal_d00df rfl) sm_J5_ensureCapacityInternal_d00df im_J5_ensureCapacityInternal_d00df) im_J5_ensureCapacityInternal_d00df ini_J5 co_J5_ensureCapacityInternal_d00df (by decide +kernel) (c_sb_ensure l G ca Z b v n m (n + sb_dn x) t H.size hA0 (by omega) hm hm2 (by omega) (by omega)) rfl [0, 1] rfl rfl rfl rfl ⟨(Nat.le_of_ble_eq_true rfl), (Nat.le_of_ble_eq_true rfl)⟩ hl.1 rfl rfl (Nat.le_of_ble_eq_true rfl) dJ5_append_c97b9_14 ⟨(Nat.le_of_ble_eq_true rfl), (Nat.le_of_ble_eq_true rfl)⟩) hP hD hS hA [0, 1] [] [0, 1] rfl rfl rfl (by decide) (fun _ => rfl) rfl (fun u H locs hw hP hD hS => ?_)
  obtain ⟨g1, g2, g3⟩ := hw
  have hP : va_P G vwCl [(b, .inr (8, [.ref (u.1), .int 0, .int 0, .int (nI n)])), (u.1, .inl (ca 1, u.2, .inl (sb_F t)))] H := hP
  have hD : va_D A [(b, .inr (8, [.ref (u.1), .int 0, .int 0, .int (nI n)])), (u.1, .inl (ca 1, u.2, .inl (sb_F t)))] := hD
  refine lv_aload_n hx hb dJ5_append_c97b9_17 rfl (lv_at hl 2 rfl) ?_
  refine sw_ci (sb_runX (As := []) (rest := []) Cx hP hD hS ml_J5_83 sm_J5_isLatin1_aae02 im_J5_isLatin1_aae02 co_J5_isLatin1_aae02 (fun h9 => h9 _ sx_J5_isLatin1_aae02) im_J5_isLatin1_aae02 ini_J5 co_J5_isLatin1_aae02 (by decide +kernel) (c_sb_isLatin1 l G ca Z b (.ref u.1) (.int (nI n)) H.size) rfl [0] rfl rfl rfl rfl ⟨(Nat.le_of_ble_eq_true rfl), (Nat.le_of_ble_eq_true rfl)⟩ hl.1 rfl rfl (Nat.le_of_ble_eq_true rfl) dJ5_append_c97b9_18 ⟨(Nat.le_of_ble_eq_true rfl), (Nat.le_of_ble_eq_true rfl)⟩) hP hD hS hA [0] [1] [1, 0] rfl rfl rfl (by decide) (fun _ => rfl) rfl (fun r _ H locs hw hP hD hS => ?_)
  subst hw
  have hP : va_P G vwCl [(b, .inr (8, [.ref (u.1), .int 0, .int 0, .int (nI n)])), (u.1, .inl (ca 1, u.2, .inl (sb_F t)))] H := hP
  have hD : va_D A [(b, .inr (8, [.ref (u.1), .int 0, .int 0, .int (nI n)])), (u.1, .inl (ca 1, u.2, .inl (sb_F t)))] := hD
  refine lv_if_eq (tgt := 37) hx hb dJ5_append_c97b9_21 (by decide) (fun c9 => absurd c9 (by decide)) (fun _ => ?_)
  refine lv_iload_n hx hb dJ5_append_c97b9_24 rfl (lv_at hl 3 rfl) ?_
  refine lv_iload_n hx hb dJ5_append_c97b9_25 rfl (lv_at hl 0 rfl) ?_
  refine lv_aload_n hx hb dJ5_append_c97b9_26 rfl (lv_at hl 2 rfl) ?_
  refine va_get (v := .ref (u.1)) hx hb htU iU_J4 hown hK hP 0 rfl rfl 0 (by decide) (htU _ fl_J5_15) (fun _ h9 => h9) rfl dJ5_append_c97b9_27 ?_
  refine sw_ci (sw_runS (As := [.int (nI x), .int (nI (n + sb_dn x)), .ref (u.1)]) (rest := []) Cx hP hD hS ms_J6_getChars_ba4f3 ml_J5_248 (c_sb_getChars l G ca Z x u.1 n u.2 t H.size hx0 htn g1 g3) [1] rfl rfl rfl rfl ⟨(Nat.le_of_ble_eq_true rfl), (Nat.le_of_ble_eq_true rfl)⟩ hl.1 rfl rfl (Nat.le_of_ble_eq_true rfl) dJ5_append_c97b9_30 ⟨(Nat.le_of_ble_eq_true rfl), (Nat.le_of_ble_eq_true rfl)⟩) hP hD hS hA [1] [0] [0, 1] rfl rfl rfl (by decide) (fun _ => rfl) rfl (fun r _ H locs hw hP hD hS => ?_)
  have hP : va_P G vwCl [(b, .inr (8, [.ref (u.1), .int 0, .int 0, .int (nI n)])), (u.1, .inl (ca 1, u.2, .inl (sb_F (t ++ sb_dg x))))] H := hP
  have hD : va_D A [(b, .inr (8, [.ref (u.1), .int 0, .int 0, .int (nI n)])), (u.1, .inl (ca 1, u.2, .inl (sb_F (t ++ sb_dg x))))] := hD
  refine lv_pop hx hb dJ5_append_c97b9_33 rfl ?_
  refine lv_goto (tgt := 48) hx hb dJ5_append_c97b9_34 (by decide) ?_
  refine lv_aload_n hx hb dJ5_append_c97b9_48 rfl (lv_at hl 2 rfl) ?_
  refine lv_iload_n hx hb dJ5_append_c97b9_49 rfl (lv_at hl 0 rfl) ?_
  refine va_put (v := .int (nI (n + sb_dn x))) (ty := .int) hx hb htU iU_J4 tyJ4 tyJ4_ok nmJ4 hown hK hP hD hS 0 rfl rfl 3 (by decide) (htU _ fl_J5_79) (fun _ h9 => h9) rfl (by decide +kernel) rfl rfl (Nat.le_of_ble_eq_true rfl) dJ5_append_c97b9_50 (fun H locs hP hD hS => ?_)
  have hP : va_P G vwCl [(b, .inr (8, [.ref (u.1), .int 0, .int 0, .int (nI (n + sb_dn x))])), (u.1, .inl (ca 1, u.2, .inl (sb_F (t ++ sb_dg x))))] H := hP
  have hD : va_D A [(b, .inr (8, [.ref (u.1), .int 0, .int 0, .int (nI (n + sb_dn x))])), (u.1, .inl (ca 1, u.2, .inl (sb_F (t ++ sb_dg x))))] := hD
  refine lv_aload_n hx hb dJ5_append_c97b9_53 rfl (lv_at hl 2 rfl) ?_
  exact sw_rr hx hb hr hlocks hS u ⟨g1, g2, g3⟩ hP hD dJ5_append_c97b9_54
abbrev RM_sb_AppI : Room := ({ frames := 5, cells := 1, slots := 1024, locals := 133 } : Room)
set_option maxHeartbeats 4000000 in
set_option maxRecDepth 100000 in
theorem c_sb_AppI (l : Launch) (G : va_G) (ca Z : Nat → Nat) (b v n m : Nat) (t : List Int32) (x : Nat) (sz : Nat) (hA0 : sb_A t) (htn : t.length = n) (hnm : n ≤ m) (hm : 22 ≤ m) (hm2 : m ≤ 240) (hx0 : x < 100) (hn : n + sb_dn x ≤ 119) : Met l yJ4_append_bf812 (.code yJ4_append_bf812 cJ4_append_bf812 2 (Option.some (Jvm.ClassFile.FieldType.object "java/lang/StringBuilder")) :: sw_U) RM_sb_AppI (va_Pc [.ref b, .int (nI x)] (sw_Pre G ca Z [(b, .inr (8, [.ref v, .int 0, .int 0, .int (nI n)])), (v, .inl (ca 1, m, .inl (sb_F t)))] sz)) ((fun A => va_Qr (fun (u : Nat × Nat) => n + sb_dn x ≤ u.2 ∧ 22 ≤ u.2 ∧ u.2 ≤ 240) (fun (u : Nat × Nat) q t => q = b ∧ sw_Post G A (fun (u : Nat × Nat) => [(b, .inr (8, [.ref (u.1), .int 0, .int 0, .int (nI (n + sb_dn x))])), (u.1, .inl (ca 1, u.2, .inl (sb_F (t ++ sb_dg x))))]) u t) A) (va_A [(b, .inr (8, [.ref v, .int 0, .int 0, .int (nI n)])), (v, .inl (ca 1, m, .inl (sb_F t)))] sz)) 1 1024 (va_A [(b, .inr (8, [.ref v, .int 0, .int 0, .int (nI n)])), (v, .inl (ca 1, m, .inl (sb_F t)))] sz) := by
  refine sw_ofW (Qc := fun A => va_Qr (fun (u : Nat × Nat) => n + sb_dn x ≤ u.2 ∧ 22 ≤ u.2 ∧ u.2 ≤ 240) (fun (u : Nat × Nat) q t => q = b ∧ sw_Post G A (fun (u : Nat × Nat) => [(b, .inr (8, [.ref (u.1), .int 0, .int 0, .int (nI (n + sb_dn x))])), (u.1, .inl (ca 1, u.2, .inl (sb_F (t ++ sb_dg x))))]) u t) A) (by decide +kernel) [(0, .ref b), (1, .int (nI x))] rfl (Nat.le_of_ble_eq_true rfl) ?_
  intro p e s m9 args below meth c ls A hx hb hr hml hown htU hlocks hin hP hK hD hX hY hS hA hl
  have hown : s.vm.findClass RJ4 = some m9.cls := hown
  have Cx : sw_Cx p s m args c cJ4_append_bf812 2 RJ4 G ca Z A := ⟨⟨hx, hb, hml, hown, htU⟩, hK, hX, hY, hA⟩
  have hP : va_P G vwCl [(b, .inr (8, [.ref v, .int 0, .int 0, .int (nI n)])), (v, .inl (ca 1, m, .inl (sb_F t)))] s.heap := hP
  have hD : va_D A [(b, .inr (8, [.ref v, .int 0, .int 0, .int (nI n)])), (v, .inl (ca 1, m, .inl (sb_F t)))] := hD
  refine lv_aload_n hx hb dJ4_append_bf812_0 rfl (lv_at hl 0 rfl) ?_
  refine lv_iload_n hx hb dJ4_append_bf812_1 rfl (lv_at hl 1 rfl) ?_
  refine sw_cr (sb_runU (As := [.int (nI x)]) (rest := []) Cx hP hD hS ml_J4_53 sm_J5_append_c97b9 sup_J4 im_J5_append_c97b9 ini_J5 co_J5_append_c97b9 (by decide +kernel) (c_sb_appI l G ca Z b v n m t x s.heap.size hA0 htn hnm hm hm2 hx0 hn) rfl [0, 1] rfl rfl rfl rfl ⟨(Nat.le_of_ble_eq_true rfl), (Nat.le_of_ble_eq_true rfl)⟩ hl.1 rfl rfl (Nat.le_of_ble_eq_true rfl) dJ4_append_bf812_2 ⟨(Nat.le_of_ble_eq_true rfl), (Nat.le_of_ble_eq_true rfl)⟩) hP hD hS hA [0, 1] [] [0, 1] rfl rfl rfl (by decide) (fun _ => rfl) rfl (fun u H locs hw hP hD hS => ?_)
  have hP : va_P G vwCl [(b, .inr (8, [.ref (u.1), .int 0, .int 0, .int (nI (n + sb_dn x))])), (u.1, .inl (ca 1, u.2, .inl (sb_F (t ++ sb_dg x))))] H := hP
  have hD : va_D A [(b, .inr (8, [.ref (u.1), .int 0, .int 0, .int (nI (n + sb_dn x))])), (u.1, .inl (ca 1, u.2, .inl (sb_F (t ++ sb_dg x))))] := hD
  refine lv_pop hx hb dJ4_append_bf812_5 rfl ?_
  refine lv_aload_n hx hb dJ4_append_bf812_6 rfl (lv_at hl 0 rfl) ?_
  exact sw_rr hx hb hr hlocks hS u hw hP hD dJ4_append_bf812_7
abbrev RM_sb_init5 : Room := ({ frames := 7, cells := 2, slots := 2048, locals := 174 } : Room)
set_option maxHeartbeats 4000000 in
set_option maxRecDepth 100000 in
theorem c_sb_init5 (l : Launch) (G : va_G) (ca Z : Nat → Nat) (b k : Nat) (sz : Nat) (hk6 : k < 6) (hk3 : 6 ≤ sw_len.getD k 0) : Met l yJ5_init_a7421 (.code yJ5_init_a7421 cJ5_init_a7421 5 (Option.none : Option Jvm.ClassFile.FieldType) :: sw_U) RM_sb_init5 (va_Pc [.ref b, .ref (Z (20 + k))] (sw_Pre G ca Z [(b, .inr (8, [.null, .int 0, .int 0, .int 0]))] sz)) ((fun A => va_Qv (fun (u : Nat × Nat) => sw_len.getD k 0 ≤ u.2 ∧ 22 ≤ u.2 ∧ u.2 ≤ 240) (sw_Post G A (fun (u : Nat × Nat) => [(b, .inr (8, [.ref (u.1), .int 0, .int 0, .int (nI (sw_len.getD k 0))])), (u.1, .inl (ca 1, u.2, .inl (sb_F (sw_byt.getD k []))))])) A) (va_A [(b, .inr (8, [.null, .int 0, .int 0, .int 0]))] sz)) 2 2048 (va_A [(b, .inr (8, [.null, .int 0, .int 0, .int 0]))] sz) := by
  refine sw_ofW (Qc := fun A => va_Qv (fun (u : Nat × Nat) => sw_len.getD k 0 ≤ u.2 ∧ 22 ≤ u.2 ∧ u.2 ≤ 240) (sw_Post G A (fun (u : Nat × Nat) => [(b, .inr (8, [.ref (u.1), .int 0, .int 0, .int (nI (sw_len.getD k 0))])), (u.1, .inl (ca 1, u.2, .inl (sb_F (sw_byt.getD k []))))])) A) (by decide +kernel) [(0, .ref b), (1, .ref (Z (20 + k)))] rfl (Nat.le_of_ble_eq_true rfl) ?_
  intro p e s m9 args below meth c ls A hx hb hr hml hown htU hlocks hin hP hK hD hX hY hS hA hl
  have hown : s.vm.findClass RJ5 = some m9.cls := hown
  have hin : meth.name = "<init>" := hin
  have Cx : sw_Cx p s m args c cJ5_init_a7421 5 RJ5 G ca Z A := ⟨⟨hx, hb, hml, hown, htU⟩, hK, hX, hY, hA⟩
  have hP : va_P G vwCl [(b, .inr (8, [.null, .int 0, .int 0, .int 0]))] s.heap := hP
  have hD : va_D A [(b, .inr (8, [.null, .int 0, .int 0, .int 0]))] := hD
  obtain ⟨k1, k2, k3⟩ := sb_k3 hk6
  refine lv_aload_n hx hb dJ5_init_a7421_0 rfl (lv_at hl 0 rfl) ?_
  refine W.objInit hx hb hown (htU _ ml_J5_3) (htU _ im_obj) (htU _ co_obj) rfl (by rw [hml]; exact hl.1) rfl dJ5_init_a7421_1 (Nat.le_of_ble_eq_true rfl) (Nat.le_of_ble_eq_true rfl) ?_
  refine W.eq (g2 := F0 m9 4 ls []) rfl ?_
  refine lv_aload_n hx hb dJ5_init_a7421_4 rfl (lv_at hl 1 rfl) ?_
  refine sw_ci (sw_runR (As := []) (rest := []) Cx hP hD hS mv_J0_length_8abf5 ml_J5_32 (c_J0_length_8abf5 l G ca Z s.heap.size k (nI (sw_len.getD k 0)) (sb_k2 hk6)) (sw_rcS hX hS hk6) [] rfl rfl rfl rfl ⟨(Nat.le_of_ble_eq_true rfl), (Nat.le_of_ble_eq_true rfl)⟩ hl.1 rfl rfl (Nat.le_of_ble_eq_true rfl) dJ5_init_a7421_5 ⟨(Nat.le_of_ble_eq_true rfl), (Nat.le_of_ble_eq_true rfl)⟩) hP hD hS hA [] [0] [0] rfl rfl rfl (by decide) (fun _ => rfl) rfl (fun r _ H locs hw hP hD hS => ?_)
  subst hw
  have hP : va_P G vwCl [(b, .inr (8, [.null, .int 0, .int 0, .int 0]))] H := hP
  have hD : va_D A [(b, .inr (8, [.null, .int 0, .int 0, .int 0]))] := hD
  refine lv_istore_n (lv' := [(2, .int (nI (sw_len.getD k 0))), (0, .ref b), (1, .ref (Z (20 + k)))]) hx hb dJ5_init_a7421_8 rfl hl (by decide) rfl (fun ls hl => ?_)
  refine lv_iload_n hx hb dJ5_init_a7421_9 rfl (lv_at hl 0 rfl) ?_
  refine lv_ldc (v := 2147483631) hx hb hown (htU _ kc_J5_38) dJ5_init_a7421_10 ?_
  refine lv_icmp_ge (tgt := 22) hx hb dJ5_init_a7421_12 (by decide) (fun c9 => absurd c9 (Int32.not_le.mpr (by rw [show (2147483631 : Int32) = nI 2147483631 from by decide]; exact nI_lt (by omega) (by omega)))) (fun _ => ?_)
  refine lv_iload_n hx hb dJ5_init_a7421_15 rfl (lv_at hl 0 rfl) ?_
  refine lv_bipush (v := 16) hx hb dJ5_init_a7421_16 (by decide) ?_
  refine sb_iadd (v := nI (sw_len.getD k 0 + 16)) hx hb dJ5_init_a7421_18 (nI_add _ 16) ?_
  refine lv_goto (tgt := 24) hx hb dJ5_init_a7421_19 (by decide) ?_
  refine lv_istore_n (lv' := [(3, .int (nI (sw_len.getD k 0 + 16))), (2, .int (nI (sw_len.getD k 0))), (0, .ref b), (1, .ref (Z (20 + k)))]) hx hb dJ5_init_a7421_24 rfl hl (by decide) rfl (fun ls hl => ?_)
  refine lv_aload_n hx hb dJ5_init_a7421_25 rfl (lv_at hl 3 rfl) ?_
  refine sw_ci (sw_runR (As := []) (rest := []) Cx hP hD hS mv_J0_coder_7d493 ml_J5_40 (c_J0_coder_7d493 l G ca Z H.size k 0 (sb_k1 hk6)) (sw_rcS hX hS hk6) [] rfl rfl rfl rfl ⟨(Nat.le_of_ble_eq_true rfl), (Nat.le_of_ble_eq_true rfl)⟩ hl.1 rfl rfl (Nat.le_of_ble_eq_true rfl) dJ5_init_a7421_26 ⟨(Nat.le_of_ble_eq_true rfl), (Nat.le_of_ble_eq_true rfl)⟩) hP hD hS hA [] [0] [0] rfl rfl rfl (by decide) (fun _ => rfl) rfl (fun r _ H locs hw hP hD hS => ?_)
  subst hw
  have hP : va_P G vwCl [(b, .inr (8, [.null, .int 0, .int 0, .int 0]))] H := hP
  have hD : va_D A [(b, .inr (8, [.null, .int 0, .int 0, .int 0]))] := hD
  refine lv_istore (lv' := [(4, .int 0), (3, .int (nI (sw_len.getD k 0 + 16))), (2, .int (nI (sw_len.getD k 0))), (0, .ref b), (1, .ref (Z (20 + k)))]) hx hb dJ5_init_a7421_29 hl (by decide) rfl (fun ls hl => ?_)
  refine lv_aload_n hx hb dJ5_init_a7421_31 rfl (lv_at hl 3 rfl) ?_
  refine lv_iload hx hb dJ5_init_a7421_32 (lv_at hl 0 rfl) ?_
  refine va_put (v := .int 0) (ty := .byte) hx hb htU iU_J4 tyJ4 tyJ4_ok nmJ4 hown hK hP hD hS 0 rfl rfl 1 (by decide) (htU _ fl_J5_22) (fun _ h9 => h9) rfl (by decide +kernel) rfl rfl (Nat.le_of_ble_eq_true rfl) dJ5_init_a7421_34 (fun H locs hP hD hS => ?_)
  have hP : va_P G vwCl [(b, .inr (8, [.null, .int 0, .int 0, .int 0]))] H := hP
  have hD : va_D A [(b, .inr (8, [.null, .int 0, .int 0, .int 0]))] := hD
  refine lv_aload_n hx hb dJ5_init_a7421_37 rfl (lv_at hl 3 rfl) ?_
  refine lv_iload hx hb dJ5_init_a7421_38 (lv_at hl 0 rfl) ?_
  refine lv_if_ne (tgt := 49) hx hb dJ5_init_a7421_40 (by decide) (fun c9 => absurd rfl c9) (fun _ => ?_)
  refine lv_iload_n hx hb dJ5_init_a7421_43 rfl (lv_at hl 1 rfl) ?_
  refine sw_newb hx hb htU hK hP hD hS hA (nI_pos (by omega)) (nI_clamp (by omega) : (nI (sw_len.getD k 0 + 16)).toNatClampNeg = sw_len.getD k 0 + 16) (by show (sw_len.getD k 0 + 16) * 1 ≤ 536870912; omega) (Nat.le_of_ble_eq_true rfl) (by show 0 + (sw_len.getD k 0 + 16) ≤ 2048; omega) dJ5_init_a7421_44 (fun q44 H hP hD hS => ?_)
  have hP : va_P G vwCl [(b, .inr (8, [.null, .int 0, .int 0, .int 0])), (q44, .inl (ca 1, sw_len.getD k 0 + 16, .inl (fun _ => 0)))] H := hP
  have hD : va_D A [(b, .inr (8, [.null, .int 0, .int 0, .int 0])), (q44, .inl (ca 1, sw_len.getD k 0 + 16, .inl (fun _ => 0)))] := hD
  refine lv_goto (tgt := 53) hx hb dJ5_init_a7421_46 (by decide) ?_
  refine va_put (v := .ref q44) (ty := (.array .byte)) hx hb htU iU_J4 tyJ4 tyJ4_ok nmJ4 hown hK hP hD hS 0 rfl rfl 0 (by decide) (htU _ fl_J5_15) (fun _ h9 => h9) rfl (by decide +kernel) rfl rfl (Nat.le_of_ble_eq_true rfl) dJ5_init_a7421_53 (fun H locs hP hD hS => ?_)
  have hP : va_P G vwCl [(b, .inr (8, [.ref q44, .int 0, .int 0, .int 0])), (q44, .inl (ca 1, sw_len.getD k 0 + 16, .inl (fun _ => 0)))] H := hP
  have hD : va_D A [(b, .inr (8, [.ref q44, .int 0, .int 0, .int 0])), (q44, .inl (ca 1, sw_len.getD k 0 + 16, .inl (fun _ => 0)))] := hD
  refine lv_aload_n hx hb dJ5_init_a7421_56 rfl (lv_at hl 3 rfl) ?_
  refine lv_aload_n hx hb dJ5_init_a7421_57 rfl (lv_at hl 4 rfl) ?_
  have e0 : (fun _ => (0 : Int32)) = sb_F [] := by funext j; rfl
  rw [e0] at hP hD
  have hP : va_P G vwCl [(b, .inr (8, [.ref q44, .int 0, .int 0, .int 0])), (q44, .inl (ca 1, sw_len.getD k 0 + 16, .inl (sb_F [])))] H := hP
  have hD : va_D A [(b, .inr (8, [.ref q44, .int 0, .int 0, .int 0])), (q44, .inl (ca 1, sw_len.getD k 0 + 16, .inl (sb_F [])))] := hD
  refine sw_cr (sb_runX (As := [.ref (Z (20 + k))]) (rest := []) Cx hP hD hS ml_J5_43 sm_J5_append_cf1ce im_J5_append_cf1ce co_J5_append_cf1ce (fun h9 => h9 _ sx_J5_append_cf1ce) im_J4_append_cf1ce ini_J4 co_J4_append_cf1ce (by decide +kernel) (c_sb_AppB l G ca Z b q44 0 (sw_len.getD k 0 + 16) [] k H.size (fun _ h => by cases h) rfl (by omega) (by omega) (by omega) hk6 (by omega)) rfl [0, 1] rfl rfl rfl rfl ⟨(Nat.le_of_ble_eq_true rfl), (Nat.le_of_ble_eq_true rfl)⟩ hl.1 rfl rfl (Nat.le_of_ble_eq_true rfl) dJ5_init_a7421_58 ⟨(Nat.le_of_ble_eq_true rfl), (by show 0 + (sw_len.getD k 0 + 16) + 1024 ≤ 2048; omega)⟩) hP hD hS hA [0, 1] [] [0, 1] rfl rfl rfl (by decide) (fun _ => rfl) rfl (fun u H locs hw hP hD hS => ?_)
  have hP : va_P G vwCl [(b, .inr (8, [.ref (u.1), .int 0, .int 0, .int (nI (0 + sw_len.getD k 0))])), (u.1, .inl (ca 1, u.2, .inl (sb_F ([] ++ sw_byt.getD k []))))] H := hP
  have hD : va_D A [(b, .inr (8, [.ref (u.1), .int 0, .int 0, .int (nI (0 + sw_len.getD k 0))])), (u.1, .inl (ca 1, u.2, .inl (sb_F ([] ++ sw_byt.getD k []))))] := hD
  rw [Nat.zero_add, List.nil_append] at hP hD
  have hP : va_P G vwCl [(b, .inr (8, [.ref (u.1), .int 0, .int 0, .int (nI (sw_len.getD k 0))])), (u.1, .inl (ca 1, u.2, .inl (sb_F (sw_byt.getD k []))))] H := hP
  have hD : va_D A [(b, .inr (8, [.ref (u.1), .int 0, .int 0, .int (nI (sw_len.getD k 0))])), (u.1, .inl (ca 1, u.2, .inl (sb_F (sw_byt.getD k []))))] := hD
  refine lv_pop hx hb dJ5_init_a7421_61 rfl ?_
  refine W.widen (k := 2) (n := 2048) (Nat.le_of_ble_eq_true rfl) (by omega) ?_
  exact sw_rv hx hb hr hlocks hS u (by rw [Nat.zero_add] at hw; exact hw) hP hD dJ5_init_a7421_62
abbrev RM_sb_init : Room := ({ frames := 8, cells := 2, slots := 2048, locals := 198 } : Room)
set_option maxHeartbeats 4000000 in
set_option maxRecDepth 100000 in
theorem c_sb_init (l : Launch) (G : va_G) (ca Z : Nat → Nat) (b k : Nat) (sz : Nat) (hk6 : k < 6) (hk3 : 6 ≤ sw_len.getD k 0) : Met l yJ4_init_a7421 (.code yJ4_init_a7421 cJ4_init_a7421 2 (Option.none : Option Jvm.ClassFile.FieldType) :: sw_U) RM_sb_init (va_Pc [.ref b, .ref (Z (20 + k))] (sw_Pre G ca Z [(b, .inr (8, [.null, .int 0, .int 0, .int 0]))] sz)) ((fun A => va_Qv (fun (u : Nat × Nat) => sw_len.getD k 0 ≤ u.2 ∧ 22 ≤ u.2 ∧ u.2 ≤ 240) (sw_Post G A (fun (u : Nat × Nat) => [(b, .inr (8, [.ref (u.1), .int 0, .int 0, .int (nI (sw_len.getD k 0))])), (u.1, .inl (ca 1, u.2, .inl (sb_F (sw_byt.getD k []))))])) A) (va_A [(b, .inr (8, [.null, .int 0, .int 0, .int 0]))] sz)) 2 2048 (va_A [(b, .inr (8, [.null, .int 0, .int 0, .int 0]))] sz) := by
  refine sw_ofW (Qc := fun A => va_Qv (fun (u : Nat × Nat) => sw_len.getD k 0 ≤ u.2 ∧ 22 ≤ u.2 ∧ u.2 ≤ 240) (sw_Post G A (fun (u : Nat × Nat) => [(b, .inr (8, [.ref (u.1), .int 0, .int 0, .int (nI (sw_len.getD k 0))])), (u.1, .inl (ca 1, u.2, .inl (sb_F (sw_byt.getD k []))))])) A) (by decide +kernel) [(0, .ref b), (1, .ref (Z (20 + k)))] rfl (Nat.le_of_ble_eq_true rfl) ?_
  intro p e s m9 args below meth c ls A hx hb hr hml hown htU hlocks hin hP hK hD hX hY hS hA hl
  have hown : s.vm.findClass RJ4 = some m9.cls := hown
  have hin : meth.name = "<init>" := hin
  have Cx : sw_Cx p s m args c cJ4_init_a7421 2 RJ4 G ca Z A := ⟨⟨hx, hb, hml, hown, htU⟩, hK, hX, hY, hA⟩
  have hP : va_P G vwCl [(b, .inr (8, [.null, .int 0, .int 0, .int 0]))] s.heap := hP
  have hD : va_D A [(b, .inr (8, [.null, .int 0, .int 0, .int 0]))] := hD
  refine lv_aload_n hx hb dJ4_init_a7421_0 rfl (lv_at hl 0 rfl) ?_
  refine lv_aload_n hx hb dJ4_init_a7421_1 rfl (lv_at hl 1 rfl) ?_
  refine sw_cv (sw_runI (As := [.ref (Z (20 + k))]) (rest := []) Cx hP hD hS co_J5_init_a7421 ini_J5 im_J5_init_a7421 ml_J4_7 rfl (c_sb_init5 l G ca Z b k s.heap.size hk6 hk3) (by decide +kernel) [0] rfl rfl rfl rfl ⟨(Nat.le_of_ble_eq_true rfl), (Nat.le_of_ble_eq_true rfl)⟩ hl.1 rfl rfl (Nat.le_of_ble_eq_true rfl) dJ4_init_a7421_2 ⟨(Nat.le_of_ble_eq_true rfl), (Nat.le_of_ble_eq_true rfl)⟩) hP hD hS hA [0] [] [0, 1] rfl rfl rfl (by decide) (fun _ => rfl) rfl (fun u H locs hw hP hD hS => ?_)
  have hP : va_P G vwCl [(b, .inr (8, [.ref (u.1), .int 0, .int 0, .int (nI (sw_len.getD k 0))])), (u.1, .inl (ca 1, u.2, .inl (sb_F (sw_byt.getD k []))))] H := hP
  have hD : va_D A [(b, .inr (8, [.ref (u.1), .int 0, .int 0, .int (nI (sw_len.getD k 0))])), (u.1, .inl (ca 1, u.2, .inl (sb_F (sw_byt.getD k []))))] := hD
  exact sw_rv hx hb hr hlocks hS u hw hP hD dJ4_init_a7421_5
abbrev RM_sb_getValue : Room := ({ frames := 0, cells := 0, slots := 0, locals := 0 } : Room)
set_option maxHeartbeats 4000000 in
set_option maxRecDepth 100000 in
theorem c_sb_getValue (l : Launch) (G : va_G) (ca Z : Nat → Nat) (b v : Nat) (nn : Value) (sz : Nat)  : Met l yJ5_getValue_6d5f1 (.code yJ5_getValue_6d5f1 cJ5_getValue_6d5f1 1 (Option.some (Jvm.ClassFile.FieldType.array Jvm.ClassFile.FieldType.byte)) :: sw_U) RM_sb_getValue (va_Pc [.ref b] (sw_Pre G ca Z [(b, .inr (8, [.ref v, .int 0, .int 0, nn]))] sz)) ((fun A => va_Qr (fun (u : Unit) => True) (fun (u : Unit) q t => q = v ∧ sw_Post G A (fun (u : Unit) => [(b, .inr (8, [.ref v, .int 0, .int 0, nn]))]) u t) A) (va_A [(b, .inr (8, [.ref v, .int 0, .int 0, nn]))] sz)) 0 0 (va_A [(b, .inr (8, [.ref v, .int 0, .int 0, nn]))] sz) := by
  refine sw_ofW (Qc := fun A => va_Qr (fun (u : Unit) => True) (fun (u : Unit) q t => q = v ∧ sw_Post G A (fun (u : Unit) => [(b, .inr (8, [.ref v, .int 0, .int 0, nn]))]) u t) A) (by decide +kernel) [(0, .ref b)] rfl (Nat.le_of_ble_eq_true rfl) ?_
  intro p e s m9 args below meth c ls A hx hb hr hml hown htU hlocks hin hP hK hD hX hY hS hA hl
  have hown : s.vm.findClass RJ5 = some m9.cls := hown
  have Cx : sw_Cx p s m args c cJ5_getValue_6d5f1 1 RJ5 G ca Z A := ⟨⟨hx, hb, hml, hown, htU⟩, hK, hX, hY, hA⟩
  have hP : va_P G vwCl [(b, .inr (8, [.ref v, .int 0, .int 0, nn]))] s.heap := hP
  have hD : va_D A [(b, .inr (8, [.ref v, .int 0, .int 0, nn]))] := hD
  refine lv_aload_n hx hb dJ5_getValue_6d5f1_0 rfl (lv_at hl 0 rfl) ?_
  refine va_get (v := .ref v) hx hb htU iU_J4 hown hK hP 0 rfl rfl 0 (by decide) (htU _ fl_J5_15) (fun _ h9 => h9) rfl dJ5_getValue_6d5f1_1 ?_
  exact sb_ra hx hb hr hlocks hS () trivial hP hD dJ5_getValue_6d5f1_4
abbrev RM_sb_length5 : Room := ({ frames := 0, cells := 0, slots := 0, locals := 0 } : Room)
set_option maxHeartbeats 4000000 in
set_option maxRecDepth 100000 in
theorem c_sb_length5 (l : Launch) (G : va_G) (ca Z : Nat → Nat) (b n : Nat) (vv : Value) (sz : Nat)  : Met l yJ5_length_8abf5 (.code yJ5_length_8abf5 cJ5_length_8abf5 1 (Option.some Jvm.ClassFile.FieldType.int) :: sw_U) RM_sb_length5 (va_Pc [.ref b] (sw_Pre G ca Z [(b, .inr (8, [vv, .int 0, .int 0, .int (nI n)]))] sz)) ((fun A => va_Qi (fun r (u : Unit) => nI n = r) (sw_Post G A (fun (u : Unit) => [(b, .inr (8, [vv, .int 0, .int 0, .int (nI n)]))])) A) (va_A [(b, .inr (8, [vv, .int 0, .int 0, .int (nI n)]))] sz)) 0 0 (va_A [(b, .inr (8, [vv, .int 0, .int 0, .int (nI n)]))] sz) := by
  refine sw_ofW (Qc := fun A => va_Qi (fun r (u : Unit) => nI n = r) (sw_Post G A (fun (u : Unit) => [(b, .inr (8, [vv, .int 0, .int 0, .int (nI n)]))])) A) (by decide +kernel) [(0, .ref b)] rfl (Nat.le_of_ble_eq_true rfl) ?_
  intro p e s m9 args below meth c ls A hx hb hr hml hown htU hlocks hin hP hK hD hX hY hS hA hl
  have hown : s.vm.findClass RJ5 = some m9.cls := hown
  have Cx : sw_Cx p s m args c cJ5_length_8abf5 1 RJ5 G ca Z A := ⟨⟨hx, hb, hml, hown, htU⟩, hK, hX, hY, hA⟩
  have hP : va_P G vwCl [(b, .inr (8, [vv, .int 0, .int 0, .int (nI n)]))] s.heap := hP
  have hD : va_D A [(b, .inr (8, [vv, .int 0, .int 0, .int (nI n)]))] := hD
  refine lv_aload_n hx hb dJ5_length_8abf5_0 rfl (lv_at hl 0 rfl) ?_
  refine va_get (v := .int (nI n)) hx hb htU iU_J4 hown hK hP 0 rfl rfl 3 (by decide) (htU _ fl_J5_79) (fun _ h9 => h9) rfl dJ5_length_8abf5_1 ?_
  exact sw_ri hx hb hr hlocks hS () rfl hP hD dJ5_length_8abf5_4
abbrev RM_sb_length4 : Room := ({ frames := 1, cells := 0, slots := 0, locals := 20 } : Room)
set_option maxHeartbeats 4000000 in
set_option maxRecDepth 100000 in
theorem c_sb_length4 (l : Launch) (G : va_G) (ca Z : Nat → Nat) (b n : Nat) (vv : Value) (sz : Nat)  : Met l yJ4_length_8abf5 (.code yJ4_length_8abf5 cJ4_length_8abf5 1 (Option.some Jvm.ClassFile.FieldType.int) :: sw_U) RM_sb_length4 (va_Pc [.ref b] (sw_Pre G ca Z [(b, .inr (8, [vv, .int 0, .int 0, .int (nI n)]))] sz)) ((fun A => va_Qi (fun r (u : Unit) => nI n = r) (sw_Post G A (fun (u : Unit) => [(b, .inr (8, [vv, .int 0, .int 0, .int (nI n)]))])) A) (va_A [(b, .inr (8, [vv, .int 0, .int 0, .int (nI n)]))] sz)) 0 0 (va_A [(b, .inr (8, [vv, .int 0, .int 0, .int (nI n)]))] sz) := by
  refine sw_ofW (Qc := fun A => va_Qi (fun r (u : Unit) => nI n = r) (sw_Post G A (fun (u : Unit) => [(b, .inr (8, [vv, .int 0, .int 0, .int (nI n)]))])) A) (by decide +kernel) [(0, .ref b)] rfl (Nat.le_of_ble_eq_true rfl) ?_
  intro p e s m9 args below meth c ls A hx hb hr hml hown htU hlocks hin hP hK hD hX hY hS hA hl
  have hown : s.vm.findClass RJ4 = some m9.cls := hown
  have Cx : sw_Cx p s m args c cJ4_length_8abf5 1 RJ4 G ca Z A := ⟨⟨hx, hb, hml, hown, htU⟩, hK, hX, hY, hA⟩
  have hP : va_P G vwCl [(b, .inr (8, [vv, .int 0, .int 0, .int (nI n)]))] s.heap := hP
  have hD : va_D A [(b, .inr (8, [vv, .int 0, .int 0, .int (nI n)]))] := hD
  refine lv_aload_n hx hb dJ4_length_8abf5_0 rfl (lv_at hl 0 rfl) ?_
  refine sw_ci (sb_runU (As := []) (rest := []) Cx hP hD hS ml_J4_343 sm_J5_length_8abf5 sup_J4 im_J5_length_8abf5 ini_J5 co_J5_length_8abf5 (by decide +kernel) (c_sb_length5 l G ca Z b n vv s.heap.size) rfl [0] rfl rfl rfl rfl ⟨(Nat.le_of_ble_eq_true rfl), (Nat.le_of_ble_eq_true rfl)⟩ hl.1 rfl rfl (Nat.le_of_ble_eq_true rfl) dJ4_length_8abf5_1 ⟨(Nat.le_of_ble_eq_true rfl), (Nat.le_of_ble_eq_true rfl)⟩) hP hD hS hA [0] [] [0] rfl rfl rfl (by decide) (fun _ => rfl) rfl (fun r _ H locs hw hP hD hS => ?_)
  subst hw
  have hP : va_P G vwCl [(b, .inr (8, [vv, .int 0, .int 0, .int (nI n)]))] H := hP
  have hD : va_D A [(b, .inr (8, [vv, .int 0, .int 0, .int (nI n)]))] := hD
  exact sw_ri hx hb hr hlocks hS () rfl hP hD dJ4_length_8abf5_4
abbrev RM_sb_check : Room := ({ frames := 0, cells := 0, slots := 0, locals := 0 } : Room)
set_option maxHeartbeats 4000000 in
set_option maxRecDepth 100000 in
theorem c_sb_check (l : Launch) (G : va_G) (ca Z : Nat → Nat) (n : Nat) (sz : Nat) (hn : n ≤ 600) : Met l yJ7_checkLength_df160 (.code yJ7_checkLength_df160 cJ7_checkLength_df160 2 (Option.none : Option Jvm.ClassFile.FieldType) :: sw_U) RM_sb_check (va_Pc [.int 0, .int (nI n)] (sw_Pre G ca Z [] sz)) ((fun A => va_Qv (fun (u : Unit) => True) (sw_Post G A (fun (u : Unit) => [])) A) (va_A [] sz)) 0 0 (va_A [] sz) := by
  refine sw_ofW (Qc := fun A => va_Qv (fun (u : Unit) => True) (sw_Post G A (fun (u : Unit) => [])) A) (by decide +kernel) [(0, .int 0), (1, .int (nI n))] rfl (Nat.le_of_ble_eq_true rfl) ?_
  intro p e s m9 args below meth c ls A hx hb hr hml hown htU hlocks hin hP hK hD hX hY hS hA hl
  have hown : s.vm.findClass RJ7 = some m9.cls := hown
  have Cx : sw_Cx p s m args c cJ7_checkLength_df160 2 RJ7 G ca Z A := ⟨⟨hx, hb, hml, hown, htU⟩, hK, hX, hY, hA⟩
  have hP : va_P G vwCl [] s.heap := hP
  have hD : va_D A [] := hD
  refine lv_iload_n hx hb dJ7_checkLength_df160_0 rfl (lv_at hl 1 rfl) ?_
  refine lv_iload_n hx hb dJ7_checkLength_df160_1 rfl (lv_at hl 0 rfl) ?_
  refine lv_icmp_ge (tgt := 37) hx hb dJ7_checkLength_df160_2 (by decide) (fun _ => ?_) (fun c9 => absurd (nI_pos' (by omega) : (0 : Int32) ≤ nI n) c9)
  exact sw_rv hx hb hr hlocks hS () trivial hP hD dJ7_checkLength_df160_37
theorem sb_min {n m : Nat} (h : n ≤ m) (hm : m < 2 ^ 31) : (if nI n < nI m then nI n else nI m) = nI n := by
  by_cases c : n = m
  · subst c
    split <;> rfl
  · rw [if_pos (nI_lt (by omega) hm)]
abbrev RM_sb_rangeB : Room := ({ frames := 1, cells := 1, slots := 1024, locals := 40 } : Room)
set_option maxHeartbeats 4000000 in
set_option maxRecDepth 100000 in
theorem c_sb_rangeB (l : Launch) (G : va_G) (ca Z : Nat → Nat) (v m n : Nat) (t : List Int32) (sz : Nat) (hA0 : sb_A t) (htn : t.length = n) (hnm : n ≤ m) (hm2 : m ≤ 240) : Met l yJ7_copyOfRangeByte_39247 (.code yJ7_copyOfRangeByte_39247 cJ7_copyOfRangeByte_39247 5 (Option.some (Jvm.ClassFile.FieldType.array Jvm.ClassFile.FieldType.byte)) :: sw_U) RM_sb_rangeB (va_Pc [.ref v, .int 0, .int (nI n)] (sw_Pre G ca Z [(v, .inl (ca 1, m, .inl (sb_F t)))] sz)) ((fun A => va_Qr (fun (u : Nat) => True) (fun (u : Nat) q t => q = (fun u => u) u ∧ sw_Post G A (fun (u : Nat) => [(v, .inl (ca 1, m, .inl (sb_F t))), (u, .inl (ca 1, n, .inl (sb_F t)))]) u t) A) (va_A [(v, .inl (ca 1, m, .inl (sb_F t)))] sz)) 1 1024 (va_A [(v, .inl (ca 1, m, .inl (sb_F t)))] sz) := by
  refine sw_ofW (Qc := fun A => va_Qr (fun (u : Nat) => True) (fun (u : Nat) q t => q = (fun u => u) u ∧ sw_Post G A (fun (u : Nat) => [(v, .inl (ca 1, m, .inl (sb_F t))), (u, .inl (ca 1, n, .inl (sb_F t)))]) u t) A) (by decide +kernel) [(0, .ref v), (1, .int 0), (2, .int (nI n))] rfl (Nat.le_of_ble_eq_true rfl) ?_
  intro p e s m9 args below meth c ls A hx hb hr hml hown htU hlocks hin hP hK hD hX hY hS hA hl
  have hown : s.vm.findClass RJ7 = some m9.cls := hown
  have Cx : sw_Cx p s m args c cJ7_copyOfRangeByte_39247 5 RJ7 G ca Z A := ⟨⟨hx, hb, hml, hown, htU⟩, hK, hX, hY, hA⟩
  have hP : va_P G vwCl [(v, .inl (ca 1, m, .inl (sb_F t)))] s.heap := hP
  have hD : va_D A [(v, .inl (ca 1, m, .inl (sb_F t)))] := hD
  refine lv_iload_n hx hb dJ7_copyOfRangeByte_39247_0 rfl (lv_at hl 1 rfl) ?_
  refine lv_iload_n hx hb dJ7_copyOfRangeByte_39247_1 rfl (lv_at hl 2 rfl) ?_
  refine sw_cv (sw_runS (As := [.int 0, .int (nI n)]) (rest := []) Cx hP hD hS ms_J7_checkLength_df160 ml_J7_343 (c_sb_check l G ca Z n s.heap.size (by omega)) [] rfl rfl rfl rfl ⟨(Nat.le_of_ble_eq_true rfl), (Nat.le_of_ble_eq_true rfl)⟩ hl.1 rfl rfl (Nat.le_of_ble_eq_true rfl) dJ7_copyOfRangeByte_39247_2 ⟨(Nat.le_of_ble_eq_true rfl), (Nat.le_of_ble_eq_true rfl)⟩) hP hD hS hA [] [0] [0] rfl rfl rfl (by decide) (fun _ => rfl) rfl (fun _ H locs hw hP hD hS => ?_)
  have hP : va_P G vwCl [(v, .inl (ca 1, m, .inl (sb_F t)))] H := hP
  have hD : va_D A [(v, .inl (ca 1, m, .inl (sb_F t)))] := hD
  refine lv_iload_n hx hb dJ7_copyOfRangeByte_39247_5 rfl (lv_at hl 2 rfl) ?_
  refine lv_iload_n hx hb dJ7_copyOfRangeByte_39247_6 rfl (lv_at hl 1 rfl) ?_
  refine sb_isub (v := nI n) hx hb dJ7_copyOfRangeByte_39247_7 (Int32.sub_zero _) ?_
  refine lv_istore_n (lv' := [(3, .int (nI n)), (0, .ref v), (1, .int 0), (2, .int (nI n))]) hx hb dJ7_copyOfRangeByte_39247_8 rfl hl (by decide) rfl (fun ls hl => ?_)
  refine lv_iload_n hx hb dJ7_copyOfRangeByte_39247_9 rfl (lv_at hl 0 rfl) ?_
  refine sw_newb hx hb htU hK hP hD hS hA (nI_pos (by omega)) (nI_clamp (by omega) : (nI n).toNatClampNeg = n) (by show n * 1 ≤ 536870912; omega) (Nat.le_of_ble_eq_true rfl) (by show 0 + n ≤ 1024; omega) dJ7_copyOfRangeByte_39247_10 (fun q10 H hP hD hS => ?_)
  have hP : va_P G vwCl [(v, .inl (ca 1, m, .inl (sb_F t))), (q10, .inl (ca 1, n, .inl (fun _ => 0)))] H := hP
  have hD : va_D A [(v, .inl (ca 1, m, .inl (sb_F t))), (q10, .inl (ca 1, n, .inl (fun _ => 0)))] := hD
  refine lv_astore (lv' := [(4, .ref q10), (3, .int (nI n)), (0, .ref v), (1, .int 0), (2, .int (nI n))]) hx hb dJ7_copyOfRangeByte_39247_12 hl (by decide) rfl (fun ls hl => ?_)
  refine lv_aload_n hx hb dJ7_copyOfRangeByte_39247_14 rfl (lv_at hl 2 rfl) ?_
  refine lv_iload_n hx hb dJ7_copyOfRangeByte_39247_15 rfl (lv_at hl 3 rfl) ?_
  refine lv_aload hx hb dJ7_copyOfRangeByte_39247_16 (lv_at hl 0 rfl) ?_
  refine lv_iconst (v := 0) hx hb dJ7_copyOfRangeByte_39247_18 (by decide) ?_
  refine lv_aload_n hx hb dJ7_copyOfRangeByte_39247_19 rfl (lv_at hl 2 rfl) ?_
  refine va_alen (v := nI m) hx hb hK hP 0 1 rfl rfl rfl dJ7_copyOfRangeByte_39247_20 ?_
  refine lv_iload_n hx hb dJ7_copyOfRangeByte_39247_21 rfl (lv_at hl 3 rfl) ?_
  refine sb_isub (v := nI m) hx hb dJ7_copyOfRangeByte_39247_22 (Int32.sub_zero _) ?_
  refine lv_iload_n hx hb dJ7_copyOfRangeByte_39247_23 rfl (lv_at hl 1 rfl) ?_
  refine va_mmin hx hb (hml.trans hl.1.symm) hown (htU _ mm_J7_304) (htU _ mm_st_min) (htU _ mm_ini) (htU _ mm_co_min) (Nat.le_of_ble_eq_true rfl) (Nat.le_of_ble_eq_true rfl) (Nat.le_of_ble_eq_true rfl) (by show 0 + n + 0 ≤ 1024; omega) dJ7_copyOfRangeByte_39247_24 ?_
  rw [show (if nI n < nI m then nI n else nI m) = nI n from sb_min hnm (by omega)]
  refine va_copyi hx hb (hml.trans hl.1.symm) hown (htU _ ac_J7_150) (htU _ ac_nat) (htU _ ac_st) (htU _ ac_ini) hK hP hD hS 0 1 1 1 rfl rfl rfl rfl rfl (by decide) (by decide) (nI_pos (by omega)) (by rw [nI_clamp (by omega), sb_c0]; omega) (by rw [nI_clamp (by omega), sb_c0]; omega) (fun i _ => sb_fitF hA0 _) (Nat.le_of_ble_eq_true rfl) (Nat.le_of_ble_eq_true rfl) dJ7_copyOfRangeByte_39247_27 (fun H locs hP hD hS => ?_)
  rw [sb_c0, nI_clamp (by omega), sb_cut htn] at hP hD
  have hP : va_P G vwCl [(v, .inl (ca 1, m, .inl (sb_F t))), (q10, .inl (ca 1, n, .inl (sb_F t)))] H := hP
  have hD : va_D A [(v, .inl (ca 1, m, .inl (sb_F t))), (q10, .inl (ca 1, n, .inl (sb_F t)))] := hD
  refine lv_aload hx hb dJ7_copyOfRangeByte_39247_30 (lv_at hl 0 rfl) ?_
  refine W.widen (k := 1) (n := 1024) (Nat.le_of_ble_eq_true rfl) (by omega) ?_
  exact sb_rar (f0 := fun u => u) hx hb hr hlocks hS q10 rfl trivial hP hD dJ7_copyOfRangeByte_39247_32
theorem sb_cellfit {t : List Int32} (h : sb_A t) {cA : ClassId} {n i : Nat} {v : Value} (hv : (vp_cell cA (n, .inl (sb_F t))).slots[i]? = some v) : fits .byte v = true := by
  have hv : (arrV cA n (fun j => .int (sb_F t j))).slots[i]? = some v := hv
  have hl : i < n := by
    have := (Array.getElem?_eq_some_iff.mp hv).1
    rw [arrV_size] at this
    exact this
  rw [arrV_read _ _ hl] at hv
  cases hv
  exact sb_fitF h i
abbrev RM_sb_range : Room := ({ frames := 2, cells := 1, slots := 1024, locals := 64 } : Room)
set_option maxHeartbeats 4000000 in
set_option maxRecDepth 100000 in
theorem c_sb_range (l : Launch) (G : va_G) (ca Z : Nat → Nat) (v m n : Nat) (t : List Int32) (sz : Nat) (hA0 : sb_A t) (htn : t.length = n) (hnm : n ≤ m) (hm2 : m ≤ 240) : Met l yJ7_copyOfRange_39247 (.code yJ7_copyOfRange_39247 cJ7_copyOfRange_39247 3 (Option.some (Jvm.ClassFile.FieldType.array Jvm.ClassFile.FieldType.byte)) :: sw_U) RM_sb_range (va_Pc [.ref v, .int 0, .int (nI n)] (sw_Pre G ca Z [(v, .inl (ca 1, m, .inl (sb_F t)))] sz)) ((fun A => va_Qr (fun (u : Nat) => True) (fun (u : Nat) q t => q = (fun u => u) u ∧ sw_Post G A (fun (u : Nat) => [(v, .inl (ca 1, m, .inl (sb_F t))), (u, .inl (ca 1, n, .inl (sb_F t)))]) u t) A) (va_A [(v, .inl (ca 1, m, .inl (sb_F t)))] sz)) 1 1024 (va_A [(v, .inl (ca 1, m, .inl (sb_F t)))] sz) := by
  refine sw_ofW (Qc := fun A => va_Qr (fun (u : Nat) => True) (fun (u : Nat) q t => q = (fun u => u) u ∧ sw_Post G A (fun (u : Nat) => [(v, .inl (ca 1, m, .inl (sb_F t))), (u, .inl (ca 1, n, .inl (sb_F t)))]) u t) A) (by decide +kernel) [(0, .ref v), (1, .int 0), (2, .int (nI n))] rfl (Nat.le_of_ble_eq_true rfl) ?_
  intro p e s m9 args below meth c ls A hx hb hr hml hown htU hlocks hin hP hK hD hX hY hS hA hl
  have hown : s.vm.findClass RJ7 = some m9.cls := hown
  have Cx : sw_Cx p s m args c cJ7_copyOfRange_39247 3 RJ7 G ca Z A := ⟨⟨hx, hb, hml, hown, htU⟩, hK, hX, hY, hA⟩
  have hP : va_P G vwCl [(v, .inl (ca 1, m, .inl (sb_F t)))] s.heap := hP
  have hD : va_D A [(v, .inl (ca 1, m, .inl (sb_F t)))] := hD
  refine lv_iload_n hx hb dJ7_copyOfRange_39247_0 rfl (lv_at hl 1 rfl) ?_
  refine lv_if_ne (tgt := 10) hx hb dJ7_copyOfRange_39247_1 (by decide) (fun c9 => absurd rfl c9) (fun _ => ?_)
  refine lv_iload_n hx hb dJ7_copyOfRange_39247_4 rfl (lv_at hl 2 rfl) ?_
  refine lv_aload_n hx hb dJ7_copyOfRange_39247_5 rfl (lv_at hl 0 rfl) ?_
  refine va_alen (v := nI m) hx hb hK hP 0 1 rfl rfl rfl dJ7_copyOfRange_39247_6 ?_
  refine lv_icmp_eq (tgt := 17) hx hb dJ7_copyOfRange_39247_7 (by decide) (fun c7 => ?_) (fun c7 => ?_)
  · have hmn : n = m := (nI_eq (by omega) (by omega)).mp c7
    subst hmn
    have hP : va_P G vwCl [(v, .inl (ca 1, n, .inl (sb_F t)))] H := hP
    have hD : va_D A [(v, .inl (ca 1, n, .inl (sb_F t)))] := hD
    refine lv_aload_n hx hb dJ7_copyOfRange_39247_17 rfl (lv_at hl 0 rfl) ?_
    have hbn : s.vm.findClass "[B" = some (ca 1) := (hK.2 1 _ rfl).2
    refine va_clone hx hb (hml.trans hl.1.symm) hown (htU _ ml_J7_310) (htU _ cln_sm) (htU _ cln_nat) (htU _ cln_im) (htU _ cln_se) (hY.2.2.2 _ cln_cs rfl) hK hP hD hS hA 0 1 rfl rfl hbn (fun i x hx1 => sb_cellfit hA0 hx1) (Nat.le_of_ble_eq_true rfl) (Nat.le_of_ble_eq_true rfl) (Nat.le_of_ble_eq_true rfl) (by show 0 + n ≤ 1024; omega) dJ7_copyOfRange_39247_18 (fun q18 H _ hP hD hS => ?_)
    have hP : va_P G vwCl [(v, .inl (ca 1, n, .inl (sb_F t))), (q18, .inl (ca 1, n, .inl (sb_F t)))] H := hP
    have hD : va_D A [(v, .inl (ca 1, n, .inl (sb_F t))), (q18, .inl (ca 1, n, .inl (sb_F t)))] := hD
    refine va_castA hx hb hown (htU _ cl_J7_311) hP 1 rfl hbn dJ7_copyOfRange_39247_21 ?_
    refine W.widen (k := 1) (n := 1024) (Nat.le_of_ble_eq_true rfl) (by show 0 + n ≤ 1024; omega) ?_
    exact sb_rar (f0 := fun u => u) hx hb hr hlocks hS q18 rfl trivial hP hD dJ7_copyOfRange_39247_24
  · refine lv_aload_n hx hb dJ7_copyOfRange_39247_10 rfl (lv_at hl 0 rfl) ?_
    refine lv_iload_n hx hb dJ7_copyOfRange_39247_11 rfl (lv_at hl 1 rfl) ?_
    refine lv_iload_n hx hb dJ7_copyOfRange_39247_12 rfl (lv_at hl 2 rfl) ?_
    refine sb_cr (f0 := fun u => u) (sw_runS (As := [.ref v, .int 0, .int (nI n)]) (rest := []) Cx hP hD hS ms_J7_copyOfRangeByte_39247 ml_J7_339 (c_sb_rangeB l G ca Z v m n t s.heap.size hA0 htn hnm hm2) [0] rfl rfl rfl rfl ⟨(Nat.le_of_ble_eq_true rfl), (Nat.le_of_ble_eq_true rfl)⟩ hl.1 rfl rfl (Nat.le_of_ble_eq_true rfl) dJ7_copyOfRange_39247_13 ⟨(Nat.le_of_ble_eq_true rfl), (Nat.le_of_ble_eq_true rfl)⟩) hP hD hS hA [0] [] [0, 1] rfl rfl rfl (by decide) (fun _ => rfl) rfl (fun u H locs hw hP hD hS => ?_)
    have hP : va_P G vwCl [(v, .inl (ca 1, m, .inl (sb_F t))), (u, .inl (ca 1, n, .inl (sb_F t)))] H := hP
    have hD : va_D A [(v, .inl (ca 1, m, .inl (sb_F t))), (u, .inl (ca 1, n, .inl (sb_F t)))] := hD
    exact sb_rar (f0 := fun u => u) hx hb hr hlocks hS u rfl trivial hP hD dJ7_copyOfRange_39247_16
abbrev RM_st_init2 : Room := ({ frames := 3, cells := 1, slots := 1024, locals := 86 } : Room)
set_option maxHeartbeats 4000000 in
set_option maxRecDepth 100000 in
theorem c_st_init2 (l : Launch) (G : va_G) (ca Z : Nat → Nat) (q b v n m : Nat) (t : List Int32) (sz : Nat) (hA0 : sb_A t) (htn : t.length = n) (hnm : n ≤ m) (hm2 : m ≤ 240) : Met l yJ0_init_db425 (.code yJ0_init_db425 cJ0_init_db425 5 (Option.none : Option Jvm.ClassFile.FieldType) :: sw_U) RM_st_init2 (va_Pc [.ref q, .ref b, .null] (sw_Pre G ca Z [(q, .inr (9, [.null, .int 0, .int 0, .int 0])), (b, .inr (8, [.ref v, .int 0, .int 0, .int (nI n)])), (v, .inl (ca 1, m, .inl (sb_F t)))] sz)) ((fun A => va_Qv (fun (u : Nat) => True) (sw_Post G A (fun (u : Nat) => [(q, .inr (9, [.ref u, .int 0, .int 0, .int 0])), (b, .inr (8, [.ref v, .int 0, .int 0, .int (nI n)])), (v, .inl (ca 1, m, .inl (sb_F t))), (u, .inl (ca 1, n, .inl (sb_F t)))])) A) (va_A [(q, .inr (9, [.null, .int 0, .int 0, .int 0])), (b, .inr (8, [.ref v, .int 0, .int 0, .int (nI n)])), (v, .inl (ca 1, m, .inl (sb_F t)))] sz)) 1 1024 (va_A [(q, .inr (9, [.null, .int 0, .int 0, .int 0])), (b, .inr (8, [.ref v, .int 0, .int 0, .int (nI n)])), (v, .inl (ca 1, m, .inl (sb_F t)))] sz) := by
  refine sw_ofW (Qc := fun A => va_Qv (fun (u : Nat) => True) (sw_Post G A (fun (u : Nat) => [(q, .inr (9, [.ref u, .int 0, .int 0, .int 0])), (b, .inr (8, [.ref v, .int 0, .int 0, .int (nI n)])), (v, .inl (ca 1, m, .inl (sb_F t))), (u, .inl (ca 1, n, .inl (sb_F t)))])) A) (by decide +kernel) [(0, .ref q), (1, .ref b), (2, .null)] rfl (Nat.le_of_ble_eq_true rfl) ?_
  intro p e s m9 args below meth c ls A hx hb hr hml hown htU hlocks hin hP hK hD hX hY hS hA hl
  have hown : s.vm.findClass RJ0 = some m9.cls := hown
  have hin : meth.name = "<init>" := hin
  have Cx : sw_Cx p s m args c cJ0_init_db425 5 RJ0 G ca Z A := ⟨⟨hx, hb, hml, hown, htU⟩, hK, hX, hY, hA⟩
  have hP : va_P G vwCl [(q, .inr (9, [.null, .int 0, .int 0, .int 0])), (b, .inr (8, [.ref v, .int 0, .int 0, .int (nI n)])), (v, .inl (ca 1, m, .inl (sb_F t)))] s.heap := hP
  have hD : va_D A [(q, .inr (9, [.null, .int 0, .int 0, .int 0])), (b, .inr (8, [.ref v, .int 0, .int 0, .int (nI n)])), (v, .inl (ca 1, m, .inl (sb_F t)))] := hD
  refine lv_aload_n hx hb dJ0_init_db425_0 rfl (lv_at hl 0 rfl) ?_
  refine W.objInit hx hb hown (htU _ ml_J0_1) (htU _ im_obj) (htU _ co_obj) rfl (by rw [hml]; exact hl.1) rfl dJ0_init_db425_1 (Nat.le_of_ble_eq_true rfl) (Nat.le_of_ble_eq_true rfl) ?_
  refine W.eq (g2 := F0 m9 4 ls []) rfl ?_
  refine lv_aload_n hx hb dJ0_init_db425_4 rfl (lv_at hl 1 rfl) ?_
  refine sw_cr (sb_runX (As := []) (rest := []) Cx hP hD hS ml_J0_552 sm_J5_getValue_6d5f1 im_J5_getValue_6d5f1 co_J5_getValue_6d5f1 (fun h9 => h9 _ sx_J5_getValue_6d5f1) im_J5_getValue_6d5f1 ini_J5 co_J5_getValue_6d5f1 (by decide +kernel) (c_sb_getValue l G ca Z b v (.int (nI n)) s.heap.size) rfl [1] rfl rfl rfl rfl ⟨(Nat.le_of_ble_eq_true rfl), (Nat.le_of_ble_eq_true rfl)⟩ hl.1 rfl rfl (Nat.le_of_ble_eq_true rfl) dJ0_init_db425_5 ⟨(Nat.le_of_ble_eq_true rfl), (Nat.le_of_ble_eq_true rfl)⟩) hP hD hS hA [1] [0, 2] [0, 2, 1] rfl rfl rfl (by decide) (fun _ => rfl) rfl (fun _ H locs hw hP hD hS => ?_)
  have hP : va_P G vwCl [(q, .inr (9, [.null, .int 0, .int 0, .int 0])), (b, .inr (8, [.ref v, .int 0, .int 0, .int (nI n)])), (v, .inl (ca 1, m, .inl (sb_F t)))] H := hP
  have hD : va_D A [(q, .inr (9, [.null, .int 0, .int 0, .int 0])), (b, .inr (8, [.ref v, .int 0, .int 0, .int (nI n)])), (v, .inl (ca 1, m, .inl (sb_F t)))] := hD
  refine lv_astore_n (lv' := [(3, .ref v), (0, .ref q), (1, .ref b), (2, .null)]) hx hb dJ0_init_db425_8 rfl hl (by decide) rfl (fun ls hl => ?_)
  refine lv_aload_n hx hb dJ0_init_db425_9 rfl (lv_at hl 2 rfl) ?_
  refine sw_ci (sb_runX (As := []) (rest := []) Cx hP hD hS ml_J0_549 sm_J5_length_8abf5 im_J5_length_8abf5 co_J5_length_8abf5 (fun h9 => h9 _ sx_J5_length_8abf5) im_J4_length_8abf5 ini_J4 co_J4_length_8abf5 (by decide +kernel) (c_sb_length4 l G ca Z b n (.ref v) H.size) rfl [1] rfl rfl rfl rfl ⟨(Nat.le_of_ble_eq_true rfl), (Nat.le_of_ble_eq_true rfl)⟩ hl.1 rfl rfl (Nat.le_of_ble_eq_true rfl) dJ0_init_db425_10 ⟨(Nat.le_of_ble_eq_true rfl), (Nat.le_of_ble_eq_true rfl)⟩) hP hD hS hA [1] [0, 2] [0, 2, 1] rfl rfl rfl (by decide) (fun _ => rfl) rfl (fun r _ H locs hw hP hD hS => ?_)
  subst hw
  have hP : va_P G vwCl [(q, .inr (9, [.null, .int 0, .int 0, .int 0])), (b, .inr (8, [.ref v, .int 0, .int 0, .int (nI n)])), (v, .inl (ca 1, m, .inl (sb_F t)))] H := hP
  have hD : va_D A [(q, .inr (9, [.null, .int 0, .int 0, .int 0])), (b, .inr (8, [.ref v, .int 0, .int 0, .int (nI n)])), (v, .inl (ca 1, m, .inl (sb_F t)))] := hD
  refine lv_istore (lv' := [(4, .int (nI n)), (3, .ref v), (0, .ref q), (1, .ref b), (2, .null)]) hx hb dJ0_init_db425_13 hl (by decide) rfl (fun ls hl => ?_)
  refine lv_aload_n hx hb dJ0_init_db425_15 rfl (lv_at hl 3 rfl) ?_
  refine sw_ci (sb_runX (As := []) (rest := []) Cx hP hD hS ml_J0_1047 sm_J5_isLatin1_aae02 im_J5_isLatin1_aae02 co_J5_isLatin1_aae02 (fun h9 => h9 _ sx_J5_isLatin1_aae02) im_J5_isLatin1_aae02 ini_J5 co_J5_isLatin1_aae02 (by decide +kernel) (c_sb_isLatin1 l G ca Z b (.ref v) (.int (nI n)) H.size) rfl [1] rfl rfl rfl rfl ⟨(Nat.le_of_ble_eq_true rfl), (Nat.le_of_ble_eq_true rfl)⟩ hl.1 rfl rfl (Nat.le_of_ble_eq_true rfl) dJ0_init_db425_16 ⟨(Nat.le_of_ble_eq_true rfl), (Nat.le_of_ble_eq_true rfl)⟩) hP hD hS hA [1] [0, 2] [0, 2, 1] rfl rfl rfl (by decide) (fun _ => rfl) rfl (fun r _ H locs hw hP hD hS => ?_)
  subst hw
  have hP : va_P G vwCl [(q, .inr (9, [.null, .int 0, .int 0, .int 0])), (b, .inr (8, [.ref v, .int 0, .int 0, .int (nI n)])), (v, .inl (ca 1, m, .inl (sb_F t)))] H := hP
  have hD : va_D A [(q, .inr (9, [.null, .int 0, .int 0, .int 0])), (b, .inr (8, [.ref v, .int 0, .int 0, .int (nI n)])), (v, .inl (ca 1, m, .inl (sb_F t)))] := hD
  refine lv_if_eq (tgt := 41) hx hb dJ0_init_db425_19 (by decide) (fun c9 => absurd c9 (by decide)) (fun _ => ?_)
  refine lv_aload_n hx hb dJ0_init_db425_22 rfl (lv_at hl 2 rfl) ?_
  refine lv_iconst (v := 0) hx hb dJ0_init_db425_23 (by decide) ?_
  refine va_putF (v := .int 0) (ty := .byte) hx hb htU iU_J0 tyJ0 tyJ0_ok nmJ0 hown hK hP hD hS 0 rfl rfl 1 (by decide) (htU _ fl_J0_15) (fun _ h9 => h9) rfl hin rfl (by decide +kernel) rfl rfl (Nat.le_of_ble_eq_true rfl) dJ0_init_db425_24 (fun H locs hP hD hS => ?_)
  have hP : va_P G vwCl [(q, .inr (9, [.null, .int 0, .int 0, .int 0])), (b, .inr (8, [.ref v, .int 0, .int 0, .int (nI n)])), (v, .inl (ca 1, m, .inl (sb_F t)))] H := hP
  have hD : va_D A [(q, .inr (9, [.null, .int 0, .int 0, .int 0])), (b, .inr (8, [.ref v, .int 0, .int 0, .int (nI n)])), (v, .inl (ca 1, m, .inl (sb_F t)))] := hD
  refine lv_aload_n hx hb dJ0_init_db425_27 rfl (lv_at hl 2 rfl) ?_
  refine lv_aload_n hx hb dJ0_init_db425_28 rfl (lv_at hl 1 rfl) ?_
  refine lv_iconst (v := 0) hx hb dJ0_init_db425_29 (by decide) ?_
  refine lv_iload hx hb dJ0_init_db425_30 (lv_at hl 0 rfl) ?_
  refine sb_cr (f0 := fun u => u) (sw_runS (As := [.ref v, .int 0, .int (nI n)]) (rest := [.ref q]) Cx hP hD hS ms_J7_copyOfRange_39247 ml_J0_54 (c_sb_range l G ca Z v m n t H.size hA0 htn hnm hm2) [2] rfl rfl rfl rfl ⟨(Nat.le_of_ble_eq_true rfl), (Nat.le_of_ble_eq_true rfl)⟩ hl.1 rfl rfl (Nat.le_of_ble_eq_true rfl) dJ0_init_db425_32 ⟨(Nat.le_of_ble_eq_true rfl), (Nat.le_of_ble_eq_true rfl)⟩) hP hD hS hA [2] [0, 1] [0, 1, 2, 3] rfl rfl rfl (by decide) (fun _ => rfl) rfl (fun u H locs hw hP hD hS => ?_)
  have hP : va_P G vwCl [(q, .inr (9, [.null, .int 0, .int 0, .int 0])), (b, .inr (8, [.ref v, .int 0, .int 0, .int (nI n)])), (v, .inl (ca 1, m, .inl (sb_F t))), (u, .inl (ca 1, n, .inl (sb_F t)))] H := hP
  have hD : va_D A [(q, .inr (9, [.null, .int 0, .int 0, .int 0])), (b, .inr (8, [.ref v, .int 0, .int 0, .int (nI n)])), (v, .inl (ca 1, m, .inl (sb_F t))), (u, .inl (ca 1, n, .inl (sb_F t)))] := hD
  refine va_putF (v := .ref u) (ty := (.array .byte)) hx hb htU iU_J0 tyJ0 tyJ0_ok nmJ0 hown hK hP hD hS 0 rfl rfl 0 (by decide) (htU _ fl_J0_9) (fun _ h9 => h9) rfl hin rfl (by decide +kernel) rfl rfl (Nat.le_of_ble_eq_true rfl) dJ0_init_db425_35 (fun H locs hP hD hS => ?_)
  have hP : va_P G vwCl [(q, .inr (9, [.ref u, .int 0, .int 0, .int 0])), (b, .inr (8, [.ref v, .int 0, .int 0, .int (nI n)])), (v, .inl (ca 1, m, .inl (sb_F t))), (u, .inl (ca 1, n, .inl (sb_F t)))] H := hP
  have hD : va_D A [(q, .inr (9, [.ref u, .int 0, .int 0, .int 0])), (b, .inr (8, [.ref v, .int 0, .int 0, .int (nI n)])), (v, .inl (ca 1, m, .inl (sb_F t))), (u, .inl (ca 1, n, .inl (sb_F t)))] := hD
  refine lv_goto (tgt := 97) hx hb dJ0_init_db425_38 (by decide) ?_
  exact sw_rv hx hb hr hlocks hS u trivial hP hD dJ0_init_db425_97
abbrev RM_st_init : Room := ({ frames := 4, cells := 1, slots := 1024, locals := 110 } : Room)
set_option maxHeartbeats 4000000 in
set_option maxRecDepth 100000 in
theorem c_st_init (l : Launch) (G : va_G) (ca Z : Nat → Nat) (q b v n m : Nat) (t : List Int32) (sz : Nat) (hA0 : sb_A t) (htn : t.length = n) (hnm : n ≤ m) (hm2 : m ≤ 240) : Met l yJ0_init_81219 (.code yJ0_init_81219 cJ0_init_81219 2 (Option.none : Option Jvm.ClassFile.FieldType) :: sw_U) RM_st_init (va_Pc [.ref q, .ref b] (sw_Pre G ca Z [(q, .inr (9, [.null, .int 0, .int 0, .int 0])), (b, .inr (8, [.ref v, .int 0, .int 0, .int (nI n)])), (v, .inl (ca 1, m, .inl (sb_F t)))] sz)) ((fun A => va_Qv (fun (u : Nat) => True) (sw_Post G A (fun (u : Nat) => [(q, .inr (9, [.ref u, .int 0, .int 0, .int 0])), (b, .inr (8, [.ref v, .int 0, .int 0, .int (nI n)])), (v, .inl (ca 1, m, .inl (sb_F t))), (u, .inl (ca 1, n, .inl (sb_F t)))])) A) (va_A [(q, .inr (9, [.null, .int 0, .int 0, .int 0])), (b, .inr (8, [.ref v, .int 0, .int 0, .int (nI n)])), (v, .inl (ca 1, m, .inl (sb_F t)))] sz)) 1 1024 (va_A [(q, .inr (9, [.null, .int 0, .int 0, .int 0])), (b, .inr (8, [.ref v, .int 0, .int 0, .int (nI n)])), (v, .inl (ca 1, m, .inl (sb_F t)))] sz) := by
  refine sw_ofW (Qc := fun A => va_Qv (fun (u : Nat) => True) (sw_Post G A (fun (u : Nat) => [(q, .inr (9, [.ref u, .int 0, .int 0, .int 0])), (b, .inr (8, [.ref v, .int 0, .int 0, .int (nI n)])), (v, .inl (ca 1, m, .inl (sb_F t))), (u, .inl (ca 1, n, .inl (sb_F t)))])) A) (by decide +kernel) [(0, .ref q), (1, .ref b)] rfl (Nat.le_of_ble_eq_true rfl) ?_
  intro p e s m9 args below meth c ls A hx hb hr hml hown htU hlocks hin hP hK hD hX hY hS hA hl
  have hown : s.vm.findClass RJ0 = some m9.cls := hown
  have hin : meth.name = "<init>" := hin
  have Cx : sw_Cx p s m args c cJ0_init_81219 2 RJ0 G ca Z A := ⟨⟨hx, hb, hml, hown, htU⟩, hK, hX, hY, hA⟩
  have hP : va_P G vwCl [(q, .inr (9, [.null, .int 0, .int 0, .int 0])), (b, .inr (8, [.ref v, .int 0, .int 0, .int (nI n)])), (v, .inl (ca 1, m, .inl (sb_F t)))] s.heap := hP
  have hD : va_D A [(q, .inr (9, [.null, .int 0, .int 0, .int 0])), (b, .inr (8, [.ref v, .int 0, .int 0, .int (nI n)])), (v, .inl (ca 1, m, .inl (sb_F t)))] := hD
  refine lv_aload_n hx hb dJ0_init_81219_0 rfl (lv_at hl 0 rfl) ?_
  refine lv_aload_n hx hb dJ0_init_81219_1 rfl (lv_at hl 1 rfl) ?_
  refine lv_null hx hb dJ0_init_81219_2 ?_
  refine sw_cv (sw_runI (As := [.ref b, .null]) (rest := []) Cx hP hD hS co_J0_init_db425 ini_J0 im_J0_init_db425 ml_J0_489 rfl (c_st_init2 l G ca Z q b v n m t s.heap.size hA0 htn hnm hm2) (by decide +kernel) [0, 1, 2] rfl rfl rfl rfl ⟨(Nat.le_of_ble_eq_true rfl), (Nat.le_of_ble_eq_true rfl)⟩ hl.1 rfl rfl (Nat.le_of_ble_eq_true rfl) dJ0_init_81219_3 ⟨(Nat.le_of_ble_eq_true rfl), (Nat.le_of_ble_eq_true rfl)⟩) hP hD hS hA [0, 1, 2] [] [0, 1, 2, 3] rfl rfl rfl (by decide) (fun _ => rfl) rfl (fun u H locs hw hP hD hS => ?_)
  have hP : va_P G vwCl [(q, .inr (9, [.ref u, .int 0, .int 0, .int 0])), (b, .inr (8, [.ref v, .int 0, .int 0, .int (nI n)])), (v, .inl (ca 1, m, .inl (sb_F t))), (u, .inl (ca 1, n, .inl (sb_F t)))] H := hP
  have hD : va_D A [(q, .inr (9, [.ref u, .int 0, .int 0, .int 0])), (b, .inr (8, [.ref v, .int 0, .int 0, .int (nI n)])), (v, .inl (ca 1, m, .inl (sb_F t))), (u, .inl (ca 1, n, .inl (sb_F t)))] := hD
  exact sw_rv hx hb hr hlocks hS u trivial hP hD dJ0_init_81219_6
abbrev RM_sb_toString : Room := ({ frames := 5, cells := 2, slots := 1040, locals := 131 } : Room)
set_option maxHeartbeats 4000000 in
set_option maxRecDepth 100000 in
theorem c_sb_toString (l : Launch) (G : va_G) (ca Z : Nat → Nat) (b v n m : Nat) (t : List Int32) (sz : Nat) (hA0 : sb_A t) (htn : t.length = n) (hnm : n ≤ m) (hm2 : m ≤ 240) : Met l yJ4_toString_0e30d (.code yJ4_toString_0e30d cJ4_toString_0e30d 1 (Option.some (Jvm.ClassFile.FieldType.object "java/lang/String")) :: sw_U) RM_sb_toString (va_Pc [.ref b] (sw_Pre G ca Z [(b, .inr (8, [.ref v, .int 0, .int 0, .int (nI n)])), (v, .inl (ca 1, m, .inl (sb_F t)))] sz)) ((fun A => va_Qr (fun (u : Nat × Nat) => True) (fun (u : Nat × Nat) q t => q = (fun u : Nat × Nat => u.1) u ∧ sw_Post G A (fun (u : Nat × Nat) => [(b, .inr (8, [.ref v, .int 0, .int 0, .int (nI n)])), (v, .inl (ca 1, m, .inl (sb_F t))), (u.1, .inr (9, [.ref u.2, .int 0, .int 0, .int 0])), (u.2, .inl (ca 1, n, .inl (sb_F t)))]) u t) A) (va_A [(b, .inr (8, [.ref v, .int 0, .int 0, .int (nI n)])), (v, .inl (ca 1, m, .inl (sb_F t)))] sz)) 2 1040 (va_A [(b, .inr (8, [.ref v, .int 0, .int 0, .int (nI n)])), (v, .inl (ca 1, m, .inl (sb_F t)))] sz) := by
  refine sw_ofW (Qc := fun A => va_Qr (fun (u : Nat × Nat) => True) (fun (u : Nat × Nat) q t => q = (fun u : Nat × Nat => u.1) u ∧ sw_Post G A (fun (u : Nat × Nat) => [(b, .inr (8, [.ref v, .int 0, .int 0, .int (nI n)])), (v, .inl (ca 1, m, .inl (sb_F t))), (u.1, .inr (9, [.ref u.2, .int 0, .int 0, .int 0])), (u.2, .inl (ca 1, n, .inl (sb_F t)))]) u t) A) (by decide +kernel) [(0, .ref b)] rfl (Nat.le_of_ble_eq_true rfl) ?_
  intro p e s m9 args below meth c ls A hx hb hr hml hown htU hlocks hin hP hK hD hX hY hS hA hl
  have hown : s.vm.findClass RJ4 = some m9.cls := hown
  have Cx : sw_Cx p s m args c cJ4_toString_0e30d 1 RJ4 G ca Z A := ⟨⟨hx, hb, hml, hown, htU⟩, hK, hX, hY, hA⟩
  have hP : va_P G vwCl [(b, .inr (8, [.ref v, .int 0, .int 0, .int (nI n)])), (v, .inl (ca 1, m, .inl (sb_F t)))] s.heap := hP
  have hD : va_D A [(b, .inr (8, [.ref v, .int 0, .int 0, .int (nI n)])), (v, .inl (ca 1, m, .inl (sb_F t)))] := hD
  refine va_new (ci := 9) (fs := [.null, .int 0, .int 0, .int 0]) (C := RJ0) (T := TJ0) (N := 4) hx hb htU iU_J0 tyJ0 tyJ0_ok hown (htU _ cl_J4_18) (htU _ ins_J0) (htU _ ini_J0) hK hP hD hS hA rfl (fun j hj => by rcases (show j = 0 ∨ j = 1 ∨ j = 2 ∨ j = 3 by omega) with rfl | rfl | rfl | rfl <;> rfl) (Nat.le_of_ble_eq_true rfl) (Nat.le_of_ble_eq_true rfl) dJ4_toString_0e30d_0 (fun q0 H hP hD hS => ?_)
  have hP : va_P G vwCl [(b, .inr (8, [.ref v, .int 0, .int 0, .int (nI n)])), (v, .inl (ca 1, m, .inl (sb_F t))), (q0, .inr (9, [.null, .int 0, .int 0, .int 0]))] H := hP
  have hD : va_D A [(b, .inr (8, [.ref v, .int 0, .int 0, .int (nI n)])), (v, .inl (ca 1, m, .inl (sb_F t))), (q0, .inr (9, [.null, .int 0, .int 0, .int 0]))] := hD
  refine lv_dup hx hb dJ4_toString_0e30d_3 rfl ?_
  refine lv_aload_n hx hb dJ4_toString_0e30d_4 rfl (lv_at hl 0 rfl) ?_
  refine sw_cv (sw_runI (As := [.ref b]) (rest := [.ref q0]) Cx hP hD hS co_J0_init_81219 ini_J0 im_J0_init_81219 ml_J4_137 rfl (c_st_init l G ca Z q0 b v n m t H.size hA0 htn hnm hm2) (by decide +kernel) [2, 0, 1] rfl rfl rfl rfl ⟨(Nat.le_of_ble_eq_true rfl), (Nat.le_of_ble_eq_true rfl)⟩ hl.1 rfl rfl (Nat.le_of_ble_eq_true rfl) dJ4_toString_0e30d_5 ⟨(Nat.le_of_ble_eq_true rfl), (Nat.le_of_ble_eq_true rfl)⟩) hP hD hS hA [2, 0, 1] [] [1, 2, 0, 3] rfl rfl rfl (by decide) (fun _ => rfl) rfl (fun u H locs hw hP hD hS => ?_)
  have hP : va_P G vwCl [(b, .inr (8, [.ref v, .int 0, .int 0, .int (nI n)])), (v, .inl (ca 1, m, .inl (sb_F t))), (q0, .inr (9, [.ref u, .int 0, .int 0, .int 0])), (u, .inl (ca 1, n, .inl (sb_F t)))] H := hP
  have hD : va_D A [(b, .inr (8, [.ref v, .int 0, .int 0, .int (nI n)])), (v, .inl (ca 1, m, .inl (sb_F t))), (q0, .inr (9, [.ref u, .int 0, .int 0, .int 0])), (u, .inl (ca 1, n, .inl (sb_F t)))] := hD
  refine W.widen (k := 2) (n := 1040) (Nat.le_of_ble_eq_true rfl) (Nat.le_of_ble_eq_true rfl) ?_
  exact sb_rr (f0 := fun u : Nat × Nat => u.1) hx hb hr hlocks hS (q0, u) rfl trivial hP hD dJ4_toString_0e30d_8
abbrev RM_st_coder : Room := ({ frames := 0, cells := 0, slots := 0, locals := 0 } : Room)
set_option maxHeartbeats 4000000 in
set_option maxRecDepth 100000 in
theorem c_st_coder (l : Launch) (G : va_G) (ca Z : Nat → Nat) (q : Nat) (vv : Value) (sz : Nat)  : Met l yJ0_coder_7d493 (.code yJ0_coder_7d493 cJ0_coder_7d493 1 (Option.some Jvm.ClassFile.FieldType.byte) :: sw_U) RM_st_coder (va_Pc [.ref q] (sw_Pre G ca Z [(q, .inr (9, [vv, .int 0, .int 0, .int 0]))] sz)) ((fun A => va_Qi (fun r (u : Unit) => 0 = r) (sw_Post G A (fun (u : Unit) => [(q, .inr (9, [vv, .int 0, .int 0, .int 0]))])) A) (va_A [(q, .inr (9, [vv, .int 0, .int 0, .int 0]))] sz)) 0 0 (va_A [(q, .inr (9, [vv, .int 0, .int 0, .int 0]))] sz) := by
  refine sw_ofW (Qc := fun A => va_Qi (fun r (u : Unit) => 0 = r) (sw_Post G A (fun (u : Unit) => [(q, .inr (9, [vv, .int 0, .int 0, .int 0]))])) A) (by decide +kernel) [(0, .ref q)] rfl (Nat.le_of_ble_eq_true rfl) ?_
  intro p e s m9 args below meth c ls A hx hb hr hml hown htU hlocks hin hP hK hD hX hY hS hA hl
  have hown : s.vm.findClass RJ0 = some m9.cls := hown
  have Cx : sw_Cx p s m args c cJ0_coder_7d493 1 RJ0 G ca Z A := ⟨⟨hx, hb, hml, hown, htU⟩, hK, hX, hY, hA⟩
  have hP : va_P G vwCl [(q, .inr (9, [vv, .int 0, .int 0, .int 0]))] s.heap := hP
  have hD : va_D A [(q, .inr (9, [vv, .int 0, .int 0, .int 0]))] := hD
  refine va_gets (v := .int 1) hx hb hX.2.2.2.2.2.2.2.1 hS hown (htU _ fl_J0_38) (fun _ h9 => h9) dJ0_coder_7d493_0 ?_
  refine lv_if_eq (tgt := 13) hx hb dJ0_coder_7d493_3 (by decide) (fun c9 => absurd c9 (by decide)) (fun _ => ?_)
  refine lv_aload_n hx hb dJ0_coder_7d493_6 rfl (lv_at hl 0 rfl) ?_
  refine va_get (v := .int 0) hx hb htU iU_J0 hown hK hP 0 rfl rfl 1 (by decide) (htU _ fl_J0_15) (fun _ h9 => h9) rfl dJ0_coder_7d493_7 ?_
  refine lv_goto (tgt := 14) hx hb dJ0_coder_7d493_10 (by decide) ?_
  exact sw_rz hx hb hr rfl hlocks hS () rfl hP hD dJ0_coder_7d493_14
abbrev RM_st_isLatin1 : Room := ({ frames := 0, cells := 0, slots := 0, locals := 0 } : Room)
set_option maxHeartbeats 4000000 in
set_option maxRecDepth 100000 in
theorem c_st_isLatin1 (l : Launch) (G : va_G) (ca Z : Nat → Nat) (q : Nat) (vv : Value) (sz : Nat)  : Met l yJ0_isLatin1_aae02 (.code yJ0_isLatin1_aae02 cJ0_isLatin1_aae02 1 (Option.some Jvm.ClassFile.FieldType.boolean) :: sw_U) RM_st_isLatin1 (va_Pc [.ref q] (sw_Pre G ca Z [(q, .inr (9, [vv, .int 0, .int 0, .int 0]))] sz)) ((fun A => va_Qi (fun r (u : Unit) => 1 = r) (sw_Post G A (fun (u : Unit) => [(q, .inr (9, [vv, .int 0, .int 0, .int 0]))])) A) (va_A [(q, .inr (9, [vv, .int 0, .int 0, .int 0]))] sz)) 0 0 (va_A [(q, .inr (9, [vv, .int 0, .int 0, .int 0]))] sz) := by
  refine sw_ofW (Qc := fun A => va_Qi (fun r (u : Unit) => 1 = r) (sw_Post G A (fun (u : Unit) => [(q, .inr (9, [vv, .int 0, .int 0, .int 0]))])) A) (by decide +kernel) [(0, .ref q)] rfl (Nat.le_of_ble_eq_true rfl) ?_
  intro p e s m9 args below meth c ls A hx hb hr hml hown htU hlocks hin hP hK hD hX hY hS hA hl
  have hown : s.vm.findClass RJ0 = some m9.cls := hown
  have Cx : sw_Cx p s m args c cJ0_isLatin1_aae02 1 RJ0 G ca Z A := ⟨⟨hx, hb, hml, hown, htU⟩, hK, hX, hY, hA⟩
  have hP : va_P G vwCl [(q, .inr (9, [vv, .int 0, .int 0, .int 0]))] s.heap := hP
  have hD : va_D A [(q, .inr (9, [vv, .int 0, .int 0, .int 0]))] := hD
  refine va_gets (v := .int 1) hx hb hX.2.2.2.2.2.2.2.1 hS hown (htU _ fl_J0_38) (fun _ h9 => h9) dJ0_isLatin1_aae02_0 ?_
  refine lv_if_eq (tgt := 17) hx hb dJ0_isLatin1_aae02_3 (by decide) (fun c9 => absurd c9 (by decide)) (fun _ => ?_)
  refine lv_aload_n hx hb dJ0_isLatin1_aae02_6 rfl (lv_at hl 0 rfl) ?_
  refine va_get (v := .int 0) hx hb htU iU_J0 hown hK hP 0 rfl rfl 1 (by decide) (htU _ fl_J0_15) (fun _ h9 => h9) rfl dJ0_isLatin1_aae02_7 ?_
  refine lv_if_ne (tgt := 17) hx hb dJ0_isLatin1_aae02_10 (by decide) (fun c9 => absurd rfl c9) (fun _ => ?_)
  refine lv_iconst (v := 1) hx hb dJ0_isLatin1_aae02_13 (by decide) ?_
  refine lv_goto (tgt := 18) hx hb dJ0_isLatin1_aae02_14 (by decide) ?_
  exact sw_rz hx hb hr rfl hlocks hS () rfl hP hD dJ0_isLatin1_aae02_18
abbrev RM_st_length : Room := ({ frames := 1, cells := 0, slots := 0, locals := 20 } : Room)
set_option maxHeartbeats 4000000 in
set_option maxRecDepth 100000 in
theorem c_st_length (l : Launch) (G : va_G) (ca Z : Nat → Nat) (q v n : Nat) (t : List Int32) (sz : Nat)  : Met l yJ0_length_8abf5 (.code yJ0_length_8abf5 cJ0_length_8abf5 1 (Option.some Jvm.ClassFile.FieldType.int) :: sw_U) RM_st_length (va_Pc [.ref q] (sw_Pre G ca Z [(q, .inr (9, [.ref v, .int 0, .int 0, .int 0])), (v, .inl (ca 1, n, .inl (sb_F t)))] sz)) ((fun A => va_Qi (fun r (u : Unit) => nI n = r) (sw_Post G A (fun (u : Unit) => [(q, .inr (9, [.ref v, .int 0, .int 0, .int 0])), (v, .inl (ca 1, n, .inl (sb_F t)))])) A) (va_A [(q, .inr (9, [.ref v, .int 0, .int 0, .int 0])), (v, .inl (ca 1, n, .inl (sb_F t)))] sz)) 0 0 (va_A [(q, .inr (9, [.ref v, .int 0, .int 0, .int 0])), (v, .inl (ca 1, n, .inl (sb_F t)))] sz) := by
  refine sw_ofW (Qc := fun A => va_Qi (fun r (u : Unit) => nI n = r) (sw_Post G A (fun (u : Unit) => [(q, .inr (9, [.ref v, .int 0, .int 0, .int 0])), (v, .inl (ca 1, n, .inl (sb_F t)))])) A) (by decide +kernel) [(0, .ref q)] rfl (Nat.le_of_ble_eq_true rfl) ?_
  intro p e s m9 args below meth c ls A hx hb hr hml hown htU hlocks hin hP hK hD hX hY hS hA hl
  have hown : s.vm.findClass RJ0 = some m9.cls := hown
  have Cx : sw_Cx p s m args c cJ0_length_8abf5 1 RJ0 G ca Z A := ⟨⟨hx, hb, hml, hown, htU⟩, hK, hX, hY, hA⟩
  have hP : va_P G vwCl [(q, .inr (9, [.ref v, .int 0, .int 0, .int 0])), (v, .inl (ca 1, n, .inl (sb_F t)))] s.heap := hP
  have hD : va_D A [(q, .inr (9, [.ref v, .int 0, .int 0, .int 0])), (v, .inl (ca 1, n, .inl (sb_F t)))] := hD
  refine lv_aload_n hx hb dJ0_length_8abf5_0 rfl (lv_at hl 0 rfl) ?_
  refine va_get (v := .ref v) hx hb htU iU_J0 hown hK hP 0 rfl rfl 0 (by decide) (htU _ fl_J0_9) (fun _ h9 => h9) rfl dJ0_length_8abf5_1 ?_
  refine va_alen (v := nI n) hx hb hK hP 1 1 rfl rfl rfl dJ0_length_8abf5_4 ?_
  refine lv_aload_n hx hb dJ0_length_8abf5_5 rfl (lv_at hl 0 rfl) ?_
  refine sw_ci (sw_runV (As := []) (rest := [.int (nI n)]) Cx hP hD hS mv_J0_coder_7d493 ml_J0_335 (c_st_coder l G ca Z q (.ref v) s.heap.size) 9 rfl rfl rfl [0] rfl rfl rfl rfl ⟨(Nat.le_of_ble_eq_true rfl), (Nat.le_of_ble_eq_true rfl)⟩ hl.1 rfl rfl (Nat.le_of_ble_eq_true rfl) dJ0_length_8abf5_6 ⟨(Nat.le_of_ble_eq_true rfl), (Nat.le_of_ble_eq_true rfl)⟩) hP hD hS hA [0] [1] [1, 0] rfl rfl rfl (by decide) (fun _ => rfl) rfl (fun r _ H locs hw hP hD hS => ?_)
  subst hw
  have hP : va_P G vwCl [(q, .inr (9, [.ref v, .int 0, .int 0, .int 0])), (v, .inl (ca 1, n, .inl (sb_F t)))] H := hP
  have hD : va_D A [(q, .inr (9, [.ref v, .int 0, .int 0, .int 0])), (v, .inl (ca 1, n, .inl (sb_F t)))] := hD
  refine sb_ishr (v := nI n) hx hb dJ0_length_8abf5_9 (sb_r0 _) ?_
  exact sw_ri hx hb hr hlocks hS () rfl hP hD dJ0_length_8abf5_10
theorem sb_FA {t : List Int32} (h : sb_A t) (j : Nat) : 0 ≤ (sb_F t j).toInt ∧ (sb_F t j).toInt < 128 := by
  unfold sb_F
  rw [List.getD_eq_getElem?_getD]
  cases e : t[j]? with
  | none => decide
  | some x => exact h x (List.mem_of_getElem? e)
theorem sb_nat {x : Int32} (h : 0 ≤ x.toInt ∧ x.toInt < 128) : ∃ k : Nat, k < 128 ∧ x = nI k := ⟨x.toInt.toNat, by omega, Int32.toInt_inj.mp (by rw [nI_toInt (by omega)]; omega)⟩
theorem sb_255k : ∀ k, k < 128 → (nI k &&& (255 : Int32)) = nI k ∧ ((nI k).toUInt32 % 65536).toInt32 = nI k ∧ narrow .char (.int (nI k)) = .int (nI k) := by decide +kernel
theorem sb_255 {x : Int32} (h : 0 ≤ x.toInt ∧ x.toInt < 128) : (x &&& (255 : Int32)) = x := by
  obtain ⟨k, hk, rfl⟩ := sb_nat h
  exact (sb_255k k hk).1
theorem sb_chr {x : Int32} (h : 0 ≤ x.toInt ∧ x.toInt < 128) : (x.toUInt32 % 65536).toInt32 = x := by
  obtain ⟨k, hk, rfl⟩ := sb_nat h
  exact (sb_255k k hk).2.1
theorem sb_nch {x : Int32} (h : 0 ≤ x.toInt ∧ x.toInt < 128) : narrow .char (.int x) = .int x := by
  obtain ⟨k, hk, rfl⟩ := sb_nat h
  exact (sb_255k k hk).2.2
theorem st_chk {i n : Nat} (hi : i < n) (hn : n ≤ 600) : F_J0_checkIndex_df160 (nI i) (nI n) = some () := by
  have h1 : ¬ nI i < 0 := nI_pos (by omega)
  have h2 : nI i < nI n := nI_lt hi (by omega)
  unfold F_J0_checkIndex_df160 F_J3_checkIndex_8e157
  simp [h1, h2]
abbrev RM_st_charAt1 : Room := ({ frames := 2, cells := 0, slots := 0, locals := 43 } : Room)
set_option maxHeartbeats 4000000 in
set_option maxRecDepth 100000 in
theorem c_st_charAt1 (l : Launch) (G : va_G) (ca Z : Nat → Nat) (v n i : Nat) (t : List Int32) (sz : Nat) (hA0 : sb_A t) (hi : i < n) (hn : n ≤ 600) : Met l yJ1_charAt_3b067 (.code yJ1_charAt_3b067 cJ1_charAt_3b067 2 (Option.some Jvm.ClassFile.FieldType.char) :: sw_U) RM_st_charAt1 (va_Pc [.ref v, .int (nI i)] (sw_Pre G ca Z [(v, .inl (ca 1, n, .inl (sb_F t)))] sz)) ((fun A => va_Qi (fun r (u : Unit) => sb_F t i = r) (sw_Post G A (fun (u : Unit) => [(v, .inl (ca 1, n, .inl (sb_F t)))])) A) (va_A [(v, .inl (ca 1, n, .inl (sb_F t)))] sz)) 0 0 (va_A [(v, .inl (ca 1, n, .inl (sb_F t)))] sz) := by
  refine sw_ofW (Qc := fun A => va_Qi (fun r (u : Unit) => sb_F t i = r) (sw_Post G A (fun (u : Unit) => [(v, .inl (ca 1, n, .inl (sb_F t)))])) A) (by decide +kernel) [(0, .ref v), (1, .int (nI i))] rfl (Nat.le_of_ble_eq_true rfl) ?_
  intro p e s m9 args below meth c ls A hx hb hr hml hown htU hlocks hin hP hK hD hX hY hS hA hl
  have hown : s.vm.findClass RJ1 = some m9.cls := hown
  have Cx : sw_Cx p s m args c cJ1_charAt_3b067 2 RJ1 G ca Z A := ⟨⟨hx, hb, hml, hown, htU⟩, hK, hX, hY, hA⟩
  have hP : va_P G vwCl [(v, .inl (ca 1, n, .inl (sb_F t)))] s.heap := hP
  have hD : va_D A [(v, .inl (ca 1, n, .inl (sb_F t)))] := hD
  refine lv_iload_n hx hb dJ1_charAt_3b067_0 rfl (lv_at hl 1 rfl) ?_
  refine lv_aload_n hx hb dJ1_charAt_3b067_1 rfl (lv_at hl 0 rfl) ?_
  refine va_alen (v := nI n) hx hb hK hP 0 1 rfl rfl rfl dJ1_charAt_3b067_2 ?_
  refine sw_cv (sw_runS (As := [.int (nI i), .int (nI n)]) (rest := []) Cx hP hD hS ms_J0_checkIndex_df160 ml_J1_9 (c_J0_checkIndex_df160 l G ca Z s.heap.size (nI i) (nI n) () (st_chk hi hn)) [] rfl rfl rfl rfl ⟨(Nat.le_of_ble_eq_true rfl), (Nat.le_of_ble_eq_true rfl)⟩ hl.1 rfl rfl (Nat.le_of_ble_eq_true rfl) dJ1_charAt_3b067_3 ⟨(Nat.le_of_ble_eq_true rfl), (Nat.le_of_ble_eq_true rfl)⟩) hP hD hS hA [] [0] [0] rfl rfl rfl (by decide) (fun _ => rfl) rfl (fun _ H locs hw hP hD hS => ?_)
  have hP : va_P G vwCl [(v, .inl (ca 1, n, .inl (sb_F t)))] H := hP
  have hD : va_D A [(v, .inl (ca 1, n, .inl (sb_F t)))] := hD
  refine lv_aload_n hx hb dJ1_charAt_3b067_6 rfl (lv_at hl 0 rfl) ?_
  refine lv_iload_n hx hb dJ1_charAt_3b067_7 rfl (lv_at hl 1 rfl) ?_
  refine va_bald hx hb hK hP 0 1 rfl rfl (nI_in hi (by omega)) dJ1_charAt_3b067_8 ?_
  rw [nI_clamp (by omega)]
  refine lv_sipush (v := 255) hx hb dJ1_charAt_3b067_9 (by decide) ?_
  refine sb_iand (v := sb_F t i) hx hb dJ1_charAt_3b067_12 (sb_255 (sb_FA hA0 i)) ?_
  refine lv_i2c (v := sb_F t i) hx hb dJ1_charAt_3b067_13 (sb_chr (sb_FA hA0 i)) ?_
  exact sw_rz hx hb hr (sb_nch (sb_FA hA0 i)) hlocks hS () rfl hP hD dJ1_charAt_3b067_14
abbrev RM_st_charAt : Room := ({ frames := 3, cells := 0, slots := 0, locals := 64 } : Room)
set_option maxHeartbeats 4000000 in
set_option maxRecDepth 100000 in
theorem c_st_charAt (l : Launch) (G : va_G) (ca Z : Nat → Nat) (q v n i : Nat) (t : List Int32) (sz : Nat) (hA0 : sb_A t) (hi : i < n) (hn : n ≤ 600) : Met l yJ0_charAt_5068e (.code yJ0_charAt_5068e cJ0_charAt_5068e 2 (Option.some Jvm.ClassFile.FieldType.char) :: sw_U) RM_st_charAt (va_Pc [.ref q, .int (nI i)] (sw_Pre G ca Z [(q, .inr (9, [.ref v, .int 0, .int 0, .int 0])), (v, .inl (ca 1, n, .inl (sb_F t)))] sz)) ((fun A => va_Qi (fun r (u : Unit) => sb_F t i = r) (sw_Post G A (fun (u : Unit) => [(q, .inr (9, [.ref v, .int 0, .int 0, .int 0])), (v, .inl (ca 1, n, .inl (sb_F t)))])) A) (va_A [(q, .inr (9, [.ref v, .int 0, .int 0, .int 0])), (v, .inl (ca 1, n, .inl (sb_F t)))] sz)) 0 0 (va_A [(q, .inr (9, [.ref v, .int 0, .int 0, .int 0])), (v, .inl (ca 1, n, .inl (sb_F t)))] sz) := by
  refine sw_ofW (Qc := fun A => va_Qi (fun r (u : Unit) => sb_F t i = r) (sw_Post G A (fun (u : Unit) => [(q, .inr (9, [.ref v, .int 0, .int 0, .int 0])), (v, .inl (ca 1, n, .inl (sb_F t)))])) A) (by decide +kernel) [(0, .ref q), (1, .int (nI i))] rfl (Nat.le_of_ble_eq_true rfl) ?_
  intro p e s m9 args below meth c ls A hx hb hr hml hown htU hlocks hin hP hK hD hX hY hS hA hl
  have hown : s.vm.findClass RJ0 = some m9.cls := hown
  have Cx : sw_Cx p s m args c cJ0_charAt_5068e 2 RJ0 G ca Z A := ⟨⟨hx, hb, hml, hown, htU⟩, hK, hX, hY, hA⟩
  have hP : va_P G vwCl [(q, .inr (9, [.ref v, .int 0, .int 0, .int 0])), (v, .inl (ca 1, n, .inl (sb_F t)))] s.heap := hP
  have hD : va_D A [(q, .inr (9, [.ref v, .int 0, .int 0, .int 0])), (v, .inl (ca 1, n, .inl (sb_F t)))] := hD
  refine lv_aload_n hx hb dJ0_charAt_5068e_0 rfl (lv_at hl 0 rfl) ?_
  refine sw_ci (sw_runV (As := []) (rest := []) Cx hP hD hS mv_J0_isLatin1_aae02 ml_J0_492 (c_st_isLatin1 l G ca Z q (.ref v) s.heap.size) 9 rfl rfl rfl [0] rfl rfl rfl rfl ⟨(Nat.le_of_ble_eq_true rfl), (Nat.le_of_ble_eq_true rfl)⟩ hl.1 rfl rfl (Nat.le_of_ble_eq_true rfl) dJ0_charAt_5068e_1 ⟨(Nat.le_of_ble_eq_true rfl), (Nat.le_of_ble_eq_true rfl)⟩) hP hD hS hA [0] [1] [1, 0] rfl rfl rfl (by decide) (fun _ => rfl) rfl (fun r _ H locs hw hP hD hS => ?_)
  subst hw
  have hP : va_P G vwCl [(q, .inr (9, [.ref v, .int 0, .int 0, .int 0])), (v, .inl (ca 1, n, .inl (sb_F t)))] H := hP
  have hD : va_D A [(q, .inr (9, [.ref v, .int 0, .int 0, .int 0])), (v, .inl (ca 1, n, .inl (sb_F t)))] := hD
  refine lv_if_eq (tgt := 16) hx hb dJ0_charAt_5068e_4 (by decide) (fun c9 => absurd c9 (by decide)) (fun _ => ?_)
  refine lv_aload_n hx hb dJ0_charAt_5068e_7 rfl (lv_at hl 0 rfl) ?_
  refine va_get (v := .ref v) hx hb htU iU_J0 hown hK hP 0 rfl rfl 0 (by decide) (htU _ fl_J0_9) (fun _ h9 => h9) rfl dJ0_charAt_5068e_8 ?_
  refine lv_iload_n hx hb dJ0_charAt_5068e_11 rfl (lv_at hl 1 rfl) ?_
  refine sw_ci (sw_runS (As := [.ref v, .int (nI i)]) (rest := []) Cx hP hD hS ms_J1_charAt_3b067 ml_J0_495 (c_st_charAt1 l G ca Z v n i t H.size hA0 hi hn) [1] rfl rfl rfl rfl ⟨(Nat.le_of_ble_eq_true rfl), (Nat.le_of_ble_eq_true rfl)⟩ hl.1 rfl rfl (Nat.le_of_ble_eq_true rfl) dJ0_charAt_5068e_12 ⟨(Nat.le_of_ble_eq_true rfl), (Nat.le_of_ble_eq_true rfl)⟩) hP hD hS hA [1] [0] [0, 1] rfl rfl rfl (by decide) (fun _ => rfl) rfl (fun r _ H locs hw hP hD hS => ?_)
  subst hw
  have hP : va_P G vwCl [(q, .inr (9, [.ref v, .int 0, .int 0, .int 0])), (v, .inl (ca 1, n, .inl (sb_F t)))] H := hP
  have hD : va_D A [(q, .inr (9, [.ref v, .int 0, .int 0, .int 0])), (v, .inl (ca 1, n, .inl (sb_F t)))] := hD
  exact sw_rz hx hb hr (sb_nch (sb_FA hA0 i)) hlocks hS () rfl hP hD dJ0_charAt_5068e_15
