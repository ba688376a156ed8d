/-! ===== StringBuilder and String: Latin-1 texts of some hundred signs ===== -/
def sj_F (t : List Int32) : Nat → Int32 := fun j => t.getD j 0
def sj_A (t : List Int32) : Prop := ∀ x ∈ t, 0 ≤ x.toInt ∧ x.toInt < 128
theorem sj_l0 (x : Int32) : x <<< ((0 : Int32) &&& 31) = x := by
  rw [show ((0 : Int32) &&& 31) = 0 from by decide]; exact Int32.shiftLeft_zero
theorem sj_r0 (x : Int32) : x >>> ((0 : Int32) &&& 31) = x := by
  rw [show ((0 : Int32) &&& 31) = 0 from by decide]; exact Int32.shiftRight_zero
theorem sj_esub {a b : Nat} (h : b ≤ a) : nI a - nI b = nI (a - b) := by
  have e : nI a = nI (a - b) + nI b := by rw [nI_add]; congr 1; omega
  rw [e, Int32.add_sub_cancel]
theorem sj_c0 : (0 : Int32).toNatClampNeg = 0 := by decide
theorem sj_z (P : Prop) (h : ¬ (0 : Int32) = 0) : P := absurd rfl h
theorem sj_fit {x : Int32} (h : 0 ≤ x.toInt ∧ x.toInt < 128) : fits .byte (.int x) = true := by
  have e1 : (-128 : Int32).toInt = -128 := by decide
  have e2 : (127 : Int32).toInt = 127 := by decide
  have h1 : (-128 : Int32) ≤ x := Int32.le_iff_toInt_le.mpr (by rw [e1]; omega)
  have h2 : x ≤ (127 : Int32) := Int32.le_iff_toInt_le.mpr (by rw [e2]; omega)
  simp [fits, h1, h2]
theorem sj_fit0 : fits .byte (.int 0) = true := by decide
theorem sj_fitF {t : List Int32} (h : sj_A t) (j : Nat) : fits .byte (.int (sj_F t j)) = true := by
  unfold sj_F
  rw [List.getD_eq_getElem?_getD]
  cases e : t[j]? with
  | none => exact sj_fit0
  | some x => exact sj_fit (h x (List.mem_of_getElem? e))
theorem sj_A.app {t s : List Int32} (h : sj_A t) (g : sj_A s) : sj_A (t ++ s) := fun x hx => (List.mem_append.mp hx).elim (h x) (g x)
theorem sj_beyond {t : List Int32} {j : Nat} (h : t.length ≤ j) : sj_F t j = 0 := by
  unfold sj_F
  rw [List.getD_eq_getElem?_getD, List.getElem?_eq_none h]
  rfl
/-- a grown array holds the same text -/
theorem sj_grow {t : List Int32} {m : Nat} (h : t.length ≤ m) : va_cpy (sj_F t) (fun _ => (0 : Int32)) 0 0 m = sj_F t := by
  funext j
  unfold va_cpy
  by_cases c : 0 ≤ j ∧ j < 0 + m
  · rw [if_pos c]
    congr 1
    omega
  · rw [if_neg c]
    exact (sj_beyond (by omega)).symm
/-- the first n of them -/
theorem sj_cut {t : List Int32} {n : Nat} (h : t.length = n) : va_cpy (sj_F t) (fun _ => (0 : Int32)) 0 0 n = sj_F t := sj_grow (Nat.le_of_eq h)
theorem sj_up {t : List Int32} {n : Nat} {x : Int32} (h : t.length = n) : upd (sj_F t) n x = sj_F (t ++ [x]) := by
  funext j
  unfold upd sj_F
  rw [List.getD_eq_getElem?_getD, List.getD_eq_getElem?_getD]
  by_cases c : j = n
  · subst c
    rw [if_pos rfl, ← h, List.getElem?_append_right (Nat.le_refl _)]
    simp
  · rw [if_neg c]
    by_cases d : j < t.length
    · rw [List.getElem?_append_left d]
    · rw [List.getElem?_eq_none (by omega), List.getElem?_eq_none (by simp; omega)]
theorem sj_app {t s : List Int32} {n w : Nat} (h : t.length = n) (g : s.length = w) : va_cpy (sj_F s) (sj_F t) 0 n w = sj_F (t ++ s) := by
  funext j
  unfold va_cpy
  by_cases c : n ≤ j ∧ j < n + w
  · rw [if_pos c]
    unfold sj_F
    rw [List.getD_eq_getElem?_getD, List.getD_eq_getElem?_getD, List.getElem?_append_right (by omega), h, Nat.zero_add]
  · rw [if_neg c]
    unfold sj_F
    rw [List.getD_eq_getElem?_getD, List.getD_eq_getElem?_getD]
    by_cases d : j < t.length
    · rw [List.getElem?_append_left d]
    · rw [List.getElem?_eq_none (by omega), List.getElem?_eq_none (by simp; omega)]
theorem sj_i2b {x : Int32} (h : 0 ≤ x.toInt ∧ x.toInt < 128) : x.toInt8.toInt32 = x := by
  apply Int32.toInt_inj.mp
  rw [Int8.toInt_toInt32, Int32.toInt_toInt8]
  exact Int.bmod_eq_of_le (by omega) (by omega)
theorem sj_nar {x : Int32} (h : 0 ≤ x.toInt ∧ x.toInt < 128) : vp_nar .byte x = x := by rw [vp_nar_byte, sj_i2b h]
theorem sj_le255 {x : Int32} (h : 0 ≤ x.toInt ∧ x.toInt < 128) : ¬ (255 : Int32) < x := fun c => by
  have e : (255 : Int32).toInt = 255 := by decide
  have := Int32.lt_iff_toInt_lt.mp c
  omega
section SBE
variable {p : Program} {l : Launch} {e : Env} {R : Room} {s : State} {m : MethodId} {args : Array Value} {below : List Frame} {meth : Method} {c : Code} {H : Heap} {locs : List Loc} {cells slots : Nat} {Q : State → Prop} {cc : ByteArray} {pc : Nat} {ls : Array Slot} {rest : List Value}
theorem sj_iadd (hx : p.tables.exec = Jvm.exec) (hb : c.code = cc) {x y v : Int32} (hdg : decode cc pc = .ok (.iadd, 1)) (hv : x + y = v) (k : W p l e R s m args below meth c H locs cells slots Q (F0 m (pc + 1) ls (.int v :: rest))) : W p l e R s m args below meth c H locs cells slots Q (F0 m pc ls (.int y :: .int x :: rest)) := by subst hv; exact lv_iadd hx hb hdg k
theorem sj_isub (hx : p.tables.exec = Jvm.exec) (hb : c.code = cc) {x y v : Int32} (hdg : decode cc pc = .ok (.isub, 1)) (hv : x - y = v) (k : W p l e R s m args below meth c H locs cells slots Q (F0 m (pc + 1) ls (.int v :: rest))) : W p l e R s m args below meth c H locs cells slots Q (F0 m pc ls (.int y :: .int x :: rest)) := by subst hv; exact lv_isub hx hb hdg k
theorem sj_imul (hx : p.tables.exec = Jvm.exec) (hb : c.code = cc) {x y v : Int32} (hdg : decode cc pc = .ok (.imul, 1)) (hv : x * y = v) (k : W p l e R s m args below meth c H locs cells slots Q (F0 m (pc + 1) ls (.int v :: rest))) : W p l e R s m args below meth c H locs cells slots Q (F0 m pc ls (.int y :: .int x :: rest)) := by subst hv; exact lv_imul hx hb hdg k
theorem sj_ishl (hx : p.tables.exec = Jvm.exec) (hb : c.code = cc) {x y v : Int32} (hdg : decode cc pc = .ok (.ishl, 1)) (hv : x <<< (y &&& 31) = v) (k : W p l e R s m args below meth c H locs cells slots Q (F0 m (pc + 1) ls (.int v :: rest))) : W p l e R s m args below meth c H locs cells slots Q (F0 m pc ls (.int y :: .int x :: rest)) := by subst hv; exact lv_ishl hx hb hdg k
theorem sj_ishr (hx : p.tables.exec = Jvm.exec) (hb : c.code = cc) {x y v : Int32} (hdg : decode cc pc = .ok (.ishr, 1)) (hv : x >>> (y &&& 31) = v) (k : W p l e R s m args below meth c H locs cells slots Q (F0 m (pc + 1) ls (.int v :: rest))) : W p l e R s m args below meth c H locs cells slots Q (F0 m pc ls (.int y :: .int x :: rest)) := by subst hv; exact lv_ishr hx hb hdg k
theorem sj_iand (hx : p.tables.exec = Jvm.exec) (hb : c.code = cc) {x y v : Int32} (hdg : decode cc pc = .ok (.iand, 1)) (hv : x &&& y = v) (k : W p l e R s m args below meth c H locs cells slots Q (F0 m (pc + 1) ls (.int v :: rest))) : W p l e R s m args below meth c H locs cells slots Q (F0 m pc ls (.int y :: .int x :: rest)) := by subst hv; exact lv_iand hx hb hdg k
theorem sj_ineg (hx : p.tables.exec = Jvm.exec) (hb : c.code = cc) {x v : Int32} (hdg : decode cc pc = .ok (.ineg, 1)) (hv : -x = v) (k : W p l e R s m args below meth c H locs cells slots Q (F0 m (pc + 1) ls (.int v :: rest))) : W p l e R s m args below meth c H locs cells slots Q (F0 m pc ls (.int x :: rest)) := by subst hv; exact lv_ineg hx hb hdg k
end SBE
/-- a private method of a class that can't be made, on an object below it -/
theorem sj_sel {y : MethodName} {s : State} {args : Array Value} (htU : ∀ w ∈ sw_U, w.before args s = true) (hz : va_Nw (.privateMethod y) s) (hsm : Cond.sameMethod y.cls y.cls y.name y.desc ∈ sw_U) (him : Cond.instanceMethod y ∈ sw_U) : (∀ w ∈ sw_U, w.before args s = true) → (Cond.selects RJ4 y y).before args s = true := fun _ => by
  obtain ⟨c, k, hc, hk, -, -⟩ := Cond.instantiable_spec (htU _ ins_J4)
  obtain ⟨cn, ck, r1, hcn, hck, hni, hf, hn1⟩ := Cond.sameMethod_found (htU _ hsm)
  obtain ⟨mk, methM, hnamed, hmethM, -, -⟩ := Cond.instanceMethod_spec (htU _ him)
  have e9 : mk = r1 := Option.some.inj (hnamed.symm.trans hn1)
  subst e9
  have hpriv := Cond.privateMethod_at (va_Nw.use (A := args) rfl hz)
  have hcls : mk.cls = cn := Option.some.inj ((findClass_of_methodNamed hnamed).symm.trans hcn)
  have hsel : selectMethod {} s.vm c mk = .method mk := selectMethod_private hmethM (hpriv mk methM hnamed hmethM)
  simp only [Cond.before, Cond.holds, Cond.value, hc, hf, hnamed, hsel, hcls, hck]
  simp; exact hni
section SBC
variable {p : Program} {l : Launch} {e : Env} {R : Room} {s : State} {m : MethodId} {args : Array Value} {below : List Frame} {meth : Method} {c : Code} {H : Heap} {locs : List Loc} {cells slots : Nat} {Q : State → Prop}
  {cc bytes b0 : ByteArray} {nL maxL n idx b pc mc ms m0 : Nat} {own C : String} {G : va_G} {ca Z : Nat → Nat} {A : Nat → Prop} {ws wc : va_W} {x y : MethodName} {ret r0 : Option FieldType} {rm : Room} {As rest st : List Value} {ls : Array Slot} {Qc : Array Value → State → Outcome → State → Prop}
/-- a call on a StringBuilder of what its superclass declares: inherited, overridden or private -/
theorem sj_runX (Cx : sw_Cx p s m args c cc nL own G ca Z A) (hP : va_P G vwCl ws H) (hD : va_D A ws) (hS : va_S A s.heap H locs) (hl : Cond.methodLink own idx x ∈ sw_U) (hsm : Cond.sameMethod x.cls x.cls x.name x.desc ∈ sw_U) (hix : Cond.instanceMethod x ∈ sw_U) (hcx : Cond.code x b0 m0 r0 ∈ sw_U) (hsel : (∀ w ∈ sw_U, w.before args s = true) → (Cond.selects RJ4 x y).before args s = true) (hiy : Cond.instanceMethod y ∈ sw_U) (hini : Cond.initialized y.cls ∈ sw_U) (hcy : Cond.code y bytes maxL ret ∈ sw_U) (hd : x.cls ≠ "java/lang/invoke/MethodHandle" ∧ x.cls ≠ "java/lang/invoke/VarHandle" ∧ (parseMethodDescriptor x.desc).map (fun d => d.parameters.length) = some n)
    (hM : Met l y (.code y bytes maxL ret :: sw_U) rm (va_Pc (.ref b :: As) (sw_Pre G ca Z wc H.size)) Qc mc ms (va_A wc H.size))
    {fs : List Value} (h0 : wc[0]? = some (b, .inr (8, fs))) (isC : List Nat) (hC : isC.map (fun i => ws[i]?) = wc.map some) (hCn : va_nd isC = true)
    (hcz : rm.cells = mc) (hsz : rm.slots = ms) (hrf : rm.frames + 1 ≤ R.frames ∧ 8 + (maxL + 11) + rm.locals ≤ R.locals) (hls : ls.size = nL) (hst : st = As.reverse ++ .ref b :: rest) (hAn : As.length = n) (hre : (rest.map fun v => v.category).sum ≤ 8)
    (hdg : decode cc pc = .ok (.invokevirtual idx, 3)) (hcs : cells + mc ≤ R.cells ∧ slots + ms ≤ R.slots) :
    va_Run p l e R s m args below meth c H locs cells slots mc ms (F0 m pc ls st) rest (Qc (Value.ref b :: As).toArray) (va_A wc H.size) := by
  obtain ⟨⟨hx, hb, hml, hown, htU⟩, hK, hX, hY, hA⟩ := Cx
  have hPc := hP.sub (ws' := wc) isC (sw_fm hC)
  have hDc := hD.sub (ws' := wc) isC hCn hC
  have hFc := va_free hD hS hA isC hC
  have hrv := va_recv hK hPc (show vwCl[8]? = some (RJ4, TJ4, 4) from rfl) h0
  exact va_runU (x := x) (C := RJ4) (owner := x.cls) (As := As) (rest := rest) ⟨hx, hb, hml, hown, htU⟩ hM
    ⟨⟨hcz, hsz, hrf.1, hrf.2, pay_in htU (sw_W hcy), List.mem_cons_self⟩, htU _ hcy, htU _ hini, ⟨hd.1, hd.2.1⟩, fun sig h => by
      have h2 := hd.2.2
      rw [h] at h2
      exact (Option.some.inj h2).symm, htU _ hl, htU _ hsm, va_Decl.of (htU _ hix) (htU _ hcx), hsel htU, htU _ hiy⟩
    ⟨sw_blind, hrv, sw_pre hPc hK hDc hX hY hS hFc⟩ rfl hAn hls hst (lv_room hre) hdg hcs
/-- super.m(..) on a StringBuilder -/
theorem sj_runU (Cx : sw_Cx p s m args c cc nL RJ4 G ca Z A) (hP : va_P G vwCl ws H) (hD : va_D A ws) (hS : va_S A s.heap H locs) (hl : Cond.methodLink RJ4 idx y ∈ sw_U) (hsm : Cond.sameMethod y.cls y.cls y.name y.desc ∈ sw_U) (hsu : Cond.superclass RJ4 y.cls ∈ sw_U) (hiy : Cond.instanceMethod y ∈ sw_U) (hini : Cond.initialized y.cls ∈ sw_U) (hcy : Cond.code y bytes maxL ret ∈ sw_U) (hd : y.name ≠ "<init>" ∧ (parseMethodDescriptor y.desc).map (fun d => d.parameters.length) = some n)
    (hM : Met l y (.code y bytes maxL ret :: sw_U) rm (va_Pc (.ref b :: As) (sw_Pre G ca Z wc H.size)) Qc mc ms (va_A wc H.size))
    {fs : List Value} (h0 : wc[0]? = some (b, .inr (8, fs))) (isC : List Nat) (hC : isC.map (fun i => ws[i]?) = wc.map some) (hCn : va_nd isC = true)
    (hcz : rm.cells = mc) (hsz : rm.slots = ms) (hrf : rm.frames + 1 ≤ R.frames ∧ 8 + (maxL + 11) + rm.locals ≤ R.locals) (hls : ls.size = nL) (hst : st = As.reverse ++ .ref b :: rest) (hAn : As.length = n) (hre : (rest.map fun v => v.category).sum ≤ 8)
    (hdg : decode cc pc = .ok (.invokespecial idx, 3)) (hcs : cells + mc ≤ R.cells ∧ slots + ms ≤ R.slots) :
    va_Run p l e R s m args below meth c H locs cells slots mc ms (F0 m pc ls st) rest (Qc (Value.ref b :: As).toArray) (va_A wc H.size) := by
  obtain ⟨⟨hx, hb, hml, hown, htU⟩, hK, hX, hY, hA⟩ := Cx
  have hPc := hP.sub (ws' := wc) isC (sw_fm hC)
  have hDc := hD.sub (ws' := wc) isC hCn hC
  have hFc := va_free hD hS hA isC hC
  have hrv := va_recv hK hPc (show vwCl[8]? = some (RJ4, TJ4, 4) from rfl) h0
  exact va_runSU (C := RJ4) (As := As) (rest := rest) (hK.1 8 (RJ4, TJ4, 4) rfl).2 ⟨hx, hb, hml, hown, htU⟩ hM
    (va_cwSU n htU (sw_G (sw_c hl (sw_c hsm (sw_c hsu (sw_c hiy (sw_c hini (sw_c hcy sw_self))))))) rfl hcz hsz hd hrf)
    ⟨sw_blind, hrv, sw_pre hPc hK hDc hX hY hS hFc⟩ rfl hAn hls hst (lv_room hre) hdg hcs
theorem sj_ra {S : Type} {cs : S → va_W} {post : S → Prop} {a0 : Nat} {T : FieldType} (hx : p.tables.exec = Jvm.exec) (hb : c.code = cc) (hr : meth.sig.returnType = some (.array T)) (hlocks : meth.locks = false) (hS : va_S A s.heap H locs) (u : S) (hw : post u) (hP : va_P G vwCl (cs u) H) (hD : va_D A (cs u)) (hdg : decode cc pc = .ok (.areturn, 1)) : W p l e R s m args below meth c H locs cells slots (MQ below (va_Qr post (fun u q t => q = a0 ∧ sw_Post G A cs u t) A) args s cells slots A) (F0 m pc ls [.ref a0]) :=
  W.aret hx hb hr (Or.inr ⟨T, rfl⟩) (Or.inr ⟨a0, rfl⟩) (fun t ht _ => ⟨⟨u, a0, rfl, hw, rfl, by rw [ht]; exact hP, hD⟩, hS.F ht⟩) hS.2.2 hdg hlocks
theorem sj_cr {S : Type} {cs : S → va_W} {post : S → Prop} {f0 : S → Nat} {a : Array Value} (hr : va_Run p l e R s m args below meth c H locs cells slots mc ms (F0 m pc ls st) rest (va_Qr post (fun u q t => q = f0 u ∧ sw_Post G (va_A wc H.size) cs u t) (va_A wc H.size) a) (va_A wc H.size))
    (hP : va_P G vwCl ws H) (hD : va_D A ws) (hS : va_S A s.heap H locs) (hA : ∀ q : Nat, s.heap.size ≤ q → A q) (isC isR pm : List Nat) (hC : isC.map (fun i => ws[i]?) = wc.map some) (hR : isR.map (fun i => ws[i]?) = (isR.filterMap (fun i => ws[i]?)).map some) (hn : va_nd isR = true) (hdis : ∀ i ∈ isR, i ∉ isC)
    (hpm : ∀ u, pm.map (fun i => ((isR.filterMap (fun i => ws[i]?)) ++ cs u)[i]?) = (pm.filterMap (fun i => ((isR.filterMap (fun i => ws[i]?)) ++ cs u)[i]?)).map some) (hpn : va_nd pm = true)
    (kk : ∀ (u : S) (H1 : Heap) (locs1 : List Loc), post u → va_P G vwCl (pm.filterMap (fun i => ((isR.filterMap (fun i => ws[i]?)) ++ cs u)[i]?)) H1 → va_D A (pm.filterMap (fun i => ((isR.filterMap (fun i => ws[i]?)) ++ cs u)[i]?)) → va_S A s.heap H1 locs1 → W p l e R s m args below meth c H1 locs1 (cells + mc) (slots + ms) Q (F0 m (pc + 3) ls (.ref (f0 u) :: rest))) : W p l e R s m args below meth c H locs cells slots Q (F0 m pc ls st) := by
  have hFc := va_free hD hS hA isC hC
  refine va_callr hr hS (fun q _ h => hFc q h) hFc (fun u ra t H1 locs1 ht hvm hw hB hz1 hk1 hS1 => ?_)
  obtain ⟨rfl, hB⟩ := hB
  obtain ⟨hP2, hD2⟩ := sw_back hP hD hS hA isC isR pm hC hR hn hdis hpm hpn ht hB hk1
  exact kk u H1 locs1 hw hP2 hD2 hS1
theorem sj_rr {S : Type} {cs : S → va_W} {post : S → Prop} {f0 : S → Nat} {C : String} {v : Value} (hx : p.tables.exec = Jvm.exec) (hb : c.code = cc) (hr : meth.sig.returnType = some (.object C)) (hlocks : meth.locks = false) (hS : va_S A s.heap H locs) (u : S) (hv : v = .ref (f0 u)) (hw : post u) (hP : va_P G vwCl (cs u) H) (hD : va_D A (cs u)) (hdg : decode cc pc = .ok (.areturn, 1)) : W p l e R s m args below meth c H locs cells slots (MQ below (va_Qr post (fun u q t => q = f0 u ∧ sw_Post G A cs u t) A) args s cells slots A) (F0 m pc ls [v]) := by
  subst hv
  exact W.aret hx hb hr (Or.inl ⟨C, rfl⟩) (Or.inr ⟨f0 u, rfl⟩) (fun t ht _ => ⟨⟨u, f0 u, rfl, hw, rfl, by rw [ht]; exact hP, hD⟩, hS.F ht⟩) hS.2.2 hdg hlocks
theorem sj_rar {S : Type} {cs : S → va_W} {post : S → Prop} {f0 : S → Nat} {T : FieldType} {v : Value} (hx : p.tables.exec = Jvm.exec) (hb : c.code = cc) (hr : meth.sig.returnType = some (.array T)) (hlocks : meth.locks = false) (hS : va_S A s.heap H locs) (u : S) (hv : v = .ref (f0 u)) (hw : post u) (hP : va_P G vwCl (cs u) H) (hD : va_D A (cs u)) (hdg : decode cc pc = .ok (.areturn, 1)) : W p l e R s m args below meth c H locs cells slots (MQ below (va_Qr post (fun u q t => q = f0 u ∧ sw_Post G A cs u t) A) args s cells slots A) (F0 m pc ls [v]) := by
  subst hv
  exact W.aret hx hb hr (Or.inr ⟨T, rfl⟩) (Or.inr ⟨f0 u, rfl⟩) (fun t ht _ => ⟨⟨u, f0 u, rfl, hw, rfl, by rw [ht]; exact hP, hD⟩, hS.F ht⟩) hS.2.2 hdg hlocks
end SBC
theorem ms_J8_newLength_cabcc : sw_MS yJ8_newLength_cabcc cJ8_newLength_cabcc 4 (Option.some Jvm.ClassFile.FieldType.int) 3 := ⟨st_J8_newLength_cabcc, ini_J8, co_J8_newLength_cabcc, by decide +kernel⟩
theorem ms_J7_copyOf_9075b : sw_MS yJ7_copyOf_9075b cJ7_copyOf_9075b 3 (Option.some (Jvm.ClassFile.FieldType.array Jvm.ClassFile.FieldType.byte)) 2 := ⟨st_J7_copyOf_9075b, ini_J7, co_J7_copyOf_9075b, by decide +kernel⟩
theorem ms_J7_copyOfRange_39247 : sw_MS yJ7_copyOfRange_39247 cJ7_copyOfRange_39247 3 (Option.some (Jvm.ClassFile.FieldType.array Jvm.ClassFile.FieldType.byte)) 3 := ⟨st_J7_copyOfRange_39247, ini_J7, co_J7_copyOfRange_39247, by decide +kernel⟩
theorem ms_J7_copyOfRangeByte_39247 : sw_MS yJ7_copyOfRangeByte_39247 cJ7_copyOfRangeByte_39247 5 (Option.some (Jvm.ClassFile.FieldType.array Jvm.ClassFile.FieldType.byte)) 3 := ⟨st_J7_copyOfRangeByte_39247, ini_J7, co_J7_copyOfRangeByte_39247, by decide +kernel⟩
theorem ms_J7_checkLength_df160 : sw_MS yJ7_checkLength_df160 cJ7_checkLength_df160 2 (Option.none : Option Jvm.ClassFile.FieldType) 2 := ⟨st_J7_checkLength_df160, ini_J7, co_J7_checkLength_df160, by decide +kernel⟩
theorem ms_J6_stringSize_0f7a4 : sw_MS yJ6_stringSize_0f7a4 cJ6_stringSize_0f7a4 4 (Option.some Jvm.ClassFile.FieldType.int) 1 := ⟨st_J6_stringSize_0f7a4, ini_J6, co_J6_stringSize_0f7a4, by decide +kernel⟩
theorem ms_J6_getChars_ba4f3 : sw_MS yJ6_getChars_ba4f3 cJ6_getChars_ba4f3 7 (Option.some Jvm.ClassFile.FieldType.int) 3 := ⟨st_J6_getChars_ba4f3, ini_J6, co_J6_getChars_ba4f3, by decide +kernel⟩
theorem ms_J1_canEncode_fc78d : sw_MS yJ1_canEncode_fc78d cJ1_canEncode_fc78d 1 (Option.some Jvm.ClassFile.FieldType.boolean) 1 := ⟨st_J1_canEncode_fc78d, ini_J1, co_J1_canEncode_fc78d, by decide +kernel⟩
theorem mv_J4_append_15ec4 : sw_MV yJ4_append_15ec4 RJ4 cJ4_append_15ec4 2 (Option.some (Jvm.ClassFile.FieldType.object "java/lang/StringBuilder")) 1 := ⟨im_J4_append_15ec4, se_J4_append_15ec4, ini_J4, co_J4_append_15ec4, by decide +kernel⟩
theorem mv_J4_append_cf468 : sw_MV yJ4_append_cf468 RJ4 cJ4_append_cf468 2 (Option.some (Jvm.ClassFile.FieldType.object "java/lang/StringBuilder")) 1 := ⟨im_J4_append_cf468, se_J4_append_cf468, ini_J4, co_J4_append_cf468, by decide +kernel⟩
theorem mv_J4_append_bf812 : sw_MV yJ4_append_bf812 RJ4 cJ4_append_bf812 2 (Option.some (Jvm.ClassFile.FieldType.object "java/lang/StringBuilder")) 1 := ⟨im_J4_append_bf812, se_J4_append_bf812, ini_J4, co_J4_append_bf812, by decide +kernel⟩
theorem mv_J4_toString_0e30d : sw_MV yJ4_toString_0e30d RJ4 cJ4_toString_0e30d 1 (Option.some (Jvm.ClassFile.FieldType.object "java/lang/String")) 0 := ⟨im_J4_toString_0e30d, se_J4_toString_0e30d, ini_J4, co_J4_toString_0e30d, by decide +kernel⟩
