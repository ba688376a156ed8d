/-! ===== methods that throw ===== -/
def sw_ex (k : Nat) : String := if k = 1 then "java/lang/IllegalArgumentException" else "java/util/NoSuchElementException"
abbrev sw_ns : List String := ["java/lang/RuntimeException", "java/lang/Exception"]
def sw_XP {S : Type} (G : va_G) (A : Nat → Prop) (cs : S → va_W) (E : String) (ku : Nat × S) (t : State) : Prop := E = sw_ex ku.1 ∧ sw_Post G A cs ku.2 t
theorem se_l {α β : Type} {x : Nat ⊕ α} {f : Nat → β} {g : α → β} {y : β} {k : Nat} (e : x = .inl k) (h : Sum.elim f g x = y) : f k = y := by rw [e] at h; exact h
theorem se_r {α β : Type} {x : Nat ⊕ α} {f : Nat → β} {g : α → β} {y : β} {r : α} (e : x = .inr r) (h : Sum.elim f g x = y) : g r = y := by rw [e] at h; exact h
theorem sw_atI : ∀ w ∈ vx_at0 RX10 351 "java/lang/IllegalArgumentException" sw_ns, w ∈ lw_tbl ∧ (goodWord w || sw_lk w) = true := by decide +kernel
theorem sw_atN : ∀ w ∈ vx_at0 RX10 212 "java/util/NoSuchElementException" sw_ns, w ∈ lw_tbl ∧ (goodWord w || sw_lk w) = true := by decide +kernel
theorem sw_hat {ws : List Cond} {args : Array Value} {s : State} (h : ∀ w ∈ ws, w ∈ lw_tbl ∧ (goodWord w || sw_lk w) = true) (htU : ∀ w ∈ sw_U, w.before args s = true) (hT : sw_TB s) : ∀ w ∈ ws, w.before args s = true := by
  intro w hw
  obtain ⟨h1, h2⟩ := h w hw
  rcases (Bool.or_eq_true _ _).mp h2 with h3 | h3
  · exact htU w (sw_in h1 h3)
  · exact va_Nw.use (sw_lk_tab h3) (hT w h1 h3)
theorem sw_goI : ∀ w ∈ Cond.classLink RX10 349 "java/lang/IllegalArgumentException" :: Cond.initialized "java/lang/IllegalArgumentException" :: vx_at0 RX10 351 "java/lang/IllegalArgumentException" sw_ns, vx_ot w = true := by decide +kernel
theorem sw_goN : ∀ w ∈ Cond.classLink RX10 210 "java/util/NoSuchElementException" :: Cond.initialized "java/util/NoSuchElementException" :: vx_at0 RX10 212 "java/util/NoSuchElementException" sw_ns, vx_ot w = true := by decide +kernel
theorem sw_fit : ∀ n ∈ sw_ns, Bundle.fit n = true := by decide +kernel
/-- a contract of a method that returns or throws, from the walk of its body -/
theorem sw_ofX {l : Launch} {y : MethodName} {cc : ByteArray} {maxL : Nat} {ret : Option FieldType} {rm : Room} {av : List Value} {G : va_G} {ca : Nat → ClassId} {Z : Nat → Nat} {ws : va_W} {sz : Nat} {Qc : (Nat → Prop) → Array Value → State → Outcome → State → Prop} {XC : (Nat → Prop) → String → State → State → Prop} {mc ms : Nat}
    (hy : plainName y.cls = true) (lv : List (Nat × Value)) (hlv : lv_args 0 av = lv) (hn : (lg_sl av).length ≤ maxL)
    (body : ∀ (p : Program) (e : Env) (s : State) (m : MethodId) (args : Array Value) (below : List Frame) (meth : Method) (c : Code) (ls : Array Slot) (A : Nat → Prop), p.tables.exec = Jvm.exec → c.code = cc → meth.sig.returnType = ret → c.maxLocals = maxL → s.vm.findClass y.cls = some m.cls → (∀ w ∈ sw_U, w.before args s = true) → meth.locks = false → (∀ (pc : Nat), ∀ x ∈ c.exceptionTable.toList, covers x pc = false) → va_P G vwCl ws s.heap → va_K G vwCl (sw_tys ca) s → va_D A ws → sw_SX Z A s s.heap → sw_SY Z s → va_S A s.heap s.heap [] → (∀ q : Nat, s.heap.size ≤ q → A q) → lv_has ls maxL lv →
      W p l e rm s m args below meth c s.heap [] 0 0 (vx_MQ below (Qc A) (XC A) args s mc ms A) (F0 m 0 ls [])) :
    vx_Met l y (.code y cc maxL ret :: sw_U) rm (va_Pc av (sw_Pre G ca Z ws sz)) (Qc (va_A ws sz)) (XC (va_A ws sz)) mc ms (va_A ws sz) := by
  refine vx_ofW (cc := cc) (maxL := maxL) (ret := ret) hy rfl ?_
  intro p e s m args below meth c s₁ B hml htab hv
  obtain ⟨rfl, hsz, hP, hK, hD0, hX, hY⟩ := hv
  subst hsz
  have hts := atoms_spec (ws := .code y cc maxL ret :: sw_U) B.pre
  have hl := lv_entry av (n := maxL) hn
  rw [lg_entry_eq]
  rw [hlv] at hl
  exact body p e s m av.toArray below meth c _ (va_A ws s.heap.size) B.exec B.bytes B.returns hml (findClass_of_methodNamed B.named) (fun w hw => hts w (List.mem_cons_of_mem _ hw)) B.notSynchronized (fun _ x hx => (htab x hx).elim) hP hK hD0.self hX hY va_S.rf sw_hA hl
section SWX
variable {p : Program} {l : Launch} {e : Env} {R : Room} {s : State} {m : MethodId} {args : Array Value} {below : List Frame} {meth : Method} {c : Code} {H : Heap} {locs : List Loc} {cells slots : Nat} {Q : State → Prop}
  {cc bytes : ByteArray} {nL maxL n idx b pc mc ms : Nat} {own C : String} {G : va_G} {ca Z : Nat → Nat} {A : Nat → Prop} {ws wc : va_W} {y : MethodName} {ret : Option FieldType} {rm : Room} {As rest st : List Value} {S : Type} {cs : S → va_W} {ls : Array Slot} {Qc : Array Value → State → Outcome → State → Prop} {XC : String → State → State → Prop} {a : Array Value}
theorem sw_xunV (Cx : sw_Cx p s m args c cc nL own G ca Z A) (hP : va_P G vwCl ws H) (hD : va_D A ws) (hS : va_S A s.heap H locs) (mb : sw_MV y C bytes maxL ret n) (hl : Cond.methodLink own idx y ∈ sw_U)
    (hM : vx_Met l y (.code y bytes maxL ret :: sw_U) rm (va_Pc (.ref b :: As) (sw_Pre G ca Z wc H.size)) Qc XC mc ms (va_A wc H.size))
    (ci : Nat) {fs : List Value} {q : vw_C} (h0 : wc[0]? = some (b, .inr (ci, fs))) (hci : vwCl[ci]? = some q) (hcn : q.1 = C) (isC : List Nat) (hC : isC.map (fun i => ws[i]?) = wc.map some) (hCn : va_nd isC = true)
    (hcz : rm.cells = mc) (hsz : rm.slots = ms) (hrf : rm.frames + 1 ≤ R.frames ∧ 8 + (maxL + 11) + rm.locals ≤ R.locals) (hls : ls.size = nL) (hst : st = As.reverse ++ .ref b :: rest) (hAn : As.length = n) (hre : (rest.map fun v => v.category).sum ≤ 8)
    (hdg : decode cc pc = .ok (.invokevirtual idx, 3)) (hcs : cells + mc ≤ R.cells ∧ slots + ms ≤ R.slots) :
    vx_Run p l e R s m args below meth c H locs cells slots mc ms (F0 m pc ls st) rest (Qc (Value.ref b :: As).toArray) XC (va_A wc H.size) := by
  obtain ⟨⟨hx, hb, hml, hown, htU⟩, hK, hX, hY, hA⟩ := Cx
  have hPc := hP.sub (ws' := wc) isC (sw_fm hC)
  have hDc := hD.sub (ws' := wc) isC hCn hC
  have hFc := va_free hD hS hA isC hC
  obtain ⟨m1, m2, m3, m4, m5⟩ := mb
  have hrv := va_recv hK hPc hci h0
  rw [hcn] at hrv
  exact vx_runV (As := As) (rest := rest) ⟨hx, hb, hml, hown, htU⟩ hM (cwV n htU (sw_V hl m1 m2 m3 m4) rfl hcz hsz m5 hrf) ⟨sw_blind, hrv, sw_pre hPc hK hDc hX hY hS hFc⟩ rfl hAn hls hst (lv_room hre) hdg hcs
theorem sw_xunS (Cx : sw_Cx p s m args c cc nL own G ca Z A) (hP : va_P G vwCl ws H) (hD : va_D A ws) (hS : va_S A s.heap H locs) (mb : sw_MS y bytes maxL ret n) (hl : Cond.methodLink own idx y ∈ sw_U)
    (hM : vx_Met l y (.code y bytes maxL ret :: sw_U) rm (va_Pc As (sw_Pre G ca Z wc H.size)) Qc XC mc ms (va_A wc H.size))
    (isC : List Nat) (hC : isC.map (fun i => ws[i]?) = wc.map some) (hCn : va_nd isC = true)
    (hcz : rm.cells = mc) (hsz : rm.slots = ms) (hrf : rm.frames + 1 ≤ R.frames ∧ 8 + (maxL + 11) + rm.locals ≤ R.locals) (hls : ls.size = nL) (hst : st = As.reverse ++ rest) (hAn : As.length = n) (hre : (rest.map fun v => v.category).sum ≤ 8)
    (hdg : decode cc pc = .ok (.invokestatic idx, 3)) (hcs : cells + mc ≤ R.cells ∧ slots + ms ≤ R.slots) :
    vx_Run p l e R s m args below meth c H locs cells slots mc ms (F0 m pc ls st) rest (Qc As.toArray) XC (va_A wc H.size) := by
  obtain ⟨⟨hx, hb, hml, hown, htU⟩, hK, hX, hY, hA⟩ := Cx
  have hPc := hP.sub (ws' := wc) isC (sw_fm hC)
  have hDc := hD.sub (ws' := wc) isC hCn hC
  have hFc := va_free hD hS hA isC hC
  obtain ⟨m1, m3, m4, m5⟩ := mb
  exact vx_runS (As := As) (rest := rest) ⟨hx, hb, hml, hown, htU⟩ hM (va_cwS n htU (sw_S hl m1 m3 m4) rfl hcz hsz m5 hrf) ⟨sw_blind, sw_pre hPc hK hDc hX hY hS hFc⟩ rfl hAn hls hst (lv_room hre) hdg hcs
theorem sw_xi {post : Int32 → S → Prop} {px : Nat × S → Prop} (hr : vx_Run p l e R s m args below meth c H locs cells slots mc ms (F0 m pc ls st) rest (va_Qi post (sw_Post G (va_A wc H.size) cs) (va_A wc H.size) a) (vx_X px (sw_XP G (va_A wc H.size) cs) (va_A wc H.size)) (va_A wc H.size))
    (hP : va_P G vwCl ws H) (hD : va_D A ws) (hS : va_S A s.heap H locs) (hA : ∀ q : Nat, s.heap.size ≤ q → A q) (isC isR pm : List Nat) (hC : isC.map (fun i => ws[i]?) = wc.map some) (hR : isR.map (fun i => ws[i]?) = (isR.filterMap (fun i => ws[i]?)).map some) (hn : va_nd isR = true) (hdis : ∀ i ∈ isR, i ∉ isC)
    (hpm : ∀ u, pm.map (fun i => ((isR.filterMap (fun i => ws[i]?)) ++ cs u)[i]?) = (pm.filterMap (fun i => ((isR.filterMap (fun i => ws[i]?)) ++ cs u)[i]?)).map some) (hpn : va_nd pm = true)
    (kx : ∀ (k : Nat) (u : S) (ce : Cell) (q9 : Addr) (H1 : Heap) (locs1 : List Loc), px (k, u) → va_P G vwCl (pm.filterMap (fun i => ((isR.filterMap (fun i => ws[i]?)) ++ cs u)[i]?)) H1 → va_D A (pm.filterMap (fun i => ((isR.filterMap (fun i => ws[i]?)) ++ cs u)[i]?)) → va_S A s.heap H1 locs1 → H1[q9]? = some ce → ce.vm = .none → s.vm.findClass (sw_ex k) = some ce.cls → vx_W p l e R s m args below meth c H1 locs1 (cells + mc) (slots + ms) Q (F0 m pc ls rest) q9)
    (kk : ∀ (r : Int32) (u : S) (H1 : Heap) (locs1 : List Loc), post r u → va_P G vwCl (pm.filterMap (fun i => ((isR.filterMap (fun i => ws[i]?)) ++ cs u)[i]?)) H1 → va_D A (pm.filterMap (fun i => ((isR.filterMap (fun i => ws[i]?)) ++ cs u)[i]?)) → va_S A s.heap H1 locs1 → W p l e R s m args below meth c H1 locs1 (cells + mc) (slots + ms) Q (F0 m (pc + 3) ls (.int r :: rest))) : W p l e R s m args below meth c H locs cells slots Q (F0 m pc ls st) := by
  have hFc := va_free hD hS hA isC hC
  refine vx_calli hr hS (fun q _ h => hFc q h) hFc (fun q _ h => hFc q h) (fun E ce q9 u t H1 locs1 ht hvm hw hB hz1 hk1 hS1 g1 g2 g3 => ?_) (fun r u t H1 locs1 ht hvm hw hB hz1 hk1 hS1 => ?_)
  · obtain ⟨k, u⟩ := u
    obtain ⟨rfl, hB⟩ := hB
    obtain ⟨hP2, hD2⟩ := sw_back hP hD hS hA isC isR pm hC hR hn hdis hpm hpn ht hB hk1
    exact kx k u ce q9 H1 locs1 hw hP2 hD2 hS1 g1 g2 g3
  · obtain ⟨hP2, hD2⟩ := sw_back hP hD hS hA isC isR pm hC hR hn hdis hpm hpn ht hB hk1
    exact kk r u H1 locs1 hw hP2 hD2 hS1
theorem sw_xv {post : S → Prop} {px : Nat × S → Prop} (hr : vx_Run p l e R s m args below meth c H locs cells slots mc ms (F0 m pc ls st) rest (va_Qv post (sw_Post G (va_A wc H.size) cs) (va_A wc H.size) a) (vx_X px (sw_XP G (va_A wc H.size) cs) (va_A wc H.size)) (va_A wc H.size))
    (hP : va_P G vwCl ws H) (hD : va_D A ws) (hS : va_S A s.heap H locs) (hA : ∀ q : Nat, s.heap.size ≤ q → A q) (isC isR pm : List Nat) (hC : isC.map (fun i => ws[i]?) = wc.map some) (hR : isR.map (fun i => ws[i]?) = (isR.filterMap (fun i => ws[i]?)).map some) (hn : va_nd isR = true) (hdis : ∀ i ∈ isR, i ∉ isC)
    (hpm : ∀ u, pm.map (fun i => ((isR.filterMap (fun i => ws[i]?)) ++ cs u)[i]?) = (pm.filterMap (fun i => ((isR.filterMap (fun i => ws[i]?)) ++ cs u)[i]?)).map some) (hpn : va_nd pm = true)
    (kx : ∀ (k : Nat) (u : S) (ce : Cell) (q9 : Addr) (H1 : Heap) (locs1 : List Loc), px (k, u) → va_P G vwCl (pm.filterMap (fun i => ((isR.filterMap (fun i => ws[i]?)) ++ cs u)[i]?)) H1 → va_D A (pm.filterMap (fun i => ((isR.filterMap (fun i => ws[i]?)) ++ cs u)[i]?)) → va_S A s.heap H1 locs1 → H1[q9]? = some ce → ce.vm = .none → s.vm.findClass (sw_ex k) = some ce.cls → vx_W p l e R s m args below meth c H1 locs1 (cells + mc) (slots + ms) Q (F0 m pc ls rest) q9)
    (kk : ∀ (u : S) (H1 : Heap) (locs1 : List Loc), post u → va_P G vwCl (pm.filterMap (fun i => ((isR.filterMap (fun i => ws[i]?)) ++ cs u)[i]?)) H1 → va_D A (pm.filterMap (fun i => ((isR.filterMap (fun i => ws[i]?)) ++ cs u)[i]?)) → va_S A s.heap H1 locs1 → W p l e R s m args below meth c H1 locs1 (cells + mc) (slots + ms) Q (F0 m (pc + 3) ls (rest))) : W p l e R s m args below meth c H locs cells slots Q (F0 m pc ls st) := by
  have hFc := va_free hD hS hA isC hC
  refine vx_callv hr hS (fun q _ h => hFc q h) hFc (fun q _ h => hFc q h) (fun E ce q9 u t H1 locs1 ht hvm hw hB hz1 hk1 hS1 g1 g2 g3 => ?_) (fun u t H1 locs1 ht hvm hw hB hz1 hk1 hS1 => ?_)
  · obtain ⟨k, u⟩ := u
    obtain ⟨rfl, hB⟩ := hB
    obtain ⟨hP2, hD2⟩ := sw_back hP hD hS hA isC isR pm hC hR hn hdis hpm hpn ht hB hk1
    exact kx k u ce q9 H1 locs1 hw hP2 hD2 hS1 g1 g2 g3
  · obtain ⟨hP2, hD2⟩ := sw_back hP hD hS hA isC isR pm hC hR hn hdis hpm hpn ht hB hk1
    exact kk u H1 locs1 hw hP2 hD2 hS1
theorem sw_xout {px : Nat × S → Prop} {k : Nat} {ce : Cell} {q9 : Addr} (hout : ∀ (pc : Nat), ∀ x ∈ c.exceptionTable.toList, covers x pc = false) (hlocks : meth.locks = false) (hS : va_S A s.heap H locs) (u : S) (hw : px (k, u)) (hP : va_P G vwCl (cs u) H) (hD : va_D A (cs u)) (g1 : H[q9]? = some ce) (g2 : ce.vm = .none) (g3 : s.vm.findClass (sw_ex k) = some ce.cls) (hc : cells ≤ mc) (hs : slots ≤ ms) :
    vx_W p l e R s m args below meth c H locs cells slots (vx_MQ below Qc (vx_X px (sw_XP G A cs) A) args s mc ms A) (F0 m pc ls rest) q9 :=
  vx_out (hout pc) hlocks g1 g2 g3 (fun t ht _ => ⟨(k, u), hw, ⟨rfl, by rw [ht]; exact hP, hD⟩, hS.F ht⟩) hS.2.2 hc hs
theorem sw_thrI {px : Nat × S → Prop} (hfl : l.stackTraces = false) (Cx : sw_Cx p s m args c cc nL RX10 G ca Z A) (hout : ∀ (pc : Nat), ∀ x ∈ c.exceptionTable.toList, covers x pc = false) (hlocks : meth.locks = false) (hS : va_S A s.heap H locs) (hls : ls.size = nL) (u : S) (hw : px (1, u)) (hP : va_P G vwCl (cs u) H) (hD : va_D A (cs u))
    (d0 : decode cc pc = .ok (.new 349, 3)) (d3 : decode cc (pc + 3) = .ok (.dup, 1)) (d4 : decode cc (pc + 4) = .ok (.invokespecial 351, 3)) (d7 : decode cc (pc + 7) = .ok (.athrow, 1))
    (hRf : 5 < R.frames) (hRl : (rest.map fun v => v.category).sum + 81 ≤ R.locals) (hRc : cells + 1 ≤ R.cells) (hRs : slots + 6 ≤ R.slots) (hc : cells + 1 ≤ mc) (hs : slots + 6 ≤ ms) :
    W p l e R s m args below meth c H locs cells slots (vx_MQ below Qc (vx_X px (sw_XP G A cs) A) args s mc ms A) (F0 m pc ls rest) := by
  obtain ⟨⟨hx, hb, hml, hown, htU⟩, hK, hX, hY, hA⟩ := Cx
  obtain ⟨-, -, -, -, -, -, -, -, -, x1, x2⟩ := hX
  refine vx_throw0 (names := sw_ns) hx hb hfl hown (by decide +kernel) sw_fit (htU _ cl_X10_349) (htU _ ini_java_lang_IllegalArgumentException) (sw_hat sw_atI htU hY.2.2.2.2.1) sw_goI x1 x2 hS (hls.trans hml.symm) d0 d3 d4 d7 (hout _) hRf hRl hRc hRs hlocks (fun t hv h1 h2 => ?_) hS.2.2 hc hs
  have hz : H.size ≤ t.heap.size := h1
  refine ⟨(1, u), hw, ⟨rfl, ?_, hD⟩, ?_⟩
  · exact fun k q hq => va_at.kept (hP k q hq) (h2 _ (va_at.lt (hP k q hq)))
  · exact ⟨Nat.le_trans hS.1 h1, fun q q1 q2 => by rw [h2 q (Nat.lt_of_lt_of_le q1 hS.1)]; exact hS.2.1 q q1 q2⟩
theorem sw_thrN {px : Nat × S → Prop} (hfl : l.stackTraces = false) (Cx : sw_Cx p s m args c cc nL RX10 G ca Z A) (hout : ∀ (pc : Nat), ∀ x ∈ c.exceptionTable.toList, covers x pc = false) (hlocks : meth.locks = false) (hS : va_S A s.heap H locs) (hls : ls.size = nL) (u : S) (hw : px (2, u)) (hP : va_P G vwCl (cs u) H) (hD : va_D A (cs u))
    (d0 : decode cc pc = .ok (.new 210, 3)) (d3 : decode cc (pc + 3) = .ok (.dup, 1)) (d4 : decode cc (pc + 4) = .ok (.invokespecial 212, 3)) (d7 : decode cc (pc + 7) = .ok (.athrow, 1))
    (hRf : 5 < R.frames) (hRl : (rest.map fun v => v.category).sum + 81 ≤ R.locals) (hRc : cells + 1 ≤ R.cells) (hRs : slots + 6 ≤ R.slots) (hc : cells + 1 ≤ mc) (hs : slots + 6 ≤ ms) :
    W p l e R s m args below meth c H locs cells slots (vx_MQ below Qc (vx_X px (sw_XP G A cs) A) args s mc ms A) (F0 m pc ls rest) := by
  obtain ⟨⟨hx, hb, hml, hown, htU⟩, hK, hX, hY, hA⟩ := Cx
  obtain ⟨-, -, -, -, -, -, -, -, -, x1, x2⟩ := hX
  refine vx_throw0 (names := sw_ns) hx hb hfl hown (by decide +kernel) sw_fit (htU _ cl_X10_210) (htU _ ini_java_util_NoSuchElementException) (sw_hat sw_atN htU hY.2.2.2.2.1) sw_goN x1 x2 hS (hls.trans hml.symm) d0 d3 d4 d7 (hout _) hRf hRl hRc hRs hlocks (fun t hv h1 h2 => ?_) hS.2.2 hc hs
  refine ⟨(2, u), hw, ⟨rfl, ?_, hD⟩, ?_⟩
  · exact fun k q hq => va_at.kept (hP k q hq) (h2 _ (va_at.lt (hP k q hq)))
  · exact ⟨Nat.le_trans hS.1 h1, fun q q1 q2 => by rw [h2 q (Nat.lt_of_lt_of_le q1 hS.1)]; exact hS.2.1 q q1 q2⟩
end SWX
