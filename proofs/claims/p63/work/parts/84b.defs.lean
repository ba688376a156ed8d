/-! ===== the law: what its walk stands on ===== -/
def lc63 (p : Program) (l : Launch) (s : State) (m : MethodId) (meth : Method) (c : Code) (G : va_G) (ca Z : Nat → Nat) (b L : Nat) (xs : Nat → Int32) : Prop :=
  sw_Cx p s m #[.ref b] c cL_law 12 RL G ca Z (lwA s) ∧ va_X b L xs s s.heap ∧ b < s.heap.size ∧ L ≤ 260
/-- what a round leaves to the next -/
def kk63 (p : Program) (l : Launch) (e : Env) (s : State) (m : MethodId) (below : List Frame) (meth : Method) (c : Code) (G : va_G) (ca Z : Nat → Nat) (b q : Nat) (a : Nat → Nat) (k cells slots v : Nat) (Q : State → Prop) (Dr : PlanT) (Sn : PlanT) (hs : Bool) (sc : SrcT) (rd : ReadT) (sr : ScrT) (sh : SheetT) (pe : Int32) : Prop :=
  ∀ (w ns kk : Nat) (R D : Nat → Nat) (P Bf : PlanT) (t : HistT) (S : SieveT) (ac : Nat → Int32) (c9 : Nat) (top : PlanT → Prop) (v2 : Nat) (H : Heap) (ls : Array Slot), CY w ns R kk D P S → 1 + sm R ns ≤ 300 → HI t c9 top → P.2.2.2.2.2.2 = nI v2 → v2 ≤ v + 200 →
    va_P G vwCl (OW ca Z q a P Bf Dr Sn hs t S sc rd sr sh ac pe) H → va_D (lwA s) (OW ca Z q a P Bf Dr Sn hs t S sc rd sr sh ac pe) → va_S (lwA s) s.heap H [] → lv_has ls 12 [(7, .int (nI (k + 1))), (0, .ref b), (1, .ref q)] → W p l e room_1 s m #[.ref b] below meth c H [] (cells + 5) (slots + 500) Q (F0 m 223 ls [])
section
variable {p : Program} {l : Launch} {e : Env} {s : State} {m : MethodId} {below : List Frame} {meth : Method} {c : Code} {H : Heap} {locs : List Loc} {cells slots cells1 slots1 : Nat} {Q : State → Prop} {G : va_G} {ca Z : Nat → Nat} {b L q k v v1 c9 c2 w ns kk w1 ns1 k1 N1 N2 x1 x2 : Nat} {xs : Nat → Int32} {a : Nat → Nat} {ls : Array Slot} {R D R1 D1 : Nat → Nat} {top top2 : PlanT → Prop} {u : Int32} {g1 g2 : Nat → Int32}
  {P : PlanT} {Bf : PlanT} {Dr : PlanT} {Sn : PlanT} {hs : Bool} {t : HistT} {S : SieveT} {sc : SrcT} {rd : ReadT} {sr : ScrT} {sh : SheetT} {ac : (Nat → Int32)} {pe : Int32}
theorem sj_iremN (hx : p.tables.exec = Jvm.exec) {cc : ByteArray} {R : Room} {args : Array Value} {pc : Nat} {rest : List Value} (hb : c.code = cc) {x y v : Int32} (hdg : decode cc pc = .ok (.irem, 1)) (hne : ¬ y = 0) (hv : x - x / y * y = v) (k : W p l e R s m args below meth c H locs cells slots Q (F0 m (pc + 1) ls (.int v :: rest))) : W p l e R s m args below meth c H locs cells slots Q (F0 m pc ls (.int y :: .int x :: rest)) := by subst hv; exact lv_irem hx hb hdg hne k
theorem lx_kept {U : State} (hXs : va_X b L xs s s.heap) (hbl : b < s.heap.size) (hS : va_S (lwA s) s.heap H locs) (hU : U.heap = H) (hW : s.WarmedH U.vm) : sx_X b L xs U := by
  have e : H[b]? = s.heap[b]? := hS.2.1 b hbl (show ¬ s.heap.size ≤ b from by omega)
  refine ⟨?_, ?_⟩
  · rw [hU]
    exact (hXs.kept e).moved hW.alike
  · rw [hU]
    exact Nat.lt_of_lt_of_le hbl hS.1
end
