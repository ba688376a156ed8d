/-! ===== the law: the loop over its rounds ===== -/
section
variable {p : Program} {l : Launch} {e : Env} {s : State} {m : MethodId} {below : List Frame} {meth : Method} {c : Code} {Q : State → Prop} {G : va_G} {ca Z : Nat → Nat} {b L q : Nat} {xs : Nat → Int32} {a : Nat → Nat} 
  {P : PlanT} {Bf : PlanT} {Dr : PlanT} {Sn : PlanT} {hs : Bool} {t : HistT} {S : SieveT} {sc : SrcT} {rd : ReadT} {sr : ScrT} {sh : SheetT} {ac : (Nat → Int32)} {pe : Int32}
set_option maxHeartbeats 40000000 in
set_option maxRecDepth 100000 in
theorem lg_223 (C : lc63 p l s m meth c G ca Z b L xs) (hend : ∀ (H : Heap) (ls : Array Slot), W p l e room_1 s m #[.ref b] below meth c H [] 600086 7301442 Q (F0 m 490 ls [.int 1])) : ∀ (r k : Nat), k + r = 28 → ∀ (w ns kk : Nat) (R D : Nat → Nat) (P Bf : PlanT) (t : HistT) (S : SieveT) (ac : Nat → Int32) (c9 : Nat) (top : PlanT → Prop) (v : Nat) (H : Heap) (locs : List Loc) (ls : Array Slot) (cells slots : Nat), cells + 5 * r + 20 ≤ 600086 → slots + 500 * r + 2000 ≤ 7301442 → CY w ns R kk D P S → 1 + sm R ns ≤ 300 → HI t c9 top → P.2.2.2.2.2.2 = nI v → v + 200 * r + 1000 < 2 ^ 31 →
    va_P G vwCl (OW ca Z q a P Bf Dr Sn hs t S sc rd sr sh ac pe) H → va_D (lwA s) (OW ca Z q a P Bf Dr Sn hs t S sc rd sr sh ac pe) → va_S (lwA s) s.heap H locs → lv_has ls 12 [(7, .int (nI k)), (0, .ref b), (1, .ref q)] → W p l e room_1 s m #[.ref b] below meth c H locs cells slots Q (F0 m 223 ls []) := by
  obtain ⟨Cx, hXs, hbl, hL⟩ := id C
  obtain ⟨⟨hx, hb, hml, hown, htU⟩, hK, hX, hY, hA⟩ := id Cx
  intro r
  induction r with
  | zero =>
    intro k hk w ns kk R D P Bf t S ac c9 top v H locs ls cells slots h1 h2 hC h300 hH hv hvv hP hD hS hl
    obtain rfl : k = 28 := by omega
    refine lv_iload hx hb dL_law_223 (lv_at hl 0 rfl) ?_
    refine lv_bipush (v := 28) hx hb dL_law_225 (by decide) ?_
    refine lv_icmp_ge (tgt := 408) hx hb dL_law_227 (by decide) (fun _ => ?_) (fun z9 => absurd (show (28 : Int32) ≤ nI 28 by decide) z9)
    exact lf_408 C hend (by omega) (by omega) hC h300 hH hv (by omega) hP hD hS hl
  | succ r ih =>
    intro k hk w ns kk R D P Bf t S ac c9 top v H locs ls cells slots h1 h2 hC h300 hH hv hvv hP hD hS hl
    refine le_223 C (by omega) (by omega) (by omega) (by omega) hC h300 hH hv hP hD hS hl ?_
    intro w1 ns1 kk1 R1 D1 P1 Bf1 t1 S1 ac1 c1 top1 v1 H1 ls1 hC1 h3001 hH1 hv1 hv1b hP1 hD1 hS1 hl1
    exact ih (k + 1) (by omega) w1 ns1 kk1 R1 D1 P1 Bf1 t1 S1 ac1 c1 top1 v1 H1 [] ls1 (cells + 5) (slots + 500) (by omega) (by omega) hC1 h3001 hH1 hv1 (by omega) hP1 hD1 hS1 hl1
theorem la_go (C : lc63 p l s m meth c G ca Z b L xs) (hend : ∀ (H : Heap) (ls : Array Slot), W p l e room_1 s m #[.ref b] below meth c H [] 600086 7301442 Q (F0 m 490 ls [.int 1])) {ls : Array Slot} (hl : lv_has ls 12 [(0, .ref b)]) : W p l e room_1 s m #[.ref b] below meth c s.heap [] 0 0 Q (F0 m 0 ls []) :=
  la_0 C (fun q a w ns kk R D P Bf Dr Sn hs t S sc rd sr sh ac pe c9 top v H locs ls cells slots hcb hsb hC h300 hH hv hvb hP hD hS hl => lg_223 C hend 28 0 rfl w ns kk R D P Bf t S ac c9 top v H locs ls cells slots (by omega) (by omega) hC h300 hH hv (by omega) hP hD hS hl) hl
end
