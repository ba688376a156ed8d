/-! ===== the law: its start ===== -/
theorem lw_rng {w0 : va_W} {x : Nat × va_E} : (List.range w0.length).map (fun i => (w0 ++ [x])[i]?) = w0.map some := by
  refine List.ext_getElem? fun i => ?_
  rw [List.getElem?_map, List.getElem?_map]
  by_cases h : i < w0.length
  · rw [List.getElem?_range h]
    show some ((w0 ++ [x])[i]?) = _
    rw [List.getElem?_append_left h, List.getElem?_eq_getElem h]
    rfl
  · rw [List.getElem?_eq_none (by rw [List.length_range]; omega), List.getElem?_eq_none (by omega)]
    rfl
section
variable {p : Program} {l : Launch} {e : Env} {R : Room} {s : State} {m : MethodId} {args : Array Value} {below : List Frame} {meth : Method} {c : Code} {H : Heap} {locs : List Loc} {cells slots : Nat} {Q : State → Prop}
  {mc ms pc : Nat} {G : va_G} {A : Nat → Prop} {rest st : List Value} {S : Type} {cs : S → va_W} {ls : Array Slot} {a : Array Value}
/-- a constructor's cells put behind the others -/
theorem lw_lastv {post : S → Prop} {w0 : va_W} {x : Nat × va_E} {n : Nat} (hr : va_Run p l e R s m args below meth c H locs cells slots mc ms (F0 m pc ls st) rest (va_Qv post (sw_Post G (va_A [x] H.size) cs) (va_A [x] H.size) a) (va_A [x] H.size))
    (hP : va_P G vwCl (w0 ++ [x]) H) (hD : va_D A (w0 ++ [x])) (hS : va_S A s.heap H locs) (hA : ∀ q : Nat, s.heap.size ≤ q → A q) (hn : w0.length = n) (hnd : va_nd (List.range n) = true)
    (kk : ∀ (u : S) (H1 : Heap) (locs1 : List Loc), post u → va_P G vwCl (w0 ++ cs u) H1 → va_D A (w0 ++ cs u) → va_S A s.heap H1 locs1 → W p l e R s m args below meth c H1 locs1 (cells + mc) (slots + ms) Q (F0 m (pc + 3) ls rest)) : W p l e R s m args below meth c H locs cells slots Q (F0 m pc ls st) := by
  have hC : [w0.length].map (fun i => (w0 ++ [x])[i]?) = [x].map some := by simp
  have hFc := va_free hD hS hA [w0.length] hC
  refine va_callv hr hS (fun q _ h => hFc q h) hFc (fun u t H1 locs1 ht hvm hw hB hz1 hk1 hS1 => ?_)
  obtain ⟨hP1, hD1⟩ := hB
  rw [ht] at hP1
  obtain ⟨hP2, hD2⟩ := va_join (wr := w0) (w1 := cs u) hP hD [w0.length] (List.range w0.length) hC lw_rng (by rw [hn]; exact hnd) (fun i hi => by simp at hi ⊢; omega) hk1 hFc hP1 hD1
  exact kk u H1 locs1 hw hP2 hD2 hS1
end
abbrev ZPl : PlanT := (0, 0, (fun _ => 0), 1, 0, (fun _ => 0), 0)
/-- the first plan on both sides -/
theorem lw_first {P w1 w2 : PlanT} (h1 : F_X3_beginWith 1 (0, 0, (fun _ => 0), 1, 0, (fun _ => 0), 0) = some w1) (h2 : F_X3_appendStretch 29 w1 = some w2) (h3 : F_X3_appendStriker 3 w2 = some P) :
    ∃ v, v ≤ 10 ∧ RLX v P ZPl false ((fun _ => ZPl), 0, 0) ((fun _ => 0), (fun _ => 0), 1, 0, 0, -1) ((fun _ => 0), 0, 0, 0, 0, 0, 0) ((fun _ => 0), 0) (upd (upd (upd (upd (upd (fun _ => 0) 0 1) 1 1) 2 29) 14 1) 15 3) (fun _ => 0) (fun _ => 0) 0 (fun _ => 0) 0 (fun _ => 0) 0 := by
  have e1 : F_X3_beginWith 1 (0, 0, (fun _ => 0), 1, 0, (fun _ => 0), 0) = some (1, 0, (fun _ => 0), 1, 0, (fun _ => 0), 1) := by rfl
  obtain rfl := Option.some.inj (h1.symm.trans e1)
  have e2 : F_X3_appendStretch 29 (1, 0, (fun _ => 0), 1, 0, (fun _ => 0), 1) = some (1, 1, upd (fun _ => 0) 0 29, 30, 0, (fun _ => 0), 2) := by rfl
  obtain rfl := Option.some.inj (h2.symm.trans e2)
  have e3 : F_X3_appendStriker 3 (1, 1, upd (fun _ => 0) 0 29, 30, 0, (fun _ => 0), 2) = some (1, 1, upd (fun _ => 0) 0 29, 30, 1, upd (fun _ => 0) 0 3, 3) := by rfl
  obtain rfl := Option.some.inj (h3.symm.trans e3)
  have z : ∀ i, i < 1 → i = 0 := fun i hi => by omega
  refine ⟨3, by decide, ⟨1, 1, fun _ => 29, 1, fun _ => 3, ⟨by decide, by decide, fun i _ => ⟨(by decide : 1 ≤ 29), (by decide : 29 ≤ 400)⟩, by decide, fun i _ => ⟨(by decide : 2 ≤ 3), (by decide : 3 ≤ 120)⟩, fun i j hi hj _ => by omega⟩, ⟨by decide, by decide, fun i hi => ?_, by decide, by decide, fun i hi => ?_⟩, ⟨by decide, by decide, fun i hi => ?_, by decide, fun i hi => ?_⟩, Or.inl (by decide), fun h => absurd h (by decide)⟩, by decide,
    ⟨0, 0, by decide, by decide, by decide, by decide, by decide, fun i hi => absurd hi (Nat.not_lt_zero _)⟩, (fun h => Bool.noConfusion h), ⟨fun _ => 0, 0, ⟨Nat.zero_le _, fun i hi => absurd hi (Nat.not_lt_zero _)⟩, by decide, by decide⟩, ⟨0, Nat.zero_le _, by decide, by decide, fun i hi => absurd hi (Nat.not_lt_zero _)⟩⟩
  · rw [z i hi]; decide
  · rw [z i hi]; decide
  · rw [z i hi]; decide
  · rw [z i hi]; decide
section
variable {p : Program} {l : Launch} {e : Env} {s : State} {m : MethodId} {below : List Frame} {meth : Method} {c : Code} {Q : State → Prop} {G : va_G} {ca Z : Nat → Nat} {b L : Nat} {xs : Nat → Int32} {ls : Array Slot}
set_option maxHeartbeats 4000000 in
set_option maxRecDepth 100000 in
theorem lw_go (C : lwC p l s m meth c G ca Z b L xs) (KE : ∀ (H : Heap) (ls : Array Slot), va_S (lwA s) s.heap H [] → W p l e room_1 s m #[.ref b] below meth c H [] 601024 7293033 Q (F0 m 2553 ls []))
    (hl : lv_has ls 9 [(0, .ref b)]) : W p l e room_1 s m #[.ref b] below meth c s.heap [] 0 0 Q (F0 m 0 ls []) := by
  obtain ⟨⟨⟨hx, hb, hml, hown, htU⟩, hK, hX, hY, hA⟩, hXs, hbl, hL, hfl⟩ := id C
  have Cx := C.1
  have hP : va_P G vwCl [] s.heap := fun k q h => by simp at h
  have hD : va_D (lwA s) [] := ⟨fun i j p q h => by simp at h, fun k q h => by simp at h⟩
  have hS : va_S (lwA s) s.heap s.heap [] := va_S.rf
  refine va_new (ci := 7) (fs := [.null, .null, .null, .null, .int 0, .null, .null, .null, .null, .null, .null, .null, .int 0]) (C := RX10) (T := TX10) (N := 13) hx hb htU iU_X10 tyX10 tyX10_ok hown (htU _ cl_L_8) (htU _ ins_X10) (htU _ ini_X10) hK hP hD hS hA rfl (fun j hj => by rcases (show j = 0 ∨ j = 1 ∨ j = 2 ∨ j = 3 ∨ j = 4 ∨ j = 5 ∨ j = 6 ∨ j = 7 ∨ j = 8 ∨ j = 9 ∨ j = 10 ∨ j = 11 ∨ j = 12 by omega) with rfl | rfl | rfl | rfl | rfl | rfl | rfl | rfl | rfl | rfl | rfl | rfl | rfl <;> rfl) (Nat.le_of_ble_eq_true rfl) (Nat.le_of_ble_eq_true rfl) dL_law_0 (fun q1 H hP hD hS => ?_)
  refine lv_dup hx hb dL_law_3 rfl ?_
  refine lw_lastv (w0 := []) (n := 0) (sw_runI (As := []) (rest := [.ref q1]) Cx hP hD hS co_X10_init ini_X10 im_X10_init ml_L_90 rfl (c_X10_init l G ca Z q1 H.size) ⟨by decide, by decide, (by decide +kernel : Option.map (fun d => d.parameters.length) (parseMethodDescriptor yX10_init.desc) = some 0)⟩ [0] rfl rfl rfl rfl ⟨(Nat.le_of_ble_eq_true rfl), (Nat.le_of_ble_eq_true rfl)⟩ hl.1 rfl rfl (Nat.le_of_ble_eq_true rfl) dL_law_4 ⟨(Nat.le_of_ble_eq_true rfl), (Nat.le_of_ble_eq_true rfl)⟩) hP hD hS hA rfl (by decide) (fun u1 H locs hw1 hP hD hS => ?_)
  refine lv_astore_n (lv' := [(1, .ref q1), (0, .ref b)]) hx hb dL_law_7 rfl hl (by decide) rfl (fun ls hl => ?_)
  refine va_new (ci := 8) (fs := [.null, .null, .null, .null, .null, .null, .null, .null, .int 0, .int 0, .int 0, .null, .null, .int 0, .null, .null, .int 0, .null, .int 0, .int 0, .int 0, .int 0, .int 0, .int 0, .int 0, .int 0, .int 0, .null, .null, .int 0]) (C := RX11) (T := TX11) (N := 30) hx hb htU iU_X11 tyX11 tyX11_ok hown (htU _ cl_L_91) (htU _ ins_X11) (htU _ ini_X11) hK hP hD hS hA rfl (fun j hj => by rcases (show j = 0 ∨ j = 1 ∨ j = 2 ∨ j = 3 ∨ j = 4 ∨ j = 5 ∨ j = 6 ∨ j = 7 ∨ j = 8 ∨ j = 9 ∨ j = 10 ∨ j = 11 ∨ j = 12 ∨ j = 13 ∨ j = 14 ∨ j = 15 ∨ j = 16 ∨ j = 17 ∨ j = 18 ∨ j = 19 ∨ j = 20 ∨ j = 21 ∨ j = 22 ∨ j = 23 ∨ j = 24 ∨ j = 25 ∨ j = 26 ∨ j = 27 ∨ j = 28 ∨ j = 29 by omega) with rfl | rfl | rfl | rfl | rfl | rfl | rfl | rfl | rfl | rfl | rfl | rfl | rfl | rfl | rfl | rfl | rfl | rfl | rfl | rfl | rfl | rfl | rfl | rfl | rfl | rfl | rfl | rfl | rfl | rfl <;> rfl) (Nat.le_of_ble_eq_true rfl) (Nat.le_of_ble_eq_true rfl) dL_law_8 (fun q2 H hP hD hS => ?_)
  refine lv_dup hx hb dL_law_11 rfl ?_
  refine lw_lastv (n := 52) (sw_runI (As := []) (rest := [.ref q2]) Cx hP hD hS co_X11_init ini_X11 im_X11_init ml_L_93 rfl (c_X11_init l G ca Z q2 H.size) ⟨by decide, by decide, (by decide +kernel : Option.map (fun d => d.parameters.length) (parseMethodDescriptor yX11_init.desc) = some 0)⟩ [52] rfl rfl rfl rfl ⟨(Nat.le_of_ble_eq_true rfl), (Nat.le_of_ble_eq_true rfl)⟩ hl.1 rfl rfl (Nat.le_of_ble_eq_true rfl) dL_law_12 ⟨(Nat.le_of_ble_eq_true rfl), (Nat.le_of_ble_eq_true rfl)⟩) hP hD hS hA rfl (by decide +kernel) (fun u2 H locs hw2 hP hD hS => ?_)
  refine lv_astore_n (lv' := [(2, .ref q2), (1, .ref q1), (0, .ref b)]) hx hb dL_law_15 rfl hl (by decide) rfl (fun ls hl => ?_)
  refine lv_iconst (v := 1) hx hb dL_law_16 (by decide) ?_
  refine sw_newl hx hb htU hK hP hD hS hA (by decide) (by decide : (1 : Int32).toNatClampNeg = 1) (Nat.le_of_ble_eq_true rfl) (Nat.le_of_ble_eq_true rfl) (Nat.le_of_ble_eq_true rfl) dL_law_17 (fun qo H hP hD hS => ?_)
  refine lv_astore_n (lv' := [(3, .ref qo), (2, .ref q2), (1, .ref q1), (0, .ref b)]) hx hb dL_law_19 rfl hl (by decide) rfl (fun ls hl => ?_)
  refine lv_iconst (v := nI 0) hx hb dL_law_20 (by decide) ?_
  refine lv_istore (lv' := [(4, .int (nI 0)), (3, .ref qo), (2, .ref q2), (1, .ref q1), (0, .ref b)]) hx hb dL_law_21 hl (by decide) rfl (fun ls hl => ?_)
  obtain ⟨w1, w2, g1, g2, g3⟩ := hw1
  obtain ⟨v, hv, hRL⟩ := lw_first g1 g2 g3
  refine va_forget hS.2.2 ?_
  have e13 : vp_cell (ca 3) (8, .inr (.inr (.inr (.inr (va_up (va_up (va_up (va_up (va_up (va_up (va_up (va_up (fun _ => none) 0 (some (u1.1 14))) 1 (some (u1.1 17))) 2 (some (u1.1 20))) 3 (some (u1.1 23))) 4 (some (u1.1 26))) 5 (some (u1.1 29))) 6 (some (u1.1 32))) 7 (some (u1.1 35))))))) = vp_cell (ca 3) (8, .inr (.inr (.inr (.inr (fun j => some (u1.1 (14 + 3 * j))))))) := by rfl
  have e59 : vp_cell (ca 0) (4, .inl (upd (upd (upd (upd (fun _ => 0) 0 2) 1 3) 2 5) 3 7)) = vp_cell (ca 0) (4, .inl sw_p4) := by rfl
  have e66 : vp_cell (ca 5) (8, .inr (.inr (.inr (.inr (va_up (va_up (va_up (va_up (va_up (va_up (va_up (va_up (fun _ => none) 0 (some (Z (20 + 3)))) 1 (some (Z (20 + 4)))) 2 (some (Z (20 + 5)))) 3 (some (Z (20 + 6)))) 4 (some (Z (20 + 7)))) 5 (some (Z (20 + 8)))) 6 (some (Z (20 + 9)))) 7 (some (Z (20 + 10)))))))) = vp_cell (ca 5) (8, .inr (.inr (.inr (.inr (fun j => some (Z (20 + (3 + j)))))))) := by rfl
  have h13 : va_at G vwCl (u1.1 13, .inl (ca 3, 8, .inr (.inr (.inr (.inr (fun j => some (u1.1 (14 + 3 * j)))))))) H := (show H[u1.1 13]? = some (vp_cell (ca 3) (8, .inr (.inr (.inr (.inr (va_up (va_up (va_up (va_up (va_up (va_up (va_up (va_up (fun _ => none) 0 (some (u1.1 14))) 1 (some (u1.1 17))) 2 (some (u1.1 20))) 3 (some (u1.1 23))) 4 (some (u1.1 26))) 5 (some (u1.1 29))) 6 (some (u1.1 32))) 7 (some (u1.1 35)))))))) from hP 14 _ rfl).trans (congrArg some e13)
  have h59 : va_at G vwCl (u2 6, .inl (ca 0, 4, .inl sw_p4)) H := (show H[u2 6]? = some (vp_cell (ca 0) (4, .inl (upd (upd (upd (upd (fun _ => 0) 0 2) 1 3) 2 5) 3 7))) from hP 59 _ rfl).trans (congrArg some e59)
  have h66 : va_at G vwCl (u2 13, .inl (ca 5, 8, .inr (.inr (.inr (.inr (fun j => some (Z (20 + (3 + j))))))))) H := (show H[u2 13]? = some (vp_cell (ca 5) (8, .inr (.inr (.inr (.inr (va_up (va_up (va_up (va_up (va_up (va_up (va_up (va_up (fun _ => none) 0 (some (Z (20 + 3)))) 1 (some (Z (20 + 4)))) 2 (some (Z (20 + 5)))) 3 (some (Z (20 + 6)))) 4 (some (Z (20 + 7)))) 5 (some (Z (20 + 8)))) 6 (some (Z (20 + 9)))) 7 (some (Z (20 + 10))))))))) from hP 66 _ rfl).trans (congrArg some e66)
  have hP := hP.set (p := 14) hD rfl h13 (fun _ _ => rfl)
  have hD := hD.set (p := 14) (e := .inl (ca 3, 8, .inr (.inr (.inr (.inr (fun j => some (u1.1 (14 + 3 * j)))))))) rfl
  have hP := hP.set (p := 59) hD rfl h59 (fun _ _ => rfl)
  have hD := hD.set (p := 59) (e := .inl (ca 0, 4, .inl sw_p4)) rfl
  have hP := hP.set (p := 66) hD rfl h66 (fun _ _ => rfl)
  have hD := hD.set (p := 66) (e := .inl (ca 5, 8, .inr (.inr (.inr (.inr (fun j => some (Z (20 + (3 + j))))))))) rfl
  have hP : va_P G vwCl (LW ca Z q1 u1.1 q2 u2 qo u1.2 ZPl ZPl ZPl false ((fun _ => ZPl), 0, 0) ((fun _ => 0), (fun _ => 0), 1, 0, 0, -1) ((fun _ => 0), 0, 0, 0, 0, 0, 0) (0, -1, 0) ((fun _ => none), (fun _ => 0), (fun _ => 0), 0) ((fun _ => 0), 0) (fun _ => 0) (-1) (upd (upd (upd (upd (upd (fun _ => 0) 0 1) 1 1) 2 29) 14 1) 15 3) (fun _ => 0) (fun _ => 0) (fun _ => 0) (fun _ => 0) (fun _ => 0) 0 0 false (fun _ => 0) (fun _ => 0) 0 (fun _ => 0) (fun _ => 0) 0 (fun _ => 0) 0 0 0 0 0 0 0 (-1) 0 (fun _ => 0) 0 (fun _ => 0)) H := hP
  have hD : va_D (lwA s) (LW ca Z q1 u1.1 q2 u2 qo u1.2 ZPl ZPl ZPl false ((fun _ => ZPl), 0, 0) ((fun _ => 0), (fun _ => 0), 1, 0, 0, -1) ((fun _ => 0), 0, 0, 0, 0, 0, 0) (0, -1, 0) ((fun _ => none), (fun _ => 0), (fun _ => 0), 0) ((fun _ => 0), 0) (fun _ => 0) (-1) (upd (upd (upd (upd (upd (fun _ => 0) 0 1) 1 1) 2 29) 14 1) 15 3) (fun _ => 0) (fun _ => 0) (fun _ => 0) (fun _ => 0) (fun _ => 0) 0 0 false (fun _ => 0) (fun _ => 0) 0 (fun _ => 0) (fun _ => 0) 0 (fun _ => 0) 0 0 0 0 0 0 0 (-1) 0 (fun _ => 0) 0 (fun _ => 0)) := hD
  exact lw_loop C KE 512 0 v _ _ u1.2 ZPl ZPl ZPl false ((fun _ => ZPl), 0, 0) ((fun _ => 0), (fun _ => 0), 1, 0, 0, -1) ((fun _ => 0), 0, 0, 0, 0, 0, 0) (0, -1, 0) ((fun _ => none), (fun _ => 0), (fun _ => 0), 0) ((fun _ => 0), 0) (fun _ => 0) (-1) (upd (upd (upd (upd (upd (fun _ => 0) 0 1) 1 1) 2 29) 14 1) 15 3) (fun _ => 0) (fun _ => 0) (fun _ => 0) (fun _ => 0) 0 0 (fun _ => 0) (fun _ => 0) 0 (fun _ => 0) (fun _ => 0) 0 (fun _ => 0) 0 0 0 0 0 0 0 0 (fun _ => 0) 0 (fun _ => 0) H ls (by omega) (by omega) (by omega) (by omega) (by omega) hRL hP hD (va_forg hS) (lv_sub hl [4, 3, 2, 1, 0] rfl)
end
