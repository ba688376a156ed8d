/-! ===== all(o): what it holds, and its walk ===== -/
def av (w ns : Nat) (R : Nat → Nat) (k : Nat) (D : Nat → Nat) (j : Nat) : Int32 :=
  if j < 10 then nI (zs w ns R k D j)
  else if j < 10 + 2 * ns then (if j % 2 = 0 then nI (1 + sm R ((j - 10) / 2 + 1)) else nI (cn (mk w k D) (2 + sm R ((j - 10) / 2)) (R ((j - 10) / 2))))
  else (if j % 2 = 0 then nI (D ((j - 10 - 2 * ns) / 2)) else nI (cn (own w k D ((j - 10 - 2 * ns) / 2)) 2 (sm R ns)))
theorem av_0 {w ns k j : Nat} {R D : Nat → Nat} (h : j < 10) : av w ns R k D j = nI (zs w ns R k D j) := if_pos h
theorem av_1 {w ns k i : Nat} {R D : Nat → Nat} (h : i < ns) : av w ns R k D (10 + 2 * i) = nI (1 + sm R (i + 1)) := by
  unfold av
  rw [if_neg (by omega), if_pos (by omega), if_pos (by omega), show (10 + 2 * i - 10) / 2 = i by omega]
theorem av_2 {w ns k i : Nat} {R D : Nat → Nat} (h : i < ns) : av w ns R k D (10 + 2 * i + 1) = nI (cn (mk w k D) (2 + sm R i) (R i)) := by
  unfold av
  rw [if_neg (by omega), if_pos (by omega), if_neg (by omega), show (10 + 2 * i + 1 - 10) / 2 = i by omega]
theorem av_3 {w ns k i : Nat} {R D : Nat → Nat} : av w ns R k D (10 + 2 * ns + 2 * i) = nI (D i) := by
  unfold av
  rw [if_neg (by omega), if_neg (by omega), if_pos (by omega), show (10 + 2 * ns + 2 * i - 10 - 2 * ns) / 2 = i by omega]
theorem av_4 {w ns k i : Nat} {R D : Nat → Nat} : av w ns R k D (10 + 2 * ns + 2 * i + 1) = nI (cn (own w k D i) 2 (sm R ns)) := by
  unfold av
  rw [if_neg (by omega), if_neg (by omega), if_neg (by omega), show (10 + 2 * ns + 2 * i + 1 - 10 - 2 * ns) / 2 = i by omega]
theorem al_up {f g : Nat → Int32} {a : Nat} {v : Int32} (h : ∀ j, j < a → g j = f j) (hv : v = f a) : ∀ j, j < a + 1 → upd g a v j = f j := by
  intro j hj
  unfold upd
  by_cases c : j = a
  · rw [if_pos c, hv, c]
  · rw [if_neg c]
    exact h j (by omega)
abbrev AW (ca : Nat → Nat) (q p pd pr sv so sc : Nat) (zb zd zs9 zh zt zc zr zi ze za zp : Value) (P : PlanT) (S : SieveT) : va_W := [(q, .inr (7, [.ref p, zb, zd, zs9, zh, zt, .ref sv, zc, zr, zi, ze, za, zp])), (p, .inr (1, [.int P.1, .int P.2.1, .ref pr, .int P.2.2.2.1, .int P.2.2.2.2.1, .ref pd, .int P.2.2.2.2.2.2])), (pd, .inl (ca 0, 30, .inl P.2.2.2.2.2.1)), (pr, .inl (ca 0, 12, .inl P.2.2.1)), (sv, .inr (5, [.ref so, .ref sc, .int S.2.2.1, .int S.2.2.2.1, .int S.2.2.2.2.1, .int S.2.2.2.2.2])), (sc, .inl (ca 0, 4802, .inl S.2.1)), (so, .inl (ca 0, 4802, .inl S.1))]
abbrev AX (ca : Nat → Nat) (q p pd pr sv so sc : Nat) (zb zd zs9 zh zt zc zr zi ze za zp : Value) (P : PlanT) (S : SieveT) (x N : Nat) (g : Nat → Int32) : va_W := [(q, .inr (7, [.ref p, zb, zd, zs9, zh, zt, .ref sv, zc, zr, zi, ze, za, zp])), (p, .inr (1, [.int P.1, .int P.2.1, .ref pr, .int P.2.2.2.1, .int P.2.2.2.2.1, .ref pd, .int P.2.2.2.2.2.2])), (pd, .inl (ca 0, 30, .inl P.2.2.2.2.2.1)), (pr, .inl (ca 0, 12, .inl P.2.2.1)), (sv, .inr (5, [.ref so, .ref sc, .int S.2.2.1, .int S.2.2.2.1, .int S.2.2.2.2.1, .int S.2.2.2.2.2])), (sc, .inl (ca 0, 4802, .inl S.2.1)), (so, .inl (ca 0, 4802, .inl S.1)), (x, .inl (ca 0, N, .inl g))]
abbrev RM_L_all : Room := ({ frames := 5, cells := 1, slots := 100, locals := 111 } : Room)
set_option maxHeartbeats 8000000 in
set_option maxRecDepth 100000 in
theorem c_L_all (l : Launch) (G : va_G) (ca Z : Nat → Nat) (q p pd pr sv so sc : Nat) (zb zd zs9 zh zt zc zr zi ze za zp : Value) (sz : Nat) (w0 ns k : Nat) (R D : Nat → Nat) (P : PlanT) (S : SieveT) (hC : CY w0 ns R k D P S) (N9 : Nat) (hN9 : N9 = 10 + 2 * ns + 2 * k) : Met l yL_all (.code yL_all cL_all 5 (Option.some (Jvm.ClassFile.FieldType.array Jvm.ClassFile.FieldType.int)) :: sw_U) RM_L_all (va_Pc [.ref q] (sw_Pre G ca Z (AW ca q p pd pr sv so sc zb zd zs9 zh zt zc zr zi ze za zp P S) sz)) ((fun A => va_Qr (fun (u : Nat × SieveT × (Nat → Int32)) => CY w0 ns R k D P u.2.1 ∧ ∀ j, j < N9 → u.2.2 j = av w0 ns R k D j) (fun (u : Nat × SieveT × (Nat → Int32)) q9 t9 => q9 = (fun u : Nat × SieveT × (Nat → Int32) => u.1) u ∧ sw_Post G A (fun (u : Nat × SieveT × (Nat → Int32)) => AX ca q p pd pr sv so sc zb zd zs9 zh zt zc zr zi ze za zp P u.2.1 u.1 N9 u.2.2) u t9) A) (va_A (AW ca q p pd pr sv so sc zb zd zs9 zh zt zc zr zi ze za zp P S) sz)) 1 100 (va_A (AW ca q p pd pr sv so sc zb zd zs9 zh zt zc zr zi ze za zp P S) sz) := by
  have hw12 := hC.1.2.1
  have hw30 := hC.1.2.2.2.1
  refine sw_ofW (Qc := fun A => va_Qr (fun (u : Nat × SieveT × (Nat → Int32)) => CY w0 ns R k D P u.2.1 ∧ ∀ j, j < N9 → u.2.2 j = av w0 ns R k D j) (fun (u : Nat × SieveT × (Nat → Int32)) q9 t9 => q9 = (fun u : Nat × SieveT × (Nat → Int32) => u.1) u ∧ sw_Post G A (fun (u : Nat × SieveT × (Nat → Int32)) => AX ca q p pd pr sv so sc zb zd zs9 zh zt zc zr zi ze za zp P u.2.1 u.1 N9 u.2.2) u t9) A) (by decide +kernel) [(0, .ref q)] rfl (Nat.le_of_ble_eq_true rfl) ?_
  intro p9 e s m9 args below meth c ls A hx hb hr hml hown htU hlocks hin hP hK hD hX hY hS hA hl
  have hown : s.vm.findClass RL = some m9.cls := hown
  have Cx : sw_Cx p9 s m9 args c cL_all 5 RL G ca Z A := ⟨⟨hx, hb, hml, hown, htU⟩, hK, hX, hY, hA⟩
  have hP : va_P G vwCl (AW ca q p pd pr sv so sc zb zd zs9 zh zt zc zr zi ze za zp P S) s.heap := hP
  have hD : va_D A (AW ca q p pd pr sv so sc zb zd zs9 zh zt zc zr zi ze za zp P S) := hD
  refine lv_aload_n hx hb dL_all_0 rfl (lv_at hl 0 rfl) ?_
  refine lv_iconst (v := 3) hx hb dL_all_1 (by decide) ?_
  obtain ⟨S1, hF1, hC⟩ := V_size hC (n := 3) (by decide)
  refine sw_ci (sw_runV (As := [.int 3]) (rest := []) Cx hP hD hS mv_X10_size ml_L_30 (cq_X10_size l G ca Z q p pd sv sc so (zb) (zd) (zs9) (zh) (zt) (zc) (zr) (zi) (ze) (za) (zp) (.ref pr) s.heap.size 3 P S (.inr (nI k), S1) hF1 (nI k) rfl) 7 rfl rfl rfl [0, 1, 2, 4, 5, 6] rfl rfl rfl rfl ⟨(Nat.le_of_ble_eq_true rfl), (Nat.le_of_ble_eq_true rfl)⟩ hl.1 rfl rfl (Nat.le_of_ble_eq_true rfl) dL_all_2 ⟨(Nat.le_of_ble_eq_true rfl), (Nat.le_of_ble_eq_true rfl)⟩) hP hD hS hA [0, 1, 2, 4, 5, 6] [3] [1, 2, 3, 0, 4, 5, 6] rfl rfl rfl (by decide) (fun _ => rfl) rfl (fun r u H locs hw hP hD hS => ?_)
  obtain ⟨rfl, rfl⟩ := hw
  have hP : va_P G vwCl (AW ca q p pd pr sv so sc zb zd zs9 zh zt zc zr zi ze za zp P S1) H := hP
  have hD : va_D A (AW ca q p pd pr sv so sc zb zd zs9 zh zt zc zr zi ze za zp P S1) := hD
  refine lv_istore_n (lv' := [(1, .int (nI k)), (0, .ref q)]) hx hb dL_all_5 rfl hl (by decide) rfl (fun ls hl => ?_)
  refine lv_bipush (v := 10) hx hb dL_all_6 (by decide) ?_
  refine lv_iconst (v := 2) hx hb dL_all_8 (by decide) ?_
  refine lv_aload_n hx hb dL_all_9 rfl (lv_at hl 1 rfl) ?_
  refine lv_iconst (v := 1) hx hb dL_all_10 (by decide) ?_
  obtain ⟨S2, hF2, hC⟩ := V_size hC (n := 1) (by decide)
  refine sw_ci (sw_runV (As := [.int 1]) (rest := [.int 2, .int 10]) Cx hP hD hS mv_X10_size ml_L_30 (cq_X10_size l G ca Z q p pd sv sc so (zb) (zd) (zs9) (zh) (zt) (zc) (zr) (zi) (ze) (za) (zp) (.ref pr) H.size 1 P S1 (.inr (nI ns), S2) hF2 (nI ns) rfl) 7 rfl rfl rfl [0, 1, 2, 4, 5, 6] rfl rfl rfl rfl ⟨(Nat.le_of_ble_eq_true rfl), (Nat.le_of_ble_eq_true rfl)⟩ hl.1 rfl rfl (Nat.le_of_ble_eq_true rfl) dL_all_11 ⟨(Nat.le_of_ble_eq_true rfl), (Nat.le_of_ble_eq_true rfl)⟩) hP hD hS hA [0, 1, 2, 4, 5, 6] [3] [1, 2, 3, 0, 4, 5, 6] rfl rfl rfl (by decide) (fun _ => rfl) rfl (fun r u H locs hw hP hD hS => ?_)
  obtain ⟨rfl, rfl⟩ := hw
  have hP : va_P G vwCl (AW ca q p pd pr sv so sc zb zd zs9 zh zt zc zr zi ze za zp P S2) H := hP
  have hD : va_D A (AW ca q p pd pr sv so sc zb zd zs9 zh zt zc zr zi ze za zp P S2) := hD
  refine sj_imul (v := nI (2 * ns)) hx hb dL_all_14 (e_mul 2 ns) ?_
  refine sj_iadd (v := nI (10 + 2 * ns)) hx hb dL_all_15 (e_add 10 _) ?_
  refine lv_iconst (v := 2) hx hb dL_all_16 (by decide) ?_
  refine lv_iload_n hx hb dL_all_17 rfl (lv_at hl 0 rfl) ?_
  refine sj_imul (v := nI (2 * k)) hx hb dL_all_18 (e_mul 2 k) ?_
  refine sj_iadd (v := nI N9) hx hb dL_all_19 (by rw [hN9]; exact e_add (10 + 2 * ns) (2 * k)) ?_
  refine sw_newi hx hb htU hK hP hD hS hA (nI_pos (by omega)) (nI_clamp (by omega) : (nI N9).toNatClampNeg = N9) (by show N9 * 4 ≤ 536870912; omega) (Nat.le_of_ble_eq_true rfl) (by show 0 + 0 + 0 + N9 ≤ 100; omega) dL_all_20 (fun x H hP hD hS => ?_)
  refine W.widen (k := 1) (n := 100) (Nat.le_of_ble_eq_true rfl) (by omega) ?_
  have hP : va_P G vwCl (AX ca q p pd pr sv so sc zb zd zs9 zh zt zc zr zi ze za zp P S2 x N9 (fun _ => 0)) H := hP
  have hD : va_D A (AX ca q p pd pr sv so sc zb zd zs9 zh zt zc zr zi ze za zp P S2 x N9 (fun _ => 0)) := hD
  refine lv_astore_n (lv' := [(2, .ref x), (1, .int (nI k)), (0, .ref q)]) hx hb dL_all_22 rfl hl (by decide) rfl (fun ls hl => ?_)
  refine lv_iconst (v := 0) hx hb dL_all_23 (by decide) ?_
  refine lv_istore_n (lv' := [(3, .int 0), (2, .ref x), (1, .int (nI k)), (0, .ref q)]) hx hb dL_all_24 rfl hl (by decide) rfl (fun ls hl => ?_)
  refine lv_iconst (v := 0) hx hb dL_all_25 (by decide) ?_
  refine lv_istore (lv' := [(4, .int 0), (3, .int 0), (2, .ref x), (1, .int (nI k)), (0, .ref q)]) hx hb dL_all_26 hl (by decide) rfl (fun ls hl => ?_)
  have loop3 : ∀ (r i : Nat) (S : SieveT) (g : Nat → Int32) (ls : Array Slot) (H : Heap) (locs : List Loc), i + r = k → CY w0 ns R k D P S → (∀ j, j < 10 + 2 * ns + 2 * i → g j = av w0 ns R k D j) → lv_has ls 5 [(4, .int (nI i)), (3, .int (nI (10 + 2 * ns + 2 * i))), (2, .ref x), (1, .int (nI k)), (0, .ref q)] → va_P G vwCl (AX ca q p pd pr sv so sc zb zd zs9 zh zt zc zr zi ze za zp P S x N9 g) H → va_D A (AX ca q p pd pr sv so sc zb zd zs9 zh zt zc zr zi ze za zp P S x N9 g) → va_S A s.heap H locs → W p9 l e RM_L_all s m9 args below meth c H locs 1 100 (MQ below ((fun A => va_Qr (fun (u : Nat × SieveT × (Nat → Int32)) => CY w0 ns R k D P u.2.1 ∧ ∀ j, j < N9 → u.2.2 j = av w0 ns R k D j) (fun (u : Nat × SieveT × (Nat → Int32)) q9 t9 => q9 = (fun u : Nat × SieveT × (Nat → Int32) => u.1) u ∧ sw_Post G A (fun (u : Nat × SieveT × (Nat → Int32)) => AX ca q p pd pr sv so sc zb zd zs9 zh zt zc zr zi ze za zp P u.2.1 u.1 N9 u.2.2) u t9) A) A) args s 1 100 A) (F0 m9 101 ls []) := by
    intro r
    induction r with
    | zero =>
      intro i S g ls H locs hi hC hg hl hP hD hS
      refine lv_iload hx hb dL_all_101 (lv_at hl 0 rfl) ?_
      refine lv_iload_n hx hb dL_all_103 rfl (lv_at hl 3 rfl) ?_
      refine lv_icmp_ge (tgt := 139) hx hb dL_all_104 (by decide) (fun _ => ?_) (fun c9 => absurd (nI_le (by omega) (by omega)) c9)
      refine lv_aload_n hx hb dL_all_139 rfl (lv_at hl 2 rfl) ?_
      exact sj_rar (f0 := fun u : Nat × SieveT × (Nat → Int32) => u.1) hx hb hr hlocks hS (x, S, g) rfl ⟨hC, fun j hj => hg j (by omega)⟩ hP hD dL_all_140
    | succ r ih =>
      intro i S g ls H locs hi hC hg hl hP hD hS
      refine lv_iload hx hb dL_all_101 (lv_at hl 0 rfl) ?_
      refine lv_iload_n hx hb dL_all_103 rfl (lv_at hl 3 rfl) ?_
      refine lv_icmp_ge (tgt := 139) hx hb dL_all_104 (by decide) (fun c9 => absurd c9 (nI_ge (by omega) (by omega))) (fun _ => ?_)
      obtain ⟨hV1, S1, hV2, hC1⟩ := V_striker hC (i := i) (by omega)
      refine lv_aload_n hx hb dL_all_107 rfl (lv_at hl 2 rfl) ?_
      refine lv_iload_n hx hb dL_all_108 rfl (lv_at hl 1 rfl) ?_
      refine lv_iinc (v := nI (10 + 2 * ns + 2 * i + 1)) (lv' := [(3, .int (nI (10 + 2 * ns + 2 * i + 1))), (4, .int (nI i)), (2, .ref x), (1, .int (nI k)), (0, .ref q)]) hx hb dL_all_109 hl (k := 1) rfl (nI_1 (10 + 2 * ns + 2 * i)) (by decide) rfl (fun ls hl => ?_)
      refine lv_aload_n hx hb dL_all_112 rfl (lv_at hl 4 rfl) ?_
      refine lv_iload hx hb dL_all_113 (lv_at hl 1 rfl) ?_
      refine lv_iconst (v := 0) hx hb dL_all_115 (by decide) ?_
      refine sw_ci (sw_runV (As := [.int (nI i), .int 0]) (rest := [.int (nI (10 + 2 * ns + 2 * i)), .ref x]) Cx hP hD hS mv_X10_striker ml_L_38 (cq_X10_striker l G ca Z q p pd sv sc so (zb) (zd) (zs9) (zh) (zt) (zc) (zr) (zi) (ze) (za) (zp) (.ref pr) H.size (nI i) 0 P S (.inr (nI (D i)), S) hV1 (nI (D i)) rfl) 7 rfl rfl rfl [0, 1, 2, 4, 5, 6] rfl rfl rfl rfl ⟨(Nat.le_of_ble_eq_true rfl), (Nat.le_of_ble_eq_true rfl)⟩ hl.1 rfl rfl (Nat.le_of_ble_eq_true rfl) dL_all_116 ⟨(Nat.le_of_ble_eq_true rfl), (Nat.le_of_ble_eq_true rfl)⟩) hP hD hS hA [0, 1, 2, 4, 5, 6] [3, 7] [2, 3, 4, 0, 5, 6, 7, 1] rfl rfl rfl (by decide) (fun _ => rfl) rfl (fun r u H locs hw hP hD hS => ?_)
      obtain ⟨rfl, rfl⟩ := hw
      have hP : va_P G vwCl (AX ca q p pd pr sv so sc zb zd zs9 zh zt zc zr zi ze za zp P S x N9 g) H := hP
      have hD : va_D A (AX ca q p pd pr sv so sc zb zd zs9 zh zt zc zr zi ze za zp P S x N9 g) := hD
      refine va_iast hx hb hK hP hD hS 7 0 rfl rfl (nI_in (by omega) (by omega)) dL_all_119 (fun H locs hP hD hS => ?_)
      rw [nI_clamp (by omega)] at hP hD
      have hP : va_P G vwCl (AX ca q p pd pr sv so sc zb zd zs9 zh zt zc zr zi ze za zp P S x N9 (upd g (10 + 2 * ns + 2 * i) (nI (D i)))) H := hP
      have hD : va_D A (AX ca q p pd pr sv so sc zb zd zs9 zh zt zc zr zi ze za zp P S x N9 (upd g (10 + 2 * ns + 2 * i) (nI (D i)))) := hD
      refine lv_aload_n hx hb dL_all_120 rfl (lv_at hl 2 rfl) ?_
      refine lv_iload_n hx hb dL_all_121 rfl (lv_at hl 0 rfl) ?_
      refine lv_iinc (v := nI (10 + 2 * ns + 2 * i + 1 + 1)) (lv' := [(3, .int (nI (10 + 2 * ns + 2 * i + 1 + 1))), (4, .int (nI i)), (2, .ref x), (1, .int (nI k)), (0, .ref q)]) hx hb dL_all_122 hl (k := 0) rfl (nI_1 (10 + 2 * ns + 2 * i + 1)) (by decide) rfl (fun ls hl => ?_)
      refine lv_aload_n hx hb dL_all_125 rfl (lv_at hl 4 rfl) ?_
      refine lv_iload hx hb dL_all_126 (lv_at hl 1 rfl) ?_
      refine lv_iconst (v := 2) hx hb dL_all_128 (by decide) ?_
      refine sw_ci (sw_runV (As := [.int (nI i), .int 2]) (rest := [.int (nI (10 + 2 * ns + 2 * i + 1)), .ref x]) Cx hP hD hS mv_X10_striker ml_L_38 (cq_X10_striker l G ca Z q p pd sv sc so (zb) (zd) (zs9) (zh) (zt) (zc) (zr) (zi) (ze) (za) (zp) (.ref pr) H.size (nI i) 2 P S (.inr (nI (cn (own w0 k D i) 2 (sm R ns))), S1) hV2 (nI (cn (own w0 k D i) 2 (sm R ns))) rfl) 7 rfl rfl rfl [0, 1, 2, 4, 5, 6] rfl rfl rfl rfl ⟨(Nat.le_of_ble_eq_true rfl), (Nat.le_of_ble_eq_true rfl)⟩ hl.1 rfl rfl (Nat.le_of_ble_eq_true rfl) dL_all_129 ⟨(Nat.le_of_ble_eq_true rfl), (Nat.le_of_ble_eq_true rfl)⟩) hP hD hS hA [0, 1, 2, 4, 5, 6] [3, 7] [2, 3, 4, 0, 5, 6, 7, 1] rfl rfl rfl (by decide) (fun _ => rfl) rfl (fun r u H locs hw hP hD hS => ?_)
      obtain ⟨rfl, rfl⟩ := hw
      have hP : va_P G vwCl (AX ca q p pd pr sv so sc zb zd zs9 zh zt zc zr zi ze za zp P S1 x N9 (upd g (10 + 2 * ns + 2 * i) (nI (D i)))) H := hP
      have hD : va_D A (AX ca q p pd pr sv so sc zb zd zs9 zh zt zc zr zi ze za zp P S1 x N9 (upd g (10 + 2 * ns + 2 * i) (nI (D i)))) := hD
      refine va_iast hx hb hK hP hD hS 7 0 rfl rfl (nI_in (by omega) (by omega)) dL_all_132 (fun H locs hP hD hS => ?_)
      rw [nI_clamp (by omega)] at hP hD
      have hP : va_P G vwCl (AX ca q p pd pr sv so sc zb zd zs9 zh zt zc zr zi ze za zp P S1 x N9 (upd (upd g (10 + 2 * ns + 2 * i) (nI (D i))) (10 + 2 * ns + 2 * i + 1) (nI (cn (own w0 k D i) 2 (sm R ns))))) H := hP
      have hD : va_D A (AX ca q p pd pr sv so sc zb zd zs9 zh zt zc zr zi ze za zp P S1 x N9 (upd (upd g (10 + 2 * ns + 2 * i) (nI (D i))) (10 + 2 * ns + 2 * i + 1) (nI (cn (own w0 k D i) 2 (sm R ns))))) := hD
      refine lv_iinc (v := nI (i + 1)) (lv' := [(4, .int (nI (i + 1))), (3, .int (nI (10 + 2 * ns + 2 * i + 1 + 1))), (2, .ref x), (1, .int (nI k)), (0, .ref q)]) hx hb dL_all_133 hl (k := 1) rfl (nI_1 i) (by decide) rfl (fun ls hl => ?_)
      refine lv_goto (tgt := 101) hx hb dL_all_136 (by decide) ?_
      exact ih (i + 1) S1 _ ls H locs (by omega) hC1 (al_up (al_up hg av_3.symm) av_4.symm) hl hP hD hS
  have loop2 : ∀ (r i : Nat) (S : SieveT) (g : Nat → Int32) (ls : Array Slot) (H : Heap) (locs : List Loc), i + r = ns → CY w0 ns R k D P S → (∀ j, j < 10 + 2 * i → g j = av w0 ns R k D j) → lv_has ls 5 [(4, .int (nI i)), (3, .int (nI (10 + 2 * i))), (2, .ref x), (1, .int (nI k)), (0, .ref q)] → va_P G vwCl (AX ca q p pd pr sv so sc zb zd zs9 zh zt zc zr zi ze za zp P S x N9 g) H → va_D A (AX ca q p pd pr sv so sc zb zd zs9 zh zt zc zr zi ze za zp P S x N9 g) → va_S A s.heap H locs → W p9 l e RM_L_all s m9 args below meth c H locs 1 100 (MQ below ((fun A => va_Qr (fun (u : Nat × SieveT × (Nat → Int32)) => CY w0 ns R k D P u.2.1 ∧ ∀ j, j < N9 → u.2.2 j = av w0 ns R k D j) (fun (u : Nat × SieveT × (Nat → Int32)) q9 t9 => q9 = (fun u : Nat × SieveT × (Nat → Int32) => u.1) u ∧ sw_Post G A (fun (u : Nat × SieveT × (Nat → Int32)) => AX ca q p pd pr sv so sc zb zd zs9 zh zt zc zr zi ze za zp P u.2.1 u.1 N9 u.2.2) u t9) A) A) args s 1 100 A) (F0 m9 56 ls []) := by
    intro r
    induction r with
    | zero =>
      intro i S g ls H locs hi hC hg hl hP hD hS
      refine lv_iload hx hb dL_all_56 (lv_at hl 0 rfl) ?_
      refine lv_aload_n hx hb dL_all_58 rfl (lv_at hl 4 rfl) ?_
      refine lv_iconst (v := 1) hx hb dL_all_59 (by decide) ?_
      obtain ⟨S0, hF0, hC⟩ := V_size hC (n := 1) (by decide)
      refine sw_ci (sw_runV (As := [.int 1]) (rest := [.int (nI i)]) Cx hP hD hS mv_X10_size ml_L_30 (cq_X10_size l G ca Z q p pd sv sc so (zb) (zd) (zs9) (zh) (zt) (zc) (zr) (zi) (ze) (za) (zp) (.ref pr) H.size 1 P S (.inr (nI ns), S0) hF0 (nI ns) rfl) 7 rfl rfl rfl [0, 1, 2, 4, 5, 6] rfl rfl rfl rfl ⟨(Nat.le_of_ble_eq_true rfl), (Nat.le_of_ble_eq_true rfl)⟩ hl.1 rfl rfl (Nat.le_of_ble_eq_true rfl) dL_all_60 ⟨(Nat.le_of_ble_eq_true rfl), (Nat.le_of_ble_eq_true rfl)⟩) hP hD hS hA [0, 1, 2, 4, 5, 6] [3, 7] [2, 3, 4, 0, 5, 6, 7, 1] rfl rfl rfl (by decide) (fun _ => rfl) rfl (fun r u H locs hw hP hD hS => ?_)
      obtain ⟨rfl, rfl⟩ := hw
      have hP : va_P G vwCl (AX ca q p pd pr sv so sc zb zd zs9 zh zt zc zr zi ze za zp P S0 x N9 g) H := hP
      have hD : va_D A (AX ca q p pd pr sv so sc zb zd zs9 zh zt zc zr zi ze za zp P S0 x N9 g) := hD
      have hi : i = ns := by omega
      subst hi
      refine lv_icmp_ge (tgt := 98) hx hb dL_all_63 (by decide) (fun _ => ?_) (fun c9 => absurd (nI_le (by omega) (by omega)) c9)
      refine lv_iconst (v := 0) hx hb dL_all_98 (by decide) ?_
      refine lv_istore (lv' := [(4, .int 0), (3, .int (nI (10 + 2 * i))), (2, .ref x), (1, .int (nI k)), (0, .ref q)]) hx hb dL_all_99 hl (by decide) rfl (fun ls hl => ?_)
      exact loop3 k 0 S0 g ls H locs (by omega) hC hg hl hP hD hS
    | succ r ih =>
      intro i S g ls H locs hi hC hg hl hP hD hS
      refine lv_iload hx hb dL_all_56 (lv_at hl 0 rfl) ?_
      refine lv_aload_n hx hb dL_all_58 rfl (lv_at hl 4 rfl) ?_
      refine lv_iconst (v := 1) hx hb dL_all_59 (by decide) ?_
      obtain ⟨S0, hF0, hC⟩ := V_size hC (n := 1) (by decide)
      refine sw_ci (sw_runV (As := [.int 1]) (rest := [.int (nI i)]) Cx hP hD hS mv_X10_size ml_L_30 (cq_X10_size l G ca Z q p pd sv sc so (zb) (zd) (zs9) (zh) (zt) (zc) (zr) (zi) (ze) (za) (zp) (.ref pr) H.size 1 P S (.inr (nI ns), S0) hF0 (nI ns) rfl) 7 rfl rfl rfl [0, 1, 2, 4, 5, 6] rfl rfl rfl rfl ⟨(Nat.le_of_ble_eq_true rfl), (Nat.le_of_ble_eq_true rfl)⟩ hl.1 rfl rfl (Nat.le_of_ble_eq_true rfl) dL_all_60 ⟨(Nat.le_of_ble_eq_true rfl), (Nat.le_of_ble_eq_true rfl)⟩) hP hD hS hA [0, 1, 2, 4, 5, 6] [3, 7] [2, 3, 4, 0, 5, 6, 7, 1] rfl rfl rfl (by decide) (fun _ => rfl) rfl (fun r u H locs hw hP hD hS => ?_)
      obtain ⟨rfl, rfl⟩ := hw
      have hP : va_P G vwCl (AX ca q p pd pr sv so sc zb zd zs9 zh zt zc zr zi ze za zp P S0 x N9 g) H := hP
      have hD : va_D A (AX ca q p pd pr sv so sc zb zd zs9 zh zt zc zr zi ze za zp P S0 x N9 g) := hD
      refine lv_icmp_ge (tgt := 98) hx hb dL_all_63 (by decide) (fun c9 => absurd c9 (nI_ge (by omega) (by omega))) (fun _ => ?_)
      obtain ⟨-, hV1, ⟨S1, hV2, hC1⟩, -⟩ := V_stretch hC (i := i) (by omega)
      refine lv_aload_n hx hb dL_all_66 rfl (lv_at hl 2 rfl) ?_
      refine lv_iload_n hx hb dL_all_67 rfl (lv_at hl 1 rfl) ?_
      refine lv_iinc (v := nI (10 + 2 * i + 1)) (lv' := [(3, .int (nI (10 + 2 * i + 1))), (4, .int (nI i)), (2, .ref x), (1, .int (nI k)), (0, .ref q)]) hx hb dL_all_68 hl (k := 1) rfl (nI_1 (10 + 2 * i)) (by decide) rfl (fun ls hl => ?_)
      refine lv_aload_n hx hb dL_all_71 rfl (lv_at hl 4 rfl) ?_
      refine lv_iload hx hb dL_all_72 (lv_at hl 1 rfl) ?_
      refine lv_iconst (v := 1) hx hb dL_all_74 (by decide) ?_
      refine sw_ci (sw_runV (As := [.int (nI i), .int 1]) (rest := [.int (nI (10 + 2 * i)), .ref x]) Cx hP hD hS mv_X10_stretch ml_L_34 (cq_X10_stretch l G ca Z q p pd pr sv sc so (zb) (zd) (zs9) (zh) (zt) (zc) (zr) (zi) (ze) (za) (zp) H.size (nI i) 1 P S0 (.inr (nI (1 + sm R (i + 1))), S0) hV1 (nI (1 + sm R (i + 1))) rfl) 7 rfl rfl rfl [0, 1, 2, 3, 4, 5, 6] rfl rfl rfl rfl ⟨(Nat.le_of_ble_eq_true rfl), (Nat.le_of_ble_eq_true rfl)⟩ hl.1 rfl rfl (Nat.le_of_ble_eq_true rfl) dL_all_75 ⟨(Nat.le_of_ble_eq_true rfl), (Nat.le_of_ble_eq_true rfl)⟩) hP hD hS hA [0, 1, 2, 3, 4, 5, 6] [7] [1, 2, 3, 4, 5, 6, 7, 0] rfl rfl rfl (by decide) (fun _ => rfl) rfl (fun r u H locs hw hP hD hS => ?_)
      obtain ⟨rfl, rfl⟩ := hw
      have hP : va_P G vwCl (AX ca q p pd pr sv so sc zb zd zs9 zh zt zc zr zi ze za zp P S0 x N9 g) H := hP
      have hD : va_D A (AX ca q p pd pr sv so sc zb zd zs9 zh zt zc zr zi ze za zp P S0 x N9 g) := hD
      refine va_iast hx hb hK hP hD hS 7 0 rfl rfl (nI_in (by omega) (by omega)) dL_all_78 (fun H locs hP hD hS => ?_)
      rw [nI_clamp (by omega)] at hP hD
      have hP : va_P G vwCl (AX ca q p pd pr sv so sc zb zd zs9 zh zt zc zr zi ze za zp P S0 x N9 (upd g (10 + 2 * i) (nI (1 + sm R (i + 1))))) H := hP
      have hD : va_D A (AX ca q p pd pr sv so sc zb zd zs9 zh zt zc zr zi ze za zp P S0 x N9 (upd g (10 + 2 * i) (nI (1 + sm R (i + 1))))) := hD
      refine lv_aload_n hx hb dL_all_79 rfl (lv_at hl 2 rfl) ?_
      refine lv_iload_n hx hb dL_all_80 rfl (lv_at hl 0 rfl) ?_
      refine lv_iinc (v := nI (10 + 2 * i + 1 + 1)) (lv' := [(3, .int (nI (10 + 2 * i + 1 + 1))), (4, .int (nI i)), (2, .ref x), (1, .int (nI k)), (0, .ref q)]) hx hb dL_all_81 hl (k := 0) rfl (nI_1 (10 + 2 * i + 1)) (by decide) rfl (fun ls hl => ?_)
      refine lv_aload_n hx hb dL_all_84 rfl (lv_at hl 4 rfl) ?_
      refine lv_iload hx hb dL_all_85 (lv_at hl 1 rfl) ?_
      refine lv_iconst (v := 2) hx hb dL_all_87 (by decide) ?_
      refine sw_ci (sw_runV (As := [.int (nI i), .int 2]) (rest := [.int (nI (10 + 2 * i + 1)), .ref x]) Cx hP hD hS mv_X10_stretch ml_L_34 (cq_X10_stretch l G ca Z q p pd pr sv sc so (zb) (zd) (zs9) (zh) (zt) (zc) (zr) (zi) (ze) (za) (zp) H.size (nI i) 2 P S0 (.inr (nI (cn (mk w0 k D) (2 + sm R i) (R i))), S1) hV2 (nI (cn (mk w0 k D) (2 + sm R i) (R i))) rfl) 7 rfl rfl rfl [0, 1, 2, 3, 4, 5, 6] rfl rfl rfl rfl ⟨(Nat.le_of_ble_eq_true rfl), (Nat.le_of_ble_eq_true rfl)⟩ hl.1 rfl rfl (Nat.le_of_ble_eq_true rfl) dL_all_88 ⟨(Nat.le_of_ble_eq_true rfl), (Nat.le_of_ble_eq_true rfl)⟩) hP hD hS hA [0, 1, 2, 3, 4, 5, 6] [7] [1, 2, 3, 4, 5, 6, 7, 0] rfl rfl rfl (by decide) (fun _ => rfl) rfl (fun r u H locs hw hP hD hS => ?_)
      obtain ⟨rfl, rfl⟩ := hw
      have hP : va_P G vwCl (AX ca q p pd pr sv so sc zb zd zs9 zh zt zc zr zi ze za zp P S1 x N9 (upd g (10 + 2 * i) (nI (1 + sm R (i + 1))))) H := hP
      have hD : va_D A (AX ca q p pd pr sv so sc zb zd zs9 zh zt zc zr zi ze za zp P S1 x N9 (upd g (10 + 2 * i) (nI (1 + sm R (i + 1))))) := hD
      refine va_iast hx hb hK hP hD hS 7 0 rfl rfl (nI_in (by omega) (by omega)) dL_all_91 (fun H locs hP hD hS => ?_)
      rw [nI_clamp (by omega)] at hP hD
      have hP : va_P G vwCl (AX ca q p pd pr sv so sc zb zd zs9 zh zt zc zr zi ze za zp P S1 x N9 (upd (upd g (10 + 2 * i) (nI (1 + sm R (i + 1)))) (10 + 2 * i + 1) (nI (cn (mk w0 k D) (2 + sm R i) (R i))))) H := hP
      have hD : va_D A (AX ca q p pd pr sv so sc zb zd zs9 zh zt zc zr zi ze za zp P S1 x N9 (upd (upd g (10 + 2 * i) (nI (1 + sm R (i + 1)))) (10 + 2 * i + 1) (nI (cn (mk w0 k D) (2 + sm R i) (R i))))) := hD
      refine lv_iinc (v := nI (i + 1)) (lv' := [(4, .int (nI (i + 1))), (3, .int (nI (10 + 2 * i + 1 + 1))), (2, .ref x), (1, .int (nI k)), (0, .ref q)]) hx hb dL_all_92 hl (k := 1) rfl (nI_1 i) (by decide) rfl (fun ls hl => ?_)
      refine lv_goto (tgt := 56) hx hb dL_all_95 (by decide) ?_
      exact ih (i + 1) S1 _ ls H locs (by omega) hC1 (al_up (al_up hg (av_1 (by omega)).symm) (av_2 (by omega)).symm) hl hP hD hS
  have loop1 : ∀ (r i : Nat) (S : SieveT) (g : Nat → Int32) (ls : Array Slot) (H : Heap) (locs : List Loc), i + r = 10 → CY w0 ns R k D P S → (∀ j, j < i → g j = av w0 ns R k D j) → lv_has ls 5 [(4, .int (nI i)), (3, .int (nI (i))), (2, .ref x), (1, .int (nI k)), (0, .ref q)] → va_P G vwCl (AX ca q p pd pr sv so sc zb zd zs9 zh zt zc zr zi ze za zp P S x N9 g) H → va_D A (AX ca q p pd pr sv so sc zb zd zs9 zh zt zc zr zi ze za zp P S x N9 g) → va_S A s.heap H locs → W p9 l e RM_L_all s m9 args below meth c H locs 1 100 (MQ below ((fun A => va_Qr (fun (u : Nat × SieveT × (Nat → Int32)) => CY w0 ns R k D P u.2.1 ∧ ∀ j, j < N9 → u.2.2 j = av w0 ns R k D j) (fun (u : Nat × SieveT × (Nat → Int32)) q9 t9 => q9 = (fun u : Nat × SieveT × (Nat → Int32) => u.1) u ∧ sw_Post G A (fun (u : Nat × SieveT × (Nat → Int32)) => AX ca q p pd pr sv so sc zb zd zs9 zh zt zc zr zi ze za zp P u.2.1 u.1 N9 u.2.2) u t9) A) A) args s 1 100 A) (F0 m9 28 ls []) := by
    intro r
    induction r with
    | zero =>
      intro i S g ls H locs hi hC hg hl hP hD hS
      refine lv_iload hx hb dL_all_28 (lv_at hl 0 rfl) ?_
      refine lv_bipush (v := 10) hx hb dL_all_30 (by decide) ?_
      have hi : i = 10 := by omega
      subst hi
      refine lv_icmp_ge (tgt := 53) hx hb dL_all_32 (by decide) (fun _ => ?_) (fun c9 => absurd (show (10 : Int32) ≤ nI 10 by decide) c9)
      refine lv_iconst (v := 0) hx hb dL_all_53 (by decide) ?_
      refine lv_istore (lv' := [(4, .int 0), (3, .int (nI 10)), (2, .ref x), (1, .int (nI k)), (0, .ref q)]) hx hb dL_all_54 hl (by decide) rfl (fun ls hl => ?_)
      exact loop2 ns 0 S g ls H locs (by omega) hC hg hl hP hD hS
    | succ r ih =>
      intro i S g ls H locs hi hC hg hl hP hD hS
      refine lv_iload hx hb dL_all_28 (lv_at hl 0 rfl) ?_
      refine lv_bipush (v := 10) hx hb dL_all_30 (by decide) ?_
      refine lv_icmp_ge (tgt := 53) hx hb dL_all_32 (by decide) (fun c9 => absurd c9 (nI_ge (b := 10) (by omega) (by decide))) (fun _ => ?_)
      obtain ⟨S1, hV1, hC1⟩ := V_size hC (n := i) (by omega)
      refine lv_aload_n hx hb dL_all_35 rfl (lv_at hl 2 rfl) ?_
      refine lv_iload_n hx hb dL_all_36 rfl (lv_at hl 1 rfl) ?_
      refine lv_iinc (v := nI (i + 1)) (lv' := [(3, .int (nI (i + 1))), (4, .int (nI i)), (2, .ref x), (1, .int (nI k)), (0, .ref q)]) hx hb dL_all_37 hl (k := 1) rfl (nI_1 (i)) (by decide) rfl (fun ls hl => ?_)
      refine lv_aload_n hx hb dL_all_40 rfl (lv_at hl 4 rfl) ?_
      refine lv_iload hx hb dL_all_41 (lv_at hl 1 rfl) ?_
      refine sw_ci (sw_runV (As := [.int (nI i)]) (rest := [.int (nI (i)), .ref x]) Cx hP hD hS mv_X10_size ml_L_30 (cq_X10_size l G ca Z q p pd sv sc so (zb) (zd) (zs9) (zh) (zt) (zc) (zr) (zi) (ze) (za) (zp) (.ref pr) H.size (nI i) P S (.inr (nI (zs w0 ns R k D i)), S1) hV1 (nI (zs w0 ns R k D i)) rfl) 7 rfl rfl rfl [0, 1, 2, 4, 5, 6] rfl rfl rfl rfl ⟨(Nat.le_of_ble_eq_true rfl), (Nat.le_of_ble_eq_true rfl)⟩ hl.1 rfl rfl (Nat.le_of_ble_eq_true rfl) dL_all_43 ⟨(Nat.le_of_ble_eq_true rfl), (Nat.le_of_ble_eq_true rfl)⟩) hP hD hS hA [0, 1, 2, 4, 5, 6] [3, 7] [2, 3, 4, 0, 5, 6, 7, 1] rfl rfl rfl (by decide) (fun _ => rfl) rfl (fun r u H locs hw hP hD hS => ?_)
      obtain ⟨rfl, rfl⟩ := hw
      have hP : va_P G vwCl (AX ca q p pd pr sv so sc zb zd zs9 zh zt zc zr zi ze za zp P S1 x N9 g) H := hP
      have hD : va_D A (AX ca q p pd pr sv so sc zb zd zs9 zh zt zc zr zi ze za zp P S1 x N9 g) := hD
      refine va_iast hx hb hK hP hD hS 7 0 rfl rfl (nI_in (by omega) (by omega)) dL_all_46 (fun H locs hP hD hS => ?_)
      rw [nI_clamp (by omega)] at hP hD
      have hP : va_P G vwCl (AX ca q p pd pr sv so sc zb zd zs9 zh zt zc zr zi ze za zp P S1 x N9 (upd g (i) (nI (zs w0 ns R k D i)))) H := hP
      have hD : va_D A (AX ca q p pd pr sv so sc zb zd zs9 zh zt zc zr zi ze za zp P S1 x N9 (upd g (i) (nI (zs w0 ns R k D i)))) := hD
      refine lv_iinc (v := nI (i + 1)) (lv' := [(4, .int (nI (i + 1))), (3, .int (nI (i + 1))), (2, .ref x), (1, .int (nI k)), (0, .ref q)]) hx hb dL_all_47 hl (k := 1) rfl (nI_1 i) (by decide) rfl (fun ls hl => ?_)
      refine lv_goto (tgt := 28) hx hb dL_all_50 (by decide) ?_
      exact ih (i + 1) S1 _ ls H locs (by omega) hC1 (al_up hg (av_0 (by omega)).symm) hl hP hD hS
  exact loop1 10 0 S2 (fun _ => 0) ls H locs (by omega) hC (fun j hj => absurd hj (by omega)) hl hP hD hS
