/-! ===== the law: the rows of its text ===== -/
section
variable {p : Program} {l : Launch} {e : Env} {s : State} {m : MethodId} {below : List Frame} {meth : Method} {c : Code} {Q : State → Prop} {G : va_G} {ca Z : Nat → Nat} {b L q : Nat} {xs : Nat → Int32} {a : Nat → Nat} {qw v1 w9 : Nat} {v0 : Int32} {R0 D0 : Nat → Nat} {top0 : PlanT → Prop}
  {P : PlanT} {Bf : PlanT} {Dr : PlanT} {Sn : PlanT} {hs : Bool} {t : HistT} {S : SieveT} {sc : SrcT} {rd : ReadT} {sr : ScrT} {sh : SheetT} {ac : (Nat → Int32)} {pe : Int32}
set_option maxHeartbeats 40000000 in
set_option maxRecDepth 100000 in
theorem lc_117 (C : lc63 p l s m meth c G ca Z b L xs) {w0 : va_W} (hn0 : w0.length = 53) (hw9 : w9 < 5) {rs : List Nat} (hr4 : rs.length ≤ 4) (hrs : ∀ x ∈ rs, 1 ≤ x ∧ x ≤ 50) (KD : ∀ (ds : List Nat) (bb vv n mm : Nat) (H : Heap) (locs : List Loc) (ls : Array Slot) (cells slots : Nat), ds.length ≤ 5 → (∀ x ∈ ds, 2 ≤ x ∧ x ≤ 26) → ds.Nodup → (tx0 w9 ++ its 1 rs ++ its 2 ds).length = n → n ≤ mm → mm ≤ 240 → cells ≤ 1000 → slots ≤ 100000 → va_P G vwCl (w0 ++ [(bb, .inr (8, [.ref vv, .int 0, .int 0, .int (nI n)])), (vv, .inl (ca 1, mm, .inl (sj_F (tx0 w9 ++ its 1 rs ++ its 2 ds))))]) H → va_D (lwA s) (w0 ++ [(bb, .inr (8, [.ref vv, .int 0, .int 0, .int (nI n)])), (vv, .inl (ca 1, mm, .inl (sj_F (tx0 w9 ++ its 1 rs ++ its 2 ds))))]) → va_S (lwA s) s.heap H locs → lv_has ls 12 [(5, .int (nI (1 + rs.sum))), (4, .ref bb), (2, .ref qw), (1, .ref q), (0, .ref b)] → W p l e room_1 s m #[.ref b] below meth c H locs cells slots Q (F0 m 194 ls [])) : ∀ (r j : Nat) (ds : List Nat) (mk9 bb vv n mm : Nat) (H : Heap) (locs : List Loc) (ls : Array Slot) (cells slots : Nat), j + r = mo (v0 >>> ((3 : Int32) &&& 31)) 6 → ds.length ≤ j → (∀ x ∈ ds, 2 ≤ x ∧ x ≤ 26) → ds.Nodup → SEN mk9 ds → (tx0 w9 ++ its 1 rs ++ its 2 ds).length = n → n ≤ mm → 22 ≤ mm → mm ≤ 240 → cells + 3 * r ≤ 900 → slots + 3072 * r ≤ 90000 → va_P G vwCl (w0 ++ [(bb, .inr (8, [.ref vv, .int 0, .int 0, .int (nI n)])), (vv, .inl (ca 1, mm, .inl (sj_F (tx0 w9 ++ its 1 rs ++ its 2 ds))))]) H → va_D (lwA s) (w0 ++ [(bb, .inr (8, [.ref vv, .int 0, .int 0, .int (nI n)])), (vv, .inl (ca 1, mm, .inl (sj_F (tx0 w9 ++ its 1 rs ++ its 2 ds))))]) → va_S (lwA s) s.heap H locs → lv_has ls 12 [(7, .int (nI j)), (6, .int (nI mk9)), (5, .int (nI (1 + rs.sum))), (4, .ref bb), (3, .int v0), (2, .ref qw), (1, .ref q), (0, .ref b)] → W p l e room_1 s m #[.ref b] below meth c H locs cells slots Q (F0 m 117 ls []) := by
  obtain ⟨Cx, hXs, hbl, hL⟩ := id C
  obtain ⟨⟨hx, hb, hml, hown, htU⟩, hK, hX, hY, hA⟩ := id Cx
  have hmo := mo_lt (v0 >>> ((3 : Int32) &&& 31)) (m := 6) (by decide)
  intro r
  induction r with
  | zero =>
    intro j ds mk9 bb vv n mm H locs ls cells slots hj hdl hds hnd hse hn hnm hm hm2 hcb hsb hP hD hS hl
    refine lv_iload hx hb dL_law_117 (lv_at hl 0 rfl) ?_
    refine lv_iload_n hx hb dL_law_119 rfl (lv_at hl 4 rfl) ?_
    refine lv_iconst (v := 3) hx hb dL_law_120 (by decide) ?_
    refine lv_ishr hx hb dL_law_121 ?_
    refine lv_bipush (v := 6) hx hb dL_law_122 (by decide) ?_
    refine lw_c0 (sw_runS (As := [.int (v0 >>> ((3 : Int32) &&& 31)), .int 6]) (rest := [.int (nI j)]) Cx hP hD hS ms_L_most ml_L_103 (c_L_most l G ca Z H.size (v0 >>> ((3 : Int32) &&& 31)) 6 (nI (mo (v0 >>> ((3 : Int32) &&& 31)) 6)) (V_most (m := 6) _ (by decide) (by decide))) [] rfl rfl rfl rfl ⟨(Nat.le_of_ble_eq_true rfl), (Nat.le_of_ble_eq_true rfl)⟩ hl.1 rfl rfl (Nat.le_of_ble_eq_true rfl) dL_law_124 ⟨by show _ ≤ 600086; omega, by show _ ≤ 7301442; omega⟩) hP hD hS hA (by rw [List.length_append, hn0]; rfl) (n := 55) (by decide +kernel) (fun r9 H locs hw hP hD hS => ?_)
    subst hw
    refine lv_icmp_ge (tgt := 194) hx hb dL_law_127 (by decide) (fun _ => ?_) (fun z9 => absurd (nI_le (by omega) (by omega)) z9)
    exact KD ds bb vv n mm H locs ls _ _ (by omega) hds hnd hn hnm hm2 (by omega) (by omega) hP hD hS (lv_sub hl [2, 3, 5, 6, 7] rfl)
  | succ r ih =>
    intro j ds mk9 bb vv n mm H locs ls cells slots hj hdl hds hnd hse hn hnm hm hm2 hcb hsb hP hD hS hl
    refine lv_iload hx hb dL_law_117 (lv_at hl 0 rfl) ?_
    refine lv_iload_n hx hb dL_law_119 rfl (lv_at hl 4 rfl) ?_
    refine lv_iconst (v := 3) hx hb dL_law_120 (by decide) ?_
    refine lv_ishr hx hb dL_law_121 ?_
    refine lv_bipush (v := 6) hx hb dL_law_122 (by decide) ?_
    refine lw_c0 (sw_runS (As := [.int (v0 >>> ((3 : Int32) &&& 31)), .int 6]) (rest := [.int (nI j)]) Cx hP hD hS ms_L_most ml_L_103 (c_L_most l G ca Z H.size (v0 >>> ((3 : Int32) &&& 31)) 6 (nI (mo (v0 >>> ((3 : Int32) &&& 31)) 6)) (V_most (m := 6) _ (by decide) (by decide))) [] rfl rfl rfl rfl ⟨(Nat.le_of_ble_eq_true rfl), (Nat.le_of_ble_eq_true rfl)⟩ hl.1 rfl rfl (Nat.le_of_ble_eq_true rfl) dL_law_124 ⟨by show _ ≤ 600086; omega, by show _ ≤ 7301442; omega⟩) hP hD hS hA (by rw [List.length_append, hn0]; rfl) (n := 55) (by decide +kernel) (fun r9 H locs hw hP hD hS => ?_)
    subst hw
    refine lv_icmp_ge (tgt := 194) hx hb dL_law_127 (by decide) (fun z9 => absurd z9 (nI_ge (by omega) (by omega))) (fun _ => ?_)
    refine lv_iconst (v := 2) hx hb dL_law_130 (by decide) ?_
    refine lv_aload_n hx hb dL_law_131 rfl (lv_at hl 7 rfl) ?_
    refine lv_iconst (v := 5) hx hb dL_law_132 (by decide) ?_
    refine lv_iload hx hb dL_law_133 (lv_at hl 0 rfl) ?_
    refine sj_iadd (v := nI (5 + j)) hx hb dL_law_135 (e_add 5 j) ?_
    refine lw_c0 (sx_runS (X := sx_X b L xs) (As := [.ref b, .int (nI (5 + j))]) (rest := [.int 2]) Cx hP hD hS ms_L_cell ml_L_142 (c_L_cell l G ca Z b L (5 + j) xs H.size (by omega) (by omega)) sx_bl (fun U hU hW => lx_kept hXs hbl hS hU hW) [] rfl rfl rfl rfl ⟨(Nat.le_of_ble_eq_true rfl), (Nat.le_of_ble_eq_true rfl)⟩ hl.1 rfl rfl (Nat.le_of_ble_eq_true rfl) dL_law_136 ⟨by show _ ≤ 600086; omega, by show _ ≤ 7301442; omega⟩) hP hD hS hA (by rw [List.length_append, hn0]; rfl) (n := 55) (by decide +kernel) (fun r9 H locs hw hP hD hS => ?_)
    subst hw
    refine lv_bipush (v := 25) hx hb dL_law_139 (by decide) ?_
    refine lw_c0 (sw_runS (As := [.int (cellv L xs (5 + j)), .int 25]) (rest := [.int 2]) Cx hP hD hS ms_L_most ml_L_103 (c_L_most l G ca Z H.size (cellv L xs (5 + j)) 25 (nI (mo (cellv L xs (5 + j)) 25)) (V_most (m := 25) _ (by decide) (by decide))) [] rfl rfl rfl rfl ⟨(Nat.le_of_ble_eq_true rfl), (Nat.le_of_ble_eq_true rfl)⟩ hl.1 rfl rfl (Nat.le_of_ble_eq_true rfl) dL_law_141 ⟨by show _ ≤ 600086; omega, by show _ ≤ 7301442; omega⟩) hP hD hS hA (by rw [List.length_append, hn0]; rfl) (n := 55) (by decide +kernel) (fun r9 H locs hw hP hD hS => ?_)
    subst hw
    have hx25 := mo_lt (cellv L xs (5 + j)) (m := 25) (by decide)
    generalize mo (cellv L xs (5 + j)) 25 = x at hx25
    refine sj_iadd (v := nI (2 + x)) hx hb dL_law_144 (e_add 2 x) ?_
    refine lv_istore (lv' := [(8, .int (nI (2 + x))), (7, .int (nI j)), (6, .int (nI mk9)), (5, .int (nI (1 + rs.sum))), (4, .ref bb), (3, .int v0), (2, .ref qw), (1, .ref q), (0, .ref b)]) hx hb dL_law_145 hl (by decide) rfl (fun ls hl => ?_)
    refine lv_iload hx hb dL_law_147 (lv_at hl 2 rfl) ?_
    refine lv_iload hx hb dL_law_149 (lv_at hl 0 rfl) ?_
    refine lv_ishr hx hb dL_law_151 ?_
    refine lv_iconst (v := 1) hx hb dL_law_152 (by decide) ?_
    refine lv_iand hx hb dL_law_153 ?_
    refine lv_topi (fun y9 ey => ?_)
    rw [SEN_get hse (by omega)] at ey
    refine lv_iconst (v := 1) hx hb dL_law_154 (by decide) ?_
    by_cases cd : 2 + x ∈ ds
    · rw [if_pos cd] at ey
      subst ey
      refine lv_icmp_ne (tgt := 161) hx hb dL_law_155 (by decide) (fun z9 => absurd rfl z9) (fun _ => ?_)
      refine lv_goto (tgt := 188) hx hb dL_law_158 (by decide) ?_
      refine lv_iinc (v := (nI (j + 1))) (lv' := [(7, .int (nI (j + 1))), (8, .int (nI (2 + x))), (6, .int (nI mk9)), (5, .int (nI (1 + rs.sum))), (4, .ref bb), (3, .int v0), (2, .ref qw), (1, .ref q), (0, .ref b)]) hx hb dL_law_188 hl (k := 1) rfl (nI_1 j) (by decide) rfl (fun ls hl => ?_)
      refine lv_goto (tgt := 117) hx hb dL_law_191 (by decide) ?_
      exact ih (j + 1) ds mk9 bb vv n mm H locs ls _ _ (by omega) (by omega) hds hnd hse hn hnm hm hm2 (by omega) (by omega) hP hD hS (lv_sub hl [0, 2, 3, 4, 5, 6, 7, 8] rfl)
    · rw [if_neg cd] at ey
      subst ey
      refine lv_icmp_ne (tgt := 161) hx hb dL_law_155 (by decide) (fun _ => ?_) (fun z9 => absurd z9 (by decide))
      refine lv_iload hx hb dL_law_161 (lv_at hl 2 rfl) ?_
      refine lv_iconst (v := 1) hx hb dL_law_163 (by decide) ?_
      refine lv_iload hx hb dL_law_164 (lv_at hl 0 rfl) ?_
      refine lv_ishl hx hb dL_law_166 ?_
      refine lv_ior hx hb dL_law_167 ?_
      obtain ⟨e7, hse2⟩ := SEN_put hse (d := 2 + x) (by omega)
      refine lv_topi (fun y9 ey => ?_)
      rw [e7] at ey
      subst ey
      refine lv_istore (lv' := [(6, .int (nI (mk9 ||| 2 ^ (2 + x)))), (8, .int (nI (2 + x))), (7, .int (nI j)), (5, .int (nI (1 + rs.sum))), (4, .ref bb), (3, .int v0), (2, .ref qw), (1, .ref q), (0, .ref b)]) hx hb dL_law_168 hl (by decide) rfl (fun ls hl => ?_)
      have hA0 : sj_A (tx0 w9 ++ its 1 rs ++ its 2 ds) := ((tx0_A (by omega)).app (its_A 1 rs fun d hd => by have := hrs d hd; omega)).app (its_A 2 ds fun d hd => by have := hds d hd; omega)
      have hl0 := tx0_len w9
      have hl1 := its_len 1 rs
      have hl2 := its_len 2 ds
      have hnl : n ≤ 53 + 11 * j := by rw [← hn, List.length_append, List.length_append]; omega
      refine lv_aload hx hb dL_law_170 (lv_at hl 4 rfl) ?_
      refine va_ldcS hx hb hown (sw_sR hY 5 rfl) dL_law_172 ?_
      refine lw_tailr (f0 := fun _ : Nat × Nat => bb) (sw_runV (As := [.ref (Z (20 + 5))]) (rest := []) Cx hP hD hS mv_J4_append_15ec4 ml_L_162 (c_sj_AppS l G ca Z bb vv n mm (tx0 w9 ++ its 1 rs ++ its 2 ds) 5 H.size hA0 hn hnm hm hm2 (by decide) (by show n + 8 ≤ 119; omega)) 8 rfl rfl rfl [53, 54] (tl_2 hn0) rfl rfl rfl ⟨(Nat.le_of_ble_eq_true rfl), (Nat.le_of_ble_eq_true rfl)⟩ hl.1 rfl rfl (Nat.le_of_ble_eq_true rfl) dL_law_174 ⟨by show _ ≤ 600086; omega, by show _ ≤ 7301442; omega⟩) hP hD hS hA hn0 (by decide +kernel) [53, 54] (tl_2 hn0) tl_d2 (fun u9 H locs hw hP hD hS => ?_)
      obtain ⟨vv, mm⟩ := u9
      obtain ⟨hnm, hm, hm2⟩ := hw
      have hn1 : ((tx0 w9 ++ its 1 rs ++ its 2 ds) ++ sw_byt.getD 5 []).length = (n + sw_len.getD 5 0) := by rw [List.length_append, hn]; rfl
      have hb8 : sj_A (sw_byt.getD 5 []) := by unfold sj_A; decide
      have hA1 : sj_A ((tx0 w9 ++ its 1 rs ++ its 2 ds) ++ sw_byt.getD 5 []) := hA0.app hb8
      have hd2 := sj_dn2 (2 + x)
      refine lv_iload hx hb dL_law_177 (lv_at hl 1 rfl) ?_
      refine lw_tailr (f0 := fun _ : Nat × Nat => bb) (sw_runV (As := [.int (nI (2 + x))]) (rest := []) Cx hP hD hS mv_J4_append_bf812 ml_L_153 (c_sj_AppI l G ca Z bb vv (n + sw_len.getD 5 0) mm ((tx0 w9 ++ its 1 rs ++ its 2 ds) ++ sw_byt.getD 5 []) (2 + x) H.size hA1 hn1 hnm hm hm2 (by omega) (by show n + 8 + sj_dn (2 + x) ≤ 119; omega)) 8 rfl rfl rfl [53, 54] (tl_2 hn0) rfl rfl rfl ⟨(Nat.le_of_ble_eq_true rfl), (Nat.le_of_ble_eq_true rfl)⟩ hl.1 rfl rfl (Nat.le_of_ble_eq_true rfl) dL_law_179 ⟨by show _ ≤ 600086; omega, by show _ ≤ 7301442; omega⟩) hP hD hS hA hn0 (by decide +kernel) [53, 54] (tl_2 hn0) tl_d2 (fun u9 H locs hw hP hD hS => ?_)
      obtain ⟨vv, mm⟩ := u9
      obtain ⟨hnm, hm, hm2⟩ := hw
      have hn2 : (((tx0 w9 ++ its 1 rs ++ its 2 ds) ++ sw_byt.getD 5 []) ++ sj_dg (2 + x)).length = ((n + sw_len.getD 5 0) + sj_dn (2 + x)) := by rw [List.length_append, hn1, sj_dgl]
      have hA2 : sj_A (((tx0 w9 ++ its 1 rs ++ its 2 ds) ++ sw_byt.getD 5 []) ++ sj_dg (2 + x)) := hA1.app (sj_dgA (by omega))
      refine lv_bipush (v := nI 59) hx hb dL_law_182 (by decide) ?_
      refine lw_tailr (f0 := fun _ : Nat × Nat => bb) (sw_runV (As := [.int (nI 59)]) (rest := []) Cx hP hD hS mv_J4_append_cf468 ml_L_157 (c_sj_AppC l G ca Z bb vv ((n + sw_len.getD 5 0) + sj_dn (2 + x)) mm (((tx0 w9 ++ its 1 rs ++ its 2 ds) ++ sw_byt.getD 5 []) ++ sj_dg (2 + x)) (nI 59) H.size hA2 hn2 hnm hm hm2 (by decide) (by show n + 8 + sj_dn (2 + x) + 1 ≤ 119; omega)) 8 rfl rfl rfl [53, 54] (tl_2 hn0) rfl rfl rfl ⟨(Nat.le_of_ble_eq_true rfl), (Nat.le_of_ble_eq_true rfl)⟩ hl.1 rfl rfl (Nat.le_of_ble_eq_true rfl) dL_law_184 ⟨by show _ ≤ 600086; omega, by show _ ≤ 7301442; omega⟩) hP hD hS hA hn0 (by decide +kernel) [53, 54] (tl_2 hn0) tl_d2 (fun u9 H locs hw hP hD hS => ?_)
      obtain ⟨vv, mm⟩ := u9
      obtain ⟨hnm, hm, hm2⟩ := hw
      have hn3 : ((((tx0 w9 ++ its 1 rs ++ its 2 ds) ++ sw_byt.getD 5 []) ++ sj_dg (2 + x)) ++ [nI 59]).length = (((n + sw_len.getD 5 0) + sj_dn (2 + x)) + 1) := by rw [List.length_append, hn2]; rfl
      have eT := tx_sk (tx0 w9 ++ its 1 rs) ds (2 + x)
      rw [eT] at hP hD hn3
      refine lv_pop hx hb dL_law_187 rfl ?_
      refine lv_iinc (v := (nI (j + 1))) (lv' := [(7, .int (nI (j + 1))), (6, .int (nI (mk9 ||| 2 ^ (2 + x)))), (8, .int (nI (2 + x))), (5, .int (nI (1 + rs.sum))), (4, .ref bb), (3, .int v0), (2, .ref qw), (1, .ref q), (0, .ref b)]) hx hb dL_law_188 hl (k := 2) rfl (nI_1 j) (by decide) rfl (fun ls hl => ?_)
      refine lv_goto (tgt := 117) hx hb dL_law_191 (by decide) ?_
      exact ih (j + 1) (ds ++ [2 + x]) (mk9 ||| 2 ^ (2 + x)) bb vv (((n + sw_len.getD 5 0) + sj_dn (2 + x)) + 1) mm H locs ls _ _ (by omega) (by rw [List.length_append]; show ds.length + 1 ≤ j + 1; omega) (fun d hd => (List.mem_append.mp hd).elim (hds d) (fun h => by rw [List.mem_singleton.mp h]; omega)) (nd_snoc ds hnd cd) hse2 hn3 hnm hm hm2 (by omega) (by omega) hP hD hS (lv_sub hl [0, 1, 3, 4, 5, 6, 7, 8] rfl)
set_option maxHeartbeats 40000000 in
set_option maxRecDepth 100000 in
theorem lb_49 (C : lc63 p l s m meth c G ca Z b L xs) {w0 : va_W} (hn0 : w0.length = 53) (hw9 : w9 < 5) (KB : ∀ (rs : List Nat) (bb vv n mm : Nat) (H : Heap) (locs : List Loc) (ls : Array Slot) (cells slots : Nat), 1 ≤ rs.length → rs.length ≤ 4 → (∀ x ∈ rs, 1 ≤ x ∧ x ≤ 50) → (tx0 w9 ++ its 1 rs).length = n → n ≤ mm → 22 ≤ mm → mm ≤ 240 → cells ≤ 800 → slots ≤ 70000 → va_P G vwCl (w0 ++ [(bb, .inr (8, [.ref vv, .int 0, .int 0, .int (nI n)])), (vv, .inl (ca 1, mm, .inl (sj_F (tx0 w9 ++ its 1 rs))))]) H → va_D (lwA s) (w0 ++ [(bb, .inr (8, [.ref vv, .int 0, .int 0, .int (nI n)])), (vv, .inl (ca 1, mm, .inl (sj_F (tx0 w9 ++ its 1 rs))))]) → va_S (lwA s) s.heap H locs → lv_has ls 12 [(6, .int (nI rs.length)), (5, .int (nI (1 + rs.sum))), (4, .ref bb), (3, .int v0), (2, .ref qw), (1, .ref q), (0, .ref b)] → W p l e room_1 s m #[.ref b] below meth c H locs cells slots Q (F0 m 111 ls [])) : ∀ (r k : Nat) (rs : List Nat) (bb vv n mm : Nat) (H : Heap) (locs : List Loc) (ls : Array Slot) (cells slots : Nat), k + r = 1 + mo (v0 >>> ((1 : Int32) &&& 31)) 4 → rs.length = k → (∀ x ∈ rs, 1 ≤ x ∧ x ≤ 50) → (tx0 w9 ++ its 1 rs).length = n → n ≤ mm → 22 ≤ mm → mm ≤ 240 → cells + 3 * r ≤ 800 → slots + 3072 * r ≤ 70000 → va_P G vwCl (w0 ++ [(bb, .inr (8, [.ref vv, .int 0, .int 0, .int (nI n)])), (vv, .inl (ca 1, mm, .inl (sj_F (tx0 w9 ++ its 1 rs))))]) H → va_D (lwA s) (w0 ++ [(bb, .inr (8, [.ref vv, .int 0, .int 0, .int (nI n)])), (vv, .inl (ca 1, mm, .inl (sj_F (tx0 w9 ++ its 1 rs))))]) → va_S (lwA s) s.heap H locs → lv_has ls 12 [(6, .int (nI k)), (5, .int (nI (1 + rs.sum))), (4, .ref bb), (3, .int v0), (2, .ref qw), (1, .ref q), (0, .ref b)] → W p l e room_1 s m #[.ref b] below meth c H locs cells slots Q (F0 m 49 ls []) := by
  obtain ⟨Cx, hXs, hbl, hL⟩ := id C
  obtain ⟨⟨hx, hb, hml, hown, htU⟩, hK, hX, hY, hA⟩ := id Cx
  have hmo := mo_lt (v0 >>> ((1 : Int32) &&& 31)) (m := 4) (by decide)
  intro r
  induction r with
  | zero =>
    intro k rs bb vv n mm H locs ls cells slots hk hlen hrs hn hnm hm hm2 hcb hsb hP hD hS hl
    refine lv_iload hx hb dL_law_49 (lv_at hl 0 rfl) ?_
    refine lv_iconst (v := 1) hx hb dL_law_51 (by decide) ?_
    refine lv_iload_n hx hb dL_law_52 rfl (lv_at hl 3 rfl) ?_
    refine lv_iconst (v := 1) hx hb dL_law_53 (by decide) ?_
    refine lv_ishr hx hb dL_law_54 ?_
    refine lv_iconst (v := 4) hx hb dL_law_55 (by decide) ?_
    refine lw_c0 (sw_runS (As := [.int (v0 >>> ((1 : Int32) &&& 31)), .int 4]) (rest := [.int 1, .int (nI k)]) Cx hP hD hS ms_L_most ml_L_103 (c_L_most l G ca Z H.size (v0 >>> ((1 : Int32) &&& 31)) 4 (nI (mo (v0 >>> ((1 : Int32) &&& 31)) 4)) (V_most (m := 4) _ (by decide) (by decide))) [] rfl rfl rfl rfl ⟨(Nat.le_of_ble_eq_true rfl), (Nat.le_of_ble_eq_true rfl)⟩ hl.1 rfl rfl (Nat.le_of_ble_eq_true rfl) dL_law_56 ⟨by show _ ≤ 600086; omega, by show _ ≤ 7301442; omega⟩) hP hD hS hA (by rw [List.length_append, hn0]; rfl) (n := 55) (by decide +kernel) (fun r9 H locs hw hP hD hS => ?_)
    subst hw
    refine sj_iadd (v := nI (1 + mo (v0 >>> ((1 : Int32) &&& 31)) 4)) hx hb dL_law_59 (e_add 1 _) ?_
    refine lv_icmp_ge (tgt := 111) hx hb dL_law_60 (by decide) (fun _ => ?_) (fun z9 => absurd (nI_le (by omega) (by omega)) z9)
    subst hlen
    exact KB rs bb vv n mm H locs ls _ _ (by omega) (by omega) hrs hn hnm hm hm2 (by omega) (by omega) hP hD hS hl
  | succ r ih =>
    intro k rs bb vv n mm H locs ls cells slots hk hlen hrs hn hnm hm hm2 hcb hsb hP hD hS hl
    refine lv_iload hx hb dL_law_49 (lv_at hl 0 rfl) ?_
    refine lv_iconst (v := 1) hx hb dL_law_51 (by decide) ?_
    refine lv_iload_n hx hb dL_law_52 rfl (lv_at hl 3 rfl) ?_
    refine lv_iconst (v := 1) hx hb dL_law_53 (by decide) ?_
    refine lv_ishr hx hb dL_law_54 ?_
    refine lv_iconst (v := 4) hx hb dL_law_55 (by decide) ?_
    refine lw_c0 (sw_runS (As := [.int (v0 >>> ((1 : Int32) &&& 31)), .int 4]) (rest := [.int 1, .int (nI k)]) Cx hP hD hS ms_L_most ml_L_103 (c_L_most l G ca Z H.size (v0 >>> ((1 : Int32) &&& 31)) 4 (nI (mo (v0 >>> ((1 : Int32) &&& 31)) 4)) (V_most (m := 4) _ (by decide) (by decide))) [] rfl rfl rfl rfl ⟨(Nat.le_of_ble_eq_true rfl), (Nat.le_of_ble_eq_true rfl)⟩ hl.1 rfl rfl (Nat.le_of_ble_eq_true rfl) dL_law_56 ⟨by show _ ≤ 600086; omega, by show _ ≤ 7301442; omega⟩) hP hD hS hA (by rw [List.length_append, hn0]; rfl) (n := 55) (by decide +kernel) (fun r9 H locs hw hP hD hS => ?_)
    subst hw
    refine sj_iadd (v := nI (1 + mo (v0 >>> ((1 : Int32) &&& 31)) 4)) hx hb dL_law_59 (e_add 1 _) ?_
    refine lv_icmp_ge (tgt := 111) hx hb dL_law_60 (by decide) (fun z9 => absurd z9 (nI_ge (by omega) (by omega))) (fun _ => ?_)
    refine lv_iconst (v := 1) hx hb dL_law_63 (by decide) ?_
    refine lv_aload_n hx hb dL_law_64 rfl (lv_at hl 6 rfl) ?_
    refine lv_iconst (v := 1) hx hb dL_law_65 (by decide) ?_
    refine lv_iload hx hb dL_law_66 (lv_at hl 0 rfl) ?_
    refine sj_iadd (v := nI (1 + k)) hx hb dL_law_68 (e_add 1 k) ?_
    refine lw_c0 (sx_runS (X := sx_X b L xs) (As := [.ref b, .int (nI (1 + k))]) (rest := [.int 1]) Cx hP hD hS ms_L_cell ml_L_142 (c_L_cell l G ca Z b L (1 + k) xs H.size (by omega) (by omega)) sx_bl (fun U hU hW => lx_kept hXs hbl hS hU hW) [] rfl rfl rfl rfl ⟨(Nat.le_of_ble_eq_true rfl), (Nat.le_of_ble_eq_true rfl)⟩ hl.1 rfl rfl (Nat.le_of_ble_eq_true rfl) dL_law_69 ⟨by show _ ≤ 600086; omega, by show _ ≤ 7301442; omega⟩) hP hD hS hA (by rw [List.length_append, hn0]; rfl) (n := 55) (by decide +kernel) (fun r9 H locs hw hP hD hS => ?_)
    subst hw
    refine lv_bipush (v := 50) hx hb dL_law_72 (by decide) ?_
    refine lw_c0 (sw_runS (As := [.int (cellv L xs (1 + k)), .int 50]) (rest := [.int 1]) Cx hP hD hS ms_L_most ml_L_103 (c_L_most l G ca Z H.size (cellv L xs (1 + k)) 50 (nI (mo (cellv L xs (1 + k)) 50)) (V_most (m := 50) _ (by decide) (by decide))) [] rfl rfl rfl rfl ⟨(Nat.le_of_ble_eq_true rfl), (Nat.le_of_ble_eq_true rfl)⟩ hl.1 rfl rfl (Nat.le_of_ble_eq_true rfl) dL_law_74 ⟨by show _ ≤ 600086; omega, by show _ ≤ 7301442; omega⟩) hP hD hS hA (by rw [List.length_append, hn0]; rfl) (n := 55) (by decide +kernel) (fun r9 H locs hw hP hD hS => ?_)
    subst hw
    have hx50 := mo_lt (cellv L xs (1 + k)) (m := 50) (by decide)
    generalize mo (cellv L xs (1 + k)) 50 = x at hx50
    refine sj_iadd (v := nI (1 + x)) hx hb dL_law_77 (e_add 1 x) ?_
    refine lv_istore (lv' := [(7, .int (nI (1 + x))), (6, .int (nI k)), (5, .int (nI (1 + rs.sum))), (4, .ref bb), (3, .int v0), (2, .ref qw), (1, .ref q), (0, .ref b)]) hx hb dL_law_78 hl (by decide) rfl (fun ls hl => ?_)
    refine lv_iload hx hb dL_law_80 (lv_at hl 2 rfl) ?_
    refine lv_iload hx hb dL_law_82 (lv_at hl 0 rfl) ?_
    refine sj_iadd (v := nI (1 + (rs ++ [1 + x]).sum)) hx hb dL_law_84 (by rw [e_add, sum_snoc, Nat.add_assoc]) ?_
    refine lv_istore (lv' := [(5, .int (nI (1 + (rs ++ [1 + x]).sum))), (7, .int (nI (1 + x))), (6, .int (nI k)), (4, .ref bb), (3, .int v0), (2, .ref qw), (1, .ref q), (0, .ref b)]) hx hb dL_law_85 hl (by decide) rfl (fun ls hl => ?_)
    have hA0 : sj_A (tx0 w9 ++ its 1 rs) := (tx0_A (by omega)).app (its_A 1 rs fun d hd => by have := hrs d hd; omega)
    have hl0 := tx0_len w9
    have hl1 := its_len 1 rs
    have hnl : n ≤ 9 + 11 * k := by rw [← hn, List.length_append]; omega
    refine lv_aload hx hb dL_law_87 (lv_at hl 3 rfl) ?_
    refine va_ldcS hx hb hown (sw_sR hY 4 rfl) dL_law_89 ?_
    refine lw_tailr (f0 := fun _ : Nat × Nat => bb) (sw_runV (As := [.ref (Z (20 + 4))]) (rest := []) Cx hP hD hS mv_J4_append_15ec4 ml_L_162 (c_sj_AppS l G ca Z bb vv n mm (tx0 w9 ++ its 1 rs) 4 H.size hA0 hn hnm hm hm2 (by decide) (by show n + 8 ≤ 119; omega)) 8 rfl rfl rfl [53, 54] (tl_2 hn0) rfl rfl rfl ⟨(Nat.le_of_ble_eq_true rfl), (Nat.le_of_ble_eq_true rfl)⟩ hl.1 rfl rfl (Nat.le_of_ble_eq_true rfl) dL_law_91 ⟨by show _ ≤ 600086; omega, by show _ ≤ 7301442; omega⟩) hP hD hS hA hn0 (by decide +kernel) [53, 54] (tl_2 hn0) tl_d2 (fun u9 H locs hw hP hD hS => ?_)
    obtain ⟨vv, mm⟩ := u9
    obtain ⟨hnm, hm, hm2⟩ := hw
    have hn1 : ((tx0 w9 ++ its 1 rs) ++ sw_byt.getD 4 []).length = (n + sw_len.getD 4 0) := by rw [List.length_append, hn]; rfl
    have hb8 : sj_A (sw_byt.getD 4 []) := by unfold sj_A; decide
    have hA1 : sj_A ((tx0 w9 ++ its 1 rs) ++ sw_byt.getD 4 []) := hA0.app hb8
    have hd2 := sj_dn2 (1 + x)
    refine lv_iload hx hb dL_law_94 (lv_at hl 1 rfl) ?_
    refine lw_tailr (f0 := fun _ : Nat × Nat => bb) (sw_runV (As := [.int (nI (1 + x))]) (rest := []) Cx hP hD hS mv_J4_append_bf812 ml_L_153 (c_sj_AppI l G ca Z bb vv (n + sw_len.getD 4 0) mm ((tx0 w9 ++ its 1 rs) ++ sw_byt.getD 4 []) (1 + x) H.size hA1 hn1 hnm hm hm2 (by omega) (by show n + 8 + sj_dn (1 + x) ≤ 119; omega)) 8 rfl rfl rfl [53, 54] (tl_2 hn0) rfl rfl rfl ⟨(Nat.le_of_ble_eq_true rfl), (Nat.le_of_ble_eq_true rfl)⟩ hl.1 rfl rfl (Nat.le_of_ble_eq_true rfl) dL_law_96 ⟨by show _ ≤ 600086; omega, by show _ ≤ 7301442; omega⟩) hP hD hS hA hn0 (by decide +kernel) [53, 54] (tl_2 hn0) tl_d2 (fun u9 H locs hw hP hD hS => ?_)
    obtain ⟨vv, mm⟩ := u9
    obtain ⟨hnm, hm, hm2⟩ := hw
    have hn2 : (((tx0 w9 ++ its 1 rs) ++ sw_byt.getD 4 []) ++ sj_dg (1 + x)).length = ((n + sw_len.getD 4 0) + sj_dn (1 + x)) := by rw [List.length_append, hn1, sj_dgl]
    have hA2 : sj_A (((tx0 w9 ++ its 1 rs) ++ sw_byt.getD 4 []) ++ sj_dg (1 + x)) := hA1.app (sj_dgA (by omega))
    refine lv_bipush (v := nI 59) hx hb dL_law_99 (by decide) ?_
    refine lw_tailr (f0 := fun _ : Nat × Nat => bb) (sw_runV (As := [.int (nI 59)]) (rest := []) Cx hP hD hS mv_J4_append_cf468 ml_L_157 (c_sj_AppC l G ca Z bb vv ((n + sw_len.getD 4 0) + sj_dn (1 + x)) mm (((tx0 w9 ++ its 1 rs) ++ sw_byt.getD 4 []) ++ sj_dg (1 + x)) (nI 59) H.size hA2 hn2 hnm hm hm2 (by decide) (by show n + 8 + sj_dn (1 + x) + 1 ≤ 119; omega)) 8 rfl rfl rfl [53, 54] (tl_2 hn0) rfl rfl rfl ⟨(Nat.le_of_ble_eq_true rfl), (Nat.le_of_ble_eq_true rfl)⟩ hl.1 rfl rfl (Nat.le_of_ble_eq_true rfl) dL_law_101 ⟨by show _ ≤ 600086; omega, by show _ ≤ 7301442; omega⟩) hP hD hS hA hn0 (by decide +kernel) [53, 54] (tl_2 hn0) tl_d2 (fun u9 H locs hw hP hD hS => ?_)
    obtain ⟨vv, mm⟩ := u9
    obtain ⟨hnm, hm, hm2⟩ := hw
    have hn3 : ((((tx0 w9 ++ its 1 rs) ++ sw_byt.getD 4 []) ++ sj_dg (1 + x)) ++ [nI 59]).length = (((n + sw_len.getD 4 0) + sj_dn (1 + x)) + 1) := by rw [List.length_append, hn2]; rfl
    have eT := tx_st (tx0 w9) rs (1 + x)
    rw [eT] at hP hD hn3
    refine lv_pop hx hb dL_law_104 rfl ?_
    refine lv_iinc (v := (nI (k + 1))) (lv' := [(6, .int (nI (k + 1))), (5, .int (nI (1 + (rs ++ [1 + x]).sum))), (7, .int (nI (1 + x))), (4, .ref bb), (3, .int v0), (2, .ref qw), (1, .ref q), (0, .ref b)]) hx hb dL_law_105 hl (k := 2) rfl (nI_1 k) (by decide) rfl (fun ls hl => ?_)
    refine lv_goto (tgt := 49) hx hb dL_law_108 (by decide) ?_
    exact ih (k + 1) (rs ++ [1 + x]) bb vv (((n + sw_len.getD 4 0) + sj_dn (1 + x)) + 1) mm H locs ls _ _ (by omega) (by rw [List.length_append, hlen]; rfl) (fun d hd => (List.mem_append.mp hd).elim (hrs d) (fun h => by rw [List.mem_singleton.mp h]; omega)) hn3 hnm hm hm2 (by omega) (by omega) hP hD hS (lv_sub hl [0, 1, 3, 4, 5, 6, 7] rfl)
set_option maxHeartbeats 40000000 in
set_option maxRecDepth 100000 in
theorem lk_111 (C : lc63 p l s m meth c G ca Z b L xs) {w0 : va_W} (hn0 : w0.length = 53) (hw9 : w9 < 5) {rs : List Nat} (hr4 : rs.length ≤ 4) (hrs : ∀ x ∈ rs, 1 ≤ x ∧ x ≤ 50) (KD : ∀ (ds : List Nat) (bb vv n mm : Nat) (H : Heap) (locs : List Loc) (ls : Array Slot) (cells slots : Nat), ds.length ≤ 5 → (∀ x ∈ ds, 2 ≤ x ∧ x ≤ 26) → ds.Nodup → (tx0 w9 ++ its 1 rs ++ its 2 ds).length = n → n ≤ mm → mm ≤ 240 → cells ≤ 1000 → slots ≤ 100000 → va_P G vwCl (w0 ++ [(bb, .inr (8, [.ref vv, .int 0, .int 0, .int (nI n)])), (vv, .inl (ca 1, mm, .inl (sj_F (tx0 w9 ++ its 1 rs ++ its 2 ds))))]) H → va_D (lwA s) (w0 ++ [(bb, .inr (8, [.ref vv, .int 0, .int 0, .int (nI n)])), (vv, .inl (ca 1, mm, .inl (sj_F (tx0 w9 ++ its 1 rs ++ its 2 ds))))]) → va_S (lwA s) s.heap H locs → lv_has ls 12 [(5, .int (nI (1 + rs.sum))), (4, .ref bb), (2, .ref qw), (1, .ref q), (0, .ref b)] → W p l e room_1 s m #[.ref b] below meth c H locs cells slots Q (F0 m 194 ls [])) {bb vv n mm : Nat} {H : Heap} {locs : List Loc} {ls : Array Slot} {cells slots : Nat} (hn : (tx0 w9 ++ its 1 rs).length = n) (hnm : n ≤ mm) (hm : 22 ≤ mm) (hm2 : mm ≤ 240) (hcb : cells ≤ 800) (hsb : slots ≤ 70000) (hP : va_P G vwCl (w0 ++ [(bb, .inr (8, [.ref vv, .int 0, .int 0, .int (nI n)])), (vv, .inl (ca 1, mm, .inl (sj_F (tx0 w9 ++ its 1 rs))))]) H) (hD : va_D (lwA s) (w0 ++ [(bb, .inr (8, [.ref vv, .int 0, .int 0, .int (nI n)])), (vv, .inl (ca 1, mm, .inl (sj_F (tx0 w9 ++ its 1 rs))))])) (hS : va_S (lwA s) s.heap H locs) (hl : lv_has ls 12 [(6, .int (nI rs.length)), (5, .int (nI (1 + rs.sum))), (4, .ref bb), (3, .int v0), (2, .ref qw), (1, .ref q), (0, .ref b)]) : W p l e room_1 s m #[.ref b] below meth c H locs cells slots Q (F0 m 111 ls []) := by
  obtain ⟨Cx, hXs, hbl, hL⟩ := id C
  obtain ⟨⟨hx, hb, hml, hown, htU⟩, hK, hX, hY, hA⟩ := id Cx
  have hmo := mo_lt (v0 >>> ((3 : Int32) &&& 31)) (m := 6) (by decide)
  have eN : (tx0 w9 ++ its 1 rs) = (tx0 w9 ++ its 1 rs) ++ its 2 [] := (List.append_nil _).symm
  rw [eN] at hP hD hn
  refine lv_iconst (v := nI 0) hx hb dL_law_111 (by decide) ?_
  refine lv_istore (lv' := [(6, .int (nI 0)), (5, .int (nI (1 + rs.sum))), (4, .ref bb), (3, .int v0), (2, .ref qw), (1, .ref q), (0, .ref b)]) hx hb dL_law_112 hl (by decide) rfl (fun ls hl => ?_)
  refine lv_iconst (v := nI 0) hx hb dL_law_114 (by decide) ?_
  refine lv_istore (lv' := [(7, .int (nI 0)), (6, .int (nI 0)), (5, .int (nI (1 + rs.sum))), (4, .ref bb), (3, .int v0), (2, .ref qw), (1, .ref q), (0, .ref b)]) hx hb dL_law_115 hl (by decide) rfl (fun ls hl => ?_)
  exact lc_117 C hn0 hw9 hr4 hrs KD (mo (v0 >>> ((3 : Int32) &&& 31)) 6) 0 [] 0 bb vv n mm H locs ls _ _ (Nat.zero_add _) (Nat.le_refl _) (fun _ h => absurd h List.not_mem_nil) List.nodup_nil SEN_nil hn hnm hm hm2 (by omega) (by omega) hP hD hS hl
end
