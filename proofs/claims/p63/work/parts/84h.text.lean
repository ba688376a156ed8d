/-! ===== the law: texts at the entry ===== -/
def lw_tm : List Term := [.string RX4 29, .string RX4 80, .string RX4 91, .string RL 148, .string RL 160, .string RL 165]
def lw_df (i j : Nat) : Nat := ((List.range 9).find? (fun t => decide ((sw_byt.getD i []).getD t 0 ≠ (sw_byt.getD j []).getD t 0))).getD 0
theorem lw_txd : ∀ i, i < 6 → ∀ j, j < 6 → i ≠ j → Int32.ofNat (sw_len.getD i 0) ≠ Int32.ofNat (sw_len.getD j 0) ∨ (lw_df i j < sw_len.getD i 0 ∧ lw_df i j < sw_len.getD j 0 ∧ (sw_byt.getD i []).getD (lw_df i j) 0 ≠ (sw_byt.getD j []).getD (lw_df i j) 0) := by decide +kernel
theorem lw_text {s : State} {b : Nat} (hgv : (Jvm.Cond.and given_1 narrow_1).before #[Value.ref b] s = true) :
    ∃ aK aV : Nat → Nat, vk_S 6 sw_len sw_byt aK aV (lwA s) s s.heap ∧ ∀ i, i < 6 → (lw_tm.getD i (.int 0)).eval #[Value.ref b] s none [] s = some (.ref (aK i)) := by
  have hs := flat_of_before _ hgv
  have hex : ∀ i, i < 6 → (Cond.exactly (lw_tm.getD i (.int 0)) "java/lang/String").before #[Value.ref b] s = true := fun i hi => by
    rcases (by omega : i = 0 ∨ i = 1 ∨ i = 2 ∨ i = 3 ∨ i = 4 ∨ i = 5) with rfl | rfl | rfl | rfl | rfl | rfl <;> exact hs _ (by decide +kernel)
  have hco : ∀ i, i < 6 → (Cond.eq (.field (lw_tm.getD i (.int 0)) "java/lang/String" "coder" "B") (.int 0)).before #[Value.ref b] s = true := fun i hi => by
    rcases (by omega : i = 0 ∨ i = 1 ∨ i = 2 ∨ i = 3 ∨ i = 4 ∨ i = 5) with rfl | rfl | rfl | rfl | rfl | rfl <;> exact hs _ (by decide +kernel)
  have har : ∀ i, i < 6 → (Cond.arrayOf (.field (lw_tm.getD i (.int 0)) "java/lang/String" "value" "[B") .byte).before #[Value.ref b] s = true := fun i hi => by
    rcases (by omega : i = 0 ∨ i = 1 ∨ i = 2 ∨ i = 3 ∨ i = 4 ∨ i = 5) with rfl | rfl | rfl | rfl | rfl | rfl <;> exact hs _ (by decide +kernel)
  have hle : ∀ i, i < 6 → (Cond.eq (.length (.field (lw_tm.getD i (.int 0)) "java/lang/String" "value" "[B")) (.int (Int32.ofNat (sw_len.getD i 0)))).before #[Value.ref b] s = true := fun i hi => by
    rcases (by omega : i = 0 ∨ i = 1 ∨ i = 2 ∨ i = 3 ∨ i = 4 ∨ i = 5) with rfl | rfl | rfl | rfl | rfl | rfl <;> exact hs _ (by decide +kernel)
  have hel : ∀ i, i < 6 → ∀ j, j < sw_len.getD i 0 → (Cond.eq (.elem (.field (lw_tm.getD i (.int 0)) "java/lang/String" "value" "[B") (.int (Int32.ofNat j))) (.int ((sw_byt.getD i []).getD j 0))).before #[Value.ref b] s = true := fun i hi j hj => by
    rcases (by omega : i = 0 ∨ i = 1 ∨ i = 2 ∨ i = 3 ∨ i = 4 ∨ i = 5) with rfl | rfl | rfl | rfl | rfl | rfl
    · have hj : j < 5 := hj
      rcases (by omega : j = 0 ∨ j = 1 ∨ j = 2 ∨ j = 3 ∨ j = 4) with rfl | rfl | rfl | rfl | rfl <;> exact hs _ (by decide +kernel)
    · have hj : j < 7 := hj
      rcases (by omega : j = 0 ∨ j = 1 ∨ j = 2 ∨ j = 3 ∨ j = 4 ∨ j = 5 ∨ j = 6) with rfl | rfl | rfl | rfl | rfl | rfl | rfl <;> exact hs _ (by decide +kernel)
    · have hj : j < 7 := hj
      rcases (by omega : j = 0 ∨ j = 1 ∨ j = 2 ∨ j = 3 ∨ j = 4 ∨ j = 5 ∨ j = 6) with rfl | rfl | rfl | rfl | rfl | rfl | rfl <;> exact hs _ (by decide +kernel)
    · have hj : j < 6 := hj
      rcases (by omega : j = 0 ∨ j = 1 ∨ j = 2 ∨ j = 3 ∨ j = 4 ∨ j = 5) with rfl | rfl | rfl | rfl | rfl | rfl <;> exact hs _ (by decide +kernel)
    · have hj : j < 8 := hj
      rcases (by omega : j = 0 ∨ j = 1 ∨ j = 2 ∨ j = 3 ∨ j = 4 ∨ j = 5 ∨ j = 6 ∨ j = 7) with rfl | rfl | rfl | rfl | rfl | rfl | rfl | rfl <;> exact hs _ (by decide +kernel)
    · have hj : j < 8 := hj
      rcases (by omega : j = 0 ∨ j = 1 ∨ j = 2 ∨ j = 3 ∨ j = 4 ∨ j = 5 ∨ j = 6 ∨ j = 7) with rfl | rfl | rfl | rfl | rfl | rfl | rfl | rfl <;> exact hs _ (by decide +kernel)
  have hne : ∀ i j, i < 6 → j < 6 → i ≠ j → (Cond.not (Cond.eq (lw_tm.getD i (.int 0)) (lw_tm.getD j (.int 0)))).before #[Value.ref b] s = true := fun i j hi hj hij => by
    obtain ⟨x, -, -, -, e1, -⟩ := Cond.exactly_spec (hex i hi)
    obtain ⟨y, -, -, -, e2, -⟩ := Cond.exactly_spec (hex j hj)
    rcases lw_txd i hi j hj hij with h | ⟨h1, h2, h3⟩
    · exact lw_neqL h (hle i hi) (hle j hj) e1 e2
    · exact lw_neqE h3 (hel i hi _ h1) (hel j hj _ h2) e1 e2
  exact vk_Sof (tm := fun i => lw_tm.getD i (.int 0)) (len := sw_len) (byt := sw_byt) (by decide +kernel) hex hco har hle hel (fun i j hi hj hij => Or.inl (hne i j hi hj hij)) lw_nA
/-- other addresses, the same cells -/
theorem lw_Tg {ty : FieldType} {t N : Nat} {f g : Nat → Value} {A : Nat → Prop} {U : State} {H : Heap} (h : va_T ty t N f A U H) (e : ∀ j, j < N → g j = f j) : va_T ty t N g A U H := by
  obtain ⟨cell, h1, h2, h3, h4, h5, h6, h7⟩ := h
  exact ⟨cell, h1, h2, h3, h4, h5, fun j hj => by rw [e j hj]; exact h6 j hj, h7⟩
theorem lw_Eg {E d : String} {nm : List String} {F : List (String × String × String × List Int32)} {ad ad' : Nat → Nat} {A : Nat → Prop} {U : State} {H : Heap} (h : va_En E d nm F ad A U H) (e : ∀ i, i < nm.length → ad' i = ad i) : va_En E d nm F ad' A U H :=
  ⟨fun i hi => by rw [e i hi]; exact h.1 i hi, fun i j hi hj => by rw [e i hi, e j hj]; exact h.2 i j hi hj⟩
theorem lw_Sg {N : Nat} {len : List Nat} {byt : List (List Int32)} {aK aV aK' aV' : Nat → Nat} {A : Nat → Prop} {U : State} {H : Heap} (h : vk_S N len byt aK aV A U H) (e : ∀ i, i < N → aK' i = aK i) (f : ∀ i, i < N → aV' i = aV i) : vk_S N len byt aK' aV' A U H :=
  ⟨fun i hi => by rw [e i hi, f i hi]; exact h.1 i hi, fun i j hi hj => by rw [e i hi, e j hj]; exact h.2 i j hi hj⟩
/-- one list of addresses -/
theorem lw_Zx (z0 z1 z2 z3 z4 : Nat) (ad aK aV : Nat → Nat) : ∃ Z : Nat → Nat, Z 0 = z0 ∧ Z 1 = z1 ∧ Z 2 = z2 ∧ Z 3 = z3 ∧ Z 4 = z4 ∧ (∀ i, i < 10 → Z (10 + i) = ad i) ∧ (∀ i, i < 13 → Z (20 + i) = aK i) ∧ ∀ i, i < 13 → Z (40 + i) = aV i := by
  refine ⟨fun k => if k = 0 then z0 else if k = 1 then z1 else if k = 2 then z2 else if k = 3 then z3 else if k = 4 then z4 else if k < 20 then ad (k - 10) else if k < 40 then aK (k - 20) else aV (k - 40), rfl, rfl, rfl, rfl, rfl, fun i hi => ?_, fun i hi => ?_, fun i hi => ?_⟩
  · show (if 10 + i = 0 then z0 else if 10 + i = 1 then z1 else if 10 + i = 2 then z2 else if 10 + i = 3 then z3 else if 10 + i = 4 then z4 else if 10 + i < 20 then ad (10 + i - 10) else if 10 + i < 40 then aK (10 + i - 20) else aV (10 + i - 40)) = ad i
    rw [if_neg (by omega), if_neg (by omega), if_neg (by omega), if_neg (by omega), if_neg (by omega), if_pos (by omega), Nat.add_sub_cancel_left]
  · show (if 20 + i = 0 then z0 else if 20 + i = 1 then z1 else if 20 + i = 2 then z2 else if 20 + i = 3 then z3 else if 20 + i = 4 then z4 else if 20 + i < 20 then ad (20 + i - 10) else if 20 + i < 40 then aK (20 + i - 20) else aV (20 + i - 40)) = aK i
    rw [if_neg (by omega), if_neg (by omega), if_neg (by omega), if_neg (by omega), if_neg (by omega), if_neg (by omega), if_pos (by omega), Nat.add_sub_cancel_left]
  · show (if 40 + i = 0 then z0 else if 40 + i = 1 then z1 else if 40 + i = 2 then z2 else if 40 + i = 3 then z3 else if 40 + i = 4 then z4 else if 40 + i < 20 then ad (40 + i - 10) else if 40 + i < 40 then aK (40 + i - 20) else aV (40 + i - 40)) = aV i
    rw [if_neg (by omega), if_neg (by omega), if_neg (by omega), if_neg (by omega), if_neg (by omega), if_neg (by omega), if_neg (by omega), Nat.add_sub_cancel_left]
/-- what the statics hold at the entry -/
theorem lw_S {s : State} {b : Nat} (hts : ∀ w ∈ lw_tbl, w.before #[Value.ref b] s = true) (hgv : (Jvm.Cond.and given_1 narrow_1).before #[Value.ref b] s = true) : ∃ Z : Nat → Nat, sw_SX Z (lwA s) s s.heap ∧ sw_SY Z s := by
  have hs := flat_of_before _ hgv
  obtain ⟨z0, p1, p2⟩ := lw_primes hts hgv
  obtain ⟨z1, q1, q2⟩ := lw_products hts hgv
  obtain ⟨z2, m1, m2⟩ := lw_smap hts hgv
  obtain ⟨z3, a1, a2⟩ := lw_tens hts hgv
  obtain ⟨z4, b1, b2⟩ := lw_ones hts hgv
  obtain ⟨ad, hE⟩ := lw_enum hts hgv
  obtain ⟨aK, aV, hT, hte⟩ := lw_text hgv
  obtain ⟨Z, rfl, rfl, rfl, rfl, rfl, e1, e2, e3⟩ := lw_Zx z0 z1 z2 z3 z4 ad aK aV
  have hk : ∀ i, i < 6 → (lw_tm.getD i (.int 0)).eval #[Value.ref b] s none [] s = some (.ref (Z (20 + i))) := fun i hi => by
    rw [e2 i (by omega)]
    exact hte i hi
  have hE2 : va_En RX2 "LStrikeWheels$Order;" sw_nm sw_oF (fun k => Z (10 + k)) (lwA s) s s.heap := lw_Eg hE (fun i hi => e1 i (by have hi : i < 9 := hi; omega))
  have hT2 : vk_S 6 sw_len sw_byt (fun k => Z (20 + k)) (fun k => Z (40 + k)) (lwA s) s s.heap := lw_Sg hT (fun i hi => e2 i (by omega)) (fun i hi => e3 i (by omega))
  refine ⟨Z, ⟨⟨p1, p2⟩, ⟨q1, q2⟩, ⟨m1, m2⟩, ⟨a1, a2⟩, hE2, ⟨b1, b2⟩, hT2, (lw_cmp hts hgv).1, (lw_cmp hts hgv).2⟩, ⟨?_, (lw_ao hts).1, (lw_ao hts).2, lw_tb hts⟩⟩
  intro q hq
  simp only [sw_sr, List.mem_cons, List.not_mem_nil, or_false] at hq
  rcases hq with rfl | rfl | rfl | rfl | rfl | rfl
  · exact vk_R.of (A := #[Value.ref b]) (own := RX4) (k := 29) (tx := "sieve") (a := Z (20 + 0)) (hts _ (by decide +kernel)) (hk 0 (by decide))
  · exact vk_R.of (A := #[Value.ref b]) (own := RX4) (k := 80) (tx := "stretch") (a := Z (20 + 1)) (hts _ (by decide +kernel)) (hk 1 (by decide))
  · exact vk_R.of (A := #[Value.ref b]) (own := RX4) (k := 91) (tx := "striker") (a := Z (20 + 2)) (hts _ (by decide +kernel)) (hk 2 (by decide))
  · exact vk_R.of (A := #[Value.ref b]) (own := RL) (k := 148) (tx := "sieve ") (a := Z (20 + 3)) (hts _ (by decide +kernel)) (hk 3 (by decide))
  · exact vk_R.of (A := #[Value.ref b]) (own := RL) (k := 160) (tx := "stretch ") (a := Z (20 + 4)) (hts _ (by decide +kernel)) (hk 4 (by decide))
  · exact vk_R.of (A := #[Value.ref b]) (own := RL) (k := 165) (tx := "striker ") (a := Z (20 + 5)) (hts _ (by decide +kernel)) (hk 5 (by decide))
