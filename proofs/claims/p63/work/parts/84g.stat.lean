/-! ===== the law: what is known at the entry ===== -/
theorem lw_Kc {args : Array Value} {s : State} (hts : ∀ w ∈ sw_U, w.before args s = true) : ∀ c : Nat, ∃ x : ClassId × (Nat → Nat), ∀ q : vw_C, vwCl[c]? = some q → u_Kn s q.1 q.2.1 q.2.2 x.1 x.2
  | 0 => by obtain ⟨cC, iS, h⟩ := u_known hts iU_X1 (hts _ ins_X1); exact ⟨(cC, iS), fun q hq => by cases hq; exact h⟩
  | 1 => by obtain ⟨cC, iS, h⟩ := u_known hts iU_X3 (hts _ ins_X3); exact ⟨(cC, iS), fun q hq => by cases hq; exact h⟩
  | 2 => by obtain ⟨cC, iS, h⟩ := u_known hts iU_X4 (hts _ ins_X4); exact ⟨(cC, iS), fun q hq => by cases hq; exact h⟩
  | 3 => by obtain ⟨cC, iS, h⟩ := u_known hts iU_X5 (hts _ ins_X5); exact ⟨(cC, iS), fun q hq => by cases hq; exact h⟩
  | 4 => by obtain ⟨cC, iS, h⟩ := u_known hts iU_X6 (hts _ ins_X6); exact ⟨(cC, iS), fun q hq => by cases hq; exact h⟩
  | 5 => by obtain ⟨cC, iS, h⟩ := u_known hts iU_X7 (hts _ ins_X7); exact ⟨(cC, iS), fun q hq => by cases hq; exact h⟩
  | 6 => by obtain ⟨cC, iS, h⟩ := u_known hts iU_X8 (hts _ ins_X8); exact ⟨(cC, iS), fun q hq => by cases hq; exact h⟩
  | 7 => by obtain ⟨cC, iS, h⟩ := u_known hts iU_X10 (hts _ ins_X10); exact ⟨(cC, iS), fun q hq => by cases hq; exact h⟩
  | 8 => by obtain ⟨cC, iS, h⟩ := u_known hts iU_J4 (hts _ ins_J4); exact ⟨(cC, iS), fun q hq => by cases hq; exact h⟩
  | 9 => by obtain ⟨cC, iS, h⟩ := u_known hts iU_J0 (hts _ ins_J0); exact ⟨(cC, iS), fun q hq => by cases hq; exact h⟩
  | c + 10 => ⟨(0, fun _ => 0), fun q hq => by
      have : c + 10 < 10 := (List.getElem?_eq_some_iff.mp hq).1
      omega⟩
theorem lw_Ka {args : Array Value} {s : State} {ty : FieldType} (h : (Cond.arrayClass ty).before args s = true) (hp : ∀ C, ty ≠ .object C) : ∃ cA : ClassId, ArrOfT s cA ty ∧ va_RA s cA ty := by
  obtain ⟨cA, kA, comp, h1, h2, h3⟩ := Cond.arrayClass_spec h
  refine ⟨cA, fun n z => ⟨(fun k h => by cases h), kA, h2, comp, h3⟩, ?_⟩
  cases ty <;> first | exact h1 | exact absurd rfl (hp _)
theorem lw_Ko {args : Array Value} {s : State} {C : String} (h : (Cond.arrayOver (.object C)).before args s = true) : ∃ cA : ClassId, ArrOfT s cA (.object C) ∧ va_RA s cA (.object C) := by
  obtain ⟨comp, cA, kA, h1, -, h3, h4, h5⟩ := Cond.arrayOver_spec h
  exact ⟨cA, fun n z => ⟨(fun k h => by cases h), kA, h3, comp, h4⟩, kA, comp, h3, h4, h1, h5⟩
theorem lw_K {args : Array Value} {s : State} (hts : ∀ w ∈ sw_U, w.before args s = true) (o3 : (Cond.arrayOver (.object RX3)).before args s = true) (o2 : (Cond.arrayOver (.object RX2)).before args s = true) :
    ∃ (G : va_G) (ca : Nat → ClassId), va_K G vwCl (sw_tys ca) s := by
  obtain ⟨f, hf⟩ := Classical.axiomOfChoice (lw_Kc hts)
  obtain ⟨c0, a0, b0⟩ := lw_Ka (hts _ ac_int) (fun _ h => by cases h)
  obtain ⟨c1, a1, b1⟩ := lw_Ka (hts _ ac_byte) (fun _ h => by cases h)
  obtain ⟨c3, a3, b3⟩ := lw_Ko o3
  obtain ⟨c4, a4, b4⟩ := lw_Ko o2
  refine ⟨(fun c => (f c).1, fun c => (f c).2), fun k => match k with | 0 => c0 | 1 => c1 | 2 => c3 | _ => c4, fun c q hq => hf c q hq, fun k q hk => ?_⟩
  match k, hk with
  | 0, hk => cases hk; exact ⟨a0, b0⟩
  | 1, hk => cases hk; exact ⟨a1, b1⟩
  | 2, hk => cases hk; exact ⟨a3, b3⟩
  | 3, hk => cases hk; exact ⟨a4, b4⟩
  | k + 4, hk =>
    have : k + 4 < 4 := (List.getElem?_eq_some_iff.mp hk).1
    omega
/-! ===== the law: statics at the entry ===== -/
theorem lw_nA {s : State} : ∀ a : Nat, a < s.heap.size → ¬ lwA s a := fun a h z => absurd (show s.heap.size ≤ a from z) (by omega)
/-- a static array of ints -/
theorem lw_arr {args : Array Value} {s : State} {C n : String} {N : Nat} {f : Nat → Int32} (hN : N < 2 ^ 31) (hl : (Cond.laysStatic C n "[I").before args s = true) (hini : (Cond.initialized C).before args s = true) (harr : (Cond.arrayOf (.static C n "[I") .int).before args s = true)
    (hlen : (Cond.eq (.length (.static C n "[I")) (.int (Int32.ofNat N))).before args s = true) (hel : ∀ j : Nat, j < N → (Cond.eq (.elem (.static C n "[I") (.int (Int32.ofNat j))) (.int (f j))).before args s = true) :
    ∃ z : Nat, va_Z C n "[I" (.ref z) (lwA s) s s.heap ∧ va_T .int z N (fun j => .int (f j)) (lwA s) s s.heap := by
  obtain ⟨t, h1, h2⟩ := va_Tof hN harr (va_eqv hlen rfl) (fun j hj => va_eqv (hel j hj) rfl) lw_nA
  exact ⟨t, va_Zof hl hini h1 lw_nA, h2⟩
theorem lw_primes {s : State} {b : Nat} (hts : ∀ w ∈ lw_tbl, w.before #[Value.ref b] s = true) (hgv : (Jvm.Cond.and given_1 narrow_1).before #[Value.ref b] s = true) :
    ∃ z : Nat, va_Z RX9 "PRIMES" "[I" (.ref z) (lwA s) s s.heap ∧ va_T .int z 4 (fun j => .int (sw_p4 j)) (lwA s) s s.heap := by
  have hs := flat_of_before _ hgv
  refine lw_arr (by decide) (hts _ (by decide +kernel)) (hts _ (by decide +kernel)) (hs _ (by decide +kernel)) (hs _ (by decide +kernel)) (fun j hj => ?_)
  rcases (by omega : j = 0 ∨ j = 1 ∨ j = 2 ∨ j = 3) with rfl | rfl | rfl | rfl
  · exact hs _ (by decide +kernel)
  · exact hs _ (by decide +kernel)
  · exact hs _ (by decide +kernel)
  · exact hs _ (by decide +kernel)
theorem lw_products {s : State} {b : Nat} (hts : ∀ w ∈ lw_tbl, w.before #[Value.ref b] s = true) (hgv : (Jvm.Cond.and given_1 narrow_1).before #[Value.ref b] s = true) :
    ∃ z : Nat, va_Z RX9 "PRODUCTS" "[I" (.ref z) (lwA s) s s.heap ∧ va_T .int z 5 (fun j => .int (sw_p5 j)) (lwA s) s s.heap := by
  have hs := flat_of_before _ hgv
  refine lw_arr (by decide) (hts _ (by decide +kernel)) (hts _ (by decide +kernel)) (hs _ (by decide +kernel)) (hs _ (by decide +kernel)) (fun j hj => ?_)
  rcases (by omega : j = 0 ∨ j = 1 ∨ j = 2 ∨ j = 3 ∨ j = 4) with rfl | rfl | rfl | rfl | rfl <;> exact hs _ (by decide +kernel)
theorem lw_smap {s : State} {b : Nat} (hts : ∀ w ∈ lw_tbl, w.before #[Value.ref b] s = true) (hgv : (Jvm.Cond.and given_1 narrow_1).before #[Value.ref b] s = true) :
    ∃ z : Nat, va_Z RX0 "$SwitchMap$StrikeWheels$Order" "[I" (.ref z) (lwA s) s s.heap ∧ va_T .int z 10 (fun j => .int (sw_sm j)) (lwA s) s s.heap := by
  have hs := flat_of_before _ hgv
  refine lw_arr (by decide) (hts _ (by decide +kernel)) (hts _ (by decide +kernel)) (hs _ (by decide +kernel)) (hs _ (by decide +kernel)) (fun j hj => ?_)
  rcases (by omega : j = 0 ∨ j = 1 ∨ j = 2 ∨ j = 3 ∨ j = 4 ∨ j = 5 ∨ j = 6 ∨ j = 7 ∨ j = 8 ∨ j = 9) with rfl | rfl | rfl | rfl | rfl | rfl | rfl | rfl | rfl | rfl <;> exact hs _ (by decide +kernel)
/-- a static array of bytes -/
theorem lw_arrb {args : Array Value} {s : State} {C n : String} {N : Nat} {f : Nat → Int32} (hN : N < 2 ^ 31) (hl : (Cond.laysStatic C n "[B").before args s = true) (hini : (Cond.initialized C).before args s = true) (harr : (Cond.arrayOf (.static C n "[B") .byte).before args s = true)
    (hlen : (Cond.eq (.length (.static C n "[B")) (.int (Int32.ofNat N))).before args s = true) (hel : ∀ j : Nat, j < N → (Cond.eq (.elem (.static C n "[B") (.int (Int32.ofNat j))) (.int (f j))).before args s = true) :
    ∃ z : Nat, va_Z C n "[B" (.ref z) (lwA s) s s.heap ∧ va_T .byte z N (fun j => .int (f j)) (lwA s) s s.heap := by
  obtain ⟨t, h1, h2⟩ := va_Tof hN harr (va_eqv hlen rfl) (fun j hj => va_eqv (hel j hj) rfl) lw_nA
  exact ⟨t, va_Zof hl hini h1 lw_nA, h2⟩
/-- a condition's part, by its path -/
def lw_pt : List Bool → Cond → Cond
  | [], c => c
  | x :: p, c => match c with
    | .and a b => lw_pt p (match x with | true => b | false => a)
    | c => c
theorem lw_pto {args : Array Value} {s : State} : ∀ (p : List Bool) (T : Cond), T.before args s = true → (lw_pt p T).before args s = true := by
  intro p
  induction p with
  | nil => intro T h; exact h
  | cons x p ih =>
    intro T h
    cases T with
    | and a b =>
      rw [Cond.before_and, Bool.and_eq_true] at h
      cases x with
      | true => exact ih b h.2
      | false => exact ih a h.1
    | _ => exact h
theorem lw_az {P : Nat → Prop} : ∀ j, j < 0 → P j := fun j h => absurd h (Nat.not_lt_zero j)
theorem lw_as {P : Nat → Prop} {n : Nat} (h : ∀ j, j < n → P j) (h2 : P n) : ∀ j, j < n + 1 → P j := fun j hj => by
  by_cases q : j = n
  · subst q; exact h2
  · exact h j (by omega)
set_option maxRecDepth 100000 in
theorem lw_dtm : ∀ j, j < 100 → ∃ p : List Bool, lw_pt p narrow_1 = Cond.eq (.elem (.static RJ6 "DigitTens" "[B") (.int (Int32.ofNat j))) (.int (sw_dt j)) := by
  refine lw_as ?_ ⟨[true, false, true, true, true, true, false, true, true], rfl⟩
  refine lw_as ?_ ⟨[true, false, true, true, true, true, false, true, false], rfl⟩
  refine lw_as ?_ ⟨[true, false, true, true, true, true, false, false], rfl⟩
  refine lw_as ?_ ⟨[true, false, true, true, true, false, true, true, true], rfl⟩
  refine lw_as ?_ ⟨[true, false, true, true, true, false, true, true, false], rfl⟩
  refine lw_as ?_ ⟨[true, false, true, true, true, false, true, false, true], rfl⟩
  refine lw_as ?_ ⟨[true, false, true, true, true, false, true, false, false], rfl⟩
  refine lw_as ?_ ⟨[true, false, true, true, true, false, false, true, true], rfl⟩
  refine lw_as ?_ ⟨[true, false, true, true, true, false, false, true, false], rfl⟩
  refine lw_as ?_ ⟨[true, false, true, true, true, false, false, false], rfl⟩
  refine lw_as ?_ ⟨[true, false, true, true, false, true, true, true, true], rfl⟩
  refine lw_as ?_ ⟨[true, false, true, true, false, true, true, true, false], rfl⟩
  refine lw_as ?_ ⟨[true, false, true, true, false, true, true, false, true], rfl⟩
  refine lw_as ?_ ⟨[true, false, true, true, false, true, true, false, false], rfl⟩
  refine lw_as ?_ ⟨[true, false, true, true, false, true, false, true, true], rfl⟩
  refine lw_as ?_ ⟨[true, false, true, true, false, true, false, true, false], rfl⟩
  refine lw_as ?_ ⟨[true, false, true, true, false, true, false, false], rfl⟩
  refine lw_as ?_ ⟨[true, false, true, true, false, false, true, true, true], rfl⟩
  refine lw_as ?_ ⟨[true, false, true, true, false, false, true, true, false], rfl⟩
  refine lw_as ?_ ⟨[true, false, true, true, false, false, true, false, true], rfl⟩
  refine lw_as ?_ ⟨[true, false, true, true, false, false, true, false, false], rfl⟩
  refine lw_as ?_ ⟨[true, false, true, true, false, false, false, true, true], rfl⟩
  refine lw_as ?_ ⟨[true, false, true, true, false, false, false, true, false], rfl⟩
  refine lw_as ?_ ⟨[true, false, true, true, false, false, false, false], rfl⟩
  refine lw_as ?_ ⟨[true, false, true, false, true, true, true, true, true], rfl⟩
  refine lw_as ?_ ⟨[true, false, true, false, true, true, true, true, false], rfl⟩
  refine lw_as ?_ ⟨[true, false, true, false, true, true, true, false, true], rfl⟩
  refine lw_as ?_ ⟨[true, false, true, false, true, true, true, false, false], rfl⟩
  refine lw_as ?_ ⟨[true, false, true, false, true, true, false, true, true], rfl⟩
  refine lw_as ?_ ⟨[true, false, true, false, true, true, false, true, false], rfl⟩
  refine lw_as ?_ ⟨[true, false, true, false, true, true, false, false], rfl⟩
  refine lw_as ?_ ⟨[true, false, true, false, true, false, true, true, true], rfl⟩
  refine lw_as ?_ ⟨[true, false, true, false, true, false, true, true, false], rfl⟩
  refine lw_as ?_ ⟨[true, false, true, false, true, false, true, false, true], rfl⟩
  refine lw_as ?_ ⟨[true, false, true, false, true, false, true, false, false], rfl⟩
  refine lw_as ?_ ⟨[true, false, true, false, true, false, false, true, true], rfl⟩
  refine lw_as ?_ ⟨[true, false, true, false, true, false, false, true, false], rfl⟩
  refine lw_as ?_ ⟨[true, false, true, false, true, false, false, false], rfl⟩
  refine lw_as ?_ ⟨[true, false, true, false, false, true, true, true, true], rfl⟩
  refine lw_as ?_ ⟨[true, false, true, false, false, true, true, true, false], rfl⟩
  refine lw_as ?_ ⟨[true, false, true, false, false, true, true, false, true], rfl⟩
  refine lw_as ?_ ⟨[true, false, true, false, false, true, true, false, false], rfl⟩
  refine lw_as ?_ ⟨[true, false, true, false, false, true, false, true, true], rfl⟩
  refine lw_as ?_ ⟨[true, false, true, false, false, true, false, true, false], rfl⟩
  refine lw_as ?_ ⟨[true, false, true, false, false, true, false, false], rfl⟩
  refine lw_as ?_ ⟨[true, false, true, false, false, false, true, true, true], rfl⟩
  refine lw_as ?_ ⟨[true, false, true, false, false, false, true, true, false], rfl⟩
  refine lw_as ?_ ⟨[true, false, true, false, false, false, true, false, true], rfl⟩
  refine lw_as ?_ ⟨[true, false, true, false, false, false, true, false, false], rfl⟩
  refine lw_as ?_ ⟨[true, false, true, false, false, false, false, true, true], rfl⟩
  refine lw_as ?_ ⟨[true, false, true, false, false, false, false, true, false], rfl⟩
  refine lw_as ?_ ⟨[true, false, true, false, false, false, false, false], rfl⟩
  refine lw_as ?_ ⟨[true, false, false, true, true, true, true, true, true], rfl⟩
  refine lw_as ?_ ⟨[true, false, false, true, true, true, true, true, false], rfl⟩
  refine lw_as ?_ ⟨[true, false, false, true, true, true, true, false, true], rfl⟩
  refine lw_as ?_ ⟨[true, false, false, true, true, true, true, false, false], rfl⟩
  refine lw_as ?_ ⟨[true, false, false, true, true, true, false, true, true], rfl⟩
  refine lw_as ?_ ⟨[true, false, false, true, true, true, false, true, false], rfl⟩
  refine lw_as ?_ ⟨[true, false, false, true, true, true, false, false], rfl⟩
  refine lw_as ?_ ⟨[true, false, false, true, true, false, true, true, true], rfl⟩
  refine lw_as ?_ ⟨[true, false, false, true, true, false, true, true, false], rfl⟩
  refine lw_as ?_ ⟨[true, false, false, true, true, false, true, false, true], rfl⟩
  refine lw_as ?_ ⟨[true, false, false, true, true, false, true, false, false], rfl⟩
  refine lw_as ?_ ⟨[true, false, false, true, true, false, false, true, true], rfl⟩
  refine lw_as ?_ ⟨[true, false, false, true, true, false, false, true, false], rfl⟩
  refine lw_as ?_ ⟨[true, false, false, true, true, false, false, false], rfl⟩
  refine lw_as ?_ ⟨[true, false, false, true, false, true, true, true, true], rfl⟩
  refine lw_as ?_ ⟨[true, false, false, true, false, true, true, true, false], rfl⟩
  refine lw_as ?_ ⟨[true, false, false, true, false, true, true, false, true], rfl⟩
  refine lw_as ?_ ⟨[true, false, false, true, false, true, true, false, false], rfl⟩
  refine lw_as ?_ ⟨[true, false, false, true, false, true, false, true, true], rfl⟩
  refine lw_as ?_ ⟨[true, false, false, true, false, true, false, true, false], rfl⟩
  refine lw_as ?_ ⟨[true, false, false, true, false, true, false, false], rfl⟩
  refine lw_as ?_ ⟨[true, false, false, true, false, false, true, true, true], rfl⟩
  refine lw_as ?_ ⟨[true, false, false, true, false, false, true, true, false], rfl⟩
  refine lw_as ?_ ⟨[true, false, false, true, false, false, true, false, true], rfl⟩
  refine lw_as ?_ ⟨[true, false, false, true, false, false, true, false, false], rfl⟩
  refine lw_as ?_ ⟨[true, false, false, true, false, false, false, true, true], rfl⟩
  refine lw_as ?_ ⟨[true, false, false, true, false, false, false, true, false], rfl⟩
  refine lw_as ?_ ⟨[true, false, false, true, false, false, false, false], rfl⟩
  refine lw_as ?_ ⟨[true, false, false, false, true, true, true, true, true], rfl⟩
  refine lw_as ?_ ⟨[true, false, false, false, true, true, true, true, false], rfl⟩
  refine lw_as ?_ ⟨[true, false, false, false, true, true, true, false, true], rfl⟩
  refine lw_as ?_ ⟨[true, false, false, false, true, true, true, false, false], rfl⟩
  refine lw_as ?_ ⟨[true, false, false, false, true, true, false, true, true], rfl⟩
  refine lw_as ?_ ⟨[true, false, false, false, true, true, false, true, false], rfl⟩
  refine lw_as ?_ ⟨[true, false, false, false, true, true, false, false], rfl⟩
  refine lw_as ?_ ⟨[true, false, false, false, true, false, true, true, true], rfl⟩
  refine lw_as ?_ ⟨[true, false, false, false, true, false, true, true, false], rfl⟩
  refine lw_as ?_ ⟨[true, false, false, false, true, false, true, false, true], rfl⟩
  refine lw_as ?_ ⟨[true, false, false, false, true, false, true, false, false], rfl⟩
  refine lw_as ?_ ⟨[true, false, false, false, true, false, false, true, true], rfl⟩
  refine lw_as ?_ ⟨[true, false, false, false, true, false, false, true, false], rfl⟩
  refine lw_as ?_ ⟨[true, false, false, false, true, false, false, false], rfl⟩
  refine lw_as ?_ ⟨[true, false, false, false, false, true, true, true, true], rfl⟩
  refine lw_as ?_ ⟨[true, false, false, false, false, true, true, true, false], rfl⟩
  refine lw_as ?_ ⟨[true, false, false, false, false, true, true, false, true], rfl⟩
  refine lw_as ?_ ⟨[true, false, false, false, false, true, true, false, false], rfl⟩
  refine lw_as ?_ ⟨[true, false, false, false, false, true, false, true, true], rfl⟩
  refine lw_as ?_ ⟨[true, false, false, false, false, true, false, true, false], rfl⟩
  exact lw_az
set_option maxRecDepth 100000 in
theorem lw_dom : ∀ j, j < 100 → ∃ p : List Bool, lw_pt p narrow_1 = Cond.eq (.elem (.static RJ6 "DigitOnes" "[B") (.int (Int32.ofNat j))) (.int (sw_do j)) := by
  refine lw_as ?_ ⟨[true, false, false, false, false, false, true, false, true], rfl⟩
  refine lw_as ?_ ⟨[true, false, false, false, false, false, true, false, false], rfl⟩
  refine lw_as ?_ ⟨[true, false, false, false, false, false, false, true, true], rfl⟩
  refine lw_as ?_ ⟨[true, false, false, false, false, false, false, true, false], rfl⟩
  refine lw_as ?_ ⟨[true, false, false, false, false, false, false, false], rfl⟩
  refine lw_as ?_ ⟨[false, true, true, true, true, true, true, true, true], rfl⟩
  refine lw_as ?_ ⟨[false, true, true, true, true, true, true, true, false], rfl⟩
  refine lw_as ?_ ⟨[false, true, true, true, true, true, true, false, true], rfl⟩
  refine lw_as ?_ ⟨[false, true, true, true, true, true, true, false, false], rfl⟩
  refine lw_as ?_ ⟨[false, true, true, true, true, true, false, true, true], rfl⟩
  refine lw_as ?_ ⟨[false, true, true, true, true, true, false, true, false], rfl⟩
  refine lw_as ?_ ⟨[false, true, true, true, true, true, false, false, true], rfl⟩
  refine lw_as ?_ ⟨[false, true, true, true, true, true, false, false, false], rfl⟩
  refine lw_as ?_ ⟨[false, true, true, true, true, false, true, true, true], rfl⟩
  refine lw_as ?_ ⟨[false, true, true, true, true, false, true, true, false], rfl⟩
  refine lw_as ?_ ⟨[false, true, true, true, true, false, true, false, true], rfl⟩
  refine lw_as ?_ ⟨[false, true, true, true, true, false, true, false, false], rfl⟩
  refine lw_as ?_ ⟨[false, true, true, true, true, false, false, true, true], rfl⟩
  refine lw_as ?_ ⟨[false, true, true, true, true, false, false, true, false], rfl⟩
  refine lw_as ?_ ⟨[false, true, true, true, true, false, false, false], rfl⟩
  refine lw_as ?_ ⟨[false, true, true, true, false, true, true, true, true], rfl⟩
  refine lw_as ?_ ⟨[false, true, true, true, false, true, true, true, false], rfl⟩
  refine lw_as ?_ ⟨[false, true, true, true, false, true, true, false, true], rfl⟩
  refine lw_as ?_ ⟨[false, true, true, true, false, true, true, false, false], rfl⟩
  refine lw_as ?_ ⟨[false, true, true, true, false, true, false, true, true], rfl⟩
  refine lw_as ?_ ⟨[false, true, true, true, false, true, false, true, false], rfl⟩
  refine lw_as ?_ ⟨[false, true, true, true, false, true, false, false], rfl⟩
  refine lw_as ?_ ⟨[false, true, true, true, false, false, true, true, true], rfl⟩
  refine lw_as ?_ ⟨[false, true, true, true, false, false, true, true, false], rfl⟩
  refine lw_as ?_ ⟨[false, true, true, true, false, false, true, false, true], rfl⟩
  refine lw_as ?_ ⟨[false, true, true, true, false, false, true, false, false], rfl⟩
  refine lw_as ?_ ⟨[false, true, true, true, false, false, false, true, true], rfl⟩
  refine lw_as ?_ ⟨[false, true, true, true, false, false, false, true, false], rfl⟩
  refine lw_as ?_ ⟨[false, true, true, true, false, false, false, false], rfl⟩
  refine lw_as ?_ ⟨[false, true, true, false, true, true, true, true, true], rfl⟩
  refine lw_as ?_ ⟨[false, true, true, false, true, true, true, true, false], rfl⟩
  refine lw_as ?_ ⟨[false, true, true, false, true, true, true, false, true], rfl⟩
  refine lw_as ?_ ⟨[false, true, true, false, true, true, true, false, false], rfl⟩
  refine lw_as ?_ ⟨[false, true, true, false, true, true, false, true, true], rfl⟩
  refine lw_as ?_ ⟨[false, true, true, false, true, true, false, true, false], rfl⟩
  refine lw_as ?_ ⟨[false, true, true, false, true, true, false, false], rfl⟩
  refine lw_as ?_ ⟨[false, true, true, false, true, false, true, true, true], rfl⟩
  refine lw_as ?_ ⟨[false, true, true, false, true, false, true, true, false], rfl⟩
  refine lw_as ?_ ⟨[false, true, true, false, true, false, true, false, true], rfl⟩
  refine lw_as ?_ ⟨[false, true, true, false, true, false, true, false, false], rfl⟩
  refine lw_as ?_ ⟨[false, true, true, false, true, false, false, true, true], rfl⟩
  refine lw_as ?_ ⟨[false, true, true, false, true, false, false, true, false], rfl⟩
  refine lw_as ?_ ⟨[false, true, true, false, true, false, false, false], rfl⟩
  refine lw_as ?_ ⟨[false, true, true, false, false, true, true, true, true], rfl⟩
  refine lw_as ?_ ⟨[false, true, true, false, false, true, true, true, false], rfl⟩
  refine lw_as ?_ ⟨[false, true, true, false, false, true, true, false, true], rfl⟩
  refine lw_as ?_ ⟨[false, true, true, false, false, true, true, false, false], rfl⟩
  refine lw_as ?_ ⟨[false, true, true, false, false, true, false, true, true], rfl⟩
  refine lw_as ?_ ⟨[false, true, true, false, false, true, false, true, false], rfl⟩
  refine lw_as ?_ ⟨[false, true, true, false, false, true, false, false], rfl⟩
  refine lw_as ?_ ⟨[false, true, true, false, false, false, true, true, true], rfl⟩
  refine lw_as ?_ ⟨[false, true, true, false, false, false, true, true, false], rfl⟩
  refine lw_as ?_ ⟨[false, true, true, false, false, false, true, false, true], rfl⟩
  refine lw_as ?_ ⟨[false, true, true, false, false, false, true, false, false], rfl⟩
  refine lw_as ?_ ⟨[false, true, true, false, false, false, false, true, true], rfl⟩
  refine lw_as ?_ ⟨[false, true, true, false, false, false, false, true, false], rfl⟩
  refine lw_as ?_ ⟨[false, true, true, false, false, false, false, false], rfl⟩
  refine lw_as ?_ ⟨[false, true, false, true, true, true, true, true, true], rfl⟩
  refine lw_as ?_ ⟨[false, true, false, true, true, true, true, true, false], rfl⟩
  refine lw_as ?_ ⟨[false, true, false, true, true, true, true, false, true], rfl⟩
  refine lw_as ?_ ⟨[false, true, false, true, true, true, true, false, false], rfl⟩
  refine lw_as ?_ ⟨[false, true, false, true, true, true, false, true, true], rfl⟩
  refine lw_as ?_ ⟨[false, true, false, true, true, true, false, true, false], rfl⟩
  refine lw_as ?_ ⟨[false, true, false, true, true, true, false, false], rfl⟩
  refine lw_as ?_ ⟨[false, true, false, true, true, false, true, true, true], rfl⟩
  refine lw_as ?_ ⟨[false, true, false, true, true, false, true, true, false], rfl⟩
  refine lw_as ?_ ⟨[false, true, false, true, true, false, true, false, true], rfl⟩
  refine lw_as ?_ ⟨[false, true, false, true, true, false, true, false, false], rfl⟩
  refine lw_as ?_ ⟨[false, true, false, true, true, false, false, true, true], rfl⟩
  refine lw_as ?_ ⟨[false, true, false, true, true, false, false, true, false], rfl⟩
  refine lw_as ?_ ⟨[false, true, false, true, true, false, false, false], rfl⟩
  refine lw_as ?_ ⟨[false, true, false, true, false, true, true, true, true], rfl⟩
  refine lw_as ?_ ⟨[false, true, false, true, false, true, true, true, false], rfl⟩
  refine lw_as ?_ ⟨[false, true, false, true, false, true, true, false, true], rfl⟩
  refine lw_as ?_ ⟨[false, true, false, true, false, true, true, false, false], rfl⟩
  refine lw_as ?_ ⟨[false, true, false, true, false, true, false, true, true], rfl⟩
  refine lw_as ?_ ⟨[false, true, false, true, false, true, false, true, false], rfl⟩
  refine lw_as ?_ ⟨[false, true, false, true, false, true, false, false], rfl⟩
  refine lw_as ?_ ⟨[false, true, false, true, false, false, true, true, true], rfl⟩
  refine lw_as ?_ ⟨[false, true, false, true, false, false, true, true, false], rfl⟩
  refine lw_as ?_ ⟨[false, true, false, true, false, false, true, false, true], rfl⟩
  refine lw_as ?_ ⟨[false, true, false, true, false, false, true, false, false], rfl⟩
  refine lw_as ?_ ⟨[false, true, false, true, false, false, false, true, true], rfl⟩
  refine lw_as ?_ ⟨[false, true, false, true, false, false, false, true, false], rfl⟩
  refine lw_as ?_ ⟨[false, true, false, true, false, false, false, false], rfl⟩
  refine lw_as ?_ ⟨[false, true, false, false, true, true, true, true, true], rfl⟩
  refine lw_as ?_ ⟨[false, true, false, false, true, true, true, true, false], rfl⟩
  refine lw_as ?_ ⟨[false, true, false, false, true, true, true, false, true], rfl⟩
  refine lw_as ?_ ⟨[false, true, false, false, true, true, true, false, false], rfl⟩
  refine lw_as ?_ ⟨[false, true, false, false, true, true, false, true, true], rfl⟩
  refine lw_as ?_ ⟨[false, true, false, false, true, true, false, true, false], rfl⟩
  refine lw_as ?_ ⟨[false, true, false, false, true, true, false, false], rfl⟩
  refine lw_as ?_ ⟨[false, true, false, false, true, false, true, true, true], rfl⟩
  refine lw_as ?_ ⟨[false, true, false, false, true, false, true, true, false], rfl⟩
  refine lw_as ?_ ⟨[false, true, false, false, true, false, true, false, true], rfl⟩
  exact lw_az
theorem lw_tens {s : State} {b : Nat} (hts : ∀ w ∈ lw_tbl, w.before #[Value.ref b] s = true) (hgv : (Jvm.Cond.and given_1 narrow_1).before #[Value.ref b] s = true) :
    ∃ z : Nat, va_Z RJ6 "DigitTens" "[B" (.ref z) (lwA s) s s.heap ∧ va_T .byte z 100 (fun j => .int (sw_dt j)) (lwA s) s s.heap := by
  have hs := flat_of_before _ hgv
  have hn : narrow_1.before #[Value.ref b] s = true := by
    have h := hgv
    rw [Cond.before_and, Bool.and_eq_true] at h
    exact h.2
  exact lw_arrb (by decide) (hts _ (by decide +kernel)) (hts _ (by decide +kernel)) (hs _ (by decide +kernel)) (hs _ (by decide +kernel)) (fun j hj => by
    obtain ⟨p, hp⟩ := lw_dtm j hj
    rw [← hp]
    exact lw_pto p _ hn)
theorem lw_ones {s : State} {b : Nat} (hts : ∀ w ∈ lw_tbl, w.before #[Value.ref b] s = true) (hgv : (Jvm.Cond.and given_1 narrow_1).before #[Value.ref b] s = true) :
    ∃ z : Nat, va_Z RJ6 "DigitOnes" "[B" (.ref z) (lwA s) s s.heap ∧ va_T .byte z 100 (fun j => .int (sw_do j)) (lwA s) s s.heap := by
  have hs := flat_of_before _ hgv
  have hn : narrow_1.before #[Value.ref b] s = true := by
    have h := hgv
    rw [Cond.before_and, Bool.and_eq_true] at h
    exact h.2
  exact lw_arrb (by decide) (hts _ (by decide +kernel)) (hts _ (by decide +kernel)) (hs _ (by decide +kernel)) (hs _ (by decide +kernel)) (fun j hj => by
    obtain ⟨p, hp⟩ := lw_dom j hj
    rw [← hp]
    exact lw_pto p _ hn)
/-- what differs in a field differs -/
theorem lw_neq {args : Array Value} {s : State} {a b : Term} {o n d : String} {i j : Int32} {x y : Nat} (hij : i ≠ j) (ha : (Cond.eq (.field a o n d) (.int i)).before args s = true) (hb : (Cond.eq (.field b o n d) (.int j)).before args s = true)
    (hea : a.eval args s none [] s = some (.ref x)) (heb : b.eval args s none [] s = some (.ref y)) : (Cond.not (.eq a b)).before args s = true := by
  have h1 := va_eqv ha (show (Term.int i).eval args s none [] s = some (.int i) from rfl)
  have h2 := va_eqv hb (show (Term.int j).eval args s none [] s = some (.int j) from rfl)
  have hxy : x ≠ y := by
    intro e
    subst e
    have : (Term.field a o n d).eval args s none [] s = (Term.field b o n d).eval args s none [] s := by simp only [Term.eval, hea, heb]
    rw [h1, h2] at this
    cases this
    exact hij rfl
  simp [Cond.before, Cond.holds, Cond.value, hea, heb, hxy]
/-- the nine orders -/
theorem lw_enum {s : State} {b : Nat} (hts : ∀ w ∈ lw_tbl, w.before #[Value.ref b] s = true) (hgv : (Jvm.Cond.and given_1 narrow_1).before #[Value.ref b] s = true) :
    ∃ ad : Nat → Nat, va_En RX2 "LStrikeWheels$Order;" sw_nm sw_oF ad (lwA s) s s.heap := by
  have hs := flat_of_before _ hgv
  have hex : ∀ i, i < 9 → (Cond.exactly (.static RX2 (sw_nm.getD i "") "LStrikeWheels$Order;") RX2).before #[Value.ref b] s = true := fun i hi => by
    rcases (by omega : i = 0 ∨ i = 1 ∨ i = 2 ∨ i = 3 ∨ i = 4 ∨ i = 5 ∨ i = 6 ∨ i = 7 ∨ i = 8) with rfl | rfl | rfl | rfl | rfl | rfl | rfl | rfl | rfl <;> exact hs _ (by decide +kernel)
  have hf : ∀ q ∈ sw_oF, ∀ i, i < 9 → (Cond.eq (.field (.static RX2 (sw_nm.getD i "") "LStrikeWheels$Order;") q.1 q.2.1 q.2.2.1) (.int (q.2.2.2.getD i 0))).before #[Value.ref b] s = true := fun q hq i hi => by
    simp only [sw_oF, List.mem_cons, List.not_mem_nil, or_false] at hq
    rcases hq with rfl | rfl | rfl | rfl <;> rcases (by omega : i = 0 ∨ i = 1 ∨ i = 2 ∨ i = 3 ∨ i = 4 ∨ i = 5 ∨ i = 6 ∨ i = 7 ∨ i = 8) with rfl | rfl | rfl | rfl | rfl | rfl | rfl | rfl | rfl <;> exact hs _ (by decide +kernel)
  have ho : ∀ i, i < 9 → ∀ j, j < 9 → i ≠ j → ([0, 1, 2, 3, 4, 5, 6, 7, 9] : List Int32).getD i 0 ≠ ([0, 1, 2, 3, 4, 5, 6, 7, 9] : List Int32).getD j 0 := by decide
  obtain ⟨ad, hE, -⟩ := va_Enof2 (E := RX2) (d := "LStrikeWheels$Order;") (nm := sw_nm) (F := sw_oF) (A := lwA s) (s := s) (args := #[Value.ref b]) (fun i hi => by
    have hi : i < 9 := hi
    rcases (by omega : i = 0 ∨ i = 1 ∨ i = 2 ∨ i = 3 ∨ i = 4 ∨ i = 5 ∨ i = 6 ∨ i = 7 ∨ i = 8) with rfl | rfl | rfl | rfl | rfl | rfl | rfl | rfl | rfl <;> exact hts _ (by decide +kernel)) (hts _ (by decide +kernel)) hex hf (fun i j hi hj hij => Or.inl (by
    obtain ⟨x, -, -, -, e1, -⟩ := Cond.exactly_spec (hex i hi)
    obtain ⟨y, -, -, -, e2, -⟩ := Cond.exactly_spec (hex j hj)
    exact lw_neq (ho i hi j hj hij) (hf _ List.mem_cons_self i hi) (hf _ List.mem_cons_self j hj) e1 e2)) lw_nA
  exact ⟨ad, hE⟩
theorem lw_cmp {s : State} {b : Nat} (hts : ∀ w ∈ lw_tbl, w.before #[Value.ref b] s = true) (hgv : (Jvm.Cond.and given_1 narrow_1).before #[Value.ref b] s = true) :
    va_Z RJ0 "COMPACT_STRINGS" "Z" (.int 1) (lwA s) s s.heap ∧ va_Zq "jdk/internal/util/Preconditions" "SIOOBE_FORMATTER" "Ljava/util/function/BiFunction;" (lwA s) s s.heap := by
  have hs := flat_of_before _ hgv
  have h1 : (Cond.eq (.static RJ0 "COMPACT_STRINGS" "Z") (.int 1)).before #[Value.ref b] s = true := hs _ (by decide +kernel)
  exact ⟨va_Zof (hts _ (by decide +kernel)) (hts _ (by decide +kernel)) (va_eqv h1 rfl) lw_nA, va_Zqof (hts _ (by decide +kernel)) (hts _ (by decide +kernel)) (hs _ (by decide +kernel)) lw_nA⟩
theorem lw_tb {s : State} {b : Nat} (hts : ∀ w ∈ lw_tbl, w.before #[Value.ref b] s = true) : sw_TB s := fun w hw hk => va_Nw.of (sw_lk_tab hk) (hts w hw)
theorem lw_ao {s : State} {b : Nat} (hts : ∀ w ∈ lw_tbl, w.before #[Value.ref b] s = true) : va_AO RX3 s ∧ va_AO RX2 s := ⟨va_AO.of (hts _ (by decide +kernel)), va_AO.of (hts _ (by decide +kernel))⟩
/-- texts that differ in their length, or at one byte -/
theorem lw_neqL {args : Array Value} {s : State} {a b : Term} {o n d : String} {i j : Int32} {x y : Nat} (hij : i ≠ j) (ha : (Cond.eq (.length (.field a o n d)) (.int i)).before args s = true) (hb : (Cond.eq (.length (.field b o n d)) (.int j)).before args s = true)
    (hea : a.eval args s none [] s = some (.ref x)) (heb : b.eval args s none [] s = some (.ref y)) : (Cond.not (.eq a b)).before args s = true := by
  have h1 := va_eqv ha (show (Term.int i).eval args s none [] s = some (.int i) from rfl)
  have h2 := va_eqv hb (show (Term.int j).eval args s none [] s = some (.int j) from rfl)
  have hxy : x ≠ y := by
    intro e
    subst e
    have : (Term.length (.field a o n d)).eval args s none [] s = (Term.length (.field b o n d)).eval args s none [] s := by simp only [Term.eval, hea, heb]
    rw [h1, h2] at this
    cases this
    exact hij rfl
  simp [Cond.before, Cond.holds, Cond.value, hea, heb, hxy]
theorem lw_neqE {args : Array Value} {s : State} {a b t : Term} {o n d : String} {i j : Int32} {x y : Nat} (hij : i ≠ j) (ha : (Cond.eq (.elem (.field a o n d) t) (.int i)).before args s = true) (hb : (Cond.eq (.elem (.field b o n d) t) (.int j)).before args s = true)
    (hea : a.eval args s none [] s = some (.ref x)) (heb : b.eval args s none [] s = some (.ref y)) : (Cond.not (.eq a b)).before args s = true := by
  have h1 := va_eqv ha (show (Term.int i).eval args s none [] s = some (.int i) from rfl)
  have h2 := va_eqv hb (show (Term.int j).eval args s none [] s = some (.int j) from rfl)
  have hxy : x ≠ y := by
    intro e
    subst e
    have : (Term.elem (.field a o n d) t).eval args s none [] s = (Term.elem (.field b o n d) t).eval args s none [] s := by simp only [Term.eval, hea, heb]
    rw [h1, h2] at this
    cases this
    exact hij rfl
  simp [Cond.before, Cond.holds, Cond.value, hea, heb, hxy]
