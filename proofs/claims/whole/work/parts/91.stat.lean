/-! ===== the law: statics at the entry ===== -/
theorem lw_nA {s : State} : ∀ a : Nat, a < s.heap.size → ¬ lwA s a := fun a h z => absurd (show s.heap.size ≤ a from z) (by omega)
/-- a static array of ints -/
theorem lw_arr {args : Array Value} {s : State} {C n : String} {N : Nat} {f : Nat → Int32} (hN : N < 2 ^ 31) (hl : (Cond.laysStatic C n "[I").before args s = true) (hini : (Cond.initialized C).before args s = true) (harr : (Cond.arrayOf (.static C n "[I") .int).before args s = true)
    (hlen : (Cond.eq (.length (.static C n "[I")) (.int (Int32.ofNat N))).before args s = true) (hel : ∀ j : Nat, j < N → (Cond.eq (.elem (.static C n "[I") (.int (Int32.ofNat j))) (.int (f j))).before args s = true) :
    ∃ z : Nat, va_Z C n "[I" (.ref z) (lwA s) s s.heap ∧ va_T .int z N (fun j => .int (f j)) (lwA s) s s.heap := by
  obtain ⟨t, h1, h2⟩ := va_Tof hN harr (va_eqv hlen rfl) (fun j hj => va_eqv (hel j hj) rfl) lw_nA
  exact ⟨t, va_Zof hl hini h1 lw_nA, h2⟩
theorem lw_primes {s : State} {b : Nat} (hts : ∀ w ∈ lw_tbl, w.before #[Value.ref b] s = true) (hgv : (Jvm.Cond.and given_1 narrow_1).before #[Value.ref b] s = true) :
    ∃ z : Nat, va_Z RX9 "PRIMES" "[I" (.ref z) (lwA s) s s.heap ∧ va_T .int z 4 (fun j => .int (sw_p4 j)) (lwA s) s s.heap := by
  have hs := flat_of_before _ hgv
  refine lw_arr (by decide) (hts _ (by decide +kernel)) (hts _ (by decide +kernel)) (hs _ (by decide +kernel)) (hs _ (by decide +kernel)) (fun j hj => ?_)
  rcases (by omega : j = 0 ∨ j = 1 ∨ j = 2 ∨ j = 3) with rfl | rfl | rfl | rfl
  · exact hs _ (by decide +kernel)
  · exact hs _ (by decide +kernel)
  · exact hs _ (by decide +kernel)
  · exact hs _ (by decide +kernel)
theorem lw_products {s : State} {b : Nat} (hts : ∀ w ∈ lw_tbl, w.before #[Value.ref b] s = true) (hgv : (Jvm.Cond.and given_1 narrow_1).before #[Value.ref b] s = true) :
    ∃ z : Nat, va_Z RX9 "PRODUCTS" "[I" (.ref z) (lwA s) s s.heap ∧ va_T .int z 5 (fun j => .int (sw_p5 j)) (lwA s) s s.heap := by
  have hs := flat_of_before _ hgv
  refine lw_arr (by decide) (hts _ (by decide +kernel)) (hts _ (by decide +kernel)) (hs _ (by decide +kernel)) (hs _ (by decide +kernel)) (fun j hj => ?_)
  rcases (by omega : j = 0 ∨ j = 1 ∨ j = 2 ∨ j = 3 ∨ j = 4) with rfl | rfl | rfl | rfl | rfl <;> exact hs _ (by decide +kernel)
theorem lw_smap {s : State} {b : Nat} (hts : ∀ w ∈ lw_tbl, w.before #[Value.ref b] s = true) (hgv : (Jvm.Cond.and given_1 narrow_1).before #[Value.ref b] s = true) :
    ∃ z : Nat, va_Z RX0 "$SwitchMap$StrikeWheels$Order" "[I" (.ref z) (lwA s) s s.heap ∧ va_T .int z 10 (fun j => .int (sw_sm j)) (lwA s) s s.heap := by
  have hs := flat_of_before _ hgv
  refine lw_arr (by decide) (hts _ (by decide +kernel)) (hts _ (by decide +kernel)) (hs _ (by decide +kernel)) (hs _ (by decide +kernel)) (fun j hj => ?_)
  rcases (by omega : j = 0 ∨ j = 1 ∨ j = 2 ∨ j = 3 ∨ j = 4 ∨ j = 5 ∨ j = 6 ∨ j = 7 ∨ j = 8 ∨ j = 9) with rfl | rfl | rfl | rfl | rfl | rfl | rfl | rfl | rfl | rfl <;> exact hs _ (by decide +kernel)
/-- what differs in a field differs -/
theorem lw_neq {args : Array Value} {s : State} {a b : Term} {o n d : String} {i j : Int32} {x y : Nat} (hij : i ≠ j) (ha : (Cond.eq (.field a o n d) (.int i)).before args s = true) (hb : (Cond.eq (.field b o n d) (.int j)).before args s = true)
    (hea : a.eval args s none [] s = some (.ref x)) (heb : b.eval args s none [] s = some (.ref y)) : (Cond.not (.eq a b)).before args s = true := by
  have h1 := va_eqv ha (show (Term.int i).eval args s none [] s = some (.int i) from rfl)
  have h2 := va_eqv hb (show (Term.int j).eval args s none [] s = some (.int j) from rfl)
  have hxy : x ≠ y := by
    intro e
    subst e
    have : (Term.field a o n d).eval args s none [] s = (Term.field b o n d).eval args s none [] s := by simp only [Term.eval, hea, heb]
    rw [h1, h2] at this
    cases this
    exact hij rfl
  simp [Cond.before, Cond.holds, Cond.value, hea, heb, hxy]
/-- the ten orders -/
theorem lw_enum {s : State} {b : Nat} (hts : ∀ w ∈ lw_tbl, w.before #[Value.ref b] s = true) (hgv : (Jvm.Cond.and given_1 narrow_1).before #[Value.ref b] s = true) :
    ∃ ad : Nat → Nat, va_En RX2 "LStrikeWheels$Order;" sw_nm sw_oF ad (lwA s) s s.heap ∧ ∀ i, i < 10 → (Term.static RX2 (sw_nm.getD i "") "LStrikeWheels$Order;").eval #[Value.ref b] s none [] s = some (.ref (ad i)) := by
  have hs := flat_of_before _ hgv
  have hex : ∀ i, i < 10 → (Cond.exactly (.static RX2 (sw_nm.getD i "") "LStrikeWheels$Order;") RX2).before #[Value.ref b] s = true := fun i hi => by
    rcases (by omega : i = 0 ∨ i = 1 ∨ i = 2 ∨ i = 3 ∨ i = 4 ∨ i = 5 ∨ i = 6 ∨ i = 7 ∨ i = 8 ∨ i = 9) with rfl | rfl | rfl | rfl | rfl | rfl | rfl | rfl | rfl | rfl <;> exact hs _ (by decide +kernel)
  have hf : ∀ q ∈ sw_oF, ∀ i, i < 10 → (Cond.eq (.field (.static RX2 (sw_nm.getD i "") "LStrikeWheels$Order;") q.1 q.2.1 q.2.2.1) (.int (q.2.2.2.getD i 0))).before #[Value.ref b] s = true := fun q hq i hi => by
    simp only [sw_oF, List.mem_cons, List.not_mem_nil, or_false] at hq
    rcases hq with rfl | rfl | rfl | rfl | rfl <;> rcases (by omega : i = 0 ∨ i = 1 ∨ i = 2 ∨ i = 3 ∨ i = 4 ∨ i = 5 ∨ i = 6 ∨ i = 7 ∨ i = 8 ∨ i = 9) with rfl | rfl | rfl | rfl | rfl | rfl | rfl | rfl | rfl | rfl <;> exact hs _ (by decide +kernel)
  have ho : ∀ i, i < 10 → ∀ j, j < 10 → i ≠ j → ([0, 1, 2, 3, 4, 5, 6, 7, 8, 9] : List Int32).getD i 0 ≠ ([0, 1, 2, 3, 4, 5, 6, 7, 8, 9] : List Int32).getD j 0 := by decide
  refine va_Enof2 (nm := sw_nm) (fun i hi => ?_) (hts _ (by decide +kernel)) hex hf (fun i j hi hj hij => Or.inl ?_) lw_nA
  · have hi : i < 10 := hi
    rcases (by omega : i = 0 ∨ i = 1 ∨ i = 2 ∨ i = 3 ∨ i = 4 ∨ i = 5 ∨ i = 6 ∨ i = 7 ∨ i = 8 ∨ i = 9) with rfl | rfl | rfl | rfl | rfl | rfl | rfl | rfl | rfl | rfl <;> exact hts _ (by decide +kernel)
  · obtain ⟨x, -, -, -, e1, -⟩ := Cond.exactly_spec (hex i hi)
    obtain ⟨y, -, -, -, e2, -⟩ := Cond.exactly_spec (hex j hj)
    exact lw_neq (ho i hi j hj hij) (hf _ List.mem_cons_self i hi) (hf _ List.mem_cons_self j hj) e1 e2
/-- their array, and two more statics -/
theorem lw_all {s : State} {b : Nat} {ad : Nat → Nat} (hts : ∀ w ∈ lw_tbl, w.before #[Value.ref b] s = true) (hgv : (Jvm.Cond.and given_1 narrow_1).before #[Value.ref b] s = true) (hev : ∀ i, i < 10 → (Term.static RX2 (sw_nm.getD i "") "LStrikeWheels$Order;").eval #[Value.ref b] s none [] s = some (.ref (ad i))) :
    ∃ z : Nat, va_Z RX2 "ALL" "[LStrikeWheels$Order;" (.ref z) (lwA s) s s.heap ∧ va_T (.object RX2) z 10 (fun j => .ref (ad j)) (lwA s) s s.heap := by
  have hs := flat_of_before _ hgv
  have hlen : (Cond.eq (.length (.static RX2 "ALL" "[LStrikeWheels$Order;")) (.int (Int32.ofNat 10))).before #[Value.ref b] s = true := hs _ (by decide +kernel)
  have hel : ∀ j, j < 10 → (Cond.eq (.elem (.static RX2 "ALL" "[LStrikeWheels$Order;") (.int (Int32.ofNat j))) (.static RX2 (sw_nm.getD j "") "LStrikeWheels$Order;")).before #[Value.ref b] s = true := fun j hj => by
    rcases (by omega : j = 0 ∨ j = 1 ∨ j = 2 ∨ j = 3 ∨ j = 4 ∨ j = 5 ∨ j = 6 ∨ j = 7 ∨ j = 8 ∨ j = 9) with rfl | rfl | rfl | rfl | rfl | rfl | rfl | rfl | rfl | rfl <;> exact hs _ (by decide +kernel)
  obtain ⟨t, h1, h2⟩ := va_Tof (ty := .object RX2) (N := 10) (f := fun j => .ref (ad j)) (by decide) (hs _ (by decide +kernel)) (va_eqv hlen rfl) (fun j hj => va_eqv (hel j hj) (hev j hj)) lw_nA
  exact ⟨t, va_Zof (hts _ (by decide +kernel)) (hts _ (by decide +kernel)) h1 lw_nA, h2⟩
theorem lw_cmp {s : State} {b : Nat} (hts : ∀ w ∈ lw_tbl, w.before #[Value.ref b] s = true) (hgv : (Jvm.Cond.and given_1 narrow_1).before #[Value.ref b] s = true) :
    va_Z RJ0 "COMPACT_STRINGS" "Z" (.int 1) (lwA s) s s.heap ∧ va_Zq "jdk/internal/util/Preconditions" "SIOOBE_FORMATTER" "Ljava/util/function/BiFunction;" (lwA s) s s.heap := by
  have hs := flat_of_before _ hgv
  have h1 : (Cond.eq (.static RJ0 "COMPACT_STRINGS" "Z") (.int 1)).before #[Value.ref b] s = true := hs _ (by decide +kernel)
  exact ⟨va_Zof (hts _ (by decide +kernel)) (hts _ (by decide +kernel)) (va_eqv h1 rfl) lw_nA, va_Zqof (hts _ (by decide +kernel)) (hts _ (by decide +kernel)) (hs _ (by decide +kernel)) lw_nA⟩
theorem lw_exc {s : State} {b : Nat} (hts : ∀ w ∈ lw_tbl, w.before #[Value.ref b] s = true) (hgv : (Jvm.Cond.and given_1 narrow_1).before #[Value.ref b] s = true) :
    vx_Zq Bundle.tN "UNASSIGNED_STACK" Bundle.steD (lwA s) s s.heap ∧ vx_Zq Bundle.tN "SUPPRESSED_SENTINEL" Bundle.listD (lwA s) s s.heap := by
  have hs := flat_of_before _ hgv
  exact ⟨vx_Zqof (hts _ (by decide +kernel)) (hts _ (by decide +kernel)) (hs _ (by decide +kernel)) lw_nA, vx_Zqof (hts _ (by decide +kernel)) (hts _ (by decide +kernel)) (hs _ (by decide +kernel)) lw_nA⟩
theorem lw_tb {s : State} {b : Nat} (hts : ∀ w ∈ lw_tbl, w.before #[Value.ref b] s = true) : sw_TB s := fun w hw hk => va_Nw.of (sw_lk_tab hk) (hts w hw)
theorem lw_nc {s : State} {b : Nat} (hgv : (Jvm.Cond.and given_1 narrow_1).before #[Value.ref b] s = true) : va_Nc "java/lang/IllegalArgumentException" "java/util/NoSuchElementException" s := va_Nc.of (flat_of_before _ hgv _ (by decide +kernel))
theorem lw_ao {s : State} {b : Nat} (hts : ∀ w ∈ lw_tbl, w.before #[Value.ref b] s = true) : va_AO RX3 s ∧ va_AO RX2 s ∧ va_AO RJ0 s := ⟨va_AO.of (hts _ (by decide +kernel)), va_AO.of (hts _ (by decide +kernel)), va_AO.of (hts _ (by decide +kernel))⟩
/-- texts that differ in their length, or at one byte -/
theorem lw_neqL {args : Array Value} {s : State} {a b : Term} {o n d : String} {i j : Int32} {x y : Nat} (hij : i ≠ j) (ha : (Cond.eq (.length (.field a o n d)) (.int i)).before args s = true) (hb : (Cond.eq (.length (.field b o n d)) (.int j)).before args s = true)
    (hea : a.eval args s none [] s = some (.ref x)) (heb : b.eval args s none [] s = some (.ref y)) : (Cond.not (.eq a b)).before args s = true := by
  have h1 := va_eqv ha (show (Term.int i).eval args s none [] s = some (.int i) from rfl)
  have h2 := va_eqv hb (show (Term.int j).eval args s none [] s = some (.int j) from rfl)
  have hxy : x ≠ y := by
    intro e
    subst e
    have : (Term.length (.field a o n d)).eval args s none [] s = (Term.length (.field b o n d)).eval args s none [] s := by simp only [Term.eval, hea, heb]
    rw [h1, h2] at this
    cases this
    exact hij rfl
  simp [Cond.before, Cond.holds, Cond.value, hea, heb, hxy]
theorem lw_neqE {args : Array Value} {s : State} {a b t : Term} {o n d : String} {i j : Int32} {x y : Nat} (hij : i ≠ j) (ha : (Cond.eq (.elem (.field a o n d) t) (.int i)).before args s = true) (hb : (Cond.eq (.elem (.field b o n d) t) (.int j)).before args s = true)
    (hea : a.eval args s none [] s = some (.ref x)) (heb : b.eval args s none [] s = some (.ref y)) : (Cond.not (.eq a b)).before args s = true := by
  have h1 := va_eqv ha (show (Term.int i).eval args s none [] s = some (.int i) from rfl)
  have h2 := va_eqv hb (show (Term.int j).eval args s none [] s = some (.int j) from rfl)
  have hxy : x ≠ y := by
    intro e
    subst e
    have : (Term.elem (.field a o n d) t).eval args s none [] s = (Term.elem (.field b o n d) t).eval args s none [] s := by simp only [Term.eval, hea, heb]
    rw [h1, h2] at this
    cases this
    exact hij rfl
  simp [Cond.before, Cond.holds, Cond.value, hea, heb, hxy]
