/-! ===== the law: statics at the entry ===== -/
theorem lw_nA {s : State} : ∀ a : Nat, a < s.heap.size → ¬ lwA s a := fun a h z => absurd (show s.heap.size ≤ a from z) (by omega)
/-- a static array of ints -/
theorem lw_arr {args : Array Value} {s : State} {C n : String} {N : Nat} {f : Nat → Int32} (hN : N < 2 ^ 31) (hl : (Cond.laysStatic C n "[I").before args s = true) (hini : (Cond.initialized C).before args s = true) (harr : (Cond.arrayOf (.static C n "[I") .int).before args s = true)
    (hlen : (Cond.eq (.length (.static C n "[I")) (.int (Int32.ofNat N))).before args s = true) (hel : ∀ j : Nat, j < N → (Cond.eq (.elem (.static C n "[I") (.int (Int32.ofNat j))) (.int (f j))).before args s = true) :
    ∃ z : Nat, va_Z C n "[I" (.ref z) (lwA s) s s.heap ∧ va_T .int z N (fun j => .int (f j)) (lwA s) s s.heap := by
  obtain ⟨t, h1, h2⟩ := va_Tof hN harr (va_eqv hlen rfl) (fun j hj => va_eqv (hel j hj) rfl) lw_nA
  exact ⟨t, va_Zof hl hini h1 lw_nA, h2⟩
theorem lw_primes {s : State} {b : Nat} (hts : ∀ w ∈ lw_tbl, w.before #[Value.ref b] s = true) (hgv : (Jvm.Cond.and given_1 narrow_1).before #[Value.ref b] s = true) :
    ∃ z : Nat, va_Z RX9 "PRIMES" "[I" (.ref z) (lwA s) s s.heap ∧ va_T .int z 4 (fun j => .int (sw_p4 j)) (lwA s) s s.heap := by
  have hs := flat_of_before _ hgv
  refine lw_arr (by decide) (hts _ (by decide +kernel)) (hts _ (by decide +kernel)) (hs _ (by decide +kernel)) (hs _ (by decide +kernel)) (fun j hj => ?_)
  rcases (by omega : j = 0 ∨ j = 1 ∨ j = 2 ∨ j = 3) with rfl | rfl | rfl | rfl
  · exact hs _ (by decide +kernel)
  · exact hs _ (by decide +kernel)
  · exact hs _ (by decide +kernel)
  · exact hs _ (by decide +kernel)
