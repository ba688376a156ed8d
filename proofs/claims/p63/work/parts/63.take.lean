/-! ===== PURE: words, values ===== -/
theorem w_len {x : Nat} (h : x < 6) : F_J0_length_8abf5 x = some (nI (sw_len.getD x 0)) := by
  have : (List.range 6).all (fun x => decide (F_J0_length_8abf5 x = some (nI (sw_len.getD x 0)))) = true := by decide +kernel
  exact of_decide_eq_true (List.all_eq_true.mp this x (List.mem_range.mpr h))
theorem w_len7 {x : Nat} (h : x < 6) : sw_len.getD x 0 ≤ 8 := by
  have : (List.range 6).all (fun x => decide (sw_len.getD x 0 ≤ 8)) = true := by decide +kernel
  exact of_decide_eq_true (List.all_eq_true.mp this x (List.mem_range.mpr h))
theorem w_ch {x q : Nat} (h : x < 6) (hq : q < sw_len.getD x 0) : ∃ c, F_J0_charAt_5068e x (nI q) = some c := by
  have : (List.range 6).all (fun x => (List.range (sw_len.getD x 0)).all (fun q => (F_J0_charAt_5068e x (nI q)).isSome)) = true := by decide +kernel
  have := List.all_eq_true.mp (List.all_eq_true.mp this x (List.mem_range.mpr h)) q (List.mem_range.mpr hq)
  exact Option.isSome_iff_exists.mp this
section
variable {g : Nat → Nat} {f n : Nat} {sb b : Nat → Int32}
theorem rv_lt {i : Nat} : ∀ K, (∀ k, k < K → 48 ≤ g (i + k) ∧ g (i + k) ≤ 57) → rv g i K < 100000000
  | 0, _ => by show 0 < 100000000; omega
  | K + 1, h => by
    have h1 := rv_lt K (fun k hk => h k (by omega))
    have h2 := h K (by omega)
    show rs (rv g i K) (g (i + K)) < _
    unfold rs
    split <;> omega
end
