/-! ===== the law: what is known at the entry ===== -/
theorem lw_Kc {args : Array Value} {s : State} (hts : ∀ w ∈ sw_U, w.before args s = true) : ∀ c : Nat, ∃ x : ClassId × (Nat → Nat), ∀ q : vw_C, vwCl[c]? = some q → u_Kn s q.1 q.2.1 q.2.2 x.1 x.2
  | 0 => by obtain ⟨cC, iS, h⟩ := u_known hts iU_X1 (hts _ ins_X1); exact ⟨(cC, iS), fun q hq => by cases hq; exact h⟩
  | 1 => by obtain ⟨cC, iS, h⟩ := u_known hts iU_X3 (hts _ ins_X3); exact ⟨(cC, iS), fun q hq => by cases hq; exact h⟩
  | 2 => by obtain ⟨cC, iS, h⟩ := u_known hts iU_X4 (hts _ ins_X4); exact ⟨(cC, iS), fun q hq => by cases hq; exact h⟩
  | 3 => by obtain ⟨cC, iS, h⟩ := u_known hts iU_X5 (hts _ ins_X5); exact ⟨(cC, iS), fun q hq => by cases hq; exact h⟩
  | 4 => by obtain ⟨cC, iS, h⟩ := u_known hts iU_X6 (hts _ ins_X6); exact ⟨(cC, iS), fun q hq => by cases hq; exact h⟩
  | 5 => by obtain ⟨cC, iS, h⟩ := u_known hts iU_X7 (hts _ ins_X7); exact ⟨(cC, iS), fun q hq => by cases hq; exact h⟩
  | 6 => by obtain ⟨cC, iS, h⟩ := u_known hts iU_X8 (hts _ ins_X8); exact ⟨(cC, iS), fun q hq => by cases hq; exact h⟩
  | 7 => by obtain ⟨cC, iS, h⟩ := u_known hts iU_X10 (hts _ ins_X10); exact ⟨(cC, iS), fun q hq => by cases hq; exact h⟩
  | 8 => by obtain ⟨cC, iS, h⟩ := u_known hts iU_X11 (hts _ ins_X11); exact ⟨(cC, iS), fun q hq => by cases hq; exact h⟩
  | c + 9 => ⟨(0, fun _ => 0), fun q hq => by
      have : c + 9 < 9 := (List.getElem?_eq_some_iff.mp hq).1
      omega⟩
theorem lw_Ka {args : Array Value} {s : State} {ty : FieldType} (h : (Cond.arrayClass ty).before args s = true) (hp : ∀ C, ty ≠ .object C) : ∃ cA : ClassId, ArrOfT s cA ty ∧ va_RA s cA ty := by
  obtain ⟨cA, kA, comp, h1, h2, h3⟩ := Cond.arrayClass_spec h
  refine ⟨cA, fun n z => ⟨(fun k h => by cases h), kA, h2, comp, h3⟩, ?_⟩
  cases ty <;> first | exact h1 | exact absurd rfl (hp _)
theorem lw_Ko {args : Array Value} {s : State} {C : String} (h : (Cond.arrayOver (.object C)).before args s = true) : ∃ cA : ClassId, ArrOfT s cA (.object C) ∧ va_RA s cA (.object C) := by
  obtain ⟨comp, cA, kA, h1, -, h3, h4, h5⟩ := Cond.arrayOver_spec h
  exact ⟨cA, fun n z => ⟨(fun k h => by cases h), kA, h3, comp, h4⟩, kA, comp, h3, h4, h1, h5⟩
theorem lw_K {args : Array Value} {s : State} (hts : ∀ w ∈ sw_U, w.before args s = true) (o3 : (Cond.arrayOver (.object RX3)).before args s = true) (o2 : (Cond.arrayOver (.object RX2)).before args s = true) (oj : (Cond.arrayOver (.object RJ0)).before args s = true) :
    ∃ (G : va_G) (ca : Nat → ClassId), va_K G vwCl (sw_tys ca) s := by
  obtain ⟨f, hf⟩ := Classical.axiomOfChoice (lw_Kc hts)
  obtain ⟨c0, a0, b0⟩ := lw_Ka (hts _ ac_int) (fun _ h => by cases h)
  obtain ⟨c1, a1, b1⟩ := lw_Ka (hts _ ac_byte) (fun _ h => by cases h)
  obtain ⟨c2, a2, b2⟩ := lw_Ka (hts _ ac_long) (fun _ h => by cases h)
  obtain ⟨c3, a3, b3⟩ := lw_Ko o3
  obtain ⟨c4, a4, b4⟩ := lw_Ko o2
  obtain ⟨c5, a5, b5⟩ := lw_Ko oj
  refine ⟨(fun c => (f c).1, fun c => (f c).2), fun k => match k with | 0 => c0 | 1 => c1 | 2 => c2 | 3 => c3 | 4 => c4 | _ => c5, fun c q hq => hf c q hq, fun k q hk => ?_⟩
  match k, hk with
  | 0, hk => cases hk; exact ⟨a0, b0⟩
  | 1, hk => cases hk; exact ⟨a1, b1⟩
  | 2, hk => cases hk; exact ⟨a2, b2⟩
  | 3, hk => cases hk; exact ⟨a3, b3⟩
  | 4, hk => cases hk; exact ⟨a4, b4⟩
  | 5, hk => cases hk; exact ⟨a5, b5⟩
  | k + 6, hk =>
    have : k + 6 < 6 := (List.getElem?_eq_some_iff.mp hk).1
    omega
