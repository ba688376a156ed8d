/-! ===== which strikers were said; the text as the builder makes it ===== -/
theorem or_N {a b : Nat} (ha : a < 2 ^ 31) (hb : b < 2 ^ 31) : nI a ||| nI b = nI (a ||| b) := by
  have hab : a ||| b < 2 ^ 31 := Nat.or_lt_two_pow ha hb
  apply Int32.toBitVec_inj.mp
  apply BitVec.eq_of_toNat_eq
  rw [show (nI a ||| nI b).toBitVec = (nI a).toBitVec ||| (nI b).toBitVec from rfl, BitVec.toNat_or, pk_tn (by omega), pk_tn (by omega), pk_tn (by omega)]
theorem sn_s : ∀ d, d < 27 → ((nI d &&& (31 : Int32)).toBitVec.smod 32).toNat = d := by decide +kernel
def SEN (m : Nat) (ds : List Nat) : Prop := m < 2 ^ 27 ∧ ∀ d, d < 27 → m.testBit d = decide (d ∈ ds)
theorem SEN_nil : SEN 0 [] := ⟨by decide, fun d _ => by simp⟩
theorem SEN_get {m d : Nat} {ds : List Nat} (h : SEN m ds) (hd : d < 27) : (nI m >>> (nI d &&& 31)) &&& 1 = if d ∈ ds then 1 else 0 := by
  have hm := h.1
  have ht := h.2 d hd
  rw [pk_shrN (by omega) _ d (sn_s d hd), pk_andN (Nat.lt_of_le_of_lt (Nat.div_le_self _ _) (by omega)) (m := 1) 1 (by decide)]
  rw [Nat.testBit_eq_decide_div_mod_eq] at ht
  have e := decide_eq_decide.mp ht
  by_cases c : d ∈ ds
  · rw [if_pos c, show m / 2 ^ d % 2 ^ 1 = 1 from e.mpr c]
    rfl
  · rw [if_neg c]
    have : ¬ m / 2 ^ d % 2 = 1 := fun q => c (e.mp q)
    rw [show m / 2 ^ d % 2 ^ 1 = 0 by have := Nat.mod_lt (m / 2 ^ d) (show 0 < 2 by decide); omega]
    rfl
theorem SEN_put {m d : Nat} {ds : List Nat} (h : SEN m ds) (hd : d < 27) : nI m ||| ((1 : Int32) <<< (nI d &&& 31)) = nI (m ||| 2 ^ d) ∧ SEN (m ||| 2 ^ d) (ds ++ [d]) := by
  have hm := h.1
  have h2 : 2 ^ d < 2 ^ 27 := Nat.pow_lt_pow_right (by decide) hd
  refine ⟨?_, Nat.or_lt_two_pow hm h2, fun q hq => ?_⟩
  · rw [show (1 : Int32) = nI 1 from rfl, pk_shlN _ d (sn_s d hd) (by omega), Nat.one_mul, or_N (by omega) (by omega)]
  · rw [Nat.testBit_or, h.2 q hq, Nat.testBit_two_pow]
    by_cases c : q ∈ ds
    · simp [c]
    · by_cases e : q = d
      · simp [e]
      · have : ¬ d = q := fun z => e z.symm
        simp [c, e, this]
theorem its_snoc (x d : Nat) : ∀ l : List Nat, its x (l ++ [d]) = its x l ++ it x d
  | [] => by simp [its]
  | a :: l => by
    show it x a ++ its x (l ++ [d]) = it x a ++ its x l ++ it x d
    rw [its_snoc x d l, List.append_assoc]
/-- what the builder holds behind the first row -/
def tx0 (w : Nat) : List Int32 := sw_byt.getD 3 [] ++ sj_dg w ++ [nI 59]
theorem tx_txt (w : Nat) (rs ds : List Nat) : tx0 w ++ its 1 rs ++ its 2 ds = txt w rs ds := by
  have e : sw_byt.getD 3 [] = ([115, 105, 101, 118, 101] : List Nat).map nI ++ [nI 32] := by decide
  unfold tx0 txt
  rw [e]
  simp
theorem tx_st (t : List Int32) (rs : List Nat) (x : Nat) : t ++ its 1 rs ++ sw_byt.getD 4 [] ++ sj_dg x ++ [nI 59] = t ++ its 1 (rs ++ [x]) := by
  have e : sw_byt.getD 4 [] = (w7 1).map nI ++ [nI 32] := by decide
  rw [its_snoc, e]
  simp [it]
theorem tx_sk (t : List Int32) (ds : List Nat) (x : Nat) : t ++ its 2 ds ++ sw_byt.getD 5 [] ++ sj_dg x ++ [nI 59] = t ++ its 2 (ds ++ [x]) := by
  have e : sw_byt.getD 5 [] = (w7 2).map nI ++ [nI 32] := by decide
  rw [its_snoc, e]
  simp [it]
theorem sj_dgL (x : Nat) : (sj_dg x).length ≤ 2 := by
  rw [sj_dgl]
  exact sj_dn2 x
theorem it_len (x d : Nat) : (it x d).length ≤ 11 := by
  have h1 := (w7_ok x).2
  have h2 := sj_dgL d
  unfold it
  simp only [List.length_append, List.length_map, List.length_cons, List.length_nil, h1]
  omega
theorem its_len (x : Nat) : ∀ l : List Nat, (its x l).length ≤ 11 * l.length
  | [] => Nat.le_refl _
  | a :: l => by
    have h1 := it_len x a
    have h2 := its_len x l
    show (it x a ++ its x l).length ≤ 11 * (l.length + 1)
    rw [List.length_append]
    omega
theorem tx0_len (w : Nat) : (tx0 w).length ≤ 9 := by
  have h2 := sj_dgL w
  unfold tx0
  rw [List.length_append, List.length_append, show (sw_byt.getD 3 []).length = 6 from rfl]
  show 6 + (sj_dg w).length + 1 ≤ 9
  omega
theorem sj_A1 : sj_A [nI 59] := by unfold sj_A; decide
theorem it_A (x : Nat) {d : Nat} (hd : d < 100) : sj_A (it x d) := by
  have hw : sj_A ((w7 x).map nI) := by
    unfold w7 sj_A
    split <;> decide
  have h32 : sj_A [nI 32] := by unfold sj_A; decide
  have e : it x d = (w7 x).map nI ++ ([nI 32] ++ (sj_dg d ++ [nI 59])) := by simp [it]
  rw [e]
  exact hw.app (h32.app ((sj_dgA hd).app sj_A1))
theorem its_A (x : Nat) : ∀ l : List Nat, (∀ d ∈ l, d < 100) → sj_A (its x l)
  | [], _ => fun _ h => by cases h
  | a :: l, h => (it_A x (h a List.mem_cons_self)).app (its_A x l fun d hd => h d (List.mem_cons_of_mem _ hd))
theorem tx0_A {w : Nat} (hw : w < 100) : sj_A (tx0 w) := by
  have h3 : sj_A (sw_byt.getD 3 []) := by unfold sj_A; decide
  exact (h3.app (sj_dgA hw)).app sj_A1
