/-! ===== what say and end feed ===== -/
section
variable {U : List Int32} {src : SrcT} {w : Nat → Int32}
theorem ib_lt (x : Int32) (k : Nat) : ib x k < 256 := Nat.mod_lt _ (by decide)
theorem ib_or (x y : Int32) (k : Nat) : ib (x ||| y) k = ib x k ||| ib y k := by
  unfold ib
  rw [show (x ||| y).toBitVec = x.toBitVec ||| y.toBitVec from rfl, BitVec.toNat_or, ← Nat.shiftRight_eq_div_pow, ← Nat.shiftRight_eq_div_pow, ← Nat.shiftRight_eq_div_pow, Nat.shiftRight_or_distrib, show (256 : Nat) = 2 ^ 8 from rfl, Nat.or_mod_two_pow]
theorem ib_sh : ∀ j, j < 4 → ∀ k, k < 4 → ∀ c, c < 128 → ib (nI c <<< nI (24 - 8 * j)) k = if k = j then c else 0 := by decide +kernel
theorem ib_0 (k : Nat) : ib 0 k = 0 := by
  unfold ib
  rw [show (0 : Int32).toBitVec.toNat = 0 from rfl, Nat.zero_div]
theorem sh_at' {k : Nat} (hk : k < 2 ^ 31) : ((24 - (8 * (nI k - nI k / 4 * 4))) &&& 31 : Int32) = nI (24 - 8 * (k % 4)) := by
  have e : nI k - nI k / 4 * 4 = nI (k % 4) := pk_rem (d := 4) hk (by decide) (by decide)
  have e2 : (8 : Int32) * nI (k % 4) = nI (8 * (k % 4)) := e_mul 8 _
  have e3 : (24 : Int32) - nI (8 * (k % 4)) = nI (24 - 8 * (k % 4)) := e_sub (a := 24) (by omega)
  have e4 := pk_andN (n := 24 - 8 * (k % 4)) (by omega) (m := 31) 5 (by decide)
  rw [e, e2, e3, e4, Nat.mod_eq_of_lt (by omega)]
/-- U has been said: twenty by twenty they are fed, the rest lies in w -/
def SI (U : List Int32) (src : SrcT) (w : Nat → Int32) : Prop :=
  U.length ≤ 600 ∧ src.2.1 = nI (U.length / 20 * 20) ∧ (∀ i, i < U.length / 20 * 20 → src.1 i &&& 255 = sj_F U i) ∧ w 5 = nI U.length ∧ ∀ q b, q < 5 → b < 4 → nI (ib (w q) b) = sj_F U (U.length / 20 * 20 + 4 * q + b)
theorem sj_app1 {x : Int32} (j : Nat) : sj_F (U ++ [x]) j = if j = U.length then x else sj_F U j := by
  rw [← sj_up (t := U) (n := U.length) (x := x) rfl]
  rfl
theorem SI_feed (x1 x2 x3 x4 x5 : Int32) {f : Nat} (hf : src.2.1 = nI f) (h : f + 20 ≤ 600) :
    ∃ src', F_X10_feed x1 x2 x3 x4 x5 src = some (nI (f + 20), src') ∧ src'.2.1 = nI (f + 20) ∧ (∀ i, i < f → src'.1 i = src.1 i) ∧ ∀ q b, q < 5 → b < 4 → src'.1 (f + 4 * q + b) &&& 255 = nI (ib (fw x1 x2 x3 x4 x5 q) b) := by
  obtain ⟨s1, a1, b1, c1, d1⟩ := L_appendFour (x := x1) hf (by omega)
  obtain ⟨s2, a2, b2, c2, d2⟩ := L_appendFour (x := x2) b1 (by omega)
  obtain ⟨s3, a3, b3, c3, d3⟩ := L_appendFour (x := x3) b2 (by omega)
  obtain ⟨s4, a4, b4, c4, d4⟩ := L_appendFour (x := x4) b3 (by omega)
  obtain ⟨s5, a5, b5, c5, d5⟩ := L_appendFour (x := x5) b4 (by omega)
  refine ⟨s5, ?_, by rw [b5], fun i hi => by rw [c5 i (by omega), c4 i (by omega), c3 i (by omega), c2 i (by omega), c1 i hi], fun q b hq hb => ?_⟩
  · unfold F_X10_feed F_X8_filled
    rw [Option.bind_some, hf, if_pos (show nI f + 20 ≤ 600 from by rw [show nI f + 20 = nI (f + 20) from e_add f 20]; exact nI_le (b := 600) (by omega) (by decide)), a1, Option.bind_some, a2, Option.bind_some, a3, Option.bind_some, a4, Option.bind_some, a5, Option.bind_some, Option.bind_some, b5]
  · rcases (show q = 0 ∨ q = 1 ∨ q = 2 ∨ q = 3 ∨ q = 4 by omega) with rfl | rfl | rfl | rfl | rfl
    · rw [c5 _ (by omega), c4 _ (by omega), c3 _ (by omega), c2 _ (by omega)]
      exact d1 b hb
    · rw [c5 _ (by omega), c4 _ (by omega), c3 _ (by omega)]
      exact d2 b hb
    · rw [c5 _ (by omega), c4 _ (by omega), show f + 4 * 2 + b = f + 4 + 4 + b by omega]
      exact d3 b hb
    · rw [c5 _ (by omega), show f + 4 * 3 + b = f + 4 + 4 + 4 + b by omega]
      exact d4 b hb
    · rw [show f + 4 * 4 + b = f + 4 + 4 + 4 + 4 + b by omega]
      exact d5 b hb
theorem SI_zero (x : Int32) : ∀ (r q m : Nat) (w1 : Nat → Int32), q + r = 5 → r < m → ∃ w2, fx (fun _ _ _ => none) (B_L_add_65 x) m (nI q) src w1 = some (src, w2) ∧ (∀ j, q ≤ j → j < 5 → w2 j = 0) ∧ ∀ j, j < q ∨ j = 5 → w2 j = w1 j := by
  intro r
  induction r with
  | zero =>
    intro q m w1 hq hm
    obtain ⟨m, rfl⟩ : ∃ z, m = z + 1 := ⟨m - 1, by omega⟩
    refine ⟨w1, ?_, fun j h1 h2 => absurd h1 (by omega), fun j _ => rfl⟩
    show B_L_add_65 x _ _ _ _ = _
    unfold B_L_add_65
    rw [if_pos (show (5 : Int32) ≤ nI q from nI_le (a := 5) (by omega) (by omega))]
  | succ r ih =>
    intro q m w1 hq hm
    obtain ⟨m, rfl⟩ : ∃ z, m = z + 1 := ⟨m - 1, by omega⟩
    obtain ⟨w2, h1, h2, h3⟩ := ih (q + 1) m (upd w1 q 0) (by omega) (by omega)
    refine ⟨w2, ?_, fun j g1 g2 => ?_, fun j g => ?_⟩
    · show B_L_add_65 x (fx (fun _ _ _ => none) (B_L_add_65 x) m) _ _ _ = _
      generalize fx (fun _ _ _ => none) (B_L_add_65 x) m = K at h1
      unfold B_L_add_65
      rw [if_neg (show ¬ (5 : Int32) ≤ nI q from nI_ge (b := 5) (by omega) (by decide)), ix_nI (by omega) (by decide), nm_e1, nI_clamp (by omega), show nI q + 1 = nI (q + 1) from nI_1 q]
      exact h1
    · by_cases e : j = q
      · rw [h3 j (Or.inl (by omega)), e, pk_us]
      · exact h2 j (by omega) g2
    · rw [h3 j (by omega), pk_un (by omega)]
theorem SI_add {x : Int32} (hx : 0 ≤ x.toInt ∧ x.toInt < 128) (h : SI U src w) (hl : U.length < 600) : ∃ src' w', F_L_add x src w = some (src', w') ∧ SI (U ++ [x]) src' w' := by
  obtain ⟨h0, h1, h2, h3, h4⟩ := h
  obtain ⟨c, hc, rfl⟩ := sj_nat hx
  generalize hn : U.length = n at *
  have hlen : (U ++ [nI c]).length = n + 1 := by simp [hn]
  have hF : ∀ j, sj_F (U ++ [nI c]) j = if j = n then nI c else sj_F U j := fun j => by rw [sj_app1, hn]
  have hm : n % 20 < 20 := Nat.mod_lt _ (by decide)
  have hq : n % 20 / 4 < 5 := by omega
  have hb : n % 4 < 4 := Nat.mod_lt _ (by decide)
  have hpos : n / 20 * 20 + 4 * (n % 20 / 4) + n % 4 = n := by omega
  have e1 : (nI n - nI n / 20 * 20) / 4 = nI (n % 20 / 4) := by
    rw [show nI n - nI n / 20 * 20 = nI (n % 20) from pk_rem (d := 20) (by omega) (by decide) (by decide)]
    exact pk_div (d := 4) (by omega) (by decide) (by decide)
  have e2 := sh_at' (k := n) (by omega)
  -- the new words
  have hw : ∀ q b, q < 5 → b < 4 → nI (ib (upd w (n % 20 / 4) (w (n % 20 / 4) ||| nI c <<< nI (24 - 8 * (n % 4))) q) b) = sj_F (U ++ [nI c]) (n / 20 * 20 + 4 * q + b) := by
    intro q b hq5 hb4
    rw [hF]
    by_cases cq : q = n % 20 / 4
    · rw [cq, pk_us, ib_or, ib_sh _ hb _ hb4 _ hc]
      have old := h4 _ b hq hb4
      by_cases cb : b = n % 4
      · rw [if_pos cb, if_pos (by omega)]
        rw [show n / 20 * 20 + 4 * (n % 20 / 4) + b = n by omega, sj_beyond (by omega)] at old
        have z : ib (w (n % 20 / 4)) b = 0 := (nI_eq (b := 0) (by have := ib_lt (w (n % 20 / 4)) b; omega) (by decide)).mp old
        rw [z, Nat.zero_or]
      · rw [if_neg cb, if_neg (by omega), Nat.or_zero]
        exact old
    · rw [pk_un cq, if_neg (by omega)]
      exact h4 q b hq5 hb4
  have h5 : (n % 20 / 4) ≠ 5 := by omega
  have ev : upd w (n % 20 / 4) (w (n % 20 / 4) ||| nI c <<< nI (24 - 8 * (n % 4))) 5 + 1 = nI (n + 1) := by
    rw [pk_un (Ne.symm h5), h3]
    exact nI_1 n
  generalize hW : upd w (n % 20 / 4) (w (n % 20 / 4) ||| nI c <<< nI (24 - 8 * (n % 4))) = W at hw ev
  have hlast : ∀ j, j < 5 → upd W 5 (nI (n + 1)) j = W j := fun j hj => pk_un (by omega)
  have ec : upd W 5 (nI (n + 1)) 5 - upd W 5 (nI (n + 1)) 5 / 20 * 20 = nI ((n + 1) % 20) := by
    rw [pk_us]
    exact pk_rem (d := 20) (by omega) (by decide) (by decide)
  unfold F_L_add
  rw [h3, e1, e2, ix_nI (by omega) (by decide), nm_e1, ix_nI (by omega) (by decide), nm_e1, nI_clamp (by omega), hW, ev, ec]
  by_cases cz : (n + 1) % 20 = 0
  · have hd : (n + 1) / 20 * 20 = n + 1 := by omega
    obtain ⟨s1, f1, f2, f3, f4⟩ := SI_feed (src := src) (W 0) (W 1) (W 2) (W 3) (W 4) (f := n / 20 * 20) (by rw [h1]) (by omega)
    obtain ⟨w2, g1, g2, g3⟩ := SI_zero (src := s1) (nI c) 5 0 FUEL (upd W 5 (nI (n + 1))) rfl (by decide)
    refine ⟨s1, w2, ?_, by rw [hlen]; omega, by rw [hlen, f2]; congr 1; omega, fun i hi => ?_, by rw [g3 5 (Or.inr rfl), pk_us, hlen], fun q b hq5 hb4 => ?_⟩
    · rw [cz, if_pos (show nI 0 = 0 from rfl), hlast 0 (by decide), hlast 1 (by decide), hlast 2 (by decide), hlast 3 (by decide), hlast 4 (by decide), f1, Option.bind_some]
      exact g1
    · rw [hlen, hd] at hi
      rw [hF]
      by_cases c1 : i < n / 20 * 20
      · rw [if_neg (by omega), f3 i c1]
        exact h2 i c1
      · have hq2 : (i - n / 20 * 20) / 4 < 5 := by omega
        have e9 := f4 ((i - n / 20 * 20) / 4) ((i - n / 20 * 20) % 4) hq2 (Nat.mod_lt _ (by decide))
        rw [show n / 20 * 20 + 4 * ((i - n / 20 * 20) / 4) + (i - n / 20 * 20) % 4 = i by omega] at e9
        rw [e9]
        have e8 := hw ((i - n / 20 * 20) / 4) ((i - n / 20 * 20) % 4) hq2 (Nat.mod_lt _ (by decide))
        rw [show n / 20 * 20 + 4 * ((i - n / 20 * 20) / 4) + (i - n / 20 * 20) % 4 = i by omega, hF] at e8
        rw [← e8]
        congr 2
        rcases (show (i - n / 20 * 20) / 4 = 0 ∨ (i - n / 20 * 20) / 4 = 1 ∨ (i - n / 20 * 20) / 4 = 2 ∨ (i - n / 20 * 20) / 4 = 3 ∨ (i - n / 20 * 20) / 4 = 4 by omega) with e | e | e | e | e <;> rw [e] <;> rfl
    · rw [g2 q (Nat.zero_le _) hq5, ib_0, hlen, hd, sj_beyond (by rw [hlen]; omega)]
      rfl
  · have hd : (n + 1) / 20 * 20 = n / 20 * 20 := by omega
    refine ⟨src, upd W 5 (nI (n + 1)), ?_, by rw [hlen]; omega, by rw [hlen, hd]; exact h1, fun i hi => ?_, by rw [pk_us, hlen], fun q b hq5 hb4 => ?_⟩
    · rw [if_neg (nI_ne0 (by omega) (by omega))]
    · rw [hlen, hd] at hi
      rw [hF, if_neg (by omega)]
      exact h2 i hi
    · rw [hlen, hd, hlast q hq5]
      exact hw q b hq5 hb4
theorem SI_say : ∀ (V U : List Int32) (src : SrcT) (w : Nat → Int32), sj_A V → SI U src w → U.length + V.length ≤ 600 → ∃ src' w', fsay V src w = some (src', w') ∧ SI (U ++ V) src' w' := by
  intro V
  induction V with
  | nil =>
    intro U src w _ h _
    exact ⟨src, w, rfl, by rw [List.append_nil]; exact h⟩
  | cons x V ih =>
    intro U src w hA h hl
    rw [List.length_cons] at hl
    obtain ⟨s1, w1, h1, h2⟩ := SI_add (hA x List.mem_cons_self) h (by omega)
    obtain ⟨s2, w2, h3, h4⟩ := ih (U ++ [x]) s1 w1 (fun y hy => hA y (List.mem_cons_of_mem _ hy)) h2 (by simp; omega)
    refine ⟨s2, w2, ?_, by rw [List.append_assoc] at h4; exact h4⟩
    show (F_L_add x src w).bind _ = _
    rw [h1]
    exact h3
theorem SI_loop (z : Int32) (V : List Int32) : ∀ (r : Nat) (U : List Int32) (src : SrcT) (w : Nat → Int32) (m : Nat), SI U src w → (U.length + r) % 20 = 0 → r < 20 → U.length + r ≤ 600 → r < m → (V.length ≤ U.length ∧ ∀ i, i < V.length → sj_F U i = sj_F V i) →
    ∃ src' w', fx (fun _ _ _ => none) B_L_end_4 m z src w = some (z, (src', w')) ∧ src'.2.1 = nI (U.length + r) ∧ ∀ i, i < V.length → src'.1 i &&& 255 = sj_F V i := by
  intro r
  induction r with
  | zero =>
    intro U src w m h h20 _ hl hm hV
    obtain ⟨m, rfl⟩ : ∃ q, m = q + 1 := ⟨m - 1, by omega⟩
    obtain ⟨h0, h1, h2, h3, h4⟩ := h
    have hd : U.length / 20 * 20 = U.length := by omega
    refine ⟨src, upd w 5 0, ?_, by rw [h1, hd]; rfl, fun i hi => ?_⟩
    · show B_L_end_4 _ _ _ _ = _
      unfold B_L_end_4
      rw [h3, show nI U.length - nI U.length / 20 * 20 = nI (U.length % 20) from pk_rem (d := 20) (by omega) (by decide) (by decide), if_pos (show nI (U.length % 20) = 0 by rw [show U.length % 20 = 0 by omega]; rfl)]
    · rw [h2 i (by omega), hV.2 i hi]
  | succ r ih =>
    intro U src w m h h20 h19 hl hm hV
    obtain ⟨m, rfl⟩ : ∃ q, m = q + 1 := ⟨m - 1, by omega⟩
    obtain ⟨s1, w1, a1, a2⟩ := SI_add (x := 32) (by decide) h (by omega)
    have hlen : (U ++ [(32 : Int32)]).length = U.length + 1 := by simp
    obtain ⟨s2, w2, b1, b2, b3⟩ := ih (U ++ [32]) s1 w1 m a2 (by rw [hlen]; omega) (by omega) (by rw [hlen]; omega) (by omega) ⟨by rw [hlen]; omega, fun i hi => by rw [sj_app1, if_neg (by have := hV.1; omega)]; exact hV.2 i hi⟩
    refine ⟨s2, w2, ?_, by rw [b2, hlen]; congr 1; omega, b3⟩
    show B_L_end_4 (fx (fun _ _ _ => none) B_L_end_4 m) _ _ _ = _
    generalize fx (fun _ _ _ => none) B_L_end_4 m = K at b1
    unfold B_L_end_4
    rw [h.2.2.2.1, show nI U.length - nI U.length / 20 * 20 = nI (U.length % 20) from pk_rem (d := 20) (by have := h.1; omega) (by decide) (by decide), if_neg (nI_ne0 (by omega) (by omega)), a1, Option.bind_some]
    exact b1
theorem SI_end (h : SI U src w) (hl : U.length ≤ 580) : ∃ f src' w', F_L_end src w = some (nI U.length, (src', w')) ∧ src'.2.1 = nI f ∧ U.length ≤ f ∧ f ≤ 600 ∧ TB U src'.1 := by
  have h5 := h.2.2.2.1
  obtain ⟨s2, w2, b1, b2, b3⟩ := SI_loop (nI U.length) U ((20 - U.length % 20) % 20) U src w FUEL h (by omega) (by omega) (by omega) (Nat.lt_of_lt_of_le (Nat.mod_lt _ (by decide)) (by decide)) ⟨Nat.le_refl _, fun _ _ => rfl⟩
  refine ⟨_, s2, w2, ?_, b2, by omega, by omega, by omega, b3⟩
  unfold F_L_end
  rw [h5, nm_e1]
  exact b1
theorem SI_nil (hs : src.2.1 = 0) (hw : ∀ q, q < 6 → w q = 0) : SI [] src w := by
  refine ⟨by decide, hs, fun i hi => absurd hi (by show ¬ i < 0; omega), hw 5 (by decide), fun q b hq hb => ?_⟩
  rw [hw q (by omega), ib_0]
  rfl
end
