/-! ===== PURE: sums, leastOf, gaps, thickest ===== -/
section
variable {w ns k : Nat} {R D : Nat → Nat} {P : PlanT} {row : Nat → Int32} {S : SieveT} {L : Nat}
theorem L_nextPart_neg (hv : SV w k D L S) (hcur : F_X10_current P S = some S) {x : Int32} (hx : x < 0) : F_X10_nextPart x 0 P S = some (m1, S) := by
  unfold F_X10_nextPart
  rw [hcur, Option.bind_some]
  show B_X10_nextPart_14 x 0 P (fx _ _ 999999) (nI 2) S = _
  unfold B_X10_nextPart_14 F_X7_lastNumber
  rw [hv.1, Option.bind_some]
  by_cases q : nI L < nI 2
  · rw [if_pos q]; rfl
  · rw [if_neg q, if_pos (show x < 2 * nI 2 from neg_lt hx (k := 4) (by decide))]; rfl
theorem M_sumFrom_neg (hw : WF w ns R k D) (hR : RX w ns R k D row) (hL : L ≤ 4801) (hL1 : 1 ≤ L) {o t : Nat → Int32} (hS : RS w k D L o t) {x : Int32} (hx : x < 0) :
    F_X11_sumFrom 2 x (nI L) row t = some m1 := by
  refine fx1 (Q := fun v m r => ∃ i, v = nI i ∧ i ≤ L + 1 ∧ m = L + 1 - i ∧ r = some m1) ?_ FUEL (nI 2) (L + 1 - 2) _ ⟨2, rfl, by omega, rfl, rfl⟩ (by unfold FUEL; omega)
  rintro K _ _ _ ih ⟨i, rfl, hi, rfl, rfl⟩
  unfold B_X11_sumFrom_2
  by_cases q : L < i
  · rw [if_pos (nI_lt q (by omega))]; rfl
  · rw [if_neg (nI_nlt (by omega) (by omega))]
    by_cases z : x - nI i < nI i
    · rw [if_pos z]; rfl
    · rw [if_neg z, M_isMark hw hR hL hS (by omega), M_isMarkI hw hR hL hS, sub_big hx (by omega) hL, Option.bind_some, Option.bind_some]
      have hn : K (nI i + 1) = some m1 := by
        show K (nI i + nI 1) = _
        rw [e_add]
        exact ih _ (L + 1 - (i + 1)) _ (by omega) ⟨i + 1, rfl, by omega, rfl, rfl⟩
      cases isM w k D L i with
      | true => exact hn
      | false => exact hn
theorem Q_leastOf (h : CX w ns R k D P row S) (x e0 : Int32) (o t : Nat → Int32) (th : Int32) :
    ∃ v S' e' o' th' t', F_X10_leastOf x P S = some (v, S') ∧ SOK w k D (1 + sm R ns) P S' ∧ F_X11_leastOf x e0 o row th t = some (v, (e', o', th', t')) := by
  obtain ⟨hw, hP, hR, hS⟩ := h
  obtain ⟨o', t', hm, hRS⟩ := M_strike hw hR e0 o t
  obtain ⟨S', hc, hv, hk, hcc⟩ := L_cur hw hP hS
  have hL := hw.last
  have e : F_X10_nextPart x 0 P S = F_X10_nextPart x 0 P S' := by
    unfold F_X10_nextPart
    rw [hc, hcc]
  unfold F_X10_leastOf F_X11_leastOf
  rw [e, hm, Option.bind_some]
  rcases i_cases x with hx | ⟨n, hn, rfl⟩
  · rw [L_nextPart_neg hv hcc hx]
    refine ⟨m1, S', nI (1 + sm R ns), o', 0, t', rfl, hk, ?_⟩
    show (F_X11_sumFrom 2 x (nI (1 + sm R ns)) row t').bind _ = _
    rw [M_sumFrom_neg hw hR hL (by omega) hRS hx]
    rfl
  · rw [show (0 : Int32) = nI 0 from rfl, L_nextPart hw hP hv hcc hn (Or.inr (by omega)), Option.bind_some]
    refine ⟨_, S', nI (1 + sm R ns), o', 0, t', rfl, hk, ?_⟩
    show (F_X11_sumFrom (nI 2) (nI n) (nI (1 + sm R ns)) row t').bind _ = _
    rw [M_sumFrom hw hR hL hRS hn (Nat.le_refl _) (by unfold sN; omega)]
    rfl
theorem Q_sums (h : CX w ns R k D P row S) (x e0 : Int32) (o t : Nat → Int32) (th : Int32) :
    ∃ v S' e' o' th' t', F_X10_sums x P S = some (v, S') ∧ SOK w k D (1 + sm R ns) P S' ∧ F_X11_sums x e0 o row th t = some (v, (e', o', th', t')) := by
  obtain ⟨hw, hP, hR, hS⟩ := h
  obtain ⟨o', t', hm, hRS⟩ := M_strike hw hR e0 o t
  obtain ⟨S', hc, hv, hk, hcc⟩ := L_cur hw hP hS
  have hL := hw.last
  have e : F_X10_nextPart x 0 P S = F_X10_nextPart x 0 P S' := by
    unfold F_X10_nextPart
    rw [hc, hcc]
  unfold F_X10_sums F_X11_sums
  rw [e, hm, Option.bind_some]
  rcases i_cases x with hx | ⟨n, hn, rfl⟩
  · rw [L_nextPart_neg hv hcc hx, Option.bind_some]
    refine ⟨nI 0, S', nI (1 + sm R ns), o', 0, t', ?_, hk, ?_⟩
    · show B_X10_sums_9 x P (fx _ _ 999999) (nI 0) m1 S' = _
      unfold B_X10_sums_9
      rw [if_pos (show m1 = -1 from rfl)]
    · show (F_X11_sumFrom 2 x (nI (1 + sm R ns)) row t').bind _ = _
      rw [M_sumFrom_neg hw hR hL (by omega) hRS hx, Option.bind_some]
      show B_X11_sums_18 x row (fx _ _ 999999) (nI 0) m1 (nI (1 + sm R ns)) o' 0 t' = _
      unfold B_X11_sums_18
      rw [if_pos (show m1 = -1 from rfl)]
  · rw [show (0 : Int32) = nI 0 from rfl, L_nextPart hw hP hv hcc hn (Or.inr (by omega)), Option.bind_some]
    have hsN : sN (1 + sm R ns) n ≤ 4802 := by unfold sN; omega
    have hs2 : 2 ≤ sN (1 + sm R ns) n := by unfold sN; omega
    refine ⟨nI (cn (su w k D (1 + sm R ns) n) 2 (sN (1 + sm R ns) n - 2)), S', nI (1 + sm R ns), o', 0, t', ?_, hk, ?_⟩
    · refine fx3 (Q := fun u v T m r => S' = T ∧ ∃ c a, u = nI c ∧ v = oI (fi (su w k D (1 + sm R ns) n) a (sN (1 + sm R ns) n - a)) ∧ 2 ≤ a ∧ a ≤ sN (1 + sm R ns) n ∧ c + 2 ≤ a ∧ m = sN (1 + sm R ns) n - a ∧ r = some (nI (c + cn (su w k D (1 + sm R ns) n) a (sN (1 + sm R ns) n - a)), S')) ?_ FUEL _ _ _ (sN (1 + sm R ns) n - 2) _ ⟨rfl, 0, 2, rfl, rfl, by omega, by omega, by omega, rfl, by rw [Nat.zero_add]⟩ (by unfold FUEL; omega)
      rintro K _ _ _ _ _ ih ⟨rfl, c, a, rfl, rfl, h2, ha, hca, rfl, rfl⟩
      unfold B_X10_sums_9
      cases hf : fi (su w k D (1 + sm R ns) n) a (sN (1 + sm R ns) n - a) with
      | none =>
        rw [if_pos (show oI none = -1 from rfl), cn_zero (fi_none.mp hf), Nat.add_zero]
      | some v =>
        obtain ⟨j1, j2, j3, j4⟩ := fi_some hf
        show (if nI v = -1 then _ else _) = _
        rw [if_neg (m1_ne (by omega))]
        show (if 4801 ≤ nI c then _ else nm (nI c + 1) fun x3_11 => (F_X10_nextPart (nI n) (nI v) P S').bind _) = _
        simp (disch := omega) only [↓m1_d, ↓m2_d, e_m2, e_m2', e_m12, e_m21, liN, e_le, e_lt, e_eqm, e_eq, e_m1, e_m1', e_m1l, e_m1e, e_m1g, e_m1h, e_add, e_mul, e_sub, e_pred, e_rem, ix_nI, nz_nI, nI_clamp, nm_e1, Nat.add_zero, if_true, if_false, Nat.reduceEqDiff, eq_self, reduceIte]
        rw [if_neg (by omega), L_nextPart hw hP hv hcc hn (Or.inl (by omega)), Option.bind_some, show max 2 (v + 1) = v + 1 by omega, show sN (1 + sm R ns) n - a = (v - a) + ((sN (1 + sm R ns) n - (v + 1)) + 1) by omega, cn_add, cn_zero (fun i a1 a2 => j4 i a1 (by omega)), show a + (v - a) = v by omega, cn_s, if_pos j3, Nat.zero_add, ← Nat.add_assoc]
        exact ih _ _ _ (sN (1 + sm R ns) n - (v + 1)) _ (by omega) ⟨rfl, c + 1, v + 1, rfl, rfl, by omega, by omega, by omega, rfl, rfl⟩
    · show (F_X11_sumFrom (nI 2) (nI n) (nI (1 + sm R ns)) row t').bind _ = _
      rw [M_sumFrom hw hR hL hRS hn (Nat.le_refl _) hs2, Option.bind_some]
      refine fx6 (Q := fun u v e oo t1 tt m r => e = nI (1 + sm R ns) ∧ o' = oo ∧ t1 = 0 ∧ t' = tt ∧ ∃ c a, u = nI c ∧ v = oI (fi (su w k D (1 + sm R ns) n) a (sN (1 + sm R ns) n - a)) ∧ 2 ≤ a ∧ a ≤ sN (1 + sm R ns) n ∧ m = sN (1 + sm R ns) n - a ∧ r = some (nI (c + cn (su w k D (1 + sm R ns) n) a (sN (1 + sm R ns) n - a)), (nI (1 + sm R ns), o', 0, t')))
        ?_ FUEL _ _ _ _ _ _ (sN (1 + sm R ns) n - 2) _ ⟨rfl, rfl, rfl, rfl, 0, 2, rfl, rfl, by omega, by omega, rfl, by rw [Nat.zero_add]⟩ (by unfold FUEL; omega)
      rintro K _ _ _ _ _ _ _ _ ih ⟨rfl, rfl, rfl, rfl, c, a, rfl, rfl, h2, ha, rfl, rfl⟩
      unfold B_X11_sums_18
      cases hf : fi (su w k D (1 + sm R ns) n) a (sN (1 + sm R ns) n - a) with
      | none =>
        rw [if_pos (show oI none = -1 from rfl), cn_zero (fi_none.mp hf), Nat.add_zero]
      | some v =>
        obtain ⟨j1, j2, j3, j4⟩ := fi_some hf
        show (if nI v = -1 then _ else _) = _
        rw [if_neg (m1_ne (by omega))]
        show (nm (nI c + 1) fun x3_11 => (F_X11_sumFrom (nI v + 1) (nI n) (nI (1 + sm R ns)) row t').bind _) = _
        simp (disch := omega) only [↓m1_d, ↓m2_d, e_m2, e_m2', e_m12, e_m21, liN, e_le, e_lt, e_eqm, e_eq, e_m1, e_m1', e_m1l, e_m1e, e_m1g, e_m1h, e_add, e_mul, e_sub, e_pred, e_rem, ix_nI, nz_nI, nI_clamp, nm_e1, Nat.add_zero, if_true, if_false, Nat.reduceEqDiff, eq_self, reduceIte]
        rw [M_sumFrom hw hR hL hRS hn (by omega) (by omega), Option.bind_some, show sN (1 + sm R ns) n - a = (v - a) + ((sN (1 + sm R ns) n - (v + 1)) + 1) by omega, cn_add, cn_zero (fun i a1 a2 => j4 i a1 (by omega)), show a + (v - a) = v by omega, cn_s, if_pos j3, Nat.zero_add, ← Nat.add_assoc]
        exact ih _ _ _ _ _ _ (sN (1 + sm R ns) n - (v + 1)) _ (by omega) ⟨rfl, rfl, rfl, rfl, c + 1, v + 1, rfl, rfl, by omega, by omega, rfl, rfl⟩
/-! thickest: so many marks in a window of x -/
theorem Q_thickest (h : CX w ns R k D P row S) (x e0 : Int32) (o t : Nat → Int32) (th : Int32) :
    ∃ r S' b e' o' th' t', F_X10_thickest x P S = some (r, S') ∧ SOK w k D (1 + sm R ns) P S' ∧ F_X11_thickest x e0 o row th t = some (b, (e', o', th', t')) ∧ ag 1 r b th' := by
  obtain ⟨hw, hP, hR, hS⟩ := h
  obtain ⟨o', t', hm, hRS⟩ := M_strike hw hR e0 o t
  obtain ⟨S', hc, hv, hk⟩ := L_current hw hP hS
  have hL := hw.last
  unfold F_X10_thickest F_X11_thickest F_X11_isGap
  rcases N_range (a := 1) (b := 400) (by decide) (by decide) x with ⟨g, hn, h1, h2, rfl, h3, h4⟩ | ⟨h3, h4⟩
  · rw [show F_X10_needInRange (nI g) 1 400 = _ from h3, show F_X11_inRange (nI g) 1 400 = _ from h4, Option.bind_some, Option.bind_some, Option.bind_some, M_lacks, Option.bind_some]
    generalize hLL : 1 + sm R ns = L at *
    -- the window that ends at i
    have muS : ∀ i, 2 ≤ i → i ≤ L → mu w k D L i = mu w k D L (i - 1) + (if mk w k D i = true then 1 else 0) := by
      intro i i1 i2
      unfold mu
      rw [show min i L - 1 = (min (i - 1) L - 1) + 1 by omega, cn_snoc, show 2 + (min (i - 1) L - 1) = i by omega]
    have mbw : ∀ i, 2 ≤ i → i ≤ L → F_X7_marksBetween (nI i - nI g + 1) (nI i) S' = some (nI (mu w k D L i - mu w k D L (i - g))) := by
      intro i i1 i2
      by_cases z : g ≤ i + 1
      · have e : nI i - nI g + 1 = nI (i + 1 - g) := by
          have : nI i + nI 1 = nI (i + 1 - g) + nI g := by rw [e_add, e_add]; congr 1; omega
          show nI i - nI g + nI 1 = _
          rw [Int32.sub_eq_add_neg, Int32.add_assoc, Int32.add_comm (-nI g), ← Int32.add_assoc, this, ← Int32.sub_eq_add_neg, Int32.add_sub_cancel]
        rw [e, L_marksBetween hL hv (by omega) (by omega)]
        unfold mb
        by_cases y : i + 1 - g < 2
        · rw [show max (i + 1 - g) 2 - 1 = 1 by omega, mu_lo (n := 1) (by omega), mu_lo (n := i - g) (by omega)]
        · rw [show max (i + 1 - g) 2 - 1 = i - g by omega]
      · have e : nI i - nI g + 1 < 0 := by
          rcases i_cases (nI i - nI g + 1) with h | ⟨m, hm, e⟩
          · exact h
          · exfalso
            have h1 : nI (i + 1) = nI (m + g) := by
              rw [← e_add m g, ← e]
              show _ = nI i - nI g + nI 1 + nI g
              rw [Int32.add_assoc, Int32.add_comm (nI 1), ← Int32.add_assoc, Int32.sub_add_cancel, e_add]
            have h2 : (i + 1) % 2 ^ 32 = (m + g) % 2 ^ 32 := congrArg (fun x : Int32 => x.toBitVec.toNat) h1
            omega
        have e2 : F_X7_marksBetween (nI i - nI g + 1) (nI i) S' = F_X7_marksBetween (nI 1) (nI i) S' := by
          unfold F_X7_marksBetween
          rw [if_pos (show nI i - nI g + 1 < 2 from neg_lt e (k := 2) (by decide)), if_pos (show nI 1 < 2 by decide)]
        rw [e2, L_marksBetween hL hv (by omega) (by omega)]
        unfold mb
        rw [show max 1 2 - 1 = 1 by rfl, mu_lo (n := 1) (by omega), mu_lo (n := i - g) (by omega)]
    have isMw : ∀ i, 2 ≤ i → i ≤ L → isMI w k D L (nI i - nI g) = (decide (g ≤ i) && isM w k D L (i - g)) := by
      intro i i1 i2
      by_cases z : g ≤ i
      · rw [e_sub z, isMI_nI (by omega), decide_eq_true z, Bool.true_and]
      · rw [decide_eq_false z, Bool.false_and]
        rcases i_cases (nI i - nI g) with h | ⟨m, hm, e⟩
        · exact isMI_neg h
        · exfalso
          have h1 : nI i = nI (m + g) := by rw [← e_add, ← e, Int32.sub_add_cancel]
          have h2 : i % 2 ^ 32 = (m + g) % 2 ^ 32 := congrArg (fun x : Int32 => x.toBitVec.toNat) h1
          omega
    have key := fxp (bot1 := fun _ _ _ => none) (bot2 := fun _ _ _ _ _ _ _ => none) (B1 := B_X10_thickest_18 (nI g) P) (B2 := B_X11_thickest_24 (nI g) row)
      (P := fun n K1 K2 => ∀ b i, b ≤ 5000 → 2 ≤ i → i ≤ L + 1 ∨ i = 2 → L + 1 - i < n → ∃ v, K1 (nI b) (nI i) S' = some (.inr v, S') ∧ K2 (nI b) (nI (mu w k D L (i - 1) - mu w k D L (i - 1 - g))) (nI i) (nI L) o' 0 t' = some (v, (nI L, o', 0, t')))
      (fun b i _ _ _ h => absurd h (Nat.not_lt_zero _))
      (fun n K1 K2 ih b i hb h2 hi hn => by
        unfold B_X10_thickest_18 B_X11_thickest_24 F_X7_lastNumber
        rw [hv.1, Option.bind_some]
        by_cases q : L < i
        · rw [if_pos (nI_lt q (by omega)), if_pos (nI_lt q (by omega))]
          exact ⟨_, rfl, rfl⟩
        · rw [if_neg (nI_nlt (by omega) (by omega)), if_neg (nI_nlt (by omega) (by omega)), mbw i h2 (by omega), M_isMark hw hR hL hRS (by omega), M_isMarkI hw hR hL hRS, isMw i h2 (by omega), Option.bind_some, Option.bind_some]
          have l1 := mu_le (w := w) (k := k) (D := D) (L := L) (n := i)
          have l2 := mu_mono (w := w) (k := k) (D := D) (L := L) (a := i - g) (b := i) (by omega)
          have l3 := mu_mono (w := w) (k := k) (D := D) (L := L) (a := i - 1 - g) (b := i - 1) (by omega)
          have s1 := muS i h2 (by omega)
          have em : isM w k D L i = mk w k D i := by
            unfold isM
            rw [decide_eq_true (by omega : 2 ≤ i ∧ i ≤ L), Bool.true_and]
          rw [em]
          -- what leaves the window
          have s2 : mu w k D L (i - g) = mu w k D L (i - 1 - g) + (if (decide (g ≤ i) && isM w k D L (i - g)) = true then 1 else 0) := by
            by_cases z : 2 ≤ i - g
            · have em2 : isM w k D L (i - g) = mk w k D (i - g) := by
                unfold isM
                rw [decide_eq_true (by omega : 2 ≤ i - g ∧ i - g ≤ L), Bool.true_and]
              rw [muS (i - g) z (by omega), em2, decide_eq_true (by omega), Bool.true_and, show i - g - 1 = i - 1 - g by omega]
            · have em2 : isM w k D L (i - g) = false := by
                unfold isM
                rw [decide_eq_false (by omega), Bool.false_and]
              rw [em2, Bool.and_false, mu_lo (by omega), mu_lo (by omega)]
              rfl
          have fin : ∀ z : Nat, z = mu w k D L i - mu w k D L (i - g) → ∃ v, K1 (if nI b < nI z then nI z else nI b) (nI (i + 1)) S' = some (.inr v, S') ∧ (if nI z ≤ nI b then K2 (nI b) (nI z) (nI (i + 1)) (nI L) o' 0 t' else K2 (nI z) (nI z) (nI (i + 1)) (nI L) o' 0 t') = some (v, (nI L, o', 0, t')) := by
            intro z hz
            have st : ∀ b, b ≤ 5000 → ∃ v, K1 (nI b) (nI (i + 1)) S' = some (.inr v, S') ∧ K2 (nI b) (nI z) (nI (i + 1)) (nI L) o' 0 t' = some (v, (nI L, o', 0, t')) := by
              intro b hb
              have := ih b (i + 1) hb (by omega) (by omega) (by omega)
              rw [show i + 1 - 1 = i by omega, ← hz] at this
              exact this
            by_cases y : z ≤ b
            · rw [if_neg (nI_nlt y (by omega)), if_pos (nI_le y (by omega))]
              exact st b hb
            · rw [if_pos (nI_lt (by omega) (by omega)), if_neg (nI_ge (by omega) (by omega))]
              exact st z (by omega)
          have a1 : nI i + 1 = nI (i + 1) := e_add i 1
          simp only [nm_e1, a1]
          cases hmi : mk w k D i with
          | true =>
            rw [hmi, if_pos rfl] at s1
            cases hwo : (decide (g ≤ i) && isM w k D L (i - g)) with
            | true =>
              rw [hwo, if_pos rfl] at s2
              have e : nI (mu w k D L (i - 1) - mu w k D L (i - 1 - g)) + 1 - 1 = nI (mu w k D L i - mu w k D L (i - g)) := by
                show nI _ + nI 1 - nI 1 = _
                rw [Int32.add_sub_cancel]
                congr 1
                omega
              simp only [if_true, Bool.false_eq_true, if_false, e]
              exact fin _ rfl
            | false =>
              rw [hwo, if_neg Bool.false_ne_true] at s2
              have e : nI (mu w k D L (i - 1) - mu w k D L (i - 1 - g)) + 1 - 0 = nI (mu w k D L i - mu w k D L (i - g)) := by
                show nI _ + nI 1 - 0 = _
                rw [Int32.sub_zero, e_add]
                congr 1
                omega
              simp only [if_true, Bool.false_eq_true, if_false, e]
              exact fin _ rfl
          | false =>
            rw [hmi, if_neg Bool.false_ne_true] at s1
            cases hwo : (decide (g ≤ i) && isM w k D L (i - g)) with
            | true =>
              rw [hwo, if_pos rfl] at s2
              have e : nI (mu w k D L (i - 1) - mu w k D L (i - 1 - g)) + 0 - 1 = nI (mu w k D L i - mu w k D L (i - g)) := by
                show nI _ + 0 - nI 1 = _
                rw [Int32.add_zero, e_sub (by omega)]
                congr 1
                omega
              simp only [if_true, Bool.false_eq_true, if_false, e]
              exact fin _ rfl
            | false =>
              rw [hwo, if_neg Bool.false_ne_true] at s2
              have e : nI (mu w k D L (i - 1) - mu w k D L (i - 1 - g)) + 0 - 0 = nI (mu w k D L i - mu w k D L (i - g)) := by
                rw [Int32.add_zero, Int32.sub_zero]
                congr 1
                omega
              simp only [if_true, Bool.false_eq_true, if_false, e]
              exact fin _ rfl)
      FUEL 0 2 (by omega) (by omega) (Or.inr rfl) (by unfold FUEL; omega)
    obtain ⟨v, k1, k2⟩ := key
    refine ⟨.inr v, S', v, nI L, o', 0, t', ?_, hk, ?_, rfl, rfl⟩
    · rw [Sum.elim_inr, hc, Option.bind_some]
      exact k1
    · show (F_X11_strike e0 o row t).bind _ = _
      rw [hm, Option.bind_some]
      rw [show (2 : Nat) - 1 = 1 from rfl, mu_lo (n := 1) (by omega), Nat.zero_sub] at k2
      exact k2
  · rw [show F_X10_needInRange x 1 400 = _ from h3, show F_X11_inRange x 1 400 = _ from h4, Option.bind_some, Option.bind_some, Option.bind_some, M_lacks, Option.bind_some]
    exact ⟨_, _, _, _, _, _, _, rfl, hS, rfl, rfl, rfl⟩
end
