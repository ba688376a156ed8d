/-! ===== PURE: words, values ===== -/
theorem w_len {x : Nat} (h : x < 13) : F_J0_length_8abf5 x = some (nI (sw_len.getD x 0)) := by
  have : (List.range 13).all (fun x => decide (F_J0_length_8abf5 x = some (nI (sw_len.getD x 0)))) = true := by decide +kernel
  exact of_decide_eq_true (List.all_eq_true.mp this x (List.mem_range.mpr h))
theorem w_len7 {x : Nat} (h : x < 13) : sw_len.getD x 0 ≤ 7 := by
  have : (List.range 13).all (fun x => decide (sw_len.getD x 0 ≤ 7)) = true := by decide +kernel
  exact of_decide_eq_true (List.all_eq_true.mp this x (List.mem_range.mpr h))
theorem w_ch {x q : Nat} (h : x < 13) (hq : q < sw_len.getD x 0) : ∃ c, F_J0_charAt_5068e x (nI q) = some c := by
  have : (List.range 13).all (fun x => (List.range (sw_len.getD x 0)).all (fun q => (F_J0_charAt_5068e x (nI q)).isSome)) = true := by decide +kernel
  have := List.all_eq_true.mp (List.all_eq_true.mp this x (List.mem_range.mpr h)) q (List.mem_range.mpr hq)
  exact Option.isSome_iff_exists.mp this
section
variable {g : Nat → Nat} {f n : Nat} {sb b : Nat → Int32}
theorem lk_wd {x : Nat} (hx : x < 13) {t : SrcT} (hB : BY g f t.1 b) {i : Nat} (hs : t.2.2.2.2.2.1 = nI i) (hi : i + sw_len.getD x 0 ≤ f) (err nb tok : Int32) :
    ∀ m f1 f2 q, sw_len.getD x 0 - q = m → q ≤ sw_len.getD x 0 → m < f1 → m + 1 < f2 →
      ∃ v, fx (fun _ => none) (B_X8_isWord_28 x t) f1 (nI q) = some v ∧ fx (fun _ _ => none) (B_X11_isWord_39 x (nI i) b err nb tok) f2 true (nI q) = some v
  | 0, f1, f2, q, hm, hq, h1, h2 => by
    have h7 := w_len7 hx
    obtain ⟨f1, rfl⟩ : ∃ q, f1 = q + 1 := ⟨f1 - 1, by omega⟩
    obtain ⟨f2, rfl⟩ : ∃ q, f2 = q + 1 := ⟨f2 - 1, by omega⟩
    have hl : nI (sw_len.getD x 0) ≤ nI q := nI_le (by omega) (by omega)
    refine ⟨true, ?_, ?_⟩
    · rw [fx_s, B_X8_isWord_28]
      unfold kl
      rw [if_pos hx, w_len hx, Option.bind_some, if_pos hl]
    · rw [fx_s, B_X11_isWord_39]
      unfold kl
      rw [if_pos rfl, if_pos hx, w_len hx, Option.bind_some, if_pos hl]
  | m + 1, f1, f2, q, hm, hq, h1, h2 => by
    have h6 := hB.1
    have h7 := w_len7 hx
    obtain ⟨f1, rfl⟩ : ∃ q, f1 = q + 1 := ⟨f1 - 1, by omega⟩
    obtain ⟨f2, rfl⟩ : ∃ q, f2 = q + 1 := ⟨f2 - 1, by omega⟩
    have hl : ¬ nI (sw_len.getD x 0) ≤ nI q := nI_ge (by omega) (by omega)
    obtain ⟨ch, hc⟩ := w_ch hx (q := q) (by omega)
    have hb := L_byteAt hB (i := i + q) (by omega) t rfl
    have next : nI q + 1 = nI (q + 1) := e_add q 1
    have cls : ∀ r, (if nI (g (i + q)) = ch then fx (fun _ => none) (B_X8_isWord_28 x t) f1 (nI (q + 1)) else some false) = some r → fx (fun _ => none) (B_X8_isWord_28 x t) (f1 + 1) (nI q) = some r := by
      intro r hr
      rw [fx_s, B_X8_isWord_28]
      unfold kl
      rw [if_pos hx, w_len hx, Option.bind_some, if_neg hl, hs, e_add, hb, Option.bind_some, hc, Option.bind_some, nm_e1, next]
      exact hr
    have ref : ∀ r, (if ch = nI (g (i + q)) then fx (fun _ _ => none) (B_X11_isWord_39 x (nI i) b err nb tok) f2 true (nI (q + 1)) else fx (fun _ _ => none) (B_X11_isWord_39 x (nI i) b err nb tok) f2 false (nI (q + 1))) = some r →
        fx (fun _ _ => none) (B_X11_isWord_39 x (nI i) b err nb tok) (f2 + 1) true (nI q) = some r := by
      intro r hr
      rw [fx_s, B_X11_isWord_39]
      unfold kl
      rw [if_pos rfl, if_pos hx, w_len hx, Option.bind_some, if_neg hl, hc, Option.bind_some, e_add, ix_nI (by omega) (by decide), nI_clamp (by omega), (hB.2 (i + q) (by omega)).2.2, nm_e1, nm_e1, next]
      exact hr
    by_cases e : nI (g (i + q)) = ch
    · obtain ⟨v, k1, k2⟩ := lk_wd hx hB hs hi err nb tok m f1 f2 (q + 1) (by omega) (by omega) (by omega) (by omega)
      refine ⟨v, cls v ?_, ref v ?_⟩
      · rw [if_pos e]; exact k1
      · rw [if_pos e.symm]; exact k2
    · refine ⟨false, cls _ (by rw [if_neg e]), ref _ ?_⟩
      rw [if_neg (fun q => e q.symm)]
      obtain ⟨f3, rfl⟩ : ∃ q, f2 = q + 1 := ⟨f2 - 1, by omega⟩
      rw [fx_s, B_X11_isWord_39]
      rw [if_neg (by decide)]
theorem wd_false {x : Nat} {bb : Nat → Int32} {ba err nb tok v : Int32} : fx (fun _ _ => none) (B_X11_isWord_39 x ba bb err nb tok) FUEL false v = some false := by
  show B_X11_isWord_39 x ba bb err nb tok (fx _ _ 999999) false v = _
  unfold B_X11_isWord_39
  rw [if_neg (by decide)]
theorem TK.word {t : SrcT} {ba nb tok : Int32} (hB : BY g f t.1 b) (hn : n ≤ f) (h : TK g n t ba nb tok) {x : Nat} (hx : x < 13) :
    ∃ v, F_X8_isWord x t = some v ∧ F_X11_isWord x ba b 0 nb tok = some v := by
  have h6 := hB.1
  have h7 := w_len7 hx
  obtain ⟨i, j, hij, hj, e1, e2, rfl, e4, rfl, hc⟩ := h
  have dif : nI j - nI i = nI (j - i) := e_sub hij
  unfold F_X8_isWord F_X11_isWord kl
  rw [if_pos rfl, if_pos hx, if_pos hx, w_len hx, Option.bind_some, Option.bind_some, e2, e4, dif]
  have no : ∀ kd : Int32, ¬ kd = 1 → ∀ A : Option Bool, (if kd = 1 then A else some false) = some false := fun kd hk A => if_neg hk
  rcases hc with ⟨a, rfl⟩ | ⟨a, rfl⟩ | ⟨a, rfl, -⟩ | ⟨a, rfl, -⟩ | ⟨a, rfl, -⟩
  · refine ⟨false, ?_, ?_⟩
    · rw [a]; rfl
    · rw [if_neg (by decide)]; exact wd_false
  · rw [a, if_pos rfl, if_pos rfl]
    by_cases z : j - i = sw_len.getD x 0
    · obtain ⟨v, k1, k2⟩ := lk_wd hx hB e4 (by omega) 0 (nI j) 1 (sw_len.getD x 0) FUEL FUEL 0 rfl (by omega) (by unfold FUEL; omega) (by unfold FUEL; omega)
      refine ⟨v, ?_, ?_⟩
      · rw [z, if_pos rfl]; exact k1
      · rw [z, if_pos rfl]; exact k2
    · refine ⟨false, ?_, ?_⟩
      · rw [if_neg (fun e => z ((nI_eq_lit _ (by omega) (by omega)).mp e))]
      · rw [if_neg (fun e => z ((nI_eq_lit _ (by omega) (by omega)).mp e).symm)]; exact wd_false
  · refine ⟨false, ?_, ?_⟩
    · rw [a]; rfl
    · rw [if_neg (by decide)]; exact wd_false
  · refine ⟨false, ?_, ?_⟩
    · rw [a]; rfl
    · rw [if_neg (by decide)]; exact wd_false
  · refine ⟨false, ?_, ?_⟩
    · rw [a]; rfl
    · rw [if_neg (by decide)]; exact wd_false
theorem word_err {x : Nat} {ba nb tok err : Int32} (h : ¬ err = 0) : F_X11_isWord x ba b err nb tok = some false := by
  unfold F_X11_isWord
  rw [if_neg h]
  exact wd_false
theorem rv_lt {i : Nat} : ∀ K, (∀ k, k < K → 48 ≤ g (i + k) ∧ g (i + k) ≤ 57) → rv g i K < 100000000
  | 0, _ => by show 0 < 100000000; omega
  | K + 1, h => by
    have h1 := rv_lt K (fun k hk => h k (by omega))
    have h2 := h K (by omega)
    show rs (rv g i K) (g (i + K)) < _
    unfold rs
    split <;> omega
/-- the reference's value of a number -/
theorem lk_val (hB : BY g f sb b) {i j : Nat} (hj : j ≤ f) : ∀ m f1 q, j - q = m → q ≤ j → i ≤ q → m < f1 → (∀ k, i + k < j → 48 ≤ g (i + k) ∧ g (i + k) ≤ 57) →
    fx (fun _ _ => none) (B_X11_value_7 (nI i) b (nI j) 2) f1 (nI (rv g i (q - i))) (nI q) = some (nI (rv g i (j - i)))
  | 0, f1, q, hm, hq, hi, h1, hd => by
    have h6 := hB.1
    obtain ⟨f1, rfl⟩ : ∃ q, f1 = q + 1 := ⟨f1 - 1, by omega⟩
    have e : q = j := by omega
    subst e
    rw [fx_s, B_X11_value_7]
    rw [if_pos (nI_le (Nat.le_refl _) (by omega))]
  | m + 1, f1, q, hm, hq, hi, h1, hd => by
    have h6 := hB.1
    obtain ⟨f1, rfl⟩ : ∃ q, f1 = q + 1 := ⟨f1 - 1, by omega⟩
    have next : nI q + 1 = nI (q + 1) := e_add q 1
    have hx := rv_lt (g := g) (i := i) (q - i) (fun k hk => hd k (by omega))
    have hg := hd (q - i) (by omega)
    rw [show i + (q - i) = q by omega] at hg
    have er : rv g i (q + 1 - i) = rs (rv g i (q - i)) (g q) := by
      rw [show q + 1 - i = (q - i) + 1 by omega]
      show rs (rv g i (q - i)) (g (i + (q - i))) = _
      rw [show i + (q - i) = q by omega]
    have ih := lk_val hB hj m f1 (q + 1) (by omega) (by omega) (by omega) (by omega) hd
    rw [er] at ih
    rw [fx_s, B_X11_value_7]
    rw [if_neg (nI_ge (by omega) (by omega)), if_pos rfl]
    unfold rs at ih
    by_cases z : rv g i (q - i) ≤ 9999999
    · rw [if_pos z] at ih
      have ev : 10 * nI (rv g i (q - i)) + nI (g q) - 48 = nI (10 * rv g i (q - i) + g q - 48) := by
        rw [show 10 * nI (rv g i (q - i)) = nI (10 * rv g i (q - i)) from e_mul 10 _, e_add]
        exact e_sub (b := 48) (by omega)
      rw [if_pos (show nI _ ≤ 9999999 from nI_le (b := 9999999) z (by decide)), ix_nI (by omega) (by decide), nI_clamp (by omega), (hB.2 q (by omega)).2.2, nm_e1, nm_e1, ev, next]
      exact ih
    · rw [if_neg z] at ih
      rw [if_neg (show ¬ nI _ ≤ 9999999 from nI_ge (a := 9999999) (by omega) (by omega)), nm_e1, next]
      exact ih
end
