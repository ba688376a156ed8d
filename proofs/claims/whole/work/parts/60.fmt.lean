/-! ===== PURE: format: bytes ===== -/
theorem byt_id {c : Nat} (h : c < 128) : vp_nar .byte (nI c).toInt8.toInt32 = nI c := by
  have : (List.range 128).all (fun c => decide ((nI c).toInt8.toInt32 = nI c)) = true := by decide +kernel
  rw [pk_vb]
  exact of_decide_eq_true (List.all_eq_true.mp this c (List.mem_range.mpr h))
/-- n bytes stand in both -/
def SN (n : Nat) (sh : SheetT) (f : Nat → Int32) (fl : Int32) : Prop := sh.2 = nI n ∧ fl = nI n ∧ ∀ i, i < n → sh.1 i = f i
section
variable {n m : Nat} {sh : SheetT} {f : Nat → Int32} {fl : Int32}
theorem SN.put (h : SN n sh f fl) (hn : n < 2000) {c : Nat} (hc : c < 128) :
    ∃ sh' f' fl', F_X6_put (nI c) sh = some sh' ∧ F_X11_write (nI c) f fl = some (f', fl') ∧ SN (n + 1) sh' f' fl' := by
  obtain ⟨h1, rfl, h3⟩ := h
  have e : nI n + 1 = nI (n + 1) := e_add n 1
  refine ⟨(upd sh.1 n (nI c), nI (n + 1)), upd f n (nI c), nI (n + 1), ?_, ?_, rfl, rfl, fun i hi => ?_⟩
  · unfold F_X6_put
    rw [h1, if_neg (show ¬ (2000 : Int32) ≤ nI n from nI_ge (b := 2000) hn (by decide)), ix_nI hn (by decide), nm_e1, nI_clamp (by omega), byt_id hc, e]
  · unfold F_X11_write
    rw [ix_nI (by omega) (by decide), nm_e1, nI_clamp (by omega), e]
  · show upd sh.1 n (nI c) i = upd f n (nI c) i
    by_cases q : i = n
    · rw [q, pk_us, pk_us]
    · rw [pk_un q, pk_un q]
      exact h3 i (by omega)
/-- the digit at a unit -/
theorem digit_at {u : Nat} (hm : m < 2 ^ 31) (h0 : 0 < u) (hu : u < 2 ^ 31) : (48 : Int32) + (nI m / nI u - nI m / nI u / 10 * 10) = nI (48 + m / u % 10) := by
  have hd : m / u < 2 ^ 31 := Nat.lt_of_le_of_lt (Nat.div_le_self _ _) hm
  rw [pk_div hm h0 hu]
  have e : nI (m / u) - nI (m / u) / 10 * 10 = nI (m / u % 10) := pk_rem (d := 10) hd (by decide) (by decide)
  rw [e]
  exact e_add 48 _
theorem SN.digits (hm : m ≤ 9999) : ∀ e f1 f2 n (sh : SheetT) f fl, e ≤ 3 → 10 ^ e ≤ m → SN n sh f fl → n + (e + 1) ≤ 2000 → e + 1 < f1 → e + 1 < f2 →
    ∃ sh' f' fl', fx (fun _ _ => none) (B_X6_putNumber_4 (nI m)) f1 (nI (10 ^ e)) sh = some sh' ∧ fx (fun _ _ _ => none) (B_X11_writeNumber_20 (nI m)) f2 (nI (10 ^ e)) f fl = some (f', fl') ∧ SN (n + (e + 1)) sh' f' fl'
  | 0, f1, f2, n, sh, f, fl, _, h1, hs, hn, g1, g2 => by
    obtain ⟨f1, rfl⟩ : ∃ q, f1 = q + 1 + 1 := ⟨f1 - 2, by omega⟩
    obtain ⟨f2, rfl⟩ : ∃ q, f2 = q + 1 + 1 := ⟨f2 - 2, by omega⟩
    obtain ⟨sh', f', fl', p1, p2, p3⟩ := hs.put (by omega) (c := 48 + m / 1 % 10) (by omega)
    have ed := digit_at (m := m) (u := 1) (by omega) (by decide) (by decide)
    refine ⟨sh', f', fl', ?_, ?_, p3⟩
    · rw [fx_s, B_X6_putNumber_4]
      rw [show (10 : Nat) ^ 0 = 1 from rfl] at h1 ⊢
      rw [if_neg (show ¬ nI 1 ≤ 0 by decide), if_neg (nI_nlt h1 (by omega)), nz_nI (by decide) (by decide), ed, p1, Option.bind_some, nm_e1, fx_s, B_X6_putNumber_4]
      rw [if_pos (show nI 1 / 10 ≤ 0 by decide)]
    · rw [fx_s, B_X11_writeNumber_20]
      rw [show (10 : Nat) ^ 0 = 1 from rfl]
      rw [if_neg (show ¬ nI 1 ≤ 0 by decide), nz_nI (by decide) (by decide), ed, p2, Option.bind_some, nm_e1, fx_s, B_X11_writeNumber_20]
      rw [if_pos (show nI 1 / 10 ≤ 0 by decide)]
  | e + 1, f1, f2, n, sh, f, fl, he, h1, hs, hn, g1, g2 => by
    obtain ⟨f1, rfl⟩ : ∃ q, f1 = q + 1 := ⟨f1 - 1, by omega⟩
    obtain ⟨f2, rfl⟩ : ∃ q, f2 = q + 1 := ⟨f2 - 1, by omega⟩
    have hp : (10 : Nat) ^ (e + 1) = 10 ^ e * 10 := Nat.pow_succ 10 e
    have hp0 : 0 < (10 : Nat) ^ e := Nat.pow_pos (by decide)
    obtain ⟨sh1, f1', fl1, p1, p2, p3⟩ := hs.put (by omega) (c := 48 + m / 10 ^ (e + 1) % 10) (by omega)
    have ed := digit_at (m := m) (u := 10 ^ (e + 1)) (by omega) (by omega) (by omega)
    have eu : nI (10 ^ (e + 1)) / 10 = nI (10 ^ e) := by
      have := pk_div (a := 10 ^ (e + 1)) (d := 10) (by omega) (by decide) (by decide)
      rw [show 10 ^ (e + 1) / 10 = 10 ^ e by omega] at this
      exact this
    obtain ⟨sh', f', fl', q1, q2, q3⟩ := SN.digits hm e f1 f2 (n + 1) sh1 f1' fl1 (by omega) (by omega) p3 (by omega) (by omega) (by omega)
    refine ⟨sh', f', fl', ?_, ?_, by rw [show n + (e + 1 + 1) = n + 1 + (e + 1) by omega]; exact q3⟩
    · rw [fx_s, B_X6_putNumber_4]
      rw [if_neg (nI_nle (by omega) (by omega)), if_neg (nI_nlt h1 (by omega)), nz_nI (by omega) (by omega), ed, p1, Option.bind_some, nm_e1, eu]
      exact q1
    · rw [fx_s, B_X11_writeNumber_20]
      rw [if_neg (nI_nle (by omega) (by omega)), nz_nI (by omega) (by omega), ed, p2, Option.bind_some, nm_e1, eu]
      exact q2
theorem pn_skip {u j : Nat} (h : m < u) (hu : u < 2 ^ 31) :
    fx (fun _ _ => none) (B_X6_putNumber_4 (nI m)) (j + 1) (nI u) sh = fx (fun _ _ => none) (B_X6_putNumber_4 (nI m)) j (nI (u / 10)) sh := by
  have e : nI u / 10 = nI (u / 10) := pk_div (d := 10) hu (by decide) (by decide)
  rw [fx_s, B_X6_putNumber_4]
  rw [if_neg (nI_nle (by omega) hu), if_pos (nI_lt h hu), nm_e1, e]
theorem wn_up {u j : Nat} (hm : m < 2 ^ 31) (h0 : 0 < u) (hu : u < 2 ^ 31) (h : 9 < m / u) :
    fx (fun _ _ _ => none) (B_X11_writeNumber_2 (nI m)) (j + 1) (nI u) f fl = fx (fun _ _ _ => none) (B_X11_writeNumber_2 (nI m)) j (nI (u * 10)) f fl := by
  have hd : m / u < 2 ^ 31 := Nat.lt_of_le_of_lt (Nat.div_le_self _ _) hm
  rw [fx_s, B_X11_writeNumber_2]
  rw [nz_nI h0 hu, pk_div hm h0 hu, if_neg (show ¬ nI (m / u) ≤ 9 from nI_ge (a := 9) h hd), nm_e1, show nI u * 10 = nI (u * 10) from e_mul u 10]
theorem wn_end {u j : Nat} (hm : m < 2 ^ 31) (h0 : 0 < u) (hu : u < 2 ^ 31) (h : m / u ≤ 9) :
    fx (fun _ _ _ => none) (B_X11_writeNumber_2 (nI m)) (j + 1) (nI u) f fl = fx (fun _ _ _ => none) (B_X11_writeNumber_20 (nI m)) FUEL (nI u) f fl := by
  rw [fx_s, B_X11_writeNumber_2]
  rw [nz_nI h0 hu, pk_div hm h0 hu, if_pos (show nI (m / u) ≤ 9 from nI_le (b := 9) h (by decide))]
theorem SN.num (h : SN n sh f fl) (h1 : 1 ≤ m) (h2 : m ≤ 9999) (hn : n + 4 ≤ 2000) :
    ∃ n' sh' f' fl', n < n' ∧ n' ≤ n + 4 ∧ F_X6_putNumber (nI m) sh = some sh' ∧ F_X11_writeNumber (nI m) f fl = some (f', fl') ∧ SN n' sh' f' fl' := by
  have hf : 10 < FUEL := by unfold FUEL; omega
  by_cases c1 : m < 10
  · obtain ⟨sh', f', fl', q1, q2, q3⟩ := SN.digits h2 0 999997 FUEL n sh f fl (by omega) (by omega) h (by omega) (by omega) (by omega)
    refine ⟨_, sh', f', fl', by omega, by omega, ?_, ?_, q3⟩
    · refine (pn_skip (j := 999999) (u := 1000) (by omega) (by decide)).trans ?_
      refine (pn_skip (j := 999998) (u := 100) (by omega) (by decide)).trans ?_
      refine (pn_skip (j := 999997) (u := 10) (by omega) (by decide)).trans ?_
      exact q1
    · refine (wn_end (j := 999999) (u := 1) (by omega) (by decide) (by decide) (by omega)).trans ?_
      exact q2
  by_cases c2 : m < 100
  · obtain ⟨sh', f', fl', q1, q2, q3⟩ := SN.digits h2 1 999998 FUEL n sh f fl (by omega) (by omega) h (by omega) (by omega) (by omega)
    refine ⟨_, sh', f', fl', by omega, by omega, ?_, ?_, q3⟩
    · refine (pn_skip (j := 999999) (u := 1000) (by omega) (by decide)).trans ?_
      refine (pn_skip (j := 999998) (u := 100) (by omega) (by decide)).trans ?_
      exact q1
    · refine (wn_up (j := 999999) (u := 1) (by omega) (by decide) (by decide) (by omega)).trans ?_
      refine (wn_end (j := 999998) (u := 10) (by omega) (by decide) (by decide) (by omega)).trans ?_
      exact q2
  by_cases c3 : m < 1000
  · obtain ⟨sh', f', fl', q1, q2, q3⟩ := SN.digits h2 2 999999 FUEL n sh f fl (by omega) (by omega) h (by omega) (by omega) (by omega)
    refine ⟨_, sh', f', fl', by omega, by omega, ?_, ?_, q3⟩
    · refine (pn_skip (j := 999999) (u := 1000) (by omega) (by decide)).trans ?_
      exact q1
    · refine (wn_up (j := 999999) (u := 1) (by omega) (by decide) (by decide) (by omega)).trans ?_
      refine (wn_up (j := 999998) (u := 10) (by omega) (by decide) (by decide) (by omega)).trans ?_
      refine (wn_end (j := 999997) (u := 100) (by omega) (by decide) (by decide) (by omega)).trans ?_
      exact q2
  · obtain ⟨sh', f', fl', q1, q2, q3⟩ := SN.digits h2 3 1000000 FUEL n sh f fl (by omega) (by omega) h (by omega) (by omega) (by omega)
    refine ⟨_, sh', f', fl', by omega, by omega, ?_, ?_, q3⟩
    · exact q1
    · refine (wn_up (j := 999999) (u := 1) (by omega) (by decide) (by decide) (by omega)).trans ?_
      refine (wn_up (j := 999998) (u := 10) (by omega) (by decide) (by decide) (by omega)).trans ?_
      refine (wn_up (j := 999997) (u := 100) (by omega) (by decide) (by decide) (by omega)).trans ?_
      refine (wn_end (j := 999996) (u := 1000) (by omega) (by decide) (by decide) (by omega)).trans ?_
      exact q2
end
/-! ===== PURE: format: the loop ===== -/
section
variable {w ns k : Nat} {R D : Nat → Nat} {P : PlanT} {row : Nat → Int32} {S : SieveT} {L : Nat}
theorem fmt_loop (hw : WF w ns R k D) (hR : RX w ns R k D row) (hL : L ≤ 4801) (hv : SV w k D L S) {o t : Nat → Int32} (hS : RS w k D L o t) {j T : Nat} (hj : j < 12) (hT : T ≤ L) (hlast : F_X11_lastOf (nI j + 1) row = some (nI T)) (th : Int32) :
    ∀ m f1 f2 i g n (sh : SheetT) f fl, T + 1 - i = m → m < f1 → m < f2 → 2 ≤ i → i ≤ 5000 → n + 5 * m ≤ 2000 → SN n sh f fl →
      ∃ n' sh' f' fl', fx (fun _ _ _ _ _ => none) (B_X10_format_39 (nI j) P) f1 g (nI T) (nI i) sh S = some (.inr (nI n'), (sh', S)) ∧
        fx (fun _ _ _ _ _ _ _ _ => none) (B_X11_format_33 (nI j) row) f2 g (nI i) (nI L) f fl o th t = some (nI n', (nI L, f', fl', o, th, t)) ∧ SN n' sh' f' fl' ∧ n' ≤ 2000
  | 0, f1, f2, i, g, n, sh, f, fl, hm, h1, h2, hi, hi2, hn, hs => by
    obtain ⟨f1, rfl⟩ : ∃ q, f1 = q + 1 := ⟨f1 - 1, by omega⟩
    obtain ⟨f2, rfl⟩ : ∃ q, f2 = q + 1 := ⟨f2 - 1, by omega⟩
    refine ⟨n, sh, f, fl, ?_, ?_, hs, by omega⟩
    · rw [fx_s, B_X10_format_39]
      unfold F_X6_length
      rw [if_pos (nI_lt (by omega) (by omega)), hs.1]
      rfl
    · rw [fx_s, B_X11_format_33]
      rw [hlast, Option.bind_some, if_pos (nI_lt (by omega) (by omega)), hs.2.1]
  | m + 1, f1, f2, i, g, n, sh, f, fl, hm, h1, h2, hi, hi2, hn, hs => by
    obtain ⟨f1, rfl⟩ : ∃ q, f1 = q + 1 := ⟨f1 - 1, by omega⟩
    obtain ⟨f2, rfl⟩ : ∃ q, f2 = q + 1 := ⟨f2 - 1, by omega⟩
    have c : ¬ nI T < nI i := nI_nlt (by omega) (by omega)
    have hown := L_ownerOf (w := w) (k := k) (D := D) hL hv (n := i) (by omega)
    rw [if_pos ⟨hi, by omega⟩] at hown
    have him := M_isMark hw hR hL hS (n := i) (by omega)
    have hmk : isM w k D L i = mk w k D i := by
      unfold isM
      rw [decide_eq_true ⟨hi, by omega⟩, Bool.true_and]
    rw [hmk] at him
    have hon := M_isOnSpoke hw hR (n := i) (by omega) (by omega)
    have next : nI i + 1 = nI (i + 1) := e_add i 1
    have ih := fmt_loop hw hR hL hv hS hj hT hlast th m f1 f2 (i + 1)
    by_cases q : mk w k D i = true
    · have z : oz w k D i = (0 : Int32) := Eq.mpr (oz_0 hw) q
      rw [q] at him
      by_cases z0 : n = 0
      · subst z0
        obtain ⟨n1, sh1, f1', fl1, l1, l2, p1, p2, p3⟩ := hs.num (m := i) (by omega) (by omega) (by omega)
        obtain ⟨n2, sh2, f2', fl2, q1, q2, q3⟩ := ih 1 n1 sh1 f1' fl1 (by omega) (by omega) (by omega) (by omega) (by omega) (by omega) p3
        refine ⟨n2, sh2, f2', fl2, ?_, ?_, q3⟩
        · rw [fx_s, B_X10_format_39]
          unfold F_X6_length
          rw [if_neg c, hown, Option.bind_some, if_pos z, Option.bind_some, hs.1, if_pos (show nI 0 ≤ 0 by decide), p1, Option.bind_some, nm_e1, next]
          exact q1
        · rw [fx_s, B_X11_format_33]
          rw [hlast, Option.bind_some, if_neg c, him, Option.bind_some, if_pos rfl, if_pos (show fl ≤ 0 by rw [hs.2.1]; decide), p2, Option.bind_some, nm_e1, next]
          exact q2
      · have gen : ∀ ch : Nat, ch < 128 → ∃ sh0 f0 fl0 n2 sh2 f2' fl2 w1 w2 w3, F_X6_put (nI ch) sh = some sh0 ∧ F_X11_write (nI ch) f fl = some (f0, fl0) ∧ F_X6_putNumber (nI i) sh0 = some w1 ∧ F_X11_writeNumber (nI i) f0 fl0 = some (w2, w3) ∧
            fx (fun _ _ _ _ _ => none) (B_X10_format_39 (nI j) P) f1 1 (nI T) (nI (i + 1)) w1 S = some (.inr (nI n2), (sh2, S)) ∧
            fx (fun _ _ _ _ _ _ _ _ => none) (B_X11_format_33 (nI j) row) f2 1 (nI (i + 1)) (nI L) w2 w3 o th t = some (nI n2, (nI L, f2', fl2, o, th, t)) ∧ SN n2 sh2 f2' fl2 ∧ n2 ≤ 2000 := by
          intro ch hch
          obtain ⟨sh0, f0, fl0, b1, b2, b3⟩ := hs.put (by omega) hch
          obtain ⟨n1, sh1, f1', fl1, l1, l2, p1, p2, p3⟩ := b3.num (m := i) (by omega) (by omega) (by omega)
          obtain ⟨n2, sh2, f2', fl2, q1, q2, q3⟩ := ih 1 n1 sh1 f1' fl1 (by omega) (by omega) (by omega) (by omega) (by omega) (by omega) p3
          exact ⟨sh0, f0, fl0, n2, sh2, f2', fl2, sh1, f1', fl1, b1, b2, p1, p2, q1, q2, q3⟩
        have e1 : ¬ sh.2 ≤ 0 := by rw [hs.1]; exact nI_nle (by omega) (by omega)
        have e2 : ¬ fl ≤ 0 := by rw [hs.2.1]; exact nI_nle (by omega) (by omega)
        by_cases gz : g = 0
        · obtain ⟨sh0, f0, fl0, n2, sh2, f2', fl2, w1, w2, w3, b1, b2, b3, b4, q1, q2, q3⟩ := gen 32 (by decide)
          have b1 : F_X6_put 32 sh = some sh0 := b1
          have b2 : F_X11_write 32 f fl = some (f0, fl0) := b2
          refine ⟨n2, sh2, f2', fl2, ?_, ?_, q3⟩
          · rw [fx_s, B_X10_format_39]
            unfold F_X6_length
            rw [if_neg c, hown, Option.bind_some, if_pos z, Option.bind_some, if_neg e1, if_pos gz, b1, Option.bind_some, b3, Option.bind_some, nm_e1, next]
            exact q1
          · rw [fx_s, B_X11_format_33]
            rw [hlast, Option.bind_some, if_neg c, him, Option.bind_some, if_pos rfl, if_neg e2, if_pos gz, b2, Option.bind_some]
            show (F_X11_writeNumber (nI i) f0 fl0).bind _ = _
            rw [b4, Option.bind_some, nm_e1, next]
            exact q2
        · obtain ⟨sh0, f0, fl0, n2, sh2, f2', fl2, w1, w2, w3, b1, b2, b3, b4, q1, q2, q3⟩ := gen 46 (by decide)
          have b1 : F_X6_put 46 sh = some sh0 := b1
          have b2 : F_X11_write 46 f fl = some (f0, fl0) := b2
          refine ⟨n2, sh2, f2', fl2, ?_, ?_, q3⟩
          · rw [fx_s, B_X10_format_39]
            unfold F_X6_length
            rw [if_neg c, hown, Option.bind_some, if_pos z, Option.bind_some, if_neg e1, if_neg gz, b1, Option.bind_some, b3, Option.bind_some, nm_e1, next]
            exact q1
          · rw [fx_s, B_X11_format_33]
            rw [hlast, Option.bind_some, if_neg c, him, Option.bind_some, if_pos rfl, if_neg e2, if_neg gz, b2, Option.bind_some]
            show (F_X11_writeNumber (nI i) f0 fl0).bind _ = _
            rw [b4, Option.bind_some, nm_e1, next]
            exact q2
    · have z : ¬ oz w k D i = (0 : Int32) := fun e => q (Eq.mp (oz_0 hw) e)
      have q' := Bool.eq_false_iff.mpr q
      rw [q'] at him
      by_cases d : off w i = true
      · have z2 : oz w k D i = (-1 : Int32) := Eq.mpr (oz_m1 hw) d
        rw [d] at hon
        obtain ⟨n2, sh2, f2', fl2, q1, q2, q3⟩ := ih g n sh f fl (by omega) (by omega) (by omega) (by omega) (by omega) (by omega) hs
        refine ⟨n2, sh2, f2', fl2, ?_, ?_, q3⟩
        · rw [fx_s, B_X10_format_39]
          rw [if_neg c, hown, Option.bind_some, if_neg z, if_pos z2, nm_e1, next]
          exact q1
        · rw [fx_s, B_X11_format_33]
          rw [hlast, Option.bind_some, if_neg c, him, Option.bind_some, if_neg (by decide), hon, Option.bind_some, if_neg (by decide), nm_e1, next]
          exact q2
      · have z2 : ¬ oz w k D i = (-1 : Int32) := fun e => d (Eq.mp (oz_m1 hw) e)
        have d' := Bool.eq_false_iff.mpr d
        rw [d'] at hon
        obtain ⟨n2, sh2, f2', fl2, q1, q2, q3⟩ := ih 0 n sh f fl (by omega) (by omega) (by omega) (by omega) (by omega) (by omega) hs
        refine ⟨n2, sh2, f2', fl2, ?_, ?_, q3⟩
        · rw [fx_s, B_X10_format_39]
          rw [if_neg c, hown, Option.bind_some, if_neg z, if_neg z2, nm_e1, next]
          exact q1
        · rw [fx_s, B_X11_format_33]
          rw [hlast, Option.bind_some, if_neg c, him, Option.bind_some, if_neg (by decide), hon, Option.bind_some, if_pos (by decide), nm_e1, next]
          exact q2
theorem O_format {sh : SheetT} {f : Nat → Int32} {fl : Int32} (h : CX w ns R k D P row S) (hs : SH sh f fl) (x e0 : Int32) (o t : Nat → Int32) (th : Int32) :
    ∃ r sh' S' b e' f' fl' o' th' t', F_X10_format x P sh S = some (r, (sh', S')) ∧ SOK w k D (1 + sm R ns) P S' ∧ F_X11_format x e0 f fl o row th t = some (b, (e', f', fl', o', th', t')) ∧ ag 2 r b th' ∧ SH sh' f' fl' := by
  obtain ⟨hw, hP, hR, hS⟩ := h
  obtain ⟨o', t', hm, hRS⟩ := M_strike hw hR e0 o t
  obtain ⟨S', hc, hv, hk⟩ := L_current hw hP hS
  have hL := hw.last
  have h12 := hw.2.1
  unfold F_X10_format F_X11_format
  rcases N_stretch hw hP hR x with ⟨j, hj, rfl, n1, n2⟩ | ⟨n1, n2⟩
  · have hu : sm R (j + 1) = sm R j + R j := rfl
    have hr := hw.2.2.1 j hj
    have hu2 := sm_mono (R := R) (by omega : j + 1 ≤ ns)
    have hlast : F_X11_lastOf (nI j + 1) row = some (nI (1 + sm R (j + 1))) := by
      rw [show nI j + 1 = nI (j + 1) from e_add j 1]
      exact M_lastOf hw hR (by omega)
    obtain ⟨n', sh', f', fl', q1, q2, q3, q4⟩ := fmt_loop (P := P) hw hR hL hv hRS (j := j) (T := 1 + sm R (j + 1)) (by omega) (by omega) hlast 0 (1 + sm R (j + 1) + 1 - (2 + sm R j)) FUEL FUEL (2 + sm R j) 0 0 (sh.1, nI 0) f (nI 0) rfl (by unfold FUEL; omega) (by unfold FUEL; omega) (by omega) (by omega) (by omega) ⟨rfl, rfl, fun i hi => absurd hi (by omega)⟩
    have e3 : nI (1 + sm R j) + 1 = nI (2 + sm R j) := by
      rw [show (1 : Int32) = nI 1 from rfl, e_add, show 1 + sm R j + 1 = 2 + sm R j by omega]
    refine ⟨.inr (nI n'), sh', S', nI n', nI (1 + sm R ns), f', fl', o', 0, t', ?_, hk, ?_, ⟨rfl, rfl⟩, ⟨n', q4, q3.1, q3.2.1, q3.2.2⟩⟩
    · rw [n1, Option.bind_some]
      show (F_X10_current P S).bind _ = _
      rw [hc, Option.bind_some]
      show (F_X3_lastNumberOf (nI j) P).bind _ = _
      rw [L_lastOf hw hP hj, Option.bind_some, L_first hw hP hj, Option.bind_some]
      exact q1
    · rw [n2, Option.bind_some, M_lacks, Option.bind_some, if_neg (by decide), hm, Option.bind_some, M_lastOf hw hR (by omega), Option.bind_some, nm_e1, e3]
      exact q2
  · rw [n1, n2, Option.bind_some, Option.bind_some, M_lacks, Option.bind_some]
    exact ⟨.inl 2, sh, S, 0, e0, f, fl, o, 1, t, rfl, hS, rfl, ⟨rfl, rfl⟩, hs⟩
end
