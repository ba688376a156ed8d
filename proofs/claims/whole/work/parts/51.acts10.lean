/-! ===== PURE: actions: tidy, whole ===== -/
theorem fx7E {α β γ δ ε ζ η R : Type} {bot : α → β → γ → δ → ε → ζ → η → R} {B : (α → β → γ → δ → ε → ζ → η → R) → α → β → γ → δ → ε → ζ → η → R} {Q : α → β → γ → δ → ε → ζ → η → Nat → Prop} {Post : R → Prop}
    (H : ∀ K x y z u v t s m, (∀ x' y' z' u' v' t' s' m', m' < m → Q x' y' z' u' v' t' s' m' → Post (K x' y' z' u' v' t' s')) → Q x y z u v t s m → Post (B K x y z u v t s)) :
    ∀ n x y z u v t s m, Q x y z u v t s m → m < n → Post (fx bot B n x y z u v t s)
  | 0, _, _, _, _, _, _, _, _, _, h => absurd h (Nat.not_lt_zero _)
  | n + 1, x, y, z, u, v, t, s, m, hq, h => H _ x y z u v t s m (fun x' y' z' u' v' t' s' m' h1 h2 => fx7E H n x' y' z' u' v' t' s' m' h2 (by omega)) hq
section
variable {w ns k : Nat} {R D : Nat → Nat} {P : PlanT} {row : Nat → Int32} {S : SieveT} {L : Nat}
theorem M_tidyLoop (hw : WF w ns R k D) (hR : RX w ns R k D row) (ac : Nat → Int32) (e0 : Int32) (o0 t0 : Nat → Int32) :
    ∃ kx σ row' e' o' t', F_X11_doTidy ac e0 o0 row t0 = (F_X11_ends (nI (k - kx)) ac).bind (fun w_2 => some (w_2.1, (w_2.2, e', o', row', t'))) ∧ LO w k D (1 + sm R ns) kx σ ∧ (∀ p, p < kx → idl w k D (1 + sm R ns) (σ p) = false) ∧ RX w ns R kx (fun j => D (σ j)) row' := by
  have h30 := hw.2.2.2.1
  have hL := hw.last
  unfold F_X11_doTidy
  refine fx7E (Post := fun r => ∃ kx σ row' e' o' t', r = (F_X11_ends (nI (k - kx)) ac).bind (fun w_2 => some (w_2.1, (w_2.2, e', o', row', t'))) ∧ LO w k D (1 + sm R ns) kx σ ∧ (∀ p, p < kx → idl w k D (1 + sm R ns) (σ p) = false) ∧ RX w ns R kx (fun j => D (σ j)) row')
    (Q := fun c x c1 e o rr t m => ac = c1 ∧ ∃ kx σ q, c = nI (k - kx) ∧ x = nI q ∧ q ≤ kx ∧ m = kx - q ∧ LO w k D (1 + sm R ns) kx σ ∧ (∀ p, p < q → idl w k D (1 + sm R ns) (σ p) = false) ∧ RX w ns R kx (fun j => D (σ j)) rr)
    ?_ FUEL _ _ _ _ _ _ _ k ⟨rfl, k, fun j => j, 0, by rw [Nat.sub_self]; rfl, rfl, Nat.zero_le _, rfl, LO.id trivial, fun p h => absurd h (by omega), hR⟩ (by unfold FUEL; omega)
  rintro K _ _ _ e o rr t _ ih ⟨rfl, kx, σ, q, rfl, rfl, hq, rfl, hLO, hni, hRx⟩
  have hkx := hLO.1
  have hwx := hLO.wf hw
  unfold B_X11_doTidy_4
  rw [hRx.2.2.2.1]
  by_cases z : kx ≤ q
  · rw [if_pos (nI_le z (by omega))]
    exact ⟨kx, σ, rr, e, o, t, rfl, hLO, fun p hp => hni p (by omega), hRx⟩
  · obtain ⟨o', t', hm, hRS⟩ := M_strike hwx hRx e o t
    have ecn : cn (own w kx (fun j => D (σ j)) q) 2 (1 + sm R ns - 1) = cn (own w k D (σ q)) 2 (1 + sm R ns - 1) :=
      cn_cong (fun n n1 n2 => hLO.owE (by omega) n1 (by omega))
    have hl := cn_le (own w k D (σ q)) (1 + sm R ns - 1) 2
    have ei : idl w k D (1 + sm R ns) (σ q) = (fi (own w k D (σ q)) 2 (1 + sm R ns - 1)).isNone := rfl
    rw [if_neg (nI_ge (by omega) (by omega)), hm, Option.bind_some, M_ownedBy hwx hL (by omega) hRS (by omega), ecn, Option.bind_some]
    by_cases y : cn (own w k D (σ q)) 2 (1 + sm R ns - 1) = 0
    · obtain ⟨row', r1, r2⟩ := M_removeStriker hwx hRx (i := q) (by omega)
      have yi : idl w k D (1 + sm R ns) (σ q) = true := by rw [ei]; rw [cn_0] at y; exact y
      rw [y, if_pos (show nI 0 = 0 from rfl), r1, Option.bind_some, nm_e1, show nI (k - kx) + 1 = nI (k - (kx - 1)) by rw [show (1 : Int32) = nI 1 from rfl, e_add, show k - kx + 1 = k - (kx - 1) by omega]]
      refine ih _ _ _ _ _ _ _ (kx - 1 - q) (by omega) ⟨rfl, kx - 1, fun j => σ (rm q j), q, rfl, rfl, by omega, rfl, hLO.less (by omega) yi, fun p hp => ?_, r2⟩
      show idl w k D (1 + sm R ns) (σ (rm q p)) = false
      unfold rm
      rw [if_pos hp]
      exact hni p hp
    · have yi : idl w k D (1 + sm R ns) (σ q) = false := by
        rw [ei, Bool.eq_false_iff]
        intro u
        exact y (by rw [cn_0]; exact u)
      rw [if_neg (show ¬ nI (cn (own w k D (σ q)) 2 (1 + sm R ns - 1)) = 0 from nI_ne0 (by omega) (by omega)), nm_e1, show nI q + 1 = nI (q + 1) from e_add q 1]
      refine ih _ _ _ _ _ _ _ (kx - (q + 1)) (by omega) ⟨rfl, kx, σ, q + 1, rfl, rfl, by omega, rfl, hLO, fun p hp => ?_, hRx⟩
      by_cases c : p = q
      · rw [c]; exact yi
      · exact hni p (by omega)
theorem A_tidy (h : CX w ns R k D P row S) {v : Nat} (hv : P.2.2.2.2.2.2 = nI v) (hv2 : v + 100 < 2 ^ 31) (ac : Nat → Int32) (e0 : Int32) (o t : Nat → Int32) :
    ∃ r P' S' ac' e' o' row' t', F_X10_takeIdleAway P S = some (r, (P', S')) ∧ F_X11_doTidy ac e0 o row t = some (r, (ac', e', o', row', t')) ∧ F_X10_counted r ac = some (r, ac') ∧ AR P S v row' P' S' := by
  obtain ⟨hw, hP, hR, hS⟩ := h
  have h30 := hw.2.2.2.1
  obtain ⟨S', c1, c2, c3⟩ := L_current hw hP hS
  obtain ⟨kx, σ, T, l1, l2, l3, l4, l5, l6⟩ := L_tidyLoop hw hP hv c2
  obtain ⟨ky, τ, row', e', o', t', m1', m2', m3, m4⟩ := M_tidyLoop hw hR ac e0 o t
  have u1 := l2.uniq m2' l3 m3
  have u2 := m2'.uniq l2 m3 l3
  have ek : kx = ky := by
    rcases Nat.lt_trichotomy kx ky with c | c | c
    · have := (u2 kx c).1; omega
    · exact c
    · have := (u1 ky c).1; omega
  subst ek
  obtain ⟨ac', he⟩ := ends_ex (nI (k - kx)) ac
  have hkx := l2.1
  have hR' : RX w ns R kx (fun j => D (σ j)) row' := ⟨m4.1, m4.2.1, m4.2.2.1, m4.2.2.2.1, fun i hi => by
    rw [m4.2.2.2.2 i hi]
    show nI (D (τ i)) = nI (D (σ i))
    rw [(u1 i hi).2]⟩
  refine ⟨nI (k - kx), T, S', ac', e', o', row', t', ?_, ?_, he, w, ns, R, kx, fun j => D (σ j), v + (k - kx), ⟨l2.wf hw, l4, hR', ?_⟩, l5, by omega, by omega⟩
  · unfold F_X10_takeIdleAway F_X3_strikerCount
    rw [c1, hP.2.2.2.2.1, Option.bind_some, Option.bind_some, nm_e1]
    exact l1
  · rw [m1', he]
    rfl
  · by_cases z : kx = k
    · have ev : T.2.2.2.2.2.2 = P.2.2.2.2.2.2 := by rw [l5, hv, z, Nat.sub_self]; rfl
      refine ⟨?_, fun q => ?_⟩
      · rw [ev]
        exact c3.1
      · rw [ev] at q
        have hs := c3.2 q
        have e := l6 z
        subst z
        have eD : ∀ n, fh kx (fun j => D (σ j)) n = fh kx D n := fun n => fi_cong (fun i _ hi => by
          show hit n (D (σ i)) = hit n (D i)
          rw [e i (by omega)])
        have eO : ∀ n, oD (fun j => D (σ j)) (fh kx D n) = oD D (fh kx D n) := fun n => by
          cases hf : fh kx D n with
          | none => rfl
          | some i =>
            obtain ⟨-, hi, -⟩ := fi_some hf
            show nI (D (σ i)) = nI (D i)
            rw [e i (by omega)]
        have em : mk w kx (fun j => D (σ j)) = mk w kx D := by
          funext n
          unfold mk
          rw [eD]
        refine ⟨hs.1, fun n n1 n2 => ?_, ?_, hs.2.2.2⟩
        · rw [em]
          refine ⟨?_, (hs.2.1 n n1 n2).2⟩
          rw [(hs.2.1 n n1 n2).1]
          unfold oz
          rw [eD, eO]
        · rw [em]; exact hs.2.2.1
    · exact c3.bump hv l5 (by omega) (by omega)
end
