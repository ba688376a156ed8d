/-! ===== PURE: actions: tidy ===== -/
section
variable {w ns k : Nat} {R D : Nat → Nat} {P : PlanT} {row : Nat → Int32} {S : SieveT} {L : Nat}
/-- some left out: what is left stands in order; who is left out is idle -/
def LO (w k : Nat) (D : Nat → Nat) (L : Nat) (kx : Nat) (σ : Nat → Nat) : Prop :=
  kx ≤ k ∧ (∀ a, a < kx → σ a < k) ∧ (∀ a b, a < b → b < kx → σ a < σ b) ∧ (∀ j, j < k → (∀ q, q < kx → σ q ≠ j) → idl w k D L j = true)
theorem LO.inj {kx : Nat} {σ : Nat → Nat} (h : LO w k D L kx σ) {a b : Nat} (ha : a < kx) (hb : b < kx) (e : σ a = σ b) : a = b := by
  rcases Nat.lt_trichotomy a b with c | c | c
  · have := h.2.2.1 a b c hb; omega
  · exact c
  · have := h.2.2.1 b a c ha; omega
theorem LO.owE {kx : Nat} {σ : Nat → Nat} (h : LO w k D L kx σ) {q n : Nat} (hq : q < kx) (h2 : 2 ≤ n) (hn : n ≤ L) :
    own w kx (fun j => D (σ j)) q n = own w k D (σ q) n := by
  obtain ⟨h1, hm, hs, hi⟩ := id h
  unfold own
  cases ho : off w n with
  | true => rfl
  | false =>
    show (!false && decide (fh kx (fun j => D (σ j)) n = some q)) = (!false && decide (fh k D n = some (σ q)))
    congr 1
    refine decide_eq_decide.mpr ⟨fun e => ?_, fun e => ?_⟩
    · obtain ⟨-, -, a3, a4⟩ := fi_some e
      have hex := (fi_isSome (p := fun j => hit n (D j)) (a := 0) (k := k)).mpr ⟨σ q, Nat.zero_le _, by have := hm q hq; omega, a3⟩
      cases hf : fi (fun j => hit n (D j)) 0 k with
      | none => rw [hf] at hex; cases hex
      | some f =>
        obtain ⟨-, f2, f3, f4⟩ := fi_some hf
        show fi (fun j => hit n (D j)) 0 k = some (σ q)
        rw [hf]
        have hown : own w k D f n = true := by
          unfold own
          rw [ho, show fh k D n = some f from hf]
          simp
        by_cases c : ∃ p, p < kx ∧ σ p = f
        · obtain ⟨p, hp, rfl⟩ := c
          rcases Nat.lt_trichotomy p q with d | d | d
          · have := a4 p (Nat.zero_le _) d
            have this : hit n (D (σ p)) = false := this
            rw [f3] at this
            cases this
          · rw [d]
          · have := f4 (σ q) (Nat.zero_le _) (hs q p d hp)
            have a3 : hit n (D (σ q)) = true := a3
            rw [a3] at this
            cases this
        · exfalso
          have hid := hi f (by omega) (fun p hp e => c ⟨p, hp, e⟩)
          unfold idl at hid
          have := fi_none.mp (by simpa using hid) n h2 (by omega)
          rw [hown] at this
          cases this
    · obtain ⟨-, -, a3, a4⟩ := fi_some e
      exact fi_eq (Nat.zero_le _) (by omega) a3 (fun p _ hp => a4 (σ p) (Nat.zero_le _) (hs p q hp hq))
/-- what is left when no idle one is left is one thing only -/
theorem LO.uniq {a b : Nat} {σ τ : Nat → Nat} (h : LO w k D L a σ) (g : LO w k D L b τ) (h1 : ∀ p, p < a → idl w k D L (σ p) = false) (g1 : ∀ p, p < b → idl w k D L (τ p) = false) : ∀ q, q < a → q < b ∧ σ q = τ q := by
  intro q
  induction q using Nat.strongRecOn with
  | ind q ih =>
    intro hq
    have hit : ∃ p, p < b ∧ τ p = σ q := by
      refine Classical.byContradiction fun c => ?_
      have := g.2.2.2 (σ q) (h.2.1 q hq) (fun p hp e => c ⟨p, hp, e⟩)
      rw [h1 q hq] at this
      cases this
    obtain ⟨p, hp, e⟩ := hit
    rcases Nat.lt_trichotomy p q with c | c | c
    · have := (ih p c (by omega)).2
      have := h.2.2.1 p q c hq
      omega
    · rw [c] at hp e
      exact ⟨hp, e.symm⟩
    · have hit2 : ∃ r, r < a ∧ σ r = τ q := by
        refine Classical.byContradiction fun d => ?_
        have := h.2.2.2 (τ q) (g.2.1 q (by omega)) (fun r hr e => d ⟨r, hr, e⟩)
        rw [g1 q (by omega)] at this
        cases this
      obtain ⟨r, hr, er⟩ := hit2
      have l1 := g.2.2.1 q p c hp
      by_cases d : r < q
      · have := (ih r d hr).2
        have := g.2.2.1 r q d (by omega)
        omega
      · by_cases y : r = q
        · rw [y] at er; omega
        · have := h.2.2.1 q r (by omega) hr
          omega
theorem LO.less {kx : Nat} {σ : Nat → Nat} (h : LO w k D L kx σ) {q : Nat} (hq : q < kx) (hi : idl w k D L (σ q) = true) : LO w k D L (kx - 1) (fun j => σ (rm q j)) := by
  obtain ⟨h1, hm, hs, hj⟩ := id h
  refine ⟨by omega, fun a ha => hm _ (rm_lt hq ha), fun a b hab hb => hs _ _ ?_ (rm_lt hq hb), fun j hjk hn => ?_⟩
  · unfold rm
    split <;> split <;> omega
  · by_cases c : σ q = j
    · rw [← c]; exact hi
    · refine hj j hjk (fun p hp e => ?_)
      by_cases d : p = q
      · exact c (by rw [← d]; exact e)
      · by_cases y : p < q
        · exact hn p (by omega) (by show σ (rm q p) = j; unfold rm; rw [if_pos y]; exact e)
        · exact hn (p - 1) (by omega) (by show σ (rm q (p - 1)) = j; unfold rm; rw [if_neg (by omega), show p - 1 + 1 = p by omega]; exact e)
theorem LO.id (hk : True) : LO w k D L k (fun j => j) := ⟨Nat.le_refl _, fun _ h => h, fun _ _ h _ => h, fun j hj hn => absurd rfl (hn j hj)⟩
theorem LO.wf {kx : Nat} {σ : Nat → Nat} (hw : WF w ns R k D) (h : LO w k D L kx σ) : WF w ns R kx (fun j => D (σ j)) :=
  hw.perm h.1 h.2.1 (fun _ _ ha hb e => h.inj ha hb e)
theorem L_tidyLoop (hw : WF w ns R k D) (hP : PX w ns R k D P) {v : Nat} (hv : P.2.2.2.2.2.2 = nI v) (hsv : SV w k D (1 + sm R ns) S) :
    ∃ kx σ T, fx (fun _ _ _ _ => none) B_X10_takeIdleAway_17 FUEL 0 (nI k - 1) P S = some (nI (k - kx), (T, S)) ∧ LO w k D (1 + sm R ns) kx σ ∧ (∀ p, p < kx → idl w k D (1 + sm R ns) (σ p) = false) ∧ PX w ns R kx (fun j => D (σ j)) T ∧ T.2.2.2.2.2.2 = nI (v + (k - kx)) ∧ (kx = k → ∀ p, p < k → σ p = p) := by
  have h30 := hw.2.2.2.1
  have hL := hw.last
  refine fx4E (Post := fun r => ∃ kx σ T, r = some (nI (k - kx), (T, S)) ∧ LO w k D (1 + sm R ns) kx σ ∧ (∀ p, p < kx → idl w k D (1 + sm R ns) (σ p) = false) ∧ PX w ns R kx (fun j => D (σ j)) T ∧ T.2.2.2.2.2.2 = nI (v + (k - kx)) ∧ (kx = k → ∀ p, p < k → σ p = p))
    (Q := fun c y T s m => s = S ∧ ∃ x kx σ, c = nI (k - kx) ∧ y = nI x - 1 ∧ m = x ∧ x ≤ kx ∧ LO w k D (1 + sm R ns) kx σ ∧ (∀ p, p < x → σ p = p) ∧ (∀ p, x ≤ p → p < kx → idl w k D (1 + sm R ns) (σ p) = false) ∧ PX w ns R kx (fun j => D (σ j)) T ∧ T.2.2.2.2.2.2 = nI (v + (k - kx)) ∧ (kx = k → ∀ p, p < k → σ p = p))
    ?_ FUEL _ _ _ _ k ⟨rfl, k, k, fun j => j, by rw [Nat.sub_self]; rfl, rfl, rfl, Nat.le_refl _, LO.id trivial, fun p _ => rfl, fun p h1 h2 => absurd h1 (by omega), hP, by rw [Nat.sub_self]; exact hv, fun _ p _ => rfl⟩ (by unfold FUEL; omega)
  rintro K _ _ T _ x ih ⟨rfl, _, kx, σ, rfl, rfl, rfl, hx, hLO, hσ, hni, hT, hTv, hall⟩
  unfold B_X10_takeIdleAway_17
  match x, hx, hσ, hni, ih with
  | 0, hx, hσ, hni, ih =>
    rw [if_pos (by decide : (nI 0 - 1 : Int32) < 0)]
    exact ⟨kx, σ, T, rfl, hLO, fun p hp => hni p (Nat.zero_le _) hp, hT, hTv, hall⟩
  | x + 1, hx, hσ, hni, ih =>
    have hwx := hLO.wf hw
    have hxk : x < k := by have := hLO.1; omega
    have hkx := hLO.1
    have em : nI x + (-1) = nI x - 1 := by
      rw [Int32.sub_eq_add_neg]
    have hd : F_X3_dOf (nI x) T = some (nI (D x)) := by
      have := L_dOf hwx hT (i := x) (by omega)
      rw [hσ x (by omega)] at this
      exact this
    rw [nI_pred, if_neg (nI_pos (by omega)), hd, Option.bind_some, L_smallestOwned hw hL hsv hxk, Option.bind_some]
    have ei : idl w k D (1 + sm R ns) x = (fi (own w k D x) 2 (1 + sm R ns - 1)).isNone := rfl
    cases hf : fi (own w k D x) 2 (1 + sm R ns - 1) with
    | none =>
      rw [hf] at ei
      obtain ⟨T', r1, r2, r3⟩ := L_removeStriker hwx hT (i := x) (by omega)
      rw [if_pos (show oI none = -1 from rfl), r1, Option.bind_some, nm_e1, nm_e1, em, show nI (k - kx) + 1 = nI (k - (kx - 1)) by rw [show (1 : Int32) = nI 1 from rfl, e_add, show k - kx + 1 = k - (kx - 1) by omega]]
      refine ih _ _ _ _ x (by omega) ⟨rfl, x, kx - 1, fun j => σ (rm x j), rfl, rfl, rfl, by omega, hLO.less (by omega) (by rw [hσ x (by omega)]; exact ei), fun p hp => ?_, fun p h1 h2 => ?_, ?_, ?_, fun h => absurd h (by omega)⟩
      · show σ (rm x p) = p
        unfold rm
        rw [if_pos hp]
        exact hσ p (by omega)
      · show idl w k D (1 + sm R ns) (σ (rm x p)) = false
        unfold rm
        rw [if_neg (by omega)]
        exact hni (p + 1) (by omega) (by omega)
      · exact ⟨r2.1, r2.2.1, hT.2.2.1, r2.2.2.2.1, r2.2.2.2.2.1, r2.2.2.2.2.2⟩
      · show T'.2.2.2.2.2.2 = _
        rw [r3, hTv, show (1 : Int32) = nI 1 from rfl, e_add, show v + (k - kx) + 1 = v + (k - (kx - 1)) by omega]
    | some n =>
      obtain ⟨-, n2, -, -⟩ := fi_some hf
      rw [hf] at ei
      rw [if_neg (show ¬ oI (some n) = -1 from m1_ne (k := n) (by omega)), nm_e1, em]
      refine ih _ _ _ _ x (by omega) ⟨rfl, x, kx, σ, rfl, rfl, rfl, by omega, hLO, fun p hp => hσ p (by omega), fun p h1 h2 => ?_, hT, hTv, hall⟩
      by_cases c : p = x
      · rw [c, hσ x (by omega)]
        exact ei
      · exact hni p (by omega) h2
end
