/-! ===== NUMBERS: primes, marks, what is missing ===== -/
section
variable {w ns k : Nat} {R D : Nat → Nat} {L : Nat}
/-- n has a divisor that could strike it -/
theorem ip_false {n : Nat} (h2 : 2 ≤ n) (h : ip n = false) : ∃ t, 2 ≤ t ∧ t < 100 ∧ t * t ≤ n ∧ n % t = 0 := by
  unfold ip at h
  rw [decide_eq_true h2, Bool.true_and] at h
  cases hf : fi (fun t => decide (2 ≤ t ∧ t * t ≤ n ∧ n % t = 0)) 0 100 with
  | none => rw [hf] at h; cases h
  | some t =>
    obtain ⟨-, t2, t3, -⟩ := fi_some hf
    have t3 := of_decide_eq_true t3
    exact ⟨t, t3.1, by omega, t3.2.1, t3.2.2⟩
theorem ip_true {n : Nat} (h : ip n = true) : 2 ≤ n ∧ ∀ t, 2 ≤ t → t < 100 → t * t ≤ n → ¬ n % t = 0 := by
  unfold ip at h
  rw [Bool.and_eq_true] at h
  refine ⟨of_decide_eq_true h.1, fun t h2 h100 ht e => ?_⟩
  have hn : fi (fun t => decide (2 ≤ t ∧ t * t ≤ n ∧ n % t = 0)) 0 100 = none := Option.isNone_iff_eq_none.mp h.2
  exact absurd ⟨h2, ht, e⟩ (of_decide_eq_false (fi_none.mp hn t (Nat.zero_le _) (by omega)))
theorem mod_trans {n t d : Nat} (h1 : n % t = 0) (h2 : t % d = 0) : n % d = 0 := Nat.mod_eq_zero_of_dvd (Nat.dvd_trans (Nat.dvd_of_mod_eq_zero h2) (Nat.dvd_of_mod_eq_zero h1))
theorem fh_hit {n j : Nat} (hj : j < k) (h : hit n (D j) = true) : ¬ fh k D n = none := fun e => by
  have := fi_none.mp e j (Nat.zero_le _) (by omega)
  rw [this] at h
  cases h
theorem hit_iff {n d : Nat} : hit n d = true ↔ d * d ≤ n ∧ n % d = 0 := by
  unfold hit
  rw [Bool.and_eq_true, decide_eq_true_eq, decide_eq_true_eq]
theorem off_hit {n j : Nat} (hj : j < w) (h1 : 2 * wq j ≤ n) (h2 : n % wq j = 0) : off w n = true := by
  unfold off
  exact fi_isSome.mpr ⟨j, Nat.zero_le _, by omega, by rw [decide_eq_true h1, decide_eq_true h2]; rfl⟩
theorem mk_iff {n : Nat} : mk w k D n = true ↔ off w n = false ∧ fh k D n = none := by
  unfold mk
  rw [Bool.and_eq_true, Bool.not_eq_true', Option.isNone_iff_eq_none]
/-- each laid prime has a mark -/
theorem ip_mark (hw : WF w ns R k D) {n : Nat} (hn : n ≤ 4801) (h : ip n = true) : mk w k D n = true := by
  obtain ⟨h2, hp⟩ := ip_true h
  refine mk_iff.mpr ⟨?_, ?_⟩
  · rw [Bool.eq_false_iff]
    intro e
    obtain ⟨j, -, hj, hh⟩ := fi_isSome.mp e
    have h4 := hw.1
    have hq := wq_rng (k := j) (by omega)
    rw [Bool.and_eq_true, decide_eq_true_eq, decide_eq_true_eq] at hh
    by_cases c : wq j * wq j ≤ n
    · exact hp (wq j) hq.1 (by omega) c hh.2
    · obtain ⟨t, ht⟩ := Nat.dvd_of_mod_eq_zero hh.2
      have t2 : 2 ≤ t := by
        refine Nat.le_of_not_lt fun z => ?_
        have : t = 0 ∨ t = 1 := by omega
        rcases this with rfl | rfl
        · omega
        · omega
      have t3 : t < wq j := by
        refine Nat.lt_of_not_le fun z => c ?_
        rw [ht]
        exact Nat.mul_le_mul_left _ z
      refine hp t t2 (by omega) ?_ (by rw [ht]; exact Nat.mul_mod_left _ _)
      rw [ht]
      exact Nat.mul_le_mul_right _ (by omega)
  · refine fi_none.mpr (fun j _ hj => ?_)
    rw [Bool.eq_false_iff]
    intro e
    obtain ⟨e1, e2⟩ := hit_iff.mp e
    have hd := hw.2.2.2.2.1 j (by omega)
    have : D j < 100 := by
      refine Nat.lt_of_not_le fun z => ?_
      have := Nat.mul_le_mul z z
      omega
    exact hp (D j) hd.1 this e1 e2
/-- a wrong mark has a divisor that is missing -/
theorem wrong_missing (hw : WF w ns R k D) {n : Nat} (h2 : 2 ≤ n) (hn : n ≤ L) (hm : mk w k D n = true) (hi : ip n = false) : ∃ t, 2 ≤ t ∧ t < 100 ∧ mz w k D L t = true := by
  obtain ⟨t, t2, t100, tt, td⟩ := ip_false h2 hi
  obtain ⟨ho, hf⟩ := mk_iff.mp hm
  have tn : t * 2 ≤ t * t := Nat.mul_le_mul_left _ t2
  refine ⟨t, t2, t100, ?_⟩
  unfold mz ms
  rw [decide_eq_true (by omega : t * t ≤ L), Bool.true_and, Bool.and_eq_true, Bool.and_eq_true, Option.isNone_iff_eq_none, Option.isNone_iff_eq_none]
  refine ⟨?_, ?_, ?_⟩
  · unfold fr
    rw [Option.isNone_iff_eq_none]
    refine fi_none.mpr (fun j _ hj => decide_eq_false fun e => ?_)
    have h4 := hw.1
    have hq := wq_rng (k := j) (by omega)
    have hle : wq j ≤ t := Nat.le_of_dvd (by omega) (Nat.dvd_of_mod_eq_zero e)
    have := off_hit (w := w) (n := n) (j := j) (by omega) (by omega) (mod_trans td e)
    rw [ho] at this
    cases this
  · refine fi_none.mpr (fun j _ hj => decide_eq_false fun e => ?_)
    exact fh_hit (j := j) (by omega) (hit_iff.mpr (by rw [e]; exact ⟨tt, td⟩)) hf
  · refine fi_none.mpr (fun j _ hj => ?_)
    rw [Bool.eq_false_iff]
    intro e
    obtain ⟨e1, e2⟩ := hit_iff.mp e
    exact fh_hit (j := j) (by omega) (hit_iff.mpr ⟨by omega, mod_trans td e2⟩) hf
theorem mark_ip (hw : WF w ns R k D) (h : fi (mz w k D L) 2 98 = none) {n : Nat} (h2 : 2 ≤ n) (hn : n ≤ L) (hm : mk w k D n = true) : ip n = true := by
  refine Classical.byContradiction fun z => ?_
  obtain ⟨t, t2, t100, hz⟩ := wrong_missing hw h2 hn hm (Bool.eq_false_iff.mpr z)
  have := fi_none.mp h t t2 (by omega)
  rw [hz] at this
  cases this
/-- gap is 0 -/
theorem gap_0 (hw : WF w ns R k D) : (if (fi (mz w k D (1 + sm R ns)) 2 98).isNone = true then cn (wg w k D) 2 (sm R ns) else 0) + cn (fun i => !mk w k D i && ip i) 2 (sm R ns) = 0 := by
  have hL := hw.last
  have e1 : cn (fun i => !mk w k D i && ip i) 2 (sm R ns) = 0 := cn_zero (fun i h1 h2 => by
    cases hi : ip i with
    | false => rw [Bool.and_false]
    | true => rw [ip_mark hw (by omega) hi]; rfl)
  rw [e1, Nat.add_zero]
  by_cases c : (fi (mz w k D (1 + sm R ns)) 2 98).isNone = true
  · rw [if_pos c]
    refine cn_zero (fun i h1 h2 => ?_)
    unfold wg
    cases hm : mk w k D i with
    | false => rfl
    | true => rw [mark_ip hw (Option.isNone_iff_eq_none.mp c) h1 (by omega) hm]; rfl
  · rw [if_neg c]
theorem cn_pos {p : Nat → Bool} {a m : Nat} : 0 < cn p a m ↔ ∃ i, a ≤ i ∧ i < a + m ∧ p i = true := by
  rw [← fi_isSome]
  constructor
  · intro h
    cases hf : fi p a m with
    | some v => rfl
    | none => rw [cn_zero (fi_none.mp hf)] at h; omega
  · intro h
    refine Nat.pos_of_ne_zero fun z => ?_
    have := z
    rw [cn_0, Option.isNone_iff_eq_none] at this
    rw [this] at h
    cases h
theorem cn_le_of {p q : Nat → Bool} : ∀ {m a : Nat}, (∀ i, a ≤ i → i < a + m → p i = true → q i = true) → cn p a m ≤ cn q a m
  | 0, _, _ => Nat.le_refl _
  | m + 1, a, h => by
    have h1 := cn_le_of (m := m) (a := a + 1) (p := p) (q := q) (fun i i1 i2 => h i (by omega) (by omega))
    rw [cn_s, cn_s]
    cases hp : p a with
    | false => rw [if_neg Bool.false_ne_true]; omega
    | true => rw [h a (Nat.le_refl _) (by omega) hp]; omega
theorem cn_mono {p : Nat → Bool} {a m m' : Nat} (h : m ≤ m') : cn p a m ≤ cn p a m' := by
  rw [show m' = m + (m' - m) by omega, cn_add]
  omega
/-- told apart by a second property -/
theorem cn_split (p q : Nat → Bool) : ∀ (m a : Nat), cn p a m = cn (fun i => p i && q i) a m + cn (fun i => p i && !q i) a m
  | 0, _ => rfl
  | m + 1, a => by
    have := cn_split p q m (a + 1)
    rw [cn_s, cn_s, cn_s, this]
    cases p a <;> cases q a <;> simp <;> omega
/-! sums over the row -/
theorem sm_add (f g : Nat → Nat) : ∀ n, sm (fun i => f i + g i) n = sm f n + sm g n
  | 0 => rfl
  | n + 1 => by
    show sm (fun i => f i + g i) n + (f n + g n) = sm f n + f n + (sm g n + g n)
    rw [sm_add f g n]
    omega
theorem sm_zero {f : Nat → Nat} : ∀ {n}, (∀ i, i < n → f i = 0) → sm f n = 0
  | 0, _ => rfl
  | n + 1, h => by
    show sm f n + f n = 0
    rw [sm_zero (fun i hi => h i (by omega)), h n (by omega)]
theorem sm_one {f : Nat → Nat} {j : Nat} : ∀ {n}, j < n → f j = 1 → (∀ i, i < n → i ≠ j → f i = 0) → sm f n = 1
  | 0, h, _, _ => absurd h (by omega)
  | n + 1, h, h1, h0 => by
    show sm f n + f n = 1
    by_cases c : j = n
    · rw [← c, h1, sm_zero (fun i hi => h0 i (by omega) (by omega))]
    · rw [sm_one (by omega : j < n) h1 (fun i hi => h0 i (by omega)), h0 n (by omega) (fun e => c e.symm)]
def ow2 (w k : Nat) (D : Nat → Nat) (n : Nat) : Bool := !off w n && (fh k D n).isSome
theorem sm_own (n : Nat) : sm (fun i => if own w k D i n = true then 1 else 0) k = if ow2 w k D n = true then 1 else 0 := by
  unfold ow2
  cases ho : off w n with
  | true =>
    rw [sm_zero (fun i _ => by unfold own; rw [ho]; rfl)]
    rfl
  | false =>
    cases hf : fh k D n with
    | none =>
      rw [sm_zero (fun i _ => by unfold own; rw [ho, hf]; rfl)]
      rfl
    | some j =>
      obtain ⟨-, hj, -⟩ := fi_some hf
      have ej : own w k D j n = true := by unfold own; rw [ho, hf]; simp
      rw [sm_one (j := j) (by omega) (by rw [if_pos ej]) (fun i _ hi => by
        have : own w k D i n = false := by
          unfold own
          rw [ho, hf]
          simp
          omega
        rw [this]; rfl)]
      rfl
theorem sm_owned : ∀ (m a : Nat), sm (fun i => cn (own w k D i) a m) k = cn (ow2 w k D) a m
  | 0, a => sm_zero (fun _ _ => rfl)
  | m + 1, a => by
    have e : (fun i => cn (own w k D i) a (m + 1)) = fun i => (if own w k D i a = true then 1 else 0) + cn (own w k D i) (a + 1) m := by
      funext i
      rw [cn_s]
    rw [e, sm_add, sm_own, sm_owned m (a + 1), cn_s]
/-! marks that a striker takes, or gives back -/
theorem tk_in (hw : WF w ns R k D) {d j : Nat} (h : pl k D d = some j) : tk w ns R k D d = 0 := by
  obtain ⟨-, hj, hd, -⟩ := fi_some h
  have hd := of_decide_eq_true hd
  refine cn_zero (fun n _ _ => ?_)
  cases hh : hit n d with
  | false => rfl
  | true =>
    cases hm : mk w k D n with
    | false => rfl
    | true => exact absurd (mk_iff.mp hm).2 (fh_hit (j := j) (by omega) (by rw [hd]; exact hh))
theorem tk_pos {d : Nat} (h : 0 < tk w ns R k D d) : pl k D d = none := by
  obtain ⟨n, -, -, hn⟩ := cn_pos.mp h
  rw [Bool.and_eq_true] at hn
  refine fi_none.mpr (fun j _ hj => decide_eq_false fun e => ?_)
  exact fh_hit (j := j) (by omega) (by rw [e]; exact hn.1) (mk_iff.mp hn.2).2
theorem mk_more {d n : Nat} : mk w (k + 1) (up1 D k d) n = (mk w k D n && !hit n d) := by
  unfold mk
  rw [fh_succ, fh_more, up1_s]
  cases off w n with
  | true => rfl
  | false => cases fh k D n <;> cases hit n d <;> rfl
theorem marks_add (d : Nat) : cn (mk w k D) 2 (sm R ns) = tk w ns R k D d + cn (mk w (k + 1) (up1 D k d)) 2 (sm R ns) := by
  rw [cn_split (mk w k D) (fun n => hit n d)]
  unfold tk
  congr 1
  · exact cn_cong (fun n _ _ => Bool.and_comm _ _)
  · exact cn_cong (fun n _ _ => mk_more.symm)
/-- who strikes, told without an order -/
theorem fh_none {n : Nat} : fh k D n = none ↔ ∀ j, j < k → hit n (D j) = false := by
  constructor
  · intro h j hj
    exact fi_none.mp h j (Nat.zero_le _) (by omega)
  · intro h
    exact fi_none.mpr (fun j _ hj => h j (by omega))
theorem rm_ex {i j : Nat} (hi : i < k) (hj : j < k) (hne : j ≠ i) : ∃ q, q < k - 1 ∧ rm i q = j := by
  by_cases c : j < i
  · exact ⟨j, by omega, by unfold rm; rw [if_pos c]⟩
  · exact ⟨j - 1, by omega, by unfold rm; rw [if_neg (by omega)]; omega⟩
theorem rm_ne {i q : Nat} : rm i q ≠ i := by
  unfold rm
  split <;> omega
theorem mk_less {i n : Nat} (hi : i < k) : mk w (k - 1) (fun j => D (rm i j)) n = (mk w k D n || onl w k D i n) := by
  rw [Bool.eq_iff_iff, Bool.or_eq_true, mk_iff, mk_iff, fh_none, fh_none]
  unfold onl own
  rw [Bool.and_eq_true, Bool.and_eq_true, Bool.not_eq_true', decide_eq_true_eq, decide_eq_true_eq, cn_0, Option.isNone_iff_eq_none]
  constructor
  · rintro ⟨ho, hn⟩
    have hall : ∀ j, j < k → j ≠ i → hit n (D j) = false := fun j hj hne => by
      obtain ⟨q, q1, q2⟩ := rm_ex hi hj hne
      have := hn q q1
      rw [q2] at this
      exact this
    cases hh : hit n (D i) with
    | false =>
      refine Or.inl ⟨ho, fun j hj => ?_⟩
      by_cases e : j = i
      · rw [e]; exact hh
      · exact hall j hj e
    | true =>
      refine Or.inr ⟨⟨ho, ?_⟩, ?_⟩
      · exact fi_eq (Nat.zero_le _) (by omega) hh (fun j _ hj => hall j (by omega) (by omega))
      · exact fi_none.mpr (fun j h1 h2 => hall j (by omega) (by omega))
  · rintro (⟨ho, hn⟩ | ⟨⟨ho, hf⟩, hn⟩)
    · exact ⟨ho, fun q hq => hn _ (rm_lt hi hq)⟩
    · refine ⟨ho, fun q hq => ?_⟩
      obtain ⟨-, -, -, hb⟩ := fi_some hf
      have h1 := rm_lt (k := k) hi hq
      have h2 := rm_ne (i := i) (q := q)
      by_cases c : rm i q < i
      · exact hb _ (Nat.zero_le _) c
      · exact fi_none.mp hn _ (by omega) (by omega)
theorem onl_mk {i n : Nat} (h : onl w k D i n = true) : mk w k D n = false ∧ hit n (D i) = true := by
  unfold onl own at h
  rw [Bool.and_eq_true, Bool.and_eq_true, decide_eq_true_eq] at h
  obtain ⟨-, -, h3, -⟩ := fi_some h.1.2
  refine ⟨?_, h3⟩
  unfold mk
  rw [h.1.2]
  cases off w n <;> rfl
theorem marks_lift {i : Nat} (hi : i < k) : cn (mk w (k - 1) (fun j => D (rm i j))) 2 (sm R ns) = cn (mk w k D) 2 (sm R ns) + cn (onl w k D i) 2 (sm R ns) := by
  rw [cn_split (mk w (k - 1) (fun j => D (rm i j))) (mk w k D)]
  congr 1
  · refine cn_cong (fun n _ _ => ?_)
    rw [mk_less hi]
    cases mk w k D n <;> simp
  · refine cn_cong (fun n _ _ => ?_)
    rw [mk_less hi]
    cases ho : onl w k D i n with
    | false => cases mk w k D n <;> rfl
    | true => rw [(onl_mk ho).1]; rfl
theorem tk_lift {i : Nat} (hi : i < k) : tk w ns R (k - 1) (fun j => D (rm i j)) (D i) = cn (onl w k D i) 2 (sm R ns) := by
  unfold tk
  refine cn_cong (fun n _ _ => ?_)
  rw [mk_less hi]
  cases ho : onl w k D i n with
  | true =>
    rw [(onl_mk ho).2, Bool.or_true]
    rfl
  | false =>
    rw [Bool.or_false]
    cases hh : hit n (D i) with
    | false => rfl
    | true =>
      cases hm : mk w k D n with
      | false => rfl
      | true => exact absurd (mk_iff.mp hm).2 (fh_hit hi hh)
/-- the order of the row doesn't matter for the marks -/
theorem mk_perm {k' : Nat} {D' : Nat → Nat} (h1 : ∀ j, j < k → ∃ i, i < k' ∧ D' i = D j) (h2 : ∀ i, i < k' → ∃ j, j < k ∧ D j = D' i) : mk w k' D' = mk w k D := by
  funext n
  rw [Bool.eq_iff_iff, mk_iff, mk_iff, fh_none, fh_none]
  constructor
  · rintro ⟨ho, h⟩
    refine ⟨ho, fun j hj => ?_⟩
    obtain ⟨i, hi, e⟩ := h1 j hj
    rw [← e]
    exact h i hi
  · rintro ⟨ho, h⟩
    refine ⟨ho, fun i hi => ?_⟩
    obtain ⟨j, hj, e⟩ := h2 i hi
    rw [← e]
    exact h j hj
theorem mf_ex {i j : Nat} (hi : i < k) (hj : j < k) : ∃ q, q < k ∧ mf i q = j := by
  by_cases c : j = i
  · exact ⟨0, by omega, by unfold mf; rw [if_pos rfl, c]⟩
  · by_cases d : j < i
    · exact ⟨j + 1, by omega, by unfold mf; rw [if_neg (by omega), if_pos (by omega)]; omega⟩
    · exact ⟨j, hj, by unfold mf; rw [if_neg (by omega), if_neg (by omega)]⟩
theorem mk_first {i : Nat} (hi : i < k) : mk w k (fun j => D (mf i j)) = mk w k D :=
  mk_perm (fun j hj => by obtain ⟨q, q1, q2⟩ := mf_ex hi hj; exact ⟨q, q1, by rw [q2]⟩) (fun q hq => ⟨mf i q, mf_lt hi hq, rfl⟩)
theorem mk_swap {i j : Nat} (hi : i < k) (hj : j < k) : mk w k (fun x => D (sw i j x)) = mk w k D :=
  mk_perm (fun x hx => ⟨sw i j x, sw_lt hi hj hx, by rw [sw_sw]⟩) (fun x hx => ⟨sw i j x, sw_lt hi hj hx, rfl⟩)
theorem pl_at (hw : WF w ns R k D) {i : Nat} (hi : i < k) : pl k D (D i) = some i :=
  fi_eq (Nat.zero_le _) (by omega) (decide_eq_true rfl) (fun j _ hj => decide_eq_false fun e => by
    have := hw.2.2.2.2.2 j i (by omega) hi e
    omega)
theorem pl_D {d i : Nat} (h : pl k D d = some i) : i < k ∧ D i = d := by
  obtain ⟨-, h1, h2, -⟩ := fi_some h
  exact ⟨by omega, of_decide_eq_true h2⟩
theorem sw_same {i : Nat} : (fun x => D (sw i i x)) = D := by
  funext x
  unfold sw
  by_cases c : x = i
  · rw [if_pos c, c]
  · rw [if_neg c, if_neg c]
theorem chg_le {D' : Nat → Nat} : cn (chg w k D D') 2 (sm R ns) ≤ cn (fun n => !off w n) 2 (sm R ns) := cn_le_of (fun n _ _ h => by
  unfold chg at h
  rw [Bool.and_eq_true] at h
  exact h.1)
theorem chg_same : cn (chg w k D D) 2 (sm R ns) = 0 := cn_zero (fun n _ _ => by
  unfold chg
  cases fh k D n with
  | none => rw [Bool.and_false]
  | some a => simp)
/-! what stays when the idle ones go -/
theorem mk_tidy {kx : Nat} {σ : Nat → Nat} (h : LO w k D L kx σ) {n : Nat} (h2 : 2 ≤ n) (hn : n ≤ L) : mk w kx (fun j => D (σ j)) n = mk w k D n := by
  rw [Bool.eq_iff_iff, mk_iff, mk_iff, fh_none, fh_none]
  constructor
  · rintro ⟨ho, hx⟩
    refine ⟨ho, fun j hj => ?_⟩
    rw [Bool.eq_false_iff]
    intro e
    cases hf : fh k D n with
    | none => exact fh_hit hj e hf
    | some f =>
      obtain ⟨-, f1, f2, -⟩ := fi_some hf
      have hown : own w k D f n = true := by unfold own; rw [ho, hf]; simp
      by_cases c : ∃ p, p < kx ∧ σ p = f
      · obtain ⟨p, hp, rfl⟩ := c
        have := hx p hp
        rw [this] at f2
        cases f2
      · have hid := h.2.2.2 f (by omega) (fun p hp e => c ⟨p, hp, e⟩)
        unfold idl at hid
        have := fi_none.mp (Option.isNone_iff_eq_none.mp hid) n h2 (by omega)
        rw [hown] at this
        cases this
  · rintro ⟨ho, hx⟩
    exact ⟨ho, fun p hp => hx _ (h.2.1 p hp)⟩
theorem idl_tidy {kx : Nat} {σ : Nat → Nat} (h : LO w k D L kx σ) (hL1 : 1 ≤ L) (hi : ∀ p, p < kx → idl w k D L (σ p) = false) : cn (idl w kx (fun j => D (σ j)) L) 0 kx = 0 := cn_zero (fun q _ hq => by
  have := hi q (by omega)
  unfold idl at this ⊢
  rw [← this, fi_cong (fun n n1 n2 => h.owE (by omega) n1 (by omega))])
end
