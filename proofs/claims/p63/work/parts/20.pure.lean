/-! ===== PURE: numbers ===== -/
theorem nm_e1 {α β : Type} (v : α) (k : α → β) : nm v k = k v := rfl
theorem ix_nI {α : Type} {j N : Nat} {k : Option α} (h : j < N) (hN : N < 2 ^ 31) : ix (nI j) N k = k := by
  unfold ix
  rw [if_neg (nI_in h hN)]
theorem nz_nI {α : Type} {j : Nat} {k : Option α} (h : 0 < j) (hN : j < 2 ^ 31) : nz (nI j) k = k := by
  unfold nz
  rw [if_neg (nI_ne0 h hN)]
theorem ng_lt {k : Nat} (h : k < 2 ^ 31) : ¬ nI k < 0 := nI_pos h
theorem li0 : (0 : Int32) = nI 0 := rfl
theorem li1 : (1 : Int32) = nI 1 := rfl
theorem li2 : (2 : Int32) = nI 2 := rfl
theorem li3 : (3 : Int32) = nI 3 := rfl
theorem li4 : (4 : Int32) = nI 4 := rfl
theorem li5 : (5 : Int32) = nI 5 := rfl
theorem li6 : (6 : Int32) = nI 6 := rfl
theorem li7 : (7 : Int32) = nI 7 := rfl
theorem li8 : (8 : Int32) = nI 8 := rfl
theorem li9 : (9 : Int32) = nI 9 := rfl
theorem li10 : (10 : Int32) = nI 10 := rfl
theorem li12 : (12 : Int32) = nI 12 := rfl
theorem li14 : (14 : Int32) = nI 14 := rfl
theorem li15 : (15 : Int32) = nI 15 := rfl
theorem li20 : (20 : Int32) = nI 20 := rfl
theorem li30 : (30 : Int32) = nI 30 := rfl
theorem li45 : (45 : Int32) = nI 45 := rfl
theorem li120 : (120 : Int32) = nI 120 := rfl
theorem li400 : (400 : Int32) = nI 400 := rfl
theorem li4801 : (4801 : Int32) = nI 4801 := rfl
theorem li5000 : (5000 : Int32) = nI 5000 := rfl
/-- -1 is below all, and none of them -/
theorem m1_lt {k : Nat} (h : k < 2 ^ 31) : (-1 : Int32) < nI k := by
  rw [Int32.lt_iff_toInt_lt, nI_toInt h]
  exact Int.lt_of_lt_of_le (by decide : (-1 : Int32).toInt < 0) (Int.natCast_nonneg k)
theorem m1_ne {k : Nat} (h : k < 2 ^ 31) : ¬ nI k = (-1 : Int32) := fun e => by
  have := m1_lt h
  rw [e] at this
  exact absurd this (by decide)
/-- every int is negative or a number -/
theorem i_cases (x : Int32) : x < 0 ∨ ∃ k : Nat, k < 2 ^ 31 ∧ x = nI k := by
  by_cases h : x < 0
  · exact Or.inl h
  · exact Or.inr (nI_of h)
theorem neg_lt {x : Int32} (h : x < 0) {k : Nat} (hk : k < 2 ^ 31) : x < nI k := by
  rw [Int32.lt_iff_toInt_lt] at h ⊢
  rw [nI_toInt hk]
  exact Int.lt_of_lt_of_le h (Int.natCast_nonneg k)
theorem neg_nle {x : Int32} (h : x < 0) {k : Nat} (hk : k < 2 ^ 31) : ¬ nI k ≤ x := Int32.not_le.mpr (neg_lt h hk)
theorem neg_le {x : Int32} (h : x < 0) {k : Nat} (hk : k < 2 ^ 31) : x ≤ nI k := Int32.le_of_lt (neg_lt h hk)
theorem neg_nlt {x : Int32} (h : x < 0) {k : Nat} (hk : k < 2 ^ 31) : ¬ nI k < x := Int32.not_lt.mpr (neg_le h hk)
theorem neg_ne {x : Int32} (h : x < 0) {k : Nat} (hk : k < 2 ^ 31) : ¬ x = nI k := fun e => by rw [e] at h; exact nI_pos hk h
theorem neg_cl {x : Int32} (h : x < 0) : x.toNatClampNeg = 0 := by
  rw [Int32.lt_iff_toInt_lt] at h
  have h2 : x.toInt < 0 := h
  show x.toInt.toNat = 0
  omega
/-- the first of k numbers from a on -/
def fi (p : Nat → Bool) (a : Nat) : Nat → Option Nat
  | 0 => none
  | k + 1 => if p a then some a else fi p (a + 1) k
def oI : Option Nat → Int32
  | none => -1
  | some j => nI j
theorem fi_some {p : Nat → Bool} : ∀ {k a j : Nat}, fi p a k = some j → a ≤ j ∧ j < a + k ∧ p j = true ∧ ∀ i, a ≤ i → i < j → p i = false
  | 0, _, _, h => by cases h
  | k + 1, a, j, h => by
    unfold fi at h
    by_cases hp : p a = true
    · rw [if_pos hp] at h
      cases h
      exact ⟨Nat.le_refl _, by omega, hp, fun i h1 h2 => absurd h1 (by omega)⟩
    · rw [if_neg hp] at h
      obtain ⟨h1, h2, h3, h4⟩ := fi_some h
      refine ⟨by omega, by omega, h3, fun i i1 i2 => ?_⟩
      by_cases e : i = a
      · subst e; exact Bool.eq_false_iff.mpr hp
      · exact h4 i (by omega) i2
theorem fi_none {p : Nat → Bool} : ∀ {k a : Nat}, fi p a k = none ↔ ∀ i, a ≤ i → i < a + k → p i = false
  | 0, a => ⟨fun _ i h1 h2 => absurd h1 (by omega), fun _ => rfl⟩
  | k + 1, a => by
    unfold fi
    by_cases hp : p a = true
    · rw [if_pos hp]
      exact ⟨fun h => (by cases h), fun h => by rw [h a (Nat.le_refl _) (by omega)] at hp; cases hp⟩
    · rw [if_neg hp, fi_none]
      refine ⟨fun h i i1 i2 => ?_, fun h i i1 i2 => h i (by omega) (by omega)⟩
      by_cases e : i = a
      · subst e; exact Bool.eq_false_iff.mpr hp
      · exact h i (by omega) (by omega)
theorem fi_cong {p q : Nat → Bool} : ∀ {k a : Nat}, (∀ i, a ≤ i → i < a + k → p i = q i) → fi p a k = fi q a k
  | 0, _, _ => rfl
  | k + 1, a, h => by
    unfold fi
    rw [h a (Nat.le_refl _) (by omega), fi_cong (fun i i1 i2 => h i (by omega) (by omega))]
/-- how many of k numbers from a on -/
def cn (p : Nat → Bool) (a : Nat) : Nat → Nat
  | 0 => 0
  | k + 1 => (if p a then 1 else 0) + cn p (a + 1) k
theorem cn_le (p : Nat → Bool) : ∀ (k a : Nat), cn p a k ≤ k
  | 0, _ => Nat.le_refl 0
  | k + 1, a => by
    have := cn_le p k (a + 1)
    unfold cn
    split <;> omega
theorem cn_cong {p q : Nat → Bool} : ∀ {k a : Nat}, (∀ i, a ≤ i → i < a + k → p i = q i) → cn p a k = cn q a k
  | 0, _, _ => rfl
  | k + 1, a, h => by
    unfold cn
    rw [h a (Nat.le_refl _) (by omega), cn_cong (fun i i1 i2 => h i (by omega) (by omega))]
theorem cn_add (p : Nat → Bool) : ∀ (j a k : Nat), cn p a (j + k) = cn p a j + cn p (a + j) k
  | 0, a, k => by simp [cn]
  | j + 1, a, k => by
    have e : j + 1 + k = (j + k) + 1 := by omega
    rw [e]
    show (if p a then 1 else 0) + cn p (a + 1) (j + k) = (if p a then 1 else 0) + cn p (a + 1) j + _
    rw [cn_add p j (a + 1) k, show a + 1 + j = a + (j + 1) by omega]
    omega
theorem cn_zero {p : Nat → Bool} : ∀ {k a : Nat}, (∀ i, a ≤ i → i < a + k → p i = false) → cn p a k = 0
  | 0, _, _ => rfl
  | k + 1, a, h => by
    unfold cn
    rw [h a (Nat.le_refl _) (by omega), cn_zero (fun i i1 i2 => h i (by omega) (by omega))]
    rfl
/-- loops: a step that is right while the measure falls -/
theorem fx1 {α R : Type} {bot : α → R} {B : (α → R) → α → R} {Q : α → Nat → R → Prop}
    (H : ∀ k x m r, (∀ y m' r', m' < m → Q y m' r' → k y = r') → Q x m r → B k x = r) :
    ∀ n x m r, Q x m r → m < n → fx bot B n x = r
  | 0, _, _, _, _, h => absurd h (Nat.not_lt_zero _)
  | n + 1, x, m, r, hq, h => H _ x m r (fun y m' r' h1 h2 => fx1 H n y m' r' h2 (by omega)) hq
theorem fx2 {α β R : Type} {bot : α → β → R} {B : (α → β → R) → α → β → R} {Q : α → β → Nat → R → Prop}
    (H : ∀ k x y m r, (∀ x' y' m' r', m' < m → Q x' y' m' r' → k x' y' = r') → Q x y m r → B k x y = r) :
    ∀ n x y m r, Q x y m r → m < n → fx bot B n x y = r
  | 0, _, _, _, _, _, h => absurd h (Nat.not_lt_zero _)
  | n + 1, x, y, m, r, hq, h => H _ x y m r (fun x' y' m' r' h1 h2 => fx2 H n x' y' m' r' h2 (by omega)) hq
theorem fx3 {α β γ R : Type} {bot : α → β → γ → R} {B : (α → β → γ → R) → α → β → γ → R} {Q : α → β → γ → Nat → R → Prop}
    (H : ∀ k x y z m r, (∀ x' y' z' m' r', m' < m → Q x' y' z' m' r' → k x' y' z' = r') → Q x y z m r → B k x y z = r) :
    ∀ n x y z m r, Q x y z m r → m < n → fx bot B n x y z = r
  | 0, _, _, _, _, _, _, h => absurd h (Nat.not_lt_zero _)
  | n + 1, x, y, z, m, r, hq, h => H _ x y z m r (fun x' y' z' m' r' h1 h2 => fx3 H n x' y' z' m' r' h2 (by omega)) hq
theorem fx4 {α β γ δ R : Type} {bot : α → β → γ → δ → R} {B : (α → β → γ → δ → R) → α → β → γ → δ → R} {Q : α → β → γ → δ → Nat → R → Prop}
    (H : ∀ k x y z w m r, (∀ x' y' z' w' m' r', m' < m → Q x' y' z' w' m' r' → k x' y' z' w' = r') → Q x y z w m r → B k x y z w = r) :
    ∀ n x y z w m r, Q x y z w m r → m < n → fx bot B n x y z w = r
  | 0, _, _, _, _, _, _, _, h => absurd h (Nat.not_lt_zero _)
  | n + 1, x, y, z, w, m, r, hq, h => H _ x y z w m r (fun x' y' z' w' m' r' h1 h2 => fx4 H n x' y' z' w' m' r' h2 (by omega)) hq
/-! ===== ints that are numbers: simp (disch := omega) only [↓m1_d, ↓m2_d, e_m2, e_m2', e_m12, e_m21, liN, e_le, e_lt, e_eqm, e_eq, e_m1, e_m1', e_m1l, e_m1e, e_m1g, e_m1h, e_add, e_mul, e_sub, e_pred, e_rem, ix_nI, nz_nI, nI_clamp, nm_e1, Nat.add_zero, if_true, if_false, Nat.reduceEqDiff, eq_self, reduceIte] ===== -/
theorem liN (n : Nat) : (OfNat.ofNat n : Int32) = nI (OfNat.ofNat n) := rfl
def m1 : Int32 := -1
theorem m1_d : (-1 : Int32) = m1 := rfl
def m2 : Int32 := -2
theorem m2_d : (-2 : Int32) = m2 := rfl
theorem e_le {a b : Nat} (ha : a < 2 ^ 31) (hb : b < 2 ^ 31) : (nI a ≤ nI b) = (a ≤ b) := propext ⟨fun h => Nat.le_of_not_lt fun c => nI_ge c ha h, fun h => nI_le h hb⟩
theorem e_lt {a b : Nat} (ha : a < 2 ^ 31) (hb : b < 2 ^ 31) : (nI a < nI b) = (a < b) := propext ⟨fun h => Nat.lt_of_not_le fun c => nI_nlt c ha h, fun h => nI_lt h hb⟩
theorem e_eq {a b : Nat} (ha : a < 2 ^ 31) (hb : b < 2 ^ 31) : (nI a = nI b) = (a = b) := propext ⟨fun h => by rw [← nI_clamp ha, h, nI_clamp hb], fun h => by rw [h]⟩
theorem e_eqm {a d b : Nat} (ha : a < 2 ^ 31) (hb : b < 2 ^ 31) : (nI (a % d) = nI b) = (a % d = b) := e_eq (Nat.lt_of_le_of_lt (Nat.mod_le _ _) ha) hb
theorem e_m1 {a : Nat} (ha : a < 2 ^ 31) : (nI a = m1) = False := propext ⟨fun h => m1_ne ha h, False.elim⟩
theorem e_m1' {a : Nat} (ha : a < 2 ^ 31) : (m1 = nI a) = False := propext ⟨fun h => m1_ne ha h.symm, False.elim⟩
theorem e_m1l {a : Nat} (ha : a < 2 ^ 31) : (m1 < nI a) = True := eq_true (m1_lt ha)
theorem e_m1e {a : Nat} (ha : a < 2 ^ 31) : (m1 ≤ nI a) = True := eq_true (Int32.le_of_lt (m1_lt ha))
theorem e_m1g {a : Nat} (ha : a < 2 ^ 31) : (nI a ≤ m1) = False := eq_false (Int32.not_le.mpr (m1_lt ha))
theorem e_m1h {a : Nat} (ha : a < 2 ^ 31) : (nI a < m1) = False := eq_false (Int32.not_lt.mpr (Int32.le_of_lt (m1_lt ha)))
theorem e_m2 {n : Nat} (h : n < 2 ^ 31) : (nI n = m2) = False := by
  refine eq_false fun e => ?_
  have := nI_pos' h
  rw [e] at this
  exact absurd this (by decide)
theorem e_m2' {n : Nat} (h : n < 2 ^ 31) : (m2 = nI n) = False := eq_false fun e => (e_m2 h).mp e.symm
theorem e_m12 : (m1 = m2) = False := eq_false (by decide)
theorem e_m21 : (m2 = m1) = False := eq_false (by decide)
theorem e_add (a b : Nat) : nI a + nI b = nI (a + b) := nI_add a b
theorem e_mul (a b : Nat) : nI a * nI b = nI (a * b) := pk_mul a b
theorem e_sub {a b : Nat} (h : b ≤ a) : nI a - nI b = nI (a - b) := by
  have : nI a = nI (a - b) + nI b := by rw [e_add]; congr 1; omega
  rw [this, Int32.add_sub_cancel]
theorem e_pred {a : Nat} (h : 0 < a) : nI a + m1 = nI (a - 1) := by
  have : nI a = nI (a - 1) + nI 1 := by rw [e_add]; congr 1; omega
  rw [this, Int32.add_assoc]
  exact Int32.add_zero _
theorem e_rem {a d : Nat} (h1 : a < 2 ^ 31) (h2 : 0 < d ∧ d < 2 ^ 31) : nI a - nI a / nI d * nI d = nI (a % d) := pk_rem h1 h2.1 h2.2
/-! ===== loops that scan ===== -/
/-- the last of k numbers from a on -/
def fb (p : Nat → Bool) (a : Nat) : Nat → Option Nat
  | 0 => none
  | k + 1 => if p (a + k) then some (a + k) else fb p a k
section LP
variable {β γ δ : Type} {p : Nat → Bool}
/-- up, one by one: vars i -/
theorem lp_fi {bot : Int32 → Option β} {B : (Int32 → Option β) → Int32 → Option β} (f : Option Nat → β) (a N : Nat) (hN : N ≤ 900000) (h : a ≤ N)
    (H : ∀ K i, a ≤ i → i ≤ N → B K (nI i) = if N ≤ i then some (f none) else if p i = true then some (f (some i)) else K (nI (i + 1))) :
    fx bot B FUEL (nI a) = some (f (fi p a (N - a))) := by
  refine fx1 (Q := fun v m r => ∃ i, v = nI i ∧ a ≤ i ∧ i ≤ N ∧ m = N - i ∧ r = some (f (fi p i (N - i)))) ?_ FUEL (nI a) (N - a) _ ⟨a, rfl, by omega, by omega, rfl, rfl⟩ (by unfold FUEL; omega)
  rintro K _ _ _ ih ⟨i, rfl, hi0, hi, rfl, rfl⟩
  rw [H K i hi0 hi]
  by_cases c : N ≤ i
  · rw [if_pos c, show N - i = 0 by omega]; rfl
  · rw [if_neg c, show N - i = (N - (i + 1)) + 1 by omega]
    unfold fi
    by_cases e : p i = true
    · rw [if_pos e, if_pos e]
    · rw [if_neg e, if_neg e]
      exact ih _ (N - (i + 1)) _ (by omega) ⟨i + 1, rfl, by omega, by omega, rfl, rfl⟩
/-- up, one by one: vars i and one that stays -/
theorem lp_fi_t {t : γ} {bot : Int32 → γ → Option β} {B : (Int32 → γ → Option β) → Int32 → γ → Option β} (f : Option Nat → β) (a N : Nat) (hN : N ≤ 900000) (h : a ≤ N)
    (H : ∀ K i, a ≤ i → i ≤ N → B K (nI i) t = if N ≤ i then some (f none) else if p i = true then some (f (some i)) else K (nI (i + 1)) t) :
    fx bot B FUEL (nI a) t = some (f (fi p a (N - a))) := by
  refine fx2 (Q := fun v t' m r => t' = t ∧ ∃ i, v = nI i ∧ a ≤ i ∧ i ≤ N ∧ m = N - i ∧ r = some (f (fi p i (N - i)))) ?_ FUEL (nI a) t (N - a) _ ⟨rfl, a, rfl, by omega, by omega, rfl, rfl⟩ (by unfold FUEL; omega)
  rintro K _ _ _ _ ih ⟨rfl, i, rfl, hi0, hi, rfl, rfl⟩
  rw [H K i hi0 hi]
  by_cases c : N ≤ i
  · rw [if_pos c, show N - i = 0 by omega]; rfl
  · rw [if_neg c, show N - i = (N - (i + 1)) + 1 by omega]
    unfold fi
    by_cases e : p i = true
    · rw [if_pos e, if_pos e]
    · rw [if_neg e, if_neg e]
      exact ih _ _ (N - (i + 1)) _ (by omega) ⟨rfl, i + 1, rfl, by omega, by omega, rfl, rfl⟩
/-- up, one that stays first -/
theorem lp_fi_b {t : γ} {bot : γ → Int32 → Option β} {B : (γ → Int32 → Option β) → γ → Int32 → Option β} (f : Option Nat → β) (a N : Nat) (hN : N ≤ 900000) (h : a ≤ N)
    (H : ∀ K i, a ≤ i → i ≤ N → B K t (nI i) = if N ≤ i then some (f none) else if p i = true then some (f (some i)) else K t (nI (i + 1))) :
    fx bot B FUEL t (nI a) = some (f (fi p a (N - a))) := by
  refine fx2 (Q := fun t' v m r => t' = t ∧ ∃ i, v = nI i ∧ a ≤ i ∧ i ≤ N ∧ m = N - i ∧ r = some (f (fi p i (N - i)))) ?_ FUEL t (nI a) (N - a) _ ⟨rfl, a, rfl, by omega, by omega, rfl, rfl⟩ (by unfold FUEL; omega)
  rintro K _ _ _ _ ih ⟨rfl, i, rfl, hi0, hi, rfl, rfl⟩
  rw [H K i hi0 hi]
  by_cases c : N ≤ i
  · rw [if_pos c, show N - i = 0 by omega]; rfl
  · rw [if_neg c, show N - i = (N - (i + 1)) + 1 by omega]
    unfold fi
    by_cases e : p i = true
    · rw [if_pos e, if_pos e]
    · rw [if_neg e, if_neg e]
      exact ih _ _ (N - (i + 1)) _ (by omega) ⟨rfl, i + 1, rfl, by omega, by omega, rfl, rfl⟩
/-- counting, one by one: vars count, i -/
theorem lp_cn {bot : Int32 → Int32 → Option β} {B : (Int32 → Int32 → Option β) → Int32 → Int32 → Option β} (f : Nat → β) (a N : Nat) (hN : N ≤ 900000) (h : a ≤ N)
    (H : ∀ K c i, a ≤ i → i ≤ N → c ≤ i - a → B K (nI c) (nI i) = if N ≤ i then some (f c) else if p i = true then K (nI (c + 1)) (nI (i + 1)) else K (nI c) (nI (i + 1))) :
    fx bot B FUEL (nI 0) (nI a) = some (f (cn p a (N - a))) := by
  refine fx2 (Q := fun u v m r => ∃ c i, u = nI c ∧ v = nI i ∧ a ≤ i ∧ i ≤ N ∧ c ≤ i - a ∧ m = N - i ∧ r = some (f (c + cn p i (N - i)))) ?_ FUEL (nI 0) (nI a) (N - a) _ ⟨0, a, rfl, rfl, by omega, by omega, by omega, rfl, by rw [Nat.zero_add]⟩ (by unfold FUEL; omega)
  rintro K _ _ _ _ ih ⟨c, i, rfl, rfl, hi0, hi, hc, rfl, rfl⟩
  rw [H K c i hi0 hi hc]
  by_cases q : N ≤ i
  · rw [if_pos q, show N - i = 0 by omega]; rfl
  · rw [if_neg q, show N - i = (N - (i + 1)) + 1 by omega]
    unfold cn
    by_cases e : p i = true
    · rw [if_pos e, if_pos e, ← Nat.add_assoc]
      exact ih _ _ (N - (i + 1)) _ (by omega) ⟨c + 1, i + 1, rfl, rfl, by omega, by omega, by omega, rfl, rfl⟩
    · rw [if_neg e, if_neg e, Nat.zero_add]
      exact ih _ _ (N - (i + 1)) _ (by omega) ⟨c, i + 1, rfl, rfl, by omega, by omega, by omega, rfl, rfl⟩
theorem lp_cn_t {t : γ} {bot : Int32 → Int32 → γ → Option β} {B : (Int32 → Int32 → γ → Option β) → Int32 → Int32 → γ → Option β} (f : Nat → β) (a N : Nat) (hN : N ≤ 900000) (h : a ≤ N)
    (H : ∀ K c i, a ≤ i → i ≤ N → c ≤ i - a → B K (nI c) (nI i) t = if N ≤ i then some (f c) else if p i = true then K (nI (c + 1)) (nI (i + 1)) t else K (nI c) (nI (i + 1)) t) :
    fx bot B FUEL (nI 0) (nI a) t = some (f (cn p a (N - a))) := by
  refine fx3 (Q := fun u v t' m r => t' = t ∧ ∃ c i, u = nI c ∧ v = nI i ∧ a ≤ i ∧ i ≤ N ∧ c ≤ i - a ∧ m = N - i ∧ r = some (f (c + cn p i (N - i)))) ?_ FUEL (nI 0) (nI a) t (N - a) _ ⟨rfl, 0, a, rfl, rfl, by omega, by omega, by omega, rfl, by rw [Nat.zero_add]⟩ (by unfold FUEL; omega)
  rintro K _ _ _ _ _ ih ⟨rfl, c, i, rfl, rfl, hi0, hi, hc, rfl, rfl⟩
  rw [H K c i hi0 hi hc]
  by_cases q : N ≤ i
  · rw [if_pos q, show N - i = 0 by omega]; rfl
  · rw [if_neg q, show N - i = (N - (i + 1)) + 1 by omega]
    unfold cn
    by_cases e : p i = true
    · rw [if_pos e, if_pos e, ← Nat.add_assoc]
      exact ih _ _ _ (N - (i + 1)) _ (by omega) ⟨rfl, c + 1, i + 1, rfl, rfl, by omega, by omega, by omega, rfl, rfl⟩
    · rw [if_neg e, if_neg e, Nat.zero_add]
      exact ih _ _ _ (N - (i + 1)) _ (by omega) ⟨rfl, c, i + 1, rfl, rfl, by omega, by omega, by omega, rfl, rfl⟩
/-- counting, one that stays in the middle -/
theorem lp_cn_m {t : γ} {bot : Int32 → γ → Int32 → Option β} {B : (Int32 → γ → Int32 → Option β) → Int32 → γ → Int32 → Option β} (f : Nat → β) (a N : Nat) (hN : N ≤ 900000) (h : a ≤ N)
    (H : ∀ K c i, a ≤ i → i ≤ N → c ≤ i - a → B K (nI c) t (nI i) = if N ≤ i then some (f c) else if p i = true then K (nI (c + 1)) t (nI (i + 1)) else K (nI c) t (nI (i + 1))) :
    fx bot B FUEL (nI 0) t (nI a) = some (f (cn p a (N - a))) := by
  refine fx3 (Q := fun u t' v m r => t' = t ∧ ∃ c i, u = nI c ∧ v = nI i ∧ a ≤ i ∧ i ≤ N ∧ c ≤ i - a ∧ m = N - i ∧ r = some (f (c + cn p i (N - i)))) ?_ FUEL (nI 0) t (nI a) (N - a) _ ⟨rfl, 0, a, rfl, rfl, by omega, by omega, by omega, rfl, by rw [Nat.zero_add]⟩ (by unfold FUEL; omega)
  rintro K _ _ _ _ _ ih ⟨rfl, c, i, rfl, rfl, hi0, hi, hc, rfl, rfl⟩
  rw [H K c i hi0 hi hc]
  by_cases q : N ≤ i
  · rw [if_pos q, show N - i = 0 by omega]; rfl
  · rw [if_neg q, show N - i = (N - (i + 1)) + 1 by omega]
    unfold cn
    by_cases e : p i = true
    · rw [if_pos e, if_pos e, ← Nat.add_assoc]
      exact ih _ _ _ (N - (i + 1)) _ (by omega) ⟨rfl, c + 1, i + 1, rfl, rfl, by omega, by omega, by omega, rfl, rfl⟩
    · rw [if_neg e, if_neg e, Nat.zero_add]
      exact ih _ _ _ (N - (i + 1)) _ (by omega) ⟨rfl, c, i + 1, rfl, rfl, by omega, by omega, by omega, rfl, rfl⟩
/-- down, one by one -/
theorem lp_fb {bot : Int32 → Option β} {B : (Int32 → Option β) → Int32 → Option β} (f : Option Nat → β) (a b : Nat) (hN : b ≤ 900000)
    (H : ∀ K i, i ≤ b → B K (nI i) = if i ≤ a then some (f none) else if p (i - 1) = true then some (f (some (i - 1))) else K (nI (i - 1))) :
    fx bot B FUEL (nI b) = some (f (fb p a (b - a))) := by
  refine fx1 (Q := fun v m r => ∃ i, v = nI i ∧ i ≤ b ∧ m = i ∧ r = some (f (fb p a (i - a)))) ?_ FUEL (nI b) b _ ⟨b, rfl, by omega, rfl, rfl⟩ (by unfold FUEL; omega)
  rintro K _ i _ ih ⟨_, rfl, hi, rfl, rfl⟩
  rw [H K i hi]
  by_cases c : i ≤ a
  · rw [if_pos c, show i - a = 0 by omega]; rfl
  · rw [if_neg c, show i - a = (i - 1 - a) + 1 by omega]
    unfold fb
    rw [show a + (i - 1 - a) = i - 1 by omega]
    by_cases e : p (i - 1) = true
    · rw [if_pos e, if_pos e]
    · rw [if_neg e, if_neg e]
      exact ih _ (i - 1) _ (by omega) ⟨i - 1, rfl, by omega, rfl, rfl⟩
end LP
/-- a sum -/
def sm (R : Nat → Nat) : Nat → Nat
  | 0 => 0
  | n + 1 => sm R n + R n
theorem sm_mono {R : Nat → Nat} {a : Nat} : ∀ {b : Nat}, a ≤ b → sm R a ≤ sm R b
  | 0, h => by rw [show a = 0 by omega]; exact Nat.le_refl _
  | b + 1, h => by
    by_cases e : a = b + 1
    · rw [e]; exact Nat.le_refl _
    · exact Nat.le_trans (sm_mono (by omega : a ≤ b)) (Nat.le_add_right _ _)
theorem sm_le {R : Nat → Nat} {B : Nat} : ∀ {n : Nat}, (∀ i, i < n → R i ≤ B) → sm R n ≤ B * n
  | 0, _ => Nat.zero_le _
  | n + 1, h => by
    have h1 := sm_le (n := n) (fun i hi => h i (by omega))
    have h2 := h n (by omega)
    show sm R n + R n ≤ B * (n + 1)
    rw [Nat.mul_add, Nat.mul_one]
    omega
theorem sm_cong {R S : Nat → Nat} : ∀ {n : Nat}, (∀ i, i < n → R i = S i) → sm R n = sm S n
  | 0, _ => rfl
  | n + 1, h => by
    show sm R n + R n = sm S n + S n
    rw [sm_cong (fun i hi => h i (by omega)), h n (by omega)]
/-! ===== a plan: w wheel primes, ns stretches of rooms R, k strikers of D ===== -/
def PX (w ns : Nat) (R : Nat → Nat) (k : Nat) (D : Nat → Nat) (P : PlanT) : Prop :=
  P.1 = nI w ∧ P.2.1 = nI ns ∧ (∀ i, i < ns → P.2.2.1 i = nI (R i)) ∧ P.2.2.2.1 = nI (1 + sm R ns) ∧ P.2.2.2.2.1 = nI k ∧ (∀ i, i < k → P.2.2.2.2.2.1 i = nI (D i))
def WF (w ns : Nat) (R : Nat → Nat) (k : Nat) (D : Nat → Nat) : Prop :=
  w ≤ 4 ∧ ns ≤ 12 ∧ (∀ i, i < ns → 1 ≤ R i ∧ R i ≤ 400) ∧ k ≤ 30 ∧ (∀ i, i < k → 2 ≤ D i ∧ D i ≤ 120) ∧ (∀ i j, i < k → j < k → D i = D j → i = j)
section
variable {w ns k : Nat} {R D : Nat → Nat} {P : PlanT} {row : Nat → Int32}
theorem WF.last (h : WF w ns R k D) : 1 + sm R ns ≤ 4801 := by
  have h1 := sm_le (B := 400) (fun i hi => (h.2.2.1 i hi).2)
  have h2 := h.2.1
  have : 400 * ns ≤ 400 * 12 := Nat.mul_le_mul_left 400 h2
  omega
theorem WF.upto (h : WF w ns R k D) {i : Nat} (hi : i ≤ ns) : sm R i ≤ 4800 := by
  have := h.last
  have := sm_mono (R := R) hi
  omega
/-! the wheel -/
def wq (k : Nat) : Nat := ([2, 3, 5, 7] : List Nat).getD k 0
def wp (k : Nat) : Nat := ([1, 2, 6, 30, 210] : List Nat).getD k 0
theorem wq_rng {k : Nat} (h : k < 4) : 2 ≤ wq k ∧ wq k ≤ 7 := by
  match k, h with
  | 0, _ => exact ⟨by decide, by decide⟩
  | 1, _ => exact ⟨by decide, by decide⟩
  | 2, _ => exact ⟨by decide, by decide⟩
  | 3, _ => exact ⟨by decide, by decide⟩
theorem wp_rng {k : Nat} (h : k < 5) : 1 ≤ wp k ∧ wp k ≤ 210 := by
  match k, h with
  | 0, _ => exact ⟨by decide, by decide⟩
  | 1, _ => exact ⟨by decide, by decide⟩
  | 2, _ => exact ⟨by decide, by decide⟩
  | 3, _ => exact ⟨by decide, by decide⟩
  | 4, _ => exact ⟨by decide, by decide⟩
theorem p4_wq {k : Nat} (h : k < 4) : sw_p4 k = nI (wq k) := by
  match k, h with
  | 0, _ => rfl
  | 1, _ => rfl
  | 2, _ => rfl
  | 3, _ => rfl
theorem p5_wp {k : Nat} (h : k < 5) : sw_p5 k = nI (wp k) := by
  match k, h with
  | 0, _ => rfl
  | 1, _ => rfl
  | 2, _ => rfl
  | 3, _ => rfl
  | 4, _ => rfl
theorem L_product (h : w ≤ 4) : F_X9_product (nI w) = some (nI (wp w)) := by
  unfold F_X9_product
  simp (disch := omega) only [↓m1_d, ↓m2_d, e_m2, e_m2', e_m12, e_m21, liN, e_le, e_lt, e_eqm, e_eq, e_m1, e_m1', e_m1l, e_m1e, e_m1g, e_m1h, e_add, e_mul, e_sub, e_pred, e_rem, ix_nI, nz_nI, nI_clamp, nm_e1, Nat.add_zero, if_true, if_false, Nat.reduceEqDiff, eq_self, reduceIte, p5_wp]
  rw [if_neg (by omega), if_pos (by omega)]
theorem L_primeAt {i : Nat} (h : i < 4) : F_X9_primeAt (nI i) = some (nI (wq i)) := by
  unfold F_X9_primeAt
  simp (disch := omega) only [↓m1_d, ↓m2_d, e_m2, e_m2', e_m12, e_m21, liN, e_le, e_lt, e_eqm, e_eq, e_m1, e_m1', e_m1l, e_m1e, e_m1g, e_m1h, e_add, e_mul, e_sub, e_pred, e_rem, ix_nI, nz_nI, nI_clamp, nm_e1, Nat.add_zero, if_true, if_false, Nat.reduceEqDiff, eq_self, reduceIte, p4_wq]
  rw [if_neg (by omega), if_pos (by omega)]
/-- the first wheel prime that divides n -/
def sp (w n : Nat) : Option Nat := fi (fun j => decide (n % wq j = 0)) 0 w
def oq : Option Nat → Int32
  | none => m1
  | some j => nI (wq j)
theorem L_smallestPrimeOf (h : w ≤ 4) {n : Nat} (hn : n < 2 ^ 31) : F_X9_smallestPrimeOf (nI n) (nI w) = some (oq (sp w n)) := by
  refine lp_fi (p := fun j => decide (n % wq j = 0)) oq 0 w (by omega) (by omega) (fun K i h0 hi => ?_)
  unfold B_X9_smallestPrimeOf_2
  by_cases c : w ≤ i
  · simp (disch := omega) only [↓m1_d, ↓m2_d, e_m2, e_m2', e_m12, e_m21, liN, e_le, e_lt, e_eqm, e_eq, e_m1, e_m1', e_m1l, e_m1e, e_m1g, e_m1h, e_add, e_mul, e_sub, e_pred, e_rem, ix_nI, nz_nI, nI_clamp, nm_e1, Nat.add_zero, if_true, if_false, Nat.reduceEqDiff, eq_self, reduceIte]
    rw [if_pos c, if_pos c]; rfl
  · have hq := wq_rng (k := i) (by omega)
    simp (disch := omega) only [↓m1_d, ↓m2_d, e_m2, e_m2', e_m12, e_m21, liN, e_le, e_lt, e_eqm, e_eq, e_m1, e_m1', e_m1l, e_m1e, e_m1g, e_m1h, e_add, e_mul, e_sub, e_pred, e_rem, ix_nI, nz_nI, nI_clamp, nm_e1, Nat.add_zero, if_true, if_false, Nat.reduceEqDiff, eq_self, reduceIte, p4_wq, decide_eq_true_eq]
    rw [if_neg c, if_neg (by omega), if_neg c]
    rfl
end
