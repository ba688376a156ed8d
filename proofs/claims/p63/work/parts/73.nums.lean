/-! ===== THE LAW'S areNumbers ===== -/
theorem qs_r {α β : Type} {r : α} {g : α → Option β} : qs (.inr r) g = g r := rfl
section
variable {w ns k : Nat} {R D : Nat → Nat} {P : PlanT} {S : SieveT} {L : Nat}
/-- it answers true, and the state is as told -/
def OKS (w ns : Nat) (R : Nat → Nat) (k : Nat) (D : Nat → Nat) (P : PlanT) (X : Option (Bool × SieveT)) : Prop := ∃ S', X = some (true, S') ∧ CY w ns R k D P S'
theorem OKS.b {α : Type} {x : Option α} {a : α} {f : α → Option (Bool × SieveT)} (e : x = some a) (h : OKS w ns R k D P (f a)) : OKS w ns R k D P (x.bind f) := by rw [e]; exact h
theorem OKS.q {r : Int32} {g : Int32 → Option (Bool × SieveT)} (h : OKS w ns R k D P (g r)) : OKS w ns R k D P (qs (.inr r) g) := h
theorem OKS.t {c : Prop} [Decidable c] {a b : Option (Bool × SieveT)} (hc : c) (h : OKS w ns R k D P a) : OKS w ns R k D P (if c then a else b) := by rw [if_pos hc]; exact h
theorem OKS.f {c : Prop} [Decidable c] {a b : Option (Bool × SieveT)} (hc : ¬ c) (h : OKS w ns R k D P b) : OKS w ns R k D P (if c then a else b) := by rw [if_neg hc]; exact h
theorem OKS.n {α : Type} {v : α} {g : α → Option (Bool × SieveT)} (h : OKS w ns R k D P (g v)) : OKS w ns R k D P (nm v g) := h
theorem OKS.z {d : Int32} {x : Option (Bool × SieveT)} (hd : ¬ d = 0) (h : OKS w ns R k D P x) : OKS w ns R k D P (nz d x) := by
  unfold nz
  rw [if_neg hd]
  exact h
theorem OKS.e (h : CY w ns R k D P S) : OKS w ns R k D P (some (true, S)) := ⟨S, rfl, h⟩
theorem sm5 (h : WF w ns R k D) : sm R ns ≤ 4800 := h.upto (Nat.le_refl _)
theorem V_isPrime {n : Nat} (h1 : 1 ≤ n) (hn : n ≤ 4801) : F_L_isPrime (nI n) = some (ip n) := by
  obtain ⟨T, T2, T70, hT, hi⟩ := sq_top n h1 hn
  rw [ip_T T2 T70 hT hi]
  have key := lp_fi (p := fun t => decide (n % t = 0)) (β := Bool) (bot := fun _ => none) (B := B_L_isPrime_2 (nI n)) (fun o => decide (2 ≤ n) && o.isNone) 2 T (by omega) T2 (fun K i h1 h3 => by
    have hii : i * i ≤ 70 * 70 := Nat.mul_le_mul (by omega) (by omega)
    unfold B_L_isPrime_2
    by_cases c : T ≤ i
    · have e : i = T := by omega
      simp (disch := omega) only [↓m1_d, ↓m2_d, e_m2, e_m2', e_m12, e_m21, liN, e_le, e_lt, e_eqm, e_eq, e_m1, e_m1', e_m1l, e_m1e, e_m1g, e_m1h, e_add, e_mul, e_sub, e_pred, e_rem, ix_nI, nz_nI, nI_clamp, nm_e1, Nat.add_zero, if_true, if_false, Nat.reduceEqDiff, eq_self, reduceIte]
      rw [if_pos (by rw [e]; exact hT), if_pos c]
      by_cases d : n ≤ 1
      · rw [if_pos d, decide_eq_false (by omega)]; rfl
      · rw [if_neg d, decide_eq_true (by omega)]; rfl
    · have := hi i (by omega)
      simp (disch := omega) only [↓m1_d, ↓m2_d, e_m2, e_m2', e_m12, e_m21, liN, e_le, e_lt, e_eqm, e_eq, e_m1, e_m1', e_m1l, e_m1e, e_m1g, e_m1h, e_add, e_mul, e_sub, e_pred, e_rem, ix_nI, nz_nI, nI_clamp, nm_e1, Nat.add_zero, if_true, if_false, Nat.reduceEqDiff, eq_self, reduceIte, decide_eq_true_eq]
      rw [if_neg (by omega), if_neg c]
      show _ = if n % i = 0 then some (decide (2 ≤ n) && false) else _
      rw [Bool.and_false])
  exact key
/-- is none missing, as an int -/
def whol (w k : Nat) (D : Nat → Nat) (L : Nat) : Int32 := if (fi (mz w k D L) 2 98).isNone = true then 1 else 0
theorem W_395 (h : CY w ns R k D P S) (y : Int32) : OKS w ns R k D P (J_L_areNumbers_395 P (whol w k D (1 + sm R ns)) y y S) := by
  unfold J_L_areNumbers_395
  refine OKS.t rfl ?_
  obtain ⟨S1, e1, h1⟩ := V_gap h
  rw [gap_0 h.1] at e1
  refine OKS.b e1 (OKS.t rfl ?_)
  obtain ⟨S2, e2, h2⟩ := V_size h1 (n := 8) (by omega)
  refine OKS.b e2 (OKS.q ?_)
  have ez : zs w ns R k D 8 = cn (mz w k D (1 + sm R ns)) 2 98 := rfl
  have hle := cn_le (mz w k D (1 + sm R ns)) 98 2
  rw [ez]
  by_cases c : cn (mz w k D (1 + sm R ns)) 2 98 = 0
  · refine OKS.t (by rw [c]; rfl) ?_
    have c2 := c
    rw [cn_0] at c2
    refine OKS.t (by unfold whol; rw [if_pos c2]) ?_
    exact OKS.e h2
  · refine OKS.f (nI_ne0 (by omega) (by omega)) ?_
    have c2 := c
    rw [cn_0] at c2
    refine OKS.t (by unfold whol; rw [if_neg c2]) ?_
    exact OKS.e h2
theorem W_383 (h : CY w ns R k D P S) : OKS w ns R k D P (J_L_areNumbers_383 P (whol w k D (1 + sm R ns)) (if cn (wg w k D) 2 (sm R ns) = 0 then 0 else 1) S) := by
  unfold J_L_areNumbers_383
  obtain ⟨S1, e1, h1⟩ := V_firstWrong h
  refine OKS.b e1 ?_
  have hL := sm5 h.1
  cases hf : fi (wg w k D) 2 (sm R ns) with
  | none =>
    rw [show (if cn (wg w k D) 2 (sm R ns) = 0 then (0 : Int32) else 1) = 0 from if_pos (by rw [cn_0, hf]; rfl)]
    exact OKS.t (show m1 ≤ 0 by decide) (W_395 h1 0)
  | some v =>
    obtain ⟨v1, v2, -⟩ := fi_some hf
    rw [show (if cn (wg w k D) 2 (sm R ns) = 0 then (0 : Int32) else 1) = 1 from if_neg (by rw [cn_0, hf]; exact Bool.false_ne_true)]
    exact OKS.f (show ¬ nI v ≤ 0 from nI_nle (by omega) (by omega)) (W_395 h1 1)
theorem W_311 (hk : k ≤ 30) : ∀ m i, k - i = m → i ≤ k → ∀ f, m < f → ∀ S, CY w ns R k D P S →
    OKS w ns R k D P (fx (fun _ _ _ _ _ _ _ _ => none) (B_L_areNumbers_311 P) f (nI (cn (mk w k D) 2 (sm R ns))) (nI (cn (fun n => !off w n) 2 (sm R ns))) (nI (cn (ow2 w k D) 2 (sm R ns))) (nI (cn (wg w k D) 2 (sm R ns))) (whol w k D (1 + sm R ns)) (nI (sm (fun i => cn (own w k D i) 2 (sm R ns)) i)) (nI i) S) := by
  intro m
  induction m with
  | zero =>
    intro i hm hi f hf S h
    obtain ⟨f, rfl⟩ : ∃ q, f = q + 1 := ⟨f - 1, by omega⟩
    have ei : i = k := by omega
    subst ei
    have hL := sm5 h.1
    rw [fx_s]
    unfold B_L_areNumbers_311
    obtain ⟨S1, e1, h1⟩ := V_size h (n := 3) (by omega)
    refine OKS.b e1 (OKS.q (OKS.t (show nI i ≤ nI i from nI_le (Nat.le_refl _) (by omega)) ?_))
    obtain ⟨S2, e2, h2⟩ := V_size h1 (n := 4) (by omega)
    refine OKS.b e2 (OKS.q (OKS.t rfl ?_))
    obtain ⟨S3, e3, h3⟩ := V_size h2 (n := 5) (by omega)
    refine OKS.b e3 (OKS.q (OKS.t rfl (OKS.t (by rw [sm_owned]) ?_)))
    obtain ⟨S4, e4, h4⟩ := V_wrong h3
    refine OKS.b e4 (OKS.t rfl ?_)
    have hle := cn_le (wg w i D) (sm R ns) 2
    have := W_383 h4
    by_cases c : cn (wg w i D) 2 (sm R ns) = 0
    · rw [if_pos c] at this
      exact OKS.t (by rw [c]; decide) this
    · rw [if_neg c] at this
      exact OKS.f (nI_nle (by omega) (by omega)) this
  | succ m ih =>
    intro i hm hi f hf S h
    obtain ⟨f, rfl⟩ : ∃ q, f = q + 1 := ⟨f - 1, by omega⟩
    rw [fx_s]
    generalize hK : fx (fun _ _ _ _ _ _ _ _ => none) (B_L_areNumbers_311 P) f = K
    unfold B_L_areNumbers_311
    obtain ⟨S1, e1, h1⟩ := V_size h (n := 3) (by omega)
    refine OKS.b e1 (OKS.q (OKS.f (show ¬ nI k ≤ nI i from nI_ge (by omega) (by omega)) ?_))
    obtain ⟨S2, e2, h2⟩ := (V_striker h1 (i := i) (by omega)).2
    refine OKS.b e2 (OKS.q (OKS.n (OKS.n ?_)))
    have := ih (i + 1) (by omega) (by omega) f (by omega) S2 h2
    rw [hK, show nI (sm (fun i => cn (own w k D i) 2 (sm R ns)) (i + 1)) = nI (sm (fun i => cn (own w k D i) 2 (sm R ns)) i) + nI (cn (own w k D i) 2 (sm R ns)) from (e_add _ _).symm, show nI (i + 1) = nI i + 1 from (e_add i 1).symm] at this
    exact this
/-! one number -/
theorem za_1 {n : Nat} (h : off w n = true) : za w k D n = 1 := by unfold za; rw [if_pos h]
theorem za_0 {n : Nat} (h : off w n = false) (hf : fh k D n = none) : za w k D n = 0 := by unfold za; rw [if_neg (by rw [h]; decide), hf]; rfl
theorem za_2 {n j : Nat} (h : off w n = false) (hf : fh k D n = some j) : za w k D n = 2 := by unfold za; rw [if_neg (by rw [h]; decide), hf]; rfl
theorem W_mark {n : Nat} (h2 : 2 ≤ n) (hn : n ≤ 1 + sm R ns) (hm : mk w k D n = true) : oI (nt (mk w k D) (cn (mk w k D) 2 (n - 1) - 1) 2 (sm R ns)) = nI n := by
  have e : cn (mk w k D) 2 (n - 1) = cn (mk w k D) 2 (n - 2) + 1 := by
    rw [show n - 1 = (n - 2) + 1 by omega, cn_snoc, show 2 + (n - 2) = n by omega, if_pos hm]
  have : nt (mk w k D) (cn (mk w k D) 2 (n - 1) - 1) 2 (sm R ns) = some n := by
    unfold nt
    refine fi_eq h2 (by omega) (decide_eq_true ?_) (fun i i1 i2 => decide_eq_false ?_)
    · rw [show n + 1 - 2 = n - 1 by omega, e]
      omega
    · have := cn_mono (p := mk w k D) (a := 2) (m := i + 1 - 2) (m' := n - 2) (by omega)
      omega
  rw [this]
  rfl
/-- the owner's row: none ahead of it strikes -/
theorem W_247 {n j : Nat} (hn : n ≤ 4801) (hj : j < k) (hf : fh k D n = some j) {K : Int32 → Int32 → Int32 → Int32 → Int32 → Int32 → Int32 → SieveT → Option (Bool × SieveT)} {x1 x2 x3 x4 x5 x6 : Int32}
    (hK : ∀ S, CY w ns R k D P S → OKS w ns R k D P (K x1 x2 x3 x4 x5 x6 (nI (n + 1)) S)) :
    ∀ m i, j - i = m → i ≤ j → ∀ f, m < f → ∀ S, CY w ns R k D P S →
      OKS w ns R k D P (fx (fun _ _ _ _ _ _ _ _ _ _ => none) (B_L_areNumbers_247 P K) f x1 x2 x3 x4 x5 x6 (nI n) (nI (D j)) (nI i) S) := by
  intro m
  induction m with
  | zero =>
    intro i hm hi f hf0 S h
    obtain ⟨f, rfl⟩ : ∃ q, f = q + 1 := ⟨f - 1, by omega⟩
    have h30 := h.1.2.2.2.1
    have hd := h.1.2.2.2.2.1 j hj
    rw [fx_s]
    unfold B_L_areNumbers_247 J_L_areNumbers_299
    refine OKS.b (V_find h (by omega)) ?_
    rw [pl_at h.1 hj]
    refine OKS.t (show nI j ≤ nI i from nI_le (by omega) (by omega)) (OKS.n ?_)
    rw [show nI n + 1 = nI (n + 1) from e_add n 1]
    exact hK S h
  | succ m ih =>
    intro i hm hi f hf0 S h
    obtain ⟨f, rfl⟩ : ∃ q, f = q + 1 := ⟨f - 1, by omega⟩
    have h30 := h.1.2.2.2.1
    have hd := h.1.2.2.2.2.1 j hj
    have hdi := h.1.2.2.2.2.1 i (by omega)
    have hdd : D i * D i ≤ 120 * 120 := Nat.mul_le_mul hdi.2 hdi.2
    rw [fx_s]
    generalize hK0 : fx (fun _ _ _ _ _ _ _ _ _ _ => none) (B_L_areNumbers_247 P K) f = K0
    have go : ∀ S, CY w ns R k D P S → OKS w ns R k D P (J_L_areNumbers_293 P K K0 x1 x2 x3 x4 x5 x6 (nI n) (nI (D j)) (nI i) S) := fun S h => by
      unfold J_L_areNumbers_293
      refine OKS.n ?_
      rw [show nI i + 1 = nI (i + 1) from e_add i 1, ← hK0]
      exact ih (i + 1) (by omega) (by omega) f (by omega) S h
    unfold B_L_areNumbers_247
    refine OKS.b (V_find h (by omega)) ?_
    rw [pl_at h.1 hj]
    refine OKS.f (show ¬ nI j ≤ nI i from nI_ge (by omega) (by omega)) ?_
    have e1 := (V_striker h (i := i) (by omega)).1
    refine OKS.b e1 (OKS.q (OKS.z (nI_ne0 (by omega) (by omega)) ?_))
    rw [show nI n - nI n / nI (D i) * nI (D i) = nI (n % D i) from e_rem (by omega) ⟨by omega, by omega⟩]
    obtain ⟨-, -, -, hb⟩ := fi_some hf
    have hb := hb i (Nat.zero_le _) (by omega)
    by_cases c : n % D i = 0
    · refine OKS.t (by rw [c]; rfl) (OKS.b e1 (OKS.q (OKS.b e1 (OKS.q ?_))))
      rw [show nI (D i) * nI (D i) = nI (D i * D i) from e_mul _ _]
      refine OKS.t (nI_lt ?_ (by omega)) (go S h)
      refine Nat.lt_of_not_le fun z => ?_
      have : hit n (D i) = true := hit_iff.mpr ⟨z, c⟩
      rw [show hit n (D i) = false from hb] at this
      cases this
    · have hlt := Nat.mod_lt n (y := D i) (by omega)
      exact OKS.f (nI_ne0 (by omega) (by omega)) (go S h)
/-- the counts up to n -/
theorem W_33 : ∀ m n, 2 + sm R ns - n = m → 2 ≤ n → n ≤ 2 + sm R ns → ∀ f, m < f → ∀ S, CY w ns R k D P S →
    OKS w ns R k D P (fx (fun _ _ _ _ _ _ _ _ => none) (B_L_areNumbers_33 P) f (nI (1 + sm R ns)) (nI (cn (mk w k D) 2 (n - 2))) (nI (cn (fun n => !off w n) 2 (n - 2))) (nI (cn (ow2 w k D) 2 (n - 2))) (nI (cn (wg w k D) 2 (n - 2))) (whol w k D (1 + sm R ns)) (nI n) S) := by
  intro m
  induction m with
  | zero =>
    intro n hm h2 hn f hf S h
    obtain ⟨f, rfl⟩ : ∃ q, f = q + 1 := ⟨f - 1, by omega⟩
    have hL := sm5 h.1
    have h30 := h.1.2.2.2.1
    rw [fx_s]
    unfold B_L_areNumbers_33
    refine OKS.t (nI_lt (by omega) (by omega)) ?_
    rw [show n - 2 = sm R ns by omega]
    exact W_311 h30 k 0 (by omega) (by omega) FUEL (by unfold FUEL; omega) S h
  | succ m ih =>
    intro n hm h2 hn f hf S h
    obtain ⟨f, rfl⟩ : ∃ q, f = q + 1 := ⟨f - 1, by omega⟩
    have hL := sm5 h.1
    have h30 := h.1.2.2.2.1
    rw [fx_s]
    generalize hK : fx (fun _ _ _ _ _ _ _ _ => none) (B_L_areNumbers_33 P) f = K
    have go : ∀ S, CY w ns R k D P S → OKS w ns R k D P (K (nI (1 + sm R ns)) (nI (cn (mk w k D) 2 (n - 1))) (nI (cn (fun n => !off w n) 2 (n - 1))) (nI (cn (ow2 w k D) 2 (n - 1))) (nI (cn (wg w k D) 2 (n - 1))) (whol w k D (1 + sm R ns)) (nI (n + 1)) S) := fun S h => by
      have := ih (n + 1) (by omega) (by omega) (by omega) f (by omega) S h
      rw [hK, show n + 1 - 2 = n - 1 by omega] at this
      exact this
    have sn : ∀ p : Nat → Bool, cn p 2 (n - 1) = cn p 2 (n - 2) + (if p n = true then 1 else 0) := fun p => by
      rw [show n - 1 = (n - 2) + 1 by omega, cn_snoc, show 2 + (n - 2) = n by omega]
    have en : nI n + 1 = nI (n + 1) := e_add n 1
    unfold B_L_areNumbers_33
    refine OKS.f (show ¬ nI (1 + sm R ns) < nI n from nI_nlt (by omega) (by omega)) ?_
    obtain ⟨S1, e1, h1⟩ := V_at h (n := n) h2 (by omega)
    refine OKS.b e1 ?_
    cases ho : off w n with
    | true =>
      rw [za_1 ho]
      have hip : ip n = false := by
        rw [Bool.eq_false_iff]
        intro e
        have := (mk_iff.mp (ip_mark h.1 (by omega : n ≤ 4801) e)).1
        rw [ho] at this
        cases this
      have m1 : mk w k D n = false := by unfold mk; rw [ho]; rfl
      refine OKS.f (show ¬ (2 : Int32) < nI 1 by decide) (OKS.b (V_isPrime (by omega) (by omega)) ?_)
      rw [hip]
      refine OKS.f Bool.false_ne_true ?_
      have := go S1 h1
      rw [sn, sn, sn, sn, m1, show (!off w n) = false by rw [ho]; rfl, show ow2 w k D n = false by unfold ow2; rw [ho]; rfl, show wg w k D n = false by unfold wg; rw [m1]; rfl] at this
      unfold J_L_areNumbers_68
      refine OKS.f (show ¬ nI 1 = 0 by decide) ?_
      unfold J_L_areNumbers_79
      refine OKS.n (OKS.t (show nI 1 = 1 from rfl) ?_)
      unfold J_L_areNumbers_93
      refine OKS.n (OKS.f (show ¬ nI 1 = 2 by decide) ?_)
      unfold J_L_areNumbers_108
      refine OKS.n (OKS.f (show ¬ nI 1 = 0 by decide) ?_)
      unfold J_L_areNumbers_130 J_L_areNumbers_131
      refine OKS.n (OKS.f (show ¬ nI 1 = 0 by decide) ?_)
      unfold J_L_areNumbers_154
      refine OKS.f (show ¬ nI 1 = 0 by decide) ?_
      unfold J_L_areNumbers_191
      refine OKS.f (show ¬ nI 1 = 2 by decide) ?_
      unfold J_L_areNumbers_299
      refine OKS.n ?_
      rw [en, show nI (cn (mk w k D) 2 (n - 2)) + 0 = nI (cn (mk w k D) 2 (n - 2) + 0) from e_add _ 0, show nI (cn (fun n => !off w n) 2 (n - 2)) + 0 = nI (cn (fun n => !off w n) 2 (n - 2) + 0) from e_add _ 0, show nI (cn (ow2 w k D) 2 (n - 2)) + 0 = nI (cn (ow2 w k D) 2 (n - 2) + 0) from e_add _ 0, show nI (cn (wg w k D) 2 (n - 2)) + 0 = nI (cn (wg w k D) 2 (n - 2) + 0) from e_add _ 0]
      exact this
    | false =>
      cases hf : fh k D n with
      | none =>
        rw [za_0 ho hf]
        have m1 : mk w k D n = true := mk_iff.mpr ⟨ho, hf⟩
        have go2 := go
        rw [sn, sn, sn, sn, m1, show (!off w n) = true by rw [ho]; rfl, show ow2 w k D n = false by unfold ow2; rw [ho, hf]; rfl] at go2
        -- a mark at its place
        have mark2 : ∀ x5 : Int32, (∀ S, CY w ns R k D P S → OKS w ns R k D P (K (nI (1 + sm R ns)) (nI (cn (mk w k D) 2 (n - 2) + 1)) (nI (cn (fun n => !off w n) 2 (n - 2) + 1)) (nI (cn (ow2 w k D) 2 (n - 2) + 0)) x5 (whol w k D (1 + sm R ns)) (nI (n + 1)) S)) →
            ∀ S, CY w ns R k D P S → OKS w ns R k D P (J_L_areNumbers_154 P K (nI (1 + sm R ns)) (nI (cn (mk w k D) 2 (n - 2) + 1)) (nI (cn (fun n => !off w n) 2 (n - 2) + 1)) (nI (cn (ow2 w k D) 2 (n - 2) + 0)) x5 (whol w k D (1 + sm R ns)) (nI n) (nI 0) S) := by
          intro x5 hK5 S h
          have tail : ∀ S, CY w ns R k D P S → OKS w ns R k D P (J_L_areNumbers_191 P K (nI (1 + sm R ns)) (nI (cn (mk w k D) 2 (n - 2) + 1)) (nI (cn (fun n => !off w n) 2 (n - 2) + 1)) (nI (cn (ow2 w k D) 2 (n - 2) + 0)) x5 (whol w k D (1 + sm R ns)) (nI n) (nI 0) S) := fun S h => by
            unfold J_L_areNumbers_191
            refine OKS.f (show ¬ nI 0 = 2 by decide) ?_
            unfold J_L_areNumbers_299
            refine OKS.n ?_
            rw [en]
            exact hK5 S h
          have hcl := cn_le (mk w k D) (n - 2) 2
          unfold J_L_areNumbers_154
          refine OKS.t (show nI 0 = 0 from rfl) ?_
          rw [show nI n - nI n / 5 * 5 = nI (n % 5) from e_rem (d := 5) (by omega) ⟨by decide, by decide⟩]
          by_cases c : n % 5 = 1
          · refine OKS.t (by rw [c]; rfl) ?_
            rw [show nI (cn (mk w k D) 2 (n - 2) + 1) - 1 = nI (cn (mk w k D) 2 (n - 2) + 1 - 1) from e_sub (b := 1) (by omega)]
            obtain ⟨S2, e2, h2'⟩ := V_mark h (c := cn (mk w k D) 2 (n - 2) + 1 - 1) (by omega)
            have em := W_mark (w := w) (k := k) (D := D) (R := R) (ns := ns) h2 (by omega) m1
            rw [sn, if_pos m1] at em
            rw [em] at e2
            refine OKS.b e2 (OKS.t rfl ?_)
            obtain ⟨S3, e3, h3⟩ := V_upTo h2' (n := n) (by omega) (by omega)
            rw [sn, if_pos m1] at e3
            refine OKS.b e3 (OKS.t rfl ?_)
            exact tail S3 h3
          · have := Nat.mod_lt n (y := 5) (by decide)
            refine OKS.f ?_ (tail S h)
            intro e
            rw [show (1 : Int32) = nI 1 from rfl, e_eq (by omega) (by decide)] at e
            exact c e
        refine OKS.f (show ¬ (2 : Int32) < nI 0 by decide) (OKS.b (V_isPrime (by omega) (by omega)) ?_)
        -- the counts
        have cnt : OKS w ns R k D P (J_L_areNumbers_68 P K (nI (1 + sm R ns)) (nI (cn (mk w k D) 2 (n - 2))) (nI (cn (fun n => !off w n) 2 (n - 2))) (nI (cn (ow2 w k D) 2 (n - 2))) (nI (cn (wg w k D) 2 (n - 2))) (whol w k D (1 + sm R ns)) (nI n) (nI 0) S1) := by
          unfold J_L_areNumbers_68
          refine OKS.t (show nI 0 = 0 from rfl) ?_
          unfold J_L_areNumbers_79
          refine OKS.n (OKS.f (show ¬ nI 0 = 1 by decide) ?_)
          unfold J_L_areNumbers_93
          refine OKS.n (OKS.f (show ¬ nI 0 = 2 by decide) ?_)
          unfold J_L_areNumbers_108
          refine OKS.n (OKS.t (show nI 0 = 0 from rfl) (OKS.b (V_isPrime (by omega) (by omega)) ?_))
          rw [show nI (cn (mk w k D) 2 (n - 2)) + 1 = nI (cn (mk w k D) 2 (n - 2) + 1) from e_add _ 1, show nI (cn (fun n => !off w n) 2 (n - 2)) + 1 = nI (cn (fun n => !off w n) 2 (n - 2) + 1) from e_add _ 1, show nI (cn (ow2 w k D) 2 (n - 2)) + 0 = nI (cn (ow2 w k D) 2 (n - 2) + 0) from e_add _ 0]
          cases hi : ip n with
          | true =>
            refine OKS.t rfl ?_
            unfold J_L_areNumbers_130 J_L_areNumbers_131
            refine OKS.n (OKS.t (show nI 0 = 0 from rfl) ?_)
            have e0 : nI (cn (wg w k D) 2 (n - 2)) + 0 = nI (cn (wg w k D) 2 (n - 2) + 0) := e_add _ 0
            rw [e0]
            have gw : wg w k D n = false := by unfold wg; rw [m1, hi]; rfl
            rw [gw] at go2
            by_cases c : whol w k D (1 + sm R ns) = 0
            · exact OKS.t c (mark2 _ go2 S1 h1)
            · refine OKS.f c (OKS.b (V_isPrime (by omega) (by omega)) ?_)
              rw [hi]
              exact OKS.t rfl (mark2 _ go2 S1 h1)
          | false =>
            refine OKS.f Bool.false_ne_true ?_
            unfold J_L_areNumbers_131
            refine OKS.n (OKS.t (show nI 0 = 0 from rfl) ?_)
            have e0 : nI (cn (wg w k D) 2 (n - 2)) + 1 = nI (cn (wg w k D) 2 (n - 2) + 1) := e_add _ 1
            rw [e0]
            have gw : wg w k D n = true := by unfold wg; rw [m1, hi]; rfl
            rw [gw] at go2
            have c : whol w k D (1 + sm R ns) = 0 := by
              unfold whol
              rw [if_neg]
              intro z
              have := mark_ip h.1 (Option.isNone_iff_eq_none.mp z) h2 (by omega) m1
              rw [hi] at this
              cases this
            exact OKS.t c (mark2 _ go2 S1 h1)
        cases hi : ip n with
        | true => exact OKS.t rfl (OKS.t (show nI 0 = 0 from rfl) cnt)
        | false => exact OKS.f Bool.false_ne_true cnt
      | some j =>
        obtain ⟨-, hj, hh, -⟩ := fi_some hf
        obtain ⟨g1, g2⟩ := hit_iff.mp hh
        have hj : j < k := by omega
        have hd := h.1.2.2.2.2.1 j hj
        rw [za_2 ho hf]
        have m1 : mk w k D n = false := by unfold mk; rw [ho, hf]; rfl
        have hip : ip n = false := by
          rw [Bool.eq_false_iff]
          intro e
          have := ip_mark (w := w) (k := k) (D := D) h.1 (by omega : n ≤ 4801) e
          rw [m1] at this
          cases this
        have go2 := go
        rw [sn, sn, sn, sn, m1, show (!off w n) = true by rw [ho]; rfl, show ow2 w k D n = true by unfold ow2; rw [ho, hf]; rfl, show wg w k D n = false by unfold wg; rw [m1]; rfl] at go2
        refine OKS.f (show ¬ (2 : Int32) < nI 2 by decide) (OKS.b (V_isPrime (by omega) (by omega)) ?_)
        rw [hip]
        refine OKS.f Bool.false_ne_true ?_
        unfold J_L_areNumbers_68
        refine OKS.f (show ¬ nI 2 = 0 by decide) ?_
        unfold J_L_areNumbers_79
        refine OKS.n (OKS.f (show ¬ nI 2 = 1 by decide) ?_)
        unfold J_L_areNumbers_93
        refine OKS.n (OKS.t (show nI 2 = 2 from rfl) ?_)
        unfold J_L_areNumbers_108
        refine OKS.n (OKS.f (show ¬ nI 2 = 0 by decide) ?_)
        unfold J_L_areNumbers_130 J_L_areNumbers_131
        refine OKS.n (OKS.f (show ¬ nI 2 = 0 by decide) ?_)
        unfold J_L_areNumbers_154
        refine OKS.f (show ¬ nI 2 = 0 by decide) ?_
        unfold J_L_areNumbers_191
        refine OKS.t (show nI 2 = 2 from rfl) ?_
        rw [show nI (cn (mk w k D) 2 (n - 2)) + 0 = nI (cn (mk w k D) 2 (n - 2) + 0) from e_add _ 0, show nI (cn (fun n => !off w n) 2 (n - 2)) + 1 = nI (cn (fun n => !off w n) 2 (n - 2) + 1) from e_add _ 1, show nI (cn (ow2 w k D) 2 (n - 2)) + 1 = nI (cn (ow2 w k D) 2 (n - 2) + 1) from e_add _ 1, show nI (cn (wg w k D) 2 (n - 2)) + 0 = nI (cn (wg w k D) 2 (n - 2) + 0) from e_add _ 0]
        obtain ⟨S2, e2, h2'⟩ := V_cause h1 (n := n) h2 (by omega) ho hf
        refine OKS.b e2 (OKS.z (nI_ne0 (by omega) (by omega)) ?_)
        rw [show nI n - nI n / nI (D j) * nI (D j) = nI (n % D j) from e_rem (by omega) ⟨by omega, by omega⟩, show nI (D j) * nI (D j) = nI (D j * D j) from e_mul _ _]
        refine OKS.t (by rw [g2]; rfl) (OKS.f (nI_nlt g1 (by omega)) (OKS.b (V_find h2' (by omega)) ?_))
        rw [pl_at h.1 hj]
        refine OKS.f (show ¬ nI j < 0 from nI_pos (by omega)) ?_
        obtain ⟨S3, e3, h3⟩ := V_struck h2' (n := n) h2 (by omega) ho hf
        have hp := ht_pos (w := w) ho hf
        have hle := ht_le (L := n) h.1
        refine OKS.b e3 (OKS.q (OKS.t (show nI 1 ≤ nI (ht w k D n) from nI_le (by omega) (by omega)) ?_))
        exact W_247 (by omega) hj hf go2 j 0 (by omega) (Nat.zero_le _) FUEL (by unfold FUEL; omega) S3 h3
theorem W_areNumbers (h : CY w ns R k D P S) : OKS w ns R k D P (F_L_areNumbers P S) := by
  unfold F_L_areNumbers
  have hL := sm5 h.1
  obtain ⟨S1, e1, h1⟩ := V_size h (n := 2) (by omega)
  refine OKS.b e1 (OKS.q (OKS.b (V_missing h1) ?_))
  have key := W_33 (w := w) (k := k) (D := D) (P := P) (R := R) (ns := ns) (sm R ns) 2 (by omega) (Nat.le_refl _) (by omega) FUEL (by unfold FUEL; omega) S1 h1
  unfold J_L_areNumbers_28
  unfold whol at key
  cases hf : fi (mz w k D (1 + sm R ns)) 2 98 with
  | none =>
    rw [hf] at key
    exact OKS.f (by decide) key
  | some v =>
    obtain ⟨v1, v2, -⟩ := fi_some hf
    rw [hf] at key
    exact OKS.t (show 0 ≤ nI v from nI_le (a := 0) (Nat.zero_le _) (by omega)) key
end
