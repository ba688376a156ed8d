/-! ===== THE LAW'S act: the operations as calls ===== -/
theorem iz_0 (x y : Int32) : F_X2_isInRange 0 x y = if x < 1 then some false else if 400 < x then some false else some true := rfl
theorem iz_2 (x y : Int32) : F_X2_isInRange 2 x y = if x < 2 then some false else if 120 < x then some false else some true := rfl
theorem iz_3 (x y : Int32) : F_X2_isInRange 3 x y = if x < 2 then some false else if 120 < x then some false else some true := rfl
theorem iz_4 (x y : Int32) : F_X2_isInRange 4 x y = if x < 2 then some false else if 120 < x then some false else some true := rfl
theorem iz_5 (x y : Int32) : F_X2_isInRange 5 x y = if x < 2 then some false else if 120 < x then some false else if y < 2 then some false else if 120 < y then some false else some true := rfl
theorem iz_6 (x y : Int32) : F_X2_isInRange 6 x y = if x < 0 then some false else if 4 < x then some false else some true := rfl
theorem iz_7 (x y : Int32) : F_X2_isInRange 7 x y = if x < 1 then some false else if 30 < x then some false else some true := rfl
theorem iz_go {m lo hi : Nat} (h1 : lo ≤ m) (h2 : m ≤ hi) (hh : hi < 2 ^ 31) {x : Option Bool} : (if nI m < nI lo then some false else if nI hi < nI m then some false else x) = x := by
  rw [if_neg (nI_nlt h1 (by omega)), if_neg (nI_nlt h2 (by omega))]
section
variable {w ns k v c : Nat} {R D : Nat → Nat} {P bf : PlanT} {S : SieveT} {L : Nat} {t : HistT} {top : PlanT → Prop}
/-- a call of an operation: its answer, and what it leaves -/
def OP (F : Option ((Nat ⊕ Int32) × ((Nat → Int32) × PlanT × HistT × PlanT × SieveT))) (r : Int32) (w ns : Nat) (R : Nat → Nat) (k : Nat) (D : Nat → Nat) (v : Nat) (H : HistT → Prop) : Prop :=
  ∃ ac bf t P S v', F = some (.inr r, (ac, bf, t, P, S)) ∧ CY w ns R k D P S ∧ P.2.2.2.2.2.2 = nI v' ∧ v ≤ v' ∧ v' ≤ v + 40 ∧ H t
theorem U_lay (h : CY w ns R k D P S) (hv : P.2.2.2.2.2.2 = nI v) (hv2 : v + 100 < 2 ^ 31) (hH : HI t c top) {m : Nat} (hm1 : 1 ≤ m) (hm : m ≤ 400) (h12 : ns < 12) (ac : Nat → Int32) (bf : PlanT) :
    OP (F_X10_lay (nI m) ac bf t P S) (nI (cn (mk w k D) (2 + sm R ns) m)) w (ns + 1) (up1 R ns m) k D v (fun t => HI t (min (c + 1) 8) (PX w ns R k D)) := by
  obtain ⟨P', S', e1, h1, v1⟩ := G_lay h hv hv2 hm1 hm h12 ac
  have hb := cn_le (mk w k D) m (2 + sm R ns)
  obtain ⟨ac', bf', t', e2, h2⟩ := U_done (q := 0) (r := cn (mk w k D) (2 + sm R ns) m) (P' := P') (S' := S') (x := nI m) (y := 0) (bf := bf) (by decide) (by omega) h.1 h.2.1 hH (by rw [iz_0]; exact iz_go (lo := 1) (hi := 400) hm1 hm (by decide)) (by rw [cy_0, e1]; rfl)
  exact ⟨ac', bf', t', P', S', v + 1, by unfold F_X10_lay; rw [e2]; rfl, h1, v1, by omega, by omega, h2⟩
theorem U_lay12 (h : CY w 12 R k D P S) (hv : P.2.2.2.2.2.2 = nI v) (hH : HI t c top) {m : Nat} (hm1 : 1 ≤ m) (hm : m ≤ 400) (ac : Nat → Int32) (bf : PlanT) :
    OP (F_X10_lay (nI m) ac bf t P S) (-2) w 12 R k D v (fun t => HI t c top) := by
  have e1 := G_lay12 h (nI m) ac
  obtain ⟨ac', bf', e2⟩ := U_refused (q := 0) (r := -2) (P' := P) (S' := S) (x := nI m) (y := 0) (bf := bf) (t := t) (by decide) (by decide) h.1 h.2.1 (by rw [iz_0]; exact iz_go (lo := 1) (hi := 400) hm1 hm (by decide)) (by rw [cy_0, e1]; rfl)
  exact ⟨ac', bf', t, P, S, v, by unfold F_X10_lay; rw [e2]; rfl, h, hv, by omega, by omega, hH⟩
theorem U_drop (h : CY w ns R k D P S) (hv : P.2.2.2.2.2.2 = nI v) (hv2 : v + 100 < 2 ^ 31) (hH : HI t c top) (h0 : 0 < ns) (ac : Nat → Int32) (bf : PlanT) :
    OP (F_X10_drop ac bf t P S) (nI (1 + sm R (ns - 1))) w (ns - 1) R k D v (fun t => HI t (min (c + 1) 8) (PX w ns R k D)) := by
  obtain ⟨P', e1, h1, v1⟩ := G_drop h hv hv2 h0
  have hb := h.1.upto (i := ns - 1) (by omega)
  obtain ⟨ac', bf', t', e2, h2⟩ := U_done (q := 1) (r := 1 + sm R (ns - 1)) (P' := P') (S' := S) (x := 0) (y := 0) (ac := ac) (bf := bf) (by decide) (by omega) h.1 h.2.1 hH (iy_1 0 0) (by rw [cy_1, e1, ← drop_keep e1]; rfl)
  exact ⟨ac', bf', t', P', S, v + 1, by unfold F_X10_drop; rw [e2]; rfl, h1, v1, by omega, by omega, h2⟩
theorem U_add (h : CY w ns R k D P S) (hv : P.2.2.2.2.2.2 = nI v) (hv2 : v + 100 < 2 ^ 31) (hH : HI t c top) {d : Nat} (d2 : 2 ≤ d) (d120 : d ≤ 120) (hp : pl k D d = none) (h30 : k < 30) (ac : Nat → Int32) (bf : PlanT) :
    OP (F_X10_add (nI d) ac bf t P S) (nI (tk w ns R k D d)) w ns R (k + 1) (up1 D k d) v (fun t => HI t (min (c + 1) 8) (PX w ns R k D)) := by
  obtain ⟨P', S', e1, h1, v1⟩ := G_add h hv hv2 d2 d120 hp h30 ac
  have hb : tk w ns R k D d ≤ sm R ns := cn_le _ _ _
  have hb2 := sm5 h.1
  obtain ⟨ac', bf', t', e2, h2⟩ := U_done (q := 2) (r := tk w ns R k D d) (P' := P') (S' := S') (x := nI d) (y := 0) (bf := bf) (by decide) (by omega) h.1 h.2.1 hH (by rw [iz_2]; exact iz_go (lo := 2) (hi := 120) d2 d120 (by decide)) (by rw [cy_2, e1, ← add_keep e1]; rfl)
  exact ⟨ac', bf', t', P', S', v + 1, by unfold F_X10_add; rw [e2]; rfl, h1, v1, by omega, by omega, h2⟩
theorem U_add_is (h : CY w ns R k D P S) (hv : P.2.2.2.2.2.2 = nI v) (hH : HI t c top) {d j : Nat} (d2 : 2 ≤ d) (d120 : d ≤ 120) (hp : pl k D d = some j) (ac : Nat → Int32) (bf : PlanT) :
    OP (F_X10_add (nI d) ac bf t P S) (-2) w ns R k D v (fun t => HI t c top) := by
  have e1 := G_add_is h d120 hp ac
  obtain ⟨ac', bf', e2⟩ := U_refused (q := 2) (r := -2) (P' := P) (S' := S) (x := nI d) (y := 0) (bf := bf) (t := t) (by decide) (by decide) h.1 h.2.1 (by rw [iz_2]; exact iz_go (lo := 2) (hi := 120) d2 d120 (by decide)) (by rw [cy_2, e1]; rfl)
  exact ⟨ac', bf', t, P, S, v, by unfold F_X10_add; rw [e2]; rfl, h, hv, by omega, by omega, hH⟩
theorem U_add_30 (h : CY w ns R 30 D P S) (hv : P.2.2.2.2.2.2 = nI v) (hH : HI t c top) {d : Nat} (d2 : 2 ≤ d) (d120 : d ≤ 120) (hp : pl 30 D d = none) (ac : Nat → Int32) (bf : PlanT) :
    OP (F_X10_add (nI d) ac bf t P S) (-3) w ns R 30 D v (fun t => HI t c top) := by
  have e1 := G_add_30 h d120 hp ac
  obtain ⟨ac', bf', e2⟩ := U_refused (q := 2) (r := -3) (P' := P) (S' := S) (x := nI d) (y := 0) (bf := bf) (t := t) (by decide) (by decide) h.1 h.2.1 (by rw [iz_2]; exact iz_go (lo := 2) (hi := 120) d2 d120 (by decide)) (by rw [cy_2, e1]; rfl)
  exact ⟨ac', bf', t, P, S, v, by unfold F_X10_add; rw [e2]; rfl, h, hv, by omega, by omega, hH⟩
theorem U_lift (h : CY w ns R k D P S) (hv : P.2.2.2.2.2.2 = nI v) (hv2 : v + 100 < 2 ^ 31) (hH : HI t c top) {d i : Nat} (d2 : 2 ≤ d) (d120 : d ≤ 120) (hp : pl k D d = some i) (ac : Nat → Int32) (bf : PlanT) :
    OP (F_X10_lift (nI d) ac bf t P S) (nI (cn (onl w k D i) 2 (sm R ns))) w ns R (k - 1) (fun j => D (rm i j)) v (fun t => HI t (min (c + 1) 8) (PX w ns R k D)) := by
  obtain ⟨P', S', e1, h1, v1⟩ := G_lift h hv hv2 d120 hp
  have hb := cn_le (onl w k D i) (sm R ns) 2
  have hb2 := sm5 h.1
  obtain ⟨ac', bf', t', e2, h2⟩ := U_done (q := 3) (r := cn (onl w k D i) 2 (sm R ns)) (P' := P') (S' := S') (x := nI d) (y := 0) (ac := ac) (bf := bf) (by decide) (by omega) h.1 h.2.1 hH (by rw [iz_3]; exact iz_go (lo := 2) (hi := 120) d2 d120 (by decide)) (by rw [cy_3, e1, ← lift_keep e1]; rfl)
  exact ⟨ac', bf', t', P', S', v + 1, by unfold F_X10_lift; rw [e2]; rfl, h1, v1, by omega, by omega, h2⟩
theorem U_lift_no (h : CY w ns R k D P S) (hv : P.2.2.2.2.2.2 = nI v) (hH : HI t c top) {d : Nat} (d2 : 2 ≤ d) (d120 : d ≤ 120) (hp : pl k D d = none) (ac : Nat → Int32) (bf : PlanT) :
    OP (F_X10_lift (nI d) ac bf t P S) (-2) w ns R k D v (fun t => HI t c top) := by
  have e1 := G_lift_no h d120 hp
  obtain ⟨ac', bf', e2⟩ := U_refused (q := 3) (r := -2) (P' := P) (S' := S) (x := nI d) (y := 0) (ac := ac) (bf := bf) (t := t) (by decide) (by decide) h.1 h.2.1 (by rw [iz_3]; exact iz_go (lo := 2) (hi := 120) d2 d120 (by decide)) (by rw [cy_3, e1]; rfl)
  exact ⟨ac', bf', t, P, S, v, by unfold F_X10_lift; rw [e2]; rfl, h, hv, by omega, by omega, hH⟩
theorem U_first (h : CY w ns R k D P S) (hv : P.2.2.2.2.2.2 = nI v) (hv2 : v + 100 < 2 ^ 31) (hH : HI t c top) {d i : Nat} (d2 : 2 ≤ d) (d120 : d ≤ 120) (hp : pl k D d = some i) (ac : Nat → Int32) (bf : PlanT) :
    OP (F_X10_first (nI d) ac bf t P S) (nI i) w ns R k (fun j => D (mf i j)) v (fun t => HI t (min (c + 1) 8) (PX w ns R k D)) := by
  obtain ⟨P', e1, h1, v1, i30⟩ := G_first h hv hv2 d120 hp
  obtain ⟨ac', bf', t', e2, h2⟩ := U_done (q := 4) (r := i) (P' := P') (S' := S) (x := nI d) (y := 0) (ac := ac) (bf := bf) (by decide) (by omega) h.1 h.2.1 hH (by rw [iz_4]; exact iz_go (lo := 2) (hi := 120) d2 d120 (by decide)) (by rw [cy_4, e1, ← first_keep e1]; rfl)
  exact ⟨ac', bf', t', P', S, v + i, by unfold F_X10_first; rw [e2]; rfl, h1, v1, by omega, by omega, h2⟩
theorem U_first_no (h : CY w ns R k D P S) (hv : P.2.2.2.2.2.2 = nI v) (hH : HI t c top) {d : Nat} (d2 : 2 ≤ d) (d120 : d ≤ 120) (hp : pl k D d = none) (ac : Nat → Int32) (bf : PlanT) :
    OP (F_X10_first (nI d) ac bf t P S) (-2) w ns R k D v (fun t => HI t c top) := by
  have e1 := G_first_no h d120 hp
  obtain ⟨ac', bf', e2⟩ := U_refused (q := 4) (r := -2) (P' := P) (S' := S) (x := nI d) (y := 0) (ac := ac) (bf := bf) (t := t) (by decide) (by decide) h.1 h.2.1 (by rw [iz_4]; exact iz_go (lo := 2) (hi := 120) d2 d120 (by decide)) (by rw [cy_4, e1]; rfl)
  exact ⟨ac', bf', t, P, S, v, by unfold F_X10_first; rw [e2]; rfl, h, hv, by omega, by omega, hH⟩
theorem U_swap (h : CY w ns R k D P S) (hv : P.2.2.2.2.2.2 = nI v) (hv2 : v + 100 < 2 ^ 31) (hH : HI t c top) {a b i j : Nat} (a2 : 2 ≤ a) (a120 : a ≤ 120) (b2 : 2 ≤ b) (b120 : b ≤ 120) (hp : pl k D a = some i) (hp2 : pl k D b = some j) (ac : Nat → Int32) (bf : PlanT) :
    OP (F_X10_swap (nI a) (nI b) ac bf t P S) (nI (cn (chg w k D (fun x => D (sw i j x))) 2 (sm R ns))) w ns R k (fun x => D (sw i j x)) v (fun t => HI t (min (c + 1) 8) (PX w ns R k D)) := by
  obtain ⟨P', S', e1, h1, v1⟩ := G_swap h hv hv2 a120 b120 hp hp2
  have hb := cn_le (chg w k D (fun x => D (sw i j x))) (sm R ns) 2
  have hb2 := sm5 h.1
  obtain ⟨ac', bf', t', e2, h2⟩ := U_done (q := 5) (r := cn (chg w k D (fun x => D (sw i j x))) 2 (sm R ns)) (P' := P') (S' := S') (x := nI a) (y := nI b) (ac := ac) (bf := bf) (by decide) (by omega) h.1 h.2.1 hH (by rw [iz_5]; exact (iz_go (lo := 2) (hi := 120) a2 a120 (by decide)).trans (iz_go (lo := 2) (hi := 120) b2 b120 (by decide))) (by rw [cy_5, e1, ← swap_keep e1]; rfl)
  exact ⟨ac', bf', t', P', S', v + 1, by unfold F_X10_swap; rw [e2]; rfl, h1, v1, by omega, by omega, h2⟩
theorem U_wheel (h : CY w ns R k D P S) (hv : P.2.2.2.2.2.2 = nI v) (hv2 : v + 100 < 2 ^ 31) (hH : HI t c top) {m : Nat} (hm : m ≤ 4) (ac : Nat → Int32) (bf : PlanT) :
    OP (F_X10_wheel (nI m) ac bf t P S) (nI w) m ns R k D v (fun t => HI t (min (c + 1) 8) (PX w ns R k D)) := by
  obtain ⟨P', e1, h1, v1⟩ := G_wheel h hv hv2 hm
  have h4 := h.1.1
  obtain ⟨k1, k2⟩ := wheel_keep e1
  obtain ⟨ac', bf', t', e2, h2⟩ := U_done (q := 6) (r := w) (P' := P') (S' := S) (x := nI m) (y := 0) (ac := ac) (bf := bf) (by decide) (by omega) h.1 h.2.1 hH (by rw [iz_6]; exact iz_go (lo := 0) (hi := 4) (Nat.zero_le _) hm (by decide)) (by rw [cy_6, e1, ← k1, ← k2]; rfl)
  exact ⟨ac', bf', t', P', S, v + 1, by unfold F_X10_wheel; rw [e2]; rfl, h1, v1, by omega, by omega, h2⟩
theorem U_fill (h : CY w ns R k D P S) (hv : P.2.2.2.2.2.2 = nI v) (hv2 : v + 100 < 2 ^ 31) (hH : HI t c top) {m : Nat} (hm1 : 1 ≤ m) (hm : m ≤ 30) (ac : Nat → Int32) (bf : PlanT) :
    ∃ q, q ≤ m ∧ (fl w (1 + sm R ns) m k D).1 = k + q ∧ (fi (mz w k D (1 + sm R ns)) 2 98 = none → q = 0) ∧
      OP (F_X10_fill (nI m) ac bf t P S) (nI q) w ns R (k + q) (fl w (1 + sm R ns) m k D).2 v (fun t => HI t (min (c + 1) 8) (PX w ns R k D)) := by
  obtain ⟨P', q, e1, q1, q2, h1, v1, q30, q0⟩ := G_fill h hv hv2 hm ac
  obtain ⟨ac', bf', t', e2, h2⟩ := U_done (q := 7) (r := q) (P' := P') (S' := S) (x := nI m) (y := 0) (bf := bf) (by decide) (by omega) h.1 h.2.1 hH (by rw [iz_7]; exact iz_go (lo := 1) (hi := 30) hm1 hm (by decide)) (by rw [cy_7, e1, ← fill_rooms e1]; rfl)
  exact ⟨q, q1, q2, q0, ac', bf', t', P', S, v + q, by unfold F_X10_fill; rw [e2]; rfl, h1, v1, by omega, by omega, h2⟩
theorem U_tidy (h : CY w ns R k D P S) (hv : P.2.2.2.2.2.2 = nI v) (hv2 : v + 100 < 2 ^ 31) (hH : HI t c top) (ac : Nat → Int32) (bf : PlanT) :
    ∃ kx σ, LO w k D (1 + sm R ns) kx σ ∧ (∀ p, p < kx → idl w k D (1 + sm R ns) (σ p) = false) ∧ k - kx = cn (idl w k D (1 + sm R ns)) 0 k ∧
      OP (F_X10_tidy ac bf t P S) (nI (k - kx)) w ns R kx (fun j => D (σ j)) v (fun t => HI t (min (c + 1) 8) (PX w ns R k D)) := by
  obtain ⟨kx, σ, P', S', e1, l1, l2, h1, v1, k30, q0⟩ := G_tidy h hv hv2
  obtain ⟨ac', bf', t', e2, h2⟩ := U_done (q := 8) (r := k - kx) (P' := P') (S' := S') (x := 0) (y := 0) (ac := ac) (bf := bf) (by decide) (by omega) h.1 h.2.1 hH (iy_9 0 0) (by rw [cy_9, e1, ← tidy_rooms e1]; rfl)
  exact ⟨kx, σ, l1, l2, q0, ac', bf', t', P', S', v + (k - kx), by unfold F_X10_tidy; rw [e2]; rfl, h1, v1, by omega, by omega, h2⟩
end
/-! ===== THE LAW'S act ===== -/
/-- it answers, and what it answers is so -/
def AT {α : Type} (Q : α → Prop) (X : Option α) : Prop := ∃ r, X = some r ∧ Q r
section
variable {α : Type} {Q : α → Prop}
theorem AT.b {β : Type} {x : Option β} {a : β} {f : β → Option α} (e : x = some a) (h : AT Q (f a)) : AT Q (x.bind f) := by rw [e]; exact h
theorem AT.q {β : Type} {r : β} {g : β → Option α} (h : AT Q (g r)) : AT Q (qs (.inr r) g) := h
theorem AT.t {c : Prop} [Decidable c] {a b : Option α} (hc : c) (h : AT Q a) : AT Q (if c then a else b) := by rw [if_pos hc]; exact h
theorem AT.f {c : Prop} [Decidable c] {a b : Option α} (hc : ¬ c) (h : AT Q b) : AT Q (if c then a else b) := by rw [if_neg hc]; exact h
theorem AT.n {β : Type} {v : β} {g : β → Option α} (h : AT Q (g v)) : AT Q (nm v g) := h
theorem AT.e {r : α} (h : Q r) : AT Q (some r) := ⟨r, rfl, h⟩
end
def mo (x : Int32) (m : Nat) : Nat := x.toBitVec.toNat % 2 ^ 31 % m
theorem mo_lt (x : Int32) {m : Nat} (h : 0 < m) : mo x m < m := Nat.mod_lt _ h
theorem V_most (x : Int32) {m : Nat} (h : 0 < m) (hm : m < 2 ^ 31) : F_L_most x (nI m) = some (nI (mo x m)) := by
  unfold F_L_most
  rw [pk_and x 31 (m := 2147483647) (by decide), nz_nI h hm, pk_rem (Nat.mod_lt _ (by decide)) h hm]
  rfl
section
variable {w ns k v c : Nat} {R D : Nat → Nat} {P bf : PlanT} {S : SieveT} {L : Nat} {t : HistT} {top : PlanT → Prop}
/-- the state behind: as told, and recorded if it says so -/
def FA (v c : Nat) (top : PlanT → Prop) (w ns : Nat) (R : Nat → Nat) (k : Nat) (D : Nat → Nat) (w' ns' : Nat) (R' : Nat → Nat) (k' : Nat) (D' : Nat → Nat) (rec : Bool) (r : Bool × ((Nat → Int32) × PlanT × HistT × PlanT × SieveT)) : Prop :=
  r.1 = true ∧ CY w' ns' R' k' D' r.2.2.2.2.1 r.2.2.2.2.2 ∧ (∃ v', r.2.2.2.2.1.2.2.2.2.2.2 = nI v' ∧ v ≤ v' ∧ v' ≤ v + 40) ∧ match rec with | true => HI r.2.2.2.1 (min (c + 1) 8) (PX w ns R k D) | false => HI r.2.2.2.1 c top
/-- two rows that are one -/
theorem PX.cong {R' D' : Nat → Nat} (h : PX w ns R k D P) (eR : ∀ i, i < ns → R' i = R i) (eD : ∀ i, i < k → D' i = D i) : PX w ns R' k D' P :=
  ⟨h.1, h.2.1, fun i hi => by rw [eR i hi]; exact h.2.2.1 i hi, by rw [sm_cong eR]; exact h.2.2.2.1, h.2.2.2.2.1, fun i hi => by rw [eD i hi]; exact h.2.2.2.2.2 i hi⟩
theorem WF.cong {R' D' : Nat → Nat} (h : WF w ns R k D) (eR : ∀ i, i < ns → R' i = R i) (eD : ∀ i, i < k → D' i = D i) : WF w ns R' k D' :=
  ⟨h.1, h.2.1, fun i hi => by rw [eR i hi]; exact h.2.2.1 i hi, h.2.2.2.1, fun i hi => by rw [eD i hi]; exact h.2.2.2.2.1 i hi, fun i j hi hj e => h.2.2.2.2.2 i j hi hj (by rw [← eD i hi, ← eD j hj]; exact e)⟩
theorem CY.cong {D' : Nat → Nat} (h : CY w ns R k D P S) (eD : ∀ i, i < k → D' i = D i) : CY w ns R k D' P S :=
  ⟨h.1.cong (fun _ _ => rfl) eD, h.2.1.cong (fun _ _ => rfl) eD, h.2.2.cong eD⟩
/-- a plan for any state -/
theorem CY.any (hw : WF w ns R k D) : ∃ P S, CY w ns R k D P S ∧ P.2.2.2.2.2.2 = nI 0 :=
  ⟨(nI w, nI ns, fun i => nI (R i), nI (1 + sm R ns), nI k, fun i => nI (D i), nI 0), (fun _ => 0, fun _ => 0, 0, 0, 0, m1), ⟨hw, ⟨rfl, rfl, fun _ _ => rfl, rfl, rfl, fun _ _ => rfl⟩, ⟨Or.inl rfl, fun e => absurd (show m1 = nI 0 from e) (by decide)⟩⟩, rfl⟩
end
