def sw_p4 (j : Nat) : Int32 := ([2, 3, 5, 7] : List Int32).getD j 0
def sw_p5 (j : Nat) : Int32 := ([1, 2, 6, 30, 210] : List Int32).getD j 0
def sw_sm (j : Nat) : Int32 := ([1, 2, 5, 6, 7, 4, 8, 9, 3, 0] : List Int32).getD j 0
def sw_len : List Nat := [5, 7, 7, 6, 8, 8]
def sw_byt : List (List Int32) := [[115, 105, 101, 118, 101], [115, 116, 114, 101, 116, 99, 104], [115, 116, 114, 105, 107, 101, 114], [115, 105, 101, 118, 101, 32], [115, 116, 114, 101, 116, 99, 104, 32], [115, 116, 114, 105, 107, 101, 114, 32]]
def sw_dt (j : Nat) : Int32 := Int32.ofNat (48 + j / 10)
def sw_do (j : Nat) : Int32 := Int32.ofNat (48 + j % 10)
def kl {α : Type} (k n : Nat) (x : Option α) : Option α := if k < n then x else none
def sw_sl (k : Nat) : Int32 := Int32.ofNat (sw_len.getD k 0)
def sw_ch (k j : Nat) : Int32 := (((sw_byt.getD k []).getD j 0 &&& 255).toUInt32 % 65536).toInt32
def sw_on (k : Nat) : Int32 := ([1, 0, 1, 1, 1, 2, 1, 1, 0] : List Int32).getD k 0
def sw_ol (k : Nat) : Int32 := ([1, 0, 2, 2, 2, 2, 0, 1, 0] : List Int32).getD k 0
def sw_om (k : Nat) : Int32 := ([400, 0, 120, 120, 120, 120, 4, 30, 0] : List Int32).getD k 0
def sw_oo (k : Nat) : Int32 := ([0, 1, 2, 3, 4, 5, 6, 7, 9] : List Int32).getD k 0
def oe {α β : Type} (r : Option α) (a : β) (b : α → β) : β := match r with
  | none => a
  | some k => b k
theorem kl_at {α : Type} {k n : Nat} {x : Option α} {r : α} (h : kl k n x = some r) : k < n ∧ x = some r := by
  unfold kl at h
  split at h
  · exact ⟨by assumption, h⟩
  · cases h
theorem oe_n {α β : Type} {r : Option α} {a : β} {b : α → β} {x : β} (e : r = none) (h : oe r a b = x) : a = x := by subst e; exact h
theorem oe_s {α β : Type} {r : Option α} {a : β} {b : α → β} {x : β} {k : α} (e : r = some k) (h : oe r a b = x) : b k = x := by subst e; exact h
/-! ===== pure words ===== -/
/-- n rounds of a loop's body, then none -/
def fx {F : Type} (bot : F) (B : F → F) : Nat → F
  | 0 => bot
  | n + 1 => B (fx bot B n)
def FUEL : Nat := 1000000
/-- a name for a value -/
def nm {α β : Type} (v : α) (k : α → β) : β := k v
/-- an index that must lie in its row -/
def ix {α : Type} (i : Int32) (n : Nat) (k : Option α) : Option α := if i < 0 ∨ n ≤ i.toNatClampNeg then none else k
def nz {α : Type} (d : Int32) (k : Option α) : Option α := if d = 0 then none else k
def bI (b : Bool) : Int32 := if b then 1 else 0
theorem nm_at {α β : Type} {v y : α} {k : α → β} {r : β} (e : y = v) (h : nm v k = r) : k y = r := by rw [e]; exact h
theorem ix_at {α : Type} {i : Int32} {n : Nat} {k : Option α} {r : α} (h : ix i n k = some r) : vp_in i n ∧ k = some r := by
  unfold ix at h
  by_cases c : i < 0 ∨ n ≤ i.toNatClampNeg
  · rw [if_pos c] at h; cases h
  · rw [if_neg c] at h; exact ⟨c, h⟩
theorem nz_at {α : Type} {d : Int32} {k : Option α} {r : α} (h : nz d k = some r) : ¬ d = 0 ∧ k = some r := by
  unfold nz at h
  by_cases c : d = 0
  · rw [if_pos c] at h; cases h
  · rw [if_neg c] at h; exact ⟨c, h⟩
theorem if_t {α : Type} {c : Prop} [Decidable c] {a b x : α} (hc : c) (h : (if c then a else b) = x) : a = x := by rw [if_pos hc] at h; exact h
theorem if_f {α : Type} {c : Prop} [Decidable c] {a b x : α} (hc : ¬ c) (h : (if c then a else b) = x) : b = x := by rw [if_neg hc] at h; exact h
theorem bI_z {b : Bool} : bI b = 0 ↔ ¬ b = true := by cases b <;> decide
theorem bI_nz {b : Bool} : ¬ bI b = 0 ↔ b = true := by cases b <;> decide
theorem bI_nar (b : Bool) : narrow .boolean (.int (bI b)) = .int (bI b) := by cases b <;> rfl
theorem bI_fit (b : Bool) : fits .boolean (.int (bI b)) = true := by cases b <;> rfl
theorem bd_at {α β : Type} {x : Option α} {k : α → Option β} {r : β} (h : x.bind k = some r) : ∃ v, x = some v ∧ k v = some r := Option.bind_eq_some_iff.mp h
theorem no_at {α : Type} {r : α} {Q : Prop} (h : (none : Option α) = some r) : Q := by cases h
theorem pr1 {α : Type} {v : α} {r : α} (h : some v = some r) : r = v := (Option.some.inj h).symm
theorem pr2 {α β : Type} {v : α} {u : β} {r : α × β} (h : some (v, u) = some r) : r.1 = v ∧ r.2 = u := by cases h; exact ⟨rfl, rfl⟩
theorem pb1 {v r : Bool} (h : some v = some r) : bI r = bI v := by cases h; rfl
theorem pb2 {β : Type} {v : Bool} {u : β} {r : Bool × β} (h : some (v, u) = some r) : bI r.1 = bI v ∧ r.2 = u := by cases h; exact ⟨rfl, rfl⟩
theorem fx_s {F : Type} {bot : F} {B : F → F} {n : Nat} : fx bot B (n + 1) = B (fx bot B n) := rfl
theorem sw_vin {i : Int32} {N : Nat} (h : decide (¬ (i < 0 ∨ N ≤ i.toNatClampNeg)) = true) : vp_in i N := (of_decide_eq_true h : ¬ (i < 0 ∨ N ≤ i.toNatClampNeg))
abbrev PlanT : Type := Int32 × Int32 × (Nat → Int32) × Int32 × Int32 × (Nat → Int32) × Int32
abbrev SieveT : Type := (Nat → Int32) × (Nat → Int32) × Int32 × Int32 × Int32 × Int32
abbrev SrcT : Type := (Nat → Int32) × Int32 × Int32 × Int32 × Int32 × Int32 × Int32
abbrev ReadT : Type := Int32 × Int32 × Int32
abbrev ScrT : Type := (Nat → Option Nat) × (Nat → Int32) × (Nat → Int32) × Int32
abbrev SheetT : Type := (Nat → Int32) × Int32
abbrev HistT : Type := (Nat → PlanT) × Int32 × Int32
def cp {α : Type} (sp dp n : Int32) (n0 n1 : Nat) (k : Option α) : Option α := if ¬ sp < 0 ∧ ¬ dp < 0 ∧ ¬ n < 0 ∧ sp.toNatClampNeg + n.toNatClampNeg ≤ n0 ∧ dp.toNatClampNeg + n.toNatClampNeg ≤ n1 then k else none
theorem cp_at {α : Type} {sp dp n : Int32} {n0 n1 : Nat} {k : Option α} {r : α} (h : cp sp dp n n0 n1 k = some r) : (¬ sp < 0 ∧ ¬ dp < 0 ∧ ¬ n < 0 ∧ sp.toNatClampNeg + n.toNatClampNeg ≤ n0 ∧ dp.toNatClampNeg + n.toNatClampNeg ≤ n1) ∧ k = some r := by
  unfold cp at h
  split at h
  · exact ⟨by assumption, h⟩
  · cases h
/-- an int that is none of lo .. hi -/
theorem sw_nin {x : Int32} (lo hi : Int) (h : ∀ k : Int, lo ≤ k → k ≤ hi → x.toInt ≠ k) : x.toInt < lo ∨ hi < x.toInt := by
  rcases Int.lt_or_le x.toInt lo with a | a
  · exact Or.inl a
  · rcases Int.lt_or_le hi x.toInt with b | b
    · exact Or.inr b
    · exact absurd rfl (h _ a b)
theorem sw_ti {x y : Int32} (e : x.toInt = y.toInt) : x = y := Int32.toInt_inj.mp e
