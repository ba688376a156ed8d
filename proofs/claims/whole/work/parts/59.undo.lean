/-! ===== PURE: undo, snapshots ===== -/
section
variable {w ns k : Nat} {R D : Nat → Nat} {P : PlanT} {row : Nat → Int32} {S : SieveT} {L : Nat} {v : Nat}
/-- a plan that was kept comes back -/
theorem KP.back {B : PlanT} {kept row' : Nat → Int32} (h : CX w ns R k D P row S) (hv : P.2.2.2.2.2.2 = nI v) (hv2 : v + 100 < 2 ^ 31) (hB : KP B kept) (hr : ∀ j, j < 45 → row' j = kept j) :
    ∃ P', F_X3_takeOver P B = some P' ∧ ∃ w' ns' R' k' D' v', CX w' ns' R' k' D' P' row' S ∧ P'.2.2.2.2.2.2 = nI v' ∧ v ≤ v' ∧ v' ≤ v + 100 := by
  obtain ⟨w', ns', R', k', D', b1, b2, b3⟩ := hB.rows hr
  obtain ⟨P', t1, t2, t3⟩ := L_takeOver b1 b2 P
  have e : P'.2.2.2.2.2.2 = nI (v + 1) := by
    rw [t3, hv]
    exact e_add v 1
  exact ⟨P', t1, w', ns', R', k', D', v + 1, ⟨b1, t2, b3, h.2.2.2.bump hv e (by omega) (by omega)⟩, e, by omega, by omega⟩
theorem O_undoCount {t : HistT} {hist : Nat → Int32} {u : Int32} (hH : HX t hist u) (th : Int32) :
    F_X10_undoCount t = some u ∧ F_X11_undoCount th u = some (u, 0) := by
  obtain ⟨a, c, ha, hc, h1, h2, rfl, hk⟩ := hH
  refine ⟨?_, rfl⟩
  unfold F_X10_undoCount F_X1_count
  rw [h2]
  rfl
theorem O_undo {t : HistT} {hist : Nat → Int32} {u : Int32} (h : CX w ns R k D P row S) (hH : HX t hist u) (hv : P.2.2.2.2.2.2 = nI v) (hv2 : v + 100 < 2 ^ 31) (ac : Nat → Int32) (th : Int32) :
    ∃ r ac' t' P' row' th' u', F_X10_undo ac t P = some (r, (ac', t', P')) ∧ F_X11_undo ac hist row th u = some (r, (ac', row', th', u')) ∧ OR P v t' hist u' row' P' S := by
  obtain ⟨a, c, ha, hc, h1, h2, rfl, hk⟩ := id hH
  unfold F_X10_undo F_X11_undo F_X1_count
  rw [h2, Option.bind_some]
  by_cases z : c = 0
  · subst z
    rw [if_pos (show nI 0 = 0 from rfl), if_pos (show nI 0 = 0 from rfl)]
    exact ⟨_, ac, t, P, row, 0, nI 0, rfl, rfl, hH, w, ns, R, k, D, v, h, hv, Nat.le_refl _, by omega⟩
  · have hm : (a + (c - 1)) % 8 < 8 := Nat.mod_lt _ (by decide)
    have e1 : nI c - 1 = nI (c - 1) := e_sub (b := 1) (by omega)
    have e : nI a + nI (c - 1) - (nI a + nI (c - 1)) / 8 * 8 = nI ((a + (c - 1)) % 8) := by
      rw [e_add]
      exact pk_rem (by omega) (by decide) (by decide)
    have cpy := M_copy hist row (i := c - 1) (j := 0) (n0 := 360) (n1 := 45) (by omega) (by decide) (by omega) (by decide)
    have cpy : F_X11_copy hist (nI (c - 1)) row 0 360 45 = some (va_cpy hist row (45 * (c - 1)) (45 * 0) 45) := cpy
    obtain ⟨P', p1, p2⟩ := KP.back (row' := va_cpy hist row (45 * (c - 1)) (45 * 0) 45) h hv hv2 (hk (c - 1) (by omega)) (fun j hj => by
      rw [pk_cpy_in (by omega) (by omega), show 45 * (c - 1) + (j - 45 * 0) = 45 * (c - 1) + j by omega])
    rw [if_neg (nI_ne0 (by omega) (by omega)), if_neg (nI_ne0 (by omega) (by omega)), nm_e1, nm_e1, e1, cpy]
    have hp : F_X1_pop t P = some ((t.1, t.2.1, nI (c - 1)), P') := by
      unfold F_X1_pop
      rw [h1, h2, if_neg (nI_nle (by omega) (by omega)), nm_e1, e1, e, ix_nI hm (by decide), nm_e1, nI_clamp (by omega), p1]
      rfl
    rw [hp]
    refine ⟨nI (c - 1), _, (t.1, t.2.1, nI (c - 1)), P', _, 0, nI (c - 1), rfl, rfl, ⟨a, c - 1, ha, by omega, h1, rfl, rfl, fun i hi => hk i (by omega)⟩, p2⟩
theorem O_save (h : KP P row) (Ps : PlanT) (b bs : Bool) (snap : Nat → Int32) (th : Int32) :
    ∃ Ps' snap', F_X10_saveSnapshot b P Ps = some (true, Ps') ∧ F_X11_saveSnapshot bs row snap th = some (true, snap', 0) ∧ KP Ps' snap' := by
  unfold F_X10_saveSnapshot F_X11_saveSnapshot
  obtain ⟨Ps', p1, p2, -⟩ := h.take Ps
  obtain ⟨snap', k1, k2⟩ := M_keep snap row
  unfold F_X11_keep at k1
  rw [p1]
  refine ⟨Ps', snap', rfl, ?_, p2.rows k2⟩
  obtain ⟨y, y1, y2⟩ := bd_some k1
  cases y2
  rw [y1]
  rfl
theorem O_restore {t : HistT} {hist : Nat → Int32} {u : Int32} {Ps : PlanT} {snap : Nat → Int32} (h : CX w ns R k D P row S) (hH : HX t hist u) (hv : P.2.2.2.2.2.2 = nI v) (hv2 : v + 100 < 2 ^ 31) (b : Bool) (hs : b = true → KP Ps snap) (th : Int32) :
    ∃ t' P' row' th' u', F_X10_restoreSnapshot b t P Ps = some (b, (t', P')) ∧ F_X11_restoreSnapshot b row snap th u = some (b, (row', th', u')) ∧ (∃ t2, t' = (t.1, t2)) ∧ OR P v t' hist u' row' P' S := by
  unfold F_X10_restoreSnapshot F_X11_restoreSnapshot
  cases b with
  | false => exact ⟨t, P, row, 0, u, rfl, rfl, ⟨t.2, rfl⟩, hH, w, ns, R, k, D, v, h, hv, Nat.le_refl _, by omega⟩
  | true =>
    obtain ⟨row', k1, k2⟩ := M_keep row snap
    unfold F_X11_keep at k1
    obtain ⟨y, y1, y2⟩ := bd_some k1
    cases y2
    obtain ⟨P', p1, p2⟩ := KP.back h hv hv2 (hs rfl) k2
    obtain ⟨a, c, ha, hc, h1, h2, -, hk⟩ := hH
    rw [if_pos rfl, if_pos rfl, p1, y1]
    exact ⟨(t.1, t.2.1, 0), P', row', 0, 0, rfl, rfl, ⟨_, rfl⟩, ⟨a, 0, ha, by omega, h1, rfl, rfl, fun i hi => absurd hi (by omega)⟩, p2⟩
/-- the bytes of the text of format -/
def SH (sh : SheetT) (f : Nat → Int32) (fl : Int32) : Prop := ∃ n, n ≤ 2000 ∧ sh.2 = nI n ∧ fl = nI n ∧ ∀ i, i < n → sh.1 i = f i
theorem O_formattedByte {sh : SheetT} {f : Nat → Int32} {fl : Int32} (h : SH sh f fl) (x th : Int32) :
    ∃ r, F_X10_formattedByte x sh = some r ∧ F_X11_formattedByte x f fl th = some (r, 0) := by
  obtain ⟨n, hn, h1, rfl, h2⟩ := h
  unfold F_X10_formattedByte F_X6_byteAt F_X11_formattedByte
  rw [h1]
  rcases i_cases x with q | ⟨j, hj, rfl⟩
  · have e : F_X11_inRange x 0 (nI n - 1) = some false := M_inRange_neg (a := 0) (by decide) q
    rw [if_pos q, e]
    exact ⟨-1, rfl, rfl⟩
  · rw [if_neg (nI_pos hj)]
    by_cases z : n = 0
    · subst z
      have e : F_X11_inRange (nI j) 0 (nI 0 - 1) = some false := by
        unfold F_X11_inRange
        rw [if_neg (show ¬ nI j < 0 from nI_pos hj), if_pos (show nI 0 - 1 < nI j from m1_lt hj)]
      rw [if_neg (show ¬ nI j < nI 0 from nI_pos hj), e]
      exact ⟨-1, rfl, rfl⟩
    · have e1 : nI n - 1 = nI (n - 1) := e_sub (b := 1) (by omega)
      have e : F_X11_inRange (nI j) 0 (nI (n - 1)) = some (decide (0 ≤ j ∧ j ≤ n - 1)) := M_inRange (a := 0) hj (by decide) (by omega)
      rw [e1, e]
      by_cases c : j < n
      · rw [if_pos (nI_lt c (by omega)), ix_nI (by omega) (by decide), nI_clamp hj, decide_eq_true (by omega), Option.bind_some, Option.bind_some, if_pos rfl, ix_nI (by omega) (by decide), h2 j c]
        exact ⟨_, rfl, rfl⟩
      · rw [if_neg (nI_nlt (by omega) hj), decide_eq_false (by omega)]
        exact ⟨-1, rfl, rfl⟩
end
