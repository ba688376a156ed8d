/-! ===== load, on the law's text ===== -/
section
variable {T : List Int32} {sb : Nat → Int32} {w : Nat}
theorem Y_text (hT : TB T sb) {rs ds : List Nat} (hTe : T = txt w rs ds) (hw : w ≤ 4) (hrs : ∀ x ∈ rs, 1 ≤ x ∧ x < 100) (hds : ∀ x ∈ ds, 2 ≤ x ∧ x < 100) (hnd : ds.Nodup) (h12 : rs.length ≤ 12) (h30 : ds.length ≤ 30)
    {f : Nat} (hf : T.length ≤ f) (hf2 : f ≤ 600) (e0 p0 k0 s0 v0 : Int32) (rd : ReadT) (a1 : PlanT) :
    ∃ rd' t' P' R' D', F_X4_readText (nI T.length) rd (sb, nI f, e0, p0, k0, s0, v0) a1 = some (0, (rd', t', P')) ∧ rd'.1 = 0 ∧ WF w rs.length R' ds.length D' ∧ PX w rs.length R' ds.length D' P' ∧ sm R' rs.length = rs.sum ∧ t'.1 = sb := by
  have h6 := hT.1
  have h0 : T.drop 0 = (115 :: [105, 101, 118, 101] : List Nat).map nI ++ nI 32 :: (sj_dg w ++ nI 59 :: (its 1 rs ++ its 2 ds)) := by rw [List.drop_zero, hTe]; rfl
  have h5 : T.drop 5 = nI 32 :: (sj_dg w ++ nI 59 :: (its 1 rs ++ its 2 ds)) := by rw [hTe]; rfl
  have ho : F_X8_open (nI T.length) (sb, nI f, e0, p0, k0, s0, v0) = some (sb, nI f, nI T.length, nI (0 + 5), 1, nI 0, 0) := by
    unfold F_X8_open
    show nm (if nI f < nI T.length then nI f else nI T.length) _ = _
    rw [if_neg (nI_nlt hf (by omega)), nm_e1]
    show (F_X8_advance (sb, nI f, nI T.length, nI 0, k0, s0, v0)).bind _ = _
    rw [Y_adv (fun m => Y_word hT (i := 0) (x := 115) (wd := [105, 101, 118, 101]) (by decide) h0 (by decide))]
    rfl
  have hs2 : its 2 ds = [] ∨ ∃ r, its 2 ds = (w7 2).map nI ++ nI 32 :: r := by
    cases ds with
    | nil => exact Or.inl rfl
    | cons d l => exact Or.inr ⟨_, by rw [← List.append_nil (its 2 (d :: l)), its_cons]⟩
  have hs1 : its 1 rs ++ its 2 ds = [] ∨ ∃ y r, its 1 rs ++ its 2 ds = (w7 y).map nI ++ nI 32 :: r := its_hd 1 rs _ (hs2.imp_right fun ⟨r, e⟩ => ⟨2, r, e⟩)
  obtain ⟨q, t1, t2, c1, -, -, c4, c5, c6, c7⟩ := Y_row hT (fl := nI f) (st := nI 0) (v := 0) (lo := 0) (hi := 4) (p := 5) (rd := (0, -1, rd.2.2)) (x := w) (by omega) h5 hs1 (Nat.zero_le _) hw (by decide)
  have hi5 : F_X8_isWord 0 (sb, nI f, nI T.length, nI (0 + 5), 1, nI 0, 0) = some true := Y_isT hT (by decide) rfl (r := nI 32 :: (sj_dg w ++ nI 59 :: (its 1 rs ++ its 2 ds))) h0
  obtain ⟨R', P1, rd1, j, b1, b2, b3, b4, b5, b6, b7, b8⟩ := Y_stretches (D := fun _ => 0) (w := w) (fl := nI f) hT hs2 rs q 0 (fun _ => 0) (nI w, 0, a1.2.2.1, 1, 0, a1.2.2.2.2.2.1, a1.2.2.2.2.2.2 + 1) (0, -1, nI w) FUEL hrs c6 c7 (by omega)
    ⟨hw, by omega, fun i hi => absurd hi (by omega), by omega, fun i hi => absurd hi (by omega), fun i j hi => absurd hi (by omega)⟩ ⟨rfl, rfl, fun i hi => absurd hi (by omega), rfl, rfl, fun i hi => absurd hi (by omega)⟩ (Nat.lt_of_le_of_lt h12 (by decide))
  rw [Nat.zero_add] at b4 b5 b8
  have hP2 : PX w rs.length R' 0 (fun _ => 0) (P1.1, P1.2.1, P1.2.2.1, P1.2.2.2.1, P1.2.2.2.2.1, a1.2.2.2.2.2.1, P1.2.2.2.2.2.2) := ⟨b5.1, b5.2.1, b5.2.2.1, b5.2.2.2.1, b5.2.2.2.2.1, fun i hi => absurd hi (by omega)⟩
  obtain ⟨D', P2, rd2, g1, g2, g3, g4, g5⟩ := Y_strikers (fl := nI f) (w := w) hT ds j 0 (fun _ => 0) _ rd1 FUEL (fun x hx => ⟨(hds x hx).1, (hds x hx).2, rfl⟩) hnd b2 b3 (by omega) b4 hP2 (Nat.lt_of_le_of_lt h30 (by decide))
  rw [Nat.zero_add] at g2 g3
  refine ⟨rd2, tkn T sb (nI f) T.length, (P2.1, P2.2.1, P1.2.2.1, P2.2.2.2.1, P2.2.2.2.2.1, P2.2.2.2.2.2.1, P2.2.2.2.2.2.2), R', D', ?_, by rw [g4, b6], g2, ⟨g3.1, g3.2.1, b5.2.2.1, g3.2.2.2.1, g3.2.2.2.2.1, g3.2.2.2.2.2⟩, by rw [b8]; show 0 + rs.sum = rs.sum; omega, by unfold tkn; split <;> rfl⟩
  unfold F_X4_readText F_X4_begin
  rw [ho, Option.bind_some, Option.bind_some]
  unfold F_X4_takeWord
  rw [hi5, Option.bind_some, if_pos rfl, c1, Option.bind_some, Option.bind_some, if_pos rfl, show F_X4_takeNumber 0 4 (0, -1, rd.2.2) t1 = _ from c4, Option.bind_some, if_pos rfl, c5, Option.bind_some, if_pos rfl]
  unfold F_X3_beginWith
  rw [nm_e1, Option.bind_some]
  unfold F_X4_readStretches
  rw [show fx (fun _ _ _ _ => none) B_X4_readStretches_2 FUEL 0 _ _ _ = _ from b1, Option.bind_some, if_pos rfl]
  unfold F_X4_readStrikers
  rw [show fx (fun _ _ _ _ => none) B_X4_readStrikers_2 FUEL 0 _ _ _ = _ from g1, Option.bind_some, if_pos rfl, show F_X8_isEnd (tkn T sb (nI f) T.length) = some true by unfold tkn; rw [if_pos rfl]; rfl, Option.bind_some, if_pos rfl]
  show some (rd2.1, _) = _
  rw [g4, b6]
/-- load answers the last number, and the plan is the text's -/
theorem Y_load (hT : TB T sb) {rs ds : List Nat} (hTe : T = txt w rs ds) (hw : w ≤ 4) (hrs : ∀ x ∈ rs, 1 ≤ x ∧ x < 100) (hds : ∀ x ∈ ds, 2 ≤ x ∧ x < 100) (hnd : ds.Nodup) (h12 : rs.length ≤ 12) (h30 : ds.length ≤ 30)
    {f : Nat} (hf : T.length ≤ f) (hf2 : f ≤ 600) (e0 p0 k0 s0 v0 : Int32) (dr : PlanT) (hs : Bool) (t : HistT) (P : PlanT) (pe : Int32) (rd : ReadT) {S : SieveT} {w0 kk L : Nat} {D0 : Nat → Nat} {v c : Nat} {top : PlanT → Prop} (hS : SOK w0 kk D0 L P S) (hv : P.2.2.2.2.2.2 = nI v) (hv2 : v + 100 < 2 ^ 31) (hH : HI t c top) :
    ∃ dr' t' P' pe' rd' sc' R' D', F_X10_load (nI T.length) dr hs t P pe rd (sb, nI f, e0, p0, k0, s0, v0) = some (.inr (nI (1 + rs.sum)), (dr', false, t', P', pe', rd', sc')) ∧ CY w rs.length R' ds.length D' P' S ∧ sm R' rs.length = rs.sum ∧ P'.2.2.2.2.2.2 = nI (v + 1) ∧ HI t' 0 (fun _ => True) ∧ sc'.1 = sb := by
  obtain ⟨rd', t', Pd, R', D', h1, h2, h3, h4, h5, h6⟩ := Y_text hT hTe hw hrs hds hnd h12 h30 hf hf2 e0 p0 k0 s0 v0 rd dr
  obtain ⟨P', p1, p2, p3⟩ := L_takeOver h3 h4 P
  have hver : P'.2.2.2.2.2.2 = nI (v + 1) := by rw [p3]; exact vbump hv
  obtain ⟨a, ha, hc, q1, q2, -⟩ := hH
  refine ⟨Pd, (t.1, t.2.1, 0), P', rd'.2.1, rd', (t'.1, 0, t'.2.2.1, t'.2.2.2.1, t'.2.2.2.2.1, t'.2.2.2.2.2.1, t'.2.2.2.2.2.2), R', D', ?_, ⟨h3, p2, hS.bump hv hver (by omega) (by omega)⟩, h5, hver, ⟨a, ha, by omega, q1, rfl, fun c => absurd c (by omega)⟩, h6⟩
  unfold F_X10_load F_X8_filled
  rw [Option.bind_some, show F_X10_needInRange (nI T.length) 0 (nI f) = some (.inr ()) from V_range (a := 0) (Nat.zero_le _) hf (by omega), Option.bind_some, Sum.elim_inr, h1, Option.bind_some]
  unfold F_X10_closeReading F_X8_empty F_X4_errorAt
  rw [Option.bind_some, Option.bind_some, Option.bind_some, if_pos rfl, p1, Option.bind_some]
  unfold F_X1_forget F_X3_lastNumber
  rw [Option.bind_some, Option.bind_some, p2.2.2.2.1, h5]
end
