/-! ===== more of the histories; calls behind a world that stays ===== -/
section
variable {w ns k v : Nat} {R D : Nat → Nat} {P : PlanT} {S : SieveT}
theorem G_restore1 {w' ns' k' : Nat} {R' D' : Nat → Nat} {t : HistT} {c : Nat} {top : PlanT → Prop} {Ps : PlanT} (hH : HI t c top) (hw' : WF w' ns' R' k' D') (hs : PX w' ns' R' k' D' Ps) {L' : Nat} (hS : SOK w k D L' P S) (hv : P.2.2.2.2.2.2 = nI v) (hv2 : v + 100 < 2 ^ 31) :
    ∃ (h2 : Int32 × Int32) (P' : PlanT), F_X10_restoreSnapshot true t P Ps = some (true, ((t.1, h2), P')) ∧ HI (t.1, h2) 0 (fun _ => True) ∧ CY w' ns' R' k' D' P' S ∧ P'.2.2.2.2.2.2 = nI (v + 1) := by
  obtain ⟨a, ha, hc, h1, h2, -⟩ := hH
  obtain ⟨P', p1, p2, p3⟩ := L_takeOver hw' hs P
  have hver : P'.2.2.2.2.2.2 = nI (v + 1) := by rw [p3]; exact vbump hv
  unfold F_X10_restoreSnapshot
  rw [if_pos rfl, p1, Option.bind_some]
  exact ⟨(t.2.1, 0), P', rfl, ⟨a, ha, by omega, h1, rfl, fun _ => trivial⟩, ⟨hw', p2, hS.bump hv hver (by omega) (by omega)⟩, hver⟩
theorem Y_load2 {T : List Int32} {sb : Nat → Int32} (hT : TB T sb) {rs ds : List Nat} (hTe : T = txt w rs ds) (hw : w ≤ 4) (hrs : ∀ x ∈ rs, 1 ≤ x ∧ x < 100) (hds : ∀ x ∈ ds, 2 ≤ x ∧ x < 100) (hnd : ds.Nodup) (h12 : rs.length ≤ 12) (h30 : ds.length ≤ 30)
    {f : Nat} (hf : T.length ≤ f) (hf2 : f ≤ 600) (e0 p0 k0 s0 v0 : Int32) (dr : PlanT) (hs : Bool) (t : HistT) (P : PlanT) (pe : Int32) (rd : ReadT) {S : SieveT} {w0 kk L : Nat} {D0 : Nat → Nat} {v c : Nat} {top : PlanT → Prop} (hS : SOK w0 kk D0 L P S) (hv : P.2.2.2.2.2.2 = nI v) (hv2 : v + 100 < 2 ^ 31) (hH : HI t c top) :
    ∃ (dr' : PlanT) (h2 : Int32 × Int32) (P' : PlanT) (pe' : Int32) (rd' : ReadT) (sc' : SrcT) (R' D' : Nat → Nat), F_X10_load (nI T.length) dr hs t P pe rd (sb, nI f, e0, p0, k0, s0, v0) = some (.inr (nI (1 + rs.sum)), (dr', false, (t.1, h2), P', pe', rd', sc')) ∧ CY w rs.length R' ds.length D' P' S ∧ sm R' rs.length = rs.sum ∧ P'.2.2.2.2.2.2 = nI (v + 1) ∧ HI (t.1, h2) 0 (fun _ => True) := by
  obtain ⟨rd', t', Pd, R', D', h1, h2, h3, h4, h5, h6⟩ := Y_text hT hTe hw hrs hds hnd h12 h30 hf hf2 e0 p0 k0 s0 v0 rd dr
  obtain ⟨P', p1, p2, p3⟩ := L_takeOver h3 h4 P
  have hver : P'.2.2.2.2.2.2 = nI (v + 1) := by rw [p3]; exact vbump hv
  obtain ⟨a, ha, hc, q1, q2, -⟩ := hH
  refine ⟨Pd, (t.2.1, 0), P', rd'.2.1, rd', (t'.1, 0, t'.2.2.1, t'.2.2.2.1, t'.2.2.2.2.1, t'.2.2.2.2.2.1, t'.2.2.2.2.2.2), R', D', ?_, ⟨h3, p2, hS.bump hv hver (by omega) (by omega)⟩, h5, hver, ⟨a, ha, by omega, q1, rfl, fun c => absurd c (by omega)⟩⟩
  unfold F_X10_load F_X8_filled
  rw [Option.bind_some, show F_X10_needInRange (nI T.length) 0 (nI f) = some (.inr ()) from V_range (a := 0) (Nat.zero_le _) hf (by omega), Option.bind_some, Sum.elim_inr, h1, Option.bind_some]
  unfold F_X10_closeReading F_X8_empty F_X4_errorAt
  rw [Option.bind_some, Option.bind_some, Option.bind_some, if_pos rfl, p1, Option.bind_some]
  unfold F_X1_forget F_X3_lastNumber
  rw [Option.bind_some, Option.bind_some, p2.2.2.2.1, h5]
end
theorem sum_snoc (x : Nat) : ∀ l : List Nat, (l ++ [x]).sum = l.sum + x
  | [] => by show x + 0 = 0 + x; omega
  | a :: l => by
    have h := sum_snoc x l
    show a + (l ++ [x]).sum = a + l.sum + x
    omega
theorem sum_le50 : ∀ l : List Nat, (∀ x ∈ l, 1 ≤ x ∧ x ≤ 50) → l.sum ≤ 50 * l.length
  | [], _ => Nat.le_refl _
  | a :: l, h => by
    have h1 := (h a List.mem_cons_self).2
    have h2 := sum_le50 l (fun x hx => h x (List.mem_cons_of_mem _ hx))
    show a + l.sum ≤ 50 * (l.length + 1)
    omega
theorem nd_snoc {d : Nat} : ∀ l : List Nat, l.Nodup → d ∉ l → (l ++ [d]).Nodup
  | [], _, _ => List.nodup_cons.mpr ⟨List.not_mem_nil, List.nodup_nil⟩
  | a :: l, h, hd => by
    have h1 := List.nodup_cons.mp h
    refine List.nodup_cons.mpr ⟨fun hm => ?_, nd_snoc l h1.2 (fun z => hd (List.mem_cons_of_mem _ z))⟩
    rcases List.mem_append.mp hm with q | q
    · exact h1.1 q
    · exact hd (by rw [← List.mem_singleton.mp q]; exact List.mem_cons_self)
theorem rng_app {w0 w1 : va_W} : (List.range w0.length).map (fun i => (w0 ++ w1)[i]?) = w0.map some := by
  refine List.ext_getElem? fun i => ?_
  rw [List.getElem?_map, List.getElem?_map]
  by_cases h : i < w0.length
  · rw [List.getElem?_range h]
    show some ((w0 ++ w1)[i]?) = _
    rw [List.getElem?_append_left h, List.getElem?_eq_getElem h]
    rfl
  · rw [List.getElem?_eq_none (by rw [List.length_range]; omega), List.getElem?_eq_none (by omega)]
    rfl
theorem tl_2 {w0 : va_W} {n : Nat} {x y : Nat × va_E} (hn : w0.length = n) : [n, n + 1].map (fun i => (w0 ++ [x, y])[i]?) = [x, y].map some := by
  subst hn
  show [(w0 ++ [x, y])[w0.length]?, (w0 ++ [x, y])[w0.length + 1]?] = [some x, some y]
  rw [List.getElem?_append_right (Nat.le_refl _), List.getElem?_append_right (Nat.le_add_right _ 1), Nat.sub_self, Nat.add_sub_cancel_left]
  rfl
theorem tl_1 {w0 : va_W} {n : Nat} {x : Nat × va_E} (hn : w0.length = n) : [n].map (fun i => (w0 ++ [x])[i]?) = [x].map some := by
  subst hn
  show [(w0 ++ [x])[w0.length]?] = [some x]
  rw [List.getElem?_append_right (Nat.le_refl _), Nat.sub_self]
  rfl
theorem tl_d1 {n : Nat} : ∀ i ∈ List.range n, i ∉ [n] := fun i hi h => by
  have h1 := List.mem_range.mp hi
  have h2 := List.mem_singleton.mp h
  omega
theorem tl_d2 {n : Nat} : ∀ i ∈ List.range n, i ∉ [n, n + 1] := fun i hi h => by
  have h1 := List.mem_range.mp hi
  rcases List.mem_cons.mp h with h2 | h2
  · omega
  · have h3 := List.mem_singleton.mp h2
    omega
section
variable {p : Program} {l : Launch} {e : Env} {R : Room} {s : State} {m : MethodId} {args : Array Value} {below : List Frame} {meth : Method} {c : Code} {H : Heap} {locs : List Loc} {cells slots : Nat} {Q : State → Prop}
  {mc ms pc n : Nat} {G : va_G} {A : Nat → Prop} {rest st : List Value} {S : Type} {cs : S → va_W} {ls : Array Slot} {a : Array Value} {w0 wc : va_W}
/-- a call on the last cells, that answers a reference; a constructor's call; a call without cells -/
theorem lw_tailr {post : S → Prop} {f0 : S → Nat} (hr : va_Run p l e R s m args below meth c H locs cells slots mc ms (F0 m pc ls st) rest (va_Qr post (fun u q t => q = f0 u ∧ sw_Post G (va_A wc H.size) cs u t) (va_A wc H.size) a) (va_A wc H.size))
    (hP : va_P G vwCl (w0 ++ wc) H) (hD : va_D A (w0 ++ wc)) (hS : va_S A s.heap H locs) (hA : ∀ q : Nat, s.heap.size ≤ q → A q) (hn : w0.length = n) (hnd : va_nd (List.range n) = true) (isC : List Nat) (hC : isC.map (fun i => (w0 ++ wc)[i]?) = wc.map some) (hdis : ∀ i ∈ List.range n, i ∉ isC)
    (kk : ∀ (u : S) (H1 : Heap) (locs1 : List Loc), post u → va_P G vwCl (w0 ++ cs u) H1 → va_D A (w0 ++ cs u) → va_S A s.heap H1 locs1 → W p l e R s m args below meth c H1 locs1 (cells + mc) (slots + ms) Q (F0 m (pc + 3) ls (.ref (f0 u) :: rest))) : W p l e R s m args below meth c H locs cells slots Q (F0 m pc ls st) := by
  subst hn
  have hFc := va_free hD hS hA isC hC
  refine va_callr hr hS (fun q _ h => hFc q h) hFc (fun u ra t H1 locs1 ht hvm hw hB hz1 hk1 hS1 => ?_)
  obtain ⟨rfl, hP1, hD1⟩ := hB
  rw [ht] at hP1
  obtain ⟨hP2, hD2⟩ := va_join (wr := w0) (w1 := cs u) hP hD isC (List.range w0.length) hC rng_app hnd hdis hk1 hFc hP1 hD1
  exact kk u H1 locs1 hw hP2 hD2 hS1
theorem lw_tailv {post : S → Prop} (hr : va_Run p l e R s m args below meth c H locs cells slots mc ms (F0 m pc ls st) rest (va_Qv post (sw_Post G (va_A wc H.size) cs) (va_A wc H.size) a) (va_A wc H.size))
    (hP : va_P G vwCl (w0 ++ wc) H) (hD : va_D A (w0 ++ wc)) (hS : va_S A s.heap H locs) (hA : ∀ q : Nat, s.heap.size ≤ q → A q) (hn : w0.length = n) (hnd : va_nd (List.range n) = true) (isC : List Nat) (hC : isC.map (fun i => (w0 ++ wc)[i]?) = wc.map some) (hdis : ∀ i ∈ List.range n, i ∉ isC)
    (kk : ∀ (u : S) (H1 : Heap) (locs1 : List Loc), post u → va_P G vwCl (w0 ++ cs u) H1 → va_D A (w0 ++ cs u) → va_S A s.heap H1 locs1 → W p l e R s m args below meth c H1 locs1 (cells + mc) (slots + ms) Q (F0 m (pc + 3) ls rest)) : W p l e R s m args below meth c H locs cells slots Q (F0 m pc ls st) := by
  subst hn
  have hFc := va_free hD hS hA isC hC
  refine va_callv hr hS (fun q _ h => hFc q h) hFc (fun u t H1 locs1 ht hvm hw hB hz1 hk1 hS1 => ?_)
  obtain ⟨hP1, hD1⟩ := hB
  rw [ht] at hP1
  obtain ⟨hP2, hD2⟩ := va_join (wr := w0) (w1 := cs u) hP hD isC (List.range w0.length) hC rng_app hnd hdis hk1 hFc hP1 hD1
  exact kk u H1 locs1 hw hP2 hD2 hS1
theorem lw_c0 {post : Int32 → Unit → Prop} (hr : va_Run p l e R s m args below meth c H locs cells slots mc ms (F0 m pc ls st) rest (va_Qi post (sw_Post G (va_A [] H.size) (fun _ => [])) (va_A [] H.size) a) (va_A [] H.size))
    (hP : va_P G vwCl w0 H) (hD : va_D A w0) (hS : va_S A s.heap H locs) (hA : ∀ q : Nat, s.heap.size ≤ q → A q) (hn : w0.length = n) (hnd : va_nd (List.range n) = true)
    (kk : ∀ (r : Int32) (H1 : Heap) (locs1 : List Loc), post r () → va_P G vwCl w0 H1 → va_D A w0 → va_S A s.heap H1 locs1 → W p l e R s m args below meth c H1 locs1 (cells + mc) (slots + ms) Q (F0 m (pc + 3) ls (.int r :: rest))) : W p l e R s m args below meth c H locs cells slots Q (F0 m pc ls st) := by
  subst hn
  have hFc : ∀ q, va_A [] H.size q → A q := va_free hD hS hA [] rfl
  have hR : (List.range w0.length).map (fun i => w0[i]?) = w0.map some := by
    have h := rng_app (w0 := w0) (w1 := [])
    rw [List.append_nil] at h
    exact h
  refine va_calli hr hS (fun q _ h => hFc q h) hFc (fun r u t H1 locs1 ht hvm hw hB hz1 hk1 hS1 => ?_)
  obtain ⟨hP1, hD1⟩ := hB
  rw [ht] at hP1
  obtain ⟨hP2, hD2⟩ := va_join (wr := w0) (w1 := []) hP hD [] (List.range w0.length) rfl hR hnd (fun i _ h => absurd h List.not_mem_nil) hk1 hFc hP1 hD1
  rw [List.append_nil] at hP2 hD2
  exact kk r H1 locs1 hw hP2 hD2 hS1
end
