/-! ===== the law: its world ===== -/
abbrev lwA (s : State) : Nat → Prop := fun q => s.heap.size ≤ q
/-- the cells that `sel` names, put anew: 0 keeps, j + 1 takes the callee's j-th -/
def lwN : va_W → Nat → Nat × va_E → Nat × va_E
  | [], _, x => x
  | y :: _, 0, _ => y
  | _ :: ys, j + 1, x => lwN ys j x
theorem lwN_of : ∀ (c : va_W) (j : Nat) (x : Nat × va_E), j < c.length → c[j]? = some (lwN c j x)
  | [], _, _, h => absurd h (Nat.not_lt_zero _)
  | _ :: _, 0, _, _ => rfl
  | _ :: ys, j + 1, x, h => lwN_of ys j x (Nat.lt_of_succ_lt_succ h)
def lwU : va_W → List Nat → va_W → va_W
  | x :: ws, 0 :: ss, c => x :: lwU ws ss c
  | x :: ws, (j + 1) :: ss, c => lwN c j x :: lwU ws ss c
  | ws, _, _ => ws
/-- the selection is the callee's places turned round -/
def lwOK (isC : List Nat) : Nat → List Nat → Bool
  | _, [] => true
  | k, 0 :: ss => decide (k ∉ isC) && lwOK isC (k + 1) ss
  | k, (j + 1) :: ss => decide (isC[j]? = some k) && lwOK isC (k + 1) ss
theorem lwU_of {isC : List Nat} {c : va_W} (hl : isC.length = c.length) : ∀ (ss : List Nat) (ws : va_W) (n k : Nat) (q : Nat × va_E), (lwU ws ss c)[k]? = some q → ws.length = ss.length → lwOK isC n ss = true → (n + k ∉ isC ∧ ws[k]? = some q) ∨ ∃ j : Nat, isC[j]? = some (n + k) ∧ c[j]? = some q
  | [], [], n, k, q, h, _, _ => by
    simp [lwU] at h
  | [], _ :: _, n, k, q, h, e, _ => by simp at e
  | _ :: _, [], n, k, q, h, e, _ => by simp at e
  | 0 :: ss, x :: ws, n, 0, q, h, e, o => by
    simp only [lwOK, Bool.and_eq_true, decide_eq_true_eq] at o
    exact Or.inl ⟨o.1, h⟩
  | 0 :: ss, x :: ws, n, k + 1, q, h, e, o => by
    simp only [lwOK, Bool.and_eq_true, decide_eq_true_eq] at o
    have := lwU_of hl ss ws (n + 1) k q h (by simpa using e) o.2
    rw [show n + 1 + k = n + (k + 1) by omega] at this
    exact this
  | (j + 1) :: ss, x :: ws, n, 0, q, h, e, o => by
    simp only [lwOK, Bool.and_eq_true, decide_eq_true_eq] at o
    refine Or.inr ⟨j, o.1, ?_⟩
    have hj : j < c.length := by
      rw [← hl]
      exact (List.getElem?_eq_some_iff.mp o.1).1
    rw [lwN_of c j x hj]
    exact h
  | (j + 1) :: ss, x :: ws, n, k + 1, q, h, e, o => by
    simp only [lwOK, Bool.and_eq_true, decide_eq_true_eq] at o
    have := lwU_of hl ss ws (n + 1) k q h (by simpa using e) o.2
    rw [show n + 1 + k = n + (k + 1) by omega] at this
    exact this
section LWB
variable {p : Program} {l : Launch} {e : Env} {R : Room} {s : State} {m : MethodId} {args : Array Value} {below : List Frame} {meth : Method} {c : Code} {H : Heap} {locs : List Loc} {cells slots : Nat} {Q : State → Prop}
  {mc ms pc : Nat} {G : va_G} {A : Nat → Prop} {ws wc : va_W} {rest st : List Value} {S : Type} {cs : S → va_W} {ls : Array Slot} {a : Array Value}
theorem lw_back {u : S} {H1 : Heap} {t : State} (hP : va_P G vwCl ws H) (hD : va_D A ws) (hF : ∀ q, va_A wc H.size q → A q) (isC sel : List Nat) (hC : isC.map (fun i => ws[i]?) = wc.map some) (hl : isC.length = (cs u).length) (hw : ws.length = sel.length) (ho : lwOK isC 0 sel = true)
    (ht : t.heap = H1) (hB : sw_Post G (va_A wc H.size) cs u t) (hk1 : ∀ q : Nat, q < H.size → ¬ va_A wc H.size q → H1[q]? = H[q]?) : va_P G vwCl (lwU ws sel (cs u)) H1 ∧ va_D A (lwU ws sel (cs u)) := by
  obtain ⟨hP1, hD1⟩ := hB
  have of : ∀ (k : Nat) (q : Nat × va_E), (lwU ws sel (cs u))[k]? = some q → (k ∉ isC ∧ ws[k]? = some q) ∨ ∃ j : Nat, isC[j]? = some k ∧ (cs u)[j]? = some q := fun k q h => by
    have := lwU_of hl sel ws 0 k q h hw ho
    rw [Nat.zero_add] at this
    exact this
  rw [ht] at hP1
  have apart : ∀ (k : Nat) (q : Nat × va_E), k ∉ isC → ws[k]? = some q → ¬ va_A wc H.size q.1 := by
    intro k q hk hq z
    rcases z with ⟨k2, e2, h⟩ | h
    · have h1 : (isC.map (fun i => ws[i]?))[k2]? = some (some (q.1, e2)) := by rw [hC, List.getElem?_map, h]; rfl
      rw [List.getElem?_map] at h1
      cases hi : isC[k2]? with
      | none => rw [hi] at h1; cases h1
      | some i =>
        rw [hi] at h1
        have h2 := hD.1 k i q (q.1, e2) hq (Option.some.inj h1) rfl
        rw [h2] at hk
        exact hk (List.mem_of_getElem? hi)
    · have := (hP k q hq).lt
      omega
  refine ⟨fun k q hk => ?_, fun i j x y hi hj hxy => ?_, fun k q hk => ?_⟩
  · rcases of k q hk with ⟨h1, h2⟩ | ⟨j, -, h2⟩
    · exact (hP k q h2).kept (hk1 q.1 (hP k q h2).lt (apart k q h1 h2))
    · exact hP1 j q h2
  · rcases of i x hi with ⟨h1, h2⟩ | ⟨i1, h1, h2⟩
    · rcases of j y hj with ⟨h3, h4⟩ | ⟨j1, h3, h4⟩
      · exact hD.1 i j x y h2 h4 hxy
      · refine absurd ?_ (apart i x h1 h2)
        rw [hxy]
        exact hD1.2 j1 y h4
    · rcases of j y hj with ⟨h3, h4⟩ | ⟨j1, h3, h4⟩
      · refine absurd ?_ (apart j y h3 h4)
        rw [← hxy]
        exact hD1.2 i1 x h2
      · have e1 := hD1.1 i1 j1 x y h2 h4 hxy
        rw [e1, h3] at h1
        exact (Option.some.inj h1).symm
  · rcases of k q hk with ⟨h1, h2⟩ | ⟨j, -, h2⟩
    · exact hD.2 k q h2
    · exact hF _ (hD1.2 j q h2)
theorem lw_i {post : Int32 → S → Prop} (hr : va_Run p l e R s m args below meth c H locs cells slots mc ms (F0 m pc ls st) rest (va_Qi post (sw_Post G (va_A wc H.size) cs) (va_A wc H.size) a) (va_A wc H.size))
    (hP : va_P G vwCl ws H) (hD : va_D A ws) (hS : va_S A s.heap H locs) (hA : ∀ q : Nat, s.heap.size ≤ q → A q) (isC sel : List Nat) (hC : isC.map (fun i => ws[i]?) = wc.map some) (hl : ∀ u, isC.length = (cs u).length) (hw : ws.length = sel.length) (ho : lwOK isC 0 sel = true)
    (kk : ∀ (r : Int32) (u : S) (H1 : Heap) (locs1 : List Loc), post r u → va_P G vwCl (lwU ws sel (cs u)) H1 → va_D A (lwU ws sel (cs u)) → va_S A s.heap H1 locs1 → W p l e R s m args below meth c H1 locs1 (cells + mc) (slots + ms) Q (F0 m (pc + 3) ls (.int r :: rest))) : W p l e R s m args below meth c H locs cells slots Q (F0 m pc ls st) := by
  have hFc := va_free hD hS hA isC hC
  refine va_calli hr hS (fun q _ h => hFc q h) hFc (fun r u t H1 locs1 ht hvm hw2 hB hz1 hk1 hS1 => ?_)
  obtain ⟨hP2, hD2⟩ := lw_back hP hD hFc isC sel hC (hl u) hw ho ht hB hk1
  exact kk r u H1 locs1 hw2 hP2 hD2 hS1
theorem lw_f {post : UInt32 → S → Prop} (hr : va_Run p l e R s m args below meth c H locs cells slots mc ms (F0 m pc ls st) rest (va_Qf post (sw_Post G (va_A wc H.size) cs) (va_A wc H.size) a) (va_A wc H.size))
    (hP : va_P G vwCl ws H) (hD : va_D A ws) (hS : va_S A s.heap H locs) (hA : ∀ q : Nat, s.heap.size ≤ q → A q) (isC sel : List Nat) (hC : isC.map (fun i => ws[i]?) = wc.map some) (hl : ∀ u, isC.length = (cs u).length) (hw : ws.length = sel.length) (ho : lwOK isC 0 sel = true)
    (kk : ∀ (r : UInt32) (u : S) (H1 : Heap) (locs1 : List Loc), post r u → va_P G vwCl (lwU ws sel (cs u)) H1 → va_D A (lwU ws sel (cs u)) → va_S A s.heap H1 locs1 → W p l e R s m args below meth c H1 locs1 (cells + mc) (slots + ms) Q (F0 m (pc + 3) ls (.float r :: rest))) : W p l e R s m args below meth c H locs cells slots Q (F0 m pc ls st) := by
  have hFc := va_free hD hS hA isC hC
  refine va_callf hr hS (fun q _ h => hFc q h) hFc (fun r u t H1 locs1 ht hvm hw2 hB hz1 hk1 hS1 => ?_)
  obtain ⟨hP2, hD2⟩ := lw_back hP hD hFc isC sel hC (hl u) hw ho ht hB hk1
  exact kk r u H1 locs1 hw2 hP2 hD2 hS1
theorem lw_d {post : UInt64 → S → Prop} (hr : va_Run p l e R s m args below meth c H locs cells slots mc ms (F0 m pc ls st) rest (va_Qd post (sw_Post G (va_A wc H.size) cs) (va_A wc H.size) a) (va_A wc H.size))
    (hP : va_P G vwCl ws H) (hD : va_D A ws) (hS : va_S A s.heap H locs) (hA : ∀ q : Nat, s.heap.size ≤ q → A q) (isC sel : List Nat) (hC : isC.map (fun i => ws[i]?) = wc.map some) (hl : ∀ u, isC.length = (cs u).length) (hw : ws.length = sel.length) (ho : lwOK isC 0 sel = true)
    (kk : ∀ (r : UInt64) (u : S) (H1 : Heap) (locs1 : List Loc), post r u → va_P G vwCl (lwU ws sel (cs u)) H1 → va_D A (lwU ws sel (cs u)) → va_S A s.heap H1 locs1 → W p l e R s m args below meth c H1 locs1 (cells + mc) (slots + ms) Q (F0 m (pc + 3) ls (.double r :: rest))) : W p l e R s m args below meth c H locs cells slots Q (F0 m pc ls st) := by
  have hFc := va_free hD hS hA isC hC
  refine va_calld hr hS (fun q _ h => hFc q h) hFc (fun r u t H1 locs1 ht hvm hw2 hB hz1 hk1 hS1 => ?_)
  obtain ⟨hP2, hD2⟩ := lw_back hP hD hFc isC sel hC (hl u) hw ho ht hB hk1
  exact kk r u H1 locs1 hw2 hP2 hD2 hS1
theorem lw_v {post : S → Prop} (hr : va_Run p l e R s m args below meth c H locs cells slots mc ms (F0 m pc ls st) rest (va_Qv post (sw_Post G (va_A wc H.size) cs) (va_A wc H.size) a) (va_A wc H.size))
    (hP : va_P G vwCl ws H) (hD : va_D A ws) (hS : va_S A s.heap H locs) (hA : ∀ q : Nat, s.heap.size ≤ q → A q) (isC sel : List Nat) (hC : isC.map (fun i => ws[i]?) = wc.map some) (hl : ∀ u, isC.length = (cs u).length) (hw : ws.length = sel.length) (ho : lwOK isC 0 sel = true)
    (kk : ∀ (u : S) (H1 : Heap) (locs1 : List Loc), post u → va_P G vwCl (lwU ws sel (cs u)) H1 → va_D A (lwU ws sel (cs u)) → va_S A s.heap H1 locs1 → W p l e R s m args below meth c H1 locs1 (cells + mc) (slots + ms) Q (F0 m (pc + 3) ls rest)) : W p l e R s m args below meth c H locs cells slots Q (F0 m pc ls st) := by
  have hFc := va_free hD hS hA isC hC
  refine va_callv hr hS (fun q _ h => hFc q h) hFc (fun u t H1 locs1 ht hvm hw2 hB hz1 hk1 hS1 => ?_)
  obtain ⟨hP2, hD2⟩ := lw_back hP hD hFc isC sel hC (hl u) hw ho ht hB hk1
  exact kk u H1 locs1 hw2 hP2 hD2 hS1
theorem lw_xi {post : Int32 → S → Prop} {px : Nat × S → Prop} (hr : vx_Run p l e R s m args below meth c H locs cells slots mc ms (F0 m pc ls st) rest (va_Qi post (sw_Post G (va_A wc H.size) cs) (va_A wc H.size) a) (vx_X px (sw_XP G (va_A wc H.size) cs) (va_A wc H.size)) (va_A wc H.size))
    (hP : va_P G vwCl ws H) (hD : va_D A ws) (hS : va_S A s.heap H locs) (hA : ∀ q : Nat, s.heap.size ≤ q → A q) (isC sel : List Nat) (hC : isC.map (fun i => ws[i]?) = wc.map some) (hl : ∀ u, isC.length = (cs u).length) (hw : ws.length = sel.length) (ho : lwOK isC 0 sel = true)
    (kx : ∀ (k : Nat) (u : S) (ce : Cell) (q9 : Addr) (H1 : Heap) (locs1 : List Loc), px (k, u) → va_P G vwCl (lwU ws sel (cs u)) H1 → va_D A (lwU ws sel (cs u)) → va_S A s.heap H1 locs1 → H1[q9]? = some ce → ce.vm = .none → s.vm.findClass (sw_ex k) = some ce.cls → vx_W p l e R s m args below meth c H1 locs1 (cells + mc) (slots + ms) Q (F0 m pc ls rest) q9)
    (kk : ∀ (r : Int32) (u : S) (H1 : Heap) (locs1 : List Loc), post r u → va_P G vwCl (lwU ws sel (cs u)) H1 → va_D A (lwU ws sel (cs u)) → va_S A s.heap H1 locs1 → W p l e R s m args below meth c H1 locs1 (cells + mc) (slots + ms) Q (F0 m (pc + 3) ls (.int r :: rest))) : W p l e R s m args below meth c H locs cells slots Q (F0 m pc ls st) := by
  have hFc := va_free hD hS hA isC hC
  refine vx_calli hr hS (fun q _ h => hFc q h) hFc (fun q _ h => hFc q h) (fun E ce q9 u t H1 locs1 ht hvm hw2 hB hz1 hk1 hS1 g1 g2 g3 => ?_) (fun r u t H1 locs1 ht hvm hw2 hB hz1 hk1 hS1 => ?_)
  · obtain ⟨k, u⟩ := u
    obtain ⟨rfl, hB⟩ := hB
    obtain ⟨hP2, hD2⟩ := lw_back hP hD hFc isC sel hC (hl u) hw ho ht hB hk1
    exact kx k u ce q9 H1 locs1 hw2 hP2 hD2 hS1 g1 g2 g3
  · obtain ⟨hP2, hD2⟩ := lw_back hP hD hFc isC sel hC (hl u) hw ho ht hB hk1
    exact kk r u H1 locs1 hw2 hP2 hD2 hS1
end LWB
/-- the three fields' cells of a plan -/
def LW (ca Z : Nat → Nat) (q1 : Nat) (a : Nat → Nat) (q2 : Nat) (d : Nat → Nat) (qo : Nat) (P : PlanT) (Bf : PlanT) (Dr : PlanT) (Sn : PlanT) (hs : Bool) (t : HistT) (S : SieveT) (sc : SrcT) (rd : ReadT) (sr : ScrT) (sh : SheetT) (ac : Nat → Int32) (pe : Int32) (now : Nat → Int32) (dr : Nat → Int32) (kp : Nat → Int32) (sn : Nat → Int32) (hi : Nat → Int32) (ac2 : Nat → Int32) (u : Int32) (th : Int32) (hs2 : Bool) (ow : Nat → Int32) (tm : Nat → Int32) (en : Int32) (od : Nat → Int32) (fm : Nat → Int32) (fl : Int32) (bf : Nat → Int32) (bl : Int32) (li : Int32) (nx : Int32) (be : Int32) (tk : Int32) (er : Int32) (ea : Int32) (pe2 : Int32) (ne : Int32) (ors : Nat → Int32) (oc : Int32) (o : Nat → Int64) : va_W :=
  [(q1, .inr (7, [.ref (a 0), .ref (a 3), .ref (a 6), .ref (a 9), .int (bI hs), .ref (a 12), .ref (a 38), .ref (a 41), .ref (a 43), .ref (a 44), .ref (a 48), .ref (a 50), .int pe])),
   (a 0, .inr (1, [.int P.1, .int P.2.1, .ref (a 1), .int P.2.2.2.1, .int P.2.2.2.2.1, .ref (a 2), .int P.2.2.2.2.2.2])),
   (a 1, .inl (ca 0, 12, .inl P.2.2.1)),
   (a 2, .inl (ca 0, 30, .inl P.2.2.2.2.2.1)),
   (a 3, .inr (1, [.int Bf.1, .int Bf.2.1, .ref (a 4), .int Bf.2.2.2.1, .int Bf.2.2.2.2.1, .ref (a 5), .int Bf.2.2.2.2.2.2])),
   (a 4, .inl (ca 0, 12, .inl Bf.2.2.1)),
   (a 5, .inl (ca 0, 30, .inl Bf.2.2.2.2.2.1)),
   (a 6, .inr (1, [.int Dr.1, .int Dr.2.1, .ref (a 7), .int Dr.2.2.2.1, .int Dr.2.2.2.2.1, .ref (a 8), .int Dr.2.2.2.2.2.2])),
   (a 7, .inl (ca 0, 12, .inl Dr.2.2.1)),
   (a 8, .inl (ca 0, 30, .inl Dr.2.2.2.2.2.1)),
   (a 9, .inr (1, [.int Sn.1, .int Sn.2.1, .ref (a 10), .int Sn.2.2.2.1, .int Sn.2.2.2.2.1, .ref (a 11), .int Sn.2.2.2.2.2.2])),
   (a 10, .inl (ca 0, 12, .inl Sn.2.2.1)),
   (a 11, .inl (ca 0, 30, .inl Sn.2.2.2.2.2.1)),
   (a 12, .inr (0, [.ref (a 13), .int t.2.1, .int t.2.2])),
   (a 13, .inl (ca 3, 8, .inr (.inr (.inr (.inr (fun j => some (a (14 + 3 * j)))))))),
   (a (14 + 3 * 0), .inr (1, [.int (t.1 0).1, .int (t.1 0).2.1, .ref (a (15 + 3 * 0)), .int (t.1 0).2.2.2.1, .int (t.1 0).2.2.2.2.1, .ref (a (16 + 3 * 0)), .int (t.1 0).2.2.2.2.2.2])),
   (a (15 + 3 * 0), .inl (ca 0, 12, .inl (t.1 0).2.2.1)),
   (a (16 + 3 * 0), .inl (ca 0, 30, .inl (t.1 0).2.2.2.2.2.1)),
   (a (14 + 3 * 1), .inr (1, [.int (t.1 1).1, .int (t.1 1).2.1, .ref (a (15 + 3 * 1)), .int (t.1 1).2.2.2.1, .int (t.1 1).2.2.2.2.1, .ref (a (16 + 3 * 1)), .int (t.1 1).2.2.2.2.2.2])),
   (a (15 + 3 * 1), .inl (ca 0, 12, .inl (t.1 1).2.2.1)),
   (a (16 + 3 * 1), .inl (ca 0, 30, .inl (t.1 1).2.2.2.2.2.1)),
   (a (14 + 3 * 2), .inr (1, [.int (t.1 2).1, .int (t.1 2).2.1, .ref (a (15 + 3 * 2)), .int (t.1 2).2.2.2.1, .int (t.1 2).2.2.2.2.1, .ref (a (16 + 3 * 2)), .int (t.1 2).2.2.2.2.2.2])),
   (a (15 + 3 * 2), .inl (ca 0, 12, .inl (t.1 2).2.2.1)),
   (a (16 + 3 * 2), .inl (ca 0, 30, .inl (t.1 2).2.2.2.2.2.1)),
   (a (14 + 3 * 3), .inr (1, [.int (t.1 3).1, .int (t.1 3).2.1, .ref (a (15 + 3 * 3)), .int (t.1 3).2.2.2.1, .int (t.1 3).2.2.2.2.1, .ref (a (16 + 3 * 3)), .int (t.1 3).2.2.2.2.2.2])),
   (a (15 + 3 * 3), .inl (ca 0, 12, .inl (t.1 3).2.2.1)),
   (a (16 + 3 * 3), .inl (ca 0, 30, .inl (t.1 3).2.2.2.2.2.1)),
   (a (14 + 3 * 4), .inr (1, [.int (t.1 4).1, .int (t.1 4).2.1, .ref (a (15 + 3 * 4)), .int (t.1 4).2.2.2.1, .int (t.1 4).2.2.2.2.1, .ref (a (16 + 3 * 4)), .int (t.1 4).2.2.2.2.2.2])),
   (a (15 + 3 * 4), .inl (ca 0, 12, .inl (t.1 4).2.2.1)),
   (a (16 + 3 * 4), .inl (ca 0, 30, .inl (t.1 4).2.2.2.2.2.1)),
   (a (14 + 3 * 5), .inr (1, [.int (t.1 5).1, .int (t.1 5).2.1, .ref (a (15 + 3 * 5)), .int (t.1 5).2.2.2.1, .int (t.1 5).2.2.2.2.1, .ref (a (16 + 3 * 5)), .int (t.1 5).2.2.2.2.2.2])),
   (a (15 + 3 * 5), .inl (ca 0, 12, .inl (t.1 5).2.2.1)),
   (a (16 + 3 * 5), .inl (ca 0, 30, .inl (t.1 5).2.2.2.2.2.1)),
   (a (14 + 3 * 6), .inr (1, [.int (t.1 6).1, .int (t.1 6).2.1, .ref (a (15 + 3 * 6)), .int (t.1 6).2.2.2.1, .int (t.1 6).2.2.2.2.1, .ref (a (16 + 3 * 6)), .int (t.1 6).2.2.2.2.2.2])),
   (a (15 + 3 * 6), .inl (ca 0, 12, .inl (t.1 6).2.2.1)),
   (a (16 + 3 * 6), .inl (ca 0, 30, .inl (t.1 6).2.2.2.2.2.1)),
   (a (14 + 3 * 7), .inr (1, [.int (t.1 7).1, .int (t.1 7).2.1, .ref (a (15 + 3 * 7)), .int (t.1 7).2.2.2.1, .int (t.1 7).2.2.2.2.1, .ref (a (16 + 3 * 7)), .int (t.1 7).2.2.2.2.2.2])),
   (a (15 + 3 * 7), .inl (ca 0, 12, .inl (t.1 7).2.2.1)),
   (a (16 + 3 * 7), .inl (ca 0, 30, .inl (t.1 7).2.2.2.2.2.1)),
   (a 38, .inr (5, [.ref (a 39), .ref (a 40), .int S.2.2.1, .int S.2.2.2.1, .int S.2.2.2.2.1, .int S.2.2.2.2.2])),
   (a 39, .inl (ca 0, 4802, .inl S.1)),
   (a 40, .inl (ca 0, 4802, .inl S.2.1)),
   (a 41, .inr (6, [.ref (a 42), .int sc.2.1, .int sc.2.2.1, .int sc.2.2.2.1, .int sc.2.2.2.2.1, .int sc.2.2.2.2.2.1, .int sc.2.2.2.2.2.2])),
   (a 42, .inl (ca 1, 600, .inl sc.1)),
   (a 43, .inr (2, [.ref (a 41), .int rd.1, .int rd.2.1, .int rd.2.2])),
   (a 44, .inr (3, [.ref (a 45), .ref (a 46), .ref (a 47), .int sr.2.2.2])),
   (a 45, .inl (ca 4, 20, .inr (.inr (.inr (.inr (fun j => (sr.1 j).map (fun k => Z (10 + k)))))))),
   (a 46, .inl (ca 0, 20, .inl sr.2.1)),
   (a 47, .inl (ca 0, 20, .inl sr.2.2.1)),
   (a 48, .inr (4, [.ref (a 49), .int sh.2])),
   (a 49, .inl (ca 1, 2000, .inl sh.1)),
   (a 50, .inl (ca 0, 5, .inl ac)),
   (q2, .inr (8, [.ref (d 0), .ref (d 1), .ref (d 2), .ref (d 3), .ref (d 4), .ref (d 5), .ref (d 6), .ref (d 0), .int u, .int th, .int (bI hs2), .ref (d 7), .ref (d 8), .int en, .ref (d 9), .ref (d 10), .int fl, .ref (d 11), .int bl, .int li, .int nx, .int be, .int tk, .int er, .int ea, .int pe2, .int ne, .ref (d 12), .ref (d 13), .int oc])),
   (d 0, .inl (ca 0, 45, .inl now)),
   (d 1, .inl (ca 0, 45, .inl dr)),
   (d 2, .inl (ca 0, 45, .inl kp)),
   (d 3, .inl (ca 0, 45, .inl sn)),
   (d 4, .inl (ca 0, 360, .inl hi)),
   (d 5, .inl (ca 0, 5, .inl ac2)),
   (d 6, .inl (ca 0, 4, .inl sw_p4)),
   (d 7, .inl (ca 0, 5300, .inl ow)),
   (d 8, .inl (ca 0, 5300, .inl tm)),
   (d 9, .inl (ca 0, 5300, .inl od)),
   (d 10, .inl (ca 0, 2200, .inl fm)),
   (d 11, .inl (ca 0, 600, .inl bf)),
   (d 12, .inl (ca 0, 60, .inl ors)),
   (d 13, .inl (ca 5, 8, .inr (.inr (.inr (.inr (fun j => some (Z (20 + (3 + j))))))))),
   (qo, .inl (ca 2, 1, .inr (.inl o)))]

/-- what both sides hold of one object, at a call -/
def RLX (v : Nat) (P Sn : PlanT) (hs : Bool) (t : HistT) (S : SieveT) (sc : SrcT) (sh : SheetT) (now sn hi : Nat → Int32) (u : Int32) (fm : Nat → Int32) (fl : Int32) (bf : Nat → Int32) (bl : Int32) : Prop :=
  (∃ w ns R k D, CX w ns R k D P now S) ∧ P.2.2.2.2.2.2 = nI v ∧ HX t hi u ∧ (hs = true → KP Sn sn) ∧ (∃ g f, BY g f sc.1 bf ∧ sc.2.1 = nI f ∧ bl = nI f) ∧ SH sh fm fl
/-- the law's frame: what stays -/
def lwC (p : Program) (l : Launch) (s : State) (m : MethodId) (meth : Method) (c : Code) (G : va_G) (ca Z : Nat → Nat) (b L : Nat) (xs : Nat → Int32) : Prop :=
  sw_Cx p s m #[.ref b] c cL_law 9 RL G ca Z (lwA s) ∧ va_X b L xs s s.heap ∧ b < s.heap.size ∧ L ≤ 3072 ∧ l.stackTraces = false
section
variable {p : Program} {l : Launch} {e : Env} {s : State} {m : MethodId} {below : List Frame} {meth : Method} {c : Code} {H : Heap} {locs : List Loc} {cells slots : Nat} {Q : State → Prop} {G : va_G} {ca Z : Nat → Nat} {b L : Nat} {xs : Nat → Int32} {ls : Array Slot} {i : Nat}
/-- an argument of a call: script[i + k] -/
theorem lw_arg (C : lwC p l s m meth c G ca Z b L xs) (hS : va_S (lwA s) s.heap H locs) (h0 : ls[0]? = some (.val (.ref b))) (h4 : ls[4]? = some (.val (.int (nI i)))) {pc k : Nat} {st : List Value} (hk : k ≤ 5) (hi : i + 6 ≤ L)
    (d1 : decode cL_law pc = .ok (.aload_n 0, 1)) (d2 : decode cL_law (pc + 1) = .ok (.iload 4, 2)) (d3 : decode cL_law (pc + 3) = .ok (.iconst (k : Int), 1)) (d4 : decode cL_law (pc + 4) = .ok (.iadd, 1)) (d5 : decode cL_law (pc + 5) = .ok (.iaload, 1))
    (kk : W p l e room_1 s m #[.ref b] below meth c H locs cells slots Q (F0 m (pc + 6) ls (.int (xs (i + k)) :: st))) : W p l e room_1 s m #[.ref b] below meth c H locs cells slots Q (F0 m pc ls st) := by
  obtain ⟨⟨⟨hx, hb, hml, hown, htU⟩, hK, hX, hY, hA⟩, hXs, hbl, hL, -⟩ := C
  refine lv_aload_n hx hb d1 rfl h0 ?_
  refine lv_iload hx hb d2 h4 ?_
  refine lv_iconst (v := nI k) hx hb d3 (by rfl) ?_
  refine lv_iadd hx hb d4 ?_
  rw [e_add]
  refine va_sld hx hb hXs hbl (show ¬ s.heap.size ≤ b from by omega) hS (pk_in (i + k) L (by omega) rfl (by omega)) d5 ?_
  rw [nI_clamp (by omega)]
  exact kk
/-- what stands behind the third call of a wrapped case -/
theorem lcmp0 {x : Int64} : lg_cmp x x = 0 := by
  unfold lg_cmp
  rw [if_neg (c := x > x) Int64.lt_irrefl, if_pos rfl]
/-- what stands behind the third call of a wrapped case -/
theorem lw_tail (C : lwC p l s m meth c G ca Z b L xs) {ws : va_W} {q0 qo : Nat} {o : Nat → Int64} {r th bb : Int32} {pc : Nat} {o1 o2 o3 o4 : Int} (hP : va_P G vwCl ws H) (ho : ws[q0]? = some (qo, .inl (ca 2, 1, .inr (.inl o))))
    (h3 : ls[3]? = some (.val (.ref qo))) (h5 : ls[5]? = some (.val (.int r))) (h6 : ls[6]? = some (.val (.int bb))) (e1 : r = th) (e2 : th = 0 → o 0 = bb.toInt64)
    (d1 : decode cL_law pc = .ok (.iload 5, 2)) (d2 : decode cL_law (pc + 2) = .ok (.if_icmp .eq o1, 3)) (g1 : ((pc + 2 : Nat) : Int) + o1 = ((pc + 7 : Nat) : Int)) (d3 : decode cL_law (pc + 7) = .ok (.iload 5, 2)) (d4 : decode cL_law (pc + 9) = .ok (.ifCond .ne o2, 3)) (g2 : ((pc + 9 : Nat) : Int) + o2 = ((pc + 24 : Nat) : Int))
    (d5 : decode cL_law (pc + 12) = .ok (.aload_n 3, 1)) (d6 : decode cL_law (pc + 13) = .ok (.iconst 0, 1)) (d7 : decode cL_law (pc + 14) = .ok (.laload, 1)) (d8 : decode cL_law (pc + 15) = .ok (.iload 6, 2)) (d9 : decode cL_law (pc + 17) = .ok (.i2l, 1)) (d10 : decode cL_law (pc + 18) = .ok (.lcmp, 1)) (d11 : decode cL_law (pc + 19) = .ok (.ifCond .eq o3, 3)) (g3 : ((pc + 19 : Nat) : Int) + o3 = ((pc + 24 : Nat) : Int))
    (d12 : decode cL_law (pc + 24) = .ok (.goto o4, 3)) (g4 : ((pc + 24 : Nat) : Int) + o4 = ((2547 : Nat) : Int))
    (kk : W p l e room_1 s m #[.ref b] below meth c H locs cells slots Q (F0 m 2547 ls [])) : W p l e room_1 s m #[.ref b] below meth c H locs cells slots Q (F0 m pc ls [.int th]) := by
  obtain ⟨⟨⟨hx, hb, hml, hown, htU⟩, hK, hX, hY, hA⟩, hXs, hbl, hL, -⟩ := C
  refine lv_iload hx hb d1 h5 ?_
  refine lv_icmp_eq hx hb d2 g1 (fun _ => ?_) (fun c => absurd e1.symm c)
  refine lv_iload hx hb d3 h5 ?_
  refine lv_if_ne hx hb d4 g2 (fun _ => ?_) (fun c => ?_)
  · exact lv_goto hx hb d12 g4 kk
  · refine lv_aload_n hx hb d5 rfl h3 ?_
    refine lv_iconst (v := 0) hx hb d6 (by decide) ?_
    refine va_lald hx hb hK hP q0 2 ho rfl (sw_vin (by decide)) d7 ?_
    refine lv_iload hx hb d8 h6 ?_
    refine lv_i2l (v := bb.toInt64) hx hb d9 rfl ?_
    rw [show o (0 : Int32).toNatClampNeg = bb.toInt64 from e2 (by rw [← e1]; exact c)]
    refine W.lcmp hx hb d10 ?_
    refine lv_if_eq hx hb d11 g3 (fun _ => ?_) (fun c => ?_)
    · exact lv_goto hx hb d12 g4 kk
    · exact absurd (lcmp0) c
theorem agw1 {c0 : Nat} {R : Nat ⊕ Int32} {bb th : Int32} {o : Nat → Int64} (h : ag c0 R bb th) : (wr1 R o).1 = th ∧ (th = 0 → (wr1 R o).2 0 = bb.toInt64) := by
  cases R with
  | inl q =>
    obtain ⟨-, h⟩ := h
    subst h
    exact ⟨rfl, fun z => absurd z (by decide)⟩
  | inr v =>
    obtain ⟨h, h2⟩ := h
    subst h h2
    exact ⟨rfl, fun _ => show vp_updL o 0 bb.toInt64 0 = _ from pk_uLs⟩
theorem agw2 {R : Nat ⊕ Int32} {bb th : Int32} {o : Nat → Int64} (h : ag2 R bb th) : (wr2 R o).1 = th ∧ (th = 0 → (wr2 R o).2 0 = bb.toInt64) := by
  cases R with
  | inl q =>
    rcases h with ⟨rfl, rfl⟩ | ⟨rfl, rfl⟩
    · exact ⟨rfl, fun z => absurd z (by decide)⟩
    · exact ⟨rfl, fun z => absurd z (by decide)⟩
  | inr v =>
    obtain ⟨h, h2⟩ := h
    subst h h2
    exact ⟨rfl, fun _ => show vp_updL o 0 bb.toInt64 0 = _ from pk_uLs⟩
theorem agk {c0 : Nat} {R : Nat ⊕ Int32} {bb th : Int32} (h : ag c0 R bb th) : ∀ k, R = .inl k → k = c0 := by
  intro k e
  subst e
  exact h.1
theorem va_forg (hS : va_S (lwA s) s.heap H locs) : va_S (lwA s) s.heap H [] := ⟨hS.1, hS.2.1, fun _ h => absurd h List.not_mem_nil⟩
end
section
variable {p : Program} {l : Launch} {e : Env} {s : State} {m : MethodId} {below : List Frame} {meth : Method} {c : Code} {H : Heap} {locs : List Loc} {cells slots : Nat} {Q : State → Prop} {G : va_G} {ca Z : Nat → Nat} {b L : Nat} {xs : Nat → Int32} {ls : Array Slot} {i : Nat}
/-- a boolean out of an int -/
theorem lw_bool (C : lwC p l s m meth c G ca Z b L xs) {pc : Nat} {o1 o2 : Int} {x : Int32} {st : List Value} (d1 : decode cL_law pc = .ok (.ifCond .eq o1, 3)) (d2 : decode cL_law (pc + 3) = .ok (.iconst 1, 1)) (d3 : decode cL_law (pc + 4) = .ok (.goto o2, 3)) (d4 : decode cL_law (pc + 7) = .ok (.iconst 0, 1))
    (g1 : ((pc : Nat) : Int) + o1 = ((pc + 7 : Nat) : Int)) (g2 : ((pc + 4 : Nat) : Int) + o2 = ((pc + 8 : Nat) : Int))
    (kk : W p l e room_1 s m #[.ref b] below meth c H locs cells slots Q (F0 m (pc + 8) ls (.int (bI (decide (¬ x = 0))) :: st))) : W p l e room_1 s m #[.ref b] below meth c H locs cells slots Q (F0 m pc ls (.int x :: st)) := by
  obtain ⟨⟨⟨hx, hb, hml, hown, htU⟩, hK, hX, hY, hA⟩, hXs, hbl, hL, -⟩ := C
  refine lv_if_eq hx hb d1 g1 (fun q => ?_) (fun q => ?_)
  · rw [decide_eq_false (fun z => z q)] at kk
    exact lv_iconst (v := 0) hx hb d4 (by decide) kk
  · rw [decide_eq_true q] at kk
    refine lv_iconst (v := 1) hx hb d2 (by decide) ?_
    exact lv_goto hx hb d3 g2 kk
/-- two doubles are held against each other -/
theorem lw_dtail (C : lwC p l s m meth c G ca Z b L xs) {pc : Nat} {x : UInt64} {o1 o2 : Int} (h5 : ls[5]? = some (.val (.double x))) (h7 : ls[7]? = some (.val (.double x))) (hq : Op.cmpValue (FP.dcmp x x) .l = 0)
    (d1 : decode cL_law pc = .ok (.dload 5, 2)) (d2 : decode cL_law (pc + 2) = .ok (.dload 7, 2)) (d3 : decode cL_law (pc + 4) = .ok (.dcmp .l, 1)) (d4 : decode cL_law (pc + 5) = .ok (.ifCond .eq o1, 3)) (g1 : ((pc + 5 : Nat) : Int) + o1 = ((pc + 26 : Nat) : Int)) (d5 : decode cL_law (pc + 26) = .ok (.goto o2, 3)) (g2 : ((pc + 26 : Nat) : Int) + o2 = ((2547 : Nat) : Int))
    (kk : W p l e room_1 s m #[.ref b] below meth c H locs cells slots Q (F0 m 2547 ls [])) : W p l e room_1 s m #[.ref b] below meth c H locs cells slots Q (F0 m pc ls []) := by
  obtain ⟨⟨⟨hx, hb, hml, hown, htU⟩, hK, hX, hY, hA⟩, hXs, hbl, hL, -⟩ := C
  refine lv_dload hx hb d1 h5 ?_
  refine lv_dload hx hb d2 h7 ?_
  refine lv_dcmp hx hb d3 ?_
  rw [hq]
  refine lv_if_eq hx hb d4 g1 (fun _ => ?_) (fun q => absurd rfl q)
  exact lv_goto hx hb d5 g2 kk
end
def lwKK (p : Program) (l : Launch) (e : Env) (s : State) (m : MethodId) (below : List Frame) (meth : Method) (c : Code) (G : va_G) (ca Z : Nat → Nat) (b q1 : Nat) (a : Nat → Nat) (q2 : Nat) (d : Nat → Nat) (qo cells slots i v : Nat) (Q : State → Prop) : Prop :=
  ∀ (v2 : Nat) (P : PlanT) (Bf : PlanT) (Dr : PlanT) (Sn : PlanT) (hs : Bool) (t : HistT) (S : SieveT) (sc : SrcT) (rd : ReadT) (sr : ScrT) (sh : SheetT) (ac : Nat → Int32) (pe : Int32) (now : Nat → Int32) (dr : Nat → Int32) (kp : Nat → Int32) (sn : Nat → Int32) (hi : Nat → Int32) (u : Int32) (th : Int32) (ow : Nat → Int32) (tm : Nat → Int32) (en : Int32) (od : Nat → Int32) (fm : Nat → Int32) (fl : Int32) (bf : Nat → Int32) (bl : Int32) (li : Int32) (nx : Int32) (be : Int32) (tk : Int32) (er : Int32) (ea : Int32) (ne : Int32) (ors : Nat → Int32) (oc : Int32) (o : Nat → Int64) (H : Heap) (ls : Array Slot), v2 ≤ v + 2100 → RLX v2 P Sn hs t S sc sh now sn hi u fm fl bf bl → va_P G vwCl (LW ca Z q1 a q2 d qo P Bf Dr Sn hs t S sc rd sr sh ac pe now dr kp sn hi ac u th hs ow tm en od fm fl bf bl li nx be tk er ea pe ne ors oc o) H → va_D (lwA s) (LW ca Z q1 a q2 d qo P Bf Dr Sn hs t S sc rd sr sh ac pe now dr kp sn hi ac u th hs ow tm en od fm fl bf bl li nx be tk er ea pe ne ors oc o) → va_S (lwA s) s.heap H [] → lv_has ls 9 [(0, .ref b), (1, .ref q1), (2, .ref q2), (3, .ref qo), (4, .int (nI i))] →
    W p l e room_1 s m #[.ref b] below meth c H [] (cells + 2) (slots + 12) Q (F0 m 2547 ls [])
