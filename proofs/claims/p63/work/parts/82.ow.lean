/-! ===== the law: its world ===== -/
abbrev lwA (s : State) : Nat → Prop := fun q => s.heap.size ≤ q
/-- the cells that `sel` names, put anew: 0 keeps, j + 1 takes the callee's j-th -/
def lwN : va_W → Nat → Nat × va_E → Nat × va_E
  | [], _, x => x
  | y :: _, 0, _ => y
  | _ :: ys, j + 1, x => lwN ys j x
theorem lwN_of : ∀ (c : va_W) (j : Nat) (x : Nat × va_E), j < c.length → c[j]? = some (lwN c j x)
  | [], _, _, h => absurd h (Nat.not_lt_zero _)
  | _ :: _, 0, _, _ => rfl
  | _ :: ys, j + 1, x, h => lwN_of ys j x (Nat.lt_of_succ_lt_succ h)
def lwU : va_W → List Nat → va_W → va_W
  | x :: ws, 0 :: ss, c => x :: lwU ws ss c
  | x :: ws, (j + 1) :: ss, c => lwN c j x :: lwU ws ss c
  | ws, _, _ => ws
/-- the selection is the callee's places turned round -/
def lwOK (isC : List Nat) : Nat → List Nat → Bool
  | _, [] => true
  | k, 0 :: ss => decide (k ∉ isC) && lwOK isC (k + 1) ss
  | k, (j + 1) :: ss => decide (isC[j]? = some k) && lwOK isC (k + 1) ss
theorem lwU_of {isC : List Nat} {c : va_W} (hl : isC.length = c.length) : ∀ (ss : List Nat) (ws : va_W) (n k : Nat) (q : Nat × va_E), (lwU ws ss c)[k]? = some q → ws.length = ss.length → lwOK isC n ss = true → (n + k ∉ isC ∧ ws[k]? = some q) ∨ ∃ j : Nat, isC[j]? = some (n + k) ∧ c[j]? = some q
  | [], [], n, k, q, h, _, _ => by
    simp [lwU] at h
  | [], _ :: _, n, k, q, h, e, _ => by simp at e
  | _ :: _, [], n, k, q, h, e, _ => by simp at e
  | 0 :: ss, x :: ws, n, 0, q, h, e, o => by
    simp only [lwOK, Bool.and_eq_true, decide_eq_true_eq] at o
    exact Or.inl ⟨o.1, h⟩
  | 0 :: ss, x :: ws, n, k + 1, q, h, e, o => by
    simp only [lwOK, Bool.and_eq_true, decide_eq_true_eq] at o
    have := lwU_of hl ss ws (n + 1) k q h (by simpa using e) o.2
    rw [show n + 1 + k = n + (k + 1) by omega] at this
    exact this
  | (j + 1) :: ss, x :: ws, n, 0, q, h, e, o => by
    simp only [lwOK, Bool.and_eq_true, decide_eq_true_eq] at o
    refine Or.inr ⟨j, o.1, ?_⟩
    have hj : j < c.length := by
      rw [← hl]
      exact (List.getElem?_eq_some_iff.mp o.1).1
    rw [lwN_of c j x hj]
    exact h
  | (j + 1) :: ss, x :: ws, n, k + 1, q, h, e, o => by
    simp only [lwOK, Bool.and_eq_true, decide_eq_true_eq] at o
    have := lwU_of hl ss ws (n + 1) k q h (by simpa using e) o.2
    rw [show n + 1 + k = n + (k + 1) by omega] at this
    exact this
section LWB
variable {p : Program} {l : Launch} {e : Env} {R : Room} {s : State} {m : MethodId} {args : Array Value} {below : List Frame} {meth : Method} {c : Code} {H : Heap} {locs : List Loc} {cells slots : Nat} {Q : State → Prop}
  {mc ms pc : Nat} {G : va_G} {A : Nat → Prop} {ws wc : va_W} {rest st : List Value} {S : Type} {cs : S → va_W} {ls : Array Slot} {a : Array Value}
theorem lw_back {u : S} {H1 : Heap} {t : State} (hP : va_P G vwCl ws H) (hD : va_D A ws) (hF : ∀ q, va_A wc H.size q → A q) (isC sel : List Nat) (hC : isC.map (fun i => ws[i]?) = wc.map some) (hl : isC.length = (cs u).length) (hw : ws.length = sel.length) (ho : lwOK isC 0 sel = true)
    (ht : t.heap = H1) (hB : sw_Post G (va_A wc H.size) cs u t) (hk1 : ∀ q : Nat, q < H.size → ¬ va_A wc H.size q → H1[q]? = H[q]?) : va_P G vwCl (lwU ws sel (cs u)) H1 ∧ va_D A (lwU ws sel (cs u)) := by
  obtain ⟨hP1, hD1⟩ := hB
  have of : ∀ (k : Nat) (q : Nat × va_E), (lwU ws sel (cs u))[k]? = some q → (k ∉ isC ∧ ws[k]? = some q) ∨ ∃ j : Nat, isC[j]? = some k ∧ (cs u)[j]? = some q := fun k q h => by
    have := lwU_of hl sel ws 0 k q h hw ho
    rw [Nat.zero_add] at this
    exact this
  rw [ht] at hP1
  have apart : ∀ (k : Nat) (q : Nat × va_E), k ∉ isC → ws[k]? = some q → ¬ va_A wc H.size q.1 := by
    intro k q hk hq z
    rcases z with ⟨k2, e2, h⟩ | h
    · have h1 : (isC.map (fun i => ws[i]?))[k2]? = some (some (q.1, e2)) := by rw [hC, List.getElem?_map, h]; rfl
      rw [List.getElem?_map] at h1
      cases hi : isC[k2]? with
      | none => rw [hi] at h1; cases h1
      | some i =>
        rw [hi] at h1
        have h2 := hD.1 k i q (q.1, e2) hq (Option.some.inj h1) rfl
        rw [h2] at hk
        exact hk (List.mem_of_getElem? hi)
    · have := (hP k q hq).lt
      omega
  refine ⟨fun k q hk => ?_, fun i j x y hi hj hxy => ?_, fun k q hk => ?_⟩
  · rcases of k q hk with ⟨h1, h2⟩ | ⟨j, -, h2⟩
    · exact (hP k q h2).kept (hk1 q.1 (hP k q h2).lt (apart k q h1 h2))
    · exact hP1 j q h2
  · rcases of i x hi with ⟨h1, h2⟩ | ⟨i1, h1, h2⟩
    · rcases of j y hj with ⟨h3, h4⟩ | ⟨j1, h3, h4⟩
      · exact hD.1 i j x y h2 h4 hxy
      · refine absurd ?_ (apart i x h1 h2)
        rw [hxy]
        exact hD1.2 j1 y h4
    · rcases of j y hj with ⟨h3, h4⟩ | ⟨j1, h3, h4⟩
      · refine absurd ?_ (apart j y h3 h4)
        rw [← hxy]
        exact hD1.2 i1 x h2
      · have e1 := hD1.1 i1 j1 x y h2 h4 hxy
        rw [e1, h3] at h1
        exact (Option.some.inj h1).symm
  · rcases of k q hk with ⟨h1, h2⟩ | ⟨j, -, h2⟩
    · exact hD.2 k q h2
    · exact hF _ (hD1.2 j q h2)
theorem lw_i {post : Int32 → S → Prop} (hr : va_Run p l e R s m args below meth c H locs cells slots mc ms (F0 m pc ls st) rest (va_Qi post (sw_Post G (va_A wc H.size) cs) (va_A wc H.size) a) (va_A wc H.size))
    (hP : va_P G vwCl ws H) (hD : va_D A ws) (hS : va_S A s.heap H locs) (hA : ∀ q : Nat, s.heap.size ≤ q → A q) (isC sel : List Nat) (hC : isC.map (fun i => ws[i]?) = wc.map some) (hl : ∀ u, isC.length = (cs u).length) (hw : ws.length = sel.length) (ho : lwOK isC 0 sel = true)
    (kk : ∀ (r : Int32) (u : S) (H1 : Heap) (locs1 : List Loc), post r u → va_P G vwCl (lwU ws sel (cs u)) H1 → va_D A (lwU ws sel (cs u)) → va_S A s.heap H1 locs1 → W p l e R s m args below meth c H1 locs1 (cells + mc) (slots + ms) Q (F0 m (pc + 3) ls (.int r :: rest))) : W p l e R s m args below meth c H locs cells slots Q (F0 m pc ls st) := by
  have hFc := va_free hD hS hA isC hC
  refine va_calli hr hS (fun q _ h => hFc q h) hFc (fun r u t H1 locs1 ht hvm hw2 hB hz1 hk1 hS1 => ?_)
  obtain ⟨hP2, hD2⟩ := lw_back hP hD hFc isC sel hC (hl u) hw ho ht hB hk1
  exact kk r u H1 locs1 hw2 hP2 hD2 hS1
theorem lw_v {post : S → Prop} (hr : va_Run p l e R s m args below meth c H locs cells slots mc ms (F0 m pc ls st) rest (va_Qv post (sw_Post G (va_A wc H.size) cs) (va_A wc H.size) a) (va_A wc H.size))
    (hP : va_P G vwCl ws H) (hD : va_D A ws) (hS : va_S A s.heap H locs) (hA : ∀ q : Nat, s.heap.size ≤ q → A q) (isC sel : List Nat) (hC : isC.map (fun i => ws[i]?) = wc.map some) (hl : ∀ u, isC.length = (cs u).length) (hw : ws.length = sel.length) (ho : lwOK isC 0 sel = true)
    (kk : ∀ (u : S) (H1 : Heap) (locs1 : List Loc), post u → va_P G vwCl (lwU ws sel (cs u)) H1 → va_D A (lwU ws sel (cs u)) → va_S A s.heap H1 locs1 → W p l e R s m args below meth c H1 locs1 (cells + mc) (slots + ms) Q (F0 m (pc + 3) ls rest)) : W p l e R s m args below meth c H locs cells slots Q (F0 m pc ls st) := by
  have hFc := va_free hD hS hA isC hC
  refine va_callv hr hS (fun q _ h => hFc q h) hFc (fun u t H1 locs1 ht hvm hw2 hB hz1 hk1 hS1 => ?_)
  obtain ⟨hP2, hD2⟩ := lw_back hP hD hFc isC sel hC (hl u) hw ho ht hB hk1
  exact kk u H1 locs1 hw2 hP2 hD2 hS1
end LWB
/-- the object's cells: 52 of them -/
def OW (ca Z : Nat → Nat) (q : Nat) (a : Nat → Nat) (P : PlanT) (Bf : PlanT) (Dr : PlanT) (Sn : PlanT) (hs : Bool) (t : HistT) (S : SieveT) (sc : SrcT) (rd : ReadT) (sr : ScrT) (sh : SheetT) (ac : Nat → Int32) (pe : Int32) : va_W :=
  [(q, .inr (7, [.ref (a 0), .ref (a 3), .ref (a 6), .ref (a 9), .int (bI hs), .ref (a 12), .ref (a 38), .ref (a 41), .ref (a 43), .ref (a 44), .ref (a 48), .ref (a 50), .int pe])),
   (a 0, .inr (1, [.int P.1, .int P.2.1, .ref (a 1), .int P.2.2.2.1, .int P.2.2.2.2.1, .ref (a 2), .int P.2.2.2.2.2.2])),
   (a 1, .inl (ca 0, 12, .inl P.2.2.1)),
   (a 2, .inl (ca 0, 30, .inl P.2.2.2.2.2.1)),
   (a 3, .inr (1, [.int Bf.1, .int Bf.2.1, .ref (a 4), .int Bf.2.2.2.1, .int Bf.2.2.2.2.1, .ref (a 5), .int Bf.2.2.2.2.2.2])),
   (a 4, .inl (ca 0, 12, .inl Bf.2.2.1)),
   (a 5, .inl (ca 0, 30, .inl Bf.2.2.2.2.2.1)),
   (a 6, .inr (1, [.int Dr.1, .int Dr.2.1, .ref (a 7), .int Dr.2.2.2.1, .int Dr.2.2.2.2.1, .ref (a 8), .int Dr.2.2.2.2.2.2])),
   (a 7, .inl (ca 0, 12, .inl Dr.2.2.1)),
   (a 8, .inl (ca 0, 30, .inl Dr.2.2.2.2.2.1)),
   (a 9, .inr (1, [.int Sn.1, .int Sn.2.1, .ref (a 10), .int Sn.2.2.2.1, .int Sn.2.2.2.2.1, .ref (a 11), .int Sn.2.2.2.2.2.2])),
   (a 10, .inl (ca 0, 12, .inl Sn.2.2.1)),
   (a 11, .inl (ca 0, 30, .inl Sn.2.2.2.2.2.1)),
   (a 12, .inr (0, [.ref (a 13), .int t.2.1, .int t.2.2])),
   (a 13, .inl (ca 2, 8, .inr (.inr (.inr (.inr (fun j => some (a (14 + 3 * j)))))))),
   (a (14 + 3 * 0), .inr (1, [.int (t.1 0).1, .int (t.1 0).2.1, .ref (a (15 + 3 * 0)), .int (t.1 0).2.2.2.1, .int (t.1 0).2.2.2.2.1, .ref (a (16 + 3 * 0)), .int (t.1 0).2.2.2.2.2.2])),
   (a (15 + 3 * 0), .inl (ca 0, 12, .inl (t.1 0).2.2.1)),
   (a (16 + 3 * 0), .inl (ca 0, 30, .inl (t.1 0).2.2.2.2.2.1)),
   (a (14 + 3 * 1), .inr (1, [.int (t.1 1).1, .int (t.1 1).2.1, .ref (a (15 + 3 * 1)), .int (t.1 1).2.2.2.1, .int (t.1 1).2.2.2.2.1, .ref (a (16 + 3 * 1)), .int (t.1 1).2.2.2.2.2.2])),
   (a (15 + 3 * 1), .inl (ca 0, 12, .inl (t.1 1).2.2.1)),
   (a (16 + 3 * 1), .inl (ca 0, 30, .inl (t.1 1).2.2.2.2.2.1)),
   (a (14 + 3 * 2), .inr (1, [.int (t.1 2).1, .int (t.1 2).2.1, .ref (a (15 + 3 * 2)), .int (t.1 2).2.2.2.1, .int (t.1 2).2.2.2.2.1, .ref (a (16 + 3 * 2)), .int (t.1 2).2.2.2.2.2.2])),
   (a (15 + 3 * 2), .inl (ca 0, 12, .inl (t.1 2).2.2.1)),
   (a (16 + 3 * 2), .inl (ca 0, 30, .inl (t.1 2).2.2.2.2.2.1)),
   (a (14 + 3 * 3), .inr (1, [.int (t.1 3).1, .int (t.1 3).2.1, .ref (a (15 + 3 * 3)), .int (t.1 3).2.2.2.1, .int (t.1 3).2.2.2.2.1, .ref (a (16 + 3 * 3)), .int (t.1 3).2.2.2.2.2.2])),
   (a (15 + 3 * 3), .inl (ca 0, 12, .inl (t.1 3).2.2.1)),
   (a (16 + 3 * 3), .inl (ca 0, 30, .inl (t.1 3).2.2.2.2.2.1)),
   (a (14 + 3 * 4), .inr (1, [.int (t.1 4).1, .int (t.1 4).2.1, .ref (a (15 + 3 * 4)), .int (t.1 4).2.2.2.1, .int (t.1 4).2.2.2.2.1, .ref (a (16 + 3 * 4)), .int (t.1 4).2.2.2.2.2.2])),
   (a (15 + 3 * 4), .inl (ca 0, 12, .inl (t.1 4).2.2.1)),
   (a (16 + 3 * 4), .inl (ca 0, 30, .inl (t.1 4).2.2.2.2.2.1)),
   (a (14 + 3 * 5), .inr (1, [.int (t.1 5).1, .int (t.1 5).2.1, .ref (a (15 + 3 * 5)), .int (t.1 5).2.2.2.1, .int (t.1 5).2.2.2.2.1, .ref (a (16 + 3 * 5)), .int (t.1 5).2.2.2.2.2.2])),
   (a (15 + 3 * 5), .inl (ca 0, 12, .inl (t.1 5).2.2.1)),
   (a (16 + 3 * 5), .inl (ca 0, 30, .inl (t.1 5).2.2.2.2.2.1)),
   (a (14 + 3 * 6), .inr (1, [.int (t.1 6).1, .int (t.1 6).2.1, .ref (a (15 + 3 * 6)), .int (t.1 6).2.2.2.1, .int (t.1 6).2.2.2.2.1, .ref (a (16 + 3 * 6)), .int (t.1 6).2.2.2.2.2.2])),
   (a (15 + 3 * 6), .inl (ca 0, 12, .inl (t.1 6).2.2.1)),
   (a (16 + 3 * 6), .inl (ca 0, 30, .inl (t.1 6).2.2.2.2.2.1)),
   (a (14 + 3 * 7), .inr (1, [.int (t.1 7).1, .int (t.1 7).2.1, .ref (a (15 + 3 * 7)), .int (t.1 7).2.2.2.1, .int (t.1 7).2.2.2.2.1, .ref (a (16 + 3 * 7)), .int (t.1 7).2.2.2.2.2.2])),
   (a (15 + 3 * 7), .inl (ca 0, 12, .inl (t.1 7).2.2.1)),
   (a (16 + 3 * 7), .inl (ca 0, 30, .inl (t.1 7).2.2.2.2.2.1)),
   (a 38, .inr (5, [.ref (a 39), .ref (a 40), .int S.2.2.1, .int S.2.2.2.1, .int S.2.2.2.2.1, .int S.2.2.2.2.2])),
   (a 39, .inl (ca 0, 4802, .inl S.1)),
   (a 40, .inl (ca 0, 4802, .inl S.2.1)),
   (a 41, .inr (6, [.ref (a 42), .int sc.2.1, .int sc.2.2.1, .int sc.2.2.2.1, .int sc.2.2.2.2.1, .int sc.2.2.2.2.2.1, .int sc.2.2.2.2.2.2])),
   (a 42, .inl (ca 1, 600, .inl sc.1)),
   (a 43, .inr (2, [.ref (a 41), .int rd.1, .int rd.2.1, .int rd.2.2])),
   (a 44, .inr (3, [.ref (a 45), .ref (a 46), .ref (a 47), .int sr.2.2.2])),
   (a 45, .inl (ca 3, 20, .inr (.inr (.inr (.inr (fun j => (sr.1 j).map (fun k => Z (10 + k)))))))),
   (a 46, .inl (ca 0, 20, .inl sr.2.1)),
   (a 47, .inl (ca 0, 20, .inl sr.2.2.1)),
   (a 48, .inr (4, [.ref (a 49), .int sh.2])),
   (a 49, .inl (ca 1, 2000, .inl sh.1)),
   (a 50, .inl (ca 0, 5, .inl ac))]
section
variable {s : State} {H : Heap} {locs : List Loc}
theorem va_forg (hS : va_S (lwA s) s.heap H locs) : va_S (lwA s) s.heap H [] := ⟨hS.1, hS.2.1, fun _ h => absurd h List.not_mem_nil⟩
end
