/-! ===== the law: its switch and its loop ===== -/
section
variable {p : Program} {l : Launch} {e : Env} {s : State} {m : MethodId} {below : List Frame} {meth : Method} {c : Code} {H : Heap} {cells slots : Nat} {Q : State → Prop} {G : va_G} {ca Z : Nat → Nat} {b L q1 q2 qo i v : Nat} {a d : Nat → Nat} {xs : Nat → Int32} {ls : Array Slot}
  {P : PlanT} {Bf : PlanT} {Dr : PlanT} {Sn : PlanT} {hs : Bool} {t : HistT} {S : SieveT} {sc : SrcT} {rd : ReadT} {sr : ScrT} {sh : SheetT} {ac : Nat → Int32} {pe : Int32} {now : Nat → Int32} {dr : Nat → Int32} {kp : Nat → Int32} {sn : Nat → Int32} {hi : Nat → Int32} {u : Int32} {th : Int32} {ow : Nat → Int32} {tm : Nat → Int32} {en : Int32} {od : Nat → Int32} {fm : Nat → Int32} {fl : Int32} {bf : Nat → Int32} {bl : Int32} {li : Int32} {nx : Int32} {be : Int32} {tk : Int32} {er : Int32} {ea : Int32} {ne : Int32} {ors : Nat → Int32} {oc : Int32} {o : Nat → Int64}
set_option maxHeartbeats 4000000 in
set_option maxRecDepth 100000 in
theorem lw_switch {x : Int32} (C : lwC p l s m meth c G ca Z b L xs) (hcl : cells + 2 ≤ 601024) (hsl : slots + 12 ≤ 7293033) (hil : i + 6 ≤ L) (hvv : v + 5000 < 2 ^ 31) (hRL : RLX v P Sn hs t S sc sh now sn hi u fm fl bf bl) (hP : va_P G vwCl (LW ca Z q1 a q2 d qo P Bf Dr Sn hs t S sc rd sr sh ac pe now dr kp sn hi ac u th hs ow tm en od fm fl bf bl li nx be tk er ea pe ne ors oc o) H) (hD : va_D (lwA s) (LW ca Z q1 a q2 d qo P Bf Dr Sn hs t S sc rd sr sh ac pe now dr kp sn hi ac u th hs ow tm en od fm fl bf bl li nx be tk er ea pe ne ors oc o)) (hS : va_S (lwA s) s.heap H []) (hl : lv_has ls 9 [(0, .ref b), (1, .ref q1), (2, .ref q2), (3, .ref qo), (4, .int (nI i))]) (KK : lwKK p l e s m below meth c G ca Z b q1 a q2 d qo cells slots i v Q) (hx63 : ∃ j : Nat, j < 64 ∧ x = nI j) :
    W p l e room_1 s m #[.ref b] below meth c H [] cells slots Q (F0 m 40 ls [.int x]) := by
  obtain ⟨⟨⟨hx, hb, hml, hown, htU⟩, hK, hX, hY, hA⟩, hXs, hbl, hL, hfl⟩ := id C
  obtain ⟨j, hj, rfl⟩ := hx63
  have h0 : 0 ≤ j := Nat.zero_le j
  rcases Nat.eq_or_lt_of_le h0 with rfl | h1
  · exact lv_tableIn (tgt := 296) hx hb dL_law_40 (by decide) (by decide) rfl (by decide) (lc_0 C hcl hsl hil hvv hRL hP hD hS hl KK)
  have h1 : 1 ≤ j := h1
  rcases Nat.eq_or_lt_of_le h1 with rfl | h2
  · exact lv_tableIn (tgt := 369) hx hb dL_law_40 (by decide) (by decide) rfl (by decide) (lc_1 C hcl hsl hil hvv hRL hP hD hS hl KK)
  have h2 : 2 ≤ j := h2
  rcases Nat.eq_or_lt_of_le h2 with rfl | h3
  · exact lv_tableIn (tgt := 425) hx hb dL_law_40 (by decide) (by decide) rfl (by decide) (lc_2 C hcl hsl hil hvv hRL hP hD hS hl KK)
  have h3 : 3 ≤ j := h3
  rcases Nat.eq_or_lt_of_le h3 with rfl | h4
  · exact lv_tableIn (tgt := 438) hx hb dL_law_40 (by decide) (by decide) rfl (by decide) (lc_3 C hcl hsl hil hvv hRL hP hD hS hl KK)
  have h4 : 4 ≤ j := h4
  rcases Nat.eq_or_lt_of_le h4 with rfl | h5
  · exact lv_tableIn (tgt := 494) hx hb dL_law_40 (by decide) (by decide) rfl (by decide) (lc_4 C hcl hsl hil hvv hRL hP hD hS hl KK)
  have h5 : 5 ≤ j := h5
  rcases Nat.eq_or_lt_of_le h5 with rfl | h6
  · exact lv_tableIn (tgt := 550) hx hb dL_law_40 (by decide) (by decide) rfl (by decide) (lc_5 C hcl hsl hil hvv hRL hP hD hS hl KK)
  have h6 : 6 ≤ j := h6
  rcases Nat.eq_or_lt_of_le h6 with rfl | h7
  · exact lv_tableIn (tgt := 618) hx hb dL_law_40 (by decide) (by decide) rfl (by decide) (lc_6 C hcl hsl hil hvv hRL hP hD hS hl KK)
  have h7 : 7 ≤ j := h7
  rcases Nat.eq_or_lt_of_le h7 with rfl | h8
  · exact lv_tableIn (tgt := 686) hx hb dL_law_40 (by decide) (by decide) rfl (by decide) (lc_7 C hcl hsl hil hvv hRL hP hD hS hl KK)
  have h8 : 8 ≤ j := h8
  rcases Nat.eq_or_lt_of_le h8 with rfl | h9
  · exact lv_tableIn (tgt := 711) hx hb dL_law_40 (by decide) (by decide) rfl (by decide) (lc_8 C hcl hsl hil hvv hRL hP hD hS hl KK)
  have h9 : 9 ≤ j := h9
  rcases Nat.eq_or_lt_of_le h9 with rfl | h10
  · exact lv_tableIn (tgt := 736) hx hb dL_law_40 (by decide) (by decide) rfl (by decide) (lc_9 C hcl hsl hil hvv hRL hP hD hS hl KK)
  have h10 : 10 ≤ j := h10
  rcases Nat.eq_or_lt_of_le h10 with rfl | h11
  · exact lv_tableIn (tgt := 761) hx hb dL_law_40 (by decide) (by decide) rfl (by decide) (lc_10 C hcl hsl hil hvv hRL hP hD hS hl KK)
  have h11 : 11 ≤ j := h11
  rcases Nat.eq_or_lt_of_le h11 with rfl | h12
  · exact lv_tableIn (tgt := 817) hx hb dL_law_40 (by decide) (by decide) rfl (by decide) (lc_11 C hcl hsl hil hvv hRL hP hD hS hl KK)
  have h12 : 12 ≤ j := h12
  rcases Nat.eq_or_lt_of_le h12 with rfl | h13
  · exact lv_tableIn (tgt := 842) hx hb dL_law_40 (by decide) (by decide) rfl (by decide) (lc_12 C hcl hsl hil hvv hRL hP hD hS hl KK)
  have h13 : 13 ≤ j := h13
  rcases Nat.eq_or_lt_of_le h13 with rfl | h14
  · exact lv_tableIn (tgt := 867) hx hb dL_law_40 (by decide) (by decide) rfl (by decide) (lc_13 C hcl hsl hil hvv hRL hP hD hS hl KK)
  have h14 : 14 ≤ j := h14
  rcases Nat.eq_or_lt_of_le h14 with rfl | h15
  · exact lv_tableIn (tgt := 935) hx hb dL_law_40 (by decide) (by decide) rfl (by decide) (lc_14 C hcl hsl hil hvv hRL hP hD hS hl KK)
  have h15 : 15 ≤ j := h15
  rcases Nat.eq_or_lt_of_le h15 with rfl | h16
  · exact lv_tableIn (tgt := 1003) hx hb dL_law_40 (by decide) (by decide) rfl (by decide) (lc_15 C hcl hsl hil hvv hRL hP hD hS hl KK)
  have h16 : 16 ≤ j := h16
  rcases Nat.eq_or_lt_of_le h16 with rfl | h17
  · exact lv_tableIn (tgt := 1028) hx hb dL_law_40 (by decide) (by decide) rfl (by decide) (lc_16 C hcl hsl hil hvv hRL hP hD hS hl KK)
  have h17 : 17 ≤ j := h17
  rcases Nat.eq_or_lt_of_le h17 with rfl | h18
  · exact lv_tableIn (tgt := 1053) hx hb dL_law_40 (by decide) (by decide) rfl (by decide) (lc_17 C hcl hsl hil hvv hRL hP hD hS hl KK)
  have h18 : 18 ≤ j := h18
  rcases Nat.eq_or_lt_of_le h18 with rfl | h19
  · exact lv_tableIn (tgt := 1090) hx hb dL_law_40 (by decide) (by decide) rfl (by decide) (lc_18 C hcl hsl hil hvv hRL hP hD hS hl KK)
  have h19 : 19 ≤ j := h19
  rcases Nat.eq_or_lt_of_le h19 with rfl | h20
  · exact lv_tableIn (tgt := 1115) hx hb dL_law_40 (by decide) (by decide) rfl (by decide) (lc_19 C hcl hsl hil hvv hRL hP hD hS hl KK)
  have h20 : 20 ≤ j := h20
  rcases Nat.eq_or_lt_of_le h20 with rfl | h21
  · exact lv_tableIn (tgt := 1140) hx hb dL_law_40 (by decide) (by decide) rfl (by decide) (lc_20 C hcl hsl hil hvv hRL hP hD hS hl KK)
  have h21 : 21 ≤ j := h21
  rcases Nat.eq_or_lt_of_le h21 with rfl | h22
  · exact lv_tableIn (tgt := 1153) hx hb dL_law_40 (by decide) (by decide) rfl (by decide) (lc_21 C hcl hsl hil hvv hRL hP hD hS hl KK)
  have h22 : 22 ≤ j := h22
  rcases Nat.eq_or_lt_of_le h22 with rfl | h23
  · exact lv_tableIn (tgt := 1178) hx hb dL_law_40 (by decide) (by decide) rfl (by decide) (lc_22 C hcl hsl hil hvv hRL hP hD hS hl KK)
  have h23 : 23 ≤ j := h23
  rcases Nat.eq_or_lt_of_le h23 with rfl | h24
  · exact lv_tableIn (tgt := 1234) hx hb dL_law_40 (by decide) (by decide) rfl (by decide) (lc_23 C hcl hsl hil hvv hRL hP hD hS hl KK)
  have h24 : 24 ≤ j := h24
  rcases Nat.eq_or_lt_of_le h24 with rfl | h25
  · exact lv_tableIn (tgt := 1287) hx hb dL_law_40 (by decide) (by decide) rfl (by decide) (lc_24 C hcl hsl hil hvv hRL hP hD hS hl KK)
  have h25 : 25 ≤ j := h25
  rcases Nat.eq_or_lt_of_le h25 with rfl | h26
  · exact lv_tableIn (tgt := 1343) hx hb dL_law_40 (by decide) (by decide) rfl (by decide) (lc_25 C hcl hsl hil hvv hRL hP hD hS hl KK)
  have h26 : 26 ≤ j := h26
  rcases Nat.eq_or_lt_of_le h26 with rfl | h27
  · exact lv_tableIn (tgt := 1356) hx hb dL_law_40 (by decide) (by decide) rfl (by decide) (lc_26 C hcl hsl hil hvv hRL hP hD hS hl KK)
  have h27 : 27 ≤ j := h27
  rcases Nat.eq_or_lt_of_le h27 with rfl | h28
  · exact lv_tableIn (tgt := 1369) hx hb dL_law_40 (by decide) (by decide) rfl (by decide) (lc_27 C hcl hsl hil hvv hRL hP hD hS hl KK)
  have h28 : 28 ≤ j := h28
  rcases Nat.eq_or_lt_of_le h28 with rfl | h29
  · exact lv_tableIn (tgt := 1425) hx hb dL_law_40 (by decide) (by decide) rfl (by decide) (lc_28 C hcl hsl hil hvv hRL hP hD hS hl KK)
  have h29 : 29 ≤ j := h29
  rcases Nat.eq_or_lt_of_le h29 with rfl | h30
  · exact lv_tableIn (tgt := 1450) hx hb dL_law_40 (by decide) (by decide) rfl (by decide) (lc_29 C hcl hsl hil hvv hRL hP hD hS hl KK)
  have h30 : 30 ≤ j := h30
  rcases Nat.eq_or_lt_of_le h30 with rfl | h31
  · exact lv_tableIn (tgt := 1475) hx hb dL_law_40 (by decide) (by decide) rfl (by decide) (lc_30 C hcl hsl hil hvv hRL hP hD hS hl KK)
  have h31 : 31 ≤ j := h31
  rcases Nat.eq_or_lt_of_le h31 with rfl | h32
  · exact lv_tableIn (tgt := 1531) hx hb dL_law_40 (by decide) (by decide) rfl (by decide) (lc_31 C hcl hsl hil hvv hRL hP hD hS hl KK)
  have h32 : 32 ≤ j := h32
  rcases Nat.eq_or_lt_of_le h32 with rfl | h33
  · exact lv_tableIn (tgt := 1544) hx hb dL_law_40 (by decide) (by decide) rfl (by decide) (lc_32 C hcl hsl hil hvv hRL hP hD hS hl KK)
  have h33 : 33 ≤ j := h33
  rcases Nat.eq_or_lt_of_le h33 with rfl | h34
  · exact lv_tableIn (tgt := 1557) hx hb dL_law_40 (by decide) (by decide) rfl (by decide) (lc_33 C hcl hsl hil hvv hRL hP hD hS hl KK)
  have h34 : 34 ≤ j := h34
  rcases Nat.eq_or_lt_of_le h34 with rfl | h35
  · exact lv_tableIn (tgt := 1570) hx hb dL_law_40 (by decide) (by decide) rfl (by decide) (lc_34 C hcl hsl hil hvv hRL hP hD hS hl KK)
  have h35 : 35 ≤ j := h35
  rcases Nat.eq_or_lt_of_le h35 with rfl | h36
  · exact lv_tableIn (tgt := 1583) hx hb dL_law_40 (by decide) (by decide) rfl (by decide) (lc_35 C hcl hsl hil hvv hRL hP hD hS hl KK)
  have h36 : 36 ≤ j := h36
  rcases Nat.eq_or_lt_of_le h36 with rfl | h37
  · exact lv_tableIn (tgt := 1639) hx hb dL_law_40 (by decide) (by decide) rfl (by decide) (lc_36 C hcl hsl hil hvv hRL hP hD hS hl KK)
  have h37 : 37 ≤ j := h37
  rcases Nat.eq_or_lt_of_le h37 with rfl | h38
  · exact lv_tableIn (tgt := 1695) hx hb dL_law_40 (by decide) (by decide) rfl (by decide) (lc_37 C hcl hsl hil hvv hRL hP hD hS hl KK)
  have h38 : 38 ≤ j := h38
  rcases Nat.eq_or_lt_of_le h38 with rfl | h39
  · exact lv_tableIn (tgt := 1708) hx hb dL_law_40 (by decide) (by decide) rfl (by decide) (lc_38 C hcl hsl hil hvv hRL hP hD hS hl KK)
  have h39 : 39 ≤ j := h39
  rcases Nat.eq_or_lt_of_le h39 with rfl | h40
  · exact lv_tableIn (tgt := 1764) hx hb dL_law_40 (by decide) (by decide) rfl (by decide) (lc_39 C hcl hsl hil hvv hRL hP hD hS hl KK)
  have h40 : 40 ≤ j := h40
  rcases Nat.eq_or_lt_of_le h40 with rfl | h41
  · exact lv_tableIn (tgt := 1777) hx hb dL_law_40 (by decide) (by decide) rfl (by decide) (lc_40 C hcl hsl hil hvv hRL hP hD hS hl KK)
  have h41 : 41 ≤ j := h41
  rcases Nat.eq_or_lt_of_le h41 with rfl | h42
  · exact lv_tableIn (tgt := 1790) hx hb dL_law_40 (by decide) (by decide) rfl (by decide) (lc_41 C hcl hsl hil hvv hRL hP hD hS hl KK)
  have h42 : 42 ≤ j := h42
  rcases Nat.eq_or_lt_of_le h42 with rfl | h43
  · exact lv_tableIn (tgt := 1831) hx hb dL_law_40 (by decide) (by decide) rfl (by decide) (lc_42 C hcl hsl hil hvv hRL hP hD hS hl KK)
  have h43 : 43 ≤ j := h43
  rcases Nat.eq_or_lt_of_le h43 with rfl | h44
  · exact lv_tableIn (tgt := 1874) hx hb dL_law_40 (by decide) (by decide) rfl (by decide) (lc_43 C hcl hsl hil hvv hRL hP hD hS hl KK)
  have h44 : 44 ≤ j := h44
  rcases Nat.eq_or_lt_of_le h44 with rfl | h45
  · exact lv_tableIn (tgt := 1930) hx hb dL_law_40 (by decide) (by decide) rfl (by decide) (lc_44 C hcl hsl hil hvv hRL hP hD hS hl KK)
  have h45 : 45 ≤ j := h45
  rcases Nat.eq_or_lt_of_le h45 with rfl | h46
  · exact lv_tableIn (tgt := 1943) hx hb dL_law_40 (by decide) (by decide) rfl (by decide) (lc_45 C hcl hsl hil hvv hRL hP hD hS hl KK)
  have h46 : 46 ≤ j := h46
  rcases Nat.eq_or_lt_of_le h46 with rfl | h47
  · exact lv_tableIn (tgt := 1999) hx hb dL_law_40 (by decide) (by decide) rfl (by decide) (lc_46 C hcl hsl hil hvv hRL hP hD hS hl KK)
  have h47 : 47 ≤ j := h47
  rcases Nat.eq_or_lt_of_le h47 with rfl | h48
  · exact lv_tableIn (tgt := 2067) hx hb dL_law_40 (by decide) (by decide) rfl (by decide) (lc_47 C hcl hsl hil hvv hRL hP hD hS hl KK)
  have h48 : 48 ≤ j := h48
  rcases Nat.eq_or_lt_of_le h48 with rfl | h49
  · exact lv_tableIn (tgt := 2123) hx hb dL_law_40 (by decide) (by decide) rfl (by decide) (lc_48 C hcl hsl hil hvv hRL hP hD hS hl KK)
  have h49 : 49 ≤ j := h49
  rcases Nat.eq_or_lt_of_le h49 with rfl | h50
  · exact lv_tableIn (tgt := 2179) hx hb dL_law_40 (by decide) (by decide) rfl (by decide) (lc_49 C hcl hsl hil hvv hRL hP hD hS hl KK)
  have h50 : 50 ≤ j := h50
  rcases Nat.eq_or_lt_of_le h50 with rfl | h51
  · exact lv_tableIn (tgt := 2235) hx hb dL_law_40 (by decide) (by decide) rfl (by decide) (lc_50 C hcl hsl hil hvv hRL hP hD hS hl KK)
  have h51 : 51 ≤ j := h51
  rcases Nat.eq_or_lt_of_le h51 with rfl | h52
  · exact lv_tableIn (tgt := 2291) hx hb dL_law_40 (by decide) (by decide) rfl (by decide) (lc_51 C hcl hsl hil hvv hRL hP hD hS hl KK)
  have h52 : 52 ≤ j := h52
  rcases Nat.eq_or_lt_of_le h52 with rfl | h53
  · exact lv_tableIn (tgt := 2347) hx hb dL_law_40 (by decide) (by decide) rfl (by decide) (lc_52 C hcl hsl hil hvv hRL hP hD hS hl KK)
  have h53 : 53 ≤ j := h53
  rcases Nat.eq_or_lt_of_le h53 with rfl | h54
  · exact lv_tableIn (tgt := 2360) hx hb dL_law_40 (by decide) (by decide) rfl (by decide) (lc_53 C hcl hsl hil hvv hRL hP hD hS hl KK)
  have h54 : 54 ≤ j := h54
  rcases Nat.eq_or_lt_of_le h54 with rfl | h55
  · exact lv_tableIn (tgt := 2416) hx hb dL_law_40 (by decide) (by decide) rfl (by decide) (lc_54 C hcl hsl hil hvv hRL hP hD hS hl KK)
  have h55 : 55 ≤ j := h55
  rcases Nat.eq_or_lt_of_le h55 with rfl | h56
  · exact lv_tableIn (tgt := 2472) hx hb dL_law_40 (by decide) (by decide) rfl (by decide) (lc_55 C hcl hsl hil hvv hRL hP hD hS hl KK)
  have h56 : 56 ≤ j := h56
  rcases Nat.eq_or_lt_of_le h56 with rfl | h57
  · exact lv_tableIn (tgt := 2497) hx hb dL_law_40 (by decide) (by decide) rfl (by decide) (lc_56 C hcl hsl hil hvv hRL hP hD hS hl KK)
  have h57 : 57 ≤ j := h57
  rcases Nat.eq_or_lt_of_le h57 with rfl | h58
  · exact lv_tableIn (tgt := 2510) hx hb dL_law_40 (by decide) (by decide) rfl (by decide) (lc_57 C hcl hsl hil hvv hRL hP hD hS hl KK)
  have h58 : 58 ≤ j := h58
  rcases Nat.eq_or_lt_of_le h58 with rfl | h59
  · exact lv_tableIn (tgt := 2523) hx hb dL_law_40 (by decide) (by decide) rfl (by decide) (lc_58 C hcl hsl hil hvv hRL hP hD hS hl KK)
  have h59 : 59 ≤ j := h59
  rcases Nat.eq_or_lt_of_le h59 with rfl | h60
  · exact lv_tableIn (tgt := 2534) hx hb dL_law_40 (by decide) (by decide) rfl (by decide) (lc_59 C hcl hsl hil hvv hRL hP hD hS hl KK)
  have h60 : 60 ≤ j := h60
  rcases Nat.eq_or_lt_of_le h60 with rfl | h61
  · refine lv_tableOut (tgt := 2547) hx hb dL_law_40 (Or.inr (by decide)) (by decide) ?_
    exact W.widen (k := cells + 2) (n := slots + 12) (by omega) (by omega) (KK v P Bf Dr Sn hs t S sc rd sr sh ac pe now dr kp sn hi u th ow tm en od fm fl bf bl li nx be tk er ea ne ors oc o H ls (by omega) hRL hP hD hS hl)
  have h61 : 61 ≤ j := h61
  rcases Nat.eq_or_lt_of_le h61 with rfl | h62
  · refine lv_tableOut (tgt := 2547) hx hb dL_law_40 (Or.inr (by decide)) (by decide) ?_
    exact W.widen (k := cells + 2) (n := slots + 12) (by omega) (by omega) (KK v P Bf Dr Sn hs t S sc rd sr sh ac pe now dr kp sn hi u th ow tm en od fm fl bf bl li nx be tk er ea ne ors oc o H ls (by omega) hRL hP hD hS hl)
  have h62 : 62 ≤ j := h62
  rcases Nat.eq_or_lt_of_le h62 with rfl | h63
  · refine lv_tableOut (tgt := 2547) hx hb dL_law_40 (Or.inr (by decide)) (by decide) ?_
    exact W.widen (k := cells + 2) (n := slots + 12) (by omega) (by omega) (KK v P Bf Dr Sn hs t S sc rd sr sh ac pe now dr kp sn hi u th ow tm en od fm fl bf bl li nx be tk er ea ne ors oc o H ls (by omega) hRL hP hD hS hl)
  have h63 : 63 ≤ j := h63
  rcases Nat.eq_or_lt_of_le h63 with rfl | h64
  · refine lv_tableOut (tgt := 2547) hx hb dL_law_40 (Or.inr (by decide)) (by decide) ?_
    exact W.widen (k := cells + 2) (n := slots + 12) (by omega) (by omega) (KK v P Bf Dr Sn hs t S sc rd sr sh ac pe now dr kp sn hi u th ow tm en od fm fl bf bl li nx be tk er ea ne ors oc o H ls (by omega) hRL hP hD hS hl)
  have h64 : 64 ≤ j := h64
  omega
theorem lw_gt {i L : Nat} (hi : i ≤ 3072) (hL : L ≤ 3072) (h : ¬ Int32.ofNat L - 6 < nI i) : i + 6 ≤ L := by
  refine Nat.le_of_not_lt fun z => h ?_
  by_cases q : 6 ≤ L
  · rw [show Int32.ofNat L - 6 = nI (L - 6) from e_sub (a := L) (b := 6) q]
    exact nI_lt (by omega) (by omega)
  · rw [Int32.lt_iff_toInt_lt, nI_toInt (by omega)]
    have h0 : 0 ≤ L := Nat.zero_le L
    have : (Int32.ofNat L - 6).toInt < 0 := by
      rcases Nat.eq_or_lt_of_le h0 with rfl | h1
      · decide
      rcases Nat.eq_or_lt_of_le h1 with rfl | h2
      · decide
      rcases Nat.eq_or_lt_of_le h2 with rfl | h3
      · decide
      rcases Nat.eq_or_lt_of_le h3 with rfl | h4
      · decide
      rcases Nat.eq_or_lt_of_le h4 with rfl | h5
      · decide
      rcases Nat.eq_or_lt_of_le h5 with rfl | h6
      · decide
      omega
    omega
end
section
variable {p : Program} {l : Launch} {e : Env} {s : State} {m : MethodId} {below : List Frame} {meth : Method} {c : Code} {Q : State → Prop} {G : va_G} {ca Z : Nat → Nat} {b L q1 q2 qo : Nat} {a d : Nat → Nat} {xs : Nat → Int32}
set_option maxHeartbeats 4000000 in
set_option maxRecDepth 100000 in
theorem lw_loop (C : lwC p l s m meth c G ca Z b L xs) (KE : ∀ (H : Heap) (ls : Array Slot), va_S (lwA s) s.heap H [] → W p l e room_1 s m #[.ref b] below meth c H [] 601024 7293033 Q (F0 m 2553 ls [])) :
    ∀ (n i v cells slots : Nat) (P : PlanT) (Bf : PlanT) (Dr : PlanT) (Sn : PlanT) (hs : Bool) (t : HistT) (S : SieveT) (sc : SrcT) (rd : ReadT) (sr : ScrT) (sh : SheetT) (ac : Nat → Int32) (pe : Int32) (now : Nat → Int32) (dr : Nat → Int32) (kp : Nat → Int32) (sn : Nat → Int32) (hi : Nat → Int32) (u : Int32) (th : Int32) (ow : Nat → Int32) (tm : Nat → Int32) (en : Int32) (od : Nat → Int32) (fm : Nat → Int32) (fl : Int32) (bf : Nat → Int32) (bl : Int32) (li : Int32) (nx : Int32) (be : Int32) (tk : Int32) (er : Int32) (ea : Int32) (ne : Int32) (ors : Nat → Int32) (oc : Int32) (o : Nat → Int64) (H : Heap) (ls : Array Slot), L < i + 6 * n + 6 → i ≤ 3072 → cells + 2 * n ≤ 601024 → slots + 12 * n ≤ 7293033 → v + 2100 * n + 5000 < 2 ^ 31 → RLX v P Sn hs t S sc sh now sn hi u fm fl bf bl → va_P G vwCl (LW ca Z q1 a q2 d qo P Bf Dr Sn hs t S sc rd sr sh ac pe now dr kp sn hi ac u th hs ow tm en od fm fl bf bl li nx be tk er ea pe ne ors oc o) H → va_D (lwA s) (LW ca Z q1 a q2 d qo P Bf Dr Sn hs t S sc rd sr sh ac pe now dr kp sn hi ac u th hs ow tm en od fm fl bf bl li nx be tk er ea pe ne ors oc o) → va_S (lwA s) s.heap H [] → lv_has ls 9 [(0, .ref b), (1, .ref q1), (2, .ref q2), (3, .ref qo), (4, .int (nI i))] →
      W p l e room_1 s m #[.ref b] below meth c H [] cells slots Q (F0 m 23 ls []) := by
  obtain ⟨⟨⟨hx, hb, hml, hown, htU⟩, hK, hX, hY, hA⟩, hXs, hbl, hL, hfl⟩ := id C
  intro n
  induction n with
  | zero =>
    intro i v cells slots P Bf Dr Sn hs t S sc rd sr sh ac pe now dr kp sn hi u th ow tm en od fm fl bf bl li nx be tk er ea ne ors oc o H ls h1 h2 h3 h4 h5 hRL hP hD hS hl
    refine lv_iload hx hb dL_law_23 (lv_at hl 4 rfl) ?_
    refine lv_aload_n hx hb dL_law_25 rfl (lv_at hl 0 rfl) ?_
    refine va_slen hx hb hXs hbl (show ¬ s.heap.size ≤ b from by omega) hS dL_law_26 ?_
    refine lv_bipush (v := 6) hx hb dL_law_27 (by decide) ?_
    refine lv_isub hx hb dL_law_29 ?_
    refine lv_icmp_gt (tgt := 2553) hx hb dL_law_30 (by decide) (fun _ => ?_) (fun c9 => ?_)
    · exact W.widen (k := 601024) (n := 7293033) (by omega) (by omega) (KE H ls hS)
    · have := lw_gt h2 hL c9
      omega
  | succ n ih =>
    intro i v cells slots P Bf Dr Sn hs t S sc rd sr sh ac pe now dr kp sn hi u th ow tm en od fm fl bf bl li nx be tk er ea ne ors oc o H ls h1 h2 h3 h4 h5 hRL hP hD hS hl
    refine lv_iload hx hb dL_law_23 (lv_at hl 4 rfl) ?_
    refine lv_aload_n hx hb dL_law_25 rfl (lv_at hl 0 rfl) ?_
    refine va_slen hx hb hXs hbl (show ¬ s.heap.size ≤ b from by omega) hS dL_law_26 ?_
    refine lv_bipush (v := 6) hx hb dL_law_27 (by decide) ?_
    refine lv_isub hx hb dL_law_29 ?_
    refine lv_icmp_gt (tgt := 2553) hx hb dL_law_30 (by decide) (fun _ => ?_) (fun c9 => ?_)
    · exact W.widen (k := 601024) (n := 7293033) (by omega) (by omega) (KE H ls hS)
    · have hil := lw_gt h2 hL c9
      refine lv_aload_n hx hb dL_law_33 rfl (lv_at hl 0 rfl) ?_
      refine lv_iload hx hb dL_law_34 (lv_at hl 4 rfl) ?_
      refine va_sld hx hb hXs hbl (show ¬ s.heap.size ≤ b from by omega) hS (pk_in i L (by omega) rfl (by omega)) dL_law_36 ?_
      refine lv_bipush (v := 63) hx hb dL_law_37 (by decide) ?_
      refine lv_iand hx hb dL_law_39 ?_
      refine lw_switch C (by omega) (by omega) hil (by omega) hRL hP hD hS hl ?_ (pk_andE _ 6 (by decide))
      intro v2 P Bf Dr Sn hs t S sc rd sr sh ac pe now dr kp sn hi u th ow tm en od fm fl bf bl li nx be tk er ea ne ors oc o H ls hv2 hRL hP hD hS hl
      refine lv_iinc (k := 4) (v := nI (i + 6)) (lv' := (4, .int (nI (i + 6))) :: [(0, .ref b), (1, .ref q1), (2, .ref q2), (3, .ref qo)]) hx hb dL_law_2547 hl rfl (e_add i 6) (by decide) rfl (fun ls hl => ?_)
      refine lv_goto (tgt := 23) hx hb dL_law_2550 (by decide) ?_
      exact ih (i + 6) v2 (cells + 2) (slots + 12) P Bf Dr Sn hs t S sc rd sr sh ac pe now dr kp sn hi u th ow tm en od fm fl bf bl li nx be tk er ea ne ors oc o H ls (by omega) (by omega) (by omega) (by omega) (by omega) hRL hP hD hS (lv_sub hl [1, 2, 3, 4, 0] rfl)
end
