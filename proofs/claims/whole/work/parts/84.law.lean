-- 84: a step of the law (written by wip/whole/gen84.py)
theorem lix {i len : Nat} (h : i + 7 ≤ len) (hl : len ≤ 3584) {k : Nat} {y : Int32} (hy : y = nI k) (hk : k < 7) : (0 ≤ nI i + y ∧ nI i + y < nI len) ∧ (nI i + y).toNatClampNeg = i + k := by
  rw [hy, nI_add]
  exact ⟨⟨nI_pos' (by omega), nI_lt (by omega) (by omega)⟩, nI_clamp (by omega)⟩
/-- the law does its call at pc and goes on with the same answers -/
def LawAt (pc : Nat) : Prop := ∀ (D f u a b i len : Nat) (sc : Nat → Int32) (X : Nat → Nat → Int32) (v4 v6 : Value), D ≤ 5900 → zRel D f u a b X X → X 2000000 = sc → X 2000001 0 = nI len → i + 7 ≤ len → len ≤ 3584 →
  ∃ (X2 : Nat → Nat → Int32) (w4 w6 : Value) (f' u' a' b' : Nat), zden 195 pc [.ref 2000000, .ref 0, .ref 90, .int (nI i), v4, .retAddr 0, v6, .retAddr 0] [] (zSH, X) = zden 195 1125 [.ref 2000000, .ref 0, .ref 90, .int (nI i), w4, .retAddr 0, w6, .retAddr 0] [] (zSH, X2) ∧ zRel (D + 11) f' u' a' b' X2 X2 ∧ X2 2000000 = sc ∧ X2 2000001 0 = nI len
theorem law_0 : LawAt 180 := by
  intro D f u a b i len sc X v4 v6 hD hR hS hL hi hlen
  obtain ⟨p1, c1⟩ := lix hi hlen (k := 1) (y := 1) (by decide) (by decide)
  obtain ⟨p2, c2⟩ := lix hi hlen (k := 2) (y := 2) (by decide) (by decide)
  obtain ⟨p3, c3⟩ := lix hi hlen (k := 3) (y := 3) (by decide) (by decide)
  obtain ⟨p4, c4⟩ := lix hi hlen (k := 4) (y := 4) (by decide) (by decide)
  obtain ⟨p5, c5⟩ := lix hi hlen (k := 5) (y := 5) (by decide) (by decide)
  obtain ⟨r, X1, X2, f', u', a', b', q1, q2, q3, q4⟩ := law_call (tc := 70) (ac := [.ref 0, .int (sc (i + 1)), .int (sc (i + 2)), .int (sc (i + 3)), .int (sc (i + 4)), .int (sc (i + 5))]) (tm := 106) (am := [.ref 90, .int (sc (i + 1)), .int (sc (i + 2)), .int (sc (i + 3)), .int (sc (i + 4)), .int (sc (i + 5))]) (CallR.of_call call_heading) hD hR
  have s1 : X1 2000000 = sc := (q4 2000000 (by decide)).1.trans hS
  have l1 : X1 2000001 0 = nI len := by rw [(q4 2000001 (by decide)).1]; exact hL
  refine ⟨X2, v4, v6, f', u', a', b', ?_, q3, (q4 2000000 (by decide)).2.trans hS, by rw [(q4 2000001 (by decide)).2]; exact hL⟩
  rw [B_L_law_180 (by rw [hL]; exact p1) (by rw [hL]; exact p2) (by rw [hL]; exact p3) (by rw [hL]; exact p4) (by rw [hL]; exact p5), hS, c1, c2, c3, c4, c5, q1, zaft_same]
  refine Eq.trans (B_L_law_209 (by rw [l1]; exact p1) (by rw [l1]; exact p2) (by rw [l1]; exact p3) (by rw [l1]; exact p4) (by rw [l1]; exact p5)) ?_
  rw [s1, c1, c2, c3, c4, c5, q2, zaft_same]
  exact B_L_law_238.trans (if_pos rfl)
theorem law_1 : LawAt 243 := by
  intro D f u a b i len sc X v4 v6 hD hR hS hL hi hlen
  obtain ⟨p1, c1⟩ := lix hi hlen (k := 1) (y := 1) (by decide) (by decide)
  obtain ⟨r, X1, X2, f', u', a', b', q1, q2, q3, q4⟩ := law_call (tc := 72) (ac := [.ref 0, .int (sc (i + 1))]) (tm := 116) (am := [.ref 90, .int (sc (i + 1))]) (CallR.of_call call_strike) hD hR
  have s1 : X1 2000000 = sc := (q4 2000000 (by decide)).1.trans hS
  have l1 : X1 2000001 0 = nI len := by rw [(q4 2000001 (by decide)).1]; exact hL
  refine ⟨X2, v4, v6, f', u', a', b', ?_, q3, (q4 2000000 (by decide)).2.trans hS, by rw [(q4 2000001 (by decide)).2]; exact hL⟩
  rw [B_L_law_243 (by rw [hL]; exact p1), hS, c1, q1, zaft_same]
  refine Eq.trans (B_L_law_252 (by rw [l1]; exact p1)) ?_
  rw [s1, c1, q2, zaft_same]
  exact B_L_law_261.trans (if_pos rfl)
theorem law_2 : LawAt 266 := by
  intro D f u a b i len sc X v4 v6 hD hR hS hL hi hlen
  obtain ⟨p1, c1⟩ := lix hi hlen (k := 1) (y := 1) (by decide) (by decide)
  obtain ⟨p2, c2⟩ := lix hi hlen (k := 2) (y := 2) (by decide) (by decide)
  obtain ⟨r, X1, X2, f', u', a', b', q1, q2, q3, q4⟩ := law_call (tc := 73) (ac := [.ref 0, .int (sc (i + 1)), .int (sc (i + 2)), .retAddr 0]) (tm := 118) (am := [.ref 90, .int (sc (i + 1)), .int (sc (i + 2)), .retAddr 0]) (CallR.of_read read_headingOf) hD hR
  have s1 : X1 2000000 = sc := (q4 2000000 (by decide)).1.trans hS
  have l1 : X1 2000001 0 = nI len := by rw [(q4 2000001 (by decide)).1]; exact hL
  refine ⟨X2, v4, v6, f', u', a', b', ?_, q3, (q4 2000000 (by decide)).2.trans hS, by rw [(q4 2000001 (by decide)).2]; exact hL⟩
  rw [B_L_law_266 (by rw [hL]; exact p1) (by rw [hL]; exact p2), hS, c1, c2, q1, zaft_same]
  refine Eq.trans (B_L_law_280 (by rw [l1]; exact p1) (by rw [l1]; exact p2)) ?_
  rw [s1, c1, c2, q2, zaft_same]
  exact B_L_law_294.trans (if_pos rfl)
theorem law_3 : LawAt 299 := by
  intro D f u a b i len sc X v4 v6 hD hR hS hL hi hlen
  obtain ⟨p1, c1⟩ := lix hi hlen (k := 1) (y := 1) (by decide) (by decide)
  obtain ⟨r, X1, X2, f', u', a', b', q1, q2, q3, q4⟩ := law_call (tc := 74) (ac := [.ref 0, .int (sc (i + 1))]) (tm := 125) (am := [.ref 90, .int (sc (i + 1))]) (CallR.of_read read_code) hD hR
  have s1 : X1 2000000 = sc := (q4 2000000 (by decide)).1.trans hS
  have l1 : X1 2000001 0 = nI len := by rw [(q4 2000001 (by decide)).1]; exact hL
  refine ⟨X2, v4, v6, f', u', a', b', ?_, q3, (q4 2000000 (by decide)).2.trans hS, by rw [(q4 2000001 (by decide)).2]; exact hL⟩
  rw [B_L_law_299 (by rw [hL]; exact p1), hS, c1, q1, zaft_same]
  refine Eq.trans (B_L_law_308 (by rw [l1]; exact p1)) ?_
  rw [s1, c1, q2, zaft_same]
  exact B_L_law_317.trans (if_pos rfl)
theorem law_4 : LawAt 322 := by
  intro D f u a b i len sc X v4 v6 hD hR hS hL hi hlen
  obtain ⟨p1, c1⟩ := lix hi hlen (k := 1) (y := 1) (by decide) (by decide)
  obtain ⟨p2, c2⟩ := lix hi hlen (k := 2) (y := 2) (by decide) (by decide)
  obtain ⟨p3, c3⟩ := lix hi hlen (k := 3) (y := 3) (by decide) (by decide)
  obtain ⟨p4, c4⟩ := lix hi hlen (k := 4) (y := 4) (by decide) (by decide)
  obtain ⟨p5, c5⟩ := lix hi hlen (k := 5) (y := 5) (by decide) (by decide)
  obtain ⟨p6, c6⟩ := lix hi hlen (k := 6) (y := 6) (by decide) (by decide)
  obtain ⟨r, X1, X2, f', u', a', b', q1, q2, q3, q4⟩ := law_call (tc := 75) (ac := [.ref 0, .int (sc (i + 1)), .int (sc (i + 2)), .int (sc (i + 3)), .int (sc (i + 4)), .int (sc (i + 5)), .int (sc (i + 6))]) (tm := 126) (am := [.ref 90, .int (sc (i + 1)), .int (sc (i + 2)), .int (sc (i + 3)), .int (sc (i + 4)), .int (sc (i + 5)), .int (sc (i + 6))]) (CallR.of_call call_good) hD hR
  have s1 : X1 2000000 = sc := (q4 2000000 (by decide)).1.trans hS
  have l1 : X1 2000001 0 = nI len := by rw [(q4 2000001 (by decide)).1]; exact hL
  refine ⟨X2, v4, v6, f', u', a', b', ?_, q3, (q4 2000000 (by decide)).2.trans hS, by rw [(q4 2000001 (by decide)).2]; exact hL⟩
  rw [B_L_law_322 (by rw [hL]; exact p1) (by rw [hL]; exact p2) (by rw [hL]; exact p3) (by rw [hL]; exact p4) (by rw [hL]; exact p5) (by rw [hL]; exact p6), hS, c1, c2, c3, c4, c5, c6, q1, zaft_same]
  refine Eq.trans (B_L_law_357 (by rw [l1]; exact p1) (by rw [l1]; exact p2) (by rw [l1]; exact p3) (by rw [l1]; exact p4) (by rw [l1]; exact p5) (by rw [l1]; exact p6)) ?_
  rw [s1, c1, c2, c3, c4, c5, c6, q2, zaft_same]
  exact B_L_law_392.trans (if_pos rfl)
theorem law_5 : LawAt 397 := by
  intro D f u a b i len sc X v4 v6 hD hR hS hL hi hlen
  obtain ⟨p1, c1⟩ := lix hi hlen (k := 1) (y := 1) (by decide) (by decide)
  obtain ⟨p2, c2⟩ := lix hi hlen (k := 2) (y := 2) (by decide) (by decide)
  obtain ⟨p3, c3⟩ := lix hi hlen (k := 3) (y := 3) (by decide) (by decide)
  obtain ⟨r, X1, X2, f', u', a', b', q1, q2, q3, q4⟩ := law_call (tc := 76) (ac := [.ref 0, .int (sc (i + 1)), .int (sc (i + 2)), .int (sc (i + 3))]) (tm := 128) (am := [.ref 90, .int (sc (i + 1)), .int (sc (i + 2)), .int (sc (i + 3))]) (CallR.of_call call_work) hD hR
  have s1 : X1 2000000 = sc := (q4 2000000 (by decide)).1.trans hS
  have l1 : X1 2000001 0 = nI len := by rw [(q4 2000001 (by decide)).1]; exact hL
  refine ⟨X2, v4, v6, f', u', a', b', ?_, q3, (q4 2000000 (by decide)).2.trans hS, by rw [(q4 2000001 (by decide)).2]; exact hL⟩
  rw [B_L_law_397 (by rw [hL]; exact p1) (by rw [hL]; exact p2) (by rw [hL]; exact p3), hS, c1, c2, c3, q1, zaft_same]
  refine Eq.trans (B_L_law_416 (by rw [l1]; exact p1) (by rw [l1]; exact p2) (by rw [l1]; exact p3)) ?_
  rw [s1, c1, c2, c3, q2, zaft_same]
  exact B_L_law_435.trans (if_pos rfl)
theorem law_6 : LawAt 440 := by
  intro D f u a b i len sc X v4 v6 hD hR hS hL hi hlen
  obtain ⟨p1, c1⟩ := lix hi hlen (k := 1) (y := 1) (by decide) (by decide)
  obtain ⟨p2, c2⟩ := lix hi hlen (k := 2) (y := 2) (by decide) (by decide)
  obtain ⟨r, X1, X2, f', u', a', b', q1, q2, q3, q4⟩ := law_call (tc := 78) (ac := [.ref 0, .int (sc (i + 1)), .int (sc (i + 2))]) (tm := 132) (am := [.ref 90, .int (sc (i + 1)), .int (sc (i + 2))]) (CallR.of_read read_goodOf) hD hR
  have s1 : X1 2000000 = sc := (q4 2000000 (by decide)).1.trans hS
  have l1 : X1 2000001 0 = nI len := by rw [(q4 2000001 (by decide)).1]; exact hL
  refine ⟨X2, v4, v6, f', u', a', b', ?_, q3, (q4 2000000 (by decide)).2.trans hS, by rw [(q4 2000001 (by decide)).2]; exact hL⟩
  rw [B_L_law_440 (by rw [hL]; exact p1) (by rw [hL]; exact p2), hS, c1, c2, q1, zaft_same]
  refine Eq.trans (B_L_law_454 (by rw [l1]; exact p1) (by rw [l1]; exact p2)) ?_
  rw [s1, c1, c2, q2, zaft_same]
  exact B_L_law_468.trans (if_pos rfl)
theorem law_7 : LawAt 473 := by
  intro D f u a b i len sc X v4 v6 hD hR hS hL hi hlen
  obtain ⟨p1, c1⟩ := lix hi hlen (k := 1) (y := 1) (by decide) (by decide)
  obtain ⟨p2, c2⟩ := lix hi hlen (k := 2) (y := 2) (by decide) (by decide)
  obtain ⟨r, X1, X2, f', u', a', b', q1, q2, q3, q4⟩ := law_call (tc := 79) (ac := [.ref 0, .int (sc (i + 1)), .int (sc (i + 2))]) (tm := 135) (am := [.ref 90, .int (sc (i + 1)), .int (sc (i + 2))]) (CallR.of_read read_part) hD hR
  have s1 : X1 2000000 = sc := (q4 2000000 (by decide)).1.trans hS
  have l1 : X1 2000001 0 = nI len := by rw [(q4 2000001 (by decide)).1]; exact hL
  refine ⟨X2, v4, v6, f', u', a', b', ?_, q3, (q4 2000000 (by decide)).2.trans hS, by rw [(q4 2000001 (by decide)).2]; exact hL⟩
  rw [B_L_law_473 (by rw [hL]; exact p1) (by rw [hL]; exact p2), hS, c1, c2, q1, zaft_same]
  refine Eq.trans (B_L_law_487 (by rw [l1]; exact p1) (by rw [l1]; exact p2)) ?_
  rw [s1, c1, c2, q2, zaft_same]
  exact B_L_law_501.trans (if_pos rfl)
theorem law_8 : LawAt 506 := by
  intro D f u a b i len sc X v4 v6 hD hR hS hL hi hlen
  obtain ⟨p1, c1⟩ := lix hi hlen (k := 1) (y := 1) (by decide) (by decide)
  obtain ⟨p2, c2⟩ := lix hi hlen (k := 2) (y := 2) (by decide) (by decide)
  obtain ⟨r, X1, X2, f', u', a', b', q1, q2, q3, q4⟩ := law_call (tc := 80) (ac := [.ref 0, .int (sc (i + 1)), .int (sc (i + 2))]) (tm := 136) (am := [.ref 90, .int (sc (i + 1)), .int (sc (i + 2))]) (CallR.of_read read_points) hD hR
  have s1 : X1 2000000 = sc := (q4 2000000 (by decide)).1.trans hS
  have l1 : X1 2000001 0 = nI len := by rw [(q4 2000001 (by decide)).1]; exact hL
  refine ⟨X2, v4, v6, f', u', a', b', ?_, q3, (q4 2000000 (by decide)).2.trans hS, by rw [(q4 2000001 (by decide)).2]; exact hL⟩
  rw [B_L_law_506 (by rw [hL]; exact p1) (by rw [hL]; exact p2), hS, c1, c2, q1, zaft_same]
  refine Eq.trans (B_L_law_520 (by rw [l1]; exact p1) (by rw [l1]; exact p2)) ?_
  rw [s1, c1, c2, q2, zaft_same]
  exact B_L_law_534.trans (if_pos rfl)
theorem law_9 : LawAt 539 := by
  intro D f u a b i len sc X v4 v6 hD hR hS hL hi hlen
  obtain ⟨p1, c1⟩ := lix hi hlen (k := 1) (y := 1) (by decide) (by decide)
  obtain ⟨p2, c2⟩ := lix hi hlen (k := 2) (y := 2) (by decide) (by decide)
  obtain ⟨r, X1, X2, f', u', a', b', q1, q2, q3, q4⟩ := law_call (tc := 81) (ac := [.ref 0, .int (sc (i + 1)), .int (sc (i + 2)), .retAddr 0]) (tm := 137) (am := [.ref 90, .int (sc (i + 1)), .int (sc (i + 2)), .retAddr 0]) (CallR.of_read read_fit) hD hR
  have s1 : X1 2000000 = sc := (q4 2000000 (by decide)).1.trans hS
  have l1 : X1 2000001 0 = nI len := by rw [(q4 2000001 (by decide)).1]; exact hL
  refine ⟨X2, v4, v6, f', u', a', b', ?_, q3, (q4 2000000 (by decide)).2.trans hS, by rw [(q4 2000001 (by decide)).2]; exact hL⟩
  rw [B_L_law_539 (by rw [hL]; exact p1) (by rw [hL]; exact p2), hS, c1, c2, q1, zaft_same]
  refine Eq.trans (B_L_law_553 (by rw [l1]; exact p1) (by rw [l1]; exact p2)) ?_
  rw [s1, c1, c2, q2, zaft_same]
  exact B_L_law_567.trans (if_pos rfl)
theorem law_10 : LawAt 572 := by
  intro D f u a b i len sc X v4 v6 hD hR hS hL hi hlen
  obtain ⟨p1, c1⟩ := lix hi hlen (k := 1) (y := 1) (by decide) (by decide)
  obtain ⟨r, X1, X2, f', u', a', b', q1, q2, q3, q4⟩ := law_call (tc := 82) (ac := [.ref 0, .int (sc (i + 1))]) (tm := 138) (am := [.ref 90, .int (sc (i + 1))]) (CallR.of_read read_fitAgain) hD hR
  have s1 : X1 2000000 = sc := (q4 2000000 (by decide)).1.trans hS
  have l1 : X1 2000001 0 = nI len := by rw [(q4 2000001 (by decide)).1]; exact hL
  refine ⟨X2, v4, v6, f', u', a', b', ?_, q3, (q4 2000000 (by decide)).2.trans hS, by rw [(q4 2000001 (by decide)).2]; exact hL⟩
  rw [B_L_law_572 (by rw [hL]; exact p1), hS, c1, q1, zaft_same]
  refine Eq.trans (B_L_law_581 (by rw [l1]; exact p1)) ?_
  rw [s1, c1, q2, zaft_same]
  exact B_L_law_590.trans (if_pos rfl)
theorem law_11 : LawAt 595 := by
  intro D f u a b i len sc X v4 v6 hD hR hS hL hi hlen
  obtain ⟨p1, c1⟩ := lix hi hlen (k := 1) (y := 1) (by decide) (by decide)
  obtain ⟨r, X1, X2, f', u', a', b', q1, q2, q3, q4⟩ := law_call (tc := 83) (ac := [.ref 0, .int (sc (i + 1))]) (tm := 139) (am := [.ref 90, .int (sc (i + 1)), .retAddr 0, .retAddr 0]) (CallR.of_read read_why) hD hR
  have s1 : X1 2000000 = sc := (q4 2000000 (by decide)).1.trans hS
  have l1 : X1 2000001 0 = nI len := by rw [(q4 2000001 (by decide)).1]; exact hL
  refine ⟨X2, v4, v6, f', u', a', b', ?_, q3, (q4 2000000 (by decide)).2.trans hS, by rw [(q4 2000001 (by decide)).2]; exact hL⟩
  rw [B_L_law_595 (by rw [hL]; exact p1), hS, c1, q1, zaft_same]
  refine Eq.trans (B_L_law_604 (by rw [l1]; exact p1)) ?_
  rw [s1, c1, q2, zaft_same]
  exact B_L_law_613.trans (if_pos rfl)
theorem law_12 : LawAt 618 := by
  intro D f u a b i len sc X v4 v6 hD hR hS hL hi hlen
  obtain ⟨p1, c1⟩ := lix hi hlen (k := 1) (y := 1) (by decide) (by decide)
  obtain ⟨p2, c2⟩ := lix hi hlen (k := 2) (y := 2) (by decide) (by decide)
  obtain ⟨r, X1, X2, f', u', a', b', q1, q2, q3, q4⟩ := law_call (tc := 84) (ac := [.ref 0, .int (sc (i + 1)), .int (sc (i + 2))]) (tm := 140) (am := [.ref 90, .int (sc (i + 1)), .int (sc (i + 2))]) (CallR.of_call call_favour) hD hR
  have s1 : X1 2000000 = sc := (q4 2000000 (by decide)).1.trans hS
  have l1 : X1 2000001 0 = nI len := by rw [(q4 2000001 (by decide)).1]; exact hL
  refine ⟨X2, v4, v6, f', u', a', b', ?_, q3, (q4 2000000 (by decide)).2.trans hS, by rw [(q4 2000001 (by decide)).2]; exact hL⟩
  rw [B_L_law_618 (by rw [hL]; exact p1) (by rw [hL]; exact p2), hS, c1, c2, q1, zaft_same]
  refine Eq.trans (B_L_law_632 (by rw [l1]; exact p1) (by rw [l1]; exact p2)) ?_
  rw [s1, c1, c2, q2, zaft_same]
  exact B_L_law_646.trans (if_pos rfl)
theorem law_13 : LawAt 651 := by
  intro D f u a b i len sc X v4 v6 hD hR hS hL hi hlen
  obtain ⟨p1, c1⟩ := lix hi hlen (k := 1) (y := 1) (by decide) (by decide)
  obtain ⟨r, X1, X2, f', u', a', b', q1, q2, q3, q4⟩ := law_call (tc := 85) (ac := [.ref 0, .int (sc (i + 1))]) (tm := 142) (am := [.ref 90, .int (sc (i + 1))]) (CallR.of_call call_coins) hD hR
  have s1 : X1 2000000 = sc := (q4 2000000 (by decide)).1.trans hS
  have l1 : X1 2000001 0 = nI len := by rw [(q4 2000001 (by decide)).1]; exact hL
  refine ⟨X2, v4, v6, f', u', a', b', ?_, q3, (q4 2000000 (by decide)).2.trans hS, by rw [(q4 2000001 (by decide)).2]; exact hL⟩
  rw [B_L_law_651 (by rw [hL]; exact p1), hS, c1, q1, zaft_same]
  refine Eq.trans (B_L_law_660 (by rw [l1]; exact p1)) ?_
  rw [s1, c1, q2, zaft_same]
  exact B_L_law_669.trans (if_pos rfl)
theorem law_14 : LawAt 674 := by
  intro D f u a b i len sc X v4 v6 hD hR hS hL hi hlen
  obtain ⟨p1, c1⟩ := lix hi hlen (k := 1) (y := 1) (by decide) (by decide)
  obtain ⟨r, X1, X2, f', u', a', b', q1, q2, q3, q4⟩ := law_call (tc := 86) (ac := [.ref 0, .int (sc (i + 1))]) (tm := 144) (am := [.ref 90, .int (sc (i + 1))]) (CallR.of_call call_enter) hD hR
  have s1 : X1 2000000 = sc := (q4 2000000 (by decide)).1.trans hS
  have l1 : X1 2000001 0 = nI len := by rw [(q4 2000001 (by decide)).1]; exact hL
  refine ⟨X2, v4, v6, f', u', a', b', ?_, q3, (q4 2000000 (by decide)).2.trans hS, by rw [(q4 2000001 (by decide)).2]; exact hL⟩
  rw [B_L_law_674 (by rw [hL]; exact p1), hS, c1, q1, zaft_same]
  refine Eq.trans (B_L_law_683 (by rw [l1]; exact p1)) ?_
  rw [s1, c1, q2, zaft_same]
  exact B_L_law_692.trans (if_pos rfl)
theorem law_15 : LawAt 697 := by
  intro D f u a b i len sc X v4 v6 hD hR hS hL hi hlen
  obtain ⟨p1, c1⟩ := lix hi hlen (k := 1) (y := 1) (by decide) (by decide)
  obtain ⟨r, X1, X2, f', u', a', b', q1, q2, q3, q4⟩ := law_call (tc := 87) (ac := [.ref 0, .int (sc (i + 1))]) (tm := 146) (am := [.ref 90, .int (sc (i + 1))]) (CallR.of_call call_export) hD hR
  have s1 : X1 2000000 = sc := (q4 2000000 (by decide)).1.trans hS
  have l1 : X1 2000001 0 = nI len := by rw [(q4 2000001 (by decide)).1]; exact hL
  refine ⟨X2, v4, v6, f', u', a', b', ?_, q3, (q4 2000000 (by decide)).2.trans hS, by rw [(q4 2000001 (by decide)).2]; exact hL⟩
  rw [B_L_law_697 (by rw [hL]; exact p1), hS, c1, q1, zaft_same]
  refine Eq.trans (B_L_law_706 (by rw [l1]; exact p1)) ?_
  rw [s1, c1, q2, zaft_same]
  exact B_L_law_715.trans (if_pos rfl)
theorem law_16 : LawAt 720 := by
  intro D f u a b i len sc X v4 v6 hD hR hS hL hi hlen
  obtain ⟨p1, c1⟩ := lix hi hlen (k := 1) (y := 1) (by decide) (by decide)
  obtain ⟨r, X1, X2, f', u', a', b', q1, q2, q3, q4⟩ := law_call (tc := 88) (ac := [.ref 0, .int (sc (i + 1))]) (tm := 148) (am := [.ref 90, .int (sc (i + 1))]) (CallR.of_call call_days) hD hR
  have s1 : X1 2000000 = sc := (q4 2000000 (by decide)).1.trans hS
  have l1 : X1 2000001 0 = nI len := by rw [(q4 2000001 (by decide)).1]; exact hL
  refine ⟨X2, v4, v6, f', u', a', b', ?_, q3, (q4 2000000 (by decide)).2.trans hS, by rw [(q4 2000001 (by decide)).2]; exact hL⟩
  rw [B_L_law_720 (by rw [hL]; exact p1), hS, c1, q1, zaft_same]
  refine Eq.trans (B_L_law_729 (by rw [l1]; exact p1)) ?_
  rw [s1, c1, q2, zaft_same]
  exact B_L_law_738.trans (if_pos rfl)
theorem law_17 : LawAt 743 := by
  intro D f u a b i len sc X v4 v6 hD hR hS hL hi hlen
  obtain ⟨p1, c1⟩ := lix hi hlen (k := 1) (y := 1) (by decide) (by decide)
  obtain ⟨p2, c2⟩ := lix hi hlen (k := 2) (y := 2) (by decide) (by decide)
  obtain ⟨r, X1, X2, f', u', a', b', q1, q2, q3, q4⟩ := law_call (tc := 89) (ac := [.ref 0, .int (sc (i + 1)), .int (sc (i + 2))]) (tm := 150) (am := [.ref 90, .int (sc (i + 1)), .int (sc (i + 2))]) (CallR.of_read read_would) hD hR
  have s1 : X1 2000000 = sc := (q4 2000000 (by decide)).1.trans hS
  have l1 : X1 2000001 0 = nI len := by rw [(q4 2000001 (by decide)).1]; exact hL
  refine ⟨X2, v4, v6, f', u', a', b', ?_, q3, (q4 2000000 (by decide)).2.trans hS, by rw [(q4 2000001 (by decide)).2]; exact hL⟩
  rw [B_L_law_743 (by rw [hL]; exact p1) (by rw [hL]; exact p2), hS, c1, c2, q1, zaft_same]
  refine Eq.trans (B_L_law_757 (by rw [l1]; exact p1) (by rw [l1]; exact p2)) ?_
  rw [s1, c1, c2, q2, zaft_same]
  exact B_L_law_771.trans (if_pos rfl)
theorem law_18 : LawAt 776 := by
  intro D f u a b i len sc X v4 v6 hD hR hS hL hi hlen
  obtain ⟨p1, c1⟩ := lix hi hlen (k := 1) (y := 1) (by decide) (by decide)
  obtain ⟨r, X1, X2, f', u', a', b', q1, q2, q3, q4⟩ := law_call (tc := 90) (ac := [.ref 0, .int (sc (i + 1)), .retAddr 0, .retAddr 0, .retAddr 0, .retAddr 0]) (tm := 151) (am := [.ref 90, .int (sc (i + 1)), .retAddr 0, .retAddr 0]) (CallR.of_read read_cheapest) hD hR
  have s1 : X1 2000000 = sc := (q4 2000000 (by decide)).1.trans hS
  have l1 : X1 2000001 0 = nI len := by rw [(q4 2000001 (by decide)).1]; exact hL
  refine ⟨X2, v4, v6, f', u', a', b', ?_, q3, (q4 2000000 (by decide)).2.trans hS, by rw [(q4 2000001 (by decide)).2]; exact hL⟩
  rw [B_L_law_776 (by rw [hL]; exact p1), hS, c1, q1, zaft_same]
  refine Eq.trans (B_L_law_785 (by rw [l1]; exact p1)) ?_
  rw [s1, c1, q2, zaft_same]
  exact B_L_law_794.trans (if_pos rfl)
theorem law_19 : LawAt 799 := by
  intro D f u a b i len sc X v4 v6 hD hR hS hL hi hlen
  obtain ⟨p1, c1⟩ := lix hi hlen (k := 1) (y := 1) (by decide) (by decide)
  obtain ⟨r, X1, X2, f', u', a', b', q1, q2, q3, q4⟩ := law_call (tc := 91) (ac := [.ref 0, .int (sc (i + 1))]) (tm := 152) (am := [.ref 90, .int (sc (i + 1)), .retAddr 0, .retAddr 0, .retAddr 0]) (call_rankedR) hD hR
  have s1 : X1 2000000 = sc := (q4 2000000 (by decide)).1.trans hS
  have l1 : X1 2000001 0 = nI len := by rw [(q4 2000001 (by decide)).1]; exact hL
  refine ⟨X2, v4, v6, f', u', a', b', ?_, q3, (q4 2000000 (by decide)).2.trans hS, by rw [(q4 2000001 (by decide)).2]; exact hL⟩
  rw [B_L_law_799 (by rw [hL]; exact p1), hS, c1, q1, zaft_same]
  refine Eq.trans (B_L_law_808 (by rw [l1]; exact p1)) ?_
  rw [s1, c1, q2, zaft_same]
  exact B_L_law_817.trans (if_pos rfl)
theorem law_20 : LawAt 822 := by
  intro D f u a b i len sc X v4 v6 hD hR hS hL hi hlen
  obtain ⟨p1, c1⟩ := lix hi hlen (k := 1) (y := 1) (by decide) (by decide)
  obtain ⟨r, X1, X2, f', u', a', b', q1, q2, q3, q4⟩ := law_call (tc := 92) (ac := [.ref 0, .int (sc (i + 1))]) (tm := 154) (am := [.ref 90, .int (sc (i + 1))]) (call_append) hD hR
  have s1 : X1 2000000 = sc := (q4 2000000 (by decide)).1.trans hS
  have l1 : X1 2000001 0 = nI len := by rw [(q4 2000001 (by decide)).1]; exact hL
  refine ⟨X2, v4, v6, f', u', a', b', ?_, q3, (q4 2000000 (by decide)).2.trans hS, by rw [(q4 2000001 (by decide)).2]; exact hL⟩
  rw [B_L_law_822 (by rw [hL]; exact p1), hS, c1, q1, zaft_same]
  refine Eq.trans (B_L_law_831 (by rw [l1]; exact p1)) ?_
  rw [s1, c1, q2, zaft_same]
  exact B_L_law_840.trans (if_pos rfl)
theorem law_21 : LawAt 845 := by
  intro D f u a b i len sc X v4 v6 hD hR hS hL hi hlen
  obtain ⟨r, X1, X2, f', u', a', b', q1, q2, q3, q4⟩ := law_call (tc := 93) (ac := [.ref 0, .retAddr 0, .retAddr 0]) (tm := 155) (am := [.ref 90, .retAddr 0]) (call_run) hD hR
  have s1 : X1 2000000 = sc := (q4 2000000 (by decide)).1.trans hS
  have l1 : X1 2000001 0 = nI len := by rw [(q4 2000001 (by decide)).1]; exact hL
  refine ⟨X2, v4, v6, f', u', a', b', ?_, q3, (q4 2000000 (by decide)).2.trans hS, by rw [(q4 2000001 (by decide)).2]; exact hL⟩
  rw [B_L_law_845, q1, zaft_same]
  refine Eq.trans (B_L_law_849) ?_
  rw [q2, zaft_same]
  exact B_L_law_853.trans (if_pos rfl)
theorem law_22 : LawAt 858 := by
  intro D f u a b i len sc X v4 v6 hD hR hS hL hi hlen
  obtain ⟨p1, c1⟩ := lix hi hlen (k := 1) (y := 1) (by decide) (by decide)
  obtain ⟨r, X1, X2, f', u', a', b', q1, q2, q3, q4⟩ := law_call (tc := 94) (ac := [.ref 0, .int (sc (i + 1))]) (tm := 167) (am := [.ref 90, .int (sc (i + 1)), .retAddr 0]) (call_tell) hD hR
  have s1 : X1 2000000 = sc := (q4 2000000 (by decide)).1.trans hS
  have l1 : X1 2000001 0 = nI len := by rw [(q4 2000001 (by decide)).1]; exact hL
  refine ⟨X2, v4, v6, f', u', a', b', ?_, q3, (q4 2000000 (by decide)).2.trans hS, by rw [(q4 2000001 (by decide)).2]; exact hL⟩
  rw [B_L_law_858 (by rw [hL]; exact p1), hS, c1, q1, zaft_same]
  refine Eq.trans (B_L_law_867 (by rw [l1]; exact p1)) ?_
  rw [s1, c1, q2, zaft_same]
  exact B_L_law_876.trans (if_pos rfl)
theorem law_23 : LawAt 881 := by
  intro D f u a b i len sc X v4 v6 hD hR hS hL hi hlen
  obtain ⟨p1, c1⟩ := lix hi hlen (k := 1) (y := 1) (by decide) (by decide)
  obtain ⟨r, X1, X2, f', u', a', b', q1, q2, q3, q4⟩ := law_call (tc := 95) (ac := [.ref 0, .int (sc (i + 1)), .retAddr 0]) (tm := 170) (am := [.ref 90, .int (sc (i + 1)), .retAddr 0]) (call_tellHeading) hD hR
  have s1 : X1 2000000 = sc := (q4 2000000 (by decide)).1.trans hS
  have l1 : X1 2000001 0 = nI len := by rw [(q4 2000001 (by decide)).1]; exact hL
  refine ⟨X2, v4, v6, f', u', a', b', ?_, q3, (q4 2000000 (by decide)).2.trans hS, by rw [(q4 2000001 (by decide)).2]; exact hL⟩
  rw [B_L_law_881 (by rw [hL]; exact p1), hS, c1, q1, zaft_same]
  refine Eq.trans (B_L_law_890 (by rw [l1]; exact p1)) ?_
  rw [s1, c1, q2, zaft_same]
  exact B_L_law_899.trans (if_pos rfl)
theorem law_24 : LawAt 904 := by
  intro D f u a b i len sc X v4 v6 hD hR hS hL hi hlen
  obtain ⟨p1, c1⟩ := lix hi hlen (k := 1) (y := 1) (by decide) (by decide)
  obtain ⟨r, X1, X2, f', u', a', b', q1, q2, q3, q4⟩ := law_call (tc := 96) (ac := [.ref 0, .int (sc (i + 1))]) (tm := 171) (am := [.ref 90, .int (sc (i + 1))]) (call_character) hD hR
  have s1 : X1 2000000 = sc := (q4 2000000 (by decide)).1.trans hS
  have l1 : X1 2000001 0 = nI len := by rw [(q4 2000001 (by decide)).1]; exact hL
  refine ⟨X2, v4, v6, f', u', a', b', ?_, q3, (q4 2000000 (by decide)).2.trans hS, by rw [(q4 2000001 (by decide)).2]; exact hL⟩
  rw [B_L_law_904 (by rw [hL]; exact p1), hS, c1, q1, zaft_same]
  refine Eq.trans (B_L_law_913 (by rw [l1]; exact p1)) ?_
  rw [s1, c1, q2, zaft_same]
  exact B_L_law_922.trans (if_pos rfl)
theorem law_26 : LawAt 966 := by
  intro D f u a b i len sc X v4 v6 hD hR hS hL hi hlen
  obtain ⟨p1, c1⟩ := lix hi hlen (k := 1) (y := 1) (by decide) (by decide)
  obtain ⟨r, X1, X2, f', u', a', b', q1, q2, q3, q4⟩ := law_call (tc := 98) (ac := [.ref 0, .int (sc (i + 1))]) (tm := 173) (am := [.ref 90, .int (sc (i + 1))]) (call_account) hD hR
  have s1 : X1 2000000 = sc := (q4 2000000 (by decide)).1.trans hS
  have l1 : X1 2000001 0 = nI len := by rw [(q4 2000001 (by decide)).1]; exact hL
  refine ⟨X2, v4, v6, f', u', a', b', ?_, q3, (q4 2000000 (by decide)).2.trans hS, by rw [(q4 2000001 (by decide)).2]; exact hL⟩
  rw [B_L_law_966 (by rw [hL]; exact p1), hS, c1, q1, zaft_same]
  refine Eq.trans (B_L_law_975 (by rw [l1]; exact p1)) ?_
  rw [s1, c1, q2, zaft_same]
  exact B_L_law_984.trans (if_pos rfl)
theorem law_27 : LawAt 989 := by
  intro D f u a b i len sc X v4 v6 hD hR hS hL hi hlen
  obtain ⟨r, X1, X2, f', u', a', b', q1, q2, q3, q4⟩ := law_call (tc := 99) (ac := [.ref 0]) (tm := 176) (am := [.ref 90]) (CallR.of_read read_isBalanced) hD hR
  have s1 : X1 2000000 = sc := (q4 2000000 (by decide)).1.trans hS
  have l1 : X1 2000001 0 = nI len := by rw [(q4 2000001 (by decide)).1]; exact hL
  refine ⟨X2, v4, v6, f', u', a', b', ?_, q3, (q4 2000000 (by decide)).2.trans hS, by rw [(q4 2000001 (by decide)).2]; exact hL⟩
  rw [B_L_law_989, q1, zaft_same]
  refine Eq.trans (B_L_law_993) ?_
  rw [q2, zaft_same]
  exact B_L_law_997.trans (if_pos rfl)
theorem law_30 : LawAt 1086 := by
  intro D f u a b i len sc X v4 v6 hD hR hS hL hi hlen
  obtain ⟨r, X1, X2, f', u', a', b', q1, q2, q3, q4⟩ := law_call (tc := 102) (ac := [.ref 0]) (tm := 180) (am := [.ref 90, .retAddr 0]) (call_undoR) hD hR
  have s1 : X1 2000000 = sc := (q4 2000000 (by decide)).1.trans hS
  have l1 : X1 2000001 0 = nI len := by rw [(q4 2000001 (by decide)).1]; exact hL
  refine ⟨X2, v4, v6, f', u', a', b', ?_, q3, (q4 2000000 (by decide)).2.trans hS, by rw [(q4 2000001 (by decide)).2]; exact hL⟩
  rw [B_L_law_1086, q1, zaft_same]
  refine Eq.trans (B_L_law_1090) ?_
  rw [q2, zaft_same]
  exact B_L_law_1094.trans (if_pos rfl)
theorem law_31 : LawAt 1099 := by
  intro D f u a b i len sc X v4 v6 hD hR hS hL hi hlen
  obtain ⟨r, X1, X2, f', u', a', b', q1, q2, q3, q4⟩ := law_call (tc := 103) (ac := [.ref 0]) (tm := 181) (am := [.ref 90]) (call_saveR) hD hR
  have s1 : X1 2000000 = sc := (q4 2000000 (by decide)).1.trans hS
  have l1 : X1 2000001 0 = nI len := by rw [(q4 2000001 (by decide)).1]; exact hL
  refine ⟨X2, v4, v6, f', u', a', b', ?_, q3, (q4 2000000 (by decide)).2.trans hS, by rw [(q4 2000001 (by decide)).2]; exact hL⟩
  rw [B_L_law_1099, q1, zaft_same]
  refine Eq.trans (B_L_law_1103) ?_
  rw [q2, zaft_same]
  exact B_L_law_1107.trans (if_pos rfl)
theorem law_32 : LawAt 1112 := by
  intro D f u a b i len sc X v4 v6 hD hR hS hL hi hlen
  obtain ⟨r, X1, X2, f', u', a', b', q1, q2, q3, q4⟩ := law_call (tc := 104) (ac := [.ref 0]) (tm := 182) (am := [.ref 90]) (call_restoreR) hD hR
  have s1 : X1 2000000 = sc := (q4 2000000 (by decide)).1.trans hS
  have l1 : X1 2000001 0 = nI len := by rw [(q4 2000001 (by decide)).1]; exact hL
  refine ⟨X2, v4, v6, f', u', a', b', ?_, q3, (q4 2000000 (by decide)).2.trans hS, by rw [(q4 2000001 (by decide)).2]; exact hL⟩
  rw [B_L_law_1112, q1, zaft_same]
  refine Eq.trans (B_L_law_1116) ?_
  rw [q2, zaft_same]
  exact B_L_law_1120.trans (if_pos rfl)
theorem law_25 : LawAt 927 := by
  intro D f u a b i len sc X v4 v6 hD hR hS hL hi hlen
  obtain ⟨p1, c1⟩ := lix hi hlen (k := 1) (y := 1) (by decide) (by decide)
  by_cases z : sc (i + 1) = 0
  · obtain ⟨r, X1, X2, f', u', a', b', q1, q2, q3, q4⟩ := law_call (tc := 97) (ac := [.ref 0, .int 0]) (tm := 172) (am := [.ref 90, .int 0]) (CallR.of_read read_reason) hD hR
    have s1 : X1 2000000 = sc := (q4 2000000 (by decide)).1.trans hS
    have l1 : X1 2000001 0 = nI len := by rw [(q4 2000001 (by decide)).1]; exact hL
    refine ⟨X2, v4, v6, f', u', a', b', ?_, q3, (q4 2000000 (by decide)).2.trans hS, by rw [(q4 2000001 (by decide)).2]; exact hL⟩
    rw [B_L_law_927 (by rw [hL]; exact p1), hS, c1, if_pos z, B_L_law_941, q1, zaft_same]
    refine Eq.trans (B_L_law_944 (by rw [l1]; exact p1)) ?_
    rw [s1, c1, if_pos z, B_L_law_958, q2, zaft_same]
    exact B_L_law_961.trans (if_pos rfl)
  · obtain ⟨r, X1, X2, f', u', a', b', q1, q2, q3, q4⟩ := law_call (tc := 97) (ac := [.ref 0, .int 1]) (tm := 172) (am := [.ref 90, .int 1]) (CallR.of_read read_reason) hD hR
    have s1 : X1 2000000 = sc := (q4 2000000 (by decide)).1.trans hS
    have l1 : X1 2000001 0 = nI len := by rw [(q4 2000001 (by decide)).1]; exact hL
    refine ⟨X2, v4, v6, f', u', a', b', ?_, q3, (q4 2000000 (by decide)).2.trans hS, by rw [(q4 2000001 (by decide)).2]; exact hL⟩
    rw [B_L_law_927 (by rw [hL]; exact p1), hS, c1, if_neg z, B_L_law_941, q1, zaft_same]
    refine Eq.trans (B_L_law_944 (by rw [l1]; exact p1)) ?_
    rw [s1, c1, if_neg z, B_L_law_958, q2, zaft_same]
    exact B_L_law_961.trans (if_pos rfl)
theorem law_28 (hF : zFP) : LawAt 1002 := by
  intro D f u a b i len sc X v4 v6 hD hR hS hL hi hlen
  obtain ⟨p, q1, q2, q3⟩ := call_mean hF hR
  refine ⟨X, .double p, .double p, f, u, a, b, ?_, hR.mono (by omega), hS, hL⟩
  rw [B_L_law_1002, q1, zaft_same]
  refine Eq.trans B_L_law_1006 ?_
  rw [q2, zaft_same]
  refine Eq.trans B_L_law_1012 ?_
  rw [q3, if_pos (show Op.cmpValue (some Ordering.eq) .l = 0 from rfl)]
  exact B_L_law_1040
theorem law_29 (hF : zFP) : LawAt 1043 := by
  intro D f u a b i len sc X v4 v6 hD hR hS hL hi hlen
  obtain ⟨p, q1, q2, q3, q4⟩ := call_back hF hR
  refine ⟨X, .double (FP.f2d p), .double (FP.f2d p), f, u, a, b, ?_, hR.mono (by omega), hS, hL⟩
  rw [B_L_law_1043, q1, zaft_same]
  refine Eq.trans (B_L_law_1047 q3) ?_
  rw [q2, zaft_same]
  refine Eq.trans (B_L_law_1054 q3) ?_
  rw [q4, if_pos (show Op.cmpValue (some Ordering.eq) .l = 0 from rfl)]
  exact B_L_law_1083
theorem law_ite {p : Prop} [Decidable p] {x y : Option (Option Value × zH)} {q : (Nat → Nat → Int32) → Option (Option Value × zH)} (h1 : ∃ X', x = q X') (h2 : ∃ X', y = q X') : ∃ X', (if p then x else y) = q X' := by
  by_cases h : p
  · rw [if_pos h]; exact h1
  · rw [if_neg h]; exact h2
theorem law_none : LawAt 1125 := by
  intro D f u a b i len sc X v4 v6 hD hR hS hL hi hlen
  exact ⟨X, v4, v6, f, u, a, b, rfl, hR.mono (by omega), hS, hL⟩
theorem law_loop (hF : zFP) : ∀ (n j D f u a b len : Nat) (sc : Nat → Int32) (X : Nat → Nat → Int32) (v4 v6 : Value), 7 * j + n = 3600 → D = 11 * j → zRel D f u a b X X → X 2000000 = sc → X 2000001 0 = nI len → len ≤ 3584 →
    ∃ X' : Nat → Nat → Int32, zden 195 18 [.ref 2000000, .ref 0, .ref 90, .int (nI (7 * j)), v4, .retAddr 0, v6, .retAddr 0] [] (zSH, X) = some (some (.int 1), (zSH, X')) := by
  intro n
  induction n using Nat.strongRecOn with
  | _ n ih =>
  intro j D f u a b len sc X v4 v6 hn hD hR hS hL hlen
  have hcond : ((X 2000001 0) - 7 < nI (7 * j)) ↔ len < 7 * j + 7 := by
    rw [hL, show (7 : Int32) = nI 7 by decide, Int32.lt_iff_toInt_lt, pk_sub_toInt (by omega) (by decide), nI_toInt (by omega)]
    omega
  by_cases c : len < 7 * j + 7
  · exact ⟨X, by rw [B_L_law_18 (fun z => absurd (hcond.mpr c) z), if_pos (hcond.mpr c)]⟩
  · have hi : 7 * j + 7 ≤ len := by omega
    have c' : ¬ ((X 2000001 0) - 7 < nI (7 * j)) := fun z => c (hcond.mp z)
    have fin : ∀ pc, LawAt pc → ∃ X' : Nat → Nat → Int32, zden 195 pc [.ref 2000000, .ref 0, .ref 90, .int (nI (7 * j)), v4, .retAddr 0, v6, .retAddr 0] [] (zSH, X) = some (some (.int 1), (zSH, X')) := fun pc hl => by
      obtain ⟨X2, w4, w6, f', u', a', b', e, r1, r2, r3⟩ := hl D f u a b (7 * j) len sc X v4 v6 (by omega) hR hS hL hi hlen
      obtain ⟨X', r⟩ := ih (n - 7) (by omega) (j + 1) (D + 11) f' u' a' b' len sc X2 w4 w6 (by omega) (by omega) r1 r2 r3 hlen
      refine ⟨X', ?_⟩
      rw [e, B_L_law_1125, show (7 : Int32) = nI 7 by decide, nI_add, show 7 * j + 7 = 7 * (j + 1) by omega]
      exact r
    rw [B_L_law_18 (fun _ => by rw [hL]; exact ⟨nI_pos' (by omega), nI_lt (by omega) (by omega)⟩), if_neg c']
    refine law_ite (fin 180 law_0) ?_
    refine law_ite (fin 243 law_1) ?_
    refine law_ite (fin 266 law_2) ?_
    refine law_ite (fin 299 law_3) ?_
    refine law_ite (fin 322 law_4) ?_
    refine law_ite (fin 397 law_5) ?_
    refine law_ite (fin 440 law_6) ?_
    refine law_ite (fin 473 law_7) ?_
    refine law_ite (fin 506 law_8) ?_
    refine law_ite (fin 539 law_9) ?_
    refine law_ite (fin 572 law_10) ?_
    refine law_ite (fin 595 law_11) ?_
    refine law_ite (fin 618 law_12) ?_
    refine law_ite (fin 651 law_13) ?_
    refine law_ite (fin 674 law_14) ?_
    refine law_ite (fin 697 law_15) ?_
    refine law_ite (fin 720 law_16) ?_
    refine law_ite (fin 743 law_17) ?_
    refine law_ite (fin 776 law_18) ?_
    refine law_ite (fin 799 law_19) ?_
    refine law_ite (fin 822 law_20) ?_
    refine law_ite (fin 845 law_21) ?_
    refine law_ite (fin 858 law_22) ?_
    refine law_ite (fin 881 law_23) ?_
    refine law_ite (fin 904 law_24) ?_
    refine law_ite (fin 927 law_25) ?_
    refine law_ite (fin 966 law_26) ?_
    refine law_ite (fin 989 law_27) ?_
    refine law_ite (fin 1002 (law_28 hF)) ?_
    refine law_ite (fin 1043 (law_29 hF)) ?_
    refine law_ite (fin 1086 law_30) ?_
    refine law_ite (fin 1099 law_31) ?_
    refine law_ite (fin 1112 law_32) ?_
    exact fin 1125 law_none
