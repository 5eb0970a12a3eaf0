-- 70: tell, tellHeading
theorem tell_loop {D g n : Nat} {G0 H0 : Nat → Nat → Int32} (c0 : zCst G0 H0) (hr : HRat D G0 2 (H0 91)) (hg : g < 12) (hq : HRg (G0 6) (H0 91) g) (ho : hOK n (G0 4) (H0 91)) (hs : ∀ h, h + 1 < n → G0 4 (5 * h + 4) < G0 4 (5 * (h + 1) + 4)) (i3 : G0 2 3 = nI (n + 1)) : ∀ (d i m : Nat) (G H : Nat → Nat → Int32) (v4 : Value), i + d = 4 → m ≤ 4 + 4 * i → zLt m G H G0 H0 →
    ∃ (r : Int32) (G' H' : Nat → Nat → Int32) (m' : Nat), zden 39 28 [.ref 88, .ref 2, .int (nI g), .int (nI i), v4] [] (zSH, G) = some (some (.int r), (zSH, G')) ∧ zden 167 42 [.ref 90, .int (nI g), .int (nI i)] [] (zSH, H) = some (some (.int r), (zSH, H')) ∧ zLt m' G' H' G0 H0 := by
  have hn := ho.1
  intro d
  induction d with
  | zero =>
    intro i m G H v4 h hm hl
    have h : i = 4 := by omega
    subst h
    have h4 : (4 : Int32) ≤ nI 4 := by decide
    obtain ⟨G1, H1, p1, p2, p3⟩ := lt_put (k := 61) (show m < 24 by omega) (by omega) hl
    have w1 := p3.wt c0.1
    have e4 : G1 4 = G0 4 := p3.2.1 4 (by decide) (by decide)
    have e6 : G1 6 = G0 6 := p3.2.1 6 (by decide) (by decide)
    have e2 : G1 2 = G0 2 := p3.2.1 2 (by decide) (by decide)
    have e91 : H1 91 = H0 91 := p3.2.2.1 91 (by decide) (by decide)
    have ho1 : hOK n (G1 4) (H1 91) := by rw [e4, e91]; exact ho
    obtain ⟨k, hk, q1, _, q3⟩ := fit_three w1 ho1 (by rw [e4]; exact hs) (by rw [e2]; exact i3) hg (by rw [e6, e91]; exact hq)
    obtain ⟨⟨m0, _⟩, k0, _⟩ := ho1.head hk
    obtain ⟨c, _, _, _, _, hc, _, _, _, _, c1, c2, _⟩ := ho1.row hk
    obtain ⟨G2, H2, m2, s1, s2, s3, s4⟩ := lt_num (n := c) (show m + 1 + 3 ≤ 24 by omega) (by omega) p3
    obtain ⟨_, l1, l2, _⟩ := s4.1
    refine ⟨nI m2, G2, H2, m2, ?_, ?_, s4⟩
    · rw [B_Li_writeGood_28, if_pos h4, show zden 41 0 [.ref 88, .int 61] [] (zSH, G) = _ from p1, zaft_same]
      refine Eq.trans B_Li_writeGood_78 ?_
      rw [q1, zaft_same]
      refine Eq.trans B_Li_writeGood_91 ?_
      rw [hd_get w1 rfl nIlit_4 (by omega) (by decide), hc, s1, zaft_same]
      refine Eq.trans B_Li_writeGood_98 ?_
      rw [l1]
    · rw [B_M_tell_42 (fun q => absurd h4 q) (fun q => absurd h4 q), if_pos h4, show zden 169 0 [.ref 90, .int 61] [] (zSH, H) = _ from p2, zaft_same]
      refine Eq.trans B_M_tell_103 ?_
      rw [q3, zaft_same]
      refine Eq.trans (B_M_tell_111 k0) ?_
      rw [m0, hc, s2, zaft_same]
      refine Eq.trans B_M_tell_118 ?_
      rw [l2]
  | succ d ih =>
    intro i m G H v4 h hm hl
    have hn4 : ¬ (4 : Int32) ≤ nI i := by rw [nIlit_4]; exact nI_ge (by omega) (by decide)
    have w := hl.wt c0.1
    have e6 : G 6 = G0 6 := hl.2.1 6 (by decide) (by decide)
    have e91 : H 91 = H0 91 := hl.2.2.1 91 (by decide) (by decide)
    obtain ⟨_, _, _, _, _, _, _, _, _, a10, _⟩ := hq
    obtain ⟨b1, p, pp1, p2, p3⟩ := a10 i (by omega)
    have k9 : (9 : Int32) + nI i = nI (9 + i) := by rw [nIlit_9, nI_add]
    have k3 : (3 : Int32) + nI i = nI (3 + i) := by rw [nIlit_3, nI_add]
    have t : tget G 5 6 276 (nI g) (9 + nI i) = nI p := by rw [gd_get w rfl k9 hg (by omega), e6, ← Nat.add_assoc]; exact p3
    have zi := mzin (g := g) k3 hg (by omega)
    have v : H 91 (63 + 22 * nI g + (3 + nI i)).toNatClampNeg = nI p := by rw [mcl2 (N := 66 + 22 * g + i) k3 hg (by omega) (by omega), e91, ← b1]; exact p3
    have zi5 : zin (nI i) 5 = true := zin_nI (by omega) (by decide)
    by_cases hp : p = 0
    · subst hp
      obtain ⟨r, G', H', m', r1, r2, r3⟩ := ih (i + 1) m G H (.int (nI 0)) (by omega) (by omega) hl
      refine ⟨r, G', H', m', ?_, ?_, r3⟩
      · rw [B_Li_writeGood_28, if_neg hn4, t, if_pos (by decide), B_Li_writeGood_66, nI_1]
        exact r1
      · rw [B_M_tell_42 (fun _ => zi) (fun _ _ => zi5), if_neg hn4, v, if_neg (fun z => z rfl), B_M_tell_91, nI_1]
        exact r2
    · obtain ⟨G1, H1, q1, q2, q3⟩ := lt_put (k := fibN i) (show m < 24 by omega) fibN_lt hl
      obtain ⟨G2, H2, m2, s1, s2, s3, s4⟩ := lt_num (n := p) (show m + 1 + 3 ≤ 24 by omega) (by omega) q3
      obtain ⟨r, G', H', m', r1, r2, r3⟩ := ih (i + 1) m2 G2 H2 (.int (nI p)) (by omega) (by omega) s4
      have e98 : H 98 i = nI (fibN i) := by rw [hl.2.2.1 98 (by decide) (by decide)]; exact sm_fib c0 (by omega)
      have v1 : H1 91 (63 + 22 * nI g + (3 + nI i)).toNatClampNeg = nI p := by
        rw [q3.2.2.1 91 (by decide) (by decide), ← e91]; exact v
      refine ⟨r, G', H', m', ?_, ?_, r3⟩
      · rw [B_Li_writeGood_28, if_neg hn4, t, if_neg (nI_nle (by omega) (by omega)), sc_fib (by omega), zaft_same]
        refine Eq.trans B_Li_writeGood_57 ?_
        rw [q1, zaft_same]
        refine Eq.trans B_Li_writeGood_60 ?_
        rw [s1, zaft_same]
        refine Eq.trans B_Li_writeGood_66 ?_
        rw [nI_1]
        exact r1
      · rw [B_M_tell_42 (fun _ => zi) (fun _ _ => zi5), if_neg hn4, v, if_pos (nI_ne0 (by omega) (by omega)), nI_clamp (by omega), e98, q2, zaft_same]
        refine Eq.trans (B_M_tell_75 zi) ?_
        rw [v1, s2, zaft_same]
        refine Eq.trans B_M_tell_91 ?_
        rw [nI_1]
        exact r2
theorem call_tell {x : Int32} : CallR 94 [.ref 0, .int x] 167 [.ref 90, .int x, .retAddr 0] := by
  intro D f u a b G H hD hR
  have hR' := hR
  obtain ⟨c0, hr, _⟩ := hR
  have w := c0.1
  obtain ⟨gn, gl, i4, v2, hg⟩ := hr.goods
  obtain ⟨n, ho, i3, hs⟩ := hr.rows
  by_cases hx : ∃ g : Nat, g < gn ∧ x = nI g
  · obtain ⟨g, g1, rfl⟩ := hx
    have n1 : ¬ bI (0 ≤ nI g ∧ nI g < G 2 4) = 0 := bIn.mpr (by rw [i4]; exact (good_iff gl).mpr ⟨g, g1, rfl⟩)
    have n2 : ¬ bI (0 ≤ nI g ∧ nI g ≤ H 91 2 - 1) = 0 := bIn.mpr (by rw [v2]; exact (good_iff2 gl).mpr ⟨g, g1, rfl⟩)
    have gl' : g < 12 := by omega
    have hq : HRg (G 6) (H 91) g := hg g g1
    have hq2 := hq
    obtain ⟨a1, _, _, _, _, _, _, _, _, _, _, ⟨fo, _, fo2, fo3⟩, _⟩ := hq2
    obtain ⟨G1, H1, m1, s1, s2, s3, s4⟩ := lt_num (n := g) (m := 0) (by omega) (by omega) (zLt.start (G := G) (H := H))
    have w1 := s4.wt w
    have e6 : G1 6 = G 6 := s4.2.1 6 (by decide) (by decide)
    have e91 : H1 91 = H 91 := s4.2.2.1 91 (by decide) (by decide)
    have t : tget G1 5 6 276 (nI g) 0 = nI fo := by rw [gd_get (j := 0) w1 rfl (by decide) gl' (by decide), e6]; exact fo3
    have v : H1 91 (63 + 22 * nI g + 0).toNatClampNeg = nI fo := by rw [mcl2 (N := 63 + 22 * g) (K := 0) (by decide) gl' (by decide) rfl, e91, ← a1]; exact fo3
    have e99 : H1 99 fo = nI (forN fo) := by rw [s4.2.2.1 99 (by decide) (by decide)]; exact sm_for c0 (by omega)
    obtain ⟨G2, H2, q1, q2, q3⟩ := lt_put (k := forN fo) (show m1 < 24 by omega) forN_lt s4
    obtain ⟨r, G', H', m', r1, r2, r3⟩ := tell_loop c0 hr gl' hq ho hs i3 4 0 (m1 + 1) G2 H2 (.retAddr 0) (by omega) (by omega) q3
    have hfin := (r3.rel hR')
    refine ⟨r, G', H', f, u, a, m', ?_, ?_, hfin.1.mono (by omega), hfin.2⟩
    · rw [B_T_tell_0, if_neg n1, B_Li_writeGood_0, s1, zaft_same]
      rw [show zden 39 10 [.ref 88, .ref 2, .int (nI g), .retAddr 0, .retAddr 0] ((none : Option Value).toList ++ []) (zSH, G1) = _ from B_Li_writeGood_10, t, sc_for (by omega), zaft_same]
      rw [show zden 39 23 [.ref 88, .ref 2, .int (nI g), .retAddr 0, .retAddr 0] ((some (Value.int (nI (forN fo)))).toList ++ [.ref 88]) (zSH, G1) = _ from B_Li_writeGood_23, q1, zaft_same]
      rw [show zden 39 26 [.ref 88, .ref 2, .int (nI g), .retAddr 0, .retAddr 0] ((none : Option Value).toList ++ []) (zSH, G2) = _ from B_Li_writeGood_26]
      rw [show zden 39 28 [.ref 88, .ref 2, .int (nI g), .int 0, .retAddr 0] [] (zSH, G2) = _ from r1, zaft_same]
      exact B_T_tell_23
    · rw [B_M_tell_0, if_pos n2, s2, zaft_same]
      refine Eq.trans (B_M_tell_21 (mzin (K := 0) (by decide) gl' (by decide)) (by rw [v]; exact zin_nI (by omega) (by decide))) ?_
      rw [v, nI_clamp (by omega), e99, q2, zaft_same]
      refine Eq.trans B_M_tell_40 ?_
      exact r2
  · have n1 : ¬ (0 ≤ x ∧ x < G 2 4) := by rw [i4, good_iff gl]; exact hx
    have n2 : ¬ (0 ≤ x ∧ x ≤ H 91 2 - 1) := by rw [v2, good_iff2 gl]; exact hx
    refine ⟨-11, G, H, f, u, a, b, ?_, ?_, hR'.mono (by omega), fun _ _ => rfl, fun _ _ => rfl⟩
    · rw [B_T_tell_0, if_pos (bIz.mpr n1)]
    · rw [B_M_tell_0, if_neg (fun q => q (bIz.mpr n2))]
theorem call_tellHeading {x : Int32} : CallR 95 [.ref 0, .int x, .retAddr 0] 170 [.ref 90, .int x, .retAddr 0] := by
  intro D f u a b G H hD hR
  have hR' := hR
  obtain ⟨c0, hr, _⟩ := hR
  have w := c0.1
  obtain ⟨n, ho, i3, hs⟩ := hr.rows
  have ho' : hOK n (G 4) (H 91) := ho
  have hn := ho.1
  have i3' : G 2 3 = nI (n + 1) := i3
  have hc : zden 95 0 [.ref 0, .int x, .retAddr 0] [] (zSH, G) = zden 95 8 [.ref 0, .int x, .retAddr 0] [.int (findR (G 4) x (n + 1) 0)] (zSH, G) := by
    rw [B_T_tellHeading_0, sc_rowOfCode w hn i3', zaft_same]; rfl
  have hm : zden 170 0 [.ref 90, .int x, .retAddr 0] [] (zSH, H) = zden 170 5 [.ref 90, .int x, .retAddr 0] [.int (findR (G 4) x (n + 1) 0)] (zSH, H) := by
    rw [B_M_tellHeading_0, sm_placeOf ho', zaft_same]; rfl
  rcases findR_or (A := G 4) (x := x) (n + 1) 0 with ⟨f1, _⟩ | ⟨k, _, k2, f1, f2⟩
  · rw [f1] at hc hm
    refine ⟨-11, G, H, f, u, a, b, ?_, ?_, hR'.mono (by omega), fun _ _ => rfl, fun _ _ => rfl⟩
    · rw [hc, B_T_tellHeading_8, if_neg nlow]
    · rw [hm, B_M_tellHeading_5, if_neg nlow]
  · rw [f1] at hc hm
    have hk : k ≤ n := by omega
    have pos : (0 : Int32) ≤ nI k := nI_pos' (by omega)
    obtain ⟨co, fi, fo, ra, ki, hco, hfi, hfo, hra, hki, c1, c2, fi2, fo2, ra2, ki2, _⟩ := ho'.row hk
    -- the heaps on the way
    have at_ : ∀ {m : Nat} {G1 H1 : Nat → Nat → Int32}, zLt m G1 H1 G H → (tget G1 3 4 55 (nI k) 4 = nI co ∧ tget G1 3 4 55 (nI k) 0 = nI fi ∧ tget G1 3 4 55 (nI k) 1 = nI fo ∧ tget G1 3 4 55 (nI k) 2 = nI ra ∧ tget G1 3 4 55 (nI k) 3 = nI ki) ∧
        (mhead H1 (nI k) 1 = nI fi ∧ mhead H1 (nI k) 2 = nI fo ∧ mhead H1 (nI k) 3 = nI ra ∧ mhead H1 (nI k) 4 = nI ki) ∧ (mhok H1 (nI k) 1 ∧ mhok H1 (nI k) 2 ∧ mhok H1 (nI k) 3 ∧ mhok H1 (nI k) 4) ∧ H1 98 fi = nI (fibN fi) ∧ H1 99 fo = nI (forN fo) := by
      intro m G1 H1 hl
      have w1 := hl.wt w
      have e4 : G1 4 = G 4 := hl.2.1 4 (by decide) (by decide)
      have e91 : H1 91 = H 91 := hl.2.2.1 91 (by decide) (by decide)
      have ho1 : hOK n (G1 4) (H1 91) := by rw [e4, e91]; exact ho'
      obtain ⟨⟨_, m1, m2, m3, m4⟩, _, z1, z2, z3, z4⟩ := ho1.head hk
      rw [e4] at m1 m2 m3 m4
      have gt : ∀ {c : Int32} {j : Nat}, c = nI j → j < 5 → tget G1 3 4 55 (nI k) c = G 4 (5 * k + j) := fun hc hj => by rw [hd_get w1 rfl hc (by omega) hj, e4]
      refine ⟨⟨(gt (j := 4) (by decide) (by decide)).trans hco, (gt (j := 0) (by decide) (by decide)).trans hfi, (gt (j := 1) (by decide) (by decide)).trans hfo, (gt (j := 2) (by decide) (by decide)).trans hra, (gt (j := 3) (by decide) (by decide)).trans hki⟩, ⟨m1.trans hfi, m2.trans hfo, m3.trans hra, m4.trans hki⟩, ⟨z1, z2, z3, z4⟩, ?_, ?_⟩
      · rw [hl.2.2.1 98 (by decide) (by decide)]; exact sm_fib c0 fi2
      · rw [hl.2.2.1 99 (by decide) (by decide)]; exact sm_for c0 fo2
    have xco : x = nI co := by rw [← f2]; exact hco
    have l0 := zLt.start (G := G) (H := H)
    obtain ⟨Ga, Ha, ma, a1, a2, a3, a4⟩ := lt_num (n := co) (show 0 + 3 ≤ 24 by omega) (by omega) l0
    obtain ⟨Gb, Hb, b1, b2, b3⟩ := lt_put (k := 58) (show ma < 24 by omega) (by omega) a4
    obtain ⟨Gc, Hc, d1, d2, d3⟩ := lt_put (k := fibN fi) (show ma + 1 < 24 by omega) fibN_lt b3
    obtain ⟨Gd, Hd, e1, e2, e3⟩ := lt_put (k := forN fo) (show ma + 1 + 1 < 24 by omega) forN_lt d3
    obtain ⟨Ge, He, me, g1, g2, g3, g4⟩ := lt_num (n := ra) (show ma + 1 + 1 + 1 + 3 ≤ 24 by omega) (by omega) e3
    obtain ⟨Gf, Hf, h1, h2, h3⟩ := lt_put (k := 37) (show me < 24 by omega) (by omega) g4
    have t0 := at_ l0
    have tb := at_ b3
    have tc := at_ d3
    have td := at_ e3
    have tf := at_ h3
    have hcl : zden 95 0 [.ref 0, .int x, .retAddr 0] [] (zSH, G) = zaft 95 30 [.ref 0, .int x, .int (nI k)] [] (zSH, G) (zden 44 75 [.ref 88, .ref 2, .int (nI k), .retAddr 0] [] (zSH, Gf)) := by
      rw [hc, B_T_tellHeading_8, if_pos pos, B_Li_writeHeading_0, t0.1.1, a1, zaft_same]
      rw [show zden 44 18 [.ref 88, .ref 2, .int (nI k), .retAddr 0] ((none : Option Value).toList ++ []) (zSH, Ga) = _ from B_Li_writeHeading_18, show zden 41 0 [.ref 88, .int 58] [] (zSH, Ga) = _ from b1, zaft_same]
      rw [show zden 44 24 [.ref 88, .ref 2, .int (nI k), .retAddr 0] ((none : Option Value).toList ++ []) (zSH, Gb) = _ from B_Li_writeHeading_24, tb.1.2.1, sc_fib fi2, zaft_same]
      rw [show zden 44 37 [.ref 88, .ref 2, .int (nI k), .retAddr 0] ((some (Value.int (nI (fibN fi)))).toList ++ [.ref 88]) (zSH, Gb) = _ from B_Li_writeHeading_37, d1, zaft_same]
      rw [show zden 44 40 [.ref 88, .ref 2, .int (nI k), .retAddr 0] ((none : Option Value).toList ++ []) (zSH, Gc) = _ from B_Li_writeHeading_40, tc.1.2.2.1, sc_for fo2, zaft_same]
      rw [show zden 44 53 [.ref 88, .ref 2, .int (nI k), .retAddr 0] ((some (Value.int (nI (forN fo)))).toList ++ [.ref 88]) (zSH, Gc) = _ from B_Li_writeHeading_53, e1, zaft_same]
      rw [show zden 44 56 [.ref 88, .ref 2, .int (nI k), .retAddr 0] ((none : Option Value).toList ++ []) (zSH, Gd) = _ from B_Li_writeHeading_56, td.1.2.2.2.1, g1, zaft_same]
      rw [show zden 44 69 [.ref 88, .ref 2, .int (nI k), .retAddr 0] ((none : Option Value).toList ++ []) (zSH, Ge) = _ from B_Li_writeHeading_69, show zden 41 0 [.ref 88, .int 37] [] (zSH, Ge) = _ from h1, zaft_same]
      rfl
    have hml : zden 170 0 [.ref 90, .int x, .retAddr 0] [] (zSH, H) = zden 170 75 [.ref 90, .int x, .int (nI k)] [] (zSH, Hf) := by
      rw [hm, B_M_tellHeading_5, if_pos pos, show zden 168 0 [.ref 90, .int x] [] (zSH, zup H 90 17 0) = some (none, (zSH, Ha)) from (by rw [xco]; exact a2), zaft_same]
      refine Eq.trans B_M_tellHeading_23 ?_
      rw [show zden 169 0 [.ref 90, .int 58] [] (zSH, Ha) = _ from b2, zaft_same]
      refine Eq.trans (B_M_tellHeading_29 tb.2.2.1.1 (by rw [tb.2.1.1]; exact zin_nI (by omega) (by decide))) ?_
      rw [tb.2.1.1, nI_clamp (by omega), tb.2.2.2.1, d2, zaft_same]
      refine Eq.trans (B_M_tellHeading_44 tc.2.2.1.2.1 (by rw [tc.2.1.2.1]; exact zin_nI (by omega) (by decide))) ?_
      rw [tc.2.1.2.1, nI_clamp (by omega), tc.2.2.2.2, e2, zaft_same]
      refine Eq.trans (B_M_tellHeading_59 td.2.2.1.2.2.1) ?_
      rw [td.2.1.2.2.1, g2, zaft_same]
      refine Eq.trans B_M_tellHeading_69 ?_
      rw [show zden 169 0 [.ref 90, .int 37] [] (zSH, He) = _ from h2, zaft_same]
      rfl
    by_cases kz : ki = 0
    · subst kz
      obtain ⟨_, l1, l2, _⟩ := h3.1
      have hfin := h3.rel hR'
      refine ⟨nI (me + 1), Gf, Hf, f, u, a, me + 1, ?_, ?_, hfin.1.mono (by omega), hfin.2⟩
      · rw [hcl, B_Li_writeHeading_75, tf.1.2.2.2.2, if_pos (by decide), B_Li_writeHeading_100, l1, zaft_same]
        exact B_T_tellHeading_30
      · rw [hml, B_M_tellHeading_75 tf.2.2.1.2.2.2, tf.2.1.2.2.2, if_neg (fun z => z rfl), l2]
    · obtain ⟨Gg, Hg, j1, j2, j3⟩ := lt_put (k := 43) (show me + 1 < 24 by omega) (by omega) h3
      obtain ⟨Gh, Hh, mh, o1, o2, o3, o4⟩ := lt_num (n := ki) (show me + 1 + 1 + 3 ≤ 24 by omega) (by omega) j3
      have tg := at_ j3
      obtain ⟨_, l1, l2, _⟩ := o4.1
      have hfin := o4.rel hR'
      refine ⟨nI mh, Gh, Hh, f, u, a, mh, ?_, ?_, hfin.1.mono (by omega), hfin.2⟩
      · rw [hcl, B_Li_writeHeading_75, tf.1.2.2.2.2, if_neg (nI_nle (by omega) (by omega)), show zden 41 0 [.ref 88, .int 43] [] (zSH, Gf) = _ from j1, zaft_same]
        rw [show zden 44 95 [.ref 88, .ref 2, .int (nI k), .int (nI ki)] ((none : Option Value).toList ++ []) (zSH, Gg) = _ from B_Li_writeHeading_95, o1, zaft_same]
        rw [show zden 44 100 [.ref 88, .ref 2, .int (nI k), .int (nI ki)] ((none : Option Value).toList ++ []) (zSH, Gh) = _ from B_Li_writeHeading_100, l1, zaft_same]
        exact B_T_tellHeading_30
      · rw [hml, B_M_tellHeading_75 tf.2.2.1.2.2.2, tf.2.1.2.2.2, if_pos (nI_ne0 (by omega) (by omega)), show zden 169 0 [.ref 90, .int 43] [] (zSH, Hf) = _ from j2, zaft_same]
        refine Eq.trans (B_M_tellHeading_95 tg.2.2.1.2.2.2) ?_
        rw [tg.2.1.2.2.2, o2, zaft_same]
        refine Eq.trans B_M_tellHeading_105 ?_
        rw [l2]
