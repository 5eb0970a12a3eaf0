-- 64: goodOf
theorem duty_own {D : Nat} {G H : Nat → Nat → Int32} {gn g : Nat} (w : zWT G) (hr : HRat D G 2 (H 91)) (i4 : G 2 4 = nI gn) (gl : gn ≤ 12) (hg : g < gn) (hq : HRg (G 6) (H 91) g) :
    ∃ (d : Nat) (o o' : Int32), d ≤ 1980 ∧ zden 28 0 [.ref 2, .int (nI g), .retAddr 0, .retAddr 0, .retAddr 0, .retAddr 0, .retAddr 0, .retAddr 0] [] (zSH, G) = some (some (.int o), (zSH, G)) ∧
      zden 133 0 [.ref 90, .int (nI g), .retAddr 0, .retAddr 0, .retAddr 0] [] (zSH, H) = some (some (.int o'), (zSH, H)) ∧
      zden 29 0 [.ref 2, .int (nI g), .int o, .retAddr 0, .retAddr 0, .retAddr 0, .retAddr 0] [] (zSH, G) = some (some (.int (nI d)), (zSH, G)) ∧
      zden 134 0 [.ref 90, .int (nI g), .int o', .retAddr 0, .retAddr 0, .retAddr 0, .retAddr 0] [] (zSH, H) = some (some (.int (nI d)), (zSH, H)) ∧
      ((o = -15 ∧ o' = -1) ∨ (o' = o ∧ 0 ≤ o)) := by
  rcases origin_same w (show g < 12 by omega) hq with ⟨q1, q2, _⟩ | ⟨b, hb, q1, q2, _⟩
  · obtain ⟨d, d1, d2, d3⟩ := duty_none w hr i4 gl hg hq
    exact ⟨d, -15, -1, d1, q1, q2, d2, d3, .inl ⟨rfl, rfl⟩⟩
  · obtain ⟨d, d1, d2, d3⟩ := duty_same w hr i4 gl hg hq hb
    exact ⟨d, nI b, nI b, d1, q1, q2, d2, d3, .inr ⟨rfl, nI_pos' (by omega)⟩⟩
theorem read_goodOf {x y : Int32} : ReadOK 78 [.ref 0, .int x, .int y] 132 [.ref 90, .int x, .int y] := by
  intro D G H w hr hw
  obtain ⟨gn, gl, i4, v2, hg⟩ := hr.goods
  obtain ⟨n, ho, i3, hs⟩ := hr.rows
  have ho' : hOK n (G 4) (H 91) := ho
  have hn := ho.1
  by_cases hx : ∃ g : Nat, g < gn ∧ x = nI g
  · obtain ⟨g, g1, rfl⟩ := hx
    have n1 : ¬ bI (0 ≤ nI g ∧ nI g < G 2 4) = 0 := bIn.mpr (by rw [i4]; exact (good_iff gl).mpr ⟨g, g1, rfl⟩)
    have n2 : ¬ bI (0 ≤ nI g ∧ nI g ≤ H 91 2 - 1) = 0 := bIn.mpr (by rw [v2]; exact (good_iff2 gl).mpr ⟨g, g1, rfl⟩)
    have gl' : g < 12 := by omega
    have hq := hg g g1
    obtain ⟨d, o, o', d1, q1, q2, q3, q4, q5⟩ := duty_own w hr i4 gl g1 hq
    obtain ⟨k, hk, f1, _, f3⟩ := fit_three w ho' hs i3 gl' hq
    obtain ⟨⟨m0, _⟩, k0, _⟩ := ho'.head hk
    have hq2 := hq
    obtain ⟨a1, a2, a3, a4, a5, a6, a7, a8, _⟩ := hq2
    have hc : zden 78 0 [.ref 0, .int (nI g), .int y] [] (zSH, G) = _ := B_T_goodOf_0
    have hm : zden 132 0 [.ref 90, .int (nI g), .int y] [] (zSH, H) = _ := B_M_goodOf_0
    rw [if_pos n1] at hc
    rw [if_pos n2] at hm
    have gt : ∀ {c : Int32} {j : Nat}, c = nI j → j < 23 → tget G 5 6 276 (nI g) c = G 6 (23 * g + j) := fun hc hj => gd_get w rfl hc gl' hj
    by_cases h0 : y = 0
    · subst h0
      rw [if_pos rfl] at hc hm
      refine ⟨G 6 (23 * g), hc.trans (B_T_goodOf_72.trans ?_), hm.trans ((B_M_goodOf_72 (mzin (K := 0) (by decide) gl' (by decide))).trans ?_)⟩
      · rw [gt (j := 0) (by decide) (by decide)]; rfl
      · rw [mcl2 (N := 63 + 22 * g) (K := 0) (by decide) gl' (by decide) rfl, a1]
    rw [if_neg h0] at hc hm
    by_cases h1 : y = 1
    · subst h1
      rw [if_pos rfl] at hc hm
      refine ⟨G 6 (23 * g + 1), hc.trans (B_T_goodOf_85.trans ?_), hm.trans ((B_M_goodOf_72 (mzin (K := 1) (by decide) gl' (by decide))).trans ?_)⟩
      · rw [gt (j := 1) (by decide) (by decide)]
      · rw [mcl2 (N := 64 + 22 * g) (K := 1) (by decide) gl' (by decide) (by omega), a2]
    rw [if_neg h1] at hc hm
    by_cases h2 : y = 2
    · subst h2
      rw [if_pos rfl] at hc hm
      refine ⟨G 6 (23 * g + 2), hc.trans (B_T_goodOf_98.trans ?_), hm.trans ((B_M_goodOf_72 (mzin (K := 2) (by decide) gl' (by decide))).trans ?_)⟩
      · rw [gt (j := 2) (by decide) (by decide)]
      · rw [mcl2 (N := 65 + 22 * g) (K := 2) (by decide) gl' (by decide) (by omega), a3]
    rw [if_neg h2] at hc hm
    by_cases h3 : y = 3
    · subst h3
      rw [if_pos rfl] at hc hm
      refine ⟨G 6 (23 * g + 3), hc.trans (B_T_goodOf_111.trans ?_), hm.trans ((B_M_goodOf_83 (mzin (K := 7) (by decide) gl' (by decide))).trans ?_)⟩
      · rw [gt (j := 3) (by decide) (by decide)]
      · rw [mcl2 (N := 70 + 22 * g) (K := 7) (by decide) gl' (by decide) (by omega), a4]
    rw [if_neg h3] at hc hm
    by_cases h4 : y = 4
    · subst h4
      rw [if_pos rfl] at hc hm
      refine ⟨G 6 (23 * g + 4), hc.trans (B_T_goodOf_124.trans ?_), hm.trans (B_M_goodOf_95.trans ?_)⟩
      · rw [gt (j := 4) (by decide) (by decide)]
      · rw [sm_chief gl' hq, zaft_same]
        exact B_M_goodOf_100
    rw [if_neg h4] at hc hm
    by_cases h5 : y = 5
    · subst h5
      rw [if_pos rfl] at hc hm
      refine ⟨o, hc.trans (B_T_goodOf_137.trans ?_), hm.trans (B_M_goodOf_101.trans ?_)⟩
      · rw [q1, zaft_same]
        exact B_T_goodOf_145
      · rw [q2, zaft_same]
        refine B_M_goodOf_106.trans ?_
        rcases q5 with ⟨e1, e2⟩ | ⟨e1, e2⟩
        · rw [e2, if_neg nlow, e1]
        · rw [e1, if_pos e2]
          rw [e1] at q2
          rw [q2, zaft_same]
          exact B_M_goodOf_119
    rw [if_neg h5] at hc hm
    by_cases h6 : y = 6
    · subst h6
      rw [if_pos rfl] at hc hm
      refine ⟨G 4 (5 * k + 4), hc.trans (B_T_goodOf_146.trans ?_), hm.trans (B_M_goodOf_120.trans ?_)⟩
      · rw [f1, zaft_same]
        refine B_T_goodOf_164.trans ?_
        rw [hd_get w rfl nIlit_4 (by omega) (by decide)]
      · rw [f3, zaft_same]
        refine (B_M_goodOf_127 k0).trans ?_
        rw [m0]
    rw [if_neg h6] at hc hm
    by_cases h7 : y = 7
    · subst h7
      rw [if_pos rfl] at hc hm
      refine ⟨nI d, hc.trans (B_T_goodOf_169.trans ?_), hm.trans (B_M_goodOf_132.trans ?_)⟩
      · rw [q1, zaft_same]
        refine B_T_goodOf_182.trans ?_
        rw [q3, zaft_same]
        exact B_T_goodOf_185
      · rw [q2, zaft_same]
        refine B_M_goodOf_139.trans ?_
        rw [q4, zaft_same]
        exact B_M_goodOf_142
    rw [if_neg h7] at hc hm
    by_cases h8 : y = 8
    · subst h8
      rw [if_pos rfl] at hc hm
      refine ⟨G 6 (23 * g + 5), hc.trans (B_T_goodOf_186.trans ?_), hm.trans ((B_M_goodOf_143 (mzin (K := 8) (by decide) gl' (by decide))).trans ?_)⟩
      · rw [gt (j := 5) (by decide) (by decide)]
      · rw [mcl2 (N := 71 + 22 * g) (K := 8) (by decide) gl' (by decide) (by omega), a6]
    rw [if_neg h8] at hc hm
    by_cases h9 : y = 9
    · subst h9
      rw [if_pos rfl] at hc hm
      refine ⟨G 6 (23 * g + 6), hc.trans (B_T_goodOf_199.trans ?_), hm.trans ((B_M_goodOf_143 (mzin (K := 9) (by decide) gl' (by decide))).trans ?_)⟩
      · rw [gt (j := 6) (by decide) (by decide)]
      · rw [mcl2 (N := 72 + 22 * g) (K := 9) (by decide) gl' (by decide) (by omega), a7]
    rw [if_neg h9] at hc hm
    by_cases h10 : y = 10
    · subst h10
      rw [if_pos rfl] at hc hm
      have z10 : zin (63 + 22 * nI g + 10) 327 = true := mzin (K := 10) (by decide) gl' (by decide)
      refine ⟨G 6 (23 * g + 7), hc.trans (B_T_goodOf_213.trans ?_), hm.trans ((B_M_goodOf_154 z10 (fun _ => z10)).trans ?_)⟩
      · rw [gt (j := 7) (by decide) (by decide)]
      · rw [mcl2 (N := 73 + 22 * g) (K := 10) (by decide) gl' (by decide) (by omega)]
        rcases a8 with ⟨e1, e2⟩ | ⟨e1, e2⟩
        · rw [e2, if_neg nlow, e1]
        · rw [← e2, if_pos e1]
    rw [if_neg h10] at hc hm
    exact ⟨-12, hc, hm⟩
  · have n1 : ¬ (0 ≤ x ∧ x < G 2 4) := by rw [i4, good_iff gl]; exact hx
    have n2 : ¬ (0 ≤ x ∧ x ≤ H 91 2 - 1) := by rw [v2, good_iff2 gl]; exact hx
    refine ⟨-11, ?_, ?_⟩
    · rw [B_T_goodOf_0, if_neg (fun q => q (bIz.mpr n1))]
    · rw [B_M_goodOf_0, if_neg (fun q => q (bIz.mpr n2))]
