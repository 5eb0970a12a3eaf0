-- 62: counts of goods; headingOf
theorem cnt_goods {D : Nat} {G H : Nat → Nat → Int32} {gn : Nat} {x : Int32} (w : zWT G) (hr : HRat D G 2 (H 91)) (i4 : G 2 4 = nI gn) (v2 : H 91 2 = nI gn) (gl : gn ≤ 12) (hg : ∀ g, g < gn → HRg (G 6) (H 91) g) : ∀ (d i : Nat) (c : Int32), i + d = gn →
    ∃ r : Int32, zden 23 4 [.ref 2, .int x, .int c, .int (nI i)] [] (zSH, G) = some (some (.int r), (zSH, G)) ∧ zden 119 4 [.ref 90, .int x, .int c, .int (nI i)] [] (zSH, H) = some (some (.int r), (zSH, H)) := by
  obtain ⟨n, ho, i3, hs⟩ := hr.rows
  have ho' : hOK n (G 4) (H 91) := ho
  intro d
  induction d with
  | zero =>
    intro i c h
    have h : i = gn := by omega
    subst h
    exact ⟨c, by rw [B_Ho_countGoodsOf_4, if_pos (by rw [i4]; exact Int32.le_refl _)], by rw [B_M_having_4, if_pos (by rw [v2]; exact Int32.le_refl _)]⟩
  | succ d ih =>
    intro i c h
    obtain ⟨k, hk, q, _, p⟩ := fit_three w ho' hs i3 (show i < 12 by omega) (hg i (by omega))
    by_cases e : nI k = x
    · obtain ⟨r, r1, r2⟩ := ih (i + 1) (c + 1) (by omega)
      refine ⟨r, ?_, ?_⟩
      · rw [B_Ho_countGoodsOf_4, if_neg (by rw [i4]; exact nI_ge (by omega) (by omega)), q, zaft_same]
        refine Eq.trans B_Ho_countGoodsOf_20 ?_
        rw [if_neg (fun z => z e), B_Ho_countGoodsOf_27, nI_1]
        exact r1
      · rw [B_M_having_4, if_neg (by rw [v2]; exact nI_ge (by omega) (by omega)), p, zaft_same]
        refine Eq.trans B_M_having_21 ?_
        rw [if_neg (fun z => z e), B_M_having_30, nI_1]
        exact r2
    · obtain ⟨r, r1, r2⟩ := ih (i + 1) c (by omega)
      refine ⟨r, ?_, ?_⟩
      · rw [B_Ho_countGoodsOf_4, if_neg (by rw [i4]; exact nI_ge (by omega) (by omega)), q, zaft_same]
        refine Eq.trans B_Ho_countGoodsOf_20 ?_
        rw [if_pos e, B_Ho_countGoodsOf_27, nI_1]
        exact r1
      · rw [B_M_having_4, if_neg (by rw [v2]; exact nI_ge (by omega) (by omega)), p, zaft_same]
        refine Eq.trans B_M_having_21 ?_
        rw [if_pos e, B_M_having_30, nI_1, Int32.add_zero]
        exact r2
theorem read_headingOf {x y : Int32} : ReadOK 73 [.ref 0, .int x, .int y, .retAddr 0] 118 [.ref 90, .int x, .int y, .retAddr 0] := by
  intro D G H w hr hw
  obtain ⟨gn, gl, i4, v2, hg⟩ := hr.goods
  obtain ⟨n, ho, i3, hs⟩ := hr.rows
  have ho' : hOK n (G 4) (H 91) := ho
  have i3' : G 2 3 = nI (n + 1) := i3
  have hn := ho.1
  have hc : zden 73 0 [.ref 0, .int x, .int y, .retAddr 0] [] (zSH, G) = zden 73 8 [.ref 0, .int x, .int y, .retAddr 0] [.int (findR (G 4) x (n + 1) 0)] (zSH, G) := by
    rw [B_T_headingOf_0, sc_rowOfCode w hn i3', zaft_same]
    rfl
  have hm : zden 118 0 [.ref 90, .int x, .int y, .retAddr 0] [] (zSH, H) = zden 118 5 [.ref 90, .int x, .int y, .retAddr 0] [.int (findR (G 4) x (n + 1) 0)] (zSH, H) := by
    rw [B_M_headingOf_0, sm_placeOf ho', zaft_same]
    rfl
  rcases findR_or (A := G 4) (x := x) (n + 1) 0 with ⟨f1, _⟩ | ⟨k, _, k2, f1, _⟩
  · rw [f1] at hc hm
    refine ⟨-11, ?_, ?_⟩
    · rw [hc, B_T_headingOf_8, if_neg nlow]
    · rw [hm, B_M_headingOf_5 (fun q => absurd q nlow), if_neg nlow]
  · rw [f1] at hc hm
    have hk : k ≤ n := by omega
    obtain ⟨⟨m0, m1, m2, m3, m4⟩, k0, k1, k2', k3, k4⟩ := ho'.head hk
    have pos : (0 : Int32) ≤ nI k := nI_pos' (by omega)
    by_cases h4 : y = 4
    · subst h4
      obtain ⟨r, r1, r2⟩ := cnt_goods (x := nI k) w hr i4 v2 gl hg gn 0 0 (by omega)
      refine ⟨r, ?_, ?_⟩
      · rw [hc, B_T_headingOf_8, if_pos pos, if_pos (by decide), if_neg (fun z => z rfl), B_Ho_countGoodsOf_0]
        rw [show zden 23 4 [.ref 2, .int (nI k), .int 0, .int 0] [] (zSH, G) = _ from r1, zaft_same]
        exact B_T_headingOf_41
      · rw [hm, B_M_headingOf_5 (fun _ q => absurd (by decide) q), if_pos pos, if_pos (by decide), if_neg (fun z => z rfl), B_M_having_0]
        rw [show zden 119 4 [.ref 90, .int (nI k), .int 0, .int 0] [] (zSH, H) = _ from r2, zaft_same]
        exact B_M_headingOf_43
    · by_cases hy : (0 : Int32) ≤ y ∧ y ≤ 4
      · obtain ⟨j, _, j2, rfl⟩ := nI_btw (A := 0) (B := 4) (by decide) (by decide) (by decide) (by decide) hy
        have j3 : j ≤ 3 := by
          have : j ≠ 4 := fun z => h4 (by rw [z]; decide)
          omega
        have mo : mhok H (nI k) (nI j + 1) ∧ mhead H (nI k) (nI j + 1) = G 4 (5 * k + j) := by
          rcases (show j = 0 ∨ j = 1 ∨ j = 2 ∨ j = 3 by omega) with rfl | rfl | rfl | rfl
          · exact ⟨k1, m1⟩
          · exact ⟨k2', m2⟩
          · exact ⟨k3, m3⟩
          · exact ⟨k4, m4⟩
        refine ⟨G 4 (5 * k + j), ?_, ?_⟩
        · rw [hc, B_T_headingOf_8, if_pos pos, if_pos (bIn.mpr hy), if_pos h4, hd_get w rfl rfl (by omega) (by omega)]
        · have h3 : (0 : Int32) ≤ nI j ∧ nI j ≤ 3 := ⟨hy.1, by rw [nIlit_3]; exact nI_le j3 (by decide)⟩
          rw [hm, B_M_headingOf_5 (fun _ _ => mo.1), if_pos pos, if_neg (bIn.mpr h3), mo.2]
      · refine ⟨-12, ?_, ?_⟩
        · rw [hc, B_T_headingOf_8, if_pos pos, if_neg (fun q => hy (bIn.mp q))]
        · have h3 : ¬ ((0 : Int32) ≤ y ∧ y ≤ 3) := fun q => hy ⟨q.1, Int32.le_trans q.2 (by decide)⟩
          rw [hm, B_M_headingOf_5 (fun _ q => absurd (bIn.mp q) h3), if_pos pos, if_pos (bIz.mpr h3), if_pos h4]
