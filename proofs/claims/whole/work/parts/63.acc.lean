-- 63: what is counted and summed; isBalanced
theorem cnt_are {G H : Nat → Nat → Int32} {gn : Nat} {x : Int32} (w : zWT G) (i4 : G 2 4 = nI gn) (v2 : H 91 2 = nI gn) (gl : gn ≤ 12) (hg : ∀ g, g < gn → HRg (G 6) (H 91) g) : ∀ (d i : Nat) (c : Int32), i + d = gn →
    ∃ r : Int32, zden 34 4 [.ref 2, .int x, .int c, .int (nI i)] [] (zSH, G) = some (some (.int r), (zSH, G)) ∧ zden 174 4 [.ref 90, .int x, .int c, .int (nI i)] [] (zSH, H) = some (some (.int r), (zSH, H)) := by
  intro d
  induction d with
  | zero =>
    intro i c h
    have h : i = gn := by omega
    subst h
    have hb : H 91 2 ≤ nI i := by rw [v2]; exact Int32.le_refl _
    exact ⟨c, by rw [B_Ho_countGoodsThatAre_4, if_pos (by rw [i4]; exact Int32.le_refl _)], by rw [B_M_thatAre_4 (fun q => absurd hb q), if_pos hb]⟩
  | succ d ih =>
    intro i c h
    have ht : tget G 5 6 276 (nI i) 3 = H 91 (70 + 22 * i) := (gd_get (j := 3) w rfl (by decide) (by omega) (by decide)).trans (hg i (by omega)).2.2.2.1
    have hm : H 91 (63 + 22 * nI i + 7).toNatClampNeg = H 91 (70 + 22 * i) := by rw [mcl2 (N := 70 + 22 * i) (K := 7) (by decide) (by omega) (by decide) (by omega)]
    have z7 : zin (63 + 22 * nI i + 7) 327 = true := mzin (K := 7) (by decide) (by omega) (by decide)
    by_cases e : H 91 (70 + 22 * i) = x
    · obtain ⟨r, r1, r2⟩ := ih (i + 1) (c + 1) (by omega)
      refine ⟨r, ?_, ?_⟩
      · rw [B_Ho_countGoodsThatAre_4, if_neg (by rw [i4]; exact nI_ge (by omega) (by omega)), ht, if_neg (fun z => z e), B_Ho_countGoodsThatAre_28, nI_1]
        exact r1
      · rw [B_M_thatAre_4 (fun _ => z7), if_neg (by rw [v2]; exact nI_ge (by omega) (by omega)), hm, if_neg (fun z => z e), B_M_thatAre_35, nI_1]
        exact r2
    · obtain ⟨r, r1, r2⟩ := ih (i + 1) c (by omega)
      refine ⟨r, ?_, ?_⟩
      · rw [B_Ho_countGoodsThatAre_4, if_neg (by rw [i4]; exact nI_ge (by omega) (by omega)), ht, if_pos e, B_Ho_countGoodsThatAre_28, nI_1]
        exact r1
      · rw [B_M_thatAre_4 (fun _ => z7), if_neg (by rw [v2]; exact nI_ge (by omega) (by omega)), hm, if_pos e, B_M_thatAre_35, nI_1, Int32.add_zero]
        exact r2
theorem fav_set {D : Nat} {G H : Nat → Nat → Int32} (w : zWT G) (hr : HRat D G 2 (H 91)) : ∀ (d i : Nat) (c : Int32), i + d = 5 →
    ∃ r : Int32, zden 35 4 [.ref 2, .int c, .int (nI i)] [] (zSH, G) = some (some (.int r), (zSH, G)) ∧ zden 175 4 [.ref 90, .int c, .int (nI i)] [] (zSH, H) = some (some (.int r), (zSH, H)) := by
  intro d
  induction d with
  | zero =>
    intro i c h
    have h : i = 5 := by omega
    subst h
    have hb : (5 : Int32) ≤ nI 5 := by decide
    exact ⟨c, by rw [B_Ho_favouredSet_4, if_pos hb], by rw [B_M_favoured_4 (fun q => absurd hb q), if_pos hb]⟩
  | succ d ih =>
    intro i c h
    have hn : ¬ (5 : Int32) ≤ nI i := by rw [nIlit_5]; exact nI_ge (by omega) (by decide)
    have ht : tget G 7 8 5 0 (nI i) = H 91 (8 + i) := (fv_get w rfl (by omega)).trans (hr.fav i (by omega)).1
    have e8 : (8 : Int32) + nI i = nI (8 + i) := by rw [nIlit_8, nI_add]
    have z8 : zin (8 + nI i) 327 = true := by rw [e8]; exact zin_nI (by omega) (by decide)
    have hm : H 91 (8 + nI i).toNatClampNeg = H 91 (8 + i) := by rw [e8, nI_clamp (by omega)]
    by_cases e : H 91 (8 + i) ≤ 0
    · obtain ⟨r, r1, r2⟩ := ih (i + 1) c (by omega)
      refine ⟨r, ?_, ?_⟩
      · rw [B_Ho_favouredSet_4, if_neg hn, ht, if_pos e, B_Ho_favouredSet_27, nI_1]
        exact r1
      · rw [B_M_favoured_4 (fun _ => z8), if_neg hn, hm, if_pos e, B_M_favoured_29, nI_1, Int32.or_zero]
        exact r2
    · obtain ⟨r, r1, r2⟩ := ih (i + 1) (c ||| (1 <<< (nI i &&& 31))) (by omega)
      refine ⟨r, ?_, ?_⟩
      · rw [B_Ho_favouredSet_4, if_neg hn, ht, if_neg e, B_Ho_favouredSet_27, nI_1]
        exact r1
      · rw [B_M_favoured_4 (fun _ => z8), if_neg hn, hm, if_neg e, B_M_favoured_29, nI_1]
        exact r2
def sumI (f : Nat → Int32) : Nat → Nat → Int32 → Int32
  | 0, _, c => c
  | d + 1, i, c => sumI f d (i + 1) (c + f i)
theorem sm_sum {H : Nat → Nat → Int32} {gn k : Nat} (v2 : H 91 2 = nI gn) (gl : gn ≤ 12) (hk : k < 22) : ∀ (d i : Nat) (c : Int32), i + d = gn →
    zden 177 4 [.ref 90, .int (nI k), .int c, .int (nI i)] [] (zSH, H) = some (some (.int (sumI (fun g => H 91 (63 + 22 * g + k)) d i c)), (zSH, H)) := by
  intro d
  induction d with
  | zero =>
    intro i c h
    have h : i = gn := by omega
    subst h
    have hb : H 91 2 ≤ nI i := by rw [v2]; exact Int32.le_refl _
    rw [B_M_sum_4 (fun q => absurd hb q), if_pos hb]; rfl
  | succ d ih =>
    intro i c h
    rw [B_M_sum_4 (fun _ => mzin rfl (by omega) hk), if_neg (by rw [v2]; exact nI_ge (by omega) (by omega)), mcl2 (N := 63 + 22 * i + k) rfl (by omega) hk rfl, nI_1]
    exact ih (i + 1) _ (by omega)
theorem sc_coins {G H : Nat → Nat → Int32} {gn : Nat} (w : zWT G) (i4 : G 2 4 = nI gn) (gl : gn ≤ 12) (hg : ∀ g, g < gn → HRg (G 6) (H 91) g) : ∀ (d i : Nat) (c e : Int32), i + d = gn →
    zden 36 6 [.ref 2, .int c, .int e, .int (nI i)] [] (zSH, G) = if ¬ (G 2 6) = (((G 2 7) + (G 2 9)) - (G 2 8)) then some (some (.int 0), (zSH, G)) else if ¬ (G 2 8) = sumI (fun g => H 91 (63 + 22 * g + 8)) d i c then some (some (.int 0), (zSH, G)) else if ¬ (G 2 9) = sumI (fun g => H 91 (63 + 22 * g + 9)) d i e then some (some (.int 0), (zSH, G)) else some (some (.int 1), (zSH, G)) := by
  intro d
  induction d with
  | zero =>
    intro i c e h
    have h : i = gn := by omega
    subst h
    rw [B_Ho_areCoinsRight_6, if_pos (by rw [i4]; exact Int32.le_refl _)]
    rfl
  | succ d ih =>
    intro i c e h
    obtain ⟨_, _, _, _, _, a5, a6, _⟩ := hg i (by omega)
    have t5 : tget G 5 6 276 (nI i) 5 = H 91 (63 + 22 * i + 8) := by rw [gd_get (j := 5) w rfl (by decide) (by omega) (by decide), a5, show 71 + 22 * i = 63 + 22 * i + 8 by omega]
    have t6 : tget G 5 6 276 (nI i) 6 = H 91 (63 + 22 * i + 9) := by rw [gd_get (j := 6) w rfl (by decide) (by omega) (by decide), a6, show 72 + 22 * i = 63 + 22 * i + 9 by omega]
    rw [B_Ho_areCoinsRight_6, if_neg (by rw [i4]; exact nI_ge (by omega) (by omega)), t5, t6, nI_1]
    exact ih (i + 1) _ _ (by omega)
theorem sc_heads {D : Nat} {G H : Nat → Nat → Int32} {gn : Nat} (w : zWT G) (hr : HRat D G 2 (H 91)) (i4 : G 2 4 = nI gn) (gl : gn ≤ 12) (hg : ∀ g, g < gn → HRg (G 6) (H 91) g) : ∀ (d i : Nat), i + d = gn →
    zden 37 2 [.ref 2, .int (nI i)] [] (zSH, G) = some (some (.int 1), (zSH, G)) := by
  obtain ⟨n, ho, i3, hs⟩ := hr.rows
  have ho' : hOK n (G 4) (H 91) := ho
  intro d
  induction d with
  | zero =>
    intro i h
    have h : i = gn := by omega
    subst h
    rw [B_Ho_areHeadingsRight_2, if_pos (by rw [i4]; exact Int32.le_refl _)]
  | succ d ih =>
    intro i h
    obtain ⟨k, hk, q, q2, _⟩ := fit_three w ho' hs i3 (show i < 12 by omega) (hg i (by omega))
    rw [B_Ho_areHeadingsRight_2, if_neg (by rw [i4]; exact nI_ge (by omega) (by omega)), q, zaft_same]
    refine Eq.trans B_Ho_areHeadingsRight_18 ?_
    rw [q2, zaft_same]
    refine Eq.trans B_Ho_areHeadingsRight_23 ?_
    rw [if_pos rfl, nI_1]
    exact ih (i + 1) (by omega)
theorem read_isBalanced : ReadOK 99 [.ref 0] 176 [.ref 90] := by
  intro D G H w hr hw
  obtain ⟨gn, gl, i4, v2, hg⟩ := hr.goods
  obtain ⟨e5, e6, e7, e8, e9, e10⟩ := hr.e
  have e6 : G 2 6 = H 91 3 := e6
  have e7 : G 2 7 = H 91 4 := e7
  have e8 : G 2 8 = H 91 5 := e8
  have e9 : G 2 9 = H 91 6 := e9
  have c1 := sc_coins w i4 gl hg gn 0 0 0 (by omega)
  have c2 := sc_heads w hr i4 gl hg gn 0 (by omega)
  have m8 := sm_sum (k := 8) v2 gl (by decide) gn 0 0 (by omega)
  have m9 := sm_sum (k := 9) v2 gl (by decide) gn 0 0 (by omega)
  have hc : zden 99 0 [.ref 0] [] (zSH, G) = zaft 99 7 [.ref 0] [] (zSH, G) (zden 36 6 [.ref 2, .int 0, .int 0, .int (nI 0)] [] (zSH, G)) := by
    rw [B_T_isBalanced_0, B_Ho_areCoinsRight_0]
    rfl
  rw [c1] at hc
  generalize sumI (fun g => H 91 (63 + 22 * g + 8)) gn 0 0 = s8 at *
  generalize sumI (fun g => H 91 (63 + 22 * g + 9)) gn 0 0 = s9 at *
  have m8' : zden 177 0 [.ref 90, .int 8, .retAddr 0, .retAddr 0] [] (zSH, H) = some (some (.int s8), (zSH, H)) := by
    rw [B_M_sum_0]; exact m8
  have m9' : zden 177 0 [.ref 90, .int 9, .retAddr 0, .retAddr 0] [] (zSH, H) = some (some (.int s9), (zSH, H)) := by
    rw [B_M_sum_0]; exact m9
  have no : ∀ {G : Nat → Nat → Int32}, zden 99 7 [.ref 0] ((some (Value.int 0)).toList ++ []) (zSH, G) = some (some (.int 0), (zSH, G)) := B_T_isBalanced_7.trans (if_pos rfl)
  rw [e6, e7, e8, e9] at hc
  by_cases a : H 91 3 = ((H 91 4) + (H 91 6)) - (H 91 5)
  · rw [if_neg (fun z => z a)] at hc
    by_cases b : H 91 5 = s8
    · rw [if_neg (fun z => z b)] at hc
      by_cases c : H 91 6 = s9
      · rw [if_neg (fun z => z c)] at hc
        refine ⟨1, ?_, ?_⟩
        · rw [hc, zaft_same]
          refine B_T_isBalanced_7.trans ((if_neg (by decide)).trans ?_)
          rw [B_Ho_areHeadingsRight_0, show zden 37 2 [.ref 2, .int 0] [] (zSH, G) = _ from c2, zaft_same]
          exact B_T_isBalanced_17.trans (if_neg (by decide))
        · rw [B_M_isBalanced_0, if_neg (fun z => z a), m8', zaft_same]
          refine B_M_isBalanced_36.trans ((if_neg (fun z => z b.symm)).trans ?_)
          rw [m9', zaft_same]
          exact B_M_isBalanced_51.trans (if_neg (fun z => z c.symm))
      · rw [if_pos c] at hc
        refine ⟨0, ?_, ?_⟩
        · rw [hc, zaft_same]; exact no
        · rw [B_M_isBalanced_0, if_neg (fun z => z a), m8', zaft_same]
          refine B_M_isBalanced_36.trans ((if_neg (fun z => z b.symm)).trans ?_)
          rw [m9', zaft_same]
          exact B_M_isBalanced_51.trans (if_pos (fun z => c z.symm))
    · rw [if_pos b] at hc
      refine ⟨0, ?_, ?_⟩
      · rw [hc, zaft_same]; exact no
      · rw [B_M_isBalanced_0, if_neg (fun z => z a), m8', zaft_same]
        exact B_M_isBalanced_36.trans (if_pos (fun z => b z.symm))
  · rw [if_pos a] at hc
    refine ⟨0, ?_, ?_⟩
    · rw [hc, zaft_same]; exact no
    · rw [B_M_isBalanced_0, if_pos a]
