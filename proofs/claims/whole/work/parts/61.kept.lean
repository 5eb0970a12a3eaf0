-- 61: the second way
theorem rkC_hd {A : Nat → Int32} {i : Nat} : rkC A i = (if A (5 * i + 4) = 99 then 0 else (A (5 * i + 4)).toNatClampNeg) + (if hdO A i = 0 then 0 else 100) + (if hdF A i = 0 then 0 else 200) := by
  unfold rkC hdO hdF
  by_cases h1 : A (5 * i + 1) = 3
  · by_cases h2 : A (5 * i) = 4
    · rw [if_pos h1, if_pos h2, if_pos h1, if_pos h2]; rfl
    · rw [if_pos h1, if_neg h2, if_pos h1, if_neg h2]; rfl
  · by_cases h2 : A (5 * i) = 4
    · rw [if_neg h1, if_pos h2, if_neg h1, if_pos h2]; rfl
    · rw [if_neg h1, if_neg h2, if_neg h1, if_neg h2]; rfl
theorem hdF_or {A : Nat → Int32} {i : Nat} : hdF A i = 0 ∨ hdF A i = 1 := by
  unfold hdF
  by_cases h : A (5 * i) = 4
  · rw [if_pos h]; exact .inl rfl
  · rw [if_neg h]; exact .inr rfl
theorem hdO_or {A : Nat → Int32} {i : Nat} : hdO A i = 0 ∨ hdO A i = 1 := by
  unfold hdO
  by_cases h : A (5 * i + 1) = 3
  · rw [if_pos h]; exact .inl rfl
  · rw [if_neg h]; exact .inr rfl
theorem zb_01 {x : Int32} (h : x = 0 ∨ x = 1) : znr .boolean x = true := by
  rcases h with rfl | rfl
  · exact znr_b0
  · exact znr_b1
/-- what isAhead answers, as it goes -/
def ahV (A : Nat → Int32) (i j : Nat) : Int32 := if hdF A i = hdF A j then if hdO A i = hdO A j then (if A (5 * i + 4) = 99 then 0 else if A (5 * j + 4) = 99 then 1 else if A (5 * i + 4) ≤ A (5 * j + 4) then 0 else 1) else hdO A i else hdF A i
theorem ahV_eq {n i j : Nat} {A v : Nat → Int32} (ho : hOK n A v) (hi : i ≤ n) (hj : j ≤ n) : ahV A i j = bB (decide (rkC A j < rkC A i)) := by
  obtain ⟨c, _, _, _, _, hc, _, _, _, _, c1, c2, _⟩ := ho.row hi
  obtain ⟨d, _, _, _, _, hd, _, _, _, _, d1, d2, _⟩ := ho.row hj
  have l99 : (99 : Int32) = nI 99 := by decide
  have ex : ∀ {t : Nat}, t ≤ 99 → ∃ x : Nat, x < 99 ∧ (if nI t = 99 then 0 else (nI t).toNatClampNeg) = x ∧ (t = 99 → x = 0) ∧ (t ≠ 99 → x = t) := by
    intro t ht
    by_cases q : t = 99
    · subst q; exact ⟨0, by omega, rfl, fun _ => rfl, fun z => absurd rfl z⟩
    · exact ⟨t, by omega, by rw [if_neg (by rw [l99, nI_eq (by omega) (by decide)]; exact q), nI_clamp (by omega)], fun z => absurd z q, fun _ => rfl⟩
  obtain ⟨x, x1, x2, x3, x4⟩ := ex c2
  obtain ⟨y, y1, y2, y3, y4⟩ := ex d2
  have no : ¬ ((1 : Int32) = 0) := by decide
  have no2 : ¬ ((0 : Int32) = 1) := by decide
  unfold ahV
  rw [rkC_hd (i := i), rkC_hd (i := j), hc, hd, x2, y2]
  rcases hdF_or (A := A) (i := i) with f1 | f1 <;> rcases hdF_or (A := A) (i := j) with f2 | f2 <;> rcases hdO_or (A := A) (i := i) with o1 | o1 <;> rcases hdO_or (A := A) (i := j) with o2 | o2 <;> rw [f1, f2, o1, o2] <;>
    simp only [if_true, if_neg no, if_neg no2, bB, decide_eq_true_eq]
  all_goals first
    | (rw [if_pos (by omega)]; done)
    | (rw [if_neg (by omega)]; done)
    | (by_cases q1 : nI c = 99
       · rw [if_pos q1]
         have := x3 ((nI_eq (by omega) (by decide)).mp (q1.trans l99))
         rw [if_neg (by omega)]
       · rw [if_neg q1]
         have hcx := x4 (fun z => q1 (by rw [z]; decide))
         by_cases q2 : nI d = 99
         · rw [if_pos q2]
           have := y3 ((nI_eq (by omega) (by decide)).mp (q2.trans l99))
           rw [if_pos (by omega)]
         · rw [if_neg q2]
           have hdy := y4 (fun z => q2 (by rw [z]; decide))
           by_cases q3 : nI c ≤ nI d
           · rw [if_pos q3]
             have := (nI_leI (by omega) (by omega)).mp q3
             rw [if_neg (by omega)]
           · rw [if_neg q3]
             have : ¬ c ≤ d := fun z => q3 (nI_le z (by omega))
             rw [if_pos (by omega)])
theorem sc_isAhead {G : Nat → Nat → Int32} {v : Nat → Int32} {n i j : Nat} (w : zWT G) (ho : hOK n (G 4) v) (hi : i ≤ n) (hj : j ≤ n) :
    zden 32 0 [.ref 2, .int (nI i), .int (nI j), .retAddr 0, .retAddr 0, .retAddr 0, .retAddr 0] [] (zSH, G) = some (some (.int (bB (decide (rkC (G 4) j < rkC (G 4) i)))), (zSH, G)) := by
  have hn := ho.1
  have i0 : tget G 3 4 55 (nI i) 0 = G 4 (5 * i) := hd_get (j := 0) w rfl (by decide) (by omega) (by decide)
  have i1 : tget G 3 4 55 (nI i) 1 = G 4 (5 * i + 1) := hd_get (j := 1) w rfl (by decide) (by omega) (by decide)
  have i4 : tget G 3 4 55 (nI i) 4 = G 4 (5 * i + 4) := hd_get (j := 4) w rfl (by decide) (by omega) (by decide)
  have j0 : tget G 3 4 55 (nI j) 0 = G 4 (5 * j) := hd_get (j := 0) w rfl (by decide) (by omega) (by decide)
  have j1 : tget G 3 4 55 (nI j) 1 = G 4 (5 * j + 1) := hd_get (j := 1) w rfl (by decide) (by omega) (by decide)
  have j4 : tget G 3 4 55 (nI j) 4 = G 4 (5 * j + 4) := hd_get (j := 4) w rfl (by decide) (by omega) (by decide)
  rw [← ahV_eq ho hi hj, B_Ho_isAhead_0, i0, ite_z]
  refine Eq.trans B_Ho_isAhead_18 ?_
  rw [i1, ite_z]
  refine Eq.trans B_Ho_isAhead_37 ?_
  rw [j0, ite_z]
  refine Eq.trans (B_Ho_isAhead_58 (zb_01 hdF_or)) ?_
  rw [j1, ite_z]
  unfold ahV
  show (if hdF (G 4) i = hdF (G 4) j then zden 32 83 _ [.int (hdO (G 4) j), .int (hdO (G 4) i)] _ else _) = _
  by_cases c1 : hdF (G 4) i = hdF (G 4) j
  · rw [if_pos c1, if_pos c1]
    refine Eq.trans (B_Ho_isAhead_83 (zb_01 hdO_or)) ?_
    rw [i4, j4]
    by_cases c2 : hdO (G 4) i = hdO (G 4) j
    · rw [if_pos c2, if_pos c2]
      by_cases c3 : G 4 (5 * i + 4) = 99
      · rw [if_pos c3, if_pos c3]
        refine Eq.trans B_Ho_isAhead_125 ?_
        by_cases c4 : G 4 (5 * j + 4) = 99
        · rw [if_neg (fun z => z c4), if_pos c3]
        · rw [if_pos c4]
      · rw [if_neg c3, if_neg c3]
        by_cases c4 : G 4 (5 * j + 4) = 99
        · rw [if_neg (fun z => z c4), if_pos c4]
          exact B_Ho_isAhead_125.trans ((if_neg (fun z => z c4)).trans (if_neg c3))
        · rw [if_pos c4, if_neg c4]
          by_cases c5 : G 4 (5 * i + 4) ≤ G 4 (5 * j + 4)
          · rw [if_pos c5, if_pos c5]
          · rw [if_neg c5, if_neg c5]
    · rw [if_neg c2, if_neg c2]
      rfl
  · rw [if_neg c1, if_neg c1]
    rfl
/-- r is the row furthest ahead of those before i -/
def selK (F : Nat → Bool) (K : Nat → Nat) (i : Nat) (r : Int32) : Prop :=
  (r = -1 ∧ ∀ j, j < i → F j = true → False) ∨ (∃ h, h < i ∧ r = nI h ∧ F h = true ∧ ∀ j, j < i → F j = true → K j ≤ K h)
theorem sc_kept_loop {G : Nat → Nat → Int32} {v : Nat → Int32} {n g : Nat} (w : zWT G) (ho : hOK n (G 4) v) (i3 : G 2 3 = nI (n + 1)) (hg : g < 12) : ∀ (d i : Nat) (x : Int32), i + d = n + 1 → selK (fitB (G 4) (G 6) g) (rkC (G 4)) i x →
    ∃ r : Int32, zden 31 4 [.ref 2, .int (nI g), .int x, .int (nI i)] [] (zSH, G) = some (some (.int r), (zSH, G)) ∧ selK (fitB (G 4) (G 6) g) (rkC (G 4)) (n + 1) r := by
  have hn := ho.1
  intro d
  induction d with
  | zero =>
    intro i x h hs
    have h : i = n + 1 := by omega
    subst h
    exact ⟨x, by rw [B_Ho_keptRow_4, if_pos (by rw [i3]; exact Int32.le_refl _)], hs⟩
  | succ d ih =>
    intro i x h hs
    have hc : zden 31 4 [.ref 2, .int (nI g), .int x, .int (nI i)] [] (zSH, G) = _ := B_Ho_keptRow_4
    rw [if_neg (by rw [i3]; exact nI_ge (by omega) (by omega)), sc_isFitting w (by omega) hg, zaft_same] at hc
    have hc := hc.trans B_Ho_keptRow_18
    have skip : ∀ y : Int32, zden 31 36 [.ref 2, .int (nI g), .int y, .int (nI i)] [] (zSH, G) = zden 31 4 [.ref 2, .int (nI g), .int y, .int (nI (i + 1))] [] (zSH, G) := fun y => by rw [B_Ho_keptRow_36, nI_1]
    have take : zden 31 34 [.ref 2, .int (nI g), .int x, .int (nI i)] [] (zSH, G) = zden 31 4 [.ref 2, .int (nI g), .int (nI i), .int (nI (i + 1))] [] (zSH, G) := by rw [B_Ho_keptRow_34, skip]
    by_cases hF : fitB (G 4) (G 6) g i = true
    · rw [hF, if_neg (by decide)] at hc
      rcases hs with ⟨s1, s2⟩ | ⟨k, k1, k2, k3, k4⟩
      · subst s1
        rw [if_pos (by decide)] at hc
        obtain ⟨r, q1, q2⟩ := ih (i + 1) (nI i) (by omega) (.inr ⟨i, by omega, rfl, hF, fun j j1 j2 => by
          by_cases e : j = i
          · subst e; exact Nat.le_refl _
          · exact (s2 j (by omega) j2).elim⟩)
        exact ⟨r, hc.trans (take.trans q1), q2⟩
      · subst k2
        rw [if_neg (nI_pos (by omega)), sc_isAhead w ho (by omega) (by omega), zaft_same] at hc
        have hc := hc.trans B_Ho_keptRow_31
        by_cases hl : rkC (G 4) i < rkC (G 4) k
        · rw [if_pos (by rw [decide_eq_true hl]; decide)] at hc
          obtain ⟨r, q1, q2⟩ := ih (i + 1) (nI k) (by omega) (.inr ⟨k, by omega, rfl, k3, fun j j1 j2 => by
            by_cases e : j = i
            · subst e; omega
            · exact k4 j (by omega) j2⟩)
          exact ⟨r, hc.trans ((skip _).trans q1), q2⟩
        · rw [if_neg (by rw [decide_eq_false hl]; decide)] at hc
          obtain ⟨r, q1, q2⟩ := ih (i + 1) (nI i) (by omega) (.inr ⟨i, by omega, rfl, hF, fun j j1 j2 => by
            by_cases e : j = i
            · subst e; exact Nat.le_refl _
            · have := k4 j (by omega) j2
              omega⟩)
          exact ⟨r, hc.trans (take.trans q1), q2⟩
    · have hF' : fitB (G 4) (G 6) g i = false := by simpa using hF
      rw [hF', if_pos (by decide)] at hc
      obtain ⟨r, q1, q2⟩ := ih (i + 1) x (by omega) (by
        rcases hs with ⟨s1, s2⟩ | ⟨k, k1, k2, k3, k4⟩
        · refine .inl ⟨s1, fun j j1 j2 => ?_⟩
          by_cases e : j = i
          · subst e; exact hF j2
          · exact s2 j (by omega) j2
        · refine .inr ⟨k, by omega, k2, k3, fun j j1 j2 => ?_⟩
          by_cases e : j = i
          · subst e; exact absurd j2 hF
          · exact k4 j (by omega) j2)
      exact ⟨r, hc.trans ((skip _).trans q1), q2⟩
/-- the one heading, found in three ways -/
theorem fit_three {G H : Nat → Nat → Int32} {n g : Nat} (w : zWT G) (ho : hOK n (G 4) (H 91)) (hs : ∀ h, h + 1 < n → G 4 (5 * h + 4) < G 4 (5 * (h + 1) + 4)) (i3 : G 2 3 = nI (n + 1)) (hg : g < 12) (hq : HRg (G 6) (H 91) g) :
    ∃ h : Nat, h ≤ n ∧ zden 24 0 [.ref 2, .int (nI g), .int 1000, .retAddr 0, .retAddr 0, .retAddr 0, .retAddr 0] [] (zSH, G) = some (some (.int (nI h)), (zSH, G)) ∧
      zden 31 0 [.ref 2, .int (nI g), .retAddr 0, .retAddr 0] [] (zSH, G) = some (some (.int (nI h)), (zSH, G)) ∧
      zden 120 0 [.ref 90, .int (nI g), .int 0, .retAddr 0, .retAddr 0, .retAddr 0] [] (zSH, H) = some (some (.int (nI h)), (zSH, H)) := by
  obtain ⟨r, x, q1, q2⟩ := sc_fittingRow (b := 1000) w ho i3 hg (by omega)
  obtain ⟨r', p1, p2⟩ := sm_fitting (pl := nI 0) ho hg hq
  have a0 := atI_zero (fun j hj => by have := rk_le ho hj; omega) q2
  have e := atI_selM (by decide) ho.1 (fun i j hi hj h => rk_inj ho hs hi hj h) (fun i j hi hj => rk_lt ho hi hj) a0 p2
  subst e
  obtain ⟨t, t1, t2⟩ := sc_kept_loop w ho i3 hg (n + 1) 0 (-1) (by omega) (.inl ⟨rfl, fun j hj => by omega⟩)
  have hl := fit_last (B := G 6) (g := g) ho
  rcases q2 with ⟨_, _, z⟩ | ⟨h, h1, h2, h3, h4, h5, h6⟩
  · exact absurd (by have := rk_le ho (Nat.le_refl n); omega) (z n (by omega) hl)
  · rcases t2 with ⟨_, z⟩ | ⟨k, k1, k2, k3, k4⟩
    · exact (z n (by omega) hl).elim
    · have e1 := k4 h h1 h4
      have e2 := h6 k k1 k3 (by have := rk_le ho (i := k) (by omega); omega)
      have e3 : k = h := rk_inj ho hs (by omega) (by omega) (by omega)
      subst e3
      subst h2
      subst k2
      exact ⟨k, by omega, by rw [show (1000 : Int32) = nI 1000 by decide]; exact q1, by rw [B_Ho_keptRow_0]; exact t1, p1⟩
theorem read_fitAgain {x : Int32} : ReadOK 82 [.ref 0, .int x] 138 [.ref 90, .int x] := by
  intro D G H w hr hw
  obtain ⟨gn, gl, i4, v2, hg⟩ := hr.goods
  obtain ⟨n, ho, i3, hs⟩ := hr.rows
  have ho' : hOK n (G 4) (H 91) := ho
  have hn := ho.1
  by_cases hx : ∃ g : Nat, g < gn ∧ x = nI g
  · obtain ⟨g, g1, rfl⟩ := hx
    have n1 : ¬ bI (0 ≤ nI g ∧ nI g < G 2 4) = 0 := bIn.mpr (by rw [i4]; exact (good_iff gl).mpr ⟨g, g1, rfl⟩)
    have n2 : ¬ bI (0 ≤ nI g ∧ nI g ≤ H 91 2 - 1) = 0 := bIn.mpr (by rw [v2]; exact (good_iff2 gl).mpr ⟨g, g1, rfl⟩)
    obtain ⟨h, hh, _, q, p⟩ := fit_three w ho' hs i3 (show g < 12 by omega) (hg g g1)
    obtain ⟨⟨m0, _⟩, k0, _⟩ := ho'.head hh
    refine ⟨G 4 (5 * h + 4), ?_, ?_⟩
    · rw [B_T_fitAgain_0, if_pos n1, q, zaft_same]
      refine Eq.trans B_T_fitAgain_29 ?_
      rw [hd_get w rfl nIlit_4 (by omega) (by decide)]
    · rw [B_M_fitAgain_0, B_M_fit_0, if_neg n2, p, zaft_same]
      rw [show zden 137 14 [.ref 90, .int (nI g), .int 0, .retAddr 0] ((some (Value.int (nI h))).toList ++ []) (zSH, H) = _ from B_M_fit_14, B_M_fit_18 (fun _ => k0), if_pos (nI_pos' (by omega)), zaft_same, m0]
      exact B_M_fitAgain_6
  · have n1 : ¬ (0 ≤ x ∧ x < G 2 4) := by rw [i4, good_iff gl]; exact hx
    have n2 : ¬ (0 ≤ x ∧ x ≤ H 91 2 - 1) := by rw [v2, good_iff2 gl]; exact hx
    refine ⟨-11, ?_, ?_⟩
    · rw [B_T_fitAgain_0, if_neg (fun q => q (bIz.mpr n1))]
    · rw [B_M_fitAgain_0, B_M_fit_0, if_pos (bIz.mpr n2), B_M_fit_18 (fun q => absurd q nlow), if_neg nlow, zaft_same]
      exact B_M_fitAgain_6
