-- 41: heading
theorem hdz {p k N : Nat} {x : Int32} (hx : x = nI k) (hN : 13 + 5 * p + k = N) (h : N < 327) : (13 + 5 * nI p + x).toNatClampNeg = N ∧ zin (13 + 5 * nI p + x) 327 = true := by
  have e : 13 + 5 * nI p + x = nI N := by rw [hx, nIlit_13, nIlit_5, pk_mul, nI_add, nI_add, hN]
  exact ⟨by rw [e, nI_clamp (by omega)], by rw [e]; exact zin_nI h (by decide)⟩
theorem ok_heading {x1 x2 x3 x4 x5 : Int32} : OpOK 1 [.ref 1, .int x1, .int x2, .int x3, .int x4, .int x5, .retAddr 0] 109 [.ref 90, .int x1, .int x2, .int x3, .int x4, .int x5, .retAddr 0, .retAddr 0] := by
  intro D G H hD w hr h0
  obtain ⟨n, ho, i3, hs⟩ := hr.rows
  have hn : n ≤ 10 := ho.1
  have hv1 : H 91 1 = nI n := ho.2.1
  have i3' : G 2 3 = nI (n + 1) := i3
  have bad : (zden 1 0 [.ref 1, .int x1, .int x2, .int x3, .int x4, .int x5, .retAddr 0] [] (zSH, G) = some (some (.int (-12)), (zSH, G))) → (zden 109 0 [.ref 90, .int x1, .int x2, .int x3, .int x4, .int x5, .retAddr 0, .retAddr 0] [] (zSH, H) = some (some (.int (-12)), (zSH, zup H 90 0 (-12)))) →
      ∃ (r : Int32) (G' H' : Nat → Nat → Int32), zden 1 0 [.ref 1, .int x1, .int x2, .int x3, .int x4, .int x5, .retAddr 0] [] (zSH, G) = some (some (.int r), (zSH, G')) ∧ zden 109 0 [.ref 90, .int x1, .int x2, .int x3, .int x4, .int x5, .retAddr 0, .retAddr 0] [] (zSH, H) = some (some (.int r), (zSH, H')) ∧ opFr G G' H H' ∧ opEnd D r G G' H H' :=
    fun p q => ⟨-12, G, zup H 90 0 (-12), p, q, opFr_no, opEnd_no hr (by decide)⟩
  by_cases c1 : (1 : Int32) ≤ x1 ∧ x1 ≤ 98
  rotate_left
  · exact bad (by rw [B_Cl_setUp_0, if_pos (bIz.mpr c1)]) (by rw [B_M_setsUp_0, if_pos (bIz.mpr c1)]; exact B_M_setsUp_50)
  by_cases c2 : (0 : Int32) ≤ x2 ∧ x2 ≤ 4
  rotate_left
  · exact bad (by rw [B_Cl_setUp_0, if_neg (fun q => bIz.mp q c1), if_pos (bIz.mpr c2)]) (by rw [B_M_setsUp_0, if_neg (fun q => bIz.mp q c1), if_pos (bIz.mpr c2)]; exact B_M_setsUp_50)
  by_cases c3 : (0 : Int32) ≤ x3 ∧ x3 ≤ 3
  rotate_left
  · exact bad (by rw [B_Cl_setUp_0, if_neg (fun q => bIz.mp q c1), if_neg (fun q => bIz.mp q c2), if_pos (bIz.mpr c3)]) (by rw [B_M_setsUp_0, if_neg (fun q => bIz.mp q c1), if_neg (fun q => bIz.mp q c2), if_pos (bIz.mpr c3)]; exact B_M_setsUp_50)
  by_cases c4 : (0 : Int32) ≤ x4 ∧ x4 ≤ 60
  rotate_left
  · exact bad (by rw [B_Cl_setUp_0, if_neg (fun q => bIz.mp q c1), if_neg (fun q => bIz.mp q c2), if_neg (fun q => bIz.mp q c3), if_pos (bIz.mpr c4)]) (by rw [B_M_setsUp_0, if_neg (fun q => bIz.mp q c1), if_neg (fun q => bIz.mp q c2), if_neg (fun q => bIz.mp q c3), if_pos (bIz.mpr c4)]; exact B_M_setsUp_50)
  by_cases c5 : (0 : Int32) ≤ x5 ∧ x5 ≤ 20
  rotate_left
  · exact bad (by rw [B_Cl_setUp_0, if_neg (fun q => bIz.mp q c1), if_neg (fun q => bIz.mp q c2), if_neg (fun q => bIz.mp q c3), if_neg (fun q => bIz.mp q c4), if_neg (fun q => c5 (bIn.mp q))]) (by rw [B_M_setsUp_0, if_neg (fun q => bIz.mp q c1), if_neg (fun q => bIz.mp q c2), if_neg (fun q => bIz.mp q c3), if_neg (fun q => bIz.mp q c4), if_neg (fun q => c5 (bIn.mp q))]; exact B_M_setsUp_50)
  have ck : zden 1 0 [.ref 1, .int x1, .int x2, .int x3, .int x4, .int x5, .retAddr 0] [] (zSH, G) = _ := B_Cl_setUp_0
  rw [if_neg (fun q => bIz.mp q c1), if_neg (fun q => bIz.mp q c2), if_neg (fun q => bIz.mp q c3), if_neg (fun q => bIz.mp q c4), if_pos (bIn.mpr c5), sc_rowOfCode w hn i3, zaft_same] at ck
  have ck := ck.trans B_Cl_setUp_61
  have mk : zden 109 0 [.ref 90, .int x1, .int x2, .int x3, .int x4, .int x5, .retAddr 0, .retAddr 0] [] (zSH, H) = _ := B_M_setsUp_0
  rw [if_neg (fun q => bIz.mp q c1), if_neg (fun q => bIz.mp q c2), if_neg (fun q => bIz.mp q c3), if_neg (fun q => bIz.mp q c4), if_pos (bIn.mpr c5), sm_placeOf ho, zaft_same] at mk
  have mk := mk.trans B_M_setsUp_62
  rw [hv1] at mk
  rw [i3'] at ck
  rcases findR_or (A := G (2 + 2)) (x := x1) (n + 1) 0 with ⟨f1, f2⟩ | ⟨k, _, k2, f1, f2⟩
  rotate_left
  · rw [show findR (G 4) x1 (n + 1) 0 = nI k from f1, if_neg (nI_pos (by omega)), B_Cl_refuse_0, zaft_same] at ck
    rw [f1, if_neg (nI_pos (by omega))] at mk
    exact ⟨-14, zup (zup G 1 1 2) 1 2 x1, zup (zup (zup H 90 2 2) 90 3 x1) 90 0 (-14), ck.trans B_Cl_setUp_70, mk, opFr_ref, opEnd_ref hr (by decide)⟩
  rw [show findR (G 4) x1 (n + 1) 0 = -1 from f1, if_pos (by decide)] at ck
  rw [f1, if_pos (by decide)] at mk
  by_cases h10 : n = 10
  · subst h10
    rw [if_neg (by decide), B_Cl_refuse_0, zaft_same] at ck
    rw [if_neg (fun q => q (by decide))] at mk
    exact ⟨-14, zup (zup G 1 1 1) 1 2 10, zup (zup (zup H 90 2 1) 90 3 10) 90 0 (-14), ck.trans B_Cl_setUp_90, mk, opFr_ref, opEnd_ref hr (by decide)⟩
  have hn9 : n < 10 := by omega
  rw [if_pos (by rw [nIlit_10]; exact nI_le (by omega) (by decide))] at ck
  rw [if_pos (by rw [nIlit_10, nI_eq (by omega) (by decide)]; exact h10)] at mk
  obtain ⟨p, G1, g1, g2, g3, g4, g5, g6⟩ := sc_ins (x1 := x1) (x2 := x2) (x3 := x3) (x4 := x4) (x5 := x5) (n + 1) G (by omega) w
  obtain ⟨p', H1, v7', q1, q2, q3, q4, q5, q6⟩ := sm_ins (x1 := x1) (x2 := x2) (x3 := x3) (x4 := x4) (x5 := x5) hn9 n H (.retAddr 0) (Nat.le_refl _) hv1
  have same : ∀ k, k < n → G 4 (5 * k + 4) = H 91 (13 + 5 * k) := fun k hk => (ho.2.2.1 k hk).1
  have pn : p ≤ n := by
    rcases Nat.lt_or_ge n p with h | h
    · rcases g4 with g4 | g4
      · omega
      · have e : p - 1 = n := by omega
        rw [e] at g4
        have e9 : G 4 (5 * n + 4) = 99 := ho.2.2.2.2.2.2.2
        rw [e9] at g4
        exact absurd (Int32.le_trans g4 c1.2) (by decide)
    · exact h
  have pp : p' = p := by
    rcases Nat.lt_trichotomy p p' with h | h | h
    · rcases q4 with q4 | q4
      · omega
      · rw [← same (p' - 1) (by omega)] at q4
        exact absurd q4 (g3 (p' - 1) (by omega) (by omega))
    · exact h.symm
    · rcases g4 with g4 | g4
      · omega
      · rw [same (p - 1) (by omega)] at g4
        exact absurd g4 (q3 (p - 1) (by omega) (by omega))
  subst pp
  have w1 : zWT G1 := by unfold zWT; rw [g6 3 (by decide), g6 5 (by decide), g6 7 (by decide)]; exact w
  have s : ∀ (X : Nat → Nat → Int32) (col : Int32) (j : Nat) (x : Int32), zWT X → col = nI j → j < 5 → tset X 3 4 55 (nI p') col x = zup X 4 (5 * p' + j) x := fun X col j x hX hc hj => hd_set hX rfl hc (by omega) hj
  have wz : ∀ (X : Nat → Nat → Int32) (k : Nat) (x : Int32), zWT X → zWT (zup X 4 k x) := fun X k x hX => hX.zup (by decide) (by decide) (by decide)
  have ck := (ck.trans g1).trans B_Cl_setUp_146
  rw [s _ 4 4 _ w1 (by decide) (by decide), s _ 0 0 _ (wz _ _ _ (w1)) (by decide) (by decide), s _ 1 1 _ (wz _ _ _ (wz _ _ _ (w1))) (by decide) (by decide), s _ 2 2 _ (wz _ _ _ (wz _ _ _ (wz _ _ _ (w1)))) (by decide) (by decide), s _ 3 3 _ (wz _ _ _ (wz _ _ _ (wz _ _ _ (wz _ _ _ (w1))))) (by decide) (by decide)] at ck
  have i31 : G1 2 3 = nI (n + 1) := by rw [g6 2 (by decide)]; exact i3'
  have hv11 : H1 91 1 = nI n := by rw [q5, if_neg (by omega)]; exact hv1
  simp (disch := omega) only [zup_ro, zup_rr, i31, nI_1, nI_pred] at ck
  have z0 := hdz (p := p') (k := 0) (N := 13 + 5 * p') (x := 0) (by decide) (by omega) (by omega)
  have z1 := hdz (p := p') (k := 1) (N := 14 + 5 * p') (x := 1) (by decide) (by omega) (by omega)
  have z2 := hdz (p := p') (k := 2) (N := 15 + 5 * p') (x := 2) (by decide) (by omega) (by omega)
  have z3 := hdz (p := p') (k := 3) (N := 16 + 5 * p') (x := 3) (by decide) (by omega) (by omega)
  have z4 := hdz (p := p') (k := 4) (N := 17 + 5 * p') (x := 4) (by decide) (by omega) (by omega)
  have mk := (mk.trans q1).trans (B_M_setsUp_166 z0.2 z1.2 z2.2 z3.2 z4.2)
  rw [z0.1, z1.1, z2.1, z3.1, z4.1] at mk
  simp (disch := omega) only [zup_rk, zup_rr, hv11, nI_1] at mk
  refine ⟨nI (n + 1), _, _, ck, mk, ⟨fun i a b c d e => by simp only [zup_ro b, zup_ro c]; exact g6 i c, fun i a b => by simp only [zup_ro b]; exact q6 i b, fun j a b c => by simp (disch := omega) only [zup_ro]; rw [q6 90 (by decide)]⟩, .inl ⟨nI_pos' (by omega), ?_, by simp (disch := omega) only [zup_ro]; exact g6 1 (by decide), by simp (disch := omega) only [zup_ro]; exact q6 90 (by decide)⟩⟩
  have eI : zup (zup (zup (zup (zup (zup G1 4 (5 * p' + 4) x1) 4 (5 * p' + 0) x2) 4 (5 * p' + 1) x3) 4 (5 * p' + 2) x4) 4 (5 * p' + 3) x5) 2 3 (nI (n + 1 + 1)) 2 = zup G1 2 3 (nI (n + 1 + 1)) 2 := by
    funext j
    by_cases hj : j = 3
    · subst hj; rw [zup_rr, zup_rr]
    · rw [zup_rk hj, zup_rk hj]; simp (disch := omega) only [zup_ro]
  have e6 : zup (zup (zup (zup (zup (zup G1 4 (5 * p' + 4) x1) 4 (5 * p' + 0) x2) 4 (5 * p' + 1) x3) 4 (5 * p' + 2) x4) 4 (5 * p' + 3) x5) 2 3 (nI (n + 1 + 1)) (2 + 4) = G (2 + 4) := by simp (disch := omega) only [zup_ro]; exact g6 _ (by decide)
  have e8 : zup (zup (zup (zup (zup (zup G1 4 (5 * p' + 4) x1) 4 (5 * p' + 0) x2) 4 (5 * p' + 1) x3) 4 (5 * p' + 2) x4) 4 (5 * p' + 3) x5) 2 3 (nI (n + 1 + 1)) (2 + 6) = G (2 + 6) := by simp (disch := omega) only [zup_ro]; exact g6 _ (by decide)
  have e4 : zup (zup (zup (zup (zup (zup G1 4 (5 * p' + 4) x1) 4 (5 * p' + 0) x2) 4 (5 * p' + 1) x3) 4 (5 * p' + 2) x4) 4 (5 * p' + 3) x5) 2 3 (nI (n + 1 + 1)) (2 + 2) = (zup (zup (zup (zup (zup G1 4 (5 * p' + 4) x1) 4 (5 * p' + 0) x2) 4 (5 * p' + 1) x3) 4 (5 * p' + 2) x4) 4 (5 * p' + 3) x5) 4 := by rw [zup_ro (by decide)]
  unfold HRat
  rw [eI, e6, e8, e4]
  generalize hA : (zup (zup (zup (zup (zup G1 4 (5 * p' + 4) x1) 4 (5 * p' + 0) x2) 4 (5 * p' + 1) x3) 4 (5 * p' + 2) x4) 4 (5 * p' + 3) x5) 4 = A
  have aN : A (5 * p' + 4) = x1 ∧ A (5 * p') = x2 ∧ A (5 * p' + 1) = x3 ∧ A (5 * p' + 2) = x4 ∧ A (5 * p' + 3) = x5 := by
    subst hA
    exact ⟨by simp (disch := omega) only [zup_rk, zup_rr], by simp (disch := omega) only [zup_rk, zup_rr]; exact zup_rr, by simp (disch := omega) only [zup_rk, zup_rr], by simp (disch := omega) only [zup_rk, zup_rr], by simp (disch := omega) only [zup_rk, zup_rr]⟩
  have aO : ∀ j, (j < 5 * p' → A j = G 4 j) ∧ (5 * p' + 5 ≤ j → j < 5 * n + 10 → A j = G 4 (j - 5)) := by
    intro j
    subst hA
    refine ⟨fun h => ?_, fun h h2 => ?_⟩
    · simp (disch := omega) only [zup_rk]; rw [g5, if_neg (by omega)]
    · simp (disch := omega) only [zup_rk]; rw [g5, if_pos (by omega)]
  have cmp : ∀ k, k < n + 1 → G 4 (5 * k + 4) ≠ x1 := fun k hk => f2 k (by omega) (by omega)
  have hpre : 0 < p' → G 4 (5 * (p' - 1) + 4) < x1 := fun h => by
    rcases g4 with g4 | g4
    · omega
    · rcases Int32.lt_or_eq_of_le g4 with q | q
      · exact q
      · exact absurd q (cmp (p' - 1) (by omega))
  have hpost : x1 < G 4 (5 * p' + 4) := by
    have := g3 p' (Nat.le_refl _) (by omega)
    exact Int32.not_le.mp this
  have hlast : ∀ k, k < n → G 4 (5 * k + 4) < G 4 (5 * (k + 1) + 4) := fun k hk => by
    by_cases e : k + 1 < n
    · exact hs k e
    · have : k + 1 = n := by omega
      rw [this]
      have e9 : G 4 (5 * n + 4) = 99 := ho.2.2.2.2.2.2.2
      obtain ⟨_, _, _, _, _, ⟨m, m1, m2, m3⟩, _⟩ := ho.2.2.1 k hk
      have m3' : G 4 (5 * k + 4) = nI m := m3
      rw [e9, m3', show (99 : Int32) = nI 99 by decide]
      exact nI_lt (by omega) (by decide)
  refine HR.heads (m := n + 1) hr (by omega) (fun j hj => ?_) zup_rr (fun j h1 h2 => ?_) ⟨by omega, zup_rr, fun h hh => ?_, ?_⟩ (fun h hh => ?_)
  · rw [zup_rk hj, g6 2 (by decide)]
  · simp (disch := omega) only [zup_rk]; rw [q5, if_neg (by omega)]
  · rcases Nat.lt_trichotomy h p' with hp | hp | hp
    · obtain ⟨a1, a2, a3, a4, a5, b⟩ := ho.2.2.1 h (by omega)
      have c : ∀ j, j < 5 → A (5 * h + j) = G (2 + 2) (5 * h + j) := fun j hj => (aO _).1 (by omega)
      have c0 : A (5 * h) = G (2 + 2) (5 * h) := c 0 (by decide)
      unfold HRh
      rw [c 4 (by decide), c0, c 1 (by decide), c 2 (by decide), c 3 (by decide)]
      simp (disch := omega) only [zup_rk]
      rw [q5, q5, q5, q5, q5, if_neg (by omega), if_neg (by omega), if_neg (by omega), if_neg (by omega), if_neg (by omega)]
      exact ⟨a1, a2, a3, a4, a5, b⟩
    · subst hp
      obtain ⟨n1, n2, n3, n4, n5⟩ := aN
      unfold HRh
      rw [n1, n2, n3, n4, n5]
      simp (disch := omega) only [zup_rk, zup_rr]
      exact ⟨trivial, trivial, trivial, trivial, trivial, nI_btw (A := 1) (B := 98) (by decide) (by decide) (by decide) (by decide) c1, nI_btw (A := 0) (B := 4) (by decide) (by decide) (by decide) (by decide) c2, nI_btw (A := 0) (B := 3) (by decide) (by decide) (by decide) (by decide) c3, nI_btw (A := 0) (B := 60) (by decide) (by decide) (by decide) (by decide) c4, nI_btw (A := 0) (B := 20) (by decide) (by decide) (by decide) (by decide) c5⟩
    · obtain ⟨k, rfl⟩ : ∃ k, h = k + 1 := ⟨h - 1, by omega⟩
      obtain ⟨a1, a2, a3, a4, a5, b⟩ := ho.2.2.1 k (by omega)
      have c : ∀ j, j < 5 → A (5 * (k + 1) + j) = G (2 + 2) (5 * k + j) := fun j hj => by
        rw [(aO _).2 (by omega) (by omega)]; exact congrArg (G 4) (by omega)
      have c0 : A (5 * (k + 1)) = G (2 + 2) (5 * k) := c 0 (by decide)
      unfold HRh
      rw [c 4 (by decide), c0, c 1 (by decide), c 2 (by decide), c 3 (by decide)]
      simp (disch := omega) only [zup_rk]
      rw [q5, q5, q5, q5, q5, if_pos (by omega), if_pos (by omega), if_pos (by omega), if_pos (by omega), if_pos (by omega),
        show 13 + 5 * (k + 1) - 5 = 13 + 5 * k by omega, show 14 + 5 * (k + 1) - 5 = 14 + 5 * k by omega, show 15 + 5 * (k + 1) - 5 = 15 + 5 * k by omega, show 16 + 5 * (k + 1) - 5 = 16 + 5 * k by omega, show 17 + 5 * (k + 1) - 5 = 17 + 5 * k by omega]
      exact ⟨a1, a2, a3, a4, a5, b⟩
  · have c : ∀ j, j < 5 → A (5 * (n + 1) + j) = G (2 + 2) (5 * n + j) := fun j hj => by
      rw [(aO _).2 (by omega) (by omega)]; exact congrArg (G 4) (by omega)
    have c0 : A (5 * (n + 1)) = G (2 + 2) (5 * n) := c 0 (by decide)
    rw [c 4 (by decide), c0, c 1 (by decide), c 2 (by decide), c 3 (by decide)]
    exact ho.2.2.2
  · rcases Nat.lt_trichotomy (h + 1) p' with hp | hp | hp
    · rw [(aO _).1 (by omega), (aO _).1 (by omega)]
      exact hlast h (by omega)
    · rw [hp, aN.1, (aO _).1 (by omega)]
      have := hpre (by omega)
      rw [show p' - 1 = h by omega] at this
      exact this
    · by_cases e : h = p'
      · subst e
        rw [aN.1, (aO _).2 (by omega) (by omega), show 5 * (h + 1) + 4 - 5 = 5 * h + 4 by omega]
        exact hpost
      · rw [(aO _).2 (by omega) (by omega), (aO _).2 (by omega) (by omega), show 5 * (h + 1) + 4 - 5 = 5 * h + 4 by omega]
        have := hlast (h - 1) (by omega)
        rw [show 5 * (h - 1 + 1) + 4 = 5 * h + 4 by omega] at this
        rw [show 5 * h + 4 - 5 = 5 * (h - 1) + 4 by omega]
        exact this
