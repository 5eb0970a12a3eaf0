-- 39: strike
theorem nn99 {x : Int32} {n k : Nat} {A v : Nat → Int32} (h : hOK n A v) (hk : k ≤ n) (he : A (5 * k + 4) = x) : x = 99 ↔ k = n := by
  constructor
  · intro q
    rcases Nat.lt_or_ge k n with h1 | h1
    · exact absurd (he.trans q) (h.le98 h1)
    · omega
  · rintro rfl
    exact he.symm.trans h.2.2.2.2.2.2.2
theorem ok_strike {x : Int32} : OpOK 3 [.ref 1, .int x, .retAddr 0, .retAddr 0] 117 [.ref 90, .int x, .retAddr 0, .retAddr 0] := by
  intro D G H hD w hr h0
  obtain ⟨n, ho, i3, hs⟩ := hr.rows
  have hn : n ≤ 10 := ho.1
  have ck : zden 3 0 [.ref 1, .int x, .retAddr 0, .retAddr 0] [] (zSH, G) = _ := B_Cl_strikeOut_0
  rw [sc_rowOfCode w hn i3, zaft_same] at ck
  have ck := ck.trans B_Cl_strikeOut_8
  have mk : zden 117 0 [.ref 90, .int x, .retAddr 0, .retAddr 0] [] (zSH, H) = _ := B_M_strikes_0
  rw [sm_placeOf ho, zaft_same] at mk
  have mk := mk.trans B_M_strikes_5
  have hv1 : H 91 1 = nI n := ho.2.1
  rw [hv1] at mk
  have i3' : G 2 3 = nI (n + 1) := i3
  rcases findR_or (A := G (2 + 2)) (x := x) (n + 1) 0 with ⟨f1, f2⟩ | ⟨k, _, k2, f1, f2⟩
  · rw [show findR (G 4) x (n + 1) 0 = -1 from f1, if_pos (by decide)] at ck
    rw [f1, if_pos (by decide)] at mk
    exact ⟨-11, G, zup H 90 0 (-11), ck, mk.trans B_M_strikes_20, opFr_no, opEnd_no hr (by decide)⟩
  · rw [show findR (G 4) x (n + 1) 0 = nI k from f1, if_neg (nI_pos (by omega))] at ck
    rw [f1, if_neg (nI_pos (by omega))] at mk
    have e99 := nn99 ho (k := k) (by omega) f2
    by_cases hx : x = 99
    · rw [if_neg (fun q => q hx)] at ck
      rw [if_neg (fun q => q (by rw [e99.mp hx]))] at mk
      exact ⟨-11, G, zup H 90 0 (-11), ck, mk.trans B_M_strikes_20, opFr_no, opEnd_no hr (by decide)⟩
    · have hkn : k < n := by
        have : k ≠ n := fun q => hx (e99.mpr q)
        omega
      have e3 : G 2 3 - 1 = nI n := by rw [i3', nI_pred]
      rw [if_pos hx, e3] at ck
      rw [if_pos (by rw [nI_eq (by omega) (by omega)]; omega), nIlit_13, nIlit_5, pk_mul, nI_add] at mk
      obtain ⟨G', g1, g2, g3⟩ := sc_strike_loop (x := x) (y := nI k) hn (n - k) k (zup G 2 3 (nI n)) (by omega) (w.zup (by decide) (by decide) (by decide)) zup_rr
      obtain ⟨H', q1, q2, q3, q4⟩ := sm_strike_loop (x := x) (y := nI k) (n := n) (by omega) hn (58 - (13 + 5 * k)) (13 + 5 * k) H (by omega) (by omega) hv1
      have en : nI n - 1 = nI (n - 1) := by rw [nIlit_1, pk_sub (by omega)]
      rw [en] at g1
      have g2' : ∀ j, G' 4 j = if 5 * k ≤ j ∧ j < 5 * n then G 4 (j + 5) else G 4 j := fun j => by rw [g2 j, zup_ro (by decide)]
      refine ⟨nI (n - 1), G', H', ck.trans g1, mk.trans q1, ⟨fun i a b c d e => by rw [g3 i c, zup_ro b], fun i a b => q4 i b, fun j a b c => by rw [q4 90 (by decide)]⟩, .inl ⟨nI_pos' (by omega), ?_, by rw [g3 1 (by decide), zup_ro (by decide)], q4 90 (by decide)⟩⟩
      unfold HRat
      rw [g3 (2 + 4) (by decide), g3 (2 + 6) (by decide), zup_ro (show 2 + 4 ≠ 2 by decide), zup_ro (show 2 + 6 ≠ 2 by decide)]
      refine HR.heads (m := n - 1) hr (by omega) (fun j hj => ?_) ?_ (fun j h1 h2 => ?_) ⟨by omega, q2, fun h hh => ?_, ?_⟩ (fun h hh => ?_)
      · rw [g3 2 (by decide), zup_rk hj]
      · rw [g3 2 (by decide), zup_rr, show n - 1 + 1 = n by omega]
      · rw [q3 j h1, if_neg (by omega)]
      · by_cases hk : k ≤ h
        · obtain ⟨a1, a2, a3, a4, a5, b1, b2, b3, b4, b5⟩ := ho.2.2.1 (h + 1) (by omega)
          have c : ∀ j, j < 5 → G' (2 + 2) (5 * h + j) = G (2 + 2) (5 * (h + 1) + j) := fun j hj => by
            show G' 4 _ = G 4 _
            rw [g2', if_pos (by omega)]; exact congrArg _ (by omega)
          have c0 : G' (2 + 2) (5 * h) = G (2 + 2) (5 * (h + 1)) := c 0 (by decide)
          have m : ∀ j, j < 5 → H' 91 (13 + j + 5 * h) = H 91 (13 + j + 5 * (h + 1)) := fun j hj => by
            rw [q3 _ (by omega), if_pos (by omega)]; exact congrArg _ (by omega)
          have m0 := m 0 (by decide)
          have m1 := m 1 (by decide)
          have m2 := m 2 (by decide)
          have m3 := m 3 (by decide)
          have m4 := m 4 (by decide)
          unfold HRh
          rw [c 4 (by decide), c0, c 1 (by decide), c 2 (by decide), c 3 (by decide)]
          exact ⟨a1.trans m0.symm, a2.trans m1.symm, a3.trans m2.symm, a4.trans m3.symm, a5.trans m4.symm, b1, b2, b3, b4, b5⟩
        · obtain ⟨a1, a2, a3, a4, a5, b1, b2, b3, b4, b5⟩ := ho.2.2.1 h (by omega)
          have c : ∀ j, j < 5 → G' (2 + 2) (5 * h + j) = G (2 + 2) (5 * h + j) := fun j hj => by
            show G' 4 _ = G 4 _
            rw [g2', if_neg (by omega)]
          have c0 : G' (2 + 2) (5 * h) = G (2 + 2) (5 * h) := c 0 (by decide)
          have m : ∀ j, j < 5 → H' 91 (13 + j + 5 * h) = H 91 (13 + j + 5 * h) := fun j hj => by
            rw [q3 _ (by omega), if_neg (by omega)]
          have m0 := m 0 (by decide)
          have m1 := m 1 (by decide)
          have m2 := m 2 (by decide)
          have m3 := m 3 (by decide)
          have m4 := m 4 (by decide)
          unfold HRh
          rw [c 4 (by decide), c0, c 1 (by decide), c 2 (by decide), c 3 (by decide)]
          exact ⟨a1.trans m0.symm, a2.trans m1.symm, a3.trans m2.symm, a4.trans m3.symm, a5.trans m4.symm, b1, b2, b3, b4, b5⟩
      · obtain ⟨r0, r1, r2, r3, r4⟩ := ho.2.2.2
        have c : ∀ j, j < 5 → G' (2 + 2) (5 * (n - 1) + j) = G (2 + 2) (5 * n + j) := fun j hj => by
          show G' 4 _ = G 4 _
          rw [g2', if_pos (by omega)]; exact congrArg _ (by omega)
        have c0 : G' (2 + 2) (5 * (n - 1)) = G (2 + 2) (5 * n) := c 0 (by decide)
        rw [c 4 (by decide), c0, c 1 (by decide), c 2 (by decide), c 3 (by decide)]
        exact ⟨r0, r1, r2, r3, r4⟩
      · show G' 4 _ < G' 4 _
        rw [g2', g2']
        by_cases hk : k ≤ h
        · rw [if_pos (by omega), if_pos (by omega)]
          have := hs (h + 1) (by omega)
          exact this
        · rw [if_neg (by omega)]
          by_cases hk2 : k ≤ h + 1
          · rw [if_pos (by omega)]
            have a := hs h (by omega)
            have b := hs (h + 1) (by omega)
            exact Int32.lt_trans a b
          · rw [if_neg (by omega)]
            exact hs h (by omega)
