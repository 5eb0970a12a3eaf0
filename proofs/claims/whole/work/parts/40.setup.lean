-- 40: a heading more
theorem nIlit_10 : (10 : Int32) = nI 10 := by decide
theorem sc_ins {x1 x2 x3 x4 x5 : Int32} : ∀ (i : Nat) (G : Nat → Nat → Int32), i ≤ 10 → zWT G →
    ∃ (p : Nat) (G' : Nat → Nat → Int32), zden 1 100 [.ref 1, .int x1, .int x2, .int x3, .int x4, .int x5, .int (nI i)] [] (zSH, G) = zden 1 146 [.ref 1, .int x1, .int x2, .int x3, .int x4, .int x5, .int (nI p)] [] (zSH, G') ∧ p ≤ i ∧
      (∀ k, p ≤ k → k < i → ¬ G 4 (5 * k + 4) ≤ x1) ∧ (p = 0 ∨ G 4 (5 * (p - 1) + 4) ≤ x1) ∧ (∀ j, G' 4 j = if 5 * p + 5 ≤ j ∧ j < 5 * i + 5 then G 4 (j - 5) else G 4 j) ∧ ∀ r, r ≠ 4 → G' r = G r := by
  intro i
  induction i with
  | zero =>
    intro G _ w
    exact ⟨0, G, by rw [B_Cl_setUp_100, if_pos (by decide)], Nat.le_refl _, fun k h1 h2 => by omega, .inl rfl, fun j => by rw [if_neg (by omega)], fun _ _ => rfl⟩
  | succ i ih =>
    intro G hi w
    have hc : zden 1 100 [.ref 1, .int x1, .int x2, .int x3, .int x4, .int x5, .int (nI (i + 1))] [] (zSH, G) = _ := B_Cl_setUp_100
    rw [if_neg (nI_nle (by omega) (by omega)), nI_pred, hd_get w rfl nIlit_4 (by omega) (by decide)] at hc
    by_cases h : G 4 (5 * i + 4) ≤ x1
    · rw [if_pos h] at hc
      exact ⟨i + 1, G, hc, Nat.le_refl _, fun k h1 h2 => by omega, .inr h, fun j => by rw [if_neg (by omega)], fun _ _ => rfl⟩
    · rw [if_neg h] at hc
      obtain ⟨G1, g1, g2, g3⟩ := sc_copyRow (a := i) (b := i + 1) (by omega) (by omega) (by omega) w
      have w1 : zWT G1 := by unfold zWT; rw [g3 3 (by decide), g3 5 (by decide), g3 7 (by decide)]; exact w
      obtain ⟨p, G', q1, q2, q3, q4, q5, q6⟩ := ih G1 (by omega) w1
      rw [g1, zaft_same] at hc
      have hc := hc.trans (B_Cl_setUp_140.trans (by rw [pk_m1]))
      refine ⟨p, G', hc.trans q1, by omega, fun k h1 h2 => ?_, ?_, fun j => ?_, fun r hr => by rw [q6 r hr, g3 r hr]⟩
      · by_cases e : k = i
        · subst e; exact h
        · have := q3 k h1 (by omega)
          rw [g2, if_neg (by omega)] at this
          exact this
      · rcases q4 with q4 | q4
        · exact .inl q4
        · rw [g2] at q4
          by_cases e : 5 * (i + 1) ≤ 5 * (p - 1) + 4 ∧ 5 * (p - 1) + 4 < 5 * (i + 1) + 5
          · omega
          · rw [if_neg e] at q4
            exact .inr q4
      · rw [q5 j]
        by_cases h1 : 5 * p + 5 ≤ j ∧ j < 5 * i + 5
        · rw [if_pos h1, if_pos (by omega), g2, if_neg (by omega)]
        · rw [if_neg h1, g2]
          by_cases h2 : 5 * (i + 1) ≤ j ∧ j < 5 * (i + 1) + 5
          · rw [if_pos h2, if_pos (by omega)]
            exact congrArg _ (by omega)
          · rw [if_neg h2, if_neg (by omega)]
theorem sm_ins5 {x1 x2 x3 x4 x5 : Int32} {i : Nat} (hi : i ≤ 9) : ∀ (d j : Nat) (H : Nat → Nat → Int32), j + d = 5 →
    ∃ H' : Nat → Nat → Int32, zden 109 116 [.ref 90, .int x1, .int x2, .int x3, .int x4, .int x5, .int (nI (i + 1)), .int (nI j)] [] (zSH, H) = zden 109 95 [.ref 90, .int x1, .int x2, .int x3, .int x4, .int x5, .int (nI i), .int (nI 5)] [] (zSH, H') ∧
      (∀ k, H' 91 k = if 18 + 5 * i + j ≤ k ∧ k < 23 + 5 * i then H 91 (k - 5) else H 91 k) ∧ ∀ r, r ≠ 91 → H' r = H r := by
  intro d
  induction d with
  | zero =>
    intro j H h
    have h : j = 5 := by omega
    subst h
    have hb : (5 : Int32) ≤ nI 5 := by decide
    refine ⟨H, ?_, fun k => by rw [if_neg (by omega)], fun _ _ => rfl⟩
    rw [B_M_setsUp_116 (fun q => absurd hb q) (fun q => absurd hb q), if_pos hb, pk_m1]
  | succ d ih =>
    intro j H h
    have hb : ¬ (5 : Int32) ≤ nI j := by rw [nIlit_5]; exact nI_ge (by omega) (by decide)
    have e1 : 13 + 5 * nI (i + 1) + nI j = nI (18 + 5 * i + j) := by rw [nIlit_13, nIlit_5, pk_mul, nI_add, nI_add]; exact congrArg _ (by omega)
    have e2 : 13 + 5 * nI (i + 1) - 5 + nI j = nI (13 + 5 * i + j) := by rw [nIlit_13, nIlit_5, pk_mul, nI_add, pk_sub (by omega), nI_add]; exact congrArg _ (by omega)
    obtain ⟨H', q1, q2, q3⟩ := ih (j + 1) (zup H 91 (18 + 5 * i + j) (H 91 (13 + 5 * i + j))) (by omega)
    refine ⟨H', ?_, fun k => ?_, fun r hr => by rw [q3 r hr, zup_ro hr]⟩
    · rw [B_M_setsUp_116 (fun _ => by rw [e2]; exact zin_nI (by omega) (by decide)) (fun _ => by rw [e1]; exact zin_nI (by omega) (by decide)), if_neg hb, e1, e2, nI_clamp (by omega), nI_clamp (by omega), nI_1]
      exact q1
    · rw [q2 k]
      by_cases h1 : 18 + 5 * i + (j + 1) ≤ k ∧ k < 23 + 5 * i
      · rw [if_pos h1, if_pos (by omega), zup_rk (by omega)]
      · rw [if_neg h1]
        by_cases h2 : k = 18 + 5 * i + j
        · subst h2
          rw [if_pos (by omega), zup_rr]
          exact congrArg _ (by omega)
        · rw [if_neg (by omega), zup_rk h2]
theorem sm_ins {x1 x2 x3 x4 x5 : Int32} {n : Nat} (hn : n < 10) : ∀ (i : Nat) (H : Nat → Nat → Int32) (v7 : Value), i ≤ n → H 91 1 = nI n →
    ∃ (p : Nat) (H' : Nat → Nat → Int32) (v7' : Value), zden 109 95 [.ref 90, .int x1, .int x2, .int x3, .int x4, .int x5, .int (nI i), v7] [] (zSH, H) = zden 109 166 [.ref 90, .int x1, .int x2, .int x3, .int x4, .int x5, .int (nI p), v7'] [] (zSH, H') ∧ p ≤ i ∧
      (∀ k, p ≤ k → k < i → ¬ H 91 (13 + 5 * k) ≤ x1) ∧ (p = 0 ∨ H 91 (13 + 5 * (p - 1)) ≤ x1) ∧ (∀ j, H' 91 j = if 18 + 5 * p ≤ j ∧ j < 18 + 5 * i then H 91 (j - 5) else H 91 j) ∧ ∀ r, r ≠ 91 → H' r = H r := by
  intro i
  induction i with
  | zero =>
    intro H v7 _ hv
    have hz : nI 0 ≤ 0 := by decide
    exact ⟨0, H, v7, by rw [B_M_setsUp_95 (fun q => absurd hz q), if_pos hz], Nat.le_refl _, fun k h1 h2 => by omega, .inl rfl, fun j => by rw [if_neg (by omega)], fun _ _ => rfl⟩
  | succ i ih =>
    intro H v7 hi hv
    obtain ⟨m0, mk⟩ := mhead_lt (H := H) (w := 0) (k := 0) (n := n) (i := i) (by omega) hv (by omega) (by decide) (by decide)
    have hc : zden 109 95 [.ref 90, .int x1, .int x2, .int x3, .int x4, .int x5, .int (nI (i + 1)), v7] [] (zSH, H) = _ := B_M_setsUp_95 (fun _ => by rw [nI_pred]; exact mk)
    rw [if_neg (nI_nle (by omega) (by omega)), nI_pred, show mhead H (nI i) 0 = H 91 (13 + 5 * i) from m0] at hc
    by_cases h : H 91 (13 + 5 * i) ≤ x1
    · rw [if_pos h] at hc
      exact ⟨i + 1, H, v7, hc, Nat.le_refl _, fun k h1 h2 => by omega, .inr h, fun j => by rw [if_neg (by omega)], fun _ _ => rfl⟩
    · rw [if_neg h] at hc
      obtain ⟨H1, g1, g2, g3⟩ := sm_ins5 (x1 := x1) (x2 := x2) (x3 := x3) (x4 := x4) (x5 := x5) (i := i) (by omega) 5 0 H rfl
      obtain ⟨p, H', v7', q1, q2, q3, q4, q5, q6⟩ := ih H1 (.int (nI 5)) (by omega) (by rw [g2, if_neg (by omega)]; exact hv)
      refine ⟨p, H', v7', hc.trans (Eq.trans g1 q1), by omega, fun k h1 h2 => ?_, ?_, fun j => ?_, fun r hr => by rw [q6 r hr, g3 r hr]⟩
      · by_cases e : k = i
        · subst e; exact h
        · have := q3 k h1 (by omega)
          rw [g2, if_neg (by omega)] at this
          exact this
      · rcases q4 with q4 | q4
        · exact .inl q4
        · rw [g2, if_neg (by omega)] at q4
          exact .inr q4
      · rw [q5 j]
        by_cases h1 : 18 + 5 * p ≤ j ∧ j < 18 + 5 * i
        · rw [if_pos h1, if_pos (by omega), g2, if_neg (by omega)]
        · rw [if_neg h1, g2]
          by_cases h2 : 18 + 5 * i + 0 ≤ j ∧ j < 23 + 5 * i
          · rw [if_pos h2, if_pos (by omega)]
          · rw [if_neg h2, if_neg (by omega)]
