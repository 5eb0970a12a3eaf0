-- 38: the row of a code
theorem findR_succ {A : Nat → Int32} {x : Int32} {d i : Nat} : findR A x (d + 1) i = if A (5 * i + 4) = x then nI i else findR A x d (i + 1) := rfl
theorem sc_row_loop {G : Nat → Nat → Int32} {n : Nat} {x : Int32} (w : zWT G) (hn : n ≤ 10) (h3 : G 2 3 = nI (n + 1)) : ∀ (d i : Nat), i + d = n + 1 →
    zden 22 2 [.ref 2, .int x, .int (nI i)] [] (zSH, G) = some (some (.int (findR (G 4) x d i)), (zSH, G)) := by
  intro d
  induction d with
  | zero =>
    intro i h
    have h : i = n + 1 := by omega
    subst h
    rw [B_Ho_rowOfCode_2, if_pos (by rw [h3]; exact Int32.le_refl _)]
    rfl
  | succ d ih =>
    intro i h
    rw [B_Ho_rowOfCode_2, if_neg (by rw [h3]; exact nI_ge (by omega) (by omega)), hd_get w rfl nIlit_4 (by omega) (by decide), nI_1, ih (i + 1) (by omega)]
    rw [findR_succ]
    by_cases q : G 4 (5 * i + 4) = x
    · rw [if_neg (fun z => z q), if_pos q]
    · rw [if_pos q, if_neg q]
theorem sc_rowOfCode {G : Nat → Nat → Int32} {n : Nat} {x : Int32} (w : zWT G) (hn : n ≤ 10) (h3 : G 2 3 = nI (n + 1)) : zden 22 0 [.ref 2, .int x, .retAddr 0] [] (zSH, G) = some (some (.int (findR (G 4) x (n + 1) 0)), (zSH, G)) := by
  rw [B_Ho_rowOfCode_0]
  exact sc_row_loop w hn h3 (n + 1) 0 (by omega)
theorem sm_place_loop {H : Nat → Nat → Int32} {A : Nat → Int32} {n : Nat} {x : Int32} (h : hOK n A (H 91)) : ∀ (d i : Nat), i + d = n + 1 →
    zden 112 2 [.ref 90, .int x, .int (nI i)] [] (zSH, H) = some (some (.int (findR A x d i)), (zSH, H)) := by
  have hh := h
  obtain ⟨h1, h2, _⟩ := hh
  intro d
  induction d with
  | zero =>
    intro i hi
    have hi : i = n + 1 := by omega
    subst hi
    have q : H 91 1 < nI (n + 1) := by rw [h2]; exact nI_lt (by omega) (by omega)
    rw [B_M_placeOf_2 (fun z => absurd q z), if_pos q]
    rfl
  | succ d ih =>
    intro i hi
    have q : ¬ H 91 1 < nI i := by rw [h2]; exact nI_nlt (by omega) (by omega)
    obtain ⟨⟨m0, _⟩, k0, _⟩ := h.head (i := i) (by omega)
    rw [B_M_placeOf_2 (fun _ => k0), if_neg q, m0, nI_1, ih (i + 1) (by omega)]
    rw [findR_succ]
    by_cases q : A (5 * i + 4) = x
    · rw [if_neg (fun z => z q), if_pos q]
    · rw [if_pos q, if_neg q]
theorem sm_placeOf {H : Nat → Nat → Int32} {A : Nat → Int32} {n : Nat} {x : Int32} (h : hOK n A (H 91)) : zden 112 0 [.ref 90, .int x, .retAddr 0] [] (zSH, H) = some (some (.int (findR A x (n + 1) 0)), (zSH, H)) := by
  rw [B_M_placeOf_0]
  exact sm_place_loop h (n + 1) 0 (by omega)
theorem HR.rows {D : Nat} {I A B C v : Nat → Int32} (h : HR D I A B C v) : ∃ n, hOK n A v ∧ I 3 = nI (n + 1) ∧ ∀ h, h + 1 < n → A (5 * h + 4) < A (5 * (h + 1) + 4) := by
  obtain ⟨n, gn, h1, h2, h3, h4, h5, h6, h7, h8, h9, h10, h11, h12, h13, h13b, h14, h15, h16, h17, h18, h19⟩ := h
  exact ⟨n, ⟨h1, h4, h15, h17⟩, h3, h16⟩
/-- a house with other headings -/
theorem HR.heads {D D' : Nat} {I A B C v I' A' v' : Nat → Int32} (h : HR D I A B C v) (hdd : D ≤ D') {m : Nat} (hI : ∀ j, j ≠ 3 → I' j = I j) (i3 : I' 3 = nI (m + 1)) (hv : ∀ j, j ≠ 1 → (j < 13 ∨ 63 ≤ j) → v' j = v j)
    (ho : hOK m A' v') (hs : ∀ h, h + 1 < m → A' (5 * h + 4) < A' (5 * (h + 1) + 4)) : HR D' I' A' B C v' := by
  obtain ⟨n, gn, h1, h2, h3, h4, h5, h6, h7, h8, h9, h10, h11, h12, h13, h13b, h14, h15, h16, h17, h18, h19⟩ := h
  obtain ⟨o1, o2, o3, o4⟩ := ho
  refine ⟨m, gn, o1, h2, i3, o2, ?_, ?_, ?_, ?_, ?_, ?_, ?_, ?_, ?_, ?_, ?_, o3, hs, o4, ?_, h19⟩
  · rw [hI _ (by decide)]; exact h5
  · rw [hv _ (by decide) (by omega)]; exact h6
  · rw [hI _ (by decide), hv _ (by decide) (by omega)]; exact h7
  · rw [hI _ (by decide), hv _ (by decide) (by omega)]; exact h8
  · rw [hI _ (by decide), hv _ (by decide) (by omega)]; exact h9
  · rw [hI _ (by decide), hv _ (by decide) (by omega)]; exact h10
  · rw [hI _ (by decide), hv _ (by decide) (by omega)]; exact h11
  · rw [hI _ (by decide), hv _ (by decide) (by omega)]; exact h12
  · rw [hI _ (by decide)]; exact h13.mono (by omega)
  · rw [hI _ (by decide)]; exact h13b.mono (by omega)
  · intro c hc; rw [hv _ (by omega) (by omega)]; exact h14 c hc
  · intro g hg
    exact (h18 g hg).congr (fun _ _ _ => rfl) (fun j q1 q2 => hv j (by omega) (by omega))
/-- the codes go up, the last is 99 -/
theorem hOK.le98 {n : Nat} {A v : Nat → Int32} (h : hOK n A v) {i : Nat} (hi : i < n) : A (5 * i + 4) ≠ 99 := by
  obtain ⟨_, _, _, _, _, ⟨k, k1, k2, k3⟩, _⟩ := h.2.2.1 i hi
  rw [k3, show (99 : Int32) = nI 99 by decide]
  intro q
  have := (nI_eq (by omega) (by omega)).mp q
  omega
/-- strike: the class moves the rows up -/
theorem sc_strike_loop {x y : Int32} {n : Nat} (hn : n ≤ 10) : ∀ (d i : Nat) (G : Nat → Nat → Int32), i + d = n → zWT G → G 2 3 = nI n →
    ∃ G' : Nat → Nat → Int32, zden 3 37 [.ref 1, .int x, .int y, .int (nI i)] [] (zSH, G) = some (some (.int (nI n - 1)), (zSH, G')) ∧ (∀ j, G' 4 j = if 5 * i ≤ j ∧ j < 5 * n then G 4 (j + 5) else G 4 j) ∧ ∀ r, r ≠ 4 → G' r = G r := by
  intro d
  induction d with
  | zero =>
    intro i G h w h3
    have h : i = n := by omega
    subst h
    refine ⟨G, ?_, fun j => by rw [if_neg (by omega)], fun _ _ => rfl⟩
    rw [B_Cl_strikeOut_37, if_pos (by rw [h3]; exact Int32.le_refl _), h3]
  | succ d ih =>
    intro i G h w h3
    obtain ⟨G1, g1, g2, g3⟩ := sc_copyRow (a := i + 1) (b := i) (by omega) (by omega) (by omega) w
    have w1 : zWT G1 := by unfold zWT; rw [g3 3 (by decide), g3 5 (by decide), g3 7 (by decide)]; exact w
    obtain ⟨G', q1, q2, q3⟩ := ih (i + 1) G1 (by omega) w1 (by rw [g3 2 (by decide)]; exact h3)
    refine ⟨G', ?_, fun j => ?_, fun r hr => by rw [q3 r hr, g3 r hr]⟩
    · rw [B_Cl_strikeOut_37, if_neg (by rw [h3]; exact nI_ge (by omega) (by omega)), nI_1, g1, zaft_same]
      exact (B_Cl_strikeOut_62.trans (by rw [nI_1])).trans q1
    · rw [q2 j]
      by_cases h1 : 5 * (i + 1) ≤ j ∧ j < 5 * n
      · rw [if_pos h1, if_pos (by omega), g2, if_neg (by omega)]
      · rw [if_neg h1, g2]
        by_cases h2 : 5 * i ≤ j ∧ j < 5 * i + 5
        · rw [if_pos h2, if_pos (by omega)]
          exact congrArg _ (by omega)
        · rw [if_neg h2, if_neg (by omega)]
theorem sm_strike_loop {x y : Int32} {n : Nat} (hn0 : 0 < n) (hn : n ≤ 10) : ∀ (d i : Nat) (H : Nat → Nat → Int32), i + d = 58 → 13 ≤ i → H 91 1 = nI n →
    ∃ H' : Nat → Nat → Int32, zden 117 34 [.ref 90, .int x, .int y, .int (nI i)] [] (zSH, H) = some (some (.int (nI (n - 1))), (zSH, H')) ∧ H' 91 1 = nI (n - 1) ∧ (∀ j, j ≠ 1 → H' 91 j = if i ≤ j ∧ j < 58 then H 91 (j + 5) else H 91 j) ∧ ∀ r, r ≠ 91 → H' r = H r := by
  intro d
  induction d with
  | zero =>
    intro i H h hi hv
    have h : i = 58 := by omega
    subst h
    have hb : (58 : Int32) ≤ nI 58 := by decide
    have e : nI n - 1 = nI (n - 1) := by rw [nIlit_1, pk_sub (by omega)]
    refine ⟨zup H 91 1 (nI (n - 1)), ?_, zup_rr, fun j hj => by rw [if_neg (by omega), zup_rk hj], fun r hr => zup_ro hr⟩
    rw [B_M_strikes_34 (fun q => absurd hb q) (fun q => absurd hb q), if_pos hb, zup_rr, hv, e]
  | succ d ih =>
    intro i H h hi hv
    have hb : ¬ (58 : Int32) ≤ nI i := by rw [show (58 : Int32) = nI 58 by decide]; exact nI_ge (by omega) (by decide)
    have e5 : nI i + 5 = nI (i + 5) := by rw [nIlit_5, nI_add]
    obtain ⟨H', q1, q2, q3, q4⟩ := ih (i + 1) (zup H 91 i (H 91 (i + 5))) (by omega) (by omega) (by rw [zup_rk (by omega)]; exact hv)
    refine ⟨H', ?_, q2, fun j hj => ?_, fun r hr => by rw [q4 r hr, zup_ro hr]⟩
    · rw [B_M_strikes_34 (fun _ => by rw [e5]; exact zin_nI (by omega) (by decide)) (fun _ => zin_nI (by omega) (by decide)), if_neg hb, e5, nI_clamp (by omega), nI_clamp (by omega), nI_1]
      exact q1
    · rw [q3 j hj]
      by_cases h1 : i + 1 ≤ j ∧ j < 58
      · rw [if_pos h1, if_pos (by omega), zup_rk (by omega)]
      · rw [if_neg h1]
        by_cases h2 : j = i
        · subst h2
          rw [if_pos (by omega), zup_rr]
        · rw [if_neg (by omega), zup_rk h2]
