-- 33: the rows of headings: copied, found, struck, put in (turned from whole by wip/p36/gen32.py)
theorem sc_copyRow_loop {a b : Nat} (ha : a < 11) (hb : b < 11) (hab : a ≠ b) : ∀ (d i : Nat) (G : Nat → Nat → Int32), i + d = 5 → zWT G →
    ∃ G' : Nat → Nat → Int32, zden 54 2 [.ref 3, .int (nI a), .int (nI b), .int (nI i)] [] (zSH, G) = some (none, (zSH, G')) ∧ (∀ j, G' 4 j = if 5 * b + i ≤ j ∧ j < 5 * b + 5 then G 4 (j - 5 * b + 5 * a) else G 4 j) ∧ ∀ r, r ≠ 4 → G' r = G r := by
  intro d
  induction d with
  | zero =>
    intro i G h w
    have h : i = 5 := by omega
    subst h
    refine ⟨G, ?_, fun j => by rw [if_neg (by omega)], fun _ _ => rfl⟩
    rw [B_Ta_copyRow_2 sh_3 sh_4 rfl (by decide), if_pos (by rw [w.2.1]; exact Int32.le_refl _)]
  | succ d ih =>
    intro i G h w
    obtain ⟨G', g1, g2, g3⟩ := ih (i + 1) (zup G 4 (5 * b + i) (G 4 (5 * a + i))) (by omega) (w.zup (by decide) (by decide) (by decide))
    refine ⟨G', ?_, fun j => ?_, fun r hr => by rw [g3 r hr, zup_ro hr]⟩
    · rw [B_Ta_copyRow_2 sh_3 sh_4 rfl (by decide), if_neg (by rw [w.2.1]; exact nI_ge (by omega) (by decide)), hd_get w rfl rfl ha (by omega), hd_set w rfl rfl hb (by omega), nI_1]
      exact g1
    · rw [g2 j]
      by_cases h1 : 5 * b + (i + 1) ≤ j ∧ j < 5 * b + 5
      · rw [if_pos h1, if_pos (by omega), zup_rk (by omega)]
      · rw [if_neg h1]
        by_cases h2 : j = 5 * b + i
        · subst h2
          rw [if_pos (by omega), zup_rr]
          exact congrArg _ (by omega)
        · rw [if_neg (by omega), zup_rk h2]
theorem sc_copyRow {a b : Nat} (ha : a < 11) (hb : b < 11) (hab : a ≠ b) {G : Nat → Nat → Int32} (w : zWT G) :
    ∃ G' : Nat → Nat → Int32, zden 54 0 [.ref 3, .int (nI a), .int (nI b), .retAddr 0] [] (zSH, G) = some (none, (zSH, G')) ∧ (∀ j, G' 4 j = if 5 * b ≤ j ∧ j < 5 * b + 5 then G 4 (j - 5 * b + 5 * a) else G 4 j) ∧ ∀ r, r ≠ 4 → G' r = G r := by
  obtain ⟨G', g1, g2, g3⟩ := sc_copyRow_loop ha hb hab 5 0 G rfl w
  exact ⟨G', by rw [B_Ta_copyRow_0 sh_3 sh_4 rfl (by decide)]; exact g1, g2, g3⟩
/-- the row of a code -/
def findR (A : Nat → Int32) (x : Int32) : Nat → Nat → Int32
  | 0, _ => -1
  | d + 1, i => if A (5 * i + 4) = x then nI i else findR A x d (i + 1)
theorem findR_or {A : Nat → Int32} {x : Int32} : ∀ (d i : Nat), (findR A x d i = -1 ∧ ∀ k, i ≤ k → k < i + d → A (5 * k + 4) ≠ x) ∨ (∃ k : Nat, i ≤ k ∧ k < i + d ∧ findR A x d i = nI k ∧ A (5 * k + 4) = x) := by
  intro d
  induction d with
  | zero => intro i; exact .inl ⟨rfl, fun k h1 h2 => by omega⟩
  | succ d ih =>
    intro i
    unfold findR
    by_cases h : A (5 * i + 4) = x
    · rw [if_pos h]; exact .inr ⟨i, by omega, by omega, rfl, h⟩
    · rw [if_neg h]
      rcases ih (i + 1) with ⟨h1, h2⟩ | ⟨k, k1, k2, k3, k4⟩
      · refine .inl ⟨h1, fun k q1 q2 => ?_⟩
        by_cases e : k = i
        · subst e; exact h
        · exact h2 k (by omega) (by omega)
      · exact .inr ⟨k, by omega, by omega, k3, k4⟩
theorem findR_succ {A : Nat → Int32} {x : Int32} {d i : Nat} : findR A x (d + 1) i = if A (5 * i + 4) = x then nI i else findR A x d (i + 1) := rfl
theorem sc_row_loop {G : Nat → Nat → Int32} {n : Nat} {x : Int32} (w : zWT G) (hn : n ≤ 10) (h3 : G 2 3 = nI (n + 1)) : ∀ (d i : Nat), i + d = n + 1 →
    zden 22 2 [.ref 2, .int x, .int (nI i)] [] (zSH, G) = some (some (.int (findR (G 4) x d i)), (zSH, G)) := by
  intro d
  induction d with
  | zero =>
    intro i h
    have h : i = n + 1 := by omega
    subst h
    rw [B_Ho_rowOfCode_2, if_pos (by rw [h3]; exact Int32.le_refl _)]
    rfl
  | succ d ih =>
    intro i h
    rw [B_Ho_rowOfCode_2, if_neg (by rw [h3]; exact nI_ge (by omega) (by omega)), hd_get w rfl nIlit_4 (by omega) (by decide), nI_1, ih (i + 1) (by omega)]
    rw [findR_succ]
    by_cases q : G 4 (5 * i + 4) = x
    · rw [if_neg (fun z => z q), if_pos q]
    · rw [if_pos q, if_neg q]
theorem sc_rowOfCode {G : Nat → Nat → Int32} {n : Nat} {x : Int32} (w : zWT G) (hn : n ≤ 10) (h3 : G 2 3 = nI (n + 1)) : zden 22 0 [.ref 2, .int x, .retAddr 0] [] (zSH, G) = some (some (.int (findR (G 4) x (n + 1) 0)), (zSH, G)) := by
  rw [B_Ho_rowOfCode_0]
  exact sc_row_loop w hn h3 (n + 1) 0 (by omega)
/-- strike: the class moves the rows up -/
theorem sc_strike_loop {x y : Int32} {n : Nat} (hn : n ≤ 10) : ∀ (d i : Nat) (G : Nat → Nat → Int32), i + d = n → zWT G → G 2 3 = nI n →
    ∃ G' : Nat → Nat → Int32, zden 3 37 [.ref 1, .int x, .int y, .int (nI i)] [] (zSH, G) = some (some (.int (nI n - 1)), (zSH, G')) ∧ (∀ j, G' 4 j = if 5 * i ≤ j ∧ j < 5 * n then G 4 (j + 5) else G 4 j) ∧ ∀ r, r ≠ 4 → G' r = G r := by
  intro d
  induction d with
  | zero =>
    intro i G h w h3
    have h : i = n := by omega
    subst h
    refine ⟨G, ?_, fun j => by rw [if_neg (by omega)], fun _ _ => rfl⟩
    rw [B_Cl_strikeOut_37, if_pos (by rw [h3]; exact Int32.le_refl _), h3]
  | succ d ih =>
    intro i G h w h3
    obtain ⟨G1, g1, g2, g3⟩ := sc_copyRow (a := i + 1) (b := i) (by omega) (by omega) (by omega) w
    have w1 : zWT G1 := by unfold zWT; rw [g3 3 (by decide), g3 5 (by decide), g3 7 (by decide)]; exact w
    obtain ⟨G', q1, q2, q3⟩ := ih (i + 1) G1 (by omega) w1 (by rw [g3 2 (by decide)]; exact h3)
    refine ⟨G', ?_, fun j => ?_, fun r hr => by rw [q3 r hr, g3 r hr]⟩
    · rw [B_Cl_strikeOut_37, if_neg (by rw [h3]; exact nI_ge (by omega) (by omega)), nI_1, g1, zaft_same]
      exact (B_Cl_strikeOut_62.trans (by rw [nI_1])).trans q1
    · rw [q2 j]
      by_cases h1 : 5 * (i + 1) ≤ j ∧ j < 5 * n
      · rw [if_pos h1, if_pos (by omega), g2, if_neg (by omega)]
      · rw [if_neg h1, g2]
        by_cases h2 : 5 * i ≤ j ∧ j < 5 * i + 5
        · rw [if_pos h2, if_pos (by omega)]
          exact congrArg _ (by omega)
        · rw [if_neg h2, if_neg (by omega)]
theorem sc_ins {x1 x2 x3 x4 x5 : Int32} : ∀ (i : Nat) (G : Nat → Nat → Int32), i ≤ 10 → zWT G →
    ∃ (p : Nat) (G' : Nat → Nat → Int32), zden 1 100 [.ref 1, .int x1, .int x2, .int x3, .int x4, .int x5, .int (nI i)] [] (zSH, G) = zden 1 146 [.ref 1, .int x1, .int x2, .int x3, .int x4, .int x5, .int (nI p)] [] (zSH, G') ∧ p ≤ i ∧
      (∀ k, p ≤ k → k < i → ¬ G 4 (5 * k + 4) ≤ x1) ∧ (p = 0 ∨ G 4 (5 * (p - 1) + 4) ≤ x1) ∧ (∀ j, G' 4 j = if 5 * p + 5 ≤ j ∧ j < 5 * i + 5 then G 4 (j - 5) else G 4 j) ∧ ∀ r, r ≠ 4 → G' r = G r := by
  intro i
  induction i with
  | zero =>
    intro G _ w
    exact ⟨0, G, by rw [B_Cl_setUp_100, if_pos (by decide)], Nat.le_refl _, fun k h1 h2 => by omega, .inl rfl, fun j => by rw [if_neg (by omega)], fun _ _ => rfl⟩
  | succ i ih =>
    intro G hi w
    have hc : zden 1 100 [.ref 1, .int x1, .int x2, .int x3, .int x4, .int x5, .int (nI (i + 1))] [] (zSH, G) = _ := B_Cl_setUp_100
    rw [if_neg (nI_nle (by omega) (by omega)), nI_pred, hd_get w rfl nIlit_4 (by omega) (by decide)] at hc
    by_cases h : G 4 (5 * i + 4) ≤ x1
    · rw [if_pos h] at hc
      exact ⟨i + 1, G, hc, Nat.le_refl _, fun k h1 h2 => by omega, .inr h, fun j => by rw [if_neg (by omega)], fun _ _ => rfl⟩
    · rw [if_neg h] at hc
      obtain ⟨G1, g1, g2, g3⟩ := sc_copyRow (a := i) (b := i + 1) (by omega) (by omega) (by omega) w
      have w1 : zWT G1 := by unfold zWT; rw [g3 3 (by decide), g3 5 (by decide), g3 7 (by decide)]; exact w
      obtain ⟨p, G', q1, q2, q3, q4, q5, q6⟩ := ih G1 (by omega) w1
      rw [g1, zaft_same] at hc
      have hc := hc.trans (B_Cl_setUp_140.trans (by rw [pk_m1]))
      refine ⟨p, G', hc.trans q1, by omega, fun k h1 h2 => ?_, ?_, fun j => ?_, fun r hr => by rw [q6 r hr, g3 r hr]⟩
      · by_cases e : k = i
        · subst e; exact h
        · have := q3 k h1 (by omega)
          rw [g2, if_neg (by omega)] at this
          exact this
      · rcases q4 with q4 | q4
        · exact .inl q4
        · rw [g2] at q4
          by_cases e : 5 * (i + 1) ≤ 5 * (p - 1) + 4 ∧ 5 * (p - 1) + 4 < 5 * (i + 1) + 5
          · omega
          · rw [if_neg e] at q4
            exact .inr q4
      · rw [q5 j]
        by_cases h1 : 5 * p + 5 ≤ j ∧ j < 5 * i + 5
        · rw [if_pos h1, if_pos (by omega), g2, if_neg (by omega)]
        · rw [if_neg h1, g2]
          by_cases h2 : 5 * (i + 1) ≤ j ∧ j < 5 * (i + 1) + 5
          · rw [if_pos h2, if_pos (by omega)]
            exact congrArg _ (by omega)
          · rw [if_neg h2, if_neg (by omega)]
theorem hOK.row {n i : Nat} {A : Nat → Int32} (h : hOK n A) (hi : i ≤ n) : ∃ c f o r k : Nat, A (5 * i + 4) = nI c ∧ A (5 * i) = nI f ∧ A (5 * i + 1) = nI o ∧ A (5 * i + 2) = nI r ∧ A (5 * i + 3) = nI k ∧ 1 ≤ c ∧ c ≤ 99 ∧ f ≤ 4 ∧ o ≤ 3 ∧ r ≤ 60 ∧ k ≤ 20 ∧ (c = 99 ↔ i = n) := by
  obtain ⟨h1, h3, ⟨h4, h5, h6, h7, h8⟩, _⟩ := h
  by_cases e : i = n
  · subst e
    exact ⟨99, 4, 3, 30, 0, h8.trans (by decide), h4.trans (by decide), h5.trans (by decide), h6.trans (by decide), h7.trans (by decide), by omega, by omega, by omega, by omega, by omega, by omega, by omega⟩
  · obtain ⟨⟨c, c1, c2, c3⟩, ⟨f, f1, f2, f3⟩, ⟨o, o1, o2, o3⟩, ⟨r, r1, r2, r3⟩, ⟨k, k1, k2, k3⟩⟩ := h3 i (by omega)
    exact ⟨c, f, o, r, k, c3, f3, o3, r3, k3, by omega, by omega, by omega, by omega, by omega, by omega, by omega⟩
theorem hOK.le98 {n : Nat} {A : Nat → Int32} (h : hOK n A) {i : Nat} (hi : i < n) : A (5 * i + 4) ≠ 99 := by
  obtain ⟨⟨k, k1, k2, k3⟩, _⟩ := h.2.1 i hi
  rw [k3, show (99 : Int32) = nI 99 by decide]
  intro q
  have := (nI_eq (by omega) (by omega)).mp q
  omega
theorem nn99 {x : Int32} {n k : Nat} {A : Nat → Int32} (h : hOK n A) (hk : k ≤ n) (he : A (5 * k + 4) = x) : x = 99 ↔ k = n := by
  constructor
  · intro q
    rcases Nat.lt_or_ge k n with h1 | h1
    · exact absurd (he.trans q) (h.le98 h1)
    · omega
  · rintro rfl
    exact he.symm.trans h.2.2.1.2.2.2.2
