-- 37: headings, one by one
theorem nIlit_5 : (5 : Int32) = nI 5 := by decide
theorem nIlit_13 : (13 : Int32) = nI 13 := by decide
theorem sc_copyRow_loop {a b : Nat} (ha : a < 11) (hb : b < 11) (hab : a ≠ b) : ∀ (d i : Nat) (G : Nat → Nat → Int32), i + d = 5 → zWT G →
    ∃ G' : Nat → Nat → Int32, zden 54 2 [.ref 3, .int (nI a), .int (nI b), .int (nI i)] [] (zSH, G) = some (none, (zSH, G')) ∧ (∀ j, G' 4 j = if 5 * b + i ≤ j ∧ j < 5 * b + 5 then G 4 (j - 5 * b + 5 * a) else G 4 j) ∧ ∀ r, r ≠ 4 → G' r = G r := by
  intro d
  induction d with
  | zero =>
    intro i G h w
    have h : i = 5 := by omega
    subst h
    refine ⟨G, ?_, fun j => by rw [if_neg (by omega)], fun _ _ => rfl⟩
    rw [B_Ta_copyRow_2 sh_3 sh_4 rfl (by decide), if_pos (by rw [w.2.1]; exact Int32.le_refl _)]
  | succ d ih =>
    intro i G h w
    obtain ⟨G', g1, g2, g3⟩ := ih (i + 1) (zup G 4 (5 * b + i) (G 4 (5 * a + i))) (by omega) (w.zup (by decide) (by decide) (by decide))
    refine ⟨G', ?_, fun j => ?_, fun r hr => by rw [g3 r hr, zup_ro hr]⟩
    · rw [B_Ta_copyRow_2 sh_3 sh_4 rfl (by decide), if_neg (by rw [w.2.1]; exact nI_ge (by omega) (by decide)), hd_get w rfl rfl ha (by omega), hd_set w rfl rfl hb (by omega), nI_1]
      exact g1
    · rw [g2 j]
      by_cases h1 : 5 * b + (i + 1) ≤ j ∧ j < 5 * b + 5
      · rw [if_pos h1, if_pos (by omega), zup_rk (by omega)]
      · rw [if_neg h1]
        by_cases h2 : j = 5 * b + i
        · subst h2
          rw [if_pos (by omega), zup_rr]
          exact congrArg _ (by omega)
        · rw [if_neg (by omega), zup_rk h2]
theorem sc_copyRow {a b : Nat} (ha : a < 11) (hb : b < 11) (hab : a ≠ b) {G : Nat → Nat → Int32} (w : zWT G) :
    ∃ G' : Nat → Nat → Int32, zden 54 0 [.ref 3, .int (nI a), .int (nI b), .retAddr 0] [] (zSH, G) = some (none, (zSH, G')) ∧ (∀ j, G' 4 j = if 5 * b ≤ j ∧ j < 5 * b + 5 then G 4 (j - 5 * b + 5 * a) else G 4 j) ∧ ∀ r, r ≠ 4 → G' r = G r := by
  obtain ⟨G', g1, g2, g3⟩ := sc_copyRow_loop ha hb hab 5 0 G rfl w
  exact ⟨G', by rw [B_Ta_copyRow_0 sh_3 sh_4 rfl (by decide)]; exact g1, g2, g3⟩
/-- the row of a code -/
def findR (A : Nat → Int32) (x : Int32) : Nat → Nat → Int32
  | 0, _ => -1
  | d + 1, i => if A (5 * i + 4) = x then nI i else findR A x d (i + 1)
theorem findR_or {A : Nat → Int32} {x : Int32} : ∀ (d i : Nat), (findR A x d i = -1 ∧ ∀ k, i ≤ k → k < i + d → A (5 * k + 4) ≠ x) ∨ (∃ k : Nat, i ≤ k ∧ k < i + d ∧ findR A x d i = nI k ∧ A (5 * k + 4) = x) := by
  intro d
  induction d with
  | zero => intro i; exact .inl ⟨rfl, fun k h1 h2 => by omega⟩
  | succ d ih =>
    intro i
    unfold findR
    by_cases h : A (5 * i + 4) = x
    · rw [if_pos h]; exact .inr ⟨i, by omega, by omega, rfl, h⟩
    · rw [if_neg h]
      rcases ih (i + 1) with ⟨h1, h2⟩ | ⟨k, k1, k2, k3, k4⟩
      · refine .inl ⟨h1, fun k q1 q2 => ?_⟩
        by_cases e : k = i
        · subst e; exact h
        · exact h2 k (by omega) (by omega)
      · exact .inr ⟨k, by omega, by omega, k3, k4⟩
/-- the rows of headings of a house and the model's places -/
def hOK (n : Nat) (A v : Nat → Int32) : Prop := n ≤ 10 ∧ v 1 = nI n ∧ (∀ h, h < n → HRh A v h) ∧ (A (5 * n) = 4 ∧ A (5 * n + 1) = 3 ∧ A (5 * n + 2) = 30 ∧ A (5 * n + 3) = 0 ∧ A (5 * n + 4) = 99)
theorem mhead_lt {H : Nat → Nat → Int32} {n i : Nat} {w : Int32} {k : Nat} (hn : n ≤ 10) (hv : H 91 1 = nI n) (hi : i < n) (hw : w = nI k) (hk : k < 5) : mhead H (nI i) w = H 91 (13 + 5 * i + k) ∧ mhok H (nI i) w := by
  have e : 13 + 5 * nI i + w = nI (13 + 5 * i + k) := by rw [hw, nIlit_13, nIlit_5, pk_mul, nI_add, nI_add]
  refine ⟨?_, fun _ => by rw [e]; exact zin_nI (by omega) (by decide)⟩
  unfold mhead
  rw [hv, if_pos (nI_lt hi (by omega)), e, nI_clamp (by omega)]
theorem mhead_n {H : Nat → Nat → Int32} {n : Nat} (hn : n ≤ 10) (hv : H 91 1 = nI n) : (mhead H (nI n) 0 = 99 ∧ mhead H (nI n) 1 = 4 ∧ mhead H (nI n) 2 = 3 ∧ mhead H (nI n) 3 = 30 ∧ mhead H (nI n) 4 = 0) ∧ ∀ w, mhok H (nI n) w := by
  have hnn : ¬ nI n < H 91 1 := by rw [hv]; exact nI_nlt (Nat.le_refl _) (by omega)
  have e : ∀ w, mhead H (nI n) w = if w = 0 then 99 else if w = 1 then 4 else if w = 2 then 3 else if w = 3 then 30 else 0 := fun w => by
    unfold mhead
    rw [if_neg hnn]
  refine ⟨⟨?_, ?_, ?_, ?_, ?_⟩, fun w q => absurd q hnn⟩
  · rw [e, if_pos rfl]
  · rw [e, if_neg (by decide), if_pos rfl]
  · rw [e, if_neg (by decide), if_neg (by decide), if_pos rfl]
  · rw [e, if_neg (by decide), if_neg (by decide), if_neg (by decide), if_pos rfl]
  · rw [e, if_neg (by decide), if_neg (by decide), if_neg (by decide), if_neg (by decide)]
theorem hOK.head {H : Nat → Nat → Int32} {A : Nat → Int32} {n i : Nat} (h : hOK n A (H 91)) (hi : i ≤ n) :
    (mhead H (nI i) 0 = A (5 * i + 4) ∧ mhead H (nI i) 1 = A (5 * i) ∧ mhead H (nI i) 2 = A (5 * i + 1) ∧ mhead H (nI i) 3 = A (5 * i + 2) ∧ mhead H (nI i) 4 = A (5 * i + 3)) ∧
    (mhok H (nI i) 0 ∧ mhok H (nI i) 1 ∧ mhok H (nI i) 2 ∧ mhok H (nI i) 3 ∧ mhok H (nI i) 4) := by
  obtain ⟨h1, h2, h3, h4, h5, h6, h7, h8⟩ := h
  by_cases hin : i = n
  · subst hin
    obtain ⟨⟨q0, q1, q2, q3, q4⟩, q⟩ := mhead_n h1 h2
    exact ⟨⟨q0.trans h8.symm, q1.trans h4.symm, q2.trans h5.symm, q3.trans h6.symm, q4.trans h7.symm⟩, q 0, q 1, q 2, q 3, q 4⟩
  · obtain ⟨a1, a2, a3, a4, a5, _⟩ := h3 i (by omega)
    have q0 := mhead_lt (w := 0) (k := 0) h1 h2 (i := i) (by omega) (by decide) (by decide)
    have q1 := mhead_lt (w := 1) (k := 1) h1 h2 (i := i) (by omega) (by decide) (by decide)
    have q2 := mhead_lt (w := 2) (k := 2) h1 h2 (i := i) (by omega) (by decide) (by decide)
    have q3 := mhead_lt (w := 3) (k := 3) h1 h2 (i := i) (by omega) (by decide) (by decide)
    have q4 := mhead_lt (w := 4) (k := 4) h1 h2 (i := i) (by omega) (by decide) (by decide)
    refine ⟨⟨?_, ?_, ?_, ?_, ?_⟩, q0.2, q1.2, q2.2, q3.2, q4.2⟩
    · rw [q0.1, a1, Nat.add_zero]
    · rw [q1.1, a2, show 13 + 5 * i + 1 = 14 + 5 * i by omega]
    · rw [q2.1, a3, show 13 + 5 * i + 2 = 15 + 5 * i by omega]
    · rw [q3.1, a4, show 13 + 5 * i + 3 = 16 + 5 * i by omega]
    · rw [q4.1, a5, show 13 + 5 * i + 4 = 17 + 5 * i by omega]
