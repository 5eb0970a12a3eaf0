-- 51: something is done (the steps written by wip/p36/gen51.py)
theorem LI_same {D n gn f u : Nat} {G X : Nat → Nat → Int32} (h : LI D n gn f u G) (e : ∀ i, i < 90 → X i = G i) : LI D n gn f u X := by
  obtain ⟨a1, a2, a3, a4, a5, a6, a7, a8, a9⟩ := h
  refine ⟨?_, ?_, ?_, a4, a5, ?_, ?_, ?_, ?_⟩
  · unfold zWT
    rw [e 3 (by decide), e 5 (by decide), e 7 (by decide)]
    exact a1
  · unfold zRk
    rw [e 82 (by decide)]
    exact a2
  · unfold HIat
    rw [e 2 (by decide), e 4 (by decide), e 6 (by decide), e 8 (by decide)]
    exact a3
  · rw [e 9 (by decide)]; exact a6
  · rw [e 9 (by decide)]; exact a7
  · rw [e 84 (by decide)]; exact a8
  · intro r s hs j hj
    have : r < 90 := by
      rcases Nat.lt_or_ge r 90 with q | q
      · exact q
      · rw [List.getElem?_eq_none (by show 90 ≤ r; exact q)] at hs
        cases hs
    show X r j = 0
    rw [e r this]
    exact a9 r s hs j hj
theorem hEq_from {G G1 X : Nat → Nat → Int32} (e : ∀ i, i < 90 → G1 i = G i) (h : hEq G1 X) : hEq G X := by
  unfold hEq at h ⊢
  rw [e 2 (by decide), e 4 (by decide), e 6 (by decide), e 8 (by decide)] at h
  exact h
theorem keptAt_from {b : Nat} {G G1 X : Nat → Nat → Int32} (e : ∀ i, i < 90 → G1 i = G i) (h : keptAt b G1 X) : keptAt b G X := by
  unfold keptAt at h ⊢
  rw [e 2 (by decide), e 4 (by decide), e 6 (by decide), e 8 (by decide)] at h
  exact h
theorem chEnd_from {D n gn f u : Nat} {r : Int32} {G G1 X : Nat → Nat → Int32} (e : ∀ i, i < 90 → G1 i = G i) (h : chEnd D n gn f u r G1 X) : chEnd D n gn f u r G X := by
  rcases h with ⟨a, b, c, d⟩ | ⟨a, n', gn', b, c, d⟩
  · exact .inl ⟨a, b, hEq_from e c, d⟩
  · exact .inr ⟨a, n', gn', b, c, keptAt_from e d⟩
def ACtx (D n gn f u b : Nat) (E : List zS) (G0 : Nat → Nat → Int32) : Prop := D ≤ 6000 ∧ LI D n gn f u G0 ∧ (zSH ++ E)[b]? = some (.inl (8, [none])) ∧ 90 ≤ b ∧ b < 1000000
def ActR (D n gn f u b : Nat) (G0 : Nat → Nat → Int32) (r : Int32) (G' : Nat → Nat → Int32) : Prop := chEnd D n gn f u r G0 G' ∧ ∀ i, 90 ≤ i → i ≠ b → G' i = G0 i
section ZAc
variable {D n gn f u b : Nat} {E : List zS} {G0 G : Nat → Nat → Int32}
theorem x_nextA {x : Int32} (c : ACtx D n gn f u b E G0) (e : ∀ i, i ≠ b → G i = G0 i) (hx : ¬ x = 0) : ∃ (v : Int32) (G1 : Nat → Nat → Int32), zden 106 0 [.ref b, .int x] [] (zSH ++ E, G) = some (some (.int v), (zSH ++ E, G1)) ∧ ∀ i, i ≠ b → G1 i = G0 i :=
  ⟨_, _, B_B_next_0 c.2.2.1 c.2.2.2 hx, fun i hi => (zup_ro hi).trans (e i hi)⟩
theorem x_nextM {x : Int32} {m : Nat} (c : ACtx D n gn f u b E G0) (e : ∀ i, i ≠ b → G i = G0 i) (hx : x = nI m) (m0 : 0 < m) (m31 : m < 2 ^ 31) : ∃ (v : Nat) (G1 : Nat → Nat → Int32), v < m ∧ zden 106 0 [.ref b, .int x] [] (zSH ++ E, G) = some (some (.int (nI v)), (zSH ++ E, G1)) ∧ ∀ i, i ≠ b → G1 i = G0 i := by
  obtain ⟨v, G1, a, d, q⟩ := x_next (G := G) c.2.2.1 c.2.2.2 hx m0 m31
  exact ⟨v, G1, d, a, fun i hi => (q i hi).trans (e i hi)⟩
theorem x_someA (c : ACtx D n gn f u b E G0) (e : ∀ i, i ≠ b → G i = G0 i) : ∃ (v : Int32) (G1 : Nat → Nat → Int32), zden 122 0 [.ref 0, .ref b] [] (zSH ++ E, G) = some (some (.int v), (zSH ++ E, G1)) ∧ ∀ i, i ≠ b → G1 i = G0 i := by
  have hb9 := c.2.2.2
  have L := LI_same c.2.1 (X := G) (fun i hi => e i (by omega))
  obtain ⟨rv, hP⟩ := rd_ex L.w L.h
  obtain ⟨v, G1, a, q⟩ := x_some (G := G) c.2.2.1 c.2.2.2 hP L.w L.h
  exact ⟨v, G1, a, fun i hi => (q i hi).trans (e i hi)⟩
theorem x_someCodeA (c : ACtx D n gn f u b E G0) (e : ∀ i, i ≠ b → G i = G0 i) : ∃ (v : Int32) (G1 : Nat → Nat → Int32), zden 121 0 [.ref 0, .ref b] [] (zSH ++ E, G) = some (some (.int v), (zSH ++ E, G1)) ∧ ∀ i, i ≠ b → G1 i = G0 i := by
  have hb9 := c.2.2.2
  have L := LI_same c.2.1 (X := G) (fun i hi => e i (by omega))
  obtain ⟨rv, hP⟩ := rd_ex L.w L.h
  obtain ⟨v, G1, a, q⟩ := x_someCode (G := G) c.2.2.1 c.2.2.2 hP L.w L.h
  exact ⟨v, G1, a, fun i hi => (q i hi).trans (e i hi)⟩
theorem act_call {tc : Nat} {ac : List Value} (ok : ChOK tc ac) (c : ACtx D n gn f u b E G0) (e : ∀ i, i ≠ b → G i = G0 i) : ∃ (r : Int32) (G' : Nat → Nat → Int32), zden tc 0 ac [] (zSH ++ E, G) = some (some (.int r), (zSH ++ E, G')) ∧ ActR D n gn f u b G0 r G' := by
  have hb9 := c.2.2.2
  have e9 : ∀ i, i < 90 → G i = G0 i := fun i hi => e i (by omega)
  have L := LI_same c.2.1 (X := G) e9
  obtain ⟨r, G', z, fr, en⟩ := ok D n gn f u G c.1 L
  exact ⟨r, G', zden_x E z, chEnd_from e9 en, fun i hi hib => (fr.1 i (by omega)).trans (e i hib)⟩
theorem max1 {y : Int32} : ¬ (if 1 < y then y else 1) = 0 := by
  by_cases q : 1 < y
  · rw [if_pos q]
    intro z
    rw [z] at q
    exact absurd q (by decide)
  · rw [if_neg q]
    decide

theorem A_605 {x1 s0 : Int32} (c : ACtx D n gn f u b E G0) (e : ∀ i, i ≠ b → G i = G0 i) : ∃ (r : Int32) (G' : Nat → Nat → Int32), zden 120 605 [.ref 0, .int x1, .ref b, .retAddr 0, .retAddr 0, .retAddr 0] [.int s0, .ref 0] (zSH ++ E, G) = some (some (.int r), (zSH ++ E, G')) ∧ ActR D n gn f u b G0 r G' := by
  rw [B_L_acts_605 c.2.2.1 c.2.2.2]
  obtain ⟨r, G1, z, en⟩ := act_call (ch_days (x1 := s0)) c e
  rw [z, zaft_same]
  exact ⟨r, G1, B_L_acts_608 c.2.2.1 c.2.2.2, en⟩
theorem A_604 {x1 s0 s1 : Int32} (c : ACtx D n gn f u b E G0) (e : ∀ i, i ≠ b → G i = G0 i) : ∃ (r : Int32) (G' : Nat → Nat → Int32), zden 120 604 [.ref 0, .int x1, .ref b, .retAddr 0, .retAddr 0, .retAddr 0] [.int s0, .int s1, .ref 0] (zSH ++ E, G) = some (some (.int r), (zSH ++ E, G')) ∧ ActR D n gn f u b G0 r G' := by
  rw [B_L_acts_604 c.2.2.1 c.2.2.2]
  exact A_605 (x1 := x1) (s0 := (s1 + s0)) c e
theorem A_601 {x1 s0 s2 : Int32} (c : ACtx D n gn f u b E G0) (e : ∀ i, i ≠ b → G i = G0 i) (n0 : ¬ s0 = 0) : ∃ (r : Int32) (G' : Nat → Nat → Int32), zden 120 601 [.ref 0, .int x1, .ref b, .retAddr 0, .retAddr 0, .retAddr 0] [.int s0, .ref b, .int s2, .ref 0] (zSH ++ E, G) = some (some (.int r), (zSH ++ E, G')) ∧ ActR D n gn f u b G0 r G' := by
  rw [B_L_acts_601 c.2.2.1 c.2.2.2]
  obtain ⟨v, G1, z, e1⟩ := x_nextA (x := s0) c e n0
  rw [z, zaft_same]
  exact A_604 (x1 := x1) (s0 := v) (s1 := s2) c e1
theorem A_591 {x1 s0 s2 : Int32} (c : ACtx D n gn f u b E G0) (e : ∀ i, i ≠ b → G i = G0 i) : ∃ (r : Int32) (G' : Nat → Nat → Int32), zden 120 591 [.ref 0, .int x1, .ref b, .retAddr 0, .retAddr 0, .retAddr 0] [.int s0, .ref b, .int s2, .ref 0] (zSH ++ E, G) = some (some (.int r), (zSH ++ E, G')) ∧ ActR D n gn f u b G0 r G' := by
  rw [B_L_acts_591 c.2.2.1 c.2.2.2]
  by_cases q1 : ¬ s0 = 0
  · rw [if_pos q1]
    exact A_601 (x1 := x1) (s0 := 9) (s2 := s2) c e (by decide)
  · rw [if_neg q1]
    exact A_601 (x1 := x1) (s0 := 40) (s2 := s2) c e (by decide)
theorem A_576 {x1 s0 : Int32} (c : ACtx D n gn f u b E G0) (e : ∀ i, i ≠ b → G i = G0 i) : ∃ (r : Int32) (G' : Nat → Nat → Int32), zden 120 576 [.ref 0, .int x1, .ref b, .retAddr 0, .retAddr 0, .retAddr 0] [.int s0, .ref 0] (zSH ++ E, G) = some (some (.int r), (zSH ++ E, G')) ∧ ActR D n gn f u b G0 r G' := by
  rw [B_L_acts_576 c.2.2.1 c.2.2.2]
  by_cases q1 : ¬ s0 = 0
  · rw [if_pos q1]
    obtain ⟨v, G1, z, e1⟩ := x_nextA (x := 3) c e (by decide)
    rw [z, zaft_same]
    exact A_591 (x1 := x1) (s0 := v) (s2 := 1) c e1
  · rw [if_neg q1]
    exact A_605 (x1 := x1) (s0 := 100) c e
theorem A_569 {x1 : Int32} (c : ACtx D n gn f u b E G0) (e : ∀ i, i ≠ b → G i = G0 i) : ∃ (r : Int32) (G' : Nat → Nat → Int32), zden 120 569 [.ref 0, .int x1, .ref b, .retAddr 0, .retAddr 0, .retAddr 0] [] (zSH ++ E, G) = some (some (.int r), (zSH ++ E, G')) ∧ ActR D n gn f u b G0 r G' := by
  rw [B_L_acts_569 c.2.2.1 c.2.2.2]
  obtain ⟨v, G1, z, e1⟩ := x_nextA (x := 12) c e (by decide)
  rw [z, zaft_same]
  exact A_576 (x1 := x1) (s0 := v) c e1
theorem A_565 {x1 s0 : Int32} (c : ACtx D n gn f u b E G0) (e : ∀ i, i ≠ b → G i = G0 i) : ∃ (r : Int32) (G' : Nat → Nat → Int32), zden 120 565 [.ref 0, .int x1, .ref b, .retAddr 0, .retAddr 0, .retAddr 0] [.int s0, .ref 0] (zSH ++ E, G) = some (some (.int r), (zSH ++ E, G')) ∧ ActR D n gn f u b G0 r G' := by
  rw [B_L_acts_565 c.2.2.1 c.2.2.2]
  obtain ⟨r, G1, z, en⟩ := act_call (ch_export (x1 := s0)) c e
  rw [z, zaft_same]
  exact ⟨r, G1, B_L_acts_568 c.2.2.1 c.2.2.2, en⟩
theorem A_559 {x1 : Int32} (c : ACtx D n gn f u b E G0) (e : ∀ i, i ≠ b → G i = G0 i) : ∃ (r : Int32) (G' : Nat → Nat → Int32), zden 120 559 [.ref 0, .int x1, .ref b, .retAddr 0, .retAddr 0, .retAddr 0] [] (zSH ++ E, G) = some (some (.int r), (zSH ++ E, G')) ∧ ActR D n gn f u b G0 r G' := by
  rw [B_L_acts_559 c.2.2.1 c.2.2.2]
  obtain ⟨v, G1, z, e1⟩ := x_someA c e
  rw [z, zaft_same]
  exact A_565 (x1 := x1) (s0 := v) c e1
theorem A_555 {x1 s0 : Int32} (c : ACtx D n gn f u b E G0) (e : ∀ i, i ≠ b → G i = G0 i) : ∃ (r : Int32) (G' : Nat → Nat → Int32), zden 120 555 [.ref 0, .int x1, .ref b, .retAddr 0, .retAddr 0, .retAddr 0] [.int s0, .ref 0] (zSH ++ E, G) = some (some (.int r), (zSH ++ E, G')) ∧ ActR D n gn f u b G0 r G' := by
  rw [B_L_acts_555 c.2.2.1 c.2.2.2]
  obtain ⟨r, G1, z, en⟩ := act_call (ch_enter (x1 := s0)) c e
  rw [z, zaft_same]
  exact ⟨r, G1, B_L_acts_558 c.2.2.1 c.2.2.2, en⟩
theorem A_549 {x1 : Int32} (c : ACtx D n gn f u b E G0) (e : ∀ i, i ≠ b → G i = G0 i) : ∃ (r : Int32) (G' : Nat → Nat → Int32), zden 120 549 [.ref 0, .int x1, .ref b, .retAddr 0, .retAddr 0, .retAddr 0] [] (zSH ++ E, G) = some (some (.int r), (zSH ++ E, G')) ∧ ActR D n gn f u b G0 r G' := by
  rw [B_L_acts_549 c.2.2.1 c.2.2.2]
  obtain ⟨v, G1, z, e1⟩ := x_someA c e
  rw [z, zaft_same]
  exact A_555 (x1 := x1) (s0 := v) c e1
theorem A_545 {x1 s0 : Int32} (c : ACtx D n gn f u b E G0) (e : ∀ i, i ≠ b → G i = G0 i) : ∃ (r : Int32) (G' : Nat → Nat → Int32), zden 120 545 [.ref 0, .int x1, .ref b, .retAddr 0, .retAddr 0, .retAddr 0] [.int s0, .ref 0] (zSH ++ E, G) = some (some (.int r), (zSH ++ E, G')) ∧ ActR D n gn f u b G0 r G' := by
  rw [B_L_acts_545 c.2.2.1 c.2.2.2]
  obtain ⟨r, G1, z, en⟩ := act_call (ch_coins (x1 := s0)) c e
  rw [z, zaft_same]
  exact ⟨r, G1, B_L_acts_548 c.2.2.1 c.2.2.2, en⟩
theorem A_544 {x1 s0 s1 : Int32} (c : ACtx D n gn f u b E G0) (e : ∀ i, i ≠ b → G i = G0 i) : ∃ (r : Int32) (G' : Nat → Nat → Int32), zden 120 544 [.ref 0, .int x1, .ref b, .retAddr 0, .retAddr 0, .retAddr 0] [.int s0, .int s1, .ref 0] (zSH ++ E, G) = some (some (.int r), (zSH ++ E, G')) ∧ ActR D n gn f u b G0 r G' := by
  rw [B_L_acts_544 c.2.2.1 c.2.2.2]
  exact A_545 (x1 := x1) (s0 := (s1 + s0)) c e
theorem A_529 {x1 s0 : Int32} (c : ACtx D n gn f u b E G0) (e : ∀ i, i ≠ b → G i = G0 i) : ∃ (r : Int32) (G' : Nat → Nat → Int32), zden 120 529 [.ref 0, .int x1, .ref b, .retAddr 0, .retAddr 0, .retAddr 0] [.int s0, .ref 0] (zSH ++ E, G) = some (some (.int r), (zSH ++ E, G')) ∧ ActR D n gn f u b G0 r G' := by
  rw [B_L_acts_529 c.2.2.1 c.2.2.2]
  by_cases q1 : ¬ s0 = 0
  · rw [if_pos q1]
    obtain ⟨v, G1, z, e1⟩ := x_nextA (x := 300) c e (by decide)
    rw [z, zaft_same]
    exact A_544 (x1 := x1) (s0 := v) (s1 := 1) c e1
  · rw [if_neg q1]
    exact A_545 (x1 := x1) (s0 := 0) c e
theorem A_522 {x1 : Int32} (c : ACtx D n gn f u b E G0) (e : ∀ i, i ≠ b → G i = G0 i) : ∃ (r : Int32) (G' : Nat → Nat → Int32), zden 120 522 [.ref 0, .int x1, .ref b, .retAddr 0, .retAddr 0, .retAddr 0] [] (zSH ++ E, G) = some (some (.int r), (zSH ++ E, G')) ∧ ActR D n gn f u b G0 r G' := by
  rw [B_L_acts_522 c.2.2.1 c.2.2.2]
  obtain ⟨v, G1, z, e1⟩ := x_nextA (x := 12) c e (by decide)
  rw [z, zaft_same]
  exact A_529 (x1 := x1) (s0 := v) c e1
theorem A_518 {x1 s0 s1 : Int32} (c : ACtx D n gn f u b E G0) (e : ∀ i, i ≠ b → G i = G0 i) : ∃ (r : Int32) (G' : Nat → Nat → Int32), zden 120 518 [.ref 0, .int x1, .ref b, .retAddr 0, .retAddr 0, .retAddr 0] [.int s0, .int s1, .ref 0] (zSH ++ E, G) = some (some (.int r), (zSH ++ E, G')) ∧ ActR D n gn f u b G0 r G' := by
  rw [B_L_acts_518 c.2.2.1 c.2.2.2]
  obtain ⟨r, G1, z, en⟩ := act_call (ch_favour (x1 := s1) (x2 := s0)) c e
  rw [z, zaft_same]
  exact ⟨r, G1, B_L_acts_521 c.2.2.1 c.2.2.2, en⟩
theorem A_515 {x1 s0 s2 : Int32} (c : ACtx D n gn f u b E G0) (e : ∀ i, i ≠ b → G i = G0 i) (n0 : ¬ s0 = 0) : ∃ (r : Int32) (G' : Nat → Nat → Int32), zden 120 515 [.ref 0, .int x1, .ref b, .retAddr 0, .retAddr 0, .retAddr 0] [.int s0, .ref b, .int s2, .ref 0] (zSH ++ E, G) = some (some (.int r), (zSH ++ E, G')) ∧ ActR D n gn f u b G0 r G' := by
  rw [B_L_acts_515 c.2.2.1 c.2.2.2]
  obtain ⟨v, G1, z, e1⟩ := x_nextA (x := s0) c e n0
  rw [z, zaft_same]
  exact A_518 (x1 := x1) (s0 := v) (s1 := s2) c e1
theorem A_505 {x1 s0 s2 : Int32} (c : ACtx D n gn f u b E G0) (e : ∀ i, i ≠ b → G i = G0 i) : ∃ (r : Int32) (G' : Nat → Nat → Int32), zden 120 505 [.ref 0, .int x1, .ref b, .retAddr 0, .retAddr 0, .retAddr 0] [.int s0, .ref b, .int s2, .ref 0] (zSH ++ E, G) = some (some (.int r), (zSH ++ E, G')) ∧ ActR D n gn f u b G0 r G' := by
  rw [B_L_acts_505 c.2.2.1 c.2.2.2]
  by_cases q1 : ¬ s0 = 0
  · rw [if_pos q1]
    exact A_515 (x1 := x1) (s0 := 101) (s2 := s2) c e (by decide)
  · rw [if_neg q1]
    exact A_515 (x1 := x1) (s0 := 103) (s2 := s2) c e (by decide)
theorem A_498 {x1 s0 : Int32} (c : ACtx D n gn f u b E G0) (e : ∀ i, i ≠ b → G i = G0 i) : ∃ (r : Int32) (G' : Nat → Nat → Int32), zden 120 498 [.ref 0, .int x1, .ref b, .retAddr 0, .retAddr 0, .retAddr 0] [.int s0, .ref 0] (zSH ++ E, G) = some (some (.int r), (zSH ++ E, G')) ∧ ActR D n gn f u b G0 r G' := by
  rw [B_L_acts_498 c.2.2.1 c.2.2.2]
  obtain ⟨v, G1, z, e1⟩ := x_nextA (x := 12) c e (by decide)
  rw [z, zaft_same]
  exact A_505 (x1 := x1) (s0 := v) (s2 := s0) c e1
theorem A_495 {x1 s0 : Int32} (c : ACtx D n gn f u b E G0) (e : ∀ i, i ≠ b → G i = G0 i) (n0 : ¬ s0 = 0) : ∃ (r : Int32) (G' : Nat → Nat → Int32), zden 120 495 [.ref 0, .int x1, .ref b, .retAddr 0, .retAddr 0, .retAddr 0] [.int s0, .ref b, .ref 0] (zSH ++ E, G) = some (some (.int r), (zSH ++ E, G')) ∧ ActR D n gn f u b G0 r G' := by
  rw [B_L_acts_495 c.2.2.1 c.2.2.2]
  obtain ⟨v, G1, z, e1⟩ := x_nextA (x := s0) c e n0
  rw [z, zaft_same]
  exact A_498 (x1 := x1) (s0 := v) c e1
theorem A_486 {x1 s0 : Int32} (c : ACtx D n gn f u b E G0) (e : ∀ i, i ≠ b → G i = G0 i) : ∃ (r : Int32) (G' : Nat → Nat → Int32), zden 120 486 [.ref 0, .int x1, .ref b, .retAddr 0, .retAddr 0, .retAddr 0] [.int s0, .ref b, .ref 0] (zSH ++ E, G) = some (some (.int r), (zSH ++ E, G')) ∧ ActR D n gn f u b G0 r G' := by
  rw [B_L_acts_486 c.2.2.1 c.2.2.2]
  by_cases q1 : ¬ s0 = 0
  · rw [if_pos q1]
    exact A_495 (x1 := x1) (s0 := 3) c e (by decide)
  · rw [if_neg q1]
    exact A_495 (x1 := x1) (s0 := 6) c e (by decide)
theorem A_478 {x1 : Int32} (c : ACtx D n gn f u b E G0) (e : ∀ i, i ≠ b → G i = G0 i) : ∃ (r : Int32) (G' : Nat → Nat → Int32), zden 120 478 [.ref 0, .int x1, .ref b, .retAddr 0, .retAddr 0, .retAddr 0] [] (zSH ++ E, G) = some (some (.int r), (zSH ++ E, G')) ∧ ActR D n gn f u b G0 r G' := by
  rw [B_L_acts_478 c.2.2.1 c.2.2.2]
  obtain ⟨v, G1, z, e1⟩ := x_nextA (x := 12) c e (by decide)
  rw [z, zaft_same]
  exact A_486 (x1 := x1) (s0 := v) c e1
theorem A_474 {x1 s0 s1 s2 : Int32} (c : ACtx D n gn f u b E G0) (e : ∀ i, i ≠ b → G i = G0 i) : ∃ (r : Int32) (G' : Nat → Nat → Int32), zden 120 474 [.ref 0, .int x1, .ref b, .retAddr 0, .retAddr 0, .retAddr 0] [.int s0, .int s1, .int s2, .ref 0] (zSH ++ E, G) = some (some (.int r), (zSH ++ E, G')) ∧ ActR D n gn f u b G0 r G' := by
  rw [B_L_acts_474 c.2.2.1 c.2.2.2]
  obtain ⟨r, G1, z, en⟩ := act_call (ch_work (x1 := s2) (x2 := s1) (x3 := s0)) c e
  rw [z, zaft_same]
  exact ⟨r, G1, B_L_acts_477 c.2.2.1 c.2.2.2, en⟩
theorem A_471 {x1 s0 s2 s3 : Int32} (c : ACtx D n gn f u b E G0) (e : ∀ i, i ≠ b → G i = G0 i) (n0 : ¬ s0 = 0) : ∃ (r : Int32) (G' : Nat → Nat → Int32), zden 120 471 [.ref 0, .int x1, .ref b, .retAddr 0, .retAddr 0, .retAddr 0] [.int s0, .ref b, .int s2, .int s3, .ref 0] (zSH ++ E, G) = some (some (.int r), (zSH ++ E, G')) ∧ ActR D n gn f u b G0 r G' := by
  rw [B_L_acts_471 c.2.2.1 c.2.2.2]
  obtain ⟨v, G1, z, e1⟩ := x_nextA (x := s0) c e n0
  rw [z, zaft_same]
  exact A_474 (x1 := x1) (s0 := v) (s1 := s2) (s2 := s3) c e1
theorem A_461 {x1 s0 s2 s3 : Int32} (c : ACtx D n gn f u b E G0) (e : ∀ i, i ≠ b → G i = G0 i) : ∃ (r : Int32) (G' : Nat → Nat → Int32), zden 120 461 [.ref 0, .int x1, .ref b, .retAddr 0, .retAddr 0, .retAddr 0] [.int s0, .ref b, .int s2, .int s3, .ref 0] (zSH ++ E, G) = some (some (.int r), (zSH ++ E, G')) ∧ ActR D n gn f u b G0 r G' := by
  rw [B_L_acts_461 c.2.2.1 c.2.2.2]
  by_cases q1 : ¬ s0 = 0
  · rw [if_pos q1]
    exact A_471 (x1 := x1) (s0 := 30) (s2 := s2) (s3 := s3) c e (by decide)
  · rw [if_neg q1]
    exact A_471 (x1 := x1) (s0 := 101) (s2 := s2) (s3 := s3) c e (by decide)
theorem A_446 {x1 s0 s1 s2 : Int32} (c : ACtx D n gn f u b E G0) (e : ∀ i, i ≠ b → G i = G0 i) : ∃ (r : Int32) (G' : Nat → Nat → Int32), zden 120 446 [.ref 0, .int x1, .ref b, .retAddr 0, .retAddr 0, .retAddr 0] [.int s0, .int s1, .int s2, .ref 0] (zSH ++ E, G) = some (some (.int r), (zSH ++ E, G')) ∧ ActR D n gn f u b G0 r G' := by
  rw [B_L_acts_446 c.2.2.1 c.2.2.2]
  by_cases q1 : ¬ s0 = 0
  · rw [if_pos q1]
    obtain ⟨v, G1, z, e1⟩ := x_nextA (x := 12) c e (by decide)
    rw [z, zaft_same]
    exact A_461 (x1 := x1) (s0 := v) (s2 := s1) (s3 := s2) c e1
  · rw [if_neg q1]
    exact A_474 (x1 := x1) (s0 := 10) (s1 := s1) (s2 := s2) c e
theorem A_441 {x1 s0 s1 : Int32} (c : ACtx D n gn f u b E G0) (e : ∀ i, i ≠ b → G i = G0 i) : ∃ (r : Int32) (G' : Nat → Nat → Int32), zden 120 441 [.ref 0, .int x1, .ref b, .retAddr 0, .retAddr 0, .retAddr 0] [.int s0, .int s1, .ref 0] (zSH ++ E, G) = some (some (.int r), (zSH ++ E, G')) ∧ ActR D n gn f u b G0 r G' := by
  rw [B_L_acts_441 c.2.2.1 c.2.2.2]
  obtain ⟨v, G1, z, e1⟩ := x_nextA (x := 2) c e (by decide)
  rw [z, zaft_same]
  exact A_446 (x1 := x1) (s0 := v) (s1 := s0) (s2 := s1) c e1
theorem A_438 {x1 s0 s2 : Int32} (c : ACtx D n gn f u b E G0) (e : ∀ i, i ≠ b → G i = G0 i) (n0 : ¬ s0 = 0) : ∃ (r : Int32) (G' : Nat → Nat → Int32), zden 120 438 [.ref 0, .int x1, .ref b, .retAddr 0, .retAddr 0, .retAddr 0] [.int s0, .ref b, .int s2, .ref 0] (zSH ++ E, G) = some (some (.int r), (zSH ++ E, G')) ∧ ActR D n gn f u b G0 r G' := by
  rw [B_L_acts_438 c.2.2.1 c.2.2.2]
  obtain ⟨v, G1, z, e1⟩ := x_nextA (x := s0) c e n0
  rw [z, zaft_same]
  exact A_441 (x1 := x1) (s0 := v) (s1 := s2) c e1
theorem A_429 {x1 s0 s2 : Int32} (c : ACtx D n gn f u b E G0) (e : ∀ i, i ≠ b → G i = G0 i) : ∃ (r : Int32) (G' : Nat → Nat → Int32), zden 120 429 [.ref 0, .int x1, .ref b, .retAddr 0, .retAddr 0, .retAddr 0] [.int s0, .ref b, .int s2, .ref 0] (zSH ++ E, G) = some (some (.int r), (zSH ++ E, G')) ∧ ActR D n gn f u b G0 r G' := by
  rw [B_L_acts_429 c.2.2.1 c.2.2.2]
  by_cases q1 : ¬ s0 = 0
  · rw [if_pos q1]
    exact A_438 (x1 := x1) (s0 := 3) (s2 := s2) c e (by decide)
  · rw [if_neg q1]
    exact A_438 (x1 := x1) (s0 := 6) (s2 := s2) c e (by decide)
theorem A_422 {x1 s0 : Int32} (c : ACtx D n gn f u b E G0) (e : ∀ i, i ≠ b → G i = G0 i) : ∃ (r : Int32) (G' : Nat → Nat → Int32), zden 120 422 [.ref 0, .int x1, .ref b, .retAddr 0, .retAddr 0, .retAddr 0] [.int s0, .ref 0] (zSH ++ E, G) = some (some (.int r), (zSH ++ E, G')) ∧ ActR D n gn f u b G0 r G' := by
  rw [B_L_acts_422 c.2.2.1 c.2.2.2]
  obtain ⟨v, G1, z, e1⟩ := x_nextA (x := 12) c e (by decide)
  rw [z, zaft_same]
  exact A_429 (x1 := x1) (s0 := v) (s2 := s0) c e1
theorem A_416 {x1 : Int32} (c : ACtx D n gn f u b E G0) (e : ∀ i, i ≠ b → G i = G0 i) : ∃ (r : Int32) (G' : Nat → Nat → Int32), zden 120 416 [.ref 0, .int x1, .ref b, .retAddr 0, .retAddr 0, .retAddr 0] [] (zSH ++ E, G) = some (some (.int r), (zSH ++ E, G')) ∧ ActR D n gn f u b G0 r G' := by
  rw [B_L_acts_416 c.2.2.1 c.2.2.2]
  obtain ⟨v, G1, z, e1⟩ := x_someA c e
  rw [z, zaft_same]
  exact A_422 (x1 := x1) (s0 := v) c e1
theorem A_406 {x1 x3 x4 x5 s0 s1 s2 s3 : Int32} (c : ACtx D n gn f u b E G0) (e : ∀ i, i ≠ b → G i = G0 i) : ∃ (r : Int32) (G' : Nat → Nat → Int32), zden 120 406 [.ref 0, .int x1, .ref b, .int x3, .int x4, .int x5] [.int s0, .int s1, .int s2, .int s3, .ref 0] (zSH ++ E, G) = some (some (.int r), (zSH ++ E, G')) ∧ ActR D n gn f u b G0 r G' := by
  rw [B_L_acts_406 c.2.2.1 c.2.2.2]
  obtain ⟨r, G1, z, en⟩ := act_call (ch_good (x1 := s3) (x2 := s2) (x3 := (s1 + s0)) (x4 := x3) (x5 := x4) (x6 := x5)) c e
  rw [z, zaft_same]
  exact ⟨r, G1, B_L_acts_415 c.2.2.1 c.2.2.2, en⟩
theorem A_403 {x1 x3 x4 x5 s0 s2 s3 s4 : Int32} (c : ACtx D n gn f u b E G0) (e : ∀ i, i ≠ b → G i = G0 i) (n0 : ¬ s0 = 0) : ∃ (r : Int32) (G' : Nat → Nat → Int32), zden 120 403 [.ref 0, .int x1, .ref b, .int x3, .int x4, .int x5] [.int s0, .ref b, .int s2, .int s3, .int s4, .ref 0] (zSH ++ E, G) = some (some (.int r), (zSH ++ E, G')) ∧ ActR D n gn f u b G0 r G' := by
  rw [B_L_acts_403 c.2.2.1 c.2.2.2]
  obtain ⟨v, G1, z, e1⟩ := x_nextA (x := s0) c e n0
  rw [z, zaft_same]
  exact A_406 (x1 := x1) (x3 := x3) (x4 := x4) (x5 := x5) (s0 := v) (s1 := s2) (s2 := s3) (s3 := s4) c e1
theorem A_391 {x1 x3 x4 x5 s0 s2 s3 s4 : Int32} (c : ACtx D n gn f u b E G0) (e : ∀ i, i ≠ b → G i = G0 i) : ∃ (r : Int32) (G' : Nat → Nat → Int32), zden 120 391 [.ref 0, .int x1, .ref b, .int x3, .int x4, .int x5] [.int s0, .ref b, .int s2, .int s3, .int s4, .ref 0] (zSH ++ E, G) = some (some (.int r), (zSH ++ E, G')) ∧ ActR D n gn f u b G0 r G' := by
  rw [B_L_acts_391 c.2.2.1 c.2.2.2]
  by_cases q1 : ¬ s0 = 0
  · rw [if_pos q1]
    exact A_403 (x1 := x1) (x3 := x3) (x4 := x4) (x5 := x5) (s0 := 400) (s2 := s2) (s3 := s3) (s4 := s4) c e (by decide)
  · rw [if_neg q1]
    exact A_403 (x1 := x1) (x3 := x3) (x4 := x4) (x5 := x5) (s0 := 1001) (s2 := s2) (s3 := s3) (s4 := s4) c e (by decide)
theorem A_382 {x1 x3 x4 x5 s0 s1 s2 : Int32} (c : ACtx D n gn f u b E G0) (e : ∀ i, i ≠ b → G i = G0 i) : ∃ (r : Int32) (G' : Nat → Nat → Int32), zden 120 382 [.ref 0, .int x1, .ref b, .int x3, .int x4, .int x5] [.int s0, .int s1, .int s2, .ref 0] (zSH ++ E, G) = some (some (.int r), (zSH ++ E, G')) ∧ ActR D n gn f u b G0 r G' := by
  rw [B_L_acts_382 c.2.2.1 c.2.2.2]
  obtain ⟨v, G1, z, e1⟩ := x_nextA (x := 12) c e (by decide)
  rw [z, zaft_same]
  exact A_391 (x1 := x1) (x3 := x3) (x4 := x4) (x5 := x5) (s0 := v) (s2 := 1) (s3 := (s1 + s0)) (s4 := s2) c e1
theorem A_374 {x1 x3 x4 x5 s0 s1 s2 : Int32} (c : ACtx D n gn f u b E G0) (e : ∀ i, i ≠ b → G i = G0 i) : ∃ (r : Int32) (G' : Nat → Nat → Int32), zden 120 374 [.ref 0, .int x1, .ref b, .int x3, .int x4, .int x5] [.int s0, .int s1, .int s2, .ref 0] (zSH ++ E, G) = some (some (.int r), (zSH ++ E, G')) ∧ ActR D n gn f u b G0 r G' := by
  rw [B_L_acts_374 c.2.2.1 c.2.2.2]
  by_cases q1 : ¬ s0 = 0
  · rw [if_pos q1]
    exact A_382 (x1 := x1) (x3 := x3) (x4 := x4) (x5 := x5) (s0 := 1) (s1 := s1) (s2 := s2) c e
  · rw [if_neg q1]
    exact A_382 (x1 := x1) (x3 := x3) (x4 := x4) (x5 := x5) (s0 := 0) (s1 := s1) (s2 := s2) c e
theorem A_368 {x1 x3 x4 x5 s0 s1 : Int32} (c : ACtx D n gn f u b E G0) (e : ∀ i, i ≠ b → G i = G0 i) : ∃ (r : Int32) (G' : Nat → Nat → Int32), zden 120 368 [.ref 0, .int x1, .ref b, .int x3, .int x4, .int x5] [.int s0, .int s1, .ref 0] (zSH ++ E, G) = some (some (.int r), (zSH ++ E, G')) ∧ ActR D n gn f u b G0 r G' := by
  rw [B_L_acts_368 c.2.2.1 c.2.2.2]
  obtain ⟨v, G1, z, e1⟩ := x_nextA (x := 12) c e (by decide)
  rw [z, zaft_same]
  exact A_374 (x1 := x1) (x3 := x3) (x4 := x4) (x5 := x5) (s0 := v) (s1 := s0) (s2 := s1) c e1
theorem A_365 {x1 x3 x4 x5 s0 s2 : Int32} (c : ACtx D n gn f u b E G0) (e : ∀ i, i ≠ b → G i = G0 i) (n0 : ¬ s0 = 0) : ∃ (r : Int32) (G' : Nat → Nat → Int32), zden 120 365 [.ref 0, .int x1, .ref b, .int x3, .int x4, .int x5] [.int s0, .ref b, .int s2, .ref 0] (zSH ++ E, G) = some (some (.int r), (zSH ++ E, G')) ∧ ActR D n gn f u b G0 r G' := by
  rw [B_L_acts_365 c.2.2.1 c.2.2.2]
  obtain ⟨v, G1, z, e1⟩ := x_nextA (x := s0) c e n0
  rw [z, zaft_same]
  exact A_368 (x1 := x1) (x3 := x3) (x4 := x4) (x5 := x5) (s0 := v) (s1 := s2) c e1
theorem A_355 {x1 x3 x4 x5 s0 s2 : Int32} (c : ACtx D n gn f u b E G0) (e : ∀ i, i ≠ b → G i = G0 i) : ∃ (r : Int32) (G' : Nat → Nat → Int32), zden 120 355 [.ref 0, .int x1, .ref b, .int x3, .int x4, .int x5] [.int s0, .ref b, .int s2, .ref 0] (zSH ++ E, G) = some (some (.int r), (zSH ++ E, G')) ∧ ActR D n gn f u b G0 r G' := by
  rw [B_L_acts_355 c.2.2.1 c.2.2.2]
  by_cases q1 : ¬ s0 = 0
  · rw [if_pos q1]
    exact A_365 (x1 := x1) (x3 := x3) (x4 := x4) (x5 := x5) (s0 := 40) (s2 := s2) c e (by decide)
  · rw [if_neg q1]
    exact A_365 (x1 := x1) (x3 := x3) (x4 := x4) (x5 := x5) (s0 := 101) (s2 := s2) c e (by decide)
theorem A_348 {x1 x3 x4 x5 s0 : Int32} (c : ACtx D n gn f u b E G0) (e : ∀ i, i ≠ b → G i = G0 i) : ∃ (r : Int32) (G' : Nat → Nat → Int32), zden 120 348 [.ref 0, .int x1, .ref b, .int x3, .int x4, .int x5] [.int s0, .ref 0] (zSH ++ E, G) = some (some (.int r), (zSH ++ E, G')) ∧ ActR D n gn f u b G0 r G' := by
  rw [B_L_acts_348 c.2.2.1 c.2.2.2]
  obtain ⟨v, G1, z, e1⟩ := x_nextA (x := 12) c e (by decide)
  rw [z, zaft_same]
  exact A_355 (x1 := x1) (x3 := x3) (x4 := x4) (x5 := x5) (s0 := v) (s2 := s0) c e1
theorem A_345 {x1 x3 x4 x5 s0 : Int32} (c : ACtx D n gn f u b E G0) (e : ∀ i, i ≠ b → G i = G0 i) (n0 : ¬ s0 = 0) : ∃ (r : Int32) (G' : Nat → Nat → Int32), zden 120 345 [.ref 0, .int x1, .ref b, .int x3, .int x4, .int x5] [.int s0, .ref b, .ref 0] (zSH ++ E, G) = some (some (.int r), (zSH ++ E, G')) ∧ ActR D n gn f u b G0 r G' := by
  rw [B_L_acts_345 c.2.2.1 c.2.2.2]
  obtain ⟨v, G1, z, e1⟩ := x_nextA (x := s0) c e n0
  rw [z, zaft_same]
  exact A_348 (x1 := x1) (x3 := x3) (x4 := x4) (x5 := x5) (s0 := v) c e1
theorem A_337 {x1 x3 x4 x5 s0 : Int32} (c : ACtx D n gn f u b E G0) (e : ∀ i, i ≠ b → G i = G0 i) : ∃ (r : Int32) (G' : Nat → Nat → Int32), zden 120 337 [.ref 0, .int x1, .ref b, .int x3, .int x4, .int x5] [.int s0, .ref b, .ref 0] (zSH ++ E, G) = some (some (.int r), (zSH ++ E, G')) ∧ ActR D n gn f u b G0 r G' := by
  rw [B_L_acts_337 c.2.2.1 c.2.2.2]
  by_cases q1 : ¬ s0 = 0
  · rw [if_pos q1]
    exact A_345 (x1 := x1) (x3 := x3) (x4 := x4) (x5 := x5) (s0 := 3) c e (by decide)
  · rw [if_neg q1]
    exact A_345 (x1 := x1) (x3 := x3) (x4 := x4) (x5 := x5) (s0 := 4) c e (by decide)
theorem A_327 {x1 x3 x4 s0 : Int32} (c : ACtx D n gn f u b E G0) (e : ∀ i, i ≠ b → G i = G0 i) : ∃ (r : Int32) (G' : Nat → Nat → Int32), zden 120 327 [.ref 0, .int x1, .ref b, .int x3, .int x4, .retAddr 0] [.int s0] (zSH ++ E, G) = some (some (.int r), (zSH ++ E, G')) ∧ ActR D n gn f u b G0 r G' := by
  rw [B_L_acts_327 c.2.2.1 c.2.2.2]
  obtain ⟨v, G1, z, e1⟩ := x_nextA (x := 12) c e (by decide)
  rw [z, zaft_same]
  exact A_337 (x1 := x1) (x3 := x3) (x4 := x4) (x5 := s0) (s0 := v) c e1
theorem A_304 {x1 x3 x4 s0 : Int32} (c : ACtx D n gn f u b E G0) (e : ∀ i, i ≠ b → G i = G0 i) : ∃ (r : Int32) (G' : Nat → Nat → Int32), zden 120 304 [.ref 0, .int x1, .ref b, .int x3, .int x4, .retAddr 0] [.int s0] (zSH ++ E, G) = some (some (.int r), (zSH ++ E, G')) ∧ ActR D n gn f u b G0 r G' := by
  rw [B_L_acts_304 c.2.2.1 c.2.2.2]
  by_cases q1 : ¬ s0 = 0
  · rw [if_pos q1]
    obtain ⟨v, G1, z, e1⟩ := x_nextA (x := (if 1 < ((101 - x3) - x4) then (101 - x3) - x4 else 1)) c e max1
    rw [z, zaft_same]
    exact A_327 (x1 := x1) (x3 := x3) (x4 := x4) (s0 := v) c e1
  · rw [if_neg q1]
    exact A_327 (x1 := x1) (x3 := x3) (x4 := x4) (s0 := x4) c e
theorem A_297 {x1 x3 s0 : Int32} (c : ACtx D n gn f u b E G0) (e : ∀ i, i ≠ b → G i = G0 i) : ∃ (r : Int32) (G' : Nat → Nat → Int32), zden 120 297 [.ref 0, .int x1, .ref b, .int x3, .retAddr 0, .retAddr 0] [.int s0] (zSH ++ E, G) = some (some (.int r), (zSH ++ E, G')) ∧ ActR D n gn f u b G0 r G' := by
  rw [B_L_acts_297 c.2.2.1 c.2.2.2]
  obtain ⟨v, G1, z, e1⟩ := x_nextA (x := 4) c e (by decide)
  rw [z, zaft_same]
  exact A_304 (x1 := x1) (x3 := x3) (x4 := s0) (s0 := v) c e1
theorem A_282 {x1 x3 s0 : Int32} (c : ACtx D n gn f u b E G0) (e : ∀ i, i ≠ b → G i = G0 i) (n3 : ∃ k : Nat, k ≤ 100 ∧ x3 = nI k) : ∃ (r : Int32) (G' : Nat → Nat → Int32), zden 120 282 [.ref 0, .int x1, .ref b, .int x3, .retAddr 0, .retAddr 0] [.int s0] (zSH ++ E, G) = some (some (.int r), (zSH ++ E, G')) ∧ ActR D n gn f u b G0 r G' := by
  rw [B_L_acts_282 c.2.2.1 c.2.2.2]
  by_cases q1 : ¬ s0 = 0
  · rw [if_pos q1]
    obtain ⟨v, G1, z, e1⟩ := x_nextA (x := (102 - x3)) c e (by obtain ⟨k, k1, k2⟩ := n3; rw [k2, show (102 : Int32) = nI 102 by decide, pk_sub (by omega)]; exact nI_ne0 (by omega) (by omega))
    rw [z, zaft_same]
    exact A_297 (x1 := x1) (x3 := x3) (s0 := v) c e1
  · rw [if_neg q1]
    exact A_297 (x1 := x1) (x3 := x3) (s0 := x3) c e
theorem A_276 {x1 s0 : Int32} (c : ACtx D n gn f u b E G0) (e : ∀ i, i ≠ b → G i = G0 i) (n0 : ∃ k : Nat, k ≤ 100 ∧ s0 = nI k) : ∃ (r : Int32) (G' : Nat → Nat → Int32), zden 120 276 [.ref 0, .int x1, .ref b, .retAddr 0, .retAddr 0, .retAddr 0] [.int s0] (zSH ++ E, G) = some (some (.int r), (zSH ++ E, G')) ∧ ActR D n gn f u b G0 r G' := by
  rw [B_L_acts_276 c.2.2.1 c.2.2.2]
  obtain ⟨v, G1, z, e1⟩ := x_nextA (x := 4) c e (by decide)
  rw [z, zaft_same]
  exact A_282 (x1 := x1) (x3 := s0) (s0 := v) c e1 n0
theorem A_273 {x1 s0 : Int32} (c : ACtx D n gn f u b E G0) (e : ∀ i, i ≠ b → G i = G0 i) (n0 : s0 = 101 ∨ s0 = 51) : ∃ (r : Int32) (G' : Nat → Nat → Int32), zden 120 273 [.ref 0, .int x1, .ref b, .retAddr 0, .retAddr 0, .retAddr 0] [.int s0, .ref b] (zSH ++ E, G) = some (some (.int r), (zSH ++ E, G')) ∧ ActR D n gn f u b G0 r G' := by
  rw [B_L_acts_273 c.2.2.1 c.2.2.2]
  have hm : ∃ m : Nat, 0 < m ∧ m ≤ 101 ∧ s0 = nI m := by
    rcases n0 with z | z
    · exact ⟨101, by omega, by omega, z⟩
    · exact ⟨51, by omega, by omega, z⟩
  obtain ⟨m, m0, m1, m2⟩ := hm
  obtain ⟨v, G1, vm, z, e1⟩ := x_nextM c e m2 m0 (by omega)
  rw [z, zaft_same]
  exact A_276 (x1 := x1) (s0 := nI v) c e1 ⟨v, by omega, rfl⟩
theorem A_263 {x1 s0 : Int32} (c : ACtx D n gn f u b E G0) (e : ∀ i, i ≠ b → G i = G0 i) : ∃ (r : Int32) (G' : Nat → Nat → Int32), zden 120 263 [.ref 0, .int x1, .ref b, .retAddr 0, .retAddr 0, .retAddr 0] [.int s0, .ref b] (zSH ++ E, G) = some (some (.int r), (zSH ++ E, G')) ∧ ActR D n gn f u b G0 r G' := by
  rw [B_L_acts_263 c.2.2.1 c.2.2.2]
  by_cases q1 : ¬ s0 = 0
  · rw [if_pos q1]
    exact A_273 (x1 := x1) (s0 := 51) c e (.inr rfl)
  · rw [if_neg q1]
    exact A_273 (x1 := x1) (s0 := 101) c e (.inl rfl)
theorem A_257 {x1 : Int32} (c : ACtx D n gn f u b E G0) (e : ∀ i, i ≠ b → G i = G0 i) : ∃ (r : Int32) (G' : Nat → Nat → Int32), zden 120 257 [.ref 0, .int x1, .ref b, .retAddr 0, .retAddr 0, .retAddr 0] [] (zSH ++ E, G) = some (some (.int r), (zSH ++ E, G')) ∧ ActR D n gn f u b G0 r G' := by
  rw [B_L_acts_257 c.2.2.1 c.2.2.2]
  obtain ⟨v, G1, z, e1⟩ := x_nextA (x := 2) c e (by decide)
  rw [z, zaft_same]
  exact A_263 (x1 := x1) (s0 := v) c e1
theorem A_253 {x1 s0 : Int32} (c : ACtx D n gn f u b E G0) (e : ∀ i, i ≠ b → G i = G0 i) : ∃ (r : Int32) (G' : Nat → Nat → Int32), zden 120 253 [.ref 0, .int x1, .ref b, .retAddr 0, .retAddr 0, .retAddr 0] [.int s0, .ref 0] (zSH ++ E, G) = some (some (.int r), (zSH ++ E, G')) ∧ ActR D n gn f u b G0 r G' := by
  rw [B_L_acts_253 c.2.2.1 c.2.2.2]
  obtain ⟨r, G1, z, en⟩ := act_call (ch_strike (x1 := s0)) c e
  rw [z, zaft_same]
  exact ⟨r, G1, B_L_acts_256 c.2.2.1 c.2.2.2, en⟩
theorem A_247 {x1 : Int32} (c : ACtx D n gn f u b E G0) (e : ∀ i, i ≠ b → G i = G0 i) : ∃ (r : Int32) (G' : Nat → Nat → Int32), zden 120 247 [.ref 0, .int x1, .ref b, .retAddr 0, .retAddr 0, .retAddr 0] [] (zSH ++ E, G) = some (some (.int r), (zSH ++ E, G')) ∧ ActR D n gn f u b G0 r G' := by
  rw [B_L_acts_247 c.2.2.1 c.2.2.2]
  obtain ⟨v, G1, z, e1⟩ := x_someCodeA c e
  rw [z, zaft_same]
  exact A_253 (x1 := x1) (s0 := v) c e1
theorem A_243 {x1 s0 s1 s2 s3 s4 : Int32} (c : ACtx D n gn f u b E G0) (e : ∀ i, i ≠ b → G i = G0 i) : ∃ (r : Int32) (G' : Nat → Nat → Int32), zden 120 243 [.ref 0, .int x1, .ref b, .retAddr 0, .retAddr 0, .retAddr 0] [.int s0, .int s1, .int s2, .int s3, .int s4, .ref 0] (zSH ++ E, G) = some (some (.int r), (zSH ++ E, G')) ∧ ActR D n gn f u b G0 r G' := by
  rw [B_L_acts_243 c.2.2.1 c.2.2.2]
  obtain ⟨r, G1, z, en⟩ := act_call (ch_heading (x1 := s4) (x2 := s3) (x3 := s2) (x4 := s1) (x5 := s0)) c e
  rw [z, zaft_same]
  exact ⟨r, G1, B_L_acts_246 c.2.2.1 c.2.2.2, en⟩
theorem A_239 {x1 s0 s1 s2 s3 s4 : Int32} (c : ACtx D n gn f u b E G0) (e : ∀ i, i ≠ b → G i = G0 i) : ∃ (r : Int32) (G' : Nat → Nat → Int32), zden 120 239 [.ref 0, .int x1, .ref b, .retAddr 0, .retAddr 0, .retAddr 0] [.int s0, .int s1, .int s2, .int s3, .int s4, .ref 0] (zSH ++ E, G) = some (some (.int r), (zSH ++ E, G')) ∧ ActR D n gn f u b G0 r G' := by
  rw [B_L_acts_239 c.2.2.1 c.2.2.2]
  exact A_243 (x1 := x1) (s0 := s0) (s1 := s1) (s2 := s2) (s3 := s3) (s4 := s4) c e
theorem A_236 {x1 s0 s2 s3 s4 s5 : Int32} (c : ACtx D n gn f u b E G0) (e : ∀ i, i ≠ b → G i = G0 i) (n0 : ¬ s0 = 0) : ∃ (r : Int32) (G' : Nat → Nat → Int32), zden 120 236 [.ref 0, .int x1, .ref b, .retAddr 0, .retAddr 0, .retAddr 0] [.int s0, .ref b, .int s2, .int s3, .int s4, .int s5, .ref 0] (zSH ++ E, G) = some (some (.int r), (zSH ++ E, G')) ∧ ActR D n gn f u b G0 r G' := by
  rw [B_L_acts_236 c.2.2.1 c.2.2.2]
  obtain ⟨v, G1, z, e1⟩ := x_nextA (x := s0) c e n0
  rw [z, zaft_same]
  exact A_239 (x1 := x1) (s0 := v) (s1 := s2) (s2 := s3) (s3 := s4) (s4 := s5) c e1
theorem A_226 {x1 s0 s2 s3 s4 s5 : Int32} (c : ACtx D n gn f u b E G0) (e : ∀ i, i ≠ b → G i = G0 i) : ∃ (r : Int32) (G' : Nat → Nat → Int32), zden 120 226 [.ref 0, .int x1, .ref b, .retAddr 0, .retAddr 0, .retAddr 0] [.int s0, .ref b, .int s2, .int s3, .int s4, .int s5, .ref 0] (zSH ++ E, G) = some (some (.int r), (zSH ++ E, G')) ∧ ActR D n gn f u b G0 r G' := by
  rw [B_L_acts_226 c.2.2.1 c.2.2.2]
  by_cases q1 : ¬ s0 = 0
  · rw [if_pos q1]
    exact A_236 (x1 := x1) (s0 := 20) (s2 := s2) (s3 := s3) (s4 := s4) (s5 := s5) c e (by decide)
  · rw [if_neg q1]
    exact A_236 (x1 := x1) (s0 := 22) (s2 := s2) (s3 := s3) (s4 := s4) (s5 := s5) c e (by decide)
theorem A_216 {x1 s0 s1 s2 s3 s4 : Int32} (c : ACtx D n gn f u b E G0) (e : ∀ i, i ≠ b → G i = G0 i) : ∃ (r : Int32) (G' : Nat → Nat → Int32), zden 120 216 [.ref 0, .int x1, .ref b, .retAddr 0, .retAddr 0, .retAddr 0] [.int s0, .int s1, .int s2, .int s3, .int s4, .ref 0] (zSH ++ E, G) = some (some (.int r), (zSH ++ E, G')) ∧ ActR D n gn f u b G0 r G' := by
  rw [B_L_acts_216 c.2.2.1 c.2.2.2]
  by_cases q1 : ¬ s0 = 0
  · rw [if_pos q1]
    exact A_243 (x1 := x1) (s0 := 0) (s1 := s1) (s2 := s2) (s3 := s3) (s4 := s4) c e
  · rw [if_neg q1]
    obtain ⟨v, G1, z, e1⟩ := x_nextA (x := 12) c e (by decide)
    rw [z, zaft_same]
    exact A_226 (x1 := x1) (s0 := v) (s2 := s1) (s3 := s2) (s4 := s3) (s5 := s4) c e1
theorem A_211 {x1 s0 s1 s2 s3 : Int32} (c : ACtx D n gn f u b E G0) (e : ∀ i, i ≠ b → G i = G0 i) : ∃ (r : Int32) (G' : Nat → Nat → Int32), zden 120 211 [.ref 0, .int x1, .ref b, .retAddr 0, .retAddr 0, .retAddr 0] [.int s0, .int s1, .int s2, .int s3, .ref 0] (zSH ++ E, G) = some (some (.int r), (zSH ++ E, G')) ∧ ActR D n gn f u b G0 r G' := by
  rw [B_L_acts_211 c.2.2.1 c.2.2.2]
  obtain ⟨v, G1, z, e1⟩ := x_nextA (x := 3) c e (by decide)
  rw [z, zaft_same]
  exact A_216 (x1 := x1) (s0 := v) (s1 := s0) (s2 := s1) (s3 := s2) (s4 := s3) c e1
theorem A_208 {x1 s0 s2 s3 s4 : Int32} (c : ACtx D n gn f u b E G0) (e : ∀ i, i ≠ b → G i = G0 i) (n0 : ¬ s0 = 0) : ∃ (r : Int32) (G' : Nat → Nat → Int32), zden 120 208 [.ref 0, .int x1, .ref b, .retAddr 0, .retAddr 0, .retAddr 0] [.int s0, .ref b, .int s2, .int s3, .int s4, .ref 0] (zSH ++ E, G) = some (some (.int r), (zSH ++ E, G')) ∧ ActR D n gn f u b G0 r G' := by
  rw [B_L_acts_208 c.2.2.1 c.2.2.2]
  obtain ⟨v, G1, z, e1⟩ := x_nextA (x := s0) c e n0
  rw [z, zaft_same]
  exact A_211 (x1 := x1) (s0 := v) (s1 := s2) (s2 := s3) (s3 := s4) c e1
theorem A_198 {x1 s0 s2 s3 s4 : Int32} (c : ACtx D n gn f u b E G0) (e : ∀ i, i ≠ b → G i = G0 i) : ∃ (r : Int32) (G' : Nat → Nat → Int32), zden 120 198 [.ref 0, .int x1, .ref b, .retAddr 0, .retAddr 0, .retAddr 0] [.int s0, .ref b, .int s2, .int s3, .int s4, .ref 0] (zSH ++ E, G) = some (some (.int r), (zSH ++ E, G')) ∧ ActR D n gn f u b G0 r G' := by
  rw [B_L_acts_198 c.2.2.1 c.2.2.2]
  by_cases q1 : ¬ s0 = 0
  · rw [if_pos q1]
    exact A_208 (x1 := x1) (s0 := 61) (s2 := s2) (s3 := s3) (s4 := s4) c e (by decide)
  · rw [if_neg q1]
    exact A_208 (x1 := x1) (s0 := 64) (s2 := s2) (s3 := s3) (s4 := s4) c e (by decide)
theorem A_191 {x1 s0 s1 s2 : Int32} (c : ACtx D n gn f u b E G0) (e : ∀ i, i ≠ b → G i = G0 i) : ∃ (r : Int32) (G' : Nat → Nat → Int32), zden 120 191 [.ref 0, .int x1, .ref b, .retAddr 0, .retAddr 0, .retAddr 0] [.int s0, .int s1, .int s2, .ref 0] (zSH ++ E, G) = some (some (.int r), (zSH ++ E, G')) ∧ ActR D n gn f u b G0 r G' := by
  rw [B_L_acts_191 c.2.2.1 c.2.2.2]
  obtain ⟨v, G1, z, e1⟩ := x_nextA (x := 12) c e (by decide)
  rw [z, zaft_same]
  exact A_198 (x1 := x1) (s0 := v) (s2 := s0) (s3 := s1) (s4 := s2) c e1
theorem A_188 {x1 s0 s2 s3 : Int32} (c : ACtx D n gn f u b E G0) (e : ∀ i, i ≠ b → G i = G0 i) (n0 : ¬ s0 = 0) : ∃ (r : Int32) (G' : Nat → Nat → Int32), zden 120 188 [.ref 0, .int x1, .ref b, .retAddr 0, .retAddr 0, .retAddr 0] [.int s0, .ref b, .int s2, .int s3, .ref 0] (zSH ++ E, G) = some (some (.int r), (zSH ++ E, G')) ∧ ActR D n gn f u b G0 r G' := by
  rw [B_L_acts_188 c.2.2.1 c.2.2.2]
  obtain ⟨v, G1, z, e1⟩ := x_nextA (x := s0) c e n0
  rw [z, zaft_same]
  exact A_191 (x1 := x1) (s0 := v) (s1 := s2) (s2 := s3) c e1
theorem A_180 {x1 s0 s2 s3 : Int32} (c : ACtx D n gn f u b E G0) (e : ∀ i, i ≠ b → G i = G0 i) : ∃ (r : Int32) (G' : Nat → Nat → Int32), zden 120 180 [.ref 0, .int x1, .ref b, .retAddr 0, .retAddr 0, .retAddr 0] [.int s0, .ref b, .int s2, .int s3, .ref 0] (zSH ++ E, G) = some (some (.int r), (zSH ++ E, G')) ∧ ActR D n gn f u b G0 r G' := by
  rw [B_L_acts_180 c.2.2.1 c.2.2.2]
  by_cases q1 : ¬ s0 = 0
  · rw [if_pos q1]
    exact A_188 (x1 := x1) (s0 := 4) (s2 := s2) (s3 := s3) c e (by decide)
  · rw [if_neg q1]
    exact A_188 (x1 := x1) (s0 := 5) (s2 := s2) (s3 := s3) c e (by decide)
theorem A_173 {x1 s0 s1 : Int32} (c : ACtx D n gn f u b E G0) (e : ∀ i, i ≠ b → G i = G0 i) : ∃ (r : Int32) (G' : Nat → Nat → Int32), zden 120 173 [.ref 0, .int x1, .ref b, .retAddr 0, .retAddr 0, .retAddr 0] [.int s0, .int s1, .ref 0] (zSH ++ E, G) = some (some (.int r), (zSH ++ E, G')) ∧ ActR D n gn f u b G0 r G' := by
  rw [B_L_acts_173 c.2.2.1 c.2.2.2]
  obtain ⟨v, G1, z, e1⟩ := x_nextA (x := 12) c e (by decide)
  rw [z, zaft_same]
  exact A_180 (x1 := x1) (s0 := v) (s2 := s0) (s3 := s1) c e1
theorem A_170 {x1 s0 s2 : Int32} (c : ACtx D n gn f u b E G0) (e : ∀ i, i ≠ b → G i = G0 i) (n0 : ¬ s0 = 0) : ∃ (r : Int32) (G' : Nat → Nat → Int32), zden 120 170 [.ref 0, .int x1, .ref b, .retAddr 0, .retAddr 0, .retAddr 0] [.int s0, .ref b, .int s2, .ref 0] (zSH ++ E, G) = some (some (.int r), (zSH ++ E, G')) ∧ ActR D n gn f u b G0 r G' := by
  rw [B_L_acts_170 c.2.2.1 c.2.2.2]
  obtain ⟨v, G1, z, e1⟩ := x_nextA (x := s0) c e n0
  rw [z, zaft_same]
  exact A_173 (x1 := x1) (s0 := v) (s1 := s2) c e1
theorem A_161 {x1 s0 s2 : Int32} (c : ACtx D n gn f u b E G0) (e : ∀ i, i ≠ b → G i = G0 i) : ∃ (r : Int32) (G' : Nat → Nat → Int32), zden 120 161 [.ref 0, .int x1, .ref b, .retAddr 0, .retAddr 0, .retAddr 0] [.int s0, .ref b, .int s2, .ref 0] (zSH ++ E, G) = some (some (.int r), (zSH ++ E, G')) ∧ ActR D n gn f u b G0 r G' := by
  rw [B_L_acts_161 c.2.2.1 c.2.2.2]
  by_cases q1 : ¬ s0 = 0
  · rw [if_pos q1]
    exact A_170 (x1 := x1) (s0 := 5) (s2 := s2) c e (by decide)
  · rw [if_neg q1]
    exact A_170 (x1 := x1) (s0 := 6) (s2 := s2) c e (by decide)
theorem A_154 {x1 s0 : Int32} (c : ACtx D n gn f u b E G0) (e : ∀ i, i ≠ b → G i = G0 i) : ∃ (r : Int32) (G' : Nat → Nat → Int32), zden 120 154 [.ref 0, .int x1, .ref b, .retAddr 0, .retAddr 0, .retAddr 0] [.int s0, .ref 0] (zSH ++ E, G) = some (some (.int r), (zSH ++ E, G')) ∧ ActR D n gn f u b G0 r G' := by
  rw [B_L_acts_154 c.2.2.1 c.2.2.2]
  obtain ⟨v, G1, z, e1⟩ := x_nextA (x := 12) c e (by decide)
  rw [z, zaft_same]
  exact A_161 (x1 := x1) (s0 := v) (s2 := s0) c e1
theorem A_153 {x1 s0 s1 : Int32} (c : ACtx D n gn f u b E G0) (e : ∀ i, i ≠ b → G i = G0 i) : ∃ (r : Int32) (G' : Nat → Nat → Int32), zden 120 153 [.ref 0, .int x1, .ref b, .retAddr 0, .retAddr 0, .retAddr 0] [.int s0, .int s1, .ref 0] (zSH ++ E, G) = some (some (.int r), (zSH ++ E, G')) ∧ ActR D n gn f u b G0 r G' := by
  rw [B_L_acts_153 c.2.2.1 c.2.2.2]
  exact A_154 (x1 := x1) (s0 := (s1 + s0)) c e
theorem A_143 {x1 s0 : Int32} (c : ACtx D n gn f u b E G0) (e : ∀ i, i ≠ b → G i = G0 i) : ∃ (r : Int32) (G' : Nat → Nat → Int32), zden 120 143 [.ref 0, .int x1, .ref b, .retAddr 0, .retAddr 0, .retAddr 0] [.int s0, .ref 0] (zSH ++ E, G) = some (some (.int r), (zSH ++ E, G')) ∧ ActR D n gn f u b G0 r G' := by
  rw [B_L_acts_143 c.2.2.1 c.2.2.2]
  exact A_154 (x1 := x1) (s0 := s0) c e
theorem A_135 {x1 s0 : Int32} (c : ACtx D n gn f u b E G0) (e : ∀ i, i ≠ b → G i = G0 i) : ∃ (r : Int32) (G' : Nat → Nat → Int32), zden 120 135 [.ref 0, .int x1, .ref b, .retAddr 0, .retAddr 0, .retAddr 0] [.int s0, .ref 0] (zSH ++ E, G) = some (some (.int r), (zSH ++ E, G')) ∧ ActR D n gn f u b G0 r G' := by
  rw [B_L_acts_135 c.2.2.1 c.2.2.2]
  by_cases q1 : ¬ s0 = 0
  · rw [if_pos q1]
    obtain ⟨v, G1, z, e1⟩ := x_nextA (x := 98) c e (by decide)
    rw [z, zaft_same]
    exact A_153 (x1 := x1) (s0 := v) (s1 := 1) c e1
  · rw [if_neg q1]
    obtain ⟨v, G1, z, e1⟩ := x_someCodeA c e
    rw [z, zaft_same]
    exact A_143 (x1 := x1) (s0 := v) c e1
theorem A_128 {x1 : Int32} (c : ACtx D n gn f u b E G0) (e : ∀ i, i ≠ b → G i = G0 i) : ∃ (r : Int32) (G' : Nat → Nat → Int32), zden 120 128 [.ref 0, .int x1, .ref b, .retAddr 0, .retAddr 0, .retAddr 0] [] (zSH ++ E, G) = some (some (.int r), (zSH ++ E, G')) ∧ ActR D n gn f u b G0 r G' := by
  rw [B_L_acts_128 c.2.2.1 c.2.2.2]
  obtain ⟨v, G1, z, e1⟩ := x_nextA (x := 8) c e (by decide)
  rw [z, zaft_same]
  exact A_135 (x1 := x1) (s0 := v) c e1
theorem A_0 {x1 : Int32} (c : ACtx D n gn f u b E G0) (e : ∀ i, i ≠ b → G i = G0 i) : ∃ (r : Int32) (G' : Nat → Nat → Int32), zden 120 0 [.ref 0, .int x1, .ref b, .retAddr 0, .retAddr 0, .retAddr 0] [] (zSH ++ E, G) = some (some (.int r), (zSH ++ E, G')) ∧ ActR D n gn f u b G0 r G' := by
  rw [B_L_acts_0 c.2.2.1 c.2.2.2]
  by_cases q1 : (x1 - x1 / 30 * 30) = 0
  · rw [if_pos q1]
    exact A_128 (x1 := x1) c e
  · rw [if_neg q1]
    by_cases q2 : (x1 - x1 / 30 * 30) = 1
    · rw [if_pos q2]
      exact A_128 (x1 := x1) c e
    · rw [if_neg q2]
      by_cases q3 : (x1 - x1 / 30 * 30) = 2
      · rw [if_pos q3]
        exact A_128 (x1 := x1) c e
      · rw [if_neg q3]
        by_cases q4 : (x1 - x1 / 30 * 30) = 3
        · rw [if_pos q4]
          exact A_128 (x1 := x1) c e
        · rw [if_neg q4]
          by_cases q5 : (x1 - x1 / 30 * 30) = 4
          · rw [if_pos q5]
            exact A_128 (x1 := x1) c e
          · rw [if_neg q5]
            by_cases q6 : (x1 - x1 / 30 * 30) = 5
            · rw [if_pos q6]
              exact A_128 (x1 := x1) c e
            · rw [if_neg q6]
              by_cases q7 : (x1 - x1 / 30 * 30) = 6
              · rw [if_pos q7]
                exact A_247 (x1 := x1) c e
              · rw [if_neg q7]
                by_cases q8 : (x1 - x1 / 30 * 30) = 7
                · rw [if_pos q8]
                  exact A_257 (x1 := x1) c e
                · rw [if_neg q8]
                  by_cases q9 : (x1 - x1 / 30 * 30) = 8
                  · rw [if_pos q9]
                    exact A_257 (x1 := x1) c e
                  · rw [if_neg q9]
                    by_cases q10 : (x1 - x1 / 30 * 30) = 9
                    · rw [if_pos q10]
                      exact A_257 (x1 := x1) c e
                    · rw [if_neg q10]
                      by_cases q11 : (x1 - x1 / 30 * 30) = 10
                      · rw [if_pos q11]
                        exact A_257 (x1 := x1) c e
                      · rw [if_neg q11]
                        by_cases q12 : (x1 - x1 / 30 * 30) = 11
                        · rw [if_pos q12]
                          exact A_416 (x1 := x1) c e
                        · rw [if_neg q12]
                          by_cases q13 : (x1 - x1 / 30 * 30) = 12
                          · rw [if_pos q13]
                            exact A_416 (x1 := x1) c e
                          · rw [if_neg q13]
                            by_cases q14 : (x1 - x1 / 30 * 30) = 13
                            · rw [if_pos q14]
                              exact A_416 (x1 := x1) c e
                            · rw [if_neg q14]
                              by_cases q15 : (x1 - x1 / 30 * 30) = 14
                              · rw [if_pos q15]
                                exact A_416 (x1 := x1) c e
                              · rw [if_neg q15]
                                by_cases q16 : (x1 - x1 / 30 * 30) = 15
                                · rw [if_pos q16]
                                  exact A_416 (x1 := x1) c e
                                · rw [if_neg q16]
                                  by_cases q17 : (x1 - x1 / 30 * 30) = 16
                                  · rw [if_pos q17]
                                    exact A_416 (x1 := x1) c e
                                  · rw [if_neg q17]
                                    by_cases q18 : (x1 - x1 / 30 * 30) = 17
                                    · rw [if_pos q18]
                                      exact A_478 (x1 := x1) c e
                                    · rw [if_neg q18]
                                      by_cases q19 : (x1 - x1 / 30 * 30) = 18
                                      · rw [if_pos q19]
                                        exact A_478 (x1 := x1) c e
                                      · rw [if_neg q19]
                                        by_cases q20 : (x1 - x1 / 30 * 30) = 19
                                        · rw [if_pos q20]
                                          exact A_522 (x1 := x1) c e
                                        · rw [if_neg q20]
                                          by_cases q21 : (x1 - x1 / 30 * 30) = 20
                                          · rw [if_pos q21]
                                            exact A_522 (x1 := x1) c e
                                          · rw [if_neg q21]
                                            by_cases q22 : (x1 - x1 / 30 * 30) = 21
                                            · rw [if_pos q22]
                                              exact A_549 (x1 := x1) c e
                                            · rw [if_neg q22]
                                              by_cases q23 : (x1 - x1 / 30 * 30) = 22
                                              · rw [if_pos q23]
                                                exact A_549 (x1 := x1) c e
                                              · rw [if_neg q23]
                                                by_cases q24 : (x1 - x1 / 30 * 30) = 23
                                                · rw [if_pos q24]
                                                  exact A_549 (x1 := x1) c e
                                                · rw [if_neg q24]
                                                  by_cases q25 : (x1 - x1 / 30 * 30) = 24
                                                  · rw [if_pos q25]
                                                    exact A_549 (x1 := x1) c e
                                                  · rw [if_neg q25]
                                                    by_cases q26 : (x1 - x1 / 30 * 30) = 25
                                                    · rw [if_pos q26]
                                                      exact A_559 (x1 := x1) c e
                                                    · rw [if_neg q26]
                                                      by_cases q27 : (x1 - x1 / 30 * 30) = 26
                                                      · rw [if_pos q27]
                                                        exact A_559 (x1 := x1) c e
                                                      · rw [if_neg q27]
                                                        exact A_569 (x1 := x1) c e
end ZAc
