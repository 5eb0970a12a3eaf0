-- 69: lines
/-- the heaps G, H but for the lines, of m signs, which are the same -/
def zLt (m : Nat) (G H G0 H0 : Nat → Nat → Int32) : Prop := zLine m G H ∧ (∀ i, i ≠ 88 → i ≠ 89 → G i = G0 i) ∧ (∀ i, i ≠ 90 → i ≠ 96 → H i = H0 i) ∧ ∀ j, j ≠ 17 → H 90 j = H0 90 j
theorem lt_put {m k : Nat} {G H G0 H0 : Nat → Nat → Int32} (hm : m < 24) (hk : k < 65536) (h : zLt m G H G0 H0) :
    ∃ G' H' : Nat → Nat → Int32, zden 41 0 [.ref 88, .int (nI k)] [] (zSH, G) = some (none, (zSH, G')) ∧ zden 169 0 [.ref 90, .int (nI k)] [] (zSH, H) = some (none, (zSH, H')) ∧ zLt (m + 1) G' H' G0 H0 := by
  obtain ⟨⟨_, g1, h1, hj⟩, f1, f2, f3⟩ := h
  refine ⟨zup (zup G 89 m (nI k)) 88 1 (nI (m + 1)), zup (zup H 96 m (nI k)) 90 17 (nI (m + 1)), ?_, ?_, ⟨by omega, zup_rr, zup_rr, fun j j1 => ?_⟩, fun i i1 i2 => by rw [zup_ro i1, zup_ro i2, f1 i i1 i2], fun i i1 i2 => by rw [zup_ro i1, zup_ro i2, f2 i i1 i2], fun j j1 => by rw [zup_rk j1, zup_ro (by decide), f3 j j1]⟩
  · have e : zup G 89 (G 88 1).toNatClampNeg (vp_nar .char (nI k)) = zup G 89 m (nI k) := by rw [g1, nI_clamp (by omega), chV hk]
    have e2 : (zup G 89 m (nI k)) 88 1 + 1 = nI (m + 1) := by rw [zup_ro (by decide), g1, nI_1]
    have l : (24 : Int32) = nI 24 := by decide
    rw [B_Li_put_0 (fun _ _ => by rw [g1]; exact zin_nI hm (by decide)), if_neg (by rw [g1]; exact nI_pos (by omega)), if_neg (by rw [g1, l]; exact nI_ge hm (by decide)), e, e2]
  · have e : zup H 96 (H 90 17).toNatClampNeg (nI k) = zup H 96 m (nI k) := by rw [h1, nI_clamp (by omega)]
    have e2 : (zup H 96 m (nI k)) 90 17 + 1 = nI (m + 1) := by rw [zup_ro (by decide), h1, nI_1]
    rw [B_M_writes_0 (by rw [h1]; exact zin_nI (by omega) (by decide)), e, e2]
  · rw [zup_ro (show 89 ≠ 88 by decide), zup_ro (show 96 ≠ 90 by decide)]
    by_cases ej : j = m
    · subst ej; rw [zup_rr, zup_rr]
    · rw [zup_rk ej, zup_rk ej]; exact hj j (by omega)
theorem nI_rem10 {k : Nat} (hk : k < 2 ^ 31) : nI k - nI k / 10 * 10 = nI (k % 10) := by rw [nIlit_10]; exact pk_rem hk (by decide) (by decide)
theorem nI_div10 {k : Nat} (hk : k < 2 ^ 31) : nI k / 10 = nI (k / 10) := by rw [nIlit_10]; exact pk_div hk (by decide) (by decide)
theorem nI_div100 {k : Nat} (hk : k < 2 ^ 31) : nI k / 100 = nI (k / 100) := by rw [nIlit_100]; exact pk_div hk (by decide) (by decide)
theorem nIlit_48 : (48 : Int32) = nI 48 := by decide
theorem lt_num {m n : Nat} {G H G0 H0 : Nat → Nat → Int32} (hm : m + 3 ≤ 24) (hn : n ≤ 999) (h : zLt m G H G0 H0) :
    ∃ (G' H' : Nat → Nat → Int32) (m' : Nat), zden 40 0 [.ref 88, .int (nI n)] [] (zSH, G) = some (none, (zSH, G')) ∧ zden 168 0 [.ref 90, .int (nI n)] [] (zSH, H) = some (none, (zSH, H')) ∧ m' ≤ m + 3 ∧ zLt m' G' H' G0 H0 := by
  -- the last digit
  have last : ∀ {m : Nat} {G H : Nat → Nat → Int32}, m < 24 → zLt m G H G0 H0 → ∃ G' H' : Nat → Nat → Int32, zden 40 42 [.ref 88, .int (nI n)] [] (zSH, G) = some (none, (zSH, G')) ∧ zden 168 37 [.ref 90, .int (nI n)] [] (zSH, H) = some (none, (zSH, H')) ∧ zLt (m + 1) G' H' G0 H0 := by
    intro m G H hm h
    obtain ⟨G', H', q1, q2, q3⟩ := lt_put (k := 48 + n % 10) hm (by omega) h
    refine ⟨G', H', ?_, ?_, q3⟩
    · rw [B_Li_putNumber_42, nI_rem10 (by omega), nIlit_48, nI_add, chN (by omega), q1, zaft_same]
      exact B_Li_putNumber_54
    · rw [B_M_writesNumber_37, nI_rem10 (by omega), nIlit_48, nI_add, q2, zaft_same]
      exact B_M_writesNumber_48
  have two : ∀ {m : Nat} {G H : Nat → Nat → Int32}, m + 2 ≤ 24 → zLt m G H G0 H0 → ∃ (G' H' : Nat → Nat → Int32) (m' : Nat), zden 40 21 [.ref 88, .int (nI n)] [] (zSH, G) = some (none, (zSH, G')) ∧ zden 168 17 [.ref 90, .int (nI n)] [] (zSH, H) = some (none, (zSH, H')) ∧ m' ≤ m + 2 ∧ zLt m' G' H' G0 H0 := by
    intro m G H hm h
    by_cases c : n < 10
    · obtain ⟨G', H', q1, q2, q3⟩ := last (by omega) h
      refine ⟨G', H', m + 1, ?_, ?_, by omega, q3⟩
      · rw [B_Li_putNumber_21, if_pos (by rw [nIlit_10]; exact nI_lt c (by decide))]; exact q1
      · rw [B_M_writesNumber_17, if_pos (by rw [nIlit_10]; exact nI_lt c (by decide))]; exact q2
    · obtain ⟨G1, H1, p1, p2, p3⟩ := lt_put (k := 48 + n / 10 % 10) (show m < 24 by omega) (by omega) h
      obtain ⟨G', H', q1, q2, q3⟩ := last (by omega) p3
      refine ⟨G', H', m + 1 + 1, ?_, ?_, by omega, q3⟩
      · rw [B_Li_putNumber_21, if_neg (by rw [nIlit_10]; exact nI_nlt (by omega) (by omega)), nI_div10 (by omega), nI_rem10 (by omega), nIlit_48, nI_add, chN (by omega), p1, zaft_same]
        exact q1
      · rw [B_M_writesNumber_17, if_neg (by rw [nIlit_10]; exact nI_nlt (by omega) (by omega)), nI_div10 (by omega), nI_rem10 (by omega), nIlit_48, nI_add, p2, zaft_same]
        exact q2
  by_cases c : n < 100
  · obtain ⟨G', H', m', q1, q2, q3, q4⟩ := two (by omega) h
    refine ⟨G', H', m', ?_, ?_, by omega, q4⟩
    · rw [B_Li_putNumber_0, if_pos (by rw [nIlit_100]; exact nI_lt c (by decide))]; exact q1
    · rw [B_M_writesNumber_0, if_pos (by rw [nIlit_100]; exact nI_lt c (by decide))]; exact q2
  · obtain ⟨G1, H1, p1, p2, p3⟩ := lt_put (k := 48 + n / 100) (show m < 24 by omega) (by omega) h
    obtain ⟨G', H', m', q1, q2, q3, q4⟩ := two (by omega) p3
    refine ⟨G', H', m', ?_, ?_, by omega, q4⟩
    · rw [B_Li_putNumber_0, if_neg (by rw [nIlit_100]; exact nI_nlt (by omega) (by omega)), nI_div100 (by omega), nI_rem10 (by omega), show n / 100 % 10 = n / 100 by omega, nIlit_48, nI_add, chN (by omega), p1, zaft_same]
      exact q1
    · rw [B_M_writesNumber_0, if_neg (by rw [nIlit_100]; exact nI_nlt (by omega) (by omega)), nI_div100 (by omega), nIlit_48, nI_add, p2, zaft_same]
      exact q2
def fibN (f : Nat) : Nat := if f = 0 then 115 else if f = 1 then 119 else if f = 2 then 99 else if f = 3 then 108 else 42
def forN (f : Nat) : Nat := if f = 0 then 116 else if f = 1 then 99 else if f = 2 then 103 else 42
theorem sc_fib {G : Nat → Nat → Int32} {f : Nat} (hf : f ≤ 4) : zden 43 0 [.int (nI f)] [] (zSH, G) = some (some (.int (nI (fibN f))), (zSH, G)) := by
  rw [B_Li_fibreLetter_0]
  rcases (show f = 0 ∨ f = 1 ∨ f = 2 ∨ f = 3 ∨ f = 4 by omega) with rfl | rfl | rfl | rfl | rfl <;> rfl
theorem sc_for {G : Nat → Nat → Int32} {f : Nat} (hf : f ≤ 3) : zden 42 0 [.int (nI f)] [] (zSH, G) = some (some (.int (nI (forN f))), (zSH, G)) := by
  rw [B_Li_formLetter_0]
  rcases (show f = 0 ∨ f = 1 ∨ f = 2 ∨ f = 3 by omega) with rfl | rfl | rfl | rfl <;> rfl
theorem sm_fib {G H : Nat → Nat → Int32} (c : zCst G H) {f : Nat} (hf : f ≤ 4) : H 98 f = nI (fibN f) := by
  rw [c.2.2.2.1 f (by omega)]
  rcases (show f = 0 ∨ f = 1 ∨ f = 2 ∨ f = 3 ∨ f = 4 by omega) with rfl | rfl | rfl | rfl | rfl <;> rfl
theorem sm_for {G H : Nat → Nat → Int32} (c : zCst G H) {f : Nat} (hf : f ≤ 3) : H 99 f = nI (forN f) := by
  rw [c.2.2.2.2.1 f (by omega)]
  rcases (show f = 0 ∨ f = 1 ∨ f = 2 ∨ f = 3 by omega) with rfl | rfl | rfl | rfl <;> rfl
theorem fibN_lt {f : Nat} : fibN f < 65536 := by
  unfold fibN
  by_cases a : f = 0
  · rw [if_pos a]; omega
  · rw [if_neg a]
    by_cases b : f = 1
    · rw [if_pos b]; omega
    · rw [if_neg b]
      by_cases c : f = 2
      · rw [if_pos c]; omega
      · rw [if_neg c]
        by_cases d : f = 3
        · rw [if_pos d]; omega
        · rw [if_neg d]; omega
theorem forN_lt {f : Nat} : forN f < 65536 := by
  unfold forN
  by_cases a : f = 0
  · rw [if_pos a]; omega
  · rw [if_neg a]
    by_cases b : f = 1
    · rw [if_pos b]; omega
    · rw [if_neg b]
      by_cases c : f = 2
      · rw [if_pos c]; omega
      · rw [if_neg c]; omega
theorem zLt.wt {m : Nat} {G H G0 H0 : Nat → Nat → Int32} (h : zLt m G H G0 H0) (w : zWT G0) : zWT G := by
  obtain ⟨_, f1, _⟩ := h
  unfold zWT at w ⊢
  rw [f1 3 (by decide) (by decide), f1 5 (by decide) (by decide), f1 7 (by decide) (by decide)]
  exact w
theorem zLt.hr {m D : Nat} {G H G0 H0 : Nat → Nat → Int32} (h : zLt m G H G0 H0) (r : HRat D G0 2 (H0 91)) : HRat D G 2 (H 91) := by
  obtain ⟨_, f1, f2, _⟩ := h
  rw [f2 91 (by decide) (by decide)]
  exact HRat_same r (f1 _ (by decide) (by decide)) (f1 _ (by decide) (by decide)) (f1 _ (by decide) (by decide)) (f1 _ (by decide) (by decide)) (fun _ _ => rfl)
/-- after a line is written -/
theorem zLt.rel {m D f u a b : Nat} {G H G0 H0 : Nat → Nat → Int32} (h : zLt m G H G0 H0) (hR : zRel D f u a b G0 H0) : zRel D f u a m G H ∧ zFrm G0 G H0 H := by
  have hh := h
  obtain ⟨l, f1, f2, f3⟩ := h
  obtain ⟨h1, h2, h3, h4, h5, h6, h7⟩ := hR
  refine ⟨⟨?_, hh.hr h2, ?_, ?_, ?_, ?_, l⟩, fun i hi => f1 i (by omega) (by omega), fun i hi => f2 i (by omega) (by omega)⟩
  · exact h1.same (fun i hi => f1 i (by omega) (by omega)) (f1 82 (by omega) (by omega)) (f1 85 (by omega) (by omega)) (fun i q1 q2 => f2 i (by omega) (by omega))
  · exact zHist_same h3 (by rw [f1 9 (by decide) (by decide)]) (by rw [f1 9 (by decide) (by decide)]) (fun i _ _ => f1 i (by omega) (by omega)) (f3 1 (by decide)) (f2 94 (by decide) (by decide))
  · exact h4.same (f1 1 (by decide) (by decide)) (f3 2 (by decide)) (f3 3 (by decide))
  · exact zSaved_same h5 (by rw [f1 9 (by decide) (by decide)]) (fun i _ _ => f1 i (by omega) (by omega)) (f3 4 (by decide)) (f2 93 (by decide) (by decide))
  · exact h6.same (by rw [f1 84 (by decide) (by decide)]) (f1 87 (by decide) (by decide)) (f3 16 (by decide)) (f2 95 (by decide) (by decide))
theorem zLt.start {G H : Nat → Nat → Int32} : zLt 0 (zup G 88 1 0) (zup H 90 17 0) G H :=
  ⟨⟨by omega, zup_rr, zup_rr, fun j h => by omega⟩, fun i h _ => zup_ro h, fun i h _ => zup_ro h, fun j h => zup_rk h⟩
