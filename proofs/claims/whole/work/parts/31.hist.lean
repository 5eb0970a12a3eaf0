-- 31: houses and rows laid over one another
theorem zin_nI {i n : Nat} (h : i < n) (hn : n < 2 ^ 31) : zin (nI i) n = true := zin_of hn (nI_pos (by omega)) (nI_ge h hn)
theorem nIlit_8 : (8 : Int32) = nI 8 := by decide
theorem nIlit_327 : (327 : Int32) = nI 327 := by decide
theorem nIlit_2289 : (2289 : Int32) = nI 2289 := by decide
theorem nIlit_1 : (1 : Int32) = nI 1 := by decide
theorem sm_lays_loop {ta fa : Nat} (ht : zSH[ta]? = some (.inr (.int, 327, []))) (hf : zSH[fa]? = some (.inr (.int, 327, []))) (hne : fa ≠ ta) : ∀ (d i : Nat) (G : Nat → Nat → Int32), i + d = 327 →
    ∃ G' : Nat → Nat → Int32, zden 108 2 [.ref ta, .ref fa, .int (nI i)] [] (zSH, G) = some (none, (zSH, G')) ∧ (∀ j, G' ta j = if i ≤ j ∧ j < 327 then G fa j else G ta j) ∧ ∀ r, r ≠ ta → G' r = G r := by
  intro d
  induction d with
  | zero =>
    intro i G hi
    have hi : i = 327 := by omega
    subst hi
    refine ⟨G, ?_, fun j => by rw [if_neg (by omega)], fun _ _ => rfl⟩
    rw [B_M_lays_2 ht hf (zlt_cell ht) (zlt_cell hf) (fun h => absurd (by rw [nIlit_327]; exact Int32.le_refl _) h), if_pos (by rw [nIlit_327]; exact Int32.le_refl _)]
  | succ d ih =>
    intro i G hi
    have hlt : i < 327 := by omega
    obtain ⟨G', g1, g2, g3⟩ := ih (i + 1) (zup G ta i (G fa i)) (by omega)
    refine ⟨G', ?_, fun j => ?_, fun r hr => by rw [g3 r hr, zup_ro hr]⟩
    · rw [B_M_lays_2 ht hf (zlt_cell ht) (zlt_cell hf) (fun _ => zin_nI hlt (by decide)), if_neg (by rw [nIlit_327]; exact nI_ge hlt (by decide)), nI_1, nI_clamp (by omega)]
      exact g1
    · rw [g2 j]
      by_cases h1 : i + 1 ≤ j ∧ j < 327
      · rw [if_pos h1, if_pos (by omega), zup_ro hne]
      · rw [if_neg h1]
        by_cases h2 : j = i
        · subst h2
          rw [if_pos (by omega), zup_rr]
        · rw [if_neg (by omega), zup_rk h2]
theorem sm_lays {ta fa : Nat} (ht : zSH[ta]? = some (.inr (.int, 327, []))) (hf : zSH[fa]? = some (.inr (.int, 327, []))) (hne : fa ≠ ta) (G : Nat → Nat → Int32) :
    ∃ G' : Nat → Nat → Int32, zden 108 0 [.ref ta, .ref fa, .retAddr 0] [] (zSH, G) = some (none, (zSH, G')) ∧ (∀ j, j < 327 → G' ta j = G fa j) ∧ ∀ r, r ≠ ta → G' r = G r := by
  obtain ⟨G', g1, g2, g3⟩ := sm_lays_loop ht hf hne 327 0 G rfl
  refine ⟨G', ?_, fun j hj => by rw [g2 j, if_pos ⟨Nat.zero_le _, hj⟩], g3⟩
  rw [B_M_lays_0 ht hf (zlt_cell ht) (zlt_cell hf)]
  exact g1
/-- the model begins a change -/
theorem sm_begins (G : Nat → Nat → Int32) : ∃ G' : Nat → Nat → Int32, zden 107 0 [.ref 90] [] (zSH, G) = some (none, (zSH, G')) ∧ G' 90 0 = 0 ∧ (∀ j, j ≠ 0 → G' 90 j = G 90 j) ∧ (∀ j, j < 327 → G' 92 j = G 91 j) ∧ ∀ r, r ≠ 90 → r ≠ 92 → G' r = G r := by
  obtain ⟨G', g1, g2, g3⟩ := sm_lays sh_92 sh_91 (by decide) (zup G 90 0 0)
  refine ⟨G', ?_, ?_, fun j hj => ?_, fun j hj => ?_, fun r h1 h2 => ?_⟩
  · rw [B_M_begins_0, g1, zaft_same]
    exact B_M_begins_16
  · rw [g3 90 (by decide), zup_rr]
  · rw [g3 90 (by decide), zup_rk hj]
  · rw [g2 j hj, zup_ro (by decide)]
  · rw [g3 r h2, zup_ro h1]
theorem sm_ends_fail {G : Nat → Nat → Int32} {x : Int32} (hc : G 90 0 ≠ 0) : ∃ G' : Nat → Nat → Int32, zden 115 0 [.ref 90, .int x, .retAddr 0] [] (zSH, G) = some (some (.int (G 90 0)), (zSH, G')) ∧ (∀ j, j < 327 → G' 91 j = G 92 j) ∧ ∀ r, r ≠ 91 → G' r = G r := by
  obtain ⟨G', g1, g2, g3⟩ := sm_lays sh_91 sh_92 (by decide) G
  refine ⟨G', ?_, g2, g3⟩
  rw [B_M_ends_0, if_neg hc, g1, zaft_same]
  show zden 115 18 _ [] _ = _
  rw [B_M_ends_18, g3 90 (by decide)]
theorem sm_ends_copy {x : Int32} {u : Nat} (hu : u < 8) : ∀ (d i : Nat) (G : Nat → Nat → Int32), i + d = 327 → G 90 1 = nI u →
    ∃ G' : Nat → Nat → Int32, zden 115 75 [.ref 90, .int x, .int (nI i)] [] (zSH, G) = some (some (.int x), (zSH, G')) ∧ G' 90 1 = nI (u + 1) ∧ (∀ j, j ≠ 1 → G' 90 j = G 90 j) ∧ (∀ j, G' 94 j = if 327 * u + i ≤ j ∧ j < 327 * u + 327 then G 92 (j - 327 * u) else G 94 j) ∧ ∀ r, r ≠ 90 → r ≠ 94 → G' r = G r := by
  intro d
  induction d with
  | zero =>
    intro i G hi hu1
    have hi : i = 327 := by omega
    subst hi
    have hb : (327 : Int32) ≤ nI 327 := by rw [nIlit_327]; exact Int32.le_refl _
    refine ⟨zup G 90 1 (G 90 1 + 1), ?_, ?_, fun j hj => zup_rk hj, fun j => ?_, fun r h1 h2 => zup_ro h1⟩
    · rw [B_M_ends_75 (fun h => absurd hb h) (fun h => absurd hb h), if_pos hb]
    · rw [zup_rr, hu1, nI_1]
    · rw [if_neg (by omega), zup_ro (by decide)]
  | succ d ih =>
    intro i G hi hu1
    have hlt : i < 327 := by omega
    have e1 : G 90 1 * 327 + nI i = nI (327 * u + i) := by rw [hu1, nIlit_327, pk_mul, nI_add, Nat.mul_comm]
    obtain ⟨G', g1, g2, g3, g4, g5⟩ := ih (i + 1) (zup G 94 (327 * u + i) (G 92 i)) (by omega) (by rw [zup_ro (by decide)]; exact hu1)
    refine ⟨G', ?_, g2, fun j hj => by rw [g3 j hj, zup_ro (by decide)], fun j => ?_, fun r h1 h2 => by rw [g5 r h1 h2, zup_ro h2]⟩
    · rw [B_M_ends_75 (fun _ => zin_nI hlt (by decide)) (fun _ => by rw [e1]; exact zin_nI (by omega) (by decide)), if_neg (by rw [nIlit_327]; exact nI_ge hlt (by decide)), e1, nI_1, nI_clamp (by omega), nI_clamp (by omega)]
      exact g1
    · rw [g4 j]
      by_cases h1 : 327 * u + (i + 1) ≤ j ∧ j < 327 * u + 327
      · rw [if_pos h1, if_pos (by omega), zup_ro (by decide)]
      · rw [if_neg h1]
        by_cases h2 : j = 327 * u + i
        · subst h2
          rw [if_pos (by omega), zup_rr, show 327 * u + i - 327 * u = i by omega]
        · rw [if_neg (by omega), zup_rk h2]
theorem sm_ends_shift {x : Int32} : ∀ (d i : Nat) (G : Nat → Nat → Int32), i + d = 2289 →
    ∃ G' : Nat → Nat → Int32, zden 115 34 [.ref 90, .int x, .int (nI i)] [] (zSH, G) = zden 115 73 [.ref 90, .int x, .int (nI 2289)] [] (zSH, zup G' 90 1 (G' 90 1 - 1)) ∧ (∀ j, G' 94 j = if i ≤ j ∧ j < 2289 then G 94 (j + 327) else G 94 j) ∧ ∀ r, r ≠ 94 → G' r = G r := by
  intro d
  induction d with
  | zero =>
    intro i G hi
    have hi : i = 2289 := by omega
    subst hi
    have hb : (2289 : Int32) ≤ nI 2289 := by rw [nIlit_2289]; exact Int32.le_refl _
    refine ⟨G, ?_, fun j => by rw [if_neg (by omega)], fun _ _ => rfl⟩
    rw [B_M_ends_34 (fun h => absurd hb h) (fun h => absurd hb h), if_pos hb]
  | succ d ih =>
    intro i G hi
    have hlt : i < 2289 := by omega
    have e1 : nI i + 327 = nI (i + 327) := by rw [nIlit_327, nI_add]
    obtain ⟨G', g1, g2, g3⟩ := ih (i + 1) (zup G 94 i (G 94 (i + 327))) (by omega)
    refine ⟨G', ?_, fun j => ?_, fun r hr => by rw [g3 r hr, zup_ro hr]⟩
    · rw [B_M_ends_34 (fun _ => by rw [e1]; exact zin_nI (by omega) (by decide)) (fun _ => zin_nI (by omega) (by decide)), if_neg (by rw [nIlit_2289]; exact nI_ge hlt (by decide)), e1, nI_1, nI_clamp (by omega), nI_clamp (by omega)]
      exact g1
    · rw [g2 j]
      by_cases h1 : i + 1 ≤ j ∧ j < 2289
      · rw [if_pos h1, if_pos (by omega), zup_rk (by omega)]
      · rw [if_neg h1]
        by_cases h2 : j = i
        · subst h2
          rw [if_pos (by omega), zup_rr]
        · rw [if_neg (by omega), zup_rk h2]
/-- the model keeps a change -/
theorem sm_ends_ok {G : Nat → Nat → Int32} {x : Int32} {u : Nat} (hc : G 90 0 = 0) (hu : u ≤ 8) (h1 : G 90 1 = nI u) : ∃ (G' : Nat → Nat → Int32) (u' : Nat), zden 115 0 [.ref 90, .int x, .retAddr 0] [] (zSH, G) = some (some (.int x), (zSH, G')) ∧
    u' < 8 ∧ (u' = if u = 8 then 7 else u) ∧ G' 90 1 = nI (u' + 1) ∧ (∀ j, j ≠ 1 → G' 90 j = G 90 j) ∧ (∀ t j, t < u' → j < 327 → G' 94 (327 * t + j) = G 94 (327 * (t + (u - u')) + j)) ∧ (∀ j, j < 327 → G' 94 (327 * u' + j) = G 92 j) ∧ ∀ r, r ≠ 90 → r ≠ 94 → G' r = G r := by
  by_cases h8 : u = 8
  · subst h8
    obtain ⟨Ga, a1, a2, a3⟩ := sm_ends_shift (x := x) 2289 0 G rfl
    have b90 : Ga 90 = G 90 := a3 90 (by decide)
    have b1 : Ga 90 1 = nI 8 := by rw [b90]; exact h1
    obtain ⟨G', g1, g2, g3, g4, g5⟩ := sm_ends_copy (x := x) (u := 7) (by decide) 327 0 (zup Ga 90 1 (Ga 90 1 - 1)) rfl (by rw [zup_rr, b1, nIlit_1, pk_sub (by decide)])
    refine ⟨G', 7, ?_, by decide, rfl, g2, fun j hj => by rw [g3 j hj, zup_rk hj, b90], fun t j ht hj => ?_, fun j hj => ?_, fun r r1 r2 => by rw [g5 r r1 r2, zup_ro r1, a3 r r2]⟩
    · rw [B_M_ends_0, if_pos hc, if_neg (by rw [h1, nIlit_8]; exact fun q => q rfl)]
      show zden 115 34 [.ref 90, .int x, .int (nI 0)] [] (zSH, G) = _
      rw [a1, B_M_ends_73]
      exact g1
    · rw [g4, if_neg (by omega), zup_ro (by decide), a2, if_pos (by omega)]
      exact congrArg _ (by omega)
    · rw [g4, if_pos (by omega), zup_ro (by decide), a3 92 (by decide)]
      exact congrArg _ (by omega)
  · have hlt : u < 8 := by omega
    obtain ⟨G', g1, g2, g3, g4, g5⟩ := sm_ends_copy (x := x) hlt 327 0 G rfl h1
    refine ⟨G', u, ?_, hlt, by rw [if_neg h8], g2, g3, fun t j ht hj => ?_, fun j hj => ?_, g5⟩
    · rw [B_M_ends_0, if_pos hc, if_pos (by rw [h1, nIlit_8]; exact fun q => h8 ((nI_eq (by omega) (by omega)).mp q)), B_M_ends_73]
      exact g1
    · rw [g4, if_neg (by omega), Nat.sub_self, Nat.add_zero]
    · rw [g4, if_pos (by omega)]
      exact congrArg _ (by omega)
