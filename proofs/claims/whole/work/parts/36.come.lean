-- 36: a good that comes
theorem zR5.of {a b k : Nat} (h1 : a ≤ k) (h2 : k ≤ b) : zR5 a b (nI k) := ⟨k, h1, h2, rfl⟩
theorem nIlit_4 : (4 : Int32) = nI 4 := by decide
theorem nIlit_22 : (22 : Int32) = nI 22 := by decide
theorem nIlit_100 : (100 : Int32) = nI 100 := by decide
theorem sc_chief {G : Nat → Nat → Int32} {g : Nat} (w : zWT G) (hg : g < 12) : ∀ (d f c : Nat), f + d = 4 → c ≤ 3 →
    zden 5 4 [.ref 1, .int (nI g), .int (nI c), .int (nI f)] [] (zSH, G) = some (some (.int (chiefF (fun j => G 6 (23 * g + 9 + j)) d f (nI c))), (zSH, G)) := by
  intro d
  induction d with
  | zero =>
    intro f c h hc
    rw [B_Cl_chiefFibre_4, if_pos (by rw [nIlit_4]; exact nI_le (by omega) (by omega))]
    rfl
  | succ d ih =>
    intro f c h hc
    have ef : (9 : Int32) + nI f = nI (9 + f) := by rw [nIlit_9, nI_add]
    have ec : (9 : Int32) + nI c = nI (9 + c) := by rw [nIlit_9, nI_add]
    rw [B_Cl_chiefFibre_4, if_neg (by rw [nIlit_4]; exact nI_ge (by omega) (by decide)), gd_get w rfl ef hg (by omega), gd_get w rfl ec hg (by omega), ← Nat.add_assoc, ← Nat.add_assoc]
    unfold chiefF
    rw [nI_clamp (by omega)]
    by_cases hq : G 6 (23 * g + 9 + f) < G 6 (23 * g + 9 + c)
    · rw [if_pos hq, if_neg (by rw [Int32.not_le]; exact hq), B_Cl_chiefFibre_44, nI_1]
      exact ih (f + 1) c (by omega) hc
    · rw [if_neg hq, if_pos (by rw [← Int32.not_lt]; exact hq), B_Cl_chiefFibre_44, nI_1]
      exact ih (f + 1) f (by omega) (by omega)
theorem sm_zero {x1 x2 x3 x4 x5 x6 : Int32} {g : Nat} (hg : g < 12) : ∀ (d j : Nat) (H : Nat → Nat → Int32), j + d = 22 →
    ∃ H' : Nat → Nat → Int32, zden 127 112 [.ref 90, .int x1, .int x2, .int x3, .int x4, .int x5, .int x6, .int (nI g), .int (nI j)] [] (zSH, H) = zden 127 112 [.ref 90, .int x1, .int x2, .int x3, .int x4, .int x5, .int x6, .int (nI g), .int (nI 22)] [] (zSH, H') ∧
      (∀ k, H' 91 k = if 63 + 22 * g + j ≤ k ∧ k < 85 + 22 * g then 0 else H 91 k) ∧ ∀ r, r ≠ 91 → H' r = H r := by
  intro d
  induction d with
  | zero =>
    intro j H h
    have h : j = 22 := by omega
    subst h
    exact ⟨H, rfl, fun k => by rw [if_neg (by omega)], fun _ _ => rfl⟩
  | succ d ih =>
    intro j H h
    have hn : ¬ (22 : Int32) ≤ nI j := by rw [nIlit_22]; exact nI_ge (by omega) (by decide)
    obtain ⟨H', g1, g2, g3⟩ := ih (j + 1) (zup H 91 (63 + 22 * g + j) 0) (by omega)
    refine ⟨H', ?_, fun k => ?_, fun r hr => by rw [g3 r hr, zup_ro hr]⟩
    · rw [B_M_comes_112 (fun q => absurd q hn) (fun q => absurd q hn) (fun q => absurd q hn) (fun q => absurd q hn) (fun q => absurd q hn) (fun q => absurd q hn) (fun q => absurd q hn) (fun q => absurd q hn) (fun _ => mzin rfl hg (by omega)), if_neg hn, mcl rfl hg (by omega), nI_1]
      exact g1
    · rw [g2 k]
      by_cases h1 : 63 + 22 * g + (j + 1) ≤ k ∧ k < 85 + 22 * g
      · rw [if_pos h1, if_pos (by omega)]
      · rw [if_neg h1]
        by_cases h2 : k = 63 + 22 * g + j
        · rw [if_pos (by omega), h2, zup_rr]
        · rw [if_neg (by omega), zup_rk h2]
theorem sc_row {G : Nat → Nat → Int32} {g : Nat} {x1 x2 x3 x4 x5 x6 : Int32} (w : zWT G) (hg : g < 12) :
    ∃ X : Nat → Nat → Int32, (tset (tset (tset (tset (tset (tset (tset (tset (tset G 5 6 276 (nI g) 0 x1) 5 6 276 (nI g) 1 x2) 5 6 276 (nI g) 2 x3) 5 6 276 (nI g) 3 0) 5 6 276 (nI g) 7 (-15)) 5 6 276 (nI g) 9 x4) 5 6 276 (nI g) 10 x5) 5 6 276 (nI g) 11 x6) 5 6 276 (nI g) 12 (((100 - x4) - x5) - x6)) = X ∧ zWT X ∧ (∀ i, i ≠ 6 → X i = G i) ∧ X 6 (23 * g + 0) = x1 ∧ X 6 (23 * g + 1) = x2 ∧ X 6 (23 * g + 2) = x3 ∧ X 6 (23 * g + 3) = 0 ∧ X 6 (23 * g + 7) = (-15) ∧ X 6 (23 * g + 9) = x4 ∧ X 6 (23 * g + 10) = x5 ∧ X 6 (23 * g + 11) = x6 ∧ X 6 (23 * g + 12) = (((100 - x4) - x5) - x6) ∧ (∀ k, k ≠ 23 * g + 0 → k ≠ 23 * g + 1 → k ≠ 23 * g + 2 → k ≠ 23 * g + 3 → k ≠ 23 * g + 7 → k ≠ 23 * g + 9 → k ≠ 23 * g + 10 → k ≠ 23 * g + 11 → k ≠ 23 * g + 12 → X 6 k = G 6 k) := by
  have s : ∀ (X : Nat → Nat → Int32) (col : Int32) (j : Nat) (x : Int32), zWT X → col = nI j → j < 23 → tset X 5 6 276 (nI g) col x = zup X 6 (23 * g + j) x := fun X col j x hX hc hj => gd_set hX rfl hc hg hj
  have wz : ∀ (X : Nat → Nat → Int32) (k : Nat) (x : Int32), zWT X → zWT (zup X 6 k x) := fun X k x hX => hX.zup (by decide) (by decide) (by decide)
  have w0 := wz _ (23 * g + 0) x1 w
  have w1 := wz _ (23 * g + 1) x2 w0
  have w2 := wz _ (23 * g + 2) x3 w1
  have w3 := wz _ (23 * g + 3) 0 w2
  have w4 := wz _ (23 * g + 7) (-15) w3
  have w5 := wz _ (23 * g + 9) x4 w4
  have w6 := wz _ (23 * g + 10) x5 w5
  have w7 := wz _ (23 * g + 11) x6 w6
  have w8 := wz _ (23 * g + 12) (((100 - x4) - x5) - x6) w7
  refine ⟨(zup (zup (zup (zup (zup (zup (zup (zup (zup G 6 (23 * g + 0) x1) 6 (23 * g + 1) x2) 6 (23 * g + 2) x3) 6 (23 * g + 3) 0) 6 (23 * g + 7) (-15)) 6 (23 * g + 9) x4) 6 (23 * g + 10) x5) 6 (23 * g + 11) x6) 6 (23 * g + 12) (((100 - x4) - x5) - x6)), ?_, w8, fun i hi => by simp only [zup_ro hi], by simp (disch := omega) only [zup_rk, zup_rr], by simp (disch := omega) only [zup_rk, zup_rr], by simp (disch := omega) only [zup_rk, zup_rr], by simp (disch := omega) only [zup_rk, zup_rr], by simp (disch := omega) only [zup_rk, zup_rr], by simp (disch := omega) only [zup_rk, zup_rr], by simp (disch := omega) only [zup_rk, zup_rr], by simp (disch := omega) only [zup_rk, zup_rr], by simp (disch := omega) only [zup_rk, zup_rr], fun k h0 h1 h2 h3 h4 h5 h6 h7 h8 => by simp only [zup_rk h0, zup_rk h1, zup_rk h2, zup_rk h3, zup_rk h4, zup_rk h5, zup_rk h6, zup_rk h7, zup_rk h8]⟩
  rw [s _ 0 0 _ w (by decide) (by decide), s _ 1 1 _ w0 (by decide) (by decide), s _ 2 2 _ w1 (by decide) (by decide), s _ 3 3 _ w2 (by decide) (by decide), s _ 7 7 _ w3 (by decide) (by decide), s _ 9 9 _ w4 (by decide) (by decide), s _ 10 10 _ w5 (by decide) (by decide), s _ 11 11 _ w6 (by decide) (by decide), s _ 12 12 _ w7 (by decide) (by decide)]
