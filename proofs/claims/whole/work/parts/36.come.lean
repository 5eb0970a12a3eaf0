-- 36: a good that comes
theorem zR5.of {a b k : Nat} (h1 : a ≤ k) (h2 : k ≤ b) : zR5 a b (nI k) := ⟨k, h1, h2, rfl⟩
theorem nIlit_4 : (4 : Int32) = nI 4 := by decide
theorem nIlit_22 : (22 : Int32) = nI 22 := by decide
theorem nIlit_100 : (100 : Int32) = nI 100 := by decide
theorem sc_chief {G : Nat → Nat → Int32} {g : Nat} (w : zWT G) (hg : g < 12) : ∀ (d f c : Nat), f + d = 4 → c ≤ 3 →
    zden 5 4 [.ref 1, .int (nI g), .int (nI c), .int (nI f)] [] (zSH, G) = some (some (.int (chiefF (fun j => G 6 (23 * g + 9 + j)) d f (nI c))), (zSH, G)) := by
  intro d
  induction d with
  | zero =>
    intro f c h hc
    rw [B_Cl_chiefFibre_4, if_pos (by rw [nIlit_4]; exact nI_le (by omega) (by omega))]
    rfl
  | succ d ih =>
    intro f c h hc
    have ef : (9 : Int32) + nI f = nI (9 + f) := by rw [nIlit_9, nI_add]
    have ec : (9 : Int32) + nI c = nI (9 + c) := by rw [nIlit_9, nI_add]
    rw [B_Cl_chiefFibre_4, if_neg (by rw [nIlit_4]; exact nI_ge (by omega) (by decide)), gd_get w rfl ef hg (by omega), gd_get w rfl ec hg (by omega), ← Nat.add_assoc, ← Nat.add_assoc]
    unfold chiefF
    rw [nI_clamp (by omega)]
    by_cases hq : G 6 (23 * g + 9 + f) < G 6 (23 * g + 9 + c)
    · rw [if_pos hq, if_neg (by rw [Int32.not_le]; exact hq), B_Cl_chiefFibre_44, nI_1]
      exact ih (f + 1) c (by omega) hc
    · rw [if_neg hq, if_pos (by rw [← Int32.not_lt]; exact hq), B_Cl_chiefFibre_44, nI_1]
      exact ih (f + 1) f (by omega) (by omega)
theorem sm_zero {x1 x2 x3 x4 x5 x6 : Int32} {g : Nat} (hg : g < 12) : ∀ (d j : Nat) (H : Nat → Nat → Int32), j + d = 22 →
    ∃ H' : Nat → Nat → Int32, zden 127 112 [.ref 90, .int x1, .int x2, .int x3, .int x4, .int x5, .int x6, .int (nI g), .int (nI j)] [] (zSH, H) = zden 127 112 [.ref 90, .int x1, .int x2, .int x3, .int x4, .int x5, .int x6, .int (nI g), .int (nI 22)] [] (zSH, H') ∧
      (∀ k, H' 91 k = if 63 + 22 * g + j ≤ k ∧ k < 85 + 22 * g then 0 else H 91 k) ∧ ∀ r, r ≠ 91 → H' r = H r := by
  intro d
  induction d with
  | zero =>
    intro j H h
    have h : j = 22 := by omega
    subst h
    exact ⟨H, rfl, fun k => by rw [if_neg (by omega)], fun _ _ => rfl⟩
  | succ d ih =>
    intro j H h
    have hn : ¬ (22 : Int32) ≤ nI j := by rw [nIlit_22]; exact nI_ge (by omega) (by decide)
    obtain ⟨H', g1, g2, g3⟩ := ih (j + 1) (zup H 91 (63 + 22 * g + j) 0) (by omega)
    refine ⟨H', ?_, fun k => ?_, fun r hr => by rw [g3 r hr, zup_ro hr]⟩
    · rw [B_M_comes_112 (fun q => absurd q hn) (fun q => absurd q hn) (fun q => absurd q hn) (fun q => absurd q hn) (fun q => absurd q hn) (fun q => absurd q hn) (fun q => absurd q hn) (fun q => absurd q hn) (fun _ => mzin rfl hg (by omega)), if_neg hn, mcl rfl hg (by omega), nI_1]
      exact g1
    · rw [g2 k]
      by_cases h1 : 63 + 22 * g + (j + 1) ≤ k ∧ k < 85 + 22 * g
      · rw [if_pos h1, if_pos (by omega)]
      · rw [if_neg h1]
        by_cases h2 : k = 63 + 22 * g + j
        · rw [if_pos (by omega), h2, zup_rr]
        · rw [if_neg (by omega), zup_rk h2]
theorem sc_row {G : Nat → Nat → Int32} {g : Nat} {x1 x2 x3 x4 x5 x6 : Int32} (w : zWT G) (hg : g < 12) :
    ∃ X : Nat → Nat → Int32, (tset (tset (tset (tset (tset (tset (tset (tset (tset G 5 6 276 (nI g) 0 x1) 5 6 276 (nI g) 1 x2) 5 6 276 (nI g) 2 x3) 5 6 276 (nI g) 3 0) 5 6 276 (nI g) 7 (-15)) 5 6 276 (nI g) 9 x4) 5 6 276 (nI g) 10 x5) 5 6 276 (nI g) 11 x6) 5 6 276 (nI g) 12 (((100 - x4) - x5) - x6)) = X ∧ zWT X ∧ (∀ i, i ≠ 6 → X i = G i) ∧ X 6 (23 * g + 0) = x1 ∧ X 6 (23 * g + 1) = x2 ∧ X 6 (23 * g + 2) = x3 ∧ X 6 (23 * g + 3) = 0 ∧ X 6 (23 * g + 7) = (-15) ∧ X 6 (23 * g + 9) = x4 ∧ X 6 (23 * g + 10) = x5 ∧ X 6 (23 * g + 11) = x6 ∧ X 6 (23 * g + 12) = (((100 - x4) - x5) - x6) ∧ (∀ k, k ≠ 23 * g + 0 → k ≠ 23 * g + 1 → k ≠ 23 * g + 2 → k ≠ 23 * g + 3 → k ≠ 23 * g + 7 → k ≠ 23 * g + 9 → k ≠ 23 * g + 10 → k ≠ 23 * g + 11 → k ≠ 23 * g + 12 → X 6 k = G 6 k) := by
  have s : ∀ (X : Nat → Nat → Int32) (col : Int32) (j : Nat) (x : Int32), zWT X → col = nI j → j < 23 → tset X 5 6 276 (nI g) col x = zup X 6 (23 * g + j) x := fun X col j x hX hc hj => gd_set hX rfl hc hg hj
  have wz : ∀ (X : Nat → Nat → Int32) (k : Nat) (x : Int32), zWT X → zWT (zup X 6 k x) := fun X k x hX => hX.zup (by decide) (by decide) (by decide)
  have w0 := wz _ (23 * g + 0) x1 w
  have w1 := wz _ (23 * g + 1) x2 w0
  have w2 := wz _ (23 * g + 2) x3 w1
  have w3 := wz _ (23 * g + 3) 0 w2
  have w4 := wz _ (23 * g + 7) (-15) w3
  have w5 := wz _ (23 * g + 9) x4 w4
  have w6 := wz _ (23 * g + 10) x5 w5
  have w7 := wz _ (23 * g + 11) x6 w6
  have w8 := wz _ (23 * g + 12) (((100 - x4) - x5) - x6) w7
  refine ⟨(zup (zup (zup (zup (zup (zup (zup (zup (zup G 6 (23 * g + 0) x1) 6 (23 * g + 1) x2) 6 (23 * g + 2) x3) 6 (23 * g + 3) 0) 6 (23 * g + 7) (-15)) 6 (23 * g + 9) x4) 6 (23 * g + 10) x5) 6 (23 * g + 11) x6) 6 (23 * g + 12) (((100 - x4) - x5) - x6)), ?_, w8, fun i hi => by simp only [zup_ro hi], by simp (disch := omega) only [zup_rk, zup_rr], by simp (disch := omega) only [zup_rk, zup_rr], by simp (disch := omega) only [zup_rk, zup_rr], by simp (disch := omega) only [zup_rk, zup_rr], by simp (disch := omega) only [zup_rk, zup_rr], by simp (disch := omega) only [zup_rk, zup_rr], by simp (disch := omega) only [zup_rk, zup_rr], by simp (disch := omega) only [zup_rk, zup_rr], by simp (disch := omega) only [zup_rk, zup_rr], fun k h0 h1 h2 h3 h4 h5 h6 h7 h8 => by simp only [zup_rk h0, zup_rk h1, zup_rk h2, zup_rk h3, zup_rk h4, zup_rk h5, zup_rk h6, zup_rk h7, zup_rk h8]⟩
  rw [s _ 0 0 _ w (by decide) (by decide), s _ 1 1 _ w0 (by decide) (by decide), s _ 2 2 _ w1 (by decide) (by decide), s _ 3 3 _ w2 (by decide) (by decide), s _ 7 7 _ w3 (by decide) (by decide), s _ 9 9 _ w4 (by decide) (by decide), s _ 10 10 _ w5 (by decide) (by decide), s _ 11 11 _ w6 (by decide) (by decide), s _ 12 12 _ w7 (by decide) (by decide)]
theorem HRg.new {B v : Nat → Int32} {g f k c s w t : Nat} (hf : f ≤ 2) (hk1 : 1 ≤ k) (hk2 : k ≤ 99) (hc1 : 1 ≤ c) (hc2 : c ≤ 999) (hs : s + w + t ≤ 100)
    (b0 : B (23 * g) = nI f) (b1 : B (23 * g + 1) = nI k) (b2 : B (23 * g + 2) = nI c) (b3 : B (23 * g + 3) = 0) (b4 : B (23 * g + 4) = chiefF (fun j => B (23 * g + 9 + j)) 3 1 0) (b5 : B (23 * g + 5) = 0) (b6 : B (23 * g + 6) = 0) (b7 : B (23 * g + 7) = -15) (b8 : B (23 * g + 8) = 0)
    (b9 : B (23 * g + 9) = nI s) (b10 : B (23 * g + 10) = nI w) (b11 : B (23 * g + 11) = nI t) (b12 : B (23 * g + 12) = nI (100 - s - w - t)) (b13 : ∀ j, 13 ≤ j → j < 23 → B (23 * g + j) = 0)
    (v0 : v (63 + 22 * g) = nI f) (v1 : v (64 + 22 * g) = nI k) (v2 : v (65 + 22 * g) = nI c) (v3 : v (66 + 22 * g) = nI s) (v4 : v (67 + 22 * g) = nI w) (v5 : v (68 + 22 * g) = nI t) (v6 : v (69 + 22 * g) = nI (100 - s - w - t)) (v10 : v (73 + 22 * g) = -1)
    (vz : ∀ j, j = 70 ∨ j = 71 ∨ j = 72 ∨ 74 ≤ j → j < 85 → v (j + 22 * g) = 0) : HRg B v g := by
  refine ⟨b0.trans v0.symm, b1.trans v1.symm, b2.trans v2.symm, b3.trans (vz 70 (by omega) (by omega)).symm, b4, b5.trans (vz 71 (by omega) (by omega)).symm, b6.trans (vz 72 (by omega) (by omega)).symm, .inl ⟨b7, v10⟩, b8.trans (vz 74 (by omega) (by omega)).symm, fun j hj => ?_, fun j hj => ?_, b0 ▸ zR5.of (by omega) hf, b1 ▸ zR5.of hk1 hk2, b2 ▸ zR5.of hc1 hc2, ?_, ?_, ?_, 0, by omega, b8, fun j hj => ?_, fun _ j hj => ?_, fun q => absurd q (by decide)⟩
  · rcases (show j = 0 ∨ j = 1 ∨ j = 2 ∨ j = 3 by omega) with rfl | rfl | rfl | rfl
    · exact ⟨b9.trans v3.symm, s, by omega, by omega, b9⟩
    · exact ⟨(show B (23 * g + 10) = v (66 + 22 * g + 1) by rw [show 66 + 22 * g + 1 = 67 + 22 * g by omega]; exact b10.trans v4.symm), w, by omega, by omega, b10⟩
    · exact ⟨(show B (23 * g + 11) = v (66 + 22 * g + 2) by rw [show 66 + 22 * g + 2 = 68 + 22 * g by omega]; exact b11.trans v5.symm), t, by omega, by omega, b11⟩
    · exact ⟨(show B (23 * g + 12) = v (66 + 22 * g + 3) by rw [show 66 + 22 * g + 3 = 69 + 22 * g by omega]; exact b12.trans v6.symm), 100 - s - w - t, by omega, by omega, b12⟩
  · have h1 : B (23 * g + 13 + j) = 0 := by rw [Nat.add_assoc]; exact b13 _ (by omega) (by omega)
    have h2 : B (23 * g + 18 + j) = 0 := by rw [Nat.add_assoc]; exact b13 _ (by omega) (by omega)
    have h3 : v (75 + 22 * g + j) = 0 := by rw [show 75 + 22 * g + j = (75 + j) + 22 * g by omega]; exact vz _ (by omega) (by omega)
    have h4 : v (80 + 22 * g + j) = 0 := by rw [show 80 + 22 * g + j = (80 + j) + 22 * g by omega]; exact vz _ (by omega) (by omega)
    exact ⟨h1.trans h3.symm, h2.trans h4.symm, ⟨0, by omega, by omega, h1⟩, 0, by omega, by omega, h2⟩
  · exact ⟨0, by omega, by omega, b3⟩
  · exact ⟨0, by omega, by omega, b5⟩
  · intro q; rw [b3] at q; exact absurd q (by decide)
  · exact ⟨0, by omega, by rw [Nat.add_assoc]; exact b13 _ (by omega) (by omega)⟩
  · rw [Nat.add_assoc]; exact b13 _ (by omega) (by omega)
/-- a good more -/
theorem HR.goodn {D D' : Nat} {I A B C v I' B' v' : Nat → Int32} (h : HR D I A B C v) (hdd : D ≤ D') {gn : Nat} (hv2 : v 2 = nI gn) (hgn : gn < 12) (hI : ∀ j, j ≠ 4 → I' j = I j) (i4 : I' 4 = nI (gn + 1)) (v2' : v' 2 = nI (gn + 1)) (hv : ∀ j, j ≠ 2 → (j < 63 + 22 * gn ∨ 85 + 22 * gn ≤ j) → v' j = v j)
    (hB : ∀ j, (j < 23 * gn ∨ 23 * gn + 23 ≤ j) → B' j = B j) (hn : HRg B' v' gn) : HR D' I' A B' C v' := by
  obtain ⟨n, gm, h1, h2, h3, h4, h5, h6, h7, h8, h9, h10, h11, h12, h13, h13b, h14, h15, h16, h17, h18, h19⟩ := h
  have e : gm = gn := (nI_eq (by omega) (by omega)).mp (h6.symm.trans hv2)
  subst e
  refine ⟨n, gm + 1, h1, by omega, ?_, ?_, i4, v2', ?_, ?_, ?_, ?_, ?_, ?_, ?_, ?_, ?_, ?_, h16, h17, ?_, ?_⟩
  · rw [hI _ (by decide)]; exact h3
  · rw [hv _ (by decide) (by omega)]; exact h4
  · rw [hI _ (by decide), hv _ (by decide) (by omega)]; exact h7
  · rw [hI _ (by decide), hv _ (by decide) (by omega)]; exact h8
  · rw [hI _ (by decide), hv _ (by decide) (by omega)]; exact h9
  · rw [hI _ (by decide), hv _ (by decide) (by omega)]; exact h10
  · rw [hI _ (by decide), hv _ (by decide) (by omega)]; exact h11
  · rw [hI _ (by decide), hv _ (by decide) (by omega)]; exact h12
  · rw [hI _ (by decide)]; exact h13.mono (by omega)
  · rw [hI _ (by decide)]; exact h13b.mono (by omega)
  · intro c hc; rw [hv _ (by omega) (by omega)]; exact h14 c hc
  · intro h q; exact (h15 h q).congr (by omega) (fun _ _ => rfl) (fun j q1 q2 => hv j (by omega) (by omega))
  · intro g hg
    by_cases q : g = gm
    · subst q; exact hn
    · exact (h18 g (by omega)).congr (fun j q1 q2 => hB j (by omega)) (fun j q1 q2 => hv j (by omega) (by omega))
  · intro g g1 g2 j hj
    rw [hB _ (by omega)]
    exact h19 g (by omega) g2 j hj
theorem HR.zeros {D : Nat} {I A B C v : Nat → Int32} (h : HR D I A B C v) {gn : Nat} (hv2 : v 2 = nI gn) (hgn : gn < 12) : ∀ j, j < 23 → B (23 * gn + j) = 0 := by
  obtain ⟨n, gm, h1, h2, h3, h4, h5, h6, h7, h8, h9, h10, h11, h12, h13, h13b, h14, h15, h16, h17, h18, h19⟩ := h
  have e : gm = gn := (nI_eq (by omega) (by omega)).mp (h6.symm.trans hv2)
  subst e
  exact h19 gm (Nat.le_refl _) hgn
theorem ok_good {x1 x2 x3 x4 x5 x6 : Int32} : OpOK 4 [.ref 1, .int x1, .int x2, .int x3, .int x4, .int x5, .int x6, .retAddr 0, .retAddr 0] 127 [.ref 90, .int x1, .int x2, .int x3, .int x4, .int x5, .int x6, .retAddr 0, .retAddr 0] := by
  intro D G H hD w hr h0
  obtain ⟨gn, gl, i4, v2, hg⟩ := hr.goods
  have bad : (zden 4 0 [.ref 1, .int x1, .int x2, .int x3, .int x4, .int x5, .int x6, .retAddr 0, .retAddr 0] [] (zSH, G) = some (some (.int (-12)), (zSH, G))) → (zden 127 0 [.ref 90, .int x1, .int x2, .int x3, .int x4, .int x5, .int x6, .retAddr 0, .retAddr 0] [] (zSH, H) = some (some (.int (-12)), (zSH, zup H 90 0 (-12)))) →
      ∃ (r : Int32) (G' H' : Nat → Nat → Int32), zden 4 0 [.ref 1, .int x1, .int x2, .int x3, .int x4, .int x5, .int x6, .retAddr 0, .retAddr 0] [] (zSH, G) = some (some (.int r), (zSH, G')) ∧ zden 127 0 [.ref 90, .int x1, .int x2, .int x3, .int x4, .int x5, .int x6, .retAddr 0, .retAddr 0] [] (zSH, H) = some (some (.int r), (zSH, H')) ∧ opFr G G' H H' ∧ opEnd D r G G' H H' :=
    fun p q => ⟨-12, G, zup H 90 0 (-12), p, q, opFr_no, opEnd_no hr (by decide)⟩
  by_cases c1 : (0 : Int32) ≤ x1 ∧ x1 ≤ 2
  rotate_left
  · exact bad (by rw [B_Cl_takeIn_0, if_pos (bIz.mpr c1)]) (by rw [B_M_comes_0, if_pos (bIz.mpr c1)]; exact B_M_comes_30)
  by_cases c2 : (1 : Int32) ≤ x2 ∧ x2 ≤ 99
  rotate_left
  · exact bad (by rw [B_Cl_takeIn_0, if_neg (fun q => bIz.mp q c1), if_pos (bIz.mpr c2)]) (by rw [B_M_comes_0, if_neg (fun q => bIz.mp q c1), if_pos (bIz.mpr c2)]; exact B_M_comes_30)
  by_cases c3 : (1 : Int32) ≤ x3 ∧ x3 ≤ 999
  rotate_left
  · exact bad (by rw [B_Cl_takeIn_0, if_neg (fun q => bIz.mp q c1), if_neg (fun q => bIz.mp q c2), if_pos (bIz.mpr c3)]) (by rw [B_M_comes_0, if_neg (fun q => bIz.mp q c1), if_neg (fun q => bIz.mp q c2), if_neg (fun q => c3 (bIn.mp q))]; exact B_M_comes_30)
  by_cases c4 : (0 : Int32) ≤ x4 ∧ x4 ≤ 100
  rotate_left
  · exact bad (by rw [B_Cl_takeIn_0, if_neg (fun q => bIz.mp q c1), if_neg (fun q => bIz.mp q c2), if_neg (fun q => bIz.mp q c3), if_pos (bIz.mpr c4)]) (by rw [B_M_comes_0, if_neg (fun q => bIz.mp q c1), if_neg (fun q => bIz.mp q c2), if_pos (bIn.mpr c3), if_pos (bIz.mpr c4)]; exact B_M_comes_79)
  obtain ⟨f, _, f2, rfl⟩ := nI_btw (A := 0) (B := 2) (by decide) (by decide) (by decide) (by decide) c1
  obtain ⟨k, k1, k2, rfl⟩ := nI_btw (A := 1) (B := 99) (by decide) (by decide) (by decide) (by decide) c2
  obtain ⟨c, cc1, cc2, rfl⟩ := nI_btw (A := 1) (B := 999) (by decide) (by decide) (by decide) (by decide) c3
  obtain ⟨s, _, s2, rfl⟩ := nI_btw (A := 0) (B := 100) (by decide) (by decide) (by decide) (by decide) c4
  have r1 : (100 : Int32) - nI s = nI (100 - s) := by rw [nIlit_100]; exact pk_sub s2
  by_cases m5 : (0 : Int32) ≤ x5 ∧ x5 ≤ 100 - nI s
  rotate_left
  · refine bad ?_ (by rw [B_M_comes_0, if_neg (fun q => bIz.mp q c1), if_neg (fun q => bIz.mp q c2), if_pos (bIn.mpr c3), if_neg (fun q => bIz.mp q c4), if_pos (bIz.mpr m5)]; exact B_M_comes_79)
    by_cases c5 : (0 : Int32) ≤ x5 ∧ x5 ≤ 100
    rotate_left
    · rw [B_Cl_takeIn_0, if_neg (fun q => bIz.mp q c1), if_neg (fun q => bIz.mp q c2), if_neg (fun q => bIz.mp q c3), if_neg (fun q => bIz.mp q c4), if_pos (bIz.mpr c5)]
    obtain ⟨t, _, t2, rfl⟩ := nI_btw (A := 0) (B := 100) (by decide) (by decide) (by decide) (by decide) c5
    by_cases c6 : (0 : Int32) ≤ x6 ∧ x6 ≤ 100
    rotate_left
    · rw [B_Cl_takeIn_0, if_neg (fun q => bIz.mp q c1), if_neg (fun q => bIz.mp q c2), if_neg (fun q => bIz.mp q c3), if_neg (fun q => bIz.mp q c4), if_neg (fun q => bIz.mp q c5), if_pos (bIz.mpr c6)]
    obtain ⟨u, _, u2, rfl⟩ := nI_btw (A := 0) (B := 100) (by decide) (by decide) (by decide) (by decide) c6
    rw [B_Cl_takeIn_0, if_neg (fun q => bIz.mp q c1), if_neg (fun q => bIz.mp q c2), if_neg (fun q => bIz.mp q c3), if_neg (fun q => bIz.mp q c4), if_neg (fun q => bIz.mp q c5), if_neg (fun q => bIz.mp q c6), if_neg]
    rw [nI_add, nI_add, nIlit_100, nI_leI (by omega) (by omega)]
    intro q
    exact m5 ⟨nI_pos' (by omega), by rw [r1]; exact nI_le (by omega) (by omega)⟩
  rw [r1] at m5
  obtain ⟨t, _, t2, rfl⟩ := nI_btw (A := 0) (B := 100 - s) rfl rfl (by omega) (by omega) m5
  rw [← r1] at m5
  have c5 : (0 : Int32) ≤ nI t ∧ nI t ≤ 100 := ⟨nI_pos' (by omega), by rw [nIlit_100]; exact nI_le (by omega) (by omega)⟩
  have r2 : (100 : Int32) - nI s - nI t = nI (100 - s - t) := by rw [r1]; exact pk_sub t2
  by_cases m6 : (0 : Int32) ≤ x6 ∧ x6 ≤ 100 - nI s - nI t
  rotate_left
  · refine bad ?_ (by rw [B_M_comes_0, if_neg (fun q => bIz.mp q c1), if_neg (fun q => bIz.mp q c2), if_pos (bIn.mpr c3), if_neg (fun q => bIz.mp q c4), if_neg (fun q => bIz.mp q m5), if_neg (fun q => m6 (bIn.mp q))]; exact B_M_comes_79)
    by_cases c6 : (0 : Int32) ≤ x6 ∧ x6 ≤ 100
    rotate_left
    · rw [B_Cl_takeIn_0, if_neg (fun q => bIz.mp q c1), if_neg (fun q => bIz.mp q c2), if_neg (fun q => bIz.mp q c3), if_neg (fun q => bIz.mp q c4), if_neg (fun q => bIz.mp q c5), if_pos (bIz.mpr c6)]
    obtain ⟨u, _, u2, rfl⟩ := nI_btw (A := 0) (B := 100) (by decide) (by decide) (by decide) (by decide) c6
    rw [B_Cl_takeIn_0, if_neg (fun q => bIz.mp q c1), if_neg (fun q => bIz.mp q c2), if_neg (fun q => bIz.mp q c3), if_neg (fun q => bIz.mp q c4), if_neg (fun q => bIz.mp q c5), if_neg (fun q => bIz.mp q c6), if_neg]
    rw [nI_add, nI_add, nIlit_100, nI_leI (by omega) (by omega)]
    intro q
    exact m6 ⟨nI_pos' (by omega), by rw [r2]; exact nI_le (by omega) (by omega)⟩
  rw [r2] at m6
  obtain ⟨u, _, u2, rfl⟩ := nI_btw (A := 0) (B := 100 - s - t) rfl rfl (by omega) (by omega) m6
  rw [← r2] at m6
  have c6 : (0 : Int32) ≤ nI u ∧ nI u ≤ 100 := ⟨nI_pos' (by omega), by rw [nIlit_100]; exact nI_le (by omega) (by omega)⟩
  have r3 : (100 : Int32) - nI s - nI t - nI u = nI (100 - s - t - u) := by rw [r2]; exact pk_sub u2
  have c7 : nI s + nI t + nI u ≤ 100 := by rw [nI_add, nI_add, nIlit_100]; exact nI_le (by omega) (by omega)
  have ck : zden 4 0 [.ref 1, .int (nI f), .int (nI k), .int (nI c), .int (nI s), .int (nI t), .int (nI u), .retAddr 0, .retAddr 0] [] (zSH, G) = _ := B_Cl_takeIn_0
  rw [if_neg (fun q => bIz.mp q c1), if_neg (fun q => bIz.mp q c2), if_neg (fun q => bIz.mp q c3), if_neg (fun q => bIz.mp q c4), if_neg (fun q => bIz.mp q c5), if_neg (fun q => bIz.mp q c6), if_pos c7, i4] at ck
  have mk : zden 127 0 [.ref 90, .int (nI f), .int (nI k), .int (nI c), .int (nI s), .int (nI t), .int (nI u), .retAddr 0, .retAddr 0] [] (zSH, H) = _ := B_M_comes_0
  rw [if_neg (fun q => bIz.mp q c1), if_neg (fun q => bIz.mp q c2), if_pos (bIn.mpr c3), if_neg (fun q => bIz.mp q c4), if_neg (fun q => bIz.mp q m5), if_pos (bIn.mpr m6), v2] at mk
  by_cases h12 : gn = 12
  · subst h12
    rw [if_neg (by decide), B_Cl_refuse_0, zaft_same] at ck
    rw [if_neg (fun q => q (by decide))] at mk
    exact ⟨-14, zup (zup G 1 1 1) 1 2 12, zup (zup (zup H 90 2 1) 90 3 12) 90 0 (-14), ck.trans (B_Cl_takeIn_102.trans (by rw [show nI 12 = 12 by decide])), mk, opFr_ref, opEnd_ref hr (by decide)⟩
  have hgn : gn < 12 := by omega
  rw [if_pos (by rw [show (12 : Int32) = nI 12 by decide]; exact nI_lt hgn (by decide))] at ck
  rw [if_pos (by rw [show (12 : Int32) = nI 12 by decide, nI_eq (by omega) (by decide)]; exact h12)] at mk
  obtain ⟨X, hX, wX, xo, x0, x1, x2, x3, x7, x9, x10, x11, x12, xr⟩ := sc_row (x1 := nI f) (x2 := nI k) (x3 := nI c) (x4 := nI s) (x5 := nI t) (x6 := nI u) w hgn
  rw [hX, B_Cl_chiefFibre_0] at ck
  have hch := sc_chief wX hgn 3 1 0 rfl (by decide)
  generalize hcf : chiefF (fun j => X 6 (23 * gn + 9 + j)) 3 1 (nI 0) = cf at hch
  rw [show zden 5 4 [.ref 1, .int (nI gn), .int 0, .int 1] [] (zSH, X) = _ from hch, zaft_same] at ck
  have ck := ck.trans B_Cl_takeIn_223
  rw [gd_set (j := 4) wX rfl (by decide) hgn (by decide)] at ck
  have xi4 : X 2 4 = nI gn := by rw [xo 2 (by decide)]; exact i4
  rw [zup_ro (show 2 ≠ 6 by decide), xi4, nI_1] at ck
  obtain ⟨H1, q1, q2, q3⟩ := sm_zero (x1 := nI f) (x2 := nI k) (x3 := nI c) (x4 := nI s) (x5 := nI t) (x6 := nI u) hgn 22 0 H rfl
  have hz22 : (22 : Int32) ≤ nI 22 := by decide
  have mz : ∀ (kk : Int32) (K : Nat), kk = nI K → K < 22 → zin (63 + 22 * nI gn + kk) 327 = true := fun kk K h1 h2 => mzin h1 hgn h2
  have h12v : H1 91 2 = nI gn := by rw [q2, if_neg (by omega)]; exact v2
  rw [show zden 127 112 [.ref 90, .int (nI f), .int (nI k), .int (nI c), .int (nI s), .int (nI t), .int (nI u), .int (nI gn), .int 0] [] (zSH, H) = _ from q1,
    B_M_comes_112 (fun _ => mz _ 0 (by decide) (by decide)) (fun _ => mz _ 1 (by decide) (by decide)) (fun _ => mz _ 2 (by decide) (by decide)) (fun _ => mz _ 3 (by decide) (by decide)) (fun _ => mz _ 4 (by decide) (by decide)) (fun _ => mz _ 5 (by decide) (by decide)) (fun _ => mz _ 6 (by decide) (by decide)) (fun _ => mz _ 10 (by decide) (by decide)) (fun q => absurd hz22 q), if_pos hz22,
    mcl2 (N := 63 + 22 * gn) (K := 0) (by decide) hgn (by decide) (by omega), mcl2 (N := 64 + 22 * gn) (K := 1) (by decide) hgn (by decide) (by omega), mcl2 (N := 65 + 22 * gn) (K := 2) (by decide) hgn (by decide) (by omega), mcl2 (N := 66 + 22 * gn) (K := 3) (by decide) hgn (by decide) (by omega),
    mcl2 (N := 67 + 22 * gn) (K := 4) (by decide) hgn (by decide) (by omega), mcl2 (N := 68 + 22 * gn) (K := 5) (by decide) hgn (by decide) (by omega), mcl2 (N := 69 + 22 * gn) (K := 6) (by decide) hgn (by decide) (by omega), mcl2 (N := 73 + 22 * gn) (K := 10) (by decide) hgn (by decide) (by omega), r3] at mk
  simp (disch := omega) only [zup_rk, h12v, nI_1] at mk
  refine ⟨nI gn, _, _, ck, mk, ⟨fun i a b c d e => by simp only [zup_ro b, zup_ro d]; exact xo i d, fun i a b => by simp only [zup_ro b]; exact q3 i b, fun j a b c => by simp (disch := omega) only [zup_ro]; rw [q3 90 (by decide)]⟩, .inl ⟨nI_pos' (by omega), ?_, by simp (disch := omega) only [zup_ro]; exact xo 1 (by decide), by simp (disch := omega) only [zup_ro]; exact q3 90 (by decide)⟩⟩
  have zr := hr.zeros v2 hgn
  have e4 : zup (zup X 6 (23 * gn + 4) cf) 2 4 (nI (gn + 1)) (2 + 2) = G (2 + 2) := by rw [zup_ro (by decide), zup_ro (by decide), xo (2 + 2) (by decide)]
  have e8 : zup (zup X 6 (23 * gn + 4) cf) 2 4 (nI (gn + 1)) (2 + 6) = G (2 + 6) := by rw [zup_ro (by decide), zup_ro (by decide), xo (2 + 6) (by decide)]
  have e6 : zup (zup X 6 (23 * gn + 4) cf) 2 4 (nI (gn + 1)) (2 + 4) = zup X 6 (23 * gn + 4) cf 6 := by rw [zup_ro (by decide)]
  unfold HRat
  rw [e4, e8, e6]
  refine HR.goodn hr (by omega) v2 hgn (fun j hj => ?_) zup_rr ?_ (fun j h1 h2 => ?_) (fun j hj => ?_) ?_
  · rw [zup_rk hj, zup_ro (by decide), xo 2 (by decide)]
  · simp (disch := omega) only [zup_rk, zup_rr]
  · simp (disch := omega) only [zup_rk]
    rw [q2, if_neg (by omega)]
  · rw [zup_rk (by omega)]
    exact xr j (by omega) (by omega) (by omega) (by omega) (by omega) (by omega) (by omega) (by omega) (by omega)
  · have z : ∀ j, j < 23 → j ≠ 0 → j ≠ 1 → j ≠ 2 → j ≠ 3 → j ≠ 7 → j ≠ 9 → j ≠ 10 → j ≠ 11 → j ≠ 12 → j ≠ 4 → zup X 6 (23 * gn + 4) cf 6 (23 * gn + j) = 0 := by
      intro j hj j0 j1 j2 j3 j7 j9 j10 j11 j12 j4
      rw [zup_rk (by omega), xr _ (by omega) (by omega) (by omega) (by omega) (by omega) (by omega) (by omega) (by omega) (by omega)]
      exact zr j hj
    refine HRg.new (f := f) (k := k) (c := c) (s := s) (w := t) (t := u) f2 k1 k2 cc1 cc2 (by omega) ?_ ?_ ?_ ?_ ?_ (z 5 (by decide) (by decide) (by decide) (by decide) (by decide) (by decide) (by decide) (by decide) (by decide) (by decide) (by decide)) (z 6 (by decide) (by decide) (by decide) (by decide) (by decide) (by decide) (by decide) (by decide) (by decide) (by decide) (by decide)) ?_ (z 8 (by decide) (by decide) (by decide) (by decide) (by decide) (by decide) (by decide) (by decide) (by decide) (by decide) (by decide)) ?_ ?_ ?_ ?_
      (fun j j1 j2 => z j j2 (by omega) (by omega) (by omega) (by omega) (by omega) (by omega) (by omega) (by omega) (by omega) (by omega)) ?_ ?_ ?_ ?_ ?_ ?_ ?_ ?_ (fun j h1 h2 => ?_)
    · rw [zup_rk (by omega)]; exact x0
    · rw [zup_rk (by omega)]; exact x1
    · rw [zup_rk (by omega)]; exact x2
    · rw [zup_rk (by omega)]; exact x3
    · rw [zup_rr, ← hcf]
      exact chiefF_congr (by omega) ⟨0, by omega, by omega, rfl⟩ (fun j hj => by rw [zup_rk (by omega)])
    · rw [zup_rk (by omega)]; exact x7
    · rw [zup_rk (by omega)]; exact x9
    · rw [zup_rk (by omega)]; exact x10
    · rw [zup_rk (by omega)]; exact x11
    · rw [zup_rk (by omega), x12]; exact r3
    · simp (disch := omega) only [zup_rk, zup_rr]
    · simp (disch := omega) only [zup_rk, zup_rr]
    · simp (disch := omega) only [zup_rk, zup_rr]
    · simp (disch := omega) only [zup_rk, zup_rr]
    · simp (disch := omega) only [zup_rk, zup_rr]
    · simp (disch := omega) only [zup_rk, zup_rr]
    · simp (disch := omega) only [zup_rk, zup_rr]
    · simp (disch := omega) only [zup_rk, zup_rr]
    · simp (disch := omega) only [zup_rk]
      rw [q2, if_pos (by omega)]
