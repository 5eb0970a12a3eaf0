-- 37: goods come; headings are struck and set up (much of it turned from whole by wip/p36/gen37.py)
theorem zR5.of {a b k : Nat} (h1 : a ≤ k) (h2 : k ≤ b) : zR5 a b (nI k) := ⟨k, h1, h2, rfl⟩
theorem sc_chief {G : Nat → Nat → Int32} {g : Nat} (w : zWT G) (hg : g < 12) : ∀ (d f c : Nat), f + d = 4 → c ≤ 3 →
    zden 5 4 [.ref 1, .int (nI g), .int (nI c), .int (nI f)] [] (zSH, G) = some (some (.int (chiefF (fun j => G 6 (23 * g + 9 + j)) d f (nI c))), (zSH, G)) := by
  intro d
  induction d with
  | zero =>
    intro f c h hc
    rw [B_Cl_chiefFibre_4, if_pos (by rw [nIlit_4]; exact nI_le (by omega) (by omega))]
    rfl
  | succ d ih =>
    intro f c h hc
    have ef : (9 : Int32) + nI f = nI (9 + f) := by rw [nIlit_9, nI_add]
    have ec : (9 : Int32) + nI c = nI (9 + c) := by rw [nIlit_9, nI_add]
    rw [B_Cl_chiefFibre_4, if_neg (by rw [nIlit_4]; exact nI_ge (by omega) (by decide)), gd_get w rfl ef hg (by omega), gd_get w rfl ec hg (by omega), ← Nat.add_assoc, ← Nat.add_assoc]
    unfold chiefF
    rw [nI_clamp (by omega)]
    by_cases hq : G 6 (23 * g + 9 + f) < G 6 (23 * g + 9 + c)
    · rw [if_pos hq, if_neg (by rw [Int32.not_le]; exact hq), B_Cl_chiefFibre_44, nI_1]
      exact ih (f + 1) c (by omega) hc
    · rw [if_neg hq, if_pos (by rw [← Int32.not_lt]; exact hq), B_Cl_chiefFibre_44, nI_1]
      exact ih (f + 1) f (by omega) (by omega)
theorem sc_row {G : Nat → Nat → Int32} {g : Nat} {x1 x2 x3 x4 x5 x6 : Int32} (w : zWT G) (hg : g < 12) :
    ∃ X : Nat → Nat → Int32, (tset (tset (tset (tset (tset (tset (tset (tset (tset G 5 6 276 (nI g) 0 x1) 5 6 276 (nI g) 1 x2) 5 6 276 (nI g) 2 x3) 5 6 276 (nI g) 3 0) 5 6 276 (nI g) 7 (-15)) 5 6 276 (nI g) 9 x4) 5 6 276 (nI g) 10 x5) 5 6 276 (nI g) 11 x6) 5 6 276 (nI g) 12 (((100 - x4) - x5) - x6)) = X ∧ zWT X ∧ (∀ i, i ≠ 6 → X i = G i) ∧ X 6 (23 * g + 0) = x1 ∧ X 6 (23 * g + 1) = x2 ∧ X 6 (23 * g + 2) = x3 ∧ X 6 (23 * g + 3) = 0 ∧ X 6 (23 * g + 7) = (-15) ∧ X 6 (23 * g + 9) = x4 ∧ X 6 (23 * g + 10) = x5 ∧ X 6 (23 * g + 11) = x6 ∧ X 6 (23 * g + 12) = (((100 - x4) - x5) - x6) ∧ (∀ k, k ≠ 23 * g + 0 → k ≠ 23 * g + 1 → k ≠ 23 * g + 2 → k ≠ 23 * g + 3 → k ≠ 23 * g + 7 → k ≠ 23 * g + 9 → k ≠ 23 * g + 10 → k ≠ 23 * g + 11 → k ≠ 23 * g + 12 → X 6 k = G 6 k) := by
  have s : ∀ (X : Nat → Nat → Int32) (col : Int32) (j : Nat) (x : Int32), zWT X → col = nI j → j < 23 → tset X 5 6 276 (nI g) col x = zup X 6 (23 * g + j) x := fun X col j x hX hc hj => gd_set hX rfl hc hg hj
  have wz : ∀ (X : Nat → Nat → Int32) (k : Nat) (x : Int32), zWT X → zWT (zup X 6 k x) := fun X k x hX => hX.zup (by decide) (by decide) (by decide)
  have w0 := wz _ (23 * g + 0) x1 w
  have w1 := wz _ (23 * g + 1) x2 w0
  have w2 := wz _ (23 * g + 2) x3 w1
  have w3 := wz _ (23 * g + 3) 0 w2
  have w4 := wz _ (23 * g + 7) (-15) w3
  have w5 := wz _ (23 * g + 9) x4 w4
  have w6 := wz _ (23 * g + 10) x5 w5
  have w7 := wz _ (23 * g + 11) x6 w6
  have w8 := wz _ (23 * g + 12) (((100 - x4) - x5) - x6) w7
  refine ⟨(zup (zup (zup (zup (zup (zup (zup (zup (zup G 6 (23 * g + 0) x1) 6 (23 * g + 1) x2) 6 (23 * g + 2) x3) 6 (23 * g + 3) 0) 6 (23 * g + 7) (-15)) 6 (23 * g + 9) x4) 6 (23 * g + 10) x5) 6 (23 * g + 11) x6) 6 (23 * g + 12) (((100 - x4) - x5) - x6)), ?_, w8, fun i hi => by simp only [zup_ro hi], by simp (disch := omega) only [zup_rk, zup_rr], by simp (disch := omega) only [zup_rk, zup_rr], by simp (disch := omega) only [zup_rk, zup_rr], by simp (disch := omega) only [zup_rk, zup_rr], by simp (disch := omega) only [zup_rk, zup_rr], by simp (disch := omega) only [zup_rk, zup_rr], by simp (disch := omega) only [zup_rk, zup_rr], by simp (disch := omega) only [zup_rk, zup_rr], by simp (disch := omega) only [zup_rk, zup_rr], fun k h0 h1 h2 h3 h4 h5 h6 h7 h8 => by simp only [zup_rk h0, zup_rk h1, zup_rk h2, zup_rk h3, zup_rk h4, zup_rk h5, zup_rk h6, zup_rk h7, zup_rk h8]⟩
  rw [s _ 0 0 _ w (by decide) (by decide), s _ 1 1 _ w0 (by decide) (by decide), s _ 2 2 _ w1 (by decide) (by decide), s _ 3 3 _ w2 (by decide) (by decide), s _ 7 7 _ w3 (by decide) (by decide), s _ 9 9 _ w4 (by decide) (by decide), s _ 10 10 _ w5 (by decide) (by decide), s _ 11 11 _ w6 (by decide) (by decide), s _ 12 12 _ w7 (by decide) (by decide)]
theorem nIlit_22 : (22 : Int32) = nI 22 := by decide
theorem HRg.new {B : Nat → Int32} {g f k c s w t : Nat} (hf : f ≤ 2) (hk1 : 1 ≤ k) (hk2 : k ≤ 99) (hc1 : 1 ≤ c) (hc2 : c ≤ 999) (hs : s + w + t ≤ 100)
    (b0 : B (23 * g) = nI f) (b1 : B (23 * g + 1) = nI k) (b2 : B (23 * g + 2) = nI c) (b3 : B (23 * g + 3) = 0) (b4 : B (23 * g + 4) = chiefF (fun j => B (23 * g + 9 + j)) 3 1 0) (b5 : B (23 * g + 5) = 0) (b6 : B (23 * g + 6) = 0) (b7 : B (23 * g + 7) = -15) (b8 : B (23 * g + 8) = 0)
    (b9 : B (23 * g + 9) = nI s) (b10 : B (23 * g + 10) = nI w) (b11 : B (23 * g + 11) = nI t) (b12 : B (23 * g + 12) = nI (100 - s - w - t)) (b13 : ∀ j, 13 ≤ j → j < 23 → B (23 * g + j) = 0) : HRg B g := by
  refine ⟨b0 ▸ ⟨f, by omega, hf, rfl⟩, b1 ▸ ⟨k, hk1, hk2, rfl⟩, b2 ▸ ⟨c, hc1, hc2, rfl⟩, ⟨0, by omega, by omega, b3⟩, b4, ⟨0, 0, by omega, by omega, b5, b6⟩, .inl b7, fun _ => ⟨b7, b5⟩, fun q => by rw [b3] at q; exact absurd q (by decide), fun _ => b6, fun j hj => ?_, ?_, 0, by omega, b8, fun j hj => ?_, fun q => absurd q (by decide)⟩
  · rcases (show j = 0 ∨ j = 1 ∨ j = 2 ∨ j = 3 by omega) with rfl | rfl | rfl | rfl
    · exact ⟨s, by omega, by omega, b9⟩
    · exact ⟨w, by omega, by omega, b10⟩
    · exact ⟨t, by omega, by omega, b11⟩
    · exact ⟨100 - s - w - t, by omega, by omega, b12⟩
  · rw [b9, b10, b11, b12, nI_add, nI_add, nI_add, nIlit_100]
    exact congrArg nI (by omega)
  · have h1 : B (23 * g + 13 + j) = 0 := by rw [Nat.add_assoc]; exact b13 _ (by omega) (by omega)
    have h2 : B (23 * g + 18 + j) = 0 := by rw [Nat.add_assoc]; exact b13 _ (by omega) (by omega)
    exact ⟨0, 0, by omega, by omega, h1, h2, fun _ => rfl⟩
/-- a good more -/
theorem HI.goodn {D D' n gn : Nat} {I A B C I' B' : Nat → Int32} (h : HI D n gn I A B C) (hdd : D ≤ D') (hgn : gn < 12) (hI : ∀ j, j ≠ 4 → I' j = I j) (i4 : I' 4 = nI (gn + 1))
    (hB : ∀ j, (j < 23 * gn ∨ 23 * gn + 23 ≤ j) → B' j = B j) (hn : HRg B' gn) (z5 : B' (23 * gn + 5) = 0) (z6 : B' (23 * gn + 6) = 0) : HI D' n (gn + 1) I' A B' C := by
  obtain ⟨h1, h2, h3, h4, h5, h6, h7, h8, h9, h10, h11, h12⟩ := h
  refine ⟨h1, by omega, ?_, i4, ?_, ?_, h7, fun g hg => ?_, fun g g1 g2 j hj => ?_, ?_, ?_, ?_⟩
  · rw [hI _ (by decide)]; exact h3
  · rw [hI _ (by decide)]; exact h5.mono (by omega)
  · rw [hI _ (by decide)]; exact h6.mono (by omega)
  · by_cases q : g = gn
    · subst q; exact hn
    · exact (h8 g (by omega)).congr (fun j q1 q2 => hB j (by omega))
  · rw [hB _ (by omega)]
    exact h9 g (by omega) g2 j hj
  · rw [hI _ (by decide), h10]; exact (sumB_new z5 (fun j hj => hB _ (by omega))).symm
  · rw [hI _ (by decide), h11]; exact (sumB_new z6 (fun j hj => hB _ (by omega))).symm
  · rw [hI _ (by decide), hI _ (by decide), hI _ (by decide), hI _ (by decide)]; exact h12
theorem ex_good {D n gn f k c s t u : Nat} {G : Nat → Nat → Int32} (w : zWT G) (hr : HIat D n gn G) (f2 : f ≤ 2) (k1 : 1 ≤ k) (k2 : k ≤ 99) (cc1 : 1 ≤ c) (cc2 : c ≤ 999) (hsum : s + t + u ≤ 100) (hgn : gn < 12) :
    ∃ G' : Nat → Nat → Int32, zden 4 0 [.ref 1, .int (nI f), .int (nI k), .int (nI c), .int (nI s), .int (nI t), .int (nI u), .retAddr 0, .retAddr 0] [] (zSH, G) = some (some (.int (nI gn)), (zSH, G')) ∧ opFr G G' ∧ HIat (D + 1) n (gn + 1) G' := by
  have i4 : G 2 4 = nI gn := hr.i4
  have c1 : (0 : Int32) ≤ nI f ∧ nI f ≤ 2 := ⟨nI_pos' (by omega), by rw [show (2 : Int32) = nI 2 by decide]; exact nI_le (by omega) (by omega)⟩
  have c2 : (1 : Int32) ≤ nI k ∧ nI k ≤ 99 := ⟨by rw [nIlit_1]; exact nI_le (by omega) (by omega), by rw [show (99 : Int32) = nI 99 by decide]; exact nI_le (by omega) (by omega)⟩
  have c3 : (1 : Int32) ≤ nI c ∧ nI c ≤ 999 := ⟨by rw [nIlit_1]; exact nI_le (by omega) (by omega), by rw [show (999 : Int32) = nI 999 by decide]; exact nI_le (by omega) (by omega)⟩
  have c4 : (0 : Int32) ≤ nI s ∧ nI s ≤ 100 := ⟨nI_pos' (by omega), by rw [nIlit_100]; exact nI_le (by omega) (by omega)⟩
  have c5 : (0 : Int32) ≤ nI t ∧ nI t ≤ 100 := ⟨nI_pos' (by omega), by rw [nIlit_100]; exact nI_le (by omega) (by omega)⟩
  have c6 : (0 : Int32) ≤ nI u ∧ nI u ≤ 100 := ⟨nI_pos' (by omega), by rw [nIlit_100]; exact nI_le (by omega) (by omega)⟩
  have r3 : (100 : Int32) - nI s - nI t - nI u = nI (100 - s - t - u) := by rw [nIlit_100, pk_sub (by omega), pk_sub (by omega), pk_sub (by omega)]
  have c7 : nI s + nI t + nI u ≤ 100 := by rw [nI_add, nI_add, nIlit_100]; exact nI_le (by omega) (by omega)
  have ck : zden 4 0 [.ref 1, .int (nI f), .int (nI k), .int (nI c), .int (nI s), .int (nI t), .int (nI u), .retAddr 0, .retAddr 0] [] (zSH, G) = _ := B_Cl_takeIn_0
  rw [if_neg (fun q => bIz.mp q c1), if_neg (fun q => bIz.mp q c2), if_neg (fun q => bIz.mp q c3), if_neg (fun q => bIz.mp q c4), if_neg (fun q => bIz.mp q c5), if_neg (fun q => bIz.mp q c6), if_pos c7, i4] at ck
  rw [if_pos (by rw [show (12 : Int32) = nI 12 by decide]; exact nI_lt hgn (by decide))] at ck
  obtain ⟨X, hX, wX, xo, x0, x1, x2, x3, x7, x9, x10, x11, x12, xr⟩ := sc_row (x1 := nI f) (x2 := nI k) (x3 := nI c) (x4 := nI s) (x5 := nI t) (x6 := nI u) w hgn
  rw [hX, B_Cl_chiefFibre_0] at ck
  have hch := sc_chief wX hgn 3 1 0 rfl (by decide)
  generalize hcf : chiefF (fun j => X 6 (23 * gn + 9 + j)) 3 1 (nI 0) = cf at hch
  rw [show zden 5 4 [.ref 1, .int (nI gn), .int 0, .int 1] [] (zSH, X) = _ from hch, zaft_same] at ck
  have ck := ck.trans B_Cl_takeIn_223
  rw [gd_set (j := 4) wX rfl (by decide) hgn (by decide)] at ck
  have xi4 : X 2 4 = nI gn := by rw [xo 2 (by decide)]; exact i4
  rw [zup_ro (show 2 ≠ 6 by decide), xi4, nI_1] at ck
  have zr : ∀ j, j < 23 → G 6 (23 * gn + j) = 0 := fun j hj => hr.2.2.2.2.2.2.2.2.1 gn (Nat.le_refl _) hgn j hj
  have e4 : zup (zup X 6 (23 * gn + 4) cf) 2 4 (nI (gn + 1)) 4 = G 4 := by rw [zup_ro (by decide), zup_ro (by decide), xo 4 (by decide)]
  have e8 : zup (zup X 6 (23 * gn + 4) cf) 2 4 (nI (gn + 1)) 8 = G 8 := by rw [zup_ro (by decide), zup_ro (by decide), xo 8 (by decide)]
  have e6 : zup (zup X 6 (23 * gn + 4) cf) 2 4 (nI (gn + 1)) 6 = zup X 6 (23 * gn + 4) cf 6 := by rw [zup_ro (by decide)]
  have z : ∀ j, j < 23 → j ≠ 0 → j ≠ 1 → j ≠ 2 → j ≠ 3 → j ≠ 7 → j ≠ 9 → j ≠ 10 → j ≠ 11 → j ≠ 12 → j ≠ 4 → zup X 6 (23 * gn + 4) cf 6 (23 * gn + j) = 0 := by
    intro j hj j0 j1 j2 j3 j7 j9 j10 j11 j12 j4
    rw [zup_rk (by omega), xr _ (by omega) (by omega) (by omega) (by omega) (by omega) (by omega) (by omega) (by omega) (by omega)]
    exact zr j hj
  have z5 := z 5 (by decide) (by decide) (by decide) (by decide) (by decide) (by decide) (by decide) (by decide) (by decide) (by decide) (by decide)
  have z6 := z 6 (by decide) (by decide) (by decide) (by decide) (by decide) (by decide) (by decide) (by decide) (by decide) (by decide) (by decide)
  have z8 := z 8 (by decide) (by decide) (by decide) (by decide) (by decide) (by decide) (by decide) (by decide) (by decide) (by decide) (by decide)
  refine ⟨_, ck, fun i a b c d e => by simp only [zup_ro b, zup_ro d]; exact xo i d, ?_⟩
  unfold HIat
  rw [e4, e8, e6]
  refine HI.goodn hr (by omega) hgn (fun j hj => ?_) zup_rr (fun j hj => ?_) ?_ z5 z6
  · rw [zup_rk hj, zup_ro (by decide), xo 2 (by decide)]
  · rw [zup_rk (by omega)]
    exact xr j (by omega) (by omega) (by omega) (by omega) (by omega) (by omega) (by omega) (by omega) (by omega)
  · refine HRg.new (f := f) (k := k) (c := c) (s := s) (w := t) (t := u) f2 k1 k2 cc1 cc2 hsum ?_ ?_ ?_ ?_ ?_ z5 z6 ?_ z8 ?_ ?_ ?_ ?_
      (fun j j1 j2 => z j j2 (by omega) (by omega) (by omega) (by omega) (by omega) (by omega) (by omega) (by omega) (by omega) (by omega))
    · rw [zup_rk (by omega)]; exact x0
    · rw [zup_rk (by omega)]; exact x1
    · rw [zup_rk (by omega)]; exact x2
    · rw [zup_rk (by omega)]; exact x3
    · rw [zup_rr, ← hcf]
      exact chiefF_congr (by omega) ⟨0, by omega, by omega, rfl⟩ (fun j hj => by rw [zup_rk (by omega)])
    · rw [zup_rk (by omega)]; exact x7
    · rw [zup_rk (by omega)]; exact x9
    · rw [zup_rk (by omega)]; exact x10
    · rw [zup_rk (by omega)]; exact x11
    · rw [zup_rk (by omega), x12]; exact r3
theorem ok_good {x1 x2 x3 x4 x5 x6 : Int32} : OpOK 4 [.ref 1, .int x1, .int x2, .int x3, .int x4, .int x5, .int x6, .retAddr 0, .retAddr 0] := by
  intro D n gn G hD w hr
  have i4 : G 2 4 = nI gn := hr.i4
  have gl := hr.gl
  have bad : (zden 4 0 [.ref 1, .int x1, .int x2, .int x3, .int x4, .int x5, .int x6, .retAddr 0, .retAddr 0] [] (zSH, G) = some (some (.int (-12)), (zSH, G))) →
      ∃ (r : Int32) (G' : Nat → Nat → Int32), zden 4 0 [.ref 1, .int x1, .int x2, .int x3, .int x4, .int x5, .int x6, .retAddr 0, .retAddr 0] [] (zSH, G) = some (some (.int r), (zSH, G')) ∧ opFr G G' ∧ opEnd D n gn r G G' :=
    fun p => ⟨-12, G, p, opFr_rf, opEnd_no (by decide) (by decide)⟩
  by_cases c1 : (0 : Int32) ≤ x1 ∧ x1 ≤ 2
  rotate_left
  · exact bad (by rw [B_Cl_takeIn_0, if_pos (bIz.mpr c1)])
  by_cases c2 : (1 : Int32) ≤ x2 ∧ x2 ≤ 99
  rotate_left
  · exact bad (by rw [B_Cl_takeIn_0, if_neg (fun q => bIz.mp q c1), if_pos (bIz.mpr c2)])
  by_cases c3 : (1 : Int32) ≤ x3 ∧ x3 ≤ 999
  rotate_left
  · exact bad (by rw [B_Cl_takeIn_0, if_neg (fun q => bIz.mp q c1), if_neg (fun q => bIz.mp q c2), if_pos (bIz.mpr c3)])
  by_cases c4 : (0 : Int32) ≤ x4 ∧ x4 ≤ 100
  rotate_left
  · exact bad (by rw [B_Cl_takeIn_0, if_neg (fun q => bIz.mp q c1), if_neg (fun q => bIz.mp q c2), if_neg (fun q => bIz.mp q c3), if_pos (bIz.mpr c4)])
  by_cases c5 : (0 : Int32) ≤ x5 ∧ x5 ≤ 100
  rotate_left
  · exact bad (by rw [B_Cl_takeIn_0, if_neg (fun q => bIz.mp q c1), if_neg (fun q => bIz.mp q c2), if_neg (fun q => bIz.mp q c3), if_neg (fun q => bIz.mp q c4), if_pos (bIz.mpr c5)])
  by_cases c6 : (0 : Int32) ≤ x6 ∧ x6 ≤ 100
  rotate_left
  · exact bad (by rw [B_Cl_takeIn_0, if_neg (fun q => bIz.mp q c1), if_neg (fun q => bIz.mp q c2), if_neg (fun q => bIz.mp q c3), if_neg (fun q => bIz.mp q c4), if_neg (fun q => bIz.mp q c5), if_pos (bIz.mpr c6)])
  obtain ⟨f, _, f2, rfl⟩ := nI_btw (A := 0) (B := 2) (by decide) (by decide) (by decide) (by decide) c1
  obtain ⟨k, k1, k2, rfl⟩ := nI_btw (A := 1) (B := 99) (by decide) (by decide) (by decide) (by decide) c2
  obtain ⟨c, cc1, cc2, rfl⟩ := nI_btw (A := 1) (B := 999) (by decide) (by decide) (by decide) (by decide) c3
  obtain ⟨s, _, s2, rfl⟩ := nI_btw (A := 0) (B := 100) (by decide) (by decide) (by decide) (by decide) c4
  obtain ⟨t, _, t2, rfl⟩ := nI_btw (A := 0) (B := 100) (by decide) (by decide) (by decide) (by decide) c5
  obtain ⟨u, _, u2, rfl⟩ := nI_btw (A := 0) (B := 100) (by decide) (by decide) (by decide) (by decide) c6
  by_cases hsum : s + t + u ≤ 100
  rotate_left
  · refine bad ?_
    rw [B_Cl_takeIn_0, if_neg (fun q => bIz.mp q c1), if_neg (fun q => bIz.mp q c2), if_neg (fun q => bIz.mp q c3), if_neg (fun q => bIz.mp q c4), if_neg (fun q => bIz.mp q c5), if_neg (fun q => bIz.mp q c6), if_neg]
    rw [nI_add, nI_add, nIlit_100, nI_leI (by omega) (by omega)]
    exact hsum
  by_cases h12 : gn = 12
  · subst h12
    have c7 : nI s + nI t + nI u ≤ 100 := by rw [nI_add, nI_add, nIlit_100]; exact nI_le (by omega) (by omega)
    have ck : zden 4 0 [.ref 1, .int (nI f), .int (nI k), .int (nI c), .int (nI s), .int (nI t), .int (nI u), .retAddr 0, .retAddr 0] [] (zSH, G) = _ := B_Cl_takeIn_0
    rw [if_neg (fun q => bIz.mp q c1), if_neg (fun q => bIz.mp q c2), if_neg (fun q => bIz.mp q c3), if_neg (fun q => bIz.mp q c4), if_neg (fun q => bIz.mp q c5), if_neg (fun q => bIz.mp q c6), if_pos c7, i4] at ck
    rw [if_neg (by decide), B_Cl_refuse_0, zaft_same] at ck
    exact ⟨-14, _, ck.trans B_Cl_takeIn_102, opFr_ref, opEnd_ref⟩
  obtain ⟨G', q1, q2, q3⟩ := ex_good (n := n) (gn := gn) w hr f2 k1 k2 cc1 cc2 hsum (by omega)
  exact ⟨nI gn, G', q1, q2, .inr ⟨⟨gn, by omega, by omega, rfl⟩, n, gn + 1, by omega, q3⟩⟩
theorem HI.heads {D D' n gn m : Nat} {I A B C I' A' : Nat → Int32} (h : HI D n gn I A B C) (hdd : D ≤ D') (hI : ∀ j, j ≠ 3 → I' j = I j) (i3 : I' 3 = nI (m + 1)) (ho : hOK m A') : HI D' m gn I' A' B C := by
  obtain ⟨h1, h2, h3, h4, h5, h6, h7, h8, h9, h10, h11, h12⟩ := h
  refine ⟨ho, h2, i3, ?_, ?_, ?_, h7, h8, h9, ?_, ?_, ?_⟩
  · rw [hI _ (by decide)]; exact h4
  · rw [hI _ (by decide)]; exact h5.mono (by omega)
  · rw [hI _ (by decide)]; exact h6.mono (by omega)
  · rw [hI _ (by decide)]; exact h10
  · rw [hI _ (by decide)]; exact h11
  · rw [hI _ (by decide), hI _ (by decide), hI _ (by decide), hI _ (by decide)]; exact h12
theorem HRh.mov {A A' : Nat → Int32} {h h' : Nat} (hh : HRh A h) (c : ∀ j, j < 5 → A' (5 * h' + j) = A (5 * h + j)) : HRh A' h' := by
  have c0 : A' (5 * h') = A (5 * h) := c 0 (by decide)
  unfold HRh
  rw [c 4 (by decide), c0, c 1 (by decide), c 2 (by decide), c 3 (by decide)]
  exact hh
theorem ok_strike {x : Int32} : OpOK 3 [.ref 1, .int x, .retAddr 0, .retAddr 0] := by
  intro D n gn G hD w hr
  have ho := hr.ho
  have i3' : G 2 3 = nI (n + 1) := hr.i3
  have hs := ho.2.2.2
  have hn : n ≤ 10 := ho.1
  have ck : zden 3 0 [.ref 1, .int x, .retAddr 0, .retAddr 0] [] (zSH, G) = _ := B_Cl_strikeOut_0
  rw [sc_rowOfCode w hn i3', zaft_same] at ck
  have ck := ck.trans B_Cl_strikeOut_8
  rcases findR_or (A := G 4) (x := x) (n + 1) 0 with ⟨f1, f2⟩ | ⟨k, _, k2, f1, f2⟩
  · rw [f1, if_pos (by decide)] at ck
    exact ⟨-11, G, ck, opFr_rf, opEnd_no (by decide) (by decide)⟩
  · rw [f1, if_neg (nI_pos (by omega))] at ck
    have e99 := nn99 ho (k := k) (by omega) f2
    by_cases hx : x = 99
    · rw [if_neg (fun q => q hx)] at ck
      exact ⟨-11, G, ck, opFr_rf, opEnd_no (by decide) (by decide)⟩
    · have hkn : k < n := by
        have : k ≠ n := fun q => hx (e99.mpr q)
        omega
      have e3 : G 2 3 - 1 = nI n := by rw [i3', nI_pred]
      rw [if_pos hx, e3] at ck
      obtain ⟨G', g1, g2, g3⟩ := sc_strike_loop (x := x) (y := nI k) hn (n - k) k (zup G 2 3 (nI n)) (by omega) (w.zup (by decide) (by decide) (by decide)) zup_rr
      have en : nI n - 1 = nI (n - 1) := by rw [nIlit_1, pk_sub (by omega)]
      rw [en] at g1
      have g2' : ∀ j, G' 4 j = if 5 * k ≤ j ∧ j < 5 * n then G 4 (j + 5) else G 4 j := fun j => by rw [g2 j, zup_ro (by decide)]
      refine ⟨nI (n - 1), G', ck.trans g1, fun i a b c d e => by rw [g3 i c, zup_ro b], .inr ⟨⟨n - 1, by omega, by omega, rfl⟩, n - 1, gn, Nat.le_refl _, ?_⟩⟩
      unfold HIat
      rw [g3 6 (by decide), g3 8 (by decide), zup_ro (show 6 ≠ 2 by decide), zup_ro (show 8 ≠ 2 by decide)]
      refine HI.heads (m := n - 1) hr (by omega) (fun j hj => ?_) ?_ ⟨by omega, fun h hh => ?_, ?_, fun h hh => ?_⟩
      · rw [g3 2 (by decide), zup_rk hj]
      · rw [g3 2 (by decide), zup_rr, show n - 1 + 1 = n by omega]
      · by_cases hk : k ≤ h
        · exact (ho.2.1 (h + 1) (by omega)).mov (fun j hj => by rw [g2', if_pos (by omega)]; exact congrArg _ (by omega))
        · exact (ho.2.1 h (by omega)).mov (fun j hj => by rw [g2', if_neg (by omega)])
      · have c : ∀ j, j < 5 → G' 4 (5 * (n - 1) + j) = G 4 (5 * n + j) := fun j hj => by
          rw [g2', if_pos (by omega)]; exact congrArg _ (by omega)
        have c0 : G' 4 (5 * (n - 1)) = G 4 (5 * n) := c 0 (by decide)
        rw [c 4 (by decide), c0, c 1 (by decide), c 2 (by decide), c 3 (by decide)]
        exact ho.2.2.1
      · rw [g2', g2']
        by_cases hk : k ≤ h
        · rw [if_pos (by omega), if_pos (by omega)]
          have := hs (h + 1) (by omega)
          exact this
        · rw [if_neg (by omega)]
          by_cases hk2 : k ≤ h + 1
          · rw [if_pos (by omega)]
            have a := hs h (by omega)
            have b := hs (h + 1) (by omega)
            exact Int32.lt_trans a b
          · rw [if_neg (by omega)]
            exact hs h (by omega)
theorem hd_ok {D n gn : Nat} {G : Nat → Nat → Int32} {x1 x2 x3 x4 x5 : Int32} (hD : D ≤ 6000) (w : zWT G) (hr : HIat D n gn G) : ∃ (r : Int32) (G' : Nat → Nat → Int32), zden 1 0 [.ref 1, .int x1, .int x2, .int x3, .int x4, .int x5, .retAddr 0] [] (zSH, G) = some (some (.int r), (zSH, G')) ∧ opFr G G' ∧ opEnd D n gn r G G' ∧
    (n = 0 → (1 ≤ x1 ∧ x1 ≤ 98) → (0 ≤ x2 ∧ x2 ≤ 4) → (0 ≤ x3 ∧ x3 ≤ 3) → (0 ≤ x4 ∧ x4 ≤ 60) → (0 ≤ x5 ∧ x5 ≤ 20) → r = 1) := by
  have ho := hr.ho
  have hs := ho.2.2.2
  have hn : n ≤ 10 := ho.1
  have i3' : G 2 3 = nI (n + 1) := hr.i3
  by_cases c1 : (1 : Int32) ≤ x1 ∧ x1 ≤ 98
  rotate_left
  · exact ⟨-12, G, by rw [B_Cl_setUp_0, if_pos (bIz.mpr c1)], opFr_rf, opEnd_no (by decide) (by decide), fun _ q => absurd q c1⟩
  by_cases c2 : (0 : Int32) ≤ x2 ∧ x2 ≤ 4
  rotate_left
  · exact ⟨-12, G, by rw [B_Cl_setUp_0, if_neg (fun q => bIz.mp q c1), if_pos (bIz.mpr c2)], opFr_rf, opEnd_no (by decide) (by decide), fun _ _ q => absurd q c2⟩
  by_cases c3 : (0 : Int32) ≤ x3 ∧ x3 ≤ 3
  rotate_left
  · exact ⟨-12, G, by rw [B_Cl_setUp_0, if_neg (fun q => bIz.mp q c1), if_neg (fun q => bIz.mp q c2), if_pos (bIz.mpr c3)], opFr_rf, opEnd_no (by decide) (by decide), fun _ _ _ q => absurd q c3⟩
  by_cases c4 : (0 : Int32) ≤ x4 ∧ x4 ≤ 60
  rotate_left
  · exact ⟨-12, G, by rw [B_Cl_setUp_0, if_neg (fun q => bIz.mp q c1), if_neg (fun q => bIz.mp q c2), if_neg (fun q => bIz.mp q c3), if_pos (bIz.mpr c4)], opFr_rf, opEnd_no (by decide) (by decide), fun _ _ _ _ q => absurd q c4⟩
  by_cases c5 : (0 : Int32) ≤ x5 ∧ x5 ≤ 20
  rotate_left
  · exact ⟨-12, G, by rw [B_Cl_setUp_0, if_neg (fun q => bIz.mp q c1), if_neg (fun q => bIz.mp q c2), if_neg (fun q => bIz.mp q c3), if_neg (fun q => bIz.mp q c4), if_neg (fun q => c5 (bIn.mp q))], opFr_rf, opEnd_no (by decide) (by decide), fun _ _ _ _ _ q => absurd q c5⟩
  have ck : zden 1 0 [.ref 1, .int x1, .int x2, .int x3, .int x4, .int x5, .retAddr 0] [] (zSH, G) = _ := B_Cl_setUp_0
  rw [if_neg (fun q => bIz.mp q c1), if_neg (fun q => bIz.mp q c2), if_neg (fun q => bIz.mp q c3), if_neg (fun q => bIz.mp q c4), if_pos (bIn.mpr c5), sc_rowOfCode w hn i3', zaft_same] at ck
  have ck := ck.trans B_Cl_setUp_61
  rw [i3'] at ck
  rcases findR_or (A := G 4) (x := x1) (n + 1) 0 with ⟨f1, f2⟩ | ⟨k, _, k2, f1, f2⟩
  rotate_left
  · rw [f1, if_neg (nI_pos (by omega)), B_Cl_refuse_0, zaft_same] at ck
    refine ⟨-14, _, ck.trans B_Cl_setUp_70, opFr_ref, opEnd_ref, fun q => ?_⟩
    subst q
    have hk : k = 0 := by omega
    subst hk
    rw [ho.2.2.1.2.2.2.2] at f2
    rw [← f2] at c1
    exact absurd c1.2 (by decide)
  rw [f1, if_pos (by decide)] at ck
  by_cases h10 : n = 10
  · subst h10
    rw [if_neg (by decide), B_Cl_refuse_0, zaft_same] at ck
    exact ⟨-14, _, ck.trans B_Cl_setUp_90, opFr_ref, opEnd_ref, fun q => absurd q (by decide)⟩
  have hn9 : n < 10 := by omega
  rw [if_pos (by rw [nIlit_10]; exact nI_le (by omega) (by decide))] at ck
  obtain ⟨p, G1, g1, g2, g3, g4, g5, g6⟩ := sc_ins (x1 := x1) (x2 := x2) (x3 := x3) (x4 := x4) (x5 := x5) (n + 1) G (by omega) w
  have pn : p ≤ n := by
    rcases Nat.lt_or_ge n p with h | h
    · rcases g4 with g4 | g4
      · omega
      · have e : p - 1 = n := by omega
        rw [e] at g4
        have e9 : G 4 (5 * n + 4) = 99 := ho.2.2.1.2.2.2.2
        rw [e9] at g4
        exact absurd (Int32.le_trans g4 c1.2) (by decide)
    · exact h
  have w1 : zWT G1 := by unfold zWT; rw [g6 3 (by decide), g6 5 (by decide), g6 7 (by decide)]; exact w
  have s : ∀ (X : Nat → Nat → Int32) (col : Int32) (j : Nat) (x : Int32), zWT X → col = nI j → j < 5 → tset X 3 4 55 (nI p) col x = zup X 4 (5 * p + j) x := fun X col j x hX hc hj => hd_set hX rfl hc (by omega) hj
  have wz : ∀ (X : Nat → Nat → Int32) (k : Nat) (x : Int32), zWT X → zWT (zup X 4 k x) := fun X k x hX => hX.zup (by decide) (by decide) (by decide)
  have ck := (ck.trans g1).trans B_Cl_setUp_146
  rw [s _ 4 4 _ w1 (by decide) (by decide), s _ 0 0 _ (wz _ _ _ (w1)) (by decide) (by decide), s _ 1 1 _ (wz _ _ _ (wz _ _ _ (w1))) (by decide) (by decide), s _ 2 2 _ (wz _ _ _ (wz _ _ _ (wz _ _ _ (w1)))) (by decide) (by decide), s _ 3 3 _ (wz _ _ _ (wz _ _ _ (wz _ _ _ (wz _ _ _ (w1))))) (by decide) (by decide)] at ck
  have i31 : G1 2 3 = nI (n + 1) := by rw [g6 2 (by decide)]; exact i3'
  simp (disch := omega) only [zup_ro, zup_rr, i31, nI_1, nI_pred] at ck
  refine ⟨nI (n + 1), _, ck, fun i a b c d e => by simp only [zup_ro b, zup_ro c]; exact g6 i c, .inr ⟨⟨n + 1, by omega, by omega, rfl⟩, n + 1, gn, Nat.le_refl _, ?_⟩, fun q _ _ _ _ _ => by rw [q]; decide⟩
  have eI : zup (zup (zup (zup (zup (zup G1 4 (5 * p + 4) x1) 4 (5 * p + 0) x2) 4 (5 * p + 1) x3) 4 (5 * p + 2) x4) 4 (5 * p + 3) x5) 2 3 (nI (n + 1 + 1)) 2 = zup G1 2 3 (nI (n + 1 + 1)) 2 := by
    funext j
    by_cases hj : j = 3
    · subst hj; rw [zup_rr, zup_rr]
    · rw [zup_rk hj, zup_rk hj]; simp (disch := omega) only [zup_ro]
  have e6 : zup (zup (zup (zup (zup (zup G1 4 (5 * p + 4) x1) 4 (5 * p + 0) x2) 4 (5 * p + 1) x3) 4 (5 * p + 2) x4) 4 (5 * p + 3) x5) 2 3 (nI (n + 1 + 1)) 6 = G 6 := by simp (disch := omega) only [zup_ro]; exact g6 _ (by decide)
  have e8 : zup (zup (zup (zup (zup (zup G1 4 (5 * p + 4) x1) 4 (5 * p + 0) x2) 4 (5 * p + 1) x3) 4 (5 * p + 2) x4) 4 (5 * p + 3) x5) 2 3 (nI (n + 1 + 1)) 8 = G 8 := by simp (disch := omega) only [zup_ro]; exact g6 _ (by decide)
  have e4 : zup (zup (zup (zup (zup (zup G1 4 (5 * p + 4) x1) 4 (5 * p + 0) x2) 4 (5 * p + 1) x3) 4 (5 * p + 2) x4) 4 (5 * p + 3) x5) 2 3 (nI (n + 1 + 1)) 4 = (zup (zup (zup (zup (zup G1 4 (5 * p + 4) x1) 4 (5 * p + 0) x2) 4 (5 * p + 1) x3) 4 (5 * p + 2) x4) 4 (5 * p + 3) x5) 4 := by rw [zup_ro (by decide)]
  unfold HIat
  rw [eI, e6, e8, e4]
  generalize hA : (zup (zup (zup (zup (zup G1 4 (5 * p + 4) x1) 4 (5 * p + 0) x2) 4 (5 * p + 1) x3) 4 (5 * p + 2) x4) 4 (5 * p + 3) x5) 4 = A
  have aN : A (5 * p + 4) = x1 ∧ A (5 * p) = x2 ∧ A (5 * p + 1) = x3 ∧ A (5 * p + 2) = x4 ∧ A (5 * p + 3) = x5 := by
    subst hA
    exact ⟨by simp (disch := omega) only [zup_rk, zup_rr], by simp (disch := omega) only [zup_rk, zup_rr]; exact zup_rr, by simp (disch := omega) only [zup_rk, zup_rr], by simp (disch := omega) only [zup_rk, zup_rr], by simp (disch := omega) only [zup_rk, zup_rr]⟩
  have aO : ∀ j, (j < 5 * p → A j = G 4 j) ∧ (5 * p + 5 ≤ j → j < 5 * n + 10 → A j = G 4 (j - 5)) := by
    intro j
    subst hA
    refine ⟨fun h => ?_, fun h h2 => ?_⟩
    · simp (disch := omega) only [zup_rk]; rw [g5, if_neg (by omega)]
    · simp (disch := omega) only [zup_rk]; rw [g5, if_pos (by omega)]
  have cmp : ∀ k, k < n + 1 → G 4 (5 * k + 4) ≠ x1 := fun k hk => f2 k (by omega) (by omega)
  have hpre : 0 < p → G 4 (5 * (p - 1) + 4) < x1 := fun h => by
    rcases g4 with g4 | g4
    · omega
    · rcases Int32.lt_or_eq_of_le g4 with q | q
      · exact q
      · exact absurd q (cmp (p - 1) (by omega))
  have hpost : x1 < G 4 (5 * p + 4) := by
    have := g3 p (Nat.le_refl _) (by omega)
    exact Int32.not_le.mp this
  have hlast : ∀ k, k < n → G 4 (5 * k + 4) < G 4 (5 * (k + 1) + 4) := fun k hk => by
    by_cases e : k + 1 < n
    · exact hs k e
    · have : k + 1 = n := by omega
      rw [this]
      have e9 : G 4 (5 * n + 4) = 99 := ho.2.2.1.2.2.2.2
      obtain ⟨⟨m, m1, m2, m3⟩, _⟩ := ho.2.1 k hk
      rw [e9, m3, show (99 : Int32) = nI 99 by decide]
      exact nI_lt (by omega) (by decide)
  refine HI.heads (m := n + 1) hr (by omega) (fun j hj => ?_) zup_rr ⟨by omega, fun h hh => ?_, ?_, fun h hh => ?_⟩
  · rw [zup_rk hj, g6 2 (by decide)]
  · rcases Nat.lt_trichotomy h p with hp | hp | hp
    · exact (ho.2.1 h (by omega)).mov (fun j hj => (aO _).1 (by omega))
    · subst hp
      obtain ⟨n1, n2, n3, n4, n5⟩ := aN
      unfold HRh
      rw [n1, n2, n3, n4, n5]
      exact ⟨nI_btw (A := 1) (B := 98) (by decide) (by decide) (by decide) (by decide) c1, nI_btw (A := 0) (B := 4) (by decide) (by decide) (by decide) (by decide) c2, nI_btw (A := 0) (B := 3) (by decide) (by decide) (by decide) (by decide) c3, nI_btw (A := 0) (B := 60) (by decide) (by decide) (by decide) (by decide) c4, nI_btw (A := 0) (B := 20) (by decide) (by decide) (by decide) (by decide) c5⟩
    · obtain ⟨k, rfl⟩ : ∃ k, h = k + 1 := ⟨h - 1, by omega⟩
      exact (ho.2.1 k (by omega)).mov (fun j hj => by rw [(aO _).2 (by omega) (by omega)]; exact congrArg (G 4) (by omega))
  · have c : ∀ j, j < 5 → A (5 * (n + 1) + j) = G 4 (5 * n + j) := fun j hj => by
      rw [(aO _).2 (by omega) (by omega)]; exact congrArg (G 4) (by omega)
    have c0 : A (5 * (n + 1)) = G 4 (5 * n) := c 0 (by decide)
    rw [c 4 (by decide), c0, c 1 (by decide), c 2 (by decide), c 3 (by decide)]
    exact ho.2.2.1
  · rcases Nat.lt_trichotomy (h + 1) p with hp | hp | hp
    · rw [(aO _).1 (by omega), (aO _).1 (by omega)]
      exact hlast h (by omega)
    · rw [hp, aN.1, (aO _).1 (by omega)]
      have := hpre (by omega)
      rw [show p - 1 = h by omega] at this
      exact this
    · by_cases e : h = p
      · subst e
        rw [aN.1, (aO _).2 (by omega) (by omega), show 5 * (h + 1) + 4 - 5 = 5 * h + 4 by omega]
        exact hpost
      · rw [(aO _).2 (by omega) (by omega), (aO _).2 (by omega) (by omega), show 5 * (h + 1) + 4 - 5 = 5 * h + 4 by omega]
        have := hlast (h - 1) (by omega)
        rw [show 5 * (h - 1 + 1) + 4 = 5 * h + 4 by omega] at this
        rw [show 5 * h + 4 - 5 = 5 * (h - 1) + 4 by omega]
        exact this
theorem ok_heading {x1 x2 x3 x4 x5 : Int32} : OpOK 1 [.ref 1, .int x1, .int x2, .int x3, .int x4, .int x5, .retAddr 0] := fun _ _ _ _ hD w hr => by
  obtain ⟨r, G', a, b, c, _⟩ := hd_ok (x1 := x1) (x2 := x2) (x3 := x3) (x4 := x4) (x5 := x5) hD w hr
  exact ⟨r, G', a, b, c⟩
