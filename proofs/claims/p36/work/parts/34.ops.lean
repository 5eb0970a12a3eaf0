-- 34: changes that leave the headings alone
def opFr (G G' : Nat → Nat → Int32) : Prop := ∀ i, i ≠ 1 → i ≠ 2 → i ≠ 4 → i ≠ 6 → i ≠ 8 → G' i = G i
def HIat (D n gn : Nat) (G : Nat → Nat → Int32) : Prop := HI D n gn (G 2) (G 4) (G 6) (G 8)
def hsame (G G' : Nat → Nat → Int32) : Prop := G' 2 = G 2 ∧ G' 4 = G 4 ∧ G' 6 = G 6 ∧ G' 8 = G 8
/-- a change: it answers a code and the house stays, or it is done -/
def opEnd (D n gn : Nat) (r : Int32) (G G' : Nat → Nat → Int32) : Prop := (r < 0 ∧ -14 ≤ r ∧ hsame G G') ∨ (zR5 0 100000000 r ∧ ∃ n' gn' : Nat, gn ≤ gn' ∧ HIat (D + 1) n' gn' G')
def OpOK (tc : Nat) (ac : List Value) : Prop := ∀ (D n gn : Nat) (G : Nat → Nat → Int32), D ≤ 6000 → zWT G → HIat D n gn G → ∃ (r : Int32) (G' : Nat → Nat → Int32), zden tc 0 ac [] (zSH, G) = some (some (.int r), (zSH, G')) ∧ opFr G G' ∧ opEnd D n gn r G G'
theorem opFr_rf {G : Nat → Nat → Int32} : opFr G G := fun _ _ _ _ _ _ => rfl
theorem opEnd_no {D n gn : Nat} {G : Nat → Nat → Int32} {r : Int32} (h1 : r < 0) (h2 : -14 ≤ r) : opEnd D n gn r G G := .inl ⟨h1, h2, rfl, rfl, rfl, rfl⟩
theorem opFr_ref {G : Nat → Nat → Int32} {a b : Int32} : opFr G (zup (zup G 1 1 a) 1 2 b) := fun i h _ _ _ _ => by rw [zup_ro h, zup_ro h]
theorem opEnd_ref {D n gn : Nat} {G : Nat → Nat → Int32} {a b : Int32} : opEnd D n gn (-14) G (zup (zup G 1 1 a) 1 2 b) :=
  .inl ⟨by decide, by decide, by rw [zup_ro (by decide), zup_ro (by decide)], by rw [zup_ro (by decide), zup_ro (by decide)], by rw [zup_ro (by decide), zup_ro (by decide)], by rw [zup_ro (by decide), zup_ro (by decide)]⟩
theorem HI.upd {D D' n gn : Nat} {I A B C I' B' C' : Nat → Int32} (h : HI D n gn I A B C) (hI3 : I' 3 = I 3) (hI4 : I' 4 = I 4) (hd : zR5 0 (99 * D') (I' 5)) (hp : zR5 0 (9999 * D') (I' 6)) (hC : ∀ c, c < 5 → zR5 0 100 (C' c)) (hB : ∀ g, g < gn → HRg B g → HRg B' g)
    (hz : ∀ g, gn ≤ g → g < 12 → ∀ j, j < 23 → B' (23 * g + j) = B (23 * g + j)) (s8 : I' 8 = sumB B' 5 gn) (s9 : I' 9 = sumB B' 6 gn) (s6 : I' 6 = I' 7 + I' 9 - I' 8) : HI D' n gn I' A B' C' := by
  obtain ⟨h1, h2, h3, h4, _, _, _, h8, h9, _⟩ := h
  exact ⟨h1, h2, hI3.trans h3, hI4.trans h4, hd, hp, hC, fun g q => hB g q (h8 g q), fun g g1 g2 j hj => (hz g g1 g2 j hj).trans (h9 g g1 g2 j hj), s8, s9, s6⟩
/-- a good of which some numbers change -/
theorem HRg.chg {B B' : Nat → Int32} {g : Nat} (h : HRg B g) (hB : ∀ j, j = 0 ∨ j = 1 ∨ j = 2 ∨ j = 4 ∨ (9 ≤ j ∧ j < 13) → B' (23 * g + j) = B (23 * g + j)) (e3 : zR5 0 2 (B' (23 * g + 3)))
    (e5 : ∃ p b : Nat, b ≤ p ∧ p ≤ 1980 ∧ B' (23 * g + 5) = nI p ∧ B' (23 * g + 6) = nI b) (e7 : B' (23 * g + 7) = -15 ∨ 0 ≤ B' (23 * g + 7)) (e0 : B' (23 * g + 3) = 0 → B' (23 * g + 7) = -15 ∧ B' (23 * g + 5) = 0) (e1 : B' (23 * g + 3) = 1 → 0 ≤ B' (23 * g + 7)) (e2 : B' (23 * g + 3) ≠ 2 → B' (23 * g + 6) = 0)
    (ew : ∃ w : Nat, w ≤ 6 ∧ B' (23 * g + 8) = nI w ∧ (∀ c, c < 5 → ∃ p l : Nat, p ≤ 99 * w ∧ l ≤ 6 ∧ B' (23 * g + 13 + c) = nI p ∧ B' (23 * g + 18 + c) = nI l ∧ (w = 0 → l = 0)) ∧ (0 < w → ∃ c, c < 5 ∧ B' (23 * g + 13 + c) ≠ 0)) : HRg B' g := by
  obtain ⟨a0, a1, a2, a3, a4, a5, a9, a10, a11, a12, a13, a14, a15⟩ := h
  have b0 : B' (23 * g) = B (23 * g) := hB 0 (by omega)
  have e9 : ∀ f, f < 4 → B' (23 * g + 9 + f) = B (23 * g + 9 + f) := fun f hf => by rw [show 23 * g + 9 + f = 23 * g + (9 + f) by omega]; exact hB _ (by omega)
  refine ⟨by rw [b0]; exact a0, by rw [hB 1 (by omega)]; exact a1, by rw [hB 2 (by omega)]; exact a2, e3, ?_, e5, e7, e0, e1, e2, fun f hf => by rw [e9 f hf]; exact a13 f hf, by rw [hB 9 (by omega), hB 10 (by omega), hB 11 (by omega), hB 12 (by omega)]; exact a14, ew⟩
  rw [hB 4 (by omega), a4]
  exact chiefF_congr (by omega) ⟨0, by omega, by omega, rfl⟩ (fun j hj => (e9 j hj).symm)
theorem HI.day {D n gn : Nat} {I A B C : Nat → Int32} (h : HI D n gn I A B C) : zR5 0 (99 * D) (I 5) := h.2.2.2.2.1
theorem HI.purse {D n gn : Nat} {I A B C : Nat → Int32} (h : HI D n gn I A B C) : zR5 0 (9999 * D) (I 6) := h.2.2.2.2.2.1
theorem HI.fav {D n gn : Nat} {I A B C : Nat → Int32} (h : HI D n gn I A B C) : ∀ c, c < 5 → zR5 0 100 (C c) := h.2.2.2.2.2.2.1
theorem HI.good {D n gn : Nat} {I A B C : Nat → Int32} (h : HI D n gn I A B C) : ∀ g, g < gn → HRg B g := h.2.2.2.2.2.2.2.1
theorem HI.i4 {D n gn : Nat} {I A B C : Nat → Int32} (h : HI D n gn I A B C) : I 4 = nI gn := h.2.2.2.1
theorem HI.i3 {D n gn : Nat} {I A B C : Nat → Int32} (h : HI D n gn I A B C) : I 3 = nI (n + 1) := h.2.2.1
theorem HI.gl {D n gn : Nat} {I A B C : Nat → Int32} (h : HI D n gn I A B C) : gn ≤ 12 := h.2.1
theorem HI.ho {D n gn : Nat} {I A B C : Nat → Int32} (h : HI D n gn I A B C) : hOK n A := h.1
theorem HI.s8 {D n gn : Nat} {I A B C : Nat → Int32} (h : HI D n gn I A B C) : I 8 = sumB B 5 gn := h.2.2.2.2.2.2.2.2.2.1
theorem HI.s9 {D n gn : Nat} {I A B C : Nat → Int32} (h : HI D n gn I A B C) : I 9 = sumB B 6 gn := h.2.2.2.2.2.2.2.2.2.2.1
theorem HI.s6 {D n gn : Nat} {I A B C : Nat → Int32} (h : HI D n gn I A B C) : I 6 = I 7 + I 9 - I 8 := h.2.2.2.2.2.2.2.2.2.2.2
-- days
theorem ex_goBy {G : Nat → Nat → Int32} {k d : Nat} (k1 : 1 ≤ k) (k2 : k ≤ 99) (hd : G 2 5 = nI d) : zden 11 0 [.ref 1, .int (nI k)] [] (zSH, G) = some (some (.int (nI (d + k))), (zSH, zup G 2 5 (nI (d + k)))) := by
  have hx : (1 : Int32) ≤ nI k ∧ nI k ≤ 99 := ⟨by rw [nIlit_1]; exact nI_le k1 (by omega), by rw [show (99 : Int32) = nI 99 by decide]; exact nI_le k2 (by decide)⟩
  rw [B_Cl_goBy_0, if_pos (bIn.mpr hx), hd, zup_rr, nI_add]
theorem ok_goBy {x : Int32} : OpOK 11 [.ref 1, .int x] := by
  intro D n gn G hD w hr
  by_cases hx : (1 : Int32) ≤ x ∧ x ≤ 99
  · obtain ⟨k, k1, k2, rfl⟩ := nI_btw (A := 1) (B := 99) (by decide) (by decide) (by decide) (by decide) hx
    obtain ⟨d, d1, d2, d3⟩ := hr.day
    refine ⟨nI (d + k), _, ex_goBy k1 k2 d3, fun i a b c d e => zup_ro b, .inr ⟨⟨d + k, by omega, by omega, rfl⟩, n, gn, Nat.le_refl _, ?_⟩⟩
    unfold HIat
    rw [zup_ro (show 4 ≠ 2 by decide), zup_ro (show 6 ≠ 2 by decide), zup_ro (show 8 ≠ 2 by decide)]
    refine HI.upd hr (zup_rk (by decide)) (zup_rk (by decide)) ⟨d + k, by omega, by omega, zup_rr⟩ ?_ hr.fav (fun g _ h => h) (fun _ _ _ _ _ => rfl) ?_ ?_ ?_
    · rw [zup_rk (by decide)]; exact hr.purse.mono (by omega)
    · rw [zup_rk (by decide)]; exact hr.s8
    · rw [zup_rk (by decide)]; exact hr.s9
    · rw [zup_rk (by decide), zup_rk (by decide), zup_rk (by decide), zup_rk (by decide)]; exact hr.s6
  · exact ⟨-12, G, by rw [B_Cl_goBy_0, if_neg (fun q => hx (bIn.mp q))], opFr_rf, opEnd_no (by decide) (by decide)⟩
-- coins
theorem ex_give {G : Nat → Nat → Int32} {k d : Nat} (k1 : 1 ≤ k) (k2 : k ≤ 9999) (hd : G 2 6 = nI d) : zden 8 0 [.ref 1, .int (nI k)] [] (zSH, G) = some (some (.int (nI (d + k))), (zSH, zup (zup G 2 7 (G 2 7 + nI k)) 2 6 (nI (d + k)))) := by
  have hx : (1 : Int32) ≤ nI k ∧ nI k ≤ 9999 := ⟨by rw [nIlit_1]; exact nI_le k1 (by omega), by rw [show (9999 : Int32) = nI 9999 by decide]; exact nI_le k2 (by decide)⟩
  rw [B_Cl_give_0, if_pos (bIn.mpr hx), zup_rr, zup_rk (show (6 : Nat) ≠ 7 by decide), hd, nI_add]
theorem ok_give {x : Int32} : OpOK 8 [.ref 1, .int x] := by
  intro D n gn G hD w hr
  by_cases hx : (1 : Int32) ≤ x ∧ x ≤ 9999
  · obtain ⟨k, k1, k2, rfl⟩ := nI_btw (A := 1) (B := 9999) (by decide) (by decide) (by decide) (by decide) hx
    obtain ⟨d, d1, d2, d3⟩ := hr.purse
    refine ⟨nI (d + k), _, ex_give k1 k2 d3, fun i a b c d e => by rw [zup_ro b, zup_ro b], .inr ⟨⟨d + k, by omega, by omega, rfl⟩, n, gn, Nat.le_refl _, ?_⟩⟩
    unfold HIat
    simp (disch := omega) only [zup_ro]
    refine HI.upd hr ?_ ?_ ?_ ?_ hr.fav (fun g _ h => h) (fun _ _ _ _ _ => rfl) ?_ ?_ ?_
    · simp (disch := omega) only [zup_rk]
    · simp (disch := omega) only [zup_rk]
    · simp (disch := omega) only [zup_rk]; exact hr.day.mono (by omega)
    · rw [zup_rr]; exact ⟨d + k, by omega, by omega, rfl⟩
    · simp (disch := omega) only [zup_rk]; exact hr.s8
    · simp (disch := omega) only [zup_rk]; exact hr.s9
    · simp (disch := omega) only [zup_rk, zup_rr]
      rw [← nI_add, ← d3, hr.s6]
      simp only [Int32.sub_eq_add_neg]
      ac_rfl
  · exact ⟨-12, G, by rw [B_Cl_give_0, if_neg (fun q => hx (bIn.mp q))], opFr_rf, opEnd_no (by decide) (by decide)⟩
-- favour
theorem ok_favour {x y : Int32} : OpOK 7 [.ref 1, .int x, .int y, .retAddr 0] := by
  intro D n gn G hD w hr
  by_cases hx : (0 : Int32) ≤ x ∧ x ≤ 4
  · obtain ⟨c, c1, c2, rfl⟩ := nI_btw (A := 0) (B := 4) (by decide) (by decide) (by decide) (by decide) hx
    by_cases hy : (0 : Int32) ≤ y ∧ y ≤ 100
    · obtain ⟨k, k1, k2, rfl⟩ := nI_btw (A := 0) (B := 100) (by decide) (by decide) (by decide) (by decide) hy
      refine ⟨G 8 c, zup G 8 c (nI k), ?_, fun i a b c d e => zup_ro e, .inr ⟨(hr.fav c (by omega)).mono (by omega), n, gn, Nat.le_refl _, ?_⟩⟩
      · rw [B_Cl_favourCountry_0, if_pos (bIn.mpr hx), if_pos (bIn.mpr hy), fv_get w rfl (by omega), fv_set w rfl (by omega)]
      · unfold HIat
        rw [zup_ro (show 2 ≠ 8 by decide), zup_ro (show 4 ≠ 8 by decide), zup_ro (show 6 ≠ 8 by decide)]
        refine HI.upd hr rfl rfl (hr.day.mono (by omega)) (hr.purse.mono (by omega)) (fun b hb => ?_) (fun g _ h => h) (fun _ _ _ _ _ => rfl) hr.s8 hr.s9 hr.s6
        by_cases hbc : b = c
        · subst hbc
          exact ⟨k, by omega, by omega, zup_rr⟩
        · rw [zup_rk hbc]; exact hr.fav b hb
    · exact ⟨-12, G, by rw [B_Cl_favourCountry_0, if_pos (bIn.mpr hx), if_neg (fun q => hy (bIn.mp q))], opFr_rf, opEnd_no (by decide) (by decide)⟩
  · exact ⟨-11, G, by rw [B_Cl_favourCountry_0, if_neg (fun q => hx (bIn.mp q))], opFr_rf, opEnd_no (by decide) (by decide)⟩
-- work
theorem ok_work {x y z : Int32} : OpOK 6 [.ref 1, .int x, .int y, .int z, .retAddr 0, .retAddr 0, .retAddr 0, .retAddr 0] := by
  intro D n gn G hD w hr
  have gl := hr.gl
  have i4 : G 2 4 = nI gn := hr.i4
  by_cases hx : ∃ g : Nat, g < gn ∧ x = nI g
  · obtain ⟨g, g1, rfl⟩ := hx
    have hx1 : 0 ≤ nI g ∧ nI g < G 2 4 := by rw [i4]; exact (good_iff gl).mpr ⟨g, g1, rfl⟩
    have gl' : g < 12 := by omega
    have qc := hr.good g g1
    have qq := qc
    obtain ⟨_, _, _, a3, _, a5, a9, a10, a11, a12, _, _, wn, w1, w2, w3, w4⟩ := qq
    have n1 : ¬ bI (0 ≤ nI g ∧ nI g < G 2 4) = 0 := bIn.mpr hx1
    by_cases hy : (0 : Int32) ≤ y ∧ y ≤ 4
    · obtain ⟨c, _, c2, rfl⟩ := nI_btw (A := 0) (B := 4) (by decide) (by decide) (by decide) (by decide) hy
      have k13 : (13 : Int32) + nI c = nI (13 + c) := by rw [show (13 : Int32) = nI 13 by decide, nI_add]
      have k18 : (18 : Int32) + nI c = nI (18 + c) := by rw [show (18 : Int32) = nI 18 by decide, nI_add]
      by_cases hz : (1 : Int32) ≤ z ∧ z ≤ 99
      · obtain ⟨k, k1, k2, rfl⟩ := nI_btw (A := 1) (B := 99) (by decide) (by decide) (by decide) (by decide) hz
        have t3 : tget G 5 6 276 (nI g) 3 = G 6 (23 * g + 3) := gd_get (j := 3) w rfl (by decide) gl' (by omega)
        have t8 : tget G 5 6 276 (nI g) 8 = nI wn := (gd_get (j := 8) w rfl (by decide) gl' (by omega)).trans w2
        by_cases hs : G 6 (23 * g + 3) = 0
        · by_cases hw : wn < 6
          · obtain ⟨p, l, p1, l1, p2, l2, l3⟩ := w3 c (by omega)
            have t13 : tget G 5 6 276 (nI g) (13 + nI c) = nI p := by rw [gd_get w rfl k13 gl' (by omega), ← Nat.add_assoc]; exact p2
            have e1 : tset G 5 6 276 (nI g) (13 + nI c) (nI (p + k)) = zup G 6 (23 * g + 13 + c) (nI (p + k)) := by rw [gd_set w rfl k13 gl' (by omega), ← Nat.add_assoc]
            have wa : zWT (zup G 6 (23 * g + 13 + c) (nI (p + k))) := w.zup (by decide) (by decide) (by decide)
            have e2 : ∀ X, tset (zup G 6 (23 * g + 13 + c) (nI (p + k))) 5 6 276 (nI g) 8 X = zup (zup G 6 (23 * g + 13 + c) (nI (p + k))) 6 (23 * g + 8) X := fun X => gd_set (j := 8) wa rfl (by decide) gl' (by omega)
            have wb : ∀ X, zWT (zup (zup G 6 (23 * g + 13 + c) (nI (p + k))) 6 (23 * g + 8) X) := fun X => wa.zup (by decide) (by decide) (by decide)
            have e3 : ∀ X, tset (zup (zup G 6 (23 * g + 13 + c) (nI (p + k))) 6 (23 * g + 8) X) 5 6 276 (nI g) (18 + nI c) X = zup (zup (zup G 6 (23 * g + 13 + c) (nI (p + k))) 6 (23 * g + 8) X) 6 (23 * g + 18 + c) X := fun X => by rw [gd_set (wb X) rfl k18 gl' (by omega), ← Nat.add_assoc]
            refine ⟨nI (p + k), zup (zup (zup (zup G 6 (23 * g + 13 + c) (nI (p + k))) 6 (23 * g + 8) (nI (wn + 1))) 6 (23 * g + 18 + c) (nI (wn + 1))) 2 10 (G 2 10 + 1), ?_, fun i a b c d e => by simp only [zup_ro b, zup_ro d], .inr ⟨⟨p + k, by omega, by omega, rfl⟩, n, gn, Nat.le_refl _, ?_⟩⟩
            · rw [B_Cl_workOn_0, if_neg n1, if_pos (bIn.mpr hy), if_pos (bIn.mpr hz), t3, if_pos hs, t8, if_pos (by rw [show (6 : Int32) = nI 6 by decide]; exact nI_lt hw (by decide)), t13, nI_add, nI_1, e1, e2, e3]
              simp (disch := omega) only [zup_ro]
            · unfold HIat
              simp (disch := omega) only [zup_ro]
              refine HI.upd hr ?_ ?_ ?_ ?_ hr.fav (fun o ol og => ?_) (fun o o1 o2 j hj => ?_) ?_ ?_ ?_
              · simp (disch := omega) only [zup_rk, zup_ro]
              · simp (disch := omega) only [zup_rk, zup_ro]
              · simp (disch := omega) only [zup_rk, zup_ro]; exact hr.day.mono (by omega)
              · simp (disch := omega) only [zup_rk, zup_ro]; exact hr.purse.mono (by omega)
              · by_cases hog : o = g
                · subst hog
                  refine HRg.chg qc (fun j hj => ?_) ?_ ?_ ?_ ?_ ?_ ?_ ⟨wn + 1, by omega, ?_, fun b hb => ?_, fun _ => ⟨c, by omega, ?_⟩⟩
                  · simp (disch := omega) only [zup_rk, zup_ro]
                  · simp (disch := omega) only [zup_rk, zup_ro]; exact a3
                  · simp (disch := omega) only [zup_rk, zup_ro]; exact a5
                  · simp (disch := omega) only [zup_rk, zup_ro]; exact a9
                  · simp (disch := omega) only [zup_rk, zup_ro]; exact a10
                  · simp (disch := omega) only [zup_rk, zup_ro]; exact a11
                  · simp (disch := omega) only [zup_rk, zup_ro]; exact a12
                  · simp (disch := omega) only [zup_rk, zup_rr, zup_ro]
                  · by_cases hbc : b = c
                    · subst hbc
                      exact ⟨p + k, wn + 1, by omega, by omega, by simp (disch := omega) only [zup_rk, zup_rr, zup_ro], by simp (disch := omega) only [zup_rk, zup_rr, zup_ro], fun q => by omega⟩
                    · obtain ⟨m, l', m1, m2, m3, m4, m5⟩ := w3 b hb
                      exact ⟨m, l', by omega, by omega, by simp (disch := omega) only [zup_rk, zup_rr, zup_ro]; exact m3, by simp (disch := omega) only [zup_rk, zup_rr, zup_ro]; exact m4, fun q => by omega⟩
                  · simp (disch := omega) only [zup_rk, zup_rr, zup_ro]
                    exact nI_ne0 (by omega) (by omega)
                · exact og.congr (fun j h1 h2 => by simp (disch := omega) only [zup_rk, zup_ro])
              · simp (disch := omega) only [zup_rk, zup_ro]
              · simp (disch := omega) only [zup_rk, zup_ro]; rw [hr.s8]; exact (sumB_congr (fun o _ => by simp (disch := omega) only [zup_rk, zup_ro])).symm
              · simp (disch := omega) only [zup_rk, zup_ro]; rw [hr.s9]; exact (sumB_congr (fun o _ => by simp (disch := omega) only [zup_rk, zup_ro])).symm
              · simp (disch := omega) only [zup_rk, zup_ro]; exact hr.s6
          · have h6 : wn = 6 := by omega
            subst h6
            refine ⟨-14, zup (zup G 1 1 1) 1 2 6, ?_, opFr_ref, opEnd_ref⟩
            rw [B_Cl_workOn_0, if_neg n1, if_pos (bIn.mpr hy), if_pos (bIn.mpr hz), t3, if_pos hs, t8, if_neg (by decide), B_Cl_refuse_0, zaft_same]
            exact B_Cl_workOn_89
        · refine ⟨-14, zup (zup G 1 1 3) 1 2 (G 6 (23 * g + 3)), ?_, opFr_ref, opEnd_ref⟩
          rw [B_Cl_workOn_0, if_neg n1, if_pos (bIn.mpr hy), if_pos (bIn.mpr hz), t3, if_neg hs, B_Cl_refuse_0, zaft_same]
          exact B_Cl_workOn_64
      · exact ⟨-12, G, by rw [B_Cl_workOn_0, if_neg n1, if_pos (bIn.mpr hy), if_neg (fun q => hz (bIn.mp q))], opFr_rf, opEnd_no (by decide) (by decide)⟩
    · exact ⟨-11, G, by rw [B_Cl_workOn_0, if_neg n1, if_neg (fun q => hy (bIn.mp q))], opFr_rf, opEnd_no (by decide) (by decide)⟩
  · have n1 : ¬ (0 ≤ x ∧ x < G 2 4) := by rw [i4, good_iff gl]; exact hx
    exact ⟨-11, G, by rw [B_Cl_workOn_0, if_pos (bIz.mpr n1)], opFr_rf, opEnd_no (by decide) (by decide)⟩
