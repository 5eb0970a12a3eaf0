-- 34: work
theorem mix {k : Int32} {K g : Nat} (hk : k = nI K) : 63 + 22 * nI g + k = nI (63 + 22 * g + K) := by
  rw [hk, show (63 : Int32) = nI 63 by decide, show (22 : Int32) = nI 22 by decide, pk_mul, nI_add, nI_add]
theorem mcl {k : Int32} {K g : Nat} (hk : k = nI K) (hg : g < 12) (hK : K < 22) : (63 + 22 * nI g + k).toNatClampNeg = 63 + 22 * g + K := by
  rw [mix hk, nI_clamp (by omega)]
theorem mzin {k : Int32} {K g : Nat} (hk : k = nI K) (hg : g < 12) (hK : K < 22) : zin (63 + 22 * nI g + k) 327 = true := by
  rw [mix hk]; exact zin_nI (by omega) (by decide)
theorem HRg.chg {B v B' v' : Nat → Int32} {g : Nat} (h : HRg B v g) (hB : ∀ j, j = 0 ∨ j = 1 ∨ j = 2 ∨ j = 4 ∨ (9 ≤ j ∧ j < 13) → B' (23 * g + j) = B (23 * g + j)) (hv : ∀ j, 63 + 22 * g ≤ j → j < 70 + 22 * g → v' j = v j)
    (e3 : B' (23 * g + 3) = v' (70 + 22 * g)) (e5 : B' (23 * g + 5) = v' (71 + 22 * g)) (e6 : B' (23 * g + 6) = v' (72 + 22 * g)) (e7 : (B' (23 * g + 7) = -15 ∧ v' (73 + 22 * g) = -1) ∨ (0 ≤ B' (23 * g + 7) ∧ B' (23 * g + 7) = v' (73 + 22 * g))) (e8 : B' (23 * g + 8) = v' (74 + 22 * g))
    (ep : ∀ c, c < 5 → B' (23 * g + 13 + c) = v' (75 + 22 * g + c) ∧ B' (23 * g + 18 + c) = v' (80 + 22 * g + c) ∧ zR5 0 594 (B' (23 * g + 13 + c)) ∧ zR5 0 6 (B' (23 * g + 18 + c)))
    (s3 : zR5 0 2 (B' (23 * g + 3))) (s5 : zR5 0 1980 (B' (23 * g + 5))) (s7 : B' (23 * g + 3) = 1 → 0 ≤ B' (23 * g + 7))
    (ew : ∃ w : Nat, w ≤ 6 ∧ B' (23 * g + 8) = nI w ∧ (∀ c, c < 5 → ∃ k : Nat, k ≤ 99 * w ∧ B' (23 * g + 13 + c) = nI k) ∧ (w = 0 → ∀ c, c < 5 → B' (23 * g + 18 + c) = 0) ∧ (0 < w → ∃ c, c < 5 ∧ B' (23 * g + 13 + c) ≠ 0)) : HRg B' v' g := by
  obtain ⟨a1, a2, a3, a4, a5, a6, a7, a8, a9, a10, a11, a12, a13, a14, a15, a16, a17, a18⟩ := h
  have b0 : B' (23 * g) = B (23 * g) := hB 0 (by omega)
  have e9 : ∀ f, f < 4 → B' (23 * g + 9 + f) = B (23 * g + 9 + f) := fun f hf => by rw [show 23 * g + 9 + f = 23 * g + (9 + f) by omega]; exact hB _ (by omega)
  refine ⟨?_, ?_, ?_, e3, ?_, e5, e6, e7, e8, ?_, ep, ?_, ?_, ?_, s3, s5, s7, ew⟩
  · rw [b0, hv _ (by omega) (by omega)]; exact a1
  · rw [hB 1 (by omega), hv _ (by omega) (by omega)]; exact a2
  · rw [hB 2 (by omega), hv _ (by omega) (by omega)]; exact a3
  · rw [hB 4 (by omega), a5]
    exact chiefF_congr (by omega) ⟨0, by omega, by omega, rfl⟩ (fun j hj => (e9 j hj).symm)
  · intro f hf; rw [e9 f hf, hv _ (by omega) (by omega)]; exact a10 f hf
  · rw [b0]; exact a12
  · rw [hB 1 (by omega)]; exact a13
  · rw [hB 2 (by omega)]; exact a14
theorem HR.goods {D : Nat} {I A B C v : Nat → Int32} (h : HR D I A B C v) : ∃ gn : Nat, gn ≤ 12 ∧ I 4 = nI gn ∧ v 2 = nI gn ∧ ∀ g, g < gn → HRg B v g := by
  obtain ⟨n, gn, h1, h2, h3, h4, h5, h6, h7, h8, h9, h10, h11, h12, h13, h13b, h14, h15, h16, h17, h18, h19⟩ := h
  exact ⟨gn, h2, h5, h6, h18⟩
/-- is it a good -/
theorem good_iff {x : Int32} {gn : Nat} (h : gn ≤ 12) : (0 ≤ x ∧ x < nI gn) ↔ ∃ g : Nat, g < gn ∧ x = nI g := by
  constructor
  · intro q
    rcases pk_ix x (n := gn) (by omega) with h1 | h1 | h1
    · exact absurd q.1 (by rw [Int32.not_le]; exact h1)
    · exact absurd q.2 (by rw [Int32.not_lt]; exact h1)
    · exact h1
  · rintro ⟨g, hg, rfl⟩
    exact ⟨nI_pos' (by omega), nI_lt hg (by omega)⟩
theorem good_iff2 {x : Int32} {gn : Nat} (h : gn ≤ 12) : (0 ≤ x ∧ x ≤ nI gn - 1) ↔ ∃ g : Nat, g < gn ∧ x = nI g := by
  rw [← good_iff h]
  rcases Nat.eq_zero_or_pos gn with h0 | h0
  · subst h0
    constructor
    · intro q
      exact absurd (Int32.le_trans q.1 q.2) (by decide)
    · intro q
      exact absurd q.1 (by rw [Int32.not_le]; exact q.2)
  · obtain ⟨m, rfl⟩ : ∃ m, gn = m + 1 := ⟨gn - 1, by omega⟩
    rw [nI_pred]
    constructor
    · rintro ⟨q1, q2⟩
      refine ⟨q1, ?_⟩
      obtain ⟨k, k1, k2, rfl⟩ := nI_btw (A := 0) (B := m) rfl rfl (by omega) (by omega) ⟨q1, q2⟩
      exact nI_lt (by omega) (by omega)
    · rintro ⟨q1, q2⟩
      refine ⟨q1, ?_⟩
      obtain ⟨k, k1, rfl⟩ := (good_iff h).mp ⟨q1, q2⟩
      exact nI_le (by omega) (by omega)
theorem opFr_ref {G H : Nat → Nat → Int32} {a b : Int32} : opFr G (zup (zup G 1 1 a) 1 2 b) H (zup (zup (zup H 90 2 a) 90 3 b) 90 0 (-14)) :=
  ⟨fun i h _ _ _ _ => by rw [zup_ro h, zup_ro h], fun i h _ => by rw [zup_ro h, zup_ro h, zup_ro h], fun j h h2 h3 => by rw [zup_rk h, zup_rk h3, zup_rk h2]⟩
theorem opEnd_ref {D : Nat} {G H : Nat → Nat → Int32} {a b : Int32} (h : HRat D G 2 (H 91)) (ha : a ≠ 0) : opEnd D (-14) G (zup (zup G 1 1 a) 1 2 b) H (zup (zup (zup H 90 2 a) 90 3 b) 90 0 (-14)) := by
  refine .inr ⟨by decide, ?_, zup_rr, .inr ⟨?_, ?_, ?_⟩⟩
  · unfold HRat
    rw [zup_ro (show 2 ≠ 1 by decide), zup_ro (show 2 + 2 ≠ 1 by decide), zup_ro (show 2 + 4 ≠ 1 by decide), zup_ro (show 2 + 6 ≠ 1 by decide), zup_ro (show 2 ≠ 1 by decide), zup_ro (show 2 + 2 ≠ 1 by decide), zup_ro (show 2 + 4 ≠ 1 by decide), zup_ro (show 2 + 6 ≠ 1 by decide)]
    exact h
  · rw [zup_rk (by decide), zup_rr, zup_rk (by decide), zup_rk (by decide), zup_rr]
  · rw [zup_rr, zup_rk (by decide), zup_rr]
  · rw [zup_rk (by decide), zup_rk (by decide), zup_rr]; exact ha
theorem mcl2 {k : Int32} {K g N : Nat} (hk : k = nI K) (hg : g < 12) (hK : K < 22) (hN : 63 + 22 * g + K = N) : (63 + 22 * nI g + k).toNatClampNeg = N := by
  rw [mcl hk hg hK, hN]
theorem ok_work {x y z : Int32} : OpOK 6 [.ref 1, .int x, .int y, .int z, .retAddr 0, .retAddr 0, .retAddr 0, .retAddr 0] 129 [.ref 90, .int x, .int y, .int z] := by
  intro D G H hD w hr h0
  obtain ⟨gn, gl, i4, v2, hg⟩ := hr.goods
  by_cases hx : ∃ g : Nat, g < gn ∧ x = nI g
  · obtain ⟨g, g1, rfl⟩ := hx
    have hx1 : 0 ≤ nI g ∧ nI g < G 2 4 := by rw [i4]; exact (good_iff gl).mpr ⟨g, g1, rfl⟩
    have hx2 : 0 ≤ nI g ∧ nI g ≤ H 91 2 - 1 := by rw [v2]; exact (good_iff2 gl).mpr ⟨g, g1, rfl⟩
    have gl' : g < 12 := by omega
    have qq := hg g g1
    have qc := qq
    obtain ⟨a1, a2, a3, a4, a5, a6, a7, a8, a9, a10, a11, a12, a13, a14, a15, a16, a17, wn, w1, w2, w3, w4, w5⟩ := qq
    have Z7 : zin (63 + 22 * nI g + 7) 327 = true := mzin (K := 7) (by decide) gl' (by decide)
    have Z11 : zin (63 + 22 * nI g + 11) 327 = true := mzin (K := 11) (by decide) gl' (by decide)
    have n2 : ¬ bI (0 ≤ nI g ∧ nI g ≤ H 91 2 - 1) = 0 := bIn.mpr hx2
    have n1 : ¬ bI (0 ≤ nI g ∧ nI g < G 2 4) = 0 := bIn.mpr hx1
    by_cases hy : (0 : Int32) ≤ y ∧ y ≤ 4
    · obtain ⟨c, _, c2, rfl⟩ := nI_btw (A := 0) (B := 4) (by decide) (by decide) (by decide) (by decide) hy
      have k12 : (12 : Int32) + nI c = nI (12 + c) := by rw [show (12 : Int32) = nI 12 by decide, nI_add]
      have k17 : (17 : Int32) + nI c = nI (17 + c) := by rw [show (17 : Int32) = nI 17 by decide, nI_add]
      have k13 : (13 : Int32) + nI c = nI (13 + c) := by rw [show (13 : Int32) = nI 13 by decide, nI_add]
      have k18 : (18 : Int32) + nI c = nI (18 + c) := by rw [show (18 : Int32) = nI 18 by decide, nI_add]
      have Z12 : zin (63 + 22 * nI g + (12 + nI c)) 327 = true := mzin k12 gl' (by omega)
      have Z17 : zin (63 + 22 * nI g + (17 + nI c)) 327 = true := mzin k17 gl' (by omega)
      have M7 : (63 + 22 * nI g + 7).toNatClampNeg = 70 + 22 * g := mcl2 (K := 7) (by decide) gl' (by decide) (by omega)
      have M11 : (63 + 22 * nI g + 11).toNatClampNeg = 74 + 22 * g := mcl2 (K := 11) (by decide) gl' (by decide) (by omega)
      have M12 : (63 + 22 * nI g + (12 + nI c)).toNatClampNeg = 75 + 22 * g + c := mcl2 k12 gl' (by omega) (by omega)
      have M17 : (63 + 22 * nI g + (17 + nI c)).toNatClampNeg = 80 + 22 * g + c := mcl2 k17 gl' (by omega) (by omega)
      by_cases hz : (1 : Int32) ≤ z ∧ z ≤ 99
      · obtain ⟨k, k1, k2, rfl⟩ := nI_btw (A := 1) (B := 99) (by decide) (by decide) (by decide) (by decide) hz
        have t3 : tget G 5 6 276 (nI g) 3 = G 6 (23 * g + 3) := gd_get (j := 3) w rfl (by decide) gl' (by omega)
        have t8 : tget G 5 6 276 (nI g) 8 = nI wn := (gd_get (j := 8) w rfl (by decide) gl' (by omega)).trans w2
        have m7 : H 91 (70 + 22 * g) = G 6 (23 * g + 3) := a4.symm
        have m11 : H 91 (74 + 22 * g) = nI wn := a9.symm.trans w2
        by_cases hs : G 6 (23 * g + 3) = 0
        · by_cases hw : wn < 6
          · obtain ⟨p, p1, p2⟩ := w3 c (by omega)
            obtain ⟨b1, b2, b3, b4⟩ := a11 c (by omega)
            have m12 : H 91 (75 + 22 * g + c) = nI p := b1.symm.trans p2
            have t13 : tget G 5 6 276 (nI g) (13 + nI c) = nI p := by rw [gd_get w rfl k13 gl' (by omega), ← Nat.add_assoc]; exact p2
            have e1 : tset G 5 6 276 (nI g) (13 + nI c) (nI (p + k)) = zup G 6 (23 * g + 13 + c) (nI (p + k)) := by rw [gd_set w rfl k13 gl' (by omega), ← Nat.add_assoc]
            have wa : zWT (zup G 6 (23 * g + 13 + c) (nI (p + k))) := w.zup (by decide) (by decide) (by decide)
            have e2 : ∀ X, tset (zup G 6 (23 * g + 13 + c) (nI (p + k))) 5 6 276 (nI g) 8 X = zup (zup G 6 (23 * g + 13 + c) (nI (p + k))) 6 (23 * g + 8) X := fun X => gd_set (j := 8) wa rfl (by decide) gl' (by omega)
            have wb : ∀ X, zWT (zup (zup G 6 (23 * g + 13 + c) (nI (p + k))) 6 (23 * g + 8) X) := fun X => wa.zup (by decide) (by decide) (by decide)
            have e3 : ∀ X, tset (zup (zup G 6 (23 * g + 13 + c) (nI (p + k))) 6 (23 * g + 8) X) 5 6 276 (nI g) (18 + nI c) X = zup (zup (zup G 6 (23 * g + 13 + c) (nI (p + k))) 6 (23 * g + 8) X) 6 (23 * g + 18 + c) X := fun X => by rw [gd_set (wb X) rfl k18 gl' (by omega), ← Nat.add_assoc]
            refine ⟨nI (p + k), zup (zup (zup (zup G 6 (23 * g + 13 + c) (nI (p + k))) 6 (23 * g + 8) (nI (wn + 1))) 6 (23 * g + 18 + c) (nI (wn + 1))) 2 10 (G 2 10 + 1),
              zup (zup (zup (zup H 91 (74 + 22 * g) (nI (wn + 1))) 91 (75 + 22 * g + c) (nI (p + k))) 91 (80 + 22 * g + c) (nI (wn + 1))) 91 7 (H 91 7 + 1), ?_, ?_, ?_, ?_⟩
            · rw [B_Cl_workOn_0, if_neg n1, if_pos (bIn.mpr hy), if_pos (bIn.mpr hz), t3, if_pos hs, t8, if_pos (by rw [show (6 : Int32) = nI 6 by decide]; exact nI_lt hw (by decide)), t13, nI_add, nI_1, e1, e2, e3]
              simp (disch := omega) only [zup_ro]
            · rw [B_M_worksOn_0 (fun _ _ _ => Z7) (fun _ _ _ _ => Z11) (fun _ _ _ _ _ => Z11) (fun _ _ _ _ _ => Z12) (fun _ _ _ _ _ => Z17) (fun _ _ _ _ => Z7), if_neg n2, if_pos (bIn.mpr hy), if_pos (bIn.mpr hz), M7, m7, if_pos hs, M11, m11, if_pos (by rw [show (6 : Int32) = nI 6 by decide, nI_eq (by omega) (by decide)]; omega), M12, M17]
              simp (disch := omega) only [zup_rr, zup_rk, m12, nI_add, nI_1]
            · exact ⟨fun i a b c d e => by simp only [zup_ro a, zup_ro b, zup_ro c, zup_ro d, zup_ro e], fun i a b => by simp only [zup_ro b], fun j a b c => by simp (disch := omega) only [zup_ro]⟩
            · refine .inl ⟨nI_pos' (by omega), ?_, by simp (disch := omega) only [zup_ro], by simp (disch := omega) only [zup_ro]⟩
              obtain ⟨e5, e6, e7, e8, e9, e10⟩ := hr.e
              refine HR.upd hr ?_ ?_ ?_ ?_ ?_ ?_ ?_ ?_ ?_ ?_ ?_ ?_ (fun j h1 h2 => ?_) (fun b hb => ?_) (fun gm o ho hm ol og => ?_) (fun gm o j ho h1 h2 h3 => ?_)
              · simp (disch := omega) only [zup_rk, zup_ro]
              · simp (disch := omega) only [zup_rk, zup_ro]
              · simp (disch := omega) only [zup_rk, zup_ro]; exact e5
              · simp (disch := omega) only [zup_rk, zup_ro]; exact e6
              · simp (disch := omega) only [zup_rk, zup_ro]; exact e7
              · simp (disch := omega) only [zup_rk, zup_ro]; exact e8
              · simp (disch := omega) only [zup_rk, zup_ro]; exact e9
              · rw [zup_rr, zup_rr, e10]
              · simp (disch := omega) only [zup_rk, zup_ro]; exact hr.day.mono (by omega)
              · simp (disch := omega) only [zup_rk, zup_ro]; exact hr.purse.mono (by omega)
              · simp (disch := omega) only [zup_rk]
              · simp (disch := omega) only [zup_rk]
              · simp (disch := omega) only [zup_rk]
              · simp (disch := omega) only [zup_rk, zup_ro]; exact hr.fav b hb
              · by_cases hog : o = g
                · subst hog
                  refine HRg.chg qc (fun j hj => ?_) (fun j h1 h2 => ?_) ?_ ?_ ?_ ?_ ?_ (fun b hb => ?_) ?_ ?_ ?_ ⟨wn + 1, by omega, ?_, fun b hb => ?_, fun q => by omega, fun _ => ⟨c, by omega, ?_⟩⟩
                  · simp (disch := omega) only [zup_rk, zup_ro]
                  · simp (disch := omega) only [zup_rk]
                  · simp (disch := omega) only [zup_rk, zup_ro]; exact a4
                  · simp (disch := omega) only [zup_rk, zup_ro]; exact a6
                  · simp (disch := omega) only [zup_rk, zup_ro]; exact a7
                  · simp (disch := omega) only [zup_rk, zup_ro]; exact a8
                  · simp (disch := omega) only [zup_rk, zup_rr, zup_ro]
                  · obtain ⟨f1, f2, f3, f4⟩ := a11 b hb
                    by_cases hbc : b = c
                    · subst hbc
                      simp (disch := omega) only [zup_rk, zup_rr, zup_ro]
                      exact ⟨trivial, trivial, ⟨p + k, by omega, by omega, rfl⟩, wn + 1, by omega, by omega, rfl⟩
                    · simp (disch := omega) only [zup_rk, zup_rr, zup_ro]
                      exact ⟨f1, f2, f3, f4⟩
                  · simp (disch := omega) only [zup_rk, zup_ro]; exact a15
                  · simp (disch := omega) only [zup_rk, zup_ro]; exact a16
                  · simp (disch := omega) only [zup_rk, zup_ro]; exact a17
                  · simp (disch := omega) only [zup_rk, zup_rr, zup_ro]
                  · by_cases hbc : b = c
                    · subst hbc
                      exact ⟨p + k, by omega, by simp (disch := omega) only [zup_rk, zup_rr, zup_ro]⟩
                    · obtain ⟨m, m1, m2⟩ := w3 b hb
                      exact ⟨m, by omega, by simp (disch := omega) only [zup_rk, zup_rr, zup_ro]; exact m2⟩
                  · simp (disch := omega) only [zup_rk, zup_rr, zup_ro]
                    exact nI_ne0 (by omega) (by omega)
                · exact og.congr (fun j h1 h2 => by simp (disch := omega) only [zup_rk, zup_ro]) (fun j h1 h2 => by simp (disch := omega) only [zup_rk])
              · have : gm = gn := (nI_eq (by omega) (by omega)).mp (ho.symm.trans v2)
                simp (disch := omega) only [zup_rk, zup_ro]
          · have h6 : wn = 6 := by omega
            subst h6
            refine ⟨-14, zup (zup G 1 1 1) 1 2 6, zup (zup (zup H 90 2 1) 90 3 6) 90 0 (-14), ?_, ?_, opFr_ref, opEnd_ref hr (by decide)⟩
            · rw [B_Cl_workOn_0, if_neg n1, if_pos (bIn.mpr hy), if_pos (bIn.mpr hz), t3, if_pos hs, t8, if_neg (by decide), B_Cl_refuse_0, zaft_same]
              exact B_Cl_workOn_89
            · rw [B_M_worksOn_0 (fun _ _ _ => Z7) (fun _ _ _ _ => Z11) (fun _ _ _ _ _ => Z11) (fun _ _ _ _ _ => Z12) (fun _ _ _ _ _ => Z17) (fun _ _ _ _ => Z7), if_neg n2, if_pos (bIn.mpr hy), if_pos (bIn.mpr hz), M7, m7, if_pos hs, M11, m11, if_neg (fun q => q (by decide))]
        · refine ⟨-14, zup (zup G 1 1 3) 1 2 (G 6 (23 * g + 3)), zup (zup (zup H 90 2 3) 90 3 (G 6 (23 * g + 3))) 90 0 (-14), ?_, ?_, opFr_ref, opEnd_ref hr (by decide)⟩
          · rw [B_Cl_workOn_0, if_neg n1, if_pos (bIn.mpr hy), if_pos (bIn.mpr hz), t3, if_neg hs, B_Cl_refuse_0, zaft_same]
            exact B_Cl_workOn_64
          · rw [B_M_worksOn_0 (fun _ _ _ => Z7) (fun _ _ _ _ => Z11) (fun _ _ _ _ _ => Z11) (fun _ _ _ _ _ => Z12) (fun _ _ _ _ _ => Z17) (fun _ _ _ _ => Z7), if_neg n2, if_pos (bIn.mpr hy), if_pos (bIn.mpr hz), M7, m7, if_neg hs]
      · refine ⟨-12, G, zup H 90 0 (-12), ?_, ?_, opFr_no, opEnd_no hr (by decide)⟩
        · rw [B_Cl_workOn_0, if_neg n1, if_pos (bIn.mpr hy), if_neg (fun q => hz (bIn.mp q))]
        · rw [B_M_worksOn_0 (fun _ _ _ => Z7) (fun _ _ _ _ => Z11) (fun _ _ _ _ _ => Z11) (fun _ _ _ _ _ => Z12) (fun _ _ _ _ _ => Z17) (fun _ _ _ _ => Z7), if_neg n2, if_pos (bIn.mpr hy), if_neg (fun q => hz (bIn.mp q))]
    · refine ⟨-11, G, zup H 90 0 (-11), ?_, ?_, opFr_no, opEnd_no hr (by decide)⟩
      · rw [B_Cl_workOn_0, if_neg n1, if_neg (fun q => hy (bIn.mp q))]
      · rw [B_M_worksOn_0 (fun _ q => absurd (bIn.mp q) hy) (fun _ q => absurd (bIn.mp q) hy) (fun _ q => absurd (bIn.mp q) hy) (fun _ q => absurd (bIn.mp q) hy) (fun _ q => absurd (bIn.mp q) hy) (fun _ q => absurd (bIn.mp q) hy), if_neg n2, if_neg (fun q => hy (bIn.mp q))]
        exact B_M_worksOn_15
  · have n1 : ¬ (0 ≤ x ∧ x < G 2 4) := by rw [i4, good_iff gl]; exact hx
    have n2 : ¬ (0 ≤ x ∧ x ≤ H 91 2 - 1) := by rw [v2, good_iff2 gl]; exact hx
    refine ⟨-11, G, zup H 90 0 (-11), ?_, ?_, opFr_no, opEnd_no hr (by decide)⟩
    · rw [B_Cl_workOn_0, if_pos (bIz.mpr n1)]
    · rw [B_M_worksOn_0 (fun q => absurd (bIn.mp q) n2) (fun q => absurd (bIn.mp q) n2) (fun q => absurd (bIn.mp q) n2) (fun q => absurd (bIn.mp q) n2) (fun q => absurd (bIn.mp q) n2) (fun q => absurd (bIn.mp q) n2), if_pos (bIz.mpr n2)]
      exact B_M_worksOn_15
