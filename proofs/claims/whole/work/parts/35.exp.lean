-- 35: export
theorem ok_export {x : Int32} : OpOK 10 [.ref 1, .int x, .retAddr 0, .retAddr 0] 147 [.ref 90, .int x, .retAddr 0] := by
  intro D G H hD w hr h0
  obtain ⟨gn, gl, i4, v2, hg⟩ := hr.goods
  by_cases hx : ∃ g : Nat, g < gn ∧ x = nI g
  · obtain ⟨g, g1, rfl⟩ := hx
    have hx1 : 0 ≤ nI g ∧ nI g < G 2 4 := by rw [i4]; exact (good_iff gl).mpr ⟨g, g1, rfl⟩
    have hx2 : 0 ≤ nI g ∧ nI g ≤ H 91 2 - 1 := by rw [v2]; exact (good_iff2 gl).mpr ⟨g, g1, rfl⟩
    have gl' : g < 12 := by omega
    have qc := hg g g1
    have qq := qc
    obtain ⟨a1, a2, a3, a4, a5, a6, a7, a8, a9, a10, a11, a12, a13, a14, a15, a16, a17, a18⟩ := qq
    have n2 : ¬ bI (0 ≤ nI g ∧ nI g ≤ H 91 2 - 1) = 0 := bIn.mpr hx2
    have n1 : ¬ bI (0 ≤ nI g ∧ nI g < G 2 4) = 0 := bIn.mpr hx1
    have Z7 : zin (63 + 22 * nI g + 7) 327 = true := mzin (K := 7) (by decide) gl' (by decide)
    have Z8 : zin (63 + 22 * nI g + 8) 327 = true := mzin (K := 8) (by decide) gl' (by decide)
    have Z9 : zin (63 + 22 * nI g + 9) 327 = true := mzin (K := 9) (by decide) gl' (by decide)
    have Z10 : zin (63 + 22 * nI g + 10) 327 = true := mzin (K := 10) (by decide) gl' (by decide)
    have M7 : (63 + 22 * nI g + 7).toNatClampNeg = 70 + 22 * g := mcl2 (K := 7) (by decide) gl' (by decide) (by omega)
    have M8 : (63 + 22 * nI g + 8).toNatClampNeg = 71 + 22 * g := mcl2 (K := 8) (by decide) gl' (by decide) (by omega)
    have M9 : (63 + 22 * nI g + 9).toNatClampNeg = 72 + 22 * g := mcl2 (K := 9) (by decide) gl' (by decide) (by omega)
    have M10 : (63 + 22 * nI g + 10).toNatClampNeg = 73 + 22 * g := mcl2 (K := 10) (by decide) gl' (by decide) (by omega)
    have t3 : tget G 5 6 276 (nI g) 3 = G 6 (23 * g + 3) := gd_get (j := 3) w rfl (by decide) gl' (by omega)
    have t5 : tget G 5 6 276 (nI g) 5 = G 6 (23 * g + 5) := gd_get (j := 5) w rfl (by decide) gl' (by omega)
    have t7 : tget G 5 6 276 (nI g) 7 = G 6 (23 * g + 7) := gd_get (j := 7) w rfl (by decide) gl' (by omega)
    have m7 : H 91 (70 + 22 * g) = G 6 (23 * g + 3) := a4.symm
    have m8 : H 91 (71 + 22 * g) = G 6 (23 * g + 5) := a6.symm
    obtain ⟨e5, e6, e7, e8, e9, e10⟩ := hr.e
    obtain ⟨d, d1, d2, d3⟩ := hr.purse
    have core : ∀ (b : Nat) (s : Int32), b ≤ 1782 → ∃ (G' H' : Nat → Nat → Int32), zden 10 91 [.ref 1, .int (nI g), .int s, .int (nI b)] [] (zSH, G) = some (some (.int (nI b)), (zSH, G')) ∧ zden 147 96 [.ref 90, .int (nI g), .retAddr 0] [.int (nI b)] (zSH, H) = some (some (.int (nI b)), (zSH, H')) ∧ opFr G G' H H' ∧ opEnd D (nI b) G G' H H' := by
      intro b s hb
      have wa : zWT (zup (zup G 2 6 (nI (d + b))) 2 9 (G 2 9 + nI b)) := (w.zup (by decide) (by decide) (by decide)).zup (by decide) (by decide) (by decide)
      refine ⟨zup (zup (zup (zup G 2 6 (nI (d + b))) 2 9 (G 2 9 + nI b)) 6 (23 * g + 3) 2) 6 (23 * g + 6) (nI b), zup (zup (zup (zup H 91 (70 + 22 * g) 2) 91 (72 + 22 * g) (nI b)) 91 3 (nI (d + b))) 91 6 (H 91 6 + nI b), ?_, ?_, ?_, ?_⟩
      · have d3' : G 2 6 = nI d := d3
        have f1 : zup G 2 6 (nI (d + b)) 2 9 = G 2 9 := zup_rk (by decide)
        have f2 : ∀ X : Nat → Nat → Int32, zWT X → tset X 5 6 276 (nI g) 3 2 = zup X 6 (23 * g + 3) 2 := fun X hX => gd_set (j := 3) hX rfl (by decide) gl' (by omega)
        have f3 : ∀ X : Nat → Nat → Int32, zWT X → tset X 5 6 276 (nI g) 6 (nI b) = zup X 6 (23 * g + 6) (nI b) := fun X hX => gd_set (j := 6) hX rfl (by decide) gl' (by omega)
        rw [B_Cl_letOut_91, d3', nI_add, f1, f2 _ wa, f3 _ (wa.zup (by decide) (by decide) (by decide))]
      · rw [B_M_exports_96 Z7 Z9, M7, M9]
        have d3' : H 91 3 = nI d := e6.symm.trans d3
        simp (disch := omega) only [zup_rk, zup_rr, d3', nI_add]
      · exact ⟨fun i a b c d e => by simp only [zup_ro a, zup_ro b, zup_ro c, zup_ro d, zup_ro e], fun i a b => by simp only [zup_ro b], fun j a b c => by simp (disch := omega) only [zup_ro]⟩
      · refine .inl ⟨nI_pos' (by omega), ?_, by simp (disch := omega) only [zup_ro], by simp (disch := omega) only [zup_ro]⟩
        refine HR.upd hr ?_ ?_ ?_ ?_ ?_ ?_ ?_ ?_ ?_ ?_ ?_ ?_ (fun j h1 h2 => ?_) (fun b hb => ?_) (fun gm o ho hm ol og => ?_) (fun gm o j ho h1 h2 h3 => ?_)
        · simp (disch := omega) only [zup_rk, zup_ro]
        · simp (disch := omega) only [zup_rk, zup_ro]
        · simp (disch := omega) only [zup_rk, zup_ro]; exact e5
        · simp (disch := omega) only [zup_rk, zup_rr, zup_ro]
        · simp (disch := omega) only [zup_rk, zup_ro]; exact e7
        · simp (disch := omega) only [zup_rk, zup_ro]; exact e8
        · simp (disch := omega) only [zup_rk, zup_rr, zup_ro]; rw [e9]
        · simp (disch := omega) only [zup_rk, zup_ro]; exact e10
        · simp (disch := omega) only [zup_rk, zup_ro]; exact hr.day.mono (by omega)
        · simp (disch := omega) only [zup_rk, zup_rr, zup_ro]; exact ⟨d + b, by omega, by omega, rfl⟩
        · simp (disch := omega) only [zup_rk]
        · simp (disch := omega) only [zup_rk]
        · simp (disch := omega) only [zup_rk]
        · simp (disch := omega) only [zup_rk, zup_ro]; exact hr.fav b hb
        · by_cases hog : o = g
          · subst hog
            refine HRg.chg qc (fun j hj => ?_) (fun j h1 h2 => ?_) ?_ ?_ ?_ ?_ ?_ (fun b hb => ?_) ?_ ?_ ?_ ?_
            · simp (disch := omega) only [zup_rk, zup_ro]
            · simp (disch := omega) only [zup_rk]
            · simp (disch := omega) only [zup_rk, zup_rr, zup_ro]
            · simp (disch := omega) only [zup_rk, zup_ro]; exact a6
            · simp (disch := omega) only [zup_rk, zup_rr, zup_ro]
            · simp (disch := omega) only [zup_rk, zup_ro]; exact a8
            · simp (disch := omega) only [zup_rk, zup_ro]; exact a9
            · simp (disch := omega) only [zup_rk, zup_ro]; exact a11 b hb
            · simp (disch := omega) only [zup_rk, zup_rr, zup_ro]; exact ⟨2, by omega, by omega, by decide⟩
            · simp (disch := omega) only [zup_rk, zup_ro]; exact a16
            · simp (disch := omega) only [zup_rk, zup_rr, zup_ro]; exact fun q => absurd q (by decide)
            · obtain ⟨wn, w1, w2, w3, w4, w5⟩ := a18
              refine ⟨wn, w1, ?_, fun c hc => ?_, fun q c hc => ?_, fun q => ?_⟩
              · simp (disch := omega) only [zup_rk, zup_ro]; exact w2
              · simp (disch := omega) only [zup_rk, zup_ro]; exact w3 c hc
              · simp (disch := omega) only [zup_rk, zup_ro]; exact w4 q c hc
              · obtain ⟨c, hc, hn⟩ := w5 q
                exact ⟨c, hc, by simp (disch := omega) only [zup_rk, zup_ro]; exact hn⟩
          · exact og.congr (fun j h1 h2 => by simp (disch := omega) only [zup_rk, zup_ro]) (fun j h1 h2 => by simp (disch := omega) only [zup_rk])
        · have : gm = gn := (nI_eq (by omega) (by omega)).mp (ho.symm.trans v2)
          simp (disch := omega) only [zup_rk, zup_ro]
    have mk : zden 147 0 [.ref 90, .int (nI g), .retAddr 0] [] (zSH, H) = _ := B_M_exports_0 (fun _ => Z7) (fun _ _ => Z7) (fun _ _ _ => Z10) (fun _ _ _ _ => Z8)
    rw [if_pos n2, M7, m7, M8, m8, M10] at mk
    have ck : zden 10 0 [.ref 1, .int (nI g), .retAddr 0, .retAddr 0] [] (zSH, G) = _ := B_Cl_letOut_0
    rw [if_pos n1, t3, t5, t7] at ck
    by_cases hs2 : G 6 (23 * g + 3) = 2
    · rw [if_neg (fun q => q hs2)] at mk ck
      refine ⟨-14, zup (zup G 1 1 3) 1 2 2, zup (zup (zup H 90 2 3) 90 3 2) 90 0 (-14), ?_, mk, opFr_ref, opEnd_ref hr (by decide)⟩
      rw [ck, hs2, B_Cl_refuse_0, zaft_same]
      exact B_Cl_letOut_38
    · rw [if_pos hs2] at mk ck
      by_cases hs1 : G 6 (23 * g + 3) = 1
      · rw [if_neg (fun q => q hs1)] at mk ck
        have en : H 91 (73 + 22 * g) = G 6 (23 * g + 7) := by
          rcases a8 with ⟨q, _⟩ | ⟨_, q⟩
          · have := a17 hs1
            have q' : G 6 (23 * g + 7) = -15 := q
            have this' : 0 ≤ G 6 (23 * g + 7) := this
            rw [q'] at this'
            exact absurd this' (by decide)
          · exact q.symm
        have e5' : H 91 0 = G 2 5 := e5.symm
        rw [en, e5'] at mk
        by_cases h30 : 30 < G 2 5 - G 6 (23 * g + 7)
        · rw [if_pos h30] at mk ck
          obtain ⟨G', H', c1, c2, c3⟩ := core 0 (G 6 (23 * g + 3)) (by omega)
          exact ⟨nI 0, G', H', ck.trans c1, mk.trans (B_M_exports_95.trans c2), c3⟩
        · rw [if_neg h30] at mk ck
          obtain ⟨p, p1, p2, p3⟩ := a16
          have p3' : G 6 (23 * g + 5) = nI p := p3
          have eb : G 6 (23 * g + 5) * 9 / 10 = nI (p * 9 / 10) := by rw [p3', nIlit_9, pk_mul, show (10 : Int32) = nI 10 by decide, pk_div (by omega) (by decide) (by decide)]
          rw [eb] at mk ck
          obtain ⟨G', H', c1, c2, c3⟩ := core (p * 9 / 10) (G 6 (23 * g + 3)) (by omega)
          exact ⟨nI (p * 9 / 10), G', H', ck.trans c1, mk.trans c2, c3⟩
      · rw [if_pos hs1] at mk ck
        obtain ⟨G', H', c1, c2, c3⟩ := core 0 (G 6 (23 * g + 3)) (by omega)
        exact ⟨nI 0, G', H', ck.trans c1, mk.trans (B_M_exports_95.trans c2), c3⟩
  · have n1 : ¬ (0 ≤ x ∧ x < G 2 4) := by rw [i4, good_iff gl]; exact hx
    have n2 : ¬ (0 ≤ x ∧ x ≤ H 91 2 - 1) := by rw [v2, good_iff2 gl]; exact hx
    refine ⟨-11, G, zup H 90 0 (-11), ?_, ?_, opFr_no, opEnd_no hr (by decide)⟩
    · rw [B_Cl_letOut_0, if_neg (fun q => n1 (bIn.mp q))]
    · rw [B_M_exports_0 (fun q => absurd (bIn.mp q) n2) (fun q => absurd (bIn.mp q) n2) (fun q => absurd (bIn.mp q) n2) (fun q => absurd (bIn.mp q) n2), if_neg (fun q => n2 (bIn.mp q))]
