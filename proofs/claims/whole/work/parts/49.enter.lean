-- 49: enter
theorem ok_enter {x : Int32} : OpOK 9 [.ref 1, .int x, .retAddr 0, .retAddr 0, .retAddr 0] 145 [.ref 90, .int x, .retAddr 0] := by
  intro D G H hD w hr h0
  obtain ⟨gn, gl, i4, v2, hg⟩ := hr.goods
  by_cases hx : ∃ g : Nat, g < gn ∧ x = nI g
  · obtain ⟨g, g1, rfl⟩ := hx
    have hx1 : 0 ≤ nI g ∧ nI g < G 2 4 := by rw [i4]; exact (good_iff gl).mpr ⟨g, g1, rfl⟩
    have hx2 : 0 ≤ nI g ∧ nI g ≤ H 91 2 - 1 := by rw [v2]; exact (good_iff2 gl).mpr ⟨g, g1, rfl⟩
    have gl' : g < 12 := by omega
    have qc : HRg (G 6) (H 91) g := hg g g1
    have qq := qc
    obtain ⟨a1, a2, a3, a4, a5, a6, a7, a8, a9, a10, a11, a12, a13, a14, a15, a16, a17, a18⟩ := qq
    have n2 : ¬ bI (0 ≤ nI g ∧ nI g ≤ H 91 2 - 1) = 0 := bIn.mpr hx2
    have n1 : ¬ bI (0 ≤ nI g ∧ nI g < G 2 4) = 0 := bIn.mpr hx1
    have Z7 : zin (63 + 22 * nI g + 7) 327 = true := mzin (K := 7) (by decide) gl' (by decide)
    have Z8 : zin (63 + 22 * nI g + 8) 327 = true := mzin (K := 8) (by decide) gl' (by decide)
    have Z10 : zin (63 + 22 * nI g + 10) 327 = true := mzin (K := 10) (by decide) gl' (by decide)
    have Z11 : zin (63 + 22 * nI g + 11) 327 = true := mzin (K := 11) (by decide) gl' (by decide)
    have M7 : (63 + 22 * nI g + 7).toNatClampNeg = 70 + 22 * g := mcl2 (K := 7) (by decide) gl' (by decide) (by omega)
    have M8 : (63 + 22 * nI g + 8).toNatClampNeg = 71 + 22 * g := mcl2 (K := 8) (by decide) gl' (by decide) (by omega)
    have M10 : (63 + 22 * nI g + 10).toNatClampNeg = 73 + 22 * g := mcl2 (K := 10) (by decide) gl' (by decide) (by omega)
    have M11 : (63 + 22 * nI g + 11).toNatClampNeg = 74 + 22 * g := mcl2 (K := 11) (by decide) gl' (by decide) (by omega)
    have t3 : tget G 5 6 276 (nI g) 3 = G 6 (23 * g + 3) := gd_get (j := 3) w rfl (by decide) gl' (by omega)
    have m7 : H 91 (70 + 22 * g) = G 6 (23 * g + 3) := a4.symm
    obtain ⟨e5, e6, e7, e8, e9, e10⟩ := hr.e
    obtain ⟨m, d1, d2, d3⟩ := hr.purse
    have p3 : G 2 6 = nI m := d3
    have pv : H 91 3 = nI m := e6.symm.trans d3
    have mk : zden 145 0 [.ref 90, .int (nI g), .retAddr 0] [] (zSH, H) = _ := B_M_enters_0 (fun _ => Z7) (fun _ _ => Z11) (fun _ _ => Z7)
    rw [if_pos n2, M7, m7, M11] at mk
    have ck : zden 9 0 [.ref 1, .int (nI g), .retAddr 0, .retAddr 0, .retAddr 0] [] (zSH, G) = _ := B_Cl_letIn_0
    rw [if_pos n1, t3] at ck
    by_cases hs : G 6 (23 * g + 3) = 0
    rotate_left
    · rw [if_neg hs] at mk ck
      rw [B_Cl_refuse_0, zaft_same] at ck
      exact ⟨-14, zup (zup G 1 1 3) 1 2 (G 6 (23 * g + 3)), zup (zup (zup H 90 2 3) 90 3 (G 6 (23 * g + 3))) 90 0 (-14), ck.trans B_Cl_letIn_37, mk, opFr_ref, opEnd_ref hr (by decide)⟩
    rw [if_pos hs] at mk ck
    rcases origin_same w gl' qc with ⟨o1, o2, o3⟩ | ⟨b, hb, o1, o2, o3⟩
    · rw [o1, zaft_same] at ck
      have ck := ck.trans B_Cl_letIn_46
      rw [if_neg (by decide), B_Cl_refuse_0, zaft_same] at ck
      rw [if_neg (fun q => q o3)] at mk
      exact ⟨-14, zup (zup G 1 1 4) 1 2 (nI g), zup (zup (zup H 90 2 4) 90 3 (nI g)) 90 0 (-14), ck.trans B_Cl_letIn_57, mk, opFr_ref, opEnd_ref hr (by decide)⟩
    rw [o1, zaft_same] at ck
    have ck := ck.trans B_Cl_letIn_46
    obtain ⟨d, hd, u1, u2⟩ := duty_same w hr i4 gl g1 qc hb
    rw [if_pos (nI_pos' (by omega)), u1, zaft_same] at ck
    have ck := ck.trans B_Cl_letIn_67
    rw [if_pos o3, o2, zaft_same] at mk
    have mk := mk.trans B_M_enters_74
    rw [u2, zaft_same] at mk
    have mk := mk.trans (B_M_enters_77 (fun _ => Z8) (fun _ => Z7) (fun _ => Z10))
    rw [pv, M7, M8, M10] at mk
    rw [p3] at ck
    by_cases hdm : d ≤ m
    rotate_left
    · rw [if_neg (nI_ge (by omega) (by omega)), B_Cl_refuse_0, zaft_same] at ck
      rw [if_neg (nI_ge (by omega) (by omega))] at mk
      exact ⟨-14, zup (zup G 1 1 5) 1 2 (nI d - nI m), zup (zup (zup H 90 2 5) 90 3 (nI d - nI m)) 90 0 (-14), ck.trans B_Cl_letIn_96, mk, opFr_ref, opEnd_ref hr (by decide)⟩
    rw [if_pos (nI_le hdm (by omega)), pk_sub hdm] at ck mk
    have wa : zWT (zup (zup G 2 6 (nI (m - d))) 2 8 (zup G 2 6 (nI (m - d)) 2 8 + nI d)) := (w.zup (by decide) (by decide) (by decide)).zup (by decide) (by decide) (by decide)
    have s : ∀ (X : Nat → Nat → Int32) (col : Int32) (j : Nat) (x : Int32), zWT X → col = nI j → j < 23 → tset X 5 6 276 (nI g) col x = zup X 6 (23 * g + j) x := fun X col j x hX hc hj => gd_set hX rfl hc gl' hj
    have wz : ∀ (X : Nat → Nat → Int32) (k : Nat) (x : Int32), zWT X → zWT (zup X 6 k x) := fun X k x hX => hX.zup (by decide) (by decide) (by decide)
    rw [s _ 3 3 _ wa (by decide) (by decide), s _ 5 5 _ (wz _ _ _ wa) (by decide) (by decide), s _ 7 7 _ (wz _ _ _ (wz _ _ _ wa)) (by decide) (by decide)] at ck
    simp (disch := omega) only [zup_rk, zup_ro] at ck
    simp (disch := omega) only [zup_rk] at mk
    obtain ⟨dd, dd1, dd2, dd3⟩ := hr.day
    have day : G 2 5 = nI dd := dd3
    have dayv : H 91 0 = nI dd := e5.symm.trans dd3
    refine ⟨nI d, _, _, ck, mk, ⟨fun i a b c d e => by simp only [zup_ro a, zup_ro b, zup_ro c, zup_ro d, zup_ro e], fun i a b => by simp only [zup_ro b], fun j a b c => by simp (disch := omega) only [zup_ro]⟩, .inl ⟨nI_pos' (by omega), ?_, by simp (disch := omega) only [zup_ro], by simp (disch := omega) only [zup_ro]⟩⟩
    refine HR.upd hr ?_ ?_ ?_ ?_ ?_ ?_ ?_ ?_ ?_ ?_ ?_ ?_ (fun j h1 h2 => ?_) (fun b hb => ?_) (fun gm o ho hm ol og => ?_) (fun gm o j ho h1 h2 h3 => ?_)
    · simp (disch := omega) only [zup_rk, zup_ro]
    · simp (disch := omega) only [zup_rk, zup_ro]
    · simp (disch := omega) only [zup_rk, zup_ro]; exact e5
    · simp (disch := omega) only [zup_rk, zup_rr, zup_ro]
    · simp (disch := omega) only [zup_rk, zup_ro]; exact e7
    · simp (disch := omega) only [zup_rk, zup_rr, zup_ro]; rw [e8]
    · simp (disch := omega) only [zup_rk, zup_ro]; exact e9
    · simp (disch := omega) only [zup_rk, zup_ro]; exact e10
    · simp (disch := omega) only [zup_rk, zup_ro]; exact hr.day.mono (by omega)
    · simp (disch := omega) only [zup_rk, zup_rr, zup_ro]; exact ⟨m - d, by omega, by omega, rfl⟩
    · simp (disch := omega) only [zup_rk]
    · simp (disch := omega) only [zup_rk]
    · simp (disch := omega) only [zup_rk]
    · simp (disch := omega) only [zup_rk, zup_ro]; exact hr.fav b hb
    · by_cases hog : o = g
      · subst hog
        refine HRg.chg qc (fun j hj => ?_) (fun j h1 h2 => ?_) ?_ ?_ ?_ ?_ ?_ (fun b hb => ?_) ?_ ?_ ?_ ?_
        · simp (disch := omega) only [zup_rk, zup_ro]
        · simp (disch := omega) only [zup_rk]
        · simp (disch := omega) only [zup_rk, zup_rr, zup_ro]
        · simp (disch := omega) only [zup_rk, zup_rr, zup_ro]
        · simp (disch := omega) only [zup_rk, zup_ro]; exact a7
        · refine .inr ⟨?_, ?_⟩
          · simp (disch := omega) only [zup_rr]; rw [day]; exact nI_pos' (by omega)
          · simp (disch := omega) only [zup_rr]; rw [day, dayv]
        · simp (disch := omega) only [zup_rk, zup_ro]; exact a9
        · simp (disch := omega) only [zup_rk, zup_ro]; exact a11 b hb
        · simp (disch := omega) only [zup_rk, zup_rr, zup_ro]; exact ⟨1, by omega, by omega, by decide⟩
        · simp (disch := omega) only [zup_rk, zup_rr, zup_ro]; exact ⟨d, by omega, hd, rfl⟩
        · simp (disch := omega) only [zup_rr]; rw [day]; exact fun _ => nI_pos' (by omega)
        · obtain ⟨wn, w1, w2, w3, w4, w5⟩ := a18
          refine ⟨wn, w1, ?_, fun c hc => ?_, fun q c hc => ?_, fun q => ?_⟩
          · simp (disch := omega) only [zup_rk, zup_ro]; exact w2
          · simp (disch := omega) only [zup_rk, zup_ro]; exact w3 c hc
          · simp (disch := omega) only [zup_rk, zup_ro]; exact w4 q c hc
          · obtain ⟨c, hc, hn⟩ := w5 q
            exact ⟨c, hc, by simp (disch := omega) only [zup_rk, zup_ro]; exact hn⟩
      · exact og.congr (fun j h1 h2 => by simp (disch := omega) only [zup_rk, zup_ro]) (fun j h1 h2 => by simp (disch := omega) only [zup_rk])
    · have : gm = gn := (nI_eq (by omega) (by omega)).mp (ho.symm.trans v2)
      simp (disch := omega) only [zup_rk, zup_ro]
  · have n1 : ¬ (0 ≤ x ∧ x < G 2 4) := by rw [i4, good_iff gl]; exact hx
    have n2 : ¬ (0 ≤ x ∧ x ≤ H 91 2 - 1) := by rw [v2, good_iff2 gl]; exact hx
    refine ⟨-11, G, zup H 90 0 (-11), ?_, ?_, opFr_no, opEnd_no hr (by decide)⟩
    · rw [B_Cl_letIn_0, if_neg (fun q => n1 (bIn.mp q))]
    · rw [B_M_enters_0 (fun q => absurd (bIn.mp q) n2) (fun q => absurd (bIn.mp q) n2) (fun q => absurd (bIn.mp q) n2), if_neg (fun q => n2 (bIn.mp q))]
