-- 50: goods hold
section ZGo
variable {D n gn : Nat} {E : List zS} {rv : Nat → Int32 → Int32 → Int32} {r : Nat}
/-- one country of the inner loop -/
theorem go97 {G : Nat → Nat → Int32} {g t : Nat} {P W : Nat → Nat} {x1 x2 x3 x6 x8 : Int32} (hr : (zSH ++ E)[r]? = some (.inr (.int, 3, []))) (hr9 : 90 ≤ r ∧ r < 1000000) (hP : RDs G rv) (ht : t ≤ 1980)
    (hp : ∀ c, c < 5 → rv 80 (nI g) (nI c) = nI (P c) ∧ P c ≤ 594) (hw : ∀ c, c < 5 → rv 89 (nI g) (nI c) = nI (W c) ∧ W c ≤ t ∧ ((rv 98 11 0 >>> (nI c &&& 31)) &&& 1 = 0 → W c = t)) :
    ∀ (d c mo wo b : Nat) (le : Int32) (v14 v15 : Value), c + d = 5 → (∀ j, j < c → P j ≤ mo) → (mo = 0 ∨ ∃ j, j < c ∧ P j = mo) → wo ≤ 594 * c → (wo = 0 ↔ ∀ j, j < c → P j = 0) → ((c = 0 ∧ b = 0 ∧ le = 1000000) ∨ (0 < c ∧ b < 5 ∧ le = nI (W b))) → mo ≤ 594 →
    ∃ (mo' wo' : Nat) (le' : Int32) (v14' v15' : Value), zden 126 97 [.ref 0, .int x1, .int x2, .int x3, .ref r, .int (nI g), .int x6, .int (nI t), .int x8, .int (nI mo), .int le, .int (nI b), .int (nI wo), .int (nI c), v14, v15] [] (zSH ++ E, G) =
        zden 126 97 [.ref 0, .int x1, .int x2, .int x3, .ref r, .int (nI g), .int x6, .int (nI t), .int x8, .int (nI mo'), .int le', .int (nI (if c = 0 then chpF (fun c => nI (W c)) 4 1 0 else chpF (fun c => nI (W c)) d c b)), .int (nI wo'), .int 5, v14', v15'] [] (zSH ++ E, G) ∧
      (∀ j, j < 5 → P j ≤ mo') ∧ (mo' = 0 ∨ ∃ j, j < 5 ∧ P j = mo') ∧ wo' ≤ 594 * 5 ∧ (wo' = 0 ↔ ∀ j, j < 5 → P j = 0) ∧ mo' ≤ 594 := by
  intro d
  induction d with
  | zero =>
    intro c mo wo b le v14 v15 h h1 h2 h3 h4 h5 h6
    have h : c = 5 := by omega
    subst h
    refine ⟨mo, wo, le, v14, v15, ?_, h1, h2, h3, h4, h6⟩
    rw [if_neg (by decide)]
    rfl
  | succ d ih =>
    intro c mo wo b le v14 v15 h h1 h2 h3 h4 h5 h6
    have hn : ¬ (5 : Int32) ≤ nI c := by rw [nIlit_5]; exact nI_ge (by omega) (by decide)
    obtain ⟨p1, p2⟩ := hp c (by omega)
    obtain ⟨w1, w2, w3⟩ := hw c (by omega)
    have emx : (if nI mo < rv 80 (nI g) (nI c) then rv 80 (nI g) (nI c) else nI mo) = nI (if mo < P c then P c else mo) := by
      rw [p1]
      by_cases q : mo < P c
      · rw [if_pos q, if_pos (nI_lt q (by omega))]
      · rw [if_neg q, if_neg (nI_nlt (by omega) (by omega))]
    have gen : ∀ (b' : Nat) (le' : Int32), b' < 5 → le' = nI (W b') → zden 126 97 [.ref 0, .int x1, .int x2, .int x3, .ref r, .int (nI g), .int x6, .int (nI t), .int x8, .int (nI mo), .int le, .int (nI b), .int (nI wo), .int (nI c), v14, v15] [] (zSH ++ E, G) =
        zden 126 155 [.ref 0, .int x1, .int x2, .int x3, .ref r, .int (nI g), .int x6, .int (nI t), .int x8, .int (nI (if mo < P c then P c else mo)), .int le, .int (nI b), .int (nI (wo + P c)), .int (nI c), .int (nI (W c)), v15] [.int (nI b')] (zSH ++ E, G) → (if nI (W c) < le then nI (W c) else le) = le' →
        (if c = 0 then chpF (fun c => nI (W c)) 4 1 0 else chpF (fun c => nI (W c)) (d + 1) c b) = chpF (fun c => nI (W c)) d (c + 1) b' →
        ∃ (mo' wo' : Nat) (le' : Int32) (v14' v15' : Value), zden 126 97 [.ref 0, .int x1, .int x2, .int x3, .ref r, .int (nI g), .int x6, .int (nI t), .int x8, .int (nI mo), .int le, .int (nI b), .int (nI wo), .int (nI c), v14, v15] [] (zSH ++ E, G) =
            zden 126 97 [.ref 0, .int x1, .int x2, .int x3, .ref r, .int (nI g), .int x6, .int (nI t), .int x8, .int (nI mo'), .int le', .int (nI (if c = 0 then chpF (fun c => nI (W c)) 4 1 0 else chpF (fun c => nI (W c)) (d + 1) c b)), .int (nI wo'), .int 5, v14', v15'] [] (zSH ++ E, G) ∧
          (∀ j, j < 5 → P j ≤ mo') ∧ (mo' = 0 ∨ ∃ j, j < 5 ∧ P j = mo') ∧ wo' ≤ 594 * 5 ∧ (wo' = 0 ↔ ∀ j, j < 5 → P j = 0) ∧ mo' ≤ 594 := by
      intro b' le' hb' hle e1 e2 e3
      have e5 : zden 126 155 [.ref 0, .int x1, .int x2, .int x3, .ref r, .int (nI g), .int x6, .int (nI t), .int x8, .int (nI (if mo < P c then P c else mo)), .int le, .int (nI b), .int (nI (wo + P c)), .int (nI c), .int (nI (W c)), v15] [.int (nI b')] (zSH ++ E, G) =
          zden 126 97 [.ref 0, .int x1, .int x2, .int x3, .ref r, .int (nI g), .int x6, .int (nI t), .int x8, .int (nI (if mo < P c then P c else mo)), .int le', .int (nI b'), .int (nI (wo + P c)), .int (nI (c + 1)), .int (nI (W c)), v15] [] (zSH ++ E, G) := by
        rw [B_L_goods_155 hr hr9 hP, if_neg (nI_nlt w2 (by omega)), e2]
        by_cases q : (rv 98 11 0 >>> (nI c &&& 31)) &&& 1 = 0
        · rw [if_neg (fun z => z q), if_pos (by rw [w3 q]), B_L_goods_196 hr hr9, nI_1]
        · rw [if_pos q, B_L_goods_196 hr hr9, nI_1]
      obtain ⟨mo', wo', le'', v14', v15', z, z1⟩ := ih (c + 1) (if mo < P c then P c else mo) (wo + P c) b' le' (.int (nI (W c))) v15 (by omega)
        (fun j hj => by
          by_cases q : mo < P c
          · rw [if_pos q]
            by_cases ej : j = c
            · subst ej; omega
            · have := h1 j (by omega); omega
          · rw [if_neg q]
            by_cases ej : j = c
            · subst ej; omega
            · exact h1 j (by omega))
        (by
          by_cases q : mo < P c
          · rw [if_pos q]; exact .inr ⟨c, by omega, rfl⟩
          · rw [if_neg q]
            rcases h2 with h2 | ⟨j, j1, j2⟩
            · exact .inl h2
            · exact .inr ⟨j, by omega, j2⟩)
        (by omega)
        (by
          constructor
          · intro q j hj
            by_cases ej : j = c
            · subst ej; omega
            · exact h4.mp (by omega) j (by omega)
          · intro q
            have := h4.mpr (fun j hj => q j (by omega))
            have := q c (by omega)
            omega)
        (.inr ⟨by omega, hb', hle⟩)
        (by by_cases q : mo < P c
            · rw [if_pos q]; omega
            · rw [if_neg q]; omega)
      rw [if_neg (show ¬ c + 1 = 0 by omega), ← e3] at z
      exact ⟨mo', wo', le'', v14', v15', e1.trans (e5.trans z), z1⟩
    have hc : zden 126 97 [.ref 0, .int x1, .int x2, .int x3, .ref r, .int (nI g), .int x6, .int (nI t), .int x8, .int (nI mo), .int le, .int (nI b), .int (nI wo), .int (nI c), v14, v15] [] (zSH ++ E, G) = _ := B_L_goods_97 hr hr9 hP
    rw [if_neg hn, emx, w1, p1, nI_add] at hc
    rcases h5 with ⟨c0, b0, l0⟩ | ⟨c0, b0, l0⟩
    · subst c0 b0 l0
      have lt : nI (W 0) < 1000000 := by rw [show (1000000 : Int32) = nI 1000000 by decide]; exact nI_lt (by omega) (by decide)
      rw [if_neg (by rw [Int32.not_le]; exact lt)] at hc
      refine gen 0 (nI (W 0)) (by omega) rfl hc (if_pos lt) ?_
      have : d = 4 := by omega
      subst this
      rw [if_pos rfl]
    · have wb := (hw b b0).2.1
      by_cases q : W b ≤ W c
      · rw [l0, if_pos (nI_le q (by omega))] at hc
        refine gen b le b0 l0 (by rw [l0]; exact hc) (by rw [l0, if_neg (nI_nlt q (by omega))]) ?_
        rw [if_neg (by omega)]
        show chpF (fun c => nI (W c)) d (c + 1) (if nI (W b) ≤ nI (W c) then b else c) = _
        rw [if_pos (nI_le q (by omega))]
      · rw [l0, if_neg (nI_ge (by omega) (by omega))] at hc
        refine gen c (nI (W c)) (by omega) rfl (by rw [l0]; exact hc) (by rw [l0, if_pos (nI_lt (by omega) (by omega))]) ?_
        rw [if_neg (by omega)]
        show chpF (fun c => nI (W c)) d (c + 1) (if nI (W b) ≤ nI (W c) then b else c) = _
        rw [if_neg (nI_ge (by omega) (by omega))]
/-- one good -/
theorem go14 {G : Nat → Nat → Int32} {g : Nat} {x1 x2 x3 : Int32} {v6 v7 v8 v9 v10 v11 v12 v13 v14 v15 : Value} (hr : (zSH ++ E)[r]? = some (.inr (.int, 3, []))) (hr9 : 90 ≤ r ∧ r < 1000000) (hP : RDs G rv) (w : zWT G) (h : HIat D n gn G) (hg : g < gn) :
    ∃ (s : Nat) (u6 u7 u8 u9 u10 u11 u12 u13 u14 u15 : Value), s < 3 ∧ G 6 (23 * g + 3) = nI s ∧ zden 126 14 [.ref 0, .int x1, .int x2, .int x3, .ref r, .int (nI g), v6, v7, v8, v9, v10, v11, v12, v13, v14, v15] [] (zSH ++ E, G) =
      zden 126 14 [.ref 0, .int (x1 + G 6 (23 * g + 5)), .int (x2 + G 6 (23 * g + 6)), .int (x3 + gdV (G 4) (G 6) (G 8) n g 7), .ref r, .int (nI (g + 1)), u6, u7, u8, u9, u10, u11, u12, u13, u14, u15] [] (zSH ++ E, zup G r s (G r s + 1)) := by
  have gl := h.gl
  have hn := h.ho.1
  have qg := h.good g hg
  have qq := qg
  obtain ⟨a0, a1, a2, ⟨s, _, s2, s3⟩, a4, ⟨pd, bk, bp, pd1, a5, a6⟩, a9, a10, a11, a12, a13, a14, _⟩ := qq
  obtain ⟨P, hP1, hP2⟩ := orgF_ok qg
  have top := (topF_is (g := g) w h.ho h.i3 (by omega)).1
  have e (k : Nat) (hk : k < 11) : rv 78 (nI g) (nI k) = gdV (G 4) (G 6) (G 8) n g k := v78 hP w h hg hk
  have e1 : rv 78 (nI g) 1 = G 6 (23 * g + 1) := e 1 (by decide)
  have e2 : rv 78 (nI g) 2 = G 6 (23 * g + 2) := e 2 (by decide)
  have e3 : rv 78 (nI g) 3 = nI s := (e 3 (by decide)).trans s3
  have e5 : rv 78 (nI g) 5 = orgF (G 6) g := e 5 (by decide)
  have e6 : rv 78 (nI g) 6 = G 4 (5 * topF (G 4) (G 6) n g + 4) := e 6 (by decide)
  have e7 : rv 78 (nI g) 7 = gdV (G 4) (G 6) (G 8) n g 7 := e 7 (by decide)
  have e8 : rv 78 (nI g) 8 = G 6 (23 * g + 5) := e 8 (by decide)
  have e9 : rv 78 (nI g) 9 = G 6 (23 * g + 6) := e 9 (by decide)
  have e10 : rv 78 (nI g) 10 = G 6 (23 * g + 7) := e 10 (by decide)
  obtain ⟨t, f0, t1, _, t2, _, d7, f15, _⟩ := dutC_ok w h hg (orgF_two qg)
  have ex : ∀ c, ∃ q : Nat, c < 5 → dutC (G 4) (G 6) (G 8) n g (nI c) = nI q ∧ q ≤ t ∧ ((rv 98 11 0 >>> (nI c &&& 31)) &&& 1 = 0 → q = t) := fun c => by
    by_cases hc : c < 5
    · obtain ⟨t', f, _, f1, t2', _, d', _, fC, _⟩ := dutC_ok w h hg (.inr ⟨c, hc, rfl⟩)
      have : t' = t := (nI_eq (by omega) (by omega)).mp (t2'.symm.trans t2)
      subst this
      refine ⟨t' - t' * f / 100, fun _ => ⟨d', by omega, fun q => ?_⟩⟩
      have e11 : rv 98 11 0 = fvS (G 8) 5 0 0 := v98 (k := 11) hP w h (by decide)
      rw [e11] at q
      have := fvS_bit hc q
      have hf := fC c hc rfl
      rw [hf] at this
      have z : f = 0 := by
        rcases Nat.eq_zero_or_pos f with z | z
        · exact z
        · exact absurd this (nI_nle z (by omega))
      subst z
      omega
    · exact ⟨0, fun q => absurd q hc⟩
  obtain ⟨W, hW⟩ := Classical.axiomOfChoice ex
  have base : (if rv 78 (nI g) 2 * rv 73 (rv 78 (nI g) 6) 2 / 100 < rv 78 (nI g) 1 * rv 73 (rv 78 (nI g) 6) 3 then rv 78 (nI g) 1 * rv 73 (rv 78 (nI g) 6) 3 else rv 78 (nI g) 2 * rv 73 (rv 78 (nI g) 6) 2 / 100) = nI t := by
    rw [e1, e2, e6, rv_r hP w h top, rv_k hP w h top]
    exact t2
  have hc : zden 126 14 [.ref 0, .int x1, .int x2, .int x3, .ref r, .int (nI g), v6, v7, v8, v9, v10, v11, v12, v13, v14, v15] [] (zSH ++ E, G) = _ := B_L_goods_14 hr hr9 hP
  rw [if_neg (by rw [rv_gn hP w h]; exact nI_ge hg (by omega)), base] at hc
  obtain ⟨mo, wo, le, y14, y15, l1, l2, l3, l4, l5, l6⟩ := go97 (E := E) (G := G) (g := g) (t := t) (P := P) (W := W) (x1 := x1) (x2 := x2) (x3 := x3) (x6 := rv 78 (nI g) 6) (x8 := rv 78 (nI g) 5) hr hr9 hP t1
    (fun c hc => ⟨(v80 hP w h hg hc).trans (hP1 c hc).1, (hP1 c hc).2⟩) (fun c hc => ⟨(v89 hP w h hg hc).trans (hW c hc).1, (hW c hc).2⟩) 5 0 0 0 0 1000000 v14 v15 rfl (fun j hj => by omega) (.inl rfl) (by omega) ⟨fun _ j hj => by omega, fun _ => rfl⟩ (.inl ⟨rfl, rfl, rfl⟩) (by omega)
  rw [if_pos rfl] at l1
  -- the duty, whether all is fine
  have fine : zden 126 97 [.ref 0, .int x1, .int x2, .int x3, .ref r, .int (nI g), .int (rv 78 (nI g) 6), .int (nI t), .int (rv 78 (nI g) 5), .int (nI mo), .int le, .int (nI (chpF (fun c => nI (W c)) 4 1 0)), .int (nI wo), .int 5, y14, y15] [] (zSH ++ E, G) =
      zden 126 263 [.ref 0, .int x1, .int x2, .int x3, .ref r, .int (nI g), .int (rv 78 (nI g) 6), .int (nI t), .int (rv 78 (nI g) 5), .int (nI mo), .int le, .int (nI (chpF (fun c => nI (W c)) 4 1 0)), .int (nI wo), .int (gdV (G 4) (G 6) (G 8) n g 7), y14, y15] [.int 1] (zSH ++ E, G) := by
    rw [B_L_goods_97 hr hr9 hP, if_pos (by decide), e5]
    rcases hP2 with ⟨o1, o2⟩ | ⟨b, b1, o1, o2, o3⟩
    · have d0 : gdV (G 4) (G 6) (G 8) n g 7 = nI t := by
        show dutC (G 4) (G 6) (G 8) n g (orgF (G 6) g) = _
        rw [d7, f15 o1]
        exact congrArg nI (by omega)
      have wz : wo = 0 := l5.mpr o2
      subst wz
      rw [o1, if_neg (by decide), B_L_goods_220 hr hr9 hP, if_neg (by decide), if_neg (fun q => q (by decide)), d0]
    · have d0 : rv 89 (nI g) (nI b) = gdV (G 4) (G 6) (G 8) n g 7 := by
        rw [v89 hP w h hg b1]
        show _ = dutC (G 4) (G 6) (G 8) n g (orgF (G 6) g)
        rw [o1]
      have mb : mo = P b := by
        have := l2 b b1
        rcases l3 with z | ⟨j, j1, j2⟩
        · omega
        · have := o3 j j1
          omega
      subst mb
      rw [o1, if_pos (nI_pos' (by omega)), d0, B_L_goods_220 hr hr9 hP, if_pos (nI_pos' (by omega)), if_neg (fun q => q ((v80 hP w h hg b1).trans (hP1 b b1).1)), if_neg (nI_nle o2 (by omega))]
  -- the sums and the parts
  have p100 : rv 79 (nI g) 0 + rv 79 (nI g) 1 + rv 79 (nI g) 2 + rv 79 (nI g) 3 = 100 := by
    rw [show rv 79 (nI g) 0 = G 6 (23 * g + 9) from v79 (k := 0) hP w h hg (by decide), show rv 79 (nI g) 1 = G 6 (23 * g + 10) from v79 (k := 1) hP w h hg (by decide), show rv 79 (nI g) 2 = G 6 (23 * g + 11) from v79 (k := 2) hP w h hg (by decide), show rv 79 (nI g) 3 = G 6 (23 * g + 12) from v79 (k := 3) hP w h hg (by decide)]
    exact a14
  have pb : ¬ rv 78 (nI g) 8 < rv 78 (nI g) 9 := by rw [e8, e9, a5, a6]; exact nI_nlt bp (by omega)
  have z3 : zin (rv 78 (nI g) 3) 3 = true := by rw [e3]; exact zin_nI (by omega) (by decide)
  have cl3 : (rv 78 (nI g) 3).toNatClampNeg = s := by rw [e3, nI_clamp (by omega)]
  have hc2 : ∀ (y : Int32), zden 126 263 [.ref 0, .int x1, .int x2, .int x3, .ref r, .int (nI g), .int (rv 78 (nI g) 6), .int (nI t), .int (rv 78 (nI g) 5), .int (nI mo), .int le, .int y, .int (nI wo), .int (gdV (G 4) (G 6) (G 8) n g 7), y14, y15] [.int 1] (zSH ++ E, G) = 
      zden 126 377 [.ref 0, .int (x1 + G 6 (23 * g + 5)), .int (x2 + G 6 (23 * g + 6)), .int (x3 + gdV (G 4) (G 6) (G 8) n g 7), .ref r, .int (nI g), .int (rv 78 (nI g) 6), .int (nI t), .int (rv 78 (nI g) 5), .int (nI mo), .int le, .int y, .int (nI wo), .int (gdV (G 4) (G 6) (G 8) n g 7), .int 1, y15] [.int (if G 6 (23 * g + 7) < 0 then 0 else 1)] (zSH ++ E, zup G r s (G r s + 1)) := by
    intro y
    rw [B_L_goods_263 hr hr9 hP z3, if_neg (fun q => q p100), if_neg pb, cl3, e8, e9, e10]
    by_cases q : G 6 (23 * g + 7) < 0
    · rw [if_pos q, if_pos q]
    · rw [if_neg q, if_neg q]
  have hX : RDs (zup G r s (G r s + 1)) rv := hP.up (sr_up hr9 sr_rf)
  have hc3 : ∀ (y : Int32), zden 126 377 [.ref 0, .int (x1 + G 6 (23 * g + 5)), .int (x2 + G 6 (23 * g + 6)), .int (x3 + gdV (G 4) (G 6) (G 8) n g 7), .ref r, .int (nI g), .int (rv 78 (nI g) 6), .int (nI t), .int (rv 78 (nI g) 5), .int (nI mo), .int le, .int y, .int (nI wo), .int (gdV (G 4) (G 6) (G 8) n g 7), .int 1, y15] [.int (if G 6 (23 * g + 7) < 0 then 0 else 1)] (zSH ++ E, zup G r s (G r s + 1)) =
      zden 126 425 [.ref 0, .int (x1 + G 6 (23 * g + 5)), .int (x2 + G 6 (23 * g + 6)), .int (x3 + gdV (G 4) (G 6) (G 8) n g 7), .ref r, .int (nI g), .int (rv 78 (nI g) 6), .int (nI t), .int (rv 78 (nI g) 5), .int (nI mo), .int le, .int y, .int (nI wo), .int (gdV (G 4) (G 6) (G 8) n g 7), .int 1, y15] [.int 1] (zSH ++ E, zup G r s (G r s + 1)) := by
    intro y
    rw [B_L_goods_377 hr hr9 hX, e3, e10]
    rcases (show s = 0 ∨ s = 1 ∨ s = 2 by omega) with rfl | rfl | rfl
    · have dn := (a10 s3).1
      rw [dn, if_pos (show (-15 : Int32) < 0 by decide), if_neg (show ¬ nI 0 = 1 by decide), if_pos (show ¬ nI 0 = 2 by decide), B_L_goods_416 hr hr9, B_L_goods_417 hr hr9, if_neg (fun q => q rfl)]
    · have dn := a11 s3
      rw [if_neg (show ¬ G 6 (23 * g + 7) < 0 by rw [Int32.not_lt]; exact dn), if_pos (show nI 1 = 1 by decide), B_L_goods_412 hr hr9, B_L_goods_417 hr hr9, if_neg (fun q => q rfl)]
    · rw [if_neg (show ¬ nI 2 = 1 by decide), if_neg (show ¬ ¬ nI 2 = 2 from fun q => q (by decide))]
      rcases a9 with dn | dn
      · rw [dn, if_pos (show (-15 : Int32) < 0 by decide), if_pos rfl, B_L_goods_416 hr hr9, B_L_goods_417 hr hr9, if_neg (fun q => q rfl)]
      · rw [if_neg (show ¬ G 6 (23 * g + 7) < 0 by rw [Int32.not_lt]; exact dn), if_neg (show ¬ G 6 (23 * g + 7) = -15 from fun q => by rw [q] at dn; exact absurd dn (by decide)), B_L_goods_412 hr hr9, B_L_goods_417 hr hr9, if_neg (fun q => q rfl)]
  have wX : zWT (zup G r s (G r s + 1)) := sr_w w (sr_up hr9 sr_rf)
  have hXi : HIat D n gn (zup G r s (G r s + 1)) := sr_h h (sr_up hr9 sr_rf)
  have e90 : rv 90 (nI g) 0 = nI (chpF (fun c => nI (W c)) 4 1 0) := by
    rw [v90 hP w h hg]
    have cg : ∀ (F F' : Nat → Int32), (∀ c, c < 5 → F c = F' c) → ∀ (d i b : Nat), i + d ≤ 5 → b < 5 → chpF F d i b = chpF F' d i b := by
      intro F F' hF d
      induction d with
      | zero => intro i b _ _; rfl
      | succ d ih =>
        intro i b hi hb
        unfold chpF
        rw [hF b hb, hF i (by omega)]
        by_cases q : F' b ≤ F' i
        · rw [if_pos q]; exact ih (i + 1) b (by omega) hb
        · rw [if_neg q]; exact ih (i + 1) i (by omega) (by omega)
    rw [cg _ (fun c => nI (W c)) (fun c hc => (hW c hc).1) 4 1 0 (by omega) (by omega)]
  refine ⟨s, .int (rv 78 (nI g) 6), .int (nI t), .int (rv 78 (nI g) 5), .int (nI mo), .int le, .int (nI (chpF (fun c => nI (W c)) 4 1 0)), .int (nI wo), .int (gdV (G 4) (G 6) (G 8) n g 7), .int 1, .int 1, by omega, s3, ?_⟩
  rw [hc]
  refine l1.trans (fine.trans ((hc2 _).trans ((hc3 _).trans ?_)))
  rw [B_L_goods_425 hr hr9 hX, if_neg (by decide), if_neg (by decide), if_neg (fun q => q e7), if_neg (fun q => q e90), x_fits (E := E) hX wX hXi hg, zaft_same]
  refine Eq.trans (B_L_goods_467 hr hr9) ?_
  rw [if_pos (by decide), nI_1]
theorem go14_loop (hr : (zSH ++ E)[r]? = some (.inr (.int, 3, []))) (hr9 : 90 ≤ r ∧ r < 1000000) : ∀ (d g : Nat) (G : Nat → Nat → Int32) (v6 v7 v8 v9 v10 v11 v12 v13 v14 v15 : Value), g + d = gn → RDs G rv → zWT G → HIat D n gn G → (∀ k, k < 3 → G r k = nI (cN (fun g => G 6 (23 * g + 3) == nI k) g 0)) →
    ∃ (G' : Nat → Nat → Int32) (u7 u8 u9 u10 u11 u12 u13 u14 u15 : Value), zden 126 14 [.ref 0, .int (sumI (fun g => G 6 (23 * g + 5)) g 0 0), .int (sumI (fun g => G 6 (23 * g + 6)) g 0 0), .int (sumI (fun g => gdV (G 4) (G 6) (G 8) n g 7) g 0 0), .ref r, .int (nI g), v6, v7, v8, v9, v10, v11, v12, v13, v14, v15] [] (zSH ++ E, G) =
      zden 126 484 [.ref 0, .int (sumI (fun g => G 6 (23 * g + 5)) gn 0 0), .int (sumI (fun g => G 6 (23 * g + 6)) gn 0 0), .int (sumI (fun g => gdV (G 4) (G 6) (G 8) n g 7) gn 0 0), .ref r, .int (-1), .int 0, u7, u8, u9, u10, u11, u12, u13, u14, u15] [] (zSH ++ E, G') ∧ (∀ k, k < 3 → G' r k = nI (cN (fun g => G 6 (23 * g + 3) == nI k) gn 0)) ∧ ∀ i, i ≠ r → G' i = G i := by
  intro d
  induction d with
  | zero =>
    intro g G v6 v7 v8 v9 v10 v11 v12 v13 v14 v15 e hP w h hk
    have e : g = gn := by omega
    subst e
    refine ⟨G, v7, v8, v9, v10, v11, v12, v13, v14, v15, ?_, hk, fun _ _ => rfl⟩
    rw [B_L_goods_14 hr hr9 hP, if_pos (by rw [rv_gn hP w h]; exact Int32.le_refl _)]
  | succ d ih =>
    intro g G v6 v7 v8 v9 v10 v11 v12 v13 v14 v15 e hP w h hk
    obtain ⟨s, u6, u7, u8, u9, u10, u11, u12, u13, u14, u15, s3, sg, q⟩ := go14 (E := E) (x1 := sumI (fun g => G 6 (23 * g + 5)) g 0 0) (x2 := sumI (fun g => G 6 (23 * g + 6)) g 0 0) (x3 := sumI (fun g => gdV (G 4) (G 6) (G 8) n g 7) g 0 0) (v6 := v6) (v7 := v7) (v8 := v8) (v9 := v9) (v10 := v10) (v11 := v11) (v12 := v12) (v13 := v13) (v14 := v14) (v15 := v15) hr hr9 hP w h (show g < gn by omega)
    have sX : sameR G (zup G r s (G r s + 1)) := sr_up hr9 sr_rf
    have o4 : zup G r s (G r s + 1) 4 = G 4 := zup_ro (by omega)
    have o6 : zup G r s (G r s + 1) 6 = G 6 := zup_ro (by omega)
    have o8 : zup G r s (G r s + 1) 8 = G 8 := zup_ro (by omega)
    obtain ⟨G', w7, w8, w9, w10, w11, w12, w13, w14, w15, z1, z2, z3⟩ := ih (g + 1) (zup G r s (G r s + 1)) u6 u7 u8 u9 u10 u11 u12 u13 u14 u15 (by omega) (hP.up sX) (sr_w w sX) (sr_h h sX) (fun k hk3 => by
      rw [o6, cN_last, Nat.zero_add, sg]
      by_cases ek : k = s
      · subst ek
        rw [zup_rr, hk k hk3, nI_1, if_pos (by simp)]
      · rw [zup_rk ek, hk k hk3, if_neg (by simp only [beq_iff_eq]; rw [nI_eq (by omega) (by omega)]; omega), Nat.add_zero])
    rw [o4, o6, o8] at z1
    rw [o6] at z2
    refine ⟨G', w7, w8, w9, w10, w11, w12, w13, w14, w15, ?_, z2, fun i hi => (z3 i hi).trans (zup_ro hi)⟩
    refine q.trans (Eq.trans ?_ z1)
    rw [sumI_last, sumI_last, sumI_last, Nat.zero_add]
/-- the ranking -/
theorem go484_loop {F W : Nat → Nat} {x1 x2 x3 : Int32} (hr : (zSH ++ E)[r]? = some (.inr (.int, 3, []))) (hr9 : 90 ≤ r ∧ r < 1000000) : ∀ (d p : Nat) (G : Nat → Nat → Int32) (last : Int32) (v7 v8 v9 v10 v11 v12 v13 v14 v15 : Value), p + d = gn → RDs G rv → zWT G → HIat D n gn G → zRk G → rkG G n gn F W → zinv (zSH, G) →
    (last = -1 ∨ last = -11 ∨ ∃ l : Nat, l < gn ∧ last = nI l ∧ cntA F W l gn 0 + 1 = p) →
    ∃ (G' : Nat → Nat → Int32) (last' : Int32) (v7' v8' : Value), zden 126 484 [.ref 0, .int x1, .int x2, .int x3, .ref r, .int last, .int (nI p), v7, v8, v9, v10, v11, v12, v13, v14, v15] [] (zSH ++ E, G) = zden 126 484 [.ref 0, .int x1, .int x2, .int x3, .ref r, .int last', .int (nI gn), v7', v8', v9, v10, v11, v12, v13, v14, v15] [] (zSH ++ E, G') ∧ zinv (zSH, G') ∧ ∀ i, i ≠ 83 → G' i = G i := by
  intro d
  induction d with
  | zero =>
    intro p G last v7 v8 v9 v10 v11 v12 v13 v14 v15 e hP w h hk hm iv hl
    have e : p = gn := by omega
    subst e
    exact ⟨G, last, v7, v8, rfl, iv, fun _ _ => rfl⟩
  | succ d ih =>
    intro p G last v7 v8 v9 v10 v11 v12 v13 v14 v15 e hP w h hk hm iv hl
    have gl := h.gl
    obtain ⟨G1, q1, q2⟩ := rd_ranked (p := p) w h hk hm (by omega)
    have iv1 := zden_inv iv q1
    have s1 : sameR G G1 := fun i _ h3 => q2 i h3
    have hP1 := hP.up s1
    have w1 := sr_w w s1
    have h1 := sr_h h s1
    have hk1 : zRk G1 := by unfold zRk; rw [q2 82 (by decide)]; exact hk
    have hm1 : rkG G1 n gn F W := by unfold rkG; rw [q2 4 (by decide), q2 6 (by decide), q2 8 (by decide)]; exact hm
    have hc : zden 126 484 [.ref 0, .int x1, .int x2, .int x3, .ref r, .int last, .int (nI p), v7, v8, v9, v10, v11, v12, v13, v14, v15] [] (zSH ++ E, G) = _ := B_L_goods_484 hr hr9 hP
    rw [if_neg (by rw [rv_gn hP w h]; exact nI_ge (by omega) (by omega)), zden_x E q1, zaft_same] at hc
    have hc := hc.trans (B_L_goods_500 hr hr9 hP1)
    -- behind the comparison
    have go : ∀ (gx by1 : Int32), (gx = -1 ∨ gx = -11 ∨ ∃ l : Nat, l < gn ∧ gx = nI l ∧ cntA F W l gn 0 + 1 = p + 1) → (∃ k : Nat, k < 100000 ∧ by1 = nI k ∧ (k = 0 → ∃ j : Nat, j < 100000 ∧ rv 78 gx 2 - rv 78 last 2 = nI j ∧ (j = 0 → last ≤ gx))) →
        zden 126 484 [.ref 0, .int x1, .int x2, .int x3, .ref r, .int last, .int (nI p), v7, v8, v9, v10, v11, v12, v13, v14, v15] [] (zSH ++ E, G) = zden 126 528 [.ref 0, .int x1, .int x2, .int x3, .ref r, .int last, .int (nI p), .int gx, v8, v9, v10, v11, v12, v13, v14, v15] [.int by1] (zSH ++ E, G1) →
        ∃ (G' : Nat → Nat → Int32) (last' : Int32) (v7' v8' : Value), zden 126 484 [.ref 0, .int x1, .int x2, .int x3, .ref r, .int last, .int (nI p), v7, v8, v9, v10, v11, v12, v13, v14, v15] [] (zSH ++ E, G) = zden 126 484 [.ref 0, .int x1, .int x2, .int x3, .ref r, .int last', .int (nI gn), v7', v8', v9, v10, v11, v12, v13, v14, v15] [] (zSH ++ E, G') ∧ zinv (zSH, G') ∧ ∀ i, i ≠ 83 → G' i = G i := by
      intro gx by1 hgx hby e0
      obtain ⟨k, k1, k2, k3⟩ := hby
      have step : ∀ y8 : Int32, zden 126 576 [.ref 0, .int x1, .int x2, .int x3, .ref r, .int last, .int (nI p), .int gx, .int y8, v9, v10, v11, v12, v13, v14, v15] [] (zSH ++ E, G1) = zden 126 484 [.ref 0, .int x1, .int x2, .int x3, .ref r, .int gx, .int (nI (p + 1)), .int gx, .int y8, v9, v10, v11, v12, v13, v14, v15] [] (zSH ++ E, G1) := fun y8 => by
        rw [B_L_goods_576 hr hr9, nI_1]
      have to576 : ∃ y8 : Int32, zden 126 528 [.ref 0, .int x1, .int x2, .int x3, .ref r, .int last, .int (nI p), .int gx, v8, v9, v10, v11, v12, v13, v14, v15] [.int by1] (zSH ++ E, G1) = zden 126 576 [.ref 0, .int x1, .int x2, .int x3, .ref r, .int last, .int (nI p), .int gx, .int y8, v9, v10, v11, v12, v13, v14, v15] [] (zSH ++ E, G1) := by
        rw [B_L_goods_528 hr hr9 hP1, k2]
        by_cases z : k = 0
        · obtain ⟨j, j1, j2, j3⟩ := k3 z
          refine ⟨nI j, ?_⟩
          subst z
          rw [if_pos (by decide), j2, B_L_goods_555 hr hr9, if_neg (nI_pos (by omega))]
          by_cases zj : j = 0
          · have := j3 zj
            subst zj
            rw [if_neg (fun q => q (by decide)), if_pos this]
          · rw [if_pos (nI_ne0 (by omega) (by omega))]
        · refine ⟨nI k, ?_⟩
          rw [if_neg (nI_ne0 (by omega) (by omega)), B_L_goods_555 hr hr9, if_neg (nI_pos (by omega)), if_pos (nI_ne0 (by omega) (by omega))]
      obtain ⟨y8, ey⟩ := to576
      obtain ⟨G', l', u7, u8, z1, iv2, z2⟩ := ih (p + 1) G1 gx (.int gx) (.int y8) v9 v10 v11 v12 v13 v14 v15 (by omega) hP1 w1 h1 hk1 hm1 iv1 hgx
      exact ⟨G', l', u7, u8, e0.trans (ey.trans ((step y8).trans z1)), iv2, fun i hi => (z2 i hi).trans (q2 i hi)⟩
    have new : ∃ gx : Int32, fstA F W gn (nI p) gn 0 = gx ∧ (gx = -11 ∨ ∃ g : Nat, g < gn ∧ gx = nI g ∧ cntA F W g gn 0 = p) := by
      rcases fstA_or (F := F) (W := W) (gn := gn) (pl := nI p) gn 0 (by omega) with z | ⟨g, g1, z, zc⟩
      · exact ⟨-11, z, .inl rfl⟩
      · have := cntA_bd (F := F) (W := W) (g := g) gn 0
        exact ⟨nI g, z, .inr ⟨g, g1, rfl, (nI_eq (by omega) (by omega)).mp zc⟩⟩
    obtain ⟨gx, egx, hgx⟩ := new
    rw [egx] at hc
    have hgx' : gx = -1 ∨ gx = -11 ∨ ∃ l : Nat, l < gn ∧ gx = nI l ∧ cntA F W l gn 0 + 1 = p + 1 := by
      rcases hgx with z | ⟨g, g1, z, zc⟩
      · exact .inr (.inl z)
      · exact .inr (.inr ⟨g, g1, z, by omega⟩)
    have neg : last = -1 ∨ last = -11 → ¬ (0 : Int32) ≤ last := by
      rintro (z | z) <;> rw [z] <;> decide
    by_cases hneg : last = -1 ∨ last = -11
    · rw [if_neg (neg hneg)] at hc
      exact go gx 1 hgx' ⟨1, by omega, by decide, fun q => absurd q (by decide)⟩ hc
    · obtain ⟨l, l1, l2, l3⟩ : ∃ l : Nat, l < gn ∧ last = nI l ∧ cntA F W l gn 0 + 1 = p := by
        rcases hl with z | z | z
        · exact absurd (.inl z) hneg
        · exact absurd (.inr z) hneg
        · exact z
      rw [if_pos (by rw [l2]; exact nI_pos' (by omega))] at hc
      obtain ⟨fl, wl, wl2, fl2⟩ := hm l l1
      have ef : rv 78 last 7 = nI (F l) := by rw [l2]; exact (v78 (k := 7) hP w h l1 (by decide)).trans fl2
      have ew : rv 78 last 2 = nI (W l) := by rw [l2]; exact (v78 (k := 2) hP w h l1 (by decide)).trans wl2
      rcases hgx with z | ⟨g, g1, z, zc⟩
      · subst z
        refine go (-11) _ hgx' ⟨F l + 11, by omega, ?_, fun q => by omega⟩ hc
        rw [ef, v78m hP h]
        have : nI (F l) - (-11) = nI (F l) + nI 11 := by
          rw [show nI 11 = -(-11 : Int32) by decide, Int32.sub_eq_add_neg]
        rw [this, nI_add]
      · subst z
        obtain ⟨fg, wg, wg2, fg2⟩ := hm g g1
        have ef2 : rv 78 (nI g) 7 = nI (F g) := (v78 (k := 7) hP w h g1 (by decide)).trans fg2
        have ew2 : rv 78 (nI g) 2 = nI (W g) := (v78 (k := 2) hP w h g1 (by decide)).trans wg2
        have na : ¬ ahP F W g l := fun q => by
          have := cntA_up q gn 0
          rw [if_pos (by omega)] at this
          omega
        unfold ahP at na
        have f1 : F g ≤ F l := by omega
        refine go (nI g) _ hgx' ⟨F l - F g, by omega, by rw [ef, ef2, pk_sub f1], fun q => ?_⟩ hc
        have w1' : W l ≤ W g := by omega
        refine ⟨W g - W l, by omega, by rw [ew, ew2, pk_sub w1'], fun q2 => ?_⟩
        rw [l2]
        exact nI_le (by omega) (by omega)
theorem zinv_same {G X : Nat → Nat → Int32} (h : zinv (zSH, G)) (e : ∀ i, i < 90 → X i = G i) : zinv (zSH, X) := by
  intro r s hs j hj
  have : r < 90 := by
    rcases Nat.lt_or_ge r 90 with q | q
    · exact q
    · rw [List.getElem?_eq_none (by show 90 ≤ r; exact q)] at hs
      cases hs
  show X r j = 0
  rw [e r this]
  exact h r s hs j hj
theorem x_goods {G : Nat → Nat → Int32} (iv : zinv (zSH, G)) (hF : zFP) (hok : eOK E) (hP : RDs G rv) (w : zWT G) (h : HIat D n gn G) (hk : zRk G) (g0 : 0 < gn) :
    ∃ G' : Nat → Nat → Int32, zden 126 0 [.ref 0, .retAddr 0, .retAddr 0, .retAddr 0, .retAddr 0, .retAddr 0, .retAddr 0, .retAddr 0, .retAddr 0, .retAddr 0, .retAddr 0, .retAddr 0, .retAddr 0, .retAddr 0, .retAddr 0, .retAddr 0] [] (zSH ++ E, G) = some (some (.int 1), (zSH ++ (E ++ [.inr (.int, 3, [])]), G')) ∧ zinv (zSH, G') ∧ ∀ i, i ≠ 83 → i ≠ 90 + E.length → G' i = G i := by
  have e9 := hok.2
  have gl := h.gl
  have hr : (zSH ++ (E ++ [.inr (.int, 3, [])]))[90 + E.length]? = some (.inr (.int, 3, [])) := by
    rw [List.getElem?_append_right (by show 90 ≤ _; omega), show 90 + E.length - zSH.length = E.length by show 90 + E.length - 90 = _; omega, List.getElem?_append_right (Nat.le_refl _), Nat.sub_self]
    rfl
  have hr9 : 90 ≤ 90 + E.length ∧ 90 + E.length < 1000000 := by omega
  have hz : zne (90 + E.length) (.ref 0) = true := zne_lt (by omega)
  have s0 : sameR G (zrow G (90 + E.length) (fun _ => 0)) := fun i h1 _ => if_neg (by omega)
  have o6 : zrow G (90 + E.length) (fun _ => 0) 6 = G 6 := if_neg (by omega)
  have o4 : zrow G (90 + E.length) (fun _ => 0) 4 = G 4 := if_neg (by omega)
  have o8 : zrow G (90 + E.length) (fun _ => 0) 8 = G 8 := if_neg (by omega)
  have orr : zrow G (90 + E.length) (fun _ => 0) (90 + E.length) = fun _ => 0 := if_pos rfl
  obtain ⟨G1, v7, v8, v9, v10, v11, v12, v13, v14, v15, a1, a2, a3⟩ := go14_loop (n := n) (D := D) (gn := gn) (rv := rv) hr hr9 gn 0 (zrow G (90 + E.length) (fun _ => 0)) (.retAddr 0) (.retAddr 0) (.retAddr 0) (.retAddr 0) (.retAddr 0) (.retAddr 0) (.retAddr 0) (.retAddr 0) (.retAddr 0) (.retAddr 0) (by omega) (hP.up s0) (sr_w w s0) (sr_h h s0) (fun k _ => by rw [orr]; rfl)
  rw [o4, o6, o8] at a1
  rw [o6] at a2
  have s1 : sameR G G1 := fun i h1 h2 => (a3 i (by omega)).trans (s0 i h1 h2)
  have w1 := sr_w w s1
  have h1 := sr_h h s1
  have hP1 := hP.up s1
  have hk1 : zRk G1 := by unfold zRk; rw [s1 82 (by decide) (by decide)]; exact hk
  obtain ⟨F, W, hm⟩ := rkG_ex w1 h1
  have iv1 : zinv (zSH, G1) := zinv_same iv (fun i hi => (a3 i (by omega)).trans (if_neg (by omega)))
  obtain ⟨G2, last, u7, u8, b1, iv2, b2⟩ := go484_loop (E := E ++ [.inr (.int, 3, [])]) (F := F) (W := W) (x1 := sumI (fun g => G 6 (23 * g + 5)) gn 0 0) (x2 := sumI (fun g => G 6 (23 * g + 6)) gn 0 0) (x3 := sumI (fun g => gdV (G 4) (G 6) (G 8) n g 7) gn 0 0) hr hr9 gn 0 G1 (-1) v7 v8 v9 v10 v11 v12 v13 v14 v15 (by omega) hP1 w1 h1 hk1 hm iv1 (.inl rfl)
  have s2 : sameR G G2 := fun i h1 h2 => (b2 i h2).trans (s1 i h1 h2)
  have w2 := sr_w w s2
  have h2 := sr_h h s2
  have hP2 := hP.up s2
  have r0 : G2 (90 + E.length) = G1 (90 + E.length) := b2 _ (by omega)
  refine ⟨G2, ?_, iv2, fun i i1 i2 => (b2 i i1).trans ((a3 i i2).trans (if_neg i2))⟩
  rw [B_L_goods_0 hok (by rw [List.all_cons, hz]; rfl) rfl]
  refine (B_L_goods_9 hr hr9).trans ?_
  refine a1.trans (b1.trans ?_)
  have ed : sumI (fun g => gdV (G2 4) (G2 6) (G2 8) n g 7) gn 0 0 = sumI (fun g => gdV (G 4) (G 6) (G 8) n g 7) gn 0 0 := by rw [s2 4 (by decide) (by decide), s2 6 (by decide) (by decide), s2 8 (by decide) (by decide)]
  have gne : ¬ nI gn = 0 := nI_ne0 g0 (by omega)
  have m1 := rd_mean hF w2 h2 g0
  rw [ed] at m1
  have cv : ∀ a : UInt64, FP.dcmp a a = some .eq → ¬ ¬ Op.cmpValue (FP.dcmp a a) .l = 0 := fun a ha q => q (by rw [ha]; rfl)
  have cf : ∀ a : UInt32, FP.fcmp a a = some .eq → ¬ ¬ Op.cmpValue (FP.fcmp a a) .l = 0 := fun a ha q => q (by rw [ha]; rfl)
  have q1 := hF.1 (sumI (fun g => gdV (G 4) (G 6) (G 8) n g 7) gn 0 0) (nI gn) gne
  rw [B_L_goods_484 hr hr9 hP2, if_pos (by rw [rv_gn hP2 w2 h2]; exact Int32.le_refl _), if_pos (by rw [rv_gn hP2 w2 h2]; exact gne), zden_x _ m1, zaft_same]
  refine Eq.trans (B_L_goods_615 hr hr9 hP2 (by rw [rv_gn hP2 w2 h2]; exact q1.1)) ?_
  rw [rv_gn hP2 w2 h2, if_neg (cv _ q1.2)]
  -- the share that came back
  have e8 : rv 98 8 0 = sumI (fun g => G 6 (23 * g + 5)) gn 0 0 := (v98 (k := 8) hP w h (by decide)).trans h.s8
  have e9' : rv 98 9 0 = sumI (fun g => G 6 (23 * g + 6)) gn 0 0 := (v98 (k := 9) hP w h (by decide)).trans h.s9
  have g8 : G2 2 8 = sumI (fun g => G 6 (23 * g + 5)) gn 0 0 := by rw [s2 2 (by decide) (by decide)]; exact h.s8
  have g9 : G2 2 9 = sumI (fun g => G 6 (23 * g + 6)) gn 0 0 := by rw [s2 2 (by decide) (by decide)]; exact h.s9
  have bk := @rd_back G2 hF
  rw [g8, g9] at bk
  have e6 : rv 98 6 0 = rv 98 7 0 + sumI (fun g => G 6 (23 * g + 6)) gn 0 0 - sumI (fun g => G 6 (23 * g + 5)) gn 0 0 := by
    rw [show rv 98 6 0 = G 2 6 from v98 (k := 6) hP w h (by decide), show rv 98 7 0 = G 2 7 from v98 (k := 7) hP w h (by decide), h.s6, show G 2 8 = _ from h.s8, show G 2 9 = _ from h.s9]
    rfl
  have c3 : rv 98 3 0 = G2 (90 + E.length) 0 := by rw [r0, a2 0 (by decide)]; exact v98 (k := 3) hP w h (by decide)
  have c4 : rv 98 4 0 = G2 (90 + E.length) 1 := by rw [r0, a2 1 (by decide)]; exact v98 (k := 4) hP w h (by decide)
  have c5 : rv 98 5 0 = G2 (90 + E.length) 2 := by rw [r0, a2 2 (by decide)]; exact v98 (k := 5) hP w h (by decide)
  have tail : ∀ (y5 y6 : Int32), y6 = 1 → zden 126 676 [.ref 0, .int (sumI (fun g => G 6 (23 * g + 5)) gn 0 0), .int (sumI (fun g => G 6 (23 * g + 6)) gn 0 0), .int (sumI (fun g => gdV (G 4) (G 6) (G 8) n g 7) gn 0 0), .ref (90 + E.length), .int last, .int y5, u7, u8, v9, v10, v11, v12, v13, v14, v15] [.int 1, .int y6] (zSH ++ (E ++ [.inr (.int, 3, [])]), G2) = some (some (.int 1), (zSH ++ (E ++ [.inr (.int, 3, [])]), G2)) := by
    intro y5 y6 hy
    subst hy
    rw [B_L_goods_676 hr hr9 hP2, if_neg (fun q => q e8), if_neg (fun q => q e9'), if_neg (fun q => q e6), if_neg (fun q => q c3), if_neg (fun q => q c4), if_neg (fun q => q c5), B_L_goods_759 hr hr9 hP2, if_neg (by decide), if_neg (by decide), rv_gn hP2 w2 h2, zden_x _ (rd_ranked_no (p := gn) h2 (Nat.le_refl _) (by omega)), zaft_same]
    refine Eq.trans (B_L_goods_780 hr hr9) ?_
    rw [if_neg (fun q => q rfl), zden_x _ (rd_bal w2 h2), zaft_same]
    refine Eq.trans (B_L_goods_789 hr hr9) ?_
    rw [if_neg (fun q => q rfl)]
  rw [B_L_goods_633 hr hr9]
  by_cases z : ¬ sumI (fun g => G 6 (23 * g + 5)) gn 0 0 = 0
  · have q2 := hF.2.1 (sumI (fun g => G 6 (23 * g + 6)) gn 0 0) (sumI (fun g => G 6 (23 * g + 5)) gn 0 0) z
    rw [if_pos z] at bk
    rw [if_pos z, zden_x _ bk, zaft_same]
    refine Eq.trans (B_L_goods_662 hr hr9 q2.1) ?_
    rw [if_neg (cf _ q2.2)]
    exact tail _ _ rfl
  · rw [if_neg z] at bk
    rw [if_neg z, zden_x _ bk, zaft_same]
    refine Eq.trans (B_L_goods_645 hr hr9) ?_
    rw [if_neg (cf _ hF.2.2)]
    exact tail _ _ rfl
end ZGo
