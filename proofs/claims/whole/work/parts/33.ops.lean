-- 33: what a change does, in both
def zWT (G : Nat → Nat → Int32) : Prop := G 3 0 = nI 11 ∧ G 3 1 = nI 5 ∧ G 5 0 = nI 12 ∧ G 5 1 = nI 23 ∧ G 7 0 = nI 1 ∧ G 7 1 = nI 5
theorem zWT.zup {G : Nat → Nat → Int32} (h : zWT G) {r k : Nat} {x : Int32} (h3 : r ≠ 3) (h5 : r ≠ 5) (h7 : r ≠ 7) : zWT (zup G r k x) := by
  unfold zWT
  rw [zup_ro (Ne.symm h3), zup_ro (Ne.symm h5), zup_ro (Ne.symm h7)]
  exact h
theorem hd_get {G : Nat → Nat → Int32} (w : zWT G) {x y : Int32} {i j : Nat} (hx : x = nI i) (hy : y = nI j) (hi : i < 11) (hj : j < 5) : tget G 3 4 55 x y = G 4 (5 * i + j) := by
  rw [hx, hy, tget_in w.1 w.2.1 hi hj (by decide) (by decide), Nat.mul_comm]
theorem hd_set {G : Nat → Nat → Int32} (w : zWT G) {x y z : Int32} {i j : Nat} (hx : x = nI i) (hy : y = nI j) (hi : i < 11) (hj : j < 5) : tset G 3 4 55 x y z = zup G 4 (5 * i + j) z := by
  rw [hx, hy, tset_in w.1 w.2.1 hi hj (by decide) (by decide), Nat.mul_comm]
theorem gd_get {G : Nat → Nat → Int32} (w : zWT G) {x y : Int32} {i j : Nat} (hx : x = nI i) (hy : y = nI j) (hi : i < 12) (hj : j < 23) : tget G 5 6 276 x y = G 6 (23 * i + j) := by
  rw [hx, hy, tget_in w.2.2.1 w.2.2.2.1 hi hj (by decide) (by decide), Nat.mul_comm]
theorem gd_set {G : Nat → Nat → Int32} (w : zWT G) {x y z : Int32} {i j : Nat} (hx : x = nI i) (hy : y = nI j) (hi : i < 12) (hj : j < 23) : tset G 5 6 276 x y z = zup G 6 (23 * i + j) z := by
  rw [hx, hy, tset_in w.2.2.1 w.2.2.2.1 hi hj (by decide) (by decide), Nat.mul_comm]
theorem fv_get {G : Nat → Nat → Int32} (w : zWT G) {y : Int32} {j : Nat} (hy : y = nI j) (hj : j < 5) : tget G 7 8 5 0 y = G 8 j := by
  rw [hy, show (0 : Int32) = nI 0 from rfl, tget_in w.2.2.2.2.1 w.2.2.2.2.2 (by decide) hj (by decide) (by decide), Nat.zero_mul, Nat.zero_add]
theorem fv_set {G : Nat → Nat → Int32} (w : zWT G) {y z : Int32} {j : Nat} (hy : y = nI j) (hj : j < 5) : tset G 7 8 5 0 y z = zup G 8 j z := by
  rw [hy, show (0 : Int32) = nI 0 from rfl, tset_in w.2.2.2.2.1 w.2.2.2.2.2 (by decide) hj (by decide) (by decide), Nat.zero_mul, Nat.zero_add]
def opEnd (D : Nat) (r : Int32) (G G' H H' : Nat → Nat → Int32) : Prop :=
  (0 ≤ r ∧ HRat (D + 1) G' 2 (H' 91) ∧ G' 1 = G 1 ∧ H' 90 = H 90) ∨
  (r < 0 ∧ HRat D G' 2 (H 91) ∧ H' 90 0 = r ∧ ((G' 1 1 = G 1 1 ∧ G' 1 2 = G 1 2 ∧ H' 90 2 = H 90 2 ∧ H' 90 3 = H 90 3) ∨ (G' 1 1 = H' 90 2 ∧ G' 1 2 = H' 90 3 ∧ H' 90 2 ≠ 0)))
def opFr (G G' H H' : Nat → Nat → Int32) : Prop := (∀ i, i ≠ 1 → i ≠ 2 → i ≠ 4 → i ≠ 6 → i ≠ 8 → G' i = G i) ∧ (∀ i, i ≠ 90 → i ≠ 91 → H' i = H i) ∧ (∀ j, j ≠ 0 → j ≠ 2 → j ≠ 3 → H' 90 j = H 90 j)
/-- a change: the class's on G and the model's on H answer the same -/
def OpOK (tc : Nat) (ac : List Value) (tm : Nat) (am : List Value) : Prop := ∀ (D : Nat) (G H : Nat → Nat → Int32), D ≤ 6000 → zWT G → HRat D G 2 (H 91) → H 90 0 = 0 →
  ∃ (r : Int32) (G' H' : Nat → Nat → Int32), zden tc 0 ac [] (zSH, G) = some (some (.int r), (zSH, G')) ∧ zden tm 0 am [] (zSH, H) = some (some (.int r), (zSH, H')) ∧ opFr G G' H H' ∧ opEnd D r G G' H H'
theorem opFr_no {G H : Nat → Nat → Int32} {r : Int32} : opFr G G H (zup H 90 0 r) := ⟨fun _ _ _ _ _ _ => rfl, fun i h _ => zup_ro h, fun j h _ _ => zup_rk h⟩
theorem opEnd_no {D : Nat} {G H : Nat → Nat → Int32} {r : Int32} (h : HRat D G 2 (H 91)) (hr : r < 0) : opEnd D r G G H (zup H 90 0 r) :=
  .inr ⟨hr, h, zup_rr, .inl ⟨rfl, rfl, zup_rk (by decide), zup_rk (by decide)⟩⟩
theorem bIn {p : Prop} [Decidable p] : ¬ bI p = 0 ↔ p := by
  unfold bI
  by_cases h : p
  · rw [if_pos h]; exact ⟨fun _ => h, fun _ => by decide⟩
  · rw [if_neg h]; exact ⟨fun q => absurd rfl q, fun q => absurd q h⟩
theorem bIz {p : Prop} [Decidable p] : bI p = 0 ↔ ¬ p := by
  unfold bI
  by_cases h : p
  · rw [if_pos h]; exact ⟨fun q => absurd q (by decide), fun q => absurd h q⟩
  · rw [if_neg h]; exact ⟨fun _ => h, fun _ => rfl⟩
/-- a number between two is a natural number -/
theorem nI_btw {x a b : Int32} {A B : Nat} (ha : a = nI A) (hb : b = nI B) (hB : B < 2 ^ 31) (hA : A < 2 ^ 31) (h : a ≤ x ∧ x ≤ b) : ∃ k : Nat, A ≤ k ∧ k ≤ B ∧ x = nI k := by
  subst ha hb
  have hn : ¬ x < 0 := by
    intro q
    have h1 := Int32.le_iff_toInt_le.mp h.1
    have h2 := Int32.lt_iff_toInt_lt.mp q
    rw [nI_toInt hA] at h1
    have : (0 : Int32).toInt = 0 := rfl
    omega
  obtain ⟨k, hk, rfl⟩ := nI_of2 (nI_toInt hB) hn h.2
  refine ⟨k, ?_, hk, rfl⟩
  exact (nI_leI hA (by omega)).mp h.1
/-- a house after a change that leaves the headings alone -/
theorem HR.upd {D D' : Nat} {I A B C v I' B' C' v' : Nat → Int32} (h : HR D I A B C v) (hI3 : I' 3 = I 3) (hI4 : I' 4 = I 4) (e5 : I' 5 = v' 0) (e6 : I' 6 = v' 3) (e7 : I' 7 = v' 4) (e8 : I' 8 = v' 5) (e9 : I' 9 = v' 6) (e10 : I' 10 = v' 7)
    (hd : zR5 0 (99 * D') (I' 5)) (hp : zR5 0 (9999 * D') (I' 6)) (hv1 : v' 1 = v 1) (hv2 : v' 2 = v 2) (hh : ∀ j, 13 ≤ j → j < 63 → v' j = v j) (hC : ∀ c, c < 5 → C' c = v' (8 + c) ∧ zR5 0 100 (C' c))
    (hB : ∀ gn g, v 2 = nI gn → gn ≤ 12 → g < gn → HRg B v g → HRg B' v' g) (hB0 : ∀ gn g j, v 2 = nI gn → gn ≤ g → g < 12 → j < 23 → B' (23 * g + j) = B (23 * g + j)) : HR D' I' A B' C' v' := by
  obtain ⟨n, gn, h1, h2, h3, h4, h5, h6, _, _, _, _, _, _, _, _, _, h15, h16, h17, h18, h19⟩ := h
  refine ⟨n, gn, h1, h2, hI3.trans h3, hv1.trans h4, hI4.trans h5, hv2.trans h6, e5, e6, e7, e8, e9, e10, hd, hp, hC, fun h q => (h15 h q).congr (by omega) (fun _ _ => rfl) hh, h16, h17, fun g q => hB gn g h6 h2 q (h18 g q), fun g g1 g2 j hj => ?_⟩
  rw [hB0 gn g j h6 g1 g2 hj]
  exact h19 g g1 g2 j hj
theorem zR5.mono {a b b' : Nat} {x : Int32} (h : zR5 a b x) (hb : b ≤ b') : zR5 a b' x := by
  obtain ⟨k, k1, k2, k3⟩ := h
  exact ⟨k, k1, by omega, k3⟩
theorem HR.day {D : Nat} {I A B C v : Nat → Int32} (h : HR D I A B C v) : zR5 0 (99 * D) (I 5) := by
  obtain ⟨n, gn, h1, h2, h3, h4, h5, h6, h7, h8, h9, h10, h11, h12, h13, h13b, h14⟩ := h; exact h13
theorem HR.purse {D : Nat} {I A B C v : Nat → Int32} (h : HR D I A B C v) : zR5 0 (9999 * D) (I 6) := by
  obtain ⟨n, gn, h1, h2, h3, h4, h5, h6, h7, h8, h9, h10, h11, h12, h13, h13b, h14⟩ := h; exact h13b
theorem HR.fav {D : Nat} {I A B C v : Nat → Int32} (h : HR D I A B C v) : ∀ c, c < 5 → C c = v (8 + c) ∧ zR5 0 100 (C c) := by
  obtain ⟨n, gn, h1, h2, h3, h4, h5, h6, h7, h8, h9, h10, h11, h12, h13, h13b, h14, h15⟩ := h; exact h14
theorem HR.e {D : Nat} {I A B C v : Nat → Int32} (h : HR D I A B C v) : I 5 = v 0 ∧ I 6 = v 3 ∧ I 7 = v 4 ∧ I 8 = v 5 ∧ I 9 = v 6 ∧ I 10 = v 7 := by
  obtain ⟨n, gn, h1, h2, h3, h4, h5, h6, h7, h8, h9, h10, h11, h12, h13⟩ := h; exact ⟨h7, h8, h9, h10, h11, h12⟩
theorem zup_up {G : Nat → Nat → Int32} {r k : Nat} {x y : Int32} : zup (zup G r k x) r k y = zup G r k y := by
  funext i j
  by_cases hi : i = r
  · subst hi
    by_cases hj : j = k
    · subst hj; rw [zup_rr, zup_rr]
    · rw [zup_rk hj, zup_rk hj, zup_rk hj]
  · rw [zup_ro hi, zup_ro hi, zup_ro hi]
theorem ok_goBy {x : Int32} : OpOK 11 [.ref 1, .int x] 149 [.ref 90, .int x] := by
  intro D G H hD w hr h0
  by_cases hx : (1 : Int32) ≤ x ∧ x ≤ 99
  · obtain ⟨k, k1, k2, rfl⟩ := nI_btw (A := 1) (B := 99) (by decide) (by decide) (by decide) (by decide) hx
    obtain ⟨d, d1, d2, d3⟩ := hr.day
    obtain ⟨e5, e6, e7, e8, e9, e10⟩ := hr.e
    refine ⟨nI (d + k), zup G 2 5 (nI (d + k)), zup H 91 0 (nI (d + k)), ?_, ?_, ?_, ?_⟩
    · rw [B_Cl_goBy_0, if_pos (bIn.mpr hx), d3, zup_rr, nI_add]
    · rw [B_M_goBy_0, if_pos (bIn.mpr hx), ← e5, d3, zup_rr, nI_add]
    · exact ⟨fun i a b c d e => zup_ro b, fun i a b => zup_ro b, fun j a b c => by rw [zup_ro (by decide)]⟩
    · refine .inl ⟨nI_pos' (by omega), ?_, zup_ro (by decide), zup_ro (by decide)⟩
      unfold HRat
      rw [zup_ro (show 2 + 2 ≠ 2 by decide), zup_ro (show 2 + 4 ≠ 2 by decide), zup_ro (show 2 + 6 ≠ 2 by decide)]
      refine HR.upd hr (zup_rk (by decide)) (zup_rk (by decide)) ?_ ?_ ?_ ?_ ?_ ?_ ?_ ?_ (zup_rk (by decide)) (zup_rk (by decide)) (fun j h1 h2 => zup_rk (by omega)) (fun c hc => ?_) (fun gn g _ _ _ hg => hg.congr (fun _ _ _ => rfl) (fun j h1 h2 => zup_rk (by omega))) (fun _ _ _ _ _ _ _ => rfl)
      · rw [zup_rr, zup_rr]
      · rw [zup_rk (by decide), zup_rk (by decide)]; exact e6
      · rw [zup_rk (by decide), zup_rk (by decide)]; exact e7
      · rw [zup_rk (by decide), zup_rk (by decide)]; exact e8
      · rw [zup_rk (by decide), zup_rk (by decide)]; exact e9
      · rw [zup_rk (by decide), zup_rk (by decide)]; exact e10
      · exact ⟨d + k, by omega, by omega, zup_rr⟩
      · rw [zup_rk (by decide)]; exact hr.purse.mono (by omega)
      · rw [zup_rk (by omega)]; exact hr.fav c hc
  · refine ⟨-12, G, zup H 90 0 (-12), ?_, ?_, opFr_no, opEnd_no hr (by decide)⟩
    · rw [B_Cl_goBy_0, if_neg (fun q => hx (bIn.mp q))]
    · rw [B_M_goBy_0, if_neg (fun q => hx (bIn.mp q))]
theorem ok_give {x : Int32} : OpOK 8 [.ref 1, .int x] 143 [.ref 90, .int x] := by
  intro D G H hD w hr h0
  by_cases hx : (1 : Int32) ≤ x ∧ x ≤ 9999
  · obtain ⟨k, k1, k2, rfl⟩ := nI_btw (A := 1) (B := 9999) (by decide) (by decide) (by decide) (by decide) hx
    obtain ⟨d, d1, d2, d3⟩ := hr.purse
    obtain ⟨e5, e6, e7, e8, e9, e10⟩ := hr.e
    refine ⟨nI (d + k), zup (zup G 2 7 (G 2 7 + nI k)) 2 6 (nI (d + k)), zup (zup H 91 3 (nI (d + k))) 91 4 (H 91 4 + nI k), ?_, ?_, ?_, ?_⟩
    · rw [B_Cl_give_0, if_pos (bIn.mpr hx), zup_rr, zup_rk (show (6 : Nat) ≠ 7 by decide), d3, nI_add]
    · rw [B_M_gives_0, if_pos (bIn.mpr hx), zup_rk (show (3 : Nat) ≠ 4 by decide), zup_rr, zup_rk (show (4 : Nat) ≠ 3 by decide), ← e6, d3, nI_add]
    · exact ⟨fun i a b c d e => by rw [zup_ro b, zup_ro b], fun i a b => by rw [zup_ro b, zup_ro b], fun j a b c => by rw [zup_ro (by decide), zup_ro (by decide)]⟩
    · refine .inl ⟨nI_pos' (by omega), ?_, by rw [zup_ro (by decide), zup_ro (by decide)], by rw [zup_ro (by decide), zup_ro (by decide)]⟩
      unfold HRat
      rw [zup_ro (show 2 + 2 ≠ 2 by decide), zup_ro (show 2 + 4 ≠ 2 by decide), zup_ro (show 2 + 6 ≠ 2 by decide), zup_ro (show 2 + 2 ≠ 2 by decide), zup_ro (show 2 + 4 ≠ 2 by decide), zup_ro (show 2 + 6 ≠ 2 by decide)]
      refine HR.upd hr ?_ ?_ ?_ ?_ ?_ ?_ ?_ ?_ ?_ ?_ ?_ ?_ (fun j h1 h2 => by rw [zup_rk (by omega), zup_rk (by omega)]) (fun c hc => ?_) (fun gn g _ _ _ hg => hg.congr (fun _ _ _ => rfl) (fun j h1 h2 => by rw [zup_rk (by omega), zup_rk (by omega)])) (fun _ _ _ _ _ _ _ => rfl)
      · rw [zup_rk (by decide), zup_rk (by decide)]
      · rw [zup_rk (by decide), zup_rk (by decide)]
      · rw [zup_rk (by decide), zup_rk (by decide), zup_rk (by decide), zup_rk (by decide)]; exact e5
      · rw [zup_rr, zup_rk (by decide), zup_rr]
      · rw [zup_rk (by decide), zup_rr, zup_rr, e7]
      · rw [zup_rk (by decide), zup_rk (by decide), zup_rk (by decide), zup_rk (by decide)]; exact e8
      · rw [zup_rk (by decide), zup_rk (by decide), zup_rk (by decide), zup_rk (by decide)]; exact e9
      · rw [zup_rk (by decide), zup_rk (by decide), zup_rk (by decide), zup_rk (by decide)]; exact e10
      · rw [zup_rk (by decide), zup_rk (by decide)]; exact hr.day.mono (by omega)
      · exact ⟨d + k, by omega, by omega, zup_rr⟩
      · rw [zup_rk (by decide), zup_rk (by decide)]
      · rw [zup_rk (by decide), zup_rk (by decide)]
      · rw [zup_rk (by omega), zup_rk (by omega)]; exact hr.fav c hc
  · refine ⟨-12, G, zup H 90 0 (-12), ?_, ?_, opFr_no, opEnd_no hr (by decide)⟩
    · rw [B_Cl_give_0, if_neg (fun q => hx (bIn.mp q))]
    · rw [B_M_gives_0, if_neg (fun q => hx (bIn.mp q))]
theorem ok_favour {x y : Int32} : OpOK 7 [.ref 1, .int x, .int y, .retAddr 0] 141 [.ref 90, .int x, .int y, .retAddr 0] := by
  intro D G H hD w hr h0
  by_cases hx : (0 : Int32) ≤ x ∧ x ≤ 4
  · obtain ⟨c, c1, c2, rfl⟩ := nI_btw (A := 0) (B := 4) (by decide) (by decide) (by decide) (by decide) hx
    have e1 : 8 + nI c = nI (8 + c) := by rw [nIlit_8, nI_add]
    have z : zin (8 + nI c) 327 = true := by rw [e1]; exact zin_nI (by omega) (by decide)
    by_cases hy : (0 : Int32) ≤ y ∧ y ≤ 100
    · obtain ⟨k, k1, k2, rfl⟩ := nI_btw (A := 0) (B := 100) (by decide) (by decide) (by decide) (by decide) hy
      obtain ⟨e5, e6, e7, e8, e9, e10⟩ := hr.e
      obtain ⟨q1, m, m1, m2, m3⟩ := hr.fav c (by omega)
      refine ⟨G 8 c, zup G 8 c (nI k), zup H 91 (8 + c) (nI k), ?_, ?_, ?_, ?_⟩
      · rw [B_Cl_favourCountry_0, if_pos (bIn.mpr hx), if_pos (bIn.mpr hy), fv_get w rfl (by omega), fv_set w rfl (by omega)]
      · rw [B_M_favours_0 (fun _ _ => z), if_pos (bIn.mpr hx), if_pos (bIn.mpr hy), e1, nI_clamp (by omega), ← q1]
      · exact ⟨fun i a b c d e => zup_ro e, fun i a b => zup_ro b, fun j a b c => by rw [zup_ro (by decide)]⟩
      · refine .inl ⟨?_, ?_, zup_ro (by decide), zup_ro (by decide)⟩
        · show 0 ≤ G (2 + 6) c
          rw [m3]; exact nI_pos' (by omega)
        unfold HRat
        rw [zup_ro (show 2 ≠ 8 by decide), zup_ro (show 2 + 2 ≠ 8 by decide), zup_ro (show 2 + 4 ≠ 8 by decide)]
        refine HR.upd hr rfl rfl ?_ ?_ ?_ ?_ ?_ ?_ (hr.day.mono (by omega)) (hr.purse.mono (by omega)) (zup_rk (by omega)) (zup_rk (by omega)) (fun j h1 h2 => zup_rk (by omega)) (fun b hb => ?_) (fun gn g _ _ _ hg => hg.congr (fun _ _ _ => rfl) (fun j h1 h2 => zup_rk (by omega))) (fun _ _ _ _ _ _ _ => rfl)
        · rw [zup_rk (by omega)]; exact e5
        · rw [zup_rk (by omega)]; exact e6
        · rw [zup_rk (by omega)]; exact e7
        · rw [zup_rk (by omega)]; exact e8
        · rw [zup_rk (by omega)]; exact e9
        · rw [zup_rk (by omega)]; exact e10
        · by_cases hbc : b = c
          · subst hbc
            exact ⟨by rw [zup_rr, zup_rr], k, by omega, by omega, zup_rr⟩
          · show zup G 8 c (nI k) 8 b = _ ∧ zR5 0 100 (zup G 8 c (nI k) 8 b)
            rw [zup_rk hbc, zup_rk (by omega)]; exact hr.fav b hb
    · refine ⟨-12, G, zup H 90 0 (-12), ?_, ?_, opFr_no, opEnd_no hr (by decide)⟩
      · rw [B_Cl_favourCountry_0, if_pos (bIn.mpr hx), if_neg (fun q => hy (bIn.mp q))]
      · rw [B_M_favours_0 (fun _ _ => z), if_pos (bIn.mpr hx), if_neg (fun q => hy (bIn.mp q))]
  · refine ⟨-11, G, zup H 90 0 (-11), ?_, ?_, opFr_no, opEnd_no hr (by decide)⟩
    · rw [B_Cl_favourCountry_0, if_neg (fun q => hx (bIn.mp q))]
    · rw [B_M_favours_0 (fun q => absurd (bIn.mp q) hx), if_neg (fun q => hx (bIn.mp q))]
