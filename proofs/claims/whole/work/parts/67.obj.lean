-- 67: the whole relation; account, append, character
/-- the text, and the line: m signs in both -/
def zText (m : Nat) (G H : Nat → Nat → Int32) : Prop := m ≤ 60 ∧ G 84 1 = nI m ∧ H 90 16 = nI m ∧ ∀ j, j < m → G 87 j = H 95 j ∧ zR5 32 126 (G 87 j)
def zLine (m : Nat) (G H : Nat → Nat → Int32) : Prop := m ≤ 24 ∧ G 88 1 = nI m ∧ H 90 17 = nI m ∧ ∀ j, j < m → G 89 j = H 96 j
/-- what never changes -/
def zCst (G H : Nat → Nat → Int32) : Prop := zWT G ∧ zRk G ∧ (G 85 0 = nI 11 ∧ G 85 1 = nI 7) ∧
  (∀ j, j < 5 → H 98 j = ([115, 119, 99, 108, 42] : List Int32).getD j 0) ∧ (∀ j, j < 4 → H 99 j = ([116, 99, 103, 42] : List Int32).getD j 0) ∧
  (∀ j, j < 52 → H 100 j = ([104, 101, 97, 100, 32, 115, 116, 114, 105, 107, 101, 32, 103, 111, 111, 100, 32, 119, 111, 114, 107, 32, 102, 97, 118, 111, 117, 114, 32, 99, 111, 105, 110, 115, 32, 101, 110, 116, 101, 114, 32, 101, 120, 112, 111, 114, 116, 32, 100, 97, 121, 32] : List Int32).getD j 0) ∧
  (∀ j, j < 10 → H 101 j = ([0, 5, 12, 17, 22, 29, 35, 41, 48, 52] : List Int32).getD j 0)
/-- the object is the model -/
def zRel (D f u a b : Nat) (G H : Nat → Nat → Int32) : Prop := zCst G H ∧ HRat D G 2 (H 91) ∧ zHist D G H f u ∧ zWhy G H ∧ zSaved D G H ∧ zText a G H ∧ zLine b G H
def zFrm (G G' H H' : Nat → Nat → Int32) : Prop := (∀ i, 90 ≤ i → G' i = G i) ∧ (∀ i, (i < 90 ∨ 102 ≤ i) → H' i = H i)
/-- a call of both answers the same -/
def CallR (tc : Nat) (ac : List Value) (tm : Nat) (am : List Value) : Prop := ∀ (D f u a b : Nat) (G H : Nat → Nat → Int32), D ≤ 5900 → zRel D f u a b G H →
  ∃ (r : Int32) (G' H' : Nat → Nat → Int32) (f' u' a' b' : Nat), zden tc 0 ac [] (zSH, G) = some (some (.int r), (zSH, G')) ∧ zden tm 0 am [] (zSH, H) = some (some (.int r), (zSH, H')) ∧ zRel (D + 11) f' u' a' b' G' H' ∧ zFrm G G' H H'
theorem zSaved.mono {D D' : Nat} {G H : Nat → Nat → Int32} (h : zSaved D G H) (hd : D ≤ D') : zSaved D' G H := by
  rcases h with a | ⟨a, b, c⟩
  · exact .inl a
  · exact .inr ⟨a, b, c.mono hd⟩
theorem zHist.mono {D D' f u : Nat} {G H : Nat → Nat → Int32} (h : zHist D G H f u) (hd : D ≤ D') : zHist D' G H f u := by
  obtain ⟨a1, a2, a3, a4, a5, a6⟩ := h
  exact ⟨a1, a2, a3, a4, a5, fun t ht => (a6 t ht).mono hd⟩
theorem zRel.mono {D D' f u a b : Nat} {G H : Nat → Nat → Int32} (h : zRel D f u a b G H) (hd : D ≤ D') : zRel D' f u a b G H := by
  obtain ⟨h1, h2, h3, h4, h5, h6, h7⟩ := h
  exact ⟨h1, h2.mono hd, h3.mono hd, h4, h5.mono hd, h6, h7⟩
theorem CallR.of_read {tc tm : Nat} {ac am : List Value} (h : ReadOK tc ac tm am) : CallR tc ac tm am := by
  intro D f u a b G H hD hR
  have hR' := hR
  obtain ⟨h1, h2, h3, h4, h5, h6, h7⟩ := hR
  obtain ⟨r, r1, r2⟩ := h D G H h1.1 h2 h4
  exact ⟨r, G, H, f, u, a, b, r1, r2, hR'.mono (by omega), fun _ _ => rfl, fun _ _ => rfl⟩
theorem zCst.same {G G' H H' : Nat → Nat → Int32} (h : zCst G H) (hg : ∀ i, i = 3 ∨ i = 5 ∨ i = 7 → G' i = G i) (g82 : G' 82 = G 82) (g85 : G' 85 = G 85) (hh : ∀ i, 98 ≤ i → i < 102 → H' i = H i) : zCst G' H' := by
  unfold zCst zRk zWT at h ⊢
  rw [hg 3 (by omega), hg 5 (by omega), hg 7 (by omega), g82, g85, hh 98 (by omega) (by omega), hh 99 (by omega) (by omega), hh 100 (by omega) (by omega), hh 101 (by omega) (by omega)]
  exact h
theorem zText.same {m : Nat} {G G' H H' : Nat → Nat → Int32} (h : zText m G H) (g1 : G' 84 1 = G 84 1) (g2 : G' 87 = G 87) (h1 : H' 90 16 = H 90 16) (h2 : H' 95 = H 95) : zText m G' H' := by
  unfold zText at h ⊢
  rw [g1, g2, h1, h2]
  exact h
theorem zLine.same {m : Nat} {G G' H H' : Nat → Nat → Int32} (h : zLine m G H) (g1 : G' 88 = G 88) (g2 : G' 89 = G 89) (h1 : H' 90 17 = H 90 17) (h2 : H' 96 = H 96) : zLine m G' H' := by
  unfold zLine at h ⊢
  rw [g1, g2, h1, h2]
  exact h
theorem zWhy.same {G G' H H' : Nat → Nat → Int32} (h : zWhy G H) (g : G' 1 = G 1) (h2 : H' 90 2 = H 90 2) (h3 : H' 90 3 = H 90 3) : zWhy G' H' := by
  unfold zWhy at h ⊢
  rw [g, h2, h3]
  exact h
theorem CallR.of_call {tc tm : Nat} {ac am : List Value} (h : CallOK tc ac tm am) : CallR tc ac tm am := by
  intro D f u a b G H hD hR
  obtain ⟨h1, h2, h3, h4, h5, h6, h7⟩ := hR
  obtain ⟨r, G', H', f', u', r1, r2, r3, r4, r5, ⟨k1, k2, k3, k9⟩⟩ := h D f u G H (by omega) h1.1 h2 h3 h4
  refine ⟨r, G', H', f', u', a, b, r1, r2, zRel.mono (D := D + 1) ⟨?_, r3, r4, r5, ?_, ?_, ?_⟩ (by omega), fun i hi => k1 i (by omega), fun i hi => k2 i (by omega) (by omega) (by omega) (by omega)⟩
  · exact h1.same (fun i hi => k1 i (by omega)) (k1 82 (by omega)) (k1 85 (by omega)) (fun i q1 q2 => k2 i (by omega) (by omega) (by omega) (by omega))
  · exact (zSaved_same h5 k9 (fun i q1 q2 => k1 i (by omega)) (k3 4 (by omega)) (k2 93 (by omega) (by omega) (by omega) (by omega))).mono (by omega)
  · exact h6.same (by rw [k1 84 (by omega)]) (k1 87 (by omega)) (k3 16 (by omega)) (k2 95 (by omega) (by omega) (by omega) (by omega))
  · exact h7.same (k1 88 (by omega)) (k1 89 (by omega)) (k3 17 (by omega)) (k2 96 (by omega) (by omega) (by omega) (by omega))
theorem call_undoR : CallR 102 [.ref 0] 180 [.ref 90, .retAddr 0] := by
  intro D f u a b G H hD hR
  obtain ⟨h1, h2, h3, h4, h5, h6, h7⟩ := hR
  obtain ⟨r, G', H', f', u', r1, r2, r3, r4, r5, ⟨k1, k2, k3, k9⟩⟩ := call_undo h2 h3 h4
  refine ⟨r, G', H', f', u', a, b, r1, r2, zRel.mono (D := D) ⟨?_, r3, r4, r5, ?_, ?_, ?_⟩ (by omega), fun i hi => k1 i (by omega), fun i hi => k2 i (by omega) (by omega) (by omega) (by omega)⟩
  · exact h1.same (fun i hi => k1 i (by omega)) (k1 82 (by omega)) (k1 85 (by omega)) (fun i q1 q2 => k2 i (by omega) (by omega) (by omega) (by omega))
  · exact zSaved_same h5 k9 (fun i q1 q2 => k1 i (by omega)) (k3 4 (by omega)) (k2 93 (by omega) (by omega) (by omega) (by omega))
  · exact h6.same (by rw [k1 84 (by omega)]) (k1 87 (by omega)) (k3 16 (by omega)) (k2 95 (by omega) (by omega) (by omega) (by omega))
  · exact h7.same (k1 88 (by omega)) (k1 89 (by omega)) (k3 17 (by omega)) (k2 96 (by omega) (by omega) (by omega) (by omega))
theorem call_saveR : CallR 103 [.ref 0] 181 [.ref 90] := by
  intro D f u a b G H hD hR
  obtain ⟨h1, h2, h3, h4, h5, h6, h7⟩ := hR
  obtain ⟨r, G', H', r1, r2, r3, r4, r5, r6, ⟨k1, k2, k3⟩⟩ := call_save h2 h3 h4
  refine ⟨r, G', H', f, u, a, b, r1, r2, zRel.mono (D := D) ⟨?_, r3, r4, r5, r6, ?_, ?_⟩ (by omega), fun i hi => k1 i (by omega), fun i hi => k2 i (by omega) (by omega) (by omega)⟩
  · exact h1.same (fun i hi => k1 i (by omega)) (k1 82 (by omega)) (k1 85 (by omega)) (fun i q1 q2 => k2 i (by omega) (by omega) (by omega))
  · exact h6.same (by rw [k1 84 (by omega)]) (k1 87 (by omega)) (k3 16 (by omega)) (k2 95 (by omega) (by omega) (by omega))
  · exact h7.same (k1 88 (by omega)) (k1 89 (by omega)) (k3 17 (by omega)) (k2 96 (by omega) (by omega) (by omega))
theorem call_restoreR : CallR 104 [.ref 0] 182 [.ref 90] := by
  intro D f u a b G H hD hR
  obtain ⟨h1, h2, h3, h4, h5, h6, h7⟩ := hR
  obtain ⟨r, G', H', u', r1, r2, r3, r4, r5, r6, ⟨k1, k2, k3⟩⟩ := call_restore h2 h3 h4 h5
  refine ⟨r, G', H', f, u', a, b, r1, r2, zRel.mono (D := D) ⟨?_, r3, r4, r5, r6, ?_, ?_⟩ (by omega), fun i hi => k1 i (by omega), fun i hi => k2 i (by omega) (by omega) (by omega)⟩
  · exact h1.same (fun i hi => k1 i (by omega)) (k1 82 (by omega)) (k1 85 (by omega)) (fun i q1 q2 => k2 i (by omega) (by omega) (by omega))
  · exact h6.same (by rw [k1 84 (by omega)]) (k1 87 (by omega)) (k3 16 (by omega)) (k2 95 (by omega) (by omega) (by omega))
  · exact h7.same (k1 88 (by omega)) (k1 89 (by omega)) (k3 17 (by omega)) (k2 96 (by omega) (by omega) (by omega))
theorem call_rankedR {x : Int32} : CallR 91 [.ref 0, .int x] 152 [.ref 90, .int x, .retAddr 0, .retAddr 0, .retAddr 0] := by
  intro D f u a b G H hD hR
  obtain ⟨h1, h2, h3, h4, h5, h6, h7⟩ := hR
  obtain ⟨r, G', r1, r2, k⟩ := call_ranked (x := x) h1.1 h2 h1.2.1
  refine ⟨r, G', H, f, u, a, b, r1, r2, zRel.mono (D := D) ⟨?_, ?_, ?_, ?_, ?_, ?_, ?_⟩ (by omega), fun i hi => k i (by omega), fun _ _ => rfl⟩
  · exact h1.same (fun i hi => k i (by omega)) (k 82 (by omega)) (k 85 (by omega)) (fun _ _ _ => rfl)
  · exact HRat_same h2 (k _ (by decide)) (k _ (by decide)) (k _ (by decide)) (k _ (by decide)) (fun _ _ => rfl)
  · exact zHist_same h3 (by rw [k 9 (by decide)]) (by rw [k 9 (by decide)]) (fun i _ _ => k i (by omega)) rfl rfl
  · exact h4.same (k 1 (by decide)) rfl rfl
  · exact zSaved_same h5 (by rw [k 9 (by decide)]) (fun i _ _ => k i (by omega)) rfl rfl
  · exact h6.same (by rw [k 84 (by decide)]) (k 87 (by decide)) rfl rfl
  · exact h7.same (k 88 (by decide)) (k 89 (by decide)) rfl rfl
theorem CallR.of_same {tc tm : Nat} {ac am : List Value} (h : ∀ (D f u a b : Nat) (G H : Nat → Nat → Int32), zRel D f u a b G H → ∃ r : Int32, zden tc 0 ac [] (zSH, G) = some (some (.int r), (zSH, G)) ∧ zden tm 0 am [] (zSH, H) = some (some (.int r), (zSH, H))) : CallR tc ac tm am := by
  intro D f u a b G H hD hR
  obtain ⟨r, r1, r2⟩ := h D f u a b G H hR
  exact ⟨r, G, H, f, u, a, b, r1, r2, hR.mono (by omega), fun _ _ => rfl, fun _ _ => rfl⟩
theorem call_character {x : Int32} : CallR 96 [.ref 0, .int x] 171 [.ref 90, .int x] := by
  refine CallR.of_same (fun D f u a b G H hR => ?_)
  obtain ⟨_, _, _, _, _, _, hb, g1, h1, hj⟩ := hR
  by_cases hx : ∃ j : Nat, j < b ∧ x = nI j
  · obtain ⟨j, j1, rfl⟩ := hx
    have e0 : ¬ nI j < 0 := nI_pos (by omega)
    have e1 : ¬ G 88 1 ≤ nI j := by rw [g1]; exact nI_ge j1 (by omega)
    have e2 : ¬ (24 : Int32) ≤ nI j := by rw [show (24 : Int32) = nI 24 by decide]; exact nI_ge (by omega) (by decide)
    have m1 : (0 : Int32) ≤ nI j ∧ nI j ≤ H 90 17 - 1 := ⟨nI_pos' (by omega), by rw [h1, nIlit_1, pk_sub (by omega)]; exact nI_le (by omega) (by omega)⟩
    refine ⟨G 89 j, ?_, ?_⟩
    · rw [B_T_character_0, B_Li_signAt_0 (fun _ _ _ => zin_nI (by omega) (by decide)), if_neg e0, if_neg e1, if_neg e2, zaft_same, nI_clamp (by omega)]
      exact B_T_character_8
    · rw [B_M_character_0 (fun _ => zin_nI (by omega) (by decide)), if_neg (bIn.mpr m1), nI_clamp (by omega), hj j j1]
  · have m1 : ¬ ((0 : Int32) ≤ x ∧ x ≤ H 90 17 - 1) := by
      intro q
      obtain ⟨k, hk, rfl⟩ := nI_of (Int32.not_lt.mpr q.1)
      refine hx ⟨k, ?_, rfl⟩
      have q2 := q.2
      rw [h1] at q2
      by_cases hb0 : b = 0
      · subst hb0
        exact absurd (Int32.le_trans q.1 q2) (by decide)
      · rw [nIlit_1, pk_sub (by omega), nI_leI hk (by omega)] at q2
        omega
    have hc : x < 0 ∨ G 88 1 ≤ x := by
      rcases pk_ix x (n := b) (by omega) with q | q | ⟨j, j1, j2⟩
      · exact .inl q
      · exact .inr (by rw [g1]; exact q)
      · exact absurd ⟨j, j1, j2⟩ hx
    have z : (¬ (x < 0)) → (¬ ((G 88 1) ≤ x)) → (¬ (24 ≤ x)) → zin x 24 = true := fun q1 q2 => by
      rcases hc with q | q
      · exact absurd q q1
      · exact absurd q q2
    refine ⟨-11, ?_, ?_⟩
    · rw [B_T_character_0, B_Li_signAt_0 z]
      by_cases q : x < 0
      · rw [if_pos q, zaft_same]; exact B_T_character_8
      · rw [if_neg q, if_pos (hc.resolve_left q), zaft_same]; exact B_T_character_8
    · rw [B_M_character_0 (fun q => absurd (bIz.mpr m1) q), if_pos (bIz.mpr m1)]
theorem chN {k : Nat} (h : k < 65536) : ((nI k).toUInt32 % 65536).toInt32 = nI k := by
  rw [pk_char, pk_tn (by omega), Nat.mod_eq_of_lt h]
theorem chV {k : Nat} (h : k < 65536) : vp_nar .char (nI k) = nI k := by
  have := pk_vc (nI k)
  rw [chN h] at this
  exact this
theorem call_append {x : Int32} : CallR 92 [.ref 0, .int x] 154 [.ref 90, .int x] := by
  intro D f u a b G H hD hR
  have hR' := hR
  obtain ⟨h1, h2, h3, h4, h5, ⟨ha, g1, m1, hj⟩, h7⟩ := hR
  have no : ∀ r : Int32, zden 92 0 [.ref 0, .int x] [] (zSH, G) = some (some (.int r), (zSH, G)) → zden 154 0 [.ref 90, .int x] [] (zSH, H) = some (some (.int r), (zSH, H)) → ∃ (r : Int32) (G' H' : Nat → Nat → Int32) (f' u' a' b' : Nat), zden 92 0 [.ref 0, .int x] [] (zSH, G) = some (some (.int r), (zSH, G')) ∧ zden 154 0 [.ref 90, .int x] [] (zSH, H) = some (some (.int r), (zSH, H')) ∧ zRel (D + 11) f' u' a' b' G' H' ∧ zFrm G G' H H' :=
    fun r r1 r2 => ⟨r, G, H, f, u, a, b, r1, r2, hR'.mono (by omega), fun _ _ => rfl, fun _ _ => rfl⟩
  by_cases hx : (32 : Int32) ≤ x ∧ x ≤ 126
  · have z : (¬ (bI (32 ≤ x ∧ x ≤ 126)) = 0) → (¬ ((G 84 1) < 0)) → ((G 84 1) < 60) → zin (G 84 1) 60 = true := fun _ _ q => by
      rw [g1] at q ⊢
      rw [show (60 : Int32) = nI 60 by decide, nI_ltI (by omega) (by decide)] at q
      exact zin_nI q (by decide)
    have zm : (¬ (bI (32 ≤ x ∧ x ≤ 126)) = 0) → (¬ (H 90 16) = 60) → zin (H 90 16) 60 = true := fun _ q => by
      rw [m1] at q ⊢
      rw [show (60 : Int32) = nI 60 by decide, nI_eq (by omega) (by decide)] at q
      exact zin_nI (by omega) (by decide)
    by_cases hf : a = 60
    · subst hf
      refine no (-13) ?_ ?_
      · rw [B_T_append_0, B_Te_add_0 z, if_pos (bIn.mpr hx), if_neg (by rw [g1]; decide), if_neg (by rw [g1]; decide), zaft_same]
        exact B_T_append_8
      · rw [B_M_append_0 zm, if_pos (bIn.mpr hx), if_neg (by rw [m1]; decide)]
    · have ha' : a < 60 := by omega
      obtain ⟨k, k1, k2, rfl⟩ := nI_btw (A := 32) (B := 126) (by decide) (by decide) (by decide) (by decide) hx
      refine ⟨nI (a + 1), zup (zup G 87 a (nI k)) 84 1 (nI (a + 1)), zup (zup H 95 a (nI k)) 90 16 (nI (a + 1)), f, u, a + 1, b, ?_, ?_, zRel.mono (D := D) ⟨?_, ?_, ?_, ?_, ?_, ⟨by omega, zup_rr, zup_rr, fun j j1 => ?_⟩, ?_⟩ (by omega), fun i hi => by rw [zup_ro (by omega), zup_ro (by omega)], fun i hi => by rw [zup_ro (by omega), zup_ro (by omega)]⟩
      · have e : (zup G 87 (G 84 1).toNatClampNeg (vp_nar .char ((nI k).toUInt32 % 65536).toInt32)) = zup G 87 a (nI k) := by rw [g1, nI_clamp (by omega), chN (by omega), chV (by omega)]
        have e2 : (zup G 87 a (nI k)) 84 1 + 1 = nI (a + 1) := by rw [zup_ro (by decide), g1, nI_1]
        rw [B_T_append_0, B_Te_add_0 z, if_pos (bIn.mpr hx), if_neg (by rw [g1]; exact nI_pos (by omega)), if_pos (by rw [g1, show (60 : Int32) = nI 60 by decide]; exact nI_lt ha' (by decide)), e, e2, zup_rr, zaft_same]
        exact B_T_append_8
      · have e : zup H 95 (H 90 16).toNatClampNeg (nI k) = zup H 95 a (nI k) := by rw [m1, nI_clamp (by omega)]
        have e2 : (zup H 95 a (nI k)) 90 16 + 1 = nI (a + 1) := by rw [zup_ro (by decide), m1, nI_1]
        rw [B_M_append_0 zm, if_pos (bIn.mpr hx), if_pos (by rw [m1, show (60 : Int32) = nI 60 by decide, nI_eq (by omega) (by decide)]; exact hf), e, e2, zup_rr]
      · exact h1.same (fun i hi => by rw [zup_ro (by omega), zup_ro (by omega)]) (by rw [zup_ro (by omega), zup_ro (by omega)]) (by rw [zup_ro (by omega), zup_ro (by omega)]) (fun i q1 q2 => by rw [zup_ro (by omega), zup_ro (by omega)])
      · exact HRat_same h2 (by rw [zup_ro (by omega), zup_ro (by omega)]) (by rw [zup_ro (by omega), zup_ro (by omega)]) (by rw [zup_ro (by omega), zup_ro (by omega)]) (by rw [zup_ro (by omega), zup_ro (by omega)]) (fun j hj => by rw [zup_ro (show 91 ≠ 90 by omega), zup_ro (show 91 ≠ 95 by omega)])
      · exact zHist_same h3 (by rw [zup_ro (by omega), zup_ro (by omega)]) (by rw [zup_ro (by omega), zup_ro (by omega)]) (fun i _ _ => by rw [zup_ro (by omega), zup_ro (by omega)]) (by rw [zup_rk (by omega), zup_ro (by omega)]) (by rw [zup_ro (by omega), zup_ro (by omega)])
      · exact h4.same (by rw [zup_ro (by omega), zup_ro (by omega)]) (by rw [zup_rk (by omega), zup_ro (by omega)]) (by rw [zup_rk (by omega), zup_ro (by omega)])
      · exact zSaved_same h5 (by rw [zup_ro (by omega), zup_ro (by omega)]) (fun i _ _ => by rw [zup_ro (by omega), zup_ro (by omega)]) (by rw [zup_rk (by omega), zup_ro (by omega)]) (by rw [zup_ro (by omega), zup_ro (by omega)])
      · rw [zup_ro (show 87 ≠ 84 by omega), zup_ro (show 95 ≠ 90 by omega)]
        by_cases ej : j = a
        · subst ej
          rw [zup_rr, zup_rr]
          exact ⟨rfl, k, k1, k2, rfl⟩
        · rw [zup_rk ej, zup_rk ej]
          exact hj j (by omega)
      · exact h7.same (by rw [zup_ro (by omega), zup_ro (by omega)]) (by rw [zup_ro (by omega), zup_ro (by omega)]) (by rw [zup_rk (by omega), zup_ro (by omega)]) (by rw [zup_ro (by omega), zup_ro (by omega)])
  · refine no (-12) ?_ ?_
    · rw [B_T_append_0, B_Te_add_0 (fun q => absurd (bIz.mpr hx) q), if_neg (fun q => q (bIz.mpr hx)), zaft_same]
      exact B_T_append_8
    · rw [B_M_append_0 (fun q => absurd (bIz.mpr hx) q), if_neg (fun q => q (bIz.mpr hx))]
