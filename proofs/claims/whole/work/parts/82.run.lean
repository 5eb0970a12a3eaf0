-- 82: run
theorem text_s {a : Nat} {G H : Nat → Nat → Int32} (h : zText a G H) : ∃ s : Nat → Nat, sTx a s ∧ (∀ j, j < a → G 87 j = nI (s j)) ∧ ∀ j, j < a → H 95 j = nI (s j) := by
  obtain ⟨ha, _, _, hj⟩ := h
  have e : ∀ j, j < a → ∃ k : Nat, 32 ≤ k ∧ k ≤ 126 ∧ G 87 j = nI k := fun j hjj => (hj j hjj).2
  have g : ∀ j, j < a → G 87 j = nI (if j < a then (G 87 j).toNatClampNeg else 0) ∧ 32 ≤ (if j < a then (G 87 j).toNatClampNeg else 0) ∧ (if j < a then (G 87 j).toNatClampNeg else 0) ≤ 126 := fun j hjj => by
    obtain ⟨k, k1, k2, k3⟩ := e j hjj
    rw [if_pos hjj, k3, nI_clamp (by omega)]
    exact ⟨rfl, k1, k2⟩
  refine ⟨fun j => if j < a then (G 87 j).toNatClampNeg else 0, ⟨ha, fun p hp => (g p hp).2, fun p hp => if_neg (by omega)⟩, fun j hjj => (g j hjj).1, fun j hjj => ?_⟩
  rw [← (hj j hjj).1]
  exact (g j hjj).1
theorem rdA_len {m : Nat} {s : Nat → Nat} : ∀ (f p : Nat), (rdA s m f p).1.length ≤ f := by
  intro f
  induction f with
  | zero => intro p; exact Nat.le_refl _
  | succ f ih =>
    intro p
    rw [rdA_succ]
    by_cases a : (rdO s p).2.2.2 = true
    · rw [if_pos a]; exact Nat.zero_le _
    · rw [if_neg a]
      by_cases b : m ≤ (rdO s p).2.2.1
      · rw [if_pos b]
        show 1 ≤ f + 1
        omega
      · rw [if_neg b]
        by_cases c : s (rdO s p).2.2.1 = 59
        · rw [if_pos c]
          have := ih ((rdO s p).2.2.1 + 1)
          show (rdA s m f ((rdO s p).2.2.1 + 1)).1.length + 1 ≤ f + 1
          omega
        · rw [if_neg c]; exact Nat.zero_le _
theorem call_run : CallR 93 [.ref 0, .retAddr 0, .retAddr 0] 155 [.ref 90, .retAddr 0] := by
  intro D f u a b G H hD hR
  obtain ⟨c0, hr, hh, hw, hsv, ht, hl⟩ := hR
  obtain ⟨s, s1, s2, s3⟩ := text_s ht
  obtain ⟨ha, ht1, ht2, _⟩ := ht
  obtain ⟨r, G1, g1, g2, g3, g4⟩ := sc_read s1 ht1 s2 c0.2.2.1
  -- the class, its text emptied
  have hG2 : ∃ G2 : Nat → Nat → Int32, G2 = zup G1 84 1 0 := ⟨_, rfl⟩
  obtain ⟨G2, hG2⟩ := hG2
  have o2 : ∀ i, i ≠ 84 → i ≠ 86 → G2 i = G i := fun i a b => by rw [hG2, zup_ro a]; exact g2.1 i a b
  have o841 : G2 84 1 = 0 := by rw [hG2, zup_rr]
  have hcl : zden 93 0 [.ref 0, .retAddr 0, .retAddr 0] [] (zSH, G) = zden 93 15 [.ref 0, .int r, .retAddr 0] [] (zSH, G2) := by
    rw [B_T_run_0, g1, zaft_same]
    refine Eq.trans B_T_run_7 ?_
    rw [B_Te_empty_0, zaft_same, hG2]
    rfl
  -- the model, up to its first reading
  obtain ⟨H1, b1, b2, b3, b4, b5⟩ := sm_begins H
  have hX : ∃ X : Nat → Nat → Int32, X = zup (zup H1 90 19 (H1 90 16)) 90 21 0 := ⟨_, rfl⟩
  obtain ⟨X, hX⟩ := hX
  have x90 : ∀ j, j ≠ 0 → j ≠ 19 → j ≠ 21 → X 90 j = H 90 j := fun j a b c => by rw [hX, zup_rk c, zup_rk b, b3 j a]
  have xo : ∀ i, i ≠ 90 → i ≠ 92 → X i = H i := fun i a b => by rw [hX, zup_ro a, zup_ro a, b5 i a b]
  have x92 : ∀ j, j < 327 → X 92 j = H 91 j := fun j hj => by rw [hX, zup_ro (by decide), zup_ro (by decide)]; exact b4 j hj
  have x0 : X 90 0 = 0 := by rw [hX, zup_rk (by decide), zup_rk (by decide)]; exact b2
  have x19 : X 90 19 = nI a := by rw [hX, zup_rk (by decide), zup_rr, b3 16 (by decide)]; exact ht2
  have x21 : X 90 21 = 0 := by rw [hX, zup_rr]
  have hcX : zMc X := by
    have := c0.mc
    unfold zMc at this ⊢
    rw [xo 98 (by decide) (by decide), xo 99 (by decide) (by decide), xo 100 (by decide) (by decide), xo 101 (by decide) (by decide)]
    exact this
  obtain ⟨rd, H2, d1, d2, d3⟩ := sm_orders_dry s1 hcX x19 (fun j hj => by rw [xo 95 (by decide) (by decide)]; exact s3 j hj) x21 x0
  have hml : zden 155 0 [.ref 90, .retAddr 0] [] (zSH, H) = zden 155 21 [.ref 90, .retAddr 0] [.int rd] (zSH, H2) := by
    rw [B_M_run_0, b1, zaft_same]
    refine Eq.trans B_M_run_4 ?_
    rw [← hX, d1, zaft_same]
    rfl
  cases hok : (rdA s a 11 0).2.2 with
  | true =>
    rw [hok] at d3
    have er := g3 hok
    have hr0 : ¬ 0 ≤ r := by
      rw [er]
      have hq : (rdA s a 11 0).2.1 ≤ a := d3.2.1
      intro z
      have z2 := Int32.le_iff_toInt_le.mp z
      have e1 : (-1000 - nI (rdA s a 11 0).2.1 : Int32) = -(nI (1000 + (rdA s a 11 0).2.1)) := by
        rw [← nI_add, show nI 1000 = (1000 : Int32) by decide]
        apply Int32.toBitVec_inj.mp
        simp [BitVec.sub_eq_add_neg, BitVec.neg_add]
      rw [e1, Int32.toInt_neg, nI_toInt (by omega)] at z2
      have e0 : (0 : Int32).toInt = 0 := by decide
      rw [e0] at z2
      have := Int.bmod_def
      have hb : (-((1000 + (rdA s a 11 0).2.1 : Nat) : Int)).bmod (2 ^ 32) = -((1000 + (rdA s a 11 0).2.1 : Nat) : Int) := by
        apply Int.bmod_eq_of_le <;> omega
      rw [hb] at z2
      omega
    have hq18 : (zup H2 90 16 0) 90 18 = nI (rdA s a 11 0).2.1 := by rw [zup_rk (by decide)]; exact d3.2.2.2.1
    refine ⟨r, G2, zup H2 90 16 0, f, u, 0, b, ?_, ?_, zRel.mono (D := D) ⟨?_, ?_, ?_, ?_, ?_, ⟨Nat.zero_le _, o841, zup_rr, fun j hj => absurd hj (Nat.not_lt_zero j)⟩, ?_⟩ (by omega), fun i hi => o2 i (by omega) (by omega), fun i hi => by rw [zup_ro (by omega), d2.1 i (by omega) (by omega), xo i (by omega) (by omega)]⟩
    · rw [hcl, B_T_run_15, if_neg hr0]
    · rw [hml, B_M_run_21, if_neg (by rw [zup_rk (by decide), d3.2.2.2.2.1]; exact bB_t), hq18, er]
    · exact c0.same (fun i hi => o2 i (by omega) (by omega)) (o2 82 (by decide) (by decide)) (o2 85 (by decide) (by decide)) (fun i q1 q2 => by rw [zup_ro (by omega), d2.1 i (by omega) (by omega), xo i (by omega) (by omega)])
    · rw [zup_ro (show 91 ≠ 90 by decide), d2.1 91 (by decide) (by decide), xo 91 (by decide) (by decide)]
      exact HRat_same hr (o2 _ (by decide) (by decide)) (o2 _ (by decide) (by decide)) (o2 _ (by decide) (by decide)) (o2 _ (by decide) (by decide)) (fun _ _ => rfl)
    · exact zHist_same hh (by rw [o2 9 (by decide) (by decide)]) (by rw [o2 9 (by decide) (by decide)]) (fun i _ _ => o2 i (by omega) (by omega)) (by rw [zup_rk (by decide), d2.2 1 (by decide) (by decide), x90 1 (by decide) (by decide) (by decide)]) (by rw [zup_ro (by decide), d2.1 94 (by decide) (by decide), xo 94 (by decide) (by decide)])
    · exact hw.same (o2 1 (by decide) (by decide)) (by rw [zup_rk (by decide), d2.2 2 (by decide) (by decide), x90 2 (by decide) (by decide) (by decide)]) (by rw [zup_rk (by decide), d2.2 3 (by decide) (by decide), x90 3 (by decide) (by decide) (by decide)])
    · exact zSaved_same hsv (by rw [o2 9 (by decide) (by decide)]) (fun i _ _ => o2 i (by omega) (by omega)) (by rw [zup_rk (by decide), d2.2 4 (by decide) (by decide), x90 4 (by decide) (by decide) (by decide)]) (by rw [zup_ro (by decide), d2.1 93 (by decide) (by decide), xo 93 (by decide) (by decide)])
    · exact hl.same (o2 88 (by decide) (by decide)) (o2 89 (by decide) (by decide)) (by rw [zup_rk (by decide), d2.2 17 (by decide) (by decide), x90 17 (by decide) (by decide) (by decide)]) (by rw [zup_ro (by decide), d2.1 96 (by decide) (by decide), xo 96 (by decide) (by decide)])
  | false =>
    rw [hok] at d3
    obtain ⟨er, hord⟩ := g4 hok
    have hlen := rdA_len (m := a) (s := s) 11 0
    generalize hcnt : (rdA s a 11 0).1.length = cnt at er hlen
    obtain ⟨hf, hu, f3, u4, c1, hk⟩ := hh
    have f3' : G2 9 3 = nI f := by rw [o2 9 (by decide) (by decide)]; exact f3
    have u4' : G2 9 4 = nI u := by rw [o2 9 (by decide) (by decide)]; exact u4
    -- kept
    have hG3 : ∃ G3 : Nat → Nat → Int32, G3 = hcopy G2 (kb f) 2 := ⟨_, rfl⟩
    obtain ⟨G3, hG3⟩ := hG3
    have k1 := sc_keep f3' hf
    rw [← hG3] at k1
    have o3 : ∀ i, i < 18 ∨ 81 ≤ i → G3 i = G2 i := fun i hi => by
      rw [hG3]
      exact hcopy_o (by unfold kb; omega) (by unfold kb; omega) (by unfold kb; omega) (by unfold kb; omega)
    have hr2 : HRat D G2 2 (H 91) := HRat_same hr (o2 _ (by decide) (by decide)) (o2 _ (by decide) (by decide)) (o2 _ (by decide) (by decide)) (o2 _ (by decide) (by decide)) (fun _ _ => rfl)
    have hr3 : HRat D G3 2 (H 91) := by rw [hG3]; exact HRat_keep hr2 kb_apart2
    have hkept : HRat D G3 (kb f) (H 91) := by rw [hG3]; exact HRat_copy kb_apart2 hr2 (fun _ _ => rfl)
    have hk3 : ∀ t, t < u → kb ((f + 8 - t) % 9) ≠ kb f → HRat D G3 (kb ((f + 8 - t) % 9)) (fun j => H 94 (327 * (u - 1 - t) + j)) := fun t htu hne => by
      rw [hG3]
      refine HRat_keep ?_ (kb_apart (fun z => hne (congrArg kb z.symm)))
      exact HRat_same (hk t htu) (o2 _ (by unfold kb; omega) (by unfold kb; omega)) (o2 _ (by unfold kb; omega) (by unfold kb; omega)) (o2 _ (by unfold kb; omega) (by unfold kb; omega)) (o2 _ (by unfold kb; omega) (by unfold kb; omega)) (fun _ _ => rfl)
    have w3 : zWT G3 := by
      have := c0.1
      unfold zWT at this ⊢
      rw [o3 3 (by omega), o3 5 (by omega), o3 7 (by omega), o2 3 (by decide) (by decide), o2 5 (by decide) (by decide), o2 7 (by decide) (by decide)]
      exact this
    have ot3 : zOT G3 := by
      have := c0.2.2.1
      unfold zOT
      rw [o3 85 (by omega), o2 85 (by decide) (by decide)]
      exact this
    have ord3 : zOrd G3 0 (rdA s a 11 0).1 := zOrd.same (by rw [o3 86 (by omega), hG2, zup_ro (by decide)]) _ _ hord
    -- the model's second reading
    have hY : ∃ Y : Nat → Nat → Int32, Y = zup (zup (zup (zup H2 90 16 0) 90 21 1) 90 18 0) 90 20 0 := ⟨_, rfl⟩
    obtain ⟨Y, hY⟩ := hY
    have y90 : ∀ j, j ≠ 0 → j ≠ 16 → j ≠ 18 → j ≠ 19 → j ≠ 20 → j ≠ 21 → Y 90 j = H 90 j := fun j a b c d e g => by rw [hY, zup_rk e, zup_rk c, zup_rk g, zup_rk b, d2.2 j c e, x90 j a d g]
    have yo : ∀ i, i ≠ 90 → i ≠ 92 → i ≠ 97 → Y i = H i := fun i a b c => by rw [hY, zup_ro a, zup_ro a, zup_ro a, zup_ro a, d2.1 i a c, xo i a b]
    have y92 : ∀ j, j < 327 → Y 92 j = H 91 j := fun j hj => by rw [hY, zup_ro (by decide), zup_ro (by decide), zup_ro (by decide), zup_ro (by decide), d2.1 92 (by decide) (by decide)]; exact x92 j hj
    have y0 : Y 90 0 = 0 := by rw [hY, zup_rk (by decide), zup_rk (by decide), zup_rk (by decide), zup_rk (by decide), d2.2 0 (by decide) (by decide)]; exact x0
    have y21 : Y 90 21 = 1 := by rw [hY, zup_rk (by decide), zup_rk (by decide), zup_rr]
    have y16 : Y 90 16 = 0 := by rw [hY, zup_rk (by decide), zup_rk (by decide), zup_rk (by decide), zup_rr]
    have hcY : zMc Y := by
      have := c0.mc
      unfold zMc at this ⊢
      rw [yo 98 (by decide) (by decide) (by decide), yo 99 (by decide) (by decide) (by decide), yo 100 (by decide) (by decide) (by decide), yo 101 (by decide) (by decide) (by decide)]
      exact this
    have stY : mSt a s (0, false) Y := ⟨s1, Nat.zero_le _, by rw [hY, zup_rk (by decide), zup_rk (by decide), zup_rk (by decide), zup_rk (by decide), d2.2 19 (by decide) (by decide)]; exact x19, by rw [hY, zup_rk (by decide), zup_rr]; rfl, by rw [hY, zup_rr]; rfl, fun j hj => by rw [yo 95 (by decide) (by decide) (by decide)]; exact s3 j hj⟩
    obtain ⟨n, G5, H4, H5, e1, e2, ⟨e3, e4, e5⟩, e6⟩ := run_do 11 0 0 D G3 Y (by omega) (Nat.zero_le _) hok (by rw [hcnt, Nat.zero_add]) (by omega) w3 ot3 ord3 (by rw [yo 91 (by decide) (by decide) (by decide)]; exact hr3) hcY stY y21 y0
    have hcl2 : zden 93 0 [.ref 0, .retAddr 0, .retAddr 0] [] (zSH, G) = zden 93 34 [.ref 0, .int (nI cnt), .int (nI 0)] [] (zSH, G3) := by
      rw [hcl, er, B_T_run_15, if_pos (nI_pos' (by omega)), k1, zaft_same]
      exact B_T_run_32
    have hml2 : zden 155 0 [.ref 90, .retAddr 0] [] (zSH, H) = zden 155 52 [.ref 90, .int rd] [.int (nI n)] (zSH, H5) := by
      rw [hml, B_M_run_21, if_pos (by rw [zup_rk (by decide), d3.2.2.2.2.1]; rfl), B_M_orders_0, ← hY, e1, zaft_same]
      rw [show zden 156 16 [.ref 90, .int 1] ((none : Option Value).toList ++ []) (zSH, H4) = some (some (.int (nI n)), (zSH, H5)) from e2, zaft_same]
      rfl
    have g9 : G5 9 = G2 9 := by rw [e3 9 (by decide) (by decide) (by decide) (by decide) (by decide), o3 9 (by omega)]
    have go : ∀ i, i = 0 ∨ i = 3 ∨ i = 5 ∨ i = 7 ∨ (10 ≤ i ∧ i < 18) ∨ (81 ≤ i ∧ i ≠ 84 ∧ i ≠ 86) → G5 i = G i := fun i hi => by
      rw [e3 i (by omega) (by omega) (by omega) (by omega) (by omega), o3 i (by omega), o2 i (by omega) (by omega)]
    have kept5 : ∀ (c : Nat) (v : Nat → Int32) (E : Nat), 18 ≤ c → HRat E G3 c v → HRat E G5 c v := fun c v E hc h =>
      HRat_same h (e3 c (by omega) (by omega) (by omega) (by omega) (by omega)) (e3 _ (by omega) (by omega) (by omega) (by omega) (by omega)) (e3 _ (by omega) (by omega) (by omega) (by omega) (by omega)) (e3 _ (by omega) (by omega) (by omega) (by omega) (by omega)) (fun _ _ => rfl)
    have g841 : G5 84 1 = 0 := by rw [e3 84 (by decide) (by decide) (by decide) (by decide) (by decide), o3 84 (by omega)]; exact o841
    have h1u : H5 90 1 = nI u := by rw [e5 1 (by decide) (by decide) (by decide) (by decide) (by decide), y90 1 (by decide) (by decide) (by decide) (by decide) (by decide) (by decide)]; exact c1
    have h92 : ∀ j, j < 327 → H5 92 j = H 91 j := fun j hj => by rw [e4 92 (by decide) (by decide) (by decide)]; exact y92 j hj
    have h94 : H5 94 = H 94 := by rw [e4 94 (by decide) (by decide) (by decide), yo 94 (by decide) (by decide) (by decide)]
    have ho : ∀ i, i ≠ 90 → i ≠ 91 → i ≠ 92 → i ≠ 97 → H5 i = H i := fun i a b c d => by rw [e4 i a b d, yo i a c d]
    have h90 : ∀ j, j = 4 ∨ j = 17 → H5 90 j = H 90 j := fun j hj => by rw [e5 j (by omega) (by omega) (by omega) (by omega) (by omega), y90 j (by omega) (by omega) (by omega) (by omega) (by omega) (by omega)]
    have h16 : H5 90 16 = 0 := by rw [e5 16 (by decide) (by decide) (by decide) (by decide) (by decide)]; exact y16
    rcases e6 with ⟨a1, a2, a3, a4, a5, a6, a7⟩ | ⟨j, a1, a2, a3, a4, a5⟩
    · subst a1
      obtain ⟨G6, q1, q2, q3, q4, q5⟩ := sc_settle (G := G5) (x := nI n) (nI_pos (by omega)) (by rw [g9]; exact f3') hf (by rw [g9]; exact u4') hu
      obtain ⟨H6, m', t1, t2, t3, t4, t5, t6, t7, t8⟩ := sm_ends_ok (x := nI n) a2 hu h1u
      refine ⟨nI n, G6, H6, (f + 1) % 9, m' + 1, 0, b, ?_, ?_, ⟨?_, ?_, ⟨by omega, by omega, q2, ?_, t4, fun t ht => ?_⟩, ?_, ?_, ⟨Nat.zero_le _, ?_, ?_, fun j hj => absurd hj (Nat.not_lt_zero j)⟩, ?_⟩, fun i hi => ?_, fun i hi => ?_⟩
      · rw [hcl2, a7, q1, zaft_same]
        exact B_T_run_93
      · rw [hml2, B_M_run_52, if_neg (fun z => z a2), B_M_run_74, t1, zaft_same]
        exact B_M_run_77
      · exact c0.same (fun i hi => by rw [q5 i (by omega), go i (by omega)]) (by rw [q5 82 (by decide), go 82 (by omega)]) (by rw [q5 85 (by decide), go 85 (by omega)]) (fun i z1 z2 => by rw [t8 i (by omega) (by omega), ho i (by omega) (by omega) (by omega) (by omega)])
      · rw [t8 91 (by decide) (by decide)]
        exact (HRat_same a3 (q5 2 (by decide)) (q5 _ (by decide)) (q5 _ (by decide)) (q5 _ (by decide)) (fun _ _ => rfl)).mono (by omega)
      · rw [q3, t3]
        by_cases h8 : u = 8
        · rw [if_pos h8, if_pos h8]
        · rw [if_neg h8, if_neg h8]
      · have hm : m' = if u = 8 then 7 else u := t3
        have st : ∀ (c : Nat) (v : Nat → Int32) (E : Nat), 18 ≤ c → HRat E G5 c v → HRat E G6 c v := fun c v E hc h => HRat_same h (q5 c (by omega)) (q5 _ (by omega)) (q5 _ (by omega)) (q5 _ (by omega)) (fun _ _ => rfl)
        rcases Nat.eq_zero_or_pos t with z0 | z0
        · subst z0
          have e : ((f + 1) % 9 + 8 - 0) % 9 = f := by omega
          rw [e]
          refine st _ _ _ (by unfold kb; omega) (kept5 _ _ _ (by unfold kb; omega) ?_)
          refine HR.congr (hkept.mono (by omega)) (fun _ _ _ => rfl) (fun _ _ => rfl) (fun _ _ => rfl) (fun _ _ => rfl) (fun j hj => ?_)
          show H6 94 (327 * (m' + 1 - 1 - 0) + j) = H 91 j
          rw [show 327 * (m' + 1 - 1 - 0) + j = 327 * m' + j by omega, t7 j hj]
          exact h92 j hj
        · have ht' : t - 1 < u := by
            by_cases h8 : u = 8
            · rw [if_pos h8] at hm; omega
            · rw [if_neg h8] at hm; omega
          have e : ((f + 1) % 9 + 8 - t) % 9 = (f + 8 - (t - 1)) % 9 := by omega
          rw [e]
          refine st _ _ _ (by unfold kb; omega) (kept5 _ _ _ (by unfold kb; omega) ?_)
          refine HR.congr ((hk3 (t - 1) ht' (by unfold kb; omega)).mono (by omega)) (fun _ _ _ => rfl) (fun _ _ => rfl) (fun _ _ => rfl) (fun _ _ => rfl) (fun j hj => ?_)
          show H6 94 (327 * (m' + 1 - 1 - t) + j) = H 94 (327 * (u - 1 - (t - 1)) + j)
          rw [t6 _ j (by omega) hj, h94]
          refine congrArg (H 94) ?_
          by_cases h8 : u = 8
          · rw [if_pos h8] at hm; omega
          · rw [if_neg h8] at hm; omega
      · refine hw.same ?_ ?_ ?_
        · rw [q5 1 (by decide), a4, o3 1 (by omega), o2 1 (by decide) (by decide)]
        · rw [t5 2 (by decide), a5, y90 2 (by decide) (by decide) (by decide) (by decide) (by decide) (by decide)]
        · rw [t5 3 (by decide), a6, y90 3 (by decide) (by decide) (by decide) (by decide) (by decide) (by decide)]
      · exact (zSaved_same hsv (by rw [q4 2 (by decide) (by decide), g9, o2 9 (by decide) (by decide)]) (fun i z1 z2 => by rw [q5 i (by omega), go i (by omega)]) (by rw [t5 4 (by decide), h90 4 (by omega)]) (by rw [t8 93 (by decide) (by decide), ho 93 (by decide) (by decide) (by decide) (by decide)])).mono (by omega)
      · rw [q5 84 (by decide)]; exact g841
      · rw [t5 16 (by decide)]; exact h16
      · exact hl.same (by rw [q5 88 (by decide), go 88 (by omega)]) (by rw [q5 89 (by decide), go 89 (by omega)]) (by rw [t5 17 (by decide), h90 17 (by omega)]) (by rw [t8 96 (by decide) (by decide), ho 96 (by decide) (by decide) (by decide) (by decide)])
      · rw [q5 i (by omega), go i (by omega)]
      · rw [t8 i (by omega) (by omega), ho i (by omega) (by omega) (by omega) (by omega)]
    · have k2 := sc_takeBack (G := G5) (f := f) (by rw [g9]; exact f3') hf
      have hZ : ∃ Z : Nat → Nat → Int32, Z = zup (zup (zup H5 90 2 6) 90 3 (nI n - 1)) 90 0 (-14) := ⟨_, rfl⟩
      obtain ⟨Z, hZ⟩ := hZ
      have z90 : ∀ j, j ≠ 0 → j ≠ 2 → j ≠ 3 → Z 90 j = H5 90 j := fun j p q t => by rw [hZ, zup_rk p, zup_rk t, zup_rk q]
      have zo : ∀ i, i ≠ 90 → Z i = H5 i := fun i p => by rw [hZ, zup_ro p, zup_ro p, zup_ro p]
      have z0 : Z 90 0 = -14 := by rw [hZ, zup_rr]
      have z2 : Z 90 2 = 6 := by rw [hZ, zup_rk (by decide), zup_rk (by decide), zup_rr]
      have z3 : Z 90 3 = nI j := by rw [hZ, zup_rk (by decide), zup_rr, a3, nI_pred]
      obtain ⟨H6, t1, t2, t3⟩ := sm_ends_fail (G := Z) (x := -14) (by rw [z0]; decide)
      rw [z0] at t1
      have co : ∀ i, i ≠ 2 → i ≠ 4 → i ≠ 6 → i ≠ 8 → hcopy G5 2 (kb f) i = G5 i := fun i p q t w => hcopy_o p q t w
      have hG7 : ∃ G7 : Nat → Nat → Int32, G7 = zup (zup (hcopy G5 2 (kb f)) 1 1 6) 1 2 (nI j) := ⟨_, rfl⟩
      obtain ⟨G7, hG7⟩ := hG7
      have g7 : ∀ i, i ≠ 1 → G7 i = hcopy G5 2 (kb f) i := fun i p => by rw [hG7, zup_ro p, zup_ro p]
      have g7o : ∀ i, i ≠ 1 → i ≠ 2 → i ≠ 4 → i ≠ 6 → i ≠ 8 → G7 i = G5 i := fun i p q t w v => by rw [g7 i p, co i q t w v]
      have h6o : ∀ i, i ≠ 90 → i ≠ 91 → H6 i = H5 i := fun i p q => by rw [t3 i q, zo i p]
      refine ⟨-14, G7, H6, f, u, 0, b, ?_, ?_, ⟨?_, ?_, ⟨hf, hu, ?_, ?_, ?_, fun t ht => ?_⟩, ?_, ?_, ⟨Nat.zero_le _, ?_, ?_, fun j hj => absurd hj (Nat.not_lt_zero j)⟩, ?_⟩, fun i hi => ?_, fun i hi => ?_⟩
      · rw [hcl2, a5, k2, zaft_same]
        refine Eq.trans B_T_run_68 ?_
        rw [B_Cl_refuse_0, ← hG7, zaft_same]
        exact B_T_run_78
      · rw [hml2, B_M_run_52, if_pos a4, ← hZ, B_M_run_74, t1, zaft_same]
        exact B_M_run_77
      · exact c0.same (fun i hi => by rw [g7o i (by omega) (by omega) (by omega) (by omega) (by omega), go i (by omega)]) (by rw [g7o 82 (by decide) (by decide) (by decide) (by decide) (by decide), go 82 (by omega)]) (by rw [g7o 85 (by decide) (by decide) (by decide) (by decide) (by decide), go 85 (by omega)]) (fun i z1 z2 => by rw [h6o i (by omega) (by omega), ho i (by omega) (by omega) (by omega) (by omega)])
      · have hb := HRat_copy (G := G5) (a := 2) (b := kb f) (v' := H6 91) (by unfold zApart kb; omega) (kept5 _ _ _ (by unfold kb; omega) hkept) (fun j hj => by rw [t2 j hj, zo 92 (by decide)]; exact h92 j hj)
        exact (HRat_same hb (g7 _ (by decide)) (g7 _ (by decide)) (g7 _ (by decide)) (g7 _ (by decide)) (fun _ _ => rfl)).mono (by omega)
      · rw [g7o 9 (by decide) (by decide) (by decide) (by decide) (by decide), g9]; exact f3'
      · rw [g7o 9 (by decide) (by decide) (by decide) (by decide) (by decide), g9]; exact u4'
      · rw [t3 90 (by decide), z90 1 (by decide) (by decide) (by decide)]; exact h1u
      · have h3 := kept5 _ _ _ (by unfold kb; omega) (hk3 t ht (by unfold kb; omega))
        refine HRat_same (h3.mono (by omega)) (g7o _ (by unfold kb; omega) (by unfold kb; omega) (by unfold kb; omega) (by unfold kb; omega) (by unfold kb; omega)) (g7o _ (by unfold kb; omega) (by unfold kb; omega) (by unfold kb; omega) (by unfold kb; omega) (by unfold kb; omega)) (g7o _ (by unfold kb; omega) (by unfold kb; omega) (by unfold kb; omega) (by unfold kb; omega) (by unfold kb; omega)) (g7o _ (by unfold kb; omega) (by unfold kb; omega) (by unfold kb; omega) (by unfold kb; omega) (by unfold kb; omega)) (fun i hi => ?_)
        show H6 94 _ = H 94 _
        rw [h6o 94 (by decide) (by decide), h94]
      · refine .inr ⟨?_, ?_, ?_⟩
        · rw [t3 90 (by decide), z2]; decide
        · rw [t3 90 (by decide), z2, hG7, zup_rk (by decide), zup_rr]
        · rw [t3 90 (by decide), z3, hG7, zup_rr]
      · exact (zSaved_same hsv (by rw [g7o 9 (by decide) (by decide) (by decide) (by decide) (by decide), g9, o2 9 (by decide) (by decide)]) (fun i z1 z2 => by rw [g7o i (by omega) (by omega) (by omega) (by omega) (by omega), go i (by omega)]) (by rw [t3 90 (by decide), z90 4 (by decide) (by decide) (by decide), h90 4 (by omega)]) (by rw [h6o 93 (by decide) (by decide), ho 93 (by decide) (by decide) (by decide) (by decide)])).mono (by omega)
      · rw [g7o 84 (by decide) (by decide) (by decide) (by decide) (by decide)]; exact g841
      · rw [t3 90 (by decide), z90 16 (by decide) (by decide) (by decide)]; exact h16
      · exact hl.same (by rw [g7o 88 (by decide) (by decide) (by decide) (by decide) (by decide), go 88 (by omega)]) (by rw [g7o 89 (by decide) (by decide) (by decide) (by decide) (by decide), go 89 (by omega)]) (by rw [t3 90 (by decide), z90 17 (by decide) (by decide) (by decide), h90 17 (by omega)]) (by rw [h6o 96 (by decide) (by decide), ho 96 (by decide) (by decide) (by decide) (by decide)])
      · rw [g7o i (by omega) (by omega) (by omega) (by omega) (by omega), go i (by omega)]
      · rw [h6o i (by omega) (by omega), ho i (by omega) (by omega) (by omega) (by omega)]
