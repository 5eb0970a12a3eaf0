-- 59: the heading at a place
theorem cntF_bd {F : Nat → Bool} {K : Nat → Nat} {h : Nat} : ∀ (d i : Nat), cntF F K h d i + (if i ≤ h ∧ h < i + d then 1 else 0) ≤ d := by
  intro d
  induction d with
  | zero => intro i; rw [if_neg (by omega)]; exact Nat.le_refl _
  | succ d ih =>
    intro i
    have := ih (i + 1)
    rw [cntF_succ]
    by_cases e : i = h
    · subst e
      have a1 : (if F i = true ∧ K i < K i then 1 else 0) = 0 := if_neg (fun z => Nat.lt_irrefl _ z.2)
      have a3 : (if i ≤ i ∧ i < i + (d + 1) then 1 else 0) = 1 := if_pos (by omega)
      have a4 : (if i + 1 ≤ i ∧ i < i + 1 + d then 1 else 0) = 0 := if_neg (by omega)
      rw [a4] at this
      rw [a1, a3]
      omega
    · have e2 : (if i ≤ h ∧ h < i + (d + 1) then 1 else 0) = (if i + 1 ≤ h ∧ h < i + 1 + d then 1 else 0) := by
        by_cases q : i ≤ h ∧ h < i + (d + 1)
        · rw [if_pos q, if_pos (by omega)]
        · rw [if_neg q, if_neg (by omega)]
      rw [e2]
      have a1 : (if F i = true ∧ K h < K i then 1 else 0) ≤ 1 := by
        by_cases q : F i = true ∧ K h < K i
        · rw [if_pos q]; exact Nat.le_refl _
        · rw [if_neg q]; exact Nat.zero_le _
      omega
theorem cntF_le {F : Nat → Bool} {K : Nat → Nat} {h n : Nat} (hh : h ≤ n) : cntF F K h (n + 1) 0 ≤ n := by
  have := cntF_bd (F := F) (K := K) (h := h) (n + 1) 0
  rw [if_pos (by omega)] at this
  omega
theorem sc_fra_loop {G : Nat → Nat → Int32} {v : Nat → Int32} {n g p : Nat} (w : zWT G) (ho : hOK n (G 4) v) (hs : ∀ h, h + 1 < n → G 4 (5 * h + 4) < G 4 (5 * (h + 1) + 4)) (i3 : G 2 3 = nI (n + 1)) (hg : g < 12) (hp : p ≤ 10) : ∀ (d s : Nat) (r : Int32), s + d = p → atI (fitB (G 4) (G 6) g) (rkC (G 4)) n s r →
    ∃ r' : Int32, zden 30 12 [.ref 2, .int (nI g), .int (nI p), .int r, .int (nI s)] [] (zSH, G) = some (some (.int r'), (zSH, G)) ∧ atI (fitB (G 4) (G 6) g) (rkC (G 4)) n p r' := by
  have hn := ho.1
  intro d
  induction d with
  | zero =>
    intro s r h ha
    have h : s = p := by omega
    subst h
    exact ⟨r, by rw [B_Ho_fittingRowAt_12, if_pos (Int32.le_refl _)], ha⟩
  | succ d ih =>
    intro s r h ha
    have hc : zden 30 12 [.ref 2, .int (nI g), .int (nI p), .int r, .int (nI s)] [] (zSH, G) = _ := B_Ho_fittingRowAt_12
    rw [if_neg (nI_ge (by omega) (by omega))] at hc
    rcases ha with ⟨a1, a2⟩ | ⟨k, k1, k2, k3, k4⟩
    · subst a1
      exact ⟨-1, hc.trans (if_pos (by decide)), .inl ⟨rfl, fun h hh hF => by have := a2 h hh hF; omega⟩⟩
    · subst k2
      have hK := rk_le ho k1
      obtain ⟨r2, x2, q1, q2⟩ := sc_fittingRow (b := rkC (G 4) k) w ho i3 hg (by omega)
      obtain ⟨r', e1, e2⟩ := ih (s + 1) r2 (by omega) (atI_step (fun i j hi hj h => rk_inj ho hs hi hj h) k1 k3 k4 q2)
      refine ⟨r', ?_, e2⟩
      rw [hc, if_neg (nI_pos (by omega)), sc_rankOf w ho k1, zaft_same]
      refine Eq.trans B_Ho_fittingRowAt_29 ?_
      rw [q1, zaft_same]
      refine Eq.trans B_Ho_fittingRowAt_32 ?_
      rw [nI_1]
      exact e1
theorem sc_fittingRowAt {G : Nat → Nat → Int32} {v : Nat → Int32} {n g p : Nat} (w : zWT G) (ho : hOK n (G 4) v) (hs : ∀ h, h + 1 < n → G 4 (5 * h + 4) < G 4 (5 * (h + 1) + 4)) (i3 : G 2 3 = nI (n + 1)) (hg : g < 12) (hp : p ≤ 10) :
    ∃ r : Int32, zden 30 0 [.ref 2, .int (nI g), .int (nI p), .retAddr 0, .retAddr 0] [] (zSH, G) = some (some (.int r), (zSH, G)) ∧ atI (fitB (G 4) (G 6) g) (rkC (G 4)) n p r := by
  obtain ⟨r, x, q1, q2⟩ := sc_fittingRow (b := 1000) w ho i3 hg (by omega)
  obtain ⟨r', e1, e2⟩ := sc_fra_loop w ho hs i3 hg hp p 0 r (by omega) (atI_zero (fun j hj => by have := rk_le ho hj; omega) q2)
  refine ⟨r', ?_, e2⟩
  rw [B_Ho_fittingRowAt_0, show (1000 : Int32) = nI 1000 by decide, q1, zaft_same]
  exact Eq.trans B_Ho_fittingRowAt_8 e1
theorem fit_at {G H : Nat → Nat → Int32} {n g p : Nat} (w : zWT G) (ho : hOK n (G 4) (H 91)) (hs : ∀ h, h + 1 < n → G 4 (5 * h + 4) < G 4 (5 * (h + 1) + 4)) (i3 : G 2 3 = nI (n + 1)) (hg : g < 12) (hq : HRg (G 6) (H 91) g) (hp : p ≤ 10) :
    ∃ r : Int32, zden 30 0 [.ref 2, .int (nI g), .int (nI p), .retAddr 0, .retAddr 0] [] (zSH, G) = some (some (.int r), (zSH, G)) ∧ zden 120 0 [.ref 90, .int (nI g), .int (nI p), .retAddr 0, .retAddr 0, .retAddr 0] [] (zSH, H) = some (some (.int r), (zSH, H)) ∧ (r = -1 ∨ ∃ h, h ≤ n ∧ r = nI h) := by
  obtain ⟨r, q1, q2⟩ := sc_fittingRowAt w ho hs i3 hg hp
  obtain ⟨r', p1, p2⟩ := sm_fitting (pl := nI p) ho hg hq
  have e := atI_selM (by omega) ho.1 (fun i j hi hj h => rk_inj ho hs hi hj h) (fun i j hi hj => rk_lt ho hi hj) q2 p2
  subst e
  refine ⟨r, q1, p1, ?_⟩
  rcases q2 with ⟨z, _⟩ | ⟨h, h1, h2, _, _⟩
  · exact .inl z
  · exact .inr ⟨h, h1, h2⟩
theorem nlow : ¬ (0 : Int32) ≤ -1 := by decide
theorem read_fit {x y : Int32} : ReadOK 81 [.ref 0, .int x, .int y, .retAddr 0] 137 [.ref 90, .int x, .int y, .retAddr 0] := by
  intro D G H w hr hw
  obtain ⟨gn, gl, i4, v2, hg⟩ := hr.goods
  obtain ⟨n, ho, i3, hs⟩ := hr.rows
  have ho' : hOK n (G 4) (H 91) := ho
  have i3' : G 2 3 = nI (n + 1) := i3
  have hn := ho.1
  have e : G 2 3 - 1 = nI n := by rw [i3', nI_pred]
  by_cases hx : ∃ g : Nat, g < gn ∧ x = nI g
  · obtain ⟨g, g1, rfl⟩ := hx
    have n1 : ¬ bI (0 ≤ nI g ∧ nI g < G 2 4) = 0 := bIn.mpr (by rw [i4]; exact (good_iff gl).mpr ⟨g, g1, rfl⟩)
    have n2 : ¬ bI (0 ≤ nI g ∧ nI g ≤ H 91 2 - 1) = 0 := bIn.mpr (by rw [v2]; exact (good_iff2 gl).mpr ⟨g, g1, rfl⟩)
    by_cases hy : (0 : Int32) ≤ y ∧ y ≤ nI n
    · obtain ⟨p, _, p2, rfl⟩ := nI_btw (A := 0) (B := n) rfl rfl (by omega) (by omega) hy
      obtain ⟨r, q1, q2, q3⟩ := fit_at w ho' hs i3' (show g < 12 by omega) (hg g g1) (show p ≤ 10 by omega)
      have hm : zden 137 0 [.ref 90, .int (nI g), .int (nI p), .retAddr 0] [] (zSH, H) = zden 137 18 [.ref 90, .int (nI g), .int (nI p), .retAddr 0] [.int r] (zSH, H) := by
        rw [B_M_fit_0, if_neg n2, q2, zaft_same]
        exact B_M_fit_14
      rcases q3 with rfl | ⟨h, h1, rfl⟩
      · refine ⟨-11, ?_, ?_⟩
        · rw [B_T_fit_0, if_neg n1, e, if_pos (bIn.mpr hy), q1, zaft_same]
          exact B_T_fit_40.trans (if_neg nlow)
        · exact hm.trans ((B_M_fit_18 (fun q => absurd q nlow)).trans (if_neg nlow))
      · obtain ⟨⟨m0, _⟩, k0, _⟩ := ho'.head h1
        refine ⟨G 4 (5 * h + 4), ?_, ?_⟩
        · rw [B_T_fit_0, if_neg n1, e, if_pos (bIn.mpr hy), q1, zaft_same]
          refine B_T_fit_40.trans ((if_pos (nI_pos' (by omega))).trans ?_)
          rw [hd_get w rfl nIlit_4 (by omega) (by decide)]
        · refine hm.trans ((B_M_fit_18 (fun _ => k0)).trans ((if_pos (nI_pos' (by omega))).trans ?_))
          rw [m0]
    · obtain ⟨r', p1, p2⟩ := sm_fitting (pl := y) ho' (show g < 12 by omega) (hg g g1)
      have r1 : r' = -1 := by
        rcases p2 with ⟨z, _⟩ | ⟨h, h1, h2, h3, h4⟩
        · exact z
        · have := cntF_le (F := fitB (G 4) (G 6) g) (K := rkM (G 4)) h1
          have h4' : nI (cntF (fitB (G 4) (G 6) g) (rkM (G 4)) h (n + 1) 0) = y := h4
          exact absurd ⟨by rw [← h4']; exact nI_pos' (by omega), by rw [← h4']; exact nI_le this (by omega)⟩ hy
      subst r1
      refine ⟨-11, ?_, ?_⟩
      · rw [B_T_fit_0, if_neg n1, e, if_neg (fun q => hy (bIn.mp q))]
      · rw [B_M_fit_0, if_neg n2, p1, zaft_same]
        exact B_M_fit_14.trans ((B_M_fit_18 (fun q => absurd q nlow)).trans (if_neg nlow))
  · have n1 : ¬ (0 ≤ x ∧ x < G 2 4) := by rw [i4, good_iff gl]; exact hx
    have n2 : ¬ (0 ≤ x ∧ x ≤ H 91 2 - 1) := by rw [v2, good_iff2 gl]; exact hx
    refine ⟨-11, ?_, ?_⟩
    · rw [B_T_fit_0, if_pos (bIz.mpr n1)]
    · rw [B_M_fit_0, if_pos (bIz.mpr n2)]
      exact (B_M_fit_18 (fun q => absurd q nlow)).trans (if_neg nlow)
