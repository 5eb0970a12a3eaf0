-- 47: what is read is a function of the house
theorem atI_uniq {n p : Nat} {F : Nat → Bool} {A : Nat → Int32} {r r' : Int32} (ho : hOK n A) (h : atI F (rkC A) n p r) (h' : atI F (rkC A) n p r') : r = r' := by
  rcases h with ⟨a1, a2⟩ | ⟨k, k1, k2, k3, k4⟩
  · rcases h' with ⟨b1, _⟩ | ⟨k', k1', _, k3', k4'⟩
    · rw [a1, b1]
    · have := a2 k' k1' k3'
      omega
  · rcases h' with ⟨_, b2⟩ | ⟨k', k1', k2', k3', k4'⟩
    · have := b2 k k1 k3
      omega
    · rcases Nat.lt_trichotomy (rkC A k) (rkC A k') with q | q | q
      · have := cntF_up (F := F) (K := rkC A) q k3' (n + 1) 0
        rw [if_pos (by omega)] at this
        omega
      · rw [k2, k2', rk_inj ho ho.2.2.2 k1 k1' q]
      · have := cntF_up (F := F) (K := rkC A) q k3 (n + 1) 0
        rw [if_pos (by omega)] at this
        omega
section ZTot
variable {D n gn : Nat} {G X : Nat → Nat → Int32}
theorem sr_w (w : zWT G) (s : sameR G X) : zWT X := by
  unfold zWT
  rw [s 3 (by decide) (by decide), s 5 (by decide) (by decide), s 7 (by decide) (by decide)]
  exact w
theorem sr_h (h : HIat D n gn G) (s : sameR G X) : HIat D n gn X := by
  unfold HIat
  rw [s 2 (by decide) (by decide), s 4 (by decide) (by decide), s 6 (by decide) (by decide), s 8 (by decide) (by decide)]
  exact h
theorem tot98 (w : zWT G) (h : HIat D n gn G) : ∀ x : Int32, ∃ v : Int32, ∀ X, sameR G X → zden 98 0 [.ref 0, .int x] [] (zSH, X) = some (some (.int v), (zSH, X)) := by
  intro x
  by_cases hx : (0 : Int32) ≤ x ∧ x ≤ 11
  · obtain ⟨k, _, k2, rfl⟩ := nI_btw (A := 0) (B := 11) (by decide) (by decide) (by decide) (by decide) hx
    refine ⟨accF (G 2) (G 6) (G 8) gn k, fun X s => ?_⟩
    rw [rd_acc (sr_w w s) (sr_h h s) (by omega), s 2 (by decide) (by decide), s 6 (by decide) (by decide), s 8 (by decide) (by decide)]
  by_cases h12 : x = 12
  · subst h12
    exact ⟨G 84 1, fun X s => by rw [rd_acc12, s 84 (by decide) (by decide)]⟩
  by_cases h13 : x = 13
  · subst h13
    exact ⟨G 9 4, fun X s => by rw [rd_acc13, s 9 (by decide) (by decide)]⟩
  have e : ∀ c : Int32, (0 : Int32) ≤ c ∧ c ≤ 11 → ¬ x = c := fun c hc q => hx (by rw [q]; exact hc)
  exact ⟨-12, fun X s => by rw [B_T_account_0, if_neg (e 0 (by decide)), if_neg (e 1 (by decide)), if_neg (e 2 (by decide)), if_neg (e 3 (by decide)), if_neg (e 4 (by decide)), if_neg (e 5 (by decide)), if_neg (e 6 (by decide)), if_neg (e 7 (by decide)), if_neg (e 8 (by decide)), if_neg (e 9 (by decide)), if_neg (e 10 (by decide)), if_neg (e 11 (by decide)), if_neg h12, if_neg h13]⟩
theorem tot74 (w : zWT G) (h : HIat D n gn G) : ∀ x : Int32, ∃ v : Int32, ∀ X, sameR G X → zden 74 0 [.ref 0, .int x] [] (zSH, X) = some (some (.int v), (zSH, X)) := by
  intro x
  have hn := h.ho.1
  by_cases hx : (0 : Int32) ≤ x ∧ x ≤ nI n
  · obtain ⟨k, _, k2, rfl⟩ := nI_btw (A := 0) (B := n) (by decide) rfl (by omega) (by decide) hx
    refine ⟨codeF (G 4) n k, fun X s => ?_⟩
    rw [rd_code (sr_w w s) (sr_h h s) (by omega), s 4 (by decide) (by decide)]
  · refine ⟨-11, fun X s => ?_⟩
    have e : X 2 3 - 1 = nI n := by rw [show X 2 3 = nI (n + 1) from (sr_h h s).i3, nI_pred]
    rw [B_T_code_0, e, if_pos (bIz.mpr hx)]
theorem tot73 (w : zWT G) (h : HIat D n gn G) : ∀ x y : Int32, ∃ v : Int32, ∀ X, sameR G X → zden 73 0 [.ref 0, .int x, .int y, .retAddr 0] [] (zSH, X) = some (some (.int v), (zSH, X)) := by
  intro x y
  have hn := h.ho.1
  rcases findR_or (A := G 4) (x := x) (n + 1) 0 with ⟨f1, _⟩ | ⟨i, _, i2, f1, f2⟩
  · refine ⟨-11, fun X s => ?_⟩
    rw [B_T_headingOf_0, sc_rowOfCode (sr_w w s) hn (sr_h h s).i3, zaft_same, s 4 (by decide) (by decide), f1]
    exact B_T_headingOf_8.trans (if_neg (by decide))
  · by_cases hy : (0 : Int32) ≤ y ∧ y ≤ 4
    · obtain ⟨k, _, k2, rfl⟩ := nI_btw (A := 0) (B := 4) (by decide) (by decide) (by decide) (by decide) hy
      subst f2
      refine ⟨hdV (G 4) (G 6) n gn i k, fun X s => ?_⟩
      have := rd_hd (i := i) (k := k) (sr_w w s) (sr_h h s) (by omega) (by omega)
      rw [s 4 (by decide) (by decide), s 6 (by decide) (by decide)] at this
      exact this
    · refine ⟨-12, fun X s => ?_⟩
      rw [B_T_headingOf_0, sc_rowOfCode (sr_w w s) hn (sr_h h s).i3, zaft_same, s 4 (by decide) (by decide), f1]
      exact B_T_headingOf_8.trans ((if_pos (nI_pos' (by omega))).trans (if_neg (fun q => hy (bIn.mp q))))
theorem good_no (h : HIat D n gn G) {x : Int32} (hx : ¬ ∃ g : Nat, g < gn ∧ x = nI g) : bI (0 ≤ x ∧ x < G 2 4) = 0 := bIz.mpr (by rw [show G 2 4 = nI gn from h.i4, good_iff h.gl]; exact hx)
theorem tot78 (w : zWT G) (h : HIat D n gn G) : ∀ x y : Int32, ∃ v : Int32, ∀ X, sameR G X → zden 78 0 [.ref 0, .int x, .int y] [] (zSH, X) = some (some (.int v), (zSH, X)) := by
  intro x y
  by_cases hx : ∃ g : Nat, g < gn ∧ x = nI g
  · obtain ⟨g, g1, rfl⟩ := hx
    by_cases hy : (0 : Int32) ≤ y ∧ y ≤ 10
    · obtain ⟨k, _, k2, rfl⟩ := nI_btw (A := 0) (B := 10) (by decide) (by decide) (by decide) (by decide) hy
      refine ⟨gdV (G 4) (G 6) (G 8) n g k, fun X s => ?_⟩
      rw [rd_good (sr_w w s) (sr_h h s) g1 (by omega), s 4 (by decide) (by decide), s 6 (by decide) (by decide), s 8 (by decide) (by decide)]
    · have e : ∀ c : Int32, (0 : Int32) ≤ c ∧ c ≤ 10 → ¬ y = c := fun c hc q => hy (by rw [q]; exact hc)
      exact ⟨-12, fun X s => by rw [B_T_goodOf_0, if_pos (good_in (sr_h h s) g1), if_neg (e 0 (by decide)), if_neg (e 1 (by decide)), if_neg (e 2 (by decide)), if_neg (e 3 (by decide)), if_neg (e 4 (by decide)), if_neg (e 5 (by decide)), if_neg (e 6 (by decide)), if_neg (e 7 (by decide)), if_neg (e 8 (by decide)), if_neg (e 9 (by decide)), if_neg (e 10 (by decide))]⟩
  · exact ⟨-11, fun X s => by rw [B_T_goodOf_0, if_neg (fun q => q (good_no (sr_h h s) hx))]⟩
theorem tot79 (w : zWT G) (h : HIat D n gn G) : ∀ x y : Int32, ∃ v : Int32, ∀ X, sameR G X → zden 79 0 [.ref 0, .int x, .int y] [] (zSH, X) = some (some (.int v), (zSH, X)) := by
  intro x y
  by_cases hx : ∃ g : Nat, g < gn ∧ x = nI g
  · obtain ⟨g, g1, rfl⟩ := hx
    by_cases hy : (0 : Int32) ≤ y ∧ y ≤ 3
    · obtain ⟨k, _, k2, rfl⟩ := nI_btw (A := 0) (B := 3) (by decide) (by decide) (by decide) (by decide) hy
      exact ⟨G 6 (23 * g + 9 + k), fun X s => by rw [rd_part (sr_w w s) (sr_h h s) g1 (by omega), s 6 (by decide) (by decide)]⟩
    · exact ⟨-11, fun X s => by rw [B_T_part_0, if_neg (good_in (sr_h h s) g1), if_neg (fun q => hy (bIn.mp q))]⟩
  · exact ⟨-11, fun X s => by rw [B_T_part_0, if_pos (good_no (sr_h h s) hx)]⟩
theorem tot80 (w : zWT G) (h : HIat D n gn G) : ∀ x y : Int32, ∃ v : Int32, ∀ X, sameR G X → zden 80 0 [.ref 0, .int x, .int y] [] (zSH, X) = some (some (.int v), (zSH, X)) := by
  intro x y
  by_cases hx : ∃ g : Nat, g < gn ∧ x = nI g
  · obtain ⟨g, g1, rfl⟩ := hx
    by_cases hy : (0 : Int32) ≤ y ∧ y ≤ 4
    · obtain ⟨k, _, k2, rfl⟩ := nI_btw (A := 0) (B := 4) (by decide) (by decide) (by decide) (by decide) hy
      exact ⟨G 6 (23 * g + 13 + k), fun X s => by rw [rd_pts (sr_w w s) (sr_h h s) g1 (by omega), s 6 (by decide) (by decide)]⟩
    · exact ⟨-11, fun X s => by rw [B_T_points_0, if_neg (good_in (sr_h h s) g1), if_neg (fun q => hy (bIn.mp q))]⟩
  · exact ⟨-11, fun X s => by rw [B_T_points_0, if_pos (good_no (sr_h h s) hx)]⟩
theorem tot89 (w : zWT G) (h : HIat D n gn G) : ∀ x y : Int32, ∃ v : Int32, ∀ X, sameR G X → zden 89 0 [.ref 0, .int x, .int y] [] (zSH, X) = some (some (.int v), (zSH, X)) := by
  intro x y
  by_cases hx : ∃ g : Nat, g < gn ∧ x = nI g
  · obtain ⟨g, g1, rfl⟩ := hx
    by_cases hy : (0 : Int32) ≤ y ∧ y ≤ 4
    · obtain ⟨k, _, k2, rfl⟩ := nI_btw (A := 0) (B := 4) (by decide) (by decide) (by decide) (by decide) hy
      exact ⟨dutC (G 4) (G 6) (G 8) n g (nI k), fun X s => by rw [rd_would (sr_w w s) (sr_h h s) g1 (by omega), s 4 (by decide) (by decide), s 6 (by decide) (by decide), s 8 (by decide) (by decide)]⟩
    · exact ⟨-11, fun X s => by rw [B_T_would_0, if_neg (good_in (sr_h h s) g1), if_neg (fun q => hy (bIn.mp q))]⟩
  · exact ⟨-11, fun X s => by rw [B_T_would_0, if_pos (good_no (sr_h h s) hx)]⟩
theorem tot81 (w : zWT G) (h : HIat D n gn G) : ∀ x y : Int32, ∃ v : Int32, ∀ X, sameR G X → zden 81 0 [.ref 0, .int x, .int y, .retAddr 0] [] (zSH, X) = some (some (.int v), (zSH, X)) := by
  intro x y
  have hn := h.ho.1
  by_cases hx : ∃ g : Nat, g < gn ∧ x = nI g
  · obtain ⟨g, g1, rfl⟩ := hx
    by_cases hy : (0 : Int32) ≤ y ∧ y ≤ nI n
    · obtain ⟨k, _, k2, rfl⟩ := nI_btw (A := 0) (B := n) (by decide) rfl (by omega) (by decide) hy
      obtain ⟨r, a, _⟩ := rd_fit w h g1 k2
      refine ⟨if 0 ≤ r then G 4 (5 * r.toNatClampNeg + 4) else -11, fun X s => ?_⟩
      obtain ⟨r', a', z⟩ := rd_fit (sr_w w s) (sr_h h s) g1 k2
      rw [s 4 (by decide) (by decide)] at a' z
      rw [s 6 (by decide) (by decide)] at a'
      rw [z, atI_uniq h.ho a' a]
    · refine ⟨-11, fun X s => ?_⟩
      have e : X 2 3 - 1 = nI n := by rw [show X 2 3 = nI (n + 1) from (sr_h h s).i3, nI_pred]
      rw [B_T_fit_0, if_neg (good_in (sr_h h s) g1), e, if_neg (fun q => hy (bIn.mp q))]
  · exact ⟨-11, fun X s => by rw [B_T_fit_0, if_pos (good_no (sr_h h s) hx)]⟩
theorem tot82 (w : zWT G) (h : HIat D n gn G) : ∀ x : Int32, ∃ v : Int32, ∀ X, sameR G X → zden 82 0 [.ref 0, .int x] [] (zSH, X) = some (some (.int v), (zSH, X)) := by
  intro x
  by_cases hx : ∃ g : Nat, g < gn ∧ x = nI g
  · obtain ⟨g, g1, rfl⟩ := hx
    exact ⟨G 4 (5 * topF (G 4) (G 6) n g + 4), fun X s => by rw [rd_again (sr_w w s) (sr_h h s) g1, s 4 (by decide) (by decide), s 6 (by decide) (by decide)]⟩
  · exact ⟨-11, fun X s => by rw [B_T_fitAgain_0, if_neg (fun q => q (good_no (sr_h h s) hx))]⟩
theorem tot83 (w : zWT G) (h : HIat D n gn G) : ∀ x : Int32, ∃ v : Int32, ∀ X, sameR G X → zden 83 0 [.ref 0, .int x] [] (zSH, X) = some (some (.int v), (zSH, X)) := by
  intro x
  by_cases hx : ∃ g : Nat, g < gn ∧ x = nI g
  · obtain ⟨g, g1, rfl⟩ := hx
    obtain ⟨r0, r1, a0, a1, _⟩ := rd_why w h g1
    refine ⟨if 0 ≤ r1 then leadV (G 4) r0.toNatClampNeg r1.toNatClampNeg else 0, fun X s => ?_⟩
    obtain ⟨q0, q1, b0, b1, z⟩ := rd_why (sr_w w s) (sr_h h s) g1
    rw [s 4 (by decide) (by decide)] at b0 b1 z
    rw [s 6 (by decide) (by decide)] at b0 b1
    rw [z, atI_uniq h.ho b0 a0, atI_uniq h.ho b1 a1]
  · exact ⟨-11, fun X s => by rw [B_T_why_0, if_pos (good_no (sr_h h s) hx)]⟩
theorem tot90 (w : zWT G) (h : HIat D n gn G) : ∀ x : Int32, ∃ v : Int32, ∀ X, sameR G X → zden 90 0 [.ref 0, .int x, .retAddr 0, .retAddr 0, .retAddr 0, .retAddr 0] [] (zSH, X) = some (some (.int v), (zSH, X)) := by
  intro x
  by_cases hx : ∃ g : Nat, g < gn ∧ x = nI g
  · obtain ⟨g, g1, rfl⟩ := hx
    exact ⟨nI (chpF (fun c => dutC (G 4) (G 6) (G 8) n g (nI c)) 4 1 0), fun X s => by rw [rd_cheap (sr_w w s) (sr_h h s) g1, s 4 (by decide) (by decide), s 6 (by decide) (by decide), s 8 (by decide) (by decide)]⟩
  · exact ⟨-11, fun X s => by rw [B_T_cheapest_0, if_neg (fun q => q (good_no (sr_h h s) hx))]⟩
theorem two_ch {P : Int32 → Int32 → Int32 → Prop} (h : ∀ x y, ∃ v, P x y v) : ∃ f : Int32 → Int32 → Int32, ∀ x y, P x y (f x y) := by
  have h1 : ∀ x, ∃ f : Int32 → Int32, ∀ y, P x y (f y) := fun x => Classical.axiomOfChoice (h x)
  exact Classical.axiomOfChoice h1
theorem rd_ex (w : zWT G) (h : HIat D n gn G) : ∃ rv : Nat → Int32 → Int32 → Int32, RDs G rv := by
  obtain ⟨f98, q98⟩ := Classical.axiomOfChoice (tot98 w h)
  obtain ⟨f74, q74⟩ := Classical.axiomOfChoice (tot74 w h)
  obtain ⟨f73, q73⟩ := two_ch (tot73 w h)
  obtain ⟨f78, q78⟩ := two_ch (tot78 w h)
  obtain ⟨f79, q79⟩ := two_ch (tot79 w h)
  obtain ⟨f80, q80⟩ := two_ch (tot80 w h)
  obtain ⟨f89, q89⟩ := two_ch (tot89 w h)
  obtain ⟨f81, q81⟩ := two_ch (tot81 w h)
  obtain ⟨f82, q82⟩ := Classical.axiomOfChoice (tot82 w h)
  obtain ⟨f83, q83⟩ := Classical.axiomOfChoice (tot83 w h)
  obtain ⟨f90, q90⟩ := Classical.axiomOfChoice (tot90 w h)
  exact ⟨fun k x y => if k = 98 then f98 x else if k = 74 then f74 x else if k = 73 then f73 x y else if k = 78 then f78 x y else if k = 79 then f79 x y else if k = 80 then f80 x y else if k = 89 then f89 x y else if k = 81 then f81 x y else if k = 82 then f82 x else if k = 83 then f83 x else f90 x,
    fun X s => ⟨fun x => q98 x X s, fun x => q74 x X s, fun x y => q73 x y X s, fun x y => q78 x y X s, fun x y => q79 x y X s, fun x y => q80 x y X s, fun x y => q89 x y X s, fun x y => q81 x y X s, fun x => q82 x X s, fun x => q83 x X s, fun x => q90 x X s⟩⟩
end ZTot
section ZRv
variable {D n gn : Nat} {G : Nat → Nat → Int32} {rv : Nat → Int32 → Int32 → Int32}
theorem v98 (hP : RDs G rv) (w : zWT G) (h : HIat D n gn G) {k : Nat} (hk : k < 12) : rv 98 (nI k) 0 = accF (G 2) (G 6) (G 8) gn k := zint_inj (((hP G sr_rf).1 (nI k)).symm.trans (rd_acc w h hk))
theorem v98t (hP : RDs G rv) : rv 98 12 0 = G 84 1 := zint_inj (((hP G sr_rf).1 12).symm.trans rd_acc12)
theorem v98u (hP : RDs G rv) : rv 98 13 0 = G 9 4 := zint_inj (((hP G sr_rf).1 13).symm.trans rd_acc13)
theorem v74 (hP : RDs G rv) (w : zWT G) (h : HIat D n gn G) {p : Nat} (hp : p < 2 ^ 20) : rv 74 (nI p) 0 = codeF (G 4) n p := zint_inj (((hP G sr_rf).2.1 (nI p)).symm.trans (rd_code w h hp))
theorem v74n (hP : RDs G rv) : rv 74 (-1) 0 = -11 := zint_inj (((hP G sr_rf).2.1 (-1)).symm.trans (rd_code_neg (D := 0) (n := 0) (gn := 0)))
theorem v73 (hP : RDs G rv) (w : zWT G) (h : HIat D n gn G) {i k : Nat} (hi : i ≤ n) (hk : k < 5) : rv 73 (G 4 (5 * i + 4)) (nI k) = hdV (G 4) (G 6) n gn i k := zint_inj (((hP G sr_rf).2.2.1 _ (nI k)).symm.trans (rd_hd w h hi hk))
theorem v73n (hP : RDs G rv) (w : zWT G) (h : HIat D n gn G) {x : Int32} : rv 73 (-11) x = -11 := zint_inj (((hP G sr_rf).2.2.1 (-11) x).symm.trans (rd_hd_no w h))
theorem v78 (hP : RDs G rv) (w : zWT G) (h : HIat D n gn G) {g k : Nat} (hg : g < gn) (hk : k < 11) : rv 78 (nI g) (nI k) = gdV (G 4) (G 6) (G 8) n g k := zint_inj (((hP G sr_rf).2.2.2.1 (nI g) (nI k)).symm.trans (rd_good w h hg hk))
theorem v78n (hP : RDs G rv) (h : HIat D n gn G) {g : Nat} {x : Int32} (hg : gn ≤ g) (h2 : g < 2 ^ 20) : rv 78 (nI g) x = -11 := zint_inj (((hP G sr_rf).2.2.2.1 (nI g) x).symm.trans (rd_good_no h hg h2))
theorem v78m (hP : RDs G rv) (h : HIat D n gn G) {x : Int32} : rv 78 (-11) x = -11 := by
  have z : zden 78 0 [.ref 0, .int (-11), .int x] [] (zSH, G) = some (some (.int (-11)), (zSH, G)) := by
    rw [B_T_goodOf_0, if_neg (fun q => q (good_no h (fun ⟨g, g1, g2⟩ => by
      have := h.gl
      have := nI_pos' (n := g) (by omega)
      rw [← g2] at this
      exact absurd this (by decide))))]
  exact zint_inj (((hP G sr_rf).2.2.2.1 (-11) x).symm.trans z)
theorem v79 (hP : RDs G rv) (w : zWT G) (h : HIat D n gn G) {g k : Nat} (hg : g < gn) (hk : k < 4) : rv 79 (nI g) (nI k) = G 6 (23 * g + 9 + k) := zint_inj (((hP G sr_rf).2.2.2.2.1 (nI g) (nI k)).symm.trans (rd_part w h hg hk))
theorem v79n (hP : RDs G rv) (h : HIat D n gn G) {g : Nat} {x : Int32} (hg : gn ≤ g) (h2 : g < 2 ^ 20) : rv 79 (nI g) x = -11 := zint_inj (((hP G sr_rf).2.2.2.2.1 (nI g) x).symm.trans (rd_part_no h hg h2))
theorem v80 (hP : RDs G rv) (w : zWT G) (h : HIat D n gn G) {g k : Nat} (hg : g < gn) (hk : k < 5) : rv 80 (nI g) (nI k) = G 6 (23 * g + 13 + k) := zint_inj (((hP G sr_rf).2.2.2.2.2.1 (nI g) (nI k)).symm.trans (rd_pts w h hg hk))
theorem v80n (hP : RDs G rv) (h : HIat D n gn G) {g : Nat} {x : Int32} (hg : gn ≤ g) (h2 : g < 2 ^ 20) : rv 80 (nI g) x = -11 := zint_inj (((hP G sr_rf).2.2.2.2.2.1 (nI g) x).symm.trans (rd_pts_no h hg h2))
theorem v89 (hP : RDs G rv) (w : zWT G) (h : HIat D n gn G) {g k : Nat} (hg : g < gn) (hk : k < 5) : rv 89 (nI g) (nI k) = dutC (G 4) (G 6) (G 8) n g (nI k) := zint_inj (((hP G sr_rf).2.2.2.2.2.2.1 (nI g) (nI k)).symm.trans (rd_would w h hg hk))
theorem v89n (hP : RDs G rv) (h : HIat D n gn G) {g : Nat} {x : Int32} (hg : gn ≤ g) (h2 : g < 2 ^ 20) : rv 89 (nI g) x = -11 := zint_inj (((hP G sr_rf).2.2.2.2.2.2.1 (nI g) x).symm.trans (rd_would_no h hg h2))
theorem v81 (hP : RDs G rv) (w : zWT G) (h : HIat D n gn G) {g p : Nat} (hg : g < gn) (hp : p ≤ n) : ∃ r : Int32, atI (fitB (G 4) (G 6) g) (rkC (G 4)) n p r ∧ rv 81 (nI g) (nI p) = if 0 ≤ r then G 4 (5 * r.toNatClampNeg + 4) else -11 := by
  obtain ⟨r, a, z⟩ := rd_fit w h hg hp
  exact ⟨r, a, zint_inj (((hP G sr_rf).2.2.2.2.2.2.2.1 (nI g) (nI p)).symm.trans z)⟩
theorem v81n (hP : RDs G rv) (h : HIat D n gn G) {g p : Nat} (hg : g < gn) (hp : n < p) (h2 : p < 2 ^ 20) : rv 81 (nI g) (nI p) = -11 := zint_inj (((hP G sr_rf).2.2.2.2.2.2.2.1 (nI g) (nI p)).symm.trans (rd_fit_no h hg hp h2))
theorem v82 (hP : RDs G rv) (w : zWT G) (h : HIat D n gn G) {g : Nat} (hg : g < gn) : rv 82 (nI g) 0 = G 4 (5 * topF (G 4) (G 6) n g + 4) := zint_inj (((hP G sr_rf).2.2.2.2.2.2.2.2.1 (nI g)).symm.trans (rd_again w h hg))
theorem v83 (hP : RDs G rv) (w : zWT G) (h : HIat D n gn G) {g : Nat} (hg : g < gn) : ∃ r0 r1 : Int32, atI (fitB (G 4) (G 6) g) (rkC (G 4)) n 0 r0 ∧ atI (fitB (G 4) (G 6) g) (rkC (G 4)) n 1 r1 ∧ rv 83 (nI g) 0 = if 0 ≤ r1 then leadV (G 4) r0.toNatClampNeg r1.toNatClampNeg else 0 := by
  obtain ⟨r0, r1, a, b, z⟩ := rd_why w h hg
  exact ⟨r0, r1, a, b, zint_inj (((hP G sr_rf).2.2.2.2.2.2.2.2.2.1 (nI g)).symm.trans z)⟩
theorem v90 (hP : RDs G rv) (w : zWT G) (h : HIat D n gn G) {g : Nat} (hg : g < gn) : rv 90 (nI g) 0 = nI (chpF (fun c => dutC (G 4) (G 6) (G 8) n g (nI c)) 4 1 0) := zint_inj (((hP G sr_rf).2.2.2.2.2.2.2.2.2.2 (nI g)).symm.trans (rd_cheap w h hg))
end ZRv
