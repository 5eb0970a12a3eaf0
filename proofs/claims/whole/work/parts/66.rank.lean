-- 66: ranked
def zRk (G : Nat → Nat → Int32) : Prop := G 82 0 = nI 12 ∧ G 82 1 = nI 2
theorem rk_get {G : Nat → Nat → Int32} (w : zRk G) {y : Int32} {i j : Nat} (hy : y = nI j) (hi : i < 12) (hj : j < 2) : tget G 82 83 24 (nI i) y = G 83 (2 * i + j) := by
  rw [hy, tget_in w.1 w.2 hi hj (by decide) (by decide), Nat.mul_comm]
theorem rk_set {G : Nat → Nat → Int32} (w : zRk G) {y z : Int32} {i j : Nat} (hy : y = nI j) (hi : i < 12) (hj : j < 2) : tset G 82 83 24 (nI i) y z = zup G 83 (2 * i + j) z := by
  rw [hy, tset_in w.1 w.2 hi hj (by decide) (by decide), Nat.mul_comm]
/-- the duties F and the worths W of the goods, as the model finds them -/
def rkM2 (H : Nat → Nat → Int32) (gn : Nat) (F W : Nat → Nat) : Prop := ∀ g, g < gn → F g ≤ 1980 ∧ W g ≤ 999 ∧ H 91 (65 + 22 * g) = nI (W g) ∧
  ∃ o' : Int32, zden 133 0 [.ref 90, .int (nI g), .retAddr 0, .retAddr 0, .retAddr 0] [] (zSH, H) = some (some (.int o'), (zSH, H)) ∧ zden 134 0 [.ref 90, .int (nI g), .int o', .retAddr 0, .retAddr 0, .retAddr 0, .retAddr 0] [] (zSH, H) = some (some (.int (nI (F g))), (zSH, H))
theorem zint_inj {a b : Int32} {h h' : zH} (q : (some (some (Value.int a), h) : Option (Option Value × zH)) = some (some (.int b), h')) : a = b := Value.int.inj (Option.some.inj (Prod.mk.inj (Option.some.inj q)).1)
theorem duty_F {D : Nat} {G H : Nat → Nat → Int32} {gn g : Nat} {F W : Nat → Nat} (w : zWT G) (hr : HRat D G 2 (H 91)) (i4 : G 2 4 = nI gn) (gl : gn ≤ 12) (hg : g < gn) (hq : HRg (G 6) (H 91) g) (hm : rkM2 H gn F W) :
    ∃ o : Int32, zden 28 0 [.ref 2, .int (nI g), .retAddr 0, .retAddr 0, .retAddr 0, .retAddr 0, .retAddr 0, .retAddr 0] [] (zSH, G) = some (some (.int o), (zSH, G)) ∧
      zden 29 0 [.ref 2, .int (nI g), .int o, .retAddr 0, .retAddr 0, .retAddr 0, .retAddr 0] [] (zSH, G) = some (some (.int (nI (F g))), (zSH, G)) := by
  obtain ⟨d, o, o', d1, q1, q2, q3, q4, _⟩ := duty_own w hr i4 gl hg hq
  obtain ⟨f1, _, _, o2, p1, p2⟩ := hm g hg
  have e := zint_inj (q2.symm.trans p1)
  subst e
  have e2 := zint_inj (q4.symm.trans p2)
  rw [e2] at q3
  exact ⟨o, q1, q3⟩
theorem sc_sums {D : Nat} {H : Nat → Nat → Int32} {gn : Nat} {F W : Nat → Nat} {pl : Int32} (gl : gn ≤ 12) (v2 : H 91 2 = nI gn) (hm : rkM2 H gn F W) : ∀ (d i : Nat) (G : Nat → Nat → Int32), i + d = gn → zWT G → HRat D G 2 (H 91) → zRk G → (∀ j, j < i → G 83 (2 * j) = nI (F j) ∧ G 83 (2 * j + 1) = nI (W j)) →
    ∃ G' : Nat → Nat → Int32, zden 47 8 [.ref 81, .ref 2, .int pl, .int (nI gn), .int (nI i)] [] (zSH, G) = zden 47 65 [.ref 81, .ref 2, .int pl, .int (nI gn), .int 0] [] (zSH, G') ∧ (∀ r, r ≠ 83 → G' r = G r) ∧ ∀ j, j < gn → G' 83 (2 * j) = nI (F j) ∧ G' 83 (2 * j + 1) = nI (W j) := by
  intro d
  induction d with
  | zero =>
    intro i G h w hr hk hj
    have h : i = gn := by omega
    subst h
    exact ⟨G, by rw [B_Ra_goodAt_8, if_pos (Int32.le_refl _)], fun _ _ => rfl, hj⟩
  | succ d ih =>
    intro i G h w hr hk hj
    obtain ⟨gn', gl', i4, v2', hg⟩ := hr.goods
    have e : gn' = gn := by
      have := v2'.symm.trans v2
      exact (nI_eq (by omega) (by omega)).mp this
    subst e
    have hq : HRg (G 6) (H 91) i := hg i (by omega)
    obtain ⟨o, q1, q2⟩ := duty_F w hr i4 gl (show i < gn' by omega) hq hm
    obtain ⟨_, _, w3, _⟩ := hm i (by omega)
    have hk2 : zRk (zup G 83 (2 * i + 0) (nI (F i))) := by unfold zRk; rw [zup_ro (by decide)]; exact hk
    have w2 : zWT (zup G 83 (2 * i + 0) (nI (F i))) := w.zup (by decide) (by decide) (by decide)
    have t2 : tget (zup G 83 (2 * i + 0) (nI (F i))) 5 6 276 (nI i) 2 = nI (W i) := by
      rw [gd_get (j := 2) w2 rfl (by decide) (by omega) (by decide), zup_ro (by decide)]
      exact hq.2.2.1.trans w3
    obtain ⟨G', g1, g2, g3⟩ := ih (i + 1) (zup (zup G 83 (2 * i + 0) (nI (F i))) 83 (2 * i + 1) (nI (W i))) (by omega) (w2.zup (by decide) (by decide) (by decide))
      (HRat_same hr (by rw [zup_ro (by decide), zup_ro (by decide)]) (by rw [zup_ro (by decide), zup_ro (by decide)]) (by rw [zup_ro (by decide), zup_ro (by decide)]) (by rw [zup_ro (by decide), zup_ro (by decide)]) (fun _ _ => rfl))
      (by unfold zRk; rw [zup_ro (by decide), zup_ro (by decide)]; exact hk)
      (fun j j1 => by
        by_cases ej : j = i
        · subst ej
          exact ⟨by rw [zup_rk (by omega), Nat.add_zero, zup_rr], zup_rr⟩
        · rw [zup_rk (by omega), zup_rk (by omega), zup_rk (by omega), zup_rk (by omega)]
          exact hj j (by omega))
    refine ⟨G', ?_, fun r hr' => by rw [g2 r hr', zup_ro hr', zup_ro hr'], g3⟩
    rw [B_Ra_goodAt_8, if_neg (nI_ge (by omega) (by omega)), q1, zaft_same]
    refine Eq.trans B_Ra_goodAt_30 ?_
    rw [q2, zaft_same]
    refine Eq.trans B_Ra_goodAt_33 ?_
    rw [rk_set (j := 0) hk (by decide) (by omega) (by decide), t2, rk_set (j := 1) hk2 (by decide) (by omega) (by decide), nI_1]
    exact g1
def ahP (F W : Nat → Nat) (o g : Nat) : Prop := F g < F o ∨ (F o = F g ∧ (W o < W g ∨ (W o = W g ∧ o < g)))
noncomputable def ahN (F W : Nat → Nat) (o g : Nat) : Nat := @ite _ (ahP F W o g) (Classical.propDecidable _) 1 0
theorem ahN_pos {F W : Nat → Nat} {o g : Nat} (h : ahP F W o g) : ahN F W o g = 1 := @if_pos _ (Classical.propDecidable _) h _ _ _
theorem ahN_neg {F W : Nat → Nat} {o g : Nat} (h : ¬ ahP F W o g) : ahN F W o g = 0 := @if_neg _ (Classical.propDecidable _) h _ _ _
noncomputable def cntA (F W : Nat → Nat) (g : Nat) : Nat → Nat → Nat
  | 0, _ => 0
  | d + 1, i => ahN F W i g + cntA F W g d (i + 1)
theorem sc_ra {G : Nat → Nat → Int32} {gn o g : Nat} {F W : Nat → Nat} (hk : zRk G) (gl : gn ≤ 12) (ho : o < gn) (hg : g < gn) (hb : ∀ j, j < gn → F j ≤ 1980 ∧ W j ≤ 999) (hG : ∀ j, j < gn → G 83 (2 * j) = nI (F j) ∧ G 83 (2 * j + 1) = nI (W j)) :
    zden 49 0 [.ref 81, .int (nI o), .int (nI g), .retAddr 0, .retAddr 0, .retAddr 0, .retAddr 0] [] (zSH, G) = some (some (.int (nI (ahN F W o g))), (zSH, G)) := by
  have bo := hb o ho
  have bg := hb g hg
  have t1 : tget G 82 83 24 (nI o) 0 = nI (F o) := (rk_get (j := 0) hk (by decide) (by omega) (by decide)).trans (hG o ho).1
  have t2 : tget G 82 83 24 (nI g) 0 = nI (F g) := (rk_get (j := 0) hk (by decide) (by omega) (by decide)).trans (hG g hg).1
  have t3 : tget G 82 83 24 (nI o) 1 = nI (W o) := (rk_get (j := 1) hk (by decide) (by omega) (by decide)).trans (hG o ho).2
  have t4 : tget G 82 83 24 (nI g) 1 = nI (W g) := (rk_get (j := 1) hk (by decide) (by omega) (by decide)).trans (hG g hg).2
  rw [B_Ra_isAhead_0, t1, t2, t3, t4]
  by_cases a : F o = F g
  · rw [if_pos (by rw [a])]
    by_cases b : W o = W g
    · rw [if_pos (by rw [b])]
      by_cases c : g ≤ o
      · rw [if_pos (nI_le c (by omega)), ahN_neg (by unfold ahP; omega)]; rfl
      · rw [if_neg (nI_ge (by omega) (by omega)), ahN_pos (by unfold ahP; omega)]; rfl
    · rw [if_neg (by rw [nI_eq (by omega) (by omega)]; exact b)]
      by_cases c : W g ≤ W o
      · rw [if_pos (nI_le c (by omega)), ahN_neg (by unfold ahP; omega)]; rfl
      · rw [if_neg (nI_ge (by omega) (by omega)), ahN_pos (by unfold ahP; omega)]; rfl
  · rw [if_neg (by rw [nI_eq (by omega) (by omega)]; exact a)]
    by_cases c : F o ≤ F g
    · rw [if_pos (nI_le c (by omega)), ahN_neg (by unfold ahP; omega)]; rfl
    · rw [if_neg (nI_ge (by omega) (by omega)), ahN_pos (by unfold ahP; omega)]; rfl
theorem sc_ra_cnt {G : Nat → Nat → Int32} {gn g : Nat} {F W : Nat → Nat} (hk : zRk G) (gl : gn ≤ 12) (hg : g < gn) (hb : ∀ j, j < gn → F j ≤ 1980 ∧ W j ≤ 999) (hG : ∀ j, j < gn → G 83 (2 * j) = nI (F j) ∧ G 83 (2 * j + 1) = nI (W j)) : ∀ (d i c : Nat), i + d = gn →
    zden 48 5 [.ref 81, .int (nI g), .int (nI gn), .int (nI c), .int (nI i)] [] (zSH, G) = some (some (.int (nI (c + cntA F W g d i))), (zSH, G)) := by
  intro d
  induction d with
  | zero =>
    intro i c h
    have h : i = gn := by omega
    subst h
    rw [B_Ra_countAheadOf_5, if_pos (Int32.le_refl _)]; rfl
  | succ d ih =>
    intro i c h
    rw [B_Ra_countAheadOf_5, if_neg (nI_ge (by omega) (by omega)), sc_ra hk gl (show i < gn by omega) hg hb hG, zaft_same]
    refine Eq.trans B_Ra_countAheadOf_18 ?_
    have e : cntA F W g (d + 1) i = ahN F W i g + cntA F W g d (i + 1) := rfl
    rw [e]
    by_cases a : ahP F W i g
    · rw [ahN_pos a, if_neg (by decide), B_Ra_countAheadOf_24, nI_1, nI_1, ih (i + 1) (c + 1) (by omega), Nat.add_assoc]
    · rw [ahN_neg a, if_pos (by decide), B_Ra_countAheadOf_24, nI_1, ih (i + 1) c (by omega), Nat.zero_add]
theorem sm_ra {H : Nat → Nat → Int32} {gn o g : Nat} {F W : Nat → Nat} (gl : gn ≤ 12) (ho : o < gn) (hg : g < gn) (hm : rkM2 H gn F W) :
    zden 153 0 [.ref 90, .int (nI o), .int (nI g), .retAddr 0] [] (zSH, H) = some (some (.int (nI (ahN F W o g))), (zSH, H)) := by
  obtain ⟨b1, b2, b3, o1, p1, p2⟩ := hm o ho
  obtain ⟨c1, c2, c3, o2, q1, q2⟩ := hm g hg
  have zo : zin (63 + 22 * nI o + 2) 327 = true := mzin (K := 2) (by decide) (by omega) (by decide)
  have zg : zin (63 + 22 * nI g + 2) 327 = true := mzin (K := 2) (by decide) (by omega) (by decide)
  rw [B_M_isAhead_0, p1, zaft_same]
  refine Eq.trans B_M_isAhead_7 ?_
  rw [p2, zaft_same]
  refine Eq.trans B_M_isAhead_10 ?_
  rw [q1, zaft_same]
  refine Eq.trans B_M_isAhead_17 ?_
  rw [q2, zaft_same]
  refine Eq.trans (B_M_isAhead_20 (fun _ => zg) (fun _ => zo)) ?_
  rw [mcl2 (N := 65 + 22 * g) (K := 2) (by decide) (by omega) (by decide) (by omega), mcl2 (N := 65 + 22 * o) (K := 2) (by decide) (by omega) (by decide) (by omega), b3, c3]
  by_cases a : F o = F g
  · rw [if_pos ((sub_zero (by omega) (by omega)).mpr a), B_M_isAhead_51]
    by_cases b : W o < W g
    · rw [if_pos ((sub_pos (by omega) (by omega)).mpr b), B_M_isAhead_65, ahN_pos (by unfold ahP; omega)]; rfl
    · rw [if_neg (fun z => b ((sub_pos (by omega) (by omega)).mp z))]
      by_cases c : W o = W g
      · rw [if_neg (fun z => z ((sub_zero (by omega) (by omega)).mpr c.symm))]
        by_cases e : g ≤ o
        · rw [if_pos (nI_le e (by omega)), ahN_neg (by unfold ahP; omega)]; rfl
        · rw [if_neg (nI_ge (by omega) (by omega)), B_M_isAhead_65, ahN_pos (by unfold ahP; omega)]; rfl
      · rw [if_pos (fun z => c ((sub_zero (by omega) (by omega)).mp z).symm), ahN_neg (by unfold ahP; omega)]; rfl
  · have n0 : ¬ nI (F o) - nI (F g) = 0 := fun z => a ((sub_zero (by omega) (by omega)).mp z)
    rw [if_neg n0, B_M_isAhead_51]
    by_cases b : F g < F o
    · rw [if_pos ((sub_pos (by omega) (by omega)).mpr b), B_M_isAhead_65, ahN_pos (by unfold ahP; omega)]; rfl
    · rw [if_neg (fun z => b ((sub_pos (by omega) (by omega)).mp z)), if_pos n0, ahN_neg (by unfold ahP; omega)]; rfl
theorem sm_ra_cnt {H : Nat → Nat → Int32} {gn g : Nat} {F W : Nat → Nat} {pl : Int32} (gl : gn ≤ 12) (v2 : H 91 2 = nI gn) (hg : g < gn) (hm : rkM2 H gn F W) : ∀ (d i c : Nat), i + d = gn →
    zden 152 17 [.ref 90, .int pl, .int (nI g), .int (nI c), .int (nI i)] [] (zSH, H) = if ¬ nI (c + cntA F W g d i) = pl then zden 152 2 [.ref 90, .int pl, .int (nI (g + 1)), .int (nI (c + cntA F W g d i)), .int (nI gn)] [] (zSH, H) else some (some (.int (nI g)), (zSH, H)) := by
  intro d
  induction d with
  | zero =>
    intro i c h
    have h : i = gn := by omega
    subst h
    rw [B_M_ranked_17, if_pos (by rw [v2]; exact Int32.le_refl _), nI_1]
    rfl
  | succ d ih =>
    intro i c h
    have e : cntA F W g (d + 1) i = ahN F W i g + cntA F W g d (i + 1) := rfl
    rw [B_M_ranked_17, if_neg (by rw [v2]; exact nI_ge (by omega) (by omega)), e]
    by_cases s : i = g
    · subst s
      rw [if_pos rfl, B_M_ranked_49, B_M_ranked_50, Int32.add_zero, nI_1, ahN_neg (by unfold ahP; omega), Nat.zero_add]
      exact ih (i + 1) c (by omega)
    · rw [if_neg (by rw [nI_eq (by omega) (by omega)]; exact s), sm_ra gl (show i < gn by omega) hg hm, zaft_same]
      refine Eq.trans B_M_ranked_42 ?_
      by_cases a : ahP F W i g
      · rw [ahN_pos a, if_neg (by decide), B_M_ranked_50, nI_1, nI_1, ← Nat.add_assoc]
        exact ih (i + 1) (c + 1) (by omega)
      · rw [ahN_neg a, if_pos (by decide), B_M_ranked_49, B_M_ranked_50, Int32.add_zero, nI_1, Nat.zero_add]
        exact ih (i + 1) c (by omega)
theorem cntA_bd {F W : Nat → Nat} {g : Nat} : ∀ (d i : Nat), cntA F W g d i + (if i ≤ g ∧ g < i + d then 1 else 0) ≤ d := by
  intro d
  induction d with
  | zero => intro i; rw [if_neg (by omega)]; exact Nat.le_refl _
  | succ d ih =>
    intro i
    have := ih (i + 1)
    have e : cntA F W g (d + 1) i = ahN F W i g + cntA F W g d (i + 1) := rfl
    rw [e]
    by_cases s : i = g
    · subst s
      rw [ahN_neg (by unfold ahP; omega), if_pos (by omega)]
      rw [if_neg (by omega)] at this
      omega
    · have e2 : (if i ≤ g ∧ g < i + (d + 1) then 1 else 0) = (if i + 1 ≤ g ∧ g < i + 1 + d then 1 else 0) := by
        by_cases q : i ≤ g ∧ g < i + (d + 1)
        · rw [if_pos q, if_pos (by omega)]
        · rw [if_neg q, if_neg (by omega)]
      rw [e2]
      by_cases a : ahP F W i g
      · rw [ahN_pos a]; omega
      · rw [ahN_neg a]; omega
/-- the first good with so many ahead of it -/
noncomputable def fstA (F W : Nat → Nat) (gn : Nat) (pl : Int32) : Nat → Nat → Int32
  | 0, _ => -11
  | d + 1, i => if nI (cntA F W i gn 0) = pl then nI i else fstA F W gn pl d (i + 1)
theorem sc_fst {G : Nat → Nat → Int32} {gn : Nat} {F W : Nat → Nat} {pl : Int32} (hk : zRk G) (gl : gn ≤ 12) (hb : ∀ j, j < gn → F j ≤ 1980 ∧ W j ≤ 999) (hG : ∀ j, j < gn → G 83 (2 * j) = nI (F j) ∧ G 83 (2 * j + 1) = nI (W j)) : ∀ (d i : Nat), i + d = gn →
    zden 47 65 [.ref 81, .ref 2, .int pl, .int (nI gn), .int (nI i)] [] (zSH, G) = some (some (.int (fstA F W gn pl d i)), (zSH, G)) := by
  intro d
  induction d with
  | zero =>
    intro i h
    have h : i = gn := by omega
    subst h
    rw [B_Ra_goodAt_65, if_pos (Int32.le_refl _)]; rfl
  | succ d ih =>
    intro i h
    have hc := sc_ra_cnt hk gl (show i < gn by omega) hb hG gn 0 0 (by omega)
    rw [Nat.zero_add] at hc
    rw [B_Ra_goodAt_65, if_neg (nI_ge (by omega) (by omega)), B_Ra_countAheadOf_0]
    rw [show zden 48 5 [.ref 81, .int (nI i), .int (nI gn), .int 0, .int 0] [] (zSH, G) = _ from hc, zaft_same]
    refine Eq.trans B_Ra_goodAt_78 ?_
    unfold fstA
    by_cases a : nI (cntA F W i gn 0) = pl
    · rw [if_neg (fun z => z a), if_pos a]
    · rw [if_pos a, if_neg a, nI_1]
      exact ih (i + 1) (by omega)
theorem sm_fst {H : Nat → Nat → Int32} {gn : Nat} {F W : Nat → Nat} {pl : Int32} (gl : gn ≤ 12) (v2 : H 91 2 = nI gn) (hm : rkM2 H gn F W) : ∀ (d i : Nat) (v3 v4 : Value), i + d = gn →
    zden 152 2 [.ref 90, .int pl, .int (nI i), v3, v4] [] (zSH, H) = some (some (.int (fstA F W gn pl d i)), (zSH, H)) := by
  intro d
  induction d with
  | zero =>
    intro i v3 v4 h
    have h : i = gn := by omega
    subst h
    rw [B_M_ranked_2, if_pos (by rw [v2]; exact Int32.le_refl _)]; rfl
  | succ d ih =>
    intro i v3 v4 h
    have hc := sm_ra_cnt (pl := pl) gl v2 (show i < gn by omega) hm gn 0 0 (by omega)
    rw [Nat.zero_add] at hc
    rw [B_M_ranked_2, if_neg (by rw [v2]; exact nI_ge (by omega) (by omega))]
    rw [show zden 152 17 [.ref 90, .int pl, .int (nI i), .int 0, .int 0] [] (zSH, H) = _ from hc]
    unfold fstA
    by_cases a : nI (cntA F W i gn 0) = pl
    · rw [if_neg (fun z => z a), if_pos a]
    · rw [if_pos a, if_neg a]
      exact ih (i + 1) _ _ (by omega)
theorem fstA_out {F W : Nat → Nat} {gn : Nat} {pl : Int32} (gl : gn ≤ 12) (hp : ∀ g, g < gn → nI g ≠ pl) : ∀ (d i : Nat), i + d = gn → fstA F W gn pl d i = -11 := by
  intro d
  induction d with
  | zero => intro i _; rfl
  | succ d ih =>
    intro i h
    unfold fstA
    have := cntA_bd (F := F) (W := W) (g := i) gn 0
    rw [if_pos (by omega)] at this
    rw [if_neg (hp _ (by omega))]
    exact ih (i + 1) (by omega)
theorem call_ranked {D : Nat} {x : Int32} {G H : Nat → Nat → Int32} (w : zWT G) (hr : HRat D G 2 (H 91)) (hk : zRk G) :
    ∃ (r : Int32) (G' : Nat → Nat → Int32), zden 91 0 [.ref 0, .int x] [] (zSH, G) = some (some (.int r), (zSH, G')) ∧ zden 152 0 [.ref 90, .int x, .retAddr 0, .retAddr 0, .retAddr 0] [] (zSH, H) = some (some (.int r), (zSH, H)) ∧ ∀ i, i ≠ 83 → G' i = G i := by
  obtain ⟨gn, gl, i4, v2, hg⟩ := hr.goods
  have ex : ∀ g, ∃ p : Nat × Nat, g < gn → p.1 ≤ 1980 ∧ p.2 ≤ 999 ∧ H 91 (65 + 22 * g) = nI p.2 ∧
      ∃ o' : Int32, zden 133 0 [.ref 90, .int (nI g), .retAddr 0, .retAddr 0, .retAddr 0] [] (zSH, H) = some (some (.int o'), (zSH, H)) ∧ zden 134 0 [.ref 90, .int (nI g), .int o', .retAddr 0, .retAddr 0, .retAddr 0, .retAddr 0] [] (zSH, H) = some (some (.int (nI p.1)), (zSH, H)) := fun g => by
    by_cases hc : g < gn
    · have hq := hg g hc
      obtain ⟨d, o, o', d1, _, q2, _, q4, _⟩ := duty_own w hr i4 gl hc hq
      obtain ⟨_, _, a3, _, _, _, _, _, _, _, _, _, _, ⟨wo, wo1, wo2, wo3⟩, _⟩ := hq
      exact ⟨(d, wo), fun _ => ⟨d1, wo2, a3.symm.trans wo3, o', q2, q4⟩⟩
    · exact ⟨(0, 0), fun q => absurd q hc⟩
  obtain ⟨P, hP⟩ := Classical.axiomOfChoice ex
  have hm : rkM2 H gn (fun g => (P g).1) (fun g => (P g).2) := hP
  have hb : ∀ j, j < gn → (P j).1 ≤ 1980 ∧ (P j).2 ≤ 999 := fun j hj => ⟨(hm j hj).1, (hm j hj).2.1⟩
  have hM := sm_fst (pl := x) gl v2 hm gn 0 (.retAddr 0) (.retAddr 0) (by omega)
  by_cases hx : ∃ g : Nat, g < gn ∧ x = nI g
  · have n1 : ¬ bI (0 ≤ x ∧ x ≤ G 2 4 - 1) = 0 := bIn.mpr (by rw [i4]; exact (good_iff2 gl).mpr hx)
    obtain ⟨G', g1, g2, g3⟩ := sc_sums (D := D) (pl := x) gl v2 hm gn 0 G (by omega) w hr hk (fun j hj => by omega)
    refine ⟨_, G', ?_, by rw [B_M_ranked_0]; exact hM, g2⟩
    rw [B_T_ranked_0, if_neg n1, B_Ra_goodAt_0, i4]
    rw [show zden 47 8 [.ref 81, .ref 2, .int x, .int (nI gn), .int 0] [] (zSH, G) = _ from g1]
    rw [show zden 47 65 [.ref 81, .ref 2, .int x, .int (nI gn), .int 0] [] (zSH, G') = _ from sc_fst (by unfold zRk; rw [g2 82 (by decide)]; exact hk) gl hb g3 gn 0 (by omega), zaft_same]
    exact B_T_ranked_29
  · have n1 : ¬ (0 ≤ x ∧ x ≤ G 2 4 - 1) := by rw [i4, good_iff2 gl]; exact hx
    rw [fstA_out gl (fun g hg q => hx ⟨g, hg, q.symm⟩) gn 0 (by omega)] at hM
    refine ⟨-11, G, ?_, by rw [B_M_ranked_0]; exact hM, fun _ _ => rfl⟩
    rw [B_T_ranked_0, if_pos (bIz.mpr n1)]
