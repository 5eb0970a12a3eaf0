-- 40: why, cheapest, isBalanced, ranked, meanDuty, backShare (with wip/p36/gen40.py)
theorem rd_why {D n gn g : Nat} {G : Nat → Nat → Int32} (w : zWT G) (h : HIat D n gn G) (g1 : g < gn) :
    ∃ r0 r1 : Int32, atI (fitB (G 4) (G 6) g) (rkC (G 4)) n 0 r0 ∧ atI (fitB (G 4) (G 6) g) (rkC (G 4)) n 1 r1 ∧ zden 83 0 [.ref 0, .int (nI g)] [] (zSH, G) = some (some (.int (if 0 ≤ r1 then leadV (G 4) r0.toNatClampNeg r1.toNatClampNeg else 0)), (zSH, G)) := by
  have gl := h.gl
  have hn := h.ho.1
  have hg : g < 12 := by omega
  obtain ⟨r0, q0, a0⟩ := sc_fittingRowAt (p := 0) w h.ho h.ho.2.2.2 h.i3 hg (by omega)
  obtain ⟨r1, q1, a1⟩ := sc_fittingRowAt (p := 1) w h.ho h.ho.2.2.2 h.i3 hg (by omega)
  refine ⟨r0, r1, a0, a1, ?_⟩
  rw [B_T_why_0, if_neg (good_in h g1), B_Ho_lead_0, show (0 : Int32) = nI 0 from rfl, q0, zaft_same]
  rw [show zden 33 6 [.ref 2, .int (nI g), .retAddr 0, .retAddr 0, .retAddr 0, .retAddr 0] ((some (Value.int r0)).toList ++ []) (zSH, G) = _ from B_Ho_lead_6, show (1 : Int32) = nI 1 from rfl, q1, zaft_same]
  have a0' := a0
  rcases a0' with ⟨_, z⟩ | ⟨k0, k01, k02, _⟩
  · exact absurd (z n (Nat.le_refl _) (fit_last h.ho)) (by omega)
  rcases a1 with ⟨z, _⟩ | ⟨k1, k11, k12, _⟩
  · rw [z, if_neg (by decide), show zden 33 13 [.ref 2, .int (nI g), .int r0, .retAddr 0, .retAddr 0, .retAddr 0] ((some (Value.int (-1))).toList ++ []) (zSH, G) = _ from B_Ho_lead_13, if_neg (by decide), zaft_same]
    exact B_T_why_19
  · rw [k12, k02, if_pos (show nI 0 ≤ nI k1 from nI_le (by omega) (by omega)), show zden 33 13 [.ref 2, .int (nI g), .int (nI k0), .retAddr 0, .retAddr 0, .retAddr 0] ((some (Value.int (nI k1))).toList ++ []) (zSH, G) = _ from sc_lead2 w (by omega) (by omega), zaft_same, nI_clamp (by omega), nI_clamp (by omega)]
    exact B_T_why_19
/-- the cheapest: the first of the least -/
def chpF (F : Nat → Int32) : Nat → Nat → Nat → Nat
  | 0, _, b => b
  | d + 1, i, b => chpF F d (i + 1) (if F b ≤ F i then b else i)
theorem cheap_loop {G : Nat → Nat → Int32} {g : Nat} {F : Nat → Int32} (hF : ∀ c, c < 5 → zden 29 0 [.ref 2, .int (nI g), .int (nI c), .retAddr 0, .retAddr 0, .retAddr 0, .retAddr 0] [] (zSH, G) = some (some (.int (F c)), (zSH, G))) : ∀ (d i b : Nat) (v5 : Value), i + d = 5 → b < 5 →
    zden 90 29 [.ref 0, .int (nI g), .int (nI b), .int (F b), .int (nI i), v5] [] (zSH, G) = some (some (.int (nI (chpF F d i b))), (zSH, G)) := by
  intro d
  induction d with
  | zero =>
    intro i b v5 h hb
    have h : i = 5 := by omega
    subst h
    rw [B_T_cheapest_29, if_pos (by decide)]
    rfl
  | succ d ih =>
    intro i b v5 h hb
    have hn : ¬ (5 : Int32) ≤ nI i := by rw [nIlit_5]; exact nI_ge (by omega) (by decide)
    rw [B_T_cheapest_29, if_neg hn, hF i (by omega), zaft_same]
    refine Eq.trans B_T_cheapest_45 ?_
    unfold chpF
    by_cases e : F b ≤ F i
    · rw [if_pos e, if_pos e, B_T_cheapest_59, nI_1]; exact ih (i + 1) b _ (by omega) hb
    · rw [if_neg e, if_neg e, B_T_cheapest_59, nI_1]; exact ih (i + 1) i _ (by omega) (by omega)
theorem rd_cheap {D n gn g : Nat} {G : Nat → Nat → Int32} (w : zWT G) (h : HIat D n gn G) (g1 : g < gn) :
    zden 90 0 [.ref 0, .int (nI g), .retAddr 0, .retAddr 0, .retAddr 0, .retAddr 0] [] (zSH, G) = some (some (.int (nI (chpF (fun c => dutC (G 4) (G 6) (G 8) n g (nI c)) 4 1 0))), (zSH, G)) := by
  have hF : ∀ c, c < 5 → zden 29 0 [.ref 2, .int (nI g), .int (nI c), .retAddr 0, .retAddr 0, .retAddr 0, .retAddr 0] [] (zSH, G) = some (some (.int (dutC (G 4) (G 6) (G 8) n g (nI c))), (zSH, G)) := fun c hc => dut_run w h g1 (.inr ⟨c, hc, rfl⟩)
  rw [B_T_cheapest_0, if_pos (good_in h g1)]
  rw [show zden 29 0 [.ref 2, .int (nI g), .int 0, .retAddr 0, .retAddr 0, .retAddr 0, .retAddr 0] [] (zSH, G) = _ from hF 0 (by decide), zaft_same]
  refine Eq.trans B_T_cheapest_25 ?_
  exact cheap_loop (F := fun c => dutC (G 4) (G 6) (G 8) n g (nI c)) hF 4 1 0 (.retAddr 0) rfl (by decide)
theorem sc_coins {G : Nat → Nat → Int32} {gn : Nat} (w : zWT G) (i4 : G 2 4 = nI gn) (gl : gn ≤ 12) : ∀ (d i : Nat) (c e : Int32), i + d = gn →
    zden 36 6 [.ref 2, .int c, .int e, .int (nI i)] [] (zSH, G) = if ¬ (G 2 6) = (((G 2 7) + (G 2 9)) - (G 2 8)) then some (some (.int 0), (zSH, G)) else if ¬ (G 2 8) = sumI (fun g => G 6 (23 * g + 5)) d i c then some (some (.int 0), (zSH, G)) else if ¬ (G 2 9) = sumI (fun g => G 6 (23 * g + 6)) d i e then some (some (.int 0), (zSH, G)) else some (some (.int 1), (zSH, G)) := by
  intro d
  induction d with
  | zero =>
    intro i c e h
    have h : i = gn := by omega
    subst h
    rw [B_Ho_areCoinsRight_6, if_pos (by rw [i4]; exact Int32.le_refl _)]
    rfl
  | succ d ih =>
    intro i c e h
    have t5 : tget G 5 6 276 (nI i) 5 = G 6 (23 * i + 5) := gd_get (j := 5) w rfl (by decide) (by omega) (by decide)
    have t6 : tget G 5 6 276 (nI i) 6 = G 6 (23 * i + 6) := gd_get (j := 6) w rfl (by decide) (by omega) (by decide)
    rw [B_Ho_areCoinsRight_6, if_neg (by rw [i4]; exact nI_ge (by omega) (by omega)), t5, t6, nI_1]
    exact ih (i + 1) _ _ (by omega)
theorem sc_heads {D n gn : Nat} {G : Nat → Nat → Int32} (w : zWT G) (h : HIat D n gn G) : ∀ (d i : Nat), i + d = gn →
    zden 37 2 [.ref 2, .int (nI i)] [] (zSH, G) = some (some (.int 1), (zSH, G)) := by
  have i4 : G 2 4 = nI gn := h.i4
  have gl := h.gl
  intro d
  induction d with
  | zero =>
    intro i e
    have e : i = gn := by omega
    subst e
    rw [B_Ho_areHeadingsRight_2, if_pos (by rw [i4]; exact Int32.le_refl _)]
  | succ d ih =>
    intro i e
    rw [B_Ho_areHeadingsRight_2, if_neg (by rw [i4]; exact nI_ge (by omega) (by omega)), sc_top w h.ho h.i3 (by omega), zaft_same]
    refine Eq.trans B_Ho_areHeadingsRight_18 ?_
    rw [sc_kept w h.ho h.i3 (by omega), zaft_same]
    refine Eq.trans B_Ho_areHeadingsRight_23 ?_
    rw [if_pos rfl, nI_1]
    exact ih (i + 1) (by omega)
theorem rd_bal {D n gn : Nat} {G : Nat → Nat → Int32} (w : zWT G) (h : HIat D n gn G) : zden 99 0 [.ref 0] [] (zSH, G) = some (some (.int 1), (zSH, G)) := by
  have c1 := sc_coins w h.i4 h.gl gn 0 0 0 (by omega)
  have s8 : G 2 8 = sumI (fun g => G 6 (23 * g + 5)) gn 0 0 := h.s8
  have s9 : G 2 9 = sumI (fun g => G 6 (23 * g + 6)) gn 0 0 := h.s9
  have s6 : G 2 6 = G 2 7 + G 2 9 - G 2 8 := h.s6
  rw [if_neg (fun q => q s6), if_neg (fun q => q s8), if_neg (fun q => q s9)] at c1
  rw [B_T_isBalanced_0, B_Ho_areCoinsRight_0]
  rw [show zden 36 6 [.ref 2, .int 0, .int 0, .int 0] [] (zSH, G) = _ from c1, zaft_same]
  refine B_T_isBalanced_7.trans ((if_neg (by decide)).trans ?_)
  rw [B_Ho_areHeadingsRight_0, show zden 37 2 [.ref 2, .int 0] [] (zSH, G) = _ from sc_heads w h gn 0 (by omega), zaft_same]
  exact B_T_isBalanced_17.trans (if_neg (by decide))

theorem rk_get {G : Nat → Nat → Int32} (w : zRk G) {y : Int32} {i j : Nat} (hy : y = nI j) (hi : i < 12) (hj : j < 2) : tget G 82 83 24 (nI i) y = G 83 (2 * i + j) := by
  rw [hy, tget_in w.1 w.2 hi hj (by decide) (by decide), Nat.mul_comm]
theorem rk_set {G : Nat → Nat → Int32} (w : zRk G) {y z : Int32} {i j : Nat} (hy : y = nI j) (hi : i < 12) (hj : j < 2) : tset G 82 83 24 (nI i) y z = zup G 83 (2 * i + j) z := by
  rw [hy, tset_in w.1 w.2 hi hj (by decide) (by decide), Nat.mul_comm]
def ahP (F W : Nat → Nat) (o g : Nat) : Prop := F g < F o ∨ (F o = F g ∧ (W o < W g ∨ (W o = W g ∧ o < g)))
noncomputable def ahN (F W : Nat → Nat) (o g : Nat) : Nat := @ite _ (ahP F W o g) (Classical.propDecidable _) 1 0
theorem ahN_pos {F W : Nat → Nat} {o g : Nat} (h : ahP F W o g) : ahN F W o g = 1 := @if_pos _ (Classical.propDecidable _) h _ _ _
theorem ahN_neg {F W : Nat → Nat} {o g : Nat} (h : ¬ ahP F W o g) : ahN F W o g = 0 := @if_neg _ (Classical.propDecidable _) h _ _ _
noncomputable def cntA (F W : Nat → Nat) (g : Nat) : Nat → Nat → Nat
  | 0, _ => 0
  | d + 1, i => ahN F W i g + cntA F W g d (i + 1)
theorem sc_ra {G : Nat → Nat → Int32} {gn o g : Nat} {F W : Nat → Nat} (hk : zRk G) (gl : gn ≤ 12) (ho : o < gn) (hg : g < gn) (hb : ∀ j, j < gn → F j ≤ 1980 ∧ W j ≤ 999) (hG : ∀ j, j < gn → G 83 (2 * j) = nI (F j) ∧ G 83 (2 * j + 1) = nI (W j)) :
    zden 49 0 [.ref 81, .int (nI o), .int (nI g), .retAddr 0, .retAddr 0, .retAddr 0, .retAddr 0] [] (zSH, G) = some (some (.int (nI (ahN F W o g))), (zSH, G)) := by
  have bo := hb o ho
  have bg := hb g hg
  have t1 : tget G 82 83 24 (nI o) 0 = nI (F o) := (rk_get (j := 0) hk (by decide) (by omega) (by decide)).trans (hG o ho).1
  have t2 : tget G 82 83 24 (nI g) 0 = nI (F g) := (rk_get (j := 0) hk (by decide) (by omega) (by decide)).trans (hG g hg).1
  have t3 : tget G 82 83 24 (nI o) 1 = nI (W o) := (rk_get (j := 1) hk (by decide) (by omega) (by decide)).trans (hG o ho).2
  have t4 : tget G 82 83 24 (nI g) 1 = nI (W g) := (rk_get (j := 1) hk (by decide) (by omega) (by decide)).trans (hG g hg).2
  rw [B_Ra_isAhead_0, t1, t2, t3, t4]
  by_cases a : F o = F g
  · rw [if_pos (by rw [a])]
    by_cases b : W o = W g
    · rw [if_pos (by rw [b])]
      by_cases c : g ≤ o
      · rw [if_pos (nI_le c (by omega)), ahN_neg (by unfold ahP; omega)]; rfl
      · rw [if_neg (nI_ge (by omega) (by omega)), ahN_pos (by unfold ahP; omega)]; rfl
    · rw [if_neg (by rw [nI_eq (by omega) (by omega)]; exact b)]
      by_cases c : W g ≤ W o
      · rw [if_pos (nI_le c (by omega)), ahN_neg (by unfold ahP; omega)]; rfl
      · rw [if_neg (nI_ge (by omega) (by omega)), ahN_pos (by unfold ahP; omega)]; rfl
  · rw [if_neg (by rw [nI_eq (by omega) (by omega)]; exact a)]
    by_cases c : F o ≤ F g
    · rw [if_pos (nI_le c (by omega)), ahN_neg (by unfold ahP; omega)]; rfl
    · rw [if_neg (nI_ge (by omega) (by omega)), ahN_pos (by unfold ahP; omega)]; rfl
theorem sc_ra_cnt {G : Nat → Nat → Int32} {gn g : Nat} {F W : Nat → Nat} (hk : zRk G) (gl : gn ≤ 12) (hg : g < gn) (hb : ∀ j, j < gn → F j ≤ 1980 ∧ W j ≤ 999) (hG : ∀ j, j < gn → G 83 (2 * j) = nI (F j) ∧ G 83 (2 * j + 1) = nI (W j)) : ∀ (d i c : Nat), i + d = gn →
    zden 48 5 [.ref 81, .int (nI g), .int (nI gn), .int (nI c), .int (nI i)] [] (zSH, G) = some (some (.int (nI (c + cntA F W g d i))), (zSH, G)) := by
  intro d
  induction d with
  | zero =>
    intro i c h
    have h : i = gn := by omega
    subst h
    rw [B_Ra_countAheadOf_5, if_pos (Int32.le_refl _)]; rfl
  | succ d ih =>
    intro i c h
    rw [B_Ra_countAheadOf_5, if_neg (nI_ge (by omega) (by omega)), sc_ra hk gl (show i < gn by omega) hg hb hG, zaft_same]
    refine Eq.trans B_Ra_countAheadOf_18 ?_
    have e : cntA F W g (d + 1) i = ahN F W i g + cntA F W g d (i + 1) := rfl
    rw [e]
    by_cases a : ahP F W i g
    · rw [ahN_pos a, if_neg (by decide), B_Ra_countAheadOf_24, nI_1, nI_1, ih (i + 1) (c + 1) (by omega), Nat.add_assoc]
    · rw [ahN_neg a, if_pos (by decide), B_Ra_countAheadOf_24, nI_1, ih (i + 1) c (by omega), Nat.zero_add]
theorem cntA_bd {F W : Nat → Nat} {g : Nat} : ∀ (d i : Nat), cntA F W g d i + (if i ≤ g ∧ g < i + d then 1 else 0) ≤ d := by
  intro d
  induction d with
  | zero => intro i; rw [if_neg (by omega)]; exact Nat.le_refl _
  | succ d ih =>
    intro i
    have := ih (i + 1)
    have e : cntA F W g (d + 1) i = ahN F W i g + cntA F W g d (i + 1) := rfl
    rw [e]
    by_cases s : i = g
    · subst s
      rw [ahN_neg (by unfold ahP; omega), if_pos (by omega)]
      rw [if_neg (by omega)] at this
      omega
    · have e2 : (if i ≤ g ∧ g < i + (d + 1) then 1 else 0) = (if i + 1 ≤ g ∧ g < i + 1 + d then 1 else 0) := by
        by_cases q : i ≤ g ∧ g < i + (d + 1)
        · rw [if_pos q, if_pos (by omega)]
        · rw [if_neg q, if_neg (by omega)]
      rw [e2]
      by_cases a : ahP F W i g
      · rw [ahN_pos a]; omega
      · rw [ahN_neg a]; omega
/-- the first good with so many ahead of it -/
noncomputable def fstA (F W : Nat → Nat) (gn : Nat) (pl : Int32) : Nat → Nat → Int32
  | 0, _ => -11
  | d + 1, i => if nI (cntA F W i gn 0) = pl then nI i else fstA F W gn pl d (i + 1)
theorem sc_fst {G : Nat → Nat → Int32} {gn : Nat} {F W : Nat → Nat} {pl : Int32} (hk : zRk G) (gl : gn ≤ 12) (hb : ∀ j, j < gn → F j ≤ 1980 ∧ W j ≤ 999) (hG : ∀ j, j < gn → G 83 (2 * j) = nI (F j) ∧ G 83 (2 * j + 1) = nI (W j)) : ∀ (d i : Nat), i + d = gn →
    zden 47 65 [.ref 81, .ref 2, .int pl, .int (nI gn), .int (nI i)] [] (zSH, G) = some (some (.int (fstA F W gn pl d i)), (zSH, G)) := by
  intro d
  induction d with
  | zero =>
    intro i h
    have h : i = gn := by omega
    subst h
    rw [B_Ra_goodAt_65, if_pos (Int32.le_refl _)]; rfl
  | succ d ih =>
    intro i h
    have hc := sc_ra_cnt hk gl (show i < gn by omega) hb hG gn 0 0 (by omega)
    rw [Nat.zero_add] at hc
    rw [B_Ra_goodAt_65, if_neg (nI_ge (by omega) (by omega)), B_Ra_countAheadOf_0]
    rw [show zden 48 5 [.ref 81, .int (nI i), .int (nI gn), .int 0, .int 0] [] (zSH, G) = _ from hc, zaft_same]
    refine Eq.trans B_Ra_goodAt_78 ?_
    unfold fstA
    by_cases a : nI (cntA F W i gn 0) = pl
    · rw [if_neg (fun z => z a), if_pos a]
    · rw [if_pos a, if_neg a, nI_1]
      exact ih (i + 1) (by omega)
theorem fstA_out {F W : Nat → Nat} {gn : Nat} {pl : Int32} (gl : gn ≤ 12) (hp : ∀ g, g < gn → nI g ≠ pl) : ∀ (d i : Nat), i + d = gn → fstA F W gn pl d i = -11 := by
  intro d
  induction d with
  | zero => intro i _; rfl
  | succ d ih =>
    intro i h
    unfold fstA
    have := cntA_bd (F := F) (W := W) (g := i) gn 0
    rw [if_pos (by omega)] at this
    rw [if_neg (hp _ (by omega))]
    exact ih (i + 1) (by omega)
theorem cntA_up {F W : Nat → Nat} {g l : Nat} (h : ahP F W g l) : ∀ (d i : Nat), cntA F W g d i + (if i ≤ g ∧ g < i + d then 1 else 0) ≤ cntA F W l d i := by
  intro d
  induction d with
  | zero => intro i; rw [if_neg (by omega)]; exact Nat.le_refl _
  | succ d ih =>
    intro i
    have := ih (i + 1)
    have e : cntA F W g (d + 1) i = ahN F W i g + cntA F W g d (i + 1) := rfl
    have e' : cntA F W l (d + 1) i = ahN F W i l + cntA F W l d (i + 1) := rfl
    rw [e, e']
    by_cases s : i = g
    · subst s
      rw [ahN_neg (F := F) (W := W) (o := i) (g := i) (by unfold ahP; omega), ahN_pos h, if_pos (by omega)]
      rw [if_neg (by omega)] at this
      omega
    · have e2 : (if i ≤ g ∧ g < i + (d + 1) then 1 else 0) = (if i + 1 ≤ g ∧ g < i + 1 + d then 1 else 0) := by
        by_cases q : i ≤ g ∧ g < i + (d + 1)
        · rw [if_pos q, if_pos (by omega)]
        · rw [if_neg q, if_neg (by omega)]
      rw [e2]
      by_cases a : ahP F W i g
      · have a' : ahP F W i l := by unfold ahP at *; omega
        rw [ahN_pos a, ahN_pos a']; omega
      · rw [ahN_neg a]; omega
/-- the duties and the worths of the goods -/
def rkG (G : Nat → Nat → Int32) (n gn : Nat) (F W : Nat → Nat) : Prop := ∀ g, g < gn → F g ≤ 1980 ∧ W g ≤ 999 ∧ G 6 (23 * g + 2) = nI (W g) ∧ gdV (G 4) (G 6) (G 8) n g 7 = nI (F g)
theorem rkG_ex {D n gn : Nat} {G : Nat → Nat → Int32} (w : zWT G) (h : HIat D n gn G) : ∃ F W : Nat → Nat, rkG G n gn F W := by
  have ex : ∀ g, ∃ p : Nat × Nat, g < gn → p.1 ≤ 1980 ∧ p.2 ≤ 999 ∧ G 6 (23 * g + 2) = nI p.2 ∧ gdV (G 4) (G 6) (G 8) n g 7 = nI p.1 := fun g => by
    by_cases hc : g < gn
    · obtain ⟨t, f, t1, _, _, _, e, _⟩ := dutC_ok w h hc (orgF_two (h.good g hc))
      obtain ⟨_, _, ⟨wo, _, wo2, wo3⟩, _⟩ := h.good g hc
      exact ⟨(t - t * f / 100, wo), fun _ => ⟨by show t - t * f / 100 ≤ 1980; omega, wo2, wo3, e⟩⟩
    · exact ⟨(0, 0), fun q => absurd q hc⟩
  obtain ⟨P, hP⟩ := Classical.axiomOfChoice ex
  exact ⟨fun g => (P g).1, fun g => (P g).2, hP⟩
theorem sc_sums {D n gn : Nat} {F W : Nat → Nat} {pl : Int32} : ∀ (d i : Nat) (G : Nat → Nat → Int32), i + d = gn → zWT G → HIat D n gn G → zRk G → rkG G n gn F W → (∀ j, j < i → G 83 (2 * j) = nI (F j) ∧ G 83 (2 * j + 1) = nI (W j)) →
    ∃ G' : Nat → Nat → Int32, zden 47 8 [.ref 81, .ref 2, .int pl, .int (nI gn), .int (nI i)] [] (zSH, G) = zden 47 65 [.ref 81, .ref 2, .int pl, .int (nI gn), .int 0] [] (zSH, G') ∧ (∀ r, r ≠ 83 → G' r = G r) ∧ ∀ j, j < gn → G' 83 (2 * j) = nI (F j) ∧ G' 83 (2 * j + 1) = nI (W j) := by
  intro d
  induction d with
  | zero =>
    intro i G h w hr hk hm hj
    have h : i = gn := by omega
    subst h
    exact ⟨G, by rw [B_Ra_goodAt_8, if_pos (Int32.le_refl _)], fun _ _ => rfl, hj⟩
  | succ d ih =>
    intro i G h w hr hk hm hj
    have gl := hr.gl
    obtain ⟨f1, w1, w3, f3⟩ := hm i (by omega)
    have f3 : dutC (G 4) (G 6) (G 8) n i (orgF (G 6) i) = nI (F i) := f3
    have hk2 : zRk (zup G 83 (2 * i + 0) (nI (F i))) := by unfold zRk; rw [zup_ro (by decide)]; exact hk
    have w2 : zWT (zup G 83 (2 * i + 0) (nI (F i))) := w.zup (by decide) (by decide) (by decide)
    have t2 : tget (zup G 83 (2 * i + 0) (nI (F i))) 5 6 276 (nI i) 2 = nI (W i) := by
      rw [gd_get (j := 2) w2 rfl (by decide) (by omega) (by decide), zup_ro (by decide)]
      exact w3
    obtain ⟨G', g1, g2, g3⟩ := ih (i + 1) (zup (zup G 83 (2 * i + 0) (nI (F i))) 83 (2 * i + 1) (nI (W i))) (by omega) (w2.zup (by decide) (by decide) (by decide))
      (hr.eq ⟨fun j _ _ => by rw [zup_ro (by decide), zup_ro (by decide)], by rw [zup_ro (by decide), zup_ro (by decide)], by rw [zup_ro (by decide), zup_ro (by decide)], by rw [zup_ro (by decide), zup_ro (by decide)]⟩)
      (by unfold zRk; rw [zup_ro (by decide), zup_ro (by decide)]; exact hk)
      (by unfold rkG; simp only [zup_ro (show (4 : Nat) ≠ 83 by decide), zup_ro (show (6 : Nat) ≠ 83 by decide), zup_ro (show (8 : Nat) ≠ 83 by decide)]; exact hm)
      (fun j j1 => by
        by_cases ej : j = i
        · subst ej
          exact ⟨by rw [zup_rk (by omega), Nat.add_zero, zup_rr], zup_rr⟩
        · rw [zup_rk (by omega), zup_rk (by omega), zup_rk (by omega), zup_rk (by omega)]
          exact hj j (by omega))
    refine ⟨G', ?_, fun r hr' => by rw [g2 r hr', zup_ro hr', zup_ro hr'], g3⟩
    rw [B_Ra_goodAt_8, if_neg (nI_ge (by omega) (by omega)), sc_org w (by omega), zaft_same]
    refine Eq.trans B_Ra_goodAt_30 ?_
    rw [dut_run w hr (show i < gn by omega) (orgF_two (hr.good i (by omega))), f3, zaft_same]
    refine Eq.trans B_Ra_goodAt_33 ?_
    rw [rk_set (j := 0) hk (by decide) (by omega) (by decide), t2, rk_set (j := 1) hk2 (by decide) (by omega) (by decide), nI_1]
    exact g1
theorem rd_ranked {D n gn p : Nat} {F W : Nat → Nat} {G : Nat → Nat → Int32} (w : zWT G) (h : HIat D n gn G) (hk : zRk G) (hm : rkG G n gn F W) (hp : p < gn) :
    ∃ G' : Nat → Nat → Int32, zden 91 0 [.ref 0, .int (nI p)] [] (zSH, G) = some (some (.int (fstA F W gn (nI p) gn 0)), (zSH, G')) ∧ ∀ i, i ≠ 83 → G' i = G i := by
  have i4 : G 2 4 = nI gn := h.i4
  have gl := h.gl
  have hb : ∀ j, j < gn → F j ≤ 1980 ∧ W j ≤ 999 := fun j hj => ⟨(hm j hj).1, (hm j hj).2.1⟩
  have n1 : ¬ bI (0 ≤ nI p ∧ nI p ≤ G 2 4 - 1) = 0 := bIn.mpr (by rw [i4]; exact (good_iff2 gl).mpr ⟨p, hp, rfl⟩)
  obtain ⟨G', g1, g2, g3⟩ := sc_sums (pl := nI p) gn 0 G (by omega) w h hk hm (fun j hj => by omega)
  refine ⟨G', ?_, g2⟩
  rw [B_T_ranked_0, if_neg n1, B_Ra_goodAt_0, i4]
  rw [show zden 47 8 [.ref 81, .ref 2, .int (nI p), .int (nI gn), .int 0] [] (zSH, G) = _ from g1]
  rw [show zden 47 65 [.ref 81, .ref 2, .int (nI p), .int (nI gn), .int 0] [] (zSH, G') = _ from sc_fst (by unfold zRk; rw [g2 82 (by decide)]; exact hk) gl hb g3 gn 0 (by omega), zaft_same]
  exact B_T_ranked_29
theorem rd_ranked_no {D n gn p : Nat} {G : Nat → Nat → Int32} (h : HIat D n gn G) (hp : gn ≤ p) (p2 : p < 2 ^ 20) : zden 91 0 [.ref 0, .int (nI p)] [] (zSH, G) = some (some (.int (-11)), (zSH, G)) := by
  have gl := h.gl
  rw [B_T_ranked_0, if_pos (bIz.mpr (by
    rw [show G 2 4 = nI gn from h.i4, good_iff2 gl]
    rintro ⟨g, g1, g2⟩
    have := (nI_eq (by omega) (by omega)).mp g2
    omega))]
theorem fstA_or {F W : Nat → Nat} {gn : Nat} {pl : Int32} : ∀ (d i : Nat), i + d = gn → fstA F W gn pl d i = -11 ∨ ∃ g : Nat, g < gn ∧ fstA F W gn pl d i = nI g ∧ nI (cntA F W g gn 0) = pl := by
  intro d
  induction d with
  | zero => intro i _; exact .inl rfl
  | succ d ih =>
    intro i h
    unfold fstA
    by_cases a : nI (cntA F W i gn 0) = pl
    · rw [if_pos a]; exact .inr ⟨i, by omega, rfl, a⟩
    · rw [if_neg a]; exact ih (i + 1) (by omega)
/-- what is known of quotients, shown in the last part -/
def zFP : Prop := (∀ x y : Int32, ¬ y = 0 → FP.ddiv (FP.i2d x) (FP.i2d y) &&& 0x7fffffffffffffff ≤ 0x7ff0000000000000 ∧ FP.dcmp (FP.ddiv (FP.i2d x) (FP.i2d y)) (FP.ddiv (FP.i2d x) (FP.i2d y)) = some .eq) ∧
  (∀ x y : Int32, ¬ y = 0 → FP.fdiv (FP.i2f x) (FP.i2f y) &&& 0x7fffffff ≤ 0x7f800000 ∧ FP.fcmp (FP.fdiv (FP.i2f x) (FP.i2f y)) (FP.fdiv (FP.i2f x) (FP.i2f y)) = some .eq) ∧ FP.fcmp 0 0 = some .eq
theorem mean_loop {D n gn : Nat} {G : Nat → Nat → Int32} (hF : zFP) (w : zWT G) (h : HIat D n gn G) (g0 : 0 < gn) : ∀ (d i : Nat) (c : Int32), i + d = gn →
    zden 100 18 [.ref 0, .int (nI gn), .int c, .int (nI i)] [] (zSH, G) = some (some (.double (FP.ddiv (FP.i2d (sumI (fun g => gdV (G 4) (G 6) (G 8) n g 7) d i c)) (FP.i2d (nI gn)))), (zSH, G)) := by
  have gl := h.gl
  have ne : ¬ nI gn = 0 := nI_ne0 g0 (by omega)
  intro d
  induction d with
  | zero =>
    intro i c e
    have e : i = gn := by omega
    subst e
    rw [B_T_meanDuty_18 (fun _ => (hF.1 c (nI i) ne).1), if_pos (Int32.le_refl _)]
    rfl
  | succ d ih =>
    intro i c e
    have h1 : ¬ nI gn ≤ nI i := nI_ge (by omega) (by omega)
    rw [B_T_meanDuty_18 (fun z => absurd z h1), if_neg h1, sc_org w (by omega), zaft_same]
    refine Eq.trans B_T_meanDuty_37 ?_
    rw [dut_run w h (show i < gn by omega) (orgF_two (h.good i (by omega))), zaft_same]
    refine Eq.trans B_T_meanDuty_40 ?_
    rw [nI_1]
    exact ih (i + 1) _ (by omega)
theorem rd_mean {D n gn : Nat} {G : Nat → Nat → Int32} (hF : zFP) (w : zWT G) (h : HIat D n gn G) (g0 : 0 < gn) : zden 100 0 [.ref 0, .retAddr 0, .retAddr 0, .retAddr 0] [] (zSH, G) = some (some (.double (FP.ddiv (FP.i2d (sumI (fun g => gdV (G 4) (G 6) (G 8) n g 7) gn 0 0)) (FP.i2d (nI gn)))), (zSH, G)) := by
  have gl := h.gl
  rw [B_T_meanDuty_0, if_pos (by rw [show G 2 4 = nI gn from h.i4]; exact nI_lt (a := 0) g0 (by omega)), show G 2 4 = nI gn from h.i4]
  exact mean_loop hF w h g0 gn 0 0 (by omega)
theorem rd_back {G : Nat → Nat → Int32} (hF : zFP) : zden 101 0 [.ref 0] [] (zSH, G) = some (some (.float (if ¬ G 2 8 = 0 then FP.fdiv (FP.i2f (G 2 9)) (FP.i2f (G 2 8)) else 0)), (zSH, G)) := by
  rw [B_T_backShare_0 (fun q => (hF.2.1 (G 2 9) (G 2 8) q).1)]
  by_cases q : ¬ G 2 8 = 0
  · rw [if_pos q, if_pos q]
  · rw [if_neg q, if_neg q]
