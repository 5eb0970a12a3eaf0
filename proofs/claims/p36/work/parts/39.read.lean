-- 39: what the object tells, as functions of its house
def cN (p : Nat → Bool) : Nat → Nat → Nat
  | 0, _ => 0
  | d + 1, i => (if p i = true then 1 else 0) + cN p d (i + 1)
theorem cN_succ {p : Nat → Bool} {d i : Nat} : cN p (d + 1) i = (if p i = true then 1 else 0) + cN p d (i + 1) := rfl
theorem cN_le {p : Nat → Bool} : ∀ (d i : Nat), cN p d i ≤ d := by
  intro d
  induction d with
  | zero => intro i; exact Nat.le_refl _
  | succ d ih =>
    intro i
    rw [cN_succ]
    have := ih (i + 1)
    by_cases h : p i = true
    · rw [if_pos h]; omega
    · rw [if_neg h]; omega
theorem cN_last {p : Nat → Bool} : ∀ (d i : Nat), cN p (d + 1) i = cN p d i + (if p (i + d) = true then 1 else 0) := by
  intro d
  induction d with
  | zero => intro i; show (if p i = true then 1 else 0) + 0 = 0 + (if p i = true then 1 else 0); omega
  | succ d ih =>
    intro i
    rw [cN_succ, ih, cN_succ, show i + 1 + d = i + (d + 1) by omega]
    omega
theorem rd_is {G : Nat → Nat → Int32} {gn : Nat} {x : Int32} {k : Nat} (w : zWT G) (i4 : G 2 4 = nI gn) (gl : gn ≤ 12) (hx : x = nI k) : ∀ (d i c : Nat), i + d = gn → c ≤ i →
    zden 34 4 [.ref 2, .int x, .int (nI c), .int (nI i)] [] (zSH, G) = some (some (.int (nI (c + cN (fun g => G 6 (23 * g + 3) == x) d i))), (zSH, G)) := by
  intro d
  induction d with
  | zero =>
    intro i c h hc
    have h : i = gn := by omega
    subst h
    rw [B_Ho_countGoodsThatAre_4, if_pos (by rw [i4]; exact Int32.le_refl _)]
    rfl
  | succ d ih =>
    intro i c h hc
    have ht : tget G 5 6 276 (nI i) 3 = G 6 (23 * i + 3) := gd_get (j := 3) w rfl (by decide) (by omega) (by decide)
    rw [B_Ho_countGoodsThatAre_4, if_neg (by rw [i4]; exact nI_ge (by omega) (by omega)), ht, cN_succ]
    by_cases e : G 6 (23 * i + 3) = x
    · rw [if_neg (fun z => z e), B_Ho_countGoodsThatAre_28, nI_1, nI_1, ih (i + 1) (c + 1) (by omega) (by omega), if_pos (beq_iff_eq.mpr e), Nat.add_assoc]
    · rw [if_pos e, B_Ho_countGoodsThatAre_28, nI_1, ih (i + 1) c (by omega) (by omega), if_neg (fun q => e (beq_iff_eq.mp q)), Nat.zero_add]
def fvS (C : Nat → Int32) : Nat → Nat → Int32 → Int32
  | 0, _, c => c
  | d + 1, i, c => fvS C d (i + 1) (if C i ≤ 0 then c else c ||| (1 <<< (nI i &&& 31)))
theorem rd_fav {G : Nat → Nat → Int32} (w : zWT G) : ∀ (d i : Nat) (c : Int32), i + d = 5 → zden 35 4 [.ref 2, .int c, .int (nI i)] [] (zSH, G) = some (some (.int (fvS (G 8) d i c)), (zSH, G)) := by
  intro d
  induction d with
  | zero =>
    intro i c h
    have h : i = 5 := by omega
    subst h
    rw [B_Ho_favouredSet_4, if_pos (by decide)]
    rfl
  | succ d ih =>
    intro i c h
    have hn : ¬ (5 : Int32) ≤ nI i := by rw [nIlit_5]; exact nI_ge (by omega) (by decide)
    rw [B_Ho_favouredSet_4, if_neg hn, fv_get w rfl (by omega)]
    unfold fvS
    by_cases e : G 8 i ≤ 0
    · rw [if_pos e, if_pos e, B_Ho_favouredSet_27, nI_1]
      exact ih (i + 1) c (by omega)
    · rw [if_neg e, if_neg e, B_Ho_favouredSet_27, nI_1]
      exact ih (i + 1) _ (by omega)
/-- a bit of the favoured set that is not there -/
def fvB (b0 b1 b2 b3 b4 : Bool) : Int32 := fvS (fun i => if [b0, b1, b2, b3, b4].getD i false = true then 1 else 0) 5 0 0
theorem fvB_bit : ∀ b0 b1 b2 b3 b4 : Bool, ∀ c, c < 5 → (fvB b0 b1 b2 b3 b4 >>> (nI c &&& 31)) &&& 1 = 0 → [b0, b1, b2, b3, b4].getD c false = false := by decide +kernel
theorem fvS_congr {C C' : Nat → Int32} : ∀ (d i : Nat) (c : Int32), i + d ≤ 5 → (∀ j, j < 5 → (C j ≤ 0 ↔ C' j ≤ 0)) → fvS C d i c = fvS C' d i c := by
  intro d
  induction d with
  | zero => intro i c _ _; rfl
  | succ d ih =>
    intro i c h hC
    unfold fvS
    by_cases e : C i ≤ 0
    · rw [if_pos e, if_pos ((hC i (by omega)).mp e)]; exact ih _ _ (by omega) hC
    · rw [if_neg e, if_neg (fun q => e ((hC i (by omega)).mpr q))]; exact ih _ _ (by omega) hC
theorem fvS_bit {C : Nat → Int32} {c : Nat} (hc : c < 5) (h : (fvS C 5 0 0 >>> (nI c &&& 31)) &&& 1 = 0) : C c ≤ 0 := by
  have e : fvS C 5 0 0 = fvB (!decide (C 0 ≤ 0)) (!decide (C 1 ≤ 0)) (!decide (C 2 ≤ 0)) (!decide (C 3 ≤ 0)) (!decide (C 4 ≤ 0)) := by
    refine fvS_congr 5 0 0 (Nat.le_refl _) (fun j hj => ?_)
    have one : ∀ (p : Prop) [Decidable p], p ↔ (if (!decide p) = true then (1 : Int32) else 0) ≤ 0 := fun p _ => by
      by_cases q : p
      · simp [q]
      · simp [q]
    rcases (show j = 0 ∨ j = 1 ∨ j = 2 ∨ j = 3 ∨ j = 4 by omega) with rfl | rfl | rfl | rfl | rfl <;> exact one _
  rw [e] at h
  have := fvB_bit _ _ _ _ _ c hc h
  rcases (show c = 0 ∨ c = 1 ∨ c = 2 ∨ c = 3 ∨ c = 4 by omega) with rfl | rfl | rfl | rfl | rfl <;> simpa using this
/-- the account -/
def accF (I B C : Nat → Int32) (gn : Nat) : Nat → Int32
  | 0 => I 5
  | 1 => I 3 - 1
  | 2 => I 4
  | 3 => nI (cN (fun g => B (23 * g + 3) == 0) gn 0)
  | 4 => nI (cN (fun g => B (23 * g + 3) == 1) gn 0)
  | 5 => nI (cN (fun g => B (23 * g + 3) == 2) gn 0)
  | 6 => I 6
  | 7 => I 7
  | 8 => I 8
  | 9 => I 9
  | 10 => I 10
  | 11 => fvS C 5 0 0
  | _ => -12
theorem rd_acc {D n gn k : Nat} {G : Nat → Nat → Int32} (w : zWT G) (h : HIat D n gn G) (hk : k < 12) : zden 98 0 [.ref 0, .int (nI k)] [] (zSH, G) = some (some (.int (accF (G 2) (G 6) (G 8) gn k)), (zSH, G)) := by
  have i4 : G 2 4 = nI gn := h.i4
  have gl := h.gl
  have n0 := @B_T_account_0 G (nI k)
  rcases (show k = 0 ∨ k = 1 ∨ k = 2 ∨ k = 3 ∨ k = 4 ∨ k = 5 ∨ k = 6 ∨ k = 7 ∨ k = 8 ∨ k = 9 ∨ k = 10 ∨ k = 11 by omega) with rfl | rfl | rfl | rfl | rfl | rfl | rfl | rfl | rfl | rfl | rfl | rfl
  · rw [if_pos (by decide)] at n0
    exact n0.trans B_T_account_72
  · rw [if_neg (by decide), if_pos (by decide)] at n0
    exact n0.trans B_T_account_80
  · rw [if_neg (by decide), if_neg (by decide), if_pos (by decide)] at n0
    exact n0.trans B_T_account_90
  · rw [if_neg (by decide), if_neg (by decide), if_neg (by decide), if_pos (by decide)] at n0
    refine n0.trans (B_T_account_98.trans ?_)
    rw [B_Ho_countGoodsThatAre_0, show zden 34 4 [.ref 2, .int 0, .int 0, .int 0] [] (zSH, G) = _ from rd_is (k := 0) w i4 gl (by decide) gn 0 0 (by omega) (Nat.le_refl _), zaft_same, Nat.zero_add]
    exact B_T_account_106
  · rw [if_neg (by decide), if_neg (by decide), if_neg (by decide), if_neg (by decide), if_pos (by decide)] at n0
    refine n0.trans (B_T_account_107.trans ?_)
    rw [B_Ho_countGoodsThatAre_0, show zden 34 4 [.ref 2, .int 1, .int 0, .int 0] [] (zSH, G) = _ from rd_is (k := 1) w i4 gl (by decide) gn 0 0 (by omega) (Nat.le_refl _), zaft_same, Nat.zero_add]
    exact B_T_account_115
  · rw [if_neg (by decide), if_neg (by decide), if_neg (by decide), if_neg (by decide), if_neg (by decide), if_pos (by decide)] at n0
    refine n0.trans (B_T_account_116.trans ?_)
    rw [B_Ho_countGoodsThatAre_0, show zden 34 4 [.ref 2, .int 2, .int 0, .int 0] [] (zSH, G) = _ from rd_is (k := 2) w i4 gl (by decide) gn 0 0 (by omega) (Nat.le_refl _), zaft_same, Nat.zero_add]
    exact B_T_account_124
  · rw [if_neg (by decide), if_neg (by decide), if_neg (by decide), if_neg (by decide), if_neg (by decide), if_neg (by decide), if_pos (by decide)] at n0
    exact n0.trans B_T_account_125
  · rw [if_neg (by decide), if_neg (by decide), if_neg (by decide), if_neg (by decide), if_neg (by decide), if_neg (by decide), if_neg (by decide), if_pos (by decide)] at n0
    exact n0.trans B_T_account_133
  · rw [if_neg (by decide), if_neg (by decide), if_neg (by decide), if_neg (by decide), if_neg (by decide), if_neg (by decide), if_neg (by decide), if_neg (by decide), if_pos (by decide)] at n0
    exact n0.trans B_T_account_141
  · rw [if_neg (by decide), if_neg (by decide), if_neg (by decide), if_neg (by decide), if_neg (by decide), if_neg (by decide), if_neg (by decide), if_neg (by decide), if_neg (by decide), if_pos (by decide)] at n0
    exact n0.trans B_T_account_149
  · rw [if_neg (by decide), if_neg (by decide), if_neg (by decide), if_neg (by decide), if_neg (by decide), if_neg (by decide), if_neg (by decide), if_neg (by decide), if_neg (by decide), if_neg (by decide), if_pos (by decide)] at n0
    exact n0.trans B_T_account_157
  · rw [if_neg (by decide), if_neg (by decide), if_neg (by decide), if_neg (by decide), if_neg (by decide), if_neg (by decide), if_neg (by decide), if_neg (by decide), if_neg (by decide), if_neg (by decide), if_neg (by decide), if_pos (by decide)] at n0
    refine n0.trans (B_T_account_165.trans ?_)
    rw [B_Ho_favouredSet_0, show zden 35 4 [.ref 2, .int 0, .int 0] [] (zSH, G) = _ from rd_fav w 5 0 0 rfl, zaft_same]
    exact B_T_account_172
theorem rd_acc12 {G : Nat → Nat → Int32} : zden 98 0 [.ref 0, .int 12] [] (zSH, G) = some (some (.int (G 84 1)), (zSH, G)) := by
  rw [B_T_account_0, if_neg (by decide), if_neg (by decide), if_neg (by decide), if_neg (by decide), if_neg (by decide), if_neg (by decide), if_neg (by decide), if_neg (by decide), if_neg (by decide), if_neg (by decide), if_neg (by decide), if_neg (by decide), if_pos (by decide)]
  exact B_T_account_173
theorem rd_acc13 {G : Nat → Nat → Int32} : zden 98 0 [.ref 0, .int 13] [] (zSH, G) = some (some (.int (G 9 4)), (zSH, G)) := by
  rw [B_T_account_0, if_neg (by decide), if_neg (by decide), if_neg (by decide), if_neg (by decide), if_neg (by decide), if_neg (by decide), if_neg (by decide), if_neg (by decide), if_neg (by decide), if_neg (by decide), if_neg (by decide), if_neg (by decide), if_neg (by decide), if_pos (by decide)]
  exact B_T_account_181
theorem rd_acc14 {G : Nat → Nat → Int32} : zden 98 0 [.ref 0, .int 14] [] (zSH, G) = some (some (.int (-12)), (zSH, G)) := by
  rw [B_T_account_0, if_neg (by decide), if_neg (by decide), if_neg (by decide), if_neg (by decide), if_neg (by decide), if_neg (by decide), if_neg (by decide), if_neg (by decide), if_neg (by decide), if_neg (by decide), if_neg (by decide), if_neg (by decide), if_neg (by decide), if_neg (by decide)]
/-- codes -/
def codeF (A : Nat → Int32) (n : Nat) (p : Nat) : Int32 := if p ≤ n then A (5 * p + 4) else -11
theorem rd_code {D n gn p : Nat} {G : Nat → Nat → Int32} (w : zWT G) (h : HIat D n gn G) (hp : p < 2 ^ 20) : zden 74 0 [.ref 0, .int (nI p)] [] (zSH, G) = some (some (.int (codeF (G 4) n p)), (zSH, G)) := by
  have hn := h.ho.1
  have e : G 2 3 - 1 = nI n := by rw [show G 2 3 = nI (n + 1) from h.i3, nI_pred]
  rw [B_T_code_0, e]
  unfold codeF
  by_cases q : p ≤ n
  · rw [if_neg (bIn.mpr ⟨nI_pos' (by omega), nI_le q (by omega)⟩), if_pos q, hd_get w rfl nIlit_4 (by omega) (by decide)]
  · rw [if_pos (bIz.mpr (fun z => nI_ge (show n < p by omega) (by omega) z.2)), if_neg q]
theorem rd_code_neg {D n gn : Nat} {G : Nat → Nat → Int32} : zden 74 0 [.ref 0, .int (-1)] [] (zSH, G) = some (some (.int (-11)), (zSH, G)) := by
  rw [B_T_code_0, if_pos (bIz.mpr (fun z => absurd z.1 (by decide)))]
/-- headings -/
noncomputable def hdV (A B : Nat → Int32) (n gn i : Nat) (k : Nat) : Int32 := if k = 4 then nI (cN (fun g => topF A B n g == i) gn 0) else A (5 * i + k)
theorem rd_cnt {D n gn i : Nat} {G : Nat → Nat → Int32} (w : zWT G) (h : HIat D n gn G) (hi : i < 2 ^ 20) : ∀ (d g c : Nat), g + d = gn → c ≤ g →
    zden 23 4 [.ref 2, .int (nI i), .int (nI c), .int (nI g)] [] (zSH, G) = some (some (.int (nI (c + cN (fun g => topF (G 4) (G 6) n g == i) d g))), (zSH, G)) := by
  have i4 : G 2 4 = nI gn := h.i4
  have gl := h.gl
  have hn := h.ho.1
  intro d
  induction d with
  | zero =>
    intro g c e hc
    have e : g = gn := by omega
    subst e
    rw [B_Ho_countGoodsOf_4, if_pos (by rw [i4]; exact Int32.le_refl _)]
    rfl
  | succ d ih =>
    intro g c e hc
    have ht := (topF_is (g := g) w h.ho h.i3 (by omega)).1
    rw [B_Ho_countGoodsOf_4, if_neg (by rw [i4]; exact nI_ge (by omega) (by omega)), sc_top w h.ho h.i3 (by omega), zaft_same]
    refine Eq.trans B_Ho_countGoodsOf_20 ?_
    rw [cN_succ]
    by_cases q : topF (G 4) (G 6) n g = i
    · rw [if_neg (fun z => z (by rw [q])), B_Ho_countGoodsOf_27, nI_1, nI_1, ih (g + 1) (c + 1) (by omega) (by omega), if_pos (beq_iff_eq.mpr q), Nat.add_assoc]
    · rw [if_pos (by rw [nI_eq (by omega) (by omega)]; exact q), B_Ho_countGoodsOf_27, nI_1, ih (g + 1) c (by omega) (by omega), if_neg (fun z => q (beq_iff_eq.mp z)), Nat.zero_add]
theorem code_ne {n i j : Nat} {A : Nat → Int32} (ho : hOK n A) (hij : i < j) (hj : j ≤ n) : A (5 * i + 4) < A (5 * j + 4) := by
  by_cases e : j < n
  · have := codes_up ho.2.2.2 (j - i - 1) i (by omega)
    rw [show i + (j - i - 1) + 1 = j by omega] at this
    exact this
  · have : j = n := by omega
    subst this
    obtain ⟨⟨m, m1, m2, m3⟩, _⟩ := ho.2.1 i hij
    rw [ho.2.2.1.2.2.2.2, m3, show (99 : Int32) = nI 99 by decide]
    exact nI_lt (by omega) (by decide)
theorem findR_at {n i : Nat} {A : Nat → Int32} (ho : hOK n A) (hi : i ≤ n) : findR A (A (5 * i + 4)) (n + 1) 0 = nI i := by
  rcases findR_or (A := A) (x := A (5 * i + 4)) (n + 1) 0 with ⟨_, f2⟩ | ⟨k, _, k2, f1, f2⟩
  · exact absurd rfl (f2 i (by omega) (by omega))
  · rw [f1]
    rcases Nat.lt_trichotomy k i with q | q | q
    · have := code_ne ho q hi
      rw [f2] at this
      exact absurd this Int32.lt_irrefl
    · rw [q]
    · have := code_ne ho q (by omega)
      rw [f2] at this
      exact absurd this Int32.lt_irrefl
theorem rd_hd {D n gn i k : Nat} {G : Nat → Nat → Int32} (w : zWT G) (h : HIat D n gn G) (hi : i ≤ n) (hk : k < 5) : zden 73 0 [.ref 0, .int (G 4 (5 * i + 4)), .int (nI k), .retAddr 0] [] (zSH, G) = some (some (.int (hdV (G 4) (G 6) n gn i k)), (zSH, G)) := by
  have hn := h.ho.1
  rw [B_T_headingOf_0, sc_rowOfCode w hn h.i3, zaft_same, findR_at h.ho hi]
  refine Eq.trans B_T_headingOf_8 ?_
  rw [if_pos (nI_pos' (by omega)), if_pos (bIn.mpr ⟨nI_pos' (by omega), by rw [nIlit_4]; exact nI_le (by omega) (by omega)⟩)]
  unfold hdV
  by_cases e : k = 4
  · subst e
    rw [if_neg (fun q => q (by decide)), if_pos rfl, B_Ho_countGoodsOf_0, show zden 23 4 [.ref 2, .int (nI i), .int 0, .int 0] [] (zSH, G) = _ from rd_cnt w h (by omega) gn 0 0 (by omega) (Nat.le_refl _), zaft_same, Nat.zero_add]
    exact B_T_headingOf_41
  · rw [if_pos (by rw [nIlit_4, nI_eq (by omega) (by omega)]; exact e), if_neg e, hd_get w rfl rfl (by omega) hk]
theorem rd_hd_no {D n gn : Nat} {x : Int32} {G : Nat → Nat → Int32} (w : zWT G) (h : HIat D n gn G) : zden 73 0 [.ref 0, .int (-11), .int x, .retAddr 0] [] (zSH, G) = some (some (.int (-11)), (zSH, G)) := by
  have hn := h.ho.1
  rw [B_T_headingOf_0, sc_rowOfCode w hn h.i3, zaft_same]
  refine Eq.trans B_T_headingOf_8 ?_
  rcases findR_or (A := G 4) (x := -11) (n + 1) 0 with ⟨f1, _⟩ | ⟨k, _, k2, f1, f2⟩
  · rw [f1, if_neg (by decide)]
  · obtain ⟨c, _, _, _, _, hc, _, _, _, _, c1, c2, _⟩ := h.ho.row (i := k) (by omega)
    rw [hc] at f2
    have := nI_pos' (n := c) (by omega)
    rw [f2] at this
    exact absurd this (by decide)
/-- goods -/
noncomputable def gdV (A B C : Nat → Int32) (n g : Nat) : Nat → Int32
  | 0 => B (23 * g)
  | 1 => B (23 * g + 1)
  | 2 => B (23 * g + 2)
  | 3 => B (23 * g + 3)
  | 4 => B (23 * g + 4)
  | 5 => orgF B g
  | 6 => A (5 * topF A B n g + 4)
  | 7 => dutC A B C n g (orgF B g)
  | 8 => B (23 * g + 5)
  | 9 => B (23 * g + 6)
  | 10 => B (23 * g + 7)
  | _ => -12
theorem good_in {D n gn g : Nat} {G : Nat → Nat → Int32} (h : HIat D n gn G) (g1 : g < gn) : ¬ bI (0 ≤ nI g ∧ nI g < G 2 4) = 0 := bIn.mpr (by rw [show G 2 4 = nI gn from h.i4]; exact (good_iff h.gl).mpr ⟨g, g1, rfl⟩)
theorem good_out {D n gn g : Nat} {G : Nat → Nat → Int32} (h : HIat D n gn G) (g1 : gn ≤ g) (g2 : g < 2 ^ 20) : bI (0 ≤ nI g ∧ nI g < G 2 4) = 0 := bIz.mpr (fun q => by
  have := q.2
  rw [show G 2 4 = nI gn from h.i4] at this
  exact nI_nlt g1 (by omega) this)
theorem dut_run {D n gn g : Nat} {G : Nat → Nat → Int32} {o : Int32} (w : zWT G) (h : HIat D n gn G) (g1 : g < gn) (ho : o = -15 ∨ ∃ b : Nat, b < 5 ∧ o = nI b) : zden 29 0 [.ref 2, .int (nI g), .int o, .retAddr 0, .retAddr 0, .retAddr 0, .retAddr 0] [] (zSH, G) = some (some (.int (dutC (G 4) (G 6) (G 8) n g o)), (zSH, G)) := by
  obtain ⟨t, f, _, _, _, _, e, _, _, q⟩ := dutC_ok w h g1 ho
  rw [e]
  exact q
theorem rd_good {D n gn g k : Nat} {G : Nat → Nat → Int32} (w : zWT G) (h : HIat D n gn G) (g1 : g < gn) (hk : k < 11) : zden 78 0 [.ref 0, .int (nI g), .int (nI k)] [] (zSH, G) = some (some (.int (gdV (G 4) (G 6) (G 8) n g k)), (zSH, G)) := by
  have gl := h.gl
  have hg : g < 12 := by omega
  have hn := h.ho.1
  have t : ∀ (x : Int32) (j : Nat), x = nI j → j < 23 → tget G 5 6 276 (nI g) x = G 6 (23 * g + j) := fun x j hx hj => gd_get w rfl hx hg hj
  have n0 := @B_T_goodOf_0 G (nI g) (nI k)
  rw [if_pos (good_in h g1)] at n0
  have ho := orgF_two (h.good g g1)
  rcases (show k = 0 ∨ k = 1 ∨ k = 2 ∨ k = 3 ∨ k = 4 ∨ k = 5 ∨ k = 6 ∨ k = 7 ∨ k = 8 ∨ k = 9 ∨ k = 10 by omega) with rfl | rfl | rfl | rfl | rfl | rfl | rfl | rfl | rfl | rfl | rfl
  · rw [if_pos (by decide)] at n0
    exact n0.trans (B_T_goodOf_72.trans (by rw [t 0 0 (by decide) (by decide)]; rfl))
  · rw [if_neg (by decide), if_pos (by decide)] at n0
    exact n0.trans (B_T_goodOf_85.trans (by rw [t 1 1 (by decide) (by decide)]; rfl))
  · rw [if_neg (by decide), if_neg (by decide), if_pos (by decide)] at n0
    exact n0.trans (B_T_goodOf_98.trans (by rw [t 2 2 (by decide) (by decide)]; rfl))
  · rw [if_neg (by decide), if_neg (by decide), if_neg (by decide), if_pos (by decide)] at n0
    exact n0.trans (B_T_goodOf_111.trans (by rw [t 3 3 (by decide) (by decide)]; rfl))
  · rw [if_neg (by decide), if_neg (by decide), if_neg (by decide), if_neg (by decide), if_pos (by decide)] at n0
    exact n0.trans (B_T_goodOf_124.trans (by rw [t 4 4 (by decide) (by decide)]; rfl))
  · rw [if_neg (by decide), if_neg (by decide), if_neg (by decide), if_neg (by decide), if_neg (by decide), if_pos (by decide)] at n0
    refine n0.trans (B_T_goodOf_137.trans ?_)
    rw [sc_org w hg, zaft_same]
    exact B_T_goodOf_145
  · rw [if_neg (by decide), if_neg (by decide), if_neg (by decide), if_neg (by decide), if_neg (by decide), if_neg (by decide), if_pos (by decide)] at n0
    refine n0.trans (B_T_goodOf_146.trans ?_)
    rw [sc_top w h.ho h.i3 hg, zaft_same]
    refine Eq.trans B_T_goodOf_164 ?_
    have := (topF_is (g := g) w h.ho h.i3 hg).1
    rw [hd_get w rfl nIlit_4 (by omega) (by decide)]
    rfl
  · rw [if_neg (by decide), if_neg (by decide), if_neg (by decide), if_neg (by decide), if_neg (by decide), if_neg (by decide), if_neg (by decide), if_pos (by decide)] at n0
    refine n0.trans (B_T_goodOf_169.trans ?_)
    rw [sc_org w hg, zaft_same]
    refine Eq.trans B_T_goodOf_182 ?_
    rw [dut_run w h g1 ho, zaft_same]
    exact B_T_goodOf_185
  · rw [if_neg (by decide), if_neg (by decide), if_neg (by decide), if_neg (by decide), if_neg (by decide), if_neg (by decide), if_neg (by decide), if_neg (by decide), if_pos (by decide)] at n0
    exact n0.trans (B_T_goodOf_186.trans (by rw [t 5 5 (by decide) (by decide)]; rfl))
  · rw [if_neg (by decide), if_neg (by decide), if_neg (by decide), if_neg (by decide), if_neg (by decide), if_neg (by decide), if_neg (by decide), if_neg (by decide), if_neg (by decide), if_pos (by decide)] at n0
    exact n0.trans (B_T_goodOf_199.trans (by rw [t 6 6 (by decide) (by decide)]; rfl))
  · rw [if_neg (by decide), if_neg (by decide), if_neg (by decide), if_neg (by decide), if_neg (by decide), if_neg (by decide), if_neg (by decide), if_neg (by decide), if_neg (by decide), if_neg (by decide), if_pos (by decide)] at n0
    exact n0.trans (B_T_goodOf_213.trans (by rw [t 7 7 (by decide) (by decide)]; rfl))
theorem rd_good_no {D n gn g : Nat} {x : Int32} {G : Nat → Nat → Int32} (h : HIat D n gn G) (g1 : gn ≤ g) (g2 : g < 2 ^ 20) : zden 78 0 [.ref 0, .int (nI g), .int x] [] (zSH, G) = some (some (.int (-11)), (zSH, G)) := by
  rw [B_T_goodOf_0, if_neg (fun q => q (good_out h g1 g2))]
theorem rd_part {D n gn g k : Nat} {G : Nat → Nat → Int32} (w : zWT G) (h : HIat D n gn G) (g1 : g < gn) (hk : k < 4) : zden 79 0 [.ref 0, .int (nI g), .int (nI k)] [] (zSH, G) = some (some (.int (G 6 (23 * g + 9 + k))), (zSH, G)) := by
  have gl := h.gl
  have k9 : (9 : Int32) + nI k = nI (9 + k) := by rw [nIlit_9, nI_add]
  rw [B_T_part_0, if_neg (good_in h g1), if_pos (bIn.mpr ⟨nI_pos' (by omega), by rw [nIlit_3]; exact nI_le (by omega) (by omega)⟩), gd_get w rfl k9 (by omega) (by omega), ← Nat.add_assoc]
theorem rd_part_no {D n gn g : Nat} {x : Int32} {G : Nat → Nat → Int32} (h : HIat D n gn G) (g1 : gn ≤ g) (g2 : g < 2 ^ 20) : zden 79 0 [.ref 0, .int (nI g), .int x] [] (zSH, G) = some (some (.int (-11)), (zSH, G)) := by
  rw [B_T_part_0, if_pos (good_out h g1 g2)]
theorem rd_pts {D n gn g k : Nat} {G : Nat → Nat → Int32} (w : zWT G) (h : HIat D n gn G) (g1 : g < gn) (hk : k < 5) : zden 80 0 [.ref 0, .int (nI g), .int (nI k)] [] (zSH, G) = some (some (.int (G 6 (23 * g + 13 + k))), (zSH, G)) := by
  have gl := h.gl
  have k9 : (13 : Int32) + nI k = nI (13 + k) := by rw [nIlit_13, nI_add]
  rw [B_T_points_0, if_neg (good_in h g1), if_pos (bIn.mpr ⟨nI_pos' (by omega), by rw [nIlit_4]; exact nI_le (by omega) (by omega)⟩), gd_get w rfl k9 (by omega) (by omega), ← Nat.add_assoc]
theorem rd_pts_no {D n gn g : Nat} {x : Int32} {G : Nat → Nat → Int32} (h : HIat D n gn G) (g1 : gn ≤ g) (g2 : g < 2 ^ 20) : zden 80 0 [.ref 0, .int (nI g), .int x] [] (zSH, G) = some (some (.int (-11)), (zSH, G)) := by
  rw [B_T_points_0, if_pos (good_out h g1 g2)]
theorem rd_would {D n gn g k : Nat} {G : Nat → Nat → Int32} (w : zWT G) (h : HIat D n gn G) (g1 : g < gn) (hk : k < 5) : zden 89 0 [.ref 0, .int (nI g), .int (nI k)] [] (zSH, G) = some (some (.int (dutC (G 4) (G 6) (G 8) n g (nI k))), (zSH, G)) := by
  rw [B_T_would_0, if_neg (good_in h g1), if_pos (bIn.mpr ⟨nI_pos' (by omega), by rw [nIlit_4]; exact nI_le (by omega) (by omega)⟩), dut_run w h g1 (.inr ⟨k, hk, rfl⟩), zaft_same]
  exact B_T_would_30
theorem rd_would_no {D n gn g : Nat} {x : Int32} {G : Nat → Nat → Int32} (h : HIat D n gn G) (g1 : gn ≤ g) (g2 : g < 2 ^ 20) : zden 89 0 [.ref 0, .int (nI g), .int x] [] (zSH, G) = some (some (.int (-11)), (zSH, G)) := by
  rw [B_T_would_0, if_pos (good_out h g1 g2)]
theorem rd_reason {G : Nat → Nat → Int32} {x : Int32} : zden 97 0 [.ref 0, .int x] [] (zSH, G) = some (some (.int (if x = 0 then G 1 1 else G 1 2)), (zSH, G)) := by
  rw [B_T_reason_0]
  by_cases h : x = 0
  · rw [if_pos h, if_pos h]
  · rw [if_neg h, if_neg h]
-- fit, fitAgain, why, cheapest, isBalanced
theorem rd_fit {D n gn g p : Nat} {G : Nat → Nat → Int32} (w : zWT G) (h : HIat D n gn G) (g1 : g < gn) (hp : p ≤ n) :
    ∃ r : Int32, atI (fitB (G 4) (G 6) g) (rkC (G 4)) n p r ∧ zden 81 0 [.ref 0, .int (nI g), .int (nI p), .retAddr 0] [] (zSH, G) = some (some (.int (if 0 ≤ r then G 4 (5 * r.toNatClampNeg + 4) else -11)), (zSH, G)) := by
  have gl := h.gl
  have hn := h.ho.1
  obtain ⟨r, q1, q2⟩ := sc_fittingRowAt (p := p) w h.ho h.ho.2.2.2 h.i3 (show g < 12 by omega) (by omega)
  have e : G 2 3 - 1 = nI n := by rw [show G 2 3 = nI (n + 1) from h.i3, nI_pred]
  refine ⟨r, q2, ?_⟩
  rw [B_T_fit_0, if_neg (good_in h g1), e, if_pos (bIn.mpr ⟨nI_pos' (by omega), nI_le hp (by omega)⟩), q1, zaft_same]
  refine Eq.trans B_T_fit_40 ?_
  by_cases hr : 0 ≤ r
  · rw [if_pos hr, if_pos hr]
    rcases q2 with ⟨z, _⟩ | ⟨k, k1, k2, _⟩
    · rw [z] at hr; exact absurd hr (by decide)
    · rw [k2, hd_get w rfl nIlit_4 (by omega) (by decide), nI_clamp (by omega)]
  · rw [if_neg hr, if_neg hr]
theorem rd_fit_no {D n gn g p : Nat} {G : Nat → Nat → Int32} (h : HIat D n gn G) (g1 : g < gn) (hp : n < p) (hp2 : p < 2 ^ 20) : zden 81 0 [.ref 0, .int (nI g), .int (nI p), .retAddr 0] [] (zSH, G) = some (some (.int (-11)), (zSH, G)) := by
  have hn := h.ho.1
  have e : G 2 3 - 1 = nI n := by rw [show G 2 3 = nI (n + 1) from h.i3, nI_pred]
  rw [B_T_fit_0, if_neg (good_in h g1), e, if_neg (fun q => q (bIz.mpr (fun z => nI_ge hp (by omega) z.2)))]
theorem rd_again {D n gn g : Nat} {G : Nat → Nat → Int32} (w : zWT G) (h : HIat D n gn G) (g1 : g < gn) : zden 82 0 [.ref 0, .int (nI g)] [] (zSH, G) = some (some (.int (G 4 (5 * topF (G 4) (G 6) n g + 4))), (zSH, G)) := by
  have gl := h.gl
  have hn := h.ho.1
  have hg : g < 12 := by omega
  rw [B_T_fitAgain_0, if_pos (good_in h g1), sc_kept w h.ho h.i3 hg, zaft_same]
  refine Eq.trans B_T_fitAgain_29 ?_
  have := (topF_is (g := g) w h.ho h.i3 hg).1
  rw [hd_get w rfl nIlit_4 (by omega) (by decide)]
