-- 55: the first checks of the law; the text is empty
theorem tset_ro {G : Nat → Nat → Int32} {r q n : Nat} {row col x : Int32} {i : Nat} (hi : i ≠ q) : tset G r q n row col x i = G i := by
  unfold tset
  by_cases a : row < 0
  · rw [if_pos a]
  · rw [if_neg a]
    by_cases b : G r 0 ≤ row
    · rw [if_pos b]
    · rw [if_neg b]
      by_cases c : col < 0
      · rw [if_pos c]
      · rw [if_neg c]
        by_cases d : col < G r 1
        · rw [if_pos d]
          by_cases e : row * G r 1 + col < 0
          · rw [if_pos e]
          · rw [if_neg e]
            by_cases f : Int32.ofNat n ≤ row * G r 1 + col
            · rw [if_pos f]
            · rw [if_neg f, zup_ro hi]
        · rw [if_neg d]
theorem wd_facts : ∀ k, k < 9 → wdN (nI k) < 18 ∧ ¬ (nI (zTB (wdN (nI k))).length ≤ 0) ∧ zin 0 (zTB (wdN (nI k))).length = true ∧ ¬ zch (wdN (nI k)) 0 = 0 ∧ ¬ (0 : Int32) = nI (zTB (wdN (nI k))).length := by decide +kernel
section ZRn
variable {G : Nat → Nat → Int32}
theorem sign0 (t1 : G 84 1 = 0) (t87 : G 87 0 = 0) : zden 62 0 [.ref 84, .int 0] [] (zSH, G) = some (some (.int 0), (zSH, G)) := by
  have b : G 84 1 ≤ 0 := by rw [t1]; decide
  rw [B_Te_signAt_0 (fun _ q => absurd b q) (by rw [show (0 : Int32).toNatClampNeg = 0 by decide, t87]; decide), if_neg (by decide), if_pos b]
theorem alike0 {k : Nat} (hk : k < 9) (t1 : G 84 1 = 0) (t3 : G 84 3 = 0) (t87 : G 87 0 = 0) : zden 61 0 [.ref 84, .ref (1000000 + wdN (nI k)), .retAddr 0] [] (zSH, G) = some (some (.int 0), (zSH, G)) := by
  obtain ⟨a, b, c, d, _⟩ := wd_facts k hk
  rw [B_Te_countAlike_0 a, B_Te_countAlike_2 a (fun _ => c), if_neg b, t3, Int32.add_zero, sign0 t1 t87, zaft_same]
  refine (B_Te_countAlike_25 a).trans ?_
  rw [if_pos d]
theorem word0 (t1 : G 84 1 = 0) (t3 : G 84 3 = 0) (t87 : G 87 0 = 0) : ∀ (d k : Nat) (v3 v4 : Value), k + d = 9 → zden 59 4 [.ref 84, .int 0, .int (nI k), v3, v4] [] (zSH, G) = some (some (.int (-1)), (zSH, zup (zup G 84 3 0) 84 4 1)) := by
  intro d
  induction d with
  | zero =>
    intro k v3 v4 h
    have h : k = 9 := by omega
    subst h
    rw [B_Te_readWord_4, if_pos (by decide), t3, Int32.add_zero]
  | succ d ih =>
    intro k v3 v4 h
    have hk : k < 9 := by omega
    rw [B_Te_readWord_4, if_neg (by rw [nIlit_9]; exact nI_ge hk (by decide)), alike0 hk t1 t3 t87, zaft_same]
    refine B_Te_readWord_20.trans ?_
    rw [if_pos (wd_facts k hk).2.2.2.2, if_neg (by decide), nI_1]
    exact ih (k + 1) _ _ (by omega)
theorem run0 (t1 : G 84 1 = 0) (t87 : G 87 0 = 0) : ∃ G' : Nat → Nat → Int32, zden 93 0 [.ref 0, .retAddr 0, .retAddr 0] [] (zSH, G) = some (some (.int (-1000)), (zSH, G')) ∧ (∀ i, i ≠ 84 → i ≠ 86 → G' i = G i) ∧ G' 84 1 = 0 := by
  have a1 : zup (zup G 84 3 0) 84 4 0 84 1 = 0 := by rw [zup_rk (by decide), zup_rk (by decide)]; exact t1
  have a3 : zup (zup G 84 3 0) 84 4 0 84 3 = 0 := by rw [zup_rk (by decide), zup_rr]
  have a87 : zup (zup G 84 3 0) 84 4 0 87 0 = 0 := by rw [zup_ro (by decide), zup_ro (by decide)]; exact t87
  generalize hX : zup (zup G 84 3 0) 84 4 0 = X at a1 a3 a87
  have xo : ∀ i, i ≠ 84 → X i = G i := fun i hi => by rw [← hX, zup_ro hi, zup_ro hi]
  generalize hY : tset (zup (zup X 84 3 0) 84 4 1) 85 86 77 0 0 (-1) = Y
  have yo : ∀ i, i ≠ 84 → i ≠ 86 → Y i = G i := fun i h1 h2 => by rw [← hY, tset_ro h2, zup_ro h1, zup_ro h1, xo i h1]
  have y84 : Y 84 = zup (zup X 84 3 0) 84 4 1 84 := by rw [← hY, tset_ro (by decide)]
  have y4 : Y 84 4 = 1 := by rw [y84, zup_rr]
  have y3 : Y 84 3 = 0 := by rw [y84, zup_rk (by decide), zup_rr]
  have fm : fmN (-1) = 17 := by decide
  have ord : zden 58 0 [.ref 84, .int 0, .retAddr 0, .retAddr 0, .retAddr 0, .retAddr 0, .retAddr 0] [] (zSH, X) = some (none, (zSH, Y)) := by
    rw [B_Te_readOrder_0, B_Te_readWord_0, show zden 59 4 [.ref 84, .int 0, .int 0, .retAddr 0, .retAddr 0] [] (zSH, X) = _ from word0 a1 a3 a87 9 0 (.retAddr 0) (.retAddr 0) rfl, zaft_same]
    refine B_Te_readOrder_4.trans ?_
    rw [hY]
    have n4 : ¬ Y 84 4 = 0 := by rw [y4]; decide
    rw [B_Te_readOrder_26 (fun _ q => absurd n4 q), if_neg (by rw [fm]; decide +kernel), if_pos n4]
  refine ⟨zup Y 84 1 0, ?_, fun i h1 h2 => by rw [zup_ro h1, yo i h1 h2], zup_rr⟩
  have n4 : ¬ Y 84 4 = 0 := by rw [y4]; decide
  have rd : zden 57 0 [.ref 84, .retAddr 0] [] (zSH, G) = some (some (.int (-1000)), (zSH, Y)) := by
    rw [B_Te_read_0, hX, B_Te_read_12, if_neg (by decide), ord, zaft_same]
    refine B_Te_read_23.trans ?_
    rw [if_pos n4, B_Te_read_45, B_Te_readSign_0, if_neg n4, zaft_same]
    refine B_Te_read_51.trans ?_
    rw [if_neg n4, y3]
    rfl
  rw [B_T_run_0, rd, zaft_same]
  refine B_T_run_7.trans ?_
  rw [B_Te_empty_0, zaft_same]
  refine B_T_run_15.trans ?_
  rw [if_neg (by decide)]
end ZRn
theorem ck {G : Nat → Nat → Int32} (h : zck18 G = true) {i j : Nat} (hi : i < 90) (hj : j < zLn.getD i 0) : G i j = ((zlk zI i).getD []).getD j 0 := by
  unfold zck18 at h
  have h1 := List.all_eq_true.mp h i (List.mem_range.mpr hi)
  exact beq_iff_eq.mp (List.all_eq_true.mp h1 j (List.mem_range.mpr hj))
theorem cv {G : Nat → Nat → Int32} (h : zck18 G = true) (i j : Nat) {x : Int32} (hx : (Nat.blt i 90 && Nat.blt j (zLn.getD i 0) && decide (((zlk zI i).getD []).getD j 0 = x)) = true) : G i j = x := by
  simp only [Bool.and_eq_true, Nat.blt_eq, decide_eq_true_eq] at hx
  exact (ck h hx.1.1 hx.1.2).trans hx.2
theorem zI_nil : (zlk zI 6).getD [] = [] ∧ (zlk zI 8).getD [] = [] := by decide +kernel
theorem zLn_at : zLn.getD 6 0 = 276 ∧ zLn.getD 8 0 = 5 := by decide +kernel
theorem LI_init {G : Nat → Nat → Int32} (h : zck18 G = true) (iv : zinv (zSH, G)) : LI 0 0 0 0 0 G := by
  obtain ⟨l6, l8⟩ := zLn_at
  have a6 : ∀ j, j < 276 → G 6 j = 0 := fun j hj => by rw [ck h (by decide) (by rw [l6]; exact hj), zI_nil.1]; rfl
  have a8 : ∀ j, j < 5 → G 8 j = 0 := fun j hj => by rw [ck h (by decide) (by rw [l8]; exact hj), zI_nil.2]; rfl
  have z0 : ∀ {a : Nat}, zR5 0 a 0 := ⟨0, Nat.le_refl _, Nat.zero_le _, rfl⟩
  have i5 : G 2 5 = 0 := cv h 2 5 (by decide +kernel)
  have i6 : G 2 6 = 0 := cv h 2 6 (by decide +kernel)
  have i7 : G 2 7 = 0 := cv h 2 7 (by decide +kernel)
  have i8 : G 2 8 = 0 := cv h 2 8 (by decide +kernel)
  have i9 : G 2 9 = 0 := cv h 2 9 (by decide +kernel)
  refine ⟨⟨cv h 3 0 (by decide +kernel), cv h 3 1 (by decide +kernel), cv h 5 0 (by decide +kernel), cv h 5 1 (by decide +kernel), cv h 7 0 (by decide +kernel), cv h 7 1 (by decide +kernel)⟩, ⟨cv h 82 0 (by decide +kernel), cv h 82 1 (by decide +kernel)⟩, ?_, by decide, by decide, cv h 9 3 (by decide +kernel), cv h 9 4 (by decide +kernel), cv h 84 1 (by decide +kernel), iv⟩
  refine ⟨⟨by decide, fun k hk => absurd hk (Nat.not_lt_zero k), ⟨cv h 4 0 (by decide +kernel), cv h 4 1 (by decide +kernel), cv h 4 2 (by decide +kernel), cv h 4 3 (by decide +kernel), cv h 4 4 (by decide +kernel)⟩, fun k hk => absurd hk (by omega)⟩, by decide, cv h 2 3 (by decide +kernel), cv h 2 4 (by decide +kernel), by rw [i5]; exact z0, by rw [i6]; exact z0, fun c hc => by rw [a8 c hc]; exact z0, fun k hk => absurd hk (Nat.not_lt_zero k), fun g _ hg j hj => a6 (23 * g + j) (by omega), i8, i9, ?_⟩
  rw [i6, i7, i8, i9]
  rfl
/-- a refusal that leaves all as it is -/
theorem x_neg {tc : Nat} {ac : List Value} {r : Int32} {D n gn f u : Nat} {G : Nat → Nat → Int32} (h : LI D n gn f u G) (hz : zden tc 0 ac [] (zSH, hcopy G (kb f) 2) = some (some (.int r), (zSH, hcopy G (kb f) 2))) (hr : r < 0) :
    ∃ G' : Nat → Nat → Int32, zden 14 0 [.ref 9, .ref 2, .retAddr 0] [] (zSH, G) = some (none, (zSH, hcopy G (kb f) 2)) ∧ zden tc 0 ac [] (zSH, hcopy G (kb f) 2) = some (some (.int r), (zSH, G')) ∧ zden 15 0 [.ref 9, .int r] [] (zSH, G') = some (some (.int r), (zSH, G')) ∧ LI D n gn f u G' ∧ (∀ i, 90 ≤ i → G' i = G i) := by
  obtain ⟨b1, _⟩ := sc_begin h
  obtain ⟨p, _, q, s⟩ := sc_no h hz opFr_rf hr ⟨rfl, rfl, rfl, rfl⟩
  exact ⟨_, b1, hz, p, q, fun i hi => s.1 i (by omega)⟩
section ZNg
variable {D n gn f u : Nat} {G : Nat → Nat → Int32}
theorem n_strike99 (h : LI D 0 gn f u G) : ∃ G' : Nat → Nat → Int32, zden 72 0 [.ref 0, .int 99] [] (zSH, G) = some (some (.int (-11)), (zSH, G')) ∧ LI D 0 gn f u G' ∧ ∀ i, 90 ≤ i → G' i = G i := by
  obtain ⟨b1, w1, h1, _⟩ := sc_begin h
  have z : zden 3 0 [.ref 1, .int 99, .retAddr 0, .retAddr 0] [] (zSH, hcopy G (kb f) 2) = some (some (.int (-11)), (zSH, hcopy G (kb f) 2)) := by
    have e := findR_at h1.ho (Nat.le_refl 0)
    rw [h1.ho.2.2.1.2.2.2.2] at e
    rw [B_Cl_strikeOut_0, sc_rowOfCode w1 h1.ho.1 h1.i3, e, zaft_same]
    refine B_Cl_strikeOut_8.trans ?_
    rw [if_neg (by decide), if_neg (fun q => q rfl)]
  obtain ⟨G', a, b, c, d⟩ := x_neg h z (by decide)
  exact ⟨G', pub_strike a b c, d⟩
theorem n_heading99 (h : LI D n gn f u G) : ∃ G' : Nat → Nat → Int32, zden 70 0 [.ref 0, .int 99, .int 0, .int 0, .int 0, .int 0] [] (zSH, G) = some (some (.int (-12)), (zSH, G')) ∧ LI D n gn f u G' ∧ ∀ i, 90 ≤ i → G' i = G i := by
  obtain ⟨G', a, b, c, d⟩ := x_neg (tc := 1) (ac := [.ref 1, .int 99, .int 0, .int 0, .int 0, .int 0, .retAddr 0]) (r := -12) h (by rw [B_Cl_setUp_0, if_pos (by decide)]) (by decide)
  exact ⟨G', pub_heading a b c, d⟩
theorem n_good (h : LI D n gn f u G) : ∃ G' : Nat → Nat → Int32, zden 75 0 [.ref 0, .int 0, .int 1, .int 1, .int 50, .int 50, .int 1] [] (zSH, G) = some (some (.int (-12)), (zSH, G')) ∧ LI D n gn f u G' ∧ ∀ i, 90 ≤ i → G' i = G i := by
  obtain ⟨G', a, b, c, d⟩ := x_neg (tc := 4) (ac := [.ref 1, .int 0, .int 1, .int 1, .int 50, .int 50, .int 1, .retAddr 0, .retAddr 0]) (r := -12) h (by rw [B_Cl_takeIn_0, if_neg (by decide), if_neg (by decide), if_neg (by decide), if_neg (by decide), if_neg (by decide), if_neg (by decide), if_neg (by decide)]) (by decide)
  exact ⟨G', pub_good a b c, d⟩
theorem n_enter0 (h : LI D n 0 f u G) : ∃ G' : Nat → Nat → Int32, zden 86 0 [.ref 0, .int 0] [] (zSH, G) = some (some (.int (-11)), (zSH, G')) ∧ LI D n 0 f u G' ∧ ∀ i, 90 ≤ i → G' i = G i := by
  obtain ⟨b1, w1, h1, _⟩ := sc_begin h
  obtain ⟨G', a, b, c, d⟩ := x_neg (tc := 9) (ac := [.ref 1, .int 0, .retAddr 0, .retAddr 0, .retAddr 0]) (r := -11) h (by rw [B_Cl_letIn_0, if_neg (fun q => q (by rw [show hcopy G (kb f) 2 2 4 = nI 0 from h1.i4]; decide))]) (by decide)
  exact ⟨G', pub_enter a b c, d⟩
theorem n_favour5 (h : LI D n gn f u G) : ∃ G' : Nat → Nat → Int32, zden 84 0 [.ref 0, .int 5, .int 0] [] (zSH, G) = some (some (.int (-11)), (zSH, G')) ∧ LI D n gn f u G' ∧ ∀ i, 90 ≤ i → G' i = G i := by
  obtain ⟨G', a, b, c, d⟩ := x_neg (tc := 7) (ac := [.ref 1, .int 5, .int 0, .retAddr 0]) (r := -11) h (by rw [B_Cl_favourCountry_0, if_neg (by decide)]) (by decide)
  exact ⟨G', pub_favour a b c, d⟩
end ZNg
