-- 53: the snapshot
def zSaved (D : Nat) (G H : Nat → Nat → Int32) : Prop := (G 9 2 = 0 ∧ H 90 4 = 0) ∨ (G 9 2 = 1 ∧ H 90 4 = 1 ∧ HRat D G 11 (H 93))
def saFr (G G' H H' : Nat → Nat → Int32) : Prop := (∀ i, i = 0 ∨ i = 1 ∨ i = 3 ∨ i = 5 ∨ i = 7 ∨ 81 ≤ i → G' i = G i) ∧ (∀ i, i ≠ 90 → i ≠ 91 → i ≠ 93 → H' i = H i) ∧ (∀ j, 5 ≤ j → H' 90 j = H 90 j)
theorem zHist_same {D f u : Nat} {G G' H H' : Nat → Nat → Int32} (h : zHist D G H f u) (g3 : G' 9 3 = G 9 3) (g4 : G' 9 4 = G 9 4) (hg : ∀ i, 18 ≤ i → i < 81 → G' i = G i) (h1 : H' 90 1 = H 90 1) (h94 : H' 94 = H 94) : zHist D G' H' f u := by
  obtain ⟨a1, a2, a3, a4, a5, a6⟩ := h
  refine ⟨a1, a2, g3.trans a3, g4.trans a4, h1.trans a5, fun t ht => ?_⟩
  refine HRat_same (a6 t ht) (hg _ (by unfold kb; omega) (by unfold kb; omega)) (hg _ (by unfold kb; omega) (by unfold kb; omega)) (hg _ (by unfold kb; omega) (by unfold kb; omega)) (hg _ (by unfold kb; omega) (by unfold kb; omega)) (fun j hj => ?_)
  rw [h94]
theorem call_save {D f u : Nat} {G H : Nat → Nat → Int32} (hr : HRat D G 2 (H 91)) (hh : zHist D G H f u) (hw : zWhy G H) :
    ∃ (r : Int32) (G' H' : Nat → Nat → Int32), zden 103 0 [.ref 0] [] (zSH, G) = some (some (.int r), (zSH, G')) ∧ zden 181 0 [.ref 90] [] (zSH, H) = some (some (.int r), (zSH, H')) ∧ HRat D G' 2 (H' 91) ∧ zHist D G' H' f u ∧ zWhy G' H' ∧ zSaved D G' H' ∧ saFr G G' H H' := by
  obtain ⟨H1, b1, b2, b3⟩ := sm_lays sh_93 sh_91 (by decide) H
  have co : ∀ i, i ≠ 11 → i ≠ 13 → i ≠ 15 → i ≠ 17 → hcopy G 11 2 i = G i := fun i a b c d => hcopy_o a b c d
  have c9 : hcopy G 11 2 9 = G 9 := co 9 (by decide) (by decide) (by decide) (by decide)
  refine ⟨G 2 5, zup (hcopy G 11 2) 9 2 1, zup H1 90 4 1, ?_, ?_, ?_, ?_, ?_, .inr ⟨zup_rr, zup_rr, ?_⟩, fun i hi => by rw [zup_ro (by omega), co i (by omega) (by omega) (by omega) (by omega)], fun i h1 h2 h3 => by rw [zup_ro h1, b3 i h3], fun j hj => by rw [zup_rk (by omega), b3 90 (by decide)]⟩
  · rw [B_T_save_0, C_Hi_saveFrom_0, zaft_same]
    refine Eq.trans B_T_save_11 ?_
    rw [zup_ro (by decide), co 2 (by decide) (by decide) (by decide) (by decide)]
  · rw [B_M_save_0, b1, zaft_same]
    refine Eq.trans B_M_save_11 ?_
    rw [zup_ro (by decide), b3 91 (by decide), ← show G 2 5 = H 91 0 from hr.e.1]
  · rw [zup_ro (show 91 ≠ 90 by decide), b3 91 (by decide)]
    exact HRat_same hr (by rw [zup_ro (by decide), co _ (by decide) (by decide) (by decide) (by decide)]) (by rw [zup_ro (by decide), co _ (by decide) (by decide) (by decide) (by decide)]) (by rw [zup_ro (by decide), co _ (by decide) (by decide) (by decide) (by decide)]) (by rw [zup_ro (by decide), co _ (by decide) (by decide) (by decide) (by decide)]) (fun _ _ => rfl)
  · exact zHist_same hh (by rw [zup_rk (by decide), c9]) (by rw [zup_rk (by decide), c9]) (fun i h1 h2 => by rw [zup_ro (by omega), co i (by omega) (by omega) (by omega) (by omega)]) (by rw [zup_rk (by decide), b3 90 (by decide)]) (by rw [zup_ro (by decide), b3 94 (by decide)])
  · unfold zWhy
    rw [zup_rk (by decide), zup_rk (by decide), b3 90 (by decide), zup_ro (by decide), co 1 (by decide) (by decide) (by decide) (by decide)]
    exact hw
  · have h := HRat_copy (G := G) (a := 11) (b := 2) (v' := H1 93) (by unfold zApart; omega) hr b2
    rw [zup_ro (show 93 ≠ 90 by decide)]
    exact HRat_same h (zup_ro (by decide)) (zup_ro (by decide)) (zup_ro (by decide)) (zup_ro (by decide)) (fun _ _ => rfl)
