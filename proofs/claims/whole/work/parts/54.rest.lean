-- 54: restore
theorem znr_b0 : znr .boolean 0 = true := by decide
theorem znr_b1 : znr .boolean 1 = true := by decide
theorem zSaved_same {D : Nat} {G G' H H' : Nat → Nat → Int32} (h : zSaved D G H) (g2 : G' 9 2 = G 9 2) (hg : ∀ i, 11 ≤ i → i < 18 → G' i = G i) (h4 : H' 90 4 = H 90 4) (h93 : H' 93 = H 93) : zSaved D G' H' := by
  rcases h with ⟨a, b⟩ | ⟨a, b, c⟩
  · exact .inl ⟨g2.trans a, h4.trans b⟩
  · refine .inr ⟨g2.trans a, h4.trans b, ?_⟩
    rw [h93]
    exact HRat_same c (hg _ (by decide) (by decide)) (hg _ (by decide) (by decide)) (hg _ (by decide) (by decide)) (hg _ (by decide) (by decide)) (fun _ _ => rfl)
theorem call_restore {D f u : Nat} {G H : Nat → Nat → Int32} (hr : HRat D G 2 (H 91)) (hh : zHist D G H f u) (hw : zWhy G H) (hs : zSaved D G H) :
    ∃ (r : Int32) (G' H' : Nat → Nat → Int32) (u' : Nat), zden 104 0 [.ref 0] [] (zSH, G) = some (some (.int r), (zSH, G')) ∧ zden 182 0 [.ref 90] [] (zSH, H) = some (some (.int r), (zSH, H')) ∧ HRat D G' 2 (H' 91) ∧ zHist D G' H' f u' ∧ zWhy G' H' ∧ zSaved D G' H' ∧ saFr G G' H H' := by
  have hs' := hs
  rcases hs with ⟨s1, s2⟩ | ⟨s1, s2, s3⟩
  · refine ⟨-15, G, H, u, ?_, ?_, hr, hh, hw, hs', fun _ _ => rfl, fun _ _ _ _ => rfl, fun _ _ => rfl⟩
    · rw [B_T_restore_0, C_Hi_restoreTo_0, if_pos s1, C_Hi_restoreTo_20 (by rw [s1]; exact znr_b0), zaft_same, s1]
      exact B_T_restore_11.trans (if_pos rfl)
    · rw [B_M_restore_0, if_neg (fun q => q s2)]
  · obtain ⟨H1, b1, b2, b3⟩ := sm_lays sh_91 sh_93 (by decide) H
    have co : ∀ i, i ≠ 2 → i ≠ 4 → i ≠ 6 → i ≠ 8 → hcopy G 2 11 i = G i := fun i a b c d => hcopy_o a b c d
    have c9 : hcopy G 2 11 9 = G 9 := co 9 (by decide) (by decide) (by decide) (by decide)
    have h2 := HRat_copy (G := G) (a := 2) (b := 11) (v' := H1 91) (by unfold zApart; omega) s3 b2
    have hr' : HRat D (zup (hcopy G 2 11) 9 4 0) 2 (H1 91) := HRat_same h2 (zup_ro (by decide)) (zup_ro (by decide)) (zup_ro (by decide)) (zup_ro (by decide)) (fun _ _ => rfl)
    have f2 : zup (hcopy G 2 11) 9 4 0 9 2 = 1 := by rw [zup_rk (by decide), c9]; exact s1
    refine ⟨H1 91 0, zup (hcopy G 2 11) 9 4 0, zup H1 90 1 0, 0, ?_, ?_, ?_, ?_, ?_, ?_, fun i hi => by rw [zup_ro (by omega), co i (by omega) (by omega) (by omega) (by omega)], fun i h1 h2 h3 => by rw [zup_ro h1, b3 i h2], fun j hj => by rw [zup_rk (by omega), b3 90 (by decide)]⟩
    · rw [B_T_restore_0, C_Hi_restoreTo_0, if_neg (by rw [s1]; decide), C_Hi_restoreTo_20 (by rw [f2]; exact znr_b1), zaft_same, f2]
      refine B_T_restore_11.trans ((if_neg (by decide)).trans ?_)
      rw [show zup (hcopy G 2 11) 9 4 0 2 5 = H1 91 0 from hr'.e.1]
    · rw [B_M_restore_0, if_pos (by rw [s2]; decide), b1, zaft_same]
      refine Eq.trans B_M_restore_21 ?_
      rw [zup_ro (by decide)]
    · rw [zup_ro (show 91 ≠ 90 by decide)]; exact hr'
    · obtain ⟨a1, a2, a3, a4, a5, a6⟩ := hh
      exact ⟨a1, by omega, by rw [zup_rk (by decide), c9]; exact a3, zup_rr, zup_rr, fun t ht => by omega⟩
    · unfold zWhy
      rw [zup_rk (by decide), zup_rk (by decide), b3 90 (by decide), zup_ro (by decide), co 1 (by decide) (by decide) (by decide) (by decide)]
      exact hw
    · exact zSaved_same hs' (by rw [zup_rk (by decide), c9]) (fun i h1 h2 => by rw [zup_ro (by omega), co i (by omega) (by omega) (by omega) (by omega)]) (by rw [zup_rk (by decide), b3 90 (by decide)]) (by rw [zup_ro (by decide), b3 93 (by decide)])
