-- 57: would
theorem read_would {x y : Int32} : ReadOK 89 [.ref 0, .int x, .int y] 150 [.ref 90, .int x, .int y] := by
  intro D G H w hr hw
  obtain ⟨gn, gl, i4, v2, hg⟩ := hr.goods
  by_cases hx : ∃ g : Nat, g < gn ∧ x = nI g
  · obtain ⟨g, g1, rfl⟩ := hx
    have n1 : ¬ bI (0 ≤ nI g ∧ nI g < G 2 4) = 0 := bIn.mpr (by rw [i4]; exact (good_iff gl).mpr ⟨g, g1, rfl⟩)
    have n2 : ¬ bI (0 ≤ nI g ∧ nI g ≤ H 91 2 - 1) = 0 := bIn.mpr (by rw [v2]; exact (good_iff2 gl).mpr ⟨g, g1, rfl⟩)
    by_cases hy : (0 : Int32) ≤ y ∧ y ≤ 4
    · obtain ⟨c, _, c2, rfl⟩ := nI_btw (A := 0) (B := 4) (by decide) (by decide) (by decide) (by decide) hy
      obtain ⟨d, _, u1, u2⟩ := duty_same w hr i4 gl g1 (hg g g1) (show c < 5 by omega)
      refine ⟨nI d, ?_, ?_⟩
      · rw [B_T_would_0, if_neg n1, if_pos (bIn.mpr hy), u1, zaft_same]
        exact B_T_would_30
      · rw [B_M_would_0, if_neg n2, if_neg (bIn.mpr hy), u2, zaft_same]
        exact B_M_would_21
    · refine ⟨-11, ?_, ?_⟩
      · rw [B_T_would_0, if_neg n1, if_neg (fun q => hy (bIn.mp q))]
      · rw [B_M_would_0, if_neg n2, if_pos (bIz.mpr hy)]
  · have n1 : ¬ (0 ≤ x ∧ x < G 2 4) := by rw [i4, good_iff gl]; exact hx
    have n2 : ¬ (0 ≤ x ∧ x ≤ H 91 2 - 1) := by rw [v2, good_iff2 gl]; exact hx
    refine ⟨-11, ?_, ?_⟩
    · rw [B_T_would_0, if_pos (bIz.mpr n1)]
    · rw [B_M_would_0, if_pos (bIz.mpr n2)]
