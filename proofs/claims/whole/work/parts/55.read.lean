-- 55: reading
def ReadOK (tc : Nat) (ac : List Value) (tm : Nat) (am : List Value) : Prop := ∀ (D : Nat) (G H : Nat → Nat → Int32), zWT G → HRat D G 2 (H 91) → zWhy G H →
  ∃ r : Int32, zden tc 0 ac [] (zSH, G) = some (some (.int r), (zSH, G)) ∧ zden tm 0 am [] (zSH, H) = some (some (.int r), (zSH, H))
theorem read_reason {x : Int32} : ReadOK 97 [.ref 0, .int x] 172 [.ref 90, .int x] := by
  intro D G H w hr hw
  refine ⟨if x = 0 then G 1 1 else G 1 2, ?_, ?_⟩
  · rw [B_T_reason_0]
    by_cases h : x = 0
    · rw [if_pos h, if_pos h]
    · rw [if_neg h, if_neg h]
  · rw [B_M_reason_0]
    rcases hw with ⟨a, b, c⟩ | ⟨a, b, c⟩
    · rw [if_neg (fun q => q a), b, c]
      by_cases h : x = 0
      · rw [if_pos h]
      · rw [if_neg h]
    · rw [if_pos a, b, c]
      by_cases h : x = 0
      · rw [if_pos h, if_pos h]
      · rw [if_neg h, if_neg h]
theorem read_part {x y : Int32} : ReadOK 79 [.ref 0, .int x, .int y] 135 [.ref 90, .int x, .int y] := by
  intro D G H w hr hw
  obtain ⟨gn, gl, i4, v2, hg⟩ := hr.goods
  by_cases hx : ∃ g : Nat, g < gn ∧ x = nI g
  · obtain ⟨g, g1, rfl⟩ := hx
    have n1 : ¬ bI (0 ≤ nI g ∧ nI g < G 2 4) = 0 := bIn.mpr (by rw [i4]; exact (good_iff gl).mpr ⟨g, g1, rfl⟩)
    have n2 : ¬ bI (0 ≤ nI g ∧ nI g ≤ H 91 2 - 1) = 0 := bIn.mpr (by rw [v2]; exact (good_iff2 gl).mpr ⟨g, g1, rfl⟩)
    by_cases hy : (0 : Int32) ≤ y ∧ y ≤ 3
    · obtain ⟨c, _, c2, rfl⟩ := nI_btw (A := 0) (B := 3) (by decide) (by decide) (by decide) (by decide) hy
      have k9 : (9 : Int32) + nI c = nI (9 + c) := by rw [nIlit_9, nI_add]
      have k3 : (3 : Int32) + nI c = nI (3 + c) := by rw [nIlit_3, nI_add]
      obtain ⟨_, _, _, _, _, _, _, _, _, a10, _⟩ := hg g g1
      refine ⟨H 91 (66 + 22 * g + c), ?_, ?_⟩
      · rw [B_T_part_0, if_neg n1, if_pos (bIn.mpr hy), gd_get w rfl k9 (by omega) (by omega), ← Nat.add_assoc, ← (a10 c (by omega)).1]
      · rw [B_M_part_0 (fun _ _ => mzin k3 (by omega) (by omega)), if_neg n2, if_neg (bIn.mpr hy), mcl2 (N := 66 + 22 * g + c) k3 (by omega) (by omega) (by omega)]
    · refine ⟨-11, ?_, ?_⟩
      · rw [B_T_part_0, if_neg n1, if_neg (fun q => hy (bIn.mp q))]
      · rw [B_M_part_0 (fun _ q => absurd (bIn.mp q) hy), if_neg n2, if_pos (bIz.mpr hy)]
  · have n1 : ¬ (0 ≤ x ∧ x < G 2 4) := by rw [i4, good_iff gl]; exact hx
    have n2 : ¬ (0 ≤ x ∧ x ≤ H 91 2 - 1) := by rw [v2, good_iff2 gl]; exact hx
    refine ⟨-11, ?_, ?_⟩
    · rw [B_T_part_0, if_pos (bIz.mpr n1)]
    · rw [B_M_part_0 (fun q => absurd (bIn.mp q) n2), if_pos (bIz.mpr n2)]
theorem read_points {x y : Int32} : ReadOK 80 [.ref 0, .int x, .int y] 136 [.ref 90, .int x, .int y] := by
  intro D G H w hr hw
  obtain ⟨gn, gl, i4, v2, hg⟩ := hr.goods
  by_cases hx : ∃ g : Nat, g < gn ∧ x = nI g
  · obtain ⟨g, g1, rfl⟩ := hx
    have n1 : ¬ bI (0 ≤ nI g ∧ nI g < G 2 4) = 0 := bIn.mpr (by rw [i4]; exact (good_iff gl).mpr ⟨g, g1, rfl⟩)
    have n2 : ¬ bI (0 ≤ nI g ∧ nI g ≤ H 91 2 - 1) = 0 := bIn.mpr (by rw [v2]; exact (good_iff2 gl).mpr ⟨g, g1, rfl⟩)
    by_cases hy : (0 : Int32) ≤ y ∧ y ≤ 4
    · obtain ⟨c, _, c2, rfl⟩ := nI_btw (A := 0) (B := 4) (by decide) (by decide) (by decide) (by decide) hy
      have k13 : (13 : Int32) + nI c = nI (13 + c) := by rw [nIlit_13, nI_add]
      have k12 : (12 : Int32) + nI c = nI (12 + c) := by rw [show (12 : Int32) = nI 12 by decide, nI_add]
      obtain ⟨_, _, _, _, _, _, _, _, _, _, a11, _⟩ := hg g g1
      refine ⟨H 91 (75 + 22 * g + c), ?_, ?_⟩
      · rw [B_T_points_0, if_neg n1, if_pos (bIn.mpr hy), gd_get w rfl k13 (by omega) (by omega), ← Nat.add_assoc, ← (a11 c (by omega)).1]
      · rw [B_M_points_0 (fun _ _ => mzin k12 (by omega) (by omega)), if_neg n2, if_neg (bIn.mpr hy), mcl2 (N := 75 + 22 * g + c) k12 (by omega) (by omega) (by omega)]
    · refine ⟨-11, ?_, ?_⟩
      · rw [B_T_points_0, if_neg n1, if_neg (fun q => hy (bIn.mp q))]
      · rw [B_M_points_0 (fun _ q => absurd (bIn.mp q) hy), if_neg n2, if_pos (bIz.mpr hy)]
  · have n1 : ¬ (0 ≤ x ∧ x < G 2 4) := by rw [i4, good_iff gl]; exact hx
    have n2 : ¬ (0 ≤ x ∧ x ≤ H 91 2 - 1) := by rw [v2, good_iff2 gl]; exact hx
    refine ⟨-11, ?_, ?_⟩
    · rw [B_T_points_0, if_pos (bIz.mpr n1)]
    · rw [B_M_points_0 (fun q => absurd (bIn.mp q) n2), if_pos (bIz.mpr n2)]
