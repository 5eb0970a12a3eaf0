-- 65: cheapest
theorem cheap_loop {G H : Nat → Nat → Int32} {g : Nat} {F : Nat → Nat} (hF : ∀ c, c < 5 → F c ≤ 1980 ∧ zden 29 0 [.ref 2, .int (nI g), .int (nI c), .retAddr 0, .retAddr 0, .retAddr 0, .retAddr 0] [] (zSH, G) = some (some (.int (nI (F c))), (zSH, G)) ∧
      zden 134 0 [.ref 90, .int (nI g), .int (nI c), .retAddr 0, .retAddr 0, .retAddr 0, .retAddr 0] [] (zSH, H) = some (some (.int (nI (F c))), (zSH, H))) : ∀ (d i b : Nat) (v5 : Value), i + d = 5 → b < 5 →
    ∃ r : Int32, zden 90 29 [.ref 0, .int (nI g), .int (nI b), .int (nI (F b)), .int (nI i), v5] [] (zSH, G) = some (some (.int r), (zSH, G)) ∧ zden 151 15 [.ref 90, .int (nI g), .int (nI b), .int (nI i)] [] (zSH, H) = some (some (.int r), (zSH, H)) := by
  intro d
  induction d with
  | zero =>
    intro i b v5 h hb
    have h : i = 5 := by omega
    subst h
    have h5 : (5 : Int32) ≤ nI 5 := by decide
    exact ⟨nI b, by rw [B_T_cheapest_29, if_pos h5], by rw [B_M_cheapest_15, if_pos h5]⟩
  | succ d ih =>
    intro i b v5 h hb
    have hn : ¬ (5 : Int32) ≤ nI i := by rw [nIlit_5]; exact nI_ge (by omega) (by decide)
    obtain ⟨l1, p1, p2⟩ := hF i (by omega)
    obtain ⟨l2, p3, p4⟩ := hF b hb
    have hc : zden 90 29 [.ref 0, .int (nI g), .int (nI b), .int (nI (F b)), .int (nI i), v5] [] (zSH, G) = zden 90 45 [.ref 0, .int (nI g), .int (nI b), .int (nI (F b)), .int (nI i), v5] [.int (nI (F i))] (zSH, G) := by
      rw [B_T_cheapest_29, if_neg hn, p1, zaft_same]; rfl
    have hm : zden 151 15 [.ref 90, .int (nI g), .int (nI b), .int (nI i)] [] (zSH, H) = zden 151 32 [.ref 90, .int (nI g), .int (nI b), .int (nI i)] [.int (nI (F b)), .int (nI (F i))] (zSH, H) := by
      rw [B_M_cheapest_15, if_neg hn, p2, zaft_same]
      refine Eq.trans B_M_cheapest_26 ?_
      rw [p4, zaft_same]; rfl
    by_cases e : F b ≤ F i
    · obtain ⟨r, r1, r2⟩ := ih (i + 1) b (.int (nI (F i))) (by omega) hb
      refine ⟨r, ?_, ?_⟩
      · rw [hc, B_T_cheapest_45, if_pos (nI_le e (by omega)), B_T_cheapest_59, nI_1]; exact r1
      · rw [hm, B_M_cheapest_32, if_pos (nI_le e (by omega)), B_M_cheapest_40, nI_1]; exact r2
    · obtain ⟨r, r1, r2⟩ := ih (i + 1) i (.int (nI (F i))) (by omega) (by omega)
      refine ⟨r, ?_, ?_⟩
      · rw [hc, B_T_cheapest_45, if_neg (nI_ge (by omega) (by omega)), B_T_cheapest_59, nI_1]; exact r1
      · rw [hm, B_M_cheapest_32, if_neg (nI_ge (by omega) (by omega)), B_M_cheapest_40, nI_1]; exact r2
theorem read_cheapest {x : Int32} : ReadOK 90 [.ref 0, .int x, .retAddr 0, .retAddr 0, .retAddr 0, .retAddr 0] 151 [.ref 90, .int x, .retAddr 0, .retAddr 0] := by
  intro D G H w hr hw
  obtain ⟨gn, gl, i4, v2, hg⟩ := hr.goods
  by_cases hx : ∃ g : Nat, g < gn ∧ x = nI g
  · obtain ⟨g, g1, rfl⟩ := hx
    have n1 : ¬ bI (0 ≤ nI g ∧ nI g < G 2 4) = 0 := bIn.mpr (by rw [i4]; exact (good_iff gl).mpr ⟨g, g1, rfl⟩)
    have n2 : ¬ bI (0 ≤ nI g ∧ nI g ≤ H 91 2 - 1) = 0 := bIn.mpr (by rw [v2]; exact (good_iff2 gl).mpr ⟨g, g1, rfl⟩)
    have hq := hg g g1
    have ex : ∀ c, ∃ f : Nat, c < 5 → f ≤ 1980 ∧ zden 29 0 [.ref 2, .int (nI g), .int (nI c), .retAddr 0, .retAddr 0, .retAddr 0, .retAddr 0] [] (zSH, G) = some (some (.int (nI f)), (zSH, G)) ∧
      zden 134 0 [.ref 90, .int (nI g), .int (nI c), .retAddr 0, .retAddr 0, .retAddr 0, .retAddr 0] [] (zSH, H) = some (some (.int (nI f)), (zSH, H)) := fun c => by
      by_cases hc : c < 5
      · obtain ⟨d, d1, d2, d3⟩ := duty_same w hr i4 gl g1 hq hc
        exact ⟨d, fun _ => ⟨d1, d2, d3⟩⟩
      · exact ⟨0, fun q => absurd q hc⟩
    obtain ⟨F, hF⟩ := Classical.axiomOfChoice ex
    obtain ⟨r, r1, r2⟩ := cheap_loop (F := F) hF 4 1 0 (.retAddr 0) rfl (by decide)
    refine ⟨r, ?_, ?_⟩
    · rw [B_T_cheapest_0, if_pos n1]
      rw [show zden 29 0 [.ref 2, .int (nI g), .int 0, .retAddr 0, .retAddr 0, .retAddr 0, .retAddr 0] [] (zSH, G) = _ from (hF 0 (by decide)).2.1, zaft_same]
      refine Eq.trans B_T_cheapest_25 ?_
      exact r1
    · rw [B_M_cheapest_0, if_pos n2]
      exact r2
  · have n1 : ¬ (0 ≤ x ∧ x < G 2 4) := by rw [i4, good_iff gl]; exact hx
    have n2 : ¬ (0 ≤ x ∧ x ≤ H 91 2 - 1) := by rw [v2, good_iff2 gl]; exact hx
    refine ⟨-11, ?_, ?_⟩
    · rw [B_T_cheapest_0, if_neg (fun q => q (bIz.mpr n1))]
    · rw [B_M_cheapest_0, if_neg (fun q => q (bIz.mpr n2))]
