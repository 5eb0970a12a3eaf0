-- 85: the start of the law, its run
theorem ck {G : Nat → Nat → Int32} (h : zck18 G = true) {i j : Nat} (hi : i < 102) (hj : j < zLn.getD i 0) : G i j = ((zlk zI i).getD []).getD j 0 := by
  unfold zck18 at h
  have h1 := List.all_eq_true.mp h i (List.mem_range.mpr hi)
  exact beq_iff_eq.mp (List.all_eq_true.mp h1 j (List.mem_range.mpr hj))
theorem cv {G : Nat → Nat → Int32} (h : zck18 G = true) (i j : Nat) {x : Int32} (hx : (Nat.blt i 102 && Nat.blt j (zLn.getD i 0) && decide (((zlk zI i).getD []).getD j 0 = x)) = true) : G i j = x := by
  simp only [Bool.and_eq_true, Nat.blt_eq, decide_eq_true_eq] at hx
  exact (ck h hx.1.1 hx.1.2).trans hx.2
theorem zI_nil : (zlk zI 6).getD [] = [] ∧ (zlk zI 8).getD [] = [] ∧ (zlk zI 91).getD [] = [] := by decide +kernel
theorem zI_98 : (zlk zI 98).getD [] = [115, 119, 99, 108, 42] := by decide +kernel
theorem zI_99 : (zlk zI 99).getD [] = [116, 99, 103, 42] := by decide +kernel
theorem zI_100 : (zlk zI 100).getD [] = [104, 101, 97, 100, 32, 115, 116, 114, 105, 107, 101, 32, 103, 111, 111, 100, 32, 119, 111, 114, 107, 32, 102, 97, 118, 111, 117, 114, 32, 99, 111, 105, 110, 115, 32, 101, 110, 116, 101, 114, 32, 101, 120, 112, 111, 114, 116, 32, 100, 97, 121, 32] := by decide +kernel
theorem zI_101 : (zlk zI 101).getD [] = [0, 5, 12, 17, 22, 29, 35, 41, 48, 52] := by decide +kernel
theorem zLn_at : zLn.getD 6 0 = 276 ∧ zLn.getD 8 0 = 5 ∧ zLn.getD 91 0 = 327 ∧ zLn.getD 98 0 = 5 ∧ zLn.getD 99 0 = 4 ∧ zLn.getD 100 0 = 52 ∧ zLn.getD 101 0 = 10 := by decide +kernel
theorem zRel_init {G : Nat → Nat → Int32} (h : zck18 G = true) : zRel 0 0 0 0 0 G G := by
  obtain ⟨l6, l8, l91, l98, l99, l100, l101⟩ := zLn_at
  have a6 : ∀ j, j < 276 → G 6 j = 0 := fun j hj => by rw [ck h (by decide) (by rw [l6]; exact hj), zI_nil.1]; rfl
  have a8 : ∀ j, j < 5 → G 8 j = 0 := fun j hj => by rw [ck h (by decide) (by rw [l8]; exact hj), zI_nil.2.1]; rfl
  have a91 : ∀ j, j < 327 → G 91 j = 0 := fun j hj => by rw [ck h (by decide) (by rw [l91]; exact hj), zI_nil.2.2]; rfl
  have z0 : ∀ {a : Nat}, zR5 0 a 0 := ⟨0, Nat.le_refl _, Nat.zero_le _, rfl⟩
  have i5 : G 2 5 = 0 := cv h 2 5 (by decide +kernel)
  have i6 : G 2 6 = 0 := cv h 2 6 (by decide +kernel)
  refine ⟨⟨⟨cv h 3 0 (by decide +kernel), cv h 3 1 (by decide +kernel), cv h 5 0 (by decide +kernel), cv h 5 1 (by decide +kernel), cv h 7 0 (by decide +kernel), cv h 7 1 (by decide +kernel)⟩, ⟨cv h 82 0 (by decide +kernel), cv h 82 1 (by decide +kernel)⟩, ⟨cv h 85 0 (by decide +kernel), cv h 85 1 (by decide +kernel)⟩, fun j hj => ?_, fun j hj => ?_, fun j hj => ?_, fun j hj => ?_⟩, ?_, ⟨by decide, by decide, cv h 9 3 (by decide +kernel), cv h 9 4 (by decide +kernel), cv h 90 1 (by decide +kernel), fun t ht => absurd ht (Nat.not_lt_zero t)⟩, .inl ⟨cv h 90 2 (by decide +kernel), cv h 1 1 (by decide +kernel), cv h 1 2 (by decide +kernel)⟩, .inl ⟨cv h 9 2 (by decide +kernel), cv h 90 4 (by decide +kernel)⟩, ⟨Nat.zero_le _, cv h 84 1 (by decide +kernel), cv h 90 16 (by decide +kernel), fun j hj => absurd hj (Nat.not_lt_zero j)⟩, ⟨Nat.zero_le _, cv h 88 1 (by decide +kernel), cv h 90 17 (by decide +kernel), fun j hj => absurd hj (Nat.not_lt_zero j)⟩⟩
  · rw [ck h (by decide) (by rw [l98]; exact hj), zI_98]
  · rw [ck h (by decide) (by rw [l99]; exact hj), zI_99]
  · rw [ck h (by decide) (by rw [l100]; exact hj), zI_100]
  · rw [ck h (by decide) (by rw [l101]; exact hj), zI_101]
  · refine ⟨0, 0, by omega, by omega, cv h 2 3 (by decide +kernel), a91 1 (by omega), cv h 2 4 (by decide +kernel), a91 2 (by omega), i5.trans (a91 0 (by omega)).symm, i6.trans (a91 3 (by omega)).symm, (cv h 2 7 (by decide +kernel)).trans (a91 4 (by omega)).symm, (cv h 2 8 (by decide +kernel)).trans (a91 5 (by omega)).symm, (cv h 2 9 (by decide +kernel)).trans (a91 6 (by omega)).symm, (cv h 2 10 (by decide +kernel)).trans (a91 7 (by omega)).symm, by rw [i5]; exact z0, by rw [i6]; exact z0, fun c hc => ⟨(a8 c hc).trans (a91 (8 + c) (by omega)).symm, ?_⟩, fun k hk => absurd hk (Nat.not_lt_zero k), fun k hk => absurd hk (by omega), ⟨cv h 4 0 (by decide +kernel), cv h 4 1 (by decide +kernel), cv h 4 2 (by decide +kernel), cv h 4 3 (by decide +kernel), cv h 4 4 (by decide +kernel)⟩, fun k hk => absurd hk (Nat.not_lt_zero k), fun g _ hg j hj => a6 (23 * g + j) (by omega)⟩
    show zR5 0 100 (G 8 c)
    rw [a8 c hc]
    exact z0
theorem law_run (hF : zFP) (G : Nat → Nat → Int32) {L : Nat} {xs : Nat → Int32} (hL : L ≤ 3584) (g1 : G 2000001 0 = nI L) (g0 : G 2000000 = xs) :
    ∃ n h', zrun n k_L_law 0 (zpad 8 [.ref 2000000]) [] ([], G) = some (some (.int 1), h') ∧ h'.1.length ≤ 600000 ∧ zsl h'.1 ≤ 7302250 := by
  obtain ⟨G', e, c, r⟩ := zlaw0 G
  obtain ⟨X', x⟩ := law_loop hF 3600 0 0 0 0 0 0 L xs G' (.retAddr 0) (.retAddr 0) (by omega) rfl (zRel_init c) (by rw [r 2000000 (by decide)]; exact g0) (by rw [r 2000001 (by decide)]; exact g1) hL
  have hd : zden k_L_law 0 (zpad 8 [.ref 2000000]) [] ([], G) = some (some (.int 1), (zSH, X')) := e.trans x
  obtain ⟨n, hn⟩ := zden_iff.mp hd
  exact ⟨n, (zSH, X'), hn, (by decide +kernel : zSH.length ≤ 600000), (by decide +kernel : zsl zSH ≤ 7302250)⟩
