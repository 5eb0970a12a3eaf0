-- 19: the law up to its loop
theorem zck18_to {G G' : Nat → Nat → Int32} (h : zck18 G = true) (ha : ∀ r, r < 102 → G' r = G r) : zck18 G' = true := by
  unfold zck18 at h ⊢
  refine List.all_eq_true.mpr (fun i hi => ?_)
  have h1 := List.all_eq_true.mp h i hi
  have hi : i < 102 := List.mem_range.mp hi
  rw [ha i hi]
  exact h1
theorem zinit_get : ∃ (G1 G2 : Nat → Nat → Int32), zrunC 3000 k_T_new 0 (zpad 1 [.ref 0]) [] ([.inl (7, List.replicate 6 none)], fun _ _ => 0) = some (none, (zSH.take 90, G1)) ∧
    zrunC 3000 k_M_new 0 (zpad 1 [.ref 90]) [] (zSH.take 90 ++ [.inl (8, List.replicate 22 none)], zrow G1 90 (fun _ => 0)) = some (none, (zSH, G2)) ∧ zck18 G2 = true := by
  have h := zinit_ok
  unfold zinit at h
  split at h
  case h_2 => cases h
  case h_1 sh G hq =>
  simp only [Bool.and_eq_true, decide_eq_true_eq] at h
  obtain ⟨h1, h2⟩ := h
  split at hq
  · rename_i sh1 G1 e1
    split at hq
    · rename_i sh2 G2 e2
      split at hq
      · rename_i e3
        cases hq
        subst h1
        subst e3
        exact ⟨G1, G, e1, e2, h2⟩
      · cases hq
    · cases hq
  · cases hq
theorem hm_L_law : zms[k_L_law]? = some m_L_law := rfl
theorem zSH_len : zSH.length = 102 := rfl
theorem fl_0 : zlk c_L_law 0 = some (.new 7, 3) := by decide +kernel
theorem fl_3 : zlk c_L_law 3 = some (.dup, 1) := by decide +kernel
theorem fl_4 : zlk c_L_law 4 = some (.invokespecial 9, 3) := by decide +kernel
theorem fl_7 : zlk c_L_law 7 = some (.astore_n 1, 1) := by decide +kernel
theorem fl_8 : zlk c_L_law 8 = some (.new 10, 3) := by decide +kernel
theorem fl_11 : zlk c_L_law 11 = some (.dup, 1) := by decide +kernel
theorem fl_12 : zlk c_L_law 12 = some (.invokespecial 12, 3) := by decide +kernel
theorem fl_15 : zlk c_L_law 15 = some (.astore_n 2, 1) := by decide +kernel
theorem fl_16 : zlk c_L_law 16 = some (.iconst 0, 1) := by decide +kernel
theorem fl_17 : zlk c_L_law 17 = some (.istore_n 3, 1) := by decide +kernel
theorem fc_4 : zcall m_L_law (.invokespecial 9) = some (2, k_T_new) := by decide +kernel
theorem fc_12 : zcall m_L_law (.invokespecial 12) = some (2, k_M_new) := by decide +kernel
theorem fn_7 : (zlk zCC (m_L_law.1 * 65536 + 7)).map (fun q => q.1) = some 7 := by decide +kernel
theorem fn_10 : (zlk zCC (m_L_law.1 * 65536 + 10)).map (fun q => q.1) = some 8 := by decide +kernel
theorem zst_new {M : zMt} {idx ci pc : Nat} {lst st : List Value} {h h' : zH} (hq : (zlk zCC (M.1 * 65536 + idx)).map (fun q => q.1) = some ci) (hn : znw h lst st (.inl (ci, List.replicate (zNf ci) none)) = some h') : zst M (.new idx) 3 pc lst st h = some (pc + 3, lst, .ref h.1.length :: st, h') := by
  cases hz : zlk zCC (M.1 * 65536 + idx) with
  | none => rw [hz] at hq; cases hq
  | some q =>
    rw [hz] at hq
    have hq : q.1 = ci := Option.some.inj hq
    subst hq
    unfold zst
    simp only [hz, hn]
theorem zaft_grd {k pc : Nat} {lst rest : List Value} {h h' : zH} {v : Option Value} (hg : zgrd h h' lst rest = true) : zaft k pc lst rest h (some (v, h')) = zden k pc lst (v.toList ++ rest) h' := by
  unfold zaft
  simp only [hg, if_true]
theorem zSH_91 : (zSH.take 90 ++ [(.inl (8, List.replicate 22 none) : zS)]).length = 91 := by decide +kernel
theorem zSH_90 : (zSH.take 90).length = 90 := by decide +kernel
theorem hT_T_new : zms[k_T_new]? = some m_T_new := rfl
theorem hT_M_new : zms[k_M_new]? = some m_M_new := rfl
theorem zlaw0 (G : Nat → Nat → Int32) : ∃ G' : Nat → Nat → Int32, zden k_L_law 0 (zpad 8 [.ref 2000000]) [] ([], G) = zden k_L_law 18 [.ref 2000000, .ref 0, .ref 90, .int 0, .retAddr 0, .retAddr 0, .retAddr 0, .retAddr 0] [] (zSH, G') ∧ zck18 G' = true ∧ ∀ r, 1000000 ≤ r → G' r = G r := by
  obtain ⟨G1, G2, e1, e2, e3⟩ := zinit_get
  -- the first object
  have r1 : zden k_L_law 0 (zpad 8 [.ref 2000000]) [] ([], G) = zden k_L_law 3 (zpad 8 [.ref 2000000]) [.ref 0] ([.inl (7, List.replicate 6 none)], zrow G 0 (fun _ => 0)) := by
    rw [zd_st hm_L_law fl_0 rfl rfl, zst_new fn_7 (h' := ([.inl (7, List.replicate 6 none)], zrow G 0 (fun _ => 0))) rfl]
    rfl
  have r2 : zden k_L_law 3 (zpad 8 [.ref 2000000]) [.ref 0] ([.inl (7, List.replicate 6 none)], zrow G 0 (fun _ => 0)) = zden k_L_law 4 (zpad 8 [.ref 2000000]) [.ref 0, .ref 0] ([.inl (7, List.replicate 6 none)], zrow G 0 (fun _ => 0)) := by
    rw [zd_st hm_L_law fl_3 rfl rfl]; rfl
  obtain ⟨Ga, ga1, ga2⟩ := zrunC_g (G := zrow G 0 (fun _ => 0)) e1 (fun r hr => by
    have : r = 0 := by simp at hr; omega
    subst this; rfl)
  have r3 : zden k_L_law 4 (zpad 8 [.ref 2000000]) [.ref 0, .ref 0] ([.inl (7, List.replicate 6 none)], zrow G 0 (fun _ => 0)) = zden k_L_law 7 (zpad 8 [.ref 2000000]) [.ref 0] (zSH.take 90, Ga) := by
    rw [zd_call (as := [.ref 0]) (rest := [.ref 0]) hm_L_law fl_4 fc_4 hT_T_new rfl rfl rfl]
    rw [show zden k_T_new 0 (zpad m_T_new.2.2.2.1 [.ref 0]) [] ([.inl (7, List.replicate 6 none)], zrow G 0 (fun _ => 0)) = some (none, (zSH.take 90, Ga)) from zden_iff.mpr ⟨3000, ga1⟩]
    rw [zaft_grd (by
      unfold zgrd
      rw [Bool.or_eq_true]
      refine Or.inr ?_
      show (List.all _ (zfr 1 (zSH.take 90).length) && List.all _ (zfr 1 (zSH.take 90).length)) = true
      rw [zSH_90]
      rfl)]
    rfl
  have r4 : zden k_L_law 7 (zpad 8 [.ref 2000000]) [.ref 0] (zSH.take 90, Ga) = zden k_L_law 8 (zpad 8 [.ref 2000000, .ref 0]) [] (zSH.take 90, Ga) := by
    rw [zd_st hm_L_law fl_7 rfl rfl]; rfl
  have r5 : zden k_L_law 8 (zpad 8 [.ref 2000000, .ref 0]) [] (zSH.take 90, Ga) = zden k_L_law 11 (zpad 8 [.ref 2000000, .ref 0]) [.ref 90] (zSH.take 90 ++ [.inl (8, List.replicate 22 none)], zrow Ga 90 (fun _ => 0)) := by
    rw [zd_st hm_L_law fl_8 rfl rfl, zst_new fn_10 (h' := (zSH.take 90 ++ [.inl (8, List.replicate 22 none)], zrow Ga 90 (fun _ => 0))) (by
      unfold znw
      show (if (zSH.take 90).length < 900000 ∧ _ ∧ _ ∧ _ then _ else none) = _
      rw [if_pos ⟨by rw [zSH_90]; decide, by rw [zSH_90]; rfl, by rfl, by show (zSH.take 90).all (zneS (zSH.take 90).length) = true; rw [zSH_90]; decide +kernel⟩]
      rw [zSH_90]
      rfl)]
    show zden k_L_law 11 _ [.ref (zSH.take 90).length] _ = _
    rw [zSH_90]
  have r6 : zden k_L_law 11 (zpad 8 [.ref 2000000, .ref 0]) [.ref 90] (zSH.take 90 ++ [.inl (8, List.replicate 22 none)], zrow Ga 90 (fun _ => 0)) = zden k_L_law 12 (zpad 8 [.ref 2000000, .ref 0]) [.ref 90, .ref 90] (zSH.take 90 ++ [.inl (8, List.replicate 22 none)], zrow Ga 90 (fun _ => 0)) := by
    rw [zd_st hm_L_law fl_11 rfl rfl]; rfl
  obtain ⟨Gb, gb1, gb2⟩ := zrunC_g (G := zrow Ga 90 (fun _ => 0)) e2 (fun r hr => by
    unfold zrow
    by_cases h90 : r = 90
    · rw [if_pos h90, if_pos h90]
    · rw [if_neg h90, if_neg h90]
      refine ga2 r ?_
      rw [zSH_91] at hr
      rw [zSH_90]
      omega)
  have r7 : zden k_L_law 12 (zpad 8 [.ref 2000000, .ref 0]) [.ref 90, .ref 90] (zSH.take 90 ++ [.inl (8, List.replicate 22 none)], zrow Ga 90 (fun _ => 0)) = zden k_L_law 15 (zpad 8 [.ref 2000000, .ref 0]) [.ref 90] (zSH, Gb) := by
    rw [zd_call (as := [.ref 90]) (rest := [.ref 90]) hm_L_law fl_12 fc_12 hT_M_new rfl rfl (by rfl)]
    rw [show zden k_M_new 0 (zpad m_M_new.2.2.2.1 [.ref 90]) [] (zSH.take 90 ++ [.inl (8, List.replicate 22 none)], zrow Ga 90 (fun _ => 0)) = some (none, (zSH, Gb)) from zden_iff.mpr ⟨3000, gb1⟩]
    rw [zaft_grd (by
      unfold zgrd
      rw [Bool.or_eq_true]
      refine Or.inr ?_
      show (List.all _ (zfr (zSH.take 90 ++ [(.inl (8, List.replicate 22 none) : zS)]).length zSH.length) && List.all _ (zfr (zSH.take 90 ++ [(.inl (8, List.replicate 22 none) : zS)]).length zSH.length)) = true
      rw [zSH_91, zSH_len]
      rfl)]
    rfl
  have r8 : zden k_L_law 15 (zpad 8 [.ref 2000000, .ref 0]) [.ref 90] (zSH, Gb) = zden k_L_law 16 (zpad 8 [.ref 2000000, .ref 0, .ref 90]) [] (zSH, Gb) := by
    rw [zd_st hm_L_law fl_15 rfl rfl]; rfl
  have r9 : zden k_L_law 16 (zpad 8 [.ref 2000000, .ref 0, .ref 90]) [] (zSH, Gb) = zden k_L_law 17 (zpad 8 [.ref 2000000, .ref 0, .ref 90]) [.int 0] (zSH, Gb) := by
    rw [zd_st hm_L_law fl_16 rfl rfl]; rfl
  have r10 : zden k_L_law 17 (zpad 8 [.ref 2000000, .ref 0, .ref 90]) [.int 0] (zSH, Gb) = zden k_L_law 18 [.ref 2000000, .ref 0, .ref 90, .int 0, .retAddr 0, .retAddr 0, .retAddr 0, .retAddr 0] [] (zSH, Gb) := by
    rw [zd_st hm_L_law fl_17 rfl rfl]; rfl
  refine ⟨Gb, r1.trans (r2.trans (r3.trans (r4.trans (r5.trans (r6.trans (r7.trans (r8.trans (r9.trans r10)))))))), zck18_to e3 (fun r hr => gb2 r (by rw [zSH_len]; exact hr)), fun r hr => ?_⟩
  have k1 := (zrun_le gb1).2.2 (Nat.le_trans (Nat.le_of_eq zSH_91) (by decide))
  have k2 := (zrun_le ga1).2.2 (show 1 ≤ 900000 by decide)
  have q1 : Gb r = zrow Ga 90 (fun _ => 0) r := k1.2 r hr
  have q2 : Ga r = zrow G 0 (fun _ => 0) r := k2.2 r hr
  rw [q1, zrow_other (by omega), q2]
  exact zrow_other (by omega)
