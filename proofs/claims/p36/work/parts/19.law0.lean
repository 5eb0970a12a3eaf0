-- 19: the law up to its loop
theorem zck18_to {G G' : Nat → Nat → Int32} (h : zck18 G = true) (ha : ∀ r, r < 90 → G' r = G r) : zck18 G' = true := by
  unfold zck18 at h ⊢
  refine List.all_eq_true.mpr (fun i hi => ?_)
  have h1 := List.all_eq_true.mp h i hi
  have hi : i < 90 := List.mem_range.mp hi
  rw [ha i hi]
  exact h1
theorem zinit_get : ∃ (G1 : Nat → Nat → Int32), zrunC 3000 k_T_new 0 (zpad 1 [.ref 0]) [] ([.inl (7, List.replicate 6 none)], fun _ _ => 0) = some (none, (zSH, G1)) ∧ zck18 G1 = true := by
  have h := zinit_ok
  unfold zinit at h
  split at h
  case h_2 => cases h
  case h_1 sh G hq =>
  simp only [Bool.and_eq_true, decide_eq_true_eq] at h
  obtain ⟨h1, h2⟩ := h
  split at hq
  · rename_i sh1 G1 e1
    cases hq
    subst h1
    exact ⟨G, e1, h2⟩
  · cases hq
theorem hm_L_law : zms[k_L_law]? = some m_L_law := rfl
theorem zSH_len : zSH.length = 90 := rfl
theorem fl_0 : zlk c_L_law 0 = some (.new 18, 3) := by decide +kernel
theorem fl_3 : zlk c_L_law 3 = some (.dup, 1) := by decide +kernel
theorem fl_4 : zlk c_L_law 4 = some (.invokespecial 143, 3) := by decide +kernel
theorem fl_7 : zlk c_L_law 7 = some (.astore_n 1, 1) := by decide +kernel
theorem fl_8 : zlk c_L_law 8 = some (.iconst 0, 1) := by decide +kernel
theorem fl_9 : zlk c_L_law 9 = some (.istore_n 2, 1) := by decide +kernel
theorem fc_4 : zcall m_L_law (.invokespecial 143) = some (2, k_T_new) := by decide +kernel
theorem fn_7 : (zlk zCC (m_L_law.1 * 65536 + 18)).map (fun q => q.1) = some 7 := by decide +kernel
theorem zst_new {M : zMt} {idx ci pc : Nat} {lst st : List Value} {h h' : zH} (hq : (zlk zCC (M.1 * 65536 + idx)).map (fun q => q.1) = some ci) (hn : znw h lst st (.inl (ci, List.replicate (zNf ci) none)) = some h') : zst M (.new idx) 3 pc lst st h = some (pc + 3, lst, .ref h.1.length :: st, h') := by
  cases hz : zlk zCC (M.1 * 65536 + idx) with
  | none => rw [hz] at hq; cases hq
  | some q =>
    rw [hz] at hq
    have hq : q.1 = ci := Option.some.inj hq
    subst hq
    unfold zst
    simp only [hz, hn]
theorem zaft_grd {k pc : Nat} {lst rest : List Value} {h h' : zH} {v : Option Value} (hg : zgrd h h' lst rest = true) : zaft k pc lst rest h (some (v, h')) = zden k pc lst (v.toList ++ rest) h' := by
  unfold zaft
  simp only [hg, if_true]
theorem hT_T_new : zms[k_T_new]? = some m_T_new := rfl
theorem zlaw0 (G : Nat → Nat → Int32) : ∃ G' : Nat → Nat → Int32, zden k_L_law 0 (zpad 10 [.ref 2000000]) [] ([], G) = zden k_L_law 10 [.ref 2000000, .ref 0, .int 0, .retAddr 0, .retAddr 0, .retAddr 0, .retAddr 0, .retAddr 0, .retAddr 0, .retAddr 0] [] (zSH, G') ∧ zck18 G' = true ∧ zinv (zSH, G') ∧ ∀ r, 1000000 ≤ r → G' r = G r := by
  obtain ⟨G1, e1, e3⟩ := zinit_get
  have r1 : zden k_L_law 0 (zpad 10 [.ref 2000000]) [] ([], G) = zden k_L_law 3 (zpad 10 [.ref 2000000]) [.ref 0] ([.inl (7, List.replicate 6 none)], zrow G 0 (fun _ => 0)) := by
    rw [zd_st hm_L_law fl_0 rfl rfl, zst_new fn_7 (h' := ([.inl (7, List.replicate 6 none)], zrow G 0 (fun _ => 0))) rfl]
    rfl
  have r2 : zden k_L_law 3 (zpad 10 [.ref 2000000]) [.ref 0] ([.inl (7, List.replicate 6 none)], zrow G 0 (fun _ => 0)) = zden k_L_law 4 (zpad 10 [.ref 2000000]) [.ref 0, .ref 0] ([.inl (7, List.replicate 6 none)], zrow G 0 (fun _ => 0)) := by
    rw [zd_st hm_L_law fl_3 rfl rfl]; rfl
  obtain ⟨Ga, ga1, ga2⟩ := zrunC_g (G := zrow G 0 (fun _ => 0)) e1 (fun r hr => by
    have : r = 0 := by simp at hr; omega
    subst this; rfl)
  have r3 : zden k_L_law 4 (zpad 10 [.ref 2000000]) [.ref 0, .ref 0] ([.inl (7, List.replicate 6 none)], zrow G 0 (fun _ => 0)) = zden k_L_law 7 (zpad 10 [.ref 2000000]) [.ref 0] (zSH, Ga) := by
    rw [zd_call (as := [.ref 0]) (rest := [.ref 0]) hm_L_law fl_4 fc_4 hT_T_new rfl rfl rfl]
    rw [show zden k_T_new 0 (zpad m_T_new.2.2.2.1 [.ref 0]) [] ([.inl (7, List.replicate 6 none)], zrow G 0 (fun _ => 0)) = some (none, (zSH, Ga)) from zden_iff.mpr ⟨3000, ga1⟩]
    rw [zaft_grd (by
      unfold zgrd
      rw [Bool.or_eq_true]
      refine Or.inr ?_
      show (List.all _ (zfr 1 zSH.length) && List.all _ (zfr 1 zSH.length)) = true
      rw [zSH_len]
      rfl)]
    rfl
  have r4 : zden k_L_law 7 (zpad 10 [.ref 2000000]) [.ref 0] (zSH, Ga) = zden k_L_law 8 (zpad 10 [.ref 2000000, .ref 0]) [] (zSH, Ga) := by
    rw [zd_st hm_L_law fl_7 rfl rfl]; rfl
  have r5 : zden k_L_law 8 (zpad 10 [.ref 2000000, .ref 0]) [] (zSH, Ga) = zden k_L_law 9 (zpad 10 [.ref 2000000, .ref 0]) [.int 0] (zSH, Ga) := by
    rw [zd_st hm_L_law fl_8 rfl rfl]; rfl
  have r6 : zden k_L_law 9 (zpad 10 [.ref 2000000, .ref 0]) [.int 0] (zSH, Ga) = zden k_L_law 10 [.ref 2000000, .ref 0, .int 0, .retAddr 0, .retAddr 0, .retAddr 0, .retAddr 0, .retAddr 0, .retAddr 0, .retAddr 0] [] (zSH, Ga) := by
    rw [zd_st hm_L_law fl_9 rfl rfl]; rfl
  refine ⟨Ga, r1.trans (r2.trans (r3.trans (r4.trans (r5.trans r6)))), zck18_to e3 (fun r hr => ga2 r (by rw [zSH_len]; exact hr)), ?_, fun r hr => ?_⟩
  · refine zrun_inv (o := (none, (zSH, Ga))) (fun r s hr j hj => ?_) ga1
    have : r = 0 := by
      have := (List.getElem?_eq_some_iff.mp hr).1
      simp at this
      exact this
    subst this
    show zrow G 0 (fun _ => 0) 0 j = 0
    rw [zrow_same]
  have k2 := (zrun_le ga1).2.2 (show 1 ≤ 900000 by decide)
  exact (k2.2 r hr).trans (zrow_other (by omega))
