-- 72: blocks of the texts, on (written by wip/p36/gen72.py)
theorem hm_S1_charAt : zms[k_S1_charAt]? = some m_S1_charAt := rfl
theorem hm_St_charAt : zms[k_St_charAt]? = some m_St_charAt := rfl
theorem hm_St_checkIndex : zms[k_St_checkIndex]? = some m_St_checkIndex := rfl
theorem hm_St_indexOf : zms[k_St_indexOf]? = some m_St_indexOf := rfl
theorem hm_St_indexOf2 : zms[k_St_indexOf2]? = some m_St_indexOf2 := rfl
theorem hm_Te_countAlike : zms[k_Te_countAlike]? = some m_Te_countAlike := rfl
theorem hm_Te_formOf : zms[k_Te_formOf]? = some m_Te_formOf := rfl
theorem hm_Te_readLetter : zms[k_Te_readLetter]? = some m_Te_readLetter := rfl
theorem hm_Te_readNumber : zms[k_Te_readNumber]? = some m_Te_readNumber := rfl
theorem hm_Te_readOrder : zms[k_Te_readOrder]? = some m_Te_readOrder := rfl
theorem hm_Te_readWord : zms[k_Te_readWord]? = some m_Te_readWord := rfl
theorem hm_Te_wordOf : zms[k_Te_wordOf]? = some m_Te_wordOf := rfl
theorem a_St_checkIndex_0 : zAt 111 0 m_St_checkIndex (.iload_n 0) 1 := ⟨hm_St_checkIndex, by decide +kernel⟩
theorem a_St_checkIndex_1 : zAt 111 1 m_St_checkIndex (.iload_n 1) 1 := ⟨hm_St_checkIndex, by decide +kernel⟩
theorem a_St_checkIndex_2 : zAt 111 2 m_St_checkIndex (.getstatic 1053) 3 := ⟨hm_St_checkIndex, by decide +kernel⟩
theorem a_St_checkIndex_5 : zAt 111 5 m_St_checkIndex (.invokestatic 1059) 3 := ⟨hm_St_checkIndex, by decide +kernel⟩
theorem a_St_checkIndex_8 : zAt 111 8 m_St_checkIndex .pop 1 := ⟨hm_St_checkIndex, by decide +kernel⟩
theorem a_St_checkIndex_9 : zAt 111 9 m_St_checkIndex .return_ 1 := ⟨hm_St_checkIndex, by decide +kernel⟩
theorem zfm_cat {G : Nat → Nat → Int32} : zcat1 (zfm G) = true := by
  unfold zfm
  by_cases h : G 2000002 0 = 0
  · rw [if_pos h]; rfl
  · rw [if_neg h]; rfl
theorem zmay_chk {G : Nat → Nat → Int32} {x y : Int32} {h : zH} : zmay m_St_checkIndex m_Pr_checkIndex 1 [.int x, .int y, zfm G] [] h = true := by
  unfold zmay
  simp only [List.all_cons, List.all_nil, zfm_cat]
  rfl
theorem ss_checkIndex {G : Nat → Nat → Int32} {x y : Int32} (h0 : ¬ (x < 0)) (h1 : x < y) : zden 111 0 [.int x, .int y] [] (zSH, G) = some (none, (zSH, G)) :=
  (zd_iload_n a_St_checkIndex_0 rfl).trans ((zd_iload_n a_St_checkIndex_1 rfl).trans ((zd_gst1 (G := G) a_St_checkIndex_2 (by decide +kernel)).trans ((zd_cal (kd := 1) (tg := 118) (T := m_Pr_checkIndex) (as := [.int x, .int y, zfm G]) (rest := []) (pd := [.int x, .int y, zfm G]) a_St_checkIndex_5 (by decide +kernel) hm_Pr_checkIndex rfl rfl zmay_chk rfl).trans (((congrArg (zaft 111 8 [.int x, .int y] [] (zSH, G)) (B_Pr_checkIndex_0 h0 h1)).trans zaft_same).trans ((zd_num (st2 := []) a_St_checkIndex_8 rfl rfl rfl rfl).trans (zd_vret a_St_checkIndex_9 rfl))))))
theorem a_S1_charAt_0 : zAt 114 0 m_S1_charAt (.iload_n 1) 1 := ⟨hm_S1_charAt, by decide +kernel⟩
theorem a_S1_charAt_1 : zAt 114 1 m_S1_charAt (.aload_n 0) 1 := ⟨hm_S1_charAt, by decide +kernel⟩
theorem a_S1_charAt_2 : zAt 114 2 m_S1_charAt (.arraylength) 1 := ⟨hm_S1_charAt, by decide +kernel⟩
theorem a_S1_charAt_3 : zAt 114 3 m_S1_charAt (.invokestatic 9) 3 := ⟨hm_S1_charAt, by decide +kernel⟩
theorem a_S1_charAt_6 : zAt 114 6 m_S1_charAt (.aload_n 0) 1 := ⟨hm_S1_charAt, by decide +kernel⟩
theorem a_S1_charAt_7 : zAt 114 7 m_S1_charAt (.iload_n 1) 1 := ⟨hm_S1_charAt, by decide +kernel⟩
theorem a_S1_charAt_8 : zAt 114 8 m_S1_charAt (.baload) 1 := ⟨hm_S1_charAt, by decide +kernel⟩
theorem a_S1_charAt_9 : zAt 114 9 m_S1_charAt (.sipush 255) 3 := ⟨hm_S1_charAt, by decide +kernel⟩
theorem a_S1_charAt_12 : zAt 114 12 m_S1_charAt (.iand) 1 := ⟨hm_S1_charAt, by decide +kernel⟩
theorem a_S1_charAt_13 : zAt 114 13 m_S1_charAt (.i2c) 1 := ⟨hm_S1_charAt, by decide +kernel⟩
theorem a_S1_charAt_14 : zAt 114 14 m_S1_charAt (.ireturn) 1 := ⟨hm_S1_charAt, by decide +kernel⟩
theorem B_S1_charAt_0 {G : Nat → Nat → Int32} {j : Nat} {x1 : Int32} (hj : j < 18) (z3_0 : ¬ (x1 < 0)) (z3_1 : x1 < (nI (zTB j).length)) (z8_2 : zin x1 (zTB j).length = true) (n14 : znr .char ((((zch j x1) &&& 255).toUInt32 % 65536).toInt32) = true) : zden 114 0 [.ref (1001000 + j), .int x1] [] (zSH, G) = some (some (.int ((((zch j x1) &&& 255).toUInt32 % 65536).toInt32)), (zSH, G)) :=
  (zd_iload_n a_S1_charAt_0 rfl).trans ((zd_aload_n a_S1_charAt_1 rfl).trans ((zd_blen (j := j) a_S1_charAt_2 hj).trans ((zd_cal (kd := 1) (tg := 111) (T := m_St_checkIndex) a_S1_charAt_3 (by decide +kernel) hm_St_checkIndex rfl rfl rfl rfl).trans (((congrArg (zaft 114 6 [.ref (1001000 + j), .int x1] [] (zSH, G)) (ss_checkIndex z3_0 z3_1)).trans zaft_same).trans ((zd_aload_n a_S1_charAt_6 rfl).trans ((zd_iload_n a_S1_charAt_7 rfl).trans ((zd_bald (j := j) a_S1_charAt_8 hj z8_2).trans ((zd_sipush (v := 255) a_S1_charAt_9 (by decide)).trans ((zd_num (st2 := [.int ((zch j x1) &&& 255)]) a_S1_charAt_12 rfl rfl rfl rfl).trans ((zd_num (st2 := [.int ((((zch j x1) &&& 255).toUInt32 % 65536).toInt32)]) a_S1_charAt_13 rfl rfl rfl rfl).trans (zd_iret a_S1_charAt_14 rfl n14)))))))))))
theorem zin_ex {x : Int32} {n : Nat} (hn : n < 2 ^ 31) (h : zin x n = true) : ∃ i : Nat, i < n ∧ x = nI i := by
  unfold zin at h
  simp only [Bool.not_eq_true', Bool.or_eq_false_iff, decide_eq_false_iff_not] at h
  obtain ⟨i, hi, rfl⟩ := nI_of h.1
  rw [nI_clamp hi] at h
  exact ⟨i, by omega, rfl⟩
theorem zch_ok : ∀ j, j < 18 → ∀ i, i < (zTB j).length → ((((zTB j).getD i 0) &&& 255).toUInt32 % 65536).toInt32 = (zTB j).getD i 0 ∧ znr .char ((zTB j).getD i 0) = true := by decide +kernel
theorem zch_nI {j i : Nat} (hi : i < 2 ^ 31) : zch j (nI i) = (zTB j).getD i 0 := by unfold zch; rw [nI_clamp hi]
theorem ss_1charAt {G : Nat → Nat → Int32} {j : Nat} {x : Int32} (hj : j < 18) (hx : zin x (zTB j).length = true) : zden 114 0 [.ref (1001000 + j), .int x] [] (zSH, G) = some (some (.int (zch j x)), (zSH, G)) := by
  have hl := zTB_len j hj
  obtain ⟨i, hi, rfl⟩ := zin_ex (by omega) hx
  have e := zch_nI (j := j) (show i < 2 ^ 31 by omega)
  obtain ⟨z1, z2⟩ := zch_ok j hj i hi
  rw [B_S1_charAt_0 hj (nI_pos (by omega)) (nI_lt hi (by omega)) hx (by rw [e, z1]; exact z2), e, z1]
theorem a_St_charAt_0 : zAt 109 0 m_St_charAt (.aload_n 0) 1 := ⟨hm_St_charAt, by decide +kernel⟩
theorem a_St_charAt_1 : zAt 109 1 m_St_charAt (.invokevirtual 492) 3 := ⟨hm_St_charAt, by decide +kernel⟩
theorem a_St_charAt_4 : zAt 109 4 m_St_charAt (.ifCond .eq 12) 3 := ⟨hm_St_charAt, by decide +kernel⟩
theorem a_St_charAt_7 : zAt 109 7 m_St_charAt (.aload_n 0) 1 := ⟨hm_St_charAt, by decide +kernel⟩
theorem a_St_charAt_8 : zAt 109 8 m_St_charAt (.getfield 9) 3 := ⟨hm_St_charAt, by decide +kernel⟩
theorem a_St_charAt_11 : zAt 109 11 m_St_charAt (.iload_n 1) 1 := ⟨hm_St_charAt, by decide +kernel⟩
theorem a_St_charAt_12 : zAt 109 12 m_St_charAt (.invokestatic 495) 3 := ⟨hm_St_charAt, by decide +kernel⟩
theorem a_St_charAt_15 : zAt 109 15 m_St_charAt (.ireturn) 1 := ⟨hm_St_charAt, by decide +kernel⟩
theorem B_St_charAt_0 {G : Nat → Nat → Int32} {j : Nat} {x1 : Int32} (hj : j < 18) (z12_0 : zin x1 (zTB j).length = true) (n15 : znr .char (zch j x1) = true) : zden 109 0 [.ref (1000000 + j), .int x1] [] (zSH, G) = some (some (.int (zch j x1)), (zSH, G)) :=
  (zd_aload_n a_St_charAt_0 rfl).trans ((zd_cal (kd := 0) (tg := 110) (T := m_St_isLatin1) a_St_charAt_1 (by decide +kernel) hm_St_isLatin1 rfl rfl (zmay_str (j := j) hj rfl) rfl).trans (((congrArg (zaft 109 4 [.ref (1000000 + j), .int x1] [] (zSH, G)) (B_St_isLatin1_0 hj)).trans zaft_same).trans ((zd_if_eq a_St_charAt_4 rfl).trans ((if_neg (by decide)).trans ((zd_aload_n a_St_charAt_7 rfl).trans ((zd_getSV (j := j) a_St_charAt_8 (by decide +kernel) hj).trans ((zd_iload_n a_St_charAt_11 rfl).trans ((zd_cal (kd := 1) (tg := 114) (T := m_S1_charAt) a_St_charAt_12 (by decide +kernel) hm_S1_charAt rfl rfl rfl rfl).trans (((congrArg (zaft 109 15 [.ref (1000000 + j), .int x1] [] (zSH, G)) (ss_1charAt hj z12_0)).trans zaft_same).trans (zd_iret a_St_charAt_15 rfl n15))))))))))
theorem ss_charAt {G : Nat → Nat → Int32} {j : Nat} {x : Int32} (hj : j < 18) (hx : zin x (zTB j).length = true) : zden 109 0 [.ref (1000000 + j), .int x] [] (zSH, G) = some (some (.int (zch j x)), (zSH, G)) := by
  have hl := zTB_len j hj
  obtain ⟨i, hi, rfl⟩ := zin_ex (by omega) hx
  have e := zch_nI (j := j) (show i < 2 ^ 31 by omega)
  exact B_St_charAt_0 hj hx (by rw [e]; exact (zch_ok j hj i hi).2)
theorem a_St_indexOf2_0 : zAt 113 0 m_St_indexOf2 (.aload_n 0) 1 := ⟨hm_St_indexOf2, by decide +kernel⟩
theorem a_St_indexOf2_1 : zAt 113 1 m_St_indexOf2 (.invokevirtual 492) 3 := ⟨hm_St_indexOf2, by decide +kernel⟩
theorem a_St_indexOf2_4 : zAt 113 4 m_St_indexOf2 (.ifCond .eq 19) 3 := ⟨hm_St_indexOf2, by decide +kernel⟩
theorem a_St_indexOf2_7 : zAt 113 7 m_St_indexOf2 (.aload_n 0) 1 := ⟨hm_St_indexOf2, by decide +kernel⟩
theorem a_St_indexOf2_8 : zAt 113 8 m_St_indexOf2 (.getfield 9) 3 := ⟨hm_St_indexOf2, by decide +kernel⟩
theorem a_St_indexOf2_11 : zAt 113 11 m_St_indexOf2 (.iload_n 1) 1 := ⟨hm_St_indexOf2, by decide +kernel⟩
theorem a_St_indexOf2_12 : zAt 113 12 m_St_indexOf2 (.iload_n 2) 1 := ⟨hm_St_indexOf2, by decide +kernel⟩
theorem a_St_indexOf2_13 : zAt 113 13 m_St_indexOf2 (.aload_n 0) 1 := ⟨hm_St_indexOf2, by decide +kernel⟩
theorem a_St_indexOf2_14 : zAt 113 14 m_St_indexOf2 (.invokevirtual 505) 3 := ⟨hm_St_indexOf2, by decide +kernel⟩
theorem a_St_indexOf2_17 : zAt 113 17 m_St_indexOf2 (.invokestatic 637) 3 := ⟨hm_St_indexOf2, by decide +kernel⟩
theorem a_St_indexOf2_20 : zAt 113 20 m_St_indexOf2 (.goto 16) 3 := ⟨hm_St_indexOf2, by decide +kernel⟩
theorem a_St_indexOf2_36 : zAt 113 36 m_St_indexOf2 (.ireturn) 1 := ⟨hm_St_indexOf2, by decide +kernel⟩
theorem B_St_indexOf2_0 {G : Nat → Nat → Int32} {j : Nat} {x1 x2 : Int32} (hj : j < 18) : zden 113 0 [.ref (1000000 + j), .int x1, .int x2] [] (zSH, G) = zaft 113 20 [.ref (1000000 + j), .int x1, .int x2] [] (zSH, G) (zden 115 0 [.ref (1001000 + j), .int x1, .int x2, .int (nI (zTB j).length)] [] (zSH, G)) :=
  (zd_aload_n a_St_indexOf2_0 rfl).trans ((zd_cal (kd := 0) (tg := 110) (T := m_St_isLatin1) a_St_indexOf2_1 (by decide +kernel) hm_St_isLatin1 rfl rfl (zmay_str (j := j) hj rfl) rfl).trans (((congrArg (zaft 113 4 [.ref (1000000 + j), .int x1, .int x2] [] (zSH, G)) (B_St_isLatin1_0 hj)).trans zaft_same).trans ((zd_if_eq a_St_indexOf2_4 rfl).trans ((if_neg (by decide)).trans ((zd_aload_n a_St_indexOf2_7 rfl).trans ((zd_getSV (j := j) a_St_indexOf2_8 (by decide +kernel) hj).trans ((zd_iload_n a_St_indexOf2_11 rfl).trans ((zd_iload_n a_St_indexOf2_12 rfl).trans ((zd_aload_n a_St_indexOf2_13 rfl).trans ((zd_cal (kd := 0) (tg := 107) (T := m_St_length) a_St_indexOf2_14 (by decide +kernel) hm_St_length rfl rfl (zmay_str (j := j) hj rfl) rfl).trans (((congrArg (zaft 113 17 [.ref (1000000 + j), .int x1, .int x2] [.int x2, .int x1, .ref (1001000 + j)] (zSH, G)) (ss_length hj)).trans zaft_same).trans ((zd_cal (kd := 1) (tg := 115) (T := m_S1_indexOf) a_St_indexOf2_17 (by decide +kernel) hm_S1_indexOf rfl rfl rfl rfl)))))))))))))
theorem B_St_indexOf2_20 {G : Nat → Nat → Int32} {j : Nat} {x1 x2 s0 : Int32} (hj : j < 18) : zden 113 20 [.ref (1000000 + j), .int x1, .int x2] [.int s0] (zSH, G) = some (some (.int s0), (zSH, G)) :=
  (zd_goto a_St_indexOf2_20 rfl).trans (zd_iret a_St_indexOf2_36 rfl (znr_int _))
theorem a_St_indexOf_0 : zAt 112 0 m_St_indexOf (.aload_n 0) 1 := ⟨hm_St_indexOf, by decide +kernel⟩
theorem a_St_indexOf_1 : zAt 112 1 m_St_indexOf (.iload_n 1) 1 := ⟨hm_St_indexOf, by decide +kernel⟩
theorem a_St_indexOf_2 : zAt 112 2 m_St_indexOf (.iconst 0) 1 := ⟨hm_St_indexOf, by decide +kernel⟩
theorem a_St_indexOf_3 : zAt 112 3 m_St_indexOf (.invokevirtual 633) 3 := ⟨hm_St_indexOf, by decide +kernel⟩
theorem a_St_indexOf_6 : zAt 112 6 m_St_indexOf (.ireturn) 1 := ⟨hm_St_indexOf, by decide +kernel⟩
theorem B_St_indexOf_0 {G : Nat → Nat → Int32} {j : Nat} {x1 : Int32} (hj : j < 18) : zden 112 0 [.ref (1000000 + j), .int x1] [] (zSH, G) = zaft 112 6 [.ref (1000000 + j), .int x1] [] (zSH, G) (zden 113 0 [.ref (1000000 + j), .int x1, .int 0] [] (zSH, G)) :=
  (zd_aload_n a_St_indexOf_0 rfl).trans ((zd_iload_n a_St_indexOf_1 rfl).trans ((zd_iconst (v := 0) a_St_indexOf_2 (by decide)).trans ((zd_cal (kd := 0) (tg := 113) (T := m_St_indexOf2) a_St_indexOf_3 (by decide +kernel) hm_St_indexOf2 rfl rfl (zmay_str (j := j) hj rfl) rfl))))
theorem B_St_indexOf_6 {G : Nat → Nat → Int32} {j : Nat} {x1 s0 : Int32} (hj : j < 18) : zden 112 6 [.ref (1000000 + j), .int x1] [.int s0] (zSH, G) = some (some (.int s0), (zSH, G)) :=
  zd_iret a_St_indexOf_6 rfl (znr_int _)
theorem a_Te_wordOf_0 : zAt 60 0 m_Te_wordOf (.iload_n 0) 1 := ⟨hm_Te_wordOf, by decide +kernel⟩
theorem a_Te_wordOf_1 : zAt 60 1 m_Te_wordOf (.tableswitch 71 0 7 #[47, 50, 53, 56, 59, 62, 65, 68]) 47 := ⟨hm_Te_wordOf, by decide +kernel⟩
theorem a_Te_wordOf_48 : zAt 60 48 m_Te_wordOf (.ldc 103) 2 := ⟨hm_Te_wordOf, by decide +kernel⟩
theorem a_Te_wordOf_50 : zAt 60 50 m_Te_wordOf (.areturn) 1 := ⟨hm_Te_wordOf, by decide +kernel⟩
theorem a_Te_wordOf_51 : zAt 60 51 m_Te_wordOf (.ldc 105) 2 := ⟨hm_Te_wordOf, by decide +kernel⟩
theorem a_Te_wordOf_53 : zAt 60 53 m_Te_wordOf (.areturn) 1 := ⟨hm_Te_wordOf, by decide +kernel⟩
theorem a_Te_wordOf_54 : zAt 60 54 m_Te_wordOf (.ldc 107) 2 := ⟨hm_Te_wordOf, by decide +kernel⟩
theorem a_Te_wordOf_56 : zAt 60 56 m_Te_wordOf (.areturn) 1 := ⟨hm_Te_wordOf, by decide +kernel⟩
theorem a_Te_wordOf_57 : zAt 60 57 m_Te_wordOf (.ldc 109) 2 := ⟨hm_Te_wordOf, by decide +kernel⟩
theorem a_Te_wordOf_59 : zAt 60 59 m_Te_wordOf (.areturn) 1 := ⟨hm_Te_wordOf, by decide +kernel⟩
theorem a_Te_wordOf_60 : zAt 60 60 m_Te_wordOf (.ldc 111) 2 := ⟨hm_Te_wordOf, by decide +kernel⟩
theorem a_Te_wordOf_62 : zAt 60 62 m_Te_wordOf (.areturn) 1 := ⟨hm_Te_wordOf, by decide +kernel⟩
theorem a_Te_wordOf_63 : zAt 60 63 m_Te_wordOf (.ldc 113) 2 := ⟨hm_Te_wordOf, by decide +kernel⟩
theorem a_Te_wordOf_65 : zAt 60 65 m_Te_wordOf (.areturn) 1 := ⟨hm_Te_wordOf, by decide +kernel⟩
theorem a_Te_wordOf_66 : zAt 60 66 m_Te_wordOf (.ldc 115) 2 := ⟨hm_Te_wordOf, by decide +kernel⟩
theorem a_Te_wordOf_68 : zAt 60 68 m_Te_wordOf (.areturn) 1 := ⟨hm_Te_wordOf, by decide +kernel⟩
theorem a_Te_wordOf_69 : zAt 60 69 m_Te_wordOf (.ldc 117) 2 := ⟨hm_Te_wordOf, by decide +kernel⟩
theorem a_Te_wordOf_71 : zAt 60 71 m_Te_wordOf (.areturn) 1 := ⟨hm_Te_wordOf, by decide +kernel⟩
theorem a_Te_wordOf_72 : zAt 60 72 m_Te_wordOf (.ldc 119) 2 := ⟨hm_Te_wordOf, by decide +kernel⟩
theorem a_Te_wordOf_74 : zAt 60 74 m_Te_wordOf (.areturn) 1 := ⟨hm_Te_wordOf, by decide +kernel⟩
theorem B_Te_wordOf_0 {G : Nat → Nat → Int32} {x0 : Int32} : zden 60 0 [.int x0] [] (zSH, G) = if x0 = 0 then some (some (.ref (1000000 + 3)), (zSH, G)) else if x0 = 1 then some (some (.ref (1000000 + 4)), (zSH, G)) else if x0 = 2 then some (some (.ref (1000000 + 5)), (zSH, G)) else if x0 = 3 then some (some (.ref (1000000 + 6)), (zSH, G)) else if x0 = 4 then some (some (.ref (1000000 + 7)), (zSH, G)) else if x0 = 5 then some (some (.ref (1000000 + 8)), (zSH, G)) else if x0 = 6 then some (some (.ref (1000000 + 9)), (zSH, G)) else if x0 = 7 then some (some (.ref (1000000 + 10)), (zSH, G)) else some (some (.ref (1000000 + 11)), (zSH, G)) :=
  (zd_iload_n a_Te_wordOf_0 rfl).trans ((zd_tsw (td := 72) (L := [(0, 48), (1, 51), (2, 54), (3, 57), (4, 60), (5, 63), (6, 66), (7, 69)]) a_Te_wordOf_1 rfl (by decide) (by decide)).trans (zitc (fun p9 => (zd_ldc (j := 3) a_Te_wordOf_48 (by decide +kernel)).trans (zd_aret a_Te_wordOf_50 rfl)) (fun p9 => zitc (fun p10 => (zd_ldc (j := 4) a_Te_wordOf_51 (by decide +kernel)).trans (zd_aret a_Te_wordOf_53 rfl)) (fun p10 => zitc (fun p11 => (zd_ldc (j := 5) a_Te_wordOf_54 (by decide +kernel)).trans (zd_aret a_Te_wordOf_56 rfl)) (fun p11 => zitc (fun p12 => (zd_ldc (j := 6) a_Te_wordOf_57 (by decide +kernel)).trans (zd_aret a_Te_wordOf_59 rfl)) (fun p12 => zitc (fun p13 => (zd_ldc (j := 7) a_Te_wordOf_60 (by decide +kernel)).trans (zd_aret a_Te_wordOf_62 rfl)) (fun p13 => zitc (fun p14 => (zd_ldc (j := 8) a_Te_wordOf_63 (by decide +kernel)).trans (zd_aret a_Te_wordOf_65 rfl)) (fun p14 => zitc (fun p15 => (zd_ldc (j := 9) a_Te_wordOf_66 (by decide +kernel)).trans (zd_aret a_Te_wordOf_68 rfl)) (fun p15 => zitc (fun p16 => (zd_ldc (j := 10) a_Te_wordOf_69 (by decide +kernel)).trans (zd_aret a_Te_wordOf_71 rfl)) (fun p16 => (zd_ldc (j := 11) a_Te_wordOf_72 (by decide +kernel)).trans (zd_aret a_Te_wordOf_74 rfl)))))))))))
theorem a_Te_formOf_0 : zAt 63 0 m_Te_formOf (.iload_n 0) 1 := ⟨hm_Te_formOf, by decide +kernel⟩
theorem a_Te_formOf_1 : zAt 63 1 m_Te_formOf (.tableswitch 54 0 5 #[39, 54, 42, 45, 48, 51]) 39 := ⟨hm_Te_formOf, by decide +kernel⟩
theorem a_Te_formOf_40 : zAt 63 40 m_Te_formOf (.ldc 121) 2 := ⟨hm_Te_formOf, by decide +kernel⟩
theorem a_Te_formOf_42 : zAt 63 42 m_Te_formOf (.areturn) 1 := ⟨hm_Te_formOf, by decide +kernel⟩
theorem a_Te_formOf_43 : zAt 63 43 m_Te_formOf (.ldc 123) 2 := ⟨hm_Te_formOf, by decide +kernel⟩
theorem a_Te_formOf_45 : zAt 63 45 m_Te_formOf (.areturn) 1 := ⟨hm_Te_formOf, by decide +kernel⟩
theorem a_Te_formOf_46 : zAt 63 46 m_Te_formOf (.ldc 125) 2 := ⟨hm_Te_formOf, by decide +kernel⟩
theorem a_Te_formOf_48 : zAt 63 48 m_Te_formOf (.areturn) 1 := ⟨hm_Te_formOf, by decide +kernel⟩
theorem a_Te_formOf_49 : zAt 63 49 m_Te_formOf (.ldc 127) 2 := ⟨hm_Te_formOf, by decide +kernel⟩
theorem a_Te_formOf_51 : zAt 63 51 m_Te_formOf (.areturn) 1 := ⟨hm_Te_formOf, by decide +kernel⟩
theorem a_Te_formOf_52 : zAt 63 52 m_Te_formOf (.ldc 129) 2 := ⟨hm_Te_formOf, by decide +kernel⟩
theorem a_Te_formOf_54 : zAt 63 54 m_Te_formOf (.areturn) 1 := ⟨hm_Te_formOf, by decide +kernel⟩
theorem a_Te_formOf_55 : zAt 63 55 m_Te_formOf (.ldc 131) 2 := ⟨hm_Te_formOf, by decide +kernel⟩
theorem a_Te_formOf_57 : zAt 63 57 m_Te_formOf (.areturn) 1 := ⟨hm_Te_formOf, by decide +kernel⟩
theorem B_Te_formOf_0 {G : Nat → Nat → Int32} {x0 : Int32} : zden 63 0 [.int x0] [] (zSH, G) = if x0 = 0 then some (some (.ref (1000000 + 12)), (zSH, G)) else if x0 = 1 then some (some (.ref (1000000 + 17)), (zSH, G)) else if x0 = 2 then some (some (.ref (1000000 + 13)), (zSH, G)) else if x0 = 3 then some (some (.ref (1000000 + 14)), (zSH, G)) else if x0 = 4 then some (some (.ref (1000000 + 15)), (zSH, G)) else if x0 = 5 then some (some (.ref (1000000 + 16)), (zSH, G)) else some (some (.ref (1000000 + 17)), (zSH, G)) :=
  (zd_iload_n a_Te_formOf_0 rfl).trans ((zd_tsw (td := 55) (L := [(0, 40), (1, 55), (2, 43), (3, 46), (4, 49), (5, 52)]) a_Te_formOf_1 rfl (by decide) (by decide)).trans (zitc (fun p7 => (zd_ldc (j := 12) a_Te_formOf_40 (by decide +kernel)).trans (zd_aret a_Te_formOf_42 rfl)) (fun p7 => zitc (fun p8 => (zd_ldc (j := 17) a_Te_formOf_55 (by decide +kernel)).trans (zd_aret a_Te_formOf_57 rfl)) (fun p8 => zitc (fun p9 => (zd_ldc (j := 13) a_Te_formOf_43 (by decide +kernel)).trans (zd_aret a_Te_formOf_45 rfl)) (fun p9 => zitc (fun p10 => (zd_ldc (j := 14) a_Te_formOf_46 (by decide +kernel)).trans (zd_aret a_Te_formOf_48 rfl)) (fun p10 => zitc (fun p11 => (zd_ldc (j := 15) a_Te_formOf_49 (by decide +kernel)).trans (zd_aret a_Te_formOf_51 rfl)) (fun p11 => zitc (fun p12 => (zd_ldc (j := 16) a_Te_formOf_52 (by decide +kernel)).trans (zd_aret a_Te_formOf_54 rfl)) (fun p12 => (zd_ldc (j := 17) a_Te_formOf_55 (by decide +kernel)).trans (zd_aret a_Te_formOf_57 rfl)))))))))
def wdN (x : Int32) : Nat := if x = 0 then 3 else if x = 1 then 4 else if x = 2 then 5 else if x = 3 then 6 else if x = 4 then 7 else if x = 5 then 8 else if x = 6 then 9 else if x = 7 then 10 else 11
def fmN (x : Int32) : Nat := if x = 0 then 12 else if x = 2 then 13 else if x = 3 then 14 else if x = 4 then 15 else if x = 5 then 16 else 17
theorem wdN_lt (x : Int32) : wdN x < 18 := by
  unfold wdN
  repeat' split
  all_goals omega
theorem fmN_lt (x : Int32) : fmN x < 18 := by
  unfold fmN
  repeat' split
  all_goals omega
theorem ss_wordOf {G : Nat → Nat → Int32} {x : Int32} : zden 60 0 [.int x] [] (zSH, G) = some (some (.ref (1000000 + wdN x)), (zSH, G)) := by
  rw [B_Te_wordOf_0]
  unfold wdN
  repeat' split
  all_goals first | rfl | contradiction
theorem ss_formOf {G : Nat → Nat → Int32} {x : Int32} : zden 63 0 [.int x] [] (zSH, G) = some (some (.ref (1000000 + fmN x)), (zSH, G)) := by
  by_cases h1 : x = 1
  · subst h1
    rw [B_Te_formOf_0, if_neg (by decide), if_pos rfl]
    rfl
  rw [B_Te_formOf_0]
  unfold fmN
  repeat' split
  all_goals first | rfl | contradiction
theorem a_Te_countAlike_0 : zAt 61 0 m_Te_countAlike (.iconst 0) 1 := ⟨hm_Te_countAlike, by decide +kernel⟩
theorem a_Te_countAlike_1 : zAt 61 1 m_Te_countAlike (.istore_n 2) 1 := ⟨hm_Te_countAlike, by decide +kernel⟩
theorem a_Te_countAlike_2 : zAt 61 2 m_Te_countAlike (.iload_n 2) 1 := ⟨hm_Te_countAlike, by decide +kernel⟩
theorem a_Te_countAlike_3 : zAt 61 3 m_Te_countAlike (.aload_n 1) 1 := ⟨hm_Te_countAlike, by decide +kernel⟩
theorem a_Te_countAlike_4 : zAt 61 4 m_Te_countAlike (.invokevirtual 59) 3 := ⟨hm_Te_countAlike, by decide +kernel⟩
theorem a_Te_countAlike_7 : zAt 61 7 m_Te_countAlike (.if_icmp .ge 27) 3 := ⟨hm_Te_countAlike, by decide +kernel⟩
theorem a_Te_countAlike_10 : zAt 61 10 m_Te_countAlike (.aload_n 1) 1 := ⟨hm_Te_countAlike, by decide +kernel⟩
theorem a_Te_countAlike_11 : zAt 61 11 m_Te_countAlike (.iload_n 2) 1 := ⟨hm_Te_countAlike, by decide +kernel⟩
theorem a_Te_countAlike_12 : zAt 61 12 m_Te_countAlike (.invokevirtual 63) 3 := ⟨hm_Te_countAlike, by decide +kernel⟩
theorem a_Te_countAlike_15 : zAt 61 15 m_Te_countAlike (.aload_n 0) 1 := ⟨hm_Te_countAlike, by decide +kernel⟩
theorem a_Te_countAlike_16 : zAt 61 16 m_Te_countAlike (.aload_n 0) 1 := ⟨hm_Te_countAlike, by decide +kernel⟩
theorem a_Te_countAlike_17 : zAt 61 17 m_Te_countAlike (.getfield 32) 3 := ⟨hm_Te_countAlike, by decide +kernel⟩
theorem a_Te_countAlike_20 : zAt 61 20 m_Te_countAlike (.iload_n 2) 1 := ⟨hm_Te_countAlike, by decide +kernel⟩
theorem a_Te_countAlike_21 : zAt 61 21 m_Te_countAlike (.iadd) 1 := ⟨hm_Te_countAlike, by decide +kernel⟩
theorem a_Te_countAlike_22 : zAt 61 22 m_Te_countAlike (.invokevirtual 84) 3 := ⟨hm_Te_countAlike, by decide +kernel⟩
theorem a_Te_countAlike_25 : zAt 61 25 m_Te_countAlike (.if_icmp .ne 9) 3 := ⟨hm_Te_countAlike, by decide +kernel⟩
theorem a_Te_countAlike_28 : zAt 61 28 m_Te_countAlike (.iinc 2 1) 3 := ⟨hm_Te_countAlike, by decide +kernel⟩
theorem a_Te_countAlike_31 : zAt 61 31 m_Te_countAlike (.goto (-29)) 3 := ⟨hm_Te_countAlike, by decide +kernel⟩
theorem a_Te_countAlike_34 : zAt 61 34 m_Te_countAlike (.iload_n 2) 1 := ⟨hm_Te_countAlike, by decide +kernel⟩
theorem a_Te_countAlike_35 : zAt 61 35 m_Te_countAlike (.ireturn) 1 := ⟨hm_Te_countAlike, by decide +kernel⟩
theorem B_Te_countAlike_0 {G : Nat → Nat → Int32} {j : Nat} (hj : j < 18) : zden 61 0 [.ref 84, .ref (1000000 + j), .retAddr 0] [] (zSH, G) = zden 61 2 [.ref 84, .ref (1000000 + j), .int 0] [] (zSH, G) :=
  (zd_iconst (v := 0) a_Te_countAlike_0 (by decide)).trans ((zd_istore_n a_Te_countAlike_1 rfl rfl rfl))
theorem B_Te_countAlike_2 {G : Nat → Nat → Int32} {j : Nat} {x2 : Int32} (hj : j < 18) (z12_0 : (¬ ((nI (zTB j).length) ≤ x2)) → zin x2 (zTB j).length = true) : zden 61 2 [.ref 84, .ref (1000000 + j), .int x2] [] (zSH, G) = if (nI (zTB j).length) ≤ x2 then some (some (.int x2), (zSH, G)) else zaft 61 25 [.ref 84, .ref (1000000 + j), .int x2] [.int (zch j x2)] (zSH, G) (zden 62 0 [.ref 84, .int ((G 84 3) + x2)] [] (zSH, G)) :=
  (zd_iload_n a_Te_countAlike_2 rfl).trans ((zd_aload_n a_Te_countAlike_3 rfl).trans ((zd_cal (kd := 0) (tg := 107) (T := m_St_length) a_Te_countAlike_4 (by decide +kernel) hm_St_length rfl rfl (zmay_str (j := j) hj rfl) rfl).trans (((congrArg (zaft 61 7 [.ref 84, .ref (1000000 + j), .int x2] [.int x2] (zSH, G)) (ss_length hj)).trans zaft_same).trans ((zd_icmp_ge a_Te_countAlike_7 rfl).trans (zitc (fun p4 => (zd_iload_n a_Te_countAlike_34 rfl).trans (zd_iret a_Te_countAlike_35 rfl (znr_int _))) (fun p4 => (zd_aload_n a_Te_countAlike_10 rfl).trans ((zd_iload_n a_Te_countAlike_11 rfl).trans ((zd_cal (kd := 0) (tg := 109) (T := m_St_charAt) a_Te_countAlike_12 (by decide +kernel) hm_St_charAt rfl rfl (zmay_str (j := j) hj rfl) rfl).trans (((congrArg (zaft 61 15 [.ref 84, .ref (1000000 + j), .int x2] [] (zSH, G)) (ss_charAt hj (z12_0 p4))).trans zaft_same).trans ((zd_aload_n a_Te_countAlike_15 rfl).trans ((zd_aload_n a_Te_countAlike_16 rfl).trans ((zd_getI (h := (zSH, G)) (ci := 6) (fi := 3) a_Te_countAlike_17 (by decide +kernel) sh_84 rfl).trans ((zd_iload_n a_Te_countAlike_20 rfl).trans ((zd_num (st2 := [.int ((G 84 3) + x2), .ref 84, .int (zch j x2)]) a_Te_countAlike_21 rfl rfl rfl rfl).trans ((zd_cal (kd := 0) (tg := 62) (T := m_Te_signAt) a_Te_countAlike_22 (by decide +kernel) hm_Te_signAt rfl rfl rfl rfl))))))))))))))))
theorem B_Te_countAlike_25 {G : Nat → Nat → Int32} {j : Nat} {x2 s0 s1 : Int32} (hj : j < 18) : zden 61 25 [.ref 84, .ref (1000000 + j), .int x2] [.int s0, .int s1] (zSH, G) = if ¬ s1 = s0 then some (some (.int x2), (zSH, G)) else zden 61 2 [.ref 84, .ref (1000000 + j), .int (x2 + 1)] [] (zSH, G) :=
  (zd_icmp_ne a_Te_countAlike_25 rfl).trans (zitc (fun p5 => (zd_iload_n a_Te_countAlike_34 rfl).trans (zd_iret a_Te_countAlike_35 rfl (znr_int _))) (fun p5 => (zd_iinc (v := 1) a_Te_countAlike_28 rfl (by decide) rfl rfl rfl).trans ((zd_goto a_Te_countAlike_31 rfl))))
theorem a_Te_readLetter_0 : zAt 66 0 m_Te_readLetter (.aload_n 1) 1 := ⟨hm_Te_readLetter, by decide +kernel⟩
theorem a_Te_readLetter_1 : zAt 66 1 m_Te_readLetter (.aload_n 0) 1 := ⟨hm_Te_readLetter, by decide +kernel⟩
theorem a_Te_readLetter_2 : zAt 66 2 m_Te_readLetter (.aload_n 0) 1 := ⟨hm_Te_readLetter, by decide +kernel⟩
theorem a_Te_readLetter_3 : zAt 66 3 m_Te_readLetter (.getfield 32) 3 := ⟨hm_Te_readLetter, by decide +kernel⟩
theorem a_Te_readLetter_6 : zAt 66 6 m_Te_readLetter (.invokevirtual 84) 3 := ⟨hm_Te_readLetter, by decide +kernel⟩
theorem a_Te_readLetter_9 : zAt 66 9 m_Te_readLetter (.invokevirtual 100) 3 := ⟨hm_Te_readLetter, by decide +kernel⟩
theorem a_Te_readLetter_12 : zAt 66 12 m_Te_readLetter (.istore_n 2) 1 := ⟨hm_Te_readLetter, by decide +kernel⟩
theorem a_Te_readLetter_13 : zAt 66 13 m_Te_readLetter (.iload_n 2) 1 := ⟨hm_Te_readLetter, by decide +kernel⟩
theorem a_Te_readLetter_14 : zAt 66 14 m_Te_readLetter (.ifCond .ge 11) 3 := ⟨hm_Te_readLetter, by decide +kernel⟩
theorem a_Te_readLetter_17 : zAt 66 17 m_Te_readLetter (.aload_n 0) 1 := ⟨hm_Te_readLetter, by decide +kernel⟩
theorem a_Te_readLetter_18 : zAt 66 18 m_Te_readLetter (.iconst 1) 1 := ⟨hm_Te_readLetter, by decide +kernel⟩
theorem a_Te_readLetter_19 : zAt 66 19 m_Te_readLetter (.putfield 35) 3 := ⟨hm_Te_readLetter, by decide +kernel⟩
theorem a_Te_readLetter_22 : zAt 66 22 m_Te_readLetter (.goto 13) 3 := ⟨hm_Te_readLetter, by decide +kernel⟩
theorem a_Te_readLetter_25 : zAt 66 25 m_Te_readLetter (.aload_n 0) 1 := ⟨hm_Te_readLetter, by decide +kernel⟩
theorem a_Te_readLetter_26 : zAt 66 26 m_Te_readLetter (.dup) 1 := ⟨hm_Te_readLetter, by decide +kernel⟩
theorem a_Te_readLetter_27 : zAt 66 27 m_Te_readLetter (.getfield 32) 3 := ⟨hm_Te_readLetter, by decide +kernel⟩
theorem a_Te_readLetter_30 : zAt 66 30 m_Te_readLetter (.iconst 1) 1 := ⟨hm_Te_readLetter, by decide +kernel⟩
theorem a_Te_readLetter_31 : zAt 66 31 m_Te_readLetter (.iadd) 1 := ⟨hm_Te_readLetter, by decide +kernel⟩
theorem a_Te_readLetter_32 : zAt 66 32 m_Te_readLetter (.putfield 32) 3 := ⟨hm_Te_readLetter, by decide +kernel⟩
theorem a_Te_readLetter_35 : zAt 66 35 m_Te_readLetter (.iload_n 2) 1 := ⟨hm_Te_readLetter, by decide +kernel⟩
theorem a_Te_readLetter_36 : zAt 66 36 m_Te_readLetter (.ireturn) 1 := ⟨hm_Te_readLetter, by decide +kernel⟩
theorem B_Te_readLetter_0 {G : Nat → Nat → Int32} {j : Nat} (hj : j < 18) : zden 66 0 [.ref 84, .ref (1000000 + j), .retAddr 0] [] (zSH, G) = zaft 66 9 [.ref 84, .ref (1000000 + j), .retAddr 0] [.ref (1000000 + j)] (zSH, G) (zden 62 0 [.ref 84, .int (G 84 3)] [] (zSH, G)) :=
  (zd_aload_n a_Te_readLetter_0 rfl).trans ((zd_aload_n a_Te_readLetter_1 rfl).trans ((zd_aload_n a_Te_readLetter_2 rfl).trans ((zd_getI (h := (zSH, G)) (ci := 6) (fi := 3) a_Te_readLetter_3 (by decide +kernel) sh_84 rfl).trans ((zd_cal (kd := 0) (tg := 62) (T := m_Te_signAt) a_Te_readLetter_6 (by decide +kernel) hm_Te_signAt rfl rfl rfl rfl)))))
theorem B_Te_readLetter_9 {G : Nat → Nat → Int32} {j : Nat} {s0 : Int32} (hj : j < 18) : zden 66 9 [.ref 84, .ref (1000000 + j), .retAddr 0] [.int s0, .ref (1000000 + j)] (zSH, G) = zaft 66 12 [.ref 84, .ref (1000000 + j), .retAddr 0] [] (zSH, G) (zden 112 0 [.ref (1000000 + j), .int s0] [] (zSH, G)) :=
  (zd_cal (kd := 0) (tg := 112) (T := m_St_indexOf) a_Te_readLetter_9 (by decide +kernel) hm_St_indexOf rfl rfl (zmay_str (j := j) hj rfl) rfl)
theorem B_Te_readLetter_12 {G : Nat → Nat → Int32} {j : Nat} {s0 : Int32} (hj : j < 18) : zden 66 12 [.ref 84, .ref (1000000 + j), .retAddr 0] [.int s0] (zSH, G) = if 0 ≤ s0 then some (some (.int s0), (zSH, (zup G 84 3 ((G 84 3) + 1)))) else some (some (.int s0), (zSH, (zup G 84 4 1))) :=
  (zd_istore_n a_Te_readLetter_12 rfl rfl rfl).trans ((zd_iload_n a_Te_readLetter_13 rfl).trans ((zd_if_ge a_Te_readLetter_14 rfl).trans (zitc (fun p2 => (zd_aload_n a_Te_readLetter_25 rfl).trans ((zd_num (st2 := [.ref 84, .ref 84]) a_Te_readLetter_26 rfl rfl rfl rfl).trans ((zd_getI (h := (zSH, G)) (ci := 6) (fi := 3) a_Te_readLetter_27 (by decide +kernel) sh_84 rfl).trans ((zd_iconst (v := 1) a_Te_readLetter_30 (by decide)).trans ((zd_num (st2 := [.int ((G 84 3) + 1), .ref 84]) a_Te_readLetter_31 rfl rfl rfl rfl).trans ((zd_putI (h := (zSH, G)) (ci := 6) (fi := 3) a_Te_readLetter_32 (by decide +kernel) sh_84 rfl rfl).trans ((zd_iload_n a_Te_readLetter_35 rfl).trans (zd_iret a_Te_readLetter_36 rfl (znr_int _))))))))) (fun p2 => (zd_aload_n a_Te_readLetter_17 rfl).trans ((zd_iconst (v := 1) a_Te_readLetter_18 (by decide)).trans ((zd_putI (h := (zSH, G)) (ci := 6) (fi := 4) a_Te_readLetter_19 (by decide +kernel) sh_84 rfl rfl).trans ((zd_goto a_Te_readLetter_22 rfl).trans ((zd_iload_n a_Te_readLetter_35 rfl).trans (zd_iret a_Te_readLetter_36 rfl (znr_int _))))))))))
theorem a_Te_readNumber_0 : zAt 65 0 m_Te_readNumber (.iload_n 1) 1 := ⟨hm_Te_readNumber, by decide +kernel⟩
theorem a_Te_readNumber_1 : zAt 65 1 m_Te_readNumber (.lookupswitch 56 #[(97, 42), (102, 35), (103, 49)]) 35 := ⟨hm_Te_readNumber, by decide +kernel⟩
theorem a_Te_readNumber_36 : zAt 65 36 m_Te_readNumber (.aload_n 0) 1 := ⟨hm_Te_readNumber, by decide +kernel⟩
theorem a_Te_readNumber_37 : zAt 65 37 m_Te_readNumber (.ldc 87) 2 := ⟨hm_Te_readNumber, by decide +kernel⟩
theorem a_Te_readNumber_39 : zAt 65 39 m_Te_readNumber (.invokevirtual 89) 3 := ⟨hm_Te_readNumber, by decide +kernel⟩
theorem a_Te_readNumber_42 : zAt 65 42 m_Te_readNumber (.ireturn) 1 := ⟨hm_Te_readNumber, by decide +kernel⟩
theorem a_Te_readNumber_43 : zAt 65 43 m_Te_readNumber (.aload_n 0) 1 := ⟨hm_Te_readNumber, by decide +kernel⟩
theorem a_Te_readNumber_44 : zAt 65 44 m_Te_readNumber (.ldc 92) 2 := ⟨hm_Te_readNumber, by decide +kernel⟩
theorem a_Te_readNumber_46 : zAt 65 46 m_Te_readNumber (.invokevirtual 89) 3 := ⟨hm_Te_readNumber, by decide +kernel⟩
theorem a_Te_readNumber_49 : zAt 65 49 m_Te_readNumber (.ireturn) 1 := ⟨hm_Te_readNumber, by decide +kernel⟩
theorem a_Te_readNumber_50 : zAt 65 50 m_Te_readNumber (.aload_n 0) 1 := ⟨hm_Te_readNumber, by decide +kernel⟩
theorem a_Te_readNumber_51 : zAt 65 51 m_Te_readNumber (.ldc 94) 2 := ⟨hm_Te_readNumber, by decide +kernel⟩
theorem a_Te_readNumber_53 : zAt 65 53 m_Te_readNumber (.invokevirtual 89) 3 := ⟨hm_Te_readNumber, by decide +kernel⟩
theorem a_Te_readNumber_56 : zAt 65 56 m_Te_readNumber (.ireturn) 1 := ⟨hm_Te_readNumber, by decide +kernel⟩
theorem a_Te_readNumber_57 : zAt 65 57 m_Te_readNumber (.aload_n 0) 1 := ⟨hm_Te_readNumber, by decide +kernel⟩
theorem a_Te_readNumber_58 : zAt 65 58 m_Te_readNumber (.iload_n 1) 1 := ⟨hm_Te_readNumber, by decide +kernel⟩
theorem a_Te_readNumber_59 : zAt 65 59 m_Te_readNumber (.bipush 48) 2 := ⟨hm_Te_readNumber, by decide +kernel⟩
theorem a_Te_readNumber_61 : zAt 65 61 m_Te_readNumber (.isub) 1 := ⟨hm_Te_readNumber, by decide +kernel⟩
theorem a_Te_readNumber_62 : zAt 65 62 m_Te_readNumber (.invokevirtual 96) 3 := ⟨hm_Te_readNumber, by decide +kernel⟩
theorem a_Te_readNumber_65 : zAt 65 65 m_Te_readNumber (.ireturn) 1 := ⟨hm_Te_readNumber, by decide +kernel⟩
theorem B_Te_readNumber_0 {G : Nat → Nat → Int32} {x1 : Int32} : zden 65 0 [.ref 84, .int x1] [] (zSH, G) = if x1 = 97 then zden 65 43 [.ref 84, .int x1] [] (zSH, G) else if x1 = 102 then zden 65 36 [.ref 84, .int x1] [] (zSH, G) else if x1 = 103 then zden 65 50 [.ref 84, .int x1] [] (zSH, G) else zden 65 57 [.ref 84, .int x1] [] (zSH, G) :=
  (zd_iload_n a_Te_readNumber_0 rfl).trans ((zd_lsw (td := 57) (L := [(97, 43), (102, 36), (103, 50)]) a_Te_readNumber_1 rfl (by decide)).trans (zitc (fun p10 => rfl) (fun p10 => zitc (fun p11 => rfl) (fun p11 => zitc (fun p12 => rfl) (fun p12 => rfl)))))
theorem B_Te_readNumber_36 {G : Nat → Nat → Int32} {x1 : Int32} : zden 65 36 [.ref 84, .int x1] [] (zSH, G) = zaft 65 42 [.ref 84, .int x1] [] (zSH, G) (zden 66 0 [.ref 84, .ref (1000000 + 0), .retAddr 0] [] (zSH, G)) :=
  (zd_aload_n a_Te_readNumber_36 rfl).trans ((zd_ldc (j := 0) a_Te_readNumber_37 (by decide +kernel)).trans ((zd_cal (kd := 0) (tg := 66) (T := m_Te_readLetter) a_Te_readNumber_39 (by decide +kernel) hm_Te_readLetter rfl rfl rfl rfl)))
theorem B_Te_readNumber_42 {G : Nat → Nat → Int32} {x1 s0 : Int32} : zden 65 42 [.ref 84, .int x1] [.int s0] (zSH, G) = some (some (.int s0), (zSH, G)) :=
  zd_iret a_Te_readNumber_42 rfl (znr_int _)
theorem B_Te_readNumber_43 {G : Nat → Nat → Int32} {x1 : Int32} : zden 65 43 [.ref 84, .int x1] [] (zSH, G) = zaft 65 49 [.ref 84, .int x1] [] (zSH, G) (zden 66 0 [.ref 84, .ref (1000000 + 1), .retAddr 0] [] (zSH, G)) :=
  (zd_aload_n a_Te_readNumber_43 rfl).trans ((zd_ldc (j := 1) a_Te_readNumber_44 (by decide +kernel)).trans ((zd_cal (kd := 0) (tg := 66) (T := m_Te_readLetter) a_Te_readNumber_46 (by decide +kernel) hm_Te_readLetter rfl rfl rfl rfl)))
theorem B_Te_readNumber_49 {G : Nat → Nat → Int32} {x1 s0 : Int32} : zden 65 49 [.ref 84, .int x1] [.int s0] (zSH, G) = some (some (.int s0), (zSH, G)) :=
  zd_iret a_Te_readNumber_49 rfl (znr_int _)
theorem B_Te_readNumber_50 {G : Nat → Nat → Int32} {x1 : Int32} : zden 65 50 [.ref 84, .int x1] [] (zSH, G) = zaft 65 56 [.ref 84, .int x1] [] (zSH, G) (zden 66 0 [.ref 84, .ref (1000000 + 2), .retAddr 0] [] (zSH, G)) :=
  (zd_aload_n a_Te_readNumber_50 rfl).trans ((zd_ldc (j := 2) a_Te_readNumber_51 (by decide +kernel)).trans ((zd_cal (kd := 0) (tg := 66) (T := m_Te_readLetter) a_Te_readNumber_53 (by decide +kernel) hm_Te_readLetter rfl rfl rfl rfl)))
theorem B_Te_readNumber_56 {G : Nat → Nat → Int32} {x1 s0 : Int32} : zden 65 56 [.ref 84, .int x1] [.int s0] (zSH, G) = some (some (.int s0), (zSH, G)) :=
  zd_iret a_Te_readNumber_56 rfl (znr_int _)
theorem B_Te_readNumber_57 {G : Nat → Nat → Int32} {x1 : Int32} : zden 65 57 [.ref 84, .int x1] [] (zSH, G) = zaft 65 65 [.ref 84, .int x1] [] (zSH, G) (zden 67 0 [.ref 84, .int (x1 - 48), .retAddr 0, .retAddr 0, .retAddr 0] [] (zSH, G)) :=
  (zd_aload_n a_Te_readNumber_57 rfl).trans ((zd_iload_n a_Te_readNumber_58 rfl).trans ((zd_bipush (v := 48) a_Te_readNumber_59 (by decide)).trans ((zd_num (st2 := [.int (x1 - 48), .ref 84]) a_Te_readNumber_61 rfl rfl rfl rfl).trans ((zd_cal (kd := 0) (tg := 67) (T := m_Te_readDigits) a_Te_readNumber_62 (by decide +kernel) hm_Te_readDigits rfl rfl rfl rfl)))))
theorem B_Te_readNumber_65 {G : Nat → Nat → Int32} {x1 s0 : Int32} : zden 65 65 [.ref 84, .int x1] [.int s0] (zSH, G) = some (some (.int s0), (zSH, G)) :=
  zd_iret a_Te_readNumber_65 rfl (znr_int _)
theorem a_Te_readWord_0 : zAt 59 0 m_Te_readWord (.iconst 0) 1 := ⟨hm_Te_readWord, by decide +kernel⟩
theorem a_Te_readWord_1 : zAt 59 1 m_Te_readWord (.istore_n 1) 1 := ⟨hm_Te_readWord, by decide +kernel⟩
theorem a_Te_readWord_2 : zAt 59 2 m_Te_readWord (.iconst 0) 1 := ⟨hm_Te_readWord, by decide +kernel⟩
theorem a_Te_readWord_3 : zAt 59 3 m_Te_readWord (.istore_n 2) 1 := ⟨hm_Te_readWord, by decide +kernel⟩
theorem a_Te_readWord_4 : zAt 59 4 m_Te_readWord (.iload_n 2) 1 := ⟨hm_Te_readWord, by decide +kernel⟩
theorem a_Te_readWord_5 : zAt 59 5 m_Te_readWord (.bipush 9) 2 := ⟨hm_Te_readWord, by decide +kernel⟩
theorem a_Te_readWord_7 : zAt 59 7 m_Te_readWord (.if_icmp .ge 50) 3 := ⟨hm_Te_readWord, by decide +kernel⟩
theorem a_Te_readWord_10 : zAt 59 10 m_Te_readWord (.iload_n 2) 1 := ⟨hm_Te_readWord, by decide +kernel⟩
theorem a_Te_readWord_11 : zAt 59 11 m_Te_readWord (.invokestatic 71) 3 := ⟨hm_Te_readWord, by decide +kernel⟩
theorem a_Te_readWord_14 : zAt 59 14 m_Te_readWord (.astore_n 3) 1 := ⟨hm_Te_readWord, by decide +kernel⟩
theorem a_Te_readWord_15 : zAt 59 15 m_Te_readWord (.aload_n 0) 1 := ⟨hm_Te_readWord, by decide +kernel⟩
theorem a_Te_readWord_16 : zAt 59 16 m_Te_readWord (.aload_n 3) 1 := ⟨hm_Te_readWord, by decide +kernel⟩
theorem a_Te_readWord_17 : zAt 59 17 m_Te_readWord (.invokevirtual 74) 3 := ⟨hm_Te_readWord, by decide +kernel⟩
theorem a_Te_readWord_20 : zAt 59 20 m_Te_readWord (.istore 4) 2 := ⟨hm_Te_readWord, by decide +kernel⟩
theorem a_Te_readWord_22 : zAt 59 22 m_Te_readWord (.iload 4) 2 := ⟨hm_Te_readWord, by decide +kernel⟩
theorem a_Te_readWord_24 : zAt 59 24 m_Te_readWord (.aload_n 3) 1 := ⟨hm_Te_readWord, by decide +kernel⟩
theorem a_Te_readWord_25 : zAt 59 25 m_Te_readWord (.invokevirtual 59) 3 := ⟨hm_Te_readWord, by decide +kernel⟩
theorem a_Te_readWord_28 : zAt 59 28 m_Te_readWord (.if_icmp .ne 16) 3 := ⟨hm_Te_readWord, by decide +kernel⟩
theorem a_Te_readWord_31 : zAt 59 31 m_Te_readWord (.aload_n 0) 1 := ⟨hm_Te_readWord, by decide +kernel⟩
theorem a_Te_readWord_32 : zAt 59 32 m_Te_readWord (.dup) 1 := ⟨hm_Te_readWord, by decide +kernel⟩
theorem a_Te_readWord_33 : zAt 59 33 m_Te_readWord (.getfield 32) 3 := ⟨hm_Te_readWord, by decide +kernel⟩
theorem a_Te_readWord_36 : zAt 59 36 m_Te_readWord (.iload 4) 2 := ⟨hm_Te_readWord, by decide +kernel⟩
theorem a_Te_readWord_38 : zAt 59 38 m_Te_readWord (.iadd) 1 := ⟨hm_Te_readWord, by decide +kernel⟩
theorem a_Te_readWord_39 : zAt 59 39 m_Te_readWord (.putfield 32) 3 := ⟨hm_Te_readWord, by decide +kernel⟩
theorem a_Te_readWord_42 : zAt 59 42 m_Te_readWord (.iload_n 2) 1 := ⟨hm_Te_readWord, by decide +kernel⟩
theorem a_Te_readWord_43 : zAt 59 43 m_Te_readWord (.ireturn) 1 := ⟨hm_Te_readWord, by decide +kernel⟩
theorem a_Te_readWord_44 : zAt 59 44 m_Te_readWord (.iload_n 1) 1 := ⟨hm_Te_readWord, by decide +kernel⟩
theorem a_Te_readWord_45 : zAt 59 45 m_Te_readWord (.iload 4) 2 := ⟨hm_Te_readWord, by decide +kernel⟩
theorem a_Te_readWord_47 : zAt 59 47 m_Te_readWord (.invokestatic 78) 3 := ⟨hm_Te_readWord, by decide +kernel⟩
theorem a_Te_readWord_50 : zAt 59 50 m_Te_readWord (.istore_n 1) 1 := ⟨hm_Te_readWord, by decide +kernel⟩
theorem a_Te_readWord_51 : zAt 59 51 m_Te_readWord (.iinc 2 1) 3 := ⟨hm_Te_readWord, by decide +kernel⟩
theorem a_Te_readWord_54 : zAt 59 54 m_Te_readWord (.goto (-50)) 3 := ⟨hm_Te_readWord, by decide +kernel⟩
theorem a_Te_readWord_57 : zAt 59 57 m_Te_readWord (.aload_n 0) 1 := ⟨hm_Te_readWord, by decide +kernel⟩
theorem a_Te_readWord_58 : zAt 59 58 m_Te_readWord (.dup) 1 := ⟨hm_Te_readWord, by decide +kernel⟩
theorem a_Te_readWord_59 : zAt 59 59 m_Te_readWord (.getfield 32) 3 := ⟨hm_Te_readWord, by decide +kernel⟩
theorem a_Te_readWord_62 : zAt 59 62 m_Te_readWord (.iload_n 1) 1 := ⟨hm_Te_readWord, by decide +kernel⟩
theorem a_Te_readWord_63 : zAt 59 63 m_Te_readWord (.iadd) 1 := ⟨hm_Te_readWord, by decide +kernel⟩
theorem a_Te_readWord_64 : zAt 59 64 m_Te_readWord (.putfield 32) 3 := ⟨hm_Te_readWord, by decide +kernel⟩
theorem a_Te_readWord_67 : zAt 59 67 m_Te_readWord (.aload_n 0) 1 := ⟨hm_Te_readWord, by decide +kernel⟩
theorem a_Te_readWord_68 : zAt 59 68 m_Te_readWord (.iconst 1) 1 := ⟨hm_Te_readWord, by decide +kernel⟩
theorem a_Te_readWord_69 : zAt 59 69 m_Te_readWord (.putfield 35) 3 := ⟨hm_Te_readWord, by decide +kernel⟩
theorem a_Te_readWord_72 : zAt 59 72 m_Te_readWord (.iconst (-1)) 1 := ⟨hm_Te_readWord, by decide +kernel⟩
theorem a_Te_readWord_73 : zAt 59 73 m_Te_readWord (.ireturn) 1 := ⟨hm_Te_readWord, by decide +kernel⟩
theorem B_Te_readWord_0 {G : Nat → Nat → Int32} : zden 59 0 [.ref 84, .retAddr 0, .retAddr 0, .retAddr 0, .retAddr 0] [] (zSH, G) = zden 59 4 [.ref 84, .int 0, .int 0, .retAddr 0, .retAddr 0] [] (zSH, G) :=
  (zd_iconst (v := 0) a_Te_readWord_0 (by decide)).trans ((zd_istore_n a_Te_readWord_1 rfl rfl rfl).trans ((zd_iconst (v := 0) a_Te_readWord_2 (by decide)).trans ((zd_istore_n a_Te_readWord_3 rfl rfl rfl))))
theorem B_Te_readWord_4 {G : Nat → Nat → Int32} {x1 x2 : Int32} {v3 v4 : Value} : zden 59 4 [.ref 84, .int x1, .int x2, v3, v4] [] (zSH, G) = if 9 ≤ x2 then some (some (.int (-1)), (zSH, (zup (zup G 84 3 ((G 84 3) + x1)) 84 4 1))) else zaft 59 20 [.ref 84, .int x1, .int x2, .ref (1000000 + (wdN x2)), v4] [] (zSH, G) (zden 61 0 [.ref 84, .ref (1000000 + (wdN x2)), .retAddr 0] [] (zSH, G)) :=
  (zd_iload_n a_Te_readWord_4 rfl).trans ((zd_bipush (v := 9) a_Te_readWord_5 (by decide)).trans ((zd_icmp_ge a_Te_readWord_7 rfl).trans (zitc (fun p8 => (zd_aload_n a_Te_readWord_57 rfl).trans ((zd_num (st2 := [.ref 84, .ref 84]) a_Te_readWord_58 rfl rfl rfl rfl).trans ((zd_getI (h := (zSH, G)) (ci := 6) (fi := 3) a_Te_readWord_59 (by decide +kernel) sh_84 rfl).trans ((zd_iload_n a_Te_readWord_62 rfl).trans ((zd_num (st2 := [.int ((G 84 3) + x1), .ref 84]) a_Te_readWord_63 rfl rfl rfl rfl).trans ((zd_putI (h := (zSH, G)) (ci := 6) (fi := 3) a_Te_readWord_64 (by decide +kernel) sh_84 rfl rfl).trans ((zd_aload_n a_Te_readWord_67 rfl).trans ((zd_iconst (v := 1) a_Te_readWord_68 (by decide)).trans ((zd_putI (h := (zSH, (zup G 84 3 ((G 84 3) + x1)))) (ci := 6) (fi := 4) a_Te_readWord_69 (by decide +kernel) sh_84 rfl rfl).trans ((zd_iconst (v := (-1)) a_Te_readWord_72 (by decide)).trans (zd_iret a_Te_readWord_73 rfl (znr_int _)))))))))))) (fun p8 => (zd_iload_n a_Te_readWord_10 rfl).trans ((zd_cal (kd := 1) (tg := 60) (T := m_Te_wordOf) a_Te_readWord_11 (by decide +kernel) hm_Te_wordOf rfl rfl rfl rfl).trans (((congrArg (zaft 59 14 [.ref 84, .int x1, .int x2, v3, v4] [] (zSH, G)) (ss_wordOf)).trans zaft_same).trans ((zd_astore_n a_Te_readWord_14 rfl rfl rfl).trans ((zd_aload_n a_Te_readWord_15 rfl).trans ((zd_aload_n a_Te_readWord_16 rfl).trans ((zd_cal (kd := 0) (tg := 61) (T := m_Te_countAlike) a_Te_readWord_17 (by decide +kernel) hm_Te_countAlike rfl rfl rfl rfl)))))))))))
theorem B_Te_readWord_20 {G : Nat → Nat → Int32} {x1 x2 s0 : Int32} {v4 : Value} : zden 59 20 [.ref 84, .int x1, .int x2, .ref (1000000 + (wdN x2)), v4] [.int s0] (zSH, G) = if ¬ s0 = (nI (zTB (wdN x2)).length) then zden 59 4 [.ref 84, .int (if x1 < s0 then s0 else x1), .int (x2 + 1), .ref (1000000 + (wdN x2)), .int s0] [] (zSH, G) else some (some (.int x2), (zSH, (zup G 84 3 ((G 84 3) + s0)))) :=
  (zd_istore a_Te_readWord_20 rfl rfl rfl).trans ((zd_iload a_Te_readWord_22 rfl).trans ((zd_aload_n a_Te_readWord_24 rfl).trans ((zd_cal (kd := 0) (tg := 107) (T := m_St_length) a_Te_readWord_25 (by decide +kernel) hm_St_length rfl rfl (zmay_str (j := (wdN x2)) (wdN_lt _) rfl) rfl).trans (((congrArg (zaft 59 28 [.ref 84, .int x1, .int x2, .ref (1000000 + (wdN x2)), .int s0] [.int s0] (zSH, G)) (ss_length (wdN_lt _))).trans zaft_same).trans ((zd_icmp_ne a_Te_readWord_28 rfl).trans (zitc (fun p9 => (zd_iload_n a_Te_readWord_44 rfl).trans ((zd_iload a_Te_readWord_45 rfl).trans ((zd_max a_Te_readWord_47 (by decide +kernel) (by decide +kernel) rfl).trans ((zd_istore_n a_Te_readWord_50 rfl rfl rfl).trans ((zd_iinc (v := 1) a_Te_readWord_51 rfl (by decide) rfl rfl rfl).trans ((zd_goto a_Te_readWord_54 rfl))))))) (fun p9 => (zd_aload_n a_Te_readWord_31 rfl).trans ((zd_num (st2 := [.ref 84, .ref 84]) a_Te_readWord_32 rfl rfl rfl rfl).trans ((zd_getI (h := (zSH, G)) (ci := 6) (fi := 3) a_Te_readWord_33 (by decide +kernel) sh_84 rfl).trans ((zd_iload a_Te_readWord_36 rfl).trans ((zd_num (st2 := [.int ((G 84 3) + s0), .ref 84]) a_Te_readWord_38 rfl rfl rfl rfl).trans ((zd_putI (h := (zSH, G)) (ci := 6) (fi := 3) a_Te_readWord_39 (by decide +kernel) sh_84 rfl rfl).trans ((zd_iload_n a_Te_readWord_42 rfl).trans (zd_iret a_Te_readWord_43 rfl (znr_int _)))))))))))))))
theorem a_Te_readOrder_0 : zAt 58 0 m_Te_readOrder (.aload_n 0) 1 := ⟨hm_Te_readOrder, by decide +kernel⟩
theorem a_Te_readOrder_1 : zAt 58 1 m_Te_readOrder (.invokevirtual 47) 3 := ⟨hm_Te_readOrder, by decide +kernel⟩
theorem a_Te_readOrder_4 : zAt 58 4 m_Te_readOrder (.istore_n 2) 1 := ⟨hm_Te_readOrder, by decide +kernel⟩
theorem a_Te_readOrder_5 : zAt 58 5 m_Te_readOrder (.iload_n 2) 1 := ⟨hm_Te_readOrder, by decide +kernel⟩
theorem a_Te_readOrder_6 : zAt 58 6 m_Te_readOrder (.invokestatic 51) 3 := ⟨hm_Te_readOrder, by decide +kernel⟩
theorem a_Te_readOrder_9 : zAt 58 9 m_Te_readOrder (.astore_n 3) 1 := ⟨hm_Te_readOrder, by decide +kernel⟩
theorem a_Te_readOrder_10 : zAt 58 10 m_Te_readOrder (.aload_n 0) 1 := ⟨hm_Te_readOrder, by decide +kernel⟩
theorem a_Te_readOrder_11 : zAt 58 11 m_Te_readOrder (.getfield 14) 3 := ⟨hm_Te_readOrder, by decide +kernel⟩
theorem a_Te_readOrder_14 : zAt 58 14 m_Te_readOrder (.iload_n 1) 1 := ⟨hm_Te_readOrder, by decide +kernel⟩
theorem a_Te_readOrder_15 : zAt 58 15 m_Te_readOrder (.iconst 0) 1 := ⟨hm_Te_readOrder, by decide +kernel⟩
theorem a_Te_readOrder_16 : zAt 58 16 m_Te_readOrder (.iload_n 2) 1 := ⟨hm_Te_readOrder, by decide +kernel⟩
theorem a_Te_readOrder_17 : zAt 58 17 m_Te_readOrder (.invokevirtual 55) 3 := ⟨hm_Te_readOrder, by decide +kernel⟩
theorem a_Te_readOrder_20 : zAt 58 20 m_Te_readOrder (.iconst 1) 1 := ⟨hm_Te_readOrder, by decide +kernel⟩
theorem a_Te_readOrder_21 : zAt 58 21 m_Te_readOrder (.istore 4) 2 := ⟨hm_Te_readOrder, by decide +kernel⟩
theorem a_Te_readOrder_23 : zAt 58 23 m_Te_readOrder (.iconst 0) 1 := ⟨hm_Te_readOrder, by decide +kernel⟩
theorem a_Te_readOrder_24 : zAt 58 24 m_Te_readOrder (.istore 5) 2 := ⟨hm_Te_readOrder, by decide +kernel⟩
theorem a_Te_readOrder_26 : zAt 58 26 m_Te_readOrder (.iload 5) 2 := ⟨hm_Te_readOrder, by decide +kernel⟩
theorem a_Te_readOrder_28 : zAt 58 28 m_Te_readOrder (.aload_n 3) 1 := ⟨hm_Te_readOrder, by decide +kernel⟩
theorem a_Te_readOrder_29 : zAt 58 29 m_Te_readOrder (.invokevirtual 59) 3 := ⟨hm_Te_readOrder, by decide +kernel⟩
theorem a_Te_readOrder_32 : zAt 58 32 m_Te_readOrder (.if_icmp .ge 73) 3 := ⟨hm_Te_readOrder, by decide +kernel⟩
theorem a_Te_readOrder_35 : zAt 58 35 m_Te_readOrder (.aload_n 0) 1 := ⟨hm_Te_readOrder, by decide +kernel⟩
theorem a_Te_readOrder_36 : zAt 58 36 m_Te_readOrder (.getfield 35) 3 := ⟨hm_Te_readOrder, by decide +kernel⟩
theorem a_Te_readOrder_39 : zAt 58 39 m_Te_readOrder (.ifCond .ne 66) 3 := ⟨hm_Te_readOrder, by decide +kernel⟩
theorem a_Te_readOrder_42 : zAt 58 42 m_Te_readOrder (.aload_n 3) 1 := ⟨hm_Te_readOrder, by decide +kernel⟩
theorem a_Te_readOrder_43 : zAt 58 43 m_Te_readOrder (.iload 5) 2 := ⟨hm_Te_readOrder, by decide +kernel⟩
theorem a_Te_readOrder_45 : zAt 58 45 m_Te_readOrder (.invokevirtual 63) 3 := ⟨hm_Te_readOrder, by decide +kernel⟩
theorem a_Te_readOrder_48 : zAt 58 48 m_Te_readOrder (.istore 6) 2 := ⟨hm_Te_readOrder, by decide +kernel⟩
theorem a_Te_readOrder_50 : zAt 58 50 m_Te_readOrder (.iload 6) 2 := ⟨hm_Te_readOrder, by decide +kernel⟩
theorem a_Te_readOrder_52 : zAt 58 52 m_Te_readOrder (.bipush 32) 2 := ⟨hm_Te_readOrder, by decide +kernel⟩
theorem a_Te_readOrder_54 : zAt 58 54 m_Te_readOrder (.if_icmp .eq 17) 3 := ⟨hm_Te_readOrder, by decide +kernel⟩
theorem a_Te_readOrder_57 : zAt 58 57 m_Te_readOrder (.iload 6) 2 := ⟨hm_Te_readOrder, by decide +kernel⟩
theorem a_Te_readOrder_59 : zAt 58 59 m_Te_readOrder (.bipush 47) 2 := ⟨hm_Te_readOrder, by decide +kernel⟩
theorem a_Te_readOrder_61 : zAt 58 61 m_Te_readOrder (.if_icmp .eq 10) 3 := ⟨hm_Te_readOrder, by decide +kernel⟩
theorem a_Te_readOrder_64 : zAt 58 64 m_Te_readOrder (.iload 6) 2 := ⟨hm_Te_readOrder, by decide +kernel⟩
theorem a_Te_readOrder_66 : zAt 58 66 m_Te_readOrder (.bipush 61) 2 := ⟨hm_Te_readOrder, by decide +kernel⟩
theorem a_Te_readOrder_68 : zAt 58 68 m_Te_readOrder (.if_icmp .ne 12) 3 := ⟨hm_Te_readOrder, by decide +kernel⟩
theorem a_Te_readOrder_71 : zAt 58 71 m_Te_readOrder (.aload_n 0) 1 := ⟨hm_Te_readOrder, by decide +kernel⟩
theorem a_Te_readOrder_72 : zAt 58 72 m_Te_readOrder (.iload 6) 2 := ⟨hm_Te_readOrder, by decide +kernel⟩
theorem a_Te_readOrder_74 : zAt 58 74 m_Te_readOrder (.invokevirtual 43) 3 := ⟨hm_Te_readOrder, by decide +kernel⟩
theorem a_Te_readOrder_77 : zAt 58 77 m_Te_readOrder (.goto 22) 3 := ⟨hm_Te_readOrder, by decide +kernel⟩
theorem a_Te_readOrder_80 : zAt 58 80 m_Te_readOrder (.aload_n 0) 1 := ⟨hm_Te_readOrder, by decide +kernel⟩
theorem a_Te_readOrder_81 : zAt 58 81 m_Te_readOrder (.getfield 14) 3 := ⟨hm_Te_readOrder, by decide +kernel⟩
theorem a_Te_readOrder_84 : zAt 58 84 m_Te_readOrder (.iload_n 1) 1 := ⟨hm_Te_readOrder, by decide +kernel⟩
theorem a_Te_readOrder_85 : zAt 58 85 m_Te_readOrder (.iload 4) 2 := ⟨hm_Te_readOrder, by decide +kernel⟩
theorem a_Te_readOrder_87 : zAt 58 87 m_Te_readOrder (.aload_n 0) 1 := ⟨hm_Te_readOrder, by decide +kernel⟩
theorem a_Te_readOrder_88 : zAt 58 88 m_Te_readOrder (.iload 6) 2 := ⟨hm_Te_readOrder, by decide +kernel⟩
theorem a_Te_readOrder_90 : zAt 58 90 m_Te_readOrder (.invokevirtual 67) 3 := ⟨hm_Te_readOrder, by decide +kernel⟩
theorem a_Te_readOrder_93 : zAt 58 93 m_Te_readOrder (.invokevirtual 55) 3 := ⟨hm_Te_readOrder, by decide +kernel⟩
theorem a_Te_readOrder_96 : zAt 58 96 m_Te_readOrder (.iinc 4 1) 3 := ⟨hm_Te_readOrder, by decide +kernel⟩
theorem a_Te_readOrder_99 : zAt 58 99 m_Te_readOrder (.iinc 5 1) 3 := ⟨hm_Te_readOrder, by decide +kernel⟩
theorem a_Te_readOrder_102 : zAt 58 102 m_Te_readOrder (.goto (-76)) 3 := ⟨hm_Te_readOrder, by decide +kernel⟩
theorem a_Te_readOrder_105 : zAt 58 105 m_Te_readOrder (.return_) 1 := ⟨hm_Te_readOrder, by decide +kernel⟩
theorem B_Te_readOrder_0 {G : Nat → Nat → Int32} {x1 : Int32} : zden 58 0 [.ref 84, .int x1, .retAddr 0, .retAddr 0, .retAddr 0, .retAddr 0, .retAddr 0] [] (zSH, G) = zaft 58 4 [.ref 84, .int x1, .retAddr 0, .retAddr 0, .retAddr 0, .retAddr 0, .retAddr 0] [] (zSH, G) (zden 59 0 [.ref 84, .retAddr 0, .retAddr 0, .retAddr 0, .retAddr 0] [] (zSH, G)) :=
  (zd_aload_n a_Te_readOrder_0 rfl).trans ((zd_cal (kd := 0) (tg := 59) (T := m_Te_readWord) a_Te_readOrder_1 (by decide +kernel) hm_Te_readWord rfl rfl rfl rfl))
theorem B_Te_readOrder_4 {G : Nat → Nat → Int32} {x1 s0 : Int32} : zden 58 4 [.ref 84, .int x1, .retAddr 0, .retAddr 0, .retAddr 0, .retAddr 0, .retAddr 0] [.int s0] (zSH, G) = zden 58 26 [.ref 84, .int x1, .int s0, .ref (1000000 + (fmN s0)), .int 1, .int 0, .retAddr 0] [] (zSH, (tset G 85 86 77 x1 0 s0)) :=
  (zd_istore_n a_Te_readOrder_4 rfl rfl rfl).trans ((zd_iload_n a_Te_readOrder_5 rfl).trans ((zd_cal (kd := 1) (tg := 63) (T := m_Te_formOf) a_Te_readOrder_6 (by decide +kernel) hm_Te_formOf rfl rfl rfl rfl).trans (((congrArg (zaft 58 9 [.ref 84, .int x1, .int s0, .retAddr 0, .retAddr 0, .retAddr 0, .retAddr 0] [] (zSH, G)) (ss_formOf)).trans zaft_same).trans ((zd_astore_n a_Te_readOrder_9 rfl rfl rfl).trans ((zd_aload_n a_Te_readOrder_10 rfl).trans ((zd_getR (h := (zSH, G)) (ci := 6) (fi := 0) (a := 85) a_Te_readOrder_11 (by decide +kernel) sh_84 rfl rfl).trans ((zd_iload_n a_Te_readOrder_14 rfl).trans ((zd_iconst (v := 0) a_Te_readOrder_15 (by decide)).trans ((zd_iload_n a_Te_readOrder_16 rfl).trans ((zd_cal (kd := 0) (tg := 51) (T := m_Ta_set) a_Te_readOrder_17 (by decide +kernel) hm_Ta_set rfl rfl rfl rfl).trans (((congrArg (zaft 58 20 [.ref 84, .int x1, .int s0, .ref (1000000 + (fmN s0)), .retAddr 0, .retAddr 0, .retAddr 0] [] (zSH, G)) (sp_set (r := 85) (q := 86) (n := 77) sh_85 sh_86 rfl (by decide))).trans zaft_same).trans ((zd_iconst (v := 1) a_Te_readOrder_20 (by decide)).trans ((zd_istore a_Te_readOrder_21 rfl rfl rfl).trans ((zd_iconst (v := 0) a_Te_readOrder_23 (by decide)).trans ((zd_istore a_Te_readOrder_24 rfl rfl rfl))))))))))))))))
theorem B_Te_readOrder_26 {G : Nat → Nat → Int32} {x1 x2 x4 x5 : Int32} {v6 : Value} (z45_0 : (¬ ((nI (zTB (fmN x2)).length) ≤ x5)) → (¬ (¬ (G 84 4) = 0)) → zin x5 (zTB (fmN x2)).length = true) : zden 58 26 [.ref 84, .int x1, .int x2, .ref (1000000 + (fmN x2)), .int x4, .int x5, v6] [] (zSH, G) = if (nI (zTB (fmN x2)).length) ≤ x5 then some (none, (zSH, G)) else if ¬ (G 84 4) = 0 then some (none, (zSH, G)) else if (zch (fmN x2) x5) = 32 then zden 58 71 [.ref 84, .int x1, .int x2, .ref (1000000 + (fmN x2)), .int x4, .int x5, .int (zch (fmN x2) x5)] [] (zSH, G) else if (zch (fmN x2) x5) = 47 then zden 58 71 [.ref 84, .int x1, .int x2, .ref (1000000 + (fmN x2)), .int x4, .int x5, .int (zch (fmN x2) x5)] [] (zSH, G) else if ¬ (zch (fmN x2) x5) = 61 then zaft 58 93 [.ref 84, .int x1, .int x2, .ref (1000000 + (fmN x2)), .int x4, .int x5, .int (zch (fmN x2) x5)] [.int x4, .int x1, .ref 85] (zSH, G) (zden 65 0 [.ref 84, .int (zch (fmN x2) x5)] [] (zSH, G)) else zden 58 71 [.ref 84, .int x1, .int x2, .ref (1000000 + (fmN x2)), .int x4, .int x5, .int (zch (fmN x2) x5)] [] (zSH, G) :=
  (zd_iload a_Te_readOrder_26 rfl).trans ((zd_aload_n a_Te_readOrder_28 rfl).trans ((zd_cal (kd := 0) (tg := 107) (T := m_St_length) a_Te_readOrder_29 (by decide +kernel) hm_St_length rfl rfl (zmay_str (j := (fmN x2)) (fmN_lt _) rfl) rfl).trans (((congrArg (zaft 58 32 [.ref 84, .int x1, .int x2, .ref (1000000 + (fmN x2)), .int x4, .int x5, v6] [.int x5] (zSH, G)) (ss_length (fmN_lt _))).trans zaft_same).trans ((zd_icmp_ge a_Te_readOrder_32 rfl).trans (zitc (fun p21 => zd_vret a_Te_readOrder_105 rfl) (fun p21 => (zd_aload_n a_Te_readOrder_35 rfl).trans ((zd_getI (h := (zSH, G)) (ci := 6) (fi := 4) a_Te_readOrder_36 (by decide +kernel) sh_84 rfl).trans ((zd_if_ne a_Te_readOrder_39 rfl).trans (zitc (fun p22 => zd_vret a_Te_readOrder_105 rfl) (fun p22 => (zd_aload_n a_Te_readOrder_42 rfl).trans ((zd_iload a_Te_readOrder_43 rfl).trans ((zd_cal (kd := 0) (tg := 109) (T := m_St_charAt) a_Te_readOrder_45 (by decide +kernel) hm_St_charAt rfl rfl (zmay_str (j := (fmN x2)) (fmN_lt _) rfl) rfl).trans (((congrArg (zaft 58 48 [.ref 84, .int x1, .int x2, .ref (1000000 + (fmN x2)), .int x4, .int x5, v6] [] (zSH, G)) (ss_charAt (fmN_lt _) (z45_0 p21 p22))).trans zaft_same).trans ((zd_istore a_Te_readOrder_48 rfl rfl rfl).trans ((zd_iload a_Te_readOrder_50 rfl).trans ((zd_bipush (v := 32) a_Te_readOrder_52 (by decide)).trans ((zd_icmp_eq a_Te_readOrder_54 rfl).trans (zitc (fun p23 => rfl) (fun p23 => (zd_iload a_Te_readOrder_57 rfl).trans ((zd_bipush (v := 47) a_Te_readOrder_59 (by decide)).trans ((zd_icmp_eq a_Te_readOrder_61 rfl).trans (zitc (fun p24 => rfl) (fun p24 => (zd_iload a_Te_readOrder_64 rfl).trans ((zd_bipush (v := 61) a_Te_readOrder_66 (by decide)).trans ((zd_icmp_ne a_Te_readOrder_68 rfl).trans (zitc (fun p25 => (zd_aload_n a_Te_readOrder_80 rfl).trans ((zd_getR (h := (zSH, G)) (ci := 6) (fi := 0) (a := 85) a_Te_readOrder_81 (by decide +kernel) sh_84 rfl rfl).trans ((zd_iload_n a_Te_readOrder_84 rfl).trans ((zd_iload a_Te_readOrder_85 rfl).trans ((zd_aload_n a_Te_readOrder_87 rfl).trans ((zd_iload a_Te_readOrder_88 rfl).trans ((zd_cal (kd := 0) (tg := 65) (T := m_Te_readNumber) a_Te_readOrder_90 (by decide +kernel) hm_Te_readNumber rfl rfl rfl rfl)))))))) (fun p25 => rfl)))))))))))))))))))))))))))
theorem B_Te_readOrder_71 {G : Nat → Nat → Int32} {x1 x2 x4 x5 x6 : Int32} : zden 58 71 [.ref 84, .int x1, .int x2, .ref (1000000 + (fmN x2)), .int x4, .int x5, .int x6] [] (zSH, G) = zaft 58 77 [.ref 84, .int x1, .int x2, .ref (1000000 + (fmN x2)), .int x4, .int x5, .int x6] [] (zSH, G) (zden 64 0 [.ref 84, .int x6] [] (zSH, G)) :=
  (zd_aload_n a_Te_readOrder_71 rfl).trans ((zd_iload a_Te_readOrder_72 rfl).trans ((zd_cal (kd := 0) (tg := 64) (T := m_Te_readSign) a_Te_readOrder_74 (by decide +kernel) hm_Te_readSign rfl rfl rfl rfl)))
theorem B_Te_readOrder_77 {G : Nat → Nat → Int32} {x1 x2 x4 x5 x6 : Int32} : zden 58 77 [.ref 84, .int x1, .int x2, .ref (1000000 + (fmN x2)), .int x4, .int x5, .int x6] [] (zSH, G) = zden 58 99 [.ref 84, .int x1, .int x2, .ref (1000000 + (fmN x2)), .int x4, .int x5, .int x6] [] (zSH, G) :=
  (zd_goto a_Te_readOrder_77 rfl)
theorem B_Te_readOrder_93 {G : Nat → Nat → Int32} {x1 x2 x4 x5 x6 s0 s1 s2 : Int32} : zden 58 93 [.ref 84, .int x1, .int x2, .ref (1000000 + (fmN x2)), .int x4, .int x5, .int x6] [.int s0, .int s1, .int s2, .ref 85] (zSH, G) = zden 58 99 [.ref 84, .int x1, .int x2, .ref (1000000 + (fmN x2)), .int (x4 + 1), .int x5, .int x6] [] (zSH, (tset G 85 86 77 s2 s1 s0)) :=
  (zd_cal (kd := 0) (tg := 51) (T := m_Ta_set) a_Te_readOrder_93 (by decide +kernel) hm_Ta_set rfl rfl rfl rfl).trans (((congrArg (zaft 58 96 [.ref 84, .int x1, .int x2, .ref (1000000 + (fmN x2)), .int x4, .int x5, .int x6] [] (zSH, G)) (sp_set (r := 85) (q := 86) (n := 77) sh_85 sh_86 rfl (by decide))).trans zaft_same).trans ((zd_iinc (v := 1) a_Te_readOrder_96 rfl (by decide) rfl rfl rfl)))
theorem B_Te_readOrder_99 {G : Nat → Nat → Int32} {x1 x2 x4 x5 x6 : Int32} : zden 58 99 [.ref 84, .int x1, .int x2, .ref (1000000 + (fmN x2)), .int x4, .int x5, .int x6] [] (zSH, G) = zden 58 26 [.ref 84, .int x1, .int x2, .ref (1000000 + (fmN x2)), .int x4, .int (x5 + 1), .int x6] [] (zSH, G) :=
  (zd_iinc (v := 1) a_Te_readOrder_99 rfl (by decide) rfl rfl rfl).trans ((zd_goto a_Te_readOrder_102 rfl))
theorem a_Te_read_0 : zAt 57 0 m_Te_read (.aload_n 0) 1 := ⟨hm_Te_read, by decide +kernel⟩
theorem a_Te_read_1 : zAt 57 1 m_Te_read (.iconst 0) 1 := ⟨hm_Te_read, by decide +kernel⟩
theorem a_Te_read_2 : zAt 57 2 m_Te_read (.putfield 32) 3 := ⟨hm_Te_read, by decide +kernel⟩
theorem a_Te_read_5 : zAt 57 5 m_Te_read (.aload_n 0) 1 := ⟨hm_Te_read, by decide +kernel⟩
theorem a_Te_read_6 : zAt 57 6 m_Te_read (.iconst 0) 1 := ⟨hm_Te_read, by decide +kernel⟩
theorem a_Te_read_7 : zAt 57 7 m_Te_read (.putfield 35) 3 := ⟨hm_Te_read, by decide +kernel⟩
theorem a_Te_read_10 : zAt 57 10 m_Te_read (.iconst 0) 1 := ⟨hm_Te_read, by decide +kernel⟩
theorem a_Te_read_11 : zAt 57 11 m_Te_read (.istore_n 1) 1 := ⟨hm_Te_read, by decide +kernel⟩
theorem a_Te_read_12 : zAt 57 12 m_Te_read (.iload_n 1) 1 := ⟨hm_Te_read, by decide +kernel⟩
theorem a_Te_read_13 : zAt 57 13 m_Te_read (.bipush 11) 2 := ⟨hm_Te_read, by decide +kernel⟩
theorem a_Te_read_15 : zAt 57 15 m_Te_read (.if_icmp .ge 58) 3 := ⟨hm_Te_read, by decide +kernel⟩
theorem a_Te_read_18 : zAt 57 18 m_Te_read (.aload_n 0) 1 := ⟨hm_Te_read, by decide +kernel⟩
theorem a_Te_read_19 : zAt 57 19 m_Te_read (.iload_n 1) 1 := ⟨hm_Te_read, by decide +kernel⟩
theorem a_Te_read_20 : zAt 57 20 m_Te_read (.invokevirtual 39) 3 := ⟨hm_Te_read, by decide +kernel⟩
theorem a_Te_read_23 : zAt 57 23 m_Te_read (.aload_n 0) 1 := ⟨hm_Te_read, by decide +kernel⟩
theorem a_Te_read_24 : zAt 57 24 m_Te_read (.getfield 35) 3 := ⟨hm_Te_read, by decide +kernel⟩
theorem a_Te_read_27 : zAt 57 27 m_Te_read (.ifCond .ne 18) 3 := ⟨hm_Te_read, by decide +kernel⟩
theorem a_Te_read_30 : zAt 57 30 m_Te_read (.aload_n 0) 1 := ⟨hm_Te_read, by decide +kernel⟩
theorem a_Te_read_31 : zAt 57 31 m_Te_read (.getfield 32) 3 := ⟨hm_Te_read, by decide +kernel⟩
theorem a_Te_read_34 : zAt 57 34 m_Te_read (.aload_n 0) 1 := ⟨hm_Te_read, by decide +kernel⟩
theorem a_Te_read_35 : zAt 57 35 m_Te_read (.getfield 28) 3 := ⟨hm_Te_read, by decide +kernel⟩
theorem a_Te_read_38 : zAt 57 38 m_Te_read (.if_icmp .lt 7) 3 := ⟨hm_Te_read, by decide +kernel⟩
theorem a_Te_read_41 : zAt 57 41 m_Te_read (.iload_n 1) 1 := ⟨hm_Te_read, by decide +kernel⟩
theorem a_Te_read_42 : zAt 57 42 m_Te_read (.iconst 1) 1 := ⟨hm_Te_read, by decide +kernel⟩
theorem a_Te_read_43 : zAt 57 43 m_Te_read (.iadd) 1 := ⟨hm_Te_read, by decide +kernel⟩
theorem a_Te_read_44 : zAt 57 44 m_Te_read (.ireturn) 1 := ⟨hm_Te_read, by decide +kernel⟩
theorem a_Te_read_45 : zAt 57 45 m_Te_read (.aload_n 0) 1 := ⟨hm_Te_read, by decide +kernel⟩
theorem a_Te_read_46 : zAt 57 46 m_Te_read (.bipush 59) 2 := ⟨hm_Te_read, by decide +kernel⟩
theorem a_Te_read_48 : zAt 57 48 m_Te_read (.invokevirtual 43) 3 := ⟨hm_Te_read, by decide +kernel⟩
theorem a_Te_read_51 : zAt 57 51 m_Te_read (.aload_n 0) 1 := ⟨hm_Te_read, by decide +kernel⟩
theorem a_Te_read_52 : zAt 57 52 m_Te_read (.getfield 35) 3 := ⟨hm_Te_read, by decide +kernel⟩
theorem a_Te_read_55 : zAt 57 55 m_Te_read (.ifCond .eq 12) 3 := ⟨hm_Te_read, by decide +kernel⟩
theorem a_Te_read_58 : zAt 57 58 m_Te_read (.sipush (-1000)) 3 := ⟨hm_Te_read, by decide +kernel⟩
theorem a_Te_read_61 : zAt 57 61 m_Te_read (.aload_n 0) 1 := ⟨hm_Te_read, by decide +kernel⟩
theorem a_Te_read_62 : zAt 57 62 m_Te_read (.getfield 32) 3 := ⟨hm_Te_read, by decide +kernel⟩
theorem a_Te_read_65 : zAt 57 65 m_Te_read (.isub) 1 := ⟨hm_Te_read, by decide +kernel⟩
theorem a_Te_read_66 : zAt 57 66 m_Te_read (.ireturn) 1 := ⟨hm_Te_read, by decide +kernel⟩
theorem a_Te_read_67 : zAt 57 67 m_Te_read (.iinc 1 1) 3 := ⟨hm_Te_read, by decide +kernel⟩
theorem a_Te_read_70 : zAt 57 70 m_Te_read (.goto (-58)) 3 := ⟨hm_Te_read, by decide +kernel⟩
theorem a_Te_read_73 : zAt 57 73 m_Te_read (.sipush (-1000)) 3 := ⟨hm_Te_read, by decide +kernel⟩
theorem a_Te_read_76 : zAt 57 76 m_Te_read (.aload_n 0) 1 := ⟨hm_Te_read, by decide +kernel⟩
theorem a_Te_read_77 : zAt 57 77 m_Te_read (.getfield 32) 3 := ⟨hm_Te_read, by decide +kernel⟩
theorem a_Te_read_80 : zAt 57 80 m_Te_read (.isub) 1 := ⟨hm_Te_read, by decide +kernel⟩
theorem a_Te_read_81 : zAt 57 81 m_Te_read (.ireturn) 1 := ⟨hm_Te_read, by decide +kernel⟩
theorem B_Te_read_0 {G : Nat → Nat → Int32} : zden 57 0 [.ref 84, .retAddr 0] [] (zSH, G) = zden 57 12 [.ref 84, .int 0] [] (zSH, (zup (zup G 84 3 0) 84 4 0)) :=
  (zd_aload_n a_Te_read_0 rfl).trans ((zd_iconst (v := 0) a_Te_read_1 (by decide)).trans ((zd_putI (h := (zSH, G)) (ci := 6) (fi := 3) a_Te_read_2 (by decide +kernel) sh_84 rfl rfl).trans ((zd_aload_n a_Te_read_5 rfl).trans ((zd_iconst (v := 0) a_Te_read_6 (by decide)).trans ((zd_putI (h := (zSH, (zup G 84 3 0))) (ci := 6) (fi := 4) a_Te_read_7 (by decide +kernel) sh_84 rfl rfl).trans ((zd_iconst (v := 0) a_Te_read_10 (by decide)).trans ((zd_istore_n a_Te_read_11 rfl rfl rfl))))))))
theorem B_Te_read_12 {G : Nat → Nat → Int32} {x1 : Int32} : zden 57 12 [.ref 84, .int x1] [] (zSH, G) = if 11 ≤ x1 then some (some (.int ((-1000) - (G 84 3))), (zSH, G)) else zaft 57 23 [.ref 84, .int x1] [] (zSH, G) (zden 58 0 [.ref 84, .int x1, .retAddr 0, .retAddr 0, .retAddr 0, .retAddr 0, .retAddr 0] [] (zSH, G)) :=
  (zd_iload_n a_Te_read_12 rfl).trans ((zd_bipush (v := 11) a_Te_read_13 (by decide)).trans ((zd_icmp_ge a_Te_read_15 rfl).trans (zitc (fun p12 => (zd_sipush (v := (-1000)) a_Te_read_73 (by decide)).trans ((zd_aload_n a_Te_read_76 rfl).trans ((zd_getI (h := (zSH, G)) (ci := 6) (fi := 3) a_Te_read_77 (by decide +kernel) sh_84 rfl).trans ((zd_num (st2 := [.int ((-1000) - (G 84 3))]) a_Te_read_80 rfl rfl rfl rfl).trans (zd_iret a_Te_read_81 rfl (znr_int _)))))) (fun p12 => (zd_aload_n a_Te_read_18 rfl).trans ((zd_iload_n a_Te_read_19 rfl).trans ((zd_cal (kd := 0) (tg := 58) (T := m_Te_readOrder) a_Te_read_20 (by decide +kernel) hm_Te_readOrder rfl rfl rfl rfl)))))))
theorem B_Te_read_23 {G : Nat → Nat → Int32} {x1 : Int32} : zden 57 23 [.ref 84, .int x1] [] (zSH, G) = if ¬ (G 84 4) = 0 then zden 57 45 [.ref 84, .int x1] [] (zSH, G) else if (G 84 3) < (G 84 1) then zden 57 45 [.ref 84, .int x1] [] (zSH, G) else some (some (.int (x1 + 1)), (zSH, G)) :=
  (zd_aload_n a_Te_read_23 rfl).trans ((zd_getI (h := (zSH, G)) (ci := 6) (fi := 4) a_Te_read_24 (by decide +kernel) sh_84 rfl).trans ((zd_if_ne a_Te_read_27 rfl).trans (zitc (fun p13 => rfl) (fun p13 => (zd_aload_n a_Te_read_30 rfl).trans ((zd_getI (h := (zSH, G)) (ci := 6) (fi := 3) a_Te_read_31 (by decide +kernel) sh_84 rfl).trans ((zd_aload_n a_Te_read_34 rfl).trans ((zd_getI (h := (zSH, G)) (ci := 6) (fi := 1) a_Te_read_35 (by decide +kernel) sh_84 rfl).trans ((zd_icmp_lt a_Te_read_38 rfl).trans (zitc (fun p14 => rfl) (fun p14 => (zd_iload_n a_Te_read_41 rfl).trans ((zd_iconst (v := 1) a_Te_read_42 (by decide)).trans ((zd_num (st2 := [.int (x1 + 1)]) a_Te_read_43 rfl rfl rfl rfl).trans (zd_iret a_Te_read_44 rfl (znr_int _))))))))))))))
theorem B_Te_read_45 {G : Nat → Nat → Int32} {x1 : Int32} : zden 57 45 [.ref 84, .int x1] [] (zSH, G) = zaft 57 51 [.ref 84, .int x1] [] (zSH, G) (zden 64 0 [.ref 84, .int 59] [] (zSH, G)) :=
  (zd_aload_n a_Te_read_45 rfl).trans ((zd_bipush (v := 59) a_Te_read_46 (by decide)).trans ((zd_cal (kd := 0) (tg := 64) (T := m_Te_readSign) a_Te_read_48 (by decide +kernel) hm_Te_readSign rfl rfl rfl rfl)))
theorem B_Te_read_51 {G : Nat → Nat → Int32} {x1 : Int32} : zden 57 51 [.ref 84, .int x1] [] (zSH, G) = if (G 84 4) = 0 then zden 57 12 [.ref 84, .int (x1 + 1)] [] (zSH, G) else some (some (.int ((-1000) - (G 84 3))), (zSH, G)) :=
  (zd_aload_n a_Te_read_51 rfl).trans ((zd_getI (h := (zSH, G)) (ci := 6) (fi := 4) a_Te_read_52 (by decide +kernel) sh_84 rfl).trans ((zd_if_eq a_Te_read_55 rfl).trans (zitc (fun p15 => (zd_iinc (v := 1) a_Te_read_67 rfl (by decide) rfl rfl rfl).trans ((zd_goto a_Te_read_70 rfl))) (fun p15 => (zd_sipush (v := (-1000)) a_Te_read_58 (by decide)).trans ((zd_aload_n a_Te_read_61 rfl).trans ((zd_getI (h := (zSH, G)) (ci := 6) (fi := 3) a_Te_read_62 (by decide +kernel) sh_84 rfl).trans ((zd_num (st2 := [.int ((-1000) - (G 84 3))]) a_Te_read_65 rfl rfl rfl rfl).trans (zd_iret a_Te_read_66 rfl (znr_int _)))))))))
theorem C_Te_signAt_0 {G : Nat → Nat → Int32} {x1 : Int32} (z26_0 : (¬ (x1 < 0)) → (¬ ((G 84 1) ≤ x1)) → (¬ (60 ≤ x1)) → zin x1 60 = true) (z31_1 : (¬ (x1 < 0)) → (¬ ((G 84 1) ≤ x1)) → (¬ (60 ≤ x1)) → znr .char (G 87 x1.toNatClampNeg) = true) : zden 62 0 [.ref 84, .int x1] [] (zSH, G) = if x1 < 0 then some (some (.int 0), (zSH, G)) else if (G 84 1) ≤ x1 then some (some (.int 0), (zSH, G)) else if 60 ≤ x1 then some (some (.int 0), (zSH, G)) else some (some (.int (G 87 x1.toNatClampNeg)), (zSH, G)) :=
  (zd_iload_n a_Te_signAt_0 rfl).trans ((zd_if_lt a_Te_signAt_1 rfl).trans (zitc (fun p4 => (zd_iconst (v := 0) a_Te_signAt_30 (by decide)).trans (zd_iret a_Te_signAt_31 rfl (by decide))) (fun p4 => (zd_iload_n a_Te_signAt_4 rfl).trans ((zd_aload_n a_Te_signAt_5 rfl).trans ((zd_getI (h := (zSH, G)) (ci := 6) (fi := 1) a_Te_signAt_6 (by decide +kernel) sh_84 rfl).trans ((zd_icmp_ge a_Te_signAt_9 rfl).trans (zitc (fun p5 => (zd_iconst (v := 0) a_Te_signAt_30 (by decide)).trans (zd_iret a_Te_signAt_31 rfl (by decide))) (fun p5 => (zd_iload_n a_Te_signAt_12 rfl).trans ((zd_aload_n a_Te_signAt_13 rfl).trans ((zd_getR (h := (zSH, G)) (ci := 6) (fi := 2) (a := 87) a_Te_signAt_14 (by decide +kernel) sh_84 rfl rfl).trans ((zd_alen (h := (zSH, G)) (v := 60) a_Te_signAt_17 sh_87 rfl (by decide)).trans ((zd_icmp_ge a_Te_signAt_18 rfl).trans (zitc (fun p6 => (zd_iconst (v := 0) a_Te_signAt_30 (by decide)).trans (zd_iret a_Te_signAt_31 rfl (by decide))) (fun p6 => (zd_aload_n a_Te_signAt_21 rfl).trans ((zd_getR (h := (zSH, G)) (ci := 6) (fi := 2) (a := 87) a_Te_signAt_22 (by decide +kernel) sh_84 rfl rfl).trans ((zd_iload_n a_Te_signAt_25 rfl).trans ((zd_cald (h := (zSH, G)) a_Te_signAt_26 sh_87).trans ((if_pos (z26_0 p4 p5 p6)).trans ((zd_goto a_Te_signAt_27 rfl).trans (zd_iret a_Te_signAt_31 rfl (z31_1 p4 p5 p6)))))))))))))))))))))
