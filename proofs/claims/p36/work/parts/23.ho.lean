-- 23: blocks of House (written by wip/p36/gen23.py)
theorem hm_Ho_areCoinsRight : zms[k_Ho_areCoinsRight]? = some m_Ho_areCoinsRight := rfl
theorem hm_Ho_areHeadingsRight : zms[k_Ho_areHeadingsRight]? = some m_Ho_areHeadingsRight := rfl
theorem hm_Ho_countGoodsOf : zms[k_Ho_countGoodsOf]? = some m_Ho_countGoodsOf := rfl
theorem hm_Ho_countGoodsThatAre : zms[k_Ho_countGoodsThatAre]? = some m_Ho_countGoodsThatAre := rfl
theorem hm_Ho_dutyFrom : zms[k_Ho_dutyFrom]? = some m_Ho_dutyFrom := rfl
theorem hm_Ho_favouredSet : zms[k_Ho_favouredSet]? = some m_Ho_favouredSet := rfl
theorem hm_Ho_fittingRow : zms[k_Ho_fittingRow]? = some m_Ho_fittingRow := rfl
theorem hm_Ho_fittingRowAt : zms[k_Ho_fittingRowAt]? = some m_Ho_fittingRowAt := rfl
theorem hm_Ho_hasGood : zms[k_Ho_hasGood]? = some m_Ho_hasGood := rfl
theorem hm_Ho_isAhead : zms[k_Ho_isAhead]? = some m_Ho_isAhead := rfl
theorem hm_Ho_isFitting : zms[k_Ho_isFitting]? = some m_Ho_isFitting := rfl
theorem hm_Ho_keptRow : zms[k_Ho_keptRow]? = some m_Ho_keptRow := rfl
theorem hm_Ho_lead : zms[k_Ho_lead]? = some m_Ho_lead := rfl
theorem hm_Ho_originOf : zms[k_Ho_originOf]? = some m_Ho_originOf := rfl
theorem hm_Ho_rankOf : zms[k_Ho_rankOf]? = some m_Ho_rankOf := rfl
theorem hm_Ho_rowOfCode : zms[k_Ho_rowOfCode]? = some m_Ho_rowOfCode := rfl
theorem hm_T_isCountry : zms[k_T_isCountry]? = some m_T_isCountry := rfl
theorem a_T_isCountry_0 : zAt 77 0 m_T_isCountry (.iload_n 0) 1 := ⟨hm_T_isCountry, by decide +kernel⟩
theorem a_T_isCountry_1 : zAt 77 1 m_T_isCountry (.iconst 0) 1 := ⟨hm_T_isCountry, by decide +kernel⟩
theorem a_T_isCountry_2 : zAt 77 2 m_T_isCountry (.iconst 4) 1 := ⟨hm_T_isCountry, by decide +kernel⟩
theorem a_T_isCountry_3 : zAt 77 3 m_T_isCountry (.invokestatic 69) 3 := ⟨hm_T_isCountry, by decide +kernel⟩
theorem a_T_isCountry_6 : zAt 77 6 m_T_isCountry (.ireturn) 1 := ⟨hm_T_isCountry, by decide +kernel⟩
theorem B_T_isCountry_0 {G : Nat → Nat → Int32} {x0 : Int32} (n6 : znr .boolean (bI (0 ≤ x0 ∧ x0 ≤ 4)) = true) : zden 77 0 [.int x0] [] (zSH, G) = some (some (.int (bI (0 ≤ x0 ∧ x0 ≤ 4))), (zSH, G)) :=
  (zd_iload_n a_T_isCountry_0 rfl).trans ((zd_iconst (v := 0) a_T_isCountry_1 (by decide)).trans ((zd_iconst (v := 4) a_T_isCountry_2 (by decide)).trans ((zd_cal (kd := 1) (tg := 71) (T := m_T_isWithin) a_T_isCountry_3 (by decide +kernel) hm_T_isWithin rfl rfl rfl rfl).trans (((congrArg (zaft 77 6 [.int x0] [] (zSH, G)) (sp_isWithin)).trans zaft_same).trans (zd_iret a_T_isCountry_6 rfl n6)))))
theorem a_Ho_hasGood_0 : zAt 27 0 m_Ho_hasGood (.iload_n 1) 1 := ⟨hm_Ho_hasGood, by decide +kernel⟩
theorem a_Ho_hasGood_1 : zAt 27 1 m_Ho_hasGood (.ifCond .lt 15) 3 := ⟨hm_Ho_hasGood, by decide +kernel⟩
theorem a_Ho_hasGood_4 : zAt 27 4 m_Ho_hasGood (.iload_n 1) 1 := ⟨hm_Ho_hasGood, by decide +kernel⟩
theorem a_Ho_hasGood_5 : zAt 27 5 m_Ho_hasGood (.aload_n 0) 1 := ⟨hm_Ho_hasGood, by decide +kernel⟩
theorem a_Ho_hasGood_6 : zAt 27 6 m_Ho_hasGood (.getfield 38) 3 := ⟨hm_Ho_hasGood, by decide +kernel⟩
theorem a_Ho_hasGood_9 : zAt 27 9 m_Ho_hasGood (.if_icmp .ge 7) 3 := ⟨hm_Ho_hasGood, by decide +kernel⟩
theorem a_Ho_hasGood_12 : zAt 27 12 m_Ho_hasGood (.iconst 1) 1 := ⟨hm_Ho_hasGood, by decide +kernel⟩
theorem a_Ho_hasGood_13 : zAt 27 13 m_Ho_hasGood (.goto 4) 3 := ⟨hm_Ho_hasGood, by decide +kernel⟩
theorem a_Ho_hasGood_16 : zAt 27 16 m_Ho_hasGood (.iconst 0) 1 := ⟨hm_Ho_hasGood, by decide +kernel⟩
theorem a_Ho_hasGood_17 : zAt 27 17 m_Ho_hasGood (.ireturn) 1 := ⟨hm_Ho_hasGood, by decide +kernel⟩
theorem B_Ho_hasGood_0 {G : Nat → Nat → Int32} {x1 : Int32} : zden 27 0 [.ref 2, .int x1] [] (zSH, G) = if x1 < 0 then some (some (.int 0), (zSH, G)) else if (G 2 4) ≤ x1 then some (some (.int 0), (zSH, G)) else some (some (.int 1), (zSH, G)) :=
  (zd_iload_n a_Ho_hasGood_0 rfl).trans ((zd_if_lt a_Ho_hasGood_1 rfl).trans (zite ((zd_iconst (v := 0) a_Ho_hasGood_16 (by decide)).trans (zd_iret a_Ho_hasGood_17 rfl (by decide))) ((zd_iload_n a_Ho_hasGood_4 rfl).trans ((zd_aload_n a_Ho_hasGood_5 rfl).trans ((zd_getI (h := (zSH, G)) (ci := 2) (fi := 4) a_Ho_hasGood_6 (by decide +kernel) sh_2 rfl).trans ((zd_icmp_ge a_Ho_hasGood_9 rfl).trans (zite ((zd_iconst (v := 0) a_Ho_hasGood_16 (by decide)).trans (zd_iret a_Ho_hasGood_17 rfl (by decide))) ((zd_iconst (v := 1) a_Ho_hasGood_12 (by decide)).trans ((zd_goto a_Ho_hasGood_13 rfl).trans (zd_iret a_Ho_hasGood_17 rfl (by decide)))))))))))
theorem sp_isCountry {G : Nat → Nat → Int32} {x : Int32} : zden 77 0 [.int x] [] (zSH, G) = some (some (.int (bI (0 ≤ x ∧ x ≤ 4))), (zSH, G)) := B_T_isCountry_0 (by unfold bI; by_cases h : 0 ≤ x ∧ x ≤ 4 <;> simp only [h] <;> decide)
theorem sp_hasGood {G : Nat → Nat → Int32} {x : Int32} : zden 27 0 [.ref 2, .int x] [] (zSH, G) = some (some (.int (bI (0 ≤ x ∧ x < G 2 4))), (zSH, G)) := by
  rw [B_Ho_hasGood_0]
  unfold bI
  by_cases h1 : x < 0
  · rw [if_pos h1, if_neg (fun (q : 0 ≤ x ∧ x < G 2 4) => Int32.not_le.mpr h1 q.1)]
  · rw [if_neg h1]
    by_cases h2 : G 2 4 ≤ x
    · rw [if_pos h2, if_neg (fun (q : 0 ≤ x ∧ x < G 2 4) => Int32.not_le.mpr q.2 h2)]
    · rw [if_neg h2, if_pos ⟨Int32.not_lt.mp h1, Int32.not_le.mp h2⟩]

theorem a_Ho_rowOfCode_0 : zAt 22 0 m_Ho_rowOfCode (.iconst 0) 1 := ⟨hm_Ho_rowOfCode, by decide +kernel⟩
theorem a_Ho_rowOfCode_1 : zAt 22 1 m_Ho_rowOfCode (.istore_n 2) 1 := ⟨hm_Ho_rowOfCode, by decide +kernel⟩
theorem a_Ho_rowOfCode_2 : zAt 22 2 m_Ho_rowOfCode (.iload_n 2) 1 := ⟨hm_Ho_rowOfCode, by decide +kernel⟩
theorem a_Ho_rowOfCode_3 : zAt 22 3 m_Ho_rowOfCode (.aload_n 0) 1 := ⟨hm_Ho_rowOfCode, by decide +kernel⟩
theorem a_Ho_rowOfCode_4 : zAt 22 4 m_Ho_rowOfCode (.getfield 30) 3 := ⟨hm_Ho_rowOfCode, by decide +kernel⟩
theorem a_Ho_rowOfCode_7 : zAt 22 7 m_Ho_rowOfCode (.if_icmp .ge 24) 3 := ⟨hm_Ho_rowOfCode, by decide +kernel⟩
theorem a_Ho_rowOfCode_10 : zAt 22 10 m_Ho_rowOfCode (.aload_n 0) 1 := ⟨hm_Ho_rowOfCode, by decide +kernel⟩
theorem a_Ho_rowOfCode_11 : zAt 22 11 m_Ho_rowOfCode (.getfield 14) 3 := ⟨hm_Ho_rowOfCode, by decide +kernel⟩
theorem a_Ho_rowOfCode_14 : zAt 22 14 m_Ho_rowOfCode (.iload_n 2) 1 := ⟨hm_Ho_rowOfCode, by decide +kernel⟩
theorem a_Ho_rowOfCode_15 : zAt 22 15 m_Ho_rowOfCode (.iconst 4) 1 := ⟨hm_Ho_rowOfCode, by decide +kernel⟩
theorem a_Ho_rowOfCode_16 : zAt 22 16 m_Ho_rowOfCode (.invokevirtual 59) 3 := ⟨hm_Ho_rowOfCode, by decide +kernel⟩
theorem a_Ho_rowOfCode_19 : zAt 22 19 m_Ho_rowOfCode (.iload_n 1) 1 := ⟨hm_Ho_rowOfCode, by decide +kernel⟩
theorem a_Ho_rowOfCode_20 : zAt 22 20 m_Ho_rowOfCode (.if_icmp .ne 5) 3 := ⟨hm_Ho_rowOfCode, by decide +kernel⟩
theorem a_Ho_rowOfCode_23 : zAt 22 23 m_Ho_rowOfCode (.iload_n 2) 1 := ⟨hm_Ho_rowOfCode, by decide +kernel⟩
theorem a_Ho_rowOfCode_24 : zAt 22 24 m_Ho_rowOfCode (.ireturn) 1 := ⟨hm_Ho_rowOfCode, by decide +kernel⟩
theorem a_Ho_rowOfCode_25 : zAt 22 25 m_Ho_rowOfCode (.iinc 2 1) 3 := ⟨hm_Ho_rowOfCode, by decide +kernel⟩
theorem a_Ho_rowOfCode_28 : zAt 22 28 m_Ho_rowOfCode (.goto (-26)) 3 := ⟨hm_Ho_rowOfCode, by decide +kernel⟩
theorem a_Ho_rowOfCode_31 : zAt 22 31 m_Ho_rowOfCode (.iconst (-1)) 1 := ⟨hm_Ho_rowOfCode, by decide +kernel⟩
theorem a_Ho_rowOfCode_32 : zAt 22 32 m_Ho_rowOfCode (.ireturn) 1 := ⟨hm_Ho_rowOfCode, by decide +kernel⟩
theorem B_Ho_rowOfCode_0 {G : Nat → Nat → Int32} {x1 : Int32} : zden 22 0 [.ref 2, .int x1, .retAddr 0] [] (zSH, G) = zden 22 2 [.ref 2, .int x1, .int 0] [] (zSH, G) :=
  (zd_iconst (v := 0) a_Ho_rowOfCode_0 (by decide)).trans ((zd_istore_n a_Ho_rowOfCode_1 rfl rfl rfl))
theorem B_Ho_rowOfCode_2 {G : Nat → Nat → Int32} {x1 x2 : Int32} : zden 22 2 [.ref 2, .int x1, .int x2] [] (zSH, G) = if (G 2 3) ≤ x2 then some (some (.int (-1)), (zSH, G)) else if ¬ (tget G 3 4 55 x2 4) = x1 then zden 22 2 [.ref 2, .int x1, .int (x2 + 1)] [] (zSH, G) else some (some (.int x2), (zSH, G)) :=
  (zd_iload_n a_Ho_rowOfCode_2 rfl).trans ((zd_aload_n a_Ho_rowOfCode_3 rfl).trans ((zd_getI (h := (zSH, G)) (ci := 2) (fi := 3) a_Ho_rowOfCode_4 (by decide +kernel) sh_2 rfl).trans ((zd_icmp_ge a_Ho_rowOfCode_7 rfl).trans (zite ((zd_iconst (v := (-1)) a_Ho_rowOfCode_31 (by decide)).trans (zd_iret a_Ho_rowOfCode_32 rfl (znr_int _))) ((zd_aload_n a_Ho_rowOfCode_10 rfl).trans ((zd_getR (h := (zSH, G)) (ci := 2) (fi := 0) (a := 3) a_Ho_rowOfCode_11 (by decide +kernel) sh_2 rfl rfl).trans ((zd_iload_n a_Ho_rowOfCode_14 rfl).trans ((zd_iconst (v := 4) a_Ho_rowOfCode_15 (by decide)).trans ((zd_cal (kd := 0) (tg := 53) (T := m_Ta_get) a_Ho_rowOfCode_16 (by decide +kernel) hm_Ta_get rfl rfl rfl rfl).trans (((congrArg (zaft 22 19 [.ref 2, .int x1, .int x2] [] (zSH, G)) (sp_get (r := 3) (q := 4) (n := 55) sh_3 sh_4 rfl (by decide))).trans zaft_same).trans ((zd_iload_n a_Ho_rowOfCode_19 rfl).trans ((zd_icmp_ne a_Ho_rowOfCode_20 rfl).trans (zite ((zd_iinc (v := 1) a_Ho_rowOfCode_25 rfl (by decide) rfl rfl rfl).trans ((zd_goto a_Ho_rowOfCode_28 rfl))) ((zd_iload_n a_Ho_rowOfCode_23 rfl).trans (zd_iret a_Ho_rowOfCode_24 rfl (znr_int _))))))))))))))))
theorem a_Ho_isFitting_0 : zAt 25 0 m_Ho_isFitting (.aload_n 0) 1 := ⟨hm_Ho_isFitting, by decide +kernel⟩
theorem a_Ho_isFitting_1 : zAt 25 1 m_Ho_isFitting (.getfield 14) 3 := ⟨hm_Ho_isFitting, by decide +kernel⟩
theorem a_Ho_isFitting_4 : zAt 25 4 m_Ho_isFitting (.iload_n 1) 1 := ⟨hm_Ho_isFitting, by decide +kernel⟩
theorem a_Ho_isFitting_5 : zAt 25 5 m_Ho_isFitting (.iconst 0) 1 := ⟨hm_Ho_isFitting, by decide +kernel⟩
theorem a_Ho_isFitting_6 : zAt 25 6 m_Ho_isFitting (.invokevirtual 59) 3 := ⟨hm_Ho_isFitting, by decide +kernel⟩
theorem a_Ho_isFitting_9 : zAt 25 9 m_Ho_isFitting (.istore_n 3) 1 := ⟨hm_Ho_isFitting, by decide +kernel⟩
theorem a_Ho_isFitting_10 : zAt 25 10 m_Ho_isFitting (.aload_n 0) 1 := ⟨hm_Ho_isFitting, by decide +kernel⟩
theorem a_Ho_isFitting_11 : zAt 25 11 m_Ho_isFitting (.getfield 14) 3 := ⟨hm_Ho_isFitting, by decide +kernel⟩
theorem a_Ho_isFitting_14 : zAt 25 14 m_Ho_isFitting (.iload_n 1) 1 := ⟨hm_Ho_isFitting, by decide +kernel⟩
theorem a_Ho_isFitting_15 : zAt 25 15 m_Ho_isFitting (.iconst 1) 1 := ⟨hm_Ho_isFitting, by decide +kernel⟩
theorem a_Ho_isFitting_16 : zAt 25 16 m_Ho_isFitting (.invokevirtual 59) 3 := ⟨hm_Ho_isFitting, by decide +kernel⟩
theorem a_Ho_isFitting_19 : zAt 25 19 m_Ho_isFitting (.istore 4) 2 := ⟨hm_Ho_isFitting, by decide +kernel⟩
theorem a_Ho_isFitting_21 : zAt 25 21 m_Ho_isFitting (.iload_n 3) 1 := ⟨hm_Ho_isFitting, by decide +kernel⟩
theorem a_Ho_isFitting_22 : zAt 25 22 m_Ho_isFitting (.iconst 4) 1 := ⟨hm_Ho_isFitting, by decide +kernel⟩
theorem a_Ho_isFitting_23 : zAt 25 23 m_Ho_isFitting (.if_icmp .eq 16) 3 := ⟨hm_Ho_isFitting, by decide +kernel⟩
theorem a_Ho_isFitting_26 : zAt 25 26 m_Ho_isFitting (.iload_n 3) 1 := ⟨hm_Ho_isFitting, by decide +kernel⟩
theorem a_Ho_isFitting_27 : zAt 25 27 m_Ho_isFitting (.aload_n 0) 1 := ⟨hm_Ho_isFitting, by decide +kernel⟩
theorem a_Ho_isFitting_28 : zAt 25 28 m_Ho_isFitting (.getfield 20) 3 := ⟨hm_Ho_isFitting, by decide +kernel⟩
theorem a_Ho_isFitting_31 : zAt 25 31 m_Ho_isFitting (.iload_n 2) 1 := ⟨hm_Ho_isFitting, by decide +kernel⟩
theorem a_Ho_isFitting_32 : zAt 25 32 m_Ho_isFitting (.iconst 4) 1 := ⟨hm_Ho_isFitting, by decide +kernel⟩
theorem a_Ho_isFitting_33 : zAt 25 33 m_Ho_isFitting (.invokevirtual 59) 3 := ⟨hm_Ho_isFitting, by decide +kernel⟩
theorem a_Ho_isFitting_36 : zAt 25 36 m_Ho_isFitting (.if_icmp .ne 27) 3 := ⟨hm_Ho_isFitting, by decide +kernel⟩
theorem a_Ho_isFitting_39 : zAt 25 39 m_Ho_isFitting (.iload 4) 2 := ⟨hm_Ho_isFitting, by decide +kernel⟩
theorem a_Ho_isFitting_41 : zAt 25 41 m_Ho_isFitting (.iconst 3) 1 := ⟨hm_Ho_isFitting, by decide +kernel⟩
theorem a_Ho_isFitting_42 : zAt 25 42 m_Ho_isFitting (.if_icmp .eq 17) 3 := ⟨hm_Ho_isFitting, by decide +kernel⟩
theorem a_Ho_isFitting_45 : zAt 25 45 m_Ho_isFitting (.iload 4) 2 := ⟨hm_Ho_isFitting, by decide +kernel⟩
theorem a_Ho_isFitting_47 : zAt 25 47 m_Ho_isFitting (.aload_n 0) 1 := ⟨hm_Ho_isFitting, by decide +kernel⟩
theorem a_Ho_isFitting_48 : zAt 25 48 m_Ho_isFitting (.getfield 20) 3 := ⟨hm_Ho_isFitting, by decide +kernel⟩
theorem a_Ho_isFitting_51 : zAt 25 51 m_Ho_isFitting (.iload_n 2) 1 := ⟨hm_Ho_isFitting, by decide +kernel⟩
theorem a_Ho_isFitting_52 : zAt 25 52 m_Ho_isFitting (.iconst 0) 1 := ⟨hm_Ho_isFitting, by decide +kernel⟩
theorem a_Ho_isFitting_53 : zAt 25 53 m_Ho_isFitting (.invokevirtual 59) 3 := ⟨hm_Ho_isFitting, by decide +kernel⟩
theorem a_Ho_isFitting_56 : zAt 25 56 m_Ho_isFitting (.if_icmp .ne 7) 3 := ⟨hm_Ho_isFitting, by decide +kernel⟩
theorem a_Ho_isFitting_59 : zAt 25 59 m_Ho_isFitting (.iconst 1) 1 := ⟨hm_Ho_isFitting, by decide +kernel⟩
theorem a_Ho_isFitting_60 : zAt 25 60 m_Ho_isFitting (.goto 4) 3 := ⟨hm_Ho_isFitting, by decide +kernel⟩
theorem a_Ho_isFitting_63 : zAt 25 63 m_Ho_isFitting (.iconst 0) 1 := ⟨hm_Ho_isFitting, by decide +kernel⟩
theorem a_Ho_isFitting_64 : zAt 25 64 m_Ho_isFitting (.ireturn) 1 := ⟨hm_Ho_isFitting, by decide +kernel⟩
theorem B_Ho_isFitting_0 {G : Nat → Nat → Int32} {x1 x2 : Int32} : zden 25 0 [.ref 2, .int x1, .int x2, .retAddr 0, .retAddr 0] [] (zSH, G) = if (tget G 3 4 55 x1 0) = 4 then zden 25 39 [.ref 2, .int x1, .int x2, .int (tget G 3 4 55 x1 0), .int (tget G 3 4 55 x1 1)] [] (zSH, G) else if ¬ (tget G 3 4 55 x1 0) = (tget G 5 6 276 x2 4) then some (some (.int 0), (zSH, G)) else zden 25 39 [.ref 2, .int x1, .int x2, .int (tget G 3 4 55 x1 0), .int (tget G 3 4 55 x1 1)] [] (zSH, G) :=
  (zd_aload_n a_Ho_isFitting_0 rfl).trans ((zd_getR (h := (zSH, G)) (ci := 2) (fi := 0) (a := 3) a_Ho_isFitting_1 (by decide +kernel) sh_2 rfl rfl).trans ((zd_iload_n a_Ho_isFitting_4 rfl).trans ((zd_iconst (v := 0) a_Ho_isFitting_5 (by decide)).trans ((zd_cal (kd := 0) (tg := 53) (T := m_Ta_get) a_Ho_isFitting_6 (by decide +kernel) hm_Ta_get rfl rfl rfl rfl).trans (((congrArg (zaft 25 9 [.ref 2, .int x1, .int x2, .retAddr 0, .retAddr 0] [] (zSH, G)) (sp_get (r := 3) (q := 4) (n := 55) sh_3 sh_4 rfl (by decide))).trans zaft_same).trans ((zd_istore_n a_Ho_isFitting_9 rfl rfl rfl).trans ((zd_aload_n a_Ho_isFitting_10 rfl).trans ((zd_getR (h := (zSH, G)) (ci := 2) (fi := 0) (a := 3) a_Ho_isFitting_11 (by decide +kernel) sh_2 rfl rfl).trans ((zd_iload_n a_Ho_isFitting_14 rfl).trans ((zd_iconst (v := 1) a_Ho_isFitting_15 (by decide)).trans ((zd_cal (kd := 0) (tg := 53) (T := m_Ta_get) a_Ho_isFitting_16 (by decide +kernel) hm_Ta_get rfl rfl rfl rfl).trans (((congrArg (zaft 25 19 [.ref 2, .int x1, .int x2, .int (tget G 3 4 55 x1 0), .retAddr 0] [] (zSH, G)) (sp_get (r := 3) (q := 4) (n := 55) sh_3 sh_4 rfl (by decide))).trans zaft_same).trans ((zd_istore a_Ho_isFitting_19 rfl rfl rfl).trans ((zd_iload_n a_Ho_isFitting_21 rfl).trans ((zd_iconst (v := 4) a_Ho_isFitting_22 (by decide)).trans ((zd_icmp_eq a_Ho_isFitting_23 rfl).trans (zite (rfl) ((zd_iload_n a_Ho_isFitting_26 rfl).trans ((zd_aload_n a_Ho_isFitting_27 rfl).trans ((zd_getR (h := (zSH, G)) (ci := 2) (fi := 1) (a := 5) a_Ho_isFitting_28 (by decide +kernel) sh_2 rfl rfl).trans ((zd_iload_n a_Ho_isFitting_31 rfl).trans ((zd_iconst (v := 4) a_Ho_isFitting_32 (by decide)).trans ((zd_cal (kd := 0) (tg := 53) (T := m_Ta_get) a_Ho_isFitting_33 (by decide +kernel) hm_Ta_get rfl rfl rfl rfl).trans (((congrArg (zaft 25 36 [.ref 2, .int x1, .int x2, .int (tget G 3 4 55 x1 0), .int (tget G 3 4 55 x1 1)] [.int (tget G 3 4 55 x1 0)] (zSH, G)) (sp_get (r := 5) (q := 6) (n := 276) sh_5 sh_6 rfl (by decide))).trans zaft_same).trans ((zd_icmp_ne a_Ho_isFitting_36 rfl).trans (zite ((zd_iconst (v := 0) a_Ho_isFitting_63 (by decide)).trans (zd_iret a_Ho_isFitting_64 rfl (by decide))) (rfl)))))))))))))))))))))))))))
theorem B_Ho_isFitting_39 {G : Nat → Nat → Int32} {x1 x2 x3 x4 : Int32} : zden 25 39 [.ref 2, .int x1, .int x2, .int x3, .int x4] [] (zSH, G) = if x4 = 3 then zden 25 59 [.ref 2, .int x1, .int x2, .int x3, .int x4] [] (zSH, G) else if ¬ x4 = (tget G 5 6 276 x2 0) then some (some (.int 0), (zSH, G)) else zden 25 59 [.ref 2, .int x1, .int x2, .int x3, .int x4] [] (zSH, G) :=
  (zd_iload a_Ho_isFitting_39 rfl).trans ((zd_iconst (v := 3) a_Ho_isFitting_41 (by decide)).trans ((zd_icmp_eq a_Ho_isFitting_42 rfl).trans (zite (rfl) ((zd_iload a_Ho_isFitting_45 rfl).trans ((zd_aload_n a_Ho_isFitting_47 rfl).trans ((zd_getR (h := (zSH, G)) (ci := 2) (fi := 1) (a := 5) a_Ho_isFitting_48 (by decide +kernel) sh_2 rfl rfl).trans ((zd_iload_n a_Ho_isFitting_51 rfl).trans ((zd_iconst (v := 0) a_Ho_isFitting_52 (by decide)).trans ((zd_cal (kd := 0) (tg := 53) (T := m_Ta_get) a_Ho_isFitting_53 (by decide +kernel) hm_Ta_get rfl rfl rfl rfl).trans (((congrArg (zaft 25 56 [.ref 2, .int x1, .int x2, .int x3, .int x4] [.int x4] (zSH, G)) (sp_get (r := 5) (q := 6) (n := 276) sh_5 sh_6 rfl (by decide))).trans zaft_same).trans ((zd_icmp_ne a_Ho_isFitting_56 rfl).trans (zite ((zd_iconst (v := 0) a_Ho_isFitting_63 (by decide)).trans (zd_iret a_Ho_isFitting_64 rfl (by decide))) (rfl)))))))))))))
theorem B_Ho_isFitting_59 {G : Nat → Nat → Int32} {x1 x2 x3 x4 : Int32} : zden 25 59 [.ref 2, .int x1, .int x2, .int x3, .int x4] [] (zSH, G) = some (some (.int 1), (zSH, G)) :=
  (zd_iconst (v := 1) a_Ho_isFitting_59 (by decide)).trans ((zd_goto a_Ho_isFitting_60 rfl).trans (zd_iret a_Ho_isFitting_64 rfl (by decide)))
theorem a_Ho_rankOf_0 : zAt 26 0 m_Ho_rankOf (.aload_n 0) 1 := ⟨hm_Ho_rankOf, by decide +kernel⟩
theorem a_Ho_rankOf_1 : zAt 26 1 m_Ho_rankOf (.getfield 14) 3 := ⟨hm_Ho_rankOf, by decide +kernel⟩
theorem a_Ho_rankOf_4 : zAt 26 4 m_Ho_rankOf (.iload_n 1) 1 := ⟨hm_Ho_rankOf, by decide +kernel⟩
theorem a_Ho_rankOf_5 : zAt 26 5 m_Ho_rankOf (.iconst 4) 1 := ⟨hm_Ho_rankOf, by decide +kernel⟩
theorem a_Ho_rankOf_6 : zAt 26 6 m_Ho_rankOf (.invokevirtual 59) 3 := ⟨hm_Ho_rankOf, by decide +kernel⟩
theorem a_Ho_rankOf_9 : zAt 26 9 m_Ho_rankOf (.istore_n 2) 1 := ⟨hm_Ho_rankOf, by decide +kernel⟩
theorem a_Ho_rankOf_10 : zAt 26 10 m_Ho_rankOf (.iload_n 2) 1 := ⟨hm_Ho_rankOf, by decide +kernel⟩
theorem a_Ho_rankOf_11 : zAt 26 11 m_Ho_rankOf (.bipush 99) 2 := ⟨hm_Ho_rankOf, by decide +kernel⟩
theorem a_Ho_rankOf_13 : zAt 26 13 m_Ho_rankOf (.if_icmp .ne 7) 3 := ⟨hm_Ho_rankOf, by decide +kernel⟩
theorem a_Ho_rankOf_16 : zAt 26 16 m_Ho_rankOf (.iconst 0) 1 := ⟨hm_Ho_rankOf, by decide +kernel⟩
theorem a_Ho_rankOf_17 : zAt 26 17 m_Ho_rankOf (.goto 4) 3 := ⟨hm_Ho_rankOf, by decide +kernel⟩
theorem a_Ho_rankOf_20 : zAt 26 20 m_Ho_rankOf (.iload_n 2) 1 := ⟨hm_Ho_rankOf, by decide +kernel⟩
theorem a_Ho_rankOf_21 : zAt 26 21 m_Ho_rankOf (.istore_n 3) 1 := ⟨hm_Ho_rankOf, by decide +kernel⟩
theorem a_Ho_rankOf_22 : zAt 26 22 m_Ho_rankOf (.aload_n 0) 1 := ⟨hm_Ho_rankOf, by decide +kernel⟩
theorem a_Ho_rankOf_23 : zAt 26 23 m_Ho_rankOf (.getfield 14) 3 := ⟨hm_Ho_rankOf, by decide +kernel⟩
theorem a_Ho_rankOf_26 : zAt 26 26 m_Ho_rankOf (.iload_n 1) 1 := ⟨hm_Ho_rankOf, by decide +kernel⟩
theorem a_Ho_rankOf_27 : zAt 26 27 m_Ho_rankOf (.iconst 1) 1 := ⟨hm_Ho_rankOf, by decide +kernel⟩
theorem a_Ho_rankOf_28 : zAt 26 28 m_Ho_rankOf (.invokevirtual 59) 3 := ⟨hm_Ho_rankOf, by decide +kernel⟩
theorem a_Ho_rankOf_31 : zAt 26 31 m_Ho_rankOf (.iconst 3) 1 := ⟨hm_Ho_rankOf, by decide +kernel⟩
theorem a_Ho_rankOf_32 : zAt 26 32 m_Ho_rankOf (.if_icmp .eq 6) 3 := ⟨hm_Ho_rankOf, by decide +kernel⟩
theorem a_Ho_rankOf_35 : zAt 26 35 m_Ho_rankOf (.iinc 3 100) 3 := ⟨hm_Ho_rankOf, by decide +kernel⟩
theorem a_Ho_rankOf_38 : zAt 26 38 m_Ho_rankOf (.aload_n 0) 1 := ⟨hm_Ho_rankOf, by decide +kernel⟩
theorem a_Ho_rankOf_39 : zAt 26 39 m_Ho_rankOf (.getfield 14) 3 := ⟨hm_Ho_rankOf, by decide +kernel⟩
theorem a_Ho_rankOf_42 : zAt 26 42 m_Ho_rankOf (.iload_n 1) 1 := ⟨hm_Ho_rankOf, by decide +kernel⟩
theorem a_Ho_rankOf_43 : zAt 26 43 m_Ho_rankOf (.iconst 0) 1 := ⟨hm_Ho_rankOf, by decide +kernel⟩
theorem a_Ho_rankOf_44 : zAt 26 44 m_Ho_rankOf (.invokevirtual 59) 3 := ⟨hm_Ho_rankOf, by decide +kernel⟩
theorem a_Ho_rankOf_47 : zAt 26 47 m_Ho_rankOf (.iconst 4) 1 := ⟨hm_Ho_rankOf, by decide +kernel⟩
theorem a_Ho_rankOf_48 : zAt 26 48 m_Ho_rankOf (.if_icmp .eq 9) 3 := ⟨hm_Ho_rankOf, by decide +kernel⟩
theorem a_Ho_rankOf_51 : zAt 26 51 m_Ho_rankOf (.iinc 3 200) 6 := ⟨hm_Ho_rankOf, by decide +kernel⟩
theorem a_Ho_rankOf_57 : zAt 26 57 m_Ho_rankOf (.iload_n 3) 1 := ⟨hm_Ho_rankOf, by decide +kernel⟩
theorem a_Ho_rankOf_58 : zAt 26 58 m_Ho_rankOf (.ireturn) 1 := ⟨hm_Ho_rankOf, by decide +kernel⟩
theorem B_Ho_rankOf_0 {G : Nat → Nat → Int32} {x1 : Int32} : zden 26 0 [.ref 2, .int x1, .retAddr 0, .retAddr 0] [] (zSH, G) = if ¬ (tget G 3 4 55 x1 4) = 99 then zden 26 21 [.ref 2, .int x1, .int (tget G 3 4 55 x1 4), .retAddr 0] [.int (tget G 3 4 55 x1 4)] (zSH, G) else zden 26 21 [.ref 2, .int x1, .int (tget G 3 4 55 x1 4), .retAddr 0] [.int 0] (zSH, G) :=
  (zd_aload_n a_Ho_rankOf_0 rfl).trans ((zd_getR (h := (zSH, G)) (ci := 2) (fi := 0) (a := 3) a_Ho_rankOf_1 (by decide +kernel) sh_2 rfl rfl).trans ((zd_iload_n a_Ho_rankOf_4 rfl).trans ((zd_iconst (v := 4) a_Ho_rankOf_5 (by decide)).trans ((zd_cal (kd := 0) (tg := 53) (T := m_Ta_get) a_Ho_rankOf_6 (by decide +kernel) hm_Ta_get rfl rfl rfl rfl).trans (((congrArg (zaft 26 9 [.ref 2, .int x1, .retAddr 0, .retAddr 0] [] (zSH, G)) (sp_get (r := 3) (q := 4) (n := 55) sh_3 sh_4 rfl (by decide))).trans zaft_same).trans ((zd_istore_n a_Ho_rankOf_9 rfl rfl rfl).trans ((zd_iload_n a_Ho_rankOf_10 rfl).trans ((zd_bipush (v := 99) a_Ho_rankOf_11 (by decide)).trans ((zd_icmp_ne a_Ho_rankOf_13 rfl).trans (zite ((zd_iload_n a_Ho_rankOf_20 rfl)) ((zd_iconst (v := 0) a_Ho_rankOf_16 (by decide)).trans ((zd_goto a_Ho_rankOf_17 rfl)))))))))))))
theorem B_Ho_rankOf_21 {G : Nat → Nat → Int32} {x1 x2 s0 : Int32} : zden 26 21 [.ref 2, .int x1, .int x2, .retAddr 0] [.int s0] (zSH, G) = if (tget G 3 4 55 x1 1) = 3 then zden 26 38 [.ref 2, .int x1, .int x2, .int s0] [] (zSH, G) else zden 26 38 [.ref 2, .int x1, .int x2, .int (s0 + 100)] [] (zSH, G) :=
  (zd_istore_n a_Ho_rankOf_21 rfl rfl rfl).trans ((zd_aload_n a_Ho_rankOf_22 rfl).trans ((zd_getR (h := (zSH, G)) (ci := 2) (fi := 0) (a := 3) a_Ho_rankOf_23 (by decide +kernel) sh_2 rfl rfl).trans ((zd_iload_n a_Ho_rankOf_26 rfl).trans ((zd_iconst (v := 1) a_Ho_rankOf_27 (by decide)).trans ((zd_cal (kd := 0) (tg := 53) (T := m_Ta_get) a_Ho_rankOf_28 (by decide +kernel) hm_Ta_get rfl rfl rfl rfl).trans (((congrArg (zaft 26 31 [.ref 2, .int x1, .int x2, .int s0] [] (zSH, G)) (sp_get (r := 3) (q := 4) (n := 55) sh_3 sh_4 rfl (by decide))).trans zaft_same).trans ((zd_iconst (v := 3) a_Ho_rankOf_31 (by decide)).trans ((zd_icmp_eq a_Ho_rankOf_32 rfl).trans (zite (rfl) ((zd_iinc (v := 100) a_Ho_rankOf_35 rfl (by decide) rfl rfl rfl)))))))))))
theorem B_Ho_rankOf_38 {G : Nat → Nat → Int32} {x1 x2 x3 : Int32} : zden 26 38 [.ref 2, .int x1, .int x2, .int x3] [] (zSH, G) = if (tget G 3 4 55 x1 0) = 4 then some (some (.int x3), (zSH, G)) else some (some (.int (x3 + 200)), (zSH, G)) :=
  (zd_aload_n a_Ho_rankOf_38 rfl).trans ((zd_getR (h := (zSH, G)) (ci := 2) (fi := 0) (a := 3) a_Ho_rankOf_39 (by decide +kernel) sh_2 rfl rfl).trans ((zd_iload_n a_Ho_rankOf_42 rfl).trans ((zd_iconst (v := 0) a_Ho_rankOf_43 (by decide)).trans ((zd_cal (kd := 0) (tg := 53) (T := m_Ta_get) a_Ho_rankOf_44 (by decide +kernel) hm_Ta_get rfl rfl rfl rfl).trans (((congrArg (zaft 26 47 [.ref 2, .int x1, .int x2, .int x3] [] (zSH, G)) (sp_get (r := 3) (q := 4) (n := 55) sh_3 sh_4 rfl (by decide))).trans zaft_same).trans ((zd_iconst (v := 4) a_Ho_rankOf_47 (by decide)).trans ((zd_icmp_eq a_Ho_rankOf_48 rfl).trans (zite ((zd_iload_n a_Ho_rankOf_57 rfl).trans (zd_iret a_Ho_rankOf_58 rfl (znr_int _))) ((zd_iinc (v := 200) a_Ho_rankOf_51 rfl (by decide) rfl rfl rfl).trans ((zd_iload_n a_Ho_rankOf_57 rfl).trans (zd_iret a_Ho_rankOf_58 rfl (znr_int _))))))))))))
theorem a_Ho_fittingRow_0 : zAt 24 0 m_Ho_fittingRow (.iconst (-1)) 1 := ⟨hm_Ho_fittingRow, by decide +kernel⟩
theorem a_Ho_fittingRow_1 : zAt 24 1 m_Ho_fittingRow (.istore_n 3) 1 := ⟨hm_Ho_fittingRow, by decide +kernel⟩
theorem a_Ho_fittingRow_2 : zAt 24 2 m_Ho_fittingRow (.iconst (-1)) 1 := ⟨hm_Ho_fittingRow, by decide +kernel⟩
theorem a_Ho_fittingRow_3 : zAt 24 3 m_Ho_fittingRow (.istore 4) 2 := ⟨hm_Ho_fittingRow, by decide +kernel⟩
theorem a_Ho_fittingRow_5 : zAt 24 5 m_Ho_fittingRow (.iconst 0) 1 := ⟨hm_Ho_fittingRow, by decide +kernel⟩
theorem a_Ho_fittingRow_6 : zAt 24 6 m_Ho_fittingRow (.istore 5) 2 := ⟨hm_Ho_fittingRow, by decide +kernel⟩
theorem a_Ho_fittingRow_8 : zAt 24 8 m_Ho_fittingRow (.iload 5) 2 := ⟨hm_Ho_fittingRow, by decide +kernel⟩
theorem a_Ho_fittingRow_10 : zAt 24 10 m_Ho_fittingRow (.aload_n 0) 1 := ⟨hm_Ho_fittingRow, by decide +kernel⟩
theorem a_Ho_fittingRow_11 : zAt 24 11 m_Ho_fittingRow (.getfield 30) 3 := ⟨hm_Ho_fittingRow, by decide +kernel⟩
theorem a_Ho_fittingRow_14 : zAt 24 14 m_Ho_fittingRow (.if_icmp .ge 51) 3 := ⟨hm_Ho_fittingRow, by decide +kernel⟩
theorem a_Ho_fittingRow_17 : zAt 24 17 m_Ho_fittingRow (.aload_n 0) 1 := ⟨hm_Ho_fittingRow, by decide +kernel⟩
theorem a_Ho_fittingRow_18 : zAt 24 18 m_Ho_fittingRow (.iload 5) 2 := ⟨hm_Ho_fittingRow, by decide +kernel⟩
theorem a_Ho_fittingRow_20 : zAt 24 20 m_Ho_fittingRow (.iload_n 1) 1 := ⟨hm_Ho_fittingRow, by decide +kernel⟩
theorem a_Ho_fittingRow_21 : zAt 24 21 m_Ho_fittingRow (.invokevirtual 63) 3 := ⟨hm_Ho_fittingRow, by decide +kernel⟩
theorem a_Ho_fittingRow_24 : zAt 24 24 m_Ho_fittingRow (.ifCond .eq 12) 3 := ⟨hm_Ho_fittingRow, by decide +kernel⟩
theorem a_Ho_fittingRow_27 : zAt 24 27 m_Ho_fittingRow (.aload_n 0) 1 := ⟨hm_Ho_fittingRow, by decide +kernel⟩
theorem a_Ho_fittingRow_28 : zAt 24 28 m_Ho_fittingRow (.iload 5) 2 := ⟨hm_Ho_fittingRow, by decide +kernel⟩
theorem a_Ho_fittingRow_30 : zAt 24 30 m_Ho_fittingRow (.invokevirtual 67) 3 := ⟨hm_Ho_fittingRow, by decide +kernel⟩
theorem a_Ho_fittingRow_33 : zAt 24 33 m_Ho_fittingRow (.goto 4) 3 := ⟨hm_Ho_fittingRow, by decide +kernel⟩
theorem a_Ho_fittingRow_36 : zAt 24 36 m_Ho_fittingRow (.iconst (-1)) 1 := ⟨hm_Ho_fittingRow, by decide +kernel⟩
theorem a_Ho_fittingRow_37 : zAt 24 37 m_Ho_fittingRow (.istore 6) 2 := ⟨hm_Ho_fittingRow, by decide +kernel⟩
theorem a_Ho_fittingRow_39 : zAt 24 39 m_Ho_fittingRow (.iload 6) 2 := ⟨hm_Ho_fittingRow, by decide +kernel⟩
theorem a_Ho_fittingRow_41 : zAt 24 41 m_Ho_fittingRow (.iload_n 2) 1 := ⟨hm_Ho_fittingRow, by decide +kernel⟩
theorem a_Ho_fittingRow_42 : zAt 24 42 m_Ho_fittingRow (.if_icmp .ge 17) 3 := ⟨hm_Ho_fittingRow, by decide +kernel⟩
theorem a_Ho_fittingRow_45 : zAt 24 45 m_Ho_fittingRow (.iload 6) 2 := ⟨hm_Ho_fittingRow, by decide +kernel⟩
theorem a_Ho_fittingRow_47 : zAt 24 47 m_Ho_fittingRow (.iload 4) 2 := ⟨hm_Ho_fittingRow, by decide +kernel⟩
theorem a_Ho_fittingRow_49 : zAt 24 49 m_Ho_fittingRow (.if_icmp .le 10) 3 := ⟨hm_Ho_fittingRow, by decide +kernel⟩
theorem a_Ho_fittingRow_52 : zAt 24 52 m_Ho_fittingRow (.iload 5) 2 := ⟨hm_Ho_fittingRow, by decide +kernel⟩
theorem a_Ho_fittingRow_54 : zAt 24 54 m_Ho_fittingRow (.istore_n 3) 1 := ⟨hm_Ho_fittingRow, by decide +kernel⟩
theorem a_Ho_fittingRow_55 : zAt 24 55 m_Ho_fittingRow (.iload 6) 2 := ⟨hm_Ho_fittingRow, by decide +kernel⟩
theorem a_Ho_fittingRow_57 : zAt 24 57 m_Ho_fittingRow (.istore 4) 2 := ⟨hm_Ho_fittingRow, by decide +kernel⟩
theorem a_Ho_fittingRow_59 : zAt 24 59 m_Ho_fittingRow (.iinc 5 1) 3 := ⟨hm_Ho_fittingRow, by decide +kernel⟩
theorem a_Ho_fittingRow_62 : zAt 24 62 m_Ho_fittingRow (.goto (-54)) 3 := ⟨hm_Ho_fittingRow, by decide +kernel⟩
theorem a_Ho_fittingRow_65 : zAt 24 65 m_Ho_fittingRow (.iload_n 3) 1 := ⟨hm_Ho_fittingRow, by decide +kernel⟩
theorem a_Ho_fittingRow_66 : zAt 24 66 m_Ho_fittingRow (.ireturn) 1 := ⟨hm_Ho_fittingRow, by decide +kernel⟩
theorem B_Ho_fittingRow_0 {G : Nat → Nat → Int32} {x1 x2 : Int32} : zden 24 0 [.ref 2, .int x1, .int x2, .retAddr 0, .retAddr 0, .retAddr 0, .retAddr 0] [] (zSH, G) = zden 24 8 [.ref 2, .int x1, .int x2, .int (-1), .int (-1), .int 0, .retAddr 0] [] (zSH, G) :=
  (zd_iconst (v := (-1)) a_Ho_fittingRow_0 (by decide)).trans ((zd_istore_n a_Ho_fittingRow_1 rfl rfl rfl).trans ((zd_iconst (v := (-1)) a_Ho_fittingRow_2 (by decide)).trans ((zd_istore a_Ho_fittingRow_3 rfl rfl rfl).trans ((zd_iconst (v := 0) a_Ho_fittingRow_5 (by decide)).trans ((zd_istore a_Ho_fittingRow_6 rfl rfl rfl))))))
theorem B_Ho_fittingRow_8 {G : Nat → Nat → Int32} {x1 x2 x3 x4 x5 : Int32} {v6 : Value} : zden 24 8 [.ref 2, .int x1, .int x2, .int x3, .int x4, .int x5, v6] [] (zSH, G) = if (G 2 3) ≤ x5 then some (some (.int x3), (zSH, G)) else zaft 24 24 [.ref 2, .int x1, .int x2, .int x3, .int x4, .int x5, v6] [] (zSH, G) (zden 25 0 [.ref 2, .int x5, .int x1, .retAddr 0, .retAddr 0] [] (zSH, G)) :=
  (zd_iload a_Ho_fittingRow_8 rfl).trans ((zd_aload_n a_Ho_fittingRow_10 rfl).trans ((zd_getI (h := (zSH, G)) (ci := 2) (fi := 3) a_Ho_fittingRow_11 (by decide +kernel) sh_2 rfl).trans ((zd_icmp_ge a_Ho_fittingRow_14 rfl).trans (zite ((zd_iload_n a_Ho_fittingRow_65 rfl).trans (zd_iret a_Ho_fittingRow_66 rfl (znr_int _))) ((zd_aload_n a_Ho_fittingRow_17 rfl).trans ((zd_iload a_Ho_fittingRow_18 rfl).trans ((zd_iload_n a_Ho_fittingRow_20 rfl).trans ((zd_cal (kd := 0) (tg := 25) (T := m_Ho_isFitting) a_Ho_fittingRow_21 (by decide +kernel) hm_Ho_isFitting rfl rfl rfl rfl)))))))))
theorem B_Ho_fittingRow_24 {G : Nat → Nat → Int32} {x1 x2 x3 x4 x5 s0 : Int32} {v6 : Value} : zden 24 24 [.ref 2, .int x1, .int x2, .int x3, .int x4, .int x5, v6] [.int s0] (zSH, G) = if s0 = 0 then zden 24 37 [.ref 2, .int x1, .int x2, .int x3, .int x4, .int x5, v6] [.int (-1)] (zSH, G) else zaft 24 33 [.ref 2, .int x1, .int x2, .int x3, .int x4, .int x5, v6] [] (zSH, G) (zden 26 0 [.ref 2, .int x5, .retAddr 0, .retAddr 0] [] (zSH, G)) :=
  (zd_if_eq a_Ho_fittingRow_24 rfl).trans (zite ((zd_iconst (v := (-1)) a_Ho_fittingRow_36 (by decide))) ((zd_aload_n a_Ho_fittingRow_27 rfl).trans ((zd_iload a_Ho_fittingRow_28 rfl).trans ((zd_cal (kd := 0) (tg := 26) (T := m_Ho_rankOf) a_Ho_fittingRow_30 (by decide +kernel) hm_Ho_rankOf rfl rfl rfl rfl)))))
theorem B_Ho_fittingRow_33 {G : Nat → Nat → Int32} {x1 x2 x3 x4 x5 s0 : Int32} {v6 : Value} : zden 24 33 [.ref 2, .int x1, .int x2, .int x3, .int x4, .int x5, v6] [.int s0] (zSH, G) = zden 24 37 [.ref 2, .int x1, .int x2, .int x3, .int x4, .int x5, v6] [.int s0] (zSH, G) :=
  (zd_goto a_Ho_fittingRow_33 rfl)
theorem B_Ho_fittingRow_37 {G : Nat → Nat → Int32} {x1 x2 x3 x4 x5 s0 : Int32} {v6 : Value} : zden 24 37 [.ref 2, .int x1, .int x2, .int x3, .int x4, .int x5, v6] [.int s0] (zSH, G) = if x2 ≤ s0 then zden 24 59 [.ref 2, .int x1, .int x2, .int x3, .int x4, .int x5, .int s0] [] (zSH, G) else if s0 ≤ x4 then zden 24 59 [.ref 2, .int x1, .int x2, .int x3, .int x4, .int x5, .int s0] [] (zSH, G) else zden 24 59 [.ref 2, .int x1, .int x2, .int x5, .int s0, .int x5, .int s0] [] (zSH, G) :=
  (zd_istore a_Ho_fittingRow_37 rfl rfl rfl).trans ((zd_iload a_Ho_fittingRow_39 rfl).trans ((zd_iload_n a_Ho_fittingRow_41 rfl).trans ((zd_icmp_ge a_Ho_fittingRow_42 rfl).trans (zite (rfl) ((zd_iload a_Ho_fittingRow_45 rfl).trans ((zd_iload a_Ho_fittingRow_47 rfl).trans ((zd_icmp_le a_Ho_fittingRow_49 rfl).trans (zite (rfl) ((zd_iload a_Ho_fittingRow_52 rfl).trans ((zd_istore_n a_Ho_fittingRow_54 rfl rfl rfl).trans ((zd_iload a_Ho_fittingRow_55 rfl).trans ((zd_istore a_Ho_fittingRow_57 rfl rfl rfl)))))))))))))
theorem B_Ho_fittingRow_59 {G : Nat → Nat → Int32} {x1 x2 x3 x4 x5 x6 : Int32} : zden 24 59 [.ref 2, .int x1, .int x2, .int x3, .int x4, .int x5, .int x6] [] (zSH, G) = zden 24 8 [.ref 2, .int x1, .int x2, .int x3, .int x4, .int (x5 + 1), .int x6] [] (zSH, G) :=
  (zd_iinc (v := 1) a_Ho_fittingRow_59 rfl (by decide) rfl rfl rfl).trans ((zd_goto a_Ho_fittingRow_62 rfl))
theorem a_Ho_fittingRowAt_0 : zAt 30 0 m_Ho_fittingRowAt (.aload_n 0) 1 := ⟨hm_Ho_fittingRowAt, by decide +kernel⟩
theorem a_Ho_fittingRowAt_1 : zAt 30 1 m_Ho_fittingRowAt (.iload_n 1) 1 := ⟨hm_Ho_fittingRowAt, by decide +kernel⟩
theorem a_Ho_fittingRowAt_2 : zAt 30 2 m_Ho_fittingRowAt (.sipush 1000) 3 := ⟨hm_Ho_fittingRowAt, by decide +kernel⟩
theorem a_Ho_fittingRowAt_5 : zAt 30 5 m_Ho_fittingRowAt (.invokevirtual 71) 3 := ⟨hm_Ho_fittingRowAt, by decide +kernel⟩
theorem a_Ho_fittingRowAt_8 : zAt 30 8 m_Ho_fittingRowAt (.istore_n 3) 1 := ⟨hm_Ho_fittingRowAt, by decide +kernel⟩
theorem a_Ho_fittingRowAt_9 : zAt 30 9 m_Ho_fittingRowAt (.iconst 0) 1 := ⟨hm_Ho_fittingRowAt, by decide +kernel⟩
theorem a_Ho_fittingRowAt_10 : zAt 30 10 m_Ho_fittingRowAt (.istore 4) 2 := ⟨hm_Ho_fittingRowAt, by decide +kernel⟩
theorem a_Ho_fittingRowAt_12 : zAt 30 12 m_Ho_fittingRowAt (.iload 4) 2 := ⟨hm_Ho_fittingRowAt, by decide +kernel⟩
theorem a_Ho_fittingRowAt_14 : zAt 30 14 m_Ho_fittingRowAt (.iload_n 2) 1 := ⟨hm_Ho_fittingRowAt, by decide +kernel⟩
theorem a_Ho_fittingRowAt_15 : zAt 30 15 m_Ho_fittingRowAt (.if_icmp .ge 24) 3 := ⟨hm_Ho_fittingRowAt, by decide +kernel⟩
theorem a_Ho_fittingRowAt_18 : zAt 30 18 m_Ho_fittingRowAt (.iload_n 3) 1 := ⟨hm_Ho_fittingRowAt, by decide +kernel⟩
theorem a_Ho_fittingRowAt_19 : zAt 30 19 m_Ho_fittingRowAt (.ifCond .lt 20) 3 := ⟨hm_Ho_fittingRowAt, by decide +kernel⟩
theorem a_Ho_fittingRowAt_22 : zAt 30 22 m_Ho_fittingRowAt (.aload_n 0) 1 := ⟨hm_Ho_fittingRowAt, by decide +kernel⟩
theorem a_Ho_fittingRowAt_23 : zAt 30 23 m_Ho_fittingRowAt (.iload_n 1) 1 := ⟨hm_Ho_fittingRowAt, by decide +kernel⟩
theorem a_Ho_fittingRowAt_24 : zAt 30 24 m_Ho_fittingRowAt (.aload_n 0) 1 := ⟨hm_Ho_fittingRowAt, by decide +kernel⟩
theorem a_Ho_fittingRowAt_25 : zAt 30 25 m_Ho_fittingRowAt (.iload_n 3) 1 := ⟨hm_Ho_fittingRowAt, by decide +kernel⟩
theorem a_Ho_fittingRowAt_26 : zAt 30 26 m_Ho_fittingRowAt (.invokevirtual 67) 3 := ⟨hm_Ho_fittingRowAt, by decide +kernel⟩
theorem a_Ho_fittingRowAt_29 : zAt 30 29 m_Ho_fittingRowAt (.invokevirtual 71) 3 := ⟨hm_Ho_fittingRowAt, by decide +kernel⟩
theorem a_Ho_fittingRowAt_32 : zAt 30 32 m_Ho_fittingRowAt (.istore_n 3) 1 := ⟨hm_Ho_fittingRowAt, by decide +kernel⟩
theorem a_Ho_fittingRowAt_33 : zAt 30 33 m_Ho_fittingRowAt (.iinc 4 1) 3 := ⟨hm_Ho_fittingRowAt, by decide +kernel⟩
theorem a_Ho_fittingRowAt_36 : zAt 30 36 m_Ho_fittingRowAt (.goto (-24)) 3 := ⟨hm_Ho_fittingRowAt, by decide +kernel⟩
theorem a_Ho_fittingRowAt_39 : zAt 30 39 m_Ho_fittingRowAt (.iload_n 3) 1 := ⟨hm_Ho_fittingRowAt, by decide +kernel⟩
theorem a_Ho_fittingRowAt_40 : zAt 30 40 m_Ho_fittingRowAt (.ireturn) 1 := ⟨hm_Ho_fittingRowAt, by decide +kernel⟩
theorem B_Ho_fittingRowAt_0 {G : Nat → Nat → Int32} {x1 x2 : Int32} : zden 30 0 [.ref 2, .int x1, .int x2, .retAddr 0, .retAddr 0] [] (zSH, G) = zaft 30 8 [.ref 2, .int x1, .int x2, .retAddr 0, .retAddr 0] [] (zSH, G) (zden 24 0 [.ref 2, .int x1, .int 1000, .retAddr 0, .retAddr 0, .retAddr 0, .retAddr 0] [] (zSH, G)) :=
  (zd_aload_n a_Ho_fittingRowAt_0 rfl).trans ((zd_iload_n a_Ho_fittingRowAt_1 rfl).trans ((zd_sipush (v := 1000) a_Ho_fittingRowAt_2 (by decide)).trans ((zd_cal (kd := 0) (tg := 24) (T := m_Ho_fittingRow) a_Ho_fittingRowAt_5 (by decide +kernel) hm_Ho_fittingRow rfl rfl rfl rfl))))
theorem B_Ho_fittingRowAt_8 {G : Nat → Nat → Int32} {x1 x2 s0 : Int32} : zden 30 8 [.ref 2, .int x1, .int x2, .retAddr 0, .retAddr 0] [.int s0] (zSH, G) = zden 30 12 [.ref 2, .int x1, .int x2, .int s0, .int 0] [] (zSH, G) :=
  (zd_istore_n a_Ho_fittingRowAt_8 rfl rfl rfl).trans ((zd_iconst (v := 0) a_Ho_fittingRowAt_9 (by decide)).trans ((zd_istore a_Ho_fittingRowAt_10 rfl rfl rfl)))
theorem B_Ho_fittingRowAt_12 {G : Nat → Nat → Int32} {x1 x2 x3 x4 : Int32} : zden 30 12 [.ref 2, .int x1, .int x2, .int x3, .int x4] [] (zSH, G) = if x2 ≤ x4 then some (some (.int x3), (zSH, G)) else if x3 < 0 then some (some (.int x3), (zSH, G)) else zaft 30 29 [.ref 2, .int x1, .int x2, .int x3, .int x4] [.int x1, .ref 2] (zSH, G) (zden 26 0 [.ref 2, .int x3, .retAddr 0, .retAddr 0] [] (zSH, G)) :=
  (zd_iload a_Ho_fittingRowAt_12 rfl).trans ((zd_iload_n a_Ho_fittingRowAt_14 rfl).trans ((zd_icmp_ge a_Ho_fittingRowAt_15 rfl).trans (zite ((zd_iload_n a_Ho_fittingRowAt_39 rfl).trans (zd_iret a_Ho_fittingRowAt_40 rfl (znr_int _))) ((zd_iload_n a_Ho_fittingRowAt_18 rfl).trans ((zd_if_lt a_Ho_fittingRowAt_19 rfl).trans (zite ((zd_iload_n a_Ho_fittingRowAt_39 rfl).trans (zd_iret a_Ho_fittingRowAt_40 rfl (znr_int _))) ((zd_aload_n a_Ho_fittingRowAt_22 rfl).trans ((zd_iload_n a_Ho_fittingRowAt_23 rfl).trans ((zd_aload_n a_Ho_fittingRowAt_24 rfl).trans ((zd_iload_n a_Ho_fittingRowAt_25 rfl).trans ((zd_cal (kd := 0) (tg := 26) (T := m_Ho_rankOf) a_Ho_fittingRowAt_26 (by decide +kernel) hm_Ho_rankOf rfl rfl rfl rfl))))))))))))
theorem B_Ho_fittingRowAt_29 {G : Nat → Nat → Int32} {x1 x2 x3 x4 s0 s1 : Int32} : zden 30 29 [.ref 2, .int x1, .int x2, .int x3, .int x4] [.int s0, .int s1, .ref 2] (zSH, G) = zaft 30 32 [.ref 2, .int x1, .int x2, .int x3, .int x4] [] (zSH, G) (zden 24 0 [.ref 2, .int s1, .int s0, .retAddr 0, .retAddr 0, .retAddr 0, .retAddr 0] [] (zSH, G)) :=
  (zd_cal (kd := 0) (tg := 24) (T := m_Ho_fittingRow) a_Ho_fittingRowAt_29 (by decide +kernel) hm_Ho_fittingRow rfl rfl rfl rfl)
theorem B_Ho_fittingRowAt_32 {G : Nat → Nat → Int32} {x1 x2 x3 x4 s0 : Int32} : zden 30 32 [.ref 2, .int x1, .int x2, .int x3, .int x4] [.int s0] (zSH, G) = zden 30 12 [.ref 2, .int x1, .int x2, .int s0, .int (x4 + 1)] [] (zSH, G) :=
  (zd_istore_n a_Ho_fittingRowAt_32 rfl rfl rfl).trans ((zd_iinc (v := 1) a_Ho_fittingRowAt_33 rfl (by decide) rfl rfl rfl).trans ((zd_goto a_Ho_fittingRowAt_36 rfl)))
theorem a_Ho_isAhead_0 : zAt 32 0 m_Ho_isAhead (.aload_n 0) 1 := ⟨hm_Ho_isAhead, by decide +kernel⟩
theorem a_Ho_isAhead_1 : zAt 32 1 m_Ho_isAhead (.getfield 14) 3 := ⟨hm_Ho_isAhead, by decide +kernel⟩
theorem a_Ho_isAhead_4 : zAt 32 4 m_Ho_isAhead (.iload_n 1) 1 := ⟨hm_Ho_isAhead, by decide +kernel⟩
theorem a_Ho_isAhead_5 : zAt 32 5 m_Ho_isAhead (.iconst 0) 1 := ⟨hm_Ho_isAhead, by decide +kernel⟩
theorem a_Ho_isAhead_6 : zAt 32 6 m_Ho_isAhead (.invokevirtual 59) 3 := ⟨hm_Ho_isAhead, by decide +kernel⟩
theorem a_Ho_isAhead_9 : zAt 32 9 m_Ho_isAhead (.iconst 4) 1 := ⟨hm_Ho_isAhead, by decide +kernel⟩
theorem a_Ho_isAhead_10 : zAt 32 10 m_Ho_isAhead (.if_icmp .eq 7) 3 := ⟨hm_Ho_isAhead, by decide +kernel⟩
theorem a_Ho_isAhead_13 : zAt 32 13 m_Ho_isAhead (.iconst 1) 1 := ⟨hm_Ho_isAhead, by decide +kernel⟩
theorem a_Ho_isAhead_14 : zAt 32 14 m_Ho_isAhead (.goto 4) 3 := ⟨hm_Ho_isAhead, by decide +kernel⟩
theorem a_Ho_isAhead_17 : zAt 32 17 m_Ho_isAhead (.iconst 0) 1 := ⟨hm_Ho_isAhead, by decide +kernel⟩
theorem a_Ho_isAhead_18 : zAt 32 18 m_Ho_isAhead (.istore_n 3) 1 := ⟨hm_Ho_isAhead, by decide +kernel⟩
theorem a_Ho_isAhead_19 : zAt 32 19 m_Ho_isAhead (.aload_n 0) 1 := ⟨hm_Ho_isAhead, by decide +kernel⟩
theorem a_Ho_isAhead_20 : zAt 32 20 m_Ho_isAhead (.getfield 14) 3 := ⟨hm_Ho_isAhead, by decide +kernel⟩
theorem a_Ho_isAhead_23 : zAt 32 23 m_Ho_isAhead (.iload_n 1) 1 := ⟨hm_Ho_isAhead, by decide +kernel⟩
theorem a_Ho_isAhead_24 : zAt 32 24 m_Ho_isAhead (.iconst 1) 1 := ⟨hm_Ho_isAhead, by decide +kernel⟩
theorem a_Ho_isAhead_25 : zAt 32 25 m_Ho_isAhead (.invokevirtual 59) 3 := ⟨hm_Ho_isAhead, by decide +kernel⟩
theorem a_Ho_isAhead_28 : zAt 32 28 m_Ho_isAhead (.iconst 3) 1 := ⟨hm_Ho_isAhead, by decide +kernel⟩
theorem a_Ho_isAhead_29 : zAt 32 29 m_Ho_isAhead (.if_icmp .eq 7) 3 := ⟨hm_Ho_isAhead, by decide +kernel⟩
theorem a_Ho_isAhead_32 : zAt 32 32 m_Ho_isAhead (.iconst 1) 1 := ⟨hm_Ho_isAhead, by decide +kernel⟩
theorem a_Ho_isAhead_33 : zAt 32 33 m_Ho_isAhead (.goto 4) 3 := ⟨hm_Ho_isAhead, by decide +kernel⟩
theorem a_Ho_isAhead_36 : zAt 32 36 m_Ho_isAhead (.iconst 0) 1 := ⟨hm_Ho_isAhead, by decide +kernel⟩
theorem a_Ho_isAhead_37 : zAt 32 37 m_Ho_isAhead (.istore 4) 2 := ⟨hm_Ho_isAhead, by decide +kernel⟩
theorem a_Ho_isAhead_39 : zAt 32 39 m_Ho_isAhead (.iload_n 3) 1 := ⟨hm_Ho_isAhead, by decide +kernel⟩
theorem a_Ho_isAhead_40 : zAt 32 40 m_Ho_isAhead (.aload_n 0) 1 := ⟨hm_Ho_isAhead, by decide +kernel⟩
theorem a_Ho_isAhead_41 : zAt 32 41 m_Ho_isAhead (.getfield 14) 3 := ⟨hm_Ho_isAhead, by decide +kernel⟩
theorem a_Ho_isAhead_44 : zAt 32 44 m_Ho_isAhead (.iload_n 2) 1 := ⟨hm_Ho_isAhead, by decide +kernel⟩
theorem a_Ho_isAhead_45 : zAt 32 45 m_Ho_isAhead (.iconst 0) 1 := ⟨hm_Ho_isAhead, by decide +kernel⟩
theorem a_Ho_isAhead_46 : zAt 32 46 m_Ho_isAhead (.invokevirtual 59) 3 := ⟨hm_Ho_isAhead, by decide +kernel⟩
theorem a_Ho_isAhead_49 : zAt 32 49 m_Ho_isAhead (.iconst 4) 1 := ⟨hm_Ho_isAhead, by decide +kernel⟩
theorem a_Ho_isAhead_50 : zAt 32 50 m_Ho_isAhead (.if_icmp .eq 7) 3 := ⟨hm_Ho_isAhead, by decide +kernel⟩
theorem a_Ho_isAhead_53 : zAt 32 53 m_Ho_isAhead (.iconst 1) 1 := ⟨hm_Ho_isAhead, by decide +kernel⟩
theorem a_Ho_isAhead_54 : zAt 32 54 m_Ho_isAhead (.goto 4) 3 := ⟨hm_Ho_isAhead, by decide +kernel⟩
theorem a_Ho_isAhead_57 : zAt 32 57 m_Ho_isAhead (.iconst 0) 1 := ⟨hm_Ho_isAhead, by decide +kernel⟩
theorem a_Ho_isAhead_58 : zAt 32 58 m_Ho_isAhead (.if_icmp .eq 5) 3 := ⟨hm_Ho_isAhead, by decide +kernel⟩
theorem a_Ho_isAhead_61 : zAt 32 61 m_Ho_isAhead (.iload_n 3) 1 := ⟨hm_Ho_isAhead, by decide +kernel⟩
theorem a_Ho_isAhead_62 : zAt 32 62 m_Ho_isAhead (.ireturn) 1 := ⟨hm_Ho_isAhead, by decide +kernel⟩
theorem a_Ho_isAhead_63 : zAt 32 63 m_Ho_isAhead (.iload 4) 2 := ⟨hm_Ho_isAhead, by decide +kernel⟩
theorem a_Ho_isAhead_65 : zAt 32 65 m_Ho_isAhead (.aload_n 0) 1 := ⟨hm_Ho_isAhead, by decide +kernel⟩
theorem a_Ho_isAhead_66 : zAt 32 66 m_Ho_isAhead (.getfield 14) 3 := ⟨hm_Ho_isAhead, by decide +kernel⟩
theorem a_Ho_isAhead_69 : zAt 32 69 m_Ho_isAhead (.iload_n 2) 1 := ⟨hm_Ho_isAhead, by decide +kernel⟩
theorem a_Ho_isAhead_70 : zAt 32 70 m_Ho_isAhead (.iconst 1) 1 := ⟨hm_Ho_isAhead, by decide +kernel⟩
theorem a_Ho_isAhead_71 : zAt 32 71 m_Ho_isAhead (.invokevirtual 59) 3 := ⟨hm_Ho_isAhead, by decide +kernel⟩
theorem a_Ho_isAhead_74 : zAt 32 74 m_Ho_isAhead (.iconst 3) 1 := ⟨hm_Ho_isAhead, by decide +kernel⟩
theorem a_Ho_isAhead_75 : zAt 32 75 m_Ho_isAhead (.if_icmp .eq 7) 3 := ⟨hm_Ho_isAhead, by decide +kernel⟩
theorem a_Ho_isAhead_78 : zAt 32 78 m_Ho_isAhead (.iconst 1) 1 := ⟨hm_Ho_isAhead, by decide +kernel⟩
theorem a_Ho_isAhead_79 : zAt 32 79 m_Ho_isAhead (.goto 4) 3 := ⟨hm_Ho_isAhead, by decide +kernel⟩
theorem a_Ho_isAhead_82 : zAt 32 82 m_Ho_isAhead (.iconst 0) 1 := ⟨hm_Ho_isAhead, by decide +kernel⟩
theorem a_Ho_isAhead_83 : zAt 32 83 m_Ho_isAhead (.if_icmp .eq 6) 3 := ⟨hm_Ho_isAhead, by decide +kernel⟩
theorem a_Ho_isAhead_86 : zAt 32 86 m_Ho_isAhead (.iload 4) 2 := ⟨hm_Ho_isAhead, by decide +kernel⟩
theorem a_Ho_isAhead_88 : zAt 32 88 m_Ho_isAhead (.ireturn) 1 := ⟨hm_Ho_isAhead, by decide +kernel⟩
theorem a_Ho_isAhead_89 : zAt 32 89 m_Ho_isAhead (.aload_n 0) 1 := ⟨hm_Ho_isAhead, by decide +kernel⟩
theorem a_Ho_isAhead_90 : zAt 32 90 m_Ho_isAhead (.getfield 14) 3 := ⟨hm_Ho_isAhead, by decide +kernel⟩
theorem a_Ho_isAhead_93 : zAt 32 93 m_Ho_isAhead (.iload_n 1) 1 := ⟨hm_Ho_isAhead, by decide +kernel⟩
theorem a_Ho_isAhead_94 : zAt 32 94 m_Ho_isAhead (.iconst 4) 1 := ⟨hm_Ho_isAhead, by decide +kernel⟩
theorem a_Ho_isAhead_95 : zAt 32 95 m_Ho_isAhead (.invokevirtual 59) 3 := ⟨hm_Ho_isAhead, by decide +kernel⟩
theorem a_Ho_isAhead_98 : zAt 32 98 m_Ho_isAhead (.istore 5) 2 := ⟨hm_Ho_isAhead, by decide +kernel⟩
theorem a_Ho_isAhead_100 : zAt 32 100 m_Ho_isAhead (.aload_n 0) 1 := ⟨hm_Ho_isAhead, by decide +kernel⟩
theorem a_Ho_isAhead_101 : zAt 32 101 m_Ho_isAhead (.getfield 14) 3 := ⟨hm_Ho_isAhead, by decide +kernel⟩
theorem a_Ho_isAhead_104 : zAt 32 104 m_Ho_isAhead (.iload_n 2) 1 := ⟨hm_Ho_isAhead, by decide +kernel⟩
theorem a_Ho_isAhead_105 : zAt 32 105 m_Ho_isAhead (.iconst 4) 1 := ⟨hm_Ho_isAhead, by decide +kernel⟩
theorem a_Ho_isAhead_106 : zAt 32 106 m_Ho_isAhead (.invokevirtual 59) 3 := ⟨hm_Ho_isAhead, by decide +kernel⟩
theorem a_Ho_isAhead_109 : zAt 32 109 m_Ho_isAhead (.istore 6) 2 := ⟨hm_Ho_isAhead, by decide +kernel⟩
theorem a_Ho_isAhead_111 : zAt 32 111 m_Ho_isAhead (.iload 5) 2 := ⟨hm_Ho_isAhead, by decide +kernel⟩
theorem a_Ho_isAhead_113 : zAt 32 113 m_Ho_isAhead (.bipush 99) 2 := ⟨hm_Ho_isAhead, by decide +kernel⟩
theorem a_Ho_isAhead_115 : zAt 32 115 m_Ho_isAhead (.if_icmp .eq 10) 3 := ⟨hm_Ho_isAhead, by decide +kernel⟩
theorem a_Ho_isAhead_118 : zAt 32 118 m_Ho_isAhead (.iload 6) 2 := ⟨hm_Ho_isAhead, by decide +kernel⟩
theorem a_Ho_isAhead_120 : zAt 32 120 m_Ho_isAhead (.bipush 99) 2 := ⟨hm_Ho_isAhead, by decide +kernel⟩
theorem a_Ho_isAhead_122 : zAt 32 122 m_Ho_isAhead (.if_icmp .ne 23) 3 := ⟨hm_Ho_isAhead, by decide +kernel⟩
theorem a_Ho_isAhead_125 : zAt 32 125 m_Ho_isAhead (.iload 6) 2 := ⟨hm_Ho_isAhead, by decide +kernel⟩
theorem a_Ho_isAhead_127 : zAt 32 127 m_Ho_isAhead (.bipush 99) 2 := ⟨hm_Ho_isAhead, by decide +kernel⟩
theorem a_Ho_isAhead_129 : zAt 32 129 m_Ho_isAhead (.if_icmp .ne 14) 3 := ⟨hm_Ho_isAhead, by decide +kernel⟩
theorem a_Ho_isAhead_132 : zAt 32 132 m_Ho_isAhead (.iload 5) 2 := ⟨hm_Ho_isAhead, by decide +kernel⟩
theorem a_Ho_isAhead_134 : zAt 32 134 m_Ho_isAhead (.bipush 99) 2 := ⟨hm_Ho_isAhead, by decide +kernel⟩
theorem a_Ho_isAhead_136 : zAt 32 136 m_Ho_isAhead (.if_icmp .eq 7) 3 := ⟨hm_Ho_isAhead, by decide +kernel⟩
theorem a_Ho_isAhead_139 : zAt 32 139 m_Ho_isAhead (.iconst 1) 1 := ⟨hm_Ho_isAhead, by decide +kernel⟩
theorem a_Ho_isAhead_140 : zAt 32 140 m_Ho_isAhead (.goto 4) 3 := ⟨hm_Ho_isAhead, by decide +kernel⟩
theorem a_Ho_isAhead_143 : zAt 32 143 m_Ho_isAhead (.iconst 0) 1 := ⟨hm_Ho_isAhead, by decide +kernel⟩
theorem a_Ho_isAhead_144 : zAt 32 144 m_Ho_isAhead (.ireturn) 1 := ⟨hm_Ho_isAhead, by decide +kernel⟩
theorem a_Ho_isAhead_145 : zAt 32 145 m_Ho_isAhead (.iload 5) 2 := ⟨hm_Ho_isAhead, by decide +kernel⟩
theorem a_Ho_isAhead_147 : zAt 32 147 m_Ho_isAhead (.iload 6) 2 := ⟨hm_Ho_isAhead, by decide +kernel⟩
theorem a_Ho_isAhead_149 : zAt 32 149 m_Ho_isAhead (.if_icmp .le 7) 3 := ⟨hm_Ho_isAhead, by decide +kernel⟩
theorem a_Ho_isAhead_152 : zAt 32 152 m_Ho_isAhead (.iconst 1) 1 := ⟨hm_Ho_isAhead, by decide +kernel⟩
theorem a_Ho_isAhead_153 : zAt 32 153 m_Ho_isAhead (.goto 4) 3 := ⟨hm_Ho_isAhead, by decide +kernel⟩
theorem a_Ho_isAhead_156 : zAt 32 156 m_Ho_isAhead (.iconst 0) 1 := ⟨hm_Ho_isAhead, by decide +kernel⟩
theorem a_Ho_isAhead_157 : zAt 32 157 m_Ho_isAhead (.ireturn) 1 := ⟨hm_Ho_isAhead, by decide +kernel⟩
theorem B_Ho_isAhead_0 {G : Nat → Nat → Int32} {x1 x2 : Int32} : zden 32 0 [.ref 2, .int x1, .int x2, .retAddr 0, .retAddr 0, .retAddr 0, .retAddr 0] [] (zSH, G) = if (tget G 3 4 55 x1 0) = 4 then zden 32 18 [.ref 2, .int x1, .int x2, .retAddr 0, .retAddr 0, .retAddr 0, .retAddr 0] [.int 0] (zSH, G) else zden 32 18 [.ref 2, .int x1, .int x2, .retAddr 0, .retAddr 0, .retAddr 0, .retAddr 0] [.int 1] (zSH, G) :=
  (zd_aload_n a_Ho_isAhead_0 rfl).trans ((zd_getR (h := (zSH, G)) (ci := 2) (fi := 0) (a := 3) a_Ho_isAhead_1 (by decide +kernel) sh_2 rfl rfl).trans ((zd_iload_n a_Ho_isAhead_4 rfl).trans ((zd_iconst (v := 0) a_Ho_isAhead_5 (by decide)).trans ((zd_cal (kd := 0) (tg := 53) (T := m_Ta_get) a_Ho_isAhead_6 (by decide +kernel) hm_Ta_get rfl rfl rfl rfl).trans (((congrArg (zaft 32 9 [.ref 2, .int x1, .int x2, .retAddr 0, .retAddr 0, .retAddr 0, .retAddr 0] [] (zSH, G)) (sp_get (r := 3) (q := 4) (n := 55) sh_3 sh_4 rfl (by decide))).trans zaft_same).trans ((zd_iconst (v := 4) a_Ho_isAhead_9 (by decide)).trans ((zd_icmp_eq a_Ho_isAhead_10 rfl).trans (zite ((zd_iconst (v := 0) a_Ho_isAhead_17 (by decide))) ((zd_iconst (v := 1) a_Ho_isAhead_13 (by decide)).trans ((zd_goto a_Ho_isAhead_14 rfl)))))))))))
theorem B_Ho_isAhead_18 {G : Nat → Nat → Int32} {x1 x2 s0 : Int32} : zden 32 18 [.ref 2, .int x1, .int x2, .retAddr 0, .retAddr 0, .retAddr 0, .retAddr 0] [.int s0] (zSH, G) = if (tget G 3 4 55 x1 1) = 3 then zden 32 37 [.ref 2, .int x1, .int x2, .int s0, .retAddr 0, .retAddr 0, .retAddr 0] [.int 0] (zSH, G) else zden 32 37 [.ref 2, .int x1, .int x2, .int s0, .retAddr 0, .retAddr 0, .retAddr 0] [.int 1] (zSH, G) :=
  (zd_istore_n a_Ho_isAhead_18 rfl rfl rfl).trans ((zd_aload_n a_Ho_isAhead_19 rfl).trans ((zd_getR (h := (zSH, G)) (ci := 2) (fi := 0) (a := 3) a_Ho_isAhead_20 (by decide +kernel) sh_2 rfl rfl).trans ((zd_iload_n a_Ho_isAhead_23 rfl).trans ((zd_iconst (v := 1) a_Ho_isAhead_24 (by decide)).trans ((zd_cal (kd := 0) (tg := 53) (T := m_Ta_get) a_Ho_isAhead_25 (by decide +kernel) hm_Ta_get rfl rfl rfl rfl).trans (((congrArg (zaft 32 28 [.ref 2, .int x1, .int x2, .int s0, .retAddr 0, .retAddr 0, .retAddr 0] [] (zSH, G)) (sp_get (r := 3) (q := 4) (n := 55) sh_3 sh_4 rfl (by decide))).trans zaft_same).trans ((zd_iconst (v := 3) a_Ho_isAhead_28 (by decide)).trans ((zd_icmp_eq a_Ho_isAhead_29 rfl).trans (zite ((zd_iconst (v := 0) a_Ho_isAhead_36 (by decide))) ((zd_iconst (v := 1) a_Ho_isAhead_32 (by decide)).trans ((zd_goto a_Ho_isAhead_33 rfl))))))))))))
theorem B_Ho_isAhead_37 {G : Nat → Nat → Int32} {x1 x2 x3 s0 : Int32} : zden 32 37 [.ref 2, .int x1, .int x2, .int x3, .retAddr 0, .retAddr 0, .retAddr 0] [.int s0] (zSH, G) = if (tget G 3 4 55 x2 0) = 4 then zden 32 58 [.ref 2, .int x1, .int x2, .int x3, .int s0, .retAddr 0, .retAddr 0] [.int 0, .int x3] (zSH, G) else zden 32 58 [.ref 2, .int x1, .int x2, .int x3, .int s0, .retAddr 0, .retAddr 0] [.int 1, .int x3] (zSH, G) :=
  (zd_istore a_Ho_isAhead_37 rfl rfl rfl).trans ((zd_iload_n a_Ho_isAhead_39 rfl).trans ((zd_aload_n a_Ho_isAhead_40 rfl).trans ((zd_getR (h := (zSH, G)) (ci := 2) (fi := 0) (a := 3) a_Ho_isAhead_41 (by decide +kernel) sh_2 rfl rfl).trans ((zd_iload_n a_Ho_isAhead_44 rfl).trans ((zd_iconst (v := 0) a_Ho_isAhead_45 (by decide)).trans ((zd_cal (kd := 0) (tg := 53) (T := m_Ta_get) a_Ho_isAhead_46 (by decide +kernel) hm_Ta_get rfl rfl rfl rfl).trans (((congrArg (zaft 32 49 [.ref 2, .int x1, .int x2, .int x3, .int s0, .retAddr 0, .retAddr 0] [.int x3] (zSH, G)) (sp_get (r := 3) (q := 4) (n := 55) sh_3 sh_4 rfl (by decide))).trans zaft_same).trans ((zd_iconst (v := 4) a_Ho_isAhead_49 (by decide)).trans ((zd_icmp_eq a_Ho_isAhead_50 rfl).trans (zite ((zd_iconst (v := 0) a_Ho_isAhead_57 (by decide))) ((zd_iconst (v := 1) a_Ho_isAhead_53 (by decide)).trans ((zd_goto a_Ho_isAhead_54 rfl)))))))))))))
theorem B_Ho_isAhead_58 {G : Nat → Nat → Int32} {x1 x2 x3 x4 s0 s1 : Int32} (n62 : znr .boolean x3 = true) : zden 32 58 [.ref 2, .int x1, .int x2, .int x3, .int x4, .retAddr 0, .retAddr 0] [.int s0, .int s1] (zSH, G) = if s1 = s0 then if (tget G 3 4 55 x2 1) = 3 then zden 32 83 [.ref 2, .int x1, .int x2, .int x3, .int x4, .retAddr 0, .retAddr 0] [.int 0, .int x4] (zSH, G) else zden 32 83 [.ref 2, .int x1, .int x2, .int x3, .int x4, .retAddr 0, .retAddr 0] [.int 1, .int x4] (zSH, G) else some (some (.int x3), (zSH, G)) :=
  (zd_icmp_eq a_Ho_isAhead_58 rfl).trans (zite ((zd_iload a_Ho_isAhead_63 rfl).trans ((zd_aload_n a_Ho_isAhead_65 rfl).trans ((zd_getR (h := (zSH, G)) (ci := 2) (fi := 0) (a := 3) a_Ho_isAhead_66 (by decide +kernel) sh_2 rfl rfl).trans ((zd_iload_n a_Ho_isAhead_69 rfl).trans ((zd_iconst (v := 1) a_Ho_isAhead_70 (by decide)).trans ((zd_cal (kd := 0) (tg := 53) (T := m_Ta_get) a_Ho_isAhead_71 (by decide +kernel) hm_Ta_get rfl rfl rfl rfl).trans (((congrArg (zaft 32 74 [.ref 2, .int x1, .int x2, .int x3, .int x4, .retAddr 0, .retAddr 0] [.int x4] (zSH, G)) (sp_get (r := 3) (q := 4) (n := 55) sh_3 sh_4 rfl (by decide))).trans zaft_same).trans ((zd_iconst (v := 3) a_Ho_isAhead_74 (by decide)).trans ((zd_icmp_eq a_Ho_isAhead_75 rfl).trans (zite ((zd_iconst (v := 0) a_Ho_isAhead_82 (by decide))) ((zd_iconst (v := 1) a_Ho_isAhead_78 (by decide)).trans ((zd_goto a_Ho_isAhead_79 rfl))))))))))))) ((zd_iload_n a_Ho_isAhead_61 rfl).trans (zd_iret a_Ho_isAhead_62 rfl n62)))
theorem B_Ho_isAhead_83 {G : Nat → Nat → Int32} {x1 x2 x3 x4 s0 s1 : Int32} (n88 : znr .boolean x4 = true) : zden 32 83 [.ref 2, .int x1, .int x2, .int x3, .int x4, .retAddr 0, .retAddr 0] [.int s0, .int s1] (zSH, G) = if s1 = s0 then if (tget G 3 4 55 x1 4) = 99 then zden 32 125 [.ref 2, .int x1, .int x2, .int x3, .int x4, .int (tget G 3 4 55 x1 4), .int (tget G 3 4 55 x2 4)] [] (zSH, G) else if ¬ (tget G 3 4 55 x2 4) = 99 then if (tget G 3 4 55 x1 4) ≤ (tget G 3 4 55 x2 4) then some (some (.int 0), (zSH, G)) else some (some (.int 1), (zSH, G)) else zden 32 125 [.ref 2, .int x1, .int x2, .int x3, .int x4, .int (tget G 3 4 55 x1 4), .int (tget G 3 4 55 x2 4)] [] (zSH, G) else some (some (.int x4), (zSH, G)) :=
  (zd_icmp_eq a_Ho_isAhead_83 rfl).trans (zite ((zd_aload_n a_Ho_isAhead_89 rfl).trans ((zd_getR (h := (zSH, G)) (ci := 2) (fi := 0) (a := 3) a_Ho_isAhead_90 (by decide +kernel) sh_2 rfl rfl).trans ((zd_iload_n a_Ho_isAhead_93 rfl).trans ((zd_iconst (v := 4) a_Ho_isAhead_94 (by decide)).trans ((zd_cal (kd := 0) (tg := 53) (T := m_Ta_get) a_Ho_isAhead_95 (by decide +kernel) hm_Ta_get rfl rfl rfl rfl).trans (((congrArg (zaft 32 98 [.ref 2, .int x1, .int x2, .int x3, .int x4, .retAddr 0, .retAddr 0] [] (zSH, G)) (sp_get (r := 3) (q := 4) (n := 55) sh_3 sh_4 rfl (by decide))).trans zaft_same).trans ((zd_istore a_Ho_isAhead_98 rfl rfl rfl).trans ((zd_aload_n a_Ho_isAhead_100 rfl).trans ((zd_getR (h := (zSH, G)) (ci := 2) (fi := 0) (a := 3) a_Ho_isAhead_101 (by decide +kernel) sh_2 rfl rfl).trans ((zd_iload_n a_Ho_isAhead_104 rfl).trans ((zd_iconst (v := 4) a_Ho_isAhead_105 (by decide)).trans ((zd_cal (kd := 0) (tg := 53) (T := m_Ta_get) a_Ho_isAhead_106 (by decide +kernel) hm_Ta_get rfl rfl rfl rfl).trans (((congrArg (zaft 32 109 [.ref 2, .int x1, .int x2, .int x3, .int x4, .int (tget G 3 4 55 x1 4), .retAddr 0] [] (zSH, G)) (sp_get (r := 3) (q := 4) (n := 55) sh_3 sh_4 rfl (by decide))).trans zaft_same).trans ((zd_istore a_Ho_isAhead_109 rfl rfl rfl).trans ((zd_iload a_Ho_isAhead_111 rfl).trans ((zd_bipush (v := 99) a_Ho_isAhead_113 (by decide)).trans ((zd_icmp_eq a_Ho_isAhead_115 rfl).trans (zite (rfl) ((zd_iload a_Ho_isAhead_118 rfl).trans ((zd_bipush (v := 99) a_Ho_isAhead_120 (by decide)).trans ((zd_icmp_ne a_Ho_isAhead_122 rfl).trans (zite ((zd_iload a_Ho_isAhead_145 rfl).trans ((zd_iload a_Ho_isAhead_147 rfl).trans ((zd_icmp_le a_Ho_isAhead_149 rfl).trans (zite ((zd_iconst (v := 0) a_Ho_isAhead_156 (by decide)).trans (zd_iret a_Ho_isAhead_157 rfl (by decide))) ((zd_iconst (v := 1) a_Ho_isAhead_152 (by decide)).trans ((zd_goto a_Ho_isAhead_153 rfl).trans (zd_iret a_Ho_isAhead_157 rfl (by decide)))))))) (rfl))))))))))))))))))))))) ((zd_iload a_Ho_isAhead_86 rfl).trans (zd_iret a_Ho_isAhead_88 rfl n88)))
theorem B_Ho_isAhead_125 {G : Nat → Nat → Int32} {x1 x2 x3 x4 x5 x6 : Int32} : zden 32 125 [.ref 2, .int x1, .int x2, .int x3, .int x4, .int x5, .int x6] [] (zSH, G) = if ¬ x6 = 99 then some (some (.int 0), (zSH, G)) else if x5 = 99 then some (some (.int 0), (zSH, G)) else some (some (.int 1), (zSH, G)) :=
  (zd_iload a_Ho_isAhead_125 rfl).trans ((zd_bipush (v := 99) a_Ho_isAhead_127 (by decide)).trans ((zd_icmp_ne a_Ho_isAhead_129 rfl).trans (zite ((zd_iconst (v := 0) a_Ho_isAhead_143 (by decide)).trans (zd_iret a_Ho_isAhead_144 rfl (by decide))) ((zd_iload a_Ho_isAhead_132 rfl).trans ((zd_bipush (v := 99) a_Ho_isAhead_134 (by decide)).trans ((zd_icmp_eq a_Ho_isAhead_136 rfl).trans (zite ((zd_iconst (v := 0) a_Ho_isAhead_143 (by decide)).trans (zd_iret a_Ho_isAhead_144 rfl (by decide))) ((zd_iconst (v := 1) a_Ho_isAhead_139 (by decide)).trans ((zd_goto a_Ho_isAhead_140 rfl).trans (zd_iret a_Ho_isAhead_144 rfl (by decide)))))))))))
theorem a_Ho_keptRow_0 : zAt 31 0 m_Ho_keptRow (.iconst (-1)) 1 := ⟨hm_Ho_keptRow, by decide +kernel⟩
theorem a_Ho_keptRow_1 : zAt 31 1 m_Ho_keptRow (.istore_n 2) 1 := ⟨hm_Ho_keptRow, by decide +kernel⟩
theorem a_Ho_keptRow_2 : zAt 31 2 m_Ho_keptRow (.iconst 0) 1 := ⟨hm_Ho_keptRow, by decide +kernel⟩
theorem a_Ho_keptRow_3 : zAt 31 3 m_Ho_keptRow (.istore_n 3) 1 := ⟨hm_Ho_keptRow, by decide +kernel⟩
theorem a_Ho_keptRow_4 : zAt 31 4 m_Ho_keptRow (.iload_n 3) 1 := ⟨hm_Ho_keptRow, by decide +kernel⟩
theorem a_Ho_keptRow_5 : zAt 31 5 m_Ho_keptRow (.aload_n 0) 1 := ⟨hm_Ho_keptRow, by decide +kernel⟩
theorem a_Ho_keptRow_6 : zAt 31 6 m_Ho_keptRow (.getfield 30) 3 := ⟨hm_Ho_keptRow, by decide +kernel⟩
theorem a_Ho_keptRow_9 : zAt 31 9 m_Ho_keptRow (.if_icmp .ge 33) 3 := ⟨hm_Ho_keptRow, by decide +kernel⟩
theorem a_Ho_keptRow_12 : zAt 31 12 m_Ho_keptRow (.aload_n 0) 1 := ⟨hm_Ho_keptRow, by decide +kernel⟩
theorem a_Ho_keptRow_13 : zAt 31 13 m_Ho_keptRow (.iload_n 3) 1 := ⟨hm_Ho_keptRow, by decide +kernel⟩
theorem a_Ho_keptRow_14 : zAt 31 14 m_Ho_keptRow (.iload_n 1) 1 := ⟨hm_Ho_keptRow, by decide +kernel⟩
theorem a_Ho_keptRow_15 : zAt 31 15 m_Ho_keptRow (.invokevirtual 63) 3 := ⟨hm_Ho_keptRow, by decide +kernel⟩
theorem a_Ho_keptRow_18 : zAt 31 18 m_Ho_keptRow (.ifCond .eq 18) 3 := ⟨hm_Ho_keptRow, by decide +kernel⟩
theorem a_Ho_keptRow_21 : zAt 31 21 m_Ho_keptRow (.iload_n 2) 1 := ⟨hm_Ho_keptRow, by decide +kernel⟩
theorem a_Ho_keptRow_22 : zAt 31 22 m_Ho_keptRow (.ifCond .lt 12) 3 := ⟨hm_Ho_keptRow, by decide +kernel⟩
theorem a_Ho_keptRow_25 : zAt 31 25 m_Ho_keptRow (.aload_n 0) 1 := ⟨hm_Ho_keptRow, by decide +kernel⟩
theorem a_Ho_keptRow_26 : zAt 31 26 m_Ho_keptRow (.iload_n 2) 1 := ⟨hm_Ho_keptRow, by decide +kernel⟩
theorem a_Ho_keptRow_27 : zAt 31 27 m_Ho_keptRow (.iload_n 3) 1 := ⟨hm_Ho_keptRow, by decide +kernel⟩
theorem a_Ho_keptRow_28 : zAt 31 28 m_Ho_keptRow (.invokevirtual 74) 3 := ⟨hm_Ho_keptRow, by decide +kernel⟩
theorem a_Ho_keptRow_31 : zAt 31 31 m_Ho_keptRow (.ifCond .ne 5) 3 := ⟨hm_Ho_keptRow, by decide +kernel⟩
theorem a_Ho_keptRow_34 : zAt 31 34 m_Ho_keptRow (.iload_n 3) 1 := ⟨hm_Ho_keptRow, by decide +kernel⟩
theorem a_Ho_keptRow_35 : zAt 31 35 m_Ho_keptRow (.istore_n 2) 1 := ⟨hm_Ho_keptRow, by decide +kernel⟩
theorem a_Ho_keptRow_36 : zAt 31 36 m_Ho_keptRow (.iinc 3 1) 3 := ⟨hm_Ho_keptRow, by decide +kernel⟩
theorem a_Ho_keptRow_39 : zAt 31 39 m_Ho_keptRow (.goto (-35)) 3 := ⟨hm_Ho_keptRow, by decide +kernel⟩
theorem a_Ho_keptRow_42 : zAt 31 42 m_Ho_keptRow (.iload_n 2) 1 := ⟨hm_Ho_keptRow, by decide +kernel⟩
theorem a_Ho_keptRow_43 : zAt 31 43 m_Ho_keptRow (.ireturn) 1 := ⟨hm_Ho_keptRow, by decide +kernel⟩
theorem B_Ho_keptRow_0 {G : Nat → Nat → Int32} {x1 : Int32} : zden 31 0 [.ref 2, .int x1, .retAddr 0, .retAddr 0] [] (zSH, G) = zden 31 4 [.ref 2, .int x1, .int (-1), .int 0] [] (zSH, G) :=
  (zd_iconst (v := (-1)) a_Ho_keptRow_0 (by decide)).trans ((zd_istore_n a_Ho_keptRow_1 rfl rfl rfl).trans ((zd_iconst (v := 0) a_Ho_keptRow_2 (by decide)).trans ((zd_istore_n a_Ho_keptRow_3 rfl rfl rfl))))
theorem B_Ho_keptRow_4 {G : Nat → Nat → Int32} {x1 x2 x3 : Int32} : zden 31 4 [.ref 2, .int x1, .int x2, .int x3] [] (zSH, G) = if (G 2 3) ≤ x3 then some (some (.int x2), (zSH, G)) else zaft 31 18 [.ref 2, .int x1, .int x2, .int x3] [] (zSH, G) (zden 25 0 [.ref 2, .int x3, .int x1, .retAddr 0, .retAddr 0] [] (zSH, G)) :=
  (zd_iload_n a_Ho_keptRow_4 rfl).trans ((zd_aload_n a_Ho_keptRow_5 rfl).trans ((zd_getI (h := (zSH, G)) (ci := 2) (fi := 3) a_Ho_keptRow_6 (by decide +kernel) sh_2 rfl).trans ((zd_icmp_ge a_Ho_keptRow_9 rfl).trans (zite ((zd_iload_n a_Ho_keptRow_42 rfl).trans (zd_iret a_Ho_keptRow_43 rfl (znr_int _))) ((zd_aload_n a_Ho_keptRow_12 rfl).trans ((zd_iload_n a_Ho_keptRow_13 rfl).trans ((zd_iload_n a_Ho_keptRow_14 rfl).trans ((zd_cal (kd := 0) (tg := 25) (T := m_Ho_isFitting) a_Ho_keptRow_15 (by decide +kernel) hm_Ho_isFitting rfl rfl rfl rfl)))))))))
theorem B_Ho_keptRow_18 {G : Nat → Nat → Int32} {x1 x2 x3 s0 : Int32} : zden 31 18 [.ref 2, .int x1, .int x2, .int x3] [.int s0] (zSH, G) = if s0 = 0 then zden 31 36 [.ref 2, .int x1, .int x2, .int x3] [] (zSH, G) else if x2 < 0 then zden 31 34 [.ref 2, .int x1, .int x2, .int x3] [] (zSH, G) else zaft 31 31 [.ref 2, .int x1, .int x2, .int x3] [] (zSH, G) (zden 32 0 [.ref 2, .int x2, .int x3, .retAddr 0, .retAddr 0, .retAddr 0, .retAddr 0] [] (zSH, G)) :=
  (zd_if_eq a_Ho_keptRow_18 rfl).trans (zite (rfl) ((zd_iload_n a_Ho_keptRow_21 rfl).trans ((zd_if_lt a_Ho_keptRow_22 rfl).trans (zite (rfl) ((zd_aload_n a_Ho_keptRow_25 rfl).trans ((zd_iload_n a_Ho_keptRow_26 rfl).trans ((zd_iload_n a_Ho_keptRow_27 rfl).trans ((zd_cal (kd := 0) (tg := 32) (T := m_Ho_isAhead) a_Ho_keptRow_28 (by decide +kernel) hm_Ho_isAhead rfl rfl rfl rfl)))))))))
theorem B_Ho_keptRow_31 {G : Nat → Nat → Int32} {x1 x2 x3 s0 : Int32} : zden 31 31 [.ref 2, .int x1, .int x2, .int x3] [.int s0] (zSH, G) = if ¬ s0 = 0 then zden 31 36 [.ref 2, .int x1, .int x2, .int x3] [] (zSH, G) else zden 31 34 [.ref 2, .int x1, .int x2, .int x3] [] (zSH, G) :=
  (zd_if_ne a_Ho_keptRow_31 rfl)
theorem B_Ho_keptRow_34 {G : Nat → Nat → Int32} {x1 x2 x3 : Int32} : zden 31 34 [.ref 2, .int x1, .int x2, .int x3] [] (zSH, G) = zden 31 36 [.ref 2, .int x1, .int x3, .int x3] [] (zSH, G) :=
  (zd_iload_n a_Ho_keptRow_34 rfl).trans ((zd_istore_n a_Ho_keptRow_35 rfl rfl rfl))
theorem B_Ho_keptRow_36 {G : Nat → Nat → Int32} {x1 x2 x3 : Int32} : zden 31 36 [.ref 2, .int x1, .int x2, .int x3] [] (zSH, G) = zden 31 4 [.ref 2, .int x1, .int x2, .int (x3 + 1)] [] (zSH, G) :=
  (zd_iinc (v := 1) a_Ho_keptRow_36 rfl (by decide) rfl rfl rfl).trans ((zd_goto a_Ho_keptRow_39 rfl))
theorem a_Ho_lead_0 : zAt 33 0 m_Ho_lead (.aload_n 0) 1 := ⟨hm_Ho_lead, by decide +kernel⟩
theorem a_Ho_lead_1 : zAt 33 1 m_Ho_lead (.iload_n 1) 1 := ⟨hm_Ho_lead, by decide +kernel⟩
theorem a_Ho_lead_2 : zAt 33 2 m_Ho_lead (.iconst 0) 1 := ⟨hm_Ho_lead, by decide +kernel⟩
theorem a_Ho_lead_3 : zAt 33 3 m_Ho_lead (.invokevirtual 77) 3 := ⟨hm_Ho_lead, by decide +kernel⟩
theorem a_Ho_lead_6 : zAt 33 6 m_Ho_lead (.istore_n 2) 1 := ⟨hm_Ho_lead, by decide +kernel⟩
theorem a_Ho_lead_7 : zAt 33 7 m_Ho_lead (.aload_n 0) 1 := ⟨hm_Ho_lead, by decide +kernel⟩
theorem a_Ho_lead_8 : zAt 33 8 m_Ho_lead (.iload_n 1) 1 := ⟨hm_Ho_lead, by decide +kernel⟩
theorem a_Ho_lead_9 : zAt 33 9 m_Ho_lead (.iconst 1) 1 := ⟨hm_Ho_lead, by decide +kernel⟩
theorem a_Ho_lead_10 : zAt 33 10 m_Ho_lead (.invokevirtual 77) 3 := ⟨hm_Ho_lead, by decide +kernel⟩
theorem a_Ho_lead_13 : zAt 33 13 m_Ho_lead (.istore_n 3) 1 := ⟨hm_Ho_lead, by decide +kernel⟩
theorem a_Ho_lead_14 : zAt 33 14 m_Ho_lead (.iload_n 3) 1 := ⟨hm_Ho_lead, by decide +kernel⟩
theorem a_Ho_lead_15 : zAt 33 15 m_Ho_lead (.ifCond .ge 5) 3 := ⟨hm_Ho_lead, by decide +kernel⟩
theorem a_Ho_lead_18 : zAt 33 18 m_Ho_lead (.iconst 0) 1 := ⟨hm_Ho_lead, by decide +kernel⟩
theorem a_Ho_lead_19 : zAt 33 19 m_Ho_lead (.ireturn) 1 := ⟨hm_Ho_lead, by decide +kernel⟩
theorem a_Ho_lead_20 : zAt 33 20 m_Ho_lead (.aload_n 0) 1 := ⟨hm_Ho_lead, by decide +kernel⟩
theorem a_Ho_lead_21 : zAt 33 21 m_Ho_lead (.getfield 14) 3 := ⟨hm_Ho_lead, by decide +kernel⟩
theorem a_Ho_lead_24 : zAt 33 24 m_Ho_lead (.iload_n 2) 1 := ⟨hm_Ho_lead, by decide +kernel⟩
theorem a_Ho_lead_25 : zAt 33 25 m_Ho_lead (.iconst 0) 1 := ⟨hm_Ho_lead, by decide +kernel⟩
theorem a_Ho_lead_26 : zAt 33 26 m_Ho_lead (.invokevirtual 59) 3 := ⟨hm_Ho_lead, by decide +kernel⟩
theorem a_Ho_lead_29 : zAt 33 29 m_Ho_lead (.iconst 4) 1 := ⟨hm_Ho_lead, by decide +kernel⟩
theorem a_Ho_lead_30 : zAt 33 30 m_Ho_lead (.if_icmp .eq 7) 3 := ⟨hm_Ho_lead, by decide +kernel⟩
theorem a_Ho_lead_33 : zAt 33 33 m_Ho_lead (.iconst 1) 1 := ⟨hm_Ho_lead, by decide +kernel⟩
theorem a_Ho_lead_34 : zAt 33 34 m_Ho_lead (.goto 4) 3 := ⟨hm_Ho_lead, by decide +kernel⟩
theorem a_Ho_lead_37 : zAt 33 37 m_Ho_lead (.iconst 0) 1 := ⟨hm_Ho_lead, by decide +kernel⟩
theorem a_Ho_lead_38 : zAt 33 38 m_Ho_lead (.istore 4) 2 := ⟨hm_Ho_lead, by decide +kernel⟩
theorem a_Ho_lead_40 : zAt 33 40 m_Ho_lead (.aload_n 0) 1 := ⟨hm_Ho_lead, by decide +kernel⟩
theorem a_Ho_lead_41 : zAt 33 41 m_Ho_lead (.getfield 14) 3 := ⟨hm_Ho_lead, by decide +kernel⟩
theorem a_Ho_lead_44 : zAt 33 44 m_Ho_lead (.iload_n 2) 1 := ⟨hm_Ho_lead, by decide +kernel⟩
theorem a_Ho_lead_45 : zAt 33 45 m_Ho_lead (.iconst 1) 1 := ⟨hm_Ho_lead, by decide +kernel⟩
theorem a_Ho_lead_46 : zAt 33 46 m_Ho_lead (.invokevirtual 59) 3 := ⟨hm_Ho_lead, by decide +kernel⟩
theorem a_Ho_lead_49 : zAt 33 49 m_Ho_lead (.iconst 3) 1 := ⟨hm_Ho_lead, by decide +kernel⟩
theorem a_Ho_lead_50 : zAt 33 50 m_Ho_lead (.if_icmp .eq 7) 3 := ⟨hm_Ho_lead, by decide +kernel⟩
theorem a_Ho_lead_53 : zAt 33 53 m_Ho_lead (.iconst 1) 1 := ⟨hm_Ho_lead, by decide +kernel⟩
theorem a_Ho_lead_54 : zAt 33 54 m_Ho_lead (.goto 4) 3 := ⟨hm_Ho_lead, by decide +kernel⟩
theorem a_Ho_lead_57 : zAt 33 57 m_Ho_lead (.iconst 0) 1 := ⟨hm_Ho_lead, by decide +kernel⟩
theorem a_Ho_lead_58 : zAt 33 58 m_Ho_lead (.istore 5) 2 := ⟨hm_Ho_lead, by decide +kernel⟩
theorem a_Ho_lead_60 : zAt 33 60 m_Ho_lead (.iload 4) 2 := ⟨hm_Ho_lead, by decide +kernel⟩
theorem a_Ho_lead_62 : zAt 33 62 m_Ho_lead (.aload_n 0) 1 := ⟨hm_Ho_lead, by decide +kernel⟩
theorem a_Ho_lead_63 : zAt 33 63 m_Ho_lead (.getfield 14) 3 := ⟨hm_Ho_lead, by decide +kernel⟩
theorem a_Ho_lead_66 : zAt 33 66 m_Ho_lead (.iload_n 3) 1 := ⟨hm_Ho_lead, by decide +kernel⟩
theorem a_Ho_lead_67 : zAt 33 67 m_Ho_lead (.iconst 0) 1 := ⟨hm_Ho_lead, by decide +kernel⟩
theorem a_Ho_lead_68 : zAt 33 68 m_Ho_lead (.invokevirtual 59) 3 := ⟨hm_Ho_lead, by decide +kernel⟩
theorem a_Ho_lead_71 : zAt 33 71 m_Ho_lead (.iconst 4) 1 := ⟨hm_Ho_lead, by decide +kernel⟩
theorem a_Ho_lead_72 : zAt 33 72 m_Ho_lead (.if_icmp .eq 7) 3 := ⟨hm_Ho_lead, by decide +kernel⟩
theorem a_Ho_lead_75 : zAt 33 75 m_Ho_lead (.iconst 1) 1 := ⟨hm_Ho_lead, by decide +kernel⟩
theorem a_Ho_lead_76 : zAt 33 76 m_Ho_lead (.goto 4) 3 := ⟨hm_Ho_lead, by decide +kernel⟩
theorem a_Ho_lead_79 : zAt 33 79 m_Ho_lead (.iconst 0) 1 := ⟨hm_Ho_lead, by decide +kernel⟩
theorem a_Ho_lead_80 : zAt 33 80 m_Ho_lead (.if_icmp .eq 5) 3 := ⟨hm_Ho_lead, by decide +kernel⟩
theorem a_Ho_lead_83 : zAt 33 83 m_Ho_lead (.iconst 1) 1 := ⟨hm_Ho_lead, by decide +kernel⟩
theorem a_Ho_lead_84 : zAt 33 84 m_Ho_lead (.ireturn) 1 := ⟨hm_Ho_lead, by decide +kernel⟩
theorem a_Ho_lead_85 : zAt 33 85 m_Ho_lead (.iload 5) 2 := ⟨hm_Ho_lead, by decide +kernel⟩
theorem a_Ho_lead_87 : zAt 33 87 m_Ho_lead (.aload_n 0) 1 := ⟨hm_Ho_lead, by decide +kernel⟩
theorem a_Ho_lead_88 : zAt 33 88 m_Ho_lead (.getfield 14) 3 := ⟨hm_Ho_lead, by decide +kernel⟩
theorem a_Ho_lead_91 : zAt 33 91 m_Ho_lead (.iload_n 3) 1 := ⟨hm_Ho_lead, by decide +kernel⟩
theorem a_Ho_lead_92 : zAt 33 92 m_Ho_lead (.iconst 1) 1 := ⟨hm_Ho_lead, by decide +kernel⟩
theorem a_Ho_lead_93 : zAt 33 93 m_Ho_lead (.invokevirtual 59) 3 := ⟨hm_Ho_lead, by decide +kernel⟩
theorem a_Ho_lead_96 : zAt 33 96 m_Ho_lead (.iconst 3) 1 := ⟨hm_Ho_lead, by decide +kernel⟩
theorem a_Ho_lead_97 : zAt 33 97 m_Ho_lead (.if_icmp .eq 7) 3 := ⟨hm_Ho_lead, by decide +kernel⟩
theorem a_Ho_lead_100 : zAt 33 100 m_Ho_lead (.iconst 1) 1 := ⟨hm_Ho_lead, by decide +kernel⟩
theorem a_Ho_lead_101 : zAt 33 101 m_Ho_lead (.goto 4) 3 := ⟨hm_Ho_lead, by decide +kernel⟩
theorem a_Ho_lead_104 : zAt 33 104 m_Ho_lead (.iconst 0) 1 := ⟨hm_Ho_lead, by decide +kernel⟩
theorem a_Ho_lead_105 : zAt 33 105 m_Ho_lead (.if_icmp .eq 5) 3 := ⟨hm_Ho_lead, by decide +kernel⟩
theorem a_Ho_lead_108 : zAt 33 108 m_Ho_lead (.iconst 2) 1 := ⟨hm_Ho_lead, by decide +kernel⟩
theorem a_Ho_lead_109 : zAt 33 109 m_Ho_lead (.ireturn) 1 := ⟨hm_Ho_lead, by decide +kernel⟩
theorem a_Ho_lead_110 : zAt 33 110 m_Ho_lead (.aload_n 0) 1 := ⟨hm_Ho_lead, by decide +kernel⟩
theorem a_Ho_lead_111 : zAt 33 111 m_Ho_lead (.getfield 14) 3 := ⟨hm_Ho_lead, by decide +kernel⟩
theorem a_Ho_lead_114 : zAt 33 114 m_Ho_lead (.iload_n 3) 1 := ⟨hm_Ho_lead, by decide +kernel⟩
theorem a_Ho_lead_115 : zAt 33 115 m_Ho_lead (.iconst 4) 1 := ⟨hm_Ho_lead, by decide +kernel⟩
theorem a_Ho_lead_116 : zAt 33 116 m_Ho_lead (.invokevirtual 59) 3 := ⟨hm_Ho_lead, by decide +kernel⟩
theorem a_Ho_lead_119 : zAt 33 119 m_Ho_lead (.bipush 99) 2 := ⟨hm_Ho_lead, by decide +kernel⟩
theorem a_Ho_lead_121 : zAt 33 121 m_Ho_lead (.if_icmp .ne 7) 3 := ⟨hm_Ho_lead, by decide +kernel⟩
theorem a_Ho_lead_124 : zAt 33 124 m_Ho_lead (.iconst 4) 1 := ⟨hm_Ho_lead, by decide +kernel⟩
theorem a_Ho_lead_125 : zAt 33 125 m_Ho_lead (.goto 4) 3 := ⟨hm_Ho_lead, by decide +kernel⟩
theorem a_Ho_lead_128 : zAt 33 128 m_Ho_lead (.iconst 3) 1 := ⟨hm_Ho_lead, by decide +kernel⟩
theorem a_Ho_lead_129 : zAt 33 129 m_Ho_lead (.ireturn) 1 := ⟨hm_Ho_lead, by decide +kernel⟩
theorem B_Ho_lead_0 {G : Nat → Nat → Int32} {x1 : Int32} : zden 33 0 [.ref 2, .int x1, .retAddr 0, .retAddr 0, .retAddr 0, .retAddr 0] [] (zSH, G) = zaft 33 6 [.ref 2, .int x1, .retAddr 0, .retAddr 0, .retAddr 0, .retAddr 0] [] (zSH, G) (zden 30 0 [.ref 2, .int x1, .int 0, .retAddr 0, .retAddr 0] [] (zSH, G)) :=
  (zd_aload_n a_Ho_lead_0 rfl).trans ((zd_iload_n a_Ho_lead_1 rfl).trans ((zd_iconst (v := 0) a_Ho_lead_2 (by decide)).trans ((zd_cal (kd := 0) (tg := 30) (T := m_Ho_fittingRowAt) a_Ho_lead_3 (by decide +kernel) hm_Ho_fittingRowAt rfl rfl rfl rfl))))
theorem B_Ho_lead_6 {G : Nat → Nat → Int32} {x1 s0 : Int32} : zden 33 6 [.ref 2, .int x1, .retAddr 0, .retAddr 0, .retAddr 0, .retAddr 0] [.int s0] (zSH, G) = zaft 33 13 [.ref 2, .int x1, .int s0, .retAddr 0, .retAddr 0, .retAddr 0] [] (zSH, G) (zden 30 0 [.ref 2, .int x1, .int 1, .retAddr 0, .retAddr 0] [] (zSH, G)) :=
  (zd_istore_n a_Ho_lead_6 rfl rfl rfl).trans ((zd_aload_n a_Ho_lead_7 rfl).trans ((zd_iload_n a_Ho_lead_8 rfl).trans ((zd_iconst (v := 1) a_Ho_lead_9 (by decide)).trans ((zd_cal (kd := 0) (tg := 30) (T := m_Ho_fittingRowAt) a_Ho_lead_10 (by decide +kernel) hm_Ho_fittingRowAt rfl rfl rfl rfl)))))
theorem B_Ho_lead_13 {G : Nat → Nat → Int32} {x1 x2 s0 : Int32} : zden 33 13 [.ref 2, .int x1, .int x2, .retAddr 0, .retAddr 0, .retAddr 0] [.int s0] (zSH, G) = if 0 ≤ s0 then if (tget G 3 4 55 x2 0) = 4 then zden 33 38 [.ref 2, .int x1, .int x2, .int s0, .retAddr 0, .retAddr 0] [.int 0] (zSH, G) else zden 33 38 [.ref 2, .int x1, .int x2, .int s0, .retAddr 0, .retAddr 0] [.int 1] (zSH, G) else some (some (.int 0), (zSH, G)) :=
  (zd_istore_n a_Ho_lead_13 rfl rfl rfl).trans ((zd_iload_n a_Ho_lead_14 rfl).trans ((zd_if_ge a_Ho_lead_15 rfl).trans (zite ((zd_aload_n a_Ho_lead_20 rfl).trans ((zd_getR (h := (zSH, G)) (ci := 2) (fi := 0) (a := 3) a_Ho_lead_21 (by decide +kernel) sh_2 rfl rfl).trans ((zd_iload_n a_Ho_lead_24 rfl).trans ((zd_iconst (v := 0) a_Ho_lead_25 (by decide)).trans ((zd_cal (kd := 0) (tg := 53) (T := m_Ta_get) a_Ho_lead_26 (by decide +kernel) hm_Ta_get rfl rfl rfl rfl).trans (((congrArg (zaft 33 29 [.ref 2, .int x1, .int x2, .int s0, .retAddr 0, .retAddr 0] [] (zSH, G)) (sp_get (r := 3) (q := 4) (n := 55) sh_3 sh_4 rfl (by decide))).trans zaft_same).trans ((zd_iconst (v := 4) a_Ho_lead_29 (by decide)).trans ((zd_icmp_eq a_Ho_lead_30 rfl).trans (zite ((zd_iconst (v := 0) a_Ho_lead_37 (by decide))) ((zd_iconst (v := 1) a_Ho_lead_33 (by decide)).trans ((zd_goto a_Ho_lead_34 rfl)))))))))))) ((zd_iconst (v := 0) a_Ho_lead_18 (by decide)).trans (zd_iret a_Ho_lead_19 rfl (znr_int _))))))
theorem B_Ho_lead_38 {G : Nat → Nat → Int32} {x1 x2 x3 s0 : Int32} : zden 33 38 [.ref 2, .int x1, .int x2, .int x3, .retAddr 0, .retAddr 0] [.int s0] (zSH, G) = if (tget G 3 4 55 x2 1) = 3 then zden 33 58 [.ref 2, .int x1, .int x2, .int x3, .int s0, .retAddr 0] [.int 0] (zSH, G) else zden 33 58 [.ref 2, .int x1, .int x2, .int x3, .int s0, .retAddr 0] [.int 1] (zSH, G) :=
  (zd_istore a_Ho_lead_38 rfl rfl rfl).trans ((zd_aload_n a_Ho_lead_40 rfl).trans ((zd_getR (h := (zSH, G)) (ci := 2) (fi := 0) (a := 3) a_Ho_lead_41 (by decide +kernel) sh_2 rfl rfl).trans ((zd_iload_n a_Ho_lead_44 rfl).trans ((zd_iconst (v := 1) a_Ho_lead_45 (by decide)).trans ((zd_cal (kd := 0) (tg := 53) (T := m_Ta_get) a_Ho_lead_46 (by decide +kernel) hm_Ta_get rfl rfl rfl rfl).trans (((congrArg (zaft 33 49 [.ref 2, .int x1, .int x2, .int x3, .int s0, .retAddr 0] [] (zSH, G)) (sp_get (r := 3) (q := 4) (n := 55) sh_3 sh_4 rfl (by decide))).trans zaft_same).trans ((zd_iconst (v := 3) a_Ho_lead_49 (by decide)).trans ((zd_icmp_eq a_Ho_lead_50 rfl).trans (zite ((zd_iconst (v := 0) a_Ho_lead_57 (by decide))) ((zd_iconst (v := 1) a_Ho_lead_53 (by decide)).trans ((zd_goto a_Ho_lead_54 rfl))))))))))))
theorem B_Ho_lead_58 {G : Nat → Nat → Int32} {x1 x2 x3 x4 s0 : Int32} : zden 33 58 [.ref 2, .int x1, .int x2, .int x3, .int x4, .retAddr 0] [.int s0] (zSH, G) = if (tget G 3 4 55 x3 0) = 4 then zden 33 80 [.ref 2, .int x1, .int x2, .int x3, .int x4, .int s0] [.int 0, .int x4] (zSH, G) else zden 33 80 [.ref 2, .int x1, .int x2, .int x3, .int x4, .int s0] [.int 1, .int x4] (zSH, G) :=
  (zd_istore a_Ho_lead_58 rfl rfl rfl).trans ((zd_iload a_Ho_lead_60 rfl).trans ((zd_aload_n a_Ho_lead_62 rfl).trans ((zd_getR (h := (zSH, G)) (ci := 2) (fi := 0) (a := 3) a_Ho_lead_63 (by decide +kernel) sh_2 rfl rfl).trans ((zd_iload_n a_Ho_lead_66 rfl).trans ((zd_iconst (v := 0) a_Ho_lead_67 (by decide)).trans ((zd_cal (kd := 0) (tg := 53) (T := m_Ta_get) a_Ho_lead_68 (by decide +kernel) hm_Ta_get rfl rfl rfl rfl).trans (((congrArg (zaft 33 71 [.ref 2, .int x1, .int x2, .int x3, .int x4, .int s0] [.int x4] (zSH, G)) (sp_get (r := 3) (q := 4) (n := 55) sh_3 sh_4 rfl (by decide))).trans zaft_same).trans ((zd_iconst (v := 4) a_Ho_lead_71 (by decide)).trans ((zd_icmp_eq a_Ho_lead_72 rfl).trans (zite ((zd_iconst (v := 0) a_Ho_lead_79 (by decide))) ((zd_iconst (v := 1) a_Ho_lead_75 (by decide)).trans ((zd_goto a_Ho_lead_76 rfl)))))))))))))
theorem B_Ho_lead_80 {G : Nat → Nat → Int32} {x1 x2 x3 x4 x5 s0 s1 : Int32} : zden 33 80 [.ref 2, .int x1, .int x2, .int x3, .int x4, .int x5] [.int s0, .int s1] (zSH, G) = if s1 = s0 then if (tget G 3 4 55 x3 1) = 3 then zden 33 105 [.ref 2, .int x1, .int x2, .int x3, .int x4, .int x5] [.int 0, .int x5] (zSH, G) else zden 33 105 [.ref 2, .int x1, .int x2, .int x3, .int x4, .int x5] [.int 1, .int x5] (zSH, G) else some (some (.int 1), (zSH, G)) :=
  (zd_icmp_eq a_Ho_lead_80 rfl).trans (zite ((zd_iload a_Ho_lead_85 rfl).trans ((zd_aload_n a_Ho_lead_87 rfl).trans ((zd_getR (h := (zSH, G)) (ci := 2) (fi := 0) (a := 3) a_Ho_lead_88 (by decide +kernel) sh_2 rfl rfl).trans ((zd_iload_n a_Ho_lead_91 rfl).trans ((zd_iconst (v := 1) a_Ho_lead_92 (by decide)).trans ((zd_cal (kd := 0) (tg := 53) (T := m_Ta_get) a_Ho_lead_93 (by decide +kernel) hm_Ta_get rfl rfl rfl rfl).trans (((congrArg (zaft 33 96 [.ref 2, .int x1, .int x2, .int x3, .int x4, .int x5] [.int x5] (zSH, G)) (sp_get (r := 3) (q := 4) (n := 55) sh_3 sh_4 rfl (by decide))).trans zaft_same).trans ((zd_iconst (v := 3) a_Ho_lead_96 (by decide)).trans ((zd_icmp_eq a_Ho_lead_97 rfl).trans (zite ((zd_iconst (v := 0) a_Ho_lead_104 (by decide))) ((zd_iconst (v := 1) a_Ho_lead_100 (by decide)).trans ((zd_goto a_Ho_lead_101 rfl))))))))))))) ((zd_iconst (v := 1) a_Ho_lead_83 (by decide)).trans (zd_iret a_Ho_lead_84 rfl (znr_int _))))
theorem B_Ho_lead_105 {G : Nat → Nat → Int32} {x1 x2 x3 x4 x5 s0 s1 : Int32} : zden 33 105 [.ref 2, .int x1, .int x2, .int x3, .int x4, .int x5] [.int s0, .int s1] (zSH, G) = if s1 = s0 then if ¬ (tget G 3 4 55 x3 4) = 99 then some (some (.int 3), (zSH, G)) else some (some (.int 4), (zSH, G)) else some (some (.int 2), (zSH, G)) :=
  (zd_icmp_eq a_Ho_lead_105 rfl).trans (zite ((zd_aload_n a_Ho_lead_110 rfl).trans ((zd_getR (h := (zSH, G)) (ci := 2) (fi := 0) (a := 3) a_Ho_lead_111 (by decide +kernel) sh_2 rfl rfl).trans ((zd_iload_n a_Ho_lead_114 rfl).trans ((zd_iconst (v := 4) a_Ho_lead_115 (by decide)).trans ((zd_cal (kd := 0) (tg := 53) (T := m_Ta_get) a_Ho_lead_116 (by decide +kernel) hm_Ta_get rfl rfl rfl rfl).trans (((congrArg (zaft 33 119 [.ref 2, .int x1, .int x2, .int x3, .int x4, .int x5] [] (zSH, G)) (sp_get (r := 3) (q := 4) (n := 55) sh_3 sh_4 rfl (by decide))).trans zaft_same).trans ((zd_bipush (v := 99) a_Ho_lead_119 (by decide)).trans ((zd_icmp_ne a_Ho_lead_121 rfl).trans (zite ((zd_iconst (v := 3) a_Ho_lead_128 (by decide)).trans (zd_iret a_Ho_lead_129 rfl (znr_int _))) ((zd_iconst (v := 4) a_Ho_lead_124 (by decide)).trans ((zd_goto a_Ho_lead_125 rfl).trans (zd_iret a_Ho_lead_129 rfl (znr_int _))))))))))))) ((zd_iconst (v := 2) a_Ho_lead_108 (by decide)).trans (zd_iret a_Ho_lead_109 rfl (znr_int _))))
theorem a_Ho_countGoodsOf_0 : zAt 23 0 m_Ho_countGoodsOf (.iconst 0) 1 := ⟨hm_Ho_countGoodsOf, by decide +kernel⟩
theorem a_Ho_countGoodsOf_1 : zAt 23 1 m_Ho_countGoodsOf (.istore_n 2) 1 := ⟨hm_Ho_countGoodsOf, by decide +kernel⟩
theorem a_Ho_countGoodsOf_2 : zAt 23 2 m_Ho_countGoodsOf (.iconst 0) 1 := ⟨hm_Ho_countGoodsOf, by decide +kernel⟩
theorem a_Ho_countGoodsOf_3 : zAt 23 3 m_Ho_countGoodsOf (.istore_n 3) 1 := ⟨hm_Ho_countGoodsOf, by decide +kernel⟩
theorem a_Ho_countGoodsOf_4 : zAt 23 4 m_Ho_countGoodsOf (.iload_n 3) 1 := ⟨hm_Ho_countGoodsOf, by decide +kernel⟩
theorem a_Ho_countGoodsOf_5 : zAt 23 5 m_Ho_countGoodsOf (.aload_n 0) 1 := ⟨hm_Ho_countGoodsOf, by decide +kernel⟩
theorem a_Ho_countGoodsOf_6 : zAt 23 6 m_Ho_countGoodsOf (.getfield 38) 3 := ⟨hm_Ho_countGoodsOf, by decide +kernel⟩
theorem a_Ho_countGoodsOf_9 : zAt 23 9 m_Ho_countGoodsOf (.if_icmp .ge 24) 3 := ⟨hm_Ho_countGoodsOf, by decide +kernel⟩
theorem a_Ho_countGoodsOf_12 : zAt 23 12 m_Ho_countGoodsOf (.aload_n 0) 1 := ⟨hm_Ho_countGoodsOf, by decide +kernel⟩
theorem a_Ho_countGoodsOf_13 : zAt 23 13 m_Ho_countGoodsOf (.iload_n 3) 1 := ⟨hm_Ho_countGoodsOf, by decide +kernel⟩
theorem a_Ho_countGoodsOf_14 : zAt 23 14 m_Ho_countGoodsOf (.sipush 1000) 3 := ⟨hm_Ho_countGoodsOf, by decide +kernel⟩
theorem a_Ho_countGoodsOf_17 : zAt 23 17 m_Ho_countGoodsOf (.invokevirtual 71) 3 := ⟨hm_Ho_countGoodsOf, by decide +kernel⟩
theorem a_Ho_countGoodsOf_20 : zAt 23 20 m_Ho_countGoodsOf (.iload_n 1) 1 := ⟨hm_Ho_countGoodsOf, by decide +kernel⟩
theorem a_Ho_countGoodsOf_21 : zAt 23 21 m_Ho_countGoodsOf (.if_icmp .ne 6) 3 := ⟨hm_Ho_countGoodsOf, by decide +kernel⟩
theorem a_Ho_countGoodsOf_24 : zAt 23 24 m_Ho_countGoodsOf (.iinc 2 1) 3 := ⟨hm_Ho_countGoodsOf, by decide +kernel⟩
theorem a_Ho_countGoodsOf_27 : zAt 23 27 m_Ho_countGoodsOf (.iinc 3 1) 3 := ⟨hm_Ho_countGoodsOf, by decide +kernel⟩
theorem a_Ho_countGoodsOf_30 : zAt 23 30 m_Ho_countGoodsOf (.goto (-26)) 3 := ⟨hm_Ho_countGoodsOf, by decide +kernel⟩
theorem a_Ho_countGoodsOf_33 : zAt 23 33 m_Ho_countGoodsOf (.iload_n 2) 1 := ⟨hm_Ho_countGoodsOf, by decide +kernel⟩
theorem a_Ho_countGoodsOf_34 : zAt 23 34 m_Ho_countGoodsOf (.ireturn) 1 := ⟨hm_Ho_countGoodsOf, by decide +kernel⟩
theorem B_Ho_countGoodsOf_0 {G : Nat → Nat → Int32} {x1 : Int32} : zden 23 0 [.ref 2, .int x1, .retAddr 0, .retAddr 0] [] (zSH, G) = zden 23 4 [.ref 2, .int x1, .int 0, .int 0] [] (zSH, G) :=
  (zd_iconst (v := 0) a_Ho_countGoodsOf_0 (by decide)).trans ((zd_istore_n a_Ho_countGoodsOf_1 rfl rfl rfl).trans ((zd_iconst (v := 0) a_Ho_countGoodsOf_2 (by decide)).trans ((zd_istore_n a_Ho_countGoodsOf_3 rfl rfl rfl))))
theorem B_Ho_countGoodsOf_4 {G : Nat → Nat → Int32} {x1 x2 x3 : Int32} : zden 23 4 [.ref 2, .int x1, .int x2, .int x3] [] (zSH, G) = if (G 2 4) ≤ x3 then some (some (.int x2), (zSH, G)) else zaft 23 20 [.ref 2, .int x1, .int x2, .int x3] [] (zSH, G) (zden 24 0 [.ref 2, .int x3, .int 1000, .retAddr 0, .retAddr 0, .retAddr 0, .retAddr 0] [] (zSH, G)) :=
  (zd_iload_n a_Ho_countGoodsOf_4 rfl).trans ((zd_aload_n a_Ho_countGoodsOf_5 rfl).trans ((zd_getI (h := (zSH, G)) (ci := 2) (fi := 4) a_Ho_countGoodsOf_6 (by decide +kernel) sh_2 rfl).trans ((zd_icmp_ge a_Ho_countGoodsOf_9 rfl).trans (zite ((zd_iload_n a_Ho_countGoodsOf_33 rfl).trans (zd_iret a_Ho_countGoodsOf_34 rfl (znr_int _))) ((zd_aload_n a_Ho_countGoodsOf_12 rfl).trans ((zd_iload_n a_Ho_countGoodsOf_13 rfl).trans ((zd_sipush (v := 1000) a_Ho_countGoodsOf_14 (by decide)).trans ((zd_cal (kd := 0) (tg := 24) (T := m_Ho_fittingRow) a_Ho_countGoodsOf_17 (by decide +kernel) hm_Ho_fittingRow rfl rfl rfl rfl)))))))))
theorem B_Ho_countGoodsOf_20 {G : Nat → Nat → Int32} {x1 x2 x3 s0 : Int32} : zden 23 20 [.ref 2, .int x1, .int x2, .int x3] [.int s0] (zSH, G) = if ¬ s0 = x1 then zden 23 27 [.ref 2, .int x1, .int x2, .int x3] [] (zSH, G) else zden 23 27 [.ref 2, .int x1, .int (x2 + 1), .int x3] [] (zSH, G) :=
  (zd_iload_n a_Ho_countGoodsOf_20 rfl).trans ((zd_icmp_ne a_Ho_countGoodsOf_21 rfl).trans (zite (rfl) ((zd_iinc (v := 1) a_Ho_countGoodsOf_24 rfl (by decide) rfl rfl rfl))))
theorem B_Ho_countGoodsOf_27 {G : Nat → Nat → Int32} {x1 x2 x3 : Int32} : zden 23 27 [.ref 2, .int x1, .int x2, .int x3] [] (zSH, G) = zden 23 4 [.ref 2, .int x1, .int x2, .int (x3 + 1)] [] (zSH, G) :=
  (zd_iinc (v := 1) a_Ho_countGoodsOf_27 rfl (by decide) rfl rfl rfl).trans ((zd_goto a_Ho_countGoodsOf_30 rfl))
theorem a_Ho_countGoodsThatAre_0 : zAt 34 0 m_Ho_countGoodsThatAre (.iconst 0) 1 := ⟨hm_Ho_countGoodsThatAre, by decide +kernel⟩
theorem a_Ho_countGoodsThatAre_1 : zAt 34 1 m_Ho_countGoodsThatAre (.istore_n 2) 1 := ⟨hm_Ho_countGoodsThatAre, by decide +kernel⟩
theorem a_Ho_countGoodsThatAre_2 : zAt 34 2 m_Ho_countGoodsThatAre (.iconst 0) 1 := ⟨hm_Ho_countGoodsThatAre, by decide +kernel⟩
theorem a_Ho_countGoodsThatAre_3 : zAt 34 3 m_Ho_countGoodsThatAre (.istore_n 3) 1 := ⟨hm_Ho_countGoodsThatAre, by decide +kernel⟩
theorem a_Ho_countGoodsThatAre_4 : zAt 34 4 m_Ho_countGoodsThatAre (.iload_n 3) 1 := ⟨hm_Ho_countGoodsThatAre, by decide +kernel⟩
theorem a_Ho_countGoodsThatAre_5 : zAt 34 5 m_Ho_countGoodsThatAre (.aload_n 0) 1 := ⟨hm_Ho_countGoodsThatAre, by decide +kernel⟩
theorem a_Ho_countGoodsThatAre_6 : zAt 34 6 m_Ho_countGoodsThatAre (.getfield 38) 3 := ⟨hm_Ho_countGoodsThatAre, by decide +kernel⟩
theorem a_Ho_countGoodsThatAre_9 : zAt 34 9 m_Ho_countGoodsThatAre (.if_icmp .ge 25) 3 := ⟨hm_Ho_countGoodsThatAre, by decide +kernel⟩
theorem a_Ho_countGoodsThatAre_12 : zAt 34 12 m_Ho_countGoodsThatAre (.aload_n 0) 1 := ⟨hm_Ho_countGoodsThatAre, by decide +kernel⟩
theorem a_Ho_countGoodsThatAre_13 : zAt 34 13 m_Ho_countGoodsThatAre (.getfield 20) 3 := ⟨hm_Ho_countGoodsThatAre, by decide +kernel⟩
theorem a_Ho_countGoodsThatAre_16 : zAt 34 16 m_Ho_countGoodsThatAre (.iload_n 3) 1 := ⟨hm_Ho_countGoodsThatAre, by decide +kernel⟩
theorem a_Ho_countGoodsThatAre_17 : zAt 34 17 m_Ho_countGoodsThatAre (.iconst 3) 1 := ⟨hm_Ho_countGoodsThatAre, by decide +kernel⟩
theorem a_Ho_countGoodsThatAre_18 : zAt 34 18 m_Ho_countGoodsThatAre (.invokevirtual 59) 3 := ⟨hm_Ho_countGoodsThatAre, by decide +kernel⟩
theorem a_Ho_countGoodsThatAre_21 : zAt 34 21 m_Ho_countGoodsThatAre (.iload_n 1) 1 := ⟨hm_Ho_countGoodsThatAre, by decide +kernel⟩
theorem a_Ho_countGoodsThatAre_22 : zAt 34 22 m_Ho_countGoodsThatAre (.if_icmp .ne 6) 3 := ⟨hm_Ho_countGoodsThatAre, by decide +kernel⟩
theorem a_Ho_countGoodsThatAre_25 : zAt 34 25 m_Ho_countGoodsThatAre (.iinc 2 1) 3 := ⟨hm_Ho_countGoodsThatAre, by decide +kernel⟩
theorem a_Ho_countGoodsThatAre_28 : zAt 34 28 m_Ho_countGoodsThatAre (.iinc 3 1) 3 := ⟨hm_Ho_countGoodsThatAre, by decide +kernel⟩
theorem a_Ho_countGoodsThatAre_31 : zAt 34 31 m_Ho_countGoodsThatAre (.goto (-27)) 3 := ⟨hm_Ho_countGoodsThatAre, by decide +kernel⟩
theorem a_Ho_countGoodsThatAre_34 : zAt 34 34 m_Ho_countGoodsThatAre (.iload_n 2) 1 := ⟨hm_Ho_countGoodsThatAre, by decide +kernel⟩
theorem a_Ho_countGoodsThatAre_35 : zAt 34 35 m_Ho_countGoodsThatAre (.ireturn) 1 := ⟨hm_Ho_countGoodsThatAre, by decide +kernel⟩
theorem B_Ho_countGoodsThatAre_0 {G : Nat → Nat → Int32} {x1 : Int32} : zden 34 0 [.ref 2, .int x1, .retAddr 0, .retAddr 0] [] (zSH, G) = zden 34 4 [.ref 2, .int x1, .int 0, .int 0] [] (zSH, G) :=
  (zd_iconst (v := 0) a_Ho_countGoodsThatAre_0 (by decide)).trans ((zd_istore_n a_Ho_countGoodsThatAre_1 rfl rfl rfl).trans ((zd_iconst (v := 0) a_Ho_countGoodsThatAre_2 (by decide)).trans ((zd_istore_n a_Ho_countGoodsThatAre_3 rfl rfl rfl))))
theorem B_Ho_countGoodsThatAre_4 {G : Nat → Nat → Int32} {x1 x2 x3 : Int32} : zden 34 4 [.ref 2, .int x1, .int x2, .int x3] [] (zSH, G) = if (G 2 4) ≤ x3 then some (some (.int x2), (zSH, G)) else if ¬ (tget G 5 6 276 x3 3) = x1 then zden 34 28 [.ref 2, .int x1, .int x2, .int x3] [] (zSH, G) else zden 34 28 [.ref 2, .int x1, .int (x2 + 1), .int x3] [] (zSH, G) :=
  (zd_iload_n a_Ho_countGoodsThatAre_4 rfl).trans ((zd_aload_n a_Ho_countGoodsThatAre_5 rfl).trans ((zd_getI (h := (zSH, G)) (ci := 2) (fi := 4) a_Ho_countGoodsThatAre_6 (by decide +kernel) sh_2 rfl).trans ((zd_icmp_ge a_Ho_countGoodsThatAre_9 rfl).trans (zite ((zd_iload_n a_Ho_countGoodsThatAre_34 rfl).trans (zd_iret a_Ho_countGoodsThatAre_35 rfl (znr_int _))) ((zd_aload_n a_Ho_countGoodsThatAre_12 rfl).trans ((zd_getR (h := (zSH, G)) (ci := 2) (fi := 1) (a := 5) a_Ho_countGoodsThatAre_13 (by decide +kernel) sh_2 rfl rfl).trans ((zd_iload_n a_Ho_countGoodsThatAre_16 rfl).trans ((zd_iconst (v := 3) a_Ho_countGoodsThatAre_17 (by decide)).trans ((zd_cal (kd := 0) (tg := 53) (T := m_Ta_get) a_Ho_countGoodsThatAre_18 (by decide +kernel) hm_Ta_get rfl rfl rfl rfl).trans (((congrArg (zaft 34 21 [.ref 2, .int x1, .int x2, .int x3] [] (zSH, G)) (sp_get (r := 5) (q := 6) (n := 276) sh_5 sh_6 rfl (by decide))).trans zaft_same).trans ((zd_iload_n a_Ho_countGoodsThatAre_21 rfl).trans ((zd_icmp_ne a_Ho_countGoodsThatAre_22 rfl).trans (zite (rfl) ((zd_iinc (v := 1) a_Ho_countGoodsThatAre_25 rfl (by decide) rfl rfl rfl)))))))))))))))
theorem B_Ho_countGoodsThatAre_28 {G : Nat → Nat → Int32} {x1 x2 x3 : Int32} : zden 34 28 [.ref 2, .int x1, .int x2, .int x3] [] (zSH, G) = zden 34 4 [.ref 2, .int x1, .int x2, .int (x3 + 1)] [] (zSH, G) :=
  (zd_iinc (v := 1) a_Ho_countGoodsThatAre_28 rfl (by decide) rfl rfl rfl).trans ((zd_goto a_Ho_countGoodsThatAre_31 rfl))
theorem a_Ho_originOf_0 : zAt 28 0 m_Ho_originOf (.bipush (-15)) 2 := ⟨hm_Ho_originOf, by decide +kernel⟩
theorem a_Ho_originOf_2 : zAt 28 2 m_Ho_originOf (.istore_n 2) 1 := ⟨hm_Ho_originOf, by decide +kernel⟩
theorem a_Ho_originOf_3 : zAt 28 3 m_Ho_originOf (.iconst 0) 1 := ⟨hm_Ho_originOf, by decide +kernel⟩
theorem a_Ho_originOf_4 : zAt 28 4 m_Ho_originOf (.istore_n 3) 1 := ⟨hm_Ho_originOf, by decide +kernel⟩
theorem a_Ho_originOf_5 : zAt 28 5 m_Ho_originOf (.iconst 0) 1 := ⟨hm_Ho_originOf, by decide +kernel⟩
theorem a_Ho_originOf_6 : zAt 28 6 m_Ho_originOf (.istore 4) 2 := ⟨hm_Ho_originOf, by decide +kernel⟩
theorem a_Ho_originOf_8 : zAt 28 8 m_Ho_originOf (.iconst 0) 1 := ⟨hm_Ho_originOf, by decide +kernel⟩
theorem a_Ho_originOf_9 : zAt 28 9 m_Ho_originOf (.istore 5) 2 := ⟨hm_Ho_originOf, by decide +kernel⟩
theorem a_Ho_originOf_11 : zAt 28 11 m_Ho_originOf (.iload 5) 2 := ⟨hm_Ho_originOf, by decide +kernel⟩
theorem a_Ho_originOf_13 : zAt 28 13 m_Ho_originOf (.iconst 5) 1 := ⟨hm_Ho_originOf, by decide +kernel⟩
theorem a_Ho_originOf_14 : zAt 28 14 m_Ho_originOf (.if_icmp .ge 68) 3 := ⟨hm_Ho_originOf, by decide +kernel⟩
theorem a_Ho_originOf_17 : zAt 28 17 m_Ho_originOf (.aload_n 0) 1 := ⟨hm_Ho_originOf, by decide +kernel⟩
theorem a_Ho_originOf_18 : zAt 28 18 m_Ho_originOf (.getfield 20) 3 := ⟨hm_Ho_originOf, by decide +kernel⟩
theorem a_Ho_originOf_21 : zAt 28 21 m_Ho_originOf (.iload_n 1) 1 := ⟨hm_Ho_originOf, by decide +kernel⟩
theorem a_Ho_originOf_22 : zAt 28 22 m_Ho_originOf (.bipush 13) 2 := ⟨hm_Ho_originOf, by decide +kernel⟩
theorem a_Ho_originOf_24 : zAt 28 24 m_Ho_originOf (.iload 5) 2 := ⟨hm_Ho_originOf, by decide +kernel⟩
theorem a_Ho_originOf_26 : zAt 28 26 m_Ho_originOf (.iadd) 1 := ⟨hm_Ho_originOf, by decide +kernel⟩
theorem a_Ho_originOf_27 : zAt 28 27 m_Ho_originOf (.invokevirtual 59) 3 := ⟨hm_Ho_originOf, by decide +kernel⟩
theorem a_Ho_originOf_30 : zAt 28 30 m_Ho_originOf (.istore 6) 2 := ⟨hm_Ho_originOf, by decide +kernel⟩
theorem a_Ho_originOf_32 : zAt 28 32 m_Ho_originOf (.aload_n 0) 1 := ⟨hm_Ho_originOf, by decide +kernel⟩
theorem a_Ho_originOf_33 : zAt 28 33 m_Ho_originOf (.getfield 20) 3 := ⟨hm_Ho_originOf, by decide +kernel⟩
theorem a_Ho_originOf_36 : zAt 28 36 m_Ho_originOf (.iload_n 1) 1 := ⟨hm_Ho_originOf, by decide +kernel⟩
theorem a_Ho_originOf_37 : zAt 28 37 m_Ho_originOf (.bipush 18) 2 := ⟨hm_Ho_originOf, by decide +kernel⟩
theorem a_Ho_originOf_39 : zAt 28 39 m_Ho_originOf (.iload 5) 2 := ⟨hm_Ho_originOf, by decide +kernel⟩
theorem a_Ho_originOf_41 : zAt 28 41 m_Ho_originOf (.iadd) 1 := ⟨hm_Ho_originOf, by decide +kernel⟩
theorem a_Ho_originOf_42 : zAt 28 42 m_Ho_originOf (.invokevirtual 59) 3 := ⟨hm_Ho_originOf, by decide +kernel⟩
theorem a_Ho_originOf_45 : zAt 28 45 m_Ho_originOf (.istore 7) 2 := ⟨hm_Ho_originOf, by decide +kernel⟩
theorem a_Ho_originOf_47 : zAt 28 47 m_Ho_originOf (.iload 6) 2 := ⟨hm_Ho_originOf, by decide +kernel⟩
theorem a_Ho_originOf_49 : zAt 28 49 m_Ho_originOf (.iload_n 3) 1 := ⟨hm_Ho_originOf, by decide +kernel⟩
theorem a_Ho_originOf_50 : zAt 28 50 m_Ho_originOf (.if_icmp .gt 16) 3 := ⟨hm_Ho_originOf, by decide +kernel⟩
theorem a_Ho_originOf_53 : zAt 28 53 m_Ho_originOf (.iload 6) 2 := ⟨hm_Ho_originOf, by decide +kernel⟩
theorem a_Ho_originOf_55 : zAt 28 55 m_Ho_originOf (.iload_n 3) 1 := ⟨hm_Ho_originOf, by decide +kernel⟩
theorem a_Ho_originOf_56 : zAt 28 56 m_Ho_originOf (.if_icmp .ne 20) 3 := ⟨hm_Ho_originOf, by decide +kernel⟩
theorem a_Ho_originOf_59 : zAt 28 59 m_Ho_originOf (.iload 7) 2 := ⟨hm_Ho_originOf, by decide +kernel⟩
theorem a_Ho_originOf_61 : zAt 28 61 m_Ho_originOf (.iload 4) 2 := ⟨hm_Ho_originOf, by decide +kernel⟩
theorem a_Ho_originOf_63 : zAt 28 63 m_Ho_originOf (.if_icmp .le 13) 3 := ⟨hm_Ho_originOf, by decide +kernel⟩
theorem a_Ho_originOf_66 : zAt 28 66 m_Ho_originOf (.iload 5) 2 := ⟨hm_Ho_originOf, by decide +kernel⟩
theorem a_Ho_originOf_68 : zAt 28 68 m_Ho_originOf (.istore_n 2) 1 := ⟨hm_Ho_originOf, by decide +kernel⟩
theorem a_Ho_originOf_69 : zAt 28 69 m_Ho_originOf (.iload 6) 2 := ⟨hm_Ho_originOf, by decide +kernel⟩
theorem a_Ho_originOf_71 : zAt 28 71 m_Ho_originOf (.istore_n 3) 1 := ⟨hm_Ho_originOf, by decide +kernel⟩
theorem a_Ho_originOf_72 : zAt 28 72 m_Ho_originOf (.iload 7) 2 := ⟨hm_Ho_originOf, by decide +kernel⟩
theorem a_Ho_originOf_74 : zAt 28 74 m_Ho_originOf (.istore 4) 2 := ⟨hm_Ho_originOf, by decide +kernel⟩
theorem a_Ho_originOf_76 : zAt 28 76 m_Ho_originOf (.iinc 5 1) 3 := ⟨hm_Ho_originOf, by decide +kernel⟩
theorem a_Ho_originOf_79 : zAt 28 79 m_Ho_originOf (.goto (-68)) 3 := ⟨hm_Ho_originOf, by decide +kernel⟩
theorem a_Ho_originOf_82 : zAt 28 82 m_Ho_originOf (.iload_n 2) 1 := ⟨hm_Ho_originOf, by decide +kernel⟩
theorem a_Ho_originOf_83 : zAt 28 83 m_Ho_originOf (.ireturn) 1 := ⟨hm_Ho_originOf, by decide +kernel⟩
theorem B_Ho_originOf_0 {G : Nat → Nat → Int32} {x1 : Int32} : zden 28 0 [.ref 2, .int x1, .retAddr 0, .retAddr 0, .retAddr 0, .retAddr 0, .retAddr 0, .retAddr 0] [] (zSH, G) = zden 28 11 [.ref 2, .int x1, .int (-15), .int 0, .int 0, .int 0, .retAddr 0, .retAddr 0] [] (zSH, G) :=
  (zd_bipush (v := (-15)) a_Ho_originOf_0 (by decide)).trans ((zd_istore_n a_Ho_originOf_2 rfl rfl rfl).trans ((zd_iconst (v := 0) a_Ho_originOf_3 (by decide)).trans ((zd_istore_n a_Ho_originOf_4 rfl rfl rfl).trans ((zd_iconst (v := 0) a_Ho_originOf_5 (by decide)).trans ((zd_istore a_Ho_originOf_6 rfl rfl rfl).trans ((zd_iconst (v := 0) a_Ho_originOf_8 (by decide)).trans ((zd_istore a_Ho_originOf_9 rfl rfl rfl))))))))
theorem B_Ho_originOf_11 {G : Nat → Nat → Int32} {x1 x2 x3 x4 x5 : Int32} {v6 v7 : Value} : zden 28 11 [.ref 2, .int x1, .int x2, .int x3, .int x4, .int x5, v6, v7] [] (zSH, G) = if 5 ≤ x5 then some (some (.int x2), (zSH, G)) else if x3 < (tget G 5 6 276 x1 (13 + x5)) then zden 28 66 [.ref 2, .int x1, .int x2, .int x3, .int x4, .int x5, .int (tget G 5 6 276 x1 (13 + x5)), .int (tget G 5 6 276 x1 (18 + x5))] [] (zSH, G) else if ¬ (tget G 5 6 276 x1 (13 + x5)) = x3 then zden 28 76 [.ref 2, .int x1, .int x2, .int x3, .int x4, .int x5, .int (tget G 5 6 276 x1 (13 + x5)), .int (tget G 5 6 276 x1 (18 + x5))] [] (zSH, G) else if (tget G 5 6 276 x1 (18 + x5)) ≤ x4 then zden 28 76 [.ref 2, .int x1, .int x2, .int x3, .int x4, .int x5, .int (tget G 5 6 276 x1 (13 + x5)), .int (tget G 5 6 276 x1 (18 + x5))] [] (zSH, G) else zden 28 66 [.ref 2, .int x1, .int x2, .int x3, .int x4, .int x5, .int (tget G 5 6 276 x1 (13 + x5)), .int (tget G 5 6 276 x1 (18 + x5))] [] (zSH, G) :=
  (zd_iload a_Ho_originOf_11 rfl).trans ((zd_iconst (v := 5) a_Ho_originOf_13 (by decide)).trans ((zd_icmp_ge a_Ho_originOf_14 rfl).trans (zite ((zd_iload_n a_Ho_originOf_82 rfl).trans (zd_iret a_Ho_originOf_83 rfl (znr_int _))) ((zd_aload_n a_Ho_originOf_17 rfl).trans ((zd_getR (h := (zSH, G)) (ci := 2) (fi := 1) (a := 5) a_Ho_originOf_18 (by decide +kernel) sh_2 rfl rfl).trans ((zd_iload_n a_Ho_originOf_21 rfl).trans ((zd_bipush (v := 13) a_Ho_originOf_22 (by decide)).trans ((zd_iload a_Ho_originOf_24 rfl).trans ((zd_num (st2 := [.int (13 + x5), .int x1, .ref 5]) a_Ho_originOf_26 rfl rfl rfl rfl).trans ((zd_cal (kd := 0) (tg := 53) (T := m_Ta_get) a_Ho_originOf_27 (by decide +kernel) hm_Ta_get rfl rfl rfl rfl).trans (((congrArg (zaft 28 30 [.ref 2, .int x1, .int x2, .int x3, .int x4, .int x5, v6, v7] [] (zSH, G)) (sp_get (r := 5) (q := 6) (n := 276) sh_5 sh_6 rfl (by decide))).trans zaft_same).trans ((zd_istore a_Ho_originOf_30 rfl rfl rfl).trans ((zd_aload_n a_Ho_originOf_32 rfl).trans ((zd_getR (h := (zSH, G)) (ci := 2) (fi := 1) (a := 5) a_Ho_originOf_33 (by decide +kernel) sh_2 rfl rfl).trans ((zd_iload_n a_Ho_originOf_36 rfl).trans ((zd_bipush (v := 18) a_Ho_originOf_37 (by decide)).trans ((zd_iload a_Ho_originOf_39 rfl).trans ((zd_num (st2 := [.int (18 + x5), .int x1, .ref 5]) a_Ho_originOf_41 rfl rfl rfl rfl).trans ((zd_cal (kd := 0) (tg := 53) (T := m_Ta_get) a_Ho_originOf_42 (by decide +kernel) hm_Ta_get rfl rfl rfl rfl).trans (((congrArg (zaft 28 45 [.ref 2, .int x1, .int x2, .int x3, .int x4, .int x5, .int (tget G 5 6 276 x1 (13 + x5)), v7] [] (zSH, G)) (sp_get (r := 5) (q := 6) (n := 276) sh_5 sh_6 rfl (by decide))).trans zaft_same).trans ((zd_istore a_Ho_originOf_45 rfl rfl rfl).trans ((zd_iload a_Ho_originOf_47 rfl).trans ((zd_iload_n a_Ho_originOf_49 rfl).trans ((zd_icmp_gt a_Ho_originOf_50 rfl).trans (zite (rfl) ((zd_iload a_Ho_originOf_53 rfl).trans ((zd_iload_n a_Ho_originOf_55 rfl).trans ((zd_icmp_ne a_Ho_originOf_56 rfl).trans (zite (rfl) ((zd_iload a_Ho_originOf_59 rfl).trans ((zd_iload a_Ho_originOf_61 rfl).trans ((zd_icmp_le a_Ho_originOf_63 rfl)))))))))))))))))))))))))))))))))
theorem B_Ho_originOf_66 {G : Nat → Nat → Int32} {x1 x2 x3 x4 x5 x6 x7 : Int32} : zden 28 66 [.ref 2, .int x1, .int x2, .int x3, .int x4, .int x5, .int x6, .int x7] [] (zSH, G) = zden 28 76 [.ref 2, .int x1, .int x5, .int x6, .int x7, .int x5, .int x6, .int x7] [] (zSH, G) :=
  (zd_iload a_Ho_originOf_66 rfl).trans ((zd_istore_n a_Ho_originOf_68 rfl rfl rfl).trans ((zd_iload a_Ho_originOf_69 rfl).trans ((zd_istore_n a_Ho_originOf_71 rfl rfl rfl).trans ((zd_iload a_Ho_originOf_72 rfl).trans ((zd_istore a_Ho_originOf_74 rfl rfl rfl))))))
theorem B_Ho_originOf_76 {G : Nat → Nat → Int32} {x1 x2 x3 x4 x5 x6 x7 : Int32} : zden 28 76 [.ref 2, .int x1, .int x2, .int x3, .int x4, .int x5, .int x6, .int x7] [] (zSH, G) = zden 28 11 [.ref 2, .int x1, .int x2, .int x3, .int x4, .int (x5 + 1), .int x6, .int x7] [] (zSH, G) :=
  (zd_iinc (v := 1) a_Ho_originOf_76 rfl (by decide) rfl rfl rfl).trans ((zd_goto a_Ho_originOf_79 rfl))
theorem a_Ho_dutyFrom_0 : zAt 29 0 m_Ho_dutyFrom (.aload_n 0) 1 := ⟨hm_Ho_dutyFrom, by decide +kernel⟩
theorem a_Ho_dutyFrom_1 : zAt 29 1 m_Ho_dutyFrom (.iload_n 1) 1 := ⟨hm_Ho_dutyFrom, by decide +kernel⟩
theorem a_Ho_dutyFrom_2 : zAt 29 2 m_Ho_dutyFrom (.sipush 1000) 3 := ⟨hm_Ho_dutyFrom, by decide +kernel⟩
theorem a_Ho_dutyFrom_5 : zAt 29 5 m_Ho_dutyFrom (.invokevirtual 71) 3 := ⟨hm_Ho_dutyFrom, by decide +kernel⟩
theorem a_Ho_dutyFrom_8 : zAt 29 8 m_Ho_dutyFrom (.istore_n 3) 1 := ⟨hm_Ho_dutyFrom, by decide +kernel⟩
theorem a_Ho_dutyFrom_9 : zAt 29 9 m_Ho_dutyFrom (.aload_n 0) 1 := ⟨hm_Ho_dutyFrom, by decide +kernel⟩
theorem a_Ho_dutyFrom_10 : zAt 29 10 m_Ho_dutyFrom (.getfield 20) 3 := ⟨hm_Ho_dutyFrom, by decide +kernel⟩
theorem a_Ho_dutyFrom_13 : zAt 29 13 m_Ho_dutyFrom (.iload_n 1) 1 := ⟨hm_Ho_dutyFrom, by decide +kernel⟩
theorem a_Ho_dutyFrom_14 : zAt 29 14 m_Ho_dutyFrom (.iconst 2) 1 := ⟨hm_Ho_dutyFrom, by decide +kernel⟩
theorem a_Ho_dutyFrom_15 : zAt 29 15 m_Ho_dutyFrom (.invokevirtual 59) 3 := ⟨hm_Ho_dutyFrom, by decide +kernel⟩
theorem a_Ho_dutyFrom_18 : zAt 29 18 m_Ho_dutyFrom (.aload_n 0) 1 := ⟨hm_Ho_dutyFrom, by decide +kernel⟩
theorem a_Ho_dutyFrom_19 : zAt 29 19 m_Ho_dutyFrom (.getfield 14) 3 := ⟨hm_Ho_dutyFrom, by decide +kernel⟩
theorem a_Ho_dutyFrom_22 : zAt 29 22 m_Ho_dutyFrom (.iload_n 3) 1 := ⟨hm_Ho_dutyFrom, by decide +kernel⟩
theorem a_Ho_dutyFrom_23 : zAt 29 23 m_Ho_dutyFrom (.iconst 2) 1 := ⟨hm_Ho_dutyFrom, by decide +kernel⟩
theorem a_Ho_dutyFrom_24 : zAt 29 24 m_Ho_dutyFrom (.invokevirtual 59) 3 := ⟨hm_Ho_dutyFrom, by decide +kernel⟩
theorem a_Ho_dutyFrom_27 : zAt 29 27 m_Ho_dutyFrom (.imul) 1 := ⟨hm_Ho_dutyFrom, by decide +kernel⟩
theorem a_Ho_dutyFrom_28 : zAt 29 28 m_Ho_dutyFrom (.bipush 100) 2 := ⟨hm_Ho_dutyFrom, by decide +kernel⟩
theorem a_Ho_dutyFrom_30 : zAt 29 30 m_Ho_dutyFrom (.idiv) 1 := ⟨hm_Ho_dutyFrom, by decide +kernel⟩
theorem a_Ho_dutyFrom_31 : zAt 29 31 m_Ho_dutyFrom (.istore 4) 2 := ⟨hm_Ho_dutyFrom, by decide +kernel⟩
theorem a_Ho_dutyFrom_33 : zAt 29 33 m_Ho_dutyFrom (.aload_n 0) 1 := ⟨hm_Ho_dutyFrom, by decide +kernel⟩
theorem a_Ho_dutyFrom_34 : zAt 29 34 m_Ho_dutyFrom (.getfield 20) 3 := ⟨hm_Ho_dutyFrom, by decide +kernel⟩
theorem a_Ho_dutyFrom_37 : zAt 29 37 m_Ho_dutyFrom (.iload_n 1) 1 := ⟨hm_Ho_dutyFrom, by decide +kernel⟩
theorem a_Ho_dutyFrom_38 : zAt 29 38 m_Ho_dutyFrom (.iconst 1) 1 := ⟨hm_Ho_dutyFrom, by decide +kernel⟩
theorem a_Ho_dutyFrom_39 : zAt 29 39 m_Ho_dutyFrom (.invokevirtual 59) 3 := ⟨hm_Ho_dutyFrom, by decide +kernel⟩
theorem a_Ho_dutyFrom_42 : zAt 29 42 m_Ho_dutyFrom (.aload_n 0) 1 := ⟨hm_Ho_dutyFrom, by decide +kernel⟩
theorem a_Ho_dutyFrom_43 : zAt 29 43 m_Ho_dutyFrom (.getfield 14) 3 := ⟨hm_Ho_dutyFrom, by decide +kernel⟩
theorem a_Ho_dutyFrom_46 : zAt 29 46 m_Ho_dutyFrom (.iload_n 3) 1 := ⟨hm_Ho_dutyFrom, by decide +kernel⟩
theorem a_Ho_dutyFrom_47 : zAt 29 47 m_Ho_dutyFrom (.iconst 3) 1 := ⟨hm_Ho_dutyFrom, by decide +kernel⟩
theorem a_Ho_dutyFrom_48 : zAt 29 48 m_Ho_dutyFrom (.invokevirtual 59) 3 := ⟨hm_Ho_dutyFrom, by decide +kernel⟩
theorem a_Ho_dutyFrom_51 : zAt 29 51 m_Ho_dutyFrom (.imul) 1 := ⟨hm_Ho_dutyFrom, by decide +kernel⟩
theorem a_Ho_dutyFrom_52 : zAt 29 52 m_Ho_dutyFrom (.istore 5) 2 := ⟨hm_Ho_dutyFrom, by decide +kernel⟩
theorem a_Ho_dutyFrom_54 : zAt 29 54 m_Ho_dutyFrom (.iload 4) 2 := ⟨hm_Ho_dutyFrom, by decide +kernel⟩
theorem a_Ho_dutyFrom_56 : zAt 29 56 m_Ho_dutyFrom (.iload 5) 2 := ⟨hm_Ho_dutyFrom, by decide +kernel⟩
theorem a_Ho_dutyFrom_58 : zAt 29 58 m_Ho_dutyFrom (.invokestatic 80) 3 := ⟨hm_Ho_dutyFrom, by decide +kernel⟩
theorem a_Ho_dutyFrom_61 : zAt 29 61 m_Ho_dutyFrom (.istore 6) 2 := ⟨hm_Ho_dutyFrom, by decide +kernel⟩
theorem a_Ho_dutyFrom_63 : zAt 29 63 m_Ho_dutyFrom (.iload 6) 2 := ⟨hm_Ho_dutyFrom, by decide +kernel⟩
theorem a_Ho_dutyFrom_65 : zAt 29 65 m_Ho_dutyFrom (.iload 6) 2 := ⟨hm_Ho_dutyFrom, by decide +kernel⟩
theorem a_Ho_dutyFrom_67 : zAt 29 67 m_Ho_dutyFrom (.aload_n 0) 1 := ⟨hm_Ho_dutyFrom, by decide +kernel⟩
theorem a_Ho_dutyFrom_68 : zAt 29 68 m_Ho_dutyFrom (.getfield 23) 3 := ⟨hm_Ho_dutyFrom, by decide +kernel⟩
theorem a_Ho_dutyFrom_71 : zAt 29 71 m_Ho_dutyFrom (.iconst 0) 1 := ⟨hm_Ho_dutyFrom, by decide +kernel⟩
theorem a_Ho_dutyFrom_72 : zAt 29 72 m_Ho_dutyFrom (.iload_n 2) 1 := ⟨hm_Ho_dutyFrom, by decide +kernel⟩
theorem a_Ho_dutyFrom_73 : zAt 29 73 m_Ho_dutyFrom (.invokevirtual 59) 3 := ⟨hm_Ho_dutyFrom, by decide +kernel⟩
theorem a_Ho_dutyFrom_76 : zAt 29 76 m_Ho_dutyFrom (.imul) 1 := ⟨hm_Ho_dutyFrom, by decide +kernel⟩
theorem a_Ho_dutyFrom_77 : zAt 29 77 m_Ho_dutyFrom (.bipush 100) 2 := ⟨hm_Ho_dutyFrom, by decide +kernel⟩
theorem a_Ho_dutyFrom_79 : zAt 29 79 m_Ho_dutyFrom (.idiv) 1 := ⟨hm_Ho_dutyFrom, by decide +kernel⟩
theorem a_Ho_dutyFrom_80 : zAt 29 80 m_Ho_dutyFrom (.isub) 1 := ⟨hm_Ho_dutyFrom, by decide +kernel⟩
theorem a_Ho_dutyFrom_81 : zAt 29 81 m_Ho_dutyFrom (.ireturn) 1 := ⟨hm_Ho_dutyFrom, by decide +kernel⟩
theorem B_Ho_dutyFrom_0 {G : Nat → Nat → Int32} {x1 x2 : Int32} : zden 29 0 [.ref 2, .int x1, .int x2, .retAddr 0, .retAddr 0, .retAddr 0, .retAddr 0] [] (zSH, G) = zaft 29 8 [.ref 2, .int x1, .int x2, .retAddr 0, .retAddr 0, .retAddr 0, .retAddr 0] [] (zSH, G) (zden 24 0 [.ref 2, .int x1, .int 1000, .retAddr 0, .retAddr 0, .retAddr 0, .retAddr 0] [] (zSH, G)) :=
  (zd_aload_n a_Ho_dutyFrom_0 rfl).trans ((zd_iload_n a_Ho_dutyFrom_1 rfl).trans ((zd_sipush (v := 1000) a_Ho_dutyFrom_2 (by decide)).trans ((zd_cal (kd := 0) (tg := 24) (T := m_Ho_fittingRow) a_Ho_dutyFrom_5 (by decide +kernel) hm_Ho_fittingRow rfl rfl rfl rfl))))
theorem B_Ho_dutyFrom_8 {G : Nat → Nat → Int32} {x1 x2 s0 : Int32} : zden 29 8 [.ref 2, .int x1, .int x2, .retAddr 0, .retAddr 0, .retAddr 0, .retAddr 0] [.int s0] (zSH, G) = some (some (.int ((if (((tget G 5 6 276 x1 2) * (tget G 3 4 55 s0 2)) / 100) < ((tget G 5 6 276 x1 1) * (tget G 3 4 55 s0 3)) then (tget G 5 6 276 x1 1) * (tget G 3 4 55 s0 3) else ((tget G 5 6 276 x1 2) * (tget G 3 4 55 s0 2)) / 100) - (((if (((tget G 5 6 276 x1 2) * (tget G 3 4 55 s0 2)) / 100) < ((tget G 5 6 276 x1 1) * (tget G 3 4 55 s0 3)) then (tget G 5 6 276 x1 1) * (tget G 3 4 55 s0 3) else ((tget G 5 6 276 x1 2) * (tget G 3 4 55 s0 2)) / 100) * (tget G 7 8 5 0 x2)) / 100))), (zSH, G)) :=
  (zd_istore_n a_Ho_dutyFrom_8 rfl rfl rfl).trans ((zd_aload_n a_Ho_dutyFrom_9 rfl).trans ((zd_getR (h := (zSH, G)) (ci := 2) (fi := 1) (a := 5) a_Ho_dutyFrom_10 (by decide +kernel) sh_2 rfl rfl).trans ((zd_iload_n a_Ho_dutyFrom_13 rfl).trans ((zd_iconst (v := 2) a_Ho_dutyFrom_14 (by decide)).trans ((zd_cal (kd := 0) (tg := 53) (T := m_Ta_get) a_Ho_dutyFrom_15 (by decide +kernel) hm_Ta_get rfl rfl rfl rfl).trans (((congrArg (zaft 29 18 [.ref 2, .int x1, .int x2, .int s0, .retAddr 0, .retAddr 0, .retAddr 0] [] (zSH, G)) (sp_get (r := 5) (q := 6) (n := 276) sh_5 sh_6 rfl (by decide))).trans zaft_same).trans ((zd_aload_n a_Ho_dutyFrom_18 rfl).trans ((zd_getR (h := (zSH, G)) (ci := 2) (fi := 0) (a := 3) a_Ho_dutyFrom_19 (by decide +kernel) sh_2 rfl rfl).trans ((zd_iload_n a_Ho_dutyFrom_22 rfl).trans ((zd_iconst (v := 2) a_Ho_dutyFrom_23 (by decide)).trans ((zd_cal (kd := 0) (tg := 53) (T := m_Ta_get) a_Ho_dutyFrom_24 (by decide +kernel) hm_Ta_get rfl rfl rfl rfl).trans (((congrArg (zaft 29 27 [.ref 2, .int x1, .int x2, .int s0, .retAddr 0, .retAddr 0, .retAddr 0] [.int (tget G 5 6 276 x1 2)] (zSH, G)) (sp_get (r := 3) (q := 4) (n := 55) sh_3 sh_4 rfl (by decide))).trans zaft_same).trans ((zd_num (st2 := [.int ((tget G 5 6 276 x1 2) * (tget G 3 4 55 s0 2))]) a_Ho_dutyFrom_27 rfl rfl rfl rfl).trans ((zd_bipush (v := 100) a_Ho_dutyFrom_28 (by decide)).trans ((zd_idiv a_Ho_dutyFrom_30 (by decide)).trans ((zd_istore a_Ho_dutyFrom_31 rfl rfl rfl).trans ((zd_aload_n a_Ho_dutyFrom_33 rfl).trans ((zd_getR (h := (zSH, G)) (ci := 2) (fi := 1) (a := 5) a_Ho_dutyFrom_34 (by decide +kernel) sh_2 rfl rfl).trans ((zd_iload_n a_Ho_dutyFrom_37 rfl).trans ((zd_iconst (v := 1) a_Ho_dutyFrom_38 (by decide)).trans ((zd_cal (kd := 0) (tg := 53) (T := m_Ta_get) a_Ho_dutyFrom_39 (by decide +kernel) hm_Ta_get rfl rfl rfl rfl).trans (((congrArg (zaft 29 42 [.ref 2, .int x1, .int x2, .int s0, .int (((tget G 5 6 276 x1 2) * (tget G 3 4 55 s0 2)) / 100), .retAddr 0, .retAddr 0] [] (zSH, G)) (sp_get (r := 5) (q := 6) (n := 276) sh_5 sh_6 rfl (by decide))).trans zaft_same).trans ((zd_aload_n a_Ho_dutyFrom_42 rfl).trans ((zd_getR (h := (zSH, G)) (ci := 2) (fi := 0) (a := 3) a_Ho_dutyFrom_43 (by decide +kernel) sh_2 rfl rfl).trans ((zd_iload_n a_Ho_dutyFrom_46 rfl).trans ((zd_iconst (v := 3) a_Ho_dutyFrom_47 (by decide)).trans ((zd_cal (kd := 0) (tg := 53) (T := m_Ta_get) a_Ho_dutyFrom_48 (by decide +kernel) hm_Ta_get rfl rfl rfl rfl).trans (((congrArg (zaft 29 51 [.ref 2, .int x1, .int x2, .int s0, .int (((tget G 5 6 276 x1 2) * (tget G 3 4 55 s0 2)) / 100), .retAddr 0, .retAddr 0] [.int (tget G 5 6 276 x1 1)] (zSH, G)) (sp_get (r := 3) (q := 4) (n := 55) sh_3 sh_4 rfl (by decide))).trans zaft_same).trans ((zd_num (st2 := [.int ((tget G 5 6 276 x1 1) * (tget G 3 4 55 s0 3))]) a_Ho_dutyFrom_51 rfl rfl rfl rfl).trans ((zd_istore a_Ho_dutyFrom_52 rfl rfl rfl).trans ((zd_iload a_Ho_dutyFrom_54 rfl).trans ((zd_iload a_Ho_dutyFrom_56 rfl).trans ((zd_max a_Ho_dutyFrom_58 (by decide +kernel) (by decide +kernel) rfl).trans ((zd_istore a_Ho_dutyFrom_61 rfl rfl rfl).trans ((zd_iload a_Ho_dutyFrom_63 rfl).trans ((zd_iload a_Ho_dutyFrom_65 rfl).trans ((zd_aload_n a_Ho_dutyFrom_67 rfl).trans ((zd_getR (h := (zSH, G)) (ci := 2) (fi := 2) (a := 7) a_Ho_dutyFrom_68 (by decide +kernel) sh_2 rfl rfl).trans ((zd_iconst (v := 0) a_Ho_dutyFrom_71 (by decide)).trans ((zd_iload_n a_Ho_dutyFrom_72 rfl).trans ((zd_cal (kd := 0) (tg := 53) (T := m_Ta_get) a_Ho_dutyFrom_73 (by decide +kernel) hm_Ta_get rfl rfl rfl rfl).trans (((congrArg (zaft 29 76 [.ref 2, .int x1, .int x2, .int s0, .int (((tget G 5 6 276 x1 2) * (tget G 3 4 55 s0 2)) / 100), .int ((tget G 5 6 276 x1 1) * (tget G 3 4 55 s0 3)), .int (if (((tget G 5 6 276 x1 2) * (tget G 3 4 55 s0 2)) / 100) < ((tget G 5 6 276 x1 1) * (tget G 3 4 55 s0 3)) then (tget G 5 6 276 x1 1) * (tget G 3 4 55 s0 3) else ((tget G 5 6 276 x1 2) * (tget G 3 4 55 s0 2)) / 100)] [.int (if (((tget G 5 6 276 x1 2) * (tget G 3 4 55 s0 2)) / 100) < ((tget G 5 6 276 x1 1) * (tget G 3 4 55 s0 3)) then (tget G 5 6 276 x1 1) * (tget G 3 4 55 s0 3) else ((tget G 5 6 276 x1 2) * (tget G 3 4 55 s0 2)) / 100), .int (if (((tget G 5 6 276 x1 2) * (tget G 3 4 55 s0 2)) / 100) < ((tget G 5 6 276 x1 1) * (tget G 3 4 55 s0 3)) then (tget G 5 6 276 x1 1) * (tget G 3 4 55 s0 3) else ((tget G 5 6 276 x1 2) * (tget G 3 4 55 s0 2)) / 100)] (zSH, G)) (sp_get (r := 7) (q := 8) (n := 5) sh_7 sh_8 rfl (by decide))).trans zaft_same).trans ((zd_num (st2 := [.int ((if (((tget G 5 6 276 x1 2) * (tget G 3 4 55 s0 2)) / 100) < ((tget G 5 6 276 x1 1) * (tget G 3 4 55 s0 3)) then (tget G 5 6 276 x1 1) * (tget G 3 4 55 s0 3) else ((tget G 5 6 276 x1 2) * (tget G 3 4 55 s0 2)) / 100) * (tget G 7 8 5 0 x2)), .int (if (((tget G 5 6 276 x1 2) * (tget G 3 4 55 s0 2)) / 100) < ((tget G 5 6 276 x1 1) * (tget G 3 4 55 s0 3)) then (tget G 5 6 276 x1 1) * (tget G 3 4 55 s0 3) else ((tget G 5 6 276 x1 2) * (tget G 3 4 55 s0 2)) / 100)]) a_Ho_dutyFrom_76 rfl rfl rfl rfl).trans ((zd_bipush (v := 100) a_Ho_dutyFrom_77 (by decide)).trans ((zd_idiv a_Ho_dutyFrom_79 (by decide)).trans ((zd_num (st2 := [.int ((if (((tget G 5 6 276 x1 2) * (tget G 3 4 55 s0 2)) / 100) < ((tget G 5 6 276 x1 1) * (tget G 3 4 55 s0 3)) then (tget G 5 6 276 x1 1) * (tget G 3 4 55 s0 3) else ((tget G 5 6 276 x1 2) * (tget G 3 4 55 s0 2)) / 100) - (((if (((tget G 5 6 276 x1 2) * (tget G 3 4 55 s0 2)) / 100) < ((tget G 5 6 276 x1 1) * (tget G 3 4 55 s0 3)) then (tget G 5 6 276 x1 1) * (tget G 3 4 55 s0 3) else ((tget G 5 6 276 x1 2) * (tget G 3 4 55 s0 2)) / 100) * (tget G 7 8 5 0 x2)) / 100))]) a_Ho_dutyFrom_80 rfl rfl rfl rfl).trans (zd_iret a_Ho_dutyFrom_81 rfl (znr_int _))))))))))))))))))))))))))))))))))))))))))))))))
theorem a_Ho_favouredSet_0 : zAt 35 0 m_Ho_favouredSet (.iconst 0) 1 := ⟨hm_Ho_favouredSet, by decide +kernel⟩
theorem a_Ho_favouredSet_1 : zAt 35 1 m_Ho_favouredSet (.istore_n 1) 1 := ⟨hm_Ho_favouredSet, by decide +kernel⟩
theorem a_Ho_favouredSet_2 : zAt 35 2 m_Ho_favouredSet (.iconst 0) 1 := ⟨hm_Ho_favouredSet, by decide +kernel⟩
theorem a_Ho_favouredSet_3 : zAt 35 3 m_Ho_favouredSet (.istore_n 2) 1 := ⟨hm_Ho_favouredSet, by decide +kernel⟩
theorem a_Ho_favouredSet_4 : zAt 35 4 m_Ho_favouredSet (.iload_n 2) 1 := ⟨hm_Ho_favouredSet, by decide +kernel⟩
theorem a_Ho_favouredSet_5 : zAt 35 5 m_Ho_favouredSet (.iconst 5) 1 := ⟨hm_Ho_favouredSet, by decide +kernel⟩
theorem a_Ho_favouredSet_6 : zAt 35 6 m_Ho_favouredSet (.if_icmp .ge 27) 3 := ⟨hm_Ho_favouredSet, by decide +kernel⟩
theorem a_Ho_favouredSet_9 : zAt 35 9 m_Ho_favouredSet (.aload_n 0) 1 := ⟨hm_Ho_favouredSet, by decide +kernel⟩
theorem a_Ho_favouredSet_10 : zAt 35 10 m_Ho_favouredSet (.getfield 23) 3 := ⟨hm_Ho_favouredSet, by decide +kernel⟩
theorem a_Ho_favouredSet_13 : zAt 35 13 m_Ho_favouredSet (.iconst 0) 1 := ⟨hm_Ho_favouredSet, by decide +kernel⟩
theorem a_Ho_favouredSet_14 : zAt 35 14 m_Ho_favouredSet (.iload_n 2) 1 := ⟨hm_Ho_favouredSet, by decide +kernel⟩
theorem a_Ho_favouredSet_15 : zAt 35 15 m_Ho_favouredSet (.invokevirtual 59) 3 := ⟨hm_Ho_favouredSet, by decide +kernel⟩
theorem a_Ho_favouredSet_18 : zAt 35 18 m_Ho_favouredSet (.ifCond .le 9) 3 := ⟨hm_Ho_favouredSet, by decide +kernel⟩
theorem a_Ho_favouredSet_21 : zAt 35 21 m_Ho_favouredSet (.iload_n 1) 1 := ⟨hm_Ho_favouredSet, by decide +kernel⟩
theorem a_Ho_favouredSet_22 : zAt 35 22 m_Ho_favouredSet (.iconst 1) 1 := ⟨hm_Ho_favouredSet, by decide +kernel⟩
theorem a_Ho_favouredSet_23 : zAt 35 23 m_Ho_favouredSet (.iload_n 2) 1 := ⟨hm_Ho_favouredSet, by decide +kernel⟩
theorem a_Ho_favouredSet_24 : zAt 35 24 m_Ho_favouredSet (.ishl) 1 := ⟨hm_Ho_favouredSet, by decide +kernel⟩
theorem a_Ho_favouredSet_25 : zAt 35 25 m_Ho_favouredSet (.ior) 1 := ⟨hm_Ho_favouredSet, by decide +kernel⟩
theorem a_Ho_favouredSet_26 : zAt 35 26 m_Ho_favouredSet (.istore_n 1) 1 := ⟨hm_Ho_favouredSet, by decide +kernel⟩
theorem a_Ho_favouredSet_27 : zAt 35 27 m_Ho_favouredSet (.iinc 2 1) 3 := ⟨hm_Ho_favouredSet, by decide +kernel⟩
theorem a_Ho_favouredSet_30 : zAt 35 30 m_Ho_favouredSet (.goto (-26)) 3 := ⟨hm_Ho_favouredSet, by decide +kernel⟩
theorem a_Ho_favouredSet_33 : zAt 35 33 m_Ho_favouredSet (.iload_n 1) 1 := ⟨hm_Ho_favouredSet, by decide +kernel⟩
theorem a_Ho_favouredSet_34 : zAt 35 34 m_Ho_favouredSet (.ireturn) 1 := ⟨hm_Ho_favouredSet, by decide +kernel⟩
theorem B_Ho_favouredSet_0 {G : Nat → Nat → Int32} : zden 35 0 [.ref 2, .retAddr 0, .retAddr 0] [] (zSH, G) = zden 35 4 [.ref 2, .int 0, .int 0] [] (zSH, G) :=
  (zd_iconst (v := 0) a_Ho_favouredSet_0 (by decide)).trans ((zd_istore_n a_Ho_favouredSet_1 rfl rfl rfl).trans ((zd_iconst (v := 0) a_Ho_favouredSet_2 (by decide)).trans ((zd_istore_n a_Ho_favouredSet_3 rfl rfl rfl))))
theorem B_Ho_favouredSet_4 {G : Nat → Nat → Int32} {x1 x2 : Int32} : zden 35 4 [.ref 2, .int x1, .int x2] [] (zSH, G) = if 5 ≤ x2 then some (some (.int x1), (zSH, G)) else if (tget G 7 8 5 0 x2) ≤ 0 then zden 35 27 [.ref 2, .int x1, .int x2] [] (zSH, G) else zden 35 27 [.ref 2, .int (x1 ||| (1 <<< (x2 &&& 31))), .int x2] [] (zSH, G) :=
  (zd_iload_n a_Ho_favouredSet_4 rfl).trans ((zd_iconst (v := 5) a_Ho_favouredSet_5 (by decide)).trans ((zd_icmp_ge a_Ho_favouredSet_6 rfl).trans (zite ((zd_iload_n a_Ho_favouredSet_33 rfl).trans (zd_iret a_Ho_favouredSet_34 rfl (znr_int _))) ((zd_aload_n a_Ho_favouredSet_9 rfl).trans ((zd_getR (h := (zSH, G)) (ci := 2) (fi := 2) (a := 7) a_Ho_favouredSet_10 (by decide +kernel) sh_2 rfl rfl).trans ((zd_iconst (v := 0) a_Ho_favouredSet_13 (by decide)).trans ((zd_iload_n a_Ho_favouredSet_14 rfl).trans ((zd_cal (kd := 0) (tg := 53) (T := m_Ta_get) a_Ho_favouredSet_15 (by decide +kernel) hm_Ta_get rfl rfl rfl rfl).trans (((congrArg (zaft 35 18 [.ref 2, .int x1, .int x2] [] (zSH, G)) (sp_get (r := 7) (q := 8) (n := 5) sh_7 sh_8 rfl (by decide))).trans zaft_same).trans ((zd_if_le a_Ho_favouredSet_18 rfl).trans (zite (rfl) ((zd_iload_n a_Ho_favouredSet_21 rfl).trans ((zd_iconst (v := 1) a_Ho_favouredSet_22 (by decide)).trans ((zd_iload_n a_Ho_favouredSet_23 rfl).trans ((zd_num (st2 := [.int (1 <<< (x2 &&& 31)), .int x1]) a_Ho_favouredSet_24 rfl rfl rfl rfl).trans ((zd_num (st2 := [.int (x1 ||| (1 <<< (x2 &&& 31)))]) a_Ho_favouredSet_25 rfl rfl rfl rfl).trans ((zd_istore_n a_Ho_favouredSet_26 rfl rfl rfl))))))))))))))))))
theorem B_Ho_favouredSet_27 {G : Nat → Nat → Int32} {x1 x2 : Int32} : zden 35 27 [.ref 2, .int x1, .int x2] [] (zSH, G) = zden 35 4 [.ref 2, .int x1, .int (x2 + 1)] [] (zSH, G) :=
  (zd_iinc (v := 1) a_Ho_favouredSet_27 rfl (by decide) rfl rfl rfl).trans ((zd_goto a_Ho_favouredSet_30 rfl))
theorem a_Ho_areCoinsRight_0 : zAt 36 0 m_Ho_areCoinsRight (.iconst 0) 1 := ⟨hm_Ho_areCoinsRight, by decide +kernel⟩
theorem a_Ho_areCoinsRight_1 : zAt 36 1 m_Ho_areCoinsRight (.istore_n 1) 1 := ⟨hm_Ho_areCoinsRight, by decide +kernel⟩
theorem a_Ho_areCoinsRight_2 : zAt 36 2 m_Ho_areCoinsRight (.iconst 0) 1 := ⟨hm_Ho_areCoinsRight, by decide +kernel⟩
theorem a_Ho_areCoinsRight_3 : zAt 36 3 m_Ho_areCoinsRight (.istore_n 2) 1 := ⟨hm_Ho_areCoinsRight, by decide +kernel⟩
theorem a_Ho_areCoinsRight_4 : zAt 36 4 m_Ho_areCoinsRight (.iconst 0) 1 := ⟨hm_Ho_areCoinsRight, by decide +kernel⟩
theorem a_Ho_areCoinsRight_5 : zAt 36 5 m_Ho_areCoinsRight (.istore_n 3) 1 := ⟨hm_Ho_areCoinsRight, by decide +kernel⟩
theorem a_Ho_areCoinsRight_6 : zAt 36 6 m_Ho_areCoinsRight (.iload_n 3) 1 := ⟨hm_Ho_areCoinsRight, by decide +kernel⟩
theorem a_Ho_areCoinsRight_7 : zAt 36 7 m_Ho_areCoinsRight (.aload_n 0) 1 := ⟨hm_Ho_areCoinsRight, by decide +kernel⟩
theorem a_Ho_areCoinsRight_8 : zAt 36 8 m_Ho_areCoinsRight (.getfield 38) 3 := ⟨hm_Ho_areCoinsRight, by decide +kernel⟩
theorem a_Ho_areCoinsRight_11 : zAt 36 11 m_Ho_areCoinsRight (.if_icmp .ge 34) 3 := ⟨hm_Ho_areCoinsRight, by decide +kernel⟩
theorem a_Ho_areCoinsRight_14 : zAt 36 14 m_Ho_areCoinsRight (.iload_n 1) 1 := ⟨hm_Ho_areCoinsRight, by decide +kernel⟩
theorem a_Ho_areCoinsRight_15 : zAt 36 15 m_Ho_areCoinsRight (.aload_n 0) 1 := ⟨hm_Ho_areCoinsRight, by decide +kernel⟩
theorem a_Ho_areCoinsRight_16 : zAt 36 16 m_Ho_areCoinsRight (.getfield 20) 3 := ⟨hm_Ho_areCoinsRight, by decide +kernel⟩
theorem a_Ho_areCoinsRight_19 : zAt 36 19 m_Ho_areCoinsRight (.iload_n 3) 1 := ⟨hm_Ho_areCoinsRight, by decide +kernel⟩
theorem a_Ho_areCoinsRight_20 : zAt 36 20 m_Ho_areCoinsRight (.iconst 5) 1 := ⟨hm_Ho_areCoinsRight, by decide +kernel⟩
theorem a_Ho_areCoinsRight_21 : zAt 36 21 m_Ho_areCoinsRight (.invokevirtual 59) 3 := ⟨hm_Ho_areCoinsRight, by decide +kernel⟩
theorem a_Ho_areCoinsRight_24 : zAt 36 24 m_Ho_areCoinsRight (.iadd) 1 := ⟨hm_Ho_areCoinsRight, by decide +kernel⟩
theorem a_Ho_areCoinsRight_25 : zAt 36 25 m_Ho_areCoinsRight (.istore_n 1) 1 := ⟨hm_Ho_areCoinsRight, by decide +kernel⟩
theorem a_Ho_areCoinsRight_26 : zAt 36 26 m_Ho_areCoinsRight (.iload_n 2) 1 := ⟨hm_Ho_areCoinsRight, by decide +kernel⟩
theorem a_Ho_areCoinsRight_27 : zAt 36 27 m_Ho_areCoinsRight (.aload_n 0) 1 := ⟨hm_Ho_areCoinsRight, by decide +kernel⟩
theorem a_Ho_areCoinsRight_28 : zAt 36 28 m_Ho_areCoinsRight (.getfield 20) 3 := ⟨hm_Ho_areCoinsRight, by decide +kernel⟩
theorem a_Ho_areCoinsRight_31 : zAt 36 31 m_Ho_areCoinsRight (.iload_n 3) 1 := ⟨hm_Ho_areCoinsRight, by decide +kernel⟩
theorem a_Ho_areCoinsRight_32 : zAt 36 32 m_Ho_areCoinsRight (.bipush 6) 2 := ⟨hm_Ho_areCoinsRight, by decide +kernel⟩
theorem a_Ho_areCoinsRight_34 : zAt 36 34 m_Ho_areCoinsRight (.invokevirtual 59) 3 := ⟨hm_Ho_areCoinsRight, by decide +kernel⟩
theorem a_Ho_areCoinsRight_37 : zAt 36 37 m_Ho_areCoinsRight (.iadd) 1 := ⟨hm_Ho_areCoinsRight, by decide +kernel⟩
theorem a_Ho_areCoinsRight_38 : zAt 36 38 m_Ho_areCoinsRight (.istore_n 2) 1 := ⟨hm_Ho_areCoinsRight, by decide +kernel⟩
theorem a_Ho_areCoinsRight_39 : zAt 36 39 m_Ho_areCoinsRight (.iinc 3 1) 3 := ⟨hm_Ho_areCoinsRight, by decide +kernel⟩
theorem a_Ho_areCoinsRight_42 : zAt 36 42 m_Ho_areCoinsRight (.goto (-36)) 3 := ⟨hm_Ho_areCoinsRight, by decide +kernel⟩
theorem a_Ho_areCoinsRight_45 : zAt 36 45 m_Ho_areCoinsRight (.aload_n 0) 1 := ⟨hm_Ho_areCoinsRight, by decide +kernel⟩
theorem a_Ho_areCoinsRight_46 : zAt 36 46 m_Ho_areCoinsRight (.getfield 44) 3 := ⟨hm_Ho_areCoinsRight, by decide +kernel⟩
theorem a_Ho_areCoinsRight_49 : zAt 36 49 m_Ho_areCoinsRight (.aload_n 0) 1 := ⟨hm_Ho_areCoinsRight, by decide +kernel⟩
theorem a_Ho_areCoinsRight_50 : zAt 36 50 m_Ho_areCoinsRight (.getfield 47) 3 := ⟨hm_Ho_areCoinsRight, by decide +kernel⟩
theorem a_Ho_areCoinsRight_53 : zAt 36 53 m_Ho_areCoinsRight (.aload_n 0) 1 := ⟨hm_Ho_areCoinsRight, by decide +kernel⟩
theorem a_Ho_areCoinsRight_54 : zAt 36 54 m_Ho_areCoinsRight (.getfield 53) 3 := ⟨hm_Ho_areCoinsRight, by decide +kernel⟩
theorem a_Ho_areCoinsRight_57 : zAt 36 57 m_Ho_areCoinsRight (.iadd) 1 := ⟨hm_Ho_areCoinsRight, by decide +kernel⟩
theorem a_Ho_areCoinsRight_58 : zAt 36 58 m_Ho_areCoinsRight (.aload_n 0) 1 := ⟨hm_Ho_areCoinsRight, by decide +kernel⟩
theorem a_Ho_areCoinsRight_59 : zAt 36 59 m_Ho_areCoinsRight (.getfield 50) 3 := ⟨hm_Ho_areCoinsRight, by decide +kernel⟩
theorem a_Ho_areCoinsRight_62 : zAt 36 62 m_Ho_areCoinsRight (.isub) 1 := ⟨hm_Ho_areCoinsRight, by decide +kernel⟩
theorem a_Ho_areCoinsRight_63 : zAt 36 63 m_Ho_areCoinsRight (.if_icmp .ne 23) 3 := ⟨hm_Ho_areCoinsRight, by decide +kernel⟩
theorem a_Ho_areCoinsRight_66 : zAt 36 66 m_Ho_areCoinsRight (.aload_n 0) 1 := ⟨hm_Ho_areCoinsRight, by decide +kernel⟩
theorem a_Ho_areCoinsRight_67 : zAt 36 67 m_Ho_areCoinsRight (.getfield 50) 3 := ⟨hm_Ho_areCoinsRight, by decide +kernel⟩
theorem a_Ho_areCoinsRight_70 : zAt 36 70 m_Ho_areCoinsRight (.iload_n 1) 1 := ⟨hm_Ho_areCoinsRight, by decide +kernel⟩
theorem a_Ho_areCoinsRight_71 : zAt 36 71 m_Ho_areCoinsRight (.if_icmp .ne 15) 3 := ⟨hm_Ho_areCoinsRight, by decide +kernel⟩
theorem a_Ho_areCoinsRight_74 : zAt 36 74 m_Ho_areCoinsRight (.aload_n 0) 1 := ⟨hm_Ho_areCoinsRight, by decide +kernel⟩
theorem a_Ho_areCoinsRight_75 : zAt 36 75 m_Ho_areCoinsRight (.getfield 53) 3 := ⟨hm_Ho_areCoinsRight, by decide +kernel⟩
theorem a_Ho_areCoinsRight_78 : zAt 36 78 m_Ho_areCoinsRight (.iload_n 2) 1 := ⟨hm_Ho_areCoinsRight, by decide +kernel⟩
theorem a_Ho_areCoinsRight_79 : zAt 36 79 m_Ho_areCoinsRight (.if_icmp .ne 7) 3 := ⟨hm_Ho_areCoinsRight, by decide +kernel⟩
theorem a_Ho_areCoinsRight_82 : zAt 36 82 m_Ho_areCoinsRight (.iconst 1) 1 := ⟨hm_Ho_areCoinsRight, by decide +kernel⟩
theorem a_Ho_areCoinsRight_83 : zAt 36 83 m_Ho_areCoinsRight (.goto 4) 3 := ⟨hm_Ho_areCoinsRight, by decide +kernel⟩
theorem a_Ho_areCoinsRight_86 : zAt 36 86 m_Ho_areCoinsRight (.iconst 0) 1 := ⟨hm_Ho_areCoinsRight, by decide +kernel⟩
theorem a_Ho_areCoinsRight_87 : zAt 36 87 m_Ho_areCoinsRight (.ireturn) 1 := ⟨hm_Ho_areCoinsRight, by decide +kernel⟩
theorem B_Ho_areCoinsRight_0 {G : Nat → Nat → Int32} : zden 36 0 [.ref 2, .retAddr 0, .retAddr 0, .retAddr 0] [] (zSH, G) = zden 36 6 [.ref 2, .int 0, .int 0, .int 0] [] (zSH, G) :=
  (zd_iconst (v := 0) a_Ho_areCoinsRight_0 (by decide)).trans ((zd_istore_n a_Ho_areCoinsRight_1 rfl rfl rfl).trans ((zd_iconst (v := 0) a_Ho_areCoinsRight_2 (by decide)).trans ((zd_istore_n a_Ho_areCoinsRight_3 rfl rfl rfl).trans ((zd_iconst (v := 0) a_Ho_areCoinsRight_4 (by decide)).trans ((zd_istore_n a_Ho_areCoinsRight_5 rfl rfl rfl))))))
theorem B_Ho_areCoinsRight_6 {G : Nat → Nat → Int32} {x1 x2 x3 : Int32} : zden 36 6 [.ref 2, .int x1, .int x2, .int x3] [] (zSH, G) = if (G 2 4) ≤ x3 then if ¬ (G 2 6) = (((G 2 7) + (G 2 9)) - (G 2 8)) then some (some (.int 0), (zSH, G)) else if ¬ (G 2 8) = x1 then some (some (.int 0), (zSH, G)) else if ¬ (G 2 9) = x2 then some (some (.int 0), (zSH, G)) else some (some (.int 1), (zSH, G)) else zden 36 6 [.ref 2, .int (x1 + (tget G 5 6 276 x3 5)), .int (x2 + (tget G 5 6 276 x3 6)), .int (x3 + 1)] [] (zSH, G) :=
  (zd_iload_n a_Ho_areCoinsRight_6 rfl).trans ((zd_aload_n a_Ho_areCoinsRight_7 rfl).trans ((zd_getI (h := (zSH, G)) (ci := 2) (fi := 4) a_Ho_areCoinsRight_8 (by decide +kernel) sh_2 rfl).trans ((zd_icmp_ge a_Ho_areCoinsRight_11 rfl).trans (zite ((zd_aload_n a_Ho_areCoinsRight_45 rfl).trans ((zd_getI (h := (zSH, G)) (ci := 2) (fi := 6) a_Ho_areCoinsRight_46 (by decide +kernel) sh_2 rfl).trans ((zd_aload_n a_Ho_areCoinsRight_49 rfl).trans ((zd_getI (h := (zSH, G)) (ci := 2) (fi := 7) a_Ho_areCoinsRight_50 (by decide +kernel) sh_2 rfl).trans ((zd_aload_n a_Ho_areCoinsRight_53 rfl).trans ((zd_getI (h := (zSH, G)) (ci := 2) (fi := 9) a_Ho_areCoinsRight_54 (by decide +kernel) sh_2 rfl).trans ((zd_num (st2 := [.int ((G 2 7) + (G 2 9)), .int (G 2 6)]) a_Ho_areCoinsRight_57 rfl rfl rfl rfl).trans ((zd_aload_n a_Ho_areCoinsRight_58 rfl).trans ((zd_getI (h := (zSH, G)) (ci := 2) (fi := 8) a_Ho_areCoinsRight_59 (by decide +kernel) sh_2 rfl).trans ((zd_num (st2 := [.int (((G 2 7) + (G 2 9)) - (G 2 8)), .int (G 2 6)]) a_Ho_areCoinsRight_62 rfl rfl rfl rfl).trans ((zd_icmp_ne a_Ho_areCoinsRight_63 rfl).trans (zite ((zd_iconst (v := 0) a_Ho_areCoinsRight_86 (by decide)).trans (zd_iret a_Ho_areCoinsRight_87 rfl (by decide))) ((zd_aload_n a_Ho_areCoinsRight_66 rfl).trans ((zd_getI (h := (zSH, G)) (ci := 2) (fi := 8) a_Ho_areCoinsRight_67 (by decide +kernel) sh_2 rfl).trans ((zd_iload_n a_Ho_areCoinsRight_70 rfl).trans ((zd_icmp_ne a_Ho_areCoinsRight_71 rfl).trans (zite ((zd_iconst (v := 0) a_Ho_areCoinsRight_86 (by decide)).trans (zd_iret a_Ho_areCoinsRight_87 rfl (by decide))) ((zd_aload_n a_Ho_areCoinsRight_74 rfl).trans ((zd_getI (h := (zSH, G)) (ci := 2) (fi := 9) a_Ho_areCoinsRight_75 (by decide +kernel) sh_2 rfl).trans ((zd_iload_n a_Ho_areCoinsRight_78 rfl).trans ((zd_icmp_ne a_Ho_areCoinsRight_79 rfl).trans (zite ((zd_iconst (v := 0) a_Ho_areCoinsRight_86 (by decide)).trans (zd_iret a_Ho_areCoinsRight_87 rfl (by decide))) ((zd_iconst (v := 1) a_Ho_areCoinsRight_82 (by decide)).trans ((zd_goto a_Ho_areCoinsRight_83 rfl).trans (zd_iret a_Ho_areCoinsRight_87 rfl (by decide)))))))))))))))))))))))))) ((zd_iload_n a_Ho_areCoinsRight_14 rfl).trans ((zd_aload_n a_Ho_areCoinsRight_15 rfl).trans ((zd_getR (h := (zSH, G)) (ci := 2) (fi := 1) (a := 5) a_Ho_areCoinsRight_16 (by decide +kernel) sh_2 rfl rfl).trans ((zd_iload_n a_Ho_areCoinsRight_19 rfl).trans ((zd_iconst (v := 5) a_Ho_areCoinsRight_20 (by decide)).trans ((zd_cal (kd := 0) (tg := 53) (T := m_Ta_get) a_Ho_areCoinsRight_21 (by decide +kernel) hm_Ta_get rfl rfl rfl rfl).trans (((congrArg (zaft 36 24 [.ref 2, .int x1, .int x2, .int x3] [.int x1] (zSH, G)) (sp_get (r := 5) (q := 6) (n := 276) sh_5 sh_6 rfl (by decide))).trans zaft_same).trans ((zd_num (st2 := [.int (x1 + (tget G 5 6 276 x3 5))]) a_Ho_areCoinsRight_24 rfl rfl rfl rfl).trans ((zd_istore_n a_Ho_areCoinsRight_25 rfl rfl rfl).trans ((zd_iload_n a_Ho_areCoinsRight_26 rfl).trans ((zd_aload_n a_Ho_areCoinsRight_27 rfl).trans ((zd_getR (h := (zSH, G)) (ci := 2) (fi := 1) (a := 5) a_Ho_areCoinsRight_28 (by decide +kernel) sh_2 rfl rfl).trans ((zd_iload_n a_Ho_areCoinsRight_31 rfl).trans ((zd_bipush (v := 6) a_Ho_areCoinsRight_32 (by decide)).trans ((zd_cal (kd := 0) (tg := 53) (T := m_Ta_get) a_Ho_areCoinsRight_34 (by decide +kernel) hm_Ta_get rfl rfl rfl rfl).trans (((congrArg (zaft 36 37 [.ref 2, .int (x1 + (tget G 5 6 276 x3 5)), .int x2, .int x3] [.int x2] (zSH, G)) (sp_get (r := 5) (q := 6) (n := 276) sh_5 sh_6 rfl (by decide))).trans zaft_same).trans ((zd_num (st2 := [.int (x2 + (tget G 5 6 276 x3 6))]) a_Ho_areCoinsRight_37 rfl rfl rfl rfl).trans ((zd_istore_n a_Ho_areCoinsRight_38 rfl rfl rfl).trans ((zd_iinc (v := 1) a_Ho_areCoinsRight_39 rfl (by decide) rfl rfl rfl).trans ((zd_goto a_Ho_areCoinsRight_42 rfl)))))))))))))))))))))))))
theorem a_Ho_areHeadingsRight_0 : zAt 37 0 m_Ho_areHeadingsRight (.iconst 0) 1 := ⟨hm_Ho_areHeadingsRight, by decide +kernel⟩
theorem a_Ho_areHeadingsRight_1 : zAt 37 1 m_Ho_areHeadingsRight (.istore_n 1) 1 := ⟨hm_Ho_areHeadingsRight, by decide +kernel⟩
theorem a_Ho_areHeadingsRight_2 : zAt 37 2 m_Ho_areHeadingsRight (.iload_n 1) 1 := ⟨hm_Ho_areHeadingsRight, by decide +kernel⟩
theorem a_Ho_areHeadingsRight_3 : zAt 37 3 m_Ho_areHeadingsRight (.aload_n 0) 1 := ⟨hm_Ho_areHeadingsRight, by decide +kernel⟩
theorem a_Ho_areHeadingsRight_4 : zAt 37 4 m_Ho_areHeadingsRight (.getfield 38) 3 := ⟨hm_Ho_areHeadingsRight, by decide +kernel⟩
theorem a_Ho_areHeadingsRight_7 : zAt 37 7 m_Ho_areHeadingsRight (.if_icmp .ge 27) 3 := ⟨hm_Ho_areHeadingsRight, by decide +kernel⟩
theorem a_Ho_areHeadingsRight_10 : zAt 37 10 m_Ho_areHeadingsRight (.aload_n 0) 1 := ⟨hm_Ho_areHeadingsRight, by decide +kernel⟩
theorem a_Ho_areHeadingsRight_11 : zAt 37 11 m_Ho_areHeadingsRight (.iload_n 1) 1 := ⟨hm_Ho_areHeadingsRight, by decide +kernel⟩
theorem a_Ho_areHeadingsRight_12 : zAt 37 12 m_Ho_areHeadingsRight (.sipush 1000) 3 := ⟨hm_Ho_areHeadingsRight, by decide +kernel⟩
theorem a_Ho_areHeadingsRight_15 : zAt 37 15 m_Ho_areHeadingsRight (.invokevirtual 71) 3 := ⟨hm_Ho_areHeadingsRight, by decide +kernel⟩
theorem a_Ho_areHeadingsRight_18 : zAt 37 18 m_Ho_areHeadingsRight (.aload_n 0) 1 := ⟨hm_Ho_areHeadingsRight, by decide +kernel⟩
theorem a_Ho_areHeadingsRight_19 : zAt 37 19 m_Ho_areHeadingsRight (.iload_n 1) 1 := ⟨hm_Ho_areHeadingsRight, by decide +kernel⟩
theorem a_Ho_areHeadingsRight_20 : zAt 37 20 m_Ho_areHeadingsRight (.invokevirtual 85) 3 := ⟨hm_Ho_areHeadingsRight, by decide +kernel⟩
theorem a_Ho_areHeadingsRight_23 : zAt 37 23 m_Ho_areHeadingsRight (.if_icmp .eq 5) 3 := ⟨hm_Ho_areHeadingsRight, by decide +kernel⟩
theorem a_Ho_areHeadingsRight_26 : zAt 37 26 m_Ho_areHeadingsRight (.iconst 0) 1 := ⟨hm_Ho_areHeadingsRight, by decide +kernel⟩
theorem a_Ho_areHeadingsRight_27 : zAt 37 27 m_Ho_areHeadingsRight (.ireturn) 1 := ⟨hm_Ho_areHeadingsRight, by decide +kernel⟩
theorem a_Ho_areHeadingsRight_28 : zAt 37 28 m_Ho_areHeadingsRight (.iinc 1 1) 3 := ⟨hm_Ho_areHeadingsRight, by decide +kernel⟩
theorem a_Ho_areHeadingsRight_31 : zAt 37 31 m_Ho_areHeadingsRight (.goto (-29)) 3 := ⟨hm_Ho_areHeadingsRight, by decide +kernel⟩
theorem a_Ho_areHeadingsRight_34 : zAt 37 34 m_Ho_areHeadingsRight (.iconst 1) 1 := ⟨hm_Ho_areHeadingsRight, by decide +kernel⟩
theorem a_Ho_areHeadingsRight_35 : zAt 37 35 m_Ho_areHeadingsRight (.ireturn) 1 := ⟨hm_Ho_areHeadingsRight, by decide +kernel⟩
theorem B_Ho_areHeadingsRight_0 {G : Nat → Nat → Int32} : zden 37 0 [.ref 2, .retAddr 0] [] (zSH, G) = zden 37 2 [.ref 2, .int 0] [] (zSH, G) :=
  (zd_iconst (v := 0) a_Ho_areHeadingsRight_0 (by decide)).trans ((zd_istore_n a_Ho_areHeadingsRight_1 rfl rfl rfl))
theorem B_Ho_areHeadingsRight_2 {G : Nat → Nat → Int32} {x1 : Int32} : zden 37 2 [.ref 2, .int x1] [] (zSH, G) = if (G 2 4) ≤ x1 then some (some (.int 1), (zSH, G)) else zaft 37 18 [.ref 2, .int x1] [] (zSH, G) (zden 24 0 [.ref 2, .int x1, .int 1000, .retAddr 0, .retAddr 0, .retAddr 0, .retAddr 0] [] (zSH, G)) :=
  (zd_iload_n a_Ho_areHeadingsRight_2 rfl).trans ((zd_aload_n a_Ho_areHeadingsRight_3 rfl).trans ((zd_getI (h := (zSH, G)) (ci := 2) (fi := 4) a_Ho_areHeadingsRight_4 (by decide +kernel) sh_2 rfl).trans ((zd_icmp_ge a_Ho_areHeadingsRight_7 rfl).trans (zite ((zd_iconst (v := 1) a_Ho_areHeadingsRight_34 (by decide)).trans (zd_iret a_Ho_areHeadingsRight_35 rfl (by decide))) ((zd_aload_n a_Ho_areHeadingsRight_10 rfl).trans ((zd_iload_n a_Ho_areHeadingsRight_11 rfl).trans ((zd_sipush (v := 1000) a_Ho_areHeadingsRight_12 (by decide)).trans ((zd_cal (kd := 0) (tg := 24) (T := m_Ho_fittingRow) a_Ho_areHeadingsRight_15 (by decide +kernel) hm_Ho_fittingRow rfl rfl rfl rfl)))))))))
theorem B_Ho_areHeadingsRight_18 {G : Nat → Nat → Int32} {x1 s0 : Int32} : zden 37 18 [.ref 2, .int x1] [.int s0] (zSH, G) = zaft 37 23 [.ref 2, .int x1] [.int s0] (zSH, G) (zden 31 0 [.ref 2, .int x1, .retAddr 0, .retAddr 0] [] (zSH, G)) :=
  (zd_aload_n a_Ho_areHeadingsRight_18 rfl).trans ((zd_iload_n a_Ho_areHeadingsRight_19 rfl).trans ((zd_cal (kd := 0) (tg := 31) (T := m_Ho_keptRow) a_Ho_areHeadingsRight_20 (by decide +kernel) hm_Ho_keptRow rfl rfl rfl rfl)))
theorem B_Ho_areHeadingsRight_23 {G : Nat → Nat → Int32} {x1 s0 s1 : Int32} : zden 37 23 [.ref 2, .int x1] [.int s0, .int s1] (zSH, G) = if s1 = s0 then zden 37 2 [.ref 2, .int (x1 + 1)] [] (zSH, G) else some (some (.int 0), (zSH, G)) :=
  (zd_icmp_eq a_Ho_areHeadingsRight_23 rfl).trans (zite ((zd_iinc (v := 1) a_Ho_areHeadingsRight_28 rfl (by decide) rfl rfl rfl).trans ((zd_goto a_Ho_areHeadingsRight_31 rfl))) ((zd_iconst (v := 0) a_Ho_areHeadingsRight_26 (by decide)).trans (zd_iret a_Ho_areHeadingsRight_27 rfl (by decide))))
