-- 42: blocks of the law (written by wip/p36/gen41.py)
theorem hm_L_cell : zms[k_L_cell]? = some m_L_cell := rfl
theorem a_L_cell_0 : zAt 119 0 m_L_cell (.aload_n 0) 1 := ⟨hm_L_cell, by decide +kernel⟩
theorem a_L_cell_1 : zAt 119 1 m_L_cell (.arraylength) 1 := ⟨hm_L_cell, by decide +kernel⟩
theorem a_L_cell_2 : zAt 119 2 m_L_cell (.ifCond .ne 13) 3 := ⟨hm_L_cell, by decide +kernel⟩
theorem a_L_cell_5 : zAt 119 5 m_L_cell (.bipush 71) 2 := ⟨hm_L_cell, by decide +kernel⟩
theorem a_L_cell_7 : zAt 119 7 m_L_cell (.iload_n 1) 1 := ⟨hm_L_cell, by decide +kernel⟩
theorem a_L_cell_8 : zAt 119 8 m_L_cell (.imul) 1 := ⟨hm_L_cell, by decide +kernel⟩
theorem a_L_cell_9 : zAt 119 9 m_L_cell (.bipush 13) 2 := ⟨hm_L_cell, by decide +kernel⟩
theorem a_L_cell_11 : zAt 119 11 m_L_cell (.iadd) 1 := ⟨hm_L_cell, by decide +kernel⟩
theorem a_L_cell_12 : zAt 119 12 m_L_cell (.goto 19) 3 := ⟨hm_L_cell, by decide +kernel⟩
theorem a_L_cell_15 : zAt 119 15 m_L_cell (.aload_n 0) 1 := ⟨hm_L_cell, by decide +kernel⟩
theorem a_L_cell_16 : zAt 119 16 m_L_cell (.iload_n 1) 1 := ⟨hm_L_cell, by decide +kernel⟩
theorem a_L_cell_17 : zAt 119 17 m_L_cell (.aload_n 0) 1 := ⟨hm_L_cell, by decide +kernel⟩
theorem a_L_cell_18 : zAt 119 18 m_L_cell (.arraylength) 1 := ⟨hm_L_cell, by decide +kernel⟩
theorem a_L_cell_19 : zAt 119 19 m_L_cell (.irem) 1 := ⟨hm_L_cell, by decide +kernel⟩
theorem a_L_cell_20 : zAt 119 20 m_L_cell (.iaload) 1 := ⟨hm_L_cell, by decide +kernel⟩
theorem a_L_cell_21 : zAt 119 21 m_L_cell (.iconst 5) 1 := ⟨hm_L_cell, by decide +kernel⟩
theorem a_L_cell_22 : zAt 119 22 m_L_cell (.iload_n 1) 1 := ⟨hm_L_cell, by decide +kernel⟩
theorem a_L_cell_23 : zAt 119 23 m_L_cell (.aload_n 0) 1 := ⟨hm_L_cell, by decide +kernel⟩
theorem a_L_cell_24 : zAt 119 24 m_L_cell (.arraylength) 1 := ⟨hm_L_cell, by decide +kernel⟩
theorem a_L_cell_25 : zAt 119 25 m_L_cell (.idiv) 1 := ⟨hm_L_cell, by decide +kernel⟩
theorem a_L_cell_26 : zAt 119 26 m_L_cell (.imul) 1 := ⟨hm_L_cell, by decide +kernel⟩
theorem a_L_cell_27 : zAt 119 27 m_L_cell (.bipush 17) 2 := ⟨hm_L_cell, by decide +kernel⟩
theorem a_L_cell_29 : zAt 119 29 m_L_cell (.irem) 1 := ⟨hm_L_cell, by decide +kernel⟩
theorem a_L_cell_30 : zAt 119 30 m_L_cell (.iushr) 1 := ⟨hm_L_cell, by decide +kernel⟩
theorem a_L_cell_31 : zAt 119 31 m_L_cell (.ireturn) 1 := ⟨hm_L_cell, by decide +kernel⟩
theorem B_L_cell_0 {E : List zS} {G : Nat → Nat → Int32} {x1 : Int32} (z19_0 : (¬ (G 2000001 0) = 0) → ¬ (G 2000001 0) = 0) (z20_1 : (¬ (G 2000001 0) = 0) → 0 ≤ (x1 - x1 / (G 2000001 0) * (G 2000001 0)) ∧ (x1 - x1 / (G 2000001 0) * (G 2000001 0)) < G 2000001 0) : zden 119 0 [.ref 2000000, .int x1] [] (zSH ++ E, G) = if ¬ (G 2000001 0) = 0 then some (some (.int ((Int32.toUInt32 (G 2000000 (x1 - x1 / (G 2000001 0) * (G 2000001 0)).toNatClampNeg) >>> (Int32.toUInt32 ((5 * (x1 / (G 2000001 0))) - (5 * (x1 / (G 2000001 0))) / 17 * 17) &&& Int32.toUInt32 31)).toInt32)), (zSH ++ E, G)) else some (some (.int ((71 * x1) + 13)), (zSH ++ E, G)) :=
  (zd_aload_n a_L_cell_0 rfl).trans ((zd_salen (h := (zSH ++ E, G)) a_L_cell_1 rfl).trans ((zd_if_ne a_L_cell_2 rfl).trans (zitc (fun p2 => (zd_aload_n a_L_cell_15 rfl).trans ((zd_iload_n a_L_cell_16 rfl).trans ((zd_aload_n a_L_cell_17 rfl).trans ((zd_salen (h := (zSH ++ E, G)) a_L_cell_18 rfl).trans ((zd_irem a_L_cell_19 (z19_0 p2)).trans ((zd_sald (h := (zSH ++ E, G)) a_L_cell_20 rfl (z20_1 p2)).trans ((zd_iconst (v := 5) a_L_cell_21 (by decide)).trans ((zd_iload_n a_L_cell_22 rfl).trans ((zd_aload_n a_L_cell_23 rfl).trans ((zd_salen (h := (zSH ++ E, G)) a_L_cell_24 rfl).trans ((zd_idiv a_L_cell_25 (z19_0 p2)).trans ((zd_num (st2 := [.int (5 * (x1 / (G 2000001 0))), .int (G 2000000 (x1 - x1 / (G 2000001 0) * (G 2000001 0)).toNatClampNeg)]) a_L_cell_26 rfl rfl rfl rfl).trans ((zd_bipush (v := 17) a_L_cell_27 (by decide)).trans ((zd_irem a_L_cell_29 (by decide)).trans ((zd_num (st2 := [.int ((Int32.toUInt32 (G 2000000 (x1 - x1 / (G 2000001 0) * (G 2000001 0)).toNatClampNeg) >>> (Int32.toUInt32 ((5 * (x1 / (G 2000001 0))) - (5 * (x1 / (G 2000001 0))) / 17 * 17) &&& Int32.toUInt32 31)).toInt32)]) a_L_cell_30 rfl rfl rfl rfl).trans (zd_iret a_L_cell_31 rfl (znr_int _))))))))))))))))) (fun p2 => (zd_bipush (v := 71) a_L_cell_5 (by decide)).trans ((zd_iload_n a_L_cell_7 rfl).trans ((zd_num (st2 := [.int (71 * x1)]) a_L_cell_8 rfl rfl rfl rfl).trans ((zd_bipush (v := 13) a_L_cell_9 (by decide)).trans ((zd_num (st2 := [.int ((71 * x1) + 13)]) a_L_cell_11 rfl rfl rfl rfl).trans ((zd_goto a_L_cell_12 rfl).trans (zd_iret a_L_cell_31 rfl (znr_int _)))))))))))
theorem hm_B_next : zms[k_B_next]? = some m_B_next := rfl
theorem a_B_next_0 : zAt 106 0 m_B_next (.aload_n 0) 1 := ⟨hm_B_next, by decide +kernel⟩
theorem a_B_next_1 : zAt 106 1 m_B_next (.aload_n 0) 1 := ⟨hm_B_next, by decide +kernel⟩
theorem a_B_next_2 : zAt 106 2 m_B_next (.getfield 7) 3 := ⟨hm_B_next, by decide +kernel⟩
theorem a_B_next_5 : zAt 106 5 m_B_next (.ldc 13) 2 := ⟨hm_B_next, by decide +kernel⟩
theorem a_B_next_7 : zAt 106 7 m_B_next (.imul) 1 := ⟨hm_B_next, by decide +kernel⟩
theorem a_B_next_8 : zAt 106 8 m_B_next (.sipush 12345) 3 := ⟨hm_B_next, by decide +kernel⟩
theorem a_B_next_11 : zAt 106 11 m_B_next (.iadd) 1 := ⟨hm_B_next, by decide +kernel⟩
theorem a_B_next_12 : zAt 106 12 m_B_next (.putfield 7) 3 := ⟨hm_B_next, by decide +kernel⟩
theorem a_B_next_15 : zAt 106 15 m_B_next (.aload_n 0) 1 := ⟨hm_B_next, by decide +kernel⟩
theorem a_B_next_16 : zAt 106 16 m_B_next (.getfield 7) 3 := ⟨hm_B_next, by decide +kernel⟩
theorem a_B_next_19 : zAt 106 19 m_B_next (.bipush 16) 2 := ⟨hm_B_next, by decide +kernel⟩
theorem a_B_next_21 : zAt 106 21 m_B_next (.iushr) 1 := ⟨hm_B_next, by decide +kernel⟩
theorem a_B_next_22 : zAt 106 22 m_B_next (.iload_n 1) 1 := ⟨hm_B_next, by decide +kernel⟩
theorem a_B_next_23 : zAt 106 23 m_B_next (.irem) 1 := ⟨hm_B_next, by decide +kernel⟩
theorem a_B_next_24 : zAt 106 24 m_B_next (.ireturn) 1 := ⟨hm_B_next, by decide +kernel⟩
theorem B_B_next_0 {E : List zS} {G : Nat → Nat → Int32} {b : Nat} {x1 : Int32} (hb : (zSH ++ E)[b]? = some (.inl (8, [none]))) (hb9 : 90 ≤ b ∧ b < 1000000) (z23_0 : ¬ x1 = 0) : zden 106 0 [.ref b, .int x1] [] (zSH ++ E, G) = some (some (.int (((Int32.toUInt32 ((zup G b 0 (((G b 0) * 1103515245) + 12345)) b 0) >>> (Int32.toUInt32 16 &&& Int32.toUInt32 31)).toInt32) - ((Int32.toUInt32 ((zup G b 0 (((G b 0) * 1103515245) + 12345)) b 0) >>> (Int32.toUInt32 16 &&& Int32.toUInt32 31)).toInt32) / x1 * x1)), (zSH ++ E, (zup G b 0 (((G b 0) * 1103515245) + 12345)))) :=
  (zd_aload_n a_B_next_0 rfl).trans ((zd_aload_n a_B_next_1 rfl).trans ((zd_getI (h := (zSH ++ E, G)) (ci := 8) (fi := 0) a_B_next_2 (by decide +kernel) hb rfl).trans ((zd_ldcI (v := 1103515245) a_B_next_5 (by decide +kernel) (by decide +kernel)).trans ((zd_num (st2 := [.int ((G b 0) * 1103515245), .ref b]) a_B_next_7 rfl rfl rfl rfl).trans ((zd_sipush (v := 12345) a_B_next_8 (by decide)).trans ((zd_num (st2 := [.int (((G b 0) * 1103515245) + 12345), .ref b]) a_B_next_11 rfl rfl rfl rfl).trans ((zd_putI (h := (zSH ++ E, G)) (ci := 8) (fi := 0) a_B_next_12 (by decide +kernel) hb rfl rfl).trans ((zd_aload_n a_B_next_15 rfl).trans ((zd_getI (h := (zSH ++ E, (zup G b 0 (((G b 0) * 1103515245) + 12345)))) (ci := 8) (fi := 0) a_B_next_16 (by decide +kernel) hb rfl).trans ((zd_bipush (v := 16) a_B_next_19 (by decide)).trans ((zd_num (st2 := [.int ((Int32.toUInt32 ((zup G b 0 (((G b 0) * 1103515245) + 12345)) b 0) >>> (Int32.toUInt32 16 &&& Int32.toUInt32 31)).toInt32)]) a_B_next_21 rfl rfl rfl rfl).trans ((zd_iload_n a_B_next_22 rfl).trans ((zd_irem a_B_next_23 z23_0).trans (zd_iret a_B_next_24 rfl (znr_int _)))))))))))))))
theorem hm_L_ahead : zms[k_L_ahead]? = some m_L_ahead := rfl
theorem a_L_ahead_0 : zAt 128 0 m_L_ahead (.aload_n 0) 1 := ⟨hm_L_ahead, by decide +kernel⟩
theorem a_L_ahead_1 : zAt 128 1 m_L_ahead (.iload_n 1) 1 := ⟨hm_L_ahead, by decide +kernel⟩
theorem a_L_ahead_2 : zAt 128 2 m_L_ahead (.iconst 0) 1 := ⟨hm_L_ahead, by decide +kernel⟩
theorem a_L_ahead_3 : zAt 128 3 m_L_ahead (.invokevirtual 79) 3 := ⟨hm_L_ahead, by decide +kernel⟩
theorem a_L_ahead_6 : zAt 128 6 m_L_ahead (.iconst 4) 1 := ⟨hm_L_ahead, by decide +kernel⟩
theorem a_L_ahead_7 : zAt 128 7 m_L_ahead (.if_icmp .ne 7) 3 := ⟨hm_L_ahead, by decide +kernel⟩
theorem a_L_ahead_10 : zAt 128 10 m_L_ahead (.iconst 0) 1 := ⟨hm_L_ahead, by decide +kernel⟩
theorem a_L_ahead_11 : zAt 128 11 m_L_ahead (.goto 6) 3 := ⟨hm_L_ahead, by decide +kernel⟩
theorem a_L_ahead_14 : zAt 128 14 m_L_ahead (.sipush 1000) 3 := ⟨hm_L_ahead, by decide +kernel⟩
theorem a_L_ahead_17 : zAt 128 17 m_L_ahead (.aload_n 0) 1 := ⟨hm_L_ahead, by decide +kernel⟩
theorem a_L_ahead_18 : zAt 128 18 m_L_ahead (.iload_n 1) 1 := ⟨hm_L_ahead, by decide +kernel⟩
theorem a_L_ahead_19 : zAt 128 19 m_L_ahead (.iconst 1) 1 := ⟨hm_L_ahead, by decide +kernel⟩
theorem a_L_ahead_20 : zAt 128 20 m_L_ahead (.invokevirtual 79) 3 := ⟨hm_L_ahead, by decide +kernel⟩
theorem a_L_ahead_23 : zAt 128 23 m_L_ahead (.iconst 3) 1 := ⟨hm_L_ahead, by decide +kernel⟩
theorem a_L_ahead_24 : zAt 128 24 m_L_ahead (.if_icmp .ne 7) 3 := ⟨hm_L_ahead, by decide +kernel⟩
theorem a_L_ahead_27 : zAt 128 27 m_L_ahead (.iconst 0) 1 := ⟨hm_L_ahead, by decide +kernel⟩
theorem a_L_ahead_28 : zAt 128 28 m_L_ahead (.goto 6) 3 := ⟨hm_L_ahead, by decide +kernel⟩
theorem a_L_ahead_31 : zAt 128 31 m_L_ahead (.sipush 500) 3 := ⟨hm_L_ahead, by decide +kernel⟩
theorem a_L_ahead_34 : zAt 128 34 m_L_ahead (.iadd) 1 := ⟨hm_L_ahead, by decide +kernel⟩
theorem a_L_ahead_35 : zAt 128 35 m_L_ahead (.iload_n 1) 1 := ⟨hm_L_ahead, by decide +kernel⟩
theorem a_L_ahead_36 : zAt 128 36 m_L_ahead (.bipush 99) 2 := ⟨hm_L_ahead, by decide +kernel⟩
theorem a_L_ahead_38 : zAt 128 38 m_L_ahead (.irem) 1 := ⟨hm_L_ahead, by decide +kernel⟩
theorem a_L_ahead_39 : zAt 128 39 m_L_ahead (.iadd) 1 := ⟨hm_L_ahead, by decide +kernel⟩
theorem a_L_ahead_40 : zAt 128 40 m_L_ahead (.ireturn) 1 := ⟨hm_L_ahead, by decide +kernel⟩
theorem B_L_ahead_0 {E : List zS} {G : Nat → Nat → Int32} {rv : Nat → Int32 → Int32 → Int32} {x1 : Int32} (hP : RDs G rv) : zden 128 0 [.ref 0, .int x1] [] (zSH ++ E, G) = if ¬ (rv 73 x1 0) = 4 then zden 128 17 [.ref 0, .int x1] [.int 1000] (zSH ++ E, G) else zden 128 17 [.ref 0, .int x1] [.int 0] (zSH ++ E, G) :=
  (zd_aload_n a_L_ahead_0 rfl).trans ((zd_iload_n a_L_ahead_1 rfl).trans ((zd_iconst (v := 0) a_L_ahead_2 (by decide)).trans ((zd_cal (kd := 0) (tg := 73) (T := m_T_headingOf) a_L_ahead_3 (by decide +kernel) hm_T_headingOf rfl rfl (zmay_objh (zx_at sh_0) rfl) rfl).trans (((congrArg (zaft 128 6 [.ref 0, .int x1] [] (zSH ++ E, G)) (r73 hP sr_rf)).trans zaft_same).trans ((zd_iconst (v := 4) a_L_ahead_6 (by decide)).trans ((zd_icmp_ne a_L_ahead_7 rfl).trans (zitc (fun p6 => (zd_sipush (v := 1000) a_L_ahead_14 (by decide))) (fun p6 => (zd_iconst (v := 0) a_L_ahead_10 (by decide)).trans ((zd_goto a_L_ahead_11 rfl))))))))))
theorem B_L_ahead_17 {E : List zS} {G : Nat → Nat → Int32} {rv : Nat → Int32 → Int32 → Int32} {x1 s0 : Int32} (hP : RDs G rv) : zden 128 17 [.ref 0, .int x1] [.int s0] (zSH ++ E, G) = if ¬ (rv 73 x1 1) = 3 then zden 128 34 [.ref 0, .int x1] [.int 500, .int s0] (zSH ++ E, G) else zden 128 34 [.ref 0, .int x1] [.int 0, .int s0] (zSH ++ E, G) :=
  (zd_aload_n a_L_ahead_17 rfl).trans ((zd_iload_n a_L_ahead_18 rfl).trans ((zd_iconst (v := 1) a_L_ahead_19 (by decide)).trans ((zd_cal (kd := 0) (tg := 73) (T := m_T_headingOf) a_L_ahead_20 (by decide +kernel) hm_T_headingOf rfl rfl (zmay_objh (zx_at sh_0) rfl) rfl).trans (((congrArg (zaft 128 23 [.ref 0, .int x1] [.int s0] (zSH ++ E, G)) (r73 hP sr_rf)).trans zaft_same).trans ((zd_iconst (v := 3) a_L_ahead_23 (by decide)).trans ((zd_icmp_ne a_L_ahead_24 rfl).trans (zitc (fun p7 => (zd_sipush (v := 500) a_L_ahead_31 (by decide))) (fun p7 => (zd_iconst (v := 0) a_L_ahead_27 (by decide)).trans ((zd_goto a_L_ahead_28 rfl))))))))))
theorem B_L_ahead_34 {E : List zS} {G : Nat → Nat → Int32} {x1 s0 s1 : Int32} : zden 128 34 [.ref 0, .int x1] [.int s0, .int s1] (zSH ++ E, G) = some (some (.int ((s1 + s0) + (x1 - x1 / 99 * 99))), (zSH ++ E, G)) :=
  (zd_num (st2 := [.int (s1 + s0)]) a_L_ahead_34 rfl rfl rfl rfl).trans ((zd_iload_n a_L_ahead_35 rfl).trans ((zd_bipush (v := 99) a_L_ahead_36 (by decide)).trans ((zd_irem a_L_ahead_38 (by decide)).trans ((zd_num (st2 := [.int ((s1 + s0) + (x1 - x1 / 99 * 99))]) a_L_ahead_39 rfl rfl rfl rfl).trans (zd_iret a_L_ahead_40 rfl (znr_int _))))))
theorem hm_L_some : zms[k_L_some]? = some m_L_some := rfl
theorem a_L_some_0 : zAt 122 0 m_L_some (.aload_n 1) 1 := ⟨hm_L_some, by decide +kernel⟩
theorem a_L_some_1 : zAt 122 1 m_L_some (.bipush 20) 2 := ⟨hm_L_some, by decide +kernel⟩
theorem a_L_some_3 : zAt 122 3 m_L_some (.invokevirtual 23) 3 := ⟨hm_L_some, by decide +kernel⟩
theorem a_L_some_6 : zAt 122 6 m_L_some (.ifCond .ne 11) 3 := ⟨hm_L_some, by decide +kernel⟩
theorem a_L_some_9 : zAt 122 9 m_L_some (.aload_n 0) 1 := ⟨hm_L_some, by decide +kernel⟩
theorem a_L_some_10 : zAt 122 10 m_L_some (.iconst 2) 1 := ⟨hm_L_some, by decide +kernel⟩
theorem a_L_some_11 : zAt 122 11 m_L_some (.invokevirtual 28) 3 := ⟨hm_L_some, by decide +kernel⟩
theorem a_L_some_14 : zAt 122 14 m_L_some (.goto 16) 3 := ⟨hm_L_some, by decide +kernel⟩
theorem a_L_some_17 : zAt 122 17 m_L_some (.aload_n 1) 1 := ⟨hm_L_some, by decide +kernel⟩
theorem a_L_some_18 : zAt 122 18 m_L_some (.iconst 1) 1 := ⟨hm_L_some, by decide +kernel⟩
theorem a_L_some_19 : zAt 122 19 m_L_some (.aload_n 0) 1 := ⟨hm_L_some, by decide +kernel⟩
theorem a_L_some_20 : zAt 122 20 m_L_some (.iconst 2) 1 := ⟨hm_L_some, by decide +kernel⟩
theorem a_L_some_21 : zAt 122 21 m_L_some (.invokevirtual 28) 3 := ⟨hm_L_some, by decide +kernel⟩
theorem a_L_some_24 : zAt 122 24 m_L_some (.invokestatic 31) 3 := ⟨hm_L_some, by decide +kernel⟩
theorem a_L_some_27 : zAt 122 27 m_L_some (.invokevirtual 23) 3 := ⟨hm_L_some, by decide +kernel⟩
theorem a_L_some_30 : zAt 122 30 m_L_some (.ireturn) 1 := ⟨hm_L_some, by decide +kernel⟩
theorem B_L_some_0 {E : List zS} {G : Nat → Nat → Int32} {b : Nat} (hb : (zSH ++ E)[b]? = some (.inl (8, [none]))) (hb9 : 90 ≤ b ∧ b < 1000000) : zden 122 0 [.ref 0, .ref b] [] (zSH ++ E, G) = zaft 122 6 [.ref 0, .ref b] [] (zSH ++ E, G) (zden 106 0 [.ref b, .int 20] [] (zSH ++ E, G)) :=
  (zd_aload_n a_L_some_0 rfl).trans ((zd_bipush (v := 20) a_L_some_1 (by decide)).trans ((zd_cal (kd := 0) (tg := 106) (T := m_B_next) a_L_some_3 (by decide +kernel) hm_B_next rfl rfl (zmay_objh hb rfl) rfl)))
theorem B_L_some_6 {E : List zS} {G : Nat → Nat → Int32} {b : Nat} {rv : Nat → Int32 → Int32 → Int32} {s0 : Int32} (hb : (zSH ++ E)[b]? = some (.inl (8, [none]))) (hb9 : 90 ≤ b ∧ b < 1000000) (hP : RDs G rv) : zden 122 6 [.ref 0, .ref b] [.int s0] (zSH ++ E, G) = if ¬ s0 = 0 then zaft 122 30 [.ref 0, .ref b] [] (zSH ++ E, G) (zden 106 0 [.ref b, .int (if 1 < (rv 98 2 0) then rv 98 2 0 else 1)] [] (zSH ++ E, G)) else some (some (.int (rv 98 2 0)), (zSH ++ E, G)) :=
  (zd_if_ne a_L_some_6 rfl).trans (zitc (fun p3 => (zd_aload_n a_L_some_17 rfl).trans ((zd_iconst (v := 1) a_L_some_18 (by decide)).trans ((zd_aload_n a_L_some_19 rfl).trans ((zd_iconst (v := 2) a_L_some_20 (by decide)).trans ((zd_cal (kd := 0) (tg := 98) (T := m_T_account) a_L_some_21 (by decide +kernel) hm_T_account rfl rfl (zmay_objh (zx_at sh_0) rfl) rfl).trans (((congrArg (zaft 122 24 [.ref 0, .ref b] [.int 1, .ref b] (zSH ++ E, G)) (r98 hP sr_rf)).trans zaft_same).trans ((zd_max a_L_some_24 (by decide +kernel) (by decide +kernel) rfl).trans ((zd_cal (kd := 0) (tg := 106) (T := m_B_next) a_L_some_27 (by decide +kernel) hm_B_next rfl rfl (zmay_objh hb rfl) rfl))))))))) (fun p3 => (zd_aload_n a_L_some_9 rfl).trans ((zd_iconst (v := 2) a_L_some_10 (by decide)).trans ((zd_cal (kd := 0) (tg := 98) (T := m_T_account) a_L_some_11 (by decide +kernel) hm_T_account rfl rfl (zmay_objh (zx_at sh_0) rfl) rfl).trans (((congrArg (zaft 122 14 [.ref 0, .ref b] [] (zSH ++ E, G)) (r98 hP sr_rf)).trans zaft_same).trans ((zd_goto a_L_some_14 rfl).trans (zd_iret a_L_some_30 rfl (znr_int _))))))))
theorem B_L_some_30 {E : List zS} {G : Nat → Nat → Int32} {b : Nat} {s0 : Int32} (hb : (zSH ++ E)[b]? = some (.inl (8, [none]))) (hb9 : 90 ≤ b ∧ b < 1000000) : zden 122 30 [.ref 0, .ref b] [.int s0] (zSH ++ E, G) = some (some (.int s0), (zSH ++ E, G)) :=
  zd_iret a_L_some_30 rfl (znr_int _)
theorem hm_L_someCode : zms[k_L_someCode]? = some m_L_someCode := rfl
theorem a_L_someCode_0 : zAt 121 0 m_L_someCode (.aload_n 1) 1 := ⟨hm_L_someCode, by decide +kernel⟩
theorem a_L_someCode_1 : zAt 121 1 m_L_someCode (.iconst 3) 1 := ⟨hm_L_someCode, by decide +kernel⟩
theorem a_L_someCode_2 : zAt 121 2 m_L_someCode (.invokevirtual 23) 3 := ⟨hm_L_someCode, by decide +kernel⟩
theorem a_L_someCode_5 : zAt 121 5 m_L_someCode (.ifCond .ne 12) 3 := ⟨hm_L_someCode, by decide +kernel⟩
theorem a_L_someCode_8 : zAt 121 8 m_L_someCode (.aload_n 1) 1 := ⟨hm_L_someCode, by decide +kernel⟩
theorem a_L_someCode_9 : zAt 121 9 m_L_someCode (.bipush 101) 2 := ⟨hm_L_someCode, by decide +kernel⟩
theorem a_L_someCode_11 : zAt 121 11 m_L_someCode (.invokevirtual 23) 3 := ⟨hm_L_someCode, by decide +kernel⟩
theorem a_L_someCode_14 : zAt 121 14 m_L_someCode (.goto 18) 3 := ⟨hm_L_someCode, by decide +kernel⟩
theorem a_L_someCode_17 : zAt 121 17 m_L_someCode (.aload_n 0) 1 := ⟨hm_L_someCode, by decide +kernel⟩
theorem a_L_someCode_18 : zAt 121 18 m_L_someCode (.aload_n 1) 1 := ⟨hm_L_someCode, by decide +kernel⟩
theorem a_L_someCode_19 : zAt 121 19 m_L_someCode (.aload_n 0) 1 := ⟨hm_L_someCode, by decide +kernel⟩
theorem a_L_someCode_20 : zAt 121 20 m_L_someCode (.iconst 1) 1 := ⟨hm_L_someCode, by decide +kernel⟩
theorem a_L_someCode_21 : zAt 121 21 m_L_someCode (.invokevirtual 28) 3 := ⟨hm_L_someCode, by decide +kernel⟩
theorem a_L_someCode_24 : zAt 121 24 m_L_someCode (.iconst 1) 1 := ⟨hm_L_someCode, by decide +kernel⟩
theorem a_L_someCode_25 : zAt 121 25 m_L_someCode (.iadd) 1 := ⟨hm_L_someCode, by decide +kernel⟩
theorem a_L_someCode_26 : zAt 121 26 m_L_someCode (.invokevirtual 23) 3 := ⟨hm_L_someCode, by decide +kernel⟩
theorem a_L_someCode_29 : zAt 121 29 m_L_someCode (.invokevirtual 37) 3 := ⟨hm_L_someCode, by decide +kernel⟩
theorem a_L_someCode_32 : zAt 121 32 m_L_someCode (.ireturn) 1 := ⟨hm_L_someCode, by decide +kernel⟩
theorem B_L_someCode_0 {E : List zS} {G : Nat → Nat → Int32} {b : Nat} (hb : (zSH ++ E)[b]? = some (.inl (8, [none]))) (hb9 : 90 ≤ b ∧ b < 1000000) : zden 121 0 [.ref 0, .ref b] [] (zSH ++ E, G) = zaft 121 5 [.ref 0, .ref b] [] (zSH ++ E, G) (zden 106 0 [.ref b, .int 3] [] (zSH ++ E, G)) :=
  (zd_aload_n a_L_someCode_0 rfl).trans ((zd_iconst (v := 3) a_L_someCode_1 (by decide)).trans ((zd_cal (kd := 0) (tg := 106) (T := m_B_next) a_L_someCode_2 (by decide +kernel) hm_B_next rfl rfl (zmay_objh hb rfl) rfl)))
theorem B_L_someCode_5 {E : List zS} {G : Nat → Nat → Int32} {b : Nat} {rv : Nat → Int32 → Int32 → Int32} {s0 : Int32} (hb : (zSH ++ E)[b]? = some (.inl (8, [none]))) (hb9 : 90 ≤ b ∧ b < 1000000) (hP : RDs G rv) : zden 121 5 [.ref 0, .ref b] [.int s0] (zSH ++ E, G) = if ¬ s0 = 0 then zaft 121 29 [.ref 0, .ref b] [.ref 0] (zSH ++ E, G) (zden 106 0 [.ref b, .int ((rv 98 1 0) + 1)] [] (zSH ++ E, G)) else zaft 121 14 [.ref 0, .ref b] [] (zSH ++ E, G) (zden 106 0 [.ref b, .int 101] [] (zSH ++ E, G)) :=
  (zd_if_ne a_L_someCode_5 rfl).trans (zitc (fun p3 => (zd_aload_n a_L_someCode_17 rfl).trans ((zd_aload_n a_L_someCode_18 rfl).trans ((zd_aload_n a_L_someCode_19 rfl).trans ((zd_iconst (v := 1) a_L_someCode_20 (by decide)).trans ((zd_cal (kd := 0) (tg := 98) (T := m_T_account) a_L_someCode_21 (by decide +kernel) hm_T_account rfl rfl (zmay_objh (zx_at sh_0) rfl) rfl).trans (((congrArg (zaft 121 24 [.ref 0, .ref b] [.ref b, .ref 0] (zSH ++ E, G)) (r98 hP sr_rf)).trans zaft_same).trans ((zd_iconst (v := 1) a_L_someCode_24 (by decide)).trans ((zd_num (st2 := [.int ((rv 98 1 0) + 1), .ref b, .ref 0]) a_L_someCode_25 rfl rfl rfl rfl).trans ((zd_cal (kd := 0) (tg := 106) (T := m_B_next) a_L_someCode_26 (by decide +kernel) hm_B_next rfl rfl (zmay_objh hb rfl) rfl)))))))))) (fun p3 => (zd_aload_n a_L_someCode_8 rfl).trans ((zd_bipush (v := 101) a_L_someCode_9 (by decide)).trans ((zd_cal (kd := 0) (tg := 106) (T := m_B_next) a_L_someCode_11 (by decide +kernel) hm_B_next rfl rfl (zmay_objh hb rfl) rfl)))))
theorem B_L_someCode_14 {E : List zS} {G : Nat → Nat → Int32} {b : Nat} {s0 : Int32} (hb : (zSH ++ E)[b]? = some (.inl (8, [none]))) (hb9 : 90 ≤ b ∧ b < 1000000) : zden 121 14 [.ref 0, .ref b] [.int s0] (zSH ++ E, G) = some (some (.int s0), (zSH ++ E, G)) :=
  (zd_goto a_L_someCode_14 rfl).trans (zd_iret a_L_someCode_32 rfl (znr_int _))
theorem B_L_someCode_29 {E : List zS} {G : Nat → Nat → Int32} {b : Nat} {rv : Nat → Int32 → Int32 → Int32} {s0 : Int32} (hb : (zSH ++ E)[b]? = some (.inl (8, [none]))) (hb9 : 90 ≤ b ∧ b < 1000000) (hP : RDs G rv) : zden 121 29 [.ref 0, .ref b] [.int s0, .ref 0] (zSH ++ E, G) = some (some (.int (rv 74 s0 0)), (zSH ++ E, G)) :=
  (zd_cal (kd := 0) (tg := 74) (T := m_T_code) a_L_someCode_29 (by decide +kernel) hm_T_code rfl rfl (zmay_objh (zx_at sh_0) rfl) rfl).trans (((congrArg (zaft 121 32 [.ref 0, .ref b] [] (zSH ++ E, G)) (r74 hP sr_rf)).trans zaft_same).trans (zd_iret a_L_someCode_32 rfl (znr_int _)))
theorem hm_L_told : zms[k_L_told]? = some m_L_told := rfl
theorem a_L_told_0 : zAt 123 0 m_L_told (.sipush 420) 3 := ⟨hm_L_told, by decide +kernel⟩
theorem a_L_told_3 : zAt 123 3 m_L_told (.newarray .int) 2 := ⟨hm_L_told, by decide +kernel⟩
theorem a_L_told_5 : zAt 123 5 m_L_told (.astore_n 1) 1 := ⟨hm_L_told, by decide +kernel⟩
theorem a_L_told_6 : zAt 123 6 m_L_told (.iconst 0) 1 := ⟨hm_L_told, by decide +kernel⟩
theorem a_L_told_7 : zAt 123 7 m_L_told (.istore_n 2) 1 := ⟨hm_L_told, by decide +kernel⟩
theorem a_L_told_8 : zAt 123 8 m_L_told (.iconst 0) 1 := ⟨hm_L_told, by decide +kernel⟩
theorem a_L_told_9 : zAt 123 9 m_L_told (.istore_n 3) 1 := ⟨hm_L_told, by decide +kernel⟩
theorem a_L_told_10 : zAt 123 10 m_L_told (.iload_n 3) 1 := ⟨hm_L_told, by decide +kernel⟩
theorem a_L_told_11 : zAt 123 11 m_L_told (.bipush 12) 2 := ⟨hm_L_told, by decide +kernel⟩
theorem a_L_told_13 : zAt 123 13 m_L_told (.if_icmp .ge 20) 3 := ⟨hm_L_told, by decide +kernel⟩
theorem a_L_told_16 : zAt 123 16 m_L_told (.aload_n 1) 1 := ⟨hm_L_told, by decide +kernel⟩
theorem a_L_told_17 : zAt 123 17 m_L_told (.iload_n 2) 1 := ⟨hm_L_told, by decide +kernel⟩
theorem a_L_told_18 : zAt 123 18 m_L_told (.iinc 2 1) 3 := ⟨hm_L_told, by decide +kernel⟩
theorem a_L_told_21 : zAt 123 21 m_L_told (.aload_n 0) 1 := ⟨hm_L_told, by decide +kernel⟩
theorem a_L_told_22 : zAt 123 22 m_L_told (.iload_n 3) 1 := ⟨hm_L_told, by decide +kernel⟩
theorem a_L_told_23 : zAt 123 23 m_L_told (.invokevirtual 28) 3 := ⟨hm_L_told, by decide +kernel⟩
theorem a_L_told_26 : zAt 123 26 m_L_told (.iastore) 1 := ⟨hm_L_told, by decide +kernel⟩
theorem a_L_told_27 : zAt 123 27 m_L_told (.iinc 3 1) 3 := ⟨hm_L_told, by decide +kernel⟩
theorem a_L_told_30 : zAt 123 30 m_L_told (.goto (-20)) 3 := ⟨hm_L_told, by decide +kernel⟩
theorem a_L_told_33 : zAt 123 33 m_L_told (.iconst 0) 1 := ⟨hm_L_told, by decide +kernel⟩
theorem a_L_told_34 : zAt 123 34 m_L_told (.istore_n 3) 1 := ⟨hm_L_told, by decide +kernel⟩
theorem a_L_told_35 : zAt 123 35 m_L_told (.iload_n 3) 1 := ⟨hm_L_told, by decide +kernel⟩
theorem a_L_told_36 : zAt 123 36 m_L_told (.bipush 11) 2 := ⟨hm_L_told, by decide +kernel⟩
theorem a_L_told_38 : zAt 123 38 m_L_told (.if_icmp .ge 53) 3 := ⟨hm_L_told, by decide +kernel⟩
theorem a_L_told_41 : zAt 123 41 m_L_told (.aload_n 0) 1 := ⟨hm_L_told, by decide +kernel⟩
theorem a_L_told_42 : zAt 123 42 m_L_told (.iload_n 3) 1 := ⟨hm_L_told, by decide +kernel⟩
theorem a_L_told_43 : zAt 123 43 m_L_told (.invokevirtual 37) 3 := ⟨hm_L_told, by decide +kernel⟩
theorem a_L_told_46 : zAt 123 46 m_L_told (.istore 4) 2 := ⟨hm_L_told, by decide +kernel⟩
theorem a_L_told_48 : zAt 123 48 m_L_told (.aload_n 1) 1 := ⟨hm_L_told, by decide +kernel⟩
theorem a_L_told_49 : zAt 123 49 m_L_told (.iload_n 2) 1 := ⟨hm_L_told, by decide +kernel⟩
theorem a_L_told_50 : zAt 123 50 m_L_told (.iinc 2 1) 3 := ⟨hm_L_told, by decide +kernel⟩
theorem a_L_told_53 : zAt 123 53 m_L_told (.iload 4) 2 := ⟨hm_L_told, by decide +kernel⟩
theorem a_L_told_55 : zAt 123 55 m_L_told (.iastore) 1 := ⟨hm_L_told, by decide +kernel⟩
theorem a_L_told_56 : zAt 123 56 m_L_told (.iconst 0) 1 := ⟨hm_L_told, by decide +kernel⟩
theorem a_L_told_57 : zAt 123 57 m_L_told (.istore 5) 2 := ⟨hm_L_told, by decide +kernel⟩
theorem a_L_told_59 : zAt 123 59 m_L_told (.iload 5) 2 := ⟨hm_L_told, by decide +kernel⟩
theorem a_L_told_61 : zAt 123 61 m_L_told (.iconst 5) 1 := ⟨hm_L_told, by decide +kernel⟩
theorem a_L_told_62 : zAt 123 62 m_L_told (.if_icmp .ge 23) 3 := ⟨hm_L_told, by decide +kernel⟩
theorem a_L_told_65 : zAt 123 65 m_L_told (.aload_n 1) 1 := ⟨hm_L_told, by decide +kernel⟩
theorem a_L_told_66 : zAt 123 66 m_L_told (.iload_n 2) 1 := ⟨hm_L_told, by decide +kernel⟩
theorem a_L_told_67 : zAt 123 67 m_L_told (.iinc 2 1) 3 := ⟨hm_L_told, by decide +kernel⟩
theorem a_L_told_70 : zAt 123 70 m_L_told (.aload_n 0) 1 := ⟨hm_L_told, by decide +kernel⟩
theorem a_L_told_71 : zAt 123 71 m_L_told (.iload 4) 2 := ⟨hm_L_told, by decide +kernel⟩
theorem a_L_told_73 : zAt 123 73 m_L_told (.iload 5) 2 := ⟨hm_L_told, by decide +kernel⟩
theorem a_L_told_75 : zAt 123 75 m_L_told (.invokevirtual 79) 3 := ⟨hm_L_told, by decide +kernel⟩
theorem a_L_told_78 : zAt 123 78 m_L_told (.iastore) 1 := ⟨hm_L_told, by decide +kernel⟩
theorem a_L_told_79 : zAt 123 79 m_L_told (.iinc 5 1) 3 := ⟨hm_L_told, by decide +kernel⟩
theorem a_L_told_82 : zAt 123 82 m_L_told (.goto (-23)) 3 := ⟨hm_L_told, by decide +kernel⟩
theorem a_L_told_85 : zAt 123 85 m_L_told (.iinc 3 1) 3 := ⟨hm_L_told, by decide +kernel⟩
theorem a_L_told_88 : zAt 123 88 m_L_told (.goto (-53)) 3 := ⟨hm_L_told, by decide +kernel⟩
theorem a_L_told_91 : zAt 123 91 m_L_told (.iconst 0) 1 := ⟨hm_L_told, by decide +kernel⟩
theorem a_L_told_92 : zAt 123 92 m_L_told (.istore_n 3) 1 := ⟨hm_L_told, by decide +kernel⟩
theorem a_L_told_93 : zAt 123 93 m_L_told (.iload_n 3) 1 := ⟨hm_L_told, by decide +kernel⟩
theorem a_L_told_94 : zAt 123 94 m_L_told (.bipush 12) 2 := ⟨hm_L_told, by decide +kernel⟩
theorem a_L_told_96 : zAt 123 96 m_L_told (.if_icmp .ge 107) 3 := ⟨hm_L_told, by decide +kernel⟩
theorem a_L_told_99 : zAt 123 99 m_L_told (.iconst 0) 1 := ⟨hm_L_told, by decide +kernel⟩
theorem a_L_told_100 : zAt 123 100 m_L_told (.istore 4) 2 := ⟨hm_L_told, by decide +kernel⟩
theorem a_L_told_102 : zAt 123 102 m_L_told (.iload 4) 2 := ⟨hm_L_told, by decide +kernel⟩
theorem a_L_told_104 : zAt 123 104 m_L_told (.bipush 11) 2 := ⟨hm_L_told, by decide +kernel⟩
theorem a_L_told_106 : zAt 123 106 m_L_told (.if_icmp .ge 22) 3 := ⟨hm_L_told, by decide +kernel⟩
theorem a_L_told_109 : zAt 123 109 m_L_told (.aload_n 1) 1 := ⟨hm_L_told, by decide +kernel⟩
theorem a_L_told_110 : zAt 123 110 m_L_told (.iload_n 2) 1 := ⟨hm_L_told, by decide +kernel⟩
theorem a_L_told_111 : zAt 123 111 m_L_told (.iinc 2 1) 3 := ⟨hm_L_told, by decide +kernel⟩
theorem a_L_told_114 : zAt 123 114 m_L_told (.aload_n 0) 1 := ⟨hm_L_told, by decide +kernel⟩
theorem a_L_told_115 : zAt 123 115 m_L_told (.iload_n 3) 1 := ⟨hm_L_told, by decide +kernel⟩
theorem a_L_told_116 : zAt 123 116 m_L_told (.iload 4) 2 := ⟨hm_L_told, by decide +kernel⟩
theorem a_L_told_118 : zAt 123 118 m_L_told (.invokevirtual 82) 3 := ⟨hm_L_told, by decide +kernel⟩
theorem a_L_told_121 : zAt 123 121 m_L_told (.iastore) 1 := ⟨hm_L_told, by decide +kernel⟩
theorem a_L_told_122 : zAt 123 122 m_L_told (.iinc 4 1) 3 := ⟨hm_L_told, by decide +kernel⟩
theorem a_L_told_125 : zAt 123 125 m_L_told (.goto (-23)) 3 := ⟨hm_L_told, by decide +kernel⟩
theorem a_L_told_128 : zAt 123 128 m_L_told (.iconst 0) 1 := ⟨hm_L_told, by decide +kernel⟩
theorem a_L_told_129 : zAt 123 129 m_L_told (.istore 4) 2 := ⟨hm_L_told, by decide +kernel⟩
theorem a_L_told_131 : zAt 123 131 m_L_told (.iload 4) 2 := ⟨hm_L_told, by decide +kernel⟩
theorem a_L_told_133 : zAt 123 133 m_L_told (.iconst 5) 1 := ⟨hm_L_told, by decide +kernel⟩
theorem a_L_told_134 : zAt 123 134 m_L_told (.if_icmp .ge 35) 3 := ⟨hm_L_told, by decide +kernel⟩
theorem a_L_told_137 : zAt 123 137 m_L_told (.aload_n 1) 1 := ⟨hm_L_told, by decide +kernel⟩
theorem a_L_told_138 : zAt 123 138 m_L_told (.iload_n 2) 1 := ⟨hm_L_told, by decide +kernel⟩
theorem a_L_told_139 : zAt 123 139 m_L_told (.iinc 2 1) 3 := ⟨hm_L_told, by decide +kernel⟩
theorem a_L_told_142 : zAt 123 142 m_L_told (.aload_n 0) 1 := ⟨hm_L_told, by decide +kernel⟩
theorem a_L_told_143 : zAt 123 143 m_L_told (.iload_n 3) 1 := ⟨hm_L_told, by decide +kernel⟩
theorem a_L_told_144 : zAt 123 144 m_L_told (.iload 4) 2 := ⟨hm_L_told, by decide +kernel⟩
theorem a_L_told_146 : zAt 123 146 m_L_told (.invokevirtual 85) 3 := ⟨hm_L_told, by decide +kernel⟩
theorem a_L_told_149 : zAt 123 149 m_L_told (.iastore) 1 := ⟨hm_L_told, by decide +kernel⟩
theorem a_L_told_150 : zAt 123 150 m_L_told (.aload_n 1) 1 := ⟨hm_L_told, by decide +kernel⟩
theorem a_L_told_151 : zAt 123 151 m_L_told (.iload_n 2) 1 := ⟨hm_L_told, by decide +kernel⟩
theorem a_L_told_152 : zAt 123 152 m_L_told (.iinc 2 1) 3 := ⟨hm_L_told, by decide +kernel⟩
theorem a_L_told_155 : zAt 123 155 m_L_told (.aload_n 0) 1 := ⟨hm_L_told, by decide +kernel⟩
theorem a_L_told_156 : zAt 123 156 m_L_told (.iload_n 3) 1 := ⟨hm_L_told, by decide +kernel⟩
theorem a_L_told_157 : zAt 123 157 m_L_told (.iload 4) 2 := ⟨hm_L_told, by decide +kernel⟩
theorem a_L_told_159 : zAt 123 159 m_L_told (.invokevirtual 88) 3 := ⟨hm_L_told, by decide +kernel⟩
theorem a_L_told_162 : zAt 123 162 m_L_told (.iastore) 1 := ⟨hm_L_told, by decide +kernel⟩
theorem a_L_told_163 : zAt 123 163 m_L_told (.iinc 4 1) 3 := ⟨hm_L_told, by decide +kernel⟩
theorem a_L_told_166 : zAt 123 166 m_L_told (.goto (-35)) 3 := ⟨hm_L_told, by decide +kernel⟩
theorem a_L_told_169 : zAt 123 169 m_L_told (.iconst 0) 1 := ⟨hm_L_told, by decide +kernel⟩
theorem a_L_told_170 : zAt 123 170 m_L_told (.istore 4) 2 := ⟨hm_L_told, by decide +kernel⟩
theorem a_L_told_172 : zAt 123 172 m_L_told (.iload 4) 2 := ⟨hm_L_told, by decide +kernel⟩
theorem a_L_told_174 : zAt 123 174 m_L_told (.iconst 4) 1 := ⟨hm_L_told, by decide +kernel⟩
theorem a_L_told_175 : zAt 123 175 m_L_told (.if_icmp .ge 22) 3 := ⟨hm_L_told, by decide +kernel⟩
theorem a_L_told_178 : zAt 123 178 m_L_told (.aload_n 1) 1 := ⟨hm_L_told, by decide +kernel⟩
theorem a_L_told_179 : zAt 123 179 m_L_told (.iload_n 2) 1 := ⟨hm_L_told, by decide +kernel⟩
theorem a_L_told_180 : zAt 123 180 m_L_told (.iinc 2 1) 3 := ⟨hm_L_told, by decide +kernel⟩
theorem a_L_told_183 : zAt 123 183 m_L_told (.aload_n 0) 1 := ⟨hm_L_told, by decide +kernel⟩
theorem a_L_told_184 : zAt 123 184 m_L_told (.iload_n 3) 1 := ⟨hm_L_told, by decide +kernel⟩
theorem a_L_told_185 : zAt 123 185 m_L_told (.iload 4) 2 := ⟨hm_L_told, by decide +kernel⟩
theorem a_L_told_187 : zAt 123 187 m_L_told (.invokevirtual 91) 3 := ⟨hm_L_told, by decide +kernel⟩
theorem a_L_told_190 : zAt 123 190 m_L_told (.iastore) 1 := ⟨hm_L_told, by decide +kernel⟩
theorem a_L_told_191 : zAt 123 191 m_L_told (.iinc 4 1) 3 := ⟨hm_L_told, by decide +kernel⟩
theorem a_L_told_194 : zAt 123 194 m_L_told (.goto (-22)) 3 := ⟨hm_L_told, by decide +kernel⟩
theorem a_L_told_197 : zAt 123 197 m_L_told (.iinc 3 1) 3 := ⟨hm_L_told, by decide +kernel⟩
theorem a_L_told_200 : zAt 123 200 m_L_told (.goto (-107)) 3 := ⟨hm_L_told, by decide +kernel⟩
theorem a_L_told_203 : zAt 123 203 m_L_told (.aload_n 1) 1 := ⟨hm_L_told, by decide +kernel⟩
theorem a_L_told_204 : zAt 123 204 m_L_told (.areturn) 1 := ⟨hm_L_told, by decide +kernel⟩
theorem B_L_told_0 {E : List zS} {G : Nat → Nat → Int32} (hok : eOK E) (hl3 : List.all [.ref 0, .retAddr 0, .retAddr 0, .retAddr 0, .retAddr 0, .retAddr 0] (zne (90 + E.length)) = true) (hs3 : List.all [] (zne (90 + E.length)) = true) : zden 123 0 [.ref 0, .retAddr 0, .retAddr 0, .retAddr 0, .retAddr 0, .retAddr 0] [] (zSH ++ E, G) = zden 123 5 [.ref 0, .retAddr 0, .retAddr 0, .retAddr 0, .retAddr 0, .retAddr 0] (.ref (90 + E.length) :: []) (zSH ++ (E ++ [.inr (.int, 420, [])]), zrow G (90 + E.length) (fun _ => 0)) :=
  (zd_sipush (v := 420) a_L_told_0 (by decide)).trans ((zd_newa (n := 420) a_L_told_3 (by decide) (by decide) hok hl3 hs3))
theorem B_L_told_5 {E : List zS} {G : Nat → Nat → Int32} {r : Nat} (hr : (zSH ++ E)[r]? = some (.inr (.int, 420, []))) (hr9 : 90 ≤ r ∧ r < 1000000) : zden 123 5 [.ref 0, .retAddr 0, .retAddr 0, .retAddr 0, .retAddr 0, .retAddr 0] [.ref r] (zSH ++ E, G) = zden 123 10 [.ref 0, .ref r, .int 0, .int 0, .retAddr 0, .retAddr 0] [] (zSH ++ E, G) :=
  (zd_astore_n a_L_told_5 rfl rfl rfl).trans ((zd_iconst (v := 0) a_L_told_6 (by decide)).trans ((zd_istore_n a_L_told_7 rfl rfl rfl).trans ((zd_iconst (v := 0) a_L_told_8 (by decide)).trans ((zd_istore_n a_L_told_9 rfl rfl rfl)))))
theorem B_L_told_10 {E : List zS} {G : Nat → Nat → Int32} {r : Nat} {rv : Nat → Int32 → Int32 → Int32} {x2 x3 : Int32} (hr : (zSH ++ E)[r]? = some (.inr (.int, 420, []))) (hr9 : 90 ≤ r ∧ r < 1000000) (hP : RDs G rv) (z26_0 : (¬ (12 ≤ x3)) → zin x2 420 = true) : zden 123 10 [.ref 0, .ref r, .int x2, .int x3, .retAddr 0, .retAddr 0] [] (zSH ++ E, G) = if 12 ≤ x3 then zden 123 35 [.ref 0, .ref r, .int x2, .int 0, .retAddr 0, .retAddr 0] [] (zSH ++ E, G) else zden 123 10 [.ref 0, .ref r, .int (x2 + 1), .int (x3 + 1), .retAddr 0, .retAddr 0] [] (zSH ++ E, (zup G r x2.toNatClampNeg (rv 98 x3 0))) :=
  (zd_iload_n a_L_told_10 rfl).trans ((zd_bipush (v := 12) a_L_told_11 (by decide)).trans ((zd_icmp_ge a_L_told_13 rfl).trans (zitc (fun p26 => (zd_iconst (v := 0) a_L_told_33 (by decide)).trans ((zd_istore_n a_L_told_34 rfl rfl rfl))) (fun p26 => (zd_aload_n a_L_told_16 rfl).trans ((zd_iload_n a_L_told_17 rfl).trans ((zd_iinc (v := 1) a_L_told_18 rfl (by decide) rfl rfl rfl).trans ((zd_aload_n a_L_told_21 rfl).trans ((zd_iload_n a_L_told_22 rfl).trans ((zd_cal (kd := 0) (tg := 98) (T := m_T_account) a_L_told_23 (by decide +kernel) hm_T_account rfl rfl (zmay_objh (zx_at sh_0) rfl) rfl).trans (((congrArg (zaft 123 26 [.ref 0, .ref r, .int (x2 + 1), .int x3, .retAddr 0, .retAddr 0] [.int x2, .ref r] (zSH ++ E, G)) (r98 hP sr_rf)).trans zaft_same).trans ((zd_iast (h := (zSH ++ E, G)) a_L_told_26 hr).trans ((if_pos (z26_0 p26)).trans ((zd_iinc (v := 1) a_L_told_27 rfl (by decide) rfl rfl rfl).trans ((zd_goto a_L_told_30 rfl)))))))))))))))
theorem B_L_told_35 {E : List zS} {G : Nat → Nat → Int32} {r : Nat} {rv : Nat → Int32 → Int32 → Int32} {x2 x3 : Int32} {v4 v5 : Value} (hr : (zSH ++ E)[r]? = some (.inr (.int, 420, []))) (hr9 : 90 ≤ r ∧ r < 1000000) (hP : RDs G rv) (z55_0 : (¬ (11 ≤ x3)) → zin x2 420 = true) : zden 123 35 [.ref 0, .ref r, .int x2, .int x3, v4, v5] [] (zSH ++ E, G) = if 11 ≤ x3 then zden 123 93 [.ref 0, .ref r, .int x2, .int 0, v4, v5] [] (zSH ++ E, G) else zden 123 59 [.ref 0, .ref r, .int (x2 + 1), .int x3, .int (rv 74 x3 0), .int 0] [] (zSH ++ E, (zup G r x2.toNatClampNeg (rv 74 x3 0))) :=
  (zd_iload_n a_L_told_35 rfl).trans ((zd_bipush (v := 11) a_L_told_36 (by decide)).trans ((zd_icmp_ge a_L_told_38 rfl).trans (zitc (fun p27 => (zd_iconst (v := 0) a_L_told_91 (by decide)).trans ((zd_istore_n a_L_told_92 rfl rfl rfl))) (fun p27 => (zd_aload_n a_L_told_41 rfl).trans ((zd_iload_n a_L_told_42 rfl).trans ((zd_cal (kd := 0) (tg := 74) (T := m_T_code) a_L_told_43 (by decide +kernel) hm_T_code rfl rfl (zmay_objh (zx_at sh_0) rfl) rfl).trans (((congrArg (zaft 123 46 [.ref 0, .ref r, .int x2, .int x3, v4, v5] [] (zSH ++ E, G)) (r74 hP sr_rf)).trans zaft_same).trans ((zd_istore a_L_told_46 rfl rfl rfl).trans ((zd_aload_n a_L_told_48 rfl).trans ((zd_iload_n a_L_told_49 rfl).trans ((zd_iinc (v := 1) a_L_told_50 rfl (by decide) rfl rfl rfl).trans ((zd_iload a_L_told_53 rfl).trans ((zd_iast (h := (zSH ++ E, G)) a_L_told_55 hr).trans ((if_pos (z55_0 p27)).trans ((zd_iconst (v := 0) a_L_told_56 (by decide)).trans ((zd_istore a_L_told_57 rfl rfl rfl)))))))))))))))))
theorem B_L_told_59 {E : List zS} {G : Nat → Nat → Int32} {r : Nat} {rv : Nat → Int32 → Int32 → Int32} {x2 x3 x4 x5 : Int32} (hr : (zSH ++ E)[r]? = some (.inr (.int, 420, []))) (hr9 : 90 ≤ r ∧ r < 1000000) (hP : RDs G rv) (z78_0 : (¬ (5 ≤ x5)) → zin x2 420 = true) : zden 123 59 [.ref 0, .ref r, .int x2, .int x3, .int x4, .int x5] [] (zSH ++ E, G) = if 5 ≤ x5 then zden 123 35 [.ref 0, .ref r, .int x2, .int (x3 + 1), .int x4, .int x5] [] (zSH ++ E, G) else zden 123 59 [.ref 0, .ref r, .int (x2 + 1), .int x3, .int x4, .int (x5 + 1)] [] (zSH ++ E, (zup G r x2.toNatClampNeg (rv 73 x4 x5))) :=
  (zd_iload a_L_told_59 rfl).trans ((zd_iconst (v := 5) a_L_told_61 (by decide)).trans ((zd_icmp_ge a_L_told_62 rfl).trans (zitc (fun p28 => (zd_iinc (v := 1) a_L_told_85 rfl (by decide) rfl rfl rfl).trans ((zd_goto a_L_told_88 rfl))) (fun p28 => (zd_aload_n a_L_told_65 rfl).trans ((zd_iload_n a_L_told_66 rfl).trans ((zd_iinc (v := 1) a_L_told_67 rfl (by decide) rfl rfl rfl).trans ((zd_aload_n a_L_told_70 rfl).trans ((zd_iload a_L_told_71 rfl).trans ((zd_iload a_L_told_73 rfl).trans ((zd_cal (kd := 0) (tg := 73) (T := m_T_headingOf) a_L_told_75 (by decide +kernel) hm_T_headingOf rfl rfl (zmay_objh (zx_at sh_0) rfl) rfl).trans (((congrArg (zaft 123 78 [.ref 0, .ref r, .int (x2 + 1), .int x3, .int x4, .int x5] [.int x2, .ref r] (zSH ++ E, G)) (r73 hP sr_rf)).trans zaft_same).trans ((zd_iast (h := (zSH ++ E, G)) a_L_told_78 hr).trans ((if_pos (z78_0 p28)).trans ((zd_iinc (v := 1) a_L_told_79 rfl (by decide) rfl rfl rfl).trans ((zd_goto a_L_told_82 rfl))))))))))))))))
theorem B_L_told_93 {E : List zS} {G : Nat → Nat → Int32} {r : Nat} {x2 x3 : Int32} {v4 v5 : Value} (hr : (zSH ++ E)[r]? = some (.inr (.int, 420, []))) (hr9 : 90 ≤ r ∧ r < 1000000) : zden 123 93 [.ref 0, .ref r, .int x2, .int x3, v4, v5] [] (zSH ++ E, G) = if 12 ≤ x3 then some (some (.ref r), (zSH ++ E, G)) else zden 123 102 [.ref 0, .ref r, .int x2, .int x3, .int 0, v5] [] (zSH ++ E, G) :=
  (zd_iload_n a_L_told_93 rfl).trans ((zd_bipush (v := 12) a_L_told_94 (by decide)).trans ((zd_icmp_ge a_L_told_96 rfl).trans (zitc (fun p29 => (zd_aload_n a_L_told_203 rfl).trans (zd_aretA a_L_told_204 rfl)) (fun p29 => (zd_iconst (v := 0) a_L_told_99 (by decide)).trans ((zd_istore a_L_told_100 rfl rfl rfl))))))
theorem B_L_told_102 {E : List zS} {G : Nat → Nat → Int32} {r : Nat} {rv : Nat → Int32 → Int32 → Int32} {x2 x3 x4 : Int32} {v5 : Value} (hr : (zSH ++ E)[r]? = some (.inr (.int, 420, []))) (hr9 : 90 ≤ r ∧ r < 1000000) (hP : RDs G rv) (z121_0 : (¬ (11 ≤ x4)) → zin x2 420 = true) : zden 123 102 [.ref 0, .ref r, .int x2, .int x3, .int x4, v5] [] (zSH ++ E, G) = if 11 ≤ x4 then zden 123 131 [.ref 0, .ref r, .int x2, .int x3, .int 0, v5] [] (zSH ++ E, G) else zden 123 102 [.ref 0, .ref r, .int (x2 + 1), .int x3, .int (x4 + 1), v5] [] (zSH ++ E, (zup G r x2.toNatClampNeg (rv 78 x3 x4))) :=
  (zd_iload a_L_told_102 rfl).trans ((zd_bipush (v := 11) a_L_told_104 (by decide)).trans ((zd_icmp_ge a_L_told_106 rfl).trans (zitc (fun p30 => (zd_iconst (v := 0) a_L_told_128 (by decide)).trans ((zd_istore a_L_told_129 rfl rfl rfl))) (fun p30 => (zd_aload_n a_L_told_109 rfl).trans ((zd_iload_n a_L_told_110 rfl).trans ((zd_iinc (v := 1) a_L_told_111 rfl (by decide) rfl rfl rfl).trans ((zd_aload_n a_L_told_114 rfl).trans ((zd_iload_n a_L_told_115 rfl).trans ((zd_iload a_L_told_116 rfl).trans ((zd_cal (kd := 0) (tg := 78) (T := m_T_goodOf) a_L_told_118 (by decide +kernel) hm_T_goodOf rfl rfl (zmay_objh (zx_at sh_0) rfl) rfl).trans (((congrArg (zaft 123 121 [.ref 0, .ref r, .int (x2 + 1), .int x3, .int x4, v5] [.int x2, .ref r] (zSH ++ E, G)) (r78 hP sr_rf)).trans zaft_same).trans ((zd_iast (h := (zSH ++ E, G)) a_L_told_121 hr).trans ((if_pos (z121_0 p30)).trans ((zd_iinc (v := 1) a_L_told_122 rfl (by decide) rfl rfl rfl).trans ((zd_goto a_L_told_125 rfl))))))))))))))))
theorem B_L_told_131 {E : List zS} {G : Nat → Nat → Int32} {r : Nat} {rv : Nat → Int32 → Int32 → Int32} {x2 x3 x4 : Int32} {v5 : Value} (hr : (zSH ++ E)[r]? = some (.inr (.int, 420, []))) (hr9 : 90 ≤ r ∧ r < 1000000) (hP : RDs G rv) (z149_0 : (¬ (5 ≤ x4)) → zin x2 420 = true) (z162_1 : (¬ (5 ≤ x4)) → zin (x2 + 1) 420 = true) : zden 123 131 [.ref 0, .ref r, .int x2, .int x3, .int x4, v5] [] (zSH ++ E, G) = if 5 ≤ x4 then zden 123 172 [.ref 0, .ref r, .int x2, .int x3, .int 0, v5] [] (zSH ++ E, G) else zden 123 131 [.ref 0, .ref r, .int ((x2 + 1) + 1), .int x3, .int (x4 + 1), v5] [] (zSH ++ E, (zup (zup G r x2.toNatClampNeg (rv 80 x3 x4)) r (x2 + 1).toNatClampNeg (rv 89 x3 x4))) :=
  (zd_iload a_L_told_131 rfl).trans ((zd_iconst (v := 5) a_L_told_133 (by decide)).trans ((zd_icmp_ge a_L_told_134 rfl).trans (zitc (fun p31 => (zd_iconst (v := 0) a_L_told_169 (by decide)).trans ((zd_istore a_L_told_170 rfl rfl rfl))) (fun p31 => (zd_aload_n a_L_told_137 rfl).trans ((zd_iload_n a_L_told_138 rfl).trans ((zd_iinc (v := 1) a_L_told_139 rfl (by decide) rfl rfl rfl).trans ((zd_aload_n a_L_told_142 rfl).trans ((zd_iload_n a_L_told_143 rfl).trans ((zd_iload a_L_told_144 rfl).trans ((zd_cal (kd := 0) (tg := 80) (T := m_T_points) a_L_told_146 (by decide +kernel) hm_T_points rfl rfl (zmay_objh (zx_at sh_0) rfl) rfl).trans (((congrArg (zaft 123 149 [.ref 0, .ref r, .int (x2 + 1), .int x3, .int x4, v5] [.int x2, .ref r] (zSH ++ E, G)) (r80 hP sr_rf)).trans zaft_same).trans ((zd_iast (h := (zSH ++ E, G)) a_L_told_149 hr).trans ((if_pos (z149_0 p31)).trans ((zd_aload_n a_L_told_150 rfl).trans ((zd_iload_n a_L_told_151 rfl).trans ((zd_iinc (v := 1) a_L_told_152 rfl (by decide) rfl rfl rfl).trans ((zd_aload_n a_L_told_155 rfl).trans ((zd_iload_n a_L_told_156 rfl).trans ((zd_iload a_L_told_157 rfl).trans ((zd_cal (kd := 0) (tg := 89) (T := m_T_would) a_L_told_159 (by decide +kernel) hm_T_would rfl rfl (zmay_objh (zx_at sh_0) rfl) rfl).trans (((congrArg (zaft 123 162 [.ref 0, .ref r, .int ((x2 + 1) + 1), .int x3, .int x4, v5] [.int (x2 + 1), .ref r] (zSH ++ E, (zup G r x2.toNatClampNeg (rv 80 x3 x4)))) (r89 hP (sr_up hr9 sr_rf))).trans zaft_same).trans ((zd_iast (h := (zSH ++ E, (zup G r x2.toNatClampNeg (rv 80 x3 x4)))) a_L_told_162 hr).trans ((if_pos (z162_1 p31)).trans ((zd_iinc (v := 1) a_L_told_163 rfl (by decide) rfl rfl rfl).trans ((zd_goto a_L_told_166 rfl))))))))))))))))))))))))))
theorem B_L_told_172 {E : List zS} {G : Nat → Nat → Int32} {r : Nat} {rv : Nat → Int32 → Int32 → Int32} {x2 x3 x4 : Int32} {v5 : Value} (hr : (zSH ++ E)[r]? = some (.inr (.int, 420, []))) (hr9 : 90 ≤ r ∧ r < 1000000) (hP : RDs G rv) (z190_0 : (¬ (4 ≤ x4)) → zin x2 420 = true) : zden 123 172 [.ref 0, .ref r, .int x2, .int x3, .int x4, v5] [] (zSH ++ E, G) = if 4 ≤ x4 then zden 123 93 [.ref 0, .ref r, .int x2, .int (x3 + 1), .int x4, v5] [] (zSH ++ E, G) else zden 123 172 [.ref 0, .ref r, .int (x2 + 1), .int x3, .int (x4 + 1), v5] [] (zSH ++ E, (zup G r x2.toNatClampNeg (rv 79 x3 x4))) :=
  (zd_iload a_L_told_172 rfl).trans ((zd_iconst (v := 4) a_L_told_174 (by decide)).trans ((zd_icmp_ge a_L_told_175 rfl).trans (zitc (fun p32 => (zd_iinc (v := 1) a_L_told_197 rfl (by decide) rfl rfl rfl).trans ((zd_goto a_L_told_200 rfl))) (fun p32 => (zd_aload_n a_L_told_178 rfl).trans ((zd_iload_n a_L_told_179 rfl).trans ((zd_iinc (v := 1) a_L_told_180 rfl (by decide) rfl rfl rfl).trans ((zd_aload_n a_L_told_183 rfl).trans ((zd_iload_n a_L_told_184 rfl).trans ((zd_iload a_L_told_185 rfl).trans ((zd_cal (kd := 0) (tg := 79) (T := m_T_part) a_L_told_187 (by decide +kernel) hm_T_part rfl rfl (zmay_objh (zx_at sh_0) rfl) rfl).trans (((congrArg (zaft 123 190 [.ref 0, .ref r, .int (x2 + 1), .int x3, .int x4, v5] [.int x2, .ref r] (zSH ++ E, G)) (r79 hP sr_rf)).trans zaft_same).trans ((zd_iast (h := (zSH ++ E, G)) a_L_told_190 hr).trans ((if_pos (z190_0 p32)).trans ((zd_iinc (v := 1) a_L_told_191 rfl (by decide) rfl rfl rfl).trans ((zd_goto a_L_told_194 rfl))))))))))))))))
theorem hm_L_headings : zms[k_L_headings]? = some m_L_headings := rfl
theorem a_L_headings_0 : zAt 125 0 m_L_headings (.iconst 0) 1 := ⟨hm_L_headings, by decide +kernel⟩
theorem a_L_headings_1 : zAt 125 1 m_L_headings (.istore_n 1) 1 := ⟨hm_L_headings, by decide +kernel⟩
theorem a_L_headings_2 : zAt 125 2 m_L_headings (.iconst 0) 1 := ⟨hm_L_headings, by decide +kernel⟩
theorem a_L_headings_3 : zAt 125 3 m_L_headings (.istore_n 2) 1 := ⟨hm_L_headings, by decide +kernel⟩
theorem a_L_headings_4 : zAt 125 4 m_L_headings (.iconst 0) 1 := ⟨hm_L_headings, by decide +kernel⟩
theorem a_L_headings_5 : zAt 125 5 m_L_headings (.istore_n 3) 1 := ⟨hm_L_headings, by decide +kernel⟩
theorem a_L_headings_6 : zAt 125 6 m_L_headings (.iload_n 3) 1 := ⟨hm_L_headings, by decide +kernel⟩
theorem a_L_headings_7 : zAt 125 7 m_L_headings (.aload_n 0) 1 := ⟨hm_L_headings, by decide +kernel⟩
theorem a_L_headings_8 : zAt 125 8 m_L_headings (.iconst 1) 1 := ⟨hm_L_headings, by decide +kernel⟩
theorem a_L_headings_9 : zAt 125 9 m_L_headings (.invokevirtual 28) 3 := ⟨hm_L_headings, by decide +kernel⟩
theorem a_L_headings_12 : zAt 125 12 m_L_headings (.if_icmp .gt 59) 3 := ⟨hm_L_headings, by decide +kernel⟩
theorem a_L_headings_15 : zAt 125 15 m_L_headings (.aload_n 0) 1 := ⟨hm_L_headings, by decide +kernel⟩
theorem a_L_headings_16 : zAt 125 16 m_L_headings (.iload_n 3) 1 := ⟨hm_L_headings, by decide +kernel⟩
theorem a_L_headings_17 : zAt 125 17 m_L_headings (.invokevirtual 37) 3 := ⟨hm_L_headings, by decide +kernel⟩
theorem a_L_headings_20 : zAt 125 20 m_L_headings (.istore 4) 2 := ⟨hm_L_headings, by decide +kernel⟩
theorem a_L_headings_22 : zAt 125 22 m_L_headings (.iload_n 2) 1 := ⟨hm_L_headings, by decide +kernel⟩
theorem a_L_headings_23 : zAt 125 23 m_L_headings (.aload_n 0) 1 := ⟨hm_L_headings, by decide +kernel⟩
theorem a_L_headings_24 : zAt 125 24 m_L_headings (.iload 4) 2 := ⟨hm_L_headings, by decide +kernel⟩
theorem a_L_headings_26 : zAt 125 26 m_L_headings (.iconst 4) 1 := ⟨hm_L_headings, by decide +kernel⟩
theorem a_L_headings_27 : zAt 125 27 m_L_headings (.invokevirtual 79) 3 := ⟨hm_L_headings, by decide +kernel⟩
theorem a_L_headings_30 : zAt 125 30 m_L_headings (.iadd) 1 := ⟨hm_L_headings, by decide +kernel⟩
theorem a_L_headings_31 : zAt 125 31 m_L_headings (.istore_n 2) 1 := ⟨hm_L_headings, by decide +kernel⟩
theorem a_L_headings_32 : zAt 125 32 m_L_headings (.iload 4) 2 := ⟨hm_L_headings, by decide +kernel⟩
theorem a_L_headings_34 : zAt 125 34 m_L_headings (.iload_n 1) 1 := ⟨hm_L_headings, by decide +kernel⟩
theorem a_L_headings_35 : zAt 125 35 m_L_headings (.if_icmp .le 25) 3 := ⟨hm_L_headings, by decide +kernel⟩
theorem a_L_headings_38 : zAt 125 38 m_L_headings (.aload_n 0) 1 := ⟨hm_L_headings, by decide +kernel⟩
theorem a_L_headings_39 : zAt 125 39 m_L_headings (.iload 4) 2 := ⟨hm_L_headings, by decide +kernel⟩
theorem a_L_headings_41 : zAt 125 41 m_L_headings (.iconst 0) 1 := ⟨hm_L_headings, by decide +kernel⟩
theorem a_L_headings_42 : zAt 125 42 m_L_headings (.invokevirtual 79) 3 := ⟨hm_L_headings, by decide +kernel⟩
theorem a_L_headings_45 : zAt 125 45 m_L_headings (.ifCond .lt 15) 3 := ⟨hm_L_headings, by decide +kernel⟩
theorem a_L_headings_48 : zAt 125 48 m_L_headings (.aload_n 0) 1 := ⟨hm_L_headings, by decide +kernel⟩
theorem a_L_headings_49 : zAt 125 49 m_L_headings (.iload 4) 2 := ⟨hm_L_headings, by decide +kernel⟩
theorem a_L_headings_51 : zAt 125 51 m_L_headings (.iconst 2) 1 := ⟨hm_L_headings, by decide +kernel⟩
theorem a_L_headings_52 : zAt 125 52 m_L_headings (.invokevirtual 79) 3 := ⟨hm_L_headings, by decide +kernel⟩
theorem a_L_headings_55 : zAt 125 55 m_L_headings (.bipush 60) 2 := ⟨hm_L_headings, by decide +kernel⟩
theorem a_L_headings_57 : zAt 125 57 m_L_headings (.if_icmp .le 5) 3 := ⟨hm_L_headings, by decide +kernel⟩
theorem a_L_headings_60 : zAt 125 60 m_L_headings (.iconst 0) 1 := ⟨hm_L_headings, by decide +kernel⟩
theorem a_L_headings_61 : zAt 125 61 m_L_headings (.ireturn) 1 := ⟨hm_L_headings, by decide +kernel⟩
theorem a_L_headings_62 : zAt 125 62 m_L_headings (.iload 4) 2 := ⟨hm_L_headings, by decide +kernel⟩
theorem a_L_headings_64 : zAt 125 64 m_L_headings (.istore_n 1) 1 := ⟨hm_L_headings, by decide +kernel⟩
theorem a_L_headings_65 : zAt 125 65 m_L_headings (.iinc 3 1) 3 := ⟨hm_L_headings, by decide +kernel⟩
theorem a_L_headings_68 : zAt 125 68 m_L_headings (.goto (-62)) 3 := ⟨hm_L_headings, by decide +kernel⟩
theorem a_L_headings_71 : zAt 125 71 m_L_headings (.aload_n 0) 1 := ⟨hm_L_headings, by decide +kernel⟩
theorem a_L_headings_72 : zAt 125 72 m_L_headings (.bipush 99) 2 := ⟨hm_L_headings, by decide +kernel⟩
theorem a_L_headings_74 : zAt 125 74 m_L_headings (.iconst 0) 1 := ⟨hm_L_headings, by decide +kernel⟩
theorem a_L_headings_75 : zAt 125 75 m_L_headings (.invokevirtual 79) 3 := ⟨hm_L_headings, by decide +kernel⟩
theorem a_L_headings_78 : zAt 125 78 m_L_headings (.iconst 4) 1 := ⟨hm_L_headings, by decide +kernel⟩
theorem a_L_headings_79 : zAt 125 79 m_L_headings (.if_icmp .ne 40) 3 := ⟨hm_L_headings, by decide +kernel⟩
theorem a_L_headings_82 : zAt 125 82 m_L_headings (.aload_n 0) 1 := ⟨hm_L_headings, by decide +kernel⟩
theorem a_L_headings_83 : zAt 125 83 m_L_headings (.bipush 99) 2 := ⟨hm_L_headings, by decide +kernel⟩
theorem a_L_headings_85 : zAt 125 85 m_L_headings (.iconst 1) 1 := ⟨hm_L_headings, by decide +kernel⟩
theorem a_L_headings_86 : zAt 125 86 m_L_headings (.invokevirtual 79) 3 := ⟨hm_L_headings, by decide +kernel⟩
theorem a_L_headings_89 : zAt 125 89 m_L_headings (.iconst 3) 1 := ⟨hm_L_headings, by decide +kernel⟩
theorem a_L_headings_90 : zAt 125 90 m_L_headings (.if_icmp .ne 29) 3 := ⟨hm_L_headings, by decide +kernel⟩
theorem a_L_headings_93 : zAt 125 93 m_L_headings (.aload_n 0) 1 := ⟨hm_L_headings, by decide +kernel⟩
theorem a_L_headings_94 : zAt 125 94 m_L_headings (.bipush 99) 2 := ⟨hm_L_headings, by decide +kernel⟩
theorem a_L_headings_96 : zAt 125 96 m_L_headings (.iconst 2) 1 := ⟨hm_L_headings, by decide +kernel⟩
theorem a_L_headings_97 : zAt 125 97 m_L_headings (.invokevirtual 79) 3 := ⟨hm_L_headings, by decide +kernel⟩
theorem a_L_headings_100 : zAt 125 100 m_L_headings (.bipush 30) 2 := ⟨hm_L_headings, by decide +kernel⟩
theorem a_L_headings_102 : zAt 125 102 m_L_headings (.if_icmp .ne 17) 3 := ⟨hm_L_headings, by decide +kernel⟩
theorem a_L_headings_105 : zAt 125 105 m_L_headings (.aload_n 0) 1 := ⟨hm_L_headings, by decide +kernel⟩
theorem a_L_headings_106 : zAt 125 106 m_L_headings (.bipush 99) 2 := ⟨hm_L_headings, by decide +kernel⟩
theorem a_L_headings_108 : zAt 125 108 m_L_headings (.iconst 3) 1 := ⟨hm_L_headings, by decide +kernel⟩
theorem a_L_headings_109 : zAt 125 109 m_L_headings (.invokevirtual 79) 3 := ⟨hm_L_headings, by decide +kernel⟩
theorem a_L_headings_112 : zAt 125 112 m_L_headings (.ifCond .ne 7) 3 := ⟨hm_L_headings, by decide +kernel⟩
theorem a_L_headings_115 : zAt 125 115 m_L_headings (.iconst 1) 1 := ⟨hm_L_headings, by decide +kernel⟩
theorem a_L_headings_116 : zAt 125 116 m_L_headings (.goto 4) 3 := ⟨hm_L_headings, by decide +kernel⟩
theorem a_L_headings_119 : zAt 125 119 m_L_headings (.iconst 0) 1 := ⟨hm_L_headings, by decide +kernel⟩
theorem a_L_headings_120 : zAt 125 120 m_L_headings (.istore_n 3) 1 := ⟨hm_L_headings, by decide +kernel⟩
theorem a_L_headings_121 : zAt 125 121 m_L_headings (.iload_n 3) 1 := ⟨hm_L_headings, by decide +kernel⟩
theorem a_L_headings_122 : zAt 125 122 m_L_headings (.ifCond .eq 48) 3 := ⟨hm_L_headings, by decide +kernel⟩
theorem a_L_headings_125 : zAt 125 125 m_L_headings (.iload_n 1) 1 := ⟨hm_L_headings, by decide +kernel⟩
theorem a_L_headings_126 : zAt 125 126 m_L_headings (.bipush 99) 2 := ⟨hm_L_headings, by decide +kernel⟩
theorem a_L_headings_128 : zAt 125 128 m_L_headings (.if_icmp .ne 42) 3 := ⟨hm_L_headings, by decide +kernel⟩
theorem a_L_headings_131 : zAt 125 131 m_L_headings (.iload_n 2) 1 := ⟨hm_L_headings, by decide +kernel⟩
theorem a_L_headings_132 : zAt 125 132 m_L_headings (.aload_n 0) 1 := ⟨hm_L_headings, by decide +kernel⟩
theorem a_L_headings_133 : zAt 125 133 m_L_headings (.iconst 2) 1 := ⟨hm_L_headings, by decide +kernel⟩
theorem a_L_headings_134 : zAt 125 134 m_L_headings (.invokevirtual 28) 3 := ⟨hm_L_headings, by decide +kernel⟩
theorem a_L_headings_137 : zAt 125 137 m_L_headings (.if_icmp .ne 33) 3 := ⟨hm_L_headings, by decide +kernel⟩
theorem a_L_headings_140 : zAt 125 140 m_L_headings (.aload_n 0) 1 := ⟨hm_L_headings, by decide +kernel⟩
theorem a_L_headings_141 : zAt 125 141 m_L_headings (.aload_n 0) 1 := ⟨hm_L_headings, by decide +kernel⟩
theorem a_L_headings_142 : zAt 125 142 m_L_headings (.iconst 1) 1 := ⟨hm_L_headings, by decide +kernel⟩
theorem a_L_headings_143 : zAt 125 143 m_L_headings (.invokevirtual 28) 3 := ⟨hm_L_headings, by decide +kernel⟩
theorem a_L_headings_146 : zAt 125 146 m_L_headings (.iconst 1) 1 := ⟨hm_L_headings, by decide +kernel⟩
theorem a_L_headings_147 : zAt 125 147 m_L_headings (.iadd) 1 := ⟨hm_L_headings, by decide +kernel⟩
theorem a_L_headings_148 : zAt 125 148 m_L_headings (.invokevirtual 37) 3 := ⟨hm_L_headings, by decide +kernel⟩
theorem a_L_headings_151 : zAt 125 151 m_L_headings (.bipush (-11)) 2 := ⟨hm_L_headings, by decide +kernel⟩
theorem a_L_headings_153 : zAt 125 153 m_L_headings (.if_icmp .ne 17) 3 := ⟨hm_L_headings, by decide +kernel⟩
theorem a_L_headings_156 : zAt 125 156 m_L_headings (.aload_n 0) 1 := ⟨hm_L_headings, by decide +kernel⟩
theorem a_L_headings_157 : zAt 125 157 m_L_headings (.iconst (-1)) 1 := ⟨hm_L_headings, by decide +kernel⟩
theorem a_L_headings_158 : zAt 125 158 m_L_headings (.invokevirtual 37) 3 := ⟨hm_L_headings, by decide +kernel⟩
theorem a_L_headings_161 : zAt 125 161 m_L_headings (.bipush (-11)) 2 := ⟨hm_L_headings, by decide +kernel⟩
theorem a_L_headings_163 : zAt 125 163 m_L_headings (.if_icmp .ne 7) 3 := ⟨hm_L_headings, by decide +kernel⟩
theorem a_L_headings_166 : zAt 125 166 m_L_headings (.iconst 1) 1 := ⟨hm_L_headings, by decide +kernel⟩
theorem a_L_headings_167 : zAt 125 167 m_L_headings (.goto 4) 3 := ⟨hm_L_headings, by decide +kernel⟩
theorem a_L_headings_170 : zAt 125 170 m_L_headings (.iconst 0) 1 := ⟨hm_L_headings, by decide +kernel⟩
theorem a_L_headings_171 : zAt 125 171 m_L_headings (.ireturn) 1 := ⟨hm_L_headings, by decide +kernel⟩
theorem B_L_headings_0 {E : List zS} {G : Nat → Nat → Int32} : zden 125 0 [.ref 0, .retAddr 0, .retAddr 0, .retAddr 0, .retAddr 0] [] (zSH ++ E, G) = zden 125 6 [.ref 0, .int 0, .int 0, .int 0, .retAddr 0] [] (zSH ++ E, G) :=
  (zd_iconst (v := 0) a_L_headings_0 (by decide)).trans ((zd_istore_n a_L_headings_1 rfl rfl rfl).trans ((zd_iconst (v := 0) a_L_headings_2 (by decide)).trans ((zd_istore_n a_L_headings_3 rfl rfl rfl).trans ((zd_iconst (v := 0) a_L_headings_4 (by decide)).trans ((zd_istore_n a_L_headings_5 rfl rfl rfl))))))
theorem B_L_headings_6 {E : List zS} {G : Nat → Nat → Int32} {rv : Nat → Int32 → Int32 → Int32} {x1 x2 x3 : Int32} {v4 : Value} (hP : RDs G rv) : zden 125 6 [.ref 0, .int x1, .int x2, .int x3, v4] [] (zSH ++ E, G) = if (rv 98 1 0) < x3 then if ¬ (rv 73 99 0) = 4 then zden 125 119 [.ref 0, .int x1, .int x2, .int x3, v4] [] (zSH ++ E, G) else if ¬ (rv 73 99 1) = 3 then zden 125 119 [.ref 0, .int x1, .int x2, .int x3, v4] [] (zSH ++ E, G) else if ¬ (rv 73 99 2) = 30 then zden 125 119 [.ref 0, .int x1, .int x2, .int x3, v4] [] (zSH ++ E, G) else if ¬ (rv 73 99 3) = 0 then zden 125 119 [.ref 0, .int x1, .int x2, .int x3, v4] [] (zSH ++ E, G) else zden 125 120 [.ref 0, .int x1, .int x2, .int x3, v4] [.int 1] (zSH ++ E, G) else if (rv 74 x3 0) ≤ x1 then some (some (.int 0), (zSH ++ E, G)) else if (rv 73 (rv 74 x3 0) 0) < 0 then some (some (.int 0), (zSH ++ E, G)) else if (rv 73 (rv 74 x3 0) 2) ≤ 60 then zden 125 6 [.ref 0, .int (rv 74 x3 0), .int (x2 + (rv 73 (rv 74 x3 0) 4)), .int (x3 + 1), .int (rv 74 x3 0)] [] (zSH ++ E, G) else some (some (.int 0), (zSH ++ E, G)) :=
  (zd_iload_n a_L_headings_6 rfl).trans ((zd_aload_n a_L_headings_7 rfl).trans ((zd_iconst (v := 1) a_L_headings_8 (by decide)).trans ((zd_cal (kd := 0) (tg := 98) (T := m_T_account) a_L_headings_9 (by decide +kernel) hm_T_account rfl rfl (zmay_objh (zx_at sh_0) rfl) rfl).trans (((congrArg (zaft 125 12 [.ref 0, .int x1, .int x2, .int x3, v4] [.int x3] (zSH ++ E, G)) (r98 hP sr_rf)).trans zaft_same).trans ((zd_icmp_gt a_L_headings_12 rfl).trans (zitc (fun p35 => (zd_aload_n a_L_headings_71 rfl).trans ((zd_bipush (v := 99) a_L_headings_72 (by decide)).trans ((zd_iconst (v := 0) a_L_headings_74 (by decide)).trans ((zd_cal (kd := 0) (tg := 73) (T := m_T_headingOf) a_L_headings_75 (by decide +kernel) hm_T_headingOf rfl rfl (zmay_objh (zx_at sh_0) rfl) rfl).trans (((congrArg (zaft 125 78 [.ref 0, .int x1, .int x2, .int x3, v4] [] (zSH ++ E, G)) (r73 hP sr_rf)).trans zaft_same).trans ((zd_iconst (v := 4) a_L_headings_78 (by decide)).trans ((zd_icmp_ne a_L_headings_79 rfl).trans (zitc (fun p36 => rfl) (fun p36 => (zd_aload_n a_L_headings_82 rfl).trans ((zd_bipush (v := 99) a_L_headings_83 (by decide)).trans ((zd_iconst (v := 1) a_L_headings_85 (by decide)).trans ((zd_cal (kd := 0) (tg := 73) (T := m_T_headingOf) a_L_headings_86 (by decide +kernel) hm_T_headingOf rfl rfl (zmay_objh (zx_at sh_0) rfl) rfl).trans (((congrArg (zaft 125 89 [.ref 0, .int x1, .int x2, .int x3, v4] [] (zSH ++ E, G)) (r73 hP sr_rf)).trans zaft_same).trans ((zd_iconst (v := 3) a_L_headings_89 (by decide)).trans ((zd_icmp_ne a_L_headings_90 rfl).trans (zitc (fun p37 => rfl) (fun p37 => (zd_aload_n a_L_headings_93 rfl).trans ((zd_bipush (v := 99) a_L_headings_94 (by decide)).trans ((zd_iconst (v := 2) a_L_headings_96 (by decide)).trans ((zd_cal (kd := 0) (tg := 73) (T := m_T_headingOf) a_L_headings_97 (by decide +kernel) hm_T_headingOf rfl rfl (zmay_objh (zx_at sh_0) rfl) rfl).trans (((congrArg (zaft 125 100 [.ref 0, .int x1, .int x2, .int x3, v4] [] (zSH ++ E, G)) (r73 hP sr_rf)).trans zaft_same).trans ((zd_bipush (v := 30) a_L_headings_100 (by decide)).trans ((zd_icmp_ne a_L_headings_102 rfl).trans (zitc (fun p38 => rfl) (fun p38 => (zd_aload_n a_L_headings_105 rfl).trans ((zd_bipush (v := 99) a_L_headings_106 (by decide)).trans ((zd_iconst (v := 3) a_L_headings_108 (by decide)).trans ((zd_cal (kd := 0) (tg := 73) (T := m_T_headingOf) a_L_headings_109 (by decide +kernel) hm_T_headingOf rfl rfl (zmay_objh (zx_at sh_0) rfl) rfl).trans (((congrArg (zaft 125 112 [.ref 0, .int x1, .int x2, .int x3, v4] [] (zSH ++ E, G)) (r73 hP sr_rf)).trans zaft_same).trans ((zd_if_ne a_L_headings_112 rfl).trans (zitc (fun p39 => rfl) (fun p39 => (zd_iconst (v := 1) a_L_headings_115 (by decide)).trans ((zd_goto a_L_headings_116 rfl)))))))))))))))))))))))))))))))))) (fun p35 => (zd_aload_n a_L_headings_15 rfl).trans ((zd_iload_n a_L_headings_16 rfl).trans ((zd_cal (kd := 0) (tg := 74) (T := m_T_code) a_L_headings_17 (by decide +kernel) hm_T_code rfl rfl (zmay_objh (zx_at sh_0) rfl) rfl).trans (((congrArg (zaft 125 20 [.ref 0, .int x1, .int x2, .int x3, v4] [] (zSH ++ E, G)) (r74 hP sr_rf)).trans zaft_same).trans ((zd_istore a_L_headings_20 rfl rfl rfl).trans ((zd_iload_n a_L_headings_22 rfl).trans ((zd_aload_n a_L_headings_23 rfl).trans ((zd_iload a_L_headings_24 rfl).trans ((zd_iconst (v := 4) a_L_headings_26 (by decide)).trans ((zd_cal (kd := 0) (tg := 73) (T := m_T_headingOf) a_L_headings_27 (by decide +kernel) hm_T_headingOf rfl rfl (zmay_objh (zx_at sh_0) rfl) rfl).trans (((congrArg (zaft 125 30 [.ref 0, .int x1, .int x2, .int x3, .int (rv 74 x3 0)] [.int x2] (zSH ++ E, G)) (r73 hP sr_rf)).trans zaft_same).trans ((zd_num (st2 := [.int (x2 + (rv 73 (rv 74 x3 0) 4))]) a_L_headings_30 rfl rfl rfl rfl).trans ((zd_istore_n a_L_headings_31 rfl rfl rfl).trans ((zd_iload a_L_headings_32 rfl).trans ((zd_iload_n a_L_headings_34 rfl).trans ((zd_icmp_le a_L_headings_35 rfl).trans (zitc (fun p40 => (zd_iconst (v := 0) a_L_headings_60 (by decide)).trans (zd_iret a_L_headings_61 rfl (by decide))) (fun p40 => (zd_aload_n a_L_headings_38 rfl).trans ((zd_iload a_L_headings_39 rfl).trans ((zd_iconst (v := 0) a_L_headings_41 (by decide)).trans ((zd_cal (kd := 0) (tg := 73) (T := m_T_headingOf) a_L_headings_42 (by decide +kernel) hm_T_headingOf rfl rfl (zmay_objh (zx_at sh_0) rfl) rfl).trans (((congrArg (zaft 125 45 [.ref 0, .int x1, .int (x2 + (rv 73 (rv 74 x3 0) 4)), .int x3, .int (rv 74 x3 0)] [] (zSH ++ E, G)) (r73 hP sr_rf)).trans zaft_same).trans ((zd_if_lt a_L_headings_45 rfl).trans (zitc (fun p41 => (zd_iconst (v := 0) a_L_headings_60 (by decide)).trans (zd_iret a_L_headings_61 rfl (by decide))) (fun p41 => (zd_aload_n a_L_headings_48 rfl).trans ((zd_iload a_L_headings_49 rfl).trans ((zd_iconst (v := 2) a_L_headings_51 (by decide)).trans ((zd_cal (kd := 0) (tg := 73) (T := m_T_headingOf) a_L_headings_52 (by decide +kernel) hm_T_headingOf rfl rfl (zmay_objh (zx_at sh_0) rfl) rfl).trans (((congrArg (zaft 125 55 [.ref 0, .int x1, .int (x2 + (rv 73 (rv 74 x3 0) 4)), .int x3, .int (rv 74 x3 0)] [] (zSH ++ E, G)) (r73 hP sr_rf)).trans zaft_same).trans ((zd_bipush (v := 60) a_L_headings_55 (by decide)).trans ((zd_icmp_le a_L_headings_57 rfl).trans (zitc (fun p42 => (zd_iload a_L_headings_62 rfl).trans ((zd_istore_n a_L_headings_64 rfl rfl rfl).trans ((zd_iinc (v := 1) a_L_headings_65 rfl (by decide) rfl rfl rfl).trans ((zd_goto a_L_headings_68 rfl))))) (fun p42 => (zd_iconst (v := 0) a_L_headings_60 (by decide)).trans (zd_iret a_L_headings_61 rfl (by decide)))))))))))))))))))))))))))))))))))))))))
theorem B_L_headings_119 {E : List zS} {G : Nat → Nat → Int32} {x1 x2 x3 : Int32} {v4 : Value} : zden 125 119 [.ref 0, .int x1, .int x2, .int x3, v4] [] (zSH ++ E, G) = zden 125 120 [.ref 0, .int x1, .int x2, .int x3, v4] [.int 0] (zSH ++ E, G) :=
  (zd_iconst (v := 0) a_L_headings_119 (by decide))
theorem B_L_headings_120 {E : List zS} {G : Nat → Nat → Int32} {rv : Nat → Int32 → Int32 → Int32} {x1 x2 x3 s0 : Int32} {v4 : Value} (hP : RDs G rv) : zden 125 120 [.ref 0, .int x1, .int x2, .int x3, v4] [.int s0] (zSH ++ E, G) = if s0 = 0 then some (some (.int 0), (zSH ++ E, G)) else if ¬ x1 = 99 then some (some (.int 0), (zSH ++ E, G)) else if ¬ x2 = (rv 98 2 0) then some (some (.int 0), (zSH ++ E, G)) else if ¬ (rv 74 ((rv 98 1 0) + 1) 0) = (-11) then some (some (.int 0), (zSH ++ E, G)) else if ¬ (rv 74 (-1) 0) = (-11) then some (some (.int 0), (zSH ++ E, G)) else some (some (.int 1), (zSH ++ E, G)) :=
  (zd_istore_n a_L_headings_120 rfl rfl rfl).trans ((zd_iload_n a_L_headings_121 rfl).trans ((zd_if_eq a_L_headings_122 rfl).trans (zitc (fun p43 => (zd_iconst (v := 0) a_L_headings_170 (by decide)).trans (zd_iret a_L_headings_171 rfl (by decide))) (fun p43 => (zd_iload_n a_L_headings_125 rfl).trans ((zd_bipush (v := 99) a_L_headings_126 (by decide)).trans ((zd_icmp_ne a_L_headings_128 rfl).trans (zitc (fun p44 => (zd_iconst (v := 0) a_L_headings_170 (by decide)).trans (zd_iret a_L_headings_171 rfl (by decide))) (fun p44 => (zd_iload_n a_L_headings_131 rfl).trans ((zd_aload_n a_L_headings_132 rfl).trans ((zd_iconst (v := 2) a_L_headings_133 (by decide)).trans ((zd_cal (kd := 0) (tg := 98) (T := m_T_account) a_L_headings_134 (by decide +kernel) hm_T_account rfl rfl (zmay_objh (zx_at sh_0) rfl) rfl).trans (((congrArg (zaft 125 137 [.ref 0, .int x1, .int x2, .int s0, v4] [.int x2] (zSH ++ E, G)) (r98 hP sr_rf)).trans zaft_same).trans ((zd_icmp_ne a_L_headings_137 rfl).trans (zitc (fun p45 => (zd_iconst (v := 0) a_L_headings_170 (by decide)).trans (zd_iret a_L_headings_171 rfl (by decide))) (fun p45 => (zd_aload_n a_L_headings_140 rfl).trans ((zd_aload_n a_L_headings_141 rfl).trans ((zd_iconst (v := 1) a_L_headings_142 (by decide)).trans ((zd_cal (kd := 0) (tg := 98) (T := m_T_account) a_L_headings_143 (by decide +kernel) hm_T_account rfl rfl (zmay_objh (zx_at sh_0) rfl) rfl).trans (((congrArg (zaft 125 146 [.ref 0, .int x1, .int x2, .int s0, v4] [.ref 0] (zSH ++ E, G)) (r98 hP sr_rf)).trans zaft_same).trans ((zd_iconst (v := 1) a_L_headings_146 (by decide)).trans ((zd_num (st2 := [.int ((rv 98 1 0) + 1), .ref 0]) a_L_headings_147 rfl rfl rfl rfl).trans ((zd_cal (kd := 0) (tg := 74) (T := m_T_code) a_L_headings_148 (by decide +kernel) hm_T_code rfl rfl (zmay_objh (zx_at sh_0) rfl) rfl).trans (((congrArg (zaft 125 151 [.ref 0, .int x1, .int x2, .int s0, v4] [] (zSH ++ E, G)) (r74 hP sr_rf)).trans zaft_same).trans ((zd_bipush (v := (-11)) a_L_headings_151 (by decide)).trans ((zd_icmp_ne a_L_headings_153 rfl).trans (zitc (fun p46 => (zd_iconst (v := 0) a_L_headings_170 (by decide)).trans (zd_iret a_L_headings_171 rfl (by decide))) (fun p46 => (zd_aload_n a_L_headings_156 rfl).trans ((zd_iconst (v := (-1)) a_L_headings_157 (by decide)).trans ((zd_cal (kd := 0) (tg := 74) (T := m_T_code) a_L_headings_158 (by decide +kernel) hm_T_code rfl rfl (zmay_objh (zx_at sh_0) rfl) rfl).trans (((congrArg (zaft 125 161 [.ref 0, .int x1, .int x2, .int s0, v4] [] (zSH ++ E, G)) (r74 hP sr_rf)).trans zaft_same).trans ((zd_bipush (v := (-11)) a_L_headings_161 (by decide)).trans ((zd_icmp_ne a_L_headings_163 rfl).trans (zitc (fun p47 => (zd_iconst (v := 0) a_L_headings_170 (by decide)).trans (zd_iret a_L_headings_171 rfl (by decide))) (fun p47 => (zd_iconst (v := 1) a_L_headings_166 (by decide)).trans ((zd_goto a_L_headings_167 rfl).trans (zd_iret a_L_headings_171 rfl (by decide)))))))))))))))))))))))))))))))))))))
