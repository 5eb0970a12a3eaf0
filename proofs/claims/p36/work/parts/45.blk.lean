-- 45: blocks of stock, acts (written by wip/p36/gen45.py)
theorem hm_L_stock : zms[k_L_stock]? = some m_L_stock := rfl
theorem a_L_stock_0 : zAt 124 0 m_L_stock (.aload_n 0) 1 := ⟨hm_L_stock, by decide +kernel⟩
theorem a_L_stock_1 : zAt 124 1 m_L_stock (.bipush 50) 2 := ⟨hm_L_stock, by decide +kernel⟩
theorem a_L_stock_3 : zAt 124 3 m_L_stock (.iconst 0) 1 := ⟨hm_L_stock, by decide +kernel⟩
theorem a_L_stock_4 : zAt 124 4 m_L_stock (.iconst 1) 1 := ⟨hm_L_stock, by decide +kernel⟩
theorem a_L_stock_5 : zAt 124 5 m_L_stock (.bipush 20) 2 := ⟨hm_L_stock, by decide +kernel⟩
theorem a_L_stock_7 : zAt 124 7 m_L_stock (.iconst 3) 1 := ⟨hm_L_stock, by decide +kernel⟩
theorem a_L_stock_8 : zAt 124 8 m_L_stock (.invokevirtual 46) 3 := ⟨hm_L_stock, by decide +kernel⟩
theorem a_L_stock_11 : zAt 124 11 m_L_stock (.aload_n 0) 1 := ⟨hm_L_stock, by decide +kernel⟩
theorem a_L_stock_12 : zAt 124 12 m_L_stock (.bipush 10) 2 := ⟨hm_L_stock, by decide +kernel⟩
theorem a_L_stock_14 : zAt 124 14 m_L_stock (.iconst 4) 1 := ⟨hm_L_stock, by decide +kernel⟩
theorem a_L_stock_15 : zAt 124 15 m_L_stock (.iconst 1) 1 := ⟨hm_L_stock, by decide +kernel⟩
theorem a_L_stock_16 : zAt 124 16 m_L_stock (.bipush 40) 2 := ⟨hm_L_stock, by decide +kernel⟩
theorem a_L_stock_18 : zAt 124 18 m_L_stock (.iconst 0) 1 := ⟨hm_L_stock, by decide +kernel⟩
theorem a_L_stock_19 : zAt 124 19 m_L_stock (.invokevirtual 46) 3 := ⟨hm_L_stock, by decide +kernel⟩
theorem a_L_stock_22 : zAt 124 22 m_L_stock (.iadd) 1 := ⟨hm_L_stock, by decide +kernel⟩
theorem a_L_stock_23 : zAt 124 23 m_L_stock (.aload_n 0) 1 := ⟨hm_L_stock, by decide +kernel⟩
theorem a_L_stock_24 : zAt 124 24 m_L_stock (.bipush 70) 2 := ⟨hm_L_stock, by decide +kernel⟩
theorem a_L_stock_26 : zAt 124 26 m_L_stock (.iconst 4) 1 := ⟨hm_L_stock, by decide +kernel⟩
theorem a_L_stock_27 : zAt 124 27 m_L_stock (.iconst 3) 1 := ⟨hm_L_stock, by decide +kernel⟩
theorem a_L_stock_28 : zAt 124 28 m_L_stock (.bipush 10) 2 := ⟨hm_L_stock, by decide +kernel⟩
theorem a_L_stock_30 : zAt 124 30 m_L_stock (.iconst 0) 1 := ⟨hm_L_stock, by decide +kernel⟩
theorem a_L_stock_31 : zAt 124 31 m_L_stock (.invokevirtual 46) 3 := ⟨hm_L_stock, by decide +kernel⟩
theorem a_L_stock_34 : zAt 124 34 m_L_stock (.iadd) 1 := ⟨hm_L_stock, by decide +kernel⟩
theorem a_L_stock_35 : zAt 124 35 m_L_stock (.aload_n 0) 1 := ⟨hm_L_stock, by decide +kernel⟩
theorem a_L_stock_36 : zAt 124 36 m_L_stock (.bipush 61) 2 := ⟨hm_L_stock, by decide +kernel⟩
theorem a_L_stock_38 : zAt 124 38 m_L_stock (.iconst 1) 1 := ⟨hm_L_stock, by decide +kernel⟩
theorem a_L_stock_39 : zAt 124 39 m_L_stock (.iconst 3) 1 := ⟨hm_L_stock, by decide +kernel⟩
theorem a_L_stock_40 : zAt 124 40 m_L_stock (.bipush 15) 2 := ⟨hm_L_stock, by decide +kernel⟩
theorem a_L_stock_42 : zAt 124 42 m_L_stock (.iconst 1) 1 := ⟨hm_L_stock, by decide +kernel⟩
theorem a_L_stock_43 : zAt 124 43 m_L_stock (.invokevirtual 46) 3 := ⟨hm_L_stock, by decide +kernel⟩
theorem a_L_stock_46 : zAt 124 46 m_L_stock (.iadd) 1 := ⟨hm_L_stock, by decide +kernel⟩
theorem a_L_stock_47 : zAt 124 47 m_L_stock (.istore_n 1) 1 := ⟨hm_L_stock, by decide +kernel⟩
theorem a_L_stock_48 : zAt 124 48 m_L_stock (.iload_n 1) 1 := ⟨hm_L_stock, by decide +kernel⟩
theorem a_L_stock_49 : zAt 124 49 m_L_stock (.aload_n 0) 1 := ⟨hm_L_stock, by decide +kernel⟩
theorem a_L_stock_50 : zAt 124 50 m_L_stock (.iconst 1) 1 := ⟨hm_L_stock, by decide +kernel⟩
theorem a_L_stock_51 : zAt 124 51 m_L_stock (.bipush 7) 2 := ⟨hm_L_stock, by decide +kernel⟩
theorem a_L_stock_53 : zAt 124 53 m_L_stock (.sipush 200) 3 := ⟨hm_L_stock, by decide +kernel⟩
theorem a_L_stock_56 : zAt 124 56 m_L_stock (.bipush 60) 2 := ⟨hm_L_stock, by decide +kernel⟩
theorem a_L_stock_58 : zAt 124 58 m_L_stock (.bipush 40) 2 := ⟨hm_L_stock, by decide +kernel⟩
theorem a_L_stock_60 : zAt 124 60 m_L_stock (.iconst 0) 1 := ⟨hm_L_stock, by decide +kernel⟩
theorem a_L_stock_61 : zAt 124 61 m_L_stock (.invokevirtual 53) 3 := ⟨hm_L_stock, by decide +kernel⟩
theorem a_L_stock_64 : zAt 124 64 m_L_stock (.aload_n 0) 1 := ⟨hm_L_stock, by decide +kernel⟩
theorem a_L_stock_65 : zAt 124 65 m_L_stock (.iconst 2) 1 := ⟨hm_L_stock, by decide +kernel⟩
theorem a_L_stock_66 : zAt 124 66 m_L_stock (.iconst 3) 1 := ⟨hm_L_stock, by decide +kernel⟩
theorem a_L_stock_67 : zAt 124 67 m_L_stock (.bipush 90) 2 := ⟨hm_L_stock, by decide +kernel⟩
theorem a_L_stock_69 : zAt 124 69 m_L_stock (.bipush 30) 2 := ⟨hm_L_stock, by decide +kernel⟩
theorem a_L_stock_71 : zAt 124 71 m_L_stock (.bipush 30) 2 := ⟨hm_L_stock, by decide +kernel⟩
theorem a_L_stock_73 : zAt 124 73 m_L_stock (.iconst 0) 1 := ⟨hm_L_stock, by decide +kernel⟩
theorem a_L_stock_74 : zAt 124 74 m_L_stock (.invokevirtual 53) 3 := ⟨hm_L_stock, by decide +kernel⟩
theorem a_L_stock_77 : zAt 124 77 m_L_stock (.iadd) 1 := ⟨hm_L_stock, by decide +kernel⟩
theorem a_L_stock_78 : zAt 124 78 m_L_stock (.aload_n 0) 1 := ⟨hm_L_stock, by decide +kernel⟩
theorem a_L_stock_79 : zAt 124 79 m_L_stock (.iconst 0) 1 := ⟨hm_L_stock, by decide +kernel⟩
theorem a_L_stock_80 : zAt 124 80 m_L_stock (.bipush 20) 2 := ⟨hm_L_stock, by decide +kernel⟩
theorem a_L_stock_82 : zAt 124 82 m_L_stock (.bipush 45) 2 := ⟨hm_L_stock, by decide +kernel⟩
theorem a_L_stock_84 : zAt 124 84 m_L_stock (.iconst 0) 1 := ⟨hm_L_stock, by decide +kernel⟩
theorem a_L_stock_85 : zAt 124 85 m_L_stock (.iconst 0) 1 := ⟨hm_L_stock, by decide +kernel⟩
theorem a_L_stock_86 : zAt 124 86 m_L_stock (.bipush 20) 2 := ⟨hm_L_stock, by decide +kernel⟩
theorem a_L_stock_88 : zAt 124 88 m_L_stock (.invokevirtual 53) 3 := ⟨hm_L_stock, by decide +kernel⟩
theorem a_L_stock_91 : zAt 124 91 m_L_stock (.iadd) 1 := ⟨hm_L_stock, by decide +kernel⟩
theorem a_L_stock_92 : zAt 124 92 m_L_stock (.iadd) 1 := ⟨hm_L_stock, by decide +kernel⟩
theorem a_L_stock_93 : zAt 124 93 m_L_stock (.istore_n 1) 1 := ⟨hm_L_stock, by decide +kernel⟩
theorem a_L_stock_94 : zAt 124 94 m_L_stock (.iload_n 1) 1 := ⟨hm_L_stock, by decide +kernel⟩
theorem a_L_stock_95 : zAt 124 95 m_L_stock (.aload_n 0) 1 := ⟨hm_L_stock, by decide +kernel⟩
theorem a_L_stock_96 : zAt 124 96 m_L_stock (.iconst 0) 1 := ⟨hm_L_stock, by decide +kernel⟩
theorem a_L_stock_97 : zAt 124 97 m_L_stock (.iconst 2) 1 := ⟨hm_L_stock, by decide +kernel⟩
theorem a_L_stock_98 : zAt 124 98 m_L_stock (.bipush 40) 2 := ⟨hm_L_stock, by decide +kernel⟩
theorem a_L_stock_100 : zAt 124 100 m_L_stock (.invokevirtual 60) 3 := ⟨hm_L_stock, by decide +kernel⟩
theorem a_L_stock_103 : zAt 124 103 m_L_stock (.iadd) 1 := ⟨hm_L_stock, by decide +kernel⟩
theorem a_L_stock_104 : zAt 124 104 m_L_stock (.aload_n 0) 1 := ⟨hm_L_stock, by decide +kernel⟩
theorem a_L_stock_105 : zAt 124 105 m_L_stock (.iconst 0) 1 := ⟨hm_L_stock, by decide +kernel⟩
theorem a_L_stock_106 : zAt 124 106 m_L_stock (.iconst 1) 1 := ⟨hm_L_stock, by decide +kernel⟩
theorem a_L_stock_107 : zAt 124 107 m_L_stock (.bipush 40) 2 := ⟨hm_L_stock, by decide +kernel⟩
theorem a_L_stock_109 : zAt 124 109 m_L_stock (.invokevirtual 60) 3 := ⟨hm_L_stock, by decide +kernel⟩
theorem a_L_stock_112 : zAt 124 112 m_L_stock (.iadd) 1 := ⟨hm_L_stock, by decide +kernel⟩
theorem a_L_stock_113 : zAt 124 113 m_L_stock (.aload_n 0) 1 := ⟨hm_L_stock, by decide +kernel⟩
theorem a_L_stock_114 : zAt 124 114 m_L_stock (.iconst 1) 1 := ⟨hm_L_stock, by decide +kernel⟩
theorem a_L_stock_115 : zAt 124 115 m_L_stock (.iconst 0) 1 := ⟨hm_L_stock, by decide +kernel⟩
theorem a_L_stock_116 : zAt 124 116 m_L_stock (.iconst 5) 1 := ⟨hm_L_stock, by decide +kernel⟩
theorem a_L_stock_117 : zAt 124 117 m_L_stock (.invokevirtual 60) 3 := ⟨hm_L_stock, by decide +kernel⟩
theorem a_L_stock_120 : zAt 124 120 m_L_stock (.iadd) 1 := ⟨hm_L_stock, by decide +kernel⟩
theorem a_L_stock_121 : zAt 124 121 m_L_stock (.aload_n 0) 1 := ⟨hm_L_stock, by decide +kernel⟩
theorem a_L_stock_122 : zAt 124 122 m_L_stock (.iconst 1) 1 := ⟨hm_L_stock, by decide +kernel⟩
theorem a_L_stock_123 : zAt 124 123 m_L_stock (.bipush 25) 2 := ⟨hm_L_stock, by decide +kernel⟩
theorem a_L_stock_125 : zAt 124 125 m_L_stock (.invokevirtual 64) 3 := ⟨hm_L_stock, by decide +kernel⟩
theorem a_L_stock_128 : zAt 124 128 m_L_stock (.iadd) 1 := ⟨hm_L_stock, by decide +kernel⟩
theorem a_L_stock_129 : zAt 124 129 m_L_stock (.aload_n 0) 1 := ⟨hm_L_stock, by decide +kernel⟩
theorem a_L_stock_130 : zAt 124 130 m_L_stock (.bipush 100) 2 := ⟨hm_L_stock, by decide +kernel⟩
theorem a_L_stock_132 : zAt 124 132 m_L_stock (.invokevirtual 67) 3 := ⟨hm_L_stock, by decide +kernel⟩
theorem a_L_stock_135 : zAt 124 135 m_L_stock (.iadd) 1 := ⟨hm_L_stock, by decide +kernel⟩
theorem a_L_stock_136 : zAt 124 136 m_L_stock (.aload_n 0) 1 := ⟨hm_L_stock, by decide +kernel⟩
theorem a_L_stock_137 : zAt 124 137 m_L_stock (.iconst 0) 1 := ⟨hm_L_stock, by decide +kernel⟩
theorem a_L_stock_138 : zAt 124 138 m_L_stock (.invokevirtual 70) 3 := ⟨hm_L_stock, by decide +kernel⟩
theorem a_L_stock_141 : zAt 124 141 m_L_stock (.iadd) 1 := ⟨hm_L_stock, by decide +kernel⟩
theorem a_L_stock_142 : zAt 124 142 m_L_stock (.aload_n 0) 1 := ⟨hm_L_stock, by decide +kernel⟩
theorem a_L_stock_143 : zAt 124 143 m_L_stock (.iconst 3) 1 := ⟨hm_L_stock, by decide +kernel⟩
theorem a_L_stock_144 : zAt 124 144 m_L_stock (.invokevirtual 76) 3 := ⟨hm_L_stock, by decide +kernel⟩
theorem a_L_stock_147 : zAt 124 147 m_L_stock (.iadd) 1 := ⟨hm_L_stock, by decide +kernel⟩
theorem a_L_stock_148 : zAt 124 148 m_L_stock (.ireturn) 1 := ⟨hm_L_stock, by decide +kernel⟩
theorem B_L_stock_0 {E : List zS} {G : Nat → Nat → Int32} : zden 124 0 [.ref 0, .retAddr 0] [] (zSH ++ E, G) = zaft 124 11 [.ref 0, .retAddr 0] [] (zSH ++ E, G) (zden 70 0 [.ref 0, .int 50, .int 0, .int 1, .int 20, .int 3] [] (zSH ++ E, G)) :=
  (zd_aload_n a_L_stock_0 rfl).trans ((zd_bipush (v := 50) a_L_stock_1 (by decide)).trans ((zd_iconst (v := 0) a_L_stock_3 (by decide)).trans ((zd_iconst (v := 1) a_L_stock_4 (by decide)).trans ((zd_bipush (v := 20) a_L_stock_5 (by decide)).trans ((zd_iconst (v := 3) a_L_stock_7 (by decide)).trans ((zd_cal (kd := 0) (tg := 70) (T := m_T_heading) a_L_stock_8 (by decide +kernel) hm_T_heading rfl rfl (zmay_objh (zx_at sh_0) rfl) rfl)))))))
theorem B_L_stock_11 {E : List zS} {G : Nat → Nat → Int32} {s0 : Int32} : zden 124 11 [.ref 0, .retAddr 0] [.int s0] (zSH ++ E, G) = zaft 124 22 [.ref 0, .retAddr 0] [.int s0] (zSH ++ E, G) (zden 70 0 [.ref 0, .int 10, .int 4, .int 1, .int 40, .int 0] [] (zSH ++ E, G)) :=
  (zd_aload_n a_L_stock_11 rfl).trans ((zd_bipush (v := 10) a_L_stock_12 (by decide)).trans ((zd_iconst (v := 4) a_L_stock_14 (by decide)).trans ((zd_iconst (v := 1) a_L_stock_15 (by decide)).trans ((zd_bipush (v := 40) a_L_stock_16 (by decide)).trans ((zd_iconst (v := 0) a_L_stock_18 (by decide)).trans ((zd_cal (kd := 0) (tg := 70) (T := m_T_heading) a_L_stock_19 (by decide +kernel) hm_T_heading rfl rfl (zmay_objh (zx_at sh_0) rfl) rfl)))))))
theorem B_L_stock_22 {E : List zS} {G : Nat → Nat → Int32} {s0 s1 : Int32} : zden 124 22 [.ref 0, .retAddr 0] [.int s0, .int s1] (zSH ++ E, G) = zaft 124 34 [.ref 0, .retAddr 0] [.int (s1 + s0)] (zSH ++ E, G) (zden 70 0 [.ref 0, .int 70, .int 4, .int 3, .int 10, .int 0] [] (zSH ++ E, G)) :=
  (zd_num (st2 := [.int (s1 + s0)]) a_L_stock_22 rfl rfl rfl rfl).trans ((zd_aload_n a_L_stock_23 rfl).trans ((zd_bipush (v := 70) a_L_stock_24 (by decide)).trans ((zd_iconst (v := 4) a_L_stock_26 (by decide)).trans ((zd_iconst (v := 3) a_L_stock_27 (by decide)).trans ((zd_bipush (v := 10) a_L_stock_28 (by decide)).trans ((zd_iconst (v := 0) a_L_stock_30 (by decide)).trans ((zd_cal (kd := 0) (tg := 70) (T := m_T_heading) a_L_stock_31 (by decide +kernel) hm_T_heading rfl rfl (zmay_objh (zx_at sh_0) rfl) rfl))))))))
theorem B_L_stock_34 {E : List zS} {G : Nat → Nat → Int32} {s0 s1 : Int32} : zden 124 34 [.ref 0, .retAddr 0] [.int s0, .int s1] (zSH ++ E, G) = zaft 124 46 [.ref 0, .retAddr 0] [.int (s1 + s0)] (zSH ++ E, G) (zden 70 0 [.ref 0, .int 61, .int 1, .int 3, .int 15, .int 1] [] (zSH ++ E, G)) :=
  (zd_num (st2 := [.int (s1 + s0)]) a_L_stock_34 rfl rfl rfl rfl).trans ((zd_aload_n a_L_stock_35 rfl).trans ((zd_bipush (v := 61) a_L_stock_36 (by decide)).trans ((zd_iconst (v := 1) a_L_stock_38 (by decide)).trans ((zd_iconst (v := 3) a_L_stock_39 (by decide)).trans ((zd_bipush (v := 15) a_L_stock_40 (by decide)).trans ((zd_iconst (v := 1) a_L_stock_42 (by decide)).trans ((zd_cal (kd := 0) (tg := 70) (T := m_T_heading) a_L_stock_43 (by decide +kernel) hm_T_heading rfl rfl (zmay_objh (zx_at sh_0) rfl) rfl))))))))
theorem B_L_stock_46 {E : List zS} {G : Nat → Nat → Int32} {s0 s1 : Int32} : zden 124 46 [.ref 0, .retAddr 0] [.int s0, .int s1] (zSH ++ E, G) = zaft 124 64 [.ref 0, .int (s1 + s0)] [.int (s1 + s0)] (zSH ++ E, G) (zden 75 0 [.ref 0, .int 1, .int 7, .int 200, .int 60, .int 40, .int 0] [] (zSH ++ E, G)) :=
  (zd_num (st2 := [.int (s1 + s0)]) a_L_stock_46 rfl rfl rfl rfl).trans ((zd_istore_n a_L_stock_47 rfl rfl rfl).trans ((zd_iload_n a_L_stock_48 rfl).trans ((zd_aload_n a_L_stock_49 rfl).trans ((zd_iconst (v := 1) a_L_stock_50 (by decide)).trans ((zd_bipush (v := 7) a_L_stock_51 (by decide)).trans ((zd_sipush (v := 200) a_L_stock_53 (by decide)).trans ((zd_bipush (v := 60) a_L_stock_56 (by decide)).trans ((zd_bipush (v := 40) a_L_stock_58 (by decide)).trans ((zd_iconst (v := 0) a_L_stock_60 (by decide)).trans ((zd_cal (kd := 0) (tg := 75) (T := m_T_good) a_L_stock_61 (by decide +kernel) hm_T_good rfl rfl (zmay_objh (zx_at sh_0) rfl) rfl)))))))))))
theorem B_L_stock_64 {E : List zS} {G : Nat → Nat → Int32} {x1 s0 s1 : Int32} : zden 124 64 [.ref 0, .int x1] [.int s0, .int s1] (zSH ++ E, G) = zaft 124 77 [.ref 0, .int x1] [.int s0, .int s1] (zSH ++ E, G) (zden 75 0 [.ref 0, .int 2, .int 3, .int 90, .int 30, .int 30, .int 0] [] (zSH ++ E, G)) :=
  (zd_aload_n a_L_stock_64 rfl).trans ((zd_iconst (v := 2) a_L_stock_65 (by decide)).trans ((zd_iconst (v := 3) a_L_stock_66 (by decide)).trans ((zd_bipush (v := 90) a_L_stock_67 (by decide)).trans ((zd_bipush (v := 30) a_L_stock_69 (by decide)).trans ((zd_bipush (v := 30) a_L_stock_71 (by decide)).trans ((zd_iconst (v := 0) a_L_stock_73 (by decide)).trans ((zd_cal (kd := 0) (tg := 75) (T := m_T_good) a_L_stock_74 (by decide +kernel) hm_T_good rfl rfl (zmay_objh (zx_at sh_0) rfl) rfl))))))))
theorem B_L_stock_77 {E : List zS} {G : Nat → Nat → Int32} {x1 s0 s1 s2 : Int32} : zden 124 77 [.ref 0, .int x1] [.int s0, .int s1, .int s2] (zSH ++ E, G) = zaft 124 91 [.ref 0, .int x1] [.int (s1 + s0), .int s2] (zSH ++ E, G) (zden 75 0 [.ref 0, .int 0, .int 20, .int 45, .int 0, .int 0, .int 20] [] (zSH ++ E, G)) :=
  (zd_num (st2 := [.int (s1 + s0), .int s2]) a_L_stock_77 rfl rfl rfl rfl).trans ((zd_aload_n a_L_stock_78 rfl).trans ((zd_iconst (v := 0) a_L_stock_79 (by decide)).trans ((zd_bipush (v := 20) a_L_stock_80 (by decide)).trans ((zd_bipush (v := 45) a_L_stock_82 (by decide)).trans ((zd_iconst (v := 0) a_L_stock_84 (by decide)).trans ((zd_iconst (v := 0) a_L_stock_85 (by decide)).trans ((zd_bipush (v := 20) a_L_stock_86 (by decide)).trans ((zd_cal (kd := 0) (tg := 75) (T := m_T_good) a_L_stock_88 (by decide +kernel) hm_T_good rfl rfl (zmay_objh (zx_at sh_0) rfl) rfl)))))))))
theorem B_L_stock_91 {E : List zS} {G : Nat → Nat → Int32} {x1 s0 s1 s2 : Int32} : zden 124 91 [.ref 0, .int x1] [.int s0, .int s1, .int s2] (zSH ++ E, G) = zaft 124 103 [.ref 0, .int (s2 + (s1 + s0))] [.int (s2 + (s1 + s0))] (zSH ++ E, G) (zden 76 0 [.ref 0, .int 0, .int 2, .int 40] [] (zSH ++ E, G)) :=
  (zd_num (st2 := [.int (s1 + s0), .int s2]) a_L_stock_91 rfl rfl rfl rfl).trans ((zd_num (st2 := [.int (s2 + (s1 + s0))]) a_L_stock_92 rfl rfl rfl rfl).trans ((zd_istore_n a_L_stock_93 rfl rfl rfl).trans ((zd_iload_n a_L_stock_94 rfl).trans ((zd_aload_n a_L_stock_95 rfl).trans ((zd_iconst (v := 0) a_L_stock_96 (by decide)).trans ((zd_iconst (v := 2) a_L_stock_97 (by decide)).trans ((zd_bipush (v := 40) a_L_stock_98 (by decide)).trans ((zd_cal (kd := 0) (tg := 76) (T := m_T_work) a_L_stock_100 (by decide +kernel) hm_T_work rfl rfl (zmay_objh (zx_at sh_0) rfl) rfl)))))))))
theorem B_L_stock_103 {E : List zS} {G : Nat → Nat → Int32} {x1 s0 s1 : Int32} : zden 124 103 [.ref 0, .int x1] [.int s0, .int s1] (zSH ++ E, G) = zaft 124 112 [.ref 0, .int x1] [.int (s1 + s0)] (zSH ++ E, G) (zden 76 0 [.ref 0, .int 0, .int 1, .int 40] [] (zSH ++ E, G)) :=
  (zd_num (st2 := [.int (s1 + s0)]) a_L_stock_103 rfl rfl rfl rfl).trans ((zd_aload_n a_L_stock_104 rfl).trans ((zd_iconst (v := 0) a_L_stock_105 (by decide)).trans ((zd_iconst (v := 1) a_L_stock_106 (by decide)).trans ((zd_bipush (v := 40) a_L_stock_107 (by decide)).trans ((zd_cal (kd := 0) (tg := 76) (T := m_T_work) a_L_stock_109 (by decide +kernel) hm_T_work rfl rfl (zmay_objh (zx_at sh_0) rfl) rfl))))))
theorem B_L_stock_112 {E : List zS} {G : Nat → Nat → Int32} {x1 s0 s1 : Int32} : zden 124 112 [.ref 0, .int x1] [.int s0, .int s1] (zSH ++ E, G) = zaft 124 120 [.ref 0, .int x1] [.int (s1 + s0)] (zSH ++ E, G) (zden 76 0 [.ref 0, .int 1, .int 0, .int 5] [] (zSH ++ E, G)) :=
  (zd_num (st2 := [.int (s1 + s0)]) a_L_stock_112 rfl rfl rfl rfl).trans ((zd_aload_n a_L_stock_113 rfl).trans ((zd_iconst (v := 1) a_L_stock_114 (by decide)).trans ((zd_iconst (v := 0) a_L_stock_115 (by decide)).trans ((zd_iconst (v := 5) a_L_stock_116 (by decide)).trans ((zd_cal (kd := 0) (tg := 76) (T := m_T_work) a_L_stock_117 (by decide +kernel) hm_T_work rfl rfl (zmay_objh (zx_at sh_0) rfl) rfl))))))
theorem B_L_stock_120 {E : List zS} {G : Nat → Nat → Int32} {x1 s0 s1 : Int32} : zden 124 120 [.ref 0, .int x1] [.int s0, .int s1] (zSH ++ E, G) = zaft 124 128 [.ref 0, .int x1] [.int (s1 + s0)] (zSH ++ E, G) (zden 84 0 [.ref 0, .int 1, .int 25] [] (zSH ++ E, G)) :=
  (zd_num (st2 := [.int (s1 + s0)]) a_L_stock_120 rfl rfl rfl rfl).trans ((zd_aload_n a_L_stock_121 rfl).trans ((zd_iconst (v := 1) a_L_stock_122 (by decide)).trans ((zd_bipush (v := 25) a_L_stock_123 (by decide)).trans ((zd_cal (kd := 0) (tg := 84) (T := m_T_favour) a_L_stock_125 (by decide +kernel) hm_T_favour rfl rfl (zmay_objh (zx_at sh_0) rfl) rfl)))))
theorem B_L_stock_128 {E : List zS} {G : Nat → Nat → Int32} {x1 s0 s1 : Int32} : zden 124 128 [.ref 0, .int x1] [.int s0, .int s1] (zSH ++ E, G) = zaft 124 135 [.ref 0, .int x1] [.int (s1 + s0)] (zSH ++ E, G) (zden 85 0 [.ref 0, .int 100] [] (zSH ++ E, G)) :=
  (zd_num (st2 := [.int (s1 + s0)]) a_L_stock_128 rfl rfl rfl rfl).trans ((zd_aload_n a_L_stock_129 rfl).trans ((zd_bipush (v := 100) a_L_stock_130 (by decide)).trans ((zd_cal (kd := 0) (tg := 85) (T := m_T_coins) a_L_stock_132 (by decide +kernel) hm_T_coins rfl rfl (zmay_objh (zx_at sh_0) rfl) rfl))))
theorem B_L_stock_135 {E : List zS} {G : Nat → Nat → Int32} {x1 s0 s1 : Int32} : zden 124 135 [.ref 0, .int x1] [.int s0, .int s1] (zSH ++ E, G) = zaft 124 141 [.ref 0, .int x1] [.int (s1 + s0)] (zSH ++ E, G) (zden 86 0 [.ref 0, .int 0] [] (zSH ++ E, G)) :=
  (zd_num (st2 := [.int (s1 + s0)]) a_L_stock_135 rfl rfl rfl rfl).trans ((zd_aload_n a_L_stock_136 rfl).trans ((zd_iconst (v := 0) a_L_stock_137 (by decide)).trans ((zd_cal (kd := 0) (tg := 86) (T := m_T_enter) a_L_stock_138 (by decide +kernel) hm_T_enter rfl rfl (zmay_objh (zx_at sh_0) rfl) rfl))))
theorem B_L_stock_141 {E : List zS} {G : Nat → Nat → Int32} {x1 s0 s1 : Int32} : zden 124 141 [.ref 0, .int x1] [.int s0, .int s1] (zSH ++ E, G) = zaft 124 147 [.ref 0, .int x1] [.int (s1 + s0)] (zSH ++ E, G) (zden 88 0 [.ref 0, .int 3] [] (zSH ++ E, G)) :=
  (zd_num (st2 := [.int (s1 + s0)]) a_L_stock_141 rfl rfl rfl rfl).trans ((zd_aload_n a_L_stock_142 rfl).trans ((zd_iconst (v := 3) a_L_stock_143 (by decide)).trans ((zd_cal (kd := 0) (tg := 88) (T := m_T_days) a_L_stock_144 (by decide +kernel) hm_T_days rfl rfl (zmay_objh (zx_at sh_0) rfl) rfl))))
theorem B_L_stock_147 {E : List zS} {G : Nat → Nat → Int32} {x1 s0 s1 : Int32} : zden 124 147 [.ref 0, .int x1] [.int s0, .int s1] (zSH ++ E, G) = some (some (.int (s1 + s0)), (zSH ++ E, G)) :=
  (zd_num (st2 := [.int (s1 + s0)]) a_L_stock_147 rfl rfl rfl rfl).trans (zd_iret a_L_stock_148 rfl (znr_int _))
theorem hm_L_acts : zms[k_L_acts]? = some m_L_acts := rfl
theorem a_L_acts_0 : zAt 120 0 m_L_acts (.iload_n 1) 1 := ⟨hm_L_acts, by decide +kernel⟩
theorem a_L_acts_1 : zAt 120 1 m_L_acts (.bipush 30) 2 := ⟨hm_L_acts, by decide +kernel⟩
theorem a_L_acts_3 : zAt 120 3 m_L_acts (.irem) 1 := ⟨hm_L_acts, by decide +kernel⟩
theorem a_L_acts_4 : zAt 120 4 m_L_acts (.tableswitch 565 0 26 #[124, 124, 124, 124, 124, 124, 243, 253, 253, 253, 253, 412, 412, 412, 412, 412, 412, 474, 474, 518, 518, 545, 545, 545, 545, 555, 555]) 124 := ⟨hm_L_acts, by decide +kernel⟩
theorem a_L_acts_128 : zAt 120 128 m_L_acts (.aload_n 0) 1 := ⟨hm_L_acts, by decide +kernel⟩
theorem a_L_acts_129 : zAt 120 129 m_L_acts (.aload_n 2) 1 := ⟨hm_L_acts, by decide +kernel⟩
theorem a_L_acts_130 : zAt 120 130 m_L_acts (.bipush 8) 2 := ⟨hm_L_acts, by decide +kernel⟩
theorem a_L_acts_132 : zAt 120 132 m_L_acts (.invokevirtual 23) 3 := ⟨hm_L_acts, by decide +kernel⟩
theorem a_L_acts_135 : zAt 120 135 m_L_acts (.ifCond .ne 11) 3 := ⟨hm_L_acts, by decide +kernel⟩
theorem a_L_acts_138 : zAt 120 138 m_L_acts (.aload_n 0) 1 := ⟨hm_L_acts, by decide +kernel⟩
theorem a_L_acts_139 : zAt 120 139 m_L_acts (.aload_n 2) 1 := ⟨hm_L_acts, by decide +kernel⟩
theorem a_L_acts_140 : zAt 120 140 m_L_acts (.invokestatic 40) 3 := ⟨hm_L_acts, by decide +kernel⟩
theorem a_L_acts_143 : zAt 120 143 m_L_acts (.goto 11) 3 := ⟨hm_L_acts, by decide +kernel⟩
theorem a_L_acts_146 : zAt 120 146 m_L_acts (.iconst 1) 1 := ⟨hm_L_acts, by decide +kernel⟩
theorem a_L_acts_147 : zAt 120 147 m_L_acts (.aload_n 2) 1 := ⟨hm_L_acts, by decide +kernel⟩
theorem a_L_acts_148 : zAt 120 148 m_L_acts (.bipush 98) 2 := ⟨hm_L_acts, by decide +kernel⟩
theorem a_L_acts_150 : zAt 120 150 m_L_acts (.invokevirtual 23) 3 := ⟨hm_L_acts, by decide +kernel⟩
theorem a_L_acts_153 : zAt 120 153 m_L_acts (.iadd) 1 := ⟨hm_L_acts, by decide +kernel⟩
theorem a_L_acts_154 : zAt 120 154 m_L_acts (.aload_n 2) 1 := ⟨hm_L_acts, by decide +kernel⟩
theorem a_L_acts_155 : zAt 120 155 m_L_acts (.aload_n 2) 1 := ⟨hm_L_acts, by decide +kernel⟩
theorem a_L_acts_156 : zAt 120 156 m_L_acts (.bipush 12) 2 := ⟨hm_L_acts, by decide +kernel⟩
theorem a_L_acts_158 : zAt 120 158 m_L_acts (.invokevirtual 23) 3 := ⟨hm_L_acts, by decide +kernel⟩
theorem a_L_acts_161 : zAt 120 161 m_L_acts (.ifCond .ne 8) 3 := ⟨hm_L_acts, by decide +kernel⟩
theorem a_L_acts_164 : zAt 120 164 m_L_acts (.bipush 6) 2 := ⟨hm_L_acts, by decide +kernel⟩
theorem a_L_acts_166 : zAt 120 166 m_L_acts (.goto 4) 3 := ⟨hm_L_acts, by decide +kernel⟩
theorem a_L_acts_169 : zAt 120 169 m_L_acts (.iconst 5) 1 := ⟨hm_L_acts, by decide +kernel⟩
theorem a_L_acts_170 : zAt 120 170 m_L_acts (.invokevirtual 23) 3 := ⟨hm_L_acts, by decide +kernel⟩
theorem a_L_acts_173 : zAt 120 173 m_L_acts (.aload_n 2) 1 := ⟨hm_L_acts, by decide +kernel⟩
theorem a_L_acts_174 : zAt 120 174 m_L_acts (.aload_n 2) 1 := ⟨hm_L_acts, by decide +kernel⟩
theorem a_L_acts_175 : zAt 120 175 m_L_acts (.bipush 12) 2 := ⟨hm_L_acts, by decide +kernel⟩
theorem a_L_acts_177 : zAt 120 177 m_L_acts (.invokevirtual 23) 3 := ⟨hm_L_acts, by decide +kernel⟩
theorem a_L_acts_180 : zAt 120 180 m_L_acts (.ifCond .ne 7) 3 := ⟨hm_L_acts, by decide +kernel⟩
theorem a_L_acts_183 : zAt 120 183 m_L_acts (.iconst 5) 1 := ⟨hm_L_acts, by decide +kernel⟩
theorem a_L_acts_184 : zAt 120 184 m_L_acts (.goto 4) 3 := ⟨hm_L_acts, by decide +kernel⟩
theorem a_L_acts_187 : zAt 120 187 m_L_acts (.iconst 4) 1 := ⟨hm_L_acts, by decide +kernel⟩
theorem a_L_acts_188 : zAt 120 188 m_L_acts (.invokevirtual 23) 3 := ⟨hm_L_acts, by decide +kernel⟩
theorem a_L_acts_191 : zAt 120 191 m_L_acts (.aload_n 2) 1 := ⟨hm_L_acts, by decide +kernel⟩
theorem a_L_acts_192 : zAt 120 192 m_L_acts (.aload_n 2) 1 := ⟨hm_L_acts, by decide +kernel⟩
theorem a_L_acts_193 : zAt 120 193 m_L_acts (.bipush 12) 2 := ⟨hm_L_acts, by decide +kernel⟩
theorem a_L_acts_195 : zAt 120 195 m_L_acts (.invokevirtual 23) 3 := ⟨hm_L_acts, by decide +kernel⟩
theorem a_L_acts_198 : zAt 120 198 m_L_acts (.ifCond .ne 8) 3 := ⟨hm_L_acts, by decide +kernel⟩
theorem a_L_acts_201 : zAt 120 201 m_L_acts (.bipush 64) 2 := ⟨hm_L_acts, by decide +kernel⟩
theorem a_L_acts_203 : zAt 120 203 m_L_acts (.goto 5) 3 := ⟨hm_L_acts, by decide +kernel⟩
theorem a_L_acts_206 : zAt 120 206 m_L_acts (.bipush 61) 2 := ⟨hm_L_acts, by decide +kernel⟩
theorem a_L_acts_208 : zAt 120 208 m_L_acts (.invokevirtual 23) 3 := ⟨hm_L_acts, by decide +kernel⟩
theorem a_L_acts_211 : zAt 120 211 m_L_acts (.aload_n 2) 1 := ⟨hm_L_acts, by decide +kernel⟩
theorem a_L_acts_212 : zAt 120 212 m_L_acts (.iconst 3) 1 := ⟨hm_L_acts, by decide +kernel⟩
theorem a_L_acts_213 : zAt 120 213 m_L_acts (.invokevirtual 23) 3 := ⟨hm_L_acts, by decide +kernel⟩
theorem a_L_acts_216 : zAt 120 216 m_L_acts (.ifCond .ne 26) 3 := ⟨hm_L_acts, by decide +kernel⟩
theorem a_L_acts_219 : zAt 120 219 m_L_acts (.aload_n 2) 1 := ⟨hm_L_acts, by decide +kernel⟩
theorem a_L_acts_220 : zAt 120 220 m_L_acts (.aload_n 2) 1 := ⟨hm_L_acts, by decide +kernel⟩
theorem a_L_acts_221 : zAt 120 221 m_L_acts (.bipush 12) 2 := ⟨hm_L_acts, by decide +kernel⟩
theorem a_L_acts_223 : zAt 120 223 m_L_acts (.invokevirtual 23) 3 := ⟨hm_L_acts, by decide +kernel⟩
theorem a_L_acts_226 : zAt 120 226 m_L_acts (.ifCond .ne 8) 3 := ⟨hm_L_acts, by decide +kernel⟩
theorem a_L_acts_229 : zAt 120 229 m_L_acts (.bipush 22) 2 := ⟨hm_L_acts, by decide +kernel⟩
theorem a_L_acts_231 : zAt 120 231 m_L_acts (.goto 5) 3 := ⟨hm_L_acts, by decide +kernel⟩
theorem a_L_acts_234 : zAt 120 234 m_L_acts (.bipush 20) 2 := ⟨hm_L_acts, by decide +kernel⟩
theorem a_L_acts_236 : zAt 120 236 m_L_acts (.invokevirtual 23) 3 := ⟨hm_L_acts, by decide +kernel⟩
theorem a_L_acts_239 : zAt 120 239 m_L_acts (.goto 4) 3 := ⟨hm_L_acts, by decide +kernel⟩
theorem a_L_acts_242 : zAt 120 242 m_L_acts (.iconst 0) 1 := ⟨hm_L_acts, by decide +kernel⟩
theorem a_L_acts_243 : zAt 120 243 m_L_acts (.invokevirtual 46) 3 := ⟨hm_L_acts, by decide +kernel⟩
theorem a_L_acts_246 : zAt 120 246 m_L_acts (.ireturn) 1 := ⟨hm_L_acts, by decide +kernel⟩
theorem a_L_acts_247 : zAt 120 247 m_L_acts (.aload_n 0) 1 := ⟨hm_L_acts, by decide +kernel⟩
theorem a_L_acts_248 : zAt 120 248 m_L_acts (.aload_n 0) 1 := ⟨hm_L_acts, by decide +kernel⟩
theorem a_L_acts_249 : zAt 120 249 m_L_acts (.aload_n 2) 1 := ⟨hm_L_acts, by decide +kernel⟩
theorem a_L_acts_250 : zAt 120 250 m_L_acts (.invokestatic 40) 3 := ⟨hm_L_acts, by decide +kernel⟩
theorem a_L_acts_253 : zAt 120 253 m_L_acts (.invokevirtual 50) 3 := ⟨hm_L_acts, by decide +kernel⟩
theorem a_L_acts_256 : zAt 120 256 m_L_acts (.ireturn) 1 := ⟨hm_L_acts, by decide +kernel⟩
theorem a_L_acts_257 : zAt 120 257 m_L_acts (.aload_n 2) 1 := ⟨hm_L_acts, by decide +kernel⟩
theorem a_L_acts_258 : zAt 120 258 m_L_acts (.aload_n 2) 1 := ⟨hm_L_acts, by decide +kernel⟩
theorem a_L_acts_259 : zAt 120 259 m_L_acts (.iconst 2) 1 := ⟨hm_L_acts, by decide +kernel⟩
theorem a_L_acts_260 : zAt 120 260 m_L_acts (.invokevirtual 23) 3 := ⟨hm_L_acts, by decide +kernel⟩
theorem a_L_acts_263 : zAt 120 263 m_L_acts (.ifCond .ne 8) 3 := ⟨hm_L_acts, by decide +kernel⟩
theorem a_L_acts_266 : zAt 120 266 m_L_acts (.bipush 101) 2 := ⟨hm_L_acts, by decide +kernel⟩
theorem a_L_acts_268 : zAt 120 268 m_L_acts (.goto 5) 3 := ⟨hm_L_acts, by decide +kernel⟩
theorem a_L_acts_271 : zAt 120 271 m_L_acts (.bipush 51) 2 := ⟨hm_L_acts, by decide +kernel⟩
theorem a_L_acts_273 : zAt 120 273 m_L_acts (.invokevirtual 23) 3 := ⟨hm_L_acts, by decide +kernel⟩
theorem a_L_acts_276 : zAt 120 276 m_L_acts (.istore_n 3) 1 := ⟨hm_L_acts, by decide +kernel⟩
theorem a_L_acts_277 : zAt 120 277 m_L_acts (.aload_n 2) 1 := ⟨hm_L_acts, by decide +kernel⟩
theorem a_L_acts_278 : zAt 120 278 m_L_acts (.iconst 4) 1 := ⟨hm_L_acts, by decide +kernel⟩
theorem a_L_acts_279 : zAt 120 279 m_L_acts (.invokevirtual 23) 3 := ⟨hm_L_acts, by decide +kernel⟩
theorem a_L_acts_282 : zAt 120 282 m_L_acts (.ifCond .ne 7) 3 := ⟨hm_L_acts, by decide +kernel⟩
theorem a_L_acts_285 : zAt 120 285 m_L_acts (.iload_n 3) 1 := ⟨hm_L_acts, by decide +kernel⟩
theorem a_L_acts_286 : zAt 120 286 m_L_acts (.goto 11) 3 := ⟨hm_L_acts, by decide +kernel⟩
theorem a_L_acts_289 : zAt 120 289 m_L_acts (.aload_n 2) 1 := ⟨hm_L_acts, by decide +kernel⟩
theorem a_L_acts_290 : zAt 120 290 m_L_acts (.bipush 102) 2 := ⟨hm_L_acts, by decide +kernel⟩
theorem a_L_acts_292 : zAt 120 292 m_L_acts (.iload_n 3) 1 := ⟨hm_L_acts, by decide +kernel⟩
theorem a_L_acts_293 : zAt 120 293 m_L_acts (.isub) 1 := ⟨hm_L_acts, by decide +kernel⟩
theorem a_L_acts_294 : zAt 120 294 m_L_acts (.invokevirtual 23) 3 := ⟨hm_L_acts, by decide +kernel⟩
theorem a_L_acts_297 : zAt 120 297 m_L_acts (.istore 4) 2 := ⟨hm_L_acts, by decide +kernel⟩
theorem a_L_acts_299 : zAt 120 299 m_L_acts (.aload_n 2) 1 := ⟨hm_L_acts, by decide +kernel⟩
theorem a_L_acts_300 : zAt 120 300 m_L_acts (.iconst 4) 1 := ⟨hm_L_acts, by decide +kernel⟩
theorem a_L_acts_301 : zAt 120 301 m_L_acts (.invokevirtual 23) 3 := ⟨hm_L_acts, by decide +kernel⟩
theorem a_L_acts_304 : zAt 120 304 m_L_acts (.ifCond .ne 8) 3 := ⟨hm_L_acts, by decide +kernel⟩
theorem a_L_acts_307 : zAt 120 307 m_L_acts (.iload 4) 2 := ⟨hm_L_acts, by decide +kernel⟩
theorem a_L_acts_309 : zAt 120 309 m_L_acts (.goto 18) 3 := ⟨hm_L_acts, by decide +kernel⟩
theorem a_L_acts_312 : zAt 120 312 m_L_acts (.aload_n 2) 1 := ⟨hm_L_acts, by decide +kernel⟩
theorem a_L_acts_313 : zAt 120 313 m_L_acts (.iconst 1) 1 := ⟨hm_L_acts, by decide +kernel⟩
theorem a_L_acts_314 : zAt 120 314 m_L_acts (.bipush 101) 2 := ⟨hm_L_acts, by decide +kernel⟩
theorem a_L_acts_316 : zAt 120 316 m_L_acts (.iload_n 3) 1 := ⟨hm_L_acts, by decide +kernel⟩
theorem a_L_acts_317 : zAt 120 317 m_L_acts (.isub) 1 := ⟨hm_L_acts, by decide +kernel⟩
theorem a_L_acts_318 : zAt 120 318 m_L_acts (.iload 4) 2 := ⟨hm_L_acts, by decide +kernel⟩
theorem a_L_acts_320 : zAt 120 320 m_L_acts (.isub) 1 := ⟨hm_L_acts, by decide +kernel⟩
theorem a_L_acts_321 : zAt 120 321 m_L_acts (.invokestatic 31) 3 := ⟨hm_L_acts, by decide +kernel⟩
theorem a_L_acts_324 : zAt 120 324 m_L_acts (.invokevirtual 23) 3 := ⟨hm_L_acts, by decide +kernel⟩
theorem a_L_acts_327 : zAt 120 327 m_L_acts (.istore 5) 2 := ⟨hm_L_acts, by decide +kernel⟩
theorem a_L_acts_329 : zAt 120 329 m_L_acts (.aload_n 0) 1 := ⟨hm_L_acts, by decide +kernel⟩
theorem a_L_acts_330 : zAt 120 330 m_L_acts (.aload_n 2) 1 := ⟨hm_L_acts, by decide +kernel⟩
theorem a_L_acts_331 : zAt 120 331 m_L_acts (.aload_n 2) 1 := ⟨hm_L_acts, by decide +kernel⟩
theorem a_L_acts_332 : zAt 120 332 m_L_acts (.bipush 12) 2 := ⟨hm_L_acts, by decide +kernel⟩
theorem a_L_acts_334 : zAt 120 334 m_L_acts (.invokevirtual 23) 3 := ⟨hm_L_acts, by decide +kernel⟩
theorem a_L_acts_337 : zAt 120 337 m_L_acts (.ifCond .ne 7) 3 := ⟨hm_L_acts, by decide +kernel⟩
theorem a_L_acts_340 : zAt 120 340 m_L_acts (.iconst 4) 1 := ⟨hm_L_acts, by decide +kernel⟩
theorem a_L_acts_341 : zAt 120 341 m_L_acts (.goto 4) 3 := ⟨hm_L_acts, by decide +kernel⟩
theorem a_L_acts_344 : zAt 120 344 m_L_acts (.iconst 3) 1 := ⟨hm_L_acts, by decide +kernel⟩
theorem a_L_acts_345 : zAt 120 345 m_L_acts (.invokevirtual 23) 3 := ⟨hm_L_acts, by decide +kernel⟩
theorem a_L_acts_348 : zAt 120 348 m_L_acts (.aload_n 2) 1 := ⟨hm_L_acts, by decide +kernel⟩
theorem a_L_acts_349 : zAt 120 349 m_L_acts (.aload_n 2) 1 := ⟨hm_L_acts, by decide +kernel⟩
theorem a_L_acts_350 : zAt 120 350 m_L_acts (.bipush 12) 2 := ⟨hm_L_acts, by decide +kernel⟩
theorem a_L_acts_352 : zAt 120 352 m_L_acts (.invokevirtual 23) 3 := ⟨hm_L_acts, by decide +kernel⟩
theorem a_L_acts_355 : zAt 120 355 m_L_acts (.ifCond .ne 8) 3 := ⟨hm_L_acts, by decide +kernel⟩
theorem a_L_acts_358 : zAt 120 358 m_L_acts (.bipush 101) 2 := ⟨hm_L_acts, by decide +kernel⟩
theorem a_L_acts_360 : zAt 120 360 m_L_acts (.goto 5) 3 := ⟨hm_L_acts, by decide +kernel⟩
theorem a_L_acts_363 : zAt 120 363 m_L_acts (.bipush 40) 2 := ⟨hm_L_acts, by decide +kernel⟩
theorem a_L_acts_365 : zAt 120 365 m_L_acts (.invokevirtual 23) 3 := ⟨hm_L_acts, by decide +kernel⟩
theorem a_L_acts_368 : zAt 120 368 m_L_acts (.aload_n 2) 1 := ⟨hm_L_acts, by decide +kernel⟩
theorem a_L_acts_369 : zAt 120 369 m_L_acts (.bipush 12) 2 := ⟨hm_L_acts, by decide +kernel⟩
theorem a_L_acts_371 : zAt 120 371 m_L_acts (.invokevirtual 23) 3 := ⟨hm_L_acts, by decide +kernel⟩
theorem a_L_acts_374 : zAt 120 374 m_L_acts (.ifCond .ne 7) 3 := ⟨hm_L_acts, by decide +kernel⟩
theorem a_L_acts_377 : zAt 120 377 m_L_acts (.iconst 0) 1 := ⟨hm_L_acts, by decide +kernel⟩
theorem a_L_acts_378 : zAt 120 378 m_L_acts (.goto 4) 3 := ⟨hm_L_acts, by decide +kernel⟩
theorem a_L_acts_381 : zAt 120 381 m_L_acts (.iconst 1) 1 := ⟨hm_L_acts, by decide +kernel⟩
theorem a_L_acts_382 : zAt 120 382 m_L_acts (.iadd) 1 := ⟨hm_L_acts, by decide +kernel⟩
theorem a_L_acts_383 : zAt 120 383 m_L_acts (.iconst 1) 1 := ⟨hm_L_acts, by decide +kernel⟩
theorem a_L_acts_384 : zAt 120 384 m_L_acts (.aload_n 2) 1 := ⟨hm_L_acts, by decide +kernel⟩
theorem a_L_acts_385 : zAt 120 385 m_L_acts (.aload_n 2) 1 := ⟨hm_L_acts, by decide +kernel⟩
theorem a_L_acts_386 : zAt 120 386 m_L_acts (.bipush 12) 2 := ⟨hm_L_acts, by decide +kernel⟩
theorem a_L_acts_388 : zAt 120 388 m_L_acts (.invokevirtual 23) 3 := ⟨hm_L_acts, by decide +kernel⟩
theorem a_L_acts_391 : zAt 120 391 m_L_acts (.ifCond .ne 9) 3 := ⟨hm_L_acts, by decide +kernel⟩
theorem a_L_acts_394 : zAt 120 394 m_L_acts (.sipush 1001) 3 := ⟨hm_L_acts, by decide +kernel⟩
theorem a_L_acts_397 : zAt 120 397 m_L_acts (.goto 6) 3 := ⟨hm_L_acts, by decide +kernel⟩
theorem a_L_acts_400 : zAt 120 400 m_L_acts (.sipush 400) 3 := ⟨hm_L_acts, by decide +kernel⟩
theorem a_L_acts_403 : zAt 120 403 m_L_acts (.invokevirtual 23) 3 := ⟨hm_L_acts, by decide +kernel⟩
theorem a_L_acts_406 : zAt 120 406 m_L_acts (.iadd) 1 := ⟨hm_L_acts, by decide +kernel⟩
theorem a_L_acts_407 : zAt 120 407 m_L_acts (.iload_n 3) 1 := ⟨hm_L_acts, by decide +kernel⟩
theorem a_L_acts_408 : zAt 120 408 m_L_acts (.iload 4) 2 := ⟨hm_L_acts, by decide +kernel⟩
theorem a_L_acts_410 : zAt 120 410 m_L_acts (.iload 5) 2 := ⟨hm_L_acts, by decide +kernel⟩
theorem a_L_acts_412 : zAt 120 412 m_L_acts (.invokevirtual 53) 3 := ⟨hm_L_acts, by decide +kernel⟩
theorem a_L_acts_415 : zAt 120 415 m_L_acts (.ireturn) 1 := ⟨hm_L_acts, by decide +kernel⟩
theorem a_L_acts_416 : zAt 120 416 m_L_acts (.aload_n 0) 1 := ⟨hm_L_acts, by decide +kernel⟩
theorem a_L_acts_417 : zAt 120 417 m_L_acts (.aload_n 0) 1 := ⟨hm_L_acts, by decide +kernel⟩
theorem a_L_acts_418 : zAt 120 418 m_L_acts (.aload_n 2) 1 := ⟨hm_L_acts, by decide +kernel⟩
theorem a_L_acts_419 : zAt 120 419 m_L_acts (.invokestatic 57) 3 := ⟨hm_L_acts, by decide +kernel⟩
theorem a_L_acts_422 : zAt 120 422 m_L_acts (.aload_n 2) 1 := ⟨hm_L_acts, by decide +kernel⟩
theorem a_L_acts_423 : zAt 120 423 m_L_acts (.aload_n 2) 1 := ⟨hm_L_acts, by decide +kernel⟩
theorem a_L_acts_424 : zAt 120 424 m_L_acts (.bipush 12) 2 := ⟨hm_L_acts, by decide +kernel⟩
theorem a_L_acts_426 : zAt 120 426 m_L_acts (.invokevirtual 23) 3 := ⟨hm_L_acts, by decide +kernel⟩
theorem a_L_acts_429 : zAt 120 429 m_L_acts (.ifCond .ne 8) 3 := ⟨hm_L_acts, by decide +kernel⟩
theorem a_L_acts_432 : zAt 120 432 m_L_acts (.bipush 6) 2 := ⟨hm_L_acts, by decide +kernel⟩
theorem a_L_acts_434 : zAt 120 434 m_L_acts (.goto 4) 3 := ⟨hm_L_acts, by decide +kernel⟩
theorem a_L_acts_437 : zAt 120 437 m_L_acts (.iconst 3) 1 := ⟨hm_L_acts, by decide +kernel⟩
theorem a_L_acts_438 : zAt 120 438 m_L_acts (.invokevirtual 23) 3 := ⟨hm_L_acts, by decide +kernel⟩
theorem a_L_acts_441 : zAt 120 441 m_L_acts (.aload_n 2) 1 := ⟨hm_L_acts, by decide +kernel⟩
theorem a_L_acts_442 : zAt 120 442 m_L_acts (.iconst 2) 1 := ⟨hm_L_acts, by decide +kernel⟩
theorem a_L_acts_443 : zAt 120 443 m_L_acts (.invokevirtual 23) 3 := ⟨hm_L_acts, by decide +kernel⟩
theorem a_L_acts_446 : zAt 120 446 m_L_acts (.ifCond .ne 8) 3 := ⟨hm_L_acts, by decide +kernel⟩
theorem a_L_acts_449 : zAt 120 449 m_L_acts (.bipush 10) 2 := ⟨hm_L_acts, by decide +kernel⟩
theorem a_L_acts_451 : zAt 120 451 m_L_acts (.goto 23) 3 := ⟨hm_L_acts, by decide +kernel⟩
theorem a_L_acts_454 : zAt 120 454 m_L_acts (.aload_n 2) 1 := ⟨hm_L_acts, by decide +kernel⟩
theorem a_L_acts_455 : zAt 120 455 m_L_acts (.aload_n 2) 1 := ⟨hm_L_acts, by decide +kernel⟩
theorem a_L_acts_456 : zAt 120 456 m_L_acts (.bipush 12) 2 := ⟨hm_L_acts, by decide +kernel⟩
theorem a_L_acts_458 : zAt 120 458 m_L_acts (.invokevirtual 23) 3 := ⟨hm_L_acts, by decide +kernel⟩
theorem a_L_acts_461 : zAt 120 461 m_L_acts (.ifCond .ne 8) 3 := ⟨hm_L_acts, by decide +kernel⟩
theorem a_L_acts_464 : zAt 120 464 m_L_acts (.bipush 101) 2 := ⟨hm_L_acts, by decide +kernel⟩
theorem a_L_acts_466 : zAt 120 466 m_L_acts (.goto 5) 3 := ⟨hm_L_acts, by decide +kernel⟩
theorem a_L_acts_469 : zAt 120 469 m_L_acts (.bipush 30) 2 := ⟨hm_L_acts, by decide +kernel⟩
theorem a_L_acts_471 : zAt 120 471 m_L_acts (.invokevirtual 23) 3 := ⟨hm_L_acts, by decide +kernel⟩
theorem a_L_acts_474 : zAt 120 474 m_L_acts (.invokevirtual 60) 3 := ⟨hm_L_acts, by decide +kernel⟩
theorem a_L_acts_477 : zAt 120 477 m_L_acts (.ireturn) 1 := ⟨hm_L_acts, by decide +kernel⟩
theorem a_L_acts_478 : zAt 120 478 m_L_acts (.aload_n 0) 1 := ⟨hm_L_acts, by decide +kernel⟩
theorem a_L_acts_479 : zAt 120 479 m_L_acts (.aload_n 2) 1 := ⟨hm_L_acts, by decide +kernel⟩
theorem a_L_acts_480 : zAt 120 480 m_L_acts (.aload_n 2) 1 := ⟨hm_L_acts, by decide +kernel⟩
theorem a_L_acts_481 : zAt 120 481 m_L_acts (.bipush 12) 2 := ⟨hm_L_acts, by decide +kernel⟩
theorem a_L_acts_483 : zAt 120 483 m_L_acts (.invokevirtual 23) 3 := ⟨hm_L_acts, by decide +kernel⟩
theorem a_L_acts_486 : zAt 120 486 m_L_acts (.ifCond .ne 8) 3 := ⟨hm_L_acts, by decide +kernel⟩
theorem a_L_acts_489 : zAt 120 489 m_L_acts (.bipush 6) 2 := ⟨hm_L_acts, by decide +kernel⟩
theorem a_L_acts_491 : zAt 120 491 m_L_acts (.goto 4) 3 := ⟨hm_L_acts, by decide +kernel⟩
theorem a_L_acts_494 : zAt 120 494 m_L_acts (.iconst 3) 1 := ⟨hm_L_acts, by decide +kernel⟩
theorem a_L_acts_495 : zAt 120 495 m_L_acts (.invokevirtual 23) 3 := ⟨hm_L_acts, by decide +kernel⟩
theorem a_L_acts_498 : zAt 120 498 m_L_acts (.aload_n 2) 1 := ⟨hm_L_acts, by decide +kernel⟩
theorem a_L_acts_499 : zAt 120 499 m_L_acts (.aload_n 2) 1 := ⟨hm_L_acts, by decide +kernel⟩
theorem a_L_acts_500 : zAt 120 500 m_L_acts (.bipush 12) 2 := ⟨hm_L_acts, by decide +kernel⟩
theorem a_L_acts_502 : zAt 120 502 m_L_acts (.invokevirtual 23) 3 := ⟨hm_L_acts, by decide +kernel⟩
theorem a_L_acts_505 : zAt 120 505 m_L_acts (.ifCond .ne 8) 3 := ⟨hm_L_acts, by decide +kernel⟩
theorem a_L_acts_508 : zAt 120 508 m_L_acts (.bipush 103) 2 := ⟨hm_L_acts, by decide +kernel⟩
theorem a_L_acts_510 : zAt 120 510 m_L_acts (.goto 5) 3 := ⟨hm_L_acts, by decide +kernel⟩
theorem a_L_acts_513 : zAt 120 513 m_L_acts (.bipush 101) 2 := ⟨hm_L_acts, by decide +kernel⟩
theorem a_L_acts_515 : zAt 120 515 m_L_acts (.invokevirtual 23) 3 := ⟨hm_L_acts, by decide +kernel⟩
theorem a_L_acts_518 : zAt 120 518 m_L_acts (.invokevirtual 64) 3 := ⟨hm_L_acts, by decide +kernel⟩
theorem a_L_acts_521 : zAt 120 521 m_L_acts (.ireturn) 1 := ⟨hm_L_acts, by decide +kernel⟩
theorem a_L_acts_522 : zAt 120 522 m_L_acts (.aload_n 0) 1 := ⟨hm_L_acts, by decide +kernel⟩
theorem a_L_acts_523 : zAt 120 523 m_L_acts (.aload_n 2) 1 := ⟨hm_L_acts, by decide +kernel⟩
theorem a_L_acts_524 : zAt 120 524 m_L_acts (.bipush 12) 2 := ⟨hm_L_acts, by decide +kernel⟩
theorem a_L_acts_526 : zAt 120 526 m_L_acts (.invokevirtual 23) 3 := ⟨hm_L_acts, by decide +kernel⟩
theorem a_L_acts_529 : zAt 120 529 m_L_acts (.ifCond .ne 7) 3 := ⟨hm_L_acts, by decide +kernel⟩
theorem a_L_acts_532 : zAt 120 532 m_L_acts (.iconst 0) 1 := ⟨hm_L_acts, by decide +kernel⟩
theorem a_L_acts_533 : zAt 120 533 m_L_acts (.goto 12) 3 := ⟨hm_L_acts, by decide +kernel⟩
theorem a_L_acts_536 : zAt 120 536 m_L_acts (.iconst 1) 1 := ⟨hm_L_acts, by decide +kernel⟩
theorem a_L_acts_537 : zAt 120 537 m_L_acts (.aload_n 2) 1 := ⟨hm_L_acts, by decide +kernel⟩
theorem a_L_acts_538 : zAt 120 538 m_L_acts (.sipush 300) 3 := ⟨hm_L_acts, by decide +kernel⟩
theorem a_L_acts_541 : zAt 120 541 m_L_acts (.invokevirtual 23) 3 := ⟨hm_L_acts, by decide +kernel⟩
theorem a_L_acts_544 : zAt 120 544 m_L_acts (.iadd) 1 := ⟨hm_L_acts, by decide +kernel⟩
theorem a_L_acts_545 : zAt 120 545 m_L_acts (.invokevirtual 67) 3 := ⟨hm_L_acts, by decide +kernel⟩
theorem a_L_acts_548 : zAt 120 548 m_L_acts (.ireturn) 1 := ⟨hm_L_acts, by decide +kernel⟩
theorem a_L_acts_549 : zAt 120 549 m_L_acts (.aload_n 0) 1 := ⟨hm_L_acts, by decide +kernel⟩
theorem a_L_acts_550 : zAt 120 550 m_L_acts (.aload_n 0) 1 := ⟨hm_L_acts, by decide +kernel⟩
theorem a_L_acts_551 : zAt 120 551 m_L_acts (.aload_n 2) 1 := ⟨hm_L_acts, by decide +kernel⟩
theorem a_L_acts_552 : zAt 120 552 m_L_acts (.invokestatic 57) 3 := ⟨hm_L_acts, by decide +kernel⟩
theorem a_L_acts_555 : zAt 120 555 m_L_acts (.invokevirtual 70) 3 := ⟨hm_L_acts, by decide +kernel⟩
theorem a_L_acts_558 : zAt 120 558 m_L_acts (.ireturn) 1 := ⟨hm_L_acts, by decide +kernel⟩
theorem a_L_acts_559 : zAt 120 559 m_L_acts (.aload_n 0) 1 := ⟨hm_L_acts, by decide +kernel⟩
theorem a_L_acts_560 : zAt 120 560 m_L_acts (.aload_n 0) 1 := ⟨hm_L_acts, by decide +kernel⟩
theorem a_L_acts_561 : zAt 120 561 m_L_acts (.aload_n 2) 1 := ⟨hm_L_acts, by decide +kernel⟩
theorem a_L_acts_562 : zAt 120 562 m_L_acts (.invokestatic 57) 3 := ⟨hm_L_acts, by decide +kernel⟩
theorem a_L_acts_565 : zAt 120 565 m_L_acts (.invokevirtual 73) 3 := ⟨hm_L_acts, by decide +kernel⟩
theorem a_L_acts_568 : zAt 120 568 m_L_acts (.ireturn) 1 := ⟨hm_L_acts, by decide +kernel⟩
theorem a_L_acts_569 : zAt 120 569 m_L_acts (.aload_n 0) 1 := ⟨hm_L_acts, by decide +kernel⟩
theorem a_L_acts_570 : zAt 120 570 m_L_acts (.aload_n 2) 1 := ⟨hm_L_acts, by decide +kernel⟩
theorem a_L_acts_571 : zAt 120 571 m_L_acts (.bipush 12) 2 := ⟨hm_L_acts, by decide +kernel⟩
theorem a_L_acts_573 : zAt 120 573 m_L_acts (.invokevirtual 23) 3 := ⟨hm_L_acts, by decide +kernel⟩
theorem a_L_acts_576 : zAt 120 576 m_L_acts (.ifCond .ne 8) 3 := ⟨hm_L_acts, by decide +kernel⟩
theorem a_L_acts_579 : zAt 120 579 m_L_acts (.bipush 100) 2 := ⟨hm_L_acts, by decide +kernel⟩
theorem a_L_acts_581 : zAt 120 581 m_L_acts (.goto 24) 3 := ⟨hm_L_acts, by decide +kernel⟩
theorem a_L_acts_584 : zAt 120 584 m_L_acts (.iconst 1) 1 := ⟨hm_L_acts, by decide +kernel⟩
theorem a_L_acts_585 : zAt 120 585 m_L_acts (.aload_n 2) 1 := ⟨hm_L_acts, by decide +kernel⟩
theorem a_L_acts_586 : zAt 120 586 m_L_acts (.aload_n 2) 1 := ⟨hm_L_acts, by decide +kernel⟩
theorem a_L_acts_587 : zAt 120 587 m_L_acts (.iconst 3) 1 := ⟨hm_L_acts, by decide +kernel⟩
theorem a_L_acts_588 : zAt 120 588 m_L_acts (.invokevirtual 23) 3 := ⟨hm_L_acts, by decide +kernel⟩
theorem a_L_acts_591 : zAt 120 591 m_L_acts (.ifCond .ne 8) 3 := ⟨hm_L_acts, by decide +kernel⟩
theorem a_L_acts_594 : zAt 120 594 m_L_acts (.bipush 40) 2 := ⟨hm_L_acts, by decide +kernel⟩
theorem a_L_acts_596 : zAt 120 596 m_L_acts (.goto 5) 3 := ⟨hm_L_acts, by decide +kernel⟩
theorem a_L_acts_599 : zAt 120 599 m_L_acts (.bipush 9) 2 := ⟨hm_L_acts, by decide +kernel⟩
theorem a_L_acts_601 : zAt 120 601 m_L_acts (.invokevirtual 23) 3 := ⟨hm_L_acts, by decide +kernel⟩
theorem a_L_acts_604 : zAt 120 604 m_L_acts (.iadd) 1 := ⟨hm_L_acts, by decide +kernel⟩
theorem a_L_acts_605 : zAt 120 605 m_L_acts (.invokevirtual 76) 3 := ⟨hm_L_acts, by decide +kernel⟩
theorem a_L_acts_608 : zAt 120 608 m_L_acts (.ireturn) 1 := ⟨hm_L_acts, by decide +kernel⟩
theorem B_L_acts_0 {E : List zS} {G : Nat → Nat → Int32} {b : Nat} {x1 : Int32} (hb : (zSH ++ E)[b]? = some (.inl (8, [none]))) (hb9 : 90 ≤ b ∧ b < 1000000) : zden 120 0 [.ref 0, .int x1, .ref b, .retAddr 0, .retAddr 0, .retAddr 0] [] (zSH ++ E, G) = if (x1 - x1 / 30 * 30) = 0 then zden 120 128 [.ref 0, .int x1, .ref b, .retAddr 0, .retAddr 0, .retAddr 0] [] (zSH ++ E, G) else if (x1 - x1 / 30 * 30) = 1 then zden 120 128 [.ref 0, .int x1, .ref b, .retAddr 0, .retAddr 0, .retAddr 0] [] (zSH ++ E, G) else if (x1 - x1 / 30 * 30) = 2 then zden 120 128 [.ref 0, .int x1, .ref b, .retAddr 0, .retAddr 0, .retAddr 0] [] (zSH ++ E, G) else if (x1 - x1 / 30 * 30) = 3 then zden 120 128 [.ref 0, .int x1, .ref b, .retAddr 0, .retAddr 0, .retAddr 0] [] (zSH ++ E, G) else if (x1 - x1 / 30 * 30) = 4 then zden 120 128 [.ref 0, .int x1, .ref b, .retAddr 0, .retAddr 0, .retAddr 0] [] (zSH ++ E, G) else if (x1 - x1 / 30 * 30) = 5 then zden 120 128 [.ref 0, .int x1, .ref b, .retAddr 0, .retAddr 0, .retAddr 0] [] (zSH ++ E, G) else if (x1 - x1 / 30 * 30) = 6 then zden 120 247 [.ref 0, .int x1, .ref b, .retAddr 0, .retAddr 0, .retAddr 0] [] (zSH ++ E, G) else if (x1 - x1 / 30 * 30) = 7 then zden 120 257 [.ref 0, .int x1, .ref b, .retAddr 0, .retAddr 0, .retAddr 0] [] (zSH ++ E, G) else if (x1 - x1 / 30 * 30) = 8 then zden 120 257 [.ref 0, .int x1, .ref b, .retAddr 0, .retAddr 0, .retAddr 0] [] (zSH ++ E, G) else if (x1 - x1 / 30 * 30) = 9 then zden 120 257 [.ref 0, .int x1, .ref b, .retAddr 0, .retAddr 0, .retAddr 0] [] (zSH ++ E, G) else if (x1 - x1 / 30 * 30) = 10 then zden 120 257 [.ref 0, .int x1, .ref b, .retAddr 0, .retAddr 0, .retAddr 0] [] (zSH ++ E, G) else if (x1 - x1 / 30 * 30) = 11 then zden 120 416 [.ref 0, .int x1, .ref b, .retAddr 0, .retAddr 0, .retAddr 0] [] (zSH ++ E, G) else if (x1 - x1 / 30 * 30) = 12 then zden 120 416 [.ref 0, .int x1, .ref b, .retAddr 0, .retAddr 0, .retAddr 0] [] (zSH ++ E, G) else if (x1 - x1 / 30 * 30) = 13 then zden 120 416 [.ref 0, .int x1, .ref b, .retAddr 0, .retAddr 0, .retAddr 0] [] (zSH ++ E, G) else if (x1 - x1 / 30 * 30) = 14 then zden 120 416 [.ref 0, .int x1, .ref b, .retAddr 0, .retAddr 0, .retAddr 0] [] (zSH ++ E, G) else if (x1 - x1 / 30 * 30) = 15 then zden 120 416 [.ref 0, .int x1, .ref b, .retAddr 0, .retAddr 0, .retAddr 0] [] (zSH ++ E, G) else if (x1 - x1 / 30 * 30) = 16 then zden 120 416 [.ref 0, .int x1, .ref b, .retAddr 0, .retAddr 0, .retAddr 0] [] (zSH ++ E, G) else if (x1 - x1 / 30 * 30) = 17 then zden 120 478 [.ref 0, .int x1, .ref b, .retAddr 0, .retAddr 0, .retAddr 0] [] (zSH ++ E, G) else if (x1 - x1 / 30 * 30) = 18 then zden 120 478 [.ref 0, .int x1, .ref b, .retAddr 0, .retAddr 0, .retAddr 0] [] (zSH ++ E, G) else if (x1 - x1 / 30 * 30) = 19 then zden 120 522 [.ref 0, .int x1, .ref b, .retAddr 0, .retAddr 0, .retAddr 0] [] (zSH ++ E, G) else if (x1 - x1 / 30 * 30) = 20 then zden 120 522 [.ref 0, .int x1, .ref b, .retAddr 0, .retAddr 0, .retAddr 0] [] (zSH ++ E, G) else if (x1 - x1 / 30 * 30) = 21 then zden 120 549 [.ref 0, .int x1, .ref b, .retAddr 0, .retAddr 0, .retAddr 0] [] (zSH ++ E, G) else if (x1 - x1 / 30 * 30) = 22 then zden 120 549 [.ref 0, .int x1, .ref b, .retAddr 0, .retAddr 0, .retAddr 0] [] (zSH ++ E, G) else if (x1 - x1 / 30 * 30) = 23 then zden 120 549 [.ref 0, .int x1, .ref b, .retAddr 0, .retAddr 0, .retAddr 0] [] (zSH ++ E, G) else if (x1 - x1 / 30 * 30) = 24 then zden 120 549 [.ref 0, .int x1, .ref b, .retAddr 0, .retAddr 0, .retAddr 0] [] (zSH ++ E, G) else if (x1 - x1 / 30 * 30) = 25 then zden 120 559 [.ref 0, .int x1, .ref b, .retAddr 0, .retAddr 0, .retAddr 0] [] (zSH ++ E, G) else if (x1 - x1 / 30 * 30) = 26 then zden 120 559 [.ref 0, .int x1, .ref b, .retAddr 0, .retAddr 0, .retAddr 0] [] (zSH ++ E, G) else zden 120 569 [.ref 0, .int x1, .ref b, .retAddr 0, .retAddr 0, .retAddr 0] [] (zSH ++ E, G) :=
  (zd_iload_n a_L_acts_0 rfl).trans ((zd_bipush (v := 30) a_L_acts_1 (by decide)).trans ((zd_irem a_L_acts_3 (by decide)).trans ((zd_tsw (td := 569) (L := [(0, 128), (1, 128), (2, 128), (3, 128), (4, 128), (5, 128), (6, 247), (7, 257), (8, 257), (9, 257), (10, 257), (11, 416), (12, 416), (13, 416), (14, 416), (15, 416), (16, 416), (17, 478), (18, 478), (19, 522), (20, 522), (21, 549), (22, 549), (23, 549), (24, 549), (25, 559), (26, 559)]) a_L_acts_4 rfl (by decide) (by decide)).trans (zitc (fun p857 => rfl) (fun p857 => zitc (fun p858 => rfl) (fun p858 => zitc (fun p859 => rfl) (fun p859 => zitc (fun p860 => rfl) (fun p860 => zitc (fun p861 => rfl) (fun p861 => zitc (fun p862 => rfl) (fun p862 => zitc (fun p863 => rfl) (fun p863 => zitc (fun p864 => rfl) (fun p864 => zitc (fun p865 => rfl) (fun p865 => zitc (fun p866 => rfl) (fun p866 => zitc (fun p867 => rfl) (fun p867 => zitc (fun p868 => rfl) (fun p868 => zitc (fun p869 => rfl) (fun p869 => zitc (fun p870 => rfl) (fun p870 => zitc (fun p871 => rfl) (fun p871 => zitc (fun p872 => rfl) (fun p872 => zitc (fun p873 => rfl) (fun p873 => zitc (fun p874 => rfl) (fun p874 => zitc (fun p875 => rfl) (fun p875 => zitc (fun p876 => rfl) (fun p876 => zitc (fun p877 => rfl) (fun p877 => zitc (fun p878 => rfl) (fun p878 => zitc (fun p879 => rfl) (fun p879 => zitc (fun p880 => rfl) (fun p880 => zitc (fun p881 => rfl) (fun p881 => zitc (fun p882 => rfl) (fun p882 => zitc (fun p883 => rfl) (fun p883 => rfl)))))))))))))))))))))))))))))))
theorem B_L_acts_128 {E : List zS} {G : Nat → Nat → Int32} {b : Nat} {x1 : Int32} (hb : (zSH ++ E)[b]? = some (.inl (8, [none]))) (hb9 : 90 ≤ b ∧ b < 1000000) : zden 120 128 [.ref 0, .int x1, .ref b, .retAddr 0, .retAddr 0, .retAddr 0] [] (zSH ++ E, G) = zaft 120 135 [.ref 0, .int x1, .ref b, .retAddr 0, .retAddr 0, .retAddr 0] [.ref 0] (zSH ++ E, G) (zden 106 0 [.ref b, .int 8] [] (zSH ++ E, G)) :=
  (zd_aload_n a_L_acts_128 rfl).trans ((zd_aload_n a_L_acts_129 rfl).trans ((zd_bipush (v := 8) a_L_acts_130 (by decide)).trans ((zd_cal (kd := 0) (tg := 106) (T := m_B_next) a_L_acts_132 (by decide +kernel) hm_B_next rfl rfl (zmay_objh hb rfl) rfl))))
theorem B_L_acts_135 {E : List zS} {G : Nat → Nat → Int32} {b : Nat} {x1 s0 : Int32} (hb : (zSH ++ E)[b]? = some (.inl (8, [none]))) (hb9 : 90 ≤ b ∧ b < 1000000) : zden 120 135 [.ref 0, .int x1, .ref b, .retAddr 0, .retAddr 0, .retAddr 0] [.int s0, .ref 0] (zSH ++ E, G) = if ¬ s0 = 0 then zaft 120 153 [.ref 0, .int x1, .ref b, .retAddr 0, .retAddr 0, .retAddr 0] [.int 1, .ref 0] (zSH ++ E, G) (zden 106 0 [.ref b, .int 98] [] (zSH ++ E, G)) else zaft 120 143 [.ref 0, .int x1, .ref b, .retAddr 0, .retAddr 0, .retAddr 0] [.ref 0] (zSH ++ E, G) (zden 121 0 [.ref 0, .ref b] [] (zSH ++ E, G)) :=
  (zd_if_ne a_L_acts_135 rfl).trans (zitc (fun p884 => (zd_iconst (v := 1) a_L_acts_146 (by decide)).trans ((zd_aload_n a_L_acts_147 rfl).trans ((zd_bipush (v := 98) a_L_acts_148 (by decide)).trans ((zd_cal (kd := 0) (tg := 106) (T := m_B_next) a_L_acts_150 (by decide +kernel) hm_B_next rfl rfl (zmay_objh hb rfl) rfl))))) (fun p884 => (zd_aload_n a_L_acts_138 rfl).trans ((zd_aload_n a_L_acts_139 rfl).trans ((zd_cal (kd := 1) (tg := 121) (T := m_L_someCode) a_L_acts_140 (by decide +kernel) hm_L_someCode rfl rfl rfl rfl)))))
theorem B_L_acts_143 {E : List zS} {G : Nat → Nat → Int32} {b : Nat} {x1 s0 : Int32} (hb : (zSH ++ E)[b]? = some (.inl (8, [none]))) (hb9 : 90 ≤ b ∧ b < 1000000) : zden 120 143 [.ref 0, .int x1, .ref b, .retAddr 0, .retAddr 0, .retAddr 0] [.int s0, .ref 0] (zSH ++ E, G) = zden 120 154 [.ref 0, .int x1, .ref b, .retAddr 0, .retAddr 0, .retAddr 0] [.int s0, .ref 0] (zSH ++ E, G) :=
  (zd_goto a_L_acts_143 rfl)
theorem B_L_acts_153 {E : List zS} {G : Nat → Nat → Int32} {b : Nat} {x1 s0 s1 : Int32} (hb : (zSH ++ E)[b]? = some (.inl (8, [none]))) (hb9 : 90 ≤ b ∧ b < 1000000) : zden 120 153 [.ref 0, .int x1, .ref b, .retAddr 0, .retAddr 0, .retAddr 0] [.int s0, .int s1, .ref 0] (zSH ++ E, G) = zden 120 154 [.ref 0, .int x1, .ref b, .retAddr 0, .retAddr 0, .retAddr 0] [.int (s1 + s0), .ref 0] (zSH ++ E, G) :=
  (zd_num (st2 := [.int (s1 + s0), .ref 0]) a_L_acts_153 rfl rfl rfl rfl)
theorem B_L_acts_154 {E : List zS} {G : Nat → Nat → Int32} {b : Nat} {x1 s0 : Int32} (hb : (zSH ++ E)[b]? = some (.inl (8, [none]))) (hb9 : 90 ≤ b ∧ b < 1000000) : zden 120 154 [.ref 0, .int x1, .ref b, .retAddr 0, .retAddr 0, .retAddr 0] [.int s0, .ref 0] (zSH ++ E, G) = zaft 120 161 [.ref 0, .int x1, .ref b, .retAddr 0, .retAddr 0, .retAddr 0] [.ref b, .int s0, .ref 0] (zSH ++ E, G) (zden 106 0 [.ref b, .int 12] [] (zSH ++ E, G)) :=
  (zd_aload_n a_L_acts_154 rfl).trans ((zd_aload_n a_L_acts_155 rfl).trans ((zd_bipush (v := 12) a_L_acts_156 (by decide)).trans ((zd_cal (kd := 0) (tg := 106) (T := m_B_next) a_L_acts_158 (by decide +kernel) hm_B_next rfl rfl (zmay_objh hb rfl) rfl))))
theorem B_L_acts_161 {E : List zS} {G : Nat → Nat → Int32} {b : Nat} {x1 s0 s2 : Int32} (hb : (zSH ++ E)[b]? = some (.inl (8, [none]))) (hb9 : 90 ≤ b ∧ b < 1000000) : zden 120 161 [.ref 0, .int x1, .ref b, .retAddr 0, .retAddr 0, .retAddr 0] [.int s0, .ref b, .int s2, .ref 0] (zSH ++ E, G) = if ¬ s0 = 0 then zden 120 170 [.ref 0, .int x1, .ref b, .retAddr 0, .retAddr 0, .retAddr 0] [.int 5, .ref b, .int s2, .ref 0] (zSH ++ E, G) else zden 120 170 [.ref 0, .int x1, .ref b, .retAddr 0, .retAddr 0, .retAddr 0] [.int 6, .ref b, .int s2, .ref 0] (zSH ++ E, G) :=
  (zd_if_ne a_L_acts_161 rfl).trans (zitc (fun p885 => (zd_iconst (v := 5) a_L_acts_169 (by decide))) (fun p885 => (zd_bipush (v := 6) a_L_acts_164 (by decide)).trans ((zd_goto a_L_acts_166 rfl))))
theorem B_L_acts_170 {E : List zS} {G : Nat → Nat → Int32} {b : Nat} {x1 s0 s2 : Int32} (hb : (zSH ++ E)[b]? = some (.inl (8, [none]))) (hb9 : 90 ≤ b ∧ b < 1000000) : zden 120 170 [.ref 0, .int x1, .ref b, .retAddr 0, .retAddr 0, .retAddr 0] [.int s0, .ref b, .int s2, .ref 0] (zSH ++ E, G) = zaft 120 173 [.ref 0, .int x1, .ref b, .retAddr 0, .retAddr 0, .retAddr 0] [.int s2, .ref 0] (zSH ++ E, G) (zden 106 0 [.ref b, .int s0] [] (zSH ++ E, G)) :=
  (zd_cal (kd := 0) (tg := 106) (T := m_B_next) a_L_acts_170 (by decide +kernel) hm_B_next rfl rfl (zmay_objh hb rfl) rfl)
theorem B_L_acts_173 {E : List zS} {G : Nat → Nat → Int32} {b : Nat} {x1 s0 s1 : Int32} (hb : (zSH ++ E)[b]? = some (.inl (8, [none]))) (hb9 : 90 ≤ b ∧ b < 1000000) : zden 120 173 [.ref 0, .int x1, .ref b, .retAddr 0, .retAddr 0, .retAddr 0] [.int s0, .int s1, .ref 0] (zSH ++ E, G) = zaft 120 180 [.ref 0, .int x1, .ref b, .retAddr 0, .retAddr 0, .retAddr 0] [.ref b, .int s0, .int s1, .ref 0] (zSH ++ E, G) (zden 106 0 [.ref b, .int 12] [] (zSH ++ E, G)) :=
  (zd_aload_n a_L_acts_173 rfl).trans ((zd_aload_n a_L_acts_174 rfl).trans ((zd_bipush (v := 12) a_L_acts_175 (by decide)).trans ((zd_cal (kd := 0) (tg := 106) (T := m_B_next) a_L_acts_177 (by decide +kernel) hm_B_next rfl rfl (zmay_objh hb rfl) rfl))))
theorem B_L_acts_180 {E : List zS} {G : Nat → Nat → Int32} {b : Nat} {x1 s0 s2 s3 : Int32} (hb : (zSH ++ E)[b]? = some (.inl (8, [none]))) (hb9 : 90 ≤ b ∧ b < 1000000) : zden 120 180 [.ref 0, .int x1, .ref b, .retAddr 0, .retAddr 0, .retAddr 0] [.int s0, .ref b, .int s2, .int s3, .ref 0] (zSH ++ E, G) = if ¬ s0 = 0 then zden 120 188 [.ref 0, .int x1, .ref b, .retAddr 0, .retAddr 0, .retAddr 0] [.int 4, .ref b, .int s2, .int s3, .ref 0] (zSH ++ E, G) else zden 120 188 [.ref 0, .int x1, .ref b, .retAddr 0, .retAddr 0, .retAddr 0] [.int 5, .ref b, .int s2, .int s3, .ref 0] (zSH ++ E, G) :=
  (zd_if_ne a_L_acts_180 rfl).trans (zitc (fun p886 => (zd_iconst (v := 4) a_L_acts_187 (by decide))) (fun p886 => (zd_iconst (v := 5) a_L_acts_183 (by decide)).trans ((zd_goto a_L_acts_184 rfl))))
theorem B_L_acts_188 {E : List zS} {G : Nat → Nat → Int32} {b : Nat} {x1 s0 s2 s3 : Int32} (hb : (zSH ++ E)[b]? = some (.inl (8, [none]))) (hb9 : 90 ≤ b ∧ b < 1000000) : zden 120 188 [.ref 0, .int x1, .ref b, .retAddr 0, .retAddr 0, .retAddr 0] [.int s0, .ref b, .int s2, .int s3, .ref 0] (zSH ++ E, G) = zaft 120 191 [.ref 0, .int x1, .ref b, .retAddr 0, .retAddr 0, .retAddr 0] [.int s2, .int s3, .ref 0] (zSH ++ E, G) (zden 106 0 [.ref b, .int s0] [] (zSH ++ E, G)) :=
  (zd_cal (kd := 0) (tg := 106) (T := m_B_next) a_L_acts_188 (by decide +kernel) hm_B_next rfl rfl (zmay_objh hb rfl) rfl)
theorem B_L_acts_191 {E : List zS} {G : Nat → Nat → Int32} {b : Nat} {x1 s0 s1 s2 : Int32} (hb : (zSH ++ E)[b]? = some (.inl (8, [none]))) (hb9 : 90 ≤ b ∧ b < 1000000) : zden 120 191 [.ref 0, .int x1, .ref b, .retAddr 0, .retAddr 0, .retAddr 0] [.int s0, .int s1, .int s2, .ref 0] (zSH ++ E, G) = zaft 120 198 [.ref 0, .int x1, .ref b, .retAddr 0, .retAddr 0, .retAddr 0] [.ref b, .int s0, .int s1, .int s2, .ref 0] (zSH ++ E, G) (zden 106 0 [.ref b, .int 12] [] (zSH ++ E, G)) :=
  (zd_aload_n a_L_acts_191 rfl).trans ((zd_aload_n a_L_acts_192 rfl).trans ((zd_bipush (v := 12) a_L_acts_193 (by decide)).trans ((zd_cal (kd := 0) (tg := 106) (T := m_B_next) a_L_acts_195 (by decide +kernel) hm_B_next rfl rfl (zmay_objh hb rfl) rfl))))
theorem B_L_acts_198 {E : List zS} {G : Nat → Nat → Int32} {b : Nat} {x1 s0 s2 s3 s4 : Int32} (hb : (zSH ++ E)[b]? = some (.inl (8, [none]))) (hb9 : 90 ≤ b ∧ b < 1000000) : zden 120 198 [.ref 0, .int x1, .ref b, .retAddr 0, .retAddr 0, .retAddr 0] [.int s0, .ref b, .int s2, .int s3, .int s4, .ref 0] (zSH ++ E, G) = if ¬ s0 = 0 then zden 120 208 [.ref 0, .int x1, .ref b, .retAddr 0, .retAddr 0, .retAddr 0] [.int 61, .ref b, .int s2, .int s3, .int s4, .ref 0] (zSH ++ E, G) else zden 120 208 [.ref 0, .int x1, .ref b, .retAddr 0, .retAddr 0, .retAddr 0] [.int 64, .ref b, .int s2, .int s3, .int s4, .ref 0] (zSH ++ E, G) :=
  (zd_if_ne a_L_acts_198 rfl).trans (zitc (fun p887 => (zd_bipush (v := 61) a_L_acts_206 (by decide))) (fun p887 => (zd_bipush (v := 64) a_L_acts_201 (by decide)).trans ((zd_goto a_L_acts_203 rfl))))
theorem B_L_acts_208 {E : List zS} {G : Nat → Nat → Int32} {b : Nat} {x1 s0 s2 s3 s4 : Int32} (hb : (zSH ++ E)[b]? = some (.inl (8, [none]))) (hb9 : 90 ≤ b ∧ b < 1000000) : zden 120 208 [.ref 0, .int x1, .ref b, .retAddr 0, .retAddr 0, .retAddr 0] [.int s0, .ref b, .int s2, .int s3, .int s4, .ref 0] (zSH ++ E, G) = zaft 120 211 [.ref 0, .int x1, .ref b, .retAddr 0, .retAddr 0, .retAddr 0] [.int s2, .int s3, .int s4, .ref 0] (zSH ++ E, G) (zden 106 0 [.ref b, .int s0] [] (zSH ++ E, G)) :=
  (zd_cal (kd := 0) (tg := 106) (T := m_B_next) a_L_acts_208 (by decide +kernel) hm_B_next rfl rfl (zmay_objh hb rfl) rfl)
theorem B_L_acts_211 {E : List zS} {G : Nat → Nat → Int32} {b : Nat} {x1 s0 s1 s2 s3 : Int32} (hb : (zSH ++ E)[b]? = some (.inl (8, [none]))) (hb9 : 90 ≤ b ∧ b < 1000000) : zden 120 211 [.ref 0, .int x1, .ref b, .retAddr 0, .retAddr 0, .retAddr 0] [.int s0, .int s1, .int s2, .int s3, .ref 0] (zSH ++ E, G) = zaft 120 216 [.ref 0, .int x1, .ref b, .retAddr 0, .retAddr 0, .retAddr 0] [.int s0, .int s1, .int s2, .int s3, .ref 0] (zSH ++ E, G) (zden 106 0 [.ref b, .int 3] [] (zSH ++ E, G)) :=
  (zd_aload_n a_L_acts_211 rfl).trans ((zd_iconst (v := 3) a_L_acts_212 (by decide)).trans ((zd_cal (kd := 0) (tg := 106) (T := m_B_next) a_L_acts_213 (by decide +kernel) hm_B_next rfl rfl (zmay_objh hb rfl) rfl)))
theorem B_L_acts_216 {E : List zS} {G : Nat → Nat → Int32} {b : Nat} {x1 s0 s1 s2 s3 s4 : Int32} (hb : (zSH ++ E)[b]? = some (.inl (8, [none]))) (hb9 : 90 ≤ b ∧ b < 1000000) : zden 120 216 [.ref 0, .int x1, .ref b, .retAddr 0, .retAddr 0, .retAddr 0] [.int s0, .int s1, .int s2, .int s3, .int s4, .ref 0] (zSH ++ E, G) = if ¬ s0 = 0 then zden 120 243 [.ref 0, .int x1, .ref b, .retAddr 0, .retAddr 0, .retAddr 0] [.int 0, .int s1, .int s2, .int s3, .int s4, .ref 0] (zSH ++ E, G) else zaft 120 226 [.ref 0, .int x1, .ref b, .retAddr 0, .retAddr 0, .retAddr 0] [.ref b, .int s1, .int s2, .int s3, .int s4, .ref 0] (zSH ++ E, G) (zden 106 0 [.ref b, .int 12] [] (zSH ++ E, G)) :=
  (zd_if_ne a_L_acts_216 rfl).trans (zitc (fun p888 => (zd_iconst (v := 0) a_L_acts_242 (by decide))) (fun p888 => (zd_aload_n a_L_acts_219 rfl).trans ((zd_aload_n a_L_acts_220 rfl).trans ((zd_bipush (v := 12) a_L_acts_221 (by decide)).trans ((zd_cal (kd := 0) (tg := 106) (T := m_B_next) a_L_acts_223 (by decide +kernel) hm_B_next rfl rfl (zmay_objh hb rfl) rfl))))))
theorem B_L_acts_226 {E : List zS} {G : Nat → Nat → Int32} {b : Nat} {x1 s0 s2 s3 s4 s5 : Int32} (hb : (zSH ++ E)[b]? = some (.inl (8, [none]))) (hb9 : 90 ≤ b ∧ b < 1000000) : zden 120 226 [.ref 0, .int x1, .ref b, .retAddr 0, .retAddr 0, .retAddr 0] [.int s0, .ref b, .int s2, .int s3, .int s4, .int s5, .ref 0] (zSH ++ E, G) = if ¬ s0 = 0 then zden 120 236 [.ref 0, .int x1, .ref b, .retAddr 0, .retAddr 0, .retAddr 0] [.int 20, .ref b, .int s2, .int s3, .int s4, .int s5, .ref 0] (zSH ++ E, G) else zden 120 236 [.ref 0, .int x1, .ref b, .retAddr 0, .retAddr 0, .retAddr 0] [.int 22, .ref b, .int s2, .int s3, .int s4, .int s5, .ref 0] (zSH ++ E, G) :=
  (zd_if_ne a_L_acts_226 rfl).trans (zitc (fun p889 => (zd_bipush (v := 20) a_L_acts_234 (by decide))) (fun p889 => (zd_bipush (v := 22) a_L_acts_229 (by decide)).trans ((zd_goto a_L_acts_231 rfl))))
theorem B_L_acts_236 {E : List zS} {G : Nat → Nat → Int32} {b : Nat} {x1 s0 s2 s3 s4 s5 : Int32} (hb : (zSH ++ E)[b]? = some (.inl (8, [none]))) (hb9 : 90 ≤ b ∧ b < 1000000) : zden 120 236 [.ref 0, .int x1, .ref b, .retAddr 0, .retAddr 0, .retAddr 0] [.int s0, .ref b, .int s2, .int s3, .int s4, .int s5, .ref 0] (zSH ++ E, G) = zaft 120 239 [.ref 0, .int x1, .ref b, .retAddr 0, .retAddr 0, .retAddr 0] [.int s2, .int s3, .int s4, .int s5, .ref 0] (zSH ++ E, G) (zden 106 0 [.ref b, .int s0] [] (zSH ++ E, G)) :=
  (zd_cal (kd := 0) (tg := 106) (T := m_B_next) a_L_acts_236 (by decide +kernel) hm_B_next rfl rfl (zmay_objh hb rfl) rfl)
theorem B_L_acts_239 {E : List zS} {G : Nat → Nat → Int32} {b : Nat} {x1 s0 s1 s2 s3 s4 : Int32} (hb : (zSH ++ E)[b]? = some (.inl (8, [none]))) (hb9 : 90 ≤ b ∧ b < 1000000) : zden 120 239 [.ref 0, .int x1, .ref b, .retAddr 0, .retAddr 0, .retAddr 0] [.int s0, .int s1, .int s2, .int s3, .int s4, .ref 0] (zSH ++ E, G) = zden 120 243 [.ref 0, .int x1, .ref b, .retAddr 0, .retAddr 0, .retAddr 0] [.int s0, .int s1, .int s2, .int s3, .int s4, .ref 0] (zSH ++ E, G) :=
  (zd_goto a_L_acts_239 rfl)
theorem B_L_acts_243 {E : List zS} {G : Nat → Nat → Int32} {b : Nat} {x1 s0 s1 s2 s3 s4 : Int32} (hb : (zSH ++ E)[b]? = some (.inl (8, [none]))) (hb9 : 90 ≤ b ∧ b < 1000000) : zden 120 243 [.ref 0, .int x1, .ref b, .retAddr 0, .retAddr 0, .retAddr 0] [.int s0, .int s1, .int s2, .int s3, .int s4, .ref 0] (zSH ++ E, G) = zaft 120 246 [.ref 0, .int x1, .ref b, .retAddr 0, .retAddr 0, .retAddr 0] [] (zSH ++ E, G) (zden 70 0 [.ref 0, .int s4, .int s3, .int s2, .int s1, .int s0] [] (zSH ++ E, G)) :=
  (zd_cal (kd := 0) (tg := 70) (T := m_T_heading) a_L_acts_243 (by decide +kernel) hm_T_heading rfl rfl (zmay_objh (zx_at sh_0) rfl) rfl)
theorem B_L_acts_246 {E : List zS} {G : Nat → Nat → Int32} {b : Nat} {x1 s0 : Int32} (hb : (zSH ++ E)[b]? = some (.inl (8, [none]))) (hb9 : 90 ≤ b ∧ b < 1000000) : zden 120 246 [.ref 0, .int x1, .ref b, .retAddr 0, .retAddr 0, .retAddr 0] [.int s0] (zSH ++ E, G) = some (some (.int s0), (zSH ++ E, G)) :=
  zd_iret a_L_acts_246 rfl (znr_int _)
theorem B_L_acts_247 {E : List zS} {G : Nat → Nat → Int32} {b : Nat} {x1 : Int32} (hb : (zSH ++ E)[b]? = some (.inl (8, [none]))) (hb9 : 90 ≤ b ∧ b < 1000000) : zden 120 247 [.ref 0, .int x1, .ref b, .retAddr 0, .retAddr 0, .retAddr 0] [] (zSH ++ E, G) = zaft 120 253 [.ref 0, .int x1, .ref b, .retAddr 0, .retAddr 0, .retAddr 0] [.ref 0] (zSH ++ E, G) (zden 121 0 [.ref 0, .ref b] [] (zSH ++ E, G)) :=
  (zd_aload_n a_L_acts_247 rfl).trans ((zd_aload_n a_L_acts_248 rfl).trans ((zd_aload_n a_L_acts_249 rfl).trans ((zd_cal (kd := 1) (tg := 121) (T := m_L_someCode) a_L_acts_250 (by decide +kernel) hm_L_someCode rfl rfl rfl rfl))))
theorem B_L_acts_253 {E : List zS} {G : Nat → Nat → Int32} {b : Nat} {x1 s0 : Int32} (hb : (zSH ++ E)[b]? = some (.inl (8, [none]))) (hb9 : 90 ≤ b ∧ b < 1000000) : zden 120 253 [.ref 0, .int x1, .ref b, .retAddr 0, .retAddr 0, .retAddr 0] [.int s0, .ref 0] (zSH ++ E, G) = zaft 120 256 [.ref 0, .int x1, .ref b, .retAddr 0, .retAddr 0, .retAddr 0] [] (zSH ++ E, G) (zden 72 0 [.ref 0, .int s0] [] (zSH ++ E, G)) :=
  (zd_cal (kd := 0) (tg := 72) (T := m_T_strike) a_L_acts_253 (by decide +kernel) hm_T_strike rfl rfl (zmay_objh (zx_at sh_0) rfl) rfl)
theorem B_L_acts_256 {E : List zS} {G : Nat → Nat → Int32} {b : Nat} {x1 s0 : Int32} (hb : (zSH ++ E)[b]? = some (.inl (8, [none]))) (hb9 : 90 ≤ b ∧ b < 1000000) : zden 120 256 [.ref 0, .int x1, .ref b, .retAddr 0, .retAddr 0, .retAddr 0] [.int s0] (zSH ++ E, G) = some (some (.int s0), (zSH ++ E, G)) :=
  zd_iret a_L_acts_256 rfl (znr_int _)
theorem B_L_acts_257 {E : List zS} {G : Nat → Nat → Int32} {b : Nat} {x1 : Int32} (hb : (zSH ++ E)[b]? = some (.inl (8, [none]))) (hb9 : 90 ≤ b ∧ b < 1000000) : zden 120 257 [.ref 0, .int x1, .ref b, .retAddr 0, .retAddr 0, .retAddr 0] [] (zSH ++ E, G) = zaft 120 263 [.ref 0, .int x1, .ref b, .retAddr 0, .retAddr 0, .retAddr 0] [.ref b] (zSH ++ E, G) (zden 106 0 [.ref b, .int 2] [] (zSH ++ E, G)) :=
  (zd_aload_n a_L_acts_257 rfl).trans ((zd_aload_n a_L_acts_258 rfl).trans ((zd_iconst (v := 2) a_L_acts_259 (by decide)).trans ((zd_cal (kd := 0) (tg := 106) (T := m_B_next) a_L_acts_260 (by decide +kernel) hm_B_next rfl rfl (zmay_objh hb rfl) rfl))))
theorem B_L_acts_263 {E : List zS} {G : Nat → Nat → Int32} {b : Nat} {x1 s0 : Int32} (hb : (zSH ++ E)[b]? = some (.inl (8, [none]))) (hb9 : 90 ≤ b ∧ b < 1000000) : zden 120 263 [.ref 0, .int x1, .ref b, .retAddr 0, .retAddr 0, .retAddr 0] [.int s0, .ref b] (zSH ++ E, G) = if ¬ s0 = 0 then zden 120 273 [.ref 0, .int x1, .ref b, .retAddr 0, .retAddr 0, .retAddr 0] [.int 51, .ref b] (zSH ++ E, G) else zden 120 273 [.ref 0, .int x1, .ref b, .retAddr 0, .retAddr 0, .retAddr 0] [.int 101, .ref b] (zSH ++ E, G) :=
  (zd_if_ne a_L_acts_263 rfl).trans (zitc (fun p890 => (zd_bipush (v := 51) a_L_acts_271 (by decide))) (fun p890 => (zd_bipush (v := 101) a_L_acts_266 (by decide)).trans ((zd_goto a_L_acts_268 rfl))))
theorem B_L_acts_273 {E : List zS} {G : Nat → Nat → Int32} {b : Nat} {x1 s0 : Int32} (hb : (zSH ++ E)[b]? = some (.inl (8, [none]))) (hb9 : 90 ≤ b ∧ b < 1000000) : zden 120 273 [.ref 0, .int x1, .ref b, .retAddr 0, .retAddr 0, .retAddr 0] [.int s0, .ref b] (zSH ++ E, G) = zaft 120 276 [.ref 0, .int x1, .ref b, .retAddr 0, .retAddr 0, .retAddr 0] [] (zSH ++ E, G) (zden 106 0 [.ref b, .int s0] [] (zSH ++ E, G)) :=
  (zd_cal (kd := 0) (tg := 106) (T := m_B_next) a_L_acts_273 (by decide +kernel) hm_B_next rfl rfl (zmay_objh hb rfl) rfl)
theorem B_L_acts_276 {E : List zS} {G : Nat → Nat → Int32} {b : Nat} {x1 s0 : Int32} (hb : (zSH ++ E)[b]? = some (.inl (8, [none]))) (hb9 : 90 ≤ b ∧ b < 1000000) : zden 120 276 [.ref 0, .int x1, .ref b, .retAddr 0, .retAddr 0, .retAddr 0] [.int s0] (zSH ++ E, G) = zaft 120 282 [.ref 0, .int x1, .ref b, .int s0, .retAddr 0, .retAddr 0] [] (zSH ++ E, G) (zden 106 0 [.ref b, .int 4] [] (zSH ++ E, G)) :=
  (zd_istore_n a_L_acts_276 rfl rfl rfl).trans ((zd_aload_n a_L_acts_277 rfl).trans ((zd_iconst (v := 4) a_L_acts_278 (by decide)).trans ((zd_cal (kd := 0) (tg := 106) (T := m_B_next) a_L_acts_279 (by decide +kernel) hm_B_next rfl rfl (zmay_objh hb rfl) rfl))))
theorem B_L_acts_282 {E : List zS} {G : Nat → Nat → Int32} {b : Nat} {x1 x3 s0 : Int32} (hb : (zSH ++ E)[b]? = some (.inl (8, [none]))) (hb9 : 90 ≤ b ∧ b < 1000000) : zden 120 282 [.ref 0, .int x1, .ref b, .int x3, .retAddr 0, .retAddr 0] [.int s0] (zSH ++ E, G) = if ¬ s0 = 0 then zaft 120 297 [.ref 0, .int x1, .ref b, .int x3, .retAddr 0, .retAddr 0] [] (zSH ++ E, G) (zden 106 0 [.ref b, .int (102 - x3)] [] (zSH ++ E, G)) else zden 120 297 [.ref 0, .int x1, .ref b, .int x3, .retAddr 0, .retAddr 0] [.int x3] (zSH ++ E, G) :=
  (zd_if_ne a_L_acts_282 rfl).trans (zitc (fun p891 => (zd_aload_n a_L_acts_289 rfl).trans ((zd_bipush (v := 102) a_L_acts_290 (by decide)).trans ((zd_iload_n a_L_acts_292 rfl).trans ((zd_num (st2 := [.int (102 - x3), .ref b]) a_L_acts_293 rfl rfl rfl rfl).trans ((zd_cal (kd := 0) (tg := 106) (T := m_B_next) a_L_acts_294 (by decide +kernel) hm_B_next rfl rfl (zmay_objh hb rfl) rfl)))))) (fun p891 => (zd_iload_n a_L_acts_285 rfl).trans ((zd_goto a_L_acts_286 rfl))))
theorem B_L_acts_297 {E : List zS} {G : Nat → Nat → Int32} {b : Nat} {x1 x3 s0 : Int32} (hb : (zSH ++ E)[b]? = some (.inl (8, [none]))) (hb9 : 90 ≤ b ∧ b < 1000000) : zden 120 297 [.ref 0, .int x1, .ref b, .int x3, .retAddr 0, .retAddr 0] [.int s0] (zSH ++ E, G) = zaft 120 304 [.ref 0, .int x1, .ref b, .int x3, .int s0, .retAddr 0] [] (zSH ++ E, G) (zden 106 0 [.ref b, .int 4] [] (zSH ++ E, G)) :=
  (zd_istore a_L_acts_297 rfl rfl rfl).trans ((zd_aload_n a_L_acts_299 rfl).trans ((zd_iconst (v := 4) a_L_acts_300 (by decide)).trans ((zd_cal (kd := 0) (tg := 106) (T := m_B_next) a_L_acts_301 (by decide +kernel) hm_B_next rfl rfl (zmay_objh hb rfl) rfl))))
theorem B_L_acts_304 {E : List zS} {G : Nat → Nat → Int32} {b : Nat} {x1 x3 x4 s0 : Int32} (hb : (zSH ++ E)[b]? = some (.inl (8, [none]))) (hb9 : 90 ≤ b ∧ b < 1000000) : zden 120 304 [.ref 0, .int x1, .ref b, .int x3, .int x4, .retAddr 0] [.int s0] (zSH ++ E, G) = if ¬ s0 = 0 then zaft 120 327 [.ref 0, .int x1, .ref b, .int x3, .int x4, .retAddr 0] [] (zSH ++ E, G) (zden 106 0 [.ref b, .int (if 1 < ((101 - x3) - x4) then (101 - x3) - x4 else 1)] [] (zSH ++ E, G)) else zden 120 327 [.ref 0, .int x1, .ref b, .int x3, .int x4, .retAddr 0] [.int x4] (zSH ++ E, G) :=
  (zd_if_ne a_L_acts_304 rfl).trans (zitc (fun p892 => (zd_aload_n a_L_acts_312 rfl).trans ((zd_iconst (v := 1) a_L_acts_313 (by decide)).trans ((zd_bipush (v := 101) a_L_acts_314 (by decide)).trans ((zd_iload_n a_L_acts_316 rfl).trans ((zd_num (st2 := [.int (101 - x3), .int 1, .ref b]) a_L_acts_317 rfl rfl rfl rfl).trans ((zd_iload a_L_acts_318 rfl).trans ((zd_num (st2 := [.int ((101 - x3) - x4), .int 1, .ref b]) a_L_acts_320 rfl rfl rfl rfl).trans ((zd_max a_L_acts_321 (by decide +kernel) (by decide +kernel) rfl).trans ((zd_cal (kd := 0) (tg := 106) (T := m_B_next) a_L_acts_324 (by decide +kernel) hm_B_next rfl rfl (zmay_objh hb rfl) rfl)))))))))) (fun p892 => (zd_iload a_L_acts_307 rfl).trans ((zd_goto a_L_acts_309 rfl))))
theorem B_L_acts_327 {E : List zS} {G : Nat → Nat → Int32} {b : Nat} {x1 x3 x4 s0 : Int32} (hb : (zSH ++ E)[b]? = some (.inl (8, [none]))) (hb9 : 90 ≤ b ∧ b < 1000000) : zden 120 327 [.ref 0, .int x1, .ref b, .int x3, .int x4, .retAddr 0] [.int s0] (zSH ++ E, G) = zaft 120 337 [.ref 0, .int x1, .ref b, .int x3, .int x4, .int s0] [.ref b, .ref 0] (zSH ++ E, G) (zden 106 0 [.ref b, .int 12] [] (zSH ++ E, G)) :=
  (zd_istore a_L_acts_327 rfl rfl rfl).trans ((zd_aload_n a_L_acts_329 rfl).trans ((zd_aload_n a_L_acts_330 rfl).trans ((zd_aload_n a_L_acts_331 rfl).trans ((zd_bipush (v := 12) a_L_acts_332 (by decide)).trans ((zd_cal (kd := 0) (tg := 106) (T := m_B_next) a_L_acts_334 (by decide +kernel) hm_B_next rfl rfl (zmay_objh hb rfl) rfl))))))
theorem B_L_acts_337 {E : List zS} {G : Nat → Nat → Int32} {b : Nat} {x1 x3 x4 x5 s0 : Int32} (hb : (zSH ++ E)[b]? = some (.inl (8, [none]))) (hb9 : 90 ≤ b ∧ b < 1000000) : zden 120 337 [.ref 0, .int x1, .ref b, .int x3, .int x4, .int x5] [.int s0, .ref b, .ref 0] (zSH ++ E, G) = if ¬ s0 = 0 then zden 120 345 [.ref 0, .int x1, .ref b, .int x3, .int x4, .int x5] [.int 3, .ref b, .ref 0] (zSH ++ E, G) else zden 120 345 [.ref 0, .int x1, .ref b, .int x3, .int x4, .int x5] [.int 4, .ref b, .ref 0] (zSH ++ E, G) :=
  (zd_if_ne a_L_acts_337 rfl).trans (zitc (fun p893 => (zd_iconst (v := 3) a_L_acts_344 (by decide))) (fun p893 => (zd_iconst (v := 4) a_L_acts_340 (by decide)).trans ((zd_goto a_L_acts_341 rfl))))
theorem B_L_acts_345 {E : List zS} {G : Nat → Nat → Int32} {b : Nat} {x1 x3 x4 x5 s0 : Int32} (hb : (zSH ++ E)[b]? = some (.inl (8, [none]))) (hb9 : 90 ≤ b ∧ b < 1000000) : zden 120 345 [.ref 0, .int x1, .ref b, .int x3, .int x4, .int x5] [.int s0, .ref b, .ref 0] (zSH ++ E, G) = zaft 120 348 [.ref 0, .int x1, .ref b, .int x3, .int x4, .int x5] [.ref 0] (zSH ++ E, G) (zden 106 0 [.ref b, .int s0] [] (zSH ++ E, G)) :=
  (zd_cal (kd := 0) (tg := 106) (T := m_B_next) a_L_acts_345 (by decide +kernel) hm_B_next rfl rfl (zmay_objh hb rfl) rfl)
theorem B_L_acts_348 {E : List zS} {G : Nat → Nat → Int32} {b : Nat} {x1 x3 x4 x5 s0 : Int32} (hb : (zSH ++ E)[b]? = some (.inl (8, [none]))) (hb9 : 90 ≤ b ∧ b < 1000000) : zden 120 348 [.ref 0, .int x1, .ref b, .int x3, .int x4, .int x5] [.int s0, .ref 0] (zSH ++ E, G) = zaft 120 355 [.ref 0, .int x1, .ref b, .int x3, .int x4, .int x5] [.ref b, .int s0, .ref 0] (zSH ++ E, G) (zden 106 0 [.ref b, .int 12] [] (zSH ++ E, G)) :=
  (zd_aload_n a_L_acts_348 rfl).trans ((zd_aload_n a_L_acts_349 rfl).trans ((zd_bipush (v := 12) a_L_acts_350 (by decide)).trans ((zd_cal (kd := 0) (tg := 106) (T := m_B_next) a_L_acts_352 (by decide +kernel) hm_B_next rfl rfl (zmay_objh hb rfl) rfl))))
theorem B_L_acts_355 {E : List zS} {G : Nat → Nat → Int32} {b : Nat} {x1 x3 x4 x5 s0 s2 : Int32} (hb : (zSH ++ E)[b]? = some (.inl (8, [none]))) (hb9 : 90 ≤ b ∧ b < 1000000) : zden 120 355 [.ref 0, .int x1, .ref b, .int x3, .int x4, .int x5] [.int s0, .ref b, .int s2, .ref 0] (zSH ++ E, G) = if ¬ s0 = 0 then zden 120 365 [.ref 0, .int x1, .ref b, .int x3, .int x4, .int x5] [.int 40, .ref b, .int s2, .ref 0] (zSH ++ E, G) else zden 120 365 [.ref 0, .int x1, .ref b, .int x3, .int x4, .int x5] [.int 101, .ref b, .int s2, .ref 0] (zSH ++ E, G) :=
  (zd_if_ne a_L_acts_355 rfl).trans (zitc (fun p894 => (zd_bipush (v := 40) a_L_acts_363 (by decide))) (fun p894 => (zd_bipush (v := 101) a_L_acts_358 (by decide)).trans ((zd_goto a_L_acts_360 rfl))))
theorem B_L_acts_365 {E : List zS} {G : Nat → Nat → Int32} {b : Nat} {x1 x3 x4 x5 s0 s2 : Int32} (hb : (zSH ++ E)[b]? = some (.inl (8, [none]))) (hb9 : 90 ≤ b ∧ b < 1000000) : zden 120 365 [.ref 0, .int x1, .ref b, .int x3, .int x4, .int x5] [.int s0, .ref b, .int s2, .ref 0] (zSH ++ E, G) = zaft 120 368 [.ref 0, .int x1, .ref b, .int x3, .int x4, .int x5] [.int s2, .ref 0] (zSH ++ E, G) (zden 106 0 [.ref b, .int s0] [] (zSH ++ E, G)) :=
  (zd_cal (kd := 0) (tg := 106) (T := m_B_next) a_L_acts_365 (by decide +kernel) hm_B_next rfl rfl (zmay_objh hb rfl) rfl)
theorem B_L_acts_368 {E : List zS} {G : Nat → Nat → Int32} {b : Nat} {x1 x3 x4 x5 s0 s1 : Int32} (hb : (zSH ++ E)[b]? = some (.inl (8, [none]))) (hb9 : 90 ≤ b ∧ b < 1000000) : zden 120 368 [.ref 0, .int x1, .ref b, .int x3, .int x4, .int x5] [.int s0, .int s1, .ref 0] (zSH ++ E, G) = zaft 120 374 [.ref 0, .int x1, .ref b, .int x3, .int x4, .int x5] [.int s0, .int s1, .ref 0] (zSH ++ E, G) (zden 106 0 [.ref b, .int 12] [] (zSH ++ E, G)) :=
  (zd_aload_n a_L_acts_368 rfl).trans ((zd_bipush (v := 12) a_L_acts_369 (by decide)).trans ((zd_cal (kd := 0) (tg := 106) (T := m_B_next) a_L_acts_371 (by decide +kernel) hm_B_next rfl rfl (zmay_objh hb rfl) rfl)))
theorem B_L_acts_374 {E : List zS} {G : Nat → Nat → Int32} {b : Nat} {x1 x3 x4 x5 s0 s1 s2 : Int32} (hb : (zSH ++ E)[b]? = some (.inl (8, [none]))) (hb9 : 90 ≤ b ∧ b < 1000000) : zden 120 374 [.ref 0, .int x1, .ref b, .int x3, .int x4, .int x5] [.int s0, .int s1, .int s2, .ref 0] (zSH ++ E, G) = if ¬ s0 = 0 then zden 120 382 [.ref 0, .int x1, .ref b, .int x3, .int x4, .int x5] [.int 1, .int s1, .int s2, .ref 0] (zSH ++ E, G) else zden 120 382 [.ref 0, .int x1, .ref b, .int x3, .int x4, .int x5] [.int 0, .int s1, .int s2, .ref 0] (zSH ++ E, G) :=
  (zd_if_ne a_L_acts_374 rfl).trans (zitc (fun p895 => (zd_iconst (v := 1) a_L_acts_381 (by decide))) (fun p895 => (zd_iconst (v := 0) a_L_acts_377 (by decide)).trans ((zd_goto a_L_acts_378 rfl))))
theorem B_L_acts_382 {E : List zS} {G : Nat → Nat → Int32} {b : Nat} {x1 x3 x4 x5 s0 s1 s2 : Int32} (hb : (zSH ++ E)[b]? = some (.inl (8, [none]))) (hb9 : 90 ≤ b ∧ b < 1000000) : zden 120 382 [.ref 0, .int x1, .ref b, .int x3, .int x4, .int x5] [.int s0, .int s1, .int s2, .ref 0] (zSH ++ E, G) = zaft 120 391 [.ref 0, .int x1, .ref b, .int x3, .int x4, .int x5] [.ref b, .int 1, .int (s1 + s0), .int s2, .ref 0] (zSH ++ E, G) (zden 106 0 [.ref b, .int 12] [] (zSH ++ E, G)) :=
  (zd_num (st2 := [.int (s1 + s0), .int s2, .ref 0]) a_L_acts_382 rfl rfl rfl rfl).trans ((zd_iconst (v := 1) a_L_acts_383 (by decide)).trans ((zd_aload_n a_L_acts_384 rfl).trans ((zd_aload_n a_L_acts_385 rfl).trans ((zd_bipush (v := 12) a_L_acts_386 (by decide)).trans ((zd_cal (kd := 0) (tg := 106) (T := m_B_next) a_L_acts_388 (by decide +kernel) hm_B_next rfl rfl (zmay_objh hb rfl) rfl))))))
theorem B_L_acts_391 {E : List zS} {G : Nat → Nat → Int32} {b : Nat} {x1 x3 x4 x5 s0 s2 s3 s4 : Int32} (hb : (zSH ++ E)[b]? = some (.inl (8, [none]))) (hb9 : 90 ≤ b ∧ b < 1000000) : zden 120 391 [.ref 0, .int x1, .ref b, .int x3, .int x4, .int x5] [.int s0, .ref b, .int s2, .int s3, .int s4, .ref 0] (zSH ++ E, G) = if ¬ s0 = 0 then zden 120 403 [.ref 0, .int x1, .ref b, .int x3, .int x4, .int x5] [.int 400, .ref b, .int s2, .int s3, .int s4, .ref 0] (zSH ++ E, G) else zden 120 403 [.ref 0, .int x1, .ref b, .int x3, .int x4, .int x5] [.int 1001, .ref b, .int s2, .int s3, .int s4, .ref 0] (zSH ++ E, G) :=
  (zd_if_ne a_L_acts_391 rfl).trans (zitc (fun p896 => (zd_sipush (v := 400) a_L_acts_400 (by decide))) (fun p896 => (zd_sipush (v := 1001) a_L_acts_394 (by decide)).trans ((zd_goto a_L_acts_397 rfl))))
theorem B_L_acts_403 {E : List zS} {G : Nat → Nat → Int32} {b : Nat} {x1 x3 x4 x5 s0 s2 s3 s4 : Int32} (hb : (zSH ++ E)[b]? = some (.inl (8, [none]))) (hb9 : 90 ≤ b ∧ b < 1000000) : zden 120 403 [.ref 0, .int x1, .ref b, .int x3, .int x4, .int x5] [.int s0, .ref b, .int s2, .int s3, .int s4, .ref 0] (zSH ++ E, G) = zaft 120 406 [.ref 0, .int x1, .ref b, .int x3, .int x4, .int x5] [.int s2, .int s3, .int s4, .ref 0] (zSH ++ E, G) (zden 106 0 [.ref b, .int s0] [] (zSH ++ E, G)) :=
  (zd_cal (kd := 0) (tg := 106) (T := m_B_next) a_L_acts_403 (by decide +kernel) hm_B_next rfl rfl (zmay_objh hb rfl) rfl)
theorem B_L_acts_406 {E : List zS} {G : Nat → Nat → Int32} {b : Nat} {x1 x3 x4 x5 s0 s1 s2 s3 : Int32} (hb : (zSH ++ E)[b]? = some (.inl (8, [none]))) (hb9 : 90 ≤ b ∧ b < 1000000) : zden 120 406 [.ref 0, .int x1, .ref b, .int x3, .int x4, .int x5] [.int s0, .int s1, .int s2, .int s3, .ref 0] (zSH ++ E, G) = zaft 120 415 [.ref 0, .int x1, .ref b, .int x3, .int x4, .int x5] [] (zSH ++ E, G) (zden 75 0 [.ref 0, .int s3, .int s2, .int (s1 + s0), .int x3, .int x4, .int x5] [] (zSH ++ E, G)) :=
  (zd_num (st2 := [.int (s1 + s0), .int s2, .int s3, .ref 0]) a_L_acts_406 rfl rfl rfl rfl).trans ((zd_iload_n a_L_acts_407 rfl).trans ((zd_iload a_L_acts_408 rfl).trans ((zd_iload a_L_acts_410 rfl).trans ((zd_cal (kd := 0) (tg := 75) (T := m_T_good) a_L_acts_412 (by decide +kernel) hm_T_good rfl rfl (zmay_objh (zx_at sh_0) rfl) rfl)))))
theorem B_L_acts_415 {E : List zS} {G : Nat → Nat → Int32} {b : Nat} {x1 x3 x4 x5 s0 : Int32} (hb : (zSH ++ E)[b]? = some (.inl (8, [none]))) (hb9 : 90 ≤ b ∧ b < 1000000) : zden 120 415 [.ref 0, .int x1, .ref b, .int x3, .int x4, .int x5] [.int s0] (zSH ++ E, G) = some (some (.int s0), (zSH ++ E, G)) :=
  zd_iret a_L_acts_415 rfl (znr_int _)
theorem B_L_acts_416 {E : List zS} {G : Nat → Nat → Int32} {b : Nat} {x1 : Int32} (hb : (zSH ++ E)[b]? = some (.inl (8, [none]))) (hb9 : 90 ≤ b ∧ b < 1000000) : zden 120 416 [.ref 0, .int x1, .ref b, .retAddr 0, .retAddr 0, .retAddr 0] [] (zSH ++ E, G) = zaft 120 422 [.ref 0, .int x1, .ref b, .retAddr 0, .retAddr 0, .retAddr 0] [.ref 0] (zSH ++ E, G) (zden 122 0 [.ref 0, .ref b] [] (zSH ++ E, G)) :=
  (zd_aload_n a_L_acts_416 rfl).trans ((zd_aload_n a_L_acts_417 rfl).trans ((zd_aload_n a_L_acts_418 rfl).trans ((zd_cal (kd := 1) (tg := 122) (T := m_L_some) a_L_acts_419 (by decide +kernel) hm_L_some rfl rfl rfl rfl))))
theorem B_L_acts_422 {E : List zS} {G : Nat → Nat → Int32} {b : Nat} {x1 s0 : Int32} (hb : (zSH ++ E)[b]? = some (.inl (8, [none]))) (hb9 : 90 ≤ b ∧ b < 1000000) : zden 120 422 [.ref 0, .int x1, .ref b, .retAddr 0, .retAddr 0, .retAddr 0] [.int s0, .ref 0] (zSH ++ E, G) = zaft 120 429 [.ref 0, .int x1, .ref b, .retAddr 0, .retAddr 0, .retAddr 0] [.ref b, .int s0, .ref 0] (zSH ++ E, G) (zden 106 0 [.ref b, .int 12] [] (zSH ++ E, G)) :=
  (zd_aload_n a_L_acts_422 rfl).trans ((zd_aload_n a_L_acts_423 rfl).trans ((zd_bipush (v := 12) a_L_acts_424 (by decide)).trans ((zd_cal (kd := 0) (tg := 106) (T := m_B_next) a_L_acts_426 (by decide +kernel) hm_B_next rfl rfl (zmay_objh hb rfl) rfl))))
theorem B_L_acts_429 {E : List zS} {G : Nat → Nat → Int32} {b : Nat} {x1 s0 s2 : Int32} (hb : (zSH ++ E)[b]? = some (.inl (8, [none]))) (hb9 : 90 ≤ b ∧ b < 1000000) : zden 120 429 [.ref 0, .int x1, .ref b, .retAddr 0, .retAddr 0, .retAddr 0] [.int s0, .ref b, .int s2, .ref 0] (zSH ++ E, G) = if ¬ s0 = 0 then zden 120 438 [.ref 0, .int x1, .ref b, .retAddr 0, .retAddr 0, .retAddr 0] [.int 3, .ref b, .int s2, .ref 0] (zSH ++ E, G) else zden 120 438 [.ref 0, .int x1, .ref b, .retAddr 0, .retAddr 0, .retAddr 0] [.int 6, .ref b, .int s2, .ref 0] (zSH ++ E, G) :=
  (zd_if_ne a_L_acts_429 rfl).trans (zitc (fun p897 => (zd_iconst (v := 3) a_L_acts_437 (by decide))) (fun p897 => (zd_bipush (v := 6) a_L_acts_432 (by decide)).trans ((zd_goto a_L_acts_434 rfl))))
theorem B_L_acts_438 {E : List zS} {G : Nat → Nat → Int32} {b : Nat} {x1 s0 s2 : Int32} (hb : (zSH ++ E)[b]? = some (.inl (8, [none]))) (hb9 : 90 ≤ b ∧ b < 1000000) : zden 120 438 [.ref 0, .int x1, .ref b, .retAddr 0, .retAddr 0, .retAddr 0] [.int s0, .ref b, .int s2, .ref 0] (zSH ++ E, G) = zaft 120 441 [.ref 0, .int x1, .ref b, .retAddr 0, .retAddr 0, .retAddr 0] [.int s2, .ref 0] (zSH ++ E, G) (zden 106 0 [.ref b, .int s0] [] (zSH ++ E, G)) :=
  (zd_cal (kd := 0) (tg := 106) (T := m_B_next) a_L_acts_438 (by decide +kernel) hm_B_next rfl rfl (zmay_objh hb rfl) rfl)
theorem B_L_acts_441 {E : List zS} {G : Nat → Nat → Int32} {b : Nat} {x1 s0 s1 : Int32} (hb : (zSH ++ E)[b]? = some (.inl (8, [none]))) (hb9 : 90 ≤ b ∧ b < 1000000) : zden 120 441 [.ref 0, .int x1, .ref b, .retAddr 0, .retAddr 0, .retAddr 0] [.int s0, .int s1, .ref 0] (zSH ++ E, G) = zaft 120 446 [.ref 0, .int x1, .ref b, .retAddr 0, .retAddr 0, .retAddr 0] [.int s0, .int s1, .ref 0] (zSH ++ E, G) (zden 106 0 [.ref b, .int 2] [] (zSH ++ E, G)) :=
  (zd_aload_n a_L_acts_441 rfl).trans ((zd_iconst (v := 2) a_L_acts_442 (by decide)).trans ((zd_cal (kd := 0) (tg := 106) (T := m_B_next) a_L_acts_443 (by decide +kernel) hm_B_next rfl rfl (zmay_objh hb rfl) rfl)))
theorem B_L_acts_446 {E : List zS} {G : Nat → Nat → Int32} {b : Nat} {x1 s0 s1 s2 : Int32} (hb : (zSH ++ E)[b]? = some (.inl (8, [none]))) (hb9 : 90 ≤ b ∧ b < 1000000) : zden 120 446 [.ref 0, .int x1, .ref b, .retAddr 0, .retAddr 0, .retAddr 0] [.int s0, .int s1, .int s2, .ref 0] (zSH ++ E, G) = if ¬ s0 = 0 then zaft 120 461 [.ref 0, .int x1, .ref b, .retAddr 0, .retAddr 0, .retAddr 0] [.ref b, .int s1, .int s2, .ref 0] (zSH ++ E, G) (zden 106 0 [.ref b, .int 12] [] (zSH ++ E, G)) else zden 120 474 [.ref 0, .int x1, .ref b, .retAddr 0, .retAddr 0, .retAddr 0] [.int 10, .int s1, .int s2, .ref 0] (zSH ++ E, G) :=
  (zd_if_ne a_L_acts_446 rfl).trans (zitc (fun p898 => (zd_aload_n a_L_acts_454 rfl).trans ((zd_aload_n a_L_acts_455 rfl).trans ((zd_bipush (v := 12) a_L_acts_456 (by decide)).trans ((zd_cal (kd := 0) (tg := 106) (T := m_B_next) a_L_acts_458 (by decide +kernel) hm_B_next rfl rfl (zmay_objh hb rfl) rfl))))) (fun p898 => (zd_bipush (v := 10) a_L_acts_449 (by decide)).trans ((zd_goto a_L_acts_451 rfl))))
theorem B_L_acts_461 {E : List zS} {G : Nat → Nat → Int32} {b : Nat} {x1 s0 s2 s3 : Int32} (hb : (zSH ++ E)[b]? = some (.inl (8, [none]))) (hb9 : 90 ≤ b ∧ b < 1000000) : zden 120 461 [.ref 0, .int x1, .ref b, .retAddr 0, .retAddr 0, .retAddr 0] [.int s0, .ref b, .int s2, .int s3, .ref 0] (zSH ++ E, G) = if ¬ s0 = 0 then zden 120 471 [.ref 0, .int x1, .ref b, .retAddr 0, .retAddr 0, .retAddr 0] [.int 30, .ref b, .int s2, .int s3, .ref 0] (zSH ++ E, G) else zden 120 471 [.ref 0, .int x1, .ref b, .retAddr 0, .retAddr 0, .retAddr 0] [.int 101, .ref b, .int s2, .int s3, .ref 0] (zSH ++ E, G) :=
  (zd_if_ne a_L_acts_461 rfl).trans (zitc (fun p899 => (zd_bipush (v := 30) a_L_acts_469 (by decide))) (fun p899 => (zd_bipush (v := 101) a_L_acts_464 (by decide)).trans ((zd_goto a_L_acts_466 rfl))))
theorem B_L_acts_471 {E : List zS} {G : Nat → Nat → Int32} {b : Nat} {x1 s0 s2 s3 : Int32} (hb : (zSH ++ E)[b]? = some (.inl (8, [none]))) (hb9 : 90 ≤ b ∧ b < 1000000) : zden 120 471 [.ref 0, .int x1, .ref b, .retAddr 0, .retAddr 0, .retAddr 0] [.int s0, .ref b, .int s2, .int s3, .ref 0] (zSH ++ E, G) = zaft 120 474 [.ref 0, .int x1, .ref b, .retAddr 0, .retAddr 0, .retAddr 0] [.int s2, .int s3, .ref 0] (zSH ++ E, G) (zden 106 0 [.ref b, .int s0] [] (zSH ++ E, G)) :=
  (zd_cal (kd := 0) (tg := 106) (T := m_B_next) a_L_acts_471 (by decide +kernel) hm_B_next rfl rfl (zmay_objh hb rfl) rfl)
theorem B_L_acts_474 {E : List zS} {G : Nat → Nat → Int32} {b : Nat} {x1 s0 s1 s2 : Int32} (hb : (zSH ++ E)[b]? = some (.inl (8, [none]))) (hb9 : 90 ≤ b ∧ b < 1000000) : zden 120 474 [.ref 0, .int x1, .ref b, .retAddr 0, .retAddr 0, .retAddr 0] [.int s0, .int s1, .int s2, .ref 0] (zSH ++ E, G) = zaft 120 477 [.ref 0, .int x1, .ref b, .retAddr 0, .retAddr 0, .retAddr 0] [] (zSH ++ E, G) (zden 76 0 [.ref 0, .int s2, .int s1, .int s0] [] (zSH ++ E, G)) :=
  (zd_cal (kd := 0) (tg := 76) (T := m_T_work) a_L_acts_474 (by decide +kernel) hm_T_work rfl rfl (zmay_objh (zx_at sh_0) rfl) rfl)
theorem B_L_acts_477 {E : List zS} {G : Nat → Nat → Int32} {b : Nat} {x1 s0 : Int32} (hb : (zSH ++ E)[b]? = some (.inl (8, [none]))) (hb9 : 90 ≤ b ∧ b < 1000000) : zden 120 477 [.ref 0, .int x1, .ref b, .retAddr 0, .retAddr 0, .retAddr 0] [.int s0] (zSH ++ E, G) = some (some (.int s0), (zSH ++ E, G)) :=
  zd_iret a_L_acts_477 rfl (znr_int _)
theorem B_L_acts_478 {E : List zS} {G : Nat → Nat → Int32} {b : Nat} {x1 : Int32} (hb : (zSH ++ E)[b]? = some (.inl (8, [none]))) (hb9 : 90 ≤ b ∧ b < 1000000) : zden 120 478 [.ref 0, .int x1, .ref b, .retAddr 0, .retAddr 0, .retAddr 0] [] (zSH ++ E, G) = zaft 120 486 [.ref 0, .int x1, .ref b, .retAddr 0, .retAddr 0, .retAddr 0] [.ref b, .ref 0] (zSH ++ E, G) (zden 106 0 [.ref b, .int 12] [] (zSH ++ E, G)) :=
  (zd_aload_n a_L_acts_478 rfl).trans ((zd_aload_n a_L_acts_479 rfl).trans ((zd_aload_n a_L_acts_480 rfl).trans ((zd_bipush (v := 12) a_L_acts_481 (by decide)).trans ((zd_cal (kd := 0) (tg := 106) (T := m_B_next) a_L_acts_483 (by decide +kernel) hm_B_next rfl rfl (zmay_objh hb rfl) rfl)))))
theorem B_L_acts_486 {E : List zS} {G : Nat → Nat → Int32} {b : Nat} {x1 s0 : Int32} (hb : (zSH ++ E)[b]? = some (.inl (8, [none]))) (hb9 : 90 ≤ b ∧ b < 1000000) : zden 120 486 [.ref 0, .int x1, .ref b, .retAddr 0, .retAddr 0, .retAddr 0] [.int s0, .ref b, .ref 0] (zSH ++ E, G) = if ¬ s0 = 0 then zden 120 495 [.ref 0, .int x1, .ref b, .retAddr 0, .retAddr 0, .retAddr 0] [.int 3, .ref b, .ref 0] (zSH ++ E, G) else zden 120 495 [.ref 0, .int x1, .ref b, .retAddr 0, .retAddr 0, .retAddr 0] [.int 6, .ref b, .ref 0] (zSH ++ E, G) :=
  (zd_if_ne a_L_acts_486 rfl).trans (zitc (fun p900 => (zd_iconst (v := 3) a_L_acts_494 (by decide))) (fun p900 => (zd_bipush (v := 6) a_L_acts_489 (by decide)).trans ((zd_goto a_L_acts_491 rfl))))
theorem B_L_acts_495 {E : List zS} {G : Nat → Nat → Int32} {b : Nat} {x1 s0 : Int32} (hb : (zSH ++ E)[b]? = some (.inl (8, [none]))) (hb9 : 90 ≤ b ∧ b < 1000000) : zden 120 495 [.ref 0, .int x1, .ref b, .retAddr 0, .retAddr 0, .retAddr 0] [.int s0, .ref b, .ref 0] (zSH ++ E, G) = zaft 120 498 [.ref 0, .int x1, .ref b, .retAddr 0, .retAddr 0, .retAddr 0] [.ref 0] (zSH ++ E, G) (zden 106 0 [.ref b, .int s0] [] (zSH ++ E, G)) :=
  (zd_cal (kd := 0) (tg := 106) (T := m_B_next) a_L_acts_495 (by decide +kernel) hm_B_next rfl rfl (zmay_objh hb rfl) rfl)
theorem B_L_acts_498 {E : List zS} {G : Nat → Nat → Int32} {b : Nat} {x1 s0 : Int32} (hb : (zSH ++ E)[b]? = some (.inl (8, [none]))) (hb9 : 90 ≤ b ∧ b < 1000000) : zden 120 498 [.ref 0, .int x1, .ref b, .retAddr 0, .retAddr 0, .retAddr 0] [.int s0, .ref 0] (zSH ++ E, G) = zaft 120 505 [.ref 0, .int x1, .ref b, .retAddr 0, .retAddr 0, .retAddr 0] [.ref b, .int s0, .ref 0] (zSH ++ E, G) (zden 106 0 [.ref b, .int 12] [] (zSH ++ E, G)) :=
  (zd_aload_n a_L_acts_498 rfl).trans ((zd_aload_n a_L_acts_499 rfl).trans ((zd_bipush (v := 12) a_L_acts_500 (by decide)).trans ((zd_cal (kd := 0) (tg := 106) (T := m_B_next) a_L_acts_502 (by decide +kernel) hm_B_next rfl rfl (zmay_objh hb rfl) rfl))))
theorem B_L_acts_505 {E : List zS} {G : Nat → Nat → Int32} {b : Nat} {x1 s0 s2 : Int32} (hb : (zSH ++ E)[b]? = some (.inl (8, [none]))) (hb9 : 90 ≤ b ∧ b < 1000000) : zden 120 505 [.ref 0, .int x1, .ref b, .retAddr 0, .retAddr 0, .retAddr 0] [.int s0, .ref b, .int s2, .ref 0] (zSH ++ E, G) = if ¬ s0 = 0 then zden 120 515 [.ref 0, .int x1, .ref b, .retAddr 0, .retAddr 0, .retAddr 0] [.int 101, .ref b, .int s2, .ref 0] (zSH ++ E, G) else zden 120 515 [.ref 0, .int x1, .ref b, .retAddr 0, .retAddr 0, .retAddr 0] [.int 103, .ref b, .int s2, .ref 0] (zSH ++ E, G) :=
  (zd_if_ne a_L_acts_505 rfl).trans (zitc (fun p901 => (zd_bipush (v := 101) a_L_acts_513 (by decide))) (fun p901 => (zd_bipush (v := 103) a_L_acts_508 (by decide)).trans ((zd_goto a_L_acts_510 rfl))))
theorem B_L_acts_515 {E : List zS} {G : Nat → Nat → Int32} {b : Nat} {x1 s0 s2 : Int32} (hb : (zSH ++ E)[b]? = some (.inl (8, [none]))) (hb9 : 90 ≤ b ∧ b < 1000000) : zden 120 515 [.ref 0, .int x1, .ref b, .retAddr 0, .retAddr 0, .retAddr 0] [.int s0, .ref b, .int s2, .ref 0] (zSH ++ E, G) = zaft 120 518 [.ref 0, .int x1, .ref b, .retAddr 0, .retAddr 0, .retAddr 0] [.int s2, .ref 0] (zSH ++ E, G) (zden 106 0 [.ref b, .int s0] [] (zSH ++ E, G)) :=
  (zd_cal (kd := 0) (tg := 106) (T := m_B_next) a_L_acts_515 (by decide +kernel) hm_B_next rfl rfl (zmay_objh hb rfl) rfl)
theorem B_L_acts_518 {E : List zS} {G : Nat → Nat → Int32} {b : Nat} {x1 s0 s1 : Int32} (hb : (zSH ++ E)[b]? = some (.inl (8, [none]))) (hb9 : 90 ≤ b ∧ b < 1000000) : zden 120 518 [.ref 0, .int x1, .ref b, .retAddr 0, .retAddr 0, .retAddr 0] [.int s0, .int s1, .ref 0] (zSH ++ E, G) = zaft 120 521 [.ref 0, .int x1, .ref b, .retAddr 0, .retAddr 0, .retAddr 0] [] (zSH ++ E, G) (zden 84 0 [.ref 0, .int s1, .int s0] [] (zSH ++ E, G)) :=
  (zd_cal (kd := 0) (tg := 84) (T := m_T_favour) a_L_acts_518 (by decide +kernel) hm_T_favour rfl rfl (zmay_objh (zx_at sh_0) rfl) rfl)
theorem B_L_acts_521 {E : List zS} {G : Nat → Nat → Int32} {b : Nat} {x1 s0 : Int32} (hb : (zSH ++ E)[b]? = some (.inl (8, [none]))) (hb9 : 90 ≤ b ∧ b < 1000000) : zden 120 521 [.ref 0, .int x1, .ref b, .retAddr 0, .retAddr 0, .retAddr 0] [.int s0] (zSH ++ E, G) = some (some (.int s0), (zSH ++ E, G)) :=
  zd_iret a_L_acts_521 rfl (znr_int _)
theorem B_L_acts_522 {E : List zS} {G : Nat → Nat → Int32} {b : Nat} {x1 : Int32} (hb : (zSH ++ E)[b]? = some (.inl (8, [none]))) (hb9 : 90 ≤ b ∧ b < 1000000) : zden 120 522 [.ref 0, .int x1, .ref b, .retAddr 0, .retAddr 0, .retAddr 0] [] (zSH ++ E, G) = zaft 120 529 [.ref 0, .int x1, .ref b, .retAddr 0, .retAddr 0, .retAddr 0] [.ref 0] (zSH ++ E, G) (zden 106 0 [.ref b, .int 12] [] (zSH ++ E, G)) :=
  (zd_aload_n a_L_acts_522 rfl).trans ((zd_aload_n a_L_acts_523 rfl).trans ((zd_bipush (v := 12) a_L_acts_524 (by decide)).trans ((zd_cal (kd := 0) (tg := 106) (T := m_B_next) a_L_acts_526 (by decide +kernel) hm_B_next rfl rfl (zmay_objh hb rfl) rfl))))
theorem B_L_acts_529 {E : List zS} {G : Nat → Nat → Int32} {b : Nat} {x1 s0 : Int32} (hb : (zSH ++ E)[b]? = some (.inl (8, [none]))) (hb9 : 90 ≤ b ∧ b < 1000000) : zden 120 529 [.ref 0, .int x1, .ref b, .retAddr 0, .retAddr 0, .retAddr 0] [.int s0, .ref 0] (zSH ++ E, G) = if ¬ s0 = 0 then zaft 120 544 [.ref 0, .int x1, .ref b, .retAddr 0, .retAddr 0, .retAddr 0] [.int 1, .ref 0] (zSH ++ E, G) (zden 106 0 [.ref b, .int 300] [] (zSH ++ E, G)) else zden 120 545 [.ref 0, .int x1, .ref b, .retAddr 0, .retAddr 0, .retAddr 0] [.int 0, .ref 0] (zSH ++ E, G) :=
  (zd_if_ne a_L_acts_529 rfl).trans (zitc (fun p902 => (zd_iconst (v := 1) a_L_acts_536 (by decide)).trans ((zd_aload_n a_L_acts_537 rfl).trans ((zd_sipush (v := 300) a_L_acts_538 (by decide)).trans ((zd_cal (kd := 0) (tg := 106) (T := m_B_next) a_L_acts_541 (by decide +kernel) hm_B_next rfl rfl (zmay_objh hb rfl) rfl))))) (fun p902 => (zd_iconst (v := 0) a_L_acts_532 (by decide)).trans ((zd_goto a_L_acts_533 rfl))))
theorem B_L_acts_544 {E : List zS} {G : Nat → Nat → Int32} {b : Nat} {x1 s0 s1 : Int32} (hb : (zSH ++ E)[b]? = some (.inl (8, [none]))) (hb9 : 90 ≤ b ∧ b < 1000000) : zden 120 544 [.ref 0, .int x1, .ref b, .retAddr 0, .retAddr 0, .retAddr 0] [.int s0, .int s1, .ref 0] (zSH ++ E, G) = zden 120 545 [.ref 0, .int x1, .ref b, .retAddr 0, .retAddr 0, .retAddr 0] [.int (s1 + s0), .ref 0] (zSH ++ E, G) :=
  (zd_num (st2 := [.int (s1 + s0), .ref 0]) a_L_acts_544 rfl rfl rfl rfl)
theorem B_L_acts_545 {E : List zS} {G : Nat → Nat → Int32} {b : Nat} {x1 s0 : Int32} (hb : (zSH ++ E)[b]? = some (.inl (8, [none]))) (hb9 : 90 ≤ b ∧ b < 1000000) : zden 120 545 [.ref 0, .int x1, .ref b, .retAddr 0, .retAddr 0, .retAddr 0] [.int s0, .ref 0] (zSH ++ E, G) = zaft 120 548 [.ref 0, .int x1, .ref b, .retAddr 0, .retAddr 0, .retAddr 0] [] (zSH ++ E, G) (zden 85 0 [.ref 0, .int s0] [] (zSH ++ E, G)) :=
  (zd_cal (kd := 0) (tg := 85) (T := m_T_coins) a_L_acts_545 (by decide +kernel) hm_T_coins rfl rfl (zmay_objh (zx_at sh_0) rfl) rfl)
theorem B_L_acts_548 {E : List zS} {G : Nat → Nat → Int32} {b : Nat} {x1 s0 : Int32} (hb : (zSH ++ E)[b]? = some (.inl (8, [none]))) (hb9 : 90 ≤ b ∧ b < 1000000) : zden 120 548 [.ref 0, .int x1, .ref b, .retAddr 0, .retAddr 0, .retAddr 0] [.int s0] (zSH ++ E, G) = some (some (.int s0), (zSH ++ E, G)) :=
  zd_iret a_L_acts_548 rfl (znr_int _)
theorem B_L_acts_549 {E : List zS} {G : Nat → Nat → Int32} {b : Nat} {x1 : Int32} (hb : (zSH ++ E)[b]? = some (.inl (8, [none]))) (hb9 : 90 ≤ b ∧ b < 1000000) : zden 120 549 [.ref 0, .int x1, .ref b, .retAddr 0, .retAddr 0, .retAddr 0] [] (zSH ++ E, G) = zaft 120 555 [.ref 0, .int x1, .ref b, .retAddr 0, .retAddr 0, .retAddr 0] [.ref 0] (zSH ++ E, G) (zden 122 0 [.ref 0, .ref b] [] (zSH ++ E, G)) :=
  (zd_aload_n a_L_acts_549 rfl).trans ((zd_aload_n a_L_acts_550 rfl).trans ((zd_aload_n a_L_acts_551 rfl).trans ((zd_cal (kd := 1) (tg := 122) (T := m_L_some) a_L_acts_552 (by decide +kernel) hm_L_some rfl rfl rfl rfl))))
theorem B_L_acts_555 {E : List zS} {G : Nat → Nat → Int32} {b : Nat} {x1 s0 : Int32} (hb : (zSH ++ E)[b]? = some (.inl (8, [none]))) (hb9 : 90 ≤ b ∧ b < 1000000) : zden 120 555 [.ref 0, .int x1, .ref b, .retAddr 0, .retAddr 0, .retAddr 0] [.int s0, .ref 0] (zSH ++ E, G) = zaft 120 558 [.ref 0, .int x1, .ref b, .retAddr 0, .retAddr 0, .retAddr 0] [] (zSH ++ E, G) (zden 86 0 [.ref 0, .int s0] [] (zSH ++ E, G)) :=
  (zd_cal (kd := 0) (tg := 86) (T := m_T_enter) a_L_acts_555 (by decide +kernel) hm_T_enter rfl rfl (zmay_objh (zx_at sh_0) rfl) rfl)
theorem B_L_acts_558 {E : List zS} {G : Nat → Nat → Int32} {b : Nat} {x1 s0 : Int32} (hb : (zSH ++ E)[b]? = some (.inl (8, [none]))) (hb9 : 90 ≤ b ∧ b < 1000000) : zden 120 558 [.ref 0, .int x1, .ref b, .retAddr 0, .retAddr 0, .retAddr 0] [.int s0] (zSH ++ E, G) = some (some (.int s0), (zSH ++ E, G)) :=
  zd_iret a_L_acts_558 rfl (znr_int _)
theorem B_L_acts_559 {E : List zS} {G : Nat → Nat → Int32} {b : Nat} {x1 : Int32} (hb : (zSH ++ E)[b]? = some (.inl (8, [none]))) (hb9 : 90 ≤ b ∧ b < 1000000) : zden 120 559 [.ref 0, .int x1, .ref b, .retAddr 0, .retAddr 0, .retAddr 0] [] (zSH ++ E, G) = zaft 120 565 [.ref 0, .int x1, .ref b, .retAddr 0, .retAddr 0, .retAddr 0] [.ref 0] (zSH ++ E, G) (zden 122 0 [.ref 0, .ref b] [] (zSH ++ E, G)) :=
  (zd_aload_n a_L_acts_559 rfl).trans ((zd_aload_n a_L_acts_560 rfl).trans ((zd_aload_n a_L_acts_561 rfl).trans ((zd_cal (kd := 1) (tg := 122) (T := m_L_some) a_L_acts_562 (by decide +kernel) hm_L_some rfl rfl rfl rfl))))
theorem B_L_acts_565 {E : List zS} {G : Nat → Nat → Int32} {b : Nat} {x1 s0 : Int32} (hb : (zSH ++ E)[b]? = some (.inl (8, [none]))) (hb9 : 90 ≤ b ∧ b < 1000000) : zden 120 565 [.ref 0, .int x1, .ref b, .retAddr 0, .retAddr 0, .retAddr 0] [.int s0, .ref 0] (zSH ++ E, G) = zaft 120 568 [.ref 0, .int x1, .ref b, .retAddr 0, .retAddr 0, .retAddr 0] [] (zSH ++ E, G) (zden 87 0 [.ref 0, .int s0] [] (zSH ++ E, G)) :=
  (zd_cal (kd := 0) (tg := 87) (T := m_T_export) a_L_acts_565 (by decide +kernel) hm_T_export rfl rfl (zmay_objh (zx_at sh_0) rfl) rfl)
theorem B_L_acts_568 {E : List zS} {G : Nat → Nat → Int32} {b : Nat} {x1 s0 : Int32} (hb : (zSH ++ E)[b]? = some (.inl (8, [none]))) (hb9 : 90 ≤ b ∧ b < 1000000) : zden 120 568 [.ref 0, .int x1, .ref b, .retAddr 0, .retAddr 0, .retAddr 0] [.int s0] (zSH ++ E, G) = some (some (.int s0), (zSH ++ E, G)) :=
  zd_iret a_L_acts_568 rfl (znr_int _)
theorem B_L_acts_569 {E : List zS} {G : Nat → Nat → Int32} {b : Nat} {x1 : Int32} (hb : (zSH ++ E)[b]? = some (.inl (8, [none]))) (hb9 : 90 ≤ b ∧ b < 1000000) : zden 120 569 [.ref 0, .int x1, .ref b, .retAddr 0, .retAddr 0, .retAddr 0] [] (zSH ++ E, G) = zaft 120 576 [.ref 0, .int x1, .ref b, .retAddr 0, .retAddr 0, .retAddr 0] [.ref 0] (zSH ++ E, G) (zden 106 0 [.ref b, .int 12] [] (zSH ++ E, G)) :=
  (zd_aload_n a_L_acts_569 rfl).trans ((zd_aload_n a_L_acts_570 rfl).trans ((zd_bipush (v := 12) a_L_acts_571 (by decide)).trans ((zd_cal (kd := 0) (tg := 106) (T := m_B_next) a_L_acts_573 (by decide +kernel) hm_B_next rfl rfl (zmay_objh hb rfl) rfl))))
theorem B_L_acts_576 {E : List zS} {G : Nat → Nat → Int32} {b : Nat} {x1 s0 : Int32} (hb : (zSH ++ E)[b]? = some (.inl (8, [none]))) (hb9 : 90 ≤ b ∧ b < 1000000) : zden 120 576 [.ref 0, .int x1, .ref b, .retAddr 0, .retAddr 0, .retAddr 0] [.int s0, .ref 0] (zSH ++ E, G) = if ¬ s0 = 0 then zaft 120 591 [.ref 0, .int x1, .ref b, .retAddr 0, .retAddr 0, .retAddr 0] [.ref b, .int 1, .ref 0] (zSH ++ E, G) (zden 106 0 [.ref b, .int 3] [] (zSH ++ E, G)) else zden 120 605 [.ref 0, .int x1, .ref b, .retAddr 0, .retAddr 0, .retAddr 0] [.int 100, .ref 0] (zSH ++ E, G) :=
  (zd_if_ne a_L_acts_576 rfl).trans (zitc (fun p903 => (zd_iconst (v := 1) a_L_acts_584 (by decide)).trans ((zd_aload_n a_L_acts_585 rfl).trans ((zd_aload_n a_L_acts_586 rfl).trans ((zd_iconst (v := 3) a_L_acts_587 (by decide)).trans ((zd_cal (kd := 0) (tg := 106) (T := m_B_next) a_L_acts_588 (by decide +kernel) hm_B_next rfl rfl (zmay_objh hb rfl) rfl)))))) (fun p903 => (zd_bipush (v := 100) a_L_acts_579 (by decide)).trans ((zd_goto a_L_acts_581 rfl))))
theorem B_L_acts_591 {E : List zS} {G : Nat → Nat → Int32} {b : Nat} {x1 s0 s2 : Int32} (hb : (zSH ++ E)[b]? = some (.inl (8, [none]))) (hb9 : 90 ≤ b ∧ b < 1000000) : zden 120 591 [.ref 0, .int x1, .ref b, .retAddr 0, .retAddr 0, .retAddr 0] [.int s0, .ref b, .int s2, .ref 0] (zSH ++ E, G) = if ¬ s0 = 0 then zden 120 601 [.ref 0, .int x1, .ref b, .retAddr 0, .retAddr 0, .retAddr 0] [.int 9, .ref b, .int s2, .ref 0] (zSH ++ E, G) else zden 120 601 [.ref 0, .int x1, .ref b, .retAddr 0, .retAddr 0, .retAddr 0] [.int 40, .ref b, .int s2, .ref 0] (zSH ++ E, G) :=
  (zd_if_ne a_L_acts_591 rfl).trans (zitc (fun p904 => (zd_bipush (v := 9) a_L_acts_599 (by decide))) (fun p904 => (zd_bipush (v := 40) a_L_acts_594 (by decide)).trans ((zd_goto a_L_acts_596 rfl))))
theorem B_L_acts_601 {E : List zS} {G : Nat → Nat → Int32} {b : Nat} {x1 s0 s2 : Int32} (hb : (zSH ++ E)[b]? = some (.inl (8, [none]))) (hb9 : 90 ≤ b ∧ b < 1000000) : zden 120 601 [.ref 0, .int x1, .ref b, .retAddr 0, .retAddr 0, .retAddr 0] [.int s0, .ref b, .int s2, .ref 0] (zSH ++ E, G) = zaft 120 604 [.ref 0, .int x1, .ref b, .retAddr 0, .retAddr 0, .retAddr 0] [.int s2, .ref 0] (zSH ++ E, G) (zden 106 0 [.ref b, .int s0] [] (zSH ++ E, G)) :=
  (zd_cal (kd := 0) (tg := 106) (T := m_B_next) a_L_acts_601 (by decide +kernel) hm_B_next rfl rfl (zmay_objh hb rfl) rfl)
theorem B_L_acts_604 {E : List zS} {G : Nat → Nat → Int32} {b : Nat} {x1 s0 s1 : Int32} (hb : (zSH ++ E)[b]? = some (.inl (8, [none]))) (hb9 : 90 ≤ b ∧ b < 1000000) : zden 120 604 [.ref 0, .int x1, .ref b, .retAddr 0, .retAddr 0, .retAddr 0] [.int s0, .int s1, .ref 0] (zSH ++ E, G) = zden 120 605 [.ref 0, .int x1, .ref b, .retAddr 0, .retAddr 0, .retAddr 0] [.int (s1 + s0), .ref 0] (zSH ++ E, G) :=
  (zd_num (st2 := [.int (s1 + s0), .ref 0]) a_L_acts_604 rfl rfl rfl rfl)
theorem B_L_acts_605 {E : List zS} {G : Nat → Nat → Int32} {b : Nat} {x1 s0 : Int32} (hb : (zSH ++ E)[b]? = some (.inl (8, [none]))) (hb9 : 90 ≤ b ∧ b < 1000000) : zden 120 605 [.ref 0, .int x1, .ref b, .retAddr 0, .retAddr 0, .retAddr 0] [.int s0, .ref 0] (zSH ++ E, G) = zaft 120 608 [.ref 0, .int x1, .ref b, .retAddr 0, .retAddr 0, .retAddr 0] [] (zSH ++ E, G) (zden 88 0 [.ref 0, .int s0] [] (zSH ++ E, G)) :=
  (zd_cal (kd := 0) (tg := 88) (T := m_T_days) a_L_acts_605 (by decide +kernel) hm_T_days rfl rfl (zmay_objh (zx_at sh_0) rfl) rfl)
theorem B_L_acts_608 {E : List zS} {G : Nat → Nat → Int32} {b : Nat} {x1 s0 : Int32} (hb : (zSH ++ E)[b]? = some (.inl (8, [none]))) (hb9 : 90 ≤ b ∧ b < 1000000) : zden 120 608 [.ref 0, .int x1, .ref b, .retAddr 0, .retAddr 0, .retAddr 0] [.int s0] (zSH ++ E, G) = some (some (.int s0), (zSH ++ E, G)) :=
  zd_iret a_L_acts_608 rfl (znr_int _)
