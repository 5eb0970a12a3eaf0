-- 27: blocks of the model: switches, text, lines (written by wip/whole/gen26.py)
theorem hm_M_account : zms[k_M_account]? = some m_M_account := rfl
theorem hm_M_append : zms[k_M_append]? = some m_M_append := rfl
theorem hm_M_behind : zms[k_M_behind]? = some m_M_behind := rfl
theorem hm_M_character : zms[k_M_character]? = some m_M_character := rfl
theorem hm_M_digits : zms[k_M_digits]? = some m_M_digits := rfl
theorem hm_M_does : zms[k_M_does]? = some m_M_does := rfl
theorem hm_M_goodOf : zms[k_M_goodOf]? = some m_M_goodOf := rfl
theorem hm_M_goodTold : zms[k_M_goodTold]? = some m_M_goodTold := rfl
theorem hm_M_headTold : zms[k_M_headTold]? = some m_M_headTold := rfl
theorem hm_M_letter : zms[k_M_letter]? = some m_M_letter := rfl
theorem hm_M_mark : zms[k_M_mark]? = some m_M_mark := rfl
theorem hm_M_next : zms[k_M_next]? = some m_M_next := rfl
theorem hm_M_order : zms[k_M_order]? = some m_M_order := rfl
theorem hm_M_orders : zms[k_M_orders]? = some m_M_orders := rfl
theorem hm_M_run : zms[k_M_run]? = some m_M_run := rfl
theorem hm_M_tell : zms[k_M_tell]? = some m_M_tell := rfl
theorem hm_M_tellHeading : zms[k_M_tellHeading]? = some m_M_tellHeading := rfl
theorem hm_M_word : zms[k_M_word]? = some m_M_word := rfl
theorem hm_M_writes : zms[k_M_writes]? = some m_M_writes := rfl
theorem hm_M_writesNumber : zms[k_M_writesNumber]? = some m_M_writesNumber := rfl
theorem a_M_goodOf_0 : zAt 132 0 m_M_goodOf (.aload_n 0) 1 := ⟨hm_M_goodOf, by decide +kernel⟩
theorem a_M_goodOf_1 : zAt 132 1 m_M_goodOf (.iload_n 1) 1 := ⟨hm_M_goodOf, by decide +kernel⟩
theorem a_M_goodOf_2 : zAt 132 2 m_M_goodOf (.invokevirtual 114) 3 := ⟨hm_M_goodOf, by decide +kernel⟩
theorem a_M_goodOf_5 : zAt 132 5 m_M_goodOf (.ifCond .ne 6) 3 := ⟨hm_M_goodOf, by decide +kernel⟩
theorem a_M_goodOf_8 : zAt 132 8 m_M_goodOf (.bipush (-11)) 2 := ⟨hm_M_goodOf, by decide +kernel⟩
theorem a_M_goodOf_10 : zAt 132 10 m_M_goodOf (.ireturn) 1 := ⟨hm_M_goodOf, by decide +kernel⟩
theorem a_M_goodOf_11 : zAt 132 11 m_M_goodOf (.iload_n 2) 1 := ⟨hm_M_goodOf, by decide +kernel⟩
theorem a_M_goodOf_12 : zAt 132 12 m_M_goodOf (.tableswitch 173 0 10 #[60, 60, 60, 71, 83, 89, 108, 120, 131, 131, 142]) 60 := ⟨hm_M_goodOf, by decide +kernel⟩
theorem a_M_goodOf_72 : zAt 132 72 m_M_goodOf (.aload_n 0) 1 := ⟨hm_M_goodOf, by decide +kernel⟩
theorem a_M_goodOf_73 : zAt 132 73 m_M_goodOf (.getfield 7) 3 := ⟨hm_M_goodOf, by decide +kernel⟩
theorem a_M_goodOf_76 : zAt 132 76 m_M_goodOf (.iload_n 1) 1 := ⟨hm_M_goodOf, by decide +kernel⟩
theorem a_M_goodOf_77 : zAt 132 77 m_M_goodOf (.iload_n 2) 1 := ⟨hm_M_goodOf, by decide +kernel⟩
theorem a_M_goodOf_78 : zAt 132 78 m_M_goodOf (.invokestatic 91) 3 := ⟨hm_M_goodOf, by decide +kernel⟩
theorem a_M_goodOf_81 : zAt 132 81 m_M_goodOf (.iaload) 1 := ⟨hm_M_goodOf, by decide +kernel⟩
theorem a_M_goodOf_82 : zAt 132 82 m_M_goodOf (.ireturn) 1 := ⟨hm_M_goodOf, by decide +kernel⟩
theorem a_M_goodOf_83 : zAt 132 83 m_M_goodOf (.aload_n 0) 1 := ⟨hm_M_goodOf, by decide +kernel⟩
theorem a_M_goodOf_84 : zAt 132 84 m_M_goodOf (.getfield 7) 3 := ⟨hm_M_goodOf, by decide +kernel⟩
theorem a_M_goodOf_87 : zAt 132 87 m_M_goodOf (.iload_n 1) 1 := ⟨hm_M_goodOf, by decide +kernel⟩
theorem a_M_goodOf_88 : zAt 132 88 m_M_goodOf (.bipush 7) 2 := ⟨hm_M_goodOf, by decide +kernel⟩
theorem a_M_goodOf_90 : zAt 132 90 m_M_goodOf (.invokestatic 91) 3 := ⟨hm_M_goodOf, by decide +kernel⟩
theorem a_M_goodOf_93 : zAt 132 93 m_M_goodOf (.iaload) 1 := ⟨hm_M_goodOf, by decide +kernel⟩
theorem a_M_goodOf_94 : zAt 132 94 m_M_goodOf (.ireturn) 1 := ⟨hm_M_goodOf, by decide +kernel⟩
theorem a_M_goodOf_95 : zAt 132 95 m_M_goodOf (.aload_n 0) 1 := ⟨hm_M_goodOf, by decide +kernel⟩
theorem a_M_goodOf_96 : zAt 132 96 m_M_goodOf (.iload_n 1) 1 := ⟨hm_M_goodOf, by decide +kernel⟩
theorem a_M_goodOf_97 : zAt 132 97 m_M_goodOf (.invokevirtual 94) 3 := ⟨hm_M_goodOf, by decide +kernel⟩
theorem a_M_goodOf_100 : zAt 132 100 m_M_goodOf (.ireturn) 1 := ⟨hm_M_goodOf, by decide +kernel⟩
theorem a_M_goodOf_101 : zAt 132 101 m_M_goodOf (.aload_n 0) 1 := ⟨hm_M_goodOf, by decide +kernel⟩
theorem a_M_goodOf_102 : zAt 132 102 m_M_goodOf (.iload_n 1) 1 := ⟨hm_M_goodOf, by decide +kernel⟩
theorem a_M_goodOf_103 : zAt 132 103 m_M_goodOf (.invokevirtual 125) 3 := ⟨hm_M_goodOf, by decide +kernel⟩
theorem a_M_goodOf_106 : zAt 132 106 m_M_goodOf (.ifCond .ge 8) 3 := ⟨hm_M_goodOf, by decide +kernel⟩
theorem a_M_goodOf_109 : zAt 132 109 m_M_goodOf (.bipush (-15)) 2 := ⟨hm_M_goodOf, by decide +kernel⟩
theorem a_M_goodOf_111 : zAt 132 111 m_M_goodOf (.goto 8) 3 := ⟨hm_M_goodOf, by decide +kernel⟩
theorem a_M_goodOf_114 : zAt 132 114 m_M_goodOf (.aload_n 0) 1 := ⟨hm_M_goodOf, by decide +kernel⟩
theorem a_M_goodOf_115 : zAt 132 115 m_M_goodOf (.iload_n 1) 1 := ⟨hm_M_goodOf, by decide +kernel⟩
theorem a_M_goodOf_116 : zAt 132 116 m_M_goodOf (.invokevirtual 125) 3 := ⟨hm_M_goodOf, by decide +kernel⟩
theorem a_M_goodOf_119 : zAt 132 119 m_M_goodOf (.ireturn) 1 := ⟨hm_M_goodOf, by decide +kernel⟩
theorem a_M_goodOf_120 : zAt 132 120 m_M_goodOf (.aload_n 0) 1 := ⟨hm_M_goodOf, by decide +kernel⟩
theorem a_M_goodOf_121 : zAt 132 121 m_M_goodOf (.aload_n 0) 1 := ⟨hm_M_goodOf, by decide +kernel⟩
theorem a_M_goodOf_122 : zAt 132 122 m_M_goodOf (.iload_n 1) 1 := ⟨hm_M_goodOf, by decide +kernel⟩
theorem a_M_goodOf_123 : zAt 132 123 m_M_goodOf (.iconst 0) 1 := ⟨hm_M_goodOf, by decide +kernel⟩
theorem a_M_goodOf_124 : zAt 132 124 m_M_goodOf (.invokevirtual 104) 3 := ⟨hm_M_goodOf, by decide +kernel⟩
theorem a_M_goodOf_127 : zAt 132 127 m_M_goodOf (.iconst 0) 1 := ⟨hm_M_goodOf, by decide +kernel⟩
theorem a_M_goodOf_128 : zAt 132 128 m_M_goodOf (.invokevirtual 68) 3 := ⟨hm_M_goodOf, by decide +kernel⟩
theorem a_M_goodOf_131 : zAt 132 131 m_M_goodOf (.ireturn) 1 := ⟨hm_M_goodOf, by decide +kernel⟩
theorem a_M_goodOf_132 : zAt 132 132 m_M_goodOf (.aload_n 0) 1 := ⟨hm_M_goodOf, by decide +kernel⟩
theorem a_M_goodOf_133 : zAt 132 133 m_M_goodOf (.iload_n 1) 1 := ⟨hm_M_goodOf, by decide +kernel⟩
theorem a_M_goodOf_134 : zAt 132 134 m_M_goodOf (.aload_n 0) 1 := ⟨hm_M_goodOf, by decide +kernel⟩
theorem a_M_goodOf_135 : zAt 132 135 m_M_goodOf (.iload_n 1) 1 := ⟨hm_M_goodOf, by decide +kernel⟩
theorem a_M_goodOf_136 : zAt 132 136 m_M_goodOf (.invokevirtual 125) 3 := ⟨hm_M_goodOf, by decide +kernel⟩
theorem a_M_goodOf_139 : zAt 132 139 m_M_goodOf (.invokevirtual 128) 3 := ⟨hm_M_goodOf, by decide +kernel⟩
theorem a_M_goodOf_142 : zAt 132 142 m_M_goodOf (.ireturn) 1 := ⟨hm_M_goodOf, by decide +kernel⟩
theorem a_M_goodOf_143 : zAt 132 143 m_M_goodOf (.aload_n 0) 1 := ⟨hm_M_goodOf, by decide +kernel⟩
theorem a_M_goodOf_144 : zAt 132 144 m_M_goodOf (.getfield 7) 3 := ⟨hm_M_goodOf, by decide +kernel⟩
theorem a_M_goodOf_147 : zAt 132 147 m_M_goodOf (.iload_n 1) 1 := ⟨hm_M_goodOf, by decide +kernel⟩
theorem a_M_goodOf_148 : zAt 132 148 m_M_goodOf (.iload_n 2) 1 := ⟨hm_M_goodOf, by decide +kernel⟩
theorem a_M_goodOf_149 : zAt 132 149 m_M_goodOf (.invokestatic 91) 3 := ⟨hm_M_goodOf, by decide +kernel⟩
theorem a_M_goodOf_152 : zAt 132 152 m_M_goodOf (.iaload) 1 := ⟨hm_M_goodOf, by decide +kernel⟩
theorem a_M_goodOf_153 : zAt 132 153 m_M_goodOf (.ireturn) 1 := ⟨hm_M_goodOf, by decide +kernel⟩
theorem a_M_goodOf_154 : zAt 132 154 m_M_goodOf (.aload_n 0) 1 := ⟨hm_M_goodOf, by decide +kernel⟩
theorem a_M_goodOf_155 : zAt 132 155 m_M_goodOf (.getfield 7) 3 := ⟨hm_M_goodOf, by decide +kernel⟩
theorem a_M_goodOf_158 : zAt 132 158 m_M_goodOf (.iload_n 1) 1 := ⟨hm_M_goodOf, by decide +kernel⟩
theorem a_M_goodOf_159 : zAt 132 159 m_M_goodOf (.bipush 10) 2 := ⟨hm_M_goodOf, by decide +kernel⟩
theorem a_M_goodOf_161 : zAt 132 161 m_M_goodOf (.invokestatic 91) 3 := ⟨hm_M_goodOf, by decide +kernel⟩
theorem a_M_goodOf_164 : zAt 132 164 m_M_goodOf (.iaload) 1 := ⟨hm_M_goodOf, by decide +kernel⟩
theorem a_M_goodOf_165 : zAt 132 165 m_M_goodOf (.ifCond .ge 8) 3 := ⟨hm_M_goodOf, by decide +kernel⟩
theorem a_M_goodOf_168 : zAt 132 168 m_M_goodOf (.bipush (-15)) 2 := ⟨hm_M_goodOf, by decide +kernel⟩
theorem a_M_goodOf_170 : zAt 132 170 m_M_goodOf (.goto 14) 3 := ⟨hm_M_goodOf, by decide +kernel⟩
theorem a_M_goodOf_173 : zAt 132 173 m_M_goodOf (.aload_n 0) 1 := ⟨hm_M_goodOf, by decide +kernel⟩
theorem a_M_goodOf_174 : zAt 132 174 m_M_goodOf (.getfield 7) 3 := ⟨hm_M_goodOf, by decide +kernel⟩
theorem a_M_goodOf_177 : zAt 132 177 m_M_goodOf (.iload_n 1) 1 := ⟨hm_M_goodOf, by decide +kernel⟩
theorem a_M_goodOf_178 : zAt 132 178 m_M_goodOf (.bipush 10) 2 := ⟨hm_M_goodOf, by decide +kernel⟩
theorem a_M_goodOf_180 : zAt 132 180 m_M_goodOf (.invokestatic 91) 3 := ⟨hm_M_goodOf, by decide +kernel⟩
theorem a_M_goodOf_183 : zAt 132 183 m_M_goodOf (.iaload) 1 := ⟨hm_M_goodOf, by decide +kernel⟩
theorem a_M_goodOf_184 : zAt 132 184 m_M_goodOf (.ireturn) 1 := ⟨hm_M_goodOf, by decide +kernel⟩
theorem a_M_goodOf_185 : zAt 132 185 m_M_goodOf (.bipush (-12)) 2 := ⟨hm_M_goodOf, by decide +kernel⟩
theorem a_M_goodOf_187 : zAt 132 187 m_M_goodOf (.ireturn) 1 := ⟨hm_M_goodOf, by decide +kernel⟩
theorem B_M_goodOf_0 {G : Nat → Nat → Int32} {x1 x2 : Int32} : zden 132 0 [.ref 90, .int x1, .int x2] [] (zSH, G) = if ¬ (bI (0 ≤ x1 ∧ x1 ≤ G 91 2 - 1)) = 0 then if x2 = 0 then zden 132 72 [.ref 90, .int x1, .int x2] [] (zSH, G) else if x2 = 1 then zden 132 72 [.ref 90, .int x1, .int x2] [] (zSH, G) else if x2 = 2 then zden 132 72 [.ref 90, .int x1, .int x2] [] (zSH, G) else if x2 = 3 then zden 132 83 [.ref 90, .int x1, .int x2] [] (zSH, G) else if x2 = 4 then zden 132 95 [.ref 90, .int x1, .int x2] [] (zSH, G) else if x2 = 5 then zden 132 101 [.ref 90, .int x1, .int x2] [] (zSH, G) else if x2 = 6 then zden 132 120 [.ref 90, .int x1, .int x2] [] (zSH, G) else if x2 = 7 then zden 132 132 [.ref 90, .int x1, .int x2] [] (zSH, G) else if x2 = 8 then zden 132 143 [.ref 90, .int x1, .int x2] [] (zSH, G) else if x2 = 9 then zden 132 143 [.ref 90, .int x1, .int x2] [] (zSH, G) else if x2 = 10 then zden 132 154 [.ref 90, .int x1, .int x2] [] (zSH, G) else some (some (.int (-12)), (zSH, G)) else some (some (.int (-11)), (zSH, G)) :=
  (zd_aload_n a_M_goodOf_0 rfl).trans ((zd_iload_n a_M_goodOf_1 rfl).trans ((zd_cal (kd := 0) (tg := 130) (T := m_M_isGood) a_M_goodOf_2 (by decide +kernel) hm_M_isGood rfl rfl rfl rfl).trans (((congrArg (zaft 132 5 [.ref 90, .int x1, .int x2] [] (zSH, G)) (ms_isGood)).trans zaft_same).trans ((zd_if_ne a_M_goodOf_5 rfl).trans (zitc (fun p54 => (zd_iload_n a_M_goodOf_11 rfl).trans ((zd_tsw (td := 185) (L := [(0, 72), (1, 72), (2, 72), (3, 83), (4, 95), (5, 101), (6, 120), (7, 132), (8, 143), (9, 143), (10, 154)]) a_M_goodOf_12 rfl (by decide) (by decide)).trans (zitc (fun p55 => rfl) (fun p55 => zitc (fun p56 => rfl) (fun p56 => zitc (fun p57 => rfl) (fun p57 => zitc (fun p58 => rfl) (fun p58 => zitc (fun p59 => rfl) (fun p59 => zitc (fun p60 => rfl) (fun p60 => zitc (fun p61 => rfl) (fun p61 => zitc (fun p62 => rfl) (fun p62 => zitc (fun p63 => rfl) (fun p63 => zitc (fun p64 => rfl) (fun p64 => zitc (fun p65 => rfl) (fun p65 => (zd_bipush (v := (-12)) a_M_goodOf_185 (by decide)).trans (zd_iret a_M_goodOf_187 rfl (znr_int _)))))))))))))))) (fun p54 => (zd_bipush (v := (-11)) a_M_goodOf_8 (by decide)).trans (zd_iret a_M_goodOf_10 rfl (znr_int _))))))))
theorem B_M_goodOf_72 {G : Nat → Nat → Int32} {x1 x2 : Int32} (z81_0 : zin (63 + 22 * x1 + x2) 327 = true) : zden 132 72 [.ref 90, .int x1, .int x2] [] (zSH, G) = some (some (.int (G 91 (63 + 22 * x1 + x2).toNatClampNeg)), (zSH, G)) :=
  (zd_aload_n a_M_goodOf_72 rfl).trans ((zd_getR (h := (zSH, G)) (ci := 8) (fi := 5) (a := 91) a_M_goodOf_73 (by decide +kernel) sh_90 rfl rfl).trans ((zd_iload_n a_M_goodOf_76 rfl).trans ((zd_iload_n a_M_goodOf_77 rfl).trans ((zd_cal (kd := 1) (tg := 123) (T := m_M_of) a_M_goodOf_78 (by decide +kernel) hm_M_of rfl rfl rfl rfl).trans (((congrArg (zaft 132 81 [.ref 90, .int x1, .int x2] [.ref 91] (zSH, G)) (ms_of)).trans zaft_same).trans ((zd_iald (h := (zSH, G)) a_M_goodOf_81 sh_91 rfl).trans ((if_pos z81_0).trans (zd_iret a_M_goodOf_82 rfl (znr_int _)))))))))
theorem B_M_goodOf_83 {G : Nat → Nat → Int32} {x1 x2 : Int32} (z93_0 : zin (63 + 22 * x1 + 7) 327 = true) : zden 132 83 [.ref 90, .int x1, .int x2] [] (zSH, G) = some (some (.int (G 91 (63 + 22 * x1 + 7).toNatClampNeg)), (zSH, G)) :=
  (zd_aload_n a_M_goodOf_83 rfl).trans ((zd_getR (h := (zSH, G)) (ci := 8) (fi := 5) (a := 91) a_M_goodOf_84 (by decide +kernel) sh_90 rfl rfl).trans ((zd_iload_n a_M_goodOf_87 rfl).trans ((zd_bipush (v := 7) a_M_goodOf_88 (by decide)).trans ((zd_cal (kd := 1) (tg := 123) (T := m_M_of) a_M_goodOf_90 (by decide +kernel) hm_M_of rfl rfl rfl rfl).trans (((congrArg (zaft 132 93 [.ref 90, .int x1, .int x2] [.ref 91] (zSH, G)) (ms_of)).trans zaft_same).trans ((zd_iald (h := (zSH, G)) a_M_goodOf_93 sh_91 rfl).trans ((if_pos z93_0).trans (zd_iret a_M_goodOf_94 rfl (znr_int _)))))))))
theorem B_M_goodOf_95 {G : Nat → Nat → Int32} {x1 x2 : Int32} : zden 132 95 [.ref 90, .int x1, .int x2] [] (zSH, G) = zaft 132 100 [.ref 90, .int x1, .int x2] [] (zSH, G) (zden 122 0 [.ref 90, .int x1, .retAddr 0, .retAddr 0] [] (zSH, G)) :=
  (zd_aload_n a_M_goodOf_95 rfl).trans ((zd_iload_n a_M_goodOf_96 rfl).trans ((zd_cal (kd := 0) (tg := 122) (T := m_M_chief) a_M_goodOf_97 (by decide +kernel) hm_M_chief rfl rfl rfl rfl)))
theorem B_M_goodOf_100 {G : Nat → Nat → Int32} {x1 x2 s0 : Int32} : zden 132 100 [.ref 90, .int x1, .int x2] [.int s0] (zSH, G) = some (some (.int s0), (zSH, G)) :=
  zd_iret a_M_goodOf_100 rfl (znr_int _)
theorem B_M_goodOf_101 {G : Nat → Nat → Int32} {x1 x2 : Int32} : zden 132 101 [.ref 90, .int x1, .int x2] [] (zSH, G) = zaft 132 106 [.ref 90, .int x1, .int x2] [] (zSH, G) (zden 133 0 [.ref 90, .int x1, .retAddr 0, .retAddr 0, .retAddr 0] [] (zSH, G)) :=
  (zd_aload_n a_M_goodOf_101 rfl).trans ((zd_iload_n a_M_goodOf_102 rfl).trans ((zd_cal (kd := 0) (tg := 133) (T := m_M_origin) a_M_goodOf_103 (by decide +kernel) hm_M_origin rfl rfl rfl rfl)))
theorem B_M_goodOf_106 {G : Nat → Nat → Int32} {x1 x2 s0 : Int32} : zden 132 106 [.ref 90, .int x1, .int x2] [.int s0] (zSH, G) = if 0 ≤ s0 then zaft 132 119 [.ref 90, .int x1, .int x2] [] (zSH, G) (zden 133 0 [.ref 90, .int x1, .retAddr 0, .retAddr 0, .retAddr 0] [] (zSH, G)) else some (some (.int (-15)), (zSH, G)) :=
  (zd_if_ge a_M_goodOf_106 rfl).trans (zitc (fun p66 => (zd_aload_n a_M_goodOf_114 rfl).trans ((zd_iload_n a_M_goodOf_115 rfl).trans ((zd_cal (kd := 0) (tg := 133) (T := m_M_origin) a_M_goodOf_116 (by decide +kernel) hm_M_origin rfl rfl rfl rfl)))) (fun p66 => (zd_bipush (v := (-15)) a_M_goodOf_109 (by decide)).trans ((zd_goto a_M_goodOf_111 rfl).trans (zd_iret a_M_goodOf_119 rfl (znr_int _)))))
theorem B_M_goodOf_119 {G : Nat → Nat → Int32} {x1 x2 s0 : Int32} : zden 132 119 [.ref 90, .int x1, .int x2] [.int s0] (zSH, G) = some (some (.int s0), (zSH, G)) :=
  zd_iret a_M_goodOf_119 rfl (znr_int _)
theorem B_M_goodOf_120 {G : Nat → Nat → Int32} {x1 x2 : Int32} : zden 132 120 [.ref 90, .int x1, .int x2] [] (zSH, G) = zaft 132 127 [.ref 90, .int x1, .int x2] [.ref 90] (zSH, G) (zden 120 0 [.ref 90, .int x1, .int 0, .retAddr 0, .retAddr 0, .retAddr 0] [] (zSH, G)) :=
  (zd_aload_n a_M_goodOf_120 rfl).trans ((zd_aload_n a_M_goodOf_121 rfl).trans ((zd_iload_n a_M_goodOf_122 rfl).trans ((zd_iconst (v := 0) a_M_goodOf_123 (by decide)).trans ((zd_cal (kd := 0) (tg := 120) (T := m_M_fitting) a_M_goodOf_124 (by decide +kernel) hm_M_fitting rfl rfl rfl rfl)))))
theorem B_M_goodOf_127 {G : Nat → Nat → Int32} {x1 x2 s0 : Int32} (z128_0 : mhok G s0 0) : zden 132 127 [.ref 90, .int x1, .int x2] [.int s0, .ref 90] (zSH, G) = some (some (.int (mhead G s0 0)), (zSH, G)) :=
  (zd_iconst (v := 0) a_M_goodOf_127 (by decide)).trans ((zd_cal (kd := 0) (tg := 113) (T := m_M_head) a_M_goodOf_128 (by decide +kernel) hm_M_head rfl rfl rfl rfl).trans (((congrArg (zaft 132 131 [.ref 90, .int x1, .int x2] [] (zSH, G)) (ms_head z128_0)).trans zaft_same).trans (zd_iret a_M_goodOf_131 rfl (znr_int _))))
theorem B_M_goodOf_132 {G : Nat → Nat → Int32} {x1 x2 : Int32} : zden 132 132 [.ref 90, .int x1, .int x2] [] (zSH, G) = zaft 132 139 [.ref 90, .int x1, .int x2] [.int x1, .ref 90] (zSH, G) (zden 133 0 [.ref 90, .int x1, .retAddr 0, .retAddr 0, .retAddr 0] [] (zSH, G)) :=
  (zd_aload_n a_M_goodOf_132 rfl).trans ((zd_iload_n a_M_goodOf_133 rfl).trans ((zd_aload_n a_M_goodOf_134 rfl).trans ((zd_iload_n a_M_goodOf_135 rfl).trans ((zd_cal (kd := 0) (tg := 133) (T := m_M_origin) a_M_goodOf_136 (by decide +kernel) hm_M_origin rfl rfl rfl rfl)))))
theorem B_M_goodOf_139 {G : Nat → Nat → Int32} {x1 x2 s0 s1 : Int32} : zden 132 139 [.ref 90, .int x1, .int x2] [.int s0, .int s1, .ref 90] (zSH, G) = zaft 132 142 [.ref 90, .int x1, .int x2] [] (zSH, G) (zden 134 0 [.ref 90, .int s1, .int s0, .retAddr 0, .retAddr 0, .retAddr 0, .retAddr 0] [] (zSH, G)) :=
  (zd_cal (kd := 0) (tg := 134) (T := m_M_duty) a_M_goodOf_139 (by decide +kernel) hm_M_duty rfl rfl rfl rfl)
theorem B_M_goodOf_142 {G : Nat → Nat → Int32} {x1 x2 s0 : Int32} : zden 132 142 [.ref 90, .int x1, .int x2] [.int s0] (zSH, G) = some (some (.int s0), (zSH, G)) :=
  zd_iret a_M_goodOf_142 rfl (znr_int _)
theorem B_M_goodOf_143 {G : Nat → Nat → Int32} {x1 x2 : Int32} (z152_0 : zin (63 + 22 * x1 + x2) 327 = true) : zden 132 143 [.ref 90, .int x1, .int x2] [] (zSH, G) = some (some (.int (G 91 (63 + 22 * x1 + x2).toNatClampNeg)), (zSH, G)) :=
  (zd_aload_n a_M_goodOf_143 rfl).trans ((zd_getR (h := (zSH, G)) (ci := 8) (fi := 5) (a := 91) a_M_goodOf_144 (by decide +kernel) sh_90 rfl rfl).trans ((zd_iload_n a_M_goodOf_147 rfl).trans ((zd_iload_n a_M_goodOf_148 rfl).trans ((zd_cal (kd := 1) (tg := 123) (T := m_M_of) a_M_goodOf_149 (by decide +kernel) hm_M_of rfl rfl rfl rfl).trans (((congrArg (zaft 132 152 [.ref 90, .int x1, .int x2] [.ref 91] (zSH, G)) (ms_of)).trans zaft_same).trans ((zd_iald (h := (zSH, G)) a_M_goodOf_152 sh_91 rfl).trans ((if_pos z152_0).trans (zd_iret a_M_goodOf_153 rfl (znr_int _)))))))))
theorem B_M_goodOf_154 {G : Nat → Nat → Int32} {x1 x2 : Int32} (z164_0 : zin (63 + 22 * x1 + 10) 327 = true) (z183_1 : (0 ≤ (G 91 (63 + 22 * x1 + 10).toNatClampNeg)) → zin (63 + 22 * x1 + 10) 327 = true) : zden 132 154 [.ref 90, .int x1, .int x2] [] (zSH, G) = if 0 ≤ (G 91 (63 + 22 * x1 + 10).toNatClampNeg) then some (some (.int (G 91 (63 + 22 * x1 + 10).toNatClampNeg)), (zSH, G)) else some (some (.int (-15)), (zSH, G)) :=
  (zd_aload_n a_M_goodOf_154 rfl).trans ((zd_getR (h := (zSH, G)) (ci := 8) (fi := 5) (a := 91) a_M_goodOf_155 (by decide +kernel) sh_90 rfl rfl).trans ((zd_iload_n a_M_goodOf_158 rfl).trans ((zd_bipush (v := 10) a_M_goodOf_159 (by decide)).trans ((zd_cal (kd := 1) (tg := 123) (T := m_M_of) a_M_goodOf_161 (by decide +kernel) hm_M_of rfl rfl rfl rfl).trans (((congrArg (zaft 132 164 [.ref 90, .int x1, .int x2] [.ref 91] (zSH, G)) (ms_of)).trans zaft_same).trans ((zd_iald (h := (zSH, G)) a_M_goodOf_164 sh_91 rfl).trans ((if_pos z164_0).trans ((zd_if_ge a_M_goodOf_165 rfl).trans (zitc (fun p67 => (zd_aload_n a_M_goodOf_173 rfl).trans ((zd_getR (h := (zSH, G)) (ci := 8) (fi := 5) (a := 91) a_M_goodOf_174 (by decide +kernel) sh_90 rfl rfl).trans ((zd_iload_n a_M_goodOf_177 rfl).trans ((zd_bipush (v := 10) a_M_goodOf_178 (by decide)).trans ((zd_cal (kd := 1) (tg := 123) (T := m_M_of) a_M_goodOf_180 (by decide +kernel) hm_M_of rfl rfl rfl rfl).trans (((congrArg (zaft 132 183 [.ref 90, .int x1, .int x2] [.ref 91] (zSH, G)) (ms_of)).trans zaft_same).trans ((zd_iald (h := (zSH, G)) a_M_goodOf_183 sh_91 rfl).trans ((if_pos (z183_1 p67)).trans (zd_iret a_M_goodOf_184 rfl (znr_int _)))))))))) (fun p67 => (zd_bipush (v := (-15)) a_M_goodOf_168 (by decide)).trans ((zd_goto a_M_goodOf_170 rfl).trans (zd_iret a_M_goodOf_184 rfl (znr_int _)))))))))))))
theorem a_M_account_0 : zAt 173 0 m_M_account (.iload_n 1) 1 := ⟨hm_M_account, by decide +kernel⟩
theorem a_M_account_1 : zAt 173 1 m_M_account (.tableswitch 113 0 13 #[71, 71, 71, 78, 78, 78, 86, 86, 86, 86, 86, 98, 103, 108]) 71 := ⟨hm_M_account, by decide +kernel⟩
theorem a_M_account_72 : zAt 173 72 m_M_account (.aload_n 0) 1 := ⟨hm_M_account, by decide +kernel⟩
theorem a_M_account_73 : zAt 173 73 m_M_account (.getfield 7) 3 := ⟨hm_M_account, by decide +kernel⟩
theorem a_M_account_76 : zAt 173 76 m_M_account (.iload_n 1) 1 := ⟨hm_M_account, by decide +kernel⟩
theorem a_M_account_77 : zAt 173 77 m_M_account (.iaload) 1 := ⟨hm_M_account, by decide +kernel⟩
theorem a_M_account_78 : zAt 173 78 m_M_account (.ireturn) 1 := ⟨hm_M_account, by decide +kernel⟩
theorem a_M_account_79 : zAt 173 79 m_M_account (.aload_n 0) 1 := ⟨hm_M_account, by decide +kernel⟩
theorem a_M_account_80 : zAt 173 80 m_M_account (.iload_n 1) 1 := ⟨hm_M_account, by decide +kernel⟩
theorem a_M_account_81 : zAt 173 81 m_M_account (.iconst 3) 1 := ⟨hm_M_account, by decide +kernel⟩
theorem a_M_account_82 : zAt 173 82 m_M_account (.isub) 1 := ⟨hm_M_account, by decide +kernel⟩
theorem a_M_account_83 : zAt 173 83 m_M_account (.invokevirtual 213) 3 := ⟨hm_M_account, by decide +kernel⟩
theorem a_M_account_86 : zAt 173 86 m_M_account (.ireturn) 1 := ⟨hm_M_account, by decide +kernel⟩
theorem a_M_account_87 : zAt 173 87 m_M_account (.aload_n 0) 1 := ⟨hm_M_account, by decide +kernel⟩
theorem a_M_account_88 : zAt 173 88 m_M_account (.getfield 7) 3 := ⟨hm_M_account, by decide +kernel⟩
theorem a_M_account_91 : zAt 173 91 m_M_account (.iconst 3) 1 := ⟨hm_M_account, by decide +kernel⟩
theorem a_M_account_92 : zAt 173 92 m_M_account (.iload_n 1) 1 := ⟨hm_M_account, by decide +kernel⟩
theorem a_M_account_93 : zAt 173 93 m_M_account (.iadd) 1 := ⟨hm_M_account, by decide +kernel⟩
theorem a_M_account_94 : zAt 173 94 m_M_account (.bipush 6) 2 := ⟨hm_M_account, by decide +kernel⟩
theorem a_M_account_96 : zAt 173 96 m_M_account (.isub) 1 := ⟨hm_M_account, by decide +kernel⟩
theorem a_M_account_97 : zAt 173 97 m_M_account (.iaload) 1 := ⟨hm_M_account, by decide +kernel⟩
theorem a_M_account_98 : zAt 173 98 m_M_account (.ireturn) 1 := ⟨hm_M_account, by decide +kernel⟩
theorem a_M_account_99 : zAt 173 99 m_M_account (.aload_n 0) 1 := ⟨hm_M_account, by decide +kernel⟩
theorem a_M_account_100 : zAt 173 100 m_M_account (.invokevirtual 216) 3 := ⟨hm_M_account, by decide +kernel⟩
theorem a_M_account_103 : zAt 173 103 m_M_account (.ireturn) 1 := ⟨hm_M_account, by decide +kernel⟩
theorem a_M_account_104 : zAt 173 104 m_M_account (.aload_n 0) 1 := ⟨hm_M_account, by decide +kernel⟩
theorem a_M_account_105 : zAt 173 105 m_M_account (.getfield 159) 3 := ⟨hm_M_account, by decide +kernel⟩
theorem a_M_account_108 : zAt 173 108 m_M_account (.ireturn) 1 := ⟨hm_M_account, by decide +kernel⟩
theorem a_M_account_109 : zAt 173 109 m_M_account (.aload_n 0) 1 := ⟨hm_M_account, by decide +kernel⟩
theorem a_M_account_110 : zAt 173 110 m_M_account (.getfield 61) 3 := ⟨hm_M_account, by decide +kernel⟩
theorem a_M_account_113 : zAt 173 113 m_M_account (.ireturn) 1 := ⟨hm_M_account, by decide +kernel⟩
theorem a_M_account_114 : zAt 173 114 m_M_account (.bipush (-12)) 2 := ⟨hm_M_account, by decide +kernel⟩
theorem a_M_account_116 : zAt 173 116 m_M_account (.ireturn) 1 := ⟨hm_M_account, by decide +kernel⟩
theorem B_M_account_0 {G : Nat → Nat → Int32} {x1 : Int32} : zden 173 0 [.ref 90, .int x1] [] (zSH, G) = if x1 = 0 then zden 173 72 [.ref 90, .int x1] [] (zSH, G) else if x1 = 1 then zden 173 72 [.ref 90, .int x1] [] (zSH, G) else if x1 = 2 then zden 173 72 [.ref 90, .int x1] [] (zSH, G) else if x1 = 3 then zden 173 79 [.ref 90, .int x1] [] (zSH, G) else if x1 = 4 then zden 173 79 [.ref 90, .int x1] [] (zSH, G) else if x1 = 5 then zden 173 79 [.ref 90, .int x1] [] (zSH, G) else if x1 = 6 then zden 173 87 [.ref 90, .int x1] [] (zSH, G) else if x1 = 7 then zden 173 87 [.ref 90, .int x1] [] (zSH, G) else if x1 = 8 then zden 173 87 [.ref 90, .int x1] [] (zSH, G) else if x1 = 9 then zden 173 87 [.ref 90, .int x1] [] (zSH, G) else if x1 = 10 then zden 173 87 [.ref 90, .int x1] [] (zSH, G) else if x1 = 11 then zden 173 99 [.ref 90, .int x1] [] (zSH, G) else if x1 = 12 then zden 173 104 [.ref 90, .int x1] [] (zSH, G) else if x1 = 13 then zden 173 109 [.ref 90, .int x1] [] (zSH, G) else some (some (.int (-12)), (zSH, G)) :=
  (zd_iload_n a_M_account_0 rfl).trans ((zd_tsw (td := 114) (L := [(0, 72), (1, 72), (2, 72), (3, 79), (4, 79), (5, 79), (6, 87), (7, 87), (8, 87), (9, 87), (10, 87), (11, 99), (12, 104), (13, 109)]) a_M_account_1 rfl (by decide) (by decide)).trans (zitc (fun p43 => rfl) (fun p43 => zitc (fun p44 => rfl) (fun p44 => zitc (fun p45 => rfl) (fun p45 => zitc (fun p46 => rfl) (fun p46 => zitc (fun p47 => rfl) (fun p47 => zitc (fun p48 => rfl) (fun p48 => zitc (fun p49 => rfl) (fun p49 => zitc (fun p50 => rfl) (fun p50 => zitc (fun p51 => rfl) (fun p51 => zitc (fun p52 => rfl) (fun p52 => zitc (fun p53 => rfl) (fun p53 => zitc (fun p54 => rfl) (fun p54 => zitc (fun p55 => rfl) (fun p55 => zitc (fun p56 => rfl) (fun p56 => (zd_bipush (v := (-12)) a_M_account_114 (by decide)).trans (zd_iret a_M_account_116 rfl (znr_int _))))))))))))))))))
theorem B_M_account_72 {G : Nat → Nat → Int32} {x1 : Int32} (z77_0 : zin x1 327 = true) : zden 173 72 [.ref 90, .int x1] [] (zSH, G) = some (some (.int (G 91 x1.toNatClampNeg)), (zSH, G)) :=
  (zd_aload_n a_M_account_72 rfl).trans ((zd_getR (h := (zSH, G)) (ci := 8) (fi := 5) (a := 91) a_M_account_73 (by decide +kernel) sh_90 rfl rfl).trans ((zd_iload_n a_M_account_76 rfl).trans ((zd_iald (h := (zSH, G)) a_M_account_77 sh_91 rfl).trans ((if_pos z77_0).trans (zd_iret a_M_account_78 rfl (znr_int _))))))
theorem B_M_account_79 {G : Nat → Nat → Int32} {x1 : Int32} : zden 173 79 [.ref 90, .int x1] [] (zSH, G) = zaft 173 86 [.ref 90, .int x1] [] (zSH, G) (zden 174 0 [.ref 90, .int (x1 - 3), .retAddr 0, .retAddr 0] [] (zSH, G)) :=
  (zd_aload_n a_M_account_79 rfl).trans ((zd_iload_n a_M_account_80 rfl).trans ((zd_iconst (v := 3) a_M_account_81 (by decide)).trans ((zd_num (st2 := [.int (x1 - 3), .ref 90]) a_M_account_82 rfl rfl rfl rfl).trans ((zd_cal (kd := 0) (tg := 174) (T := m_M_thatAre) a_M_account_83 (by decide +kernel) hm_M_thatAre rfl rfl rfl rfl)))))
theorem B_M_account_86 {G : Nat → Nat → Int32} {x1 s0 : Int32} : zden 173 86 [.ref 90, .int x1] [.int s0] (zSH, G) = some (some (.int s0), (zSH, G)) :=
  zd_iret a_M_account_86 rfl (znr_int _)
theorem B_M_account_87 {G : Nat → Nat → Int32} {x1 : Int32} (z97_0 : zin ((3 + x1) - 6) 327 = true) : zden 173 87 [.ref 90, .int x1] [] (zSH, G) = some (some (.int (G 91 ((3 + x1) - 6).toNatClampNeg)), (zSH, G)) :=
  (zd_aload_n a_M_account_87 rfl).trans ((zd_getR (h := (zSH, G)) (ci := 8) (fi := 5) (a := 91) a_M_account_88 (by decide +kernel) sh_90 rfl rfl).trans ((zd_iconst (v := 3) a_M_account_91 (by decide)).trans ((zd_iload_n a_M_account_92 rfl).trans ((zd_num (st2 := [.int (3 + x1), .ref 91]) a_M_account_93 rfl rfl rfl rfl).trans ((zd_bipush (v := 6) a_M_account_94 (by decide)).trans ((zd_num (st2 := [.int ((3 + x1) - 6), .ref 91]) a_M_account_96 rfl rfl rfl rfl).trans ((zd_iald (h := (zSH, G)) a_M_account_97 sh_91 rfl).trans ((if_pos z97_0).trans (zd_iret a_M_account_98 rfl (znr_int _))))))))))
theorem B_M_account_99 {G : Nat → Nat → Int32} {x1 : Int32} : zden 173 99 [.ref 90, .int x1] [] (zSH, G) = zaft 173 103 [.ref 90, .int x1] [] (zSH, G) (zden 175 0 [.ref 90, .retAddr 0, .retAddr 0] [] (zSH, G)) :=
  (zd_aload_n a_M_account_99 rfl).trans ((zd_cal (kd := 0) (tg := 175) (T := m_M_favoured) a_M_account_100 (by decide +kernel) hm_M_favoured rfl rfl rfl rfl))
theorem B_M_account_103 {G : Nat → Nat → Int32} {x1 s0 : Int32} : zden 173 103 [.ref 90, .int x1] [.int s0] (zSH, G) = some (some (.int s0), (zSH, G)) :=
  zd_iret a_M_account_103 rfl (znr_int _)
theorem B_M_account_104 {G : Nat → Nat → Int32} {x1 : Int32} : zden 173 104 [.ref 90, .int x1] [] (zSH, G) = some (some (.int (G 90 16)), (zSH, G)) :=
  (zd_aload_n a_M_account_104 rfl).trans ((zd_getI (h := (zSH, G)) (ci := 8) (fi := 16) a_M_account_105 (by decide +kernel) sh_90 rfl).trans (zd_iret a_M_account_108 rfl (znr_int _)))
theorem B_M_account_109 {G : Nat → Nat → Int32} {x1 : Int32} : zden 173 109 [.ref 90, .int x1] [] (zSH, G) = some (some (.int (G 90 1)), (zSH, G)) :=
  (zd_aload_n a_M_account_109 rfl).trans ((zd_getI (h := (zSH, G)) (ci := 8) (fi := 1) a_M_account_110 (by decide +kernel) sh_90 rfl).trans (zd_iret a_M_account_113 rfl (znr_int _)))
theorem a_M_does_0 : zAt 166 0 m_M_does (.iload_n 1) 1 := ⟨hm_M_does, by decide +kernel⟩
theorem a_M_does_1 : zAt 166 1 m_M_does (.tableswitch 207 0 7 #[47, 82, 93, 134, 157, 174, 185, 196]) 47 := ⟨hm_M_does, by decide +kernel⟩
theorem a_M_does_48 : zAt 166 48 m_M_does (.aload_n 0) 1 := ⟨hm_M_does, by decide +kernel⟩
theorem a_M_does_49 : zAt 166 49 m_M_does (.aload_n 0) 1 := ⟨hm_M_does, by decide +kernel⟩
theorem a_M_does_50 : zAt 166 50 m_M_does (.getfield 28) 3 := ⟨hm_M_does, by decide +kernel⟩
theorem a_M_does_53 : zAt 166 53 m_M_does (.iconst 0) 1 := ⟨hm_M_does, by decide +kernel⟩
theorem a_M_does_54 : zAt 166 54 m_M_does (.iaload) 1 := ⟨hm_M_does, by decide +kernel⟩
theorem a_M_does_55 : zAt 166 55 m_M_does (.aload_n 0) 1 := ⟨hm_M_does, by decide +kernel⟩
theorem a_M_does_56 : zAt 166 56 m_M_does (.getfield 28) 3 := ⟨hm_M_does, by decide +kernel⟩
theorem a_M_does_59 : zAt 166 59 m_M_does (.iconst 1) 1 := ⟨hm_M_does, by decide +kernel⟩
theorem a_M_does_60 : zAt 166 60 m_M_does (.iaload) 1 := ⟨hm_M_does, by decide +kernel⟩
theorem a_M_does_61 : zAt 166 61 m_M_does (.aload_n 0) 1 := ⟨hm_M_does, by decide +kernel⟩
theorem a_M_does_62 : zAt 166 62 m_M_does (.getfield 28) 3 := ⟨hm_M_does, by decide +kernel⟩
theorem a_M_does_65 : zAt 166 65 m_M_does (.iconst 2) 1 := ⟨hm_M_does, by decide +kernel⟩
theorem a_M_does_66 : zAt 166 66 m_M_does (.iaload) 1 := ⟨hm_M_does, by decide +kernel⟩
theorem a_M_does_67 : zAt 166 67 m_M_does (.aload_n 0) 1 := ⟨hm_M_does, by decide +kernel⟩
theorem a_M_does_68 : zAt 166 68 m_M_does (.getfield 28) 3 := ⟨hm_M_does, by decide +kernel⟩
theorem a_M_does_71 : zAt 166 71 m_M_does (.iconst 3) 1 := ⟨hm_M_does, by decide +kernel⟩
theorem a_M_does_72 : zAt 166 72 m_M_does (.iaload) 1 := ⟨hm_M_does, by decide +kernel⟩
theorem a_M_does_73 : zAt 166 73 m_M_does (.aload_n 0) 1 := ⟨hm_M_does, by decide +kernel⟩
theorem a_M_does_74 : zAt 166 74 m_M_does (.getfield 28) 3 := ⟨hm_M_does, by decide +kernel⟩
theorem a_M_does_77 : zAt 166 77 m_M_does (.iconst 4) 1 := ⟨hm_M_does, by decide +kernel⟩
theorem a_M_does_78 : zAt 166 78 m_M_does (.iaload) 1 := ⟨hm_M_does, by decide +kernel⟩
theorem a_M_does_79 : zAt 166 79 m_M_does (.invokevirtual 81) 3 := ⟨hm_M_does, by decide +kernel⟩
theorem a_M_does_82 : zAt 166 82 m_M_does (.ireturn) 1 := ⟨hm_M_does, by decide +kernel⟩
theorem a_M_does_83 : zAt 166 83 m_M_does (.aload_n 0) 1 := ⟨hm_M_does, by decide +kernel⟩
theorem a_M_does_84 : zAt 166 84 m_M_does (.aload_n 0) 1 := ⟨hm_M_does, by decide +kernel⟩
theorem a_M_does_85 : zAt 166 85 m_M_does (.getfield 28) 3 := ⟨hm_M_does, by decide +kernel⟩
theorem a_M_does_88 : zAt 166 88 m_M_does (.iconst 0) 1 := ⟨hm_M_does, by decide +kernel⟩
theorem a_M_does_89 : zAt 166 89 m_M_does (.iaload) 1 := ⟨hm_M_does, by decide +kernel⟩
theorem a_M_does_90 : zAt 166 90 m_M_does (.invokevirtual 88) 3 := ⟨hm_M_does, by decide +kernel⟩
theorem a_M_does_93 : zAt 166 93 m_M_does (.ireturn) 1 := ⟨hm_M_does, by decide +kernel⟩
theorem a_M_does_94 : zAt 166 94 m_M_does (.aload_n 0) 1 := ⟨hm_M_does, by decide +kernel⟩
theorem a_M_does_95 : zAt 166 95 m_M_does (.aload_n 0) 1 := ⟨hm_M_does, by decide +kernel⟩
theorem a_M_does_96 : zAt 166 96 m_M_does (.getfield 28) 3 := ⟨hm_M_does, by decide +kernel⟩
theorem a_M_does_99 : zAt 166 99 m_M_does (.iconst 0) 1 := ⟨hm_M_does, by decide +kernel⟩
theorem a_M_does_100 : zAt 166 100 m_M_does (.iaload) 1 := ⟨hm_M_does, by decide +kernel⟩
theorem a_M_does_101 : zAt 166 101 m_M_does (.aload_n 0) 1 := ⟨hm_M_does, by decide +kernel⟩
theorem a_M_does_102 : zAt 166 102 m_M_does (.getfield 28) 3 := ⟨hm_M_does, by decide +kernel⟩
theorem a_M_does_105 : zAt 166 105 m_M_does (.iconst 1) 1 := ⟨hm_M_does, by decide +kernel⟩
theorem a_M_does_106 : zAt 166 106 m_M_does (.iaload) 1 := ⟨hm_M_does, by decide +kernel⟩
theorem a_M_does_107 : zAt 166 107 m_M_does (.aload_n 0) 1 := ⟨hm_M_does, by decide +kernel⟩
theorem a_M_does_108 : zAt 166 108 m_M_does (.getfield 28) 3 := ⟨hm_M_does, by decide +kernel⟩
theorem a_M_does_111 : zAt 166 111 m_M_does (.iconst 2) 1 := ⟨hm_M_does, by decide +kernel⟩
theorem a_M_does_112 : zAt 166 112 m_M_does (.iaload) 1 := ⟨hm_M_does, by decide +kernel⟩
theorem a_M_does_113 : zAt 166 113 m_M_does (.aload_n 0) 1 := ⟨hm_M_does, by decide +kernel⟩
theorem a_M_does_114 : zAt 166 114 m_M_does (.getfield 28) 3 := ⟨hm_M_does, by decide +kernel⟩
theorem a_M_does_117 : zAt 166 117 m_M_does (.iconst 3) 1 := ⟨hm_M_does, by decide +kernel⟩
theorem a_M_does_118 : zAt 166 118 m_M_does (.iaload) 1 := ⟨hm_M_does, by decide +kernel⟩
theorem a_M_does_119 : zAt 166 119 m_M_does (.aload_n 0) 1 := ⟨hm_M_does, by decide +kernel⟩
theorem a_M_does_120 : zAt 166 120 m_M_does (.getfield 28) 3 := ⟨hm_M_does, by decide +kernel⟩
theorem a_M_does_123 : zAt 166 123 m_M_does (.iconst 4) 1 := ⟨hm_M_does, by decide +kernel⟩
theorem a_M_does_124 : zAt 166 124 m_M_does (.iaload) 1 := ⟨hm_M_does, by decide +kernel⟩
theorem a_M_does_125 : zAt 166 125 m_M_does (.aload_n 0) 1 := ⟨hm_M_does, by decide +kernel⟩
theorem a_M_does_126 : zAt 166 126 m_M_does (.getfield 28) 3 := ⟨hm_M_does, by decide +kernel⟩
theorem a_M_does_129 : zAt 166 129 m_M_does (.iconst 5) 1 := ⟨hm_M_does, by decide +kernel⟩
theorem a_M_does_130 : zAt 166 130 m_M_does (.iaload) 1 := ⟨hm_M_does, by decide +kernel⟩
theorem a_M_does_131 : zAt 166 131 m_M_does (.invokevirtual 110) 3 := ⟨hm_M_does, by decide +kernel⟩
theorem a_M_does_134 : zAt 166 134 m_M_does (.ireturn) 1 := ⟨hm_M_does, by decide +kernel⟩
theorem a_M_does_135 : zAt 166 135 m_M_does (.aload_n 0) 1 := ⟨hm_M_does, by decide +kernel⟩
theorem a_M_does_136 : zAt 166 136 m_M_does (.aload_n 0) 1 := ⟨hm_M_does, by decide +kernel⟩
theorem a_M_does_137 : zAt 166 137 m_M_does (.getfield 28) 3 := ⟨hm_M_does, by decide +kernel⟩
theorem a_M_does_140 : zAt 166 140 m_M_does (.iconst 0) 1 := ⟨hm_M_does, by decide +kernel⟩
theorem a_M_does_141 : zAt 166 141 m_M_does (.iaload) 1 := ⟨hm_M_does, by decide +kernel⟩
theorem a_M_does_142 : zAt 166 142 m_M_does (.aload_n 0) 1 := ⟨hm_M_does, by decide +kernel⟩
theorem a_M_does_143 : zAt 166 143 m_M_does (.getfield 28) 3 := ⟨hm_M_does, by decide +kernel⟩
theorem a_M_does_146 : zAt 166 146 m_M_does (.iconst 1) 1 := ⟨hm_M_does, by decide +kernel⟩
theorem a_M_does_147 : zAt 166 147 m_M_does (.iaload) 1 := ⟨hm_M_does, by decide +kernel⟩
theorem a_M_does_148 : zAt 166 148 m_M_does (.aload_n 0) 1 := ⟨hm_M_does, by decide +kernel⟩
theorem a_M_does_149 : zAt 166 149 m_M_does (.getfield 28) 3 := ⟨hm_M_does, by decide +kernel⟩
theorem a_M_does_152 : zAt 166 152 m_M_does (.iconst 2) 1 := ⟨hm_M_does, by decide +kernel⟩
theorem a_M_does_153 : zAt 166 153 m_M_does (.iaload) 1 := ⟨hm_M_does, by decide +kernel⟩
theorem a_M_does_154 : zAt 166 154 m_M_does (.invokevirtual 121) 3 := ⟨hm_M_does, by decide +kernel⟩
theorem a_M_does_157 : zAt 166 157 m_M_does (.ireturn) 1 := ⟨hm_M_does, by decide +kernel⟩
theorem a_M_does_158 : zAt 166 158 m_M_does (.aload_n 0) 1 := ⟨hm_M_does, by decide +kernel⟩
theorem a_M_does_159 : zAt 166 159 m_M_does (.aload_n 0) 1 := ⟨hm_M_does, by decide +kernel⟩
theorem a_M_does_160 : zAt 166 160 m_M_does (.getfield 28) 3 := ⟨hm_M_does, by decide +kernel⟩
theorem a_M_does_163 : zAt 166 163 m_M_does (.iconst 0) 1 := ⟨hm_M_does, by decide +kernel⟩
theorem a_M_does_164 : zAt 166 164 m_M_does (.iaload) 1 := ⟨hm_M_does, by decide +kernel⟩
theorem a_M_does_165 : zAt 166 165 m_M_does (.aload_n 0) 1 := ⟨hm_M_does, by decide +kernel⟩
theorem a_M_does_166 : zAt 166 166 m_M_does (.getfield 28) 3 := ⟨hm_M_does, by decide +kernel⟩
theorem a_M_does_169 : zAt 166 169 m_M_does (.iconst 1) 1 := ⟨hm_M_does, by decide +kernel⟩
theorem a_M_does_170 : zAt 166 170 m_M_does (.iaload) 1 := ⟨hm_M_does, by decide +kernel⟩
theorem a_M_does_171 : zAt 166 171 m_M_does (.invokevirtual 134) 3 := ⟨hm_M_does, by decide +kernel⟩
theorem a_M_does_174 : zAt 166 174 m_M_does (.ireturn) 1 := ⟨hm_M_does, by decide +kernel⟩
theorem a_M_does_175 : zAt 166 175 m_M_does (.aload_n 0) 1 := ⟨hm_M_does, by decide +kernel⟩
theorem a_M_does_176 : zAt 166 176 m_M_does (.aload_n 0) 1 := ⟨hm_M_does, by decide +kernel⟩
theorem a_M_does_177 : zAt 166 177 m_M_does (.getfield 28) 3 := ⟨hm_M_does, by decide +kernel⟩
theorem a_M_does_180 : zAt 166 180 m_M_does (.iconst 0) 1 := ⟨hm_M_does, by decide +kernel⟩
theorem a_M_does_181 : zAt 166 181 m_M_does (.iaload) 1 := ⟨hm_M_does, by decide +kernel⟩
theorem a_M_does_182 : zAt 166 182 m_M_does (.invokevirtual 137) 3 := ⟨hm_M_does, by decide +kernel⟩
theorem a_M_does_185 : zAt 166 185 m_M_does (.ireturn) 1 := ⟨hm_M_does, by decide +kernel⟩
theorem a_M_does_186 : zAt 166 186 m_M_does (.aload_n 0) 1 := ⟨hm_M_does, by decide +kernel⟩
theorem a_M_does_187 : zAt 166 187 m_M_does (.aload_n 0) 1 := ⟨hm_M_does, by decide +kernel⟩
theorem a_M_does_188 : zAt 166 188 m_M_does (.getfield 28) 3 := ⟨hm_M_does, by decide +kernel⟩
theorem a_M_does_191 : zAt 166 191 m_M_does (.iconst 0) 1 := ⟨hm_M_does, by decide +kernel⟩
theorem a_M_does_192 : zAt 166 192 m_M_does (.iaload) 1 := ⟨hm_M_does, by decide +kernel⟩
theorem a_M_does_193 : zAt 166 193 m_M_does (.invokevirtual 140) 3 := ⟨hm_M_does, by decide +kernel⟩
theorem a_M_does_196 : zAt 166 196 m_M_does (.ireturn) 1 := ⟨hm_M_does, by decide +kernel⟩
theorem a_M_does_197 : zAt 166 197 m_M_does (.aload_n 0) 1 := ⟨hm_M_does, by decide +kernel⟩
theorem a_M_does_198 : zAt 166 198 m_M_does (.aload_n 0) 1 := ⟨hm_M_does, by decide +kernel⟩
theorem a_M_does_199 : zAt 166 199 m_M_does (.getfield 28) 3 := ⟨hm_M_does, by decide +kernel⟩
theorem a_M_does_202 : zAt 166 202 m_M_does (.iconst 0) 1 := ⟨hm_M_does, by decide +kernel⟩
theorem a_M_does_203 : zAt 166 203 m_M_does (.iaload) 1 := ⟨hm_M_does, by decide +kernel⟩
theorem a_M_does_204 : zAt 166 204 m_M_does (.invokevirtual 143) 3 := ⟨hm_M_does, by decide +kernel⟩
theorem a_M_does_207 : zAt 166 207 m_M_does (.ireturn) 1 := ⟨hm_M_does, by decide +kernel⟩
theorem a_M_does_208 : zAt 166 208 m_M_does (.aload_n 0) 1 := ⟨hm_M_does, by decide +kernel⟩
theorem a_M_does_209 : zAt 166 209 m_M_does (.aload_n 0) 1 := ⟨hm_M_does, by decide +kernel⟩
theorem a_M_does_210 : zAt 166 210 m_M_does (.getfield 28) 3 := ⟨hm_M_does, by decide +kernel⟩
theorem a_M_does_213 : zAt 166 213 m_M_does (.iconst 0) 1 := ⟨hm_M_does, by decide +kernel⟩
theorem a_M_does_214 : zAt 166 214 m_M_does (.iaload) 1 := ⟨hm_M_does, by decide +kernel⟩
theorem a_M_does_215 : zAt 166 215 m_M_does (.invokevirtual 146) 3 := ⟨hm_M_does, by decide +kernel⟩
theorem a_M_does_218 : zAt 166 218 m_M_does (.ireturn) 1 := ⟨hm_M_does, by decide +kernel⟩
theorem B_M_does_0 {G : Nat → Nat → Int32} {x1 : Int32} : zden 166 0 [.ref 90, .int x1] [] (zSH, G) = if x1 = 0 then zden 166 48 [.ref 90, .int x1] [] (zSH, G) else if x1 = 1 then zden 166 83 [.ref 90, .int x1] [] (zSH, G) else if x1 = 2 then zden 166 94 [.ref 90, .int x1] [] (zSH, G) else if x1 = 3 then zden 166 135 [.ref 90, .int x1] [] (zSH, G) else if x1 = 4 then zden 166 158 [.ref 90, .int x1] [] (zSH, G) else if x1 = 5 then zden 166 175 [.ref 90, .int x1] [] (zSH, G) else if x1 = 6 then zden 166 186 [.ref 90, .int x1] [] (zSH, G) else if x1 = 7 then zden 166 197 [.ref 90, .int x1] [] (zSH, G) else zden 166 208 [.ref 90, .int x1] [] (zSH, G) :=
  (zd_iload_n a_M_does_0 rfl).trans ((zd_tsw (td := 208) (L := [(0, 48), (1, 83), (2, 94), (3, 135), (4, 158), (5, 175), (6, 186), (7, 197)]) a_M_does_1 rfl (by decide) (by decide)).trans (zitc (fun p25 => rfl) (fun p25 => zitc (fun p26 => rfl) (fun p26 => zitc (fun p27 => rfl) (fun p27 => zitc (fun p28 => rfl) (fun p28 => zitc (fun p29 => rfl) (fun p29 => zitc (fun p30 => rfl) (fun p30 => zitc (fun p31 => rfl) (fun p31 => zitc (fun p32 => rfl) (fun p32 => rfl))))))))))
theorem B_M_does_48 {G : Nat → Nat → Int32} {x1 : Int32} : zden 166 48 [.ref 90, .int x1] [] (zSH, G) = zaft 166 82 [.ref 90, .int x1] [] (zSH, G) (zden 109 0 [.ref 90, .int (G 97 0), .int (G 97 1), .int (G 97 2), .int (G 97 3), .int (G 97 4), .retAddr 0, .retAddr 0] [] (zSH, G)) :=
  (zd_aload_n a_M_does_48 rfl).trans ((zd_aload_n a_M_does_49 rfl).trans ((zd_getR (h := (zSH, G)) (ci := 8) (fi := 11) (a := 97) a_M_does_50 (by decide +kernel) sh_90 rfl rfl).trans ((zd_iconst (v := 0) a_M_does_53 (by decide)).trans ((zd_iald (h := (zSH, G)) a_M_does_54 sh_97 rfl).trans ((if_pos (by decide)).trans ((zd_aload_n a_M_does_55 rfl).trans ((zd_getR (h := (zSH, G)) (ci := 8) (fi := 11) (a := 97) a_M_does_56 (by decide +kernel) sh_90 rfl rfl).trans ((zd_iconst (v := 1) a_M_does_59 (by decide)).trans ((zd_iald (h := (zSH, G)) a_M_does_60 sh_97 rfl).trans ((if_pos (by decide)).trans ((zd_aload_n a_M_does_61 rfl).trans ((zd_getR (h := (zSH, G)) (ci := 8) (fi := 11) (a := 97) a_M_does_62 (by decide +kernel) sh_90 rfl rfl).trans ((zd_iconst (v := 2) a_M_does_65 (by decide)).trans ((zd_iald (h := (zSH, G)) a_M_does_66 sh_97 rfl).trans ((if_pos (by decide)).trans ((zd_aload_n a_M_does_67 rfl).trans ((zd_getR (h := (zSH, G)) (ci := 8) (fi := 11) (a := 97) a_M_does_68 (by decide +kernel) sh_90 rfl rfl).trans ((zd_iconst (v := 3) a_M_does_71 (by decide)).trans ((zd_iald (h := (zSH, G)) a_M_does_72 sh_97 rfl).trans ((if_pos (by decide)).trans ((zd_aload_n a_M_does_73 rfl).trans ((zd_getR (h := (zSH, G)) (ci := 8) (fi := 11) (a := 97) a_M_does_74 (by decide +kernel) sh_90 rfl rfl).trans ((zd_iconst (v := 4) a_M_does_77 (by decide)).trans ((zd_iald (h := (zSH, G)) a_M_does_78 sh_97 rfl).trans ((if_pos (by decide)).trans ((zd_cal (kd := 0) (tg := 109) (T := m_M_setsUp) a_M_does_79 (by decide +kernel) hm_M_setsUp rfl rfl rfl rfl)))))))))))))))))))))))))))
theorem B_M_does_82 {G : Nat → Nat → Int32} {x1 s0 : Int32} : zden 166 82 [.ref 90, .int x1] [.int s0] (zSH, G) = some (some (.int s0), (zSH, G)) :=
  zd_iret a_M_does_82 rfl (znr_int _)
theorem B_M_does_83 {G : Nat → Nat → Int32} {x1 : Int32} : zden 166 83 [.ref 90, .int x1] [] (zSH, G) = zaft 166 93 [.ref 90, .int x1] [] (zSH, G) (zden 117 0 [.ref 90, .int (G 97 0), .retAddr 0, .retAddr 0] [] (zSH, G)) :=
  (zd_aload_n a_M_does_83 rfl).trans ((zd_aload_n a_M_does_84 rfl).trans ((zd_getR (h := (zSH, G)) (ci := 8) (fi := 11) (a := 97) a_M_does_85 (by decide +kernel) sh_90 rfl rfl).trans ((zd_iconst (v := 0) a_M_does_88 (by decide)).trans ((zd_iald (h := (zSH, G)) a_M_does_89 sh_97 rfl).trans ((if_pos (by decide)).trans ((zd_cal (kd := 0) (tg := 117) (T := m_M_strikes) a_M_does_90 (by decide +kernel) hm_M_strikes rfl rfl rfl rfl)))))))
theorem B_M_does_93 {G : Nat → Nat → Int32} {x1 s0 : Int32} : zden 166 93 [.ref 90, .int x1] [.int s0] (zSH, G) = some (some (.int s0), (zSH, G)) :=
  zd_iret a_M_does_93 rfl (znr_int _)
theorem B_M_does_94 {G : Nat → Nat → Int32} {x1 : Int32} : zden 166 94 [.ref 90, .int x1] [] (zSH, G) = zaft 166 134 [.ref 90, .int x1] [] (zSH, G) (zden 127 0 [.ref 90, .int (G 97 0), .int (G 97 1), .int (G 97 2), .int (G 97 3), .int (G 97 4), .int (G 97 5), .retAddr 0, .retAddr 0] [] (zSH, G)) :=
  (zd_aload_n a_M_does_94 rfl).trans ((zd_aload_n a_M_does_95 rfl).trans ((zd_getR (h := (zSH, G)) (ci := 8) (fi := 11) (a := 97) a_M_does_96 (by decide +kernel) sh_90 rfl rfl).trans ((zd_iconst (v := 0) a_M_does_99 (by decide)).trans ((zd_iald (h := (zSH, G)) a_M_does_100 sh_97 rfl).trans ((if_pos (by decide)).trans ((zd_aload_n a_M_does_101 rfl).trans ((zd_getR (h := (zSH, G)) (ci := 8) (fi := 11) (a := 97) a_M_does_102 (by decide +kernel) sh_90 rfl rfl).trans ((zd_iconst (v := 1) a_M_does_105 (by decide)).trans ((zd_iald (h := (zSH, G)) a_M_does_106 sh_97 rfl).trans ((if_pos (by decide)).trans ((zd_aload_n a_M_does_107 rfl).trans ((zd_getR (h := (zSH, G)) (ci := 8) (fi := 11) (a := 97) a_M_does_108 (by decide +kernel) sh_90 rfl rfl).trans ((zd_iconst (v := 2) a_M_does_111 (by decide)).trans ((zd_iald (h := (zSH, G)) a_M_does_112 sh_97 rfl).trans ((if_pos (by decide)).trans ((zd_aload_n a_M_does_113 rfl).trans ((zd_getR (h := (zSH, G)) (ci := 8) (fi := 11) (a := 97) a_M_does_114 (by decide +kernel) sh_90 rfl rfl).trans ((zd_iconst (v := 3) a_M_does_117 (by decide)).trans ((zd_iald (h := (zSH, G)) a_M_does_118 sh_97 rfl).trans ((if_pos (by decide)).trans ((zd_aload_n a_M_does_119 rfl).trans ((zd_getR (h := (zSH, G)) (ci := 8) (fi := 11) (a := 97) a_M_does_120 (by decide +kernel) sh_90 rfl rfl).trans ((zd_iconst (v := 4) a_M_does_123 (by decide)).trans ((zd_iald (h := (zSH, G)) a_M_does_124 sh_97 rfl).trans ((if_pos (by decide)).trans ((zd_aload_n a_M_does_125 rfl).trans ((zd_getR (h := (zSH, G)) (ci := 8) (fi := 11) (a := 97) a_M_does_126 (by decide +kernel) sh_90 rfl rfl).trans ((zd_iconst (v := 5) a_M_does_129 (by decide)).trans ((zd_iald (h := (zSH, G)) a_M_does_130 sh_97 rfl).trans ((if_pos (by decide)).trans ((zd_cal (kd := 0) (tg := 127) (T := m_M_comes) a_M_does_131 (by decide +kernel) hm_M_comes rfl rfl rfl rfl))))))))))))))))))))))))))))))))
theorem B_M_does_134 {G : Nat → Nat → Int32} {x1 s0 : Int32} : zden 166 134 [.ref 90, .int x1] [.int s0] (zSH, G) = some (some (.int s0), (zSH, G)) :=
  zd_iret a_M_does_134 rfl (znr_int _)
theorem B_M_does_135 {G : Nat → Nat → Int32} {x1 : Int32} : zden 166 135 [.ref 90, .int x1] [] (zSH, G) = zaft 166 157 [.ref 90, .int x1] [] (zSH, G) (zden 129 0 [.ref 90, .int (G 97 0), .int (G 97 1), .int (G 97 2)] [] (zSH, G)) :=
  (zd_aload_n a_M_does_135 rfl).trans ((zd_aload_n a_M_does_136 rfl).trans ((zd_getR (h := (zSH, G)) (ci := 8) (fi := 11) (a := 97) a_M_does_137 (by decide +kernel) sh_90 rfl rfl).trans ((zd_iconst (v := 0) a_M_does_140 (by decide)).trans ((zd_iald (h := (zSH, G)) a_M_does_141 sh_97 rfl).trans ((if_pos (by decide)).trans ((zd_aload_n a_M_does_142 rfl).trans ((zd_getR (h := (zSH, G)) (ci := 8) (fi := 11) (a := 97) a_M_does_143 (by decide +kernel) sh_90 rfl rfl).trans ((zd_iconst (v := 1) a_M_does_146 (by decide)).trans ((zd_iald (h := (zSH, G)) a_M_does_147 sh_97 rfl).trans ((if_pos (by decide)).trans ((zd_aload_n a_M_does_148 rfl).trans ((zd_getR (h := (zSH, G)) (ci := 8) (fi := 11) (a := 97) a_M_does_149 (by decide +kernel) sh_90 rfl rfl).trans ((zd_iconst (v := 2) a_M_does_152 (by decide)).trans ((zd_iald (h := (zSH, G)) a_M_does_153 sh_97 rfl).trans ((if_pos (by decide)).trans ((zd_cal (kd := 0) (tg := 129) (T := m_M_worksOn) a_M_does_154 (by decide +kernel) hm_M_worksOn rfl rfl rfl rfl)))))))))))))))))
theorem B_M_does_157 {G : Nat → Nat → Int32} {x1 s0 : Int32} : zden 166 157 [.ref 90, .int x1] [.int s0] (zSH, G) = some (some (.int s0), (zSH, G)) :=
  zd_iret a_M_does_157 rfl (znr_int _)
theorem B_M_does_158 {G : Nat → Nat → Int32} {x1 : Int32} : zden 166 158 [.ref 90, .int x1] [] (zSH, G) = zaft 166 174 [.ref 90, .int x1] [] (zSH, G) (zden 141 0 [.ref 90, .int (G 97 0), .int (G 97 1), .retAddr 0] [] (zSH, G)) :=
  (zd_aload_n a_M_does_158 rfl).trans ((zd_aload_n a_M_does_159 rfl).trans ((zd_getR (h := (zSH, G)) (ci := 8) (fi := 11) (a := 97) a_M_does_160 (by decide +kernel) sh_90 rfl rfl).trans ((zd_iconst (v := 0) a_M_does_163 (by decide)).trans ((zd_iald (h := (zSH, G)) a_M_does_164 sh_97 rfl).trans ((if_pos (by decide)).trans ((zd_aload_n a_M_does_165 rfl).trans ((zd_getR (h := (zSH, G)) (ci := 8) (fi := 11) (a := 97) a_M_does_166 (by decide +kernel) sh_90 rfl rfl).trans ((zd_iconst (v := 1) a_M_does_169 (by decide)).trans ((zd_iald (h := (zSH, G)) a_M_does_170 sh_97 rfl).trans ((if_pos (by decide)).trans ((zd_cal (kd := 0) (tg := 141) (T := m_M_favours) a_M_does_171 (by decide +kernel) hm_M_favours rfl rfl rfl rfl))))))))))))
theorem B_M_does_174 {G : Nat → Nat → Int32} {x1 s0 : Int32} : zden 166 174 [.ref 90, .int x1] [.int s0] (zSH, G) = some (some (.int s0), (zSH, G)) :=
  zd_iret a_M_does_174 rfl (znr_int _)
theorem B_M_does_175 {G : Nat → Nat → Int32} {x1 : Int32} : zden 166 175 [.ref 90, .int x1] [] (zSH, G) = zaft 166 185 [.ref 90, .int x1] [] (zSH, G) (zden 143 0 [.ref 90, .int (G 97 0)] [] (zSH, G)) :=
  (zd_aload_n a_M_does_175 rfl).trans ((zd_aload_n a_M_does_176 rfl).trans ((zd_getR (h := (zSH, G)) (ci := 8) (fi := 11) (a := 97) a_M_does_177 (by decide +kernel) sh_90 rfl rfl).trans ((zd_iconst (v := 0) a_M_does_180 (by decide)).trans ((zd_iald (h := (zSH, G)) a_M_does_181 sh_97 rfl).trans ((if_pos (by decide)).trans ((zd_cal (kd := 0) (tg := 143) (T := m_M_gives) a_M_does_182 (by decide +kernel) hm_M_gives rfl rfl rfl rfl)))))))
theorem B_M_does_185 {G : Nat → Nat → Int32} {x1 s0 : Int32} : zden 166 185 [.ref 90, .int x1] [.int s0] (zSH, G) = some (some (.int s0), (zSH, G)) :=
  zd_iret a_M_does_185 rfl (znr_int _)
theorem B_M_does_186 {G : Nat → Nat → Int32} {x1 : Int32} : zden 166 186 [.ref 90, .int x1] [] (zSH, G) = zaft 166 196 [.ref 90, .int x1] [] (zSH, G) (zden 145 0 [.ref 90, .int (G 97 0), .retAddr 0] [] (zSH, G)) :=
  (zd_aload_n a_M_does_186 rfl).trans ((zd_aload_n a_M_does_187 rfl).trans ((zd_getR (h := (zSH, G)) (ci := 8) (fi := 11) (a := 97) a_M_does_188 (by decide +kernel) sh_90 rfl rfl).trans ((zd_iconst (v := 0) a_M_does_191 (by decide)).trans ((zd_iald (h := (zSH, G)) a_M_does_192 sh_97 rfl).trans ((if_pos (by decide)).trans ((zd_cal (kd := 0) (tg := 145) (T := m_M_enters) a_M_does_193 (by decide +kernel) hm_M_enters rfl rfl rfl rfl)))))))
theorem B_M_does_196 {G : Nat → Nat → Int32} {x1 s0 : Int32} : zden 166 196 [.ref 90, .int x1] [.int s0] (zSH, G) = some (some (.int s0), (zSH, G)) :=
  zd_iret a_M_does_196 rfl (znr_int _)
theorem B_M_does_197 {G : Nat → Nat → Int32} {x1 : Int32} : zden 166 197 [.ref 90, .int x1] [] (zSH, G) = zaft 166 207 [.ref 90, .int x1] [] (zSH, G) (zden 147 0 [.ref 90, .int (G 97 0), .retAddr 0] [] (zSH, G)) :=
  (zd_aload_n a_M_does_197 rfl).trans ((zd_aload_n a_M_does_198 rfl).trans ((zd_getR (h := (zSH, G)) (ci := 8) (fi := 11) (a := 97) a_M_does_199 (by decide +kernel) sh_90 rfl rfl).trans ((zd_iconst (v := 0) a_M_does_202 (by decide)).trans ((zd_iald (h := (zSH, G)) a_M_does_203 sh_97 rfl).trans ((if_pos (by decide)).trans ((zd_cal (kd := 0) (tg := 147) (T := m_M_exports) a_M_does_204 (by decide +kernel) hm_M_exports rfl rfl rfl rfl)))))))
theorem B_M_does_207 {G : Nat → Nat → Int32} {x1 s0 : Int32} : zden 166 207 [.ref 90, .int x1] [.int s0] (zSH, G) = some (some (.int s0), (zSH, G)) :=
  zd_iret a_M_does_207 rfl (znr_int _)
theorem B_M_does_208 {G : Nat → Nat → Int32} {x1 : Int32} : zden 166 208 [.ref 90, .int x1] [] (zSH, G) = zaft 166 218 [.ref 90, .int x1] [] (zSH, G) (zden 149 0 [.ref 90, .int (G 97 0)] [] (zSH, G)) :=
  (zd_aload_n a_M_does_208 rfl).trans ((zd_aload_n a_M_does_209 rfl).trans ((zd_getR (h := (zSH, G)) (ci := 8) (fi := 11) (a := 97) a_M_does_210 (by decide +kernel) sh_90 rfl rfl).trans ((zd_iconst (v := 0) a_M_does_213 (by decide)).trans ((zd_iald (h := (zSH, G)) a_M_does_214 sh_97 rfl).trans ((if_pos (by decide)).trans ((zd_cal (kd := 0) (tg := 149) (T := m_M_goBy) a_M_does_215 (by decide +kernel) hm_M_goBy rfl rfl rfl rfl)))))))
theorem B_M_does_218 {G : Nat → Nat → Int32} {x1 s0 : Int32} : zden 166 218 [.ref 90, .int x1] [.int s0] (zSH, G) = some (some (.int s0), (zSH, G)) :=
  zd_iret a_M_does_218 rfl (znr_int _)
theorem a_M_append_0 : zAt 154 0 m_M_append (.iload_n 1) 1 := ⟨hm_M_append, by decide +kernel⟩
theorem a_M_append_1 : zAt 154 1 m_M_append (.bipush 32) 2 := ⟨hm_M_append, by decide +kernel⟩
theorem a_M_append_3 : zAt 154 3 m_M_append (.bipush 126) 2 := ⟨hm_M_append, by decide +kernel⟩
theorem a_M_append_5 : zAt 154 5 m_M_append (.invokestatic 64) 3 := ⟨hm_M_append, by decide +kernel⟩
theorem a_M_append_8 : zAt 154 8 m_M_append (.ifCond .ne 6) 3 := ⟨hm_M_append, by decide +kernel⟩
theorem a_M_append_11 : zAt 154 11 m_M_append (.bipush (-12)) 2 := ⟨hm_M_append, by decide +kernel⟩
theorem a_M_append_13 : zAt 154 13 m_M_append (.ireturn) 1 := ⟨hm_M_append, by decide +kernel⟩
theorem a_M_append_14 : zAt 154 14 m_M_append (.aload_n 0) 1 := ⟨hm_M_append, by decide +kernel⟩
theorem a_M_append_15 : zAt 154 15 m_M_append (.getfield 159) 3 := ⟨hm_M_append, by decide +kernel⟩
theorem a_M_append_18 : zAt 154 18 m_M_append (.bipush 60) 2 := ⟨hm_M_append, by decide +kernel⟩
theorem a_M_append_20 : zAt 154 20 m_M_append (.if_icmp .ne 6) 3 := ⟨hm_M_append, by decide +kernel⟩
theorem a_M_append_23 : zAt 154 23 m_M_append (.bipush (-13)) 2 := ⟨hm_M_append, by decide +kernel⟩
theorem a_M_append_25 : zAt 154 25 m_M_append (.ireturn) 1 := ⟨hm_M_append, by decide +kernel⟩
theorem a_M_append_26 : zAt 154 26 m_M_append (.aload_n 0) 1 := ⟨hm_M_append, by decide +kernel⟩
theorem a_M_append_27 : zAt 154 27 m_M_append (.getfield 22) 3 := ⟨hm_M_append, by decide +kernel⟩
theorem a_M_append_30 : zAt 154 30 m_M_append (.aload_n 0) 1 := ⟨hm_M_append, by decide +kernel⟩
theorem a_M_append_31 : zAt 154 31 m_M_append (.getfield 159) 3 := ⟨hm_M_append, by decide +kernel⟩
theorem a_M_append_34 : zAt 154 34 m_M_append (.iload_n 1) 1 := ⟨hm_M_append, by decide +kernel⟩
theorem a_M_append_35 : zAt 154 35 m_M_append (.iastore) 1 := ⟨hm_M_append, by decide +kernel⟩
theorem a_M_append_36 : zAt 154 36 m_M_append (.aload_n 0) 1 := ⟨hm_M_append, by decide +kernel⟩
theorem a_M_append_37 : zAt 154 37 m_M_append (.dup) 1 := ⟨hm_M_append, by decide +kernel⟩
theorem a_M_append_38 : zAt 154 38 m_M_append (.getfield 159) 3 := ⟨hm_M_append, by decide +kernel⟩
theorem a_M_append_41 : zAt 154 41 m_M_append (.iconst 1) 1 := ⟨hm_M_append, by decide +kernel⟩
theorem a_M_append_42 : zAt 154 42 m_M_append (.iadd) 1 := ⟨hm_M_append, by decide +kernel⟩
theorem a_M_append_43 : zAt 154 43 m_M_append (.putfield 159) 3 := ⟨hm_M_append, by decide +kernel⟩
theorem a_M_append_46 : zAt 154 46 m_M_append (.aload_n 0) 1 := ⟨hm_M_append, by decide +kernel⟩
theorem a_M_append_47 : zAt 154 47 m_M_append (.getfield 159) 3 := ⟨hm_M_append, by decide +kernel⟩
theorem a_M_append_50 : zAt 154 50 m_M_append (.ireturn) 1 := ⟨hm_M_append, by decide +kernel⟩
theorem B_M_append_0 {G : Nat → Nat → Int32} {x1 : Int32} (z35_0 : (¬ (bI (32 ≤ x1 ∧ x1 ≤ 126)) = 0) → (¬ (G 90 16) = 60) → zin (G 90 16) 60 = true) : zden 154 0 [.ref 90, .int x1] [] (zSH, G) = if ¬ (bI (32 ≤ x1 ∧ x1 ≤ 126)) = 0 then if ¬ (G 90 16) = 60 then some (some (.int ((zup (zup G 95 (G 90 16).toNatClampNeg x1) 90 16 (((zup G 95 (G 90 16).toNatClampNeg x1) 90 16) + 1)) 90 16)), (zSH, (zup (zup G 95 (G 90 16).toNatClampNeg x1) 90 16 (((zup G 95 (G 90 16).toNatClampNeg x1) 90 16) + 1)))) else some (some (.int (-13)), (zSH, G)) else some (some (.int (-12)), (zSH, G)) :=
  (zd_iload_n a_M_append_0 rfl).trans ((zd_bipush (v := 32) a_M_append_1 (by decide)).trans ((zd_bipush (v := 126) a_M_append_3 (by decide)).trans ((zd_cal (kd := 1) (tg := 110) (T := m_M_isIn) a_M_append_5 (by decide +kernel) hm_M_isIn rfl rfl rfl rfl).trans (((congrArg (zaft 154 8 [.ref 90, .int x1] [] (zSH, G)) (ms_isIn)).trans zaft_same).trans ((zd_if_ne a_M_append_8 rfl).trans (zitc (fun p3 => (zd_aload_n a_M_append_14 rfl).trans ((zd_getI (h := (zSH, G)) (ci := 8) (fi := 16) a_M_append_15 (by decide +kernel) sh_90 rfl).trans ((zd_bipush (v := 60) a_M_append_18 (by decide)).trans ((zd_icmp_ne a_M_append_20 rfl).trans (zitc (fun p4 => (zd_aload_n a_M_append_26 rfl).trans ((zd_getR (h := (zSH, G)) (ci := 8) (fi := 9) (a := 95) a_M_append_27 (by decide +kernel) sh_90 rfl rfl).trans ((zd_aload_n a_M_append_30 rfl).trans ((zd_getI (h := (zSH, G)) (ci := 8) (fi := 16) a_M_append_31 (by decide +kernel) sh_90 rfl).trans ((zd_iload_n a_M_append_34 rfl).trans ((zd_iast (h := (zSH, G)) a_M_append_35 sh_95).trans ((if_pos (z35_0 p3 p4)).trans ((zd_aload_n a_M_append_36 rfl).trans ((zd_num (st2 := [.ref 90, .ref 90]) a_M_append_37 rfl rfl rfl rfl).trans ((zd_getI (h := (zSH, (zup G 95 (G 90 16).toNatClampNeg x1))) (ci := 8) (fi := 16) a_M_append_38 (by decide +kernel) sh_90 rfl).trans ((zd_iconst (v := 1) a_M_append_41 (by decide)).trans ((zd_num (st2 := [.int (((zup G 95 (G 90 16).toNatClampNeg x1) 90 16) + 1), .ref 90]) a_M_append_42 rfl rfl rfl rfl).trans ((zd_putI (h := (zSH, (zup G 95 (G 90 16).toNatClampNeg x1))) (ci := 8) (fi := 16) a_M_append_43 (by decide +kernel) sh_90 rfl rfl).trans ((zd_aload_n a_M_append_46 rfl).trans ((zd_getI (h := (zSH, (zup (zup G 95 (G 90 16).toNatClampNeg x1) 90 16 (((zup G 95 (G 90 16).toNatClampNeg x1) 90 16) + 1)))) (ci := 8) (fi := 16) a_M_append_47 (by decide +kernel) sh_90 rfl).trans (zd_iret a_M_append_50 rfl (znr_int _))))))))))))))))) (fun p4 => (zd_bipush (v := (-13)) a_M_append_23 (by decide)).trans (zd_iret a_M_append_25 rfl (znr_int _)))))))) (fun p3 => (zd_bipush (v := (-12)) a_M_append_11 (by decide)).trans (zd_iret a_M_append_13 rfl (znr_int _)))))))))
theorem a_M_next_0 : zAt 159 0 m_M_next (.aload_n 0) 1 := ⟨hm_M_next, by decide +kernel⟩
theorem a_M_next_1 : zAt 159 1 m_M_next (.getfield 162) 3 := ⟨hm_M_next, by decide +kernel⟩
theorem a_M_next_4 : zAt 159 4 m_M_next (.aload_n 0) 1 := ⟨hm_M_next, by decide +kernel⟩
theorem a_M_next_5 : zAt 159 5 m_M_next (.getfield 165) 3 := ⟨hm_M_next, by decide +kernel⟩
theorem a_M_next_8 : zAt 159 8 m_M_next (.if_icmp .ge 15) 3 := ⟨hm_M_next, by decide +kernel⟩
theorem a_M_next_11 : zAt 159 11 m_M_next (.aload_n 0) 1 := ⟨hm_M_next, by decide +kernel⟩
theorem a_M_next_12 : zAt 159 12 m_M_next (.getfield 22) 3 := ⟨hm_M_next, by decide +kernel⟩
theorem a_M_next_15 : zAt 159 15 m_M_next (.aload_n 0) 1 := ⟨hm_M_next, by decide +kernel⟩
theorem a_M_next_16 : zAt 159 16 m_M_next (.getfield 162) 3 := ⟨hm_M_next, by decide +kernel⟩
theorem a_M_next_19 : zAt 159 19 m_M_next (.iaload) 1 := ⟨hm_M_next, by decide +kernel⟩
theorem a_M_next_20 : zAt 159 20 m_M_next (.goto 4) 3 := ⟨hm_M_next, by decide +kernel⟩
theorem a_M_next_23 : zAt 159 23 m_M_next (.iconst (-1)) 1 := ⟨hm_M_next, by decide +kernel⟩
theorem a_M_next_24 : zAt 159 24 m_M_next (.ireturn) 1 := ⟨hm_M_next, by decide +kernel⟩
theorem B_M_next_0 {G : Nat → Nat → Int32} (z19_0 : (¬ ((G 90 19) ≤ (G 90 18))) → zin (G 90 18) 60 = true) : zden 159 0 [.ref 90] [] (zSH, G) = if (G 90 19) ≤ (G 90 18) then some (some (.int (-1)), (zSH, G)) else some (some (.int (G 95 (G 90 18).toNatClampNeg)), (zSH, G)) :=
  (zd_aload_n a_M_next_0 rfl).trans ((zd_getI (h := (zSH, G)) (ci := 8) (fi := 18) a_M_next_1 (by decide +kernel) sh_90 rfl).trans ((zd_aload_n a_M_next_4 rfl).trans ((zd_getI (h := (zSH, G)) (ci := 8) (fi := 19) a_M_next_5 (by decide +kernel) sh_90 rfl).trans ((zd_icmp_ge a_M_next_8 rfl).trans (zitc (fun p2 => (zd_iconst (v := (-1)) a_M_next_23 (by decide)).trans (zd_iret a_M_next_24 rfl (znr_int _))) (fun p2 => (zd_aload_n a_M_next_11 rfl).trans ((zd_getR (h := (zSH, G)) (ci := 8) (fi := 9) (a := 95) a_M_next_12 (by decide +kernel) sh_90 rfl rfl).trans ((zd_aload_n a_M_next_15 rfl).trans ((zd_getI (h := (zSH, G)) (ci := 8) (fi := 18) a_M_next_16 (by decide +kernel) sh_90 rfl).trans ((zd_iald (h := (zSH, G)) a_M_next_19 sh_95 rfl).trans ((if_pos (z19_0 p2)).trans ((zd_goto a_M_next_20 rfl).trans (zd_iret a_M_next_24 rfl (znr_int _))))))))))))))
theorem a_M_mark_0 : zAt 160 0 m_M_mark (.aload_n 0) 1 := ⟨hm_M_mark, by decide +kernel⟩
theorem a_M_mark_1 : zAt 160 1 m_M_mark (.getfield 168) 3 := ⟨hm_M_mark, by decide +kernel⟩
theorem a_M_mark_4 : zAt 160 4 m_M_mark (.ifCond .eq 4) 3 := ⟨hm_M_mark, by decide +kernel⟩
theorem a_M_mark_7 : zAt 160 7 m_M_mark (.return_) 1 := ⟨hm_M_mark, by decide +kernel⟩
theorem a_M_mark_8 : zAt 160 8 m_M_mark (.aload_n 0) 1 := ⟨hm_M_mark, by decide +kernel⟩
theorem a_M_mark_9 : zAt 160 9 m_M_mark (.aload_n 0) 1 := ⟨hm_M_mark, by decide +kernel⟩
theorem a_M_mark_10 : zAt 160 10 m_M_mark (.invokevirtual 172) 3 := ⟨hm_M_mark, by decide +kernel⟩
theorem a_M_mark_13 : zAt 160 13 m_M_mark (.iload_n 1) 1 := ⟨hm_M_mark, by decide +kernel⟩
theorem a_M_mark_14 : zAt 160 14 m_M_mark (.if_icmp .eq 7) 3 := ⟨hm_M_mark, by decide +kernel⟩
theorem a_M_mark_17 : zAt 160 17 m_M_mark (.iconst 1) 1 := ⟨hm_M_mark, by decide +kernel⟩
theorem a_M_mark_18 : zAt 160 18 m_M_mark (.goto 4) 3 := ⟨hm_M_mark, by decide +kernel⟩
theorem a_M_mark_21 : zAt 160 21 m_M_mark (.iconst 0) 1 := ⟨hm_M_mark, by decide +kernel⟩
theorem a_M_mark_22 : zAt 160 22 m_M_mark (.putfield 168) 3 := ⟨hm_M_mark, by decide +kernel⟩
theorem a_M_mark_25 : zAt 160 25 m_M_mark (.aload_n 0) 1 := ⟨hm_M_mark, by decide +kernel⟩
theorem a_M_mark_26 : zAt 160 26 m_M_mark (.dup) 1 := ⟨hm_M_mark, by decide +kernel⟩
theorem a_M_mark_27 : zAt 160 27 m_M_mark (.getfield 162) 3 := ⟨hm_M_mark, by decide +kernel⟩
theorem a_M_mark_30 : zAt 160 30 m_M_mark (.aload_n 0) 1 := ⟨hm_M_mark, by decide +kernel⟩
theorem a_M_mark_31 : zAt 160 31 m_M_mark (.getfield 168) 3 := ⟨hm_M_mark, by decide +kernel⟩
theorem a_M_mark_34 : zAt 160 34 m_M_mark (.ifCond .eq 7) 3 := ⟨hm_M_mark, by decide +kernel⟩
theorem a_M_mark_37 : zAt 160 37 m_M_mark (.iconst 0) 1 := ⟨hm_M_mark, by decide +kernel⟩
theorem a_M_mark_38 : zAt 160 38 m_M_mark (.goto 4) 3 := ⟨hm_M_mark, by decide +kernel⟩
theorem a_M_mark_41 : zAt 160 41 m_M_mark (.iconst 1) 1 := ⟨hm_M_mark, by decide +kernel⟩
theorem a_M_mark_42 : zAt 160 42 m_M_mark (.iadd) 1 := ⟨hm_M_mark, by decide +kernel⟩
theorem a_M_mark_43 : zAt 160 43 m_M_mark (.putfield 162) 3 := ⟨hm_M_mark, by decide +kernel⟩
theorem a_M_mark_46 : zAt 160 46 m_M_mark (.return_) 1 := ⟨hm_M_mark, by decide +kernel⟩
theorem B_M_mark_0 {G : Nat → Nat → Int32} {x1 : Int32} : zden 160 0 [.ref 90, .int x1] [] (zSH, G) = if (G 90 20) = 0 then zaft 160 13 [.ref 90, .int x1] [.ref 90] (zSH, G) (zden 159 0 [.ref 90] [] (zSH, G)) else some (none, (zSH, G)) :=
  (zd_aload_n a_M_mark_0 rfl).trans ((zd_getI (h := (zSH, G)) (ci := 8) (fi := 20) a_M_mark_1 (by decide +kernel) sh_90 rfl).trans ((zd_if_eq a_M_mark_4 rfl).trans (zitc (fun p10 => (zd_aload_n a_M_mark_8 rfl).trans ((zd_aload_n a_M_mark_9 rfl).trans ((zd_cal (kd := 0) (tg := 159) (T := m_M_next) a_M_mark_10 (by decide +kernel) hm_M_next rfl rfl rfl rfl)))) (fun p10 => zd_vret a_M_mark_7 rfl))))
theorem B_M_mark_13 {G : Nat → Nat → Int32} {x1 s0 : Int32} : zden 160 13 [.ref 90, .int x1] [.int s0, .ref 90] (zSH, G) = if s0 = x1 then zden 160 22 [.ref 90, .int x1] [.int 0, .ref 90] (zSH, G) else zden 160 22 [.ref 90, .int x1] [.int 1, .ref 90] (zSH, G) :=
  (zd_iload_n a_M_mark_13 rfl).trans ((zd_icmp_eq a_M_mark_14 rfl).trans (zitc (fun p11 => (zd_iconst (v := 0) a_M_mark_21 (by decide))) (fun p11 => (zd_iconst (v := 1) a_M_mark_17 (by decide)).trans ((zd_goto a_M_mark_18 rfl)))))
theorem B_M_mark_22 {G : Nat → Nat → Int32} {x1 s0 : Int32} (f22 : zfit .boolean s0 = true) : zden 160 22 [.ref 90, .int x1] [.int s0, .ref 90] (zSH, G) = if ((zup G 90 20 s0) 90 20) = 0 then zden 160 42 [.ref 90, .int x1] [.int 1, .int ((zup G 90 20 s0) 90 18), .ref 90] (zSH, (zup G 90 20 s0)) else zden 160 42 [.ref 90, .int x1] [.int 0, .int ((zup G 90 20 s0) 90 18), .ref 90] (zSH, (zup G 90 20 s0)) :=
  (zd_putI (h := (zSH, G)) (ci := 8) (fi := 20) a_M_mark_22 (by decide +kernel) sh_90 rfl f22).trans ((zd_aload_n a_M_mark_25 rfl).trans ((zd_num (st2 := [.ref 90, .ref 90]) a_M_mark_26 rfl rfl rfl rfl).trans ((zd_getI (h := (zSH, (zup G 90 20 s0))) (ci := 8) (fi := 18) a_M_mark_27 (by decide +kernel) sh_90 rfl).trans ((zd_aload_n a_M_mark_30 rfl).trans ((zd_getI (h := (zSH, (zup G 90 20 s0))) (ci := 8) (fi := 20) a_M_mark_31 (by decide +kernel) sh_90 rfl).trans ((zd_if_eq a_M_mark_34 rfl).trans (zitc (fun p12 => (zd_iconst (v := 1) a_M_mark_41 (by decide))) (fun p12 => (zd_iconst (v := 0) a_M_mark_37 (by decide)).trans ((zd_goto a_M_mark_38 rfl))))))))))
theorem B_M_mark_42 {G : Nat → Nat → Int32} {x1 s0 s1 : Int32} : zden 160 42 [.ref 90, .int x1] [.int s0, .int s1, .ref 90] (zSH, G) = some (none, (zSH, (zup G 90 18 (s1 + s0)))) :=
  (zd_num (st2 := [.int (s1 + s0), .ref 90]) a_M_mark_42 rfl rfl rfl rfl).trans ((zd_putI (h := (zSH, G)) (ci := 8) (fi := 18) a_M_mark_43 (by decide +kernel) sh_90 rfl rfl).trans (zd_vret a_M_mark_46 rfl))
theorem a_M_digits_0 : zAt 162 0 m_M_digits (.iconst 0) 1 := ⟨hm_M_digits, by decide +kernel⟩
theorem a_M_digits_1 : zAt 162 1 m_M_digits (.istore_n 2) 1 := ⟨hm_M_digits, by decide +kernel⟩
theorem a_M_digits_2 : zAt 162 2 m_M_digits (.iconst 0) 1 := ⟨hm_M_digits, by decide +kernel⟩
theorem a_M_digits_3 : zAt 162 3 m_M_digits (.istore_n 3) 1 := ⟨hm_M_digits, by decide +kernel⟩
theorem a_M_digits_4 : zAt 162 4 m_M_digits (.aload_n 0) 1 := ⟨hm_M_digits, by decide +kernel⟩
theorem a_M_digits_5 : zAt 162 5 m_M_digits (.getfield 168) 3 := ⟨hm_M_digits, by decide +kernel⟩
theorem a_M_digits_8 : zAt 162 8 m_M_digits (.ifCond .ne 51) 3 := ⟨hm_M_digits, by decide +kernel⟩
theorem a_M_digits_11 : zAt 162 11 m_M_digits (.iload_n 3) 1 := ⟨hm_M_digits, by decide +kernel⟩
theorem a_M_digits_12 : zAt 162 12 m_M_digits (.iload_n 1) 1 := ⟨hm_M_digits, by decide +kernel⟩
theorem a_M_digits_13 : zAt 162 13 m_M_digits (.if_icmp .ge 46) 3 := ⟨hm_M_digits, by decide +kernel⟩
theorem a_M_digits_16 : zAt 162 16 m_M_digits (.aload_n 0) 1 := ⟨hm_M_digits, by decide +kernel⟩
theorem a_M_digits_17 : zAt 162 17 m_M_digits (.invokevirtual 172) 3 := ⟨hm_M_digits, by decide +kernel⟩
theorem a_M_digits_20 : zAt 162 20 m_M_digits (.bipush 48) 2 := ⟨hm_M_digits, by decide +kernel⟩
theorem a_M_digits_22 : zAt 162 22 m_M_digits (.bipush 57) 2 := ⟨hm_M_digits, by decide +kernel⟩
theorem a_M_digits_24 : zAt 162 24 m_M_digits (.invokestatic 64) 3 := ⟨hm_M_digits, by decide +kernel⟩
theorem a_M_digits_27 : zAt 162 27 m_M_digits (.ifCond .eq 32) 3 := ⟨hm_M_digits, by decide +kernel⟩
theorem a_M_digits_30 : zAt 162 30 m_M_digits (.bipush 10) 2 := ⟨hm_M_digits, by decide +kernel⟩
theorem a_M_digits_32 : zAt 162 32 m_M_digits (.iload_n 2) 1 := ⟨hm_M_digits, by decide +kernel⟩
theorem a_M_digits_33 : zAt 162 33 m_M_digits (.imul) 1 := ⟨hm_M_digits, by decide +kernel⟩
theorem a_M_digits_34 : zAt 162 34 m_M_digits (.aload_n 0) 1 := ⟨hm_M_digits, by decide +kernel⟩
theorem a_M_digits_35 : zAt 162 35 m_M_digits (.invokevirtual 172) 3 := ⟨hm_M_digits, by decide +kernel⟩
theorem a_M_digits_38 : zAt 162 38 m_M_digits (.iadd) 1 := ⟨hm_M_digits, by decide +kernel⟩
theorem a_M_digits_39 : zAt 162 39 m_M_digits (.bipush 48) 2 := ⟨hm_M_digits, by decide +kernel⟩
theorem a_M_digits_41 : zAt 162 41 m_M_digits (.isub) 1 := ⟨hm_M_digits, by decide +kernel⟩
theorem a_M_digits_42 : zAt 162 42 m_M_digits (.istore_n 2) 1 := ⟨hm_M_digits, by decide +kernel⟩
theorem a_M_digits_43 : zAt 162 43 m_M_digits (.aload_n 0) 1 := ⟨hm_M_digits, by decide +kernel⟩
theorem a_M_digits_44 : zAt 162 44 m_M_digits (.dup) 1 := ⟨hm_M_digits, by decide +kernel⟩
theorem a_M_digits_45 : zAt 162 45 m_M_digits (.getfield 162) 3 := ⟨hm_M_digits, by decide +kernel⟩
theorem a_M_digits_48 : zAt 162 48 m_M_digits (.iconst 1) 1 := ⟨hm_M_digits, by decide +kernel⟩
theorem a_M_digits_49 : zAt 162 49 m_M_digits (.iadd) 1 := ⟨hm_M_digits, by decide +kernel⟩
theorem a_M_digits_50 : zAt 162 50 m_M_digits (.putfield 162) 3 := ⟨hm_M_digits, by decide +kernel⟩
theorem a_M_digits_53 : zAt 162 53 m_M_digits (.iinc 3 1) 3 := ⟨hm_M_digits, by decide +kernel⟩
theorem a_M_digits_56 : zAt 162 56 m_M_digits (.goto (-52)) 3 := ⟨hm_M_digits, by decide +kernel⟩
theorem a_M_digits_59 : zAt 162 59 m_M_digits (.aload_n 0) 1 := ⟨hm_M_digits, by decide +kernel⟩
theorem a_M_digits_60 : zAt 162 60 m_M_digits (.dup) 1 := ⟨hm_M_digits, by decide +kernel⟩
theorem a_M_digits_61 : zAt 162 61 m_M_digits (.getfield 168) 3 := ⟨hm_M_digits, by decide +kernel⟩
theorem a_M_digits_64 : zAt 162 64 m_M_digits (.iload_n 3) 1 := ⟨hm_M_digits, by decide +kernel⟩
theorem a_M_digits_65 : zAt 162 65 m_M_digits (.ifCond .ne 7) 3 := ⟨hm_M_digits, by decide +kernel⟩
theorem a_M_digits_68 : zAt 162 68 m_M_digits (.iconst 1) 1 := ⟨hm_M_digits, by decide +kernel⟩
theorem a_M_digits_69 : zAt 162 69 m_M_digits (.goto 4) 3 := ⟨hm_M_digits, by decide +kernel⟩
theorem a_M_digits_72 : zAt 162 72 m_M_digits (.iconst 0) 1 := ⟨hm_M_digits, by decide +kernel⟩
theorem a_M_digits_73 : zAt 162 73 m_M_digits (.ior) 1 := ⟨hm_M_digits, by decide +kernel⟩
theorem a_M_digits_74 : zAt 162 74 m_M_digits (.putfield 168) 3 := ⟨hm_M_digits, by decide +kernel⟩
theorem a_M_digits_77 : zAt 162 77 m_M_digits (.iload_n 2) 1 := ⟨hm_M_digits, by decide +kernel⟩
theorem a_M_digits_78 : zAt 162 78 m_M_digits (.ireturn) 1 := ⟨hm_M_digits, by decide +kernel⟩
theorem B_M_digits_0 {G : Nat → Nat → Int32} {x1 : Int32} : zden 162 0 [.ref 90, .int x1, .retAddr 0, .retAddr 0] [] (zSH, G) = zden 162 4 [.ref 90, .int x1, .int 0, .int 0] [] (zSH, G) :=
  (zd_iconst (v := 0) a_M_digits_0 (by decide)).trans ((zd_istore_n a_M_digits_1 rfl rfl rfl).trans ((zd_iconst (v := 0) a_M_digits_2 (by decide)).trans ((zd_istore_n a_M_digits_3 rfl rfl rfl))))
theorem B_M_digits_4 {G : Nat → Nat → Int32} {x1 x2 x3 : Int32} : zden 162 4 [.ref 90, .int x1, .int x2, .int x3] [] (zSH, G) = if ¬ (G 90 20) = 0 then zden 162 59 [.ref 90, .int x1, .int x2, .int x3] [] (zSH, G) else if x1 ≤ x3 then zden 162 59 [.ref 90, .int x1, .int x2, .int x3] [] (zSH, G) else zaft 162 20 [.ref 90, .int x1, .int x2, .int x3] [] (zSH, G) (zden 159 0 [.ref 90] [] (zSH, G)) :=
  (zd_aload_n a_M_digits_4 rfl).trans ((zd_getI (h := (zSH, G)) (ci := 8) (fi := 20) a_M_digits_5 (by decide +kernel) sh_90 rfl).trans ((zd_if_ne a_M_digits_8 rfl).trans (zitc (fun p11 => rfl) (fun p11 => (zd_iload_n a_M_digits_11 rfl).trans ((zd_iload_n a_M_digits_12 rfl).trans ((zd_icmp_ge a_M_digits_13 rfl).trans (zitc (fun p12 => rfl) (fun p12 => (zd_aload_n a_M_digits_16 rfl).trans ((zd_cal (kd := 0) (tg := 159) (T := m_M_next) a_M_digits_17 (by decide +kernel) hm_M_next rfl rfl rfl rfl))))))))))
theorem B_M_digits_20 {G : Nat → Nat → Int32} {x1 x2 x3 s0 : Int32} : zden 162 20 [.ref 90, .int x1, .int x2, .int x3] [.int s0] (zSH, G) = if (bI (48 ≤ s0 ∧ s0 ≤ 57)) = 0 then zden 162 59 [.ref 90, .int x1, .int x2, .int x3] [] (zSH, G) else zaft 162 38 [.ref 90, .int x1, .int x2, .int x3] [.int (10 * x2)] (zSH, G) (zden 159 0 [.ref 90] [] (zSH, G)) :=
  (zd_bipush (v := 48) a_M_digits_20 (by decide)).trans ((zd_bipush (v := 57) a_M_digits_22 (by decide)).trans ((zd_cal (kd := 1) (tg := 110) (T := m_M_isIn) a_M_digits_24 (by decide +kernel) hm_M_isIn rfl rfl rfl rfl).trans (((congrArg (zaft 162 27 [.ref 90, .int x1, .int x2, .int x3] [] (zSH, G)) (ms_isIn)).trans zaft_same).trans ((zd_if_eq a_M_digits_27 rfl).trans (zitc (fun p13 => rfl) (fun p13 => (zd_bipush (v := 10) a_M_digits_30 (by decide)).trans ((zd_iload_n a_M_digits_32 rfl).trans ((zd_num (st2 := [.int (10 * x2)]) a_M_digits_33 rfl rfl rfl rfl).trans ((zd_aload_n a_M_digits_34 rfl).trans ((zd_cal (kd := 0) (tg := 159) (T := m_M_next) a_M_digits_35 (by decide +kernel) hm_M_next rfl rfl rfl rfl)))))))))))
theorem B_M_digits_38 {G : Nat → Nat → Int32} {x1 x2 x3 s0 s1 : Int32} : zden 162 38 [.ref 90, .int x1, .int x2, .int x3] [.int s0, .int s1] (zSH, G) = zden 162 4 [.ref 90, .int x1, .int ((s1 + s0) - 48), .int (x3 + 1)] [] (zSH, (zup G 90 18 ((G 90 18) + 1))) :=
  (zd_num (st2 := [.int (s1 + s0)]) a_M_digits_38 rfl rfl rfl rfl).trans ((zd_bipush (v := 48) a_M_digits_39 (by decide)).trans ((zd_num (st2 := [.int ((s1 + s0) - 48)]) a_M_digits_41 rfl rfl rfl rfl).trans ((zd_istore_n a_M_digits_42 rfl rfl rfl).trans ((zd_aload_n a_M_digits_43 rfl).trans ((zd_num (st2 := [.ref 90, .ref 90]) a_M_digits_44 rfl rfl rfl rfl).trans ((zd_getI (h := (zSH, G)) (ci := 8) (fi := 18) a_M_digits_45 (by decide +kernel) sh_90 rfl).trans ((zd_iconst (v := 1) a_M_digits_48 (by decide)).trans ((zd_num (st2 := [.int ((G 90 18) + 1), .ref 90]) a_M_digits_49 rfl rfl rfl rfl).trans ((zd_putI (h := (zSH, G)) (ci := 8) (fi := 18) a_M_digits_50 (by decide +kernel) sh_90 rfl rfl).trans ((zd_iinc (v := 1) a_M_digits_53 rfl (by decide) rfl rfl rfl).trans ((zd_goto a_M_digits_56 rfl))))))))))))
theorem B_M_digits_59 {G : Nat → Nat → Int32} {x1 x2 x3 : Int32} : zden 162 59 [.ref 90, .int x1, .int x2, .int x3] [] (zSH, G) = if ¬ x3 = 0 then zden 162 73 [.ref 90, .int x1, .int x2, .int x3] [.int 0, .int (G 90 20), .ref 90] (zSH, G) else zden 162 73 [.ref 90, .int x1, .int x2, .int x3] [.int 1, .int (G 90 20), .ref 90] (zSH, G) :=
  (zd_aload_n a_M_digits_59 rfl).trans ((zd_num (st2 := [.ref 90, .ref 90]) a_M_digits_60 rfl rfl rfl rfl).trans ((zd_getI (h := (zSH, G)) (ci := 8) (fi := 20) a_M_digits_61 (by decide +kernel) sh_90 rfl).trans ((zd_iload_n a_M_digits_64 rfl).trans ((zd_if_ne a_M_digits_65 rfl).trans (zitc (fun p14 => (zd_iconst (v := 0) a_M_digits_72 (by decide))) (fun p14 => (zd_iconst (v := 1) a_M_digits_68 (by decide)).trans ((zd_goto a_M_digits_69 rfl))))))))
theorem B_M_digits_73 {G : Nat → Nat → Int32} {x1 x2 x3 s0 s1 : Int32} (f74 : zfit .boolean (s1 ||| s0) = true) : zden 162 73 [.ref 90, .int x1, .int x2, .int x3] [.int s0, .int s1, .ref 90] (zSH, G) = some (some (.int x2), (zSH, (zup G 90 20 (s1 ||| s0)))) :=
  (zd_num (st2 := [.int (s1 ||| s0), .ref 90]) a_M_digits_73 rfl rfl rfl rfl).trans ((zd_putI (h := (zSH, G)) (ci := 8) (fi := 20) a_M_digits_74 (by decide +kernel) sh_90 rfl f74).trans ((zd_iload_n a_M_digits_77 rfl).trans (zd_iret a_M_digits_78 rfl (znr_int _))))
theorem a_M_behind_0 : zAt 164 0 m_M_behind (.aload_n 0) 1 := ⟨hm_M_behind, by decide +kernel⟩
theorem a_M_behind_1 : zAt 164 1 m_M_behind (.iload_n 1) 1 := ⟨hm_M_behind, by decide +kernel⟩
theorem a_M_behind_2 : zAt 164 2 m_M_behind (.invokevirtual 176) 3 := ⟨hm_M_behind, by decide +kernel⟩
theorem a_M_behind_5 : zAt 164 5 m_M_behind (.aload_n 0) 1 := ⟨hm_M_behind, by decide +kernel⟩
theorem a_M_behind_6 : zAt 164 6 m_M_behind (.getfield 168) 3 := ⟨hm_M_behind, by decide +kernel⟩
theorem a_M_behind_9 : zAt 164 9 m_M_behind (.ifCond .eq 7) 3 := ⟨hm_M_behind, by decide +kernel⟩
theorem a_M_behind_12 : zAt 164 12 m_M_behind (.iconst 0) 1 := ⟨hm_M_behind, by decide +kernel⟩
theorem a_M_behind_13 : zAt 164 13 m_M_behind (.goto 8) 3 := ⟨hm_M_behind, by decide +kernel⟩
theorem a_M_behind_16 : zAt 164 16 m_M_behind (.aload_n 0) 1 := ⟨hm_M_behind, by decide +kernel⟩
theorem a_M_behind_17 : zAt 164 17 m_M_behind (.iload_n 2) 1 := ⟨hm_M_behind, by decide +kernel⟩
theorem a_M_behind_18 : zAt 164 18 m_M_behind (.invokevirtual 179) 3 := ⟨hm_M_behind, by decide +kernel⟩
theorem a_M_behind_21 : zAt 164 21 m_M_behind (.ireturn) 1 := ⟨hm_M_behind, by decide +kernel⟩
theorem B_M_behind_0 {G : Nat → Nat → Int32} {x1 x2 : Int32} : zden 164 0 [.ref 90, .int x1, .int x2] [] (zSH, G) = zaft 164 5 [.ref 90, .int x1, .int x2] [] (zSH, G) (zden 160 0 [.ref 90, .int x1] [] (zSH, G)) :=
  (zd_aload_n a_M_behind_0 rfl).trans ((zd_iload_n a_M_behind_1 rfl).trans ((zd_cal (kd := 0) (tg := 160) (T := m_M_mark) a_M_behind_2 (by decide +kernel) hm_M_mark rfl rfl rfl rfl)))
theorem B_M_behind_5 {G : Nat → Nat → Int32} {x1 x2 : Int32} : zden 164 5 [.ref 90, .int x1, .int x2] [] (zSH, G) = if (G 90 20) = 0 then zaft 164 21 [.ref 90, .int x1, .int x2] [] (zSH, G) (zden 162 0 [.ref 90, .int x2, .retAddr 0, .retAddr 0] [] (zSH, G)) else some (some (.int 0), (zSH, G)) :=
  (zd_aload_n a_M_behind_5 rfl).trans ((zd_getI (h := (zSH, G)) (ci := 8) (fi := 20) a_M_behind_6 (by decide +kernel) sh_90 rfl).trans ((zd_if_eq a_M_behind_9 rfl).trans (zitc (fun p3 => (zd_aload_n a_M_behind_16 rfl).trans ((zd_iload_n a_M_behind_17 rfl).trans ((zd_cal (kd := 0) (tg := 162) (T := m_M_digits) a_M_behind_18 (by decide +kernel) hm_M_digits rfl rfl rfl rfl)))) (fun p3 => (zd_iconst (v := 0) a_M_behind_12 (by decide)).trans ((zd_goto a_M_behind_13 rfl).trans (zd_iret a_M_behind_21 rfl (znr_int _)))))))
theorem B_M_behind_21 {G : Nat → Nat → Int32} {x1 x2 s0 : Int32} : zden 164 21 [.ref 90, .int x1, .int x2] [.int s0] (zSH, G) = some (some (.int s0), (zSH, G)) :=
  zd_iret a_M_behind_21 rfl (znr_int _)
theorem a_M_word_0 : zAt 158 0 m_M_word (.aload_n 0) 1 := ⟨hm_M_word, by decide +kernel⟩
theorem a_M_word_1 : zAt 158 1 m_M_word (.invokevirtual 172) 3 := ⟨hm_M_word, by decide +kernel⟩
theorem a_M_word_4 : zAt 158 4 m_M_word (.istore_n 1) 1 := ⟨hm_M_word, by decide +kernel⟩
theorem a_M_word_5 : zAt 158 5 m_M_word (.aload_n 0) 1 := ⟨hm_M_word, by decide +kernel⟩
theorem a_M_word_6 : zAt 158 6 m_M_word (.getfield 162) 3 := ⟨hm_M_word, by decide +kernel⟩
theorem a_M_word_9 : zAt 158 9 m_M_word (.iconst 1) 1 := ⟨hm_M_word, by decide +kernel⟩
theorem a_M_word_10 : zAt 158 10 m_M_word (.iadd) 1 := ⟨hm_M_word, by decide +kernel⟩
theorem a_M_word_11 : zAt 158 11 m_M_word (.aload_n 0) 1 := ⟨hm_M_word, by decide +kernel⟩
theorem a_M_word_12 : zAt 158 12 m_M_word (.getfield 165) 3 := ⟨hm_M_word, by decide +kernel⟩
theorem a_M_word_15 : zAt 158 15 m_M_word (.if_icmp .ge 17) 3 := ⟨hm_M_word, by decide +kernel⟩
theorem a_M_word_18 : zAt 158 18 m_M_word (.aload_n 0) 1 := ⟨hm_M_word, by decide +kernel⟩
theorem a_M_word_19 : zAt 158 19 m_M_word (.getfield 22) 3 := ⟨hm_M_word, by decide +kernel⟩
theorem a_M_word_22 : zAt 158 22 m_M_word (.aload_n 0) 1 := ⟨hm_M_word, by decide +kernel⟩
theorem a_M_word_23 : zAt 158 23 m_M_word (.getfield 162) 3 := ⟨hm_M_word, by decide +kernel⟩
theorem a_M_word_26 : zAt 158 26 m_M_word (.iconst 1) 1 := ⟨hm_M_word, by decide +kernel⟩
theorem a_M_word_27 : zAt 158 27 m_M_word (.iadd) 1 := ⟨hm_M_word, by decide +kernel⟩
theorem a_M_word_28 : zAt 158 28 m_M_word (.iaload) 1 := ⟨hm_M_word, by decide +kernel⟩
theorem a_M_word_29 : zAt 158 29 m_M_word (.goto 4) 3 := ⟨hm_M_word, by decide +kernel⟩
theorem a_M_word_32 : zAt 158 32 m_M_word (.iconst (-1)) 1 := ⟨hm_M_word, by decide +kernel⟩
theorem a_M_word_33 : zAt 158 33 m_M_word (.istore_n 2) 1 := ⟨hm_M_word, by decide +kernel⟩
theorem a_M_word_34 : zAt 158 34 m_M_word (.iconst (-1)) 1 := ⟨hm_M_word, by decide +kernel⟩
theorem a_M_word_35 : zAt 158 35 m_M_word (.istore_n 3) 1 := ⟨hm_M_word, by decide +kernel⟩
theorem a_M_word_36 : zAt 158 36 m_M_word (.iconst 0) 1 := ⟨hm_M_word, by decide +kernel⟩
theorem a_M_word_37 : zAt 158 37 m_M_word (.istore 4) 2 := ⟨hm_M_word, by decide +kernel⟩
theorem a_M_word_39 : zAt 158 39 m_M_word (.iload 4) 2 := ⟨hm_M_word, by decide +kernel⟩
theorem a_M_word_41 : zAt 158 41 m_M_word (.bipush 9) 2 := ⟨hm_M_word, by decide +kernel⟩
theorem a_M_word_43 : zAt 158 43 m_M_word (.if_icmp .ge 54) 3 := ⟨hm_M_word, by decide +kernel⟩
theorem a_M_word_46 : zAt 158 46 m_M_word (.aload_n 0) 1 := ⟨hm_M_word, by decide +kernel⟩
theorem a_M_word_47 : zAt 158 47 m_M_word (.getfield 37) 3 := ⟨hm_M_word, by decide +kernel⟩
theorem a_M_word_50 : zAt 158 50 m_M_word (.aload_n 0) 1 := ⟨hm_M_word, by decide +kernel⟩
theorem a_M_word_51 : zAt 158 51 m_M_word (.getfield 40) 3 := ⟨hm_M_word, by decide +kernel⟩
theorem a_M_word_54 : zAt 158 54 m_M_word (.iload 4) 2 := ⟨hm_M_word, by decide +kernel⟩
theorem a_M_word_56 : zAt 158 56 m_M_word (.iaload) 1 := ⟨hm_M_word, by decide +kernel⟩
theorem a_M_word_57 : zAt 158 57 m_M_word (.iaload) 1 := ⟨hm_M_word, by decide +kernel⟩
theorem a_M_word_58 : zAt 158 58 m_M_word (.iload_n 1) 1 := ⟨hm_M_word, by decide +kernel⟩
theorem a_M_word_59 : zAt 158 59 m_M_word (.if_icmp .ne 30) 3 := ⟨hm_M_word, by decide +kernel⟩
theorem a_M_word_62 : zAt 158 62 m_M_word (.iload_n 3) 1 := ⟨hm_M_word, by decide +kernel⟩
theorem a_M_word_63 : zAt 158 63 m_M_word (.ifCond .lt 21) 3 := ⟨hm_M_word, by decide +kernel⟩
theorem a_M_word_66 : zAt 158 66 m_M_word (.aload_n 0) 1 := ⟨hm_M_word, by decide +kernel⟩
theorem a_M_word_67 : zAt 158 67 m_M_word (.getfield 37) 3 := ⟨hm_M_word, by decide +kernel⟩
theorem a_M_word_70 : zAt 158 70 m_M_word (.aload_n 0) 1 := ⟨hm_M_word, by decide +kernel⟩
theorem a_M_word_71 : zAt 158 71 m_M_word (.getfield 40) 3 := ⟨hm_M_word, by decide +kernel⟩
theorem a_M_word_74 : zAt 158 74 m_M_word (.iload 4) 2 := ⟨hm_M_word, by decide +kernel⟩
theorem a_M_word_76 : zAt 158 76 m_M_word (.iaload) 1 := ⟨hm_M_word, by decide +kernel⟩
theorem a_M_word_77 : zAt 158 77 m_M_word (.iconst 1) 1 := ⟨hm_M_word, by decide +kernel⟩
theorem a_M_word_78 : zAt 158 78 m_M_word (.iadd) 1 := ⟨hm_M_word, by decide +kernel⟩
theorem a_M_word_79 : zAt 158 79 m_M_word (.iaload) 1 := ⟨hm_M_word, by decide +kernel⟩
theorem a_M_word_80 : zAt 158 80 m_M_word (.iload_n 2) 1 := ⟨hm_M_word, by decide +kernel⟩
theorem a_M_word_81 : zAt 158 81 m_M_word (.if_icmp .ne 8) 3 := ⟨hm_M_word, by decide +kernel⟩
theorem a_M_word_84 : zAt 158 84 m_M_word (.iload 4) 2 := ⟨hm_M_word, by decide +kernel⟩
theorem a_M_word_86 : zAt 158 86 m_M_word (.goto 4) 3 := ⟨hm_M_word, by decide +kernel⟩
theorem a_M_word_89 : zAt 158 89 m_M_word (.iload_n 3) 1 := ⟨hm_M_word, by decide +kernel⟩
theorem a_M_word_90 : zAt 158 90 m_M_word (.istore_n 3) 1 := ⟨hm_M_word, by decide +kernel⟩
theorem a_M_word_91 : zAt 158 91 m_M_word (.iinc 4 1) 3 := ⟨hm_M_word, by decide +kernel⟩
theorem a_M_word_94 : zAt 158 94 m_M_word (.goto (-55)) 3 := ⟨hm_M_word, by decide +kernel⟩
theorem a_M_word_97 : zAt 158 97 m_M_word (.aload_n 0) 1 := ⟨hm_M_word, by decide +kernel⟩
theorem a_M_word_98 : zAt 158 98 m_M_word (.iload_n 3) 1 := ⟨hm_M_word, by decide +kernel⟩
theorem a_M_word_99 : zAt 158 99 m_M_word (.ifCond .ge 7) 3 := ⟨hm_M_word, by decide +kernel⟩
theorem a_M_word_102 : zAt 158 102 m_M_word (.iconst 1) 1 := ⟨hm_M_word, by decide +kernel⟩
theorem a_M_word_103 : zAt 158 103 m_M_word (.goto 4) 3 := ⟨hm_M_word, by decide +kernel⟩
theorem a_M_word_106 : zAt 158 106 m_M_word (.iconst 0) 1 := ⟨hm_M_word, by decide +kernel⟩
theorem a_M_word_107 : zAt 158 107 m_M_word (.putfield 168) 3 := ⟨hm_M_word, by decide +kernel⟩
theorem a_M_word_110 : zAt 158 110 m_M_word (.aload_n 0) 1 := ⟨hm_M_word, by decide +kernel⟩
theorem a_M_word_111 : zAt 158 111 m_M_word (.getfield 168) 3 := ⟨hm_M_word, by decide +kernel⟩
theorem a_M_word_114 : zAt 158 114 m_M_word (.ifCond .eq 7) 3 := ⟨hm_M_word, by decide +kernel⟩
theorem a_M_word_117 : zAt 158 117 m_M_word (.iconst 0) 1 := ⟨hm_M_word, by decide +kernel⟩
theorem a_M_word_118 : zAt 158 118 m_M_word (.goto 9) 3 := ⟨hm_M_word, by decide +kernel⟩
theorem a_M_word_121 : zAt 158 121 m_M_word (.aload_n 0) 1 := ⟨hm_M_word, by decide +kernel⟩
theorem a_M_word_122 : zAt 158 122 m_M_word (.getfield 40) 3 := ⟨hm_M_word, by decide +kernel⟩
theorem a_M_word_125 : zAt 158 125 m_M_word (.iload_n 3) 1 := ⟨hm_M_word, by decide +kernel⟩
theorem a_M_word_126 : zAt 158 126 m_M_word (.iaload) 1 := ⟨hm_M_word, by decide +kernel⟩
theorem a_M_word_127 : zAt 158 127 m_M_word (.istore 4) 2 := ⟨hm_M_word, by decide +kernel⟩
theorem a_M_word_129 : zAt 158 129 m_M_word (.aload_n 0) 1 := ⟨hm_M_word, by decide +kernel⟩
theorem a_M_word_130 : zAt 158 130 m_M_word (.getfield 168) 3 := ⟨hm_M_word, by decide +kernel⟩
theorem a_M_word_133 : zAt 158 133 m_M_word (.ifCond .ne 33) 3 := ⟨hm_M_word, by decide +kernel⟩
theorem a_M_word_136 : zAt 158 136 m_M_word (.iload 4) 2 := ⟨hm_M_word, by decide +kernel⟩
theorem a_M_word_138 : zAt 158 138 m_M_word (.aload_n 0) 1 := ⟨hm_M_word, by decide +kernel⟩
theorem a_M_word_139 : zAt 158 139 m_M_word (.getfield 40) 3 := ⟨hm_M_word, by decide +kernel⟩
theorem a_M_word_142 : zAt 158 142 m_M_word (.iload_n 3) 1 := ⟨hm_M_word, by decide +kernel⟩
theorem a_M_word_143 : zAt 158 143 m_M_word (.iconst 1) 1 := ⟨hm_M_word, by decide +kernel⟩
theorem a_M_word_144 : zAt 158 144 m_M_word (.iadd) 1 := ⟨hm_M_word, by decide +kernel⟩
theorem a_M_word_145 : zAt 158 145 m_M_word (.iaload) 1 := ⟨hm_M_word, by decide +kernel⟩
theorem a_M_word_146 : zAt 158 146 m_M_word (.if_icmp .ge 20) 3 := ⟨hm_M_word, by decide +kernel⟩
theorem a_M_word_149 : zAt 158 149 m_M_word (.aload_n 0) 1 := ⟨hm_M_word, by decide +kernel⟩
theorem a_M_word_150 : zAt 158 150 m_M_word (.aload_n 0) 1 := ⟨hm_M_word, by decide +kernel⟩
theorem a_M_word_151 : zAt 158 151 m_M_word (.getfield 37) 3 := ⟨hm_M_word, by decide +kernel⟩
theorem a_M_word_154 : zAt 158 154 m_M_word (.iload 4) 2 := ⟨hm_M_word, by decide +kernel⟩
theorem a_M_word_156 : zAt 158 156 m_M_word (.iaload) 1 := ⟨hm_M_word, by decide +kernel⟩
theorem a_M_word_157 : zAt 158 157 m_M_word (.invokevirtual 176) 3 := ⟨hm_M_word, by decide +kernel⟩
theorem a_M_word_160 : zAt 158 160 m_M_word (.iinc 4 1) 3 := ⟨hm_M_word, by decide +kernel⟩
theorem a_M_word_163 : zAt 158 163 m_M_word (.goto (-34)) 3 := ⟨hm_M_word, by decide +kernel⟩
theorem a_M_word_166 : zAt 158 166 m_M_word (.iload_n 3) 1 := ⟨hm_M_word, by decide +kernel⟩
theorem a_M_word_167 : zAt 158 167 m_M_word (.ireturn) 1 := ⟨hm_M_word, by decide +kernel⟩
theorem B_M_word_0 {G : Nat → Nat → Int32} : zden 158 0 [.ref 90, .retAddr 0, .retAddr 0, .retAddr 0, .retAddr 0] [] (zSH, G) = zaft 158 4 [.ref 90, .retAddr 0, .retAddr 0, .retAddr 0, .retAddr 0] [] (zSH, G) (zden 159 0 [.ref 90] [] (zSH, G)) :=
  (zd_aload_n a_M_word_0 rfl).trans ((zd_cal (kd := 0) (tg := 159) (T := m_M_next) a_M_word_1 (by decide +kernel) hm_M_next rfl rfl rfl rfl))
theorem B_M_word_4 {G : Nat → Nat → Int32} {s0 : Int32} (z28_0 : (¬ ((G 90 19) ≤ ((G 90 18) + 1))) → zin ((G 90 18) + 1) 60 = true) : zden 158 4 [.ref 90, .retAddr 0, .retAddr 0, .retAddr 0, .retAddr 0] [.int s0] (zSH, G) = if (G 90 19) ≤ ((G 90 18) + 1) then zden 158 33 [.ref 90, .int s0, .retAddr 0, .retAddr 0, .retAddr 0] [.int (-1)] (zSH, G) else zden 158 33 [.ref 90, .int s0, .retAddr 0, .retAddr 0, .retAddr 0] [.int (G 95 ((G 90 18) + 1).toNatClampNeg)] (zSH, G) :=
  (zd_istore_n a_M_word_4 rfl rfl rfl).trans ((zd_aload_n a_M_word_5 rfl).trans ((zd_getI (h := (zSH, G)) (ci := 8) (fi := 18) a_M_word_6 (by decide +kernel) sh_90 rfl).trans ((zd_iconst (v := 1) a_M_word_9 (by decide)).trans ((zd_num (st2 := [.int ((G 90 18) + 1)]) a_M_word_10 rfl rfl rfl rfl).trans ((zd_aload_n a_M_word_11 rfl).trans ((zd_getI (h := (zSH, G)) (ci := 8) (fi := 19) a_M_word_12 (by decide +kernel) sh_90 rfl).trans ((zd_icmp_ge a_M_word_15 rfl).trans (zitc (fun p41 => (zd_iconst (v := (-1)) a_M_word_32 (by decide))) (fun p41 => (zd_aload_n a_M_word_18 rfl).trans ((zd_getR (h := (zSH, G)) (ci := 8) (fi := 9) (a := 95) a_M_word_19 (by decide +kernel) sh_90 rfl rfl).trans ((zd_aload_n a_M_word_22 rfl).trans ((zd_getI (h := (zSH, G)) (ci := 8) (fi := 18) a_M_word_23 (by decide +kernel) sh_90 rfl).trans ((zd_iconst (v := 1) a_M_word_26 (by decide)).trans ((zd_num (st2 := [.int ((G 90 18) + 1), .ref 95]) a_M_word_27 rfl rfl rfl rfl).trans ((zd_iald (h := (zSH, G)) a_M_word_28 sh_95 rfl).trans ((if_pos (z28_0 p41)).trans ((zd_goto a_M_word_29 rfl))))))))))))))))))
theorem B_M_word_33 {G : Nat → Nat → Int32} {x1 s0 : Int32} : zden 158 33 [.ref 90, .int x1, .retAddr 0, .retAddr 0, .retAddr 0] [.int s0] (zSH, G) = zden 158 39 [.ref 90, .int x1, .int s0, .int (-1), .int 0] [] (zSH, G) :=
  (zd_istore_n a_M_word_33 rfl rfl rfl).trans ((zd_iconst (v := (-1)) a_M_word_34 (by decide)).trans ((zd_istore_n a_M_word_35 rfl rfl rfl).trans ((zd_iconst (v := 0) a_M_word_36 (by decide)).trans ((zd_istore a_M_word_37 rfl rfl rfl)))))
theorem B_M_word_39 {G : Nat → Nat → Int32} {x1 x2 x3 x4 : Int32} (z56_0 : (¬ (9 ≤ x4)) → zin x4 10 = true) (z57_1 : (¬ (9 ≤ x4)) → zin (G 101 x4.toNatClampNeg) 52 = true) (z76_2 : (¬ (9 ≤ x4)) → (¬ (¬ (G 100 (G 101 x4.toNatClampNeg).toNatClampNeg) = x1)) → (¬ (x3 < 0)) → zin x4 10 = true) (z79_3 : (¬ (9 ≤ x4)) → (¬ (¬ (G 100 (G 101 x4.toNatClampNeg).toNatClampNeg) = x1)) → (¬ (x3 < 0)) → zin ((G 101 x4.toNatClampNeg) + 1) 52 = true) : zden 158 39 [.ref 90, .int x1, .int x2, .int x3, .int x4] [] (zSH, G) = if 9 ≤ x4 then if 0 ≤ x3 then zden 158 107 [.ref 90, .int x1, .int x2, .int x3, .int x4] [.int 0, .ref 90] (zSH, G) else zden 158 107 [.ref 90, .int x1, .int x2, .int x3, .int x4] [.int 1, .ref 90] (zSH, G) else if ¬ (G 100 (G 101 x4.toNatClampNeg).toNatClampNeg) = x1 then zden 158 89 [.ref 90, .int x1, .int x2, .int x3, .int x4] [] (zSH, G) else if x3 < 0 then zden 158 84 [.ref 90, .int x1, .int x2, .int x3, .int x4] [] (zSH, G) else if ¬ (G 100 ((G 101 x4.toNatClampNeg) + 1).toNatClampNeg) = x2 then zden 158 89 [.ref 90, .int x1, .int x2, .int x3, .int x4] [] (zSH, G) else zden 158 84 [.ref 90, .int x1, .int x2, .int x3, .int x4] [] (zSH, G) :=
  (zd_iload a_M_word_39 rfl).trans ((zd_bipush (v := 9) a_M_word_41 (by decide)).trans ((zd_icmp_ge a_M_word_43 rfl).trans (zitc (fun p42 => (zd_aload_n a_M_word_97 rfl).trans ((zd_iload_n a_M_word_98 rfl).trans ((zd_if_ge a_M_word_99 rfl).trans (zitc (fun p43 => (zd_iconst (v := 0) a_M_word_106 (by decide))) (fun p43 => (zd_iconst (v := 1) a_M_word_102 (by decide)).trans ((zd_goto a_M_word_103 rfl))))))) (fun p42 => (zd_aload_n a_M_word_46 rfl).trans ((zd_getR (h := (zSH, G)) (ci := 8) (fi := 14) (a := 100) a_M_word_47 (by decide +kernel) sh_90 rfl rfl).trans ((zd_aload_n a_M_word_50 rfl).trans ((zd_getR (h := (zSH, G)) (ci := 8) (fi := 15) (a := 101) a_M_word_51 (by decide +kernel) sh_90 rfl rfl).trans ((zd_iload a_M_word_54 rfl).trans ((zd_iald (h := (zSH, G)) a_M_word_56 sh_101 rfl).trans ((if_pos (z56_0 p42)).trans ((zd_iald (h := (zSH, G)) a_M_word_57 sh_100 rfl).trans ((if_pos (z57_1 p42)).trans ((zd_iload_n a_M_word_58 rfl).trans ((zd_icmp_ne a_M_word_59 rfl).trans (zitc (fun p44 => rfl) (fun p44 => (zd_iload_n a_M_word_62 rfl).trans ((zd_if_lt a_M_word_63 rfl).trans (zitc (fun p45 => rfl) (fun p45 => (zd_aload_n a_M_word_66 rfl).trans ((zd_getR (h := (zSH, G)) (ci := 8) (fi := 14) (a := 100) a_M_word_67 (by decide +kernel) sh_90 rfl rfl).trans ((zd_aload_n a_M_word_70 rfl).trans ((zd_getR (h := (zSH, G)) (ci := 8) (fi := 15) (a := 101) a_M_word_71 (by decide +kernel) sh_90 rfl rfl).trans ((zd_iload a_M_word_74 rfl).trans ((zd_iald (h := (zSH, G)) a_M_word_76 sh_101 rfl).trans ((if_pos (z76_2 p42 p44 p45)).trans ((zd_iconst (v := 1) a_M_word_77 (by decide)).trans ((zd_num (st2 := [.int ((G 101 x4.toNatClampNeg) + 1), .ref 100]) a_M_word_78 rfl rfl rfl rfl).trans ((zd_iald (h := (zSH, G)) a_M_word_79 sh_100 rfl).trans ((if_pos (z79_3 p42 p44 p45)).trans ((zd_iload_n a_M_word_80 rfl).trans ((zd_icmp_ne a_M_word_81 rfl))))))))))))))))))))))))))))))))
theorem B_M_word_84 {G : Nat → Nat → Int32} {x1 x2 x3 x4 : Int32} : zden 158 84 [.ref 90, .int x1, .int x2, .int x3, .int x4] [] (zSH, G) = zden 158 90 [.ref 90, .int x1, .int x2, .int x3, .int x4] [.int x4] (zSH, G) :=
  (zd_iload a_M_word_84 rfl).trans ((zd_goto a_M_word_86 rfl))
theorem B_M_word_89 {G : Nat → Nat → Int32} {x1 x2 x3 x4 : Int32} : zden 158 89 [.ref 90, .int x1, .int x2, .int x3, .int x4] [] (zSH, G) = zden 158 90 [.ref 90, .int x1, .int x2, .int x3, .int x4] [.int x3] (zSH, G) :=
  (zd_iload_n a_M_word_89 rfl)
theorem B_M_word_90 {G : Nat → Nat → Int32} {x1 x2 x3 x4 s0 : Int32} : zden 158 90 [.ref 90, .int x1, .int x2, .int x3, .int x4] [.int s0] (zSH, G) = zden 158 39 [.ref 90, .int x1, .int x2, .int s0, .int (x4 + 1)] [] (zSH, G) :=
  (zd_istore_n a_M_word_90 rfl rfl rfl).trans ((zd_iinc (v := 1) a_M_word_91 rfl (by decide) rfl rfl rfl).trans ((zd_goto a_M_word_94 rfl)))
theorem B_M_word_107 {G : Nat → Nat → Int32} {x1 x2 x3 x4 s0 : Int32} (f107 : zfit .boolean s0 = true) (z126_1 : (((zup G 90 20 s0) 90 20) = 0) → zin x3 10 = true) : zden 158 107 [.ref 90, .int x1, .int x2, .int x3, .int x4] [.int s0, .ref 90] (zSH, G) = if ((zup G 90 20 s0) 90 20) = 0 then zden 158 127 [.ref 90, .int x1, .int x2, .int x3, .int x4] [.int ((zup G 90 20 s0) 101 x3.toNatClampNeg)] (zSH, (zup G 90 20 s0)) else zden 158 127 [.ref 90, .int x1, .int x2, .int x3, .int x4] [.int 0] (zSH, (zup G 90 20 s0)) :=
  (zd_putI (h := (zSH, G)) (ci := 8) (fi := 20) a_M_word_107 (by decide +kernel) sh_90 rfl f107).trans ((zd_aload_n a_M_word_110 rfl).trans ((zd_getI (h := (zSH, (zup G 90 20 s0))) (ci := 8) (fi := 20) a_M_word_111 (by decide +kernel) sh_90 rfl).trans ((zd_if_eq a_M_word_114 rfl).trans (zitc (fun p47 => (zd_aload_n a_M_word_121 rfl).trans ((zd_getR (h := (zSH, (zup G 90 20 s0))) (ci := 8) (fi := 15) (a := 101) a_M_word_122 (by decide +kernel) sh_90 rfl rfl).trans ((zd_iload_n a_M_word_125 rfl).trans ((zd_iald (h := (zSH, (zup G 90 20 s0))) a_M_word_126 sh_101 rfl).trans ((if_pos (z126_1 p47))))))) (fun p47 => (zd_iconst (v := 0) a_M_word_117 (by decide)).trans ((zd_goto a_M_word_118 rfl)))))))
theorem B_M_word_127 {G : Nat → Nat → Int32} {x1 x2 x3 x4 s0 : Int32} : zden 158 127 [.ref 90, .int x1, .int x2, .int x3, .int x4] [.int s0] (zSH, G) = zden 158 129 [.ref 90, .int x1, .int x2, .int x3, .int s0] [] (zSH, G) :=
  (zd_istore a_M_word_127 rfl rfl rfl)
theorem B_M_word_129 {G : Nat → Nat → Int32} {x1 x2 x3 x4 : Int32} (z145_0 : (¬ (¬ (G 90 20) = 0)) → zin (x3 + 1) 10 = true) (z156_1 : (¬ (¬ (G 90 20) = 0)) → (¬ ((G 101 (x3 + 1).toNatClampNeg) ≤ x4)) → zin x4 52 = true) : zden 158 129 [.ref 90, .int x1, .int x2, .int x3, .int x4] [] (zSH, G) = if ¬ (G 90 20) = 0 then some (some (.int x3), (zSH, G)) else if (G 101 (x3 + 1).toNatClampNeg) ≤ x4 then some (some (.int x3), (zSH, G)) else zaft 158 160 [.ref 90, .int x1, .int x2, .int x3, .int x4] [] (zSH, G) (zden 160 0 [.ref 90, .int (G 100 x4.toNatClampNeg)] [] (zSH, G)) :=
  (zd_aload_n a_M_word_129 rfl).trans ((zd_getI (h := (zSH, G)) (ci := 8) (fi := 20) a_M_word_130 (by decide +kernel) sh_90 rfl).trans ((zd_if_ne a_M_word_133 rfl).trans (zitc (fun p48 => (zd_iload_n a_M_word_166 rfl).trans (zd_iret a_M_word_167 rfl (znr_int _))) (fun p48 => (zd_iload a_M_word_136 rfl).trans ((zd_aload_n a_M_word_138 rfl).trans ((zd_getR (h := (zSH, G)) (ci := 8) (fi := 15) (a := 101) a_M_word_139 (by decide +kernel) sh_90 rfl rfl).trans ((zd_iload_n a_M_word_142 rfl).trans ((zd_iconst (v := 1) a_M_word_143 (by decide)).trans ((zd_num (st2 := [.int (x3 + 1), .ref 101, .int x4]) a_M_word_144 rfl rfl rfl rfl).trans ((zd_iald (h := (zSH, G)) a_M_word_145 sh_101 rfl).trans ((if_pos (z145_0 p48)).trans ((zd_icmp_ge a_M_word_146 rfl).trans (zitc (fun p49 => (zd_iload_n a_M_word_166 rfl).trans (zd_iret a_M_word_167 rfl (znr_int _))) (fun p49 => (zd_aload_n a_M_word_149 rfl).trans ((zd_aload_n a_M_word_150 rfl).trans ((zd_getR (h := (zSH, G)) (ci := 8) (fi := 14) (a := 100) a_M_word_151 (by decide +kernel) sh_90 rfl rfl).trans ((zd_iload a_M_word_154 rfl).trans ((zd_iald (h := (zSH, G)) a_M_word_156 sh_100 rfl).trans ((if_pos (z156_1 p48 p49)).trans ((zd_cal (kd := 0) (tg := 160) (T := m_M_mark) a_M_word_157 (by decide +kernel) hm_M_mark rfl rfl rfl rfl)))))))))))))))))))))
theorem B_M_word_160 {G : Nat → Nat → Int32} {x1 x2 x3 x4 : Int32} : zden 158 160 [.ref 90, .int x1, .int x2, .int x3, .int x4] [] (zSH, G) = zden 158 129 [.ref 90, .int x1, .int x2, .int x3, .int (x4 + 1)] [] (zSH, G) :=
  (zd_iinc (v := 1) a_M_word_160 rfl (by decide) rfl rfl rfl).trans ((zd_goto a_M_word_163 rfl))
theorem a_M_headTold_0 : zAt 163 0 m_M_headTold (.aload_n 0) 1 := ⟨hm_M_headTold, by decide +kernel⟩
theorem a_M_headTold_1 : zAt 163 1 m_M_headTold (.bipush 32) 2 := ⟨hm_M_headTold, by decide +kernel⟩
theorem a_M_headTold_3 : zAt 163 3 m_M_headTold (.invokevirtual 176) 3 := ⟨hm_M_headTold, by decide +kernel⟩
theorem a_M_headTold_6 : zAt 163 6 m_M_headTold (.aload_n 0) 1 := ⟨hm_M_headTold, by decide +kernel⟩
theorem a_M_headTold_7 : zAt 163 7 m_M_headTold (.getfield 28) 3 := ⟨hm_M_headTold, by decide +kernel⟩
theorem a_M_headTold_10 : zAt 163 10 m_M_headTold (.iconst 1) 1 := ⟨hm_M_headTold, by decide +kernel⟩
theorem a_M_headTold_11 : zAt 163 11 m_M_headTold (.aload_n 0) 1 := ⟨hm_M_headTold, by decide +kernel⟩
theorem a_M_headTold_12 : zAt 163 12 m_M_headTold (.aload_n 0) 1 := ⟨hm_M_headTold, by decide +kernel⟩
theorem a_M_headTold_13 : zAt 163 13 m_M_headTold (.getfield 31) 3 := ⟨hm_M_headTold, by decide +kernel⟩
theorem a_M_headTold_16 : zAt 163 16 m_M_headTold (.iconst 5) 1 := ⟨hm_M_headTold, by decide +kernel⟩
theorem a_M_headTold_17 : zAt 163 17 m_M_headTold (.invokevirtual 182) 3 := ⟨hm_M_headTold, by decide +kernel⟩
theorem a_M_headTold_20 : zAt 163 20 m_M_headTold (.iastore) 1 := ⟨hm_M_headTold, by decide +kernel⟩
theorem a_M_headTold_21 : zAt 163 21 m_M_headTold (.aload_n 0) 1 := ⟨hm_M_headTold, by decide +kernel⟩
theorem a_M_headTold_22 : zAt 163 22 m_M_headTold (.getfield 28) 3 := ⟨hm_M_headTold, by decide +kernel⟩
theorem a_M_headTold_25 : zAt 163 25 m_M_headTold (.iconst 2) 1 := ⟨hm_M_headTold, by decide +kernel⟩
theorem a_M_headTold_26 : zAt 163 26 m_M_headTold (.aload_n 0) 1 := ⟨hm_M_headTold, by decide +kernel⟩
theorem a_M_headTold_27 : zAt 163 27 m_M_headTold (.aload_n 0) 1 := ⟨hm_M_headTold, by decide +kernel⟩
theorem a_M_headTold_28 : zAt 163 28 m_M_headTold (.getfield 34) 3 := ⟨hm_M_headTold, by decide +kernel⟩
theorem a_M_headTold_31 : zAt 163 31 m_M_headTold (.iconst 4) 1 := ⟨hm_M_headTold, by decide +kernel⟩
theorem a_M_headTold_32 : zAt 163 32 m_M_headTold (.invokevirtual 182) 3 := ⟨hm_M_headTold, by decide +kernel⟩
theorem a_M_headTold_35 : zAt 163 35 m_M_headTold (.iastore) 1 := ⟨hm_M_headTold, by decide +kernel⟩
theorem a_M_headTold_36 : zAt 163 36 m_M_headTold (.aload_n 0) 1 := ⟨hm_M_headTold, by decide +kernel⟩
theorem a_M_headTold_37 : zAt 163 37 m_M_headTold (.getfield 28) 3 := ⟨hm_M_headTold, by decide +kernel⟩
theorem a_M_headTold_40 : zAt 163 40 m_M_headTold (.iconst 3) 1 := ⟨hm_M_headTold, by decide +kernel⟩
theorem a_M_headTold_41 : zAt 163 41 m_M_headTold (.aload_n 0) 1 := ⟨hm_M_headTold, by decide +kernel⟩
theorem a_M_headTold_42 : zAt 163 42 m_M_headTold (.bipush 32) 2 := ⟨hm_M_headTold, by decide +kernel⟩
theorem a_M_headTold_44 : zAt 163 44 m_M_headTold (.iconst 2) 1 := ⟨hm_M_headTold, by decide +kernel⟩
theorem a_M_headTold_45 : zAt 163 45 m_M_headTold (.invokevirtual 186) 3 := ⟨hm_M_headTold, by decide +kernel⟩
theorem a_M_headTold_48 : zAt 163 48 m_M_headTold (.iastore) 1 := ⟨hm_M_headTold, by decide +kernel⟩
theorem a_M_headTold_49 : zAt 163 49 m_M_headTold (.aload_n 0) 1 := ⟨hm_M_headTold, by decide +kernel⟩
theorem a_M_headTold_50 : zAt 163 50 m_M_headTold (.getfield 28) 3 := ⟨hm_M_headTold, by decide +kernel⟩
theorem a_M_headTold_53 : zAt 163 53 m_M_headTold (.iconst 4) 1 := ⟨hm_M_headTold, by decide +kernel⟩
theorem a_M_headTold_54 : zAt 163 54 m_M_headTold (.aload_n 0) 1 := ⟨hm_M_headTold, by decide +kernel⟩
theorem a_M_headTold_55 : zAt 163 55 m_M_headTold (.bipush 32) 2 := ⟨hm_M_headTold, by decide +kernel⟩
theorem a_M_headTold_57 : zAt 163 57 m_M_headTold (.iconst 2) 1 := ⟨hm_M_headTold, by decide +kernel⟩
theorem a_M_headTold_58 : zAt 163 58 m_M_headTold (.invokevirtual 186) 3 := ⟨hm_M_headTold, by decide +kernel⟩
theorem a_M_headTold_61 : zAt 163 61 m_M_headTold (.iastore) 1 := ⟨hm_M_headTold, by decide +kernel⟩
theorem a_M_headTold_62 : zAt 163 62 m_M_headTold (.return_) 1 := ⟨hm_M_headTold, by decide +kernel⟩
theorem B_M_headTold_0 {G : Nat → Nat → Int32} : zden 163 0 [.ref 90] [] (zSH, G) = zaft 163 6 [.ref 90] [] (zSH, G) (zden 160 0 [.ref 90, .int 32] [] (zSH, G)) :=
  (zd_aload_n a_M_headTold_0 rfl).trans ((zd_bipush (v := 32) a_M_headTold_1 (by decide)).trans ((zd_cal (kd := 0) (tg := 160) (T := m_M_mark) a_M_headTold_3 (by decide +kernel) hm_M_mark rfl rfl rfl rfl)))
theorem B_M_headTold_6 {G : Nat → Nat → Int32} : zden 163 6 [.ref 90] [] (zSH, G) = zaft 163 20 [.ref 90] [.int 1, .ref 97] (zSH, G) (zden 161 0 [.ref 90, .ref 98, .int 5, .retAddr 0, .retAddr 0] [] (zSH, G)) :=
  (zd_aload_n a_M_headTold_6 rfl).trans ((zd_getR (h := (zSH, G)) (ci := 8) (fi := 11) (a := 97) a_M_headTold_7 (by decide +kernel) sh_90 rfl rfl).trans ((zd_iconst (v := 1) a_M_headTold_10 (by decide)).trans ((zd_aload_n a_M_headTold_11 rfl).trans ((zd_aload_n a_M_headTold_12 rfl).trans ((zd_getR (h := (zSH, G)) (ci := 8) (fi := 12) (a := 98) a_M_headTold_13 (by decide +kernel) sh_90 rfl rfl).trans ((zd_iconst (v := 5) a_M_headTold_16 (by decide)).trans ((zd_cal (kd := 0) (tg := 161) (T := m_M_letter) a_M_headTold_17 (by decide +kernel) hm_M_letter rfl rfl rfl rfl))))))))
theorem B_M_headTold_20 {G : Nat → Nat → Int32} {s0 s1 : Int32} (z20_0 : zin s1 6 = true) : zden 163 20 [.ref 90] [.int s0, .int s1, .ref 97] (zSH, G) = zaft 163 35 [.ref 90] [.int 2, .ref 97] (zSH, (zup G 97 s1.toNatClampNeg s0)) (zden 161 0 [.ref 90, .ref 99, .int 4, .retAddr 0, .retAddr 0] [] (zSH, (zup G 97 s1.toNatClampNeg s0))) :=
  (zd_iast (h := (zSH, G)) a_M_headTold_20 sh_97).trans ((if_pos z20_0).trans ((zd_aload_n a_M_headTold_21 rfl).trans ((zd_getR (h := (zSH, (zup G 97 s1.toNatClampNeg s0))) (ci := 8) (fi := 11) (a := 97) a_M_headTold_22 (by decide +kernel) sh_90 rfl rfl).trans ((zd_iconst (v := 2) a_M_headTold_25 (by decide)).trans ((zd_aload_n a_M_headTold_26 rfl).trans ((zd_aload_n a_M_headTold_27 rfl).trans ((zd_getR (h := (zSH, (zup G 97 s1.toNatClampNeg s0))) (ci := 8) (fi := 13) (a := 99) a_M_headTold_28 (by decide +kernel) sh_90 rfl rfl).trans ((zd_iconst (v := 4) a_M_headTold_31 (by decide)).trans ((zd_cal (kd := 0) (tg := 161) (T := m_M_letter) a_M_headTold_32 (by decide +kernel) hm_M_letter rfl rfl rfl rfl))))))))))
theorem B_M_headTold_35 {G : Nat → Nat → Int32} {s0 s1 : Int32} (z35_0 : zin s1 6 = true) : zden 163 35 [.ref 90] [.int s0, .int s1, .ref 97] (zSH, G) = zaft 163 48 [.ref 90] [.int 3, .ref 97] (zSH, (zup G 97 s1.toNatClampNeg s0)) (zden 164 0 [.ref 90, .int 32, .int 2] [] (zSH, (zup G 97 s1.toNatClampNeg s0))) :=
  (zd_iast (h := (zSH, G)) a_M_headTold_35 sh_97).trans ((if_pos z35_0).trans ((zd_aload_n a_M_headTold_36 rfl).trans ((zd_getR (h := (zSH, (zup G 97 s1.toNatClampNeg s0))) (ci := 8) (fi := 11) (a := 97) a_M_headTold_37 (by decide +kernel) sh_90 rfl rfl).trans ((zd_iconst (v := 3) a_M_headTold_40 (by decide)).trans ((zd_aload_n a_M_headTold_41 rfl).trans ((zd_bipush (v := 32) a_M_headTold_42 (by decide)).trans ((zd_iconst (v := 2) a_M_headTold_44 (by decide)).trans ((zd_cal (kd := 0) (tg := 164) (T := m_M_behind) a_M_headTold_45 (by decide +kernel) hm_M_behind rfl rfl rfl rfl)))))))))
theorem B_M_headTold_48 {G : Nat → Nat → Int32} {s0 s1 : Int32} (z48_0 : zin s1 6 = true) : zden 163 48 [.ref 90] [.int s0, .int s1, .ref 97] (zSH, G) = zaft 163 61 [.ref 90] [.int 4, .ref 97] (zSH, (zup G 97 s1.toNatClampNeg s0)) (zden 164 0 [.ref 90, .int 32, .int 2] [] (zSH, (zup G 97 s1.toNatClampNeg s0))) :=
  (zd_iast (h := (zSH, G)) a_M_headTold_48 sh_97).trans ((if_pos z48_0).trans ((zd_aload_n a_M_headTold_49 rfl).trans ((zd_getR (h := (zSH, (zup G 97 s1.toNatClampNeg s0))) (ci := 8) (fi := 11) (a := 97) a_M_headTold_50 (by decide +kernel) sh_90 rfl rfl).trans ((zd_iconst (v := 4) a_M_headTold_53 (by decide)).trans ((zd_aload_n a_M_headTold_54 rfl).trans ((zd_bipush (v := 32) a_M_headTold_55 (by decide)).trans ((zd_iconst (v := 2) a_M_headTold_57 (by decide)).trans ((zd_cal (kd := 0) (tg := 164) (T := m_M_behind) a_M_headTold_58 (by decide +kernel) hm_M_behind rfl rfl rfl rfl)))))))))
theorem B_M_headTold_61 {G : Nat → Nat → Int32} {s0 s1 : Int32} (z61_0 : zin s1 6 = true) : zden 163 61 [.ref 90] [.int s0, .int s1, .ref 97] (zSH, G) = some (none, (zSH, (zup G 97 s1.toNatClampNeg s0))) :=
  (zd_iast (h := (zSH, G)) a_M_headTold_61 sh_97).trans ((if_pos z61_0).trans (zd_vret a_M_headTold_62 rfl))
theorem a_M_goodTold_0 : zAt 165 0 m_M_goodTold (.aload_n 0) 1 := ⟨hm_M_goodTold, by decide +kernel⟩
theorem a_M_goodTold_1 : zAt 165 1 m_M_goodTold (.getfield 28) 3 := ⟨hm_M_goodTold, by decide +kernel⟩
theorem a_M_goodTold_4 : zAt 165 4 m_M_goodTold (.iconst 1) 1 := ⟨hm_M_goodTold, by decide +kernel⟩
theorem a_M_goodTold_5 : zAt 165 5 m_M_goodTold (.aload_n 0) 1 := ⟨hm_M_goodTold, by decide +kernel⟩
theorem a_M_goodTold_6 : zAt 165 6 m_M_goodTold (.bipush 32) 2 := ⟨hm_M_goodTold, by decide +kernel⟩
theorem a_M_goodTold_8 : zAt 165 8 m_M_goodTold (.iconst 2) 1 := ⟨hm_M_goodTold, by decide +kernel⟩
theorem a_M_goodTold_9 : zAt 165 9 m_M_goodTold (.invokevirtual 186) 3 := ⟨hm_M_goodTold, by decide +kernel⟩
theorem a_M_goodTold_12 : zAt 165 12 m_M_goodTold (.iastore) 1 := ⟨hm_M_goodTold, by decide +kernel⟩
theorem a_M_goodTold_13 : zAt 165 13 m_M_goodTold (.aload_n 0) 1 := ⟨hm_M_goodTold, by decide +kernel⟩
theorem a_M_goodTold_14 : zAt 165 14 m_M_goodTold (.getfield 28) 3 := ⟨hm_M_goodTold, by decide +kernel⟩
theorem a_M_goodTold_17 : zAt 165 17 m_M_goodTold (.iconst 2) 1 := ⟨hm_M_goodTold, by decide +kernel⟩
theorem a_M_goodTold_18 : zAt 165 18 m_M_goodTold (.aload_n 0) 1 := ⟨hm_M_goodTold, by decide +kernel⟩
theorem a_M_goodTold_19 : zAt 165 19 m_M_goodTold (.bipush 32) 2 := ⟨hm_M_goodTold, by decide +kernel⟩
theorem a_M_goodTold_21 : zAt 165 21 m_M_goodTold (.iconst 3) 1 := ⟨hm_M_goodTold, by decide +kernel⟩
theorem a_M_goodTold_22 : zAt 165 22 m_M_goodTold (.invokevirtual 186) 3 := ⟨hm_M_goodTold, by decide +kernel⟩
theorem a_M_goodTold_25 : zAt 165 25 m_M_goodTold (.iastore) 1 := ⟨hm_M_goodTold, by decide +kernel⟩
theorem a_M_goodTold_26 : zAt 165 26 m_M_goodTold (.aload_n 0) 1 := ⟨hm_M_goodTold, by decide +kernel⟩
theorem a_M_goodTold_27 : zAt 165 27 m_M_goodTold (.getfield 28) 3 := ⟨hm_M_goodTold, by decide +kernel⟩
theorem a_M_goodTold_30 : zAt 165 30 m_M_goodTold (.iconst 3) 1 := ⟨hm_M_goodTold, by decide +kernel⟩
theorem a_M_goodTold_31 : zAt 165 31 m_M_goodTold (.aload_n 0) 1 := ⟨hm_M_goodTold, by decide +kernel⟩
theorem a_M_goodTold_32 : zAt 165 32 m_M_goodTold (.bipush 32) 2 := ⟨hm_M_goodTold, by decide +kernel⟩
theorem a_M_goodTold_34 : zAt 165 34 m_M_goodTold (.iconst 3) 1 := ⟨hm_M_goodTold, by decide +kernel⟩
theorem a_M_goodTold_35 : zAt 165 35 m_M_goodTold (.invokevirtual 186) 3 := ⟨hm_M_goodTold, by decide +kernel⟩
theorem a_M_goodTold_38 : zAt 165 38 m_M_goodTold (.iastore) 1 := ⟨hm_M_goodTold, by decide +kernel⟩
theorem a_M_goodTold_39 : zAt 165 39 m_M_goodTold (.aload_n 0) 1 := ⟨hm_M_goodTold, by decide +kernel⟩
theorem a_M_goodTold_40 : zAt 165 40 m_M_goodTold (.getfield 28) 3 := ⟨hm_M_goodTold, by decide +kernel⟩
theorem a_M_goodTold_43 : zAt 165 43 m_M_goodTold (.iconst 4) 1 := ⟨hm_M_goodTold, by decide +kernel⟩
theorem a_M_goodTold_44 : zAt 165 44 m_M_goodTold (.aload_n 0) 1 := ⟨hm_M_goodTold, by decide +kernel⟩
theorem a_M_goodTold_45 : zAt 165 45 m_M_goodTold (.bipush 47) 2 := ⟨hm_M_goodTold, by decide +kernel⟩
theorem a_M_goodTold_47 : zAt 165 47 m_M_goodTold (.iconst 3) 1 := ⟨hm_M_goodTold, by decide +kernel⟩
theorem a_M_goodTold_48 : zAt 165 48 m_M_goodTold (.invokevirtual 186) 3 := ⟨hm_M_goodTold, by decide +kernel⟩
theorem a_M_goodTold_51 : zAt 165 51 m_M_goodTold (.iastore) 1 := ⟨hm_M_goodTold, by decide +kernel⟩
theorem a_M_goodTold_52 : zAt 165 52 m_M_goodTold (.aload_n 0) 1 := ⟨hm_M_goodTold, by decide +kernel⟩
theorem a_M_goodTold_53 : zAt 165 53 m_M_goodTold (.getfield 28) 3 := ⟨hm_M_goodTold, by decide +kernel⟩
theorem a_M_goodTold_56 : zAt 165 56 m_M_goodTold (.iconst 5) 1 := ⟨hm_M_goodTold, by decide +kernel⟩
theorem a_M_goodTold_57 : zAt 165 57 m_M_goodTold (.aload_n 0) 1 := ⟨hm_M_goodTold, by decide +kernel⟩
theorem a_M_goodTold_58 : zAt 165 58 m_M_goodTold (.bipush 47) 2 := ⟨hm_M_goodTold, by decide +kernel⟩
theorem a_M_goodTold_60 : zAt 165 60 m_M_goodTold (.iconst 3) 1 := ⟨hm_M_goodTold, by decide +kernel⟩
theorem a_M_goodTold_61 : zAt 165 61 m_M_goodTold (.invokevirtual 186) 3 := ⟨hm_M_goodTold, by decide +kernel⟩
theorem a_M_goodTold_64 : zAt 165 64 m_M_goodTold (.iastore) 1 := ⟨hm_M_goodTold, by decide +kernel⟩
theorem a_M_goodTold_65 : zAt 165 65 m_M_goodTold (.return_) 1 := ⟨hm_M_goodTold, by decide +kernel⟩
theorem B_M_goodTold_0 {G : Nat → Nat → Int32} : zden 165 0 [.ref 90] [] (zSH, G) = zaft 165 12 [.ref 90] [.int 1, .ref 97] (zSH, G) (zden 164 0 [.ref 90, .int 32, .int 2] [] (zSH, G)) :=
  (zd_aload_n a_M_goodTold_0 rfl).trans ((zd_getR (h := (zSH, G)) (ci := 8) (fi := 11) (a := 97) a_M_goodTold_1 (by decide +kernel) sh_90 rfl rfl).trans ((zd_iconst (v := 1) a_M_goodTold_4 (by decide)).trans ((zd_aload_n a_M_goodTold_5 rfl).trans ((zd_bipush (v := 32) a_M_goodTold_6 (by decide)).trans ((zd_iconst (v := 2) a_M_goodTold_8 (by decide)).trans ((zd_cal (kd := 0) (tg := 164) (T := m_M_behind) a_M_goodTold_9 (by decide +kernel) hm_M_behind rfl rfl rfl rfl)))))))
theorem B_M_goodTold_12 {G : Nat → Nat → Int32} {s0 s1 : Int32} (z12_0 : zin s1 6 = true) : zden 165 12 [.ref 90] [.int s0, .int s1, .ref 97] (zSH, G) = zaft 165 25 [.ref 90] [.int 2, .ref 97] (zSH, (zup G 97 s1.toNatClampNeg s0)) (zden 164 0 [.ref 90, .int 32, .int 3] [] (zSH, (zup G 97 s1.toNatClampNeg s0))) :=
  (zd_iast (h := (zSH, G)) a_M_goodTold_12 sh_97).trans ((if_pos z12_0).trans ((zd_aload_n a_M_goodTold_13 rfl).trans ((zd_getR (h := (zSH, (zup G 97 s1.toNatClampNeg s0))) (ci := 8) (fi := 11) (a := 97) a_M_goodTold_14 (by decide +kernel) sh_90 rfl rfl).trans ((zd_iconst (v := 2) a_M_goodTold_17 (by decide)).trans ((zd_aload_n a_M_goodTold_18 rfl).trans ((zd_bipush (v := 32) a_M_goodTold_19 (by decide)).trans ((zd_iconst (v := 3) a_M_goodTold_21 (by decide)).trans ((zd_cal (kd := 0) (tg := 164) (T := m_M_behind) a_M_goodTold_22 (by decide +kernel) hm_M_behind rfl rfl rfl rfl)))))))))
theorem B_M_goodTold_25 {G : Nat → Nat → Int32} {s0 s1 : Int32} (z25_0 : zin s1 6 = true) : zden 165 25 [.ref 90] [.int s0, .int s1, .ref 97] (zSH, G) = zaft 165 38 [.ref 90] [.int 3, .ref 97] (zSH, (zup G 97 s1.toNatClampNeg s0)) (zden 164 0 [.ref 90, .int 32, .int 3] [] (zSH, (zup G 97 s1.toNatClampNeg s0))) :=
  (zd_iast (h := (zSH, G)) a_M_goodTold_25 sh_97).trans ((if_pos z25_0).trans ((zd_aload_n a_M_goodTold_26 rfl).trans ((zd_getR (h := (zSH, (zup G 97 s1.toNatClampNeg s0))) (ci := 8) (fi := 11) (a := 97) a_M_goodTold_27 (by decide +kernel) sh_90 rfl rfl).trans ((zd_iconst (v := 3) a_M_goodTold_30 (by decide)).trans ((zd_aload_n a_M_goodTold_31 rfl).trans ((zd_bipush (v := 32) a_M_goodTold_32 (by decide)).trans ((zd_iconst (v := 3) a_M_goodTold_34 (by decide)).trans ((zd_cal (kd := 0) (tg := 164) (T := m_M_behind) a_M_goodTold_35 (by decide +kernel) hm_M_behind rfl rfl rfl rfl)))))))))
theorem B_M_goodTold_38 {G : Nat → Nat → Int32} {s0 s1 : Int32} (z38_0 : zin s1 6 = true) : zden 165 38 [.ref 90] [.int s0, .int s1, .ref 97] (zSH, G) = zaft 165 51 [.ref 90] [.int 4, .ref 97] (zSH, (zup G 97 s1.toNatClampNeg s0)) (zden 164 0 [.ref 90, .int 47, .int 3] [] (zSH, (zup G 97 s1.toNatClampNeg s0))) :=
  (zd_iast (h := (zSH, G)) a_M_goodTold_38 sh_97).trans ((if_pos z38_0).trans ((zd_aload_n a_M_goodTold_39 rfl).trans ((zd_getR (h := (zSH, (zup G 97 s1.toNatClampNeg s0))) (ci := 8) (fi := 11) (a := 97) a_M_goodTold_40 (by decide +kernel) sh_90 rfl rfl).trans ((zd_iconst (v := 4) a_M_goodTold_43 (by decide)).trans ((zd_aload_n a_M_goodTold_44 rfl).trans ((zd_bipush (v := 47) a_M_goodTold_45 (by decide)).trans ((zd_iconst (v := 3) a_M_goodTold_47 (by decide)).trans ((zd_cal (kd := 0) (tg := 164) (T := m_M_behind) a_M_goodTold_48 (by decide +kernel) hm_M_behind rfl rfl rfl rfl)))))))))
theorem B_M_goodTold_51 {G : Nat → Nat → Int32} {s0 s1 : Int32} (z51_0 : zin s1 6 = true) : zden 165 51 [.ref 90] [.int s0, .int s1, .ref 97] (zSH, G) = zaft 165 64 [.ref 90] [.int 5, .ref 97] (zSH, (zup G 97 s1.toNatClampNeg s0)) (zden 164 0 [.ref 90, .int 47, .int 3] [] (zSH, (zup G 97 s1.toNatClampNeg s0))) :=
  (zd_iast (h := (zSH, G)) a_M_goodTold_51 sh_97).trans ((if_pos z51_0).trans ((zd_aload_n a_M_goodTold_52 rfl).trans ((zd_getR (h := (zSH, (zup G 97 s1.toNatClampNeg s0))) (ci := 8) (fi := 11) (a := 97) a_M_goodTold_53 (by decide +kernel) sh_90 rfl rfl).trans ((zd_iconst (v := 5) a_M_goodTold_56 (by decide)).trans ((zd_aload_n a_M_goodTold_57 rfl).trans ((zd_bipush (v := 47) a_M_goodTold_58 (by decide)).trans ((zd_iconst (v := 3) a_M_goodTold_60 (by decide)).trans ((zd_cal (kd := 0) (tg := 164) (T := m_M_behind) a_M_goodTold_61 (by decide +kernel) hm_M_behind rfl rfl rfl rfl)))))))))
theorem B_M_goodTold_64 {G : Nat → Nat → Int32} {s0 s1 : Int32} (z64_0 : zin s1 6 = true) : zden 165 64 [.ref 90] [.int s0, .int s1, .ref 97] (zSH, G) = some (none, (zSH, (zup G 97 s1.toNatClampNeg s0))) :=
  (zd_iast (h := (zSH, G)) a_M_goodTold_64 sh_97).trans ((if_pos z64_0).trans (zd_vret a_M_goodTold_65 rfl))
theorem a_M_order_0 : zAt 157 0 m_M_order (.aload_n 0) 1 := ⟨hm_M_order, by decide +kernel⟩
theorem a_M_order_1 : zAt 157 1 m_M_order (.invokevirtual 189) 3 := ⟨hm_M_order, by decide +kernel⟩
theorem a_M_order_4 : zAt 157 4 m_M_order (.istore_n 1) 1 := ⟨hm_M_order, by decide +kernel⟩
theorem a_M_order_5 : zAt 157 5 m_M_order (.aload_n 0) 1 := ⟨hm_M_order, by decide +kernel⟩
theorem a_M_order_6 : zAt 157 6 m_M_order (.getfield 168) 3 := ⟨hm_M_order, by decide +kernel⟩
theorem a_M_order_9 : zAt 157 9 m_M_order (.ifCond .eq 4) 3 := ⟨hm_M_order, by decide +kernel⟩
theorem a_M_order_12 : zAt 157 12 m_M_order (.return_) 1 := ⟨hm_M_order, by decide +kernel⟩
theorem a_M_order_13 : zAt 157 13 m_M_order (.aload_n 0) 1 := ⟨hm_M_order, by decide +kernel⟩
theorem a_M_order_14 : zAt 157 14 m_M_order (.getfield 28) 3 := ⟨hm_M_order, by decide +kernel⟩
theorem a_M_order_17 : zAt 157 17 m_M_order (.iconst 0) 1 := ⟨hm_M_order, by decide +kernel⟩
theorem a_M_order_18 : zAt 157 18 m_M_order (.iload_n 1) 1 := ⟨hm_M_order, by decide +kernel⟩
theorem a_M_order_19 : zAt 157 19 m_M_order (.iconst 2) 1 := ⟨hm_M_order, by decide +kernel⟩
theorem a_M_order_20 : zAt 157 20 m_M_order (.if_icmp .ne 15) 3 := ⟨hm_M_order, by decide +kernel⟩
theorem a_M_order_23 : zAt 157 23 m_M_order (.aload_n 0) 1 := ⟨hm_M_order, by decide +kernel⟩
theorem a_M_order_24 : zAt 157 24 m_M_order (.aload_n 0) 1 := ⟨hm_M_order, by decide +kernel⟩
theorem a_M_order_25 : zAt 157 25 m_M_order (.getfield 34) 3 := ⟨hm_M_order, by decide +kernel⟩
theorem a_M_order_28 : zAt 157 28 m_M_order (.iconst 3) 1 := ⟨hm_M_order, by decide +kernel⟩
theorem a_M_order_29 : zAt 157 29 m_M_order (.invokevirtual 182) 3 := ⟨hm_M_order, by decide +kernel⟩
theorem a_M_order_32 : zAt 157 32 m_M_order (.goto 26) 3 := ⟨hm_M_order, by decide +kernel⟩
theorem a_M_order_35 : zAt 157 35 m_M_order (.aload_n 0) 1 := ⟨hm_M_order, by decide +kernel⟩
theorem a_M_order_36 : zAt 157 36 m_M_order (.iload_n 1) 1 := ⟨hm_M_order, by decide +kernel⟩
theorem a_M_order_37 : zAt 157 37 m_M_order (.iconst 4) 1 := ⟨hm_M_order, by decide +kernel⟩
theorem a_M_order_38 : zAt 157 38 m_M_order (.if_icmp .ne 7) 3 := ⟨hm_M_order, by decide +kernel⟩
theorem a_M_order_41 : zAt 157 41 m_M_order (.iconst 1) 1 := ⟨hm_M_order, by decide +kernel⟩
theorem a_M_order_42 : zAt 157 42 m_M_order (.goto 13) 3 := ⟨hm_M_order, by decide +kernel⟩
theorem a_M_order_45 : zAt 157 45 m_M_order (.iload_n 1) 1 := ⟨hm_M_order, by decide +kernel⟩
theorem a_M_order_46 : zAt 157 46 m_M_order (.iconst 5) 1 := ⟨hm_M_order, by decide +kernel⟩
theorem a_M_order_47 : zAt 157 47 m_M_order (.if_icmp .ne 7) 3 := ⟨hm_M_order, by decide +kernel⟩
theorem a_M_order_50 : zAt 157 50 m_M_order (.iconst 4) 1 := ⟨hm_M_order, by decide +kernel⟩
theorem a_M_order_51 : zAt 157 51 m_M_order (.goto 4) 3 := ⟨hm_M_order, by decide +kernel⟩
theorem a_M_order_54 : zAt 157 54 m_M_order (.iconst 2) 1 := ⟨hm_M_order, by decide +kernel⟩
theorem a_M_order_55 : zAt 157 55 m_M_order (.invokevirtual 179) 3 := ⟨hm_M_order, by decide +kernel⟩
theorem a_M_order_58 : zAt 157 58 m_M_order (.iastore) 1 := ⟨hm_M_order, by decide +kernel⟩
theorem a_M_order_59 : zAt 157 59 m_M_order (.iload_n 1) 1 := ⟨hm_M_order, by decide +kernel⟩
theorem a_M_order_60 : zAt 157 60 m_M_order (.ifCond .ne 7) 3 := ⟨hm_M_order, by decide +kernel⟩
theorem a_M_order_63 : zAt 157 63 m_M_order (.aload_n 0) 1 := ⟨hm_M_order, by decide +kernel⟩
theorem a_M_order_64 : zAt 157 64 m_M_order (.invokevirtual 192) 3 := ⟨hm_M_order, by decide +kernel⟩
theorem a_M_order_67 : zAt 157 67 m_M_order (.iload_n 1) 1 := ⟨hm_M_order, by decide +kernel⟩
theorem a_M_order_68 : zAt 157 68 m_M_order (.iconst 2) 1 := ⟨hm_M_order, by decide +kernel⟩
theorem a_M_order_69 : zAt 157 69 m_M_order (.if_icmp .ne 7) 3 := ⟨hm_M_order, by decide +kernel⟩
theorem a_M_order_72 : zAt 157 72 m_M_order (.aload_n 0) 1 := ⟨hm_M_order, by decide +kernel⟩
theorem a_M_order_73 : zAt 157 73 m_M_order (.invokevirtual 195) 3 := ⟨hm_M_order, by decide +kernel⟩
theorem a_M_order_76 : zAt 157 76 m_M_order (.iload_n 1) 1 := ⟨hm_M_order, by decide +kernel⟩
theorem a_M_order_77 : zAt 157 77 m_M_order (.iconst 3) 1 := ⟨hm_M_order, by decide +kernel⟩
theorem a_M_order_78 : zAt 157 78 m_M_order (.if_icmp .ne 29) 3 := ⟨hm_M_order, by decide +kernel⟩
theorem a_M_order_81 : zAt 157 81 m_M_order (.aload_n 0) 1 := ⟨hm_M_order, by decide +kernel⟩
theorem a_M_order_82 : zAt 157 82 m_M_order (.getfield 28) 3 := ⟨hm_M_order, by decide +kernel⟩
theorem a_M_order_85 : zAt 157 85 m_M_order (.iconst 1) 1 := ⟨hm_M_order, by decide +kernel⟩
theorem a_M_order_86 : zAt 157 86 m_M_order (.aload_n 0) 1 := ⟨hm_M_order, by decide +kernel⟩
theorem a_M_order_87 : zAt 157 87 m_M_order (.bipush 32) 2 := ⟨hm_M_order, by decide +kernel⟩
theorem a_M_order_89 : zAt 157 89 m_M_order (.iconst 1) 1 := ⟨hm_M_order, by decide +kernel⟩
theorem a_M_order_90 : zAt 157 90 m_M_order (.invokevirtual 186) 3 := ⟨hm_M_order, by decide +kernel⟩
theorem a_M_order_93 : zAt 157 93 m_M_order (.iastore) 1 := ⟨hm_M_order, by decide +kernel⟩
theorem a_M_order_94 : zAt 157 94 m_M_order (.aload_n 0) 1 := ⟨hm_M_order, by decide +kernel⟩
theorem a_M_order_95 : zAt 157 95 m_M_order (.getfield 28) 3 := ⟨hm_M_order, by decide +kernel⟩
theorem a_M_order_98 : zAt 157 98 m_M_order (.iconst 2) 1 := ⟨hm_M_order, by decide +kernel⟩
theorem a_M_order_99 : zAt 157 99 m_M_order (.aload_n 0) 1 := ⟨hm_M_order, by decide +kernel⟩
theorem a_M_order_100 : zAt 157 100 m_M_order (.bipush 32) 2 := ⟨hm_M_order, by decide +kernel⟩
theorem a_M_order_102 : zAt 157 102 m_M_order (.iconst 2) 1 := ⟨hm_M_order, by decide +kernel⟩
theorem a_M_order_103 : zAt 157 103 m_M_order (.invokevirtual 186) 3 := ⟨hm_M_order, by decide +kernel⟩
theorem a_M_order_106 : zAt 157 106 m_M_order (.iastore) 1 := ⟨hm_M_order, by decide +kernel⟩
theorem a_M_order_107 : zAt 157 107 m_M_order (.iload_n 1) 1 := ⟨hm_M_order, by decide +kernel⟩
theorem a_M_order_108 : zAt 157 108 m_M_order (.iconst 4) 1 := ⟨hm_M_order, by decide +kernel⟩
theorem a_M_order_109 : zAt 157 109 m_M_order (.if_icmp .ne 16) 3 := ⟨hm_M_order, by decide +kernel⟩
theorem a_M_order_112 : zAt 157 112 m_M_order (.aload_n 0) 1 := ⟨hm_M_order, by decide +kernel⟩
theorem a_M_order_113 : zAt 157 113 m_M_order (.getfield 28) 3 := ⟨hm_M_order, by decide +kernel⟩
theorem a_M_order_116 : zAt 157 116 m_M_order (.iconst 1) 1 := ⟨hm_M_order, by decide +kernel⟩
theorem a_M_order_117 : zAt 157 117 m_M_order (.aload_n 0) 1 := ⟨hm_M_order, by decide +kernel⟩
theorem a_M_order_118 : zAt 157 118 m_M_order (.bipush 61) 2 := ⟨hm_M_order, by decide +kernel⟩
theorem a_M_order_120 : zAt 157 120 m_M_order (.iconst 3) 1 := ⟨hm_M_order, by decide +kernel⟩
theorem a_M_order_121 : zAt 157 121 m_M_order (.invokevirtual 186) 3 := ⟨hm_M_order, by decide +kernel⟩
theorem a_M_order_124 : zAt 157 124 m_M_order (.iastore) 1 := ⟨hm_M_order, by decide +kernel⟩
theorem a_M_order_125 : zAt 157 125 m_M_order (.aload_n 0) 1 := ⟨hm_M_order, by decide +kernel⟩
theorem a_M_order_126 : zAt 157 126 m_M_order (.getfield 168) 3 := ⟨hm_M_order, by decide +kernel⟩
theorem a_M_order_129 : zAt 157 129 m_M_order (.ifCond .ne 10) 3 := ⟨hm_M_order, by decide +kernel⟩
theorem a_M_order_132 : zAt 157 132 m_M_order (.aload_n 0) 1 := ⟨hm_M_order, by decide +kernel⟩
theorem a_M_order_133 : zAt 157 133 m_M_order (.getfield 198) 3 := ⟨hm_M_order, by decide +kernel⟩
theorem a_M_order_136 : zAt 157 136 m_M_order (.ifCond .ne 4) 3 := ⟨hm_M_order, by decide +kernel⟩
theorem a_M_order_139 : zAt 157 139 m_M_order (.return_) 1 := ⟨hm_M_order, by decide +kernel⟩
theorem a_M_order_140 : zAt 157 140 m_M_order (.aload_n 0) 1 := ⟨hm_M_order, by decide +kernel⟩
theorem a_M_order_141 : zAt 157 141 m_M_order (.iload_n 1) 1 := ⟨hm_M_order, by decide +kernel⟩
theorem a_M_order_142 : zAt 157 142 m_M_order (.invokevirtual 201) 3 := ⟨hm_M_order, by decide +kernel⟩
theorem a_M_order_145 : zAt 157 145 m_M_order (.istore_n 2) 1 := ⟨hm_M_order, by decide +kernel⟩
theorem a_M_order_146 : zAt 157 146 m_M_order (.return_) 1 := ⟨hm_M_order, by decide +kernel⟩
theorem B_M_order_0 {G : Nat → Nat → Int32} : zden 157 0 [.ref 90, .retAddr 0, .retAddr 0] [] (zSH, G) = zaft 157 4 [.ref 90, .retAddr 0, .retAddr 0] [] (zSH, G) (zden 158 0 [.ref 90, .retAddr 0, .retAddr 0, .retAddr 0, .retAddr 0] [] (zSH, G)) :=
  (zd_aload_n a_M_order_0 rfl).trans ((zd_cal (kd := 0) (tg := 158) (T := m_M_word) a_M_order_1 (by decide +kernel) hm_M_word rfl rfl rfl rfl))
theorem B_M_order_4 {G : Nat → Nat → Int32} {s0 : Int32} : zden 157 4 [.ref 90, .retAddr 0, .retAddr 0] [.int s0] (zSH, G) = if (G 90 20) = 0 then if ¬ s0 = 2 then if ¬ s0 = 4 then if ¬ s0 = 5 then zden 157 55 [.ref 90, .int s0, .retAddr 0] [.int 2, .ref 90, .int 0, .ref 97] (zSH, G) else zden 157 55 [.ref 90, .int s0, .retAddr 0] [.int 4, .ref 90, .int 0, .ref 97] (zSH, G) else zden 157 55 [.ref 90, .int s0, .retAddr 0] [.int 1, .ref 90, .int 0, .ref 97] (zSH, G) else zaft 157 32 [.ref 90, .int s0, .retAddr 0] [.int 0, .ref 97] (zSH, G) (zden 161 0 [.ref 90, .ref 99, .int 3, .retAddr 0, .retAddr 0] [] (zSH, G)) else some (none, (zSH, G)) :=
  (zd_istore_n a_M_order_4 rfl rfl rfl).trans ((zd_aload_n a_M_order_5 rfl).trans ((zd_getI (h := (zSH, G)) (ci := 8) (fi := 20) a_M_order_6 (by decide +kernel) sh_90 rfl).trans ((zd_if_eq a_M_order_9 rfl).trans (zitc (fun p55 => (zd_aload_n a_M_order_13 rfl).trans ((zd_getR (h := (zSH, G)) (ci := 8) (fi := 11) (a := 97) a_M_order_14 (by decide +kernel) sh_90 rfl rfl).trans ((zd_iconst (v := 0) a_M_order_17 (by decide)).trans ((zd_iload_n a_M_order_18 rfl).trans ((zd_iconst (v := 2) a_M_order_19 (by decide)).trans ((zd_icmp_ne a_M_order_20 rfl).trans (zitc (fun p56 => (zd_aload_n a_M_order_35 rfl).trans ((zd_iload_n a_M_order_36 rfl).trans ((zd_iconst (v := 4) a_M_order_37 (by decide)).trans ((zd_icmp_ne a_M_order_38 rfl).trans (zitc (fun p57 => (zd_iload_n a_M_order_45 rfl).trans ((zd_iconst (v := 5) a_M_order_46 (by decide)).trans ((zd_icmp_ne a_M_order_47 rfl).trans (zitc (fun p58 => (zd_iconst (v := 2) a_M_order_54 (by decide))) (fun p58 => (zd_iconst (v := 4) a_M_order_50 (by decide)).trans ((zd_goto a_M_order_51 rfl))))))) (fun p57 => (zd_iconst (v := 1) a_M_order_41 (by decide)).trans ((zd_goto a_M_order_42 rfl)))))))) (fun p56 => (zd_aload_n a_M_order_23 rfl).trans ((zd_aload_n a_M_order_24 rfl).trans ((zd_getR (h := (zSH, G)) (ci := 8) (fi := 13) (a := 99) a_M_order_25 (by decide +kernel) sh_90 rfl rfl).trans ((zd_iconst (v := 3) a_M_order_28 (by decide)).trans ((zd_cal (kd := 0) (tg := 161) (T := m_M_letter) a_M_order_29 (by decide +kernel) hm_M_letter rfl rfl rfl rfl))))))))))))) (fun p55 => zd_vret a_M_order_12 rfl)))))
theorem B_M_order_32 {G : Nat → Nat → Int32} {x1 s0 s1 : Int32} : zden 157 32 [.ref 90, .int x1, .retAddr 0] [.int s0, .int s1, .ref 97] (zSH, G) = zden 157 58 [.ref 90, .int x1, .retAddr 0] [.int s0, .int s1, .ref 97] (zSH, G) :=
  (zd_goto a_M_order_32 rfl)
theorem B_M_order_55 {G : Nat → Nat → Int32} {x1 s0 s2 : Int32} : zden 157 55 [.ref 90, .int x1, .retAddr 0] [.int s0, .ref 90, .int s2, .ref 97] (zSH, G) = zaft 157 58 [.ref 90, .int x1, .retAddr 0] [.int s2, .ref 97] (zSH, G) (zden 162 0 [.ref 90, .int s0, .retAddr 0, .retAddr 0] [] (zSH, G)) :=
  (zd_cal (kd := 0) (tg := 162) (T := m_M_digits) a_M_order_55 (by decide +kernel) hm_M_digits rfl rfl rfl rfl)
theorem B_M_order_58 {G : Nat → Nat → Int32} {x1 s0 s1 : Int32} (z58_0 : zin s1 6 = true) : zden 157 58 [.ref 90, .int x1, .retAddr 0] [.int s0, .int s1, .ref 97] (zSH, G) = if ¬ x1 = 0 then zden 157 67 [.ref 90, .int x1, .retAddr 0] [] (zSH, (zup G 97 s1.toNatClampNeg s0)) else zaft 157 67 [.ref 90, .int x1, .retAddr 0] [] (zSH, (zup G 97 s1.toNatClampNeg s0)) (zden 163 0 [.ref 90] [] (zSH, (zup G 97 s1.toNatClampNeg s0))) :=
  (zd_iast (h := (zSH, G)) a_M_order_58 sh_97).trans ((if_pos z58_0).trans ((zd_iload_n a_M_order_59 rfl).trans ((zd_if_ne a_M_order_60 rfl).trans (zitc (fun p59 => rfl) (fun p59 => (zd_aload_n a_M_order_63 rfl).trans ((zd_cal (kd := 0) (tg := 163) (T := m_M_headTold) a_M_order_64 (by decide +kernel) hm_M_headTold rfl rfl rfl rfl)))))))
theorem B_M_order_67 {G : Nat → Nat → Int32} {x1 : Int32} : zden 157 67 [.ref 90, .int x1, .retAddr 0] [] (zSH, G) = if ¬ x1 = 2 then zden 157 76 [.ref 90, .int x1, .retAddr 0] [] (zSH, G) else zaft 157 76 [.ref 90, .int x1, .retAddr 0] [] (zSH, G) (zden 165 0 [.ref 90] [] (zSH, G)) :=
  (zd_iload_n a_M_order_67 rfl).trans ((zd_iconst (v := 2) a_M_order_68 (by decide)).trans ((zd_icmp_ne a_M_order_69 rfl).trans (zitc (fun p60 => rfl) (fun p60 => (zd_aload_n a_M_order_72 rfl).trans ((zd_cal (kd := 0) (tg := 165) (T := m_M_goodTold) a_M_order_73 (by decide +kernel) hm_M_goodTold rfl rfl rfl rfl))))))
theorem B_M_order_76 {G : Nat → Nat → Int32} {x1 : Int32} : zden 157 76 [.ref 90, .int x1, .retAddr 0] [] (zSH, G) = if ¬ x1 = 3 then zden 157 107 [.ref 90, .int x1, .retAddr 0] [] (zSH, G) else zaft 157 93 [.ref 90, .int x1, .retAddr 0] [.int 1, .ref 97] (zSH, G) (zden 164 0 [.ref 90, .int 32, .int 1] [] (zSH, G)) :=
  (zd_iload_n a_M_order_76 rfl).trans ((zd_iconst (v := 3) a_M_order_77 (by decide)).trans ((zd_icmp_ne a_M_order_78 rfl).trans (zitc (fun p61 => rfl) (fun p61 => (zd_aload_n a_M_order_81 rfl).trans ((zd_getR (h := (zSH, G)) (ci := 8) (fi := 11) (a := 97) a_M_order_82 (by decide +kernel) sh_90 rfl rfl).trans ((zd_iconst (v := 1) a_M_order_85 (by decide)).trans ((zd_aload_n a_M_order_86 rfl).trans ((zd_bipush (v := 32) a_M_order_87 (by decide)).trans ((zd_iconst (v := 1) a_M_order_89 (by decide)).trans ((zd_cal (kd := 0) (tg := 164) (T := m_M_behind) a_M_order_90 (by decide +kernel) hm_M_behind rfl rfl rfl rfl)))))))))))
theorem B_M_order_93 {G : Nat → Nat → Int32} {x1 s0 s1 : Int32} (z93_0 : zin s1 6 = true) : zden 157 93 [.ref 90, .int x1, .retAddr 0] [.int s0, .int s1, .ref 97] (zSH, G) = zaft 157 106 [.ref 90, .int x1, .retAddr 0] [.int 2, .ref 97] (zSH, (zup G 97 s1.toNatClampNeg s0)) (zden 164 0 [.ref 90, .int 32, .int 2] [] (zSH, (zup G 97 s1.toNatClampNeg s0))) :=
  (zd_iast (h := (zSH, G)) a_M_order_93 sh_97).trans ((if_pos z93_0).trans ((zd_aload_n a_M_order_94 rfl).trans ((zd_getR (h := (zSH, (zup G 97 s1.toNatClampNeg s0))) (ci := 8) (fi := 11) (a := 97) a_M_order_95 (by decide +kernel) sh_90 rfl rfl).trans ((zd_iconst (v := 2) a_M_order_98 (by decide)).trans ((zd_aload_n a_M_order_99 rfl).trans ((zd_bipush (v := 32) a_M_order_100 (by decide)).trans ((zd_iconst (v := 2) a_M_order_102 (by decide)).trans ((zd_cal (kd := 0) (tg := 164) (T := m_M_behind) a_M_order_103 (by decide +kernel) hm_M_behind rfl rfl rfl rfl)))))))))
theorem B_M_order_106 {G : Nat → Nat → Int32} {x1 s0 s1 : Int32} (z106_0 : zin s1 6 = true) : zden 157 106 [.ref 90, .int x1, .retAddr 0] [.int s0, .int s1, .ref 97] (zSH, G) = zden 157 107 [.ref 90, .int x1, .retAddr 0] [] (zSH, (zup G 97 s1.toNatClampNeg s0)) :=
  (zd_iast (h := (zSH, G)) a_M_order_106 sh_97).trans ((if_pos z106_0))
theorem B_M_order_107 {G : Nat → Nat → Int32} {x1 : Int32} : zden 157 107 [.ref 90, .int x1, .retAddr 0] [] (zSH, G) = if ¬ x1 = 4 then zden 157 125 [.ref 90, .int x1, .retAddr 0] [] (zSH, G) else zaft 157 124 [.ref 90, .int x1, .retAddr 0] [.int 1, .ref 97] (zSH, G) (zden 164 0 [.ref 90, .int 61, .int 3] [] (zSH, G)) :=
  (zd_iload_n a_M_order_107 rfl).trans ((zd_iconst (v := 4) a_M_order_108 (by decide)).trans ((zd_icmp_ne a_M_order_109 rfl).trans (zitc (fun p62 => rfl) (fun p62 => (zd_aload_n a_M_order_112 rfl).trans ((zd_getR (h := (zSH, G)) (ci := 8) (fi := 11) (a := 97) a_M_order_113 (by decide +kernel) sh_90 rfl rfl).trans ((zd_iconst (v := 1) a_M_order_116 (by decide)).trans ((zd_aload_n a_M_order_117 rfl).trans ((zd_bipush (v := 61) a_M_order_118 (by decide)).trans ((zd_iconst (v := 3) a_M_order_120 (by decide)).trans ((zd_cal (kd := 0) (tg := 164) (T := m_M_behind) a_M_order_121 (by decide +kernel) hm_M_behind rfl rfl rfl rfl)))))))))))
theorem B_M_order_124 {G : Nat → Nat → Int32} {x1 s0 s1 : Int32} (z124_0 : zin s1 6 = true) : zden 157 124 [.ref 90, .int x1, .retAddr 0] [.int s0, .int s1, .ref 97] (zSH, G) = zden 157 125 [.ref 90, .int x1, .retAddr 0] [] (zSH, (zup G 97 s1.toNatClampNeg s0)) :=
  (zd_iast (h := (zSH, G)) a_M_order_124 sh_97).trans ((if_pos z124_0))
theorem B_M_order_125 {G : Nat → Nat → Int32} {x1 : Int32} : zden 157 125 [.ref 90, .int x1, .retAddr 0] [] (zSH, G) = if ¬ (G 90 20) = 0 then some (none, (zSH, G)) else if ¬ (G 90 21) = 0 then zaft 157 145 [.ref 90, .int x1, .retAddr 0] [] (zSH, G) (zden 166 0 [.ref 90, .int x1] [] (zSH, G)) else some (none, (zSH, G)) :=
  (zd_aload_n a_M_order_125 rfl).trans ((zd_getI (h := (zSH, G)) (ci := 8) (fi := 20) a_M_order_126 (by decide +kernel) sh_90 rfl).trans ((zd_if_ne a_M_order_129 rfl).trans (zitc (fun p63 => zd_vret a_M_order_139 rfl) (fun p63 => (zd_aload_n a_M_order_132 rfl).trans ((zd_getI (h := (zSH, G)) (ci := 8) (fi := 21) a_M_order_133 (by decide +kernel) sh_90 rfl).trans ((zd_if_ne a_M_order_136 rfl).trans (zitc (fun p64 => (zd_aload_n a_M_order_140 rfl).trans ((zd_iload_n a_M_order_141 rfl).trans ((zd_cal (kd := 0) (tg := 166) (T := m_M_does) a_M_order_142 (by decide +kernel) hm_M_does rfl rfl rfl rfl)))) (fun p64 => zd_vret a_M_order_139 rfl))))))))
theorem B_M_order_145 {G : Nat → Nat → Int32} {x1 s0 : Int32} : zden 157 145 [.ref 90, .int x1, .retAddr 0] [.int s0] (zSH, G) = some (none, (zSH, G)) :=
  (zd_istore_n a_M_order_145 rfl rfl rfl).trans (zd_vret a_M_order_146 rfl)
theorem a_M_orders_0 : zAt 156 0 m_M_orders (.aload_n 0) 1 := ⟨hm_M_orders, by decide +kernel⟩
theorem a_M_orders_1 : zAt 156 1 m_M_orders (.iconst 0) 1 := ⟨hm_M_orders, by decide +kernel⟩
theorem a_M_orders_2 : zAt 156 2 m_M_orders (.putfield 162) 3 := ⟨hm_M_orders, by decide +kernel⟩
theorem a_M_orders_5 : zAt 156 5 m_M_orders (.aload_n 0) 1 := ⟨hm_M_orders, by decide +kernel⟩
theorem a_M_orders_6 : zAt 156 6 m_M_orders (.iconst 0) 1 := ⟨hm_M_orders, by decide +kernel⟩
theorem a_M_orders_7 : zAt 156 7 m_M_orders (.putfield 168) 3 := ⟨hm_M_orders, by decide +kernel⟩
theorem a_M_orders_10 : zAt 156 10 m_M_orders (.iconst 1) 1 := ⟨hm_M_orders, by decide +kernel⟩
theorem a_M_orders_11 : zAt 156 11 m_M_orders (.istore_n 1) 1 := ⟨hm_M_orders, by decide +kernel⟩
theorem a_M_orders_12 : zAt 156 12 m_M_orders (.aload_n 0) 1 := ⟨hm_M_orders, by decide +kernel⟩
theorem a_M_orders_13 : zAt 156 13 m_M_orders (.invokevirtual 204) 3 := ⟨hm_M_orders, by decide +kernel⟩
theorem a_M_orders_16 : zAt 156 16 m_M_orders (.aload_n 0) 1 := ⟨hm_M_orders, by decide +kernel⟩
theorem a_M_orders_17 : zAt 156 17 m_M_orders (.getfield 168) 3 := ⟨hm_M_orders, by decide +kernel⟩
theorem a_M_orders_20 : zAt 156 20 m_M_orders (.ifCond .ne 44) 3 := ⟨hm_M_orders, by decide +kernel⟩
theorem a_M_orders_23 : zAt 156 23 m_M_orders (.aload_n 0) 1 := ⟨hm_M_orders, by decide +kernel⟩
theorem a_M_orders_24 : zAt 156 24 m_M_orders (.getfield 43) 3 := ⟨hm_M_orders, by decide +kernel⟩
theorem a_M_orders_27 : zAt 156 27 m_M_orders (.ifCond .ne 37) 3 := ⟨hm_M_orders, by decide +kernel⟩
theorem a_M_orders_30 : zAt 156 30 m_M_orders (.aload_n 0) 1 := ⟨hm_M_orders, by decide +kernel⟩
theorem a_M_orders_31 : zAt 156 31 m_M_orders (.getfield 162) 3 := ⟨hm_M_orders, by decide +kernel⟩
theorem a_M_orders_34 : zAt 156 34 m_M_orders (.aload_n 0) 1 := ⟨hm_M_orders, by decide +kernel⟩
theorem a_M_orders_35 : zAt 156 35 m_M_orders (.getfield 165) 3 := ⟨hm_M_orders, by decide +kernel⟩
theorem a_M_orders_38 : zAt 156 38 m_M_orders (.if_icmp .ge 26) 3 := ⟨hm_M_orders, by decide +kernel⟩
theorem a_M_orders_41 : zAt 156 41 m_M_orders (.aload_n 0) 1 := ⟨hm_M_orders, by decide +kernel⟩
theorem a_M_orders_42 : zAt 156 42 m_M_orders (.bipush 59) 2 := ⟨hm_M_orders, by decide +kernel⟩
theorem a_M_orders_44 : zAt 156 44 m_M_orders (.invokevirtual 176) 3 := ⟨hm_M_orders, by decide +kernel⟩
theorem a_M_orders_47 : zAt 156 47 m_M_orders (.aload_n 0) 1 := ⟨hm_M_orders, by decide +kernel⟩
theorem a_M_orders_48 : zAt 156 48 m_M_orders (.getfield 168) 3 := ⟨hm_M_orders, by decide +kernel⟩
theorem a_M_orders_51 : zAt 156 51 m_M_orders (.ifCond .ne 7) 3 := ⟨hm_M_orders, by decide +kernel⟩
theorem a_M_orders_54 : zAt 156 54 m_M_orders (.aload_n 0) 1 := ⟨hm_M_orders, by decide +kernel⟩
theorem a_M_orders_55 : zAt 156 55 m_M_orders (.invokevirtual 204) 3 := ⟨hm_M_orders, by decide +kernel⟩
theorem a_M_orders_58 : zAt 156 58 m_M_orders (.iinc 1 1) 3 := ⟨hm_M_orders, by decide +kernel⟩
theorem a_M_orders_61 : zAt 156 61 m_M_orders (.goto (-45)) 3 := ⟨hm_M_orders, by decide +kernel⟩
theorem a_M_orders_64 : zAt 156 64 m_M_orders (.iload_n 1) 1 := ⟨hm_M_orders, by decide +kernel⟩
theorem a_M_orders_65 : zAt 156 65 m_M_orders (.ireturn) 1 := ⟨hm_M_orders, by decide +kernel⟩
theorem B_M_orders_0 {G : Nat → Nat → Int32} : zden 156 0 [.ref 90, .retAddr 0] [] (zSH, G) = zaft 156 16 [.ref 90, .int 1] [] (zSH, (zup (zup G 90 18 0) 90 20 0)) (zden 157 0 [.ref 90, .retAddr 0, .retAddr 0] [] (zSH, (zup (zup G 90 18 0) 90 20 0))) :=
  (zd_aload_n a_M_orders_0 rfl).trans ((zd_iconst (v := 0) a_M_orders_1 (by decide)).trans ((zd_putI (h := (zSH, G)) (ci := 8) (fi := 18) a_M_orders_2 (by decide +kernel) sh_90 rfl rfl).trans ((zd_aload_n a_M_orders_5 rfl).trans ((zd_iconst (v := 0) a_M_orders_6 (by decide)).trans ((zd_putI (h := (zSH, (zup G 90 18 0))) (ci := 8) (fi := 20) a_M_orders_7 (by decide +kernel) sh_90 rfl rfl).trans ((zd_iconst (v := 1) a_M_orders_10 (by decide)).trans ((zd_istore_n a_M_orders_11 rfl rfl rfl).trans ((zd_aload_n a_M_orders_12 rfl).trans ((zd_cal (kd := 0) (tg := 157) (T := m_M_order) a_M_orders_13 (by decide +kernel) hm_M_order rfl rfl rfl rfl))))))))))
theorem B_M_orders_16 {G : Nat → Nat → Int32} {x1 : Int32} : zden 156 16 [.ref 90, .int x1] [] (zSH, G) = if ¬ (G 90 20) = 0 then some (some (.int x1), (zSH, G)) else if ¬ (G 90 0) = 0 then some (some (.int x1), (zSH, G)) else if (G 90 19) ≤ (G 90 18) then some (some (.int x1), (zSH, G)) else zaft 156 47 [.ref 90, .int x1] [] (zSH, G) (zden 160 0 [.ref 90, .int 59] [] (zSH, G)) :=
  (zd_aload_n a_M_orders_16 rfl).trans ((zd_getI (h := (zSH, G)) (ci := 8) (fi := 20) a_M_orders_17 (by decide +kernel) sh_90 rfl).trans ((zd_if_ne a_M_orders_20 rfl).trans (zitc (fun p12 => (zd_iload_n a_M_orders_64 rfl).trans (zd_iret a_M_orders_65 rfl (znr_int _))) (fun p12 => (zd_aload_n a_M_orders_23 rfl).trans ((zd_getI (h := (zSH, G)) (ci := 8) (fi := 0) a_M_orders_24 (by decide +kernel) sh_90 rfl).trans ((zd_if_ne a_M_orders_27 rfl).trans (zitc (fun p13 => (zd_iload_n a_M_orders_64 rfl).trans (zd_iret a_M_orders_65 rfl (znr_int _))) (fun p13 => (zd_aload_n a_M_orders_30 rfl).trans ((zd_getI (h := (zSH, G)) (ci := 8) (fi := 18) a_M_orders_31 (by decide +kernel) sh_90 rfl).trans ((zd_aload_n a_M_orders_34 rfl).trans ((zd_getI (h := (zSH, G)) (ci := 8) (fi := 19) a_M_orders_35 (by decide +kernel) sh_90 rfl).trans ((zd_icmp_ge a_M_orders_38 rfl).trans (zitc (fun p14 => (zd_iload_n a_M_orders_64 rfl).trans (zd_iret a_M_orders_65 rfl (znr_int _))) (fun p14 => (zd_aload_n a_M_orders_41 rfl).trans ((zd_bipush (v := 59) a_M_orders_42 (by decide)).trans ((zd_cal (kd := 0) (tg := 160) (T := m_M_mark) a_M_orders_44 (by decide +kernel) hm_M_mark rfl rfl rfl rfl)))))))))))))))))
theorem B_M_orders_47 {G : Nat → Nat → Int32} {x1 : Int32} : zden 156 47 [.ref 90, .int x1] [] (zSH, G) = if ¬ (G 90 20) = 0 then zden 156 58 [.ref 90, .int x1] [] (zSH, G) else zaft 156 58 [.ref 90, .int x1] [] (zSH, G) (zden 157 0 [.ref 90, .retAddr 0, .retAddr 0] [] (zSH, G)) :=
  (zd_aload_n a_M_orders_47 rfl).trans ((zd_getI (h := (zSH, G)) (ci := 8) (fi := 20) a_M_orders_48 (by decide +kernel) sh_90 rfl).trans ((zd_if_ne a_M_orders_51 rfl).trans (zitc (fun p15 => rfl) (fun p15 => (zd_aload_n a_M_orders_54 rfl).trans ((zd_cal (kd := 0) (tg := 157) (T := m_M_order) a_M_orders_55 (by decide +kernel) hm_M_order rfl rfl rfl rfl))))))
theorem B_M_orders_58 {G : Nat → Nat → Int32} {x1 : Int32} : zden 156 58 [.ref 90, .int x1] [] (zSH, G) = zden 156 16 [.ref 90, .int (x1 + 1)] [] (zSH, G) :=
  (zd_iinc (v := 1) a_M_orders_58 rfl (by decide) rfl rfl rfl).trans ((zd_goto a_M_orders_61 rfl))
theorem a_M_run_0 : zAt 155 0 m_M_run (.aload_n 0) 1 := ⟨hm_M_run, by decide +kernel⟩
theorem a_M_run_1 : zAt 155 1 m_M_run (.invokevirtual 78) 3 := ⟨hm_M_run, by decide +kernel⟩
theorem a_M_run_4 : zAt 155 4 m_M_run (.aload_n 0) 1 := ⟨hm_M_run, by decide +kernel⟩
theorem a_M_run_5 : zAt 155 5 m_M_run (.aload_n 0) 1 := ⟨hm_M_run, by decide +kernel⟩
theorem a_M_run_6 : zAt 155 6 m_M_run (.getfield 159) 3 := ⟨hm_M_run, by decide +kernel⟩
theorem a_M_run_9 : zAt 155 9 m_M_run (.putfield 165) 3 := ⟨hm_M_run, by decide +kernel⟩
theorem a_M_run_12 : zAt 155 12 m_M_run (.aload_n 0) 1 := ⟨hm_M_run, by decide +kernel⟩
theorem a_M_run_13 : zAt 155 13 m_M_run (.iconst 0) 1 := ⟨hm_M_run, by decide +kernel⟩
theorem a_M_run_14 : zAt 155 14 m_M_run (.putfield 198) 3 := ⟨hm_M_run, by decide +kernel⟩
theorem a_M_run_17 : zAt 155 17 m_M_run (.aload_n 0) 1 := ⟨hm_M_run, by decide +kernel⟩
theorem a_M_run_18 : zAt 155 18 m_M_run (.invokevirtual 207) 3 := ⟨hm_M_run, by decide +kernel⟩
theorem a_M_run_21 : zAt 155 21 m_M_run (.istore_n 1) 1 := ⟨hm_M_run, by decide +kernel⟩
theorem a_M_run_22 : zAt 155 22 m_M_run (.aload_n 0) 1 := ⟨hm_M_run, by decide +kernel⟩
theorem a_M_run_23 : zAt 155 23 m_M_run (.iconst 0) 1 := ⟨hm_M_run, by decide +kernel⟩
theorem a_M_run_24 : zAt 155 24 m_M_run (.putfield 159) 3 := ⟨hm_M_run, by decide +kernel⟩
theorem a_M_run_27 : zAt 155 27 m_M_run (.aload_n 0) 1 := ⟨hm_M_run, by decide +kernel⟩
theorem a_M_run_28 : zAt 155 28 m_M_run (.getfield 168) 3 := ⟨hm_M_run, by decide +kernel⟩
theorem a_M_run_31 : zAt 155 31 m_M_run (.ifCond .eq 12) 3 := ⟨hm_M_run, by decide +kernel⟩
theorem a_M_run_34 : zAt 155 34 m_M_run (.sipush (-1000)) 3 := ⟨hm_M_run, by decide +kernel⟩
theorem a_M_run_37 : zAt 155 37 m_M_run (.aload_n 0) 1 := ⟨hm_M_run, by decide +kernel⟩
theorem a_M_run_38 : zAt 155 38 m_M_run (.getfield 162) 3 := ⟨hm_M_run, by decide +kernel⟩
theorem a_M_run_41 : zAt 155 41 m_M_run (.isub) 1 := ⟨hm_M_run, by decide +kernel⟩
theorem a_M_run_42 : zAt 155 42 m_M_run (.ireturn) 1 := ⟨hm_M_run, by decide +kernel⟩
theorem a_M_run_43 : zAt 155 43 m_M_run (.aload_n 0) 1 := ⟨hm_M_run, by decide +kernel⟩
theorem a_M_run_44 : zAt 155 44 m_M_run (.iconst 1) 1 := ⟨hm_M_run, by decide +kernel⟩
theorem a_M_run_45 : zAt 155 45 m_M_run (.putfield 198) 3 := ⟨hm_M_run, by decide +kernel⟩
theorem a_M_run_48 : zAt 155 48 m_M_run (.aload_n 0) 1 := ⟨hm_M_run, by decide +kernel⟩
theorem a_M_run_49 : zAt 155 49 m_M_run (.invokevirtual 207) 3 := ⟨hm_M_run, by decide +kernel⟩
theorem a_M_run_52 : zAt 155 52 m_M_run (.istore_n 1) 1 := ⟨hm_M_run, by decide +kernel⟩
theorem a_M_run_53 : zAt 155 53 m_M_run (.aload_n 0) 1 := ⟨hm_M_run, by decide +kernel⟩
theorem a_M_run_54 : zAt 155 54 m_M_run (.aload_n 0) 1 := ⟨hm_M_run, by decide +kernel⟩
theorem a_M_run_55 : zAt 155 55 m_M_run (.getfield 43) 3 := ⟨hm_M_run, by decide +kernel⟩
theorem a_M_run_58 : zAt 155 58 m_M_run (.ifCond .ne 7) 3 := ⟨hm_M_run, by decide +kernel⟩
theorem a_M_run_61 : zAt 155 61 m_M_run (.iload_n 1) 1 := ⟨hm_M_run, by decide +kernel⟩
theorem a_M_run_62 : zAt 155 62 m_M_run (.goto 12) 3 := ⟨hm_M_run, by decide +kernel⟩
theorem a_M_run_65 : zAt 155 65 m_M_run (.aload_n 0) 1 := ⟨hm_M_run, by decide +kernel⟩
theorem a_M_run_66 : zAt 155 66 m_M_run (.bipush 6) 2 := ⟨hm_M_run, by decide +kernel⟩
theorem a_M_run_68 : zAt 155 68 m_M_run (.iload_n 1) 1 := ⟨hm_M_run, by decide +kernel⟩
theorem a_M_run_69 : zAt 155 69 m_M_run (.iconst 1) 1 := ⟨hm_M_run, by decide +kernel⟩
theorem a_M_run_70 : zAt 155 70 m_M_run (.isub) 1 := ⟨hm_M_run, by decide +kernel⟩
theorem a_M_run_71 : zAt 155 71 m_M_run (.invokevirtual 75) 3 := ⟨hm_M_run, by decide +kernel⟩
theorem a_M_run_74 : zAt 155 74 m_M_run (.invokevirtual 85) 3 := ⟨hm_M_run, by decide +kernel⟩
theorem a_M_run_77 : zAt 155 77 m_M_run (.ireturn) 1 := ⟨hm_M_run, by decide +kernel⟩
theorem B_M_run_0 {G : Nat → Nat → Int32} : zden 155 0 [.ref 90, .retAddr 0] [] (zSH, G) = zaft 155 4 [.ref 90, .retAddr 0] [] (zSH, G) (zden 107 0 [.ref 90] [] (zSH, G)) :=
  (zd_aload_n a_M_run_0 rfl).trans ((zd_cal (kd := 0) (tg := 107) (T := m_M_begins) a_M_run_1 (by decide +kernel) hm_M_begins rfl rfl rfl rfl))
theorem B_M_run_4 {G : Nat → Nat → Int32} : zden 155 4 [.ref 90, .retAddr 0] [] (zSH, G) = zaft 155 21 [.ref 90, .retAddr 0] [] (zSH, (zup (zup G 90 19 (G 90 16)) 90 21 0)) (zden 156 0 [.ref 90, .retAddr 0] [] (zSH, (zup (zup G 90 19 (G 90 16)) 90 21 0))) :=
  (zd_aload_n a_M_run_4 rfl).trans ((zd_aload_n a_M_run_5 rfl).trans ((zd_getI (h := (zSH, G)) (ci := 8) (fi := 16) a_M_run_6 (by decide +kernel) sh_90 rfl).trans ((zd_putI (h := (zSH, G)) (ci := 8) (fi := 19) a_M_run_9 (by decide +kernel) sh_90 rfl rfl).trans ((zd_aload_n a_M_run_12 rfl).trans ((zd_iconst (v := 0) a_M_run_13 (by decide)).trans ((zd_putI (h := (zSH, (zup G 90 19 (G 90 16)))) (ci := 8) (fi := 21) a_M_run_14 (by decide +kernel) sh_90 rfl rfl).trans ((zd_aload_n a_M_run_17 rfl).trans ((zd_cal (kd := 0) (tg := 156) (T := m_M_orders) a_M_run_18 (by decide +kernel) hm_M_orders rfl rfl rfl rfl)))))))))
theorem B_M_run_21 {G : Nat → Nat → Int32} {s0 : Int32} : zden 155 21 [.ref 90, .retAddr 0] [.int s0] (zSH, G) = if ((zup G 90 16 0) 90 20) = 0 then zaft 155 52 [.ref 90, .int s0] [] (zSH, (zup (zup G 90 16 0) 90 21 1)) (zden 156 0 [.ref 90, .retAddr 0] [] (zSH, (zup (zup G 90 16 0) 90 21 1))) else some (some (.int ((-1000) - ((zup G 90 16 0) 90 18))), (zSH, (zup G 90 16 0))) :=
  (zd_istore_n a_M_run_21 rfl rfl rfl).trans ((zd_aload_n a_M_run_22 rfl).trans ((zd_iconst (v := 0) a_M_run_23 (by decide)).trans ((zd_putI (h := (zSH, G)) (ci := 8) (fi := 16) a_M_run_24 (by decide +kernel) sh_90 rfl rfl).trans ((zd_aload_n a_M_run_27 rfl).trans ((zd_getI (h := (zSH, (zup G 90 16 0))) (ci := 8) (fi := 20) a_M_run_28 (by decide +kernel) sh_90 rfl).trans ((zd_if_eq a_M_run_31 rfl).trans (zitc (fun p8 => (zd_aload_n a_M_run_43 rfl).trans ((zd_iconst (v := 1) a_M_run_44 (by decide)).trans ((zd_putI (h := (zSH, (zup G 90 16 0))) (ci := 8) (fi := 21) a_M_run_45 (by decide +kernel) sh_90 rfl rfl).trans ((zd_aload_n a_M_run_48 rfl).trans ((zd_cal (kd := 0) (tg := 156) (T := m_M_orders) a_M_run_49 (by decide +kernel) hm_M_orders rfl rfl rfl rfl)))))) (fun p8 => (zd_sipush (v := (-1000)) a_M_run_34 (by decide)).trans ((zd_aload_n a_M_run_37 rfl).trans ((zd_getI (h := (zSH, (zup G 90 16 0))) (ci := 8) (fi := 18) a_M_run_38 (by decide +kernel) sh_90 rfl).trans ((zd_num (st2 := [.int ((-1000) - ((zup G 90 16 0) 90 18))]) a_M_run_41 rfl rfl rfl rfl).trans (zd_iret a_M_run_42 rfl (znr_int _)))))))))))))
theorem B_M_run_52 {G : Nat → Nat → Int32} {x1 s0 : Int32} : zden 155 52 [.ref 90, .int x1] [.int s0] (zSH, G) = if ¬ (G 90 0) = 0 then zden 155 74 [.ref 90, .int s0] [.int (-14), .ref 90] (zSH, (zup (zup (zup G 90 2 6) 90 3 (s0 - 1)) 90 0 (-14))) else zden 155 74 [.ref 90, .int s0] [.int s0, .ref 90] (zSH, G) :=
  (zd_istore_n a_M_run_52 rfl rfl rfl).trans ((zd_aload_n a_M_run_53 rfl).trans ((zd_aload_n a_M_run_54 rfl).trans ((zd_getI (h := (zSH, G)) (ci := 8) (fi := 0) a_M_run_55 (by decide +kernel) sh_90 rfl).trans ((zd_if_ne a_M_run_58 rfl).trans (zitc (fun p9 => (zd_aload_n a_M_run_65 rfl).trans ((zd_bipush (v := 6) a_M_run_66 (by decide)).trans ((zd_iload_n a_M_run_68 rfl).trans ((zd_iconst (v := 1) a_M_run_69 (by decide)).trans ((zd_num (st2 := [.int (s0 - 1), .int 6, .ref 90, .ref 90]) a_M_run_70 rfl rfl rfl rfl).trans ((zd_cal (kd := 0) (tg := 114) (T := m_M_refuses) a_M_run_71 (by decide +kernel) hm_M_refuses rfl rfl rfl rfl).trans (((congrArg (zaft 155 74 [.ref 90, .int s0] [.ref 90] (zSH, G)) (ms_refuses)).trans zaft_same)))))))) (fun p9 => (zd_iload_n a_M_run_61 rfl).trans ((zd_goto a_M_run_62 rfl))))))))
theorem B_M_run_74 {G : Nat → Nat → Int32} {x1 s0 : Int32} : zden 155 74 [.ref 90, .int x1] [.int s0, .ref 90] (zSH, G) = zaft 155 77 [.ref 90, .int x1] [] (zSH, G) (zden 115 0 [.ref 90, .int s0, .retAddr 0] [] (zSH, G)) :=
  (zd_cal (kd := 0) (tg := 115) (T := m_M_ends) a_M_run_74 (by decide +kernel) hm_M_ends rfl rfl rfl rfl)
theorem B_M_run_77 {G : Nat → Nat → Int32} {x1 s0 : Int32} : zden 155 77 [.ref 90, .int x1] [.int s0] (zSH, G) = some (some (.int s0), (zSH, G)) :=
  zd_iret a_M_run_77 rfl (znr_int _)
theorem a_M_writes_0 : zAt 169 0 m_M_writes (.aload_n 0) 1 := ⟨hm_M_writes, by decide +kernel⟩
theorem a_M_writes_1 : zAt 169 1 m_M_writes (.getfield 25) 3 := ⟨hm_M_writes, by decide +kernel⟩
theorem a_M_writes_4 : zAt 169 4 m_M_writes (.aload_n 0) 1 := ⟨hm_M_writes, by decide +kernel⟩
theorem a_M_writes_5 : zAt 169 5 m_M_writes (.getfield 152) 3 := ⟨hm_M_writes, by decide +kernel⟩
theorem a_M_writes_8 : zAt 169 8 m_M_writes (.iload_n 1) 1 := ⟨hm_M_writes, by decide +kernel⟩
theorem a_M_writes_9 : zAt 169 9 m_M_writes (.iastore) 1 := ⟨hm_M_writes, by decide +kernel⟩
theorem a_M_writes_10 : zAt 169 10 m_M_writes (.aload_n 0) 1 := ⟨hm_M_writes, by decide +kernel⟩
theorem a_M_writes_11 : zAt 169 11 m_M_writes (.dup) 1 := ⟨hm_M_writes, by decide +kernel⟩
theorem a_M_writes_12 : zAt 169 12 m_M_writes (.getfield 152) 3 := ⟨hm_M_writes, by decide +kernel⟩
theorem a_M_writes_15 : zAt 169 15 m_M_writes (.iconst 1) 1 := ⟨hm_M_writes, by decide +kernel⟩
theorem a_M_writes_16 : zAt 169 16 m_M_writes (.iadd) 1 := ⟨hm_M_writes, by decide +kernel⟩
theorem a_M_writes_17 : zAt 169 17 m_M_writes (.putfield 152) 3 := ⟨hm_M_writes, by decide +kernel⟩
theorem a_M_writes_20 : zAt 169 20 m_M_writes (.return_) 1 := ⟨hm_M_writes, by decide +kernel⟩
theorem B_M_writes_0 {G : Nat → Nat → Int32} {x1 : Int32} (z9_0 : zin (G 90 17) 40 = true) : zden 169 0 [.ref 90, .int x1] [] (zSH, G) = some (none, (zSH, (zup (zup G 96 (G 90 17).toNatClampNeg x1) 90 17 (((zup G 96 (G 90 17).toNatClampNeg x1) 90 17) + 1)))) :=
  (zd_aload_n a_M_writes_0 rfl).trans ((zd_getR (h := (zSH, G)) (ci := 8) (fi := 10) (a := 96) a_M_writes_1 (by decide +kernel) sh_90 rfl rfl).trans ((zd_aload_n a_M_writes_4 rfl).trans ((zd_getI (h := (zSH, G)) (ci := 8) (fi := 17) a_M_writes_5 (by decide +kernel) sh_90 rfl).trans ((zd_iload_n a_M_writes_8 rfl).trans ((zd_iast (h := (zSH, G)) a_M_writes_9 sh_96).trans ((if_pos z9_0).trans ((zd_aload_n a_M_writes_10 rfl).trans ((zd_num (st2 := [.ref 90, .ref 90]) a_M_writes_11 rfl rfl rfl rfl).trans ((zd_getI (h := (zSH, (zup G 96 (G 90 17).toNatClampNeg x1))) (ci := 8) (fi := 17) a_M_writes_12 (by decide +kernel) sh_90 rfl).trans ((zd_iconst (v := 1) a_M_writes_15 (by decide)).trans ((zd_num (st2 := [.int (((zup G 96 (G 90 17).toNatClampNeg x1) 90 17) + 1), .ref 90]) a_M_writes_16 rfl rfl rfl rfl).trans ((zd_putI (h := (zSH, (zup G 96 (G 90 17).toNatClampNeg x1))) (ci := 8) (fi := 17) a_M_writes_17 (by decide +kernel) sh_90 rfl rfl).trans (zd_vret a_M_writes_20 rfl)))))))))))))
theorem a_M_writesNumber_0 : zAt 168 0 m_M_writesNumber (.iload_n 1) 1 := ⟨hm_M_writesNumber, by decide +kernel⟩
theorem a_M_writesNumber_1 : zAt 168 1 m_M_writesNumber (.bipush 100) 2 := ⟨hm_M_writesNumber, by decide +kernel⟩
theorem a_M_writesNumber_3 : zAt 168 3 m_M_writesNumber (.if_icmp .lt 14) 3 := ⟨hm_M_writesNumber, by decide +kernel⟩
theorem a_M_writesNumber_6 : zAt 168 6 m_M_writesNumber (.aload_n 0) 1 := ⟨hm_M_writesNumber, by decide +kernel⟩
theorem a_M_writesNumber_7 : zAt 168 7 m_M_writesNumber (.bipush 48) 2 := ⟨hm_M_writesNumber, by decide +kernel⟩
theorem a_M_writesNumber_9 : zAt 168 9 m_M_writesNumber (.iload_n 1) 1 := ⟨hm_M_writesNumber, by decide +kernel⟩
theorem a_M_writesNumber_10 : zAt 168 10 m_M_writesNumber (.bipush 100) 2 := ⟨hm_M_writesNumber, by decide +kernel⟩
theorem a_M_writesNumber_12 : zAt 168 12 m_M_writesNumber (.idiv) 1 := ⟨hm_M_writesNumber, by decide +kernel⟩
theorem a_M_writesNumber_13 : zAt 168 13 m_M_writesNumber (.iadd) 1 := ⟨hm_M_writesNumber, by decide +kernel⟩
theorem a_M_writesNumber_14 : zAt 168 14 m_M_writesNumber (.invokevirtual 155) 3 := ⟨hm_M_writesNumber, by decide +kernel⟩
theorem a_M_writesNumber_17 : zAt 168 17 m_M_writesNumber (.iload_n 1) 1 := ⟨hm_M_writesNumber, by decide +kernel⟩
theorem a_M_writesNumber_18 : zAt 168 18 m_M_writesNumber (.bipush 10) 2 := ⟨hm_M_writesNumber, by decide +kernel⟩
theorem a_M_writesNumber_20 : zAt 168 20 m_M_writesNumber (.if_icmp .lt 17) 3 := ⟨hm_M_writesNumber, by decide +kernel⟩
theorem a_M_writesNumber_23 : zAt 168 23 m_M_writesNumber (.aload_n 0) 1 := ⟨hm_M_writesNumber, by decide +kernel⟩
theorem a_M_writesNumber_24 : zAt 168 24 m_M_writesNumber (.bipush 48) 2 := ⟨hm_M_writesNumber, by decide +kernel⟩
theorem a_M_writesNumber_26 : zAt 168 26 m_M_writesNumber (.iload_n 1) 1 := ⟨hm_M_writesNumber, by decide +kernel⟩
theorem a_M_writesNumber_27 : zAt 168 27 m_M_writesNumber (.bipush 10) 2 := ⟨hm_M_writesNumber, by decide +kernel⟩
theorem a_M_writesNumber_29 : zAt 168 29 m_M_writesNumber (.idiv) 1 := ⟨hm_M_writesNumber, by decide +kernel⟩
theorem a_M_writesNumber_30 : zAt 168 30 m_M_writesNumber (.bipush 10) 2 := ⟨hm_M_writesNumber, by decide +kernel⟩
theorem a_M_writesNumber_32 : zAt 168 32 m_M_writesNumber (.irem) 1 := ⟨hm_M_writesNumber, by decide +kernel⟩
theorem a_M_writesNumber_33 : zAt 168 33 m_M_writesNumber (.iadd) 1 := ⟨hm_M_writesNumber, by decide +kernel⟩
theorem a_M_writesNumber_34 : zAt 168 34 m_M_writesNumber (.invokevirtual 155) 3 := ⟨hm_M_writesNumber, by decide +kernel⟩
theorem a_M_writesNumber_37 : zAt 168 37 m_M_writesNumber (.aload_n 0) 1 := ⟨hm_M_writesNumber, by decide +kernel⟩
theorem a_M_writesNumber_38 : zAt 168 38 m_M_writesNumber (.bipush 48) 2 := ⟨hm_M_writesNumber, by decide +kernel⟩
theorem a_M_writesNumber_40 : zAt 168 40 m_M_writesNumber (.iload_n 1) 1 := ⟨hm_M_writesNumber, by decide +kernel⟩
theorem a_M_writesNumber_41 : zAt 168 41 m_M_writesNumber (.bipush 10) 2 := ⟨hm_M_writesNumber, by decide +kernel⟩
theorem a_M_writesNumber_43 : zAt 168 43 m_M_writesNumber (.irem) 1 := ⟨hm_M_writesNumber, by decide +kernel⟩
theorem a_M_writesNumber_44 : zAt 168 44 m_M_writesNumber (.iadd) 1 := ⟨hm_M_writesNumber, by decide +kernel⟩
theorem a_M_writesNumber_45 : zAt 168 45 m_M_writesNumber (.invokevirtual 155) 3 := ⟨hm_M_writesNumber, by decide +kernel⟩
theorem a_M_writesNumber_48 : zAt 168 48 m_M_writesNumber (.return_) 1 := ⟨hm_M_writesNumber, by decide +kernel⟩
theorem B_M_writesNumber_0 {G : Nat → Nat → Int32} {x1 : Int32} : zden 168 0 [.ref 90, .int x1] [] (zSH, G) = if x1 < 100 then zden 168 17 [.ref 90, .int x1] [] (zSH, G) else zaft 168 17 [.ref 90, .int x1] [] (zSH, G) (zden 169 0 [.ref 90, .int (48 + (x1 / 100))] [] (zSH, G)) :=
  (zd_iload_n a_M_writesNumber_0 rfl).trans ((zd_bipush (v := 100) a_M_writesNumber_1 (by decide)).trans ((zd_icmp_lt a_M_writesNumber_3 rfl).trans (zitc (fun p8 => rfl) (fun p8 => (zd_aload_n a_M_writesNumber_6 rfl).trans ((zd_bipush (v := 48) a_M_writesNumber_7 (by decide)).trans ((zd_iload_n a_M_writesNumber_9 rfl).trans ((zd_bipush (v := 100) a_M_writesNumber_10 (by decide)).trans ((zd_idiv a_M_writesNumber_12 (by decide)).trans ((zd_num (st2 := [.int (48 + (x1 / 100)), .ref 90]) a_M_writesNumber_13 rfl rfl rfl rfl).trans ((zd_cal (kd := 0) (tg := 169) (T := m_M_writes) a_M_writesNumber_14 (by decide +kernel) hm_M_writes rfl rfl rfl rfl)))))))))))
theorem B_M_writesNumber_17 {G : Nat → Nat → Int32} {x1 : Int32} : zden 168 17 [.ref 90, .int x1] [] (zSH, G) = if x1 < 10 then zden 168 37 [.ref 90, .int x1] [] (zSH, G) else zaft 168 37 [.ref 90, .int x1] [] (zSH, G) (zden 169 0 [.ref 90, .int (48 + ((x1 / 10) - (x1 / 10) / 10 * 10))] [] (zSH, G)) :=
  (zd_iload_n a_M_writesNumber_17 rfl).trans ((zd_bipush (v := 10) a_M_writesNumber_18 (by decide)).trans ((zd_icmp_lt a_M_writesNumber_20 rfl).trans (zitc (fun p9 => rfl) (fun p9 => (zd_aload_n a_M_writesNumber_23 rfl).trans ((zd_bipush (v := 48) a_M_writesNumber_24 (by decide)).trans ((zd_iload_n a_M_writesNumber_26 rfl).trans ((zd_bipush (v := 10) a_M_writesNumber_27 (by decide)).trans ((zd_idiv a_M_writesNumber_29 (by decide)).trans ((zd_bipush (v := 10) a_M_writesNumber_30 (by decide)).trans ((zd_irem a_M_writesNumber_32 (by decide)).trans ((zd_num (st2 := [.int (48 + ((x1 / 10) - (x1 / 10) / 10 * 10)), .ref 90]) a_M_writesNumber_33 rfl rfl rfl rfl).trans ((zd_cal (kd := 0) (tg := 169) (T := m_M_writes) a_M_writesNumber_34 (by decide +kernel) hm_M_writes rfl rfl rfl rfl)))))))))))))
theorem B_M_writesNumber_37 {G : Nat → Nat → Int32} {x1 : Int32} : zden 168 37 [.ref 90, .int x1] [] (zSH, G) = zaft 168 48 [.ref 90, .int x1] [] (zSH, G) (zden 169 0 [.ref 90, .int (48 + (x1 - x1 / 10 * 10))] [] (zSH, G)) :=
  (zd_aload_n a_M_writesNumber_37 rfl).trans ((zd_bipush (v := 48) a_M_writesNumber_38 (by decide)).trans ((zd_iload_n a_M_writesNumber_40 rfl).trans ((zd_bipush (v := 10) a_M_writesNumber_41 (by decide)).trans ((zd_irem a_M_writesNumber_43 (by decide)).trans ((zd_num (st2 := [.int (48 + (x1 - x1 / 10 * 10)), .ref 90]) a_M_writesNumber_44 rfl rfl rfl rfl).trans ((zd_cal (kd := 0) (tg := 169) (T := m_M_writes) a_M_writesNumber_45 (by decide +kernel) hm_M_writes rfl rfl rfl rfl)))))))
theorem B_M_writesNumber_48 {G : Nat → Nat → Int32} {x1 : Int32} : zden 168 48 [.ref 90, .int x1] [] (zSH, G) = some (none, (zSH, G)) :=
  zd_vret a_M_writesNumber_48 rfl
theorem a_M_tell_0 : zAt 167 0 m_M_tell (.aload_n 0) 1 := ⟨hm_M_tell, by decide +kernel⟩
theorem a_M_tell_1 : zAt 167 1 m_M_tell (.iload_n 1) 1 := ⟨hm_M_tell, by decide +kernel⟩
theorem a_M_tell_2 : zAt 167 2 m_M_tell (.invokevirtual 114) 3 := ⟨hm_M_tell, by decide +kernel⟩
theorem a_M_tell_5 : zAt 167 5 m_M_tell (.ifCond .ne 6) 3 := ⟨hm_M_tell, by decide +kernel⟩
theorem a_M_tell_8 : zAt 167 8 m_M_tell (.bipush (-11)) 2 := ⟨hm_M_tell, by decide +kernel⟩
theorem a_M_tell_10 : zAt 167 10 m_M_tell (.ireturn) 1 := ⟨hm_M_tell, by decide +kernel⟩
theorem a_M_tell_11 : zAt 167 11 m_M_tell (.aload_n 0) 1 := ⟨hm_M_tell, by decide +kernel⟩
theorem a_M_tell_12 : zAt 167 12 m_M_tell (.iconst 0) 1 := ⟨hm_M_tell, by decide +kernel⟩
theorem a_M_tell_13 : zAt 167 13 m_M_tell (.putfield 152) 3 := ⟨hm_M_tell, by decide +kernel⟩
theorem a_M_tell_16 : zAt 167 16 m_M_tell (.aload_n 0) 1 := ⟨hm_M_tell, by decide +kernel⟩
theorem a_M_tell_17 : zAt 167 17 m_M_tell (.iload_n 1) 1 := ⟨hm_M_tell, by decide +kernel⟩
theorem a_M_tell_18 : zAt 167 18 m_M_tell (.invokevirtual 210) 3 := ⟨hm_M_tell, by decide +kernel⟩
theorem a_M_tell_21 : zAt 167 21 m_M_tell (.aload_n 0) 1 := ⟨hm_M_tell, by decide +kernel⟩
theorem a_M_tell_22 : zAt 167 22 m_M_tell (.aload_n 0) 1 := ⟨hm_M_tell, by decide +kernel⟩
theorem a_M_tell_23 : zAt 167 23 m_M_tell (.getfield 34) 3 := ⟨hm_M_tell, by decide +kernel⟩
theorem a_M_tell_26 : zAt 167 26 m_M_tell (.aload_n 0) 1 := ⟨hm_M_tell, by decide +kernel⟩
theorem a_M_tell_27 : zAt 167 27 m_M_tell (.getfield 7) 3 := ⟨hm_M_tell, by decide +kernel⟩
theorem a_M_tell_30 : zAt 167 30 m_M_tell (.iload_n 1) 1 := ⟨hm_M_tell, by decide +kernel⟩
theorem a_M_tell_31 : zAt 167 31 m_M_tell (.iconst 0) 1 := ⟨hm_M_tell, by decide +kernel⟩
theorem a_M_tell_32 : zAt 167 32 m_M_tell (.invokestatic 91) 3 := ⟨hm_M_tell, by decide +kernel⟩
theorem a_M_tell_35 : zAt 167 35 m_M_tell (.iaload) 1 := ⟨hm_M_tell, by decide +kernel⟩
theorem a_M_tell_36 : zAt 167 36 m_M_tell (.iaload) 1 := ⟨hm_M_tell, by decide +kernel⟩
theorem a_M_tell_37 : zAt 167 37 m_M_tell (.invokevirtual 155) 3 := ⟨hm_M_tell, by decide +kernel⟩
theorem a_M_tell_40 : zAt 167 40 m_M_tell (.iconst 0) 1 := ⟨hm_M_tell, by decide +kernel⟩
theorem a_M_tell_41 : zAt 167 41 m_M_tell (.istore_n 2) 1 := ⟨hm_M_tell, by decide +kernel⟩
theorem a_M_tell_42 : zAt 167 42 m_M_tell (.iload_n 2) 1 := ⟨hm_M_tell, by decide +kernel⟩
theorem a_M_tell_43 : zAt 167 43 m_M_tell (.iconst 4) 1 := ⟨hm_M_tell, by decide +kernel⟩
theorem a_M_tell_44 : zAt 167 44 m_M_tell (.if_icmp .ge 53) 3 := ⟨hm_M_tell, by decide +kernel⟩
theorem a_M_tell_47 : zAt 167 47 m_M_tell (.aload_n 0) 1 := ⟨hm_M_tell, by decide +kernel⟩
theorem a_M_tell_48 : zAt 167 48 m_M_tell (.getfield 7) 3 := ⟨hm_M_tell, by decide +kernel⟩
theorem a_M_tell_51 : zAt 167 51 m_M_tell (.iload_n 1) 1 := ⟨hm_M_tell, by decide +kernel⟩
theorem a_M_tell_52 : zAt 167 52 m_M_tell (.iconst 3) 1 := ⟨hm_M_tell, by decide +kernel⟩
theorem a_M_tell_53 : zAt 167 53 m_M_tell (.iload_n 2) 1 := ⟨hm_M_tell, by decide +kernel⟩
theorem a_M_tell_54 : zAt 167 54 m_M_tell (.iadd) 1 := ⟨hm_M_tell, by decide +kernel⟩
theorem a_M_tell_55 : zAt 167 55 m_M_tell (.invokestatic 91) 3 := ⟨hm_M_tell, by decide +kernel⟩
theorem a_M_tell_58 : zAt 167 58 m_M_tell (.iaload) 1 := ⟨hm_M_tell, by decide +kernel⟩
theorem a_M_tell_59 : zAt 167 59 m_M_tell (.ifCond .ne 6) 3 := ⟨hm_M_tell, by decide +kernel⟩
theorem a_M_tell_62 : zAt 167 62 m_M_tell (.goto 29) 3 := ⟨hm_M_tell, by decide +kernel⟩
theorem a_M_tell_65 : zAt 167 65 m_M_tell (.aload_n 0) 1 := ⟨hm_M_tell, by decide +kernel⟩
theorem a_M_tell_66 : zAt 167 66 m_M_tell (.aload_n 0) 1 := ⟨hm_M_tell, by decide +kernel⟩
theorem a_M_tell_67 : zAt 167 67 m_M_tell (.getfield 31) 3 := ⟨hm_M_tell, by decide +kernel⟩
theorem a_M_tell_70 : zAt 167 70 m_M_tell (.iload_n 2) 1 := ⟨hm_M_tell, by decide +kernel⟩
theorem a_M_tell_71 : zAt 167 71 m_M_tell (.iaload) 1 := ⟨hm_M_tell, by decide +kernel⟩
theorem a_M_tell_72 : zAt 167 72 m_M_tell (.invokevirtual 155) 3 := ⟨hm_M_tell, by decide +kernel⟩
theorem a_M_tell_75 : zAt 167 75 m_M_tell (.aload_n 0) 1 := ⟨hm_M_tell, by decide +kernel⟩
theorem a_M_tell_76 : zAt 167 76 m_M_tell (.aload_n 0) 1 := ⟨hm_M_tell, by decide +kernel⟩
theorem a_M_tell_77 : zAt 167 77 m_M_tell (.getfield 7) 3 := ⟨hm_M_tell, by decide +kernel⟩
theorem a_M_tell_80 : zAt 167 80 m_M_tell (.iload_n 1) 1 := ⟨hm_M_tell, by decide +kernel⟩
theorem a_M_tell_81 : zAt 167 81 m_M_tell (.iconst 3) 1 := ⟨hm_M_tell, by decide +kernel⟩
theorem a_M_tell_82 : zAt 167 82 m_M_tell (.iload_n 2) 1 := ⟨hm_M_tell, by decide +kernel⟩
theorem a_M_tell_83 : zAt 167 83 m_M_tell (.iadd) 1 := ⟨hm_M_tell, by decide +kernel⟩
theorem a_M_tell_84 : zAt 167 84 m_M_tell (.invokestatic 91) 3 := ⟨hm_M_tell, by decide +kernel⟩
theorem a_M_tell_87 : zAt 167 87 m_M_tell (.iaload) 1 := ⟨hm_M_tell, by decide +kernel⟩
theorem a_M_tell_88 : zAt 167 88 m_M_tell (.invokevirtual 210) 3 := ⟨hm_M_tell, by decide +kernel⟩
theorem a_M_tell_91 : zAt 167 91 m_M_tell (.iinc 2 1) 3 := ⟨hm_M_tell, by decide +kernel⟩
theorem a_M_tell_94 : zAt 167 94 m_M_tell (.goto (-52)) 3 := ⟨hm_M_tell, by decide +kernel⟩
theorem a_M_tell_97 : zAt 167 97 m_M_tell (.aload_n 0) 1 := ⟨hm_M_tell, by decide +kernel⟩
theorem a_M_tell_98 : zAt 167 98 m_M_tell (.bipush 61) 2 := ⟨hm_M_tell, by decide +kernel⟩
theorem a_M_tell_100 : zAt 167 100 m_M_tell (.invokevirtual 155) 3 := ⟨hm_M_tell, by decide +kernel⟩
theorem a_M_tell_103 : zAt 167 103 m_M_tell (.aload_n 0) 1 := ⟨hm_M_tell, by decide +kernel⟩
theorem a_M_tell_104 : zAt 167 104 m_M_tell (.aload_n 0) 1 := ⟨hm_M_tell, by decide +kernel⟩
theorem a_M_tell_105 : zAt 167 105 m_M_tell (.aload_n 0) 1 := ⟨hm_M_tell, by decide +kernel⟩
theorem a_M_tell_106 : zAt 167 106 m_M_tell (.iload_n 1) 1 := ⟨hm_M_tell, by decide +kernel⟩
theorem a_M_tell_107 : zAt 167 107 m_M_tell (.iconst 0) 1 := ⟨hm_M_tell, by decide +kernel⟩
theorem a_M_tell_108 : zAt 167 108 m_M_tell (.invokevirtual 104) 3 := ⟨hm_M_tell, by decide +kernel⟩
theorem a_M_tell_111 : zAt 167 111 m_M_tell (.iconst 0) 1 := ⟨hm_M_tell, by decide +kernel⟩
theorem a_M_tell_112 : zAt 167 112 m_M_tell (.invokevirtual 68) 3 := ⟨hm_M_tell, by decide +kernel⟩
theorem a_M_tell_115 : zAt 167 115 m_M_tell (.invokevirtual 210) 3 := ⟨hm_M_tell, by decide +kernel⟩
theorem a_M_tell_118 : zAt 167 118 m_M_tell (.aload_n 0) 1 := ⟨hm_M_tell, by decide +kernel⟩
theorem a_M_tell_119 : zAt 167 119 m_M_tell (.getfield 152) 3 := ⟨hm_M_tell, by decide +kernel⟩
theorem a_M_tell_122 : zAt 167 122 m_M_tell (.ireturn) 1 := ⟨hm_M_tell, by decide +kernel⟩
theorem B_M_tell_0 {G : Nat → Nat → Int32} {x1 : Int32} : zden 167 0 [.ref 90, .int x1, .retAddr 0] [] (zSH, G) = if ¬ (bI (0 ≤ x1 ∧ x1 ≤ G 91 2 - 1)) = 0 then zaft 167 21 [.ref 90, .int x1, .retAddr 0] [] (zSH, (zup G 90 17 0)) (zden 168 0 [.ref 90, .int x1] [] (zSH, (zup G 90 17 0))) else some (some (.int (-11)), (zSH, G)) :=
  (zd_aload_n a_M_tell_0 rfl).trans ((zd_iload_n a_M_tell_1 rfl).trans ((zd_cal (kd := 0) (tg := 130) (T := m_M_isGood) a_M_tell_2 (by decide +kernel) hm_M_isGood rfl rfl rfl rfl).trans (((congrArg (zaft 167 5 [.ref 90, .int x1, .retAddr 0] [] (zSH, G)) (ms_isGood)).trans zaft_same).trans ((zd_if_ne a_M_tell_5 rfl).trans (zitc (fun p16 => (zd_aload_n a_M_tell_11 rfl).trans ((zd_iconst (v := 0) a_M_tell_12 (by decide)).trans ((zd_putI (h := (zSH, G)) (ci := 8) (fi := 17) a_M_tell_13 (by decide +kernel) sh_90 rfl rfl).trans ((zd_aload_n a_M_tell_16 rfl).trans ((zd_iload_n a_M_tell_17 rfl).trans ((zd_cal (kd := 0) (tg := 168) (T := m_M_writesNumber) a_M_tell_18 (by decide +kernel) hm_M_writesNumber rfl rfl rfl rfl))))))) (fun p16 => (zd_bipush (v := (-11)) a_M_tell_8 (by decide)).trans (zd_iret a_M_tell_10 rfl (znr_int _))))))))
theorem B_M_tell_21 {G : Nat → Nat → Int32} {x1 : Int32} (z35_0 : zin (63 + 22 * x1 + 0) 327 = true) (z36_1 : zin (G 91 (63 + 22 * x1 + 0).toNatClampNeg) 4 = true) : zden 167 21 [.ref 90, .int x1, .retAddr 0] [] (zSH, G) = zaft 167 40 [.ref 90, .int x1, .retAddr 0] [] (zSH, G) (zden 169 0 [.ref 90, .int (G 99 (G 91 (63 + 22 * x1 + 0).toNatClampNeg).toNatClampNeg)] [] (zSH, G)) :=
  (zd_aload_n a_M_tell_21 rfl).trans ((zd_aload_n a_M_tell_22 rfl).trans ((zd_getR (h := (zSH, G)) (ci := 8) (fi := 13) (a := 99) a_M_tell_23 (by decide +kernel) sh_90 rfl rfl).trans ((zd_aload_n a_M_tell_26 rfl).trans ((zd_getR (h := (zSH, G)) (ci := 8) (fi := 5) (a := 91) a_M_tell_27 (by decide +kernel) sh_90 rfl rfl).trans ((zd_iload_n a_M_tell_30 rfl).trans ((zd_iconst (v := 0) a_M_tell_31 (by decide)).trans ((zd_cal (kd := 1) (tg := 123) (T := m_M_of) a_M_tell_32 (by decide +kernel) hm_M_of rfl rfl rfl rfl).trans (((congrArg (zaft 167 35 [.ref 90, .int x1, .retAddr 0] [.ref 91, .ref 99, .ref 90] (zSH, G)) (ms_of)).trans zaft_same).trans ((zd_iald (h := (zSH, G)) a_M_tell_35 sh_91 rfl).trans ((if_pos z35_0).trans ((zd_iald (h := (zSH, G)) a_M_tell_36 sh_99 rfl).trans ((if_pos z36_1).trans ((zd_cal (kd := 0) (tg := 169) (T := m_M_writes) a_M_tell_37 (by decide +kernel) hm_M_writes rfl rfl rfl rfl))))))))))))))
theorem B_M_tell_40 {G : Nat → Nat → Int32} {x1 : Int32} : zden 167 40 [.ref 90, .int x1, .retAddr 0] [] (zSH, G) = zden 167 42 [.ref 90, .int x1, .int 0] [] (zSH, G) :=
  (zd_iconst (v := 0) a_M_tell_40 (by decide)).trans ((zd_istore_n a_M_tell_41 rfl rfl rfl))
theorem B_M_tell_42 {G : Nat → Nat → Int32} {x1 x2 : Int32} (z58_0 : (¬ (4 ≤ x2)) → zin (63 + 22 * x1 + (3 + x2)) 327 = true) (z71_1 : (¬ (4 ≤ x2)) → (¬ (G 91 (63 + 22 * x1 + (3 + x2)).toNatClampNeg) = 0) → zin x2 5 = true) : zden 167 42 [.ref 90, .int x1, .int x2] [] (zSH, G) = if 4 ≤ x2 then zaft 167 103 [.ref 90, .int x1, .int x2] [] (zSH, G) (zden 169 0 [.ref 90, .int 61] [] (zSH, G)) else if ¬ (G 91 (63 + 22 * x1 + (3 + x2)).toNatClampNeg) = 0 then zaft 167 75 [.ref 90, .int x1, .int x2] [] (zSH, G) (zden 169 0 [.ref 90, .int (G 98 x2.toNatClampNeg)] [] (zSH, G)) else zden 167 91 [.ref 90, .int x1, .int x2] [] (zSH, G) :=
  (zd_iload_n a_M_tell_42 rfl).trans ((zd_iconst (v := 4) a_M_tell_43 (by decide)).trans ((zd_icmp_ge a_M_tell_44 rfl).trans (zitc (fun p17 => (zd_aload_n a_M_tell_97 rfl).trans ((zd_bipush (v := 61) a_M_tell_98 (by decide)).trans ((zd_cal (kd := 0) (tg := 169) (T := m_M_writes) a_M_tell_100 (by decide +kernel) hm_M_writes rfl rfl rfl rfl)))) (fun p17 => (zd_aload_n a_M_tell_47 rfl).trans ((zd_getR (h := (zSH, G)) (ci := 8) (fi := 5) (a := 91) a_M_tell_48 (by decide +kernel) sh_90 rfl rfl).trans ((zd_iload_n a_M_tell_51 rfl).trans ((zd_iconst (v := 3) a_M_tell_52 (by decide)).trans ((zd_iload_n a_M_tell_53 rfl).trans ((zd_num (st2 := [.int (3 + x2), .int x1, .ref 91]) a_M_tell_54 rfl rfl rfl rfl).trans ((zd_cal (kd := 1) (tg := 123) (T := m_M_of) a_M_tell_55 (by decide +kernel) hm_M_of rfl rfl rfl rfl).trans (((congrArg (zaft 167 58 [.ref 90, .int x1, .int x2] [.ref 91] (zSH, G)) (ms_of)).trans zaft_same).trans ((zd_iald (h := (zSH, G)) a_M_tell_58 sh_91 rfl).trans ((if_pos (z58_0 p17)).trans ((zd_if_ne a_M_tell_59 rfl).trans (zitc (fun p18 => (zd_aload_n a_M_tell_65 rfl).trans ((zd_aload_n a_M_tell_66 rfl).trans ((zd_getR (h := (zSH, G)) (ci := 8) (fi := 12) (a := 98) a_M_tell_67 (by decide +kernel) sh_90 rfl rfl).trans ((zd_iload_n a_M_tell_70 rfl).trans ((zd_iald (h := (zSH, G)) a_M_tell_71 sh_98 rfl).trans ((if_pos (z71_1 p17 p18)).trans ((zd_cal (kd := 0) (tg := 169) (T := m_M_writes) a_M_tell_72 (by decide +kernel) hm_M_writes rfl rfl rfl rfl)))))))) (fun p18 => (zd_goto a_M_tell_62 rfl)))))))))))))))))
theorem B_M_tell_75 {G : Nat → Nat → Int32} {x1 x2 : Int32} (z87_0 : zin (63 + 22 * x1 + (3 + x2)) 327 = true) : zden 167 75 [.ref 90, .int x1, .int x2] [] (zSH, G) = zaft 167 91 [.ref 90, .int x1, .int x2] [] (zSH, G) (zden 168 0 [.ref 90, .int (G 91 (63 + 22 * x1 + (3 + x2)).toNatClampNeg)] [] (zSH, G)) :=
  (zd_aload_n a_M_tell_75 rfl).trans ((zd_aload_n a_M_tell_76 rfl).trans ((zd_getR (h := (zSH, G)) (ci := 8) (fi := 5) (a := 91) a_M_tell_77 (by decide +kernel) sh_90 rfl rfl).trans ((zd_iload_n a_M_tell_80 rfl).trans ((zd_iconst (v := 3) a_M_tell_81 (by decide)).trans ((zd_iload_n a_M_tell_82 rfl).trans ((zd_num (st2 := [.int (3 + x2), .int x1, .ref 91, .ref 90]) a_M_tell_83 rfl rfl rfl rfl).trans ((zd_cal (kd := 1) (tg := 123) (T := m_M_of) a_M_tell_84 (by decide +kernel) hm_M_of rfl rfl rfl rfl).trans (((congrArg (zaft 167 87 [.ref 90, .int x1, .int x2] [.ref 91, .ref 90] (zSH, G)) (ms_of)).trans zaft_same).trans ((zd_iald (h := (zSH, G)) a_M_tell_87 sh_91 rfl).trans ((if_pos z87_0).trans ((zd_cal (kd := 0) (tg := 168) (T := m_M_writesNumber) a_M_tell_88 (by decide +kernel) hm_M_writesNumber rfl rfl rfl rfl))))))))))))
theorem B_M_tell_91 {G : Nat → Nat → Int32} {x1 x2 : Int32} : zden 167 91 [.ref 90, .int x1, .int x2] [] (zSH, G) = zden 167 42 [.ref 90, .int x1, .int (x2 + 1)] [] (zSH, G) :=
  (zd_iinc (v := 1) a_M_tell_91 rfl (by decide) rfl rfl rfl).trans ((zd_goto a_M_tell_94 rfl))
theorem B_M_tell_103 {G : Nat → Nat → Int32} {x1 x2 : Int32} : zden 167 103 [.ref 90, .int x1, .int x2] [] (zSH, G) = zaft 167 111 [.ref 90, .int x1, .int x2] [.ref 90, .ref 90] (zSH, G) (zden 120 0 [.ref 90, .int x1, .int 0, .retAddr 0, .retAddr 0, .retAddr 0] [] (zSH, G)) :=
  (zd_aload_n a_M_tell_103 rfl).trans ((zd_aload_n a_M_tell_104 rfl).trans ((zd_aload_n a_M_tell_105 rfl).trans ((zd_iload_n a_M_tell_106 rfl).trans ((zd_iconst (v := 0) a_M_tell_107 (by decide)).trans ((zd_cal (kd := 0) (tg := 120) (T := m_M_fitting) a_M_tell_108 (by decide +kernel) hm_M_fitting rfl rfl rfl rfl))))))
theorem B_M_tell_111 {G : Nat → Nat → Int32} {x1 x2 s0 : Int32} (z112_0 : mhok G s0 0) : zden 167 111 [.ref 90, .int x1, .int x2] [.int s0, .ref 90, .ref 90] (zSH, G) = zaft 167 118 [.ref 90, .int x1, .int x2] [] (zSH, G) (zden 168 0 [.ref 90, .int (mhead G s0 0)] [] (zSH, G)) :=
  (zd_iconst (v := 0) a_M_tell_111 (by decide)).trans ((zd_cal (kd := 0) (tg := 113) (T := m_M_head) a_M_tell_112 (by decide +kernel) hm_M_head rfl rfl rfl rfl).trans (((congrArg (zaft 167 115 [.ref 90, .int x1, .int x2] [.ref 90] (zSH, G)) (ms_head z112_0)).trans zaft_same).trans ((zd_cal (kd := 0) (tg := 168) (T := m_M_writesNumber) a_M_tell_115 (by decide +kernel) hm_M_writesNumber rfl rfl rfl rfl))))
theorem B_M_tell_118 {G : Nat → Nat → Int32} {x1 x2 : Int32} : zden 167 118 [.ref 90, .int x1, .int x2] [] (zSH, G) = some (some (.int (G 90 17)), (zSH, G)) :=
  (zd_aload_n a_M_tell_118 rfl).trans ((zd_getI (h := (zSH, G)) (ci := 8) (fi := 17) a_M_tell_119 (by decide +kernel) sh_90 rfl).trans (zd_iret a_M_tell_122 rfl (znr_int _)))
theorem a_M_tellHeading_0 : zAt 170 0 m_M_tellHeading (.aload_n 0) 1 := ⟨hm_M_tellHeading, by decide +kernel⟩
theorem a_M_tellHeading_1 : zAt 170 1 m_M_tellHeading (.iload_n 1) 1 := ⟨hm_M_tellHeading, by decide +kernel⟩
theorem a_M_tellHeading_2 : zAt 170 2 m_M_tellHeading (.invokevirtual 72) 3 := ⟨hm_M_tellHeading, by decide +kernel⟩
theorem a_M_tellHeading_5 : zAt 170 5 m_M_tellHeading (.istore_n 2) 1 := ⟨hm_M_tellHeading, by decide +kernel⟩
theorem a_M_tellHeading_6 : zAt 170 6 m_M_tellHeading (.iload_n 2) 1 := ⟨hm_M_tellHeading, by decide +kernel⟩
theorem a_M_tellHeading_7 : zAt 170 7 m_M_tellHeading (.ifCond .ge 6) 3 := ⟨hm_M_tellHeading, by decide +kernel⟩
theorem a_M_tellHeading_10 : zAt 170 10 m_M_tellHeading (.bipush (-11)) 2 := ⟨hm_M_tellHeading, by decide +kernel⟩
theorem a_M_tellHeading_12 : zAt 170 12 m_M_tellHeading (.ireturn) 1 := ⟨hm_M_tellHeading, by decide +kernel⟩
theorem a_M_tellHeading_13 : zAt 170 13 m_M_tellHeading (.aload_n 0) 1 := ⟨hm_M_tellHeading, by decide +kernel⟩
theorem a_M_tellHeading_14 : zAt 170 14 m_M_tellHeading (.iconst 0) 1 := ⟨hm_M_tellHeading, by decide +kernel⟩
theorem a_M_tellHeading_15 : zAt 170 15 m_M_tellHeading (.putfield 152) 3 := ⟨hm_M_tellHeading, by decide +kernel⟩
theorem a_M_tellHeading_18 : zAt 170 18 m_M_tellHeading (.aload_n 0) 1 := ⟨hm_M_tellHeading, by decide +kernel⟩
theorem a_M_tellHeading_19 : zAt 170 19 m_M_tellHeading (.iload_n 1) 1 := ⟨hm_M_tellHeading, by decide +kernel⟩
theorem a_M_tellHeading_20 : zAt 170 20 m_M_tellHeading (.invokevirtual 210) 3 := ⟨hm_M_tellHeading, by decide +kernel⟩
theorem a_M_tellHeading_23 : zAt 170 23 m_M_tellHeading (.aload_n 0) 1 := ⟨hm_M_tellHeading, by decide +kernel⟩
theorem a_M_tellHeading_24 : zAt 170 24 m_M_tellHeading (.bipush 58) 2 := ⟨hm_M_tellHeading, by decide +kernel⟩
theorem a_M_tellHeading_26 : zAt 170 26 m_M_tellHeading (.invokevirtual 155) 3 := ⟨hm_M_tellHeading, by decide +kernel⟩
theorem a_M_tellHeading_29 : zAt 170 29 m_M_tellHeading (.aload_n 0) 1 := ⟨hm_M_tellHeading, by decide +kernel⟩
theorem a_M_tellHeading_30 : zAt 170 30 m_M_tellHeading (.aload_n 0) 1 := ⟨hm_M_tellHeading, by decide +kernel⟩
theorem a_M_tellHeading_31 : zAt 170 31 m_M_tellHeading (.getfield 31) 3 := ⟨hm_M_tellHeading, by decide +kernel⟩
theorem a_M_tellHeading_34 : zAt 170 34 m_M_tellHeading (.aload_n 0) 1 := ⟨hm_M_tellHeading, by decide +kernel⟩
theorem a_M_tellHeading_35 : zAt 170 35 m_M_tellHeading (.iload_n 2) 1 := ⟨hm_M_tellHeading, by decide +kernel⟩
theorem a_M_tellHeading_36 : zAt 170 36 m_M_tellHeading (.iconst 1) 1 := ⟨hm_M_tellHeading, by decide +kernel⟩
theorem a_M_tellHeading_37 : zAt 170 37 m_M_tellHeading (.invokevirtual 68) 3 := ⟨hm_M_tellHeading, by decide +kernel⟩
theorem a_M_tellHeading_40 : zAt 170 40 m_M_tellHeading (.iaload) 1 := ⟨hm_M_tellHeading, by decide +kernel⟩
theorem a_M_tellHeading_41 : zAt 170 41 m_M_tellHeading (.invokevirtual 155) 3 := ⟨hm_M_tellHeading, by decide +kernel⟩
theorem a_M_tellHeading_44 : zAt 170 44 m_M_tellHeading (.aload_n 0) 1 := ⟨hm_M_tellHeading, by decide +kernel⟩
theorem a_M_tellHeading_45 : zAt 170 45 m_M_tellHeading (.aload_n 0) 1 := ⟨hm_M_tellHeading, by decide +kernel⟩
theorem a_M_tellHeading_46 : zAt 170 46 m_M_tellHeading (.getfield 34) 3 := ⟨hm_M_tellHeading, by decide +kernel⟩
theorem a_M_tellHeading_49 : zAt 170 49 m_M_tellHeading (.aload_n 0) 1 := ⟨hm_M_tellHeading, by decide +kernel⟩
theorem a_M_tellHeading_50 : zAt 170 50 m_M_tellHeading (.iload_n 2) 1 := ⟨hm_M_tellHeading, by decide +kernel⟩
theorem a_M_tellHeading_51 : zAt 170 51 m_M_tellHeading (.iconst 2) 1 := ⟨hm_M_tellHeading, by decide +kernel⟩
theorem a_M_tellHeading_52 : zAt 170 52 m_M_tellHeading (.invokevirtual 68) 3 := ⟨hm_M_tellHeading, by decide +kernel⟩
theorem a_M_tellHeading_55 : zAt 170 55 m_M_tellHeading (.iaload) 1 := ⟨hm_M_tellHeading, by decide +kernel⟩
theorem a_M_tellHeading_56 : zAt 170 56 m_M_tellHeading (.invokevirtual 155) 3 := ⟨hm_M_tellHeading, by decide +kernel⟩
theorem a_M_tellHeading_59 : zAt 170 59 m_M_tellHeading (.aload_n 0) 1 := ⟨hm_M_tellHeading, by decide +kernel⟩
theorem a_M_tellHeading_60 : zAt 170 60 m_M_tellHeading (.aload_n 0) 1 := ⟨hm_M_tellHeading, by decide +kernel⟩
theorem a_M_tellHeading_61 : zAt 170 61 m_M_tellHeading (.iload_n 2) 1 := ⟨hm_M_tellHeading, by decide +kernel⟩
theorem a_M_tellHeading_62 : zAt 170 62 m_M_tellHeading (.iconst 3) 1 := ⟨hm_M_tellHeading, by decide +kernel⟩
theorem a_M_tellHeading_63 : zAt 170 63 m_M_tellHeading (.invokevirtual 68) 3 := ⟨hm_M_tellHeading, by decide +kernel⟩
theorem a_M_tellHeading_66 : zAt 170 66 m_M_tellHeading (.invokevirtual 210) 3 := ⟨hm_M_tellHeading, by decide +kernel⟩
theorem a_M_tellHeading_69 : zAt 170 69 m_M_tellHeading (.aload_n 0) 1 := ⟨hm_M_tellHeading, by decide +kernel⟩
theorem a_M_tellHeading_70 : zAt 170 70 m_M_tellHeading (.bipush 37) 2 := ⟨hm_M_tellHeading, by decide +kernel⟩
theorem a_M_tellHeading_72 : zAt 170 72 m_M_tellHeading (.invokevirtual 155) 3 := ⟨hm_M_tellHeading, by decide +kernel⟩
theorem a_M_tellHeading_75 : zAt 170 75 m_M_tellHeading (.aload_n 0) 1 := ⟨hm_M_tellHeading, by decide +kernel⟩
theorem a_M_tellHeading_76 : zAt 170 76 m_M_tellHeading (.iload_n 2) 1 := ⟨hm_M_tellHeading, by decide +kernel⟩
theorem a_M_tellHeading_77 : zAt 170 77 m_M_tellHeading (.iconst 4) 1 := ⟨hm_M_tellHeading, by decide +kernel⟩
theorem a_M_tellHeading_78 : zAt 170 78 m_M_tellHeading (.invokevirtual 68) 3 := ⟨hm_M_tellHeading, by decide +kernel⟩
theorem a_M_tellHeading_81 : zAt 170 81 m_M_tellHeading (.ifCond .ne 8) 3 := ⟨hm_M_tellHeading, by decide +kernel⟩
theorem a_M_tellHeading_84 : zAt 170 84 m_M_tellHeading (.aload_n 0) 1 := ⟨hm_M_tellHeading, by decide +kernel⟩
theorem a_M_tellHeading_85 : zAt 170 85 m_M_tellHeading (.getfield 152) 3 := ⟨hm_M_tellHeading, by decide +kernel⟩
theorem a_M_tellHeading_88 : zAt 170 88 m_M_tellHeading (.ireturn) 1 := ⟨hm_M_tellHeading, by decide +kernel⟩
theorem a_M_tellHeading_89 : zAt 170 89 m_M_tellHeading (.aload_n 0) 1 := ⟨hm_M_tellHeading, by decide +kernel⟩
theorem a_M_tellHeading_90 : zAt 170 90 m_M_tellHeading (.bipush 43) 2 := ⟨hm_M_tellHeading, by decide +kernel⟩
theorem a_M_tellHeading_92 : zAt 170 92 m_M_tellHeading (.invokevirtual 155) 3 := ⟨hm_M_tellHeading, by decide +kernel⟩
theorem a_M_tellHeading_95 : zAt 170 95 m_M_tellHeading (.aload_n 0) 1 := ⟨hm_M_tellHeading, by decide +kernel⟩
theorem a_M_tellHeading_96 : zAt 170 96 m_M_tellHeading (.aload_n 0) 1 := ⟨hm_M_tellHeading, by decide +kernel⟩
theorem a_M_tellHeading_97 : zAt 170 97 m_M_tellHeading (.iload_n 2) 1 := ⟨hm_M_tellHeading, by decide +kernel⟩
theorem a_M_tellHeading_98 : zAt 170 98 m_M_tellHeading (.iconst 4) 1 := ⟨hm_M_tellHeading, by decide +kernel⟩
theorem a_M_tellHeading_99 : zAt 170 99 m_M_tellHeading (.invokevirtual 68) 3 := ⟨hm_M_tellHeading, by decide +kernel⟩
theorem a_M_tellHeading_102 : zAt 170 102 m_M_tellHeading (.invokevirtual 210) 3 := ⟨hm_M_tellHeading, by decide +kernel⟩
theorem a_M_tellHeading_105 : zAt 170 105 m_M_tellHeading (.aload_n 0) 1 := ⟨hm_M_tellHeading, by decide +kernel⟩
theorem a_M_tellHeading_106 : zAt 170 106 m_M_tellHeading (.getfield 152) 3 := ⟨hm_M_tellHeading, by decide +kernel⟩
theorem a_M_tellHeading_109 : zAt 170 109 m_M_tellHeading (.ireturn) 1 := ⟨hm_M_tellHeading, by decide +kernel⟩
theorem B_M_tellHeading_0 {G : Nat → Nat → Int32} {x1 : Int32} : zden 170 0 [.ref 90, .int x1, .retAddr 0] [] (zSH, G) = zaft 170 5 [.ref 90, .int x1, .retAddr 0] [] (zSH, G) (zden 112 0 [.ref 90, .int x1, .retAddr 0] [] (zSH, G)) :=
  (zd_aload_n a_M_tellHeading_0 rfl).trans ((zd_iload_n a_M_tellHeading_1 rfl).trans ((zd_cal (kd := 0) (tg := 112) (T := m_M_placeOf) a_M_tellHeading_2 (by decide +kernel) hm_M_placeOf rfl rfl rfl rfl)))
theorem B_M_tellHeading_5 {G : Nat → Nat → Int32} {x1 s0 : Int32} : zden 170 5 [.ref 90, .int x1, .retAddr 0] [.int s0] (zSH, G) = if 0 ≤ s0 then zaft 170 23 [.ref 90, .int x1, .int s0] [] (zSH, (zup G 90 17 0)) (zden 168 0 [.ref 90, .int x1] [] (zSH, (zup G 90 17 0))) else some (some (.int (-11)), (zSH, G)) :=
  (zd_istore_n a_M_tellHeading_5 rfl rfl rfl).trans ((zd_iload_n a_M_tellHeading_6 rfl).trans ((zd_if_ge a_M_tellHeading_7 rfl).trans (zitc (fun p13 => (zd_aload_n a_M_tellHeading_13 rfl).trans ((zd_iconst (v := 0) a_M_tellHeading_14 (by decide)).trans ((zd_putI (h := (zSH, G)) (ci := 8) (fi := 17) a_M_tellHeading_15 (by decide +kernel) sh_90 rfl rfl).trans ((zd_aload_n a_M_tellHeading_18 rfl).trans ((zd_iload_n a_M_tellHeading_19 rfl).trans ((zd_cal (kd := 0) (tg := 168) (T := m_M_writesNumber) a_M_tellHeading_20 (by decide +kernel) hm_M_writesNumber rfl rfl rfl rfl))))))) (fun p13 => (zd_bipush (v := (-11)) a_M_tellHeading_10 (by decide)).trans (zd_iret a_M_tellHeading_12 rfl (znr_int _))))))
theorem B_M_tellHeading_23 {G : Nat → Nat → Int32} {x1 x2 : Int32} : zden 170 23 [.ref 90, .int x1, .int x2] [] (zSH, G) = zaft 170 29 [.ref 90, .int x1, .int x2] [] (zSH, G) (zden 169 0 [.ref 90, .int 58] [] (zSH, G)) :=
  (zd_aload_n a_M_tellHeading_23 rfl).trans ((zd_bipush (v := 58) a_M_tellHeading_24 (by decide)).trans ((zd_cal (kd := 0) (tg := 169) (T := m_M_writes) a_M_tellHeading_26 (by decide +kernel) hm_M_writes rfl rfl rfl rfl)))
theorem B_M_tellHeading_29 {G : Nat → Nat → Int32} {x1 x2 : Int32} (z37_0 : mhok G x2 1) (z40_1 : zin (mhead G x2 1) 5 = true) : zden 170 29 [.ref 90, .int x1, .int x2] [] (zSH, G) = zaft 170 44 [.ref 90, .int x1, .int x2] [] (zSH, G) (zden 169 0 [.ref 90, .int (G 98 (mhead G x2 1).toNatClampNeg)] [] (zSH, G)) :=
  (zd_aload_n a_M_tellHeading_29 rfl).trans ((zd_aload_n a_M_tellHeading_30 rfl).trans ((zd_getR (h := (zSH, G)) (ci := 8) (fi := 12) (a := 98) a_M_tellHeading_31 (by decide +kernel) sh_90 rfl rfl).trans ((zd_aload_n a_M_tellHeading_34 rfl).trans ((zd_iload_n a_M_tellHeading_35 rfl).trans ((zd_iconst (v := 1) a_M_tellHeading_36 (by decide)).trans ((zd_cal (kd := 0) (tg := 113) (T := m_M_head) a_M_tellHeading_37 (by decide +kernel) hm_M_head rfl rfl rfl rfl).trans (((congrArg (zaft 170 40 [.ref 90, .int x1, .int x2] [.ref 98, .ref 90] (zSH, G)) (ms_head z37_0)).trans zaft_same).trans ((zd_iald (h := (zSH, G)) a_M_tellHeading_40 sh_98 rfl).trans ((if_pos z40_1).trans ((zd_cal (kd := 0) (tg := 169) (T := m_M_writes) a_M_tellHeading_41 (by decide +kernel) hm_M_writes rfl rfl rfl rfl)))))))))))
theorem B_M_tellHeading_44 {G : Nat → Nat → Int32} {x1 x2 : Int32} (z52_0 : mhok G x2 2) (z55_1 : zin (mhead G x2 2) 4 = true) : zden 170 44 [.ref 90, .int x1, .int x2] [] (zSH, G) = zaft 170 59 [.ref 90, .int x1, .int x2] [] (zSH, G) (zden 169 0 [.ref 90, .int (G 99 (mhead G x2 2).toNatClampNeg)] [] (zSH, G)) :=
  (zd_aload_n a_M_tellHeading_44 rfl).trans ((zd_aload_n a_M_tellHeading_45 rfl).trans ((zd_getR (h := (zSH, G)) (ci := 8) (fi := 13) (a := 99) a_M_tellHeading_46 (by decide +kernel) sh_90 rfl rfl).trans ((zd_aload_n a_M_tellHeading_49 rfl).trans ((zd_iload_n a_M_tellHeading_50 rfl).trans ((zd_iconst (v := 2) a_M_tellHeading_51 (by decide)).trans ((zd_cal (kd := 0) (tg := 113) (T := m_M_head) a_M_tellHeading_52 (by decide +kernel) hm_M_head rfl rfl rfl rfl).trans (((congrArg (zaft 170 55 [.ref 90, .int x1, .int x2] [.ref 99, .ref 90] (zSH, G)) (ms_head z52_0)).trans zaft_same).trans ((zd_iald (h := (zSH, G)) a_M_tellHeading_55 sh_99 rfl).trans ((if_pos z55_1).trans ((zd_cal (kd := 0) (tg := 169) (T := m_M_writes) a_M_tellHeading_56 (by decide +kernel) hm_M_writes rfl rfl rfl rfl)))))))))))
theorem B_M_tellHeading_59 {G : Nat → Nat → Int32} {x1 x2 : Int32} (z63_0 : mhok G x2 3) : zden 170 59 [.ref 90, .int x1, .int x2] [] (zSH, G) = zaft 170 69 [.ref 90, .int x1, .int x2] [] (zSH, G) (zden 168 0 [.ref 90, .int (mhead G x2 3)] [] (zSH, G)) :=
  (zd_aload_n a_M_tellHeading_59 rfl).trans ((zd_aload_n a_M_tellHeading_60 rfl).trans ((zd_iload_n a_M_tellHeading_61 rfl).trans ((zd_iconst (v := 3) a_M_tellHeading_62 (by decide)).trans ((zd_cal (kd := 0) (tg := 113) (T := m_M_head) a_M_tellHeading_63 (by decide +kernel) hm_M_head rfl rfl rfl rfl).trans (((congrArg (zaft 170 66 [.ref 90, .int x1, .int x2] [.ref 90] (zSH, G)) (ms_head z63_0)).trans zaft_same).trans ((zd_cal (kd := 0) (tg := 168) (T := m_M_writesNumber) a_M_tellHeading_66 (by decide +kernel) hm_M_writesNumber rfl rfl rfl rfl)))))))
theorem B_M_tellHeading_69 {G : Nat → Nat → Int32} {x1 x2 : Int32} : zden 170 69 [.ref 90, .int x1, .int x2] [] (zSH, G) = zaft 170 75 [.ref 90, .int x1, .int x2] [] (zSH, G) (zden 169 0 [.ref 90, .int 37] [] (zSH, G)) :=
  (zd_aload_n a_M_tellHeading_69 rfl).trans ((zd_bipush (v := 37) a_M_tellHeading_70 (by decide)).trans ((zd_cal (kd := 0) (tg := 169) (T := m_M_writes) a_M_tellHeading_72 (by decide +kernel) hm_M_writes rfl rfl rfl rfl)))
theorem B_M_tellHeading_75 {G : Nat → Nat → Int32} {x1 x2 : Int32} (z78_0 : mhok G x2 4) : zden 170 75 [.ref 90, .int x1, .int x2] [] (zSH, G) = if ¬ (mhead G x2 4) = 0 then zaft 170 95 [.ref 90, .int x1, .int x2] [] (zSH, G) (zden 169 0 [.ref 90, .int 43] [] (zSH, G)) else some (some (.int (G 90 17)), (zSH, G)) :=
  (zd_aload_n a_M_tellHeading_75 rfl).trans ((zd_iload_n a_M_tellHeading_76 rfl).trans ((zd_iconst (v := 4) a_M_tellHeading_77 (by decide)).trans ((zd_cal (kd := 0) (tg := 113) (T := m_M_head) a_M_tellHeading_78 (by decide +kernel) hm_M_head rfl rfl rfl rfl).trans (((congrArg (zaft 170 81 [.ref 90, .int x1, .int x2] [] (zSH, G)) (ms_head z78_0)).trans zaft_same).trans ((zd_if_ne a_M_tellHeading_81 rfl).trans (zitc (fun p14 => (zd_aload_n a_M_tellHeading_89 rfl).trans ((zd_bipush (v := 43) a_M_tellHeading_90 (by decide)).trans ((zd_cal (kd := 0) (tg := 169) (T := m_M_writes) a_M_tellHeading_92 (by decide +kernel) hm_M_writes rfl rfl rfl rfl)))) (fun p14 => (zd_aload_n a_M_tellHeading_84 rfl).trans ((zd_getI (h := (zSH, G)) (ci := 8) (fi := 17) a_M_tellHeading_85 (by decide +kernel) sh_90 rfl).trans (zd_iret a_M_tellHeading_88 rfl (znr_int _))))))))))
theorem B_M_tellHeading_95 {G : Nat → Nat → Int32} {x1 x2 : Int32} (z99_0 : mhok G x2 4) : zden 170 95 [.ref 90, .int x1, .int x2] [] (zSH, G) = zaft 170 105 [.ref 90, .int x1, .int x2] [] (zSH, G) (zden 168 0 [.ref 90, .int (mhead G x2 4)] [] (zSH, G)) :=
  (zd_aload_n a_M_tellHeading_95 rfl).trans ((zd_aload_n a_M_tellHeading_96 rfl).trans ((zd_iload_n a_M_tellHeading_97 rfl).trans ((zd_iconst (v := 4) a_M_tellHeading_98 (by decide)).trans ((zd_cal (kd := 0) (tg := 113) (T := m_M_head) a_M_tellHeading_99 (by decide +kernel) hm_M_head rfl rfl rfl rfl).trans (((congrArg (zaft 170 102 [.ref 90, .int x1, .int x2] [.ref 90] (zSH, G)) (ms_head z99_0)).trans zaft_same).trans ((zd_cal (kd := 0) (tg := 168) (T := m_M_writesNumber) a_M_tellHeading_102 (by decide +kernel) hm_M_writesNumber rfl rfl rfl rfl)))))))
theorem B_M_tellHeading_105 {G : Nat → Nat → Int32} {x1 x2 : Int32} : zden 170 105 [.ref 90, .int x1, .int x2] [] (zSH, G) = some (some (.int (G 90 17)), (zSH, G)) :=
  (zd_aload_n a_M_tellHeading_105 rfl).trans ((zd_getI (h := (zSH, G)) (ci := 8) (fi := 17) a_M_tellHeading_106 (by decide +kernel) sh_90 rfl).trans (zd_iret a_M_tellHeading_109 rfl (znr_int _)))
theorem a_M_character_0 : zAt 171 0 m_M_character (.iload_n 1) 1 := ⟨hm_M_character, by decide +kernel⟩
theorem a_M_character_1 : zAt 171 1 m_M_character (.iconst 0) 1 := ⟨hm_M_character, by decide +kernel⟩
theorem a_M_character_2 : zAt 171 2 m_M_character (.aload_n 0) 1 := ⟨hm_M_character, by decide +kernel⟩
theorem a_M_character_3 : zAt 171 3 m_M_character (.getfield 152) 3 := ⟨hm_M_character, by decide +kernel⟩
theorem a_M_character_6 : zAt 171 6 m_M_character (.iconst 1) 1 := ⟨hm_M_character, by decide +kernel⟩
theorem a_M_character_7 : zAt 171 7 m_M_character (.isub) 1 := ⟨hm_M_character, by decide +kernel⟩
theorem a_M_character_8 : zAt 171 8 m_M_character (.invokestatic 64) 3 := ⟨hm_M_character, by decide +kernel⟩
theorem a_M_character_11 : zAt 171 11 m_M_character (.ifCond .eq 12) 3 := ⟨hm_M_character, by decide +kernel⟩
theorem a_M_character_14 : zAt 171 14 m_M_character (.aload_n 0) 1 := ⟨hm_M_character, by decide +kernel⟩
theorem a_M_character_15 : zAt 171 15 m_M_character (.getfield 25) 3 := ⟨hm_M_character, by decide +kernel⟩
theorem a_M_character_18 : zAt 171 18 m_M_character (.iload_n 1) 1 := ⟨hm_M_character, by decide +kernel⟩
theorem a_M_character_19 : zAt 171 19 m_M_character (.iaload) 1 := ⟨hm_M_character, by decide +kernel⟩
theorem a_M_character_20 : zAt 171 20 m_M_character (.goto 5) 3 := ⟨hm_M_character, by decide +kernel⟩
theorem a_M_character_23 : zAt 171 23 m_M_character (.bipush (-11)) 2 := ⟨hm_M_character, by decide +kernel⟩
theorem a_M_character_25 : zAt 171 25 m_M_character (.ireturn) 1 := ⟨hm_M_character, by decide +kernel⟩
theorem B_M_character_0 {G : Nat → Nat → Int32} {x1 : Int32} (z19_0 : (¬ ((bI (0 ≤ x1 ∧ x1 ≤ ((G 90 17) - 1))) = 0)) → zin x1 40 = true) : zden 171 0 [.ref 90, .int x1] [] (zSH, G) = if (bI (0 ≤ x1 ∧ x1 ≤ ((G 90 17) - 1))) = 0 then some (some (.int (-11)), (zSH, G)) else some (some (.int (G 96 x1.toNatClampNeg)), (zSH, G)) :=
  (zd_iload_n a_M_character_0 rfl).trans ((zd_iconst (v := 0) a_M_character_1 (by decide)).trans ((zd_aload_n a_M_character_2 rfl).trans ((zd_getI (h := (zSH, G)) (ci := 8) (fi := 17) a_M_character_3 (by decide +kernel) sh_90 rfl).trans ((zd_iconst (v := 1) a_M_character_6 (by decide)).trans ((zd_num (st2 := [.int ((G 90 17) - 1), .int 0, .int x1]) a_M_character_7 rfl rfl rfl rfl).trans ((zd_cal (kd := 1) (tg := 110) (T := m_M_isIn) a_M_character_8 (by decide +kernel) hm_M_isIn rfl rfl rfl rfl).trans (((congrArg (zaft 171 11 [.ref 90, .int x1] [] (zSH, G)) (ms_isIn)).trans zaft_same).trans ((zd_if_eq a_M_character_11 rfl).trans (zitc (fun p2 => (zd_bipush (v := (-11)) a_M_character_23 (by decide)).trans (zd_iret a_M_character_25 rfl (znr_int _))) (fun p2 => (zd_aload_n a_M_character_14 rfl).trans ((zd_getR (h := (zSH, G)) (ci := 8) (fi := 10) (a := 96) a_M_character_15 (by decide +kernel) sh_90 rfl rfl).trans ((zd_iload_n a_M_character_18 rfl).trans ((zd_iald (h := (zSH, G)) a_M_character_19 sh_96 rfl).trans ((if_pos (z19_0 p2)).trans ((zd_goto a_M_character_20 rfl).trans (zd_iret a_M_character_25 rfl (znr_int _)))))))))))))))))
theorem a_M_letter_0 : zAt 161 0 m_M_letter (.aload_n 0) 1 := ⟨hm_M_letter, by decide +kernel⟩
theorem a_M_letter_1 : zAt 161 1 m_M_letter (.getfield 168) 3 := ⟨hm_M_letter, by decide +kernel⟩
theorem a_M_letter_4 : zAt 161 4 m_M_letter (.ifCond .eq 5) 3 := ⟨hm_M_letter, by decide +kernel⟩
theorem a_M_letter_7 : zAt 161 7 m_M_letter (.iconst 0) 1 := ⟨hm_M_letter, by decide +kernel⟩
theorem a_M_letter_8 : zAt 161 8 m_M_letter (.ireturn) 1 := ⟨hm_M_letter, by decide +kernel⟩
theorem a_M_letter_9 : zAt 161 9 m_M_letter (.iconst (-1)) 1 := ⟨hm_M_letter, by decide +kernel⟩
theorem a_M_letter_10 : zAt 161 10 m_M_letter (.istore_n 3) 1 := ⟨hm_M_letter, by decide +kernel⟩
theorem a_M_letter_11 : zAt 161 11 m_M_letter (.iconst 0) 1 := ⟨hm_M_letter, by decide +kernel⟩
theorem a_M_letter_12 : zAt 161 12 m_M_letter (.istore 4) 2 := ⟨hm_M_letter, by decide +kernel⟩
theorem a_M_letter_14 : zAt 161 14 m_M_letter (.iload 4) 2 := ⟨hm_M_letter, by decide +kernel⟩
theorem a_M_letter_16 : zAt 161 16 m_M_letter (.iload_n 2) 1 := ⟨hm_M_letter, by decide +kernel⟩
theorem a_M_letter_17 : zAt 161 17 m_M_letter (.if_icmp .ge 27) 3 := ⟨hm_M_letter, by decide +kernel⟩
theorem a_M_letter_20 : zAt 161 20 m_M_letter (.aload_n 1) 1 := ⟨hm_M_letter, by decide +kernel⟩
theorem a_M_letter_21 : zAt 161 21 m_M_letter (.iload 4) 2 := ⟨hm_M_letter, by decide +kernel⟩
theorem a_M_letter_23 : zAt 161 23 m_M_letter (.iaload) 1 := ⟨hm_M_letter, by decide +kernel⟩
theorem a_M_letter_24 : zAt 161 24 m_M_letter (.aload_n 0) 1 := ⟨hm_M_letter, by decide +kernel⟩
theorem a_M_letter_25 : zAt 161 25 m_M_letter (.invokevirtual 172) 3 := ⟨hm_M_letter, by decide +kernel⟩
theorem a_M_letter_28 : zAt 161 28 m_M_letter (.if_icmp .ne 8) 3 := ⟨hm_M_letter, by decide +kernel⟩
theorem a_M_letter_31 : zAt 161 31 m_M_letter (.iload 4) 2 := ⟨hm_M_letter, by decide +kernel⟩
theorem a_M_letter_33 : zAt 161 33 m_M_letter (.goto 4) 3 := ⟨hm_M_letter, by decide +kernel⟩
theorem a_M_letter_36 : zAt 161 36 m_M_letter (.iload_n 3) 1 := ⟨hm_M_letter, by decide +kernel⟩
theorem a_M_letter_37 : zAt 161 37 m_M_letter (.istore_n 3) 1 := ⟨hm_M_letter, by decide +kernel⟩
theorem a_M_letter_38 : zAt 161 38 m_M_letter (.iinc 4 1) 3 := ⟨hm_M_letter, by decide +kernel⟩
theorem a_M_letter_41 : zAt 161 41 m_M_letter (.goto (-27)) 3 := ⟨hm_M_letter, by decide +kernel⟩
theorem a_M_letter_44 : zAt 161 44 m_M_letter (.aload_n 0) 1 := ⟨hm_M_letter, by decide +kernel⟩
theorem a_M_letter_45 : zAt 161 45 m_M_letter (.iload_n 3) 1 := ⟨hm_M_letter, by decide +kernel⟩
theorem a_M_letter_46 : zAt 161 46 m_M_letter (.ifCond .ge 7) 3 := ⟨hm_M_letter, by decide +kernel⟩
theorem a_M_letter_49 : zAt 161 49 m_M_letter (.iconst 1) 1 := ⟨hm_M_letter, by decide +kernel⟩
theorem a_M_letter_50 : zAt 161 50 m_M_letter (.goto 4) 3 := ⟨hm_M_letter, by decide +kernel⟩
theorem a_M_letter_53 : zAt 161 53 m_M_letter (.iconst 0) 1 := ⟨hm_M_letter, by decide +kernel⟩
theorem a_M_letter_54 : zAt 161 54 m_M_letter (.putfield 168) 3 := ⟨hm_M_letter, by decide +kernel⟩
theorem a_M_letter_57 : zAt 161 57 m_M_letter (.aload_n 0) 1 := ⟨hm_M_letter, by decide +kernel⟩
theorem a_M_letter_58 : zAt 161 58 m_M_letter (.dup) 1 := ⟨hm_M_letter, by decide +kernel⟩
theorem a_M_letter_59 : zAt 161 59 m_M_letter (.getfield 162) 3 := ⟨hm_M_letter, by decide +kernel⟩
theorem a_M_letter_62 : zAt 161 62 m_M_letter (.aload_n 0) 1 := ⟨hm_M_letter, by decide +kernel⟩
theorem a_M_letter_63 : zAt 161 63 m_M_letter (.getfield 168) 3 := ⟨hm_M_letter, by decide +kernel⟩
theorem a_M_letter_66 : zAt 161 66 m_M_letter (.ifCond .eq 7) 3 := ⟨hm_M_letter, by decide +kernel⟩
theorem a_M_letter_69 : zAt 161 69 m_M_letter (.iconst 0) 1 := ⟨hm_M_letter, by decide +kernel⟩
theorem a_M_letter_70 : zAt 161 70 m_M_letter (.goto 4) 3 := ⟨hm_M_letter, by decide +kernel⟩
theorem a_M_letter_73 : zAt 161 73 m_M_letter (.iconst 1) 1 := ⟨hm_M_letter, by decide +kernel⟩
theorem a_M_letter_74 : zAt 161 74 m_M_letter (.iadd) 1 := ⟨hm_M_letter, by decide +kernel⟩
theorem a_M_letter_75 : zAt 161 75 m_M_letter (.putfield 162) 3 := ⟨hm_M_letter, by decide +kernel⟩
theorem a_M_letter_78 : zAt 161 78 m_M_letter (.iload_n 3) 1 := ⟨hm_M_letter, by decide +kernel⟩
theorem a_M_letter_79 : zAt 161 79 m_M_letter (.ireturn) 1 := ⟨hm_M_letter, by decide +kernel⟩
theorem B_M_letter_0 {G : Nat → Nat → Int32} {am mm : Nat} {x2 : Int32} (hs : zSH[am]? = some (.inr (.int, mm, []))) (hsl : Nat.blt am 1000000 = true) : zden 161 0 [.ref 90, .ref am, .int x2, .retAddr 0, .retAddr 0] [] (zSH, G) = if (G 90 20) = 0 then zden 161 14 [.ref 90, .ref am, .int x2, .int (-1), .int 0] [] (zSH, G) else some (some (.int 0), (zSH, G)) :=
  (zd_aload_n a_M_letter_0 rfl).trans ((zd_getI (h := (zSH, G)) (ci := 8) (fi := 20) a_M_letter_1 (by decide +kernel) sh_90 rfl).trans ((zd_if_eq a_M_letter_4 rfl).trans (zitc (fun p15 => (zd_iconst (v := (-1)) a_M_letter_9 (by decide)).trans ((zd_istore_n a_M_letter_10 rfl rfl rfl).trans ((zd_iconst (v := 0) a_M_letter_11 (by decide)).trans ((zd_istore a_M_letter_12 rfl rfl rfl))))) (fun p15 => (zd_iconst (v := 0) a_M_letter_7 (by decide)).trans (zd_iret a_M_letter_8 rfl (znr_int _))))))
theorem B_M_letter_14 {G : Nat → Nat → Int32} {am mm : Nat} {x2 x3 x4 : Int32} (hs : zSH[am]? = some (.inr (.int, mm, []))) (hsl : Nat.blt am 1000000 = true) (z23_0 : (¬ (x2 ≤ x4)) → zin x4 mm = true) : zden 161 14 [.ref 90, .ref am, .int x2, .int x3, .int x4] [] (zSH, G) = if x2 ≤ x4 then if 0 ≤ x3 then zden 161 54 [.ref 90, .ref am, .int x2, .int x3, .int x4] [.int 0, .ref 90] (zSH, G) else zden 161 54 [.ref 90, .ref am, .int x2, .int x3, .int x4] [.int 1, .ref 90] (zSH, G) else zaft 161 28 [.ref 90, .ref am, .int x2, .int x3, .int x4] [.int (G am x4.toNatClampNeg)] (zSH, G) (zden 159 0 [.ref 90] [] (zSH, G)) :=
  (zd_iload a_M_letter_14 rfl).trans ((zd_iload_n a_M_letter_16 rfl).trans ((zd_icmp_ge a_M_letter_17 rfl).trans (zitc (fun p16 => (zd_aload_n a_M_letter_44 rfl).trans ((zd_iload_n a_M_letter_45 rfl).trans ((zd_if_ge a_M_letter_46 rfl).trans (zitc (fun p17 => (zd_iconst (v := 0) a_M_letter_53 (by decide))) (fun p17 => (zd_iconst (v := 1) a_M_letter_49 (by decide)).trans ((zd_goto a_M_letter_50 rfl))))))) (fun p16 => (zd_aload_n a_M_letter_20 rfl).trans ((zd_iload a_M_letter_21 rfl).trans ((zd_iald (h := (zSH, G)) a_M_letter_23 hs hsl).trans ((if_pos (z23_0 p16)).trans ((zd_aload_n a_M_letter_24 rfl).trans ((zd_cal (kd := 0) (tg := 159) (T := m_M_next) a_M_letter_25 (by decide +kernel) hm_M_next rfl rfl rfl rfl))))))))))
theorem B_M_letter_28 {G : Nat → Nat → Int32} {am mm : Nat} {x2 x3 x4 s0 s1 : Int32} (hs : zSH[am]? = some (.inr (.int, mm, []))) (hsl : Nat.blt am 1000000 = true) : zden 161 28 [.ref 90, .ref am, .int x2, .int x3, .int x4] [.int s0, .int s1] (zSH, G) = if ¬ s1 = s0 then zden 161 37 [.ref 90, .ref am, .int x2, .int x3, .int x4] [.int x3] (zSH, G) else zden 161 37 [.ref 90, .ref am, .int x2, .int x3, .int x4] [.int x4] (zSH, G) :=
  (zd_icmp_ne a_M_letter_28 rfl).trans (zitc (fun p18 => (zd_iload_n a_M_letter_36 rfl)) (fun p18 => (zd_iload a_M_letter_31 rfl).trans ((zd_goto a_M_letter_33 rfl))))
theorem B_M_letter_37 {G : Nat → Nat → Int32} {am mm : Nat} {x2 x3 x4 s0 : Int32} (hs : zSH[am]? = some (.inr (.int, mm, []))) (hsl : Nat.blt am 1000000 = true) : zden 161 37 [.ref 90, .ref am, .int x2, .int x3, .int x4] [.int s0] (zSH, G) = zden 161 14 [.ref 90, .ref am, .int x2, .int s0, .int (x4 + 1)] [] (zSH, G) :=
  (zd_istore_n a_M_letter_37 rfl rfl rfl).trans ((zd_iinc (v := 1) a_M_letter_38 rfl (by decide) rfl rfl rfl).trans ((zd_goto a_M_letter_41 rfl)))
theorem B_M_letter_54 {G : Nat → Nat → Int32} {am mm : Nat} {x2 x3 x4 s0 : Int32} (hs : zSH[am]? = some (.inr (.int, mm, []))) (hsl : Nat.blt am 1000000 = true) (f54 : zfit .boolean s0 = true) : zden 161 54 [.ref 90, .ref am, .int x2, .int x3, .int x4] [.int s0, .ref 90] (zSH, G) = if ((zup G 90 20 s0) 90 20) = 0 then zden 161 74 [.ref 90, .ref am, .int x2, .int x3, .int x4] [.int 1, .int ((zup G 90 20 s0) 90 18), .ref 90] (zSH, (zup G 90 20 s0)) else zden 161 74 [.ref 90, .ref am, .int x2, .int x3, .int x4] [.int 0, .int ((zup G 90 20 s0) 90 18), .ref 90] (zSH, (zup G 90 20 s0)) :=
  (zd_putI (h := (zSH, G)) (ci := 8) (fi := 20) a_M_letter_54 (by decide +kernel) sh_90 rfl f54).trans ((zd_aload_n a_M_letter_57 rfl).trans ((zd_num (st2 := [.ref 90, .ref 90]) a_M_letter_58 rfl rfl rfl rfl).trans ((zd_getI (h := (zSH, (zup G 90 20 s0))) (ci := 8) (fi := 18) a_M_letter_59 (by decide +kernel) sh_90 rfl).trans ((zd_aload_n a_M_letter_62 rfl).trans ((zd_getI (h := (zSH, (zup G 90 20 s0))) (ci := 8) (fi := 20) a_M_letter_63 (by decide +kernel) sh_90 rfl).trans ((zd_if_eq a_M_letter_66 rfl).trans (zitc (fun p19 => (zd_iconst (v := 1) a_M_letter_73 (by decide))) (fun p19 => (zd_iconst (v := 0) a_M_letter_69 (by decide)).trans ((zd_goto a_M_letter_70 rfl))))))))))
theorem B_M_letter_74 {G : Nat → Nat → Int32} {am mm : Nat} {x2 x3 x4 s0 s1 : Int32} (hs : zSH[am]? = some (.inr (.int, mm, []))) (hsl : Nat.blt am 1000000 = true) : zden 161 74 [.ref 90, .ref am, .int x2, .int x3, .int x4] [.int s0, .int s1, .ref 90] (zSH, G) = some (some (.int x3), (zSH, (zup G 90 18 (s1 + s0)))) :=
  (zd_num (st2 := [.int (s1 + s0), .ref 90]) a_M_letter_74 rfl rfl rfl rfl).trans ((zd_putI (h := (zSH, G)) (ci := 8) (fi := 18) a_M_letter_75 (by decide +kernel) sh_90 rfl rfl).trans ((zd_iload_n a_M_letter_78 rfl).trans (zd_iret a_M_letter_79 rfl (znr_int _))))
