-- 26: blocks of the class: clerk, history, ranking, line, its face (written by wip/p36/gen26.py)
theorem hm_Cl_carryOut : zms[k_Cl_carryOut]? = some m_Cl_carryOut := rfl
theorem hm_Cl_chiefFibre : zms[k_Cl_chiefFibre]? = some m_Cl_chiefFibre := rfl
theorem hm_Cl_favourCountry : zms[k_Cl_favourCountry]? = some m_Cl_favourCountry := rfl
theorem hm_Cl_give : zms[k_Cl_give]? = some m_Cl_give := rfl
theorem hm_Cl_goBy : zms[k_Cl_goBy]? = some m_Cl_goBy := rfl
theorem hm_Cl_letIn : zms[k_Cl_letIn]? = some m_Cl_letIn := rfl
theorem hm_Cl_letOut : zms[k_Cl_letOut]? = some m_Cl_letOut := rfl
theorem hm_Cl_refuse : zms[k_Cl_refuse]? = some m_Cl_refuse := rfl
theorem hm_Cl_setUp : zms[k_Cl_setUp]? = some m_Cl_setUp := rfl
theorem hm_Cl_strikeOut : zms[k_Cl_strikeOut]? = some m_Cl_strikeOut := rfl
theorem hm_Cl_takeIn : zms[k_Cl_takeIn]? = some m_Cl_takeIn := rfl
theorem hm_Cl_workOn : zms[k_Cl_workOn]? = some m_Cl_workOn := rfl
theorem hm_Hi_keep : zms[k_Hi_keep]? = some m_Hi_keep := rfl
theorem hm_Hi_restoreTo : zms[k_Hi_restoreTo]? = some m_Hi_restoreTo := rfl
theorem hm_Hi_saveFrom : zms[k_Hi_saveFrom]? = some m_Hi_saveFrom := rfl
theorem hm_Hi_settle : zms[k_Hi_settle]? = some m_Hi_settle := rfl
theorem hm_Hi_stepBack : zms[k_Hi_stepBack]? = some m_Hi_stepBack := rfl
theorem hm_Hi_takeBack : zms[k_Hi_takeBack]? = some m_Hi_takeBack := rfl
theorem hm_Ho_copyFrom : zms[k_Ho_copyFrom]? = some m_Ho_copyFrom := rfl
theorem hm_Li_signAt : zms[k_Li_signAt]? = some m_Li_signAt := rfl
theorem hm_Ra_countAheadOf : zms[k_Ra_countAheadOf]? = some m_Ra_countAheadOf := rfl
theorem hm_Ra_goodAt : zms[k_Ra_goodAt]? = some m_Ra_goodAt := rfl
theorem hm_Ra_isAhead : zms[k_Ra_isAhead]? = some m_Ra_isAhead := rfl
theorem hm_T_account : zms[k_T_account]? = some m_T_account := rfl
theorem hm_T_character : zms[k_T_character]? = some m_T_character := rfl
theorem hm_T_cheapest : zms[k_T_cheapest]? = some m_T_cheapest := rfl
theorem hm_T_code : zms[k_T_code]? = some m_T_code := rfl
theorem hm_T_coins : zms[k_T_coins]? = some m_T_coins := rfl
theorem hm_T_days : zms[k_T_days]? = some m_T_days := rfl
theorem hm_T_enter : zms[k_T_enter]? = some m_T_enter := rfl
theorem hm_T_export : zms[k_T_export]? = some m_T_export := rfl
theorem hm_T_favour : zms[k_T_favour]? = some m_T_favour := rfl
theorem hm_T_fit : zms[k_T_fit]? = some m_T_fit := rfl
theorem hm_T_fitAgain : zms[k_T_fitAgain]? = some m_T_fitAgain := rfl
theorem hm_T_good : zms[k_T_good]? = some m_T_good := rfl
theorem hm_T_goodOf : zms[k_T_goodOf]? = some m_T_goodOf := rfl
theorem hm_T_heading : zms[k_T_heading]? = some m_T_heading := rfl
theorem hm_T_headingOf : zms[k_T_headingOf]? = some m_T_headingOf := rfl
theorem hm_T_isBalanced : zms[k_T_isBalanced]? = some m_T_isBalanced := rfl
theorem hm_T_part : zms[k_T_part]? = some m_T_part := rfl
theorem hm_T_points : zms[k_T_points]? = some m_T_points := rfl
theorem hm_T_ranked : zms[k_T_ranked]? = some m_T_ranked := rfl
theorem hm_T_reason : zms[k_T_reason]? = some m_T_reason := rfl
theorem hm_T_restore : zms[k_T_restore]? = some m_T_restore := rfl
theorem hm_T_run : zms[k_T_run]? = some m_T_run := rfl
theorem hm_T_save : zms[k_T_save]? = some m_T_save := rfl
theorem hm_T_strike : zms[k_T_strike]? = some m_T_strike := rfl
theorem hm_T_undo : zms[k_T_undo]? = some m_T_undo := rfl
theorem hm_T_why : zms[k_T_why]? = some m_T_why := rfl
theorem hm_T_work : zms[k_T_work]? = some m_T_work := rfl
theorem hm_T_would : zms[k_T_would]? = some m_T_would := rfl
theorem hm_Ta_copyRow : zms[k_Ta_copyRow]? = some m_Ta_copyRow := rfl
theorem hm_Te_empty : zms[k_Te_empty]? = some m_Te_empty := rfl
theorem hm_Te_read : zms[k_Te_read]? = some m_Te_read := rfl
theorem hm_Te_readDigits : zms[k_Te_readDigits]? = some m_Te_readDigits := rfl
theorem hm_Te_readSign : zms[k_Te_readSign]? = some m_Te_readSign := rfl
theorem hm_Te_signAt : zms[k_Te_signAt]? = some m_Te_signAt := rfl
theorem a_Cl_refuse_0 : zAt 2 0 m_Cl_refuse (.aload_n 0) 1 := ⟨hm_Cl_refuse, by decide +kernel⟩
theorem a_Cl_refuse_1 : zAt 2 1 m_Cl_refuse (.iload_n 1) 1 := ⟨hm_Cl_refuse, by decide +kernel⟩
theorem a_Cl_refuse_2 : zAt 2 2 m_Cl_refuse (.putfield 18) 3 := ⟨hm_Cl_refuse, by decide +kernel⟩
theorem a_Cl_refuse_5 : zAt 2 5 m_Cl_refuse (.aload_n 0) 1 := ⟨hm_Cl_refuse, by decide +kernel⟩
theorem a_Cl_refuse_6 : zAt 2 6 m_Cl_refuse (.iload_n 2) 1 := ⟨hm_Cl_refuse, by decide +kernel⟩
theorem a_Cl_refuse_7 : zAt 2 7 m_Cl_refuse (.putfield 22) 3 := ⟨hm_Cl_refuse, by decide +kernel⟩
theorem a_Cl_refuse_10 : zAt 2 10 m_Cl_refuse (.bipush (-14)) 2 := ⟨hm_Cl_refuse, by decide +kernel⟩
theorem a_Cl_refuse_12 : zAt 2 12 m_Cl_refuse (.ireturn) 1 := ⟨hm_Cl_refuse, by decide +kernel⟩
theorem B_Cl_refuse_0 {G : Nat → Nat → Int32} {x1 x2 : Int32} : zden 2 0 [.ref 1, .int x1, .int x2] [] (zSH, G) = some (some (.int (-14)), (zSH, (zup (zup G 1 1 x1) 1 2 x2))) :=
  (zd_aload_n a_Cl_refuse_0 rfl).trans ((zd_iload_n a_Cl_refuse_1 rfl).trans ((zd_putI (h := (zSH, G)) (ci := 0) (fi := 1) a_Cl_refuse_2 (by decide +kernel) sh_1 rfl rfl).trans ((zd_aload_n a_Cl_refuse_5 rfl).trans ((zd_iload_n a_Cl_refuse_6 rfl).trans ((zd_putI (h := (zSH, (zup G 1 1 x1))) (ci := 0) (fi := 2) a_Cl_refuse_7 (by decide +kernel) sh_1 rfl rfl).trans ((zd_bipush (v := (-14)) a_Cl_refuse_10 (by decide)).trans (zd_iret a_Cl_refuse_12 rfl (znr_int _))))))))
theorem a_Cl_setUp_0 : zAt 1 0 m_Cl_setUp (.iload_n 1) 1 := ⟨hm_Cl_setUp, by decide +kernel⟩
theorem a_Cl_setUp_1 : zAt 1 1 m_Cl_setUp (.iconst 1) 1 := ⟨hm_Cl_setUp, by decide +kernel⟩
theorem a_Cl_setUp_2 : zAt 1 2 m_Cl_setUp (.bipush 98) 2 := ⟨hm_Cl_setUp, by decide +kernel⟩
theorem a_Cl_setUp_4 : zAt 1 4 m_Cl_setUp (.invokestatic 25) 3 := ⟨hm_Cl_setUp, by decide +kernel⟩
theorem a_Cl_setUp_7 : zAt 1 7 m_Cl_setUp (.ifCond .eq 43) 3 := ⟨hm_Cl_setUp, by decide +kernel⟩
theorem a_Cl_setUp_10 : zAt 1 10 m_Cl_setUp (.iload_n 2) 1 := ⟨hm_Cl_setUp, by decide +kernel⟩
theorem a_Cl_setUp_11 : zAt 1 11 m_Cl_setUp (.iconst 0) 1 := ⟨hm_Cl_setUp, by decide +kernel⟩
theorem a_Cl_setUp_12 : zAt 1 12 m_Cl_setUp (.iconst 4) 1 := ⟨hm_Cl_setUp, by decide +kernel⟩
theorem a_Cl_setUp_13 : zAt 1 13 m_Cl_setUp (.invokestatic 25) 3 := ⟨hm_Cl_setUp, by decide +kernel⟩
theorem a_Cl_setUp_16 : zAt 1 16 m_Cl_setUp (.ifCond .eq 34) 3 := ⟨hm_Cl_setUp, by decide +kernel⟩
theorem a_Cl_setUp_19 : zAt 1 19 m_Cl_setUp (.iload_n 3) 1 := ⟨hm_Cl_setUp, by decide +kernel⟩
theorem a_Cl_setUp_20 : zAt 1 20 m_Cl_setUp (.iconst 0) 1 := ⟨hm_Cl_setUp, by decide +kernel⟩
theorem a_Cl_setUp_21 : zAt 1 21 m_Cl_setUp (.iconst 3) 1 := ⟨hm_Cl_setUp, by decide +kernel⟩
theorem a_Cl_setUp_22 : zAt 1 22 m_Cl_setUp (.invokestatic 25) 3 := ⟨hm_Cl_setUp, by decide +kernel⟩
theorem a_Cl_setUp_25 : zAt 1 25 m_Cl_setUp (.ifCond .eq 25) 3 := ⟨hm_Cl_setUp, by decide +kernel⟩
theorem a_Cl_setUp_28 : zAt 1 28 m_Cl_setUp (.iload 4) 2 := ⟨hm_Cl_setUp, by decide +kernel⟩
theorem a_Cl_setUp_30 : zAt 1 30 m_Cl_setUp (.iconst 0) 1 := ⟨hm_Cl_setUp, by decide +kernel⟩
theorem a_Cl_setUp_31 : zAt 1 31 m_Cl_setUp (.bipush 60) 2 := ⟨hm_Cl_setUp, by decide +kernel⟩
theorem a_Cl_setUp_33 : zAt 1 33 m_Cl_setUp (.invokestatic 25) 3 := ⟨hm_Cl_setUp, by decide +kernel⟩
theorem a_Cl_setUp_36 : zAt 1 36 m_Cl_setUp (.ifCond .eq 14) 3 := ⟨hm_Cl_setUp, by decide +kernel⟩
theorem a_Cl_setUp_39 : zAt 1 39 m_Cl_setUp (.iload 5) 2 := ⟨hm_Cl_setUp, by decide +kernel⟩
theorem a_Cl_setUp_41 : zAt 1 41 m_Cl_setUp (.iconst 0) 1 := ⟨hm_Cl_setUp, by decide +kernel⟩
theorem a_Cl_setUp_42 : zAt 1 42 m_Cl_setUp (.bipush 20) 2 := ⟨hm_Cl_setUp, by decide +kernel⟩
theorem a_Cl_setUp_44 : zAt 1 44 m_Cl_setUp (.invokestatic 25) 3 := ⟨hm_Cl_setUp, by decide +kernel⟩
theorem a_Cl_setUp_47 : zAt 1 47 m_Cl_setUp (.ifCond .ne 6) 3 := ⟨hm_Cl_setUp, by decide +kernel⟩
theorem a_Cl_setUp_50 : zAt 1 50 m_Cl_setUp (.bipush (-12)) 2 := ⟨hm_Cl_setUp, by decide +kernel⟩
theorem a_Cl_setUp_52 : zAt 1 52 m_Cl_setUp (.ireturn) 1 := ⟨hm_Cl_setUp, by decide +kernel⟩
theorem a_Cl_setUp_53 : zAt 1 53 m_Cl_setUp (.aload_n 0) 1 := ⟨hm_Cl_setUp, by decide +kernel⟩
theorem a_Cl_setUp_54 : zAt 1 54 m_Cl_setUp (.getfield 12) 3 := ⟨hm_Cl_setUp, by decide +kernel⟩
theorem a_Cl_setUp_57 : zAt 1 57 m_Cl_setUp (.iload_n 1) 1 := ⟨hm_Cl_setUp, by decide +kernel⟩
theorem a_Cl_setUp_58 : zAt 1 58 m_Cl_setUp (.invokevirtual 29) 3 := ⟨hm_Cl_setUp, by decide +kernel⟩
theorem a_Cl_setUp_61 : zAt 1 61 m_Cl_setUp (.ifCond .lt 10) 3 := ⟨hm_Cl_setUp, by decide +kernel⟩
theorem a_Cl_setUp_64 : zAt 1 64 m_Cl_setUp (.aload_n 0) 1 := ⟨hm_Cl_setUp, by decide +kernel⟩
theorem a_Cl_setUp_65 : zAt 1 65 m_Cl_setUp (.iconst 2) 1 := ⟨hm_Cl_setUp, by decide +kernel⟩
theorem a_Cl_setUp_66 : zAt 1 66 m_Cl_setUp (.iload_n 1) 1 := ⟨hm_Cl_setUp, by decide +kernel⟩
theorem a_Cl_setUp_67 : zAt 1 67 m_Cl_setUp (.invokevirtual 33) 3 := ⟨hm_Cl_setUp, by decide +kernel⟩
theorem a_Cl_setUp_70 : zAt 1 70 m_Cl_setUp (.ireturn) 1 := ⟨hm_Cl_setUp, by decide +kernel⟩
theorem a_Cl_setUp_71 : zAt 1 71 m_Cl_setUp (.aload_n 0) 1 := ⟨hm_Cl_setUp, by decide +kernel⟩
theorem a_Cl_setUp_72 : zAt 1 72 m_Cl_setUp (.getfield 12) 3 := ⟨hm_Cl_setUp, by decide +kernel⟩
theorem a_Cl_setUp_75 : zAt 1 75 m_Cl_setUp (.getfield 37) 3 := ⟨hm_Cl_setUp, by decide +kernel⟩
theorem a_Cl_setUp_78 : zAt 1 78 m_Cl_setUp (.bipush 10) 2 := ⟨hm_Cl_setUp, by decide +kernel⟩
theorem a_Cl_setUp_80 : zAt 1 80 m_Cl_setUp (.if_icmp .le 11) 3 := ⟨hm_Cl_setUp, by decide +kernel⟩
theorem a_Cl_setUp_83 : zAt 1 83 m_Cl_setUp (.aload_n 0) 1 := ⟨hm_Cl_setUp, by decide +kernel⟩
theorem a_Cl_setUp_84 : zAt 1 84 m_Cl_setUp (.iconst 1) 1 := ⟨hm_Cl_setUp, by decide +kernel⟩
theorem a_Cl_setUp_85 : zAt 1 85 m_Cl_setUp (.bipush 10) 2 := ⟨hm_Cl_setUp, by decide +kernel⟩
theorem a_Cl_setUp_87 : zAt 1 87 m_Cl_setUp (.invokevirtual 33) 3 := ⟨hm_Cl_setUp, by decide +kernel⟩
theorem a_Cl_setUp_90 : zAt 1 90 m_Cl_setUp (.ireturn) 1 := ⟨hm_Cl_setUp, by decide +kernel⟩
theorem a_Cl_setUp_91 : zAt 1 91 m_Cl_setUp (.aload_n 0) 1 := ⟨hm_Cl_setUp, by decide +kernel⟩
theorem a_Cl_setUp_92 : zAt 1 92 m_Cl_setUp (.getfield 12) 3 := ⟨hm_Cl_setUp, by decide +kernel⟩
theorem a_Cl_setUp_95 : zAt 1 95 m_Cl_setUp (.getfield 37) 3 := ⟨hm_Cl_setUp, by decide +kernel⟩
theorem a_Cl_setUp_98 : zAt 1 98 m_Cl_setUp (.istore 6) 2 := ⟨hm_Cl_setUp, by decide +kernel⟩
theorem a_Cl_setUp_100 : zAt 1 100 m_Cl_setUp (.iload 6) 2 := ⟨hm_Cl_setUp, by decide +kernel⟩
theorem a_Cl_setUp_102 : zAt 1 102 m_Cl_setUp (.ifCond .le 44) 3 := ⟨hm_Cl_setUp, by decide +kernel⟩
theorem a_Cl_setUp_105 : zAt 1 105 m_Cl_setUp (.aload_n 0) 1 := ⟨hm_Cl_setUp, by decide +kernel⟩
theorem a_Cl_setUp_106 : zAt 1 106 m_Cl_setUp (.getfield 12) 3 := ⟨hm_Cl_setUp, by decide +kernel⟩
theorem a_Cl_setUp_109 : zAt 1 109 m_Cl_setUp (.getfield 40) 3 := ⟨hm_Cl_setUp, by decide +kernel⟩
theorem a_Cl_setUp_112 : zAt 1 112 m_Cl_setUp (.iload 6) 2 := ⟨hm_Cl_setUp, by decide +kernel⟩
theorem a_Cl_setUp_114 : zAt 1 114 m_Cl_setUp (.iconst 1) 1 := ⟨hm_Cl_setUp, by decide +kernel⟩
theorem a_Cl_setUp_115 : zAt 1 115 m_Cl_setUp (.isub) 1 := ⟨hm_Cl_setUp, by decide +kernel⟩
theorem a_Cl_setUp_116 : zAt 1 116 m_Cl_setUp (.iconst 4) 1 := ⟨hm_Cl_setUp, by decide +kernel⟩
theorem a_Cl_setUp_117 : zAt 1 117 m_Cl_setUp (.invokevirtual 44) 3 := ⟨hm_Cl_setUp, by decide +kernel⟩
theorem a_Cl_setUp_120 : zAt 1 120 m_Cl_setUp (.iload_n 1) 1 := ⟨hm_Cl_setUp, by decide +kernel⟩
theorem a_Cl_setUp_121 : zAt 1 121 m_Cl_setUp (.if_icmp .le 25) 3 := ⟨hm_Cl_setUp, by decide +kernel⟩
theorem a_Cl_setUp_124 : zAt 1 124 m_Cl_setUp (.aload_n 0) 1 := ⟨hm_Cl_setUp, by decide +kernel⟩
theorem a_Cl_setUp_125 : zAt 1 125 m_Cl_setUp (.getfield 12) 3 := ⟨hm_Cl_setUp, by decide +kernel⟩
theorem a_Cl_setUp_128 : zAt 1 128 m_Cl_setUp (.getfield 40) 3 := ⟨hm_Cl_setUp, by decide +kernel⟩
theorem a_Cl_setUp_131 : zAt 1 131 m_Cl_setUp (.iload 6) 2 := ⟨hm_Cl_setUp, by decide +kernel⟩
theorem a_Cl_setUp_133 : zAt 1 133 m_Cl_setUp (.iconst 1) 1 := ⟨hm_Cl_setUp, by decide +kernel⟩
theorem a_Cl_setUp_134 : zAt 1 134 m_Cl_setUp (.isub) 1 := ⟨hm_Cl_setUp, by decide +kernel⟩
theorem a_Cl_setUp_135 : zAt 1 135 m_Cl_setUp (.iload 6) 2 := ⟨hm_Cl_setUp, by decide +kernel⟩
theorem a_Cl_setUp_137 : zAt 1 137 m_Cl_setUp (.invokevirtual 49) 3 := ⟨hm_Cl_setUp, by decide +kernel⟩
theorem a_Cl_setUp_140 : zAt 1 140 m_Cl_setUp (.iinc 6 (-1)) 3 := ⟨hm_Cl_setUp, by decide +kernel⟩
theorem a_Cl_setUp_143 : zAt 1 143 m_Cl_setUp (.goto (-43)) 3 := ⟨hm_Cl_setUp, by decide +kernel⟩
theorem a_Cl_setUp_146 : zAt 1 146 m_Cl_setUp (.aload_n 0) 1 := ⟨hm_Cl_setUp, by decide +kernel⟩
theorem a_Cl_setUp_147 : zAt 1 147 m_Cl_setUp (.getfield 12) 3 := ⟨hm_Cl_setUp, by decide +kernel⟩
theorem a_Cl_setUp_150 : zAt 1 150 m_Cl_setUp (.getfield 40) 3 := ⟨hm_Cl_setUp, by decide +kernel⟩
theorem a_Cl_setUp_153 : zAt 1 153 m_Cl_setUp (.iload 6) 2 := ⟨hm_Cl_setUp, by decide +kernel⟩
theorem a_Cl_setUp_155 : zAt 1 155 m_Cl_setUp (.iconst 4) 1 := ⟨hm_Cl_setUp, by decide +kernel⟩
theorem a_Cl_setUp_156 : zAt 1 156 m_Cl_setUp (.iload_n 1) 1 := ⟨hm_Cl_setUp, by decide +kernel⟩
theorem a_Cl_setUp_157 : zAt 1 157 m_Cl_setUp (.invokevirtual 53) 3 := ⟨hm_Cl_setUp, by decide +kernel⟩
theorem a_Cl_setUp_160 : zAt 1 160 m_Cl_setUp (.aload_n 0) 1 := ⟨hm_Cl_setUp, by decide +kernel⟩
theorem a_Cl_setUp_161 : zAt 1 161 m_Cl_setUp (.getfield 12) 3 := ⟨hm_Cl_setUp, by decide +kernel⟩
theorem a_Cl_setUp_164 : zAt 1 164 m_Cl_setUp (.getfield 40) 3 := ⟨hm_Cl_setUp, by decide +kernel⟩
theorem a_Cl_setUp_167 : zAt 1 167 m_Cl_setUp (.iload 6) 2 := ⟨hm_Cl_setUp, by decide +kernel⟩
theorem a_Cl_setUp_169 : zAt 1 169 m_Cl_setUp (.iconst 0) 1 := ⟨hm_Cl_setUp, by decide +kernel⟩
theorem a_Cl_setUp_170 : zAt 1 170 m_Cl_setUp (.iload_n 2) 1 := ⟨hm_Cl_setUp, by decide +kernel⟩
theorem a_Cl_setUp_171 : zAt 1 171 m_Cl_setUp (.invokevirtual 53) 3 := ⟨hm_Cl_setUp, by decide +kernel⟩
theorem a_Cl_setUp_174 : zAt 1 174 m_Cl_setUp (.aload_n 0) 1 := ⟨hm_Cl_setUp, by decide +kernel⟩
theorem a_Cl_setUp_175 : zAt 1 175 m_Cl_setUp (.getfield 12) 3 := ⟨hm_Cl_setUp, by decide +kernel⟩
theorem a_Cl_setUp_178 : zAt 1 178 m_Cl_setUp (.getfield 40) 3 := ⟨hm_Cl_setUp, by decide +kernel⟩
theorem a_Cl_setUp_181 : zAt 1 181 m_Cl_setUp (.iload 6) 2 := ⟨hm_Cl_setUp, by decide +kernel⟩
theorem a_Cl_setUp_183 : zAt 1 183 m_Cl_setUp (.iconst 1) 1 := ⟨hm_Cl_setUp, by decide +kernel⟩
theorem a_Cl_setUp_184 : zAt 1 184 m_Cl_setUp (.iload_n 3) 1 := ⟨hm_Cl_setUp, by decide +kernel⟩
theorem a_Cl_setUp_185 : zAt 1 185 m_Cl_setUp (.invokevirtual 53) 3 := ⟨hm_Cl_setUp, by decide +kernel⟩
theorem a_Cl_setUp_188 : zAt 1 188 m_Cl_setUp (.aload_n 0) 1 := ⟨hm_Cl_setUp, by decide +kernel⟩
theorem a_Cl_setUp_189 : zAt 1 189 m_Cl_setUp (.getfield 12) 3 := ⟨hm_Cl_setUp, by decide +kernel⟩
theorem a_Cl_setUp_192 : zAt 1 192 m_Cl_setUp (.getfield 40) 3 := ⟨hm_Cl_setUp, by decide +kernel⟩
theorem a_Cl_setUp_195 : zAt 1 195 m_Cl_setUp (.iload 6) 2 := ⟨hm_Cl_setUp, by decide +kernel⟩
theorem a_Cl_setUp_197 : zAt 1 197 m_Cl_setUp (.iconst 2) 1 := ⟨hm_Cl_setUp, by decide +kernel⟩
theorem a_Cl_setUp_198 : zAt 1 198 m_Cl_setUp (.iload 4) 2 := ⟨hm_Cl_setUp, by decide +kernel⟩
theorem a_Cl_setUp_200 : zAt 1 200 m_Cl_setUp (.invokevirtual 53) 3 := ⟨hm_Cl_setUp, by decide +kernel⟩
theorem a_Cl_setUp_203 : zAt 1 203 m_Cl_setUp (.aload_n 0) 1 := ⟨hm_Cl_setUp, by decide +kernel⟩
theorem a_Cl_setUp_204 : zAt 1 204 m_Cl_setUp (.getfield 12) 3 := ⟨hm_Cl_setUp, by decide +kernel⟩
theorem a_Cl_setUp_207 : zAt 1 207 m_Cl_setUp (.getfield 40) 3 := ⟨hm_Cl_setUp, by decide +kernel⟩
theorem a_Cl_setUp_210 : zAt 1 210 m_Cl_setUp (.iload 6) 2 := ⟨hm_Cl_setUp, by decide +kernel⟩
theorem a_Cl_setUp_212 : zAt 1 212 m_Cl_setUp (.iconst 3) 1 := ⟨hm_Cl_setUp, by decide +kernel⟩
theorem a_Cl_setUp_213 : zAt 1 213 m_Cl_setUp (.iload 5) 2 := ⟨hm_Cl_setUp, by decide +kernel⟩
theorem a_Cl_setUp_215 : zAt 1 215 m_Cl_setUp (.invokevirtual 53) 3 := ⟨hm_Cl_setUp, by decide +kernel⟩
theorem a_Cl_setUp_218 : zAt 1 218 m_Cl_setUp (.aload_n 0) 1 := ⟨hm_Cl_setUp, by decide +kernel⟩
theorem a_Cl_setUp_219 : zAt 1 219 m_Cl_setUp (.getfield 12) 3 := ⟨hm_Cl_setUp, by decide +kernel⟩
theorem a_Cl_setUp_222 : zAt 1 222 m_Cl_setUp (.dup) 1 := ⟨hm_Cl_setUp, by decide +kernel⟩
theorem a_Cl_setUp_223 : zAt 1 223 m_Cl_setUp (.getfield 37) 3 := ⟨hm_Cl_setUp, by decide +kernel⟩
theorem a_Cl_setUp_226 : zAt 1 226 m_Cl_setUp (.iconst 1) 1 := ⟨hm_Cl_setUp, by decide +kernel⟩
theorem a_Cl_setUp_227 : zAt 1 227 m_Cl_setUp (.iadd) 1 := ⟨hm_Cl_setUp, by decide +kernel⟩
theorem a_Cl_setUp_228 : zAt 1 228 m_Cl_setUp (.putfield 37) 3 := ⟨hm_Cl_setUp, by decide +kernel⟩
theorem a_Cl_setUp_231 : zAt 1 231 m_Cl_setUp (.aload_n 0) 1 := ⟨hm_Cl_setUp, by decide +kernel⟩
theorem a_Cl_setUp_232 : zAt 1 232 m_Cl_setUp (.getfield 12) 3 := ⟨hm_Cl_setUp, by decide +kernel⟩
theorem a_Cl_setUp_235 : zAt 1 235 m_Cl_setUp (.getfield 37) 3 := ⟨hm_Cl_setUp, by decide +kernel⟩
theorem a_Cl_setUp_238 : zAt 1 238 m_Cl_setUp (.iconst 1) 1 := ⟨hm_Cl_setUp, by decide +kernel⟩
theorem a_Cl_setUp_239 : zAt 1 239 m_Cl_setUp (.isub) 1 := ⟨hm_Cl_setUp, by decide +kernel⟩
theorem a_Cl_setUp_240 : zAt 1 240 m_Cl_setUp (.ireturn) 1 := ⟨hm_Cl_setUp, by decide +kernel⟩
theorem B_Cl_setUp_0 {G : Nat → Nat → Int32} {x1 x2 x3 x4 x5 : Int32} : zden 1 0 [.ref 1, .int x1, .int x2, .int x3, .int x4, .int x5, .retAddr 0] [] (zSH, G) = if (bI (1 ≤ x1 ∧ x1 ≤ 98)) = 0 then some (some (.int (-12)), (zSH, G)) else if (bI (0 ≤ x2 ∧ x2 ≤ 4)) = 0 then some (some (.int (-12)), (zSH, G)) else if (bI (0 ≤ x3 ∧ x3 ≤ 3)) = 0 then some (some (.int (-12)), (zSH, G)) else if (bI (0 ≤ x4 ∧ x4 ≤ 60)) = 0 then some (some (.int (-12)), (zSH, G)) else if ¬ (bI (0 ≤ x5 ∧ x5 ≤ 20)) = 0 then zaft 1 61 [.ref 1, .int x1, .int x2, .int x3, .int x4, .int x5, .retAddr 0] [] (zSH, G) (zden 22 0 [.ref 2, .int x1, .retAddr 0] [] (zSH, G)) else some (some (.int (-12)), (zSH, G)) :=
  (zd_iload_n a_Cl_setUp_0 rfl).trans ((zd_iconst (v := 1) a_Cl_setUp_1 (by decide)).trans ((zd_bipush (v := 98) a_Cl_setUp_2 (by decide)).trans ((zd_cal (kd := 3) (tg := 71) (T := m_T_isWithin) a_Cl_setUp_4 (by decide +kernel) hm_T_isWithin rfl rfl rfl rfl).trans (((congrArg (zaft 1 7 [.ref 1, .int x1, .int x2, .int x3, .int x4, .int x5, .retAddr 0] [] (zSH, G)) (sp_isWithin)).trans zaft_same).trans ((zd_if_eq a_Cl_setUp_7 rfl).trans (zitc (fun p31 => (zd_bipush (v := (-12)) a_Cl_setUp_50 (by decide)).trans (zd_iret a_Cl_setUp_52 rfl (znr_int _))) (fun p31 => (zd_iload_n a_Cl_setUp_10 rfl).trans ((zd_iconst (v := 0) a_Cl_setUp_11 (by decide)).trans ((zd_iconst (v := 4) a_Cl_setUp_12 (by decide)).trans ((zd_cal (kd := 3) (tg := 71) (T := m_T_isWithin) a_Cl_setUp_13 (by decide +kernel) hm_T_isWithin rfl rfl rfl rfl).trans (((congrArg (zaft 1 16 [.ref 1, .int x1, .int x2, .int x3, .int x4, .int x5, .retAddr 0] [] (zSH, G)) (sp_isWithin)).trans zaft_same).trans ((zd_if_eq a_Cl_setUp_16 rfl).trans (zitc (fun p32 => (zd_bipush (v := (-12)) a_Cl_setUp_50 (by decide)).trans (zd_iret a_Cl_setUp_52 rfl (znr_int _))) (fun p32 => (zd_iload_n a_Cl_setUp_19 rfl).trans ((zd_iconst (v := 0) a_Cl_setUp_20 (by decide)).trans ((zd_iconst (v := 3) a_Cl_setUp_21 (by decide)).trans ((zd_cal (kd := 3) (tg := 71) (T := m_T_isWithin) a_Cl_setUp_22 (by decide +kernel) hm_T_isWithin rfl rfl rfl rfl).trans (((congrArg (zaft 1 25 [.ref 1, .int x1, .int x2, .int x3, .int x4, .int x5, .retAddr 0] [] (zSH, G)) (sp_isWithin)).trans zaft_same).trans ((zd_if_eq a_Cl_setUp_25 rfl).trans (zitc (fun p33 => (zd_bipush (v := (-12)) a_Cl_setUp_50 (by decide)).trans (zd_iret a_Cl_setUp_52 rfl (znr_int _))) (fun p33 => (zd_iload a_Cl_setUp_28 rfl).trans ((zd_iconst (v := 0) a_Cl_setUp_30 (by decide)).trans ((zd_bipush (v := 60) a_Cl_setUp_31 (by decide)).trans ((zd_cal (kd := 3) (tg := 71) (T := m_T_isWithin) a_Cl_setUp_33 (by decide +kernel) hm_T_isWithin rfl rfl rfl rfl).trans (((congrArg (zaft 1 36 [.ref 1, .int x1, .int x2, .int x3, .int x4, .int x5, .retAddr 0] [] (zSH, G)) (sp_isWithin)).trans zaft_same).trans ((zd_if_eq a_Cl_setUp_36 rfl).trans (zitc (fun p34 => (zd_bipush (v := (-12)) a_Cl_setUp_50 (by decide)).trans (zd_iret a_Cl_setUp_52 rfl (znr_int _))) (fun p34 => (zd_iload a_Cl_setUp_39 rfl).trans ((zd_iconst (v := 0) a_Cl_setUp_41 (by decide)).trans ((zd_bipush (v := 20) a_Cl_setUp_42 (by decide)).trans ((zd_cal (kd := 3) (tg := 71) (T := m_T_isWithin) a_Cl_setUp_44 (by decide +kernel) hm_T_isWithin rfl rfl rfl rfl).trans (((congrArg (zaft 1 47 [.ref 1, .int x1, .int x2, .int x3, .int x4, .int x5, .retAddr 0] [] (zSH, G)) (sp_isWithin)).trans zaft_same).trans ((zd_if_ne a_Cl_setUp_47 rfl).trans (zitc (fun p35 => (zd_aload_n a_Cl_setUp_53 rfl).trans ((zd_getR (h := (zSH, G)) (ci := 0) (fi := 0) (a := 2) a_Cl_setUp_54 (by decide +kernel) sh_1 rfl rfl).trans ((zd_iload_n a_Cl_setUp_57 rfl).trans ((zd_cal (kd := 0) (tg := 22) (T := m_Ho_rowOfCode) a_Cl_setUp_58 (by decide +kernel) hm_Ho_rowOfCode rfl rfl rfl rfl))))) (fun p35 => (zd_bipush (v := (-12)) a_Cl_setUp_50 (by decide)).trans (zd_iret a_Cl_setUp_52 rfl (znr_int _)))))))))))))))))))))))))))))))))))))
theorem B_Cl_setUp_61 {G : Nat → Nat → Int32} {x1 x2 x3 x4 x5 s0 : Int32} : zden 1 61 [.ref 1, .int x1, .int x2, .int x3, .int x4, .int x5, .retAddr 0] [.int s0] (zSH, G) = if s0 < 0 then if (G 2 3) ≤ 10 then zden 1 100 [.ref 1, .int x1, .int x2, .int x3, .int x4, .int x5, .int (G 2 3)] [] (zSH, G) else zaft 1 90 [.ref 1, .int x1, .int x2, .int x3, .int x4, .int x5, .retAddr 0] [] (zSH, G) (zden 2 0 [.ref 1, .int 1, .int 10] [] (zSH, G)) else zaft 1 70 [.ref 1, .int x1, .int x2, .int x3, .int x4, .int x5, .retAddr 0] [] (zSH, G) (zden 2 0 [.ref 1, .int 2, .int x1] [] (zSH, G)) :=
  (zd_if_lt a_Cl_setUp_61 rfl).trans (zitc (fun p36 => (zd_aload_n a_Cl_setUp_71 rfl).trans ((zd_getR (h := (zSH, G)) (ci := 0) (fi := 0) (a := 2) a_Cl_setUp_72 (by decide +kernel) sh_1 rfl rfl).trans ((zd_getI (h := (zSH, G)) (ci := 2) (fi := 3) a_Cl_setUp_75 (by decide +kernel) sh_2 rfl).trans ((zd_bipush (v := 10) a_Cl_setUp_78 (by decide)).trans ((zd_icmp_le a_Cl_setUp_80 rfl).trans (zitc (fun p37 => (zd_aload_n a_Cl_setUp_91 rfl).trans ((zd_getR (h := (zSH, G)) (ci := 0) (fi := 0) (a := 2) a_Cl_setUp_92 (by decide +kernel) sh_1 rfl rfl).trans ((zd_getI (h := (zSH, G)) (ci := 2) (fi := 3) a_Cl_setUp_95 (by decide +kernel) sh_2 rfl).trans ((zd_istore a_Cl_setUp_98 rfl rfl rfl))))) (fun p37 => (zd_aload_n a_Cl_setUp_83 rfl).trans ((zd_iconst (v := 1) a_Cl_setUp_84 (by decide)).trans ((zd_bipush (v := 10) a_Cl_setUp_85 (by decide)).trans ((zd_cal (kd := 0) (tg := 2) (T := m_Cl_refuse) a_Cl_setUp_87 (by decide +kernel) hm_Cl_refuse rfl rfl rfl rfl))))))))))) (fun p36 => (zd_aload_n a_Cl_setUp_64 rfl).trans ((zd_iconst (v := 2) a_Cl_setUp_65 (by decide)).trans ((zd_iload_n a_Cl_setUp_66 rfl).trans ((zd_cal (kd := 0) (tg := 2) (T := m_Cl_refuse) a_Cl_setUp_67 (by decide +kernel) hm_Cl_refuse rfl rfl rfl rfl))))))
theorem B_Cl_setUp_70 {G : Nat → Nat → Int32} {x1 x2 x3 x4 x5 s0 : Int32} : zden 1 70 [.ref 1, .int x1, .int x2, .int x3, .int x4, .int x5, .retAddr 0] [.int s0] (zSH, G) = some (some (.int s0), (zSH, G)) :=
  zd_iret a_Cl_setUp_70 rfl (znr_int _)
theorem B_Cl_setUp_90 {G : Nat → Nat → Int32} {x1 x2 x3 x4 x5 s0 : Int32} : zden 1 90 [.ref 1, .int x1, .int x2, .int x3, .int x4, .int x5, .retAddr 0] [.int s0] (zSH, G) = some (some (.int s0), (zSH, G)) :=
  zd_iret a_Cl_setUp_90 rfl (znr_int _)
theorem B_Cl_setUp_100 {G : Nat → Nat → Int32} {x1 x2 x3 x4 x5 x6 : Int32} : zden 1 100 [.ref 1, .int x1, .int x2, .int x3, .int x4, .int x5, .int x6] [] (zSH, G) = if x6 ≤ 0 then zden 1 146 [.ref 1, .int x1, .int x2, .int x3, .int x4, .int x5, .int x6] [] (zSH, G) else if (tget G 3 4 55 (x6 - 1) 4) ≤ x1 then zden 1 146 [.ref 1, .int x1, .int x2, .int x3, .int x4, .int x5, .int x6] [] (zSH, G) else zaft 1 140 [.ref 1, .int x1, .int x2, .int x3, .int x4, .int x5, .int x6] [] (zSH, G) (zden 54 0 [.ref 3, .int (x6 - 1), .int x6, .retAddr 0] [] (zSH, G)) :=
  (zd_iload a_Cl_setUp_100 rfl).trans ((zd_if_le a_Cl_setUp_102 rfl).trans (zitc (fun p38 => rfl) (fun p38 => (zd_aload_n a_Cl_setUp_105 rfl).trans ((zd_getR (h := (zSH, G)) (ci := 0) (fi := 0) (a := 2) a_Cl_setUp_106 (by decide +kernel) sh_1 rfl rfl).trans ((zd_getR (h := (zSH, G)) (ci := 2) (fi := 0) (a := 3) a_Cl_setUp_109 (by decide +kernel) sh_2 rfl rfl).trans ((zd_iload a_Cl_setUp_112 rfl).trans ((zd_iconst (v := 1) a_Cl_setUp_114 (by decide)).trans ((zd_num (st2 := [.int (x6 - 1), .ref 3]) a_Cl_setUp_115 rfl rfl rfl rfl).trans ((zd_iconst (v := 4) a_Cl_setUp_116 (by decide)).trans ((zd_cal (kd := 0) (tg := 53) (T := m_Ta_get) a_Cl_setUp_117 (by decide +kernel) hm_Ta_get rfl rfl rfl rfl).trans (((congrArg (zaft 1 120 [.ref 1, .int x1, .int x2, .int x3, .int x4, .int x5, .int x6] [] (zSH, G)) (sp_get (r := 3) (q := 4) (n := 55) sh_3 sh_4 rfl (by decide))).trans zaft_same).trans ((zd_iload_n a_Cl_setUp_120 rfl).trans ((zd_icmp_le a_Cl_setUp_121 rfl).trans (zitc (fun p39 => rfl) (fun p39 => (zd_aload_n a_Cl_setUp_124 rfl).trans ((zd_getR (h := (zSH, G)) (ci := 0) (fi := 0) (a := 2) a_Cl_setUp_125 (by decide +kernel) sh_1 rfl rfl).trans ((zd_getR (h := (zSH, G)) (ci := 2) (fi := 0) (a := 3) a_Cl_setUp_128 (by decide +kernel) sh_2 rfl rfl).trans ((zd_iload a_Cl_setUp_131 rfl).trans ((zd_iconst (v := 1) a_Cl_setUp_133 (by decide)).trans ((zd_num (st2 := [.int (x6 - 1), .ref 3]) a_Cl_setUp_134 rfl rfl rfl rfl).trans ((zd_iload a_Cl_setUp_135 rfl).trans ((zd_cal (kd := 0) (tg := 54) (T := m_Ta_copyRow) a_Cl_setUp_137 (by decide +kernel) hm_Ta_copyRow rfl rfl rfl rfl)))))))))))))))))))))))
theorem B_Cl_setUp_140 {G : Nat → Nat → Int32} {x1 x2 x3 x4 x5 x6 : Int32} : zden 1 140 [.ref 1, .int x1, .int x2, .int x3, .int x4, .int x5, .int x6] [] (zSH, G) = zden 1 100 [.ref 1, .int x1, .int x2, .int x3, .int x4, .int x5, .int (x6 + (-1))] [] (zSH, G) :=
  (zd_iinc (v := (-1)) a_Cl_setUp_140 rfl (by decide) rfl rfl rfl).trans ((zd_goto a_Cl_setUp_143 rfl))
theorem B_Cl_setUp_146 {G : Nat → Nat → Int32} {x1 x2 x3 x4 x5 x6 : Int32} : zden 1 146 [.ref 1, .int x1, .int x2, .int x3, .int x4, .int x5, .int x6] [] (zSH, G) = some (some (.int (((zup (tset (tset (tset (tset (tset G 3 4 55 x6 4 x1) 3 4 55 x6 0 x2) 3 4 55 x6 1 x3) 3 4 55 x6 2 x4) 3 4 55 x6 3 x5) 2 3 (((tset (tset (tset (tset (tset G 3 4 55 x6 4 x1) 3 4 55 x6 0 x2) 3 4 55 x6 1 x3) 3 4 55 x6 2 x4) 3 4 55 x6 3 x5) 2 3) + 1)) 2 3) - 1)), (zSH, (zup (tset (tset (tset (tset (tset G 3 4 55 x6 4 x1) 3 4 55 x6 0 x2) 3 4 55 x6 1 x3) 3 4 55 x6 2 x4) 3 4 55 x6 3 x5) 2 3 (((tset (tset (tset (tset (tset G 3 4 55 x6 4 x1) 3 4 55 x6 0 x2) 3 4 55 x6 1 x3) 3 4 55 x6 2 x4) 3 4 55 x6 3 x5) 2 3) + 1)))) :=
  (zd_aload_n a_Cl_setUp_146 rfl).trans ((zd_getR (h := (zSH, G)) (ci := 0) (fi := 0) (a := 2) a_Cl_setUp_147 (by decide +kernel) sh_1 rfl rfl).trans ((zd_getR (h := (zSH, G)) (ci := 2) (fi := 0) (a := 3) a_Cl_setUp_150 (by decide +kernel) sh_2 rfl rfl).trans ((zd_iload a_Cl_setUp_153 rfl).trans ((zd_iconst (v := 4) a_Cl_setUp_155 (by decide)).trans ((zd_iload_n a_Cl_setUp_156 rfl).trans ((zd_cal (kd := 0) (tg := 51) (T := m_Ta_set) a_Cl_setUp_157 (by decide +kernel) hm_Ta_set rfl rfl rfl rfl).trans (((congrArg (zaft 1 160 [.ref 1, .int x1, .int x2, .int x3, .int x4, .int x5, .int x6] [] (zSH, G)) (sp_set (r := 3) (q := 4) (n := 55) sh_3 sh_4 rfl (by decide))).trans zaft_same).trans ((zd_aload_n a_Cl_setUp_160 rfl).trans ((zd_getR (h := (zSH, (tset G 3 4 55 x6 4 x1))) (ci := 0) (fi := 0) (a := 2) a_Cl_setUp_161 (by decide +kernel) sh_1 rfl rfl).trans ((zd_getR (h := (zSH, (tset G 3 4 55 x6 4 x1))) (ci := 2) (fi := 0) (a := 3) a_Cl_setUp_164 (by decide +kernel) sh_2 rfl rfl).trans ((zd_iload a_Cl_setUp_167 rfl).trans ((zd_iconst (v := 0) a_Cl_setUp_169 (by decide)).trans ((zd_iload_n a_Cl_setUp_170 rfl).trans ((zd_cal (kd := 0) (tg := 51) (T := m_Ta_set) a_Cl_setUp_171 (by decide +kernel) hm_Ta_set rfl rfl rfl rfl).trans (((congrArg (zaft 1 174 [.ref 1, .int x1, .int x2, .int x3, .int x4, .int x5, .int x6] [] (zSH, (tset G 3 4 55 x6 4 x1))) (sp_set (r := 3) (q := 4) (n := 55) sh_3 sh_4 rfl (by decide))).trans zaft_same).trans ((zd_aload_n a_Cl_setUp_174 rfl).trans ((zd_getR (h := (zSH, (tset (tset G 3 4 55 x6 4 x1) 3 4 55 x6 0 x2))) (ci := 0) (fi := 0) (a := 2) a_Cl_setUp_175 (by decide +kernel) sh_1 rfl rfl).trans ((zd_getR (h := (zSH, (tset (tset G 3 4 55 x6 4 x1) 3 4 55 x6 0 x2))) (ci := 2) (fi := 0) (a := 3) a_Cl_setUp_178 (by decide +kernel) sh_2 rfl rfl).trans ((zd_iload a_Cl_setUp_181 rfl).trans ((zd_iconst (v := 1) a_Cl_setUp_183 (by decide)).trans ((zd_iload_n a_Cl_setUp_184 rfl).trans ((zd_cal (kd := 0) (tg := 51) (T := m_Ta_set) a_Cl_setUp_185 (by decide +kernel) hm_Ta_set rfl rfl rfl rfl).trans (((congrArg (zaft 1 188 [.ref 1, .int x1, .int x2, .int x3, .int x4, .int x5, .int x6] [] (zSH, (tset (tset G 3 4 55 x6 4 x1) 3 4 55 x6 0 x2))) (sp_set (r := 3) (q := 4) (n := 55) sh_3 sh_4 rfl (by decide))).trans zaft_same).trans ((zd_aload_n a_Cl_setUp_188 rfl).trans ((zd_getR (h := (zSH, (tset (tset (tset G 3 4 55 x6 4 x1) 3 4 55 x6 0 x2) 3 4 55 x6 1 x3))) (ci := 0) (fi := 0) (a := 2) a_Cl_setUp_189 (by decide +kernel) sh_1 rfl rfl).trans ((zd_getR (h := (zSH, (tset (tset (tset G 3 4 55 x6 4 x1) 3 4 55 x6 0 x2) 3 4 55 x6 1 x3))) (ci := 2) (fi := 0) (a := 3) a_Cl_setUp_192 (by decide +kernel) sh_2 rfl rfl).trans ((zd_iload a_Cl_setUp_195 rfl).trans ((zd_iconst (v := 2) a_Cl_setUp_197 (by decide)).trans ((zd_iload a_Cl_setUp_198 rfl).trans ((zd_cal (kd := 0) (tg := 51) (T := m_Ta_set) a_Cl_setUp_200 (by decide +kernel) hm_Ta_set rfl rfl rfl rfl).trans (((congrArg (zaft 1 203 [.ref 1, .int x1, .int x2, .int x3, .int x4, .int x5, .int x6] [] (zSH, (tset (tset (tset G 3 4 55 x6 4 x1) 3 4 55 x6 0 x2) 3 4 55 x6 1 x3))) (sp_set (r := 3) (q := 4) (n := 55) sh_3 sh_4 rfl (by decide))).trans zaft_same).trans ((zd_aload_n a_Cl_setUp_203 rfl).trans ((zd_getR (h := (zSH, (tset (tset (tset (tset G 3 4 55 x6 4 x1) 3 4 55 x6 0 x2) 3 4 55 x6 1 x3) 3 4 55 x6 2 x4))) (ci := 0) (fi := 0) (a := 2) a_Cl_setUp_204 (by decide +kernel) sh_1 rfl rfl).trans ((zd_getR (h := (zSH, (tset (tset (tset (tset G 3 4 55 x6 4 x1) 3 4 55 x6 0 x2) 3 4 55 x6 1 x3) 3 4 55 x6 2 x4))) (ci := 2) (fi := 0) (a := 3) a_Cl_setUp_207 (by decide +kernel) sh_2 rfl rfl).trans ((zd_iload a_Cl_setUp_210 rfl).trans ((zd_iconst (v := 3) a_Cl_setUp_212 (by decide)).trans ((zd_iload a_Cl_setUp_213 rfl).trans ((zd_cal (kd := 0) (tg := 51) (T := m_Ta_set) a_Cl_setUp_215 (by decide +kernel) hm_Ta_set rfl rfl rfl rfl).trans (((congrArg (zaft 1 218 [.ref 1, .int x1, .int x2, .int x3, .int x4, .int x5, .int x6] [] (zSH, (tset (tset (tset (tset G 3 4 55 x6 4 x1) 3 4 55 x6 0 x2) 3 4 55 x6 1 x3) 3 4 55 x6 2 x4))) (sp_set (r := 3) (q := 4) (n := 55) sh_3 sh_4 rfl (by decide))).trans zaft_same).trans ((zd_aload_n a_Cl_setUp_218 rfl).trans ((zd_getR (h := (zSH, (tset (tset (tset (tset (tset G 3 4 55 x6 4 x1) 3 4 55 x6 0 x2) 3 4 55 x6 1 x3) 3 4 55 x6 2 x4) 3 4 55 x6 3 x5))) (ci := 0) (fi := 0) (a := 2) a_Cl_setUp_219 (by decide +kernel) sh_1 rfl rfl).trans ((zd_num (st2 := [.ref 2, .ref 2]) a_Cl_setUp_222 rfl rfl rfl rfl).trans ((zd_getI (h := (zSH, (tset (tset (tset (tset (tset G 3 4 55 x6 4 x1) 3 4 55 x6 0 x2) 3 4 55 x6 1 x3) 3 4 55 x6 2 x4) 3 4 55 x6 3 x5))) (ci := 2) (fi := 3) a_Cl_setUp_223 (by decide +kernel) sh_2 rfl).trans ((zd_iconst (v := 1) a_Cl_setUp_226 (by decide)).trans ((zd_num (st2 := [.int (((tset (tset (tset (tset (tset G 3 4 55 x6 4 x1) 3 4 55 x6 0 x2) 3 4 55 x6 1 x3) 3 4 55 x6 2 x4) 3 4 55 x6 3 x5) 2 3) + 1), .ref 2]) a_Cl_setUp_227 rfl rfl rfl rfl).trans ((zd_putI (h := (zSH, (tset (tset (tset (tset (tset G 3 4 55 x6 4 x1) 3 4 55 x6 0 x2) 3 4 55 x6 1 x3) 3 4 55 x6 2 x4) 3 4 55 x6 3 x5))) (ci := 2) (fi := 3) a_Cl_setUp_228 (by decide +kernel) sh_2 rfl rfl).trans ((zd_aload_n a_Cl_setUp_231 rfl).trans ((zd_getR (h := (zSH, (zup (tset (tset (tset (tset (tset G 3 4 55 x6 4 x1) 3 4 55 x6 0 x2) 3 4 55 x6 1 x3) 3 4 55 x6 2 x4) 3 4 55 x6 3 x5) 2 3 (((tset (tset (tset (tset (tset G 3 4 55 x6 4 x1) 3 4 55 x6 0 x2) 3 4 55 x6 1 x3) 3 4 55 x6 2 x4) 3 4 55 x6 3 x5) 2 3) + 1)))) (ci := 0) (fi := 0) (a := 2) a_Cl_setUp_232 (by decide +kernel) sh_1 rfl rfl).trans ((zd_getI (h := (zSH, (zup (tset (tset (tset (tset (tset G 3 4 55 x6 4 x1) 3 4 55 x6 0 x2) 3 4 55 x6 1 x3) 3 4 55 x6 2 x4) 3 4 55 x6 3 x5) 2 3 (((tset (tset (tset (tset (tset G 3 4 55 x6 4 x1) 3 4 55 x6 0 x2) 3 4 55 x6 1 x3) 3 4 55 x6 2 x4) 3 4 55 x6 3 x5) 2 3) + 1)))) (ci := 2) (fi := 3) a_Cl_setUp_235 (by decide +kernel) sh_2 rfl).trans ((zd_iconst (v := 1) a_Cl_setUp_238 (by decide)).trans ((zd_num (st2 := [.int (((zup (tset (tset (tset (tset (tset G 3 4 55 x6 4 x1) 3 4 55 x6 0 x2) 3 4 55 x6 1 x3) 3 4 55 x6 2 x4) 3 4 55 x6 3 x5) 2 3 (((tset (tset (tset (tset (tset G 3 4 55 x6 4 x1) 3 4 55 x6 0 x2) 3 4 55 x6 1 x3) 3 4 55 x6 2 x4) 3 4 55 x6 3 x5) 2 3) + 1)) 2 3) - 1)]) a_Cl_setUp_239 rfl rfl rfl rfl).trans (zd_iret a_Cl_setUp_240 rfl (znr_int _)))))))))))))))))))))))))))))))))))))))))))))))))))))
theorem a_Cl_strikeOut_0 : zAt 3 0 m_Cl_strikeOut (.aload_n 0) 1 := ⟨hm_Cl_strikeOut, by decide +kernel⟩
theorem a_Cl_strikeOut_1 : zAt 3 1 m_Cl_strikeOut (.getfield 12) 3 := ⟨hm_Cl_strikeOut, by decide +kernel⟩
theorem a_Cl_strikeOut_4 : zAt 3 4 m_Cl_strikeOut (.iload_n 1) 1 := ⟨hm_Cl_strikeOut, by decide +kernel⟩
theorem a_Cl_strikeOut_5 : zAt 3 5 m_Cl_strikeOut (.invokevirtual 29) 3 := ⟨hm_Cl_strikeOut, by decide +kernel⟩
theorem a_Cl_strikeOut_8 : zAt 3 8 m_Cl_strikeOut (.istore_n 2) 1 := ⟨hm_Cl_strikeOut, by decide +kernel⟩
theorem a_Cl_strikeOut_9 : zAt 3 9 m_Cl_strikeOut (.iload_n 2) 1 := ⟨hm_Cl_strikeOut, by decide +kernel⟩
theorem a_Cl_strikeOut_10 : zAt 3 10 m_Cl_strikeOut (.ifCond .lt 9) 3 := ⟨hm_Cl_strikeOut, by decide +kernel⟩
theorem a_Cl_strikeOut_13 : zAt 3 13 m_Cl_strikeOut (.iload_n 1) 1 := ⟨hm_Cl_strikeOut, by decide +kernel⟩
theorem a_Cl_strikeOut_14 : zAt 3 14 m_Cl_strikeOut (.bipush 99) 2 := ⟨hm_Cl_strikeOut, by decide +kernel⟩
theorem a_Cl_strikeOut_16 : zAt 3 16 m_Cl_strikeOut (.if_icmp .ne 6) 3 := ⟨hm_Cl_strikeOut, by decide +kernel⟩
theorem a_Cl_strikeOut_19 : zAt 3 19 m_Cl_strikeOut (.bipush (-11)) 2 := ⟨hm_Cl_strikeOut, by decide +kernel⟩
theorem a_Cl_strikeOut_21 : zAt 3 21 m_Cl_strikeOut (.ireturn) 1 := ⟨hm_Cl_strikeOut, by decide +kernel⟩
theorem a_Cl_strikeOut_22 : zAt 3 22 m_Cl_strikeOut (.aload_n 0) 1 := ⟨hm_Cl_strikeOut, by decide +kernel⟩
theorem a_Cl_strikeOut_23 : zAt 3 23 m_Cl_strikeOut (.getfield 12) 3 := ⟨hm_Cl_strikeOut, by decide +kernel⟩
theorem a_Cl_strikeOut_26 : zAt 3 26 m_Cl_strikeOut (.dup) 1 := ⟨hm_Cl_strikeOut, by decide +kernel⟩
theorem a_Cl_strikeOut_27 : zAt 3 27 m_Cl_strikeOut (.getfield 37) 3 := ⟨hm_Cl_strikeOut, by decide +kernel⟩
theorem a_Cl_strikeOut_30 : zAt 3 30 m_Cl_strikeOut (.iconst 1) 1 := ⟨hm_Cl_strikeOut, by decide +kernel⟩
theorem a_Cl_strikeOut_31 : zAt 3 31 m_Cl_strikeOut (.isub) 1 := ⟨hm_Cl_strikeOut, by decide +kernel⟩
theorem a_Cl_strikeOut_32 : zAt 3 32 m_Cl_strikeOut (.putfield 37) 3 := ⟨hm_Cl_strikeOut, by decide +kernel⟩
theorem a_Cl_strikeOut_35 : zAt 3 35 m_Cl_strikeOut (.iload_n 2) 1 := ⟨hm_Cl_strikeOut, by decide +kernel⟩
theorem a_Cl_strikeOut_36 : zAt 3 36 m_Cl_strikeOut (.istore_n 3) 1 := ⟨hm_Cl_strikeOut, by decide +kernel⟩
theorem a_Cl_strikeOut_37 : zAt 3 37 m_Cl_strikeOut (.iload_n 3) 1 := ⟨hm_Cl_strikeOut, by decide +kernel⟩
theorem a_Cl_strikeOut_38 : zAt 3 38 m_Cl_strikeOut (.aload_n 0) 1 := ⟨hm_Cl_strikeOut, by decide +kernel⟩
theorem a_Cl_strikeOut_39 : zAt 3 39 m_Cl_strikeOut (.getfield 12) 3 := ⟨hm_Cl_strikeOut, by decide +kernel⟩
theorem a_Cl_strikeOut_42 : zAt 3 42 m_Cl_strikeOut (.getfield 37) 3 := ⟨hm_Cl_strikeOut, by decide +kernel⟩
theorem a_Cl_strikeOut_45 : zAt 3 45 m_Cl_strikeOut (.if_icmp .ge 23) 3 := ⟨hm_Cl_strikeOut, by decide +kernel⟩
theorem a_Cl_strikeOut_48 : zAt 3 48 m_Cl_strikeOut (.aload_n 0) 1 := ⟨hm_Cl_strikeOut, by decide +kernel⟩
theorem a_Cl_strikeOut_49 : zAt 3 49 m_Cl_strikeOut (.getfield 12) 3 := ⟨hm_Cl_strikeOut, by decide +kernel⟩
theorem a_Cl_strikeOut_52 : zAt 3 52 m_Cl_strikeOut (.getfield 40) 3 := ⟨hm_Cl_strikeOut, by decide +kernel⟩
theorem a_Cl_strikeOut_55 : zAt 3 55 m_Cl_strikeOut (.iload_n 3) 1 := ⟨hm_Cl_strikeOut, by decide +kernel⟩
theorem a_Cl_strikeOut_56 : zAt 3 56 m_Cl_strikeOut (.iconst 1) 1 := ⟨hm_Cl_strikeOut, by decide +kernel⟩
theorem a_Cl_strikeOut_57 : zAt 3 57 m_Cl_strikeOut (.iadd) 1 := ⟨hm_Cl_strikeOut, by decide +kernel⟩
theorem a_Cl_strikeOut_58 : zAt 3 58 m_Cl_strikeOut (.iload_n 3) 1 := ⟨hm_Cl_strikeOut, by decide +kernel⟩
theorem a_Cl_strikeOut_59 : zAt 3 59 m_Cl_strikeOut (.invokevirtual 49) 3 := ⟨hm_Cl_strikeOut, by decide +kernel⟩
theorem a_Cl_strikeOut_62 : zAt 3 62 m_Cl_strikeOut (.iinc 3 1) 3 := ⟨hm_Cl_strikeOut, by decide +kernel⟩
theorem a_Cl_strikeOut_65 : zAt 3 65 m_Cl_strikeOut (.goto (-28)) 3 := ⟨hm_Cl_strikeOut, by decide +kernel⟩
theorem a_Cl_strikeOut_68 : zAt 3 68 m_Cl_strikeOut (.aload_n 0) 1 := ⟨hm_Cl_strikeOut, by decide +kernel⟩
theorem a_Cl_strikeOut_69 : zAt 3 69 m_Cl_strikeOut (.getfield 12) 3 := ⟨hm_Cl_strikeOut, by decide +kernel⟩
theorem a_Cl_strikeOut_72 : zAt 3 72 m_Cl_strikeOut (.getfield 37) 3 := ⟨hm_Cl_strikeOut, by decide +kernel⟩
theorem a_Cl_strikeOut_75 : zAt 3 75 m_Cl_strikeOut (.iconst 1) 1 := ⟨hm_Cl_strikeOut, by decide +kernel⟩
theorem a_Cl_strikeOut_76 : zAt 3 76 m_Cl_strikeOut (.isub) 1 := ⟨hm_Cl_strikeOut, by decide +kernel⟩
theorem a_Cl_strikeOut_77 : zAt 3 77 m_Cl_strikeOut (.ireturn) 1 := ⟨hm_Cl_strikeOut, by decide +kernel⟩
theorem B_Cl_strikeOut_0 {G : Nat → Nat → Int32} {x1 : Int32} : zden 3 0 [.ref 1, .int x1, .retAddr 0, .retAddr 0] [] (zSH, G) = zaft 3 8 [.ref 1, .int x1, .retAddr 0, .retAddr 0] [] (zSH, G) (zden 22 0 [.ref 2, .int x1, .retAddr 0] [] (zSH, G)) :=
  (zd_aload_n a_Cl_strikeOut_0 rfl).trans ((zd_getR (h := (zSH, G)) (ci := 0) (fi := 0) (a := 2) a_Cl_strikeOut_1 (by decide +kernel) sh_1 rfl rfl).trans ((zd_iload_n a_Cl_strikeOut_4 rfl).trans ((zd_cal (kd := 0) (tg := 22) (T := m_Ho_rowOfCode) a_Cl_strikeOut_5 (by decide +kernel) hm_Ho_rowOfCode rfl rfl rfl rfl))))
theorem B_Cl_strikeOut_8 {G : Nat → Nat → Int32} {x1 s0 : Int32} : zden 3 8 [.ref 1, .int x1, .retAddr 0, .retAddr 0] [.int s0] (zSH, G) = if s0 < 0 then some (some (.int (-11)), (zSH, G)) else if ¬ x1 = 99 then zden 3 37 [.ref 1, .int x1, .int s0, .int s0] [] (zSH, (zup G 2 3 ((G 2 3) - 1))) else some (some (.int (-11)), (zSH, G)) :=
  (zd_istore_n a_Cl_strikeOut_8 rfl rfl rfl).trans ((zd_iload_n a_Cl_strikeOut_9 rfl).trans ((zd_if_lt a_Cl_strikeOut_10 rfl).trans (zitc (fun p9 => (zd_bipush (v := (-11)) a_Cl_strikeOut_19 (by decide)).trans (zd_iret a_Cl_strikeOut_21 rfl (znr_int _))) (fun p9 => (zd_iload_n a_Cl_strikeOut_13 rfl).trans ((zd_bipush (v := 99) a_Cl_strikeOut_14 (by decide)).trans ((zd_icmp_ne a_Cl_strikeOut_16 rfl).trans (zitc (fun p10 => (zd_aload_n a_Cl_strikeOut_22 rfl).trans ((zd_getR (h := (zSH, G)) (ci := 0) (fi := 0) (a := 2) a_Cl_strikeOut_23 (by decide +kernel) sh_1 rfl rfl).trans ((zd_num (st2 := [.ref 2, .ref 2]) a_Cl_strikeOut_26 rfl rfl rfl rfl).trans ((zd_getI (h := (zSH, G)) (ci := 2) (fi := 3) a_Cl_strikeOut_27 (by decide +kernel) sh_2 rfl).trans ((zd_iconst (v := 1) a_Cl_strikeOut_30 (by decide)).trans ((zd_num (st2 := [.int ((G 2 3) - 1), .ref 2]) a_Cl_strikeOut_31 rfl rfl rfl rfl).trans ((zd_putI (h := (zSH, G)) (ci := 2) (fi := 3) a_Cl_strikeOut_32 (by decide +kernel) sh_2 rfl rfl).trans ((zd_iload_n a_Cl_strikeOut_35 rfl).trans ((zd_istore_n a_Cl_strikeOut_36 rfl rfl rfl)))))))))) (fun p10 => (zd_bipush (v := (-11)) a_Cl_strikeOut_19 (by decide)).trans (zd_iret a_Cl_strikeOut_21 rfl (znr_int _))))))))))
theorem B_Cl_strikeOut_37 {G : Nat → Nat → Int32} {x1 x2 x3 : Int32} : zden 3 37 [.ref 1, .int x1, .int x2, .int x3] [] (zSH, G) = if (G 2 3) ≤ x3 then some (some (.int ((G 2 3) - 1)), (zSH, G)) else zaft 3 62 [.ref 1, .int x1, .int x2, .int x3] [] (zSH, G) (zden 54 0 [.ref 3, .int (x3 + 1), .int x3, .retAddr 0] [] (zSH, G)) :=
  (zd_iload_n a_Cl_strikeOut_37 rfl).trans ((zd_aload_n a_Cl_strikeOut_38 rfl).trans ((zd_getR (h := (zSH, G)) (ci := 0) (fi := 0) (a := 2) a_Cl_strikeOut_39 (by decide +kernel) sh_1 rfl rfl).trans ((zd_getI (h := (zSH, G)) (ci := 2) (fi := 3) a_Cl_strikeOut_42 (by decide +kernel) sh_2 rfl).trans ((zd_icmp_ge a_Cl_strikeOut_45 rfl).trans (zitc (fun p11 => (zd_aload_n a_Cl_strikeOut_68 rfl).trans ((zd_getR (h := (zSH, G)) (ci := 0) (fi := 0) (a := 2) a_Cl_strikeOut_69 (by decide +kernel) sh_1 rfl rfl).trans ((zd_getI (h := (zSH, G)) (ci := 2) (fi := 3) a_Cl_strikeOut_72 (by decide +kernel) sh_2 rfl).trans ((zd_iconst (v := 1) a_Cl_strikeOut_75 (by decide)).trans ((zd_num (st2 := [.int ((G 2 3) - 1)]) a_Cl_strikeOut_76 rfl rfl rfl rfl).trans (zd_iret a_Cl_strikeOut_77 rfl (znr_int _))))))) (fun p11 => (zd_aload_n a_Cl_strikeOut_48 rfl).trans ((zd_getR (h := (zSH, G)) (ci := 0) (fi := 0) (a := 2) a_Cl_strikeOut_49 (by decide +kernel) sh_1 rfl rfl).trans ((zd_getR (h := (zSH, G)) (ci := 2) (fi := 0) (a := 3) a_Cl_strikeOut_52 (by decide +kernel) sh_2 rfl rfl).trans ((zd_iload_n a_Cl_strikeOut_55 rfl).trans ((zd_iconst (v := 1) a_Cl_strikeOut_56 (by decide)).trans ((zd_num (st2 := [.int (x3 + 1), .ref 3]) a_Cl_strikeOut_57 rfl rfl rfl rfl).trans ((zd_iload_n a_Cl_strikeOut_58 rfl).trans ((zd_cal (kd := 0) (tg := 54) (T := m_Ta_copyRow) a_Cl_strikeOut_59 (by decide +kernel) hm_Ta_copyRow rfl rfl rfl rfl))))))))))))))
theorem B_Cl_strikeOut_62 {G : Nat → Nat → Int32} {x1 x2 x3 : Int32} : zden 3 62 [.ref 1, .int x1, .int x2, .int x3] [] (zSH, G) = zden 3 37 [.ref 1, .int x1, .int x2, .int (x3 + 1)] [] (zSH, G) :=
  (zd_iinc (v := 1) a_Cl_strikeOut_62 rfl (by decide) rfl rfl rfl).trans ((zd_goto a_Cl_strikeOut_65 rfl))
theorem a_Cl_takeIn_0 : zAt 4 0 m_Cl_takeIn (.iload_n 1) 1 := ⟨hm_Cl_takeIn, by decide +kernel⟩
theorem a_Cl_takeIn_1 : zAt 4 1 m_Cl_takeIn (.iconst 0) 1 := ⟨hm_Cl_takeIn, by decide +kernel⟩
theorem a_Cl_takeIn_2 : zAt 4 2 m_Cl_takeIn (.iconst 2) 1 := ⟨hm_Cl_takeIn, by decide +kernel⟩
theorem a_Cl_takeIn_3 : zAt 4 3 m_Cl_takeIn (.invokestatic 25) 3 := ⟨hm_Cl_takeIn, by decide +kernel⟩
theorem a_Cl_takeIn_6 : zAt 4 6 m_Cl_takeIn (.ifCond .eq 70) 3 := ⟨hm_Cl_takeIn, by decide +kernel⟩
theorem a_Cl_takeIn_9 : zAt 4 9 m_Cl_takeIn (.iload_n 2) 1 := ⟨hm_Cl_takeIn, by decide +kernel⟩
theorem a_Cl_takeIn_10 : zAt 4 10 m_Cl_takeIn (.iconst 1) 1 := ⟨hm_Cl_takeIn, by decide +kernel⟩
theorem a_Cl_takeIn_11 : zAt 4 11 m_Cl_takeIn (.bipush 99) 2 := ⟨hm_Cl_takeIn, by decide +kernel⟩
theorem a_Cl_takeIn_13 : zAt 4 13 m_Cl_takeIn (.invokestatic 25) 3 := ⟨hm_Cl_takeIn, by decide +kernel⟩
theorem a_Cl_takeIn_16 : zAt 4 16 m_Cl_takeIn (.ifCond .eq 60) 3 := ⟨hm_Cl_takeIn, by decide +kernel⟩
theorem a_Cl_takeIn_19 : zAt 4 19 m_Cl_takeIn (.iload_n 3) 1 := ⟨hm_Cl_takeIn, by decide +kernel⟩
theorem a_Cl_takeIn_20 : zAt 4 20 m_Cl_takeIn (.iconst 1) 1 := ⟨hm_Cl_takeIn, by decide +kernel⟩
theorem a_Cl_takeIn_21 : zAt 4 21 m_Cl_takeIn (.sipush 999) 3 := ⟨hm_Cl_takeIn, by decide +kernel⟩
theorem a_Cl_takeIn_24 : zAt 4 24 m_Cl_takeIn (.invokestatic 25) 3 := ⟨hm_Cl_takeIn, by decide +kernel⟩
theorem a_Cl_takeIn_27 : zAt 4 27 m_Cl_takeIn (.ifCond .eq 49) 3 := ⟨hm_Cl_takeIn, by decide +kernel⟩
theorem a_Cl_takeIn_30 : zAt 4 30 m_Cl_takeIn (.iload 4) 2 := ⟨hm_Cl_takeIn, by decide +kernel⟩
theorem a_Cl_takeIn_32 : zAt 4 32 m_Cl_takeIn (.iconst 0) 1 := ⟨hm_Cl_takeIn, by decide +kernel⟩
theorem a_Cl_takeIn_33 : zAt 4 33 m_Cl_takeIn (.bipush 100) 2 := ⟨hm_Cl_takeIn, by decide +kernel⟩
theorem a_Cl_takeIn_35 : zAt 4 35 m_Cl_takeIn (.invokestatic 25) 3 := ⟨hm_Cl_takeIn, by decide +kernel⟩
theorem a_Cl_takeIn_38 : zAt 4 38 m_Cl_takeIn (.ifCond .eq 38) 3 := ⟨hm_Cl_takeIn, by decide +kernel⟩
theorem a_Cl_takeIn_41 : zAt 4 41 m_Cl_takeIn (.iload 5) 2 := ⟨hm_Cl_takeIn, by decide +kernel⟩
theorem a_Cl_takeIn_43 : zAt 4 43 m_Cl_takeIn (.iconst 0) 1 := ⟨hm_Cl_takeIn, by decide +kernel⟩
theorem a_Cl_takeIn_44 : zAt 4 44 m_Cl_takeIn (.bipush 100) 2 := ⟨hm_Cl_takeIn, by decide +kernel⟩
theorem a_Cl_takeIn_46 : zAt 4 46 m_Cl_takeIn (.invokestatic 25) 3 := ⟨hm_Cl_takeIn, by decide +kernel⟩
theorem a_Cl_takeIn_49 : zAt 4 49 m_Cl_takeIn (.ifCond .eq 27) 3 := ⟨hm_Cl_takeIn, by decide +kernel⟩
theorem a_Cl_takeIn_52 : zAt 4 52 m_Cl_takeIn (.iload 6) 2 := ⟨hm_Cl_takeIn, by decide +kernel⟩
theorem a_Cl_takeIn_54 : zAt 4 54 m_Cl_takeIn (.iconst 0) 1 := ⟨hm_Cl_takeIn, by decide +kernel⟩
theorem a_Cl_takeIn_55 : zAt 4 55 m_Cl_takeIn (.bipush 100) 2 := ⟨hm_Cl_takeIn, by decide +kernel⟩
theorem a_Cl_takeIn_57 : zAt 4 57 m_Cl_takeIn (.invokestatic 25) 3 := ⟨hm_Cl_takeIn, by decide +kernel⟩
theorem a_Cl_takeIn_60 : zAt 4 60 m_Cl_takeIn (.ifCond .eq 16) 3 := ⟨hm_Cl_takeIn, by decide +kernel⟩
theorem a_Cl_takeIn_63 : zAt 4 63 m_Cl_takeIn (.iload 4) 2 := ⟨hm_Cl_takeIn, by decide +kernel⟩
theorem a_Cl_takeIn_65 : zAt 4 65 m_Cl_takeIn (.iload 5) 2 := ⟨hm_Cl_takeIn, by decide +kernel⟩
theorem a_Cl_takeIn_67 : zAt 4 67 m_Cl_takeIn (.iadd) 1 := ⟨hm_Cl_takeIn, by decide +kernel⟩
theorem a_Cl_takeIn_68 : zAt 4 68 m_Cl_takeIn (.iload 6) 2 := ⟨hm_Cl_takeIn, by decide +kernel⟩
theorem a_Cl_takeIn_70 : zAt 4 70 m_Cl_takeIn (.iadd) 1 := ⟨hm_Cl_takeIn, by decide +kernel⟩
theorem a_Cl_takeIn_71 : zAt 4 71 m_Cl_takeIn (.bipush 100) 2 := ⟨hm_Cl_takeIn, by decide +kernel⟩
theorem a_Cl_takeIn_73 : zAt 4 73 m_Cl_takeIn (.if_icmp .le 6) 3 := ⟨hm_Cl_takeIn, by decide +kernel⟩
theorem a_Cl_takeIn_76 : zAt 4 76 m_Cl_takeIn (.bipush (-12)) 2 := ⟨hm_Cl_takeIn, by decide +kernel⟩
theorem a_Cl_takeIn_78 : zAt 4 78 m_Cl_takeIn (.ireturn) 1 := ⟨hm_Cl_takeIn, by decide +kernel⟩
theorem a_Cl_takeIn_79 : zAt 4 79 m_Cl_takeIn (.aload_n 0) 1 := ⟨hm_Cl_takeIn, by decide +kernel⟩
theorem a_Cl_takeIn_80 : zAt 4 80 m_Cl_takeIn (.getfield 12) 3 := ⟨hm_Cl_takeIn, by decide +kernel⟩
theorem a_Cl_takeIn_83 : zAt 4 83 m_Cl_takeIn (.getfield 57) 3 := ⟨hm_Cl_takeIn, by decide +kernel⟩
theorem a_Cl_takeIn_86 : zAt 4 86 m_Cl_takeIn (.istore 7) 2 := ⟨hm_Cl_takeIn, by decide +kernel⟩
theorem a_Cl_takeIn_88 : zAt 4 88 m_Cl_takeIn (.iload 7) 2 := ⟨hm_Cl_takeIn, by decide +kernel⟩
theorem a_Cl_takeIn_90 : zAt 4 90 m_Cl_takeIn (.bipush 12) 2 := ⟨hm_Cl_takeIn, by decide +kernel⟩
theorem a_Cl_takeIn_92 : zAt 4 92 m_Cl_takeIn (.if_icmp .lt 11) 3 := ⟨hm_Cl_takeIn, by decide +kernel⟩
theorem a_Cl_takeIn_95 : zAt 4 95 m_Cl_takeIn (.aload_n 0) 1 := ⟨hm_Cl_takeIn, by decide +kernel⟩
theorem a_Cl_takeIn_96 : zAt 4 96 m_Cl_takeIn (.iconst 1) 1 := ⟨hm_Cl_takeIn, by decide +kernel⟩
theorem a_Cl_takeIn_97 : zAt 4 97 m_Cl_takeIn (.iload 7) 2 := ⟨hm_Cl_takeIn, by decide +kernel⟩
theorem a_Cl_takeIn_99 : zAt 4 99 m_Cl_takeIn (.invokevirtual 33) 3 := ⟨hm_Cl_takeIn, by decide +kernel⟩
theorem a_Cl_takeIn_102 : zAt 4 102 m_Cl_takeIn (.ireturn) 1 := ⟨hm_Cl_takeIn, by decide +kernel⟩
theorem a_Cl_takeIn_103 : zAt 4 103 m_Cl_takeIn (.aload_n 0) 1 := ⟨hm_Cl_takeIn, by decide +kernel⟩
theorem a_Cl_takeIn_104 : zAt 4 104 m_Cl_takeIn (.getfield 12) 3 := ⟨hm_Cl_takeIn, by decide +kernel⟩
theorem a_Cl_takeIn_107 : zAt 4 107 m_Cl_takeIn (.getfield 60) 3 := ⟨hm_Cl_takeIn, by decide +kernel⟩
theorem a_Cl_takeIn_110 : zAt 4 110 m_Cl_takeIn (.astore 8) 2 := ⟨hm_Cl_takeIn, by decide +kernel⟩
theorem a_Cl_takeIn_112 : zAt 4 112 m_Cl_takeIn (.aload 8) 2 := ⟨hm_Cl_takeIn, by decide +kernel⟩
theorem a_Cl_takeIn_114 : zAt 4 114 m_Cl_takeIn (.iload 7) 2 := ⟨hm_Cl_takeIn, by decide +kernel⟩
theorem a_Cl_takeIn_116 : zAt 4 116 m_Cl_takeIn (.iconst 0) 1 := ⟨hm_Cl_takeIn, by decide +kernel⟩
theorem a_Cl_takeIn_117 : zAt 4 117 m_Cl_takeIn (.iload_n 1) 1 := ⟨hm_Cl_takeIn, by decide +kernel⟩
theorem a_Cl_takeIn_118 : zAt 4 118 m_Cl_takeIn (.invokevirtual 53) 3 := ⟨hm_Cl_takeIn, by decide +kernel⟩
theorem a_Cl_takeIn_121 : zAt 4 121 m_Cl_takeIn (.aload 8) 2 := ⟨hm_Cl_takeIn, by decide +kernel⟩
theorem a_Cl_takeIn_123 : zAt 4 123 m_Cl_takeIn (.iload 7) 2 := ⟨hm_Cl_takeIn, by decide +kernel⟩
theorem a_Cl_takeIn_125 : zAt 4 125 m_Cl_takeIn (.iconst 1) 1 := ⟨hm_Cl_takeIn, by decide +kernel⟩
theorem a_Cl_takeIn_126 : zAt 4 126 m_Cl_takeIn (.iload_n 2) 1 := ⟨hm_Cl_takeIn, by decide +kernel⟩
theorem a_Cl_takeIn_127 : zAt 4 127 m_Cl_takeIn (.invokevirtual 53) 3 := ⟨hm_Cl_takeIn, by decide +kernel⟩
theorem a_Cl_takeIn_130 : zAt 4 130 m_Cl_takeIn (.aload 8) 2 := ⟨hm_Cl_takeIn, by decide +kernel⟩
theorem a_Cl_takeIn_132 : zAt 4 132 m_Cl_takeIn (.iload 7) 2 := ⟨hm_Cl_takeIn, by decide +kernel⟩
theorem a_Cl_takeIn_134 : zAt 4 134 m_Cl_takeIn (.iconst 2) 1 := ⟨hm_Cl_takeIn, by decide +kernel⟩
theorem a_Cl_takeIn_135 : zAt 4 135 m_Cl_takeIn (.iload_n 3) 1 := ⟨hm_Cl_takeIn, by decide +kernel⟩
theorem a_Cl_takeIn_136 : zAt 4 136 m_Cl_takeIn (.invokevirtual 53) 3 := ⟨hm_Cl_takeIn, by decide +kernel⟩
theorem a_Cl_takeIn_139 : zAt 4 139 m_Cl_takeIn (.aload 8) 2 := ⟨hm_Cl_takeIn, by decide +kernel⟩
theorem a_Cl_takeIn_141 : zAt 4 141 m_Cl_takeIn (.iload 7) 2 := ⟨hm_Cl_takeIn, by decide +kernel⟩
theorem a_Cl_takeIn_143 : zAt 4 143 m_Cl_takeIn (.iconst 3) 1 := ⟨hm_Cl_takeIn, by decide +kernel⟩
theorem a_Cl_takeIn_144 : zAt 4 144 m_Cl_takeIn (.iconst 0) 1 := ⟨hm_Cl_takeIn, by decide +kernel⟩
theorem a_Cl_takeIn_145 : zAt 4 145 m_Cl_takeIn (.invokevirtual 53) 3 := ⟨hm_Cl_takeIn, by decide +kernel⟩
theorem a_Cl_takeIn_148 : zAt 4 148 m_Cl_takeIn (.aload 8) 2 := ⟨hm_Cl_takeIn, by decide +kernel⟩
theorem a_Cl_takeIn_150 : zAt 4 150 m_Cl_takeIn (.iload 7) 2 := ⟨hm_Cl_takeIn, by decide +kernel⟩
theorem a_Cl_takeIn_152 : zAt 4 152 m_Cl_takeIn (.bipush 7) 2 := ⟨hm_Cl_takeIn, by decide +kernel⟩
theorem a_Cl_takeIn_154 : zAt 4 154 m_Cl_takeIn (.bipush (-15)) 2 := ⟨hm_Cl_takeIn, by decide +kernel⟩
theorem a_Cl_takeIn_156 : zAt 4 156 m_Cl_takeIn (.invokevirtual 53) 3 := ⟨hm_Cl_takeIn, by decide +kernel⟩
theorem a_Cl_takeIn_159 : zAt 4 159 m_Cl_takeIn (.aload 8) 2 := ⟨hm_Cl_takeIn, by decide +kernel⟩
theorem a_Cl_takeIn_161 : zAt 4 161 m_Cl_takeIn (.iload 7) 2 := ⟨hm_Cl_takeIn, by decide +kernel⟩
theorem a_Cl_takeIn_163 : zAt 4 163 m_Cl_takeIn (.bipush 9) 2 := ⟨hm_Cl_takeIn, by decide +kernel⟩
theorem a_Cl_takeIn_165 : zAt 4 165 m_Cl_takeIn (.iload 4) 2 := ⟨hm_Cl_takeIn, by decide +kernel⟩
theorem a_Cl_takeIn_167 : zAt 4 167 m_Cl_takeIn (.invokevirtual 53) 3 := ⟨hm_Cl_takeIn, by decide +kernel⟩
theorem a_Cl_takeIn_170 : zAt 4 170 m_Cl_takeIn (.aload 8) 2 := ⟨hm_Cl_takeIn, by decide +kernel⟩
theorem a_Cl_takeIn_172 : zAt 4 172 m_Cl_takeIn (.iload 7) 2 := ⟨hm_Cl_takeIn, by decide +kernel⟩
theorem a_Cl_takeIn_174 : zAt 4 174 m_Cl_takeIn (.bipush 10) 2 := ⟨hm_Cl_takeIn, by decide +kernel⟩
theorem a_Cl_takeIn_176 : zAt 4 176 m_Cl_takeIn (.iload 5) 2 := ⟨hm_Cl_takeIn, by decide +kernel⟩
theorem a_Cl_takeIn_178 : zAt 4 178 m_Cl_takeIn (.invokevirtual 53) 3 := ⟨hm_Cl_takeIn, by decide +kernel⟩
theorem a_Cl_takeIn_181 : zAt 4 181 m_Cl_takeIn (.aload 8) 2 := ⟨hm_Cl_takeIn, by decide +kernel⟩
theorem a_Cl_takeIn_183 : zAt 4 183 m_Cl_takeIn (.iload 7) 2 := ⟨hm_Cl_takeIn, by decide +kernel⟩
theorem a_Cl_takeIn_185 : zAt 4 185 m_Cl_takeIn (.bipush 11) 2 := ⟨hm_Cl_takeIn, by decide +kernel⟩
theorem a_Cl_takeIn_187 : zAt 4 187 m_Cl_takeIn (.iload 6) 2 := ⟨hm_Cl_takeIn, by decide +kernel⟩
theorem a_Cl_takeIn_189 : zAt 4 189 m_Cl_takeIn (.invokevirtual 53) 3 := ⟨hm_Cl_takeIn, by decide +kernel⟩
theorem a_Cl_takeIn_192 : zAt 4 192 m_Cl_takeIn (.aload 8) 2 := ⟨hm_Cl_takeIn, by decide +kernel⟩
theorem a_Cl_takeIn_194 : zAt 4 194 m_Cl_takeIn (.iload 7) 2 := ⟨hm_Cl_takeIn, by decide +kernel⟩
theorem a_Cl_takeIn_196 : zAt 4 196 m_Cl_takeIn (.bipush 12) 2 := ⟨hm_Cl_takeIn, by decide +kernel⟩
theorem a_Cl_takeIn_198 : zAt 4 198 m_Cl_takeIn (.bipush 100) 2 := ⟨hm_Cl_takeIn, by decide +kernel⟩
theorem a_Cl_takeIn_200 : zAt 4 200 m_Cl_takeIn (.iload 4) 2 := ⟨hm_Cl_takeIn, by decide +kernel⟩
theorem a_Cl_takeIn_202 : zAt 4 202 m_Cl_takeIn (.isub) 1 := ⟨hm_Cl_takeIn, by decide +kernel⟩
theorem a_Cl_takeIn_203 : zAt 4 203 m_Cl_takeIn (.iload 5) 2 := ⟨hm_Cl_takeIn, by decide +kernel⟩
theorem a_Cl_takeIn_205 : zAt 4 205 m_Cl_takeIn (.isub) 1 := ⟨hm_Cl_takeIn, by decide +kernel⟩
theorem a_Cl_takeIn_206 : zAt 4 206 m_Cl_takeIn (.iload 6) 2 := ⟨hm_Cl_takeIn, by decide +kernel⟩
theorem a_Cl_takeIn_208 : zAt 4 208 m_Cl_takeIn (.isub) 1 := ⟨hm_Cl_takeIn, by decide +kernel⟩
theorem a_Cl_takeIn_209 : zAt 4 209 m_Cl_takeIn (.invokevirtual 53) 3 := ⟨hm_Cl_takeIn, by decide +kernel⟩
theorem a_Cl_takeIn_212 : zAt 4 212 m_Cl_takeIn (.aload 8) 2 := ⟨hm_Cl_takeIn, by decide +kernel⟩
theorem a_Cl_takeIn_214 : zAt 4 214 m_Cl_takeIn (.iload 7) 2 := ⟨hm_Cl_takeIn, by decide +kernel⟩
theorem a_Cl_takeIn_216 : zAt 4 216 m_Cl_takeIn (.iconst 4) 1 := ⟨hm_Cl_takeIn, by decide +kernel⟩
theorem a_Cl_takeIn_217 : zAt 4 217 m_Cl_takeIn (.aload_n 0) 1 := ⟨hm_Cl_takeIn, by decide +kernel⟩
theorem a_Cl_takeIn_218 : zAt 4 218 m_Cl_takeIn (.iload 7) 2 := ⟨hm_Cl_takeIn, by decide +kernel⟩
theorem a_Cl_takeIn_220 : zAt 4 220 m_Cl_takeIn (.invokevirtual 63) 3 := ⟨hm_Cl_takeIn, by decide +kernel⟩
theorem a_Cl_takeIn_223 : zAt 4 223 m_Cl_takeIn (.invokevirtual 53) 3 := ⟨hm_Cl_takeIn, by decide +kernel⟩
theorem a_Cl_takeIn_226 : zAt 4 226 m_Cl_takeIn (.aload_n 0) 1 := ⟨hm_Cl_takeIn, by decide +kernel⟩
theorem a_Cl_takeIn_227 : zAt 4 227 m_Cl_takeIn (.getfield 12) 3 := ⟨hm_Cl_takeIn, by decide +kernel⟩
theorem a_Cl_takeIn_230 : zAt 4 230 m_Cl_takeIn (.dup) 1 := ⟨hm_Cl_takeIn, by decide +kernel⟩
theorem a_Cl_takeIn_231 : zAt 4 231 m_Cl_takeIn (.getfield 57) 3 := ⟨hm_Cl_takeIn, by decide +kernel⟩
theorem a_Cl_takeIn_234 : zAt 4 234 m_Cl_takeIn (.iconst 1) 1 := ⟨hm_Cl_takeIn, by decide +kernel⟩
theorem a_Cl_takeIn_235 : zAt 4 235 m_Cl_takeIn (.iadd) 1 := ⟨hm_Cl_takeIn, by decide +kernel⟩
theorem a_Cl_takeIn_236 : zAt 4 236 m_Cl_takeIn (.putfield 57) 3 := ⟨hm_Cl_takeIn, by decide +kernel⟩
theorem a_Cl_takeIn_239 : zAt 4 239 m_Cl_takeIn (.iload 7) 2 := ⟨hm_Cl_takeIn, by decide +kernel⟩
theorem a_Cl_takeIn_241 : zAt 4 241 m_Cl_takeIn (.ireturn) 1 := ⟨hm_Cl_takeIn, by decide +kernel⟩
theorem B_Cl_takeIn_0 {G : Nat → Nat → Int32} {x1 x2 x3 x4 x5 x6 : Int32} : zden 4 0 [.ref 1, .int x1, .int x2, .int x3, .int x4, .int x5, .int x6, .retAddr 0, .retAddr 0] [] (zSH, G) = if (bI (0 ≤ x1 ∧ x1 ≤ 2)) = 0 then some (some (.int (-12)), (zSH, G)) else if (bI (1 ≤ x2 ∧ x2 ≤ 99)) = 0 then some (some (.int (-12)), (zSH, G)) else if (bI (1 ≤ x3 ∧ x3 ≤ 999)) = 0 then some (some (.int (-12)), (zSH, G)) else if (bI (0 ≤ x4 ∧ x4 ≤ 100)) = 0 then some (some (.int (-12)), (zSH, G)) else if (bI (0 ≤ x5 ∧ x5 ≤ 100)) = 0 then some (some (.int (-12)), (zSH, G)) else if (bI (0 ≤ x6 ∧ x6 ≤ 100)) = 0 then some (some (.int (-12)), (zSH, G)) else if ((x4 + x5) + x6) ≤ 100 then if (G 2 4) < 12 then zaft 4 223 [.ref 1, .int x1, .int x2, .int x3, .int x4, .int x5, .int x6, .int (G 2 4), .ref 5] [.int 4, .int (G 2 4), .ref 5] (zSH, (tset (tset (tset (tset (tset (tset (tset (tset (tset G 5 6 276 (G 2 4) 0 x1) 5 6 276 (G 2 4) 1 x2) 5 6 276 (G 2 4) 2 x3) 5 6 276 (G 2 4) 3 0) 5 6 276 (G 2 4) 7 (-15)) 5 6 276 (G 2 4) 9 x4) 5 6 276 (G 2 4) 10 x5) 5 6 276 (G 2 4) 11 x6) 5 6 276 (G 2 4) 12 (((100 - x4) - x5) - x6))) (zden 5 0 [.ref 1, .int (G 2 4), .retAddr 0, .retAddr 0] [] (zSH, (tset (tset (tset (tset (tset (tset (tset (tset (tset G 5 6 276 (G 2 4) 0 x1) 5 6 276 (G 2 4) 1 x2) 5 6 276 (G 2 4) 2 x3) 5 6 276 (G 2 4) 3 0) 5 6 276 (G 2 4) 7 (-15)) 5 6 276 (G 2 4) 9 x4) 5 6 276 (G 2 4) 10 x5) 5 6 276 (G 2 4) 11 x6) 5 6 276 (G 2 4) 12 (((100 - x4) - x5) - x6)))) else zaft 4 102 [.ref 1, .int x1, .int x2, .int x3, .int x4, .int x5, .int x6, .int (G 2 4), .retAddr 0] [] (zSH, G) (zden 2 0 [.ref 1, .int 1, .int (G 2 4)] [] (zSH, G)) else some (some (.int (-12)), (zSH, G)) :=
  (zd_iload_n a_Cl_takeIn_0 rfl).trans ((zd_iconst (v := 0) a_Cl_takeIn_1 (by decide)).trans ((zd_iconst (v := 2) a_Cl_takeIn_2 (by decide)).trans ((zd_cal (kd := 3) (tg := 71) (T := m_T_isWithin) a_Cl_takeIn_3 (by decide +kernel) hm_T_isWithin rfl rfl rfl rfl).trans (((congrArg (zaft 4 6 [.ref 1, .int x1, .int x2, .int x3, .int x4, .int x5, .int x6, .retAddr 0, .retAddr 0] [] (zSH, G)) (sp_isWithin)).trans zaft_same).trans ((zd_if_eq a_Cl_takeIn_6 rfl).trans (zitc (fun p17 => (zd_bipush (v := (-12)) a_Cl_takeIn_76 (by decide)).trans (zd_iret a_Cl_takeIn_78 rfl (znr_int _))) (fun p17 => (zd_iload_n a_Cl_takeIn_9 rfl).trans ((zd_iconst (v := 1) a_Cl_takeIn_10 (by decide)).trans ((zd_bipush (v := 99) a_Cl_takeIn_11 (by decide)).trans ((zd_cal (kd := 3) (tg := 71) (T := m_T_isWithin) a_Cl_takeIn_13 (by decide +kernel) hm_T_isWithin rfl rfl rfl rfl).trans (((congrArg (zaft 4 16 [.ref 1, .int x1, .int x2, .int x3, .int x4, .int x5, .int x6, .retAddr 0, .retAddr 0] [] (zSH, G)) (sp_isWithin)).trans zaft_same).trans ((zd_if_eq a_Cl_takeIn_16 rfl).trans (zitc (fun p18 => (zd_bipush (v := (-12)) a_Cl_takeIn_76 (by decide)).trans (zd_iret a_Cl_takeIn_78 rfl (znr_int _))) (fun p18 => (zd_iload_n a_Cl_takeIn_19 rfl).trans ((zd_iconst (v := 1) a_Cl_takeIn_20 (by decide)).trans ((zd_sipush (v := 999) a_Cl_takeIn_21 (by decide)).trans ((zd_cal (kd := 3) (tg := 71) (T := m_T_isWithin) a_Cl_takeIn_24 (by decide +kernel) hm_T_isWithin rfl rfl rfl rfl).trans (((congrArg (zaft 4 27 [.ref 1, .int x1, .int x2, .int x3, .int x4, .int x5, .int x6, .retAddr 0, .retAddr 0] [] (zSH, G)) (sp_isWithin)).trans zaft_same).trans ((zd_if_eq a_Cl_takeIn_27 rfl).trans (zitc (fun p19 => (zd_bipush (v := (-12)) a_Cl_takeIn_76 (by decide)).trans (zd_iret a_Cl_takeIn_78 rfl (znr_int _))) (fun p19 => (zd_iload a_Cl_takeIn_30 rfl).trans ((zd_iconst (v := 0) a_Cl_takeIn_32 (by decide)).trans ((zd_bipush (v := 100) a_Cl_takeIn_33 (by decide)).trans ((zd_cal (kd := 3) (tg := 71) (T := m_T_isWithin) a_Cl_takeIn_35 (by decide +kernel) hm_T_isWithin rfl rfl rfl rfl).trans (((congrArg (zaft 4 38 [.ref 1, .int x1, .int x2, .int x3, .int x4, .int x5, .int x6, .retAddr 0, .retAddr 0] [] (zSH, G)) (sp_isWithin)).trans zaft_same).trans ((zd_if_eq a_Cl_takeIn_38 rfl).trans (zitc (fun p20 => (zd_bipush (v := (-12)) a_Cl_takeIn_76 (by decide)).trans (zd_iret a_Cl_takeIn_78 rfl (znr_int _))) (fun p20 => (zd_iload a_Cl_takeIn_41 rfl).trans ((zd_iconst (v := 0) a_Cl_takeIn_43 (by decide)).trans ((zd_bipush (v := 100) a_Cl_takeIn_44 (by decide)).trans ((zd_cal (kd := 3) (tg := 71) (T := m_T_isWithin) a_Cl_takeIn_46 (by decide +kernel) hm_T_isWithin rfl rfl rfl rfl).trans (((congrArg (zaft 4 49 [.ref 1, .int x1, .int x2, .int x3, .int x4, .int x5, .int x6, .retAddr 0, .retAddr 0] [] (zSH, G)) (sp_isWithin)).trans zaft_same).trans ((zd_if_eq a_Cl_takeIn_49 rfl).trans (zitc (fun p21 => (zd_bipush (v := (-12)) a_Cl_takeIn_76 (by decide)).trans (zd_iret a_Cl_takeIn_78 rfl (znr_int _))) (fun p21 => (zd_iload a_Cl_takeIn_52 rfl).trans ((zd_iconst (v := 0) a_Cl_takeIn_54 (by decide)).trans ((zd_bipush (v := 100) a_Cl_takeIn_55 (by decide)).trans ((zd_cal (kd := 3) (tg := 71) (T := m_T_isWithin) a_Cl_takeIn_57 (by decide +kernel) hm_T_isWithin rfl rfl rfl rfl).trans (((congrArg (zaft 4 60 [.ref 1, .int x1, .int x2, .int x3, .int x4, .int x5, .int x6, .retAddr 0, .retAddr 0] [] (zSH, G)) (sp_isWithin)).trans zaft_same).trans ((zd_if_eq a_Cl_takeIn_60 rfl).trans (zitc (fun p22 => (zd_bipush (v := (-12)) a_Cl_takeIn_76 (by decide)).trans (zd_iret a_Cl_takeIn_78 rfl (znr_int _))) (fun p22 => (zd_iload a_Cl_takeIn_63 rfl).trans ((zd_iload a_Cl_takeIn_65 rfl).trans ((zd_num (st2 := [.int (x4 + x5)]) a_Cl_takeIn_67 rfl rfl rfl rfl).trans ((zd_iload a_Cl_takeIn_68 rfl).trans ((zd_num (st2 := [.int ((x4 + x5) + x6)]) a_Cl_takeIn_70 rfl rfl rfl rfl).trans ((zd_bipush (v := 100) a_Cl_takeIn_71 (by decide)).trans ((zd_icmp_le a_Cl_takeIn_73 rfl).trans (zitc (fun p23 => (zd_aload_n a_Cl_takeIn_79 rfl).trans ((zd_getR (h := (zSH, G)) (ci := 0) (fi := 0) (a := 2) a_Cl_takeIn_80 (by decide +kernel) sh_1 rfl rfl).trans ((zd_getI (h := (zSH, G)) (ci := 2) (fi := 4) a_Cl_takeIn_83 (by decide +kernel) sh_2 rfl).trans ((zd_istore a_Cl_takeIn_86 rfl rfl rfl).trans ((zd_iload a_Cl_takeIn_88 rfl).trans ((zd_bipush (v := 12) a_Cl_takeIn_90 (by decide)).trans ((zd_icmp_lt a_Cl_takeIn_92 rfl).trans (zitc (fun p24 => (zd_aload_n a_Cl_takeIn_103 rfl).trans ((zd_getR (h := (zSH, G)) (ci := 0) (fi := 0) (a := 2) a_Cl_takeIn_104 (by decide +kernel) sh_1 rfl rfl).trans ((zd_getR (h := (zSH, G)) (ci := 2) (fi := 1) (a := 5) a_Cl_takeIn_107 (by decide +kernel) sh_2 rfl rfl).trans ((zd_astore a_Cl_takeIn_110 rfl rfl rfl).trans ((zd_aload a_Cl_takeIn_112 rfl).trans ((zd_iload a_Cl_takeIn_114 rfl).trans ((zd_iconst (v := 0) a_Cl_takeIn_116 (by decide)).trans ((zd_iload_n a_Cl_takeIn_117 rfl).trans ((zd_cal (kd := 0) (tg := 51) (T := m_Ta_set) a_Cl_takeIn_118 (by decide +kernel) hm_Ta_set rfl rfl rfl rfl).trans (((congrArg (zaft 4 121 [.ref 1, .int x1, .int x2, .int x3, .int x4, .int x5, .int x6, .int (G 2 4), .ref 5] [] (zSH, G)) (sp_set (r := 5) (q := 6) (n := 276) sh_5 sh_6 rfl (by decide))).trans zaft_same).trans ((zd_aload a_Cl_takeIn_121 rfl).trans ((zd_iload a_Cl_takeIn_123 rfl).trans ((zd_iconst (v := 1) a_Cl_takeIn_125 (by decide)).trans ((zd_iload_n a_Cl_takeIn_126 rfl).trans ((zd_cal (kd := 0) (tg := 51) (T := m_Ta_set) a_Cl_takeIn_127 (by decide +kernel) hm_Ta_set rfl rfl rfl rfl).trans (((congrArg (zaft 4 130 [.ref 1, .int x1, .int x2, .int x3, .int x4, .int x5, .int x6, .int (G 2 4), .ref 5] [] (zSH, (tset G 5 6 276 (G 2 4) 0 x1))) (sp_set (r := 5) (q := 6) (n := 276) sh_5 sh_6 rfl (by decide))).trans zaft_same).trans ((zd_aload a_Cl_takeIn_130 rfl).trans ((zd_iload a_Cl_takeIn_132 rfl).trans ((zd_iconst (v := 2) a_Cl_takeIn_134 (by decide)).trans ((zd_iload_n a_Cl_takeIn_135 rfl).trans ((zd_cal (kd := 0) (tg := 51) (T := m_Ta_set) a_Cl_takeIn_136 (by decide +kernel) hm_Ta_set rfl rfl rfl rfl).trans (((congrArg (zaft 4 139 [.ref 1, .int x1, .int x2, .int x3, .int x4, .int x5, .int x6, .int (G 2 4), .ref 5] [] (zSH, (tset (tset G 5 6 276 (G 2 4) 0 x1) 5 6 276 (G 2 4) 1 x2))) (sp_set (r := 5) (q := 6) (n := 276) sh_5 sh_6 rfl (by decide))).trans zaft_same).trans ((zd_aload a_Cl_takeIn_139 rfl).trans ((zd_iload a_Cl_takeIn_141 rfl).trans ((zd_iconst (v := 3) a_Cl_takeIn_143 (by decide)).trans ((zd_iconst (v := 0) a_Cl_takeIn_144 (by decide)).trans ((zd_cal (kd := 0) (tg := 51) (T := m_Ta_set) a_Cl_takeIn_145 (by decide +kernel) hm_Ta_set rfl rfl rfl rfl).trans (((congrArg (zaft 4 148 [.ref 1, .int x1, .int x2, .int x3, .int x4, .int x5, .int x6, .int (G 2 4), .ref 5] [] (zSH, (tset (tset (tset G 5 6 276 (G 2 4) 0 x1) 5 6 276 (G 2 4) 1 x2) 5 6 276 (G 2 4) 2 x3))) (sp_set (r := 5) (q := 6) (n := 276) sh_5 sh_6 rfl (by decide))).trans zaft_same).trans ((zd_aload a_Cl_takeIn_148 rfl).trans ((zd_iload a_Cl_takeIn_150 rfl).trans ((zd_bipush (v := 7) a_Cl_takeIn_152 (by decide)).trans ((zd_bipush (v := (-15)) a_Cl_takeIn_154 (by decide)).trans ((zd_cal (kd := 0) (tg := 51) (T := m_Ta_set) a_Cl_takeIn_156 (by decide +kernel) hm_Ta_set rfl rfl rfl rfl).trans (((congrArg (zaft 4 159 [.ref 1, .int x1, .int x2, .int x3, .int x4, .int x5, .int x6, .int (G 2 4), .ref 5] [] (zSH, (tset (tset (tset (tset G 5 6 276 (G 2 4) 0 x1) 5 6 276 (G 2 4) 1 x2) 5 6 276 (G 2 4) 2 x3) 5 6 276 (G 2 4) 3 0))) (sp_set (r := 5) (q := 6) (n := 276) sh_5 sh_6 rfl (by decide))).trans zaft_same).trans ((zd_aload a_Cl_takeIn_159 rfl).trans ((zd_iload a_Cl_takeIn_161 rfl).trans ((zd_bipush (v := 9) a_Cl_takeIn_163 (by decide)).trans ((zd_iload a_Cl_takeIn_165 rfl).trans ((zd_cal (kd := 0) (tg := 51) (T := m_Ta_set) a_Cl_takeIn_167 (by decide +kernel) hm_Ta_set rfl rfl rfl rfl).trans (((congrArg (zaft 4 170 [.ref 1, .int x1, .int x2, .int x3, .int x4, .int x5, .int x6, .int (G 2 4), .ref 5] [] (zSH, (tset (tset (tset (tset (tset G 5 6 276 (G 2 4) 0 x1) 5 6 276 (G 2 4) 1 x2) 5 6 276 (G 2 4) 2 x3) 5 6 276 (G 2 4) 3 0) 5 6 276 (G 2 4) 7 (-15)))) (sp_set (r := 5) (q := 6) (n := 276) sh_5 sh_6 rfl (by decide))).trans zaft_same).trans ((zd_aload a_Cl_takeIn_170 rfl).trans ((zd_iload a_Cl_takeIn_172 rfl).trans ((zd_bipush (v := 10) a_Cl_takeIn_174 (by decide)).trans ((zd_iload a_Cl_takeIn_176 rfl).trans ((zd_cal (kd := 0) (tg := 51) (T := m_Ta_set) a_Cl_takeIn_178 (by decide +kernel) hm_Ta_set rfl rfl rfl rfl).trans (((congrArg (zaft 4 181 [.ref 1, .int x1, .int x2, .int x3, .int x4, .int x5, .int x6, .int (G 2 4), .ref 5] [] (zSH, (tset (tset (tset (tset (tset (tset G 5 6 276 (G 2 4) 0 x1) 5 6 276 (G 2 4) 1 x2) 5 6 276 (G 2 4) 2 x3) 5 6 276 (G 2 4) 3 0) 5 6 276 (G 2 4) 7 (-15)) 5 6 276 (G 2 4) 9 x4))) (sp_set (r := 5) (q := 6) (n := 276) sh_5 sh_6 rfl (by decide))).trans zaft_same).trans ((zd_aload a_Cl_takeIn_181 rfl).trans ((zd_iload a_Cl_takeIn_183 rfl).trans ((zd_bipush (v := 11) a_Cl_takeIn_185 (by decide)).trans ((zd_iload a_Cl_takeIn_187 rfl).trans ((zd_cal (kd := 0) (tg := 51) (T := m_Ta_set) a_Cl_takeIn_189 (by decide +kernel) hm_Ta_set rfl rfl rfl rfl).trans (((congrArg (zaft 4 192 [.ref 1, .int x1, .int x2, .int x3, .int x4, .int x5, .int x6, .int (G 2 4), .ref 5] [] (zSH, (tset (tset (tset (tset (tset (tset (tset G 5 6 276 (G 2 4) 0 x1) 5 6 276 (G 2 4) 1 x2) 5 6 276 (G 2 4) 2 x3) 5 6 276 (G 2 4) 3 0) 5 6 276 (G 2 4) 7 (-15)) 5 6 276 (G 2 4) 9 x4) 5 6 276 (G 2 4) 10 x5))) (sp_set (r := 5) (q := 6) (n := 276) sh_5 sh_6 rfl (by decide))).trans zaft_same).trans ((zd_aload a_Cl_takeIn_192 rfl).trans ((zd_iload a_Cl_takeIn_194 rfl).trans ((zd_bipush (v := 12) a_Cl_takeIn_196 (by decide)).trans ((zd_bipush (v := 100) a_Cl_takeIn_198 (by decide)).trans ((zd_iload a_Cl_takeIn_200 rfl).trans ((zd_num (st2 := [.int (100 - x4), .int 12, .int (G 2 4), .ref 5]) a_Cl_takeIn_202 rfl rfl rfl rfl).trans ((zd_iload a_Cl_takeIn_203 rfl).trans ((zd_num (st2 := [.int ((100 - x4) - x5), .int 12, .int (G 2 4), .ref 5]) a_Cl_takeIn_205 rfl rfl rfl rfl).trans ((zd_iload a_Cl_takeIn_206 rfl).trans ((zd_num (st2 := [.int (((100 - x4) - x5) - x6), .int 12, .int (G 2 4), .ref 5]) a_Cl_takeIn_208 rfl rfl rfl rfl).trans ((zd_cal (kd := 0) (tg := 51) (T := m_Ta_set) a_Cl_takeIn_209 (by decide +kernel) hm_Ta_set rfl rfl rfl rfl).trans (((congrArg (zaft 4 212 [.ref 1, .int x1, .int x2, .int x3, .int x4, .int x5, .int x6, .int (G 2 4), .ref 5] [] (zSH, (tset (tset (tset (tset (tset (tset (tset (tset G 5 6 276 (G 2 4) 0 x1) 5 6 276 (G 2 4) 1 x2) 5 6 276 (G 2 4) 2 x3) 5 6 276 (G 2 4) 3 0) 5 6 276 (G 2 4) 7 (-15)) 5 6 276 (G 2 4) 9 x4) 5 6 276 (G 2 4) 10 x5) 5 6 276 (G 2 4) 11 x6))) (sp_set (r := 5) (q := 6) (n := 276) sh_5 sh_6 rfl (by decide))).trans zaft_same).trans ((zd_aload a_Cl_takeIn_212 rfl).trans ((zd_iload a_Cl_takeIn_214 rfl).trans ((zd_iconst (v := 4) a_Cl_takeIn_216 (by decide)).trans ((zd_aload_n a_Cl_takeIn_217 rfl).trans ((zd_iload a_Cl_takeIn_218 rfl).trans ((zd_cal (kd := 0) (tg := 5) (T := m_Cl_chiefFibre) a_Cl_takeIn_220 (by decide +kernel) hm_Cl_chiefFibre rfl rfl rfl rfl))))))))))))))))))))))))))))))))))))))))))))))))))))))))))))))))))))))) (fun p24 => (zd_aload_n a_Cl_takeIn_95 rfl).trans ((zd_iconst (v := 1) a_Cl_takeIn_96 (by decide)).trans ((zd_iload a_Cl_takeIn_97 rfl).trans ((zd_cal (kd := 0) (tg := 2) (T := m_Cl_refuse) a_Cl_takeIn_99 (by decide +kernel) hm_Cl_refuse rfl rfl rfl rfl))))))))))))) (fun p23 => (zd_bipush (v := (-12)) a_Cl_takeIn_76 (by decide)).trans (zd_iret a_Cl_takeIn_78 rfl (znr_int _))))))))))))))))))))))))))))))))))))))))))))))))))))
theorem B_Cl_takeIn_102 {G : Nat → Nat → Int32} {x1 x2 x3 x4 x5 x6 x7 s0 : Int32} : zden 4 102 [.ref 1, .int x1, .int x2, .int x3, .int x4, .int x5, .int x6, .int x7, .retAddr 0] [.int s0] (zSH, G) = some (some (.int s0), (zSH, G)) :=
  zd_iret a_Cl_takeIn_102 rfl (znr_int _)
theorem B_Cl_takeIn_223 {G : Nat → Nat → Int32} {x1 x2 x3 x4 x5 x6 x7 s0 s1 s2 : Int32} : zden 4 223 [.ref 1, .int x1, .int x2, .int x3, .int x4, .int x5, .int x6, .int x7, .ref 5] [.int s0, .int s1, .int s2, .ref 5] (zSH, G) = some (some (.int x7), (zSH, (zup (tset G 5 6 276 s2 s1 s0) 2 4 (((tset G 5 6 276 s2 s1 s0) 2 4) + 1)))) :=
  (zd_cal (kd := 0) (tg := 51) (T := m_Ta_set) a_Cl_takeIn_223 (by decide +kernel) hm_Ta_set rfl rfl rfl rfl).trans (((congrArg (zaft 4 226 [.ref 1, .int x1, .int x2, .int x3, .int x4, .int x5, .int x6, .int x7, .ref 5] [] (zSH, G)) (sp_set (r := 5) (q := 6) (n := 276) sh_5 sh_6 rfl (by decide))).trans zaft_same).trans ((zd_aload_n a_Cl_takeIn_226 rfl).trans ((zd_getR (h := (zSH, (tset G 5 6 276 s2 s1 s0))) (ci := 0) (fi := 0) (a := 2) a_Cl_takeIn_227 (by decide +kernel) sh_1 rfl rfl).trans ((zd_num (st2 := [.ref 2, .ref 2]) a_Cl_takeIn_230 rfl rfl rfl rfl).trans ((zd_getI (h := (zSH, (tset G 5 6 276 s2 s1 s0))) (ci := 2) (fi := 4) a_Cl_takeIn_231 (by decide +kernel) sh_2 rfl).trans ((zd_iconst (v := 1) a_Cl_takeIn_234 (by decide)).trans ((zd_num (st2 := [.int (((tset G 5 6 276 s2 s1 s0) 2 4) + 1), .ref 2]) a_Cl_takeIn_235 rfl rfl rfl rfl).trans ((zd_putI (h := (zSH, (tset G 5 6 276 s2 s1 s0))) (ci := 2) (fi := 4) a_Cl_takeIn_236 (by decide +kernel) sh_2 rfl rfl).trans ((zd_iload a_Cl_takeIn_239 rfl).trans (zd_iret a_Cl_takeIn_241 rfl (znr_int _)))))))))))
theorem a_Cl_chiefFibre_0 : zAt 5 0 m_Cl_chiefFibre (.iconst 0) 1 := ⟨hm_Cl_chiefFibre, by decide +kernel⟩
theorem a_Cl_chiefFibre_1 : zAt 5 1 m_Cl_chiefFibre (.istore_n 2) 1 := ⟨hm_Cl_chiefFibre, by decide +kernel⟩
theorem a_Cl_chiefFibre_2 : zAt 5 2 m_Cl_chiefFibre (.iconst 1) 1 := ⟨hm_Cl_chiefFibre, by decide +kernel⟩
theorem a_Cl_chiefFibre_3 : zAt 5 3 m_Cl_chiefFibre (.istore_n 3) 1 := ⟨hm_Cl_chiefFibre, by decide +kernel⟩
theorem a_Cl_chiefFibre_4 : zAt 5 4 m_Cl_chiefFibre (.iload_n 3) 1 := ⟨hm_Cl_chiefFibre, by decide +kernel⟩
theorem a_Cl_chiefFibre_5 : zAt 5 5 m_Cl_chiefFibre (.iconst 4) 1 := ⟨hm_Cl_chiefFibre, by decide +kernel⟩
theorem a_Cl_chiefFibre_6 : zAt 5 6 m_Cl_chiefFibre (.if_icmp .ge 44) 3 := ⟨hm_Cl_chiefFibre, by decide +kernel⟩
theorem a_Cl_chiefFibre_9 : zAt 5 9 m_Cl_chiefFibre (.aload_n 0) 1 := ⟨hm_Cl_chiefFibre, by decide +kernel⟩
theorem a_Cl_chiefFibre_10 : zAt 5 10 m_Cl_chiefFibre (.getfield 12) 3 := ⟨hm_Cl_chiefFibre, by decide +kernel⟩
theorem a_Cl_chiefFibre_13 : zAt 5 13 m_Cl_chiefFibre (.getfield 60) 3 := ⟨hm_Cl_chiefFibre, by decide +kernel⟩
theorem a_Cl_chiefFibre_16 : zAt 5 16 m_Cl_chiefFibre (.iload_n 1) 1 := ⟨hm_Cl_chiefFibre, by decide +kernel⟩
theorem a_Cl_chiefFibre_17 : zAt 5 17 m_Cl_chiefFibre (.bipush 9) 2 := ⟨hm_Cl_chiefFibre, by decide +kernel⟩
theorem a_Cl_chiefFibre_19 : zAt 5 19 m_Cl_chiefFibre (.iload_n 3) 1 := ⟨hm_Cl_chiefFibre, by decide +kernel⟩
theorem a_Cl_chiefFibre_20 : zAt 5 20 m_Cl_chiefFibre (.iadd) 1 := ⟨hm_Cl_chiefFibre, by decide +kernel⟩
theorem a_Cl_chiefFibre_21 : zAt 5 21 m_Cl_chiefFibre (.invokevirtual 44) 3 := ⟨hm_Cl_chiefFibre, by decide +kernel⟩
theorem a_Cl_chiefFibre_24 : zAt 5 24 m_Cl_chiefFibre (.aload_n 0) 1 := ⟨hm_Cl_chiefFibre, by decide +kernel⟩
theorem a_Cl_chiefFibre_25 : zAt 5 25 m_Cl_chiefFibre (.getfield 12) 3 := ⟨hm_Cl_chiefFibre, by decide +kernel⟩
theorem a_Cl_chiefFibre_28 : zAt 5 28 m_Cl_chiefFibre (.getfield 60) 3 := ⟨hm_Cl_chiefFibre, by decide +kernel⟩
theorem a_Cl_chiefFibre_31 : zAt 5 31 m_Cl_chiefFibre (.iload_n 1) 1 := ⟨hm_Cl_chiefFibre, by decide +kernel⟩
theorem a_Cl_chiefFibre_32 : zAt 5 32 m_Cl_chiefFibre (.bipush 9) 2 := ⟨hm_Cl_chiefFibre, by decide +kernel⟩
theorem a_Cl_chiefFibre_34 : zAt 5 34 m_Cl_chiefFibre (.iload_n 2) 1 := ⟨hm_Cl_chiefFibre, by decide +kernel⟩
theorem a_Cl_chiefFibre_35 : zAt 5 35 m_Cl_chiefFibre (.iadd) 1 := ⟨hm_Cl_chiefFibre, by decide +kernel⟩
theorem a_Cl_chiefFibre_36 : zAt 5 36 m_Cl_chiefFibre (.invokevirtual 44) 3 := ⟨hm_Cl_chiefFibre, by decide +kernel⟩
theorem a_Cl_chiefFibre_39 : zAt 5 39 m_Cl_chiefFibre (.if_icmp .lt 5) 3 := ⟨hm_Cl_chiefFibre, by decide +kernel⟩
theorem a_Cl_chiefFibre_42 : zAt 5 42 m_Cl_chiefFibre (.iload_n 3) 1 := ⟨hm_Cl_chiefFibre, by decide +kernel⟩
theorem a_Cl_chiefFibre_43 : zAt 5 43 m_Cl_chiefFibre (.istore_n 2) 1 := ⟨hm_Cl_chiefFibre, by decide +kernel⟩
theorem a_Cl_chiefFibre_44 : zAt 5 44 m_Cl_chiefFibre (.iinc 3 1) 3 := ⟨hm_Cl_chiefFibre, by decide +kernel⟩
theorem a_Cl_chiefFibre_47 : zAt 5 47 m_Cl_chiefFibre (.goto (-43)) 3 := ⟨hm_Cl_chiefFibre, by decide +kernel⟩
theorem a_Cl_chiefFibre_50 : zAt 5 50 m_Cl_chiefFibre (.iload_n 2) 1 := ⟨hm_Cl_chiefFibre, by decide +kernel⟩
theorem a_Cl_chiefFibre_51 : zAt 5 51 m_Cl_chiefFibre (.ireturn) 1 := ⟨hm_Cl_chiefFibre, by decide +kernel⟩
theorem B_Cl_chiefFibre_0 {G : Nat → Nat → Int32} {x1 : Int32} : zden 5 0 [.ref 1, .int x1, .retAddr 0, .retAddr 0] [] (zSH, G) = zden 5 4 [.ref 1, .int x1, .int 0, .int 1] [] (zSH, G) :=
  (zd_iconst (v := 0) a_Cl_chiefFibre_0 (by decide)).trans ((zd_istore_n a_Cl_chiefFibre_1 rfl rfl rfl).trans ((zd_iconst (v := 1) a_Cl_chiefFibre_2 (by decide)).trans ((zd_istore_n a_Cl_chiefFibre_3 rfl rfl rfl))))
theorem B_Cl_chiefFibre_4 {G : Nat → Nat → Int32} {x1 x2 x3 : Int32} : zden 5 4 [.ref 1, .int x1, .int x2, .int x3] [] (zSH, G) = if 4 ≤ x3 then some (some (.int x2), (zSH, G)) else if (tget G 5 6 276 x1 (9 + x3)) < (tget G 5 6 276 x1 (9 + x2)) then zden 5 44 [.ref 1, .int x1, .int x2, .int x3] [] (zSH, G) else zden 5 44 [.ref 1, .int x1, .int x3, .int x3] [] (zSH, G) :=
  (zd_iload_n a_Cl_chiefFibre_4 rfl).trans ((zd_iconst (v := 4) a_Cl_chiefFibre_5 (by decide)).trans ((zd_icmp_ge a_Cl_chiefFibre_6 rfl).trans (zitc (fun p5 => (zd_iload_n a_Cl_chiefFibre_50 rfl).trans (zd_iret a_Cl_chiefFibre_51 rfl (znr_int _))) (fun p5 => (zd_aload_n a_Cl_chiefFibre_9 rfl).trans ((zd_getR (h := (zSH, G)) (ci := 0) (fi := 0) (a := 2) a_Cl_chiefFibre_10 (by decide +kernel) sh_1 rfl rfl).trans ((zd_getR (h := (zSH, G)) (ci := 2) (fi := 1) (a := 5) a_Cl_chiefFibre_13 (by decide +kernel) sh_2 rfl rfl).trans ((zd_iload_n a_Cl_chiefFibre_16 rfl).trans ((zd_bipush (v := 9) a_Cl_chiefFibre_17 (by decide)).trans ((zd_iload_n a_Cl_chiefFibre_19 rfl).trans ((zd_num (st2 := [.int (9 + x3), .int x1, .ref 5]) a_Cl_chiefFibre_20 rfl rfl rfl rfl).trans ((zd_cal (kd := 0) (tg := 53) (T := m_Ta_get) a_Cl_chiefFibre_21 (by decide +kernel) hm_Ta_get rfl rfl rfl rfl).trans (((congrArg (zaft 5 24 [.ref 1, .int x1, .int x2, .int x3] [] (zSH, G)) (sp_get (r := 5) (q := 6) (n := 276) sh_5 sh_6 rfl (by decide))).trans zaft_same).trans ((zd_aload_n a_Cl_chiefFibre_24 rfl).trans ((zd_getR (h := (zSH, G)) (ci := 0) (fi := 0) (a := 2) a_Cl_chiefFibre_25 (by decide +kernel) sh_1 rfl rfl).trans ((zd_getR (h := (zSH, G)) (ci := 2) (fi := 1) (a := 5) a_Cl_chiefFibre_28 (by decide +kernel) sh_2 rfl rfl).trans ((zd_iload_n a_Cl_chiefFibre_31 rfl).trans ((zd_bipush (v := 9) a_Cl_chiefFibre_32 (by decide)).trans ((zd_iload_n a_Cl_chiefFibre_34 rfl).trans ((zd_num (st2 := [.int (9 + x2), .int x1, .ref 5, .int (tget G 5 6 276 x1 (9 + x3))]) a_Cl_chiefFibre_35 rfl rfl rfl rfl).trans ((zd_cal (kd := 0) (tg := 53) (T := m_Ta_get) a_Cl_chiefFibre_36 (by decide +kernel) hm_Ta_get rfl rfl rfl rfl).trans (((congrArg (zaft 5 39 [.ref 1, .int x1, .int x2, .int x3] [.int (tget G 5 6 276 x1 (9 + x3))] (zSH, G)) (sp_get (r := 5) (q := 6) (n := 276) sh_5 sh_6 rfl (by decide))).trans zaft_same).trans ((zd_icmp_lt a_Cl_chiefFibre_39 rfl).trans (zitc (fun p6 => rfl) (fun p6 => (zd_iload_n a_Cl_chiefFibre_42 rfl).trans ((zd_istore_n a_Cl_chiefFibre_43 rfl rfl rfl))))))))))))))))))))))))))
theorem B_Cl_chiefFibre_44 {G : Nat → Nat → Int32} {x1 x2 x3 : Int32} : zden 5 44 [.ref 1, .int x1, .int x2, .int x3] [] (zSH, G) = zden 5 4 [.ref 1, .int x1, .int x2, .int (x3 + 1)] [] (zSH, G) :=
  (zd_iinc (v := 1) a_Cl_chiefFibre_44 rfl (by decide) rfl rfl rfl).trans ((zd_goto a_Cl_chiefFibre_47 rfl))
theorem a_Cl_workOn_0 : zAt 6 0 m_Cl_workOn (.aload_n 0) 1 := ⟨hm_Cl_workOn, by decide +kernel⟩
theorem a_Cl_workOn_1 : zAt 6 1 m_Cl_workOn (.getfield 12) 3 := ⟨hm_Cl_workOn, by decide +kernel⟩
theorem a_Cl_workOn_4 : zAt 6 4 m_Cl_workOn (.iload_n 1) 1 := ⟨hm_Cl_workOn, by decide +kernel⟩
theorem a_Cl_workOn_5 : zAt 6 5 m_Cl_workOn (.invokevirtual 66) 3 := ⟨hm_Cl_workOn, by decide +kernel⟩
theorem a_Cl_workOn_8 : zAt 6 8 m_Cl_workOn (.ifCond .eq 10) 3 := ⟨hm_Cl_workOn, by decide +kernel⟩
theorem a_Cl_workOn_11 : zAt 6 11 m_Cl_workOn (.iload_n 2) 1 := ⟨hm_Cl_workOn, by decide +kernel⟩
theorem a_Cl_workOn_12 : zAt 6 12 m_Cl_workOn (.invokestatic 70) 3 := ⟨hm_Cl_workOn, by decide +kernel⟩
theorem a_Cl_workOn_15 : zAt 6 15 m_Cl_workOn (.ifCond .ne 6) 3 := ⟨hm_Cl_workOn, by decide +kernel⟩
theorem a_Cl_workOn_18 : zAt 6 18 m_Cl_workOn (.bipush (-11)) 2 := ⟨hm_Cl_workOn, by decide +kernel⟩
theorem a_Cl_workOn_20 : zAt 6 20 m_Cl_workOn (.ireturn) 1 := ⟨hm_Cl_workOn, by decide +kernel⟩
theorem a_Cl_workOn_21 : zAt 6 21 m_Cl_workOn (.iload_n 3) 1 := ⟨hm_Cl_workOn, by decide +kernel⟩
theorem a_Cl_workOn_22 : zAt 6 22 m_Cl_workOn (.iconst 1) 1 := ⟨hm_Cl_workOn, by decide +kernel⟩
theorem a_Cl_workOn_23 : zAt 6 23 m_Cl_workOn (.bipush 99) 2 := ⟨hm_Cl_workOn, by decide +kernel⟩
theorem a_Cl_workOn_25 : zAt 6 25 m_Cl_workOn (.invokestatic 25) 3 := ⟨hm_Cl_workOn, by decide +kernel⟩
theorem a_Cl_workOn_28 : zAt 6 28 m_Cl_workOn (.ifCond .ne 6) 3 := ⟨hm_Cl_workOn, by decide +kernel⟩
theorem a_Cl_workOn_31 : zAt 6 31 m_Cl_workOn (.bipush (-12)) 2 := ⟨hm_Cl_workOn, by decide +kernel⟩
theorem a_Cl_workOn_33 : zAt 6 33 m_Cl_workOn (.ireturn) 1 := ⟨hm_Cl_workOn, by decide +kernel⟩
theorem a_Cl_workOn_34 : zAt 6 34 m_Cl_workOn (.aload_n 0) 1 := ⟨hm_Cl_workOn, by decide +kernel⟩
theorem a_Cl_workOn_35 : zAt 6 35 m_Cl_workOn (.getfield 12) 3 := ⟨hm_Cl_workOn, by decide +kernel⟩
theorem a_Cl_workOn_38 : zAt 6 38 m_Cl_workOn (.getfield 60) 3 := ⟨hm_Cl_workOn, by decide +kernel⟩
theorem a_Cl_workOn_41 : zAt 6 41 m_Cl_workOn (.astore 4) 2 := ⟨hm_Cl_workOn, by decide +kernel⟩
theorem a_Cl_workOn_43 : zAt 6 43 m_Cl_workOn (.aload 4) 2 := ⟨hm_Cl_workOn, by decide +kernel⟩
theorem a_Cl_workOn_45 : zAt 6 45 m_Cl_workOn (.iload_n 1) 1 := ⟨hm_Cl_workOn, by decide +kernel⟩
theorem a_Cl_workOn_46 : zAt 6 46 m_Cl_workOn (.iconst 3) 1 := ⟨hm_Cl_workOn, by decide +kernel⟩
theorem a_Cl_workOn_47 : zAt 6 47 m_Cl_workOn (.invokevirtual 44) 3 := ⟨hm_Cl_workOn, by decide +kernel⟩
theorem a_Cl_workOn_50 : zAt 6 50 m_Cl_workOn (.istore 5) 2 := ⟨hm_Cl_workOn, by decide +kernel⟩
theorem a_Cl_workOn_52 : zAt 6 52 m_Cl_workOn (.iload 5) 2 := ⟨hm_Cl_workOn, by decide +kernel⟩
theorem a_Cl_workOn_54 : zAt 6 54 m_Cl_workOn (.ifCond .eq 11) 3 := ⟨hm_Cl_workOn, by decide +kernel⟩
theorem a_Cl_workOn_57 : zAt 6 57 m_Cl_workOn (.aload_n 0) 1 := ⟨hm_Cl_workOn, by decide +kernel⟩
theorem a_Cl_workOn_58 : zAt 6 58 m_Cl_workOn (.iconst 3) 1 := ⟨hm_Cl_workOn, by decide +kernel⟩
theorem a_Cl_workOn_59 : zAt 6 59 m_Cl_workOn (.iload 5) 2 := ⟨hm_Cl_workOn, by decide +kernel⟩
theorem a_Cl_workOn_61 : zAt 6 61 m_Cl_workOn (.invokevirtual 33) 3 := ⟨hm_Cl_workOn, by decide +kernel⟩
theorem a_Cl_workOn_64 : zAt 6 64 m_Cl_workOn (.ireturn) 1 := ⟨hm_Cl_workOn, by decide +kernel⟩
theorem a_Cl_workOn_65 : zAt 6 65 m_Cl_workOn (.aload 4) 2 := ⟨hm_Cl_workOn, by decide +kernel⟩
theorem a_Cl_workOn_67 : zAt 6 67 m_Cl_workOn (.iload_n 1) 1 := ⟨hm_Cl_workOn, by decide +kernel⟩
theorem a_Cl_workOn_68 : zAt 6 68 m_Cl_workOn (.bipush 8) 2 := ⟨hm_Cl_workOn, by decide +kernel⟩
theorem a_Cl_workOn_70 : zAt 6 70 m_Cl_workOn (.invokevirtual 44) 3 := ⟨hm_Cl_workOn, by decide +kernel⟩
theorem a_Cl_workOn_73 : zAt 6 73 m_Cl_workOn (.istore 6) 2 := ⟨hm_Cl_workOn, by decide +kernel⟩
theorem a_Cl_workOn_75 : zAt 6 75 m_Cl_workOn (.iload 6) 2 := ⟨hm_Cl_workOn, by decide +kernel⟩
theorem a_Cl_workOn_77 : zAt 6 77 m_Cl_workOn (.bipush 6) 2 := ⟨hm_Cl_workOn, by decide +kernel⟩
theorem a_Cl_workOn_79 : zAt 6 79 m_Cl_workOn (.if_icmp .lt 11) 3 := ⟨hm_Cl_workOn, by decide +kernel⟩
theorem a_Cl_workOn_82 : zAt 6 82 m_Cl_workOn (.aload_n 0) 1 := ⟨hm_Cl_workOn, by decide +kernel⟩
theorem a_Cl_workOn_83 : zAt 6 83 m_Cl_workOn (.iconst 1) 1 := ⟨hm_Cl_workOn, by decide +kernel⟩
theorem a_Cl_workOn_84 : zAt 6 84 m_Cl_workOn (.iload 6) 2 := ⟨hm_Cl_workOn, by decide +kernel⟩
theorem a_Cl_workOn_86 : zAt 6 86 m_Cl_workOn (.invokevirtual 33) 3 := ⟨hm_Cl_workOn, by decide +kernel⟩
theorem a_Cl_workOn_89 : zAt 6 89 m_Cl_workOn (.ireturn) 1 := ⟨hm_Cl_workOn, by decide +kernel⟩
theorem a_Cl_workOn_90 : zAt 6 90 m_Cl_workOn (.aload 4) 2 := ⟨hm_Cl_workOn, by decide +kernel⟩
theorem a_Cl_workOn_92 : zAt 6 92 m_Cl_workOn (.iload_n 1) 1 := ⟨hm_Cl_workOn, by decide +kernel⟩
theorem a_Cl_workOn_93 : zAt 6 93 m_Cl_workOn (.bipush 13) 2 := ⟨hm_Cl_workOn, by decide +kernel⟩
theorem a_Cl_workOn_95 : zAt 6 95 m_Cl_workOn (.iload_n 2) 1 := ⟨hm_Cl_workOn, by decide +kernel⟩
theorem a_Cl_workOn_96 : zAt 6 96 m_Cl_workOn (.iadd) 1 := ⟨hm_Cl_workOn, by decide +kernel⟩
theorem a_Cl_workOn_97 : zAt 6 97 m_Cl_workOn (.invokevirtual 44) 3 := ⟨hm_Cl_workOn, by decide +kernel⟩
theorem a_Cl_workOn_100 : zAt 6 100 m_Cl_workOn (.iload_n 3) 1 := ⟨hm_Cl_workOn, by decide +kernel⟩
theorem a_Cl_workOn_101 : zAt 6 101 m_Cl_workOn (.iadd) 1 := ⟨hm_Cl_workOn, by decide +kernel⟩
theorem a_Cl_workOn_102 : zAt 6 102 m_Cl_workOn (.istore 7) 2 := ⟨hm_Cl_workOn, by decide +kernel⟩
theorem a_Cl_workOn_104 : zAt 6 104 m_Cl_workOn (.aload 4) 2 := ⟨hm_Cl_workOn, by decide +kernel⟩
theorem a_Cl_workOn_106 : zAt 6 106 m_Cl_workOn (.iload_n 1) 1 := ⟨hm_Cl_workOn, by decide +kernel⟩
theorem a_Cl_workOn_107 : zAt 6 107 m_Cl_workOn (.bipush 13) 2 := ⟨hm_Cl_workOn, by decide +kernel⟩
theorem a_Cl_workOn_109 : zAt 6 109 m_Cl_workOn (.iload_n 2) 1 := ⟨hm_Cl_workOn, by decide +kernel⟩
theorem a_Cl_workOn_110 : zAt 6 110 m_Cl_workOn (.iadd) 1 := ⟨hm_Cl_workOn, by decide +kernel⟩
theorem a_Cl_workOn_111 : zAt 6 111 m_Cl_workOn (.iload 7) 2 := ⟨hm_Cl_workOn, by decide +kernel⟩
theorem a_Cl_workOn_113 : zAt 6 113 m_Cl_workOn (.invokevirtual 53) 3 := ⟨hm_Cl_workOn, by decide +kernel⟩
theorem a_Cl_workOn_116 : zAt 6 116 m_Cl_workOn (.aload 4) 2 := ⟨hm_Cl_workOn, by decide +kernel⟩
theorem a_Cl_workOn_118 : zAt 6 118 m_Cl_workOn (.iload_n 1) 1 := ⟨hm_Cl_workOn, by decide +kernel⟩
theorem a_Cl_workOn_119 : zAt 6 119 m_Cl_workOn (.bipush 8) 2 := ⟨hm_Cl_workOn, by decide +kernel⟩
theorem a_Cl_workOn_121 : zAt 6 121 m_Cl_workOn (.iload 6) 2 := ⟨hm_Cl_workOn, by decide +kernel⟩
theorem a_Cl_workOn_123 : zAt 6 123 m_Cl_workOn (.iconst 1) 1 := ⟨hm_Cl_workOn, by decide +kernel⟩
theorem a_Cl_workOn_124 : zAt 6 124 m_Cl_workOn (.iadd) 1 := ⟨hm_Cl_workOn, by decide +kernel⟩
theorem a_Cl_workOn_125 : zAt 6 125 m_Cl_workOn (.invokevirtual 53) 3 := ⟨hm_Cl_workOn, by decide +kernel⟩
theorem a_Cl_workOn_128 : zAt 6 128 m_Cl_workOn (.aload 4) 2 := ⟨hm_Cl_workOn, by decide +kernel⟩
theorem a_Cl_workOn_130 : zAt 6 130 m_Cl_workOn (.iload_n 1) 1 := ⟨hm_Cl_workOn, by decide +kernel⟩
theorem a_Cl_workOn_131 : zAt 6 131 m_Cl_workOn (.bipush 18) 2 := ⟨hm_Cl_workOn, by decide +kernel⟩
theorem a_Cl_workOn_133 : zAt 6 133 m_Cl_workOn (.iload_n 2) 1 := ⟨hm_Cl_workOn, by decide +kernel⟩
theorem a_Cl_workOn_134 : zAt 6 134 m_Cl_workOn (.iadd) 1 := ⟨hm_Cl_workOn, by decide +kernel⟩
theorem a_Cl_workOn_135 : zAt 6 135 m_Cl_workOn (.iload 6) 2 := ⟨hm_Cl_workOn, by decide +kernel⟩
theorem a_Cl_workOn_137 : zAt 6 137 m_Cl_workOn (.iconst 1) 1 := ⟨hm_Cl_workOn, by decide +kernel⟩
theorem a_Cl_workOn_138 : zAt 6 138 m_Cl_workOn (.iadd) 1 := ⟨hm_Cl_workOn, by decide +kernel⟩
theorem a_Cl_workOn_139 : zAt 6 139 m_Cl_workOn (.invokevirtual 53) 3 := ⟨hm_Cl_workOn, by decide +kernel⟩
theorem a_Cl_workOn_142 : zAt 6 142 m_Cl_workOn (.aload_n 0) 1 := ⟨hm_Cl_workOn, by decide +kernel⟩
theorem a_Cl_workOn_143 : zAt 6 143 m_Cl_workOn (.getfield 12) 3 := ⟨hm_Cl_workOn, by decide +kernel⟩
theorem a_Cl_workOn_146 : zAt 6 146 m_Cl_workOn (.dup) 1 := ⟨hm_Cl_workOn, by decide +kernel⟩
theorem a_Cl_workOn_147 : zAt 6 147 m_Cl_workOn (.getfield 73) 3 := ⟨hm_Cl_workOn, by decide +kernel⟩
theorem a_Cl_workOn_150 : zAt 6 150 m_Cl_workOn (.iconst 1) 1 := ⟨hm_Cl_workOn, by decide +kernel⟩
theorem a_Cl_workOn_151 : zAt 6 151 m_Cl_workOn (.iadd) 1 := ⟨hm_Cl_workOn, by decide +kernel⟩
theorem a_Cl_workOn_152 : zAt 6 152 m_Cl_workOn (.putfield 73) 3 := ⟨hm_Cl_workOn, by decide +kernel⟩
theorem a_Cl_workOn_155 : zAt 6 155 m_Cl_workOn (.iload 7) 2 := ⟨hm_Cl_workOn, by decide +kernel⟩
theorem a_Cl_workOn_157 : zAt 6 157 m_Cl_workOn (.ireturn) 1 := ⟨hm_Cl_workOn, by decide +kernel⟩
theorem B_Cl_workOn_0 {G : Nat → Nat → Int32} {x1 x2 x3 : Int32} : zden 6 0 [.ref 1, .int x1, .int x2, .int x3, .retAddr 0, .retAddr 0, .retAddr 0, .retAddr 0] [] (zSH, G) = if (bI (0 ≤ x1 ∧ x1 < G 2 4)) = 0 then some (some (.int (-11)), (zSH, G)) else if ¬ (bI (0 ≤ x2 ∧ x2 ≤ 4)) = 0 then if ¬ (bI (1 ≤ x3 ∧ x3 ≤ 99)) = 0 then if (tget G 5 6 276 x1 3) = 0 then if (tget G 5 6 276 x1 8) < 6 then some (some (.int ((tget G 5 6 276 x1 (13 + x2)) + x3)), (zSH, (zup (tset (tset (tset G 5 6 276 x1 (13 + x2) ((tget G 5 6 276 x1 (13 + x2)) + x3)) 5 6 276 x1 8 ((tget G 5 6 276 x1 8) + 1)) 5 6 276 x1 (18 + x2) ((tget G 5 6 276 x1 8) + 1)) 2 10 (((tset (tset (tset G 5 6 276 x1 (13 + x2) ((tget G 5 6 276 x1 (13 + x2)) + x3)) 5 6 276 x1 8 ((tget G 5 6 276 x1 8) + 1)) 5 6 276 x1 (18 + x2) ((tget G 5 6 276 x1 8) + 1)) 2 10) + 1)))) else zaft 6 89 [.ref 1, .int x1, .int x2, .int x3, .ref 5, .int (tget G 5 6 276 x1 3), .int (tget G 5 6 276 x1 8), .retAddr 0] [] (zSH, G) (zden 2 0 [.ref 1, .int 1, .int (tget G 5 6 276 x1 8)] [] (zSH, G)) else zaft 6 64 [.ref 1, .int x1, .int x2, .int x3, .ref 5, .int (tget G 5 6 276 x1 3), .retAddr 0, .retAddr 0] [] (zSH, G) (zden 2 0 [.ref 1, .int 3, .int (tget G 5 6 276 x1 3)] [] (zSH, G)) else some (some (.int (-12)), (zSH, G)) else some (some (.int (-11)), (zSH, G)) :=
  (zd_aload_n a_Cl_workOn_0 rfl).trans ((zd_getR (h := (zSH, G)) (ci := 0) (fi := 0) (a := 2) a_Cl_workOn_1 (by decide +kernel) sh_1 rfl rfl).trans ((zd_iload_n a_Cl_workOn_4 rfl).trans ((zd_cal (kd := 0) (tg := 27) (T := m_Ho_hasGood) a_Cl_workOn_5 (by decide +kernel) hm_Ho_hasGood rfl rfl rfl rfl).trans (((congrArg (zaft 6 8 [.ref 1, .int x1, .int x2, .int x3, .retAddr 0, .retAddr 0, .retAddr 0, .retAddr 0] [] (zSH, G)) (sp_hasGood)).trans zaft_same).trans ((zd_if_eq a_Cl_workOn_8 rfl).trans (zitc (fun p11 => (zd_bipush (v := (-11)) a_Cl_workOn_18 (by decide)).trans (zd_iret a_Cl_workOn_20 rfl (znr_int _))) (fun p11 => (zd_iload_n a_Cl_workOn_11 rfl).trans ((zd_cal (kd := 3) (tg := 77) (T := m_T_isCountry) a_Cl_workOn_12 (by decide +kernel) hm_T_isCountry rfl rfl rfl rfl).trans (((congrArg (zaft 6 15 [.ref 1, .int x1, .int x2, .int x3, .retAddr 0, .retAddr 0, .retAddr 0, .retAddr 0] [] (zSH, G)) (sp_isCountry)).trans zaft_same).trans ((zd_if_ne a_Cl_workOn_15 rfl).trans (zitc (fun p12 => (zd_iload_n a_Cl_workOn_21 rfl).trans ((zd_iconst (v := 1) a_Cl_workOn_22 (by decide)).trans ((zd_bipush (v := 99) a_Cl_workOn_23 (by decide)).trans ((zd_cal (kd := 3) (tg := 71) (T := m_T_isWithin) a_Cl_workOn_25 (by decide +kernel) hm_T_isWithin rfl rfl rfl rfl).trans (((congrArg (zaft 6 28 [.ref 1, .int x1, .int x2, .int x3, .retAddr 0, .retAddr 0, .retAddr 0, .retAddr 0] [] (zSH, G)) (sp_isWithin)).trans zaft_same).trans ((zd_if_ne a_Cl_workOn_28 rfl).trans (zitc (fun p13 => (zd_aload_n a_Cl_workOn_34 rfl).trans ((zd_getR (h := (zSH, G)) (ci := 0) (fi := 0) (a := 2) a_Cl_workOn_35 (by decide +kernel) sh_1 rfl rfl).trans ((zd_getR (h := (zSH, G)) (ci := 2) (fi := 1) (a := 5) a_Cl_workOn_38 (by decide +kernel) sh_2 rfl rfl).trans ((zd_astore a_Cl_workOn_41 rfl rfl rfl).trans ((zd_aload a_Cl_workOn_43 rfl).trans ((zd_iload_n a_Cl_workOn_45 rfl).trans ((zd_iconst (v := 3) a_Cl_workOn_46 (by decide)).trans ((zd_cal (kd := 0) (tg := 53) (T := m_Ta_get) a_Cl_workOn_47 (by decide +kernel) hm_Ta_get rfl rfl rfl rfl).trans (((congrArg (zaft 6 50 [.ref 1, .int x1, .int x2, .int x3, .ref 5, .retAddr 0, .retAddr 0, .retAddr 0] [] (zSH, G)) (sp_get (r := 5) (q := 6) (n := 276) sh_5 sh_6 rfl (by decide))).trans zaft_same).trans ((zd_istore a_Cl_workOn_50 rfl rfl rfl).trans ((zd_iload a_Cl_workOn_52 rfl).trans ((zd_if_eq a_Cl_workOn_54 rfl).trans (zitc (fun p14 => (zd_aload a_Cl_workOn_65 rfl).trans ((zd_iload_n a_Cl_workOn_67 rfl).trans ((zd_bipush (v := 8) a_Cl_workOn_68 (by decide)).trans ((zd_cal (kd := 0) (tg := 53) (T := m_Ta_get) a_Cl_workOn_70 (by decide +kernel) hm_Ta_get rfl rfl rfl rfl).trans (((congrArg (zaft 6 73 [.ref 1, .int x1, .int x2, .int x3, .ref 5, .int (tget G 5 6 276 x1 3), .retAddr 0, .retAddr 0] [] (zSH, G)) (sp_get (r := 5) (q := 6) (n := 276) sh_5 sh_6 rfl (by decide))).trans zaft_same).trans ((zd_istore a_Cl_workOn_73 rfl rfl rfl).trans ((zd_iload a_Cl_workOn_75 rfl).trans ((zd_bipush (v := 6) a_Cl_workOn_77 (by decide)).trans ((zd_icmp_lt a_Cl_workOn_79 rfl).trans (zitc (fun p15 => (zd_aload a_Cl_workOn_90 rfl).trans ((zd_iload_n a_Cl_workOn_92 rfl).trans ((zd_bipush (v := 13) a_Cl_workOn_93 (by decide)).trans ((zd_iload_n a_Cl_workOn_95 rfl).trans ((zd_num (st2 := [.int (13 + x2), .int x1, .ref 5]) a_Cl_workOn_96 rfl rfl rfl rfl).trans ((zd_cal (kd := 0) (tg := 53) (T := m_Ta_get) a_Cl_workOn_97 (by decide +kernel) hm_Ta_get rfl rfl rfl rfl).trans (((congrArg (zaft 6 100 [.ref 1, .int x1, .int x2, .int x3, .ref 5, .int (tget G 5 6 276 x1 3), .int (tget G 5 6 276 x1 8), .retAddr 0] [] (zSH, G)) (sp_get (r := 5) (q := 6) (n := 276) sh_5 sh_6 rfl (by decide))).trans zaft_same).trans ((zd_iload_n a_Cl_workOn_100 rfl).trans ((zd_num (st2 := [.int ((tget G 5 6 276 x1 (13 + x2)) + x3)]) a_Cl_workOn_101 rfl rfl rfl rfl).trans ((zd_istore a_Cl_workOn_102 rfl rfl rfl).trans ((zd_aload a_Cl_workOn_104 rfl).trans ((zd_iload_n a_Cl_workOn_106 rfl).trans ((zd_bipush (v := 13) a_Cl_workOn_107 (by decide)).trans ((zd_iload_n a_Cl_workOn_109 rfl).trans ((zd_num (st2 := [.int (13 + x2), .int x1, .ref 5]) a_Cl_workOn_110 rfl rfl rfl rfl).trans ((zd_iload a_Cl_workOn_111 rfl).trans ((zd_cal (kd := 0) (tg := 51) (T := m_Ta_set) a_Cl_workOn_113 (by decide +kernel) hm_Ta_set rfl rfl rfl rfl).trans (((congrArg (zaft 6 116 [.ref 1, .int x1, .int x2, .int x3, .ref 5, .int (tget G 5 6 276 x1 3), .int (tget G 5 6 276 x1 8), .int ((tget G 5 6 276 x1 (13 + x2)) + x3)] [] (zSH, G)) (sp_set (r := 5) (q := 6) (n := 276) sh_5 sh_6 rfl (by decide))).trans zaft_same).trans ((zd_aload a_Cl_workOn_116 rfl).trans ((zd_iload_n a_Cl_workOn_118 rfl).trans ((zd_bipush (v := 8) a_Cl_workOn_119 (by decide)).trans ((zd_iload a_Cl_workOn_121 rfl).trans ((zd_iconst (v := 1) a_Cl_workOn_123 (by decide)).trans ((zd_num (st2 := [.int ((tget G 5 6 276 x1 8) + 1), .int 8, .int x1, .ref 5]) a_Cl_workOn_124 rfl rfl rfl rfl).trans ((zd_cal (kd := 0) (tg := 51) (T := m_Ta_set) a_Cl_workOn_125 (by decide +kernel) hm_Ta_set rfl rfl rfl rfl).trans (((congrArg (zaft 6 128 [.ref 1, .int x1, .int x2, .int x3, .ref 5, .int (tget G 5 6 276 x1 3), .int (tget G 5 6 276 x1 8), .int ((tget G 5 6 276 x1 (13 + x2)) + x3)] [] (zSH, (tset G 5 6 276 x1 (13 + x2) ((tget G 5 6 276 x1 (13 + x2)) + x3)))) (sp_set (r := 5) (q := 6) (n := 276) sh_5 sh_6 rfl (by decide))).trans zaft_same).trans ((zd_aload a_Cl_workOn_128 rfl).trans ((zd_iload_n a_Cl_workOn_130 rfl).trans ((zd_bipush (v := 18) a_Cl_workOn_131 (by decide)).trans ((zd_iload_n a_Cl_workOn_133 rfl).trans ((zd_num (st2 := [.int (18 + x2), .int x1, .ref 5]) a_Cl_workOn_134 rfl rfl rfl rfl).trans ((zd_iload a_Cl_workOn_135 rfl).trans ((zd_iconst (v := 1) a_Cl_workOn_137 (by decide)).trans ((zd_num (st2 := [.int ((tget G 5 6 276 x1 8) + 1), .int (18 + x2), .int x1, .ref 5]) a_Cl_workOn_138 rfl rfl rfl rfl).trans ((zd_cal (kd := 0) (tg := 51) (T := m_Ta_set) a_Cl_workOn_139 (by decide +kernel) hm_Ta_set rfl rfl rfl rfl).trans (((congrArg (zaft 6 142 [.ref 1, .int x1, .int x2, .int x3, .ref 5, .int (tget G 5 6 276 x1 3), .int (tget G 5 6 276 x1 8), .int ((tget G 5 6 276 x1 (13 + x2)) + x3)] [] (zSH, (tset (tset G 5 6 276 x1 (13 + x2) ((tget G 5 6 276 x1 (13 + x2)) + x3)) 5 6 276 x1 8 ((tget G 5 6 276 x1 8) + 1)))) (sp_set (r := 5) (q := 6) (n := 276) sh_5 sh_6 rfl (by decide))).trans zaft_same).trans ((zd_aload_n a_Cl_workOn_142 rfl).trans ((zd_getR (h := (zSH, (tset (tset (tset G 5 6 276 x1 (13 + x2) ((tget G 5 6 276 x1 (13 + x2)) + x3)) 5 6 276 x1 8 ((tget G 5 6 276 x1 8) + 1)) 5 6 276 x1 (18 + x2) ((tget G 5 6 276 x1 8) + 1)))) (ci := 0) (fi := 0) (a := 2) a_Cl_workOn_143 (by decide +kernel) sh_1 rfl rfl).trans ((zd_num (st2 := [.ref 2, .ref 2]) a_Cl_workOn_146 rfl rfl rfl rfl).trans ((zd_getI (h := (zSH, (tset (tset (tset G 5 6 276 x1 (13 + x2) ((tget G 5 6 276 x1 (13 + x2)) + x3)) 5 6 276 x1 8 ((tget G 5 6 276 x1 8) + 1)) 5 6 276 x1 (18 + x2) ((tget G 5 6 276 x1 8) + 1)))) (ci := 2) (fi := 10) a_Cl_workOn_147 (by decide +kernel) sh_2 rfl).trans ((zd_iconst (v := 1) a_Cl_workOn_150 (by decide)).trans ((zd_num (st2 := [.int (((tset (tset (tset G 5 6 276 x1 (13 + x2) ((tget G 5 6 276 x1 (13 + x2)) + x3)) 5 6 276 x1 8 ((tget G 5 6 276 x1 8) + 1)) 5 6 276 x1 (18 + x2) ((tget G 5 6 276 x1 8) + 1)) 2 10) + 1), .ref 2]) a_Cl_workOn_151 rfl rfl rfl rfl).trans ((zd_putI (h := (zSH, (tset (tset (tset G 5 6 276 x1 (13 + x2) ((tget G 5 6 276 x1 (13 + x2)) + x3)) 5 6 276 x1 8 ((tget G 5 6 276 x1 8) + 1)) 5 6 276 x1 (18 + x2) ((tget G 5 6 276 x1 8) + 1)))) (ci := 2) (fi := 10) a_Cl_workOn_152 (by decide +kernel) sh_2 rfl rfl).trans ((zd_iload a_Cl_workOn_155 rfl).trans (zd_iret a_Cl_workOn_157 rfl (znr_int _)))))))))))))))))))))))))))))))))))))))))))))) (fun p15 => (zd_aload_n a_Cl_workOn_82 rfl).trans ((zd_iconst (v := 1) a_Cl_workOn_83 (by decide)).trans ((zd_iload a_Cl_workOn_84 rfl).trans ((zd_cal (kd := 0) (tg := 2) (T := m_Cl_refuse) a_Cl_workOn_86 (by decide +kernel) hm_Cl_refuse rfl rfl rfl rfl))))))))))))))) (fun p14 => (zd_aload_n a_Cl_workOn_57 rfl).trans ((zd_iconst (v := 3) a_Cl_workOn_58 (by decide)).trans ((zd_iload a_Cl_workOn_59 rfl).trans ((zd_cal (kd := 0) (tg := 2) (T := m_Cl_refuse) a_Cl_workOn_61 (by decide +kernel) hm_Cl_refuse rfl rfl rfl rfl)))))))))))))))))) (fun p13 => (zd_bipush (v := (-12)) a_Cl_workOn_31 (by decide)).trans (zd_iret a_Cl_workOn_33 rfl (znr_int _)))))))))) (fun p12 => (zd_bipush (v := (-11)) a_Cl_workOn_18 (by decide)).trans (zd_iret a_Cl_workOn_20 rfl (znr_int _))))))))))))))
theorem B_Cl_workOn_64 {G : Nat → Nat → Int32} {x1 x2 x3 x5 s0 : Int32} : zden 6 64 [.ref 1, .int x1, .int x2, .int x3, .ref 5, .int x5, .retAddr 0, .retAddr 0] [.int s0] (zSH, G) = some (some (.int s0), (zSH, G)) :=
  zd_iret a_Cl_workOn_64 rfl (znr_int _)
theorem B_Cl_workOn_89 {G : Nat → Nat → Int32} {x1 x2 x3 x5 x6 s0 : Int32} : zden 6 89 [.ref 1, .int x1, .int x2, .int x3, .ref 5, .int x5, .int x6, .retAddr 0] [.int s0] (zSH, G) = some (some (.int s0), (zSH, G)) :=
  zd_iret a_Cl_workOn_89 rfl (znr_int _)
theorem a_Cl_favourCountry_0 : zAt 7 0 m_Cl_favourCountry (.iload_n 1) 1 := ⟨hm_Cl_favourCountry, by decide +kernel⟩
theorem a_Cl_favourCountry_1 : zAt 7 1 m_Cl_favourCountry (.invokestatic 70) 3 := ⟨hm_Cl_favourCountry, by decide +kernel⟩
theorem a_Cl_favourCountry_4 : zAt 7 4 m_Cl_favourCountry (.ifCond .ne 6) 3 := ⟨hm_Cl_favourCountry, by decide +kernel⟩
theorem a_Cl_favourCountry_7 : zAt 7 7 m_Cl_favourCountry (.bipush (-11)) 2 := ⟨hm_Cl_favourCountry, by decide +kernel⟩
theorem a_Cl_favourCountry_9 : zAt 7 9 m_Cl_favourCountry (.ireturn) 1 := ⟨hm_Cl_favourCountry, by decide +kernel⟩
theorem a_Cl_favourCountry_10 : zAt 7 10 m_Cl_favourCountry (.iload_n 2) 1 := ⟨hm_Cl_favourCountry, by decide +kernel⟩
theorem a_Cl_favourCountry_11 : zAt 7 11 m_Cl_favourCountry (.iconst 0) 1 := ⟨hm_Cl_favourCountry, by decide +kernel⟩
theorem a_Cl_favourCountry_12 : zAt 7 12 m_Cl_favourCountry (.bipush 100) 2 := ⟨hm_Cl_favourCountry, by decide +kernel⟩
theorem a_Cl_favourCountry_14 : zAt 7 14 m_Cl_favourCountry (.invokestatic 25) 3 := ⟨hm_Cl_favourCountry, by decide +kernel⟩
theorem a_Cl_favourCountry_17 : zAt 7 17 m_Cl_favourCountry (.ifCond .ne 6) 3 := ⟨hm_Cl_favourCountry, by decide +kernel⟩
theorem a_Cl_favourCountry_20 : zAt 7 20 m_Cl_favourCountry (.bipush (-12)) 2 := ⟨hm_Cl_favourCountry, by decide +kernel⟩
theorem a_Cl_favourCountry_22 : zAt 7 22 m_Cl_favourCountry (.ireturn) 1 := ⟨hm_Cl_favourCountry, by decide +kernel⟩
theorem a_Cl_favourCountry_23 : zAt 7 23 m_Cl_favourCountry (.aload_n 0) 1 := ⟨hm_Cl_favourCountry, by decide +kernel⟩
theorem a_Cl_favourCountry_24 : zAt 7 24 m_Cl_favourCountry (.getfield 12) 3 := ⟨hm_Cl_favourCountry, by decide +kernel⟩
theorem a_Cl_favourCountry_27 : zAt 7 27 m_Cl_favourCountry (.getfield 76) 3 := ⟨hm_Cl_favourCountry, by decide +kernel⟩
theorem a_Cl_favourCountry_30 : zAt 7 30 m_Cl_favourCountry (.iconst 0) 1 := ⟨hm_Cl_favourCountry, by decide +kernel⟩
theorem a_Cl_favourCountry_31 : zAt 7 31 m_Cl_favourCountry (.iload_n 1) 1 := ⟨hm_Cl_favourCountry, by decide +kernel⟩
theorem a_Cl_favourCountry_32 : zAt 7 32 m_Cl_favourCountry (.invokevirtual 44) 3 := ⟨hm_Cl_favourCountry, by decide +kernel⟩
theorem a_Cl_favourCountry_35 : zAt 7 35 m_Cl_favourCountry (.istore_n 3) 1 := ⟨hm_Cl_favourCountry, by decide +kernel⟩
theorem a_Cl_favourCountry_36 : zAt 7 36 m_Cl_favourCountry (.aload_n 0) 1 := ⟨hm_Cl_favourCountry, by decide +kernel⟩
theorem a_Cl_favourCountry_37 : zAt 7 37 m_Cl_favourCountry (.getfield 12) 3 := ⟨hm_Cl_favourCountry, by decide +kernel⟩
theorem a_Cl_favourCountry_40 : zAt 7 40 m_Cl_favourCountry (.getfield 76) 3 := ⟨hm_Cl_favourCountry, by decide +kernel⟩
theorem a_Cl_favourCountry_43 : zAt 7 43 m_Cl_favourCountry (.iconst 0) 1 := ⟨hm_Cl_favourCountry, by decide +kernel⟩
theorem a_Cl_favourCountry_44 : zAt 7 44 m_Cl_favourCountry (.iload_n 1) 1 := ⟨hm_Cl_favourCountry, by decide +kernel⟩
theorem a_Cl_favourCountry_45 : zAt 7 45 m_Cl_favourCountry (.iload_n 2) 1 := ⟨hm_Cl_favourCountry, by decide +kernel⟩
theorem a_Cl_favourCountry_46 : zAt 7 46 m_Cl_favourCountry (.invokevirtual 53) 3 := ⟨hm_Cl_favourCountry, by decide +kernel⟩
theorem a_Cl_favourCountry_49 : zAt 7 49 m_Cl_favourCountry (.iload_n 3) 1 := ⟨hm_Cl_favourCountry, by decide +kernel⟩
theorem a_Cl_favourCountry_50 : zAt 7 50 m_Cl_favourCountry (.ireturn) 1 := ⟨hm_Cl_favourCountry, by decide +kernel⟩
theorem B_Cl_favourCountry_0 {G : Nat → Nat → Int32} {x1 x2 : Int32} : zden 7 0 [.ref 1, .int x1, .int x2, .retAddr 0] [] (zSH, G) = if ¬ (bI (0 ≤ x1 ∧ x1 ≤ 4)) = 0 then if ¬ (bI (0 ≤ x2 ∧ x2 ≤ 100)) = 0 then some (some (.int (tget G 7 8 5 0 x1)), (zSH, (tset G 7 8 5 0 x1 x2))) else some (some (.int (-12)), (zSH, G)) else some (some (.int (-11)), (zSH, G)) :=
  (zd_iload_n a_Cl_favourCountry_0 rfl).trans ((zd_cal (kd := 3) (tg := 77) (T := m_T_isCountry) a_Cl_favourCountry_1 (by decide +kernel) hm_T_isCountry rfl rfl rfl rfl).trans (((congrArg (zaft 7 4 [.ref 1, .int x1, .int x2, .retAddr 0] [] (zSH, G)) (sp_isCountry)).trans zaft_same).trans ((zd_if_ne a_Cl_favourCountry_4 rfl).trans (zitc (fun p3 => (zd_iload_n a_Cl_favourCountry_10 rfl).trans ((zd_iconst (v := 0) a_Cl_favourCountry_11 (by decide)).trans ((zd_bipush (v := 100) a_Cl_favourCountry_12 (by decide)).trans ((zd_cal (kd := 3) (tg := 71) (T := m_T_isWithin) a_Cl_favourCountry_14 (by decide +kernel) hm_T_isWithin rfl rfl rfl rfl).trans (((congrArg (zaft 7 17 [.ref 1, .int x1, .int x2, .retAddr 0] [] (zSH, G)) (sp_isWithin)).trans zaft_same).trans ((zd_if_ne a_Cl_favourCountry_17 rfl).trans (zitc (fun p4 => (zd_aload_n a_Cl_favourCountry_23 rfl).trans ((zd_getR (h := (zSH, G)) (ci := 0) (fi := 0) (a := 2) a_Cl_favourCountry_24 (by decide +kernel) sh_1 rfl rfl).trans ((zd_getR (h := (zSH, G)) (ci := 2) (fi := 2) (a := 7) a_Cl_favourCountry_27 (by decide +kernel) sh_2 rfl rfl).trans ((zd_iconst (v := 0) a_Cl_favourCountry_30 (by decide)).trans ((zd_iload_n a_Cl_favourCountry_31 rfl).trans ((zd_cal (kd := 0) (tg := 53) (T := m_Ta_get) a_Cl_favourCountry_32 (by decide +kernel) hm_Ta_get rfl rfl rfl rfl).trans (((congrArg (zaft 7 35 [.ref 1, .int x1, .int x2, .retAddr 0] [] (zSH, G)) (sp_get (r := 7) (q := 8) (n := 5) sh_7 sh_8 rfl (by decide))).trans zaft_same).trans ((zd_istore_n a_Cl_favourCountry_35 rfl rfl rfl).trans ((zd_aload_n a_Cl_favourCountry_36 rfl).trans ((zd_getR (h := (zSH, G)) (ci := 0) (fi := 0) (a := 2) a_Cl_favourCountry_37 (by decide +kernel) sh_1 rfl rfl).trans ((zd_getR (h := (zSH, G)) (ci := 2) (fi := 2) (a := 7) a_Cl_favourCountry_40 (by decide +kernel) sh_2 rfl rfl).trans ((zd_iconst (v := 0) a_Cl_favourCountry_43 (by decide)).trans ((zd_iload_n a_Cl_favourCountry_44 rfl).trans ((zd_iload_n a_Cl_favourCountry_45 rfl).trans ((zd_cal (kd := 0) (tg := 51) (T := m_Ta_set) a_Cl_favourCountry_46 (by decide +kernel) hm_Ta_set rfl rfl rfl rfl).trans (((congrArg (zaft 7 49 [.ref 1, .int x1, .int x2, .int (tget G 7 8 5 0 x1)] [] (zSH, G)) (sp_set (r := 7) (q := 8) (n := 5) sh_7 sh_8 rfl (by decide))).trans zaft_same).trans ((zd_iload_n a_Cl_favourCountry_49 rfl).trans (zd_iret a_Cl_favourCountry_50 rfl (znr_int _))))))))))))))))))) (fun p4 => (zd_bipush (v := (-12)) a_Cl_favourCountry_20 (by decide)).trans (zd_iret a_Cl_favourCountry_22 rfl (znr_int _)))))))))) (fun p3 => (zd_bipush (v := (-11)) a_Cl_favourCountry_7 (by decide)).trans (zd_iret a_Cl_favourCountry_9 rfl (znr_int _)))))))
theorem a_Cl_give_0 : zAt 8 0 m_Cl_give (.iload_n 1) 1 := ⟨hm_Cl_give, by decide +kernel⟩
theorem a_Cl_give_1 : zAt 8 1 m_Cl_give (.iconst 1) 1 := ⟨hm_Cl_give, by decide +kernel⟩
theorem a_Cl_give_2 : zAt 8 2 m_Cl_give (.sipush 9999) 3 := ⟨hm_Cl_give, by decide +kernel⟩
theorem a_Cl_give_5 : zAt 8 5 m_Cl_give (.invokestatic 25) 3 := ⟨hm_Cl_give, by decide +kernel⟩
theorem a_Cl_give_8 : zAt 8 8 m_Cl_give (.ifCond .ne 6) 3 := ⟨hm_Cl_give, by decide +kernel⟩
theorem a_Cl_give_11 : zAt 8 11 m_Cl_give (.bipush (-12)) 2 := ⟨hm_Cl_give, by decide +kernel⟩
theorem a_Cl_give_13 : zAt 8 13 m_Cl_give (.ireturn) 1 := ⟨hm_Cl_give, by decide +kernel⟩
theorem a_Cl_give_14 : zAt 8 14 m_Cl_give (.aload_n 0) 1 := ⟨hm_Cl_give, by decide +kernel⟩
theorem a_Cl_give_15 : zAt 8 15 m_Cl_give (.getfield 12) 3 := ⟨hm_Cl_give, by decide +kernel⟩
theorem a_Cl_give_18 : zAt 8 18 m_Cl_give (.dup) 1 := ⟨hm_Cl_give, by decide +kernel⟩
theorem a_Cl_give_19 : zAt 8 19 m_Cl_give (.getfield 79) 3 := ⟨hm_Cl_give, by decide +kernel⟩
theorem a_Cl_give_22 : zAt 8 22 m_Cl_give (.iload_n 1) 1 := ⟨hm_Cl_give, by decide +kernel⟩
theorem a_Cl_give_23 : zAt 8 23 m_Cl_give (.iadd) 1 := ⟨hm_Cl_give, by decide +kernel⟩
theorem a_Cl_give_24 : zAt 8 24 m_Cl_give (.putfield 79) 3 := ⟨hm_Cl_give, by decide +kernel⟩
theorem a_Cl_give_27 : zAt 8 27 m_Cl_give (.aload_n 0) 1 := ⟨hm_Cl_give, by decide +kernel⟩
theorem a_Cl_give_28 : zAt 8 28 m_Cl_give (.getfield 12) 3 := ⟨hm_Cl_give, by decide +kernel⟩
theorem a_Cl_give_31 : zAt 8 31 m_Cl_give (.dup) 1 := ⟨hm_Cl_give, by decide +kernel⟩
theorem a_Cl_give_32 : zAt 8 32 m_Cl_give (.getfield 82) 3 := ⟨hm_Cl_give, by decide +kernel⟩
theorem a_Cl_give_35 : zAt 8 35 m_Cl_give (.iload_n 1) 1 := ⟨hm_Cl_give, by decide +kernel⟩
theorem a_Cl_give_36 : zAt 8 36 m_Cl_give (.iadd) 1 := ⟨hm_Cl_give, by decide +kernel⟩
theorem a_Cl_give_37 : zAt 8 37 m_Cl_give (.putfield 82) 3 := ⟨hm_Cl_give, by decide +kernel⟩
theorem a_Cl_give_40 : zAt 8 40 m_Cl_give (.aload_n 0) 1 := ⟨hm_Cl_give, by decide +kernel⟩
theorem a_Cl_give_41 : zAt 8 41 m_Cl_give (.getfield 12) 3 := ⟨hm_Cl_give, by decide +kernel⟩
theorem a_Cl_give_44 : zAt 8 44 m_Cl_give (.getfield 82) 3 := ⟨hm_Cl_give, by decide +kernel⟩
theorem a_Cl_give_47 : zAt 8 47 m_Cl_give (.ireturn) 1 := ⟨hm_Cl_give, by decide +kernel⟩
theorem B_Cl_give_0 {G : Nat → Nat → Int32} {x1 : Int32} : zden 8 0 [.ref 1, .int x1] [] (zSH, G) = if ¬ (bI (1 ≤ x1 ∧ x1 ≤ 9999)) = 0 then some (some (.int ((zup (zup G 2 7 ((G 2 7) + x1)) 2 6 (((zup G 2 7 ((G 2 7) + x1)) 2 6) + x1)) 2 6)), (zSH, (zup (zup G 2 7 ((G 2 7) + x1)) 2 6 (((zup G 2 7 ((G 2 7) + x1)) 2 6) + x1)))) else some (some (.int (-12)), (zSH, G)) :=
  (zd_iload_n a_Cl_give_0 rfl).trans ((zd_iconst (v := 1) a_Cl_give_1 (by decide)).trans ((zd_sipush (v := 9999) a_Cl_give_2 (by decide)).trans ((zd_cal (kd := 3) (tg := 71) (T := m_T_isWithin) a_Cl_give_5 (by decide +kernel) hm_T_isWithin rfl rfl rfl rfl).trans (((congrArg (zaft 8 8 [.ref 1, .int x1] [] (zSH, G)) (sp_isWithin)).trans zaft_same).trans ((zd_if_ne a_Cl_give_8 rfl).trans (zitc (fun p2 => (zd_aload_n a_Cl_give_14 rfl).trans ((zd_getR (h := (zSH, G)) (ci := 0) (fi := 0) (a := 2) a_Cl_give_15 (by decide +kernel) sh_1 rfl rfl).trans ((zd_num (st2 := [.ref 2, .ref 2]) a_Cl_give_18 rfl rfl rfl rfl).trans ((zd_getI (h := (zSH, G)) (ci := 2) (fi := 7) a_Cl_give_19 (by decide +kernel) sh_2 rfl).trans ((zd_iload_n a_Cl_give_22 rfl).trans ((zd_num (st2 := [.int ((G 2 7) + x1), .ref 2]) a_Cl_give_23 rfl rfl rfl rfl).trans ((zd_putI (h := (zSH, G)) (ci := 2) (fi := 7) a_Cl_give_24 (by decide +kernel) sh_2 rfl rfl).trans ((zd_aload_n a_Cl_give_27 rfl).trans ((zd_getR (h := (zSH, (zup G 2 7 ((G 2 7) + x1)))) (ci := 0) (fi := 0) (a := 2) a_Cl_give_28 (by decide +kernel) sh_1 rfl rfl).trans ((zd_num (st2 := [.ref 2, .ref 2]) a_Cl_give_31 rfl rfl rfl rfl).trans ((zd_getI (h := (zSH, (zup G 2 7 ((G 2 7) + x1)))) (ci := 2) (fi := 6) a_Cl_give_32 (by decide +kernel) sh_2 rfl).trans ((zd_iload_n a_Cl_give_35 rfl).trans ((zd_num (st2 := [.int (((zup G 2 7 ((G 2 7) + x1)) 2 6) + x1), .ref 2]) a_Cl_give_36 rfl rfl rfl rfl).trans ((zd_putI (h := (zSH, (zup G 2 7 ((G 2 7) + x1)))) (ci := 2) (fi := 6) a_Cl_give_37 (by decide +kernel) sh_2 rfl rfl).trans ((zd_aload_n a_Cl_give_40 rfl).trans ((zd_getR (h := (zSH, (zup (zup G 2 7 ((G 2 7) + x1)) 2 6 (((zup G 2 7 ((G 2 7) + x1)) 2 6) + x1)))) (ci := 0) (fi := 0) (a := 2) a_Cl_give_41 (by decide +kernel) sh_1 rfl rfl).trans ((zd_getI (h := (zSH, (zup (zup G 2 7 ((G 2 7) + x1)) 2 6 (((zup G 2 7 ((G 2 7) + x1)) 2 6) + x1)))) (ci := 2) (fi := 6) a_Cl_give_44 (by decide +kernel) sh_2 rfl).trans (zd_iret a_Cl_give_47 rfl (znr_int _))))))))))))))))))) (fun p2 => (zd_bipush (v := (-12)) a_Cl_give_11 (by decide)).trans (zd_iret a_Cl_give_13 rfl (znr_int _)))))))))
theorem a_Cl_letIn_0 : zAt 9 0 m_Cl_letIn (.aload_n 0) 1 := ⟨hm_Cl_letIn, by decide +kernel⟩
theorem a_Cl_letIn_1 : zAt 9 1 m_Cl_letIn (.getfield 12) 3 := ⟨hm_Cl_letIn, by decide +kernel⟩
theorem a_Cl_letIn_4 : zAt 9 4 m_Cl_letIn (.iload_n 1) 1 := ⟨hm_Cl_letIn, by decide +kernel⟩
theorem a_Cl_letIn_5 : zAt 9 5 m_Cl_letIn (.invokevirtual 66) 3 := ⟨hm_Cl_letIn, by decide +kernel⟩
theorem a_Cl_letIn_8 : zAt 9 8 m_Cl_letIn (.ifCond .ne 6) 3 := ⟨hm_Cl_letIn, by decide +kernel⟩
theorem a_Cl_letIn_11 : zAt 9 11 m_Cl_letIn (.bipush (-11)) 2 := ⟨hm_Cl_letIn, by decide +kernel⟩
theorem a_Cl_letIn_13 : zAt 9 13 m_Cl_letIn (.ireturn) 1 := ⟨hm_Cl_letIn, by decide +kernel⟩
theorem a_Cl_letIn_14 : zAt 9 14 m_Cl_letIn (.aload_n 0) 1 := ⟨hm_Cl_letIn, by decide +kernel⟩
theorem a_Cl_letIn_15 : zAt 9 15 m_Cl_letIn (.getfield 12) 3 := ⟨hm_Cl_letIn, by decide +kernel⟩
theorem a_Cl_letIn_18 : zAt 9 18 m_Cl_letIn (.getfield 60) 3 := ⟨hm_Cl_letIn, by decide +kernel⟩
theorem a_Cl_letIn_21 : zAt 9 21 m_Cl_letIn (.iload_n 1) 1 := ⟨hm_Cl_letIn, by decide +kernel⟩
theorem a_Cl_letIn_22 : zAt 9 22 m_Cl_letIn (.iconst 3) 1 := ⟨hm_Cl_letIn, by decide +kernel⟩
theorem a_Cl_letIn_23 : zAt 9 23 m_Cl_letIn (.invokevirtual 44) 3 := ⟨hm_Cl_letIn, by decide +kernel⟩
theorem a_Cl_letIn_26 : zAt 9 26 m_Cl_letIn (.istore_n 2) 1 := ⟨hm_Cl_letIn, by decide +kernel⟩
theorem a_Cl_letIn_27 : zAt 9 27 m_Cl_letIn (.iload_n 2) 1 := ⟨hm_Cl_letIn, by decide +kernel⟩
theorem a_Cl_letIn_28 : zAt 9 28 m_Cl_letIn (.ifCond .eq 10) 3 := ⟨hm_Cl_letIn, by decide +kernel⟩
theorem a_Cl_letIn_31 : zAt 9 31 m_Cl_letIn (.aload_n 0) 1 := ⟨hm_Cl_letIn, by decide +kernel⟩
theorem a_Cl_letIn_32 : zAt 9 32 m_Cl_letIn (.iconst 3) 1 := ⟨hm_Cl_letIn, by decide +kernel⟩
theorem a_Cl_letIn_33 : zAt 9 33 m_Cl_letIn (.iload_n 2) 1 := ⟨hm_Cl_letIn, by decide +kernel⟩
theorem a_Cl_letIn_34 : zAt 9 34 m_Cl_letIn (.invokevirtual 33) 3 := ⟨hm_Cl_letIn, by decide +kernel⟩
theorem a_Cl_letIn_37 : zAt 9 37 m_Cl_letIn (.ireturn) 1 := ⟨hm_Cl_letIn, by decide +kernel⟩
theorem a_Cl_letIn_38 : zAt 9 38 m_Cl_letIn (.aload_n 0) 1 := ⟨hm_Cl_letIn, by decide +kernel⟩
theorem a_Cl_letIn_39 : zAt 9 39 m_Cl_letIn (.getfield 12) 3 := ⟨hm_Cl_letIn, by decide +kernel⟩
theorem a_Cl_letIn_42 : zAt 9 42 m_Cl_letIn (.iload_n 1) 1 := ⟨hm_Cl_letIn, by decide +kernel⟩
theorem a_Cl_letIn_43 : zAt 9 43 m_Cl_letIn (.invokevirtual 85) 3 := ⟨hm_Cl_letIn, by decide +kernel⟩
theorem a_Cl_letIn_46 : zAt 9 46 m_Cl_letIn (.istore_n 3) 1 := ⟨hm_Cl_letIn, by decide +kernel⟩
theorem a_Cl_letIn_47 : zAt 9 47 m_Cl_letIn (.iload_n 3) 1 := ⟨hm_Cl_letIn, by decide +kernel⟩
theorem a_Cl_letIn_48 : zAt 9 48 m_Cl_letIn (.ifCond .ge 10) 3 := ⟨hm_Cl_letIn, by decide +kernel⟩
theorem a_Cl_letIn_51 : zAt 9 51 m_Cl_letIn (.aload_n 0) 1 := ⟨hm_Cl_letIn, by decide +kernel⟩
theorem a_Cl_letIn_52 : zAt 9 52 m_Cl_letIn (.iconst 4) 1 := ⟨hm_Cl_letIn, by decide +kernel⟩
theorem a_Cl_letIn_53 : zAt 9 53 m_Cl_letIn (.iload_n 1) 1 := ⟨hm_Cl_letIn, by decide +kernel⟩
theorem a_Cl_letIn_54 : zAt 9 54 m_Cl_letIn (.invokevirtual 33) 3 := ⟨hm_Cl_letIn, by decide +kernel⟩
theorem a_Cl_letIn_57 : zAt 9 57 m_Cl_letIn (.ireturn) 1 := ⟨hm_Cl_letIn, by decide +kernel⟩
theorem a_Cl_letIn_58 : zAt 9 58 m_Cl_letIn (.aload_n 0) 1 := ⟨hm_Cl_letIn, by decide +kernel⟩
theorem a_Cl_letIn_59 : zAt 9 59 m_Cl_letIn (.getfield 12) 3 := ⟨hm_Cl_letIn, by decide +kernel⟩
theorem a_Cl_letIn_62 : zAt 9 62 m_Cl_letIn (.iload_n 1) 1 := ⟨hm_Cl_letIn, by decide +kernel⟩
theorem a_Cl_letIn_63 : zAt 9 63 m_Cl_letIn (.iload_n 3) 1 := ⟨hm_Cl_letIn, by decide +kernel⟩
theorem a_Cl_letIn_64 : zAt 9 64 m_Cl_letIn (.invokevirtual 88) 3 := ⟨hm_Cl_letIn, by decide +kernel⟩
theorem a_Cl_letIn_67 : zAt 9 67 m_Cl_letIn (.istore 4) 2 := ⟨hm_Cl_letIn, by decide +kernel⟩
theorem a_Cl_letIn_69 : zAt 9 69 m_Cl_letIn (.iload 4) 2 := ⟨hm_Cl_letIn, by decide +kernel⟩
theorem a_Cl_letIn_71 : zAt 9 71 m_Cl_letIn (.aload_n 0) 1 := ⟨hm_Cl_letIn, by decide +kernel⟩
theorem a_Cl_letIn_72 : zAt 9 72 m_Cl_letIn (.getfield 12) 3 := ⟨hm_Cl_letIn, by decide +kernel⟩
theorem a_Cl_letIn_75 : zAt 9 75 m_Cl_letIn (.getfield 82) 3 := ⟨hm_Cl_letIn, by decide +kernel⟩
theorem a_Cl_letIn_78 : zAt 9 78 m_Cl_letIn (.if_icmp .le 19) 3 := ⟨hm_Cl_letIn, by decide +kernel⟩
theorem a_Cl_letIn_81 : zAt 9 81 m_Cl_letIn (.aload_n 0) 1 := ⟨hm_Cl_letIn, by decide +kernel⟩
theorem a_Cl_letIn_82 : zAt 9 82 m_Cl_letIn (.iconst 5) 1 := ⟨hm_Cl_letIn, by decide +kernel⟩
theorem a_Cl_letIn_83 : zAt 9 83 m_Cl_letIn (.iload 4) 2 := ⟨hm_Cl_letIn, by decide +kernel⟩
theorem a_Cl_letIn_85 : zAt 9 85 m_Cl_letIn (.aload_n 0) 1 := ⟨hm_Cl_letIn, by decide +kernel⟩
theorem a_Cl_letIn_86 : zAt 9 86 m_Cl_letIn (.getfield 12) 3 := ⟨hm_Cl_letIn, by decide +kernel⟩
theorem a_Cl_letIn_89 : zAt 9 89 m_Cl_letIn (.getfield 82) 3 := ⟨hm_Cl_letIn, by decide +kernel⟩
theorem a_Cl_letIn_92 : zAt 9 92 m_Cl_letIn (.isub) 1 := ⟨hm_Cl_letIn, by decide +kernel⟩
theorem a_Cl_letIn_93 : zAt 9 93 m_Cl_letIn (.invokevirtual 33) 3 := ⟨hm_Cl_letIn, by decide +kernel⟩
theorem a_Cl_letIn_96 : zAt 9 96 m_Cl_letIn (.ireturn) 1 := ⟨hm_Cl_letIn, by decide +kernel⟩
theorem a_Cl_letIn_97 : zAt 9 97 m_Cl_letIn (.aload_n 0) 1 := ⟨hm_Cl_letIn, by decide +kernel⟩
theorem a_Cl_letIn_98 : zAt 9 98 m_Cl_letIn (.getfield 12) 3 := ⟨hm_Cl_letIn, by decide +kernel⟩
theorem a_Cl_letIn_101 : zAt 9 101 m_Cl_letIn (.dup) 1 := ⟨hm_Cl_letIn, by decide +kernel⟩
theorem a_Cl_letIn_102 : zAt 9 102 m_Cl_letIn (.getfield 82) 3 := ⟨hm_Cl_letIn, by decide +kernel⟩
theorem a_Cl_letIn_105 : zAt 9 105 m_Cl_letIn (.iload 4) 2 := ⟨hm_Cl_letIn, by decide +kernel⟩
theorem a_Cl_letIn_107 : zAt 9 107 m_Cl_letIn (.isub) 1 := ⟨hm_Cl_letIn, by decide +kernel⟩
theorem a_Cl_letIn_108 : zAt 9 108 m_Cl_letIn (.putfield 82) 3 := ⟨hm_Cl_letIn, by decide +kernel⟩
theorem a_Cl_letIn_111 : zAt 9 111 m_Cl_letIn (.aload_n 0) 1 := ⟨hm_Cl_letIn, by decide +kernel⟩
theorem a_Cl_letIn_112 : zAt 9 112 m_Cl_letIn (.getfield 12) 3 := ⟨hm_Cl_letIn, by decide +kernel⟩
theorem a_Cl_letIn_115 : zAt 9 115 m_Cl_letIn (.dup) 1 := ⟨hm_Cl_letIn, by decide +kernel⟩
theorem a_Cl_letIn_116 : zAt 9 116 m_Cl_letIn (.getfield 91) 3 := ⟨hm_Cl_letIn, by decide +kernel⟩
theorem a_Cl_letIn_119 : zAt 9 119 m_Cl_letIn (.iload 4) 2 := ⟨hm_Cl_letIn, by decide +kernel⟩
theorem a_Cl_letIn_121 : zAt 9 121 m_Cl_letIn (.iadd) 1 := ⟨hm_Cl_letIn, by decide +kernel⟩
theorem a_Cl_letIn_122 : zAt 9 122 m_Cl_letIn (.putfield 91) 3 := ⟨hm_Cl_letIn, by decide +kernel⟩
theorem a_Cl_letIn_125 : zAt 9 125 m_Cl_letIn (.aload_n 0) 1 := ⟨hm_Cl_letIn, by decide +kernel⟩
theorem a_Cl_letIn_126 : zAt 9 126 m_Cl_letIn (.getfield 12) 3 := ⟨hm_Cl_letIn, by decide +kernel⟩
theorem a_Cl_letIn_129 : zAt 9 129 m_Cl_letIn (.getfield 60) 3 := ⟨hm_Cl_letIn, by decide +kernel⟩
theorem a_Cl_letIn_132 : zAt 9 132 m_Cl_letIn (.iload_n 1) 1 := ⟨hm_Cl_letIn, by decide +kernel⟩
theorem a_Cl_letIn_133 : zAt 9 133 m_Cl_letIn (.iconst 3) 1 := ⟨hm_Cl_letIn, by decide +kernel⟩
theorem a_Cl_letIn_134 : zAt 9 134 m_Cl_letIn (.iconst 1) 1 := ⟨hm_Cl_letIn, by decide +kernel⟩
theorem a_Cl_letIn_135 : zAt 9 135 m_Cl_letIn (.invokevirtual 53) 3 := ⟨hm_Cl_letIn, by decide +kernel⟩
theorem a_Cl_letIn_138 : zAt 9 138 m_Cl_letIn (.aload_n 0) 1 := ⟨hm_Cl_letIn, by decide +kernel⟩
theorem a_Cl_letIn_139 : zAt 9 139 m_Cl_letIn (.getfield 12) 3 := ⟨hm_Cl_letIn, by decide +kernel⟩
theorem a_Cl_letIn_142 : zAt 9 142 m_Cl_letIn (.getfield 60) 3 := ⟨hm_Cl_letIn, by decide +kernel⟩
theorem a_Cl_letIn_145 : zAt 9 145 m_Cl_letIn (.iload_n 1) 1 := ⟨hm_Cl_letIn, by decide +kernel⟩
theorem a_Cl_letIn_146 : zAt 9 146 m_Cl_letIn (.iconst 5) 1 := ⟨hm_Cl_letIn, by decide +kernel⟩
theorem a_Cl_letIn_147 : zAt 9 147 m_Cl_letIn (.iload 4) 2 := ⟨hm_Cl_letIn, by decide +kernel⟩
theorem a_Cl_letIn_149 : zAt 9 149 m_Cl_letIn (.invokevirtual 53) 3 := ⟨hm_Cl_letIn, by decide +kernel⟩
theorem a_Cl_letIn_152 : zAt 9 152 m_Cl_letIn (.aload_n 0) 1 := ⟨hm_Cl_letIn, by decide +kernel⟩
theorem a_Cl_letIn_153 : zAt 9 153 m_Cl_letIn (.getfield 12) 3 := ⟨hm_Cl_letIn, by decide +kernel⟩
theorem a_Cl_letIn_156 : zAt 9 156 m_Cl_letIn (.getfield 60) 3 := ⟨hm_Cl_letIn, by decide +kernel⟩
theorem a_Cl_letIn_159 : zAt 9 159 m_Cl_letIn (.iload_n 1) 1 := ⟨hm_Cl_letIn, by decide +kernel⟩
theorem a_Cl_letIn_160 : zAt 9 160 m_Cl_letIn (.bipush 7) 2 := ⟨hm_Cl_letIn, by decide +kernel⟩
theorem a_Cl_letIn_162 : zAt 9 162 m_Cl_letIn (.aload_n 0) 1 := ⟨hm_Cl_letIn, by decide +kernel⟩
theorem a_Cl_letIn_163 : zAt 9 163 m_Cl_letIn (.getfield 12) 3 := ⟨hm_Cl_letIn, by decide +kernel⟩
theorem a_Cl_letIn_166 : zAt 9 166 m_Cl_letIn (.getfield 94) 3 := ⟨hm_Cl_letIn, by decide +kernel⟩
theorem a_Cl_letIn_169 : zAt 9 169 m_Cl_letIn (.invokevirtual 53) 3 := ⟨hm_Cl_letIn, by decide +kernel⟩
theorem a_Cl_letIn_172 : zAt 9 172 m_Cl_letIn (.iload 4) 2 := ⟨hm_Cl_letIn, by decide +kernel⟩
theorem a_Cl_letIn_174 : zAt 9 174 m_Cl_letIn (.ireturn) 1 := ⟨hm_Cl_letIn, by decide +kernel⟩
theorem B_Cl_letIn_0 {G : Nat → Nat → Int32} {x1 : Int32} : zden 9 0 [.ref 1, .int x1, .retAddr 0, .retAddr 0, .retAddr 0] [] (zSH, G) = if ¬ (bI (0 ≤ x1 ∧ x1 < G 2 4)) = 0 then if (tget G 5 6 276 x1 3) = 0 then zaft 9 46 [.ref 1, .int x1, .int (tget G 5 6 276 x1 3), .retAddr 0, .retAddr 0] [] (zSH, G) (zden 28 0 [.ref 2, .int x1, .retAddr 0, .retAddr 0, .retAddr 0, .retAddr 0, .retAddr 0, .retAddr 0] [] (zSH, G)) else zaft 9 37 [.ref 1, .int x1, .int (tget G 5 6 276 x1 3), .retAddr 0, .retAddr 0] [] (zSH, G) (zden 2 0 [.ref 1, .int 3, .int (tget G 5 6 276 x1 3)] [] (zSH, G)) else some (some (.int (-11)), (zSH, G)) :=
  (zd_aload_n a_Cl_letIn_0 rfl).trans ((zd_getR (h := (zSH, G)) (ci := 0) (fi := 0) (a := 2) a_Cl_letIn_1 (by decide +kernel) sh_1 rfl rfl).trans ((zd_iload_n a_Cl_letIn_4 rfl).trans ((zd_cal (kd := 0) (tg := 27) (T := m_Ho_hasGood) a_Cl_letIn_5 (by decide +kernel) hm_Ho_hasGood rfl rfl rfl rfl).trans (((congrArg (zaft 9 8 [.ref 1, .int x1, .retAddr 0, .retAddr 0, .retAddr 0] [] (zSH, G)) (sp_hasGood)).trans zaft_same).trans ((zd_if_ne a_Cl_letIn_8 rfl).trans (zitc (fun p14 => (zd_aload_n a_Cl_letIn_14 rfl).trans ((zd_getR (h := (zSH, G)) (ci := 0) (fi := 0) (a := 2) a_Cl_letIn_15 (by decide +kernel) sh_1 rfl rfl).trans ((zd_getR (h := (zSH, G)) (ci := 2) (fi := 1) (a := 5) a_Cl_letIn_18 (by decide +kernel) sh_2 rfl rfl).trans ((zd_iload_n a_Cl_letIn_21 rfl).trans ((zd_iconst (v := 3) a_Cl_letIn_22 (by decide)).trans ((zd_cal (kd := 0) (tg := 53) (T := m_Ta_get) a_Cl_letIn_23 (by decide +kernel) hm_Ta_get rfl rfl rfl rfl).trans (((congrArg (zaft 9 26 [.ref 1, .int x1, .retAddr 0, .retAddr 0, .retAddr 0] [] (zSH, G)) (sp_get (r := 5) (q := 6) (n := 276) sh_5 sh_6 rfl (by decide))).trans zaft_same).trans ((zd_istore_n a_Cl_letIn_26 rfl rfl rfl).trans ((zd_iload_n a_Cl_letIn_27 rfl).trans ((zd_if_eq a_Cl_letIn_28 rfl).trans (zitc (fun p15 => (zd_aload_n a_Cl_letIn_38 rfl).trans ((zd_getR (h := (zSH, G)) (ci := 0) (fi := 0) (a := 2) a_Cl_letIn_39 (by decide +kernel) sh_1 rfl rfl).trans ((zd_iload_n a_Cl_letIn_42 rfl).trans ((zd_cal (kd := 0) (tg := 28) (T := m_Ho_originOf) a_Cl_letIn_43 (by decide +kernel) hm_Ho_originOf rfl rfl rfl rfl))))) (fun p15 => (zd_aload_n a_Cl_letIn_31 rfl).trans ((zd_iconst (v := 3) a_Cl_letIn_32 (by decide)).trans ((zd_iload_n a_Cl_letIn_33 rfl).trans ((zd_cal (kd := 0) (tg := 2) (T := m_Cl_refuse) a_Cl_letIn_34 (by decide +kernel) hm_Cl_refuse rfl rfl rfl rfl)))))))))))))))) (fun p14 => (zd_bipush (v := (-11)) a_Cl_letIn_11 (by decide)).trans (zd_iret a_Cl_letIn_13 rfl (znr_int _)))))))))
theorem B_Cl_letIn_37 {G : Nat → Nat → Int32} {x1 x2 s0 : Int32} : zden 9 37 [.ref 1, .int x1, .int x2, .retAddr 0, .retAddr 0] [.int s0] (zSH, G) = some (some (.int s0), (zSH, G)) :=
  zd_iret a_Cl_letIn_37 rfl (znr_int _)
theorem B_Cl_letIn_46 {G : Nat → Nat → Int32} {x1 x2 s0 : Int32} : zden 9 46 [.ref 1, .int x1, .int x2, .retAddr 0, .retAddr 0] [.int s0] (zSH, G) = if 0 ≤ s0 then zaft 9 67 [.ref 1, .int x1, .int x2, .int s0, .retAddr 0] [] (zSH, G) (zden 29 0 [.ref 2, .int x1, .int s0, .retAddr 0, .retAddr 0, .retAddr 0, .retAddr 0] [] (zSH, G)) else zaft 9 57 [.ref 1, .int x1, .int x2, .int s0, .retAddr 0] [] (zSH, G) (zden 2 0 [.ref 1, .int 4, .int x1] [] (zSH, G)) :=
  (zd_istore_n a_Cl_letIn_46 rfl rfl rfl).trans ((zd_iload_n a_Cl_letIn_47 rfl).trans ((zd_if_ge a_Cl_letIn_48 rfl).trans (zitc (fun p16 => (zd_aload_n a_Cl_letIn_58 rfl).trans ((zd_getR (h := (zSH, G)) (ci := 0) (fi := 0) (a := 2) a_Cl_letIn_59 (by decide +kernel) sh_1 rfl rfl).trans ((zd_iload_n a_Cl_letIn_62 rfl).trans ((zd_iload_n a_Cl_letIn_63 rfl).trans ((zd_cal (kd := 0) (tg := 29) (T := m_Ho_dutyFrom) a_Cl_letIn_64 (by decide +kernel) hm_Ho_dutyFrom rfl rfl rfl rfl)))))) (fun p16 => (zd_aload_n a_Cl_letIn_51 rfl).trans ((zd_iconst (v := 4) a_Cl_letIn_52 (by decide)).trans ((zd_iload_n a_Cl_letIn_53 rfl).trans ((zd_cal (kd := 0) (tg := 2) (T := m_Cl_refuse) a_Cl_letIn_54 (by decide +kernel) hm_Cl_refuse rfl rfl rfl rfl))))))))
theorem B_Cl_letIn_57 {G : Nat → Nat → Int32} {x1 x2 x3 s0 : Int32} : zden 9 57 [.ref 1, .int x1, .int x2, .int x3, .retAddr 0] [.int s0] (zSH, G) = some (some (.int s0), (zSH, G)) :=
  zd_iret a_Cl_letIn_57 rfl (znr_int _)
theorem B_Cl_letIn_67 {G : Nat → Nat → Int32} {x1 x2 x3 s0 : Int32} : zden 9 67 [.ref 1, .int x1, .int x2, .int x3, .retAddr 0] [.int s0] (zSH, G) = if s0 ≤ (G 2 6) then some (some (.int s0), (zSH, (tset (tset (tset (zup (zup G 2 6 ((G 2 6) - s0)) 2 8 (((zup G 2 6 ((G 2 6) - s0)) 2 8) + s0)) 5 6 276 x1 3 1) 5 6 276 x1 5 s0) 5 6 276 x1 7 ((tset (tset (zup (zup G 2 6 ((G 2 6) - s0)) 2 8 (((zup G 2 6 ((G 2 6) - s0)) 2 8) + s0)) 5 6 276 x1 3 1) 5 6 276 x1 5 s0) 2 5)))) else zaft 9 96 [.ref 1, .int x1, .int x2, .int x3, .int s0] [] (zSH, G) (zden 2 0 [.ref 1, .int 5, .int (s0 - (G 2 6))] [] (zSH, G)) :=
  (zd_istore a_Cl_letIn_67 rfl rfl rfl).trans ((zd_iload a_Cl_letIn_69 rfl).trans ((zd_aload_n a_Cl_letIn_71 rfl).trans ((zd_getR (h := (zSH, G)) (ci := 0) (fi := 0) (a := 2) a_Cl_letIn_72 (by decide +kernel) sh_1 rfl rfl).trans ((zd_getI (h := (zSH, G)) (ci := 2) (fi := 6) a_Cl_letIn_75 (by decide +kernel) sh_2 rfl).trans ((zd_icmp_le a_Cl_letIn_78 rfl).trans (zitc (fun p17 => (zd_aload_n a_Cl_letIn_97 rfl).trans ((zd_getR (h := (zSH, G)) (ci := 0) (fi := 0) (a := 2) a_Cl_letIn_98 (by decide +kernel) sh_1 rfl rfl).trans ((zd_num (st2 := [.ref 2, .ref 2]) a_Cl_letIn_101 rfl rfl rfl rfl).trans ((zd_getI (h := (zSH, G)) (ci := 2) (fi := 6) a_Cl_letIn_102 (by decide +kernel) sh_2 rfl).trans ((zd_iload a_Cl_letIn_105 rfl).trans ((zd_num (st2 := [.int ((G 2 6) - s0), .ref 2]) a_Cl_letIn_107 rfl rfl rfl rfl).trans ((zd_putI (h := (zSH, G)) (ci := 2) (fi := 6) a_Cl_letIn_108 (by decide +kernel) sh_2 rfl rfl).trans ((zd_aload_n a_Cl_letIn_111 rfl).trans ((zd_getR (h := (zSH, (zup G 2 6 ((G 2 6) - s0)))) (ci := 0) (fi := 0) (a := 2) a_Cl_letIn_112 (by decide +kernel) sh_1 rfl rfl).trans ((zd_num (st2 := [.ref 2, .ref 2]) a_Cl_letIn_115 rfl rfl rfl rfl).trans ((zd_getI (h := (zSH, (zup G 2 6 ((G 2 6) - s0)))) (ci := 2) (fi := 8) a_Cl_letIn_116 (by decide +kernel) sh_2 rfl).trans ((zd_iload a_Cl_letIn_119 rfl).trans ((zd_num (st2 := [.int (((zup G 2 6 ((G 2 6) - s0)) 2 8) + s0), .ref 2]) a_Cl_letIn_121 rfl rfl rfl rfl).trans ((zd_putI (h := (zSH, (zup G 2 6 ((G 2 6) - s0)))) (ci := 2) (fi := 8) a_Cl_letIn_122 (by decide +kernel) sh_2 rfl rfl).trans ((zd_aload_n a_Cl_letIn_125 rfl).trans ((zd_getR (h := (zSH, (zup (zup G 2 6 ((G 2 6) - s0)) 2 8 (((zup G 2 6 ((G 2 6) - s0)) 2 8) + s0)))) (ci := 0) (fi := 0) (a := 2) a_Cl_letIn_126 (by decide +kernel) sh_1 rfl rfl).trans ((zd_getR (h := (zSH, (zup (zup G 2 6 ((G 2 6) - s0)) 2 8 (((zup G 2 6 ((G 2 6) - s0)) 2 8) + s0)))) (ci := 2) (fi := 1) (a := 5) a_Cl_letIn_129 (by decide +kernel) sh_2 rfl rfl).trans ((zd_iload_n a_Cl_letIn_132 rfl).trans ((zd_iconst (v := 3) a_Cl_letIn_133 (by decide)).trans ((zd_iconst (v := 1) a_Cl_letIn_134 (by decide)).trans ((zd_cal (kd := 0) (tg := 51) (T := m_Ta_set) a_Cl_letIn_135 (by decide +kernel) hm_Ta_set rfl rfl rfl rfl).trans (((congrArg (zaft 9 138 [.ref 1, .int x1, .int x2, .int x3, .int s0] [] (zSH, (zup (zup G 2 6 ((G 2 6) - s0)) 2 8 (((zup G 2 6 ((G 2 6) - s0)) 2 8) + s0)))) (sp_set (r := 5) (q := 6) (n := 276) sh_5 sh_6 rfl (by decide))).trans zaft_same).trans ((zd_aload_n a_Cl_letIn_138 rfl).trans ((zd_getR (h := (zSH, (tset (zup (zup G 2 6 ((G 2 6) - s0)) 2 8 (((zup G 2 6 ((G 2 6) - s0)) 2 8) + s0)) 5 6 276 x1 3 1))) (ci := 0) (fi := 0) (a := 2) a_Cl_letIn_139 (by decide +kernel) sh_1 rfl rfl).trans ((zd_getR (h := (zSH, (tset (zup (zup G 2 6 ((G 2 6) - s0)) 2 8 (((zup G 2 6 ((G 2 6) - s0)) 2 8) + s0)) 5 6 276 x1 3 1))) (ci := 2) (fi := 1) (a := 5) a_Cl_letIn_142 (by decide +kernel) sh_2 rfl rfl).trans ((zd_iload_n a_Cl_letIn_145 rfl).trans ((zd_iconst (v := 5) a_Cl_letIn_146 (by decide)).trans ((zd_iload a_Cl_letIn_147 rfl).trans ((zd_cal (kd := 0) (tg := 51) (T := m_Ta_set) a_Cl_letIn_149 (by decide +kernel) hm_Ta_set rfl rfl rfl rfl).trans (((congrArg (zaft 9 152 [.ref 1, .int x1, .int x2, .int x3, .int s0] [] (zSH, (tset (zup (zup G 2 6 ((G 2 6) - s0)) 2 8 (((zup G 2 6 ((G 2 6) - s0)) 2 8) + s0)) 5 6 276 x1 3 1))) (sp_set (r := 5) (q := 6) (n := 276) sh_5 sh_6 rfl (by decide))).trans zaft_same).trans ((zd_aload_n a_Cl_letIn_152 rfl).trans ((zd_getR (h := (zSH, (tset (tset (zup (zup G 2 6 ((G 2 6) - s0)) 2 8 (((zup G 2 6 ((G 2 6) - s0)) 2 8) + s0)) 5 6 276 x1 3 1) 5 6 276 x1 5 s0))) (ci := 0) (fi := 0) (a := 2) a_Cl_letIn_153 (by decide +kernel) sh_1 rfl rfl).trans ((zd_getR (h := (zSH, (tset (tset (zup (zup G 2 6 ((G 2 6) - s0)) 2 8 (((zup G 2 6 ((G 2 6) - s0)) 2 8) + s0)) 5 6 276 x1 3 1) 5 6 276 x1 5 s0))) (ci := 2) (fi := 1) (a := 5) a_Cl_letIn_156 (by decide +kernel) sh_2 rfl rfl).trans ((zd_iload_n a_Cl_letIn_159 rfl).trans ((zd_bipush (v := 7) a_Cl_letIn_160 (by decide)).trans ((zd_aload_n a_Cl_letIn_162 rfl).trans ((zd_getR (h := (zSH, (tset (tset (zup (zup G 2 6 ((G 2 6) - s0)) 2 8 (((zup G 2 6 ((G 2 6) - s0)) 2 8) + s0)) 5 6 276 x1 3 1) 5 6 276 x1 5 s0))) (ci := 0) (fi := 0) (a := 2) a_Cl_letIn_163 (by decide +kernel) sh_1 rfl rfl).trans ((zd_getI (h := (zSH, (tset (tset (zup (zup G 2 6 ((G 2 6) - s0)) 2 8 (((zup G 2 6 ((G 2 6) - s0)) 2 8) + s0)) 5 6 276 x1 3 1) 5 6 276 x1 5 s0))) (ci := 2) (fi := 5) a_Cl_letIn_166 (by decide +kernel) sh_2 rfl).trans ((zd_cal (kd := 0) (tg := 51) (T := m_Ta_set) a_Cl_letIn_169 (by decide +kernel) hm_Ta_set rfl rfl rfl rfl).trans (((congrArg (zaft 9 172 [.ref 1, .int x1, .int x2, .int x3, .int s0] [] (zSH, (tset (tset (zup (zup G 2 6 ((G 2 6) - s0)) 2 8 (((zup G 2 6 ((G 2 6) - s0)) 2 8) + s0)) 5 6 276 x1 3 1) 5 6 276 x1 5 s0))) (sp_set (r := 5) (q := 6) (n := 276) sh_5 sh_6 rfl (by decide))).trans zaft_same).trans ((zd_iload a_Cl_letIn_172 rfl).trans (zd_iret a_Cl_letIn_174 rfl (znr_int _))))))))))))))))))))))))))))))))))))))))))) (fun p17 => (zd_aload_n a_Cl_letIn_81 rfl).trans ((zd_iconst (v := 5) a_Cl_letIn_82 (by decide)).trans ((zd_iload a_Cl_letIn_83 rfl).trans ((zd_aload_n a_Cl_letIn_85 rfl).trans ((zd_getR (h := (zSH, G)) (ci := 0) (fi := 0) (a := 2) a_Cl_letIn_86 (by decide +kernel) sh_1 rfl rfl).trans ((zd_getI (h := (zSH, G)) (ci := 2) (fi := 6) a_Cl_letIn_89 (by decide +kernel) sh_2 rfl).trans ((zd_num (st2 := [.int (s0 - (G 2 6)), .int 5, .ref 1]) a_Cl_letIn_92 rfl rfl rfl rfl).trans ((zd_cal (kd := 0) (tg := 2) (T := m_Cl_refuse) a_Cl_letIn_93 (by decide +kernel) hm_Cl_refuse rfl rfl rfl rfl)))))))))))))))
theorem B_Cl_letIn_96 {G : Nat → Nat → Int32} {x1 x2 x3 x4 s0 : Int32} : zden 9 96 [.ref 1, .int x1, .int x2, .int x3, .int x4] [.int s0] (zSH, G) = some (some (.int s0), (zSH, G)) :=
  zd_iret a_Cl_letIn_96 rfl (znr_int _)
theorem a_Cl_letOut_0 : zAt 10 0 m_Cl_letOut (.aload_n 0) 1 := ⟨hm_Cl_letOut, by decide +kernel⟩
theorem a_Cl_letOut_1 : zAt 10 1 m_Cl_letOut (.getfield 12) 3 := ⟨hm_Cl_letOut, by decide +kernel⟩
theorem a_Cl_letOut_4 : zAt 10 4 m_Cl_letOut (.iload_n 1) 1 := ⟨hm_Cl_letOut, by decide +kernel⟩
theorem a_Cl_letOut_5 : zAt 10 5 m_Cl_letOut (.invokevirtual 66) 3 := ⟨hm_Cl_letOut, by decide +kernel⟩
theorem a_Cl_letOut_8 : zAt 10 8 m_Cl_letOut (.ifCond .ne 6) 3 := ⟨hm_Cl_letOut, by decide +kernel⟩
theorem a_Cl_letOut_11 : zAt 10 11 m_Cl_letOut (.bipush (-11)) 2 := ⟨hm_Cl_letOut, by decide +kernel⟩
theorem a_Cl_letOut_13 : zAt 10 13 m_Cl_letOut (.ireturn) 1 := ⟨hm_Cl_letOut, by decide +kernel⟩
theorem a_Cl_letOut_14 : zAt 10 14 m_Cl_letOut (.aload_n 0) 1 := ⟨hm_Cl_letOut, by decide +kernel⟩
theorem a_Cl_letOut_15 : zAt 10 15 m_Cl_letOut (.getfield 12) 3 := ⟨hm_Cl_letOut, by decide +kernel⟩
theorem a_Cl_letOut_18 : zAt 10 18 m_Cl_letOut (.getfield 60) 3 := ⟨hm_Cl_letOut, by decide +kernel⟩
theorem a_Cl_letOut_21 : zAt 10 21 m_Cl_letOut (.iload_n 1) 1 := ⟨hm_Cl_letOut, by decide +kernel⟩
theorem a_Cl_letOut_22 : zAt 10 22 m_Cl_letOut (.iconst 3) 1 := ⟨hm_Cl_letOut, by decide +kernel⟩
theorem a_Cl_letOut_23 : zAt 10 23 m_Cl_letOut (.invokevirtual 44) 3 := ⟨hm_Cl_letOut, by decide +kernel⟩
theorem a_Cl_letOut_26 : zAt 10 26 m_Cl_letOut (.istore_n 2) 1 := ⟨hm_Cl_letOut, by decide +kernel⟩
theorem a_Cl_letOut_27 : zAt 10 27 m_Cl_letOut (.iload_n 2) 1 := ⟨hm_Cl_letOut, by decide +kernel⟩
theorem a_Cl_letOut_28 : zAt 10 28 m_Cl_letOut (.iconst 2) 1 := ⟨hm_Cl_letOut, by decide +kernel⟩
theorem a_Cl_letOut_29 : zAt 10 29 m_Cl_letOut (.if_icmp .ne 10) 3 := ⟨hm_Cl_letOut, by decide +kernel⟩
theorem a_Cl_letOut_32 : zAt 10 32 m_Cl_letOut (.aload_n 0) 1 := ⟨hm_Cl_letOut, by decide +kernel⟩
theorem a_Cl_letOut_33 : zAt 10 33 m_Cl_letOut (.iconst 3) 1 := ⟨hm_Cl_letOut, by decide +kernel⟩
theorem a_Cl_letOut_34 : zAt 10 34 m_Cl_letOut (.iload_n 2) 1 := ⟨hm_Cl_letOut, by decide +kernel⟩
theorem a_Cl_letOut_35 : zAt 10 35 m_Cl_letOut (.invokevirtual 33) 3 := ⟨hm_Cl_letOut, by decide +kernel⟩
theorem a_Cl_letOut_38 : zAt 10 38 m_Cl_letOut (.ireturn) 1 := ⟨hm_Cl_letOut, by decide +kernel⟩
theorem a_Cl_letOut_39 : zAt 10 39 m_Cl_letOut (.iconst 0) 1 := ⟨hm_Cl_letOut, by decide +kernel⟩
theorem a_Cl_letOut_40 : zAt 10 40 m_Cl_letOut (.istore_n 3) 1 := ⟨hm_Cl_letOut, by decide +kernel⟩
theorem a_Cl_letOut_41 : zAt 10 41 m_Cl_letOut (.iload_n 2) 1 := ⟨hm_Cl_letOut, by decide +kernel⟩
theorem a_Cl_letOut_42 : zAt 10 42 m_Cl_letOut (.iconst 1) 1 := ⟨hm_Cl_letOut, by decide +kernel⟩
theorem a_Cl_letOut_43 : zAt 10 43 m_Cl_letOut (.if_icmp .ne 48) 3 := ⟨hm_Cl_letOut, by decide +kernel⟩
theorem a_Cl_letOut_46 : zAt 10 46 m_Cl_letOut (.aload_n 0) 1 := ⟨hm_Cl_letOut, by decide +kernel⟩
theorem a_Cl_letOut_47 : zAt 10 47 m_Cl_letOut (.getfield 12) 3 := ⟨hm_Cl_letOut, by decide +kernel⟩
theorem a_Cl_letOut_50 : zAt 10 50 m_Cl_letOut (.getfield 94) 3 := ⟨hm_Cl_letOut, by decide +kernel⟩
theorem a_Cl_letOut_53 : zAt 10 53 m_Cl_letOut (.aload_n 0) 1 := ⟨hm_Cl_letOut, by decide +kernel⟩
theorem a_Cl_letOut_54 : zAt 10 54 m_Cl_letOut (.getfield 12) 3 := ⟨hm_Cl_letOut, by decide +kernel⟩
theorem a_Cl_letOut_57 : zAt 10 57 m_Cl_letOut (.getfield 60) 3 := ⟨hm_Cl_letOut, by decide +kernel⟩
theorem a_Cl_letOut_60 : zAt 10 60 m_Cl_letOut (.iload_n 1) 1 := ⟨hm_Cl_letOut, by decide +kernel⟩
theorem a_Cl_letOut_61 : zAt 10 61 m_Cl_letOut (.bipush 7) 2 := ⟨hm_Cl_letOut, by decide +kernel⟩
theorem a_Cl_letOut_63 : zAt 10 63 m_Cl_letOut (.invokevirtual 44) 3 := ⟨hm_Cl_letOut, by decide +kernel⟩
theorem a_Cl_letOut_66 : zAt 10 66 m_Cl_letOut (.isub) 1 := ⟨hm_Cl_letOut, by decide +kernel⟩
theorem a_Cl_letOut_67 : zAt 10 67 m_Cl_letOut (.bipush 30) 2 := ⟨hm_Cl_letOut, by decide +kernel⟩
theorem a_Cl_letOut_69 : zAt 10 69 m_Cl_letOut (.if_icmp .gt 22) 3 := ⟨hm_Cl_letOut, by decide +kernel⟩
theorem a_Cl_letOut_72 : zAt 10 72 m_Cl_letOut (.aload_n 0) 1 := ⟨hm_Cl_letOut, by decide +kernel⟩
theorem a_Cl_letOut_73 : zAt 10 73 m_Cl_letOut (.getfield 12) 3 := ⟨hm_Cl_letOut, by decide +kernel⟩
theorem a_Cl_letOut_76 : zAt 10 76 m_Cl_letOut (.getfield 60) 3 := ⟨hm_Cl_letOut, by decide +kernel⟩
theorem a_Cl_letOut_79 : zAt 10 79 m_Cl_letOut (.iload_n 1) 1 := ⟨hm_Cl_letOut, by decide +kernel⟩
theorem a_Cl_letOut_80 : zAt 10 80 m_Cl_letOut (.iconst 5) 1 := ⟨hm_Cl_letOut, by decide +kernel⟩
theorem a_Cl_letOut_81 : zAt 10 81 m_Cl_letOut (.invokevirtual 44) 3 := ⟨hm_Cl_letOut, by decide +kernel⟩
theorem a_Cl_letOut_84 : zAt 10 84 m_Cl_letOut (.bipush 9) 2 := ⟨hm_Cl_letOut, by decide +kernel⟩
theorem a_Cl_letOut_86 : zAt 10 86 m_Cl_letOut (.imul) 1 := ⟨hm_Cl_letOut, by decide +kernel⟩
theorem a_Cl_letOut_87 : zAt 10 87 m_Cl_letOut (.bipush 10) 2 := ⟨hm_Cl_letOut, by decide +kernel⟩
theorem a_Cl_letOut_89 : zAt 10 89 m_Cl_letOut (.idiv) 1 := ⟨hm_Cl_letOut, by decide +kernel⟩
theorem a_Cl_letOut_90 : zAt 10 90 m_Cl_letOut (.istore_n 3) 1 := ⟨hm_Cl_letOut, by decide +kernel⟩
theorem a_Cl_letOut_91 : zAt 10 91 m_Cl_letOut (.aload_n 0) 1 := ⟨hm_Cl_letOut, by decide +kernel⟩
theorem a_Cl_letOut_92 : zAt 10 92 m_Cl_letOut (.getfield 12) 3 := ⟨hm_Cl_letOut, by decide +kernel⟩
theorem a_Cl_letOut_95 : zAt 10 95 m_Cl_letOut (.dup) 1 := ⟨hm_Cl_letOut, by decide +kernel⟩
theorem a_Cl_letOut_96 : zAt 10 96 m_Cl_letOut (.getfield 82) 3 := ⟨hm_Cl_letOut, by decide +kernel⟩
theorem a_Cl_letOut_99 : zAt 10 99 m_Cl_letOut (.iload_n 3) 1 := ⟨hm_Cl_letOut, by decide +kernel⟩
theorem a_Cl_letOut_100 : zAt 10 100 m_Cl_letOut (.iadd) 1 := ⟨hm_Cl_letOut, by decide +kernel⟩
theorem a_Cl_letOut_101 : zAt 10 101 m_Cl_letOut (.putfield 82) 3 := ⟨hm_Cl_letOut, by decide +kernel⟩
theorem a_Cl_letOut_104 : zAt 10 104 m_Cl_letOut (.aload_n 0) 1 := ⟨hm_Cl_letOut, by decide +kernel⟩
theorem a_Cl_letOut_105 : zAt 10 105 m_Cl_letOut (.getfield 12) 3 := ⟨hm_Cl_letOut, by decide +kernel⟩
theorem a_Cl_letOut_108 : zAt 10 108 m_Cl_letOut (.dup) 1 := ⟨hm_Cl_letOut, by decide +kernel⟩
theorem a_Cl_letOut_109 : zAt 10 109 m_Cl_letOut (.getfield 97) 3 := ⟨hm_Cl_letOut, by decide +kernel⟩
theorem a_Cl_letOut_112 : zAt 10 112 m_Cl_letOut (.iload_n 3) 1 := ⟨hm_Cl_letOut, by decide +kernel⟩
theorem a_Cl_letOut_113 : zAt 10 113 m_Cl_letOut (.iadd) 1 := ⟨hm_Cl_letOut, by decide +kernel⟩
theorem a_Cl_letOut_114 : zAt 10 114 m_Cl_letOut (.putfield 97) 3 := ⟨hm_Cl_letOut, by decide +kernel⟩
theorem a_Cl_letOut_117 : zAt 10 117 m_Cl_letOut (.aload_n 0) 1 := ⟨hm_Cl_letOut, by decide +kernel⟩
theorem a_Cl_letOut_118 : zAt 10 118 m_Cl_letOut (.getfield 12) 3 := ⟨hm_Cl_letOut, by decide +kernel⟩
theorem a_Cl_letOut_121 : zAt 10 121 m_Cl_letOut (.getfield 60) 3 := ⟨hm_Cl_letOut, by decide +kernel⟩
theorem a_Cl_letOut_124 : zAt 10 124 m_Cl_letOut (.iload_n 1) 1 := ⟨hm_Cl_letOut, by decide +kernel⟩
theorem a_Cl_letOut_125 : zAt 10 125 m_Cl_letOut (.iconst 3) 1 := ⟨hm_Cl_letOut, by decide +kernel⟩
theorem a_Cl_letOut_126 : zAt 10 126 m_Cl_letOut (.iconst 2) 1 := ⟨hm_Cl_letOut, by decide +kernel⟩
theorem a_Cl_letOut_127 : zAt 10 127 m_Cl_letOut (.invokevirtual 53) 3 := ⟨hm_Cl_letOut, by decide +kernel⟩
theorem a_Cl_letOut_130 : zAt 10 130 m_Cl_letOut (.aload_n 0) 1 := ⟨hm_Cl_letOut, by decide +kernel⟩
theorem a_Cl_letOut_131 : zAt 10 131 m_Cl_letOut (.getfield 12) 3 := ⟨hm_Cl_letOut, by decide +kernel⟩
theorem a_Cl_letOut_134 : zAt 10 134 m_Cl_letOut (.getfield 60) 3 := ⟨hm_Cl_letOut, by decide +kernel⟩
theorem a_Cl_letOut_137 : zAt 10 137 m_Cl_letOut (.iload_n 1) 1 := ⟨hm_Cl_letOut, by decide +kernel⟩
theorem a_Cl_letOut_138 : zAt 10 138 m_Cl_letOut (.bipush 6) 2 := ⟨hm_Cl_letOut, by decide +kernel⟩
theorem a_Cl_letOut_140 : zAt 10 140 m_Cl_letOut (.iload_n 3) 1 := ⟨hm_Cl_letOut, by decide +kernel⟩
theorem a_Cl_letOut_141 : zAt 10 141 m_Cl_letOut (.invokevirtual 53) 3 := ⟨hm_Cl_letOut, by decide +kernel⟩
theorem a_Cl_letOut_144 : zAt 10 144 m_Cl_letOut (.iload_n 3) 1 := ⟨hm_Cl_letOut, by decide +kernel⟩
theorem a_Cl_letOut_145 : zAt 10 145 m_Cl_letOut (.ireturn) 1 := ⟨hm_Cl_letOut, by decide +kernel⟩
theorem B_Cl_letOut_0 {G : Nat → Nat → Int32} {x1 : Int32} : zden 10 0 [.ref 1, .int x1, .retAddr 0, .retAddr 0] [] (zSH, G) = if ¬ (bI (0 ≤ x1 ∧ x1 < G 2 4)) = 0 then if ¬ (tget G 5 6 276 x1 3) = 2 then if ¬ (tget G 5 6 276 x1 3) = 1 then zden 10 91 [.ref 1, .int x1, .int (tget G 5 6 276 x1 3), .int 0] [] (zSH, G) else if 30 < ((G 2 5) - (tget G 5 6 276 x1 7)) then zden 10 91 [.ref 1, .int x1, .int (tget G 5 6 276 x1 3), .int 0] [] (zSH, G) else zden 10 91 [.ref 1, .int x1, .int (tget G 5 6 276 x1 3), .int (((tget G 5 6 276 x1 5) * 9) / 10)] [] (zSH, G) else zaft 10 38 [.ref 1, .int x1, .int (tget G 5 6 276 x1 3), .retAddr 0] [] (zSH, G) (zden 2 0 [.ref 1, .int 3, .int (tget G 5 6 276 x1 3)] [] (zSH, G)) else some (some (.int (-11)), (zSH, G)) :=
  (zd_aload_n a_Cl_letOut_0 rfl).trans ((zd_getR (h := (zSH, G)) (ci := 0) (fi := 0) (a := 2) a_Cl_letOut_1 (by decide +kernel) sh_1 rfl rfl).trans ((zd_iload_n a_Cl_letOut_4 rfl).trans ((zd_cal (kd := 0) (tg := 27) (T := m_Ho_hasGood) a_Cl_letOut_5 (by decide +kernel) hm_Ho_hasGood rfl rfl rfl rfl).trans (((congrArg (zaft 10 8 [.ref 1, .int x1, .retAddr 0, .retAddr 0] [] (zSH, G)) (sp_hasGood)).trans zaft_same).trans ((zd_if_ne a_Cl_letOut_8 rfl).trans (zitc (fun p9 => (zd_aload_n a_Cl_letOut_14 rfl).trans ((zd_getR (h := (zSH, G)) (ci := 0) (fi := 0) (a := 2) a_Cl_letOut_15 (by decide +kernel) sh_1 rfl rfl).trans ((zd_getR (h := (zSH, G)) (ci := 2) (fi := 1) (a := 5) a_Cl_letOut_18 (by decide +kernel) sh_2 rfl rfl).trans ((zd_iload_n a_Cl_letOut_21 rfl).trans ((zd_iconst (v := 3) a_Cl_letOut_22 (by decide)).trans ((zd_cal (kd := 0) (tg := 53) (T := m_Ta_get) a_Cl_letOut_23 (by decide +kernel) hm_Ta_get rfl rfl rfl rfl).trans (((congrArg (zaft 10 26 [.ref 1, .int x1, .retAddr 0, .retAddr 0] [] (zSH, G)) (sp_get (r := 5) (q := 6) (n := 276) sh_5 sh_6 rfl (by decide))).trans zaft_same).trans ((zd_istore_n a_Cl_letOut_26 rfl rfl rfl).trans ((zd_iload_n a_Cl_letOut_27 rfl).trans ((zd_iconst (v := 2) a_Cl_letOut_28 (by decide)).trans ((zd_icmp_ne a_Cl_letOut_29 rfl).trans (zitc (fun p10 => (zd_iconst (v := 0) a_Cl_letOut_39 (by decide)).trans ((zd_istore_n a_Cl_letOut_40 rfl rfl rfl).trans ((zd_iload_n a_Cl_letOut_41 rfl).trans ((zd_iconst (v := 1) a_Cl_letOut_42 (by decide)).trans ((zd_icmp_ne a_Cl_letOut_43 rfl).trans (zitc (fun p11 => rfl) (fun p11 => (zd_aload_n a_Cl_letOut_46 rfl).trans ((zd_getR (h := (zSH, G)) (ci := 0) (fi := 0) (a := 2) a_Cl_letOut_47 (by decide +kernel) sh_1 rfl rfl).trans ((zd_getI (h := (zSH, G)) (ci := 2) (fi := 5) a_Cl_letOut_50 (by decide +kernel) sh_2 rfl).trans ((zd_aload_n a_Cl_letOut_53 rfl).trans ((zd_getR (h := (zSH, G)) (ci := 0) (fi := 0) (a := 2) a_Cl_letOut_54 (by decide +kernel) sh_1 rfl rfl).trans ((zd_getR (h := (zSH, G)) (ci := 2) (fi := 1) (a := 5) a_Cl_letOut_57 (by decide +kernel) sh_2 rfl rfl).trans ((zd_iload_n a_Cl_letOut_60 rfl).trans ((zd_bipush (v := 7) a_Cl_letOut_61 (by decide)).trans ((zd_cal (kd := 0) (tg := 53) (T := m_Ta_get) a_Cl_letOut_63 (by decide +kernel) hm_Ta_get rfl rfl rfl rfl).trans (((congrArg (zaft 10 66 [.ref 1, .int x1, .int (tget G 5 6 276 x1 3), .int 0] [.int (G 2 5)] (zSH, G)) (sp_get (r := 5) (q := 6) (n := 276) sh_5 sh_6 rfl (by decide))).trans zaft_same).trans ((zd_num (st2 := [.int ((G 2 5) - (tget G 5 6 276 x1 7))]) a_Cl_letOut_66 rfl rfl rfl rfl).trans ((zd_bipush (v := 30) a_Cl_letOut_67 (by decide)).trans ((zd_icmp_gt a_Cl_letOut_69 rfl).trans (zitc (fun p12 => rfl) (fun p12 => (zd_aload_n a_Cl_letOut_72 rfl).trans ((zd_getR (h := (zSH, G)) (ci := 0) (fi := 0) (a := 2) a_Cl_letOut_73 (by decide +kernel) sh_1 rfl rfl).trans ((zd_getR (h := (zSH, G)) (ci := 2) (fi := 1) (a := 5) a_Cl_letOut_76 (by decide +kernel) sh_2 rfl rfl).trans ((zd_iload_n a_Cl_letOut_79 rfl).trans ((zd_iconst (v := 5) a_Cl_letOut_80 (by decide)).trans ((zd_cal (kd := 0) (tg := 53) (T := m_Ta_get) a_Cl_letOut_81 (by decide +kernel) hm_Ta_get rfl rfl rfl rfl).trans (((congrArg (zaft 10 84 [.ref 1, .int x1, .int (tget G 5 6 276 x1 3), .int 0] [] (zSH, G)) (sp_get (r := 5) (q := 6) (n := 276) sh_5 sh_6 rfl (by decide))).trans zaft_same).trans ((zd_bipush (v := 9) a_Cl_letOut_84 (by decide)).trans ((zd_num (st2 := [.int ((tget G 5 6 276 x1 5) * 9)]) a_Cl_letOut_86 rfl rfl rfl rfl).trans ((zd_bipush (v := 10) a_Cl_letOut_87 (by decide)).trans ((zd_idiv a_Cl_letOut_89 (by decide)).trans ((zd_istore_n a_Cl_letOut_90 rfl rfl rfl))))))))))))))))))))))))))))))))) (fun p10 => (zd_aload_n a_Cl_letOut_32 rfl).trans ((zd_iconst (v := 3) a_Cl_letOut_33 (by decide)).trans ((zd_iload_n a_Cl_letOut_34 rfl).trans ((zd_cal (kd := 0) (tg := 2) (T := m_Cl_refuse) a_Cl_letOut_35 (by decide +kernel) hm_Cl_refuse rfl rfl rfl rfl))))))))))))))))) (fun p9 => (zd_bipush (v := (-11)) a_Cl_letOut_11 (by decide)).trans (zd_iret a_Cl_letOut_13 rfl (znr_int _)))))))))
theorem B_Cl_letOut_38 {G : Nat → Nat → Int32} {x1 x2 s0 : Int32} : zden 10 38 [.ref 1, .int x1, .int x2, .retAddr 0] [.int s0] (zSH, G) = some (some (.int s0), (zSH, G)) :=
  zd_iret a_Cl_letOut_38 rfl (znr_int _)
theorem B_Cl_letOut_91 {G : Nat → Nat → Int32} {x1 x2 x3 : Int32} : zden 10 91 [.ref 1, .int x1, .int x2, .int x3] [] (zSH, G) = some (some (.int x3), (zSH, (tset (tset (zup (zup G 2 6 ((G 2 6) + x3)) 2 9 (((zup G 2 6 ((G 2 6) + x3)) 2 9) + x3)) 5 6 276 x1 3 2) 5 6 276 x1 6 x3))) :=
  (zd_aload_n a_Cl_letOut_91 rfl).trans ((zd_getR (h := (zSH, G)) (ci := 0) (fi := 0) (a := 2) a_Cl_letOut_92 (by decide +kernel) sh_1 rfl rfl).trans ((zd_num (st2 := [.ref 2, .ref 2]) a_Cl_letOut_95 rfl rfl rfl rfl).trans ((zd_getI (h := (zSH, G)) (ci := 2) (fi := 6) a_Cl_letOut_96 (by decide +kernel) sh_2 rfl).trans ((zd_iload_n a_Cl_letOut_99 rfl).trans ((zd_num (st2 := [.int ((G 2 6) + x3), .ref 2]) a_Cl_letOut_100 rfl rfl rfl rfl).trans ((zd_putI (h := (zSH, G)) (ci := 2) (fi := 6) a_Cl_letOut_101 (by decide +kernel) sh_2 rfl rfl).trans ((zd_aload_n a_Cl_letOut_104 rfl).trans ((zd_getR (h := (zSH, (zup G 2 6 ((G 2 6) + x3)))) (ci := 0) (fi := 0) (a := 2) a_Cl_letOut_105 (by decide +kernel) sh_1 rfl rfl).trans ((zd_num (st2 := [.ref 2, .ref 2]) a_Cl_letOut_108 rfl rfl rfl rfl).trans ((zd_getI (h := (zSH, (zup G 2 6 ((G 2 6) + x3)))) (ci := 2) (fi := 9) a_Cl_letOut_109 (by decide +kernel) sh_2 rfl).trans ((zd_iload_n a_Cl_letOut_112 rfl).trans ((zd_num (st2 := [.int (((zup G 2 6 ((G 2 6) + x3)) 2 9) + x3), .ref 2]) a_Cl_letOut_113 rfl rfl rfl rfl).trans ((zd_putI (h := (zSH, (zup G 2 6 ((G 2 6) + x3)))) (ci := 2) (fi := 9) a_Cl_letOut_114 (by decide +kernel) sh_2 rfl rfl).trans ((zd_aload_n a_Cl_letOut_117 rfl).trans ((zd_getR (h := (zSH, (zup (zup G 2 6 ((G 2 6) + x3)) 2 9 (((zup G 2 6 ((G 2 6) + x3)) 2 9) + x3)))) (ci := 0) (fi := 0) (a := 2) a_Cl_letOut_118 (by decide +kernel) sh_1 rfl rfl).trans ((zd_getR (h := (zSH, (zup (zup G 2 6 ((G 2 6) + x3)) 2 9 (((zup G 2 6 ((G 2 6) + x3)) 2 9) + x3)))) (ci := 2) (fi := 1) (a := 5) a_Cl_letOut_121 (by decide +kernel) sh_2 rfl rfl).trans ((zd_iload_n a_Cl_letOut_124 rfl).trans ((zd_iconst (v := 3) a_Cl_letOut_125 (by decide)).trans ((zd_iconst (v := 2) a_Cl_letOut_126 (by decide)).trans ((zd_cal (kd := 0) (tg := 51) (T := m_Ta_set) a_Cl_letOut_127 (by decide +kernel) hm_Ta_set rfl rfl rfl rfl).trans (((congrArg (zaft 10 130 [.ref 1, .int x1, .int x2, .int x3] [] (zSH, (zup (zup G 2 6 ((G 2 6) + x3)) 2 9 (((zup G 2 6 ((G 2 6) + x3)) 2 9) + x3)))) (sp_set (r := 5) (q := 6) (n := 276) sh_5 sh_6 rfl (by decide))).trans zaft_same).trans ((zd_aload_n a_Cl_letOut_130 rfl).trans ((zd_getR (h := (zSH, (tset (zup (zup G 2 6 ((G 2 6) + x3)) 2 9 (((zup G 2 6 ((G 2 6) + x3)) 2 9) + x3)) 5 6 276 x1 3 2))) (ci := 0) (fi := 0) (a := 2) a_Cl_letOut_131 (by decide +kernel) sh_1 rfl rfl).trans ((zd_getR (h := (zSH, (tset (zup (zup G 2 6 ((G 2 6) + x3)) 2 9 (((zup G 2 6 ((G 2 6) + x3)) 2 9) + x3)) 5 6 276 x1 3 2))) (ci := 2) (fi := 1) (a := 5) a_Cl_letOut_134 (by decide +kernel) sh_2 rfl rfl).trans ((zd_iload_n a_Cl_letOut_137 rfl).trans ((zd_bipush (v := 6) a_Cl_letOut_138 (by decide)).trans ((zd_iload_n a_Cl_letOut_140 rfl).trans ((zd_cal (kd := 0) (tg := 51) (T := m_Ta_set) a_Cl_letOut_141 (by decide +kernel) hm_Ta_set rfl rfl rfl rfl).trans (((congrArg (zaft 10 144 [.ref 1, .int x1, .int x2, .int x3] [] (zSH, (tset (zup (zup G 2 6 ((G 2 6) + x3)) 2 9 (((zup G 2 6 ((G 2 6) + x3)) 2 9) + x3)) 5 6 276 x1 3 2))) (sp_set (r := 5) (q := 6) (n := 276) sh_5 sh_6 rfl (by decide))).trans zaft_same).trans ((zd_iload_n a_Cl_letOut_144 rfl).trans (zd_iret a_Cl_letOut_145 rfl (znr_int _))))))))))))))))))))))))))))))))
theorem a_Cl_goBy_0 : zAt 11 0 m_Cl_goBy (.iload_n 1) 1 := ⟨hm_Cl_goBy, by decide +kernel⟩
theorem a_Cl_goBy_1 : zAt 11 1 m_Cl_goBy (.iconst 1) 1 := ⟨hm_Cl_goBy, by decide +kernel⟩
theorem a_Cl_goBy_2 : zAt 11 2 m_Cl_goBy (.bipush 99) 2 := ⟨hm_Cl_goBy, by decide +kernel⟩
theorem a_Cl_goBy_4 : zAt 11 4 m_Cl_goBy (.invokestatic 25) 3 := ⟨hm_Cl_goBy, by decide +kernel⟩
theorem a_Cl_goBy_7 : zAt 11 7 m_Cl_goBy (.ifCond .ne 6) 3 := ⟨hm_Cl_goBy, by decide +kernel⟩
theorem a_Cl_goBy_10 : zAt 11 10 m_Cl_goBy (.bipush (-12)) 2 := ⟨hm_Cl_goBy, by decide +kernel⟩
theorem a_Cl_goBy_12 : zAt 11 12 m_Cl_goBy (.ireturn) 1 := ⟨hm_Cl_goBy, by decide +kernel⟩
theorem a_Cl_goBy_13 : zAt 11 13 m_Cl_goBy (.aload_n 0) 1 := ⟨hm_Cl_goBy, by decide +kernel⟩
theorem a_Cl_goBy_14 : zAt 11 14 m_Cl_goBy (.getfield 12) 3 := ⟨hm_Cl_goBy, by decide +kernel⟩
theorem a_Cl_goBy_17 : zAt 11 17 m_Cl_goBy (.dup) 1 := ⟨hm_Cl_goBy, by decide +kernel⟩
theorem a_Cl_goBy_18 : zAt 11 18 m_Cl_goBy (.getfield 94) 3 := ⟨hm_Cl_goBy, by decide +kernel⟩
theorem a_Cl_goBy_21 : zAt 11 21 m_Cl_goBy (.iload_n 1) 1 := ⟨hm_Cl_goBy, by decide +kernel⟩
theorem a_Cl_goBy_22 : zAt 11 22 m_Cl_goBy (.iadd) 1 := ⟨hm_Cl_goBy, by decide +kernel⟩
theorem a_Cl_goBy_23 : zAt 11 23 m_Cl_goBy (.putfield 94) 3 := ⟨hm_Cl_goBy, by decide +kernel⟩
theorem a_Cl_goBy_26 : zAt 11 26 m_Cl_goBy (.aload_n 0) 1 := ⟨hm_Cl_goBy, by decide +kernel⟩
theorem a_Cl_goBy_27 : zAt 11 27 m_Cl_goBy (.getfield 12) 3 := ⟨hm_Cl_goBy, by decide +kernel⟩
theorem a_Cl_goBy_30 : zAt 11 30 m_Cl_goBy (.getfield 94) 3 := ⟨hm_Cl_goBy, by decide +kernel⟩
theorem a_Cl_goBy_33 : zAt 11 33 m_Cl_goBy (.ireturn) 1 := ⟨hm_Cl_goBy, by decide +kernel⟩
theorem B_Cl_goBy_0 {G : Nat → Nat → Int32} {x1 : Int32} : zden 11 0 [.ref 1, .int x1] [] (zSH, G) = if ¬ (bI (1 ≤ x1 ∧ x1 ≤ 99)) = 0 then some (some (.int ((zup G 2 5 ((G 2 5) + x1)) 2 5)), (zSH, (zup G 2 5 ((G 2 5) + x1)))) else some (some (.int (-12)), (zSH, G)) :=
  (zd_iload_n a_Cl_goBy_0 rfl).trans ((zd_iconst (v := 1) a_Cl_goBy_1 (by decide)).trans ((zd_bipush (v := 99) a_Cl_goBy_2 (by decide)).trans ((zd_cal (kd := 3) (tg := 71) (T := m_T_isWithin) a_Cl_goBy_4 (by decide +kernel) hm_T_isWithin rfl rfl rfl rfl).trans (((congrArg (zaft 11 7 [.ref 1, .int x1] [] (zSH, G)) (sp_isWithin)).trans zaft_same).trans ((zd_if_ne a_Cl_goBy_7 rfl).trans (zitc (fun p2 => (zd_aload_n a_Cl_goBy_13 rfl).trans ((zd_getR (h := (zSH, G)) (ci := 0) (fi := 0) (a := 2) a_Cl_goBy_14 (by decide +kernel) sh_1 rfl rfl).trans ((zd_num (st2 := [.ref 2, .ref 2]) a_Cl_goBy_17 rfl rfl rfl rfl).trans ((zd_getI (h := (zSH, G)) (ci := 2) (fi := 5) a_Cl_goBy_18 (by decide +kernel) sh_2 rfl).trans ((zd_iload_n a_Cl_goBy_21 rfl).trans ((zd_num (st2 := [.int ((G 2 5) + x1), .ref 2]) a_Cl_goBy_22 rfl rfl rfl rfl).trans ((zd_putI (h := (zSH, G)) (ci := 2) (fi := 5) a_Cl_goBy_23 (by decide +kernel) sh_2 rfl rfl).trans ((zd_aload_n a_Cl_goBy_26 rfl).trans ((zd_getR (h := (zSH, (zup G 2 5 ((G 2 5) + x1)))) (ci := 0) (fi := 0) (a := 2) a_Cl_goBy_27 (by decide +kernel) sh_1 rfl rfl).trans ((zd_getI (h := (zSH, (zup G 2 5 ((G 2 5) + x1)))) (ci := 2) (fi := 5) a_Cl_goBy_30 (by decide +kernel) sh_2 rfl).trans (zd_iret a_Cl_goBy_33 rfl (znr_int _)))))))))))) (fun p2 => (zd_bipush (v := (-12)) a_Cl_goBy_10 (by decide)).trans (zd_iret a_Cl_goBy_12 rfl (znr_int _)))))))))
theorem a_Cl_carryOut_0 : zAt 12 0 m_Cl_carryOut (.aload_n 1) 1 := ⟨hm_Cl_carryOut, by decide +kernel⟩
theorem a_Cl_carryOut_1 : zAt 12 1 m_Cl_carryOut (.iload_n 2) 1 := ⟨hm_Cl_carryOut, by decide +kernel⟩
theorem a_Cl_carryOut_2 : zAt 12 2 m_Cl_carryOut (.iconst 1) 1 := ⟨hm_Cl_carryOut, by decide +kernel⟩
theorem a_Cl_carryOut_3 : zAt 12 3 m_Cl_carryOut (.invokevirtual 44) 3 := ⟨hm_Cl_carryOut, by decide +kernel⟩
theorem a_Cl_carryOut_6 : zAt 12 6 m_Cl_carryOut (.istore_n 3) 1 := ⟨hm_Cl_carryOut, by decide +kernel⟩
theorem a_Cl_carryOut_7 : zAt 12 7 m_Cl_carryOut (.aload_n 1) 1 := ⟨hm_Cl_carryOut, by decide +kernel⟩
theorem a_Cl_carryOut_8 : zAt 12 8 m_Cl_carryOut (.iload_n 2) 1 := ⟨hm_Cl_carryOut, by decide +kernel⟩
theorem a_Cl_carryOut_9 : zAt 12 9 m_Cl_carryOut (.iconst 2) 1 := ⟨hm_Cl_carryOut, by decide +kernel⟩
theorem a_Cl_carryOut_10 : zAt 12 10 m_Cl_carryOut (.invokevirtual 44) 3 := ⟨hm_Cl_carryOut, by decide +kernel⟩
theorem a_Cl_carryOut_13 : zAt 12 13 m_Cl_carryOut (.istore 4) 2 := ⟨hm_Cl_carryOut, by decide +kernel⟩
theorem a_Cl_carryOut_15 : zAt 12 15 m_Cl_carryOut (.aload_n 1) 1 := ⟨hm_Cl_carryOut, by decide +kernel⟩
theorem a_Cl_carryOut_16 : zAt 12 16 m_Cl_carryOut (.iload_n 2) 1 := ⟨hm_Cl_carryOut, by decide +kernel⟩
theorem a_Cl_carryOut_17 : zAt 12 17 m_Cl_carryOut (.iconst 3) 1 := ⟨hm_Cl_carryOut, by decide +kernel⟩
theorem a_Cl_carryOut_18 : zAt 12 18 m_Cl_carryOut (.invokevirtual 44) 3 := ⟨hm_Cl_carryOut, by decide +kernel⟩
theorem a_Cl_carryOut_21 : zAt 12 21 m_Cl_carryOut (.istore 5) 2 := ⟨hm_Cl_carryOut, by decide +kernel⟩
theorem a_Cl_carryOut_23 : zAt 12 23 m_Cl_carryOut (.aload_n 1) 1 := ⟨hm_Cl_carryOut, by decide +kernel⟩
theorem a_Cl_carryOut_24 : zAt 12 24 m_Cl_carryOut (.iload_n 2) 1 := ⟨hm_Cl_carryOut, by decide +kernel⟩
theorem a_Cl_carryOut_25 : zAt 12 25 m_Cl_carryOut (.iconst 4) 1 := ⟨hm_Cl_carryOut, by decide +kernel⟩
theorem a_Cl_carryOut_26 : zAt 12 26 m_Cl_carryOut (.invokevirtual 44) 3 := ⟨hm_Cl_carryOut, by decide +kernel⟩
theorem a_Cl_carryOut_29 : zAt 12 29 m_Cl_carryOut (.istore 6) 2 := ⟨hm_Cl_carryOut, by decide +kernel⟩
theorem a_Cl_carryOut_31 : zAt 12 31 m_Cl_carryOut (.aload_n 1) 1 := ⟨hm_Cl_carryOut, by decide +kernel⟩
theorem a_Cl_carryOut_32 : zAt 12 32 m_Cl_carryOut (.iload_n 2) 1 := ⟨hm_Cl_carryOut, by decide +kernel⟩
theorem a_Cl_carryOut_33 : zAt 12 33 m_Cl_carryOut (.iconst 5) 1 := ⟨hm_Cl_carryOut, by decide +kernel⟩
theorem a_Cl_carryOut_34 : zAt 12 34 m_Cl_carryOut (.invokevirtual 44) 3 := ⟨hm_Cl_carryOut, by decide +kernel⟩
theorem a_Cl_carryOut_37 : zAt 12 37 m_Cl_carryOut (.istore 7) 2 := ⟨hm_Cl_carryOut, by decide +kernel⟩
theorem a_Cl_carryOut_39 : zAt 12 39 m_Cl_carryOut (.aload_n 1) 1 := ⟨hm_Cl_carryOut, by decide +kernel⟩
theorem a_Cl_carryOut_40 : zAt 12 40 m_Cl_carryOut (.iload_n 2) 1 := ⟨hm_Cl_carryOut, by decide +kernel⟩
theorem a_Cl_carryOut_41 : zAt 12 41 m_Cl_carryOut (.iconst 0) 1 := ⟨hm_Cl_carryOut, by decide +kernel⟩
theorem a_Cl_carryOut_42 : zAt 12 42 m_Cl_carryOut (.invokevirtual 44) 3 := ⟨hm_Cl_carryOut, by decide +kernel⟩
theorem a_Cl_carryOut_45 : zAt 12 45 m_Cl_carryOut (.tableswitch 124 0 7 #[47, 61, 67, 88, 98, 106, 112, 118]) 47 := ⟨hm_Cl_carryOut, by decide +kernel⟩
theorem a_Cl_carryOut_92 : zAt 12 92 m_Cl_carryOut (.aload_n 0) 1 := ⟨hm_Cl_carryOut, by decide +kernel⟩
theorem a_Cl_carryOut_93 : zAt 12 93 m_Cl_carryOut (.iload_n 3) 1 := ⟨hm_Cl_carryOut, by decide +kernel⟩
theorem a_Cl_carryOut_94 : zAt 12 94 m_Cl_carryOut (.iload 4) 2 := ⟨hm_Cl_carryOut, by decide +kernel⟩
theorem a_Cl_carryOut_96 : zAt 12 96 m_Cl_carryOut (.iload 5) 2 := ⟨hm_Cl_carryOut, by decide +kernel⟩
theorem a_Cl_carryOut_98 : zAt 12 98 m_Cl_carryOut (.iload 6) 2 := ⟨hm_Cl_carryOut, by decide +kernel⟩
theorem a_Cl_carryOut_100 : zAt 12 100 m_Cl_carryOut (.iload 7) 2 := ⟨hm_Cl_carryOut, by decide +kernel⟩
theorem a_Cl_carryOut_102 : zAt 12 102 m_Cl_carryOut (.invokevirtual 100) 3 := ⟨hm_Cl_carryOut, by decide +kernel⟩
theorem a_Cl_carryOut_105 : zAt 12 105 m_Cl_carryOut (.ireturn) 1 := ⟨hm_Cl_carryOut, by decide +kernel⟩
theorem a_Cl_carryOut_106 : zAt 12 106 m_Cl_carryOut (.aload_n 0) 1 := ⟨hm_Cl_carryOut, by decide +kernel⟩
theorem a_Cl_carryOut_107 : zAt 12 107 m_Cl_carryOut (.iload_n 3) 1 := ⟨hm_Cl_carryOut, by decide +kernel⟩
theorem a_Cl_carryOut_108 : zAt 12 108 m_Cl_carryOut (.invokevirtual 104) 3 := ⟨hm_Cl_carryOut, by decide +kernel⟩
theorem a_Cl_carryOut_111 : zAt 12 111 m_Cl_carryOut (.ireturn) 1 := ⟨hm_Cl_carryOut, by decide +kernel⟩
theorem a_Cl_carryOut_112 : zAt 12 112 m_Cl_carryOut (.aload_n 0) 1 := ⟨hm_Cl_carryOut, by decide +kernel⟩
theorem a_Cl_carryOut_113 : zAt 12 113 m_Cl_carryOut (.iload_n 3) 1 := ⟨hm_Cl_carryOut, by decide +kernel⟩
theorem a_Cl_carryOut_114 : zAt 12 114 m_Cl_carryOut (.iload 4) 2 := ⟨hm_Cl_carryOut, by decide +kernel⟩
theorem a_Cl_carryOut_116 : zAt 12 116 m_Cl_carryOut (.iload 5) 2 := ⟨hm_Cl_carryOut, by decide +kernel⟩
theorem a_Cl_carryOut_118 : zAt 12 118 m_Cl_carryOut (.iload 6) 2 := ⟨hm_Cl_carryOut, by decide +kernel⟩
theorem a_Cl_carryOut_120 : zAt 12 120 m_Cl_carryOut (.iload 7) 2 := ⟨hm_Cl_carryOut, by decide +kernel⟩
theorem a_Cl_carryOut_122 : zAt 12 122 m_Cl_carryOut (.aload_n 1) 1 := ⟨hm_Cl_carryOut, by decide +kernel⟩
theorem a_Cl_carryOut_123 : zAt 12 123 m_Cl_carryOut (.iload_n 2) 1 := ⟨hm_Cl_carryOut, by decide +kernel⟩
theorem a_Cl_carryOut_124 : zAt 12 124 m_Cl_carryOut (.bipush 6) 2 := ⟨hm_Cl_carryOut, by decide +kernel⟩
theorem a_Cl_carryOut_126 : zAt 12 126 m_Cl_carryOut (.invokevirtual 44) 3 := ⟨hm_Cl_carryOut, by decide +kernel⟩
theorem a_Cl_carryOut_129 : zAt 12 129 m_Cl_carryOut (.invokevirtual 107) 3 := ⟨hm_Cl_carryOut, by decide +kernel⟩
theorem a_Cl_carryOut_132 : zAt 12 132 m_Cl_carryOut (.ireturn) 1 := ⟨hm_Cl_carryOut, by decide +kernel⟩
theorem a_Cl_carryOut_133 : zAt 12 133 m_Cl_carryOut (.aload_n 0) 1 := ⟨hm_Cl_carryOut, by decide +kernel⟩
theorem a_Cl_carryOut_134 : zAt 12 134 m_Cl_carryOut (.iload_n 3) 1 := ⟨hm_Cl_carryOut, by decide +kernel⟩
theorem a_Cl_carryOut_135 : zAt 12 135 m_Cl_carryOut (.iload 4) 2 := ⟨hm_Cl_carryOut, by decide +kernel⟩
theorem a_Cl_carryOut_137 : zAt 12 137 m_Cl_carryOut (.iload 5) 2 := ⟨hm_Cl_carryOut, by decide +kernel⟩
theorem a_Cl_carryOut_139 : zAt 12 139 m_Cl_carryOut (.invokevirtual 111) 3 := ⟨hm_Cl_carryOut, by decide +kernel⟩
theorem a_Cl_carryOut_142 : zAt 12 142 m_Cl_carryOut (.ireturn) 1 := ⟨hm_Cl_carryOut, by decide +kernel⟩
theorem a_Cl_carryOut_143 : zAt 12 143 m_Cl_carryOut (.aload_n 0) 1 := ⟨hm_Cl_carryOut, by decide +kernel⟩
theorem a_Cl_carryOut_144 : zAt 12 144 m_Cl_carryOut (.iload_n 3) 1 := ⟨hm_Cl_carryOut, by decide +kernel⟩
theorem a_Cl_carryOut_145 : zAt 12 145 m_Cl_carryOut (.iload 4) 2 := ⟨hm_Cl_carryOut, by decide +kernel⟩
theorem a_Cl_carryOut_147 : zAt 12 147 m_Cl_carryOut (.invokevirtual 115) 3 := ⟨hm_Cl_carryOut, by decide +kernel⟩
theorem a_Cl_carryOut_150 : zAt 12 150 m_Cl_carryOut (.ireturn) 1 := ⟨hm_Cl_carryOut, by decide +kernel⟩
theorem a_Cl_carryOut_151 : zAt 12 151 m_Cl_carryOut (.aload_n 0) 1 := ⟨hm_Cl_carryOut, by decide +kernel⟩
theorem a_Cl_carryOut_152 : zAt 12 152 m_Cl_carryOut (.iload_n 3) 1 := ⟨hm_Cl_carryOut, by decide +kernel⟩
theorem a_Cl_carryOut_153 : zAt 12 153 m_Cl_carryOut (.invokevirtual 118) 3 := ⟨hm_Cl_carryOut, by decide +kernel⟩
theorem a_Cl_carryOut_156 : zAt 12 156 m_Cl_carryOut (.ireturn) 1 := ⟨hm_Cl_carryOut, by decide +kernel⟩
theorem a_Cl_carryOut_157 : zAt 12 157 m_Cl_carryOut (.aload_n 0) 1 := ⟨hm_Cl_carryOut, by decide +kernel⟩
theorem a_Cl_carryOut_158 : zAt 12 158 m_Cl_carryOut (.iload_n 3) 1 := ⟨hm_Cl_carryOut, by decide +kernel⟩
theorem a_Cl_carryOut_159 : zAt 12 159 m_Cl_carryOut (.invokevirtual 121) 3 := ⟨hm_Cl_carryOut, by decide +kernel⟩
theorem a_Cl_carryOut_162 : zAt 12 162 m_Cl_carryOut (.ireturn) 1 := ⟨hm_Cl_carryOut, by decide +kernel⟩
theorem a_Cl_carryOut_163 : zAt 12 163 m_Cl_carryOut (.aload_n 0) 1 := ⟨hm_Cl_carryOut, by decide +kernel⟩
theorem a_Cl_carryOut_164 : zAt 12 164 m_Cl_carryOut (.iload_n 3) 1 := ⟨hm_Cl_carryOut, by decide +kernel⟩
theorem a_Cl_carryOut_165 : zAt 12 165 m_Cl_carryOut (.invokevirtual 124) 3 := ⟨hm_Cl_carryOut, by decide +kernel⟩
theorem a_Cl_carryOut_168 : zAt 12 168 m_Cl_carryOut (.ireturn) 1 := ⟨hm_Cl_carryOut, by decide +kernel⟩
theorem a_Cl_carryOut_169 : zAt 12 169 m_Cl_carryOut (.aload_n 0) 1 := ⟨hm_Cl_carryOut, by decide +kernel⟩
theorem a_Cl_carryOut_170 : zAt 12 170 m_Cl_carryOut (.iload_n 3) 1 := ⟨hm_Cl_carryOut, by decide +kernel⟩
theorem a_Cl_carryOut_171 : zAt 12 171 m_Cl_carryOut (.invokevirtual 127) 3 := ⟨hm_Cl_carryOut, by decide +kernel⟩
theorem a_Cl_carryOut_174 : zAt 12 174 m_Cl_carryOut (.ireturn) 1 := ⟨hm_Cl_carryOut, by decide +kernel⟩
theorem B_Cl_carryOut_0 {G : Nat → Nat → Int32} {x2 : Int32} : zden 12 0 [.ref 1, .ref 85, .int x2, .retAddr 0, .retAddr 0, .retAddr 0, .retAddr 0, .retAddr 0] [] (zSH, G) = if (tget G 85 86 77 x2 0) = 0 then zden 12 92 [.ref 1, .ref 85, .int x2, .int (tget G 85 86 77 x2 1), .int (tget G 85 86 77 x2 2), .int (tget G 85 86 77 x2 3), .int (tget G 85 86 77 x2 4), .int (tget G 85 86 77 x2 5)] [] (zSH, G) else if (tget G 85 86 77 x2 0) = 1 then zden 12 106 [.ref 1, .ref 85, .int x2, .int (tget G 85 86 77 x2 1), .int (tget G 85 86 77 x2 2), .int (tget G 85 86 77 x2 3), .int (tget G 85 86 77 x2 4), .int (tget G 85 86 77 x2 5)] [] (zSH, G) else if (tget G 85 86 77 x2 0) = 2 then zden 12 112 [.ref 1, .ref 85, .int x2, .int (tget G 85 86 77 x2 1), .int (tget G 85 86 77 x2 2), .int (tget G 85 86 77 x2 3), .int (tget G 85 86 77 x2 4), .int (tget G 85 86 77 x2 5)] [] (zSH, G) else if (tget G 85 86 77 x2 0) = 3 then zden 12 133 [.ref 1, .ref 85, .int x2, .int (tget G 85 86 77 x2 1), .int (tget G 85 86 77 x2 2), .int (tget G 85 86 77 x2 3), .int (tget G 85 86 77 x2 4), .int (tget G 85 86 77 x2 5)] [] (zSH, G) else if (tget G 85 86 77 x2 0) = 4 then zden 12 143 [.ref 1, .ref 85, .int x2, .int (tget G 85 86 77 x2 1), .int (tget G 85 86 77 x2 2), .int (tget G 85 86 77 x2 3), .int (tget G 85 86 77 x2 4), .int (tget G 85 86 77 x2 5)] [] (zSH, G) else if (tget G 85 86 77 x2 0) = 5 then zden 12 151 [.ref 1, .ref 85, .int x2, .int (tget G 85 86 77 x2 1), .int (tget G 85 86 77 x2 2), .int (tget G 85 86 77 x2 3), .int (tget G 85 86 77 x2 4), .int (tget G 85 86 77 x2 5)] [] (zSH, G) else if (tget G 85 86 77 x2 0) = 6 then zden 12 157 [.ref 1, .ref 85, .int x2, .int (tget G 85 86 77 x2 1), .int (tget G 85 86 77 x2 2), .int (tget G 85 86 77 x2 3), .int (tget G 85 86 77 x2 4), .int (tget G 85 86 77 x2 5)] [] (zSH, G) else if (tget G 85 86 77 x2 0) = 7 then zden 12 163 [.ref 1, .ref 85, .int x2, .int (tget G 85 86 77 x2 1), .int (tget G 85 86 77 x2 2), .int (tget G 85 86 77 x2 3), .int (tget G 85 86 77 x2 4), .int (tget G 85 86 77 x2 5)] [] (zSH, G) else zden 12 169 [.ref 1, .ref 85, .int x2, .int (tget G 85 86 77 x2 1), .int (tget G 85 86 77 x2 2), .int (tget G 85 86 77 x2 3), .int (tget G 85 86 77 x2 4), .int (tget G 85 86 77 x2 5)] [] (zSH, G) :=
  (zd_aload_n a_Cl_carryOut_0 rfl).trans ((zd_iload_n a_Cl_carryOut_1 rfl).trans ((zd_iconst (v := 1) a_Cl_carryOut_2 (by decide)).trans ((zd_cal (kd := 0) (tg := 53) (T := m_Ta_get) a_Cl_carryOut_3 (by decide +kernel) hm_Ta_get rfl rfl rfl rfl).trans (((congrArg (zaft 12 6 [.ref 1, .ref 85, .int x2, .retAddr 0, .retAddr 0, .retAddr 0, .retAddr 0, .retAddr 0] [] (zSH, G)) (sp_get (r := 85) (q := 86) (n := 77) sh_85 sh_86 rfl (by decide))).trans zaft_same).trans ((zd_istore_n a_Cl_carryOut_6 rfl rfl rfl).trans ((zd_aload_n a_Cl_carryOut_7 rfl).trans ((zd_iload_n a_Cl_carryOut_8 rfl).trans ((zd_iconst (v := 2) a_Cl_carryOut_9 (by decide)).trans ((zd_cal (kd := 0) (tg := 53) (T := m_Ta_get) a_Cl_carryOut_10 (by decide +kernel) hm_Ta_get rfl rfl rfl rfl).trans (((congrArg (zaft 12 13 [.ref 1, .ref 85, .int x2, .int (tget G 85 86 77 x2 1), .retAddr 0, .retAddr 0, .retAddr 0, .retAddr 0] [] (zSH, G)) (sp_get (r := 85) (q := 86) (n := 77) sh_85 sh_86 rfl (by decide))).trans zaft_same).trans ((zd_istore a_Cl_carryOut_13 rfl rfl rfl).trans ((zd_aload_n a_Cl_carryOut_15 rfl).trans ((zd_iload_n a_Cl_carryOut_16 rfl).trans ((zd_iconst (v := 3) a_Cl_carryOut_17 (by decide)).trans ((zd_cal (kd := 0) (tg := 53) (T := m_Ta_get) a_Cl_carryOut_18 (by decide +kernel) hm_Ta_get rfl rfl rfl rfl).trans (((congrArg (zaft 12 21 [.ref 1, .ref 85, .int x2, .int (tget G 85 86 77 x2 1), .int (tget G 85 86 77 x2 2), .retAddr 0, .retAddr 0, .retAddr 0] [] (zSH, G)) (sp_get (r := 85) (q := 86) (n := 77) sh_85 sh_86 rfl (by decide))).trans zaft_same).trans ((zd_istore a_Cl_carryOut_21 rfl rfl rfl).trans ((zd_aload_n a_Cl_carryOut_23 rfl).trans ((zd_iload_n a_Cl_carryOut_24 rfl).trans ((zd_iconst (v := 4) a_Cl_carryOut_25 (by decide)).trans ((zd_cal (kd := 0) (tg := 53) (T := m_Ta_get) a_Cl_carryOut_26 (by decide +kernel) hm_Ta_get rfl rfl rfl rfl).trans (((congrArg (zaft 12 29 [.ref 1, .ref 85, .int x2, .int (tget G 85 86 77 x2 1), .int (tget G 85 86 77 x2 2), .int (tget G 85 86 77 x2 3), .retAddr 0, .retAddr 0] [] (zSH, G)) (sp_get (r := 85) (q := 86) (n := 77) sh_85 sh_86 rfl (by decide))).trans zaft_same).trans ((zd_istore a_Cl_carryOut_29 rfl rfl rfl).trans ((zd_aload_n a_Cl_carryOut_31 rfl).trans ((zd_iload_n a_Cl_carryOut_32 rfl).trans ((zd_iconst (v := 5) a_Cl_carryOut_33 (by decide)).trans ((zd_cal (kd := 0) (tg := 53) (T := m_Ta_get) a_Cl_carryOut_34 (by decide +kernel) hm_Ta_get rfl rfl rfl rfl).trans (((congrArg (zaft 12 37 [.ref 1, .ref 85, .int x2, .int (tget G 85 86 77 x2 1), .int (tget G 85 86 77 x2 2), .int (tget G 85 86 77 x2 3), .int (tget G 85 86 77 x2 4), .retAddr 0] [] (zSH, G)) (sp_get (r := 85) (q := 86) (n := 77) sh_85 sh_86 rfl (by decide))).trans zaft_same).trans ((zd_istore a_Cl_carryOut_37 rfl rfl rfl).trans ((zd_aload_n a_Cl_carryOut_39 rfl).trans ((zd_iload_n a_Cl_carryOut_40 rfl).trans ((zd_iconst (v := 0) a_Cl_carryOut_41 (by decide)).trans ((zd_cal (kd := 0) (tg := 53) (T := m_Ta_get) a_Cl_carryOut_42 (by decide +kernel) hm_Ta_get rfl rfl rfl rfl).trans (((congrArg (zaft 12 45 [.ref 1, .ref 85, .int x2, .int (tget G 85 86 77 x2 1), .int (tget G 85 86 77 x2 2), .int (tget G 85 86 77 x2 3), .int (tget G 85 86 77 x2 4), .int (tget G 85 86 77 x2 5)] [] (zSH, G)) (sp_get (r := 85) (q := 86) (n := 77) sh_85 sh_86 rfl (by decide))).trans zaft_same).trans ((zd_tsw (td := 169) (L := [(0, 92), (1, 106), (2, 112), (3, 133), (4, 143), (5, 151), (6, 157), (7, 163)]) a_Cl_carryOut_45 rfl (by decide) (by decide)).trans (zitc (fun p25 => rfl) (fun p25 => zitc (fun p26 => rfl) (fun p26 => zitc (fun p27 => rfl) (fun p27 => zitc (fun p28 => rfl) (fun p28 => zitc (fun p29 => rfl) (fun p29 => zitc (fun p30 => rfl) (fun p30 => zitc (fun p31 => rfl) (fun p31 => zitc (fun p32 => rfl) (fun p32 => rfl))))))))))))))))))))))))))))))))))))))))))))
theorem B_Cl_carryOut_92 {G : Nat → Nat → Int32} {x2 x3 x4 x5 x6 x7 : Int32} : zden 12 92 [.ref 1, .ref 85, .int x2, .int x3, .int x4, .int x5, .int x6, .int x7] [] (zSH, G) = zaft 12 105 [.ref 1, .ref 85, .int x2, .int x3, .int x4, .int x5, .int x6, .int x7] [] (zSH, G) (zden 1 0 [.ref 1, .int x3, .int x4, .int x5, .int x6, .int x7, .retAddr 0] [] (zSH, G)) :=
  (zd_aload_n a_Cl_carryOut_92 rfl).trans ((zd_iload_n a_Cl_carryOut_93 rfl).trans ((zd_iload a_Cl_carryOut_94 rfl).trans ((zd_iload a_Cl_carryOut_96 rfl).trans ((zd_iload a_Cl_carryOut_98 rfl).trans ((zd_iload a_Cl_carryOut_100 rfl).trans ((zd_cal (kd := 0) (tg := 1) (T := m_Cl_setUp) a_Cl_carryOut_102 (by decide +kernel) hm_Cl_setUp rfl rfl rfl rfl)))))))
theorem B_Cl_carryOut_105 {G : Nat → Nat → Int32} {x2 x3 x4 x5 x6 x7 s0 : Int32} : zden 12 105 [.ref 1, .ref 85, .int x2, .int x3, .int x4, .int x5, .int x6, .int x7] [.int s0] (zSH, G) = some (some (.int s0), (zSH, G)) :=
  zd_iret a_Cl_carryOut_105 rfl (znr_int _)
theorem B_Cl_carryOut_106 {G : Nat → Nat → Int32} {x2 x3 x4 x5 x6 x7 : Int32} : zden 12 106 [.ref 1, .ref 85, .int x2, .int x3, .int x4, .int x5, .int x6, .int x7] [] (zSH, G) = zaft 12 111 [.ref 1, .ref 85, .int x2, .int x3, .int x4, .int x5, .int x6, .int x7] [] (zSH, G) (zden 3 0 [.ref 1, .int x3, .retAddr 0, .retAddr 0] [] (zSH, G)) :=
  (zd_aload_n a_Cl_carryOut_106 rfl).trans ((zd_iload_n a_Cl_carryOut_107 rfl).trans ((zd_cal (kd := 0) (tg := 3) (T := m_Cl_strikeOut) a_Cl_carryOut_108 (by decide +kernel) hm_Cl_strikeOut rfl rfl rfl rfl)))
theorem B_Cl_carryOut_111 {G : Nat → Nat → Int32} {x2 x3 x4 x5 x6 x7 s0 : Int32} : zden 12 111 [.ref 1, .ref 85, .int x2, .int x3, .int x4, .int x5, .int x6, .int x7] [.int s0] (zSH, G) = some (some (.int s0), (zSH, G)) :=
  zd_iret a_Cl_carryOut_111 rfl (znr_int _)
theorem B_Cl_carryOut_112 {G : Nat → Nat → Int32} {x2 x3 x4 x5 x6 x7 : Int32} : zden 12 112 [.ref 1, .ref 85, .int x2, .int x3, .int x4, .int x5, .int x6, .int x7] [] (zSH, G) = zaft 12 132 [.ref 1, .ref 85, .int x2, .int x3, .int x4, .int x5, .int x6, .int x7] [] (zSH, G) (zden 4 0 [.ref 1, .int x3, .int x4, .int x5, .int x6, .int x7, .int (tget G 85 86 77 x2 6), .retAddr 0, .retAddr 0] [] (zSH, G)) :=
  (zd_aload_n a_Cl_carryOut_112 rfl).trans ((zd_iload_n a_Cl_carryOut_113 rfl).trans ((zd_iload a_Cl_carryOut_114 rfl).trans ((zd_iload a_Cl_carryOut_116 rfl).trans ((zd_iload a_Cl_carryOut_118 rfl).trans ((zd_iload a_Cl_carryOut_120 rfl).trans ((zd_aload_n a_Cl_carryOut_122 rfl).trans ((zd_iload_n a_Cl_carryOut_123 rfl).trans ((zd_bipush (v := 6) a_Cl_carryOut_124 (by decide)).trans ((zd_cal (kd := 0) (tg := 53) (T := m_Ta_get) a_Cl_carryOut_126 (by decide +kernel) hm_Ta_get rfl rfl rfl rfl).trans (((congrArg (zaft 12 129 [.ref 1, .ref 85, .int x2, .int x3, .int x4, .int x5, .int x6, .int x7] [.int x7, .int x6, .int x5, .int x4, .int x3, .ref 1] (zSH, G)) (sp_get (r := 85) (q := 86) (n := 77) sh_85 sh_86 rfl (by decide))).trans zaft_same).trans ((zd_cal (kd := 0) (tg := 4) (T := m_Cl_takeIn) a_Cl_carryOut_129 (by decide +kernel) hm_Cl_takeIn rfl rfl rfl rfl))))))))))))
theorem B_Cl_carryOut_132 {G : Nat → Nat → Int32} {x2 x3 x4 x5 x6 x7 s0 : Int32} : zden 12 132 [.ref 1, .ref 85, .int x2, .int x3, .int x4, .int x5, .int x6, .int x7] [.int s0] (zSH, G) = some (some (.int s0), (zSH, G)) :=
  zd_iret a_Cl_carryOut_132 rfl (znr_int _)
theorem B_Cl_carryOut_133 {G : Nat → Nat → Int32} {x2 x3 x4 x5 x6 x7 : Int32} : zden 12 133 [.ref 1, .ref 85, .int x2, .int x3, .int x4, .int x5, .int x6, .int x7] [] (zSH, G) = zaft 12 142 [.ref 1, .ref 85, .int x2, .int x3, .int x4, .int x5, .int x6, .int x7] [] (zSH, G) (zden 6 0 [.ref 1, .int x3, .int x4, .int x5, .retAddr 0, .retAddr 0, .retAddr 0, .retAddr 0] [] (zSH, G)) :=
  (zd_aload_n a_Cl_carryOut_133 rfl).trans ((zd_iload_n a_Cl_carryOut_134 rfl).trans ((zd_iload a_Cl_carryOut_135 rfl).trans ((zd_iload a_Cl_carryOut_137 rfl).trans ((zd_cal (kd := 0) (tg := 6) (T := m_Cl_workOn) a_Cl_carryOut_139 (by decide +kernel) hm_Cl_workOn rfl rfl rfl rfl)))))
theorem B_Cl_carryOut_142 {G : Nat → Nat → Int32} {x2 x3 x4 x5 x6 x7 s0 : Int32} : zden 12 142 [.ref 1, .ref 85, .int x2, .int x3, .int x4, .int x5, .int x6, .int x7] [.int s0] (zSH, G) = some (some (.int s0), (zSH, G)) :=
  zd_iret a_Cl_carryOut_142 rfl (znr_int _)
theorem B_Cl_carryOut_143 {G : Nat → Nat → Int32} {x2 x3 x4 x5 x6 x7 : Int32} : zden 12 143 [.ref 1, .ref 85, .int x2, .int x3, .int x4, .int x5, .int x6, .int x7] [] (zSH, G) = zaft 12 150 [.ref 1, .ref 85, .int x2, .int x3, .int x4, .int x5, .int x6, .int x7] [] (zSH, G) (zden 7 0 [.ref 1, .int x3, .int x4, .retAddr 0] [] (zSH, G)) :=
  (zd_aload_n a_Cl_carryOut_143 rfl).trans ((zd_iload_n a_Cl_carryOut_144 rfl).trans ((zd_iload a_Cl_carryOut_145 rfl).trans ((zd_cal (kd := 0) (tg := 7) (T := m_Cl_favourCountry) a_Cl_carryOut_147 (by decide +kernel) hm_Cl_favourCountry rfl rfl rfl rfl))))
theorem B_Cl_carryOut_150 {G : Nat → Nat → Int32} {x2 x3 x4 x5 x6 x7 s0 : Int32} : zden 12 150 [.ref 1, .ref 85, .int x2, .int x3, .int x4, .int x5, .int x6, .int x7] [.int s0] (zSH, G) = some (some (.int s0), (zSH, G)) :=
  zd_iret a_Cl_carryOut_150 rfl (znr_int _)
theorem B_Cl_carryOut_151 {G : Nat → Nat → Int32} {x2 x3 x4 x5 x6 x7 : Int32} : zden 12 151 [.ref 1, .ref 85, .int x2, .int x3, .int x4, .int x5, .int x6, .int x7] [] (zSH, G) = zaft 12 156 [.ref 1, .ref 85, .int x2, .int x3, .int x4, .int x5, .int x6, .int x7] [] (zSH, G) (zden 8 0 [.ref 1, .int x3] [] (zSH, G)) :=
  (zd_aload_n a_Cl_carryOut_151 rfl).trans ((zd_iload_n a_Cl_carryOut_152 rfl).trans ((zd_cal (kd := 0) (tg := 8) (T := m_Cl_give) a_Cl_carryOut_153 (by decide +kernel) hm_Cl_give rfl rfl rfl rfl)))
theorem B_Cl_carryOut_156 {G : Nat → Nat → Int32} {x2 x3 x4 x5 x6 x7 s0 : Int32} : zden 12 156 [.ref 1, .ref 85, .int x2, .int x3, .int x4, .int x5, .int x6, .int x7] [.int s0] (zSH, G) = some (some (.int s0), (zSH, G)) :=
  zd_iret a_Cl_carryOut_156 rfl (znr_int _)
theorem B_Cl_carryOut_157 {G : Nat → Nat → Int32} {x2 x3 x4 x5 x6 x7 : Int32} : zden 12 157 [.ref 1, .ref 85, .int x2, .int x3, .int x4, .int x5, .int x6, .int x7] [] (zSH, G) = zaft 12 162 [.ref 1, .ref 85, .int x2, .int x3, .int x4, .int x5, .int x6, .int x7] [] (zSH, G) (zden 9 0 [.ref 1, .int x3, .retAddr 0, .retAddr 0, .retAddr 0] [] (zSH, G)) :=
  (zd_aload_n a_Cl_carryOut_157 rfl).trans ((zd_iload_n a_Cl_carryOut_158 rfl).trans ((zd_cal (kd := 0) (tg := 9) (T := m_Cl_letIn) a_Cl_carryOut_159 (by decide +kernel) hm_Cl_letIn rfl rfl rfl rfl)))
theorem B_Cl_carryOut_162 {G : Nat → Nat → Int32} {x2 x3 x4 x5 x6 x7 s0 : Int32} : zden 12 162 [.ref 1, .ref 85, .int x2, .int x3, .int x4, .int x5, .int x6, .int x7] [.int s0] (zSH, G) = some (some (.int s0), (zSH, G)) :=
  zd_iret a_Cl_carryOut_162 rfl (znr_int _)
theorem B_Cl_carryOut_163 {G : Nat → Nat → Int32} {x2 x3 x4 x5 x6 x7 : Int32} : zden 12 163 [.ref 1, .ref 85, .int x2, .int x3, .int x4, .int x5, .int x6, .int x7] [] (zSH, G) = zaft 12 168 [.ref 1, .ref 85, .int x2, .int x3, .int x4, .int x5, .int x6, .int x7] [] (zSH, G) (zden 10 0 [.ref 1, .int x3, .retAddr 0, .retAddr 0] [] (zSH, G)) :=
  (zd_aload_n a_Cl_carryOut_163 rfl).trans ((zd_iload_n a_Cl_carryOut_164 rfl).trans ((zd_cal (kd := 0) (tg := 10) (T := m_Cl_letOut) a_Cl_carryOut_165 (by decide +kernel) hm_Cl_letOut rfl rfl rfl rfl)))
theorem B_Cl_carryOut_168 {G : Nat → Nat → Int32} {x2 x3 x4 x5 x6 x7 s0 : Int32} : zden 12 168 [.ref 1, .ref 85, .int x2, .int x3, .int x4, .int x5, .int x6, .int x7] [.int s0] (zSH, G) = some (some (.int s0), (zSH, G)) :=
  zd_iret a_Cl_carryOut_168 rfl (znr_int _)
theorem B_Cl_carryOut_169 {G : Nat → Nat → Int32} {x2 x3 x4 x5 x6 x7 : Int32} : zden 12 169 [.ref 1, .ref 85, .int x2, .int x3, .int x4, .int x5, .int x6, .int x7] [] (zSH, G) = zaft 12 174 [.ref 1, .ref 85, .int x2, .int x3, .int x4, .int x5, .int x6, .int x7] [] (zSH, G) (zden 11 0 [.ref 1, .int x3] [] (zSH, G)) :=
  (zd_aload_n a_Cl_carryOut_169 rfl).trans ((zd_iload_n a_Cl_carryOut_170 rfl).trans ((zd_cal (kd := 0) (tg := 11) (T := m_Cl_goBy) a_Cl_carryOut_171 (by decide +kernel) hm_Cl_goBy rfl rfl rfl rfl)))
theorem B_Cl_carryOut_174 {G : Nat → Nat → Int32} {x2 x3 x4 x5 x6 x7 s0 : Int32} : zden 12 174 [.ref 1, .ref 85, .int x2, .int x3, .int x4, .int x5, .int x6, .int x7] [.int s0] (zSH, G) = some (some (.int s0), (zSH, G)) :=
  zd_iret a_Cl_carryOut_174 rfl (znr_int _)
theorem a_Hi_settle_0 : zAt 15 0 m_Hi_settle (.iload_n 1) 1 := ⟨hm_Hi_settle, by decide +kernel⟩
theorem a_Hi_settle_1 : zAt 15 1 m_Hi_settle (.ifCond .lt 31) 3 := ⟨hm_Hi_settle, by decide +kernel⟩
theorem a_Hi_settle_4 : zAt 15 4 m_Hi_settle (.aload_n 0) 1 := ⟨hm_Hi_settle, by decide +kernel⟩
theorem a_Hi_settle_5 : zAt 15 5 m_Hi_settle (.aload_n 0) 1 := ⟨hm_Hi_settle, by decide +kernel⟩
theorem a_Hi_settle_6 : zAt 15 6 m_Hi_settle (.getfield 22) 3 := ⟨hm_Hi_settle, by decide +kernel⟩
theorem a_Hi_settle_9 : zAt 15 9 m_Hi_settle (.iconst 1) 1 := ⟨hm_Hi_settle, by decide +kernel⟩
theorem a_Hi_settle_10 : zAt 15 10 m_Hi_settle (.iadd) 1 := ⟨hm_Hi_settle, by decide +kernel⟩
theorem a_Hi_settle_11 : zAt 15 11 m_Hi_settle (.bipush 9) 2 := ⟨hm_Hi_settle, by decide +kernel⟩
theorem a_Hi_settle_13 : zAt 15 13 m_Hi_settle (.irem) 1 := ⟨hm_Hi_settle, by decide +kernel⟩
theorem a_Hi_settle_14 : zAt 15 14 m_Hi_settle (.putfield 22) 3 := ⟨hm_Hi_settle, by decide +kernel⟩
theorem a_Hi_settle_17 : zAt 15 17 m_Hi_settle (.aload_n 0) 1 := ⟨hm_Hi_settle, by decide +kernel⟩
theorem a_Hi_settle_18 : zAt 15 18 m_Hi_settle (.aload_n 0) 1 := ⟨hm_Hi_settle, by decide +kernel⟩
theorem a_Hi_settle_19 : zAt 15 19 m_Hi_settle (.getfield 30) 3 := ⟨hm_Hi_settle, by decide +kernel⟩
theorem a_Hi_settle_22 : zAt 15 22 m_Hi_settle (.iconst 1) 1 := ⟨hm_Hi_settle, by decide +kernel⟩
theorem a_Hi_settle_23 : zAt 15 23 m_Hi_settle (.iadd) 1 := ⟨hm_Hi_settle, by decide +kernel⟩
theorem a_Hi_settle_24 : zAt 15 24 m_Hi_settle (.bipush 8) 2 := ⟨hm_Hi_settle, by decide +kernel⟩
theorem a_Hi_settle_26 : zAt 15 26 m_Hi_settle (.invokestatic 33) 3 := ⟨hm_Hi_settle, by decide +kernel⟩
theorem a_Hi_settle_29 : zAt 15 29 m_Hi_settle (.putfield 30) 3 := ⟨hm_Hi_settle, by decide +kernel⟩
theorem a_Hi_settle_32 : zAt 15 32 m_Hi_settle (.iload_n 1) 1 := ⟨hm_Hi_settle, by decide +kernel⟩
theorem a_Hi_settle_33 : zAt 15 33 m_Hi_settle (.ireturn) 1 := ⟨hm_Hi_settle, by decide +kernel⟩
theorem B_Hi_settle_0 {G : Nat → Nat → Int32} {x1 : Int32} : zden 15 0 [.ref 9, .int x1] [] (zSH, G) = if x1 < 0 then some (some (.int x1), (zSH, G)) else some (some (.int x1), (zSH, (zup (zup G 9 3 (((G 9 3) + 1) - ((G 9 3) + 1) / 9 * 9)) 9 4 (if 8 < (((zup G 9 3 (((G 9 3) + 1) - ((G 9 3) + 1) / 9 * 9)) 9 4) + 1) then 8 else ((zup G 9 3 (((G 9 3) + 1) - ((G 9 3) + 1) / 9 * 9)) 9 4) + 1)))) :=
  (zd_iload_n a_Hi_settle_0 rfl).trans ((zd_if_lt a_Hi_settle_1 rfl).trans (zitc (fun p2 => (zd_iload_n a_Hi_settle_32 rfl).trans (zd_iret a_Hi_settle_33 rfl (znr_int _))) (fun p2 => (zd_aload_n a_Hi_settle_4 rfl).trans ((zd_aload_n a_Hi_settle_5 rfl).trans ((zd_getI (h := (zSH, G)) (ci := 1) (fi := 3) a_Hi_settle_6 (by decide +kernel) sh_9 rfl).trans ((zd_iconst (v := 1) a_Hi_settle_9 (by decide)).trans ((zd_num (st2 := [.int ((G 9 3) + 1), .ref 9]) a_Hi_settle_10 rfl rfl rfl rfl).trans ((zd_bipush (v := 9) a_Hi_settle_11 (by decide)).trans ((zd_irem a_Hi_settle_13 (by decide)).trans ((zd_putI (h := (zSH, G)) (ci := 1) (fi := 3) a_Hi_settle_14 (by decide +kernel) sh_9 rfl rfl).trans ((zd_aload_n a_Hi_settle_17 rfl).trans ((zd_aload_n a_Hi_settle_18 rfl).trans ((zd_getI (h := (zSH, (zup G 9 3 (((G 9 3) + 1) - ((G 9 3) + 1) / 9 * 9)))) (ci := 1) (fi := 4) a_Hi_settle_19 (by decide +kernel) sh_9 rfl).trans ((zd_iconst (v := 1) a_Hi_settle_22 (by decide)).trans ((zd_num (st2 := [.int (((zup G 9 3 (((G 9 3) + 1) - ((G 9 3) + 1) / 9 * 9)) 9 4) + 1), .ref 9]) a_Hi_settle_23 rfl rfl rfl rfl).trans ((zd_bipush (v := 8) a_Hi_settle_24 (by decide)).trans ((zd_min a_Hi_settle_26 (by decide +kernel) (by decide +kernel) rfl).trans ((zd_putI (h := (zSH, (zup G 9 3 (((G 9 3) + 1) - ((G 9 3) + 1) / 9 * 9)))) (ci := 1) (fi := 4) a_Hi_settle_29 (by decide +kernel) sh_9 rfl rfl).trans ((zd_iload_n a_Hi_settle_32 rfl).trans (zd_iret a_Hi_settle_33 rfl (znr_int _)))))))))))))))))))))
theorem a_Hi_stepBack_0 : zAt 17 0 m_Hi_stepBack (.aload_n 0) 1 := ⟨hm_Hi_stepBack, by decide +kernel⟩
theorem a_Hi_stepBack_1 : zAt 17 1 m_Hi_stepBack (.getfield 30) 3 := ⟨hm_Hi_stepBack, by decide +kernel⟩
theorem a_Hi_stepBack_4 : zAt 17 4 m_Hi_stepBack (.ifCond .gt 6) 3 := ⟨hm_Hi_stepBack, by decide +kernel⟩
theorem a_Hi_stepBack_7 : zAt 17 7 m_Hi_stepBack (.bipush (-15)) 2 := ⟨hm_Hi_stepBack, by decide +kernel⟩
theorem a_Hi_stepBack_9 : zAt 17 9 m_Hi_stepBack (.ireturn) 1 := ⟨hm_Hi_stepBack, by decide +kernel⟩
theorem a_Hi_stepBack_10 : zAt 17 10 m_Hi_stepBack (.aload_n 0) 1 := ⟨hm_Hi_stepBack, by decide +kernel⟩
theorem a_Hi_stepBack_11 : zAt 17 11 m_Hi_stepBack (.aload_n 0) 1 := ⟨hm_Hi_stepBack, by decide +kernel⟩
theorem a_Hi_stepBack_12 : zAt 17 12 m_Hi_stepBack (.getfield 22) 3 := ⟨hm_Hi_stepBack, by decide +kernel⟩
theorem a_Hi_stepBack_15 : zAt 17 15 m_Hi_stepBack (.bipush 8) 2 := ⟨hm_Hi_stepBack, by decide +kernel⟩
theorem a_Hi_stepBack_17 : zAt 17 17 m_Hi_stepBack (.iadd) 1 := ⟨hm_Hi_stepBack, by decide +kernel⟩
theorem a_Hi_stepBack_18 : zAt 17 18 m_Hi_stepBack (.bipush 9) 2 := ⟨hm_Hi_stepBack, by decide +kernel⟩
theorem a_Hi_stepBack_20 : zAt 17 20 m_Hi_stepBack (.irem) 1 := ⟨hm_Hi_stepBack, by decide +kernel⟩
theorem a_Hi_stepBack_21 : zAt 17 21 m_Hi_stepBack (.putfield 22) 3 := ⟨hm_Hi_stepBack, by decide +kernel⟩
theorem a_Hi_stepBack_24 : zAt 17 24 m_Hi_stepBack (.aload_n 0) 1 := ⟨hm_Hi_stepBack, by decide +kernel⟩
theorem a_Hi_stepBack_25 : zAt 17 25 m_Hi_stepBack (.dup) 1 := ⟨hm_Hi_stepBack, by decide +kernel⟩
theorem a_Hi_stepBack_26 : zAt 17 26 m_Hi_stepBack (.getfield 30) 3 := ⟨hm_Hi_stepBack, by decide +kernel⟩
theorem a_Hi_stepBack_29 : zAt 17 29 m_Hi_stepBack (.iconst 1) 1 := ⟨hm_Hi_stepBack, by decide +kernel⟩
theorem a_Hi_stepBack_30 : zAt 17 30 m_Hi_stepBack (.isub) 1 := ⟨hm_Hi_stepBack, by decide +kernel⟩
theorem a_Hi_stepBack_31 : zAt 17 31 m_Hi_stepBack (.putfield 30) 3 := ⟨hm_Hi_stepBack, by decide +kernel⟩
theorem a_Hi_stepBack_34 : zAt 17 34 m_Hi_stepBack (.aload_n 0) 1 := ⟨hm_Hi_stepBack, by decide +kernel⟩
theorem a_Hi_stepBack_35 : zAt 17 35 m_Hi_stepBack (.aload_n 1) 1 := ⟨hm_Hi_stepBack, by decide +kernel⟩
theorem a_Hi_stepBack_36 : zAt 17 36 m_Hi_stepBack (.invokevirtual 39) 3 := ⟨hm_Hi_stepBack, by decide +kernel⟩
theorem a_Hi_stepBack_39 : zAt 17 39 m_Hi_stepBack (.aload_n 0) 1 := ⟨hm_Hi_stepBack, by decide +kernel⟩
theorem a_Hi_stepBack_40 : zAt 17 40 m_Hi_stepBack (.getfield 30) 3 := ⟨hm_Hi_stepBack, by decide +kernel⟩
theorem a_Hi_stepBack_43 : zAt 17 43 m_Hi_stepBack (.ireturn) 1 := ⟨hm_Hi_stepBack, by decide +kernel⟩
theorem B_Hi_stepBack_0 {G : Nat → Nat → Int32} : zden 17 0 [.ref 9, .ref 2] [] (zSH, G) = if 0 < (G 9 4) then zaft 17 39 [.ref 9, .ref 2] [] (zSH, (zup (zup G 9 3 (((G 9 3) + 8) - ((G 9 3) + 8) / 9 * 9)) 9 4 (((zup G 9 3 (((G 9 3) + 8) - ((G 9 3) + 8) / 9 * 9)) 9 4) - 1))) (zden 16 0 [.ref 9, .ref 2, .retAddr 0] [] (zSH, (zup (zup G 9 3 (((G 9 3) + 8) - ((G 9 3) + 8) / 9 * 9)) 9 4 (((zup G 9 3 (((G 9 3) + 8) - ((G 9 3) + 8) / 9 * 9)) 9 4) - 1)))) else some (some (.int (-15)), (zSH, G)) :=
  (zd_aload_n a_Hi_stepBack_0 rfl).trans ((zd_getI (h := (zSH, G)) (ci := 1) (fi := 4) a_Hi_stepBack_1 (by decide +kernel) sh_9 rfl).trans ((zd_if_gt a_Hi_stepBack_4 rfl).trans (zitc (fun p3 => (zd_aload_n a_Hi_stepBack_10 rfl).trans ((zd_aload_n a_Hi_stepBack_11 rfl).trans ((zd_getI (h := (zSH, G)) (ci := 1) (fi := 3) a_Hi_stepBack_12 (by decide +kernel) sh_9 rfl).trans ((zd_bipush (v := 8) a_Hi_stepBack_15 (by decide)).trans ((zd_num (st2 := [.int ((G 9 3) + 8), .ref 9]) a_Hi_stepBack_17 rfl rfl rfl rfl).trans ((zd_bipush (v := 9) a_Hi_stepBack_18 (by decide)).trans ((zd_irem a_Hi_stepBack_20 (by decide)).trans ((zd_putI (h := (zSH, G)) (ci := 1) (fi := 3) a_Hi_stepBack_21 (by decide +kernel) sh_9 rfl rfl).trans ((zd_aload_n a_Hi_stepBack_24 rfl).trans ((zd_num (st2 := [.ref 9, .ref 9]) a_Hi_stepBack_25 rfl rfl rfl rfl).trans ((zd_getI (h := (zSH, (zup G 9 3 (((G 9 3) + 8) - ((G 9 3) + 8) / 9 * 9)))) (ci := 1) (fi := 4) a_Hi_stepBack_26 (by decide +kernel) sh_9 rfl).trans ((zd_iconst (v := 1) a_Hi_stepBack_29 (by decide)).trans ((zd_num (st2 := [.int (((zup G 9 3 (((G 9 3) + 8) - ((G 9 3) + 8) / 9 * 9)) 9 4) - 1), .ref 9]) a_Hi_stepBack_30 rfl rfl rfl rfl).trans ((zd_putI (h := (zSH, (zup G 9 3 (((G 9 3) + 8) - ((G 9 3) + 8) / 9 * 9)))) (ci := 1) (fi := 4) a_Hi_stepBack_31 (by decide +kernel) sh_9 rfl rfl).trans ((zd_aload_n a_Hi_stepBack_34 rfl).trans ((zd_aload_n a_Hi_stepBack_35 rfl).trans ((zd_cal (kd := 0) (tg := 16) (T := m_Hi_takeBack) a_Hi_stepBack_36 (by decide +kernel) hm_Hi_takeBack rfl rfl rfl rfl)))))))))))))))))) (fun p3 => (zd_bipush (v := (-15)) a_Hi_stepBack_7 (by decide)).trans (zd_iret a_Hi_stepBack_9 rfl (znr_int _))))))
theorem B_Hi_stepBack_39 {G : Nat → Nat → Int32} : zden 17 39 [.ref 9, .ref 2] [] (zSH, G) = some (some (.int (G 9 4)), (zSH, G)) :=
  (zd_aload_n a_Hi_stepBack_39 rfl).trans ((zd_getI (h := (zSH, G)) (ci := 1) (fi := 4) a_Hi_stepBack_40 (by decide +kernel) sh_9 rfl).trans (zd_iret a_Hi_stepBack_43 rfl (znr_int _)))
theorem a_Hi_saveFrom_0 : zAt 18 0 m_Hi_saveFrom (.aload_n 0) 1 := ⟨hm_Hi_saveFrom, by decide +kernel⟩
theorem a_Hi_saveFrom_1 : zAt 18 1 m_Hi_saveFrom (.getfield 18) 3 := ⟨hm_Hi_saveFrom, by decide +kernel⟩
theorem a_Hi_saveFrom_4 : zAt 18 4 m_Hi_saveFrom (.aload_n 1) 1 := ⟨hm_Hi_saveFrom, by decide +kernel⟩
theorem a_Hi_saveFrom_5 : zAt 18 5 m_Hi_saveFrom (.invokevirtual 26) 3 := ⟨hm_Hi_saveFrom, by decide +kernel⟩
theorem a_Hi_saveFrom_8 : zAt 18 8 m_Hi_saveFrom (.aload_n 0) 1 := ⟨hm_Hi_saveFrom, by decide +kernel⟩
theorem a_Hi_saveFrom_9 : zAt 18 9 m_Hi_saveFrom (.iconst 1) 1 := ⟨hm_Hi_saveFrom, by decide +kernel⟩
theorem a_Hi_saveFrom_10 : zAt 18 10 m_Hi_saveFrom (.putfield 42) 3 := ⟨hm_Hi_saveFrom, by decide +kernel⟩
theorem a_Hi_saveFrom_13 : zAt 18 13 m_Hi_saveFrom (.return_) 1 := ⟨hm_Hi_saveFrom, by decide +kernel⟩
theorem B_Hi_saveFrom_0 {G : Nat → Nat → Int32} : zden 18 0 [.ref 9, .ref 2] [] (zSH, G) = zaft 18 8 [.ref 9, .ref 2] [] (zSH, G) (zden 21 0 [.ref 11, .ref 2] [] (zSH, G)) :=
  (zd_aload_n a_Hi_saveFrom_0 rfl).trans ((zd_getR (h := (zSH, G)) (ci := 1) (fi := 1) (a := 11) a_Hi_saveFrom_1 (by decide +kernel) sh_9 rfl rfl).trans ((zd_aload_n a_Hi_saveFrom_4 rfl).trans ((zd_cal (kd := 0) (tg := 21) (T := m_Ho_copyFrom) a_Hi_saveFrom_5 (by decide +kernel) hm_Ho_copyFrom rfl rfl rfl rfl))))
theorem B_Hi_saveFrom_8 {G : Nat → Nat → Int32} : zden 18 8 [.ref 9, .ref 2] [] (zSH, G) = some (none, (zSH, (zup G 9 2 1))) :=
  (zd_aload_n a_Hi_saveFrom_8 rfl).trans ((zd_iconst (v := 1) a_Hi_saveFrom_9 (by decide)).trans ((zd_putI (h := (zSH, G)) (ci := 1) (fi := 2) a_Hi_saveFrom_10 (by decide +kernel) sh_9 rfl rfl).trans (zd_vret a_Hi_saveFrom_13 rfl)))
theorem a_Hi_restoreTo_0 : zAt 19 0 m_Hi_restoreTo (.aload_n 0) 1 := ⟨hm_Hi_restoreTo, by decide +kernel⟩
theorem a_Hi_restoreTo_1 : zAt 19 1 m_Hi_restoreTo (.getfield 42) 3 := ⟨hm_Hi_restoreTo, by decide +kernel⟩
theorem a_Hi_restoreTo_4 : zAt 19 4 m_Hi_restoreTo (.ifCond .eq 16) 3 := ⟨hm_Hi_restoreTo, by decide +kernel⟩
theorem a_Hi_restoreTo_7 : zAt 19 7 m_Hi_restoreTo (.aload_n 1) 1 := ⟨hm_Hi_restoreTo, by decide +kernel⟩
theorem a_Hi_restoreTo_8 : zAt 19 8 m_Hi_restoreTo (.aload_n 0) 1 := ⟨hm_Hi_restoreTo, by decide +kernel⟩
theorem a_Hi_restoreTo_9 : zAt 19 9 m_Hi_restoreTo (.getfield 18) 3 := ⟨hm_Hi_restoreTo, by decide +kernel⟩
theorem a_Hi_restoreTo_12 : zAt 19 12 m_Hi_restoreTo (.invokevirtual 26) 3 := ⟨hm_Hi_restoreTo, by decide +kernel⟩
theorem a_Hi_restoreTo_15 : zAt 19 15 m_Hi_restoreTo (.aload_n 0) 1 := ⟨hm_Hi_restoreTo, by decide +kernel⟩
theorem a_Hi_restoreTo_16 : zAt 19 16 m_Hi_restoreTo (.iconst 0) 1 := ⟨hm_Hi_restoreTo, by decide +kernel⟩
theorem a_Hi_restoreTo_17 : zAt 19 17 m_Hi_restoreTo (.putfield 30) 3 := ⟨hm_Hi_restoreTo, by decide +kernel⟩
theorem a_Hi_restoreTo_20 : zAt 19 20 m_Hi_restoreTo (.aload_n 0) 1 := ⟨hm_Hi_restoreTo, by decide +kernel⟩
theorem a_Hi_restoreTo_21 : zAt 19 21 m_Hi_restoreTo (.getfield 42) 3 := ⟨hm_Hi_restoreTo, by decide +kernel⟩
theorem a_Hi_restoreTo_24 : zAt 19 24 m_Hi_restoreTo (.ireturn) 1 := ⟨hm_Hi_restoreTo, by decide +kernel⟩
theorem B_Hi_restoreTo_0 {G : Nat → Nat → Int32} : zden 19 0 [.ref 9, .ref 2] [] (zSH, G) = if (G 9 2) = 0 then zden 19 20 [.ref 9, .ref 2] [] (zSH, G) else zaft 19 15 [.ref 9, .ref 2] [] (zSH, G) (zden 21 0 [.ref 2, .ref 11] [] (zSH, G)) :=
  (zd_aload_n a_Hi_restoreTo_0 rfl).trans ((zd_getI (h := (zSH, G)) (ci := 1) (fi := 2) a_Hi_restoreTo_1 (by decide +kernel) sh_9 rfl).trans ((zd_if_eq a_Hi_restoreTo_4 rfl).trans (zitc (fun p3 => rfl) (fun p3 => (zd_aload_n a_Hi_restoreTo_7 rfl).trans ((zd_aload_n a_Hi_restoreTo_8 rfl).trans ((zd_getR (h := (zSH, G)) (ci := 1) (fi := 1) (a := 11) a_Hi_restoreTo_9 (by decide +kernel) sh_9 rfl rfl).trans ((zd_cal (kd := 0) (tg := 21) (T := m_Ho_copyFrom) a_Hi_restoreTo_12 (by decide +kernel) hm_Ho_copyFrom rfl rfl rfl rfl))))))))
theorem B_Hi_restoreTo_15 {G : Nat → Nat → Int32} : zden 19 15 [.ref 9, .ref 2] [] (zSH, G) = zden 19 20 [.ref 9, .ref 2] [] (zSH, (zup G 9 4 0)) :=
  (zd_aload_n a_Hi_restoreTo_15 rfl).trans ((zd_iconst (v := 0) a_Hi_restoreTo_16 (by decide)).trans ((zd_putI (h := (zSH, G)) (ci := 1) (fi := 4) a_Hi_restoreTo_17 (by decide +kernel) sh_9 rfl rfl)))
theorem B_Hi_restoreTo_20 {G : Nat → Nat → Int32} (n24 : znr .boolean (G 9 2) = true) : zden 19 20 [.ref 9, .ref 2] [] (zSH, G) = some (some (.int (G 9 2)), (zSH, G)) :=
  (zd_aload_n a_Hi_restoreTo_20 rfl).trans ((zd_getI (h := (zSH, G)) (ci := 1) (fi := 2) a_Hi_restoreTo_21 (by decide +kernel) sh_9 rfl).trans (zd_iret a_Hi_restoreTo_24 rfl n24))
theorem a_Ra_goodAt_0 : zAt 47 0 m_Ra_goodAt (.aload_n 1) 1 := ⟨hm_Ra_goodAt, by decide +kernel⟩
theorem a_Ra_goodAt_1 : zAt 47 1 m_Ra_goodAt (.getfield 20) 3 := ⟨hm_Ra_goodAt, by decide +kernel⟩
theorem a_Ra_goodAt_4 : zAt 47 4 m_Ra_goodAt (.istore_n 3) 1 := ⟨hm_Ra_goodAt, by decide +kernel⟩
theorem a_Ra_goodAt_5 : zAt 47 5 m_Ra_goodAt (.iconst 0) 1 := ⟨hm_Ra_goodAt, by decide +kernel⟩
theorem a_Ra_goodAt_6 : zAt 47 6 m_Ra_goodAt (.istore 4) 2 := ⟨hm_Ra_goodAt, by decide +kernel⟩
theorem a_Ra_goodAt_8 : zAt 47 8 m_Ra_goodAt (.iload 4) 2 := ⟨hm_Ra_goodAt, by decide +kernel⟩
theorem a_Ra_goodAt_10 : zAt 47 10 m_Ra_goodAt (.iload_n 3) 1 := ⟨hm_Ra_goodAt, by decide +kernel⟩
theorem a_Ra_goodAt_11 : zAt 47 11 m_Ra_goodAt (.if_icmp .ge 51) 3 := ⟨hm_Ra_goodAt, by decide +kernel⟩
theorem a_Ra_goodAt_14 : zAt 47 14 m_Ra_goodAt (.aload_n 0) 1 := ⟨hm_Ra_goodAt, by decide +kernel⟩
theorem a_Ra_goodAt_15 : zAt 47 15 m_Ra_goodAt (.getfield 14) 3 := ⟨hm_Ra_goodAt, by decide +kernel⟩
theorem a_Ra_goodAt_18 : zAt 47 18 m_Ra_goodAt (.iload 4) 2 := ⟨hm_Ra_goodAt, by decide +kernel⟩
theorem a_Ra_goodAt_20 : zAt 47 20 m_Ra_goodAt (.iconst 0) 1 := ⟨hm_Ra_goodAt, by decide +kernel⟩
theorem a_Ra_goodAt_21 : zAt 47 21 m_Ra_goodAt (.aload_n 1) 1 := ⟨hm_Ra_goodAt, by decide +kernel⟩
theorem a_Ra_goodAt_22 : zAt 47 22 m_Ra_goodAt (.iload 4) 2 := ⟨hm_Ra_goodAt, by decide +kernel⟩
theorem a_Ra_goodAt_24 : zAt 47 24 m_Ra_goodAt (.aload_n 1) 1 := ⟨hm_Ra_goodAt, by decide +kernel⟩
theorem a_Ra_goodAt_25 : zAt 47 25 m_Ra_goodAt (.iload 4) 2 := ⟨hm_Ra_goodAt, by decide +kernel⟩
theorem a_Ra_goodAt_27 : zAt 47 27 m_Ra_goodAt (.invokevirtual 26) 3 := ⟨hm_Ra_goodAt, by decide +kernel⟩
theorem a_Ra_goodAt_30 : zAt 47 30 m_Ra_goodAt (.invokevirtual 30) 3 := ⟨hm_Ra_goodAt, by decide +kernel⟩
theorem a_Ra_goodAt_33 : zAt 47 33 m_Ra_goodAt (.invokevirtual 34) 3 := ⟨hm_Ra_goodAt, by decide +kernel⟩
theorem a_Ra_goodAt_36 : zAt 47 36 m_Ra_goodAt (.aload_n 0) 1 := ⟨hm_Ra_goodAt, by decide +kernel⟩
theorem a_Ra_goodAt_37 : zAt 47 37 m_Ra_goodAt (.getfield 14) 3 := ⟨hm_Ra_goodAt, by decide +kernel⟩
theorem a_Ra_goodAt_40 : zAt 47 40 m_Ra_goodAt (.iload 4) 2 := ⟨hm_Ra_goodAt, by decide +kernel⟩
theorem a_Ra_goodAt_42 : zAt 47 42 m_Ra_goodAt (.iconst 1) 1 := ⟨hm_Ra_goodAt, by decide +kernel⟩
theorem a_Ra_goodAt_43 : zAt 47 43 m_Ra_goodAt (.aload_n 1) 1 := ⟨hm_Ra_goodAt, by decide +kernel⟩
theorem a_Ra_goodAt_44 : zAt 47 44 m_Ra_goodAt (.getfield 38) 3 := ⟨hm_Ra_goodAt, by decide +kernel⟩
theorem a_Ra_goodAt_47 : zAt 47 47 m_Ra_goodAt (.iload 4) 2 := ⟨hm_Ra_goodAt, by decide +kernel⟩
theorem a_Ra_goodAt_49 : zAt 47 49 m_Ra_goodAt (.iconst 2) 1 := ⟨hm_Ra_goodAt, by decide +kernel⟩
theorem a_Ra_goodAt_50 : zAt 47 50 m_Ra_goodAt (.invokevirtual 41) 3 := ⟨hm_Ra_goodAt, by decide +kernel⟩
theorem a_Ra_goodAt_53 : zAt 47 53 m_Ra_goodAt (.invokevirtual 34) 3 := ⟨hm_Ra_goodAt, by decide +kernel⟩
theorem a_Ra_goodAt_56 : zAt 47 56 m_Ra_goodAt (.iinc 4 1) 3 := ⟨hm_Ra_goodAt, by decide +kernel⟩
theorem a_Ra_goodAt_59 : zAt 47 59 m_Ra_goodAt (.goto (-51)) 3 := ⟨hm_Ra_goodAt, by decide +kernel⟩
theorem a_Ra_goodAt_62 : zAt 47 62 m_Ra_goodAt (.iconst 0) 1 := ⟨hm_Ra_goodAt, by decide +kernel⟩
theorem a_Ra_goodAt_63 : zAt 47 63 m_Ra_goodAt (.istore 4) 2 := ⟨hm_Ra_goodAt, by decide +kernel⟩
theorem a_Ra_goodAt_65 : zAt 47 65 m_Ra_goodAt (.iload 4) 2 := ⟨hm_Ra_goodAt, by decide +kernel⟩
theorem a_Ra_goodAt_67 : zAt 47 67 m_Ra_goodAt (.iload_n 3) 1 := ⟨hm_Ra_goodAt, by decide +kernel⟩
theorem a_Ra_goodAt_68 : zAt 47 68 m_Ra_goodAt (.if_icmp .ge 23) 3 := ⟨hm_Ra_goodAt, by decide +kernel⟩
theorem a_Ra_goodAt_71 : zAt 47 71 m_Ra_goodAt (.aload_n 0) 1 := ⟨hm_Ra_goodAt, by decide +kernel⟩
theorem a_Ra_goodAt_72 : zAt 47 72 m_Ra_goodAt (.iload 4) 2 := ⟨hm_Ra_goodAt, by decide +kernel⟩
theorem a_Ra_goodAt_74 : zAt 47 74 m_Ra_goodAt (.iload_n 3) 1 := ⟨hm_Ra_goodAt, by decide +kernel⟩
theorem a_Ra_goodAt_75 : zAt 47 75 m_Ra_goodAt (.invokevirtual 44) 3 := ⟨hm_Ra_goodAt, by decide +kernel⟩
theorem a_Ra_goodAt_78 : zAt 47 78 m_Ra_goodAt (.iload_n 2) 1 := ⟨hm_Ra_goodAt, by decide +kernel⟩
theorem a_Ra_goodAt_79 : zAt 47 79 m_Ra_goodAt (.if_icmp .ne 6) 3 := ⟨hm_Ra_goodAt, by decide +kernel⟩
theorem a_Ra_goodAt_82 : zAt 47 82 m_Ra_goodAt (.iload 4) 2 := ⟨hm_Ra_goodAt, by decide +kernel⟩
theorem a_Ra_goodAt_84 : zAt 47 84 m_Ra_goodAt (.ireturn) 1 := ⟨hm_Ra_goodAt, by decide +kernel⟩
theorem a_Ra_goodAt_85 : zAt 47 85 m_Ra_goodAt (.iinc 4 1) 3 := ⟨hm_Ra_goodAt, by decide +kernel⟩
theorem a_Ra_goodAt_88 : zAt 47 88 m_Ra_goodAt (.goto (-23)) 3 := ⟨hm_Ra_goodAt, by decide +kernel⟩
theorem a_Ra_goodAt_91 : zAt 47 91 m_Ra_goodAt (.bipush (-11)) 2 := ⟨hm_Ra_goodAt, by decide +kernel⟩
theorem a_Ra_goodAt_93 : zAt 47 93 m_Ra_goodAt (.ireturn) 1 := ⟨hm_Ra_goodAt, by decide +kernel⟩
theorem B_Ra_goodAt_0 {G : Nat → Nat → Int32} {x2 : Int32} : zden 47 0 [.ref 81, .ref 2, .int x2, .retAddr 0, .retAddr 0] [] (zSH, G) = zden 47 8 [.ref 81, .ref 2, .int x2, .int (G 2 4), .int 0] [] (zSH, G) :=
  (zd_aload_n a_Ra_goodAt_0 rfl).trans ((zd_getI (h := (zSH, G)) (ci := 2) (fi := 4) a_Ra_goodAt_1 (by decide +kernel) sh_2 rfl).trans ((zd_istore_n a_Ra_goodAt_4 rfl rfl rfl).trans ((zd_iconst (v := 0) a_Ra_goodAt_5 (by decide)).trans ((zd_istore a_Ra_goodAt_6 rfl rfl rfl)))))
theorem B_Ra_goodAt_8 {G : Nat → Nat → Int32} {x2 x3 x4 : Int32} : zden 47 8 [.ref 81, .ref 2, .int x2, .int x3, .int x4] [] (zSH, G) = if x3 ≤ x4 then zden 47 65 [.ref 81, .ref 2, .int x2, .int x3, .int 0] [] (zSH, G) else zaft 47 30 [.ref 81, .ref 2, .int x2, .int x3, .int x4] [.int x4, .ref 2, .int 0, .int x4, .ref 82] (zSH, G) (zden 28 0 [.ref 2, .int x4, .retAddr 0, .retAddr 0, .retAddr 0, .retAddr 0, .retAddr 0, .retAddr 0] [] (zSH, G)) :=
  (zd_iload a_Ra_goodAt_8 rfl).trans ((zd_iload_n a_Ra_goodAt_10 rfl).trans ((zd_icmp_ge a_Ra_goodAt_11 rfl).trans (zitc (fun p7 => (zd_iconst (v := 0) a_Ra_goodAt_62 (by decide)).trans ((zd_istore a_Ra_goodAt_63 rfl rfl rfl))) (fun p7 => (zd_aload_n a_Ra_goodAt_14 rfl).trans ((zd_getR (h := (zSH, G)) (ci := 4) (fi := 0) (a := 82) a_Ra_goodAt_15 (by decide +kernel) sh_81 rfl rfl).trans ((zd_iload a_Ra_goodAt_18 rfl).trans ((zd_iconst (v := 0) a_Ra_goodAt_20 (by decide)).trans ((zd_aload_n a_Ra_goodAt_21 rfl).trans ((zd_iload a_Ra_goodAt_22 rfl).trans ((zd_aload_n a_Ra_goodAt_24 rfl).trans ((zd_iload a_Ra_goodAt_25 rfl).trans ((zd_cal (kd := 0) (tg := 28) (T := m_Ho_originOf) a_Ra_goodAt_27 (by decide +kernel) hm_Ho_originOf rfl rfl rfl rfl)))))))))))))
theorem B_Ra_goodAt_30 {G : Nat → Nat → Int32} {x2 x3 x4 s0 s1 s3 s4 : Int32} : zden 47 30 [.ref 81, .ref 2, .int x2, .int x3, .int x4] [.int s0, .int s1, .ref 2, .int s3, .int s4, .ref 82] (zSH, G) = zaft 47 33 [.ref 81, .ref 2, .int x2, .int x3, .int x4] [.int s3, .int s4, .ref 82] (zSH, G) (zden 29 0 [.ref 2, .int s1, .int s0, .retAddr 0, .retAddr 0, .retAddr 0, .retAddr 0] [] (zSH, G)) :=
  (zd_cal (kd := 0) (tg := 29) (T := m_Ho_dutyFrom) a_Ra_goodAt_30 (by decide +kernel) hm_Ho_dutyFrom rfl rfl rfl rfl)
theorem B_Ra_goodAt_33 {G : Nat → Nat → Int32} {x2 x3 x4 s0 s1 s2 : Int32} : zden 47 33 [.ref 81, .ref 2, .int x2, .int x3, .int x4] [.int s0, .int s1, .int s2, .ref 82] (zSH, G) = zden 47 8 [.ref 81, .ref 2, .int x2, .int x3, .int (x4 + 1)] [] (zSH, (tset (tset G 82 83 24 s2 s1 s0) 82 83 24 x4 1 (tget (tset G 82 83 24 s2 s1 s0) 5 6 276 x4 2))) :=
  (zd_cal (kd := 0) (tg := 51) (T := m_Ta_set) a_Ra_goodAt_33 (by decide +kernel) hm_Ta_set rfl rfl rfl rfl).trans (((congrArg (zaft 47 36 [.ref 81, .ref 2, .int x2, .int x3, .int x4] [] (zSH, G)) (sp_set (r := 82) (q := 83) (n := 24) sh_82 sh_83 rfl (by decide))).trans zaft_same).trans ((zd_aload_n a_Ra_goodAt_36 rfl).trans ((zd_getR (h := (zSH, (tset G 82 83 24 s2 s1 s0))) (ci := 4) (fi := 0) (a := 82) a_Ra_goodAt_37 (by decide +kernel) sh_81 rfl rfl).trans ((zd_iload a_Ra_goodAt_40 rfl).trans ((zd_iconst (v := 1) a_Ra_goodAt_42 (by decide)).trans ((zd_aload_n a_Ra_goodAt_43 rfl).trans ((zd_getR (h := (zSH, (tset G 82 83 24 s2 s1 s0))) (ci := 2) (fi := 1) (a := 5) a_Ra_goodAt_44 (by decide +kernel) sh_2 rfl rfl).trans ((zd_iload a_Ra_goodAt_47 rfl).trans ((zd_iconst (v := 2) a_Ra_goodAt_49 (by decide)).trans ((zd_cal (kd := 0) (tg := 53) (T := m_Ta_get) a_Ra_goodAt_50 (by decide +kernel) hm_Ta_get rfl rfl rfl rfl).trans (((congrArg (zaft 47 53 [.ref 81, .ref 2, .int x2, .int x3, .int x4] [.int 1, .int x4, .ref 82] (zSH, (tset G 82 83 24 s2 s1 s0))) (sp_get (r := 5) (q := 6) (n := 276) sh_5 sh_6 rfl (by decide))).trans zaft_same).trans ((zd_cal (kd := 0) (tg := 51) (T := m_Ta_set) a_Ra_goodAt_53 (by decide +kernel) hm_Ta_set rfl rfl rfl rfl).trans (((congrArg (zaft 47 56 [.ref 81, .ref 2, .int x2, .int x3, .int x4] [] (zSH, (tset G 82 83 24 s2 s1 s0))) (sp_set (r := 82) (q := 83) (n := 24) sh_82 sh_83 rfl (by decide))).trans zaft_same).trans ((zd_iinc (v := 1) a_Ra_goodAt_56 rfl (by decide) rfl rfl rfl).trans ((zd_goto a_Ra_goodAt_59 rfl))))))))))))))))
theorem B_Ra_goodAt_65 {G : Nat → Nat → Int32} {x2 x3 x4 : Int32} : zden 47 65 [.ref 81, .ref 2, .int x2, .int x3, .int x4] [] (zSH, G) = if x3 ≤ x4 then some (some (.int (-11)), (zSH, G)) else zaft 47 78 [.ref 81, .ref 2, .int x2, .int x3, .int x4] [] (zSH, G) (zden 48 0 [.ref 81, .int x4, .int x3, .retAddr 0, .retAddr 0] [] (zSH, G)) :=
  (zd_iload a_Ra_goodAt_65 rfl).trans ((zd_iload_n a_Ra_goodAt_67 rfl).trans ((zd_icmp_ge a_Ra_goodAt_68 rfl).trans (zitc (fun p8 => (zd_bipush (v := (-11)) a_Ra_goodAt_91 (by decide)).trans (zd_iret a_Ra_goodAt_93 rfl (znr_int _))) (fun p8 => (zd_aload_n a_Ra_goodAt_71 rfl).trans ((zd_iload a_Ra_goodAt_72 rfl).trans ((zd_iload_n a_Ra_goodAt_74 rfl).trans ((zd_cal (kd := 0) (tg := 48) (T := m_Ra_countAheadOf) a_Ra_goodAt_75 (by decide +kernel) hm_Ra_countAheadOf rfl rfl rfl rfl))))))))
theorem B_Ra_goodAt_78 {G : Nat → Nat → Int32} {x2 x3 x4 s0 : Int32} : zden 47 78 [.ref 81, .ref 2, .int x2, .int x3, .int x4] [.int s0] (zSH, G) = if ¬ s0 = x2 then zden 47 65 [.ref 81, .ref 2, .int x2, .int x3, .int (x4 + 1)] [] (zSH, G) else some (some (.int x4), (zSH, G)) :=
  (zd_iload_n a_Ra_goodAt_78 rfl).trans ((zd_icmp_ne a_Ra_goodAt_79 rfl).trans (zitc (fun p9 => (zd_iinc (v := 1) a_Ra_goodAt_85 rfl (by decide) rfl rfl rfl).trans ((zd_goto a_Ra_goodAt_88 rfl))) (fun p9 => (zd_iload a_Ra_goodAt_82 rfl).trans (zd_iret a_Ra_goodAt_84 rfl (znr_int _)))))
theorem a_Ra_countAheadOf_0 : zAt 48 0 m_Ra_countAheadOf (.iconst 0) 1 := ⟨hm_Ra_countAheadOf, by decide +kernel⟩
theorem a_Ra_countAheadOf_1 : zAt 48 1 m_Ra_countAheadOf (.istore_n 3) 1 := ⟨hm_Ra_countAheadOf, by decide +kernel⟩
theorem a_Ra_countAheadOf_2 : zAt 48 2 m_Ra_countAheadOf (.iconst 0) 1 := ⟨hm_Ra_countAheadOf, by decide +kernel⟩
theorem a_Ra_countAheadOf_3 : zAt 48 3 m_Ra_countAheadOf (.istore 4) 2 := ⟨hm_Ra_countAheadOf, by decide +kernel⟩
theorem a_Ra_countAheadOf_5 : zAt 48 5 m_Ra_countAheadOf (.iload 4) 2 := ⟨hm_Ra_countAheadOf, by decide +kernel⟩
theorem a_Ra_countAheadOf_7 : zAt 48 7 m_Ra_countAheadOf (.iload_n 2) 1 := ⟨hm_Ra_countAheadOf, by decide +kernel⟩
theorem a_Ra_countAheadOf_8 : zAt 48 8 m_Ra_countAheadOf (.if_icmp .ge 22) 3 := ⟨hm_Ra_countAheadOf, by decide +kernel⟩
theorem a_Ra_countAheadOf_11 : zAt 48 11 m_Ra_countAheadOf (.aload_n 0) 1 := ⟨hm_Ra_countAheadOf, by decide +kernel⟩
theorem a_Ra_countAheadOf_12 : zAt 48 12 m_Ra_countAheadOf (.iload 4) 2 := ⟨hm_Ra_countAheadOf, by decide +kernel⟩
theorem a_Ra_countAheadOf_14 : zAt 48 14 m_Ra_countAheadOf (.iload_n 1) 1 := ⟨hm_Ra_countAheadOf, by decide +kernel⟩
theorem a_Ra_countAheadOf_15 : zAt 48 15 m_Ra_countAheadOf (.invokevirtual 47) 3 := ⟨hm_Ra_countAheadOf, by decide +kernel⟩
theorem a_Ra_countAheadOf_18 : zAt 48 18 m_Ra_countAheadOf (.ifCond .eq 6) 3 := ⟨hm_Ra_countAheadOf, by decide +kernel⟩
theorem a_Ra_countAheadOf_21 : zAt 48 21 m_Ra_countAheadOf (.iinc 3 1) 3 := ⟨hm_Ra_countAheadOf, by decide +kernel⟩
theorem a_Ra_countAheadOf_24 : zAt 48 24 m_Ra_countAheadOf (.iinc 4 1) 3 := ⟨hm_Ra_countAheadOf, by decide +kernel⟩
theorem a_Ra_countAheadOf_27 : zAt 48 27 m_Ra_countAheadOf (.goto (-22)) 3 := ⟨hm_Ra_countAheadOf, by decide +kernel⟩
theorem a_Ra_countAheadOf_30 : zAt 48 30 m_Ra_countAheadOf (.iload_n 3) 1 := ⟨hm_Ra_countAheadOf, by decide +kernel⟩
theorem a_Ra_countAheadOf_31 : zAt 48 31 m_Ra_countAheadOf (.ireturn) 1 := ⟨hm_Ra_countAheadOf, by decide +kernel⟩
theorem B_Ra_countAheadOf_0 {G : Nat → Nat → Int32} {x1 x2 : Int32} : zden 48 0 [.ref 81, .int x1, .int x2, .retAddr 0, .retAddr 0] [] (zSH, G) = zden 48 5 [.ref 81, .int x1, .int x2, .int 0, .int 0] [] (zSH, G) :=
  (zd_iconst (v := 0) a_Ra_countAheadOf_0 (by decide)).trans ((zd_istore_n a_Ra_countAheadOf_1 rfl rfl rfl).trans ((zd_iconst (v := 0) a_Ra_countAheadOf_2 (by decide)).trans ((zd_istore a_Ra_countAheadOf_3 rfl rfl rfl))))
theorem B_Ra_countAheadOf_5 {G : Nat → Nat → Int32} {x1 x2 x3 x4 : Int32} : zden 48 5 [.ref 81, .int x1, .int x2, .int x3, .int x4] [] (zSH, G) = if x2 ≤ x4 then some (some (.int x3), (zSH, G)) else zaft 48 18 [.ref 81, .int x1, .int x2, .int x3, .int x4] [] (zSH, G) (zden 49 0 [.ref 81, .int x4, .int x1, .retAddr 0, .retAddr 0, .retAddr 0, .retAddr 0] [] (zSH, G)) :=
  (zd_iload a_Ra_countAheadOf_5 rfl).trans ((zd_iload_n a_Ra_countAheadOf_7 rfl).trans ((zd_icmp_ge a_Ra_countAheadOf_8 rfl).trans (zitc (fun p6 => (zd_iload_n a_Ra_countAheadOf_30 rfl).trans (zd_iret a_Ra_countAheadOf_31 rfl (znr_int _))) (fun p6 => (zd_aload_n a_Ra_countAheadOf_11 rfl).trans ((zd_iload a_Ra_countAheadOf_12 rfl).trans ((zd_iload_n a_Ra_countAheadOf_14 rfl).trans ((zd_cal (kd := 0) (tg := 49) (T := m_Ra_isAhead) a_Ra_countAheadOf_15 (by decide +kernel) hm_Ra_isAhead rfl rfl rfl rfl))))))))
theorem B_Ra_countAheadOf_18 {G : Nat → Nat → Int32} {x1 x2 x3 x4 s0 : Int32} : zden 48 18 [.ref 81, .int x1, .int x2, .int x3, .int x4] [.int s0] (zSH, G) = if s0 = 0 then zden 48 24 [.ref 81, .int x1, .int x2, .int x3, .int x4] [] (zSH, G) else zden 48 24 [.ref 81, .int x1, .int x2, .int (x3 + 1), .int x4] [] (zSH, G) :=
  (zd_if_eq a_Ra_countAheadOf_18 rfl).trans (zitc (fun p7 => rfl) (fun p7 => (zd_iinc (v := 1) a_Ra_countAheadOf_21 rfl (by decide) rfl rfl rfl)))
theorem B_Ra_countAheadOf_24 {G : Nat → Nat → Int32} {x1 x2 x3 x4 : Int32} : zden 48 24 [.ref 81, .int x1, .int x2, .int x3, .int x4] [] (zSH, G) = zden 48 5 [.ref 81, .int x1, .int x2, .int x3, .int (x4 + 1)] [] (zSH, G) :=
  (zd_iinc (v := 1) a_Ra_countAheadOf_24 rfl (by decide) rfl rfl rfl).trans ((zd_goto a_Ra_countAheadOf_27 rfl))
theorem a_Ra_isAhead_0 : zAt 49 0 m_Ra_isAhead (.aload_n 0) 1 := ⟨hm_Ra_isAhead, by decide +kernel⟩
theorem a_Ra_isAhead_1 : zAt 49 1 m_Ra_isAhead (.getfield 14) 3 := ⟨hm_Ra_isAhead, by decide +kernel⟩
theorem a_Ra_isAhead_4 : zAt 49 4 m_Ra_isAhead (.iload_n 1) 1 := ⟨hm_Ra_isAhead, by decide +kernel⟩
theorem a_Ra_isAhead_5 : zAt 49 5 m_Ra_isAhead (.iconst 0) 1 := ⟨hm_Ra_isAhead, by decide +kernel⟩
theorem a_Ra_isAhead_6 : zAt 49 6 m_Ra_isAhead (.invokevirtual 41) 3 := ⟨hm_Ra_isAhead, by decide +kernel⟩
theorem a_Ra_isAhead_9 : zAt 49 9 m_Ra_isAhead (.istore_n 3) 1 := ⟨hm_Ra_isAhead, by decide +kernel⟩
theorem a_Ra_isAhead_10 : zAt 49 10 m_Ra_isAhead (.aload_n 0) 1 := ⟨hm_Ra_isAhead, by decide +kernel⟩
theorem a_Ra_isAhead_11 : zAt 49 11 m_Ra_isAhead (.getfield 14) 3 := ⟨hm_Ra_isAhead, by decide +kernel⟩
theorem a_Ra_isAhead_14 : zAt 49 14 m_Ra_isAhead (.iload_n 2) 1 := ⟨hm_Ra_isAhead, by decide +kernel⟩
theorem a_Ra_isAhead_15 : zAt 49 15 m_Ra_isAhead (.iconst 0) 1 := ⟨hm_Ra_isAhead, by decide +kernel⟩
theorem a_Ra_isAhead_16 : zAt 49 16 m_Ra_isAhead (.invokevirtual 41) 3 := ⟨hm_Ra_isAhead, by decide +kernel⟩
theorem a_Ra_isAhead_19 : zAt 49 19 m_Ra_isAhead (.istore 4) 2 := ⟨hm_Ra_isAhead, by decide +kernel⟩
theorem a_Ra_isAhead_21 : zAt 49 21 m_Ra_isAhead (.iload_n 3) 1 := ⟨hm_Ra_isAhead, by decide +kernel⟩
theorem a_Ra_isAhead_22 : zAt 49 22 m_Ra_isAhead (.iload 4) 2 := ⟨hm_Ra_isAhead, by decide +kernel⟩
theorem a_Ra_isAhead_24 : zAt 49 24 m_Ra_isAhead (.if_icmp .eq 15) 3 := ⟨hm_Ra_isAhead, by decide +kernel⟩
theorem a_Ra_isAhead_27 : zAt 49 27 m_Ra_isAhead (.iload_n 3) 1 := ⟨hm_Ra_isAhead, by decide +kernel⟩
theorem a_Ra_isAhead_28 : zAt 49 28 m_Ra_isAhead (.iload 4) 2 := ⟨hm_Ra_isAhead, by decide +kernel⟩
theorem a_Ra_isAhead_30 : zAt 49 30 m_Ra_isAhead (.if_icmp .le 7) 3 := ⟨hm_Ra_isAhead, by decide +kernel⟩
theorem a_Ra_isAhead_33 : zAt 49 33 m_Ra_isAhead (.iconst 1) 1 := ⟨hm_Ra_isAhead, by decide +kernel⟩
theorem a_Ra_isAhead_34 : zAt 49 34 m_Ra_isAhead (.goto 4) 3 := ⟨hm_Ra_isAhead, by decide +kernel⟩
theorem a_Ra_isAhead_37 : zAt 49 37 m_Ra_isAhead (.iconst 0) 1 := ⟨hm_Ra_isAhead, by decide +kernel⟩
theorem a_Ra_isAhead_38 : zAt 49 38 m_Ra_isAhead (.ireturn) 1 := ⟨hm_Ra_isAhead, by decide +kernel⟩
theorem a_Ra_isAhead_39 : zAt 49 39 m_Ra_isAhead (.aload_n 0) 1 := ⟨hm_Ra_isAhead, by decide +kernel⟩
theorem a_Ra_isAhead_40 : zAt 49 40 m_Ra_isAhead (.getfield 14) 3 := ⟨hm_Ra_isAhead, by decide +kernel⟩
theorem a_Ra_isAhead_43 : zAt 49 43 m_Ra_isAhead (.iload_n 1) 1 := ⟨hm_Ra_isAhead, by decide +kernel⟩
theorem a_Ra_isAhead_44 : zAt 49 44 m_Ra_isAhead (.iconst 1) 1 := ⟨hm_Ra_isAhead, by decide +kernel⟩
theorem a_Ra_isAhead_45 : zAt 49 45 m_Ra_isAhead (.invokevirtual 41) 3 := ⟨hm_Ra_isAhead, by decide +kernel⟩
theorem a_Ra_isAhead_48 : zAt 49 48 m_Ra_isAhead (.istore 5) 2 := ⟨hm_Ra_isAhead, by decide +kernel⟩
theorem a_Ra_isAhead_50 : zAt 49 50 m_Ra_isAhead (.aload_n 0) 1 := ⟨hm_Ra_isAhead, by decide +kernel⟩
theorem a_Ra_isAhead_51 : zAt 49 51 m_Ra_isAhead (.getfield 14) 3 := ⟨hm_Ra_isAhead, by decide +kernel⟩
theorem a_Ra_isAhead_54 : zAt 49 54 m_Ra_isAhead (.iload_n 2) 1 := ⟨hm_Ra_isAhead, by decide +kernel⟩
theorem a_Ra_isAhead_55 : zAt 49 55 m_Ra_isAhead (.iconst 1) 1 := ⟨hm_Ra_isAhead, by decide +kernel⟩
theorem a_Ra_isAhead_56 : zAt 49 56 m_Ra_isAhead (.invokevirtual 41) 3 := ⟨hm_Ra_isAhead, by decide +kernel⟩
theorem a_Ra_isAhead_59 : zAt 49 59 m_Ra_isAhead (.istore 6) 2 := ⟨hm_Ra_isAhead, by decide +kernel⟩
theorem a_Ra_isAhead_61 : zAt 49 61 m_Ra_isAhead (.iload 5) 2 := ⟨hm_Ra_isAhead, by decide +kernel⟩
theorem a_Ra_isAhead_63 : zAt 49 63 m_Ra_isAhead (.iload 6) 2 := ⟨hm_Ra_isAhead, by decide +kernel⟩
theorem a_Ra_isAhead_65 : zAt 49 65 m_Ra_isAhead (.if_icmp .eq 18) 3 := ⟨hm_Ra_isAhead, by decide +kernel⟩
theorem a_Ra_isAhead_68 : zAt 49 68 m_Ra_isAhead (.iload 5) 2 := ⟨hm_Ra_isAhead, by decide +kernel⟩
theorem a_Ra_isAhead_70 : zAt 49 70 m_Ra_isAhead (.iload 6) 2 := ⟨hm_Ra_isAhead, by decide +kernel⟩
theorem a_Ra_isAhead_72 : zAt 49 72 m_Ra_isAhead (.if_icmp .ge 7) 3 := ⟨hm_Ra_isAhead, by decide +kernel⟩
theorem a_Ra_isAhead_75 : zAt 49 75 m_Ra_isAhead (.iconst 1) 1 := ⟨hm_Ra_isAhead, by decide +kernel⟩
theorem a_Ra_isAhead_76 : zAt 49 76 m_Ra_isAhead (.goto 17) 3 := ⟨hm_Ra_isAhead, by decide +kernel⟩
theorem a_Ra_isAhead_79 : zAt 49 79 m_Ra_isAhead (.iconst 0) 1 := ⟨hm_Ra_isAhead, by decide +kernel⟩
theorem a_Ra_isAhead_80 : zAt 49 80 m_Ra_isAhead (.goto 13) 3 := ⟨hm_Ra_isAhead, by decide +kernel⟩
theorem a_Ra_isAhead_83 : zAt 49 83 m_Ra_isAhead (.iload_n 1) 1 := ⟨hm_Ra_isAhead, by decide +kernel⟩
theorem a_Ra_isAhead_84 : zAt 49 84 m_Ra_isAhead (.iload_n 2) 1 := ⟨hm_Ra_isAhead, by decide +kernel⟩
theorem a_Ra_isAhead_85 : zAt 49 85 m_Ra_isAhead (.if_icmp .ge 7) 3 := ⟨hm_Ra_isAhead, by decide +kernel⟩
theorem a_Ra_isAhead_88 : zAt 49 88 m_Ra_isAhead (.iconst 1) 1 := ⟨hm_Ra_isAhead, by decide +kernel⟩
theorem a_Ra_isAhead_89 : zAt 49 89 m_Ra_isAhead (.goto 4) 3 := ⟨hm_Ra_isAhead, by decide +kernel⟩
theorem a_Ra_isAhead_92 : zAt 49 92 m_Ra_isAhead (.iconst 0) 1 := ⟨hm_Ra_isAhead, by decide +kernel⟩
theorem a_Ra_isAhead_93 : zAt 49 93 m_Ra_isAhead (.ireturn) 1 := ⟨hm_Ra_isAhead, by decide +kernel⟩
theorem B_Ra_isAhead_0 {G : Nat → Nat → Int32} {x1 x2 : Int32} : zden 49 0 [.ref 81, .int x1, .int x2, .retAddr 0, .retAddr 0, .retAddr 0, .retAddr 0] [] (zSH, G) = if (tget G 82 83 24 x1 0) = (tget G 82 83 24 x2 0) then if (tget G 82 83 24 x1 1) = (tget G 82 83 24 x2 1) then if x2 ≤ x1 then some (some (.int 0), (zSH, G)) else some (some (.int 1), (zSH, G)) else if (tget G 82 83 24 x2 1) ≤ (tget G 82 83 24 x1 1) then some (some (.int 0), (zSH, G)) else some (some (.int 1), (zSH, G)) else if (tget G 82 83 24 x1 0) ≤ (tget G 82 83 24 x2 0) then some (some (.int 0), (zSH, G)) else some (some (.int 1), (zSH, G)) :=
  (zd_aload_n a_Ra_isAhead_0 rfl).trans ((zd_getR (h := (zSH, G)) (ci := 4) (fi := 0) (a := 82) a_Ra_isAhead_1 (by decide +kernel) sh_81 rfl rfl).trans ((zd_iload_n a_Ra_isAhead_4 rfl).trans ((zd_iconst (v := 0) a_Ra_isAhead_5 (by decide)).trans ((zd_cal (kd := 0) (tg := 53) (T := m_Ta_get) a_Ra_isAhead_6 (by decide +kernel) hm_Ta_get rfl rfl rfl rfl).trans (((congrArg (zaft 49 9 [.ref 81, .int x1, .int x2, .retAddr 0, .retAddr 0, .retAddr 0, .retAddr 0] [] (zSH, G)) (sp_get (r := 82) (q := 83) (n := 24) sh_82 sh_83 rfl (by decide))).trans zaft_same).trans ((zd_istore_n a_Ra_isAhead_9 rfl rfl rfl).trans ((zd_aload_n a_Ra_isAhead_10 rfl).trans ((zd_getR (h := (zSH, G)) (ci := 4) (fi := 0) (a := 82) a_Ra_isAhead_11 (by decide +kernel) sh_81 rfl rfl).trans ((zd_iload_n a_Ra_isAhead_14 rfl).trans ((zd_iconst (v := 0) a_Ra_isAhead_15 (by decide)).trans ((zd_cal (kd := 0) (tg := 53) (T := m_Ta_get) a_Ra_isAhead_16 (by decide +kernel) hm_Ta_get rfl rfl rfl rfl).trans (((congrArg (zaft 49 19 [.ref 81, .int x1, .int x2, .int (tget G 82 83 24 x1 0), .retAddr 0, .retAddr 0, .retAddr 0] [] (zSH, G)) (sp_get (r := 82) (q := 83) (n := 24) sh_82 sh_83 rfl (by decide))).trans zaft_same).trans ((zd_istore a_Ra_isAhead_19 rfl rfl rfl).trans ((zd_iload_n a_Ra_isAhead_21 rfl).trans ((zd_iload a_Ra_isAhead_22 rfl).trans ((zd_icmp_eq a_Ra_isAhead_24 rfl).trans (zitc (fun p6 => (zd_aload_n a_Ra_isAhead_39 rfl).trans ((zd_getR (h := (zSH, G)) (ci := 4) (fi := 0) (a := 82) a_Ra_isAhead_40 (by decide +kernel) sh_81 rfl rfl).trans ((zd_iload_n a_Ra_isAhead_43 rfl).trans ((zd_iconst (v := 1) a_Ra_isAhead_44 (by decide)).trans ((zd_cal (kd := 0) (tg := 53) (T := m_Ta_get) a_Ra_isAhead_45 (by decide +kernel) hm_Ta_get rfl rfl rfl rfl).trans (((congrArg (zaft 49 48 [.ref 81, .int x1, .int x2, .int (tget G 82 83 24 x1 0), .int (tget G 82 83 24 x2 0), .retAddr 0, .retAddr 0] [] (zSH, G)) (sp_get (r := 82) (q := 83) (n := 24) sh_82 sh_83 rfl (by decide))).trans zaft_same).trans ((zd_istore a_Ra_isAhead_48 rfl rfl rfl).trans ((zd_aload_n a_Ra_isAhead_50 rfl).trans ((zd_getR (h := (zSH, G)) (ci := 4) (fi := 0) (a := 82) a_Ra_isAhead_51 (by decide +kernel) sh_81 rfl rfl).trans ((zd_iload_n a_Ra_isAhead_54 rfl).trans ((zd_iconst (v := 1) a_Ra_isAhead_55 (by decide)).trans ((zd_cal (kd := 0) (tg := 53) (T := m_Ta_get) a_Ra_isAhead_56 (by decide +kernel) hm_Ta_get rfl rfl rfl rfl).trans (((congrArg (zaft 49 59 [.ref 81, .int x1, .int x2, .int (tget G 82 83 24 x1 0), .int (tget G 82 83 24 x2 0), .int (tget G 82 83 24 x1 1), .retAddr 0] [] (zSH, G)) (sp_get (r := 82) (q := 83) (n := 24) sh_82 sh_83 rfl (by decide))).trans zaft_same).trans ((zd_istore a_Ra_isAhead_59 rfl rfl rfl).trans ((zd_iload a_Ra_isAhead_61 rfl).trans ((zd_iload a_Ra_isAhead_63 rfl).trans ((zd_icmp_eq a_Ra_isAhead_65 rfl).trans (zitc (fun p7 => (zd_iload_n a_Ra_isAhead_83 rfl).trans ((zd_iload_n a_Ra_isAhead_84 rfl).trans ((zd_icmp_ge a_Ra_isAhead_85 rfl).trans (zitc (fun p8 => (zd_iconst (v := 0) a_Ra_isAhead_92 (by decide)).trans (zd_iret a_Ra_isAhead_93 rfl (by decide))) (fun p8 => (zd_iconst (v := 1) a_Ra_isAhead_88 (by decide)).trans ((zd_goto a_Ra_isAhead_89 rfl).trans (zd_iret a_Ra_isAhead_93 rfl (by decide)))))))) (fun p7 => (zd_iload a_Ra_isAhead_68 rfl).trans ((zd_iload a_Ra_isAhead_70 rfl).trans ((zd_icmp_ge a_Ra_isAhead_72 rfl).trans (zitc (fun p9 => (zd_iconst (v := 0) a_Ra_isAhead_79 (by decide)).trans ((zd_goto a_Ra_isAhead_80 rfl).trans (zd_iret a_Ra_isAhead_93 rfl (by decide)))) (fun p9 => (zd_iconst (v := 1) a_Ra_isAhead_75 (by decide)).trans ((zd_goto a_Ra_isAhead_76 rfl).trans (zd_iret a_Ra_isAhead_93 rfl (by decide)))))))))))))))))))))))))) (fun p6 => (zd_iload_n a_Ra_isAhead_27 rfl).trans ((zd_iload a_Ra_isAhead_28 rfl).trans ((zd_icmp_le a_Ra_isAhead_30 rfl).trans (zitc (fun p10 => (zd_iconst (v := 0) a_Ra_isAhead_37 (by decide)).trans (zd_iret a_Ra_isAhead_38 rfl (by decide))) (fun p10 => (zd_iconst (v := 1) a_Ra_isAhead_33 (by decide)).trans ((zd_goto a_Ra_isAhead_34 rfl).trans (zd_iret a_Ra_isAhead_38 rfl (by decide)))))))))))))))))))))))))
theorem a_Li_signAt_0 : zAt 45 0 m_Li_signAt (.iload_n 1) 1 := ⟨hm_Li_signAt, by decide +kernel⟩
theorem a_Li_signAt_1 : zAt 45 1 m_Li_signAt (.ifCond .lt 29) 3 := ⟨hm_Li_signAt, by decide +kernel⟩
theorem a_Li_signAt_4 : zAt 45 4 m_Li_signAt (.iload_n 1) 1 := ⟨hm_Li_signAt, by decide +kernel⟩
theorem a_Li_signAt_5 : zAt 45 5 m_Li_signAt (.aload_n 0) 1 := ⟨hm_Li_signAt, by decide +kernel⟩
theorem a_Li_signAt_6 : zAt 45 6 m_Li_signAt (.getfield 15) 3 := ⟨hm_Li_signAt, by decide +kernel⟩
theorem a_Li_signAt_9 : zAt 45 9 m_Li_signAt (.if_icmp .ge 21) 3 := ⟨hm_Li_signAt, by decide +kernel⟩
theorem a_Li_signAt_12 : zAt 45 12 m_Li_signAt (.iload_n 1) 1 := ⟨hm_Li_signAt, by decide +kernel⟩
theorem a_Li_signAt_13 : zAt 45 13 m_Li_signAt (.aload_n 0) 1 := ⟨hm_Li_signAt, by decide +kernel⟩
theorem a_Li_signAt_14 : zAt 45 14 m_Li_signAt (.getfield 9) 3 := ⟨hm_Li_signAt, by decide +kernel⟩
theorem a_Li_signAt_17 : zAt 45 17 m_Li_signAt (.arraylength) 1 := ⟨hm_Li_signAt, by decide +kernel⟩
theorem a_Li_signAt_18 : zAt 45 18 m_Li_signAt (.if_icmp .ge 12) 3 := ⟨hm_Li_signAt, by decide +kernel⟩
theorem a_Li_signAt_21 : zAt 45 21 m_Li_signAt (.aload_n 0) 1 := ⟨hm_Li_signAt, by decide +kernel⟩
theorem a_Li_signAt_22 : zAt 45 22 m_Li_signAt (.getfield 9) 3 := ⟨hm_Li_signAt, by decide +kernel⟩
theorem a_Li_signAt_25 : zAt 45 25 m_Li_signAt (.iload_n 1) 1 := ⟨hm_Li_signAt, by decide +kernel⟩
theorem a_Li_signAt_26 : zAt 45 26 m_Li_signAt (.caload) 1 := ⟨hm_Li_signAt, by decide +kernel⟩
theorem a_Li_signAt_27 : zAt 45 27 m_Li_signAt (.goto 5) 3 := ⟨hm_Li_signAt, by decide +kernel⟩
theorem a_Li_signAt_30 : zAt 45 30 m_Li_signAt (.bipush (-11)) 2 := ⟨hm_Li_signAt, by decide +kernel⟩
theorem a_Li_signAt_32 : zAt 45 32 m_Li_signAt (.ireturn) 1 := ⟨hm_Li_signAt, by decide +kernel⟩
theorem B_Li_signAt_0 {G : Nat → Nat → Int32} {x1 : Int32} (z26_0 : (¬ (x1 < 0)) → (¬ ((G 88 1) ≤ x1)) → (¬ (24 ≤ x1)) → zin x1 24 = true) : zden 45 0 [.ref 88, .int x1] [] (zSH, G) = if x1 < 0 then some (some (.int (-11)), (zSH, G)) else if (G 88 1) ≤ x1 then some (some (.int (-11)), (zSH, G)) else if 24 ≤ x1 then some (some (.int (-11)), (zSH, G)) else some (some (.int (G 89 x1.toNatClampNeg)), (zSH, G)) :=
  (zd_iload_n a_Li_signAt_0 rfl).trans ((zd_if_lt a_Li_signAt_1 rfl).trans (zitc (fun p4 => (zd_bipush (v := (-11)) a_Li_signAt_30 (by decide)).trans (zd_iret a_Li_signAt_32 rfl (znr_int _))) (fun p4 => (zd_iload_n a_Li_signAt_4 rfl).trans ((zd_aload_n a_Li_signAt_5 rfl).trans ((zd_getI (h := (zSH, G)) (ci := 3) (fi := 1) a_Li_signAt_6 (by decide +kernel) sh_88 rfl).trans ((zd_icmp_ge a_Li_signAt_9 rfl).trans (zitc (fun p5 => (zd_bipush (v := (-11)) a_Li_signAt_30 (by decide)).trans (zd_iret a_Li_signAt_32 rfl (znr_int _))) (fun p5 => (zd_iload_n a_Li_signAt_12 rfl).trans ((zd_aload_n a_Li_signAt_13 rfl).trans ((zd_getR (h := (zSH, G)) (ci := 3) (fi := 0) (a := 89) a_Li_signAt_14 (by decide +kernel) sh_88 rfl rfl).trans ((zd_alen (h := (zSH, G)) (v := 24) a_Li_signAt_17 sh_89 rfl (by decide)).trans ((zd_icmp_ge a_Li_signAt_18 rfl).trans (zitc (fun p6 => (zd_bipush (v := (-11)) a_Li_signAt_30 (by decide)).trans (zd_iret a_Li_signAt_32 rfl (znr_int _))) (fun p6 => (zd_aload_n a_Li_signAt_21 rfl).trans ((zd_getR (h := (zSH, G)) (ci := 3) (fi := 0) (a := 89) a_Li_signAt_22 (by decide +kernel) sh_88 rfl rfl).trans ((zd_iload_n a_Li_signAt_25 rfl).trans ((zd_cald (h := (zSH, G)) a_Li_signAt_26 sh_89).trans ((if_pos (z26_0 p4 p5 p6)).trans ((zd_goto a_Li_signAt_27 rfl).trans (zd_iret a_Li_signAt_32 rfl (znr_int _)))))))))))))))))))))
theorem a_T_heading_0 : zAt 70 0 m_T_heading (.aload_n 0) 1 := ⟨hm_T_heading, by decide +kernel⟩
theorem a_T_heading_1 : zAt 70 1 m_T_heading (.getfield 24) 3 := ⟨hm_T_heading, by decide +kernel⟩
theorem a_T_heading_4 : zAt 70 4 m_T_heading (.aload_n 0) 1 := ⟨hm_T_heading, by decide +kernel⟩
theorem a_T_heading_5 : zAt 70 5 m_T_heading (.getfield 20) 3 := ⟨hm_T_heading, by decide +kernel⟩
theorem a_T_heading_8 : zAt 70 8 m_T_heading (.invokevirtual 49) 3 := ⟨hm_T_heading, by decide +kernel⟩
theorem a_T_heading_11 : zAt 70 11 m_T_heading (.aload_n 0) 1 := ⟨hm_T_heading, by decide +kernel⟩
theorem a_T_heading_12 : zAt 70 12 m_T_heading (.getfield 24) 3 := ⟨hm_T_heading, by decide +kernel⟩
theorem a_T_heading_15 : zAt 70 15 m_T_heading (.aload_n 0) 1 := ⟨hm_T_heading, by decide +kernel⟩
theorem a_T_heading_16 : zAt 70 16 m_T_heading (.getfield 12) 3 := ⟨hm_T_heading, by decide +kernel⟩
theorem a_T_heading_19 : zAt 70 19 m_T_heading (.iload_n 1) 1 := ⟨hm_T_heading, by decide +kernel⟩
theorem a_T_heading_20 : zAt 70 20 m_T_heading (.iload_n 2) 1 := ⟨hm_T_heading, by decide +kernel⟩
theorem a_T_heading_21 : zAt 70 21 m_T_heading (.iload_n 3) 1 := ⟨hm_T_heading, by decide +kernel⟩
theorem a_T_heading_22 : zAt 70 22 m_T_heading (.iload 4) 2 := ⟨hm_T_heading, by decide +kernel⟩
theorem a_T_heading_24 : zAt 70 24 m_T_heading (.iload 5) 2 := ⟨hm_T_heading, by decide +kernel⟩
theorem a_T_heading_26 : zAt 70 26 m_T_heading (.invokevirtual 53) 3 := ⟨hm_T_heading, by decide +kernel⟩
theorem a_T_heading_29 : zAt 70 29 m_T_heading (.invokevirtual 57) 3 := ⟨hm_T_heading, by decide +kernel⟩
theorem a_T_heading_32 : zAt 70 32 m_T_heading (.ireturn) 1 := ⟨hm_T_heading, by decide +kernel⟩
theorem B_T_heading_0 {G : Nat → Nat → Int32} {x1 x2 x3 x4 x5 : Int32} : zden 70 0 [.ref 0, .int x1, .int x2, .int x3, .int x4, .int x5] [] (zSH, G) = zaft 70 11 [.ref 0, .int x1, .int x2, .int x3, .int x4, .int x5] [] (zSH, G) (zden 14 0 [.ref 9, .ref 2, .retAddr 0] [] (zSH, G)) :=
  (zd_aload_n a_T_heading_0 rfl).trans ((zd_getR (h := (zSH, G)) (ci := 7) (fi := 2) (a := 9) a_T_heading_1 (by decide +kernel) sh_0 rfl rfl).trans ((zd_aload_n a_T_heading_4 rfl).trans ((zd_getR (h := (zSH, G)) (ci := 7) (fi := 1) (a := 2) a_T_heading_5 (by decide +kernel) sh_0 rfl rfl).trans ((zd_cal (kd := 0) (tg := 14) (T := m_Hi_keep) a_T_heading_8 (by decide +kernel) hm_Hi_keep rfl rfl rfl rfl)))))
theorem B_T_heading_11 {G : Nat → Nat → Int32} {x1 x2 x3 x4 x5 : Int32} : zden 70 11 [.ref 0, .int x1, .int x2, .int x3, .int x4, .int x5] [] (zSH, G) = zaft 70 29 [.ref 0, .int x1, .int x2, .int x3, .int x4, .int x5] [.ref 9] (zSH, G) (zden 1 0 [.ref 1, .int x1, .int x2, .int x3, .int x4, .int x5, .retAddr 0] [] (zSH, G)) :=
  (zd_aload_n a_T_heading_11 rfl).trans ((zd_getR (h := (zSH, G)) (ci := 7) (fi := 2) (a := 9) a_T_heading_12 (by decide +kernel) sh_0 rfl rfl).trans ((zd_aload_n a_T_heading_15 rfl).trans ((zd_getR (h := (zSH, G)) (ci := 7) (fi := 0) (a := 1) a_T_heading_16 (by decide +kernel) sh_0 rfl rfl).trans ((zd_iload_n a_T_heading_19 rfl).trans ((zd_iload_n a_T_heading_20 rfl).trans ((zd_iload_n a_T_heading_21 rfl).trans ((zd_iload a_T_heading_22 rfl).trans ((zd_iload a_T_heading_24 rfl).trans ((zd_cal (kd := 0) (tg := 1) (T := m_Cl_setUp) a_T_heading_26 (by decide +kernel) hm_Cl_setUp rfl rfl rfl rfl))))))))))
theorem B_T_heading_29 {G : Nat → Nat → Int32} {x1 x2 x3 x4 x5 s0 : Int32} : zden 70 29 [.ref 0, .int x1, .int x2, .int x3, .int x4, .int x5] [.int s0, .ref 9] (zSH, G) = zaft 70 32 [.ref 0, .int x1, .int x2, .int x3, .int x4, .int x5] [] (zSH, G) (zden 15 0 [.ref 9, .int s0] [] (zSH, G)) :=
  (zd_cal (kd := 0) (tg := 15) (T := m_Hi_settle) a_T_heading_29 (by decide +kernel) hm_Hi_settle rfl rfl rfl rfl)
theorem B_T_heading_32 {G : Nat → Nat → Int32} {x1 x2 x3 x4 x5 s0 : Int32} : zden 70 32 [.ref 0, .int x1, .int x2, .int x3, .int x4, .int x5] [.int s0] (zSH, G) = some (some (.int s0), (zSH, G)) :=
  zd_iret a_T_heading_32 rfl (znr_int _)
theorem a_T_strike_0 : zAt 72 0 m_T_strike (.aload_n 0) 1 := ⟨hm_T_strike, by decide +kernel⟩
theorem a_T_strike_1 : zAt 72 1 m_T_strike (.getfield 24) 3 := ⟨hm_T_strike, by decide +kernel⟩
theorem a_T_strike_4 : zAt 72 4 m_T_strike (.aload_n 0) 1 := ⟨hm_T_strike, by decide +kernel⟩
theorem a_T_strike_5 : zAt 72 5 m_T_strike (.getfield 20) 3 := ⟨hm_T_strike, by decide +kernel⟩
theorem a_T_strike_8 : zAt 72 8 m_T_strike (.invokevirtual 49) 3 := ⟨hm_T_strike, by decide +kernel⟩
theorem a_T_strike_11 : zAt 72 11 m_T_strike (.aload_n 0) 1 := ⟨hm_T_strike, by decide +kernel⟩
theorem a_T_strike_12 : zAt 72 12 m_T_strike (.getfield 24) 3 := ⟨hm_T_strike, by decide +kernel⟩
theorem a_T_strike_15 : zAt 72 15 m_T_strike (.aload_n 0) 1 := ⟨hm_T_strike, by decide +kernel⟩
theorem a_T_strike_16 : zAt 72 16 m_T_strike (.getfield 12) 3 := ⟨hm_T_strike, by decide +kernel⟩
theorem a_T_strike_19 : zAt 72 19 m_T_strike (.iload_n 1) 1 := ⟨hm_T_strike, by decide +kernel⟩
theorem a_T_strike_20 : zAt 72 20 m_T_strike (.invokevirtual 61) 3 := ⟨hm_T_strike, by decide +kernel⟩
theorem a_T_strike_23 : zAt 72 23 m_T_strike (.invokevirtual 57) 3 := ⟨hm_T_strike, by decide +kernel⟩
theorem a_T_strike_26 : zAt 72 26 m_T_strike (.ireturn) 1 := ⟨hm_T_strike, by decide +kernel⟩
theorem B_T_strike_0 {G : Nat → Nat → Int32} {x1 : Int32} : zden 72 0 [.ref 0, .int x1] [] (zSH, G) = zaft 72 11 [.ref 0, .int x1] [] (zSH, G) (zden 14 0 [.ref 9, .ref 2, .retAddr 0] [] (zSH, G)) :=
  (zd_aload_n a_T_strike_0 rfl).trans ((zd_getR (h := (zSH, G)) (ci := 7) (fi := 2) (a := 9) a_T_strike_1 (by decide +kernel) sh_0 rfl rfl).trans ((zd_aload_n a_T_strike_4 rfl).trans ((zd_getR (h := (zSH, G)) (ci := 7) (fi := 1) (a := 2) a_T_strike_5 (by decide +kernel) sh_0 rfl rfl).trans ((zd_cal (kd := 0) (tg := 14) (T := m_Hi_keep) a_T_strike_8 (by decide +kernel) hm_Hi_keep rfl rfl rfl rfl)))))
theorem B_T_strike_11 {G : Nat → Nat → Int32} {x1 : Int32} : zden 72 11 [.ref 0, .int x1] [] (zSH, G) = zaft 72 23 [.ref 0, .int x1] [.ref 9] (zSH, G) (zden 3 0 [.ref 1, .int x1, .retAddr 0, .retAddr 0] [] (zSH, G)) :=
  (zd_aload_n a_T_strike_11 rfl).trans ((zd_getR (h := (zSH, G)) (ci := 7) (fi := 2) (a := 9) a_T_strike_12 (by decide +kernel) sh_0 rfl rfl).trans ((zd_aload_n a_T_strike_15 rfl).trans ((zd_getR (h := (zSH, G)) (ci := 7) (fi := 0) (a := 1) a_T_strike_16 (by decide +kernel) sh_0 rfl rfl).trans ((zd_iload_n a_T_strike_19 rfl).trans ((zd_cal (kd := 0) (tg := 3) (T := m_Cl_strikeOut) a_T_strike_20 (by decide +kernel) hm_Cl_strikeOut rfl rfl rfl rfl))))))
theorem B_T_strike_23 {G : Nat → Nat → Int32} {x1 s0 : Int32} : zden 72 23 [.ref 0, .int x1] [.int s0, .ref 9] (zSH, G) = zaft 72 26 [.ref 0, .int x1] [] (zSH, G) (zden 15 0 [.ref 9, .int s0] [] (zSH, G)) :=
  (zd_cal (kd := 0) (tg := 15) (T := m_Hi_settle) a_T_strike_23 (by decide +kernel) hm_Hi_settle rfl rfl rfl rfl)
theorem B_T_strike_26 {G : Nat → Nat → Int32} {x1 s0 : Int32} : zden 72 26 [.ref 0, .int x1] [.int s0] (zSH, G) = some (some (.int s0), (zSH, G)) :=
  zd_iret a_T_strike_26 rfl (znr_int _)
theorem a_T_headingOf_0 : zAt 73 0 m_T_headingOf (.aload_n 0) 1 := ⟨hm_T_headingOf, by decide +kernel⟩
theorem a_T_headingOf_1 : zAt 73 1 m_T_headingOf (.getfield 20) 3 := ⟨hm_T_headingOf, by decide +kernel⟩
theorem a_T_headingOf_4 : zAt 73 4 m_T_headingOf (.iload_n 1) 1 := ⟨hm_T_headingOf, by decide +kernel⟩
theorem a_T_headingOf_5 : zAt 73 5 m_T_headingOf (.invokevirtual 64) 3 := ⟨hm_T_headingOf, by decide +kernel⟩
theorem a_T_headingOf_8 : zAt 73 8 m_T_headingOf (.istore_n 3) 1 := ⟨hm_T_headingOf, by decide +kernel⟩
theorem a_T_headingOf_9 : zAt 73 9 m_T_headingOf (.iload_n 3) 1 := ⟨hm_T_headingOf, by decide +kernel⟩
theorem a_T_headingOf_10 : zAt 73 10 m_T_headingOf (.ifCond .ge 6) 3 := ⟨hm_T_headingOf, by decide +kernel⟩
theorem a_T_headingOf_13 : zAt 73 13 m_T_headingOf (.bipush (-11)) 2 := ⟨hm_T_headingOf, by decide +kernel⟩
theorem a_T_headingOf_15 : zAt 73 15 m_T_headingOf (.ireturn) 1 := ⟨hm_T_headingOf, by decide +kernel⟩
theorem a_T_headingOf_16 : zAt 73 16 m_T_headingOf (.iload_n 2) 1 := ⟨hm_T_headingOf, by decide +kernel⟩
theorem a_T_headingOf_17 : zAt 73 17 m_T_headingOf (.iconst 0) 1 := ⟨hm_T_headingOf, by decide +kernel⟩
theorem a_T_headingOf_18 : zAt 73 18 m_T_headingOf (.iconst 4) 1 := ⟨hm_T_headingOf, by decide +kernel⟩
theorem a_T_headingOf_19 : zAt 73 19 m_T_headingOf (.invokestatic 69) 3 := ⟨hm_T_headingOf, by decide +kernel⟩
theorem a_T_headingOf_22 : zAt 73 22 m_T_headingOf (.ifCond .ne 6) 3 := ⟨hm_T_headingOf, by decide +kernel⟩
theorem a_T_headingOf_25 : zAt 73 25 m_T_headingOf (.bipush (-12)) 2 := ⟨hm_T_headingOf, by decide +kernel⟩
theorem a_T_headingOf_27 : zAt 73 27 m_T_headingOf (.ireturn) 1 := ⟨hm_T_headingOf, by decide +kernel⟩
theorem a_T_headingOf_28 : zAt 73 28 m_T_headingOf (.iload_n 2) 1 := ⟨hm_T_headingOf, by decide +kernel⟩
theorem a_T_headingOf_29 : zAt 73 29 m_T_headingOf (.iconst 4) 1 := ⟨hm_T_headingOf, by decide +kernel⟩
theorem a_T_headingOf_30 : zAt 73 30 m_T_headingOf (.if_icmp .ne 14) 3 := ⟨hm_T_headingOf, by decide +kernel⟩
theorem a_T_headingOf_33 : zAt 73 33 m_T_headingOf (.aload_n 0) 1 := ⟨hm_T_headingOf, by decide +kernel⟩
theorem a_T_headingOf_34 : zAt 73 34 m_T_headingOf (.getfield 20) 3 := ⟨hm_T_headingOf, by decide +kernel⟩
theorem a_T_headingOf_37 : zAt 73 37 m_T_headingOf (.iload_n 3) 1 := ⟨hm_T_headingOf, by decide +kernel⟩
theorem a_T_headingOf_38 : zAt 73 38 m_T_headingOf (.invokevirtual 73) 3 := ⟨hm_T_headingOf, by decide +kernel⟩
theorem a_T_headingOf_41 : zAt 73 41 m_T_headingOf (.goto 15) 3 := ⟨hm_T_headingOf, by decide +kernel⟩
theorem a_T_headingOf_44 : zAt 73 44 m_T_headingOf (.aload_n 0) 1 := ⟨hm_T_headingOf, by decide +kernel⟩
theorem a_T_headingOf_45 : zAt 73 45 m_T_headingOf (.getfield 20) 3 := ⟨hm_T_headingOf, by decide +kernel⟩
theorem a_T_headingOf_48 : zAt 73 48 m_T_headingOf (.getfield 76) 3 := ⟨hm_T_headingOf, by decide +kernel⟩
theorem a_T_headingOf_51 : zAt 73 51 m_T_headingOf (.iload_n 3) 1 := ⟨hm_T_headingOf, by decide +kernel⟩
theorem a_T_headingOf_52 : zAt 73 52 m_T_headingOf (.iload_n 2) 1 := ⟨hm_T_headingOf, by decide +kernel⟩
theorem a_T_headingOf_53 : zAt 73 53 m_T_headingOf (.invokevirtual 80) 3 := ⟨hm_T_headingOf, by decide +kernel⟩
theorem a_T_headingOf_56 : zAt 73 56 m_T_headingOf (.ireturn) 1 := ⟨hm_T_headingOf, by decide +kernel⟩
theorem B_T_headingOf_0 {G : Nat → Nat → Int32} {x1 x2 : Int32} : zden 73 0 [.ref 0, .int x1, .int x2, .retAddr 0] [] (zSH, G) = zaft 73 8 [.ref 0, .int x1, .int x2, .retAddr 0] [] (zSH, G) (zden 22 0 [.ref 2, .int x1, .retAddr 0] [] (zSH, G)) :=
  (zd_aload_n a_T_headingOf_0 rfl).trans ((zd_getR (h := (zSH, G)) (ci := 7) (fi := 1) (a := 2) a_T_headingOf_1 (by decide +kernel) sh_0 rfl rfl).trans ((zd_iload_n a_T_headingOf_4 rfl).trans ((zd_cal (kd := 0) (tg := 22) (T := m_Ho_rowOfCode) a_T_headingOf_5 (by decide +kernel) hm_Ho_rowOfCode rfl rfl rfl rfl))))
theorem B_T_headingOf_8 {G : Nat → Nat → Int32} {x1 x2 s0 : Int32} : zden 73 8 [.ref 0, .int x1, .int x2, .retAddr 0] [.int s0] (zSH, G) = if 0 ≤ s0 then if ¬ (bI (0 ≤ x2 ∧ x2 ≤ 4)) = 0 then if ¬ x2 = 4 then some (some (.int (tget G 3 4 55 s0 x2)), (zSH, G)) else zaft 73 41 [.ref 0, .int x1, .int x2, .int s0] [] (zSH, G) (zden 23 0 [.ref 2, .int s0, .retAddr 0, .retAddr 0] [] (zSH, G)) else some (some (.int (-12)), (zSH, G)) else some (some (.int (-11)), (zSH, G)) :=
  (zd_istore_n a_T_headingOf_8 rfl rfl rfl).trans ((zd_iload_n a_T_headingOf_9 rfl).trans ((zd_if_ge a_T_headingOf_10 rfl).trans (zitc (fun p7 => (zd_iload_n a_T_headingOf_16 rfl).trans ((zd_iconst (v := 0) a_T_headingOf_17 (by decide)).trans ((zd_iconst (v := 4) a_T_headingOf_18 (by decide)).trans ((zd_cal (kd := 1) (tg := 71) (T := m_T_isWithin) a_T_headingOf_19 (by decide +kernel) hm_T_isWithin rfl rfl rfl rfl).trans (((congrArg (zaft 73 22 [.ref 0, .int x1, .int x2, .int s0] [] (zSH, G)) (sp_isWithin)).trans zaft_same).trans ((zd_if_ne a_T_headingOf_22 rfl).trans (zitc (fun p8 => (zd_iload_n a_T_headingOf_28 rfl).trans ((zd_iconst (v := 4) a_T_headingOf_29 (by decide)).trans ((zd_icmp_ne a_T_headingOf_30 rfl).trans (zitc (fun p9 => (zd_aload_n a_T_headingOf_44 rfl).trans ((zd_getR (h := (zSH, G)) (ci := 7) (fi := 1) (a := 2) a_T_headingOf_45 (by decide +kernel) sh_0 rfl rfl).trans ((zd_getR (h := (zSH, G)) (ci := 2) (fi := 0) (a := 3) a_T_headingOf_48 (by decide +kernel) sh_2 rfl rfl).trans ((zd_iload_n a_T_headingOf_51 rfl).trans ((zd_iload_n a_T_headingOf_52 rfl).trans ((zd_cal (kd := 0) (tg := 53) (T := m_Ta_get) a_T_headingOf_53 (by decide +kernel) hm_Ta_get rfl rfl rfl rfl).trans (((congrArg (zaft 73 56 [.ref 0, .int x1, .int x2, .int s0] [] (zSH, G)) (sp_get (r := 3) (q := 4) (n := 55) sh_3 sh_4 rfl (by decide))).trans zaft_same).trans (zd_iret a_T_headingOf_56 rfl (znr_int _))))))))) (fun p9 => (zd_aload_n a_T_headingOf_33 rfl).trans ((zd_getR (h := (zSH, G)) (ci := 7) (fi := 1) (a := 2) a_T_headingOf_34 (by decide +kernel) sh_0 rfl rfl).trans ((zd_iload_n a_T_headingOf_37 rfl).trans ((zd_cal (kd := 0) (tg := 23) (T := m_Ho_countGoodsOf) a_T_headingOf_38 (by decide +kernel) hm_Ho_countGoodsOf rfl rfl rfl rfl))))))))) (fun p8 => (zd_bipush (v := (-12)) a_T_headingOf_25 (by decide)).trans (zd_iret a_T_headingOf_27 rfl (znr_int _)))))))))) (fun p7 => (zd_bipush (v := (-11)) a_T_headingOf_13 (by decide)).trans (zd_iret a_T_headingOf_15 rfl (znr_int _))))))
theorem B_T_headingOf_41 {G : Nat → Nat → Int32} {x1 x2 x3 s0 : Int32} : zden 73 41 [.ref 0, .int x1, .int x2, .int x3] [.int s0] (zSH, G) = some (some (.int s0), (zSH, G)) :=
  (zd_goto a_T_headingOf_41 rfl).trans (zd_iret a_T_headingOf_56 rfl (znr_int _))
theorem a_T_code_0 : zAt 74 0 m_T_code (.iload_n 1) 1 := ⟨hm_T_code, by decide +kernel⟩
theorem a_T_code_1 : zAt 74 1 m_T_code (.iconst 0) 1 := ⟨hm_T_code, by decide +kernel⟩
theorem a_T_code_2 : zAt 74 2 m_T_code (.aload_n 0) 1 := ⟨hm_T_code, by decide +kernel⟩
theorem a_T_code_3 : zAt 74 3 m_T_code (.getfield 20) 3 := ⟨hm_T_code, by decide +kernel⟩
theorem a_T_code_6 : zAt 74 6 m_T_code (.getfield 86) 3 := ⟨hm_T_code, by decide +kernel⟩
theorem a_T_code_9 : zAt 74 9 m_T_code (.iconst 1) 1 := ⟨hm_T_code, by decide +kernel⟩
theorem a_T_code_10 : zAt 74 10 m_T_code (.isub) 1 := ⟨hm_T_code, by decide +kernel⟩
theorem a_T_code_11 : zAt 74 11 m_T_code (.invokestatic 69) 3 := ⟨hm_T_code, by decide +kernel⟩
theorem a_T_code_14 : zAt 74 14 m_T_code (.ifCond .eq 18) 3 := ⟨hm_T_code, by decide +kernel⟩
theorem a_T_code_17 : zAt 74 17 m_T_code (.aload_n 0) 1 := ⟨hm_T_code, by decide +kernel⟩
theorem a_T_code_18 : zAt 74 18 m_T_code (.getfield 20) 3 := ⟨hm_T_code, by decide +kernel⟩
theorem a_T_code_21 : zAt 74 21 m_T_code (.getfield 76) 3 := ⟨hm_T_code, by decide +kernel⟩
theorem a_T_code_24 : zAt 74 24 m_T_code (.iload_n 1) 1 := ⟨hm_T_code, by decide +kernel⟩
theorem a_T_code_25 : zAt 74 25 m_T_code (.iconst 4) 1 := ⟨hm_T_code, by decide +kernel⟩
theorem a_T_code_26 : zAt 74 26 m_T_code (.invokevirtual 80) 3 := ⟨hm_T_code, by decide +kernel⟩
theorem a_T_code_29 : zAt 74 29 m_T_code (.goto 5) 3 := ⟨hm_T_code, by decide +kernel⟩
theorem a_T_code_32 : zAt 74 32 m_T_code (.bipush (-11)) 2 := ⟨hm_T_code, by decide +kernel⟩
theorem a_T_code_34 : zAt 74 34 m_T_code (.ireturn) 1 := ⟨hm_T_code, by decide +kernel⟩
theorem B_T_code_0 {G : Nat → Nat → Int32} {x1 : Int32} : zden 74 0 [.ref 0, .int x1] [] (zSH, G) = if (bI (0 ≤ x1 ∧ x1 ≤ ((G 2 3) - 1))) = 0 then some (some (.int (-11)), (zSH, G)) else some (some (.int (tget G 3 4 55 x1 4)), (zSH, G)) :=
  (zd_iload_n a_T_code_0 rfl).trans ((zd_iconst (v := 0) a_T_code_1 (by decide)).trans ((zd_aload_n a_T_code_2 rfl).trans ((zd_getR (h := (zSH, G)) (ci := 7) (fi := 1) (a := 2) a_T_code_3 (by decide +kernel) sh_0 rfl rfl).trans ((zd_getI (h := (zSH, G)) (ci := 2) (fi := 3) a_T_code_6 (by decide +kernel) sh_2 rfl).trans ((zd_iconst (v := 1) a_T_code_9 (by decide)).trans ((zd_num (st2 := [.int ((G 2 3) - 1), .int 0, .int x1]) a_T_code_10 rfl rfl rfl rfl).trans ((zd_cal (kd := 1) (tg := 71) (T := m_T_isWithin) a_T_code_11 (by decide +kernel) hm_T_isWithin rfl rfl rfl rfl).trans (((congrArg (zaft 74 14 [.ref 0, .int x1] [] (zSH, G)) (sp_isWithin)).trans zaft_same).trans ((zd_if_eq a_T_code_14 rfl).trans (zitc (fun p2 => (zd_bipush (v := (-11)) a_T_code_32 (by decide)).trans (zd_iret a_T_code_34 rfl (znr_int _))) (fun p2 => (zd_aload_n a_T_code_17 rfl).trans ((zd_getR (h := (zSH, G)) (ci := 7) (fi := 1) (a := 2) a_T_code_18 (by decide +kernel) sh_0 rfl rfl).trans ((zd_getR (h := (zSH, G)) (ci := 2) (fi := 0) (a := 3) a_T_code_21 (by decide +kernel) sh_2 rfl rfl).trans ((zd_iload_n a_T_code_24 rfl).trans ((zd_iconst (v := 4) a_T_code_25 (by decide)).trans ((zd_cal (kd := 0) (tg := 53) (T := m_Ta_get) a_T_code_26 (by decide +kernel) hm_Ta_get rfl rfl rfl rfl).trans (((congrArg (zaft 74 29 [.ref 0, .int x1] [] (zSH, G)) (sp_get (r := 3) (q := 4) (n := 55) sh_3 sh_4 rfl (by decide))).trans zaft_same).trans ((zd_goto a_T_code_29 rfl).trans (zd_iret a_T_code_34 rfl (znr_int _))))))))))))))))))))
theorem a_T_good_0 : zAt 75 0 m_T_good (.aload_n 0) 1 := ⟨hm_T_good, by decide +kernel⟩
theorem a_T_good_1 : zAt 75 1 m_T_good (.getfield 24) 3 := ⟨hm_T_good, by decide +kernel⟩
theorem a_T_good_4 : zAt 75 4 m_T_good (.aload_n 0) 1 := ⟨hm_T_good, by decide +kernel⟩
theorem a_T_good_5 : zAt 75 5 m_T_good (.getfield 20) 3 := ⟨hm_T_good, by decide +kernel⟩
theorem a_T_good_8 : zAt 75 8 m_T_good (.invokevirtual 49) 3 := ⟨hm_T_good, by decide +kernel⟩
theorem a_T_good_11 : zAt 75 11 m_T_good (.aload_n 0) 1 := ⟨hm_T_good, by decide +kernel⟩
theorem a_T_good_12 : zAt 75 12 m_T_good (.getfield 24) 3 := ⟨hm_T_good, by decide +kernel⟩
theorem a_T_good_15 : zAt 75 15 m_T_good (.aload_n 0) 1 := ⟨hm_T_good, by decide +kernel⟩
theorem a_T_good_16 : zAt 75 16 m_T_good (.getfield 12) 3 := ⟨hm_T_good, by decide +kernel⟩
theorem a_T_good_19 : zAt 75 19 m_T_good (.iload_n 1) 1 := ⟨hm_T_good, by decide +kernel⟩
theorem a_T_good_20 : zAt 75 20 m_T_good (.iload_n 2) 1 := ⟨hm_T_good, by decide +kernel⟩
theorem a_T_good_21 : zAt 75 21 m_T_good (.iload_n 3) 1 := ⟨hm_T_good, by decide +kernel⟩
theorem a_T_good_22 : zAt 75 22 m_T_good (.iload 4) 2 := ⟨hm_T_good, by decide +kernel⟩
theorem a_T_good_24 : zAt 75 24 m_T_good (.iload 5) 2 := ⟨hm_T_good, by decide +kernel⟩
theorem a_T_good_26 : zAt 75 26 m_T_good (.iload 6) 2 := ⟨hm_T_good, by decide +kernel⟩
theorem a_T_good_28 : zAt 75 28 m_T_good (.invokevirtual 90) 3 := ⟨hm_T_good, by decide +kernel⟩
theorem a_T_good_31 : zAt 75 31 m_T_good (.invokevirtual 57) 3 := ⟨hm_T_good, by decide +kernel⟩
theorem a_T_good_34 : zAt 75 34 m_T_good (.ireturn) 1 := ⟨hm_T_good, by decide +kernel⟩
theorem B_T_good_0 {G : Nat → Nat → Int32} {x1 x2 x3 x4 x5 x6 : Int32} : zden 75 0 [.ref 0, .int x1, .int x2, .int x3, .int x4, .int x5, .int x6] [] (zSH, G) = zaft 75 11 [.ref 0, .int x1, .int x2, .int x3, .int x4, .int x5, .int x6] [] (zSH, G) (zden 14 0 [.ref 9, .ref 2, .retAddr 0] [] (zSH, G)) :=
  (zd_aload_n a_T_good_0 rfl).trans ((zd_getR (h := (zSH, G)) (ci := 7) (fi := 2) (a := 9) a_T_good_1 (by decide +kernel) sh_0 rfl rfl).trans ((zd_aload_n a_T_good_4 rfl).trans ((zd_getR (h := (zSH, G)) (ci := 7) (fi := 1) (a := 2) a_T_good_5 (by decide +kernel) sh_0 rfl rfl).trans ((zd_cal (kd := 0) (tg := 14) (T := m_Hi_keep) a_T_good_8 (by decide +kernel) hm_Hi_keep rfl rfl rfl rfl)))))
theorem B_T_good_11 {G : Nat → Nat → Int32} {x1 x2 x3 x4 x5 x6 : Int32} : zden 75 11 [.ref 0, .int x1, .int x2, .int x3, .int x4, .int x5, .int x6] [] (zSH, G) = zaft 75 31 [.ref 0, .int x1, .int x2, .int x3, .int x4, .int x5, .int x6] [.ref 9] (zSH, G) (zden 4 0 [.ref 1, .int x1, .int x2, .int x3, .int x4, .int x5, .int x6, .retAddr 0, .retAddr 0] [] (zSH, G)) :=
  (zd_aload_n a_T_good_11 rfl).trans ((zd_getR (h := (zSH, G)) (ci := 7) (fi := 2) (a := 9) a_T_good_12 (by decide +kernel) sh_0 rfl rfl).trans ((zd_aload_n a_T_good_15 rfl).trans ((zd_getR (h := (zSH, G)) (ci := 7) (fi := 0) (a := 1) a_T_good_16 (by decide +kernel) sh_0 rfl rfl).trans ((zd_iload_n a_T_good_19 rfl).trans ((zd_iload_n a_T_good_20 rfl).trans ((zd_iload_n a_T_good_21 rfl).trans ((zd_iload a_T_good_22 rfl).trans ((zd_iload a_T_good_24 rfl).trans ((zd_iload a_T_good_26 rfl).trans ((zd_cal (kd := 0) (tg := 4) (T := m_Cl_takeIn) a_T_good_28 (by decide +kernel) hm_Cl_takeIn rfl rfl rfl rfl)))))))))))
theorem B_T_good_31 {G : Nat → Nat → Int32} {x1 x2 x3 x4 x5 x6 s0 : Int32} : zden 75 31 [.ref 0, .int x1, .int x2, .int x3, .int x4, .int x5, .int x6] [.int s0, .ref 9] (zSH, G) = zaft 75 34 [.ref 0, .int x1, .int x2, .int x3, .int x4, .int x5, .int x6] [] (zSH, G) (zden 15 0 [.ref 9, .int s0] [] (zSH, G)) :=
  (zd_cal (kd := 0) (tg := 15) (T := m_Hi_settle) a_T_good_31 (by decide +kernel) hm_Hi_settle rfl rfl rfl rfl)
theorem B_T_good_34 {G : Nat → Nat → Int32} {x1 x2 x3 x4 x5 x6 s0 : Int32} : zden 75 34 [.ref 0, .int x1, .int x2, .int x3, .int x4, .int x5, .int x6] [.int s0] (zSH, G) = some (some (.int s0), (zSH, G)) :=
  zd_iret a_T_good_34 rfl (znr_int _)
theorem a_T_work_0 : zAt 76 0 m_T_work (.aload_n 0) 1 := ⟨hm_T_work, by decide +kernel⟩
theorem a_T_work_1 : zAt 76 1 m_T_work (.getfield 24) 3 := ⟨hm_T_work, by decide +kernel⟩
theorem a_T_work_4 : zAt 76 4 m_T_work (.aload_n 0) 1 := ⟨hm_T_work, by decide +kernel⟩
theorem a_T_work_5 : zAt 76 5 m_T_work (.getfield 20) 3 := ⟨hm_T_work, by decide +kernel⟩
theorem a_T_work_8 : zAt 76 8 m_T_work (.invokevirtual 49) 3 := ⟨hm_T_work, by decide +kernel⟩
theorem a_T_work_11 : zAt 76 11 m_T_work (.aload_n 0) 1 := ⟨hm_T_work, by decide +kernel⟩
theorem a_T_work_12 : zAt 76 12 m_T_work (.getfield 24) 3 := ⟨hm_T_work, by decide +kernel⟩
theorem a_T_work_15 : zAt 76 15 m_T_work (.aload_n 0) 1 := ⟨hm_T_work, by decide +kernel⟩
theorem a_T_work_16 : zAt 76 16 m_T_work (.getfield 12) 3 := ⟨hm_T_work, by decide +kernel⟩
theorem a_T_work_19 : zAt 76 19 m_T_work (.iload_n 1) 1 := ⟨hm_T_work, by decide +kernel⟩
theorem a_T_work_20 : zAt 76 20 m_T_work (.iload_n 2) 1 := ⟨hm_T_work, by decide +kernel⟩
theorem a_T_work_21 : zAt 76 21 m_T_work (.iload_n 3) 1 := ⟨hm_T_work, by decide +kernel⟩
theorem a_T_work_22 : zAt 76 22 m_T_work (.invokevirtual 94) 3 := ⟨hm_T_work, by decide +kernel⟩
theorem a_T_work_25 : zAt 76 25 m_T_work (.invokevirtual 57) 3 := ⟨hm_T_work, by decide +kernel⟩
theorem a_T_work_28 : zAt 76 28 m_T_work (.ireturn) 1 := ⟨hm_T_work, by decide +kernel⟩
theorem B_T_work_0 {G : Nat → Nat → Int32} {x1 x2 x3 : Int32} : zden 76 0 [.ref 0, .int x1, .int x2, .int x3] [] (zSH, G) = zaft 76 11 [.ref 0, .int x1, .int x2, .int x3] [] (zSH, G) (zden 14 0 [.ref 9, .ref 2, .retAddr 0] [] (zSH, G)) :=
  (zd_aload_n a_T_work_0 rfl).trans ((zd_getR (h := (zSH, G)) (ci := 7) (fi := 2) (a := 9) a_T_work_1 (by decide +kernel) sh_0 rfl rfl).trans ((zd_aload_n a_T_work_4 rfl).trans ((zd_getR (h := (zSH, G)) (ci := 7) (fi := 1) (a := 2) a_T_work_5 (by decide +kernel) sh_0 rfl rfl).trans ((zd_cal (kd := 0) (tg := 14) (T := m_Hi_keep) a_T_work_8 (by decide +kernel) hm_Hi_keep rfl rfl rfl rfl)))))
theorem B_T_work_11 {G : Nat → Nat → Int32} {x1 x2 x3 : Int32} : zden 76 11 [.ref 0, .int x1, .int x2, .int x3] [] (zSH, G) = zaft 76 25 [.ref 0, .int x1, .int x2, .int x3] [.ref 9] (zSH, G) (zden 6 0 [.ref 1, .int x1, .int x2, .int x3, .retAddr 0, .retAddr 0, .retAddr 0, .retAddr 0] [] (zSH, G)) :=
  (zd_aload_n a_T_work_11 rfl).trans ((zd_getR (h := (zSH, G)) (ci := 7) (fi := 2) (a := 9) a_T_work_12 (by decide +kernel) sh_0 rfl rfl).trans ((zd_aload_n a_T_work_15 rfl).trans ((zd_getR (h := (zSH, G)) (ci := 7) (fi := 0) (a := 1) a_T_work_16 (by decide +kernel) sh_0 rfl rfl).trans ((zd_iload_n a_T_work_19 rfl).trans ((zd_iload_n a_T_work_20 rfl).trans ((zd_iload_n a_T_work_21 rfl).trans ((zd_cal (kd := 0) (tg := 6) (T := m_Cl_workOn) a_T_work_22 (by decide +kernel) hm_Cl_workOn rfl rfl rfl rfl))))))))
theorem B_T_work_25 {G : Nat → Nat → Int32} {x1 x2 x3 s0 : Int32} : zden 76 25 [.ref 0, .int x1, .int x2, .int x3] [.int s0, .ref 9] (zSH, G) = zaft 76 28 [.ref 0, .int x1, .int x2, .int x3] [] (zSH, G) (zden 15 0 [.ref 9, .int s0] [] (zSH, G)) :=
  (zd_cal (kd := 0) (tg := 15) (T := m_Hi_settle) a_T_work_25 (by decide +kernel) hm_Hi_settle rfl rfl rfl rfl)
theorem B_T_work_28 {G : Nat → Nat → Int32} {x1 x2 x3 s0 : Int32} : zden 76 28 [.ref 0, .int x1, .int x2, .int x3] [.int s0] (zSH, G) = some (some (.int s0), (zSH, G)) :=
  zd_iret a_T_work_28 rfl (znr_int _)
theorem a_T_goodOf_0 : zAt 78 0 m_T_goodOf (.aload_n 0) 1 := ⟨hm_T_goodOf, by decide +kernel⟩
theorem a_T_goodOf_1 : zAt 78 1 m_T_goodOf (.getfield 20) 3 := ⟨hm_T_goodOf, by decide +kernel⟩
theorem a_T_goodOf_4 : zAt 78 4 m_T_goodOf (.iload_n 1) 1 := ⟨hm_T_goodOf, by decide +kernel⟩
theorem a_T_goodOf_5 : zAt 78 5 m_T_goodOf (.invokevirtual 98) 3 := ⟨hm_T_goodOf, by decide +kernel⟩
theorem a_T_goodOf_8 : zAt 78 8 m_T_goodOf (.ifCond .ne 6) 3 := ⟨hm_T_goodOf, by decide +kernel⟩
theorem a_T_goodOf_11 : zAt 78 11 m_T_goodOf (.bipush (-11)) 2 := ⟨hm_T_goodOf, by decide +kernel⟩
theorem a_T_goodOf_13 : zAt 78 13 m_T_goodOf (.ireturn) 1 := ⟨hm_T_goodOf, by decide +kernel⟩
theorem a_T_goodOf_14 : zAt 78 14 m_T_goodOf (.iload_n 2) 1 := ⟨hm_T_goodOf, by decide +kernel⟩
theorem a_T_goodOf_15 : zAt 78 15 m_T_goodOf (.tableswitch 212 0 10 #[57, 70, 83, 96, 109, 122, 131, 154, 171, 184, 198]) 57 := ⟨hm_T_goodOf, by decide +kernel⟩
theorem a_T_goodOf_72 : zAt 78 72 m_T_goodOf (.aload_n 0) 1 := ⟨hm_T_goodOf, by decide +kernel⟩
theorem a_T_goodOf_73 : zAt 78 73 m_T_goodOf (.getfield 20) 3 := ⟨hm_T_goodOf, by decide +kernel⟩
theorem a_T_goodOf_76 : zAt 78 76 m_T_goodOf (.getfield 102) 3 := ⟨hm_T_goodOf, by decide +kernel⟩
theorem a_T_goodOf_79 : zAt 78 79 m_T_goodOf (.iload_n 1) 1 := ⟨hm_T_goodOf, by decide +kernel⟩
theorem a_T_goodOf_80 : zAt 78 80 m_T_goodOf (.iconst 0) 1 := ⟨hm_T_goodOf, by decide +kernel⟩
theorem a_T_goodOf_81 : zAt 78 81 m_T_goodOf (.invokevirtual 80) 3 := ⟨hm_T_goodOf, by decide +kernel⟩
theorem a_T_goodOf_84 : zAt 78 84 m_T_goodOf (.ireturn) 1 := ⟨hm_T_goodOf, by decide +kernel⟩
theorem a_T_goodOf_85 : zAt 78 85 m_T_goodOf (.aload_n 0) 1 := ⟨hm_T_goodOf, by decide +kernel⟩
theorem a_T_goodOf_86 : zAt 78 86 m_T_goodOf (.getfield 20) 3 := ⟨hm_T_goodOf, by decide +kernel⟩
theorem a_T_goodOf_89 : zAt 78 89 m_T_goodOf (.getfield 102) 3 := ⟨hm_T_goodOf, by decide +kernel⟩
theorem a_T_goodOf_92 : zAt 78 92 m_T_goodOf (.iload_n 1) 1 := ⟨hm_T_goodOf, by decide +kernel⟩
theorem a_T_goodOf_93 : zAt 78 93 m_T_goodOf (.iconst 1) 1 := ⟨hm_T_goodOf, by decide +kernel⟩
theorem a_T_goodOf_94 : zAt 78 94 m_T_goodOf (.invokevirtual 80) 3 := ⟨hm_T_goodOf, by decide +kernel⟩
theorem a_T_goodOf_97 : zAt 78 97 m_T_goodOf (.ireturn) 1 := ⟨hm_T_goodOf, by decide +kernel⟩
theorem a_T_goodOf_98 : zAt 78 98 m_T_goodOf (.aload_n 0) 1 := ⟨hm_T_goodOf, by decide +kernel⟩
theorem a_T_goodOf_99 : zAt 78 99 m_T_goodOf (.getfield 20) 3 := ⟨hm_T_goodOf, by decide +kernel⟩
theorem a_T_goodOf_102 : zAt 78 102 m_T_goodOf (.getfield 102) 3 := ⟨hm_T_goodOf, by decide +kernel⟩
theorem a_T_goodOf_105 : zAt 78 105 m_T_goodOf (.iload_n 1) 1 := ⟨hm_T_goodOf, by decide +kernel⟩
theorem a_T_goodOf_106 : zAt 78 106 m_T_goodOf (.iconst 2) 1 := ⟨hm_T_goodOf, by decide +kernel⟩
theorem a_T_goodOf_107 : zAt 78 107 m_T_goodOf (.invokevirtual 80) 3 := ⟨hm_T_goodOf, by decide +kernel⟩
theorem a_T_goodOf_110 : zAt 78 110 m_T_goodOf (.ireturn) 1 := ⟨hm_T_goodOf, by decide +kernel⟩
theorem a_T_goodOf_111 : zAt 78 111 m_T_goodOf (.aload_n 0) 1 := ⟨hm_T_goodOf, by decide +kernel⟩
theorem a_T_goodOf_112 : zAt 78 112 m_T_goodOf (.getfield 20) 3 := ⟨hm_T_goodOf, by decide +kernel⟩
theorem a_T_goodOf_115 : zAt 78 115 m_T_goodOf (.getfield 102) 3 := ⟨hm_T_goodOf, by decide +kernel⟩
theorem a_T_goodOf_118 : zAt 78 118 m_T_goodOf (.iload_n 1) 1 := ⟨hm_T_goodOf, by decide +kernel⟩
theorem a_T_goodOf_119 : zAt 78 119 m_T_goodOf (.iconst 3) 1 := ⟨hm_T_goodOf, by decide +kernel⟩
theorem a_T_goodOf_120 : zAt 78 120 m_T_goodOf (.invokevirtual 80) 3 := ⟨hm_T_goodOf, by decide +kernel⟩
theorem a_T_goodOf_123 : zAt 78 123 m_T_goodOf (.ireturn) 1 := ⟨hm_T_goodOf, by decide +kernel⟩
theorem a_T_goodOf_124 : zAt 78 124 m_T_goodOf (.aload_n 0) 1 := ⟨hm_T_goodOf, by decide +kernel⟩
theorem a_T_goodOf_125 : zAt 78 125 m_T_goodOf (.getfield 20) 3 := ⟨hm_T_goodOf, by decide +kernel⟩
theorem a_T_goodOf_128 : zAt 78 128 m_T_goodOf (.getfield 102) 3 := ⟨hm_T_goodOf, by decide +kernel⟩
theorem a_T_goodOf_131 : zAt 78 131 m_T_goodOf (.iload_n 1) 1 := ⟨hm_T_goodOf, by decide +kernel⟩
theorem a_T_goodOf_132 : zAt 78 132 m_T_goodOf (.iconst 4) 1 := ⟨hm_T_goodOf, by decide +kernel⟩
theorem a_T_goodOf_133 : zAt 78 133 m_T_goodOf (.invokevirtual 80) 3 := ⟨hm_T_goodOf, by decide +kernel⟩
theorem a_T_goodOf_136 : zAt 78 136 m_T_goodOf (.ireturn) 1 := ⟨hm_T_goodOf, by decide +kernel⟩
theorem a_T_goodOf_137 : zAt 78 137 m_T_goodOf (.aload_n 0) 1 := ⟨hm_T_goodOf, by decide +kernel⟩
theorem a_T_goodOf_138 : zAt 78 138 m_T_goodOf (.getfield 20) 3 := ⟨hm_T_goodOf, by decide +kernel⟩
theorem a_T_goodOf_141 : zAt 78 141 m_T_goodOf (.iload_n 1) 1 := ⟨hm_T_goodOf, by decide +kernel⟩
theorem a_T_goodOf_142 : zAt 78 142 m_T_goodOf (.invokevirtual 105) 3 := ⟨hm_T_goodOf, by decide +kernel⟩
theorem a_T_goodOf_145 : zAt 78 145 m_T_goodOf (.ireturn) 1 := ⟨hm_T_goodOf, by decide +kernel⟩
theorem a_T_goodOf_146 : zAt 78 146 m_T_goodOf (.aload_n 0) 1 := ⟨hm_T_goodOf, by decide +kernel⟩
theorem a_T_goodOf_147 : zAt 78 147 m_T_goodOf (.getfield 20) 3 := ⟨hm_T_goodOf, by decide +kernel⟩
theorem a_T_goodOf_150 : zAt 78 150 m_T_goodOf (.getfield 76) 3 := ⟨hm_T_goodOf, by decide +kernel⟩
theorem a_T_goodOf_153 : zAt 78 153 m_T_goodOf (.aload_n 0) 1 := ⟨hm_T_goodOf, by decide +kernel⟩
theorem a_T_goodOf_154 : zAt 78 154 m_T_goodOf (.getfield 20) 3 := ⟨hm_T_goodOf, by decide +kernel⟩
theorem a_T_goodOf_157 : zAt 78 157 m_T_goodOf (.iload_n 1) 1 := ⟨hm_T_goodOf, by decide +kernel⟩
theorem a_T_goodOf_158 : zAt 78 158 m_T_goodOf (.sipush 1000) 3 := ⟨hm_T_goodOf, by decide +kernel⟩
theorem a_T_goodOf_161 : zAt 78 161 m_T_goodOf (.invokevirtual 108) 3 := ⟨hm_T_goodOf, by decide +kernel⟩
theorem a_T_goodOf_164 : zAt 78 164 m_T_goodOf (.iconst 4) 1 := ⟨hm_T_goodOf, by decide +kernel⟩
theorem a_T_goodOf_165 : zAt 78 165 m_T_goodOf (.invokevirtual 80) 3 := ⟨hm_T_goodOf, by decide +kernel⟩
theorem a_T_goodOf_168 : zAt 78 168 m_T_goodOf (.ireturn) 1 := ⟨hm_T_goodOf, by decide +kernel⟩
theorem a_T_goodOf_169 : zAt 78 169 m_T_goodOf (.aload_n 0) 1 := ⟨hm_T_goodOf, by decide +kernel⟩
theorem a_T_goodOf_170 : zAt 78 170 m_T_goodOf (.getfield 20) 3 := ⟨hm_T_goodOf, by decide +kernel⟩
theorem a_T_goodOf_173 : zAt 78 173 m_T_goodOf (.iload_n 1) 1 := ⟨hm_T_goodOf, by decide +kernel⟩
theorem a_T_goodOf_174 : zAt 78 174 m_T_goodOf (.aload_n 0) 1 := ⟨hm_T_goodOf, by decide +kernel⟩
theorem a_T_goodOf_175 : zAt 78 175 m_T_goodOf (.getfield 20) 3 := ⟨hm_T_goodOf, by decide +kernel⟩
theorem a_T_goodOf_178 : zAt 78 178 m_T_goodOf (.iload_n 1) 1 := ⟨hm_T_goodOf, by decide +kernel⟩
theorem a_T_goodOf_179 : zAt 78 179 m_T_goodOf (.invokevirtual 105) 3 := ⟨hm_T_goodOf, by decide +kernel⟩
theorem a_T_goodOf_182 : zAt 78 182 m_T_goodOf (.invokevirtual 111) 3 := ⟨hm_T_goodOf, by decide +kernel⟩
theorem a_T_goodOf_185 : zAt 78 185 m_T_goodOf (.ireturn) 1 := ⟨hm_T_goodOf, by decide +kernel⟩
theorem a_T_goodOf_186 : zAt 78 186 m_T_goodOf (.aload_n 0) 1 := ⟨hm_T_goodOf, by decide +kernel⟩
theorem a_T_goodOf_187 : zAt 78 187 m_T_goodOf (.getfield 20) 3 := ⟨hm_T_goodOf, by decide +kernel⟩
theorem a_T_goodOf_190 : zAt 78 190 m_T_goodOf (.getfield 102) 3 := ⟨hm_T_goodOf, by decide +kernel⟩
theorem a_T_goodOf_193 : zAt 78 193 m_T_goodOf (.iload_n 1) 1 := ⟨hm_T_goodOf, by decide +kernel⟩
theorem a_T_goodOf_194 : zAt 78 194 m_T_goodOf (.iconst 5) 1 := ⟨hm_T_goodOf, by decide +kernel⟩
theorem a_T_goodOf_195 : zAt 78 195 m_T_goodOf (.invokevirtual 80) 3 := ⟨hm_T_goodOf, by decide +kernel⟩
theorem a_T_goodOf_198 : zAt 78 198 m_T_goodOf (.ireturn) 1 := ⟨hm_T_goodOf, by decide +kernel⟩
theorem a_T_goodOf_199 : zAt 78 199 m_T_goodOf (.aload_n 0) 1 := ⟨hm_T_goodOf, by decide +kernel⟩
theorem a_T_goodOf_200 : zAt 78 200 m_T_goodOf (.getfield 20) 3 := ⟨hm_T_goodOf, by decide +kernel⟩
theorem a_T_goodOf_203 : zAt 78 203 m_T_goodOf (.getfield 102) 3 := ⟨hm_T_goodOf, by decide +kernel⟩
theorem a_T_goodOf_206 : zAt 78 206 m_T_goodOf (.iload_n 1) 1 := ⟨hm_T_goodOf, by decide +kernel⟩
theorem a_T_goodOf_207 : zAt 78 207 m_T_goodOf (.bipush 6) 2 := ⟨hm_T_goodOf, by decide +kernel⟩
theorem a_T_goodOf_209 : zAt 78 209 m_T_goodOf (.invokevirtual 80) 3 := ⟨hm_T_goodOf, by decide +kernel⟩
theorem a_T_goodOf_212 : zAt 78 212 m_T_goodOf (.ireturn) 1 := ⟨hm_T_goodOf, by decide +kernel⟩
theorem a_T_goodOf_213 : zAt 78 213 m_T_goodOf (.aload_n 0) 1 := ⟨hm_T_goodOf, by decide +kernel⟩
theorem a_T_goodOf_214 : zAt 78 214 m_T_goodOf (.getfield 20) 3 := ⟨hm_T_goodOf, by decide +kernel⟩
theorem a_T_goodOf_217 : zAt 78 217 m_T_goodOf (.getfield 102) 3 := ⟨hm_T_goodOf, by decide +kernel⟩
theorem a_T_goodOf_220 : zAt 78 220 m_T_goodOf (.iload_n 1) 1 := ⟨hm_T_goodOf, by decide +kernel⟩
theorem a_T_goodOf_221 : zAt 78 221 m_T_goodOf (.bipush 7) 2 := ⟨hm_T_goodOf, by decide +kernel⟩
theorem a_T_goodOf_223 : zAt 78 223 m_T_goodOf (.invokevirtual 80) 3 := ⟨hm_T_goodOf, by decide +kernel⟩
theorem a_T_goodOf_226 : zAt 78 226 m_T_goodOf (.ireturn) 1 := ⟨hm_T_goodOf, by decide +kernel⟩
theorem a_T_goodOf_227 : zAt 78 227 m_T_goodOf (.bipush (-12)) 2 := ⟨hm_T_goodOf, by decide +kernel⟩
theorem a_T_goodOf_229 : zAt 78 229 m_T_goodOf (.ireturn) 1 := ⟨hm_T_goodOf, by decide +kernel⟩
theorem B_T_goodOf_0 {G : Nat → Nat → Int32} {x1 x2 : Int32} : zden 78 0 [.ref 0, .int x1, .int x2] [] (zSH, G) = if ¬ (bI (0 ≤ x1 ∧ x1 < G 2 4)) = 0 then if x2 = 0 then zden 78 72 [.ref 0, .int x1, .int x2] [] (zSH, G) else if x2 = 1 then zden 78 85 [.ref 0, .int x1, .int x2] [] (zSH, G) else if x2 = 2 then zden 78 98 [.ref 0, .int x1, .int x2] [] (zSH, G) else if x2 = 3 then zden 78 111 [.ref 0, .int x1, .int x2] [] (zSH, G) else if x2 = 4 then zden 78 124 [.ref 0, .int x1, .int x2] [] (zSH, G) else if x2 = 5 then zden 78 137 [.ref 0, .int x1, .int x2] [] (zSH, G) else if x2 = 6 then zden 78 146 [.ref 0, .int x1, .int x2] [] (zSH, G) else if x2 = 7 then zden 78 169 [.ref 0, .int x1, .int x2] [] (zSH, G) else if x2 = 8 then zden 78 186 [.ref 0, .int x1, .int x2] [] (zSH, G) else if x2 = 9 then zden 78 199 [.ref 0, .int x1, .int x2] [] (zSH, G) else if x2 = 10 then zden 78 213 [.ref 0, .int x1, .int x2] [] (zSH, G) else some (some (.int (-12)), (zSH, G)) else some (some (.int (-11)), (zSH, G)) :=
  (zd_aload_n a_T_goodOf_0 rfl).trans ((zd_getR (h := (zSH, G)) (ci := 7) (fi := 1) (a := 2) a_T_goodOf_1 (by decide +kernel) sh_0 rfl rfl).trans ((zd_iload_n a_T_goodOf_4 rfl).trans ((zd_cal (kd := 0) (tg := 27) (T := m_Ho_hasGood) a_T_goodOf_5 (by decide +kernel) hm_Ho_hasGood rfl rfl rfl rfl).trans (((congrArg (zaft 78 8 [.ref 0, .int x1, .int x2] [] (zSH, G)) (sp_hasGood)).trans zaft_same).trans ((zd_if_ne a_T_goodOf_8 rfl).trans (zitc (fun p49 => (zd_iload_n a_T_goodOf_14 rfl).trans ((zd_tsw (td := 227) (L := [(0, 72), (1, 85), (2, 98), (3, 111), (4, 124), (5, 137), (6, 146), (7, 169), (8, 186), (9, 199), (10, 213)]) a_T_goodOf_15 rfl (by decide) (by decide)).trans (zitc (fun p50 => rfl) (fun p50 => zitc (fun p51 => rfl) (fun p51 => zitc (fun p52 => rfl) (fun p52 => zitc (fun p53 => rfl) (fun p53 => zitc (fun p54 => rfl) (fun p54 => zitc (fun p55 => rfl) (fun p55 => zitc (fun p56 => rfl) (fun p56 => zitc (fun p57 => rfl) (fun p57 => zitc (fun p58 => rfl) (fun p58 => zitc (fun p59 => rfl) (fun p59 => zitc (fun p60 => rfl) (fun p60 => (zd_bipush (v := (-12)) a_T_goodOf_227 (by decide)).trans (zd_iret a_T_goodOf_229 rfl (znr_int _)))))))))))))))) (fun p49 => (zd_bipush (v := (-11)) a_T_goodOf_11 (by decide)).trans (zd_iret a_T_goodOf_13 rfl (znr_int _)))))))))
theorem B_T_goodOf_72 {G : Nat → Nat → Int32} {x1 x2 : Int32} : zden 78 72 [.ref 0, .int x1, .int x2] [] (zSH, G) = some (some (.int (tget G 5 6 276 x1 0)), (zSH, G)) :=
  (zd_aload_n a_T_goodOf_72 rfl).trans ((zd_getR (h := (zSH, G)) (ci := 7) (fi := 1) (a := 2) a_T_goodOf_73 (by decide +kernel) sh_0 rfl rfl).trans ((zd_getR (h := (zSH, G)) (ci := 2) (fi := 1) (a := 5) a_T_goodOf_76 (by decide +kernel) sh_2 rfl rfl).trans ((zd_iload_n a_T_goodOf_79 rfl).trans ((zd_iconst (v := 0) a_T_goodOf_80 (by decide)).trans ((zd_cal (kd := 0) (tg := 53) (T := m_Ta_get) a_T_goodOf_81 (by decide +kernel) hm_Ta_get rfl rfl rfl rfl).trans (((congrArg (zaft 78 84 [.ref 0, .int x1, .int x2] [] (zSH, G)) (sp_get (r := 5) (q := 6) (n := 276) sh_5 sh_6 rfl (by decide))).trans zaft_same).trans (zd_iret a_T_goodOf_84 rfl (znr_int _))))))))
theorem B_T_goodOf_85 {G : Nat → Nat → Int32} {x1 x2 : Int32} : zden 78 85 [.ref 0, .int x1, .int x2] [] (zSH, G) = some (some (.int (tget G 5 6 276 x1 1)), (zSH, G)) :=
  (zd_aload_n a_T_goodOf_85 rfl).trans ((zd_getR (h := (zSH, G)) (ci := 7) (fi := 1) (a := 2) a_T_goodOf_86 (by decide +kernel) sh_0 rfl rfl).trans ((zd_getR (h := (zSH, G)) (ci := 2) (fi := 1) (a := 5) a_T_goodOf_89 (by decide +kernel) sh_2 rfl rfl).trans ((zd_iload_n a_T_goodOf_92 rfl).trans ((zd_iconst (v := 1) a_T_goodOf_93 (by decide)).trans ((zd_cal (kd := 0) (tg := 53) (T := m_Ta_get) a_T_goodOf_94 (by decide +kernel) hm_Ta_get rfl rfl rfl rfl).trans (((congrArg (zaft 78 97 [.ref 0, .int x1, .int x2] [] (zSH, G)) (sp_get (r := 5) (q := 6) (n := 276) sh_5 sh_6 rfl (by decide))).trans zaft_same).trans (zd_iret a_T_goodOf_97 rfl (znr_int _))))))))
theorem B_T_goodOf_98 {G : Nat → Nat → Int32} {x1 x2 : Int32} : zden 78 98 [.ref 0, .int x1, .int x2] [] (zSH, G) = some (some (.int (tget G 5 6 276 x1 2)), (zSH, G)) :=
  (zd_aload_n a_T_goodOf_98 rfl).trans ((zd_getR (h := (zSH, G)) (ci := 7) (fi := 1) (a := 2) a_T_goodOf_99 (by decide +kernel) sh_0 rfl rfl).trans ((zd_getR (h := (zSH, G)) (ci := 2) (fi := 1) (a := 5) a_T_goodOf_102 (by decide +kernel) sh_2 rfl rfl).trans ((zd_iload_n a_T_goodOf_105 rfl).trans ((zd_iconst (v := 2) a_T_goodOf_106 (by decide)).trans ((zd_cal (kd := 0) (tg := 53) (T := m_Ta_get) a_T_goodOf_107 (by decide +kernel) hm_Ta_get rfl rfl rfl rfl).trans (((congrArg (zaft 78 110 [.ref 0, .int x1, .int x2] [] (zSH, G)) (sp_get (r := 5) (q := 6) (n := 276) sh_5 sh_6 rfl (by decide))).trans zaft_same).trans (zd_iret a_T_goodOf_110 rfl (znr_int _))))))))
theorem B_T_goodOf_111 {G : Nat → Nat → Int32} {x1 x2 : Int32} : zden 78 111 [.ref 0, .int x1, .int x2] [] (zSH, G) = some (some (.int (tget G 5 6 276 x1 3)), (zSH, G)) :=
  (zd_aload_n a_T_goodOf_111 rfl).trans ((zd_getR (h := (zSH, G)) (ci := 7) (fi := 1) (a := 2) a_T_goodOf_112 (by decide +kernel) sh_0 rfl rfl).trans ((zd_getR (h := (zSH, G)) (ci := 2) (fi := 1) (a := 5) a_T_goodOf_115 (by decide +kernel) sh_2 rfl rfl).trans ((zd_iload_n a_T_goodOf_118 rfl).trans ((zd_iconst (v := 3) a_T_goodOf_119 (by decide)).trans ((zd_cal (kd := 0) (tg := 53) (T := m_Ta_get) a_T_goodOf_120 (by decide +kernel) hm_Ta_get rfl rfl rfl rfl).trans (((congrArg (zaft 78 123 [.ref 0, .int x1, .int x2] [] (zSH, G)) (sp_get (r := 5) (q := 6) (n := 276) sh_5 sh_6 rfl (by decide))).trans zaft_same).trans (zd_iret a_T_goodOf_123 rfl (znr_int _))))))))
theorem B_T_goodOf_124 {G : Nat → Nat → Int32} {x1 x2 : Int32} : zden 78 124 [.ref 0, .int x1, .int x2] [] (zSH, G) = some (some (.int (tget G 5 6 276 x1 4)), (zSH, G)) :=
  (zd_aload_n a_T_goodOf_124 rfl).trans ((zd_getR (h := (zSH, G)) (ci := 7) (fi := 1) (a := 2) a_T_goodOf_125 (by decide +kernel) sh_0 rfl rfl).trans ((zd_getR (h := (zSH, G)) (ci := 2) (fi := 1) (a := 5) a_T_goodOf_128 (by decide +kernel) sh_2 rfl rfl).trans ((zd_iload_n a_T_goodOf_131 rfl).trans ((zd_iconst (v := 4) a_T_goodOf_132 (by decide)).trans ((zd_cal (kd := 0) (tg := 53) (T := m_Ta_get) a_T_goodOf_133 (by decide +kernel) hm_Ta_get rfl rfl rfl rfl).trans (((congrArg (zaft 78 136 [.ref 0, .int x1, .int x2] [] (zSH, G)) (sp_get (r := 5) (q := 6) (n := 276) sh_5 sh_6 rfl (by decide))).trans zaft_same).trans (zd_iret a_T_goodOf_136 rfl (znr_int _))))))))
theorem B_T_goodOf_137 {G : Nat → Nat → Int32} {x1 x2 : Int32} : zden 78 137 [.ref 0, .int x1, .int x2] [] (zSH, G) = zaft 78 145 [.ref 0, .int x1, .int x2] [] (zSH, G) (zden 28 0 [.ref 2, .int x1, .retAddr 0, .retAddr 0, .retAddr 0, .retAddr 0, .retAddr 0, .retAddr 0] [] (zSH, G)) :=
  (zd_aload_n a_T_goodOf_137 rfl).trans ((zd_getR (h := (zSH, G)) (ci := 7) (fi := 1) (a := 2) a_T_goodOf_138 (by decide +kernel) sh_0 rfl rfl).trans ((zd_iload_n a_T_goodOf_141 rfl).trans ((zd_cal (kd := 0) (tg := 28) (T := m_Ho_originOf) a_T_goodOf_142 (by decide +kernel) hm_Ho_originOf rfl rfl rfl rfl))))
theorem B_T_goodOf_145 {G : Nat → Nat → Int32} {x1 x2 s0 : Int32} : zden 78 145 [.ref 0, .int x1, .int x2] [.int s0] (zSH, G) = some (some (.int s0), (zSH, G)) :=
  zd_iret a_T_goodOf_145 rfl (znr_int _)
theorem B_T_goodOf_146 {G : Nat → Nat → Int32} {x1 x2 : Int32} : zden 78 146 [.ref 0, .int x1, .int x2] [] (zSH, G) = zaft 78 164 [.ref 0, .int x1, .int x2] [.ref 3] (zSH, G) (zden 24 0 [.ref 2, .int x1, .int 1000, .retAddr 0, .retAddr 0, .retAddr 0, .retAddr 0] [] (zSH, G)) :=
  (zd_aload_n a_T_goodOf_146 rfl).trans ((zd_getR (h := (zSH, G)) (ci := 7) (fi := 1) (a := 2) a_T_goodOf_147 (by decide +kernel) sh_0 rfl rfl).trans ((zd_getR (h := (zSH, G)) (ci := 2) (fi := 0) (a := 3) a_T_goodOf_150 (by decide +kernel) sh_2 rfl rfl).trans ((zd_aload_n a_T_goodOf_153 rfl).trans ((zd_getR (h := (zSH, G)) (ci := 7) (fi := 1) (a := 2) a_T_goodOf_154 (by decide +kernel) sh_0 rfl rfl).trans ((zd_iload_n a_T_goodOf_157 rfl).trans ((zd_sipush (v := 1000) a_T_goodOf_158 (by decide)).trans ((zd_cal (kd := 0) (tg := 24) (T := m_Ho_fittingRow) a_T_goodOf_161 (by decide +kernel) hm_Ho_fittingRow rfl rfl rfl rfl))))))))
theorem B_T_goodOf_164 {G : Nat → Nat → Int32} {x1 x2 s0 : Int32} : zden 78 164 [.ref 0, .int x1, .int x2] [.int s0, .ref 3] (zSH, G) = some (some (.int (tget G 3 4 55 s0 4)), (zSH, G)) :=
  (zd_iconst (v := 4) a_T_goodOf_164 (by decide)).trans ((zd_cal (kd := 0) (tg := 53) (T := m_Ta_get) a_T_goodOf_165 (by decide +kernel) hm_Ta_get rfl rfl rfl rfl).trans (((congrArg (zaft 78 168 [.ref 0, .int x1, .int x2] [] (zSH, G)) (sp_get (r := 3) (q := 4) (n := 55) sh_3 sh_4 rfl (by decide))).trans zaft_same).trans (zd_iret a_T_goodOf_168 rfl (znr_int _))))
theorem B_T_goodOf_169 {G : Nat → Nat → Int32} {x1 x2 : Int32} : zden 78 169 [.ref 0, .int x1, .int x2] [] (zSH, G) = zaft 78 182 [.ref 0, .int x1, .int x2] [.int x1, .ref 2] (zSH, G) (zden 28 0 [.ref 2, .int x1, .retAddr 0, .retAddr 0, .retAddr 0, .retAddr 0, .retAddr 0, .retAddr 0] [] (zSH, G)) :=
  (zd_aload_n a_T_goodOf_169 rfl).trans ((zd_getR (h := (zSH, G)) (ci := 7) (fi := 1) (a := 2) a_T_goodOf_170 (by decide +kernel) sh_0 rfl rfl).trans ((zd_iload_n a_T_goodOf_173 rfl).trans ((zd_aload_n a_T_goodOf_174 rfl).trans ((zd_getR (h := (zSH, G)) (ci := 7) (fi := 1) (a := 2) a_T_goodOf_175 (by decide +kernel) sh_0 rfl rfl).trans ((zd_iload_n a_T_goodOf_178 rfl).trans ((zd_cal (kd := 0) (tg := 28) (T := m_Ho_originOf) a_T_goodOf_179 (by decide +kernel) hm_Ho_originOf rfl rfl rfl rfl)))))))
theorem B_T_goodOf_182 {G : Nat → Nat → Int32} {x1 x2 s0 s1 : Int32} : zden 78 182 [.ref 0, .int x1, .int x2] [.int s0, .int s1, .ref 2] (zSH, G) = zaft 78 185 [.ref 0, .int x1, .int x2] [] (zSH, G) (zden 29 0 [.ref 2, .int s1, .int s0, .retAddr 0, .retAddr 0, .retAddr 0, .retAddr 0] [] (zSH, G)) :=
  (zd_cal (kd := 0) (tg := 29) (T := m_Ho_dutyFrom) a_T_goodOf_182 (by decide +kernel) hm_Ho_dutyFrom rfl rfl rfl rfl)
theorem B_T_goodOf_185 {G : Nat → Nat → Int32} {x1 x2 s0 : Int32} : zden 78 185 [.ref 0, .int x1, .int x2] [.int s0] (zSH, G) = some (some (.int s0), (zSH, G)) :=
  zd_iret a_T_goodOf_185 rfl (znr_int _)
theorem B_T_goodOf_186 {G : Nat → Nat → Int32} {x1 x2 : Int32} : zden 78 186 [.ref 0, .int x1, .int x2] [] (zSH, G) = some (some (.int (tget G 5 6 276 x1 5)), (zSH, G)) :=
  (zd_aload_n a_T_goodOf_186 rfl).trans ((zd_getR (h := (zSH, G)) (ci := 7) (fi := 1) (a := 2) a_T_goodOf_187 (by decide +kernel) sh_0 rfl rfl).trans ((zd_getR (h := (zSH, G)) (ci := 2) (fi := 1) (a := 5) a_T_goodOf_190 (by decide +kernel) sh_2 rfl rfl).trans ((zd_iload_n a_T_goodOf_193 rfl).trans ((zd_iconst (v := 5) a_T_goodOf_194 (by decide)).trans ((zd_cal (kd := 0) (tg := 53) (T := m_Ta_get) a_T_goodOf_195 (by decide +kernel) hm_Ta_get rfl rfl rfl rfl).trans (((congrArg (zaft 78 198 [.ref 0, .int x1, .int x2] [] (zSH, G)) (sp_get (r := 5) (q := 6) (n := 276) sh_5 sh_6 rfl (by decide))).trans zaft_same).trans (zd_iret a_T_goodOf_198 rfl (znr_int _))))))))
theorem B_T_goodOf_199 {G : Nat → Nat → Int32} {x1 x2 : Int32} : zden 78 199 [.ref 0, .int x1, .int x2] [] (zSH, G) = some (some (.int (tget G 5 6 276 x1 6)), (zSH, G)) :=
  (zd_aload_n a_T_goodOf_199 rfl).trans ((zd_getR (h := (zSH, G)) (ci := 7) (fi := 1) (a := 2) a_T_goodOf_200 (by decide +kernel) sh_0 rfl rfl).trans ((zd_getR (h := (zSH, G)) (ci := 2) (fi := 1) (a := 5) a_T_goodOf_203 (by decide +kernel) sh_2 rfl rfl).trans ((zd_iload_n a_T_goodOf_206 rfl).trans ((zd_bipush (v := 6) a_T_goodOf_207 (by decide)).trans ((zd_cal (kd := 0) (tg := 53) (T := m_Ta_get) a_T_goodOf_209 (by decide +kernel) hm_Ta_get rfl rfl rfl rfl).trans (((congrArg (zaft 78 212 [.ref 0, .int x1, .int x2] [] (zSH, G)) (sp_get (r := 5) (q := 6) (n := 276) sh_5 sh_6 rfl (by decide))).trans zaft_same).trans (zd_iret a_T_goodOf_212 rfl (znr_int _))))))))
theorem B_T_goodOf_213 {G : Nat → Nat → Int32} {x1 x2 : Int32} : zden 78 213 [.ref 0, .int x1, .int x2] [] (zSH, G) = some (some (.int (tget G 5 6 276 x1 7)), (zSH, G)) :=
  (zd_aload_n a_T_goodOf_213 rfl).trans ((zd_getR (h := (zSH, G)) (ci := 7) (fi := 1) (a := 2) a_T_goodOf_214 (by decide +kernel) sh_0 rfl rfl).trans ((zd_getR (h := (zSH, G)) (ci := 2) (fi := 1) (a := 5) a_T_goodOf_217 (by decide +kernel) sh_2 rfl rfl).trans ((zd_iload_n a_T_goodOf_220 rfl).trans ((zd_bipush (v := 7) a_T_goodOf_221 (by decide)).trans ((zd_cal (kd := 0) (tg := 53) (T := m_Ta_get) a_T_goodOf_223 (by decide +kernel) hm_Ta_get rfl rfl rfl rfl).trans (((congrArg (zaft 78 226 [.ref 0, .int x1, .int x2] [] (zSH, G)) (sp_get (r := 5) (q := 6) (n := 276) sh_5 sh_6 rfl (by decide))).trans zaft_same).trans (zd_iret a_T_goodOf_226 rfl (znr_int _))))))))
theorem a_T_part_0 : zAt 79 0 m_T_part (.aload_n 0) 1 := ⟨hm_T_part, by decide +kernel⟩
theorem a_T_part_1 : zAt 79 1 m_T_part (.getfield 20) 3 := ⟨hm_T_part, by decide +kernel⟩
theorem a_T_part_4 : zAt 79 4 m_T_part (.iload_n 1) 1 := ⟨hm_T_part, by decide +kernel⟩
theorem a_T_part_5 : zAt 79 5 m_T_part (.invokevirtual 98) 3 := ⟨hm_T_part, by decide +kernel⟩
theorem a_T_part_8 : zAt 79 8 m_T_part (.ifCond .eq 12) 3 := ⟨hm_T_part, by decide +kernel⟩
theorem a_T_part_11 : zAt 79 11 m_T_part (.iload_n 2) 1 := ⟨hm_T_part, by decide +kernel⟩
theorem a_T_part_12 : zAt 79 12 m_T_part (.iconst 0) 1 := ⟨hm_T_part, by decide +kernel⟩
theorem a_T_part_13 : zAt 79 13 m_T_part (.iconst 3) 1 := ⟨hm_T_part, by decide +kernel⟩
theorem a_T_part_14 : zAt 79 14 m_T_part (.invokestatic 69) 3 := ⟨hm_T_part, by decide +kernel⟩
theorem a_T_part_17 : zAt 79 17 m_T_part (.ifCond .ne 6) 3 := ⟨hm_T_part, by decide +kernel⟩
theorem a_T_part_20 : zAt 79 20 m_T_part (.bipush (-11)) 2 := ⟨hm_T_part, by decide +kernel⟩
theorem a_T_part_22 : zAt 79 22 m_T_part (.ireturn) 1 := ⟨hm_T_part, by decide +kernel⟩
theorem a_T_part_23 : zAt 79 23 m_T_part (.aload_n 0) 1 := ⟨hm_T_part, by decide +kernel⟩
theorem a_T_part_24 : zAt 79 24 m_T_part (.getfield 20) 3 := ⟨hm_T_part, by decide +kernel⟩
theorem a_T_part_27 : zAt 79 27 m_T_part (.getfield 102) 3 := ⟨hm_T_part, by decide +kernel⟩
theorem a_T_part_30 : zAt 79 30 m_T_part (.iload_n 1) 1 := ⟨hm_T_part, by decide +kernel⟩
theorem a_T_part_31 : zAt 79 31 m_T_part (.bipush 9) 2 := ⟨hm_T_part, by decide +kernel⟩
theorem a_T_part_33 : zAt 79 33 m_T_part (.iload_n 2) 1 := ⟨hm_T_part, by decide +kernel⟩
theorem a_T_part_34 : zAt 79 34 m_T_part (.iadd) 1 := ⟨hm_T_part, by decide +kernel⟩
theorem a_T_part_35 : zAt 79 35 m_T_part (.invokevirtual 80) 3 := ⟨hm_T_part, by decide +kernel⟩
theorem a_T_part_38 : zAt 79 38 m_T_part (.ireturn) 1 := ⟨hm_T_part, by decide +kernel⟩
theorem B_T_part_0 {G : Nat → Nat → Int32} {x1 x2 : Int32} : zden 79 0 [.ref 0, .int x1, .int x2] [] (zSH, G) = if (bI (0 ≤ x1 ∧ x1 < G 2 4)) = 0 then some (some (.int (-11)), (zSH, G)) else if ¬ (bI (0 ≤ x2 ∧ x2 ≤ 3)) = 0 then some (some (.int (tget G 5 6 276 x1 (9 + x2))), (zSH, G)) else some (some (.int (-11)), (zSH, G)) :=
  (zd_aload_n a_T_part_0 rfl).trans ((zd_getR (h := (zSH, G)) (ci := 7) (fi := 1) (a := 2) a_T_part_1 (by decide +kernel) sh_0 rfl rfl).trans ((zd_iload_n a_T_part_4 rfl).trans ((zd_cal (kd := 0) (tg := 27) (T := m_Ho_hasGood) a_T_part_5 (by decide +kernel) hm_Ho_hasGood rfl rfl rfl rfl).trans (((congrArg (zaft 79 8 [.ref 0, .int x1, .int x2] [] (zSH, G)) (sp_hasGood)).trans zaft_same).trans ((zd_if_eq a_T_part_8 rfl).trans (zitc (fun p3 => (zd_bipush (v := (-11)) a_T_part_20 (by decide)).trans (zd_iret a_T_part_22 rfl (znr_int _))) (fun p3 => (zd_iload_n a_T_part_11 rfl).trans ((zd_iconst (v := 0) a_T_part_12 (by decide)).trans ((zd_iconst (v := 3) a_T_part_13 (by decide)).trans ((zd_cal (kd := 1) (tg := 71) (T := m_T_isWithin) a_T_part_14 (by decide +kernel) hm_T_isWithin rfl rfl rfl rfl).trans (((congrArg (zaft 79 17 [.ref 0, .int x1, .int x2] [] (zSH, G)) (sp_isWithin)).trans zaft_same).trans ((zd_if_ne a_T_part_17 rfl).trans (zitc (fun p4 => (zd_aload_n a_T_part_23 rfl).trans ((zd_getR (h := (zSH, G)) (ci := 7) (fi := 1) (a := 2) a_T_part_24 (by decide +kernel) sh_0 rfl rfl).trans ((zd_getR (h := (zSH, G)) (ci := 2) (fi := 1) (a := 5) a_T_part_27 (by decide +kernel) sh_2 rfl rfl).trans ((zd_iload_n a_T_part_30 rfl).trans ((zd_bipush (v := 9) a_T_part_31 (by decide)).trans ((zd_iload_n a_T_part_33 rfl).trans ((zd_num (st2 := [.int (9 + x2), .int x1, .ref 5]) a_T_part_34 rfl rfl rfl rfl).trans ((zd_cal (kd := 0) (tg := 53) (T := m_Ta_get) a_T_part_35 (by decide +kernel) hm_Ta_get rfl rfl rfl rfl).trans (((congrArg (zaft 79 38 [.ref 0, .int x1, .int x2] [] (zSH, G)) (sp_get (r := 5) (q := 6) (n := 276) sh_5 sh_6 rfl (by decide))).trans zaft_same).trans (zd_iret a_T_part_38 rfl (znr_int _))))))))))) (fun p4 => (zd_bipush (v := (-11)) a_T_part_20 (by decide)).trans (zd_iret a_T_part_22 rfl (znr_int _))))))))))))))))
theorem a_T_points_0 : zAt 80 0 m_T_points (.aload_n 0) 1 := ⟨hm_T_points, by decide +kernel⟩
theorem a_T_points_1 : zAt 80 1 m_T_points (.getfield 20) 3 := ⟨hm_T_points, by decide +kernel⟩
theorem a_T_points_4 : zAt 80 4 m_T_points (.iload_n 1) 1 := ⟨hm_T_points, by decide +kernel⟩
theorem a_T_points_5 : zAt 80 5 m_T_points (.invokevirtual 98) 3 := ⟨hm_T_points, by decide +kernel⟩
theorem a_T_points_8 : zAt 80 8 m_T_points (.ifCond .eq 10) 3 := ⟨hm_T_points, by decide +kernel⟩
theorem a_T_points_11 : zAt 80 11 m_T_points (.iload_n 2) 1 := ⟨hm_T_points, by decide +kernel⟩
theorem a_T_points_12 : zAt 80 12 m_T_points (.invokestatic 114) 3 := ⟨hm_T_points, by decide +kernel⟩
theorem a_T_points_15 : zAt 80 15 m_T_points (.ifCond .ne 6) 3 := ⟨hm_T_points, by decide +kernel⟩
theorem a_T_points_18 : zAt 80 18 m_T_points (.bipush (-11)) 2 := ⟨hm_T_points, by decide +kernel⟩
theorem a_T_points_20 : zAt 80 20 m_T_points (.ireturn) 1 := ⟨hm_T_points, by decide +kernel⟩
theorem a_T_points_21 : zAt 80 21 m_T_points (.aload_n 0) 1 := ⟨hm_T_points, by decide +kernel⟩
theorem a_T_points_22 : zAt 80 22 m_T_points (.getfield 20) 3 := ⟨hm_T_points, by decide +kernel⟩
theorem a_T_points_25 : zAt 80 25 m_T_points (.getfield 102) 3 := ⟨hm_T_points, by decide +kernel⟩
theorem a_T_points_28 : zAt 80 28 m_T_points (.iload_n 1) 1 := ⟨hm_T_points, by decide +kernel⟩
theorem a_T_points_29 : zAt 80 29 m_T_points (.bipush 13) 2 := ⟨hm_T_points, by decide +kernel⟩
theorem a_T_points_31 : zAt 80 31 m_T_points (.iload_n 2) 1 := ⟨hm_T_points, by decide +kernel⟩
theorem a_T_points_32 : zAt 80 32 m_T_points (.iadd) 1 := ⟨hm_T_points, by decide +kernel⟩
theorem a_T_points_33 : zAt 80 33 m_T_points (.invokevirtual 80) 3 := ⟨hm_T_points, by decide +kernel⟩
theorem a_T_points_36 : zAt 80 36 m_T_points (.ireturn) 1 := ⟨hm_T_points, by decide +kernel⟩
theorem B_T_points_0 {G : Nat → Nat → Int32} {x1 x2 : Int32} : zden 80 0 [.ref 0, .int x1, .int x2] [] (zSH, G) = if (bI (0 ≤ x1 ∧ x1 < G 2 4)) = 0 then some (some (.int (-11)), (zSH, G)) else if ¬ (bI (0 ≤ x2 ∧ x2 ≤ 4)) = 0 then some (some (.int (tget G 5 6 276 x1 (13 + x2))), (zSH, G)) else some (some (.int (-11)), (zSH, G)) :=
  (zd_aload_n a_T_points_0 rfl).trans ((zd_getR (h := (zSH, G)) (ci := 7) (fi := 1) (a := 2) a_T_points_1 (by decide +kernel) sh_0 rfl rfl).trans ((zd_iload_n a_T_points_4 rfl).trans ((zd_cal (kd := 0) (tg := 27) (T := m_Ho_hasGood) a_T_points_5 (by decide +kernel) hm_Ho_hasGood rfl rfl rfl rfl).trans (((congrArg (zaft 80 8 [.ref 0, .int x1, .int x2] [] (zSH, G)) (sp_hasGood)).trans zaft_same).trans ((zd_if_eq a_T_points_8 rfl).trans (zitc (fun p3 => (zd_bipush (v := (-11)) a_T_points_18 (by decide)).trans (zd_iret a_T_points_20 rfl (znr_int _))) (fun p3 => (zd_iload_n a_T_points_11 rfl).trans ((zd_cal (kd := 1) (tg := 77) (T := m_T_isCountry) a_T_points_12 (by decide +kernel) hm_T_isCountry rfl rfl rfl rfl).trans (((congrArg (zaft 80 15 [.ref 0, .int x1, .int x2] [] (zSH, G)) (sp_isCountry)).trans zaft_same).trans ((zd_if_ne a_T_points_15 rfl).trans (zitc (fun p4 => (zd_aload_n a_T_points_21 rfl).trans ((zd_getR (h := (zSH, G)) (ci := 7) (fi := 1) (a := 2) a_T_points_22 (by decide +kernel) sh_0 rfl rfl).trans ((zd_getR (h := (zSH, G)) (ci := 2) (fi := 1) (a := 5) a_T_points_25 (by decide +kernel) sh_2 rfl rfl).trans ((zd_iload_n a_T_points_28 rfl).trans ((zd_bipush (v := 13) a_T_points_29 (by decide)).trans ((zd_iload_n a_T_points_31 rfl).trans ((zd_num (st2 := [.int (13 + x2), .int x1, .ref 5]) a_T_points_32 rfl rfl rfl rfl).trans ((zd_cal (kd := 0) (tg := 53) (T := m_Ta_get) a_T_points_33 (by decide +kernel) hm_Ta_get rfl rfl rfl rfl).trans (((congrArg (zaft 80 36 [.ref 0, .int x1, .int x2] [] (zSH, G)) (sp_get (r := 5) (q := 6) (n := 276) sh_5 sh_6 rfl (by decide))).trans zaft_same).trans (zd_iret a_T_points_36 rfl (znr_int _))))))))))) (fun p4 => (zd_bipush (v := (-11)) a_T_points_18 (by decide)).trans (zd_iret a_T_points_20 rfl (znr_int _))))))))))))))
theorem a_T_fit_0 : zAt 81 0 m_T_fit (.aload_n 0) 1 := ⟨hm_T_fit, by decide +kernel⟩
theorem a_T_fit_1 : zAt 81 1 m_T_fit (.getfield 20) 3 := ⟨hm_T_fit, by decide +kernel⟩
theorem a_T_fit_4 : zAt 81 4 m_T_fit (.iload_n 1) 1 := ⟨hm_T_fit, by decide +kernel⟩
theorem a_T_fit_5 : zAt 81 5 m_T_fit (.invokevirtual 98) 3 := ⟨hm_T_fit, by decide +kernel⟩
theorem a_T_fit_8 : zAt 81 8 m_T_fit (.ifCond .eq 20) 3 := ⟨hm_T_fit, by decide +kernel⟩
theorem a_T_fit_11 : zAt 81 11 m_T_fit (.iload_n 2) 1 := ⟨hm_T_fit, by decide +kernel⟩
theorem a_T_fit_12 : zAt 81 12 m_T_fit (.iconst 0) 1 := ⟨hm_T_fit, by decide +kernel⟩
theorem a_T_fit_13 : zAt 81 13 m_T_fit (.aload_n 0) 1 := ⟨hm_T_fit, by decide +kernel⟩
theorem a_T_fit_14 : zAt 81 14 m_T_fit (.getfield 20) 3 := ⟨hm_T_fit, by decide +kernel⟩
theorem a_T_fit_17 : zAt 81 17 m_T_fit (.getfield 86) 3 := ⟨hm_T_fit, by decide +kernel⟩
theorem a_T_fit_20 : zAt 81 20 m_T_fit (.iconst 1) 1 := ⟨hm_T_fit, by decide +kernel⟩
theorem a_T_fit_21 : zAt 81 21 m_T_fit (.isub) 1 := ⟨hm_T_fit, by decide +kernel⟩
theorem a_T_fit_22 : zAt 81 22 m_T_fit (.invokestatic 69) 3 := ⟨hm_T_fit, by decide +kernel⟩
theorem a_T_fit_25 : zAt 81 25 m_T_fit (.ifCond .ne 6) 3 := ⟨hm_T_fit, by decide +kernel⟩
theorem a_T_fit_28 : zAt 81 28 m_T_fit (.bipush (-11)) 2 := ⟨hm_T_fit, by decide +kernel⟩
theorem a_T_fit_30 : zAt 81 30 m_T_fit (.ireturn) 1 := ⟨hm_T_fit, by decide +kernel⟩
theorem a_T_fit_31 : zAt 81 31 m_T_fit (.aload_n 0) 1 := ⟨hm_T_fit, by decide +kernel⟩
theorem a_T_fit_32 : zAt 81 32 m_T_fit (.getfield 20) 3 := ⟨hm_T_fit, by decide +kernel⟩
theorem a_T_fit_35 : zAt 81 35 m_T_fit (.iload_n 1) 1 := ⟨hm_T_fit, by decide +kernel⟩
theorem a_T_fit_36 : zAt 81 36 m_T_fit (.iload_n 2) 1 := ⟨hm_T_fit, by decide +kernel⟩
theorem a_T_fit_37 : zAt 81 37 m_T_fit (.invokevirtual 117) 3 := ⟨hm_T_fit, by decide +kernel⟩
theorem a_T_fit_40 : zAt 81 40 m_T_fit (.istore_n 3) 1 := ⟨hm_T_fit, by decide +kernel⟩
theorem a_T_fit_41 : zAt 81 41 m_T_fit (.iload_n 3) 1 := ⟨hm_T_fit, by decide +kernel⟩
theorem a_T_fit_42 : zAt 81 42 m_T_fit (.ifCond .ge 8) 3 := ⟨hm_T_fit, by decide +kernel⟩
theorem a_T_fit_45 : zAt 81 45 m_T_fit (.bipush (-11)) 2 := ⟨hm_T_fit, by decide +kernel⟩
theorem a_T_fit_47 : zAt 81 47 m_T_fit (.goto 15) 3 := ⟨hm_T_fit, by decide +kernel⟩
theorem a_T_fit_50 : zAt 81 50 m_T_fit (.aload_n 0) 1 := ⟨hm_T_fit, by decide +kernel⟩
theorem a_T_fit_51 : zAt 81 51 m_T_fit (.getfield 20) 3 := ⟨hm_T_fit, by decide +kernel⟩
theorem a_T_fit_54 : zAt 81 54 m_T_fit (.getfield 76) 3 := ⟨hm_T_fit, by decide +kernel⟩
theorem a_T_fit_57 : zAt 81 57 m_T_fit (.iload_n 3) 1 := ⟨hm_T_fit, by decide +kernel⟩
theorem a_T_fit_58 : zAt 81 58 m_T_fit (.iconst 4) 1 := ⟨hm_T_fit, by decide +kernel⟩
theorem a_T_fit_59 : zAt 81 59 m_T_fit (.invokevirtual 80) 3 := ⟨hm_T_fit, by decide +kernel⟩
theorem a_T_fit_62 : zAt 81 62 m_T_fit (.ireturn) 1 := ⟨hm_T_fit, by decide +kernel⟩
theorem B_T_fit_0 {G : Nat → Nat → Int32} {x1 x2 : Int32} : zden 81 0 [.ref 0, .int x1, .int x2, .retAddr 0] [] (zSH, G) = if (bI (0 ≤ x1 ∧ x1 < G 2 4)) = 0 then some (some (.int (-11)), (zSH, G)) else if ¬ (bI (0 ≤ x2 ∧ x2 ≤ ((G 2 3) - 1))) = 0 then zaft 81 40 [.ref 0, .int x1, .int x2, .retAddr 0] [] (zSH, G) (zden 30 0 [.ref 2, .int x1, .int x2, .retAddr 0, .retAddr 0] [] (zSH, G)) else some (some (.int (-11)), (zSH, G)) :=
  (zd_aload_n a_T_fit_0 rfl).trans ((zd_getR (h := (zSH, G)) (ci := 7) (fi := 1) (a := 2) a_T_fit_1 (by decide +kernel) sh_0 rfl rfl).trans ((zd_iload_n a_T_fit_4 rfl).trans ((zd_cal (kd := 0) (tg := 27) (T := m_Ho_hasGood) a_T_fit_5 (by decide +kernel) hm_Ho_hasGood rfl rfl rfl rfl).trans (((congrArg (zaft 81 8 [.ref 0, .int x1, .int x2, .retAddr 0] [] (zSH, G)) (sp_hasGood)).trans zaft_same).trans ((zd_if_eq a_T_fit_8 rfl).trans (zitc (fun p6 => (zd_bipush (v := (-11)) a_T_fit_28 (by decide)).trans (zd_iret a_T_fit_30 rfl (znr_int _))) (fun p6 => (zd_iload_n a_T_fit_11 rfl).trans ((zd_iconst (v := 0) a_T_fit_12 (by decide)).trans ((zd_aload_n a_T_fit_13 rfl).trans ((zd_getR (h := (zSH, G)) (ci := 7) (fi := 1) (a := 2) a_T_fit_14 (by decide +kernel) sh_0 rfl rfl).trans ((zd_getI (h := (zSH, G)) (ci := 2) (fi := 3) a_T_fit_17 (by decide +kernel) sh_2 rfl).trans ((zd_iconst (v := 1) a_T_fit_20 (by decide)).trans ((zd_num (st2 := [.int ((G 2 3) - 1), .int 0, .int x2]) a_T_fit_21 rfl rfl rfl rfl).trans ((zd_cal (kd := 1) (tg := 71) (T := m_T_isWithin) a_T_fit_22 (by decide +kernel) hm_T_isWithin rfl rfl rfl rfl).trans (((congrArg (zaft 81 25 [.ref 0, .int x1, .int x2, .retAddr 0] [] (zSH, G)) (sp_isWithin)).trans zaft_same).trans ((zd_if_ne a_T_fit_25 rfl).trans (zitc (fun p7 => (zd_aload_n a_T_fit_31 rfl).trans ((zd_getR (h := (zSH, G)) (ci := 7) (fi := 1) (a := 2) a_T_fit_32 (by decide +kernel) sh_0 rfl rfl).trans ((zd_iload_n a_T_fit_35 rfl).trans ((zd_iload_n a_T_fit_36 rfl).trans ((zd_cal (kd := 0) (tg := 30) (T := m_Ho_fittingRowAt) a_T_fit_37 (by decide +kernel) hm_Ho_fittingRowAt rfl rfl rfl rfl)))))) (fun p7 => (zd_bipush (v := (-11)) a_T_fit_28 (by decide)).trans (zd_iret a_T_fit_30 rfl (znr_int _))))))))))))))))))))
theorem B_T_fit_40 {G : Nat → Nat → Int32} {x1 x2 s0 : Int32} : zden 81 40 [.ref 0, .int x1, .int x2, .retAddr 0] [.int s0] (zSH, G) = if 0 ≤ s0 then some (some (.int (tget G 3 4 55 s0 4)), (zSH, G)) else some (some (.int (-11)), (zSH, G)) :=
  (zd_istore_n a_T_fit_40 rfl rfl rfl).trans ((zd_iload_n a_T_fit_41 rfl).trans ((zd_if_ge a_T_fit_42 rfl).trans (zitc (fun p8 => (zd_aload_n a_T_fit_50 rfl).trans ((zd_getR (h := (zSH, G)) (ci := 7) (fi := 1) (a := 2) a_T_fit_51 (by decide +kernel) sh_0 rfl rfl).trans ((zd_getR (h := (zSH, G)) (ci := 2) (fi := 0) (a := 3) a_T_fit_54 (by decide +kernel) sh_2 rfl rfl).trans ((zd_iload_n a_T_fit_57 rfl).trans ((zd_iconst (v := 4) a_T_fit_58 (by decide)).trans ((zd_cal (kd := 0) (tg := 53) (T := m_Ta_get) a_T_fit_59 (by decide +kernel) hm_Ta_get rfl rfl rfl rfl).trans (((congrArg (zaft 81 62 [.ref 0, .int x1, .int x2, .int s0] [] (zSH, G)) (sp_get (r := 3) (q := 4) (n := 55) sh_3 sh_4 rfl (by decide))).trans zaft_same).trans (zd_iret a_T_fit_62 rfl (znr_int _))))))))) (fun p8 => (zd_bipush (v := (-11)) a_T_fit_45 (by decide)).trans ((zd_goto a_T_fit_47 rfl).trans (zd_iret a_T_fit_62 rfl (znr_int _)))))))
theorem a_T_fitAgain_0 : zAt 82 0 m_T_fitAgain (.aload_n 0) 1 := ⟨hm_T_fitAgain, by decide +kernel⟩
theorem a_T_fitAgain_1 : zAt 82 1 m_T_fitAgain (.getfield 20) 3 := ⟨hm_T_fitAgain, by decide +kernel⟩
theorem a_T_fitAgain_4 : zAt 82 4 m_T_fitAgain (.iload_n 1) 1 := ⟨hm_T_fitAgain, by decide +kernel⟩
theorem a_T_fitAgain_5 : zAt 82 5 m_T_fitAgain (.invokevirtual 98) 3 := ⟨hm_T_fitAgain, by decide +kernel⟩
theorem a_T_fitAgain_8 : zAt 82 8 m_T_fitAgain (.ifCond .ne 6) 3 := ⟨hm_T_fitAgain, by decide +kernel⟩
theorem a_T_fitAgain_11 : zAt 82 11 m_T_fitAgain (.bipush (-11)) 2 := ⟨hm_T_fitAgain, by decide +kernel⟩
theorem a_T_fitAgain_13 : zAt 82 13 m_T_fitAgain (.ireturn) 1 := ⟨hm_T_fitAgain, by decide +kernel⟩
theorem a_T_fitAgain_14 : zAt 82 14 m_T_fitAgain (.aload_n 0) 1 := ⟨hm_T_fitAgain, by decide +kernel⟩
theorem a_T_fitAgain_15 : zAt 82 15 m_T_fitAgain (.getfield 20) 3 := ⟨hm_T_fitAgain, by decide +kernel⟩
theorem a_T_fitAgain_18 : zAt 82 18 m_T_fitAgain (.getfield 76) 3 := ⟨hm_T_fitAgain, by decide +kernel⟩
theorem a_T_fitAgain_21 : zAt 82 21 m_T_fitAgain (.aload_n 0) 1 := ⟨hm_T_fitAgain, by decide +kernel⟩
theorem a_T_fitAgain_22 : zAt 82 22 m_T_fitAgain (.getfield 20) 3 := ⟨hm_T_fitAgain, by decide +kernel⟩
theorem a_T_fitAgain_25 : zAt 82 25 m_T_fitAgain (.iload_n 1) 1 := ⟨hm_T_fitAgain, by decide +kernel⟩
theorem a_T_fitAgain_26 : zAt 82 26 m_T_fitAgain (.invokevirtual 120) 3 := ⟨hm_T_fitAgain, by decide +kernel⟩
theorem a_T_fitAgain_29 : zAt 82 29 m_T_fitAgain (.iconst 4) 1 := ⟨hm_T_fitAgain, by decide +kernel⟩
theorem a_T_fitAgain_30 : zAt 82 30 m_T_fitAgain (.invokevirtual 80) 3 := ⟨hm_T_fitAgain, by decide +kernel⟩
theorem a_T_fitAgain_33 : zAt 82 33 m_T_fitAgain (.ireturn) 1 := ⟨hm_T_fitAgain, by decide +kernel⟩
theorem B_T_fitAgain_0 {G : Nat → Nat → Int32} {x1 : Int32} : zden 82 0 [.ref 0, .int x1] [] (zSH, G) = if ¬ (bI (0 ≤ x1 ∧ x1 < G 2 4)) = 0 then zaft 82 29 [.ref 0, .int x1] [.ref 3] (zSH, G) (zden 31 0 [.ref 2, .int x1, .retAddr 0, .retAddr 0] [] (zSH, G)) else some (some (.int (-11)), (zSH, G)) :=
  (zd_aload_n a_T_fitAgain_0 rfl).trans ((zd_getR (h := (zSH, G)) (ci := 7) (fi := 1) (a := 2) a_T_fitAgain_1 (by decide +kernel) sh_0 rfl rfl).trans ((zd_iload_n a_T_fitAgain_4 rfl).trans ((zd_cal (kd := 0) (tg := 27) (T := m_Ho_hasGood) a_T_fitAgain_5 (by decide +kernel) hm_Ho_hasGood rfl rfl rfl rfl).trans (((congrArg (zaft 82 8 [.ref 0, .int x1] [] (zSH, G)) (sp_hasGood)).trans zaft_same).trans ((zd_if_ne a_T_fitAgain_8 rfl).trans (zitc (fun p3 => (zd_aload_n a_T_fitAgain_14 rfl).trans ((zd_getR (h := (zSH, G)) (ci := 7) (fi := 1) (a := 2) a_T_fitAgain_15 (by decide +kernel) sh_0 rfl rfl).trans ((zd_getR (h := (zSH, G)) (ci := 2) (fi := 0) (a := 3) a_T_fitAgain_18 (by decide +kernel) sh_2 rfl rfl).trans ((zd_aload_n a_T_fitAgain_21 rfl).trans ((zd_getR (h := (zSH, G)) (ci := 7) (fi := 1) (a := 2) a_T_fitAgain_22 (by decide +kernel) sh_0 rfl rfl).trans ((zd_iload_n a_T_fitAgain_25 rfl).trans ((zd_cal (kd := 0) (tg := 31) (T := m_Ho_keptRow) a_T_fitAgain_26 (by decide +kernel) hm_Ho_keptRow rfl rfl rfl rfl)))))))) (fun p3 => (zd_bipush (v := (-11)) a_T_fitAgain_11 (by decide)).trans (zd_iret a_T_fitAgain_13 rfl (znr_int _)))))))))
theorem B_T_fitAgain_29 {G : Nat → Nat → Int32} {x1 s0 : Int32} : zden 82 29 [.ref 0, .int x1] [.int s0, .ref 3] (zSH, G) = some (some (.int (tget G 3 4 55 s0 4)), (zSH, G)) :=
  (zd_iconst (v := 4) a_T_fitAgain_29 (by decide)).trans ((zd_cal (kd := 0) (tg := 53) (T := m_Ta_get) a_T_fitAgain_30 (by decide +kernel) hm_Ta_get rfl rfl rfl rfl).trans (((congrArg (zaft 82 33 [.ref 0, .int x1] [] (zSH, G)) (sp_get (r := 3) (q := 4) (n := 55) sh_3 sh_4 rfl (by decide))).trans zaft_same).trans (zd_iret a_T_fitAgain_33 rfl (znr_int _))))
theorem a_T_why_0 : zAt 83 0 m_T_why (.aload_n 0) 1 := ⟨hm_T_why, by decide +kernel⟩
theorem a_T_why_1 : zAt 83 1 m_T_why (.getfield 20) 3 := ⟨hm_T_why, by decide +kernel⟩
theorem a_T_why_4 : zAt 83 4 m_T_why (.iload_n 1) 1 := ⟨hm_T_why, by decide +kernel⟩
theorem a_T_why_5 : zAt 83 5 m_T_why (.invokevirtual 98) 3 := ⟨hm_T_why, by decide +kernel⟩
theorem a_T_why_8 : zAt 83 8 m_T_why (.ifCond .eq 14) 3 := ⟨hm_T_why, by decide +kernel⟩
theorem a_T_why_11 : zAt 83 11 m_T_why (.aload_n 0) 1 := ⟨hm_T_why, by decide +kernel⟩
theorem a_T_why_12 : zAt 83 12 m_T_why (.getfield 20) 3 := ⟨hm_T_why, by decide +kernel⟩
theorem a_T_why_15 : zAt 83 15 m_T_why (.iload_n 1) 1 := ⟨hm_T_why, by decide +kernel⟩
theorem a_T_why_16 : zAt 83 16 m_T_why (.invokevirtual 123) 3 := ⟨hm_T_why, by decide +kernel⟩
theorem a_T_why_19 : zAt 83 19 m_T_why (.goto 5) 3 := ⟨hm_T_why, by decide +kernel⟩
theorem a_T_why_22 : zAt 83 22 m_T_why (.bipush (-11)) 2 := ⟨hm_T_why, by decide +kernel⟩
theorem a_T_why_24 : zAt 83 24 m_T_why (.ireturn) 1 := ⟨hm_T_why, by decide +kernel⟩
theorem B_T_why_0 {G : Nat → Nat → Int32} {x1 : Int32} : zden 83 0 [.ref 0, .int x1] [] (zSH, G) = if (bI (0 ≤ x1 ∧ x1 < G 2 4)) = 0 then some (some (.int (-11)), (zSH, G)) else zaft 83 19 [.ref 0, .int x1] [] (zSH, G) (zden 33 0 [.ref 2, .int x1, .retAddr 0, .retAddr 0, .retAddr 0, .retAddr 0] [] (zSH, G)) :=
  (zd_aload_n a_T_why_0 rfl).trans ((zd_getR (h := (zSH, G)) (ci := 7) (fi := 1) (a := 2) a_T_why_1 (by decide +kernel) sh_0 rfl rfl).trans ((zd_iload_n a_T_why_4 rfl).trans ((zd_cal (kd := 0) (tg := 27) (T := m_Ho_hasGood) a_T_why_5 (by decide +kernel) hm_Ho_hasGood rfl rfl rfl rfl).trans (((congrArg (zaft 83 8 [.ref 0, .int x1] [] (zSH, G)) (sp_hasGood)).trans zaft_same).trans ((zd_if_eq a_T_why_8 rfl).trans (zitc (fun p3 => (zd_bipush (v := (-11)) a_T_why_22 (by decide)).trans (zd_iret a_T_why_24 rfl (znr_int _))) (fun p3 => (zd_aload_n a_T_why_11 rfl).trans ((zd_getR (h := (zSH, G)) (ci := 7) (fi := 1) (a := 2) a_T_why_12 (by decide +kernel) sh_0 rfl rfl).trans ((zd_iload_n a_T_why_15 rfl).trans ((zd_cal (kd := 0) (tg := 33) (T := m_Ho_lead) a_T_why_16 (by decide +kernel) hm_Ho_lead rfl rfl rfl rfl)))))))))))
theorem B_T_why_19 {G : Nat → Nat → Int32} {x1 s0 : Int32} : zden 83 19 [.ref 0, .int x1] [.int s0] (zSH, G) = some (some (.int s0), (zSH, G)) :=
  (zd_goto a_T_why_19 rfl).trans (zd_iret a_T_why_24 rfl (znr_int _))
theorem a_T_favour_0 : zAt 84 0 m_T_favour (.aload_n 0) 1 := ⟨hm_T_favour, by decide +kernel⟩
theorem a_T_favour_1 : zAt 84 1 m_T_favour (.getfield 24) 3 := ⟨hm_T_favour, by decide +kernel⟩
theorem a_T_favour_4 : zAt 84 4 m_T_favour (.aload_n 0) 1 := ⟨hm_T_favour, by decide +kernel⟩
theorem a_T_favour_5 : zAt 84 5 m_T_favour (.getfield 20) 3 := ⟨hm_T_favour, by decide +kernel⟩
theorem a_T_favour_8 : zAt 84 8 m_T_favour (.invokevirtual 49) 3 := ⟨hm_T_favour, by decide +kernel⟩
theorem a_T_favour_11 : zAt 84 11 m_T_favour (.aload_n 0) 1 := ⟨hm_T_favour, by decide +kernel⟩
theorem a_T_favour_12 : zAt 84 12 m_T_favour (.getfield 24) 3 := ⟨hm_T_favour, by decide +kernel⟩
theorem a_T_favour_15 : zAt 84 15 m_T_favour (.aload_n 0) 1 := ⟨hm_T_favour, by decide +kernel⟩
theorem a_T_favour_16 : zAt 84 16 m_T_favour (.getfield 12) 3 := ⟨hm_T_favour, by decide +kernel⟩
theorem a_T_favour_19 : zAt 84 19 m_T_favour (.iload_n 1) 1 := ⟨hm_T_favour, by decide +kernel⟩
theorem a_T_favour_20 : zAt 84 20 m_T_favour (.iload_n 2) 1 := ⟨hm_T_favour, by decide +kernel⟩
theorem a_T_favour_21 : zAt 84 21 m_T_favour (.invokevirtual 126) 3 := ⟨hm_T_favour, by decide +kernel⟩
theorem a_T_favour_24 : zAt 84 24 m_T_favour (.invokevirtual 57) 3 := ⟨hm_T_favour, by decide +kernel⟩
theorem a_T_favour_27 : zAt 84 27 m_T_favour (.ireturn) 1 := ⟨hm_T_favour, by decide +kernel⟩
theorem B_T_favour_0 {G : Nat → Nat → Int32} {x1 x2 : Int32} : zden 84 0 [.ref 0, .int x1, .int x2] [] (zSH, G) = zaft 84 11 [.ref 0, .int x1, .int x2] [] (zSH, G) (zden 14 0 [.ref 9, .ref 2, .retAddr 0] [] (zSH, G)) :=
  (zd_aload_n a_T_favour_0 rfl).trans ((zd_getR (h := (zSH, G)) (ci := 7) (fi := 2) (a := 9) a_T_favour_1 (by decide +kernel) sh_0 rfl rfl).trans ((zd_aload_n a_T_favour_4 rfl).trans ((zd_getR (h := (zSH, G)) (ci := 7) (fi := 1) (a := 2) a_T_favour_5 (by decide +kernel) sh_0 rfl rfl).trans ((zd_cal (kd := 0) (tg := 14) (T := m_Hi_keep) a_T_favour_8 (by decide +kernel) hm_Hi_keep rfl rfl rfl rfl)))))
theorem B_T_favour_11 {G : Nat → Nat → Int32} {x1 x2 : Int32} : zden 84 11 [.ref 0, .int x1, .int x2] [] (zSH, G) = zaft 84 24 [.ref 0, .int x1, .int x2] [.ref 9] (zSH, G) (zden 7 0 [.ref 1, .int x1, .int x2, .retAddr 0] [] (zSH, G)) :=
  (zd_aload_n a_T_favour_11 rfl).trans ((zd_getR (h := (zSH, G)) (ci := 7) (fi := 2) (a := 9) a_T_favour_12 (by decide +kernel) sh_0 rfl rfl).trans ((zd_aload_n a_T_favour_15 rfl).trans ((zd_getR (h := (zSH, G)) (ci := 7) (fi := 0) (a := 1) a_T_favour_16 (by decide +kernel) sh_0 rfl rfl).trans ((zd_iload_n a_T_favour_19 rfl).trans ((zd_iload_n a_T_favour_20 rfl).trans ((zd_cal (kd := 0) (tg := 7) (T := m_Cl_favourCountry) a_T_favour_21 (by decide +kernel) hm_Cl_favourCountry rfl rfl rfl rfl)))))))
theorem B_T_favour_24 {G : Nat → Nat → Int32} {x1 x2 s0 : Int32} : zden 84 24 [.ref 0, .int x1, .int x2] [.int s0, .ref 9] (zSH, G) = zaft 84 27 [.ref 0, .int x1, .int x2] [] (zSH, G) (zden 15 0 [.ref 9, .int s0] [] (zSH, G)) :=
  (zd_cal (kd := 0) (tg := 15) (T := m_Hi_settle) a_T_favour_24 (by decide +kernel) hm_Hi_settle rfl rfl rfl rfl)
theorem B_T_favour_27 {G : Nat → Nat → Int32} {x1 x2 s0 : Int32} : zden 84 27 [.ref 0, .int x1, .int x2] [.int s0] (zSH, G) = some (some (.int s0), (zSH, G)) :=
  zd_iret a_T_favour_27 rfl (znr_int _)
theorem a_T_coins_0 : zAt 85 0 m_T_coins (.aload_n 0) 1 := ⟨hm_T_coins, by decide +kernel⟩
theorem a_T_coins_1 : zAt 85 1 m_T_coins (.getfield 24) 3 := ⟨hm_T_coins, by decide +kernel⟩
theorem a_T_coins_4 : zAt 85 4 m_T_coins (.aload_n 0) 1 := ⟨hm_T_coins, by decide +kernel⟩
theorem a_T_coins_5 : zAt 85 5 m_T_coins (.getfield 20) 3 := ⟨hm_T_coins, by decide +kernel⟩
theorem a_T_coins_8 : zAt 85 8 m_T_coins (.invokevirtual 49) 3 := ⟨hm_T_coins, by decide +kernel⟩
theorem a_T_coins_11 : zAt 85 11 m_T_coins (.aload_n 0) 1 := ⟨hm_T_coins, by decide +kernel⟩
theorem a_T_coins_12 : zAt 85 12 m_T_coins (.getfield 24) 3 := ⟨hm_T_coins, by decide +kernel⟩
theorem a_T_coins_15 : zAt 85 15 m_T_coins (.aload_n 0) 1 := ⟨hm_T_coins, by decide +kernel⟩
theorem a_T_coins_16 : zAt 85 16 m_T_coins (.getfield 12) 3 := ⟨hm_T_coins, by decide +kernel⟩
theorem a_T_coins_19 : zAt 85 19 m_T_coins (.iload_n 1) 1 := ⟨hm_T_coins, by decide +kernel⟩
theorem a_T_coins_20 : zAt 85 20 m_T_coins (.invokevirtual 129) 3 := ⟨hm_T_coins, by decide +kernel⟩
theorem a_T_coins_23 : zAt 85 23 m_T_coins (.invokevirtual 57) 3 := ⟨hm_T_coins, by decide +kernel⟩
theorem a_T_coins_26 : zAt 85 26 m_T_coins (.ireturn) 1 := ⟨hm_T_coins, by decide +kernel⟩
theorem B_T_coins_0 {G : Nat → Nat → Int32} {x1 : Int32} : zden 85 0 [.ref 0, .int x1] [] (zSH, G) = zaft 85 11 [.ref 0, .int x1] [] (zSH, G) (zden 14 0 [.ref 9, .ref 2, .retAddr 0] [] (zSH, G)) :=
  (zd_aload_n a_T_coins_0 rfl).trans ((zd_getR (h := (zSH, G)) (ci := 7) (fi := 2) (a := 9) a_T_coins_1 (by decide +kernel) sh_0 rfl rfl).trans ((zd_aload_n a_T_coins_4 rfl).trans ((zd_getR (h := (zSH, G)) (ci := 7) (fi := 1) (a := 2) a_T_coins_5 (by decide +kernel) sh_0 rfl rfl).trans ((zd_cal (kd := 0) (tg := 14) (T := m_Hi_keep) a_T_coins_8 (by decide +kernel) hm_Hi_keep rfl rfl rfl rfl)))))
theorem B_T_coins_11 {G : Nat → Nat → Int32} {x1 : Int32} : zden 85 11 [.ref 0, .int x1] [] (zSH, G) = zaft 85 23 [.ref 0, .int x1] [.ref 9] (zSH, G) (zden 8 0 [.ref 1, .int x1] [] (zSH, G)) :=
  (zd_aload_n a_T_coins_11 rfl).trans ((zd_getR (h := (zSH, G)) (ci := 7) (fi := 2) (a := 9) a_T_coins_12 (by decide +kernel) sh_0 rfl rfl).trans ((zd_aload_n a_T_coins_15 rfl).trans ((zd_getR (h := (zSH, G)) (ci := 7) (fi := 0) (a := 1) a_T_coins_16 (by decide +kernel) sh_0 rfl rfl).trans ((zd_iload_n a_T_coins_19 rfl).trans ((zd_cal (kd := 0) (tg := 8) (T := m_Cl_give) a_T_coins_20 (by decide +kernel) hm_Cl_give rfl rfl rfl rfl))))))
theorem B_T_coins_23 {G : Nat → Nat → Int32} {x1 s0 : Int32} : zden 85 23 [.ref 0, .int x1] [.int s0, .ref 9] (zSH, G) = zaft 85 26 [.ref 0, .int x1] [] (zSH, G) (zden 15 0 [.ref 9, .int s0] [] (zSH, G)) :=
  (zd_cal (kd := 0) (tg := 15) (T := m_Hi_settle) a_T_coins_23 (by decide +kernel) hm_Hi_settle rfl rfl rfl rfl)
theorem B_T_coins_26 {G : Nat → Nat → Int32} {x1 s0 : Int32} : zden 85 26 [.ref 0, .int x1] [.int s0] (zSH, G) = some (some (.int s0), (zSH, G)) :=
  zd_iret a_T_coins_26 rfl (znr_int _)
theorem a_T_enter_0 : zAt 86 0 m_T_enter (.aload_n 0) 1 := ⟨hm_T_enter, by decide +kernel⟩
theorem a_T_enter_1 : zAt 86 1 m_T_enter (.getfield 24) 3 := ⟨hm_T_enter, by decide +kernel⟩
theorem a_T_enter_4 : zAt 86 4 m_T_enter (.aload_n 0) 1 := ⟨hm_T_enter, by decide +kernel⟩
theorem a_T_enter_5 : zAt 86 5 m_T_enter (.getfield 20) 3 := ⟨hm_T_enter, by decide +kernel⟩
theorem a_T_enter_8 : zAt 86 8 m_T_enter (.invokevirtual 49) 3 := ⟨hm_T_enter, by decide +kernel⟩
theorem a_T_enter_11 : zAt 86 11 m_T_enter (.aload_n 0) 1 := ⟨hm_T_enter, by decide +kernel⟩
theorem a_T_enter_12 : zAt 86 12 m_T_enter (.getfield 24) 3 := ⟨hm_T_enter, by decide +kernel⟩
theorem a_T_enter_15 : zAt 86 15 m_T_enter (.aload_n 0) 1 := ⟨hm_T_enter, by decide +kernel⟩
theorem a_T_enter_16 : zAt 86 16 m_T_enter (.getfield 12) 3 := ⟨hm_T_enter, by decide +kernel⟩
theorem a_T_enter_19 : zAt 86 19 m_T_enter (.iload_n 1) 1 := ⟨hm_T_enter, by decide +kernel⟩
theorem a_T_enter_20 : zAt 86 20 m_T_enter (.invokevirtual 132) 3 := ⟨hm_T_enter, by decide +kernel⟩
theorem a_T_enter_23 : zAt 86 23 m_T_enter (.invokevirtual 57) 3 := ⟨hm_T_enter, by decide +kernel⟩
theorem a_T_enter_26 : zAt 86 26 m_T_enter (.ireturn) 1 := ⟨hm_T_enter, by decide +kernel⟩
theorem B_T_enter_0 {G : Nat → Nat → Int32} {x1 : Int32} : zden 86 0 [.ref 0, .int x1] [] (zSH, G) = zaft 86 11 [.ref 0, .int x1] [] (zSH, G) (zden 14 0 [.ref 9, .ref 2, .retAddr 0] [] (zSH, G)) :=
  (zd_aload_n a_T_enter_0 rfl).trans ((zd_getR (h := (zSH, G)) (ci := 7) (fi := 2) (a := 9) a_T_enter_1 (by decide +kernel) sh_0 rfl rfl).trans ((zd_aload_n a_T_enter_4 rfl).trans ((zd_getR (h := (zSH, G)) (ci := 7) (fi := 1) (a := 2) a_T_enter_5 (by decide +kernel) sh_0 rfl rfl).trans ((zd_cal (kd := 0) (tg := 14) (T := m_Hi_keep) a_T_enter_8 (by decide +kernel) hm_Hi_keep rfl rfl rfl rfl)))))
theorem B_T_enter_11 {G : Nat → Nat → Int32} {x1 : Int32} : zden 86 11 [.ref 0, .int x1] [] (zSH, G) = zaft 86 23 [.ref 0, .int x1] [.ref 9] (zSH, G) (zden 9 0 [.ref 1, .int x1, .retAddr 0, .retAddr 0, .retAddr 0] [] (zSH, G)) :=
  (zd_aload_n a_T_enter_11 rfl).trans ((zd_getR (h := (zSH, G)) (ci := 7) (fi := 2) (a := 9) a_T_enter_12 (by decide +kernel) sh_0 rfl rfl).trans ((zd_aload_n a_T_enter_15 rfl).trans ((zd_getR (h := (zSH, G)) (ci := 7) (fi := 0) (a := 1) a_T_enter_16 (by decide +kernel) sh_0 rfl rfl).trans ((zd_iload_n a_T_enter_19 rfl).trans ((zd_cal (kd := 0) (tg := 9) (T := m_Cl_letIn) a_T_enter_20 (by decide +kernel) hm_Cl_letIn rfl rfl rfl rfl))))))
theorem B_T_enter_23 {G : Nat → Nat → Int32} {x1 s0 : Int32} : zden 86 23 [.ref 0, .int x1] [.int s0, .ref 9] (zSH, G) = zaft 86 26 [.ref 0, .int x1] [] (zSH, G) (zden 15 0 [.ref 9, .int s0] [] (zSH, G)) :=
  (zd_cal (kd := 0) (tg := 15) (T := m_Hi_settle) a_T_enter_23 (by decide +kernel) hm_Hi_settle rfl rfl rfl rfl)
theorem B_T_enter_26 {G : Nat → Nat → Int32} {x1 s0 : Int32} : zden 86 26 [.ref 0, .int x1] [.int s0] (zSH, G) = some (some (.int s0), (zSH, G)) :=
  zd_iret a_T_enter_26 rfl (znr_int _)
theorem a_T_export_0 : zAt 87 0 m_T_export (.aload_n 0) 1 := ⟨hm_T_export, by decide +kernel⟩
theorem a_T_export_1 : zAt 87 1 m_T_export (.getfield 24) 3 := ⟨hm_T_export, by decide +kernel⟩
theorem a_T_export_4 : zAt 87 4 m_T_export (.aload_n 0) 1 := ⟨hm_T_export, by decide +kernel⟩
theorem a_T_export_5 : zAt 87 5 m_T_export (.getfield 20) 3 := ⟨hm_T_export, by decide +kernel⟩
theorem a_T_export_8 : zAt 87 8 m_T_export (.invokevirtual 49) 3 := ⟨hm_T_export, by decide +kernel⟩
theorem a_T_export_11 : zAt 87 11 m_T_export (.aload_n 0) 1 := ⟨hm_T_export, by decide +kernel⟩
theorem a_T_export_12 : zAt 87 12 m_T_export (.getfield 24) 3 := ⟨hm_T_export, by decide +kernel⟩
theorem a_T_export_15 : zAt 87 15 m_T_export (.aload_n 0) 1 := ⟨hm_T_export, by decide +kernel⟩
theorem a_T_export_16 : zAt 87 16 m_T_export (.getfield 12) 3 := ⟨hm_T_export, by decide +kernel⟩
theorem a_T_export_19 : zAt 87 19 m_T_export (.iload_n 1) 1 := ⟨hm_T_export, by decide +kernel⟩
theorem a_T_export_20 : zAt 87 20 m_T_export (.invokevirtual 135) 3 := ⟨hm_T_export, by decide +kernel⟩
theorem a_T_export_23 : zAt 87 23 m_T_export (.invokevirtual 57) 3 := ⟨hm_T_export, by decide +kernel⟩
theorem a_T_export_26 : zAt 87 26 m_T_export (.ireturn) 1 := ⟨hm_T_export, by decide +kernel⟩
theorem B_T_export_0 {G : Nat → Nat → Int32} {x1 : Int32} : zden 87 0 [.ref 0, .int x1] [] (zSH, G) = zaft 87 11 [.ref 0, .int x1] [] (zSH, G) (zden 14 0 [.ref 9, .ref 2, .retAddr 0] [] (zSH, G)) :=
  (zd_aload_n a_T_export_0 rfl).trans ((zd_getR (h := (zSH, G)) (ci := 7) (fi := 2) (a := 9) a_T_export_1 (by decide +kernel) sh_0 rfl rfl).trans ((zd_aload_n a_T_export_4 rfl).trans ((zd_getR (h := (zSH, G)) (ci := 7) (fi := 1) (a := 2) a_T_export_5 (by decide +kernel) sh_0 rfl rfl).trans ((zd_cal (kd := 0) (tg := 14) (T := m_Hi_keep) a_T_export_8 (by decide +kernel) hm_Hi_keep rfl rfl rfl rfl)))))
theorem B_T_export_11 {G : Nat → Nat → Int32} {x1 : Int32} : zden 87 11 [.ref 0, .int x1] [] (zSH, G) = zaft 87 23 [.ref 0, .int x1] [.ref 9] (zSH, G) (zden 10 0 [.ref 1, .int x1, .retAddr 0, .retAddr 0] [] (zSH, G)) :=
  (zd_aload_n a_T_export_11 rfl).trans ((zd_getR (h := (zSH, G)) (ci := 7) (fi := 2) (a := 9) a_T_export_12 (by decide +kernel) sh_0 rfl rfl).trans ((zd_aload_n a_T_export_15 rfl).trans ((zd_getR (h := (zSH, G)) (ci := 7) (fi := 0) (a := 1) a_T_export_16 (by decide +kernel) sh_0 rfl rfl).trans ((zd_iload_n a_T_export_19 rfl).trans ((zd_cal (kd := 0) (tg := 10) (T := m_Cl_letOut) a_T_export_20 (by decide +kernel) hm_Cl_letOut rfl rfl rfl rfl))))))
theorem B_T_export_23 {G : Nat → Nat → Int32} {x1 s0 : Int32} : zden 87 23 [.ref 0, .int x1] [.int s0, .ref 9] (zSH, G) = zaft 87 26 [.ref 0, .int x1] [] (zSH, G) (zden 15 0 [.ref 9, .int s0] [] (zSH, G)) :=
  (zd_cal (kd := 0) (tg := 15) (T := m_Hi_settle) a_T_export_23 (by decide +kernel) hm_Hi_settle rfl rfl rfl rfl)
theorem B_T_export_26 {G : Nat → Nat → Int32} {x1 s0 : Int32} : zden 87 26 [.ref 0, .int x1] [.int s0] (zSH, G) = some (some (.int s0), (zSH, G)) :=
  zd_iret a_T_export_26 rfl (znr_int _)
theorem a_T_days_0 : zAt 88 0 m_T_days (.aload_n 0) 1 := ⟨hm_T_days, by decide +kernel⟩
theorem a_T_days_1 : zAt 88 1 m_T_days (.getfield 24) 3 := ⟨hm_T_days, by decide +kernel⟩
theorem a_T_days_4 : zAt 88 4 m_T_days (.aload_n 0) 1 := ⟨hm_T_days, by decide +kernel⟩
theorem a_T_days_5 : zAt 88 5 m_T_days (.getfield 20) 3 := ⟨hm_T_days, by decide +kernel⟩
theorem a_T_days_8 : zAt 88 8 m_T_days (.invokevirtual 49) 3 := ⟨hm_T_days, by decide +kernel⟩
theorem a_T_days_11 : zAt 88 11 m_T_days (.aload_n 0) 1 := ⟨hm_T_days, by decide +kernel⟩
theorem a_T_days_12 : zAt 88 12 m_T_days (.getfield 24) 3 := ⟨hm_T_days, by decide +kernel⟩
theorem a_T_days_15 : zAt 88 15 m_T_days (.aload_n 0) 1 := ⟨hm_T_days, by decide +kernel⟩
theorem a_T_days_16 : zAt 88 16 m_T_days (.getfield 12) 3 := ⟨hm_T_days, by decide +kernel⟩
theorem a_T_days_19 : zAt 88 19 m_T_days (.iload_n 1) 1 := ⟨hm_T_days, by decide +kernel⟩
theorem a_T_days_20 : zAt 88 20 m_T_days (.invokevirtual 138) 3 := ⟨hm_T_days, by decide +kernel⟩
theorem a_T_days_23 : zAt 88 23 m_T_days (.invokevirtual 57) 3 := ⟨hm_T_days, by decide +kernel⟩
theorem a_T_days_26 : zAt 88 26 m_T_days (.ireturn) 1 := ⟨hm_T_days, by decide +kernel⟩
theorem B_T_days_0 {G : Nat → Nat → Int32} {x1 : Int32} : zden 88 0 [.ref 0, .int x1] [] (zSH, G) = zaft 88 11 [.ref 0, .int x1] [] (zSH, G) (zden 14 0 [.ref 9, .ref 2, .retAddr 0] [] (zSH, G)) :=
  (zd_aload_n a_T_days_0 rfl).trans ((zd_getR (h := (zSH, G)) (ci := 7) (fi := 2) (a := 9) a_T_days_1 (by decide +kernel) sh_0 rfl rfl).trans ((zd_aload_n a_T_days_4 rfl).trans ((zd_getR (h := (zSH, G)) (ci := 7) (fi := 1) (a := 2) a_T_days_5 (by decide +kernel) sh_0 rfl rfl).trans ((zd_cal (kd := 0) (tg := 14) (T := m_Hi_keep) a_T_days_8 (by decide +kernel) hm_Hi_keep rfl rfl rfl rfl)))))
theorem B_T_days_11 {G : Nat → Nat → Int32} {x1 : Int32} : zden 88 11 [.ref 0, .int x1] [] (zSH, G) = zaft 88 23 [.ref 0, .int x1] [.ref 9] (zSH, G) (zden 11 0 [.ref 1, .int x1] [] (zSH, G)) :=
  (zd_aload_n a_T_days_11 rfl).trans ((zd_getR (h := (zSH, G)) (ci := 7) (fi := 2) (a := 9) a_T_days_12 (by decide +kernel) sh_0 rfl rfl).trans ((zd_aload_n a_T_days_15 rfl).trans ((zd_getR (h := (zSH, G)) (ci := 7) (fi := 0) (a := 1) a_T_days_16 (by decide +kernel) sh_0 rfl rfl).trans ((zd_iload_n a_T_days_19 rfl).trans ((zd_cal (kd := 0) (tg := 11) (T := m_Cl_goBy) a_T_days_20 (by decide +kernel) hm_Cl_goBy rfl rfl rfl rfl))))))
theorem B_T_days_23 {G : Nat → Nat → Int32} {x1 s0 : Int32} : zden 88 23 [.ref 0, .int x1] [.int s0, .ref 9] (zSH, G) = zaft 88 26 [.ref 0, .int x1] [] (zSH, G) (zden 15 0 [.ref 9, .int s0] [] (zSH, G)) :=
  (zd_cal (kd := 0) (tg := 15) (T := m_Hi_settle) a_T_days_23 (by decide +kernel) hm_Hi_settle rfl rfl rfl rfl)
theorem B_T_days_26 {G : Nat → Nat → Int32} {x1 s0 : Int32} : zden 88 26 [.ref 0, .int x1] [.int s0] (zSH, G) = some (some (.int s0), (zSH, G)) :=
  zd_iret a_T_days_26 rfl (znr_int _)
theorem a_T_would_0 : zAt 89 0 m_T_would (.aload_n 0) 1 := ⟨hm_T_would, by decide +kernel⟩
theorem a_T_would_1 : zAt 89 1 m_T_would (.getfield 20) 3 := ⟨hm_T_would, by decide +kernel⟩
theorem a_T_would_4 : zAt 89 4 m_T_would (.iload_n 1) 1 := ⟨hm_T_would, by decide +kernel⟩
theorem a_T_would_5 : zAt 89 5 m_T_would (.invokevirtual 98) 3 := ⟨hm_T_would, by decide +kernel⟩
theorem a_T_would_8 : zAt 89 8 m_T_would (.ifCond .eq 10) 3 := ⟨hm_T_would, by decide +kernel⟩
theorem a_T_would_11 : zAt 89 11 m_T_would (.iload_n 2) 1 := ⟨hm_T_would, by decide +kernel⟩
theorem a_T_would_12 : zAt 89 12 m_T_would (.invokestatic 114) 3 := ⟨hm_T_would, by decide +kernel⟩
theorem a_T_would_15 : zAt 89 15 m_T_would (.ifCond .ne 6) 3 := ⟨hm_T_would, by decide +kernel⟩
theorem a_T_would_18 : zAt 89 18 m_T_would (.bipush (-11)) 2 := ⟨hm_T_would, by decide +kernel⟩
theorem a_T_would_20 : zAt 89 20 m_T_would (.ireturn) 1 := ⟨hm_T_would, by decide +kernel⟩
theorem a_T_would_21 : zAt 89 21 m_T_would (.aload_n 0) 1 := ⟨hm_T_would, by decide +kernel⟩
theorem a_T_would_22 : zAt 89 22 m_T_would (.getfield 20) 3 := ⟨hm_T_would, by decide +kernel⟩
theorem a_T_would_25 : zAt 89 25 m_T_would (.iload_n 1) 1 := ⟨hm_T_would, by decide +kernel⟩
theorem a_T_would_26 : zAt 89 26 m_T_would (.iload_n 2) 1 := ⟨hm_T_would, by decide +kernel⟩
theorem a_T_would_27 : zAt 89 27 m_T_would (.invokevirtual 111) 3 := ⟨hm_T_would, by decide +kernel⟩
theorem a_T_would_30 : zAt 89 30 m_T_would (.ireturn) 1 := ⟨hm_T_would, by decide +kernel⟩
theorem B_T_would_0 {G : Nat → Nat → Int32} {x1 x2 : Int32} : zden 89 0 [.ref 0, .int x1, .int x2] [] (zSH, G) = if (bI (0 ≤ x1 ∧ x1 < G 2 4)) = 0 then some (some (.int (-11)), (zSH, G)) else if ¬ (bI (0 ≤ x2 ∧ x2 ≤ 4)) = 0 then zaft 89 30 [.ref 0, .int x1, .int x2] [] (zSH, G) (zden 29 0 [.ref 2, .int x1, .int x2, .retAddr 0, .retAddr 0, .retAddr 0, .retAddr 0] [] (zSH, G)) else some (some (.int (-11)), (zSH, G)) :=
  (zd_aload_n a_T_would_0 rfl).trans ((zd_getR (h := (zSH, G)) (ci := 7) (fi := 1) (a := 2) a_T_would_1 (by decide +kernel) sh_0 rfl rfl).trans ((zd_iload_n a_T_would_4 rfl).trans ((zd_cal (kd := 0) (tg := 27) (T := m_Ho_hasGood) a_T_would_5 (by decide +kernel) hm_Ho_hasGood rfl rfl rfl rfl).trans (((congrArg (zaft 89 8 [.ref 0, .int x1, .int x2] [] (zSH, G)) (sp_hasGood)).trans zaft_same).trans ((zd_if_eq a_T_would_8 rfl).trans (zitc (fun p5 => (zd_bipush (v := (-11)) a_T_would_18 (by decide)).trans (zd_iret a_T_would_20 rfl (znr_int _))) (fun p5 => (zd_iload_n a_T_would_11 rfl).trans ((zd_cal (kd := 1) (tg := 77) (T := m_T_isCountry) a_T_would_12 (by decide +kernel) hm_T_isCountry rfl rfl rfl rfl).trans (((congrArg (zaft 89 15 [.ref 0, .int x1, .int x2] [] (zSH, G)) (sp_isCountry)).trans zaft_same).trans ((zd_if_ne a_T_would_15 rfl).trans (zitc (fun p6 => (zd_aload_n a_T_would_21 rfl).trans ((zd_getR (h := (zSH, G)) (ci := 7) (fi := 1) (a := 2) a_T_would_22 (by decide +kernel) sh_0 rfl rfl).trans ((zd_iload_n a_T_would_25 rfl).trans ((zd_iload_n a_T_would_26 rfl).trans ((zd_cal (kd := 0) (tg := 29) (T := m_Ho_dutyFrom) a_T_would_27 (by decide +kernel) hm_Ho_dutyFrom rfl rfl rfl rfl)))))) (fun p6 => (zd_bipush (v := (-11)) a_T_would_18 (by decide)).trans (zd_iret a_T_would_20 rfl (znr_int _))))))))))))))
theorem B_T_would_30 {G : Nat → Nat → Int32} {x1 x2 s0 : Int32} : zden 89 30 [.ref 0, .int x1, .int x2] [.int s0] (zSH, G) = some (some (.int s0), (zSH, G)) :=
  zd_iret a_T_would_30 rfl (znr_int _)
theorem a_T_cheapest_0 : zAt 90 0 m_T_cheapest (.aload_n 0) 1 := ⟨hm_T_cheapest, by decide +kernel⟩
theorem a_T_cheapest_1 : zAt 90 1 m_T_cheapest (.getfield 20) 3 := ⟨hm_T_cheapest, by decide +kernel⟩
theorem a_T_cheapest_4 : zAt 90 4 m_T_cheapest (.iload_n 1) 1 := ⟨hm_T_cheapest, by decide +kernel⟩
theorem a_T_cheapest_5 : zAt 90 5 m_T_cheapest (.invokevirtual 98) 3 := ⟨hm_T_cheapest, by decide +kernel⟩
theorem a_T_cheapest_8 : zAt 90 8 m_T_cheapest (.ifCond .ne 6) 3 := ⟨hm_T_cheapest, by decide +kernel⟩
theorem a_T_cheapest_11 : zAt 90 11 m_T_cheapest (.bipush (-11)) 2 := ⟨hm_T_cheapest, by decide +kernel⟩
theorem a_T_cheapest_13 : zAt 90 13 m_T_cheapest (.ireturn) 1 := ⟨hm_T_cheapest, by decide +kernel⟩
theorem a_T_cheapest_14 : zAt 90 14 m_T_cheapest (.iconst 0) 1 := ⟨hm_T_cheapest, by decide +kernel⟩
theorem a_T_cheapest_15 : zAt 90 15 m_T_cheapest (.istore_n 2) 1 := ⟨hm_T_cheapest, by decide +kernel⟩
theorem a_T_cheapest_16 : zAt 90 16 m_T_cheapest (.aload_n 0) 1 := ⟨hm_T_cheapest, by decide +kernel⟩
theorem a_T_cheapest_17 : zAt 90 17 m_T_cheapest (.getfield 20) 3 := ⟨hm_T_cheapest, by decide +kernel⟩
theorem a_T_cheapest_20 : zAt 90 20 m_T_cheapest (.iload_n 1) 1 := ⟨hm_T_cheapest, by decide +kernel⟩
theorem a_T_cheapest_21 : zAt 90 21 m_T_cheapest (.iconst 0) 1 := ⟨hm_T_cheapest, by decide +kernel⟩
theorem a_T_cheapest_22 : zAt 90 22 m_T_cheapest (.invokevirtual 111) 3 := ⟨hm_T_cheapest, by decide +kernel⟩
theorem a_T_cheapest_25 : zAt 90 25 m_T_cheapest (.istore_n 3) 1 := ⟨hm_T_cheapest, by decide +kernel⟩
theorem a_T_cheapest_26 : zAt 90 26 m_T_cheapest (.iconst 1) 1 := ⟨hm_T_cheapest, by decide +kernel⟩
theorem a_T_cheapest_27 : zAt 90 27 m_T_cheapest (.istore 4) 2 := ⟨hm_T_cheapest, by decide +kernel⟩
theorem a_T_cheapest_29 : zAt 90 29 m_T_cheapest (.iload 4) 2 := ⟨hm_T_cheapest, by decide +kernel⟩
theorem a_T_cheapest_31 : zAt 90 31 m_T_cheapest (.iconst 5) 1 := ⟨hm_T_cheapest, by decide +kernel⟩
theorem a_T_cheapest_32 : zAt 90 32 m_T_cheapest (.if_icmp .ge 33) 3 := ⟨hm_T_cheapest, by decide +kernel⟩
theorem a_T_cheapest_35 : zAt 90 35 m_T_cheapest (.aload_n 0) 1 := ⟨hm_T_cheapest, by decide +kernel⟩
theorem a_T_cheapest_36 : zAt 90 36 m_T_cheapest (.getfield 20) 3 := ⟨hm_T_cheapest, by decide +kernel⟩
theorem a_T_cheapest_39 : zAt 90 39 m_T_cheapest (.iload_n 1) 1 := ⟨hm_T_cheapest, by decide +kernel⟩
theorem a_T_cheapest_40 : zAt 90 40 m_T_cheapest (.iload 4) 2 := ⟨hm_T_cheapest, by decide +kernel⟩
theorem a_T_cheapest_42 : zAt 90 42 m_T_cheapest (.invokevirtual 111) 3 := ⟨hm_T_cheapest, by decide +kernel⟩
theorem a_T_cheapest_45 : zAt 90 45 m_T_cheapest (.istore 5) 2 := ⟨hm_T_cheapest, by decide +kernel⟩
theorem a_T_cheapest_47 : zAt 90 47 m_T_cheapest (.iload 5) 2 := ⟨hm_T_cheapest, by decide +kernel⟩
theorem a_T_cheapest_49 : zAt 90 49 m_T_cheapest (.iload_n 3) 1 := ⟨hm_T_cheapest, by decide +kernel⟩
theorem a_T_cheapest_50 : zAt 90 50 m_T_cheapest (.if_icmp .ge 9) 3 := ⟨hm_T_cheapest, by decide +kernel⟩
theorem a_T_cheapest_53 : zAt 90 53 m_T_cheapest (.iload 4) 2 := ⟨hm_T_cheapest, by decide +kernel⟩
theorem a_T_cheapest_55 : zAt 90 55 m_T_cheapest (.istore_n 2) 1 := ⟨hm_T_cheapest, by decide +kernel⟩
theorem a_T_cheapest_56 : zAt 90 56 m_T_cheapest (.iload 5) 2 := ⟨hm_T_cheapest, by decide +kernel⟩
theorem a_T_cheapest_58 : zAt 90 58 m_T_cheapest (.istore_n 3) 1 := ⟨hm_T_cheapest, by decide +kernel⟩
theorem a_T_cheapest_59 : zAt 90 59 m_T_cheapest (.iinc 4 1) 3 := ⟨hm_T_cheapest, by decide +kernel⟩
theorem a_T_cheapest_62 : zAt 90 62 m_T_cheapest (.goto (-33)) 3 := ⟨hm_T_cheapest, by decide +kernel⟩
theorem a_T_cheapest_65 : zAt 90 65 m_T_cheapest (.iload_n 2) 1 := ⟨hm_T_cheapest, by decide +kernel⟩
theorem a_T_cheapest_66 : zAt 90 66 m_T_cheapest (.ireturn) 1 := ⟨hm_T_cheapest, by decide +kernel⟩
theorem B_T_cheapest_0 {G : Nat → Nat → Int32} {x1 : Int32} : zden 90 0 [.ref 0, .int x1, .retAddr 0, .retAddr 0, .retAddr 0, .retAddr 0] [] (zSH, G) = if ¬ (bI (0 ≤ x1 ∧ x1 < G 2 4)) = 0 then zaft 90 25 [.ref 0, .int x1, .int 0, .retAddr 0, .retAddr 0, .retAddr 0] [] (zSH, G) (zden 29 0 [.ref 2, .int x1, .int 0, .retAddr 0, .retAddr 0, .retAddr 0, .retAddr 0] [] (zSH, G)) else some (some (.int (-11)), (zSH, G)) :=
  (zd_aload_n a_T_cheapest_0 rfl).trans ((zd_getR (h := (zSH, G)) (ci := 7) (fi := 1) (a := 2) a_T_cheapest_1 (by decide +kernel) sh_0 rfl rfl).trans ((zd_iload_n a_T_cheapest_4 rfl).trans ((zd_cal (kd := 0) (tg := 27) (T := m_Ho_hasGood) a_T_cheapest_5 (by decide +kernel) hm_Ho_hasGood rfl rfl rfl rfl).trans (((congrArg (zaft 90 8 [.ref 0, .int x1, .retAddr 0, .retAddr 0, .retAddr 0, .retAddr 0] [] (zSH, G)) (sp_hasGood)).trans zaft_same).trans ((zd_if_ne a_T_cheapest_8 rfl).trans (zitc (fun p17 => (zd_iconst (v := 0) a_T_cheapest_14 (by decide)).trans ((zd_istore_n a_T_cheapest_15 rfl rfl rfl).trans ((zd_aload_n a_T_cheapest_16 rfl).trans ((zd_getR (h := (zSH, G)) (ci := 7) (fi := 1) (a := 2) a_T_cheapest_17 (by decide +kernel) sh_0 rfl rfl).trans ((zd_iload_n a_T_cheapest_20 rfl).trans ((zd_iconst (v := 0) a_T_cheapest_21 (by decide)).trans ((zd_cal (kd := 0) (tg := 29) (T := m_Ho_dutyFrom) a_T_cheapest_22 (by decide +kernel) hm_Ho_dutyFrom rfl rfl rfl rfl)))))))) (fun p17 => (zd_bipush (v := (-11)) a_T_cheapest_11 (by decide)).trans (zd_iret a_T_cheapest_13 rfl (znr_int _)))))))))
theorem B_T_cheapest_25 {G : Nat → Nat → Int32} {x1 x2 s0 : Int32} : zden 90 25 [.ref 0, .int x1, .int x2, .retAddr 0, .retAddr 0, .retAddr 0] [.int s0] (zSH, G) = zden 90 29 [.ref 0, .int x1, .int x2, .int s0, .int 1, .retAddr 0] [] (zSH, G) :=
  (zd_istore_n a_T_cheapest_25 rfl rfl rfl).trans ((zd_iconst (v := 1) a_T_cheapest_26 (by decide)).trans ((zd_istore a_T_cheapest_27 rfl rfl rfl)))
theorem B_T_cheapest_29 {G : Nat → Nat → Int32} {x1 x2 x3 x4 : Int32} {v5 : Value} : zden 90 29 [.ref 0, .int x1, .int x2, .int x3, .int x4, v5] [] (zSH, G) = if 5 ≤ x4 then some (some (.int x2), (zSH, G)) else zaft 90 45 [.ref 0, .int x1, .int x2, .int x3, .int x4, v5] [] (zSH, G) (zden 29 0 [.ref 2, .int x1, .int x4, .retAddr 0, .retAddr 0, .retAddr 0, .retAddr 0] [] (zSH, G)) :=
  (zd_iload a_T_cheapest_29 rfl).trans ((zd_iconst (v := 5) a_T_cheapest_31 (by decide)).trans ((zd_icmp_ge a_T_cheapest_32 rfl).trans (zitc (fun p18 => (zd_iload_n a_T_cheapest_65 rfl).trans (zd_iret a_T_cheapest_66 rfl (znr_int _))) (fun p18 => (zd_aload_n a_T_cheapest_35 rfl).trans ((zd_getR (h := (zSH, G)) (ci := 7) (fi := 1) (a := 2) a_T_cheapest_36 (by decide +kernel) sh_0 rfl rfl).trans ((zd_iload_n a_T_cheapest_39 rfl).trans ((zd_iload a_T_cheapest_40 rfl).trans ((zd_cal (kd := 0) (tg := 29) (T := m_Ho_dutyFrom) a_T_cheapest_42 (by decide +kernel) hm_Ho_dutyFrom rfl rfl rfl rfl)))))))))
theorem B_T_cheapest_45 {G : Nat → Nat → Int32} {x1 x2 x3 x4 s0 : Int32} {v5 : Value} : zden 90 45 [.ref 0, .int x1, .int x2, .int x3, .int x4, v5] [.int s0] (zSH, G) = if x3 ≤ s0 then zden 90 59 [.ref 0, .int x1, .int x2, .int x3, .int x4, .int s0] [] (zSH, G) else zden 90 59 [.ref 0, .int x1, .int x4, .int s0, .int x4, .int s0] [] (zSH, G) :=
  (zd_istore a_T_cheapest_45 rfl rfl rfl).trans ((zd_iload a_T_cheapest_47 rfl).trans ((zd_iload_n a_T_cheapest_49 rfl).trans ((zd_icmp_ge a_T_cheapest_50 rfl).trans (zitc (fun p19 => rfl) (fun p19 => (zd_iload a_T_cheapest_53 rfl).trans ((zd_istore_n a_T_cheapest_55 rfl rfl rfl).trans ((zd_iload a_T_cheapest_56 rfl).trans ((zd_istore_n a_T_cheapest_58 rfl rfl rfl)))))))))
theorem B_T_cheapest_59 {G : Nat → Nat → Int32} {x1 x2 x3 x4 x5 : Int32} : zden 90 59 [.ref 0, .int x1, .int x2, .int x3, .int x4, .int x5] [] (zSH, G) = zden 90 29 [.ref 0, .int x1, .int x2, .int x3, .int (x4 + 1), .int x5] [] (zSH, G) :=
  (zd_iinc (v := 1) a_T_cheapest_59 rfl (by decide) rfl rfl rfl).trans ((zd_goto a_T_cheapest_62 rfl))
theorem a_T_ranked_0 : zAt 91 0 m_T_ranked (.iload_n 1) 1 := ⟨hm_T_ranked, by decide +kernel⟩
theorem a_T_ranked_1 : zAt 91 1 m_T_ranked (.iconst 0) 1 := ⟨hm_T_ranked, by decide +kernel⟩
theorem a_T_ranked_2 : zAt 91 2 m_T_ranked (.aload_n 0) 1 := ⟨hm_T_ranked, by decide +kernel⟩
theorem a_T_ranked_3 : zAt 91 3 m_T_ranked (.getfield 20) 3 := ⟨hm_T_ranked, by decide +kernel⟩
theorem a_T_ranked_6 : zAt 91 6 m_T_ranked (.getfield 141) 3 := ⟨hm_T_ranked, by decide +kernel⟩
theorem a_T_ranked_9 : zAt 91 9 m_T_ranked (.iconst 1) 1 := ⟨hm_T_ranked, by decide +kernel⟩
theorem a_T_ranked_10 : zAt 91 10 m_T_ranked (.isub) 1 := ⟨hm_T_ranked, by decide +kernel⟩
theorem a_T_ranked_11 : zAt 91 11 m_T_ranked (.invokestatic 69) 3 := ⟨hm_T_ranked, by decide +kernel⟩
theorem a_T_ranked_14 : zAt 91 14 m_T_ranked (.ifCond .eq 18) 3 := ⟨hm_T_ranked, by decide +kernel⟩
theorem a_T_ranked_17 : zAt 91 17 m_T_ranked (.aload_n 0) 1 := ⟨hm_T_ranked, by decide +kernel⟩
theorem a_T_ranked_18 : zAt 91 18 m_T_ranked (.getfield 31) 3 := ⟨hm_T_ranked, by decide +kernel⟩
theorem a_T_ranked_21 : zAt 91 21 m_T_ranked (.aload_n 0) 1 := ⟨hm_T_ranked, by decide +kernel⟩
theorem a_T_ranked_22 : zAt 91 22 m_T_ranked (.getfield 20) 3 := ⟨hm_T_ranked, by decide +kernel⟩
theorem a_T_ranked_25 : zAt 91 25 m_T_ranked (.iload_n 1) 1 := ⟨hm_T_ranked, by decide +kernel⟩
theorem a_T_ranked_26 : zAt 91 26 m_T_ranked (.invokevirtual 144) 3 := ⟨hm_T_ranked, by decide +kernel⟩
theorem a_T_ranked_29 : zAt 91 29 m_T_ranked (.goto 5) 3 := ⟨hm_T_ranked, by decide +kernel⟩
theorem a_T_ranked_32 : zAt 91 32 m_T_ranked (.bipush (-11)) 2 := ⟨hm_T_ranked, by decide +kernel⟩
theorem a_T_ranked_34 : zAt 91 34 m_T_ranked (.ireturn) 1 := ⟨hm_T_ranked, by decide +kernel⟩
theorem B_T_ranked_0 {G : Nat → Nat → Int32} {x1 : Int32} : zden 91 0 [.ref 0, .int x1] [] (zSH, G) = if (bI (0 ≤ x1 ∧ x1 ≤ ((G 2 4) - 1))) = 0 then some (some (.int (-11)), (zSH, G)) else zaft 91 29 [.ref 0, .int x1] [] (zSH, G) (zden 47 0 [.ref 81, .ref 2, .int x1, .retAddr 0, .retAddr 0] [] (zSH, G)) :=
  (zd_iload_n a_T_ranked_0 rfl).trans ((zd_iconst (v := 0) a_T_ranked_1 (by decide)).trans ((zd_aload_n a_T_ranked_2 rfl).trans ((zd_getR (h := (zSH, G)) (ci := 7) (fi := 1) (a := 2) a_T_ranked_3 (by decide +kernel) sh_0 rfl rfl).trans ((zd_getI (h := (zSH, G)) (ci := 2) (fi := 4) a_T_ranked_6 (by decide +kernel) sh_2 rfl).trans ((zd_iconst (v := 1) a_T_ranked_9 (by decide)).trans ((zd_num (st2 := [.int ((G 2 4) - 1), .int 0, .int x1]) a_T_ranked_10 rfl rfl rfl rfl).trans ((zd_cal (kd := 1) (tg := 71) (T := m_T_isWithin) a_T_ranked_11 (by decide +kernel) hm_T_isWithin rfl rfl rfl rfl).trans (((congrArg (zaft 91 14 [.ref 0, .int x1] [] (zSH, G)) (sp_isWithin)).trans zaft_same).trans ((zd_if_eq a_T_ranked_14 rfl).trans (zitc (fun p3 => (zd_bipush (v := (-11)) a_T_ranked_32 (by decide)).trans (zd_iret a_T_ranked_34 rfl (znr_int _))) (fun p3 => (zd_aload_n a_T_ranked_17 rfl).trans ((zd_getR (h := (zSH, G)) (ci := 7) (fi := 3) (a := 81) a_T_ranked_18 (by decide +kernel) sh_0 rfl rfl).trans ((zd_aload_n a_T_ranked_21 rfl).trans ((zd_getR (h := (zSH, G)) (ci := 7) (fi := 1) (a := 2) a_T_ranked_22 (by decide +kernel) sh_0 rfl rfl).trans ((zd_iload_n a_T_ranked_25 rfl).trans ((zd_cal (kd := 0) (tg := 47) (T := m_Ra_goodAt) a_T_ranked_26 (by decide +kernel) hm_Ra_goodAt rfl rfl rfl rfl)))))))))))))))))
theorem B_T_ranked_29 {G : Nat → Nat → Int32} {x1 s0 : Int32} : zden 91 29 [.ref 0, .int x1] [.int s0] (zSH, G) = some (some (.int s0), (zSH, G)) :=
  (zd_goto a_T_ranked_29 rfl).trans (zd_iret a_T_ranked_34 rfl (znr_int _))
theorem a_T_run_0 : zAt 93 0 m_T_run (.aload_n 0) 1 := ⟨hm_T_run, by decide +kernel⟩
theorem a_T_run_1 : zAt 93 1 m_T_run (.getfield 38) 3 := ⟨hm_T_run, by decide +kernel⟩
theorem a_T_run_4 : zAt 93 4 m_T_run (.invokevirtual 151) 3 := ⟨hm_T_run, by decide +kernel⟩
theorem a_T_run_7 : zAt 93 7 m_T_run (.istore_n 1) 1 := ⟨hm_T_run, by decide +kernel⟩
theorem a_T_run_8 : zAt 93 8 m_T_run (.aload_n 0) 1 := ⟨hm_T_run, by decide +kernel⟩
theorem a_T_run_9 : zAt 93 9 m_T_run (.getfield 38) 3 := ⟨hm_T_run, by decide +kernel⟩
theorem a_T_run_12 : zAt 93 12 m_T_run (.invokevirtual 155) 3 := ⟨hm_T_run, by decide +kernel⟩
theorem a_T_run_15 : zAt 93 15 m_T_run (.iload_n 1) 1 := ⟨hm_T_run, by decide +kernel⟩
theorem a_T_run_16 : zAt 93 16 m_T_run (.ifCond .ge 5) 3 := ⟨hm_T_run, by decide +kernel⟩
theorem a_T_run_19 : zAt 93 19 m_T_run (.iload_n 1) 1 := ⟨hm_T_run, by decide +kernel⟩
theorem a_T_run_20 : zAt 93 20 m_T_run (.ireturn) 1 := ⟨hm_T_run, by decide +kernel⟩
theorem a_T_run_21 : zAt 93 21 m_T_run (.aload_n 0) 1 := ⟨hm_T_run, by decide +kernel⟩
theorem a_T_run_22 : zAt 93 22 m_T_run (.getfield 24) 3 := ⟨hm_T_run, by decide +kernel⟩
theorem a_T_run_25 : zAt 93 25 m_T_run (.aload_n 0) 1 := ⟨hm_T_run, by decide +kernel⟩
theorem a_T_run_26 : zAt 93 26 m_T_run (.getfield 20) 3 := ⟨hm_T_run, by decide +kernel⟩
theorem a_T_run_29 : zAt 93 29 m_T_run (.invokevirtual 49) 3 := ⟨hm_T_run, by decide +kernel⟩
theorem a_T_run_32 : zAt 93 32 m_T_run (.iconst 0) 1 := ⟨hm_T_run, by decide +kernel⟩
theorem a_T_run_33 : zAt 93 33 m_T_run (.istore_n 2) 1 := ⟨hm_T_run, by decide +kernel⟩
theorem a_T_run_34 : zAt 93 34 m_T_run (.iload_n 2) 1 := ⟨hm_T_run, by decide +kernel⟩
theorem a_T_run_35 : zAt 93 35 m_T_run (.iload_n 1) 1 := ⟨hm_T_run, by decide +kernel⟩
theorem a_T_run_36 : zAt 93 36 m_T_run (.if_icmp .ge 49) 3 := ⟨hm_T_run, by decide +kernel⟩
theorem a_T_run_39 : zAt 93 39 m_T_run (.aload_n 0) 1 := ⟨hm_T_run, by decide +kernel⟩
theorem a_T_run_40 : zAt 93 40 m_T_run (.getfield 12) 3 := ⟨hm_T_run, by decide +kernel⟩
theorem a_T_run_43 : zAt 93 43 m_T_run (.aload_n 0) 1 := ⟨hm_T_run, by decide +kernel⟩
theorem a_T_run_44 : zAt 93 44 m_T_run (.getfield 38) 3 := ⟨hm_T_run, by decide +kernel⟩
theorem a_T_run_47 : zAt 93 47 m_T_run (.getfield 158) 3 := ⟨hm_T_run, by decide +kernel⟩
theorem a_T_run_50 : zAt 93 50 m_T_run (.iload_n 2) 1 := ⟨hm_T_run, by decide +kernel⟩
theorem a_T_run_51 : zAt 93 51 m_T_run (.invokevirtual 161) 3 := ⟨hm_T_run, by decide +kernel⟩
theorem a_T_run_54 : zAt 93 54 m_T_run (.ifCond .ge 25) 3 := ⟨hm_T_run, by decide +kernel⟩
theorem a_T_run_57 : zAt 93 57 m_T_run (.aload_n 0) 1 := ⟨hm_T_run, by decide +kernel⟩
theorem a_T_run_58 : zAt 93 58 m_T_run (.getfield 24) 3 := ⟨hm_T_run, by decide +kernel⟩
theorem a_T_run_61 : zAt 93 61 m_T_run (.aload_n 0) 1 := ⟨hm_T_run, by decide +kernel⟩
theorem a_T_run_62 : zAt 93 62 m_T_run (.getfield 20) 3 := ⟨hm_T_run, by decide +kernel⟩
theorem a_T_run_65 : zAt 93 65 m_T_run (.invokevirtual 165) 3 := ⟨hm_T_run, by decide +kernel⟩
theorem a_T_run_68 : zAt 93 68 m_T_run (.aload_n 0) 1 := ⟨hm_T_run, by decide +kernel⟩
theorem a_T_run_69 : zAt 93 69 m_T_run (.getfield 12) 3 := ⟨hm_T_run, by decide +kernel⟩
theorem a_T_run_72 : zAt 93 72 m_T_run (.bipush 6) 2 := ⟨hm_T_run, by decide +kernel⟩
theorem a_T_run_74 : zAt 93 74 m_T_run (.iload_n 2) 1 := ⟨hm_T_run, by decide +kernel⟩
theorem a_T_run_75 : zAt 93 75 m_T_run (.invokevirtual 168) 3 := ⟨hm_T_run, by decide +kernel⟩
theorem a_T_run_78 : zAt 93 78 m_T_run (.ireturn) 1 := ⟨hm_T_run, by decide +kernel⟩
theorem a_T_run_79 : zAt 93 79 m_T_run (.iinc 2 1) 3 := ⟨hm_T_run, by decide +kernel⟩
theorem a_T_run_82 : zAt 93 82 m_T_run (.goto (-48)) 3 := ⟨hm_T_run, by decide +kernel⟩
theorem a_T_run_85 : zAt 93 85 m_T_run (.aload_n 0) 1 := ⟨hm_T_run, by decide +kernel⟩
theorem a_T_run_86 : zAt 93 86 m_T_run (.getfield 24) 3 := ⟨hm_T_run, by decide +kernel⟩
theorem a_T_run_89 : zAt 93 89 m_T_run (.iload_n 1) 1 := ⟨hm_T_run, by decide +kernel⟩
theorem a_T_run_90 : zAt 93 90 m_T_run (.invokevirtual 57) 3 := ⟨hm_T_run, by decide +kernel⟩
theorem a_T_run_93 : zAt 93 93 m_T_run (.ireturn) 1 := ⟨hm_T_run, by decide +kernel⟩
theorem B_T_run_0 {G : Nat → Nat → Int32} : zden 93 0 [.ref 0, .retAddr 0, .retAddr 0] [] (zSH, G) = zaft 93 7 [.ref 0, .retAddr 0, .retAddr 0] [] (zSH, G) (zden 57 0 [.ref 84, .retAddr 0] [] (zSH, G)) :=
  (zd_aload_n a_T_run_0 rfl).trans ((zd_getR (h := (zSH, G)) (ci := 7) (fi := 4) (a := 84) a_T_run_1 (by decide +kernel) sh_0 rfl rfl).trans ((zd_cal (kd := 0) (tg := 57) (T := m_Te_read) a_T_run_4 (by decide +kernel) hm_Te_read rfl rfl rfl rfl)))
theorem B_T_run_7 {G : Nat → Nat → Int32} {s0 : Int32} : zden 93 7 [.ref 0, .retAddr 0, .retAddr 0] [.int s0] (zSH, G) = zaft 93 15 [.ref 0, .int s0, .retAddr 0] [] (zSH, G) (zden 68 0 [.ref 84] [] (zSH, G)) :=
  (zd_istore_n a_T_run_7 rfl rfl rfl).trans ((zd_aload_n a_T_run_8 rfl).trans ((zd_getR (h := (zSH, G)) (ci := 7) (fi := 4) (a := 84) a_T_run_9 (by decide +kernel) sh_0 rfl rfl).trans ((zd_cal (kd := 0) (tg := 68) (T := m_Te_empty) a_T_run_12 (by decide +kernel) hm_Te_empty rfl rfl rfl rfl))))
theorem B_T_run_15 {G : Nat → Nat → Int32} {x1 : Int32} : zden 93 15 [.ref 0, .int x1, .retAddr 0] [] (zSH, G) = if 0 ≤ x1 then zaft 93 32 [.ref 0, .int x1, .retAddr 0] [] (zSH, G) (zden 14 0 [.ref 9, .ref 2, .retAddr 0] [] (zSH, G)) else some (some (.int x1), (zSH, G)) :=
  (zd_iload_n a_T_run_15 rfl).trans ((zd_if_ge a_T_run_16 rfl).trans (zitc (fun p14 => (zd_aload_n a_T_run_21 rfl).trans ((zd_getR (h := (zSH, G)) (ci := 7) (fi := 2) (a := 9) a_T_run_22 (by decide +kernel) sh_0 rfl rfl).trans ((zd_aload_n a_T_run_25 rfl).trans ((zd_getR (h := (zSH, G)) (ci := 7) (fi := 1) (a := 2) a_T_run_26 (by decide +kernel) sh_0 rfl rfl).trans ((zd_cal (kd := 0) (tg := 14) (T := m_Hi_keep) a_T_run_29 (by decide +kernel) hm_Hi_keep rfl rfl rfl rfl)))))) (fun p14 => (zd_iload_n a_T_run_19 rfl).trans (zd_iret a_T_run_20 rfl (znr_int _)))))
theorem B_T_run_32 {G : Nat → Nat → Int32} {x1 : Int32} : zden 93 32 [.ref 0, .int x1, .retAddr 0] [] (zSH, G) = zden 93 34 [.ref 0, .int x1, .int 0] [] (zSH, G) :=
  (zd_iconst (v := 0) a_T_run_32 (by decide)).trans ((zd_istore_n a_T_run_33 rfl rfl rfl))
theorem B_T_run_34 {G : Nat → Nat → Int32} {x1 x2 : Int32} : zden 93 34 [.ref 0, .int x1, .int x2] [] (zSH, G) = if x1 ≤ x2 then zaft 93 93 [.ref 0, .int x1, .int x2] [] (zSH, G) (zden 15 0 [.ref 9, .int x1] [] (zSH, G)) else zaft 93 54 [.ref 0, .int x1, .int x2] [] (zSH, G) (zden 12 0 [.ref 1, .ref 85, .int x2, .retAddr 0, .retAddr 0, .retAddr 0, .retAddr 0, .retAddr 0] [] (zSH, G)) :=
  (zd_iload_n a_T_run_34 rfl).trans ((zd_iload_n a_T_run_35 rfl).trans ((zd_icmp_ge a_T_run_36 rfl).trans (zitc (fun p15 => (zd_aload_n a_T_run_85 rfl).trans ((zd_getR (h := (zSH, G)) (ci := 7) (fi := 2) (a := 9) a_T_run_86 (by decide +kernel) sh_0 rfl rfl).trans ((zd_iload_n a_T_run_89 rfl).trans ((zd_cal (kd := 0) (tg := 15) (T := m_Hi_settle) a_T_run_90 (by decide +kernel) hm_Hi_settle rfl rfl rfl rfl))))) (fun p15 => (zd_aload_n a_T_run_39 rfl).trans ((zd_getR (h := (zSH, G)) (ci := 7) (fi := 0) (a := 1) a_T_run_40 (by decide +kernel) sh_0 rfl rfl).trans ((zd_aload_n a_T_run_43 rfl).trans ((zd_getR (h := (zSH, G)) (ci := 7) (fi := 4) (a := 84) a_T_run_44 (by decide +kernel) sh_0 rfl rfl).trans ((zd_getR (h := (zSH, G)) (ci := 6) (fi := 0) (a := 85) a_T_run_47 (by decide +kernel) sh_84 rfl rfl).trans ((zd_iload_n a_T_run_50 rfl).trans ((zd_cal (kd := 0) (tg := 12) (T := m_Cl_carryOut) a_T_run_51 (by decide +kernel) hm_Cl_carryOut rfl rfl rfl rfl)))))))))))
theorem B_T_run_54 {G : Nat → Nat → Int32} {x1 x2 s0 : Int32} : zden 93 54 [.ref 0, .int x1, .int x2] [.int s0] (zSH, G) = if 0 ≤ s0 then zden 93 34 [.ref 0, .int x1, .int (x2 + 1)] [] (zSH, G) else zaft 93 68 [.ref 0, .int x1, .int x2] [] (zSH, G) (zden 16 0 [.ref 9, .ref 2, .retAddr 0] [] (zSH, G)) :=
  (zd_if_ge a_T_run_54 rfl).trans (zitc (fun p16 => (zd_iinc (v := 1) a_T_run_79 rfl (by decide) rfl rfl rfl).trans ((zd_goto a_T_run_82 rfl))) (fun p16 => (zd_aload_n a_T_run_57 rfl).trans ((zd_getR (h := (zSH, G)) (ci := 7) (fi := 2) (a := 9) a_T_run_58 (by decide +kernel) sh_0 rfl rfl).trans ((zd_aload_n a_T_run_61 rfl).trans ((zd_getR (h := (zSH, G)) (ci := 7) (fi := 1) (a := 2) a_T_run_62 (by decide +kernel) sh_0 rfl rfl).trans ((zd_cal (kd := 0) (tg := 16) (T := m_Hi_takeBack) a_T_run_65 (by decide +kernel) hm_Hi_takeBack rfl rfl rfl rfl)))))))
theorem B_T_run_68 {G : Nat → Nat → Int32} {x1 x2 : Int32} : zden 93 68 [.ref 0, .int x1, .int x2] [] (zSH, G) = zaft 93 78 [.ref 0, .int x1, .int x2] [] (zSH, G) (zden 2 0 [.ref 1, .int 6, .int x2] [] (zSH, G)) :=
  (zd_aload_n a_T_run_68 rfl).trans ((zd_getR (h := (zSH, G)) (ci := 7) (fi := 0) (a := 1) a_T_run_69 (by decide +kernel) sh_0 rfl rfl).trans ((zd_bipush (v := 6) a_T_run_72 (by decide)).trans ((zd_iload_n a_T_run_74 rfl).trans ((zd_cal (kd := 0) (tg := 2) (T := m_Cl_refuse) a_T_run_75 (by decide +kernel) hm_Cl_refuse rfl rfl rfl rfl)))))
theorem B_T_run_78 {G : Nat → Nat → Int32} {x1 x2 s0 : Int32} : zden 93 78 [.ref 0, .int x1, .int x2] [.int s0] (zSH, G) = some (some (.int s0), (zSH, G)) :=
  zd_iret a_T_run_78 rfl (znr_int _)
theorem B_T_run_93 {G : Nat → Nat → Int32} {x1 x2 s0 : Int32} : zden 93 93 [.ref 0, .int x1, .int x2] [.int s0] (zSH, G) = some (some (.int s0), (zSH, G)) :=
  zd_iret a_T_run_93 rfl (znr_int _)
theorem a_T_character_0 : zAt 96 0 m_T_character (.aload_n 0) 1 := ⟨hm_T_character, by decide +kernel⟩
theorem a_T_character_1 : zAt 96 1 m_T_character (.getfield 45) 3 := ⟨hm_T_character, by decide +kernel⟩
theorem a_T_character_4 : zAt 96 4 m_T_character (.iload_n 1) 1 := ⟨hm_T_character, by decide +kernel⟩
theorem a_T_character_5 : zAt 96 5 m_T_character (.invokevirtual 177) 3 := ⟨hm_T_character, by decide +kernel⟩
theorem a_T_character_8 : zAt 96 8 m_T_character (.ireturn) 1 := ⟨hm_T_character, by decide +kernel⟩
theorem B_T_character_0 {G : Nat → Nat → Int32} {x1 : Int32} : zden 96 0 [.ref 0, .int x1] [] (zSH, G) = zaft 96 8 [.ref 0, .int x1] [] (zSH, G) (zden 45 0 [.ref 88, .int x1] [] (zSH, G)) :=
  (zd_aload_n a_T_character_0 rfl).trans ((zd_getR (h := (zSH, G)) (ci := 7) (fi := 5) (a := 88) a_T_character_1 (by decide +kernel) sh_0 rfl rfl).trans ((zd_iload_n a_T_character_4 rfl).trans ((zd_cal (kd := 0) (tg := 45) (T := m_Li_signAt) a_T_character_5 (by decide +kernel) hm_Li_signAt rfl rfl rfl rfl))))
theorem B_T_character_8 {G : Nat → Nat → Int32} {x1 s0 : Int32} : zden 96 8 [.ref 0, .int x1] [.int s0] (zSH, G) = some (some (.int s0), (zSH, G)) :=
  zd_iret a_T_character_8 rfl (znr_int _)
theorem a_T_reason_0 : zAt 97 0 m_T_reason (.iload_n 1) 1 := ⟨hm_T_reason, by decide +kernel⟩
theorem a_T_reason_1 : zAt 97 1 m_T_reason (.ifCond .eq 13) 3 := ⟨hm_T_reason, by decide +kernel⟩
theorem a_T_reason_4 : zAt 97 4 m_T_reason (.aload_n 0) 1 := ⟨hm_T_reason, by decide +kernel⟩
theorem a_T_reason_5 : zAt 97 5 m_T_reason (.getfield 12) 3 := ⟨hm_T_reason, by decide +kernel⟩
theorem a_T_reason_8 : zAt 97 8 m_T_reason (.getfield 180) 3 := ⟨hm_T_reason, by decide +kernel⟩
theorem a_T_reason_11 : zAt 97 11 m_T_reason (.goto 10) 3 := ⟨hm_T_reason, by decide +kernel⟩
theorem a_T_reason_14 : zAt 97 14 m_T_reason (.aload_n 0) 1 := ⟨hm_T_reason, by decide +kernel⟩
theorem a_T_reason_15 : zAt 97 15 m_T_reason (.getfield 12) 3 := ⟨hm_T_reason, by decide +kernel⟩
theorem a_T_reason_18 : zAt 97 18 m_T_reason (.getfield 183) 3 := ⟨hm_T_reason, by decide +kernel⟩
theorem a_T_reason_21 : zAt 97 21 m_T_reason (.ireturn) 1 := ⟨hm_T_reason, by decide +kernel⟩
theorem B_T_reason_0 {G : Nat → Nat → Int32} {x1 : Int32} : zden 97 0 [.ref 0, .int x1] [] (zSH, G) = if x1 = 0 then some (some (.int (G 1 1)), (zSH, G)) else some (some (.int (G 1 2)), (zSH, G)) :=
  (zd_iload_n a_T_reason_0 rfl).trans ((zd_if_eq a_T_reason_1 rfl).trans (zitc (fun p2 => (zd_aload_n a_T_reason_14 rfl).trans ((zd_getR (h := (zSH, G)) (ci := 7) (fi := 0) (a := 1) a_T_reason_15 (by decide +kernel) sh_0 rfl rfl).trans ((zd_getI (h := (zSH, G)) (ci := 0) (fi := 1) a_T_reason_18 (by decide +kernel) sh_1 rfl).trans (zd_iret a_T_reason_21 rfl (znr_int _))))) (fun p2 => (zd_aload_n a_T_reason_4 rfl).trans ((zd_getR (h := (zSH, G)) (ci := 7) (fi := 0) (a := 1) a_T_reason_5 (by decide +kernel) sh_0 rfl rfl).trans ((zd_getI (h := (zSH, G)) (ci := 0) (fi := 2) a_T_reason_8 (by decide +kernel) sh_1 rfl).trans ((zd_goto a_T_reason_11 rfl).trans (zd_iret a_T_reason_21 rfl (znr_int _))))))))
theorem a_T_account_0 : zAt 98 0 m_T_account (.iload_n 1) 1 := ⟨hm_T_account, by decide +kernel⟩
theorem a_T_account_1 : zAt 98 1 m_T_account (.tableswitch 188 0 13 #[71, 79, 89, 97, 106, 115, 124, 132, 140, 148, 156, 164, 172, 180]) 71 := ⟨hm_T_account, by decide +kernel⟩
theorem a_T_account_72 : zAt 98 72 m_T_account (.aload_n 0) 1 := ⟨hm_T_account, by decide +kernel⟩
theorem a_T_account_73 : zAt 98 73 m_T_account (.getfield 20) 3 := ⟨hm_T_account, by decide +kernel⟩
theorem a_T_account_76 : zAt 98 76 m_T_account (.getfield 186) 3 := ⟨hm_T_account, by decide +kernel⟩
theorem a_T_account_79 : zAt 98 79 m_T_account (.ireturn) 1 := ⟨hm_T_account, by decide +kernel⟩
theorem a_T_account_80 : zAt 98 80 m_T_account (.aload_n 0) 1 := ⟨hm_T_account, by decide +kernel⟩
theorem a_T_account_81 : zAt 98 81 m_T_account (.getfield 20) 3 := ⟨hm_T_account, by decide +kernel⟩
theorem a_T_account_84 : zAt 98 84 m_T_account (.getfield 86) 3 := ⟨hm_T_account, by decide +kernel⟩
theorem a_T_account_87 : zAt 98 87 m_T_account (.iconst 1) 1 := ⟨hm_T_account, by decide +kernel⟩
theorem a_T_account_88 : zAt 98 88 m_T_account (.isub) 1 := ⟨hm_T_account, by decide +kernel⟩
theorem a_T_account_89 : zAt 98 89 m_T_account (.ireturn) 1 := ⟨hm_T_account, by decide +kernel⟩
theorem a_T_account_90 : zAt 98 90 m_T_account (.aload_n 0) 1 := ⟨hm_T_account, by decide +kernel⟩
theorem a_T_account_91 : zAt 98 91 m_T_account (.getfield 20) 3 := ⟨hm_T_account, by decide +kernel⟩
theorem a_T_account_94 : zAt 98 94 m_T_account (.getfield 141) 3 := ⟨hm_T_account, by decide +kernel⟩
theorem a_T_account_97 : zAt 98 97 m_T_account (.ireturn) 1 := ⟨hm_T_account, by decide +kernel⟩
theorem a_T_account_98 : zAt 98 98 m_T_account (.aload_n 0) 1 := ⟨hm_T_account, by decide +kernel⟩
theorem a_T_account_99 : zAt 98 99 m_T_account (.getfield 20) 3 := ⟨hm_T_account, by decide +kernel⟩
theorem a_T_account_102 : zAt 98 102 m_T_account (.iconst 0) 1 := ⟨hm_T_account, by decide +kernel⟩
theorem a_T_account_103 : zAt 98 103 m_T_account (.invokevirtual 189) 3 := ⟨hm_T_account, by decide +kernel⟩
theorem a_T_account_106 : zAt 98 106 m_T_account (.ireturn) 1 := ⟨hm_T_account, by decide +kernel⟩
theorem a_T_account_107 : zAt 98 107 m_T_account (.aload_n 0) 1 := ⟨hm_T_account, by decide +kernel⟩
theorem a_T_account_108 : zAt 98 108 m_T_account (.getfield 20) 3 := ⟨hm_T_account, by decide +kernel⟩
theorem a_T_account_111 : zAt 98 111 m_T_account (.iconst 1) 1 := ⟨hm_T_account, by decide +kernel⟩
theorem a_T_account_112 : zAt 98 112 m_T_account (.invokevirtual 189) 3 := ⟨hm_T_account, by decide +kernel⟩
theorem a_T_account_115 : zAt 98 115 m_T_account (.ireturn) 1 := ⟨hm_T_account, by decide +kernel⟩
theorem a_T_account_116 : zAt 98 116 m_T_account (.aload_n 0) 1 := ⟨hm_T_account, by decide +kernel⟩
theorem a_T_account_117 : zAt 98 117 m_T_account (.getfield 20) 3 := ⟨hm_T_account, by decide +kernel⟩
theorem a_T_account_120 : zAt 98 120 m_T_account (.iconst 2) 1 := ⟨hm_T_account, by decide +kernel⟩
theorem a_T_account_121 : zAt 98 121 m_T_account (.invokevirtual 189) 3 := ⟨hm_T_account, by decide +kernel⟩
theorem a_T_account_124 : zAt 98 124 m_T_account (.ireturn) 1 := ⟨hm_T_account, by decide +kernel⟩
theorem a_T_account_125 : zAt 98 125 m_T_account (.aload_n 0) 1 := ⟨hm_T_account, by decide +kernel⟩
theorem a_T_account_126 : zAt 98 126 m_T_account (.getfield 20) 3 := ⟨hm_T_account, by decide +kernel⟩
theorem a_T_account_129 : zAt 98 129 m_T_account (.getfield 192) 3 := ⟨hm_T_account, by decide +kernel⟩
theorem a_T_account_132 : zAt 98 132 m_T_account (.ireturn) 1 := ⟨hm_T_account, by decide +kernel⟩
theorem a_T_account_133 : zAt 98 133 m_T_account (.aload_n 0) 1 := ⟨hm_T_account, by decide +kernel⟩
theorem a_T_account_134 : zAt 98 134 m_T_account (.getfield 20) 3 := ⟨hm_T_account, by decide +kernel⟩
theorem a_T_account_137 : zAt 98 137 m_T_account (.getfield 195) 3 := ⟨hm_T_account, by decide +kernel⟩
theorem a_T_account_140 : zAt 98 140 m_T_account (.ireturn) 1 := ⟨hm_T_account, by decide +kernel⟩
theorem a_T_account_141 : zAt 98 141 m_T_account (.aload_n 0) 1 := ⟨hm_T_account, by decide +kernel⟩
theorem a_T_account_142 : zAt 98 142 m_T_account (.getfield 20) 3 := ⟨hm_T_account, by decide +kernel⟩
theorem a_T_account_145 : zAt 98 145 m_T_account (.getfield 198) 3 := ⟨hm_T_account, by decide +kernel⟩
theorem a_T_account_148 : zAt 98 148 m_T_account (.ireturn) 1 := ⟨hm_T_account, by decide +kernel⟩
theorem a_T_account_149 : zAt 98 149 m_T_account (.aload_n 0) 1 := ⟨hm_T_account, by decide +kernel⟩
theorem a_T_account_150 : zAt 98 150 m_T_account (.getfield 20) 3 := ⟨hm_T_account, by decide +kernel⟩
theorem a_T_account_153 : zAt 98 153 m_T_account (.getfield 201) 3 := ⟨hm_T_account, by decide +kernel⟩
theorem a_T_account_156 : zAt 98 156 m_T_account (.ireturn) 1 := ⟨hm_T_account, by decide +kernel⟩
theorem a_T_account_157 : zAt 98 157 m_T_account (.aload_n 0) 1 := ⟨hm_T_account, by decide +kernel⟩
theorem a_T_account_158 : zAt 98 158 m_T_account (.getfield 20) 3 := ⟨hm_T_account, by decide +kernel⟩
theorem a_T_account_161 : zAt 98 161 m_T_account (.getfield 204) 3 := ⟨hm_T_account, by decide +kernel⟩
theorem a_T_account_164 : zAt 98 164 m_T_account (.ireturn) 1 := ⟨hm_T_account, by decide +kernel⟩
theorem a_T_account_165 : zAt 98 165 m_T_account (.aload_n 0) 1 := ⟨hm_T_account, by decide +kernel⟩
theorem a_T_account_166 : zAt 98 166 m_T_account (.getfield 20) 3 := ⟨hm_T_account, by decide +kernel⟩
theorem a_T_account_169 : zAt 98 169 m_T_account (.invokevirtual 207) 3 := ⟨hm_T_account, by decide +kernel⟩
theorem a_T_account_172 : zAt 98 172 m_T_account (.ireturn) 1 := ⟨hm_T_account, by decide +kernel⟩
theorem a_T_account_173 : zAt 98 173 m_T_account (.aload_n 0) 1 := ⟨hm_T_account, by decide +kernel⟩
theorem a_T_account_174 : zAt 98 174 m_T_account (.getfield 38) 3 := ⟨hm_T_account, by decide +kernel⟩
theorem a_T_account_177 : zAt 98 177 m_T_account (.getfield 210) 3 := ⟨hm_T_account, by decide +kernel⟩
theorem a_T_account_180 : zAt 98 180 m_T_account (.ireturn) 1 := ⟨hm_T_account, by decide +kernel⟩
theorem a_T_account_181 : zAt 98 181 m_T_account (.aload_n 0) 1 := ⟨hm_T_account, by decide +kernel⟩
theorem a_T_account_182 : zAt 98 182 m_T_account (.getfield 24) 3 := ⟨hm_T_account, by decide +kernel⟩
theorem a_T_account_185 : zAt 98 185 m_T_account (.getfield 213) 3 := ⟨hm_T_account, by decide +kernel⟩
theorem a_T_account_188 : zAt 98 188 m_T_account (.ireturn) 1 := ⟨hm_T_account, by decide +kernel⟩
theorem a_T_account_189 : zAt 98 189 m_T_account (.bipush (-12)) 2 := ⟨hm_T_account, by decide +kernel⟩
theorem a_T_account_191 : zAt 98 191 m_T_account (.ireturn) 1 := ⟨hm_T_account, by decide +kernel⟩
theorem B_T_account_0 {G : Nat → Nat → Int32} {x1 : Int32} : zden 98 0 [.ref 0, .int x1] [] (zSH, G) = if x1 = 0 then zden 98 72 [.ref 0, .int x1] [] (zSH, G) else if x1 = 1 then zden 98 80 [.ref 0, .int x1] [] (zSH, G) else if x1 = 2 then zden 98 90 [.ref 0, .int x1] [] (zSH, G) else if x1 = 3 then zden 98 98 [.ref 0, .int x1] [] (zSH, G) else if x1 = 4 then zden 98 107 [.ref 0, .int x1] [] (zSH, G) else if x1 = 5 then zden 98 116 [.ref 0, .int x1] [] (zSH, G) else if x1 = 6 then zden 98 125 [.ref 0, .int x1] [] (zSH, G) else if x1 = 7 then zden 98 133 [.ref 0, .int x1] [] (zSH, G) else if x1 = 8 then zden 98 141 [.ref 0, .int x1] [] (zSH, G) else if x1 = 9 then zden 98 149 [.ref 0, .int x1] [] (zSH, G) else if x1 = 10 then zden 98 157 [.ref 0, .int x1] [] (zSH, G) else if x1 = 11 then zden 98 165 [.ref 0, .int x1] [] (zSH, G) else if x1 = 12 then zden 98 173 [.ref 0, .int x1] [] (zSH, G) else if x1 = 13 then zden 98 181 [.ref 0, .int x1] [] (zSH, G) else some (some (.int (-12)), (zSH, G)) :=
  (zd_iload_n a_T_account_0 rfl).trans ((zd_tsw (td := 189) (L := [(0, 72), (1, 80), (2, 90), (3, 98), (4, 107), (5, 116), (6, 125), (7, 133), (8, 141), (9, 149), (10, 157), (11, 165), (12, 173), (13, 181)]) a_T_account_1 rfl (by decide) (by decide)).trans (zitc (fun p43 => rfl) (fun p43 => zitc (fun p44 => rfl) (fun p44 => zitc (fun p45 => rfl) (fun p45 => zitc (fun p46 => rfl) (fun p46 => zitc (fun p47 => rfl) (fun p47 => zitc (fun p48 => rfl) (fun p48 => zitc (fun p49 => rfl) (fun p49 => zitc (fun p50 => rfl) (fun p50 => zitc (fun p51 => rfl) (fun p51 => zitc (fun p52 => rfl) (fun p52 => zitc (fun p53 => rfl) (fun p53 => zitc (fun p54 => rfl) (fun p54 => zitc (fun p55 => rfl) (fun p55 => zitc (fun p56 => rfl) (fun p56 => (zd_bipush (v := (-12)) a_T_account_189 (by decide)).trans (zd_iret a_T_account_191 rfl (znr_int _))))))))))))))))))
theorem B_T_account_72 {G : Nat → Nat → Int32} {x1 : Int32} : zden 98 72 [.ref 0, .int x1] [] (zSH, G) = some (some (.int (G 2 5)), (zSH, G)) :=
  (zd_aload_n a_T_account_72 rfl).trans ((zd_getR (h := (zSH, G)) (ci := 7) (fi := 1) (a := 2) a_T_account_73 (by decide +kernel) sh_0 rfl rfl).trans ((zd_getI (h := (zSH, G)) (ci := 2) (fi := 5) a_T_account_76 (by decide +kernel) sh_2 rfl).trans (zd_iret a_T_account_79 rfl (znr_int _))))
theorem B_T_account_80 {G : Nat → Nat → Int32} {x1 : Int32} : zden 98 80 [.ref 0, .int x1] [] (zSH, G) = some (some (.int ((G 2 3) - 1)), (zSH, G)) :=
  (zd_aload_n a_T_account_80 rfl).trans ((zd_getR (h := (zSH, G)) (ci := 7) (fi := 1) (a := 2) a_T_account_81 (by decide +kernel) sh_0 rfl rfl).trans ((zd_getI (h := (zSH, G)) (ci := 2) (fi := 3) a_T_account_84 (by decide +kernel) sh_2 rfl).trans ((zd_iconst (v := 1) a_T_account_87 (by decide)).trans ((zd_num (st2 := [.int ((G 2 3) - 1)]) a_T_account_88 rfl rfl rfl rfl).trans (zd_iret a_T_account_89 rfl (znr_int _))))))
theorem B_T_account_90 {G : Nat → Nat → Int32} {x1 : Int32} : zden 98 90 [.ref 0, .int x1] [] (zSH, G) = some (some (.int (G 2 4)), (zSH, G)) :=
  (zd_aload_n a_T_account_90 rfl).trans ((zd_getR (h := (zSH, G)) (ci := 7) (fi := 1) (a := 2) a_T_account_91 (by decide +kernel) sh_0 rfl rfl).trans ((zd_getI (h := (zSH, G)) (ci := 2) (fi := 4) a_T_account_94 (by decide +kernel) sh_2 rfl).trans (zd_iret a_T_account_97 rfl (znr_int _))))
theorem B_T_account_98 {G : Nat → Nat → Int32} {x1 : Int32} : zden 98 98 [.ref 0, .int x1] [] (zSH, G) = zaft 98 106 [.ref 0, .int x1] [] (zSH, G) (zden 34 0 [.ref 2, .int 0, .retAddr 0, .retAddr 0] [] (zSH, G)) :=
  (zd_aload_n a_T_account_98 rfl).trans ((zd_getR (h := (zSH, G)) (ci := 7) (fi := 1) (a := 2) a_T_account_99 (by decide +kernel) sh_0 rfl rfl).trans ((zd_iconst (v := 0) a_T_account_102 (by decide)).trans ((zd_cal (kd := 0) (tg := 34) (T := m_Ho_countGoodsThatAre) a_T_account_103 (by decide +kernel) hm_Ho_countGoodsThatAre rfl rfl rfl rfl))))
theorem B_T_account_106 {G : Nat → Nat → Int32} {x1 s0 : Int32} : zden 98 106 [.ref 0, .int x1] [.int s0] (zSH, G) = some (some (.int s0), (zSH, G)) :=
  zd_iret a_T_account_106 rfl (znr_int _)
theorem B_T_account_107 {G : Nat → Nat → Int32} {x1 : Int32} : zden 98 107 [.ref 0, .int x1] [] (zSH, G) = zaft 98 115 [.ref 0, .int x1] [] (zSH, G) (zden 34 0 [.ref 2, .int 1, .retAddr 0, .retAddr 0] [] (zSH, G)) :=
  (zd_aload_n a_T_account_107 rfl).trans ((zd_getR (h := (zSH, G)) (ci := 7) (fi := 1) (a := 2) a_T_account_108 (by decide +kernel) sh_0 rfl rfl).trans ((zd_iconst (v := 1) a_T_account_111 (by decide)).trans ((zd_cal (kd := 0) (tg := 34) (T := m_Ho_countGoodsThatAre) a_T_account_112 (by decide +kernel) hm_Ho_countGoodsThatAre rfl rfl rfl rfl))))
theorem B_T_account_115 {G : Nat → Nat → Int32} {x1 s0 : Int32} : zden 98 115 [.ref 0, .int x1] [.int s0] (zSH, G) = some (some (.int s0), (zSH, G)) :=
  zd_iret a_T_account_115 rfl (znr_int _)
theorem B_T_account_116 {G : Nat → Nat → Int32} {x1 : Int32} : zden 98 116 [.ref 0, .int x1] [] (zSH, G) = zaft 98 124 [.ref 0, .int x1] [] (zSH, G) (zden 34 0 [.ref 2, .int 2, .retAddr 0, .retAddr 0] [] (zSH, G)) :=
  (zd_aload_n a_T_account_116 rfl).trans ((zd_getR (h := (zSH, G)) (ci := 7) (fi := 1) (a := 2) a_T_account_117 (by decide +kernel) sh_0 rfl rfl).trans ((zd_iconst (v := 2) a_T_account_120 (by decide)).trans ((zd_cal (kd := 0) (tg := 34) (T := m_Ho_countGoodsThatAre) a_T_account_121 (by decide +kernel) hm_Ho_countGoodsThatAre rfl rfl rfl rfl))))
theorem B_T_account_124 {G : Nat → Nat → Int32} {x1 s0 : Int32} : zden 98 124 [.ref 0, .int x1] [.int s0] (zSH, G) = some (some (.int s0), (zSH, G)) :=
  zd_iret a_T_account_124 rfl (znr_int _)
theorem B_T_account_125 {G : Nat → Nat → Int32} {x1 : Int32} : zden 98 125 [.ref 0, .int x1] [] (zSH, G) = some (some (.int (G 2 6)), (zSH, G)) :=
  (zd_aload_n a_T_account_125 rfl).trans ((zd_getR (h := (zSH, G)) (ci := 7) (fi := 1) (a := 2) a_T_account_126 (by decide +kernel) sh_0 rfl rfl).trans ((zd_getI (h := (zSH, G)) (ci := 2) (fi := 6) a_T_account_129 (by decide +kernel) sh_2 rfl).trans (zd_iret a_T_account_132 rfl (znr_int _))))
theorem B_T_account_133 {G : Nat → Nat → Int32} {x1 : Int32} : zden 98 133 [.ref 0, .int x1] [] (zSH, G) = some (some (.int (G 2 7)), (zSH, G)) :=
  (zd_aload_n a_T_account_133 rfl).trans ((zd_getR (h := (zSH, G)) (ci := 7) (fi := 1) (a := 2) a_T_account_134 (by decide +kernel) sh_0 rfl rfl).trans ((zd_getI (h := (zSH, G)) (ci := 2) (fi := 7) a_T_account_137 (by decide +kernel) sh_2 rfl).trans (zd_iret a_T_account_140 rfl (znr_int _))))
theorem B_T_account_141 {G : Nat → Nat → Int32} {x1 : Int32} : zden 98 141 [.ref 0, .int x1] [] (zSH, G) = some (some (.int (G 2 8)), (zSH, G)) :=
  (zd_aload_n a_T_account_141 rfl).trans ((zd_getR (h := (zSH, G)) (ci := 7) (fi := 1) (a := 2) a_T_account_142 (by decide +kernel) sh_0 rfl rfl).trans ((zd_getI (h := (zSH, G)) (ci := 2) (fi := 8) a_T_account_145 (by decide +kernel) sh_2 rfl).trans (zd_iret a_T_account_148 rfl (znr_int _))))
theorem B_T_account_149 {G : Nat → Nat → Int32} {x1 : Int32} : zden 98 149 [.ref 0, .int x1] [] (zSH, G) = some (some (.int (G 2 9)), (zSH, G)) :=
  (zd_aload_n a_T_account_149 rfl).trans ((zd_getR (h := (zSH, G)) (ci := 7) (fi := 1) (a := 2) a_T_account_150 (by decide +kernel) sh_0 rfl rfl).trans ((zd_getI (h := (zSH, G)) (ci := 2) (fi := 9) a_T_account_153 (by decide +kernel) sh_2 rfl).trans (zd_iret a_T_account_156 rfl (znr_int _))))
theorem B_T_account_157 {G : Nat → Nat → Int32} {x1 : Int32} : zden 98 157 [.ref 0, .int x1] [] (zSH, G) = some (some (.int (G 2 10)), (zSH, G)) :=
  (zd_aload_n a_T_account_157 rfl).trans ((zd_getR (h := (zSH, G)) (ci := 7) (fi := 1) (a := 2) a_T_account_158 (by decide +kernel) sh_0 rfl rfl).trans ((zd_getI (h := (zSH, G)) (ci := 2) (fi := 10) a_T_account_161 (by decide +kernel) sh_2 rfl).trans (zd_iret a_T_account_164 rfl (znr_int _))))
theorem B_T_account_165 {G : Nat → Nat → Int32} {x1 : Int32} : zden 98 165 [.ref 0, .int x1] [] (zSH, G) = zaft 98 172 [.ref 0, .int x1] [] (zSH, G) (zden 35 0 [.ref 2, .retAddr 0, .retAddr 0] [] (zSH, G)) :=
  (zd_aload_n a_T_account_165 rfl).trans ((zd_getR (h := (zSH, G)) (ci := 7) (fi := 1) (a := 2) a_T_account_166 (by decide +kernel) sh_0 rfl rfl).trans ((zd_cal (kd := 0) (tg := 35) (T := m_Ho_favouredSet) a_T_account_169 (by decide +kernel) hm_Ho_favouredSet rfl rfl rfl rfl)))
theorem B_T_account_172 {G : Nat → Nat → Int32} {x1 s0 : Int32} : zden 98 172 [.ref 0, .int x1] [.int s0] (zSH, G) = some (some (.int s0), (zSH, G)) :=
  zd_iret a_T_account_172 rfl (znr_int _)
theorem B_T_account_173 {G : Nat → Nat → Int32} {x1 : Int32} : zden 98 173 [.ref 0, .int x1] [] (zSH, G) = some (some (.int (G 84 1)), (zSH, G)) :=
  (zd_aload_n a_T_account_173 rfl).trans ((zd_getR (h := (zSH, G)) (ci := 7) (fi := 4) (a := 84) a_T_account_174 (by decide +kernel) sh_0 rfl rfl).trans ((zd_getI (h := (zSH, G)) (ci := 6) (fi := 1) a_T_account_177 (by decide +kernel) sh_84 rfl).trans (zd_iret a_T_account_180 rfl (znr_int _))))
theorem B_T_account_181 {G : Nat → Nat → Int32} {x1 : Int32} : zden 98 181 [.ref 0, .int x1] [] (zSH, G) = some (some (.int (G 9 4)), (zSH, G)) :=
  (zd_aload_n a_T_account_181 rfl).trans ((zd_getR (h := (zSH, G)) (ci := 7) (fi := 2) (a := 9) a_T_account_182 (by decide +kernel) sh_0 rfl rfl).trans ((zd_getI (h := (zSH, G)) (ci := 1) (fi := 4) a_T_account_185 (by decide +kernel) sh_9 rfl).trans (zd_iret a_T_account_188 rfl (znr_int _))))
theorem a_T_isBalanced_0 : zAt 99 0 m_T_isBalanced (.aload_n 0) 1 := ⟨hm_T_isBalanced, by decide +kernel⟩
theorem a_T_isBalanced_1 : zAt 99 1 m_T_isBalanced (.getfield 20) 3 := ⟨hm_T_isBalanced, by decide +kernel⟩
theorem a_T_isBalanced_4 : zAt 99 4 m_T_isBalanced (.invokevirtual 216) 3 := ⟨hm_T_isBalanced, by decide +kernel⟩
theorem a_T_isBalanced_7 : zAt 99 7 m_T_isBalanced (.ifCond .eq 17) 3 := ⟨hm_T_isBalanced, by decide +kernel⟩
theorem a_T_isBalanced_10 : zAt 99 10 m_T_isBalanced (.aload_n 0) 1 := ⟨hm_T_isBalanced, by decide +kernel⟩
theorem a_T_isBalanced_11 : zAt 99 11 m_T_isBalanced (.getfield 20) 3 := ⟨hm_T_isBalanced, by decide +kernel⟩
theorem a_T_isBalanced_14 : zAt 99 14 m_T_isBalanced (.invokevirtual 220) 3 := ⟨hm_T_isBalanced, by decide +kernel⟩
theorem a_T_isBalanced_17 : zAt 99 17 m_T_isBalanced (.ifCond .eq 7) 3 := ⟨hm_T_isBalanced, by decide +kernel⟩
theorem a_T_isBalanced_20 : zAt 99 20 m_T_isBalanced (.iconst 1) 1 := ⟨hm_T_isBalanced, by decide +kernel⟩
theorem a_T_isBalanced_21 : zAt 99 21 m_T_isBalanced (.goto 4) 3 := ⟨hm_T_isBalanced, by decide +kernel⟩
theorem a_T_isBalanced_24 : zAt 99 24 m_T_isBalanced (.iconst 0) 1 := ⟨hm_T_isBalanced, by decide +kernel⟩
theorem a_T_isBalanced_25 : zAt 99 25 m_T_isBalanced (.ireturn) 1 := ⟨hm_T_isBalanced, by decide +kernel⟩
theorem B_T_isBalanced_0 {G : Nat → Nat → Int32} : zden 99 0 [.ref 0] [] (zSH, G) = zaft 99 7 [.ref 0] [] (zSH, G) (zden 36 0 [.ref 2, .retAddr 0, .retAddr 0, .retAddr 0] [] (zSH, G)) :=
  (zd_aload_n a_T_isBalanced_0 rfl).trans ((zd_getR (h := (zSH, G)) (ci := 7) (fi := 1) (a := 2) a_T_isBalanced_1 (by decide +kernel) sh_0 rfl rfl).trans ((zd_cal (kd := 0) (tg := 36) (T := m_Ho_areCoinsRight) a_T_isBalanced_4 (by decide +kernel) hm_Ho_areCoinsRight rfl rfl rfl rfl)))
theorem B_T_isBalanced_7 {G : Nat → Nat → Int32} {s0 : Int32} : zden 99 7 [.ref 0] [.int s0] (zSH, G) = if s0 = 0 then some (some (.int 0), (zSH, G)) else zaft 99 17 [.ref 0] [] (zSH, G) (zden 37 0 [.ref 2, .retAddr 0] [] (zSH, G)) :=
  (zd_if_eq a_T_isBalanced_7 rfl).trans (zitc (fun p4 => (zd_iconst (v := 0) a_T_isBalanced_24 (by decide)).trans (zd_iret a_T_isBalanced_25 rfl (znr_int _))) (fun p4 => (zd_aload_n a_T_isBalanced_10 rfl).trans ((zd_getR (h := (zSH, G)) (ci := 7) (fi := 1) (a := 2) a_T_isBalanced_11 (by decide +kernel) sh_0 rfl rfl).trans ((zd_cal (kd := 0) (tg := 37) (T := m_Ho_areHeadingsRight) a_T_isBalanced_14 (by decide +kernel) hm_Ho_areHeadingsRight rfl rfl rfl rfl)))))
theorem B_T_isBalanced_17 {G : Nat → Nat → Int32} {s0 : Int32} : zden 99 17 [.ref 0] [.int s0] (zSH, G) = if s0 = 0 then some (some (.int 0), (zSH, G)) else some (some (.int 1), (zSH, G)) :=
  (zd_if_eq a_T_isBalanced_17 rfl).trans (zitc (fun p5 => (zd_iconst (v := 0) a_T_isBalanced_24 (by decide)).trans (zd_iret a_T_isBalanced_25 rfl (znr_int _))) (fun p5 => (zd_iconst (v := 1) a_T_isBalanced_20 (by decide)).trans ((zd_goto a_T_isBalanced_21 rfl).trans (zd_iret a_T_isBalanced_25 rfl (znr_int _)))))
theorem a_T_undo_0 : zAt 102 0 m_T_undo (.aload_n 0) 1 := ⟨hm_T_undo, by decide +kernel⟩
theorem a_T_undo_1 : zAt 102 1 m_T_undo (.getfield 24) 3 := ⟨hm_T_undo, by decide +kernel⟩
theorem a_T_undo_4 : zAt 102 4 m_T_undo (.aload_n 0) 1 := ⟨hm_T_undo, by decide +kernel⟩
theorem a_T_undo_5 : zAt 102 5 m_T_undo (.getfield 20) 3 := ⟨hm_T_undo, by decide +kernel⟩
theorem a_T_undo_8 : zAt 102 8 m_T_undo (.invokevirtual 223) 3 := ⟨hm_T_undo, by decide +kernel⟩
theorem a_T_undo_11 : zAt 102 11 m_T_undo (.ireturn) 1 := ⟨hm_T_undo, by decide +kernel⟩
theorem B_T_undo_0 {G : Nat → Nat → Int32} : zden 102 0 [.ref 0] [] (zSH, G) = zaft 102 11 [.ref 0] [] (zSH, G) (zden 17 0 [.ref 9, .ref 2] [] (zSH, G)) :=
  (zd_aload_n a_T_undo_0 rfl).trans ((zd_getR (h := (zSH, G)) (ci := 7) (fi := 2) (a := 9) a_T_undo_1 (by decide +kernel) sh_0 rfl rfl).trans ((zd_aload_n a_T_undo_4 rfl).trans ((zd_getR (h := (zSH, G)) (ci := 7) (fi := 1) (a := 2) a_T_undo_5 (by decide +kernel) sh_0 rfl rfl).trans ((zd_cal (kd := 0) (tg := 17) (T := m_Hi_stepBack) a_T_undo_8 (by decide +kernel) hm_Hi_stepBack rfl rfl rfl rfl)))))
theorem B_T_undo_11 {G : Nat → Nat → Int32} {s0 : Int32} : zden 102 11 [.ref 0] [.int s0] (zSH, G) = some (some (.int s0), (zSH, G)) :=
  zd_iret a_T_undo_11 rfl (znr_int _)
theorem a_T_save_0 : zAt 103 0 m_T_save (.aload_n 0) 1 := ⟨hm_T_save, by decide +kernel⟩
theorem a_T_save_1 : zAt 103 1 m_T_save (.getfield 24) 3 := ⟨hm_T_save, by decide +kernel⟩
theorem a_T_save_4 : zAt 103 4 m_T_save (.aload_n 0) 1 := ⟨hm_T_save, by decide +kernel⟩
theorem a_T_save_5 : zAt 103 5 m_T_save (.getfield 20) 3 := ⟨hm_T_save, by decide +kernel⟩
theorem a_T_save_8 : zAt 103 8 m_T_save (.invokevirtual 227) 3 := ⟨hm_T_save, by decide +kernel⟩
theorem a_T_save_11 : zAt 103 11 m_T_save (.aload_n 0) 1 := ⟨hm_T_save, by decide +kernel⟩
theorem a_T_save_12 : zAt 103 12 m_T_save (.getfield 20) 3 := ⟨hm_T_save, by decide +kernel⟩
theorem a_T_save_15 : zAt 103 15 m_T_save (.getfield 186) 3 := ⟨hm_T_save, by decide +kernel⟩
theorem a_T_save_18 : zAt 103 18 m_T_save (.ireturn) 1 := ⟨hm_T_save, by decide +kernel⟩
theorem B_T_save_0 {G : Nat → Nat → Int32} : zden 103 0 [.ref 0] [] (zSH, G) = zaft 103 11 [.ref 0] [] (zSH, G) (zden 18 0 [.ref 9, .ref 2] [] (zSH, G)) :=
  (zd_aload_n a_T_save_0 rfl).trans ((zd_getR (h := (zSH, G)) (ci := 7) (fi := 2) (a := 9) a_T_save_1 (by decide +kernel) sh_0 rfl rfl).trans ((zd_aload_n a_T_save_4 rfl).trans ((zd_getR (h := (zSH, G)) (ci := 7) (fi := 1) (a := 2) a_T_save_5 (by decide +kernel) sh_0 rfl rfl).trans ((zd_cal (kd := 0) (tg := 18) (T := m_Hi_saveFrom) a_T_save_8 (by decide +kernel) hm_Hi_saveFrom rfl rfl rfl rfl)))))
theorem B_T_save_11 {G : Nat → Nat → Int32} : zden 103 11 [.ref 0] [] (zSH, G) = some (some (.int (G 2 5)), (zSH, G)) :=
  (zd_aload_n a_T_save_11 rfl).trans ((zd_getR (h := (zSH, G)) (ci := 7) (fi := 1) (a := 2) a_T_save_12 (by decide +kernel) sh_0 rfl rfl).trans ((zd_getI (h := (zSH, G)) (ci := 2) (fi := 5) a_T_save_15 (by decide +kernel) sh_2 rfl).trans (zd_iret a_T_save_18 rfl (znr_int _))))
theorem a_T_restore_0 : zAt 104 0 m_T_restore (.aload_n 0) 1 := ⟨hm_T_restore, by decide +kernel⟩
theorem a_T_restore_1 : zAt 104 1 m_T_restore (.getfield 24) 3 := ⟨hm_T_restore, by decide +kernel⟩
theorem a_T_restore_4 : zAt 104 4 m_T_restore (.aload_n 0) 1 := ⟨hm_T_restore, by decide +kernel⟩
theorem a_T_restore_5 : zAt 104 5 m_T_restore (.getfield 20) 3 := ⟨hm_T_restore, by decide +kernel⟩
theorem a_T_restore_8 : zAt 104 8 m_T_restore (.invokevirtual 230) 3 := ⟨hm_T_restore, by decide +kernel⟩
theorem a_T_restore_11 : zAt 104 11 m_T_restore (.ifCond .eq 13) 3 := ⟨hm_T_restore, by decide +kernel⟩
theorem a_T_restore_14 : zAt 104 14 m_T_restore (.aload_n 0) 1 := ⟨hm_T_restore, by decide +kernel⟩
theorem a_T_restore_15 : zAt 104 15 m_T_restore (.getfield 20) 3 := ⟨hm_T_restore, by decide +kernel⟩
theorem a_T_restore_18 : zAt 104 18 m_T_restore (.getfield 186) 3 := ⟨hm_T_restore, by decide +kernel⟩
theorem a_T_restore_21 : zAt 104 21 m_T_restore (.goto 5) 3 := ⟨hm_T_restore, by decide +kernel⟩
theorem a_T_restore_24 : zAt 104 24 m_T_restore (.bipush (-15)) 2 := ⟨hm_T_restore, by decide +kernel⟩
theorem a_T_restore_26 : zAt 104 26 m_T_restore (.ireturn) 1 := ⟨hm_T_restore, by decide +kernel⟩
theorem B_T_restore_0 {G : Nat → Nat → Int32} : zden 104 0 [.ref 0] [] (zSH, G) = zaft 104 11 [.ref 0] [] (zSH, G) (zden 19 0 [.ref 9, .ref 2] [] (zSH, G)) :=
  (zd_aload_n a_T_restore_0 rfl).trans ((zd_getR (h := (zSH, G)) (ci := 7) (fi := 2) (a := 9) a_T_restore_1 (by decide +kernel) sh_0 rfl rfl).trans ((zd_aload_n a_T_restore_4 rfl).trans ((zd_getR (h := (zSH, G)) (ci := 7) (fi := 1) (a := 2) a_T_restore_5 (by decide +kernel) sh_0 rfl rfl).trans ((zd_cal (kd := 0) (tg := 19) (T := m_Hi_restoreTo) a_T_restore_8 (by decide +kernel) hm_Hi_restoreTo rfl rfl rfl rfl)))))
theorem B_T_restore_11 {G : Nat → Nat → Int32} {s0 : Int32} : zden 104 11 [.ref 0] [.int s0] (zSH, G) = if s0 = 0 then some (some (.int (-15)), (zSH, G)) else some (some (.int (G 2 5)), (zSH, G)) :=
  (zd_if_eq a_T_restore_11 rfl).trans (zitc (fun p2 => (zd_bipush (v := (-15)) a_T_restore_24 (by decide)).trans (zd_iret a_T_restore_26 rfl (znr_int _))) (fun p2 => (zd_aload_n a_T_restore_14 rfl).trans ((zd_getR (h := (zSH, G)) (ci := 7) (fi := 1) (a := 2) a_T_restore_15 (by decide +kernel) sh_0 rfl rfl).trans ((zd_getI (h := (zSH, G)) (ci := 2) (fi := 5) a_T_restore_18 (by decide +kernel) sh_2 rfl).trans ((zd_goto a_T_restore_21 rfl).trans (zd_iret a_T_restore_26 rfl (znr_int _)))))))
theorem a_Te_empty_0 : zAt 68 0 m_Te_empty (.aload_n 0) 1 := ⟨hm_Te_empty, by decide +kernel⟩
theorem a_Te_empty_1 : zAt 68 1 m_Te_empty (.iconst 0) 1 := ⟨hm_Te_empty, by decide +kernel⟩
theorem a_Te_empty_2 : zAt 68 2 m_Te_empty (.putfield 28) 3 := ⟨hm_Te_empty, by decide +kernel⟩
theorem a_Te_empty_5 : zAt 68 5 m_Te_empty (.return_) 1 := ⟨hm_Te_empty, by decide +kernel⟩
theorem B_Te_empty_0 {G : Nat → Nat → Int32} : zden 68 0 [.ref 84] [] (zSH, G) = some (none, (zSH, (zup G 84 1 0))) :=
  (zd_aload_n a_Te_empty_0 rfl).trans ((zd_iconst (v := 0) a_Te_empty_1 (by decide)).trans ((zd_putI (h := (zSH, G)) (ci := 6) (fi := 1) a_Te_empty_2 (by decide +kernel) sh_84 rfl rfl).trans (zd_vret a_Te_empty_5 rfl)))
theorem a_Te_signAt_0 : zAt 62 0 m_Te_signAt (.iload_n 1) 1 := ⟨hm_Te_signAt, by decide +kernel⟩
theorem a_Te_signAt_1 : zAt 62 1 m_Te_signAt (.ifCond .lt 29) 3 := ⟨hm_Te_signAt, by decide +kernel⟩
theorem a_Te_signAt_4 : zAt 62 4 m_Te_signAt (.iload_n 1) 1 := ⟨hm_Te_signAt, by decide +kernel⟩
theorem a_Te_signAt_5 : zAt 62 5 m_Te_signAt (.aload_n 0) 1 := ⟨hm_Te_signAt, by decide +kernel⟩
theorem a_Te_signAt_6 : zAt 62 6 m_Te_signAt (.getfield 28) 3 := ⟨hm_Te_signAt, by decide +kernel⟩
theorem a_Te_signAt_9 : zAt 62 9 m_Te_signAt (.if_icmp .ge 21) 3 := ⟨hm_Te_signAt, by decide +kernel⟩
theorem a_Te_signAt_12 : zAt 62 12 m_Te_signAt (.iload_n 1) 1 := ⟨hm_Te_signAt, by decide +kernel⟩
theorem a_Te_signAt_13 : zAt 62 13 m_Te_signAt (.aload_n 0) 1 := ⟨hm_Te_signAt, by decide +kernel⟩
theorem a_Te_signAt_14 : zAt 62 14 m_Te_signAt (.getfield 20) 3 := ⟨hm_Te_signAt, by decide +kernel⟩
theorem a_Te_signAt_17 : zAt 62 17 m_Te_signAt (.arraylength) 1 := ⟨hm_Te_signAt, by decide +kernel⟩
theorem a_Te_signAt_18 : zAt 62 18 m_Te_signAt (.if_icmp .ge 12) 3 := ⟨hm_Te_signAt, by decide +kernel⟩
theorem a_Te_signAt_21 : zAt 62 21 m_Te_signAt (.aload_n 0) 1 := ⟨hm_Te_signAt, by decide +kernel⟩
theorem a_Te_signAt_22 : zAt 62 22 m_Te_signAt (.getfield 20) 3 := ⟨hm_Te_signAt, by decide +kernel⟩
theorem a_Te_signAt_25 : zAt 62 25 m_Te_signAt (.iload_n 1) 1 := ⟨hm_Te_signAt, by decide +kernel⟩
theorem a_Te_signAt_26 : zAt 62 26 m_Te_signAt (.caload) 1 := ⟨hm_Te_signAt, by decide +kernel⟩
theorem a_Te_signAt_27 : zAt 62 27 m_Te_signAt (.goto 4) 3 := ⟨hm_Te_signAt, by decide +kernel⟩
theorem a_Te_signAt_30 : zAt 62 30 m_Te_signAt (.iconst 0) 1 := ⟨hm_Te_signAt, by decide +kernel⟩
theorem a_Te_signAt_31 : zAt 62 31 m_Te_signAt (.ireturn) 1 := ⟨hm_Te_signAt, by decide +kernel⟩
theorem B_Te_signAt_0 {G : Nat → Nat → Int32} {x1 : Int32} (z26_0 : (¬ (x1 < 0)) → (¬ ((G 84 1) ≤ x1)) → (¬ (60 ≤ x1)) → zin x1 60 = true) (n31 : znr .char (G 87 x1.toNatClampNeg) = true) : zden 62 0 [.ref 84, .int x1] [] (zSH, G) = if x1 < 0 then some (some (.int 0), (zSH, G)) else if (G 84 1) ≤ x1 then some (some (.int 0), (zSH, G)) else if 60 ≤ x1 then some (some (.int 0), (zSH, G)) else some (some (.int (G 87 x1.toNatClampNeg)), (zSH, G)) :=
  (zd_iload_n a_Te_signAt_0 rfl).trans ((zd_if_lt a_Te_signAt_1 rfl).trans (zitc (fun p4 => (zd_iconst (v := 0) a_Te_signAt_30 (by decide)).trans (zd_iret a_Te_signAt_31 rfl (by decide))) (fun p4 => (zd_iload_n a_Te_signAt_4 rfl).trans ((zd_aload_n a_Te_signAt_5 rfl).trans ((zd_getI (h := (zSH, G)) (ci := 6) (fi := 1) a_Te_signAt_6 (by decide +kernel) sh_84 rfl).trans ((zd_icmp_ge a_Te_signAt_9 rfl).trans (zitc (fun p5 => (zd_iconst (v := 0) a_Te_signAt_30 (by decide)).trans (zd_iret a_Te_signAt_31 rfl (by decide))) (fun p5 => (zd_iload_n a_Te_signAt_12 rfl).trans ((zd_aload_n a_Te_signAt_13 rfl).trans ((zd_getR (h := (zSH, G)) (ci := 6) (fi := 2) (a := 87) a_Te_signAt_14 (by decide +kernel) sh_84 rfl rfl).trans ((zd_alen (h := (zSH, G)) (v := 60) a_Te_signAt_17 sh_87 rfl (by decide)).trans ((zd_icmp_ge a_Te_signAt_18 rfl).trans (zitc (fun p6 => (zd_iconst (v := 0) a_Te_signAt_30 (by decide)).trans (zd_iret a_Te_signAt_31 rfl (by decide))) (fun p6 => (zd_aload_n a_Te_signAt_21 rfl).trans ((zd_getR (h := (zSH, G)) (ci := 6) (fi := 2) (a := 87) a_Te_signAt_22 (by decide +kernel) sh_84 rfl rfl).trans ((zd_iload_n a_Te_signAt_25 rfl).trans ((zd_cald (h := (zSH, G)) a_Te_signAt_26 sh_87).trans ((if_pos (z26_0 p4 p5 p6)).trans ((zd_goto a_Te_signAt_27 rfl).trans (zd_iret a_Te_signAt_31 rfl n31))))))))))))))))))))
theorem a_Te_readSign_0 : zAt 64 0 m_Te_readSign (.aload_n 0) 1 := ⟨hm_Te_readSign, by decide +kernel⟩
theorem a_Te_readSign_1 : zAt 64 1 m_Te_readSign (.getfield 35) 3 := ⟨hm_Te_readSign, by decide +kernel⟩
theorem a_Te_readSign_4 : zAt 64 4 m_Te_readSign (.ifCond .eq 4) 3 := ⟨hm_Te_readSign, by decide +kernel⟩
theorem a_Te_readSign_7 : zAt 64 7 m_Te_readSign (.return_) 1 := ⟨hm_Te_readSign, by decide +kernel⟩
theorem a_Te_readSign_8 : zAt 64 8 m_Te_readSign (.aload_n 0) 1 := ⟨hm_Te_readSign, by decide +kernel⟩
theorem a_Te_readSign_9 : zAt 64 9 m_Te_readSign (.aload_n 0) 1 := ⟨hm_Te_readSign, by decide +kernel⟩
theorem a_Te_readSign_10 : zAt 64 10 m_Te_readSign (.getfield 32) 3 := ⟨hm_Te_readSign, by decide +kernel⟩
theorem a_Te_readSign_13 : zAt 64 13 m_Te_readSign (.invokevirtual 84) 3 := ⟨hm_Te_readSign, by decide +kernel⟩
theorem a_Te_readSign_16 : zAt 64 16 m_Te_readSign (.iload_n 1) 1 := ⟨hm_Te_readSign, by decide +kernel⟩
theorem a_Te_readSign_17 : zAt 64 17 m_Te_readSign (.if_icmp .ne 16) 3 := ⟨hm_Te_readSign, by decide +kernel⟩
theorem a_Te_readSign_20 : zAt 64 20 m_Te_readSign (.aload_n 0) 1 := ⟨hm_Te_readSign, by decide +kernel⟩
theorem a_Te_readSign_21 : zAt 64 21 m_Te_readSign (.dup) 1 := ⟨hm_Te_readSign, by decide +kernel⟩
theorem a_Te_readSign_22 : zAt 64 22 m_Te_readSign (.getfield 32) 3 := ⟨hm_Te_readSign, by decide +kernel⟩
theorem a_Te_readSign_25 : zAt 64 25 m_Te_readSign (.iconst 1) 1 := ⟨hm_Te_readSign, by decide +kernel⟩
theorem a_Te_readSign_26 : zAt 64 26 m_Te_readSign (.iadd) 1 := ⟨hm_Te_readSign, by decide +kernel⟩
theorem a_Te_readSign_27 : zAt 64 27 m_Te_readSign (.putfield 32) 3 := ⟨hm_Te_readSign, by decide +kernel⟩
theorem a_Te_readSign_30 : zAt 64 30 m_Te_readSign (.goto 8) 3 := ⟨hm_Te_readSign, by decide +kernel⟩
theorem a_Te_readSign_33 : zAt 64 33 m_Te_readSign (.aload_n 0) 1 := ⟨hm_Te_readSign, by decide +kernel⟩
theorem a_Te_readSign_34 : zAt 64 34 m_Te_readSign (.iconst 1) 1 := ⟨hm_Te_readSign, by decide +kernel⟩
theorem a_Te_readSign_35 : zAt 64 35 m_Te_readSign (.putfield 35) 3 := ⟨hm_Te_readSign, by decide +kernel⟩
theorem a_Te_readSign_38 : zAt 64 38 m_Te_readSign (.return_) 1 := ⟨hm_Te_readSign, by decide +kernel⟩
theorem B_Te_readSign_0 {G : Nat → Nat → Int32} {x1 : Int32} : zden 64 0 [.ref 84, .int x1] [] (zSH, G) = if (G 84 4) = 0 then zaft 64 16 [.ref 84, .int x1] [] (zSH, G) (zden 62 0 [.ref 84, .int (G 84 3)] [] (zSH, G)) else some (none, (zSH, G)) :=
  (zd_aload_n a_Te_readSign_0 rfl).trans ((zd_getI (h := (zSH, G)) (ci := 6) (fi := 4) a_Te_readSign_1 (by decide +kernel) sh_84 rfl).trans ((zd_if_eq a_Te_readSign_4 rfl).trans (zitc (fun p4 => (zd_aload_n a_Te_readSign_8 rfl).trans ((zd_aload_n a_Te_readSign_9 rfl).trans ((zd_getI (h := (zSH, G)) (ci := 6) (fi := 3) a_Te_readSign_10 (by decide +kernel) sh_84 rfl).trans ((zd_cal (kd := 0) (tg := 62) (T := m_Te_signAt) a_Te_readSign_13 (by decide +kernel) hm_Te_signAt rfl rfl rfl rfl))))) (fun p4 => zd_vret a_Te_readSign_7 rfl))))
theorem B_Te_readSign_16 {G : Nat → Nat → Int32} {x1 s0 : Int32} : zden 64 16 [.ref 84, .int x1] [.int s0] (zSH, G) = if ¬ s0 = x1 then some (none, (zSH, (zup G 84 4 1))) else some (none, (zSH, (zup G 84 3 ((G 84 3) + 1)))) :=
  (zd_iload_n a_Te_readSign_16 rfl).trans ((zd_icmp_ne a_Te_readSign_17 rfl).trans (zitc (fun p5 => (zd_aload_n a_Te_readSign_33 rfl).trans ((zd_iconst (v := 1) a_Te_readSign_34 (by decide)).trans ((zd_putI (h := (zSH, G)) (ci := 6) (fi := 4) a_Te_readSign_35 (by decide +kernel) sh_84 rfl rfl).trans (zd_vret a_Te_readSign_38 rfl)))) (fun p5 => (zd_aload_n a_Te_readSign_20 rfl).trans ((zd_num (st2 := [.ref 84, .ref 84]) a_Te_readSign_21 rfl rfl rfl rfl).trans ((zd_getI (h := (zSH, G)) (ci := 6) (fi := 3) a_Te_readSign_22 (by decide +kernel) sh_84 rfl).trans ((zd_iconst (v := 1) a_Te_readSign_25 (by decide)).trans ((zd_num (st2 := [.int ((G 84 3) + 1), .ref 84]) a_Te_readSign_26 rfl rfl rfl rfl).trans ((zd_putI (h := (zSH, G)) (ci := 6) (fi := 3) a_Te_readSign_27 (by decide +kernel) sh_84 rfl rfl).trans ((zd_goto a_Te_readSign_30 rfl).trans (zd_vret a_Te_readSign_38 rfl))))))))))
theorem a_Te_readDigits_0 : zAt 67 0 m_Te_readDigits (.iconst 0) 1 := ⟨hm_Te_readDigits, by decide +kernel⟩
theorem a_Te_readDigits_1 : zAt 67 1 m_Te_readDigits (.istore_n 2) 1 := ⟨hm_Te_readDigits, by decide +kernel⟩
theorem a_Te_readDigits_2 : zAt 67 2 m_Te_readDigits (.iconst 0) 1 := ⟨hm_Te_readDigits, by decide +kernel⟩
theorem a_Te_readDigits_3 : zAt 67 3 m_Te_readDigits (.istore_n 3) 1 := ⟨hm_Te_readDigits, by decide +kernel⟩
theorem a_Te_readDigits_4 : zAt 67 4 m_Te_readDigits (.iload_n 3) 1 := ⟨hm_Te_readDigits, by decide +kernel⟩
theorem a_Te_readDigits_5 : zAt 67 5 m_Te_readDigits (.iload_n 1) 1 := ⟨hm_Te_readDigits, by decide +kernel⟩
theorem a_Te_readDigits_6 : zAt 67 6 m_Te_readDigits (.if_icmp .ge 69) 3 := ⟨hm_Te_readDigits, by decide +kernel⟩
theorem a_Te_readDigits_9 : zAt 67 9 m_Te_readDigits (.aload_n 0) 1 := ⟨hm_Te_readDigits, by decide +kernel⟩
theorem a_Te_readDigits_10 : zAt 67 10 m_Te_readDigits (.aload_n 0) 1 := ⟨hm_Te_readDigits, by decide +kernel⟩
theorem a_Te_readDigits_11 : zAt 67 11 m_Te_readDigits (.getfield 32) 3 := ⟨hm_Te_readDigits, by decide +kernel⟩
theorem a_Te_readDigits_14 : zAt 67 14 m_Te_readDigits (.invokevirtual 84) 3 := ⟨hm_Te_readDigits, by decide +kernel⟩
theorem a_Te_readDigits_17 : zAt 67 17 m_Te_readDigits (.istore 4) 2 := ⟨hm_Te_readDigits, by decide +kernel⟩
theorem a_Te_readDigits_19 : zAt 67 19 m_Te_readDigits (.iload 4) 2 := ⟨hm_Te_readDigits, by decide +kernel⟩
theorem a_Te_readDigits_21 : zAt 67 21 m_Te_readDigits (.bipush 48) 2 := ⟨hm_Te_readDigits, by decide +kernel⟩
theorem a_Te_readDigits_23 : zAt 67 23 m_Te_readDigits (.if_icmp .lt 10) 3 := ⟨hm_Te_readDigits, by decide +kernel⟩
theorem a_Te_readDigits_26 : zAt 67 26 m_Te_readDigits (.iload 4) 2 := ⟨hm_Te_readDigits, by decide +kernel⟩
theorem a_Te_readDigits_28 : zAt 67 28 m_Te_readDigits (.bipush 57) 2 := ⟨hm_Te_readDigits, by decide +kernel⟩
theorem a_Te_readDigits_30 : zAt 67 30 m_Te_readDigits (.if_icmp .le 18) 3 := ⟨hm_Te_readDigits, by decide +kernel⟩
theorem a_Te_readDigits_33 : zAt 67 33 m_Te_readDigits (.aload_n 0) 1 := ⟨hm_Te_readDigits, by decide +kernel⟩
theorem a_Te_readDigits_34 : zAt 67 34 m_Te_readDigits (.iload_n 3) 1 := ⟨hm_Te_readDigits, by decide +kernel⟩
theorem a_Te_readDigits_35 : zAt 67 35 m_Te_readDigits (.ifCond .ne 7) 3 := ⟨hm_Te_readDigits, by decide +kernel⟩
theorem a_Te_readDigits_38 : zAt 67 38 m_Te_readDigits (.iconst 1) 1 := ⟨hm_Te_readDigits, by decide +kernel⟩
theorem a_Te_readDigits_39 : zAt 67 39 m_Te_readDigits (.goto 4) 3 := ⟨hm_Te_readDigits, by decide +kernel⟩
theorem a_Te_readDigits_42 : zAt 67 42 m_Te_readDigits (.iconst 0) 1 := ⟨hm_Te_readDigits, by decide +kernel⟩
theorem a_Te_readDigits_43 : zAt 67 43 m_Te_readDigits (.putfield 35) 3 := ⟨hm_Te_readDigits, by decide +kernel⟩
theorem a_Te_readDigits_46 : zAt 67 46 m_Te_readDigits (.iload_n 2) 1 := ⟨hm_Te_readDigits, by decide +kernel⟩
theorem a_Te_readDigits_47 : zAt 67 47 m_Te_readDigits (.ireturn) 1 := ⟨hm_Te_readDigits, by decide +kernel⟩
theorem a_Te_readDigits_48 : zAt 67 48 m_Te_readDigits (.iload_n 2) 1 := ⟨hm_Te_readDigits, by decide +kernel⟩
theorem a_Te_readDigits_49 : zAt 67 49 m_Te_readDigits (.bipush 10) 2 := ⟨hm_Te_readDigits, by decide +kernel⟩
theorem a_Te_readDigits_51 : zAt 67 51 m_Te_readDigits (.imul) 1 := ⟨hm_Te_readDigits, by decide +kernel⟩
theorem a_Te_readDigits_52 : zAt 67 52 m_Te_readDigits (.iload 4) 2 := ⟨hm_Te_readDigits, by decide +kernel⟩
theorem a_Te_readDigits_54 : zAt 67 54 m_Te_readDigits (.bipush 48) 2 := ⟨hm_Te_readDigits, by decide +kernel⟩
theorem a_Te_readDigits_56 : zAt 67 56 m_Te_readDigits (.isub) 1 := ⟨hm_Te_readDigits, by decide +kernel⟩
theorem a_Te_readDigits_57 : zAt 67 57 m_Te_readDigits (.iadd) 1 := ⟨hm_Te_readDigits, by decide +kernel⟩
theorem a_Te_readDigits_58 : zAt 67 58 m_Te_readDigits (.istore_n 2) 1 := ⟨hm_Te_readDigits, by decide +kernel⟩
theorem a_Te_readDigits_59 : zAt 67 59 m_Te_readDigits (.aload_n 0) 1 := ⟨hm_Te_readDigits, by decide +kernel⟩
theorem a_Te_readDigits_60 : zAt 67 60 m_Te_readDigits (.dup) 1 := ⟨hm_Te_readDigits, by decide +kernel⟩
theorem a_Te_readDigits_61 : zAt 67 61 m_Te_readDigits (.getfield 32) 3 := ⟨hm_Te_readDigits, by decide +kernel⟩
theorem a_Te_readDigits_64 : zAt 67 64 m_Te_readDigits (.iconst 1) 1 := ⟨hm_Te_readDigits, by decide +kernel⟩
theorem a_Te_readDigits_65 : zAt 67 65 m_Te_readDigits (.iadd) 1 := ⟨hm_Te_readDigits, by decide +kernel⟩
theorem a_Te_readDigits_66 : zAt 67 66 m_Te_readDigits (.putfield 32) 3 := ⟨hm_Te_readDigits, by decide +kernel⟩
theorem a_Te_readDigits_69 : zAt 67 69 m_Te_readDigits (.iinc 3 1) 3 := ⟨hm_Te_readDigits, by decide +kernel⟩
theorem a_Te_readDigits_72 : zAt 67 72 m_Te_readDigits (.goto (-68)) 3 := ⟨hm_Te_readDigits, by decide +kernel⟩
theorem a_Te_readDigits_75 : zAt 67 75 m_Te_readDigits (.iload_n 2) 1 := ⟨hm_Te_readDigits, by decide +kernel⟩
theorem a_Te_readDigits_76 : zAt 67 76 m_Te_readDigits (.ireturn) 1 := ⟨hm_Te_readDigits, by decide +kernel⟩
theorem B_Te_readDigits_0 {G : Nat → Nat → Int32} {x1 : Int32} : zden 67 0 [.ref 84, .int x1, .retAddr 0, .retAddr 0, .retAddr 0] [] (zSH, G) = zden 67 4 [.ref 84, .int x1, .int 0, .int 0, .retAddr 0] [] (zSH, G) :=
  (zd_iconst (v := 0) a_Te_readDigits_0 (by decide)).trans ((zd_istore_n a_Te_readDigits_1 rfl rfl rfl).trans ((zd_iconst (v := 0) a_Te_readDigits_2 (by decide)).trans ((zd_istore_n a_Te_readDigits_3 rfl rfl rfl))))
theorem B_Te_readDigits_4 {G : Nat → Nat → Int32} {x1 x2 x3 : Int32} {v4 : Value} : zden 67 4 [.ref 84, .int x1, .int x2, .int x3, v4] [] (zSH, G) = if x1 ≤ x3 then some (some (.int x2), (zSH, G)) else zaft 67 17 [.ref 84, .int x1, .int x2, .int x3, v4] [] (zSH, G) (zden 62 0 [.ref 84, .int (G 84 3)] [] (zSH, G)) :=
  (zd_iload_n a_Te_readDigits_4 rfl).trans ((zd_iload_n a_Te_readDigits_5 rfl).trans ((zd_icmp_ge a_Te_readDigits_6 rfl).trans (zitc (fun p13 => (zd_iload_n a_Te_readDigits_75 rfl).trans (zd_iret a_Te_readDigits_76 rfl (znr_int _))) (fun p13 => (zd_aload_n a_Te_readDigits_9 rfl).trans ((zd_aload_n a_Te_readDigits_10 rfl).trans ((zd_getI (h := (zSH, G)) (ci := 6) (fi := 3) a_Te_readDigits_11 (by decide +kernel) sh_84 rfl).trans ((zd_cal (kd := 0) (tg := 62) (T := m_Te_signAt) a_Te_readDigits_14 (by decide +kernel) hm_Te_signAt rfl rfl rfl rfl))))))))
theorem B_Te_readDigits_17 {G : Nat → Nat → Int32} {x1 x2 x3 s0 : Int32} {v4 : Value} : zden 67 17 [.ref 84, .int x1, .int x2, .int x3, v4] [.int s0] (zSH, G) = if s0 < 48 then zden 67 33 [.ref 84, .int x1, .int x2, .int x3, .int s0] [] (zSH, G) else if s0 ≤ 57 then zden 67 4 [.ref 84, .int x1, .int ((x2 * 10) + (s0 - 48)), .int (x3 + 1), .int s0] [] (zSH, (zup G 84 3 ((G 84 3) + 1))) else zden 67 33 [.ref 84, .int x1, .int x2, .int x3, .int s0] [] (zSH, G) :=
  (zd_istore a_Te_readDigits_17 rfl rfl rfl).trans ((zd_iload a_Te_readDigits_19 rfl).trans ((zd_bipush (v := 48) a_Te_readDigits_21 (by decide)).trans ((zd_icmp_lt a_Te_readDigits_23 rfl).trans (zitc (fun p14 => rfl) (fun p14 => (zd_iload a_Te_readDigits_26 rfl).trans ((zd_bipush (v := 57) a_Te_readDigits_28 (by decide)).trans ((zd_icmp_le a_Te_readDigits_30 rfl).trans (zitc (fun p15 => (zd_iload_n a_Te_readDigits_48 rfl).trans ((zd_bipush (v := 10) a_Te_readDigits_49 (by decide)).trans ((zd_num (st2 := [.int (x2 * 10)]) a_Te_readDigits_51 rfl rfl rfl rfl).trans ((zd_iload a_Te_readDigits_52 rfl).trans ((zd_bipush (v := 48) a_Te_readDigits_54 (by decide)).trans ((zd_num (st2 := [.int (s0 - 48), .int (x2 * 10)]) a_Te_readDigits_56 rfl rfl rfl rfl).trans ((zd_num (st2 := [.int ((x2 * 10) + (s0 - 48))]) a_Te_readDigits_57 rfl rfl rfl rfl).trans ((zd_istore_n a_Te_readDigits_58 rfl rfl rfl).trans ((zd_aload_n a_Te_readDigits_59 rfl).trans ((zd_num (st2 := [.ref 84, .ref 84]) a_Te_readDigits_60 rfl rfl rfl rfl).trans ((zd_getI (h := (zSH, G)) (ci := 6) (fi := 3) a_Te_readDigits_61 (by decide +kernel) sh_84 rfl).trans ((zd_iconst (v := 1) a_Te_readDigits_64 (by decide)).trans ((zd_num (st2 := [.int ((G 84 3) + 1), .ref 84]) a_Te_readDigits_65 rfl rfl rfl rfl).trans ((zd_putI (h := (zSH, G)) (ci := 6) (fi := 3) a_Te_readDigits_66 (by decide +kernel) sh_84 rfl rfl).trans ((zd_iinc (v := 1) a_Te_readDigits_69 rfl (by decide) rfl rfl rfl).trans ((zd_goto a_Te_readDigits_72 rfl))))))))))))))))) (fun p15 => rfl)))))))))
theorem B_Te_readDigits_33 {G : Nat → Nat → Int32} {x1 x2 x3 x4 : Int32} : zden 67 33 [.ref 84, .int x1, .int x2, .int x3, .int x4] [] (zSH, G) = if ¬ x3 = 0 then zden 67 43 [.ref 84, .int x1, .int x2, .int x3, .int x4] [.int 0, .ref 84] (zSH, G) else zden 67 43 [.ref 84, .int x1, .int x2, .int x3, .int x4] [.int 1, .ref 84] (zSH, G) :=
  (zd_aload_n a_Te_readDigits_33 rfl).trans ((zd_iload_n a_Te_readDigits_34 rfl).trans ((zd_if_ne a_Te_readDigits_35 rfl).trans (zitc (fun p16 => (zd_iconst (v := 0) a_Te_readDigits_42 (by decide))) (fun p16 => (zd_iconst (v := 1) a_Te_readDigits_38 (by decide)).trans ((zd_goto a_Te_readDigits_39 rfl))))))
theorem B_Te_readDigits_43 {G : Nat → Nat → Int32} {x1 x2 x3 x4 s0 : Int32} (f43 : zfit .boolean s0 = true) : zden 67 43 [.ref 84, .int x1, .int x2, .int x3, .int x4] [.int s0, .ref 84] (zSH, G) = some (some (.int x2), (zSH, (zup G 84 4 s0))) :=
  (zd_putI (h := (zSH, G)) (ci := 6) (fi := 4) a_Te_readDigits_43 (by decide +kernel) sh_84 rfl f43).trans ((zd_iload_n a_Te_readDigits_46 rfl).trans (zd_iret a_Te_readDigits_47 rfl (znr_int _)))
