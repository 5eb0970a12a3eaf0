-- 04eee
theorem cy_M_isGood : zckY (m_M_isGood, 996) = true := by decide +kernel
theorem cy_M_isCountry : zckY (m_M_isCountry, 999) = true := by decide +kernel
theorem cy_M_goodOf : zckY (m_M_goodOf, 1003) = true := by decide +kernel
theorem cy_M_origin : zckY (m_M_origin, 1007) = true := by decide +kernel
theorem cy_M_duty : zckY (m_M_duty, 1011) = true := by decide +kernel
theorem cy_M_part : zckY (m_M_part, 1015) = true := by decide +kernel
theorem cy_M_points : zckY (m_M_points, 1019) = true := by decide +kernel
theorem cy_M_fit : zckY (m_M_fit, 1023) = true := by decide +kernel
theorem cy_M_fitAgain : zckY (m_M_fitAgain, 1027) = true := by decide +kernel
theorem cy_M_why : zckY (m_M_why, 1032) = true := by decide +kernel
theorem cy_M_favour : zckY (m_M_favour, 1036) = true := by decide +kernel
theorem cy_M_favours : zckY (m_M_favours, 1040) = true := by decide +kernel
theorem cy_M_coins : zckY (m_M_coins, 1044) = true := by decide +kernel
theorem cy_M_gives : zckY (m_M_gives, 1048) = true := by decide +kernel
theorem cy_M_enter : zckY (m_M_enter, 1052) = true := by decide +kernel
theorem cy_M_enters : zckY (m_M_enters, 1056) = true := by decide +kernel
theorem cy_M_export : zckY (m_M_export, 1060) = true := by decide +kernel
theorem cy_M_exports : zckY (m_M_exports, 1064) = true := by decide +kernel
theorem cy_M_days : zckY (m_M_days, 1068) = true := by decide +kernel
theorem cy_M_goBy : zckY (m_M_goBy, 1072) = true := by decide +kernel
theorem cy_M_would : zckY (m_M_would, 1076) = true := by decide +kernel
theorem cy_M_cheapest : zckY (m_M_cheapest, 1080) = true := by decide +kernel
theorem cy_M_ranked : zckY (m_M_ranked, 1084) = true := by decide +kernel
theorem cy_M_isAhead : zckY (m_M_isAhead, 1088) = true := by decide +kernel
theorem cy_M_append : zckY (m_M_append, 1092) = true := by decide +kernel
theorem cy_M_run : zckY (m_M_run, 1096) = true := by decide +kernel
theorem cy_M_orders : zckY (m_M_orders, 1100) = true := by decide +kernel
theorem cy_M_order : zckY (m_M_order, 1104) = true := by decide +kernel
theorem cy_M_word : zckY (m_M_word, 1108) = true := by decide +kernel
theorem cy_M_next : zckY (m_M_next, 1112) = true := by decide +kernel
theorem cy_M_mark : zckY (m_M_mark, 1116) = true := by decide +kernel
theorem cy_M_letter : zckY (m_M_letter, 1120) = true := by decide +kernel
theorem cy_M_digits : zckY (m_M_digits, 1124) = true := by decide +kernel
theorem cy_M_headTold : zckY (m_M_headTold, 1128) = true := by decide +kernel
theorem cy_M_behind : zckY (m_M_behind, 1132) = true := by decide +kernel
theorem cy_M_goodTold : zckY (m_M_goodTold, 1136) = true := by decide +kernel
theorem cy_M_does : zckY (m_M_does, 1140) = true := by decide +kernel
theorem cy_M_tell : zckY (m_M_tell, 1144) = true := by decide +kernel
theorem cy_M_writesNumber : zckY (m_M_writesNumber, 1148) = true := by decide +kernel
theorem cy_M_writes : zckY (m_M_writes, 1152) = true := by decide +kernel
theorem cy_M_tellHeading : zckY (m_M_tellHeading, 1156) = true := by decide +kernel
theorem cy_M_character : zckY (m_M_character, 1160) = true := by decide +kernel
theorem cy_M_reason : zckY (m_M_reason, 1164) = true := by decide +kernel
theorem cy_M_account : zckY (m_M_account, 1168) = true := by decide +kernel
theorem cy_M_thatAre : zckY (m_M_thatAre, 1172) = true := by decide +kernel
theorem cy_M_favoured : zckY (m_M_favoured, 1176) = true := by decide +kernel
theorem cy_M_isBalanced : zckY (m_M_isBalanced, 1180) = true := by decide +kernel
theorem cy_M_sum : zckY (m_M_sum, 1184) = true := by decide +kernel
theorem cy_M_meanDuty : zckY (m_M_meanDuty, 1188) = true := by decide +kernel
theorem cy_M_backShare : zckY (m_M_backShare, 1192) = true := by decide +kernel
theorem cy_M_undo : zckY (m_M_undo, 1196) = true := by decide +kernel
theorem cy_M_save : zckY (m_M_save, 1200) = true := by decide +kernel
theorem cy_M_restore : zckY (m_M_restore, 1204) = true := by decide +kernel
theorem cy_St_length : zckY (m_St_length, 568) = true := by decide +kernel
theorem cy_St_coder : zckY (m_St_coder, 572) = true := by decide +kernel
theorem cy_St_charAt : zckY (m_St_charAt, 578) = true := by decide +kernel
theorem cy_St_isLatin1 : zckY (m_St_isLatin1, 582) = true := by decide +kernel
theorem cy_St_checkIndex : zckY (m_St_checkIndex, 588) = true := by decide +kernel
theorem cy_St_indexOf : zckY (m_St_indexOf, 644) = true := by decide +kernel
theorem cy_St_indexOf2 : zckY (m_St_indexOf2, 648) = true := by decide +kernel
theorem cy_S1_charAt : zckY (m_S1_charAt, 585) = true := by decide +kernel
theorem cy_S1_indexOf : zckY (m_S1_indexOf, 652) = true := by decide +kernel
theorem cy_S1_canEncode : zckY (m_S1_canEncode, 655) = true := by decide +kernel
theorem cy_S1_indexOfChar : zckY (m_S1_indexOfChar, 660) = true := by decide +kernel
theorem cy_Pr_checkIndex : zckY (m_Pr_checkIndex, 593) = true := by decide +kernel
theorem zcy : ∀ M ∈ zms, M.1 ≠ 9 → ∃ i, zckY (M, i) = true := by
  unfold zms
  refine List.forall_mem_cons.mpr ⟨fun _ => ⟨84, cy_Cl_new⟩, ?_⟩
  refine List.forall_mem_cons.mpr ⟨fun _ => ⟨310, cy_Cl_setUp⟩, ?_⟩
  refine List.forall_mem_cons.mpr ⟨fun _ => ⟨325, cy_Cl_refuse⟩, ?_⟩
  refine List.forall_mem_cons.mpr ⟨fun _ => ⟨346, cy_Cl_strikeOut⟩, ?_⟩
  refine List.forall_mem_cons.mpr ⟨fun _ => ⟨381, cy_Cl_takeIn⟩, ?_⟩
  refine List.forall_mem_cons.mpr ⟨fun _ => ⟨385, cy_Cl_chiefFibre⟩, ?_⟩
  refine List.forall_mem_cons.mpr ⟨fun _ => ⟨393, cy_Cl_workOn⟩, ?_⟩
  refine List.forall_mem_cons.mpr ⟨fun _ => ⟨461, cy_Cl_favourCountry⟩, ?_⟩
  refine List.forall_mem_cons.mpr ⟨fun _ => ⟨469, cy_Cl_give⟩, ?_⟩
  refine List.forall_mem_cons.mpr ⟨fun _ => ⟨477, cy_Cl_letIn⟩, ?_⟩
  refine List.forall_mem_cons.mpr ⟨fun _ => ⟨487, cy_Cl_letOut⟩, ?_⟩
  refine List.forall_mem_cons.mpr ⟨fun _ => ⟨495, cy_Cl_goBy⟩, ?_⟩
  refine List.forall_mem_cons.mpr ⟨fun _ => ⟨709, cy_Cl_carryOut⟩, ?_⟩
  refine List.forall_mem_cons.mpr ⟨fun _ => ⟨192, cy_Hi_new⟩, ?_⟩
  refine List.forall_mem_cons.mpr ⟨fun _ => ⟨292, cy_Hi_keep⟩, ?_⟩
  refine List.forall_mem_cons.mpr ⟨fun _ => ⟨337, cy_Hi_settle⟩, ?_⟩
  refine List.forall_mem_cons.mpr ⟨fun _ => ⟨722, cy_Hi_takeBack⟩, ?_⟩
  refine List.forall_mem_cons.mpr ⟨fun _ => ⟨809, cy_Hi_stepBack⟩, ?_⟩
  refine List.forall_mem_cons.mpr ⟨fun _ => ⟨818, cy_Hi_saveFrom⟩, ?_⟩
  refine List.forall_mem_cons.mpr ⟨fun _ => ⟨826, cy_Hi_restoreTo⟩, ?_⟩
  refine List.forall_mem_cons.mpr ⟨fun _ => ⟨90, cy_Ho_new⟩, ?_⟩
  refine List.forall_mem_cons.mpr ⟨fun _ => ⟨296, cy_Ho_copyFrom⟩, ?_⟩
  refine List.forall_mem_cons.mpr ⟨fun _ => ⟨317, cy_Ho_rowOfCode⟩, ?_⟩
  refine List.forall_mem_cons.mpr ⟨fun _ => ⟨356, cy_Ho_countGoodsOf⟩, ?_⟩
  refine List.forall_mem_cons.mpr ⟨fun _ => ⟨360, cy_Ho_fittingRow⟩, ?_⟩
  refine List.forall_mem_cons.mpr ⟨fun _ => ⟨364, cy_Ho_isFitting⟩, ?_⟩
  refine List.forall_mem_cons.mpr ⟨fun _ => ⟨368, cy_Ho_rankOf⟩, ?_⟩
  refine List.forall_mem_cons.mpr ⟨fun _ => ⟨397, cy_Ho_hasGood⟩, ?_⟩
  refine List.forall_mem_cons.mpr ⟨fun _ => ⟨409, cy_Ho_originOf⟩, ?_⟩
  refine List.forall_mem_cons.mpr ⟨fun _ => ⟨414, cy_Ho_dutyFrom⟩, ?_⟩
  refine List.forall_mem_cons.mpr ⟨fun _ => ⟨432, cy_Ho_fittingRowAt⟩, ?_⟩
  refine List.forall_mem_cons.mpr ⟨fun _ => ⟨440, cy_Ho_keptRow⟩, ?_⟩
  refine List.forall_mem_cons.mpr ⟨fun _ => ⟨444, cy_Ho_isAhead⟩, ?_⟩
  refine List.forall_mem_cons.mpr ⟨fun _ => ⟨452, cy_Ho_lead⟩, ?_⟩
  refine List.forall_mem_cons.mpr ⟨fun _ => ⟨776, cy_Ho_countGoodsThatAre⟩, ?_⟩
  refine List.forall_mem_cons.mpr ⟨fun _ => ⟨780, cy_Ho_favouredSet⟩, ?_⟩
  refine List.forall_mem_cons.mpr ⟨fun _ => ⟨788, cy_Ho_areCoinsRight⟩, ?_⟩
  refine List.forall_mem_cons.mpr ⟨fun _ => ⟨792, cy_Ho_areHeadingsRight⟩, ?_⟩
  refine List.forall_mem_cons.mpr ⟨fun _ => ⟨257, cy_Li_new⟩, ?_⟩
  refine List.forall_mem_cons.mpr ⟨fun _ => ⟨732, cy_Li_writeGood⟩, ?_⟩
  refine List.forall_mem_cons.mpr ⟨fun _ => ⟨736, cy_Li_putNumber⟩, ?_⟩
  refine List.forall_mem_cons.mpr ⟨fun _ => ⟨740, cy_Li_put⟩, ?_⟩
  refine List.forall_mem_cons.mpr ⟨fun _ => ⟨744, cy_Li_formLetter⟩, ?_⟩
  refine List.forall_mem_cons.mpr ⟨fun _ => ⟨747, cy_Li_fibreLetter⟩, ?_⟩
  refine List.forall_mem_cons.mpr ⟨fun _ => ⟨756, cy_Li_writeHeading⟩, ?_⟩
  refine List.forall_mem_cons.mpr ⟨fun _ => ⟨764, cy_Li_signAt⟩, ?_⟩
  refine List.forall_mem_cons.mpr ⟨fun _ => ⟨218, cy_Ra_new⟩, ?_⟩
  refine List.forall_mem_cons.mpr ⟨fun _ => ⟨511, cy_Ra_goodAt⟩, ?_⟩
  refine List.forall_mem_cons.mpr ⟨fun _ => ⟨519, cy_Ra_countAheadOf⟩, ?_⟩
  refine List.forall_mem_cons.mpr ⟨fun _ => ⟨523, cy_Ra_isAhead⟩, ?_⟩
  refine List.forall_mem_cons.mpr ⟨fun _ => ⟨96, cy_Ta_new⟩, ?_⟩
  refine List.forall_mem_cons.mpr ⟨fun _ => ⟨115, cy_Ta_set⟩, ?_⟩
  refine List.forall_mem_cons.mpr ⟨fun _ => ⟨300, cy_Ta_copyFrom⟩, ?_⟩
  refine List.forall_mem_cons.mpr ⟨fun _ => ⟨321, cy_Ta_get⟩, ?_⟩
  refine List.forall_mem_cons.mpr ⟨fun _ => ⟨330, cy_Ta_copyRow⟩, ?_⟩
  refine List.forall_mem_cons.mpr ⟨fun _ => ⟨230, cy_Te_new⟩, ?_⟩
  refine List.forall_mem_cons.mpr ⟨fun _ => ⟨531, cy_Te_add⟩, ?_⟩
  refine List.forall_mem_cons.mpr ⟨fun _ => ⟨540, cy_Te_read⟩, ?_⟩
  refine List.forall_mem_cons.mpr ⟨fun _ => ⟨544, cy_Te_readOrder⟩, ?_⟩
  refine List.forall_mem_cons.mpr ⟨fun _ => ⟨548, cy_Te_readWord⟩, ?_⟩
  refine List.forall_mem_cons.mpr ⟨fun _ => ⟨551, cy_Te_wordOf⟩, ?_⟩
  refine List.forall_mem_cons.mpr ⟨fun _ => ⟨564, cy_Te_countAlike⟩, ?_⟩
  refine List.forall_mem_cons.mpr ⟨fun _ => ⟨616, cy_Te_signAt⟩, ?_⟩
  refine List.forall_mem_cons.mpr ⟨fun _ => ⟨620, cy_Te_formOf⟩, ?_⟩
  refine List.forall_mem_cons.mpr ⟨fun _ => ⟨631, cy_Te_readSign⟩, ?_⟩
  refine List.forall_mem_cons.mpr ⟨fun _ => ⟨635, cy_Te_readNumber⟩, ?_⟩
  refine List.forall_mem_cons.mpr ⟨fun _ => ⟨640, cy_Te_readLetter⟩, ?_⟩
  refine List.forall_mem_cons.mpr ⟨fun _ => ⟨701, cy_Te_readDigits⟩, ?_⟩
  refine List.forall_mem_cons.mpr ⟨fun _ => ⟨705, cy_Te_empty⟩, ?_⟩
  refine List.forall_mem_cons.mpr ⟨fun _ => ⟨76, cy_T_new⟩, ?_⟩
  refine List.forall_mem_cons.mpr ⟨fun _ => ⟨288, cy_T_heading⟩, ?_⟩
  refine List.forall_mem_cons.mpr ⟨fun _ => ⟨313, cy_T_isWithin⟩, ?_⟩
  refine List.forall_mem_cons.mpr ⟨fun _ => ⟨342, cy_T_strike⟩, ?_⟩
  refine List.forall_mem_cons.mpr ⟨fun _ => ⟨350, cy_T_headingOf⟩, ?_⟩
  refine List.forall_mem_cons.mpr ⟨fun _ => ⟨373, cy_T_code⟩, ?_⟩
  refine List.forall_mem_cons.mpr ⟨fun _ => ⟨377, cy_T_good⟩, ?_⟩
  refine List.forall_mem_cons.mpr ⟨fun _ => ⟨389, cy_T_work⟩, ?_⟩
  refine List.forall_mem_cons.mpr ⟨fun _ => ⟨400, cy_T_isCountry⟩, ?_⟩
  refine List.forall_mem_cons.mpr ⟨fun _ => ⟨404, cy_T_goodOf⟩, ?_⟩
  refine List.forall_mem_cons.mpr ⟨fun _ => ⟨419, cy_T_part⟩, ?_⟩
  refine List.forall_mem_cons.mpr ⟨fun _ => ⟨423, cy_T_points⟩, ?_⟩
  refine List.forall_mem_cons.mpr ⟨fun _ => ⟨428, cy_T_fit⟩, ?_⟩
  refine List.forall_mem_cons.mpr ⟨fun _ => ⟨436, cy_T_fitAgain⟩, ?_⟩
  refine List.forall_mem_cons.mpr ⟨fun _ => ⟨448, cy_T_why⟩, ?_⟩
  refine List.forall_mem_cons.mpr ⟨fun _ => ⟨457, cy_T_favour⟩, ?_⟩
  refine List.forall_mem_cons.mpr ⟨fun _ => ⟨465, cy_T_coins⟩, ?_⟩
  refine List.forall_mem_cons.mpr ⟨fun _ => ⟨473, cy_T_enter⟩, ?_⟩
  refine List.forall_mem_cons.mpr ⟨fun _ => ⟨483, cy_T_export⟩, ?_⟩
  refine List.forall_mem_cons.mpr ⟨fun _ => ⟨491, cy_T_days⟩, ?_⟩
  refine List.forall_mem_cons.mpr ⟨fun _ => ⟨499, cy_T_would⟩, ?_⟩
  refine List.forall_mem_cons.mpr ⟨fun _ => ⟨503, cy_T_cheapest⟩, ?_⟩
  refine List.forall_mem_cons.mpr ⟨fun _ => ⟨507, cy_T_ranked⟩, ?_⟩
  refine List.forall_mem_cons.mpr ⟨fun _ => ⟨527, cy_T_append⟩, ?_⟩
  refine List.forall_mem_cons.mpr ⟨fun _ => ⟨536, cy_T_run⟩, ?_⟩
  refine List.forall_mem_cons.mpr ⟨fun _ => ⟨728, cy_T_tell⟩, ?_⟩
  refine List.forall_mem_cons.mpr ⟨fun _ => ⟨752, cy_T_tellHeading⟩, ?_⟩
  refine List.forall_mem_cons.mpr ⟨fun _ => ⟨760, cy_T_character⟩, ?_⟩
  refine List.forall_mem_cons.mpr ⟨fun _ => ⟨768, cy_T_reason⟩, ?_⟩
  refine List.forall_mem_cons.mpr ⟨fun _ => ⟨772, cy_T_account⟩, ?_⟩
  refine List.forall_mem_cons.mpr ⟨fun _ => ⟨784, cy_T_isBalanced⟩, ?_⟩
  refine List.forall_mem_cons.mpr ⟨fun _ => ⟨797, cy_T_meanDuty⟩, ?_⟩
  refine List.forall_mem_cons.mpr ⟨fun _ => ⟨801, cy_T_backShare⟩, ?_⟩
  refine List.forall_mem_cons.mpr ⟨fun _ => ⟨805, cy_T_undo⟩, ?_⟩
  refine List.forall_mem_cons.mpr ⟨fun _ => ⟨814, cy_T_save⟩, ?_⟩
  refine List.forall_mem_cons.mpr ⟨fun _ => ⟨822, cy_T_restore⟩, ?_⟩
  refine List.forall_mem_cons.mpr ⟨fun _ => ⟨831, cy_M_new⟩, ?_⟩
  refine List.forall_mem_cons.mpr ⟨fun _ => ⟨903, cy_M_heading⟩, ?_⟩
  refine List.forall_mem_cons.mpr ⟨fun _ => ⟨907, cy_M_begins⟩, ?_⟩
  refine List.forall_mem_cons.mpr ⟨fun _ => ⟨910, cy_M_lays⟩, ?_⟩
  refine List.forall_mem_cons.mpr ⟨fun _ => ⟨914, cy_M_setsUp⟩, ?_⟩
  refine List.forall_mem_cons.mpr ⟨fun _ => ⟨917, cy_M_isIn⟩, ?_⟩
  refine List.forall_mem_cons.mpr ⟨fun _ => ⟨921, cy_M_fail⟩, ?_⟩
  refine List.forall_mem_cons.mpr ⟨fun _ => ⟨925, cy_M_placeOf⟩, ?_⟩
  refine List.forall_mem_cons.mpr ⟨fun _ => ⟨929, cy_M_head⟩, ?_⟩
  refine List.forall_mem_cons.mpr ⟨fun _ => ⟨933, cy_M_refuses⟩, ?_⟩
  refine List.forall_mem_cons.mpr ⟨fun _ => ⟨937, cy_M_ends⟩, ?_⟩
  refine List.forall_mem_cons.mpr ⟨fun _ => ⟨941, cy_M_strike⟩, ?_⟩
  refine List.forall_mem_cons.mpr ⟨fun _ => ⟨945, cy_M_strikes⟩, ?_⟩
  refine List.forall_mem_cons.mpr ⟨fun _ => ⟨949, cy_M_headingOf⟩, ?_⟩
  refine List.forall_mem_cons.mpr ⟨fun _ => ⟨953, cy_M_having⟩, ?_⟩
  refine List.forall_mem_cons.mpr ⟨fun _ => ⟨957, cy_M_fitting⟩, ?_⟩
  refine List.forall_mem_cons.mpr ⟨fun _ => ⟨961, cy_M_fits⟩, ?_⟩
  refine List.forall_mem_cons.mpr ⟨fun _ => ⟨965, cy_M_chief⟩, ?_⟩
  refine List.forall_mem_cons.mpr ⟨fun _ => ⟨968, cy_M_of⟩, ?_⟩
  refine List.forall_mem_cons.mpr ⟨fun _ => ⟨972, cy_M_rank⟩, ?_⟩
  refine List.forall_mem_cons.mpr ⟨fun _ => ⟨976, cy_M_code⟩, ?_⟩
  refine List.forall_mem_cons.mpr ⟨fun _ => ⟨980, cy_M_good⟩, ?_⟩
  refine List.forall_mem_cons.mpr ⟨fun _ => ⟨984, cy_M_comes⟩, ?_⟩
  refine List.forall_mem_cons.mpr ⟨fun _ => ⟨988, cy_M_work⟩, ?_⟩
  refine List.forall_mem_cons.mpr ⟨fun _ => ⟨992, cy_M_worksOn⟩, ?_⟩
  refine List.forall_mem_cons.mpr ⟨fun _ => ⟨996, cy_M_isGood⟩, ?_⟩
  refine List.forall_mem_cons.mpr ⟨fun _ => ⟨999, cy_M_isCountry⟩, ?_⟩
  refine List.forall_mem_cons.mpr ⟨fun _ => ⟨1003, cy_M_goodOf⟩, ?_⟩
  refine List.forall_mem_cons.mpr ⟨fun _ => ⟨1007, cy_M_origin⟩, ?_⟩
  refine List.forall_mem_cons.mpr ⟨fun _ => ⟨1011, cy_M_duty⟩, ?_⟩
  refine List.forall_mem_cons.mpr ⟨fun _ => ⟨1015, cy_M_part⟩, ?_⟩
  refine List.forall_mem_cons.mpr ⟨fun _ => ⟨1019, cy_M_points⟩, ?_⟩
  refine List.forall_mem_cons.mpr ⟨fun _ => ⟨1023, cy_M_fit⟩, ?_⟩
  refine List.forall_mem_cons.mpr ⟨fun _ => ⟨1027, cy_M_fitAgain⟩, ?_⟩
  refine List.forall_mem_cons.mpr ⟨fun _ => ⟨1032, cy_M_why⟩, ?_⟩
  refine List.forall_mem_cons.mpr ⟨fun _ => ⟨1036, cy_M_favour⟩, ?_⟩
  refine List.forall_mem_cons.mpr ⟨fun _ => ⟨1040, cy_M_favours⟩, ?_⟩
  refine List.forall_mem_cons.mpr ⟨fun _ => ⟨1044, cy_M_coins⟩, ?_⟩
  refine List.forall_mem_cons.mpr ⟨fun _ => ⟨1048, cy_M_gives⟩, ?_⟩
  refine List.forall_mem_cons.mpr ⟨fun _ => ⟨1052, cy_M_enter⟩, ?_⟩
  refine List.forall_mem_cons.mpr ⟨fun _ => ⟨1056, cy_M_enters⟩, ?_⟩
  refine List.forall_mem_cons.mpr ⟨fun _ => ⟨1060, cy_M_export⟩, ?_⟩
  refine List.forall_mem_cons.mpr ⟨fun _ => ⟨1064, cy_M_exports⟩, ?_⟩
  refine List.forall_mem_cons.mpr ⟨fun _ => ⟨1068, cy_M_days⟩, ?_⟩
  refine List.forall_mem_cons.mpr ⟨fun _ => ⟨1072, cy_M_goBy⟩, ?_⟩
  refine List.forall_mem_cons.mpr ⟨fun _ => ⟨1076, cy_M_would⟩, ?_⟩
  refine List.forall_mem_cons.mpr ⟨fun _ => ⟨1080, cy_M_cheapest⟩, ?_⟩
  refine List.forall_mem_cons.mpr ⟨fun _ => ⟨1084, cy_M_ranked⟩, ?_⟩
  refine List.forall_mem_cons.mpr ⟨fun _ => ⟨1088, cy_M_isAhead⟩, ?_⟩
  refine List.forall_mem_cons.mpr ⟨fun _ => ⟨1092, cy_M_append⟩, ?_⟩
  refine List.forall_mem_cons.mpr ⟨fun _ => ⟨1096, cy_M_run⟩, ?_⟩
  refine List.forall_mem_cons.mpr ⟨fun _ => ⟨1100, cy_M_orders⟩, ?_⟩
  refine List.forall_mem_cons.mpr ⟨fun _ => ⟨1104, cy_M_order⟩, ?_⟩
  refine List.forall_mem_cons.mpr ⟨fun _ => ⟨1108, cy_M_word⟩, ?_⟩
  refine List.forall_mem_cons.mpr ⟨fun _ => ⟨1112, cy_M_next⟩, ?_⟩
  refine List.forall_mem_cons.mpr ⟨fun _ => ⟨1116, cy_M_mark⟩, ?_⟩
  refine List.forall_mem_cons.mpr ⟨fun _ => ⟨1120, cy_M_letter⟩, ?_⟩
  refine List.forall_mem_cons.mpr ⟨fun _ => ⟨1124, cy_M_digits⟩, ?_⟩
  refine List.forall_mem_cons.mpr ⟨fun _ => ⟨1128, cy_M_headTold⟩, ?_⟩
  refine List.forall_mem_cons.mpr ⟨fun _ => ⟨1132, cy_M_behind⟩, ?_⟩
  refine List.forall_mem_cons.mpr ⟨fun _ => ⟨1136, cy_M_goodTold⟩, ?_⟩
  refine List.forall_mem_cons.mpr ⟨fun _ => ⟨1140, cy_M_does⟩, ?_⟩
  refine List.forall_mem_cons.mpr ⟨fun _ => ⟨1144, cy_M_tell⟩, ?_⟩
  refine List.forall_mem_cons.mpr ⟨fun _ => ⟨1148, cy_M_writesNumber⟩, ?_⟩
  refine List.forall_mem_cons.mpr ⟨fun _ => ⟨1152, cy_M_writes⟩, ?_⟩
  refine List.forall_mem_cons.mpr ⟨fun _ => ⟨1156, cy_M_tellHeading⟩, ?_⟩
  refine List.forall_mem_cons.mpr ⟨fun _ => ⟨1160, cy_M_character⟩, ?_⟩
  refine List.forall_mem_cons.mpr ⟨fun _ => ⟨1164, cy_M_reason⟩, ?_⟩
  refine List.forall_mem_cons.mpr ⟨fun _ => ⟨1168, cy_M_account⟩, ?_⟩
  refine List.forall_mem_cons.mpr ⟨fun _ => ⟨1172, cy_M_thatAre⟩, ?_⟩
  refine List.forall_mem_cons.mpr ⟨fun _ => ⟨1176, cy_M_favoured⟩, ?_⟩
  refine List.forall_mem_cons.mpr ⟨fun _ => ⟨1180, cy_M_isBalanced⟩, ?_⟩
  refine List.forall_mem_cons.mpr ⟨fun _ => ⟨1184, cy_M_sum⟩, ?_⟩
  refine List.forall_mem_cons.mpr ⟨fun _ => ⟨1188, cy_M_meanDuty⟩, ?_⟩
  refine List.forall_mem_cons.mpr ⟨fun _ => ⟨1192, cy_M_backShare⟩, ?_⟩
  refine List.forall_mem_cons.mpr ⟨fun _ => ⟨1196, cy_M_undo⟩, ?_⟩
  refine List.forall_mem_cons.mpr ⟨fun _ => ⟨1200, cy_M_save⟩, ?_⟩
  refine List.forall_mem_cons.mpr ⟨fun _ => ⟨1204, cy_M_restore⟩, ?_⟩
  refine List.forall_mem_cons.mpr ⟨fun _ => ⟨568, cy_St_length⟩, ?_⟩
  refine List.forall_mem_cons.mpr ⟨fun _ => ⟨572, cy_St_coder⟩, ?_⟩
  refine List.forall_mem_cons.mpr ⟨fun _ => ⟨578, cy_St_charAt⟩, ?_⟩
  refine List.forall_mem_cons.mpr ⟨fun _ => ⟨582, cy_St_isLatin1⟩, ?_⟩
  refine List.forall_mem_cons.mpr ⟨fun _ => ⟨588, cy_St_checkIndex⟩, ?_⟩
  refine List.forall_mem_cons.mpr ⟨fun _ => ⟨644, cy_St_indexOf⟩, ?_⟩
  refine List.forall_mem_cons.mpr ⟨fun _ => ⟨648, cy_St_indexOf2⟩, ?_⟩
  refine List.forall_mem_cons.mpr ⟨fun _ => ⟨585, cy_S1_charAt⟩, ?_⟩
  refine List.forall_mem_cons.mpr ⟨fun _ => ⟨652, cy_S1_indexOf⟩, ?_⟩
  refine List.forall_mem_cons.mpr ⟨fun _ => ⟨655, cy_S1_canEncode⟩, ?_⟩
  refine List.forall_mem_cons.mpr ⟨fun _ => ⟨660, cy_S1_indexOfChar⟩, ?_⟩
  refine List.forall_mem_cons.mpr ⟨fun _ => ⟨593, cy_Pr_checkIndex⟩, ?_⟩
  refine List.forall_mem_cons.mpr ⟨fun h => absurd rfl h, ?_⟩
  exact fun _ h => absurd h List.not_mem_nil
