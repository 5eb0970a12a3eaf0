-- 04i
set_option maxRecDepth 100000 in
theorem cg_L_fits : lw_tbl[755]? = some (.code m_L_fits.2.1 m_L_fits.2.2.1 m_L_fits.2.2.2.1 m_L_fits.2.2.2.2.1) := rfl
theorem cy_L_fits : zckY (m_L_fits, 755) = true := by
  show (zat (.code m_L_fits.2.1 m_L_fits.2.2.1 m_L_fits.2.2.2.1 m_L_fits.2.2.2.2.1) 755 && decide ("SilkTariffLaw" = zR 9) && plainName "SilkTariffLaw" && decide ("SilkTariffLaw" ≠ "java/lang/invoke/MethodHandle" ∧ "SilkTariffLaw" ≠ "java/lang/invoke/VarHandle") && Nat.ble 11 20) = true
  rw [zat_of cg_L_fits rfl]
  decide +kernel
set_option maxRecDepth 100000 in
theorem cg_L_ahead : lw_tbl[758]? = some (.code m_L_ahead.2.1 m_L_ahead.2.2.1 m_L_ahead.2.2.2.1 m_L_ahead.2.2.2.2.1) := rfl
theorem cy_L_ahead : zckY (m_L_ahead, 758) = true := by
  show (zat (.code m_L_ahead.2.1 m_L_ahead.2.2.1 m_L_ahead.2.2.2.1 m_L_ahead.2.2.2.2.1) 758 && decide ("SilkTariffLaw" = zR 9) && plainName "SilkTariffLaw" && decide ("SilkTariffLaw" ≠ "java/lang/invoke/MethodHandle" ∧ "SilkTariffLaw" ≠ "java/lang/invoke/VarHandle") && Nat.ble 2 20) = true
  rw [zat_of cg_L_ahead rfl]
  decide +kernel
set_option maxRecDepth 100000 in
theorem cg_L_foretold : lw_tbl[792]? = some (.code m_L_foretold.2.1 m_L_foretold.2.2.1 m_L_foretold.2.2.2.1 m_L_foretold.2.2.2.2.1) := rfl
theorem cy_L_foretold : zckY (m_L_foretold, 792) = true := by
  show (zat (.code m_L_foretold.2.1 m_L_foretold.2.2.1 m_L_foretold.2.2.2.1 m_L_foretold.2.2.2.2.1) 792 && decide ("SilkTariffLaw" = zR 9) && plainName "SilkTariffLaw" && decide ("SilkTariffLaw" ≠ "java/lang/invoke/MethodHandle" ∧ "SilkTariffLaw" ≠ "java/lang/invoke/VarHandle") && Nat.ble 10 20) = true
  rw [zat_of cg_L_foretold rfl]
  decide +kernel
theorem zcy : ∀ M ∈ zms, M.2.1.name ≠ "law" → ∃ i, zckY (M, i) = true := by
  unfold zms
  refine List.forall_mem_cons.mpr ⟨fun _ => ⟨49, cy_Cl_new⟩, ?_⟩
  refine List.forall_mem_cons.mpr ⟨fun _ => ⟨273, cy_Cl_setUp⟩, ?_⟩
  refine List.forall_mem_cons.mpr ⟨fun _ => ⟨288, cy_Cl_refuse⟩, ?_⟩
  refine List.forall_mem_cons.mpr ⟨fun _ => ⟨309, cy_Cl_strikeOut⟩, ?_⟩
  refine List.forall_mem_cons.mpr ⟨fun _ => ⟨323, cy_Cl_takeIn⟩, ?_⟩
  refine List.forall_mem_cons.mpr ⟨fun _ => ⟨327, cy_Cl_chiefFibre⟩, ?_⟩
  refine List.forall_mem_cons.mpr ⟨fun _ => ⟨575, cy_Cl_workOn⟩, ?_⟩
  refine List.forall_mem_cons.mpr ⟨fun _ => ⟨335, cy_Cl_favourCountry⟩, ?_⟩
  refine List.forall_mem_cons.mpr ⟨fun _ => ⟨580, cy_Cl_give⟩, ?_⟩
  refine List.forall_mem_cons.mpr ⟨fun _ => ⟨346, cy_Cl_letIn⟩, ?_⟩
  refine List.forall_mem_cons.mpr ⟨fun _ => ⟨585, cy_Cl_letOut⟩, ?_⟩
  refine List.forall_mem_cons.mpr ⟨fun _ => ⟨589, cy_Cl_goBy⟩, ?_⟩
  refine List.forall_mem_cons.mpr ⟨fun _ => ⟨568, cy_Cl_carryOut⟩, ?_⟩
  refine List.forall_mem_cons.mpr ⟨fun _ => ⟨155, cy_Hi_new⟩, ?_⟩
  refine List.forall_mem_cons.mpr ⟨fun _ => ⟨255, cy_Hi_keep⟩, ?_⟩
  refine List.forall_mem_cons.mpr ⟨fun _ => ⟨300, cy_Hi_settle⟩, ?_⟩
  refine List.forall_mem_cons.mpr ⟨fun _ => ⟨593, cy_Hi_takeBack⟩, ?_⟩
  refine List.forall_mem_cons.mpr ⟨fun _ => ⟨647, cy_Hi_stepBack⟩, ?_⟩
  refine List.forall_mem_cons.mpr ⟨fun _ => ⟨800, cy_Hi_saveFrom⟩, ?_⟩
  refine List.forall_mem_cons.mpr ⟨fun _ => ⟨656, cy_Hi_restoreTo⟩, ?_⟩
  refine List.forall_mem_cons.mpr ⟨fun _ => ⟨55, cy_Ho_new⟩, ?_⟩
  refine List.forall_mem_cons.mpr ⟨fun _ => ⟨259, cy_Ho_copyFrom⟩, ?_⟩
  refine List.forall_mem_cons.mpr ⟨fun _ => ⟨280, cy_Ho_rowOfCode⟩, ?_⟩
  refine List.forall_mem_cons.mpr ⟨fun _ => ⟨716, cy_Ho_countGoodsOf⟩, ?_⟩
  refine List.forall_mem_cons.mpr ⟨fun _ => ⟨362, cy_Ho_fittingRow⟩, ?_⟩
  refine List.forall_mem_cons.mpr ⟨fun _ => ⟨366, cy_Ho_isFitting⟩, ?_⟩
  refine List.forall_mem_cons.mpr ⟨fun _ => ⟨370, cy_Ho_rankOf⟩, ?_⟩
  refine List.forall_mem_cons.mpr ⟨fun _ => ⟨350, cy_Ho_hasGood⟩, ?_⟩
  refine List.forall_mem_cons.mpr ⟨fun _ => ⟨354, cy_Ho_originOf⟩, ?_⟩
  refine List.forall_mem_cons.mpr ⟨fun _ => ⟨358, cy_Ho_dutyFrom⟩, ?_⟩
  refine List.forall_mem_cons.mpr ⟨fun _ => ⟨767, cy_Ho_fittingRowAt⟩, ?_⟩
  refine List.forall_mem_cons.mpr ⟨fun _ => ⟨635, cy_Ho_keptRow⟩, ?_⟩
  refine List.forall_mem_cons.mpr ⟨fun _ => ⟨639, cy_Ho_isAhead⟩, ?_⟩
  refine List.forall_mem_cons.mpr ⟨fun _ => ⟨780, cy_Ho_lead⟩, ?_⟩
  refine List.forall_mem_cons.mpr ⟨fun _ => ⟨615, cy_Ho_countGoodsThatAre⟩, ?_⟩
  refine List.forall_mem_cons.mpr ⟨fun _ => ⟨619, cy_Ho_favouredSet⟩, ?_⟩
  refine List.forall_mem_cons.mpr ⟨fun _ => ⟨627, cy_Ho_areCoinsRight⟩, ?_⟩
  refine List.forall_mem_cons.mpr ⟨fun _ => ⟨631, cy_Ho_areHeadingsRight⟩, ?_⟩
  refine List.forall_mem_cons.mpr ⟨fun _ => ⟨220, cy_Li_new⟩, ?_⟩
  refine List.forall_mem_cons.mpr ⟨fun _ => ⟨284, cy_Ta_get⟩, ?_⟩
  refine List.forall_mem_cons.mpr ⟨fun _ => ⟨284, cy_Ta_get⟩, ?_⟩
  refine List.forall_mem_cons.mpr ⟨fun _ => ⟨284, cy_Ta_get⟩, ?_⟩
  refine List.forall_mem_cons.mpr ⟨fun _ => ⟨284, cy_Ta_get⟩, ?_⟩
  refine List.forall_mem_cons.mpr ⟨fun _ => ⟨284, cy_Ta_get⟩, ?_⟩
  refine List.forall_mem_cons.mpr ⟨fun _ => ⟨284, cy_Ta_get⟩, ?_⟩
  refine List.forall_mem_cons.mpr ⟨fun _ => ⟨603, cy_Li_signAt⟩, ?_⟩
  refine List.forall_mem_cons.mpr ⟨fun _ => ⟨181, cy_Ra_new⟩, ?_⟩
  refine List.forall_mem_cons.mpr ⟨fun _ => ⟨379, cy_Ra_goodAt⟩, ?_⟩
  refine List.forall_mem_cons.mpr ⟨fun _ => ⟨387, cy_Ra_countAheadOf⟩, ?_⟩
  refine List.forall_mem_cons.mpr ⟨fun _ => ⟨391, cy_Ra_isAhead⟩, ?_⟩
  refine List.forall_mem_cons.mpr ⟨fun _ => ⟨61, cy_Ta_new⟩, ?_⟩
  refine List.forall_mem_cons.mpr ⟨fun _ => ⟨80, cy_Ta_set⟩, ?_⟩
  refine List.forall_mem_cons.mpr ⟨fun _ => ⟨263, cy_Ta_copyFrom⟩, ?_⟩
  refine List.forall_mem_cons.mpr ⟨fun _ => ⟨284, cy_Ta_get⟩, ?_⟩
  refine List.forall_mem_cons.mpr ⟨fun _ => ⟨293, cy_Ta_copyRow⟩, ?_⟩
  refine List.forall_mem_cons.mpr ⟨fun _ => ⟨193, cy_Te_new⟩, ?_⟩
  refine List.forall_mem_cons.mpr ⟨fun _ => ⟨284, cy_Ta_get⟩, ?_⟩
  refine List.forall_mem_cons.mpr ⟨fun _ => ⟨399, cy_Te_read⟩, ?_⟩
  refine List.forall_mem_cons.mpr ⟨fun _ => ⟨403, cy_Te_readOrder⟩, ?_⟩
  refine List.forall_mem_cons.mpr ⟨fun _ => ⟨407, cy_Te_readWord⟩, ?_⟩
  refine List.forall_mem_cons.mpr ⟨fun _ => ⟨410, cy_Te_wordOf⟩, ?_⟩
  refine List.forall_mem_cons.mpr ⟨fun _ => ⟨423, cy_Te_countAlike⟩, ?_⟩
  refine List.forall_mem_cons.mpr ⟨fun _ => ⟨475, cy_Te_signAt⟩, ?_⟩
  refine List.forall_mem_cons.mpr ⟨fun _ => ⟨479, cy_Te_formOf⟩, ?_⟩
  refine List.forall_mem_cons.mpr ⟨fun _ => ⟨490, cy_Te_readSign⟩, ?_⟩
  refine List.forall_mem_cons.mpr ⟨fun _ => ⟨494, cy_Te_readNumber⟩, ?_⟩
  refine List.forall_mem_cons.mpr ⟨fun _ => ⟨499, cy_Te_readLetter⟩, ?_⟩
  refine List.forall_mem_cons.mpr ⟨fun _ => ⟨560, cy_Te_readDigits⟩, ?_⟩
  refine List.forall_mem_cons.mpr ⟨fun _ => ⟨564, cy_Te_empty⟩, ?_⟩
  refine List.forall_mem_cons.mpr ⟨fun _ => ⟨41, cy_T_new⟩, ?_⟩
  refine List.forall_mem_cons.mpr ⟨fun _ => ⟨251, cy_T_heading⟩, ?_⟩
  refine List.forall_mem_cons.mpr ⟨fun _ => ⟨276, cy_T_isWithin⟩, ?_⟩
  refine List.forall_mem_cons.mpr ⟨fun _ => ⟨305, cy_T_strike⟩, ?_⟩
  refine List.forall_mem_cons.mpr ⟨fun _ => ⟨711, cy_T_headingOf⟩, ?_⟩
  refine List.forall_mem_cons.mpr ⟨fun _ => ⟨313, cy_T_code⟩, ?_⟩
  refine List.forall_mem_cons.mpr ⟨fun _ => ⟨319, cy_T_good⟩, ?_⟩
  refine List.forall_mem_cons.mpr ⟨fun _ => ⟨688, cy_T_work⟩, ?_⟩
  refine List.forall_mem_cons.mpr ⟨fun _ => ⟨338, cy_T_isCountry⟩, ?_⟩
  refine List.forall_mem_cons.mpr ⟨fun _ => ⟨720, cy_T_goodOf⟩, ?_⟩
  refine List.forall_mem_cons.mpr ⟨fun _ => ⟨737, cy_T_part⟩, ?_⟩
  refine List.forall_mem_cons.mpr ⟨fun _ => ⟨728, cy_T_points⟩, ?_⟩
  refine List.forall_mem_cons.mpr ⟨fun _ => ⟨763, cy_T_fit⟩, ?_⟩
  refine List.forall_mem_cons.mpr ⟨fun _ => ⟨771, cy_T_fitAgain⟩, ?_⟩
  refine List.forall_mem_cons.mpr ⟨fun _ => ⟨776, cy_T_why⟩, ?_⟩
  refine List.forall_mem_cons.mpr ⟨fun _ => ⟨331, cy_T_favour⟩, ?_⟩
  refine List.forall_mem_cons.mpr ⟨fun _ => ⟨693, cy_T_coins⟩, ?_⟩
  refine List.forall_mem_cons.mpr ⟨fun _ => ⟨342, cy_T_enter⟩, ?_⟩
  refine List.forall_mem_cons.mpr ⟨fun _ => ⟨698, cy_T_export⟩, ?_⟩
  refine List.forall_mem_cons.mpr ⟨fun _ => ⟨703, cy_T_days⟩, ?_⟩
  refine List.forall_mem_cons.mpr ⟨fun _ => ⟨733, cy_T_would⟩, ?_⟩
  refine List.forall_mem_cons.mpr ⟨fun _ => ⟨752, cy_T_cheapest⟩, ?_⟩
  refine List.forall_mem_cons.mpr ⟨fun _ => ⟨375, cy_T_ranked⟩, ?_⟩
  refine List.forall_mem_cons.mpr ⟨fun _ => ⟨284, cy_Ta_get⟩, ?_⟩
  refine List.forall_mem_cons.mpr ⟨fun _ => ⟨395, cy_T_run⟩, ?_⟩
  refine List.forall_mem_cons.mpr ⟨fun _ => ⟨284, cy_Ta_get⟩, ?_⟩
  refine List.forall_mem_cons.mpr ⟨fun _ => ⟨284, cy_Ta_get⟩, ?_⟩
  refine List.forall_mem_cons.mpr ⟨fun _ => ⟨599, cy_T_character⟩, ?_⟩
  refine List.forall_mem_cons.mpr ⟨fun _ => ⟨607, cy_T_reason⟩, ?_⟩
  refine List.forall_mem_cons.mpr ⟨fun _ => ⟨611, cy_T_account⟩, ?_⟩
  refine List.forall_mem_cons.mpr ⟨fun _ => ⟨623, cy_T_isBalanced⟩, ?_⟩
  refine List.forall_mem_cons.mpr ⟨fun _ => ⟨785, cy_T_meanDuty⟩, ?_⟩
  refine List.forall_mem_cons.mpr ⟨fun _ => ⟨789, cy_T_backShare⟩, ?_⟩
  refine List.forall_mem_cons.mpr ⟨fun _ => ⟨643, cy_T_undo⟩, ?_⟩
  refine List.forall_mem_cons.mpr ⟨fun _ => ⟨796, cy_T_save⟩, ?_⟩
  refine List.forall_mem_cons.mpr ⟨fun _ => ⟨652, cy_T_restore⟩, ?_⟩
  refine List.forall_mem_cons.mpr ⟨fun _ => ⟨661, cy_B_new⟩, ?_⟩
  refine List.forall_mem_cons.mpr ⟨fun _ => ⟨670, cy_B_next⟩, ?_⟩
  refine List.forall_mem_cons.mpr ⟨fun _ => ⟨427, cy_St_length⟩, ?_⟩
  refine List.forall_mem_cons.mpr ⟨fun _ => ⟨431, cy_St_coder⟩, ?_⟩
  refine List.forall_mem_cons.mpr ⟨fun _ => ⟨437, cy_St_charAt⟩, ?_⟩
  refine List.forall_mem_cons.mpr ⟨fun _ => ⟨441, cy_St_isLatin1⟩, ?_⟩
  refine List.forall_mem_cons.mpr ⟨fun _ => ⟨447, cy_St_checkIndex⟩, ?_⟩
  refine List.forall_mem_cons.mpr ⟨fun _ => ⟨503, cy_St_indexOf⟩, ?_⟩
  refine List.forall_mem_cons.mpr ⟨fun _ => ⟨507, cy_St_indexOf2⟩, ?_⟩
  refine List.forall_mem_cons.mpr ⟨fun _ => ⟨444, cy_S1_charAt⟩, ?_⟩
  refine List.forall_mem_cons.mpr ⟨fun _ => ⟨511, cy_S1_indexOf⟩, ?_⟩
  refine List.forall_mem_cons.mpr ⟨fun _ => ⟨514, cy_S1_canEncode⟩, ?_⟩
  refine List.forall_mem_cons.mpr ⟨fun _ => ⟨519, cy_S1_indexOfChar⟩, ?_⟩
  refine List.forall_mem_cons.mpr ⟨fun _ => ⟨452, cy_Pr_checkIndex⟩, ?_⟩
  refine List.forall_mem_cons.mpr ⟨fun _ => ⟨674, cy_L_cell⟩, ?_⟩
  refine List.forall_mem_cons.mpr ⟨fun _ => ⟨677, cy_L_acts⟩, ?_⟩
  refine List.forall_mem_cons.mpr ⟨fun _ => ⟨680, cy_L_someCode⟩, ?_⟩
  refine List.forall_mem_cons.mpr ⟨fun _ => ⟨684, cy_L_some⟩, ?_⟩
  refine List.forall_mem_cons.mpr ⟨fun _ => ⟨707, cy_L_told⟩, ?_⟩
  refine List.forall_mem_cons.mpr ⟨fun _ => ⟨740, cy_L_stock⟩, ?_⟩
  refine List.forall_mem_cons.mpr ⟨fun _ => ⟨743, cy_L_headings⟩, ?_⟩
  refine List.forall_mem_cons.mpr ⟨fun _ => ⟨746, cy_L_goods⟩, ?_⟩
  refine List.forall_mem_cons.mpr ⟨fun _ => ⟨755, cy_L_fits⟩, ?_⟩
  refine List.forall_mem_cons.mpr ⟨fun _ => ⟨758, cy_L_ahead⟩, ?_⟩
  refine List.forall_mem_cons.mpr ⟨fun _ => ⟨792, cy_L_foretold⟩, ?_⟩
  refine List.forall_mem_cons.mpr ⟨fun h => absurd rfl h, ?_⟩
  exact fun _ h => absurd h List.not_mem_nil
