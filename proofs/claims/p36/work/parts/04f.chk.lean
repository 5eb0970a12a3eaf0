-- 04f
theorem zat_of {w : Jvm.Cond} {i : Nat} (h : lw_tbl[i]? = some w) (hg : goodWord w = true) : zat w i = true := by
  unfold zat
  rw [decide_eq_true h, hg]
  rfl
set_option maxRecDepth 100000 in
theorem cg_L_cell : lw_tbl[674]? = some (.code m_L_cell.2.1 m_L_cell.2.2.1 m_L_cell.2.2.2.1 m_L_cell.2.2.2.2.1) := rfl
theorem cy_L_cell : zckY (m_L_cell, 674) = true := by
  show (zat (.code m_L_cell.2.1 m_L_cell.2.2.1 m_L_cell.2.2.2.1 m_L_cell.2.2.2.2.1) 674 && decide ("SilkTariffLaw" = zR 9) && plainName "SilkTariffLaw" && decide ("SilkTariffLaw" ≠ "java/lang/invoke/MethodHandle" ∧ "SilkTariffLaw" ≠ "java/lang/invoke/VarHandle") && Nat.ble 2 20) = true
  rw [zat_of cg_L_cell rfl]
  decide +kernel
set_option maxRecDepth 100000 in
theorem cg_L_acts : lw_tbl[677]? = some (.code m_L_acts.2.1 m_L_acts.2.2.1 m_L_acts.2.2.2.1 m_L_acts.2.2.2.2.1) := rfl
theorem cy_L_acts : zckY (m_L_acts, 677) = true := by
  show (zat (.code m_L_acts.2.1 m_L_acts.2.2.1 m_L_acts.2.2.2.1 m_L_acts.2.2.2.2.1) 677 && decide ("SilkTariffLaw" = zR 9) && plainName "SilkTariffLaw" && decide ("SilkTariffLaw" ≠ "java/lang/invoke/MethodHandle" ∧ "SilkTariffLaw" ≠ "java/lang/invoke/VarHandle") && Nat.ble 6 20) = true
  rw [zat_of cg_L_acts rfl]
  decide +kernel
set_option maxRecDepth 100000 in
theorem cg_L_someCode : lw_tbl[680]? = some (.code m_L_someCode.2.1 m_L_someCode.2.2.1 m_L_someCode.2.2.2.1 m_L_someCode.2.2.2.2.1) := rfl
theorem cy_L_someCode : zckY (m_L_someCode, 680) = true := by
  show (zat (.code m_L_someCode.2.1 m_L_someCode.2.2.1 m_L_someCode.2.2.2.1 m_L_someCode.2.2.2.2.1) 680 && decide ("SilkTariffLaw" = zR 9) && plainName "SilkTariffLaw" && decide ("SilkTariffLaw" ≠ "java/lang/invoke/MethodHandle" ∧ "SilkTariffLaw" ≠ "java/lang/invoke/VarHandle") && Nat.ble 2 20) = true
  rw [zat_of cg_L_someCode rfl]
  decide +kernel
set_option maxRecDepth 100000 in
theorem cg_L_some : lw_tbl[684]? = some (.code m_L_some.2.1 m_L_some.2.2.1 m_L_some.2.2.2.1 m_L_some.2.2.2.2.1) := rfl
theorem cy_L_some : zckY (m_L_some, 684) = true := by
  show (zat (.code m_L_some.2.1 m_L_some.2.2.1 m_L_some.2.2.2.1 m_L_some.2.2.2.2.1) 684 && decide ("SilkTariffLaw" = zR 9) && plainName "SilkTariffLaw" && decide ("SilkTariffLaw" ≠ "java/lang/invoke/MethodHandle" ∧ "SilkTariffLaw" ≠ "java/lang/invoke/VarHandle") && Nat.ble 2 20) = true
  rw [zat_of cg_L_some rfl]
  decide +kernel
set_option maxRecDepth 100000 in
theorem cg_L_told : lw_tbl[707]? = some (.code m_L_told.2.1 m_L_told.2.2.1 m_L_told.2.2.2.1 m_L_told.2.2.2.2.1) := rfl
theorem cy_L_told : zckY (m_L_told, 707) = true := by
  show (zat (.code m_L_told.2.1 m_L_told.2.2.1 m_L_told.2.2.2.1 m_L_told.2.2.2.2.1) 707 && decide ("SilkTariffLaw" = zR 9) && plainName "SilkTariffLaw" && decide ("SilkTariffLaw" ≠ "java/lang/invoke/MethodHandle" ∧ "SilkTariffLaw" ≠ "java/lang/invoke/VarHandle") && Nat.ble 6 20) = true
  rw [zat_of cg_L_told rfl]
  decide +kernel
set_option maxRecDepth 100000 in
theorem cg_L_stock : lw_tbl[740]? = some (.code m_L_stock.2.1 m_L_stock.2.2.1 m_L_stock.2.2.2.1 m_L_stock.2.2.2.2.1) := rfl
theorem cy_L_stock : zckY (m_L_stock, 740) = true := by
  show (zat (.code m_L_stock.2.1 m_L_stock.2.2.1 m_L_stock.2.2.2.1 m_L_stock.2.2.2.2.1) 740 && decide ("SilkTariffLaw" = zR 9) && plainName "SilkTariffLaw" && decide ("SilkTariffLaw" ≠ "java/lang/invoke/MethodHandle" ∧ "SilkTariffLaw" ≠ "java/lang/invoke/VarHandle") && Nat.ble 2 20) = true
  rw [zat_of cg_L_stock rfl]
  decide +kernel
