-- 04g
set_option maxRecDepth 100000 in
theorem cg_L_headings : lw_tbl[743]? = some (.code m_L_headings.2.1 m_L_headings.2.2.1 m_L_headings.2.2.2.1 m_L_headings.2.2.2.2.1) := rfl
theorem cy_L_headings : zckY (m_L_headings, 743) = true := by
  show (zat (.code m_L_headings.2.1 m_L_headings.2.2.1 m_L_headings.2.2.2.1 m_L_headings.2.2.2.2.1) 743 && decide ("SilkTariffLaw" = zR 9) && plainName "SilkTariffLaw" && decide ("SilkTariffLaw" ≠ "java/lang/invoke/MethodHandle" ∧ "SilkTariffLaw" ≠ "java/lang/invoke/VarHandle") && Nat.ble 5 20) = true
  rw [zat_of cg_L_headings rfl]
  decide +kernel
