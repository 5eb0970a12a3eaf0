-- 04h
set_option maxRecDepth 100000 in
theorem cg_L_goods : lw_tbl[746]? = some (.code m_L_goods.2.1 m_L_goods.2.2.1 m_L_goods.2.2.2.1 m_L_goods.2.2.2.2.1) := rfl
theorem cy_L_goods : zckY (m_L_goods, 746) = true := by
  show (zat (.code m_L_goods.2.1 m_L_goods.2.2.1 m_L_goods.2.2.2.1 m_L_goods.2.2.2.2.1) 746 && decide ("SilkTariffLaw" = zR 9) && plainName "SilkTariffLaw" && decide ("SilkTariffLaw" ≠ "java/lang/invoke/MethodHandle" ∧ "SilkTariffLaw" ≠ "java/lang/invoke/VarHandle") && Nat.ble 16 20) = true
  rw [zat_of cg_L_goods rfl]
  decide +kernel
