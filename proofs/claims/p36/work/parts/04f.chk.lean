-- 04f
theorem cy_L_cell : zckY (m_L_cell, 674) = true := by decide +kernel
theorem cy_L_acts : zckY (m_L_acts, 677) = true := by decide +kernel
theorem cy_L_someCode : zckY (m_L_someCode, 680) = true := by decide +kernel
theorem cy_L_some : zckY (m_L_some, 684) = true := by decide +kernel
theorem cy_L_told : zckY (m_L_told, 707) = true := by decide +kernel
theorem cy_L_stock : zckY (m_L_stock, 740) = true := by decide +kernel
