-- 04g
theorem cy_L_headings : zckY (m_L_headings, 743) = true := by decide +kernel
