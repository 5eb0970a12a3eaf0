-- 04eee
theorem cy_St_isLatin1 : zckY (m_St_isLatin1, 441) = true := by decide +kernel
theorem cy_St_checkIndex : zckY (m_St_checkIndex, 447) = true := by decide +kernel
theorem cy_St_indexOf : zckY (m_St_indexOf, 503) = true := by decide +kernel
theorem cy_St_indexOf2 : zckY (m_St_indexOf2, 507) = true := by decide +kernel
theorem cy_S1_charAt : zckY (m_S1_charAt, 444) = true := by decide +kernel
theorem cy_S1_indexOf : zckY (m_S1_indexOf, 511) = true := by decide +kernel
theorem cy_S1_canEncode : zckY (m_S1_canEncode, 514) = true := by decide +kernel
theorem cy_S1_indexOfChar : zckY (m_S1_indexOfChar, 519) = true := by decide +kernel
theorem cy_Pr_checkIndex : zckY (m_Pr_checkIndex, 452) = true := by decide +kernel
