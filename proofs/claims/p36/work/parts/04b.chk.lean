-- 04b
theorem ck_B_new : zckM m_B_new = true := by decide +kernel
theorem ck_B_next : zckM m_B_next = true := by decide +kernel
theorem ck_St_length : zckM m_St_length = true := by decide +kernel
theorem ck_St_coder : zckM m_St_coder = true := by decide +kernel
theorem ck_St_charAt : zckM m_St_charAt = true := by decide +kernel
theorem ck_St_isLatin1 : zckM m_St_isLatin1 = true := by decide +kernel
theorem ck_St_checkIndex : zckM m_St_checkIndex = true := by decide +kernel
theorem ck_St_indexOf : zckM m_St_indexOf = true := by decide +kernel
theorem ck_St_indexOf2 : zckM m_St_indexOf2 = true := by decide +kernel
theorem ck_S1_charAt : zckM m_S1_charAt = true := by decide +kernel
theorem ck_S1_indexOf : zckM m_S1_indexOf = true := by decide +kernel
theorem ck_S1_canEncode : zckM m_S1_canEncode = true := by decide +kernel
theorem ck_S1_indexOfChar : zckM m_S1_indexOfChar = true := by decide +kernel
theorem ck_Pr_checkIndex : zckM m_Pr_checkIndex = true := by decide +kernel
