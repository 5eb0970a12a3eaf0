-- 04c
theorem ck_L_cell : zckM m_L_cell = true := by decide +kernel
theorem ck_L_acts : zckM m_L_acts = true := by decide +kernel
theorem ck_L_someCode : zckM m_L_someCode = true := by decide +kernel
theorem ck_L_some : zckM m_L_some = true := by decide +kernel
theorem ck_L_told : zckM m_L_told = true := by decide +kernel
theorem ck_L_stock : zckM m_L_stock = true := by decide +kernel
theorem ck_L_headings : zckM m_L_headings = true := by decide +kernel
theorem ck_L_goods_0 : c_L_goods_0.all (fun q => decide (decode method_12_code q.1 = .ok q.2) && zlenOk q.2.1 q.2.2) = true := by decide +kernel
theorem ck_L_goods_1 : c_L_goods_1.all (fun q => decide (decode method_12_code q.1 = .ok q.2) && zlenOk q.2.1 q.2.2) = true := by decide +kernel
theorem ck_L_goods_2 : c_L_goods_2.all (fun q => decide (decode method_12_code q.1 = .ok q.2) && zlenOk q.2.1 q.2.2) = true := by decide +kernel
theorem ck_L_goods_3 : c_L_goods_3.all (fun q => decide (decode method_12_code q.1 = .ok q.2) && zlenOk q.2.1 q.2.2) = true := by decide +kernel
theorem ck_L_goods_4 : c_L_goods_4.all (fun q => decide (decode method_12_code q.1 = .ok q.2) && zlenOk q.2.1 q.2.2) = true := by decide +kernel
theorem ck_L_goods_5 : c_L_goods_5.all (fun q => decide (decode method_12_code q.1 = .ok q.2) && zlenOk q.2.1 q.2.2) = true := by decide +kernel
theorem ck_L_goods_6 : c_L_goods_6.all (fun q => decide (decode method_12_code q.1 = .ok q.2) && zlenOk q.2.1 q.2.2) = true := by decide +kernel
theorem ck_L_goods_7 : c_L_goods_7.all (fun q => decide (decode method_12_code q.1 = .ok q.2) && zlenOk q.2.1 q.2.2) = true := by decide +kernel
theorem ck_L_goods_8 : c_L_goods_8.all (fun q => decide (decode method_12_code q.1 = .ok q.2) && zlenOk q.2.1 q.2.2) = true := by decide +kernel
theorem ck_L_goods : zckM m_L_goods = true := by
  refine List.all_eq_true.mpr (fun q hq => ?_)
  have hq : q ∈ c_L_goods := hq
  unfold c_L_goods at hq
  simp only [List.mem_append] at hq
  rcases hq with h | h | h | h | h | h | h | h | h
  · exact List.all_eq_true.mp ck_L_goods_0 q h
  · exact List.all_eq_true.mp ck_L_goods_1 q h
  · exact List.all_eq_true.mp ck_L_goods_2 q h
  · exact List.all_eq_true.mp ck_L_goods_3 q h
  · exact List.all_eq_true.mp ck_L_goods_4 q h
  · exact List.all_eq_true.mp ck_L_goods_5 q h
  · exact List.all_eq_true.mp ck_L_goods_6 q h
  · exact List.all_eq_true.mp ck_L_goods_7 q h
  · exact List.all_eq_true.mp ck_L_goods_8 q h

theorem ck_L_fits : zckM m_L_fits = true := by decide +kernel
theorem ck_L_ahead : zckM m_L_ahead = true := by decide +kernel
theorem ck_L_foretold : zckM m_L_foretold = true := by decide +kernel
theorem ck_L_law : zckM m_L_law = true := by decide +kernel
