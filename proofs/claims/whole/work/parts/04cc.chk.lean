-- 04cc
theorem ck_L_law_8 : c_L_law_8.all (fun q => decide (decode code q.1 = .ok q.2) && zlenOk q.2.1 q.2.2) = true := by decide +kernel
theorem ck_L_law_9 : c_L_law_9.all (fun q => decide (decode code q.1 = .ok q.2) && zlenOk q.2.1 q.2.2) = true := by decide +kernel
theorem ck_L_law_10 : c_L_law_10.all (fun q => decide (decode code q.1 = .ok q.2) && zlenOk q.2.1 q.2.2) = true := by decide +kernel
theorem ck_L_law_11 : c_L_law_11.all (fun q => decide (decode code q.1 = .ok q.2) && zlenOk q.2.1 q.2.2) = true := by decide +kernel
theorem ck_L_law_12 : c_L_law_12.all (fun q => decide (decode code q.1 = .ok q.2) && zlenOk q.2.1 q.2.2) = true := by decide +kernel
theorem ck_L_law_13 : c_L_law_13.all (fun q => decide (decode code q.1 = .ok q.2) && zlenOk q.2.1 q.2.2) = true := by decide +kernel
theorem ck_L_law_14 : c_L_law_14.all (fun q => decide (decode code q.1 = .ok q.2) && zlenOk q.2.1 q.2.2) = true := by decide +kernel
theorem ck_L_law : zckM m_L_law = true := by
  refine List.all_eq_true.mpr (fun q hq => ?_)
  have hq : q ∈ c_L_law := hq
  unfold c_L_law at hq
  simp only [List.mem_append] at hq
  rcases hq with h | h | h | h | h | h | h | h | h | h | h | h | h | h | h
  · exact List.all_eq_true.mp ck_L_law_0 q h
  · exact List.all_eq_true.mp ck_L_law_1 q h
  · exact List.all_eq_true.mp ck_L_law_2 q h
  · exact List.all_eq_true.mp ck_L_law_3 q h
  · exact List.all_eq_true.mp ck_L_law_4 q h
  · exact List.all_eq_true.mp ck_L_law_5 q h
  · exact List.all_eq_true.mp ck_L_law_6 q h
  · exact List.all_eq_true.mp ck_L_law_7 q h
  · exact List.all_eq_true.mp ck_L_law_8 q h
  · exact List.all_eq_true.mp ck_L_law_9 q h
  · exact List.all_eq_true.mp ck_L_law_10 q h
  · exact List.all_eq_true.mp ck_L_law_11 q h
  · exact List.all_eq_true.mp ck_L_law_12 q h
  · exact List.all_eq_true.mp ck_L_law_13 q h
  · exact List.all_eq_true.mp ck_L_law_14 q h

