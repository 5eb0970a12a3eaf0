-- 04c
theorem ck_L_law_0 : c_L_law_0.all (fun q => decide (decode code q.1 = .ok q.2) && zlenOk q.2.1 q.2.2) = true := by decide +kernel
theorem ck_L_law_1 : c_L_law_1.all (fun q => decide (decode code q.1 = .ok q.2) && zlenOk q.2.1 q.2.2) = true := by decide +kernel
theorem ck_L_law_2 : c_L_law_2.all (fun q => decide (decode code q.1 = .ok q.2) && zlenOk q.2.1 q.2.2) = true := by decide +kernel
theorem ck_L_law_3 : c_L_law_3.all (fun q => decide (decode code q.1 = .ok q.2) && zlenOk q.2.1 q.2.2) = true := by decide +kernel
theorem ck_L_law_4 : c_L_law_4.all (fun q => decide (decode code q.1 = .ok q.2) && zlenOk q.2.1 q.2.2) = true := by decide +kernel
theorem ck_L_law_5 : c_L_law_5.all (fun q => decide (decode code q.1 = .ok q.2) && zlenOk q.2.1 q.2.2) = true := by decide +kernel
theorem ck_L_law_6 : c_L_law_6.all (fun q => decide (decode code q.1 = .ok q.2) && zlenOk q.2.1 q.2.2) = true := by decide +kernel
theorem ck_L_law_7 : c_L_law_7.all (fun q => decide (decode code q.1 = .ok q.2) && zlenOk q.2.1 q.2.2) = true := by decide +kernel
