-- 24: blocks of the model (written by wip/whole/gen24.py)
theorem hm_M_begins : zms[k_M_begins]? = some m_M_begins := rfl
theorem hm_M_cheapest : zms[k_M_cheapest]? = some m_M_cheapest := rfl
theorem hm_M_chief : zms[k_M_chief]? = some m_M_chief := rfl
theorem hm_M_code : zms[k_M_code]? = some m_M_code := rfl
theorem hm_M_coins : zms[k_M_coins]? = some m_M_coins := rfl
theorem hm_M_comes : zms[k_M_comes]? = some m_M_comes := rfl
theorem hm_M_days : zms[k_M_days]? = some m_M_days := rfl
theorem hm_M_duty : zms[k_M_duty]? = some m_M_duty := rfl
theorem hm_M_ends : zms[k_M_ends]? = some m_M_ends := rfl
theorem hm_M_enter : zms[k_M_enter]? = some m_M_enter := rfl
theorem hm_M_enters : zms[k_M_enters]? = some m_M_enters := rfl
theorem hm_M_export : zms[k_M_export]? = some m_M_export := rfl
theorem hm_M_exports : zms[k_M_exports]? = some m_M_exports := rfl
theorem hm_M_fail : zms[k_M_fail]? = some m_M_fail := rfl
theorem hm_M_favour : zms[k_M_favour]? = some m_M_favour := rfl
theorem hm_M_favoured : zms[k_M_favoured]? = some m_M_favoured := rfl
theorem hm_M_favours : zms[k_M_favours]? = some m_M_favours := rfl
theorem hm_M_fit : zms[k_M_fit]? = some m_M_fit := rfl
theorem hm_M_fitAgain : zms[k_M_fitAgain]? = some m_M_fitAgain := rfl
theorem hm_M_fits : zms[k_M_fits]? = some m_M_fits := rfl
theorem hm_M_fitting : zms[k_M_fitting]? = some m_M_fitting := rfl
theorem hm_M_gives : zms[k_M_gives]? = some m_M_gives := rfl
theorem hm_M_goBy : zms[k_M_goBy]? = some m_M_goBy := rfl
theorem hm_M_good : zms[k_M_good]? = some m_M_good := rfl
theorem hm_M_having : zms[k_M_having]? = some m_M_having := rfl
theorem hm_M_head : zms[k_M_head]? = some m_M_head := rfl
theorem hm_M_heading : zms[k_M_heading]? = some m_M_heading := rfl
theorem hm_M_headingOf : zms[k_M_headingOf]? = some m_M_headingOf := rfl
theorem hm_M_isAhead : zms[k_M_isAhead]? = some m_M_isAhead := rfl
theorem hm_M_isBalanced : zms[k_M_isBalanced]? = some m_M_isBalanced := rfl
theorem hm_M_isCountry : zms[k_M_isCountry]? = some m_M_isCountry := rfl
theorem hm_M_isGood : zms[k_M_isGood]? = some m_M_isGood := rfl
theorem hm_M_isIn : zms[k_M_isIn]? = some m_M_isIn := rfl
theorem hm_M_lays : zms[k_M_lays]? = some m_M_lays := rfl
theorem hm_M_of : zms[k_M_of]? = some m_M_of := rfl
theorem hm_M_origin : zms[k_M_origin]? = some m_M_origin := rfl
theorem hm_M_part : zms[k_M_part]? = some m_M_part := rfl
theorem hm_M_placeOf : zms[k_M_placeOf]? = some m_M_placeOf := rfl
theorem hm_M_points : zms[k_M_points]? = some m_M_points := rfl
theorem hm_M_rank : zms[k_M_rank]? = some m_M_rank := rfl
theorem hm_M_ranked : zms[k_M_ranked]? = some m_M_ranked := rfl
theorem hm_M_reason : zms[k_M_reason]? = some m_M_reason := rfl
theorem hm_M_refuses : zms[k_M_refuses]? = some m_M_refuses := rfl
theorem hm_M_restore : zms[k_M_restore]? = some m_M_restore := rfl
theorem hm_M_save : zms[k_M_save]? = some m_M_save := rfl
theorem hm_M_setsUp : zms[k_M_setsUp]? = some m_M_setsUp := rfl
theorem hm_M_strike : zms[k_M_strike]? = some m_M_strike := rfl
theorem hm_M_strikes : zms[k_M_strikes]? = some m_M_strikes := rfl
theorem hm_M_sum : zms[k_M_sum]? = some m_M_sum := rfl
theorem hm_M_thatAre : zms[k_M_thatAre]? = some m_M_thatAre := rfl
theorem hm_M_undo : zms[k_M_undo]? = some m_M_undo := rfl
theorem hm_M_why : zms[k_M_why]? = some m_M_why := rfl
theorem hm_M_work : zms[k_M_work]? = some m_M_work := rfl
theorem hm_M_worksOn : zms[k_M_worksOn]? = some m_M_worksOn := rfl
theorem hm_M_would : zms[k_M_would]? = some m_M_would := rfl
theorem zitc {α : Sort _} {b : Prop} [Decidable b] {x x' y y' : α} (h1 : b → x = x') (h2 : ¬ b → y = y') : (if b then x else y) = if b then x' else y' := by
  by_cases h : b
  · rw [if_pos h, if_pos h, h1 h]
  · rw [if_neg h, if_neg h, h2 h]
theorem a_M_isIn_0 : zAt 110 0 m_M_isIn (.iload_n 0) 1 := ⟨hm_M_isIn, by decide +kernel⟩
theorem a_M_isIn_1 : zAt 110 1 m_M_isIn (.iload_n 1) 1 := ⟨hm_M_isIn, by decide +kernel⟩
theorem a_M_isIn_2 : zAt 110 2 m_M_isIn (.if_icmp .lt 12) 3 := ⟨hm_M_isIn, by decide +kernel⟩
theorem a_M_isIn_5 : zAt 110 5 m_M_isIn (.iload_n 0) 1 := ⟨hm_M_isIn, by decide +kernel⟩
theorem a_M_isIn_6 : zAt 110 6 m_M_isIn (.iload_n 2) 1 := ⟨hm_M_isIn, by decide +kernel⟩
theorem a_M_isIn_7 : zAt 110 7 m_M_isIn (.if_icmp .gt 7) 3 := ⟨hm_M_isIn, by decide +kernel⟩
theorem a_M_isIn_10 : zAt 110 10 m_M_isIn (.iconst 1) 1 := ⟨hm_M_isIn, by decide +kernel⟩
theorem a_M_isIn_11 : zAt 110 11 m_M_isIn (.goto 4) 3 := ⟨hm_M_isIn, by decide +kernel⟩
theorem a_M_isIn_14 : zAt 110 14 m_M_isIn (.iconst 0) 1 := ⟨hm_M_isIn, by decide +kernel⟩
theorem a_M_isIn_15 : zAt 110 15 m_M_isIn (.ireturn) 1 := ⟨hm_M_isIn, by decide +kernel⟩
theorem B_M_isIn_0 {G : Nat → Nat → Int32} {x0 x1 x2 : Int32} : zden 110 0 [.int x0, .int x1, .int x2] [] (zSH, G) = if x0 < x1 then some (some (.int 0), (zSH, G)) else if x2 < x0 then some (some (.int 0), (zSH, G)) else some (some (.int 1), (zSH, G)) :=
  (zd_iload_n a_M_isIn_0 rfl).trans ((zd_iload_n a_M_isIn_1 rfl).trans ((zd_icmp_lt a_M_isIn_2 rfl).trans (zitc (fun p3 => (zd_iconst (v := 0) a_M_isIn_14 (by decide)).trans (zd_iret a_M_isIn_15 rfl (by decide))) (fun p3 => (zd_iload_n a_M_isIn_5 rfl).trans ((zd_iload_n a_M_isIn_6 rfl).trans ((zd_icmp_gt a_M_isIn_7 rfl).trans (zitc (fun p4 => (zd_iconst (v := 0) a_M_isIn_14 (by decide)).trans (zd_iret a_M_isIn_15 rfl (by decide))) (fun p4 => (zd_iconst (v := 1) a_M_isIn_10 (by decide)).trans ((zd_goto a_M_isIn_11 rfl).trans (zd_iret a_M_isIn_15 rfl (by decide)))))))))))
theorem a_M_fail_0 : zAt 111 0 m_M_fail (.aload_n 0) 1 := ⟨hm_M_fail, by decide +kernel⟩
theorem a_M_fail_1 : zAt 111 1 m_M_fail (.iload_n 1) 1 := ⟨hm_M_fail, by decide +kernel⟩
theorem a_M_fail_2 : zAt 111 2 m_M_fail (.putfield 43) 3 := ⟨hm_M_fail, by decide +kernel⟩
theorem a_M_fail_5 : zAt 111 5 m_M_fail (.iload_n 1) 1 := ⟨hm_M_fail, by decide +kernel⟩
theorem a_M_fail_6 : zAt 111 6 m_M_fail (.ireturn) 1 := ⟨hm_M_fail, by decide +kernel⟩
theorem B_M_fail_0 {G : Nat → Nat → Int32} {x1 : Int32} : zden 111 0 [.ref 90, .int x1] [] (zSH, G) = some (some (.int x1), (zSH, (zup G 90 0 x1))) :=
  (zd_aload_n a_M_fail_0 rfl).trans ((zd_iload_n a_M_fail_1 rfl).trans ((zd_putI (h := (zSH, G)) (ci := 8) (fi := 0) a_M_fail_2 (by decide +kernel) sh_90 rfl rfl).trans ((zd_iload_n a_M_fail_5 rfl).trans (zd_iret a_M_fail_6 rfl (znr_int _)))))
theorem a_M_of_0 : zAt 123 0 m_M_of (.bipush 63) 2 := ⟨hm_M_of, by decide +kernel⟩
theorem a_M_of_2 : zAt 123 2 m_M_of (.bipush 22) 2 := ⟨hm_M_of, by decide +kernel⟩
theorem a_M_of_4 : zAt 123 4 m_M_of (.iload_n 0) 1 := ⟨hm_M_of, by decide +kernel⟩
theorem a_M_of_5 : zAt 123 5 m_M_of (.imul) 1 := ⟨hm_M_of, by decide +kernel⟩
theorem a_M_of_6 : zAt 123 6 m_M_of (.iadd) 1 := ⟨hm_M_of, by decide +kernel⟩
theorem a_M_of_7 : zAt 123 7 m_M_of (.iload_n 1) 1 := ⟨hm_M_of, by decide +kernel⟩
theorem a_M_of_8 : zAt 123 8 m_M_of (.iadd) 1 := ⟨hm_M_of, by decide +kernel⟩
theorem a_M_of_9 : zAt 123 9 m_M_of (.ireturn) 1 := ⟨hm_M_of, by decide +kernel⟩
theorem B_M_of_0 {G : Nat → Nat → Int32} {x0 x1 : Int32} : zden 123 0 [.int x0, .int x1] [] (zSH, G) = some (some (.int ((63 + (22 * x0)) + x1)), (zSH, G)) :=
  (zd_bipush (v := 63) a_M_of_0 (by decide)).trans ((zd_bipush (v := 22) a_M_of_2 (by decide)).trans ((zd_iload_n a_M_of_4 rfl).trans ((zd_num (st2 := [.int (22 * x0), .int 63]) a_M_of_5 rfl rfl rfl rfl).trans ((zd_num (st2 := [.int (63 + (22 * x0))]) a_M_of_6 rfl rfl rfl rfl).trans ((zd_iload_n a_M_of_7 rfl).trans ((zd_num (st2 := [.int ((63 + (22 * x0)) + x1)]) a_M_of_8 rfl rfl rfl rfl).trans (zd_iret a_M_of_9 rfl (znr_int _))))))))
theorem ms_isIn {G : Nat → Nat → Int32} {x a b : Int32} : zden 110 0 [.int x, .int a, .int b] [] (zSH, G) = some (some (.int (bI (a ≤ x ∧ x ≤ b))), (zSH, G)) := by
  rw [B_M_isIn_0]
  unfold bI
  by_cases h1 : x < a
  · rw [if_pos h1, if_neg (fun (q : a ≤ x ∧ x ≤ b) => Int32.not_le.mpr h1 q.1)]
  · rw [if_neg h1]
    by_cases h2 : b < x
    · rw [if_pos h2, if_neg (fun (q : a ≤ x ∧ x ≤ b) => Int32.not_le.mpr h2 q.2)]
    · rw [if_neg h2, if_pos ⟨Int32.not_lt.mp h1, Int32.not_lt.mp h2⟩]
theorem ms_fail {G : Nat → Nat → Int32} {x : Int32} : zden 111 0 [.ref 90, .int x] [] (zSH, G) = some (some (.int x), (zSH, zup G 90 0 x)) := B_M_fail_0
theorem ms_of {G : Nat → Nat → Int32} {x y : Int32} : zden 123 0 [.int x, .int y] [] (zSH, G) = some (some (.int (63 + 22 * x + y)), (zSH, G)) := B_M_of_0
theorem bI_b (p : Prop) [Decidable p] : znr .boolean (bI p) = true := by
  unfold bI
  by_cases h : p
  · rw [if_pos h]; decide
  · rw [if_neg h]; decide
theorem a_M_refuses_0 : zAt 114 0 m_M_refuses (.aload_n 0) 1 := ⟨hm_M_refuses, by decide +kernel⟩
theorem a_M_refuses_1 : zAt 114 1 m_M_refuses (.iload_n 1) 1 := ⟨hm_M_refuses, by decide +kernel⟩
theorem a_M_refuses_2 : zAt 114 2 m_M_refuses (.putfield 47) 3 := ⟨hm_M_refuses, by decide +kernel⟩
theorem a_M_refuses_5 : zAt 114 5 m_M_refuses (.aload_n 0) 1 := ⟨hm_M_refuses, by decide +kernel⟩
theorem a_M_refuses_6 : zAt 114 6 m_M_refuses (.iload_n 2) 1 := ⟨hm_M_refuses, by decide +kernel⟩
theorem a_M_refuses_7 : zAt 114 7 m_M_refuses (.putfield 50) 3 := ⟨hm_M_refuses, by decide +kernel⟩
theorem a_M_refuses_10 : zAt 114 10 m_M_refuses (.aload_n 0) 1 := ⟨hm_M_refuses, by decide +kernel⟩
theorem a_M_refuses_11 : zAt 114 11 m_M_refuses (.bipush (-14)) 2 := ⟨hm_M_refuses, by decide +kernel⟩
theorem a_M_refuses_13 : zAt 114 13 m_M_refuses (.invokevirtual 53) 3 := ⟨hm_M_refuses, by decide +kernel⟩
theorem a_M_refuses_16 : zAt 114 16 m_M_refuses (.ireturn) 1 := ⟨hm_M_refuses, by decide +kernel⟩
theorem B_M_refuses_0 {G : Nat → Nat → Int32} {x1 x2 : Int32} : zden 114 0 [.ref 90, .int x1, .int x2] [] (zSH, G) = some (some (.int (-14)), (zSH, (zup (zup (zup G 90 2 x1) 90 3 x2) 90 0 (-14)))) :=
  (zd_aload_n a_M_refuses_0 rfl).trans ((zd_iload_n a_M_refuses_1 rfl).trans ((zd_putI (h := (zSH, G)) (ci := 8) (fi := 2) a_M_refuses_2 (by decide +kernel) sh_90 rfl rfl).trans ((zd_aload_n a_M_refuses_5 rfl).trans ((zd_iload_n a_M_refuses_6 rfl).trans ((zd_putI (h := (zSH, (zup G 90 2 x1))) (ci := 8) (fi := 3) a_M_refuses_7 (by decide +kernel) sh_90 rfl rfl).trans ((zd_aload_n a_M_refuses_10 rfl).trans ((zd_bipush (v := (-14)) a_M_refuses_11 (by decide)).trans ((zd_cal (kd := 0) (tg := 111) (T := m_M_fail) a_M_refuses_13 (by decide +kernel) hm_M_fail rfl rfl rfl rfl).trans (((congrArg (zaft 114 16 [.ref 90, .int x1, .int x2] [] (zSH, (zup (zup G 90 2 x1) 90 3 x2))) (ms_fail)).trans zaft_same).trans (zd_iret a_M_refuses_16 rfl (znr_int _)))))))))))
theorem a_M_isCountry_0 : zAt 131 0 m_M_isCountry (.iload_n 0) 1 := ⟨hm_M_isCountry, by decide +kernel⟩
theorem a_M_isCountry_1 : zAt 131 1 m_M_isCountry (.iconst 0) 1 := ⟨hm_M_isCountry, by decide +kernel⟩
theorem a_M_isCountry_2 : zAt 131 2 m_M_isCountry (.iconst 4) 1 := ⟨hm_M_isCountry, by decide +kernel⟩
theorem a_M_isCountry_3 : zAt 131 3 m_M_isCountry (.invokestatic 64) 3 := ⟨hm_M_isCountry, by decide +kernel⟩
theorem a_M_isCountry_6 : zAt 131 6 m_M_isCountry (.ireturn) 1 := ⟨hm_M_isCountry, by decide +kernel⟩
theorem B_M_isCountry_0 {G : Nat → Nat → Int32} {x0 : Int32} (n6 : znr .boolean (bI (0 ≤ x0 ∧ x0 ≤ 4)) = true) : zden 131 0 [.int x0] [] (zSH, G) = some (some (.int (bI (0 ≤ x0 ∧ x0 ≤ 4))), (zSH, G)) :=
  (zd_iload_n a_M_isCountry_0 rfl).trans ((zd_iconst (v := 0) a_M_isCountry_1 (by decide)).trans ((zd_iconst (v := 4) a_M_isCountry_2 (by decide)).trans ((zd_cal (kd := 1) (tg := 110) (T := m_M_isIn) a_M_isCountry_3 (by decide +kernel) hm_M_isIn rfl rfl rfl rfl).trans (((congrArg (zaft 131 6 [.int x0] [] (zSH, G)) (ms_isIn)).trans zaft_same).trans (zd_iret a_M_isCountry_6 rfl n6)))))
theorem a_M_isGood_0 : zAt 130 0 m_M_isGood (.iload_n 1) 1 := ⟨hm_M_isGood, by decide +kernel⟩
theorem a_M_isGood_1 : zAt 130 1 m_M_isGood (.iconst 0) 1 := ⟨hm_M_isGood, by decide +kernel⟩
theorem a_M_isGood_2 : zAt 130 2 m_M_isGood (.aload_n 0) 1 := ⟨hm_M_isGood, by decide +kernel⟩
theorem a_M_isGood_3 : zAt 130 3 m_M_isGood (.getfield 7) 3 := ⟨hm_M_isGood, by decide +kernel⟩
theorem a_M_isGood_6 : zAt 130 6 m_M_isGood (.iconst 2) 1 := ⟨hm_M_isGood, by decide +kernel⟩
theorem a_M_isGood_7 : zAt 130 7 m_M_isGood (.iaload) 1 := ⟨hm_M_isGood, by decide +kernel⟩
theorem a_M_isGood_8 : zAt 130 8 m_M_isGood (.iconst 1) 1 := ⟨hm_M_isGood, by decide +kernel⟩
theorem a_M_isGood_9 : zAt 130 9 m_M_isGood (.isub) 1 := ⟨hm_M_isGood, by decide +kernel⟩
theorem a_M_isGood_10 : zAt 130 10 m_M_isGood (.invokestatic 64) 3 := ⟨hm_M_isGood, by decide +kernel⟩
theorem a_M_isGood_13 : zAt 130 13 m_M_isGood (.ireturn) 1 := ⟨hm_M_isGood, by decide +kernel⟩
theorem B_M_isGood_0 {G : Nat → Nat → Int32} {x1 : Int32} (n13 : znr .boolean (bI (0 ≤ x1 ∧ x1 ≤ ((G 91 2) - 1))) = true) : zden 130 0 [.ref 90, .int x1] [] (zSH, G) = some (some (.int (bI (0 ≤ x1 ∧ x1 ≤ ((G 91 2) - 1)))), (zSH, G)) :=
  (zd_iload_n a_M_isGood_0 rfl).trans ((zd_iconst (v := 0) a_M_isGood_1 (by decide)).trans ((zd_aload_n a_M_isGood_2 rfl).trans ((zd_getR (h := (zSH, G)) (ci := 8) (fi := 5) (a := 91) a_M_isGood_3 (by decide +kernel) sh_90 rfl rfl).trans ((zd_iconst (v := 2) a_M_isGood_6 (by decide)).trans ((zd_iald (h := (zSH, G)) a_M_isGood_7 sh_91 rfl).trans ((if_pos (by decide)).trans ((zd_iconst (v := 1) a_M_isGood_8 (by decide)).trans ((zd_num (st2 := [.int ((G 91 2) - 1), .int 0, .int x1]) a_M_isGood_9 rfl rfl rfl rfl).trans ((zd_cal (kd := 1) (tg := 110) (T := m_M_isIn) a_M_isGood_10 (by decide +kernel) hm_M_isIn rfl rfl rfl rfl).trans (((congrArg (zaft 130 13 [.ref 90, .int x1] [] (zSH, G)) (ms_isIn)).trans zaft_same).trans (zd_iret a_M_isGood_13 rfl n13)))))))))))
theorem a_M_head_0 : zAt 113 0 m_M_head (.iload_n 1) 1 := ⟨hm_M_head, by decide +kernel⟩
theorem a_M_head_1 : zAt 113 1 m_M_head (.aload_n 0) 1 := ⟨hm_M_head, by decide +kernel⟩
theorem a_M_head_2 : zAt 113 2 m_M_head (.getfield 7) 3 := ⟨hm_M_head, by decide +kernel⟩
theorem a_M_head_5 : zAt 113 5 m_M_head (.iconst 1) 1 := ⟨hm_M_head, by decide +kernel⟩
theorem a_M_head_6 : zAt 113 6 m_M_head (.iaload) 1 := ⟨hm_M_head, by decide +kernel⟩
theorem a_M_head_7 : zAt 113 7 m_M_head (.if_icmp .ge 17) 3 := ⟨hm_M_head, by decide +kernel⟩
theorem a_M_head_10 : zAt 113 10 m_M_head (.aload_n 0) 1 := ⟨hm_M_head, by decide +kernel⟩
theorem a_M_head_11 : zAt 113 11 m_M_head (.getfield 7) 3 := ⟨hm_M_head, by decide +kernel⟩
theorem a_M_head_14 : zAt 113 14 m_M_head (.bipush 13) 2 := ⟨hm_M_head, by decide +kernel⟩
theorem a_M_head_16 : zAt 113 16 m_M_head (.iconst 5) 1 := ⟨hm_M_head, by decide +kernel⟩
theorem a_M_head_17 : zAt 113 17 m_M_head (.iload_n 1) 1 := ⟨hm_M_head, by decide +kernel⟩
theorem a_M_head_18 : zAt 113 18 m_M_head (.imul) 1 := ⟨hm_M_head, by decide +kernel⟩
theorem a_M_head_19 : zAt 113 19 m_M_head (.iadd) 1 := ⟨hm_M_head, by decide +kernel⟩
theorem a_M_head_20 : zAt 113 20 m_M_head (.iload_n 2) 1 := ⟨hm_M_head, by decide +kernel⟩
theorem a_M_head_21 : zAt 113 21 m_M_head (.iadd) 1 := ⟨hm_M_head, by decide +kernel⟩
theorem a_M_head_22 : zAt 113 22 m_M_head (.iaload) 1 := ⟨hm_M_head, by decide +kernel⟩
theorem a_M_head_23 : zAt 113 23 m_M_head (.ireturn) 1 := ⟨hm_M_head, by decide +kernel⟩
theorem a_M_head_24 : zAt 113 24 m_M_head (.iload_n 2) 1 := ⟨hm_M_head, by decide +kernel⟩
theorem a_M_head_25 : zAt 113 25 m_M_head (.ifCond .ne 8) 3 := ⟨hm_M_head, by decide +kernel⟩
theorem a_M_head_28 : zAt 113 28 m_M_head (.bipush 99) 2 := ⟨hm_M_head, by decide +kernel⟩
theorem a_M_head_30 : zAt 113 30 m_M_head (.goto 32) 3 := ⟨hm_M_head, by decide +kernel⟩
theorem a_M_head_33 : zAt 113 33 m_M_head (.iload_n 2) 1 := ⟨hm_M_head, by decide +kernel⟩
theorem a_M_head_34 : zAt 113 34 m_M_head (.iconst 1) 1 := ⟨hm_M_head, by decide +kernel⟩
theorem a_M_head_35 : zAt 113 35 m_M_head (.if_icmp .ne 7) 3 := ⟨hm_M_head, by decide +kernel⟩
theorem a_M_head_38 : zAt 113 38 m_M_head (.iconst 4) 1 := ⟨hm_M_head, by decide +kernel⟩
theorem a_M_head_39 : zAt 113 39 m_M_head (.goto 23) 3 := ⟨hm_M_head, by decide +kernel⟩
theorem a_M_head_42 : zAt 113 42 m_M_head (.iload_n 2) 1 := ⟨hm_M_head, by decide +kernel⟩
theorem a_M_head_43 : zAt 113 43 m_M_head (.iconst 2) 1 := ⟨hm_M_head, by decide +kernel⟩
theorem a_M_head_44 : zAt 113 44 m_M_head (.if_icmp .ne 7) 3 := ⟨hm_M_head, by decide +kernel⟩
theorem a_M_head_47 : zAt 113 47 m_M_head (.iconst 3) 1 := ⟨hm_M_head, by decide +kernel⟩
theorem a_M_head_48 : zAt 113 48 m_M_head (.goto 14) 3 := ⟨hm_M_head, by decide +kernel⟩
theorem a_M_head_51 : zAt 113 51 m_M_head (.iload_n 2) 1 := ⟨hm_M_head, by decide +kernel⟩
theorem a_M_head_52 : zAt 113 52 m_M_head (.iconst 3) 1 := ⟨hm_M_head, by decide +kernel⟩
theorem a_M_head_53 : zAt 113 53 m_M_head (.if_icmp .ne 8) 3 := ⟨hm_M_head, by decide +kernel⟩
theorem a_M_head_56 : zAt 113 56 m_M_head (.bipush 30) 2 := ⟨hm_M_head, by decide +kernel⟩
theorem a_M_head_58 : zAt 113 58 m_M_head (.goto 4) 3 := ⟨hm_M_head, by decide +kernel⟩
theorem a_M_head_61 : zAt 113 61 m_M_head (.iconst 0) 1 := ⟨hm_M_head, by decide +kernel⟩
theorem a_M_head_62 : zAt 113 62 m_M_head (.ireturn) 1 := ⟨hm_M_head, by decide +kernel⟩
theorem B_M_head_0 {G : Nat → Nat → Int32} {x1 x2 : Int32} (z22_0 : (¬ ((G 91 1) ≤ x1)) → zin ((13 + (5 * x1)) + x2) 327 = true) : zden 113 0 [.ref 90, .int x1, .int x2] [] (zSH, G) = if (G 91 1) ≤ x1 then if ¬ x2 = 0 then if ¬ x2 = 1 then if ¬ x2 = 2 then if ¬ x2 = 3 then some (some (.int 0), (zSH, G)) else some (some (.int 30), (zSH, G)) else some (some (.int 3), (zSH, G)) else some (some (.int 4), (zSH, G)) else some (some (.int 99), (zSH, G)) else some (some (.int (G 91 ((13 + (5 * x1)) + x2).toNatClampNeg)), (zSH, G)) :=
  (zd_iload_n a_M_head_0 rfl).trans ((zd_aload_n a_M_head_1 rfl).trans ((zd_getR (h := (zSH, G)) (ci := 8) (fi := 5) (a := 91) a_M_head_2 (by decide +kernel) sh_90 rfl rfl).trans ((zd_iconst (v := 1) a_M_head_5 (by decide)).trans ((zd_iald (h := (zSH, G)) a_M_head_6 sh_91 rfl).trans ((if_pos (by decide)).trans ((zd_icmp_ge a_M_head_7 rfl).trans (zitc (fun p6 => (zd_iload_n a_M_head_24 rfl).trans ((zd_if_ne a_M_head_25 rfl).trans (zitc (fun p7 => (zd_iload_n a_M_head_33 rfl).trans ((zd_iconst (v := 1) a_M_head_34 (by decide)).trans ((zd_icmp_ne a_M_head_35 rfl).trans (zitc (fun p8 => (zd_iload_n a_M_head_42 rfl).trans ((zd_iconst (v := 2) a_M_head_43 (by decide)).trans ((zd_icmp_ne a_M_head_44 rfl).trans (zitc (fun p9 => (zd_iload_n a_M_head_51 rfl).trans ((zd_iconst (v := 3) a_M_head_52 (by decide)).trans ((zd_icmp_ne a_M_head_53 rfl).trans (zitc (fun p10 => (zd_iconst (v := 0) a_M_head_61 (by decide)).trans (zd_iret a_M_head_62 rfl (znr_int _))) (fun p10 => (zd_bipush (v := 30) a_M_head_56 (by decide)).trans ((zd_goto a_M_head_58 rfl).trans (zd_iret a_M_head_62 rfl (znr_int _)))))))) (fun p9 => (zd_iconst (v := 3) a_M_head_47 (by decide)).trans ((zd_goto a_M_head_48 rfl).trans (zd_iret a_M_head_62 rfl (znr_int _)))))))) (fun p8 => (zd_iconst (v := 4) a_M_head_38 (by decide)).trans ((zd_goto a_M_head_39 rfl).trans (zd_iret a_M_head_62 rfl (znr_int _)))))))) (fun p7 => (zd_bipush (v := 99) a_M_head_28 (by decide)).trans ((zd_goto a_M_head_30 rfl).trans (zd_iret a_M_head_62 rfl (znr_int _))))))) (fun p6 => (zd_aload_n a_M_head_10 rfl).trans ((zd_getR (h := (zSH, G)) (ci := 8) (fi := 5) (a := 91) a_M_head_11 (by decide +kernel) sh_90 rfl rfl).trans ((zd_bipush (v := 13) a_M_head_14 (by decide)).trans ((zd_iconst (v := 5) a_M_head_16 (by decide)).trans ((zd_iload_n a_M_head_17 rfl).trans ((zd_num (st2 := [.int (5 * x1), .int 13, .ref 91]) a_M_head_18 rfl rfl rfl rfl).trans ((zd_num (st2 := [.int (13 + (5 * x1)), .ref 91]) a_M_head_19 rfl rfl rfl rfl).trans ((zd_iload_n a_M_head_20 rfl).trans ((zd_num (st2 := [.int ((13 + (5 * x1)) + x2), .ref 91]) a_M_head_21 rfl rfl rfl rfl).trans ((zd_iald (h := (zSH, G)) a_M_head_22 sh_91 rfl).trans ((if_pos (z22_0 p6)).trans (zd_iret a_M_head_23 rfl (znr_int _))))))))))))))))))))
theorem ms_refuses {G : Nat → Nat → Int32} {x y : Int32} : zden 114 0 [.ref 90, .int x, .int y] [] (zSH, G) = some (some (.int (-14)), (zSH, zup (zup (zup G 90 2 x) 90 3 y) 90 0 (-14))) := B_M_refuses_0
theorem ms_isCountry {G : Nat → Nat → Int32} {x : Int32} : zden 131 0 [.int x] [] (zSH, G) = some (some (.int (bI (0 ≤ x ∧ x ≤ 4))), (zSH, G)) := B_M_isCountry_0 (bI_b _)
theorem ms_isGood {G : Nat → Nat → Int32} {x : Int32} : zden 130 0 [.ref 90, .int x] [] (zSH, G) = some (some (.int (bI (0 ≤ x ∧ x ≤ G 91 2 - 1))), (zSH, G)) := B_M_isGood_0 (bI_b _)
def mhead (G : Nat → Nat → Int32) (h w : Int32) : Int32 := if h < G 91 1 then G 91 (13 + 5 * h + w).toNatClampNeg else if w = 0 then 99 else if w = 1 then 4 else if w = 2 then 3 else if w = 3 then 30 else 0
def mhok (G : Nat → Nat → Int32) (h w : Int32) : Prop := h < G 91 1 → zin (13 + 5 * h + w) 327 = true
theorem ms_head {G : Nat → Nat → Int32} {h w : Int32} (hh : mhok G h w) : zden 113 0 [.ref 90, .int h, .int w] [] (zSH, G) = some (some (.int (mhead G h w)), (zSH, G)) := by
  rw [B_M_head_0 (fun q => hh (Int32.not_le.mp q))]
  unfold mhead
  by_cases h1 : G 91 1 ≤ h
  · rw [if_pos h1, if_neg (Int32.not_lt.mpr h1)]
    by_cases a : w = 0
    · simp only [a, not_true, if_false, if_true]
    · simp only [a, not_false_iff, if_true, if_false]
      by_cases b : w = 1
      · simp only [b, not_true, if_false, if_true]
      · simp only [b, not_false_iff, if_true, if_false]
        by_cases c : w = 2
        · simp only [c, not_true, if_false, if_true]
        · simp only [c, not_false_iff, if_true, if_false]
          by_cases d : w = 3
          · simp only [d, not_true, if_false, if_true]
          · simp only [d, not_false_iff, if_true, if_false]
  · rw [if_neg h1, if_pos (Int32.not_le.mp h1)]
theorem a_M_lays_0 : zAt 108 0 m_M_lays (.iconst 0) 1 := ⟨hm_M_lays, by decide +kernel⟩
theorem a_M_lays_1 : zAt 108 1 m_M_lays (.istore_n 2) 1 := ⟨hm_M_lays, by decide +kernel⟩
theorem a_M_lays_2 : zAt 108 2 m_M_lays (.iload_n 2) 1 := ⟨hm_M_lays, by decide +kernel⟩
theorem a_M_lays_3 : zAt 108 3 m_M_lays (.sipush 327) 3 := ⟨hm_M_lays, by decide +kernel⟩
theorem a_M_lays_6 : zAt 108 6 m_M_lays (.if_icmp .ge 15) 3 := ⟨hm_M_lays, by decide +kernel⟩
theorem a_M_lays_9 : zAt 108 9 m_M_lays (.aload_n 0) 1 := ⟨hm_M_lays, by decide +kernel⟩
theorem a_M_lays_10 : zAt 108 10 m_M_lays (.iload_n 2) 1 := ⟨hm_M_lays, by decide +kernel⟩
theorem a_M_lays_11 : zAt 108 11 m_M_lays (.aload_n 1) 1 := ⟨hm_M_lays, by decide +kernel⟩
theorem a_M_lays_12 : zAt 108 12 m_M_lays (.iload_n 2) 1 := ⟨hm_M_lays, by decide +kernel⟩
theorem a_M_lays_13 : zAt 108 13 m_M_lays (.iaload) 1 := ⟨hm_M_lays, by decide +kernel⟩
theorem a_M_lays_14 : zAt 108 14 m_M_lays (.iastore) 1 := ⟨hm_M_lays, by decide +kernel⟩
theorem a_M_lays_15 : zAt 108 15 m_M_lays (.iinc 2 1) 3 := ⟨hm_M_lays, by decide +kernel⟩
theorem a_M_lays_18 : zAt 108 18 m_M_lays (.goto (-16)) 3 := ⟨hm_M_lays, by decide +kernel⟩
theorem a_M_lays_21 : zAt 108 21 m_M_lays (.return_) 1 := ⟨hm_M_lays, by decide +kernel⟩
theorem B_M_lays_0 {G : Nat → Nat → Int32} {ta fa : Nat} (ht : zSH[ta]? = some (.inr (.int, 327, []))) (hf : zSH[fa]? = some (.inr (.int, 327, []))) (htl : Nat.blt ta 1000000 = true) (hfl : Nat.blt fa 1000000 = true) : zden 108 0 [.ref ta, .ref fa, .retAddr 0] [] (zSH, G) = zden 108 2 [.ref ta, .ref fa, .int 0] [] (zSH, G) :=
  (zd_iconst (v := 0) a_M_lays_0 (by decide)).trans ((zd_istore_n a_M_lays_1 rfl rfl rfl))
theorem B_M_lays_2 {G : Nat → Nat → Int32} {ta fa : Nat} {x2 : Int32} (ht : zSH[ta]? = some (.inr (.int, 327, []))) (hf : zSH[fa]? = some (.inr (.int, 327, []))) (htl : Nat.blt ta 1000000 = true) (hfl : Nat.blt fa 1000000 = true) (z13_0 : (¬ (327 ≤ x2)) → zin x2 327 = true) : zden 108 2 [.ref ta, .ref fa, .int x2] [] (zSH, G) = if 327 ≤ x2 then some (none, (zSH, G)) else zden 108 2 [.ref ta, .ref fa, .int (x2 + 1)] [] (zSH, (zup G ta x2.toNatClampNeg (G fa x2.toNatClampNeg))) :=
  (zd_iload_n a_M_lays_2 rfl).trans ((zd_sipush (v := 327) a_M_lays_3 (by decide)).trans ((zd_icmp_ge a_M_lays_6 rfl).trans (zitc (fun p2 => zd_vret a_M_lays_21 rfl) (fun p2 => (zd_aload_n a_M_lays_9 rfl).trans ((zd_iload_n a_M_lays_10 rfl).trans ((zd_aload_n a_M_lays_11 rfl).trans ((zd_iload_n a_M_lays_12 rfl).trans ((zd_iald (h := (zSH, G)) a_M_lays_13 hf hfl).trans ((if_pos (z13_0 p2)).trans ((zd_iast (h := (zSH, G)) a_M_lays_14 ht).trans ((if_pos (z13_0 p2)).trans ((zd_iinc (v := 1) a_M_lays_15 rfl (by decide) rfl rfl rfl).trans ((zd_goto a_M_lays_18 rfl))))))))))))))
theorem a_M_begins_0 : zAt 107 0 m_M_begins (.aload_n 0) 1 := ⟨hm_M_begins, by decide +kernel⟩
theorem a_M_begins_1 : zAt 107 1 m_M_begins (.iconst 0) 1 := ⟨hm_M_begins, by decide +kernel⟩
theorem a_M_begins_2 : zAt 107 2 m_M_begins (.putfield 43) 3 := ⟨hm_M_begins, by decide +kernel⟩
theorem a_M_begins_5 : zAt 107 5 m_M_begins (.aload_n 0) 1 := ⟨hm_M_begins, by decide +kernel⟩
theorem a_M_begins_6 : zAt 107 6 m_M_begins (.getfield 13) 3 := ⟨hm_M_begins, by decide +kernel⟩
theorem a_M_begins_9 : zAt 107 9 m_M_begins (.aload_n 0) 1 := ⟨hm_M_begins, by decide +kernel⟩
theorem a_M_begins_10 : zAt 107 10 m_M_begins (.getfield 7) 3 := ⟨hm_M_begins, by decide +kernel⟩
theorem a_M_begins_13 : zAt 107 13 m_M_begins (.invokestatic 57) 3 := ⟨hm_M_begins, by decide +kernel⟩
theorem a_M_begins_16 : zAt 107 16 m_M_begins (.return_) 1 := ⟨hm_M_begins, by decide +kernel⟩
theorem B_M_begins_0 {G : Nat → Nat → Int32} : zden 107 0 [.ref 90] [] (zSH, G) = zaft 107 16 [.ref 90] [] (zSH, (zup G 90 0 0)) (zden 108 0 [.ref 92, .ref 91, .retAddr 0] [] (zSH, (zup G 90 0 0))) :=
  (zd_aload_n a_M_begins_0 rfl).trans ((zd_iconst (v := 0) a_M_begins_1 (by decide)).trans ((zd_putI (h := (zSH, G)) (ci := 8) (fi := 0) a_M_begins_2 (by decide +kernel) sh_90 rfl rfl).trans ((zd_aload_n a_M_begins_5 rfl).trans ((zd_getR (h := (zSH, (zup G 90 0 0))) (ci := 8) (fi := 6) (a := 92) a_M_begins_6 (by decide +kernel) sh_90 rfl rfl).trans ((zd_aload_n a_M_begins_9 rfl).trans ((zd_getR (h := (zSH, (zup G 90 0 0))) (ci := 8) (fi := 5) (a := 91) a_M_begins_10 (by decide +kernel) sh_90 rfl rfl).trans ((zd_cal (kd := 1) (tg := 108) (T := m_M_lays) a_M_begins_13 (by decide +kernel) hm_M_lays rfl rfl rfl rfl))))))))
theorem B_M_begins_16 {G : Nat → Nat → Int32} : zden 107 16 [.ref 90] [] (zSH, G) = some (none, (zSH, G)) :=
  zd_vret a_M_begins_16 rfl
theorem a_M_ends_0 : zAt 115 0 m_M_ends (.aload_n 0) 1 := ⟨hm_M_ends, by decide +kernel⟩
theorem a_M_ends_1 : zAt 115 1 m_M_ends (.getfield 43) 3 := ⟨hm_M_ends, by decide +kernel⟩
theorem a_M_ends_4 : zAt 115 4 m_M_ends (.ifCond .eq 19) 3 := ⟨hm_M_ends, by decide +kernel⟩
theorem a_M_ends_7 : zAt 115 7 m_M_ends (.aload_n 0) 1 := ⟨hm_M_ends, by decide +kernel⟩
theorem a_M_ends_8 : zAt 115 8 m_M_ends (.getfield 7) 3 := ⟨hm_M_ends, by decide +kernel⟩
theorem a_M_ends_11 : zAt 115 11 m_M_ends (.aload_n 0) 1 := ⟨hm_M_ends, by decide +kernel⟩
theorem a_M_ends_12 : zAt 115 12 m_M_ends (.getfield 13) 3 := ⟨hm_M_ends, by decide +kernel⟩
theorem a_M_ends_15 : zAt 115 15 m_M_ends (.invokestatic 57) 3 := ⟨hm_M_ends, by decide +kernel⟩
theorem a_M_ends_18 : zAt 115 18 m_M_ends (.aload_n 0) 1 := ⟨hm_M_ends, by decide +kernel⟩
theorem a_M_ends_19 : zAt 115 19 m_M_ends (.getfield 43) 3 := ⟨hm_M_ends, by decide +kernel⟩
theorem a_M_ends_22 : zAt 115 22 m_M_ends (.ireturn) 1 := ⟨hm_M_ends, by decide +kernel⟩
theorem a_M_ends_23 : zAt 115 23 m_M_ends (.aload_n 0) 1 := ⟨hm_M_ends, by decide +kernel⟩
theorem a_M_ends_24 : zAt 115 24 m_M_ends (.getfield 61) 3 := ⟨hm_M_ends, by decide +kernel⟩
theorem a_M_ends_27 : zAt 115 27 m_M_ends (.bipush 8) 2 := ⟨hm_M_ends, by decide +kernel⟩
theorem a_M_ends_29 : zAt 115 29 m_M_ends (.if_icmp .ne 44) 3 := ⟨hm_M_ends, by decide +kernel⟩
theorem a_M_ends_32 : zAt 115 32 m_M_ends (.iconst 0) 1 := ⟨hm_M_ends, by decide +kernel⟩
theorem a_M_ends_33 : zAt 115 33 m_M_ends (.istore_n 2) 1 := ⟨hm_M_ends, by decide +kernel⟩
theorem a_M_ends_34 : zAt 115 34 m_M_ends (.iload_n 2) 1 := ⟨hm_M_ends, by decide +kernel⟩
theorem a_M_ends_35 : zAt 115 35 m_M_ends (.sipush 2289) 3 := ⟨hm_M_ends, by decide +kernel⟩
theorem a_M_ends_38 : zAt 115 38 m_M_ends (.if_icmp .ge 25) 3 := ⟨hm_M_ends, by decide +kernel⟩
theorem a_M_ends_41 : zAt 115 41 m_M_ends (.aload_n 0) 1 := ⟨hm_M_ends, by decide +kernel⟩
theorem a_M_ends_42 : zAt 115 42 m_M_ends (.getfield 19) 3 := ⟨hm_M_ends, by decide +kernel⟩
theorem a_M_ends_45 : zAt 115 45 m_M_ends (.iload_n 2) 1 := ⟨hm_M_ends, by decide +kernel⟩
theorem a_M_ends_46 : zAt 115 46 m_M_ends (.aload_n 0) 1 := ⟨hm_M_ends, by decide +kernel⟩
theorem a_M_ends_47 : zAt 115 47 m_M_ends (.getfield 19) 3 := ⟨hm_M_ends, by decide +kernel⟩
theorem a_M_ends_50 : zAt 115 50 m_M_ends (.iload_n 2) 1 := ⟨hm_M_ends, by decide +kernel⟩
theorem a_M_ends_51 : zAt 115 51 m_M_ends (.sipush 327) 3 := ⟨hm_M_ends, by decide +kernel⟩
theorem a_M_ends_54 : zAt 115 54 m_M_ends (.iadd) 1 := ⟨hm_M_ends, by decide +kernel⟩
theorem a_M_ends_55 : zAt 115 55 m_M_ends (.iaload) 1 := ⟨hm_M_ends, by decide +kernel⟩
theorem a_M_ends_56 : zAt 115 56 m_M_ends (.iastore) 1 := ⟨hm_M_ends, by decide +kernel⟩
theorem a_M_ends_57 : zAt 115 57 m_M_ends (.iinc 2 1) 3 := ⟨hm_M_ends, by decide +kernel⟩
theorem a_M_ends_60 : zAt 115 60 m_M_ends (.goto (-26)) 3 := ⟨hm_M_ends, by decide +kernel⟩
theorem a_M_ends_63 : zAt 115 63 m_M_ends (.aload_n 0) 1 := ⟨hm_M_ends, by decide +kernel⟩
theorem a_M_ends_64 : zAt 115 64 m_M_ends (.dup) 1 := ⟨hm_M_ends, by decide +kernel⟩
theorem a_M_ends_65 : zAt 115 65 m_M_ends (.getfield 61) 3 := ⟨hm_M_ends, by decide +kernel⟩
theorem a_M_ends_68 : zAt 115 68 m_M_ends (.iconst 1) 1 := ⟨hm_M_ends, by decide +kernel⟩
theorem a_M_ends_69 : zAt 115 69 m_M_ends (.isub) 1 := ⟨hm_M_ends, by decide +kernel⟩
theorem a_M_ends_70 : zAt 115 70 m_M_ends (.putfield 61) 3 := ⟨hm_M_ends, by decide +kernel⟩
theorem a_M_ends_73 : zAt 115 73 m_M_ends (.iconst 0) 1 := ⟨hm_M_ends, by decide +kernel⟩
theorem a_M_ends_74 : zAt 115 74 m_M_ends (.istore_n 2) 1 := ⟨hm_M_ends, by decide +kernel⟩
theorem a_M_ends_75 : zAt 115 75 m_M_ends (.iload_n 2) 1 := ⟨hm_M_ends, by decide +kernel⟩
theorem a_M_ends_76 : zAt 115 76 m_M_ends (.sipush 327) 3 := ⟨hm_M_ends, by decide +kernel⟩
theorem a_M_ends_79 : zAt 115 79 m_M_ends (.if_icmp .ge 30) 3 := ⟨hm_M_ends, by decide +kernel⟩
theorem a_M_ends_82 : zAt 115 82 m_M_ends (.aload_n 0) 1 := ⟨hm_M_ends, by decide +kernel⟩
theorem a_M_ends_83 : zAt 115 83 m_M_ends (.getfield 19) 3 := ⟨hm_M_ends, by decide +kernel⟩
theorem a_M_ends_86 : zAt 115 86 m_M_ends (.aload_n 0) 1 := ⟨hm_M_ends, by decide +kernel⟩
theorem a_M_ends_87 : zAt 115 87 m_M_ends (.getfield 61) 3 := ⟨hm_M_ends, by decide +kernel⟩
theorem a_M_ends_90 : zAt 115 90 m_M_ends (.sipush 327) 3 := ⟨hm_M_ends, by decide +kernel⟩
theorem a_M_ends_93 : zAt 115 93 m_M_ends (.imul) 1 := ⟨hm_M_ends, by decide +kernel⟩
theorem a_M_ends_94 : zAt 115 94 m_M_ends (.iload_n 2) 1 := ⟨hm_M_ends, by decide +kernel⟩
theorem a_M_ends_95 : zAt 115 95 m_M_ends (.iadd) 1 := ⟨hm_M_ends, by decide +kernel⟩
theorem a_M_ends_96 : zAt 115 96 m_M_ends (.aload_n 0) 1 := ⟨hm_M_ends, by decide +kernel⟩
theorem a_M_ends_97 : zAt 115 97 m_M_ends (.getfield 13) 3 := ⟨hm_M_ends, by decide +kernel⟩
theorem a_M_ends_100 : zAt 115 100 m_M_ends (.iload_n 2) 1 := ⟨hm_M_ends, by decide +kernel⟩
theorem a_M_ends_101 : zAt 115 101 m_M_ends (.iaload) 1 := ⟨hm_M_ends, by decide +kernel⟩
theorem a_M_ends_102 : zAt 115 102 m_M_ends (.iastore) 1 := ⟨hm_M_ends, by decide +kernel⟩
theorem a_M_ends_103 : zAt 115 103 m_M_ends (.iinc 2 1) 3 := ⟨hm_M_ends, by decide +kernel⟩
theorem a_M_ends_106 : zAt 115 106 m_M_ends (.goto (-31)) 3 := ⟨hm_M_ends, by decide +kernel⟩
theorem a_M_ends_109 : zAt 115 109 m_M_ends (.aload_n 0) 1 := ⟨hm_M_ends, by decide +kernel⟩
theorem a_M_ends_110 : zAt 115 110 m_M_ends (.dup) 1 := ⟨hm_M_ends, by decide +kernel⟩
theorem a_M_ends_111 : zAt 115 111 m_M_ends (.getfield 61) 3 := ⟨hm_M_ends, by decide +kernel⟩
theorem a_M_ends_114 : zAt 115 114 m_M_ends (.iconst 1) 1 := ⟨hm_M_ends, by decide +kernel⟩
theorem a_M_ends_115 : zAt 115 115 m_M_ends (.iadd) 1 := ⟨hm_M_ends, by decide +kernel⟩
theorem a_M_ends_116 : zAt 115 116 m_M_ends (.putfield 61) 3 := ⟨hm_M_ends, by decide +kernel⟩
theorem a_M_ends_119 : zAt 115 119 m_M_ends (.iload_n 1) 1 := ⟨hm_M_ends, by decide +kernel⟩
theorem a_M_ends_120 : zAt 115 120 m_M_ends (.ireturn) 1 := ⟨hm_M_ends, by decide +kernel⟩
theorem B_M_ends_0 {G : Nat → Nat → Int32} {x1 : Int32} : zden 115 0 [.ref 90, .int x1, .retAddr 0] [] (zSH, G) = if (G 90 0) = 0 then if ¬ (G 90 1) = 8 then zden 115 73 [.ref 90, .int x1, .retAddr 0] [] (zSH, G) else zden 115 34 [.ref 90, .int x1, .int 0] [] (zSH, G) else zaft 115 18 [.ref 90, .int x1, .retAddr 0] [] (zSH, G) (zden 108 0 [.ref 91, .ref 92, .retAddr 0] [] (zSH, G)) :=
  (zd_aload_n a_M_ends_0 rfl).trans ((zd_getI (h := (zSH, G)) (ci := 8) (fi := 0) a_M_ends_1 (by decide +kernel) sh_90 rfl).trans ((zd_if_eq a_M_ends_4 rfl).trans (zitc (fun p10 => (zd_aload_n a_M_ends_23 rfl).trans ((zd_getI (h := (zSH, G)) (ci := 8) (fi := 1) a_M_ends_24 (by decide +kernel) sh_90 rfl).trans ((zd_bipush (v := 8) a_M_ends_27 (by decide)).trans ((zd_icmp_ne a_M_ends_29 rfl).trans (zitc (fun p11 => rfl) (fun p11 => (zd_iconst (v := 0) a_M_ends_32 (by decide)).trans ((zd_istore_n a_M_ends_33 rfl rfl rfl)))))))) (fun p10 => (zd_aload_n a_M_ends_7 rfl).trans ((zd_getR (h := (zSH, G)) (ci := 8) (fi := 5) (a := 91) a_M_ends_8 (by decide +kernel) sh_90 rfl rfl).trans ((zd_aload_n a_M_ends_11 rfl).trans ((zd_getR (h := (zSH, G)) (ci := 8) (fi := 6) (a := 92) a_M_ends_12 (by decide +kernel) sh_90 rfl rfl).trans ((zd_cal (kd := 1) (tg := 108) (T := m_M_lays) a_M_ends_15 (by decide +kernel) hm_M_lays rfl rfl rfl rfl)))))))))
theorem B_M_ends_18 {G : Nat → Nat → Int32} {x1 : Int32} : zden 115 18 [.ref 90, .int x1, .retAddr 0] [] (zSH, G) = some (some (.int (G 90 0)), (zSH, G)) :=
  (zd_aload_n a_M_ends_18 rfl).trans ((zd_getI (h := (zSH, G)) (ci := 8) (fi := 0) a_M_ends_19 (by decide +kernel) sh_90 rfl).trans (zd_iret a_M_ends_22 rfl (znr_int _)))
theorem B_M_ends_34 {G : Nat → Nat → Int32} {x1 x2 : Int32} (z55_0 : (¬ (2289 ≤ x2)) → zin (x2 + 327) 2616 = true) (z56_1 : (¬ (2289 ≤ x2)) → zin x2 2616 = true) : zden 115 34 [.ref 90, .int x1, .int x2] [] (zSH, G) = if 2289 ≤ x2 then zden 115 73 [.ref 90, .int x1, .int x2] [] (zSH, (zup G 90 1 ((G 90 1) - 1))) else zden 115 34 [.ref 90, .int x1, .int (x2 + 1)] [] (zSH, (zup G 94 x2.toNatClampNeg (G 94 (x2 + 327).toNatClampNeg))) :=
  (zd_iload_n a_M_ends_34 rfl).trans ((zd_sipush (v := 2289) a_M_ends_35 (by decide)).trans ((zd_icmp_ge a_M_ends_38 rfl).trans (zitc (fun p12 => (zd_aload_n a_M_ends_63 rfl).trans ((zd_num (st2 := [.ref 90, .ref 90]) a_M_ends_64 rfl rfl rfl rfl).trans ((zd_getI (h := (zSH, G)) (ci := 8) (fi := 1) a_M_ends_65 (by decide +kernel) sh_90 rfl).trans ((zd_iconst (v := 1) a_M_ends_68 (by decide)).trans ((zd_num (st2 := [.int ((G 90 1) - 1), .ref 90]) a_M_ends_69 rfl rfl rfl rfl).trans ((zd_putI (h := (zSH, G)) (ci := 8) (fi := 1) a_M_ends_70 (by decide +kernel) sh_90 rfl rfl))))))) (fun p12 => (zd_aload_n a_M_ends_41 rfl).trans ((zd_getR (h := (zSH, G)) (ci := 8) (fi := 8) (a := 94) a_M_ends_42 (by decide +kernel) sh_90 rfl rfl).trans ((zd_iload_n a_M_ends_45 rfl).trans ((zd_aload_n a_M_ends_46 rfl).trans ((zd_getR (h := (zSH, G)) (ci := 8) (fi := 8) (a := 94) a_M_ends_47 (by decide +kernel) sh_90 rfl rfl).trans ((zd_iload_n a_M_ends_50 rfl).trans ((zd_sipush (v := 327) a_M_ends_51 (by decide)).trans ((zd_num (st2 := [.int (x2 + 327), .ref 94, .int x2, .ref 94]) a_M_ends_54 rfl rfl rfl rfl).trans ((zd_iald (h := (zSH, G)) a_M_ends_55 sh_94 rfl).trans ((if_pos (z55_0 p12)).trans ((zd_iast (h := (zSH, G)) a_M_ends_56 sh_94).trans ((if_pos (z56_1 p12)).trans ((zd_iinc (v := 1) a_M_ends_57 rfl (by decide) rfl rfl rfl).trans ((zd_goto a_M_ends_60 rfl))))))))))))))))))
theorem B_M_ends_73 {G : Nat → Nat → Int32} {x1 : Int32} {v2 : Value} : zden 115 73 [.ref 90, .int x1, v2] [] (zSH, G) = zden 115 75 [.ref 90, .int x1, .int 0] [] (zSH, G) :=
  (zd_iconst (v := 0) a_M_ends_73 (by decide)).trans ((zd_istore_n a_M_ends_74 rfl rfl rfl))
theorem B_M_ends_75 {G : Nat → Nat → Int32} {x1 x2 : Int32} (z101_0 : (¬ (327 ≤ x2)) → zin x2 327 = true) (z102_1 : (¬ (327 ≤ x2)) → zin (((G 90 1) * 327) + x2) 2616 = true) : zden 115 75 [.ref 90, .int x1, .int x2] [] (zSH, G) = if 327 ≤ x2 then some (some (.int x1), (zSH, (zup G 90 1 ((G 90 1) + 1)))) else zden 115 75 [.ref 90, .int x1, .int (x2 + 1)] [] (zSH, (zup G 94 (((G 90 1) * 327) + x2).toNatClampNeg (G 92 x2.toNatClampNeg))) :=
  (zd_iload_n a_M_ends_75 rfl).trans ((zd_sipush (v := 327) a_M_ends_76 (by decide)).trans ((zd_icmp_ge a_M_ends_79 rfl).trans (zitc (fun p13 => (zd_aload_n a_M_ends_109 rfl).trans ((zd_num (st2 := [.ref 90, .ref 90]) a_M_ends_110 rfl rfl rfl rfl).trans ((zd_getI (h := (zSH, G)) (ci := 8) (fi := 1) a_M_ends_111 (by decide +kernel) sh_90 rfl).trans ((zd_iconst (v := 1) a_M_ends_114 (by decide)).trans ((zd_num (st2 := [.int ((G 90 1) + 1), .ref 90]) a_M_ends_115 rfl rfl rfl rfl).trans ((zd_putI (h := (zSH, G)) (ci := 8) (fi := 1) a_M_ends_116 (by decide +kernel) sh_90 rfl rfl).trans ((zd_iload_n a_M_ends_119 rfl).trans (zd_iret a_M_ends_120 rfl (znr_int _))))))))) (fun p13 => (zd_aload_n a_M_ends_82 rfl).trans ((zd_getR (h := (zSH, G)) (ci := 8) (fi := 8) (a := 94) a_M_ends_83 (by decide +kernel) sh_90 rfl rfl).trans ((zd_aload_n a_M_ends_86 rfl).trans ((zd_getI (h := (zSH, G)) (ci := 8) (fi := 1) a_M_ends_87 (by decide +kernel) sh_90 rfl).trans ((zd_sipush (v := 327) a_M_ends_90 (by decide)).trans ((zd_num (st2 := [.int ((G 90 1) * 327), .ref 94]) a_M_ends_93 rfl rfl rfl rfl).trans ((zd_iload_n a_M_ends_94 rfl).trans ((zd_num (st2 := [.int (((G 90 1) * 327) + x2), .ref 94]) a_M_ends_95 rfl rfl rfl rfl).trans ((zd_aload_n a_M_ends_96 rfl).trans ((zd_getR (h := (zSH, G)) (ci := 8) (fi := 6) (a := 92) a_M_ends_97 (by decide +kernel) sh_90 rfl rfl).trans ((zd_iload_n a_M_ends_100 rfl).trans ((zd_iald (h := (zSH, G)) a_M_ends_101 sh_92 rfl).trans ((if_pos (z101_0 p13)).trans ((zd_iast (h := (zSH, G)) a_M_ends_102 sh_94).trans ((if_pos (z102_1 p13)).trans ((zd_iinc (v := 1) a_M_ends_103 rfl (by decide) rfl rfl rfl).trans ((zd_goto a_M_ends_106 rfl)))))))))))))))))))))
theorem a_M_placeOf_0 : zAt 112 0 m_M_placeOf (.iconst 0) 1 := ⟨hm_M_placeOf, by decide +kernel⟩
theorem a_M_placeOf_1 : zAt 112 1 m_M_placeOf (.istore_n 2) 1 := ⟨hm_M_placeOf, by decide +kernel⟩
theorem a_M_placeOf_2 : zAt 112 2 m_M_placeOf (.iload_n 2) 1 := ⟨hm_M_placeOf, by decide +kernel⟩
theorem a_M_placeOf_3 : zAt 112 3 m_M_placeOf (.aload_n 0) 1 := ⟨hm_M_placeOf, by decide +kernel⟩
theorem a_M_placeOf_4 : zAt 112 4 m_M_placeOf (.getfield 7) 3 := ⟨hm_M_placeOf, by decide +kernel⟩
theorem a_M_placeOf_7 : zAt 112 7 m_M_placeOf (.iconst 1) 1 := ⟨hm_M_placeOf, by decide +kernel⟩
theorem a_M_placeOf_8 : zAt 112 8 m_M_placeOf (.iaload) 1 := ⟨hm_M_placeOf, by decide +kernel⟩
theorem a_M_placeOf_9 : zAt 112 9 m_M_placeOf (.if_icmp .gt 21) 3 := ⟨hm_M_placeOf, by decide +kernel⟩
theorem a_M_placeOf_12 : zAt 112 12 m_M_placeOf (.aload_n 0) 1 := ⟨hm_M_placeOf, by decide +kernel⟩
theorem a_M_placeOf_13 : zAt 112 13 m_M_placeOf (.iload_n 2) 1 := ⟨hm_M_placeOf, by decide +kernel⟩
theorem a_M_placeOf_14 : zAt 112 14 m_M_placeOf (.iconst 0) 1 := ⟨hm_M_placeOf, by decide +kernel⟩
theorem a_M_placeOf_15 : zAt 112 15 m_M_placeOf (.invokevirtual 68) 3 := ⟨hm_M_placeOf, by decide +kernel⟩
theorem a_M_placeOf_18 : zAt 112 18 m_M_placeOf (.iload_n 1) 1 := ⟨hm_M_placeOf, by decide +kernel⟩
theorem a_M_placeOf_19 : zAt 112 19 m_M_placeOf (.if_icmp .ne 5) 3 := ⟨hm_M_placeOf, by decide +kernel⟩
theorem a_M_placeOf_22 : zAt 112 22 m_M_placeOf (.iload_n 2) 1 := ⟨hm_M_placeOf, by decide +kernel⟩
theorem a_M_placeOf_23 : zAt 112 23 m_M_placeOf (.ireturn) 1 := ⟨hm_M_placeOf, by decide +kernel⟩
theorem a_M_placeOf_24 : zAt 112 24 m_M_placeOf (.iinc 2 1) 3 := ⟨hm_M_placeOf, by decide +kernel⟩
theorem a_M_placeOf_27 : zAt 112 27 m_M_placeOf (.goto (-25)) 3 := ⟨hm_M_placeOf, by decide +kernel⟩
theorem a_M_placeOf_30 : zAt 112 30 m_M_placeOf (.iconst (-1)) 1 := ⟨hm_M_placeOf, by decide +kernel⟩
theorem a_M_placeOf_31 : zAt 112 31 m_M_placeOf (.ireturn) 1 := ⟨hm_M_placeOf, by decide +kernel⟩
theorem B_M_placeOf_0 {G : Nat → Nat → Int32} {x1 : Int32} : zden 112 0 [.ref 90, .int x1, .retAddr 0] [] (zSH, G) = zden 112 2 [.ref 90, .int x1, .int 0] [] (zSH, G) :=
  (zd_iconst (v := 0) a_M_placeOf_0 (by decide)).trans ((zd_istore_n a_M_placeOf_1 rfl rfl rfl))
theorem B_M_placeOf_2 {G : Nat → Nat → Int32} {x1 x2 : Int32} (z15_0 : (¬ ((G 91 1) < x2)) → mhok G x2 0) : zden 112 2 [.ref 90, .int x1, .int x2] [] (zSH, G) = if (G 91 1) < x2 then some (some (.int (-1)), (zSH, G)) else if ¬ (mhead G x2 0) = x1 then zden 112 2 [.ref 90, .int x1, .int (x2 + 1)] [] (zSH, G) else some (some (.int x2), (zSH, G)) :=
  (zd_iload_n a_M_placeOf_2 rfl).trans ((zd_aload_n a_M_placeOf_3 rfl).trans ((zd_getR (h := (zSH, G)) (ci := 8) (fi := 5) (a := 91) a_M_placeOf_4 (by decide +kernel) sh_90 rfl rfl).trans ((zd_iconst (v := 1) a_M_placeOf_7 (by decide)).trans ((zd_iald (h := (zSH, G)) a_M_placeOf_8 sh_91 rfl).trans ((if_pos (by decide)).trans ((zd_icmp_gt a_M_placeOf_9 rfl).trans (zitc (fun p3 => (zd_iconst (v := (-1)) a_M_placeOf_30 (by decide)).trans (zd_iret a_M_placeOf_31 rfl (znr_int _))) (fun p3 => (zd_aload_n a_M_placeOf_12 rfl).trans ((zd_iload_n a_M_placeOf_13 rfl).trans ((zd_iconst (v := 0) a_M_placeOf_14 (by decide)).trans ((zd_cal (kd := 0) (tg := 113) (T := m_M_head) a_M_placeOf_15 (by decide +kernel) hm_M_head rfl rfl rfl rfl).trans (((congrArg (zaft 112 18 [.ref 90, .int x1, .int x2] [] (zSH, G)) (ms_head (z15_0 p3))).trans zaft_same).trans ((zd_iload_n a_M_placeOf_18 rfl).trans ((zd_icmp_ne a_M_placeOf_19 rfl).trans (zitc (fun p4 => (zd_iinc (v := 1) a_M_placeOf_24 rfl (by decide) rfl rfl rfl).trans ((zd_goto a_M_placeOf_27 rfl))) (fun p4 => (zd_iload_n a_M_placeOf_22 rfl).trans (zd_iret a_M_placeOf_23 rfl (znr_int _))))))))))))))))))
theorem a_M_setsUp_0 : zAt 109 0 m_M_setsUp (.iload_n 1) 1 := ⟨hm_M_setsUp, by decide +kernel⟩
theorem a_M_setsUp_1 : zAt 109 1 m_M_setsUp (.iconst 1) 1 := ⟨hm_M_setsUp, by decide +kernel⟩
theorem a_M_setsUp_2 : zAt 109 2 m_M_setsUp (.bipush 98) 2 := ⟨hm_M_setsUp, by decide +kernel⟩
theorem a_M_setsUp_4 : zAt 109 4 m_M_setsUp (.invokestatic 64) 3 := ⟨hm_M_setsUp, by decide +kernel⟩
theorem a_M_setsUp_7 : zAt 109 7 m_M_setsUp (.ifCond .eq 43) 3 := ⟨hm_M_setsUp, by decide +kernel⟩
theorem a_M_setsUp_10 : zAt 109 10 m_M_setsUp (.iload_n 2) 1 := ⟨hm_M_setsUp, by decide +kernel⟩
theorem a_M_setsUp_11 : zAt 109 11 m_M_setsUp (.iconst 0) 1 := ⟨hm_M_setsUp, by decide +kernel⟩
theorem a_M_setsUp_12 : zAt 109 12 m_M_setsUp (.iconst 4) 1 := ⟨hm_M_setsUp, by decide +kernel⟩
theorem a_M_setsUp_13 : zAt 109 13 m_M_setsUp (.invokestatic 64) 3 := ⟨hm_M_setsUp, by decide +kernel⟩
theorem a_M_setsUp_16 : zAt 109 16 m_M_setsUp (.ifCond .eq 34) 3 := ⟨hm_M_setsUp, by decide +kernel⟩
theorem a_M_setsUp_19 : zAt 109 19 m_M_setsUp (.iload_n 3) 1 := ⟨hm_M_setsUp, by decide +kernel⟩
theorem a_M_setsUp_20 : zAt 109 20 m_M_setsUp (.iconst 0) 1 := ⟨hm_M_setsUp, by decide +kernel⟩
theorem a_M_setsUp_21 : zAt 109 21 m_M_setsUp (.iconst 3) 1 := ⟨hm_M_setsUp, by decide +kernel⟩
theorem a_M_setsUp_22 : zAt 109 22 m_M_setsUp (.invokestatic 64) 3 := ⟨hm_M_setsUp, by decide +kernel⟩
theorem a_M_setsUp_25 : zAt 109 25 m_M_setsUp (.ifCond .eq 25) 3 := ⟨hm_M_setsUp, by decide +kernel⟩
theorem a_M_setsUp_28 : zAt 109 28 m_M_setsUp (.iload 4) 2 := ⟨hm_M_setsUp, by decide +kernel⟩
theorem a_M_setsUp_30 : zAt 109 30 m_M_setsUp (.iconst 0) 1 := ⟨hm_M_setsUp, by decide +kernel⟩
theorem a_M_setsUp_31 : zAt 109 31 m_M_setsUp (.bipush 60) 2 := ⟨hm_M_setsUp, by decide +kernel⟩
theorem a_M_setsUp_33 : zAt 109 33 m_M_setsUp (.invokestatic 64) 3 := ⟨hm_M_setsUp, by decide +kernel⟩
theorem a_M_setsUp_36 : zAt 109 36 m_M_setsUp (.ifCond .eq 14) 3 := ⟨hm_M_setsUp, by decide +kernel⟩
theorem a_M_setsUp_39 : zAt 109 39 m_M_setsUp (.iload 5) 2 := ⟨hm_M_setsUp, by decide +kernel⟩
theorem a_M_setsUp_41 : zAt 109 41 m_M_setsUp (.iconst 0) 1 := ⟨hm_M_setsUp, by decide +kernel⟩
theorem a_M_setsUp_42 : zAt 109 42 m_M_setsUp (.bipush 20) 2 := ⟨hm_M_setsUp, by decide +kernel⟩
theorem a_M_setsUp_44 : zAt 109 44 m_M_setsUp (.invokestatic 64) 3 := ⟨hm_M_setsUp, by decide +kernel⟩
theorem a_M_setsUp_47 : zAt 109 47 m_M_setsUp (.ifCond .ne 10) 3 := ⟨hm_M_setsUp, by decide +kernel⟩
theorem a_M_setsUp_50 : zAt 109 50 m_M_setsUp (.aload_n 0) 1 := ⟨hm_M_setsUp, by decide +kernel⟩
theorem a_M_setsUp_51 : zAt 109 51 m_M_setsUp (.bipush (-12)) 2 := ⟨hm_M_setsUp, by decide +kernel⟩
theorem a_M_setsUp_53 : zAt 109 53 m_M_setsUp (.invokevirtual 53) 3 := ⟨hm_M_setsUp, by decide +kernel⟩
theorem a_M_setsUp_56 : zAt 109 56 m_M_setsUp (.ireturn) 1 := ⟨hm_M_setsUp, by decide +kernel⟩
theorem a_M_setsUp_57 : zAt 109 57 m_M_setsUp (.aload_n 0) 1 := ⟨hm_M_setsUp, by decide +kernel⟩
theorem a_M_setsUp_58 : zAt 109 58 m_M_setsUp (.iload_n 1) 1 := ⟨hm_M_setsUp, by decide +kernel⟩
theorem a_M_setsUp_59 : zAt 109 59 m_M_setsUp (.invokevirtual 72) 3 := ⟨hm_M_setsUp, by decide +kernel⟩
theorem a_M_setsUp_62 : zAt 109 62 m_M_setsUp (.ifCond .lt 10) 3 := ⟨hm_M_setsUp, by decide +kernel⟩
theorem a_M_setsUp_65 : zAt 109 65 m_M_setsUp (.aload_n 0) 1 := ⟨hm_M_setsUp, by decide +kernel⟩
theorem a_M_setsUp_66 : zAt 109 66 m_M_setsUp (.iconst 2) 1 := ⟨hm_M_setsUp, by decide +kernel⟩
theorem a_M_setsUp_67 : zAt 109 67 m_M_setsUp (.iload_n 1) 1 := ⟨hm_M_setsUp, by decide +kernel⟩
theorem a_M_setsUp_68 : zAt 109 68 m_M_setsUp (.invokevirtual 75) 3 := ⟨hm_M_setsUp, by decide +kernel⟩
theorem a_M_setsUp_71 : zAt 109 71 m_M_setsUp (.ireturn) 1 := ⟨hm_M_setsUp, by decide +kernel⟩
theorem a_M_setsUp_72 : zAt 109 72 m_M_setsUp (.aload_n 0) 1 := ⟨hm_M_setsUp, by decide +kernel⟩
theorem a_M_setsUp_73 : zAt 109 73 m_M_setsUp (.getfield 7) 3 := ⟨hm_M_setsUp, by decide +kernel⟩
theorem a_M_setsUp_76 : zAt 109 76 m_M_setsUp (.iconst 1) 1 := ⟨hm_M_setsUp, by decide +kernel⟩
theorem a_M_setsUp_77 : zAt 109 77 m_M_setsUp (.iaload) 1 := ⟨hm_M_setsUp, by decide +kernel⟩
theorem a_M_setsUp_78 : zAt 109 78 m_M_setsUp (.istore 6) 2 := ⟨hm_M_setsUp, by decide +kernel⟩
theorem a_M_setsUp_80 : zAt 109 80 m_M_setsUp (.iload 6) 2 := ⟨hm_M_setsUp, by decide +kernel⟩
theorem a_M_setsUp_82 : zAt 109 82 m_M_setsUp (.bipush 10) 2 := ⟨hm_M_setsUp, by decide +kernel⟩
theorem a_M_setsUp_84 : zAt 109 84 m_M_setsUp (.if_icmp .ne 11) 3 := ⟨hm_M_setsUp, by decide +kernel⟩
theorem a_M_setsUp_87 : zAt 109 87 m_M_setsUp (.aload_n 0) 1 := ⟨hm_M_setsUp, by decide +kernel⟩
theorem a_M_setsUp_88 : zAt 109 88 m_M_setsUp (.iconst 1) 1 := ⟨hm_M_setsUp, by decide +kernel⟩
theorem a_M_setsUp_89 : zAt 109 89 m_M_setsUp (.bipush 10) 2 := ⟨hm_M_setsUp, by decide +kernel⟩
theorem a_M_setsUp_91 : zAt 109 91 m_M_setsUp (.invokevirtual 75) 3 := ⟨hm_M_setsUp, by decide +kernel⟩
theorem a_M_setsUp_94 : zAt 109 94 m_M_setsUp (.ireturn) 1 := ⟨hm_M_setsUp, by decide +kernel⟩
theorem a_M_setsUp_95 : zAt 109 95 m_M_setsUp (.iload 6) 2 := ⟨hm_M_setsUp, by decide +kernel⟩
theorem a_M_setsUp_97 : zAt 109 97 m_M_setsUp (.ifCond .le 69) 3 := ⟨hm_M_setsUp, by decide +kernel⟩
theorem a_M_setsUp_100 : zAt 109 100 m_M_setsUp (.aload_n 0) 1 := ⟨hm_M_setsUp, by decide +kernel⟩
theorem a_M_setsUp_101 : zAt 109 101 m_M_setsUp (.iload 6) 2 := ⟨hm_M_setsUp, by decide +kernel⟩
theorem a_M_setsUp_103 : zAt 109 103 m_M_setsUp (.iconst 1) 1 := ⟨hm_M_setsUp, by decide +kernel⟩
theorem a_M_setsUp_104 : zAt 109 104 m_M_setsUp (.isub) 1 := ⟨hm_M_setsUp, by decide +kernel⟩
theorem a_M_setsUp_105 : zAt 109 105 m_M_setsUp (.iconst 0) 1 := ⟨hm_M_setsUp, by decide +kernel⟩
theorem a_M_setsUp_106 : zAt 109 106 m_M_setsUp (.invokevirtual 68) 3 := ⟨hm_M_setsUp, by decide +kernel⟩
theorem a_M_setsUp_109 : zAt 109 109 m_M_setsUp (.iload_n 1) 1 := ⟨hm_M_setsUp, by decide +kernel⟩
theorem a_M_setsUp_110 : zAt 109 110 m_M_setsUp (.if_icmp .le 56) 3 := ⟨hm_M_setsUp, by decide +kernel⟩
theorem a_M_setsUp_113 : zAt 109 113 m_M_setsUp (.iconst 0) 1 := ⟨hm_M_setsUp, by decide +kernel⟩
theorem a_M_setsUp_114 : zAt 109 114 m_M_setsUp (.istore 7) 2 := ⟨hm_M_setsUp, by decide +kernel⟩
theorem a_M_setsUp_116 : zAt 109 116 m_M_setsUp (.iload 7) 2 := ⟨hm_M_setsUp, by decide +kernel⟩
theorem a_M_setsUp_118 : zAt 109 118 m_M_setsUp (.iconst 5) 1 := ⟨hm_M_setsUp, by decide +kernel⟩
theorem a_M_setsUp_119 : zAt 109 119 m_M_setsUp (.if_icmp .ge 41) 3 := ⟨hm_M_setsUp, by decide +kernel⟩
theorem a_M_setsUp_122 : zAt 109 122 m_M_setsUp (.aload_n 0) 1 := ⟨hm_M_setsUp, by decide +kernel⟩
theorem a_M_setsUp_123 : zAt 109 123 m_M_setsUp (.getfield 7) 3 := ⟨hm_M_setsUp, by decide +kernel⟩
theorem a_M_setsUp_126 : zAt 109 126 m_M_setsUp (.bipush 13) 2 := ⟨hm_M_setsUp, by decide +kernel⟩
theorem a_M_setsUp_128 : zAt 109 128 m_M_setsUp (.iconst 5) 1 := ⟨hm_M_setsUp, by decide +kernel⟩
theorem a_M_setsUp_129 : zAt 109 129 m_M_setsUp (.iload 6) 2 := ⟨hm_M_setsUp, by decide +kernel⟩
theorem a_M_setsUp_131 : zAt 109 131 m_M_setsUp (.imul) 1 := ⟨hm_M_setsUp, by decide +kernel⟩
theorem a_M_setsUp_132 : zAt 109 132 m_M_setsUp (.iadd) 1 := ⟨hm_M_setsUp, by decide +kernel⟩
theorem a_M_setsUp_133 : zAt 109 133 m_M_setsUp (.iload 7) 2 := ⟨hm_M_setsUp, by decide +kernel⟩
theorem a_M_setsUp_135 : zAt 109 135 m_M_setsUp (.iadd) 1 := ⟨hm_M_setsUp, by decide +kernel⟩
theorem a_M_setsUp_136 : zAt 109 136 m_M_setsUp (.aload_n 0) 1 := ⟨hm_M_setsUp, by decide +kernel⟩
theorem a_M_setsUp_137 : zAt 109 137 m_M_setsUp (.getfield 7) 3 := ⟨hm_M_setsUp, by decide +kernel⟩
theorem a_M_setsUp_140 : zAt 109 140 m_M_setsUp (.bipush 13) 2 := ⟨hm_M_setsUp, by decide +kernel⟩
theorem a_M_setsUp_142 : zAt 109 142 m_M_setsUp (.iconst 5) 1 := ⟨hm_M_setsUp, by decide +kernel⟩
theorem a_M_setsUp_143 : zAt 109 143 m_M_setsUp (.iload 6) 2 := ⟨hm_M_setsUp, by decide +kernel⟩
theorem a_M_setsUp_145 : zAt 109 145 m_M_setsUp (.imul) 1 := ⟨hm_M_setsUp, by decide +kernel⟩
theorem a_M_setsUp_146 : zAt 109 146 m_M_setsUp (.iadd) 1 := ⟨hm_M_setsUp, by decide +kernel⟩
theorem a_M_setsUp_147 : zAt 109 147 m_M_setsUp (.iconst 5) 1 := ⟨hm_M_setsUp, by decide +kernel⟩
theorem a_M_setsUp_148 : zAt 109 148 m_M_setsUp (.isub) 1 := ⟨hm_M_setsUp, by decide +kernel⟩
theorem a_M_setsUp_149 : zAt 109 149 m_M_setsUp (.iload 7) 2 := ⟨hm_M_setsUp, by decide +kernel⟩
theorem a_M_setsUp_151 : zAt 109 151 m_M_setsUp (.iadd) 1 := ⟨hm_M_setsUp, by decide +kernel⟩
theorem a_M_setsUp_152 : zAt 109 152 m_M_setsUp (.iaload) 1 := ⟨hm_M_setsUp, by decide +kernel⟩
theorem a_M_setsUp_153 : zAt 109 153 m_M_setsUp (.iastore) 1 := ⟨hm_M_setsUp, by decide +kernel⟩
theorem a_M_setsUp_154 : zAt 109 154 m_M_setsUp (.iinc 7 1) 3 := ⟨hm_M_setsUp, by decide +kernel⟩
theorem a_M_setsUp_157 : zAt 109 157 m_M_setsUp (.goto (-41)) 3 := ⟨hm_M_setsUp, by decide +kernel⟩
theorem a_M_setsUp_160 : zAt 109 160 m_M_setsUp (.iinc 6 (-1)) 3 := ⟨hm_M_setsUp, by decide +kernel⟩
theorem a_M_setsUp_163 : zAt 109 163 m_M_setsUp (.goto (-68)) 3 := ⟨hm_M_setsUp, by decide +kernel⟩
theorem a_M_setsUp_166 : zAt 109 166 m_M_setsUp (.aload_n 0) 1 := ⟨hm_M_setsUp, by decide +kernel⟩
theorem a_M_setsUp_167 : zAt 109 167 m_M_setsUp (.getfield 7) 3 := ⟨hm_M_setsUp, by decide +kernel⟩
theorem a_M_setsUp_170 : zAt 109 170 m_M_setsUp (.bipush 13) 2 := ⟨hm_M_setsUp, by decide +kernel⟩
theorem a_M_setsUp_172 : zAt 109 172 m_M_setsUp (.iconst 5) 1 := ⟨hm_M_setsUp, by decide +kernel⟩
theorem a_M_setsUp_173 : zAt 109 173 m_M_setsUp (.iload 6) 2 := ⟨hm_M_setsUp, by decide +kernel⟩
theorem a_M_setsUp_175 : zAt 109 175 m_M_setsUp (.imul) 1 := ⟨hm_M_setsUp, by decide +kernel⟩
theorem a_M_setsUp_176 : zAt 109 176 m_M_setsUp (.iadd) 1 := ⟨hm_M_setsUp, by decide +kernel⟩
theorem a_M_setsUp_177 : zAt 109 177 m_M_setsUp (.iconst 0) 1 := ⟨hm_M_setsUp, by decide +kernel⟩
theorem a_M_setsUp_178 : zAt 109 178 m_M_setsUp (.iadd) 1 := ⟨hm_M_setsUp, by decide +kernel⟩
theorem a_M_setsUp_179 : zAt 109 179 m_M_setsUp (.iload_n 1) 1 := ⟨hm_M_setsUp, by decide +kernel⟩
theorem a_M_setsUp_180 : zAt 109 180 m_M_setsUp (.iastore) 1 := ⟨hm_M_setsUp, by decide +kernel⟩
theorem a_M_setsUp_181 : zAt 109 181 m_M_setsUp (.aload_n 0) 1 := ⟨hm_M_setsUp, by decide +kernel⟩
theorem a_M_setsUp_182 : zAt 109 182 m_M_setsUp (.getfield 7) 3 := ⟨hm_M_setsUp, by decide +kernel⟩
theorem a_M_setsUp_185 : zAt 109 185 m_M_setsUp (.bipush 13) 2 := ⟨hm_M_setsUp, by decide +kernel⟩
theorem a_M_setsUp_187 : zAt 109 187 m_M_setsUp (.iconst 5) 1 := ⟨hm_M_setsUp, by decide +kernel⟩
theorem a_M_setsUp_188 : zAt 109 188 m_M_setsUp (.iload 6) 2 := ⟨hm_M_setsUp, by decide +kernel⟩
theorem a_M_setsUp_190 : zAt 109 190 m_M_setsUp (.imul) 1 := ⟨hm_M_setsUp, by decide +kernel⟩
theorem a_M_setsUp_191 : zAt 109 191 m_M_setsUp (.iadd) 1 := ⟨hm_M_setsUp, by decide +kernel⟩
theorem a_M_setsUp_192 : zAt 109 192 m_M_setsUp (.iconst 1) 1 := ⟨hm_M_setsUp, by decide +kernel⟩
theorem a_M_setsUp_193 : zAt 109 193 m_M_setsUp (.iadd) 1 := ⟨hm_M_setsUp, by decide +kernel⟩
theorem a_M_setsUp_194 : zAt 109 194 m_M_setsUp (.iload_n 2) 1 := ⟨hm_M_setsUp, by decide +kernel⟩
theorem a_M_setsUp_195 : zAt 109 195 m_M_setsUp (.iastore) 1 := ⟨hm_M_setsUp, by decide +kernel⟩
theorem a_M_setsUp_196 : zAt 109 196 m_M_setsUp (.aload_n 0) 1 := ⟨hm_M_setsUp, by decide +kernel⟩
theorem a_M_setsUp_197 : zAt 109 197 m_M_setsUp (.getfield 7) 3 := ⟨hm_M_setsUp, by decide +kernel⟩
theorem a_M_setsUp_200 : zAt 109 200 m_M_setsUp (.bipush 13) 2 := ⟨hm_M_setsUp, by decide +kernel⟩
theorem a_M_setsUp_202 : zAt 109 202 m_M_setsUp (.iconst 5) 1 := ⟨hm_M_setsUp, by decide +kernel⟩
theorem a_M_setsUp_203 : zAt 109 203 m_M_setsUp (.iload 6) 2 := ⟨hm_M_setsUp, by decide +kernel⟩
theorem a_M_setsUp_205 : zAt 109 205 m_M_setsUp (.imul) 1 := ⟨hm_M_setsUp, by decide +kernel⟩
theorem a_M_setsUp_206 : zAt 109 206 m_M_setsUp (.iadd) 1 := ⟨hm_M_setsUp, by decide +kernel⟩
theorem a_M_setsUp_207 : zAt 109 207 m_M_setsUp (.iconst 2) 1 := ⟨hm_M_setsUp, by decide +kernel⟩
theorem a_M_setsUp_208 : zAt 109 208 m_M_setsUp (.iadd) 1 := ⟨hm_M_setsUp, by decide +kernel⟩
theorem a_M_setsUp_209 : zAt 109 209 m_M_setsUp (.iload_n 3) 1 := ⟨hm_M_setsUp, by decide +kernel⟩
theorem a_M_setsUp_210 : zAt 109 210 m_M_setsUp (.iastore) 1 := ⟨hm_M_setsUp, by decide +kernel⟩
theorem a_M_setsUp_211 : zAt 109 211 m_M_setsUp (.aload_n 0) 1 := ⟨hm_M_setsUp, by decide +kernel⟩
theorem a_M_setsUp_212 : zAt 109 212 m_M_setsUp (.getfield 7) 3 := ⟨hm_M_setsUp, by decide +kernel⟩
theorem a_M_setsUp_215 : zAt 109 215 m_M_setsUp (.bipush 13) 2 := ⟨hm_M_setsUp, by decide +kernel⟩
theorem a_M_setsUp_217 : zAt 109 217 m_M_setsUp (.iconst 5) 1 := ⟨hm_M_setsUp, by decide +kernel⟩
theorem a_M_setsUp_218 : zAt 109 218 m_M_setsUp (.iload 6) 2 := ⟨hm_M_setsUp, by decide +kernel⟩
theorem a_M_setsUp_220 : zAt 109 220 m_M_setsUp (.imul) 1 := ⟨hm_M_setsUp, by decide +kernel⟩
theorem a_M_setsUp_221 : zAt 109 221 m_M_setsUp (.iadd) 1 := ⟨hm_M_setsUp, by decide +kernel⟩
theorem a_M_setsUp_222 : zAt 109 222 m_M_setsUp (.iconst 3) 1 := ⟨hm_M_setsUp, by decide +kernel⟩
theorem a_M_setsUp_223 : zAt 109 223 m_M_setsUp (.iadd) 1 := ⟨hm_M_setsUp, by decide +kernel⟩
theorem a_M_setsUp_224 : zAt 109 224 m_M_setsUp (.iload 4) 2 := ⟨hm_M_setsUp, by decide +kernel⟩
theorem a_M_setsUp_226 : zAt 109 226 m_M_setsUp (.iastore) 1 := ⟨hm_M_setsUp, by decide +kernel⟩
theorem a_M_setsUp_227 : zAt 109 227 m_M_setsUp (.aload_n 0) 1 := ⟨hm_M_setsUp, by decide +kernel⟩
theorem a_M_setsUp_228 : zAt 109 228 m_M_setsUp (.getfield 7) 3 := ⟨hm_M_setsUp, by decide +kernel⟩
theorem a_M_setsUp_231 : zAt 109 231 m_M_setsUp (.bipush 13) 2 := ⟨hm_M_setsUp, by decide +kernel⟩
theorem a_M_setsUp_233 : zAt 109 233 m_M_setsUp (.iconst 5) 1 := ⟨hm_M_setsUp, by decide +kernel⟩
theorem a_M_setsUp_234 : zAt 109 234 m_M_setsUp (.iload 6) 2 := ⟨hm_M_setsUp, by decide +kernel⟩
theorem a_M_setsUp_236 : zAt 109 236 m_M_setsUp (.imul) 1 := ⟨hm_M_setsUp, by decide +kernel⟩
theorem a_M_setsUp_237 : zAt 109 237 m_M_setsUp (.iadd) 1 := ⟨hm_M_setsUp, by decide +kernel⟩
theorem a_M_setsUp_238 : zAt 109 238 m_M_setsUp (.iconst 4) 1 := ⟨hm_M_setsUp, by decide +kernel⟩
theorem a_M_setsUp_239 : zAt 109 239 m_M_setsUp (.iadd) 1 := ⟨hm_M_setsUp, by decide +kernel⟩
theorem a_M_setsUp_240 : zAt 109 240 m_M_setsUp (.iload 5) 2 := ⟨hm_M_setsUp, by decide +kernel⟩
theorem a_M_setsUp_242 : zAt 109 242 m_M_setsUp (.iastore) 1 := ⟨hm_M_setsUp, by decide +kernel⟩
theorem a_M_setsUp_243 : zAt 109 243 m_M_setsUp (.aload_n 0) 1 := ⟨hm_M_setsUp, by decide +kernel⟩
theorem a_M_setsUp_244 : zAt 109 244 m_M_setsUp (.getfield 7) 3 := ⟨hm_M_setsUp, by decide +kernel⟩
theorem a_M_setsUp_247 : zAt 109 247 m_M_setsUp (.iconst 1) 1 := ⟨hm_M_setsUp, by decide +kernel⟩
theorem a_M_setsUp_248 : zAt 109 248 m_M_setsUp (.dup2) 1 := ⟨hm_M_setsUp, by decide +kernel⟩
theorem a_M_setsUp_249 : zAt 109 249 m_M_setsUp (.iaload) 1 := ⟨hm_M_setsUp, by decide +kernel⟩
theorem a_M_setsUp_250 : zAt 109 250 m_M_setsUp (.iconst 1) 1 := ⟨hm_M_setsUp, by decide +kernel⟩
theorem a_M_setsUp_251 : zAt 109 251 m_M_setsUp (.iadd) 1 := ⟨hm_M_setsUp, by decide +kernel⟩
theorem a_M_setsUp_252 : zAt 109 252 m_M_setsUp (.iastore) 1 := ⟨hm_M_setsUp, by decide +kernel⟩
theorem a_M_setsUp_253 : zAt 109 253 m_M_setsUp (.aload_n 0) 1 := ⟨hm_M_setsUp, by decide +kernel⟩
theorem a_M_setsUp_254 : zAt 109 254 m_M_setsUp (.getfield 7) 3 := ⟨hm_M_setsUp, by decide +kernel⟩
theorem a_M_setsUp_257 : zAt 109 257 m_M_setsUp (.iconst 1) 1 := ⟨hm_M_setsUp, by decide +kernel⟩
theorem a_M_setsUp_258 : zAt 109 258 m_M_setsUp (.iaload) 1 := ⟨hm_M_setsUp, by decide +kernel⟩
theorem a_M_setsUp_259 : zAt 109 259 m_M_setsUp (.ireturn) 1 := ⟨hm_M_setsUp, by decide +kernel⟩
theorem B_M_setsUp_0 {G : Nat → Nat → Int32} {x1 x2 x3 x4 x5 : Int32} : zden 109 0 [.ref 90, .int x1, .int x2, .int x3, .int x4, .int x5, .retAddr 0, .retAddr 0] [] (zSH, G) = if (bI (1 ≤ x1 ∧ x1 ≤ 98)) = 0 then zden 109 50 [.ref 90, .int x1, .int x2, .int x3, .int x4, .int x5, .retAddr 0, .retAddr 0] [] (zSH, G) else if (bI (0 ≤ x2 ∧ x2 ≤ 4)) = 0 then zden 109 50 [.ref 90, .int x1, .int x2, .int x3, .int x4, .int x5, .retAddr 0, .retAddr 0] [] (zSH, G) else if (bI (0 ≤ x3 ∧ x3 ≤ 3)) = 0 then zden 109 50 [.ref 90, .int x1, .int x2, .int x3, .int x4, .int x5, .retAddr 0, .retAddr 0] [] (zSH, G) else if (bI (0 ≤ x4 ∧ x4 ≤ 60)) = 0 then zden 109 50 [.ref 90, .int x1, .int x2, .int x3, .int x4, .int x5, .retAddr 0, .retAddr 0] [] (zSH, G) else if ¬ (bI (0 ≤ x5 ∧ x5 ≤ 20)) = 0 then zaft 109 62 [.ref 90, .int x1, .int x2, .int x3, .int x4, .int x5, .retAddr 0, .retAddr 0] [] (zSH, G) (zden 112 0 [.ref 90, .int x1, .retAddr 0] [] (zSH, G)) else zden 109 50 [.ref 90, .int x1, .int x2, .int x3, .int x4, .int x5, .retAddr 0, .retAddr 0] [] (zSH, G) :=
  (zd_iload_n a_M_setsUp_0 rfl).trans ((zd_iconst (v := 1) a_M_setsUp_1 (by decide)).trans ((zd_bipush (v := 98) a_M_setsUp_2 (by decide)).trans ((zd_cal (kd := 1) (tg := 110) (T := m_M_isIn) a_M_setsUp_4 (by decide +kernel) hm_M_isIn rfl rfl rfl rfl).trans (((congrArg (zaft 109 7 [.ref 90, .int x1, .int x2, .int x3, .int x4, .int x5, .retAddr 0, .retAddr 0] [] (zSH, G)) (ms_isIn)).trans zaft_same).trans ((zd_if_eq a_M_setsUp_7 rfl).trans (zitc (fun p52 => rfl) (fun p52 => (zd_iload_n a_M_setsUp_10 rfl).trans ((zd_iconst (v := 0) a_M_setsUp_11 (by decide)).trans ((zd_iconst (v := 4) a_M_setsUp_12 (by decide)).trans ((zd_cal (kd := 1) (tg := 110) (T := m_M_isIn) a_M_setsUp_13 (by decide +kernel) hm_M_isIn rfl rfl rfl rfl).trans (((congrArg (zaft 109 16 [.ref 90, .int x1, .int x2, .int x3, .int x4, .int x5, .retAddr 0, .retAddr 0] [] (zSH, G)) (ms_isIn)).trans zaft_same).trans ((zd_if_eq a_M_setsUp_16 rfl).trans (zitc (fun p53 => rfl) (fun p53 => (zd_iload_n a_M_setsUp_19 rfl).trans ((zd_iconst (v := 0) a_M_setsUp_20 (by decide)).trans ((zd_iconst (v := 3) a_M_setsUp_21 (by decide)).trans ((zd_cal (kd := 1) (tg := 110) (T := m_M_isIn) a_M_setsUp_22 (by decide +kernel) hm_M_isIn rfl rfl rfl rfl).trans (((congrArg (zaft 109 25 [.ref 90, .int x1, .int x2, .int x3, .int x4, .int x5, .retAddr 0, .retAddr 0] [] (zSH, G)) (ms_isIn)).trans zaft_same).trans ((zd_if_eq a_M_setsUp_25 rfl).trans (zitc (fun p54 => rfl) (fun p54 => (zd_iload a_M_setsUp_28 rfl).trans ((zd_iconst (v := 0) a_M_setsUp_30 (by decide)).trans ((zd_bipush (v := 60) a_M_setsUp_31 (by decide)).trans ((zd_cal (kd := 1) (tg := 110) (T := m_M_isIn) a_M_setsUp_33 (by decide +kernel) hm_M_isIn rfl rfl rfl rfl).trans (((congrArg (zaft 109 36 [.ref 90, .int x1, .int x2, .int x3, .int x4, .int x5, .retAddr 0, .retAddr 0] [] (zSH, G)) (ms_isIn)).trans zaft_same).trans ((zd_if_eq a_M_setsUp_36 rfl).trans (zitc (fun p55 => rfl) (fun p55 => (zd_iload a_M_setsUp_39 rfl).trans ((zd_iconst (v := 0) a_M_setsUp_41 (by decide)).trans ((zd_bipush (v := 20) a_M_setsUp_42 (by decide)).trans ((zd_cal (kd := 1) (tg := 110) (T := m_M_isIn) a_M_setsUp_44 (by decide +kernel) hm_M_isIn rfl rfl rfl rfl).trans (((congrArg (zaft 109 47 [.ref 90, .int x1, .int x2, .int x3, .int x4, .int x5, .retAddr 0, .retAddr 0] [] (zSH, G)) (ms_isIn)).trans zaft_same).trans ((zd_if_ne a_M_setsUp_47 rfl).trans (zitc (fun p56 => (zd_aload_n a_M_setsUp_57 rfl).trans ((zd_iload_n a_M_setsUp_58 rfl).trans ((zd_cal (kd := 0) (tg := 112) (T := m_M_placeOf) a_M_setsUp_59 (by decide +kernel) hm_M_placeOf rfl rfl rfl rfl)))) (fun p56 => rfl)))))))))))))))))))))))))))))))))))
theorem B_M_setsUp_50 {G : Nat → Nat → Int32} {x1 x2 x3 x4 x5 : Int32} : zden 109 50 [.ref 90, .int x1, .int x2, .int x3, .int x4, .int x5, .retAddr 0, .retAddr 0] [] (zSH, G) = some (some (.int (-12)), (zSH, (zup G 90 0 (-12)))) :=
  (zd_aload_n a_M_setsUp_50 rfl).trans ((zd_bipush (v := (-12)) a_M_setsUp_51 (by decide)).trans ((zd_cal (kd := 0) (tg := 111) (T := m_M_fail) a_M_setsUp_53 (by decide +kernel) hm_M_fail rfl rfl rfl rfl).trans (((congrArg (zaft 109 56 [.ref 90, .int x1, .int x2, .int x3, .int x4, .int x5, .retAddr 0, .retAddr 0] [] (zSH, G)) (ms_fail)).trans zaft_same).trans (zd_iret a_M_setsUp_56 rfl (znr_int _)))))
theorem B_M_setsUp_62 {G : Nat → Nat → Int32} {x1 x2 x3 x4 x5 s0 : Int32} : zden 109 62 [.ref 90, .int x1, .int x2, .int x3, .int x4, .int x5, .retAddr 0, .retAddr 0] [.int s0] (zSH, G) = if s0 < 0 then if ¬ (G 91 1) = 10 then zden 109 95 [.ref 90, .int x1, .int x2, .int x3, .int x4, .int x5, .int (G 91 1), .retAddr 0] [] (zSH, G) else some (some (.int (-14)), (zSH, (zup (zup (zup G 90 2 1) 90 3 10) 90 0 (-14)))) else some (some (.int (-14)), (zSH, (zup (zup (zup G 90 2 2) 90 3 x1) 90 0 (-14)))) :=
  (zd_if_lt a_M_setsUp_62 rfl).trans (zitc (fun p57 => (zd_aload_n a_M_setsUp_72 rfl).trans ((zd_getR (h := (zSH, G)) (ci := 8) (fi := 5) (a := 91) a_M_setsUp_73 (by decide +kernel) sh_90 rfl rfl).trans ((zd_iconst (v := 1) a_M_setsUp_76 (by decide)).trans ((zd_iald (h := (zSH, G)) a_M_setsUp_77 sh_91 rfl).trans ((if_pos (by decide)).trans ((zd_istore a_M_setsUp_78 rfl rfl rfl).trans ((zd_iload a_M_setsUp_80 rfl).trans ((zd_bipush (v := 10) a_M_setsUp_82 (by decide)).trans ((zd_icmp_ne a_M_setsUp_84 rfl).trans (zitc (fun p58 => rfl) (fun p58 => (zd_aload_n a_M_setsUp_87 rfl).trans ((zd_iconst (v := 1) a_M_setsUp_88 (by decide)).trans ((zd_bipush (v := 10) a_M_setsUp_89 (by decide)).trans ((zd_cal (kd := 0) (tg := 114) (T := m_M_refuses) a_M_setsUp_91 (by decide +kernel) hm_M_refuses rfl rfl rfl rfl).trans (((congrArg (zaft 109 94 [.ref 90, .int x1, .int x2, .int x3, .int x4, .int x5, .int (G 91 1), .retAddr 0] [] (zSH, G)) (ms_refuses)).trans zaft_same).trans (zd_iret a_M_setsUp_94 rfl (znr_int _))))))))))))))))) (fun p57 => (zd_aload_n a_M_setsUp_65 rfl).trans ((zd_iconst (v := 2) a_M_setsUp_66 (by decide)).trans ((zd_iload_n a_M_setsUp_67 rfl).trans ((zd_cal (kd := 0) (tg := 114) (T := m_M_refuses) a_M_setsUp_68 (by decide +kernel) hm_M_refuses rfl rfl rfl rfl).trans (((congrArg (zaft 109 71 [.ref 90, .int x1, .int x2, .int x3, .int x4, .int x5, .retAddr 0, .retAddr 0] [] (zSH, G)) (ms_refuses)).trans zaft_same).trans (zd_iret a_M_setsUp_71 rfl (znr_int _))))))))
theorem B_M_setsUp_95 {G : Nat → Nat → Int32} {x1 x2 x3 x4 x5 x6 : Int32} {v7 : Value} (z106_0 : (¬ (x6 ≤ 0)) → mhok G (x6 - 1) 0) : zden 109 95 [.ref 90, .int x1, .int x2, .int x3, .int x4, .int x5, .int x6, v7] [] (zSH, G) = if x6 ≤ 0 then zden 109 166 [.ref 90, .int x1, .int x2, .int x3, .int x4, .int x5, .int x6, v7] [] (zSH, G) else if (mhead G (x6 - 1) 0) ≤ x1 then zden 109 166 [.ref 90, .int x1, .int x2, .int x3, .int x4, .int x5, .int x6, v7] [] (zSH, G) else zden 109 116 [.ref 90, .int x1, .int x2, .int x3, .int x4, .int x5, .int x6, .int 0] [] (zSH, G) :=
  (zd_iload a_M_setsUp_95 rfl).trans ((zd_if_le a_M_setsUp_97 rfl).trans (zitc (fun p59 => rfl) (fun p59 => (zd_aload_n a_M_setsUp_100 rfl).trans ((zd_iload a_M_setsUp_101 rfl).trans ((zd_iconst (v := 1) a_M_setsUp_103 (by decide)).trans ((zd_num (st2 := [.int (x6 - 1), .ref 90]) a_M_setsUp_104 rfl rfl rfl rfl).trans ((zd_iconst (v := 0) a_M_setsUp_105 (by decide)).trans ((zd_cal (kd := 0) (tg := 113) (T := m_M_head) a_M_setsUp_106 (by decide +kernel) hm_M_head rfl rfl rfl rfl).trans (((congrArg (zaft 109 109 [.ref 90, .int x1, .int x2, .int x3, .int x4, .int x5, .int x6, v7] [] (zSH, G)) (ms_head (z106_0 p59))).trans zaft_same).trans ((zd_iload_n a_M_setsUp_109 rfl).trans ((zd_icmp_le a_M_setsUp_110 rfl).trans (zitc (fun p60 => rfl) (fun p60 => (zd_iconst (v := 0) a_M_setsUp_113 (by decide)).trans ((zd_istore a_M_setsUp_114 rfl rfl rfl)))))))))))))))
theorem B_M_setsUp_116 {G : Nat → Nat → Int32} {x1 x2 x3 x4 x5 x6 x7 : Int32} (z152_0 : (¬ (5 ≤ x7)) → zin (((13 + (5 * x6)) - 5) + x7) 327 = true) (z153_1 : (¬ (5 ≤ x7)) → zin ((13 + (5 * x6)) + x7) 327 = true) : zden 109 116 [.ref 90, .int x1, .int x2, .int x3, .int x4, .int x5, .int x6, .int x7] [] (zSH, G) = if 5 ≤ x7 then zden 109 95 [.ref 90, .int x1, .int x2, .int x3, .int x4, .int x5, .int (x6 + (-1)), .int x7] [] (zSH, G) else zden 109 116 [.ref 90, .int x1, .int x2, .int x3, .int x4, .int x5, .int x6, .int (x7 + 1)] [] (zSH, (zup G 91 ((13 + (5 * x6)) + x7).toNatClampNeg (G 91 (((13 + (5 * x6)) - 5) + x7).toNatClampNeg))) :=
  (zd_iload a_M_setsUp_116 rfl).trans ((zd_iconst (v := 5) a_M_setsUp_118 (by decide)).trans ((zd_icmp_ge a_M_setsUp_119 rfl).trans (zitc (fun p61 => (zd_iinc (v := (-1)) a_M_setsUp_160 rfl (by decide) rfl rfl rfl).trans ((zd_goto a_M_setsUp_163 rfl))) (fun p61 => (zd_aload_n a_M_setsUp_122 rfl).trans ((zd_getR (h := (zSH, G)) (ci := 8) (fi := 5) (a := 91) a_M_setsUp_123 (by decide +kernel) sh_90 rfl rfl).trans ((zd_bipush (v := 13) a_M_setsUp_126 (by decide)).trans ((zd_iconst (v := 5) a_M_setsUp_128 (by decide)).trans ((zd_iload a_M_setsUp_129 rfl).trans ((zd_num (st2 := [.int (5 * x6), .int 13, .ref 91]) a_M_setsUp_131 rfl rfl rfl rfl).trans ((zd_num (st2 := [.int (13 + (5 * x6)), .ref 91]) a_M_setsUp_132 rfl rfl rfl rfl).trans ((zd_iload a_M_setsUp_133 rfl).trans ((zd_num (st2 := [.int ((13 + (5 * x6)) + x7), .ref 91]) a_M_setsUp_135 rfl rfl rfl rfl).trans ((zd_aload_n a_M_setsUp_136 rfl).trans ((zd_getR (h := (zSH, G)) (ci := 8) (fi := 5) (a := 91) a_M_setsUp_137 (by decide +kernel) sh_90 rfl rfl).trans ((zd_bipush (v := 13) a_M_setsUp_140 (by decide)).trans ((zd_iconst (v := 5) a_M_setsUp_142 (by decide)).trans ((zd_iload a_M_setsUp_143 rfl).trans ((zd_num (st2 := [.int (5 * x6), .int 13, .ref 91, .int ((13 + (5 * x6)) + x7), .ref 91]) a_M_setsUp_145 rfl rfl rfl rfl).trans ((zd_num (st2 := [.int (13 + (5 * x6)), .ref 91, .int ((13 + (5 * x6)) + x7), .ref 91]) a_M_setsUp_146 rfl rfl rfl rfl).trans ((zd_iconst (v := 5) a_M_setsUp_147 (by decide)).trans ((zd_num (st2 := [.int ((13 + (5 * x6)) - 5), .ref 91, .int ((13 + (5 * x6)) + x7), .ref 91]) a_M_setsUp_148 rfl rfl rfl rfl).trans ((zd_iload a_M_setsUp_149 rfl).trans ((zd_num (st2 := [.int (((13 + (5 * x6)) - 5) + x7), .ref 91, .int ((13 + (5 * x6)) + x7), .ref 91]) a_M_setsUp_151 rfl rfl rfl rfl).trans ((zd_iald (h := (zSH, G)) a_M_setsUp_152 sh_91 rfl).trans ((if_pos (z152_0 p61)).trans ((zd_iast (h := (zSH, G)) a_M_setsUp_153 sh_91).trans ((if_pos (z153_1 p61)).trans ((zd_iinc (v := 1) a_M_setsUp_154 rfl (by decide) rfl rfl rfl).trans ((zd_goto a_M_setsUp_157 rfl))))))))))))))))))))))))))))))
theorem B_M_setsUp_166 {G : Nat → Nat → Int32} {x1 x2 x3 x4 x5 x6 : Int32} {v7 : Value} (z180_0 : zin ((13 + (5 * x6)) + 0) 327 = true) (z195_1 : zin ((13 + (5 * x6)) + 1) 327 = true) (z210_2 : zin ((13 + (5 * x6)) + 2) 327 = true) (z226_3 : zin ((13 + (5 * x6)) + 3) 327 = true) (z242_4 : zin ((13 + (5 * x6)) + 4) 327 = true) : zden 109 166 [.ref 90, .int x1, .int x2, .int x3, .int x4, .int x5, .int x6, v7] [] (zSH, G) = some (some (.int ((zup (zup (zup (zup (zup (zup G 91 ((13 + (5 * x6)) + 0).toNatClampNeg x1) 91 ((13 + (5 * x6)) + 1).toNatClampNeg x2) 91 ((13 + (5 * x6)) + 2).toNatClampNeg x3) 91 ((13 + (5 * x6)) + 3).toNatClampNeg x4) 91 ((13 + (5 * x6)) + 4).toNatClampNeg x5) 91 1 (((zup (zup (zup (zup (zup G 91 ((13 + (5 * x6)) + 0).toNatClampNeg x1) 91 ((13 + (5 * x6)) + 1).toNatClampNeg x2) 91 ((13 + (5 * x6)) + 2).toNatClampNeg x3) 91 ((13 + (5 * x6)) + 3).toNatClampNeg x4) 91 ((13 + (5 * x6)) + 4).toNatClampNeg x5) 91 1) + 1)) 91 1)), (zSH, (zup (zup (zup (zup (zup (zup G 91 ((13 + (5 * x6)) + 0).toNatClampNeg x1) 91 ((13 + (5 * x6)) + 1).toNatClampNeg x2) 91 ((13 + (5 * x6)) + 2).toNatClampNeg x3) 91 ((13 + (5 * x6)) + 3).toNatClampNeg x4) 91 ((13 + (5 * x6)) + 4).toNatClampNeg x5) 91 1 (((zup (zup (zup (zup (zup G 91 ((13 + (5 * x6)) + 0).toNatClampNeg x1) 91 ((13 + (5 * x6)) + 1).toNatClampNeg x2) 91 ((13 + (5 * x6)) + 2).toNatClampNeg x3) 91 ((13 + (5 * x6)) + 3).toNatClampNeg x4) 91 ((13 + (5 * x6)) + 4).toNatClampNeg x5) 91 1) + 1)))) :=
  (zd_aload_n a_M_setsUp_166 rfl).trans ((zd_getR (h := (zSH, G)) (ci := 8) (fi := 5) (a := 91) a_M_setsUp_167 (by decide +kernel) sh_90 rfl rfl).trans ((zd_bipush (v := 13) a_M_setsUp_170 (by decide)).trans ((zd_iconst (v := 5) a_M_setsUp_172 (by decide)).trans ((zd_iload a_M_setsUp_173 rfl).trans ((zd_num (st2 := [.int (5 * x6), .int 13, .ref 91]) a_M_setsUp_175 rfl rfl rfl rfl).trans ((zd_num (st2 := [.int (13 + (5 * x6)), .ref 91]) a_M_setsUp_176 rfl rfl rfl rfl).trans ((zd_iconst (v := 0) a_M_setsUp_177 (by decide)).trans ((zd_num (st2 := [.int ((13 + (5 * x6)) + 0), .ref 91]) a_M_setsUp_178 rfl rfl rfl rfl).trans ((zd_iload_n a_M_setsUp_179 rfl).trans ((zd_iast (h := (zSH, G)) a_M_setsUp_180 sh_91).trans ((if_pos z180_0).trans ((zd_aload_n a_M_setsUp_181 rfl).trans ((zd_getR (h := (zSH, (zup G 91 ((13 + (5 * x6)) + 0).toNatClampNeg x1))) (ci := 8) (fi := 5) (a := 91) a_M_setsUp_182 (by decide +kernel) sh_90 rfl rfl).trans ((zd_bipush (v := 13) a_M_setsUp_185 (by decide)).trans ((zd_iconst (v := 5) a_M_setsUp_187 (by decide)).trans ((zd_iload a_M_setsUp_188 rfl).trans ((zd_num (st2 := [.int (5 * x6), .int 13, .ref 91]) a_M_setsUp_190 rfl rfl rfl rfl).trans ((zd_num (st2 := [.int (13 + (5 * x6)), .ref 91]) a_M_setsUp_191 rfl rfl rfl rfl).trans ((zd_iconst (v := 1) a_M_setsUp_192 (by decide)).trans ((zd_num (st2 := [.int ((13 + (5 * x6)) + 1), .ref 91]) a_M_setsUp_193 rfl rfl rfl rfl).trans ((zd_iload_n a_M_setsUp_194 rfl).trans ((zd_iast (h := (zSH, (zup G 91 ((13 + (5 * x6)) + 0).toNatClampNeg x1))) a_M_setsUp_195 sh_91).trans ((if_pos z195_1).trans ((zd_aload_n a_M_setsUp_196 rfl).trans ((zd_getR (h := (zSH, (zup (zup G 91 ((13 + (5 * x6)) + 0).toNatClampNeg x1) 91 ((13 + (5 * x6)) + 1).toNatClampNeg x2))) (ci := 8) (fi := 5) (a := 91) a_M_setsUp_197 (by decide +kernel) sh_90 rfl rfl).trans ((zd_bipush (v := 13) a_M_setsUp_200 (by decide)).trans ((zd_iconst (v := 5) a_M_setsUp_202 (by decide)).trans ((zd_iload a_M_setsUp_203 rfl).trans ((zd_num (st2 := [.int (5 * x6), .int 13, .ref 91]) a_M_setsUp_205 rfl rfl rfl rfl).trans ((zd_num (st2 := [.int (13 + (5 * x6)), .ref 91]) a_M_setsUp_206 rfl rfl rfl rfl).trans ((zd_iconst (v := 2) a_M_setsUp_207 (by decide)).trans ((zd_num (st2 := [.int ((13 + (5 * x6)) + 2), .ref 91]) a_M_setsUp_208 rfl rfl rfl rfl).trans ((zd_iload_n a_M_setsUp_209 rfl).trans ((zd_iast (h := (zSH, (zup (zup G 91 ((13 + (5 * x6)) + 0).toNatClampNeg x1) 91 ((13 + (5 * x6)) + 1).toNatClampNeg x2))) a_M_setsUp_210 sh_91).trans ((if_pos z210_2).trans ((zd_aload_n a_M_setsUp_211 rfl).trans ((zd_getR (h := (zSH, (zup (zup (zup G 91 ((13 + (5 * x6)) + 0).toNatClampNeg x1) 91 ((13 + (5 * x6)) + 1).toNatClampNeg x2) 91 ((13 + (5 * x6)) + 2).toNatClampNeg x3))) (ci := 8) (fi := 5) (a := 91) a_M_setsUp_212 (by decide +kernel) sh_90 rfl rfl).trans ((zd_bipush (v := 13) a_M_setsUp_215 (by decide)).trans ((zd_iconst (v := 5) a_M_setsUp_217 (by decide)).trans ((zd_iload a_M_setsUp_218 rfl).trans ((zd_num (st2 := [.int (5 * x6), .int 13, .ref 91]) a_M_setsUp_220 rfl rfl rfl rfl).trans ((zd_num (st2 := [.int (13 + (5 * x6)), .ref 91]) a_M_setsUp_221 rfl rfl rfl rfl).trans ((zd_iconst (v := 3) a_M_setsUp_222 (by decide)).trans ((zd_num (st2 := [.int ((13 + (5 * x6)) + 3), .ref 91]) a_M_setsUp_223 rfl rfl rfl rfl).trans ((zd_iload a_M_setsUp_224 rfl).trans ((zd_iast (h := (zSH, (zup (zup (zup G 91 ((13 + (5 * x6)) + 0).toNatClampNeg x1) 91 ((13 + (5 * x6)) + 1).toNatClampNeg x2) 91 ((13 + (5 * x6)) + 2).toNatClampNeg x3))) a_M_setsUp_226 sh_91).trans ((if_pos z226_3).trans ((zd_aload_n a_M_setsUp_227 rfl).trans ((zd_getR (h := (zSH, (zup (zup (zup (zup G 91 ((13 + (5 * x6)) + 0).toNatClampNeg x1) 91 ((13 + (5 * x6)) + 1).toNatClampNeg x2) 91 ((13 + (5 * x6)) + 2).toNatClampNeg x3) 91 ((13 + (5 * x6)) + 3).toNatClampNeg x4))) (ci := 8) (fi := 5) (a := 91) a_M_setsUp_228 (by decide +kernel) sh_90 rfl rfl).trans ((zd_bipush (v := 13) a_M_setsUp_231 (by decide)).trans ((zd_iconst (v := 5) a_M_setsUp_233 (by decide)).trans ((zd_iload a_M_setsUp_234 rfl).trans ((zd_num (st2 := [.int (5 * x6), .int 13, .ref 91]) a_M_setsUp_236 rfl rfl rfl rfl).trans ((zd_num (st2 := [.int (13 + (5 * x6)), .ref 91]) a_M_setsUp_237 rfl rfl rfl rfl).trans ((zd_iconst (v := 4) a_M_setsUp_238 (by decide)).trans ((zd_num (st2 := [.int ((13 + (5 * x6)) + 4), .ref 91]) a_M_setsUp_239 rfl rfl rfl rfl).trans ((zd_iload a_M_setsUp_240 rfl).trans ((zd_iast (h := (zSH, (zup (zup (zup (zup G 91 ((13 + (5 * x6)) + 0).toNatClampNeg x1) 91 ((13 + (5 * x6)) + 1).toNatClampNeg x2) 91 ((13 + (5 * x6)) + 2).toNatClampNeg x3) 91 ((13 + (5 * x6)) + 3).toNatClampNeg x4))) a_M_setsUp_242 sh_91).trans ((if_pos z242_4).trans ((zd_aload_n a_M_setsUp_243 rfl).trans ((zd_getR (h := (zSH, (zup (zup (zup (zup (zup G 91 ((13 + (5 * x6)) + 0).toNatClampNeg x1) 91 ((13 + (5 * x6)) + 1).toNatClampNeg x2) 91 ((13 + (5 * x6)) + 2).toNatClampNeg x3) 91 ((13 + (5 * x6)) + 3).toNatClampNeg x4) 91 ((13 + (5 * x6)) + 4).toNatClampNeg x5))) (ci := 8) (fi := 5) (a := 91) a_M_setsUp_244 (by decide +kernel) sh_90 rfl rfl).trans ((zd_iconst (v := 1) a_M_setsUp_247 (by decide)).trans ((zd_num (st2 := [.int 1, .ref 91, .int 1, .ref 91]) a_M_setsUp_248 rfl rfl rfl rfl).trans ((zd_iald (h := (zSH, (zup (zup (zup (zup (zup G 91 ((13 + (5 * x6)) + 0).toNatClampNeg x1) 91 ((13 + (5 * x6)) + 1).toNatClampNeg x2) 91 ((13 + (5 * x6)) + 2).toNatClampNeg x3) 91 ((13 + (5 * x6)) + 3).toNatClampNeg x4) 91 ((13 + (5 * x6)) + 4).toNatClampNeg x5))) a_M_setsUp_249 sh_91 rfl).trans ((if_pos (by decide)).trans ((zd_iconst (v := 1) a_M_setsUp_250 (by decide)).trans ((zd_num (st2 := [.int (((zup (zup (zup (zup (zup G 91 ((13 + (5 * x6)) + 0).toNatClampNeg x1) 91 ((13 + (5 * x6)) + 1).toNatClampNeg x2) 91 ((13 + (5 * x6)) + 2).toNatClampNeg x3) 91 ((13 + (5 * x6)) + 3).toNatClampNeg x4) 91 ((13 + (5 * x6)) + 4).toNatClampNeg x5) 91 1) + 1), .int 1, .ref 91]) a_M_setsUp_251 rfl rfl rfl rfl).trans ((zd_iast (h := (zSH, (zup (zup (zup (zup (zup G 91 ((13 + (5 * x6)) + 0).toNatClampNeg x1) 91 ((13 + (5 * x6)) + 1).toNatClampNeg x2) 91 ((13 + (5 * x6)) + 2).toNatClampNeg x3) 91 ((13 + (5 * x6)) + 3).toNatClampNeg x4) 91 ((13 + (5 * x6)) + 4).toNatClampNeg x5))) a_M_setsUp_252 sh_91).trans ((if_pos (by decide)).trans ((zd_aload_n a_M_setsUp_253 rfl).trans ((zd_getR (h := (zSH, (zup (zup (zup (zup (zup (zup G 91 ((13 + (5 * x6)) + 0).toNatClampNeg x1) 91 ((13 + (5 * x6)) + 1).toNatClampNeg x2) 91 ((13 + (5 * x6)) + 2).toNatClampNeg x3) 91 ((13 + (5 * x6)) + 3).toNatClampNeg x4) 91 ((13 + (5 * x6)) + 4).toNatClampNeg x5) 91 1 (((zup (zup (zup (zup (zup G 91 ((13 + (5 * x6)) + 0).toNatClampNeg x1) 91 ((13 + (5 * x6)) + 1).toNatClampNeg x2) 91 ((13 + (5 * x6)) + 2).toNatClampNeg x3) 91 ((13 + (5 * x6)) + 3).toNatClampNeg x4) 91 ((13 + (5 * x6)) + 4).toNatClampNeg x5) 91 1) + 1)))) (ci := 8) (fi := 5) (a := 91) a_M_setsUp_254 (by decide +kernel) sh_90 rfl rfl).trans ((zd_iconst (v := 1) a_M_setsUp_257 (by decide)).trans ((zd_iald (h := (zSH, (zup (zup (zup (zup (zup (zup G 91 ((13 + (5 * x6)) + 0).toNatClampNeg x1) 91 ((13 + (5 * x6)) + 1).toNatClampNeg x2) 91 ((13 + (5 * x6)) + 2).toNatClampNeg x3) 91 ((13 + (5 * x6)) + 3).toNatClampNeg x4) 91 ((13 + (5 * x6)) + 4).toNatClampNeg x5) 91 1 (((zup (zup (zup (zup (zup G 91 ((13 + (5 * x6)) + 0).toNatClampNeg x1) 91 ((13 + (5 * x6)) + 1).toNatClampNeg x2) 91 ((13 + (5 * x6)) + 2).toNatClampNeg x3) 91 ((13 + (5 * x6)) + 3).toNatClampNeg x4) 91 ((13 + (5 * x6)) + 4).toNatClampNeg x5) 91 1) + 1)))) a_M_setsUp_258 sh_91 rfl).trans ((if_pos (by decide)).trans (zd_iret a_M_setsUp_259 rfl (znr_int _))))))))))))))))))))))))))))))))))))))))))))))))))))))))))))))))))))))))))))
theorem a_M_strikes_0 : zAt 117 0 m_M_strikes (.aload_n 0) 1 := ⟨hm_M_strikes, by decide +kernel⟩
theorem a_M_strikes_1 : zAt 117 1 m_M_strikes (.iload_n 1) 1 := ⟨hm_M_strikes, by decide +kernel⟩
theorem a_M_strikes_2 : zAt 117 2 m_M_strikes (.invokevirtual 72) 3 := ⟨hm_M_strikes, by decide +kernel⟩
theorem a_M_strikes_5 : zAt 117 5 m_M_strikes (.istore_n 2) 1 := ⟨hm_M_strikes, by decide +kernel⟩
theorem a_M_strikes_6 : zAt 117 6 m_M_strikes (.iload_n 2) 1 := ⟨hm_M_strikes, by decide +kernel⟩
theorem a_M_strikes_7 : zAt 117 7 m_M_strikes (.ifCond .lt 13) 3 := ⟨hm_M_strikes, by decide +kernel⟩
theorem a_M_strikes_10 : zAt 117 10 m_M_strikes (.iload_n 2) 1 := ⟨hm_M_strikes, by decide +kernel⟩
theorem a_M_strikes_11 : zAt 117 11 m_M_strikes (.aload_n 0) 1 := ⟨hm_M_strikes, by decide +kernel⟩
theorem a_M_strikes_12 : zAt 117 12 m_M_strikes (.getfield 7) 3 := ⟨hm_M_strikes, by decide +kernel⟩
theorem a_M_strikes_15 : zAt 117 15 m_M_strikes (.iconst 1) 1 := ⟨hm_M_strikes, by decide +kernel⟩
theorem a_M_strikes_16 : zAt 117 16 m_M_strikes (.iaload) 1 := ⟨hm_M_strikes, by decide +kernel⟩
theorem a_M_strikes_17 : zAt 117 17 m_M_strikes (.if_icmp .ne 10) 3 := ⟨hm_M_strikes, by decide +kernel⟩
theorem a_M_strikes_20 : zAt 117 20 m_M_strikes (.aload_n 0) 1 := ⟨hm_M_strikes, by decide +kernel⟩
theorem a_M_strikes_21 : zAt 117 21 m_M_strikes (.bipush (-11)) 2 := ⟨hm_M_strikes, by decide +kernel⟩
theorem a_M_strikes_23 : zAt 117 23 m_M_strikes (.invokevirtual 53) 3 := ⟨hm_M_strikes, by decide +kernel⟩
theorem a_M_strikes_26 : zAt 117 26 m_M_strikes (.ireturn) 1 := ⟨hm_M_strikes, by decide +kernel⟩
theorem a_M_strikes_27 : zAt 117 27 m_M_strikes (.bipush 13) 2 := ⟨hm_M_strikes, by decide +kernel⟩
theorem a_M_strikes_29 : zAt 117 29 m_M_strikes (.iconst 5) 1 := ⟨hm_M_strikes, by decide +kernel⟩
theorem a_M_strikes_30 : zAt 117 30 m_M_strikes (.iload_n 2) 1 := ⟨hm_M_strikes, by decide +kernel⟩
theorem a_M_strikes_31 : zAt 117 31 m_M_strikes (.imul) 1 := ⟨hm_M_strikes, by decide +kernel⟩
theorem a_M_strikes_32 : zAt 117 32 m_M_strikes (.iadd) 1 := ⟨hm_M_strikes, by decide +kernel⟩
theorem a_M_strikes_33 : zAt 117 33 m_M_strikes (.istore_n 3) 1 := ⟨hm_M_strikes, by decide +kernel⟩
theorem a_M_strikes_34 : zAt 117 34 m_M_strikes (.iload_n 3) 1 := ⟨hm_M_strikes, by decide +kernel⟩
theorem a_M_strikes_35 : zAt 117 35 m_M_strikes (.bipush 58) 2 := ⟨hm_M_strikes, by decide +kernel⟩
theorem a_M_strikes_37 : zAt 117 37 m_M_strikes (.if_icmp .ge 23) 3 := ⟨hm_M_strikes, by decide +kernel⟩
theorem a_M_strikes_40 : zAt 117 40 m_M_strikes (.aload_n 0) 1 := ⟨hm_M_strikes, by decide +kernel⟩
theorem a_M_strikes_41 : zAt 117 41 m_M_strikes (.getfield 7) 3 := ⟨hm_M_strikes, by decide +kernel⟩
theorem a_M_strikes_44 : zAt 117 44 m_M_strikes (.iload_n 3) 1 := ⟨hm_M_strikes, by decide +kernel⟩
theorem a_M_strikes_45 : zAt 117 45 m_M_strikes (.aload_n 0) 1 := ⟨hm_M_strikes, by decide +kernel⟩
theorem a_M_strikes_46 : zAt 117 46 m_M_strikes (.getfield 7) 3 := ⟨hm_M_strikes, by decide +kernel⟩
theorem a_M_strikes_49 : zAt 117 49 m_M_strikes (.iload_n 3) 1 := ⟨hm_M_strikes, by decide +kernel⟩
theorem a_M_strikes_50 : zAt 117 50 m_M_strikes (.iconst 5) 1 := ⟨hm_M_strikes, by decide +kernel⟩
theorem a_M_strikes_51 : zAt 117 51 m_M_strikes (.iadd) 1 := ⟨hm_M_strikes, by decide +kernel⟩
theorem a_M_strikes_52 : zAt 117 52 m_M_strikes (.iaload) 1 := ⟨hm_M_strikes, by decide +kernel⟩
theorem a_M_strikes_53 : zAt 117 53 m_M_strikes (.iastore) 1 := ⟨hm_M_strikes, by decide +kernel⟩
theorem a_M_strikes_54 : zAt 117 54 m_M_strikes (.iinc 3 1) 3 := ⟨hm_M_strikes, by decide +kernel⟩
theorem a_M_strikes_57 : zAt 117 57 m_M_strikes (.goto (-23)) 3 := ⟨hm_M_strikes, by decide +kernel⟩
theorem a_M_strikes_60 : zAt 117 60 m_M_strikes (.aload_n 0) 1 := ⟨hm_M_strikes, by decide +kernel⟩
theorem a_M_strikes_61 : zAt 117 61 m_M_strikes (.getfield 7) 3 := ⟨hm_M_strikes, by decide +kernel⟩
theorem a_M_strikes_64 : zAt 117 64 m_M_strikes (.iconst 1) 1 := ⟨hm_M_strikes, by decide +kernel⟩
theorem a_M_strikes_65 : zAt 117 65 m_M_strikes (.dup2) 1 := ⟨hm_M_strikes, by decide +kernel⟩
theorem a_M_strikes_66 : zAt 117 66 m_M_strikes (.iaload) 1 := ⟨hm_M_strikes, by decide +kernel⟩
theorem a_M_strikes_67 : zAt 117 67 m_M_strikes (.iconst 1) 1 := ⟨hm_M_strikes, by decide +kernel⟩
theorem a_M_strikes_68 : zAt 117 68 m_M_strikes (.isub) 1 := ⟨hm_M_strikes, by decide +kernel⟩
theorem a_M_strikes_69 : zAt 117 69 m_M_strikes (.iastore) 1 := ⟨hm_M_strikes, by decide +kernel⟩
theorem a_M_strikes_70 : zAt 117 70 m_M_strikes (.aload_n 0) 1 := ⟨hm_M_strikes, by decide +kernel⟩
theorem a_M_strikes_71 : zAt 117 71 m_M_strikes (.getfield 7) 3 := ⟨hm_M_strikes, by decide +kernel⟩
theorem a_M_strikes_74 : zAt 117 74 m_M_strikes (.iconst 1) 1 := ⟨hm_M_strikes, by decide +kernel⟩
theorem a_M_strikes_75 : zAt 117 75 m_M_strikes (.iaload) 1 := ⟨hm_M_strikes, by decide +kernel⟩
theorem a_M_strikes_76 : zAt 117 76 m_M_strikes (.ireturn) 1 := ⟨hm_M_strikes, by decide +kernel⟩
theorem B_M_strikes_0 {G : Nat → Nat → Int32} {x1 : Int32} : zden 117 0 [.ref 90, .int x1, .retAddr 0, .retAddr 0] [] (zSH, G) = zaft 117 5 [.ref 90, .int x1, .retAddr 0, .retAddr 0] [] (zSH, G) (zden 112 0 [.ref 90, .int x1, .retAddr 0] [] (zSH, G)) :=
  (zd_aload_n a_M_strikes_0 rfl).trans ((zd_iload_n a_M_strikes_1 rfl).trans ((zd_cal (kd := 0) (tg := 112) (T := m_M_placeOf) a_M_strikes_2 (by decide +kernel) hm_M_placeOf rfl rfl rfl rfl)))
theorem B_M_strikes_5 {G : Nat → Nat → Int32} {x1 s0 : Int32} : zden 117 5 [.ref 90, .int x1, .retAddr 0, .retAddr 0] [.int s0] (zSH, G) = if s0 < 0 then zden 117 20 [.ref 90, .int x1, .int s0, .retAddr 0] [] (zSH, G) else if ¬ s0 = (G 91 1) then zden 117 34 [.ref 90, .int x1, .int s0, .int (13 + (5 * s0))] [] (zSH, G) else zden 117 20 [.ref 90, .int x1, .int s0, .retAddr 0] [] (zSH, G) :=
  (zd_istore_n a_M_strikes_5 rfl rfl rfl).trans ((zd_iload_n a_M_strikes_6 rfl).trans ((zd_if_lt a_M_strikes_7 rfl).trans (zitc (fun p6 => rfl) (fun p6 => (zd_iload_n a_M_strikes_10 rfl).trans ((zd_aload_n a_M_strikes_11 rfl).trans ((zd_getR (h := (zSH, G)) (ci := 8) (fi := 5) (a := 91) a_M_strikes_12 (by decide +kernel) sh_90 rfl rfl).trans ((zd_iconst (v := 1) a_M_strikes_15 (by decide)).trans ((zd_iald (h := (zSH, G)) a_M_strikes_16 sh_91 rfl).trans ((if_pos (by decide)).trans ((zd_icmp_ne a_M_strikes_17 rfl).trans (zitc (fun p7 => (zd_bipush (v := 13) a_M_strikes_27 (by decide)).trans ((zd_iconst (v := 5) a_M_strikes_29 (by decide)).trans ((zd_iload_n a_M_strikes_30 rfl).trans ((zd_num (st2 := [.int (5 * s0), .int 13]) a_M_strikes_31 rfl rfl rfl rfl).trans ((zd_num (st2 := [.int (13 + (5 * s0))]) a_M_strikes_32 rfl rfl rfl rfl).trans ((zd_istore_n a_M_strikes_33 rfl rfl rfl))))))) (fun p7 => rfl))))))))))))
theorem B_M_strikes_20 {G : Nat → Nat → Int32} {x1 x2 : Int32} : zden 117 20 [.ref 90, .int x1, .int x2, .retAddr 0] [] (zSH, G) = some (some (.int (-11)), (zSH, (zup G 90 0 (-11)))) :=
  (zd_aload_n a_M_strikes_20 rfl).trans ((zd_bipush (v := (-11)) a_M_strikes_21 (by decide)).trans ((zd_cal (kd := 0) (tg := 111) (T := m_M_fail) a_M_strikes_23 (by decide +kernel) hm_M_fail rfl rfl rfl rfl).trans (((congrArg (zaft 117 26 [.ref 90, .int x1, .int x2, .retAddr 0] [] (zSH, G)) (ms_fail)).trans zaft_same).trans (zd_iret a_M_strikes_26 rfl (znr_int _)))))
theorem B_M_strikes_34 {G : Nat → Nat → Int32} {x1 x2 x3 : Int32} (z52_0 : (¬ (58 ≤ x3)) → zin (x3 + 5) 327 = true) (z53_1 : (¬ (58 ≤ x3)) → zin x3 327 = true) : zden 117 34 [.ref 90, .int x1, .int x2, .int x3] [] (zSH, G) = if 58 ≤ x3 then some (some (.int ((zup G 91 1 ((G 91 1) - 1)) 91 1)), (zSH, (zup G 91 1 ((G 91 1) - 1)))) else zden 117 34 [.ref 90, .int x1, .int x2, .int (x3 + 1)] [] (zSH, (zup G 91 x3.toNatClampNeg (G 91 (x3 + 5).toNatClampNeg))) :=
  (zd_iload_n a_M_strikes_34 rfl).trans ((zd_bipush (v := 58) a_M_strikes_35 (by decide)).trans ((zd_icmp_ge a_M_strikes_37 rfl).trans (zitc (fun p8 => (zd_aload_n a_M_strikes_60 rfl).trans ((zd_getR (h := (zSH, G)) (ci := 8) (fi := 5) (a := 91) a_M_strikes_61 (by decide +kernel) sh_90 rfl rfl).trans ((zd_iconst (v := 1) a_M_strikes_64 (by decide)).trans ((zd_num (st2 := [.int 1, .ref 91, .int 1, .ref 91]) a_M_strikes_65 rfl rfl rfl rfl).trans ((zd_iald (h := (zSH, G)) a_M_strikes_66 sh_91 rfl).trans ((if_pos (by decide)).trans ((zd_iconst (v := 1) a_M_strikes_67 (by decide)).trans ((zd_num (st2 := [.int ((G 91 1) - 1), .int 1, .ref 91]) a_M_strikes_68 rfl rfl rfl rfl).trans ((zd_iast (h := (zSH, G)) a_M_strikes_69 sh_91).trans ((if_pos (by decide)).trans ((zd_aload_n a_M_strikes_70 rfl).trans ((zd_getR (h := (zSH, (zup G 91 1 ((G 91 1) - 1)))) (ci := 8) (fi := 5) (a := 91) a_M_strikes_71 (by decide +kernel) sh_90 rfl rfl).trans ((zd_iconst (v := 1) a_M_strikes_74 (by decide)).trans ((zd_iald (h := (zSH, (zup G 91 1 ((G 91 1) - 1)))) a_M_strikes_75 sh_91 rfl).trans ((if_pos (by decide)).trans (zd_iret a_M_strikes_76 rfl (znr_int _))))))))))))))))) (fun p8 => (zd_aload_n a_M_strikes_40 rfl).trans ((zd_getR (h := (zSH, G)) (ci := 8) (fi := 5) (a := 91) a_M_strikes_41 (by decide +kernel) sh_90 rfl rfl).trans ((zd_iload_n a_M_strikes_44 rfl).trans ((zd_aload_n a_M_strikes_45 rfl).trans ((zd_getR (h := (zSH, G)) (ci := 8) (fi := 5) (a := 91) a_M_strikes_46 (by decide +kernel) sh_90 rfl rfl).trans ((zd_iload_n a_M_strikes_49 rfl).trans ((zd_iconst (v := 5) a_M_strikes_50 (by decide)).trans ((zd_num (st2 := [.int (x3 + 5), .ref 91, .int x3, .ref 91]) a_M_strikes_51 rfl rfl rfl rfl).trans ((zd_iald (h := (zSH, G)) a_M_strikes_52 sh_91 rfl).trans ((if_pos (z52_0 p8)).trans ((zd_iast (h := (zSH, G)) a_M_strikes_53 sh_91).trans ((if_pos (z53_1 p8)).trans ((zd_iinc (v := 1) a_M_strikes_54 rfl (by decide) rfl rfl rfl).trans ((zd_goto a_M_strikes_57 rfl))))))))))))))))))
theorem a_M_chief_0 : zAt 122 0 m_M_chief (.iconst 0) 1 := ⟨hm_M_chief, by decide +kernel⟩
theorem a_M_chief_1 : zAt 122 1 m_M_chief (.istore_n 2) 1 := ⟨hm_M_chief, by decide +kernel⟩
theorem a_M_chief_2 : zAt 122 2 m_M_chief (.iconst 1) 1 := ⟨hm_M_chief, by decide +kernel⟩
theorem a_M_chief_3 : zAt 122 3 m_M_chief (.istore_n 3) 1 := ⟨hm_M_chief, by decide +kernel⟩
theorem a_M_chief_4 : zAt 122 4 m_M_chief (.iload_n 3) 1 := ⟨hm_M_chief, by decide +kernel⟩
theorem a_M_chief_5 : zAt 122 5 m_M_chief (.iconst 4) 1 := ⟨hm_M_chief, by decide +kernel⟩
theorem a_M_chief_6 : zAt 122 6 m_M_chief (.if_icmp .ge 42) 3 := ⟨hm_M_chief, by decide +kernel⟩
theorem a_M_chief_9 : zAt 122 9 m_M_chief (.aload_n 0) 1 := ⟨hm_M_chief, by decide +kernel⟩
theorem a_M_chief_10 : zAt 122 10 m_M_chief (.getfield 7) 3 := ⟨hm_M_chief, by decide +kernel⟩
theorem a_M_chief_13 : zAt 122 13 m_M_chief (.iload_n 1) 1 := ⟨hm_M_chief, by decide +kernel⟩
theorem a_M_chief_14 : zAt 122 14 m_M_chief (.iconst 3) 1 := ⟨hm_M_chief, by decide +kernel⟩
theorem a_M_chief_15 : zAt 122 15 m_M_chief (.iload_n 3) 1 := ⟨hm_M_chief, by decide +kernel⟩
theorem a_M_chief_16 : zAt 122 16 m_M_chief (.iadd) 1 := ⟨hm_M_chief, by decide +kernel⟩
theorem a_M_chief_17 : zAt 122 17 m_M_chief (.invokestatic 91) 3 := ⟨hm_M_chief, by decide +kernel⟩
theorem a_M_chief_20 : zAt 122 20 m_M_chief (.iaload) 1 := ⟨hm_M_chief, by decide +kernel⟩
theorem a_M_chief_21 : zAt 122 21 m_M_chief (.aload_n 0) 1 := ⟨hm_M_chief, by decide +kernel⟩
theorem a_M_chief_22 : zAt 122 22 m_M_chief (.getfield 7) 3 := ⟨hm_M_chief, by decide +kernel⟩
theorem a_M_chief_25 : zAt 122 25 m_M_chief (.iload_n 1) 1 := ⟨hm_M_chief, by decide +kernel⟩
theorem a_M_chief_26 : zAt 122 26 m_M_chief (.iconst 3) 1 := ⟨hm_M_chief, by decide +kernel⟩
theorem a_M_chief_27 : zAt 122 27 m_M_chief (.iload_n 2) 1 := ⟨hm_M_chief, by decide +kernel⟩
theorem a_M_chief_28 : zAt 122 28 m_M_chief (.iadd) 1 := ⟨hm_M_chief, by decide +kernel⟩
theorem a_M_chief_29 : zAt 122 29 m_M_chief (.invokestatic 91) 3 := ⟨hm_M_chief, by decide +kernel⟩
theorem a_M_chief_32 : zAt 122 32 m_M_chief (.iaload) 1 := ⟨hm_M_chief, by decide +kernel⟩
theorem a_M_chief_33 : zAt 122 33 m_M_chief (.if_icmp .lt 7) 3 := ⟨hm_M_chief, by decide +kernel⟩
theorem a_M_chief_36 : zAt 122 36 m_M_chief (.iload_n 3) 1 := ⟨hm_M_chief, by decide +kernel⟩
theorem a_M_chief_37 : zAt 122 37 m_M_chief (.goto 4) 3 := ⟨hm_M_chief, by decide +kernel⟩
theorem a_M_chief_40 : zAt 122 40 m_M_chief (.iload_n 2) 1 := ⟨hm_M_chief, by decide +kernel⟩
theorem a_M_chief_41 : zAt 122 41 m_M_chief (.istore_n 2) 1 := ⟨hm_M_chief, by decide +kernel⟩
theorem a_M_chief_42 : zAt 122 42 m_M_chief (.iinc 3 1) 3 := ⟨hm_M_chief, by decide +kernel⟩
theorem a_M_chief_45 : zAt 122 45 m_M_chief (.goto (-41)) 3 := ⟨hm_M_chief, by decide +kernel⟩
theorem a_M_chief_48 : zAt 122 48 m_M_chief (.iload_n 2) 1 := ⟨hm_M_chief, by decide +kernel⟩
theorem a_M_chief_49 : zAt 122 49 m_M_chief (.ireturn) 1 := ⟨hm_M_chief, by decide +kernel⟩
theorem B_M_chief_0 {G : Nat → Nat → Int32} {x1 : Int32} : zden 122 0 [.ref 90, .int x1, .retAddr 0, .retAddr 0] [] (zSH, G) = zden 122 4 [.ref 90, .int x1, .int 0, .int 1] [] (zSH, G) :=
  (zd_iconst (v := 0) a_M_chief_0 (by decide)).trans ((zd_istore_n a_M_chief_1 rfl rfl rfl).trans ((zd_iconst (v := 1) a_M_chief_2 (by decide)).trans ((zd_istore_n a_M_chief_3 rfl rfl rfl))))
theorem B_M_chief_4 {G : Nat → Nat → Int32} {x1 x2 x3 : Int32} (z20_0 : (¬ (4 ≤ x3)) → zin (63 + 22 * x1 + (3 + x3)) 327 = true) (z32_1 : (¬ (4 ≤ x3)) → zin (63 + 22 * x1 + (3 + x2)) 327 = true) : zden 122 4 [.ref 90, .int x1, .int x2, .int x3] [] (zSH, G) = if 4 ≤ x3 then some (some (.int x2), (zSH, G)) else if (G 91 (63 + 22 * x1 + (3 + x3)).toNatClampNeg) < (G 91 (63 + 22 * x1 + (3 + x2)).toNatClampNeg) then zden 122 41 [.ref 90, .int x1, .int x2, .int x3] [.int x2] (zSH, G) else zden 122 41 [.ref 90, .int x1, .int x2, .int x3] [.int x3] (zSH, G) :=
  (zd_iload_n a_M_chief_4 rfl).trans ((zd_iconst (v := 4) a_M_chief_5 (by decide)).trans ((zd_icmp_ge a_M_chief_6 rfl).trans (zitc (fun p5 => (zd_iload_n a_M_chief_48 rfl).trans (zd_iret a_M_chief_49 rfl (znr_int _))) (fun p5 => (zd_aload_n a_M_chief_9 rfl).trans ((zd_getR (h := (zSH, G)) (ci := 8) (fi := 5) (a := 91) a_M_chief_10 (by decide +kernel) sh_90 rfl rfl).trans ((zd_iload_n a_M_chief_13 rfl).trans ((zd_iconst (v := 3) a_M_chief_14 (by decide)).trans ((zd_iload_n a_M_chief_15 rfl).trans ((zd_num (st2 := [.int (3 + x3), .int x1, .ref 91]) a_M_chief_16 rfl rfl rfl rfl).trans ((zd_cal (kd := 1) (tg := 123) (T := m_M_of) a_M_chief_17 (by decide +kernel) hm_M_of rfl rfl rfl rfl).trans (((congrArg (zaft 122 20 [.ref 90, .int x1, .int x2, .int x3] [.ref 91] (zSH, G)) (ms_of)).trans zaft_same).trans ((zd_iald (h := (zSH, G)) a_M_chief_20 sh_91 rfl).trans ((if_pos (z20_0 p5)).trans ((zd_aload_n a_M_chief_21 rfl).trans ((zd_getR (h := (zSH, G)) (ci := 8) (fi := 5) (a := 91) a_M_chief_22 (by decide +kernel) sh_90 rfl rfl).trans ((zd_iload_n a_M_chief_25 rfl).trans ((zd_iconst (v := 3) a_M_chief_26 (by decide)).trans ((zd_iload_n a_M_chief_27 rfl).trans ((zd_num (st2 := [.int (3 + x2), .int x1, .ref 91, .int (G 91 (63 + 22 * x1 + (3 + x3)).toNatClampNeg)]) a_M_chief_28 rfl rfl rfl rfl).trans ((zd_cal (kd := 1) (tg := 123) (T := m_M_of) a_M_chief_29 (by decide +kernel) hm_M_of rfl rfl rfl rfl).trans (((congrArg (zaft 122 32 [.ref 90, .int x1, .int x2, .int x3] [.ref 91, .int (G 91 (63 + 22 * x1 + (3 + x3)).toNatClampNeg)] (zSH, G)) (ms_of)).trans zaft_same).trans ((zd_iald (h := (zSH, G)) a_M_chief_32 sh_91 rfl).trans ((if_pos (z32_1 p5)).trans ((zd_icmp_lt a_M_chief_33 rfl).trans (zitc (fun p6 => (zd_iload_n a_M_chief_40 rfl)) (fun p6 => (zd_iload_n a_M_chief_36 rfl).trans ((zd_goto a_M_chief_37 rfl))))))))))))))))))))))))))))
theorem B_M_chief_41 {G : Nat → Nat → Int32} {x1 x2 x3 s0 : Int32} : zden 122 41 [.ref 90, .int x1, .int x2, .int x3] [.int s0] (zSH, G) = zden 122 4 [.ref 90, .int x1, .int s0, .int (x3 + 1)] [] (zSH, G) :=
  (zd_istore_n a_M_chief_41 rfl rfl rfl).trans ((zd_iinc (v := 1) a_M_chief_42 rfl (by decide) rfl rfl rfl).trans ((zd_goto a_M_chief_45 rfl)))
theorem a_M_fits_0 : zAt 121 0 m_M_fits (.aload_n 0) 1 := ⟨hm_M_fits, by decide +kernel⟩
theorem a_M_fits_1 : zAt 121 1 m_M_fits (.iload_n 1) 1 := ⟨hm_M_fits, by decide +kernel⟩
theorem a_M_fits_2 : zAt 121 2 m_M_fits (.iconst 1) 1 := ⟨hm_M_fits, by decide +kernel⟩
theorem a_M_fits_3 : zAt 121 3 m_M_fits (.invokevirtual 68) 3 := ⟨hm_M_fits, by decide +kernel⟩
theorem a_M_fits_6 : zAt 121 6 m_M_fits (.iconst 4) 1 := ⟨hm_M_fits, by decide +kernel⟩
theorem a_M_fits_7 : zAt 121 7 m_M_fits (.if_icmp .eq 17) 3 := ⟨hm_M_fits, by decide +kernel⟩
theorem a_M_fits_10 : zAt 121 10 m_M_fits (.aload_n 0) 1 := ⟨hm_M_fits, by decide +kernel⟩
theorem a_M_fits_11 : zAt 121 11 m_M_fits (.iload_n 1) 1 := ⟨hm_M_fits, by decide +kernel⟩
theorem a_M_fits_12 : zAt 121 12 m_M_fits (.iconst 1) 1 := ⟨hm_M_fits, by decide +kernel⟩
theorem a_M_fits_13 : zAt 121 13 m_M_fits (.invokevirtual 68) 3 := ⟨hm_M_fits, by decide +kernel⟩
theorem a_M_fits_16 : zAt 121 16 m_M_fits (.aload_n 0) 1 := ⟨hm_M_fits, by decide +kernel⟩
theorem a_M_fits_17 : zAt 121 17 m_M_fits (.iload_n 2) 1 := ⟨hm_M_fits, by decide +kernel⟩
theorem a_M_fits_18 : zAt 121 18 m_M_fits (.invokevirtual 94) 3 := ⟨hm_M_fits, by decide +kernel⟩
theorem a_M_fits_21 : zAt 121 21 m_M_fits (.if_icmp .ne 36) 3 := ⟨hm_M_fits, by decide +kernel⟩
theorem a_M_fits_24 : zAt 121 24 m_M_fits (.aload_n 0) 1 := ⟨hm_M_fits, by decide +kernel⟩
theorem a_M_fits_25 : zAt 121 25 m_M_fits (.iload_n 1) 1 := ⟨hm_M_fits, by decide +kernel⟩
theorem a_M_fits_26 : zAt 121 26 m_M_fits (.iconst 2) 1 := ⟨hm_M_fits, by decide +kernel⟩
theorem a_M_fits_27 : zAt 121 27 m_M_fits (.invokevirtual 68) 3 := ⟨hm_M_fits, by decide +kernel⟩
theorem a_M_fits_30 : zAt 121 30 m_M_fits (.iconst 3) 1 := ⟨hm_M_fits, by decide +kernel⟩
theorem a_M_fits_31 : zAt 121 31 m_M_fits (.if_icmp .eq 22) 3 := ⟨hm_M_fits, by decide +kernel⟩
theorem a_M_fits_34 : zAt 121 34 m_M_fits (.aload_n 0) 1 := ⟨hm_M_fits, by decide +kernel⟩
theorem a_M_fits_35 : zAt 121 35 m_M_fits (.iload_n 1) 1 := ⟨hm_M_fits, by decide +kernel⟩
theorem a_M_fits_36 : zAt 121 36 m_M_fits (.iconst 2) 1 := ⟨hm_M_fits, by decide +kernel⟩
theorem a_M_fits_37 : zAt 121 37 m_M_fits (.invokevirtual 68) 3 := ⟨hm_M_fits, by decide +kernel⟩
theorem a_M_fits_40 : zAt 121 40 m_M_fits (.aload_n 0) 1 := ⟨hm_M_fits, by decide +kernel⟩
theorem a_M_fits_41 : zAt 121 41 m_M_fits (.getfield 7) 3 := ⟨hm_M_fits, by decide +kernel⟩
theorem a_M_fits_44 : zAt 121 44 m_M_fits (.iload_n 2) 1 := ⟨hm_M_fits, by decide +kernel⟩
theorem a_M_fits_45 : zAt 121 45 m_M_fits (.iconst 0) 1 := ⟨hm_M_fits, by decide +kernel⟩
theorem a_M_fits_46 : zAt 121 46 m_M_fits (.invokestatic 91) 3 := ⟨hm_M_fits, by decide +kernel⟩
theorem a_M_fits_49 : zAt 121 49 m_M_fits (.iaload) 1 := ⟨hm_M_fits, by decide +kernel⟩
theorem a_M_fits_50 : zAt 121 50 m_M_fits (.if_icmp .ne 7) 3 := ⟨hm_M_fits, by decide +kernel⟩
theorem a_M_fits_53 : zAt 121 53 m_M_fits (.iconst 1) 1 := ⟨hm_M_fits, by decide +kernel⟩
theorem a_M_fits_54 : zAt 121 54 m_M_fits (.goto 4) 3 := ⟨hm_M_fits, by decide +kernel⟩
theorem a_M_fits_57 : zAt 121 57 m_M_fits (.iconst 0) 1 := ⟨hm_M_fits, by decide +kernel⟩
theorem a_M_fits_58 : zAt 121 58 m_M_fits (.ireturn) 1 := ⟨hm_M_fits, by decide +kernel⟩
theorem B_M_fits_0 {G : Nat → Nat → Int32} {x1 x2 : Int32} (z3_0 : mhok G x1 1) (z13_1 : (¬ ((mhead G x1 1) = 4)) → mhok G x1 1) : zden 121 0 [.ref 90, .int x1, .int x2] [] (zSH, G) = if (mhead G x1 1) = 4 then zden 121 24 [.ref 90, .int x1, .int x2] [] (zSH, G) else zaft 121 21 [.ref 90, .int x1, .int x2] [.int (mhead G x1 1)] (zSH, G) (zden 122 0 [.ref 90, .int x2, .retAddr 0, .retAddr 0] [] (zSH, G)) :=
  (zd_aload_n a_M_fits_0 rfl).trans ((zd_iload_n a_M_fits_1 rfl).trans ((zd_iconst (v := 1) a_M_fits_2 (by decide)).trans ((zd_cal (kd := 0) (tg := 113) (T := m_M_head) a_M_fits_3 (by decide +kernel) hm_M_head rfl rfl rfl rfl).trans (((congrArg (zaft 121 6 [.ref 90, .int x1, .int x2] [] (zSH, G)) (ms_head z3_0)).trans zaft_same).trans ((zd_iconst (v := 4) a_M_fits_6 (by decide)).trans ((zd_icmp_eq a_M_fits_7 rfl).trans (zitc (fun p10 => rfl) (fun p10 => (zd_aload_n a_M_fits_10 rfl).trans ((zd_iload_n a_M_fits_11 rfl).trans ((zd_iconst (v := 1) a_M_fits_12 (by decide)).trans ((zd_cal (kd := 0) (tg := 113) (T := m_M_head) a_M_fits_13 (by decide +kernel) hm_M_head rfl rfl rfl rfl).trans (((congrArg (zaft 121 16 [.ref 90, .int x1, .int x2] [] (zSH, G)) (ms_head (z13_1 p10))).trans zaft_same).trans ((zd_aload_n a_M_fits_16 rfl).trans ((zd_iload_n a_M_fits_17 rfl).trans ((zd_cal (kd := 0) (tg := 122) (T := m_M_chief) a_M_fits_18 (by decide +kernel) hm_M_chief rfl rfl rfl rfl))))))))))))))))
theorem B_M_fits_21 {G : Nat → Nat → Int32} {x1 x2 s0 s1 : Int32} : zden 121 21 [.ref 90, .int x1, .int x2] [.int s0, .int s1] (zSH, G) = if ¬ s1 = s0 then some (some (.int 0), (zSH, G)) else zden 121 24 [.ref 90, .int x1, .int x2] [] (zSH, G) :=
  (zd_icmp_ne a_M_fits_21 rfl).trans (zitc (fun p11 => (zd_iconst (v := 0) a_M_fits_57 (by decide)).trans (zd_iret a_M_fits_58 rfl (by decide))) (fun p11 => rfl))
theorem B_M_fits_24 {G : Nat → Nat → Int32} {x1 x2 : Int32} (z27_0 : mhok G x1 2) (z37_1 : (¬ ((mhead G x1 2) = 3)) → mhok G x1 2) (z49_2 : (¬ ((mhead G x1 2) = 3)) → zin (63 + 22 * x2 + 0) 327 = true) : zden 121 24 [.ref 90, .int x1, .int x2] [] (zSH, G) = if (mhead G x1 2) = 3 then zden 121 53 [.ref 90, .int x1, .int x2] [] (zSH, G) else if ¬ (mhead G x1 2) = (G 91 (63 + 22 * x2 + 0).toNatClampNeg) then some (some (.int 0), (zSH, G)) else zden 121 53 [.ref 90, .int x1, .int x2] [] (zSH, G) :=
  (zd_aload_n a_M_fits_24 rfl).trans ((zd_iload_n a_M_fits_25 rfl).trans ((zd_iconst (v := 2) a_M_fits_26 (by decide)).trans ((zd_cal (kd := 0) (tg := 113) (T := m_M_head) a_M_fits_27 (by decide +kernel) hm_M_head rfl rfl rfl rfl).trans (((congrArg (zaft 121 30 [.ref 90, .int x1, .int x2] [] (zSH, G)) (ms_head z27_0)).trans zaft_same).trans ((zd_iconst (v := 3) a_M_fits_30 (by decide)).trans ((zd_icmp_eq a_M_fits_31 rfl).trans (zitc (fun p12 => rfl) (fun p12 => (zd_aload_n a_M_fits_34 rfl).trans ((zd_iload_n a_M_fits_35 rfl).trans ((zd_iconst (v := 2) a_M_fits_36 (by decide)).trans ((zd_cal (kd := 0) (tg := 113) (T := m_M_head) a_M_fits_37 (by decide +kernel) hm_M_head rfl rfl rfl rfl).trans (((congrArg (zaft 121 40 [.ref 90, .int x1, .int x2] [] (zSH, G)) (ms_head (z37_1 p12))).trans zaft_same).trans ((zd_aload_n a_M_fits_40 rfl).trans ((zd_getR (h := (zSH, G)) (ci := 8) (fi := 5) (a := 91) a_M_fits_41 (by decide +kernel) sh_90 rfl rfl).trans ((zd_iload_n a_M_fits_44 rfl).trans ((zd_iconst (v := 0) a_M_fits_45 (by decide)).trans ((zd_cal (kd := 1) (tg := 123) (T := m_M_of) a_M_fits_46 (by decide +kernel) hm_M_of rfl rfl rfl rfl).trans (((congrArg (zaft 121 49 [.ref 90, .int x1, .int x2] [.ref 91, .int (mhead G x1 2)] (zSH, G)) (ms_of)).trans zaft_same).trans ((zd_iald (h := (zSH, G)) a_M_fits_49 sh_91 rfl).trans ((if_pos (z49_2 p12)).trans ((zd_icmp_ne a_M_fits_50 rfl).trans (zitc (fun p13 => (zd_iconst (v := 0) a_M_fits_57 (by decide)).trans (zd_iret a_M_fits_58 rfl (by decide))) (fun p13 => rfl)))))))))))))))))))))))
theorem B_M_fits_53 {G : Nat → Nat → Int32} {x1 x2 : Int32} : zden 121 53 [.ref 90, .int x1, .int x2] [] (zSH, G) = some (some (.int 1), (zSH, G)) :=
  (zd_iconst (v := 1) a_M_fits_53 (by decide)).trans ((zd_goto a_M_fits_54 rfl).trans (zd_iret a_M_fits_58 rfl (by decide)))
theorem a_M_rank_0 : zAt 124 0 m_M_rank (.aload_n 0) 1 := ⟨hm_M_rank, by decide +kernel⟩
theorem a_M_rank_1 : zAt 124 1 m_M_rank (.iload_n 1) 1 := ⟨hm_M_rank, by decide +kernel⟩
theorem a_M_rank_2 : zAt 124 2 m_M_rank (.iconst 0) 1 := ⟨hm_M_rank, by decide +kernel⟩
theorem a_M_rank_3 : zAt 124 3 m_M_rank (.invokevirtual 68) 3 := ⟨hm_M_rank, by decide +kernel⟩
theorem a_M_rank_6 : zAt 124 6 m_M_rank (.istore_n 2) 1 := ⟨hm_M_rank, by decide +kernel⟩
theorem a_M_rank_7 : zAt 124 7 m_M_rank (.aload_n 0) 1 := ⟨hm_M_rank, by decide +kernel⟩
theorem a_M_rank_8 : zAt 124 8 m_M_rank (.iload_n 1) 1 := ⟨hm_M_rank, by decide +kernel⟩
theorem a_M_rank_9 : zAt 124 9 m_M_rank (.iconst 1) 1 := ⟨hm_M_rank, by decide +kernel⟩
theorem a_M_rank_10 : zAt 124 10 m_M_rank (.invokevirtual 68) 3 := ⟨hm_M_rank, by decide +kernel⟩
theorem a_M_rank_13 : zAt 124 13 m_M_rank (.iconst 4) 1 := ⟨hm_M_rank, by decide +kernel⟩
theorem a_M_rank_14 : zAt 124 14 m_M_rank (.if_icmp .ge 9) 3 := ⟨hm_M_rank, by decide +kernel⟩
theorem a_M_rank_17 : zAt 124 17 m_M_rank (.sipush 1000) 3 := ⟨hm_M_rank, by decide +kernel⟩
theorem a_M_rank_20 : zAt 124 20 m_M_rank (.goto 4) 3 := ⟨hm_M_rank, by decide +kernel⟩
theorem a_M_rank_23 : zAt 124 23 m_M_rank (.iconst 0) 1 := ⟨hm_M_rank, by decide +kernel⟩
theorem a_M_rank_24 : zAt 124 24 m_M_rank (.aload_n 0) 1 := ⟨hm_M_rank, by decide +kernel⟩
theorem a_M_rank_25 : zAt 124 25 m_M_rank (.iload_n 1) 1 := ⟨hm_M_rank, by decide +kernel⟩
theorem a_M_rank_26 : zAt 124 26 m_M_rank (.iconst 2) 1 := ⟨hm_M_rank, by decide +kernel⟩
theorem a_M_rank_27 : zAt 124 27 m_M_rank (.invokevirtual 68) 3 := ⟨hm_M_rank, by decide +kernel⟩
theorem a_M_rank_30 : zAt 124 30 m_M_rank (.iconst 3) 1 := ⟨hm_M_rank, by decide +kernel⟩
theorem a_M_rank_31 : zAt 124 31 m_M_rank (.if_icmp .ge 9) 3 := ⟨hm_M_rank, by decide +kernel⟩
theorem a_M_rank_34 : zAt 124 34 m_M_rank (.sipush 500) 3 := ⟨hm_M_rank, by decide +kernel⟩
theorem a_M_rank_37 : zAt 124 37 m_M_rank (.goto 4) 3 := ⟨hm_M_rank, by decide +kernel⟩
theorem a_M_rank_40 : zAt 124 40 m_M_rank (.iconst 0) 1 := ⟨hm_M_rank, by decide +kernel⟩
theorem a_M_rank_41 : zAt 124 41 m_M_rank (.iadd) 1 := ⟨hm_M_rank, by decide +kernel⟩
theorem a_M_rank_42 : zAt 124 42 m_M_rank (.iload_n 2) 1 := ⟨hm_M_rank, by decide +kernel⟩
theorem a_M_rank_43 : zAt 124 43 m_M_rank (.bipush 99) 2 := ⟨hm_M_rank, by decide +kernel⟩
theorem a_M_rank_45 : zAt 124 45 m_M_rank (.if_icmp .ne 7) 3 := ⟨hm_M_rank, by decide +kernel⟩
theorem a_M_rank_48 : zAt 124 48 m_M_rank (.iconst 0) 1 := ⟨hm_M_rank, by decide +kernel⟩
theorem a_M_rank_49 : zAt 124 49 m_M_rank (.goto 4) 3 := ⟨hm_M_rank, by decide +kernel⟩
theorem a_M_rank_52 : zAt 124 52 m_M_rank (.iload_n 2) 1 := ⟨hm_M_rank, by decide +kernel⟩
theorem a_M_rank_53 : zAt 124 53 m_M_rank (.iadd) 1 := ⟨hm_M_rank, by decide +kernel⟩
theorem a_M_rank_54 : zAt 124 54 m_M_rank (.ireturn) 1 := ⟨hm_M_rank, by decide +kernel⟩
theorem B_M_rank_0 {G : Nat → Nat → Int32} {x1 : Int32} (z3_0 : mhok G x1 0) (z10_1 : mhok G x1 1) : zden 124 0 [.ref 90, .int x1, .retAddr 0] [] (zSH, G) = if 4 ≤ (mhead G x1 1) then zden 124 24 [.ref 90, .int x1, .int (mhead G x1 0)] [.int 0] (zSH, G) else zden 124 24 [.ref 90, .int x1, .int (mhead G x1 0)] [.int 1000] (zSH, G) :=
  (zd_aload_n a_M_rank_0 rfl).trans ((zd_iload_n a_M_rank_1 rfl).trans ((zd_iconst (v := 0) a_M_rank_2 (by decide)).trans ((zd_cal (kd := 0) (tg := 113) (T := m_M_head) a_M_rank_3 (by decide +kernel) hm_M_head rfl rfl rfl rfl).trans (((congrArg (zaft 124 6 [.ref 90, .int x1, .retAddr 0] [] (zSH, G)) (ms_head z3_0)).trans zaft_same).trans ((zd_istore_n a_M_rank_6 rfl rfl rfl).trans ((zd_aload_n a_M_rank_7 rfl).trans ((zd_iload_n a_M_rank_8 rfl).trans ((zd_iconst (v := 1) a_M_rank_9 (by decide)).trans ((zd_cal (kd := 0) (tg := 113) (T := m_M_head) a_M_rank_10 (by decide +kernel) hm_M_head rfl rfl rfl rfl).trans (((congrArg (zaft 124 13 [.ref 90, .int x1, .int (mhead G x1 0)] [] (zSH, G)) (ms_head z10_1)).trans zaft_same).trans ((zd_iconst (v := 4) a_M_rank_13 (by decide)).trans ((zd_icmp_ge a_M_rank_14 rfl).trans (zitc (fun p10 => (zd_iconst (v := 0) a_M_rank_23 (by decide))) (fun p10 => (zd_sipush (v := 1000) a_M_rank_17 (by decide)).trans ((zd_goto a_M_rank_20 rfl))))))))))))))))
theorem B_M_rank_24 {G : Nat → Nat → Int32} {x1 x2 s0 : Int32} (z27_0 : mhok G x1 2) : zden 124 24 [.ref 90, .int x1, .int x2] [.int s0] (zSH, G) = if 3 ≤ (mhead G x1 2) then zden 124 41 [.ref 90, .int x1, .int x2] [.int 0, .int s0] (zSH, G) else zden 124 41 [.ref 90, .int x1, .int x2] [.int 500, .int s0] (zSH, G) :=
  (zd_aload_n a_M_rank_24 rfl).trans ((zd_iload_n a_M_rank_25 rfl).trans ((zd_iconst (v := 2) a_M_rank_26 (by decide)).trans ((zd_cal (kd := 0) (tg := 113) (T := m_M_head) a_M_rank_27 (by decide +kernel) hm_M_head rfl rfl rfl rfl).trans (((congrArg (zaft 124 30 [.ref 90, .int x1, .int x2] [.int s0] (zSH, G)) (ms_head z27_0)).trans zaft_same).trans ((zd_iconst (v := 3) a_M_rank_30 (by decide)).trans ((zd_icmp_ge a_M_rank_31 rfl).trans (zitc (fun p11 => (zd_iconst (v := 0) a_M_rank_40 (by decide))) (fun p11 => (zd_sipush (v := 500) a_M_rank_34 (by decide)).trans ((zd_goto a_M_rank_37 rfl))))))))))
theorem B_M_rank_41 {G : Nat → Nat → Int32} {x1 x2 s0 s1 : Int32} : zden 124 41 [.ref 90, .int x1, .int x2] [.int s0, .int s1] (zSH, G) = if ¬ x2 = 99 then zden 124 53 [.ref 90, .int x1, .int x2] [.int x2, .int (s1 + s0)] (zSH, G) else zden 124 53 [.ref 90, .int x1, .int x2] [.int 0, .int (s1 + s0)] (zSH, G) :=
  (zd_num (st2 := [.int (s1 + s0)]) a_M_rank_41 rfl rfl rfl rfl).trans ((zd_iload_n a_M_rank_42 rfl).trans ((zd_bipush (v := 99) a_M_rank_43 (by decide)).trans ((zd_icmp_ne a_M_rank_45 rfl).trans (zitc (fun p12 => (zd_iload_n a_M_rank_52 rfl)) (fun p12 => (zd_iconst (v := 0) a_M_rank_48 (by decide)).trans ((zd_goto a_M_rank_49 rfl)))))))
theorem B_M_rank_53 {G : Nat → Nat → Int32} {x1 x2 s0 s1 : Int32} : zden 124 53 [.ref 90, .int x1, .int x2] [.int s0, .int s1] (zSH, G) = some (some (.int (s1 + s0)), (zSH, G)) :=
  (zd_num (st2 := [.int (s1 + s0)]) a_M_rank_53 rfl rfl rfl rfl).trans (zd_iret a_M_rank_54 rfl (znr_int _))
theorem a_M_fitting_0 : zAt 120 0 m_M_fitting (.iconst 0) 1 := ⟨hm_M_fitting, by decide +kernel⟩
theorem a_M_fitting_1 : zAt 120 1 m_M_fitting (.istore_n 3) 1 := ⟨hm_M_fitting, by decide +kernel⟩
theorem a_M_fitting_2 : zAt 120 2 m_M_fitting (.iload_n 3) 1 := ⟨hm_M_fitting, by decide +kernel⟩
theorem a_M_fitting_3 : zAt 120 3 m_M_fitting (.aload_n 0) 1 := ⟨hm_M_fitting, by decide +kernel⟩
theorem a_M_fitting_4 : zAt 120 4 m_M_fitting (.getfield 7) 3 := ⟨hm_M_fitting, by decide +kernel⟩
theorem a_M_fitting_7 : zAt 120 7 m_M_fitting (.iconst 1) 1 := ⟨hm_M_fitting, by decide +kernel⟩
theorem a_M_fitting_8 : zAt 120 8 m_M_fitting (.iaload) 1 := ⟨hm_M_fitting, by decide +kernel⟩
theorem a_M_fitting_9 : zAt 120 9 m_M_fitting (.if_icmp .gt 86) 3 := ⟨hm_M_fitting, by decide +kernel⟩
theorem a_M_fitting_12 : zAt 120 12 m_M_fitting (.aload_n 0) 1 := ⟨hm_M_fitting, by decide +kernel⟩
theorem a_M_fitting_13 : zAt 120 13 m_M_fitting (.iload_n 3) 1 := ⟨hm_M_fitting, by decide +kernel⟩
theorem a_M_fitting_14 : zAt 120 14 m_M_fitting (.iload_n 1) 1 := ⟨hm_M_fitting, by decide +kernel⟩
theorem a_M_fitting_15 : zAt 120 15 m_M_fitting (.invokevirtual 97) 3 := ⟨hm_M_fitting, by decide +kernel⟩
theorem a_M_fitting_18 : zAt 120 18 m_M_fitting (.ifCond .ne 6) 3 := ⟨hm_M_fitting, by decide +kernel⟩
theorem a_M_fitting_21 : zAt 120 21 m_M_fitting (.goto 68) 3 := ⟨hm_M_fitting, by decide +kernel⟩
theorem a_M_fitting_24 : zAt 120 24 m_M_fitting (.iconst 0) 1 := ⟨hm_M_fitting, by decide +kernel⟩
theorem a_M_fitting_25 : zAt 120 25 m_M_fitting (.istore 4) 2 := ⟨hm_M_fitting, by decide +kernel⟩
theorem a_M_fitting_27 : zAt 120 27 m_M_fitting (.iconst 0) 1 := ⟨hm_M_fitting, by decide +kernel⟩
theorem a_M_fitting_28 : zAt 120 28 m_M_fitting (.istore 5) 2 := ⟨hm_M_fitting, by decide +kernel⟩
theorem a_M_fitting_30 : zAt 120 30 m_M_fitting (.iload 5) 2 := ⟨hm_M_fitting, by decide +kernel⟩
theorem a_M_fitting_32 : zAt 120 32 m_M_fitting (.aload_n 0) 1 := ⟨hm_M_fitting, by decide +kernel⟩
theorem a_M_fitting_33 : zAt 120 33 m_M_fitting (.getfield 7) 3 := ⟨hm_M_fitting, by decide +kernel⟩
theorem a_M_fitting_36 : zAt 120 36 m_M_fitting (.iconst 1) 1 := ⟨hm_M_fitting, by decide +kernel⟩
theorem a_M_fitting_37 : zAt 120 37 m_M_fitting (.iaload) 1 := ⟨hm_M_fitting, by decide +kernel⟩
theorem a_M_fitting_38 : zAt 120 38 m_M_fitting (.if_icmp .gt 43) 3 := ⟨hm_M_fitting, by decide +kernel⟩
theorem a_M_fitting_41 : zAt 120 41 m_M_fitting (.iload 4) 2 := ⟨hm_M_fitting, by decide +kernel⟩
theorem a_M_fitting_43 : zAt 120 43 m_M_fitting (.aload_n 0) 1 := ⟨hm_M_fitting, by decide +kernel⟩
theorem a_M_fitting_44 : zAt 120 44 m_M_fitting (.iload 5) 2 := ⟨hm_M_fitting, by decide +kernel⟩
theorem a_M_fitting_46 : zAt 120 46 m_M_fitting (.iload_n 1) 1 := ⟨hm_M_fitting, by decide +kernel⟩
theorem a_M_fitting_47 : zAt 120 47 m_M_fitting (.invokevirtual 97) 3 := ⟨hm_M_fitting, by decide +kernel⟩
theorem a_M_fitting_50 : zAt 120 50 m_M_fitting (.ifCond .eq 21) 3 := ⟨hm_M_fitting, by decide +kernel⟩
theorem a_M_fitting_53 : zAt 120 53 m_M_fitting (.aload_n 0) 1 := ⟨hm_M_fitting, by decide +kernel⟩
theorem a_M_fitting_54 : zAt 120 54 m_M_fitting (.iload 5) 2 := ⟨hm_M_fitting, by decide +kernel⟩
theorem a_M_fitting_56 : zAt 120 56 m_M_fitting (.invokevirtual 101) 3 := ⟨hm_M_fitting, by decide +kernel⟩
theorem a_M_fitting_59 : zAt 120 59 m_M_fitting (.aload_n 0) 1 := ⟨hm_M_fitting, by decide +kernel⟩
theorem a_M_fitting_60 : zAt 120 60 m_M_fitting (.iload_n 3) 1 := ⟨hm_M_fitting, by decide +kernel⟩
theorem a_M_fitting_61 : zAt 120 61 m_M_fitting (.invokevirtual 101) 3 := ⟨hm_M_fitting, by decide +kernel⟩
theorem a_M_fitting_64 : zAt 120 64 m_M_fitting (.if_icmp .le 7) 3 := ⟨hm_M_fitting, by decide +kernel⟩
theorem a_M_fitting_67 : zAt 120 67 m_M_fitting (.iconst 1) 1 := ⟨hm_M_fitting, by decide +kernel⟩
theorem a_M_fitting_68 : zAt 120 68 m_M_fitting (.goto 4) 3 := ⟨hm_M_fitting, by decide +kernel⟩
theorem a_M_fitting_71 : zAt 120 71 m_M_fitting (.iconst 0) 1 := ⟨hm_M_fitting, by decide +kernel⟩
theorem a_M_fitting_72 : zAt 120 72 m_M_fitting (.iadd) 1 := ⟨hm_M_fitting, by decide +kernel⟩
theorem a_M_fitting_73 : zAt 120 73 m_M_fitting (.istore 4) 2 := ⟨hm_M_fitting, by decide +kernel⟩
theorem a_M_fitting_75 : zAt 120 75 m_M_fitting (.iinc 5 1) 3 := ⟨hm_M_fitting, by decide +kernel⟩
theorem a_M_fitting_78 : zAt 120 78 m_M_fitting (.goto (-48)) 3 := ⟨hm_M_fitting, by decide +kernel⟩
theorem a_M_fitting_81 : zAt 120 81 m_M_fitting (.iload 4) 2 := ⟨hm_M_fitting, by decide +kernel⟩
theorem a_M_fitting_83 : zAt 120 83 m_M_fitting (.iload_n 2) 1 := ⟨hm_M_fitting, by decide +kernel⟩
theorem a_M_fitting_84 : zAt 120 84 m_M_fitting (.if_icmp .ne 5) 3 := ⟨hm_M_fitting, by decide +kernel⟩
theorem a_M_fitting_87 : zAt 120 87 m_M_fitting (.iload_n 3) 1 := ⟨hm_M_fitting, by decide +kernel⟩
theorem a_M_fitting_88 : zAt 120 88 m_M_fitting (.ireturn) 1 := ⟨hm_M_fitting, by decide +kernel⟩
theorem a_M_fitting_89 : zAt 120 89 m_M_fitting (.iinc 3 1) 3 := ⟨hm_M_fitting, by decide +kernel⟩
theorem a_M_fitting_92 : zAt 120 92 m_M_fitting (.goto (-90)) 3 := ⟨hm_M_fitting, by decide +kernel⟩
theorem a_M_fitting_95 : zAt 120 95 m_M_fitting (.iconst (-1)) 1 := ⟨hm_M_fitting, by decide +kernel⟩
theorem a_M_fitting_96 : zAt 120 96 m_M_fitting (.ireturn) 1 := ⟨hm_M_fitting, by decide +kernel⟩
theorem B_M_fitting_0 {G : Nat → Nat → Int32} {x1 x2 : Int32} : zden 120 0 [.ref 90, .int x1, .int x2, .retAddr 0, .retAddr 0, .retAddr 0] [] (zSH, G) = zden 120 2 [.ref 90, .int x1, .int x2, .int 0, .retAddr 0, .retAddr 0] [] (zSH, G) :=
  (zd_iconst (v := 0) a_M_fitting_0 (by decide)).trans ((zd_istore_n a_M_fitting_1 rfl rfl rfl))
theorem B_M_fitting_2 {G : Nat → Nat → Int32} {x1 x2 x3 : Int32} {v4 v5 : Value} : zden 120 2 [.ref 90, .int x1, .int x2, .int x3, v4, v5] [] (zSH, G) = if (G 91 1) < x3 then some (some (.int (-1)), (zSH, G)) else zaft 120 18 [.ref 90, .int x1, .int x2, .int x3, v4, v5] [] (zSH, G) (zden 121 0 [.ref 90, .int x3, .int x1] [] (zSH, G)) :=
  (zd_iload_n a_M_fitting_2 rfl).trans ((zd_aload_n a_M_fitting_3 rfl).trans ((zd_getR (h := (zSH, G)) (ci := 8) (fi := 5) (a := 91) a_M_fitting_4 (by decide +kernel) sh_90 rfl rfl).trans ((zd_iconst (v := 1) a_M_fitting_7 (by decide)).trans ((zd_iald (h := (zSH, G)) a_M_fitting_8 sh_91 rfl).trans ((if_pos (by decide)).trans ((zd_icmp_gt a_M_fitting_9 rfl).trans (zitc (fun p24 => (zd_iconst (v := (-1)) a_M_fitting_95 (by decide)).trans (zd_iret a_M_fitting_96 rfl (znr_int _))) (fun p24 => (zd_aload_n a_M_fitting_12 rfl).trans ((zd_iload_n a_M_fitting_13 rfl).trans ((zd_iload_n a_M_fitting_14 rfl).trans ((zd_cal (kd := 0) (tg := 121) (T := m_M_fits) a_M_fitting_15 (by decide +kernel) hm_M_fits rfl rfl rfl rfl))))))))))))
theorem B_M_fitting_18 {G : Nat → Nat → Int32} {x1 x2 x3 s0 : Int32} {v4 v5 : Value} : zden 120 18 [.ref 90, .int x1, .int x2, .int x3, v4, v5] [.int s0] (zSH, G) = if ¬ s0 = 0 then zden 120 30 [.ref 90, .int x1, .int x2, .int x3, .int 0, .int 0] [] (zSH, G) else zden 120 89 [.ref 90, .int x1, .int x2, .int x3, v4, v5] [] (zSH, G) :=
  (zd_if_ne a_M_fitting_18 rfl).trans (zitc (fun p25 => (zd_iconst (v := 0) a_M_fitting_24 (by decide)).trans ((zd_istore a_M_fitting_25 rfl rfl rfl).trans ((zd_iconst (v := 0) a_M_fitting_27 (by decide)).trans ((zd_istore a_M_fitting_28 rfl rfl rfl))))) (fun p25 => (zd_goto a_M_fitting_21 rfl)))
theorem B_M_fitting_30 {G : Nat → Nat → Int32} {x1 x2 x3 x4 x5 : Int32} : zden 120 30 [.ref 90, .int x1, .int x2, .int x3, .int x4, .int x5] [] (zSH, G) = if (G 91 1) < x5 then if ¬ x4 = x2 then zden 120 89 [.ref 90, .int x1, .int x2, .int x3, .int x4, .int x5] [] (zSH, G) else some (some (.int x3), (zSH, G)) else zaft 120 50 [.ref 90, .int x1, .int x2, .int x3, .int x4, .int x5] [.int x4] (zSH, G) (zden 121 0 [.ref 90, .int x5, .int x1] [] (zSH, G)) :=
  (zd_iload a_M_fitting_30 rfl).trans ((zd_aload_n a_M_fitting_32 rfl).trans ((zd_getR (h := (zSH, G)) (ci := 8) (fi := 5) (a := 91) a_M_fitting_33 (by decide +kernel) sh_90 rfl rfl).trans ((zd_iconst (v := 1) a_M_fitting_36 (by decide)).trans ((zd_iald (h := (zSH, G)) a_M_fitting_37 sh_91 rfl).trans ((if_pos (by decide)).trans ((zd_icmp_gt a_M_fitting_38 rfl).trans (zitc (fun p26 => (zd_iload a_M_fitting_81 rfl).trans ((zd_iload_n a_M_fitting_83 rfl).trans ((zd_icmp_ne a_M_fitting_84 rfl).trans (zitc (fun p27 => rfl) (fun p27 => (zd_iload_n a_M_fitting_87 rfl).trans (zd_iret a_M_fitting_88 rfl (znr_int _))))))) (fun p26 => (zd_iload a_M_fitting_41 rfl).trans ((zd_aload_n a_M_fitting_43 rfl).trans ((zd_iload a_M_fitting_44 rfl).trans ((zd_iload_n a_M_fitting_46 rfl).trans ((zd_cal (kd := 0) (tg := 121) (T := m_M_fits) a_M_fitting_47 (by decide +kernel) hm_M_fits rfl rfl rfl rfl)))))))))))))
theorem B_M_fitting_50 {G : Nat → Nat → Int32} {x1 x2 x3 x4 x5 s0 s1 : Int32} : zden 120 50 [.ref 90, .int x1, .int x2, .int x3, .int x4, .int x5] [.int s0, .int s1] (zSH, G) = if s0 = 0 then zden 120 71 [.ref 90, .int x1, .int x2, .int x3, .int x4, .int x5] [.int s1] (zSH, G) else zaft 120 59 [.ref 90, .int x1, .int x2, .int x3, .int x4, .int x5] [.int s1] (zSH, G) (zden 124 0 [.ref 90, .int x5, .retAddr 0] [] (zSH, G)) :=
  (zd_if_eq a_M_fitting_50 rfl).trans (zitc (fun p28 => rfl) (fun p28 => (zd_aload_n a_M_fitting_53 rfl).trans ((zd_iload a_M_fitting_54 rfl).trans ((zd_cal (kd := 0) (tg := 124) (T := m_M_rank) a_M_fitting_56 (by decide +kernel) hm_M_rank rfl rfl rfl rfl)))))
theorem B_M_fitting_59 {G : Nat → Nat → Int32} {x1 x2 x3 x4 x5 s0 s1 : Int32} : zden 120 59 [.ref 90, .int x1, .int x2, .int x3, .int x4, .int x5] [.int s0, .int s1] (zSH, G) = zaft 120 64 [.ref 90, .int x1, .int x2, .int x3, .int x4, .int x5] [.int s0, .int s1] (zSH, G) (zden 124 0 [.ref 90, .int x3, .retAddr 0] [] (zSH, G)) :=
  (zd_aload_n a_M_fitting_59 rfl).trans ((zd_iload_n a_M_fitting_60 rfl).trans ((zd_cal (kd := 0) (tg := 124) (T := m_M_rank) a_M_fitting_61 (by decide +kernel) hm_M_rank rfl rfl rfl rfl)))
theorem B_M_fitting_64 {G : Nat → Nat → Int32} {x1 x2 x3 x4 x5 s0 s1 s2 : Int32} : zden 120 64 [.ref 90, .int x1, .int x2, .int x3, .int x4, .int x5] [.int s0, .int s1, .int s2] (zSH, G) = if s1 ≤ s0 then zden 120 71 [.ref 90, .int x1, .int x2, .int x3, .int x4, .int x5] [.int s2] (zSH, G) else zden 120 72 [.ref 90, .int x1, .int x2, .int x3, .int x4, .int x5] [.int 1, .int s2] (zSH, G) :=
  (zd_icmp_le a_M_fitting_64 rfl).trans (zitc (fun p29 => rfl) (fun p29 => (zd_iconst (v := 1) a_M_fitting_67 (by decide)).trans ((zd_goto a_M_fitting_68 rfl))))
theorem B_M_fitting_71 {G : Nat → Nat → Int32} {x1 x2 x3 x4 x5 s0 : Int32} : zden 120 71 [.ref 90, .int x1, .int x2, .int x3, .int x4, .int x5] [.int s0] (zSH, G) = zden 120 72 [.ref 90, .int x1, .int x2, .int x3, .int x4, .int x5] [.int 0, .int s0] (zSH, G) :=
  (zd_iconst (v := 0) a_M_fitting_71 (by decide))
theorem B_M_fitting_72 {G : Nat → Nat → Int32} {x1 x2 x3 x4 x5 s0 s1 : Int32} : zden 120 72 [.ref 90, .int x1, .int x2, .int x3, .int x4, .int x5] [.int s0, .int s1] (zSH, G) = zden 120 30 [.ref 90, .int x1, .int x2, .int x3, .int (s1 + s0), .int (x5 + 1)] [] (zSH, G) :=
  (zd_num (st2 := [.int (s1 + s0)]) a_M_fitting_72 rfl rfl rfl rfl).trans ((zd_istore a_M_fitting_73 rfl rfl rfl).trans ((zd_iinc (v := 1) a_M_fitting_75 rfl (by decide) rfl rfl rfl).trans ((zd_goto a_M_fitting_78 rfl))))
theorem B_M_fitting_89 {G : Nat → Nat → Int32} {x1 x2 x3 : Int32} {v4 v5 : Value} : zden 120 89 [.ref 90, .int x1, .int x2, .int x3, v4, v5] [] (zSH, G) = zden 120 2 [.ref 90, .int x1, .int x2, .int (x3 + 1), v4, v5] [] (zSH, G) :=
  (zd_iinc (v := 1) a_M_fitting_89 rfl (by decide) rfl rfl rfl).trans ((zd_goto a_M_fitting_92 rfl))
theorem a_M_having_0 : zAt 119 0 m_M_having (.iconst 0) 1 := ⟨hm_M_having, by decide +kernel⟩
theorem a_M_having_1 : zAt 119 1 m_M_having (.istore_n 2) 1 := ⟨hm_M_having, by decide +kernel⟩
theorem a_M_having_2 : zAt 119 2 m_M_having (.iconst 0) 1 := ⟨hm_M_having, by decide +kernel⟩
theorem a_M_having_3 : zAt 119 3 m_M_having (.istore_n 3) 1 := ⟨hm_M_having, by decide +kernel⟩
theorem a_M_having_4 : zAt 119 4 m_M_having (.iload_n 3) 1 := ⟨hm_M_having, by decide +kernel⟩
theorem a_M_having_5 : zAt 119 5 m_M_having (.aload_n 0) 1 := ⟨hm_M_having, by decide +kernel⟩
theorem a_M_having_6 : zAt 119 6 m_M_having (.getfield 7) 3 := ⟨hm_M_having, by decide +kernel⟩
theorem a_M_having_9 : zAt 119 9 m_M_having (.iconst 2) 1 := ⟨hm_M_having, by decide +kernel⟩
theorem a_M_having_10 : zAt 119 10 m_M_having (.iaload) 1 := ⟨hm_M_having, by decide +kernel⟩
theorem a_M_having_11 : zAt 119 11 m_M_having (.if_icmp .ge 27) 3 := ⟨hm_M_having, by decide +kernel⟩
theorem a_M_having_14 : zAt 119 14 m_M_having (.iload_n 2) 1 := ⟨hm_M_having, by decide +kernel⟩
theorem a_M_having_15 : zAt 119 15 m_M_having (.aload_n 0) 1 := ⟨hm_M_having, by decide +kernel⟩
theorem a_M_having_16 : zAt 119 16 m_M_having (.iload_n 3) 1 := ⟨hm_M_having, by decide +kernel⟩
theorem a_M_having_17 : zAt 119 17 m_M_having (.iconst 0) 1 := ⟨hm_M_having, by decide +kernel⟩
theorem a_M_having_18 : zAt 119 18 m_M_having (.invokevirtual 104) 3 := ⟨hm_M_having, by decide +kernel⟩
theorem a_M_having_21 : zAt 119 21 m_M_having (.iload_n 1) 1 := ⟨hm_M_having, by decide +kernel⟩
theorem a_M_having_22 : zAt 119 22 m_M_having (.if_icmp .ne 7) 3 := ⟨hm_M_having, by decide +kernel⟩
theorem a_M_having_25 : zAt 119 25 m_M_having (.iconst 1) 1 := ⟨hm_M_having, by decide +kernel⟩
theorem a_M_having_26 : zAt 119 26 m_M_having (.goto 4) 3 := ⟨hm_M_having, by decide +kernel⟩
theorem a_M_having_29 : zAt 119 29 m_M_having (.iconst 0) 1 := ⟨hm_M_having, by decide +kernel⟩
theorem a_M_having_30 : zAt 119 30 m_M_having (.iadd) 1 := ⟨hm_M_having, by decide +kernel⟩
theorem a_M_having_31 : zAt 119 31 m_M_having (.istore_n 2) 1 := ⟨hm_M_having, by decide +kernel⟩
theorem a_M_having_32 : zAt 119 32 m_M_having (.iinc 3 1) 3 := ⟨hm_M_having, by decide +kernel⟩
theorem a_M_having_35 : zAt 119 35 m_M_having (.goto (-31)) 3 := ⟨hm_M_having, by decide +kernel⟩
theorem a_M_having_38 : zAt 119 38 m_M_having (.iload_n 2) 1 := ⟨hm_M_having, by decide +kernel⟩
theorem a_M_having_39 : zAt 119 39 m_M_having (.ireturn) 1 := ⟨hm_M_having, by decide +kernel⟩
theorem B_M_having_0 {G : Nat → Nat → Int32} {x1 : Int32} : zden 119 0 [.ref 90, .int x1, .retAddr 0, .retAddr 0] [] (zSH, G) = zden 119 4 [.ref 90, .int x1, .int 0, .int 0] [] (zSH, G) :=
  (zd_iconst (v := 0) a_M_having_0 (by decide)).trans ((zd_istore_n a_M_having_1 rfl rfl rfl).trans ((zd_iconst (v := 0) a_M_having_2 (by decide)).trans ((zd_istore_n a_M_having_3 rfl rfl rfl))))
theorem B_M_having_4 {G : Nat → Nat → Int32} {x1 x2 x3 : Int32} : zden 119 4 [.ref 90, .int x1, .int x2, .int x3] [] (zSH, G) = if (G 91 2) ≤ x3 then some (some (.int x2), (zSH, G)) else zaft 119 21 [.ref 90, .int x1, .int x2, .int x3] [.int x2] (zSH, G) (zden 120 0 [.ref 90, .int x3, .int 0, .retAddr 0, .retAddr 0, .retAddr 0] [] (zSH, G)) :=
  (zd_iload_n a_M_having_4 rfl).trans ((zd_aload_n a_M_having_5 rfl).trans ((zd_getR (h := (zSH, G)) (ci := 8) (fi := 5) (a := 91) a_M_having_6 (by decide +kernel) sh_90 rfl rfl).trans ((zd_iconst (v := 2) a_M_having_9 (by decide)).trans ((zd_iald (h := (zSH, G)) a_M_having_10 sh_91 rfl).trans ((if_pos (by decide)).trans ((zd_icmp_ge a_M_having_11 rfl).trans (zitc (fun p6 => (zd_iload_n a_M_having_38 rfl).trans (zd_iret a_M_having_39 rfl (znr_int _))) (fun p6 => (zd_iload_n a_M_having_14 rfl).trans ((zd_aload_n a_M_having_15 rfl).trans ((zd_iload_n a_M_having_16 rfl).trans ((zd_iconst (v := 0) a_M_having_17 (by decide)).trans ((zd_cal (kd := 0) (tg := 120) (T := m_M_fitting) a_M_having_18 (by decide +kernel) hm_M_fitting rfl rfl rfl rfl)))))))))))))
theorem B_M_having_21 {G : Nat → Nat → Int32} {x1 x2 x3 s0 s1 : Int32} : zden 119 21 [.ref 90, .int x1, .int x2, .int x3] [.int s0, .int s1] (zSH, G) = if ¬ s0 = x1 then zden 119 30 [.ref 90, .int x1, .int x2, .int x3] [.int 0, .int s1] (zSH, G) else zden 119 30 [.ref 90, .int x1, .int x2, .int x3] [.int 1, .int s1] (zSH, G) :=
  (zd_iload_n a_M_having_21 rfl).trans ((zd_icmp_ne a_M_having_22 rfl).trans (zitc (fun p7 => (zd_iconst (v := 0) a_M_having_29 (by decide))) (fun p7 => (zd_iconst (v := 1) a_M_having_25 (by decide)).trans ((zd_goto a_M_having_26 rfl)))))
theorem B_M_having_30 {G : Nat → Nat → Int32} {x1 x2 x3 s0 s1 : Int32} : zden 119 30 [.ref 90, .int x1, .int x2, .int x3] [.int s0, .int s1] (zSH, G) = zden 119 4 [.ref 90, .int x1, .int (s1 + s0), .int (x3 + 1)] [] (zSH, G) :=
  (zd_num (st2 := [.int (s1 + s0)]) a_M_having_30 rfl rfl rfl rfl).trans ((zd_istore_n a_M_having_31 rfl rfl rfl).trans ((zd_iinc (v := 1) a_M_having_32 rfl (by decide) rfl rfl rfl).trans ((zd_goto a_M_having_35 rfl))))
theorem a_M_headingOf_0 : zAt 118 0 m_M_headingOf (.aload_n 0) 1 := ⟨hm_M_headingOf, by decide +kernel⟩
theorem a_M_headingOf_1 : zAt 118 1 m_M_headingOf (.iload_n 1) 1 := ⟨hm_M_headingOf, by decide +kernel⟩
theorem a_M_headingOf_2 : zAt 118 2 m_M_headingOf (.invokevirtual 72) 3 := ⟨hm_M_headingOf, by decide +kernel⟩
theorem a_M_headingOf_5 : zAt 118 5 m_M_headingOf (.istore_n 3) 1 := ⟨hm_M_headingOf, by decide +kernel⟩
theorem a_M_headingOf_6 : zAt 118 6 m_M_headingOf (.iload_n 3) 1 := ⟨hm_M_headingOf, by decide +kernel⟩
theorem a_M_headingOf_7 : zAt 118 7 m_M_headingOf (.ifCond .ge 6) 3 := ⟨hm_M_headingOf, by decide +kernel⟩
theorem a_M_headingOf_10 : zAt 118 10 m_M_headingOf (.bipush (-11)) 2 := ⟨hm_M_headingOf, by decide +kernel⟩
theorem a_M_headingOf_12 : zAt 118 12 m_M_headingOf (.ireturn) 1 := ⟨hm_M_headingOf, by decide +kernel⟩
theorem a_M_headingOf_13 : zAt 118 13 m_M_headingOf (.iload_n 2) 1 := ⟨hm_M_headingOf, by decide +kernel⟩
theorem a_M_headingOf_14 : zAt 118 14 m_M_headingOf (.iconst 0) 1 := ⟨hm_M_headingOf, by decide +kernel⟩
theorem a_M_headingOf_15 : zAt 118 15 m_M_headingOf (.iconst 3) 1 := ⟨hm_M_headingOf, by decide +kernel⟩
theorem a_M_headingOf_16 : zAt 118 16 m_M_headingOf (.invokestatic 64) 3 := ⟨hm_M_headingOf, by decide +kernel⟩
theorem a_M_headingOf_19 : zAt 118 19 m_M_headingOf (.ifCond .eq 14) 3 := ⟨hm_M_headingOf, by decide +kernel⟩
theorem a_M_headingOf_22 : zAt 118 22 m_M_headingOf (.aload_n 0) 1 := ⟨hm_M_headingOf, by decide +kernel⟩
theorem a_M_headingOf_23 : zAt 118 23 m_M_headingOf (.iload_n 3) 1 := ⟨hm_M_headingOf, by decide +kernel⟩
theorem a_M_headingOf_24 : zAt 118 24 m_M_headingOf (.iload_n 2) 1 := ⟨hm_M_headingOf, by decide +kernel⟩
theorem a_M_headingOf_25 : zAt 118 25 m_M_headingOf (.iconst 1) 1 := ⟨hm_M_headingOf, by decide +kernel⟩
theorem a_M_headingOf_26 : zAt 118 26 m_M_headingOf (.iadd) 1 := ⟨hm_M_headingOf, by decide +kernel⟩
theorem a_M_headingOf_27 : zAt 118 27 m_M_headingOf (.invokevirtual 68) 3 := ⟨hm_M_headingOf, by decide +kernel⟩
theorem a_M_headingOf_30 : zAt 118 30 m_M_headingOf (.goto 18) 3 := ⟨hm_M_headingOf, by decide +kernel⟩
theorem a_M_headingOf_33 : zAt 118 33 m_M_headingOf (.iload_n 2) 1 := ⟨hm_M_headingOf, by decide +kernel⟩
theorem a_M_headingOf_34 : zAt 118 34 m_M_headingOf (.iconst 4) 1 := ⟨hm_M_headingOf, by decide +kernel⟩
theorem a_M_headingOf_35 : zAt 118 35 m_M_headingOf (.if_icmp .ne 11) 3 := ⟨hm_M_headingOf, by decide +kernel⟩
theorem a_M_headingOf_38 : zAt 118 38 m_M_headingOf (.aload_n 0) 1 := ⟨hm_M_headingOf, by decide +kernel⟩
theorem a_M_headingOf_39 : zAt 118 39 m_M_headingOf (.iload_n 3) 1 := ⟨hm_M_headingOf, by decide +kernel⟩
theorem a_M_headingOf_40 : zAt 118 40 m_M_headingOf (.invokevirtual 107) 3 := ⟨hm_M_headingOf, by decide +kernel⟩
theorem a_M_headingOf_43 : zAt 118 43 m_M_headingOf (.goto 5) 3 := ⟨hm_M_headingOf, by decide +kernel⟩
theorem a_M_headingOf_46 : zAt 118 46 m_M_headingOf (.bipush (-12)) 2 := ⟨hm_M_headingOf, by decide +kernel⟩
theorem a_M_headingOf_48 : zAt 118 48 m_M_headingOf (.ireturn) 1 := ⟨hm_M_headingOf, by decide +kernel⟩
theorem B_M_headingOf_0 {G : Nat → Nat → Int32} {x1 x2 : Int32} : zden 118 0 [.ref 90, .int x1, .int x2, .retAddr 0] [] (zSH, G) = zaft 118 5 [.ref 90, .int x1, .int x2, .retAddr 0] [] (zSH, G) (zden 112 0 [.ref 90, .int x1, .retAddr 0] [] (zSH, G)) :=
  (zd_aload_n a_M_headingOf_0 rfl).trans ((zd_iload_n a_M_headingOf_1 rfl).trans ((zd_cal (kd := 0) (tg := 112) (T := m_M_placeOf) a_M_headingOf_2 (by decide +kernel) hm_M_placeOf rfl rfl rfl rfl)))
theorem B_M_headingOf_5 {G : Nat → Nat → Int32} {x1 x2 s0 : Int32} (z27_0 : (0 ≤ s0) → (¬ ((bI (0 ≤ x2 ∧ x2 ≤ 3)) = 0)) → mhok G s0 (x2 + 1)) : zden 118 5 [.ref 90, .int x1, .int x2, .retAddr 0] [.int s0] (zSH, G) = if 0 ≤ s0 then if (bI (0 ≤ x2 ∧ x2 ≤ 3)) = 0 then if ¬ x2 = 4 then some (some (.int (-12)), (zSH, G)) else zaft 118 43 [.ref 90, .int x1, .int x2, .int s0] [] (zSH, G) (zden 119 0 [.ref 90, .int s0, .retAddr 0, .retAddr 0] [] (zSH, G)) else some (some (.int (mhead G s0 (x2 + 1))), (zSH, G)) else some (some (.int (-11)), (zSH, G)) :=
  (zd_istore_n a_M_headingOf_5 rfl rfl rfl).trans ((zd_iload_n a_M_headingOf_6 rfl).trans ((zd_if_ge a_M_headingOf_7 rfl).trans (zitc (fun p7 => (zd_iload_n a_M_headingOf_13 rfl).trans ((zd_iconst (v := 0) a_M_headingOf_14 (by decide)).trans ((zd_iconst (v := 3) a_M_headingOf_15 (by decide)).trans ((zd_cal (kd := 1) (tg := 110) (T := m_M_isIn) a_M_headingOf_16 (by decide +kernel) hm_M_isIn rfl rfl rfl rfl).trans (((congrArg (zaft 118 19 [.ref 90, .int x1, .int x2, .int s0] [] (zSH, G)) (ms_isIn)).trans zaft_same).trans ((zd_if_eq a_M_headingOf_19 rfl).trans (zitc (fun p8 => (zd_iload_n a_M_headingOf_33 rfl).trans ((zd_iconst (v := 4) a_M_headingOf_34 (by decide)).trans ((zd_icmp_ne a_M_headingOf_35 rfl).trans (zitc (fun p9 => (zd_bipush (v := (-12)) a_M_headingOf_46 (by decide)).trans (zd_iret a_M_headingOf_48 rfl (znr_int _))) (fun p9 => (zd_aload_n a_M_headingOf_38 rfl).trans ((zd_iload_n a_M_headingOf_39 rfl).trans ((zd_cal (kd := 0) (tg := 119) (T := m_M_having) a_M_headingOf_40 (by decide +kernel) hm_M_having rfl rfl rfl rfl)))))))) (fun p8 => (zd_aload_n a_M_headingOf_22 rfl).trans ((zd_iload_n a_M_headingOf_23 rfl).trans ((zd_iload_n a_M_headingOf_24 rfl).trans ((zd_iconst (v := 1) a_M_headingOf_25 (by decide)).trans ((zd_num (st2 := [.int (x2 + 1), .int s0, .ref 90]) a_M_headingOf_26 rfl rfl rfl rfl).trans ((zd_cal (kd := 0) (tg := 113) (T := m_M_head) a_M_headingOf_27 (by decide +kernel) hm_M_head rfl rfl rfl rfl).trans (((congrArg (zaft 118 30 [.ref 90, .int x1, .int x2, .int s0] [] (zSH, G)) (ms_head (z27_0 p7 p8))).trans zaft_same).trans ((zd_goto a_M_headingOf_30 rfl).trans (zd_iret a_M_headingOf_48 rfl (znr_int _))))))))))))))))) (fun p7 => (zd_bipush (v := (-11)) a_M_headingOf_10 (by decide)).trans (zd_iret a_M_headingOf_12 rfl (znr_int _))))))
theorem B_M_headingOf_43 {G : Nat → Nat → Int32} {x1 x2 x3 s0 : Int32} : zden 118 43 [.ref 90, .int x1, .int x2, .int x3] [.int s0] (zSH, G) = some (some (.int s0), (zSH, G)) :=
  (zd_goto a_M_headingOf_43 rfl).trans (zd_iret a_M_headingOf_48 rfl (znr_int _))
theorem a_M_code_0 : zAt 125 0 m_M_code (.iload_n 1) 1 := ⟨hm_M_code, by decide +kernel⟩
theorem a_M_code_1 : zAt 125 1 m_M_code (.iconst 0) 1 := ⟨hm_M_code, by decide +kernel⟩
theorem a_M_code_2 : zAt 125 2 m_M_code (.aload_n 0) 1 := ⟨hm_M_code, by decide +kernel⟩
theorem a_M_code_3 : zAt 125 3 m_M_code (.getfield 7) 3 := ⟨hm_M_code, by decide +kernel⟩
theorem a_M_code_6 : zAt 125 6 m_M_code (.iconst 1) 1 := ⟨hm_M_code, by decide +kernel⟩
theorem a_M_code_7 : zAt 125 7 m_M_code (.iaload) 1 := ⟨hm_M_code, by decide +kernel⟩
theorem a_M_code_8 : zAt 125 8 m_M_code (.invokestatic 64) 3 := ⟨hm_M_code, by decide +kernel⟩
theorem a_M_code_11 : zAt 125 11 m_M_code (.ifCond .eq 12) 3 := ⟨hm_M_code, by decide +kernel⟩
theorem a_M_code_14 : zAt 125 14 m_M_code (.aload_n 0) 1 := ⟨hm_M_code, by decide +kernel⟩
theorem a_M_code_15 : zAt 125 15 m_M_code (.iload_n 1) 1 := ⟨hm_M_code, by decide +kernel⟩
theorem a_M_code_16 : zAt 125 16 m_M_code (.iconst 0) 1 := ⟨hm_M_code, by decide +kernel⟩
theorem a_M_code_17 : zAt 125 17 m_M_code (.invokevirtual 68) 3 := ⟨hm_M_code, by decide +kernel⟩
theorem a_M_code_20 : zAt 125 20 m_M_code (.goto 5) 3 := ⟨hm_M_code, by decide +kernel⟩
theorem a_M_code_23 : zAt 125 23 m_M_code (.bipush (-11)) 2 := ⟨hm_M_code, by decide +kernel⟩
theorem a_M_code_25 : zAt 125 25 m_M_code (.ireturn) 1 := ⟨hm_M_code, by decide +kernel⟩
theorem B_M_code_0 {G : Nat → Nat → Int32} {x1 : Int32} (z17_0 : (¬ ((bI (0 ≤ x1 ∧ x1 ≤ (G 91 1))) = 0)) → mhok G x1 0) : zden 125 0 [.ref 90, .int x1] [] (zSH, G) = if (bI (0 ≤ x1 ∧ x1 ≤ (G 91 1))) = 0 then some (some (.int (-11)), (zSH, G)) else some (some (.int (mhead G x1 0)), (zSH, G)) :=
  (zd_iload_n a_M_code_0 rfl).trans ((zd_iconst (v := 0) a_M_code_1 (by decide)).trans ((zd_aload_n a_M_code_2 rfl).trans ((zd_getR (h := (zSH, G)) (ci := 8) (fi := 5) (a := 91) a_M_code_3 (by decide +kernel) sh_90 rfl rfl).trans ((zd_iconst (v := 1) a_M_code_6 (by decide)).trans ((zd_iald (h := (zSH, G)) a_M_code_7 sh_91 rfl).trans ((if_pos (by decide)).trans ((zd_cal (kd := 1) (tg := 110) (T := m_M_isIn) a_M_code_8 (by decide +kernel) hm_M_isIn rfl rfl rfl rfl).trans (((congrArg (zaft 125 11 [.ref 90, .int x1] [] (zSH, G)) (ms_isIn)).trans zaft_same).trans ((zd_if_eq a_M_code_11 rfl).trans (zitc (fun p2 => (zd_bipush (v := (-11)) a_M_code_23 (by decide)).trans (zd_iret a_M_code_25 rfl (znr_int _))) (fun p2 => (zd_aload_n a_M_code_14 rfl).trans ((zd_iload_n a_M_code_15 rfl).trans ((zd_iconst (v := 0) a_M_code_16 (by decide)).trans ((zd_cal (kd := 0) (tg := 113) (T := m_M_head) a_M_code_17 (by decide +kernel) hm_M_head rfl rfl rfl rfl).trans (((congrArg (zaft 125 20 [.ref 90, .int x1] [] (zSH, G)) (ms_head (z17_0 p2))).trans zaft_same).trans ((zd_goto a_M_code_20 rfl).trans (zd_iret a_M_code_25 rfl (znr_int _))))))))))))))))))
theorem a_M_comes_0 : zAt 127 0 m_M_comes (.iload_n 1) 1 := ⟨hm_M_comes, by decide +kernel⟩
theorem a_M_comes_1 : zAt 127 1 m_M_comes (.iconst 0) 1 := ⟨hm_M_comes, by decide +kernel⟩
theorem a_M_comes_2 : zAt 127 2 m_M_comes (.iconst 2) 1 := ⟨hm_M_comes, by decide +kernel⟩
theorem a_M_comes_3 : zAt 127 3 m_M_comes (.invokestatic 64) 3 := ⟨hm_M_comes, by decide +kernel⟩
theorem a_M_comes_6 : zAt 127 6 m_M_comes (.ifCond .eq 24) 3 := ⟨hm_M_comes, by decide +kernel⟩
theorem a_M_comes_9 : zAt 127 9 m_M_comes (.iload_n 2) 1 := ⟨hm_M_comes, by decide +kernel⟩
theorem a_M_comes_10 : zAt 127 10 m_M_comes (.iconst 1) 1 := ⟨hm_M_comes, by decide +kernel⟩
theorem a_M_comes_11 : zAt 127 11 m_M_comes (.bipush 99) 2 := ⟨hm_M_comes, by decide +kernel⟩
theorem a_M_comes_13 : zAt 127 13 m_M_comes (.invokestatic 64) 3 := ⟨hm_M_comes, by decide +kernel⟩
theorem a_M_comes_16 : zAt 127 16 m_M_comes (.ifCond .eq 14) 3 := ⟨hm_M_comes, by decide +kernel⟩
theorem a_M_comes_19 : zAt 127 19 m_M_comes (.iload_n 3) 1 := ⟨hm_M_comes, by decide +kernel⟩
theorem a_M_comes_20 : zAt 127 20 m_M_comes (.iconst 1) 1 := ⟨hm_M_comes, by decide +kernel⟩
theorem a_M_comes_21 : zAt 127 21 m_M_comes (.sipush 999) 3 := ⟨hm_M_comes, by decide +kernel⟩
theorem a_M_comes_24 : zAt 127 24 m_M_comes (.invokestatic 64) 3 := ⟨hm_M_comes, by decide +kernel⟩
theorem a_M_comes_27 : zAt 127 27 m_M_comes (.ifCond .ne 10) 3 := ⟨hm_M_comes, by decide +kernel⟩
theorem a_M_comes_30 : zAt 127 30 m_M_comes (.aload_n 0) 1 := ⟨hm_M_comes, by decide +kernel⟩
theorem a_M_comes_31 : zAt 127 31 m_M_comes (.bipush (-12)) 2 := ⟨hm_M_comes, by decide +kernel⟩
theorem a_M_comes_33 : zAt 127 33 m_M_comes (.invokevirtual 53) 3 := ⟨hm_M_comes, by decide +kernel⟩
theorem a_M_comes_36 : zAt 127 36 m_M_comes (.ireturn) 1 := ⟨hm_M_comes, by decide +kernel⟩
theorem a_M_comes_37 : zAt 127 37 m_M_comes (.iload 4) 2 := ⟨hm_M_comes, by decide +kernel⟩
theorem a_M_comes_39 : zAt 127 39 m_M_comes (.iconst 0) 1 := ⟨hm_M_comes, by decide +kernel⟩
theorem a_M_comes_40 : zAt 127 40 m_M_comes (.bipush 100) 2 := ⟨hm_M_comes, by decide +kernel⟩
theorem a_M_comes_42 : zAt 127 42 m_M_comes (.invokestatic 64) 3 := ⟨hm_M_comes, by decide +kernel⟩
theorem a_M_comes_45 : zAt 127 45 m_M_comes (.ifCond .eq 34) 3 := ⟨hm_M_comes, by decide +kernel⟩
theorem a_M_comes_48 : zAt 127 48 m_M_comes (.iload 5) 2 := ⟨hm_M_comes, by decide +kernel⟩
theorem a_M_comes_50 : zAt 127 50 m_M_comes (.iconst 0) 1 := ⟨hm_M_comes, by decide +kernel⟩
theorem a_M_comes_51 : zAt 127 51 m_M_comes (.bipush 100) 2 := ⟨hm_M_comes, by decide +kernel⟩
theorem a_M_comes_53 : zAt 127 53 m_M_comes (.iload 4) 2 := ⟨hm_M_comes, by decide +kernel⟩
theorem a_M_comes_55 : zAt 127 55 m_M_comes (.isub) 1 := ⟨hm_M_comes, by decide +kernel⟩
theorem a_M_comes_56 : zAt 127 56 m_M_comes (.invokestatic 64) 3 := ⟨hm_M_comes, by decide +kernel⟩
theorem a_M_comes_59 : zAt 127 59 m_M_comes (.ifCond .eq 20) 3 := ⟨hm_M_comes, by decide +kernel⟩
theorem a_M_comes_62 : zAt 127 62 m_M_comes (.iload 6) 2 := ⟨hm_M_comes, by decide +kernel⟩
theorem a_M_comes_64 : zAt 127 64 m_M_comes (.iconst 0) 1 := ⟨hm_M_comes, by decide +kernel⟩
theorem a_M_comes_65 : zAt 127 65 m_M_comes (.bipush 100) 2 := ⟨hm_M_comes, by decide +kernel⟩
theorem a_M_comes_67 : zAt 127 67 m_M_comes (.iload 4) 2 := ⟨hm_M_comes, by decide +kernel⟩
theorem a_M_comes_69 : zAt 127 69 m_M_comes (.isub) 1 := ⟨hm_M_comes, by decide +kernel⟩
theorem a_M_comes_70 : zAt 127 70 m_M_comes (.iload 5) 2 := ⟨hm_M_comes, by decide +kernel⟩
theorem a_M_comes_72 : zAt 127 72 m_M_comes (.isub) 1 := ⟨hm_M_comes, by decide +kernel⟩
theorem a_M_comes_73 : zAt 127 73 m_M_comes (.invokestatic 64) 3 := ⟨hm_M_comes, by decide +kernel⟩
theorem a_M_comes_76 : zAt 127 76 m_M_comes (.ifCond .ne 10) 3 := ⟨hm_M_comes, by decide +kernel⟩
theorem a_M_comes_79 : zAt 127 79 m_M_comes (.aload_n 0) 1 := ⟨hm_M_comes, by decide +kernel⟩
theorem a_M_comes_80 : zAt 127 80 m_M_comes (.bipush (-12)) 2 := ⟨hm_M_comes, by decide +kernel⟩
theorem a_M_comes_82 : zAt 127 82 m_M_comes (.invokevirtual 53) 3 := ⟨hm_M_comes, by decide +kernel⟩
theorem a_M_comes_85 : zAt 127 85 m_M_comes (.ireturn) 1 := ⟨hm_M_comes, by decide +kernel⟩
theorem a_M_comes_86 : zAt 127 86 m_M_comes (.aload_n 0) 1 := ⟨hm_M_comes, by decide +kernel⟩
theorem a_M_comes_87 : zAt 127 87 m_M_comes (.getfield 7) 3 := ⟨hm_M_comes, by decide +kernel⟩
theorem a_M_comes_90 : zAt 127 90 m_M_comes (.iconst 2) 1 := ⟨hm_M_comes, by decide +kernel⟩
theorem a_M_comes_91 : zAt 127 91 m_M_comes (.iaload) 1 := ⟨hm_M_comes, by decide +kernel⟩
theorem a_M_comes_92 : zAt 127 92 m_M_comes (.istore 7) 2 := ⟨hm_M_comes, by decide +kernel⟩
theorem a_M_comes_94 : zAt 127 94 m_M_comes (.iload 7) 2 := ⟨hm_M_comes, by decide +kernel⟩
theorem a_M_comes_96 : zAt 127 96 m_M_comes (.bipush 12) 2 := ⟨hm_M_comes, by decide +kernel⟩
theorem a_M_comes_98 : zAt 127 98 m_M_comes (.if_icmp .ne 11) 3 := ⟨hm_M_comes, by decide +kernel⟩
theorem a_M_comes_101 : zAt 127 101 m_M_comes (.aload_n 0) 1 := ⟨hm_M_comes, by decide +kernel⟩
theorem a_M_comes_102 : zAt 127 102 m_M_comes (.iconst 1) 1 := ⟨hm_M_comes, by decide +kernel⟩
theorem a_M_comes_103 : zAt 127 103 m_M_comes (.bipush 12) 2 := ⟨hm_M_comes, by decide +kernel⟩
theorem a_M_comes_105 : zAt 127 105 m_M_comes (.invokevirtual 75) 3 := ⟨hm_M_comes, by decide +kernel⟩
theorem a_M_comes_108 : zAt 127 108 m_M_comes (.ireturn) 1 := ⟨hm_M_comes, by decide +kernel⟩
theorem a_M_comes_109 : zAt 127 109 m_M_comes (.iconst 0) 1 := ⟨hm_M_comes, by decide +kernel⟩
theorem a_M_comes_110 : zAt 127 110 m_M_comes (.istore 8) 2 := ⟨hm_M_comes, by decide +kernel⟩
theorem a_M_comes_112 : zAt 127 112 m_M_comes (.iload 8) 2 := ⟨hm_M_comes, by decide +kernel⟩
theorem a_M_comes_114 : zAt 127 114 m_M_comes (.bipush 22) 2 := ⟨hm_M_comes, by decide +kernel⟩
theorem a_M_comes_116 : zAt 127 116 m_M_comes (.if_icmp .ge 22) 3 := ⟨hm_M_comes, by decide +kernel⟩
theorem a_M_comes_119 : zAt 127 119 m_M_comes (.aload_n 0) 1 := ⟨hm_M_comes, by decide +kernel⟩
theorem a_M_comes_120 : zAt 127 120 m_M_comes (.getfield 7) 3 := ⟨hm_M_comes, by decide +kernel⟩
theorem a_M_comes_123 : zAt 127 123 m_M_comes (.iload 7) 2 := ⟨hm_M_comes, by decide +kernel⟩
theorem a_M_comes_125 : zAt 127 125 m_M_comes (.iload 8) 2 := ⟨hm_M_comes, by decide +kernel⟩
theorem a_M_comes_127 : zAt 127 127 m_M_comes (.invokestatic 91) 3 := ⟨hm_M_comes, by decide +kernel⟩
theorem a_M_comes_130 : zAt 127 130 m_M_comes (.iconst 0) 1 := ⟨hm_M_comes, by decide +kernel⟩
theorem a_M_comes_131 : zAt 127 131 m_M_comes (.iastore) 1 := ⟨hm_M_comes, by decide +kernel⟩
theorem a_M_comes_132 : zAt 127 132 m_M_comes (.iinc 8 1) 3 := ⟨hm_M_comes, by decide +kernel⟩
theorem a_M_comes_135 : zAt 127 135 m_M_comes (.goto (-23)) 3 := ⟨hm_M_comes, by decide +kernel⟩
theorem a_M_comes_138 : zAt 127 138 m_M_comes (.aload_n 0) 1 := ⟨hm_M_comes, by decide +kernel⟩
theorem a_M_comes_139 : zAt 127 139 m_M_comes (.getfield 7) 3 := ⟨hm_M_comes, by decide +kernel⟩
theorem a_M_comes_142 : zAt 127 142 m_M_comes (.iload 7) 2 := ⟨hm_M_comes, by decide +kernel⟩
theorem a_M_comes_144 : zAt 127 144 m_M_comes (.iconst 0) 1 := ⟨hm_M_comes, by decide +kernel⟩
theorem a_M_comes_145 : zAt 127 145 m_M_comes (.invokestatic 91) 3 := ⟨hm_M_comes, by decide +kernel⟩
theorem a_M_comes_148 : zAt 127 148 m_M_comes (.iload_n 1) 1 := ⟨hm_M_comes, by decide +kernel⟩
theorem a_M_comes_149 : zAt 127 149 m_M_comes (.iastore) 1 := ⟨hm_M_comes, by decide +kernel⟩
theorem a_M_comes_150 : zAt 127 150 m_M_comes (.aload_n 0) 1 := ⟨hm_M_comes, by decide +kernel⟩
theorem a_M_comes_151 : zAt 127 151 m_M_comes (.getfield 7) 3 := ⟨hm_M_comes, by decide +kernel⟩
theorem a_M_comes_154 : zAt 127 154 m_M_comes (.iload 7) 2 := ⟨hm_M_comes, by decide +kernel⟩
theorem a_M_comes_156 : zAt 127 156 m_M_comes (.iconst 1) 1 := ⟨hm_M_comes, by decide +kernel⟩
theorem a_M_comes_157 : zAt 127 157 m_M_comes (.invokestatic 91) 3 := ⟨hm_M_comes, by decide +kernel⟩
theorem a_M_comes_160 : zAt 127 160 m_M_comes (.iload_n 2) 1 := ⟨hm_M_comes, by decide +kernel⟩
theorem a_M_comes_161 : zAt 127 161 m_M_comes (.iastore) 1 := ⟨hm_M_comes, by decide +kernel⟩
theorem a_M_comes_162 : zAt 127 162 m_M_comes (.aload_n 0) 1 := ⟨hm_M_comes, by decide +kernel⟩
theorem a_M_comes_163 : zAt 127 163 m_M_comes (.getfield 7) 3 := ⟨hm_M_comes, by decide +kernel⟩
theorem a_M_comes_166 : zAt 127 166 m_M_comes (.iload 7) 2 := ⟨hm_M_comes, by decide +kernel⟩
theorem a_M_comes_168 : zAt 127 168 m_M_comes (.iconst 2) 1 := ⟨hm_M_comes, by decide +kernel⟩
theorem a_M_comes_169 : zAt 127 169 m_M_comes (.invokestatic 91) 3 := ⟨hm_M_comes, by decide +kernel⟩
theorem a_M_comes_172 : zAt 127 172 m_M_comes (.iload_n 3) 1 := ⟨hm_M_comes, by decide +kernel⟩
theorem a_M_comes_173 : zAt 127 173 m_M_comes (.iastore) 1 := ⟨hm_M_comes, by decide +kernel⟩
theorem a_M_comes_174 : zAt 127 174 m_M_comes (.aload_n 0) 1 := ⟨hm_M_comes, by decide +kernel⟩
theorem a_M_comes_175 : zAt 127 175 m_M_comes (.getfield 7) 3 := ⟨hm_M_comes, by decide +kernel⟩
theorem a_M_comes_178 : zAt 127 178 m_M_comes (.iload 7) 2 := ⟨hm_M_comes, by decide +kernel⟩
theorem a_M_comes_180 : zAt 127 180 m_M_comes (.iconst 3) 1 := ⟨hm_M_comes, by decide +kernel⟩
theorem a_M_comes_181 : zAt 127 181 m_M_comes (.invokestatic 91) 3 := ⟨hm_M_comes, by decide +kernel⟩
theorem a_M_comes_184 : zAt 127 184 m_M_comes (.iload 4) 2 := ⟨hm_M_comes, by decide +kernel⟩
theorem a_M_comes_186 : zAt 127 186 m_M_comes (.iastore) 1 := ⟨hm_M_comes, by decide +kernel⟩
theorem a_M_comes_187 : zAt 127 187 m_M_comes (.aload_n 0) 1 := ⟨hm_M_comes, by decide +kernel⟩
theorem a_M_comes_188 : zAt 127 188 m_M_comes (.getfield 7) 3 := ⟨hm_M_comes, by decide +kernel⟩
theorem a_M_comes_191 : zAt 127 191 m_M_comes (.iload 7) 2 := ⟨hm_M_comes, by decide +kernel⟩
theorem a_M_comes_193 : zAt 127 193 m_M_comes (.iconst 4) 1 := ⟨hm_M_comes, by decide +kernel⟩
theorem a_M_comes_194 : zAt 127 194 m_M_comes (.invokestatic 91) 3 := ⟨hm_M_comes, by decide +kernel⟩
theorem a_M_comes_197 : zAt 127 197 m_M_comes (.iload 5) 2 := ⟨hm_M_comes, by decide +kernel⟩
theorem a_M_comes_199 : zAt 127 199 m_M_comes (.iastore) 1 := ⟨hm_M_comes, by decide +kernel⟩
theorem a_M_comes_200 : zAt 127 200 m_M_comes (.aload_n 0) 1 := ⟨hm_M_comes, by decide +kernel⟩
theorem a_M_comes_201 : zAt 127 201 m_M_comes (.getfield 7) 3 := ⟨hm_M_comes, by decide +kernel⟩
theorem a_M_comes_204 : zAt 127 204 m_M_comes (.iload 7) 2 := ⟨hm_M_comes, by decide +kernel⟩
theorem a_M_comes_206 : zAt 127 206 m_M_comes (.iconst 5) 1 := ⟨hm_M_comes, by decide +kernel⟩
theorem a_M_comes_207 : zAt 127 207 m_M_comes (.invokestatic 91) 3 := ⟨hm_M_comes, by decide +kernel⟩
theorem a_M_comes_210 : zAt 127 210 m_M_comes (.iload 6) 2 := ⟨hm_M_comes, by decide +kernel⟩
theorem a_M_comes_212 : zAt 127 212 m_M_comes (.iastore) 1 := ⟨hm_M_comes, by decide +kernel⟩
theorem a_M_comes_213 : zAt 127 213 m_M_comes (.aload_n 0) 1 := ⟨hm_M_comes, by decide +kernel⟩
theorem a_M_comes_214 : zAt 127 214 m_M_comes (.getfield 7) 3 := ⟨hm_M_comes, by decide +kernel⟩
theorem a_M_comes_217 : zAt 127 217 m_M_comes (.iload 7) 2 := ⟨hm_M_comes, by decide +kernel⟩
theorem a_M_comes_219 : zAt 127 219 m_M_comes (.bipush 6) 2 := ⟨hm_M_comes, by decide +kernel⟩
theorem a_M_comes_221 : zAt 127 221 m_M_comes (.invokestatic 91) 3 := ⟨hm_M_comes, by decide +kernel⟩
theorem a_M_comes_224 : zAt 127 224 m_M_comes (.bipush 100) 2 := ⟨hm_M_comes, by decide +kernel⟩
theorem a_M_comes_226 : zAt 127 226 m_M_comes (.iload 4) 2 := ⟨hm_M_comes, by decide +kernel⟩
theorem a_M_comes_228 : zAt 127 228 m_M_comes (.isub) 1 := ⟨hm_M_comes, by decide +kernel⟩
theorem a_M_comes_229 : zAt 127 229 m_M_comes (.iload 5) 2 := ⟨hm_M_comes, by decide +kernel⟩
theorem a_M_comes_231 : zAt 127 231 m_M_comes (.isub) 1 := ⟨hm_M_comes, by decide +kernel⟩
theorem a_M_comes_232 : zAt 127 232 m_M_comes (.iload 6) 2 := ⟨hm_M_comes, by decide +kernel⟩
theorem a_M_comes_234 : zAt 127 234 m_M_comes (.isub) 1 := ⟨hm_M_comes, by decide +kernel⟩
theorem a_M_comes_235 : zAt 127 235 m_M_comes (.iastore) 1 := ⟨hm_M_comes, by decide +kernel⟩
theorem a_M_comes_236 : zAt 127 236 m_M_comes (.aload_n 0) 1 := ⟨hm_M_comes, by decide +kernel⟩
theorem a_M_comes_237 : zAt 127 237 m_M_comes (.getfield 7) 3 := ⟨hm_M_comes, by decide +kernel⟩
theorem a_M_comes_240 : zAt 127 240 m_M_comes (.iload 7) 2 := ⟨hm_M_comes, by decide +kernel⟩
theorem a_M_comes_242 : zAt 127 242 m_M_comes (.bipush 10) 2 := ⟨hm_M_comes, by decide +kernel⟩
theorem a_M_comes_244 : zAt 127 244 m_M_comes (.invokestatic 91) 3 := ⟨hm_M_comes, by decide +kernel⟩
theorem a_M_comes_247 : zAt 127 247 m_M_comes (.iconst (-1)) 1 := ⟨hm_M_comes, by decide +kernel⟩
theorem a_M_comes_248 : zAt 127 248 m_M_comes (.iastore) 1 := ⟨hm_M_comes, by decide +kernel⟩
theorem a_M_comes_249 : zAt 127 249 m_M_comes (.aload_n 0) 1 := ⟨hm_M_comes, by decide +kernel⟩
theorem a_M_comes_250 : zAt 127 250 m_M_comes (.getfield 7) 3 := ⟨hm_M_comes, by decide +kernel⟩
theorem a_M_comes_253 : zAt 127 253 m_M_comes (.iconst 2) 1 := ⟨hm_M_comes, by decide +kernel⟩
theorem a_M_comes_254 : zAt 127 254 m_M_comes (.dup2) 1 := ⟨hm_M_comes, by decide +kernel⟩
theorem a_M_comes_255 : zAt 127 255 m_M_comes (.iaload) 1 := ⟨hm_M_comes, by decide +kernel⟩
theorem a_M_comes_256 : zAt 127 256 m_M_comes (.iconst 1) 1 := ⟨hm_M_comes, by decide +kernel⟩
theorem a_M_comes_257 : zAt 127 257 m_M_comes (.iadd) 1 := ⟨hm_M_comes, by decide +kernel⟩
theorem a_M_comes_258 : zAt 127 258 m_M_comes (.iastore) 1 := ⟨hm_M_comes, by decide +kernel⟩
theorem a_M_comes_259 : zAt 127 259 m_M_comes (.iload 7) 2 := ⟨hm_M_comes, by decide +kernel⟩
theorem a_M_comes_261 : zAt 127 261 m_M_comes (.ireturn) 1 := ⟨hm_M_comes, by decide +kernel⟩
theorem B_M_comes_0 {G : Nat → Nat → Int32} {x1 x2 x3 x4 x5 x6 : Int32} : zden 127 0 [.ref 90, .int x1, .int x2, .int x3, .int x4, .int x5, .int x6, .retAddr 0, .retAddr 0] [] (zSH, G) = if (bI (0 ≤ x1 ∧ x1 ≤ 2)) = 0 then zden 127 30 [.ref 90, .int x1, .int x2, .int x3, .int x4, .int x5, .int x6, .retAddr 0, .retAddr 0] [] (zSH, G) else if (bI (1 ≤ x2 ∧ x2 ≤ 99)) = 0 then zden 127 30 [.ref 90, .int x1, .int x2, .int x3, .int x4, .int x5, .int x6, .retAddr 0, .retAddr 0] [] (zSH, G) else if ¬ (bI (1 ≤ x3 ∧ x3 ≤ 999)) = 0 then if (bI (0 ≤ x4 ∧ x4 ≤ 100)) = 0 then zden 127 79 [.ref 90, .int x1, .int x2, .int x3, .int x4, .int x5, .int x6, .retAddr 0, .retAddr 0] [] (zSH, G) else if (bI (0 ≤ x5 ∧ x5 ≤ (100 - x4))) = 0 then zden 127 79 [.ref 90, .int x1, .int x2, .int x3, .int x4, .int x5, .int x6, .retAddr 0, .retAddr 0] [] (zSH, G) else if ¬ (bI (0 ≤ x6 ∧ x6 ≤ ((100 - x4) - x5))) = 0 then if ¬ (G 91 2) = 12 then zden 127 112 [.ref 90, .int x1, .int x2, .int x3, .int x4, .int x5, .int x6, .int (G 91 2), .int 0] [] (zSH, G) else some (some (.int (-14)), (zSH, (zup (zup (zup G 90 2 1) 90 3 12) 90 0 (-14)))) else zden 127 79 [.ref 90, .int x1, .int x2, .int x3, .int x4, .int x5, .int x6, .retAddr 0, .retAddr 0] [] (zSH, G) else zden 127 30 [.ref 90, .int x1, .int x2, .int x3, .int x4, .int x5, .int x6, .retAddr 0, .retAddr 0] [] (zSH, G) :=
  (zd_iload_n a_M_comes_0 rfl).trans ((zd_iconst (v := 0) a_M_comes_1 (by decide)).trans ((zd_iconst (v := 2) a_M_comes_2 (by decide)).trans ((zd_cal (kd := 1) (tg := 110) (T := m_M_isIn) a_M_comes_3 (by decide +kernel) hm_M_isIn rfl rfl rfl rfl).trans (((congrArg (zaft 127 6 [.ref 90, .int x1, .int x2, .int x3, .int x4, .int x5, .int x6, .retAddr 0, .retAddr 0] [] (zSH, G)) (ms_isIn)).trans zaft_same).trans ((zd_if_eq a_M_comes_6 rfl).trans (zitc (fun p16 => rfl) (fun p16 => (zd_iload_n a_M_comes_9 rfl).trans ((zd_iconst (v := 1) a_M_comes_10 (by decide)).trans ((zd_bipush (v := 99) a_M_comes_11 (by decide)).trans ((zd_cal (kd := 1) (tg := 110) (T := m_M_isIn) a_M_comes_13 (by decide +kernel) hm_M_isIn rfl rfl rfl rfl).trans (((congrArg (zaft 127 16 [.ref 90, .int x1, .int x2, .int x3, .int x4, .int x5, .int x6, .retAddr 0, .retAddr 0] [] (zSH, G)) (ms_isIn)).trans zaft_same).trans ((zd_if_eq a_M_comes_16 rfl).trans (zitc (fun p17 => rfl) (fun p17 => (zd_iload_n a_M_comes_19 rfl).trans ((zd_iconst (v := 1) a_M_comes_20 (by decide)).trans ((zd_sipush (v := 999) a_M_comes_21 (by decide)).trans ((zd_cal (kd := 1) (tg := 110) (T := m_M_isIn) a_M_comes_24 (by decide +kernel) hm_M_isIn rfl rfl rfl rfl).trans (((congrArg (zaft 127 27 [.ref 90, .int x1, .int x2, .int x3, .int x4, .int x5, .int x6, .retAddr 0, .retAddr 0] [] (zSH, G)) (ms_isIn)).trans zaft_same).trans ((zd_if_ne a_M_comes_27 rfl).trans (zitc (fun p18 => (zd_iload a_M_comes_37 rfl).trans ((zd_iconst (v := 0) a_M_comes_39 (by decide)).trans ((zd_bipush (v := 100) a_M_comes_40 (by decide)).trans ((zd_cal (kd := 1) (tg := 110) (T := m_M_isIn) a_M_comes_42 (by decide +kernel) hm_M_isIn rfl rfl rfl rfl).trans (((congrArg (zaft 127 45 [.ref 90, .int x1, .int x2, .int x3, .int x4, .int x5, .int x6, .retAddr 0, .retAddr 0] [] (zSH, G)) (ms_isIn)).trans zaft_same).trans ((zd_if_eq a_M_comes_45 rfl).trans (zitc (fun p19 => rfl) (fun p19 => (zd_iload a_M_comes_48 rfl).trans ((zd_iconst (v := 0) a_M_comes_50 (by decide)).trans ((zd_bipush (v := 100) a_M_comes_51 (by decide)).trans ((zd_iload a_M_comes_53 rfl).trans ((zd_num (st2 := [.int (100 - x4), .int 0, .int x5]) a_M_comes_55 rfl rfl rfl rfl).trans ((zd_cal (kd := 1) (tg := 110) (T := m_M_isIn) a_M_comes_56 (by decide +kernel) hm_M_isIn rfl rfl rfl rfl).trans (((congrArg (zaft 127 59 [.ref 90, .int x1, .int x2, .int x3, .int x4, .int x5, .int x6, .retAddr 0, .retAddr 0] [] (zSH, G)) (ms_isIn)).trans zaft_same).trans ((zd_if_eq a_M_comes_59 rfl).trans (zitc (fun p20 => rfl) (fun p20 => (zd_iload a_M_comes_62 rfl).trans ((zd_iconst (v := 0) a_M_comes_64 (by decide)).trans ((zd_bipush (v := 100) a_M_comes_65 (by decide)).trans ((zd_iload a_M_comes_67 rfl).trans ((zd_num (st2 := [.int (100 - x4), .int 0, .int x6]) a_M_comes_69 rfl rfl rfl rfl).trans ((zd_iload a_M_comes_70 rfl).trans ((zd_num (st2 := [.int ((100 - x4) - x5), .int 0, .int x6]) a_M_comes_72 rfl rfl rfl rfl).trans ((zd_cal (kd := 1) (tg := 110) (T := m_M_isIn) a_M_comes_73 (by decide +kernel) hm_M_isIn rfl rfl rfl rfl).trans (((congrArg (zaft 127 76 [.ref 90, .int x1, .int x2, .int x3, .int x4, .int x5, .int x6, .retAddr 0, .retAddr 0] [] (zSH, G)) (ms_isIn)).trans zaft_same).trans ((zd_if_ne a_M_comes_76 rfl).trans (zitc (fun p21 => (zd_aload_n a_M_comes_86 rfl).trans ((zd_getR (h := (zSH, G)) (ci := 8) (fi := 5) (a := 91) a_M_comes_87 (by decide +kernel) sh_90 rfl rfl).trans ((zd_iconst (v := 2) a_M_comes_90 (by decide)).trans ((zd_iald (h := (zSH, G)) a_M_comes_91 sh_91 rfl).trans ((if_pos (by decide)).trans ((zd_istore a_M_comes_92 rfl rfl rfl).trans ((zd_iload a_M_comes_94 rfl).trans ((zd_bipush (v := 12) a_M_comes_96 (by decide)).trans ((zd_icmp_ne a_M_comes_98 rfl).trans (zitc (fun p22 => (zd_iconst (v := 0) a_M_comes_109 (by decide)).trans ((zd_istore a_M_comes_110 rfl rfl rfl))) (fun p22 => (zd_aload_n a_M_comes_101 rfl).trans ((zd_iconst (v := 1) a_M_comes_102 (by decide)).trans ((zd_bipush (v := 12) a_M_comes_103 (by decide)).trans ((zd_cal (kd := 0) (tg := 114) (T := m_M_refuses) a_M_comes_105 (by decide +kernel) hm_M_refuses rfl rfl rfl rfl).trans (((congrArg (zaft 127 108 [.ref 90, .int x1, .int x2, .int x3, .int x4, .int x5, .int x6, .int (G 91 2), .retAddr 0] [] (zSH, G)) (ms_refuses)).trans zaft_same).trans (zd_iret a_M_comes_108 rfl (znr_int _))))))))))))))))) (fun p21 => rfl)))))))))))))))))))))))))))) (fun p18 => rfl)))))))))))))))))))))
theorem B_M_comes_30 {G : Nat → Nat → Int32} {x1 x2 x3 x4 x5 x6 : Int32} : zden 127 30 [.ref 90, .int x1, .int x2, .int x3, .int x4, .int x5, .int x6, .retAddr 0, .retAddr 0] [] (zSH, G) = some (some (.int (-12)), (zSH, (zup G 90 0 (-12)))) :=
  (zd_aload_n a_M_comes_30 rfl).trans ((zd_bipush (v := (-12)) a_M_comes_31 (by decide)).trans ((zd_cal (kd := 0) (tg := 111) (T := m_M_fail) a_M_comes_33 (by decide +kernel) hm_M_fail rfl rfl rfl rfl).trans (((congrArg (zaft 127 36 [.ref 90, .int x1, .int x2, .int x3, .int x4, .int x5, .int x6, .retAddr 0, .retAddr 0] [] (zSH, G)) (ms_fail)).trans zaft_same).trans (zd_iret a_M_comes_36 rfl (znr_int _)))))
theorem B_M_comes_79 {G : Nat → Nat → Int32} {x1 x2 x3 x4 x5 x6 : Int32} : zden 127 79 [.ref 90, .int x1, .int x2, .int x3, .int x4, .int x5, .int x6, .retAddr 0, .retAddr 0] [] (zSH, G) = some (some (.int (-12)), (zSH, (zup G 90 0 (-12)))) :=
  (zd_aload_n a_M_comes_79 rfl).trans ((zd_bipush (v := (-12)) a_M_comes_80 (by decide)).trans ((zd_cal (kd := 0) (tg := 111) (T := m_M_fail) a_M_comes_82 (by decide +kernel) hm_M_fail rfl rfl rfl rfl).trans (((congrArg (zaft 127 85 [.ref 90, .int x1, .int x2, .int x3, .int x4, .int x5, .int x6, .retAddr 0, .retAddr 0] [] (zSH, G)) (ms_fail)).trans zaft_same).trans (zd_iret a_M_comes_85 rfl (znr_int _)))))
theorem B_M_comes_112 {G : Nat → Nat → Int32} {x1 x2 x3 x4 x5 x6 x7 x8 : Int32} (z149_0 : (22 ≤ x8) → zin (63 + 22 * x7 + 0) 327 = true) (z161_1 : (22 ≤ x8) → zin (63 + 22 * x7 + 1) 327 = true) (z173_2 : (22 ≤ x8) → zin (63 + 22 * x7 + 2) 327 = true) (z186_3 : (22 ≤ x8) → zin (63 + 22 * x7 + 3) 327 = true) (z199_4 : (22 ≤ x8) → zin (63 + 22 * x7 + 4) 327 = true) (z212_5 : (22 ≤ x8) → zin (63 + 22 * x7 + 5) 327 = true) (z235_6 : (22 ≤ x8) → zin (63 + 22 * x7 + 6) 327 = true) (z248_7 : (22 ≤ x8) → zin (63 + 22 * x7 + 10) 327 = true) (z131_8 : (¬ (22 ≤ x8)) → zin (63 + 22 * x7 + x8) 327 = true) : zden 127 112 [.ref 90, .int x1, .int x2, .int x3, .int x4, .int x5, .int x6, .int x7, .int x8] [] (zSH, G) = if 22 ≤ x8 then some (some (.int x7), (zSH, (zup (zup (zup (zup (zup (zup (zup (zup (zup G 91 (63 + 22 * x7 + 0).toNatClampNeg x1) 91 (63 + 22 * x7 + 1).toNatClampNeg x2) 91 (63 + 22 * x7 + 2).toNatClampNeg x3) 91 (63 + 22 * x7 + 3).toNatClampNeg x4) 91 (63 + 22 * x7 + 4).toNatClampNeg x5) 91 (63 + 22 * x7 + 5).toNatClampNeg x6) 91 (63 + 22 * x7 + 6).toNatClampNeg (((100 - x4) - x5) - x6)) 91 (63 + 22 * x7 + 10).toNatClampNeg (-1)) 91 2 (((zup (zup (zup (zup (zup (zup (zup (zup G 91 (63 + 22 * x7 + 0).toNatClampNeg x1) 91 (63 + 22 * x7 + 1).toNatClampNeg x2) 91 (63 + 22 * x7 + 2).toNatClampNeg x3) 91 (63 + 22 * x7 + 3).toNatClampNeg x4) 91 (63 + 22 * x7 + 4).toNatClampNeg x5) 91 (63 + 22 * x7 + 5).toNatClampNeg x6) 91 (63 + 22 * x7 + 6).toNatClampNeg (((100 - x4) - x5) - x6)) 91 (63 + 22 * x7 + 10).toNatClampNeg (-1)) 91 2) + 1)))) else zden 127 112 [.ref 90, .int x1, .int x2, .int x3, .int x4, .int x5, .int x6, .int x7, .int (x8 + 1)] [] (zSH, (zup G 91 (63 + 22 * x7 + x8).toNatClampNeg 0)) :=
  (zd_iload a_M_comes_112 rfl).trans ((zd_bipush (v := 22) a_M_comes_114 (by decide)).trans ((zd_icmp_ge a_M_comes_116 rfl).trans (zitc (fun p23 => (zd_aload_n a_M_comes_138 rfl).trans ((zd_getR (h := (zSH, G)) (ci := 8) (fi := 5) (a := 91) a_M_comes_139 (by decide +kernel) sh_90 rfl rfl).trans ((zd_iload a_M_comes_142 rfl).trans ((zd_iconst (v := 0) a_M_comes_144 (by decide)).trans ((zd_cal (kd := 1) (tg := 123) (T := m_M_of) a_M_comes_145 (by decide +kernel) hm_M_of rfl rfl rfl rfl).trans (((congrArg (zaft 127 148 [.ref 90, .int x1, .int x2, .int x3, .int x4, .int x5, .int x6, .int x7, .int x8] [.ref 91] (zSH, G)) (ms_of)).trans zaft_same).trans ((zd_iload_n a_M_comes_148 rfl).trans ((zd_iast (h := (zSH, G)) a_M_comes_149 sh_91).trans ((if_pos (z149_0 p23)).trans ((zd_aload_n a_M_comes_150 rfl).trans ((zd_getR (h := (zSH, (zup G 91 (63 + 22 * x7 + 0).toNatClampNeg x1))) (ci := 8) (fi := 5) (a := 91) a_M_comes_151 (by decide +kernel) sh_90 rfl rfl).trans ((zd_iload a_M_comes_154 rfl).trans ((zd_iconst (v := 1) a_M_comes_156 (by decide)).trans ((zd_cal (kd := 1) (tg := 123) (T := m_M_of) a_M_comes_157 (by decide +kernel) hm_M_of rfl rfl rfl rfl).trans (((congrArg (zaft 127 160 [.ref 90, .int x1, .int x2, .int x3, .int x4, .int x5, .int x6, .int x7, .int x8] [.ref 91] (zSH, (zup G 91 (63 + 22 * x7 + 0).toNatClampNeg x1))) (ms_of)).trans zaft_same).trans ((zd_iload_n a_M_comes_160 rfl).trans ((zd_iast (h := (zSH, (zup G 91 (63 + 22 * x7 + 0).toNatClampNeg x1))) a_M_comes_161 sh_91).trans ((if_pos (z161_1 p23)).trans ((zd_aload_n a_M_comes_162 rfl).trans ((zd_getR (h := (zSH, (zup (zup G 91 (63 + 22 * x7 + 0).toNatClampNeg x1) 91 (63 + 22 * x7 + 1).toNatClampNeg x2))) (ci := 8) (fi := 5) (a := 91) a_M_comes_163 (by decide +kernel) sh_90 rfl rfl).trans ((zd_iload a_M_comes_166 rfl).trans ((zd_iconst (v := 2) a_M_comes_168 (by decide)).trans ((zd_cal (kd := 1) (tg := 123) (T := m_M_of) a_M_comes_169 (by decide +kernel) hm_M_of rfl rfl rfl rfl).trans (((congrArg (zaft 127 172 [.ref 90, .int x1, .int x2, .int x3, .int x4, .int x5, .int x6, .int x7, .int x8] [.ref 91] (zSH, (zup (zup G 91 (63 + 22 * x7 + 0).toNatClampNeg x1) 91 (63 + 22 * x7 + 1).toNatClampNeg x2))) (ms_of)).trans zaft_same).trans ((zd_iload_n a_M_comes_172 rfl).trans ((zd_iast (h := (zSH, (zup (zup G 91 (63 + 22 * x7 + 0).toNatClampNeg x1) 91 (63 + 22 * x7 + 1).toNatClampNeg x2))) a_M_comes_173 sh_91).trans ((if_pos (z173_2 p23)).trans ((zd_aload_n a_M_comes_174 rfl).trans ((zd_getR (h := (zSH, (zup (zup (zup G 91 (63 + 22 * x7 + 0).toNatClampNeg x1) 91 (63 + 22 * x7 + 1).toNatClampNeg x2) 91 (63 + 22 * x7 + 2).toNatClampNeg x3))) (ci := 8) (fi := 5) (a := 91) a_M_comes_175 (by decide +kernel) sh_90 rfl rfl).trans ((zd_iload a_M_comes_178 rfl).trans ((zd_iconst (v := 3) a_M_comes_180 (by decide)).trans ((zd_cal (kd := 1) (tg := 123) (T := m_M_of) a_M_comes_181 (by decide +kernel) hm_M_of rfl rfl rfl rfl).trans (((congrArg (zaft 127 184 [.ref 90, .int x1, .int x2, .int x3, .int x4, .int x5, .int x6, .int x7, .int x8] [.ref 91] (zSH, (zup (zup (zup G 91 (63 + 22 * x7 + 0).toNatClampNeg x1) 91 (63 + 22 * x7 + 1).toNatClampNeg x2) 91 (63 + 22 * x7 + 2).toNatClampNeg x3))) (ms_of)).trans zaft_same).trans ((zd_iload a_M_comes_184 rfl).trans ((zd_iast (h := (zSH, (zup (zup (zup G 91 (63 + 22 * x7 + 0).toNatClampNeg x1) 91 (63 + 22 * x7 + 1).toNatClampNeg x2) 91 (63 + 22 * x7 + 2).toNatClampNeg x3))) a_M_comes_186 sh_91).trans ((if_pos (z186_3 p23)).trans ((zd_aload_n a_M_comes_187 rfl).trans ((zd_getR (h := (zSH, (zup (zup (zup (zup G 91 (63 + 22 * x7 + 0).toNatClampNeg x1) 91 (63 + 22 * x7 + 1).toNatClampNeg x2) 91 (63 + 22 * x7 + 2).toNatClampNeg x3) 91 (63 + 22 * x7 + 3).toNatClampNeg x4))) (ci := 8) (fi := 5) (a := 91) a_M_comes_188 (by decide +kernel) sh_90 rfl rfl).trans ((zd_iload a_M_comes_191 rfl).trans ((zd_iconst (v := 4) a_M_comes_193 (by decide)).trans ((zd_cal (kd := 1) (tg := 123) (T := m_M_of) a_M_comes_194 (by decide +kernel) hm_M_of rfl rfl rfl rfl).trans (((congrArg (zaft 127 197 [.ref 90, .int x1, .int x2, .int x3, .int x4, .int x5, .int x6, .int x7, .int x8] [.ref 91] (zSH, (zup (zup (zup (zup G 91 (63 + 22 * x7 + 0).toNatClampNeg x1) 91 (63 + 22 * x7 + 1).toNatClampNeg x2) 91 (63 + 22 * x7 + 2).toNatClampNeg x3) 91 (63 + 22 * x7 + 3).toNatClampNeg x4))) (ms_of)).trans zaft_same).trans ((zd_iload a_M_comes_197 rfl).trans ((zd_iast (h := (zSH, (zup (zup (zup (zup G 91 (63 + 22 * x7 + 0).toNatClampNeg x1) 91 (63 + 22 * x7 + 1).toNatClampNeg x2) 91 (63 + 22 * x7 + 2).toNatClampNeg x3) 91 (63 + 22 * x7 + 3).toNatClampNeg x4))) a_M_comes_199 sh_91).trans ((if_pos (z199_4 p23)).trans ((zd_aload_n a_M_comes_200 rfl).trans ((zd_getR (h := (zSH, (zup (zup (zup (zup (zup G 91 (63 + 22 * x7 + 0).toNatClampNeg x1) 91 (63 + 22 * x7 + 1).toNatClampNeg x2) 91 (63 + 22 * x7 + 2).toNatClampNeg x3) 91 (63 + 22 * x7 + 3).toNatClampNeg x4) 91 (63 + 22 * x7 + 4).toNatClampNeg x5))) (ci := 8) (fi := 5) (a := 91) a_M_comes_201 (by decide +kernel) sh_90 rfl rfl).trans ((zd_iload a_M_comes_204 rfl).trans ((zd_iconst (v := 5) a_M_comes_206 (by decide)).trans ((zd_cal (kd := 1) (tg := 123) (T := m_M_of) a_M_comes_207 (by decide +kernel) hm_M_of rfl rfl rfl rfl).trans (((congrArg (zaft 127 210 [.ref 90, .int x1, .int x2, .int x3, .int x4, .int x5, .int x6, .int x7, .int x8] [.ref 91] (zSH, (zup (zup (zup (zup (zup G 91 (63 + 22 * x7 + 0).toNatClampNeg x1) 91 (63 + 22 * x7 + 1).toNatClampNeg x2) 91 (63 + 22 * x7 + 2).toNatClampNeg x3) 91 (63 + 22 * x7 + 3).toNatClampNeg x4) 91 (63 + 22 * x7 + 4).toNatClampNeg x5))) (ms_of)).trans zaft_same).trans ((zd_iload a_M_comes_210 rfl).trans ((zd_iast (h := (zSH, (zup (zup (zup (zup (zup G 91 (63 + 22 * x7 + 0).toNatClampNeg x1) 91 (63 + 22 * x7 + 1).toNatClampNeg x2) 91 (63 + 22 * x7 + 2).toNatClampNeg x3) 91 (63 + 22 * x7 + 3).toNatClampNeg x4) 91 (63 + 22 * x7 + 4).toNatClampNeg x5))) a_M_comes_212 sh_91).trans ((if_pos (z212_5 p23)).trans ((zd_aload_n a_M_comes_213 rfl).trans ((zd_getR (h := (zSH, (zup (zup (zup (zup (zup (zup G 91 (63 + 22 * x7 + 0).toNatClampNeg x1) 91 (63 + 22 * x7 + 1).toNatClampNeg x2) 91 (63 + 22 * x7 + 2).toNatClampNeg x3) 91 (63 + 22 * x7 + 3).toNatClampNeg x4) 91 (63 + 22 * x7 + 4).toNatClampNeg x5) 91 (63 + 22 * x7 + 5).toNatClampNeg x6))) (ci := 8) (fi := 5) (a := 91) a_M_comes_214 (by decide +kernel) sh_90 rfl rfl).trans ((zd_iload a_M_comes_217 rfl).trans ((zd_bipush (v := 6) a_M_comes_219 (by decide)).trans ((zd_cal (kd := 1) (tg := 123) (T := m_M_of) a_M_comes_221 (by decide +kernel) hm_M_of rfl rfl rfl rfl).trans (((congrArg (zaft 127 224 [.ref 90, .int x1, .int x2, .int x3, .int x4, .int x5, .int x6, .int x7, .int x8] [.ref 91] (zSH, (zup (zup (zup (zup (zup (zup G 91 (63 + 22 * x7 + 0).toNatClampNeg x1) 91 (63 + 22 * x7 + 1).toNatClampNeg x2) 91 (63 + 22 * x7 + 2).toNatClampNeg x3) 91 (63 + 22 * x7 + 3).toNatClampNeg x4) 91 (63 + 22 * x7 + 4).toNatClampNeg x5) 91 (63 + 22 * x7 + 5).toNatClampNeg x6))) (ms_of)).trans zaft_same).trans ((zd_bipush (v := 100) a_M_comes_224 (by decide)).trans ((zd_iload a_M_comes_226 rfl).trans ((zd_num (st2 := [.int (100 - x4), .int (63 + 22 * x7 + 6), .ref 91]) a_M_comes_228 rfl rfl rfl rfl).trans ((zd_iload a_M_comes_229 rfl).trans ((zd_num (st2 := [.int ((100 - x4) - x5), .int (63 + 22 * x7 + 6), .ref 91]) a_M_comes_231 rfl rfl rfl rfl).trans ((zd_iload a_M_comes_232 rfl).trans ((zd_num (st2 := [.int (((100 - x4) - x5) - x6), .int (63 + 22 * x7 + 6), .ref 91]) a_M_comes_234 rfl rfl rfl rfl).trans ((zd_iast (h := (zSH, (zup (zup (zup (zup (zup (zup G 91 (63 + 22 * x7 + 0).toNatClampNeg x1) 91 (63 + 22 * x7 + 1).toNatClampNeg x2) 91 (63 + 22 * x7 + 2).toNatClampNeg x3) 91 (63 + 22 * x7 + 3).toNatClampNeg x4) 91 (63 + 22 * x7 + 4).toNatClampNeg x5) 91 (63 + 22 * x7 + 5).toNatClampNeg x6))) a_M_comes_235 sh_91).trans ((if_pos (z235_6 p23)).trans ((zd_aload_n a_M_comes_236 rfl).trans ((zd_getR (h := (zSH, (zup (zup (zup (zup (zup (zup (zup G 91 (63 + 22 * x7 + 0).toNatClampNeg x1) 91 (63 + 22 * x7 + 1).toNatClampNeg x2) 91 (63 + 22 * x7 + 2).toNatClampNeg x3) 91 (63 + 22 * x7 + 3).toNatClampNeg x4) 91 (63 + 22 * x7 + 4).toNatClampNeg x5) 91 (63 + 22 * x7 + 5).toNatClampNeg x6) 91 (63 + 22 * x7 + 6).toNatClampNeg (((100 - x4) - x5) - x6)))) (ci := 8) (fi := 5) (a := 91) a_M_comes_237 (by decide +kernel) sh_90 rfl rfl).trans ((zd_iload a_M_comes_240 rfl).trans ((zd_bipush (v := 10) a_M_comes_242 (by decide)).trans ((zd_cal (kd := 1) (tg := 123) (T := m_M_of) a_M_comes_244 (by decide +kernel) hm_M_of rfl rfl rfl rfl).trans (((congrArg (zaft 127 247 [.ref 90, .int x1, .int x2, .int x3, .int x4, .int x5, .int x6, .int x7, .int x8] [.ref 91] (zSH, (zup (zup (zup (zup (zup (zup (zup G 91 (63 + 22 * x7 + 0).toNatClampNeg x1) 91 (63 + 22 * x7 + 1).toNatClampNeg x2) 91 (63 + 22 * x7 + 2).toNatClampNeg x3) 91 (63 + 22 * x7 + 3).toNatClampNeg x4) 91 (63 + 22 * x7 + 4).toNatClampNeg x5) 91 (63 + 22 * x7 + 5).toNatClampNeg x6) 91 (63 + 22 * x7 + 6).toNatClampNeg (((100 - x4) - x5) - x6)))) (ms_of)).trans zaft_same).trans ((zd_iconst (v := (-1)) a_M_comes_247 (by decide)).trans ((zd_iast (h := (zSH, (zup (zup (zup (zup (zup (zup (zup G 91 (63 + 22 * x7 + 0).toNatClampNeg x1) 91 (63 + 22 * x7 + 1).toNatClampNeg x2) 91 (63 + 22 * x7 + 2).toNatClampNeg x3) 91 (63 + 22 * x7 + 3).toNatClampNeg x4) 91 (63 + 22 * x7 + 4).toNatClampNeg x5) 91 (63 + 22 * x7 + 5).toNatClampNeg x6) 91 (63 + 22 * x7 + 6).toNatClampNeg (((100 - x4) - x5) - x6)))) a_M_comes_248 sh_91).trans ((if_pos (z248_7 p23)).trans ((zd_aload_n a_M_comes_249 rfl).trans ((zd_getR (h := (zSH, (zup (zup (zup (zup (zup (zup (zup (zup G 91 (63 + 22 * x7 + 0).toNatClampNeg x1) 91 (63 + 22 * x7 + 1).toNatClampNeg x2) 91 (63 + 22 * x7 + 2).toNatClampNeg x3) 91 (63 + 22 * x7 + 3).toNatClampNeg x4) 91 (63 + 22 * x7 + 4).toNatClampNeg x5) 91 (63 + 22 * x7 + 5).toNatClampNeg x6) 91 (63 + 22 * x7 + 6).toNatClampNeg (((100 - x4) - x5) - x6)) 91 (63 + 22 * x7 + 10).toNatClampNeg (-1)))) (ci := 8) (fi := 5) (a := 91) a_M_comes_250 (by decide +kernel) sh_90 rfl rfl).trans ((zd_iconst (v := 2) a_M_comes_253 (by decide)).trans ((zd_num (st2 := [.int 2, .ref 91, .int 2, .ref 91]) a_M_comes_254 rfl rfl rfl rfl).trans ((zd_iald (h := (zSH, (zup (zup (zup (zup (zup (zup (zup (zup G 91 (63 + 22 * x7 + 0).toNatClampNeg x1) 91 (63 + 22 * x7 + 1).toNatClampNeg x2) 91 (63 + 22 * x7 + 2).toNatClampNeg x3) 91 (63 + 22 * x7 + 3).toNatClampNeg x4) 91 (63 + 22 * x7 + 4).toNatClampNeg x5) 91 (63 + 22 * x7 + 5).toNatClampNeg x6) 91 (63 + 22 * x7 + 6).toNatClampNeg (((100 - x4) - x5) - x6)) 91 (63 + 22 * x7 + 10).toNatClampNeg (-1)))) a_M_comes_255 sh_91 rfl).trans ((if_pos (by decide)).trans ((zd_iconst (v := 1) a_M_comes_256 (by decide)).trans ((zd_num (st2 := [.int (((zup (zup (zup (zup (zup (zup (zup (zup G 91 (63 + 22 * x7 + 0).toNatClampNeg x1) 91 (63 + 22 * x7 + 1).toNatClampNeg x2) 91 (63 + 22 * x7 + 2).toNatClampNeg x3) 91 (63 + 22 * x7 + 3).toNatClampNeg x4) 91 (63 + 22 * x7 + 4).toNatClampNeg x5) 91 (63 + 22 * x7 + 5).toNatClampNeg x6) 91 (63 + 22 * x7 + 6).toNatClampNeg (((100 - x4) - x5) - x6)) 91 (63 + 22 * x7 + 10).toNatClampNeg (-1)) 91 2) + 1), .int 2, .ref 91]) a_M_comes_257 rfl rfl rfl rfl).trans ((zd_iast (h := (zSH, (zup (zup (zup (zup (zup (zup (zup (zup G 91 (63 + 22 * x7 + 0).toNatClampNeg x1) 91 (63 + 22 * x7 + 1).toNatClampNeg x2) 91 (63 + 22 * x7 + 2).toNatClampNeg x3) 91 (63 + 22 * x7 + 3).toNatClampNeg x4) 91 (63 + 22 * x7 + 4).toNatClampNeg x5) 91 (63 + 22 * x7 + 5).toNatClampNeg x6) 91 (63 + 22 * x7 + 6).toNatClampNeg (((100 - x4) - x5) - x6)) 91 (63 + 22 * x7 + 10).toNatClampNeg (-1)))) a_M_comes_258 sh_91).trans ((if_pos (by decide)).trans ((zd_iload a_M_comes_259 rfl).trans (zd_iret a_M_comes_261 rfl (znr_int _))))))))))))))))))))))))))))))))))))))))))))))))))))))))))))))))))))))))))))))))))))))))))) (fun p23 => (zd_aload_n a_M_comes_119 rfl).trans ((zd_getR (h := (zSH, G)) (ci := 8) (fi := 5) (a := 91) a_M_comes_120 (by decide +kernel) sh_90 rfl rfl).trans ((zd_iload a_M_comes_123 rfl).trans ((zd_iload a_M_comes_125 rfl).trans ((zd_cal (kd := 1) (tg := 123) (T := m_M_of) a_M_comes_127 (by decide +kernel) hm_M_of rfl rfl rfl rfl).trans (((congrArg (zaft 127 130 [.ref 90, .int x1, .int x2, .int x3, .int x4, .int x5, .int x6, .int x7, .int x8] [.ref 91] (zSH, G)) (ms_of)).trans zaft_same).trans ((zd_iconst (v := 0) a_M_comes_130 (by decide)).trans ((zd_iast (h := (zSH, G)) a_M_comes_131 sh_91).trans ((if_pos (z131_8 p23)).trans ((zd_iinc (v := 1) a_M_comes_132 rfl (by decide) rfl rfl rfl).trans ((zd_goto a_M_comes_135 rfl)))))))))))))))
theorem a_M_worksOn_0 : zAt 129 0 m_M_worksOn (.aload_n 0) 1 := ⟨hm_M_worksOn, by decide +kernel⟩
theorem a_M_worksOn_1 : zAt 129 1 m_M_worksOn (.iload_n 1) 1 := ⟨hm_M_worksOn, by decide +kernel⟩
theorem a_M_worksOn_2 : zAt 129 2 m_M_worksOn (.invokevirtual 114) 3 := ⟨hm_M_worksOn, by decide +kernel⟩
theorem a_M_worksOn_5 : zAt 129 5 m_M_worksOn (.ifCond .eq 10) 3 := ⟨hm_M_worksOn, by decide +kernel⟩
theorem a_M_worksOn_8 : zAt 129 8 m_M_worksOn (.iload_n 2) 1 := ⟨hm_M_worksOn, by decide +kernel⟩
theorem a_M_worksOn_9 : zAt 129 9 m_M_worksOn (.invokestatic 118) 3 := ⟨hm_M_worksOn, by decide +kernel⟩
theorem a_M_worksOn_12 : zAt 129 12 m_M_worksOn (.ifCond .ne 10) 3 := ⟨hm_M_worksOn, by decide +kernel⟩
theorem a_M_worksOn_15 : zAt 129 15 m_M_worksOn (.aload_n 0) 1 := ⟨hm_M_worksOn, by decide +kernel⟩
theorem a_M_worksOn_16 : zAt 129 16 m_M_worksOn (.bipush (-11)) 2 := ⟨hm_M_worksOn, by decide +kernel⟩
theorem a_M_worksOn_18 : zAt 129 18 m_M_worksOn (.invokevirtual 53) 3 := ⟨hm_M_worksOn, by decide +kernel⟩
theorem a_M_worksOn_21 : zAt 129 21 m_M_worksOn (.ireturn) 1 := ⟨hm_M_worksOn, by decide +kernel⟩
theorem a_M_worksOn_22 : zAt 129 22 m_M_worksOn (.iload_n 3) 1 := ⟨hm_M_worksOn, by decide +kernel⟩
theorem a_M_worksOn_23 : zAt 129 23 m_M_worksOn (.iconst 1) 1 := ⟨hm_M_worksOn, by decide +kernel⟩
theorem a_M_worksOn_24 : zAt 129 24 m_M_worksOn (.bipush 99) 2 := ⟨hm_M_worksOn, by decide +kernel⟩
theorem a_M_worksOn_26 : zAt 129 26 m_M_worksOn (.invokestatic 64) 3 := ⟨hm_M_worksOn, by decide +kernel⟩
theorem a_M_worksOn_29 : zAt 129 29 m_M_worksOn (.ifCond .ne 10) 3 := ⟨hm_M_worksOn, by decide +kernel⟩
theorem a_M_worksOn_32 : zAt 129 32 m_M_worksOn (.aload_n 0) 1 := ⟨hm_M_worksOn, by decide +kernel⟩
theorem a_M_worksOn_33 : zAt 129 33 m_M_worksOn (.bipush (-12)) 2 := ⟨hm_M_worksOn, by decide +kernel⟩
theorem a_M_worksOn_35 : zAt 129 35 m_M_worksOn (.invokevirtual 53) 3 := ⟨hm_M_worksOn, by decide +kernel⟩
theorem a_M_worksOn_38 : zAt 129 38 m_M_worksOn (.ireturn) 1 := ⟨hm_M_worksOn, by decide +kernel⟩
theorem a_M_worksOn_39 : zAt 129 39 m_M_worksOn (.aload_n 0) 1 := ⟨hm_M_worksOn, by decide +kernel⟩
theorem a_M_worksOn_40 : zAt 129 40 m_M_worksOn (.getfield 7) 3 := ⟨hm_M_worksOn, by decide +kernel⟩
theorem a_M_worksOn_43 : zAt 129 43 m_M_worksOn (.iload_n 1) 1 := ⟨hm_M_worksOn, by decide +kernel⟩
theorem a_M_worksOn_44 : zAt 129 44 m_M_worksOn (.bipush 7) 2 := ⟨hm_M_worksOn, by decide +kernel⟩
theorem a_M_worksOn_46 : zAt 129 46 m_M_worksOn (.invokestatic 91) 3 := ⟨hm_M_worksOn, by decide +kernel⟩
theorem a_M_worksOn_49 : zAt 129 49 m_M_worksOn (.iaload) 1 := ⟨hm_M_worksOn, by decide +kernel⟩
theorem a_M_worksOn_50 : zAt 129 50 m_M_worksOn (.ifCond .eq 20) 3 := ⟨hm_M_worksOn, by decide +kernel⟩
theorem a_M_worksOn_53 : zAt 129 53 m_M_worksOn (.aload_n 0) 1 := ⟨hm_M_worksOn, by decide +kernel⟩
theorem a_M_worksOn_54 : zAt 129 54 m_M_worksOn (.iconst 3) 1 := ⟨hm_M_worksOn, by decide +kernel⟩
theorem a_M_worksOn_55 : zAt 129 55 m_M_worksOn (.aload_n 0) 1 := ⟨hm_M_worksOn, by decide +kernel⟩
theorem a_M_worksOn_56 : zAt 129 56 m_M_worksOn (.getfield 7) 3 := ⟨hm_M_worksOn, by decide +kernel⟩
theorem a_M_worksOn_59 : zAt 129 59 m_M_worksOn (.iload_n 1) 1 := ⟨hm_M_worksOn, by decide +kernel⟩
theorem a_M_worksOn_60 : zAt 129 60 m_M_worksOn (.bipush 7) 2 := ⟨hm_M_worksOn, by decide +kernel⟩
theorem a_M_worksOn_62 : zAt 129 62 m_M_worksOn (.invokestatic 91) 3 := ⟨hm_M_worksOn, by decide +kernel⟩
theorem a_M_worksOn_65 : zAt 129 65 m_M_worksOn (.iaload) 1 := ⟨hm_M_worksOn, by decide +kernel⟩
theorem a_M_worksOn_66 : zAt 129 66 m_M_worksOn (.invokevirtual 75) 3 := ⟨hm_M_worksOn, by decide +kernel⟩
theorem a_M_worksOn_69 : zAt 129 69 m_M_worksOn (.ireturn) 1 := ⟨hm_M_worksOn, by decide +kernel⟩
theorem a_M_worksOn_70 : zAt 129 70 m_M_worksOn (.aload_n 0) 1 := ⟨hm_M_worksOn, by decide +kernel⟩
theorem a_M_worksOn_71 : zAt 129 71 m_M_worksOn (.getfield 7) 3 := ⟨hm_M_worksOn, by decide +kernel⟩
theorem a_M_worksOn_74 : zAt 129 74 m_M_worksOn (.iload_n 1) 1 := ⟨hm_M_worksOn, by decide +kernel⟩
theorem a_M_worksOn_75 : zAt 129 75 m_M_worksOn (.bipush 11) 2 := ⟨hm_M_worksOn, by decide +kernel⟩
theorem a_M_worksOn_77 : zAt 129 77 m_M_worksOn (.invokestatic 91) 3 := ⟨hm_M_worksOn, by decide +kernel⟩
theorem a_M_worksOn_80 : zAt 129 80 m_M_worksOn (.iaload) 1 := ⟨hm_M_worksOn, by decide +kernel⟩
theorem a_M_worksOn_81 : zAt 129 81 m_M_worksOn (.bipush 6) 2 := ⟨hm_M_worksOn, by decide +kernel⟩
theorem a_M_worksOn_83 : zAt 129 83 m_M_worksOn (.if_icmp .ne 11) 3 := ⟨hm_M_worksOn, by decide +kernel⟩
theorem a_M_worksOn_86 : zAt 129 86 m_M_worksOn (.aload_n 0) 1 := ⟨hm_M_worksOn, by decide +kernel⟩
theorem a_M_worksOn_87 : zAt 129 87 m_M_worksOn (.iconst 1) 1 := ⟨hm_M_worksOn, by decide +kernel⟩
theorem a_M_worksOn_88 : zAt 129 88 m_M_worksOn (.bipush 6) 2 := ⟨hm_M_worksOn, by decide +kernel⟩
theorem a_M_worksOn_90 : zAt 129 90 m_M_worksOn (.invokevirtual 75) 3 := ⟨hm_M_worksOn, by decide +kernel⟩
theorem a_M_worksOn_93 : zAt 129 93 m_M_worksOn (.ireturn) 1 := ⟨hm_M_worksOn, by decide +kernel⟩
theorem a_M_worksOn_94 : zAt 129 94 m_M_worksOn (.aload_n 0) 1 := ⟨hm_M_worksOn, by decide +kernel⟩
theorem a_M_worksOn_95 : zAt 129 95 m_M_worksOn (.getfield 7) 3 := ⟨hm_M_worksOn, by decide +kernel⟩
theorem a_M_worksOn_98 : zAt 129 98 m_M_worksOn (.iload_n 1) 1 := ⟨hm_M_worksOn, by decide +kernel⟩
theorem a_M_worksOn_99 : zAt 129 99 m_M_worksOn (.bipush 11) 2 := ⟨hm_M_worksOn, by decide +kernel⟩
theorem a_M_worksOn_101 : zAt 129 101 m_M_worksOn (.invokestatic 91) 3 := ⟨hm_M_worksOn, by decide +kernel⟩
theorem a_M_worksOn_104 : zAt 129 104 m_M_worksOn (.dup2) 1 := ⟨hm_M_worksOn, by decide +kernel⟩
theorem a_M_worksOn_105 : zAt 129 105 m_M_worksOn (.iaload) 1 := ⟨hm_M_worksOn, by decide +kernel⟩
theorem a_M_worksOn_106 : zAt 129 106 m_M_worksOn (.iconst 1) 1 := ⟨hm_M_worksOn, by decide +kernel⟩
theorem a_M_worksOn_107 : zAt 129 107 m_M_worksOn (.iadd) 1 := ⟨hm_M_worksOn, by decide +kernel⟩
theorem a_M_worksOn_108 : zAt 129 108 m_M_worksOn (.iastore) 1 := ⟨hm_M_worksOn, by decide +kernel⟩
theorem a_M_worksOn_109 : zAt 129 109 m_M_worksOn (.aload_n 0) 1 := ⟨hm_M_worksOn, by decide +kernel⟩
theorem a_M_worksOn_110 : zAt 129 110 m_M_worksOn (.getfield 7) 3 := ⟨hm_M_worksOn, by decide +kernel⟩
theorem a_M_worksOn_113 : zAt 129 113 m_M_worksOn (.iload_n 1) 1 := ⟨hm_M_worksOn, by decide +kernel⟩
theorem a_M_worksOn_114 : zAt 129 114 m_M_worksOn (.bipush 12) 2 := ⟨hm_M_worksOn, by decide +kernel⟩
theorem a_M_worksOn_116 : zAt 129 116 m_M_worksOn (.iload_n 2) 1 := ⟨hm_M_worksOn, by decide +kernel⟩
theorem a_M_worksOn_117 : zAt 129 117 m_M_worksOn (.iadd) 1 := ⟨hm_M_worksOn, by decide +kernel⟩
theorem a_M_worksOn_118 : zAt 129 118 m_M_worksOn (.invokestatic 91) 3 := ⟨hm_M_worksOn, by decide +kernel⟩
theorem a_M_worksOn_121 : zAt 129 121 m_M_worksOn (.dup2) 1 := ⟨hm_M_worksOn, by decide +kernel⟩
theorem a_M_worksOn_122 : zAt 129 122 m_M_worksOn (.iaload) 1 := ⟨hm_M_worksOn, by decide +kernel⟩
theorem a_M_worksOn_123 : zAt 129 123 m_M_worksOn (.iload_n 3) 1 := ⟨hm_M_worksOn, by decide +kernel⟩
theorem a_M_worksOn_124 : zAt 129 124 m_M_worksOn (.iadd) 1 := ⟨hm_M_worksOn, by decide +kernel⟩
theorem a_M_worksOn_125 : zAt 129 125 m_M_worksOn (.iastore) 1 := ⟨hm_M_worksOn, by decide +kernel⟩
theorem a_M_worksOn_126 : zAt 129 126 m_M_worksOn (.aload_n 0) 1 := ⟨hm_M_worksOn, by decide +kernel⟩
theorem a_M_worksOn_127 : zAt 129 127 m_M_worksOn (.getfield 7) 3 := ⟨hm_M_worksOn, by decide +kernel⟩
theorem a_M_worksOn_130 : zAt 129 130 m_M_worksOn (.iload_n 1) 1 := ⟨hm_M_worksOn, by decide +kernel⟩
theorem a_M_worksOn_131 : zAt 129 131 m_M_worksOn (.bipush 17) 2 := ⟨hm_M_worksOn, by decide +kernel⟩
theorem a_M_worksOn_133 : zAt 129 133 m_M_worksOn (.iload_n 2) 1 := ⟨hm_M_worksOn, by decide +kernel⟩
theorem a_M_worksOn_134 : zAt 129 134 m_M_worksOn (.iadd) 1 := ⟨hm_M_worksOn, by decide +kernel⟩
theorem a_M_worksOn_135 : zAt 129 135 m_M_worksOn (.invokestatic 91) 3 := ⟨hm_M_worksOn, by decide +kernel⟩
theorem a_M_worksOn_138 : zAt 129 138 m_M_worksOn (.aload_n 0) 1 := ⟨hm_M_worksOn, by decide +kernel⟩
theorem a_M_worksOn_139 : zAt 129 139 m_M_worksOn (.getfield 7) 3 := ⟨hm_M_worksOn, by decide +kernel⟩
theorem a_M_worksOn_142 : zAt 129 142 m_M_worksOn (.iload_n 1) 1 := ⟨hm_M_worksOn, by decide +kernel⟩
theorem a_M_worksOn_143 : zAt 129 143 m_M_worksOn (.bipush 11) 2 := ⟨hm_M_worksOn, by decide +kernel⟩
theorem a_M_worksOn_145 : zAt 129 145 m_M_worksOn (.invokestatic 91) 3 := ⟨hm_M_worksOn, by decide +kernel⟩
theorem a_M_worksOn_148 : zAt 129 148 m_M_worksOn (.iaload) 1 := ⟨hm_M_worksOn, by decide +kernel⟩
theorem a_M_worksOn_149 : zAt 129 149 m_M_worksOn (.iastore) 1 := ⟨hm_M_worksOn, by decide +kernel⟩
theorem a_M_worksOn_150 : zAt 129 150 m_M_worksOn (.aload_n 0) 1 := ⟨hm_M_worksOn, by decide +kernel⟩
theorem a_M_worksOn_151 : zAt 129 151 m_M_worksOn (.getfield 7) 3 := ⟨hm_M_worksOn, by decide +kernel⟩
theorem a_M_worksOn_154 : zAt 129 154 m_M_worksOn (.bipush 7) 2 := ⟨hm_M_worksOn, by decide +kernel⟩
theorem a_M_worksOn_156 : zAt 129 156 m_M_worksOn (.dup2) 1 := ⟨hm_M_worksOn, by decide +kernel⟩
theorem a_M_worksOn_157 : zAt 129 157 m_M_worksOn (.iaload) 1 := ⟨hm_M_worksOn, by decide +kernel⟩
theorem a_M_worksOn_158 : zAt 129 158 m_M_worksOn (.iconst 1) 1 := ⟨hm_M_worksOn, by decide +kernel⟩
theorem a_M_worksOn_159 : zAt 129 159 m_M_worksOn (.iadd) 1 := ⟨hm_M_worksOn, by decide +kernel⟩
theorem a_M_worksOn_160 : zAt 129 160 m_M_worksOn (.iastore) 1 := ⟨hm_M_worksOn, by decide +kernel⟩
theorem a_M_worksOn_161 : zAt 129 161 m_M_worksOn (.aload_n 0) 1 := ⟨hm_M_worksOn, by decide +kernel⟩
theorem a_M_worksOn_162 : zAt 129 162 m_M_worksOn (.getfield 7) 3 := ⟨hm_M_worksOn, by decide +kernel⟩
theorem a_M_worksOn_165 : zAt 129 165 m_M_worksOn (.iload_n 1) 1 := ⟨hm_M_worksOn, by decide +kernel⟩
theorem a_M_worksOn_166 : zAt 129 166 m_M_worksOn (.bipush 12) 2 := ⟨hm_M_worksOn, by decide +kernel⟩
theorem a_M_worksOn_168 : zAt 129 168 m_M_worksOn (.iload_n 2) 1 := ⟨hm_M_worksOn, by decide +kernel⟩
theorem a_M_worksOn_169 : zAt 129 169 m_M_worksOn (.iadd) 1 := ⟨hm_M_worksOn, by decide +kernel⟩
theorem a_M_worksOn_170 : zAt 129 170 m_M_worksOn (.invokestatic 91) 3 := ⟨hm_M_worksOn, by decide +kernel⟩
theorem a_M_worksOn_173 : zAt 129 173 m_M_worksOn (.iaload) 1 := ⟨hm_M_worksOn, by decide +kernel⟩
theorem a_M_worksOn_174 : zAt 129 174 m_M_worksOn (.ireturn) 1 := ⟨hm_M_worksOn, by decide +kernel⟩
theorem B_M_worksOn_0 {G : Nat → Nat → Int32} {x1 x2 x3 : Int32} (z49_0 : (¬ ((bI (0 ≤ x1 ∧ x1 ≤ G 91 2 - 1)) = 0)) → (¬ (bI (0 ≤ x2 ∧ x2 ≤ 4)) = 0) → (¬ (bI (1 ≤ x3 ∧ x3 ≤ 99)) = 0) → zin (63 + 22 * x1 + 7) 327 = true) (z80_1 : (¬ ((bI (0 ≤ x1 ∧ x1 ≤ G 91 2 - 1)) = 0)) → (¬ (bI (0 ≤ x2 ∧ x2 ≤ 4)) = 0) → (¬ (bI (1 ≤ x3 ∧ x3 ≤ 99)) = 0) → ((G 91 (63 + 22 * x1 + 7).toNatClampNeg) = 0) → zin (63 + 22 * x1 + 11) 327 = true) (z105_2 : (¬ ((bI (0 ≤ x1 ∧ x1 ≤ G 91 2 - 1)) = 0)) → (¬ (bI (0 ≤ x2 ∧ x2 ≤ 4)) = 0) → (¬ (bI (1 ≤ x3 ∧ x3 ≤ 99)) = 0) → ((G 91 (63 + 22 * x1 + 7).toNatClampNeg) = 0) → (¬ (G 91 (63 + 22 * x1 + 11).toNatClampNeg) = 6) → zin (63 + 22 * x1 + 11) 327 = true) (z122_3 : (¬ ((bI (0 ≤ x1 ∧ x1 ≤ G 91 2 - 1)) = 0)) → (¬ (bI (0 ≤ x2 ∧ x2 ≤ 4)) = 0) → (¬ (bI (1 ≤ x3 ∧ x3 ≤ 99)) = 0) → ((G 91 (63 + 22 * x1 + 7).toNatClampNeg) = 0) → (¬ (G 91 (63 + 22 * x1 + 11).toNatClampNeg) = 6) → zin (63 + 22 * x1 + (12 + x2)) 327 = true) (z149_4 : (¬ ((bI (0 ≤ x1 ∧ x1 ≤ G 91 2 - 1)) = 0)) → (¬ (bI (0 ≤ x2 ∧ x2 ≤ 4)) = 0) → (¬ (bI (1 ≤ x3 ∧ x3 ≤ 99)) = 0) → ((G 91 (63 + 22 * x1 + 7).toNatClampNeg) = 0) → (¬ (G 91 (63 + 22 * x1 + 11).toNatClampNeg) = 6) → zin (63 + 22 * x1 + (17 + x2)) 327 = true) (z65_5 : (¬ ((bI (0 ≤ x1 ∧ x1 ≤ G 91 2 - 1)) = 0)) → (¬ (bI (0 ≤ x2 ∧ x2 ≤ 4)) = 0) → (¬ (bI (1 ≤ x3 ∧ x3 ≤ 99)) = 0) → (¬ ((G 91 (63 + 22 * x1 + 7).toNatClampNeg) = 0)) → zin (63 + 22 * x1 + 7) 327 = true) : zden 129 0 [.ref 90, .int x1, .int x2, .int x3] [] (zSH, G) = if (bI (0 ≤ x1 ∧ x1 ≤ G 91 2 - 1)) = 0 then zden 129 15 [.ref 90, .int x1, .int x2, .int x3] [] (zSH, G) else if ¬ (bI (0 ≤ x2 ∧ x2 ≤ 4)) = 0 then if ¬ (bI (1 ≤ x3 ∧ x3 ≤ 99)) = 0 then if (G 91 (63 + 22 * x1 + 7).toNatClampNeg) = 0 then if ¬ (G 91 (63 + 22 * x1 + 11).toNatClampNeg) = 6 then some (some (.int ((zup (zup (zup (zup G 91 (63 + 22 * x1 + 11).toNatClampNeg ((G 91 (63 + 22 * x1 + 11).toNatClampNeg) + 1)) 91 (63 + 22 * x1 + (12 + x2)).toNatClampNeg (((zup G 91 (63 + 22 * x1 + 11).toNatClampNeg ((G 91 (63 + 22 * x1 + 11).toNatClampNeg) + 1)) 91 (63 + 22 * x1 + (12 + x2)).toNatClampNeg) + x3)) 91 (63 + 22 * x1 + (17 + x2)).toNatClampNeg ((zup (zup G 91 (63 + 22 * x1 + 11).toNatClampNeg ((G 91 (63 + 22 * x1 + 11).toNatClampNeg) + 1)) 91 (63 + 22 * x1 + (12 + x2)).toNatClampNeg (((zup G 91 (63 + 22 * x1 + 11).toNatClampNeg ((G 91 (63 + 22 * x1 + 11).toNatClampNeg) + 1)) 91 (63 + 22 * x1 + (12 + x2)).toNatClampNeg) + x3)) 91 (63 + 22 * x1 + 11).toNatClampNeg)) 91 7 (((zup (zup (zup G 91 (63 + 22 * x1 + 11).toNatClampNeg ((G 91 (63 + 22 * x1 + 11).toNatClampNeg) + 1)) 91 (63 + 22 * x1 + (12 + x2)).toNatClampNeg (((zup G 91 (63 + 22 * x1 + 11).toNatClampNeg ((G 91 (63 + 22 * x1 + 11).toNatClampNeg) + 1)) 91 (63 + 22 * x1 + (12 + x2)).toNatClampNeg) + x3)) 91 (63 + 22 * x1 + (17 + x2)).toNatClampNeg ((zup (zup G 91 (63 + 22 * x1 + 11).toNatClampNeg ((G 91 (63 + 22 * x1 + 11).toNatClampNeg) + 1)) 91 (63 + 22 * x1 + (12 + x2)).toNatClampNeg (((zup G 91 (63 + 22 * x1 + 11).toNatClampNeg ((G 91 (63 + 22 * x1 + 11).toNatClampNeg) + 1)) 91 (63 + 22 * x1 + (12 + x2)).toNatClampNeg) + x3)) 91 (63 + 22 * x1 + 11).toNatClampNeg)) 91 7) + 1)) 91 (63 + 22 * x1 + (12 + x2)).toNatClampNeg)), (zSH, (zup (zup (zup (zup G 91 (63 + 22 * x1 + 11).toNatClampNeg ((G 91 (63 + 22 * x1 + 11).toNatClampNeg) + 1)) 91 (63 + 22 * x1 + (12 + x2)).toNatClampNeg (((zup G 91 (63 + 22 * x1 + 11).toNatClampNeg ((G 91 (63 + 22 * x1 + 11).toNatClampNeg) + 1)) 91 (63 + 22 * x1 + (12 + x2)).toNatClampNeg) + x3)) 91 (63 + 22 * x1 + (17 + x2)).toNatClampNeg ((zup (zup G 91 (63 + 22 * x1 + 11).toNatClampNeg ((G 91 (63 + 22 * x1 + 11).toNatClampNeg) + 1)) 91 (63 + 22 * x1 + (12 + x2)).toNatClampNeg (((zup G 91 (63 + 22 * x1 + 11).toNatClampNeg ((G 91 (63 + 22 * x1 + 11).toNatClampNeg) + 1)) 91 (63 + 22 * x1 + (12 + x2)).toNatClampNeg) + x3)) 91 (63 + 22 * x1 + 11).toNatClampNeg)) 91 7 (((zup (zup (zup G 91 (63 + 22 * x1 + 11).toNatClampNeg ((G 91 (63 + 22 * x1 + 11).toNatClampNeg) + 1)) 91 (63 + 22 * x1 + (12 + x2)).toNatClampNeg (((zup G 91 (63 + 22 * x1 + 11).toNatClampNeg ((G 91 (63 + 22 * x1 + 11).toNatClampNeg) + 1)) 91 (63 + 22 * x1 + (12 + x2)).toNatClampNeg) + x3)) 91 (63 + 22 * x1 + (17 + x2)).toNatClampNeg ((zup (zup G 91 (63 + 22 * x1 + 11).toNatClampNeg ((G 91 (63 + 22 * x1 + 11).toNatClampNeg) + 1)) 91 (63 + 22 * x1 + (12 + x2)).toNatClampNeg (((zup G 91 (63 + 22 * x1 + 11).toNatClampNeg ((G 91 (63 + 22 * x1 + 11).toNatClampNeg) + 1)) 91 (63 + 22 * x1 + (12 + x2)).toNatClampNeg) + x3)) 91 (63 + 22 * x1 + 11).toNatClampNeg)) 91 7) + 1)))) else some (some (.int (-14)), (zSH, (zup (zup (zup G 90 2 1) 90 3 6) 90 0 (-14)))) else some (some (.int (-14)), (zSH, (zup (zup (zup G 90 2 3) 90 3 (G 91 (63 + 22 * x1 + 7).toNatClampNeg)) 90 0 (-14)))) else some (some (.int (-12)), (zSH, (zup G 90 0 (-12)))) else zden 129 15 [.ref 90, .int x1, .int x2, .int x3] [] (zSH, G) :=
  (zd_aload_n a_M_worksOn_0 rfl).trans ((zd_iload_n a_M_worksOn_1 rfl).trans ((zd_cal (kd := 0) (tg := 130) (T := m_M_isGood) a_M_worksOn_2 (by decide +kernel) hm_M_isGood rfl rfl rfl rfl).trans (((congrArg (zaft 129 5 [.ref 90, .int x1, .int x2, .int x3] [] (zSH, G)) (ms_isGood)).trans zaft_same).trans ((zd_if_eq a_M_worksOn_5 rfl).trans (zitc (fun p11 => rfl) (fun p11 => (zd_iload_n a_M_worksOn_8 rfl).trans ((zd_cal (kd := 1) (tg := 131) (T := m_M_isCountry) a_M_worksOn_9 (by decide +kernel) hm_M_isCountry rfl rfl rfl rfl).trans (((congrArg (zaft 129 12 [.ref 90, .int x1, .int x2, .int x3] [] (zSH, G)) (ms_isCountry)).trans zaft_same).trans ((zd_if_ne a_M_worksOn_12 rfl).trans (zitc (fun p12 => (zd_iload_n a_M_worksOn_22 rfl).trans ((zd_iconst (v := 1) a_M_worksOn_23 (by decide)).trans ((zd_bipush (v := 99) a_M_worksOn_24 (by decide)).trans ((zd_cal (kd := 1) (tg := 110) (T := m_M_isIn) a_M_worksOn_26 (by decide +kernel) hm_M_isIn rfl rfl rfl rfl).trans (((congrArg (zaft 129 29 [.ref 90, .int x1, .int x2, .int x3] [] (zSH, G)) (ms_isIn)).trans zaft_same).trans ((zd_if_ne a_M_worksOn_29 rfl).trans (zitc (fun p13 => (zd_aload_n a_M_worksOn_39 rfl).trans ((zd_getR (h := (zSH, G)) (ci := 8) (fi := 5) (a := 91) a_M_worksOn_40 (by decide +kernel) sh_90 rfl rfl).trans ((zd_iload_n a_M_worksOn_43 rfl).trans ((zd_bipush (v := 7) a_M_worksOn_44 (by decide)).trans ((zd_cal (kd := 1) (tg := 123) (T := m_M_of) a_M_worksOn_46 (by decide +kernel) hm_M_of rfl rfl rfl rfl).trans (((congrArg (zaft 129 49 [.ref 90, .int x1, .int x2, .int x3] [.ref 91] (zSH, G)) (ms_of)).trans zaft_same).trans ((zd_iald (h := (zSH, G)) a_M_worksOn_49 sh_91 rfl).trans ((if_pos (z49_0 p11 p12 p13)).trans ((zd_if_eq a_M_worksOn_50 rfl).trans (zitc (fun p14 => (zd_aload_n a_M_worksOn_70 rfl).trans ((zd_getR (h := (zSH, G)) (ci := 8) (fi := 5) (a := 91) a_M_worksOn_71 (by decide +kernel) sh_90 rfl rfl).trans ((zd_iload_n a_M_worksOn_74 rfl).trans ((zd_bipush (v := 11) a_M_worksOn_75 (by decide)).trans ((zd_cal (kd := 1) (tg := 123) (T := m_M_of) a_M_worksOn_77 (by decide +kernel) hm_M_of rfl rfl rfl rfl).trans (((congrArg (zaft 129 80 [.ref 90, .int x1, .int x2, .int x3] [.ref 91] (zSH, G)) (ms_of)).trans zaft_same).trans ((zd_iald (h := (zSH, G)) a_M_worksOn_80 sh_91 rfl).trans ((if_pos (z80_1 p11 p12 p13 p14)).trans ((zd_bipush (v := 6) a_M_worksOn_81 (by decide)).trans ((zd_icmp_ne a_M_worksOn_83 rfl).trans (zitc (fun p15 => (zd_aload_n a_M_worksOn_94 rfl).trans ((zd_getR (h := (zSH, G)) (ci := 8) (fi := 5) (a := 91) a_M_worksOn_95 (by decide +kernel) sh_90 rfl rfl).trans ((zd_iload_n a_M_worksOn_98 rfl).trans ((zd_bipush (v := 11) a_M_worksOn_99 (by decide)).trans ((zd_cal (kd := 1) (tg := 123) (T := m_M_of) a_M_worksOn_101 (by decide +kernel) hm_M_of rfl rfl rfl rfl).trans (((congrArg (zaft 129 104 [.ref 90, .int x1, .int x2, .int x3] [.ref 91] (zSH, G)) (ms_of)).trans zaft_same).trans ((zd_num (st2 := [.int (63 + 22 * x1 + 11), .ref 91, .int (63 + 22 * x1 + 11), .ref 91]) a_M_worksOn_104 rfl rfl rfl rfl).trans ((zd_iald (h := (zSH, G)) a_M_worksOn_105 sh_91 rfl).trans ((if_pos (z105_2 p11 p12 p13 p14 p15)).trans ((zd_iconst (v := 1) a_M_worksOn_106 (by decide)).trans ((zd_num (st2 := [.int ((G 91 (63 + 22 * x1 + 11).toNatClampNeg) + 1), .int (63 + 22 * x1 + 11), .ref 91]) a_M_worksOn_107 rfl rfl rfl rfl).trans ((zd_iast (h := (zSH, G)) a_M_worksOn_108 sh_91).trans ((if_pos (z105_2 p11 p12 p13 p14 p15)).trans ((zd_aload_n a_M_worksOn_109 rfl).trans ((zd_getR (h := (zSH, (zup G 91 (63 + 22 * x1 + 11).toNatClampNeg ((G 91 (63 + 22 * x1 + 11).toNatClampNeg) + 1)))) (ci := 8) (fi := 5) (a := 91) a_M_worksOn_110 (by decide +kernel) sh_90 rfl rfl).trans ((zd_iload_n a_M_worksOn_113 rfl).trans ((zd_bipush (v := 12) a_M_worksOn_114 (by decide)).trans ((zd_iload_n a_M_worksOn_116 rfl).trans ((zd_num (st2 := [.int (12 + x2), .int x1, .ref 91]) a_M_worksOn_117 rfl rfl rfl rfl).trans ((zd_cal (kd := 1) (tg := 123) (T := m_M_of) a_M_worksOn_118 (by decide +kernel) hm_M_of rfl rfl rfl rfl).trans (((congrArg (zaft 129 121 [.ref 90, .int x1, .int x2, .int x3] [.ref 91] (zSH, (zup G 91 (63 + 22 * x1 + 11).toNatClampNeg ((G 91 (63 + 22 * x1 + 11).toNatClampNeg) + 1)))) (ms_of)).trans zaft_same).trans ((zd_num (st2 := [.int (63 + 22 * x1 + (12 + x2)), .ref 91, .int (63 + 22 * x1 + (12 + x2)), .ref 91]) a_M_worksOn_121 rfl rfl rfl rfl).trans ((zd_iald (h := (zSH, (zup G 91 (63 + 22 * x1 + 11).toNatClampNeg ((G 91 (63 + 22 * x1 + 11).toNatClampNeg) + 1)))) a_M_worksOn_122 sh_91 rfl).trans ((if_pos (z122_3 p11 p12 p13 p14 p15)).trans ((zd_iload_n a_M_worksOn_123 rfl).trans ((zd_num (st2 := [.int (((zup G 91 (63 + 22 * x1 + 11).toNatClampNeg ((G 91 (63 + 22 * x1 + 11).toNatClampNeg) + 1)) 91 (63 + 22 * x1 + (12 + x2)).toNatClampNeg) + x3), .int (63 + 22 * x1 + (12 + x2)), .ref 91]) a_M_worksOn_124 rfl rfl rfl rfl).trans ((zd_iast (h := (zSH, (zup G 91 (63 + 22 * x1 + 11).toNatClampNeg ((G 91 (63 + 22 * x1 + 11).toNatClampNeg) + 1)))) a_M_worksOn_125 sh_91).trans ((if_pos (z122_3 p11 p12 p13 p14 p15)).trans ((zd_aload_n a_M_worksOn_126 rfl).trans ((zd_getR (h := (zSH, (zup (zup G 91 (63 + 22 * x1 + 11).toNatClampNeg ((G 91 (63 + 22 * x1 + 11).toNatClampNeg) + 1)) 91 (63 + 22 * x1 + (12 + x2)).toNatClampNeg (((zup G 91 (63 + 22 * x1 + 11).toNatClampNeg ((G 91 (63 + 22 * x1 + 11).toNatClampNeg) + 1)) 91 (63 + 22 * x1 + (12 + x2)).toNatClampNeg) + x3)))) (ci := 8) (fi := 5) (a := 91) a_M_worksOn_127 (by decide +kernel) sh_90 rfl rfl).trans ((zd_iload_n a_M_worksOn_130 rfl).trans ((zd_bipush (v := 17) a_M_worksOn_131 (by decide)).trans ((zd_iload_n a_M_worksOn_133 rfl).trans ((zd_num (st2 := [.int (17 + x2), .int x1, .ref 91]) a_M_worksOn_134 rfl rfl rfl rfl).trans ((zd_cal (kd := 1) (tg := 123) (T := m_M_of) a_M_worksOn_135 (by decide +kernel) hm_M_of rfl rfl rfl rfl).trans (((congrArg (zaft 129 138 [.ref 90, .int x1, .int x2, .int x3] [.ref 91] (zSH, (zup (zup G 91 (63 + 22 * x1 + 11).toNatClampNeg ((G 91 (63 + 22 * x1 + 11).toNatClampNeg) + 1)) 91 (63 + 22 * x1 + (12 + x2)).toNatClampNeg (((zup G 91 (63 + 22 * x1 + 11).toNatClampNeg ((G 91 (63 + 22 * x1 + 11).toNatClampNeg) + 1)) 91 (63 + 22 * x1 + (12 + x2)).toNatClampNeg) + x3)))) (ms_of)).trans zaft_same).trans ((zd_aload_n a_M_worksOn_138 rfl).trans ((zd_getR (h := (zSH, (zup (zup G 91 (63 + 22 * x1 + 11).toNatClampNeg ((G 91 (63 + 22 * x1 + 11).toNatClampNeg) + 1)) 91 (63 + 22 * x1 + (12 + x2)).toNatClampNeg (((zup G 91 (63 + 22 * x1 + 11).toNatClampNeg ((G 91 (63 + 22 * x1 + 11).toNatClampNeg) + 1)) 91 (63 + 22 * x1 + (12 + x2)).toNatClampNeg) + x3)))) (ci := 8) (fi := 5) (a := 91) a_M_worksOn_139 (by decide +kernel) sh_90 rfl rfl).trans ((zd_iload_n a_M_worksOn_142 rfl).trans ((zd_bipush (v := 11) a_M_worksOn_143 (by decide)).trans ((zd_cal (kd := 1) (tg := 123) (T := m_M_of) a_M_worksOn_145 (by decide +kernel) hm_M_of rfl rfl rfl rfl).trans (((congrArg (zaft 129 148 [.ref 90, .int x1, .int x2, .int x3] [.ref 91, .int (63 + 22 * x1 + (17 + x2)), .ref 91] (zSH, (zup (zup G 91 (63 + 22 * x1 + 11).toNatClampNeg ((G 91 (63 + 22 * x1 + 11).toNatClampNeg) + 1)) 91 (63 + 22 * x1 + (12 + x2)).toNatClampNeg (((zup G 91 (63 + 22 * x1 + 11).toNatClampNeg ((G 91 (63 + 22 * x1 + 11).toNatClampNeg) + 1)) 91 (63 + 22 * x1 + (12 + x2)).toNatClampNeg) + x3)))) (ms_of)).trans zaft_same).trans ((zd_iald (h := (zSH, (zup (zup G 91 (63 + 22 * x1 + 11).toNatClampNeg ((G 91 (63 + 22 * x1 + 11).toNatClampNeg) + 1)) 91 (63 + 22 * x1 + (12 + x2)).toNatClampNeg (((zup G 91 (63 + 22 * x1 + 11).toNatClampNeg ((G 91 (63 + 22 * x1 + 11).toNatClampNeg) + 1)) 91 (63 + 22 * x1 + (12 + x2)).toNatClampNeg) + x3)))) a_M_worksOn_148 sh_91 rfl).trans ((if_pos (z105_2 p11 p12 p13 p14 p15)).trans ((zd_iast (h := (zSH, (zup (zup G 91 (63 + 22 * x1 + 11).toNatClampNeg ((G 91 (63 + 22 * x1 + 11).toNatClampNeg) + 1)) 91 (63 + 22 * x1 + (12 + x2)).toNatClampNeg (((zup G 91 (63 + 22 * x1 + 11).toNatClampNeg ((G 91 (63 + 22 * x1 + 11).toNatClampNeg) + 1)) 91 (63 + 22 * x1 + (12 + x2)).toNatClampNeg) + x3)))) a_M_worksOn_149 sh_91).trans ((if_pos (z149_4 p11 p12 p13 p14 p15)).trans ((zd_aload_n a_M_worksOn_150 rfl).trans ((zd_getR (h := (zSH, (zup (zup (zup G 91 (63 + 22 * x1 + 11).toNatClampNeg ((G 91 (63 + 22 * x1 + 11).toNatClampNeg) + 1)) 91 (63 + 22 * x1 + (12 + x2)).toNatClampNeg (((zup G 91 (63 + 22 * x1 + 11).toNatClampNeg ((G 91 (63 + 22 * x1 + 11).toNatClampNeg) + 1)) 91 (63 + 22 * x1 + (12 + x2)).toNatClampNeg) + x3)) 91 (63 + 22 * x1 + (17 + x2)).toNatClampNeg ((zup (zup G 91 (63 + 22 * x1 + 11).toNatClampNeg ((G 91 (63 + 22 * x1 + 11).toNatClampNeg) + 1)) 91 (63 + 22 * x1 + (12 + x2)).toNatClampNeg (((zup G 91 (63 + 22 * x1 + 11).toNatClampNeg ((G 91 (63 + 22 * x1 + 11).toNatClampNeg) + 1)) 91 (63 + 22 * x1 + (12 + x2)).toNatClampNeg) + x3)) 91 (63 + 22 * x1 + 11).toNatClampNeg)))) (ci := 8) (fi := 5) (a := 91) a_M_worksOn_151 (by decide +kernel) sh_90 rfl rfl).trans ((zd_bipush (v := 7) a_M_worksOn_154 (by decide)).trans ((zd_num (st2 := [.int 7, .ref 91, .int 7, .ref 91]) a_M_worksOn_156 rfl rfl rfl rfl).trans ((zd_iald (h := (zSH, (zup (zup (zup G 91 (63 + 22 * x1 + 11).toNatClampNeg ((G 91 (63 + 22 * x1 + 11).toNatClampNeg) + 1)) 91 (63 + 22 * x1 + (12 + x2)).toNatClampNeg (((zup G 91 (63 + 22 * x1 + 11).toNatClampNeg ((G 91 (63 + 22 * x1 + 11).toNatClampNeg) + 1)) 91 (63 + 22 * x1 + (12 + x2)).toNatClampNeg) + x3)) 91 (63 + 22 * x1 + (17 + x2)).toNatClampNeg ((zup (zup G 91 (63 + 22 * x1 + 11).toNatClampNeg ((G 91 (63 + 22 * x1 + 11).toNatClampNeg) + 1)) 91 (63 + 22 * x1 + (12 + x2)).toNatClampNeg (((zup G 91 (63 + 22 * x1 + 11).toNatClampNeg ((G 91 (63 + 22 * x1 + 11).toNatClampNeg) + 1)) 91 (63 + 22 * x1 + (12 + x2)).toNatClampNeg) + x3)) 91 (63 + 22 * x1 + 11).toNatClampNeg)))) a_M_worksOn_157 sh_91 rfl).trans ((if_pos (by decide)).trans ((zd_iconst (v := 1) a_M_worksOn_158 (by decide)).trans ((zd_num (st2 := [.int (((zup (zup (zup G 91 (63 + 22 * x1 + 11).toNatClampNeg ((G 91 (63 + 22 * x1 + 11).toNatClampNeg) + 1)) 91 (63 + 22 * x1 + (12 + x2)).toNatClampNeg (((zup G 91 (63 + 22 * x1 + 11).toNatClampNeg ((G 91 (63 + 22 * x1 + 11).toNatClampNeg) + 1)) 91 (63 + 22 * x1 + (12 + x2)).toNatClampNeg) + x3)) 91 (63 + 22 * x1 + (17 + x2)).toNatClampNeg ((zup (zup G 91 (63 + 22 * x1 + 11).toNatClampNeg ((G 91 (63 + 22 * x1 + 11).toNatClampNeg) + 1)) 91 (63 + 22 * x1 + (12 + x2)).toNatClampNeg (((zup G 91 (63 + 22 * x1 + 11).toNatClampNeg ((G 91 (63 + 22 * x1 + 11).toNatClampNeg) + 1)) 91 (63 + 22 * x1 + (12 + x2)).toNatClampNeg) + x3)) 91 (63 + 22 * x1 + 11).toNatClampNeg)) 91 7) + 1), .int 7, .ref 91]) a_M_worksOn_159 rfl rfl rfl rfl).trans ((zd_iast (h := (zSH, (zup (zup (zup G 91 (63 + 22 * x1 + 11).toNatClampNeg ((G 91 (63 + 22 * x1 + 11).toNatClampNeg) + 1)) 91 (63 + 22 * x1 + (12 + x2)).toNatClampNeg (((zup G 91 (63 + 22 * x1 + 11).toNatClampNeg ((G 91 (63 + 22 * x1 + 11).toNatClampNeg) + 1)) 91 (63 + 22 * x1 + (12 + x2)).toNatClampNeg) + x3)) 91 (63 + 22 * x1 + (17 + x2)).toNatClampNeg ((zup (zup G 91 (63 + 22 * x1 + 11).toNatClampNeg ((G 91 (63 + 22 * x1 + 11).toNatClampNeg) + 1)) 91 (63 + 22 * x1 + (12 + x2)).toNatClampNeg (((zup G 91 (63 + 22 * x1 + 11).toNatClampNeg ((G 91 (63 + 22 * x1 + 11).toNatClampNeg) + 1)) 91 (63 + 22 * x1 + (12 + x2)).toNatClampNeg) + x3)) 91 (63 + 22 * x1 + 11).toNatClampNeg)))) a_M_worksOn_160 sh_91).trans ((if_pos (by decide)).trans ((zd_aload_n a_M_worksOn_161 rfl).trans ((zd_getR (h := (zSH, (zup (zup (zup (zup G 91 (63 + 22 * x1 + 11).toNatClampNeg ((G 91 (63 + 22 * x1 + 11).toNatClampNeg) + 1)) 91 (63 + 22 * x1 + (12 + x2)).toNatClampNeg (((zup G 91 (63 + 22 * x1 + 11).toNatClampNeg ((G 91 (63 + 22 * x1 + 11).toNatClampNeg) + 1)) 91 (63 + 22 * x1 + (12 + x2)).toNatClampNeg) + x3)) 91 (63 + 22 * x1 + (17 + x2)).toNatClampNeg ((zup (zup G 91 (63 + 22 * x1 + 11).toNatClampNeg ((G 91 (63 + 22 * x1 + 11).toNatClampNeg) + 1)) 91 (63 + 22 * x1 + (12 + x2)).toNatClampNeg (((zup G 91 (63 + 22 * x1 + 11).toNatClampNeg ((G 91 (63 + 22 * x1 + 11).toNatClampNeg) + 1)) 91 (63 + 22 * x1 + (12 + x2)).toNatClampNeg) + x3)) 91 (63 + 22 * x1 + 11).toNatClampNeg)) 91 7 (((zup (zup (zup G 91 (63 + 22 * x1 + 11).toNatClampNeg ((G 91 (63 + 22 * x1 + 11).toNatClampNeg) + 1)) 91 (63 + 22 * x1 + (12 + x2)).toNatClampNeg (((zup G 91 (63 + 22 * x1 + 11).toNatClampNeg ((G 91 (63 + 22 * x1 + 11).toNatClampNeg) + 1)) 91 (63 + 22 * x1 + (12 + x2)).toNatClampNeg) + x3)) 91 (63 + 22 * x1 + (17 + x2)).toNatClampNeg ((zup (zup G 91 (63 + 22 * x1 + 11).toNatClampNeg ((G 91 (63 + 22 * x1 + 11).toNatClampNeg) + 1)) 91 (63 + 22 * x1 + (12 + x2)).toNatClampNeg (((zup G 91 (63 + 22 * x1 + 11).toNatClampNeg ((G 91 (63 + 22 * x1 + 11).toNatClampNeg) + 1)) 91 (63 + 22 * x1 + (12 + x2)).toNatClampNeg) + x3)) 91 (63 + 22 * x1 + 11).toNatClampNeg)) 91 7) + 1)))) (ci := 8) (fi := 5) (a := 91) a_M_worksOn_162 (by decide +kernel) sh_90 rfl rfl).trans ((zd_iload_n a_M_worksOn_165 rfl).trans ((zd_bipush (v := 12) a_M_worksOn_166 (by decide)).trans ((zd_iload_n a_M_worksOn_168 rfl).trans ((zd_num (st2 := [.int (12 + x2), .int x1, .ref 91]) a_M_worksOn_169 rfl rfl rfl rfl).trans ((zd_cal (kd := 1) (tg := 123) (T := m_M_of) a_M_worksOn_170 (by decide +kernel) hm_M_of rfl rfl rfl rfl).trans (((congrArg (zaft 129 173 [.ref 90, .int x1, .int x2, .int x3] [.ref 91] (zSH, (zup (zup (zup (zup G 91 (63 + 22 * x1 + 11).toNatClampNeg ((G 91 (63 + 22 * x1 + 11).toNatClampNeg) + 1)) 91 (63 + 22 * x1 + (12 + x2)).toNatClampNeg (((zup G 91 (63 + 22 * x1 + 11).toNatClampNeg ((G 91 (63 + 22 * x1 + 11).toNatClampNeg) + 1)) 91 (63 + 22 * x1 + (12 + x2)).toNatClampNeg) + x3)) 91 (63 + 22 * x1 + (17 + x2)).toNatClampNeg ((zup (zup G 91 (63 + 22 * x1 + 11).toNatClampNeg ((G 91 (63 + 22 * x1 + 11).toNatClampNeg) + 1)) 91 (63 + 22 * x1 + (12 + x2)).toNatClampNeg (((zup G 91 (63 + 22 * x1 + 11).toNatClampNeg ((G 91 (63 + 22 * x1 + 11).toNatClampNeg) + 1)) 91 (63 + 22 * x1 + (12 + x2)).toNatClampNeg) + x3)) 91 (63 + 22 * x1 + 11).toNatClampNeg)) 91 7 (((zup (zup (zup G 91 (63 + 22 * x1 + 11).toNatClampNeg ((G 91 (63 + 22 * x1 + 11).toNatClampNeg) + 1)) 91 (63 + 22 * x1 + (12 + x2)).toNatClampNeg (((zup G 91 (63 + 22 * x1 + 11).toNatClampNeg ((G 91 (63 + 22 * x1 + 11).toNatClampNeg) + 1)) 91 (63 + 22 * x1 + (12 + x2)).toNatClampNeg) + x3)) 91 (63 + 22 * x1 + (17 + x2)).toNatClampNeg ((zup (zup G 91 (63 + 22 * x1 + 11).toNatClampNeg ((G 91 (63 + 22 * x1 + 11).toNatClampNeg) + 1)) 91 (63 + 22 * x1 + (12 + x2)).toNatClampNeg (((zup G 91 (63 + 22 * x1 + 11).toNatClampNeg ((G 91 (63 + 22 * x1 + 11).toNatClampNeg) + 1)) 91 (63 + 22 * x1 + (12 + x2)).toNatClampNeg) + x3)) 91 (63 + 22 * x1 + 11).toNatClampNeg)) 91 7) + 1)))) (ms_of)).trans zaft_same).trans ((zd_iald (h := (zSH, (zup (zup (zup (zup G 91 (63 + 22 * x1 + 11).toNatClampNeg ((G 91 (63 + 22 * x1 + 11).toNatClampNeg) + 1)) 91 (63 + 22 * x1 + (12 + x2)).toNatClampNeg (((zup G 91 (63 + 22 * x1 + 11).toNatClampNeg ((G 91 (63 + 22 * x1 + 11).toNatClampNeg) + 1)) 91 (63 + 22 * x1 + (12 + x2)).toNatClampNeg) + x3)) 91 (63 + 22 * x1 + (17 + x2)).toNatClampNeg ((zup (zup G 91 (63 + 22 * x1 + 11).toNatClampNeg ((G 91 (63 + 22 * x1 + 11).toNatClampNeg) + 1)) 91 (63 + 22 * x1 + (12 + x2)).toNatClampNeg (((zup G 91 (63 + 22 * x1 + 11).toNatClampNeg ((G 91 (63 + 22 * x1 + 11).toNatClampNeg) + 1)) 91 (63 + 22 * x1 + (12 + x2)).toNatClampNeg) + x3)) 91 (63 + 22 * x1 + 11).toNatClampNeg)) 91 7 (((zup (zup (zup G 91 (63 + 22 * x1 + 11).toNatClampNeg ((G 91 (63 + 22 * x1 + 11).toNatClampNeg) + 1)) 91 (63 + 22 * x1 + (12 + x2)).toNatClampNeg (((zup G 91 (63 + 22 * x1 + 11).toNatClampNeg ((G 91 (63 + 22 * x1 + 11).toNatClampNeg) + 1)) 91 (63 + 22 * x1 + (12 + x2)).toNatClampNeg) + x3)) 91 (63 + 22 * x1 + (17 + x2)).toNatClampNeg ((zup (zup G 91 (63 + 22 * x1 + 11).toNatClampNeg ((G 91 (63 + 22 * x1 + 11).toNatClampNeg) + 1)) 91 (63 + 22 * x1 + (12 + x2)).toNatClampNeg (((zup G 91 (63 + 22 * x1 + 11).toNatClampNeg ((G 91 (63 + 22 * x1 + 11).toNatClampNeg) + 1)) 91 (63 + 22 * x1 + (12 + x2)).toNatClampNeg) + x3)) 91 (63 + 22 * x1 + 11).toNatClampNeg)) 91 7) + 1)))) a_M_worksOn_173 sh_91 rfl).trans ((if_pos (z122_3 p11 p12 p13 p14 p15)).trans (zd_iret a_M_worksOn_174 rfl (znr_int _)))))))))))))))))))))))))))))))))))))))))))))))))))))))))))))))))))) (fun p15 => (zd_aload_n a_M_worksOn_86 rfl).trans ((zd_iconst (v := 1) a_M_worksOn_87 (by decide)).trans ((zd_bipush (v := 6) a_M_worksOn_88 (by decide)).trans ((zd_cal (kd := 0) (tg := 114) (T := m_M_refuses) a_M_worksOn_90 (by decide +kernel) hm_M_refuses rfl rfl rfl rfl).trans (((congrArg (zaft 129 93 [.ref 90, .int x1, .int x2, .int x3] [] (zSH, G)) (ms_refuses)).trans zaft_same).trans (zd_iret a_M_worksOn_93 rfl (znr_int _)))))))))))))))))) (fun p14 => (zd_aload_n a_M_worksOn_53 rfl).trans ((zd_iconst (v := 3) a_M_worksOn_54 (by decide)).trans ((zd_aload_n a_M_worksOn_55 rfl).trans ((zd_getR (h := (zSH, G)) (ci := 8) (fi := 5) (a := 91) a_M_worksOn_56 (by decide +kernel) sh_90 rfl rfl).trans ((zd_iload_n a_M_worksOn_59 rfl).trans ((zd_bipush (v := 7) a_M_worksOn_60 (by decide)).trans ((zd_cal (kd := 1) (tg := 123) (T := m_M_of) a_M_worksOn_62 (by decide +kernel) hm_M_of rfl rfl rfl rfl).trans (((congrArg (zaft 129 65 [.ref 90, .int x1, .int x2, .int x3] [.ref 91, .int 3, .ref 90] (zSH, G)) (ms_of)).trans zaft_same).trans ((zd_iald (h := (zSH, G)) a_M_worksOn_65 sh_91 rfl).trans ((if_pos (z65_5 p11 p12 p13 p14)).trans ((zd_cal (kd := 0) (tg := 114) (T := m_M_refuses) a_M_worksOn_66 (by decide +kernel) hm_M_refuses rfl rfl rfl rfl).trans (((congrArg (zaft 129 69 [.ref 90, .int x1, .int x2, .int x3] [] (zSH, G)) (ms_refuses)).trans zaft_same).trans (zd_iret a_M_worksOn_69 rfl (znr_int _)))))))))))))))))))))))) (fun p13 => (zd_aload_n a_M_worksOn_32 rfl).trans ((zd_bipush (v := (-12)) a_M_worksOn_33 (by decide)).trans ((zd_cal (kd := 0) (tg := 111) (T := m_M_fail) a_M_worksOn_35 (by decide +kernel) hm_M_fail rfl rfl rfl rfl).trans (((congrArg (zaft 129 38 [.ref 90, .int x1, .int x2, .int x3] [] (zSH, G)) (ms_fail)).trans zaft_same).trans (zd_iret a_M_worksOn_38 rfl (znr_int _))))))))))))) (fun p12 => rfl)))))))))))
theorem B_M_worksOn_15 {G : Nat → Nat → Int32} {x1 x2 x3 : Int32} : zden 129 15 [.ref 90, .int x1, .int x2, .int x3] [] (zSH, G) = some (some (.int (-11)), (zSH, (zup G 90 0 (-11)))) :=
  (zd_aload_n a_M_worksOn_15 rfl).trans ((zd_bipush (v := (-11)) a_M_worksOn_16 (by decide)).trans ((zd_cal (kd := 0) (tg := 111) (T := m_M_fail) a_M_worksOn_18 (by decide +kernel) hm_M_fail rfl rfl rfl rfl).trans (((congrArg (zaft 129 21 [.ref 90, .int x1, .int x2, .int x3] [] (zSH, G)) (ms_fail)).trans zaft_same).trans (zd_iret a_M_worksOn_21 rfl (znr_int _)))))
theorem a_M_origin_0 : zAt 133 0 m_M_origin (.iconst 0) 1 := ⟨hm_M_origin, by decide +kernel⟩
theorem a_M_origin_1 : zAt 133 1 m_M_origin (.istore_n 2) 1 := ⟨hm_M_origin, by decide +kernel⟩
theorem a_M_origin_2 : zAt 133 2 m_M_origin (.iconst 1) 1 := ⟨hm_M_origin, by decide +kernel⟩
theorem a_M_origin_3 : zAt 133 3 m_M_origin (.istore_n 3) 1 := ⟨hm_M_origin, by decide +kernel⟩
theorem a_M_origin_4 : zAt 133 4 m_M_origin (.iload_n 3) 1 := ⟨hm_M_origin, by decide +kernel⟩
theorem a_M_origin_5 : zAt 133 5 m_M_origin (.iconst 5) 1 := ⟨hm_M_origin, by decide +kernel⟩
theorem a_M_origin_6 : zAt 133 6 m_M_origin (.if_icmp .ge 83) 3 := ⟨hm_M_origin, by decide +kernel⟩
theorem a_M_origin_9 : zAt 133 9 m_M_origin (.aload_n 0) 1 := ⟨hm_M_origin, by decide +kernel⟩
theorem a_M_origin_10 : zAt 133 10 m_M_origin (.getfield 7) 3 := ⟨hm_M_origin, by decide +kernel⟩
theorem a_M_origin_13 : zAt 133 13 m_M_origin (.iload_n 1) 1 := ⟨hm_M_origin, by decide +kernel⟩
theorem a_M_origin_14 : zAt 133 14 m_M_origin (.bipush 12) 2 := ⟨hm_M_origin, by decide +kernel⟩
theorem a_M_origin_16 : zAt 133 16 m_M_origin (.iload_n 3) 1 := ⟨hm_M_origin, by decide +kernel⟩
theorem a_M_origin_17 : zAt 133 17 m_M_origin (.iadd) 1 := ⟨hm_M_origin, by decide +kernel⟩
theorem a_M_origin_18 : zAt 133 18 m_M_origin (.invokestatic 91) 3 := ⟨hm_M_origin, by decide +kernel⟩
theorem a_M_origin_21 : zAt 133 21 m_M_origin (.iaload) 1 := ⟨hm_M_origin, by decide +kernel⟩
theorem a_M_origin_22 : zAt 133 22 m_M_origin (.aload_n 0) 1 := ⟨hm_M_origin, by decide +kernel⟩
theorem a_M_origin_23 : zAt 133 23 m_M_origin (.getfield 7) 3 := ⟨hm_M_origin, by decide +kernel⟩
theorem a_M_origin_26 : zAt 133 26 m_M_origin (.iload_n 1) 1 := ⟨hm_M_origin, by decide +kernel⟩
theorem a_M_origin_27 : zAt 133 27 m_M_origin (.bipush 12) 2 := ⟨hm_M_origin, by decide +kernel⟩
theorem a_M_origin_29 : zAt 133 29 m_M_origin (.iload_n 2) 1 := ⟨hm_M_origin, by decide +kernel⟩
theorem a_M_origin_30 : zAt 133 30 m_M_origin (.iadd) 1 := ⟨hm_M_origin, by decide +kernel⟩
theorem a_M_origin_31 : zAt 133 31 m_M_origin (.invokestatic 91) 3 := ⟨hm_M_origin, by decide +kernel⟩
theorem a_M_origin_34 : zAt 133 34 m_M_origin (.iaload) 1 := ⟨hm_M_origin, by decide +kernel⟩
theorem a_M_origin_35 : zAt 133 35 m_M_origin (.isub) 1 := ⟨hm_M_origin, by decide +kernel⟩
theorem a_M_origin_36 : zAt 133 36 m_M_origin (.istore 4) 2 := ⟨hm_M_origin, by decide +kernel⟩
theorem a_M_origin_38 : zAt 133 38 m_M_origin (.iload 4) 2 := ⟨hm_M_origin, by decide +kernel⟩
theorem a_M_origin_40 : zAt 133 40 m_M_origin (.ifCond .gt 37) 3 := ⟨hm_M_origin, by decide +kernel⟩
theorem a_M_origin_43 : zAt 133 43 m_M_origin (.iload 4) 2 := ⟨hm_M_origin, by decide +kernel⟩
theorem a_M_origin_45 : zAt 133 45 m_M_origin (.ifCond .ne 36) 3 := ⟨hm_M_origin, by decide +kernel⟩
theorem a_M_origin_48 : zAt 133 48 m_M_origin (.aload_n 0) 1 := ⟨hm_M_origin, by decide +kernel⟩
theorem a_M_origin_49 : zAt 133 49 m_M_origin (.getfield 7) 3 := ⟨hm_M_origin, by decide +kernel⟩
theorem a_M_origin_52 : zAt 133 52 m_M_origin (.iload_n 1) 1 := ⟨hm_M_origin, by decide +kernel⟩
theorem a_M_origin_53 : zAt 133 53 m_M_origin (.bipush 17) 2 := ⟨hm_M_origin, by decide +kernel⟩
theorem a_M_origin_55 : zAt 133 55 m_M_origin (.iload_n 3) 1 := ⟨hm_M_origin, by decide +kernel⟩
theorem a_M_origin_56 : zAt 133 56 m_M_origin (.iadd) 1 := ⟨hm_M_origin, by decide +kernel⟩
theorem a_M_origin_57 : zAt 133 57 m_M_origin (.invokestatic 91) 3 := ⟨hm_M_origin, by decide +kernel⟩
theorem a_M_origin_60 : zAt 133 60 m_M_origin (.iaload) 1 := ⟨hm_M_origin, by decide +kernel⟩
theorem a_M_origin_61 : zAt 133 61 m_M_origin (.aload_n 0) 1 := ⟨hm_M_origin, by decide +kernel⟩
theorem a_M_origin_62 : zAt 133 62 m_M_origin (.getfield 7) 3 := ⟨hm_M_origin, by decide +kernel⟩
theorem a_M_origin_65 : zAt 133 65 m_M_origin (.iload_n 1) 1 := ⟨hm_M_origin, by decide +kernel⟩
theorem a_M_origin_66 : zAt 133 66 m_M_origin (.bipush 17) 2 := ⟨hm_M_origin, by decide +kernel⟩
theorem a_M_origin_68 : zAt 133 68 m_M_origin (.iload_n 2) 1 := ⟨hm_M_origin, by decide +kernel⟩
theorem a_M_origin_69 : zAt 133 69 m_M_origin (.iadd) 1 := ⟨hm_M_origin, by decide +kernel⟩
theorem a_M_origin_70 : zAt 133 70 m_M_origin (.invokestatic 91) 3 := ⟨hm_M_origin, by decide +kernel⟩
theorem a_M_origin_73 : zAt 133 73 m_M_origin (.iaload) 1 := ⟨hm_M_origin, by decide +kernel⟩
theorem a_M_origin_74 : zAt 133 74 m_M_origin (.if_icmp .le 7) 3 := ⟨hm_M_origin, by decide +kernel⟩
theorem a_M_origin_77 : zAt 133 77 m_M_origin (.iload_n 3) 1 := ⟨hm_M_origin, by decide +kernel⟩
theorem a_M_origin_78 : zAt 133 78 m_M_origin (.goto 4) 3 := ⟨hm_M_origin, by decide +kernel⟩
theorem a_M_origin_81 : zAt 133 81 m_M_origin (.iload_n 2) 1 := ⟨hm_M_origin, by decide +kernel⟩
theorem a_M_origin_82 : zAt 133 82 m_M_origin (.istore_n 2) 1 := ⟨hm_M_origin, by decide +kernel⟩
theorem a_M_origin_83 : zAt 133 83 m_M_origin (.iinc 3 1) 3 := ⟨hm_M_origin, by decide +kernel⟩
theorem a_M_origin_86 : zAt 133 86 m_M_origin (.goto (-82)) 3 := ⟨hm_M_origin, by decide +kernel⟩
theorem a_M_origin_89 : zAt 133 89 m_M_origin (.aload_n 0) 1 := ⟨hm_M_origin, by decide +kernel⟩
theorem a_M_origin_90 : zAt 133 90 m_M_origin (.getfield 7) 3 := ⟨hm_M_origin, by decide +kernel⟩
theorem a_M_origin_93 : zAt 133 93 m_M_origin (.iload_n 1) 1 := ⟨hm_M_origin, by decide +kernel⟩
theorem a_M_origin_94 : zAt 133 94 m_M_origin (.bipush 11) 2 := ⟨hm_M_origin, by decide +kernel⟩
theorem a_M_origin_96 : zAt 133 96 m_M_origin (.invokestatic 91) 3 := ⟨hm_M_origin, by decide +kernel⟩
theorem a_M_origin_99 : zAt 133 99 m_M_origin (.iaload) 1 := ⟨hm_M_origin, by decide +kernel⟩
theorem a_M_origin_100 : zAt 133 100 m_M_origin (.ifCond .ne 7) 3 := ⟨hm_M_origin, by decide +kernel⟩
theorem a_M_origin_103 : zAt 133 103 m_M_origin (.iconst (-1)) 1 := ⟨hm_M_origin, by decide +kernel⟩
theorem a_M_origin_104 : zAt 133 104 m_M_origin (.goto 4) 3 := ⟨hm_M_origin, by decide +kernel⟩
theorem a_M_origin_107 : zAt 133 107 m_M_origin (.iload_n 2) 1 := ⟨hm_M_origin, by decide +kernel⟩
theorem a_M_origin_108 : zAt 133 108 m_M_origin (.ireturn) 1 := ⟨hm_M_origin, by decide +kernel⟩
theorem B_M_origin_0 {G : Nat → Nat → Int32} {x1 : Int32} : zden 133 0 [.ref 90, .int x1, .retAddr 0, .retAddr 0, .retAddr 0] [] (zSH, G) = zden 133 4 [.ref 90, .int x1, .int 0, .int 1, .retAddr 0] [] (zSH, G) :=
  (zd_iconst (v := 0) a_M_origin_0 (by decide)).trans ((zd_istore_n a_M_origin_1 rfl rfl rfl).trans ((zd_iconst (v := 1) a_M_origin_2 (by decide)).trans ((zd_istore_n a_M_origin_3 rfl rfl rfl))))
theorem B_M_origin_4 {G : Nat → Nat → Int32} {x1 x2 x3 : Int32} {v4 : Value} (z99_0 : (5 ≤ x3) → zin (63 + 22 * x1 + 11) 327 = true) (z21_1 : (¬ (5 ≤ x3)) → zin (63 + 22 * x1 + (12 + x3)) 327 = true) (z34_2 : (¬ (5 ≤ x3)) → zin (63 + 22 * x1 + (12 + x2)) 327 = true) (z60_3 : (¬ (5 ≤ x3)) → (¬ (0 < ((G 91 (63 + 22 * x1 + (12 + x3)).toNatClampNeg) - (G 91 (63 + 22 * x1 + (12 + x2)).toNatClampNeg)))) → (¬ (¬ ((G 91 (63 + 22 * x1 + (12 + x3)).toNatClampNeg) - (G 91 (63 + 22 * x1 + (12 + x2)).toNatClampNeg)) = 0)) → zin (63 + 22 * x1 + (17 + x3)) 327 = true) (z73_4 : (¬ (5 ≤ x3)) → (¬ (0 < ((G 91 (63 + 22 * x1 + (12 + x3)).toNatClampNeg) - (G 91 (63 + 22 * x1 + (12 + x2)).toNatClampNeg)))) → (¬ (¬ ((G 91 (63 + 22 * x1 + (12 + x3)).toNatClampNeg) - (G 91 (63 + 22 * x1 + (12 + x2)).toNatClampNeg)) = 0)) → zin (63 + 22 * x1 + (17 + x2)) 327 = true) : zden 133 4 [.ref 90, .int x1, .int x2, .int x3, v4] [] (zSH, G) = if 5 ≤ x3 then if ¬ (G 91 (63 + 22 * x1 + 11).toNatClampNeg) = 0 then some (some (.int x2), (zSH, G)) else some (some (.int (-1)), (zSH, G)) else if 0 < ((G 91 (63 + 22 * x1 + (12 + x3)).toNatClampNeg) - (G 91 (63 + 22 * x1 + (12 + x2)).toNatClampNeg)) then zden 133 77 [.ref 90, .int x1, .int x2, .int x3, .int ((G 91 (63 + 22 * x1 + (12 + x3)).toNatClampNeg) - (G 91 (63 + 22 * x1 + (12 + x2)).toNatClampNeg))] [] (zSH, G) else if ¬ ((G 91 (63 + 22 * x1 + (12 + x3)).toNatClampNeg) - (G 91 (63 + 22 * x1 + (12 + x2)).toNatClampNeg)) = 0 then zden 133 81 [.ref 90, .int x1, .int x2, .int x3, .int ((G 91 (63 + 22 * x1 + (12 + x3)).toNatClampNeg) - (G 91 (63 + 22 * x1 + (12 + x2)).toNatClampNeg))] [] (zSH, G) else if (G 91 (63 + 22 * x1 + (17 + x3)).toNatClampNeg) ≤ (G 91 (63 + 22 * x1 + (17 + x2)).toNatClampNeg) then zden 133 81 [.ref 90, .int x1, .int x2, .int x3, .int ((G 91 (63 + 22 * x1 + (12 + x3)).toNatClampNeg) - (G 91 (63 + 22 * x1 + (12 + x2)).toNatClampNeg))] [] (zSH, G) else zden 133 77 [.ref 90, .int x1, .int x2, .int x3, .int ((G 91 (63 + 22 * x1 + (12 + x3)).toNatClampNeg) - (G 91 (63 + 22 * x1 + (12 + x2)).toNatClampNeg))] [] (zSH, G) :=
  (zd_iload_n a_M_origin_4 rfl).trans ((zd_iconst (v := 5) a_M_origin_5 (by decide)).trans ((zd_icmp_ge a_M_origin_6 rfl).trans (zitc (fun p21 => (zd_aload_n a_M_origin_89 rfl).trans ((zd_getR (h := (zSH, G)) (ci := 8) (fi := 5) (a := 91) a_M_origin_90 (by decide +kernel) sh_90 rfl rfl).trans ((zd_iload_n a_M_origin_93 rfl).trans ((zd_bipush (v := 11) a_M_origin_94 (by decide)).trans ((zd_cal (kd := 1) (tg := 123) (T := m_M_of) a_M_origin_96 (by decide +kernel) hm_M_of rfl rfl rfl rfl).trans (((congrArg (zaft 133 99 [.ref 90, .int x1, .int x2, .int x3, v4] [.ref 91] (zSH, G)) (ms_of)).trans zaft_same).trans ((zd_iald (h := (zSH, G)) a_M_origin_99 sh_91 rfl).trans ((if_pos (z99_0 p21)).trans ((zd_if_ne a_M_origin_100 rfl).trans (zitc (fun p22 => (zd_iload_n a_M_origin_107 rfl).trans (zd_iret a_M_origin_108 rfl (znr_int _))) (fun p22 => (zd_iconst (v := (-1)) a_M_origin_103 (by decide)).trans ((zd_goto a_M_origin_104 rfl).trans (zd_iret a_M_origin_108 rfl (znr_int _)))))))))))))) (fun p21 => (zd_aload_n a_M_origin_9 rfl).trans ((zd_getR (h := (zSH, G)) (ci := 8) (fi := 5) (a := 91) a_M_origin_10 (by decide +kernel) sh_90 rfl rfl).trans ((zd_iload_n a_M_origin_13 rfl).trans ((zd_bipush (v := 12) a_M_origin_14 (by decide)).trans ((zd_iload_n a_M_origin_16 rfl).trans ((zd_num (st2 := [.int (12 + x3), .int x1, .ref 91]) a_M_origin_17 rfl rfl rfl rfl).trans ((zd_cal (kd := 1) (tg := 123) (T := m_M_of) a_M_origin_18 (by decide +kernel) hm_M_of rfl rfl rfl rfl).trans (((congrArg (zaft 133 21 [.ref 90, .int x1, .int x2, .int x3, v4] [.ref 91] (zSH, G)) (ms_of)).trans zaft_same).trans ((zd_iald (h := (zSH, G)) a_M_origin_21 sh_91 rfl).trans ((if_pos (z21_1 p21)).trans ((zd_aload_n a_M_origin_22 rfl).trans ((zd_getR (h := (zSH, G)) (ci := 8) (fi := 5) (a := 91) a_M_origin_23 (by decide +kernel) sh_90 rfl rfl).trans ((zd_iload_n a_M_origin_26 rfl).trans ((zd_bipush (v := 12) a_M_origin_27 (by decide)).trans ((zd_iload_n a_M_origin_29 rfl).trans ((zd_num (st2 := [.int (12 + x2), .int x1, .ref 91, .int (G 91 (63 + 22 * x1 + (12 + x3)).toNatClampNeg)]) a_M_origin_30 rfl rfl rfl rfl).trans ((zd_cal (kd := 1) (tg := 123) (T := m_M_of) a_M_origin_31 (by decide +kernel) hm_M_of rfl rfl rfl rfl).trans (((congrArg (zaft 133 34 [.ref 90, .int x1, .int x2, .int x3, v4] [.ref 91, .int (G 91 (63 + 22 * x1 + (12 + x3)).toNatClampNeg)] (zSH, G)) (ms_of)).trans zaft_same).trans ((zd_iald (h := (zSH, G)) a_M_origin_34 sh_91 rfl).trans ((if_pos (z34_2 p21)).trans ((zd_num (st2 := [.int ((G 91 (63 + 22 * x1 + (12 + x3)).toNatClampNeg) - (G 91 (63 + 22 * x1 + (12 + x2)).toNatClampNeg))]) a_M_origin_35 rfl rfl rfl rfl).trans ((zd_istore a_M_origin_36 rfl rfl rfl).trans ((zd_iload a_M_origin_38 rfl).trans ((zd_if_gt a_M_origin_40 rfl).trans (zitc (fun p23 => rfl) (fun p23 => (zd_iload a_M_origin_43 rfl).trans ((zd_if_ne a_M_origin_45 rfl).trans (zitc (fun p24 => rfl) (fun p24 => (zd_aload_n a_M_origin_48 rfl).trans ((zd_getR (h := (zSH, G)) (ci := 8) (fi := 5) (a := 91) a_M_origin_49 (by decide +kernel) sh_90 rfl rfl).trans ((zd_iload_n a_M_origin_52 rfl).trans ((zd_bipush (v := 17) a_M_origin_53 (by decide)).trans ((zd_iload_n a_M_origin_55 rfl).trans ((zd_num (st2 := [.int (17 + x3), .int x1, .ref 91]) a_M_origin_56 rfl rfl rfl rfl).trans ((zd_cal (kd := 1) (tg := 123) (T := m_M_of) a_M_origin_57 (by decide +kernel) hm_M_of rfl rfl rfl rfl).trans (((congrArg (zaft 133 60 [.ref 90, .int x1, .int x2, .int x3, .int ((G 91 (63 + 22 * x1 + (12 + x3)).toNatClampNeg) - (G 91 (63 + 22 * x1 + (12 + x2)).toNatClampNeg))] [.ref 91] (zSH, G)) (ms_of)).trans zaft_same).trans ((zd_iald (h := (zSH, G)) a_M_origin_60 sh_91 rfl).trans ((if_pos (z60_3 p21 p23 p24)).trans ((zd_aload_n a_M_origin_61 rfl).trans ((zd_getR (h := (zSH, G)) (ci := 8) (fi := 5) (a := 91) a_M_origin_62 (by decide +kernel) sh_90 rfl rfl).trans ((zd_iload_n a_M_origin_65 rfl).trans ((zd_bipush (v := 17) a_M_origin_66 (by decide)).trans ((zd_iload_n a_M_origin_68 rfl).trans ((zd_num (st2 := [.int (17 + x2), .int x1, .ref 91, .int (G 91 (63 + 22 * x1 + (17 + x3)).toNatClampNeg)]) a_M_origin_69 rfl rfl rfl rfl).trans ((zd_cal (kd := 1) (tg := 123) (T := m_M_of) a_M_origin_70 (by decide +kernel) hm_M_of rfl rfl rfl rfl).trans (((congrArg (zaft 133 73 [.ref 90, .int x1, .int x2, .int x3, .int ((G 91 (63 + 22 * x1 + (12 + x3)).toNatClampNeg) - (G 91 (63 + 22 * x1 + (12 + x2)).toNatClampNeg))] [.ref 91, .int (G 91 (63 + 22 * x1 + (17 + x3)).toNatClampNeg)] (zSH, G)) (ms_of)).trans zaft_same).trans ((zd_iald (h := (zSH, G)) a_M_origin_73 sh_91 rfl).trans ((if_pos (z73_4 p21 p23 p24)).trans ((zd_icmp_le a_M_origin_74 rfl)))))))))))))))))))))))))))))))))))))))))))))))))))))
theorem B_M_origin_77 {G : Nat → Nat → Int32} {x1 x2 x3 x4 : Int32} : zden 133 77 [.ref 90, .int x1, .int x2, .int x3, .int x4] [] (zSH, G) = zden 133 82 [.ref 90, .int x1, .int x2, .int x3, .int x4] [.int x3] (zSH, G) :=
  (zd_iload_n a_M_origin_77 rfl).trans ((zd_goto a_M_origin_78 rfl))
theorem B_M_origin_81 {G : Nat → Nat → Int32} {x1 x2 x3 x4 : Int32} : zden 133 81 [.ref 90, .int x1, .int x2, .int x3, .int x4] [] (zSH, G) = zden 133 82 [.ref 90, .int x1, .int x2, .int x3, .int x4] [.int x2] (zSH, G) :=
  (zd_iload_n a_M_origin_81 rfl)
theorem B_M_origin_82 {G : Nat → Nat → Int32} {x1 x2 x3 x4 s0 : Int32} : zden 133 82 [.ref 90, .int x1, .int x2, .int x3, .int x4] [.int s0] (zSH, G) = zden 133 4 [.ref 90, .int x1, .int s0, .int (x3 + 1), .int x4] [] (zSH, G) :=
  (zd_istore_n a_M_origin_82 rfl rfl rfl).trans ((zd_iinc (v := 1) a_M_origin_83 rfl (by decide) rfl rfl rfl).trans ((zd_goto a_M_origin_86 rfl)))
theorem a_M_duty_0 : zAt 134 0 m_M_duty (.aload_n 0) 1 := ⟨hm_M_duty, by decide +kernel⟩
theorem a_M_duty_1 : zAt 134 1 m_M_duty (.iload_n 1) 1 := ⟨hm_M_duty, by decide +kernel⟩
theorem a_M_duty_2 : zAt 134 2 m_M_duty (.iconst 0) 1 := ⟨hm_M_duty, by decide +kernel⟩
theorem a_M_duty_3 : zAt 134 3 m_M_duty (.invokevirtual 104) 3 := ⟨hm_M_duty, by decide +kernel⟩
theorem a_M_duty_6 : zAt 134 6 m_M_duty (.istore_n 3) 1 := ⟨hm_M_duty, by decide +kernel⟩
theorem a_M_duty_7 : zAt 134 7 m_M_duty (.aload_n 0) 1 := ⟨hm_M_duty, by decide +kernel⟩
theorem a_M_duty_8 : zAt 134 8 m_M_duty (.getfield 7) 3 := ⟨hm_M_duty, by decide +kernel⟩
theorem a_M_duty_11 : zAt 134 11 m_M_duty (.iload_n 1) 1 := ⟨hm_M_duty, by decide +kernel⟩
theorem a_M_duty_12 : zAt 134 12 m_M_duty (.iconst 2) 1 := ⟨hm_M_duty, by decide +kernel⟩
theorem a_M_duty_13 : zAt 134 13 m_M_duty (.invokestatic 91) 3 := ⟨hm_M_duty, by decide +kernel⟩
theorem a_M_duty_16 : zAt 134 16 m_M_duty (.iaload) 1 := ⟨hm_M_duty, by decide +kernel⟩
theorem a_M_duty_17 : zAt 134 17 m_M_duty (.aload_n 0) 1 := ⟨hm_M_duty, by decide +kernel⟩
theorem a_M_duty_18 : zAt 134 18 m_M_duty (.iload_n 3) 1 := ⟨hm_M_duty, by decide +kernel⟩
theorem a_M_duty_19 : zAt 134 19 m_M_duty (.iconst 3) 1 := ⟨hm_M_duty, by decide +kernel⟩
theorem a_M_duty_20 : zAt 134 20 m_M_duty (.invokevirtual 68) 3 := ⟨hm_M_duty, by decide +kernel⟩
theorem a_M_duty_23 : zAt 134 23 m_M_duty (.imul) 1 := ⟨hm_M_duty, by decide +kernel⟩
theorem a_M_duty_24 : zAt 134 24 m_M_duty (.bipush 100) 2 := ⟨hm_M_duty, by decide +kernel⟩
theorem a_M_duty_26 : zAt 134 26 m_M_duty (.idiv) 1 := ⟨hm_M_duty, by decide +kernel⟩
theorem a_M_duty_27 : zAt 134 27 m_M_duty (.istore 4) 2 := ⟨hm_M_duty, by decide +kernel⟩
theorem a_M_duty_29 : zAt 134 29 m_M_duty (.aload_n 0) 1 := ⟨hm_M_duty, by decide +kernel⟩
theorem a_M_duty_30 : zAt 134 30 m_M_duty (.getfield 7) 3 := ⟨hm_M_duty, by decide +kernel⟩
theorem a_M_duty_33 : zAt 134 33 m_M_duty (.iload_n 1) 1 := ⟨hm_M_duty, by decide +kernel⟩
theorem a_M_duty_34 : zAt 134 34 m_M_duty (.iconst 1) 1 := ⟨hm_M_duty, by decide +kernel⟩
theorem a_M_duty_35 : zAt 134 35 m_M_duty (.invokestatic 91) 3 := ⟨hm_M_duty, by decide +kernel⟩
theorem a_M_duty_38 : zAt 134 38 m_M_duty (.iaload) 1 := ⟨hm_M_duty, by decide +kernel⟩
theorem a_M_duty_39 : zAt 134 39 m_M_duty (.aload_n 0) 1 := ⟨hm_M_duty, by decide +kernel⟩
theorem a_M_duty_40 : zAt 134 40 m_M_duty (.iload_n 3) 1 := ⟨hm_M_duty, by decide +kernel⟩
theorem a_M_duty_41 : zAt 134 41 m_M_duty (.iconst 4) 1 := ⟨hm_M_duty, by decide +kernel⟩
theorem a_M_duty_42 : zAt 134 42 m_M_duty (.invokevirtual 68) 3 := ⟨hm_M_duty, by decide +kernel⟩
theorem a_M_duty_45 : zAt 134 45 m_M_duty (.imul) 1 := ⟨hm_M_duty, by decide +kernel⟩
theorem a_M_duty_46 : zAt 134 46 m_M_duty (.istore 5) 2 := ⟨hm_M_duty, by decide +kernel⟩
theorem a_M_duty_48 : zAt 134 48 m_M_duty (.iload 4) 2 := ⟨hm_M_duty, by decide +kernel⟩
theorem a_M_duty_50 : zAt 134 50 m_M_duty (.iload 5) 2 := ⟨hm_M_duty, by decide +kernel⟩
theorem a_M_duty_52 : zAt 134 52 m_M_duty (.if_icmp .le 8) 3 := ⟨hm_M_duty, by decide +kernel⟩
theorem a_M_duty_55 : zAt 134 55 m_M_duty (.iload 4) 2 := ⟨hm_M_duty, by decide +kernel⟩
theorem a_M_duty_57 : zAt 134 57 m_M_duty (.goto 5) 3 := ⟨hm_M_duty, by decide +kernel⟩
theorem a_M_duty_60 : zAt 134 60 m_M_duty (.iload 5) 2 := ⟨hm_M_duty, by decide +kernel⟩
theorem a_M_duty_62 : zAt 134 62 m_M_duty (.istore 6) 2 := ⟨hm_M_duty, by decide +kernel⟩
theorem a_M_duty_64 : zAt 134 64 m_M_duty (.iload_n 2) 1 := ⟨hm_M_duty, by decide +kernel⟩
theorem a_M_duty_65 : zAt 134 65 m_M_duty (.ifCond .ge 8) 3 := ⟨hm_M_duty, by decide +kernel⟩
theorem a_M_duty_68 : zAt 134 68 m_M_duty (.iload 6) 2 := ⟨hm_M_duty, by decide +kernel⟩
theorem a_M_duty_70 : zAt 134 70 m_M_duty (.goto 21) 3 := ⟨hm_M_duty, by decide +kernel⟩
theorem a_M_duty_73 : zAt 134 73 m_M_duty (.iload 6) 2 := ⟨hm_M_duty, by decide +kernel⟩
theorem a_M_duty_75 : zAt 134 75 m_M_duty (.iload 6) 2 := ⟨hm_M_duty, by decide +kernel⟩
theorem a_M_duty_77 : zAt 134 77 m_M_duty (.aload_n 0) 1 := ⟨hm_M_duty, by decide +kernel⟩
theorem a_M_duty_78 : zAt 134 78 m_M_duty (.getfield 7) 3 := ⟨hm_M_duty, by decide +kernel⟩
theorem a_M_duty_81 : zAt 134 81 m_M_duty (.bipush 8) 2 := ⟨hm_M_duty, by decide +kernel⟩
theorem a_M_duty_83 : zAt 134 83 m_M_duty (.iload_n 2) 1 := ⟨hm_M_duty, by decide +kernel⟩
theorem a_M_duty_84 : zAt 134 84 m_M_duty (.iadd) 1 := ⟨hm_M_duty, by decide +kernel⟩
theorem a_M_duty_85 : zAt 134 85 m_M_duty (.iaload) 1 := ⟨hm_M_duty, by decide +kernel⟩
theorem a_M_duty_86 : zAt 134 86 m_M_duty (.imul) 1 := ⟨hm_M_duty, by decide +kernel⟩
theorem a_M_duty_87 : zAt 134 87 m_M_duty (.bipush 100) 2 := ⟨hm_M_duty, by decide +kernel⟩
theorem a_M_duty_89 : zAt 134 89 m_M_duty (.idiv) 1 := ⟨hm_M_duty, by decide +kernel⟩
theorem a_M_duty_90 : zAt 134 90 m_M_duty (.isub) 1 := ⟨hm_M_duty, by decide +kernel⟩
theorem a_M_duty_91 : zAt 134 91 m_M_duty (.ireturn) 1 := ⟨hm_M_duty, by decide +kernel⟩
theorem B_M_duty_0 {G : Nat → Nat → Int32} {x1 x2 : Int32} : zden 134 0 [.ref 90, .int x1, .int x2, .retAddr 0, .retAddr 0, .retAddr 0, .retAddr 0] [] (zSH, G) = zaft 134 6 [.ref 90, .int x1, .int x2, .retAddr 0, .retAddr 0, .retAddr 0, .retAddr 0] [] (zSH, G) (zden 120 0 [.ref 90, .int x1, .int 0, .retAddr 0, .retAddr 0, .retAddr 0] [] (zSH, G)) :=
  (zd_aload_n a_M_duty_0 rfl).trans ((zd_iload_n a_M_duty_1 rfl).trans ((zd_iconst (v := 0) a_M_duty_2 (by decide)).trans ((zd_cal (kd := 0) (tg := 120) (T := m_M_fitting) a_M_duty_3 (by decide +kernel) hm_M_fitting rfl rfl rfl rfl))))
theorem B_M_duty_6 {G : Nat → Nat → Int32} {x1 x2 s0 : Int32} (z16_0 : zin (63 + 22 * x1 + 2) 327 = true) (z20_1 : mhok G s0 3) (z38_2 : zin (63 + 22 * x1 + 1) 327 = true) (z42_3 : mhok G s0 4) : zden 134 6 [.ref 90, .int x1, .int x2, .retAddr 0, .retAddr 0, .retAddr 0, .retAddr 0] [.int s0] (zSH, G) = if (((G 91 (63 + 22 * x1 + 2).toNatClampNeg) * (mhead G s0 3)) / 100) ≤ ((G 91 (63 + 22 * x1 + 1).toNatClampNeg) * (mhead G s0 4)) then zden 134 62 [.ref 90, .int x1, .int x2, .int s0, .int (((G 91 (63 + 22 * x1 + 2).toNatClampNeg) * (mhead G s0 3)) / 100), .int ((G 91 (63 + 22 * x1 + 1).toNatClampNeg) * (mhead G s0 4)), .retAddr 0] [.int ((G 91 (63 + 22 * x1 + 1).toNatClampNeg) * (mhead G s0 4))] (zSH, G) else zden 134 62 [.ref 90, .int x1, .int x2, .int s0, .int (((G 91 (63 + 22 * x1 + 2).toNatClampNeg) * (mhead G s0 3)) / 100), .int ((G 91 (63 + 22 * x1 + 1).toNatClampNeg) * (mhead G s0 4)), .retAddr 0] [.int (((G 91 (63 + 22 * x1 + 2).toNatClampNeg) * (mhead G s0 3)) / 100)] (zSH, G) :=
  (zd_istore_n a_M_duty_6 rfl rfl rfl).trans ((zd_aload_n a_M_duty_7 rfl).trans ((zd_getR (h := (zSH, G)) (ci := 8) (fi := 5) (a := 91) a_M_duty_8 (by decide +kernel) sh_90 rfl rfl).trans ((zd_iload_n a_M_duty_11 rfl).trans ((zd_iconst (v := 2) a_M_duty_12 (by decide)).trans ((zd_cal (kd := 1) (tg := 123) (T := m_M_of) a_M_duty_13 (by decide +kernel) hm_M_of rfl rfl rfl rfl).trans (((congrArg (zaft 134 16 [.ref 90, .int x1, .int x2, .int s0, .retAddr 0, .retAddr 0, .retAddr 0] [.ref 91] (zSH, G)) (ms_of)).trans zaft_same).trans ((zd_iald (h := (zSH, G)) a_M_duty_16 sh_91 rfl).trans ((if_pos z16_0).trans ((zd_aload_n a_M_duty_17 rfl).trans ((zd_iload_n a_M_duty_18 rfl).trans ((zd_iconst (v := 3) a_M_duty_19 (by decide)).trans ((zd_cal (kd := 0) (tg := 113) (T := m_M_head) a_M_duty_20 (by decide +kernel) hm_M_head rfl rfl rfl rfl).trans (((congrArg (zaft 134 23 [.ref 90, .int x1, .int x2, .int s0, .retAddr 0, .retAddr 0, .retAddr 0] [.int (G 91 (63 + 22 * x1 + 2).toNatClampNeg)] (zSH, G)) (ms_head z20_1)).trans zaft_same).trans ((zd_num (st2 := [.int ((G 91 (63 + 22 * x1 + 2).toNatClampNeg) * (mhead G s0 3))]) a_M_duty_23 rfl rfl rfl rfl).trans ((zd_bipush (v := 100) a_M_duty_24 (by decide)).trans ((zd_idiv a_M_duty_26 (by decide)).trans ((zd_istore a_M_duty_27 rfl rfl rfl).trans ((zd_aload_n a_M_duty_29 rfl).trans ((zd_getR (h := (zSH, G)) (ci := 8) (fi := 5) (a := 91) a_M_duty_30 (by decide +kernel) sh_90 rfl rfl).trans ((zd_iload_n a_M_duty_33 rfl).trans ((zd_iconst (v := 1) a_M_duty_34 (by decide)).trans ((zd_cal (kd := 1) (tg := 123) (T := m_M_of) a_M_duty_35 (by decide +kernel) hm_M_of rfl rfl rfl rfl).trans (((congrArg (zaft 134 38 [.ref 90, .int x1, .int x2, .int s0, .int (((G 91 (63 + 22 * x1 + 2).toNatClampNeg) * (mhead G s0 3)) / 100), .retAddr 0, .retAddr 0] [.ref 91] (zSH, G)) (ms_of)).trans zaft_same).trans ((zd_iald (h := (zSH, G)) a_M_duty_38 sh_91 rfl).trans ((if_pos z38_2).trans ((zd_aload_n a_M_duty_39 rfl).trans ((zd_iload_n a_M_duty_40 rfl).trans ((zd_iconst (v := 4) a_M_duty_41 (by decide)).trans ((zd_cal (kd := 0) (tg := 113) (T := m_M_head) a_M_duty_42 (by decide +kernel) hm_M_head rfl rfl rfl rfl).trans (((congrArg (zaft 134 45 [.ref 90, .int x1, .int x2, .int s0, .int (((G 91 (63 + 22 * x1 + 2).toNatClampNeg) * (mhead G s0 3)) / 100), .retAddr 0, .retAddr 0] [.int (G 91 (63 + 22 * x1 + 1).toNatClampNeg)] (zSH, G)) (ms_head z42_3)).trans zaft_same).trans ((zd_num (st2 := [.int ((G 91 (63 + 22 * x1 + 1).toNatClampNeg) * (mhead G s0 4))]) a_M_duty_45 rfl rfl rfl rfl).trans ((zd_istore a_M_duty_46 rfl rfl rfl).trans ((zd_iload a_M_duty_48 rfl).trans ((zd_iload a_M_duty_50 rfl).trans ((zd_icmp_le a_M_duty_52 rfl).trans (zitc (fun p4 => (zd_iload a_M_duty_60 rfl)) (fun p4 => (zd_iload a_M_duty_55 rfl).trans ((zd_goto a_M_duty_57 rfl)))))))))))))))))))))))))))))))))))))))
theorem B_M_duty_62 {G : Nat → Nat → Int32} {x1 x2 x3 x4 x5 s0 : Int32} (z85_0 : (0 ≤ x2) → zin (8 + x2) 327 = true) : zden 134 62 [.ref 90, .int x1, .int x2, .int x3, .int x4, .int x5, .retAddr 0] [.int s0] (zSH, G) = if 0 ≤ x2 then some (some (.int (s0 - ((s0 * (G 91 (8 + x2).toNatClampNeg)) / 100))), (zSH, G)) else some (some (.int s0), (zSH, G)) :=
  (zd_istore a_M_duty_62 rfl rfl rfl).trans ((zd_iload_n a_M_duty_64 rfl).trans ((zd_if_ge a_M_duty_65 rfl).trans (zitc (fun p5 => (zd_iload a_M_duty_73 rfl).trans ((zd_iload a_M_duty_75 rfl).trans ((zd_aload_n a_M_duty_77 rfl).trans ((zd_getR (h := (zSH, G)) (ci := 8) (fi := 5) (a := 91) a_M_duty_78 (by decide +kernel) sh_90 rfl rfl).trans ((zd_bipush (v := 8) a_M_duty_81 (by decide)).trans ((zd_iload_n a_M_duty_83 rfl).trans ((zd_num (st2 := [.int (8 + x2), .ref 91, .int s0, .int s0]) a_M_duty_84 rfl rfl rfl rfl).trans ((zd_iald (h := (zSH, G)) a_M_duty_85 sh_91 rfl).trans ((if_pos (z85_0 p5)).trans ((zd_num (st2 := [.int (s0 * (G 91 (8 + x2).toNatClampNeg)), .int s0]) a_M_duty_86 rfl rfl rfl rfl).trans ((zd_bipush (v := 100) a_M_duty_87 (by decide)).trans ((zd_idiv a_M_duty_89 (by decide)).trans ((zd_num (st2 := [.int (s0 - ((s0 * (G 91 (8 + x2).toNatClampNeg)) / 100))]) a_M_duty_90 rfl rfl rfl rfl).trans (zd_iret a_M_duty_91 rfl (znr_int _))))))))))))))) (fun p5 => (zd_iload a_M_duty_68 rfl).trans ((zd_goto a_M_duty_70 rfl).trans (zd_iret a_M_duty_91 rfl (znr_int _)))))))
theorem a_M_part_0 : zAt 135 0 m_M_part (.aload_n 0) 1 := ⟨hm_M_part, by decide +kernel⟩
theorem a_M_part_1 : zAt 135 1 m_M_part (.iload_n 1) 1 := ⟨hm_M_part, by decide +kernel⟩
theorem a_M_part_2 : zAt 135 2 m_M_part (.invokevirtual 114) 3 := ⟨hm_M_part, by decide +kernel⟩
theorem a_M_part_5 : zAt 135 5 m_M_part (.ifCond .eq 27) 3 := ⟨hm_M_part, by decide +kernel⟩
theorem a_M_part_8 : zAt 135 8 m_M_part (.iload_n 2) 1 := ⟨hm_M_part, by decide +kernel⟩
theorem a_M_part_9 : zAt 135 9 m_M_part (.iconst 0) 1 := ⟨hm_M_part, by decide +kernel⟩
theorem a_M_part_10 : zAt 135 10 m_M_part (.iconst 3) 1 := ⟨hm_M_part, by decide +kernel⟩
theorem a_M_part_11 : zAt 135 11 m_M_part (.invokestatic 64) 3 := ⟨hm_M_part, by decide +kernel⟩
theorem a_M_part_14 : zAt 135 14 m_M_part (.ifCond .eq 18) 3 := ⟨hm_M_part, by decide +kernel⟩
theorem a_M_part_17 : zAt 135 17 m_M_part (.aload_n 0) 1 := ⟨hm_M_part, by decide +kernel⟩
theorem a_M_part_18 : zAt 135 18 m_M_part (.getfield 7) 3 := ⟨hm_M_part, by decide +kernel⟩
theorem a_M_part_21 : zAt 135 21 m_M_part (.iload_n 1) 1 := ⟨hm_M_part, by decide +kernel⟩
theorem a_M_part_22 : zAt 135 22 m_M_part (.iconst 3) 1 := ⟨hm_M_part, by decide +kernel⟩
theorem a_M_part_23 : zAt 135 23 m_M_part (.iload_n 2) 1 := ⟨hm_M_part, by decide +kernel⟩
theorem a_M_part_24 : zAt 135 24 m_M_part (.iadd) 1 := ⟨hm_M_part, by decide +kernel⟩
theorem a_M_part_25 : zAt 135 25 m_M_part (.invokestatic 91) 3 := ⟨hm_M_part, by decide +kernel⟩
theorem a_M_part_28 : zAt 135 28 m_M_part (.iaload) 1 := ⟨hm_M_part, by decide +kernel⟩
theorem a_M_part_29 : zAt 135 29 m_M_part (.goto 5) 3 := ⟨hm_M_part, by decide +kernel⟩
theorem a_M_part_32 : zAt 135 32 m_M_part (.bipush (-11)) 2 := ⟨hm_M_part, by decide +kernel⟩
theorem a_M_part_34 : zAt 135 34 m_M_part (.ireturn) 1 := ⟨hm_M_part, by decide +kernel⟩
theorem B_M_part_0 {G : Nat → Nat → Int32} {x1 x2 : Int32} (z28_0 : (¬ ((bI (0 ≤ x1 ∧ x1 ≤ G 91 2 - 1)) = 0)) → (¬ ((bI (0 ≤ x2 ∧ x2 ≤ 3)) = 0)) → zin (63 + 22 * x1 + (3 + x2)) 327 = true) : zden 135 0 [.ref 90, .int x1, .int x2] [] (zSH, G) = if (bI (0 ≤ x1 ∧ x1 ≤ G 91 2 - 1)) = 0 then some (some (.int (-11)), (zSH, G)) else if (bI (0 ≤ x2 ∧ x2 ≤ 3)) = 0 then some (some (.int (-11)), (zSH, G)) else some (some (.int (G 91 (63 + 22 * x1 + (3 + x2)).toNatClampNeg)), (zSH, G)) :=
  (zd_aload_n a_M_part_0 rfl).trans ((zd_iload_n a_M_part_1 rfl).trans ((zd_cal (kd := 0) (tg := 130) (T := m_M_isGood) a_M_part_2 (by decide +kernel) hm_M_isGood rfl rfl rfl rfl).trans (((congrArg (zaft 135 5 [.ref 90, .int x1, .int x2] [] (zSH, G)) (ms_isGood)).trans zaft_same).trans ((zd_if_eq a_M_part_5 rfl).trans (zitc (fun p3 => (zd_bipush (v := (-11)) a_M_part_32 (by decide)).trans (zd_iret a_M_part_34 rfl (znr_int _))) (fun p3 => (zd_iload_n a_M_part_8 rfl).trans ((zd_iconst (v := 0) a_M_part_9 (by decide)).trans ((zd_iconst (v := 3) a_M_part_10 (by decide)).trans ((zd_cal (kd := 1) (tg := 110) (T := m_M_isIn) a_M_part_11 (by decide +kernel) hm_M_isIn rfl rfl rfl rfl).trans (((congrArg (zaft 135 14 [.ref 90, .int x1, .int x2] [] (zSH, G)) (ms_isIn)).trans zaft_same).trans ((zd_if_eq a_M_part_14 rfl).trans (zitc (fun p4 => (zd_bipush (v := (-11)) a_M_part_32 (by decide)).trans (zd_iret a_M_part_34 rfl (znr_int _))) (fun p4 => (zd_aload_n a_M_part_17 rfl).trans ((zd_getR (h := (zSH, G)) (ci := 8) (fi := 5) (a := 91) a_M_part_18 (by decide +kernel) sh_90 rfl rfl).trans ((zd_iload_n a_M_part_21 rfl).trans ((zd_iconst (v := 3) a_M_part_22 (by decide)).trans ((zd_iload_n a_M_part_23 rfl).trans ((zd_num (st2 := [.int (3 + x2), .int x1, .ref 91]) a_M_part_24 rfl rfl rfl rfl).trans ((zd_cal (kd := 1) (tg := 123) (T := m_M_of) a_M_part_25 (by decide +kernel) hm_M_of rfl rfl rfl rfl).trans (((congrArg (zaft 135 28 [.ref 90, .int x1, .int x2] [.ref 91] (zSH, G)) (ms_of)).trans zaft_same).trans ((zd_iald (h := (zSH, G)) a_M_part_28 sh_91 rfl).trans ((if_pos (z28_0 p3 p4)).trans ((zd_goto a_M_part_29 rfl).trans (zd_iret a_M_part_34 rfl (znr_int _)))))))))))))))))))))))))
theorem a_M_points_0 : zAt 136 0 m_M_points (.aload_n 0) 1 := ⟨hm_M_points, by decide +kernel⟩
theorem a_M_points_1 : zAt 136 1 m_M_points (.iload_n 1) 1 := ⟨hm_M_points, by decide +kernel⟩
theorem a_M_points_2 : zAt 136 2 m_M_points (.invokevirtual 114) 3 := ⟨hm_M_points, by decide +kernel⟩
theorem a_M_points_5 : zAt 136 5 m_M_points (.ifCond .eq 26) 3 := ⟨hm_M_points, by decide +kernel⟩
theorem a_M_points_8 : zAt 136 8 m_M_points (.iload_n 2) 1 := ⟨hm_M_points, by decide +kernel⟩
theorem a_M_points_9 : zAt 136 9 m_M_points (.invokestatic 118) 3 := ⟨hm_M_points, by decide +kernel⟩
theorem a_M_points_12 : zAt 136 12 m_M_points (.ifCond .eq 19) 3 := ⟨hm_M_points, by decide +kernel⟩
theorem a_M_points_15 : zAt 136 15 m_M_points (.aload_n 0) 1 := ⟨hm_M_points, by decide +kernel⟩
theorem a_M_points_16 : zAt 136 16 m_M_points (.getfield 7) 3 := ⟨hm_M_points, by decide +kernel⟩
theorem a_M_points_19 : zAt 136 19 m_M_points (.iload_n 1) 1 := ⟨hm_M_points, by decide +kernel⟩
theorem a_M_points_20 : zAt 136 20 m_M_points (.bipush 12) 2 := ⟨hm_M_points, by decide +kernel⟩
theorem a_M_points_22 : zAt 136 22 m_M_points (.iload_n 2) 1 := ⟨hm_M_points, by decide +kernel⟩
theorem a_M_points_23 : zAt 136 23 m_M_points (.iadd) 1 := ⟨hm_M_points, by decide +kernel⟩
theorem a_M_points_24 : zAt 136 24 m_M_points (.invokestatic 91) 3 := ⟨hm_M_points, by decide +kernel⟩
theorem a_M_points_27 : zAt 136 27 m_M_points (.iaload) 1 := ⟨hm_M_points, by decide +kernel⟩
theorem a_M_points_28 : zAt 136 28 m_M_points (.goto 5) 3 := ⟨hm_M_points, by decide +kernel⟩
theorem a_M_points_31 : zAt 136 31 m_M_points (.bipush (-11)) 2 := ⟨hm_M_points, by decide +kernel⟩
theorem a_M_points_33 : zAt 136 33 m_M_points (.ireturn) 1 := ⟨hm_M_points, by decide +kernel⟩
theorem B_M_points_0 {G : Nat → Nat → Int32} {x1 x2 : Int32} (z27_0 : (¬ ((bI (0 ≤ x1 ∧ x1 ≤ G 91 2 - 1)) = 0)) → (¬ ((bI (0 ≤ x2 ∧ x2 ≤ 4)) = 0)) → zin (63 + 22 * x1 + (12 + x2)) 327 = true) : zden 136 0 [.ref 90, .int x1, .int x2] [] (zSH, G) = if (bI (0 ≤ x1 ∧ x1 ≤ G 91 2 - 1)) = 0 then some (some (.int (-11)), (zSH, G)) else if (bI (0 ≤ x2 ∧ x2 ≤ 4)) = 0 then some (some (.int (-11)), (zSH, G)) else some (some (.int (G 91 (63 + 22 * x1 + (12 + x2)).toNatClampNeg)), (zSH, G)) :=
  (zd_aload_n a_M_points_0 rfl).trans ((zd_iload_n a_M_points_1 rfl).trans ((zd_cal (kd := 0) (tg := 130) (T := m_M_isGood) a_M_points_2 (by decide +kernel) hm_M_isGood rfl rfl rfl rfl).trans (((congrArg (zaft 136 5 [.ref 90, .int x1, .int x2] [] (zSH, G)) (ms_isGood)).trans zaft_same).trans ((zd_if_eq a_M_points_5 rfl).trans (zitc (fun p3 => (zd_bipush (v := (-11)) a_M_points_31 (by decide)).trans (zd_iret a_M_points_33 rfl (znr_int _))) (fun p3 => (zd_iload_n a_M_points_8 rfl).trans ((zd_cal (kd := 1) (tg := 131) (T := m_M_isCountry) a_M_points_9 (by decide +kernel) hm_M_isCountry rfl rfl rfl rfl).trans (((congrArg (zaft 136 12 [.ref 90, .int x1, .int x2] [] (zSH, G)) (ms_isCountry)).trans zaft_same).trans ((zd_if_eq a_M_points_12 rfl).trans (zitc (fun p4 => (zd_bipush (v := (-11)) a_M_points_31 (by decide)).trans (zd_iret a_M_points_33 rfl (znr_int _))) (fun p4 => (zd_aload_n a_M_points_15 rfl).trans ((zd_getR (h := (zSH, G)) (ci := 8) (fi := 5) (a := 91) a_M_points_16 (by decide +kernel) sh_90 rfl rfl).trans ((zd_iload_n a_M_points_19 rfl).trans ((zd_bipush (v := 12) a_M_points_20 (by decide)).trans ((zd_iload_n a_M_points_22 rfl).trans ((zd_num (st2 := [.int (12 + x2), .int x1, .ref 91]) a_M_points_23 rfl rfl rfl rfl).trans ((zd_cal (kd := 1) (tg := 123) (T := m_M_of) a_M_points_24 (by decide +kernel) hm_M_of rfl rfl rfl rfl).trans (((congrArg (zaft 136 27 [.ref 90, .int x1, .int x2] [.ref 91] (zSH, G)) (ms_of)).trans zaft_same).trans ((zd_iald (h := (zSH, G)) a_M_points_27 sh_91 rfl).trans ((if_pos (z27_0 p3 p4)).trans ((zd_goto a_M_points_28 rfl).trans (zd_iret a_M_points_33 rfl (znr_int _)))))))))))))))))))))))
theorem a_M_fit_0 : zAt 137 0 m_M_fit (.aload_n 0) 1 := ⟨hm_M_fit, by decide +kernel⟩
theorem a_M_fit_1 : zAt 137 1 m_M_fit (.iload_n 1) 1 := ⟨hm_M_fit, by decide +kernel⟩
theorem a_M_fit_2 : zAt 137 2 m_M_fit (.invokevirtual 114) 3 := ⟨hm_M_fit, by decide +kernel⟩
theorem a_M_fit_5 : zAt 137 5 m_M_fit (.ifCond .eq 12) 3 := ⟨hm_M_fit, by decide +kernel⟩
theorem a_M_fit_8 : zAt 137 8 m_M_fit (.aload_n 0) 1 := ⟨hm_M_fit, by decide +kernel⟩
theorem a_M_fit_9 : zAt 137 9 m_M_fit (.iload_n 1) 1 := ⟨hm_M_fit, by decide +kernel⟩
theorem a_M_fit_10 : zAt 137 10 m_M_fit (.iload_n 2) 1 := ⟨hm_M_fit, by decide +kernel⟩
theorem a_M_fit_11 : zAt 137 11 m_M_fit (.invokevirtual 104) 3 := ⟨hm_M_fit, by decide +kernel⟩
theorem a_M_fit_14 : zAt 137 14 m_M_fit (.goto 4) 3 := ⟨hm_M_fit, by decide +kernel⟩
theorem a_M_fit_17 : zAt 137 17 m_M_fit (.iconst (-1)) 1 := ⟨hm_M_fit, by decide +kernel⟩
theorem a_M_fit_18 : zAt 137 18 m_M_fit (.istore_n 3) 1 := ⟨hm_M_fit, by decide +kernel⟩
theorem a_M_fit_19 : zAt 137 19 m_M_fit (.iload_n 3) 1 := ⟨hm_M_fit, by decide +kernel⟩
theorem a_M_fit_20 : zAt 137 20 m_M_fit (.ifCond .ge 8) 3 := ⟨hm_M_fit, by decide +kernel⟩
theorem a_M_fit_23 : zAt 137 23 m_M_fit (.bipush (-11)) 2 := ⟨hm_M_fit, by decide +kernel⟩
theorem a_M_fit_25 : zAt 137 25 m_M_fit (.goto 9) 3 := ⟨hm_M_fit, by decide +kernel⟩
theorem a_M_fit_28 : zAt 137 28 m_M_fit (.aload_n 0) 1 := ⟨hm_M_fit, by decide +kernel⟩
theorem a_M_fit_29 : zAt 137 29 m_M_fit (.iload_n 3) 1 := ⟨hm_M_fit, by decide +kernel⟩
theorem a_M_fit_30 : zAt 137 30 m_M_fit (.iconst 0) 1 := ⟨hm_M_fit, by decide +kernel⟩
theorem a_M_fit_31 : zAt 137 31 m_M_fit (.invokevirtual 68) 3 := ⟨hm_M_fit, by decide +kernel⟩
theorem a_M_fit_34 : zAt 137 34 m_M_fit (.ireturn) 1 := ⟨hm_M_fit, by decide +kernel⟩
theorem B_M_fit_0 {G : Nat → Nat → Int32} {x1 x2 : Int32} : zden 137 0 [.ref 90, .int x1, .int x2, .retAddr 0] [] (zSH, G) = if (bI (0 ≤ x1 ∧ x1 ≤ G 91 2 - 1)) = 0 then zden 137 18 [.ref 90, .int x1, .int x2, .retAddr 0] [.int (-1)] (zSH, G) else zaft 137 14 [.ref 90, .int x1, .int x2, .retAddr 0] [] (zSH, G) (zden 120 0 [.ref 90, .int x1, .int x2, .retAddr 0, .retAddr 0, .retAddr 0] [] (zSH, G)) :=
  (zd_aload_n a_M_fit_0 rfl).trans ((zd_iload_n a_M_fit_1 rfl).trans ((zd_cal (kd := 0) (tg := 130) (T := m_M_isGood) a_M_fit_2 (by decide +kernel) hm_M_isGood rfl rfl rfl rfl).trans (((congrArg (zaft 137 5 [.ref 90, .int x1, .int x2, .retAddr 0] [] (zSH, G)) (ms_isGood)).trans zaft_same).trans ((zd_if_eq a_M_fit_5 rfl).trans (zitc (fun p4 => (zd_iconst (v := (-1)) a_M_fit_17 (by decide))) (fun p4 => (zd_aload_n a_M_fit_8 rfl).trans ((zd_iload_n a_M_fit_9 rfl).trans ((zd_iload_n a_M_fit_10 rfl).trans ((zd_cal (kd := 0) (tg := 120) (T := m_M_fitting) a_M_fit_11 (by decide +kernel) hm_M_fitting rfl rfl rfl rfl))))))))))
theorem B_M_fit_14 {G : Nat → Nat → Int32} {x1 x2 s0 : Int32} : zden 137 14 [.ref 90, .int x1, .int x2, .retAddr 0] [.int s0] (zSH, G) = zden 137 18 [.ref 90, .int x1, .int x2, .retAddr 0] [.int s0] (zSH, G) :=
  (zd_goto a_M_fit_14 rfl)
theorem B_M_fit_18 {G : Nat → Nat → Int32} {x1 x2 s0 : Int32} (z31_0 : (0 ≤ s0) → mhok G s0 0) : zden 137 18 [.ref 90, .int x1, .int x2, .retAddr 0] [.int s0] (zSH, G) = if 0 ≤ s0 then some (some (.int (mhead G s0 0)), (zSH, G)) else some (some (.int (-11)), (zSH, G)) :=
  (zd_istore_n a_M_fit_18 rfl rfl rfl).trans ((zd_iload_n a_M_fit_19 rfl).trans ((zd_if_ge a_M_fit_20 rfl).trans (zitc (fun p5 => (zd_aload_n a_M_fit_28 rfl).trans ((zd_iload_n a_M_fit_29 rfl).trans ((zd_iconst (v := 0) a_M_fit_30 (by decide)).trans ((zd_cal (kd := 0) (tg := 113) (T := m_M_head) a_M_fit_31 (by decide +kernel) hm_M_head rfl rfl rfl rfl).trans (((congrArg (zaft 137 34 [.ref 90, .int x1, .int x2, .int s0] [] (zSH, G)) (ms_head (z31_0 p5))).trans zaft_same).trans (zd_iret a_M_fit_34 rfl (znr_int _))))))) (fun p5 => (zd_bipush (v := (-11)) a_M_fit_23 (by decide)).trans ((zd_goto a_M_fit_25 rfl).trans (zd_iret a_M_fit_34 rfl (znr_int _)))))))
theorem a_M_fitAgain_0 : zAt 138 0 m_M_fitAgain (.aload_n 0) 1 := ⟨hm_M_fitAgain, by decide +kernel⟩
theorem a_M_fitAgain_1 : zAt 138 1 m_M_fitAgain (.iload_n 1) 1 := ⟨hm_M_fitAgain, by decide +kernel⟩
theorem a_M_fitAgain_2 : zAt 138 2 m_M_fitAgain (.iconst 0) 1 := ⟨hm_M_fitAgain, by decide +kernel⟩
theorem a_M_fitAgain_3 : zAt 138 3 m_M_fitAgain (.invokevirtual 131) 3 := ⟨hm_M_fitAgain, by decide +kernel⟩
theorem a_M_fitAgain_6 : zAt 138 6 m_M_fitAgain (.ireturn) 1 := ⟨hm_M_fitAgain, by decide +kernel⟩
theorem B_M_fitAgain_0 {G : Nat → Nat → Int32} {x1 : Int32} : zden 138 0 [.ref 90, .int x1] [] (zSH, G) = zaft 138 6 [.ref 90, .int x1] [] (zSH, G) (zden 137 0 [.ref 90, .int x1, .int 0, .retAddr 0] [] (zSH, G)) :=
  (zd_aload_n a_M_fitAgain_0 rfl).trans ((zd_iload_n a_M_fitAgain_1 rfl).trans ((zd_iconst (v := 0) a_M_fitAgain_2 (by decide)).trans ((zd_cal (kd := 0) (tg := 137) (T := m_M_fit) a_M_fitAgain_3 (by decide +kernel) hm_M_fit rfl rfl rfl rfl))))
theorem B_M_fitAgain_6 {G : Nat → Nat → Int32} {x1 s0 : Int32} : zden 138 6 [.ref 90, .int x1] [.int s0] (zSH, G) = some (some (.int s0), (zSH, G)) :=
  zd_iret a_M_fitAgain_6 rfl (znr_int _)
theorem a_M_why_0 : zAt 139 0 m_M_why (.aload_n 0) 1 := ⟨hm_M_why, by decide +kernel⟩
theorem a_M_why_1 : zAt 139 1 m_M_why (.iload_n 1) 1 := ⟨hm_M_why, by decide +kernel⟩
theorem a_M_why_2 : zAt 139 2 m_M_why (.invokevirtual 114) 3 := ⟨hm_M_why, by decide +kernel⟩
theorem a_M_why_5 : zAt 139 5 m_M_why (.ifCond .ne 6) 3 := ⟨hm_M_why, by decide +kernel⟩
theorem a_M_why_8 : zAt 139 8 m_M_why (.bipush (-11)) 2 := ⟨hm_M_why, by decide +kernel⟩
theorem a_M_why_10 : zAt 139 10 m_M_why (.ireturn) 1 := ⟨hm_M_why, by decide +kernel⟩
theorem a_M_why_11 : zAt 139 11 m_M_why (.aload_n 0) 1 := ⟨hm_M_why, by decide +kernel⟩
theorem a_M_why_12 : zAt 139 12 m_M_why (.iload_n 1) 1 := ⟨hm_M_why, by decide +kernel⟩
theorem a_M_why_13 : zAt 139 13 m_M_why (.iconst 0) 1 := ⟨hm_M_why, by decide +kernel⟩
theorem a_M_why_14 : zAt 139 14 m_M_why (.invokevirtual 104) 3 := ⟨hm_M_why, by decide +kernel⟩
theorem a_M_why_17 : zAt 139 17 m_M_why (.istore_n 2) 1 := ⟨hm_M_why, by decide +kernel⟩
theorem a_M_why_18 : zAt 139 18 m_M_why (.aload_n 0) 1 := ⟨hm_M_why, by decide +kernel⟩
theorem a_M_why_19 : zAt 139 19 m_M_why (.iload_n 1) 1 := ⟨hm_M_why, by decide +kernel⟩
theorem a_M_why_20 : zAt 139 20 m_M_why (.iconst 1) 1 := ⟨hm_M_why, by decide +kernel⟩
theorem a_M_why_21 : zAt 139 21 m_M_why (.invokevirtual 104) 3 := ⟨hm_M_why, by decide +kernel⟩
theorem a_M_why_24 : zAt 139 24 m_M_why (.istore_n 3) 1 := ⟨hm_M_why, by decide +kernel⟩
theorem a_M_why_25 : zAt 139 25 m_M_why (.iload_n 3) 1 := ⟨hm_M_why, by decide +kernel⟩
theorem a_M_why_26 : zAt 139 26 m_M_why (.ifCond .ge 5) 3 := ⟨hm_M_why, by decide +kernel⟩
theorem a_M_why_29 : zAt 139 29 m_M_why (.iconst 0) 1 := ⟨hm_M_why, by decide +kernel⟩
theorem a_M_why_30 : zAt 139 30 m_M_why (.ireturn) 1 := ⟨hm_M_why, by decide +kernel⟩
theorem a_M_why_31 : zAt 139 31 m_M_why (.aload_n 0) 1 := ⟨hm_M_why, by decide +kernel⟩
theorem a_M_why_32 : zAt 139 32 m_M_why (.iload_n 2) 1 := ⟨hm_M_why, by decide +kernel⟩
theorem a_M_why_33 : zAt 139 33 m_M_why (.iconst 1) 1 := ⟨hm_M_why, by decide +kernel⟩
theorem a_M_why_34 : zAt 139 34 m_M_why (.invokevirtual 68) 3 := ⟨hm_M_why, by decide +kernel⟩
theorem a_M_why_37 : zAt 139 37 m_M_why (.iconst 4) 1 := ⟨hm_M_why, by decide +kernel⟩
theorem a_M_why_38 : zAt 139 38 m_M_why (.if_icmp .ge 7) 3 := ⟨hm_M_why, by decide +kernel⟩
theorem a_M_why_41 : zAt 139 41 m_M_why (.iconst 1) 1 := ⟨hm_M_why, by decide +kernel⟩
theorem a_M_why_42 : zAt 139 42 m_M_why (.goto 4) 3 := ⟨hm_M_why, by decide +kernel⟩
theorem a_M_why_45 : zAt 139 45 m_M_why (.iconst 0) 1 := ⟨hm_M_why, by decide +kernel⟩
theorem a_M_why_46 : zAt 139 46 m_M_why (.aload_n 0) 1 := ⟨hm_M_why, by decide +kernel⟩
theorem a_M_why_47 : zAt 139 47 m_M_why (.iload_n 3) 1 := ⟨hm_M_why, by decide +kernel⟩
theorem a_M_why_48 : zAt 139 48 m_M_why (.iconst 1) 1 := ⟨hm_M_why, by decide +kernel⟩
theorem a_M_why_49 : zAt 139 49 m_M_why (.invokevirtual 68) 3 := ⟨hm_M_why, by decide +kernel⟩
theorem a_M_why_52 : zAt 139 52 m_M_why (.iconst 4) 1 := ⟨hm_M_why, by decide +kernel⟩
theorem a_M_why_53 : zAt 139 53 m_M_why (.if_icmp .ge 7) 3 := ⟨hm_M_why, by decide +kernel⟩
theorem a_M_why_56 : zAt 139 56 m_M_why (.iconst 1) 1 := ⟨hm_M_why, by decide +kernel⟩
theorem a_M_why_57 : zAt 139 57 m_M_why (.goto 4) 3 := ⟨hm_M_why, by decide +kernel⟩
theorem a_M_why_60 : zAt 139 60 m_M_why (.iconst 0) 1 := ⟨hm_M_why, by decide +kernel⟩
theorem a_M_why_61 : zAt 139 61 m_M_why (.if_icmp .eq 5) 3 := ⟨hm_M_why, by decide +kernel⟩
theorem a_M_why_64 : zAt 139 64 m_M_why (.iconst 1) 1 := ⟨hm_M_why, by decide +kernel⟩
theorem a_M_why_65 : zAt 139 65 m_M_why (.ireturn) 1 := ⟨hm_M_why, by decide +kernel⟩
theorem a_M_why_66 : zAt 139 66 m_M_why (.aload_n 0) 1 := ⟨hm_M_why, by decide +kernel⟩
theorem a_M_why_67 : zAt 139 67 m_M_why (.iload_n 2) 1 := ⟨hm_M_why, by decide +kernel⟩
theorem a_M_why_68 : zAt 139 68 m_M_why (.iconst 2) 1 := ⟨hm_M_why, by decide +kernel⟩
theorem a_M_why_69 : zAt 139 69 m_M_why (.invokevirtual 68) 3 := ⟨hm_M_why, by decide +kernel⟩
theorem a_M_why_72 : zAt 139 72 m_M_why (.iconst 3) 1 := ⟨hm_M_why, by decide +kernel⟩
theorem a_M_why_73 : zAt 139 73 m_M_why (.if_icmp .ge 7) 3 := ⟨hm_M_why, by decide +kernel⟩
theorem a_M_why_76 : zAt 139 76 m_M_why (.iconst 1) 1 := ⟨hm_M_why, by decide +kernel⟩
theorem a_M_why_77 : zAt 139 77 m_M_why (.goto 4) 3 := ⟨hm_M_why, by decide +kernel⟩
theorem a_M_why_80 : zAt 139 80 m_M_why (.iconst 0) 1 := ⟨hm_M_why, by decide +kernel⟩
theorem a_M_why_81 : zAt 139 81 m_M_why (.aload_n 0) 1 := ⟨hm_M_why, by decide +kernel⟩
theorem a_M_why_82 : zAt 139 82 m_M_why (.iload_n 3) 1 := ⟨hm_M_why, by decide +kernel⟩
theorem a_M_why_83 : zAt 139 83 m_M_why (.iconst 2) 1 := ⟨hm_M_why, by decide +kernel⟩
theorem a_M_why_84 : zAt 139 84 m_M_why (.invokevirtual 68) 3 := ⟨hm_M_why, by decide +kernel⟩
theorem a_M_why_87 : zAt 139 87 m_M_why (.iconst 3) 1 := ⟨hm_M_why, by decide +kernel⟩
theorem a_M_why_88 : zAt 139 88 m_M_why (.if_icmp .ge 7) 3 := ⟨hm_M_why, by decide +kernel⟩
theorem a_M_why_91 : zAt 139 91 m_M_why (.iconst 1) 1 := ⟨hm_M_why, by decide +kernel⟩
theorem a_M_why_92 : zAt 139 92 m_M_why (.goto 4) 3 := ⟨hm_M_why, by decide +kernel⟩
theorem a_M_why_95 : zAt 139 95 m_M_why (.iconst 0) 1 := ⟨hm_M_why, by decide +kernel⟩
theorem a_M_why_96 : zAt 139 96 m_M_why (.if_icmp .eq 5) 3 := ⟨hm_M_why, by decide +kernel⟩
theorem a_M_why_99 : zAt 139 99 m_M_why (.iconst 2) 1 := ⟨hm_M_why, by decide +kernel⟩
theorem a_M_why_100 : zAt 139 100 m_M_why (.ireturn) 1 := ⟨hm_M_why, by decide +kernel⟩
theorem a_M_why_101 : zAt 139 101 m_M_why (.aload_n 0) 1 := ⟨hm_M_why, by decide +kernel⟩
theorem a_M_why_102 : zAt 139 102 m_M_why (.iload_n 3) 1 := ⟨hm_M_why, by decide +kernel⟩
theorem a_M_why_103 : zAt 139 103 m_M_why (.iconst 0) 1 := ⟨hm_M_why, by decide +kernel⟩
theorem a_M_why_104 : zAt 139 104 m_M_why (.invokevirtual 68) 3 := ⟨hm_M_why, by decide +kernel⟩
theorem a_M_why_107 : zAt 139 107 m_M_why (.bipush 99) 2 := ⟨hm_M_why, by decide +kernel⟩
theorem a_M_why_109 : zAt 139 109 m_M_why (.if_icmp .ne 7) 3 := ⟨hm_M_why, by decide +kernel⟩
theorem a_M_why_112 : zAt 139 112 m_M_why (.iconst 4) 1 := ⟨hm_M_why, by decide +kernel⟩
theorem a_M_why_113 : zAt 139 113 m_M_why (.goto 4) 3 := ⟨hm_M_why, by decide +kernel⟩
theorem a_M_why_116 : zAt 139 116 m_M_why (.iconst 3) 1 := ⟨hm_M_why, by decide +kernel⟩
theorem a_M_why_117 : zAt 139 117 m_M_why (.ireturn) 1 := ⟨hm_M_why, by decide +kernel⟩
theorem B_M_why_0 {G : Nat → Nat → Int32} {x1 : Int32} : zden 139 0 [.ref 90, .int x1, .retAddr 0, .retAddr 0] [] (zSH, G) = if ¬ (bI (0 ≤ x1 ∧ x1 ≤ G 91 2 - 1)) = 0 then zaft 139 17 [.ref 90, .int x1, .retAddr 0, .retAddr 0] [] (zSH, G) (zden 120 0 [.ref 90, .int x1, .int 0, .retAddr 0, .retAddr 0, .retAddr 0] [] (zSH, G)) else some (some (.int (-11)), (zSH, G)) :=
  (zd_aload_n a_M_why_0 rfl).trans ((zd_iload_n a_M_why_1 rfl).trans ((zd_cal (kd := 0) (tg := 130) (T := m_M_isGood) a_M_why_2 (by decide +kernel) hm_M_isGood rfl rfl rfl rfl).trans (((congrArg (zaft 139 5 [.ref 90, .int x1, .retAddr 0, .retAddr 0] [] (zSH, G)) (ms_isGood)).trans zaft_same).trans ((zd_if_ne a_M_why_5 rfl).trans (zitc (fun p32 => (zd_aload_n a_M_why_11 rfl).trans ((zd_iload_n a_M_why_12 rfl).trans ((zd_iconst (v := 0) a_M_why_13 (by decide)).trans ((zd_cal (kd := 0) (tg := 120) (T := m_M_fitting) a_M_why_14 (by decide +kernel) hm_M_fitting rfl rfl rfl rfl))))) (fun p32 => (zd_bipush (v := (-11)) a_M_why_8 (by decide)).trans (zd_iret a_M_why_10 rfl (znr_int _))))))))
theorem B_M_why_17 {G : Nat → Nat → Int32} {x1 s0 : Int32} : zden 139 17 [.ref 90, .int x1, .retAddr 0, .retAddr 0] [.int s0] (zSH, G) = zaft 139 24 [.ref 90, .int x1, .int s0, .retAddr 0] [] (zSH, G) (zden 120 0 [.ref 90, .int x1, .int 1, .retAddr 0, .retAddr 0, .retAddr 0] [] (zSH, G)) :=
  (zd_istore_n a_M_why_17 rfl rfl rfl).trans ((zd_aload_n a_M_why_18 rfl).trans ((zd_iload_n a_M_why_19 rfl).trans ((zd_iconst (v := 1) a_M_why_20 (by decide)).trans ((zd_cal (kd := 0) (tg := 120) (T := m_M_fitting) a_M_why_21 (by decide +kernel) hm_M_fitting rfl rfl rfl rfl)))))
theorem B_M_why_24 {G : Nat → Nat → Int32} {x1 x2 s0 : Int32} (z34_0 : (0 ≤ s0) → mhok G x2 1) : zden 139 24 [.ref 90, .int x1, .int x2, .retAddr 0] [.int s0] (zSH, G) = if 0 ≤ s0 then if 4 ≤ (mhead G x2 1) then zden 139 46 [.ref 90, .int x1, .int x2, .int s0] [.int 0] (zSH, G) else zden 139 46 [.ref 90, .int x1, .int x2, .int s0] [.int 1] (zSH, G) else some (some (.int 0), (zSH, G)) :=
  (zd_istore_n a_M_why_24 rfl rfl rfl).trans ((zd_iload_n a_M_why_25 rfl).trans ((zd_if_ge a_M_why_26 rfl).trans (zitc (fun p33 => (zd_aload_n a_M_why_31 rfl).trans ((zd_iload_n a_M_why_32 rfl).trans ((zd_iconst (v := 1) a_M_why_33 (by decide)).trans ((zd_cal (kd := 0) (tg := 113) (T := m_M_head) a_M_why_34 (by decide +kernel) hm_M_head rfl rfl rfl rfl).trans (((congrArg (zaft 139 37 [.ref 90, .int x1, .int x2, .int s0] [] (zSH, G)) (ms_head (z34_0 p33))).trans zaft_same).trans ((zd_iconst (v := 4) a_M_why_37 (by decide)).trans ((zd_icmp_ge a_M_why_38 rfl).trans (zitc (fun p34 => (zd_iconst (v := 0) a_M_why_45 (by decide))) (fun p34 => (zd_iconst (v := 1) a_M_why_41 (by decide)).trans ((zd_goto a_M_why_42 rfl))))))))))) (fun p33 => (zd_iconst (v := 0) a_M_why_29 (by decide)).trans (zd_iret a_M_why_30 rfl (znr_int _))))))
theorem B_M_why_46 {G : Nat → Nat → Int32} {x1 x2 x3 s0 : Int32} (z49_0 : mhok G x3 1) : zden 139 46 [.ref 90, .int x1, .int x2, .int x3] [.int s0] (zSH, G) = if 4 ≤ (mhead G x3 1) then zden 139 61 [.ref 90, .int x1, .int x2, .int x3] [.int 0, .int s0] (zSH, G) else zden 139 61 [.ref 90, .int x1, .int x2, .int x3] [.int 1, .int s0] (zSH, G) :=
  (zd_aload_n a_M_why_46 rfl).trans ((zd_iload_n a_M_why_47 rfl).trans ((zd_iconst (v := 1) a_M_why_48 (by decide)).trans ((zd_cal (kd := 0) (tg := 113) (T := m_M_head) a_M_why_49 (by decide +kernel) hm_M_head rfl rfl rfl rfl).trans (((congrArg (zaft 139 52 [.ref 90, .int x1, .int x2, .int x3] [.int s0] (zSH, G)) (ms_head z49_0)).trans zaft_same).trans ((zd_iconst (v := 4) a_M_why_52 (by decide)).trans ((zd_icmp_ge a_M_why_53 rfl).trans (zitc (fun p35 => (zd_iconst (v := 0) a_M_why_60 (by decide))) (fun p35 => (zd_iconst (v := 1) a_M_why_56 (by decide)).trans ((zd_goto a_M_why_57 rfl))))))))))
theorem B_M_why_61 {G : Nat → Nat → Int32} {x1 x2 x3 s0 s1 : Int32} (z69_0 : (s1 = s0) → mhok G x2 2) : zden 139 61 [.ref 90, .int x1, .int x2, .int x3] [.int s0, .int s1] (zSH, G) = if s1 = s0 then if 3 ≤ (mhead G x2 2) then zden 139 81 [.ref 90, .int x1, .int x2, .int x3] [.int 0] (zSH, G) else zden 139 81 [.ref 90, .int x1, .int x2, .int x3] [.int 1] (zSH, G) else some (some (.int 1), (zSH, G)) :=
  (zd_icmp_eq a_M_why_61 rfl).trans (zitc (fun p36 => (zd_aload_n a_M_why_66 rfl).trans ((zd_iload_n a_M_why_67 rfl).trans ((zd_iconst (v := 2) a_M_why_68 (by decide)).trans ((zd_cal (kd := 0) (tg := 113) (T := m_M_head) a_M_why_69 (by decide +kernel) hm_M_head rfl rfl rfl rfl).trans (((congrArg (zaft 139 72 [.ref 90, .int x1, .int x2, .int x3] [] (zSH, G)) (ms_head (z69_0 p36))).trans zaft_same).trans ((zd_iconst (v := 3) a_M_why_72 (by decide)).trans ((zd_icmp_ge a_M_why_73 rfl).trans (zitc (fun p37 => (zd_iconst (v := 0) a_M_why_80 (by decide))) (fun p37 => (zd_iconst (v := 1) a_M_why_76 (by decide)).trans ((zd_goto a_M_why_77 rfl))))))))))) (fun p36 => (zd_iconst (v := 1) a_M_why_64 (by decide)).trans (zd_iret a_M_why_65 rfl (znr_int _))))
theorem B_M_why_81 {G : Nat → Nat → Int32} {x1 x2 x3 s0 : Int32} (z84_0 : mhok G x3 2) : zden 139 81 [.ref 90, .int x1, .int x2, .int x3] [.int s0] (zSH, G) = if 3 ≤ (mhead G x3 2) then zden 139 96 [.ref 90, .int x1, .int x2, .int x3] [.int 0, .int s0] (zSH, G) else zden 139 96 [.ref 90, .int x1, .int x2, .int x3] [.int 1, .int s0] (zSH, G) :=
  (zd_aload_n a_M_why_81 rfl).trans ((zd_iload_n a_M_why_82 rfl).trans ((zd_iconst (v := 2) a_M_why_83 (by decide)).trans ((zd_cal (kd := 0) (tg := 113) (T := m_M_head) a_M_why_84 (by decide +kernel) hm_M_head rfl rfl rfl rfl).trans (((congrArg (zaft 139 87 [.ref 90, .int x1, .int x2, .int x3] [.int s0] (zSH, G)) (ms_head z84_0)).trans zaft_same).trans ((zd_iconst (v := 3) a_M_why_87 (by decide)).trans ((zd_icmp_ge a_M_why_88 rfl).trans (zitc (fun p38 => (zd_iconst (v := 0) a_M_why_95 (by decide))) (fun p38 => (zd_iconst (v := 1) a_M_why_91 (by decide)).trans ((zd_goto a_M_why_92 rfl))))))))))
theorem B_M_why_96 {G : Nat → Nat → Int32} {x1 x2 x3 s0 s1 : Int32} (z104_0 : (s1 = s0) → mhok G x3 0) : zden 139 96 [.ref 90, .int x1, .int x2, .int x3] [.int s0, .int s1] (zSH, G) = if s1 = s0 then if ¬ (mhead G x3 0) = 99 then some (some (.int 3), (zSH, G)) else some (some (.int 4), (zSH, G)) else some (some (.int 2), (zSH, G)) :=
  (zd_icmp_eq a_M_why_96 rfl).trans (zitc (fun p39 => (zd_aload_n a_M_why_101 rfl).trans ((zd_iload_n a_M_why_102 rfl).trans ((zd_iconst (v := 0) a_M_why_103 (by decide)).trans ((zd_cal (kd := 0) (tg := 113) (T := m_M_head) a_M_why_104 (by decide +kernel) hm_M_head rfl rfl rfl rfl).trans (((congrArg (zaft 139 107 [.ref 90, .int x1, .int x2, .int x3] [] (zSH, G)) (ms_head (z104_0 p39))).trans zaft_same).trans ((zd_bipush (v := 99) a_M_why_107 (by decide)).trans ((zd_icmp_ne a_M_why_109 rfl).trans (zitc (fun p40 => (zd_iconst (v := 3) a_M_why_116 (by decide)).trans (zd_iret a_M_why_117 rfl (znr_int _))) (fun p40 => (zd_iconst (v := 4) a_M_why_112 (by decide)).trans ((zd_goto a_M_why_113 rfl).trans (zd_iret a_M_why_117 rfl (znr_int _)))))))))))) (fun p39 => (zd_iconst (v := 2) a_M_why_99 (by decide)).trans (zd_iret a_M_why_100 rfl (znr_int _))))
theorem a_M_favours_0 : zAt 141 0 m_M_favours (.iload_n 1) 1 := ⟨hm_M_favours, by decide +kernel⟩
theorem a_M_favours_1 : zAt 141 1 m_M_favours (.invokestatic 118) 3 := ⟨hm_M_favours, by decide +kernel⟩
theorem a_M_favours_4 : zAt 141 4 m_M_favours (.ifCond .ne 10) 3 := ⟨hm_M_favours, by decide +kernel⟩
theorem a_M_favours_7 : zAt 141 7 m_M_favours (.aload_n 0) 1 := ⟨hm_M_favours, by decide +kernel⟩
theorem a_M_favours_8 : zAt 141 8 m_M_favours (.bipush (-11)) 2 := ⟨hm_M_favours, by decide +kernel⟩
theorem a_M_favours_10 : zAt 141 10 m_M_favours (.invokevirtual 53) 3 := ⟨hm_M_favours, by decide +kernel⟩
theorem a_M_favours_13 : zAt 141 13 m_M_favours (.ireturn) 1 := ⟨hm_M_favours, by decide +kernel⟩
theorem a_M_favours_14 : zAt 141 14 m_M_favours (.iload_n 2) 1 := ⟨hm_M_favours, by decide +kernel⟩
theorem a_M_favours_15 : zAt 141 15 m_M_favours (.iconst 0) 1 := ⟨hm_M_favours, by decide +kernel⟩
theorem a_M_favours_16 : zAt 141 16 m_M_favours (.bipush 100) 2 := ⟨hm_M_favours, by decide +kernel⟩
theorem a_M_favours_18 : zAt 141 18 m_M_favours (.invokestatic 64) 3 := ⟨hm_M_favours, by decide +kernel⟩
theorem a_M_favours_21 : zAt 141 21 m_M_favours (.ifCond .ne 10) 3 := ⟨hm_M_favours, by decide +kernel⟩
theorem a_M_favours_24 : zAt 141 24 m_M_favours (.aload_n 0) 1 := ⟨hm_M_favours, by decide +kernel⟩
theorem a_M_favours_25 : zAt 141 25 m_M_favours (.bipush (-12)) 2 := ⟨hm_M_favours, by decide +kernel⟩
theorem a_M_favours_27 : zAt 141 27 m_M_favours (.invokevirtual 53) 3 := ⟨hm_M_favours, by decide +kernel⟩
theorem a_M_favours_30 : zAt 141 30 m_M_favours (.ireturn) 1 := ⟨hm_M_favours, by decide +kernel⟩
theorem a_M_favours_31 : zAt 141 31 m_M_favours (.aload_n 0) 1 := ⟨hm_M_favours, by decide +kernel⟩
theorem a_M_favours_32 : zAt 141 32 m_M_favours (.getfield 7) 3 := ⟨hm_M_favours, by decide +kernel⟩
theorem a_M_favours_35 : zAt 141 35 m_M_favours (.bipush 8) 2 := ⟨hm_M_favours, by decide +kernel⟩
theorem a_M_favours_37 : zAt 141 37 m_M_favours (.iload_n 1) 1 := ⟨hm_M_favours, by decide +kernel⟩
theorem a_M_favours_38 : zAt 141 38 m_M_favours (.iadd) 1 := ⟨hm_M_favours, by decide +kernel⟩
theorem a_M_favours_39 : zAt 141 39 m_M_favours (.iaload) 1 := ⟨hm_M_favours, by decide +kernel⟩
theorem a_M_favours_40 : zAt 141 40 m_M_favours (.istore_n 3) 1 := ⟨hm_M_favours, by decide +kernel⟩
theorem a_M_favours_41 : zAt 141 41 m_M_favours (.aload_n 0) 1 := ⟨hm_M_favours, by decide +kernel⟩
theorem a_M_favours_42 : zAt 141 42 m_M_favours (.getfield 7) 3 := ⟨hm_M_favours, by decide +kernel⟩
theorem a_M_favours_45 : zAt 141 45 m_M_favours (.bipush 8) 2 := ⟨hm_M_favours, by decide +kernel⟩
theorem a_M_favours_47 : zAt 141 47 m_M_favours (.iload_n 1) 1 := ⟨hm_M_favours, by decide +kernel⟩
theorem a_M_favours_48 : zAt 141 48 m_M_favours (.iadd) 1 := ⟨hm_M_favours, by decide +kernel⟩
theorem a_M_favours_49 : zAt 141 49 m_M_favours (.iload_n 2) 1 := ⟨hm_M_favours, by decide +kernel⟩
theorem a_M_favours_50 : zAt 141 50 m_M_favours (.iastore) 1 := ⟨hm_M_favours, by decide +kernel⟩
theorem a_M_favours_51 : zAt 141 51 m_M_favours (.iload_n 3) 1 := ⟨hm_M_favours, by decide +kernel⟩
theorem a_M_favours_52 : zAt 141 52 m_M_favours (.ireturn) 1 := ⟨hm_M_favours, by decide +kernel⟩
theorem B_M_favours_0 {G : Nat → Nat → Int32} {x1 x2 : Int32} (z39_0 : (¬ (bI (0 ≤ x1 ∧ x1 ≤ 4)) = 0) → (¬ (bI (0 ≤ x2 ∧ x2 ≤ 100)) = 0) → zin (8 + x1) 327 = true) : zden 141 0 [.ref 90, .int x1, .int x2, .retAddr 0] [] (zSH, G) = if ¬ (bI (0 ≤ x1 ∧ x1 ≤ 4)) = 0 then if ¬ (bI (0 ≤ x2 ∧ x2 ≤ 100)) = 0 then some (some (.int (G 91 (8 + x1).toNatClampNeg)), (zSH, (zup G 91 (8 + x1).toNatClampNeg x2))) else some (some (.int (-12)), (zSH, (zup G 90 0 (-12)))) else some (some (.int (-11)), (zSH, (zup G 90 0 (-11)))) :=
  (zd_iload_n a_M_favours_0 rfl).trans ((zd_cal (kd := 1) (tg := 131) (T := m_M_isCountry) a_M_favours_1 (by decide +kernel) hm_M_isCountry rfl rfl rfl rfl).trans (((congrArg (zaft 141 4 [.ref 90, .int x1, .int x2, .retAddr 0] [] (zSH, G)) (ms_isCountry)).trans zaft_same).trans ((zd_if_ne a_M_favours_4 rfl).trans (zitc (fun p3 => (zd_iload_n a_M_favours_14 rfl).trans ((zd_iconst (v := 0) a_M_favours_15 (by decide)).trans ((zd_bipush (v := 100) a_M_favours_16 (by decide)).trans ((zd_cal (kd := 1) (tg := 110) (T := m_M_isIn) a_M_favours_18 (by decide +kernel) hm_M_isIn rfl rfl rfl rfl).trans (((congrArg (zaft 141 21 [.ref 90, .int x1, .int x2, .retAddr 0] [] (zSH, G)) (ms_isIn)).trans zaft_same).trans ((zd_if_ne a_M_favours_21 rfl).trans (zitc (fun p4 => (zd_aload_n a_M_favours_31 rfl).trans ((zd_getR (h := (zSH, G)) (ci := 8) (fi := 5) (a := 91) a_M_favours_32 (by decide +kernel) sh_90 rfl rfl).trans ((zd_bipush (v := 8) a_M_favours_35 (by decide)).trans ((zd_iload_n a_M_favours_37 rfl).trans ((zd_num (st2 := [.int (8 + x1), .ref 91]) a_M_favours_38 rfl rfl rfl rfl).trans ((zd_iald (h := (zSH, G)) a_M_favours_39 sh_91 rfl).trans ((if_pos (z39_0 p3 p4)).trans ((zd_istore_n a_M_favours_40 rfl rfl rfl).trans ((zd_aload_n a_M_favours_41 rfl).trans ((zd_getR (h := (zSH, G)) (ci := 8) (fi := 5) (a := 91) a_M_favours_42 (by decide +kernel) sh_90 rfl rfl).trans ((zd_bipush (v := 8) a_M_favours_45 (by decide)).trans ((zd_iload_n a_M_favours_47 rfl).trans ((zd_num (st2 := [.int (8 + x1), .ref 91]) a_M_favours_48 rfl rfl rfl rfl).trans ((zd_iload_n a_M_favours_49 rfl).trans ((zd_iast (h := (zSH, G)) a_M_favours_50 sh_91).trans ((if_pos (z39_0 p3 p4)).trans ((zd_iload_n a_M_favours_51 rfl).trans (zd_iret a_M_favours_52 rfl (znr_int _))))))))))))))))))) (fun p4 => (zd_aload_n a_M_favours_24 rfl).trans ((zd_bipush (v := (-12)) a_M_favours_25 (by decide)).trans ((zd_cal (kd := 0) (tg := 111) (T := m_M_fail) a_M_favours_27 (by decide +kernel) hm_M_fail rfl rfl rfl rfl).trans (((congrArg (zaft 141 30 [.ref 90, .int x1, .int x2, .retAddr 0] [] (zSH, G)) (ms_fail)).trans zaft_same).trans (zd_iret a_M_favours_30 rfl (znr_int _))))))))))))) (fun p3 => (zd_aload_n a_M_favours_7 rfl).trans ((zd_bipush (v := (-11)) a_M_favours_8 (by decide)).trans ((zd_cal (kd := 0) (tg := 111) (T := m_M_fail) a_M_favours_10 (by decide +kernel) hm_M_fail rfl rfl rfl rfl).trans (((congrArg (zaft 141 13 [.ref 90, .int x1, .int x2, .retAddr 0] [] (zSH, G)) (ms_fail)).trans zaft_same).trans (zd_iret a_M_favours_13 rfl (znr_int _))))))))))
theorem a_M_gives_0 : zAt 143 0 m_M_gives (.iload_n 1) 1 := ⟨hm_M_gives, by decide +kernel⟩
theorem a_M_gives_1 : zAt 143 1 m_M_gives (.iconst 1) 1 := ⟨hm_M_gives, by decide +kernel⟩
theorem a_M_gives_2 : zAt 143 2 m_M_gives (.sipush 9999) 3 := ⟨hm_M_gives, by decide +kernel⟩
theorem a_M_gives_5 : zAt 143 5 m_M_gives (.invokestatic 64) 3 := ⟨hm_M_gives, by decide +kernel⟩
theorem a_M_gives_8 : zAt 143 8 m_M_gives (.ifCond .ne 10) 3 := ⟨hm_M_gives, by decide +kernel⟩
theorem a_M_gives_11 : zAt 143 11 m_M_gives (.aload_n 0) 1 := ⟨hm_M_gives, by decide +kernel⟩
theorem a_M_gives_12 : zAt 143 12 m_M_gives (.bipush (-12)) 2 := ⟨hm_M_gives, by decide +kernel⟩
theorem a_M_gives_14 : zAt 143 14 m_M_gives (.invokevirtual 53) 3 := ⟨hm_M_gives, by decide +kernel⟩
theorem a_M_gives_17 : zAt 143 17 m_M_gives (.ireturn) 1 := ⟨hm_M_gives, by decide +kernel⟩
theorem a_M_gives_18 : zAt 143 18 m_M_gives (.aload_n 0) 1 := ⟨hm_M_gives, by decide +kernel⟩
theorem a_M_gives_19 : zAt 143 19 m_M_gives (.getfield 7) 3 := ⟨hm_M_gives, by decide +kernel⟩
theorem a_M_gives_22 : zAt 143 22 m_M_gives (.iconst 3) 1 := ⟨hm_M_gives, by decide +kernel⟩
theorem a_M_gives_23 : zAt 143 23 m_M_gives (.dup2) 1 := ⟨hm_M_gives, by decide +kernel⟩
theorem a_M_gives_24 : zAt 143 24 m_M_gives (.iaload) 1 := ⟨hm_M_gives, by decide +kernel⟩
theorem a_M_gives_25 : zAt 143 25 m_M_gives (.iload_n 1) 1 := ⟨hm_M_gives, by decide +kernel⟩
theorem a_M_gives_26 : zAt 143 26 m_M_gives (.iadd) 1 := ⟨hm_M_gives, by decide +kernel⟩
theorem a_M_gives_27 : zAt 143 27 m_M_gives (.iastore) 1 := ⟨hm_M_gives, by decide +kernel⟩
theorem a_M_gives_28 : zAt 143 28 m_M_gives (.aload_n 0) 1 := ⟨hm_M_gives, by decide +kernel⟩
theorem a_M_gives_29 : zAt 143 29 m_M_gives (.getfield 7) 3 := ⟨hm_M_gives, by decide +kernel⟩
theorem a_M_gives_32 : zAt 143 32 m_M_gives (.iconst 4) 1 := ⟨hm_M_gives, by decide +kernel⟩
theorem a_M_gives_33 : zAt 143 33 m_M_gives (.dup2) 1 := ⟨hm_M_gives, by decide +kernel⟩
theorem a_M_gives_34 : zAt 143 34 m_M_gives (.iaload) 1 := ⟨hm_M_gives, by decide +kernel⟩
theorem a_M_gives_35 : zAt 143 35 m_M_gives (.iload_n 1) 1 := ⟨hm_M_gives, by decide +kernel⟩
theorem a_M_gives_36 : zAt 143 36 m_M_gives (.iadd) 1 := ⟨hm_M_gives, by decide +kernel⟩
theorem a_M_gives_37 : zAt 143 37 m_M_gives (.iastore) 1 := ⟨hm_M_gives, by decide +kernel⟩
theorem a_M_gives_38 : zAt 143 38 m_M_gives (.aload_n 0) 1 := ⟨hm_M_gives, by decide +kernel⟩
theorem a_M_gives_39 : zAt 143 39 m_M_gives (.getfield 7) 3 := ⟨hm_M_gives, by decide +kernel⟩
theorem a_M_gives_42 : zAt 143 42 m_M_gives (.iconst 3) 1 := ⟨hm_M_gives, by decide +kernel⟩
theorem a_M_gives_43 : zAt 143 43 m_M_gives (.iaload) 1 := ⟨hm_M_gives, by decide +kernel⟩
theorem a_M_gives_44 : zAt 143 44 m_M_gives (.ireturn) 1 := ⟨hm_M_gives, by decide +kernel⟩
theorem B_M_gives_0 {G : Nat → Nat → Int32} {x1 : Int32} : zden 143 0 [.ref 90, .int x1] [] (zSH, G) = if ¬ (bI (1 ≤ x1 ∧ x1 ≤ 9999)) = 0 then some (some (.int ((zup (zup G 91 3 ((G 91 3) + x1)) 91 4 (((zup G 91 3 ((G 91 3) + x1)) 91 4) + x1)) 91 3)), (zSH, (zup (zup G 91 3 ((G 91 3) + x1)) 91 4 (((zup G 91 3 ((G 91 3) + x1)) 91 4) + x1)))) else some (some (.int (-12)), (zSH, (zup G 90 0 (-12)))) :=
  (zd_iload_n a_M_gives_0 rfl).trans ((zd_iconst (v := 1) a_M_gives_1 (by decide)).trans ((zd_sipush (v := 9999) a_M_gives_2 (by decide)).trans ((zd_cal (kd := 1) (tg := 110) (T := m_M_isIn) a_M_gives_5 (by decide +kernel) hm_M_isIn rfl rfl rfl rfl).trans (((congrArg (zaft 143 8 [.ref 90, .int x1] [] (zSH, G)) (ms_isIn)).trans zaft_same).trans ((zd_if_ne a_M_gives_8 rfl).trans (zitc (fun p2 => (zd_aload_n a_M_gives_18 rfl).trans ((zd_getR (h := (zSH, G)) (ci := 8) (fi := 5) (a := 91) a_M_gives_19 (by decide +kernel) sh_90 rfl rfl).trans ((zd_iconst (v := 3) a_M_gives_22 (by decide)).trans ((zd_num (st2 := [.int 3, .ref 91, .int 3, .ref 91]) a_M_gives_23 rfl rfl rfl rfl).trans ((zd_iald (h := (zSH, G)) a_M_gives_24 sh_91 rfl).trans ((if_pos (by decide)).trans ((zd_iload_n a_M_gives_25 rfl).trans ((zd_num (st2 := [.int ((G 91 3) + x1), .int 3, .ref 91]) a_M_gives_26 rfl rfl rfl rfl).trans ((zd_iast (h := (zSH, G)) a_M_gives_27 sh_91).trans ((if_pos (by decide)).trans ((zd_aload_n a_M_gives_28 rfl).trans ((zd_getR (h := (zSH, (zup G 91 3 ((G 91 3) + x1)))) (ci := 8) (fi := 5) (a := 91) a_M_gives_29 (by decide +kernel) sh_90 rfl rfl).trans ((zd_iconst (v := 4) a_M_gives_32 (by decide)).trans ((zd_num (st2 := [.int 4, .ref 91, .int 4, .ref 91]) a_M_gives_33 rfl rfl rfl rfl).trans ((zd_iald (h := (zSH, (zup G 91 3 ((G 91 3) + x1)))) a_M_gives_34 sh_91 rfl).trans ((if_pos (by decide)).trans ((zd_iload_n a_M_gives_35 rfl).trans ((zd_num (st2 := [.int (((zup G 91 3 ((G 91 3) + x1)) 91 4) + x1), .int 4, .ref 91]) a_M_gives_36 rfl rfl rfl rfl).trans ((zd_iast (h := (zSH, (zup G 91 3 ((G 91 3) + x1)))) a_M_gives_37 sh_91).trans ((if_pos (by decide)).trans ((zd_aload_n a_M_gives_38 rfl).trans ((zd_getR (h := (zSH, (zup (zup G 91 3 ((G 91 3) + x1)) 91 4 (((zup G 91 3 ((G 91 3) + x1)) 91 4) + x1)))) (ci := 8) (fi := 5) (a := 91) a_M_gives_39 (by decide +kernel) sh_90 rfl rfl).trans ((zd_iconst (v := 3) a_M_gives_42 (by decide)).trans ((zd_iald (h := (zSH, (zup (zup G 91 3 ((G 91 3) + x1)) 91 4 (((zup G 91 3 ((G 91 3) + x1)) 91 4) + x1)))) a_M_gives_43 sh_91 rfl).trans ((if_pos (by decide)).trans (zd_iret a_M_gives_44 rfl (znr_int _))))))))))))))))))))))))))) (fun p2 => (zd_aload_n a_M_gives_11 rfl).trans ((zd_bipush (v := (-12)) a_M_gives_12 (by decide)).trans ((zd_cal (kd := 0) (tg := 111) (T := m_M_fail) a_M_gives_14 (by decide +kernel) hm_M_fail rfl rfl rfl rfl).trans (((congrArg (zaft 143 17 [.ref 90, .int x1] [] (zSH, G)) (ms_fail)).trans zaft_same).trans (zd_iret a_M_gives_17 rfl (znr_int _))))))))))))
theorem a_M_enters_0 : zAt 145 0 m_M_enters (.aload_n 0) 1 := ⟨hm_M_enters, by decide +kernel⟩
theorem a_M_enters_1 : zAt 145 1 m_M_enters (.iload_n 1) 1 := ⟨hm_M_enters, by decide +kernel⟩
theorem a_M_enters_2 : zAt 145 2 m_M_enters (.invokevirtual 114) 3 := ⟨hm_M_enters, by decide +kernel⟩
theorem a_M_enters_5 : zAt 145 5 m_M_enters (.ifCond .ne 10) 3 := ⟨hm_M_enters, by decide +kernel⟩
theorem a_M_enters_8 : zAt 145 8 m_M_enters (.aload_n 0) 1 := ⟨hm_M_enters, by decide +kernel⟩
theorem a_M_enters_9 : zAt 145 9 m_M_enters (.bipush (-11)) 2 := ⟨hm_M_enters, by decide +kernel⟩
theorem a_M_enters_11 : zAt 145 11 m_M_enters (.invokevirtual 53) 3 := ⟨hm_M_enters, by decide +kernel⟩
theorem a_M_enters_14 : zAt 145 14 m_M_enters (.ireturn) 1 := ⟨hm_M_enters, by decide +kernel⟩
theorem a_M_enters_15 : zAt 145 15 m_M_enters (.aload_n 0) 1 := ⟨hm_M_enters, by decide +kernel⟩
theorem a_M_enters_16 : zAt 145 16 m_M_enters (.getfield 7) 3 := ⟨hm_M_enters, by decide +kernel⟩
theorem a_M_enters_19 : zAt 145 19 m_M_enters (.iload_n 1) 1 := ⟨hm_M_enters, by decide +kernel⟩
theorem a_M_enters_20 : zAt 145 20 m_M_enters (.bipush 7) 2 := ⟨hm_M_enters, by decide +kernel⟩
theorem a_M_enters_22 : zAt 145 22 m_M_enters (.invokestatic 91) 3 := ⟨hm_M_enters, by decide +kernel⟩
theorem a_M_enters_25 : zAt 145 25 m_M_enters (.iaload) 1 := ⟨hm_M_enters, by decide +kernel⟩
theorem a_M_enters_26 : zAt 145 26 m_M_enters (.ifCond .eq 20) 3 := ⟨hm_M_enters, by decide +kernel⟩
theorem a_M_enters_29 : zAt 145 29 m_M_enters (.aload_n 0) 1 := ⟨hm_M_enters, by decide +kernel⟩
theorem a_M_enters_30 : zAt 145 30 m_M_enters (.iconst 3) 1 := ⟨hm_M_enters, by decide +kernel⟩
theorem a_M_enters_31 : zAt 145 31 m_M_enters (.aload_n 0) 1 := ⟨hm_M_enters, by decide +kernel⟩
theorem a_M_enters_32 : zAt 145 32 m_M_enters (.getfield 7) 3 := ⟨hm_M_enters, by decide +kernel⟩
theorem a_M_enters_35 : zAt 145 35 m_M_enters (.iload_n 1) 1 := ⟨hm_M_enters, by decide +kernel⟩
theorem a_M_enters_36 : zAt 145 36 m_M_enters (.bipush 7) 2 := ⟨hm_M_enters, by decide +kernel⟩
theorem a_M_enters_38 : zAt 145 38 m_M_enters (.invokestatic 91) 3 := ⟨hm_M_enters, by decide +kernel⟩
theorem a_M_enters_41 : zAt 145 41 m_M_enters (.iaload) 1 := ⟨hm_M_enters, by decide +kernel⟩
theorem a_M_enters_42 : zAt 145 42 m_M_enters (.invokevirtual 75) 3 := ⟨hm_M_enters, by decide +kernel⟩
theorem a_M_enters_45 : zAt 145 45 m_M_enters (.ireturn) 1 := ⟨hm_M_enters, by decide +kernel⟩
theorem a_M_enters_46 : zAt 145 46 m_M_enters (.aload_n 0) 1 := ⟨hm_M_enters, by decide +kernel⟩
theorem a_M_enters_47 : zAt 145 47 m_M_enters (.getfield 7) 3 := ⟨hm_M_enters, by decide +kernel⟩
theorem a_M_enters_50 : zAt 145 50 m_M_enters (.iload_n 1) 1 := ⟨hm_M_enters, by decide +kernel⟩
theorem a_M_enters_51 : zAt 145 51 m_M_enters (.bipush 11) 2 := ⟨hm_M_enters, by decide +kernel⟩
theorem a_M_enters_53 : zAt 145 53 m_M_enters (.invokestatic 91) 3 := ⟨hm_M_enters, by decide +kernel⟩
theorem a_M_enters_56 : zAt 145 56 m_M_enters (.iaload) 1 := ⟨hm_M_enters, by decide +kernel⟩
theorem a_M_enters_57 : zAt 145 57 m_M_enters (.ifCond .ne 10) 3 := ⟨hm_M_enters, by decide +kernel⟩
theorem a_M_enters_60 : zAt 145 60 m_M_enters (.aload_n 0) 1 := ⟨hm_M_enters, by decide +kernel⟩
theorem a_M_enters_61 : zAt 145 61 m_M_enters (.iconst 4) 1 := ⟨hm_M_enters, by decide +kernel⟩
theorem a_M_enters_62 : zAt 145 62 m_M_enters (.iload_n 1) 1 := ⟨hm_M_enters, by decide +kernel⟩
theorem a_M_enters_63 : zAt 145 63 m_M_enters (.invokevirtual 75) 3 := ⟨hm_M_enters, by decide +kernel⟩
theorem a_M_enters_66 : zAt 145 66 m_M_enters (.ireturn) 1 := ⟨hm_M_enters, by decide +kernel⟩
theorem a_M_enters_67 : zAt 145 67 m_M_enters (.aload_n 0) 1 := ⟨hm_M_enters, by decide +kernel⟩
theorem a_M_enters_68 : zAt 145 68 m_M_enters (.iload_n 1) 1 := ⟨hm_M_enters, by decide +kernel⟩
theorem a_M_enters_69 : zAt 145 69 m_M_enters (.aload_n 0) 1 := ⟨hm_M_enters, by decide +kernel⟩
theorem a_M_enters_70 : zAt 145 70 m_M_enters (.iload_n 1) 1 := ⟨hm_M_enters, by decide +kernel⟩
theorem a_M_enters_71 : zAt 145 71 m_M_enters (.invokevirtual 125) 3 := ⟨hm_M_enters, by decide +kernel⟩
theorem a_M_enters_74 : zAt 145 74 m_M_enters (.invokevirtual 128) 3 := ⟨hm_M_enters, by decide +kernel⟩
theorem a_M_enters_77 : zAt 145 77 m_M_enters (.istore_n 2) 1 := ⟨hm_M_enters, by decide +kernel⟩
theorem a_M_enters_78 : zAt 145 78 m_M_enters (.iload_n 2) 1 := ⟨hm_M_enters, by decide +kernel⟩
theorem a_M_enters_79 : zAt 145 79 m_M_enters (.aload_n 0) 1 := ⟨hm_M_enters, by decide +kernel⟩
theorem a_M_enters_80 : zAt 145 80 m_M_enters (.getfield 7) 3 := ⟨hm_M_enters, by decide +kernel⟩
theorem a_M_enters_83 : zAt 145 83 m_M_enters (.iconst 3) 1 := ⟨hm_M_enters, by decide +kernel⟩
theorem a_M_enters_84 : zAt 145 84 m_M_enters (.iaload) 1 := ⟨hm_M_enters, by decide +kernel⟩
theorem a_M_enters_85 : zAt 145 85 m_M_enters (.if_icmp .le 17) 3 := ⟨hm_M_enters, by decide +kernel⟩
theorem a_M_enters_88 : zAt 145 88 m_M_enters (.aload_n 0) 1 := ⟨hm_M_enters, by decide +kernel⟩
theorem a_M_enters_89 : zAt 145 89 m_M_enters (.iconst 5) 1 := ⟨hm_M_enters, by decide +kernel⟩
theorem a_M_enters_90 : zAt 145 90 m_M_enters (.iload_n 2) 1 := ⟨hm_M_enters, by decide +kernel⟩
theorem a_M_enters_91 : zAt 145 91 m_M_enters (.aload_n 0) 1 := ⟨hm_M_enters, by decide +kernel⟩
theorem a_M_enters_92 : zAt 145 92 m_M_enters (.getfield 7) 3 := ⟨hm_M_enters, by decide +kernel⟩
theorem a_M_enters_95 : zAt 145 95 m_M_enters (.iconst 3) 1 := ⟨hm_M_enters, by decide +kernel⟩
theorem a_M_enters_96 : zAt 145 96 m_M_enters (.iaload) 1 := ⟨hm_M_enters, by decide +kernel⟩
theorem a_M_enters_97 : zAt 145 97 m_M_enters (.isub) 1 := ⟨hm_M_enters, by decide +kernel⟩
theorem a_M_enters_98 : zAt 145 98 m_M_enters (.invokevirtual 75) 3 := ⟨hm_M_enters, by decide +kernel⟩
theorem a_M_enters_101 : zAt 145 101 m_M_enters (.ireturn) 1 := ⟨hm_M_enters, by decide +kernel⟩
theorem a_M_enters_102 : zAt 145 102 m_M_enters (.aload_n 0) 1 := ⟨hm_M_enters, by decide +kernel⟩
theorem a_M_enters_103 : zAt 145 103 m_M_enters (.getfield 7) 3 := ⟨hm_M_enters, by decide +kernel⟩
theorem a_M_enters_106 : zAt 145 106 m_M_enters (.iconst 3) 1 := ⟨hm_M_enters, by decide +kernel⟩
theorem a_M_enters_107 : zAt 145 107 m_M_enters (.dup2) 1 := ⟨hm_M_enters, by decide +kernel⟩
theorem a_M_enters_108 : zAt 145 108 m_M_enters (.iaload) 1 := ⟨hm_M_enters, by decide +kernel⟩
theorem a_M_enters_109 : zAt 145 109 m_M_enters (.iload_n 2) 1 := ⟨hm_M_enters, by decide +kernel⟩
theorem a_M_enters_110 : zAt 145 110 m_M_enters (.isub) 1 := ⟨hm_M_enters, by decide +kernel⟩
theorem a_M_enters_111 : zAt 145 111 m_M_enters (.iastore) 1 := ⟨hm_M_enters, by decide +kernel⟩
theorem a_M_enters_112 : zAt 145 112 m_M_enters (.aload_n 0) 1 := ⟨hm_M_enters, by decide +kernel⟩
theorem a_M_enters_113 : zAt 145 113 m_M_enters (.getfield 7) 3 := ⟨hm_M_enters, by decide +kernel⟩
theorem a_M_enters_116 : zAt 145 116 m_M_enters (.iconst 5) 1 := ⟨hm_M_enters, by decide +kernel⟩
theorem a_M_enters_117 : zAt 145 117 m_M_enters (.dup2) 1 := ⟨hm_M_enters, by decide +kernel⟩
theorem a_M_enters_118 : zAt 145 118 m_M_enters (.iaload) 1 := ⟨hm_M_enters, by decide +kernel⟩
theorem a_M_enters_119 : zAt 145 119 m_M_enters (.iload_n 2) 1 := ⟨hm_M_enters, by decide +kernel⟩
theorem a_M_enters_120 : zAt 145 120 m_M_enters (.iadd) 1 := ⟨hm_M_enters, by decide +kernel⟩
theorem a_M_enters_121 : zAt 145 121 m_M_enters (.iastore) 1 := ⟨hm_M_enters, by decide +kernel⟩
theorem a_M_enters_122 : zAt 145 122 m_M_enters (.aload_n 0) 1 := ⟨hm_M_enters, by decide +kernel⟩
theorem a_M_enters_123 : zAt 145 123 m_M_enters (.getfield 7) 3 := ⟨hm_M_enters, by decide +kernel⟩
theorem a_M_enters_126 : zAt 145 126 m_M_enters (.iload_n 1) 1 := ⟨hm_M_enters, by decide +kernel⟩
theorem a_M_enters_127 : zAt 145 127 m_M_enters (.bipush 8) 2 := ⟨hm_M_enters, by decide +kernel⟩
theorem a_M_enters_129 : zAt 145 129 m_M_enters (.invokestatic 91) 3 := ⟨hm_M_enters, by decide +kernel⟩
theorem a_M_enters_132 : zAt 145 132 m_M_enters (.iload_n 2) 1 := ⟨hm_M_enters, by decide +kernel⟩
theorem a_M_enters_133 : zAt 145 133 m_M_enters (.iastore) 1 := ⟨hm_M_enters, by decide +kernel⟩
theorem a_M_enters_134 : zAt 145 134 m_M_enters (.aload_n 0) 1 := ⟨hm_M_enters, by decide +kernel⟩
theorem a_M_enters_135 : zAt 145 135 m_M_enters (.getfield 7) 3 := ⟨hm_M_enters, by decide +kernel⟩
theorem a_M_enters_138 : zAt 145 138 m_M_enters (.iload_n 1) 1 := ⟨hm_M_enters, by decide +kernel⟩
theorem a_M_enters_139 : zAt 145 139 m_M_enters (.bipush 7) 2 := ⟨hm_M_enters, by decide +kernel⟩
theorem a_M_enters_141 : zAt 145 141 m_M_enters (.invokestatic 91) 3 := ⟨hm_M_enters, by decide +kernel⟩
theorem a_M_enters_144 : zAt 145 144 m_M_enters (.iconst 1) 1 := ⟨hm_M_enters, by decide +kernel⟩
theorem a_M_enters_145 : zAt 145 145 m_M_enters (.iastore) 1 := ⟨hm_M_enters, by decide +kernel⟩
theorem a_M_enters_146 : zAt 145 146 m_M_enters (.aload_n 0) 1 := ⟨hm_M_enters, by decide +kernel⟩
theorem a_M_enters_147 : zAt 145 147 m_M_enters (.getfield 7) 3 := ⟨hm_M_enters, by decide +kernel⟩
theorem a_M_enters_150 : zAt 145 150 m_M_enters (.iload_n 1) 1 := ⟨hm_M_enters, by decide +kernel⟩
theorem a_M_enters_151 : zAt 145 151 m_M_enters (.bipush 10) 2 := ⟨hm_M_enters, by decide +kernel⟩
theorem a_M_enters_153 : zAt 145 153 m_M_enters (.invokestatic 91) 3 := ⟨hm_M_enters, by decide +kernel⟩
theorem a_M_enters_156 : zAt 145 156 m_M_enters (.aload_n 0) 1 := ⟨hm_M_enters, by decide +kernel⟩
theorem a_M_enters_157 : zAt 145 157 m_M_enters (.getfield 7) 3 := ⟨hm_M_enters, by decide +kernel⟩
theorem a_M_enters_160 : zAt 145 160 m_M_enters (.iconst 0) 1 := ⟨hm_M_enters, by decide +kernel⟩
theorem a_M_enters_161 : zAt 145 161 m_M_enters (.iaload) 1 := ⟨hm_M_enters, by decide +kernel⟩
theorem a_M_enters_162 : zAt 145 162 m_M_enters (.iastore) 1 := ⟨hm_M_enters, by decide +kernel⟩
theorem a_M_enters_163 : zAt 145 163 m_M_enters (.iload_n 2) 1 := ⟨hm_M_enters, by decide +kernel⟩
theorem a_M_enters_164 : zAt 145 164 m_M_enters (.ireturn) 1 := ⟨hm_M_enters, by decide +kernel⟩
theorem B_M_enters_0 {G : Nat → Nat → Int32} {x1 : Int32} (z25_0 : (¬ (bI (0 ≤ x1 ∧ x1 ≤ G 91 2 - 1)) = 0) → zin (63 + 22 * x1 + 7) 327 = true) (z56_1 : (¬ (bI (0 ≤ x1 ∧ x1 ≤ G 91 2 - 1)) = 0) → ((G 91 (63 + 22 * x1 + 7).toNatClampNeg) = 0) → zin (63 + 22 * x1 + 11) 327 = true) (z41_2 : (¬ (bI (0 ≤ x1 ∧ x1 ≤ G 91 2 - 1)) = 0) → (¬ ((G 91 (63 + 22 * x1 + 7).toNatClampNeg) = 0)) → zin (63 + 22 * x1 + 7) 327 = true) : zden 145 0 [.ref 90, .int x1, .retAddr 0] [] (zSH, G) = if ¬ (bI (0 ≤ x1 ∧ x1 ≤ G 91 2 - 1)) = 0 then if (G 91 (63 + 22 * x1 + 7).toNatClampNeg) = 0 then if ¬ (G 91 (63 + 22 * x1 + 11).toNatClampNeg) = 0 then zaft 145 74 [.ref 90, .int x1, .retAddr 0] [.int x1, .ref 90] (zSH, G) (zden 133 0 [.ref 90, .int x1, .retAddr 0, .retAddr 0, .retAddr 0] [] (zSH, G)) else some (some (.int (-14)), (zSH, (zup (zup (zup G 90 2 4) 90 3 x1) 90 0 (-14)))) else some (some (.int (-14)), (zSH, (zup (zup (zup G 90 2 3) 90 3 (G 91 (63 + 22 * x1 + 7).toNatClampNeg)) 90 0 (-14)))) else some (some (.int (-11)), (zSH, (zup G 90 0 (-11)))) :=
  (zd_aload_n a_M_enters_0 rfl).trans ((zd_iload_n a_M_enters_1 rfl).trans ((zd_cal (kd := 0) (tg := 130) (T := m_M_isGood) a_M_enters_2 (by decide +kernel) hm_M_isGood rfl rfl rfl rfl).trans (((congrArg (zaft 145 5 [.ref 90, .int x1, .retAddr 0] [] (zSH, G)) (ms_isGood)).trans zaft_same).trans ((zd_if_ne a_M_enters_5 rfl).trans (zitc (fun p11 => (zd_aload_n a_M_enters_15 rfl).trans ((zd_getR (h := (zSH, G)) (ci := 8) (fi := 5) (a := 91) a_M_enters_16 (by decide +kernel) sh_90 rfl rfl).trans ((zd_iload_n a_M_enters_19 rfl).trans ((zd_bipush (v := 7) a_M_enters_20 (by decide)).trans ((zd_cal (kd := 1) (tg := 123) (T := m_M_of) a_M_enters_22 (by decide +kernel) hm_M_of rfl rfl rfl rfl).trans (((congrArg (zaft 145 25 [.ref 90, .int x1, .retAddr 0] [.ref 91] (zSH, G)) (ms_of)).trans zaft_same).trans ((zd_iald (h := (zSH, G)) a_M_enters_25 sh_91 rfl).trans ((if_pos (z25_0 p11)).trans ((zd_if_eq a_M_enters_26 rfl).trans (zitc (fun p12 => (zd_aload_n a_M_enters_46 rfl).trans ((zd_getR (h := (zSH, G)) (ci := 8) (fi := 5) (a := 91) a_M_enters_47 (by decide +kernel) sh_90 rfl rfl).trans ((zd_iload_n a_M_enters_50 rfl).trans ((zd_bipush (v := 11) a_M_enters_51 (by decide)).trans ((zd_cal (kd := 1) (tg := 123) (T := m_M_of) a_M_enters_53 (by decide +kernel) hm_M_of rfl rfl rfl rfl).trans (((congrArg (zaft 145 56 [.ref 90, .int x1, .retAddr 0] [.ref 91] (zSH, G)) (ms_of)).trans zaft_same).trans ((zd_iald (h := (zSH, G)) a_M_enters_56 sh_91 rfl).trans ((if_pos (z56_1 p11 p12)).trans ((zd_if_ne a_M_enters_57 rfl).trans (zitc (fun p13 => (zd_aload_n a_M_enters_67 rfl).trans ((zd_iload_n a_M_enters_68 rfl).trans ((zd_aload_n a_M_enters_69 rfl).trans ((zd_iload_n a_M_enters_70 rfl).trans ((zd_cal (kd := 0) (tg := 133) (T := m_M_origin) a_M_enters_71 (by decide +kernel) hm_M_origin rfl rfl rfl rfl)))))) (fun p13 => (zd_aload_n a_M_enters_60 rfl).trans ((zd_iconst (v := 4) a_M_enters_61 (by decide)).trans ((zd_iload_n a_M_enters_62 rfl).trans ((zd_cal (kd := 0) (tg := 114) (T := m_M_refuses) a_M_enters_63 (by decide +kernel) hm_M_refuses rfl rfl rfl rfl).trans (((congrArg (zaft 145 66 [.ref 90, .int x1, .retAddr 0] [] (zSH, G)) (ms_refuses)).trans zaft_same).trans (zd_iret a_M_enters_66 rfl (znr_int _))))))))))))))))) (fun p12 => (zd_aload_n a_M_enters_29 rfl).trans ((zd_iconst (v := 3) a_M_enters_30 (by decide)).trans ((zd_aload_n a_M_enters_31 rfl).trans ((zd_getR (h := (zSH, G)) (ci := 8) (fi := 5) (a := 91) a_M_enters_32 (by decide +kernel) sh_90 rfl rfl).trans ((zd_iload_n a_M_enters_35 rfl).trans ((zd_bipush (v := 7) a_M_enters_36 (by decide)).trans ((zd_cal (kd := 1) (tg := 123) (T := m_M_of) a_M_enters_38 (by decide +kernel) hm_M_of rfl rfl rfl rfl).trans (((congrArg (zaft 145 41 [.ref 90, .int x1, .retAddr 0] [.ref 91, .int 3, .ref 90] (zSH, G)) (ms_of)).trans zaft_same).trans ((zd_iald (h := (zSH, G)) a_M_enters_41 sh_91 rfl).trans ((if_pos (z41_2 p11 p12)).trans ((zd_cal (kd := 0) (tg := 114) (T := m_M_refuses) a_M_enters_42 (by decide +kernel) hm_M_refuses rfl rfl rfl rfl).trans (((congrArg (zaft 145 45 [.ref 90, .int x1, .retAddr 0] [] (zSH, G)) (ms_refuses)).trans zaft_same).trans (zd_iret a_M_enters_45 rfl (znr_int _)))))))))))))))))))))))) (fun p11 => (zd_aload_n a_M_enters_8 rfl).trans ((zd_bipush (v := (-11)) a_M_enters_9 (by decide)).trans ((zd_cal (kd := 0) (tg := 111) (T := m_M_fail) a_M_enters_11 (by decide +kernel) hm_M_fail rfl rfl rfl rfl).trans (((congrArg (zaft 145 14 [.ref 90, .int x1, .retAddr 0] [] (zSH, G)) (ms_fail)).trans zaft_same).trans (zd_iret a_M_enters_14 rfl (znr_int _)))))))))))
theorem B_M_enters_74 {G : Nat → Nat → Int32} {x1 s0 s1 : Int32} : zden 145 74 [.ref 90, .int x1, .retAddr 0] [.int s0, .int s1, .ref 90] (zSH, G) = zaft 145 77 [.ref 90, .int x1, .retAddr 0] [] (zSH, G) (zden 134 0 [.ref 90, .int s1, .int s0, .retAddr 0, .retAddr 0, .retAddr 0, .retAddr 0] [] (zSH, G)) :=
  (zd_cal (kd := 0) (tg := 134) (T := m_M_duty) a_M_enters_74 (by decide +kernel) hm_M_duty rfl rfl rfl rfl)
theorem B_M_enters_77 {G : Nat → Nat → Int32} {x1 s0 : Int32} (z133_0 : (s0 ≤ (G 91 3)) → zin (63 + 22 * x1 + 8) 327 = true) (z145_1 : (s0 ≤ (G 91 3)) → zin (63 + 22 * x1 + 7) 327 = true) (z162_2 : (s0 ≤ (G 91 3)) → zin (63 + 22 * x1 + 10) 327 = true) : zden 145 77 [.ref 90, .int x1, .retAddr 0] [.int s0] (zSH, G) = if s0 ≤ (G 91 3) then some (some (.int s0), (zSH, (zup (zup (zup (zup (zup G 91 3 ((G 91 3) - s0)) 91 5 (((zup G 91 3 ((G 91 3) - s0)) 91 5) + s0)) 91 (63 + 22 * x1 + 8).toNatClampNeg s0) 91 (63 + 22 * x1 + 7).toNatClampNeg 1) 91 (63 + 22 * x1 + 10).toNatClampNeg ((zup (zup (zup (zup G 91 3 ((G 91 3) - s0)) 91 5 (((zup G 91 3 ((G 91 3) - s0)) 91 5) + s0)) 91 (63 + 22 * x1 + 8).toNatClampNeg s0) 91 (63 + 22 * x1 + 7).toNatClampNeg 1) 91 0)))) else some (some (.int (-14)), (zSH, (zup (zup (zup G 90 2 5) 90 3 (s0 - (G 91 3))) 90 0 (-14)))) :=
  (zd_istore_n a_M_enters_77 rfl rfl rfl).trans ((zd_iload_n a_M_enters_78 rfl).trans ((zd_aload_n a_M_enters_79 rfl).trans ((zd_getR (h := (zSH, G)) (ci := 8) (fi := 5) (a := 91) a_M_enters_80 (by decide +kernel) sh_90 rfl rfl).trans ((zd_iconst (v := 3) a_M_enters_83 (by decide)).trans ((zd_iald (h := (zSH, G)) a_M_enters_84 sh_91 rfl).trans ((if_pos (by decide)).trans ((zd_icmp_le a_M_enters_85 rfl).trans (zitc (fun p14 => (zd_aload_n a_M_enters_102 rfl).trans ((zd_getR (h := (zSH, G)) (ci := 8) (fi := 5) (a := 91) a_M_enters_103 (by decide +kernel) sh_90 rfl rfl).trans ((zd_iconst (v := 3) a_M_enters_106 (by decide)).trans ((zd_num (st2 := [.int 3, .ref 91, .int 3, .ref 91]) a_M_enters_107 rfl rfl rfl rfl).trans ((zd_iald (h := (zSH, G)) a_M_enters_108 sh_91 rfl).trans ((if_pos (by decide)).trans ((zd_iload_n a_M_enters_109 rfl).trans ((zd_num (st2 := [.int ((G 91 3) - s0), .int 3, .ref 91]) a_M_enters_110 rfl rfl rfl rfl).trans ((zd_iast (h := (zSH, G)) a_M_enters_111 sh_91).trans ((if_pos (by decide)).trans ((zd_aload_n a_M_enters_112 rfl).trans ((zd_getR (h := (zSH, (zup G 91 3 ((G 91 3) - s0)))) (ci := 8) (fi := 5) (a := 91) a_M_enters_113 (by decide +kernel) sh_90 rfl rfl).trans ((zd_iconst (v := 5) a_M_enters_116 (by decide)).trans ((zd_num (st2 := [.int 5, .ref 91, .int 5, .ref 91]) a_M_enters_117 rfl rfl rfl rfl).trans ((zd_iald (h := (zSH, (zup G 91 3 ((G 91 3) - s0)))) a_M_enters_118 sh_91 rfl).trans ((if_pos (by decide)).trans ((zd_iload_n a_M_enters_119 rfl).trans ((zd_num (st2 := [.int (((zup G 91 3 ((G 91 3) - s0)) 91 5) + s0), .int 5, .ref 91]) a_M_enters_120 rfl rfl rfl rfl).trans ((zd_iast (h := (zSH, (zup G 91 3 ((G 91 3) - s0)))) a_M_enters_121 sh_91).trans ((if_pos (by decide)).trans ((zd_aload_n a_M_enters_122 rfl).trans ((zd_getR (h := (zSH, (zup (zup G 91 3 ((G 91 3) - s0)) 91 5 (((zup G 91 3 ((G 91 3) - s0)) 91 5) + s0)))) (ci := 8) (fi := 5) (a := 91) a_M_enters_123 (by decide +kernel) sh_90 rfl rfl).trans ((zd_iload_n a_M_enters_126 rfl).trans ((zd_bipush (v := 8) a_M_enters_127 (by decide)).trans ((zd_cal (kd := 1) (tg := 123) (T := m_M_of) a_M_enters_129 (by decide +kernel) hm_M_of rfl rfl rfl rfl).trans (((congrArg (zaft 145 132 [.ref 90, .int x1, .int s0] [.ref 91] (zSH, (zup (zup G 91 3 ((G 91 3) - s0)) 91 5 (((zup G 91 3 ((G 91 3) - s0)) 91 5) + s0)))) (ms_of)).trans zaft_same).trans ((zd_iload_n a_M_enters_132 rfl).trans ((zd_iast (h := (zSH, (zup (zup G 91 3 ((G 91 3) - s0)) 91 5 (((zup G 91 3 ((G 91 3) - s0)) 91 5) + s0)))) a_M_enters_133 sh_91).trans ((if_pos (z133_0 p14)).trans ((zd_aload_n a_M_enters_134 rfl).trans ((zd_getR (h := (zSH, (zup (zup (zup G 91 3 ((G 91 3) - s0)) 91 5 (((zup G 91 3 ((G 91 3) - s0)) 91 5) + s0)) 91 (63 + 22 * x1 + 8).toNatClampNeg s0))) (ci := 8) (fi := 5) (a := 91) a_M_enters_135 (by decide +kernel) sh_90 rfl rfl).trans ((zd_iload_n a_M_enters_138 rfl).trans ((zd_bipush (v := 7) a_M_enters_139 (by decide)).trans ((zd_cal (kd := 1) (tg := 123) (T := m_M_of) a_M_enters_141 (by decide +kernel) hm_M_of rfl rfl rfl rfl).trans (((congrArg (zaft 145 144 [.ref 90, .int x1, .int s0] [.ref 91] (zSH, (zup (zup (zup G 91 3 ((G 91 3) - s0)) 91 5 (((zup G 91 3 ((G 91 3) - s0)) 91 5) + s0)) 91 (63 + 22 * x1 + 8).toNatClampNeg s0))) (ms_of)).trans zaft_same).trans ((zd_iconst (v := 1) a_M_enters_144 (by decide)).trans ((zd_iast (h := (zSH, (zup (zup (zup G 91 3 ((G 91 3) - s0)) 91 5 (((zup G 91 3 ((G 91 3) - s0)) 91 5) + s0)) 91 (63 + 22 * x1 + 8).toNatClampNeg s0))) a_M_enters_145 sh_91).trans ((if_pos (z145_1 p14)).trans ((zd_aload_n a_M_enters_146 rfl).trans ((zd_getR (h := (zSH, (zup (zup (zup (zup G 91 3 ((G 91 3) - s0)) 91 5 (((zup G 91 3 ((G 91 3) - s0)) 91 5) + s0)) 91 (63 + 22 * x1 + 8).toNatClampNeg s0) 91 (63 + 22 * x1 + 7).toNatClampNeg 1))) (ci := 8) (fi := 5) (a := 91) a_M_enters_147 (by decide +kernel) sh_90 rfl rfl).trans ((zd_iload_n a_M_enters_150 rfl).trans ((zd_bipush (v := 10) a_M_enters_151 (by decide)).trans ((zd_cal (kd := 1) (tg := 123) (T := m_M_of) a_M_enters_153 (by decide +kernel) hm_M_of rfl rfl rfl rfl).trans (((congrArg (zaft 145 156 [.ref 90, .int x1, .int s0] [.ref 91] (zSH, (zup (zup (zup (zup G 91 3 ((G 91 3) - s0)) 91 5 (((zup G 91 3 ((G 91 3) - s0)) 91 5) + s0)) 91 (63 + 22 * x1 + 8).toNatClampNeg s0) 91 (63 + 22 * x1 + 7).toNatClampNeg 1))) (ms_of)).trans zaft_same).trans ((zd_aload_n a_M_enters_156 rfl).trans ((zd_getR (h := (zSH, (zup (zup (zup (zup G 91 3 ((G 91 3) - s0)) 91 5 (((zup G 91 3 ((G 91 3) - s0)) 91 5) + s0)) 91 (63 + 22 * x1 + 8).toNatClampNeg s0) 91 (63 + 22 * x1 + 7).toNatClampNeg 1))) (ci := 8) (fi := 5) (a := 91) a_M_enters_157 (by decide +kernel) sh_90 rfl rfl).trans ((zd_iconst (v := 0) a_M_enters_160 (by decide)).trans ((zd_iald (h := (zSH, (zup (zup (zup (zup G 91 3 ((G 91 3) - s0)) 91 5 (((zup G 91 3 ((G 91 3) - s0)) 91 5) + s0)) 91 (63 + 22 * x1 + 8).toNatClampNeg s0) 91 (63 + 22 * x1 + 7).toNatClampNeg 1))) a_M_enters_161 sh_91 rfl).trans ((if_pos (by decide)).trans ((zd_iast (h := (zSH, (zup (zup (zup (zup G 91 3 ((G 91 3) - s0)) 91 5 (((zup G 91 3 ((G 91 3) - s0)) 91 5) + s0)) 91 (63 + 22 * x1 + 8).toNatClampNeg s0) 91 (63 + 22 * x1 + 7).toNatClampNeg 1))) a_M_enters_162 sh_91).trans ((if_pos (z162_2 p14)).trans ((zd_iload_n a_M_enters_163 rfl).trans (zd_iret a_M_enters_164 rfl (znr_int _)))))))))))))))))))))))))))))))))))))))))))))))))))))) (fun p14 => (zd_aload_n a_M_enters_88 rfl).trans ((zd_iconst (v := 5) a_M_enters_89 (by decide)).trans ((zd_iload_n a_M_enters_90 rfl).trans ((zd_aload_n a_M_enters_91 rfl).trans ((zd_getR (h := (zSH, G)) (ci := 8) (fi := 5) (a := 91) a_M_enters_92 (by decide +kernel) sh_90 rfl rfl).trans ((zd_iconst (v := 3) a_M_enters_95 (by decide)).trans ((zd_iald (h := (zSH, G)) a_M_enters_96 sh_91 rfl).trans ((if_pos (by decide)).trans ((zd_num (st2 := [.int (s0 - (G 91 3)), .int 5, .ref 90]) a_M_enters_97 rfl rfl rfl rfl).trans ((zd_cal (kd := 0) (tg := 114) (T := m_M_refuses) a_M_enters_98 (by decide +kernel) hm_M_refuses rfl rfl rfl rfl).trans (((congrArg (zaft 145 101 [.ref 90, .int x1, .int s0] [] (zSH, G)) (ms_refuses)).trans zaft_same).trans (zd_iret a_M_enters_101 rfl (znr_int _)))))))))))))))))))))
theorem a_M_exports_0 : zAt 147 0 m_M_exports (.aload_n 0) 1 := ⟨hm_M_exports, by decide +kernel⟩
theorem a_M_exports_1 : zAt 147 1 m_M_exports (.iload_n 1) 1 := ⟨hm_M_exports, by decide +kernel⟩
theorem a_M_exports_2 : zAt 147 2 m_M_exports (.invokevirtual 114) 3 := ⟨hm_M_exports, by decide +kernel⟩
theorem a_M_exports_5 : zAt 147 5 m_M_exports (.ifCond .ne 10) 3 := ⟨hm_M_exports, by decide +kernel⟩
theorem a_M_exports_8 : zAt 147 8 m_M_exports (.aload_n 0) 1 := ⟨hm_M_exports, by decide +kernel⟩
theorem a_M_exports_9 : zAt 147 9 m_M_exports (.bipush (-11)) 2 := ⟨hm_M_exports, by decide +kernel⟩
theorem a_M_exports_11 : zAt 147 11 m_M_exports (.invokevirtual 53) 3 := ⟨hm_M_exports, by decide +kernel⟩
theorem a_M_exports_14 : zAt 147 14 m_M_exports (.ireturn) 1 := ⟨hm_M_exports, by decide +kernel⟩
theorem a_M_exports_15 : zAt 147 15 m_M_exports (.aload_n 0) 1 := ⟨hm_M_exports, by decide +kernel⟩
theorem a_M_exports_16 : zAt 147 16 m_M_exports (.getfield 7) 3 := ⟨hm_M_exports, by decide +kernel⟩
theorem a_M_exports_19 : zAt 147 19 m_M_exports (.iload_n 1) 1 := ⟨hm_M_exports, by decide +kernel⟩
theorem a_M_exports_20 : zAt 147 20 m_M_exports (.bipush 7) 2 := ⟨hm_M_exports, by decide +kernel⟩
theorem a_M_exports_22 : zAt 147 22 m_M_exports (.invokestatic 91) 3 := ⟨hm_M_exports, by decide +kernel⟩
theorem a_M_exports_25 : zAt 147 25 m_M_exports (.iaload) 1 := ⟨hm_M_exports, by decide +kernel⟩
theorem a_M_exports_26 : zAt 147 26 m_M_exports (.iconst 2) 1 := ⟨hm_M_exports, by decide +kernel⟩
theorem a_M_exports_27 : zAt 147 27 m_M_exports (.if_icmp .ne 10) 3 := ⟨hm_M_exports, by decide +kernel⟩
theorem a_M_exports_30 : zAt 147 30 m_M_exports (.aload_n 0) 1 := ⟨hm_M_exports, by decide +kernel⟩
theorem a_M_exports_31 : zAt 147 31 m_M_exports (.iconst 3) 1 := ⟨hm_M_exports, by decide +kernel⟩
theorem a_M_exports_32 : zAt 147 32 m_M_exports (.iconst 2) 1 := ⟨hm_M_exports, by decide +kernel⟩
theorem a_M_exports_33 : zAt 147 33 m_M_exports (.invokevirtual 75) 3 := ⟨hm_M_exports, by decide +kernel⟩
theorem a_M_exports_36 : zAt 147 36 m_M_exports (.ireturn) 1 := ⟨hm_M_exports, by decide +kernel⟩
theorem a_M_exports_37 : zAt 147 37 m_M_exports (.aload_n 0) 1 := ⟨hm_M_exports, by decide +kernel⟩
theorem a_M_exports_38 : zAt 147 38 m_M_exports (.getfield 7) 3 := ⟨hm_M_exports, by decide +kernel⟩
theorem a_M_exports_41 : zAt 147 41 m_M_exports (.iload_n 1) 1 := ⟨hm_M_exports, by decide +kernel⟩
theorem a_M_exports_42 : zAt 147 42 m_M_exports (.bipush 7) 2 := ⟨hm_M_exports, by decide +kernel⟩
theorem a_M_exports_44 : zAt 147 44 m_M_exports (.invokestatic 91) 3 := ⟨hm_M_exports, by decide +kernel⟩
theorem a_M_exports_47 : zAt 147 47 m_M_exports (.iaload) 1 := ⟨hm_M_exports, by decide +kernel⟩
theorem a_M_exports_48 : zAt 147 48 m_M_exports (.iconst 1) 1 := ⟨hm_M_exports, by decide +kernel⟩
theorem a_M_exports_49 : zAt 147 49 m_M_exports (.if_icmp .ne 46) 3 := ⟨hm_M_exports, by decide +kernel⟩
theorem a_M_exports_52 : zAt 147 52 m_M_exports (.aload_n 0) 1 := ⟨hm_M_exports, by decide +kernel⟩
theorem a_M_exports_53 : zAt 147 53 m_M_exports (.getfield 7) 3 := ⟨hm_M_exports, by decide +kernel⟩
theorem a_M_exports_56 : zAt 147 56 m_M_exports (.iconst 0) 1 := ⟨hm_M_exports, by decide +kernel⟩
theorem a_M_exports_57 : zAt 147 57 m_M_exports (.iaload) 1 := ⟨hm_M_exports, by decide +kernel⟩
theorem a_M_exports_58 : zAt 147 58 m_M_exports (.aload_n 0) 1 := ⟨hm_M_exports, by decide +kernel⟩
theorem a_M_exports_59 : zAt 147 59 m_M_exports (.getfield 7) 3 := ⟨hm_M_exports, by decide +kernel⟩
theorem a_M_exports_62 : zAt 147 62 m_M_exports (.iload_n 1) 1 := ⟨hm_M_exports, by decide +kernel⟩
theorem a_M_exports_63 : zAt 147 63 m_M_exports (.bipush 10) 2 := ⟨hm_M_exports, by decide +kernel⟩
theorem a_M_exports_65 : zAt 147 65 m_M_exports (.invokestatic 91) 3 := ⟨hm_M_exports, by decide +kernel⟩
theorem a_M_exports_68 : zAt 147 68 m_M_exports (.iaload) 1 := ⟨hm_M_exports, by decide +kernel⟩
theorem a_M_exports_69 : zAt 147 69 m_M_exports (.isub) 1 := ⟨hm_M_exports, by decide +kernel⟩
theorem a_M_exports_70 : zAt 147 70 m_M_exports (.bipush 30) 2 := ⟨hm_M_exports, by decide +kernel⟩
theorem a_M_exports_72 : zAt 147 72 m_M_exports (.if_icmp .gt 23) 3 := ⟨hm_M_exports, by decide +kernel⟩
theorem a_M_exports_75 : zAt 147 75 m_M_exports (.aload_n 0) 1 := ⟨hm_M_exports, by decide +kernel⟩
theorem a_M_exports_76 : zAt 147 76 m_M_exports (.getfield 7) 3 := ⟨hm_M_exports, by decide +kernel⟩
theorem a_M_exports_79 : zAt 147 79 m_M_exports (.iload_n 1) 1 := ⟨hm_M_exports, by decide +kernel⟩
theorem a_M_exports_80 : zAt 147 80 m_M_exports (.bipush 8) 2 := ⟨hm_M_exports, by decide +kernel⟩
theorem a_M_exports_82 : zAt 147 82 m_M_exports (.invokestatic 91) 3 := ⟨hm_M_exports, by decide +kernel⟩
theorem a_M_exports_85 : zAt 147 85 m_M_exports (.iaload) 1 := ⟨hm_M_exports, by decide +kernel⟩
theorem a_M_exports_86 : zAt 147 86 m_M_exports (.bipush 9) 2 := ⟨hm_M_exports, by decide +kernel⟩
theorem a_M_exports_88 : zAt 147 88 m_M_exports (.imul) 1 := ⟨hm_M_exports, by decide +kernel⟩
theorem a_M_exports_89 : zAt 147 89 m_M_exports (.bipush 10) 2 := ⟨hm_M_exports, by decide +kernel⟩
theorem a_M_exports_91 : zAt 147 91 m_M_exports (.idiv) 1 := ⟨hm_M_exports, by decide +kernel⟩
theorem a_M_exports_92 : zAt 147 92 m_M_exports (.goto 4) 3 := ⟨hm_M_exports, by decide +kernel⟩
theorem a_M_exports_95 : zAt 147 95 m_M_exports (.iconst 0) 1 := ⟨hm_M_exports, by decide +kernel⟩
theorem a_M_exports_96 : zAt 147 96 m_M_exports (.istore_n 2) 1 := ⟨hm_M_exports, by decide +kernel⟩
theorem a_M_exports_97 : zAt 147 97 m_M_exports (.aload_n 0) 1 := ⟨hm_M_exports, by decide +kernel⟩
theorem a_M_exports_98 : zAt 147 98 m_M_exports (.getfield 7) 3 := ⟨hm_M_exports, by decide +kernel⟩
theorem a_M_exports_101 : zAt 147 101 m_M_exports (.iload_n 1) 1 := ⟨hm_M_exports, by decide +kernel⟩
theorem a_M_exports_102 : zAt 147 102 m_M_exports (.bipush 7) 2 := ⟨hm_M_exports, by decide +kernel⟩
theorem a_M_exports_104 : zAt 147 104 m_M_exports (.invokestatic 91) 3 := ⟨hm_M_exports, by decide +kernel⟩
theorem a_M_exports_107 : zAt 147 107 m_M_exports (.iconst 2) 1 := ⟨hm_M_exports, by decide +kernel⟩
theorem a_M_exports_108 : zAt 147 108 m_M_exports (.iastore) 1 := ⟨hm_M_exports, by decide +kernel⟩
theorem a_M_exports_109 : zAt 147 109 m_M_exports (.aload_n 0) 1 := ⟨hm_M_exports, by decide +kernel⟩
theorem a_M_exports_110 : zAt 147 110 m_M_exports (.getfield 7) 3 := ⟨hm_M_exports, by decide +kernel⟩
theorem a_M_exports_113 : zAt 147 113 m_M_exports (.iload_n 1) 1 := ⟨hm_M_exports, by decide +kernel⟩
theorem a_M_exports_114 : zAt 147 114 m_M_exports (.bipush 9) 2 := ⟨hm_M_exports, by decide +kernel⟩
theorem a_M_exports_116 : zAt 147 116 m_M_exports (.invokestatic 91) 3 := ⟨hm_M_exports, by decide +kernel⟩
theorem a_M_exports_119 : zAt 147 119 m_M_exports (.iload_n 2) 1 := ⟨hm_M_exports, by decide +kernel⟩
theorem a_M_exports_120 : zAt 147 120 m_M_exports (.iastore) 1 := ⟨hm_M_exports, by decide +kernel⟩
theorem a_M_exports_121 : zAt 147 121 m_M_exports (.aload_n 0) 1 := ⟨hm_M_exports, by decide +kernel⟩
theorem a_M_exports_122 : zAt 147 122 m_M_exports (.getfield 7) 3 := ⟨hm_M_exports, by decide +kernel⟩
theorem a_M_exports_125 : zAt 147 125 m_M_exports (.iconst 3) 1 := ⟨hm_M_exports, by decide +kernel⟩
theorem a_M_exports_126 : zAt 147 126 m_M_exports (.dup2) 1 := ⟨hm_M_exports, by decide +kernel⟩
theorem a_M_exports_127 : zAt 147 127 m_M_exports (.iaload) 1 := ⟨hm_M_exports, by decide +kernel⟩
theorem a_M_exports_128 : zAt 147 128 m_M_exports (.iload_n 2) 1 := ⟨hm_M_exports, by decide +kernel⟩
theorem a_M_exports_129 : zAt 147 129 m_M_exports (.iadd) 1 := ⟨hm_M_exports, by decide +kernel⟩
theorem a_M_exports_130 : zAt 147 130 m_M_exports (.iastore) 1 := ⟨hm_M_exports, by decide +kernel⟩
theorem a_M_exports_131 : zAt 147 131 m_M_exports (.aload_n 0) 1 := ⟨hm_M_exports, by decide +kernel⟩
theorem a_M_exports_132 : zAt 147 132 m_M_exports (.getfield 7) 3 := ⟨hm_M_exports, by decide +kernel⟩
theorem a_M_exports_135 : zAt 147 135 m_M_exports (.bipush 6) 2 := ⟨hm_M_exports, by decide +kernel⟩
theorem a_M_exports_137 : zAt 147 137 m_M_exports (.dup2) 1 := ⟨hm_M_exports, by decide +kernel⟩
theorem a_M_exports_138 : zAt 147 138 m_M_exports (.iaload) 1 := ⟨hm_M_exports, by decide +kernel⟩
theorem a_M_exports_139 : zAt 147 139 m_M_exports (.iload_n 2) 1 := ⟨hm_M_exports, by decide +kernel⟩
theorem a_M_exports_140 : zAt 147 140 m_M_exports (.iadd) 1 := ⟨hm_M_exports, by decide +kernel⟩
theorem a_M_exports_141 : zAt 147 141 m_M_exports (.iastore) 1 := ⟨hm_M_exports, by decide +kernel⟩
theorem a_M_exports_142 : zAt 147 142 m_M_exports (.iload_n 2) 1 := ⟨hm_M_exports, by decide +kernel⟩
theorem a_M_exports_143 : zAt 147 143 m_M_exports (.ireturn) 1 := ⟨hm_M_exports, by decide +kernel⟩
theorem B_M_exports_0 {G : Nat → Nat → Int32} {x1 : Int32} (z25_0 : (¬ (bI (0 ≤ x1 ∧ x1 ≤ G 91 2 - 1)) = 0) → zin (63 + 22 * x1 + 7) 327 = true) (z47_1 : (¬ (bI (0 ≤ x1 ∧ x1 ≤ G 91 2 - 1)) = 0) → (¬ (G 91 (63 + 22 * x1 + 7).toNatClampNeg) = 2) → zin (63 + 22 * x1 + 7) 327 = true) (z68_2 : (¬ (bI (0 ≤ x1 ∧ x1 ≤ G 91 2 - 1)) = 0) → (¬ (G 91 (63 + 22 * x1 + 7).toNatClampNeg) = 2) → (¬ (¬ (G 91 (63 + 22 * x1 + 7).toNatClampNeg) = 1)) → zin (63 + 22 * x1 + 10) 327 = true) (z85_3 : (¬ (bI (0 ≤ x1 ∧ x1 ≤ G 91 2 - 1)) = 0) → (¬ (G 91 (63 + 22 * x1 + 7).toNatClampNeg) = 2) → (¬ (¬ (G 91 (63 + 22 * x1 + 7).toNatClampNeg) = 1)) → (¬ (30 < ((G 91 0) - (G 91 (63 + 22 * x1 + 10).toNatClampNeg)))) → zin (63 + 22 * x1 + 8) 327 = true) : zden 147 0 [.ref 90, .int x1, .retAddr 0] [] (zSH, G) = if ¬ (bI (0 ≤ x1 ∧ x1 ≤ G 91 2 - 1)) = 0 then if ¬ (G 91 (63 + 22 * x1 + 7).toNatClampNeg) = 2 then if ¬ (G 91 (63 + 22 * x1 + 7).toNatClampNeg) = 1 then zden 147 95 [.ref 90, .int x1, .retAddr 0] [] (zSH, G) else if 30 < ((G 91 0) - (G 91 (63 + 22 * x1 + 10).toNatClampNeg)) then zden 147 95 [.ref 90, .int x1, .retAddr 0] [] (zSH, G) else zden 147 96 [.ref 90, .int x1, .retAddr 0] [.int (((G 91 (63 + 22 * x1 + 8).toNatClampNeg) * 9) / 10)] (zSH, G) else some (some (.int (-14)), (zSH, (zup (zup (zup G 90 2 3) 90 3 2) 90 0 (-14)))) else some (some (.int (-11)), (zSH, (zup G 90 0 (-11)))) :=
  (zd_aload_n a_M_exports_0 rfl).trans ((zd_iload_n a_M_exports_1 rfl).trans ((zd_cal (kd := 0) (tg := 130) (T := m_M_isGood) a_M_exports_2 (by decide +kernel) hm_M_isGood rfl rfl rfl rfl).trans (((congrArg (zaft 147 5 [.ref 90, .int x1, .retAddr 0] [] (zSH, G)) (ms_isGood)).trans zaft_same).trans ((zd_if_ne a_M_exports_5 rfl).trans (zitc (fun p9 => (zd_aload_n a_M_exports_15 rfl).trans ((zd_getR (h := (zSH, G)) (ci := 8) (fi := 5) (a := 91) a_M_exports_16 (by decide +kernel) sh_90 rfl rfl).trans ((zd_iload_n a_M_exports_19 rfl).trans ((zd_bipush (v := 7) a_M_exports_20 (by decide)).trans ((zd_cal (kd := 1) (tg := 123) (T := m_M_of) a_M_exports_22 (by decide +kernel) hm_M_of rfl rfl rfl rfl).trans (((congrArg (zaft 147 25 [.ref 90, .int x1, .retAddr 0] [.ref 91] (zSH, G)) (ms_of)).trans zaft_same).trans ((zd_iald (h := (zSH, G)) a_M_exports_25 sh_91 rfl).trans ((if_pos (z25_0 p9)).trans ((zd_iconst (v := 2) a_M_exports_26 (by decide)).trans ((zd_icmp_ne a_M_exports_27 rfl).trans (zitc (fun p10 => (zd_aload_n a_M_exports_37 rfl).trans ((zd_getR (h := (zSH, G)) (ci := 8) (fi := 5) (a := 91) a_M_exports_38 (by decide +kernel) sh_90 rfl rfl).trans ((zd_iload_n a_M_exports_41 rfl).trans ((zd_bipush (v := 7) a_M_exports_42 (by decide)).trans ((zd_cal (kd := 1) (tg := 123) (T := m_M_of) a_M_exports_44 (by decide +kernel) hm_M_of rfl rfl rfl rfl).trans (((congrArg (zaft 147 47 [.ref 90, .int x1, .retAddr 0] [.ref 91] (zSH, G)) (ms_of)).trans zaft_same).trans ((zd_iald (h := (zSH, G)) a_M_exports_47 sh_91 rfl).trans ((if_pos (z47_1 p9 p10)).trans ((zd_iconst (v := 1) a_M_exports_48 (by decide)).trans ((zd_icmp_ne a_M_exports_49 rfl).trans (zitc (fun p11 => rfl) (fun p11 => (zd_aload_n a_M_exports_52 rfl).trans ((zd_getR (h := (zSH, G)) (ci := 8) (fi := 5) (a := 91) a_M_exports_53 (by decide +kernel) sh_90 rfl rfl).trans ((zd_iconst (v := 0) a_M_exports_56 (by decide)).trans ((zd_iald (h := (zSH, G)) a_M_exports_57 sh_91 rfl).trans ((if_pos (by decide)).trans ((zd_aload_n a_M_exports_58 rfl).trans ((zd_getR (h := (zSH, G)) (ci := 8) (fi := 5) (a := 91) a_M_exports_59 (by decide +kernel) sh_90 rfl rfl).trans ((zd_iload_n a_M_exports_62 rfl).trans ((zd_bipush (v := 10) a_M_exports_63 (by decide)).trans ((zd_cal (kd := 1) (tg := 123) (T := m_M_of) a_M_exports_65 (by decide +kernel) hm_M_of rfl rfl rfl rfl).trans (((congrArg (zaft 147 68 [.ref 90, .int x1, .retAddr 0] [.ref 91, .int (G 91 0)] (zSH, G)) (ms_of)).trans zaft_same).trans ((zd_iald (h := (zSH, G)) a_M_exports_68 sh_91 rfl).trans ((if_pos (z68_2 p9 p10 p11)).trans ((zd_num (st2 := [.int ((G 91 0) - (G 91 (63 + 22 * x1 + 10).toNatClampNeg))]) a_M_exports_69 rfl rfl rfl rfl).trans ((zd_bipush (v := 30) a_M_exports_70 (by decide)).trans ((zd_icmp_gt a_M_exports_72 rfl).trans (zitc (fun p12 => rfl) (fun p12 => (zd_aload_n a_M_exports_75 rfl).trans ((zd_getR (h := (zSH, G)) (ci := 8) (fi := 5) (a := 91) a_M_exports_76 (by decide +kernel) sh_90 rfl rfl).trans ((zd_iload_n a_M_exports_79 rfl).trans ((zd_bipush (v := 8) a_M_exports_80 (by decide)).trans ((zd_cal (kd := 1) (tg := 123) (T := m_M_of) a_M_exports_82 (by decide +kernel) hm_M_of rfl rfl rfl rfl).trans (((congrArg (zaft 147 85 [.ref 90, .int x1, .retAddr 0] [.ref 91] (zSH, G)) (ms_of)).trans zaft_same).trans ((zd_iald (h := (zSH, G)) a_M_exports_85 sh_91 rfl).trans ((if_pos (z85_3 p9 p10 p11 p12)).trans ((zd_bipush (v := 9) a_M_exports_86 (by decide)).trans ((zd_num (st2 := [.int ((G 91 (63 + 22 * x1 + 8).toNatClampNeg) * 9)]) a_M_exports_88 rfl rfl rfl rfl).trans ((zd_bipush (v := 10) a_M_exports_89 (by decide)).trans ((zd_idiv a_M_exports_91 (by decide)).trans ((zd_goto a_M_exports_92 rfl)))))))))))))))))))))))))))))))))))))))))) (fun p10 => (zd_aload_n a_M_exports_30 rfl).trans ((zd_iconst (v := 3) a_M_exports_31 (by decide)).trans ((zd_iconst (v := 2) a_M_exports_32 (by decide)).trans ((zd_cal (kd := 0) (tg := 114) (T := m_M_refuses) a_M_exports_33 (by decide +kernel) hm_M_refuses rfl rfl rfl rfl).trans (((congrArg (zaft 147 36 [.ref 90, .int x1, .retAddr 0] [] (zSH, G)) (ms_refuses)).trans zaft_same).trans (zd_iret a_M_exports_36 rfl (znr_int _)))))))))))))))))) (fun p9 => (zd_aload_n a_M_exports_8 rfl).trans ((zd_bipush (v := (-11)) a_M_exports_9 (by decide)).trans ((zd_cal (kd := 0) (tg := 111) (T := m_M_fail) a_M_exports_11 (by decide +kernel) hm_M_fail rfl rfl rfl rfl).trans (((congrArg (zaft 147 14 [.ref 90, .int x1, .retAddr 0] [] (zSH, G)) (ms_fail)).trans zaft_same).trans (zd_iret a_M_exports_14 rfl (znr_int _)))))))))))
theorem B_M_exports_95 {G : Nat → Nat → Int32} {x1 : Int32} : zden 147 95 [.ref 90, .int x1, .retAddr 0] [] (zSH, G) = zden 147 96 [.ref 90, .int x1, .retAddr 0] [.int 0] (zSH, G) :=
  (zd_iconst (v := 0) a_M_exports_95 (by decide))
theorem B_M_exports_96 {G : Nat → Nat → Int32} {x1 s0 : Int32} (z108_0 : zin (63 + 22 * x1 + 7) 327 = true) (z120_1 : zin (63 + 22 * x1 + 9) 327 = true) : zden 147 96 [.ref 90, .int x1, .retAddr 0] [.int s0] (zSH, G) = some (some (.int s0), (zSH, (zup (zup (zup (zup G 91 (63 + 22 * x1 + 7).toNatClampNeg 2) 91 (63 + 22 * x1 + 9).toNatClampNeg s0) 91 3 (((zup (zup G 91 (63 + 22 * x1 + 7).toNatClampNeg 2) 91 (63 + 22 * x1 + 9).toNatClampNeg s0) 91 3) + s0)) 91 6 (((zup (zup (zup G 91 (63 + 22 * x1 + 7).toNatClampNeg 2) 91 (63 + 22 * x1 + 9).toNatClampNeg s0) 91 3 (((zup (zup G 91 (63 + 22 * x1 + 7).toNatClampNeg 2) 91 (63 + 22 * x1 + 9).toNatClampNeg s0) 91 3) + s0)) 91 6) + s0)))) :=
  (zd_istore_n a_M_exports_96 rfl rfl rfl).trans ((zd_aload_n a_M_exports_97 rfl).trans ((zd_getR (h := (zSH, G)) (ci := 8) (fi := 5) (a := 91) a_M_exports_98 (by decide +kernel) sh_90 rfl rfl).trans ((zd_iload_n a_M_exports_101 rfl).trans ((zd_bipush (v := 7) a_M_exports_102 (by decide)).trans ((zd_cal (kd := 1) (tg := 123) (T := m_M_of) a_M_exports_104 (by decide +kernel) hm_M_of rfl rfl rfl rfl).trans (((congrArg (zaft 147 107 [.ref 90, .int x1, .int s0] [.ref 91] (zSH, G)) (ms_of)).trans zaft_same).trans ((zd_iconst (v := 2) a_M_exports_107 (by decide)).trans ((zd_iast (h := (zSH, G)) a_M_exports_108 sh_91).trans ((if_pos z108_0).trans ((zd_aload_n a_M_exports_109 rfl).trans ((zd_getR (h := (zSH, (zup G 91 (63 + 22 * x1 + 7).toNatClampNeg 2))) (ci := 8) (fi := 5) (a := 91) a_M_exports_110 (by decide +kernel) sh_90 rfl rfl).trans ((zd_iload_n a_M_exports_113 rfl).trans ((zd_bipush (v := 9) a_M_exports_114 (by decide)).trans ((zd_cal (kd := 1) (tg := 123) (T := m_M_of) a_M_exports_116 (by decide +kernel) hm_M_of rfl rfl rfl rfl).trans (((congrArg (zaft 147 119 [.ref 90, .int x1, .int s0] [.ref 91] (zSH, (zup G 91 (63 + 22 * x1 + 7).toNatClampNeg 2))) (ms_of)).trans zaft_same).trans ((zd_iload_n a_M_exports_119 rfl).trans ((zd_iast (h := (zSH, (zup G 91 (63 + 22 * x1 + 7).toNatClampNeg 2))) a_M_exports_120 sh_91).trans ((if_pos z120_1).trans ((zd_aload_n a_M_exports_121 rfl).trans ((zd_getR (h := (zSH, (zup (zup G 91 (63 + 22 * x1 + 7).toNatClampNeg 2) 91 (63 + 22 * x1 + 9).toNatClampNeg s0))) (ci := 8) (fi := 5) (a := 91) a_M_exports_122 (by decide +kernel) sh_90 rfl rfl).trans ((zd_iconst (v := 3) a_M_exports_125 (by decide)).trans ((zd_num (st2 := [.int 3, .ref 91, .int 3, .ref 91]) a_M_exports_126 rfl rfl rfl rfl).trans ((zd_iald (h := (zSH, (zup (zup G 91 (63 + 22 * x1 + 7).toNatClampNeg 2) 91 (63 + 22 * x1 + 9).toNatClampNeg s0))) a_M_exports_127 sh_91 rfl).trans ((if_pos (by decide)).trans ((zd_iload_n a_M_exports_128 rfl).trans ((zd_num (st2 := [.int (((zup (zup G 91 (63 + 22 * x1 + 7).toNatClampNeg 2) 91 (63 + 22 * x1 + 9).toNatClampNeg s0) 91 3) + s0), .int 3, .ref 91]) a_M_exports_129 rfl rfl rfl rfl).trans ((zd_iast (h := (zSH, (zup (zup G 91 (63 + 22 * x1 + 7).toNatClampNeg 2) 91 (63 + 22 * x1 + 9).toNatClampNeg s0))) a_M_exports_130 sh_91).trans ((if_pos (by decide)).trans ((zd_aload_n a_M_exports_131 rfl).trans ((zd_getR (h := (zSH, (zup (zup (zup G 91 (63 + 22 * x1 + 7).toNatClampNeg 2) 91 (63 + 22 * x1 + 9).toNatClampNeg s0) 91 3 (((zup (zup G 91 (63 + 22 * x1 + 7).toNatClampNeg 2) 91 (63 + 22 * x1 + 9).toNatClampNeg s0) 91 3) + s0)))) (ci := 8) (fi := 5) (a := 91) a_M_exports_132 (by decide +kernel) sh_90 rfl rfl).trans ((zd_bipush (v := 6) a_M_exports_135 (by decide)).trans ((zd_num (st2 := [.int 6, .ref 91, .int 6, .ref 91]) a_M_exports_137 rfl rfl rfl rfl).trans ((zd_iald (h := (zSH, (zup (zup (zup G 91 (63 + 22 * x1 + 7).toNatClampNeg 2) 91 (63 + 22 * x1 + 9).toNatClampNeg s0) 91 3 (((zup (zup G 91 (63 + 22 * x1 + 7).toNatClampNeg 2) 91 (63 + 22 * x1 + 9).toNatClampNeg s0) 91 3) + s0)))) a_M_exports_138 sh_91 rfl).trans ((if_pos (by decide)).trans ((zd_iload_n a_M_exports_139 rfl).trans ((zd_num (st2 := [.int (((zup (zup (zup G 91 (63 + 22 * x1 + 7).toNatClampNeg 2) 91 (63 + 22 * x1 + 9).toNatClampNeg s0) 91 3 (((zup (zup G 91 (63 + 22 * x1 + 7).toNatClampNeg 2) 91 (63 + 22 * x1 + 9).toNatClampNeg s0) 91 3) + s0)) 91 6) + s0), .int 6, .ref 91]) a_M_exports_140 rfl rfl rfl rfl).trans ((zd_iast (h := (zSH, (zup (zup (zup G 91 (63 + 22 * x1 + 7).toNatClampNeg 2) 91 (63 + 22 * x1 + 9).toNatClampNeg s0) 91 3 (((zup (zup G 91 (63 + 22 * x1 + 7).toNatClampNeg 2) 91 (63 + 22 * x1 + 9).toNatClampNeg s0) 91 3) + s0)))) a_M_exports_141 sh_91).trans ((if_pos (by decide)).trans ((zd_iload_n a_M_exports_142 rfl).trans (zd_iret a_M_exports_143 rfl (znr_int _)))))))))))))))))))))))))))))))))))))))))
theorem a_M_goBy_0 : zAt 149 0 m_M_goBy (.iload_n 1) 1 := ⟨hm_M_goBy, by decide +kernel⟩
theorem a_M_goBy_1 : zAt 149 1 m_M_goBy (.iconst 1) 1 := ⟨hm_M_goBy, by decide +kernel⟩
theorem a_M_goBy_2 : zAt 149 2 m_M_goBy (.bipush 99) 2 := ⟨hm_M_goBy, by decide +kernel⟩
theorem a_M_goBy_4 : zAt 149 4 m_M_goBy (.invokestatic 64) 3 := ⟨hm_M_goBy, by decide +kernel⟩
theorem a_M_goBy_7 : zAt 149 7 m_M_goBy (.ifCond .ne 10) 3 := ⟨hm_M_goBy, by decide +kernel⟩
theorem a_M_goBy_10 : zAt 149 10 m_M_goBy (.aload_n 0) 1 := ⟨hm_M_goBy, by decide +kernel⟩
theorem a_M_goBy_11 : zAt 149 11 m_M_goBy (.bipush (-12)) 2 := ⟨hm_M_goBy, by decide +kernel⟩
theorem a_M_goBy_13 : zAt 149 13 m_M_goBy (.invokevirtual 53) 3 := ⟨hm_M_goBy, by decide +kernel⟩
theorem a_M_goBy_16 : zAt 149 16 m_M_goBy (.ireturn) 1 := ⟨hm_M_goBy, by decide +kernel⟩
theorem a_M_goBy_17 : zAt 149 17 m_M_goBy (.aload_n 0) 1 := ⟨hm_M_goBy, by decide +kernel⟩
theorem a_M_goBy_18 : zAt 149 18 m_M_goBy (.getfield 7) 3 := ⟨hm_M_goBy, by decide +kernel⟩
theorem a_M_goBy_21 : zAt 149 21 m_M_goBy (.iconst 0) 1 := ⟨hm_M_goBy, by decide +kernel⟩
theorem a_M_goBy_22 : zAt 149 22 m_M_goBy (.dup2) 1 := ⟨hm_M_goBy, by decide +kernel⟩
theorem a_M_goBy_23 : zAt 149 23 m_M_goBy (.iaload) 1 := ⟨hm_M_goBy, by decide +kernel⟩
theorem a_M_goBy_24 : zAt 149 24 m_M_goBy (.iload_n 1) 1 := ⟨hm_M_goBy, by decide +kernel⟩
theorem a_M_goBy_25 : zAt 149 25 m_M_goBy (.iadd) 1 := ⟨hm_M_goBy, by decide +kernel⟩
theorem a_M_goBy_26 : zAt 149 26 m_M_goBy (.iastore) 1 := ⟨hm_M_goBy, by decide +kernel⟩
theorem a_M_goBy_27 : zAt 149 27 m_M_goBy (.aload_n 0) 1 := ⟨hm_M_goBy, by decide +kernel⟩
theorem a_M_goBy_28 : zAt 149 28 m_M_goBy (.getfield 7) 3 := ⟨hm_M_goBy, by decide +kernel⟩
theorem a_M_goBy_31 : zAt 149 31 m_M_goBy (.iconst 0) 1 := ⟨hm_M_goBy, by decide +kernel⟩
theorem a_M_goBy_32 : zAt 149 32 m_M_goBy (.iaload) 1 := ⟨hm_M_goBy, by decide +kernel⟩
theorem a_M_goBy_33 : zAt 149 33 m_M_goBy (.ireturn) 1 := ⟨hm_M_goBy, by decide +kernel⟩
theorem B_M_goBy_0 {G : Nat → Nat → Int32} {x1 : Int32} : zden 149 0 [.ref 90, .int x1] [] (zSH, G) = if ¬ (bI (1 ≤ x1 ∧ x1 ≤ 99)) = 0 then some (some (.int ((zup G 91 0 ((G 91 0) + x1)) 91 0)), (zSH, (zup G 91 0 ((G 91 0) + x1)))) else some (some (.int (-12)), (zSH, (zup G 90 0 (-12)))) :=
  (zd_iload_n a_M_goBy_0 rfl).trans ((zd_iconst (v := 1) a_M_goBy_1 (by decide)).trans ((zd_bipush (v := 99) a_M_goBy_2 (by decide)).trans ((zd_cal (kd := 1) (tg := 110) (T := m_M_isIn) a_M_goBy_4 (by decide +kernel) hm_M_isIn rfl rfl rfl rfl).trans (((congrArg (zaft 149 7 [.ref 90, .int x1] [] (zSH, G)) (ms_isIn)).trans zaft_same).trans ((zd_if_ne a_M_goBy_7 rfl).trans (zitc (fun p2 => (zd_aload_n a_M_goBy_17 rfl).trans ((zd_getR (h := (zSH, G)) (ci := 8) (fi := 5) (a := 91) a_M_goBy_18 (by decide +kernel) sh_90 rfl rfl).trans ((zd_iconst (v := 0) a_M_goBy_21 (by decide)).trans ((zd_num (st2 := [.int 0, .ref 91, .int 0, .ref 91]) a_M_goBy_22 rfl rfl rfl rfl).trans ((zd_iald (h := (zSH, G)) a_M_goBy_23 sh_91 rfl).trans ((if_pos (by decide)).trans ((zd_iload_n a_M_goBy_24 rfl).trans ((zd_num (st2 := [.int ((G 91 0) + x1), .int 0, .ref 91]) a_M_goBy_25 rfl rfl rfl rfl).trans ((zd_iast (h := (zSH, G)) a_M_goBy_26 sh_91).trans ((if_pos (by decide)).trans ((zd_aload_n a_M_goBy_27 rfl).trans ((zd_getR (h := (zSH, (zup G 91 0 ((G 91 0) + x1)))) (ci := 8) (fi := 5) (a := 91) a_M_goBy_28 (by decide +kernel) sh_90 rfl rfl).trans ((zd_iconst (v := 0) a_M_goBy_31 (by decide)).trans ((zd_iald (h := (zSH, (zup G 91 0 ((G 91 0) + x1)))) a_M_goBy_32 sh_91 rfl).trans ((if_pos (by decide)).trans (zd_iret a_M_goBy_33 rfl (znr_int _))))))))))))))))) (fun p2 => (zd_aload_n a_M_goBy_10 rfl).trans ((zd_bipush (v := (-12)) a_M_goBy_11 (by decide)).trans ((zd_cal (kd := 0) (tg := 111) (T := m_M_fail) a_M_goBy_13 (by decide +kernel) hm_M_fail rfl rfl rfl rfl).trans (((congrArg (zaft 149 16 [.ref 90, .int x1] [] (zSH, G)) (ms_fail)).trans zaft_same).trans (zd_iret a_M_goBy_16 rfl (znr_int _))))))))))))
theorem a_M_would_0 : zAt 150 0 m_M_would (.aload_n 0) 1 := ⟨hm_M_would, by decide +kernel⟩
theorem a_M_would_1 : zAt 150 1 m_M_would (.iload_n 1) 1 := ⟨hm_M_would, by decide +kernel⟩
theorem a_M_would_2 : zAt 150 2 m_M_would (.invokevirtual 114) 3 := ⟨hm_M_would, by decide +kernel⟩
theorem a_M_would_5 : zAt 150 5 m_M_would (.ifCond .eq 19) 3 := ⟨hm_M_would, by decide +kernel⟩
theorem a_M_would_8 : zAt 150 8 m_M_would (.iload_n 2) 1 := ⟨hm_M_would, by decide +kernel⟩
theorem a_M_would_9 : zAt 150 9 m_M_would (.invokestatic 118) 3 := ⟨hm_M_would, by decide +kernel⟩
theorem a_M_would_12 : zAt 150 12 m_M_would (.ifCond .eq 12) 3 := ⟨hm_M_would, by decide +kernel⟩
theorem a_M_would_15 : zAt 150 15 m_M_would (.aload_n 0) 1 := ⟨hm_M_would, by decide +kernel⟩
theorem a_M_would_16 : zAt 150 16 m_M_would (.iload_n 1) 1 := ⟨hm_M_would, by decide +kernel⟩
theorem a_M_would_17 : zAt 150 17 m_M_would (.iload_n 2) 1 := ⟨hm_M_would, by decide +kernel⟩
theorem a_M_would_18 : zAt 150 18 m_M_would (.invokevirtual 128) 3 := ⟨hm_M_would, by decide +kernel⟩
theorem a_M_would_21 : zAt 150 21 m_M_would (.goto 5) 3 := ⟨hm_M_would, by decide +kernel⟩
theorem a_M_would_24 : zAt 150 24 m_M_would (.bipush (-11)) 2 := ⟨hm_M_would, by decide +kernel⟩
theorem a_M_would_26 : zAt 150 26 m_M_would (.ireturn) 1 := ⟨hm_M_would, by decide +kernel⟩
theorem B_M_would_0 {G : Nat → Nat → Int32} {x1 x2 : Int32} : zden 150 0 [.ref 90, .int x1, .int x2] [] (zSH, G) = if (bI (0 ≤ x1 ∧ x1 ≤ G 91 2 - 1)) = 0 then some (some (.int (-11)), (zSH, G)) else if (bI (0 ≤ x2 ∧ x2 ≤ 4)) = 0 then some (some (.int (-11)), (zSH, G)) else zaft 150 21 [.ref 90, .int x1, .int x2] [] (zSH, G) (zden 134 0 [.ref 90, .int x1, .int x2, .retAddr 0, .retAddr 0, .retAddr 0, .retAddr 0] [] (zSH, G)) :=
  (zd_aload_n a_M_would_0 rfl).trans ((zd_iload_n a_M_would_1 rfl).trans ((zd_cal (kd := 0) (tg := 130) (T := m_M_isGood) a_M_would_2 (by decide +kernel) hm_M_isGood rfl rfl rfl rfl).trans (((congrArg (zaft 150 5 [.ref 90, .int x1, .int x2] [] (zSH, G)) (ms_isGood)).trans zaft_same).trans ((zd_if_eq a_M_would_5 rfl).trans (zitc (fun p5 => (zd_bipush (v := (-11)) a_M_would_24 (by decide)).trans (zd_iret a_M_would_26 rfl (znr_int _))) (fun p5 => (zd_iload_n a_M_would_8 rfl).trans ((zd_cal (kd := 1) (tg := 131) (T := m_M_isCountry) a_M_would_9 (by decide +kernel) hm_M_isCountry rfl rfl rfl rfl).trans (((congrArg (zaft 150 12 [.ref 90, .int x1, .int x2] [] (zSH, G)) (ms_isCountry)).trans zaft_same).trans ((zd_if_eq a_M_would_12 rfl).trans (zitc (fun p6 => (zd_bipush (v := (-11)) a_M_would_24 (by decide)).trans (zd_iret a_M_would_26 rfl (znr_int _))) (fun p6 => (zd_aload_n a_M_would_15 rfl).trans ((zd_iload_n a_M_would_16 rfl).trans ((zd_iload_n a_M_would_17 rfl).trans ((zd_cal (kd := 0) (tg := 134) (T := m_M_duty) a_M_would_18 (by decide +kernel) hm_M_duty rfl rfl rfl rfl)))))))))))))))
theorem B_M_would_21 {G : Nat → Nat → Int32} {x1 x2 s0 : Int32} : zden 150 21 [.ref 90, .int x1, .int x2] [.int s0] (zSH, G) = some (some (.int s0), (zSH, G)) :=
  (zd_goto a_M_would_21 rfl).trans (zd_iret a_M_would_26 rfl (znr_int _))
theorem a_M_cheapest_0 : zAt 151 0 m_M_cheapest (.aload_n 0) 1 := ⟨hm_M_cheapest, by decide +kernel⟩
theorem a_M_cheapest_1 : zAt 151 1 m_M_cheapest (.iload_n 1) 1 := ⟨hm_M_cheapest, by decide +kernel⟩
theorem a_M_cheapest_2 : zAt 151 2 m_M_cheapest (.invokevirtual 114) 3 := ⟨hm_M_cheapest, by decide +kernel⟩
theorem a_M_cheapest_5 : zAt 151 5 m_M_cheapest (.ifCond .ne 6) 3 := ⟨hm_M_cheapest, by decide +kernel⟩
theorem a_M_cheapest_8 : zAt 151 8 m_M_cheapest (.bipush (-11)) 2 := ⟨hm_M_cheapest, by decide +kernel⟩
theorem a_M_cheapest_10 : zAt 151 10 m_M_cheapest (.ireturn) 1 := ⟨hm_M_cheapest, by decide +kernel⟩
theorem a_M_cheapest_11 : zAt 151 11 m_M_cheapest (.iconst 0) 1 := ⟨hm_M_cheapest, by decide +kernel⟩
theorem a_M_cheapest_12 : zAt 151 12 m_M_cheapest (.istore_n 2) 1 := ⟨hm_M_cheapest, by decide +kernel⟩
theorem a_M_cheapest_13 : zAt 151 13 m_M_cheapest (.iconst 1) 1 := ⟨hm_M_cheapest, by decide +kernel⟩
theorem a_M_cheapest_14 : zAt 151 14 m_M_cheapest (.istore_n 3) 1 := ⟨hm_M_cheapest, by decide +kernel⟩
theorem a_M_cheapest_15 : zAt 151 15 m_M_cheapest (.iload_n 3) 1 := ⟨hm_M_cheapest, by decide +kernel⟩
theorem a_M_cheapest_16 : zAt 151 16 m_M_cheapest (.iconst 5) 1 := ⟨hm_M_cheapest, by decide +kernel⟩
theorem a_M_cheapest_17 : zAt 151 17 m_M_cheapest (.if_icmp .ge 30) 3 := ⟨hm_M_cheapest, by decide +kernel⟩
theorem a_M_cheapest_20 : zAt 151 20 m_M_cheapest (.aload_n 0) 1 := ⟨hm_M_cheapest, by decide +kernel⟩
theorem a_M_cheapest_21 : zAt 151 21 m_M_cheapest (.iload_n 1) 1 := ⟨hm_M_cheapest, by decide +kernel⟩
theorem a_M_cheapest_22 : zAt 151 22 m_M_cheapest (.iload_n 3) 1 := ⟨hm_M_cheapest, by decide +kernel⟩
theorem a_M_cheapest_23 : zAt 151 23 m_M_cheapest (.invokevirtual 128) 3 := ⟨hm_M_cheapest, by decide +kernel⟩
theorem a_M_cheapest_26 : zAt 151 26 m_M_cheapest (.aload_n 0) 1 := ⟨hm_M_cheapest, by decide +kernel⟩
theorem a_M_cheapest_27 : zAt 151 27 m_M_cheapest (.iload_n 1) 1 := ⟨hm_M_cheapest, by decide +kernel⟩
theorem a_M_cheapest_28 : zAt 151 28 m_M_cheapest (.iload_n 2) 1 := ⟨hm_M_cheapest, by decide +kernel⟩
theorem a_M_cheapest_29 : zAt 151 29 m_M_cheapest (.invokevirtual 128) 3 := ⟨hm_M_cheapest, by decide +kernel⟩
theorem a_M_cheapest_32 : zAt 151 32 m_M_cheapest (.if_icmp .ge 7) 3 := ⟨hm_M_cheapest, by decide +kernel⟩
theorem a_M_cheapest_35 : zAt 151 35 m_M_cheapest (.iload_n 3) 1 := ⟨hm_M_cheapest, by decide +kernel⟩
theorem a_M_cheapest_36 : zAt 151 36 m_M_cheapest (.goto 4) 3 := ⟨hm_M_cheapest, by decide +kernel⟩
theorem a_M_cheapest_39 : zAt 151 39 m_M_cheapest (.iload_n 2) 1 := ⟨hm_M_cheapest, by decide +kernel⟩
theorem a_M_cheapest_40 : zAt 151 40 m_M_cheapest (.istore_n 2) 1 := ⟨hm_M_cheapest, by decide +kernel⟩
theorem a_M_cheapest_41 : zAt 151 41 m_M_cheapest (.iinc 3 1) 3 := ⟨hm_M_cheapest, by decide +kernel⟩
theorem a_M_cheapest_44 : zAt 151 44 m_M_cheapest (.goto (-29)) 3 := ⟨hm_M_cheapest, by decide +kernel⟩
theorem a_M_cheapest_47 : zAt 151 47 m_M_cheapest (.iload_n 2) 1 := ⟨hm_M_cheapest, by decide +kernel⟩
theorem a_M_cheapest_48 : zAt 151 48 m_M_cheapest (.ireturn) 1 := ⟨hm_M_cheapest, by decide +kernel⟩
theorem B_M_cheapest_0 {G : Nat → Nat → Int32} {x1 : Int32} : zden 151 0 [.ref 90, .int x1, .retAddr 0, .retAddr 0] [] (zSH, G) = if ¬ (bI (0 ≤ x1 ∧ x1 ≤ G 91 2 - 1)) = 0 then zden 151 15 [.ref 90, .int x1, .int 0, .int 1] [] (zSH, G) else some (some (.int (-11)), (zSH, G)) :=
  (zd_aload_n a_M_cheapest_0 rfl).trans ((zd_iload_n a_M_cheapest_1 rfl).trans ((zd_cal (kd := 0) (tg := 130) (T := m_M_isGood) a_M_cheapest_2 (by decide +kernel) hm_M_isGood rfl rfl rfl rfl).trans (((congrArg (zaft 151 5 [.ref 90, .int x1, .retAddr 0, .retAddr 0] [] (zSH, G)) (ms_isGood)).trans zaft_same).trans ((zd_if_ne a_M_cheapest_5 rfl).trans (zitc (fun p12 => (zd_iconst (v := 0) a_M_cheapest_11 (by decide)).trans ((zd_istore_n a_M_cheapest_12 rfl rfl rfl).trans ((zd_iconst (v := 1) a_M_cheapest_13 (by decide)).trans ((zd_istore_n a_M_cheapest_14 rfl rfl rfl))))) (fun p12 => (zd_bipush (v := (-11)) a_M_cheapest_8 (by decide)).trans (zd_iret a_M_cheapest_10 rfl (znr_int _))))))))
theorem B_M_cheapest_15 {G : Nat → Nat → Int32} {x1 x2 x3 : Int32} : zden 151 15 [.ref 90, .int x1, .int x2, .int x3] [] (zSH, G) = if 5 ≤ x3 then some (some (.int x2), (zSH, G)) else zaft 151 26 [.ref 90, .int x1, .int x2, .int x3] [] (zSH, G) (zden 134 0 [.ref 90, .int x1, .int x3, .retAddr 0, .retAddr 0, .retAddr 0, .retAddr 0] [] (zSH, G)) :=
  (zd_iload_n a_M_cheapest_15 rfl).trans ((zd_iconst (v := 5) a_M_cheapest_16 (by decide)).trans ((zd_icmp_ge a_M_cheapest_17 rfl).trans (zitc (fun p13 => (zd_iload_n a_M_cheapest_47 rfl).trans (zd_iret a_M_cheapest_48 rfl (znr_int _))) (fun p13 => (zd_aload_n a_M_cheapest_20 rfl).trans ((zd_iload_n a_M_cheapest_21 rfl).trans ((zd_iload_n a_M_cheapest_22 rfl).trans ((zd_cal (kd := 0) (tg := 134) (T := m_M_duty) a_M_cheapest_23 (by decide +kernel) hm_M_duty rfl rfl rfl rfl))))))))
theorem B_M_cheapest_26 {G : Nat → Nat → Int32} {x1 x2 x3 s0 : Int32} : zden 151 26 [.ref 90, .int x1, .int x2, .int x3] [.int s0] (zSH, G) = zaft 151 32 [.ref 90, .int x1, .int x2, .int x3] [.int s0] (zSH, G) (zden 134 0 [.ref 90, .int x1, .int x2, .retAddr 0, .retAddr 0, .retAddr 0, .retAddr 0] [] (zSH, G)) :=
  (zd_aload_n a_M_cheapest_26 rfl).trans ((zd_iload_n a_M_cheapest_27 rfl).trans ((zd_iload_n a_M_cheapest_28 rfl).trans ((zd_cal (kd := 0) (tg := 134) (T := m_M_duty) a_M_cheapest_29 (by decide +kernel) hm_M_duty rfl rfl rfl rfl))))
theorem B_M_cheapest_32 {G : Nat → Nat → Int32} {x1 x2 x3 s0 s1 : Int32} : zden 151 32 [.ref 90, .int x1, .int x2, .int x3] [.int s0, .int s1] (zSH, G) = if s0 ≤ s1 then zden 151 40 [.ref 90, .int x1, .int x2, .int x3] [.int x2] (zSH, G) else zden 151 40 [.ref 90, .int x1, .int x2, .int x3] [.int x3] (zSH, G) :=
  (zd_icmp_ge a_M_cheapest_32 rfl).trans (zitc (fun p14 => (zd_iload_n a_M_cheapest_39 rfl)) (fun p14 => (zd_iload_n a_M_cheapest_35 rfl).trans ((zd_goto a_M_cheapest_36 rfl))))
theorem B_M_cheapest_40 {G : Nat → Nat → Int32} {x1 x2 x3 s0 : Int32} : zden 151 40 [.ref 90, .int x1, .int x2, .int x3] [.int s0] (zSH, G) = zden 151 15 [.ref 90, .int x1, .int s0, .int (x3 + 1)] [] (zSH, G) :=
  (zd_istore_n a_M_cheapest_40 rfl rfl rfl).trans ((zd_iinc (v := 1) a_M_cheapest_41 rfl (by decide) rfl rfl rfl).trans ((zd_goto a_M_cheapest_44 rfl)))
theorem a_M_isAhead_0 : zAt 153 0 m_M_isAhead (.aload_n 0) 1 := ⟨hm_M_isAhead, by decide +kernel⟩
theorem a_M_isAhead_1 : zAt 153 1 m_M_isAhead (.iload_n 1) 1 := ⟨hm_M_isAhead, by decide +kernel⟩
theorem a_M_isAhead_2 : zAt 153 2 m_M_isAhead (.aload_n 0) 1 := ⟨hm_M_isAhead, by decide +kernel⟩
theorem a_M_isAhead_3 : zAt 153 3 m_M_isAhead (.iload_n 1) 1 := ⟨hm_M_isAhead, by decide +kernel⟩
theorem a_M_isAhead_4 : zAt 153 4 m_M_isAhead (.invokevirtual 125) 3 := ⟨hm_M_isAhead, by decide +kernel⟩
theorem a_M_isAhead_7 : zAt 153 7 m_M_isAhead (.invokevirtual 128) 3 := ⟨hm_M_isAhead, by decide +kernel⟩
theorem a_M_isAhead_10 : zAt 153 10 m_M_isAhead (.aload_n 0) 1 := ⟨hm_M_isAhead, by decide +kernel⟩
theorem a_M_isAhead_11 : zAt 153 11 m_M_isAhead (.iload_n 2) 1 := ⟨hm_M_isAhead, by decide +kernel⟩
theorem a_M_isAhead_12 : zAt 153 12 m_M_isAhead (.aload_n 0) 1 := ⟨hm_M_isAhead, by decide +kernel⟩
theorem a_M_isAhead_13 : zAt 153 13 m_M_isAhead (.iload_n 2) 1 := ⟨hm_M_isAhead, by decide +kernel⟩
theorem a_M_isAhead_14 : zAt 153 14 m_M_isAhead (.invokevirtual 125) 3 := ⟨hm_M_isAhead, by decide +kernel⟩
theorem a_M_isAhead_17 : zAt 153 17 m_M_isAhead (.invokevirtual 128) 3 := ⟨hm_M_isAhead, by decide +kernel⟩
theorem a_M_isAhead_20 : zAt 153 20 m_M_isAhead (.isub) 1 := ⟨hm_M_isAhead, by decide +kernel⟩
theorem a_M_isAhead_21 : zAt 153 21 m_M_isAhead (.istore_n 3) 1 := ⟨hm_M_isAhead, by decide +kernel⟩
theorem a_M_isAhead_22 : zAt 153 22 m_M_isAhead (.iload_n 3) 1 := ⟨hm_M_isAhead, by decide +kernel⟩
theorem a_M_isAhead_23 : zAt 153 23 m_M_isAhead (.ifCond .eq 7) 3 := ⟨hm_M_isAhead, by decide +kernel⟩
theorem a_M_isAhead_26 : zAt 153 26 m_M_isAhead (.iload_n 3) 1 := ⟨hm_M_isAhead, by decide +kernel⟩
theorem a_M_isAhead_27 : zAt 153 27 m_M_isAhead (.goto 24) 3 := ⟨hm_M_isAhead, by decide +kernel⟩
theorem a_M_isAhead_30 : zAt 153 30 m_M_isAhead (.aload_n 0) 1 := ⟨hm_M_isAhead, by decide +kernel⟩
theorem a_M_isAhead_31 : zAt 153 31 m_M_isAhead (.getfield 7) 3 := ⟨hm_M_isAhead, by decide +kernel⟩
theorem a_M_isAhead_34 : zAt 153 34 m_M_isAhead (.iload_n 2) 1 := ⟨hm_M_isAhead, by decide +kernel⟩
theorem a_M_isAhead_35 : zAt 153 35 m_M_isAhead (.iconst 2) 1 := ⟨hm_M_isAhead, by decide +kernel⟩
theorem a_M_isAhead_36 : zAt 153 36 m_M_isAhead (.invokestatic 91) 3 := ⟨hm_M_isAhead, by decide +kernel⟩
theorem a_M_isAhead_39 : zAt 153 39 m_M_isAhead (.iaload) 1 := ⟨hm_M_isAhead, by decide +kernel⟩
theorem a_M_isAhead_40 : zAt 153 40 m_M_isAhead (.aload_n 0) 1 := ⟨hm_M_isAhead, by decide +kernel⟩
theorem a_M_isAhead_41 : zAt 153 41 m_M_isAhead (.getfield 7) 3 := ⟨hm_M_isAhead, by decide +kernel⟩
theorem a_M_isAhead_44 : zAt 153 44 m_M_isAhead (.iload_n 1) 1 := ⟨hm_M_isAhead, by decide +kernel⟩
theorem a_M_isAhead_45 : zAt 153 45 m_M_isAhead (.iconst 2) 1 := ⟨hm_M_isAhead, by decide +kernel⟩
theorem a_M_isAhead_46 : zAt 153 46 m_M_isAhead (.invokestatic 91) 3 := ⟨hm_M_isAhead, by decide +kernel⟩
theorem a_M_isAhead_49 : zAt 153 49 m_M_isAhead (.iaload) 1 := ⟨hm_M_isAhead, by decide +kernel⟩
theorem a_M_isAhead_50 : zAt 153 50 m_M_isAhead (.isub) 1 := ⟨hm_M_isAhead, by decide +kernel⟩
theorem a_M_isAhead_51 : zAt 153 51 m_M_isAhead (.istore_n 3) 1 := ⟨hm_M_isAhead, by decide +kernel⟩
theorem a_M_isAhead_52 : zAt 153 52 m_M_isAhead (.iload_n 3) 1 := ⟨hm_M_isAhead, by decide +kernel⟩
theorem a_M_isAhead_53 : zAt 153 53 m_M_isAhead (.ifCond .gt 12) 3 := ⟨hm_M_isAhead, by decide +kernel⟩
theorem a_M_isAhead_56 : zAt 153 56 m_M_isAhead (.iload_n 3) 1 := ⟨hm_M_isAhead, by decide +kernel⟩
theorem a_M_isAhead_57 : zAt 153 57 m_M_isAhead (.ifCond .ne 12) 3 := ⟨hm_M_isAhead, by decide +kernel⟩
theorem a_M_isAhead_60 : zAt 153 60 m_M_isAhead (.iload_n 1) 1 := ⟨hm_M_isAhead, by decide +kernel⟩
theorem a_M_isAhead_61 : zAt 153 61 m_M_isAhead (.iload_n 2) 1 := ⟨hm_M_isAhead, by decide +kernel⟩
theorem a_M_isAhead_62 : zAt 153 62 m_M_isAhead (.if_icmp .ge 7) 3 := ⟨hm_M_isAhead, by decide +kernel⟩
theorem a_M_isAhead_65 : zAt 153 65 m_M_isAhead (.iconst 1) 1 := ⟨hm_M_isAhead, by decide +kernel⟩
theorem a_M_isAhead_66 : zAt 153 66 m_M_isAhead (.goto 4) 3 := ⟨hm_M_isAhead, by decide +kernel⟩
theorem a_M_isAhead_69 : zAt 153 69 m_M_isAhead (.iconst 0) 1 := ⟨hm_M_isAhead, by decide +kernel⟩
theorem a_M_isAhead_70 : zAt 153 70 m_M_isAhead (.ireturn) 1 := ⟨hm_M_isAhead, by decide +kernel⟩
theorem B_M_isAhead_0 {G : Nat → Nat → Int32} {x1 x2 : Int32} : zden 153 0 [.ref 90, .int x1, .int x2, .retAddr 0] [] (zSH, G) = zaft 153 7 [.ref 90, .int x1, .int x2, .retAddr 0] [.int x1, .ref 90] (zSH, G) (zden 133 0 [.ref 90, .int x1, .retAddr 0, .retAddr 0, .retAddr 0] [] (zSH, G)) :=
  (zd_aload_n a_M_isAhead_0 rfl).trans ((zd_iload_n a_M_isAhead_1 rfl).trans ((zd_aload_n a_M_isAhead_2 rfl).trans ((zd_iload_n a_M_isAhead_3 rfl).trans ((zd_cal (kd := 0) (tg := 133) (T := m_M_origin) a_M_isAhead_4 (by decide +kernel) hm_M_origin rfl rfl rfl rfl)))))
theorem B_M_isAhead_7 {G : Nat → Nat → Int32} {x1 x2 s0 s1 : Int32} : zden 153 7 [.ref 90, .int x1, .int x2, .retAddr 0] [.int s0, .int s1, .ref 90] (zSH, G) = zaft 153 10 [.ref 90, .int x1, .int x2, .retAddr 0] [] (zSH, G) (zden 134 0 [.ref 90, .int s1, .int s0, .retAddr 0, .retAddr 0, .retAddr 0, .retAddr 0] [] (zSH, G)) :=
  (zd_cal (kd := 0) (tg := 134) (T := m_M_duty) a_M_isAhead_7 (by decide +kernel) hm_M_duty rfl rfl rfl rfl)
theorem B_M_isAhead_10 {G : Nat → Nat → Int32} {x1 x2 s0 : Int32} : zden 153 10 [.ref 90, .int x1, .int x2, .retAddr 0] [.int s0] (zSH, G) = zaft 153 17 [.ref 90, .int x1, .int x2, .retAddr 0] [.int x2, .ref 90, .int s0] (zSH, G) (zden 133 0 [.ref 90, .int x2, .retAddr 0, .retAddr 0, .retAddr 0] [] (zSH, G)) :=
  (zd_aload_n a_M_isAhead_10 rfl).trans ((zd_iload_n a_M_isAhead_11 rfl).trans ((zd_aload_n a_M_isAhead_12 rfl).trans ((zd_iload_n a_M_isAhead_13 rfl).trans ((zd_cal (kd := 0) (tg := 133) (T := m_M_origin) a_M_isAhead_14 (by decide +kernel) hm_M_origin rfl rfl rfl rfl)))))
theorem B_M_isAhead_17 {G : Nat → Nat → Int32} {x1 x2 s0 s1 s3 : Int32} : zden 153 17 [.ref 90, .int x1, .int x2, .retAddr 0] [.int s0, .int s1, .ref 90, .int s3] (zSH, G) = zaft 153 20 [.ref 90, .int x1, .int x2, .retAddr 0] [.int s3] (zSH, G) (zden 134 0 [.ref 90, .int s1, .int s0, .retAddr 0, .retAddr 0, .retAddr 0, .retAddr 0] [] (zSH, G)) :=
  (zd_cal (kd := 0) (tg := 134) (T := m_M_duty) a_M_isAhead_17 (by decide +kernel) hm_M_duty rfl rfl rfl rfl)
theorem B_M_isAhead_20 {G : Nat → Nat → Int32} {x1 x2 s0 s1 : Int32} (z39_0 : ((s1 - s0) = 0) → zin (63 + 22 * x2 + 2) 327 = true) (z49_1 : ((s1 - s0) = 0) → zin (63 + 22 * x1 + 2) 327 = true) : zden 153 20 [.ref 90, .int x1, .int x2, .retAddr 0] [.int s0, .int s1] (zSH, G) = if (s1 - s0) = 0 then zden 153 51 [.ref 90, .int x1, .int x2, .int (s1 - s0)] [.int ((G 91 (63 + 22 * x2 + 2).toNatClampNeg) - (G 91 (63 + 22 * x1 + 2).toNatClampNeg))] (zSH, G) else zden 153 51 [.ref 90, .int x1, .int x2, .int (s1 - s0)] [.int (s1 - s0)] (zSH, G) :=
  (zd_num (st2 := [.int (s1 - s0)]) a_M_isAhead_20 rfl rfl rfl rfl).trans ((zd_istore_n a_M_isAhead_21 rfl rfl rfl).trans ((zd_iload_n a_M_isAhead_22 rfl).trans ((zd_if_eq a_M_isAhead_23 rfl).trans (zitc (fun p10 => (zd_aload_n a_M_isAhead_30 rfl).trans ((zd_getR (h := (zSH, G)) (ci := 8) (fi := 5) (a := 91) a_M_isAhead_31 (by decide +kernel) sh_90 rfl rfl).trans ((zd_iload_n a_M_isAhead_34 rfl).trans ((zd_iconst (v := 2) a_M_isAhead_35 (by decide)).trans ((zd_cal (kd := 1) (tg := 123) (T := m_M_of) a_M_isAhead_36 (by decide +kernel) hm_M_of rfl rfl rfl rfl).trans (((congrArg (zaft 153 39 [.ref 90, .int x1, .int x2, .int (s1 - s0)] [.ref 91] (zSH, G)) (ms_of)).trans zaft_same).trans ((zd_iald (h := (zSH, G)) a_M_isAhead_39 sh_91 rfl).trans ((if_pos (z39_0 p10)).trans ((zd_aload_n a_M_isAhead_40 rfl).trans ((zd_getR (h := (zSH, G)) (ci := 8) (fi := 5) (a := 91) a_M_isAhead_41 (by decide +kernel) sh_90 rfl rfl).trans ((zd_iload_n a_M_isAhead_44 rfl).trans ((zd_iconst (v := 2) a_M_isAhead_45 (by decide)).trans ((zd_cal (kd := 1) (tg := 123) (T := m_M_of) a_M_isAhead_46 (by decide +kernel) hm_M_of rfl rfl rfl rfl).trans (((congrArg (zaft 153 49 [.ref 90, .int x1, .int x2, .int (s1 - s0)] [.ref 91, .int (G 91 (63 + 22 * x2 + 2).toNatClampNeg)] (zSH, G)) (ms_of)).trans zaft_same).trans ((zd_iald (h := (zSH, G)) a_M_isAhead_49 sh_91 rfl).trans ((if_pos (z49_1 p10)).trans ((zd_num (st2 := [.int ((G 91 (63 + 22 * x2 + 2).toNatClampNeg) - (G 91 (63 + 22 * x1 + 2).toNatClampNeg))]) a_M_isAhead_50 rfl rfl rfl rfl)))))))))))))))))) (fun p10 => (zd_iload_n a_M_isAhead_26 rfl).trans ((zd_goto a_M_isAhead_27 rfl)))))))
theorem B_M_isAhead_51 {G : Nat → Nat → Int32} {x1 x2 x3 s0 : Int32} : zden 153 51 [.ref 90, .int x1, .int x2, .int x3] [.int s0] (zSH, G) = if 0 < s0 then zden 153 65 [.ref 90, .int x1, .int x2, .int s0] [] (zSH, G) else if ¬ s0 = 0 then some (some (.int 0), (zSH, G)) else if x2 ≤ x1 then some (some (.int 0), (zSH, G)) else zden 153 65 [.ref 90, .int x1, .int x2, .int s0] [] (zSH, G) :=
  (zd_istore_n a_M_isAhead_51 rfl rfl rfl).trans ((zd_iload_n a_M_isAhead_52 rfl).trans ((zd_if_gt a_M_isAhead_53 rfl).trans (zitc (fun p11 => rfl) (fun p11 => (zd_iload_n a_M_isAhead_56 rfl).trans ((zd_if_ne a_M_isAhead_57 rfl).trans (zitc (fun p12 => (zd_iconst (v := 0) a_M_isAhead_69 (by decide)).trans (zd_iret a_M_isAhead_70 rfl (by decide))) (fun p12 => (zd_iload_n a_M_isAhead_60 rfl).trans ((zd_iload_n a_M_isAhead_61 rfl).trans ((zd_icmp_ge a_M_isAhead_62 rfl).trans (zitc (fun p13 => (zd_iconst (v := 0) a_M_isAhead_69 (by decide)).trans (zd_iret a_M_isAhead_70 rfl (by decide))) (fun p13 => rfl)))))))))))
theorem B_M_isAhead_65 {G : Nat → Nat → Int32} {x1 x2 x3 : Int32} : zden 153 65 [.ref 90, .int x1, .int x2, .int x3] [] (zSH, G) = some (some (.int 1), (zSH, G)) :=
  (zd_iconst (v := 1) a_M_isAhead_65 (by decide)).trans ((zd_goto a_M_isAhead_66 rfl).trans (zd_iret a_M_isAhead_70 rfl (by decide)))
theorem a_M_ranked_0 : zAt 152 0 m_M_ranked (.iconst 0) 1 := ⟨hm_M_ranked, by decide +kernel⟩
theorem a_M_ranked_1 : zAt 152 1 m_M_ranked (.istore_n 2) 1 := ⟨hm_M_ranked, by decide +kernel⟩
theorem a_M_ranked_2 : zAt 152 2 m_M_ranked (.iload_n 2) 1 := ⟨hm_M_ranked, by decide +kernel⟩
theorem a_M_ranked_3 : zAt 152 3 m_M_ranked (.aload_n 0) 1 := ⟨hm_M_ranked, by decide +kernel⟩
theorem a_M_ranked_4 : zAt 152 4 m_M_ranked (.getfield 7) 3 := ⟨hm_M_ranked, by decide +kernel⟩
theorem a_M_ranked_7 : zAt 152 7 m_M_ranked (.iconst 2) 1 := ⟨hm_M_ranked, by decide +kernel⟩
theorem a_M_ranked_8 : zAt 152 8 m_M_ranked (.iaload) 1 := ⟨hm_M_ranked, by decide +kernel⟩
theorem a_M_ranked_9 : zAt 152 9 m_M_ranked (.if_icmp .ge 62) 3 := ⟨hm_M_ranked, by decide +kernel⟩
theorem a_M_ranked_12 : zAt 152 12 m_M_ranked (.iconst 0) 1 := ⟨hm_M_ranked, by decide +kernel⟩
theorem a_M_ranked_13 : zAt 152 13 m_M_ranked (.istore_n 3) 1 := ⟨hm_M_ranked, by decide +kernel⟩
theorem a_M_ranked_14 : zAt 152 14 m_M_ranked (.iconst 0) 1 := ⟨hm_M_ranked, by decide +kernel⟩
theorem a_M_ranked_15 : zAt 152 15 m_M_ranked (.istore 4) 2 := ⟨hm_M_ranked, by decide +kernel⟩
theorem a_M_ranked_17 : zAt 152 17 m_M_ranked (.iload 4) 2 := ⟨hm_M_ranked, by decide +kernel⟩
theorem a_M_ranked_19 : zAt 152 19 m_M_ranked (.aload_n 0) 1 := ⟨hm_M_ranked, by decide +kernel⟩
theorem a_M_ranked_20 : zAt 152 20 m_M_ranked (.getfield 7) 3 := ⟨hm_M_ranked, by decide +kernel⟩
theorem a_M_ranked_23 : zAt 152 23 m_M_ranked (.iconst 2) 1 := ⟨hm_M_ranked, by decide +kernel⟩
theorem a_M_ranked_24 : zAt 152 24 m_M_ranked (.iaload) 1 := ⟨hm_M_ranked, by decide +kernel⟩
theorem a_M_ranked_25 : zAt 152 25 m_M_ranked (.if_icmp .ge 33) 3 := ⟨hm_M_ranked, by decide +kernel⟩
theorem a_M_ranked_28 : zAt 152 28 m_M_ranked (.iload_n 3) 1 := ⟨hm_M_ranked, by decide +kernel⟩
theorem a_M_ranked_29 : zAt 152 29 m_M_ranked (.iload 4) 2 := ⟨hm_M_ranked, by decide +kernel⟩
theorem a_M_ranked_31 : zAt 152 31 m_M_ranked (.iload_n 2) 1 := ⟨hm_M_ranked, by decide +kernel⟩
theorem a_M_ranked_32 : zAt 152 32 m_M_ranked (.if_icmp .eq 17) 3 := ⟨hm_M_ranked, by decide +kernel⟩
theorem a_M_ranked_35 : zAt 152 35 m_M_ranked (.aload_n 0) 1 := ⟨hm_M_ranked, by decide +kernel⟩
theorem a_M_ranked_36 : zAt 152 36 m_M_ranked (.iload 4) 2 := ⟨hm_M_ranked, by decide +kernel⟩
theorem a_M_ranked_38 : zAt 152 38 m_M_ranked (.iload_n 2) 1 := ⟨hm_M_ranked, by decide +kernel⟩
theorem a_M_ranked_39 : zAt 152 39 m_M_ranked (.invokevirtual 149) 3 := ⟨hm_M_ranked, by decide +kernel⟩
theorem a_M_ranked_42 : zAt 152 42 m_M_ranked (.ifCond .eq 7) 3 := ⟨hm_M_ranked, by decide +kernel⟩
theorem a_M_ranked_45 : zAt 152 45 m_M_ranked (.iconst 1) 1 := ⟨hm_M_ranked, by decide +kernel⟩
theorem a_M_ranked_46 : zAt 152 46 m_M_ranked (.goto 4) 3 := ⟨hm_M_ranked, by decide +kernel⟩
theorem a_M_ranked_49 : zAt 152 49 m_M_ranked (.iconst 0) 1 := ⟨hm_M_ranked, by decide +kernel⟩
theorem a_M_ranked_50 : zAt 152 50 m_M_ranked (.iadd) 1 := ⟨hm_M_ranked, by decide +kernel⟩
theorem a_M_ranked_51 : zAt 152 51 m_M_ranked (.istore_n 3) 1 := ⟨hm_M_ranked, by decide +kernel⟩
theorem a_M_ranked_52 : zAt 152 52 m_M_ranked (.iinc 4 1) 3 := ⟨hm_M_ranked, by decide +kernel⟩
theorem a_M_ranked_55 : zAt 152 55 m_M_ranked (.goto (-38)) 3 := ⟨hm_M_ranked, by decide +kernel⟩
theorem a_M_ranked_58 : zAt 152 58 m_M_ranked (.iload_n 3) 1 := ⟨hm_M_ranked, by decide +kernel⟩
theorem a_M_ranked_59 : zAt 152 59 m_M_ranked (.iload_n 1) 1 := ⟨hm_M_ranked, by decide +kernel⟩
theorem a_M_ranked_60 : zAt 152 60 m_M_ranked (.if_icmp .ne 5) 3 := ⟨hm_M_ranked, by decide +kernel⟩
theorem a_M_ranked_63 : zAt 152 63 m_M_ranked (.iload_n 2) 1 := ⟨hm_M_ranked, by decide +kernel⟩
theorem a_M_ranked_64 : zAt 152 64 m_M_ranked (.ireturn) 1 := ⟨hm_M_ranked, by decide +kernel⟩
theorem a_M_ranked_65 : zAt 152 65 m_M_ranked (.iinc 2 1) 3 := ⟨hm_M_ranked, by decide +kernel⟩
theorem a_M_ranked_68 : zAt 152 68 m_M_ranked (.goto (-66)) 3 := ⟨hm_M_ranked, by decide +kernel⟩
theorem a_M_ranked_71 : zAt 152 71 m_M_ranked (.bipush (-11)) 2 := ⟨hm_M_ranked, by decide +kernel⟩
theorem a_M_ranked_73 : zAt 152 73 m_M_ranked (.ireturn) 1 := ⟨hm_M_ranked, by decide +kernel⟩
theorem B_M_ranked_0 {G : Nat → Nat → Int32} {x1 : Int32} : zden 152 0 [.ref 90, .int x1, .retAddr 0, .retAddr 0, .retAddr 0] [] (zSH, G) = zden 152 2 [.ref 90, .int x1, .int 0, .retAddr 0, .retAddr 0] [] (zSH, G) :=
  (zd_iconst (v := 0) a_M_ranked_0 (by decide)).trans ((zd_istore_n a_M_ranked_1 rfl rfl rfl))
theorem B_M_ranked_2 {G : Nat → Nat → Int32} {x1 x2 : Int32} {v3 v4 : Value} : zden 152 2 [.ref 90, .int x1, .int x2, v3, v4] [] (zSH, G) = if (G 91 2) ≤ x2 then some (some (.int (-11)), (zSH, G)) else zden 152 17 [.ref 90, .int x1, .int x2, .int 0, .int 0] [] (zSH, G) :=
  (zd_iload_n a_M_ranked_2 rfl).trans ((zd_aload_n a_M_ranked_3 rfl).trans ((zd_getR (h := (zSH, G)) (ci := 8) (fi := 5) (a := 91) a_M_ranked_4 (by decide +kernel) sh_90 rfl rfl).trans ((zd_iconst (v := 2) a_M_ranked_7 (by decide)).trans ((zd_iald (h := (zSH, G)) a_M_ranked_8 sh_91 rfl).trans ((if_pos (by decide)).trans ((zd_icmp_ge a_M_ranked_9 rfl).trans (zitc (fun p16 => (zd_bipush (v := (-11)) a_M_ranked_71 (by decide)).trans (zd_iret a_M_ranked_73 rfl (znr_int _))) (fun p16 => (zd_iconst (v := 0) a_M_ranked_12 (by decide)).trans ((zd_istore_n a_M_ranked_13 rfl rfl rfl).trans ((zd_iconst (v := 0) a_M_ranked_14 (by decide)).trans ((zd_istore a_M_ranked_15 rfl rfl rfl))))))))))))
theorem B_M_ranked_17 {G : Nat → Nat → Int32} {x1 x2 x3 x4 : Int32} : zden 152 17 [.ref 90, .int x1, .int x2, .int x3, .int x4] [] (zSH, G) = if (G 91 2) ≤ x4 then if ¬ x3 = x1 then zden 152 2 [.ref 90, .int x1, .int (x2 + 1), .int x3, .int x4] [] (zSH, G) else some (some (.int x2), (zSH, G)) else if x4 = x2 then zden 152 49 [.ref 90, .int x1, .int x2, .int x3, .int x4] [.int x3] (zSH, G) else zaft 152 42 [.ref 90, .int x1, .int x2, .int x3, .int x4] [.int x3] (zSH, G) (zden 153 0 [.ref 90, .int x4, .int x2, .retAddr 0] [] (zSH, G)) :=
  (zd_iload a_M_ranked_17 rfl).trans ((zd_aload_n a_M_ranked_19 rfl).trans ((zd_getR (h := (zSH, G)) (ci := 8) (fi := 5) (a := 91) a_M_ranked_20 (by decide +kernel) sh_90 rfl rfl).trans ((zd_iconst (v := 2) a_M_ranked_23 (by decide)).trans ((zd_iald (h := (zSH, G)) a_M_ranked_24 sh_91 rfl).trans ((if_pos (by decide)).trans ((zd_icmp_ge a_M_ranked_25 rfl).trans (zitc (fun p17 => (zd_iload_n a_M_ranked_58 rfl).trans ((zd_iload_n a_M_ranked_59 rfl).trans ((zd_icmp_ne a_M_ranked_60 rfl).trans (zitc (fun p18 => (zd_iinc (v := 1) a_M_ranked_65 rfl (by decide) rfl rfl rfl).trans ((zd_goto a_M_ranked_68 rfl))) (fun p18 => (zd_iload_n a_M_ranked_63 rfl).trans (zd_iret a_M_ranked_64 rfl (znr_int _))))))) (fun p17 => (zd_iload_n a_M_ranked_28 rfl).trans ((zd_iload a_M_ranked_29 rfl).trans ((zd_iload_n a_M_ranked_31 rfl).trans ((zd_icmp_eq a_M_ranked_32 rfl).trans (zitc (fun p19 => rfl) (fun p19 => (zd_aload_n a_M_ranked_35 rfl).trans ((zd_iload a_M_ranked_36 rfl).trans ((zd_iload_n a_M_ranked_38 rfl).trans ((zd_cal (kd := 0) (tg := 153) (T := m_M_isAhead) a_M_ranked_39 (by decide +kernel) hm_M_isAhead rfl rfl rfl rfl)))))))))))))))))
theorem B_M_ranked_42 {G : Nat → Nat → Int32} {x1 x2 x3 x4 s0 s1 : Int32} : zden 152 42 [.ref 90, .int x1, .int x2, .int x3, .int x4] [.int s0, .int s1] (zSH, G) = if s0 = 0 then zden 152 49 [.ref 90, .int x1, .int x2, .int x3, .int x4] [.int s1] (zSH, G) else zden 152 50 [.ref 90, .int x1, .int x2, .int x3, .int x4] [.int 1, .int s1] (zSH, G) :=
  (zd_if_eq a_M_ranked_42 rfl).trans (zitc (fun p20 => rfl) (fun p20 => (zd_iconst (v := 1) a_M_ranked_45 (by decide)).trans ((zd_goto a_M_ranked_46 rfl))))
theorem B_M_ranked_49 {G : Nat → Nat → Int32} {x1 x2 x3 x4 s0 : Int32} : zden 152 49 [.ref 90, .int x1, .int x2, .int x3, .int x4] [.int s0] (zSH, G) = zden 152 50 [.ref 90, .int x1, .int x2, .int x3, .int x4] [.int 0, .int s0] (zSH, G) :=
  (zd_iconst (v := 0) a_M_ranked_49 (by decide))
theorem B_M_ranked_50 {G : Nat → Nat → Int32} {x1 x2 x3 x4 s0 s1 : Int32} : zden 152 50 [.ref 90, .int x1, .int x2, .int x3, .int x4] [.int s0, .int s1] (zSH, G) = zden 152 17 [.ref 90, .int x1, .int x2, .int (s1 + s0), .int (x4 + 1)] [] (zSH, G) :=
  (zd_num (st2 := [.int (s1 + s0)]) a_M_ranked_50 rfl rfl rfl rfl).trans ((zd_istore_n a_M_ranked_51 rfl rfl rfl).trans ((zd_iinc (v := 1) a_M_ranked_52 rfl (by decide) rfl rfl rfl).trans ((zd_goto a_M_ranked_55 rfl))))
theorem a_M_heading_0 : zAt 106 0 m_M_heading (.aload_n 0) 1 := ⟨hm_M_heading, by decide +kernel⟩
theorem a_M_heading_1 : zAt 106 1 m_M_heading (.invokevirtual 78) 3 := ⟨hm_M_heading, by decide +kernel⟩
theorem a_M_heading_4 : zAt 106 4 m_M_heading (.aload_n 0) 1 := ⟨hm_M_heading, by decide +kernel⟩
theorem a_M_heading_5 : zAt 106 5 m_M_heading (.aload_n 0) 1 := ⟨hm_M_heading, by decide +kernel⟩
theorem a_M_heading_6 : zAt 106 6 m_M_heading (.iload_n 1) 1 := ⟨hm_M_heading, by decide +kernel⟩
theorem a_M_heading_7 : zAt 106 7 m_M_heading (.iload_n 2) 1 := ⟨hm_M_heading, by decide +kernel⟩
theorem a_M_heading_8 : zAt 106 8 m_M_heading (.iload_n 3) 1 := ⟨hm_M_heading, by decide +kernel⟩
theorem a_M_heading_9 : zAt 106 9 m_M_heading (.iload 4) 2 := ⟨hm_M_heading, by decide +kernel⟩
theorem a_M_heading_11 : zAt 106 11 m_M_heading (.iload 5) 2 := ⟨hm_M_heading, by decide +kernel⟩
theorem a_M_heading_13 : zAt 106 13 m_M_heading (.invokevirtual 81) 3 := ⟨hm_M_heading, by decide +kernel⟩
theorem a_M_heading_16 : zAt 106 16 m_M_heading (.invokevirtual 85) 3 := ⟨hm_M_heading, by decide +kernel⟩
theorem a_M_heading_19 : zAt 106 19 m_M_heading (.ireturn) 1 := ⟨hm_M_heading, by decide +kernel⟩
theorem B_M_heading_0 {G : Nat → Nat → Int32} {x1 x2 x3 x4 x5 : Int32} : zden 106 0 [.ref 90, .int x1, .int x2, .int x3, .int x4, .int x5] [] (zSH, G) = zaft 106 4 [.ref 90, .int x1, .int x2, .int x3, .int x4, .int x5] [] (zSH, G) (zden 107 0 [.ref 90] [] (zSH, G)) :=
  (zd_aload_n a_M_heading_0 rfl).trans ((zd_cal (kd := 0) (tg := 107) (T := m_M_begins) a_M_heading_1 (by decide +kernel) hm_M_begins rfl rfl rfl rfl))
theorem B_M_heading_4 {G : Nat → Nat → Int32} {x1 x2 x3 x4 x5 : Int32} : zden 106 4 [.ref 90, .int x1, .int x2, .int x3, .int x4, .int x5] [] (zSH, G) = zaft 106 16 [.ref 90, .int x1, .int x2, .int x3, .int x4, .int x5] [.ref 90] (zSH, G) (zden 109 0 [.ref 90, .int x1, .int x2, .int x3, .int x4, .int x5, .retAddr 0, .retAddr 0] [] (zSH, G)) :=
  (zd_aload_n a_M_heading_4 rfl).trans ((zd_aload_n a_M_heading_5 rfl).trans ((zd_iload_n a_M_heading_6 rfl).trans ((zd_iload_n a_M_heading_7 rfl).trans ((zd_iload_n a_M_heading_8 rfl).trans ((zd_iload a_M_heading_9 rfl).trans ((zd_iload a_M_heading_11 rfl).trans ((zd_cal (kd := 0) (tg := 109) (T := m_M_setsUp) a_M_heading_13 (by decide +kernel) hm_M_setsUp rfl rfl rfl rfl))))))))
theorem B_M_heading_16 {G : Nat → Nat → Int32} {x1 x2 x3 x4 x5 s0 : Int32} : zden 106 16 [.ref 90, .int x1, .int x2, .int x3, .int x4, .int x5] [.int s0, .ref 90] (zSH, G) = zaft 106 19 [.ref 90, .int x1, .int x2, .int x3, .int x4, .int x5] [] (zSH, G) (zden 115 0 [.ref 90, .int s0, .retAddr 0] [] (zSH, G)) :=
  (zd_cal (kd := 0) (tg := 115) (T := m_M_ends) a_M_heading_16 (by decide +kernel) hm_M_ends rfl rfl rfl rfl)
theorem B_M_heading_19 {G : Nat → Nat → Int32} {x1 x2 x3 x4 x5 s0 : Int32} : zden 106 19 [.ref 90, .int x1, .int x2, .int x3, .int x4, .int x5] [.int s0] (zSH, G) = some (some (.int s0), (zSH, G)) :=
  zd_iret a_M_heading_19 rfl (znr_int _)
theorem a_M_strike_0 : zAt 116 0 m_M_strike (.aload_n 0) 1 := ⟨hm_M_strike, by decide +kernel⟩
theorem a_M_strike_1 : zAt 116 1 m_M_strike (.invokevirtual 78) 3 := ⟨hm_M_strike, by decide +kernel⟩
theorem a_M_strike_4 : zAt 116 4 m_M_strike (.aload_n 0) 1 := ⟨hm_M_strike, by decide +kernel⟩
theorem a_M_strike_5 : zAt 116 5 m_M_strike (.aload_n 0) 1 := ⟨hm_M_strike, by decide +kernel⟩
theorem a_M_strike_6 : zAt 116 6 m_M_strike (.iload_n 1) 1 := ⟨hm_M_strike, by decide +kernel⟩
theorem a_M_strike_7 : zAt 116 7 m_M_strike (.invokevirtual 88) 3 := ⟨hm_M_strike, by decide +kernel⟩
theorem a_M_strike_10 : zAt 116 10 m_M_strike (.invokevirtual 85) 3 := ⟨hm_M_strike, by decide +kernel⟩
theorem a_M_strike_13 : zAt 116 13 m_M_strike (.ireturn) 1 := ⟨hm_M_strike, by decide +kernel⟩
theorem B_M_strike_0 {G : Nat → Nat → Int32} {x1 : Int32} : zden 116 0 [.ref 90, .int x1] [] (zSH, G) = zaft 116 4 [.ref 90, .int x1] [] (zSH, G) (zden 107 0 [.ref 90] [] (zSH, G)) :=
  (zd_aload_n a_M_strike_0 rfl).trans ((zd_cal (kd := 0) (tg := 107) (T := m_M_begins) a_M_strike_1 (by decide +kernel) hm_M_begins rfl rfl rfl rfl))
theorem B_M_strike_4 {G : Nat → Nat → Int32} {x1 : Int32} : zden 116 4 [.ref 90, .int x1] [] (zSH, G) = zaft 116 10 [.ref 90, .int x1] [.ref 90] (zSH, G) (zden 117 0 [.ref 90, .int x1, .retAddr 0, .retAddr 0] [] (zSH, G)) :=
  (zd_aload_n a_M_strike_4 rfl).trans ((zd_aload_n a_M_strike_5 rfl).trans ((zd_iload_n a_M_strike_6 rfl).trans ((zd_cal (kd := 0) (tg := 117) (T := m_M_strikes) a_M_strike_7 (by decide +kernel) hm_M_strikes rfl rfl rfl rfl))))
theorem B_M_strike_10 {G : Nat → Nat → Int32} {x1 s0 : Int32} : zden 116 10 [.ref 90, .int x1] [.int s0, .ref 90] (zSH, G) = zaft 116 13 [.ref 90, .int x1] [] (zSH, G) (zden 115 0 [.ref 90, .int s0, .retAddr 0] [] (zSH, G)) :=
  (zd_cal (kd := 0) (tg := 115) (T := m_M_ends) a_M_strike_10 (by decide +kernel) hm_M_ends rfl rfl rfl rfl)
theorem B_M_strike_13 {G : Nat → Nat → Int32} {x1 s0 : Int32} : zden 116 13 [.ref 90, .int x1] [.int s0] (zSH, G) = some (some (.int s0), (zSH, G)) :=
  zd_iret a_M_strike_13 rfl (znr_int _)
theorem a_M_good_0 : zAt 126 0 m_M_good (.aload_n 0) 1 := ⟨hm_M_good, by decide +kernel⟩
theorem a_M_good_1 : zAt 126 1 m_M_good (.invokevirtual 78) 3 := ⟨hm_M_good, by decide +kernel⟩
theorem a_M_good_4 : zAt 126 4 m_M_good (.aload_n 0) 1 := ⟨hm_M_good, by decide +kernel⟩
theorem a_M_good_5 : zAt 126 5 m_M_good (.aload_n 0) 1 := ⟨hm_M_good, by decide +kernel⟩
theorem a_M_good_6 : zAt 126 6 m_M_good (.iload_n 1) 1 := ⟨hm_M_good, by decide +kernel⟩
theorem a_M_good_7 : zAt 126 7 m_M_good (.iload_n 2) 1 := ⟨hm_M_good, by decide +kernel⟩
theorem a_M_good_8 : zAt 126 8 m_M_good (.iload_n 3) 1 := ⟨hm_M_good, by decide +kernel⟩
theorem a_M_good_9 : zAt 126 9 m_M_good (.iload 4) 2 := ⟨hm_M_good, by decide +kernel⟩
theorem a_M_good_11 : zAt 126 11 m_M_good (.iload 5) 2 := ⟨hm_M_good, by decide +kernel⟩
theorem a_M_good_13 : zAt 126 13 m_M_good (.iload 6) 2 := ⟨hm_M_good, by decide +kernel⟩
theorem a_M_good_15 : zAt 126 15 m_M_good (.invokevirtual 110) 3 := ⟨hm_M_good, by decide +kernel⟩
theorem a_M_good_18 : zAt 126 18 m_M_good (.invokevirtual 85) 3 := ⟨hm_M_good, by decide +kernel⟩
theorem a_M_good_21 : zAt 126 21 m_M_good (.ireturn) 1 := ⟨hm_M_good, by decide +kernel⟩
theorem B_M_good_0 {G : Nat → Nat → Int32} {x1 x2 x3 x4 x5 x6 : Int32} : zden 126 0 [.ref 90, .int x1, .int x2, .int x3, .int x4, .int x5, .int x6] [] (zSH, G) = zaft 126 4 [.ref 90, .int x1, .int x2, .int x3, .int x4, .int x5, .int x6] [] (zSH, G) (zden 107 0 [.ref 90] [] (zSH, G)) :=
  (zd_aload_n a_M_good_0 rfl).trans ((zd_cal (kd := 0) (tg := 107) (T := m_M_begins) a_M_good_1 (by decide +kernel) hm_M_begins rfl rfl rfl rfl))
theorem B_M_good_4 {G : Nat → Nat → Int32} {x1 x2 x3 x4 x5 x6 : Int32} : zden 126 4 [.ref 90, .int x1, .int x2, .int x3, .int x4, .int x5, .int x6] [] (zSH, G) = zaft 126 18 [.ref 90, .int x1, .int x2, .int x3, .int x4, .int x5, .int x6] [.ref 90] (zSH, G) (zden 127 0 [.ref 90, .int x1, .int x2, .int x3, .int x4, .int x5, .int x6, .retAddr 0, .retAddr 0] [] (zSH, G)) :=
  (zd_aload_n a_M_good_4 rfl).trans ((zd_aload_n a_M_good_5 rfl).trans ((zd_iload_n a_M_good_6 rfl).trans ((zd_iload_n a_M_good_7 rfl).trans ((zd_iload_n a_M_good_8 rfl).trans ((zd_iload a_M_good_9 rfl).trans ((zd_iload a_M_good_11 rfl).trans ((zd_iload a_M_good_13 rfl).trans ((zd_cal (kd := 0) (tg := 127) (T := m_M_comes) a_M_good_15 (by decide +kernel) hm_M_comes rfl rfl rfl rfl)))))))))
theorem B_M_good_18 {G : Nat → Nat → Int32} {x1 x2 x3 x4 x5 x6 s0 : Int32} : zden 126 18 [.ref 90, .int x1, .int x2, .int x3, .int x4, .int x5, .int x6] [.int s0, .ref 90] (zSH, G) = zaft 126 21 [.ref 90, .int x1, .int x2, .int x3, .int x4, .int x5, .int x6] [] (zSH, G) (zden 115 0 [.ref 90, .int s0, .retAddr 0] [] (zSH, G)) :=
  (zd_cal (kd := 0) (tg := 115) (T := m_M_ends) a_M_good_18 (by decide +kernel) hm_M_ends rfl rfl rfl rfl)
theorem B_M_good_21 {G : Nat → Nat → Int32} {x1 x2 x3 x4 x5 x6 s0 : Int32} : zden 126 21 [.ref 90, .int x1, .int x2, .int x3, .int x4, .int x5, .int x6] [.int s0] (zSH, G) = some (some (.int s0), (zSH, G)) :=
  zd_iret a_M_good_21 rfl (znr_int _)
theorem a_M_work_0 : zAt 128 0 m_M_work (.aload_n 0) 1 := ⟨hm_M_work, by decide +kernel⟩
theorem a_M_work_1 : zAt 128 1 m_M_work (.invokevirtual 78) 3 := ⟨hm_M_work, by decide +kernel⟩
theorem a_M_work_4 : zAt 128 4 m_M_work (.aload_n 0) 1 := ⟨hm_M_work, by decide +kernel⟩
theorem a_M_work_5 : zAt 128 5 m_M_work (.aload_n 0) 1 := ⟨hm_M_work, by decide +kernel⟩
theorem a_M_work_6 : zAt 128 6 m_M_work (.iload_n 1) 1 := ⟨hm_M_work, by decide +kernel⟩
theorem a_M_work_7 : zAt 128 7 m_M_work (.iload_n 2) 1 := ⟨hm_M_work, by decide +kernel⟩
theorem a_M_work_8 : zAt 128 8 m_M_work (.iload_n 3) 1 := ⟨hm_M_work, by decide +kernel⟩
theorem a_M_work_9 : zAt 128 9 m_M_work (.invokevirtual 121) 3 := ⟨hm_M_work, by decide +kernel⟩
theorem a_M_work_12 : zAt 128 12 m_M_work (.invokevirtual 85) 3 := ⟨hm_M_work, by decide +kernel⟩
theorem a_M_work_15 : zAt 128 15 m_M_work (.ireturn) 1 := ⟨hm_M_work, by decide +kernel⟩
theorem B_M_work_0 {G : Nat → Nat → Int32} {x1 x2 x3 : Int32} : zden 128 0 [.ref 90, .int x1, .int x2, .int x3] [] (zSH, G) = zaft 128 4 [.ref 90, .int x1, .int x2, .int x3] [] (zSH, G) (zden 107 0 [.ref 90] [] (zSH, G)) :=
  (zd_aload_n a_M_work_0 rfl).trans ((zd_cal (kd := 0) (tg := 107) (T := m_M_begins) a_M_work_1 (by decide +kernel) hm_M_begins rfl rfl rfl rfl))
theorem B_M_work_4 {G : Nat → Nat → Int32} {x1 x2 x3 : Int32} : zden 128 4 [.ref 90, .int x1, .int x2, .int x3] [] (zSH, G) = zaft 128 12 [.ref 90, .int x1, .int x2, .int x3] [.ref 90] (zSH, G) (zden 129 0 [.ref 90, .int x1, .int x2, .int x3] [] (zSH, G)) :=
  (zd_aload_n a_M_work_4 rfl).trans ((zd_aload_n a_M_work_5 rfl).trans ((zd_iload_n a_M_work_6 rfl).trans ((zd_iload_n a_M_work_7 rfl).trans ((zd_iload_n a_M_work_8 rfl).trans ((zd_cal (kd := 0) (tg := 129) (T := m_M_worksOn) a_M_work_9 (by decide +kernel) hm_M_worksOn rfl rfl rfl rfl))))))
theorem B_M_work_12 {G : Nat → Nat → Int32} {x1 x2 x3 s0 : Int32} : zden 128 12 [.ref 90, .int x1, .int x2, .int x3] [.int s0, .ref 90] (zSH, G) = zaft 128 15 [.ref 90, .int x1, .int x2, .int x3] [] (zSH, G) (zden 115 0 [.ref 90, .int s0, .retAddr 0] [] (zSH, G)) :=
  (zd_cal (kd := 0) (tg := 115) (T := m_M_ends) a_M_work_12 (by decide +kernel) hm_M_ends rfl rfl rfl rfl)
theorem B_M_work_15 {G : Nat → Nat → Int32} {x1 x2 x3 s0 : Int32} : zden 128 15 [.ref 90, .int x1, .int x2, .int x3] [.int s0] (zSH, G) = some (some (.int s0), (zSH, G)) :=
  zd_iret a_M_work_15 rfl (znr_int _)
theorem a_M_favour_0 : zAt 140 0 m_M_favour (.aload_n 0) 1 := ⟨hm_M_favour, by decide +kernel⟩
theorem a_M_favour_1 : zAt 140 1 m_M_favour (.invokevirtual 78) 3 := ⟨hm_M_favour, by decide +kernel⟩
theorem a_M_favour_4 : zAt 140 4 m_M_favour (.aload_n 0) 1 := ⟨hm_M_favour, by decide +kernel⟩
theorem a_M_favour_5 : zAt 140 5 m_M_favour (.aload_n 0) 1 := ⟨hm_M_favour, by decide +kernel⟩
theorem a_M_favour_6 : zAt 140 6 m_M_favour (.iload_n 1) 1 := ⟨hm_M_favour, by decide +kernel⟩
theorem a_M_favour_7 : zAt 140 7 m_M_favour (.iload_n 2) 1 := ⟨hm_M_favour, by decide +kernel⟩
theorem a_M_favour_8 : zAt 140 8 m_M_favour (.invokevirtual 134) 3 := ⟨hm_M_favour, by decide +kernel⟩
theorem a_M_favour_11 : zAt 140 11 m_M_favour (.invokevirtual 85) 3 := ⟨hm_M_favour, by decide +kernel⟩
theorem a_M_favour_14 : zAt 140 14 m_M_favour (.ireturn) 1 := ⟨hm_M_favour, by decide +kernel⟩
theorem B_M_favour_0 {G : Nat → Nat → Int32} {x1 x2 : Int32} : zden 140 0 [.ref 90, .int x1, .int x2] [] (zSH, G) = zaft 140 4 [.ref 90, .int x1, .int x2] [] (zSH, G) (zden 107 0 [.ref 90] [] (zSH, G)) :=
  (zd_aload_n a_M_favour_0 rfl).trans ((zd_cal (kd := 0) (tg := 107) (T := m_M_begins) a_M_favour_1 (by decide +kernel) hm_M_begins rfl rfl rfl rfl))
theorem B_M_favour_4 {G : Nat → Nat → Int32} {x1 x2 : Int32} : zden 140 4 [.ref 90, .int x1, .int x2] [] (zSH, G) = zaft 140 11 [.ref 90, .int x1, .int x2] [.ref 90] (zSH, G) (zden 141 0 [.ref 90, .int x1, .int x2, .retAddr 0] [] (zSH, G)) :=
  (zd_aload_n a_M_favour_4 rfl).trans ((zd_aload_n a_M_favour_5 rfl).trans ((zd_iload_n a_M_favour_6 rfl).trans ((zd_iload_n a_M_favour_7 rfl).trans ((zd_cal (kd := 0) (tg := 141) (T := m_M_favours) a_M_favour_8 (by decide +kernel) hm_M_favours rfl rfl rfl rfl)))))
theorem B_M_favour_11 {G : Nat → Nat → Int32} {x1 x2 s0 : Int32} : zden 140 11 [.ref 90, .int x1, .int x2] [.int s0, .ref 90] (zSH, G) = zaft 140 14 [.ref 90, .int x1, .int x2] [] (zSH, G) (zden 115 0 [.ref 90, .int s0, .retAddr 0] [] (zSH, G)) :=
  (zd_cal (kd := 0) (tg := 115) (T := m_M_ends) a_M_favour_11 (by decide +kernel) hm_M_ends rfl rfl rfl rfl)
theorem B_M_favour_14 {G : Nat → Nat → Int32} {x1 x2 s0 : Int32} : zden 140 14 [.ref 90, .int x1, .int x2] [.int s0] (zSH, G) = some (some (.int s0), (zSH, G)) :=
  zd_iret a_M_favour_14 rfl (znr_int _)
theorem a_M_coins_0 : zAt 142 0 m_M_coins (.aload_n 0) 1 := ⟨hm_M_coins, by decide +kernel⟩
theorem a_M_coins_1 : zAt 142 1 m_M_coins (.invokevirtual 78) 3 := ⟨hm_M_coins, by decide +kernel⟩
theorem a_M_coins_4 : zAt 142 4 m_M_coins (.aload_n 0) 1 := ⟨hm_M_coins, by decide +kernel⟩
theorem a_M_coins_5 : zAt 142 5 m_M_coins (.aload_n 0) 1 := ⟨hm_M_coins, by decide +kernel⟩
theorem a_M_coins_6 : zAt 142 6 m_M_coins (.iload_n 1) 1 := ⟨hm_M_coins, by decide +kernel⟩
theorem a_M_coins_7 : zAt 142 7 m_M_coins (.invokevirtual 137) 3 := ⟨hm_M_coins, by decide +kernel⟩
theorem a_M_coins_10 : zAt 142 10 m_M_coins (.invokevirtual 85) 3 := ⟨hm_M_coins, by decide +kernel⟩
theorem a_M_coins_13 : zAt 142 13 m_M_coins (.ireturn) 1 := ⟨hm_M_coins, by decide +kernel⟩
theorem B_M_coins_0 {G : Nat → Nat → Int32} {x1 : Int32} : zden 142 0 [.ref 90, .int x1] [] (zSH, G) = zaft 142 4 [.ref 90, .int x1] [] (zSH, G) (zden 107 0 [.ref 90] [] (zSH, G)) :=
  (zd_aload_n a_M_coins_0 rfl).trans ((zd_cal (kd := 0) (tg := 107) (T := m_M_begins) a_M_coins_1 (by decide +kernel) hm_M_begins rfl rfl rfl rfl))
theorem B_M_coins_4 {G : Nat → Nat → Int32} {x1 : Int32} : zden 142 4 [.ref 90, .int x1] [] (zSH, G) = zaft 142 10 [.ref 90, .int x1] [.ref 90] (zSH, G) (zden 143 0 [.ref 90, .int x1] [] (zSH, G)) :=
  (zd_aload_n a_M_coins_4 rfl).trans ((zd_aload_n a_M_coins_5 rfl).trans ((zd_iload_n a_M_coins_6 rfl).trans ((zd_cal (kd := 0) (tg := 143) (T := m_M_gives) a_M_coins_7 (by decide +kernel) hm_M_gives rfl rfl rfl rfl))))
theorem B_M_coins_10 {G : Nat → Nat → Int32} {x1 s0 : Int32} : zden 142 10 [.ref 90, .int x1] [.int s0, .ref 90] (zSH, G) = zaft 142 13 [.ref 90, .int x1] [] (zSH, G) (zden 115 0 [.ref 90, .int s0, .retAddr 0] [] (zSH, G)) :=
  (zd_cal (kd := 0) (tg := 115) (T := m_M_ends) a_M_coins_10 (by decide +kernel) hm_M_ends rfl rfl rfl rfl)
theorem B_M_coins_13 {G : Nat → Nat → Int32} {x1 s0 : Int32} : zden 142 13 [.ref 90, .int x1] [.int s0] (zSH, G) = some (some (.int s0), (zSH, G)) :=
  zd_iret a_M_coins_13 rfl (znr_int _)
theorem a_M_enter_0 : zAt 144 0 m_M_enter (.aload_n 0) 1 := ⟨hm_M_enter, by decide +kernel⟩
theorem a_M_enter_1 : zAt 144 1 m_M_enter (.invokevirtual 78) 3 := ⟨hm_M_enter, by decide +kernel⟩
theorem a_M_enter_4 : zAt 144 4 m_M_enter (.aload_n 0) 1 := ⟨hm_M_enter, by decide +kernel⟩
theorem a_M_enter_5 : zAt 144 5 m_M_enter (.aload_n 0) 1 := ⟨hm_M_enter, by decide +kernel⟩
theorem a_M_enter_6 : zAt 144 6 m_M_enter (.iload_n 1) 1 := ⟨hm_M_enter, by decide +kernel⟩
theorem a_M_enter_7 : zAt 144 7 m_M_enter (.invokevirtual 140) 3 := ⟨hm_M_enter, by decide +kernel⟩
theorem a_M_enter_10 : zAt 144 10 m_M_enter (.invokevirtual 85) 3 := ⟨hm_M_enter, by decide +kernel⟩
theorem a_M_enter_13 : zAt 144 13 m_M_enter (.ireturn) 1 := ⟨hm_M_enter, by decide +kernel⟩
theorem B_M_enter_0 {G : Nat → Nat → Int32} {x1 : Int32} : zden 144 0 [.ref 90, .int x1] [] (zSH, G) = zaft 144 4 [.ref 90, .int x1] [] (zSH, G) (zden 107 0 [.ref 90] [] (zSH, G)) :=
  (zd_aload_n a_M_enter_0 rfl).trans ((zd_cal (kd := 0) (tg := 107) (T := m_M_begins) a_M_enter_1 (by decide +kernel) hm_M_begins rfl rfl rfl rfl))
theorem B_M_enter_4 {G : Nat → Nat → Int32} {x1 : Int32} : zden 144 4 [.ref 90, .int x1] [] (zSH, G) = zaft 144 10 [.ref 90, .int x1] [.ref 90] (zSH, G) (zden 145 0 [.ref 90, .int x1, .retAddr 0] [] (zSH, G)) :=
  (zd_aload_n a_M_enter_4 rfl).trans ((zd_aload_n a_M_enter_5 rfl).trans ((zd_iload_n a_M_enter_6 rfl).trans ((zd_cal (kd := 0) (tg := 145) (T := m_M_enters) a_M_enter_7 (by decide +kernel) hm_M_enters rfl rfl rfl rfl))))
theorem B_M_enter_10 {G : Nat → Nat → Int32} {x1 s0 : Int32} : zden 144 10 [.ref 90, .int x1] [.int s0, .ref 90] (zSH, G) = zaft 144 13 [.ref 90, .int x1] [] (zSH, G) (zden 115 0 [.ref 90, .int s0, .retAddr 0] [] (zSH, G)) :=
  (zd_cal (kd := 0) (tg := 115) (T := m_M_ends) a_M_enter_10 (by decide +kernel) hm_M_ends rfl rfl rfl rfl)
theorem B_M_enter_13 {G : Nat → Nat → Int32} {x1 s0 : Int32} : zden 144 13 [.ref 90, .int x1] [.int s0] (zSH, G) = some (some (.int s0), (zSH, G)) :=
  zd_iret a_M_enter_13 rfl (znr_int _)
theorem a_M_export_0 : zAt 146 0 m_M_export (.aload_n 0) 1 := ⟨hm_M_export, by decide +kernel⟩
theorem a_M_export_1 : zAt 146 1 m_M_export (.invokevirtual 78) 3 := ⟨hm_M_export, by decide +kernel⟩
theorem a_M_export_4 : zAt 146 4 m_M_export (.aload_n 0) 1 := ⟨hm_M_export, by decide +kernel⟩
theorem a_M_export_5 : zAt 146 5 m_M_export (.aload_n 0) 1 := ⟨hm_M_export, by decide +kernel⟩
theorem a_M_export_6 : zAt 146 6 m_M_export (.iload_n 1) 1 := ⟨hm_M_export, by decide +kernel⟩
theorem a_M_export_7 : zAt 146 7 m_M_export (.invokevirtual 143) 3 := ⟨hm_M_export, by decide +kernel⟩
theorem a_M_export_10 : zAt 146 10 m_M_export (.invokevirtual 85) 3 := ⟨hm_M_export, by decide +kernel⟩
theorem a_M_export_13 : zAt 146 13 m_M_export (.ireturn) 1 := ⟨hm_M_export, by decide +kernel⟩
theorem B_M_export_0 {G : Nat → Nat → Int32} {x1 : Int32} : zden 146 0 [.ref 90, .int x1] [] (zSH, G) = zaft 146 4 [.ref 90, .int x1] [] (zSH, G) (zden 107 0 [.ref 90] [] (zSH, G)) :=
  (zd_aload_n a_M_export_0 rfl).trans ((zd_cal (kd := 0) (tg := 107) (T := m_M_begins) a_M_export_1 (by decide +kernel) hm_M_begins rfl rfl rfl rfl))
theorem B_M_export_4 {G : Nat → Nat → Int32} {x1 : Int32} : zden 146 4 [.ref 90, .int x1] [] (zSH, G) = zaft 146 10 [.ref 90, .int x1] [.ref 90] (zSH, G) (zden 147 0 [.ref 90, .int x1, .retAddr 0] [] (zSH, G)) :=
  (zd_aload_n a_M_export_4 rfl).trans ((zd_aload_n a_M_export_5 rfl).trans ((zd_iload_n a_M_export_6 rfl).trans ((zd_cal (kd := 0) (tg := 147) (T := m_M_exports) a_M_export_7 (by decide +kernel) hm_M_exports rfl rfl rfl rfl))))
theorem B_M_export_10 {G : Nat → Nat → Int32} {x1 s0 : Int32} : zden 146 10 [.ref 90, .int x1] [.int s0, .ref 90] (zSH, G) = zaft 146 13 [.ref 90, .int x1] [] (zSH, G) (zden 115 0 [.ref 90, .int s0, .retAddr 0] [] (zSH, G)) :=
  (zd_cal (kd := 0) (tg := 115) (T := m_M_ends) a_M_export_10 (by decide +kernel) hm_M_ends rfl rfl rfl rfl)
theorem B_M_export_13 {G : Nat → Nat → Int32} {x1 s0 : Int32} : zden 146 13 [.ref 90, .int x1] [.int s0] (zSH, G) = some (some (.int s0), (zSH, G)) :=
  zd_iret a_M_export_13 rfl (znr_int _)
theorem a_M_days_0 : zAt 148 0 m_M_days (.aload_n 0) 1 := ⟨hm_M_days, by decide +kernel⟩
theorem a_M_days_1 : zAt 148 1 m_M_days (.invokevirtual 78) 3 := ⟨hm_M_days, by decide +kernel⟩
theorem a_M_days_4 : zAt 148 4 m_M_days (.aload_n 0) 1 := ⟨hm_M_days, by decide +kernel⟩
theorem a_M_days_5 : zAt 148 5 m_M_days (.aload_n 0) 1 := ⟨hm_M_days, by decide +kernel⟩
theorem a_M_days_6 : zAt 148 6 m_M_days (.iload_n 1) 1 := ⟨hm_M_days, by decide +kernel⟩
theorem a_M_days_7 : zAt 148 7 m_M_days (.invokevirtual 146) 3 := ⟨hm_M_days, by decide +kernel⟩
theorem a_M_days_10 : zAt 148 10 m_M_days (.invokevirtual 85) 3 := ⟨hm_M_days, by decide +kernel⟩
theorem a_M_days_13 : zAt 148 13 m_M_days (.ireturn) 1 := ⟨hm_M_days, by decide +kernel⟩
theorem B_M_days_0 {G : Nat → Nat → Int32} {x1 : Int32} : zden 148 0 [.ref 90, .int x1] [] (zSH, G) = zaft 148 4 [.ref 90, .int x1] [] (zSH, G) (zden 107 0 [.ref 90] [] (zSH, G)) :=
  (zd_aload_n a_M_days_0 rfl).trans ((zd_cal (kd := 0) (tg := 107) (T := m_M_begins) a_M_days_1 (by decide +kernel) hm_M_begins rfl rfl rfl rfl))
theorem B_M_days_4 {G : Nat → Nat → Int32} {x1 : Int32} : zden 148 4 [.ref 90, .int x1] [] (zSH, G) = zaft 148 10 [.ref 90, .int x1] [.ref 90] (zSH, G) (zden 149 0 [.ref 90, .int x1] [] (zSH, G)) :=
  (zd_aload_n a_M_days_4 rfl).trans ((zd_aload_n a_M_days_5 rfl).trans ((zd_iload_n a_M_days_6 rfl).trans ((zd_cal (kd := 0) (tg := 149) (T := m_M_goBy) a_M_days_7 (by decide +kernel) hm_M_goBy rfl rfl rfl rfl))))
theorem B_M_days_10 {G : Nat → Nat → Int32} {x1 s0 : Int32} : zden 148 10 [.ref 90, .int x1] [.int s0, .ref 90] (zSH, G) = zaft 148 13 [.ref 90, .int x1] [] (zSH, G) (zden 115 0 [.ref 90, .int s0, .retAddr 0] [] (zSH, G)) :=
  (zd_cal (kd := 0) (tg := 115) (T := m_M_ends) a_M_days_10 (by decide +kernel) hm_M_ends rfl rfl rfl rfl)
theorem B_M_days_13 {G : Nat → Nat → Int32} {x1 s0 : Int32} : zden 148 13 [.ref 90, .int x1] [.int s0] (zSH, G) = some (some (.int s0), (zSH, G)) :=
  zd_iret a_M_days_13 rfl (znr_int _)
theorem a_M_thatAre_0 : zAt 174 0 m_M_thatAre (.iconst 0) 1 := ⟨hm_M_thatAre, by decide +kernel⟩
theorem a_M_thatAre_1 : zAt 174 1 m_M_thatAre (.istore_n 2) 1 := ⟨hm_M_thatAre, by decide +kernel⟩
theorem a_M_thatAre_2 : zAt 174 2 m_M_thatAre (.iconst 0) 1 := ⟨hm_M_thatAre, by decide +kernel⟩
theorem a_M_thatAre_3 : zAt 174 3 m_M_thatAre (.istore_n 3) 1 := ⟨hm_M_thatAre, by decide +kernel⟩
theorem a_M_thatAre_4 : zAt 174 4 m_M_thatAre (.iload_n 3) 1 := ⟨hm_M_thatAre, by decide +kernel⟩
theorem a_M_thatAre_5 : zAt 174 5 m_M_thatAre (.aload_n 0) 1 := ⟨hm_M_thatAre, by decide +kernel⟩
theorem a_M_thatAre_6 : zAt 174 6 m_M_thatAre (.getfield 7) 3 := ⟨hm_M_thatAre, by decide +kernel⟩
theorem a_M_thatAre_9 : zAt 174 9 m_M_thatAre (.iconst 2) 1 := ⟨hm_M_thatAre, by decide +kernel⟩
theorem a_M_thatAre_10 : zAt 174 10 m_M_thatAre (.iaload) 1 := ⟨hm_M_thatAre, by decide +kernel⟩
theorem a_M_thatAre_11 : zAt 174 11 m_M_thatAre (.if_icmp .ge 32) 3 := ⟨hm_M_thatAre, by decide +kernel⟩
theorem a_M_thatAre_14 : zAt 174 14 m_M_thatAre (.iload_n 2) 1 := ⟨hm_M_thatAre, by decide +kernel⟩
theorem a_M_thatAre_15 : zAt 174 15 m_M_thatAre (.aload_n 0) 1 := ⟨hm_M_thatAre, by decide +kernel⟩
theorem a_M_thatAre_16 : zAt 174 16 m_M_thatAre (.getfield 7) 3 := ⟨hm_M_thatAre, by decide +kernel⟩
theorem a_M_thatAre_19 : zAt 174 19 m_M_thatAre (.iload_n 3) 1 := ⟨hm_M_thatAre, by decide +kernel⟩
theorem a_M_thatAre_20 : zAt 174 20 m_M_thatAre (.bipush 7) 2 := ⟨hm_M_thatAre, by decide +kernel⟩
theorem a_M_thatAre_22 : zAt 174 22 m_M_thatAre (.invokestatic 91) 3 := ⟨hm_M_thatAre, by decide +kernel⟩
theorem a_M_thatAre_25 : zAt 174 25 m_M_thatAre (.iaload) 1 := ⟨hm_M_thatAre, by decide +kernel⟩
theorem a_M_thatAre_26 : zAt 174 26 m_M_thatAre (.iload_n 1) 1 := ⟨hm_M_thatAre, by decide +kernel⟩
theorem a_M_thatAre_27 : zAt 174 27 m_M_thatAre (.if_icmp .ne 7) 3 := ⟨hm_M_thatAre, by decide +kernel⟩
theorem a_M_thatAre_30 : zAt 174 30 m_M_thatAre (.iconst 1) 1 := ⟨hm_M_thatAre, by decide +kernel⟩
theorem a_M_thatAre_31 : zAt 174 31 m_M_thatAre (.goto 4) 3 := ⟨hm_M_thatAre, by decide +kernel⟩
theorem a_M_thatAre_34 : zAt 174 34 m_M_thatAre (.iconst 0) 1 := ⟨hm_M_thatAre, by decide +kernel⟩
theorem a_M_thatAre_35 : zAt 174 35 m_M_thatAre (.iadd) 1 := ⟨hm_M_thatAre, by decide +kernel⟩
theorem a_M_thatAre_36 : zAt 174 36 m_M_thatAre (.istore_n 2) 1 := ⟨hm_M_thatAre, by decide +kernel⟩
theorem a_M_thatAre_37 : zAt 174 37 m_M_thatAre (.iinc 3 1) 3 := ⟨hm_M_thatAre, by decide +kernel⟩
theorem a_M_thatAre_40 : zAt 174 40 m_M_thatAre (.goto (-36)) 3 := ⟨hm_M_thatAre, by decide +kernel⟩
theorem a_M_thatAre_43 : zAt 174 43 m_M_thatAre (.iload_n 2) 1 := ⟨hm_M_thatAre, by decide +kernel⟩
theorem a_M_thatAre_44 : zAt 174 44 m_M_thatAre (.ireturn) 1 := ⟨hm_M_thatAre, by decide +kernel⟩
theorem B_M_thatAre_0 {G : Nat → Nat → Int32} {x1 : Int32} : zden 174 0 [.ref 90, .int x1, .retAddr 0, .retAddr 0] [] (zSH, G) = zden 174 4 [.ref 90, .int x1, .int 0, .int 0] [] (zSH, G) :=
  (zd_iconst (v := 0) a_M_thatAre_0 (by decide)).trans ((zd_istore_n a_M_thatAre_1 rfl rfl rfl).trans ((zd_iconst (v := 0) a_M_thatAre_2 (by decide)).trans ((zd_istore_n a_M_thatAre_3 rfl rfl rfl))))
theorem B_M_thatAre_4 {G : Nat → Nat → Int32} {x1 x2 x3 : Int32} (z25_0 : (¬ ((G 91 2) ≤ x3)) → zin (63 + 22 * x3 + 7) 327 = true) : zden 174 4 [.ref 90, .int x1, .int x2, .int x3] [] (zSH, G) = if (G 91 2) ≤ x3 then some (some (.int x2), (zSH, G)) else if ¬ (G 91 (63 + 22 * x3 + 7).toNatClampNeg) = x1 then zden 174 35 [.ref 90, .int x1, .int x2, .int x3] [.int 0, .int x2] (zSH, G) else zden 174 35 [.ref 90, .int x1, .int x2, .int x3] [.int 1, .int x2] (zSH, G) :=
  (zd_iload_n a_M_thatAre_4 rfl).trans ((zd_aload_n a_M_thatAre_5 rfl).trans ((zd_getR (h := (zSH, G)) (ci := 8) (fi := 5) (a := 91) a_M_thatAre_6 (by decide +kernel) sh_90 rfl rfl).trans ((zd_iconst (v := 2) a_M_thatAre_9 (by decide)).trans ((zd_iald (h := (zSH, G)) a_M_thatAre_10 sh_91 rfl).trans ((if_pos (by decide)).trans ((zd_icmp_ge a_M_thatAre_11 rfl).trans (zitc (fun p5 => (zd_iload_n a_M_thatAre_43 rfl).trans (zd_iret a_M_thatAre_44 rfl (znr_int _))) (fun p5 => (zd_iload_n a_M_thatAre_14 rfl).trans ((zd_aload_n a_M_thatAre_15 rfl).trans ((zd_getR (h := (zSH, G)) (ci := 8) (fi := 5) (a := 91) a_M_thatAre_16 (by decide +kernel) sh_90 rfl rfl).trans ((zd_iload_n a_M_thatAre_19 rfl).trans ((zd_bipush (v := 7) a_M_thatAre_20 (by decide)).trans ((zd_cal (kd := 1) (tg := 123) (T := m_M_of) a_M_thatAre_22 (by decide +kernel) hm_M_of rfl rfl rfl rfl).trans (((congrArg (zaft 174 25 [.ref 90, .int x1, .int x2, .int x3] [.ref 91, .int x2] (zSH, G)) (ms_of)).trans zaft_same).trans ((zd_iald (h := (zSH, G)) a_M_thatAre_25 sh_91 rfl).trans ((if_pos (z25_0 p5)).trans ((zd_iload_n a_M_thatAre_26 rfl).trans ((zd_icmp_ne a_M_thatAre_27 rfl).trans (zitc (fun p6 => (zd_iconst (v := 0) a_M_thatAre_34 (by decide))) (fun p6 => (zd_iconst (v := 1) a_M_thatAre_30 (by decide)).trans ((zd_goto a_M_thatAre_31 rfl))))))))))))))))))))))
theorem B_M_thatAre_35 {G : Nat → Nat → Int32} {x1 x2 x3 s0 s1 : Int32} : zden 174 35 [.ref 90, .int x1, .int x2, .int x3] [.int s0, .int s1] (zSH, G) = zden 174 4 [.ref 90, .int x1, .int (s1 + s0), .int (x3 + 1)] [] (zSH, G) :=
  (zd_num (st2 := [.int (s1 + s0)]) a_M_thatAre_35 rfl rfl rfl rfl).trans ((zd_istore_n a_M_thatAre_36 rfl rfl rfl).trans ((zd_iinc (v := 1) a_M_thatAre_37 rfl (by decide) rfl rfl rfl).trans ((zd_goto a_M_thatAre_40 rfl))))
theorem a_M_favoured_0 : zAt 175 0 m_M_favoured (.iconst 0) 1 := ⟨hm_M_favoured, by decide +kernel⟩
theorem a_M_favoured_1 : zAt 175 1 m_M_favoured (.istore_n 1) 1 := ⟨hm_M_favoured, by decide +kernel⟩
theorem a_M_favoured_2 : zAt 175 2 m_M_favoured (.iconst 0) 1 := ⟨hm_M_favoured, by decide +kernel⟩
theorem a_M_favoured_3 : zAt 175 3 m_M_favoured (.istore_n 2) 1 := ⟨hm_M_favoured, by decide +kernel⟩
theorem a_M_favoured_4 : zAt 175 4 m_M_favoured (.iload_n 2) 1 := ⟨hm_M_favoured, by decide +kernel⟩
theorem a_M_favoured_5 : zAt 175 5 m_M_favoured (.iconst 5) 1 := ⟨hm_M_favoured, by decide +kernel⟩
theorem a_M_favoured_6 : zAt 175 6 m_M_favoured (.if_icmp .ge 31) 3 := ⟨hm_M_favoured, by decide +kernel⟩
theorem a_M_favoured_9 : zAt 175 9 m_M_favoured (.iload_n 1) 1 := ⟨hm_M_favoured, by decide +kernel⟩
theorem a_M_favoured_10 : zAt 175 10 m_M_favoured (.aload_n 0) 1 := ⟨hm_M_favoured, by decide +kernel⟩
theorem a_M_favoured_11 : zAt 175 11 m_M_favoured (.getfield 7) 3 := ⟨hm_M_favoured, by decide +kernel⟩
theorem a_M_favoured_14 : zAt 175 14 m_M_favoured (.bipush 8) 2 := ⟨hm_M_favoured, by decide +kernel⟩
theorem a_M_favoured_16 : zAt 175 16 m_M_favoured (.iload_n 2) 1 := ⟨hm_M_favoured, by decide +kernel⟩
theorem a_M_favoured_17 : zAt 175 17 m_M_favoured (.iadd) 1 := ⟨hm_M_favoured, by decide +kernel⟩
theorem a_M_favoured_18 : zAt 175 18 m_M_favoured (.iaload) 1 := ⟨hm_M_favoured, by decide +kernel⟩
theorem a_M_favoured_19 : zAt 175 19 m_M_favoured (.ifCond .le 9) 3 := ⟨hm_M_favoured, by decide +kernel⟩
theorem a_M_favoured_22 : zAt 175 22 m_M_favoured (.iconst 1) 1 := ⟨hm_M_favoured, by decide +kernel⟩
theorem a_M_favoured_23 : zAt 175 23 m_M_favoured (.iload_n 2) 1 := ⟨hm_M_favoured, by decide +kernel⟩
theorem a_M_favoured_24 : zAt 175 24 m_M_favoured (.ishl) 1 := ⟨hm_M_favoured, by decide +kernel⟩
theorem a_M_favoured_25 : zAt 175 25 m_M_favoured (.goto 4) 3 := ⟨hm_M_favoured, by decide +kernel⟩
theorem a_M_favoured_28 : zAt 175 28 m_M_favoured (.iconst 0) 1 := ⟨hm_M_favoured, by decide +kernel⟩
theorem a_M_favoured_29 : zAt 175 29 m_M_favoured (.ior) 1 := ⟨hm_M_favoured, by decide +kernel⟩
theorem a_M_favoured_30 : zAt 175 30 m_M_favoured (.istore_n 1) 1 := ⟨hm_M_favoured, by decide +kernel⟩
theorem a_M_favoured_31 : zAt 175 31 m_M_favoured (.iinc 2 1) 3 := ⟨hm_M_favoured, by decide +kernel⟩
theorem a_M_favoured_34 : zAt 175 34 m_M_favoured (.goto (-30)) 3 := ⟨hm_M_favoured, by decide +kernel⟩
theorem a_M_favoured_37 : zAt 175 37 m_M_favoured (.iload_n 1) 1 := ⟨hm_M_favoured, by decide +kernel⟩
theorem a_M_favoured_38 : zAt 175 38 m_M_favoured (.ireturn) 1 := ⟨hm_M_favoured, by decide +kernel⟩
theorem B_M_favoured_0 {G : Nat → Nat → Int32} : zden 175 0 [.ref 90, .retAddr 0, .retAddr 0] [] (zSH, G) = zden 175 4 [.ref 90, .int 0, .int 0] [] (zSH, G) :=
  (zd_iconst (v := 0) a_M_favoured_0 (by decide)).trans ((zd_istore_n a_M_favoured_1 rfl rfl rfl).trans ((zd_iconst (v := 0) a_M_favoured_2 (by decide)).trans ((zd_istore_n a_M_favoured_3 rfl rfl rfl))))
theorem B_M_favoured_4 {G : Nat → Nat → Int32} {x1 x2 : Int32} (z18_0 : (¬ (5 ≤ x2)) → zin (8 + x2) 327 = true) : zden 175 4 [.ref 90, .int x1, .int x2] [] (zSH, G) = if 5 ≤ x2 then some (some (.int x1), (zSH, G)) else if (G 91 (8 + x2).toNatClampNeg) ≤ 0 then zden 175 29 [.ref 90, .int x1, .int x2] [.int 0, .int x1] (zSH, G) else zden 175 29 [.ref 90, .int x1, .int x2] [.int (1 <<< (x2 &&& 31)), .int x1] (zSH, G) :=
  (zd_iload_n a_M_favoured_4 rfl).trans ((zd_iconst (v := 5) a_M_favoured_5 (by decide)).trans ((zd_icmp_ge a_M_favoured_6 rfl).trans (zitc (fun p5 => (zd_iload_n a_M_favoured_37 rfl).trans (zd_iret a_M_favoured_38 rfl (znr_int _))) (fun p5 => (zd_iload_n a_M_favoured_9 rfl).trans ((zd_aload_n a_M_favoured_10 rfl).trans ((zd_getR (h := (zSH, G)) (ci := 8) (fi := 5) (a := 91) a_M_favoured_11 (by decide +kernel) sh_90 rfl rfl).trans ((zd_bipush (v := 8) a_M_favoured_14 (by decide)).trans ((zd_iload_n a_M_favoured_16 rfl).trans ((zd_num (st2 := [.int (8 + x2), .ref 91, .int x1]) a_M_favoured_17 rfl rfl rfl rfl).trans ((zd_iald (h := (zSH, G)) a_M_favoured_18 sh_91 rfl).trans ((if_pos (z18_0 p5)).trans ((zd_if_le a_M_favoured_19 rfl).trans (zitc (fun p6 => (zd_iconst (v := 0) a_M_favoured_28 (by decide))) (fun p6 => (zd_iconst (v := 1) a_M_favoured_22 (by decide)).trans ((zd_iload_n a_M_favoured_23 rfl).trans ((zd_num (st2 := [.int (1 <<< (x2 &&& 31)), .int x1]) a_M_favoured_24 rfl rfl rfl rfl).trans ((zd_goto a_M_favoured_25 rfl))))))))))))))))))
theorem B_M_favoured_29 {G : Nat → Nat → Int32} {x1 x2 s0 s1 : Int32} : zden 175 29 [.ref 90, .int x1, .int x2] [.int s0, .int s1] (zSH, G) = zden 175 4 [.ref 90, .int (s1 ||| s0), .int (x2 + 1)] [] (zSH, G) :=
  (zd_num (st2 := [.int (s1 ||| s0)]) a_M_favoured_29 rfl rfl rfl rfl).trans ((zd_istore_n a_M_favoured_30 rfl rfl rfl).trans ((zd_iinc (v := 1) a_M_favoured_31 rfl (by decide) rfl rfl rfl).trans ((zd_goto a_M_favoured_34 rfl))))
theorem a_M_sum_0 : zAt 177 0 m_M_sum (.iconst 0) 1 := ⟨hm_M_sum, by decide +kernel⟩
theorem a_M_sum_1 : zAt 177 1 m_M_sum (.istore_n 2) 1 := ⟨hm_M_sum, by decide +kernel⟩
theorem a_M_sum_2 : zAt 177 2 m_M_sum (.iconst 0) 1 := ⟨hm_M_sum, by decide +kernel⟩
theorem a_M_sum_3 : zAt 177 3 m_M_sum (.istore_n 3) 1 := ⟨hm_M_sum, by decide +kernel⟩
theorem a_M_sum_4 : zAt 177 4 m_M_sum (.iload_n 3) 1 := ⟨hm_M_sum, by decide +kernel⟩
theorem a_M_sum_5 : zAt 177 5 m_M_sum (.aload_n 0) 1 := ⟨hm_M_sum, by decide +kernel⟩
theorem a_M_sum_6 : zAt 177 6 m_M_sum (.getfield 7) 3 := ⟨hm_M_sum, by decide +kernel⟩
theorem a_M_sum_9 : zAt 177 9 m_M_sum (.iconst 2) 1 := ⟨hm_M_sum, by decide +kernel⟩
theorem a_M_sum_10 : zAt 177 10 m_M_sum (.iaload) 1 := ⟨hm_M_sum, by decide +kernel⟩
theorem a_M_sum_11 : zAt 177 11 m_M_sum (.if_icmp .ge 22) 3 := ⟨hm_M_sum, by decide +kernel⟩
theorem a_M_sum_14 : zAt 177 14 m_M_sum (.iload_n 2) 1 := ⟨hm_M_sum, by decide +kernel⟩
theorem a_M_sum_15 : zAt 177 15 m_M_sum (.aload_n 0) 1 := ⟨hm_M_sum, by decide +kernel⟩
theorem a_M_sum_16 : zAt 177 16 m_M_sum (.getfield 7) 3 := ⟨hm_M_sum, by decide +kernel⟩
theorem a_M_sum_19 : zAt 177 19 m_M_sum (.iload_n 3) 1 := ⟨hm_M_sum, by decide +kernel⟩
theorem a_M_sum_20 : zAt 177 20 m_M_sum (.iload_n 1) 1 := ⟨hm_M_sum, by decide +kernel⟩
theorem a_M_sum_21 : zAt 177 21 m_M_sum (.invokestatic 91) 3 := ⟨hm_M_sum, by decide +kernel⟩
theorem a_M_sum_24 : zAt 177 24 m_M_sum (.iaload) 1 := ⟨hm_M_sum, by decide +kernel⟩
theorem a_M_sum_25 : zAt 177 25 m_M_sum (.iadd) 1 := ⟨hm_M_sum, by decide +kernel⟩
theorem a_M_sum_26 : zAt 177 26 m_M_sum (.istore_n 2) 1 := ⟨hm_M_sum, by decide +kernel⟩
theorem a_M_sum_27 : zAt 177 27 m_M_sum (.iinc 3 1) 3 := ⟨hm_M_sum, by decide +kernel⟩
theorem a_M_sum_30 : zAt 177 30 m_M_sum (.goto (-26)) 3 := ⟨hm_M_sum, by decide +kernel⟩
theorem a_M_sum_33 : zAt 177 33 m_M_sum (.iload_n 2) 1 := ⟨hm_M_sum, by decide +kernel⟩
theorem a_M_sum_34 : zAt 177 34 m_M_sum (.ireturn) 1 := ⟨hm_M_sum, by decide +kernel⟩
theorem B_M_sum_0 {G : Nat → Nat → Int32} {x1 : Int32} : zden 177 0 [.ref 90, .int x1, .retAddr 0, .retAddr 0] [] (zSH, G) = zden 177 4 [.ref 90, .int x1, .int 0, .int 0] [] (zSH, G) :=
  (zd_iconst (v := 0) a_M_sum_0 (by decide)).trans ((zd_istore_n a_M_sum_1 rfl rfl rfl).trans ((zd_iconst (v := 0) a_M_sum_2 (by decide)).trans ((zd_istore_n a_M_sum_3 rfl rfl rfl))))
theorem B_M_sum_4 {G : Nat → Nat → Int32} {x1 x2 x3 : Int32} (z24_0 : (¬ ((G 91 2) ≤ x3)) → zin (63 + 22 * x3 + x1) 327 = true) : zden 177 4 [.ref 90, .int x1, .int x2, .int x3] [] (zSH, G) = if (G 91 2) ≤ x3 then some (some (.int x2), (zSH, G)) else zden 177 4 [.ref 90, .int x1, .int (x2 + (G 91 (63 + 22 * x3 + x1).toNatClampNeg)), .int (x3 + 1)] [] (zSH, G) :=
  (zd_iload_n a_M_sum_4 rfl).trans ((zd_aload_n a_M_sum_5 rfl).trans ((zd_getR (h := (zSH, G)) (ci := 8) (fi := 5) (a := 91) a_M_sum_6 (by decide +kernel) sh_90 rfl rfl).trans ((zd_iconst (v := 2) a_M_sum_9 (by decide)).trans ((zd_iald (h := (zSH, G)) a_M_sum_10 sh_91 rfl).trans ((if_pos (by decide)).trans ((zd_icmp_ge a_M_sum_11 rfl).trans (zitc (fun p2 => (zd_iload_n a_M_sum_33 rfl).trans (zd_iret a_M_sum_34 rfl (znr_int _))) (fun p2 => (zd_iload_n a_M_sum_14 rfl).trans ((zd_aload_n a_M_sum_15 rfl).trans ((zd_getR (h := (zSH, G)) (ci := 8) (fi := 5) (a := 91) a_M_sum_16 (by decide +kernel) sh_90 rfl rfl).trans ((zd_iload_n a_M_sum_19 rfl).trans ((zd_iload_n a_M_sum_20 rfl).trans ((zd_cal (kd := 1) (tg := 123) (T := m_M_of) a_M_sum_21 (by decide +kernel) hm_M_of rfl rfl rfl rfl).trans (((congrArg (zaft 177 24 [.ref 90, .int x1, .int x2, .int x3] [.ref 91, .int x2] (zSH, G)) (ms_of)).trans zaft_same).trans ((zd_iald (h := (zSH, G)) a_M_sum_24 sh_91 rfl).trans ((if_pos (z24_0 p2)).trans ((zd_num (st2 := [.int (x2 + (G 91 (63 + 22 * x3 + x1).toNatClampNeg))]) a_M_sum_25 rfl rfl rfl rfl).trans ((zd_istore_n a_M_sum_26 rfl rfl rfl).trans ((zd_iinc (v := 1) a_M_sum_27 rfl (by decide) rfl rfl rfl).trans ((zd_goto a_M_sum_30 rfl)))))))))))))))))))))
theorem a_M_isBalanced_0 : zAt 176 0 m_M_isBalanced (.aload_n 0) 1 := ⟨hm_M_isBalanced, by decide +kernel⟩
theorem a_M_isBalanced_1 : zAt 176 1 m_M_isBalanced (.getfield 7) 3 := ⟨hm_M_isBalanced, by decide +kernel⟩
theorem a_M_isBalanced_4 : zAt 176 4 m_M_isBalanced (.iconst 3) 1 := ⟨hm_M_isBalanced, by decide +kernel⟩
theorem a_M_isBalanced_5 : zAt 176 5 m_M_isBalanced (.iaload) 1 := ⟨hm_M_isBalanced, by decide +kernel⟩
theorem a_M_isBalanced_6 : zAt 176 6 m_M_isBalanced (.aload_n 0) 1 := ⟨hm_M_isBalanced, by decide +kernel⟩
theorem a_M_isBalanced_7 : zAt 176 7 m_M_isBalanced (.getfield 7) 3 := ⟨hm_M_isBalanced, by decide +kernel⟩
theorem a_M_isBalanced_10 : zAt 176 10 m_M_isBalanced (.iconst 4) 1 := ⟨hm_M_isBalanced, by decide +kernel⟩
theorem a_M_isBalanced_11 : zAt 176 11 m_M_isBalanced (.iaload) 1 := ⟨hm_M_isBalanced, by decide +kernel⟩
theorem a_M_isBalanced_12 : zAt 176 12 m_M_isBalanced (.aload_n 0) 1 := ⟨hm_M_isBalanced, by decide +kernel⟩
theorem a_M_isBalanced_13 : zAt 176 13 m_M_isBalanced (.getfield 7) 3 := ⟨hm_M_isBalanced, by decide +kernel⟩
theorem a_M_isBalanced_16 : zAt 176 16 m_M_isBalanced (.bipush 6) 2 := ⟨hm_M_isBalanced, by decide +kernel⟩
theorem a_M_isBalanced_18 : zAt 176 18 m_M_isBalanced (.iaload) 1 := ⟨hm_M_isBalanced, by decide +kernel⟩
theorem a_M_isBalanced_19 : zAt 176 19 m_M_isBalanced (.iadd) 1 := ⟨hm_M_isBalanced, by decide +kernel⟩
theorem a_M_isBalanced_20 : zAt 176 20 m_M_isBalanced (.aload_n 0) 1 := ⟨hm_M_isBalanced, by decide +kernel⟩
theorem a_M_isBalanced_21 : zAt 176 21 m_M_isBalanced (.getfield 7) 3 := ⟨hm_M_isBalanced, by decide +kernel⟩
theorem a_M_isBalanced_24 : zAt 176 24 m_M_isBalanced (.iconst 5) 1 := ⟨hm_M_isBalanced, by decide +kernel⟩
theorem a_M_isBalanced_25 : zAt 176 25 m_M_isBalanced (.iaload) 1 := ⟨hm_M_isBalanced, by decide +kernel⟩
theorem a_M_isBalanced_26 : zAt 176 26 m_M_isBalanced (.isub) 1 := ⟨hm_M_isBalanced, by decide +kernel⟩
theorem a_M_isBalanced_27 : zAt 176 27 m_M_isBalanced (.if_icmp .ne 38) 3 := ⟨hm_M_isBalanced, by decide +kernel⟩
theorem a_M_isBalanced_30 : zAt 176 30 m_M_isBalanced (.aload_n 0) 1 := ⟨hm_M_isBalanced, by decide +kernel⟩
theorem a_M_isBalanced_31 : zAt 176 31 m_M_isBalanced (.bipush 8) 2 := ⟨hm_M_isBalanced, by decide +kernel⟩
theorem a_M_isBalanced_33 : zAt 176 33 m_M_isBalanced (.invokevirtual 219) 3 := ⟨hm_M_isBalanced, by decide +kernel⟩
theorem a_M_isBalanced_36 : zAt 176 36 m_M_isBalanced (.aload_n 0) 1 := ⟨hm_M_isBalanced, by decide +kernel⟩
theorem a_M_isBalanced_37 : zAt 176 37 m_M_isBalanced (.getfield 7) 3 := ⟨hm_M_isBalanced, by decide +kernel⟩
theorem a_M_isBalanced_40 : zAt 176 40 m_M_isBalanced (.iconst 5) 1 := ⟨hm_M_isBalanced, by decide +kernel⟩
theorem a_M_isBalanced_41 : zAt 176 41 m_M_isBalanced (.iaload) 1 := ⟨hm_M_isBalanced, by decide +kernel⟩
theorem a_M_isBalanced_42 : zAt 176 42 m_M_isBalanced (.if_icmp .ne 23) 3 := ⟨hm_M_isBalanced, by decide +kernel⟩
theorem a_M_isBalanced_45 : zAt 176 45 m_M_isBalanced (.aload_n 0) 1 := ⟨hm_M_isBalanced, by decide +kernel⟩
theorem a_M_isBalanced_46 : zAt 176 46 m_M_isBalanced (.bipush 9) 2 := ⟨hm_M_isBalanced, by decide +kernel⟩
theorem a_M_isBalanced_48 : zAt 176 48 m_M_isBalanced (.invokevirtual 219) 3 := ⟨hm_M_isBalanced, by decide +kernel⟩
theorem a_M_isBalanced_51 : zAt 176 51 m_M_isBalanced (.aload_n 0) 1 := ⟨hm_M_isBalanced, by decide +kernel⟩
theorem a_M_isBalanced_52 : zAt 176 52 m_M_isBalanced (.getfield 7) 3 := ⟨hm_M_isBalanced, by decide +kernel⟩
theorem a_M_isBalanced_55 : zAt 176 55 m_M_isBalanced (.bipush 6) 2 := ⟨hm_M_isBalanced, by decide +kernel⟩
theorem a_M_isBalanced_57 : zAt 176 57 m_M_isBalanced (.iaload) 1 := ⟨hm_M_isBalanced, by decide +kernel⟩
theorem a_M_isBalanced_58 : zAt 176 58 m_M_isBalanced (.if_icmp .ne 7) 3 := ⟨hm_M_isBalanced, by decide +kernel⟩
theorem a_M_isBalanced_61 : zAt 176 61 m_M_isBalanced (.iconst 1) 1 := ⟨hm_M_isBalanced, by decide +kernel⟩
theorem a_M_isBalanced_62 : zAt 176 62 m_M_isBalanced (.goto 4) 3 := ⟨hm_M_isBalanced, by decide +kernel⟩
theorem a_M_isBalanced_65 : zAt 176 65 m_M_isBalanced (.iconst 0) 1 := ⟨hm_M_isBalanced, by decide +kernel⟩
theorem a_M_isBalanced_66 : zAt 176 66 m_M_isBalanced (.ireturn) 1 := ⟨hm_M_isBalanced, by decide +kernel⟩
theorem B_M_isBalanced_0 {G : Nat → Nat → Int32} : zden 176 0 [.ref 90] [] (zSH, G) = if ¬ (G 91 3) = (((G 91 4) + (G 91 6)) - (G 91 5)) then some (some (.int 0), (zSH, G)) else zaft 176 36 [.ref 90] [] (zSH, G) (zden 177 0 [.ref 90, .int 8, .retAddr 0, .retAddr 0] [] (zSH, G)) :=
  (zd_aload_n a_M_isBalanced_0 rfl).trans ((zd_getR (h := (zSH, G)) (ci := 8) (fi := 5) (a := 91) a_M_isBalanced_1 (by decide +kernel) sh_90 rfl rfl).trans ((zd_iconst (v := 3) a_M_isBalanced_4 (by decide)).trans ((zd_iald (h := (zSH, G)) a_M_isBalanced_5 sh_91 rfl).trans ((if_pos (by decide)).trans ((zd_aload_n a_M_isBalanced_6 rfl).trans ((zd_getR (h := (zSH, G)) (ci := 8) (fi := 5) (a := 91) a_M_isBalanced_7 (by decide +kernel) sh_90 rfl rfl).trans ((zd_iconst (v := 4) a_M_isBalanced_10 (by decide)).trans ((zd_iald (h := (zSH, G)) a_M_isBalanced_11 sh_91 rfl).trans ((if_pos (by decide)).trans ((zd_aload_n a_M_isBalanced_12 rfl).trans ((zd_getR (h := (zSH, G)) (ci := 8) (fi := 5) (a := 91) a_M_isBalanced_13 (by decide +kernel) sh_90 rfl rfl).trans ((zd_bipush (v := 6) a_M_isBalanced_16 (by decide)).trans ((zd_iald (h := (zSH, G)) a_M_isBalanced_18 sh_91 rfl).trans ((if_pos (by decide)).trans ((zd_num (st2 := [.int ((G 91 4) + (G 91 6)), .int (G 91 3)]) a_M_isBalanced_19 rfl rfl rfl rfl).trans ((zd_aload_n a_M_isBalanced_20 rfl).trans ((zd_getR (h := (zSH, G)) (ci := 8) (fi := 5) (a := 91) a_M_isBalanced_21 (by decide +kernel) sh_90 rfl rfl).trans ((zd_iconst (v := 5) a_M_isBalanced_24 (by decide)).trans ((zd_iald (h := (zSH, G)) a_M_isBalanced_25 sh_91 rfl).trans ((if_pos (by decide)).trans ((zd_num (st2 := [.int (((G 91 4) + (G 91 6)) - (G 91 5)), .int (G 91 3)]) a_M_isBalanced_26 rfl rfl rfl rfl).trans ((zd_icmp_ne a_M_isBalanced_27 rfl).trans (zitc (fun p7 => (zd_iconst (v := 0) a_M_isBalanced_65 (by decide)).trans (zd_iret a_M_isBalanced_66 rfl (znr_int _))) (fun p7 => (zd_aload_n a_M_isBalanced_30 rfl).trans ((zd_bipush (v := 8) a_M_isBalanced_31 (by decide)).trans ((zd_cal (kd := 0) (tg := 177) (T := m_M_sum) a_M_isBalanced_33 (by decide +kernel) hm_M_sum rfl rfl rfl rfl)))))))))))))))))))))))))))
theorem B_M_isBalanced_36 {G : Nat → Nat → Int32} {s0 : Int32} : zden 176 36 [.ref 90] [.int s0] (zSH, G) = if ¬ s0 = (G 91 5) then some (some (.int 0), (zSH, G)) else zaft 176 51 [.ref 90] [] (zSH, G) (zden 177 0 [.ref 90, .int 9, .retAddr 0, .retAddr 0] [] (zSH, G)) :=
  (zd_aload_n a_M_isBalanced_36 rfl).trans ((zd_getR (h := (zSH, G)) (ci := 8) (fi := 5) (a := 91) a_M_isBalanced_37 (by decide +kernel) sh_90 rfl rfl).trans ((zd_iconst (v := 5) a_M_isBalanced_40 (by decide)).trans ((zd_iald (h := (zSH, G)) a_M_isBalanced_41 sh_91 rfl).trans ((if_pos (by decide)).trans ((zd_icmp_ne a_M_isBalanced_42 rfl).trans (zitc (fun p8 => (zd_iconst (v := 0) a_M_isBalanced_65 (by decide)).trans (zd_iret a_M_isBalanced_66 rfl (znr_int _))) (fun p8 => (zd_aload_n a_M_isBalanced_45 rfl).trans ((zd_bipush (v := 9) a_M_isBalanced_46 (by decide)).trans ((zd_cal (kd := 0) (tg := 177) (T := m_M_sum) a_M_isBalanced_48 (by decide +kernel) hm_M_sum rfl rfl rfl rfl))))))))))
theorem B_M_isBalanced_51 {G : Nat → Nat → Int32} {s0 : Int32} : zden 176 51 [.ref 90] [.int s0] (zSH, G) = if ¬ s0 = (G 91 6) then some (some (.int 0), (zSH, G)) else some (some (.int 1), (zSH, G)) :=
  (zd_aload_n a_M_isBalanced_51 rfl).trans ((zd_getR (h := (zSH, G)) (ci := 8) (fi := 5) (a := 91) a_M_isBalanced_52 (by decide +kernel) sh_90 rfl rfl).trans ((zd_bipush (v := 6) a_M_isBalanced_55 (by decide)).trans ((zd_iald (h := (zSH, G)) a_M_isBalanced_57 sh_91 rfl).trans ((if_pos (by decide)).trans ((zd_icmp_ne a_M_isBalanced_58 rfl).trans (zitc (fun p9 => (zd_iconst (v := 0) a_M_isBalanced_65 (by decide)).trans (zd_iret a_M_isBalanced_66 rfl (znr_int _))) (fun p9 => (zd_iconst (v := 1) a_M_isBalanced_61 (by decide)).trans ((zd_goto a_M_isBalanced_62 rfl).trans (zd_iret a_M_isBalanced_66 rfl (znr_int _))))))))))
theorem a_M_undo_0 : zAt 180 0 m_M_undo (.aload_n 0) 1 := ⟨hm_M_undo, by decide +kernel⟩
theorem a_M_undo_1 : zAt 180 1 m_M_undo (.getfield 61) 3 := ⟨hm_M_undo, by decide +kernel⟩
theorem a_M_undo_4 : zAt 180 4 m_M_undo (.ifCond .ne 6) 3 := ⟨hm_M_undo, by decide +kernel⟩
theorem a_M_undo_7 : zAt 180 7 m_M_undo (.bipush (-15)) 2 := ⟨hm_M_undo, by decide +kernel⟩
theorem a_M_undo_9 : zAt 180 9 m_M_undo (.ireturn) 1 := ⟨hm_M_undo, by decide +kernel⟩
theorem a_M_undo_10 : zAt 180 10 m_M_undo (.aload_n 0) 1 := ⟨hm_M_undo, by decide +kernel⟩
theorem a_M_undo_11 : zAt 180 11 m_M_undo (.dup) 1 := ⟨hm_M_undo, by decide +kernel⟩
theorem a_M_undo_12 : zAt 180 12 m_M_undo (.getfield 61) 3 := ⟨hm_M_undo, by decide +kernel⟩
theorem a_M_undo_15 : zAt 180 15 m_M_undo (.iconst 1) 1 := ⟨hm_M_undo, by decide +kernel⟩
theorem a_M_undo_16 : zAt 180 16 m_M_undo (.isub) 1 := ⟨hm_M_undo, by decide +kernel⟩
theorem a_M_undo_17 : zAt 180 17 m_M_undo (.putfield 61) 3 := ⟨hm_M_undo, by decide +kernel⟩
theorem a_M_undo_20 : zAt 180 20 m_M_undo (.iconst 0) 1 := ⟨hm_M_undo, by decide +kernel⟩
theorem a_M_undo_21 : zAt 180 21 m_M_undo (.istore_n 1) 1 := ⟨hm_M_undo, by decide +kernel⟩
theorem a_M_undo_22 : zAt 180 22 m_M_undo (.iload_n 1) 1 := ⟨hm_M_undo, by decide +kernel⟩
theorem a_M_undo_23 : zAt 180 23 m_M_undo (.sipush 327) 3 := ⟨hm_M_undo, by decide +kernel⟩
theorem a_M_undo_26 : zAt 180 26 m_M_undo (.if_icmp .ge 30) 3 := ⟨hm_M_undo, by decide +kernel⟩
theorem a_M_undo_29 : zAt 180 29 m_M_undo (.aload_n 0) 1 := ⟨hm_M_undo, by decide +kernel⟩
theorem a_M_undo_30 : zAt 180 30 m_M_undo (.getfield 7) 3 := ⟨hm_M_undo, by decide +kernel⟩
theorem a_M_undo_33 : zAt 180 33 m_M_undo (.iload_n 1) 1 := ⟨hm_M_undo, by decide +kernel⟩
theorem a_M_undo_34 : zAt 180 34 m_M_undo (.aload_n 0) 1 := ⟨hm_M_undo, by decide +kernel⟩
theorem a_M_undo_35 : zAt 180 35 m_M_undo (.getfield 19) 3 := ⟨hm_M_undo, by decide +kernel⟩
theorem a_M_undo_38 : zAt 180 38 m_M_undo (.aload_n 0) 1 := ⟨hm_M_undo, by decide +kernel⟩
theorem a_M_undo_39 : zAt 180 39 m_M_undo (.getfield 61) 3 := ⟨hm_M_undo, by decide +kernel⟩
theorem a_M_undo_42 : zAt 180 42 m_M_undo (.sipush 327) 3 := ⟨hm_M_undo, by decide +kernel⟩
theorem a_M_undo_45 : zAt 180 45 m_M_undo (.imul) 1 := ⟨hm_M_undo, by decide +kernel⟩
theorem a_M_undo_46 : zAt 180 46 m_M_undo (.iload_n 1) 1 := ⟨hm_M_undo, by decide +kernel⟩
theorem a_M_undo_47 : zAt 180 47 m_M_undo (.iadd) 1 := ⟨hm_M_undo, by decide +kernel⟩
theorem a_M_undo_48 : zAt 180 48 m_M_undo (.iaload) 1 := ⟨hm_M_undo, by decide +kernel⟩
theorem a_M_undo_49 : zAt 180 49 m_M_undo (.iastore) 1 := ⟨hm_M_undo, by decide +kernel⟩
theorem a_M_undo_50 : zAt 180 50 m_M_undo (.iinc 1 1) 3 := ⟨hm_M_undo, by decide +kernel⟩
theorem a_M_undo_53 : zAt 180 53 m_M_undo (.goto (-31)) 3 := ⟨hm_M_undo, by decide +kernel⟩
theorem a_M_undo_56 : zAt 180 56 m_M_undo (.aload_n 0) 1 := ⟨hm_M_undo, by decide +kernel⟩
theorem a_M_undo_57 : zAt 180 57 m_M_undo (.getfield 61) 3 := ⟨hm_M_undo, by decide +kernel⟩
theorem a_M_undo_60 : zAt 180 60 m_M_undo (.ireturn) 1 := ⟨hm_M_undo, by decide +kernel⟩
theorem B_M_undo_0 {G : Nat → Nat → Int32} : zden 180 0 [.ref 90, .retAddr 0] [] (zSH, G) = if ¬ (G 90 1) = 0 then zden 180 22 [.ref 90, .int 0] [] (zSH, (zup G 90 1 ((G 90 1) - 1))) else some (some (.int (-15)), (zSH, G)) :=
  (zd_aload_n a_M_undo_0 rfl).trans ((zd_getI (h := (zSH, G)) (ci := 8) (fi := 1) a_M_undo_1 (by decide +kernel) sh_90 rfl).trans ((zd_if_ne a_M_undo_4 rfl).trans (zitc (fun p4 => (zd_aload_n a_M_undo_10 rfl).trans ((zd_num (st2 := [.ref 90, .ref 90]) a_M_undo_11 rfl rfl rfl rfl).trans ((zd_getI (h := (zSH, G)) (ci := 8) (fi := 1) a_M_undo_12 (by decide +kernel) sh_90 rfl).trans ((zd_iconst (v := 1) a_M_undo_15 (by decide)).trans ((zd_num (st2 := [.int ((G 90 1) - 1), .ref 90]) a_M_undo_16 rfl rfl rfl rfl).trans ((zd_putI (h := (zSH, G)) (ci := 8) (fi := 1) a_M_undo_17 (by decide +kernel) sh_90 rfl rfl).trans ((zd_iconst (v := 0) a_M_undo_20 (by decide)).trans ((zd_istore_n a_M_undo_21 rfl rfl rfl))))))))) (fun p4 => (zd_bipush (v := (-15)) a_M_undo_7 (by decide)).trans (zd_iret a_M_undo_9 rfl (znr_int _))))))
theorem B_M_undo_22 {G : Nat → Nat → Int32} {x1 : Int32} (z48_0 : (¬ (327 ≤ x1)) → zin (((G 90 1) * 327) + x1) 2616 = true) (z49_1 : (¬ (327 ≤ x1)) → zin x1 327 = true) : zden 180 22 [.ref 90, .int x1] [] (zSH, G) = if 327 ≤ x1 then some (some (.int (G 90 1)), (zSH, G)) else zden 180 22 [.ref 90, .int (x1 + 1)] [] (zSH, (zup G 91 x1.toNatClampNeg (G 94 (((G 90 1) * 327) + x1).toNatClampNeg))) :=
  (zd_iload_n a_M_undo_22 rfl).trans ((zd_sipush (v := 327) a_M_undo_23 (by decide)).trans ((zd_icmp_ge a_M_undo_26 rfl).trans (zitc (fun p5 => (zd_aload_n a_M_undo_56 rfl).trans ((zd_getI (h := (zSH, G)) (ci := 8) (fi := 1) a_M_undo_57 (by decide +kernel) sh_90 rfl).trans (zd_iret a_M_undo_60 rfl (znr_int _)))) (fun p5 => (zd_aload_n a_M_undo_29 rfl).trans ((zd_getR (h := (zSH, G)) (ci := 8) (fi := 5) (a := 91) a_M_undo_30 (by decide +kernel) sh_90 rfl rfl).trans ((zd_iload_n a_M_undo_33 rfl).trans ((zd_aload_n a_M_undo_34 rfl).trans ((zd_getR (h := (zSH, G)) (ci := 8) (fi := 8) (a := 94) a_M_undo_35 (by decide +kernel) sh_90 rfl rfl).trans ((zd_aload_n a_M_undo_38 rfl).trans ((zd_getI (h := (zSH, G)) (ci := 8) (fi := 1) a_M_undo_39 (by decide +kernel) sh_90 rfl).trans ((zd_sipush (v := 327) a_M_undo_42 (by decide)).trans ((zd_num (st2 := [.int ((G 90 1) * 327), .ref 94, .int x1, .ref 91]) a_M_undo_45 rfl rfl rfl rfl).trans ((zd_iload_n a_M_undo_46 rfl).trans ((zd_num (st2 := [.int (((G 90 1) * 327) + x1), .ref 94, .int x1, .ref 91]) a_M_undo_47 rfl rfl rfl rfl).trans ((zd_iald (h := (zSH, G)) a_M_undo_48 sh_94 rfl).trans ((if_pos (z48_0 p5)).trans ((zd_iast (h := (zSH, G)) a_M_undo_49 sh_91).trans ((if_pos (z49_1 p5)).trans ((zd_iinc (v := 1) a_M_undo_50 rfl (by decide) rfl rfl rfl).trans ((zd_goto a_M_undo_53 rfl)))))))))))))))))))))
theorem a_M_save_0 : zAt 181 0 m_M_save (.aload_n 0) 1 := ⟨hm_M_save, by decide +kernel⟩
theorem a_M_save_1 : zAt 181 1 m_M_save (.getfield 16) 3 := ⟨hm_M_save, by decide +kernel⟩
theorem a_M_save_4 : zAt 181 4 m_M_save (.aload_n 0) 1 := ⟨hm_M_save, by decide +kernel⟩
theorem a_M_save_5 : zAt 181 5 m_M_save (.getfield 7) 3 := ⟨hm_M_save, by decide +kernel⟩
theorem a_M_save_8 : zAt 181 8 m_M_save (.invokestatic 57) 3 := ⟨hm_M_save, by decide +kernel⟩
theorem a_M_save_11 : zAt 181 11 m_M_save (.aload_n 0) 1 := ⟨hm_M_save, by decide +kernel⟩
theorem a_M_save_12 : zAt 181 12 m_M_save (.iconst 1) 1 := ⟨hm_M_save, by decide +kernel⟩
theorem a_M_save_13 : zAt 181 13 m_M_save (.putfield 222) 3 := ⟨hm_M_save, by decide +kernel⟩
theorem a_M_save_16 : zAt 181 16 m_M_save (.aload_n 0) 1 := ⟨hm_M_save, by decide +kernel⟩
theorem a_M_save_17 : zAt 181 17 m_M_save (.getfield 7) 3 := ⟨hm_M_save, by decide +kernel⟩
theorem a_M_save_20 : zAt 181 20 m_M_save (.iconst 0) 1 := ⟨hm_M_save, by decide +kernel⟩
theorem a_M_save_21 : zAt 181 21 m_M_save (.iaload) 1 := ⟨hm_M_save, by decide +kernel⟩
theorem a_M_save_22 : zAt 181 22 m_M_save (.ireturn) 1 := ⟨hm_M_save, by decide +kernel⟩
theorem B_M_save_0 {G : Nat → Nat → Int32} : zden 181 0 [.ref 90] [] (zSH, G) = zaft 181 11 [.ref 90] [] (zSH, G) (zden 108 0 [.ref 93, .ref 91, .retAddr 0] [] (zSH, G)) :=
  (zd_aload_n a_M_save_0 rfl).trans ((zd_getR (h := (zSH, G)) (ci := 8) (fi := 7) (a := 93) a_M_save_1 (by decide +kernel) sh_90 rfl rfl).trans ((zd_aload_n a_M_save_4 rfl).trans ((zd_getR (h := (zSH, G)) (ci := 8) (fi := 5) (a := 91) a_M_save_5 (by decide +kernel) sh_90 rfl rfl).trans ((zd_cal (kd := 1) (tg := 108) (T := m_M_lays) a_M_save_8 (by decide +kernel) hm_M_lays rfl rfl rfl rfl)))))
theorem B_M_save_11 {G : Nat → Nat → Int32} : zden 181 11 [.ref 90] [] (zSH, G) = some (some (.int ((zup G 90 4 1) 91 0)), (zSH, (zup G 90 4 1))) :=
  (zd_aload_n a_M_save_11 rfl).trans ((zd_iconst (v := 1) a_M_save_12 (by decide)).trans ((zd_putI (h := (zSH, G)) (ci := 8) (fi := 4) a_M_save_13 (by decide +kernel) sh_90 rfl rfl).trans ((zd_aload_n a_M_save_16 rfl).trans ((zd_getR (h := (zSH, (zup G 90 4 1))) (ci := 8) (fi := 5) (a := 91) a_M_save_17 (by decide +kernel) sh_90 rfl rfl).trans ((zd_iconst (v := 0) a_M_save_20 (by decide)).trans ((zd_iald (h := (zSH, (zup G 90 4 1))) a_M_save_21 sh_91 rfl).trans ((if_pos (by decide)).trans (zd_iret a_M_save_22 rfl (znr_int _)))))))))
theorem a_M_restore_0 : zAt 182 0 m_M_restore (.aload_n 0) 1 := ⟨hm_M_restore, by decide +kernel⟩
theorem a_M_restore_1 : zAt 182 1 m_M_restore (.getfield 222) 3 := ⟨hm_M_restore, by decide +kernel⟩
theorem a_M_restore_4 : zAt 182 4 m_M_restore (.ifCond .ne 6) 3 := ⟨hm_M_restore, by decide +kernel⟩
theorem a_M_restore_7 : zAt 182 7 m_M_restore (.bipush (-15)) 2 := ⟨hm_M_restore, by decide +kernel⟩
theorem a_M_restore_9 : zAt 182 9 m_M_restore (.ireturn) 1 := ⟨hm_M_restore, by decide +kernel⟩
theorem a_M_restore_10 : zAt 182 10 m_M_restore (.aload_n 0) 1 := ⟨hm_M_restore, by decide +kernel⟩
theorem a_M_restore_11 : zAt 182 11 m_M_restore (.getfield 7) 3 := ⟨hm_M_restore, by decide +kernel⟩
theorem a_M_restore_14 : zAt 182 14 m_M_restore (.aload_n 0) 1 := ⟨hm_M_restore, by decide +kernel⟩
theorem a_M_restore_15 : zAt 182 15 m_M_restore (.getfield 16) 3 := ⟨hm_M_restore, by decide +kernel⟩
theorem a_M_restore_18 : zAt 182 18 m_M_restore (.invokestatic 57) 3 := ⟨hm_M_restore, by decide +kernel⟩
theorem a_M_restore_21 : zAt 182 21 m_M_restore (.aload_n 0) 1 := ⟨hm_M_restore, by decide +kernel⟩
theorem a_M_restore_22 : zAt 182 22 m_M_restore (.iconst 0) 1 := ⟨hm_M_restore, by decide +kernel⟩
theorem a_M_restore_23 : zAt 182 23 m_M_restore (.putfield 61) 3 := ⟨hm_M_restore, by decide +kernel⟩
theorem a_M_restore_26 : zAt 182 26 m_M_restore (.aload_n 0) 1 := ⟨hm_M_restore, by decide +kernel⟩
theorem a_M_restore_27 : zAt 182 27 m_M_restore (.getfield 7) 3 := ⟨hm_M_restore, by decide +kernel⟩
theorem a_M_restore_30 : zAt 182 30 m_M_restore (.iconst 0) 1 := ⟨hm_M_restore, by decide +kernel⟩
theorem a_M_restore_31 : zAt 182 31 m_M_restore (.iaload) 1 := ⟨hm_M_restore, by decide +kernel⟩
theorem a_M_restore_32 : zAt 182 32 m_M_restore (.ireturn) 1 := ⟨hm_M_restore, by decide +kernel⟩
theorem B_M_restore_0 {G : Nat → Nat → Int32} : zden 182 0 [.ref 90] [] (zSH, G) = if ¬ (G 90 4) = 0 then zaft 182 21 [.ref 90] [] (zSH, G) (zden 108 0 [.ref 91, .ref 93, .retAddr 0] [] (zSH, G)) else some (some (.int (-15)), (zSH, G)) :=
  (zd_aload_n a_M_restore_0 rfl).trans ((zd_getI (h := (zSH, G)) (ci := 8) (fi := 4) a_M_restore_1 (by decide +kernel) sh_90 rfl).trans ((zd_if_ne a_M_restore_4 rfl).trans (zitc (fun p3 => (zd_aload_n a_M_restore_10 rfl).trans ((zd_getR (h := (zSH, G)) (ci := 8) (fi := 5) (a := 91) a_M_restore_11 (by decide +kernel) sh_90 rfl rfl).trans ((zd_aload_n a_M_restore_14 rfl).trans ((zd_getR (h := (zSH, G)) (ci := 8) (fi := 7) (a := 93) a_M_restore_15 (by decide +kernel) sh_90 rfl rfl).trans ((zd_cal (kd := 1) (tg := 108) (T := m_M_lays) a_M_restore_18 (by decide +kernel) hm_M_lays rfl rfl rfl rfl)))))) (fun p3 => (zd_bipush (v := (-15)) a_M_restore_7 (by decide)).trans (zd_iret a_M_restore_9 rfl (znr_int _))))))
theorem B_M_restore_21 {G : Nat → Nat → Int32} : zden 182 21 [.ref 90] [] (zSH, G) = some (some (.int ((zup G 90 1 0) 91 0)), (zSH, (zup G 90 1 0))) :=
  (zd_aload_n a_M_restore_21 rfl).trans ((zd_iconst (v := 0) a_M_restore_22 (by decide)).trans ((zd_putI (h := (zSH, G)) (ci := 8) (fi := 1) a_M_restore_23 (by decide +kernel) sh_90 rfl rfl).trans ((zd_aload_n a_M_restore_26 rfl).trans ((zd_getR (h := (zSH, (zup G 90 1 0))) (ci := 8) (fi := 5) (a := 91) a_M_restore_27 (by decide +kernel) sh_90 rfl rfl).trans ((zd_iconst (v := 0) a_M_restore_30 (by decide)).trans ((zd_iald (h := (zSH, (zup G 90 1 0))) a_M_restore_31 sh_91 rfl).trans ((if_pos (by decide)).trans (zd_iret a_M_restore_32 rfl (znr_int _)))))))))
theorem a_M_reason_0 : zAt 172 0 m_M_reason (.aload_n 0) 1 := ⟨hm_M_reason, by decide +kernel⟩
theorem a_M_reason_1 : zAt 172 1 m_M_reason (.getfield 47) 3 := ⟨hm_M_reason, by decide +kernel⟩
theorem a_M_reason_4 : zAt 172 4 m_M_reason (.ifCond .ne 8) 3 := ⟨hm_M_reason, by decide +kernel⟩
theorem a_M_reason_7 : zAt 172 7 m_M_reason (.bipush (-15)) 2 := ⟨hm_M_reason, by decide +kernel⟩
theorem a_M_reason_9 : zAt 172 9 m_M_reason (.goto 18) 3 := ⟨hm_M_reason, by decide +kernel⟩
theorem a_M_reason_12 : zAt 172 12 m_M_reason (.iload_n 1) 1 := ⟨hm_M_reason, by decide +kernel⟩
theorem a_M_reason_13 : zAt 172 13 m_M_reason (.ifCond .eq 10) 3 := ⟨hm_M_reason, by decide +kernel⟩
theorem a_M_reason_16 : zAt 172 16 m_M_reason (.aload_n 0) 1 := ⟨hm_M_reason, by decide +kernel⟩
theorem a_M_reason_17 : zAt 172 17 m_M_reason (.getfield 50) 3 := ⟨hm_M_reason, by decide +kernel⟩
theorem a_M_reason_20 : zAt 172 20 m_M_reason (.goto 7) 3 := ⟨hm_M_reason, by decide +kernel⟩
theorem a_M_reason_23 : zAt 172 23 m_M_reason (.aload_n 0) 1 := ⟨hm_M_reason, by decide +kernel⟩
theorem a_M_reason_24 : zAt 172 24 m_M_reason (.getfield 47) 3 := ⟨hm_M_reason, by decide +kernel⟩
theorem a_M_reason_27 : zAt 172 27 m_M_reason (.ireturn) 1 := ⟨hm_M_reason, by decide +kernel⟩
theorem B_M_reason_0 {G : Nat → Nat → Int32} {x1 : Int32} : zden 172 0 [.ref 90, .int x1] [] (zSH, G) = if ¬ (G 90 2) = 0 then if x1 = 0 then some (some (.int (G 90 2)), (zSH, G)) else some (some (.int (G 90 3)), (zSH, G)) else some (some (.int (-15)), (zSH, G)) :=
  (zd_aload_n a_M_reason_0 rfl).trans ((zd_getI (h := (zSH, G)) (ci := 8) (fi := 2) a_M_reason_1 (by decide +kernel) sh_90 rfl).trans ((zd_if_ne a_M_reason_4 rfl).trans (zitc (fun p3 => (zd_iload_n a_M_reason_12 rfl).trans ((zd_if_eq a_M_reason_13 rfl).trans (zitc (fun p4 => (zd_aload_n a_M_reason_23 rfl).trans ((zd_getI (h := (zSH, G)) (ci := 8) (fi := 2) a_M_reason_24 (by decide +kernel) sh_90 rfl).trans (zd_iret a_M_reason_27 rfl (znr_int _)))) (fun p4 => (zd_aload_n a_M_reason_16 rfl).trans ((zd_getI (h := (zSH, G)) (ci := 8) (fi := 3) a_M_reason_17 (by decide +kernel) sh_90 rfl).trans ((zd_goto a_M_reason_20 rfl).trans (zd_iret a_M_reason_27 rfl (znr_int _)))))))) (fun p3 => (zd_bipush (v := (-15)) a_M_reason_7 (by decide)).trans ((zd_goto a_M_reason_9 rfl).trans (zd_iret a_M_reason_27 rfl (znr_int _)))))))
