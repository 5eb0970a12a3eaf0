-- 21: the cells of the heap by their ids; Table (written by wip/p36/gen21.py)
theorem sh_0 : zSH[0]? = some (.inl (7, [some 1, some 2, some 9, some 81, some 84, some 88])) := by decide +kernel
theorem sh_1 : zSH[1]? = some (.inl (0, [some 2, none, none])) := by decide +kernel
theorem sh_2 : zSH[2]? = some (.inl (2, [some 3, some 5, some 7, none, none, none, none, none, none, none, none])) := by decide +kernel
theorem sh_3 : zSH[3]? = some (.inl (5, [none, none, some 4])) := by decide +kernel
theorem sh_4 : zSH[4]? = some (.inr (.int, 55, [])) := by decide +kernel
theorem sh_5 : zSH[5]? = some (.inl (5, [none, none, some 6])) := by decide +kernel
theorem sh_6 : zSH[6]? = some (.inr (.int, 276, [])) := by decide +kernel
theorem sh_7 : zSH[7]? = some (.inl (5, [none, none, some 8])) := by decide +kernel
theorem sh_8 : zSH[8]? = some (.inr (.int, 5, [])) := by decide +kernel
theorem sh_9 : zSH[9]? = some (.inl (1, [some 10, some 11, none, none, none])) := by decide +kernel
theorem sh_10 : zSH[10]? = some (.inr (.object "SilkTariff$House", 9, [some 18, some 25, some 32, some 39, some 46, some 53, some 60, some 67, some 74])) := by decide +kernel
theorem sh_11 : zSH[11]? = some (.inl (2, [some 12, some 14, some 16, none, none, none, none, none, none, none, none])) := by decide +kernel
theorem sh_12 : zSH[12]? = some (.inl (5, [none, none, some 13])) := by decide +kernel
theorem sh_13 : zSH[13]? = some (.inr (.int, 55, [])) := by decide +kernel
theorem sh_14 : zSH[14]? = some (.inl (5, [none, none, some 15])) := by decide +kernel
theorem sh_15 : zSH[15]? = some (.inr (.int, 276, [])) := by decide +kernel
theorem sh_16 : zSH[16]? = some (.inl (5, [none, none, some 17])) := by decide +kernel
theorem sh_17 : zSH[17]? = some (.inr (.int, 5, [])) := by decide +kernel
theorem sh_18 : zSH[18]? = some (.inl (2, [some 19, some 21, some 23, none, none, none, none, none, none, none, none])) := by decide +kernel
theorem sh_19 : zSH[19]? = some (.inl (5, [none, none, some 20])) := by decide +kernel
theorem sh_20 : zSH[20]? = some (.inr (.int, 55, [])) := by decide +kernel
theorem sh_21 : zSH[21]? = some (.inl (5, [none, none, some 22])) := by decide +kernel
theorem sh_22 : zSH[22]? = some (.inr (.int, 276, [])) := by decide +kernel
theorem sh_23 : zSH[23]? = some (.inl (5, [none, none, some 24])) := by decide +kernel
theorem sh_24 : zSH[24]? = some (.inr (.int, 5, [])) := by decide +kernel
theorem sh_25 : zSH[25]? = some (.inl (2, [some 26, some 28, some 30, none, none, none, none, none, none, none, none])) := by decide +kernel
theorem sh_26 : zSH[26]? = some (.inl (5, [none, none, some 27])) := by decide +kernel
theorem sh_27 : zSH[27]? = some (.inr (.int, 55, [])) := by decide +kernel
theorem sh_28 : zSH[28]? = some (.inl (5, [none, none, some 29])) := by decide +kernel
theorem sh_29 : zSH[29]? = some (.inr (.int, 276, [])) := by decide +kernel
theorem sh_30 : zSH[30]? = some (.inl (5, [none, none, some 31])) := by decide +kernel
theorem sh_31 : zSH[31]? = some (.inr (.int, 5, [])) := by decide +kernel
theorem sh_32 : zSH[32]? = some (.inl (2, [some 33, some 35, some 37, none, none, none, none, none, none, none, none])) := by decide +kernel
theorem sh_33 : zSH[33]? = some (.inl (5, [none, none, some 34])) := by decide +kernel
theorem sh_34 : zSH[34]? = some (.inr (.int, 55, [])) := by decide +kernel
theorem sh_35 : zSH[35]? = some (.inl (5, [none, none, some 36])) := by decide +kernel
theorem sh_36 : zSH[36]? = some (.inr (.int, 276, [])) := by decide +kernel
theorem sh_37 : zSH[37]? = some (.inl (5, [none, none, some 38])) := by decide +kernel
theorem sh_38 : zSH[38]? = some (.inr (.int, 5, [])) := by decide +kernel
theorem sh_39 : zSH[39]? = some (.inl (2, [some 40, some 42, some 44, none, none, none, none, none, none, none, none])) := by decide +kernel
theorem sh_40 : zSH[40]? = some (.inl (5, [none, none, some 41])) := by decide +kernel
theorem sh_41 : zSH[41]? = some (.inr (.int, 55, [])) := by decide +kernel
theorem sh_42 : zSH[42]? = some (.inl (5, [none, none, some 43])) := by decide +kernel
theorem sh_43 : zSH[43]? = some (.inr (.int, 276, [])) := by decide +kernel
theorem sh_44 : zSH[44]? = some (.inl (5, [none, none, some 45])) := by decide +kernel
theorem sh_45 : zSH[45]? = some (.inr (.int, 5, [])) := by decide +kernel
theorem sh_46 : zSH[46]? = some (.inl (2, [some 47, some 49, some 51, none, none, none, none, none, none, none, none])) := by decide +kernel
theorem sh_47 : zSH[47]? = some (.inl (5, [none, none, some 48])) := by decide +kernel
theorem sh_48 : zSH[48]? = some (.inr (.int, 55, [])) := by decide +kernel
theorem sh_49 : zSH[49]? = some (.inl (5, [none, none, some 50])) := by decide +kernel
theorem sh_50 : zSH[50]? = some (.inr (.int, 276, [])) := by decide +kernel
theorem sh_51 : zSH[51]? = some (.inl (5, [none, none, some 52])) := by decide +kernel
theorem sh_52 : zSH[52]? = some (.inr (.int, 5, [])) := by decide +kernel
theorem sh_53 : zSH[53]? = some (.inl (2, [some 54, some 56, some 58, none, none, none, none, none, none, none, none])) := by decide +kernel
theorem sh_54 : zSH[54]? = some (.inl (5, [none, none, some 55])) := by decide +kernel
theorem sh_55 : zSH[55]? = some (.inr (.int, 55, [])) := by decide +kernel
theorem sh_56 : zSH[56]? = some (.inl (5, [none, none, some 57])) := by decide +kernel
theorem sh_57 : zSH[57]? = some (.inr (.int, 276, [])) := by decide +kernel
theorem sh_58 : zSH[58]? = some (.inl (5, [none, none, some 59])) := by decide +kernel
theorem sh_59 : zSH[59]? = some (.inr (.int, 5, [])) := by decide +kernel
theorem sh_60 : zSH[60]? = some (.inl (2, [some 61, some 63, some 65, none, none, none, none, none, none, none, none])) := by decide +kernel
theorem sh_61 : zSH[61]? = some (.inl (5, [none, none, some 62])) := by decide +kernel
theorem sh_62 : zSH[62]? = some (.inr (.int, 55, [])) := by decide +kernel
theorem sh_63 : zSH[63]? = some (.inl (5, [none, none, some 64])) := by decide +kernel
theorem sh_64 : zSH[64]? = some (.inr (.int, 276, [])) := by decide +kernel
theorem sh_65 : zSH[65]? = some (.inl (5, [none, none, some 66])) := by decide +kernel
theorem sh_66 : zSH[66]? = some (.inr (.int, 5, [])) := by decide +kernel
theorem sh_67 : zSH[67]? = some (.inl (2, [some 68, some 70, some 72, none, none, none, none, none, none, none, none])) := by decide +kernel
theorem sh_68 : zSH[68]? = some (.inl (5, [none, none, some 69])) := by decide +kernel
theorem sh_69 : zSH[69]? = some (.inr (.int, 55, [])) := by decide +kernel
theorem sh_70 : zSH[70]? = some (.inl (5, [none, none, some 71])) := by decide +kernel
theorem sh_71 : zSH[71]? = some (.inr (.int, 276, [])) := by decide +kernel
theorem sh_72 : zSH[72]? = some (.inl (5, [none, none, some 73])) := by decide +kernel
theorem sh_73 : zSH[73]? = some (.inr (.int, 5, [])) := by decide +kernel
theorem sh_74 : zSH[74]? = some (.inl (2, [some 75, some 77, some 79, none, none, none, none, none, none, none, none])) := by decide +kernel
theorem sh_75 : zSH[75]? = some (.inl (5, [none, none, some 76])) := by decide +kernel
theorem sh_76 : zSH[76]? = some (.inr (.int, 55, [])) := by decide +kernel
theorem sh_77 : zSH[77]? = some (.inl (5, [none, none, some 78])) := by decide +kernel
theorem sh_78 : zSH[78]? = some (.inr (.int, 276, [])) := by decide +kernel
theorem sh_79 : zSH[79]? = some (.inl (5, [none, none, some 80])) := by decide +kernel
theorem sh_80 : zSH[80]? = some (.inr (.int, 5, [])) := by decide +kernel
theorem sh_81 : zSH[81]? = some (.inl (4, [some 82])) := by decide +kernel
theorem sh_82 : zSH[82]? = some (.inl (5, [none, none, some 83])) := by decide +kernel
theorem sh_83 : zSH[83]? = some (.inr (.int, 24, [])) := by decide +kernel
theorem sh_84 : zSH[84]? = some (.inl (6, [some 85, none, some 87, none, none])) := by decide +kernel
theorem sh_85 : zSH[85]? = some (.inl (5, [none, none, some 86])) := by decide +kernel
theorem sh_86 : zSH[86]? = some (.inr (.int, 77, [])) := by decide +kernel
theorem sh_87 : zSH[87]? = some (.inr (.char, 60, [])) := by decide +kernel
theorem sh_88 : zSH[88]? = some (.inl (3, [some 89, none])) := by decide +kernel
theorem sh_89 : zSH[89]? = some (.inr (.char, 24, [])) := by decide +kernel
theorem znr_int (x : Int32) : znr .int x = true := decide_eq_true rfl
theorem zmay_tab {M T : zMt} {r : Nat} {as rest : List Value} {refs : List (Option Nat)} {G : Nat → Nat → Int32} (hs : zSH[r]? = some (.inl (5, refs))) (hk : (Nat.blt T.2.2.2.2.2.1 M.2.2.2.2.2.1 && Nat.beq (as.length + 1) T.2.2.2.2.2.2.1 && Nat.ble (as.length + 1) T.2.2.2.1 && as.all zcat1 && Nat.ble (zwd rest) 8 && Nat.beq T.1 5) = true) : zmay M T 0 (.ref r :: as) rest (zSH, G) = true := by
  simp only [Bool.and_eq_true] at hk
  obtain ⟨⟨⟨⟨⟨h1, h2⟩, h3⟩, h4⟩, h5⟩, h6⟩ := hk
  have h6 := Nat.eq_of_beq_eq_true h6
  unfold zmay zrcv
  simp only [List.length_cons, List.all_cons, h1, h2, h3, h4, h5, h6, hs, zcat1, Value.category]
  rfl
/-- the cells of a table: where they lie, how many -/
def zTab (r q n : Nat) : Prop := zSH[r]? = some (.inl (5, [none, none, some q])) ∧ zSH[q]? = some (.inr (.int, n, [])) ∧ Nat.blt q 1000000 = true

theorem hm_Ta_get : zms[k_Ta_get]? = some m_Ta_get := rfl
theorem a_Ta_get_0 : zAt 53 0 m_Ta_get (.iload_n 1) 1 := ⟨hm_Ta_get, by decide +kernel⟩
theorem a_Ta_get_1 : zAt 53 1 m_Ta_get (.ifCond .lt 23) 3 := ⟨hm_Ta_get, by decide +kernel⟩
theorem a_Ta_get_4 : zAt 53 4 m_Ta_get (.iload_n 1) 1 := ⟨hm_Ta_get, by decide +kernel⟩
theorem a_Ta_get_5 : zAt 53 5 m_Ta_get (.aload_n 0) 1 := ⟨hm_Ta_get, by decide +kernel⟩
theorem a_Ta_get_6 : zAt 53 6 m_Ta_get (.getfield 13) 3 := ⟨hm_Ta_get, by decide +kernel⟩
theorem a_Ta_get_9 : zAt 53 9 m_Ta_get (.if_icmp .ge 15) 3 := ⟨hm_Ta_get, by decide +kernel⟩
theorem a_Ta_get_12 : zAt 53 12 m_Ta_get (.iload_n 2) 1 := ⟨hm_Ta_get, by decide +kernel⟩
theorem a_Ta_get_13 : zAt 53 13 m_Ta_get (.ifCond .lt 11) 3 := ⟨hm_Ta_get, by decide +kernel⟩
theorem a_Ta_get_16 : zAt 53 16 m_Ta_get (.iload_n 2) 1 := ⟨hm_Ta_get, by decide +kernel⟩
theorem a_Ta_get_17 : zAt 53 17 m_Ta_get (.aload_n 0) 1 := ⟨hm_Ta_get, by decide +kernel⟩
theorem a_Ta_get_18 : zAt 53 18 m_Ta_get (.getfield 19) 3 := ⟨hm_Ta_get, by decide +kernel⟩
theorem a_Ta_get_21 : zAt 53 21 m_Ta_get (.if_icmp .lt 5) 3 := ⟨hm_Ta_get, by decide +kernel⟩
theorem a_Ta_get_24 : zAt 53 24 m_Ta_get (.iconst 0) 1 := ⟨hm_Ta_get, by decide +kernel⟩
theorem a_Ta_get_25 : zAt 53 25 m_Ta_get (.ireturn) 1 := ⟨hm_Ta_get, by decide +kernel⟩
theorem a_Ta_get_26 : zAt 53 26 m_Ta_get (.iload_n 1) 1 := ⟨hm_Ta_get, by decide +kernel⟩
theorem a_Ta_get_27 : zAt 53 27 m_Ta_get (.aload_n 0) 1 := ⟨hm_Ta_get, by decide +kernel⟩
theorem a_Ta_get_28 : zAt 53 28 m_Ta_get (.getfield 19) 3 := ⟨hm_Ta_get, by decide +kernel⟩
theorem a_Ta_get_31 : zAt 53 31 m_Ta_get (.imul) 1 := ⟨hm_Ta_get, by decide +kernel⟩
theorem a_Ta_get_32 : zAt 53 32 m_Ta_get (.iload_n 2) 1 := ⟨hm_Ta_get, by decide +kernel⟩
theorem a_Ta_get_33 : zAt 53 33 m_Ta_get (.iadd) 1 := ⟨hm_Ta_get, by decide +kernel⟩
theorem a_Ta_get_34 : zAt 53 34 m_Ta_get (.istore_n 3) 1 := ⟨hm_Ta_get, by decide +kernel⟩
theorem a_Ta_get_35 : zAt 53 35 m_Ta_get (.iload_n 3) 1 := ⟨hm_Ta_get, by decide +kernel⟩
theorem a_Ta_get_36 : zAt 53 36 m_Ta_get (.ifCond .lt 21) 3 := ⟨hm_Ta_get, by decide +kernel⟩
theorem a_Ta_get_39 : zAt 53 39 m_Ta_get (.iload_n 3) 1 := ⟨hm_Ta_get, by decide +kernel⟩
theorem a_Ta_get_40 : zAt 53 40 m_Ta_get (.aload_n 0) 1 := ⟨hm_Ta_get, by decide +kernel⟩
theorem a_Ta_get_41 : zAt 53 41 m_Ta_get (.getfield 22) 3 := ⟨hm_Ta_get, by decide +kernel⟩
theorem a_Ta_get_44 : zAt 53 44 m_Ta_get (.arraylength) 1 := ⟨hm_Ta_get, by decide +kernel⟩
theorem a_Ta_get_45 : zAt 53 45 m_Ta_get (.if_icmp .ge 12) 3 := ⟨hm_Ta_get, by decide +kernel⟩
theorem a_Ta_get_48 : zAt 53 48 m_Ta_get (.aload_n 0) 1 := ⟨hm_Ta_get, by decide +kernel⟩
theorem a_Ta_get_49 : zAt 53 49 m_Ta_get (.getfield 22) 3 := ⟨hm_Ta_get, by decide +kernel⟩
theorem a_Ta_get_52 : zAt 53 52 m_Ta_get (.iload_n 3) 1 := ⟨hm_Ta_get, by decide +kernel⟩
theorem a_Ta_get_53 : zAt 53 53 m_Ta_get (.iaload) 1 := ⟨hm_Ta_get, by decide +kernel⟩
theorem a_Ta_get_54 : zAt 53 54 m_Ta_get (.goto 4) 3 := ⟨hm_Ta_get, by decide +kernel⟩
theorem a_Ta_get_57 : zAt 53 57 m_Ta_get (.iconst 0) 1 := ⟨hm_Ta_get, by decide +kernel⟩
theorem a_Ta_get_58 : zAt 53 58 m_Ta_get (.ireturn) 1 := ⟨hm_Ta_get, by decide +kernel⟩
theorem B_Ta_get_0 {G : Nat → Nat → Int32} {r q n : Nat} {row col : Int32} (hs : zSH[r]? = some (.inl (5, [none, none, some q]))) (hq : zSH[q]? = some (.inr (.int, n, []))) (hql : Nat.blt q 1000000 = true) : zden 53 0 [.ref r, .int row, .int col, .retAddr 0] [] (zSH, G) = if row < 0 then some (some (.int 0), (zSH, G)) else if (G r 0) ≤ row then some (some (.int 0), (zSH, G)) else if col < 0 then some (some (.int 0), (zSH, G)) else if col < (G r 1) then if ((row * (G r 1)) + col) < 0 then some (some (.int 0), (zSH, G)) else if (Int32.ofNat n) ≤ ((row * (G r 1)) + col) then some (some (.int 0), (zSH, G)) else if zin ((row * (G r 1)) + col) n = true then some (some (.int (G q ((row * (G r 1)) + col).toNatClampNeg)), (zSH, G)) else none else some (some (.int 0), (zSH, G)) :=
  (zd_iload_n a_Ta_get_0 rfl).trans ((zd_if_lt a_Ta_get_1 rfl).trans (zite ((zd_iconst (v := 0) a_Ta_get_24 (by decide)).trans (zd_iret a_Ta_get_25 rfl (znr_int _))) ((zd_iload_n a_Ta_get_4 rfl).trans ((zd_aload_n a_Ta_get_5 rfl).trans ((zd_getI (h := (zSH, G)) (ci := 5) (fi := 0) a_Ta_get_6 (by decide +kernel) hs rfl).trans ((zd_icmp_ge a_Ta_get_9 rfl).trans (zite ((zd_iconst (v := 0) a_Ta_get_24 (by decide)).trans (zd_iret a_Ta_get_25 rfl (znr_int _))) ((zd_iload_n a_Ta_get_12 rfl).trans ((zd_if_lt a_Ta_get_13 rfl).trans (zite ((zd_iconst (v := 0) a_Ta_get_24 (by decide)).trans (zd_iret a_Ta_get_25 rfl (znr_int _))) ((zd_iload_n a_Ta_get_16 rfl).trans ((zd_aload_n a_Ta_get_17 rfl).trans ((zd_getI (h := (zSH, G)) (ci := 5) (fi := 1) a_Ta_get_18 (by decide +kernel) hs rfl).trans ((zd_icmp_lt a_Ta_get_21 rfl).trans (zite ((zd_iload_n a_Ta_get_26 rfl).trans ((zd_aload_n a_Ta_get_27 rfl).trans ((zd_getI (h := (zSH, G)) (ci := 5) (fi := 1) a_Ta_get_28 (by decide +kernel) hs rfl).trans ((zd_num (st2 := [.int (row * (G r 1))]) a_Ta_get_31 rfl rfl rfl rfl).trans ((zd_iload_n a_Ta_get_32 rfl).trans ((zd_num (st2 := [.int ((row * (G r 1)) + col)]) a_Ta_get_33 rfl rfl rfl rfl).trans ((zd_istore_n a_Ta_get_34 rfl rfl rfl).trans ((zd_iload_n a_Ta_get_35 rfl).trans ((zd_if_lt a_Ta_get_36 rfl).trans (zite ((zd_iconst (v := 0) a_Ta_get_57 (by decide)).trans (zd_iret a_Ta_get_58 rfl (znr_int _))) ((zd_iload_n a_Ta_get_39 rfl).trans ((zd_aload_n a_Ta_get_40 rfl).trans ((zd_getR (h := (zSH, G)) (ci := 5) (fi := 2) (a := q) a_Ta_get_41 (by decide +kernel) hs rfl rfl).trans ((zd_alen (h := (zSH, G)) (v := (Int32.ofNat n)) a_Ta_get_44 hq hql rfl).trans ((zd_icmp_ge a_Ta_get_45 rfl).trans (zite ((zd_iconst (v := 0) a_Ta_get_57 (by decide)).trans (zd_iret a_Ta_get_58 rfl (znr_int _))) ((zd_aload_n a_Ta_get_48 rfl).trans ((zd_getR (h := (zSH, G)) (ci := 5) (fi := 2) (a := q) a_Ta_get_49 (by decide +kernel) hs rfl rfl).trans ((zd_iload_n a_Ta_get_52 rfl).trans ((zd_iald (h := (zSH, G)) a_Ta_get_53 hq hql).trans (zite ((zd_goto a_Ta_get_54 rfl).trans (zd_iret a_Ta_get_58 rfl (znr_int _))) rfl))))))))))))))))))))) ((zd_iconst (v := 0) a_Ta_get_24 (by decide)).trans (zd_iret a_Ta_get_25 rfl (znr_int _))))))))))))))))))
theorem hm_Ta_set : zms[k_Ta_set]? = some m_Ta_set := rfl
theorem a_Ta_set_0 : zAt 51 0 m_Ta_set (.iload_n 1) 1 := ⟨hm_Ta_set, by decide +kernel⟩
theorem a_Ta_set_1 : zAt 51 1 m_Ta_set (.ifCond .lt 23) 3 := ⟨hm_Ta_set, by decide +kernel⟩
theorem a_Ta_set_4 : zAt 51 4 m_Ta_set (.iload_n 1) 1 := ⟨hm_Ta_set, by decide +kernel⟩
theorem a_Ta_set_5 : zAt 51 5 m_Ta_set (.aload_n 0) 1 := ⟨hm_Ta_set, by decide +kernel⟩
theorem a_Ta_set_6 : zAt 51 6 m_Ta_set (.getfield 13) 3 := ⟨hm_Ta_set, by decide +kernel⟩
theorem a_Ta_set_9 : zAt 51 9 m_Ta_set (.if_icmp .ge 15) 3 := ⟨hm_Ta_set, by decide +kernel⟩
theorem a_Ta_set_12 : zAt 51 12 m_Ta_set (.iload_n 2) 1 := ⟨hm_Ta_set, by decide +kernel⟩
theorem a_Ta_set_13 : zAt 51 13 m_Ta_set (.ifCond .lt 11) 3 := ⟨hm_Ta_set, by decide +kernel⟩
theorem a_Ta_set_16 : zAt 51 16 m_Ta_set (.iload_n 2) 1 := ⟨hm_Ta_set, by decide +kernel⟩
theorem a_Ta_set_17 : zAt 51 17 m_Ta_set (.aload_n 0) 1 := ⟨hm_Ta_set, by decide +kernel⟩
theorem a_Ta_set_18 : zAt 51 18 m_Ta_set (.getfield 19) 3 := ⟨hm_Ta_set, by decide +kernel⟩
theorem a_Ta_set_21 : zAt 51 21 m_Ta_set (.if_icmp .lt 4) 3 := ⟨hm_Ta_set, by decide +kernel⟩
theorem a_Ta_set_24 : zAt 51 24 m_Ta_set (.return_) 1 := ⟨hm_Ta_set, by decide +kernel⟩
theorem a_Ta_set_25 : zAt 51 25 m_Ta_set (.iload_n 1) 1 := ⟨hm_Ta_set, by decide +kernel⟩
theorem a_Ta_set_26 : zAt 51 26 m_Ta_set (.aload_n 0) 1 := ⟨hm_Ta_set, by decide +kernel⟩
theorem a_Ta_set_27 : zAt 51 27 m_Ta_set (.getfield 19) 3 := ⟨hm_Ta_set, by decide +kernel⟩
theorem a_Ta_set_30 : zAt 51 30 m_Ta_set (.imul) 1 := ⟨hm_Ta_set, by decide +kernel⟩
theorem a_Ta_set_31 : zAt 51 31 m_Ta_set (.iload_n 2) 1 := ⟨hm_Ta_set, by decide +kernel⟩
theorem a_Ta_set_32 : zAt 51 32 m_Ta_set (.iadd) 1 := ⟨hm_Ta_set, by decide +kernel⟩
theorem a_Ta_set_33 : zAt 51 33 m_Ta_set (.istore 4) 2 := ⟨hm_Ta_set, by decide +kernel⟩
theorem a_Ta_set_35 : zAt 51 35 m_Ta_set (.iload 4) 2 := ⟨hm_Ta_set, by decide +kernel⟩
theorem a_Ta_set_37 : zAt 51 37 m_Ta_set (.ifCond .lt 21) 3 := ⟨hm_Ta_set, by decide +kernel⟩
theorem a_Ta_set_40 : zAt 51 40 m_Ta_set (.iload 4) 2 := ⟨hm_Ta_set, by decide +kernel⟩
theorem a_Ta_set_42 : zAt 51 42 m_Ta_set (.aload_n 0) 1 := ⟨hm_Ta_set, by decide +kernel⟩
theorem a_Ta_set_43 : zAt 51 43 m_Ta_set (.getfield 22) 3 := ⟨hm_Ta_set, by decide +kernel⟩
theorem a_Ta_set_46 : zAt 51 46 m_Ta_set (.arraylength) 1 := ⟨hm_Ta_set, by decide +kernel⟩
theorem a_Ta_set_47 : zAt 51 47 m_Ta_set (.if_icmp .ge 11) 3 := ⟨hm_Ta_set, by decide +kernel⟩
theorem a_Ta_set_50 : zAt 51 50 m_Ta_set (.aload_n 0) 1 := ⟨hm_Ta_set, by decide +kernel⟩
theorem a_Ta_set_51 : zAt 51 51 m_Ta_set (.getfield 22) 3 := ⟨hm_Ta_set, by decide +kernel⟩
theorem a_Ta_set_54 : zAt 51 54 m_Ta_set (.iload 4) 2 := ⟨hm_Ta_set, by decide +kernel⟩
theorem a_Ta_set_56 : zAt 51 56 m_Ta_set (.iload_n 3) 1 := ⟨hm_Ta_set, by decide +kernel⟩
theorem a_Ta_set_57 : zAt 51 57 m_Ta_set (.iastore) 1 := ⟨hm_Ta_set, by decide +kernel⟩
theorem a_Ta_set_58 : zAt 51 58 m_Ta_set (.return_) 1 := ⟨hm_Ta_set, by decide +kernel⟩
theorem B_Ta_set_0 {G : Nat → Nat → Int32} {r q n : Nat} {row col num : Int32} (hs : zSH[r]? = some (.inl (5, [none, none, some q]))) (hq : zSH[q]? = some (.inr (.int, n, []))) (hql : Nat.blt q 1000000 = true) : zden 51 0 [.ref r, .int row, .int col, .int num, .retAddr 0] [] (zSH, G) = if row < 0 then some (none, (zSH, G)) else if (G r 0) ≤ row then some (none, (zSH, G)) else if col < 0 then some (none, (zSH, G)) else if col < (G r 1) then if ((row * (G r 1)) + col) < 0 then some (none, (zSH, G)) else if (Int32.ofNat n) ≤ ((row * (G r 1)) + col) then some (none, (zSH, G)) else if zin ((row * (G r 1)) + col) n = true then some (none, (zSH, (zup G q ((row * (G r 1)) + col).toNatClampNeg num))) else none else some (none, (zSH, G)) :=
  (zd_iload_n a_Ta_set_0 rfl).trans ((zd_if_lt a_Ta_set_1 rfl).trans (zite (zd_vret a_Ta_set_24 rfl) ((zd_iload_n a_Ta_set_4 rfl).trans ((zd_aload_n a_Ta_set_5 rfl).trans ((zd_getI (h := (zSH, G)) (ci := 5) (fi := 0) a_Ta_set_6 (by decide +kernel) hs rfl).trans ((zd_icmp_ge a_Ta_set_9 rfl).trans (zite (zd_vret a_Ta_set_24 rfl) ((zd_iload_n a_Ta_set_12 rfl).trans ((zd_if_lt a_Ta_set_13 rfl).trans (zite (zd_vret a_Ta_set_24 rfl) ((zd_iload_n a_Ta_set_16 rfl).trans ((zd_aload_n a_Ta_set_17 rfl).trans ((zd_getI (h := (zSH, G)) (ci := 5) (fi := 1) a_Ta_set_18 (by decide +kernel) hs rfl).trans ((zd_icmp_lt a_Ta_set_21 rfl).trans (zite ((zd_iload_n a_Ta_set_25 rfl).trans ((zd_aload_n a_Ta_set_26 rfl).trans ((zd_getI (h := (zSH, G)) (ci := 5) (fi := 1) a_Ta_set_27 (by decide +kernel) hs rfl).trans ((zd_num (st2 := [.int (row * (G r 1))]) a_Ta_set_30 rfl rfl rfl rfl).trans ((zd_iload_n a_Ta_set_31 rfl).trans ((zd_num (st2 := [.int ((row * (G r 1)) + col)]) a_Ta_set_32 rfl rfl rfl rfl).trans ((zd_istore a_Ta_set_33 rfl rfl rfl).trans ((zd_iload a_Ta_set_35 rfl).trans ((zd_if_lt a_Ta_set_37 rfl).trans (zite (zd_vret a_Ta_set_58 rfl) ((zd_iload a_Ta_set_40 rfl).trans ((zd_aload_n a_Ta_set_42 rfl).trans ((zd_getR (h := (zSH, G)) (ci := 5) (fi := 2) (a := q) a_Ta_set_43 (by decide +kernel) hs rfl rfl).trans ((zd_alen (h := (zSH, G)) (v := (Int32.ofNat n)) a_Ta_set_46 hq hql rfl).trans ((zd_icmp_ge a_Ta_set_47 rfl).trans (zite (zd_vret a_Ta_set_58 rfl) ((zd_aload_n a_Ta_set_50 rfl).trans ((zd_getR (h := (zSH, G)) (ci := 5) (fi := 2) (a := q) a_Ta_set_51 (by decide +kernel) hs rfl rfl).trans ((zd_iload a_Ta_set_54 rfl).trans ((zd_iload_n a_Ta_set_56 rfl).trans ((zd_iast (h := (zSH, G)) a_Ta_set_57 hq).trans (zite (zd_vret a_Ta_set_58 rfl) rfl)))))))))))))))))))))) (zd_vret a_Ta_set_24 rfl))))))))))))))))
theorem hm_T_isWithin : zms[k_T_isWithin]? = some m_T_isWithin := rfl
theorem a_T_isWithin_0 : zAt 71 0 m_T_isWithin (.iload_n 0) 1 := ⟨hm_T_isWithin, by decide +kernel⟩
theorem a_T_isWithin_1 : zAt 71 1 m_T_isWithin (.iload_n 1) 1 := ⟨hm_T_isWithin, by decide +kernel⟩
theorem a_T_isWithin_2 : zAt 71 2 m_T_isWithin (.if_icmp .lt 12) 3 := ⟨hm_T_isWithin, by decide +kernel⟩
theorem a_T_isWithin_5 : zAt 71 5 m_T_isWithin (.iload_n 0) 1 := ⟨hm_T_isWithin, by decide +kernel⟩
theorem a_T_isWithin_6 : zAt 71 6 m_T_isWithin (.iload_n 2) 1 := ⟨hm_T_isWithin, by decide +kernel⟩
theorem a_T_isWithin_7 : zAt 71 7 m_T_isWithin (.if_icmp .gt 7) 3 := ⟨hm_T_isWithin, by decide +kernel⟩
theorem a_T_isWithin_10 : zAt 71 10 m_T_isWithin (.iconst 1) 1 := ⟨hm_T_isWithin, by decide +kernel⟩
theorem a_T_isWithin_11 : zAt 71 11 m_T_isWithin (.goto 4) 3 := ⟨hm_T_isWithin, by decide +kernel⟩
theorem a_T_isWithin_14 : zAt 71 14 m_T_isWithin (.iconst 0) 1 := ⟨hm_T_isWithin, by decide +kernel⟩
theorem a_T_isWithin_15 : zAt 71 15 m_T_isWithin (.ireturn) 1 := ⟨hm_T_isWithin, by decide +kernel⟩
theorem B_T_isWithin_0 {G : Nat → Nat → Int32} {x0 x1 x2 : Int32} : zden 71 0 [.int x0, .int x1, .int x2] [] (zSH, G) = if x0 < x1 then some (some (.int 0), (zSH, G)) else if x2 < x0 then some (some (.int 0), (zSH, G)) else some (some (.int 1), (zSH, G)) :=
  (zd_iload_n a_T_isWithin_0 rfl).trans ((zd_iload_n a_T_isWithin_1 rfl).trans ((zd_icmp_lt a_T_isWithin_2 rfl).trans (zite ((zd_iconst (v := 0) a_T_isWithin_14 (by decide)).trans (zd_iret a_T_isWithin_15 rfl (by decide))) ((zd_iload_n a_T_isWithin_5 rfl).trans ((zd_iload_n a_T_isWithin_6 rfl).trans ((zd_icmp_gt a_T_isWithin_7 rfl).trans (zite ((zd_iconst (v := 0) a_T_isWithin_14 (by decide)).trans (zd_iret a_T_isWithin_15 rfl (by decide))) ((zd_iconst (v := 1) a_T_isWithin_10 (by decide)).trans ((zd_goto a_T_isWithin_11 rfl).trans (zd_iret a_T_isWithin_15 rfl (by decide)))))))))))
