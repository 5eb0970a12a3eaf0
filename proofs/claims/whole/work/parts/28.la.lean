-- 28: blocks of the law; doubles and floats (written by wip/whole/gen28.py)
theorem hm_M_backShare : zms[k_M_backShare]? = some m_M_backShare := rfl
theorem hm_M_meanDuty : zms[k_M_meanDuty]? = some m_M_meanDuty := rfl
theorem hm_T_backShare : zms[k_T_backShare]? = some m_T_backShare := rfl
theorem hm_T_meanDuty : zms[k_T_meanDuty]? = some m_T_meanDuty := rfl
section ZLw
variable {k pc : Nat} {lst st : List Value} {h : zH} {M : zMt}
theorem zd_salen (hc : zAt k pc M .arraylength 1) (h9 : M.1 = 9) : zden k pc lst (.ref 2000000 :: st) h = zden k (pc + 1) lst (.int (h.2 2000001 0) :: st) h := by
  refine zd_go (o := (pc + 1, lst, .int (h.2 2000001 0) :: st, h)) hc rfl rfl ?_
  unfold zst zal
  simp only [if_true, h9]
theorem zd_sald {i : Int32} (hc : zAt k pc M .iaload 1) (h9 : M.1 = 9) (hi : 0 ≤ i ∧ i < h.2 2000001 0) : zden k pc lst (.int i :: .ref 2000000 :: st) h = zden k (pc + 1) lst (.int (h.2 2000000 i.toNatClampNeg) :: st) h := by
  refine zd_go (o := (pc + 1, lst, .int (h.2 2000000 i.toNatClampNeg) :: st, h)) hc rfl rfl ?_
  unfold zst zia
  simp only [if_true, if_pos (show M.1 = 9 ∧ 0 ≤ i ∧ i < h.2 2000001 0 from ⟨h9, hi⟩)]
  rfl
theorem zd_ddiv {x y : UInt64} (hc : zAt k pc M .ddiv 1) (hn : FP.ddiv x y &&& 0x7fffffffffffffff ≤ 0x7ff0000000000000) : zden k pc lst (.double y :: .double x :: st) h = zden k (pc + 1) lst (.double (FP.ddiv x y) :: st) h := zd_num hc rfl rfl rfl (by show (if _ then _ else _) = _; rw [if_pos hn])
theorem zd_fdiv {x y : UInt32} (hc : zAt k pc M .fdiv 1) (hn : FP.fdiv x y &&& 0x7fffffff ≤ 0x7f800000) : zden k pc lst (.float y :: .float x :: st) h = zden k (pc + 1) lst (.float (FP.fdiv x y) :: st) h := zd_num hc rfl rfl rfl (by show (if _ then _ else _) = _; rw [if_pos hn])
theorem zd_f2d {x : UInt32} (hc : zAt k pc M .f2d 1) (hn : FP.f2d x &&& 0x7fffffffffffffff ≤ 0x7ff0000000000000) : zden k pc lst (.float x :: st) h = zden k (pc + 1) lst (.double (FP.f2d x) :: st) h := zd_num hc rfl rfl rfl (by show (if _ then _ else _) = _; rw [if_pos hn])
theorem zd_dret {x : UInt64} (hc : zAt k pc M .dreturn 1) (ht : M.2.2.2.2.1 = some .double) : zden k pc lst [.double x] h = some (some (.double x), h) :=
  zd_ret hc.1 hc.2 rfl (by unfold zret; simp only [ht])
theorem zd_fret {x : UInt32} (hc : zAt k pc M .freturn 1) (ht : M.2.2.2.2.1 = some .float) : zden k pc lst [.float x] h = some (some (.float x), h) :=
  zd_ret hc.1 hc.2 rfl (by unfold zret; simp only [ht])
end ZLw
theorem a_M_meanDuty_0 : zAt 178 0 m_M_meanDuty (.iconst 0) 1 := ⟨hm_M_meanDuty, by decide +kernel⟩
theorem a_M_meanDuty_1 : zAt 178 1 m_M_meanDuty (.istore_n 1) 1 := ⟨hm_M_meanDuty, by decide +kernel⟩
theorem a_M_meanDuty_2 : zAt 178 2 m_M_meanDuty (.iconst 0) 1 := ⟨hm_M_meanDuty, by decide +kernel⟩
theorem a_M_meanDuty_3 : zAt 178 3 m_M_meanDuty (.istore_n 2) 1 := ⟨hm_M_meanDuty, by decide +kernel⟩
theorem a_M_meanDuty_4 : zAt 178 4 m_M_meanDuty (.iload_n 2) 1 := ⟨hm_M_meanDuty, by decide +kernel⟩
theorem a_M_meanDuty_5 : zAt 178 5 m_M_meanDuty (.aload_n 0) 1 := ⟨hm_M_meanDuty, by decide +kernel⟩
theorem a_M_meanDuty_6 : zAt 178 6 m_M_meanDuty (.getfield 7) 3 := ⟨hm_M_meanDuty, by decide +kernel⟩
theorem a_M_meanDuty_9 : zAt 178 9 m_M_meanDuty (.iconst 2) 1 := ⟨hm_M_meanDuty, by decide +kernel⟩
theorem a_M_meanDuty_10 : zAt 178 10 m_M_meanDuty (.iaload) 1 := ⟨hm_M_meanDuty, by decide +kernel⟩
theorem a_M_meanDuty_11 : zAt 178 11 m_M_meanDuty (.if_icmp .ge 22) 3 := ⟨hm_M_meanDuty, by decide +kernel⟩
theorem a_M_meanDuty_14 : zAt 178 14 m_M_meanDuty (.iload_n 1) 1 := ⟨hm_M_meanDuty, by decide +kernel⟩
theorem a_M_meanDuty_15 : zAt 178 15 m_M_meanDuty (.aload_n 0) 1 := ⟨hm_M_meanDuty, by decide +kernel⟩
theorem a_M_meanDuty_16 : zAt 178 16 m_M_meanDuty (.iload_n 2) 1 := ⟨hm_M_meanDuty, by decide +kernel⟩
theorem a_M_meanDuty_17 : zAt 178 17 m_M_meanDuty (.aload_n 0) 1 := ⟨hm_M_meanDuty, by decide +kernel⟩
theorem a_M_meanDuty_18 : zAt 178 18 m_M_meanDuty (.iload_n 2) 1 := ⟨hm_M_meanDuty, by decide +kernel⟩
theorem a_M_meanDuty_19 : zAt 178 19 m_M_meanDuty (.invokevirtual 125) 3 := ⟨hm_M_meanDuty, by decide +kernel⟩
theorem a_M_meanDuty_22 : zAt 178 22 m_M_meanDuty (.invokevirtual 128) 3 := ⟨hm_M_meanDuty, by decide +kernel⟩
theorem a_M_meanDuty_25 : zAt 178 25 m_M_meanDuty (.iadd) 1 := ⟨hm_M_meanDuty, by decide +kernel⟩
theorem a_M_meanDuty_26 : zAt 178 26 m_M_meanDuty (.istore_n 1) 1 := ⟨hm_M_meanDuty, by decide +kernel⟩
theorem a_M_meanDuty_27 : zAt 178 27 m_M_meanDuty (.iinc 2 1) 3 := ⟨hm_M_meanDuty, by decide +kernel⟩
theorem a_M_meanDuty_30 : zAt 178 30 m_M_meanDuty (.goto (-26)) 3 := ⟨hm_M_meanDuty, by decide +kernel⟩
theorem a_M_meanDuty_33 : zAt 178 33 m_M_meanDuty (.aload_n 0) 1 := ⟨hm_M_meanDuty, by decide +kernel⟩
theorem a_M_meanDuty_34 : zAt 178 34 m_M_meanDuty (.getfield 7) 3 := ⟨hm_M_meanDuty, by decide +kernel⟩
theorem a_M_meanDuty_37 : zAt 178 37 m_M_meanDuty (.iconst 2) 1 := ⟨hm_M_meanDuty, by decide +kernel⟩
theorem a_M_meanDuty_38 : zAt 178 38 m_M_meanDuty (.iaload) 1 := ⟨hm_M_meanDuty, by decide +kernel⟩
theorem a_M_meanDuty_39 : zAt 178 39 m_M_meanDuty (.ifCond .ne 7) 3 := ⟨hm_M_meanDuty, by decide +kernel⟩
theorem a_M_meanDuty_42 : zAt 178 42 m_M_meanDuty (.dconst 0) 1 := ⟨hm_M_meanDuty, by decide +kernel⟩
theorem a_M_meanDuty_43 : zAt 178 43 m_M_meanDuty (.goto 13) 3 := ⟨hm_M_meanDuty, by decide +kernel⟩
theorem a_M_meanDuty_46 : zAt 178 46 m_M_meanDuty (.iload_n 1) 1 := ⟨hm_M_meanDuty, by decide +kernel⟩
theorem a_M_meanDuty_47 : zAt 178 47 m_M_meanDuty (.i2d) 1 := ⟨hm_M_meanDuty, by decide +kernel⟩
theorem a_M_meanDuty_48 : zAt 178 48 m_M_meanDuty (.aload_n 0) 1 := ⟨hm_M_meanDuty, by decide +kernel⟩
theorem a_M_meanDuty_49 : zAt 178 49 m_M_meanDuty (.getfield 7) 3 := ⟨hm_M_meanDuty, by decide +kernel⟩
theorem a_M_meanDuty_52 : zAt 178 52 m_M_meanDuty (.iconst 2) 1 := ⟨hm_M_meanDuty, by decide +kernel⟩
theorem a_M_meanDuty_53 : zAt 178 53 m_M_meanDuty (.iaload) 1 := ⟨hm_M_meanDuty, by decide +kernel⟩
theorem a_M_meanDuty_54 : zAt 178 54 m_M_meanDuty (.i2d) 1 := ⟨hm_M_meanDuty, by decide +kernel⟩
theorem a_M_meanDuty_55 : zAt 178 55 m_M_meanDuty (.ddiv) 1 := ⟨hm_M_meanDuty, by decide +kernel⟩
theorem a_M_meanDuty_56 : zAt 178 56 m_M_meanDuty (.dreturn) 1 := ⟨hm_M_meanDuty, by decide +kernel⟩
theorem B_M_meanDuty_0 {G : Nat → Nat → Int32} : zden 178 0 [.ref 90, .retAddr 0, .retAddr 0] [] (zSH, G) = zden 178 4 [.ref 90, .int 0, .int 0] [] (zSH, G) :=
  (zd_iconst (v := 0) a_M_meanDuty_0 (by decide)).trans ((zd_istore_n a_M_meanDuty_1 rfl rfl rfl).trans ((zd_iconst (v := 0) a_M_meanDuty_2 (by decide)).trans ((zd_istore_n a_M_meanDuty_3 rfl rfl rfl))))
theorem B_M_meanDuty_4 {G : Nat → Nat → Int32} {x1 x2 : Int32} (z55_0 : ((G 91 2) ≤ x2) → (¬ (G 91 2) = 0) → FP.ddiv (FP.i2d x1) (FP.i2d (G 91 2)) &&& 0x7fffffffffffffff ≤ 0x7ff0000000000000) : zden 178 4 [.ref 90, .int x1, .int x2] [] (zSH, G) = if (G 91 2) ≤ x2 then if ¬ (G 91 2) = 0 then some (some (.double (FP.ddiv (FP.i2d x1) (FP.i2d (G 91 2)))), (zSH, G)) else some (some (.double 0), (zSH, G)) else zaft 178 22 [.ref 90, .int x1, .int x2] [.int x2, .ref 90, .int x1] (zSH, G) (zden 133 0 [.ref 90, .int x2, .retAddr 0, .retAddr 0, .retAddr 0] [] (zSH, G)) :=
  (zd_iload_n a_M_meanDuty_4 rfl).trans ((zd_aload_n a_M_meanDuty_5 rfl).trans ((zd_getR (h := (zSH, G)) (ci := 8) (fi := 5) (a := 91) a_M_meanDuty_6 (by decide +kernel) sh_90 rfl rfl).trans ((zd_iconst (v := 2) a_M_meanDuty_9 (by decide)).trans ((zd_iald (h := (zSH, G)) a_M_meanDuty_10 sh_91 rfl).trans ((if_pos (by decide)).trans ((zd_icmp_ge a_M_meanDuty_11 rfl).trans (zitc (fun p7 => (zd_aload_n a_M_meanDuty_33 rfl).trans ((zd_getR (h := (zSH, G)) (ci := 8) (fi := 5) (a := 91) a_M_meanDuty_34 (by decide +kernel) sh_90 rfl rfl).trans ((zd_iconst (v := 2) a_M_meanDuty_37 (by decide)).trans ((zd_iald (h := (zSH, G)) a_M_meanDuty_38 sh_91 rfl).trans ((if_pos (by decide)).trans ((zd_if_ne a_M_meanDuty_39 rfl).trans (zitc (fun p8 => (zd_iload_n a_M_meanDuty_46 rfl).trans ((zd_num (st2 := [.double (FP.i2d x1)]) a_M_meanDuty_47 rfl rfl rfl rfl).trans ((zd_aload_n a_M_meanDuty_48 rfl).trans ((zd_getR (h := (zSH, G)) (ci := 8) (fi := 5) (a := 91) a_M_meanDuty_49 (by decide +kernel) sh_90 rfl rfl).trans ((zd_iconst (v := 2) a_M_meanDuty_52 (by decide)).trans ((zd_iald (h := (zSH, G)) a_M_meanDuty_53 sh_91 rfl).trans ((if_pos (by decide)).trans ((zd_num (st2 := [.double (FP.i2d (G 91 2)), .double (FP.i2d x1)]) a_M_meanDuty_54 rfl rfl rfl rfl).trans ((zd_ddiv a_M_meanDuty_55 (z55_0 p7 p8)).trans (zd_dret a_M_meanDuty_56 rfl)))))))))) (fun p8 => (zd_num (st2 := [.double 0]) a_M_meanDuty_42 rfl rfl rfl rfl).trans ((zd_goto a_M_meanDuty_43 rfl).trans (zd_dret a_M_meanDuty_56 rfl)))))))))) (fun p7 => (zd_iload_n a_M_meanDuty_14 rfl).trans ((zd_aload_n a_M_meanDuty_15 rfl).trans ((zd_iload_n a_M_meanDuty_16 rfl).trans ((zd_aload_n a_M_meanDuty_17 rfl).trans ((zd_iload_n a_M_meanDuty_18 rfl).trans ((zd_cal (kd := 0) (tg := 133) (T := m_M_origin) a_M_meanDuty_19 (by decide +kernel) hm_M_origin rfl rfl rfl rfl))))))))))))))
theorem B_M_meanDuty_22 {G : Nat → Nat → Int32} {x1 x2 s0 s1 s3 : Int32} : zden 178 22 [.ref 90, .int x1, .int x2] [.int s0, .int s1, .ref 90, .int s3] (zSH, G) = zaft 178 25 [.ref 90, .int x1, .int x2] [.int s3] (zSH, G) (zden 134 0 [.ref 90, .int s1, .int s0, .retAddr 0, .retAddr 0, .retAddr 0, .retAddr 0] [] (zSH, G)) :=
  (zd_cal (kd := 0) (tg := 134) (T := m_M_duty) a_M_meanDuty_22 (by decide +kernel) hm_M_duty rfl rfl rfl rfl)
theorem B_M_meanDuty_25 {G : Nat → Nat → Int32} {x1 x2 s0 s1 : Int32} : zden 178 25 [.ref 90, .int x1, .int x2] [.int s0, .int s1] (zSH, G) = zden 178 4 [.ref 90, .int (s1 + s0), .int (x2 + 1)] [] (zSH, G) :=
  (zd_num (st2 := [.int (s1 + s0)]) a_M_meanDuty_25 rfl rfl rfl rfl).trans ((zd_istore_n a_M_meanDuty_26 rfl rfl rfl).trans ((zd_iinc (v := 1) a_M_meanDuty_27 rfl (by decide) rfl rfl rfl).trans ((zd_goto a_M_meanDuty_30 rfl))))
theorem a_M_backShare_0 : zAt 179 0 m_M_backShare (.aload_n 0) 1 := ⟨hm_M_backShare, by decide +kernel⟩
theorem a_M_backShare_1 : zAt 179 1 m_M_backShare (.getfield 7) 3 := ⟨hm_M_backShare, by decide +kernel⟩
theorem a_M_backShare_4 : zAt 179 4 m_M_backShare (.iconst 5) 1 := ⟨hm_M_backShare, by decide +kernel⟩
theorem a_M_backShare_5 : zAt 179 5 m_M_backShare (.iaload) 1 := ⟨hm_M_backShare, by decide +kernel⟩
theorem a_M_backShare_6 : zAt 179 6 m_M_backShare (.ifCond .ne 7) 3 := ⟨hm_M_backShare, by decide +kernel⟩
theorem a_M_backShare_9 : zAt 179 9 m_M_backShare (.fconst 0) 1 := ⟨hm_M_backShare, by decide +kernel⟩
theorem a_M_backShare_10 : zAt 179 10 m_M_backShare (.goto 19) 3 := ⟨hm_M_backShare, by decide +kernel⟩
theorem a_M_backShare_13 : zAt 179 13 m_M_backShare (.aload_n 0) 1 := ⟨hm_M_backShare, by decide +kernel⟩
theorem a_M_backShare_14 : zAt 179 14 m_M_backShare (.getfield 7) 3 := ⟨hm_M_backShare, by decide +kernel⟩
theorem a_M_backShare_17 : zAt 179 17 m_M_backShare (.bipush 6) 2 := ⟨hm_M_backShare, by decide +kernel⟩
theorem a_M_backShare_19 : zAt 179 19 m_M_backShare (.iaload) 1 := ⟨hm_M_backShare, by decide +kernel⟩
theorem a_M_backShare_20 : zAt 179 20 m_M_backShare (.i2f) 1 := ⟨hm_M_backShare, by decide +kernel⟩
theorem a_M_backShare_21 : zAt 179 21 m_M_backShare (.aload_n 0) 1 := ⟨hm_M_backShare, by decide +kernel⟩
theorem a_M_backShare_22 : zAt 179 22 m_M_backShare (.getfield 7) 3 := ⟨hm_M_backShare, by decide +kernel⟩
theorem a_M_backShare_25 : zAt 179 25 m_M_backShare (.iconst 5) 1 := ⟨hm_M_backShare, by decide +kernel⟩
theorem a_M_backShare_26 : zAt 179 26 m_M_backShare (.iaload) 1 := ⟨hm_M_backShare, by decide +kernel⟩
theorem a_M_backShare_27 : zAt 179 27 m_M_backShare (.i2f) 1 := ⟨hm_M_backShare, by decide +kernel⟩
theorem a_M_backShare_28 : zAt 179 28 m_M_backShare (.fdiv) 1 := ⟨hm_M_backShare, by decide +kernel⟩
theorem a_M_backShare_29 : zAt 179 29 m_M_backShare (.freturn) 1 := ⟨hm_M_backShare, by decide +kernel⟩
theorem B_M_backShare_0 {G : Nat → Nat → Int32} (z28_0 : (¬ (G 91 5) = 0) → FP.fdiv (FP.i2f (G 91 6)) (FP.i2f (G 91 5)) &&& 0x7fffffff ≤ 0x7f800000) : zden 179 0 [.ref 90] [] (zSH, G) = if ¬ (G 91 5) = 0 then some (some (.float (FP.fdiv (FP.i2f (G 91 6)) (FP.i2f (G 91 5)))), (zSH, G)) else some (some (.float 0), (zSH, G)) :=
  (zd_aload_n a_M_backShare_0 rfl).trans ((zd_getR (h := (zSH, G)) (ci := 8) (fi := 5) (a := 91) a_M_backShare_1 (by decide +kernel) sh_90 rfl rfl).trans ((zd_iconst (v := 5) a_M_backShare_4 (by decide)).trans ((zd_iald (h := (zSH, G)) a_M_backShare_5 sh_91 rfl).trans ((if_pos (by decide)).trans ((zd_if_ne a_M_backShare_6 rfl).trans (zitc (fun p2 => (zd_aload_n a_M_backShare_13 rfl).trans ((zd_getR (h := (zSH, G)) (ci := 8) (fi := 5) (a := 91) a_M_backShare_14 (by decide +kernel) sh_90 rfl rfl).trans ((zd_bipush (v := 6) a_M_backShare_17 (by decide)).trans ((zd_iald (h := (zSH, G)) a_M_backShare_19 sh_91 rfl).trans ((if_pos (by decide)).trans ((zd_num (st2 := [.float (FP.i2f (G 91 6))]) a_M_backShare_20 rfl rfl rfl rfl).trans ((zd_aload_n a_M_backShare_21 rfl).trans ((zd_getR (h := (zSH, G)) (ci := 8) (fi := 5) (a := 91) a_M_backShare_22 (by decide +kernel) sh_90 rfl rfl).trans ((zd_iconst (v := 5) a_M_backShare_25 (by decide)).trans ((zd_iald (h := (zSH, G)) a_M_backShare_26 sh_91 rfl).trans ((if_pos (by decide)).trans ((zd_num (st2 := [.float (FP.i2f (G 91 5)), .float (FP.i2f (G 91 6))]) a_M_backShare_27 rfl rfl rfl rfl).trans ((zd_fdiv a_M_backShare_28 (z28_0 p2)).trans (zd_fret a_M_backShare_29 rfl)))))))))))))) (fun p2 => (zd_num (st2 := [.float 0]) a_M_backShare_9 rfl rfl rfl rfl).trans ((zd_goto a_M_backShare_10 rfl).trans (zd_fret a_M_backShare_29 rfl)))))))))
theorem a_T_meanDuty_0 : zAt 100 0 m_T_meanDuty (.aload_n 0) 1 := ⟨hm_T_meanDuty, by decide +kernel⟩
theorem a_T_meanDuty_1 : zAt 100 1 m_T_meanDuty (.getfield 20) 3 := ⟨hm_T_meanDuty, by decide +kernel⟩
theorem a_T_meanDuty_4 : zAt 100 4 m_T_meanDuty (.getfield 141) 3 := ⟨hm_T_meanDuty, by decide +kernel⟩
theorem a_T_meanDuty_7 : zAt 100 7 m_T_meanDuty (.istore_n 1) 1 := ⟨hm_T_meanDuty, by decide +kernel⟩
theorem a_T_meanDuty_8 : zAt 100 8 m_T_meanDuty (.iload_n 1) 1 := ⟨hm_T_meanDuty, by decide +kernel⟩
theorem a_T_meanDuty_9 : zAt 100 9 m_T_meanDuty (.ifCond .gt 5) 3 := ⟨hm_T_meanDuty, by decide +kernel⟩
theorem a_T_meanDuty_12 : zAt 100 12 m_T_meanDuty (.dconst 0) 1 := ⟨hm_T_meanDuty, by decide +kernel⟩
theorem a_T_meanDuty_13 : zAt 100 13 m_T_meanDuty (.dreturn) 1 := ⟨hm_T_meanDuty, by decide +kernel⟩
theorem a_T_meanDuty_14 : zAt 100 14 m_T_meanDuty (.iconst 0) 1 := ⟨hm_T_meanDuty, by decide +kernel⟩
theorem a_T_meanDuty_15 : zAt 100 15 m_T_meanDuty (.istore_n 2) 1 := ⟨hm_T_meanDuty, by decide +kernel⟩
theorem a_T_meanDuty_16 : zAt 100 16 m_T_meanDuty (.iconst 0) 1 := ⟨hm_T_meanDuty, by decide +kernel⟩
theorem a_T_meanDuty_17 : zAt 100 17 m_T_meanDuty (.istore_n 3) 1 := ⟨hm_T_meanDuty, by decide +kernel⟩
theorem a_T_meanDuty_18 : zAt 100 18 m_T_meanDuty (.iload_n 3) 1 := ⟨hm_T_meanDuty, by decide +kernel⟩
theorem a_T_meanDuty_19 : zAt 100 19 m_T_meanDuty (.iload_n 1) 1 := ⟨hm_T_meanDuty, by decide +kernel⟩
theorem a_T_meanDuty_20 : zAt 100 20 m_T_meanDuty (.if_icmp .ge 28) 3 := ⟨hm_T_meanDuty, by decide +kernel⟩
theorem a_T_meanDuty_23 : zAt 100 23 m_T_meanDuty (.iload_n 2) 1 := ⟨hm_T_meanDuty, by decide +kernel⟩
theorem a_T_meanDuty_24 : zAt 100 24 m_T_meanDuty (.aload_n 0) 1 := ⟨hm_T_meanDuty, by decide +kernel⟩
theorem a_T_meanDuty_25 : zAt 100 25 m_T_meanDuty (.getfield 20) 3 := ⟨hm_T_meanDuty, by decide +kernel⟩
theorem a_T_meanDuty_28 : zAt 100 28 m_T_meanDuty (.iload_n 3) 1 := ⟨hm_T_meanDuty, by decide +kernel⟩
theorem a_T_meanDuty_29 : zAt 100 29 m_T_meanDuty (.aload_n 0) 1 := ⟨hm_T_meanDuty, by decide +kernel⟩
theorem a_T_meanDuty_30 : zAt 100 30 m_T_meanDuty (.getfield 20) 3 := ⟨hm_T_meanDuty, by decide +kernel⟩
theorem a_T_meanDuty_33 : zAt 100 33 m_T_meanDuty (.iload_n 3) 1 := ⟨hm_T_meanDuty, by decide +kernel⟩
theorem a_T_meanDuty_34 : zAt 100 34 m_T_meanDuty (.invokevirtual 105) 3 := ⟨hm_T_meanDuty, by decide +kernel⟩
theorem a_T_meanDuty_37 : zAt 100 37 m_T_meanDuty (.invokevirtual 111) 3 := ⟨hm_T_meanDuty, by decide +kernel⟩
theorem a_T_meanDuty_40 : zAt 100 40 m_T_meanDuty (.iadd) 1 := ⟨hm_T_meanDuty, by decide +kernel⟩
theorem a_T_meanDuty_41 : zAt 100 41 m_T_meanDuty (.istore_n 2) 1 := ⟨hm_T_meanDuty, by decide +kernel⟩
theorem a_T_meanDuty_42 : zAt 100 42 m_T_meanDuty (.iinc 3 1) 3 := ⟨hm_T_meanDuty, by decide +kernel⟩
theorem a_T_meanDuty_45 : zAt 100 45 m_T_meanDuty (.goto (-27)) 3 := ⟨hm_T_meanDuty, by decide +kernel⟩
theorem a_T_meanDuty_48 : zAt 100 48 m_T_meanDuty (.iload_n 2) 1 := ⟨hm_T_meanDuty, by decide +kernel⟩
theorem a_T_meanDuty_49 : zAt 100 49 m_T_meanDuty (.i2d) 1 := ⟨hm_T_meanDuty, by decide +kernel⟩
theorem a_T_meanDuty_50 : zAt 100 50 m_T_meanDuty (.iload_n 1) 1 := ⟨hm_T_meanDuty, by decide +kernel⟩
theorem a_T_meanDuty_51 : zAt 100 51 m_T_meanDuty (.i2d) 1 := ⟨hm_T_meanDuty, by decide +kernel⟩
theorem a_T_meanDuty_52 : zAt 100 52 m_T_meanDuty (.ddiv) 1 := ⟨hm_T_meanDuty, by decide +kernel⟩
theorem a_T_meanDuty_53 : zAt 100 53 m_T_meanDuty (.dreturn) 1 := ⟨hm_T_meanDuty, by decide +kernel⟩
theorem B_T_meanDuty_0 {G : Nat → Nat → Int32} : zden 100 0 [.ref 0, .retAddr 0, .retAddr 0, .retAddr 0] [] (zSH, G) = if 0 < (G 2 4) then zden 100 18 [.ref 0, .int (G 2 4), .int 0, .int 0] [] (zSH, G) else some (some (.double 0), (zSH, G)) :=
  (zd_aload_n a_T_meanDuty_0 rfl).trans ((zd_getR (h := (zSH, G)) (ci := 7) (fi := 1) (a := 2) a_T_meanDuty_1 (by decide +kernel) sh_0 rfl rfl).trans ((zd_getI (h := (zSH, G)) (ci := 2) (fi := 4) a_T_meanDuty_4 (by decide +kernel) sh_2 rfl).trans ((zd_istore_n a_T_meanDuty_7 rfl rfl rfl).trans ((zd_iload_n a_T_meanDuty_8 rfl).trans ((zd_if_gt a_T_meanDuty_9 rfl).trans (zitc (fun p8 => (zd_iconst (v := 0) a_T_meanDuty_14 (by decide)).trans ((zd_istore_n a_T_meanDuty_15 rfl rfl rfl).trans ((zd_iconst (v := 0) a_T_meanDuty_16 (by decide)).trans ((zd_istore_n a_T_meanDuty_17 rfl rfl rfl))))) (fun p8 => (zd_num (st2 := [.double 0]) a_T_meanDuty_12 rfl rfl rfl rfl).trans (zd_dret a_T_meanDuty_13 rfl))))))))
theorem B_T_meanDuty_18 {G : Nat → Nat → Int32} {x1 x2 x3 : Int32} (z52_0 : (x1 ≤ x3) → FP.ddiv (FP.i2d x2) (FP.i2d x1) &&& 0x7fffffffffffffff ≤ 0x7ff0000000000000) : zden 100 18 [.ref 0, .int x1, .int x2, .int x3] [] (zSH, G) = if x1 ≤ x3 then some (some (.double (FP.ddiv (FP.i2d x2) (FP.i2d x1))), (zSH, G)) else zaft 100 37 [.ref 0, .int x1, .int x2, .int x3] [.int x3, .ref 2, .int x2] (zSH, G) (zden 28 0 [.ref 2, .int x3, .retAddr 0, .retAddr 0, .retAddr 0, .retAddr 0, .retAddr 0, .retAddr 0] [] (zSH, G)) :=
  (zd_iload_n a_T_meanDuty_18 rfl).trans ((zd_iload_n a_T_meanDuty_19 rfl).trans ((zd_icmp_ge a_T_meanDuty_20 rfl).trans (zitc (fun p9 => (zd_iload_n a_T_meanDuty_48 rfl).trans ((zd_num (st2 := [.double (FP.i2d x2)]) a_T_meanDuty_49 rfl rfl rfl rfl).trans ((zd_iload_n a_T_meanDuty_50 rfl).trans ((zd_num (st2 := [.double (FP.i2d x1), .double (FP.i2d x2)]) a_T_meanDuty_51 rfl rfl rfl rfl).trans ((zd_ddiv a_T_meanDuty_52 (z52_0 p9)).trans (zd_dret a_T_meanDuty_53 rfl)))))) (fun p9 => (zd_iload_n a_T_meanDuty_23 rfl).trans ((zd_aload_n a_T_meanDuty_24 rfl).trans ((zd_getR (h := (zSH, G)) (ci := 7) (fi := 1) (a := 2) a_T_meanDuty_25 (by decide +kernel) sh_0 rfl rfl).trans ((zd_iload_n a_T_meanDuty_28 rfl).trans ((zd_aload_n a_T_meanDuty_29 rfl).trans ((zd_getR (h := (zSH, G)) (ci := 7) (fi := 1) (a := 2) a_T_meanDuty_30 (by decide +kernel) sh_0 rfl rfl).trans ((zd_iload_n a_T_meanDuty_33 rfl).trans ((zd_cal (kd := 0) (tg := 28) (T := m_Ho_originOf) a_T_meanDuty_34 (by decide +kernel) hm_Ho_originOf rfl rfl rfl rfl))))))))))))
theorem B_T_meanDuty_37 {G : Nat → Nat → Int32} {x1 x2 x3 s0 s1 s3 : Int32} : zden 100 37 [.ref 0, .int x1, .int x2, .int x3] [.int s0, .int s1, .ref 2, .int s3] (zSH, G) = zaft 100 40 [.ref 0, .int x1, .int x2, .int x3] [.int s3] (zSH, G) (zden 29 0 [.ref 2, .int s1, .int s0, .retAddr 0, .retAddr 0, .retAddr 0, .retAddr 0] [] (zSH, G)) :=
  (zd_cal (kd := 0) (tg := 29) (T := m_Ho_dutyFrom) a_T_meanDuty_37 (by decide +kernel) hm_Ho_dutyFrom rfl rfl rfl rfl)
theorem B_T_meanDuty_40 {G : Nat → Nat → Int32} {x1 x2 x3 s0 s1 : Int32} : zden 100 40 [.ref 0, .int x1, .int x2, .int x3] [.int s0, .int s1] (zSH, G) = zden 100 18 [.ref 0, .int x1, .int (s1 + s0), .int (x3 + 1)] [] (zSH, G) :=
  (zd_num (st2 := [.int (s1 + s0)]) a_T_meanDuty_40 rfl rfl rfl rfl).trans ((zd_istore_n a_T_meanDuty_41 rfl rfl rfl).trans ((zd_iinc (v := 1) a_T_meanDuty_42 rfl (by decide) rfl rfl rfl).trans ((zd_goto a_T_meanDuty_45 rfl))))
theorem a_T_backShare_0 : zAt 101 0 m_T_backShare (.aload_n 0) 1 := ⟨hm_T_backShare, by decide +kernel⟩
theorem a_T_backShare_1 : zAt 101 1 m_T_backShare (.getfield 20) 3 := ⟨hm_T_backShare, by decide +kernel⟩
theorem a_T_backShare_4 : zAt 101 4 m_T_backShare (.getfield 198) 3 := ⟨hm_T_backShare, by decide +kernel⟩
theorem a_T_backShare_7 : zAt 101 7 m_T_backShare (.ifCond .ne 7) 3 := ⟨hm_T_backShare, by decide +kernel⟩
theorem a_T_backShare_10 : zAt 101 10 m_T_backShare (.fconst 0) 1 := ⟨hm_T_backShare, by decide +kernel⟩
theorem a_T_backShare_11 : zAt 101 11 m_T_backShare (.goto 20) 3 := ⟨hm_T_backShare, by decide +kernel⟩
theorem a_T_backShare_14 : zAt 101 14 m_T_backShare (.aload_n 0) 1 := ⟨hm_T_backShare, by decide +kernel⟩
theorem a_T_backShare_15 : zAt 101 15 m_T_backShare (.getfield 20) 3 := ⟨hm_T_backShare, by decide +kernel⟩
theorem a_T_backShare_18 : zAt 101 18 m_T_backShare (.getfield 201) 3 := ⟨hm_T_backShare, by decide +kernel⟩
theorem a_T_backShare_21 : zAt 101 21 m_T_backShare (.i2f) 1 := ⟨hm_T_backShare, by decide +kernel⟩
theorem a_T_backShare_22 : zAt 101 22 m_T_backShare (.aload_n 0) 1 := ⟨hm_T_backShare, by decide +kernel⟩
theorem a_T_backShare_23 : zAt 101 23 m_T_backShare (.getfield 20) 3 := ⟨hm_T_backShare, by decide +kernel⟩
theorem a_T_backShare_26 : zAt 101 26 m_T_backShare (.getfield 198) 3 := ⟨hm_T_backShare, by decide +kernel⟩
theorem a_T_backShare_29 : zAt 101 29 m_T_backShare (.i2f) 1 := ⟨hm_T_backShare, by decide +kernel⟩
theorem a_T_backShare_30 : zAt 101 30 m_T_backShare (.fdiv) 1 := ⟨hm_T_backShare, by decide +kernel⟩
theorem a_T_backShare_31 : zAt 101 31 m_T_backShare (.freturn) 1 := ⟨hm_T_backShare, by decide +kernel⟩
theorem B_T_backShare_0 {G : Nat → Nat → Int32} (z30_0 : (¬ (G 2 8) = 0) → FP.fdiv (FP.i2f (G 2 9)) (FP.i2f (G 2 8)) &&& 0x7fffffff ≤ 0x7f800000) : zden 101 0 [.ref 0] [] (zSH, G) = if ¬ (G 2 8) = 0 then some (some (.float (FP.fdiv (FP.i2f (G 2 9)) (FP.i2f (G 2 8)))), (zSH, G)) else some (some (.float 0), (zSH, G)) :=
  (zd_aload_n a_T_backShare_0 rfl).trans ((zd_getR (h := (zSH, G)) (ci := 7) (fi := 1) (a := 2) a_T_backShare_1 (by decide +kernel) sh_0 rfl rfl).trans ((zd_getI (h := (zSH, G)) (ci := 2) (fi := 8) a_T_backShare_4 (by decide +kernel) sh_2 rfl).trans ((zd_if_ne a_T_backShare_7 rfl).trans (zitc (fun p2 => (zd_aload_n a_T_backShare_14 rfl).trans ((zd_getR (h := (zSH, G)) (ci := 7) (fi := 1) (a := 2) a_T_backShare_15 (by decide +kernel) sh_0 rfl rfl).trans ((zd_getI (h := (zSH, G)) (ci := 2) (fi := 9) a_T_backShare_18 (by decide +kernel) sh_2 rfl).trans ((zd_num (st2 := [.float (FP.i2f (G 2 9))]) a_T_backShare_21 rfl rfl rfl rfl).trans ((zd_aload_n a_T_backShare_22 rfl).trans ((zd_getR (h := (zSH, G)) (ci := 7) (fi := 1) (a := 2) a_T_backShare_23 (by decide +kernel) sh_0 rfl rfl).trans ((zd_getI (h := (zSH, G)) (ci := 2) (fi := 8) a_T_backShare_26 (by decide +kernel) sh_2 rfl).trans ((zd_num (st2 := [.float (FP.i2f (G 2 8)), .float (FP.i2f (G 2 9))]) a_T_backShare_29 rfl rfl rfl rfl).trans ((zd_fdiv a_T_backShare_30 (z30_0 p2)).trans (zd_fret a_T_backShare_31 rfl)))))))))) (fun p2 => (zd_num (st2 := [.float 0]) a_T_backShare_10 rfl rfl rfl rfl).trans ((zd_goto a_T_backShare_11 rfl).trans (zd_fret a_T_backShare_31 rfl)))))))
theorem a_L_law_18 : zAt 195 18 m_L_law (.iload_n 3) 1 := ⟨hm_L_law, by decide +kernel⟩
theorem a_L_law_19 : zAt 195 19 m_L_law (.aload_n 0) 1 := ⟨hm_L_law, by decide +kernel⟩
theorem a_L_law_20 : zAt 195 20 m_L_law (.arraylength) 1 := ⟨hm_L_law, by decide +kernel⟩
theorem a_L_law_21 : zAt 195 21 m_L_law (.bipush 7) 2 := ⟨hm_L_law, by decide +kernel⟩
theorem a_L_law_23 : zAt 195 23 m_L_law (.isub) 1 := ⟨hm_L_law, by decide +kernel⟩
theorem a_L_law_24 : zAt 195 24 m_L_law (.if_icmp .gt 1107) 3 := ⟨hm_L_law, by decide +kernel⟩
theorem a_L_law_27 : zAt 195 27 m_L_law (.aload_n 0) 1 := ⟨hm_L_law, by decide +kernel⟩
theorem a_L_law_28 : zAt 195 28 m_L_law (.iload_n 3) 1 := ⟨hm_L_law, by decide +kernel⟩
theorem a_L_law_29 : zAt 195 29 m_L_law (.iaload) 1 := ⟨hm_L_law, by decide +kernel⟩
theorem a_L_law_30 : zAt 195 30 m_L_law (.bipush 63) 2 := ⟨hm_L_law, by decide +kernel⟩
theorem a_L_law_32 : zAt 195 32 m_L_law (.iand) 1 := ⟨hm_L_law, by decide +kernel⟩
theorem a_L_law_33 : zAt 195 33 m_L_law (.tableswitch 1092 0 32 #[147, 210, 233, 266, 289, 364, 407, 440, 473, 506, 539, 562, 585, 618, 641, 664, 687, 710, 743, 766, 789, 812, 825, 848, 871, 894, 933, 956, 969, 1010, 1053, 1066, 1079]) 147 := ⟨hm_L_law, by decide +kernel⟩
theorem a_L_law_180 : zAt 195 180 m_L_law (.aload_n 1) 1 := ⟨hm_L_law, by decide +kernel⟩
theorem a_L_law_181 : zAt 195 181 m_L_law (.aload_n 0) 1 := ⟨hm_L_law, by decide +kernel⟩
theorem a_L_law_182 : zAt 195 182 m_L_law (.iload_n 3) 1 := ⟨hm_L_law, by decide +kernel⟩
theorem a_L_law_183 : zAt 195 183 m_L_law (.iconst 1) 1 := ⟨hm_L_law, by decide +kernel⟩
theorem a_L_law_184 : zAt 195 184 m_L_law (.iadd) 1 := ⟨hm_L_law, by decide +kernel⟩
theorem a_L_law_185 : zAt 195 185 m_L_law (.iaload) 1 := ⟨hm_L_law, by decide +kernel⟩
theorem a_L_law_186 : zAt 195 186 m_L_law (.aload_n 0) 1 := ⟨hm_L_law, by decide +kernel⟩
theorem a_L_law_187 : zAt 195 187 m_L_law (.iload_n 3) 1 := ⟨hm_L_law, by decide +kernel⟩
theorem a_L_law_188 : zAt 195 188 m_L_law (.iconst 2) 1 := ⟨hm_L_law, by decide +kernel⟩
theorem a_L_law_189 : zAt 195 189 m_L_law (.iadd) 1 := ⟨hm_L_law, by decide +kernel⟩
theorem a_L_law_190 : zAt 195 190 m_L_law (.iaload) 1 := ⟨hm_L_law, by decide +kernel⟩
theorem a_L_law_191 : zAt 195 191 m_L_law (.aload_n 0) 1 := ⟨hm_L_law, by decide +kernel⟩
theorem a_L_law_192 : zAt 195 192 m_L_law (.iload_n 3) 1 := ⟨hm_L_law, by decide +kernel⟩
theorem a_L_law_193 : zAt 195 193 m_L_law (.iconst 3) 1 := ⟨hm_L_law, by decide +kernel⟩
theorem a_L_law_194 : zAt 195 194 m_L_law (.iadd) 1 := ⟨hm_L_law, by decide +kernel⟩
theorem a_L_law_195 : zAt 195 195 m_L_law (.iaload) 1 := ⟨hm_L_law, by decide +kernel⟩
theorem a_L_law_196 : zAt 195 196 m_L_law (.aload_n 0) 1 := ⟨hm_L_law, by decide +kernel⟩
theorem a_L_law_197 : zAt 195 197 m_L_law (.iload_n 3) 1 := ⟨hm_L_law, by decide +kernel⟩
theorem a_L_law_198 : zAt 195 198 m_L_law (.iconst 4) 1 := ⟨hm_L_law, by decide +kernel⟩
theorem a_L_law_199 : zAt 195 199 m_L_law (.iadd) 1 := ⟨hm_L_law, by decide +kernel⟩
theorem a_L_law_200 : zAt 195 200 m_L_law (.iaload) 1 := ⟨hm_L_law, by decide +kernel⟩
theorem a_L_law_201 : zAt 195 201 m_L_law (.aload_n 0) 1 := ⟨hm_L_law, by decide +kernel⟩
theorem a_L_law_202 : zAt 195 202 m_L_law (.iload_n 3) 1 := ⟨hm_L_law, by decide +kernel⟩
theorem a_L_law_203 : zAt 195 203 m_L_law (.iconst 5) 1 := ⟨hm_L_law, by decide +kernel⟩
theorem a_L_law_204 : zAt 195 204 m_L_law (.iadd) 1 := ⟨hm_L_law, by decide +kernel⟩
theorem a_L_law_205 : zAt 195 205 m_L_law (.iaload) 1 := ⟨hm_L_law, by decide +kernel⟩
theorem a_L_law_206 : zAt 195 206 m_L_law (.invokevirtual 13) 3 := ⟨hm_L_law, by decide +kernel⟩
theorem a_L_law_209 : zAt 195 209 m_L_law (.aload_n 2) 1 := ⟨hm_L_law, by decide +kernel⟩
theorem a_L_law_210 : zAt 195 210 m_L_law (.aload_n 0) 1 := ⟨hm_L_law, by decide +kernel⟩
theorem a_L_law_211 : zAt 195 211 m_L_law (.iload_n 3) 1 := ⟨hm_L_law, by decide +kernel⟩
theorem a_L_law_212 : zAt 195 212 m_L_law (.iconst 1) 1 := ⟨hm_L_law, by decide +kernel⟩
theorem a_L_law_213 : zAt 195 213 m_L_law (.iadd) 1 := ⟨hm_L_law, by decide +kernel⟩
theorem a_L_law_214 : zAt 195 214 m_L_law (.iaload) 1 := ⟨hm_L_law, by decide +kernel⟩
theorem a_L_law_215 : zAt 195 215 m_L_law (.aload_n 0) 1 := ⟨hm_L_law, by decide +kernel⟩
theorem a_L_law_216 : zAt 195 216 m_L_law (.iload_n 3) 1 := ⟨hm_L_law, by decide +kernel⟩
theorem a_L_law_217 : zAt 195 217 m_L_law (.iconst 2) 1 := ⟨hm_L_law, by decide +kernel⟩
theorem a_L_law_218 : zAt 195 218 m_L_law (.iadd) 1 := ⟨hm_L_law, by decide +kernel⟩
theorem a_L_law_219 : zAt 195 219 m_L_law (.iaload) 1 := ⟨hm_L_law, by decide +kernel⟩
theorem a_L_law_220 : zAt 195 220 m_L_law (.aload_n 0) 1 := ⟨hm_L_law, by decide +kernel⟩
theorem a_L_law_221 : zAt 195 221 m_L_law (.iload_n 3) 1 := ⟨hm_L_law, by decide +kernel⟩
theorem a_L_law_222 : zAt 195 222 m_L_law (.iconst 3) 1 := ⟨hm_L_law, by decide +kernel⟩
theorem a_L_law_223 : zAt 195 223 m_L_law (.iadd) 1 := ⟨hm_L_law, by decide +kernel⟩
theorem a_L_law_224 : zAt 195 224 m_L_law (.iaload) 1 := ⟨hm_L_law, by decide +kernel⟩
theorem a_L_law_225 : zAt 195 225 m_L_law (.aload_n 0) 1 := ⟨hm_L_law, by decide +kernel⟩
theorem a_L_law_226 : zAt 195 226 m_L_law (.iload_n 3) 1 := ⟨hm_L_law, by decide +kernel⟩
theorem a_L_law_227 : zAt 195 227 m_L_law (.iconst 4) 1 := ⟨hm_L_law, by decide +kernel⟩
theorem a_L_law_228 : zAt 195 228 m_L_law (.iadd) 1 := ⟨hm_L_law, by decide +kernel⟩
theorem a_L_law_229 : zAt 195 229 m_L_law (.iaload) 1 := ⟨hm_L_law, by decide +kernel⟩
theorem a_L_law_230 : zAt 195 230 m_L_law (.aload_n 0) 1 := ⟨hm_L_law, by decide +kernel⟩
theorem a_L_law_231 : zAt 195 231 m_L_law (.iload_n 3) 1 := ⟨hm_L_law, by decide +kernel⟩
theorem a_L_law_232 : zAt 195 232 m_L_law (.iconst 5) 1 := ⟨hm_L_law, by decide +kernel⟩
theorem a_L_law_233 : zAt 195 233 m_L_law (.iadd) 1 := ⟨hm_L_law, by decide +kernel⟩
theorem a_L_law_234 : zAt 195 234 m_L_law (.iaload) 1 := ⟨hm_L_law, by decide +kernel⟩
theorem a_L_law_235 : zAt 195 235 m_L_law (.invokevirtual 17) 3 := ⟨hm_L_law, by decide +kernel⟩
theorem a_L_law_238 : zAt 195 238 m_L_law (.if_icmp .eq 887) 3 := ⟨hm_L_law, by decide +kernel⟩
theorem a_L_law_241 : zAt 195 241 m_L_law (.iconst 0) 1 := ⟨hm_L_law, by decide +kernel⟩
theorem a_L_law_242 : zAt 195 242 m_L_law (.ireturn) 1 := ⟨hm_L_law, by decide +kernel⟩
theorem a_L_law_243 : zAt 195 243 m_L_law (.aload_n 1) 1 := ⟨hm_L_law, by decide +kernel⟩
theorem a_L_law_244 : zAt 195 244 m_L_law (.aload_n 0) 1 := ⟨hm_L_law, by decide +kernel⟩
theorem a_L_law_245 : zAt 195 245 m_L_law (.iload_n 3) 1 := ⟨hm_L_law, by decide +kernel⟩
theorem a_L_law_246 : zAt 195 246 m_L_law (.iconst 1) 1 := ⟨hm_L_law, by decide +kernel⟩
theorem a_L_law_247 : zAt 195 247 m_L_law (.iadd) 1 := ⟨hm_L_law, by decide +kernel⟩
theorem a_L_law_248 : zAt 195 248 m_L_law (.iaload) 1 := ⟨hm_L_law, by decide +kernel⟩
theorem a_L_law_249 : zAt 195 249 m_L_law (.invokevirtual 18) 3 := ⟨hm_L_law, by decide +kernel⟩
theorem a_L_law_252 : zAt 195 252 m_L_law (.aload_n 2) 1 := ⟨hm_L_law, by decide +kernel⟩
theorem a_L_law_253 : zAt 195 253 m_L_law (.aload_n 0) 1 := ⟨hm_L_law, by decide +kernel⟩
theorem a_L_law_254 : zAt 195 254 m_L_law (.iload_n 3) 1 := ⟨hm_L_law, by decide +kernel⟩
theorem a_L_law_255 : zAt 195 255 m_L_law (.iconst 1) 1 := ⟨hm_L_law, by decide +kernel⟩
theorem a_L_law_256 : zAt 195 256 m_L_law (.iadd) 1 := ⟨hm_L_law, by decide +kernel⟩
theorem a_L_law_257 : zAt 195 257 m_L_law (.iaload) 1 := ⟨hm_L_law, by decide +kernel⟩
theorem a_L_law_258 : zAt 195 258 m_L_law (.invokevirtual 22) 3 := ⟨hm_L_law, by decide +kernel⟩
theorem a_L_law_261 : zAt 195 261 m_L_law (.if_icmp .eq 864) 3 := ⟨hm_L_law, by decide +kernel⟩
theorem a_L_law_264 : zAt 195 264 m_L_law (.iconst 0) 1 := ⟨hm_L_law, by decide +kernel⟩
theorem a_L_law_265 : zAt 195 265 m_L_law (.ireturn) 1 := ⟨hm_L_law, by decide +kernel⟩
theorem a_L_law_266 : zAt 195 266 m_L_law (.aload_n 1) 1 := ⟨hm_L_law, by decide +kernel⟩
theorem a_L_law_267 : zAt 195 267 m_L_law (.aload_n 0) 1 := ⟨hm_L_law, by decide +kernel⟩
theorem a_L_law_268 : zAt 195 268 m_L_law (.iload_n 3) 1 := ⟨hm_L_law, by decide +kernel⟩
theorem a_L_law_269 : zAt 195 269 m_L_law (.iconst 1) 1 := ⟨hm_L_law, by decide +kernel⟩
theorem a_L_law_270 : zAt 195 270 m_L_law (.iadd) 1 := ⟨hm_L_law, by decide +kernel⟩
theorem a_L_law_271 : zAt 195 271 m_L_law (.iaload) 1 := ⟨hm_L_law, by decide +kernel⟩
theorem a_L_law_272 : zAt 195 272 m_L_law (.aload_n 0) 1 := ⟨hm_L_law, by decide +kernel⟩
theorem a_L_law_273 : zAt 195 273 m_L_law (.iload_n 3) 1 := ⟨hm_L_law, by decide +kernel⟩
theorem a_L_law_274 : zAt 195 274 m_L_law (.iconst 2) 1 := ⟨hm_L_law, by decide +kernel⟩
theorem a_L_law_275 : zAt 195 275 m_L_law (.iadd) 1 := ⟨hm_L_law, by decide +kernel⟩
theorem a_L_law_276 : zAt 195 276 m_L_law (.iaload) 1 := ⟨hm_L_law, by decide +kernel⟩
theorem a_L_law_277 : zAt 195 277 m_L_law (.invokevirtual 23) 3 := ⟨hm_L_law, by decide +kernel⟩
theorem a_L_law_280 : zAt 195 280 m_L_law (.aload_n 2) 1 := ⟨hm_L_law, by decide +kernel⟩
theorem a_L_law_281 : zAt 195 281 m_L_law (.aload_n 0) 1 := ⟨hm_L_law, by decide +kernel⟩
theorem a_L_law_282 : zAt 195 282 m_L_law (.iload_n 3) 1 := ⟨hm_L_law, by decide +kernel⟩
theorem a_L_law_283 : zAt 195 283 m_L_law (.iconst 1) 1 := ⟨hm_L_law, by decide +kernel⟩
theorem a_L_law_284 : zAt 195 284 m_L_law (.iadd) 1 := ⟨hm_L_law, by decide +kernel⟩
theorem a_L_law_285 : zAt 195 285 m_L_law (.iaload) 1 := ⟨hm_L_law, by decide +kernel⟩
theorem a_L_law_286 : zAt 195 286 m_L_law (.aload_n 0) 1 := ⟨hm_L_law, by decide +kernel⟩
theorem a_L_law_287 : zAt 195 287 m_L_law (.iload_n 3) 1 := ⟨hm_L_law, by decide +kernel⟩
theorem a_L_law_288 : zAt 195 288 m_L_law (.iconst 2) 1 := ⟨hm_L_law, by decide +kernel⟩
theorem a_L_law_289 : zAt 195 289 m_L_law (.iadd) 1 := ⟨hm_L_law, by decide +kernel⟩
theorem a_L_law_290 : zAt 195 290 m_L_law (.iaload) 1 := ⟨hm_L_law, by decide +kernel⟩
theorem a_L_law_291 : zAt 195 291 m_L_law (.invokevirtual 27) 3 := ⟨hm_L_law, by decide +kernel⟩
theorem a_L_law_294 : zAt 195 294 m_L_law (.if_icmp .eq 831) 3 := ⟨hm_L_law, by decide +kernel⟩
theorem a_L_law_297 : zAt 195 297 m_L_law (.iconst 0) 1 := ⟨hm_L_law, by decide +kernel⟩
theorem a_L_law_298 : zAt 195 298 m_L_law (.ireturn) 1 := ⟨hm_L_law, by decide +kernel⟩
theorem a_L_law_299 : zAt 195 299 m_L_law (.aload_n 1) 1 := ⟨hm_L_law, by decide +kernel⟩
theorem a_L_law_300 : zAt 195 300 m_L_law (.aload_n 0) 1 := ⟨hm_L_law, by decide +kernel⟩
theorem a_L_law_301 : zAt 195 301 m_L_law (.iload_n 3) 1 := ⟨hm_L_law, by decide +kernel⟩
theorem a_L_law_302 : zAt 195 302 m_L_law (.iconst 1) 1 := ⟨hm_L_law, by decide +kernel⟩
theorem a_L_law_303 : zAt 195 303 m_L_law (.iadd) 1 := ⟨hm_L_law, by decide +kernel⟩
theorem a_L_law_304 : zAt 195 304 m_L_law (.iaload) 1 := ⟨hm_L_law, by decide +kernel⟩
theorem a_L_law_305 : zAt 195 305 m_L_law (.invokevirtual 28) 3 := ⟨hm_L_law, by decide +kernel⟩
theorem a_L_law_308 : zAt 195 308 m_L_law (.aload_n 2) 1 := ⟨hm_L_law, by decide +kernel⟩
theorem a_L_law_309 : zAt 195 309 m_L_law (.aload_n 0) 1 := ⟨hm_L_law, by decide +kernel⟩
theorem a_L_law_310 : zAt 195 310 m_L_law (.iload_n 3) 1 := ⟨hm_L_law, by decide +kernel⟩
theorem a_L_law_311 : zAt 195 311 m_L_law (.iconst 1) 1 := ⟨hm_L_law, by decide +kernel⟩
theorem a_L_law_312 : zAt 195 312 m_L_law (.iadd) 1 := ⟨hm_L_law, by decide +kernel⟩
theorem a_L_law_313 : zAt 195 313 m_L_law (.iaload) 1 := ⟨hm_L_law, by decide +kernel⟩
theorem a_L_law_314 : zAt 195 314 m_L_law (.invokevirtual 31) 3 := ⟨hm_L_law, by decide +kernel⟩
theorem a_L_law_317 : zAt 195 317 m_L_law (.if_icmp .eq 808) 3 := ⟨hm_L_law, by decide +kernel⟩
theorem a_L_law_320 : zAt 195 320 m_L_law (.iconst 0) 1 := ⟨hm_L_law, by decide +kernel⟩
theorem a_L_law_321 : zAt 195 321 m_L_law (.ireturn) 1 := ⟨hm_L_law, by decide +kernel⟩
theorem a_L_law_322 : zAt 195 322 m_L_law (.aload_n 1) 1 := ⟨hm_L_law, by decide +kernel⟩
theorem a_L_law_323 : zAt 195 323 m_L_law (.aload_n 0) 1 := ⟨hm_L_law, by decide +kernel⟩
theorem a_L_law_324 : zAt 195 324 m_L_law (.iload_n 3) 1 := ⟨hm_L_law, by decide +kernel⟩
theorem a_L_law_325 : zAt 195 325 m_L_law (.iconst 1) 1 := ⟨hm_L_law, by decide +kernel⟩
theorem a_L_law_326 : zAt 195 326 m_L_law (.iadd) 1 := ⟨hm_L_law, by decide +kernel⟩
theorem a_L_law_327 : zAt 195 327 m_L_law (.iaload) 1 := ⟨hm_L_law, by decide +kernel⟩
theorem a_L_law_328 : zAt 195 328 m_L_law (.aload_n 0) 1 := ⟨hm_L_law, by decide +kernel⟩
theorem a_L_law_329 : zAt 195 329 m_L_law (.iload_n 3) 1 := ⟨hm_L_law, by decide +kernel⟩
theorem a_L_law_330 : zAt 195 330 m_L_law (.iconst 2) 1 := ⟨hm_L_law, by decide +kernel⟩
theorem a_L_law_331 : zAt 195 331 m_L_law (.iadd) 1 := ⟨hm_L_law, by decide +kernel⟩
theorem a_L_law_332 : zAt 195 332 m_L_law (.iaload) 1 := ⟨hm_L_law, by decide +kernel⟩
theorem a_L_law_333 : zAt 195 333 m_L_law (.aload_n 0) 1 := ⟨hm_L_law, by decide +kernel⟩
theorem a_L_law_334 : zAt 195 334 m_L_law (.iload_n 3) 1 := ⟨hm_L_law, by decide +kernel⟩
theorem a_L_law_335 : zAt 195 335 m_L_law (.iconst 3) 1 := ⟨hm_L_law, by decide +kernel⟩
theorem a_L_law_336 : zAt 195 336 m_L_law (.iadd) 1 := ⟨hm_L_law, by decide +kernel⟩
theorem a_L_law_337 : zAt 195 337 m_L_law (.iaload) 1 := ⟨hm_L_law, by decide +kernel⟩
theorem a_L_law_338 : zAt 195 338 m_L_law (.aload_n 0) 1 := ⟨hm_L_law, by decide +kernel⟩
theorem a_L_law_339 : zAt 195 339 m_L_law (.iload_n 3) 1 := ⟨hm_L_law, by decide +kernel⟩
theorem a_L_law_340 : zAt 195 340 m_L_law (.iconst 4) 1 := ⟨hm_L_law, by decide +kernel⟩
theorem a_L_law_341 : zAt 195 341 m_L_law (.iadd) 1 := ⟨hm_L_law, by decide +kernel⟩
theorem a_L_law_342 : zAt 195 342 m_L_law (.iaload) 1 := ⟨hm_L_law, by decide +kernel⟩
theorem a_L_law_343 : zAt 195 343 m_L_law (.aload_n 0) 1 := ⟨hm_L_law, by decide +kernel⟩
theorem a_L_law_344 : zAt 195 344 m_L_law (.iload_n 3) 1 := ⟨hm_L_law, by decide +kernel⟩
theorem a_L_law_345 : zAt 195 345 m_L_law (.iconst 5) 1 := ⟨hm_L_law, by decide +kernel⟩
theorem a_L_law_346 : zAt 195 346 m_L_law (.iadd) 1 := ⟨hm_L_law, by decide +kernel⟩
theorem a_L_law_347 : zAt 195 347 m_L_law (.iaload) 1 := ⟨hm_L_law, by decide +kernel⟩
theorem a_L_law_348 : zAt 195 348 m_L_law (.aload_n 0) 1 := ⟨hm_L_law, by decide +kernel⟩
theorem a_L_law_349 : zAt 195 349 m_L_law (.iload_n 3) 1 := ⟨hm_L_law, by decide +kernel⟩
theorem a_L_law_350 : zAt 195 350 m_L_law (.bipush 6) 2 := ⟨hm_L_law, by decide +kernel⟩
theorem a_L_law_352 : zAt 195 352 m_L_law (.iadd) 1 := ⟨hm_L_law, by decide +kernel⟩
theorem a_L_law_353 : zAt 195 353 m_L_law (.iaload) 1 := ⟨hm_L_law, by decide +kernel⟩
theorem a_L_law_354 : zAt 195 354 m_L_law (.invokevirtual 32) 3 := ⟨hm_L_law, by decide +kernel⟩
theorem a_L_law_357 : zAt 195 357 m_L_law (.aload_n 2) 1 := ⟨hm_L_law, by decide +kernel⟩
theorem a_L_law_358 : zAt 195 358 m_L_law (.aload_n 0) 1 := ⟨hm_L_law, by decide +kernel⟩
theorem a_L_law_359 : zAt 195 359 m_L_law (.iload_n 3) 1 := ⟨hm_L_law, by decide +kernel⟩
theorem a_L_law_360 : zAt 195 360 m_L_law (.iconst 1) 1 := ⟨hm_L_law, by decide +kernel⟩
theorem a_L_law_361 : zAt 195 361 m_L_law (.iadd) 1 := ⟨hm_L_law, by decide +kernel⟩
theorem a_L_law_362 : zAt 195 362 m_L_law (.iaload) 1 := ⟨hm_L_law, by decide +kernel⟩
theorem a_L_law_363 : zAt 195 363 m_L_law (.aload_n 0) 1 := ⟨hm_L_law, by decide +kernel⟩
theorem a_L_law_364 : zAt 195 364 m_L_law (.iload_n 3) 1 := ⟨hm_L_law, by decide +kernel⟩
theorem a_L_law_365 : zAt 195 365 m_L_law (.iconst 2) 1 := ⟨hm_L_law, by decide +kernel⟩
theorem a_L_law_366 : zAt 195 366 m_L_law (.iadd) 1 := ⟨hm_L_law, by decide +kernel⟩
theorem a_L_law_367 : zAt 195 367 m_L_law (.iaload) 1 := ⟨hm_L_law, by decide +kernel⟩
theorem a_L_law_368 : zAt 195 368 m_L_law (.aload_n 0) 1 := ⟨hm_L_law, by decide +kernel⟩
theorem a_L_law_369 : zAt 195 369 m_L_law (.iload_n 3) 1 := ⟨hm_L_law, by decide +kernel⟩
theorem a_L_law_370 : zAt 195 370 m_L_law (.iconst 3) 1 := ⟨hm_L_law, by decide +kernel⟩
theorem a_L_law_371 : zAt 195 371 m_L_law (.iadd) 1 := ⟨hm_L_law, by decide +kernel⟩
theorem a_L_law_372 : zAt 195 372 m_L_law (.iaload) 1 := ⟨hm_L_law, by decide +kernel⟩
theorem a_L_law_373 : zAt 195 373 m_L_law (.aload_n 0) 1 := ⟨hm_L_law, by decide +kernel⟩
theorem a_L_law_374 : zAt 195 374 m_L_law (.iload_n 3) 1 := ⟨hm_L_law, by decide +kernel⟩
theorem a_L_law_375 : zAt 195 375 m_L_law (.iconst 4) 1 := ⟨hm_L_law, by decide +kernel⟩
theorem a_L_law_376 : zAt 195 376 m_L_law (.iadd) 1 := ⟨hm_L_law, by decide +kernel⟩
theorem a_L_law_377 : zAt 195 377 m_L_law (.iaload) 1 := ⟨hm_L_law, by decide +kernel⟩
theorem a_L_law_378 : zAt 195 378 m_L_law (.aload_n 0) 1 := ⟨hm_L_law, by decide +kernel⟩
theorem a_L_law_379 : zAt 195 379 m_L_law (.iload_n 3) 1 := ⟨hm_L_law, by decide +kernel⟩
theorem a_L_law_380 : zAt 195 380 m_L_law (.iconst 5) 1 := ⟨hm_L_law, by decide +kernel⟩
theorem a_L_law_381 : zAt 195 381 m_L_law (.iadd) 1 := ⟨hm_L_law, by decide +kernel⟩
theorem a_L_law_382 : zAt 195 382 m_L_law (.iaload) 1 := ⟨hm_L_law, by decide +kernel⟩
theorem a_L_law_383 : zAt 195 383 m_L_law (.aload_n 0) 1 := ⟨hm_L_law, by decide +kernel⟩
theorem a_L_law_384 : zAt 195 384 m_L_law (.iload_n 3) 1 := ⟨hm_L_law, by decide +kernel⟩
theorem a_L_law_385 : zAt 195 385 m_L_law (.bipush 6) 2 := ⟨hm_L_law, by decide +kernel⟩
theorem a_L_law_387 : zAt 195 387 m_L_law (.iadd) 1 := ⟨hm_L_law, by decide +kernel⟩
theorem a_L_law_388 : zAt 195 388 m_L_law (.iaload) 1 := ⟨hm_L_law, by decide +kernel⟩
theorem a_L_law_389 : zAt 195 389 m_L_law (.invokevirtual 36) 3 := ⟨hm_L_law, by decide +kernel⟩
theorem a_L_law_392 : zAt 195 392 m_L_law (.if_icmp .eq 733) 3 := ⟨hm_L_law, by decide +kernel⟩
theorem a_L_law_395 : zAt 195 395 m_L_law (.iconst 0) 1 := ⟨hm_L_law, by decide +kernel⟩
theorem a_L_law_396 : zAt 195 396 m_L_law (.ireturn) 1 := ⟨hm_L_law, by decide +kernel⟩
theorem a_L_law_397 : zAt 195 397 m_L_law (.aload_n 1) 1 := ⟨hm_L_law, by decide +kernel⟩
theorem a_L_law_398 : zAt 195 398 m_L_law (.aload_n 0) 1 := ⟨hm_L_law, by decide +kernel⟩
theorem a_L_law_399 : zAt 195 399 m_L_law (.iload_n 3) 1 := ⟨hm_L_law, by decide +kernel⟩
theorem a_L_law_400 : zAt 195 400 m_L_law (.iconst 1) 1 := ⟨hm_L_law, by decide +kernel⟩
theorem a_L_law_401 : zAt 195 401 m_L_law (.iadd) 1 := ⟨hm_L_law, by decide +kernel⟩
theorem a_L_law_402 : zAt 195 402 m_L_law (.iaload) 1 := ⟨hm_L_law, by decide +kernel⟩
theorem a_L_law_403 : zAt 195 403 m_L_law (.aload_n 0) 1 := ⟨hm_L_law, by decide +kernel⟩
theorem a_L_law_404 : zAt 195 404 m_L_law (.iload_n 3) 1 := ⟨hm_L_law, by decide +kernel⟩
theorem a_L_law_405 : zAt 195 405 m_L_law (.iconst 2) 1 := ⟨hm_L_law, by decide +kernel⟩
theorem a_L_law_406 : zAt 195 406 m_L_law (.iadd) 1 := ⟨hm_L_law, by decide +kernel⟩
theorem a_L_law_407 : zAt 195 407 m_L_law (.iaload) 1 := ⟨hm_L_law, by decide +kernel⟩
theorem a_L_law_408 : zAt 195 408 m_L_law (.aload_n 0) 1 := ⟨hm_L_law, by decide +kernel⟩
theorem a_L_law_409 : zAt 195 409 m_L_law (.iload_n 3) 1 := ⟨hm_L_law, by decide +kernel⟩
theorem a_L_law_410 : zAt 195 410 m_L_law (.iconst 3) 1 := ⟨hm_L_law, by decide +kernel⟩
theorem a_L_law_411 : zAt 195 411 m_L_law (.iadd) 1 := ⟨hm_L_law, by decide +kernel⟩
theorem a_L_law_412 : zAt 195 412 m_L_law (.iaload) 1 := ⟨hm_L_law, by decide +kernel⟩
theorem a_L_law_413 : zAt 195 413 m_L_law (.invokevirtual 37) 3 := ⟨hm_L_law, by decide +kernel⟩
theorem a_L_law_416 : zAt 195 416 m_L_law (.aload_n 2) 1 := ⟨hm_L_law, by decide +kernel⟩
theorem a_L_law_417 : zAt 195 417 m_L_law (.aload_n 0) 1 := ⟨hm_L_law, by decide +kernel⟩
theorem a_L_law_418 : zAt 195 418 m_L_law (.iload_n 3) 1 := ⟨hm_L_law, by decide +kernel⟩
theorem a_L_law_419 : zAt 195 419 m_L_law (.iconst 1) 1 := ⟨hm_L_law, by decide +kernel⟩
theorem a_L_law_420 : zAt 195 420 m_L_law (.iadd) 1 := ⟨hm_L_law, by decide +kernel⟩
theorem a_L_law_421 : zAt 195 421 m_L_law (.iaload) 1 := ⟨hm_L_law, by decide +kernel⟩
theorem a_L_law_422 : zAt 195 422 m_L_law (.aload_n 0) 1 := ⟨hm_L_law, by decide +kernel⟩
theorem a_L_law_423 : zAt 195 423 m_L_law (.iload_n 3) 1 := ⟨hm_L_law, by decide +kernel⟩
theorem a_L_law_424 : zAt 195 424 m_L_law (.iconst 2) 1 := ⟨hm_L_law, by decide +kernel⟩
theorem a_L_law_425 : zAt 195 425 m_L_law (.iadd) 1 := ⟨hm_L_law, by decide +kernel⟩
theorem a_L_law_426 : zAt 195 426 m_L_law (.iaload) 1 := ⟨hm_L_law, by decide +kernel⟩
theorem a_L_law_427 : zAt 195 427 m_L_law (.aload_n 0) 1 := ⟨hm_L_law, by decide +kernel⟩
theorem a_L_law_428 : zAt 195 428 m_L_law (.iload_n 3) 1 := ⟨hm_L_law, by decide +kernel⟩
theorem a_L_law_429 : zAt 195 429 m_L_law (.iconst 3) 1 := ⟨hm_L_law, by decide +kernel⟩
theorem a_L_law_430 : zAt 195 430 m_L_law (.iadd) 1 := ⟨hm_L_law, by decide +kernel⟩
theorem a_L_law_431 : zAt 195 431 m_L_law (.iaload) 1 := ⟨hm_L_law, by decide +kernel⟩
theorem a_L_law_432 : zAt 195 432 m_L_law (.invokevirtual 41) 3 := ⟨hm_L_law, by decide +kernel⟩
theorem a_L_law_435 : zAt 195 435 m_L_law (.if_icmp .eq 690) 3 := ⟨hm_L_law, by decide +kernel⟩
theorem a_L_law_438 : zAt 195 438 m_L_law (.iconst 0) 1 := ⟨hm_L_law, by decide +kernel⟩
theorem a_L_law_439 : zAt 195 439 m_L_law (.ireturn) 1 := ⟨hm_L_law, by decide +kernel⟩
theorem a_L_law_440 : zAt 195 440 m_L_law (.aload_n 1) 1 := ⟨hm_L_law, by decide +kernel⟩
theorem a_L_law_441 : zAt 195 441 m_L_law (.aload_n 0) 1 := ⟨hm_L_law, by decide +kernel⟩
theorem a_L_law_442 : zAt 195 442 m_L_law (.iload_n 3) 1 := ⟨hm_L_law, by decide +kernel⟩
theorem a_L_law_443 : zAt 195 443 m_L_law (.iconst 1) 1 := ⟨hm_L_law, by decide +kernel⟩
theorem a_L_law_444 : zAt 195 444 m_L_law (.iadd) 1 := ⟨hm_L_law, by decide +kernel⟩
theorem a_L_law_445 : zAt 195 445 m_L_law (.iaload) 1 := ⟨hm_L_law, by decide +kernel⟩
theorem a_L_law_446 : zAt 195 446 m_L_law (.aload_n 0) 1 := ⟨hm_L_law, by decide +kernel⟩
theorem a_L_law_447 : zAt 195 447 m_L_law (.iload_n 3) 1 := ⟨hm_L_law, by decide +kernel⟩
theorem a_L_law_448 : zAt 195 448 m_L_law (.iconst 2) 1 := ⟨hm_L_law, by decide +kernel⟩
theorem a_L_law_449 : zAt 195 449 m_L_law (.iadd) 1 := ⟨hm_L_law, by decide +kernel⟩
theorem a_L_law_450 : zAt 195 450 m_L_law (.iaload) 1 := ⟨hm_L_law, by decide +kernel⟩
theorem a_L_law_451 : zAt 195 451 m_L_law (.invokevirtual 42) 3 := ⟨hm_L_law, by decide +kernel⟩
theorem a_L_law_454 : zAt 195 454 m_L_law (.aload_n 2) 1 := ⟨hm_L_law, by decide +kernel⟩
theorem a_L_law_455 : zAt 195 455 m_L_law (.aload_n 0) 1 := ⟨hm_L_law, by decide +kernel⟩
theorem a_L_law_456 : zAt 195 456 m_L_law (.iload_n 3) 1 := ⟨hm_L_law, by decide +kernel⟩
theorem a_L_law_457 : zAt 195 457 m_L_law (.iconst 1) 1 := ⟨hm_L_law, by decide +kernel⟩
theorem a_L_law_458 : zAt 195 458 m_L_law (.iadd) 1 := ⟨hm_L_law, by decide +kernel⟩
theorem a_L_law_459 : zAt 195 459 m_L_law (.iaload) 1 := ⟨hm_L_law, by decide +kernel⟩
theorem a_L_law_460 : zAt 195 460 m_L_law (.aload_n 0) 1 := ⟨hm_L_law, by decide +kernel⟩
theorem a_L_law_461 : zAt 195 461 m_L_law (.iload_n 3) 1 := ⟨hm_L_law, by decide +kernel⟩
theorem a_L_law_462 : zAt 195 462 m_L_law (.iconst 2) 1 := ⟨hm_L_law, by decide +kernel⟩
theorem a_L_law_463 : zAt 195 463 m_L_law (.iadd) 1 := ⟨hm_L_law, by decide +kernel⟩
theorem a_L_law_464 : zAt 195 464 m_L_law (.iaload) 1 := ⟨hm_L_law, by decide +kernel⟩
theorem a_L_law_465 : zAt 195 465 m_L_law (.invokevirtual 45) 3 := ⟨hm_L_law, by decide +kernel⟩
theorem a_L_law_468 : zAt 195 468 m_L_law (.if_icmp .eq 657) 3 := ⟨hm_L_law, by decide +kernel⟩
theorem a_L_law_471 : zAt 195 471 m_L_law (.iconst 0) 1 := ⟨hm_L_law, by decide +kernel⟩
theorem a_L_law_472 : zAt 195 472 m_L_law (.ireturn) 1 := ⟨hm_L_law, by decide +kernel⟩
theorem a_L_law_473 : zAt 195 473 m_L_law (.aload_n 1) 1 := ⟨hm_L_law, by decide +kernel⟩
theorem a_L_law_474 : zAt 195 474 m_L_law (.aload_n 0) 1 := ⟨hm_L_law, by decide +kernel⟩
theorem a_L_law_475 : zAt 195 475 m_L_law (.iload_n 3) 1 := ⟨hm_L_law, by decide +kernel⟩
theorem a_L_law_476 : zAt 195 476 m_L_law (.iconst 1) 1 := ⟨hm_L_law, by decide +kernel⟩
theorem a_L_law_477 : zAt 195 477 m_L_law (.iadd) 1 := ⟨hm_L_law, by decide +kernel⟩
theorem a_L_law_478 : zAt 195 478 m_L_law (.iaload) 1 := ⟨hm_L_law, by decide +kernel⟩
theorem a_L_law_479 : zAt 195 479 m_L_law (.aload_n 0) 1 := ⟨hm_L_law, by decide +kernel⟩
theorem a_L_law_480 : zAt 195 480 m_L_law (.iload_n 3) 1 := ⟨hm_L_law, by decide +kernel⟩
theorem a_L_law_481 : zAt 195 481 m_L_law (.iconst 2) 1 := ⟨hm_L_law, by decide +kernel⟩
theorem a_L_law_482 : zAt 195 482 m_L_law (.iadd) 1 := ⟨hm_L_law, by decide +kernel⟩
theorem a_L_law_483 : zAt 195 483 m_L_law (.iaload) 1 := ⟨hm_L_law, by decide +kernel⟩
theorem a_L_law_484 : zAt 195 484 m_L_law (.invokevirtual 46) 3 := ⟨hm_L_law, by decide +kernel⟩
theorem a_L_law_487 : zAt 195 487 m_L_law (.aload_n 2) 1 := ⟨hm_L_law, by decide +kernel⟩
theorem a_L_law_488 : zAt 195 488 m_L_law (.aload_n 0) 1 := ⟨hm_L_law, by decide +kernel⟩
theorem a_L_law_489 : zAt 195 489 m_L_law (.iload_n 3) 1 := ⟨hm_L_law, by decide +kernel⟩
theorem a_L_law_490 : zAt 195 490 m_L_law (.iconst 1) 1 := ⟨hm_L_law, by decide +kernel⟩
theorem a_L_law_491 : zAt 195 491 m_L_law (.iadd) 1 := ⟨hm_L_law, by decide +kernel⟩
theorem a_L_law_492 : zAt 195 492 m_L_law (.iaload) 1 := ⟨hm_L_law, by decide +kernel⟩
theorem a_L_law_493 : zAt 195 493 m_L_law (.aload_n 0) 1 := ⟨hm_L_law, by decide +kernel⟩
theorem a_L_law_494 : zAt 195 494 m_L_law (.iload_n 3) 1 := ⟨hm_L_law, by decide +kernel⟩
theorem a_L_law_495 : zAt 195 495 m_L_law (.iconst 2) 1 := ⟨hm_L_law, by decide +kernel⟩
theorem a_L_law_496 : zAt 195 496 m_L_law (.iadd) 1 := ⟨hm_L_law, by decide +kernel⟩
theorem a_L_law_497 : zAt 195 497 m_L_law (.iaload) 1 := ⟨hm_L_law, by decide +kernel⟩
theorem a_L_law_498 : zAt 195 498 m_L_law (.invokevirtual 49) 3 := ⟨hm_L_law, by decide +kernel⟩
theorem a_L_law_501 : zAt 195 501 m_L_law (.if_icmp .eq 624) 3 := ⟨hm_L_law, by decide +kernel⟩
theorem a_L_law_504 : zAt 195 504 m_L_law (.iconst 0) 1 := ⟨hm_L_law, by decide +kernel⟩
theorem a_L_law_505 : zAt 195 505 m_L_law (.ireturn) 1 := ⟨hm_L_law, by decide +kernel⟩
theorem a_L_law_506 : zAt 195 506 m_L_law (.aload_n 1) 1 := ⟨hm_L_law, by decide +kernel⟩
theorem a_L_law_507 : zAt 195 507 m_L_law (.aload_n 0) 1 := ⟨hm_L_law, by decide +kernel⟩
theorem a_L_law_508 : zAt 195 508 m_L_law (.iload_n 3) 1 := ⟨hm_L_law, by decide +kernel⟩
theorem a_L_law_509 : zAt 195 509 m_L_law (.iconst 1) 1 := ⟨hm_L_law, by decide +kernel⟩
theorem a_L_law_510 : zAt 195 510 m_L_law (.iadd) 1 := ⟨hm_L_law, by decide +kernel⟩
theorem a_L_law_511 : zAt 195 511 m_L_law (.iaload) 1 := ⟨hm_L_law, by decide +kernel⟩
theorem a_L_law_512 : zAt 195 512 m_L_law (.aload_n 0) 1 := ⟨hm_L_law, by decide +kernel⟩
theorem a_L_law_513 : zAt 195 513 m_L_law (.iload_n 3) 1 := ⟨hm_L_law, by decide +kernel⟩
theorem a_L_law_514 : zAt 195 514 m_L_law (.iconst 2) 1 := ⟨hm_L_law, by decide +kernel⟩
theorem a_L_law_515 : zAt 195 515 m_L_law (.iadd) 1 := ⟨hm_L_law, by decide +kernel⟩
theorem a_L_law_516 : zAt 195 516 m_L_law (.iaload) 1 := ⟨hm_L_law, by decide +kernel⟩
theorem a_L_law_517 : zAt 195 517 m_L_law (.invokevirtual 50) 3 := ⟨hm_L_law, by decide +kernel⟩
theorem a_L_law_520 : zAt 195 520 m_L_law (.aload_n 2) 1 := ⟨hm_L_law, by decide +kernel⟩
theorem a_L_law_521 : zAt 195 521 m_L_law (.aload_n 0) 1 := ⟨hm_L_law, by decide +kernel⟩
theorem a_L_law_522 : zAt 195 522 m_L_law (.iload_n 3) 1 := ⟨hm_L_law, by decide +kernel⟩
theorem a_L_law_523 : zAt 195 523 m_L_law (.iconst 1) 1 := ⟨hm_L_law, by decide +kernel⟩
theorem a_L_law_524 : zAt 195 524 m_L_law (.iadd) 1 := ⟨hm_L_law, by decide +kernel⟩
theorem a_L_law_525 : zAt 195 525 m_L_law (.iaload) 1 := ⟨hm_L_law, by decide +kernel⟩
theorem a_L_law_526 : zAt 195 526 m_L_law (.aload_n 0) 1 := ⟨hm_L_law, by decide +kernel⟩
theorem a_L_law_527 : zAt 195 527 m_L_law (.iload_n 3) 1 := ⟨hm_L_law, by decide +kernel⟩
theorem a_L_law_528 : zAt 195 528 m_L_law (.iconst 2) 1 := ⟨hm_L_law, by decide +kernel⟩
theorem a_L_law_529 : zAt 195 529 m_L_law (.iadd) 1 := ⟨hm_L_law, by decide +kernel⟩
theorem a_L_law_530 : zAt 195 530 m_L_law (.iaload) 1 := ⟨hm_L_law, by decide +kernel⟩
theorem a_L_law_531 : zAt 195 531 m_L_law (.invokevirtual 53) 3 := ⟨hm_L_law, by decide +kernel⟩
theorem a_L_law_534 : zAt 195 534 m_L_law (.if_icmp .eq 591) 3 := ⟨hm_L_law, by decide +kernel⟩
theorem a_L_law_537 : zAt 195 537 m_L_law (.iconst 0) 1 := ⟨hm_L_law, by decide +kernel⟩
theorem a_L_law_538 : zAt 195 538 m_L_law (.ireturn) 1 := ⟨hm_L_law, by decide +kernel⟩
theorem a_L_law_539 : zAt 195 539 m_L_law (.aload_n 1) 1 := ⟨hm_L_law, by decide +kernel⟩
theorem a_L_law_540 : zAt 195 540 m_L_law (.aload_n 0) 1 := ⟨hm_L_law, by decide +kernel⟩
theorem a_L_law_541 : zAt 195 541 m_L_law (.iload_n 3) 1 := ⟨hm_L_law, by decide +kernel⟩
theorem a_L_law_542 : zAt 195 542 m_L_law (.iconst 1) 1 := ⟨hm_L_law, by decide +kernel⟩
theorem a_L_law_543 : zAt 195 543 m_L_law (.iadd) 1 := ⟨hm_L_law, by decide +kernel⟩
theorem a_L_law_544 : zAt 195 544 m_L_law (.iaload) 1 := ⟨hm_L_law, by decide +kernel⟩
theorem a_L_law_545 : zAt 195 545 m_L_law (.aload_n 0) 1 := ⟨hm_L_law, by decide +kernel⟩
theorem a_L_law_546 : zAt 195 546 m_L_law (.iload_n 3) 1 := ⟨hm_L_law, by decide +kernel⟩
theorem a_L_law_547 : zAt 195 547 m_L_law (.iconst 2) 1 := ⟨hm_L_law, by decide +kernel⟩
theorem a_L_law_548 : zAt 195 548 m_L_law (.iadd) 1 := ⟨hm_L_law, by decide +kernel⟩
theorem a_L_law_549 : zAt 195 549 m_L_law (.iaload) 1 := ⟨hm_L_law, by decide +kernel⟩
theorem a_L_law_550 : zAt 195 550 m_L_law (.invokevirtual 54) 3 := ⟨hm_L_law, by decide +kernel⟩
theorem a_L_law_553 : zAt 195 553 m_L_law (.aload_n 2) 1 := ⟨hm_L_law, by decide +kernel⟩
theorem a_L_law_554 : zAt 195 554 m_L_law (.aload_n 0) 1 := ⟨hm_L_law, by decide +kernel⟩
theorem a_L_law_555 : zAt 195 555 m_L_law (.iload_n 3) 1 := ⟨hm_L_law, by decide +kernel⟩
theorem a_L_law_556 : zAt 195 556 m_L_law (.iconst 1) 1 := ⟨hm_L_law, by decide +kernel⟩
theorem a_L_law_557 : zAt 195 557 m_L_law (.iadd) 1 := ⟨hm_L_law, by decide +kernel⟩
theorem a_L_law_558 : zAt 195 558 m_L_law (.iaload) 1 := ⟨hm_L_law, by decide +kernel⟩
theorem a_L_law_559 : zAt 195 559 m_L_law (.aload_n 0) 1 := ⟨hm_L_law, by decide +kernel⟩
theorem a_L_law_560 : zAt 195 560 m_L_law (.iload_n 3) 1 := ⟨hm_L_law, by decide +kernel⟩
theorem a_L_law_561 : zAt 195 561 m_L_law (.iconst 2) 1 := ⟨hm_L_law, by decide +kernel⟩
theorem a_L_law_562 : zAt 195 562 m_L_law (.iadd) 1 := ⟨hm_L_law, by decide +kernel⟩
theorem a_L_law_563 : zAt 195 563 m_L_law (.iaload) 1 := ⟨hm_L_law, by decide +kernel⟩
theorem a_L_law_564 : zAt 195 564 m_L_law (.invokevirtual 57) 3 := ⟨hm_L_law, by decide +kernel⟩
theorem a_L_law_567 : zAt 195 567 m_L_law (.if_icmp .eq 558) 3 := ⟨hm_L_law, by decide +kernel⟩
theorem a_L_law_570 : zAt 195 570 m_L_law (.iconst 0) 1 := ⟨hm_L_law, by decide +kernel⟩
theorem a_L_law_571 : zAt 195 571 m_L_law (.ireturn) 1 := ⟨hm_L_law, by decide +kernel⟩
theorem a_L_law_572 : zAt 195 572 m_L_law (.aload_n 1) 1 := ⟨hm_L_law, by decide +kernel⟩
theorem a_L_law_573 : zAt 195 573 m_L_law (.aload_n 0) 1 := ⟨hm_L_law, by decide +kernel⟩
theorem a_L_law_574 : zAt 195 574 m_L_law (.iload_n 3) 1 := ⟨hm_L_law, by decide +kernel⟩
theorem a_L_law_575 : zAt 195 575 m_L_law (.iconst 1) 1 := ⟨hm_L_law, by decide +kernel⟩
theorem a_L_law_576 : zAt 195 576 m_L_law (.iadd) 1 := ⟨hm_L_law, by decide +kernel⟩
theorem a_L_law_577 : zAt 195 577 m_L_law (.iaload) 1 := ⟨hm_L_law, by decide +kernel⟩
theorem a_L_law_578 : zAt 195 578 m_L_law (.invokevirtual 58) 3 := ⟨hm_L_law, by decide +kernel⟩
theorem a_L_law_581 : zAt 195 581 m_L_law (.aload_n 2) 1 := ⟨hm_L_law, by decide +kernel⟩
theorem a_L_law_582 : zAt 195 582 m_L_law (.aload_n 0) 1 := ⟨hm_L_law, by decide +kernel⟩
theorem a_L_law_583 : zAt 195 583 m_L_law (.iload_n 3) 1 := ⟨hm_L_law, by decide +kernel⟩
theorem a_L_law_584 : zAt 195 584 m_L_law (.iconst 1) 1 := ⟨hm_L_law, by decide +kernel⟩
theorem a_L_law_585 : zAt 195 585 m_L_law (.iadd) 1 := ⟨hm_L_law, by decide +kernel⟩
theorem a_L_law_586 : zAt 195 586 m_L_law (.iaload) 1 := ⟨hm_L_law, by decide +kernel⟩
theorem a_L_law_587 : zAt 195 587 m_L_law (.invokevirtual 61) 3 := ⟨hm_L_law, by decide +kernel⟩
theorem a_L_law_590 : zAt 195 590 m_L_law (.if_icmp .eq 535) 3 := ⟨hm_L_law, by decide +kernel⟩
theorem a_L_law_593 : zAt 195 593 m_L_law (.iconst 0) 1 := ⟨hm_L_law, by decide +kernel⟩
theorem a_L_law_594 : zAt 195 594 m_L_law (.ireturn) 1 := ⟨hm_L_law, by decide +kernel⟩
theorem a_L_law_595 : zAt 195 595 m_L_law (.aload_n 1) 1 := ⟨hm_L_law, by decide +kernel⟩
theorem a_L_law_596 : zAt 195 596 m_L_law (.aload_n 0) 1 := ⟨hm_L_law, by decide +kernel⟩
theorem a_L_law_597 : zAt 195 597 m_L_law (.iload_n 3) 1 := ⟨hm_L_law, by decide +kernel⟩
theorem a_L_law_598 : zAt 195 598 m_L_law (.iconst 1) 1 := ⟨hm_L_law, by decide +kernel⟩
theorem a_L_law_599 : zAt 195 599 m_L_law (.iadd) 1 := ⟨hm_L_law, by decide +kernel⟩
theorem a_L_law_600 : zAt 195 600 m_L_law (.iaload) 1 := ⟨hm_L_law, by decide +kernel⟩
theorem a_L_law_601 : zAt 195 601 m_L_law (.invokevirtual 62) 3 := ⟨hm_L_law, by decide +kernel⟩
theorem a_L_law_604 : zAt 195 604 m_L_law (.aload_n 2) 1 := ⟨hm_L_law, by decide +kernel⟩
theorem a_L_law_605 : zAt 195 605 m_L_law (.aload_n 0) 1 := ⟨hm_L_law, by decide +kernel⟩
theorem a_L_law_606 : zAt 195 606 m_L_law (.iload_n 3) 1 := ⟨hm_L_law, by decide +kernel⟩
theorem a_L_law_607 : zAt 195 607 m_L_law (.iconst 1) 1 := ⟨hm_L_law, by decide +kernel⟩
theorem a_L_law_608 : zAt 195 608 m_L_law (.iadd) 1 := ⟨hm_L_law, by decide +kernel⟩
theorem a_L_law_609 : zAt 195 609 m_L_law (.iaload) 1 := ⟨hm_L_law, by decide +kernel⟩
theorem a_L_law_610 : zAt 195 610 m_L_law (.invokevirtual 65) 3 := ⟨hm_L_law, by decide +kernel⟩
theorem a_L_law_613 : zAt 195 613 m_L_law (.if_icmp .eq 512) 3 := ⟨hm_L_law, by decide +kernel⟩
theorem a_L_law_616 : zAt 195 616 m_L_law (.iconst 0) 1 := ⟨hm_L_law, by decide +kernel⟩
theorem a_L_law_617 : zAt 195 617 m_L_law (.ireturn) 1 := ⟨hm_L_law, by decide +kernel⟩
theorem a_L_law_618 : zAt 195 618 m_L_law (.aload_n 1) 1 := ⟨hm_L_law, by decide +kernel⟩
theorem a_L_law_619 : zAt 195 619 m_L_law (.aload_n 0) 1 := ⟨hm_L_law, by decide +kernel⟩
theorem a_L_law_620 : zAt 195 620 m_L_law (.iload_n 3) 1 := ⟨hm_L_law, by decide +kernel⟩
theorem a_L_law_621 : zAt 195 621 m_L_law (.iconst 1) 1 := ⟨hm_L_law, by decide +kernel⟩
theorem a_L_law_622 : zAt 195 622 m_L_law (.iadd) 1 := ⟨hm_L_law, by decide +kernel⟩
theorem a_L_law_623 : zAt 195 623 m_L_law (.iaload) 1 := ⟨hm_L_law, by decide +kernel⟩
theorem a_L_law_624 : zAt 195 624 m_L_law (.aload_n 0) 1 := ⟨hm_L_law, by decide +kernel⟩
theorem a_L_law_625 : zAt 195 625 m_L_law (.iload_n 3) 1 := ⟨hm_L_law, by decide +kernel⟩
theorem a_L_law_626 : zAt 195 626 m_L_law (.iconst 2) 1 := ⟨hm_L_law, by decide +kernel⟩
theorem a_L_law_627 : zAt 195 627 m_L_law (.iadd) 1 := ⟨hm_L_law, by decide +kernel⟩
theorem a_L_law_628 : zAt 195 628 m_L_law (.iaload) 1 := ⟨hm_L_law, by decide +kernel⟩
theorem a_L_law_629 : zAt 195 629 m_L_law (.invokevirtual 66) 3 := ⟨hm_L_law, by decide +kernel⟩
theorem a_L_law_632 : zAt 195 632 m_L_law (.aload_n 2) 1 := ⟨hm_L_law, by decide +kernel⟩
theorem a_L_law_633 : zAt 195 633 m_L_law (.aload_n 0) 1 := ⟨hm_L_law, by decide +kernel⟩
theorem a_L_law_634 : zAt 195 634 m_L_law (.iload_n 3) 1 := ⟨hm_L_law, by decide +kernel⟩
theorem a_L_law_635 : zAt 195 635 m_L_law (.iconst 1) 1 := ⟨hm_L_law, by decide +kernel⟩
theorem a_L_law_636 : zAt 195 636 m_L_law (.iadd) 1 := ⟨hm_L_law, by decide +kernel⟩
theorem a_L_law_637 : zAt 195 637 m_L_law (.iaload) 1 := ⟨hm_L_law, by decide +kernel⟩
theorem a_L_law_638 : zAt 195 638 m_L_law (.aload_n 0) 1 := ⟨hm_L_law, by decide +kernel⟩
theorem a_L_law_639 : zAt 195 639 m_L_law (.iload_n 3) 1 := ⟨hm_L_law, by decide +kernel⟩
theorem a_L_law_640 : zAt 195 640 m_L_law (.iconst 2) 1 := ⟨hm_L_law, by decide +kernel⟩
theorem a_L_law_641 : zAt 195 641 m_L_law (.iadd) 1 := ⟨hm_L_law, by decide +kernel⟩
theorem a_L_law_642 : zAt 195 642 m_L_law (.iaload) 1 := ⟨hm_L_law, by decide +kernel⟩
theorem a_L_law_643 : zAt 195 643 m_L_law (.invokevirtual 69) 3 := ⟨hm_L_law, by decide +kernel⟩
theorem a_L_law_646 : zAt 195 646 m_L_law (.if_icmp .eq 479) 3 := ⟨hm_L_law, by decide +kernel⟩
theorem a_L_law_649 : zAt 195 649 m_L_law (.iconst 0) 1 := ⟨hm_L_law, by decide +kernel⟩
theorem a_L_law_650 : zAt 195 650 m_L_law (.ireturn) 1 := ⟨hm_L_law, by decide +kernel⟩
theorem a_L_law_651 : zAt 195 651 m_L_law (.aload_n 1) 1 := ⟨hm_L_law, by decide +kernel⟩
theorem a_L_law_652 : zAt 195 652 m_L_law (.aload_n 0) 1 := ⟨hm_L_law, by decide +kernel⟩
theorem a_L_law_653 : zAt 195 653 m_L_law (.iload_n 3) 1 := ⟨hm_L_law, by decide +kernel⟩
theorem a_L_law_654 : zAt 195 654 m_L_law (.iconst 1) 1 := ⟨hm_L_law, by decide +kernel⟩
theorem a_L_law_655 : zAt 195 655 m_L_law (.iadd) 1 := ⟨hm_L_law, by decide +kernel⟩
theorem a_L_law_656 : zAt 195 656 m_L_law (.iaload) 1 := ⟨hm_L_law, by decide +kernel⟩
theorem a_L_law_657 : zAt 195 657 m_L_law (.invokevirtual 70) 3 := ⟨hm_L_law, by decide +kernel⟩
theorem a_L_law_660 : zAt 195 660 m_L_law (.aload_n 2) 1 := ⟨hm_L_law, by decide +kernel⟩
theorem a_L_law_661 : zAt 195 661 m_L_law (.aload_n 0) 1 := ⟨hm_L_law, by decide +kernel⟩
theorem a_L_law_662 : zAt 195 662 m_L_law (.iload_n 3) 1 := ⟨hm_L_law, by decide +kernel⟩
theorem a_L_law_663 : zAt 195 663 m_L_law (.iconst 1) 1 := ⟨hm_L_law, by decide +kernel⟩
theorem a_L_law_664 : zAt 195 664 m_L_law (.iadd) 1 := ⟨hm_L_law, by decide +kernel⟩
theorem a_L_law_665 : zAt 195 665 m_L_law (.iaload) 1 := ⟨hm_L_law, by decide +kernel⟩
theorem a_L_law_666 : zAt 195 666 m_L_law (.invokevirtual 73) 3 := ⟨hm_L_law, by decide +kernel⟩
theorem a_L_law_669 : zAt 195 669 m_L_law (.if_icmp .eq 456) 3 := ⟨hm_L_law, by decide +kernel⟩
theorem a_L_law_672 : zAt 195 672 m_L_law (.iconst 0) 1 := ⟨hm_L_law, by decide +kernel⟩
theorem a_L_law_673 : zAt 195 673 m_L_law (.ireturn) 1 := ⟨hm_L_law, by decide +kernel⟩
theorem a_L_law_674 : zAt 195 674 m_L_law (.aload_n 1) 1 := ⟨hm_L_law, by decide +kernel⟩
theorem a_L_law_675 : zAt 195 675 m_L_law (.aload_n 0) 1 := ⟨hm_L_law, by decide +kernel⟩
theorem a_L_law_676 : zAt 195 676 m_L_law (.iload_n 3) 1 := ⟨hm_L_law, by decide +kernel⟩
theorem a_L_law_677 : zAt 195 677 m_L_law (.iconst 1) 1 := ⟨hm_L_law, by decide +kernel⟩
theorem a_L_law_678 : zAt 195 678 m_L_law (.iadd) 1 := ⟨hm_L_law, by decide +kernel⟩
theorem a_L_law_679 : zAt 195 679 m_L_law (.iaload) 1 := ⟨hm_L_law, by decide +kernel⟩
theorem a_L_law_680 : zAt 195 680 m_L_law (.invokevirtual 74) 3 := ⟨hm_L_law, by decide +kernel⟩
theorem a_L_law_683 : zAt 195 683 m_L_law (.aload_n 2) 1 := ⟨hm_L_law, by decide +kernel⟩
theorem a_L_law_684 : zAt 195 684 m_L_law (.aload_n 0) 1 := ⟨hm_L_law, by decide +kernel⟩
theorem a_L_law_685 : zAt 195 685 m_L_law (.iload_n 3) 1 := ⟨hm_L_law, by decide +kernel⟩
theorem a_L_law_686 : zAt 195 686 m_L_law (.iconst 1) 1 := ⟨hm_L_law, by decide +kernel⟩
theorem a_L_law_687 : zAt 195 687 m_L_law (.iadd) 1 := ⟨hm_L_law, by decide +kernel⟩
theorem a_L_law_688 : zAt 195 688 m_L_law (.iaload) 1 := ⟨hm_L_law, by decide +kernel⟩
theorem a_L_law_689 : zAt 195 689 m_L_law (.invokevirtual 77) 3 := ⟨hm_L_law, by decide +kernel⟩
theorem a_L_law_692 : zAt 195 692 m_L_law (.if_icmp .eq 433) 3 := ⟨hm_L_law, by decide +kernel⟩
theorem a_L_law_695 : zAt 195 695 m_L_law (.iconst 0) 1 := ⟨hm_L_law, by decide +kernel⟩
theorem a_L_law_696 : zAt 195 696 m_L_law (.ireturn) 1 := ⟨hm_L_law, by decide +kernel⟩
theorem a_L_law_697 : zAt 195 697 m_L_law (.aload_n 1) 1 := ⟨hm_L_law, by decide +kernel⟩
theorem a_L_law_698 : zAt 195 698 m_L_law (.aload_n 0) 1 := ⟨hm_L_law, by decide +kernel⟩
theorem a_L_law_699 : zAt 195 699 m_L_law (.iload_n 3) 1 := ⟨hm_L_law, by decide +kernel⟩
theorem a_L_law_700 : zAt 195 700 m_L_law (.iconst 1) 1 := ⟨hm_L_law, by decide +kernel⟩
theorem a_L_law_701 : zAt 195 701 m_L_law (.iadd) 1 := ⟨hm_L_law, by decide +kernel⟩
theorem a_L_law_702 : zAt 195 702 m_L_law (.iaload) 1 := ⟨hm_L_law, by decide +kernel⟩
theorem a_L_law_703 : zAt 195 703 m_L_law (.invokevirtual 78) 3 := ⟨hm_L_law, by decide +kernel⟩
theorem a_L_law_706 : zAt 195 706 m_L_law (.aload_n 2) 1 := ⟨hm_L_law, by decide +kernel⟩
theorem a_L_law_707 : zAt 195 707 m_L_law (.aload_n 0) 1 := ⟨hm_L_law, by decide +kernel⟩
theorem a_L_law_708 : zAt 195 708 m_L_law (.iload_n 3) 1 := ⟨hm_L_law, by decide +kernel⟩
theorem a_L_law_709 : zAt 195 709 m_L_law (.iconst 1) 1 := ⟨hm_L_law, by decide +kernel⟩
theorem a_L_law_710 : zAt 195 710 m_L_law (.iadd) 1 := ⟨hm_L_law, by decide +kernel⟩
theorem a_L_law_711 : zAt 195 711 m_L_law (.iaload) 1 := ⟨hm_L_law, by decide +kernel⟩
theorem a_L_law_712 : zAt 195 712 m_L_law (.invokevirtual 81) 3 := ⟨hm_L_law, by decide +kernel⟩
theorem a_L_law_715 : zAt 195 715 m_L_law (.if_icmp .eq 410) 3 := ⟨hm_L_law, by decide +kernel⟩
theorem a_L_law_718 : zAt 195 718 m_L_law (.iconst 0) 1 := ⟨hm_L_law, by decide +kernel⟩
theorem a_L_law_719 : zAt 195 719 m_L_law (.ireturn) 1 := ⟨hm_L_law, by decide +kernel⟩
theorem a_L_law_720 : zAt 195 720 m_L_law (.aload_n 1) 1 := ⟨hm_L_law, by decide +kernel⟩
theorem a_L_law_721 : zAt 195 721 m_L_law (.aload_n 0) 1 := ⟨hm_L_law, by decide +kernel⟩
theorem a_L_law_722 : zAt 195 722 m_L_law (.iload_n 3) 1 := ⟨hm_L_law, by decide +kernel⟩
theorem a_L_law_723 : zAt 195 723 m_L_law (.iconst 1) 1 := ⟨hm_L_law, by decide +kernel⟩
theorem a_L_law_724 : zAt 195 724 m_L_law (.iadd) 1 := ⟨hm_L_law, by decide +kernel⟩
theorem a_L_law_725 : zAt 195 725 m_L_law (.iaload) 1 := ⟨hm_L_law, by decide +kernel⟩
theorem a_L_law_726 : zAt 195 726 m_L_law (.invokevirtual 82) 3 := ⟨hm_L_law, by decide +kernel⟩
theorem a_L_law_729 : zAt 195 729 m_L_law (.aload_n 2) 1 := ⟨hm_L_law, by decide +kernel⟩
theorem a_L_law_730 : zAt 195 730 m_L_law (.aload_n 0) 1 := ⟨hm_L_law, by decide +kernel⟩
theorem a_L_law_731 : zAt 195 731 m_L_law (.iload_n 3) 1 := ⟨hm_L_law, by decide +kernel⟩
theorem a_L_law_732 : zAt 195 732 m_L_law (.iconst 1) 1 := ⟨hm_L_law, by decide +kernel⟩
theorem a_L_law_733 : zAt 195 733 m_L_law (.iadd) 1 := ⟨hm_L_law, by decide +kernel⟩
theorem a_L_law_734 : zAt 195 734 m_L_law (.iaload) 1 := ⟨hm_L_law, by decide +kernel⟩
theorem a_L_law_735 : zAt 195 735 m_L_law (.invokevirtual 85) 3 := ⟨hm_L_law, by decide +kernel⟩
theorem a_L_law_738 : zAt 195 738 m_L_law (.if_icmp .eq 387) 3 := ⟨hm_L_law, by decide +kernel⟩
theorem a_L_law_741 : zAt 195 741 m_L_law (.iconst 0) 1 := ⟨hm_L_law, by decide +kernel⟩
theorem a_L_law_742 : zAt 195 742 m_L_law (.ireturn) 1 := ⟨hm_L_law, by decide +kernel⟩
theorem a_L_law_743 : zAt 195 743 m_L_law (.aload_n 1) 1 := ⟨hm_L_law, by decide +kernel⟩
theorem a_L_law_744 : zAt 195 744 m_L_law (.aload_n 0) 1 := ⟨hm_L_law, by decide +kernel⟩
theorem a_L_law_745 : zAt 195 745 m_L_law (.iload_n 3) 1 := ⟨hm_L_law, by decide +kernel⟩
theorem a_L_law_746 : zAt 195 746 m_L_law (.iconst 1) 1 := ⟨hm_L_law, by decide +kernel⟩
theorem a_L_law_747 : zAt 195 747 m_L_law (.iadd) 1 := ⟨hm_L_law, by decide +kernel⟩
theorem a_L_law_748 : zAt 195 748 m_L_law (.iaload) 1 := ⟨hm_L_law, by decide +kernel⟩
theorem a_L_law_749 : zAt 195 749 m_L_law (.aload_n 0) 1 := ⟨hm_L_law, by decide +kernel⟩
theorem a_L_law_750 : zAt 195 750 m_L_law (.iload_n 3) 1 := ⟨hm_L_law, by decide +kernel⟩
theorem a_L_law_751 : zAt 195 751 m_L_law (.iconst 2) 1 := ⟨hm_L_law, by decide +kernel⟩
theorem a_L_law_752 : zAt 195 752 m_L_law (.iadd) 1 := ⟨hm_L_law, by decide +kernel⟩
theorem a_L_law_753 : zAt 195 753 m_L_law (.iaload) 1 := ⟨hm_L_law, by decide +kernel⟩
theorem a_L_law_754 : zAt 195 754 m_L_law (.invokevirtual 86) 3 := ⟨hm_L_law, by decide +kernel⟩
theorem a_L_law_757 : zAt 195 757 m_L_law (.aload_n 2) 1 := ⟨hm_L_law, by decide +kernel⟩
theorem a_L_law_758 : zAt 195 758 m_L_law (.aload_n 0) 1 := ⟨hm_L_law, by decide +kernel⟩
theorem a_L_law_759 : zAt 195 759 m_L_law (.iload_n 3) 1 := ⟨hm_L_law, by decide +kernel⟩
theorem a_L_law_760 : zAt 195 760 m_L_law (.iconst 1) 1 := ⟨hm_L_law, by decide +kernel⟩
theorem a_L_law_761 : zAt 195 761 m_L_law (.iadd) 1 := ⟨hm_L_law, by decide +kernel⟩
theorem a_L_law_762 : zAt 195 762 m_L_law (.iaload) 1 := ⟨hm_L_law, by decide +kernel⟩
theorem a_L_law_763 : zAt 195 763 m_L_law (.aload_n 0) 1 := ⟨hm_L_law, by decide +kernel⟩
theorem a_L_law_764 : zAt 195 764 m_L_law (.iload_n 3) 1 := ⟨hm_L_law, by decide +kernel⟩
theorem a_L_law_765 : zAt 195 765 m_L_law (.iconst 2) 1 := ⟨hm_L_law, by decide +kernel⟩
theorem a_L_law_766 : zAt 195 766 m_L_law (.iadd) 1 := ⟨hm_L_law, by decide +kernel⟩
theorem a_L_law_767 : zAt 195 767 m_L_law (.iaload) 1 := ⟨hm_L_law, by decide +kernel⟩
theorem a_L_law_768 : zAt 195 768 m_L_law (.invokevirtual 89) 3 := ⟨hm_L_law, by decide +kernel⟩
theorem a_L_law_771 : zAt 195 771 m_L_law (.if_icmp .eq 354) 3 := ⟨hm_L_law, by decide +kernel⟩
theorem a_L_law_774 : zAt 195 774 m_L_law (.iconst 0) 1 := ⟨hm_L_law, by decide +kernel⟩
theorem a_L_law_775 : zAt 195 775 m_L_law (.ireturn) 1 := ⟨hm_L_law, by decide +kernel⟩
theorem a_L_law_776 : zAt 195 776 m_L_law (.aload_n 1) 1 := ⟨hm_L_law, by decide +kernel⟩
theorem a_L_law_777 : zAt 195 777 m_L_law (.aload_n 0) 1 := ⟨hm_L_law, by decide +kernel⟩
theorem a_L_law_778 : zAt 195 778 m_L_law (.iload_n 3) 1 := ⟨hm_L_law, by decide +kernel⟩
theorem a_L_law_779 : zAt 195 779 m_L_law (.iconst 1) 1 := ⟨hm_L_law, by decide +kernel⟩
theorem a_L_law_780 : zAt 195 780 m_L_law (.iadd) 1 := ⟨hm_L_law, by decide +kernel⟩
theorem a_L_law_781 : zAt 195 781 m_L_law (.iaload) 1 := ⟨hm_L_law, by decide +kernel⟩
theorem a_L_law_782 : zAt 195 782 m_L_law (.invokevirtual 90) 3 := ⟨hm_L_law, by decide +kernel⟩
theorem a_L_law_785 : zAt 195 785 m_L_law (.aload_n 2) 1 := ⟨hm_L_law, by decide +kernel⟩
theorem a_L_law_786 : zAt 195 786 m_L_law (.aload_n 0) 1 := ⟨hm_L_law, by decide +kernel⟩
theorem a_L_law_787 : zAt 195 787 m_L_law (.iload_n 3) 1 := ⟨hm_L_law, by decide +kernel⟩
theorem a_L_law_788 : zAt 195 788 m_L_law (.iconst 1) 1 := ⟨hm_L_law, by decide +kernel⟩
theorem a_L_law_789 : zAt 195 789 m_L_law (.iadd) 1 := ⟨hm_L_law, by decide +kernel⟩
theorem a_L_law_790 : zAt 195 790 m_L_law (.iaload) 1 := ⟨hm_L_law, by decide +kernel⟩
theorem a_L_law_791 : zAt 195 791 m_L_law (.invokevirtual 93) 3 := ⟨hm_L_law, by decide +kernel⟩
theorem a_L_law_794 : zAt 195 794 m_L_law (.if_icmp .eq 331) 3 := ⟨hm_L_law, by decide +kernel⟩
theorem a_L_law_797 : zAt 195 797 m_L_law (.iconst 0) 1 := ⟨hm_L_law, by decide +kernel⟩
theorem a_L_law_798 : zAt 195 798 m_L_law (.ireturn) 1 := ⟨hm_L_law, by decide +kernel⟩
theorem a_L_law_799 : zAt 195 799 m_L_law (.aload_n 1) 1 := ⟨hm_L_law, by decide +kernel⟩
theorem a_L_law_800 : zAt 195 800 m_L_law (.aload_n 0) 1 := ⟨hm_L_law, by decide +kernel⟩
theorem a_L_law_801 : zAt 195 801 m_L_law (.iload_n 3) 1 := ⟨hm_L_law, by decide +kernel⟩
theorem a_L_law_802 : zAt 195 802 m_L_law (.iconst 1) 1 := ⟨hm_L_law, by decide +kernel⟩
theorem a_L_law_803 : zAt 195 803 m_L_law (.iadd) 1 := ⟨hm_L_law, by decide +kernel⟩
theorem a_L_law_804 : zAt 195 804 m_L_law (.iaload) 1 := ⟨hm_L_law, by decide +kernel⟩
theorem a_L_law_805 : zAt 195 805 m_L_law (.invokevirtual 94) 3 := ⟨hm_L_law, by decide +kernel⟩
theorem a_L_law_808 : zAt 195 808 m_L_law (.aload_n 2) 1 := ⟨hm_L_law, by decide +kernel⟩
theorem a_L_law_809 : zAt 195 809 m_L_law (.aload_n 0) 1 := ⟨hm_L_law, by decide +kernel⟩
theorem a_L_law_810 : zAt 195 810 m_L_law (.iload_n 3) 1 := ⟨hm_L_law, by decide +kernel⟩
theorem a_L_law_811 : zAt 195 811 m_L_law (.iconst 1) 1 := ⟨hm_L_law, by decide +kernel⟩
theorem a_L_law_812 : zAt 195 812 m_L_law (.iadd) 1 := ⟨hm_L_law, by decide +kernel⟩
theorem a_L_law_813 : zAt 195 813 m_L_law (.iaload) 1 := ⟨hm_L_law, by decide +kernel⟩
theorem a_L_law_814 : zAt 195 814 m_L_law (.invokevirtual 97) 3 := ⟨hm_L_law, by decide +kernel⟩
theorem a_L_law_817 : zAt 195 817 m_L_law (.if_icmp .eq 308) 3 := ⟨hm_L_law, by decide +kernel⟩
theorem a_L_law_820 : zAt 195 820 m_L_law (.iconst 0) 1 := ⟨hm_L_law, by decide +kernel⟩
theorem a_L_law_821 : zAt 195 821 m_L_law (.ireturn) 1 := ⟨hm_L_law, by decide +kernel⟩
theorem a_L_law_822 : zAt 195 822 m_L_law (.aload_n 1) 1 := ⟨hm_L_law, by decide +kernel⟩
theorem a_L_law_823 : zAt 195 823 m_L_law (.aload_n 0) 1 := ⟨hm_L_law, by decide +kernel⟩
theorem a_L_law_824 : zAt 195 824 m_L_law (.iload_n 3) 1 := ⟨hm_L_law, by decide +kernel⟩
theorem a_L_law_825 : zAt 195 825 m_L_law (.iconst 1) 1 := ⟨hm_L_law, by decide +kernel⟩
theorem a_L_law_826 : zAt 195 826 m_L_law (.iadd) 1 := ⟨hm_L_law, by decide +kernel⟩
theorem a_L_law_827 : zAt 195 827 m_L_law (.iaload) 1 := ⟨hm_L_law, by decide +kernel⟩
theorem a_L_law_828 : zAt 195 828 m_L_law (.invokevirtual 98) 3 := ⟨hm_L_law, by decide +kernel⟩
theorem a_L_law_831 : zAt 195 831 m_L_law (.aload_n 2) 1 := ⟨hm_L_law, by decide +kernel⟩
theorem a_L_law_832 : zAt 195 832 m_L_law (.aload_n 0) 1 := ⟨hm_L_law, by decide +kernel⟩
theorem a_L_law_833 : zAt 195 833 m_L_law (.iload_n 3) 1 := ⟨hm_L_law, by decide +kernel⟩
theorem a_L_law_834 : zAt 195 834 m_L_law (.iconst 1) 1 := ⟨hm_L_law, by decide +kernel⟩
theorem a_L_law_835 : zAt 195 835 m_L_law (.iadd) 1 := ⟨hm_L_law, by decide +kernel⟩
theorem a_L_law_836 : zAt 195 836 m_L_law (.iaload) 1 := ⟨hm_L_law, by decide +kernel⟩
theorem a_L_law_837 : zAt 195 837 m_L_law (.invokevirtual 101) 3 := ⟨hm_L_law, by decide +kernel⟩
theorem a_L_law_840 : zAt 195 840 m_L_law (.if_icmp .eq 285) 3 := ⟨hm_L_law, by decide +kernel⟩
theorem a_L_law_843 : zAt 195 843 m_L_law (.iconst 0) 1 := ⟨hm_L_law, by decide +kernel⟩
theorem a_L_law_844 : zAt 195 844 m_L_law (.ireturn) 1 := ⟨hm_L_law, by decide +kernel⟩
theorem a_L_law_845 : zAt 195 845 m_L_law (.aload_n 1) 1 := ⟨hm_L_law, by decide +kernel⟩
theorem a_L_law_846 : zAt 195 846 m_L_law (.invokevirtual 102) 3 := ⟨hm_L_law, by decide +kernel⟩
theorem a_L_law_849 : zAt 195 849 m_L_law (.aload_n 2) 1 := ⟨hm_L_law, by decide +kernel⟩
theorem a_L_law_850 : zAt 195 850 m_L_law (.invokevirtual 106) 3 := ⟨hm_L_law, by decide +kernel⟩
theorem a_L_law_853 : zAt 195 853 m_L_law (.if_icmp .eq 272) 3 := ⟨hm_L_law, by decide +kernel⟩
theorem a_L_law_856 : zAt 195 856 m_L_law (.iconst 0) 1 := ⟨hm_L_law, by decide +kernel⟩
theorem a_L_law_857 : zAt 195 857 m_L_law (.ireturn) 1 := ⟨hm_L_law, by decide +kernel⟩
theorem a_L_law_858 : zAt 195 858 m_L_law (.aload_n 1) 1 := ⟨hm_L_law, by decide +kernel⟩
theorem a_L_law_859 : zAt 195 859 m_L_law (.aload_n 0) 1 := ⟨hm_L_law, by decide +kernel⟩
theorem a_L_law_860 : zAt 195 860 m_L_law (.iload_n 3) 1 := ⟨hm_L_law, by decide +kernel⟩
theorem a_L_law_861 : zAt 195 861 m_L_law (.iconst 1) 1 := ⟨hm_L_law, by decide +kernel⟩
theorem a_L_law_862 : zAt 195 862 m_L_law (.iadd) 1 := ⟨hm_L_law, by decide +kernel⟩
theorem a_L_law_863 : zAt 195 863 m_L_law (.iaload) 1 := ⟨hm_L_law, by decide +kernel⟩
theorem a_L_law_864 : zAt 195 864 m_L_law (.invokevirtual 107) 3 := ⟨hm_L_law, by decide +kernel⟩
theorem a_L_law_867 : zAt 195 867 m_L_law (.aload_n 2) 1 := ⟨hm_L_law, by decide +kernel⟩
theorem a_L_law_868 : zAt 195 868 m_L_law (.aload_n 0) 1 := ⟨hm_L_law, by decide +kernel⟩
theorem a_L_law_869 : zAt 195 869 m_L_law (.iload_n 3) 1 := ⟨hm_L_law, by decide +kernel⟩
theorem a_L_law_870 : zAt 195 870 m_L_law (.iconst 1) 1 := ⟨hm_L_law, by decide +kernel⟩
theorem a_L_law_871 : zAt 195 871 m_L_law (.iadd) 1 := ⟨hm_L_law, by decide +kernel⟩
theorem a_L_law_872 : zAt 195 872 m_L_law (.iaload) 1 := ⟨hm_L_law, by decide +kernel⟩
theorem a_L_law_873 : zAt 195 873 m_L_law (.invokevirtual 110) 3 := ⟨hm_L_law, by decide +kernel⟩
theorem a_L_law_876 : zAt 195 876 m_L_law (.if_icmp .eq 249) 3 := ⟨hm_L_law, by decide +kernel⟩
theorem a_L_law_879 : zAt 195 879 m_L_law (.iconst 0) 1 := ⟨hm_L_law, by decide +kernel⟩
theorem a_L_law_880 : zAt 195 880 m_L_law (.ireturn) 1 := ⟨hm_L_law, by decide +kernel⟩
theorem a_L_law_881 : zAt 195 881 m_L_law (.aload_n 1) 1 := ⟨hm_L_law, by decide +kernel⟩
theorem a_L_law_882 : zAt 195 882 m_L_law (.aload_n 0) 1 := ⟨hm_L_law, by decide +kernel⟩
theorem a_L_law_883 : zAt 195 883 m_L_law (.iload_n 3) 1 := ⟨hm_L_law, by decide +kernel⟩
theorem a_L_law_884 : zAt 195 884 m_L_law (.iconst 1) 1 := ⟨hm_L_law, by decide +kernel⟩
theorem a_L_law_885 : zAt 195 885 m_L_law (.iadd) 1 := ⟨hm_L_law, by decide +kernel⟩
theorem a_L_law_886 : zAt 195 886 m_L_law (.iaload) 1 := ⟨hm_L_law, by decide +kernel⟩
theorem a_L_law_887 : zAt 195 887 m_L_law (.invokevirtual 111) 3 := ⟨hm_L_law, by decide +kernel⟩
theorem a_L_law_890 : zAt 195 890 m_L_law (.aload_n 2) 1 := ⟨hm_L_law, by decide +kernel⟩
theorem a_L_law_891 : zAt 195 891 m_L_law (.aload_n 0) 1 := ⟨hm_L_law, by decide +kernel⟩
theorem a_L_law_892 : zAt 195 892 m_L_law (.iload_n 3) 1 := ⟨hm_L_law, by decide +kernel⟩
theorem a_L_law_893 : zAt 195 893 m_L_law (.iconst 1) 1 := ⟨hm_L_law, by decide +kernel⟩
theorem a_L_law_894 : zAt 195 894 m_L_law (.iadd) 1 := ⟨hm_L_law, by decide +kernel⟩
theorem a_L_law_895 : zAt 195 895 m_L_law (.iaload) 1 := ⟨hm_L_law, by decide +kernel⟩
theorem a_L_law_896 : zAt 195 896 m_L_law (.invokevirtual 114) 3 := ⟨hm_L_law, by decide +kernel⟩
theorem a_L_law_899 : zAt 195 899 m_L_law (.if_icmp .eq 226) 3 := ⟨hm_L_law, by decide +kernel⟩
theorem a_L_law_902 : zAt 195 902 m_L_law (.iconst 0) 1 := ⟨hm_L_law, by decide +kernel⟩
theorem a_L_law_903 : zAt 195 903 m_L_law (.ireturn) 1 := ⟨hm_L_law, by decide +kernel⟩
theorem a_L_law_904 : zAt 195 904 m_L_law (.aload_n 1) 1 := ⟨hm_L_law, by decide +kernel⟩
theorem a_L_law_905 : zAt 195 905 m_L_law (.aload_n 0) 1 := ⟨hm_L_law, by decide +kernel⟩
theorem a_L_law_906 : zAt 195 906 m_L_law (.iload_n 3) 1 := ⟨hm_L_law, by decide +kernel⟩
theorem a_L_law_907 : zAt 195 907 m_L_law (.iconst 1) 1 := ⟨hm_L_law, by decide +kernel⟩
theorem a_L_law_908 : zAt 195 908 m_L_law (.iadd) 1 := ⟨hm_L_law, by decide +kernel⟩
theorem a_L_law_909 : zAt 195 909 m_L_law (.iaload) 1 := ⟨hm_L_law, by decide +kernel⟩
theorem a_L_law_910 : zAt 195 910 m_L_law (.invokevirtual 115) 3 := ⟨hm_L_law, by decide +kernel⟩
theorem a_L_law_913 : zAt 195 913 m_L_law (.aload_n 2) 1 := ⟨hm_L_law, by decide +kernel⟩
theorem a_L_law_914 : zAt 195 914 m_L_law (.aload_n 0) 1 := ⟨hm_L_law, by decide +kernel⟩
theorem a_L_law_915 : zAt 195 915 m_L_law (.iload_n 3) 1 := ⟨hm_L_law, by decide +kernel⟩
theorem a_L_law_916 : zAt 195 916 m_L_law (.iconst 1) 1 := ⟨hm_L_law, by decide +kernel⟩
theorem a_L_law_917 : zAt 195 917 m_L_law (.iadd) 1 := ⟨hm_L_law, by decide +kernel⟩
theorem a_L_law_918 : zAt 195 918 m_L_law (.iaload) 1 := ⟨hm_L_law, by decide +kernel⟩
theorem a_L_law_919 : zAt 195 919 m_L_law (.invokevirtual 118) 3 := ⟨hm_L_law, by decide +kernel⟩
theorem a_L_law_922 : zAt 195 922 m_L_law (.if_icmp .eq 203) 3 := ⟨hm_L_law, by decide +kernel⟩
theorem a_L_law_925 : zAt 195 925 m_L_law (.iconst 0) 1 := ⟨hm_L_law, by decide +kernel⟩
theorem a_L_law_926 : zAt 195 926 m_L_law (.ireturn) 1 := ⟨hm_L_law, by decide +kernel⟩
theorem a_L_law_927 : zAt 195 927 m_L_law (.aload_n 1) 1 := ⟨hm_L_law, by decide +kernel⟩
theorem a_L_law_928 : zAt 195 928 m_L_law (.aload_n 0) 1 := ⟨hm_L_law, by decide +kernel⟩
theorem a_L_law_929 : zAt 195 929 m_L_law (.iload_n 3) 1 := ⟨hm_L_law, by decide +kernel⟩
theorem a_L_law_930 : zAt 195 930 m_L_law (.iconst 1) 1 := ⟨hm_L_law, by decide +kernel⟩
theorem a_L_law_931 : zAt 195 931 m_L_law (.iadd) 1 := ⟨hm_L_law, by decide +kernel⟩
theorem a_L_law_932 : zAt 195 932 m_L_law (.iaload) 1 := ⟨hm_L_law, by decide +kernel⟩
theorem a_L_law_933 : zAt 195 933 m_L_law (.ifCond .eq 7) 3 := ⟨hm_L_law, by decide +kernel⟩
theorem a_L_law_936 : zAt 195 936 m_L_law (.iconst 1) 1 := ⟨hm_L_law, by decide +kernel⟩
theorem a_L_law_937 : zAt 195 937 m_L_law (.goto 4) 3 := ⟨hm_L_law, by decide +kernel⟩
theorem a_L_law_940 : zAt 195 940 m_L_law (.iconst 0) 1 := ⟨hm_L_law, by decide +kernel⟩
theorem a_L_law_941 : zAt 195 941 m_L_law (.invokevirtual 119) 3 := ⟨hm_L_law, by decide +kernel⟩
theorem a_L_law_944 : zAt 195 944 m_L_law (.aload_n 2) 1 := ⟨hm_L_law, by decide +kernel⟩
theorem a_L_law_945 : zAt 195 945 m_L_law (.aload_n 0) 1 := ⟨hm_L_law, by decide +kernel⟩
theorem a_L_law_946 : zAt 195 946 m_L_law (.iload_n 3) 1 := ⟨hm_L_law, by decide +kernel⟩
theorem a_L_law_947 : zAt 195 947 m_L_law (.iconst 1) 1 := ⟨hm_L_law, by decide +kernel⟩
theorem a_L_law_948 : zAt 195 948 m_L_law (.iadd) 1 := ⟨hm_L_law, by decide +kernel⟩
theorem a_L_law_949 : zAt 195 949 m_L_law (.iaload) 1 := ⟨hm_L_law, by decide +kernel⟩
theorem a_L_law_950 : zAt 195 950 m_L_law (.ifCond .eq 7) 3 := ⟨hm_L_law, by decide +kernel⟩
theorem a_L_law_953 : zAt 195 953 m_L_law (.iconst 1) 1 := ⟨hm_L_law, by decide +kernel⟩
theorem a_L_law_954 : zAt 195 954 m_L_law (.goto 4) 3 := ⟨hm_L_law, by decide +kernel⟩
theorem a_L_law_957 : zAt 195 957 m_L_law (.iconst 0) 1 := ⟨hm_L_law, by decide +kernel⟩
theorem a_L_law_958 : zAt 195 958 m_L_law (.invokevirtual 123) 3 := ⟨hm_L_law, by decide +kernel⟩
theorem a_L_law_961 : zAt 195 961 m_L_law (.if_icmp .eq 164) 3 := ⟨hm_L_law, by decide +kernel⟩
theorem a_L_law_964 : zAt 195 964 m_L_law (.iconst 0) 1 := ⟨hm_L_law, by decide +kernel⟩
theorem a_L_law_965 : zAt 195 965 m_L_law (.ireturn) 1 := ⟨hm_L_law, by decide +kernel⟩
theorem a_L_law_966 : zAt 195 966 m_L_law (.aload_n 1) 1 := ⟨hm_L_law, by decide +kernel⟩
theorem a_L_law_967 : zAt 195 967 m_L_law (.aload_n 0) 1 := ⟨hm_L_law, by decide +kernel⟩
theorem a_L_law_968 : zAt 195 968 m_L_law (.iload_n 3) 1 := ⟨hm_L_law, by decide +kernel⟩
theorem a_L_law_969 : zAt 195 969 m_L_law (.iconst 1) 1 := ⟨hm_L_law, by decide +kernel⟩
theorem a_L_law_970 : zAt 195 970 m_L_law (.iadd) 1 := ⟨hm_L_law, by decide +kernel⟩
theorem a_L_law_971 : zAt 195 971 m_L_law (.iaload) 1 := ⟨hm_L_law, by decide +kernel⟩
theorem a_L_law_972 : zAt 195 972 m_L_law (.invokevirtual 124) 3 := ⟨hm_L_law, by decide +kernel⟩
theorem a_L_law_975 : zAt 195 975 m_L_law (.aload_n 2) 1 := ⟨hm_L_law, by decide +kernel⟩
theorem a_L_law_976 : zAt 195 976 m_L_law (.aload_n 0) 1 := ⟨hm_L_law, by decide +kernel⟩
theorem a_L_law_977 : zAt 195 977 m_L_law (.iload_n 3) 1 := ⟨hm_L_law, by decide +kernel⟩
theorem a_L_law_978 : zAt 195 978 m_L_law (.iconst 1) 1 := ⟨hm_L_law, by decide +kernel⟩
theorem a_L_law_979 : zAt 195 979 m_L_law (.iadd) 1 := ⟨hm_L_law, by decide +kernel⟩
theorem a_L_law_980 : zAt 195 980 m_L_law (.iaload) 1 := ⟨hm_L_law, by decide +kernel⟩
theorem a_L_law_981 : zAt 195 981 m_L_law (.invokevirtual 127) 3 := ⟨hm_L_law, by decide +kernel⟩
theorem a_L_law_984 : zAt 195 984 m_L_law (.if_icmp .eq 141) 3 := ⟨hm_L_law, by decide +kernel⟩
theorem a_L_law_987 : zAt 195 987 m_L_law (.iconst 0) 1 := ⟨hm_L_law, by decide +kernel⟩
theorem a_L_law_988 : zAt 195 988 m_L_law (.ireturn) 1 := ⟨hm_L_law, by decide +kernel⟩
theorem a_L_law_989 : zAt 195 989 m_L_law (.aload_n 1) 1 := ⟨hm_L_law, by decide +kernel⟩
theorem a_L_law_990 : zAt 195 990 m_L_law (.invokevirtual 128) 3 := ⟨hm_L_law, by decide +kernel⟩
theorem a_L_law_993 : zAt 195 993 m_L_law (.aload_n 2) 1 := ⟨hm_L_law, by decide +kernel⟩
theorem a_L_law_994 : zAt 195 994 m_L_law (.invokevirtual 131) 3 := ⟨hm_L_law, by decide +kernel⟩
theorem a_L_law_997 : zAt 195 997 m_L_law (.if_icmp .eq 128) 3 := ⟨hm_L_law, by decide +kernel⟩
theorem a_L_law_1000 : zAt 195 1000 m_L_law (.iconst 0) 1 := ⟨hm_L_law, by decide +kernel⟩
theorem a_L_law_1001 : zAt 195 1001 m_L_law (.ireturn) 1 := ⟨hm_L_law, by decide +kernel⟩
theorem a_L_law_1002 : zAt 195 1002 m_L_law (.aload_n 1) 1 := ⟨hm_L_law, by decide +kernel⟩
theorem a_L_law_1003 : zAt 195 1003 m_L_law (.invokevirtual 132) 3 := ⟨hm_L_law, by decide +kernel⟩
theorem a_L_law_1006 : zAt 195 1006 m_L_law (.dstore 4) 2 := ⟨hm_L_law, by decide +kernel⟩
theorem a_L_law_1008 : zAt 195 1008 m_L_law (.aload_n 2) 1 := ⟨hm_L_law, by decide +kernel⟩
theorem a_L_law_1009 : zAt 195 1009 m_L_law (.invokevirtual 136) 3 := ⟨hm_L_law, by decide +kernel⟩
theorem a_L_law_1012 : zAt 195 1012 m_L_law (.dstore 6) 2 := ⟨hm_L_law, by decide +kernel⟩
theorem a_L_law_1014 : zAt 195 1014 m_L_law (.dload 4) 2 := ⟨hm_L_law, by decide +kernel⟩
theorem a_L_law_1016 : zAt 195 1016 m_L_law (.dload 6) 2 := ⟨hm_L_law, by decide +kernel⟩
theorem a_L_law_1018 : zAt 195 1018 m_L_law (.dcmp .l) 1 := ⟨hm_L_law, by decide +kernel⟩
theorem a_L_law_1019 : zAt 195 1019 m_L_law (.ifCond .eq 21) 3 := ⟨hm_L_law, by decide +kernel⟩
theorem a_L_law_1022 : zAt 195 1022 m_L_law (.dload 4) 2 := ⟨hm_L_law, by decide +kernel⟩
theorem a_L_law_1024 : zAt 195 1024 m_L_law (.dload 4) 2 := ⟨hm_L_law, by decide +kernel⟩
theorem a_L_law_1026 : zAt 195 1026 m_L_law (.dcmp .l) 1 := ⟨hm_L_law, by decide +kernel⟩
theorem a_L_law_1027 : zAt 195 1027 m_L_law (.ifCond .eq 11) 3 := ⟨hm_L_law, by decide +kernel⟩
theorem a_L_law_1030 : zAt 195 1030 m_L_law (.dload 6) 2 := ⟨hm_L_law, by decide +kernel⟩
theorem a_L_law_1032 : zAt 195 1032 m_L_law (.dload 6) 2 := ⟨hm_L_law, by decide +kernel⟩
theorem a_L_law_1034 : zAt 195 1034 m_L_law (.dcmp .l) 1 := ⟨hm_L_law, by decide +kernel⟩
theorem a_L_law_1035 : zAt 195 1035 m_L_law (.ifCond .ne 5) 3 := ⟨hm_L_law, by decide +kernel⟩
theorem a_L_law_1038 : zAt 195 1038 m_L_law (.iconst 0) 1 := ⟨hm_L_law, by decide +kernel⟩
theorem a_L_law_1039 : zAt 195 1039 m_L_law (.ireturn) 1 := ⟨hm_L_law, by decide +kernel⟩
theorem a_L_law_1040 : zAt 195 1040 m_L_law (.goto 85) 3 := ⟨hm_L_law, by decide +kernel⟩
theorem a_L_law_1043 : zAt 195 1043 m_L_law (.aload_n 1) 1 := ⟨hm_L_law, by decide +kernel⟩
theorem a_L_law_1044 : zAt 195 1044 m_L_law (.invokevirtual 137) 3 := ⟨hm_L_law, by decide +kernel⟩
theorem a_L_law_1047 : zAt 195 1047 m_L_law (.f2d) 1 := ⟨hm_L_law, by decide +kernel⟩
theorem a_L_law_1048 : zAt 195 1048 m_L_law (.dstore 4) 2 := ⟨hm_L_law, by decide +kernel⟩
theorem a_L_law_1050 : zAt 195 1050 m_L_law (.aload_n 2) 1 := ⟨hm_L_law, by decide +kernel⟩
theorem a_L_law_1051 : zAt 195 1051 m_L_law (.invokevirtual 141) 3 := ⟨hm_L_law, by decide +kernel⟩
theorem a_L_law_1054 : zAt 195 1054 m_L_law (.f2d) 1 := ⟨hm_L_law, by decide +kernel⟩
theorem a_L_law_1055 : zAt 195 1055 m_L_law (.dstore 6) 2 := ⟨hm_L_law, by decide +kernel⟩
theorem a_L_law_1057 : zAt 195 1057 m_L_law (.dload 4) 2 := ⟨hm_L_law, by decide +kernel⟩
theorem a_L_law_1059 : zAt 195 1059 m_L_law (.dload 6) 2 := ⟨hm_L_law, by decide +kernel⟩
theorem a_L_law_1061 : zAt 195 1061 m_L_law (.dcmp .l) 1 := ⟨hm_L_law, by decide +kernel⟩
theorem a_L_law_1062 : zAt 195 1062 m_L_law (.ifCond .eq 21) 3 := ⟨hm_L_law, by decide +kernel⟩
theorem a_L_law_1065 : zAt 195 1065 m_L_law (.dload 4) 2 := ⟨hm_L_law, by decide +kernel⟩
theorem a_L_law_1067 : zAt 195 1067 m_L_law (.dload 4) 2 := ⟨hm_L_law, by decide +kernel⟩
theorem a_L_law_1069 : zAt 195 1069 m_L_law (.dcmp .l) 1 := ⟨hm_L_law, by decide +kernel⟩
theorem a_L_law_1070 : zAt 195 1070 m_L_law (.ifCond .eq 11) 3 := ⟨hm_L_law, by decide +kernel⟩
theorem a_L_law_1073 : zAt 195 1073 m_L_law (.dload 6) 2 := ⟨hm_L_law, by decide +kernel⟩
theorem a_L_law_1075 : zAt 195 1075 m_L_law (.dload 6) 2 := ⟨hm_L_law, by decide +kernel⟩
theorem a_L_law_1077 : zAt 195 1077 m_L_law (.dcmp .l) 1 := ⟨hm_L_law, by decide +kernel⟩
theorem a_L_law_1078 : zAt 195 1078 m_L_law (.ifCond .ne 5) 3 := ⟨hm_L_law, by decide +kernel⟩
theorem a_L_law_1081 : zAt 195 1081 m_L_law (.iconst 0) 1 := ⟨hm_L_law, by decide +kernel⟩
theorem a_L_law_1082 : zAt 195 1082 m_L_law (.ireturn) 1 := ⟨hm_L_law, by decide +kernel⟩
theorem a_L_law_1083 : zAt 195 1083 m_L_law (.goto 42) 3 := ⟨hm_L_law, by decide +kernel⟩
theorem a_L_law_1086 : zAt 195 1086 m_L_law (.aload_n 1) 1 := ⟨hm_L_law, by decide +kernel⟩
theorem a_L_law_1087 : zAt 195 1087 m_L_law (.invokevirtual 142) 3 := ⟨hm_L_law, by decide +kernel⟩
theorem a_L_law_1090 : zAt 195 1090 m_L_law (.aload_n 2) 1 := ⟨hm_L_law, by decide +kernel⟩
theorem a_L_law_1091 : zAt 195 1091 m_L_law (.invokevirtual 145) 3 := ⟨hm_L_law, by decide +kernel⟩
theorem a_L_law_1094 : zAt 195 1094 m_L_law (.if_icmp .eq 31) 3 := ⟨hm_L_law, by decide +kernel⟩
theorem a_L_law_1097 : zAt 195 1097 m_L_law (.iconst 0) 1 := ⟨hm_L_law, by decide +kernel⟩
theorem a_L_law_1098 : zAt 195 1098 m_L_law (.ireturn) 1 := ⟨hm_L_law, by decide +kernel⟩
theorem a_L_law_1099 : zAt 195 1099 m_L_law (.aload_n 1) 1 := ⟨hm_L_law, by decide +kernel⟩
theorem a_L_law_1100 : zAt 195 1100 m_L_law (.invokevirtual 146) 3 := ⟨hm_L_law, by decide +kernel⟩
theorem a_L_law_1103 : zAt 195 1103 m_L_law (.aload_n 2) 1 := ⟨hm_L_law, by decide +kernel⟩
theorem a_L_law_1104 : zAt 195 1104 m_L_law (.invokevirtual 149) 3 := ⟨hm_L_law, by decide +kernel⟩
theorem a_L_law_1107 : zAt 195 1107 m_L_law (.if_icmp .eq 18) 3 := ⟨hm_L_law, by decide +kernel⟩
theorem a_L_law_1110 : zAt 195 1110 m_L_law (.iconst 0) 1 := ⟨hm_L_law, by decide +kernel⟩
theorem a_L_law_1111 : zAt 195 1111 m_L_law (.ireturn) 1 := ⟨hm_L_law, by decide +kernel⟩
theorem a_L_law_1112 : zAt 195 1112 m_L_law (.aload_n 1) 1 := ⟨hm_L_law, by decide +kernel⟩
theorem a_L_law_1113 : zAt 195 1113 m_L_law (.invokevirtual 150) 3 := ⟨hm_L_law, by decide +kernel⟩
theorem a_L_law_1116 : zAt 195 1116 m_L_law (.aload_n 2) 1 := ⟨hm_L_law, by decide +kernel⟩
theorem a_L_law_1117 : zAt 195 1117 m_L_law (.invokevirtual 153) 3 := ⟨hm_L_law, by decide +kernel⟩
theorem a_L_law_1120 : zAt 195 1120 m_L_law (.if_icmp .eq 5) 3 := ⟨hm_L_law, by decide +kernel⟩
theorem a_L_law_1123 : zAt 195 1123 m_L_law (.iconst 0) 1 := ⟨hm_L_law, by decide +kernel⟩
theorem a_L_law_1124 : zAt 195 1124 m_L_law (.ireturn) 1 := ⟨hm_L_law, by decide +kernel⟩
theorem a_L_law_1125 : zAt 195 1125 m_L_law (.iinc 3 7) 3 := ⟨hm_L_law, by decide +kernel⟩
theorem a_L_law_1128 : zAt 195 1128 m_L_law (.goto (-1110)) 3 := ⟨hm_L_law, by decide +kernel⟩
theorem a_L_law_1131 : zAt 195 1131 m_L_law (.iconst 1) 1 := ⟨hm_L_law, by decide +kernel⟩
theorem a_L_law_1132 : zAt 195 1132 m_L_law (.ireturn) 1 := ⟨hm_L_law, by decide +kernel⟩
theorem B_L_law_18 {G : Nat → Nat → Int32} {x3 : Int32} {v4 v6 : Value} (z29_0 : (¬ (((G 2000001 0) - 7) < x3)) → 0 ≤ x3 ∧ x3 < G 2000001 0) : zden 195 18 [.ref 2000000, .ref 0, .ref 90, .int x3, v4, .retAddr 0, v6, .retAddr 0] [] (zSH, G) = if ((G 2000001 0) - 7) < x3 then some (some (.int 1), (zSH, G)) else if ((G 2000000 x3.toNatClampNeg) &&& 63) = 0 then zden 195 180 [.ref 2000000, .ref 0, .ref 90, .int x3, v4, .retAddr 0, v6, .retAddr 0] [] (zSH, G) else if ((G 2000000 x3.toNatClampNeg) &&& 63) = 1 then zden 195 243 [.ref 2000000, .ref 0, .ref 90, .int x3, v4, .retAddr 0, v6, .retAddr 0] [] (zSH, G) else if ((G 2000000 x3.toNatClampNeg) &&& 63) = 2 then zden 195 266 [.ref 2000000, .ref 0, .ref 90, .int x3, v4, .retAddr 0, v6, .retAddr 0] [] (zSH, G) else if ((G 2000000 x3.toNatClampNeg) &&& 63) = 3 then zden 195 299 [.ref 2000000, .ref 0, .ref 90, .int x3, v4, .retAddr 0, v6, .retAddr 0] [] (zSH, G) else if ((G 2000000 x3.toNatClampNeg) &&& 63) = 4 then zden 195 322 [.ref 2000000, .ref 0, .ref 90, .int x3, v4, .retAddr 0, v6, .retAddr 0] [] (zSH, G) else if ((G 2000000 x3.toNatClampNeg) &&& 63) = 5 then zden 195 397 [.ref 2000000, .ref 0, .ref 90, .int x3, v4, .retAddr 0, v6, .retAddr 0] [] (zSH, G) else if ((G 2000000 x3.toNatClampNeg) &&& 63) = 6 then zden 195 440 [.ref 2000000, .ref 0, .ref 90, .int x3, v4, .retAddr 0, v6, .retAddr 0] [] (zSH, G) else if ((G 2000000 x3.toNatClampNeg) &&& 63) = 7 then zden 195 473 [.ref 2000000, .ref 0, .ref 90, .int x3, v4, .retAddr 0, v6, .retAddr 0] [] (zSH, G) else if ((G 2000000 x3.toNatClampNeg) &&& 63) = 8 then zden 195 506 [.ref 2000000, .ref 0, .ref 90, .int x3, v4, .retAddr 0, v6, .retAddr 0] [] (zSH, G) else if ((G 2000000 x3.toNatClampNeg) &&& 63) = 9 then zden 195 539 [.ref 2000000, .ref 0, .ref 90, .int x3, v4, .retAddr 0, v6, .retAddr 0] [] (zSH, G) else if ((G 2000000 x3.toNatClampNeg) &&& 63) = 10 then zden 195 572 [.ref 2000000, .ref 0, .ref 90, .int x3, v4, .retAddr 0, v6, .retAddr 0] [] (zSH, G) else if ((G 2000000 x3.toNatClampNeg) &&& 63) = 11 then zden 195 595 [.ref 2000000, .ref 0, .ref 90, .int x3, v4, .retAddr 0, v6, .retAddr 0] [] (zSH, G) else if ((G 2000000 x3.toNatClampNeg) &&& 63) = 12 then zden 195 618 [.ref 2000000, .ref 0, .ref 90, .int x3, v4, .retAddr 0, v6, .retAddr 0] [] (zSH, G) else if ((G 2000000 x3.toNatClampNeg) &&& 63) = 13 then zden 195 651 [.ref 2000000, .ref 0, .ref 90, .int x3, v4, .retAddr 0, v6, .retAddr 0] [] (zSH, G) else if ((G 2000000 x3.toNatClampNeg) &&& 63) = 14 then zden 195 674 [.ref 2000000, .ref 0, .ref 90, .int x3, v4, .retAddr 0, v6, .retAddr 0] [] (zSH, G) else if ((G 2000000 x3.toNatClampNeg) &&& 63) = 15 then zden 195 697 [.ref 2000000, .ref 0, .ref 90, .int x3, v4, .retAddr 0, v6, .retAddr 0] [] (zSH, G) else if ((G 2000000 x3.toNatClampNeg) &&& 63) = 16 then zden 195 720 [.ref 2000000, .ref 0, .ref 90, .int x3, v4, .retAddr 0, v6, .retAddr 0] [] (zSH, G) else if ((G 2000000 x3.toNatClampNeg) &&& 63) = 17 then zden 195 743 [.ref 2000000, .ref 0, .ref 90, .int x3, v4, .retAddr 0, v6, .retAddr 0] [] (zSH, G) else if ((G 2000000 x3.toNatClampNeg) &&& 63) = 18 then zden 195 776 [.ref 2000000, .ref 0, .ref 90, .int x3, v4, .retAddr 0, v6, .retAddr 0] [] (zSH, G) else if ((G 2000000 x3.toNatClampNeg) &&& 63) = 19 then zden 195 799 [.ref 2000000, .ref 0, .ref 90, .int x3, v4, .retAddr 0, v6, .retAddr 0] [] (zSH, G) else if ((G 2000000 x3.toNatClampNeg) &&& 63) = 20 then zden 195 822 [.ref 2000000, .ref 0, .ref 90, .int x3, v4, .retAddr 0, v6, .retAddr 0] [] (zSH, G) else if ((G 2000000 x3.toNatClampNeg) &&& 63) = 21 then zden 195 845 [.ref 2000000, .ref 0, .ref 90, .int x3, v4, .retAddr 0, v6, .retAddr 0] [] (zSH, G) else if ((G 2000000 x3.toNatClampNeg) &&& 63) = 22 then zden 195 858 [.ref 2000000, .ref 0, .ref 90, .int x3, v4, .retAddr 0, v6, .retAddr 0] [] (zSH, G) else if ((G 2000000 x3.toNatClampNeg) &&& 63) = 23 then zden 195 881 [.ref 2000000, .ref 0, .ref 90, .int x3, v4, .retAddr 0, v6, .retAddr 0] [] (zSH, G) else if ((G 2000000 x3.toNatClampNeg) &&& 63) = 24 then zden 195 904 [.ref 2000000, .ref 0, .ref 90, .int x3, v4, .retAddr 0, v6, .retAddr 0] [] (zSH, G) else if ((G 2000000 x3.toNatClampNeg) &&& 63) = 25 then zden 195 927 [.ref 2000000, .ref 0, .ref 90, .int x3, v4, .retAddr 0, v6, .retAddr 0] [] (zSH, G) else if ((G 2000000 x3.toNatClampNeg) &&& 63) = 26 then zden 195 966 [.ref 2000000, .ref 0, .ref 90, .int x3, v4, .retAddr 0, v6, .retAddr 0] [] (zSH, G) else if ((G 2000000 x3.toNatClampNeg) &&& 63) = 27 then zden 195 989 [.ref 2000000, .ref 0, .ref 90, .int x3, v4, .retAddr 0, v6, .retAddr 0] [] (zSH, G) else if ((G 2000000 x3.toNatClampNeg) &&& 63) = 28 then zden 195 1002 [.ref 2000000, .ref 0, .ref 90, .int x3, v4, .retAddr 0, v6, .retAddr 0] [] (zSH, G) else if ((G 2000000 x3.toNatClampNeg) &&& 63) = 29 then zden 195 1043 [.ref 2000000, .ref 0, .ref 90, .int x3, v4, .retAddr 0, v6, .retAddr 0] [] (zSH, G) else if ((G 2000000 x3.toNatClampNeg) &&& 63) = 30 then zden 195 1086 [.ref 2000000, .ref 0, .ref 90, .int x3, v4, .retAddr 0, v6, .retAddr 0] [] (zSH, G) else if ((G 2000000 x3.toNatClampNeg) &&& 63) = 31 then zden 195 1099 [.ref 2000000, .ref 0, .ref 90, .int x3, v4, .retAddr 0, v6, .retAddr 0] [] (zSH, G) else if ((G 2000000 x3.toNatClampNeg) &&& 63) = 32 then zden 195 1112 [.ref 2000000, .ref 0, .ref 90, .int x3, v4, .retAddr 0, v6, .retAddr 0] [] (zSH, G) else zden 195 1125 [.ref 2000000, .ref 0, .ref 90, .int x3, v4, .retAddr 0, v6, .retAddr 0] [] (zSH, G) :=
  (zd_iload_n a_L_law_18 rfl).trans ((zd_aload_n a_L_law_19 rfl).trans ((zd_salen (h := (zSH, G)) a_L_law_20 rfl).trans ((zd_bipush (v := 7) a_L_law_21 (by decide)).trans ((zd_num (st2 := [.int ((G 2000001 0) - 7), .int x3]) a_L_law_23 rfl rfl rfl rfl).trans ((zd_icmp_gt a_L_law_24 rfl).trans (zitc (fun p468 => (zd_iconst (v := 1) a_L_law_1131 (by decide)).trans (zd_iret a_L_law_1132 rfl (by decide))) (fun p468 => (zd_aload_n a_L_law_27 rfl).trans ((zd_iload_n a_L_law_28 rfl).trans ((zd_sald (h := (zSH, G)) a_L_law_29 rfl (z29_0 p468)).trans ((zd_bipush (v := 63) a_L_law_30 (by decide)).trans ((zd_num (st2 := [.int ((G 2000000 x3.toNatClampNeg) &&& 63)]) a_L_law_32 rfl rfl rfl rfl).trans ((zd_tsw (td := 1125) (L := [(0, 180), (1, 243), (2, 266), (3, 299), (4, 322), (5, 397), (6, 440), (7, 473), (8, 506), (9, 539), (10, 572), (11, 595), (12, 618), (13, 651), (14, 674), (15, 697), (16, 720), (17, 743), (18, 776), (19, 799), (20, 822), (21, 845), (22, 858), (23, 881), (24, 904), (25, 927), (26, 966), (27, 989), (28, 1002), (29, 1043), (30, 1086), (31, 1099), (32, 1112)]) a_L_law_33 rfl (by decide) (by decide)).trans (zitc (fun p469 => rfl) (fun p469 => zitc (fun p470 => rfl) (fun p470 => zitc (fun p471 => rfl) (fun p471 => zitc (fun p472 => rfl) (fun p472 => zitc (fun p473 => rfl) (fun p473 => zitc (fun p474 => rfl) (fun p474 => zitc (fun p475 => rfl) (fun p475 => zitc (fun p476 => rfl) (fun p476 => zitc (fun p477 => rfl) (fun p477 => zitc (fun p478 => rfl) (fun p478 => zitc (fun p479 => rfl) (fun p479 => zitc (fun p480 => rfl) (fun p480 => zitc (fun p481 => rfl) (fun p481 => zitc (fun p482 => rfl) (fun p482 => zitc (fun p483 => rfl) (fun p483 => zitc (fun p484 => rfl) (fun p484 => zitc (fun p485 => rfl) (fun p485 => zitc (fun p486 => rfl) (fun p486 => zitc (fun p487 => rfl) (fun p487 => zitc (fun p488 => rfl) (fun p488 => zitc (fun p489 => rfl) (fun p489 => zitc (fun p490 => rfl) (fun p490 => zitc (fun p491 => rfl) (fun p491 => zitc (fun p492 => rfl) (fun p492 => zitc (fun p493 => rfl) (fun p493 => zitc (fun p494 => rfl) (fun p494 => zitc (fun p495 => rfl) (fun p495 => zitc (fun p496 => rfl) (fun p496 => zitc (fun p497 => rfl) (fun p497 => zitc (fun p498 => rfl) (fun p498 => zitc (fun p499 => rfl) (fun p499 => zitc (fun p500 => rfl) (fun p500 => zitc (fun p501 => rfl) (fun p501 => rfl))))))))))))))))))))))))))))))))))))))))))))))
theorem B_L_law_180 {G : Nat → Nat → Int32} {x3 : Int32} {v4 v6 : Value} (z185_0 : 0 ≤ (x3 + 1) ∧ (x3 + 1) < G 2000001 0) (z190_1 : 0 ≤ (x3 + 2) ∧ (x3 + 2) < G 2000001 0) (z195_2 : 0 ≤ (x3 + 3) ∧ (x3 + 3) < G 2000001 0) (z200_3 : 0 ≤ (x3 + 4) ∧ (x3 + 4) < G 2000001 0) (z205_4 : 0 ≤ (x3 + 5) ∧ (x3 + 5) < G 2000001 0) : zden 195 180 [.ref 2000000, .ref 0, .ref 90, .int x3, v4, .retAddr 0, v6, .retAddr 0] [] (zSH, G) = zaft 195 209 [.ref 2000000, .ref 0, .ref 90, .int x3, v4, .retAddr 0, v6, .retAddr 0] [] (zSH, G) (zden 70 0 [.ref 0, .int (G 2000000 (x3 + 1).toNatClampNeg), .int (G 2000000 (x3 + 2).toNatClampNeg), .int (G 2000000 (x3 + 3).toNatClampNeg), .int (G 2000000 (x3 + 4).toNatClampNeg), .int (G 2000000 (x3 + 5).toNatClampNeg)] [] (zSH, G)) :=
  (zd_aload_n a_L_law_180 rfl).trans ((zd_aload_n a_L_law_181 rfl).trans ((zd_iload_n a_L_law_182 rfl).trans ((zd_iconst (v := 1) a_L_law_183 (by decide)).trans ((zd_num (st2 := [.int (x3 + 1), .ref 2000000, .ref 0]) a_L_law_184 rfl rfl rfl rfl).trans ((zd_sald (h := (zSH, G)) a_L_law_185 rfl z185_0).trans ((zd_aload_n a_L_law_186 rfl).trans ((zd_iload_n a_L_law_187 rfl).trans ((zd_iconst (v := 2) a_L_law_188 (by decide)).trans ((zd_num (st2 := [.int (x3 + 2), .ref 2000000, .int (G 2000000 (x3 + 1).toNatClampNeg), .ref 0]) a_L_law_189 rfl rfl rfl rfl).trans ((zd_sald (h := (zSH, G)) a_L_law_190 rfl z190_1).trans ((zd_aload_n a_L_law_191 rfl).trans ((zd_iload_n a_L_law_192 rfl).trans ((zd_iconst (v := 3) a_L_law_193 (by decide)).trans ((zd_num (st2 := [.int (x3 + 3), .ref 2000000, .int (G 2000000 (x3 + 2).toNatClampNeg), .int (G 2000000 (x3 + 1).toNatClampNeg), .ref 0]) a_L_law_194 rfl rfl rfl rfl).trans ((zd_sald (h := (zSH, G)) a_L_law_195 rfl z195_2).trans ((zd_aload_n a_L_law_196 rfl).trans ((zd_iload_n a_L_law_197 rfl).trans ((zd_iconst (v := 4) a_L_law_198 (by decide)).trans ((zd_num (st2 := [.int (x3 + 4), .ref 2000000, .int (G 2000000 (x3 + 3).toNatClampNeg), .int (G 2000000 (x3 + 2).toNatClampNeg), .int (G 2000000 (x3 + 1).toNatClampNeg), .ref 0]) a_L_law_199 rfl rfl rfl rfl).trans ((zd_sald (h := (zSH, G)) a_L_law_200 rfl z200_3).trans ((zd_aload_n a_L_law_201 rfl).trans ((zd_iload_n a_L_law_202 rfl).trans ((zd_iconst (v := 5) a_L_law_203 (by decide)).trans ((zd_num (st2 := [.int (x3 + 5), .ref 2000000, .int (G 2000000 (x3 + 4).toNatClampNeg), .int (G 2000000 (x3 + 3).toNatClampNeg), .int (G 2000000 (x3 + 2).toNatClampNeg), .int (G 2000000 (x3 + 1).toNatClampNeg), .ref 0]) a_L_law_204 rfl rfl rfl rfl).trans ((zd_sald (h := (zSH, G)) a_L_law_205 rfl z205_4).trans ((zd_cal (kd := 0) (tg := 70) (T := m_T_heading) a_L_law_206 (by decide +kernel) hm_T_heading rfl rfl rfl rfl)))))))))))))))))))))))))))
theorem B_L_law_209 {G : Nat → Nat → Int32} {x3 s0 : Int32} {v4 v6 : Value} (z214_0 : 0 ≤ (x3 + 1) ∧ (x3 + 1) < G 2000001 0) (z219_1 : 0 ≤ (x3 + 2) ∧ (x3 + 2) < G 2000001 0) (z224_2 : 0 ≤ (x3 + 3) ∧ (x3 + 3) < G 2000001 0) (z229_3 : 0 ≤ (x3 + 4) ∧ (x3 + 4) < G 2000001 0) (z234_4 : 0 ≤ (x3 + 5) ∧ (x3 + 5) < G 2000001 0) : zden 195 209 [.ref 2000000, .ref 0, .ref 90, .int x3, v4, .retAddr 0, v6, .retAddr 0] [.int s0] (zSH, G) = zaft 195 238 [.ref 2000000, .ref 0, .ref 90, .int x3, v4, .retAddr 0, v6, .retAddr 0] [.int s0] (zSH, G) (zden 106 0 [.ref 90, .int (G 2000000 (x3 + 1).toNatClampNeg), .int (G 2000000 (x3 + 2).toNatClampNeg), .int (G 2000000 (x3 + 3).toNatClampNeg), .int (G 2000000 (x3 + 4).toNatClampNeg), .int (G 2000000 (x3 + 5).toNatClampNeg)] [] (zSH, G)) :=
  (zd_aload_n a_L_law_209 rfl).trans ((zd_aload_n a_L_law_210 rfl).trans ((zd_iload_n a_L_law_211 rfl).trans ((zd_iconst (v := 1) a_L_law_212 (by decide)).trans ((zd_num (st2 := [.int (x3 + 1), .ref 2000000, .ref 90, .int s0]) a_L_law_213 rfl rfl rfl rfl).trans ((zd_sald (h := (zSH, G)) a_L_law_214 rfl z214_0).trans ((zd_aload_n a_L_law_215 rfl).trans ((zd_iload_n a_L_law_216 rfl).trans ((zd_iconst (v := 2) a_L_law_217 (by decide)).trans ((zd_num (st2 := [.int (x3 + 2), .ref 2000000, .int (G 2000000 (x3 + 1).toNatClampNeg), .ref 90, .int s0]) a_L_law_218 rfl rfl rfl rfl).trans ((zd_sald (h := (zSH, G)) a_L_law_219 rfl z219_1).trans ((zd_aload_n a_L_law_220 rfl).trans ((zd_iload_n a_L_law_221 rfl).trans ((zd_iconst (v := 3) a_L_law_222 (by decide)).trans ((zd_num (st2 := [.int (x3 + 3), .ref 2000000, .int (G 2000000 (x3 + 2).toNatClampNeg), .int (G 2000000 (x3 + 1).toNatClampNeg), .ref 90, .int s0]) a_L_law_223 rfl rfl rfl rfl).trans ((zd_sald (h := (zSH, G)) a_L_law_224 rfl z224_2).trans ((zd_aload_n a_L_law_225 rfl).trans ((zd_iload_n a_L_law_226 rfl).trans ((zd_iconst (v := 4) a_L_law_227 (by decide)).trans ((zd_num (st2 := [.int (x3 + 4), .ref 2000000, .int (G 2000000 (x3 + 3).toNatClampNeg), .int (G 2000000 (x3 + 2).toNatClampNeg), .int (G 2000000 (x3 + 1).toNatClampNeg), .ref 90, .int s0]) a_L_law_228 rfl rfl rfl rfl).trans ((zd_sald (h := (zSH, G)) a_L_law_229 rfl z229_3).trans ((zd_aload_n a_L_law_230 rfl).trans ((zd_iload_n a_L_law_231 rfl).trans ((zd_iconst (v := 5) a_L_law_232 (by decide)).trans ((zd_num (st2 := [.int (x3 + 5), .ref 2000000, .int (G 2000000 (x3 + 4).toNatClampNeg), .int (G 2000000 (x3 + 3).toNatClampNeg), .int (G 2000000 (x3 + 2).toNatClampNeg), .int (G 2000000 (x3 + 1).toNatClampNeg), .ref 90, .int s0]) a_L_law_233 rfl rfl rfl rfl).trans ((zd_sald (h := (zSH, G)) a_L_law_234 rfl z234_4).trans ((zd_cal (kd := 0) (tg := 106) (T := m_M_heading) a_L_law_235 (by decide +kernel) hm_M_heading rfl rfl rfl rfl)))))))))))))))))))))))))))
theorem B_L_law_238 {G : Nat → Nat → Int32} {x3 s0 s1 : Int32} {v4 v6 : Value} : zden 195 238 [.ref 2000000, .ref 0, .ref 90, .int x3, v4, .retAddr 0, v6, .retAddr 0] [.int s0, .int s1] (zSH, G) = if s1 = s0 then zden 195 1125 [.ref 2000000, .ref 0, .ref 90, .int x3, v4, .retAddr 0, v6, .retAddr 0] [] (zSH, G) else some (some (.int 0), (zSH, G)) :=
  (zd_icmp_eq a_L_law_238 rfl).trans (zitc (fun p502 => rfl) (fun p502 => (zd_iconst (v := 0) a_L_law_241 (by decide)).trans (zd_iret a_L_law_242 rfl (by decide))))
theorem B_L_law_243 {G : Nat → Nat → Int32} {x3 : Int32} {v4 v6 : Value} (z248_0 : 0 ≤ (x3 + 1) ∧ (x3 + 1) < G 2000001 0) : zden 195 243 [.ref 2000000, .ref 0, .ref 90, .int x3, v4, .retAddr 0, v6, .retAddr 0] [] (zSH, G) = zaft 195 252 [.ref 2000000, .ref 0, .ref 90, .int x3, v4, .retAddr 0, v6, .retAddr 0] [] (zSH, G) (zden 72 0 [.ref 0, .int (G 2000000 (x3 + 1).toNatClampNeg)] [] (zSH, G)) :=
  (zd_aload_n a_L_law_243 rfl).trans ((zd_aload_n a_L_law_244 rfl).trans ((zd_iload_n a_L_law_245 rfl).trans ((zd_iconst (v := 1) a_L_law_246 (by decide)).trans ((zd_num (st2 := [.int (x3 + 1), .ref 2000000, .ref 0]) a_L_law_247 rfl rfl rfl rfl).trans ((zd_sald (h := (zSH, G)) a_L_law_248 rfl z248_0).trans ((zd_cal (kd := 0) (tg := 72) (T := m_T_strike) a_L_law_249 (by decide +kernel) hm_T_strike rfl rfl rfl rfl)))))))
theorem B_L_law_252 {G : Nat → Nat → Int32} {x3 s0 : Int32} {v4 v6 : Value} (z257_0 : 0 ≤ (x3 + 1) ∧ (x3 + 1) < G 2000001 0) : zden 195 252 [.ref 2000000, .ref 0, .ref 90, .int x3, v4, .retAddr 0, v6, .retAddr 0] [.int s0] (zSH, G) = zaft 195 261 [.ref 2000000, .ref 0, .ref 90, .int x3, v4, .retAddr 0, v6, .retAddr 0] [.int s0] (zSH, G) (zden 116 0 [.ref 90, .int (G 2000000 (x3 + 1).toNatClampNeg)] [] (zSH, G)) :=
  (zd_aload_n a_L_law_252 rfl).trans ((zd_aload_n a_L_law_253 rfl).trans ((zd_iload_n a_L_law_254 rfl).trans ((zd_iconst (v := 1) a_L_law_255 (by decide)).trans ((zd_num (st2 := [.int (x3 + 1), .ref 2000000, .ref 90, .int s0]) a_L_law_256 rfl rfl rfl rfl).trans ((zd_sald (h := (zSH, G)) a_L_law_257 rfl z257_0).trans ((zd_cal (kd := 0) (tg := 116) (T := m_M_strike) a_L_law_258 (by decide +kernel) hm_M_strike rfl rfl rfl rfl)))))))
theorem B_L_law_261 {G : Nat → Nat → Int32} {x3 s0 s1 : Int32} {v4 v6 : Value} : zden 195 261 [.ref 2000000, .ref 0, .ref 90, .int x3, v4, .retAddr 0, v6, .retAddr 0] [.int s0, .int s1] (zSH, G) = if s1 = s0 then zden 195 1125 [.ref 2000000, .ref 0, .ref 90, .int x3, v4, .retAddr 0, v6, .retAddr 0] [] (zSH, G) else some (some (.int 0), (zSH, G)) :=
  (zd_icmp_eq a_L_law_261 rfl).trans (zitc (fun p503 => rfl) (fun p503 => (zd_iconst (v := 0) a_L_law_264 (by decide)).trans (zd_iret a_L_law_265 rfl (by decide))))
theorem B_L_law_266 {G : Nat → Nat → Int32} {x3 : Int32} {v4 v6 : Value} (z271_0 : 0 ≤ (x3 + 1) ∧ (x3 + 1) < G 2000001 0) (z276_1 : 0 ≤ (x3 + 2) ∧ (x3 + 2) < G 2000001 0) : zden 195 266 [.ref 2000000, .ref 0, .ref 90, .int x3, v4, .retAddr 0, v6, .retAddr 0] [] (zSH, G) = zaft 195 280 [.ref 2000000, .ref 0, .ref 90, .int x3, v4, .retAddr 0, v6, .retAddr 0] [] (zSH, G) (zden 73 0 [.ref 0, .int (G 2000000 (x3 + 1).toNatClampNeg), .int (G 2000000 (x3 + 2).toNatClampNeg), .retAddr 0] [] (zSH, G)) :=
  (zd_aload_n a_L_law_266 rfl).trans ((zd_aload_n a_L_law_267 rfl).trans ((zd_iload_n a_L_law_268 rfl).trans ((zd_iconst (v := 1) a_L_law_269 (by decide)).trans ((zd_num (st2 := [.int (x3 + 1), .ref 2000000, .ref 0]) a_L_law_270 rfl rfl rfl rfl).trans ((zd_sald (h := (zSH, G)) a_L_law_271 rfl z271_0).trans ((zd_aload_n a_L_law_272 rfl).trans ((zd_iload_n a_L_law_273 rfl).trans ((zd_iconst (v := 2) a_L_law_274 (by decide)).trans ((zd_num (st2 := [.int (x3 + 2), .ref 2000000, .int (G 2000000 (x3 + 1).toNatClampNeg), .ref 0]) a_L_law_275 rfl rfl rfl rfl).trans ((zd_sald (h := (zSH, G)) a_L_law_276 rfl z276_1).trans ((zd_cal (kd := 0) (tg := 73) (T := m_T_headingOf) a_L_law_277 (by decide +kernel) hm_T_headingOf rfl rfl rfl rfl))))))))))))
theorem B_L_law_280 {G : Nat → Nat → Int32} {x3 s0 : Int32} {v4 v6 : Value} (z285_0 : 0 ≤ (x3 + 1) ∧ (x3 + 1) < G 2000001 0) (z290_1 : 0 ≤ (x3 + 2) ∧ (x3 + 2) < G 2000001 0) : zden 195 280 [.ref 2000000, .ref 0, .ref 90, .int x3, v4, .retAddr 0, v6, .retAddr 0] [.int s0] (zSH, G) = zaft 195 294 [.ref 2000000, .ref 0, .ref 90, .int x3, v4, .retAddr 0, v6, .retAddr 0] [.int s0] (zSH, G) (zden 118 0 [.ref 90, .int (G 2000000 (x3 + 1).toNatClampNeg), .int (G 2000000 (x3 + 2).toNatClampNeg), .retAddr 0] [] (zSH, G)) :=
  (zd_aload_n a_L_law_280 rfl).trans ((zd_aload_n a_L_law_281 rfl).trans ((zd_iload_n a_L_law_282 rfl).trans ((zd_iconst (v := 1) a_L_law_283 (by decide)).trans ((zd_num (st2 := [.int (x3 + 1), .ref 2000000, .ref 90, .int s0]) a_L_law_284 rfl rfl rfl rfl).trans ((zd_sald (h := (zSH, G)) a_L_law_285 rfl z285_0).trans ((zd_aload_n a_L_law_286 rfl).trans ((zd_iload_n a_L_law_287 rfl).trans ((zd_iconst (v := 2) a_L_law_288 (by decide)).trans ((zd_num (st2 := [.int (x3 + 2), .ref 2000000, .int (G 2000000 (x3 + 1).toNatClampNeg), .ref 90, .int s0]) a_L_law_289 rfl rfl rfl rfl).trans ((zd_sald (h := (zSH, G)) a_L_law_290 rfl z290_1).trans ((zd_cal (kd := 0) (tg := 118) (T := m_M_headingOf) a_L_law_291 (by decide +kernel) hm_M_headingOf rfl rfl rfl rfl))))))))))))
theorem B_L_law_294 {G : Nat → Nat → Int32} {x3 s0 s1 : Int32} {v4 v6 : Value} : zden 195 294 [.ref 2000000, .ref 0, .ref 90, .int x3, v4, .retAddr 0, v6, .retAddr 0] [.int s0, .int s1] (zSH, G) = if s1 = s0 then zden 195 1125 [.ref 2000000, .ref 0, .ref 90, .int x3, v4, .retAddr 0, v6, .retAddr 0] [] (zSH, G) else some (some (.int 0), (zSH, G)) :=
  (zd_icmp_eq a_L_law_294 rfl).trans (zitc (fun p504 => rfl) (fun p504 => (zd_iconst (v := 0) a_L_law_297 (by decide)).trans (zd_iret a_L_law_298 rfl (by decide))))
theorem B_L_law_299 {G : Nat → Nat → Int32} {x3 : Int32} {v4 v6 : Value} (z304_0 : 0 ≤ (x3 + 1) ∧ (x3 + 1) < G 2000001 0) : zden 195 299 [.ref 2000000, .ref 0, .ref 90, .int x3, v4, .retAddr 0, v6, .retAddr 0] [] (zSH, G) = zaft 195 308 [.ref 2000000, .ref 0, .ref 90, .int x3, v4, .retAddr 0, v6, .retAddr 0] [] (zSH, G) (zden 74 0 [.ref 0, .int (G 2000000 (x3 + 1).toNatClampNeg)] [] (zSH, G)) :=
  (zd_aload_n a_L_law_299 rfl).trans ((zd_aload_n a_L_law_300 rfl).trans ((zd_iload_n a_L_law_301 rfl).trans ((zd_iconst (v := 1) a_L_law_302 (by decide)).trans ((zd_num (st2 := [.int (x3 + 1), .ref 2000000, .ref 0]) a_L_law_303 rfl rfl rfl rfl).trans ((zd_sald (h := (zSH, G)) a_L_law_304 rfl z304_0).trans ((zd_cal (kd := 0) (tg := 74) (T := m_T_code) a_L_law_305 (by decide +kernel) hm_T_code rfl rfl rfl rfl)))))))
theorem B_L_law_308 {G : Nat → Nat → Int32} {x3 s0 : Int32} {v4 v6 : Value} (z313_0 : 0 ≤ (x3 + 1) ∧ (x3 + 1) < G 2000001 0) : zden 195 308 [.ref 2000000, .ref 0, .ref 90, .int x3, v4, .retAddr 0, v6, .retAddr 0] [.int s0] (zSH, G) = zaft 195 317 [.ref 2000000, .ref 0, .ref 90, .int x3, v4, .retAddr 0, v6, .retAddr 0] [.int s0] (zSH, G) (zden 125 0 [.ref 90, .int (G 2000000 (x3 + 1).toNatClampNeg)] [] (zSH, G)) :=
  (zd_aload_n a_L_law_308 rfl).trans ((zd_aload_n a_L_law_309 rfl).trans ((zd_iload_n a_L_law_310 rfl).trans ((zd_iconst (v := 1) a_L_law_311 (by decide)).trans ((zd_num (st2 := [.int (x3 + 1), .ref 2000000, .ref 90, .int s0]) a_L_law_312 rfl rfl rfl rfl).trans ((zd_sald (h := (zSH, G)) a_L_law_313 rfl z313_0).trans ((zd_cal (kd := 0) (tg := 125) (T := m_M_code) a_L_law_314 (by decide +kernel) hm_M_code rfl rfl rfl rfl)))))))
theorem B_L_law_317 {G : Nat → Nat → Int32} {x3 s0 s1 : Int32} {v4 v6 : Value} : zden 195 317 [.ref 2000000, .ref 0, .ref 90, .int x3, v4, .retAddr 0, v6, .retAddr 0] [.int s0, .int s1] (zSH, G) = if s1 = s0 then zden 195 1125 [.ref 2000000, .ref 0, .ref 90, .int x3, v4, .retAddr 0, v6, .retAddr 0] [] (zSH, G) else some (some (.int 0), (zSH, G)) :=
  (zd_icmp_eq a_L_law_317 rfl).trans (zitc (fun p505 => rfl) (fun p505 => (zd_iconst (v := 0) a_L_law_320 (by decide)).trans (zd_iret a_L_law_321 rfl (by decide))))
theorem B_L_law_322 {G : Nat → Nat → Int32} {x3 : Int32} {v4 v6 : Value} (z327_0 : 0 ≤ (x3 + 1) ∧ (x3 + 1) < G 2000001 0) (z332_1 : 0 ≤ (x3 + 2) ∧ (x3 + 2) < G 2000001 0) (z337_2 : 0 ≤ (x3 + 3) ∧ (x3 + 3) < G 2000001 0) (z342_3 : 0 ≤ (x3 + 4) ∧ (x3 + 4) < G 2000001 0) (z347_4 : 0 ≤ (x3 + 5) ∧ (x3 + 5) < G 2000001 0) (z353_5 : 0 ≤ (x3 + 6) ∧ (x3 + 6) < G 2000001 0) : zden 195 322 [.ref 2000000, .ref 0, .ref 90, .int x3, v4, .retAddr 0, v6, .retAddr 0] [] (zSH, G) = zaft 195 357 [.ref 2000000, .ref 0, .ref 90, .int x3, v4, .retAddr 0, v6, .retAddr 0] [] (zSH, G) (zden 75 0 [.ref 0, .int (G 2000000 (x3 + 1).toNatClampNeg), .int (G 2000000 (x3 + 2).toNatClampNeg), .int (G 2000000 (x3 + 3).toNatClampNeg), .int (G 2000000 (x3 + 4).toNatClampNeg), .int (G 2000000 (x3 + 5).toNatClampNeg), .int (G 2000000 (x3 + 6).toNatClampNeg)] [] (zSH, G)) :=
  (zd_aload_n a_L_law_322 rfl).trans ((zd_aload_n a_L_law_323 rfl).trans ((zd_iload_n a_L_law_324 rfl).trans ((zd_iconst (v := 1) a_L_law_325 (by decide)).trans ((zd_num (st2 := [.int (x3 + 1), .ref 2000000, .ref 0]) a_L_law_326 rfl rfl rfl rfl).trans ((zd_sald (h := (zSH, G)) a_L_law_327 rfl z327_0).trans ((zd_aload_n a_L_law_328 rfl).trans ((zd_iload_n a_L_law_329 rfl).trans ((zd_iconst (v := 2) a_L_law_330 (by decide)).trans ((zd_num (st2 := [.int (x3 + 2), .ref 2000000, .int (G 2000000 (x3 + 1).toNatClampNeg), .ref 0]) a_L_law_331 rfl rfl rfl rfl).trans ((zd_sald (h := (zSH, G)) a_L_law_332 rfl z332_1).trans ((zd_aload_n a_L_law_333 rfl).trans ((zd_iload_n a_L_law_334 rfl).trans ((zd_iconst (v := 3) a_L_law_335 (by decide)).trans ((zd_num (st2 := [.int (x3 + 3), .ref 2000000, .int (G 2000000 (x3 + 2).toNatClampNeg), .int (G 2000000 (x3 + 1).toNatClampNeg), .ref 0]) a_L_law_336 rfl rfl rfl rfl).trans ((zd_sald (h := (zSH, G)) a_L_law_337 rfl z337_2).trans ((zd_aload_n a_L_law_338 rfl).trans ((zd_iload_n a_L_law_339 rfl).trans ((zd_iconst (v := 4) a_L_law_340 (by decide)).trans ((zd_num (st2 := [.int (x3 + 4), .ref 2000000, .int (G 2000000 (x3 + 3).toNatClampNeg), .int (G 2000000 (x3 + 2).toNatClampNeg), .int (G 2000000 (x3 + 1).toNatClampNeg), .ref 0]) a_L_law_341 rfl rfl rfl rfl).trans ((zd_sald (h := (zSH, G)) a_L_law_342 rfl z342_3).trans ((zd_aload_n a_L_law_343 rfl).trans ((zd_iload_n a_L_law_344 rfl).trans ((zd_iconst (v := 5) a_L_law_345 (by decide)).trans ((zd_num (st2 := [.int (x3 + 5), .ref 2000000, .int (G 2000000 (x3 + 4).toNatClampNeg), .int (G 2000000 (x3 + 3).toNatClampNeg), .int (G 2000000 (x3 + 2).toNatClampNeg), .int (G 2000000 (x3 + 1).toNatClampNeg), .ref 0]) a_L_law_346 rfl rfl rfl rfl).trans ((zd_sald (h := (zSH, G)) a_L_law_347 rfl z347_4).trans ((zd_aload_n a_L_law_348 rfl).trans ((zd_iload_n a_L_law_349 rfl).trans ((zd_bipush (v := 6) a_L_law_350 (by decide)).trans ((zd_num (st2 := [.int (x3 + 6), .ref 2000000, .int (G 2000000 (x3 + 5).toNatClampNeg), .int (G 2000000 (x3 + 4).toNatClampNeg), .int (G 2000000 (x3 + 3).toNatClampNeg), .int (G 2000000 (x3 + 2).toNatClampNeg), .int (G 2000000 (x3 + 1).toNatClampNeg), .ref 0]) a_L_law_352 rfl rfl rfl rfl).trans ((zd_sald (h := (zSH, G)) a_L_law_353 rfl z353_5).trans ((zd_cal (kd := 0) (tg := 75) (T := m_T_good) a_L_law_354 (by decide +kernel) hm_T_good rfl rfl rfl rfl))))))))))))))))))))))))))))))))
theorem B_L_law_357 {G : Nat → Nat → Int32} {x3 s0 : Int32} {v4 v6 : Value} (z362_0 : 0 ≤ (x3 + 1) ∧ (x3 + 1) < G 2000001 0) (z367_1 : 0 ≤ (x3 + 2) ∧ (x3 + 2) < G 2000001 0) (z372_2 : 0 ≤ (x3 + 3) ∧ (x3 + 3) < G 2000001 0) (z377_3 : 0 ≤ (x3 + 4) ∧ (x3 + 4) < G 2000001 0) (z382_4 : 0 ≤ (x3 + 5) ∧ (x3 + 5) < G 2000001 0) (z388_5 : 0 ≤ (x3 + 6) ∧ (x3 + 6) < G 2000001 0) : zden 195 357 [.ref 2000000, .ref 0, .ref 90, .int x3, v4, .retAddr 0, v6, .retAddr 0] [.int s0] (zSH, G) = zaft 195 392 [.ref 2000000, .ref 0, .ref 90, .int x3, v4, .retAddr 0, v6, .retAddr 0] [.int s0] (zSH, G) (zden 126 0 [.ref 90, .int (G 2000000 (x3 + 1).toNatClampNeg), .int (G 2000000 (x3 + 2).toNatClampNeg), .int (G 2000000 (x3 + 3).toNatClampNeg), .int (G 2000000 (x3 + 4).toNatClampNeg), .int (G 2000000 (x3 + 5).toNatClampNeg), .int (G 2000000 (x3 + 6).toNatClampNeg)] [] (zSH, G)) :=
  (zd_aload_n a_L_law_357 rfl).trans ((zd_aload_n a_L_law_358 rfl).trans ((zd_iload_n a_L_law_359 rfl).trans ((zd_iconst (v := 1) a_L_law_360 (by decide)).trans ((zd_num (st2 := [.int (x3 + 1), .ref 2000000, .ref 90, .int s0]) a_L_law_361 rfl rfl rfl rfl).trans ((zd_sald (h := (zSH, G)) a_L_law_362 rfl z362_0).trans ((zd_aload_n a_L_law_363 rfl).trans ((zd_iload_n a_L_law_364 rfl).trans ((zd_iconst (v := 2) a_L_law_365 (by decide)).trans ((zd_num (st2 := [.int (x3 + 2), .ref 2000000, .int (G 2000000 (x3 + 1).toNatClampNeg), .ref 90, .int s0]) a_L_law_366 rfl rfl rfl rfl).trans ((zd_sald (h := (zSH, G)) a_L_law_367 rfl z367_1).trans ((zd_aload_n a_L_law_368 rfl).trans ((zd_iload_n a_L_law_369 rfl).trans ((zd_iconst (v := 3) a_L_law_370 (by decide)).trans ((zd_num (st2 := [.int (x3 + 3), .ref 2000000, .int (G 2000000 (x3 + 2).toNatClampNeg), .int (G 2000000 (x3 + 1).toNatClampNeg), .ref 90, .int s0]) a_L_law_371 rfl rfl rfl rfl).trans ((zd_sald (h := (zSH, G)) a_L_law_372 rfl z372_2).trans ((zd_aload_n a_L_law_373 rfl).trans ((zd_iload_n a_L_law_374 rfl).trans ((zd_iconst (v := 4) a_L_law_375 (by decide)).trans ((zd_num (st2 := [.int (x3 + 4), .ref 2000000, .int (G 2000000 (x3 + 3).toNatClampNeg), .int (G 2000000 (x3 + 2).toNatClampNeg), .int (G 2000000 (x3 + 1).toNatClampNeg), .ref 90, .int s0]) a_L_law_376 rfl rfl rfl rfl).trans ((zd_sald (h := (zSH, G)) a_L_law_377 rfl z377_3).trans ((zd_aload_n a_L_law_378 rfl).trans ((zd_iload_n a_L_law_379 rfl).trans ((zd_iconst (v := 5) a_L_law_380 (by decide)).trans ((zd_num (st2 := [.int (x3 + 5), .ref 2000000, .int (G 2000000 (x3 + 4).toNatClampNeg), .int (G 2000000 (x3 + 3).toNatClampNeg), .int (G 2000000 (x3 + 2).toNatClampNeg), .int (G 2000000 (x3 + 1).toNatClampNeg), .ref 90, .int s0]) a_L_law_381 rfl rfl rfl rfl).trans ((zd_sald (h := (zSH, G)) a_L_law_382 rfl z382_4).trans ((zd_aload_n a_L_law_383 rfl).trans ((zd_iload_n a_L_law_384 rfl).trans ((zd_bipush (v := 6) a_L_law_385 (by decide)).trans ((zd_num (st2 := [.int (x3 + 6), .ref 2000000, .int (G 2000000 (x3 + 5).toNatClampNeg), .int (G 2000000 (x3 + 4).toNatClampNeg), .int (G 2000000 (x3 + 3).toNatClampNeg), .int (G 2000000 (x3 + 2).toNatClampNeg), .int (G 2000000 (x3 + 1).toNatClampNeg), .ref 90, .int s0]) a_L_law_387 rfl rfl rfl rfl).trans ((zd_sald (h := (zSH, G)) a_L_law_388 rfl z388_5).trans ((zd_cal (kd := 0) (tg := 126) (T := m_M_good) a_L_law_389 (by decide +kernel) hm_M_good rfl rfl rfl rfl))))))))))))))))))))))))))))))))
theorem B_L_law_392 {G : Nat → Nat → Int32} {x3 s0 s1 : Int32} {v4 v6 : Value} : zden 195 392 [.ref 2000000, .ref 0, .ref 90, .int x3, v4, .retAddr 0, v6, .retAddr 0] [.int s0, .int s1] (zSH, G) = if s1 = s0 then zden 195 1125 [.ref 2000000, .ref 0, .ref 90, .int x3, v4, .retAddr 0, v6, .retAddr 0] [] (zSH, G) else some (some (.int 0), (zSH, G)) :=
  (zd_icmp_eq a_L_law_392 rfl).trans (zitc (fun p506 => rfl) (fun p506 => (zd_iconst (v := 0) a_L_law_395 (by decide)).trans (zd_iret a_L_law_396 rfl (by decide))))
theorem B_L_law_397 {G : Nat → Nat → Int32} {x3 : Int32} {v4 v6 : Value} (z402_0 : 0 ≤ (x3 + 1) ∧ (x3 + 1) < G 2000001 0) (z407_1 : 0 ≤ (x3 + 2) ∧ (x3 + 2) < G 2000001 0) (z412_2 : 0 ≤ (x3 + 3) ∧ (x3 + 3) < G 2000001 0) : zden 195 397 [.ref 2000000, .ref 0, .ref 90, .int x3, v4, .retAddr 0, v6, .retAddr 0] [] (zSH, G) = zaft 195 416 [.ref 2000000, .ref 0, .ref 90, .int x3, v4, .retAddr 0, v6, .retAddr 0] [] (zSH, G) (zden 76 0 [.ref 0, .int (G 2000000 (x3 + 1).toNatClampNeg), .int (G 2000000 (x3 + 2).toNatClampNeg), .int (G 2000000 (x3 + 3).toNatClampNeg)] [] (zSH, G)) :=
  (zd_aload_n a_L_law_397 rfl).trans ((zd_aload_n a_L_law_398 rfl).trans ((zd_iload_n a_L_law_399 rfl).trans ((zd_iconst (v := 1) a_L_law_400 (by decide)).trans ((zd_num (st2 := [.int (x3 + 1), .ref 2000000, .ref 0]) a_L_law_401 rfl rfl rfl rfl).trans ((zd_sald (h := (zSH, G)) a_L_law_402 rfl z402_0).trans ((zd_aload_n a_L_law_403 rfl).trans ((zd_iload_n a_L_law_404 rfl).trans ((zd_iconst (v := 2) a_L_law_405 (by decide)).trans ((zd_num (st2 := [.int (x3 + 2), .ref 2000000, .int (G 2000000 (x3 + 1).toNatClampNeg), .ref 0]) a_L_law_406 rfl rfl rfl rfl).trans ((zd_sald (h := (zSH, G)) a_L_law_407 rfl z407_1).trans ((zd_aload_n a_L_law_408 rfl).trans ((zd_iload_n a_L_law_409 rfl).trans ((zd_iconst (v := 3) a_L_law_410 (by decide)).trans ((zd_num (st2 := [.int (x3 + 3), .ref 2000000, .int (G 2000000 (x3 + 2).toNatClampNeg), .int (G 2000000 (x3 + 1).toNatClampNeg), .ref 0]) a_L_law_411 rfl rfl rfl rfl).trans ((zd_sald (h := (zSH, G)) a_L_law_412 rfl z412_2).trans ((zd_cal (kd := 0) (tg := 76) (T := m_T_work) a_L_law_413 (by decide +kernel) hm_T_work rfl rfl rfl rfl)))))))))))))))))
theorem B_L_law_416 {G : Nat → Nat → Int32} {x3 s0 : Int32} {v4 v6 : Value} (z421_0 : 0 ≤ (x3 + 1) ∧ (x3 + 1) < G 2000001 0) (z426_1 : 0 ≤ (x3 + 2) ∧ (x3 + 2) < G 2000001 0) (z431_2 : 0 ≤ (x3 + 3) ∧ (x3 + 3) < G 2000001 0) : zden 195 416 [.ref 2000000, .ref 0, .ref 90, .int x3, v4, .retAddr 0, v6, .retAddr 0] [.int s0] (zSH, G) = zaft 195 435 [.ref 2000000, .ref 0, .ref 90, .int x3, v4, .retAddr 0, v6, .retAddr 0] [.int s0] (zSH, G) (zden 128 0 [.ref 90, .int (G 2000000 (x3 + 1).toNatClampNeg), .int (G 2000000 (x3 + 2).toNatClampNeg), .int (G 2000000 (x3 + 3).toNatClampNeg)] [] (zSH, G)) :=
  (zd_aload_n a_L_law_416 rfl).trans ((zd_aload_n a_L_law_417 rfl).trans ((zd_iload_n a_L_law_418 rfl).trans ((zd_iconst (v := 1) a_L_law_419 (by decide)).trans ((zd_num (st2 := [.int (x3 + 1), .ref 2000000, .ref 90, .int s0]) a_L_law_420 rfl rfl rfl rfl).trans ((zd_sald (h := (zSH, G)) a_L_law_421 rfl z421_0).trans ((zd_aload_n a_L_law_422 rfl).trans ((zd_iload_n a_L_law_423 rfl).trans ((zd_iconst (v := 2) a_L_law_424 (by decide)).trans ((zd_num (st2 := [.int (x3 + 2), .ref 2000000, .int (G 2000000 (x3 + 1).toNatClampNeg), .ref 90, .int s0]) a_L_law_425 rfl rfl rfl rfl).trans ((zd_sald (h := (zSH, G)) a_L_law_426 rfl z426_1).trans ((zd_aload_n a_L_law_427 rfl).trans ((zd_iload_n a_L_law_428 rfl).trans ((zd_iconst (v := 3) a_L_law_429 (by decide)).trans ((zd_num (st2 := [.int (x3 + 3), .ref 2000000, .int (G 2000000 (x3 + 2).toNatClampNeg), .int (G 2000000 (x3 + 1).toNatClampNeg), .ref 90, .int s0]) a_L_law_430 rfl rfl rfl rfl).trans ((zd_sald (h := (zSH, G)) a_L_law_431 rfl z431_2).trans ((zd_cal (kd := 0) (tg := 128) (T := m_M_work) a_L_law_432 (by decide +kernel) hm_M_work rfl rfl rfl rfl)))))))))))))))))
theorem B_L_law_435 {G : Nat → Nat → Int32} {x3 s0 s1 : Int32} {v4 v6 : Value} : zden 195 435 [.ref 2000000, .ref 0, .ref 90, .int x3, v4, .retAddr 0, v6, .retAddr 0] [.int s0, .int s1] (zSH, G) = if s1 = s0 then zden 195 1125 [.ref 2000000, .ref 0, .ref 90, .int x3, v4, .retAddr 0, v6, .retAddr 0] [] (zSH, G) else some (some (.int 0), (zSH, G)) :=
  (zd_icmp_eq a_L_law_435 rfl).trans (zitc (fun p507 => rfl) (fun p507 => (zd_iconst (v := 0) a_L_law_438 (by decide)).trans (zd_iret a_L_law_439 rfl (by decide))))
theorem B_L_law_440 {G : Nat → Nat → Int32} {x3 : Int32} {v4 v6 : Value} (z445_0 : 0 ≤ (x3 + 1) ∧ (x3 + 1) < G 2000001 0) (z450_1 : 0 ≤ (x3 + 2) ∧ (x3 + 2) < G 2000001 0) : zden 195 440 [.ref 2000000, .ref 0, .ref 90, .int x3, v4, .retAddr 0, v6, .retAddr 0] [] (zSH, G) = zaft 195 454 [.ref 2000000, .ref 0, .ref 90, .int x3, v4, .retAddr 0, v6, .retAddr 0] [] (zSH, G) (zden 78 0 [.ref 0, .int (G 2000000 (x3 + 1).toNatClampNeg), .int (G 2000000 (x3 + 2).toNatClampNeg)] [] (zSH, G)) :=
  (zd_aload_n a_L_law_440 rfl).trans ((zd_aload_n a_L_law_441 rfl).trans ((zd_iload_n a_L_law_442 rfl).trans ((zd_iconst (v := 1) a_L_law_443 (by decide)).trans ((zd_num (st2 := [.int (x3 + 1), .ref 2000000, .ref 0]) a_L_law_444 rfl rfl rfl rfl).trans ((zd_sald (h := (zSH, G)) a_L_law_445 rfl z445_0).trans ((zd_aload_n a_L_law_446 rfl).trans ((zd_iload_n a_L_law_447 rfl).trans ((zd_iconst (v := 2) a_L_law_448 (by decide)).trans ((zd_num (st2 := [.int (x3 + 2), .ref 2000000, .int (G 2000000 (x3 + 1).toNatClampNeg), .ref 0]) a_L_law_449 rfl rfl rfl rfl).trans ((zd_sald (h := (zSH, G)) a_L_law_450 rfl z450_1).trans ((zd_cal (kd := 0) (tg := 78) (T := m_T_goodOf) a_L_law_451 (by decide +kernel) hm_T_goodOf rfl rfl rfl rfl))))))))))))
theorem B_L_law_454 {G : Nat → Nat → Int32} {x3 s0 : Int32} {v4 v6 : Value} (z459_0 : 0 ≤ (x3 + 1) ∧ (x3 + 1) < G 2000001 0) (z464_1 : 0 ≤ (x3 + 2) ∧ (x3 + 2) < G 2000001 0) : zden 195 454 [.ref 2000000, .ref 0, .ref 90, .int x3, v4, .retAddr 0, v6, .retAddr 0] [.int s0] (zSH, G) = zaft 195 468 [.ref 2000000, .ref 0, .ref 90, .int x3, v4, .retAddr 0, v6, .retAddr 0] [.int s0] (zSH, G) (zden 132 0 [.ref 90, .int (G 2000000 (x3 + 1).toNatClampNeg), .int (G 2000000 (x3 + 2).toNatClampNeg)] [] (zSH, G)) :=
  (zd_aload_n a_L_law_454 rfl).trans ((zd_aload_n a_L_law_455 rfl).trans ((zd_iload_n a_L_law_456 rfl).trans ((zd_iconst (v := 1) a_L_law_457 (by decide)).trans ((zd_num (st2 := [.int (x3 + 1), .ref 2000000, .ref 90, .int s0]) a_L_law_458 rfl rfl rfl rfl).trans ((zd_sald (h := (zSH, G)) a_L_law_459 rfl z459_0).trans ((zd_aload_n a_L_law_460 rfl).trans ((zd_iload_n a_L_law_461 rfl).trans ((zd_iconst (v := 2) a_L_law_462 (by decide)).trans ((zd_num (st2 := [.int (x3 + 2), .ref 2000000, .int (G 2000000 (x3 + 1).toNatClampNeg), .ref 90, .int s0]) a_L_law_463 rfl rfl rfl rfl).trans ((zd_sald (h := (zSH, G)) a_L_law_464 rfl z464_1).trans ((zd_cal (kd := 0) (tg := 132) (T := m_M_goodOf) a_L_law_465 (by decide +kernel) hm_M_goodOf rfl rfl rfl rfl))))))))))))
theorem B_L_law_468 {G : Nat → Nat → Int32} {x3 s0 s1 : Int32} {v4 v6 : Value} : zden 195 468 [.ref 2000000, .ref 0, .ref 90, .int x3, v4, .retAddr 0, v6, .retAddr 0] [.int s0, .int s1] (zSH, G) = if s1 = s0 then zden 195 1125 [.ref 2000000, .ref 0, .ref 90, .int x3, v4, .retAddr 0, v6, .retAddr 0] [] (zSH, G) else some (some (.int 0), (zSH, G)) :=
  (zd_icmp_eq a_L_law_468 rfl).trans (zitc (fun p508 => rfl) (fun p508 => (zd_iconst (v := 0) a_L_law_471 (by decide)).trans (zd_iret a_L_law_472 rfl (by decide))))
theorem B_L_law_473 {G : Nat → Nat → Int32} {x3 : Int32} {v4 v6 : Value} (z478_0 : 0 ≤ (x3 + 1) ∧ (x3 + 1) < G 2000001 0) (z483_1 : 0 ≤ (x3 + 2) ∧ (x3 + 2) < G 2000001 0) : zden 195 473 [.ref 2000000, .ref 0, .ref 90, .int x3, v4, .retAddr 0, v6, .retAddr 0] [] (zSH, G) = zaft 195 487 [.ref 2000000, .ref 0, .ref 90, .int x3, v4, .retAddr 0, v6, .retAddr 0] [] (zSH, G) (zden 79 0 [.ref 0, .int (G 2000000 (x3 + 1).toNatClampNeg), .int (G 2000000 (x3 + 2).toNatClampNeg)] [] (zSH, G)) :=
  (zd_aload_n a_L_law_473 rfl).trans ((zd_aload_n a_L_law_474 rfl).trans ((zd_iload_n a_L_law_475 rfl).trans ((zd_iconst (v := 1) a_L_law_476 (by decide)).trans ((zd_num (st2 := [.int (x3 + 1), .ref 2000000, .ref 0]) a_L_law_477 rfl rfl rfl rfl).trans ((zd_sald (h := (zSH, G)) a_L_law_478 rfl z478_0).trans ((zd_aload_n a_L_law_479 rfl).trans ((zd_iload_n a_L_law_480 rfl).trans ((zd_iconst (v := 2) a_L_law_481 (by decide)).trans ((zd_num (st2 := [.int (x3 + 2), .ref 2000000, .int (G 2000000 (x3 + 1).toNatClampNeg), .ref 0]) a_L_law_482 rfl rfl rfl rfl).trans ((zd_sald (h := (zSH, G)) a_L_law_483 rfl z483_1).trans ((zd_cal (kd := 0) (tg := 79) (T := m_T_part) a_L_law_484 (by decide +kernel) hm_T_part rfl rfl rfl rfl))))))))))))
theorem B_L_law_487 {G : Nat → Nat → Int32} {x3 s0 : Int32} {v4 v6 : Value} (z492_0 : 0 ≤ (x3 + 1) ∧ (x3 + 1) < G 2000001 0) (z497_1 : 0 ≤ (x3 + 2) ∧ (x3 + 2) < G 2000001 0) : zden 195 487 [.ref 2000000, .ref 0, .ref 90, .int x3, v4, .retAddr 0, v6, .retAddr 0] [.int s0] (zSH, G) = zaft 195 501 [.ref 2000000, .ref 0, .ref 90, .int x3, v4, .retAddr 0, v6, .retAddr 0] [.int s0] (zSH, G) (zden 135 0 [.ref 90, .int (G 2000000 (x3 + 1).toNatClampNeg), .int (G 2000000 (x3 + 2).toNatClampNeg)] [] (zSH, G)) :=
  (zd_aload_n a_L_law_487 rfl).trans ((zd_aload_n a_L_law_488 rfl).trans ((zd_iload_n a_L_law_489 rfl).trans ((zd_iconst (v := 1) a_L_law_490 (by decide)).trans ((zd_num (st2 := [.int (x3 + 1), .ref 2000000, .ref 90, .int s0]) a_L_law_491 rfl rfl rfl rfl).trans ((zd_sald (h := (zSH, G)) a_L_law_492 rfl z492_0).trans ((zd_aload_n a_L_law_493 rfl).trans ((zd_iload_n a_L_law_494 rfl).trans ((zd_iconst (v := 2) a_L_law_495 (by decide)).trans ((zd_num (st2 := [.int (x3 + 2), .ref 2000000, .int (G 2000000 (x3 + 1).toNatClampNeg), .ref 90, .int s0]) a_L_law_496 rfl rfl rfl rfl).trans ((zd_sald (h := (zSH, G)) a_L_law_497 rfl z497_1).trans ((zd_cal (kd := 0) (tg := 135) (T := m_M_part) a_L_law_498 (by decide +kernel) hm_M_part rfl rfl rfl rfl))))))))))))
theorem B_L_law_501 {G : Nat → Nat → Int32} {x3 s0 s1 : Int32} {v4 v6 : Value} : zden 195 501 [.ref 2000000, .ref 0, .ref 90, .int x3, v4, .retAddr 0, v6, .retAddr 0] [.int s0, .int s1] (zSH, G) = if s1 = s0 then zden 195 1125 [.ref 2000000, .ref 0, .ref 90, .int x3, v4, .retAddr 0, v6, .retAddr 0] [] (zSH, G) else some (some (.int 0), (zSH, G)) :=
  (zd_icmp_eq a_L_law_501 rfl).trans (zitc (fun p509 => rfl) (fun p509 => (zd_iconst (v := 0) a_L_law_504 (by decide)).trans (zd_iret a_L_law_505 rfl (by decide))))
theorem B_L_law_506 {G : Nat → Nat → Int32} {x3 : Int32} {v4 v6 : Value} (z511_0 : 0 ≤ (x3 + 1) ∧ (x3 + 1) < G 2000001 0) (z516_1 : 0 ≤ (x3 + 2) ∧ (x3 + 2) < G 2000001 0) : zden 195 506 [.ref 2000000, .ref 0, .ref 90, .int x3, v4, .retAddr 0, v6, .retAddr 0] [] (zSH, G) = zaft 195 520 [.ref 2000000, .ref 0, .ref 90, .int x3, v4, .retAddr 0, v6, .retAddr 0] [] (zSH, G) (zden 80 0 [.ref 0, .int (G 2000000 (x3 + 1).toNatClampNeg), .int (G 2000000 (x3 + 2).toNatClampNeg)] [] (zSH, G)) :=
  (zd_aload_n a_L_law_506 rfl).trans ((zd_aload_n a_L_law_507 rfl).trans ((zd_iload_n a_L_law_508 rfl).trans ((zd_iconst (v := 1) a_L_law_509 (by decide)).trans ((zd_num (st2 := [.int (x3 + 1), .ref 2000000, .ref 0]) a_L_law_510 rfl rfl rfl rfl).trans ((zd_sald (h := (zSH, G)) a_L_law_511 rfl z511_0).trans ((zd_aload_n a_L_law_512 rfl).trans ((zd_iload_n a_L_law_513 rfl).trans ((zd_iconst (v := 2) a_L_law_514 (by decide)).trans ((zd_num (st2 := [.int (x3 + 2), .ref 2000000, .int (G 2000000 (x3 + 1).toNatClampNeg), .ref 0]) a_L_law_515 rfl rfl rfl rfl).trans ((zd_sald (h := (zSH, G)) a_L_law_516 rfl z516_1).trans ((zd_cal (kd := 0) (tg := 80) (T := m_T_points) a_L_law_517 (by decide +kernel) hm_T_points rfl rfl rfl rfl))))))))))))
theorem B_L_law_520 {G : Nat → Nat → Int32} {x3 s0 : Int32} {v4 v6 : Value} (z525_0 : 0 ≤ (x3 + 1) ∧ (x3 + 1) < G 2000001 0) (z530_1 : 0 ≤ (x3 + 2) ∧ (x3 + 2) < G 2000001 0) : zden 195 520 [.ref 2000000, .ref 0, .ref 90, .int x3, v4, .retAddr 0, v6, .retAddr 0] [.int s0] (zSH, G) = zaft 195 534 [.ref 2000000, .ref 0, .ref 90, .int x3, v4, .retAddr 0, v6, .retAddr 0] [.int s0] (zSH, G) (zden 136 0 [.ref 90, .int (G 2000000 (x3 + 1).toNatClampNeg), .int (G 2000000 (x3 + 2).toNatClampNeg)] [] (zSH, G)) :=
  (zd_aload_n a_L_law_520 rfl).trans ((zd_aload_n a_L_law_521 rfl).trans ((zd_iload_n a_L_law_522 rfl).trans ((zd_iconst (v := 1) a_L_law_523 (by decide)).trans ((zd_num (st2 := [.int (x3 + 1), .ref 2000000, .ref 90, .int s0]) a_L_law_524 rfl rfl rfl rfl).trans ((zd_sald (h := (zSH, G)) a_L_law_525 rfl z525_0).trans ((zd_aload_n a_L_law_526 rfl).trans ((zd_iload_n a_L_law_527 rfl).trans ((zd_iconst (v := 2) a_L_law_528 (by decide)).trans ((zd_num (st2 := [.int (x3 + 2), .ref 2000000, .int (G 2000000 (x3 + 1).toNatClampNeg), .ref 90, .int s0]) a_L_law_529 rfl rfl rfl rfl).trans ((zd_sald (h := (zSH, G)) a_L_law_530 rfl z530_1).trans ((zd_cal (kd := 0) (tg := 136) (T := m_M_points) a_L_law_531 (by decide +kernel) hm_M_points rfl rfl rfl rfl))))))))))))
theorem B_L_law_534 {G : Nat → Nat → Int32} {x3 s0 s1 : Int32} {v4 v6 : Value} : zden 195 534 [.ref 2000000, .ref 0, .ref 90, .int x3, v4, .retAddr 0, v6, .retAddr 0] [.int s0, .int s1] (zSH, G) = if s1 = s0 then zden 195 1125 [.ref 2000000, .ref 0, .ref 90, .int x3, v4, .retAddr 0, v6, .retAddr 0] [] (zSH, G) else some (some (.int 0), (zSH, G)) :=
  (zd_icmp_eq a_L_law_534 rfl).trans (zitc (fun p510 => rfl) (fun p510 => (zd_iconst (v := 0) a_L_law_537 (by decide)).trans (zd_iret a_L_law_538 rfl (by decide))))
theorem B_L_law_539 {G : Nat → Nat → Int32} {x3 : Int32} {v4 v6 : Value} (z544_0 : 0 ≤ (x3 + 1) ∧ (x3 + 1) < G 2000001 0) (z549_1 : 0 ≤ (x3 + 2) ∧ (x3 + 2) < G 2000001 0) : zden 195 539 [.ref 2000000, .ref 0, .ref 90, .int x3, v4, .retAddr 0, v6, .retAddr 0] [] (zSH, G) = zaft 195 553 [.ref 2000000, .ref 0, .ref 90, .int x3, v4, .retAddr 0, v6, .retAddr 0] [] (zSH, G) (zden 81 0 [.ref 0, .int (G 2000000 (x3 + 1).toNatClampNeg), .int (G 2000000 (x3 + 2).toNatClampNeg), .retAddr 0] [] (zSH, G)) :=
  (zd_aload_n a_L_law_539 rfl).trans ((zd_aload_n a_L_law_540 rfl).trans ((zd_iload_n a_L_law_541 rfl).trans ((zd_iconst (v := 1) a_L_law_542 (by decide)).trans ((zd_num (st2 := [.int (x3 + 1), .ref 2000000, .ref 0]) a_L_law_543 rfl rfl rfl rfl).trans ((zd_sald (h := (zSH, G)) a_L_law_544 rfl z544_0).trans ((zd_aload_n a_L_law_545 rfl).trans ((zd_iload_n a_L_law_546 rfl).trans ((zd_iconst (v := 2) a_L_law_547 (by decide)).trans ((zd_num (st2 := [.int (x3 + 2), .ref 2000000, .int (G 2000000 (x3 + 1).toNatClampNeg), .ref 0]) a_L_law_548 rfl rfl rfl rfl).trans ((zd_sald (h := (zSH, G)) a_L_law_549 rfl z549_1).trans ((zd_cal (kd := 0) (tg := 81) (T := m_T_fit) a_L_law_550 (by decide +kernel) hm_T_fit rfl rfl rfl rfl))))))))))))
theorem B_L_law_553 {G : Nat → Nat → Int32} {x3 s0 : Int32} {v4 v6 : Value} (z558_0 : 0 ≤ (x3 + 1) ∧ (x3 + 1) < G 2000001 0) (z563_1 : 0 ≤ (x3 + 2) ∧ (x3 + 2) < G 2000001 0) : zden 195 553 [.ref 2000000, .ref 0, .ref 90, .int x3, v4, .retAddr 0, v6, .retAddr 0] [.int s0] (zSH, G) = zaft 195 567 [.ref 2000000, .ref 0, .ref 90, .int x3, v4, .retAddr 0, v6, .retAddr 0] [.int s0] (zSH, G) (zden 137 0 [.ref 90, .int (G 2000000 (x3 + 1).toNatClampNeg), .int (G 2000000 (x3 + 2).toNatClampNeg), .retAddr 0] [] (zSH, G)) :=
  (zd_aload_n a_L_law_553 rfl).trans ((zd_aload_n a_L_law_554 rfl).trans ((zd_iload_n a_L_law_555 rfl).trans ((zd_iconst (v := 1) a_L_law_556 (by decide)).trans ((zd_num (st2 := [.int (x3 + 1), .ref 2000000, .ref 90, .int s0]) a_L_law_557 rfl rfl rfl rfl).trans ((zd_sald (h := (zSH, G)) a_L_law_558 rfl z558_0).trans ((zd_aload_n a_L_law_559 rfl).trans ((zd_iload_n a_L_law_560 rfl).trans ((zd_iconst (v := 2) a_L_law_561 (by decide)).trans ((zd_num (st2 := [.int (x3 + 2), .ref 2000000, .int (G 2000000 (x3 + 1).toNatClampNeg), .ref 90, .int s0]) a_L_law_562 rfl rfl rfl rfl).trans ((zd_sald (h := (zSH, G)) a_L_law_563 rfl z563_1).trans ((zd_cal (kd := 0) (tg := 137) (T := m_M_fit) a_L_law_564 (by decide +kernel) hm_M_fit rfl rfl rfl rfl))))))))))))
theorem B_L_law_567 {G : Nat → Nat → Int32} {x3 s0 s1 : Int32} {v4 v6 : Value} : zden 195 567 [.ref 2000000, .ref 0, .ref 90, .int x3, v4, .retAddr 0, v6, .retAddr 0] [.int s0, .int s1] (zSH, G) = if s1 = s0 then zden 195 1125 [.ref 2000000, .ref 0, .ref 90, .int x3, v4, .retAddr 0, v6, .retAddr 0] [] (zSH, G) else some (some (.int 0), (zSH, G)) :=
  (zd_icmp_eq a_L_law_567 rfl).trans (zitc (fun p511 => rfl) (fun p511 => (zd_iconst (v := 0) a_L_law_570 (by decide)).trans (zd_iret a_L_law_571 rfl (by decide))))
theorem B_L_law_572 {G : Nat → Nat → Int32} {x3 : Int32} {v4 v6 : Value} (z577_0 : 0 ≤ (x3 + 1) ∧ (x3 + 1) < G 2000001 0) : zden 195 572 [.ref 2000000, .ref 0, .ref 90, .int x3, v4, .retAddr 0, v6, .retAddr 0] [] (zSH, G) = zaft 195 581 [.ref 2000000, .ref 0, .ref 90, .int x3, v4, .retAddr 0, v6, .retAddr 0] [] (zSH, G) (zden 82 0 [.ref 0, .int (G 2000000 (x3 + 1).toNatClampNeg)] [] (zSH, G)) :=
  (zd_aload_n a_L_law_572 rfl).trans ((zd_aload_n a_L_law_573 rfl).trans ((zd_iload_n a_L_law_574 rfl).trans ((zd_iconst (v := 1) a_L_law_575 (by decide)).trans ((zd_num (st2 := [.int (x3 + 1), .ref 2000000, .ref 0]) a_L_law_576 rfl rfl rfl rfl).trans ((zd_sald (h := (zSH, G)) a_L_law_577 rfl z577_0).trans ((zd_cal (kd := 0) (tg := 82) (T := m_T_fitAgain) a_L_law_578 (by decide +kernel) hm_T_fitAgain rfl rfl rfl rfl)))))))
theorem B_L_law_581 {G : Nat → Nat → Int32} {x3 s0 : Int32} {v4 v6 : Value} (z586_0 : 0 ≤ (x3 + 1) ∧ (x3 + 1) < G 2000001 0) : zden 195 581 [.ref 2000000, .ref 0, .ref 90, .int x3, v4, .retAddr 0, v6, .retAddr 0] [.int s0] (zSH, G) = zaft 195 590 [.ref 2000000, .ref 0, .ref 90, .int x3, v4, .retAddr 0, v6, .retAddr 0] [.int s0] (zSH, G) (zden 138 0 [.ref 90, .int (G 2000000 (x3 + 1).toNatClampNeg)] [] (zSH, G)) :=
  (zd_aload_n a_L_law_581 rfl).trans ((zd_aload_n a_L_law_582 rfl).trans ((zd_iload_n a_L_law_583 rfl).trans ((zd_iconst (v := 1) a_L_law_584 (by decide)).trans ((zd_num (st2 := [.int (x3 + 1), .ref 2000000, .ref 90, .int s0]) a_L_law_585 rfl rfl rfl rfl).trans ((zd_sald (h := (zSH, G)) a_L_law_586 rfl z586_0).trans ((zd_cal (kd := 0) (tg := 138) (T := m_M_fitAgain) a_L_law_587 (by decide +kernel) hm_M_fitAgain rfl rfl rfl rfl)))))))
theorem B_L_law_590 {G : Nat → Nat → Int32} {x3 s0 s1 : Int32} {v4 v6 : Value} : zden 195 590 [.ref 2000000, .ref 0, .ref 90, .int x3, v4, .retAddr 0, v6, .retAddr 0] [.int s0, .int s1] (zSH, G) = if s1 = s0 then zden 195 1125 [.ref 2000000, .ref 0, .ref 90, .int x3, v4, .retAddr 0, v6, .retAddr 0] [] (zSH, G) else some (some (.int 0), (zSH, G)) :=
  (zd_icmp_eq a_L_law_590 rfl).trans (zitc (fun p512 => rfl) (fun p512 => (zd_iconst (v := 0) a_L_law_593 (by decide)).trans (zd_iret a_L_law_594 rfl (by decide))))
theorem B_L_law_595 {G : Nat → Nat → Int32} {x3 : Int32} {v4 v6 : Value} (z600_0 : 0 ≤ (x3 + 1) ∧ (x3 + 1) < G 2000001 0) : zden 195 595 [.ref 2000000, .ref 0, .ref 90, .int x3, v4, .retAddr 0, v6, .retAddr 0] [] (zSH, G) = zaft 195 604 [.ref 2000000, .ref 0, .ref 90, .int x3, v4, .retAddr 0, v6, .retAddr 0] [] (zSH, G) (zden 83 0 [.ref 0, .int (G 2000000 (x3 + 1).toNatClampNeg)] [] (zSH, G)) :=
  (zd_aload_n a_L_law_595 rfl).trans ((zd_aload_n a_L_law_596 rfl).trans ((zd_iload_n a_L_law_597 rfl).trans ((zd_iconst (v := 1) a_L_law_598 (by decide)).trans ((zd_num (st2 := [.int (x3 + 1), .ref 2000000, .ref 0]) a_L_law_599 rfl rfl rfl rfl).trans ((zd_sald (h := (zSH, G)) a_L_law_600 rfl z600_0).trans ((zd_cal (kd := 0) (tg := 83) (T := m_T_why) a_L_law_601 (by decide +kernel) hm_T_why rfl rfl rfl rfl)))))))
theorem B_L_law_604 {G : Nat → Nat → Int32} {x3 s0 : Int32} {v4 v6 : Value} (z609_0 : 0 ≤ (x3 + 1) ∧ (x3 + 1) < G 2000001 0) : zden 195 604 [.ref 2000000, .ref 0, .ref 90, .int x3, v4, .retAddr 0, v6, .retAddr 0] [.int s0] (zSH, G) = zaft 195 613 [.ref 2000000, .ref 0, .ref 90, .int x3, v4, .retAddr 0, v6, .retAddr 0] [.int s0] (zSH, G) (zden 139 0 [.ref 90, .int (G 2000000 (x3 + 1).toNatClampNeg), .retAddr 0, .retAddr 0] [] (zSH, G)) :=
  (zd_aload_n a_L_law_604 rfl).trans ((zd_aload_n a_L_law_605 rfl).trans ((zd_iload_n a_L_law_606 rfl).trans ((zd_iconst (v := 1) a_L_law_607 (by decide)).trans ((zd_num (st2 := [.int (x3 + 1), .ref 2000000, .ref 90, .int s0]) a_L_law_608 rfl rfl rfl rfl).trans ((zd_sald (h := (zSH, G)) a_L_law_609 rfl z609_0).trans ((zd_cal (kd := 0) (tg := 139) (T := m_M_why) a_L_law_610 (by decide +kernel) hm_M_why rfl rfl rfl rfl)))))))
theorem B_L_law_613 {G : Nat → Nat → Int32} {x3 s0 s1 : Int32} {v4 v6 : Value} : zden 195 613 [.ref 2000000, .ref 0, .ref 90, .int x3, v4, .retAddr 0, v6, .retAddr 0] [.int s0, .int s1] (zSH, G) = if s1 = s0 then zden 195 1125 [.ref 2000000, .ref 0, .ref 90, .int x3, v4, .retAddr 0, v6, .retAddr 0] [] (zSH, G) else some (some (.int 0), (zSH, G)) :=
  (zd_icmp_eq a_L_law_613 rfl).trans (zitc (fun p513 => rfl) (fun p513 => (zd_iconst (v := 0) a_L_law_616 (by decide)).trans (zd_iret a_L_law_617 rfl (by decide))))
theorem B_L_law_618 {G : Nat → Nat → Int32} {x3 : Int32} {v4 v6 : Value} (z623_0 : 0 ≤ (x3 + 1) ∧ (x3 + 1) < G 2000001 0) (z628_1 : 0 ≤ (x3 + 2) ∧ (x3 + 2) < G 2000001 0) : zden 195 618 [.ref 2000000, .ref 0, .ref 90, .int x3, v4, .retAddr 0, v6, .retAddr 0] [] (zSH, G) = zaft 195 632 [.ref 2000000, .ref 0, .ref 90, .int x3, v4, .retAddr 0, v6, .retAddr 0] [] (zSH, G) (zden 84 0 [.ref 0, .int (G 2000000 (x3 + 1).toNatClampNeg), .int (G 2000000 (x3 + 2).toNatClampNeg)] [] (zSH, G)) :=
  (zd_aload_n a_L_law_618 rfl).trans ((zd_aload_n a_L_law_619 rfl).trans ((zd_iload_n a_L_law_620 rfl).trans ((zd_iconst (v := 1) a_L_law_621 (by decide)).trans ((zd_num (st2 := [.int (x3 + 1), .ref 2000000, .ref 0]) a_L_law_622 rfl rfl rfl rfl).trans ((zd_sald (h := (zSH, G)) a_L_law_623 rfl z623_0).trans ((zd_aload_n a_L_law_624 rfl).trans ((zd_iload_n a_L_law_625 rfl).trans ((zd_iconst (v := 2) a_L_law_626 (by decide)).trans ((zd_num (st2 := [.int (x3 + 2), .ref 2000000, .int (G 2000000 (x3 + 1).toNatClampNeg), .ref 0]) a_L_law_627 rfl rfl rfl rfl).trans ((zd_sald (h := (zSH, G)) a_L_law_628 rfl z628_1).trans ((zd_cal (kd := 0) (tg := 84) (T := m_T_favour) a_L_law_629 (by decide +kernel) hm_T_favour rfl rfl rfl rfl))))))))))))
theorem B_L_law_632 {G : Nat → Nat → Int32} {x3 s0 : Int32} {v4 v6 : Value} (z637_0 : 0 ≤ (x3 + 1) ∧ (x3 + 1) < G 2000001 0) (z642_1 : 0 ≤ (x3 + 2) ∧ (x3 + 2) < G 2000001 0) : zden 195 632 [.ref 2000000, .ref 0, .ref 90, .int x3, v4, .retAddr 0, v6, .retAddr 0] [.int s0] (zSH, G) = zaft 195 646 [.ref 2000000, .ref 0, .ref 90, .int x3, v4, .retAddr 0, v6, .retAddr 0] [.int s0] (zSH, G) (zden 140 0 [.ref 90, .int (G 2000000 (x3 + 1).toNatClampNeg), .int (G 2000000 (x3 + 2).toNatClampNeg)] [] (zSH, G)) :=
  (zd_aload_n a_L_law_632 rfl).trans ((zd_aload_n a_L_law_633 rfl).trans ((zd_iload_n a_L_law_634 rfl).trans ((zd_iconst (v := 1) a_L_law_635 (by decide)).trans ((zd_num (st2 := [.int (x3 + 1), .ref 2000000, .ref 90, .int s0]) a_L_law_636 rfl rfl rfl rfl).trans ((zd_sald (h := (zSH, G)) a_L_law_637 rfl z637_0).trans ((zd_aload_n a_L_law_638 rfl).trans ((zd_iload_n a_L_law_639 rfl).trans ((zd_iconst (v := 2) a_L_law_640 (by decide)).trans ((zd_num (st2 := [.int (x3 + 2), .ref 2000000, .int (G 2000000 (x3 + 1).toNatClampNeg), .ref 90, .int s0]) a_L_law_641 rfl rfl rfl rfl).trans ((zd_sald (h := (zSH, G)) a_L_law_642 rfl z642_1).trans ((zd_cal (kd := 0) (tg := 140) (T := m_M_favour) a_L_law_643 (by decide +kernel) hm_M_favour rfl rfl rfl rfl))))))))))))
theorem B_L_law_646 {G : Nat → Nat → Int32} {x3 s0 s1 : Int32} {v4 v6 : Value} : zden 195 646 [.ref 2000000, .ref 0, .ref 90, .int x3, v4, .retAddr 0, v6, .retAddr 0] [.int s0, .int s1] (zSH, G) = if s1 = s0 then zden 195 1125 [.ref 2000000, .ref 0, .ref 90, .int x3, v4, .retAddr 0, v6, .retAddr 0] [] (zSH, G) else some (some (.int 0), (zSH, G)) :=
  (zd_icmp_eq a_L_law_646 rfl).trans (zitc (fun p514 => rfl) (fun p514 => (zd_iconst (v := 0) a_L_law_649 (by decide)).trans (zd_iret a_L_law_650 rfl (by decide))))
theorem B_L_law_651 {G : Nat → Nat → Int32} {x3 : Int32} {v4 v6 : Value} (z656_0 : 0 ≤ (x3 + 1) ∧ (x3 + 1) < G 2000001 0) : zden 195 651 [.ref 2000000, .ref 0, .ref 90, .int x3, v4, .retAddr 0, v6, .retAddr 0] [] (zSH, G) = zaft 195 660 [.ref 2000000, .ref 0, .ref 90, .int x3, v4, .retAddr 0, v6, .retAddr 0] [] (zSH, G) (zden 85 0 [.ref 0, .int (G 2000000 (x3 + 1).toNatClampNeg)] [] (zSH, G)) :=
  (zd_aload_n a_L_law_651 rfl).trans ((zd_aload_n a_L_law_652 rfl).trans ((zd_iload_n a_L_law_653 rfl).trans ((zd_iconst (v := 1) a_L_law_654 (by decide)).trans ((zd_num (st2 := [.int (x3 + 1), .ref 2000000, .ref 0]) a_L_law_655 rfl rfl rfl rfl).trans ((zd_sald (h := (zSH, G)) a_L_law_656 rfl z656_0).trans ((zd_cal (kd := 0) (tg := 85) (T := m_T_coins) a_L_law_657 (by decide +kernel) hm_T_coins rfl rfl rfl rfl)))))))
theorem B_L_law_660 {G : Nat → Nat → Int32} {x3 s0 : Int32} {v4 v6 : Value} (z665_0 : 0 ≤ (x3 + 1) ∧ (x3 + 1) < G 2000001 0) : zden 195 660 [.ref 2000000, .ref 0, .ref 90, .int x3, v4, .retAddr 0, v6, .retAddr 0] [.int s0] (zSH, G) = zaft 195 669 [.ref 2000000, .ref 0, .ref 90, .int x3, v4, .retAddr 0, v6, .retAddr 0] [.int s0] (zSH, G) (zden 142 0 [.ref 90, .int (G 2000000 (x3 + 1).toNatClampNeg)] [] (zSH, G)) :=
  (zd_aload_n a_L_law_660 rfl).trans ((zd_aload_n a_L_law_661 rfl).trans ((zd_iload_n a_L_law_662 rfl).trans ((zd_iconst (v := 1) a_L_law_663 (by decide)).trans ((zd_num (st2 := [.int (x3 + 1), .ref 2000000, .ref 90, .int s0]) a_L_law_664 rfl rfl rfl rfl).trans ((zd_sald (h := (zSH, G)) a_L_law_665 rfl z665_0).trans ((zd_cal (kd := 0) (tg := 142) (T := m_M_coins) a_L_law_666 (by decide +kernel) hm_M_coins rfl rfl rfl rfl)))))))
theorem B_L_law_669 {G : Nat → Nat → Int32} {x3 s0 s1 : Int32} {v4 v6 : Value} : zden 195 669 [.ref 2000000, .ref 0, .ref 90, .int x3, v4, .retAddr 0, v6, .retAddr 0] [.int s0, .int s1] (zSH, G) = if s1 = s0 then zden 195 1125 [.ref 2000000, .ref 0, .ref 90, .int x3, v4, .retAddr 0, v6, .retAddr 0] [] (zSH, G) else some (some (.int 0), (zSH, G)) :=
  (zd_icmp_eq a_L_law_669 rfl).trans (zitc (fun p515 => rfl) (fun p515 => (zd_iconst (v := 0) a_L_law_672 (by decide)).trans (zd_iret a_L_law_673 rfl (by decide))))
theorem B_L_law_674 {G : Nat → Nat → Int32} {x3 : Int32} {v4 v6 : Value} (z679_0 : 0 ≤ (x3 + 1) ∧ (x3 + 1) < G 2000001 0) : zden 195 674 [.ref 2000000, .ref 0, .ref 90, .int x3, v4, .retAddr 0, v6, .retAddr 0] [] (zSH, G) = zaft 195 683 [.ref 2000000, .ref 0, .ref 90, .int x3, v4, .retAddr 0, v6, .retAddr 0] [] (zSH, G) (zden 86 0 [.ref 0, .int (G 2000000 (x3 + 1).toNatClampNeg)] [] (zSH, G)) :=
  (zd_aload_n a_L_law_674 rfl).trans ((zd_aload_n a_L_law_675 rfl).trans ((zd_iload_n a_L_law_676 rfl).trans ((zd_iconst (v := 1) a_L_law_677 (by decide)).trans ((zd_num (st2 := [.int (x3 + 1), .ref 2000000, .ref 0]) a_L_law_678 rfl rfl rfl rfl).trans ((zd_sald (h := (zSH, G)) a_L_law_679 rfl z679_0).trans ((zd_cal (kd := 0) (tg := 86) (T := m_T_enter) a_L_law_680 (by decide +kernel) hm_T_enter rfl rfl rfl rfl)))))))
theorem B_L_law_683 {G : Nat → Nat → Int32} {x3 s0 : Int32} {v4 v6 : Value} (z688_0 : 0 ≤ (x3 + 1) ∧ (x3 + 1) < G 2000001 0) : zden 195 683 [.ref 2000000, .ref 0, .ref 90, .int x3, v4, .retAddr 0, v6, .retAddr 0] [.int s0] (zSH, G) = zaft 195 692 [.ref 2000000, .ref 0, .ref 90, .int x3, v4, .retAddr 0, v6, .retAddr 0] [.int s0] (zSH, G) (zden 144 0 [.ref 90, .int (G 2000000 (x3 + 1).toNatClampNeg)] [] (zSH, G)) :=
  (zd_aload_n a_L_law_683 rfl).trans ((zd_aload_n a_L_law_684 rfl).trans ((zd_iload_n a_L_law_685 rfl).trans ((zd_iconst (v := 1) a_L_law_686 (by decide)).trans ((zd_num (st2 := [.int (x3 + 1), .ref 2000000, .ref 90, .int s0]) a_L_law_687 rfl rfl rfl rfl).trans ((zd_sald (h := (zSH, G)) a_L_law_688 rfl z688_0).trans ((zd_cal (kd := 0) (tg := 144) (T := m_M_enter) a_L_law_689 (by decide +kernel) hm_M_enter rfl rfl rfl rfl)))))))
theorem B_L_law_692 {G : Nat → Nat → Int32} {x3 s0 s1 : Int32} {v4 v6 : Value} : zden 195 692 [.ref 2000000, .ref 0, .ref 90, .int x3, v4, .retAddr 0, v6, .retAddr 0] [.int s0, .int s1] (zSH, G) = if s1 = s0 then zden 195 1125 [.ref 2000000, .ref 0, .ref 90, .int x3, v4, .retAddr 0, v6, .retAddr 0] [] (zSH, G) else some (some (.int 0), (zSH, G)) :=
  (zd_icmp_eq a_L_law_692 rfl).trans (zitc (fun p516 => rfl) (fun p516 => (zd_iconst (v := 0) a_L_law_695 (by decide)).trans (zd_iret a_L_law_696 rfl (by decide))))
theorem B_L_law_697 {G : Nat → Nat → Int32} {x3 : Int32} {v4 v6 : Value} (z702_0 : 0 ≤ (x3 + 1) ∧ (x3 + 1) < G 2000001 0) : zden 195 697 [.ref 2000000, .ref 0, .ref 90, .int x3, v4, .retAddr 0, v6, .retAddr 0] [] (zSH, G) = zaft 195 706 [.ref 2000000, .ref 0, .ref 90, .int x3, v4, .retAddr 0, v6, .retAddr 0] [] (zSH, G) (zden 87 0 [.ref 0, .int (G 2000000 (x3 + 1).toNatClampNeg)] [] (zSH, G)) :=
  (zd_aload_n a_L_law_697 rfl).trans ((zd_aload_n a_L_law_698 rfl).trans ((zd_iload_n a_L_law_699 rfl).trans ((zd_iconst (v := 1) a_L_law_700 (by decide)).trans ((zd_num (st2 := [.int (x3 + 1), .ref 2000000, .ref 0]) a_L_law_701 rfl rfl rfl rfl).trans ((zd_sald (h := (zSH, G)) a_L_law_702 rfl z702_0).trans ((zd_cal (kd := 0) (tg := 87) (T := m_T_export) a_L_law_703 (by decide +kernel) hm_T_export rfl rfl rfl rfl)))))))
theorem B_L_law_706 {G : Nat → Nat → Int32} {x3 s0 : Int32} {v4 v6 : Value} (z711_0 : 0 ≤ (x3 + 1) ∧ (x3 + 1) < G 2000001 0) : zden 195 706 [.ref 2000000, .ref 0, .ref 90, .int x3, v4, .retAddr 0, v6, .retAddr 0] [.int s0] (zSH, G) = zaft 195 715 [.ref 2000000, .ref 0, .ref 90, .int x3, v4, .retAddr 0, v6, .retAddr 0] [.int s0] (zSH, G) (zden 146 0 [.ref 90, .int (G 2000000 (x3 + 1).toNatClampNeg)] [] (zSH, G)) :=
  (zd_aload_n a_L_law_706 rfl).trans ((zd_aload_n a_L_law_707 rfl).trans ((zd_iload_n a_L_law_708 rfl).trans ((zd_iconst (v := 1) a_L_law_709 (by decide)).trans ((zd_num (st2 := [.int (x3 + 1), .ref 2000000, .ref 90, .int s0]) a_L_law_710 rfl rfl rfl rfl).trans ((zd_sald (h := (zSH, G)) a_L_law_711 rfl z711_0).trans ((zd_cal (kd := 0) (tg := 146) (T := m_M_export) a_L_law_712 (by decide +kernel) hm_M_export rfl rfl rfl rfl)))))))
theorem B_L_law_715 {G : Nat → Nat → Int32} {x3 s0 s1 : Int32} {v4 v6 : Value} : zden 195 715 [.ref 2000000, .ref 0, .ref 90, .int x3, v4, .retAddr 0, v6, .retAddr 0] [.int s0, .int s1] (zSH, G) = if s1 = s0 then zden 195 1125 [.ref 2000000, .ref 0, .ref 90, .int x3, v4, .retAddr 0, v6, .retAddr 0] [] (zSH, G) else some (some (.int 0), (zSH, G)) :=
  (zd_icmp_eq a_L_law_715 rfl).trans (zitc (fun p517 => rfl) (fun p517 => (zd_iconst (v := 0) a_L_law_718 (by decide)).trans (zd_iret a_L_law_719 rfl (by decide))))
theorem B_L_law_720 {G : Nat → Nat → Int32} {x3 : Int32} {v4 v6 : Value} (z725_0 : 0 ≤ (x3 + 1) ∧ (x3 + 1) < G 2000001 0) : zden 195 720 [.ref 2000000, .ref 0, .ref 90, .int x3, v4, .retAddr 0, v6, .retAddr 0] [] (zSH, G) = zaft 195 729 [.ref 2000000, .ref 0, .ref 90, .int x3, v4, .retAddr 0, v6, .retAddr 0] [] (zSH, G) (zden 88 0 [.ref 0, .int (G 2000000 (x3 + 1).toNatClampNeg)] [] (zSH, G)) :=
  (zd_aload_n a_L_law_720 rfl).trans ((zd_aload_n a_L_law_721 rfl).trans ((zd_iload_n a_L_law_722 rfl).trans ((zd_iconst (v := 1) a_L_law_723 (by decide)).trans ((zd_num (st2 := [.int (x3 + 1), .ref 2000000, .ref 0]) a_L_law_724 rfl rfl rfl rfl).trans ((zd_sald (h := (zSH, G)) a_L_law_725 rfl z725_0).trans ((zd_cal (kd := 0) (tg := 88) (T := m_T_days) a_L_law_726 (by decide +kernel) hm_T_days rfl rfl rfl rfl)))))))
theorem B_L_law_729 {G : Nat → Nat → Int32} {x3 s0 : Int32} {v4 v6 : Value} (z734_0 : 0 ≤ (x3 + 1) ∧ (x3 + 1) < G 2000001 0) : zden 195 729 [.ref 2000000, .ref 0, .ref 90, .int x3, v4, .retAddr 0, v6, .retAddr 0] [.int s0] (zSH, G) = zaft 195 738 [.ref 2000000, .ref 0, .ref 90, .int x3, v4, .retAddr 0, v6, .retAddr 0] [.int s0] (zSH, G) (zden 148 0 [.ref 90, .int (G 2000000 (x3 + 1).toNatClampNeg)] [] (zSH, G)) :=
  (zd_aload_n a_L_law_729 rfl).trans ((zd_aload_n a_L_law_730 rfl).trans ((zd_iload_n a_L_law_731 rfl).trans ((zd_iconst (v := 1) a_L_law_732 (by decide)).trans ((zd_num (st2 := [.int (x3 + 1), .ref 2000000, .ref 90, .int s0]) a_L_law_733 rfl rfl rfl rfl).trans ((zd_sald (h := (zSH, G)) a_L_law_734 rfl z734_0).trans ((zd_cal (kd := 0) (tg := 148) (T := m_M_days) a_L_law_735 (by decide +kernel) hm_M_days rfl rfl rfl rfl)))))))
theorem B_L_law_738 {G : Nat → Nat → Int32} {x3 s0 s1 : Int32} {v4 v6 : Value} : zden 195 738 [.ref 2000000, .ref 0, .ref 90, .int x3, v4, .retAddr 0, v6, .retAddr 0] [.int s0, .int s1] (zSH, G) = if s1 = s0 then zden 195 1125 [.ref 2000000, .ref 0, .ref 90, .int x3, v4, .retAddr 0, v6, .retAddr 0] [] (zSH, G) else some (some (.int 0), (zSH, G)) :=
  (zd_icmp_eq a_L_law_738 rfl).trans (zitc (fun p518 => rfl) (fun p518 => (zd_iconst (v := 0) a_L_law_741 (by decide)).trans (zd_iret a_L_law_742 rfl (by decide))))
theorem B_L_law_743 {G : Nat → Nat → Int32} {x3 : Int32} {v4 v6 : Value} (z748_0 : 0 ≤ (x3 + 1) ∧ (x3 + 1) < G 2000001 0) (z753_1 : 0 ≤ (x3 + 2) ∧ (x3 + 2) < G 2000001 0) : zden 195 743 [.ref 2000000, .ref 0, .ref 90, .int x3, v4, .retAddr 0, v6, .retAddr 0] [] (zSH, G) = zaft 195 757 [.ref 2000000, .ref 0, .ref 90, .int x3, v4, .retAddr 0, v6, .retAddr 0] [] (zSH, G) (zden 89 0 [.ref 0, .int (G 2000000 (x3 + 1).toNatClampNeg), .int (G 2000000 (x3 + 2).toNatClampNeg)] [] (zSH, G)) :=
  (zd_aload_n a_L_law_743 rfl).trans ((zd_aload_n a_L_law_744 rfl).trans ((zd_iload_n a_L_law_745 rfl).trans ((zd_iconst (v := 1) a_L_law_746 (by decide)).trans ((zd_num (st2 := [.int (x3 + 1), .ref 2000000, .ref 0]) a_L_law_747 rfl rfl rfl rfl).trans ((zd_sald (h := (zSH, G)) a_L_law_748 rfl z748_0).trans ((zd_aload_n a_L_law_749 rfl).trans ((zd_iload_n a_L_law_750 rfl).trans ((zd_iconst (v := 2) a_L_law_751 (by decide)).trans ((zd_num (st2 := [.int (x3 + 2), .ref 2000000, .int (G 2000000 (x3 + 1).toNatClampNeg), .ref 0]) a_L_law_752 rfl rfl rfl rfl).trans ((zd_sald (h := (zSH, G)) a_L_law_753 rfl z753_1).trans ((zd_cal (kd := 0) (tg := 89) (T := m_T_would) a_L_law_754 (by decide +kernel) hm_T_would rfl rfl rfl rfl))))))))))))
theorem B_L_law_757 {G : Nat → Nat → Int32} {x3 s0 : Int32} {v4 v6 : Value} (z762_0 : 0 ≤ (x3 + 1) ∧ (x3 + 1) < G 2000001 0) (z767_1 : 0 ≤ (x3 + 2) ∧ (x3 + 2) < G 2000001 0) : zden 195 757 [.ref 2000000, .ref 0, .ref 90, .int x3, v4, .retAddr 0, v6, .retAddr 0] [.int s0] (zSH, G) = zaft 195 771 [.ref 2000000, .ref 0, .ref 90, .int x3, v4, .retAddr 0, v6, .retAddr 0] [.int s0] (zSH, G) (zden 150 0 [.ref 90, .int (G 2000000 (x3 + 1).toNatClampNeg), .int (G 2000000 (x3 + 2).toNatClampNeg)] [] (zSH, G)) :=
  (zd_aload_n a_L_law_757 rfl).trans ((zd_aload_n a_L_law_758 rfl).trans ((zd_iload_n a_L_law_759 rfl).trans ((zd_iconst (v := 1) a_L_law_760 (by decide)).trans ((zd_num (st2 := [.int (x3 + 1), .ref 2000000, .ref 90, .int s0]) a_L_law_761 rfl rfl rfl rfl).trans ((zd_sald (h := (zSH, G)) a_L_law_762 rfl z762_0).trans ((zd_aload_n a_L_law_763 rfl).trans ((zd_iload_n a_L_law_764 rfl).trans ((zd_iconst (v := 2) a_L_law_765 (by decide)).trans ((zd_num (st2 := [.int (x3 + 2), .ref 2000000, .int (G 2000000 (x3 + 1).toNatClampNeg), .ref 90, .int s0]) a_L_law_766 rfl rfl rfl rfl).trans ((zd_sald (h := (zSH, G)) a_L_law_767 rfl z767_1).trans ((zd_cal (kd := 0) (tg := 150) (T := m_M_would) a_L_law_768 (by decide +kernel) hm_M_would rfl rfl rfl rfl))))))))))))
theorem B_L_law_771 {G : Nat → Nat → Int32} {x3 s0 s1 : Int32} {v4 v6 : Value} : zden 195 771 [.ref 2000000, .ref 0, .ref 90, .int x3, v4, .retAddr 0, v6, .retAddr 0] [.int s0, .int s1] (zSH, G) = if s1 = s0 then zden 195 1125 [.ref 2000000, .ref 0, .ref 90, .int x3, v4, .retAddr 0, v6, .retAddr 0] [] (zSH, G) else some (some (.int 0), (zSH, G)) :=
  (zd_icmp_eq a_L_law_771 rfl).trans (zitc (fun p519 => rfl) (fun p519 => (zd_iconst (v := 0) a_L_law_774 (by decide)).trans (zd_iret a_L_law_775 rfl (by decide))))
theorem B_L_law_776 {G : Nat → Nat → Int32} {x3 : Int32} {v4 v6 : Value} (z781_0 : 0 ≤ (x3 + 1) ∧ (x3 + 1) < G 2000001 0) : zden 195 776 [.ref 2000000, .ref 0, .ref 90, .int x3, v4, .retAddr 0, v6, .retAddr 0] [] (zSH, G) = zaft 195 785 [.ref 2000000, .ref 0, .ref 90, .int x3, v4, .retAddr 0, v6, .retAddr 0] [] (zSH, G) (zden 90 0 [.ref 0, .int (G 2000000 (x3 + 1).toNatClampNeg), .retAddr 0, .retAddr 0, .retAddr 0, .retAddr 0] [] (zSH, G)) :=
  (zd_aload_n a_L_law_776 rfl).trans ((zd_aload_n a_L_law_777 rfl).trans ((zd_iload_n a_L_law_778 rfl).trans ((zd_iconst (v := 1) a_L_law_779 (by decide)).trans ((zd_num (st2 := [.int (x3 + 1), .ref 2000000, .ref 0]) a_L_law_780 rfl rfl rfl rfl).trans ((zd_sald (h := (zSH, G)) a_L_law_781 rfl z781_0).trans ((zd_cal (kd := 0) (tg := 90) (T := m_T_cheapest) a_L_law_782 (by decide +kernel) hm_T_cheapest rfl rfl rfl rfl)))))))
theorem B_L_law_785 {G : Nat → Nat → Int32} {x3 s0 : Int32} {v4 v6 : Value} (z790_0 : 0 ≤ (x3 + 1) ∧ (x3 + 1) < G 2000001 0) : zden 195 785 [.ref 2000000, .ref 0, .ref 90, .int x3, v4, .retAddr 0, v6, .retAddr 0] [.int s0] (zSH, G) = zaft 195 794 [.ref 2000000, .ref 0, .ref 90, .int x3, v4, .retAddr 0, v6, .retAddr 0] [.int s0] (zSH, G) (zden 151 0 [.ref 90, .int (G 2000000 (x3 + 1).toNatClampNeg), .retAddr 0, .retAddr 0] [] (zSH, G)) :=
  (zd_aload_n a_L_law_785 rfl).trans ((zd_aload_n a_L_law_786 rfl).trans ((zd_iload_n a_L_law_787 rfl).trans ((zd_iconst (v := 1) a_L_law_788 (by decide)).trans ((zd_num (st2 := [.int (x3 + 1), .ref 2000000, .ref 90, .int s0]) a_L_law_789 rfl rfl rfl rfl).trans ((zd_sald (h := (zSH, G)) a_L_law_790 rfl z790_0).trans ((zd_cal (kd := 0) (tg := 151) (T := m_M_cheapest) a_L_law_791 (by decide +kernel) hm_M_cheapest rfl rfl rfl rfl)))))))
theorem B_L_law_794 {G : Nat → Nat → Int32} {x3 s0 s1 : Int32} {v4 v6 : Value} : zden 195 794 [.ref 2000000, .ref 0, .ref 90, .int x3, v4, .retAddr 0, v6, .retAddr 0] [.int s0, .int s1] (zSH, G) = if s1 = s0 then zden 195 1125 [.ref 2000000, .ref 0, .ref 90, .int x3, v4, .retAddr 0, v6, .retAddr 0] [] (zSH, G) else some (some (.int 0), (zSH, G)) :=
  (zd_icmp_eq a_L_law_794 rfl).trans (zitc (fun p520 => rfl) (fun p520 => (zd_iconst (v := 0) a_L_law_797 (by decide)).trans (zd_iret a_L_law_798 rfl (by decide))))
theorem B_L_law_799 {G : Nat → Nat → Int32} {x3 : Int32} {v4 v6 : Value} (z804_0 : 0 ≤ (x3 + 1) ∧ (x3 + 1) < G 2000001 0) : zden 195 799 [.ref 2000000, .ref 0, .ref 90, .int x3, v4, .retAddr 0, v6, .retAddr 0] [] (zSH, G) = zaft 195 808 [.ref 2000000, .ref 0, .ref 90, .int x3, v4, .retAddr 0, v6, .retAddr 0] [] (zSH, G) (zden 91 0 [.ref 0, .int (G 2000000 (x3 + 1).toNatClampNeg)] [] (zSH, G)) :=
  (zd_aload_n a_L_law_799 rfl).trans ((zd_aload_n a_L_law_800 rfl).trans ((zd_iload_n a_L_law_801 rfl).trans ((zd_iconst (v := 1) a_L_law_802 (by decide)).trans ((zd_num (st2 := [.int (x3 + 1), .ref 2000000, .ref 0]) a_L_law_803 rfl rfl rfl rfl).trans ((zd_sald (h := (zSH, G)) a_L_law_804 rfl z804_0).trans ((zd_cal (kd := 0) (tg := 91) (T := m_T_ranked) a_L_law_805 (by decide +kernel) hm_T_ranked rfl rfl rfl rfl)))))))
theorem B_L_law_808 {G : Nat → Nat → Int32} {x3 s0 : Int32} {v4 v6 : Value} (z813_0 : 0 ≤ (x3 + 1) ∧ (x3 + 1) < G 2000001 0) : zden 195 808 [.ref 2000000, .ref 0, .ref 90, .int x3, v4, .retAddr 0, v6, .retAddr 0] [.int s0] (zSH, G) = zaft 195 817 [.ref 2000000, .ref 0, .ref 90, .int x3, v4, .retAddr 0, v6, .retAddr 0] [.int s0] (zSH, G) (zden 152 0 [.ref 90, .int (G 2000000 (x3 + 1).toNatClampNeg), .retAddr 0, .retAddr 0, .retAddr 0] [] (zSH, G)) :=
  (zd_aload_n a_L_law_808 rfl).trans ((zd_aload_n a_L_law_809 rfl).trans ((zd_iload_n a_L_law_810 rfl).trans ((zd_iconst (v := 1) a_L_law_811 (by decide)).trans ((zd_num (st2 := [.int (x3 + 1), .ref 2000000, .ref 90, .int s0]) a_L_law_812 rfl rfl rfl rfl).trans ((zd_sald (h := (zSH, G)) a_L_law_813 rfl z813_0).trans ((zd_cal (kd := 0) (tg := 152) (T := m_M_ranked) a_L_law_814 (by decide +kernel) hm_M_ranked rfl rfl rfl rfl)))))))
theorem B_L_law_817 {G : Nat → Nat → Int32} {x3 s0 s1 : Int32} {v4 v6 : Value} : zden 195 817 [.ref 2000000, .ref 0, .ref 90, .int x3, v4, .retAddr 0, v6, .retAddr 0] [.int s0, .int s1] (zSH, G) = if s1 = s0 then zden 195 1125 [.ref 2000000, .ref 0, .ref 90, .int x3, v4, .retAddr 0, v6, .retAddr 0] [] (zSH, G) else some (some (.int 0), (zSH, G)) :=
  (zd_icmp_eq a_L_law_817 rfl).trans (zitc (fun p521 => rfl) (fun p521 => (zd_iconst (v := 0) a_L_law_820 (by decide)).trans (zd_iret a_L_law_821 rfl (by decide))))
theorem B_L_law_822 {G : Nat → Nat → Int32} {x3 : Int32} {v4 v6 : Value} (z827_0 : 0 ≤ (x3 + 1) ∧ (x3 + 1) < G 2000001 0) : zden 195 822 [.ref 2000000, .ref 0, .ref 90, .int x3, v4, .retAddr 0, v6, .retAddr 0] [] (zSH, G) = zaft 195 831 [.ref 2000000, .ref 0, .ref 90, .int x3, v4, .retAddr 0, v6, .retAddr 0] [] (zSH, G) (zden 92 0 [.ref 0, .int (G 2000000 (x3 + 1).toNatClampNeg)] [] (zSH, G)) :=
  (zd_aload_n a_L_law_822 rfl).trans ((zd_aload_n a_L_law_823 rfl).trans ((zd_iload_n a_L_law_824 rfl).trans ((zd_iconst (v := 1) a_L_law_825 (by decide)).trans ((zd_num (st2 := [.int (x3 + 1), .ref 2000000, .ref 0]) a_L_law_826 rfl rfl rfl rfl).trans ((zd_sald (h := (zSH, G)) a_L_law_827 rfl z827_0).trans ((zd_cal (kd := 0) (tg := 92) (T := m_T_append) a_L_law_828 (by decide +kernel) hm_T_append rfl rfl rfl rfl)))))))
theorem B_L_law_831 {G : Nat → Nat → Int32} {x3 s0 : Int32} {v4 v6 : Value} (z836_0 : 0 ≤ (x3 + 1) ∧ (x3 + 1) < G 2000001 0) : zden 195 831 [.ref 2000000, .ref 0, .ref 90, .int x3, v4, .retAddr 0, v6, .retAddr 0] [.int s0] (zSH, G) = zaft 195 840 [.ref 2000000, .ref 0, .ref 90, .int x3, v4, .retAddr 0, v6, .retAddr 0] [.int s0] (zSH, G) (zden 154 0 [.ref 90, .int (G 2000000 (x3 + 1).toNatClampNeg)] [] (zSH, G)) :=
  (zd_aload_n a_L_law_831 rfl).trans ((zd_aload_n a_L_law_832 rfl).trans ((zd_iload_n a_L_law_833 rfl).trans ((zd_iconst (v := 1) a_L_law_834 (by decide)).trans ((zd_num (st2 := [.int (x3 + 1), .ref 2000000, .ref 90, .int s0]) a_L_law_835 rfl rfl rfl rfl).trans ((zd_sald (h := (zSH, G)) a_L_law_836 rfl z836_0).trans ((zd_cal (kd := 0) (tg := 154) (T := m_M_append) a_L_law_837 (by decide +kernel) hm_M_append rfl rfl rfl rfl)))))))
theorem B_L_law_840 {G : Nat → Nat → Int32} {x3 s0 s1 : Int32} {v4 v6 : Value} : zden 195 840 [.ref 2000000, .ref 0, .ref 90, .int x3, v4, .retAddr 0, v6, .retAddr 0] [.int s0, .int s1] (zSH, G) = if s1 = s0 then zden 195 1125 [.ref 2000000, .ref 0, .ref 90, .int x3, v4, .retAddr 0, v6, .retAddr 0] [] (zSH, G) else some (some (.int 0), (zSH, G)) :=
  (zd_icmp_eq a_L_law_840 rfl).trans (zitc (fun p522 => rfl) (fun p522 => (zd_iconst (v := 0) a_L_law_843 (by decide)).trans (zd_iret a_L_law_844 rfl (by decide))))
theorem B_L_law_845 {G : Nat → Nat → Int32} {x3 : Int32} {v4 v6 : Value} : zden 195 845 [.ref 2000000, .ref 0, .ref 90, .int x3, v4, .retAddr 0, v6, .retAddr 0] [] (zSH, G) = zaft 195 849 [.ref 2000000, .ref 0, .ref 90, .int x3, v4, .retAddr 0, v6, .retAddr 0] [] (zSH, G) (zden 93 0 [.ref 0, .retAddr 0, .retAddr 0] [] (zSH, G)) :=
  (zd_aload_n a_L_law_845 rfl).trans ((zd_cal (kd := 0) (tg := 93) (T := m_T_run) a_L_law_846 (by decide +kernel) hm_T_run rfl rfl rfl rfl))
theorem B_L_law_849 {G : Nat → Nat → Int32} {x3 s0 : Int32} {v4 v6 : Value} : zden 195 849 [.ref 2000000, .ref 0, .ref 90, .int x3, v4, .retAddr 0, v6, .retAddr 0] [.int s0] (zSH, G) = zaft 195 853 [.ref 2000000, .ref 0, .ref 90, .int x3, v4, .retAddr 0, v6, .retAddr 0] [.int s0] (zSH, G) (zden 155 0 [.ref 90, .retAddr 0] [] (zSH, G)) :=
  (zd_aload_n a_L_law_849 rfl).trans ((zd_cal (kd := 0) (tg := 155) (T := m_M_run) a_L_law_850 (by decide +kernel) hm_M_run rfl rfl rfl rfl))
theorem B_L_law_853 {G : Nat → Nat → Int32} {x3 s0 s1 : Int32} {v4 v6 : Value} : zden 195 853 [.ref 2000000, .ref 0, .ref 90, .int x3, v4, .retAddr 0, v6, .retAddr 0] [.int s0, .int s1] (zSH, G) = if s1 = s0 then zden 195 1125 [.ref 2000000, .ref 0, .ref 90, .int x3, v4, .retAddr 0, v6, .retAddr 0] [] (zSH, G) else some (some (.int 0), (zSH, G)) :=
  (zd_icmp_eq a_L_law_853 rfl).trans (zitc (fun p523 => rfl) (fun p523 => (zd_iconst (v := 0) a_L_law_856 (by decide)).trans (zd_iret a_L_law_857 rfl (by decide))))
theorem B_L_law_858 {G : Nat → Nat → Int32} {x3 : Int32} {v4 v6 : Value} (z863_0 : 0 ≤ (x3 + 1) ∧ (x3 + 1) < G 2000001 0) : zden 195 858 [.ref 2000000, .ref 0, .ref 90, .int x3, v4, .retAddr 0, v6, .retAddr 0] [] (zSH, G) = zaft 195 867 [.ref 2000000, .ref 0, .ref 90, .int x3, v4, .retAddr 0, v6, .retAddr 0] [] (zSH, G) (zden 94 0 [.ref 0, .int (G 2000000 (x3 + 1).toNatClampNeg)] [] (zSH, G)) :=
  (zd_aload_n a_L_law_858 rfl).trans ((zd_aload_n a_L_law_859 rfl).trans ((zd_iload_n a_L_law_860 rfl).trans ((zd_iconst (v := 1) a_L_law_861 (by decide)).trans ((zd_num (st2 := [.int (x3 + 1), .ref 2000000, .ref 0]) a_L_law_862 rfl rfl rfl rfl).trans ((zd_sald (h := (zSH, G)) a_L_law_863 rfl z863_0).trans ((zd_cal (kd := 0) (tg := 94) (T := m_T_tell) a_L_law_864 (by decide +kernel) hm_T_tell rfl rfl rfl rfl)))))))
theorem B_L_law_867 {G : Nat → Nat → Int32} {x3 s0 : Int32} {v4 v6 : Value} (z872_0 : 0 ≤ (x3 + 1) ∧ (x3 + 1) < G 2000001 0) : zden 195 867 [.ref 2000000, .ref 0, .ref 90, .int x3, v4, .retAddr 0, v6, .retAddr 0] [.int s0] (zSH, G) = zaft 195 876 [.ref 2000000, .ref 0, .ref 90, .int x3, v4, .retAddr 0, v6, .retAddr 0] [.int s0] (zSH, G) (zden 167 0 [.ref 90, .int (G 2000000 (x3 + 1).toNatClampNeg), .retAddr 0] [] (zSH, G)) :=
  (zd_aload_n a_L_law_867 rfl).trans ((zd_aload_n a_L_law_868 rfl).trans ((zd_iload_n a_L_law_869 rfl).trans ((zd_iconst (v := 1) a_L_law_870 (by decide)).trans ((zd_num (st2 := [.int (x3 + 1), .ref 2000000, .ref 90, .int s0]) a_L_law_871 rfl rfl rfl rfl).trans ((zd_sald (h := (zSH, G)) a_L_law_872 rfl z872_0).trans ((zd_cal (kd := 0) (tg := 167) (T := m_M_tell) a_L_law_873 (by decide +kernel) hm_M_tell rfl rfl rfl rfl)))))))
theorem B_L_law_876 {G : Nat → Nat → Int32} {x3 s0 s1 : Int32} {v4 v6 : Value} : zden 195 876 [.ref 2000000, .ref 0, .ref 90, .int x3, v4, .retAddr 0, v6, .retAddr 0] [.int s0, .int s1] (zSH, G) = if s1 = s0 then zden 195 1125 [.ref 2000000, .ref 0, .ref 90, .int x3, v4, .retAddr 0, v6, .retAddr 0] [] (zSH, G) else some (some (.int 0), (zSH, G)) :=
  (zd_icmp_eq a_L_law_876 rfl).trans (zitc (fun p524 => rfl) (fun p524 => (zd_iconst (v := 0) a_L_law_879 (by decide)).trans (zd_iret a_L_law_880 rfl (by decide))))
theorem B_L_law_881 {G : Nat → Nat → Int32} {x3 : Int32} {v4 v6 : Value} (z886_0 : 0 ≤ (x3 + 1) ∧ (x3 + 1) < G 2000001 0) : zden 195 881 [.ref 2000000, .ref 0, .ref 90, .int x3, v4, .retAddr 0, v6, .retAddr 0] [] (zSH, G) = zaft 195 890 [.ref 2000000, .ref 0, .ref 90, .int x3, v4, .retAddr 0, v6, .retAddr 0] [] (zSH, G) (zden 95 0 [.ref 0, .int (G 2000000 (x3 + 1).toNatClampNeg), .retAddr 0] [] (zSH, G)) :=
  (zd_aload_n a_L_law_881 rfl).trans ((zd_aload_n a_L_law_882 rfl).trans ((zd_iload_n a_L_law_883 rfl).trans ((zd_iconst (v := 1) a_L_law_884 (by decide)).trans ((zd_num (st2 := [.int (x3 + 1), .ref 2000000, .ref 0]) a_L_law_885 rfl rfl rfl rfl).trans ((zd_sald (h := (zSH, G)) a_L_law_886 rfl z886_0).trans ((zd_cal (kd := 0) (tg := 95) (T := m_T_tellHeading) a_L_law_887 (by decide +kernel) hm_T_tellHeading rfl rfl rfl rfl)))))))
theorem B_L_law_890 {G : Nat → Nat → Int32} {x3 s0 : Int32} {v4 v6 : Value} (z895_0 : 0 ≤ (x3 + 1) ∧ (x3 + 1) < G 2000001 0) : zden 195 890 [.ref 2000000, .ref 0, .ref 90, .int x3, v4, .retAddr 0, v6, .retAddr 0] [.int s0] (zSH, G) = zaft 195 899 [.ref 2000000, .ref 0, .ref 90, .int x3, v4, .retAddr 0, v6, .retAddr 0] [.int s0] (zSH, G) (zden 170 0 [.ref 90, .int (G 2000000 (x3 + 1).toNatClampNeg), .retAddr 0] [] (zSH, G)) :=
  (zd_aload_n a_L_law_890 rfl).trans ((zd_aload_n a_L_law_891 rfl).trans ((zd_iload_n a_L_law_892 rfl).trans ((zd_iconst (v := 1) a_L_law_893 (by decide)).trans ((zd_num (st2 := [.int (x3 + 1), .ref 2000000, .ref 90, .int s0]) a_L_law_894 rfl rfl rfl rfl).trans ((zd_sald (h := (zSH, G)) a_L_law_895 rfl z895_0).trans ((zd_cal (kd := 0) (tg := 170) (T := m_M_tellHeading) a_L_law_896 (by decide +kernel) hm_M_tellHeading rfl rfl rfl rfl)))))))
theorem B_L_law_899 {G : Nat → Nat → Int32} {x3 s0 s1 : Int32} {v4 v6 : Value} : zden 195 899 [.ref 2000000, .ref 0, .ref 90, .int x3, v4, .retAddr 0, v6, .retAddr 0] [.int s0, .int s1] (zSH, G) = if s1 = s0 then zden 195 1125 [.ref 2000000, .ref 0, .ref 90, .int x3, v4, .retAddr 0, v6, .retAddr 0] [] (zSH, G) else some (some (.int 0), (zSH, G)) :=
  (zd_icmp_eq a_L_law_899 rfl).trans (zitc (fun p525 => rfl) (fun p525 => (zd_iconst (v := 0) a_L_law_902 (by decide)).trans (zd_iret a_L_law_903 rfl (by decide))))
theorem B_L_law_904 {G : Nat → Nat → Int32} {x3 : Int32} {v4 v6 : Value} (z909_0 : 0 ≤ (x3 + 1) ∧ (x3 + 1) < G 2000001 0) : zden 195 904 [.ref 2000000, .ref 0, .ref 90, .int x3, v4, .retAddr 0, v6, .retAddr 0] [] (zSH, G) = zaft 195 913 [.ref 2000000, .ref 0, .ref 90, .int x3, v4, .retAddr 0, v6, .retAddr 0] [] (zSH, G) (zden 96 0 [.ref 0, .int (G 2000000 (x3 + 1).toNatClampNeg)] [] (zSH, G)) :=
  (zd_aload_n a_L_law_904 rfl).trans ((zd_aload_n a_L_law_905 rfl).trans ((zd_iload_n a_L_law_906 rfl).trans ((zd_iconst (v := 1) a_L_law_907 (by decide)).trans ((zd_num (st2 := [.int (x3 + 1), .ref 2000000, .ref 0]) a_L_law_908 rfl rfl rfl rfl).trans ((zd_sald (h := (zSH, G)) a_L_law_909 rfl z909_0).trans ((zd_cal (kd := 0) (tg := 96) (T := m_T_character) a_L_law_910 (by decide +kernel) hm_T_character rfl rfl rfl rfl)))))))
theorem B_L_law_913 {G : Nat → Nat → Int32} {x3 s0 : Int32} {v4 v6 : Value} (z918_0 : 0 ≤ (x3 + 1) ∧ (x3 + 1) < G 2000001 0) : zden 195 913 [.ref 2000000, .ref 0, .ref 90, .int x3, v4, .retAddr 0, v6, .retAddr 0] [.int s0] (zSH, G) = zaft 195 922 [.ref 2000000, .ref 0, .ref 90, .int x3, v4, .retAddr 0, v6, .retAddr 0] [.int s0] (zSH, G) (zden 171 0 [.ref 90, .int (G 2000000 (x3 + 1).toNatClampNeg)] [] (zSH, G)) :=
  (zd_aload_n a_L_law_913 rfl).trans ((zd_aload_n a_L_law_914 rfl).trans ((zd_iload_n a_L_law_915 rfl).trans ((zd_iconst (v := 1) a_L_law_916 (by decide)).trans ((zd_num (st2 := [.int (x3 + 1), .ref 2000000, .ref 90, .int s0]) a_L_law_917 rfl rfl rfl rfl).trans ((zd_sald (h := (zSH, G)) a_L_law_918 rfl z918_0).trans ((zd_cal (kd := 0) (tg := 171) (T := m_M_character) a_L_law_919 (by decide +kernel) hm_M_character rfl rfl rfl rfl)))))))
theorem B_L_law_922 {G : Nat → Nat → Int32} {x3 s0 s1 : Int32} {v4 v6 : Value} : zden 195 922 [.ref 2000000, .ref 0, .ref 90, .int x3, v4, .retAddr 0, v6, .retAddr 0] [.int s0, .int s1] (zSH, G) = if s1 = s0 then zden 195 1125 [.ref 2000000, .ref 0, .ref 90, .int x3, v4, .retAddr 0, v6, .retAddr 0] [] (zSH, G) else some (some (.int 0), (zSH, G)) :=
  (zd_icmp_eq a_L_law_922 rfl).trans (zitc (fun p526 => rfl) (fun p526 => (zd_iconst (v := 0) a_L_law_925 (by decide)).trans (zd_iret a_L_law_926 rfl (by decide))))
theorem B_L_law_927 {G : Nat → Nat → Int32} {x3 : Int32} {v4 v6 : Value} (z932_0 : 0 ≤ (x3 + 1) ∧ (x3 + 1) < G 2000001 0) : zden 195 927 [.ref 2000000, .ref 0, .ref 90, .int x3, v4, .retAddr 0, v6, .retAddr 0] [] (zSH, G) = if (G 2000000 (x3 + 1).toNatClampNeg) = 0 then zden 195 941 [.ref 2000000, .ref 0, .ref 90, .int x3, v4, .retAddr 0, v6, .retAddr 0] [.int 0, .ref 0] (zSH, G) else zden 195 941 [.ref 2000000, .ref 0, .ref 90, .int x3, v4, .retAddr 0, v6, .retAddr 0] [.int 1, .ref 0] (zSH, G) :=
  (zd_aload_n a_L_law_927 rfl).trans ((zd_aload_n a_L_law_928 rfl).trans ((zd_iload_n a_L_law_929 rfl).trans ((zd_iconst (v := 1) a_L_law_930 (by decide)).trans ((zd_num (st2 := [.int (x3 + 1), .ref 2000000, .ref 0]) a_L_law_931 rfl rfl rfl rfl).trans ((zd_sald (h := (zSH, G)) a_L_law_932 rfl z932_0).trans ((zd_if_eq a_L_law_933 rfl).trans (zitc (fun p527 => (zd_iconst (v := 0) a_L_law_940 (by decide))) (fun p527 => (zd_iconst (v := 1) a_L_law_936 (by decide)).trans ((zd_goto a_L_law_937 rfl))))))))))
theorem B_L_law_941 {G : Nat → Nat → Int32} {x3 s0 : Int32} {v4 v6 : Value} : zden 195 941 [.ref 2000000, .ref 0, .ref 90, .int x3, v4, .retAddr 0, v6, .retAddr 0] [.int s0, .ref 0] (zSH, G) = zaft 195 944 [.ref 2000000, .ref 0, .ref 90, .int x3, v4, .retAddr 0, v6, .retAddr 0] [] (zSH, G) (zden 97 0 [.ref 0, .int s0] [] (zSH, G)) :=
  (zd_cal (kd := 0) (tg := 97) (T := m_T_reason) a_L_law_941 (by decide +kernel) hm_T_reason rfl rfl rfl rfl)
theorem B_L_law_944 {G : Nat → Nat → Int32} {x3 s0 : Int32} {v4 v6 : Value} (z949_0 : 0 ≤ (x3 + 1) ∧ (x3 + 1) < G 2000001 0) : zden 195 944 [.ref 2000000, .ref 0, .ref 90, .int x3, v4, .retAddr 0, v6, .retAddr 0] [.int s0] (zSH, G) = if (G 2000000 (x3 + 1).toNatClampNeg) = 0 then zden 195 958 [.ref 2000000, .ref 0, .ref 90, .int x3, v4, .retAddr 0, v6, .retAddr 0] [.int 0, .ref 90, .int s0] (zSH, G) else zden 195 958 [.ref 2000000, .ref 0, .ref 90, .int x3, v4, .retAddr 0, v6, .retAddr 0] [.int 1, .ref 90, .int s0] (zSH, G) :=
  (zd_aload_n a_L_law_944 rfl).trans ((zd_aload_n a_L_law_945 rfl).trans ((zd_iload_n a_L_law_946 rfl).trans ((zd_iconst (v := 1) a_L_law_947 (by decide)).trans ((zd_num (st2 := [.int (x3 + 1), .ref 2000000, .ref 90, .int s0]) a_L_law_948 rfl rfl rfl rfl).trans ((zd_sald (h := (zSH, G)) a_L_law_949 rfl z949_0).trans ((zd_if_eq a_L_law_950 rfl).trans (zitc (fun p528 => (zd_iconst (v := 0) a_L_law_957 (by decide))) (fun p528 => (zd_iconst (v := 1) a_L_law_953 (by decide)).trans ((zd_goto a_L_law_954 rfl))))))))))
theorem B_L_law_958 {G : Nat → Nat → Int32} {x3 s0 s2 : Int32} {v4 v6 : Value} : zden 195 958 [.ref 2000000, .ref 0, .ref 90, .int x3, v4, .retAddr 0, v6, .retAddr 0] [.int s0, .ref 90, .int s2] (zSH, G) = zaft 195 961 [.ref 2000000, .ref 0, .ref 90, .int x3, v4, .retAddr 0, v6, .retAddr 0] [.int s2] (zSH, G) (zden 172 0 [.ref 90, .int s0] [] (zSH, G)) :=
  (zd_cal (kd := 0) (tg := 172) (T := m_M_reason) a_L_law_958 (by decide +kernel) hm_M_reason rfl rfl rfl rfl)
theorem B_L_law_961 {G : Nat → Nat → Int32} {x3 s0 s1 : Int32} {v4 v6 : Value} : zden 195 961 [.ref 2000000, .ref 0, .ref 90, .int x3, v4, .retAddr 0, v6, .retAddr 0] [.int s0, .int s1] (zSH, G) = if s1 = s0 then zden 195 1125 [.ref 2000000, .ref 0, .ref 90, .int x3, v4, .retAddr 0, v6, .retAddr 0] [] (zSH, G) else some (some (.int 0), (zSH, G)) :=
  (zd_icmp_eq a_L_law_961 rfl).trans (zitc (fun p529 => rfl) (fun p529 => (zd_iconst (v := 0) a_L_law_964 (by decide)).trans (zd_iret a_L_law_965 rfl (by decide))))
theorem B_L_law_966 {G : Nat → Nat → Int32} {x3 : Int32} {v4 v6 : Value} (z971_0 : 0 ≤ (x3 + 1) ∧ (x3 + 1) < G 2000001 0) : zden 195 966 [.ref 2000000, .ref 0, .ref 90, .int x3, v4, .retAddr 0, v6, .retAddr 0] [] (zSH, G) = zaft 195 975 [.ref 2000000, .ref 0, .ref 90, .int x3, v4, .retAddr 0, v6, .retAddr 0] [] (zSH, G) (zden 98 0 [.ref 0, .int (G 2000000 (x3 + 1).toNatClampNeg)] [] (zSH, G)) :=
  (zd_aload_n a_L_law_966 rfl).trans ((zd_aload_n a_L_law_967 rfl).trans ((zd_iload_n a_L_law_968 rfl).trans ((zd_iconst (v := 1) a_L_law_969 (by decide)).trans ((zd_num (st2 := [.int (x3 + 1), .ref 2000000, .ref 0]) a_L_law_970 rfl rfl rfl rfl).trans ((zd_sald (h := (zSH, G)) a_L_law_971 rfl z971_0).trans ((zd_cal (kd := 0) (tg := 98) (T := m_T_account) a_L_law_972 (by decide +kernel) hm_T_account rfl rfl rfl rfl)))))))
theorem B_L_law_975 {G : Nat → Nat → Int32} {x3 s0 : Int32} {v4 v6 : Value} (z980_0 : 0 ≤ (x3 + 1) ∧ (x3 + 1) < G 2000001 0) : zden 195 975 [.ref 2000000, .ref 0, .ref 90, .int x3, v4, .retAddr 0, v6, .retAddr 0] [.int s0] (zSH, G) = zaft 195 984 [.ref 2000000, .ref 0, .ref 90, .int x3, v4, .retAddr 0, v6, .retAddr 0] [.int s0] (zSH, G) (zden 173 0 [.ref 90, .int (G 2000000 (x3 + 1).toNatClampNeg)] [] (zSH, G)) :=
  (zd_aload_n a_L_law_975 rfl).trans ((zd_aload_n a_L_law_976 rfl).trans ((zd_iload_n a_L_law_977 rfl).trans ((zd_iconst (v := 1) a_L_law_978 (by decide)).trans ((zd_num (st2 := [.int (x3 + 1), .ref 2000000, .ref 90, .int s0]) a_L_law_979 rfl rfl rfl rfl).trans ((zd_sald (h := (zSH, G)) a_L_law_980 rfl z980_0).trans ((zd_cal (kd := 0) (tg := 173) (T := m_M_account) a_L_law_981 (by decide +kernel) hm_M_account rfl rfl rfl rfl)))))))
theorem B_L_law_984 {G : Nat → Nat → Int32} {x3 s0 s1 : Int32} {v4 v6 : Value} : zden 195 984 [.ref 2000000, .ref 0, .ref 90, .int x3, v4, .retAddr 0, v6, .retAddr 0] [.int s0, .int s1] (zSH, G) = if s1 = s0 then zden 195 1125 [.ref 2000000, .ref 0, .ref 90, .int x3, v4, .retAddr 0, v6, .retAddr 0] [] (zSH, G) else some (some (.int 0), (zSH, G)) :=
  (zd_icmp_eq a_L_law_984 rfl).trans (zitc (fun p530 => rfl) (fun p530 => (zd_iconst (v := 0) a_L_law_987 (by decide)).trans (zd_iret a_L_law_988 rfl (by decide))))
theorem B_L_law_989 {G : Nat → Nat → Int32} {x3 : Int32} {v4 v6 : Value} : zden 195 989 [.ref 2000000, .ref 0, .ref 90, .int x3, v4, .retAddr 0, v6, .retAddr 0] [] (zSH, G) = zaft 195 993 [.ref 2000000, .ref 0, .ref 90, .int x3, v4, .retAddr 0, v6, .retAddr 0] [] (zSH, G) (zden 99 0 [.ref 0] [] (zSH, G)) :=
  (zd_aload_n a_L_law_989 rfl).trans ((zd_cal (kd := 0) (tg := 99) (T := m_T_isBalanced) a_L_law_990 (by decide +kernel) hm_T_isBalanced rfl rfl rfl rfl))
theorem B_L_law_993 {G : Nat → Nat → Int32} {x3 s0 : Int32} {v4 v6 : Value} : zden 195 993 [.ref 2000000, .ref 0, .ref 90, .int x3, v4, .retAddr 0, v6, .retAddr 0] [.int s0] (zSH, G) = zaft 195 997 [.ref 2000000, .ref 0, .ref 90, .int x3, v4, .retAddr 0, v6, .retAddr 0] [.int s0] (zSH, G) (zden 176 0 [.ref 90] [] (zSH, G)) :=
  (zd_aload_n a_L_law_993 rfl).trans ((zd_cal (kd := 0) (tg := 176) (T := m_M_isBalanced) a_L_law_994 (by decide +kernel) hm_M_isBalanced rfl rfl rfl rfl))
theorem B_L_law_997 {G : Nat → Nat → Int32} {x3 s0 s1 : Int32} {v4 v6 : Value} : zden 195 997 [.ref 2000000, .ref 0, .ref 90, .int x3, v4, .retAddr 0, v6, .retAddr 0] [.int s0, .int s1] (zSH, G) = if s1 = s0 then zden 195 1125 [.ref 2000000, .ref 0, .ref 90, .int x3, v4, .retAddr 0, v6, .retAddr 0] [] (zSH, G) else some (some (.int 0), (zSH, G)) :=
  (zd_icmp_eq a_L_law_997 rfl).trans (zitc (fun p531 => rfl) (fun p531 => (zd_iconst (v := 0) a_L_law_1000 (by decide)).trans (zd_iret a_L_law_1001 rfl (by decide))))
theorem B_L_law_1002 {G : Nat → Nat → Int32} {x3 : Int32} {v4 v6 : Value} : zden 195 1002 [.ref 2000000, .ref 0, .ref 90, .int x3, v4, .retAddr 0, v6, .retAddr 0] [] (zSH, G) = zaft 195 1006 [.ref 2000000, .ref 0, .ref 90, .int x3, v4, .retAddr 0, v6, .retAddr 0] [] (zSH, G) (zden 100 0 [.ref 0, .retAddr 0, .retAddr 0, .retAddr 0] [] (zSH, G)) :=
  (zd_aload_n a_L_law_1002 rfl).trans ((zd_cal (kd := 0) (tg := 100) (T := m_T_meanDuty) a_L_law_1003 (by decide +kernel) hm_T_meanDuty rfl rfl rfl rfl))
theorem B_L_law_1006 {G : Nat → Nat → Int32} {x3 : Int32} {t0 : UInt64} {v4 v6 : Value} : zden 195 1006 [.ref 2000000, .ref 0, .ref 90, .int x3, v4, .retAddr 0, v6, .retAddr 0] [.double t0] (zSH, G) = zaft 195 1012 [.ref 2000000, .ref 0, .ref 90, .int x3, .double t0, .retAddr 0, v6, .retAddr 0] [] (zSH, G) (zden 178 0 [.ref 90, .retAddr 0, .retAddr 0] [] (zSH, G)) :=
  (zd_dstore a_L_law_1006 rfl rfl rfl).trans ((zd_aload_n a_L_law_1008 rfl).trans ((zd_cal (kd := 0) (tg := 178) (T := m_M_meanDuty) a_L_law_1009 (by decide +kernel) hm_M_meanDuty rfl rfl rfl rfl)))
theorem B_L_law_1012 {G : Nat → Nat → Int32} {x3 : Int32} {y4 t0 : UInt64} {v6 : Value} : zden 195 1012 [.ref 2000000, .ref 0, .ref 90, .int x3, .double y4, .retAddr 0, v6, .retAddr 0] [.double t0] (zSH, G) = if (Op.cmpValue (FP.dcmp y4 t0) .l) = 0 then zden 195 1040 [.ref 2000000, .ref 0, .ref 90, .int x3, .double y4, .retAddr 0, .double t0, .retAddr 0] [] (zSH, G) else if (Op.cmpValue (FP.dcmp y4 y4) .l) = 0 then some (some (.int 0), (zSH, G)) else if ¬ (Op.cmpValue (FP.dcmp t0 t0) .l) = 0 then zden 195 1040 [.ref 2000000, .ref 0, .ref 90, .int x3, .double y4, .retAddr 0, .double t0, .retAddr 0] [] (zSH, G) else some (some (.int 0), (zSH, G)) :=
  (zd_dstore a_L_law_1012 rfl rfl rfl).trans ((zd_dload a_L_law_1014 rfl).trans ((zd_dload a_L_law_1016 rfl).trans ((zd_num (st2 := [.int (Op.cmpValue (FP.dcmp y4 t0) .l)]) a_L_law_1018 rfl rfl rfl rfl).trans ((zd_if_eq a_L_law_1019 rfl).trans (zitc (fun p532 => rfl) (fun p532 => (zd_dload a_L_law_1022 rfl).trans ((zd_dload a_L_law_1024 rfl).trans ((zd_num (st2 := [.int (Op.cmpValue (FP.dcmp y4 y4) .l)]) a_L_law_1026 rfl rfl rfl rfl).trans ((zd_if_eq a_L_law_1027 rfl).trans (zitc (fun p533 => (zd_iconst (v := 0) a_L_law_1038 (by decide)).trans (zd_iret a_L_law_1039 rfl (by decide))) (fun p533 => (zd_dload a_L_law_1030 rfl).trans ((zd_dload a_L_law_1032 rfl).trans ((zd_num (st2 := [.int (Op.cmpValue (FP.dcmp t0 t0) .l)]) a_L_law_1034 rfl rfl rfl rfl).trans ((zd_if_ne a_L_law_1035 rfl).trans (zitc (fun p534 => rfl) (fun p534 => (zd_iconst (v := 0) a_L_law_1038 (by decide)).trans (zd_iret a_L_law_1039 rfl (by decide))))))))))))))))))
theorem B_L_law_1040 {G : Nat → Nat → Int32} {x3 : Int32} {y4 y6 : UInt64} : zden 195 1040 [.ref 2000000, .ref 0, .ref 90, .int x3, .double y4, .retAddr 0, .double y6, .retAddr 0] [] (zSH, G) = zden 195 1125 [.ref 2000000, .ref 0, .ref 90, .int x3, .double y4, .retAddr 0, .double y6, .retAddr 0] [] (zSH, G) :=
  (zd_goto a_L_law_1040 rfl)
theorem B_L_law_1043 {G : Nat → Nat → Int32} {x3 : Int32} {v4 v6 : Value} : zden 195 1043 [.ref 2000000, .ref 0, .ref 90, .int x3, v4, .retAddr 0, v6, .retAddr 0] [] (zSH, G) = zaft 195 1047 [.ref 2000000, .ref 0, .ref 90, .int x3, v4, .retAddr 0, v6, .retAddr 0] [] (zSH, G) (zden 101 0 [.ref 0] [] (zSH, G)) :=
  (zd_aload_n a_L_law_1043 rfl).trans ((zd_cal (kd := 0) (tg := 101) (T := m_T_backShare) a_L_law_1044 (by decide +kernel) hm_T_backShare rfl rfl rfl rfl))
theorem B_L_law_1047 {G : Nat → Nat → Int32} {x3 : Int32} {t0 : UInt32} {v4 v6 : Value} (z1047_0 : FP.f2d t0 &&& 0x7fffffffffffffff ≤ 0x7ff0000000000000) : zden 195 1047 [.ref 2000000, .ref 0, .ref 90, .int x3, v4, .retAddr 0, v6, .retAddr 0] [.float t0] (zSH, G) = zaft 195 1054 [.ref 2000000, .ref 0, .ref 90, .int x3, .double (FP.f2d t0), .retAddr 0, v6, .retAddr 0] [] (zSH, G) (zden 179 0 [.ref 90] [] (zSH, G)) :=
  (zd_f2d a_L_law_1047 z1047_0).trans ((zd_dstore a_L_law_1048 rfl rfl rfl).trans ((zd_aload_n a_L_law_1050 rfl).trans ((zd_cal (kd := 0) (tg := 179) (T := m_M_backShare) a_L_law_1051 (by decide +kernel) hm_M_backShare rfl rfl rfl rfl))))
theorem B_L_law_1054 {G : Nat → Nat → Int32} {x3 : Int32} {y4 : UInt64} {t0 : UInt32} {v6 : Value} (z1054_0 : FP.f2d t0 &&& 0x7fffffffffffffff ≤ 0x7ff0000000000000) : zden 195 1054 [.ref 2000000, .ref 0, .ref 90, .int x3, .double y4, .retAddr 0, v6, .retAddr 0] [.float t0] (zSH, G) = if (Op.cmpValue (FP.dcmp y4 (FP.f2d t0)) .l) = 0 then zden 195 1083 [.ref 2000000, .ref 0, .ref 90, .int x3, .double y4, .retAddr 0, .double (FP.f2d t0), .retAddr 0] [] (zSH, G) else if (Op.cmpValue (FP.dcmp y4 y4) .l) = 0 then some (some (.int 0), (zSH, G)) else if ¬ (Op.cmpValue (FP.dcmp (FP.f2d t0) (FP.f2d t0)) .l) = 0 then zden 195 1083 [.ref 2000000, .ref 0, .ref 90, .int x3, .double y4, .retAddr 0, .double (FP.f2d t0), .retAddr 0] [] (zSH, G) else some (some (.int 0), (zSH, G)) :=
  (zd_f2d a_L_law_1054 z1054_0).trans ((zd_dstore a_L_law_1055 rfl rfl rfl).trans ((zd_dload a_L_law_1057 rfl).trans ((zd_dload a_L_law_1059 rfl).trans ((zd_num (st2 := [.int (Op.cmpValue (FP.dcmp y4 (FP.f2d t0)) .l)]) a_L_law_1061 rfl rfl rfl rfl).trans ((zd_if_eq a_L_law_1062 rfl).trans (zitc (fun p535 => rfl) (fun p535 => (zd_dload a_L_law_1065 rfl).trans ((zd_dload a_L_law_1067 rfl).trans ((zd_num (st2 := [.int (Op.cmpValue (FP.dcmp y4 y4) .l)]) a_L_law_1069 rfl rfl rfl rfl).trans ((zd_if_eq a_L_law_1070 rfl).trans (zitc (fun p536 => (zd_iconst (v := 0) a_L_law_1081 (by decide)).trans (zd_iret a_L_law_1082 rfl (by decide))) (fun p536 => (zd_dload a_L_law_1073 rfl).trans ((zd_dload a_L_law_1075 rfl).trans ((zd_num (st2 := [.int (Op.cmpValue (FP.dcmp (FP.f2d t0) (FP.f2d t0)) .l)]) a_L_law_1077 rfl rfl rfl rfl).trans ((zd_if_ne a_L_law_1078 rfl).trans (zitc (fun p537 => rfl) (fun p537 => (zd_iconst (v := 0) a_L_law_1081 (by decide)).trans (zd_iret a_L_law_1082 rfl (by decide)))))))))))))))))))
theorem B_L_law_1083 {G : Nat → Nat → Int32} {x3 : Int32} {y4 y6 : UInt64} : zden 195 1083 [.ref 2000000, .ref 0, .ref 90, .int x3, .double y4, .retAddr 0, .double y6, .retAddr 0] [] (zSH, G) = zden 195 1125 [.ref 2000000, .ref 0, .ref 90, .int x3, .double y4, .retAddr 0, .double y6, .retAddr 0] [] (zSH, G) :=
  (zd_goto a_L_law_1083 rfl)
theorem B_L_law_1086 {G : Nat → Nat → Int32} {x3 : Int32} {v4 v6 : Value} : zden 195 1086 [.ref 2000000, .ref 0, .ref 90, .int x3, v4, .retAddr 0, v6, .retAddr 0] [] (zSH, G) = zaft 195 1090 [.ref 2000000, .ref 0, .ref 90, .int x3, v4, .retAddr 0, v6, .retAddr 0] [] (zSH, G) (zden 102 0 [.ref 0] [] (zSH, G)) :=
  (zd_aload_n a_L_law_1086 rfl).trans ((zd_cal (kd := 0) (tg := 102) (T := m_T_undo) a_L_law_1087 (by decide +kernel) hm_T_undo rfl rfl rfl rfl))
theorem B_L_law_1090 {G : Nat → Nat → Int32} {x3 s0 : Int32} {v4 v6 : Value} : zden 195 1090 [.ref 2000000, .ref 0, .ref 90, .int x3, v4, .retAddr 0, v6, .retAddr 0] [.int s0] (zSH, G) = zaft 195 1094 [.ref 2000000, .ref 0, .ref 90, .int x3, v4, .retAddr 0, v6, .retAddr 0] [.int s0] (zSH, G) (zden 180 0 [.ref 90, .retAddr 0] [] (zSH, G)) :=
  (zd_aload_n a_L_law_1090 rfl).trans ((zd_cal (kd := 0) (tg := 180) (T := m_M_undo) a_L_law_1091 (by decide +kernel) hm_M_undo rfl rfl rfl rfl))
theorem B_L_law_1094 {G : Nat → Nat → Int32} {x3 s0 s1 : Int32} {v4 v6 : Value} : zden 195 1094 [.ref 2000000, .ref 0, .ref 90, .int x3, v4, .retAddr 0, v6, .retAddr 0] [.int s0, .int s1] (zSH, G) = if s1 = s0 then zden 195 1125 [.ref 2000000, .ref 0, .ref 90, .int x3, v4, .retAddr 0, v6, .retAddr 0] [] (zSH, G) else some (some (.int 0), (zSH, G)) :=
  (zd_icmp_eq a_L_law_1094 rfl).trans (zitc (fun p538 => rfl) (fun p538 => (zd_iconst (v := 0) a_L_law_1097 (by decide)).trans (zd_iret a_L_law_1098 rfl (by decide))))
theorem B_L_law_1099 {G : Nat → Nat → Int32} {x3 : Int32} {v4 v6 : Value} : zden 195 1099 [.ref 2000000, .ref 0, .ref 90, .int x3, v4, .retAddr 0, v6, .retAddr 0] [] (zSH, G) = zaft 195 1103 [.ref 2000000, .ref 0, .ref 90, .int x3, v4, .retAddr 0, v6, .retAddr 0] [] (zSH, G) (zden 103 0 [.ref 0] [] (zSH, G)) :=
  (zd_aload_n a_L_law_1099 rfl).trans ((zd_cal (kd := 0) (tg := 103) (T := m_T_save) a_L_law_1100 (by decide +kernel) hm_T_save rfl rfl rfl rfl))
theorem B_L_law_1103 {G : Nat → Nat → Int32} {x3 s0 : Int32} {v4 v6 : Value} : zden 195 1103 [.ref 2000000, .ref 0, .ref 90, .int x3, v4, .retAddr 0, v6, .retAddr 0] [.int s0] (zSH, G) = zaft 195 1107 [.ref 2000000, .ref 0, .ref 90, .int x3, v4, .retAddr 0, v6, .retAddr 0] [.int s0] (zSH, G) (zden 181 0 [.ref 90] [] (zSH, G)) :=
  (zd_aload_n a_L_law_1103 rfl).trans ((zd_cal (kd := 0) (tg := 181) (T := m_M_save) a_L_law_1104 (by decide +kernel) hm_M_save rfl rfl rfl rfl))
theorem B_L_law_1107 {G : Nat → Nat → Int32} {x3 s0 s1 : Int32} {v4 v6 : Value} : zden 195 1107 [.ref 2000000, .ref 0, .ref 90, .int x3, v4, .retAddr 0, v6, .retAddr 0] [.int s0, .int s1] (zSH, G) = if s1 = s0 then zden 195 1125 [.ref 2000000, .ref 0, .ref 90, .int x3, v4, .retAddr 0, v6, .retAddr 0] [] (zSH, G) else some (some (.int 0), (zSH, G)) :=
  (zd_icmp_eq a_L_law_1107 rfl).trans (zitc (fun p539 => rfl) (fun p539 => (zd_iconst (v := 0) a_L_law_1110 (by decide)).trans (zd_iret a_L_law_1111 rfl (by decide))))
theorem B_L_law_1112 {G : Nat → Nat → Int32} {x3 : Int32} {v4 v6 : Value} : zden 195 1112 [.ref 2000000, .ref 0, .ref 90, .int x3, v4, .retAddr 0, v6, .retAddr 0] [] (zSH, G) = zaft 195 1116 [.ref 2000000, .ref 0, .ref 90, .int x3, v4, .retAddr 0, v6, .retAddr 0] [] (zSH, G) (zden 104 0 [.ref 0] [] (zSH, G)) :=
  (zd_aload_n a_L_law_1112 rfl).trans ((zd_cal (kd := 0) (tg := 104) (T := m_T_restore) a_L_law_1113 (by decide +kernel) hm_T_restore rfl rfl rfl rfl))
theorem B_L_law_1116 {G : Nat → Nat → Int32} {x3 s0 : Int32} {v4 v6 : Value} : zden 195 1116 [.ref 2000000, .ref 0, .ref 90, .int x3, v4, .retAddr 0, v6, .retAddr 0] [.int s0] (zSH, G) = zaft 195 1120 [.ref 2000000, .ref 0, .ref 90, .int x3, v4, .retAddr 0, v6, .retAddr 0] [.int s0] (zSH, G) (zden 182 0 [.ref 90] [] (zSH, G)) :=
  (zd_aload_n a_L_law_1116 rfl).trans ((zd_cal (kd := 0) (tg := 182) (T := m_M_restore) a_L_law_1117 (by decide +kernel) hm_M_restore rfl rfl rfl rfl))
theorem B_L_law_1120 {G : Nat → Nat → Int32} {x3 s0 s1 : Int32} {v4 v6 : Value} : zden 195 1120 [.ref 2000000, .ref 0, .ref 90, .int x3, v4, .retAddr 0, v6, .retAddr 0] [.int s0, .int s1] (zSH, G) = if s1 = s0 then zden 195 1125 [.ref 2000000, .ref 0, .ref 90, .int x3, v4, .retAddr 0, v6, .retAddr 0] [] (zSH, G) else some (some (.int 0), (zSH, G)) :=
  (zd_icmp_eq a_L_law_1120 rfl).trans (zitc (fun p540 => rfl) (fun p540 => (zd_iconst (v := 0) a_L_law_1123 (by decide)).trans (zd_iret a_L_law_1124 rfl (by decide))))
theorem B_L_law_1125 {G : Nat → Nat → Int32} {x3 : Int32} {v4 v6 : Value} : zden 195 1125 [.ref 2000000, .ref 0, .ref 90, .int x3, v4, .retAddr 0, v6, .retAddr 0] [] (zSH, G) = zden 195 18 [.ref 2000000, .ref 0, .ref 90, .int (x3 + 7), v4, .retAddr 0, v6, .retAddr 0] [] (zSH, G) :=
  (zd_iinc (v := 7) a_L_law_1125 rfl (by decide) rfl rfl rfl).trans ((zd_goto a_L_law_1128 rfl))
