-- 28: blocks of the law; doubles and floats (written by wip/p36/gen28.py)
theorem hm_T_backShare : zms[k_T_backShare]? = some m_T_backShare := rfl
theorem hm_T_meanDuty : zms[k_T_meanDuty]? = some m_T_meanDuty := rfl
section ZLw
variable {k pc : Nat} {lst st : List Value} {h : zH} {M : zMt}
theorem zd_salen (hc : zAt k pc M .arraylength 1) (h9 : M.1 = 9) : zden k pc lst (.ref 2000000 :: st) h = zden k (pc + 1) lst (.int (h.2 2000001 0) :: st) h := by
  refine zd_go (o := (pc + 1, lst, .int (h.2 2000001 0) :: st, h)) hc rfl rfl ?_
  unfold zst zal
  simp only [if_true, h9]
theorem zd_sald {i : Int32} (hc : zAt k pc M .iaload 1) (h9 : M.1 = 9) (hi : 0 ≤ i ∧ i < h.2 2000001 0) : zden k pc lst (.int i :: .ref 2000000 :: st) h = zden k (pc + 1) lst (.int (h.2 2000000 i.toNatClampNeg) :: st) h := by
  refine zd_go (o := (pc + 1, lst, .int (h.2 2000000 i.toNatClampNeg) :: st, h)) hc rfl rfl ?_
  unfold zst zia
  simp only [if_true, if_pos (show M.1 = 9 ∧ 0 ≤ i ∧ i < h.2 2000001 0 from ⟨h9, hi⟩)]
  rfl
theorem zd_fcmp {x y : UInt32} {op : CmpOp} (hc : zAt k pc M (.fcmp op) 1) : zden k pc lst (.float y :: .float x :: st) h = zden k (pc + 1) lst (.int (Op.cmpValue (FP.fcmp x y) op) :: st) h := zd_num hc rfl rfl rfl rfl
theorem zd_ddiv {x y : UInt64} (hc : zAt k pc M .ddiv 1) (hn : FP.ddiv x y &&& 0x7fffffffffffffff ≤ 0x7ff0000000000000) : zden k pc lst (.double y :: .double x :: st) h = zden k (pc + 1) lst (.double (FP.ddiv x y) :: st) h := zd_num hc rfl rfl rfl (by show (if _ then _ else _) = _; rw [if_pos hn])
theorem zd_fdiv {x y : UInt32} (hc : zAt k pc M .fdiv 1) (hn : FP.fdiv x y &&& 0x7fffffff ≤ 0x7f800000) : zden k pc lst (.float y :: .float x :: st) h = zden k (pc + 1) lst (.float (FP.fdiv x y) :: st) h := zd_num hc rfl rfl rfl (by show (if _ then _ else _) = _; rw [if_pos hn])
theorem zd_f2d {x : UInt32} (hc : zAt k pc M .f2d 1) (hn : FP.f2d x &&& 0x7fffffffffffffff ≤ 0x7ff0000000000000) : zden k pc lst (.float x :: st) h = zden k (pc + 1) lst (.double (FP.f2d x) :: st) h := zd_num hc rfl rfl rfl (by show (if _ then _ else _) = _; rw [if_pos hn])
theorem zd_dret {x : UInt64} (hc : zAt k pc M .dreturn 1) (ht : M.2.2.2.2.1 = some .double) : zden k pc lst [.double x] h = some (some (.double x), h) :=
  zd_ret hc.1 hc.2 rfl (by unfold zret; simp only [ht])
theorem zd_fret {x : UInt32} (hc : zAt k pc M .freturn 1) (ht : M.2.2.2.2.1 = some .float) : zden k pc lst [.float x] h = some (some (.float x), h) :=
  zd_ret hc.1 hc.2 rfl (by unfold zret; simp only [ht])
end ZLw
theorem a_T_meanDuty_0 : zAt 100 0 m_T_meanDuty (.aload_n 0) 1 := ⟨hm_T_meanDuty, by decide +kernel⟩
theorem a_T_meanDuty_1 : zAt 100 1 m_T_meanDuty (.getfield 20) 3 := ⟨hm_T_meanDuty, by decide +kernel⟩
theorem a_T_meanDuty_4 : zAt 100 4 m_T_meanDuty (.getfield 141) 3 := ⟨hm_T_meanDuty, by decide +kernel⟩
theorem a_T_meanDuty_7 : zAt 100 7 m_T_meanDuty (.istore_n 1) 1 := ⟨hm_T_meanDuty, by decide +kernel⟩
theorem a_T_meanDuty_8 : zAt 100 8 m_T_meanDuty (.iload_n 1) 1 := ⟨hm_T_meanDuty, by decide +kernel⟩
theorem a_T_meanDuty_9 : zAt 100 9 m_T_meanDuty (.ifCond .gt 5) 3 := ⟨hm_T_meanDuty, by decide +kernel⟩
theorem a_T_meanDuty_12 : zAt 100 12 m_T_meanDuty (.dconst 0) 1 := ⟨hm_T_meanDuty, by decide +kernel⟩
theorem a_T_meanDuty_13 : zAt 100 13 m_T_meanDuty (.dreturn) 1 := ⟨hm_T_meanDuty, by decide +kernel⟩
theorem a_T_meanDuty_14 : zAt 100 14 m_T_meanDuty (.iconst 0) 1 := ⟨hm_T_meanDuty, by decide +kernel⟩
theorem a_T_meanDuty_15 : zAt 100 15 m_T_meanDuty (.istore_n 2) 1 := ⟨hm_T_meanDuty, by decide +kernel⟩
theorem a_T_meanDuty_16 : zAt 100 16 m_T_meanDuty (.iconst 0) 1 := ⟨hm_T_meanDuty, by decide +kernel⟩
theorem a_T_meanDuty_17 : zAt 100 17 m_T_meanDuty (.istore_n 3) 1 := ⟨hm_T_meanDuty, by decide +kernel⟩
theorem a_T_meanDuty_18 : zAt 100 18 m_T_meanDuty (.iload_n 3) 1 := ⟨hm_T_meanDuty, by decide +kernel⟩
theorem a_T_meanDuty_19 : zAt 100 19 m_T_meanDuty (.iload_n 1) 1 := ⟨hm_T_meanDuty, by decide +kernel⟩
theorem a_T_meanDuty_20 : zAt 100 20 m_T_meanDuty (.if_icmp .ge 28) 3 := ⟨hm_T_meanDuty, by decide +kernel⟩
theorem a_T_meanDuty_23 : zAt 100 23 m_T_meanDuty (.iload_n 2) 1 := ⟨hm_T_meanDuty, by decide +kernel⟩
theorem a_T_meanDuty_24 : zAt 100 24 m_T_meanDuty (.aload_n 0) 1 := ⟨hm_T_meanDuty, by decide +kernel⟩
theorem a_T_meanDuty_25 : zAt 100 25 m_T_meanDuty (.getfield 20) 3 := ⟨hm_T_meanDuty, by decide +kernel⟩
theorem a_T_meanDuty_28 : zAt 100 28 m_T_meanDuty (.iload_n 3) 1 := ⟨hm_T_meanDuty, by decide +kernel⟩
theorem a_T_meanDuty_29 : zAt 100 29 m_T_meanDuty (.aload_n 0) 1 := ⟨hm_T_meanDuty, by decide +kernel⟩
theorem a_T_meanDuty_30 : zAt 100 30 m_T_meanDuty (.getfield 20) 3 := ⟨hm_T_meanDuty, by decide +kernel⟩
theorem a_T_meanDuty_33 : zAt 100 33 m_T_meanDuty (.iload_n 3) 1 := ⟨hm_T_meanDuty, by decide +kernel⟩
theorem a_T_meanDuty_34 : zAt 100 34 m_T_meanDuty (.invokevirtual 105) 3 := ⟨hm_T_meanDuty, by decide +kernel⟩
theorem a_T_meanDuty_37 : zAt 100 37 m_T_meanDuty (.invokevirtual 111) 3 := ⟨hm_T_meanDuty, by decide +kernel⟩
theorem a_T_meanDuty_40 : zAt 100 40 m_T_meanDuty (.iadd) 1 := ⟨hm_T_meanDuty, by decide +kernel⟩
theorem a_T_meanDuty_41 : zAt 100 41 m_T_meanDuty (.istore_n 2) 1 := ⟨hm_T_meanDuty, by decide +kernel⟩
theorem a_T_meanDuty_42 : zAt 100 42 m_T_meanDuty (.iinc 3 1) 3 := ⟨hm_T_meanDuty, by decide +kernel⟩
theorem a_T_meanDuty_45 : zAt 100 45 m_T_meanDuty (.goto (-27)) 3 := ⟨hm_T_meanDuty, by decide +kernel⟩
theorem a_T_meanDuty_48 : zAt 100 48 m_T_meanDuty (.iload_n 2) 1 := ⟨hm_T_meanDuty, by decide +kernel⟩
theorem a_T_meanDuty_49 : zAt 100 49 m_T_meanDuty (.i2d) 1 := ⟨hm_T_meanDuty, by decide +kernel⟩
theorem a_T_meanDuty_50 : zAt 100 50 m_T_meanDuty (.iload_n 1) 1 := ⟨hm_T_meanDuty, by decide +kernel⟩
theorem a_T_meanDuty_51 : zAt 100 51 m_T_meanDuty (.i2d) 1 := ⟨hm_T_meanDuty, by decide +kernel⟩
theorem a_T_meanDuty_52 : zAt 100 52 m_T_meanDuty (.ddiv) 1 := ⟨hm_T_meanDuty, by decide +kernel⟩
theorem a_T_meanDuty_53 : zAt 100 53 m_T_meanDuty (.dreturn) 1 := ⟨hm_T_meanDuty, by decide +kernel⟩
theorem B_T_meanDuty_0 {G : Nat → Nat → Int32} : zden 100 0 [.ref 0, .retAddr 0, .retAddr 0, .retAddr 0] [] (zSH, G) = if 0 < (G 2 4) then zden 100 18 [.ref 0, .int (G 2 4), .int 0, .int 0] [] (zSH, G) else some (some (.double 0), (zSH, G)) :=
  (zd_aload_n a_T_meanDuty_0 rfl).trans ((zd_getR (h := (zSH, G)) (ci := 7) (fi := 1) (a := 2) a_T_meanDuty_1 (by decide +kernel) sh_0 rfl rfl).trans ((zd_getI (h := (zSH, G)) (ci := 2) (fi := 4) a_T_meanDuty_4 (by decide +kernel) sh_2 rfl).trans ((zd_istore_n a_T_meanDuty_7 rfl rfl rfl).trans ((zd_iload_n a_T_meanDuty_8 rfl).trans ((zd_if_gt a_T_meanDuty_9 rfl).trans (zitc (fun p8 => (zd_iconst (v := 0) a_T_meanDuty_14 (by decide)).trans ((zd_istore_n a_T_meanDuty_15 rfl rfl rfl).trans ((zd_iconst (v := 0) a_T_meanDuty_16 (by decide)).trans ((zd_istore_n a_T_meanDuty_17 rfl rfl rfl))))) (fun p8 => (zd_num (st2 := [.double 0]) a_T_meanDuty_12 rfl rfl rfl rfl).trans (zd_dret a_T_meanDuty_13 rfl))))))))
theorem B_T_meanDuty_18 {G : Nat → Nat → Int32} {x1 x2 x3 : Int32} (z52_0 : (x1 ≤ x3) → FP.ddiv (FP.i2d x2) (FP.i2d x1) &&& 0x7fffffffffffffff ≤ 0x7ff0000000000000) : zden 100 18 [.ref 0, .int x1, .int x2, .int x3] [] (zSH, G) = if x1 ≤ x3 then some (some (.double (FP.ddiv (FP.i2d x2) (FP.i2d x1))), (zSH, G)) else zaft 100 37 [.ref 0, .int x1, .int x2, .int x3] [.int x3, .ref 2, .int x2] (zSH, G) (zden 28 0 [.ref 2, .int x3, .retAddr 0, .retAddr 0, .retAddr 0, .retAddr 0, .retAddr 0, .retAddr 0] [] (zSH, G)) :=
  (zd_iload_n a_T_meanDuty_18 rfl).trans ((zd_iload_n a_T_meanDuty_19 rfl).trans ((zd_icmp_ge a_T_meanDuty_20 rfl).trans (zitc (fun p9 => (zd_iload_n a_T_meanDuty_48 rfl).trans ((zd_num (st2 := [.double (FP.i2d x2)]) a_T_meanDuty_49 rfl rfl rfl rfl).trans ((zd_iload_n a_T_meanDuty_50 rfl).trans ((zd_num (st2 := [.double (FP.i2d x1), .double (FP.i2d x2)]) a_T_meanDuty_51 rfl rfl rfl rfl).trans ((zd_ddiv a_T_meanDuty_52 (z52_0 p9)).trans (zd_dret a_T_meanDuty_53 rfl)))))) (fun p9 => (zd_iload_n a_T_meanDuty_23 rfl).trans ((zd_aload_n a_T_meanDuty_24 rfl).trans ((zd_getR (h := (zSH, G)) (ci := 7) (fi := 1) (a := 2) a_T_meanDuty_25 (by decide +kernel) sh_0 rfl rfl).trans ((zd_iload_n a_T_meanDuty_28 rfl).trans ((zd_aload_n a_T_meanDuty_29 rfl).trans ((zd_getR (h := (zSH, G)) (ci := 7) (fi := 1) (a := 2) a_T_meanDuty_30 (by decide +kernel) sh_0 rfl rfl).trans ((zd_iload_n a_T_meanDuty_33 rfl).trans ((zd_cal (kd := 0) (tg := 28) (T := m_Ho_originOf) a_T_meanDuty_34 (by decide +kernel) hm_Ho_originOf rfl rfl rfl rfl))))))))))))
theorem B_T_meanDuty_37 {G : Nat → Nat → Int32} {x1 x2 x3 s0 s1 s3 : Int32} : zden 100 37 [.ref 0, .int x1, .int x2, .int x3] [.int s0, .int s1, .ref 2, .int s3] (zSH, G) = zaft 100 40 [.ref 0, .int x1, .int x2, .int x3] [.int s3] (zSH, G) (zden 29 0 [.ref 2, .int s1, .int s0, .retAddr 0, .retAddr 0, .retAddr 0, .retAddr 0] [] (zSH, G)) :=
  (zd_cal (kd := 0) (tg := 29) (T := m_Ho_dutyFrom) a_T_meanDuty_37 (by decide +kernel) hm_Ho_dutyFrom rfl rfl rfl rfl)
theorem B_T_meanDuty_40 {G : Nat → Nat → Int32} {x1 x2 x3 s0 s1 : Int32} : zden 100 40 [.ref 0, .int x1, .int x2, .int x3] [.int s0, .int s1] (zSH, G) = zden 100 18 [.ref 0, .int x1, .int (s1 + s0), .int (x3 + 1)] [] (zSH, G) :=
  (zd_num (st2 := [.int (s1 + s0)]) a_T_meanDuty_40 rfl rfl rfl rfl).trans ((zd_istore_n a_T_meanDuty_41 rfl rfl rfl).trans ((zd_iinc (v := 1) a_T_meanDuty_42 rfl (by decide) rfl rfl rfl).trans ((zd_goto a_T_meanDuty_45 rfl))))
theorem a_T_backShare_0 : zAt 101 0 m_T_backShare (.aload_n 0) 1 := ⟨hm_T_backShare, by decide +kernel⟩
theorem a_T_backShare_1 : zAt 101 1 m_T_backShare (.getfield 20) 3 := ⟨hm_T_backShare, by decide +kernel⟩
theorem a_T_backShare_4 : zAt 101 4 m_T_backShare (.getfield 198) 3 := ⟨hm_T_backShare, by decide +kernel⟩
theorem a_T_backShare_7 : zAt 101 7 m_T_backShare (.ifCond .ne 7) 3 := ⟨hm_T_backShare, by decide +kernel⟩
theorem a_T_backShare_10 : zAt 101 10 m_T_backShare (.fconst 0) 1 := ⟨hm_T_backShare, by decide +kernel⟩
theorem a_T_backShare_11 : zAt 101 11 m_T_backShare (.goto 20) 3 := ⟨hm_T_backShare, by decide +kernel⟩
theorem a_T_backShare_14 : zAt 101 14 m_T_backShare (.aload_n 0) 1 := ⟨hm_T_backShare, by decide +kernel⟩
theorem a_T_backShare_15 : zAt 101 15 m_T_backShare (.getfield 20) 3 := ⟨hm_T_backShare, by decide +kernel⟩
theorem a_T_backShare_18 : zAt 101 18 m_T_backShare (.getfield 201) 3 := ⟨hm_T_backShare, by decide +kernel⟩
theorem a_T_backShare_21 : zAt 101 21 m_T_backShare (.i2f) 1 := ⟨hm_T_backShare, by decide +kernel⟩
theorem a_T_backShare_22 : zAt 101 22 m_T_backShare (.aload_n 0) 1 := ⟨hm_T_backShare, by decide +kernel⟩
theorem a_T_backShare_23 : zAt 101 23 m_T_backShare (.getfield 20) 3 := ⟨hm_T_backShare, by decide +kernel⟩
theorem a_T_backShare_26 : zAt 101 26 m_T_backShare (.getfield 198) 3 := ⟨hm_T_backShare, by decide +kernel⟩
theorem a_T_backShare_29 : zAt 101 29 m_T_backShare (.i2f) 1 := ⟨hm_T_backShare, by decide +kernel⟩
theorem a_T_backShare_30 : zAt 101 30 m_T_backShare (.fdiv) 1 := ⟨hm_T_backShare, by decide +kernel⟩
theorem a_T_backShare_31 : zAt 101 31 m_T_backShare (.freturn) 1 := ⟨hm_T_backShare, by decide +kernel⟩
theorem B_T_backShare_0 {G : Nat → Nat → Int32} (z30_0 : (¬ (G 2 8) = 0) → FP.fdiv (FP.i2f (G 2 9)) (FP.i2f (G 2 8)) &&& 0x7fffffff ≤ 0x7f800000) : zden 101 0 [.ref 0] [] (zSH, G) = if ¬ (G 2 8) = 0 then some (some (.float (FP.fdiv (FP.i2f (G 2 9)) (FP.i2f (G 2 8)))), (zSH, G)) else some (some (.float 0), (zSH, G)) :=
  (zd_aload_n a_T_backShare_0 rfl).trans ((zd_getR (h := (zSH, G)) (ci := 7) (fi := 1) (a := 2) a_T_backShare_1 (by decide +kernel) sh_0 rfl rfl).trans ((zd_getI (h := (zSH, G)) (ci := 2) (fi := 8) a_T_backShare_4 (by decide +kernel) sh_2 rfl).trans ((zd_if_ne a_T_backShare_7 rfl).trans (zitc (fun p2 => (zd_aload_n a_T_backShare_14 rfl).trans ((zd_getR (h := (zSH, G)) (ci := 7) (fi := 1) (a := 2) a_T_backShare_15 (by decide +kernel) sh_0 rfl rfl).trans ((zd_getI (h := (zSH, G)) (ci := 2) (fi := 9) a_T_backShare_18 (by decide +kernel) sh_2 rfl).trans ((zd_num (st2 := [.float (FP.i2f (G 2 9))]) a_T_backShare_21 rfl rfl rfl rfl).trans ((zd_aload_n a_T_backShare_22 rfl).trans ((zd_getR (h := (zSH, G)) (ci := 7) (fi := 1) (a := 2) a_T_backShare_23 (by decide +kernel) sh_0 rfl rfl).trans ((zd_getI (h := (zSH, G)) (ci := 2) (fi := 8) a_T_backShare_26 (by decide +kernel) sh_2 rfl).trans ((zd_num (st2 := [.float (FP.i2f (G 2 8)), .float (FP.i2f (G 2 9))]) a_T_backShare_29 rfl rfl rfl rfl).trans ((zd_fdiv a_T_backShare_30 (z30_0 p2)).trans (zd_fret a_T_backShare_31 rfl)))))))))) (fun p2 => (zd_num (st2 := [.float 0]) a_T_backShare_10 rfl rfl rfl rfl).trans ((zd_goto a_T_backShare_11 rfl).trans (zd_fret a_T_backShare_31 rfl)))))))
