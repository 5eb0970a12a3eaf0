-- 52: what is foretold comes so
def kf (b : Nat) (X Y : Nat → Nat → Int32) : Prop := (∀ i, 10 ≤ i → i ≤ 17 → Y i = X i) ∧ Y 9 2 = X 9 2 ∧ ∀ i, 90 ≤ i → i ≠ b → Y i = X i
theorem kf.tr {b : Nat} {X Y Z : Nat → Nat → Int32} (h : kf b X Y) (k : kf b Y Z) : kf b X Z := ⟨fun i a c => (k.1 i a c).trans (h.1 i a c), k.2.1.trans h.2.1, fun i a c => (k.2.2 i a c).trans (h.2.2 i a c)⟩
theorem kf_rw {b : Nat} {X Y : Nat → Nat → Int32} (h : rwF X Y) : kf b X Y := ⟨fun i a c => h.1 i (by omega), h.2, fun i a _ => h.1 i (by omega)⟩
theorem kf_nx {b : Nat} {X Y : Nat → Nat → Int32} (hb : 90 ≤ b) (h : ∀ i, i ≠ b → Y i = X i) : kf b X Y := ⟨fun i a c => h i (by omega), by rw [h 9 (by omega)], fun i _ c => h i c⟩
theorem keptAt_kf {b : Nat} {G X Y : Nat → Nat → Int32} (h : keptAt 11 G X) (k : kf b X Y) : keptAt 11 G Y := by
  unfold keptAt at h ⊢
  rw [k.1 11 (by decide) (by decide), k.1 (11 + 2) (by decide) (by decide), k.1 (11 + 4) (by decide) (by decide), k.1 (11 + 6) (by decide) (by decide)]
  exact h
def FO (D n gn b : Nat) (G G' : Nat → Nat → Int32) : Prop := hEq G G' ∧ (∃ f, LI D n gn f 0 G') ∧ ∀ i, 90 ≤ i → i ≠ b → G' i = G i
section ZFo
variable {D n gn b : Nat} {E : List zS}
theorem fo_restore {D' n' gn' f' u' : Nat} {G X Z : Nat → Nat → Int32} (hL : LI D' n' gn' f' u' Z) (h0 : HIat D n gn G) (iv0 : zinv (zSH, G)) (kp : keptAt 11 G X) (hs : X 9 2 = 1) (k : kf b X Z) (hX : ∀ i, 90 ≤ i → i ≠ b → X i = G i) :
    ∃ G' : Nat → Nat → Int32, zden 104 0 [.ref 0] [] (zSH ++ E, Z) = some (some (.int (G 2 5)), (zSH ++ E, G')) ∧ FO D n gn b G G' := by
  obtain ⟨G', a, e, l, fr⟩ := ch_restore hL h0 iv0 (keptAt_kf kp k) (k.2.1.trans hs)
  exact ⟨G', zden_x E a, e, ⟨f', l⟩, fun i i1 i2 => (fr.1 i (by omega)).trans ((k.2.2 i i1 i2).trans (hX i i1 i2))⟩
theorem reas {X : Nat → Nat → Int32} : zden 97 0 [.ref 0, .int 0] [] (zSH ++ E, X) = some (some (.int (X 1 1)), (zSH ++ E, X)) ∧ zden 97 0 [.ref 0, .int 1] [] (zSH ++ E, X) = some (some (.int (X 1 2)), (zSH ++ E, X)) := by
  refine ⟨?_, ?_⟩
  · have := zden_x E (rd_reason (G := X) (x := 0))
    rw [if_pos rfl] at this
    exact this
  · have := zden_x E (rd_reason (G := X) (x := 1))
    rw [if_neg (by decide)] at this
    exact this
theorem fo_C {f u g ob d m dd : Nat} {kept : Int32} {G X0 : Nat → Nat → Int32} (hb : (zSH ++ E)[b]? = some (.inl (8, [none]))) (hb9 : 90 ≤ b ∧ b < 1000000) (hD : D ≤ 5900) (h0 : HIat D n gn G) (iv0 : zinv (zSH, G)) (L0 : LI D n gn f u X0) (kp : keptAt 11 G X0) (hs2 : X0 9 2 = 1) (hX : ∀ i, 90 ≤ i → i ≠ b → X0 i = G i)
    (g1 : g < gn) (hs : X0 6 (23 * g + 3) = 0) (hob : ob < 5) (ho : orgF (X0 6) g = nI ob) (hd : dutC (X0 4) (X0 6) (X0 8) n g (nI ob) = nI d) (d1 : d ≤ 1980) (hm : X0 2 6 = nI m) (m1 : m ≤ 9999 * D) (hdd : X0 2 5 = nI dd) (dd1 : dd ≤ 99 * D) (hk : kept = G 2 5) (hk2 : kept = nI dd) :
    ∃ G' : Nat → Nat → Int32, zden 129 99 [.ref 0, .ref b, .int kept, .int (nI g), .int 1, .retAddr 0, .retAddr 0, .retAddr 0, .retAddr 0, .retAddr 0] [] (zSH ++ E, X0) = some (some (.int 1), (zSH ++ E, G')) ∧ FO D n gn b G G' := by
  obtain ⟨rv, hP⟩ := rd_ex L0.w L0.h
  have e7 : rv 78 (nI g) 7 = nI d := (v78 (k := 7) hP L0.w L0.h g1 (by decide)).trans (by show dutC (X0 4) (X0 6) (X0 8) n g (orgF (X0 6) g) = _; rw [ho, hd])
  rw [B_L_foretold_99 hb hb9 hP, if_pos (by decide), e7, nI_1]
  -- coins
  obtain ⟨X1, a1, L1, k1, c6, c5, q4, q6, q8⟩ := x_coins (k := d + 1) (by omega) L0 (by omega) (by omega) hm
  rw [zden_x E a1, zaft_same]
  refine Exists.imp (fun G' => And.imp_left (fun z => (B_L_foretold_192 hb hb9).trans z)) ?_
  -- how many days
  obtain ⟨dy, X2, a2, dy1, n2⟩ := x_next (G := X1) (x := 60) (m := 60) hb hb9 (by decide) (by decide) (by decide)
  have L2 := LI_same L1 (X := X2) (fun i hi => n2 i (by omega))
  have o2 : ∀ i, i < 90 → X2 i = X1 i := fun i hi => n2 i (by omega)
  rw [a2, zaft_same]
  refine Exists.imp (fun G' => And.imp_left (fun z => (B_L_foretold_200 hb hb9).trans z)) ?_
  -- it enters
  obtain ⟨X3, a3, L3, k3, r2, r4, r6, r8⟩ := x_enter (m := m + (d + 1)) (by omega) L2 g1 (by rw [o2 6 (by decide), q6]; exact hs) hob (by rw [o2 6 (by decide), q6]; exact ho) (by rw [o2 4 (by decide), o2 6 (by decide), o2 8 (by decide), q4, q6, q8]; exact hd) d1 (by rw [o2 2 (by decide)]; exact c6) (by omega) (by omega)
  rw [zden_x E a3, zaft_same]
  obtain ⟨rv3, hP3⟩ := rd_ex L3.w L3.h
  have y3 : X3 6 (23 * g + 3) = 1 := by rw [r6]; unfold entF; simp (disch := omega) only [zup_rk, zup_rr, zup_ro]
  have y5 : X3 6 (23 * g + 5) = nI d := by rw [r6]; unfold entF; simp (disch := omega) only [zup_rk, zup_rr, zup_ro]
  have y7 : X3 6 (23 * g + 7) = kept := by rw [r6]; unfold entF; rw [zup_rr, o2 2 (by decide), c5, hdd, hk2]
  have y26 : X3 2 6 = nI (m + 1) := by
    rw [r2]; unfold entF; simp (disch := omega) only [zup_rk, zup_rr, zup_ro]
    exact congrArg nI (by omega)
  have y25 : X3 2 5 = nI dd := by
    rw [r2]; unfold entF; simp (disch := omega) only [zup_rk, zup_rr, zup_ro]
    rw [o2 2 (by decide), c5, hdd]
  have s8 : rv3 78 (nI g) 8 = nI d := (v78 (k := 8) hP3 L3.w L3.h g1 (by decide)).trans y5
  have s10 : rv3 78 (nI g) 10 = kept := (v78 (k := 10) hP3 L3.w L3.h g1 (by decide)).trans y7
  have p6 : nI (m + (d + 1)) - nI d = nI (m + 1) := by rw [pk_sub (by omega)]; exact congrArg nI (by omega)
  have s6 : rv3 98 6 0 = nI (m + (d + 1)) - nI d := by rw [p6]; exact (v98 (k := 6) hP3 L3.w L3.h (by decide)).trans y26
  refine Exists.imp (fun G' => And.imp_left (fun z => (B_L_foretold_207 hb hb9 hP3).trans z)) ?_
  rw [if_neg (fun q => q rfl), if_neg (fun q => q s8), if_neg (fun q => q s10), if_neg (fun q => q s6)]
  -- the days go by
  have days : ∃ (D4 f4 u4 : Nat) (X4 : Nat → Nat → Int32), zden 129 254 [.ref 0, .ref b, .int kept, .int (nI g), .int 1, .int (nI d), .int (nI (m + (d + 1))), .int (nI dy), .retAddr 0, .retAddr 0] [.int 1] (zSH ++ E, X3) = zden 129 276 [.ref 0, .ref b, .int kept, .int (nI g), .int 1, .int (nI d), .int (nI (m + (d + 1))), .int (nI dy), .int 1, .retAddr 0] [.int 1] (zSH ++ E, X4) ∧
      LI D4 n gn f4 u4 X4 ∧ D + 2 ≤ D4 ∧ D4 ≤ D + 3 ∧ X4 2 5 = nI (dd + dy) ∧ (∀ j, j ≠ 5 → X4 2 j = X3 2 j) ∧ X4 6 = X3 6 ∧ kf b X3 X4 := by
    by_cases z : dy = 0
    · subst z
      refine ⟨_, _, _, X3, ?_, L3, by omega, by omega, y25, fun _ _ => rfl, rfl, fun _ _ _ => rfl, rfl, fun _ _ _ => rfl⟩
      rw [B_L_foretold_254 hb hb9, if_pos (by decide)]
    · obtain ⟨X4, a4, L4, k4, t2, t5, t4, t6, t8⟩ := x_days (k := dy) (by omega) L3 (by omega) (by omega) y25 (by omega)
      refine ⟨_, _, _, X4, ?_, L4, by omega, by omega, t5, t2, t6, kf_rw k4⟩
      rw [B_L_foretold_254 hb hb9, if_neg (nI_ne0 (by omega) (by omega)), zden_x E a4, zaft_same]
      refine (B_L_foretold_269 hb hb9).trans ?_
      rw [if_neg (fun q => q (by rw [hk2, nI_add]))]
  obtain ⟨D4, f4, u4, X4, a4, L4, D41, D42, t5, t2, t6, k4⟩ := days
  refine Exists.imp (fun G' => And.imp_left (fun z => a4.trans z)) ?_
  rw [B_L_foretold_276 hb hb9, B_L_foretold_281 hb hb9]
  -- how much comes back
  have hbk : bkF X4 g d = if 30 < nI dy then 0 else d * 9 / 10 := by
    unfold bkF
    rw [t6, y3, if_pos rfl, t5, y7, hk2, pk_sub (by omega), show dd + dy - dd = dy by omega]
  have bl : bkF X4 g d ≤ d := bkF_le
  have bint : (if 30 < nI dy then (0 : Int32) else nI d * 9 / 10) = nI (bkF X4 g d) := by
    rw [hbk]
    by_cases q : 30 < nI dy
    · rw [if_pos q, if_pos q]; rfl
    · rw [if_neg q, if_neg q, nIlit_9, pk_mul, nIlit_10, pk_div (by omega) (by decide) (by decide)]
  have to303 : (if 30 < nI dy then zden 129 303 [.ref 0, .ref b, .int kept, .int (nI g), .int 1, .int (nI d), .int (nI (m + (d + 1))), .int (nI dy), .int (1 &&& 1), .retAddr 0] [.int 0] (zSH ++ E, X4) else zden 129 303 [.ref 0, .ref b, .int kept, .int (nI g), .int 1, .int (nI d), .int (nI (m + (d + 1))), .int (nI dy), .int (1 &&& 1), .retAddr 0] [.int (nI d * 9 / 10)] (zSH ++ E, X4)) =
      zden 129 303 [.ref 0, .ref b, .int kept, .int (nI g), .int 1, .int (nI d), .int (nI (m + (d + 1))), .int (nI dy), .int 1, .retAddr 0] [.int (nI (bkF X4 g d))] (zSH ++ E, X4) := by
    rw [← bint]
    by_cases q : 30 < nI dy
    · rw [if_pos q, if_pos q]; rfl
    · rw [if_neg q, if_neg q]; rfl
  rw [to303, B_L_foretold_303 hb hb9]
  -- it is exported
  obtain ⟨X5, a5, L5, k5, w2, w4, w6, w8⟩ := x_export (p := d) (d := m + 1) (by omega) L4 g1 (by rw [t6, y3]; decide) (by rw [t6]; exact y5) d1 (by rw [t2 6 (by decide)]; exact y26) (by
    have : 9999 * (D + 2) ≤ 9999 * D4 := Nat.mul_le_mul (Nat.le_refl _) D41
    omega)
  rw [zden_x E a5, zaft_same]
  obtain ⟨rv5, hP5⟩ := rd_ex L5.w L5.h
  have z3 : X5 6 (23 * g + 3) = 2 := by rw [w6]; unfold expF; simp (disch := omega) only [zup_rk, zup_rr, zup_ro]
  have z6 : X5 6 (23 * g + 6) = nI (bkF X4 g d) := by rw [w6]; unfold expF; simp (disch := omega) only [zup_rk, zup_rr, zup_ro]
  have z26 : X5 2 6 = nI (m + 1 + bkF X4 g d) := by rw [w2]; unfold expF; simp (disch := omega) only [zup_rk, zup_rr, zup_ro]
  have s9 : rv5 78 (nI g) 9 = nI (bkF X4 g d) := (v78 (k := 9) hP5 L5.w L5.h g1 (by decide)).trans z6
  have s6' : rv5 98 6 0 = nI (m + (d + 1)) - nI d + nI (bkF X4 g d) := by rw [p6, nI_add]; exact (v98 (k := 6) hP5 L5.w L5.h (by decide)).trans z26
  refine Exists.imp (fun G' => And.imp_left (fun z => (B_L_foretold_312 hb hb9 hP5).trans z)) ?_
  rw [if_neg (fun q => q rfl), if_neg (fun q => q s9), if_neg (fun q => q s6')]
  -- it can't be exported again
  obtain ⟨X6, a6, _, L6, k6, _, w12⟩ := x_export_no L5 g1 z3
  rw [zden_x E a6, zaft_same]
  refine Exists.imp (fun G' => And.imp_left (fun z => (B_L_foretold_351 hb hb9).trans z)) ?_
  rw [if_neg (fun q => q rfl), reas.2, zaft_same, w12]
  refine Exists.imp (fun G' => And.imp_left (fun z => (B_L_foretold_361 hb hb9).trans z)) ?_
  rw [if_neg (fun q => q rfl), B_L_foretold_370 hb hb9]
  -- all is restored
  have kk : kf b X0 X6 := (kf_rw k1).tr ((kf_nx hb9.1 n2).tr ((kf_rw k3).tr (k4.tr ((kf_rw k5).tr (kf_rw k6)))))
  obtain ⟨G', a7, fo⟩ := fo_restore (E := E) L6 h0 iv0 kp hs2 kk hX
  refine ⟨G', ?_, fo⟩
  rw [a7, zaft_same]
  refine (B_L_foretold_377 hb hb9).trans ?_
  rw [if_neg (fun q => q hk.symm), if_neg (by decide)]
theorem x_foretold {f u : Nat} {G : Nat → Nat → Int32} (hb : (zSH ++ E)[b]? = some (.inl (8, [none]))) (hb9 : 90 ≤ b ∧ b < 1000000) (hD : D ≤ 5900) (L : LI D n gn f u G) (g0 : 0 < gn) :
    ∃ G' : Nat → Nat → Int32, zden 129 0 [.ref 0, .ref b, .retAddr 0, .retAddr 0, .retAddr 0, .retAddr 0, .retAddr 0, .retAddr 0, .retAddr 0, .retAddr 0] [] (zSH ++ E, G) = some (some (.int 1), (zSH ++ E, G')) ∧ FO D n gn b G G' := by
  have gl := L.h.gl
  have hn := L.h.ho.1
  obtain ⟨G1, a1, e1, L1, kp1, s1, fr1⟩ := ch_save L
  obtain ⟨rv1, hP1⟩ := rd_ex L1.w L1.h
  rw [B_L_foretold_0 hb hb9, zden_x E a1, zaft_same]
  refine Exists.imp (fun G' => And.imp_left (fun z => (B_L_foretold_4 hb hb9 hP1).trans z)) ?_
  obtain ⟨g, G2, a2, g1, n2⟩ := x_next (G := G1) (x := rv1 98 2 0) (m := gn) hb hb9 (rv_gn hP1 L1.w L1.h) g0 (by omega)
  have L2 := LI_same L1 (X := G2) (fun i hi => n2 i (by omega))
  have e2 : hEq G G2 := e1.tr ⟨fun j _ _ => by rw [n2 2 (by omega)], n2 4 (by omega), n2 6 (by omega), n2 8 (by omega)⟩
  have kf2 : kf b G1 G2 := kf_nx hb9.1 n2
  have kp2 := keptAt_kf kp1 kf2
  have s2 : G2 9 2 = 1 := kf2.2.1.trans s1
  have hX2 : ∀ i, 90 ≤ i → i ≠ b → G2 i = G i := fun i i1 i2 => (n2 i i2).trans (fr1 i (by omega))
  obtain ⟨rv, hP⟩ := rd_ex L2.w L2.h
  rw [a2, zaft_same]
  refine Exists.imp (fun G' => And.imp_left (fun z => (B_L_foretold_14 hb hb9 hP).trans z)) ?_
  have e3 : rv 78 (nI g) 3 = G2 6 (23 * g + 3) := v78 (k := 3) hP L2.w L2.h g1 (by decide)
  have e5 : rv 78 (nI g) 5 = orgF (G2 6) g := v78 (k := 5) hP L2.w L2.h g1 (by decide)
  rw [e3]
  by_cases hs : G2 6 (23 * g + 3) = 0
  · rw [if_neg (fun q => q hs), B_L_foretold_29 hb hb9 hP, if_neg (by decide), e5]
    rcases orgF_two (L2.h.good g g1) with ho | ⟨ob, hob, ho⟩
    · rw [ho, if_neg (by decide)]
      obtain ⟨G3, a3, _, L3, k3, w1, w2⟩ := x_enter_no4 L2 g1 hs ho
      rw [zden_x E a3, zaft_same]
      refine Exists.imp (fun G' => And.imp_left (fun z => (B_L_foretold_50 hb hb9).trans z)) ?_
      rw [if_neg (fun q => q rfl), reas.1, zaft_same, w1]
      refine Exists.imp (fun G' => And.imp_left (fun z => (B_L_foretold_60 hb hb9).trans z)) ?_
      rw [if_neg (fun q => q rfl), reas.2, zaft_same, w2]
      refine Exists.imp (fun G' => And.imp_left (fun z => (B_L_foretold_69 hb hb9).trans z)) ?_
      rw [if_neg (fun q => q rfl), B_L_foretold_78 hb hb9, if_neg (by decide)]
      obtain ⟨G', a7, fo⟩ := fo_restore (E := E) L3 L.h L.iv kp2 s2 (kf_rw k3) hX2
      refine ⟨G', ?_, fo⟩
      rw [a7, zaft_same]
      refine (B_L_foretold_89 hb hb9).trans ?_
      rw [if_neg (fun q => q rfl)]
    · rw [ho, if_pos (nI_pos' (by omega))]
      obtain ⟨t, ff, t1, _, _, _, hd, _⟩ := dutC_ok L2.w L2.h g1 (.inr ⟨ob, hob, rfl⟩)
      obtain ⟨m, _, m1, hm⟩ := L2.h.purse
      obtain ⟨dd, _, dd1, hdd⟩ := L2.h.day
      exact fo_C hb hb9 hD L.h L.iv L2 kp2 s2 hX2 g1 hs hob ho hd (by omega) hm m1 hdd dd1 rfl (by rw [← e2.1 5 (by decide) (by decide)]; exact hdd)
  · rw [if_pos hs, B_L_foretold_29 hb hb9 hP, if_pos (by decide), B_L_foretold_99 hb hb9 hP, if_neg (fun q => q rfl)]
    obtain ⟨G3, a3, he3, L3, k3, w1, w2⟩ := x_enter_no L2 g1 hs
    rw [zden_x E a3, zaft_same]
    refine Exists.imp (fun G' => And.imp_left (fun z => (B_L_foretold_109 hb hb9).trans z)) ?_
    rw [if_neg (fun q => q rfl), reas.1, zaft_same, w1]
    refine Exists.imp (fun G' => And.imp_left (fun z => (B_L_foretold_119 hb hb9).trans z)) ?_
    rw [if_neg (fun q => q rfl), reas.2, zaft_same, w2]
    obtain ⟨rv3, hP3⟩ := rd_ex L3.w L3.h
    have h6 : G3 6 = G2 6 := he3.2.2.1
    have e3' : G2 6 (23 * g + 3) = rv3 78 (nI g) 3 := by
      rw [← h6]
      exact (v78 (k := 3) hP3 L3.w L3.h g1 (by decide)).symm
    refine Exists.imp (fun G' => And.imp_left (fun z => (B_L_foretold_128 hb hb9 hP3).trans z)) ?_
    rw [if_neg (fun q => q e3')]
    obtain ⟨G4, a4, _, L4, k4, _, _⟩ := x_work_no L3 g1 (by rw [h6]; exact hs)
    rw [zden_x E a4, zaft_same]
    refine Exists.imp (fun G' => And.imp_left (fun z => (B_L_foretold_144 hb hb9).trans z)) ?_
    rw [if_neg (fun q => q rfl), B_L_foretold_154 hb hb9, if_neg (by decide)]
    obtain ⟨G', a7, fo⟩ := fo_restore (E := E) L4 L.h L.iv kp2 s2 ((kf_rw k3).tr (kf_rw k4)) hX2
    refine ⟨G', ?_, fo⟩
    rw [a7, zaft_same]
    refine (B_L_foretold_165 hb hb9).trans ?_
    rw [if_neg (fun q => q rfl)]
end ZFo
