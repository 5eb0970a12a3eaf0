-- 56: the stock that the law lays in
def rB (r : Int32) : Prop := ∃ k : Nat, k ≤ 100000014 ∧ r = nI k + (-14)
theorem rB_neg {r : Int32} (h1 : r < 0) (h2 : -14 ≤ r) : rB r := by
  have a := Int32.lt_iff_toInt_lt.mp h1
  have b := Int32.le_iff_toInt_le.mp h2
  have z : (0 : Int32).toInt = 0 := by decide
  have y : (-14 : Int32).toInt = -14 := by decide
  rw [z] at a
  rw [y] at b
  refine ⟨(r.toInt + 14).toNat, by omega, ?_⟩
  apply Int32.toInt_inj.mp
  rw [Int32.toInt_add, nI_toInt (by omega), y, Int.bmod_eq_of_le (by omega) (by omega)]
  omega
theorem rB_pos {r : Int32} (h : zR5 0 100000000 r) : rB r := by
  obtain ⟨m, _, m2, rfl⟩ := h
  refine ⟨m + 14, by omega, ?_⟩
  rw [← nI_add, Int32.add_assoc, show nI 14 + (-14 : Int32) = 0 by decide, Int32.add_zero]
section ZSt
variable {D n gn f u : Nat} {G : Nat → Nat → Int32}
theorem LI.mono {D' : Nat} (h : LI D n gn f u G) (hd : D ≤ D') : LI D' n gn f u G := ⟨h.w, h.k, HI.mono h.h hd, h.fl, h.ul, h.f3, h.u4, h.tx, h.iv⟩
theorem hd_gn {x1 x2 x3 x4 x5 : Int32} (w : zWT G) (hr : HIat D n gn G) : ∃ (r : Int32) (G' : Nat → Nat → Int32), zden 1 0 [.ref 1, .int x1, .int x2, .int x3, .int x4, .int x5, .retAddr 0] [] (zSH, G) = some (some (.int r), (zSH, G')) ∧ G' 2 4 = G 2 4 := by
  have ho := hr.ho
  have hn : n ≤ 10 := ho.1
  have i3' : G 2 3 = nI (n + 1) := hr.i3
  have rf : ∀ a b : Int32, zup (zup G 1 1 a) 1 2 b 2 4 = G 2 4 := fun a b => by rw [zup_ro (by decide), zup_ro (by decide)]
  by_cases c1 : (1 : Int32) ≤ x1 ∧ x1 ≤ 98
  rotate_left
  · exact ⟨-12, G, by rw [B_Cl_setUp_0, if_pos (bIz.mpr c1)], rfl⟩
  by_cases c2 : (0 : Int32) ≤ x2 ∧ x2 ≤ 4
  rotate_left
  · exact ⟨-12, G, by rw [B_Cl_setUp_0, if_neg (fun q => bIz.mp q c1), if_pos (bIz.mpr c2)], rfl⟩
  by_cases c3 : (0 : Int32) ≤ x3 ∧ x3 ≤ 3
  rotate_left
  · exact ⟨-12, G, by rw [B_Cl_setUp_0, if_neg (fun q => bIz.mp q c1), if_neg (fun q => bIz.mp q c2), if_pos (bIz.mpr c3)], rfl⟩
  by_cases c4 : (0 : Int32) ≤ x4 ∧ x4 ≤ 60
  rotate_left
  · exact ⟨-12, G, by rw [B_Cl_setUp_0, if_neg (fun q => bIz.mp q c1), if_neg (fun q => bIz.mp q c2), if_neg (fun q => bIz.mp q c3), if_pos (bIz.mpr c4)], rfl⟩
  by_cases c5 : (0 : Int32) ≤ x5 ∧ x5 ≤ 20
  rotate_left
  · exact ⟨-12, G, by rw [B_Cl_setUp_0, if_neg (fun q => bIz.mp q c1), if_neg (fun q => bIz.mp q c2), if_neg (fun q => bIz.mp q c3), if_neg (fun q => bIz.mp q c4), if_neg (fun q => c5 (bIn.mp q))], rfl⟩
  have ck : zden 1 0 [.ref 1, .int x1, .int x2, .int x3, .int x4, .int x5, .retAddr 0] [] (zSH, G) = _ := B_Cl_setUp_0
  rw [if_neg (fun q => bIz.mp q c1), if_neg (fun q => bIz.mp q c2), if_neg (fun q => bIz.mp q c3), if_neg (fun q => bIz.mp q c4), if_pos (bIn.mpr c5), sc_rowOfCode w hn i3', zaft_same] at ck
  have ck := ck.trans B_Cl_setUp_61
  rw [i3'] at ck
  rcases findR_or (A := G 4) (x := x1) (n + 1) 0 with ⟨f1, f2⟩ | ⟨k, _, k2, f1, f2⟩
  rotate_left
  · rw [f1, if_neg (nI_pos (by omega)), B_Cl_refuse_0, zaft_same] at ck
    exact ⟨-14, _, ck.trans B_Cl_setUp_70, rf _ _⟩
  rw [f1, if_pos (by decide)] at ck
  by_cases h10 : n = 10
  · subst h10
    rw [if_neg (by decide), B_Cl_refuse_0, zaft_same] at ck
    exact ⟨-14, _, ck.trans B_Cl_setUp_90, rf _ _⟩
  have hn9 : n < 10 := by omega
  rw [if_pos (by rw [nIlit_10]; exact nI_le (by omega) (by decide))] at ck
  obtain ⟨p, G1, g1, g2, g3, g4, g5, g6⟩ := sc_ins (x1 := x1) (x2 := x2) (x3 := x3) (x4 := x4) (x5 := x5) (n + 1) G (by omega) w
  have pn : p ≤ n := by
    rcases Nat.lt_or_ge n p with h | h
    · rcases g4 with g4 | g4
      · omega
      · have e : p - 1 = n := by omega
        rw [e] at g4
        have e9 : G 4 (5 * n + 4) = 99 := ho.2.2.1.2.2.2.2
        rw [e9] at g4
        exact absurd (Int32.le_trans g4 c1.2) (by decide)
    · exact h
  have w1 : zWT G1 := by unfold zWT; rw [g6 3 (by decide), g6 5 (by decide), g6 7 (by decide)]; exact w
  have s : ∀ (X : Nat → Nat → Int32) (col : Int32) (j : Nat) (x : Int32), zWT X → col = nI j → j < 5 → tset X 3 4 55 (nI p) col x = zup X 4 (5 * p + j) x := fun X col j x hX hc hj => hd_set hX rfl hc (by omega) hj
  have wz : ∀ (X : Nat → Nat → Int32) (k : Nat) (x : Int32), zWT X → zWT (zup X 4 k x) := fun X k x hX => hX.zup (by decide) (by decide) (by decide)
  have ck := (ck.trans g1).trans B_Cl_setUp_146
  rw [s _ 4 4 _ w1 (by decide) (by decide), s _ 0 0 _ (wz _ _ _ (w1)) (by decide) (by decide), s _ 1 1 _ (wz _ _ _ (wz _ _ _ (w1))) (by decide) (by decide), s _ 2 2 _ (wz _ _ _ (wz _ _ _ (wz _ _ _ (w1)))) (by decide) (by decide), s _ 3 3 _ (wz _ _ _ (wz _ _ _ (wz _ _ _ (wz _ _ _ (w1))))) (by decide) (by decide)] at ck
  refine ⟨_, _, ck, ?_⟩
  rw [zup_rk (by decide)]
  simp (disch := omega) only [zup_ro]
  rw [g6 2 (by decide)]
theorem fr_of {X : Nat → Nat → Int32} (h : rwF G X) : ∀ i, 90 ≤ i → X i = G i := fun i hi => h.1 i (by omega)
theorem x_any {tc : Nat} {ac : List Value} (ok : ChOK tc ac) (hD : D ≤ 6000) (h : LI D n gn f u G) : ∃ (r : Int32) (G' : Nat → Nat → Int32), zden tc 0 ac [] (zSH, G) = some (some (.int r), (zSH, G')) ∧ rB r ∧ (∃ n' gn' f' u', gn ≤ gn' ∧ LI (D + 1) n' gn' f' u' G') ∧ ∀ i, 90 ≤ i → G' i = G i := by
  obtain ⟨r, G', z, fr, en⟩ := ok D n gn f u G hD h
  rcases en with ⟨a, b, _, d⟩ | ⟨a, n', gn', b, c, _⟩
  · exact ⟨r, G', z, rB_neg a b, ⟨n, gn, f, u, Nat.le_refl _, d.mono (by omega)⟩, fr_of fr⟩
  · exact ⟨r, G', z, rB_pos a, ⟨n', gn', _, _, b, c⟩, fr_of fr⟩
theorem x_head {x1 x2 x3 x4 x5 : Int32} (hD : D ≤ 6000) (h : LI D n gn f u G) : ∃ (r : Int32) (G' : Nat → Nat → Int32), zden 70 0 [.ref 0, .int x1, .int x2, .int x3, .int x4, .int x5] [] (zSH, G) = some (some (.int r), (zSH, G')) ∧ rB r ∧ (∃ n' f' u', LI (D + 1) n' gn f' u' G') ∧ (∀ i, 90 ≤ i → G' i = G i) ∧
    (n = 0 → (1 ≤ x1 ∧ x1 ≤ 98) → (0 ≤ x2 ∧ x2 ≤ 4) → (0 ≤ x3 ∧ x3 ≤ 3) → (0 ≤ x4 ∧ x4 ≤ 60) → (0 ≤ x5 ∧ x5 ≤ 20) → r = 1) := by
  obtain ⟨b1, w1, h1, co, _, _⟩ := sc_begin h
  obtain ⟨r, G2, z, fr, en, one⟩ := hd_ok (x1 := x1) (x2 := x2) (x3 := x3) (x4 := x4) (x5 := x5) hD w1 h1
  obtain ⟨r', G2', z', g24⟩ := hd_gn (x1 := x1) (x2 := x2) (x3 := x3) (x4 := x4) (x5 := x5) w1 h1
  have e : G2' = G2 := (Prod.mk.inj (Prod.mk.inj (Option.some.inj (z'.symm.trans z))).2).2
  subst e
  rcases en with ⟨a, b, c⟩ | ⟨a, n', gn', b, c⟩
  · obtain ⟨k3, _, l, s⟩ := sc_no h z fr a c
    exact ⟨r, G2', pub_heading b1 z k3, rB_neg a b, ⟨n, f, u, l.mono (by omega)⟩, fr_of s, one⟩
  · have nr : ¬ r < 0 := by
      obtain ⟨m, _, m2, rfl⟩ := a
      exact nI_pos (by omega)
    have eg : gn' = gn := by
      have q : nI gn' = nI gn := (show G2' 2 4 = nI gn' from c.i4).symm.trans (g24.trans h1.i4)
      have := c.gl
      have := h1.gl
      exact (nI_eq (by omega) (by omega)).mp q
    subst eg
    obtain ⟨G3, k3, l, _, s, _⟩ := sc_end h z fr nr c
    exact ⟨r, G3, pub_heading b1 z k3, rB_pos a, ⟨n', _, _, l⟩, fr_of s, one⟩
theorem x_good {fo k c s t w : Nat} (hD : D ≤ 6000) (h : LI D n gn f u G) (f2 : fo ≤ 2) (k1 : 1 ≤ k) (k2 : k ≤ 99) (cc1 : 1 ≤ c) (cc2 : c ≤ 999) (hsum : s + t + w ≤ 100) (hgn : gn < 12) :
    ∃ G' : Nat → Nat → Int32, zden 75 0 [.ref 0, .int (nI fo), .int (nI k), .int (nI c), .int (nI s), .int (nI t), .int (nI w)] [] (zSH, G) = some (some (.int (nI gn)), (zSH, G')) ∧ (∃ f' u', LI (D + 1) n (gn + 1) f' u' G') ∧ ∀ i, 90 ≤ i → G' i = G i := by
  obtain ⟨b1, w1, h1, co, _, _⟩ := sc_begin h
  obtain ⟨G2, z, fr, h2⟩ := ex_good (s := s) (t := t) (u := w) w1 h1 f2 k1 k2 cc1 cc2 hsum hgn
  obtain ⟨G3, k3, l, _, q, _⟩ := sc_end h z fr (nI_pos (by omega)) h2
  exact ⟨G3, pub_good b1 z k3, ⟨_, _, l⟩, fr_of q⟩
theorem x_fav (hD : D ≤ 6000) (h : LI D n gn f u G) : ∃ (k : Nat) (G' : Nat → Nat → Int32), k ≤ 100 ∧ zden 84 0 [.ref 0, .int 1, .int 25] [] (zSH, G) = some (some (.int (nI k)), (zSH, G')) ∧ (∃ n' gn' f' u', gn ≤ gn' ∧ LI (D + 1) n' gn' f' u' G') ∧ ∀ i, 90 ≤ i → G' i = G i := by
  obtain ⟨b1, w1, h1, co, _, _⟩ := sc_begin h
  obtain ⟨r, G2, z, fr, en⟩ := ok_favour (x := 1) (y := 25) D n gn _ hD w1 h1
  obtain ⟨k, _, k2, k3⟩ := h1.fav 1 (by decide)
  have e : r = nI k := by
    have q : zden 7 0 [.ref 1, .int 1, .int 25, .retAddr 0] [] (zSH, hcopy G (kb f) 2) = _ := B_Cl_favourCountry_0
    rw [if_pos (by decide), if_pos (by decide), fv_get (j := 1) w1 (by decide) (by decide), k3] at q
    exact zint_inj (z.symm.trans q)
  subst e
  rcases en with ⟨a, _⟩ | ⟨_, n', gn', b, c⟩
  · exact absurd a (nI_pos (by omega))
  · obtain ⟨G3, k4, l, _, q, _⟩ := sc_end h z fr (nI_pos (by omega)) c
    exact ⟨k, G3, k2, pub_favour b1 z k4, ⟨n', gn', _, _, b, l⟩, fr_of q⟩
theorem x_stock {E : List zS} (h : LI 0 0 0 f u G) : ∃ (r : Int32) (G' : Nat → Nat → Int32), zden 124 0 [.ref 0, .retAddr 0] [] (zSH ++ E, G) = some (some (.int r), (zSH ++ E, G')) ∧ ¬ r ≤ 0 ∧ (∃ n' gn' f' u', 3 ≤ gn' ∧ LI 14 n' gn' f' u' G') ∧ ∀ i, 90 ≤ i → G' i = G i := by
  obtain ⟨r1, G1, a1, _, ⟨n1, f1, u1, l1⟩, o1, one⟩ := x_head (x1 := 50) (x2 := 0) (x3 := 1) (x4 := 20) (x5 := 3) (by omega) h
  have one := one rfl ⟨by decide, by decide⟩ ⟨by decide, by decide⟩ ⟨by decide, by decide⟩ ⟨by decide, by decide⟩ ⟨by decide, by decide⟩
  obtain ⟨r2, G2, a2, ⟨k2, b2, c2⟩, ⟨n2, f2, u2, l2⟩, o2, _⟩ := x_head (x1 := 10) (x2 := 4) (x3 := 1) (x4 := 40) (x5 := 0) (by omega) l1
  obtain ⟨r3, G3, a3, ⟨k3, b3, c3⟩, ⟨n3, f3, u3, l3⟩, o3, _⟩ := x_head (x1 := 70) (x2 := 4) (x3 := 3) (x4 := 10) (x5 := 0) (by omega) l2
  obtain ⟨r4, G4, a4, ⟨k4, b4, c4⟩, ⟨n4, f4, u4, l4⟩, o4, _⟩ := x_head (x1 := 61) (x2 := 1) (x3 := 3) (x4 := 15) (x5 := 1) (by omega) l3
  obtain ⟨G5, a5, ⟨f5, u5, l5⟩, o5⟩ := x_good (fo := 1) (k := 7) (c := 200) (s := 60) (t := 40) (w := 0) (by omega) l4 (by omega) (by omega) (by omega) (by omega) (by omega) (by omega) (by omega)
  obtain ⟨G6, a6, ⟨f6, u6, l6⟩, o6⟩ := x_good (fo := 2) (k := 3) (c := 90) (s := 30) (t := 30) (w := 0) (by omega) l5 (by omega) (by omega) (by omega) (by omega) (by omega) (by omega) (by omega)
  obtain ⟨G7, a7, ⟨f7, u7, l7⟩, o7⟩ := x_good (fo := 0) (k := 20) (c := 45) (s := 0) (t := 0) (w := 20) (by omega) l6 (by omega) (by omega) (by omega) (by omega) (by omega) (by omega) (by omega)
  obtain ⟨r8, G8, a8, ⟨k8, b8, c8⟩, ⟨n8, g8, f8, u8, m8, l8⟩, o8⟩ := x_any (ch_work (x1 := 0) (x2 := 2) (x3 := 40)) (by omega) l7
  obtain ⟨r9, G9, a9, ⟨k9, b9, c9⟩, ⟨n9, g9, f9, u9, m9, l9⟩, o9⟩ := x_any (ch_work (x1 := 0) (x2 := 1) (x3 := 40)) (by omega) l8
  obtain ⟨r10, G10, a10, ⟨k10, b10, c10⟩, ⟨n10, g10, f10, u10, m10, l10⟩, o10⟩ := x_any (ch_work (x1 := 1) (x2 := 0) (x3 := 5)) (by omega) l9
  obtain ⟨k11, G11, b11, a11, ⟨n11, g11, f11, u11, m11, l11⟩, o11⟩ := x_fav (by omega) l10
  obtain ⟨d12, _, e12, hd12⟩ := l11.h.purse
  obtain ⟨G12, a12, l12, o12, _⟩ := x_coins (k := 100) (by omega) l11 (by omega) (by omega) hd12
  obtain ⟨r13, G13, a13, ⟨k13, b13, c13⟩, ⟨n13, g13, f13, u13, m13, l13⟩, o13⟩ := x_any (ch_enter (x1 := 0)) (by omega) l12
  obtain ⟨d14, _, e14, hd14⟩ := l13.h.day
  obtain ⟨G14, a14, l14, o14, _⟩ := x_days (k := 3) (by omega) l13 (by omega) (by omega) hd14 (by omega)
  refine ⟨r1 + r2 + r3 + r4 + (nI 0 + nI (0 + 1) + nI (0 + 1 + 1)) + r8 + r9 + r10 + nI k11 + nI (d12 + 100) + r13 + nI (d14 + 3), G14, ?_, ?_, ⟨_, _, _, _, by omega, l14⟩, fun i hi => ?_⟩
  · rw [B_L_stock_0, zden_x E a1, zaft_same]
    refine B_L_stock_11.trans ?_
    rw [zden_x E a2, zaft_same]
    refine B_L_stock_22.trans ?_
    rw [zden_x E a3, zaft_same]
    refine B_L_stock_34.trans ?_
    rw [zden_x E a4, zaft_same]
    refine B_L_stock_46.trans ?_
    rw [show zden 75 0 [.ref 0, .int 1, .int 7, .int 200, .int 60, .int 40, .int 0] [] (zSH ++ E, G4) = _ from zden_x E a5, zaft_same]
    refine B_L_stock_64.trans ?_
    rw [show zden 75 0 [.ref 0, .int 2, .int 3, .int 90, .int 30, .int 30, .int 0] [] (zSH ++ E, G5) = _ from zden_x E a6, zaft_same]
    refine B_L_stock_77.trans ?_
    rw [show zden 75 0 [.ref 0, .int 0, .int 20, .int 45, .int 0, .int 0, .int 20] [] (zSH ++ E, G6) = _ from zden_x E a7, zaft_same]
    refine B_L_stock_91.trans ?_
    rw [zden_x E a8, zaft_same]
    refine B_L_stock_103.trans ?_
    rw [zden_x E a9, zaft_same]
    refine B_L_stock_112.trans ?_
    rw [zden_x E a10, zaft_same]
    refine B_L_stock_120.trans ?_
    rw [zden_x E a11, zaft_same]
    refine B_L_stock_128.trans ?_
    rw [show zden 85 0 [.ref 0, .int 100] [] (zSH ++ E, G11) = _ from zden_x E a12, zaft_same]
    refine B_L_stock_135.trans ?_
    rw [zden_x E a13, zaft_same]
    refine B_L_stock_141.trans ?_
    rw [show zden 88 0 [.ref 0, .int 3] [] (zSH ++ E, G13) = _ from zden_x E a14, zaft_same]
    exact B_L_stock_147
  · have tot : r1 + r2 + r3 + r4 + (nI 0 + nI (0 + 1) + nI (0 + 1 + 1)) + r8 + r9 + r10 + nI k11 + nI (d12 + 100) + r13 + nI (d14 + 3) = nI (1 + k2 + k3 + k4 + 3 + k8 + k9 + k10 + k11 + (d12 + 100) + k13 + (d14 + 3)) - nI 98 := by
      have m98 : - nI 98 = (-14) + (-14) + (-14) + (-14) + (-14) + (-14) + (-14 : Int32) := by decide
      have e3 : nI 0 + nI (0 + 1) + nI (0 + 1 + 1) = nI 3 := by decide
      rw [one, c2, c3, c4, e3, c8, c9, c10, c13, Int32.sub_eq_add_neg, m98]
      simp only [← nI_add]
      rw [show nI 1 = 1 by decide]
      ac_rfl
    rw [tot, pk_sub (by omega)]
    exact nI_nle (by omega) (by omega)
  · rw [fr_of o14 i hi, o13 i hi, fr_of o12 i hi, o11 i hi, o10 i hi, o9 i hi, o8 i hi, o7 i hi, o6 i hi, o5 i hi, o4 i hi, o3 i hi, o2 i hi, o1 i hi]
end ZSt
