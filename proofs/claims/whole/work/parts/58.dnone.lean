-- 58: the duty of a good of no origin
theorem duty_none {D : Nat} {G H : Nat → Nat → Int32} {gn g : Nat} (w : zWT G) (hr : HRat D G 2 (H 91)) (i4 : G 2 4 = nI gn) (gl : gn ≤ 12) (hg : g < gn) (hq : HRg (G 6) (H 91) g) :
    ∃ d : Nat, d ≤ 1980 ∧ zden 29 0 [.ref 2, .int (nI g), .int (-15), .retAddr 0, .retAddr 0, .retAddr 0, .retAddr 0] [] (zSH, G) = some (some (.int (nI d)), (zSH, G)) ∧
      zden 134 0 [.ref 90, .int (nI g), .int (-1), .retAddr 0, .retAddr 0, .retAddr 0, .retAddr 0] [] (zSH, H) = some (some (.int (nI d)), (zSH, H)) := by
  obtain ⟨n, h, ho, i3, hh, q1, q2⟩ := fit_one w hr i4 gl hg hq
  have hn := ho.1
  have gl' : g < 12 := by omega
  obtain ⟨cc, f, o, r, k, hcc, hf, hoo, hrr, hkk, c1, c2, f2, o2, r2, k2, _⟩ := ho.row hh
  obtain ⟨⟨m0, m1, m2, m3, m4⟩, k0, k1, kk2, k3, k4⟩ := ho.head hh
  obtain ⟨a1, a2, a3, a4, a5, a6, a7, a8, a9, a10, a11, a12, ⟨ki, ki1, ki2, ki3⟩, ⟨wo, wo1, wo2, wo3⟩, _⟩ := hq
  have tr : tget G 3 4 55 (nI h) 2 = nI r := (hd_get (j := 2) w rfl (by decide) (by omega) (by decide)).trans hrr
  have tk : tget G 3 4 55 (nI h) 3 = nI k := (hd_get (j := 3) w rfl (by decide) (by omega) (by decide)).trans hkk
  have gw : tget G 5 6 276 (nI g) 2 = nI wo := (gd_get (j := 2) w rfl (by decide) gl' (by decide)).trans wo3
  have gk : tget G 5 6 276 (nI g) 1 = nI ki := (gd_get (j := 1) w rfl (by decide) gl' (by decide)).trans ki3
  have gf : tget G 7 8 5 0 (-15) = nI 0 := tget_neg (by decide)
  have b1 : wo * r ≤ 999 * 60 := Nat.mul_le_mul wo2 r2
  have b2 : ki * k ≤ 99 * 20 := Nat.mul_le_mul ki2 k2
  have e1 : nI wo * nI r / 100 = nI (wo * r / 100) := by rw [pk_mul, nIlit_100, pk_div (by omega) (by decide) (by decide)]
  have e2 : nI ki * nI k = nI (ki * k) := pk_mul _ _
  have c3 : wo * r / 100 ≤ 999 * 60 / 100 := Nat.div_le_div_right b1
  have fin : ∀ z : Nat, z ≤ 1980 → nI z - nI z * nI 0 / 100 = nI (z - z * 0 / 100) := fun z hz => by
    have a : z * 0 ≤ 1980 * 100 := by omega
    have b : z * 0 / 100 ≤ z := by
      have : z * 0 ≤ z * 100 := by omega
      omega
    rw [pk_mul, nIlit_100, pk_div (by omega) (by decide) (by decide), pk_sub b]
  refine ⟨dutyN wo ki r k 0, dutyN_le wo2 ki2 r2 k2, ?_, ?_⟩
  · rw [B_Ho_dutyFrom_0, q1, zaft_same]
    refine Eq.trans B_Ho_dutyFrom_8 ?_
    rw [tr, tk, gw, gk, gf, e1, e2]
    unfold dutyN
    by_cases q : wo * r / 100 < ki * k
    · rw [if_pos (nI_lt q (by omega)), if_pos q, fin _ (by omega)]
    · rw [if_neg (nI_nlt (by omega) (by omega)), if_neg q, fin _ (by omega)]
  · have v2 : H 91 (65 + 22 * g) = nI wo := a3.symm.trans wo3
    have v1 : H 91 (64 + 22 * g) = nI ki := a2.symm.trans ki3
    rw [B_M_duty_0, q2, zaft_same]
    refine Eq.trans (B_M_duty_6 (mzin (K := 2) (by decide) gl' (by decide)) k3 (mzin (K := 1) (by decide) gl' (by decide)) k4) ?_
    rw [mcl2 (N := 65 + 22 * g) (K := 2) (by decide) gl' (by decide) (by omega), mcl2 (N := 64 + 22 * g) (K := 1) (by decide) gl' (by decide) (by omega), v2, v1, m3, m4, hrr, hkk, e1, e2,
      B_M_duty_62 (fun q => absurd q (by decide)), B_M_duty_62 (fun q => absurd q (by decide)), if_neg (show ¬ (0 : Int32) ≤ -1 by decide), if_neg (show ¬ (0 : Int32) ≤ -1 by decide)]
    unfold dutyN
    rw [Nat.mul_zero, Nat.zero_div, Nat.sub_zero]
    by_cases q : wo * r / 100 < ki * k
    · rw [if_pos (nI_le (by omega) (by omega)), if_pos q]
    · rw [if_neg q]
      by_cases q3 : ki * k = wo * r / 100
      · rw [if_pos (nI_le (by omega) (by omega)), q3]
      · rw [if_neg (nI_ge (by omega) (by omega))]
