-- 46: the one heading of a good; its duty
theorem fit_last {n g : Nat} {A B v : Nat → Int32} (ho : hOK n A v) : fitB A B g n = true := by
  obtain ⟨_, _, _, h4, h5, _⟩ := ho
  unfold fitB
  rw [h4, h5]
  rfl
theorem fit_one {D : Nat} {G H : Nat → Nat → Int32} {gn g : Nat} (w : zWT G) (hr : HRat D G 2 (H 91)) (i4 : G 2 4 = nI gn) (gl : gn ≤ 12) (hg : g < gn) (hq : HRg (G 6) (H 91) g) :
    ∃ n h : Nat, hOK n (G 4) (H 91) ∧ G 2 3 = nI (n + 1) ∧ h ≤ n ∧ zden 24 0 [.ref 2, .int (nI g), .int 1000, .retAddr 0, .retAddr 0, .retAddr 0, .retAddr 0] [] (zSH, G) = some (some (.int (nI h)), (zSH, G)) ∧
      zden 120 0 [.ref 90, .int (nI g), .int 0, .retAddr 0, .retAddr 0, .retAddr 0] [] (zSH, H) = some (some (.int (nI h)), (zSH, H)) := by
  obtain ⟨n, ho, i3, hs⟩ := hr.rows
  have ho' : hOK n (G 4) (H 91) := ho
  have i3' : G 2 3 = nI (n + 1) := i3
  obtain ⟨r, x, q1, q2⟩ := sc_fittingRow (b := 1000) w ho' i3' (show g < 12 by omega) (by omega)
  obtain ⟨r', p1, p2⟩ := sm_fitting (pl := nI 0) ho' (show g < 12 by omega) hq
  have a0 := atI_zero (fun j hj => by have := rk_le ho' hj; omega) q2
  have e := atI_selM (by decide) ho.1 (fun i j hi hj h => rk_inj ho' hs hi hj h) (fun i j hi hj => rk_lt ho' hi hj) a0 p2
  subst e
  rcases a0 with ⟨_, z⟩ | ⟨h, h1, h2, _, _⟩
  · have := z n (Nat.le_refl _) (fit_last ho')
    omega
  · subst h2
    exact ⟨n, h, ho', i3', h1, by rw [show (1000 : Int32) = nI 1000 by decide]; exact q1, p1⟩
/-- coins of a duty -/
def dutyN (worth kilos rate kilo fav : Nat) : Nat := (if worth * rate / 100 < kilos * kilo then kilos * kilo else worth * rate / 100) - (if worth * rate / 100 < kilos * kilo then kilos * kilo else worth * rate / 100) * fav / 100
theorem dutyN_le {worth kilos rate kilo fav : Nat} (h1 : worth ≤ 999) (h2 : kilos ≤ 99) (h3 : rate ≤ 60) (h4 : kilo ≤ 20) : dutyN worth kilos rate kilo fav ≤ 1980 := by
  have a : worth * rate ≤ 999 * 60 := Nat.mul_le_mul h1 h3
  have b : kilos * kilo ≤ 99 * 20 := Nat.mul_le_mul h2 h4
  have c : worth * rate / 100 ≤ 999 * 60 / 100 := Nat.div_le_div_right a
  unfold dutyN
  by_cases q : worth * rate / 100 < kilos * kilo
  · rw [if_pos q]; omega
  · rw [if_neg q]; omega
theorem duty_same {D : Nat} {G H : Nat → Nat → Int32} {gn g c : Nat} (w : zWT G) (hr : HRat D G 2 (H 91)) (i4 : G 2 4 = nI gn) (gl : gn ≤ 12) (hg : g < gn) (hq : HRg (G 6) (H 91) g) (hc : c < 5) :
    ∃ d : Nat, d ≤ 1980 ∧ zden 29 0 [.ref 2, .int (nI g), .int (nI c), .retAddr 0, .retAddr 0, .retAddr 0, .retAddr 0] [] (zSH, G) = some (some (.int (nI d)), (zSH, G)) ∧
      zden 134 0 [.ref 90, .int (nI g), .int (nI c), .retAddr 0, .retAddr 0, .retAddr 0, .retAddr 0] [] (zSH, H) = some (some (.int (nI d)), (zSH, H)) := by
  obtain ⟨n, h, ho, i3, hh, q1, q2⟩ := fit_one w hr i4 gl hg hq
  have hn := ho.1
  have gl' : g < 12 := by omega
  obtain ⟨cc, f, o, r, k, hcc, hf, hoo, hrr, hkk, c1, c2, f2, o2, r2, k2, _⟩ := ho.row hh
  obtain ⟨⟨m0, m1, m2, m3, m4⟩, k0, k1, kk2, k3, k4⟩ := ho.head hh
  obtain ⟨fv, fv0, fv1, fv2⟩ := (hr.fav c hc).2
  have fe : G 8 c = H 91 (8 + c) := (hr.fav c hc).1
  have fv2' : G 8 c = nI fv := fv2
  obtain ⟨a1, a2, a3, a4, a5, a6, a7, a8, a9, a10, a11, a12, ⟨ki, ki1, ki2, ki3⟩, ⟨wo, wo1, wo2, wo3⟩, _⟩ := hq
  have tr : tget G 3 4 55 (nI h) 2 = nI r := (hd_get (j := 2) w rfl (by decide) (by omega) (by decide)).trans hrr
  have tk : tget G 3 4 55 (nI h) 3 = nI k := (hd_get (j := 3) w rfl (by decide) (by omega) (by decide)).trans hkk
  have gw : tget G 5 6 276 (nI g) 2 = nI wo := (gd_get (j := 2) w rfl (by decide) gl' (by decide)).trans wo3
  have gk : tget G 5 6 276 (nI g) 1 = nI ki := (gd_get (j := 1) w rfl (by decide) gl' (by decide)).trans ki3
  have gf : tget G 7 8 5 0 (nI c) = nI fv := (fv_get w rfl hc).trans fv2'
  have b1 : wo * r ≤ 999 * 60 := Nat.mul_le_mul wo2 r2
  have b2 : ki * k ≤ 99 * 20 := Nat.mul_le_mul ki2 k2
  have e1 : nI wo * nI r / 100 = nI (wo * r / 100) := by rw [pk_mul, nIlit_100, pk_div (by omega) (by decide) (by decide)]
  have e2 : nI ki * nI k = nI (ki * k) := pk_mul _ _
  have c3 : wo * r / 100 ≤ 999 * 60 / 100 := Nat.div_le_div_right b1
  have fin : ∀ z : Nat, z ≤ 1980 → nI z - nI z * nI fv / 100 = nI (z - z * fv / 100) := fun z hz => by
    have a : z * fv ≤ 1980 * 100 := Nat.mul_le_mul hz fv1
    have b : z * fv / 100 ≤ z := by
      have : z * fv ≤ z * 100 := Nat.mul_le_mul (Nat.le_refl _) fv1
      omega
    rw [pk_mul, nIlit_100, pk_div (by omega) (by decide) (by decide), pk_sub b]
  refine ⟨dutyN wo ki r k fv, dutyN_le wo2 ki2 r2 k2, ?_, ?_⟩
  · rw [B_Ho_dutyFrom_0, q1, zaft_same]
    refine Eq.trans B_Ho_dutyFrom_8 ?_
    rw [tr, tk, gw, gk, gf, e1, e2]
    unfold dutyN
    by_cases q : wo * r / 100 < ki * k
    · rw [if_pos (nI_lt q (by omega)), if_pos q, fin _ (by omega)]
    · rw [if_neg (nI_nlt (by omega) (by omega)), if_neg q, fin _ (by omega)]
  · have v2 : H 91 (65 + 22 * g) = nI wo := a3.symm.trans wo3
    have v1 : H 91 (64 + 22 * g) = nI ki := a2.symm.trans ki3
    have e8 : (8 : Int32) + nI c = nI (8 + c) := by rw [nIlit_8, nI_add]
    have z8 : zin (8 + nI c) 327 = true := by rw [e8]; exact zin_nI (by omega) (by decide)
    have f8 : H 91 (8 + nI c).toNatClampNeg = nI fv := by rw [e8, nI_clamp (by omega), ← fe]; exact fv2'
    rw [B_M_duty_0, q2, zaft_same]
    refine Eq.trans (B_M_duty_6 (mzin (K := 2) (by decide) gl' (by decide)) k3 (mzin (K := 1) (by decide) gl' (by decide)) k4) ?_
    rw [mcl2 (N := 65 + 22 * g) (K := 2) (by decide) gl' (by decide) (by omega), mcl2 (N := 64 + 22 * g) (K := 1) (by decide) gl' (by decide) (by omega), v2, v1, m3, m4, hrr, hkk, e1, e2,
      B_M_duty_62 (fun _ => z8), B_M_duty_62 (fun _ => z8), if_pos (nI_pos' (by omega)), if_pos (nI_pos' (by omega)), f8]
    unfold dutyN
    by_cases q : wo * r / 100 < ki * k
    · rw [if_pos (nI_le (by omega) (by omega)), if_pos q, fin _ (by omega)]
    · rw [if_neg q]
      by_cases q3 : ki * k = wo * r / 100
      · rw [if_pos (nI_le (by omega) (by omega)), fin _ (by omega), q3]
      · rw [if_neg (nI_ge (by omega) (by omega)), fin _ (by omega)]
