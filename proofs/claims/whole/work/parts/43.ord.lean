-- 43: the order of headings; the model's fits
theorem rk_eq {n i : Nat} {A v : Nat → Int32} (ho : hOK n A v) (hi : i ≤ n) : ∃ x p q : Nat, x < 99 ∧ p ≤ 1 ∧ q ≤ 1 ∧ rkC A i = x + 100 * p + 200 * q ∧ rkM A i = 1000 * q + 500 * p + x ∧ (i = n → x = 0) ∧ (i < n → 1 ≤ x ∧ A (5 * i + 4) = nI x) := by
  obtain ⟨c, f, o, r, k, hc, hf, hoo, _, _, c1, c2, f2, o2, _, _, hcn⟩ := ho.row hi
  have ex : ∃ x : Nat, x < 99 ∧ (if A (5 * i + 4) = 99 then 0 else (A (5 * i + 4)).toNatClampNeg) = x ∧ (i = n → x = 0) ∧ (i < n → 1 ≤ x ∧ A (5 * i + 4) = nI x) := by
    by_cases h : c = 99
    · refine ⟨0, by omega, by rw [if_pos (by rw [hc, h]; decide)], fun _ => rfl, fun q => ?_⟩
      have := hcn.mp h
      omega
    · refine ⟨c, by omega, ?_, fun q => absurd (hcn.mpr q) h, fun _ => ⟨c1, hc⟩⟩
      rw [if_neg (by rw [hc, show (99 : Int32) = nI 99 by decide, nI_eq (by omega) (by decide)]; exact h), hc, nI_clamp (by omega)]
  obtain ⟨x, x1, x2, x3, x4⟩ := ex
  unfold rkC rkM
  rw [x2]
  by_cases h1 : A (5 * i + 1) = 3
  · by_cases h2 : A (5 * i) = 4
    · exact ⟨x, 0, 0, x1, by omega, by omega, by rw [if_pos h1, if_pos h2], by rw [if_pos h1, if_pos h2], x3, x4⟩
    · exact ⟨x, 0, 1, x1, by omega, by omega, by rw [if_pos h1, if_neg h2], by rw [if_pos h1, if_neg h2], x3, x4⟩
  · by_cases h2 : A (5 * i) = 4
    · exact ⟨x, 1, 0, x1, by omega, by omega, by rw [if_neg h1, if_pos h2], by rw [if_neg h1, if_pos h2], x3, x4⟩
    · exact ⟨x, 1, 1, x1, by omega, by omega, by rw [if_neg h1, if_neg h2], by rw [if_neg h1, if_neg h2], x3, x4⟩
theorem rk_lt {n i j : Nat} {A v : Nat → Int32} (ho : hOK n A v) (hi : i ≤ n) (hj : j ≤ n) : rkC A i < rkC A j ↔ rkM A i < rkM A j := by
  obtain ⟨x, p, q, x1, p1, q1, e1, e2, _⟩ := rk_eq ho hi
  obtain ⟨y, r, s, y1, r1, s1, e3, e4, _⟩ := rk_eq ho hj
  rw [e1, e2, e3, e4]
  rcases (show p = 0 ∨ p = 1 by omega) with rfl | rfl <;> rcases (show q = 0 ∨ q = 1 by omega) with rfl | rfl <;> rcases (show r = 0 ∨ r = 1 by omega) with rfl | rfl <;> rcases (show s = 0 ∨ s = 1 by omega) with rfl | rfl <;> omega
theorem rk_le {n i : Nat} {A v : Nat → Int32} (ho : hOK n A v) (hi : i ≤ n) : rkC A i ≤ 398 ∧ rkM A i ≤ 1598 := by
  obtain ⟨x, p, q, x1, p1, q1, e1, e2, _⟩ := rk_eq ho hi
  omega
theorem codes_up {n : Nat} {A : Nat → Int32} (hs : ∀ h, h + 1 < n → A (5 * h + 4) < A (5 * (h + 1) + 4)) : ∀ (d i : Nat), i + d + 1 < n → A (5 * i + 4) < A (5 * (i + d + 1) + 4) := by
  intro d
  induction d with
  | zero => intro i h; exact hs i h
  | succ d ih => intro i h; exact Int32.lt_trans (ih i (by omega)) (hs (i + d + 1) h)
theorem rk_inj {n i j : Nat} {A v : Nat → Int32} (ho : hOK n A v) (hs : ∀ h, h + 1 < n → A (5 * h + 4) < A (5 * (h + 1) + 4)) (hi : i ≤ n) (hj : j ≤ n) (he : rkC A i = rkC A j) : i = j := by
  obtain ⟨x, p, q, x1, p1, q1, e1, e2, x3, x4⟩ := rk_eq ho hi
  obtain ⟨y, r, s, y1, r1, s1, e3, e4, y3, y4⟩ := rk_eq ho hj
  have hxy : x = y := by
    rw [e1, e3] at he
    omega
  subst hxy
  by_cases h1 : i = n
  · have := x3 h1
    by_cases h2 : j = n
    · omega
    · have := (y4 (by omega)).1
      omega
  · have a := x4 (by omega)
    by_cases h2 : j = n
    · have := y3 h2
      omega
    · have b := y4 (by omega)
      rcases Nat.lt_trichotomy i j with h | h | h
      · have := codes_up hs (j - i - 1) i (by omega)
        rw [show i + (j - i - 1) + 1 = j by omega, a.2, b.2] at this
        exact absurd this Int32.lt_irrefl
      · exact h
      · have := codes_up hs (i - j - 1) j (by omega)
        rw [show j + (i - j - 1) + 1 = i by omega, a.2, b.2] at this
        exact absurd this Int32.lt_irrefl
theorem sm_chief_loop {H : Nat → Nat → Int32} {g : Nat} (hg : g < 12) : ∀ (d f c : Nat), f + d = 4 → c ≤ 3 →
    zden 122 4 [.ref 90, .int (nI g), .int (nI c), .int (nI f)] [] (zSH, H) = some (some (.int (chiefF (fun j => H 91 (66 + 22 * g + j)) d f (nI c))), (zSH, H)) := by
  intro d
  induction d with
  | zero =>
    intro f c h hc
    have hb : (4 : Int32) ≤ nI f := by rw [nIlit_4]; exact nI_le (by omega) (by omega)
    rw [B_M_chief_4 (fun q => absurd hb q) (fun q => absurd hb q), if_pos hb]
    rfl
  | succ d ih =>
    intro f c h hc
    have hb : ¬ (4 : Int32) ≤ nI f := by rw [nIlit_4]; exact nI_ge (by omega) (by decide)
    have ef : (3 : Int32) + nI f = nI (3 + f) := by rw [nIlit_3, nI_add]
    have ec : (3 : Int32) + nI c = nI (3 + c) := by rw [nIlit_3, nI_add]
    rw [B_M_chief_4 (fun _ => mzin ef hg (by omega)) (fun _ => mzin ec hg (by omega)), if_neg hb, mcl2 (N := 66 + 22 * g + f) ef hg (by omega) (by omega), mcl2 (N := 66 + 22 * g + c) ec hg (by omega) (by omega)]
    unfold chiefF
    rw [nI_clamp (by omega)]
    by_cases hq : H 91 (66 + 22 * g + f) < H 91 (66 + 22 * g + c)
    · rw [if_pos hq, if_neg (by rw [Int32.not_le]; exact hq), B_M_chief_41, nI_1]
      exact ih (f + 1) c (by omega) hc
    · rw [if_neg hq, if_pos (by rw [← Int32.not_lt]; exact hq), B_M_chief_41, nI_1]
      exact ih (f + 1) f (by omega) (by omega)
theorem sm_chief {H : Nat → Nat → Int32} {B : Nat → Int32} {g : Nat} (hg : g < 12) (hr : HRg B (H 91) g) : zden 122 0 [.ref 90, .int (nI g), .retAddr 0, .retAddr 0] [] (zSH, H) = some (some (.int (B (23 * g + 4))), (zSH, H)) := by
  obtain ⟨a1, a2, a3, a4, a5, a6, a7, a8, a9, a10, _⟩ := hr
  have e : chiefF (fun j => B (23 * g + 9 + j)) 3 1 0 = chiefF (fun j => H 91 (66 + 22 * g + j)) 3 1 0 := chiefF_congr (by omega) ⟨0, by omega, by omega, rfl⟩ (fun j hj => (a10 j hj).1)
  rw [B_M_chief_0, a5, e]
  exact sm_chief_loop hg 3 1 0 rfl (by omega)
theorem sm_fits {H : Nat → Nat → Int32} {A B : Nat → Int32} {n i g : Nat} (ho : hOK n A (H 91)) (hi : i ≤ n) (hg : g < 12) (hr : HRg B (H 91) g) :
    zden 121 0 [.ref 90, .int (nI i), .int (nI g)] [] (zSH, H) = some (some (.int (bB (fitB A B g i))), (zSH, H)) := by
  obtain ⟨⟨m0, m1, m2, _⟩, k0, k1, k2, _⟩ := ho.head hi
  have b0 : H 91 (63 + 22 * g) = B (23 * g) := hr.1.symm
  have two : zden 121 24 [.ref 90, .int (nI i), .int (nI g)] [] (zSH, H) = some (some (.int (bB (A (5 * i + 1) == 3 || A (5 * i + 1) == B (23 * g)))), (zSH, H)) := by
    rw [B_M_fits_24 k2 (fun _ => k2) (fun _ => mzin (K := 0) (by decide) hg (by decide)), m2, mcl2 (N := 63 + 22 * g) (K := 0) (by decide) hg (by decide) (by omega), b0]
    by_cases h : A (5 * i + 1) = 3
    · rw [if_pos h, B_M_fits_53, show (A (5 * i + 1) == 3) = true from beq_iff_eq.mpr h]; rfl
    · rw [if_neg h, show (A (5 * i + 1) == 3) = false from beq_eq_false_iff_ne.mpr h]
      by_cases h2 : A (5 * i + 1) = B (23 * g)
      · rw [if_neg (fun q => q h2), B_M_fits_53, show (A (5 * i + 1) == B (23 * g)) = true from beq_iff_eq.mpr h2]; rfl
      · rw [if_pos h2, show (A (5 * i + 1) == B (23 * g)) = false from beq_eq_false_iff_ne.mpr h2]; rfl
  rw [B_M_fits_0 k1 (fun _ => k1), m1, sm_chief hg hr, zaft_same, two]
  unfold fitB
  by_cases h : A (5 * i) = 4
  · rw [if_pos h, show (A (5 * i) == 4) = true from beq_iff_eq.mpr h, Bool.true_or, Bool.true_and]
  · rw [if_neg h, show (A (5 * i) == 4) = false from beq_eq_false_iff_ne.mpr h, Bool.false_or]
    have hc : zden 121 21 [.ref 90, .int (nI i), .int (nI g)] [.int (B (23 * g + 4)), .int (A (5 * i))] (zSH, H) = _ := B_M_fits_21
    rw [two] at hc
    refine Eq.trans hc ?_
    by_cases h2 : A (5 * i) = B (23 * g + 4)
    · rw [if_neg (fun q => q h2), show (A (5 * i) == B (23 * g + 4)) = true from beq_iff_eq.mpr h2, Bool.true_and]
    · rw [if_pos h2, show (A (5 * i) == B (23 * g + 4)) = false from beq_eq_false_iff_ne.mpr h2, Bool.false_and]; rfl
