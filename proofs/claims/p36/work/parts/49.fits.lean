-- 49: headings and fits hold
def sumN (f : Nat → Nat) : Nat → Nat
  | 0 => 0
  | k + 1 => sumN f k + f k
theorem sumN_succ {f : Nat → Nat} {k : Nat} : sumN f (k + 1) = sumN f k + f k := rfl
theorem sumN_add {f g : Nat → Nat} : ∀ k, sumN (fun i => f i + g i) k = sumN f k + sumN g k := by
  intro k
  induction k with
  | zero => rfl
  | succ k ih =>
    rw [sumN_succ, sumN_succ, sumN_succ, ih]
    omega
theorem sumN_zero : ∀ k, sumN (fun _ => 0) k = 0 := by
  intro k
  induction k with
  | zero => rfl
  | succ k ih => rw [sumN_succ, ih]
theorem sumN_one {t : Nat} : ∀ k, sumN (fun i => if (t == i) = true then 1 else 0) k = if t < k then 1 else 0 := by
  intro k
  induction k with
  | zero => rfl
  | succ k ih =>
    rw [sumN_succ, ih]
    by_cases e : t = k
    · subst e
      rw [if_neg (by omega), if_pos (by simp), if_pos (by omega)]
    · rw [if_neg (show ¬ (t == k) = true by simpa using e)]
      by_cases q : t < k
      · rw [if_pos q, if_pos (by omega)]
      · rw [if_neg q, if_neg (by omega)]
theorem sumN_cN {t : Nat → Nat} {k : Nat} : ∀ gn, (∀ g, g < gn → t g < k) → sumN (fun i => cN (fun g => t g == i) gn 0) k = gn := by
  intro gn
  induction gn with
  | zero => intro _; exact sumN_zero k
  | succ gn ih =>
    intro h
    have e : (fun i => cN (fun g => t g == i) (gn + 1) 0) = fun i => cN (fun g => t g == i) gn 0 + (if (t gn == i) = true then 1 else 0) := by
      funext i
      rw [cN_last, Nat.zero_add]
    rw [e, sumN_add, ih (fun g hg => h g (by omega)), sumN_one, if_pos (h gn (by omega))]
theorem hdV_ne {A B : Nat → Int32} {n gn i k : Nat} (hk : k ≠ 4) : hdV A B n gn i k = A (5 * i + k) := if_neg hk
theorem hdV_4 {A B : Nat → Int32} {n gn i : Nat} : hdV A B n gn i 4 = nI (cN (fun g => topF A B n g == i) gn 0) := if_pos rfl
section ZHd
variable {D n gn : Nat} {G : Nat → Nat → Int32} {E : List zS} {rv : Nat → Int32 → Int32 → Int32}
theorem rv_n (hP : RDs G rv) (w : zWT G) (h : HIat D n gn G) : rv 98 1 0 = nI n := (v98 (k := 1) hP w h (by decide)).trans (by show G 2 3 - 1 = _; rw [show G 2 3 = nI (n + 1) from h.i3, nI_pred])
theorem rv_gn (hP : RDs G rv) (w : zWT G) (h : HIat D n gn G) : rv 98 2 0 = nI gn := (v98 (k := 2) hP w h (by decide)).trans h.i4
theorem rv_code (hP : RDs G rv) (w : zWT G) (h : HIat D n gn G) {p : Nat} (hp : p ≤ n) : rv 74 (nI p) 0 = G 4 (5 * p + 4) := (v74 hP w h (by have := h.ho.1; omega)).trans (if_pos hp)
theorem rv_f (hP : RDs G rv) (w : zWT G) (h : HIat D n gn G) {p : Nat} (hp : p ≤ n) : rv 73 (G 4 (5 * p + 4)) 0 = G 4 (5 * p) := (v73 (k := 0) hP w h hp (by decide)).trans (hdV_ne (by decide))
theorem rv_o (hP : RDs G rv) (w : zWT G) (h : HIat D n gn G) {p : Nat} (hp : p ≤ n) : rv 73 (G 4 (5 * p + 4)) 1 = G 4 (5 * p + 1) := (v73 (k := 1) hP w h hp (by decide)).trans (hdV_ne (by decide))
theorem rv_r (hP : RDs G rv) (w : zWT G) (h : HIat D n gn G) {p : Nat} (hp : p ≤ n) : rv 73 (G 4 (5 * p + 4)) 2 = G 4 (5 * p + 2) := (v73 (k := 2) hP w h hp (by decide)).trans (hdV_ne (by decide))
theorem rv_k (hP : RDs G rv) (w : zWT G) (h : HIat D n gn G) {p : Nat} (hp : p ≤ n) : rv 73 (G 4 (5 * p + 4)) 3 = G 4 (5 * p + 3) := (v73 (k := 3) hP w h hp (by decide)).trans (hdV_ne (by decide))
theorem rv_c (hP : RDs G rv) (w : zWT G) (h : HIat D n gn G) {p : Nat} (hp : p ≤ n) : rv 73 (G 4 (5 * p + 4)) 4 = nI (cN (fun g => topF (G 4) (G 6) n g == p) gn 0) := (v73 (k := 4) hP w h hp (by decide)).trans hdV_4
theorem hd_loop (hP : RDs G rv) (w : zWT G) (h : HIat D n gn G) : ∀ (d p : Nat) (last : Int32) (v4 : Value), p + d = n + 1 → ((p = 0 ∧ last = 0) ∨ ∃ q, p = q + 1 ∧ last = G 4 (5 * q + 4)) →
    zden 125 6 [.ref 0, .int last, .int (nI (sumN (fun i => cN (fun g => topF (G 4) (G 6) n g == i) gn 0) p)), .int (nI p), v4] [] (zSH ++ E, G) = some (some (.int 1), (zSH ++ E, G)) := by
  have hn := h.ho.1
  have gl := h.gl
  have e1 := rv_n hP w h
  intro d
  induction d with
  | zero =>
    intro p last v4 hp hl
    have hp : p = n + 1 := by omega
    subst hp
    obtain ⟨e4, e5, e6, e7, e99⟩ := h.ho.2.2.1
    have l9 : last = 99 := by
      rcases hl with ⟨q, _⟩ | ⟨q, q1, q2⟩
      · omega
      · have : q = n := by omega
        subst this
        rw [q2, e99]
    have r0 := rv_f hP w h (Nat.le_refl n)
    have r1 := rv_o hP w h (Nat.le_refl n)
    have r2 := rv_r hP w h (Nat.le_refl n)
    have r3 := rv_k hP w h (Nat.le_refl n)
    rw [e99] at r0 r1 r2 r3
    have tot : sumN (fun i => cN (fun g => topF (G 4) (G 6) n g == i) gn 0) (n + 1) = gn := sumN_cN gn (fun g hg => by have := (topF_is (g := g) w h.ho h.i3 (by omega)).1; omega)
    rw [B_L_headings_6 hP, if_pos (by rw [e1]; exact nI_lt (by omega) (by omega)), if_neg (fun q => q (r0.trans e4)), if_neg (fun q => q (r1.trans e5)), if_neg (fun q => q (r2.trans e6)), if_neg (fun q => q (r3.trans e7)), B_L_headings_120 hP, if_neg (by decide), if_neg (fun q => q l9), tot, if_neg (fun q => q (rv_gn hP w h).symm)]
    have eo : rv 74 (rv 98 1 0 + 1) 0 = -11 := by
      rw [e1, nI_1, v74 hP w h (by omega)]
      exact if_neg (by omega)
    rw [if_neg (fun q => q eo), if_neg (fun q => q (v74n hP))]
  | succ d ih =>
    intro p last v4 hp hl
    have pn : p ≤ n := by omega
    obtain ⟨c, f, o, r, k, hc, hf, hoo, hrr, hkk, c1, c2, f2, o2, r2, k2, hcn⟩ := h.ho.row pn
    have ec := rv_code hP w h pn
    have up : ¬ rv 74 (nI p) 0 ≤ last := by
      rw [ec]
      rcases hl with ⟨q, q2⟩ | ⟨q, q1, q2⟩
      · rw [q2, hc]
        exact nI_nle (by omega) (by omega)
      · rw [q2]
        subst q1
        rw [Int32.not_le]
        exact code_ne h.ho (Nat.lt_succ_self q) pn
    rw [B_L_headings_6 hP, if_neg (by rw [e1]; exact nI_nlt (by omega) (by omega)), if_neg up, ec, rv_f hP w h pn, if_neg (by rw [hf]; exact nI_pos (by omega)), rv_r hP w h pn, if_pos (by rw [hrr, show (60 : Int32) = nI 60 by decide]; exact nI_le r2 (by omega)), rv_c hP w h pn, nI_add, nI_1]
    exact ih (p + 1) _ _ (by omega) (.inr ⟨p, rfl, rfl⟩)
theorem x_headings (hP : RDs G rv) (w : zWT G) (h : HIat D n gn G) : zden 125 0 [.ref 0, .retAddr 0, .retAddr 0, .retAddr 0, .retAddr 0] [] (zSH ++ E, G) = some (some (.int 1), (zSH ++ E, G)) := by
  rw [B_L_headings_0]
  exact hd_loop hP w h (n + 1) 0 0 (.retAddr 0) (by omega) (.inl ⟨rfl, rfl⟩)
-- fits
theorem ah_row (hP : RDs G rv) (w : zWT G) (h : HIat D n gn G) {i : Nat} (hi : i ≤ n) : ahF rv (G 4 (5 * i + 4)) = nI (rkM (G 4) i) := by
  obtain ⟨c, f, o, r, k, hc, hf, hoo, hrr, hkk, c1, c2, f2, o2, r2, k2, hcn⟩ := h.ho.row hi
  unfold ahF rkM
  rw [rv_f hP w h hi, rv_o hP w h hi]
  have e3 : G 4 (5 * i + 4) - G 4 (5 * i + 4) / 99 * 99 = nI (if G 4 (5 * i + 4) = 99 then 0 else (G 4 (5 * i + 4)).toNatClampNeg) := by
    rw [hc, show (99 : Int32) = nI 99 by decide, pk_rem (by omega) (by omega) (by omega), nI_clamp (by omega)]
    by_cases q : c = 99
    · subst q; rw [if_pos rfl]
    · rw [if_neg (by rw [nI_eq (by omega) (by omega)]; exact q)]
      exact congrArg nI (by omega)
  rw [e3]
  by_cases a : G 4 (5 * i) = 4
  · rw [if_neg (fun q => q a), if_pos a]
    by_cases b : G 4 (5 * i + 1) = 3
    · rw [if_neg (fun q => q b), if_pos b, show (0 : Int32) = nI 0 by decide, nI_add, nI_add]
    · rw [if_pos b, if_neg b, show (0 : Int32) = nI 0 by decide, show (500 : Int32) = nI 500 by decide, nI_add, nI_add]
  · rw [if_pos a, if_neg a]
    by_cases b : G 4 (5 * i + 1) = 3
    · rw [if_neg (fun q => q b), if_pos b, show (0 : Int32) = nI 0 by decide, show (1000 : Int32) = nI 1000 by decide, nI_add, nI_add]
    · rw [if_pos b, if_neg b, show (1000 : Int32) = nI 1000 by decide, show (500 : Int32) = nI 500 by decide, nI_add, nI_add]
theorem fi4 (hP : RDs G rv) (w : zWT G) (h : HIat D n gn G) {g : Nat} (hg : g < gn) : ∀ (d f c : Nat), f + d = 4 → c ≤ 3 →
    zden 127 4 [.ref 0, .int (nI g), .int (nI c), .int (nI f), .retAddr 0, .retAddr 0, .retAddr 0, .retAddr 0, .retAddr 0, .retAddr 0, .retAddr 0] [] (zSH ++ E, G) =
      zden 127 53 [.ref 0, .int (nI g), .int (chiefF (fun j => G 6 (23 * g + 9 + j)) d f (nI c)), .int (G 6 (23 * g)), .int 0, .int 99, .int 0, .retAddr 0, .retAddr 0, .retAddr 0, .retAddr 0] [] (zSH ++ E, G) := by
  intro d
  induction d with
  | zero =>
    intro f c e hc
    rw [B_L_fits_4 hP, if_pos (by rw [nIlit_4]; exact nI_le (by omega) (by omega)), show rv 78 (nI g) 0 = G 6 (23 * g) from v78 (k := 0) hP w h hg (by decide)]
    rfl
  | succ d ih =>
    intro f c e hc
    rw [B_L_fits_4 hP, if_neg (by rw [nIlit_4]; exact nI_ge (by omega) (by decide)), v79 hP w h hg (by omega), v79 hP w h hg (by omega)]
    unfold chiefF
    rw [nI_clamp (by omega)]
    by_cases q : G 6 (23 * g + 9 + f) < G 6 (23 * g + 9 + c)
    · rw [if_pos q, if_neg (by rw [Int32.not_le]; exact q), B_L_fits_29, nI_1]
      exact ih (f + 1) c (by omega) hc
    · rw [if_neg q, if_pos (by rw [← Int32.not_lt]; exact q), B_L_fits_29, nI_1]
      exact ih (f + 1) f (by omega) (by omega)
theorem fi53 (hP : RDs G rv) (w : zWT G) (h : HIat D n gn G) {g : Nat} {ch : Int32} (hg : g < gn) (hch : ch = G 6 (23 * g + 4)) : ∀ (d p m bk : Nat) (v7 v8 v9 : Value), p + d = n + 1 → bk ≤ n → fitB (G 4) (G 6) g bk = true → (∀ j, j < p → fitB (G 4) (G 6) g j = true → rkM (G 4) j ≤ rkM (G 4) bk) →
    ∃ (bk' : Nat) (w8 w9 : Value), zden 127 53 [.ref 0, .int (nI g), .int ch, .int (G 6 (23 * g)), .int (nI m), .int (G 4 (5 * bk + 4)), .int (nI p), v7, v8, v9, .retAddr 0] [] (zSH ++ E, G) =
      zden 127 153 [.ref 0, .int (nI g), .int ch, .int (G 6 (23 * g)), .int (nI (m + cN (fitB (G 4) (G 6) g) d p)), .int (G 4 (5 * bk' + 4)), .int 100000, .int 0, w8, w9, .retAddr 0] [] (zSH ++ E, G) ∧ bk' ≤ n ∧ fitB (G 4) (G 6) g bk' = true ∧ (∀ j, j ≤ n → fitB (G 4) (G 6) g j = true → rkM (G 4) j ≤ rkM (G 4) bk') := by
  have hn := h.ho.1
  have e1 := rv_n hP w h
  intro d
  induction d with
  | zero =>
    intro p m bk v7 v8 v9 hp hb hF hM
    refine ⟨bk, v8, v9, ?_, hb, hF, fun j hj => hM j (by omega)⟩
    rw [B_L_fits_53 hP, if_pos (by rw [e1]; exact nI_lt (by omega) (by omega))]
    rfl
  | succ d ih =>
    intro p m bk v7 v8 v9 hp hb hF hM
    have pn : p ≤ n := by omega
    have skip : ∀ (m bk : Nat) (v7 v8 v9 : Int32), zden 127 140 [.ref 0, .int (nI g), .int ch, .int (G 6 (23 * g)), .int (nI m), .int (G 4 (5 * bk + 4)), .int (nI p), .int v7, .int v8, .int v9, .retAddr 0] [] (zSH ++ E, G) =
        zden 127 53 [.ref 0, .int (nI g), .int ch, .int (G 6 (23 * g)), .int (nI m), .int (G 4 (5 * bk + 4)), .int (nI (p + 1)), .int v7, .int v8, .int v9, .retAddr 0] [] (zSH ++ E, G) := fun m bk v7 v8 v9 => by
      rw [B_L_fits_140, nI_1]
    have hc : zden 127 53 [.ref 0, .int (nI g), .int ch, .int (G 6 (23 * g)), .int (nI m), .int (G 4 (5 * bk + 4)), .int (nI p), v7, v8, v9, .retAddr 0] [] (zSH ++ E, G) = _ := B_L_fits_53 hP
    rw [if_neg (by rw [e1]; exact nI_nlt (by omega) (by omega)), rv_code hP w h pn, rv_f hP w h pn, rv_o hP w h pn] at hc
    have yes : fitB (G 4) (G 6) g p = true → zden 127 113 [.ref 0, .int (nI g), .int ch, .int (G 6 (23 * g)), .int (nI m), .int (G 4 (5 * bk + 4)), .int (nI p), .int (G 4 (5 * p + 4)), .int (G 4 (5 * p)), .int (G 4 (5 * p + 1)), .retAddr 0] [] (zSH ++ E, G) = zden 127 53 [.ref 0, .int (nI g), .int ch, .int (G 6 (23 * g)), .int (nI m), .int (G 4 (5 * bk + 4)), .int (nI p), v7, v8, v9, .retAddr 0] [] (zSH ++ E, G) →
        ∃ (bk' : Nat) (v8' v9' : Value), zden 127 53 [.ref 0, .int (nI g), .int ch, .int (G 6 (23 * g)), .int (nI m), .int (G 4 (5 * bk + 4)), .int (nI p), v7, v8, v9, .retAddr 0] [] (zSH ++ E, G) =
          zden 127 153 [.ref 0, .int (nI g), .int ch, .int (G 6 (23 * g)), .int (nI (m + cN (fitB (G 4) (G 6) g) (d + 1) p)), .int (G 4 (5 * bk' + 4)), .int 100000, .int 0, v8', v9', .retAddr 0] [] (zSH ++ E, G) ∧ bk' ≤ n ∧ fitB (G 4) (G 6) g bk' = true ∧ (∀ j, j ≤ n → fitB (G 4) (G 6) g j = true → rkM (G 4) j ≤ rkM (G 4) bk') := by
      intro hF1 e
      rw [← e, B_L_fits_113 hP, ah_row hP w h pn, ah_row hP w h hb, nI_1]
      have b1 := (rk_le h.ho pn).2
      have b2 := (rk_le h.ho hb).2
      by_cases q : rkM (G 4) p ≤ rkM (G 4) bk
      · rw [if_pos (nI_le q (by omega)), B_L_fits_138, skip]
        obtain ⟨bk', w8, w9, z, z1, z2, z3⟩ := ih (p + 1) (m + 1) bk (.int (G 4 (5 * p + 4))) (.int (G 4 (5 * p))) (.int (G 4 (5 * p + 1))) (by omega) hb hF (fun j hj hFj => by
          by_cases ej : j = p
          · subst ej; exact q
          · exact hM j (by omega) hFj)
        refine ⟨bk', w8, w9, ?_, z1, z2, z3⟩
        rw [z, cN_succ, if_pos hF1, Nat.add_assoc]
      · rw [if_neg (nI_ge (by omega) (by omega)), B_L_fits_138, skip]
        obtain ⟨bk', w8, w9, z, z1, z2, z3⟩ := ih (p + 1) (m + 1) p (.int (G 4 (5 * p + 4))) (.int (G 4 (5 * p))) (.int (G 4 (5 * p + 1))) (by omega) pn hF1 (fun j hj hFj => by
          by_cases ej : j = p
          · subst ej; exact Nat.le_refl _
          · have := hM j (by omega) hFj
            omega)
        refine ⟨bk', w8, w9, ?_, z1, z2, z3⟩
        rw [z, cN_succ, if_pos hF1, Nat.add_assoc]
    have no : fitB (G 4) (G 6) g p = false → zden 127 140 [.ref 0, .int (nI g), .int ch, .int (G 6 (23 * g)), .int (nI m), .int (G 4 (5 * bk + 4)), .int (nI p), .int (G 4 (5 * p + 4)), .int (G 4 (5 * p)), .int (G 4 (5 * p + 1)), .retAddr 0] [] (zSH ++ E, G) = zden 127 53 [.ref 0, .int (nI g), .int ch, .int (G 6 (23 * g)), .int (nI m), .int (G 4 (5 * bk + 4)), .int (nI p), v7, v8, v9, .retAddr 0] [] (zSH ++ E, G) →
        ∃ (bk' : Nat) (v8' v9' : Value), zden 127 53 [.ref 0, .int (nI g), .int ch, .int (G 6 (23 * g)), .int (nI m), .int (G 4 (5 * bk + 4)), .int (nI p), v7, v8, v9, .retAddr 0] [] (zSH ++ E, G) =
          zden 127 153 [.ref 0, .int (nI g), .int ch, .int (G 6 (23 * g)), .int (nI (m + cN (fitB (G 4) (G 6) g) (d + 1) p)), .int (G 4 (5 * bk' + 4)), .int 100000, .int 0, v8', v9', .retAddr 0] [] (zSH ++ E, G) ∧ bk' ≤ n ∧ fitB (G 4) (G 6) g bk' = true ∧ (∀ j, j ≤ n → fitB (G 4) (G 6) g j = true → rkM (G 4) j ≤ rkM (G 4) bk') := by
      intro hF0 e
      rw [← e, skip]
      obtain ⟨bk', w8, w9, z, z1, z2, z3⟩ := ih (p + 1) m bk (.int (G 4 (5 * p + 4))) (.int (G 4 (5 * p))) (.int (G 4 (5 * p + 1))) (by omega) hb hF (fun j hj hFj => by
        by_cases ej : j = p
        · subst ej; rw [hF0] at hFj; cases hFj
        · exact hM j (by omega) hFj)
      refine ⟨bk', w8, w9, ?_, z1, z2, z3⟩
      rw [z, cN_succ, hF0, if_neg (by decide), Nat.zero_add]
    have form : zden 127 101 [.ref 0, .int (nI g), .int ch, .int (G 6 (23 * g)), .int (nI m), .int (G 4 (5 * bk + 4)), .int (nI p), .int (G 4 (5 * p + 4)), .int (G 4 (5 * p)), .int (G 4 (5 * p + 1)), .retAddr 0] [] (zSH ++ E, G) = zden 127 (if (G 4 (5 * p + 1) == 3 || G 4 (5 * p + 1) == G 6 (23 * g)) = true then 113 else 140) [.ref 0, .int (nI g), .int ch, .int (G 6 (23 * g)), .int (nI m), .int (G 4 (5 * bk + 4)), .int (nI p), .int (G 4 (5 * p + 4)), .int (G 4 (5 * p)), .int (G 4 (5 * p + 1)), .retAddr 0] [] (zSH ++ E, G) := by
      rw [B_L_fits_101]
      by_cases a : G 4 (5 * p + 1) = 3
      · rw [if_pos a, if_pos (by simp [a])]
      · by_cases b : G 4 (5 * p + 1) = G 6 (23 * g)
        · rw [if_neg a, if_neg (fun q => q b), if_pos (by simp [b])]
        · rw [if_neg a, if_pos b, if_neg (by simp [a, b])]
    by_cases a : (G 4 (5 * p) == 4 || G 4 (5 * p) == G 6 (23 * g + 4)) = true
    · have hc2 : zden 127 53 [.ref 0, .int (nI g), .int ch, .int (G 6 (23 * g)), .int (nI m), .int (G 4 (5 * bk + 4)), .int (nI p), v7, v8, v9, .retAddr 0] [] (zSH ++ E, G) = zden 127 101 [.ref 0, .int (nI g), .int ch, .int (G 6 (23 * g)), .int (nI m), .int (G 4 (5 * bk + 4)), .int (nI p), .int (G 4 (5 * p + 4)), .int (G 4 (5 * p)), .int (G 4 (5 * p + 1)), .retAddr 0] [] (zSH ++ E, G) := by
        rw [hc]
        by_cases q : G 4 (5 * p) = 4
        · rw [if_pos q]
        · rw [if_neg q, if_neg (fun z => z (by rw [hch]; simpa [q] using a))]
      by_cases b : (G 4 (5 * p + 1) == 3 || G 4 (5 * p + 1) == G 6 (23 * g)) = true
      · rw [if_pos b] at form
        exact yes (by unfold fitB; rw [a, b]; rfl) (form.symm.trans hc2.symm)
      · rw [if_neg b] at form
        exact no (by unfold fitB; rw [a, Bool.eq_false_iff.mpr b]; rfl) (form.symm.trans hc2.symm)
    · have hc2 : zden 127 53 [.ref 0, .int (nI g), .int ch, .int (G 6 (23 * g)), .int (nI m), .int (G 4 (5 * bk + 4)), .int (nI p), v7, v8, v9, .retAddr 0] [] (zSH ++ E, G) = zden 127 140 [.ref 0, .int (nI g), .int ch, .int (G 6 (23 * g)), .int (nI m), .int (G 4 (5 * bk + 4)), .int (nI p), .int (G 4 (5 * p + 4)), .int (G 4 (5 * p)), .int (G 4 (5 * p + 1)), .retAddr 0] [] (zSH ++ E, G) := by
        rw [hc, if_neg (fun q => a (by simp [q])), if_pos (fun q => a (by rw [hch] at q; simp [q]))]
      exact no (by unfold fitB; rw [Bool.eq_false_iff.mpr a]; rfl) hc2.symm
theorem cnt_cN {F : Nat → Bool} {K : Nat → Nat} {h : Nat} (hF : F h = true) : ∀ (d i : Nat), cntF F K h d i + (if i ≤ h ∧ h < i + d then 1 else 0) ≤ cN F d i := by
  intro d
  induction d with
  | zero => intro i; rw [if_neg (by omega)]; exact Nat.le_refl _
  | succ d ih =>
    intro i
    have := ih (i + 1)
    rw [cntF_succ, cN_succ]
    by_cases s : i = h
    · subst s
      rw [if_neg (by omega), if_pos (by omega), if_pos hF]
      rw [if_neg (by omega)] at this
      omega
    · have e2 : (if i ≤ h ∧ h < i + (d + 1) then 1 else 0) = (if i + 1 ≤ h ∧ h < i + 1 + d then 1 else 0) := by
        by_cases q : i ≤ h ∧ h < i + (d + 1)
        · rw [if_pos q, if_pos (by omega)]
        · rw [if_neg q, if_neg (by omega)]
      rw [e2]
      by_cases a : F i = true
      · rw [if_pos a]
        by_cases b : F i = true ∧ K h < K i
        · rw [if_pos b]; omega
        · rw [if_neg b]; omega
      · rw [if_neg a, if_neg (fun q => a q.1)]; omega
theorem cnt_low {F : Nat → Bool} {K : Nat → Nat} {h : Nat} (hF : F h = true) : ∀ (d i : Nat), (∀ j, i ≤ j → j < i + d → j ≠ h → K h < K j) → cntF F K h d i + (if i ≤ h ∧ h < i + d then 1 else 0) = cN F d i := by
  intro d
  induction d with
  | zero => intro i _; rw [if_neg (by omega)]; rfl
  | succ d ih =>
    intro i hl
    have := ih (i + 1) (fun j h1 h2 => hl j (by omega) (by omega))
    rw [cntF_succ, cN_succ]
    by_cases s : i = h
    · subst s
      rw [if_neg (by omega), if_pos (by omega), if_pos hF]
      rw [if_neg (by omega)] at this
      omega
    · have e2 : (if i ≤ h ∧ h < i + (d + 1) then 1 else 0) = (if i + 1 ≤ h ∧ h < i + 1 + d then 1 else 0) := by
        by_cases q : i ≤ h ∧ h < i + (d + 1)
        · rw [if_pos q, if_pos (by omega)]
        · rw [if_neg q, if_neg (by omega)]
      rw [e2]
      have hk := hl i (Nat.le_refl _) (by omega) s
      by_cases a : F i = true
      · rw [if_pos a, if_pos ⟨a, hk⟩]; omega
      · rw [if_neg a, if_neg (fun q => a q.1)]; omega
theorem rk_last (ho : hOK n (G 4)) : rkC (G 4) n = 0 ∧ rkM (G 4) n = 0 := by
  obtain ⟨_, _, ⟨h4, h5, _, _, h8⟩, _⟩ := ho
  unfold rkC rkM
  rw [h4, h5, h8]
  exact ⟨rfl, rfl⟩
/-- the row at a place -/
def atRow (G : Nat → Nat → Int32) (n g p k : Nat) : Prop := k ≤ n ∧ fitB (G 4) (G 6) g k = true ∧ cntF (fitB (G 4) (G 6) g) (rkC (G 4)) k (n + 1) 0 = p
theorem low_n (ho : hOK n (G 4)) {g : Nat} : cntF (fitB (G 4) (G 6) g) (rkC (G 4)) n (n + 1) 0 + 1 = cN (fitB (G 4) (G 6) g) (n + 1) 0 := by
  have := cnt_low (K := rkC (G 4)) (fit_last (B := G 6) (g := g) ho) (n + 1) 0 (fun j _ hj hne => by
    rw [(rk_last ho).1]
    rcases Nat.eq_zero_or_pos (rkC (G 4) j) with z | z
    · exact absurd (rk_inj ho ho.2.2.2 (by omega) (Nat.le_refl n) (by rw [z, (rk_last ho).1])) hne
    · exact z)
  rw [if_pos (by omega)] at this
  exact this
theorem fit_at (hP : RDs G rv) (w : zWT G) (h : HIat D n gn G) {g p : Nat} (hg : g < gn) (hp : p < cN (fitB (G 4) (G 6) g) (n + 1) 0) : ∃ k, atRow G n g p k ∧ rv 81 (nI g) (nI p) = G 4 (5 * k + 4) := by
  have hn := h.ho.1
  have hc := cN_le (p := fitB (G 4) (G 6) g) (n + 1) 0
  obtain ⟨r, a, e⟩ := v81 (p := p) hP w h hg (by omega)
  rcases a with ⟨_, z⟩ | ⟨k, k1, k2, k3, k4⟩
  · have := z n (Nat.le_refl _) (fit_last h.ho)
    have := low_n (g := g) h.ho
    omega
  · refine ⟨k, ⟨k1, k3, k4⟩, ?_⟩
    rw [e, k2, if_pos (nI_pos' (by omega)), nI_clamp (by omega)]
theorem fit_no (hP : RDs G rv) (w : zWT G) (h : HIat D n gn G) {g p : Nat} (hg : g < gn) (hp : cN (fitB (G 4) (G 6) g) (n + 1) 0 ≤ p) (h2 : p < 2 ^ 20) : rv 81 (nI g) (nI p) = -11 := by
  by_cases q : p ≤ n
  · obtain ⟨r, a, e⟩ := v81 (p := p) hP w h hg q
    rcases a with ⟨z, _⟩ | ⟨k, k1, k2, k3, k4⟩
    · rw [e, z, if_neg (by decide)]
    · have := cnt_cN (K := rkC (G 4)) k3 (n + 1) 0
      rw [if_pos (by omega)] at this
      omega
  · exact v81n hP h hg (by omega) h2
theorem fi153 (hP : RDs G rv) (w : zWT G) (h : HIat D n gn G) {g : Nat} {x2 x3 x5 : Int32} (hg : g < gn) : ∀ (d p : Nat) (last : Int32) (v8 v9 : Value), p + d = cN (fitB (G 4) (G 6) g) (n + 1) 0 → ((p = 0 ∧ last = 100000) ∨ ∃ q k, p = q + 1 ∧ atRow G n g q k ∧ last = nI (rkM (G 4) k)) →
    ∃ (v8' v9' : Value), zden 127 153 [.ref 0, .int (nI g), .int x2, .int x3, .int (nI (cN (fitB (G 4) (G 6) g) (n + 1) 0)), .int x5, .int last, .int (nI p), v8, v9, .retAddr 0] [] (zSH ++ E, G) =
      zden 127 153 [.ref 0, .int (nI g), .int x2, .int x3, .int (nI (cN (fitB (G 4) (G 6) g) (n + 1) 0)), .int x5, .int 0, .int (nI (cN (fitB (G 4) (G 6) g) (n + 1) 0)), v8', v9', .retAddr 0] [] (zSH ++ E, G) := by
  have hn := h.ho.1
  have hm := low_n (g := g) h.ho
  have hc := cN_le (p := fitB (G 4) (G 6) g) (n + 1) 0
  intro d
  induction d with
  | zero =>
    intro p last v8 v9 hp hl
    have hp : p = cN (fitB (G 4) (G 6) g) (n + 1) 0 := by omega
    subst hp
    rcases hl with ⟨z, _⟩ | ⟨q, k, q1, ⟨k1, k2, k3⟩, q2⟩
    · omega
    · have hk : k = n := by
        have a : atI (fitB (G 4) (G 6) g) (rkC (G 4)) n q (nI k) := .inr ⟨k, k1, rfl, k2, k3⟩
        have b : atI (fitB (G 4) (G 6) g) (rkC (G 4)) n q (nI n) := .inr ⟨n, Nat.le_refl _, rfl, fit_last h.ho, by omega⟩
        exact (nI_eq (by omega) (by omega)).mp (atI_uniq h.ho a b)
      subst hk
      rw [(rk_last h.ho).2] at q2
      exact ⟨v8, v9, by rw [q2]; rfl⟩
  | succ d ih =>
    intro p last v8 v9 hp hl
    obtain ⟨k, ak, ek⟩ := fit_at (p := p) hP w h hg (by omega)
    obtain ⟨k1, k2, k3⟩ := ak
    obtain ⟨c, _, _, _, _, hcc, _, _, _, _, c1, c2, _⟩ := h.ho.row k1
    have bk := (rk_le h.ho k1).2
    have lt : nI (rkM (G 4) k) < last := by
      rcases hl with ⟨_, z⟩ | ⟨q, k', q1, ⟨k1', k2', k3'⟩, q2⟩
      · rw [z, show (100000 : Int32) = nI 100000 by decide]
        exact nI_lt (by omega) (by decide)
      · rw [q2]
        have bk' := (rk_le h.ho k1').2
        refine nI_lt ?_ (by omega)
        refine (rk_lt h.ho k1 k1').mp ?_
        rcases Nat.lt_or_ge (rkC (G 4) k) (rkC (G 4) k') with s | s
        · exact s
        · have := cntF_mono (F := fitB (G 4) (G 6) g) (K := rkC (G 4)) s (n + 1) 0
          omega
    obtain ⟨w8, w9, z⟩ := ih (p + 1) (nI (rkM (G 4) k)) (.int (G 4 (5 * k + 4))) v9 (by omega) (.inr ⟨p, k, rfl, ⟨k1, k2, k3⟩, rfl⟩)
    refine ⟨w8, w9, Eq.trans ?_ z⟩
    have e : zden 127 153 [.ref 0, .int (nI g), .int x2, .int x3, .int (nI (cN (fitB (G 4) (G 6) g) (n + 1) 0)), .int x5, .int last, .int (nI p), v8, v9, .retAddr 0] [] (zSH ++ E, G) = _ := B_L_fits_153 hP
    rw [if_neg (nI_ge (by omega) (by omega)), ek, if_neg (by rw [hcc]; exact nI_pos (by omega)), ah_row hP w h k1, if_pos lt, nI_1] at e
    exact e
theorem why_eq {bk k1 : Nat} (ho : hOK n (G 4)) (hb : bk ≤ n) (hk : k1 ≤ n) (lt : rkC (G 4) k1 < rkC (G 4) bk) :
    (if (if 4 ≤ G 4 (5 * bk) then (0 : Int32) else if ¬ G 4 (5 * k1) = 4 then 0 else 1) = 0 then if (if 3 ≤ G 4 (5 * bk + 1) then (0 : Int32) else if ¬ G 4 (5 * k1 + 1) = 3 then 0 else 1) = 0 then if ¬ G 4 (5 * k1 + 4) = 99 then (3 : Int32) else 4 else 2 else 1) = leadV (G 4) bk k1 := by
  obtain ⟨x, p, q, x1, p1, q1, e1, _⟩ := rk_eq ho hb
  obtain ⟨y, r, s, y1, r1, s1, e3, _⟩ := rk_eq ho hk
  have a1 := @rkC_hd (G 4) bk
  have a2 := @rkC_hd (G 4) k1
  obtain ⟨cb, fb, ob, _, _, hcb, hfb, hob, _, _, cb1, cb2, fb2, ob2, _⟩ := ho.row hb
  obtain ⟨ck, fk, ok, _, _, hck, hfk, hok, _, _, ck1, ck2, fk2, ok2, _⟩ := ho.row hk
  have xb : (if G 4 (5 * bk + 4) = 99 then 0 else (G 4 (5 * bk + 4)).toNatClampNeg) < 99 := by
    by_cases z : G 4 (5 * bk + 4) = 99
    · rw [if_pos z]; omega
    · rw [if_neg z]
      rw [hcb, show (99 : Int32) = nI 99 by decide, nI_eq (by omega) (by omega)] at z
      rw [hcb, nI_clamp (by omega)]
      omega
  generalize (if G 4 (5 * bk + 4) = 99 then 0 else (G 4 (5 * bk + 4)).toNatClampNeg) = X at a1 xb
  generalize (if G 4 (5 * k1 + 4) = 99 then 0 else (G 4 (5 * k1 + 4)).toNatClampNeg) = Y at a2
  have f4 : (4 : Int32) ≤ G 4 (5 * bk) ↔ G 4 (5 * bk) = 4 := by
    rw [hfb, nIlit_4, nI_leI (by omega) (by omega), nI_eq (by omega) (by omega)]; omega
  have o3 : (3 : Int32) ≤ G 4 (5 * bk + 1) ↔ G 4 (5 * bk + 1) = 3 := by
    rw [hob, nIlit_3, nI_leI (by omega) (by omega), nI_eq (by omega) (by omega)]; omega
  have one : ¬ (1 : Int32) = 0 := by decide
  have one' : ¬ (0 : Int32) = 1 := by decide
  unfold leadV
  unfold hdF hdO at a1 a2 ⊢
  have last : (if ¬ G 4 (5 * k1 + 4) = 99 then (3 : Int32) else 4) = if G 4 (5 * k1 + 4) = 99 then 4 else 3 := by
    by_cases z : G 4 (5 * k1 + 4) = 99
    · rw [if_neg (fun q => q z), if_pos z]
    · rw [if_pos z, if_neg z]
  rw [last]
  have forms : (¬ G 4 (5 * bk) = 4 ↔ ¬ G 4 (5 * k1) = 4) → (if (if 3 ≤ G 4 (5 * bk + 1) then (0 : Int32) else if ¬ G 4 (5 * k1 + 1) = 3 then 0 else 1) = 0 then (if G 4 (5 * k1 + 4) = 99 then (4 : Int32) else 3) else 2) = if (if G 4 (5 * bk + 1) = 3 then (0 : Int32) else 1) = (if G 4 (5 * k1 + 1) = 3 then 0 else 1) then (if G 4 (5 * k1 + 4) = 99 then 4 else 3) else 2 := by
    intro hs
    by_cases b : G 4 (5 * bk + 1) = 3
    · rw [if_pos (o3.mpr b), if_pos rfl, if_pos b]
      by_cases c : G 4 (5 * k1 + 1) = 3
      · rw [if_pos c, if_pos rfl]
      · exfalso
        rw [if_pos b] at a1
        rw [if_neg c] at a2
        simp only [if_pos, one] at a1 a2
        by_cases f : G 4 (5 * bk) = 4
        · have f' : G 4 (5 * k1) = 4 := by
            by_cases z : G 4 (5 * k1) = 4
            · exact z
            · exact absurd f (hs.mpr z)
          simp only [f, f', if_pos, if_true, if_false] at a1 a2
          omega
        · have f' := hs.mp f
          simp only [f, f', if_pos, if_true, if_false, one] at a1 a2
          omega
    · rw [if_neg (fun z => b (o3.mp z)), if_neg b]
      by_cases c : G 4 (5 * k1 + 1) = 3
      · have nc : ¬ ¬ G 4 (5 * k1 + 1) = 3 := fun z => z c
        rw [if_neg nc, if_neg one, if_pos c, if_neg one]
      · rw [if_pos c, if_pos rfl, if_neg c, if_pos rfl]
  by_cases f : G 4 (5 * bk) = 4
  · rw [if_pos (f4.mpr f), if_pos rfl, if_pos f]
    by_cases f' : G 4 (5 * k1) = 4
    · rw [if_pos f', if_pos rfl]
      exact forms (by simp [f, f'])
    · exfalso
      rw [if_pos f] at a1
      rw [if_neg f'] at a2
      simp only [if_true, one, if_false] at a1 a2
      by_cases z : G 4 (5 * bk + 1) = 3
      · simp only [z, if_true, one, if_false] at a1; omega
      · simp only [z, if_true, one, if_false] at a1; omega
  · rw [if_neg (fun z => f (f4.mp z)), if_neg f]
    by_cases f' : G 4 (5 * k1) = 4
    · have nf : ¬ ¬ G 4 (5 * k1) = 4 := fun z => z f'
      rw [if_neg nf, if_neg one, if_pos f', if_neg one]
    · rw [if_pos f', if_pos rfl, if_neg f', if_pos rfl]
      exact forms (by simp [f, f'])
theorem x_fits (hP : RDs G rv) (w : zWT G) (h : HIat D n gn G) {g : Nat} (hg : g < gn) : zden 127 0 [.ref 0, .int (nI g), .retAddr 0, .retAddr 0, .retAddr 0, .retAddr 0, .retAddr 0, .retAddr 0, .retAddr 0, .retAddr 0, .retAddr 0] [] (zSH ++ E, G) = some (some (.int 1), (zSH ++ E, G)) := by
  have hn := h.ho.1
  have gl := h.gl
  have hch : G 6 (23 * g + 4) = chiefF (fun f => G 6 (23 * g + 9 + f)) 3 1 0 := (h.good g hg).2.2.2.2.1
  have hm := low_n (g := g) h.ho
  have hc := cN_le (p := fitB (G 4) (G 6) g) (n + 1) 0
  have s1 := fi4 (E := E) hP w h hg 3 1 0 rfl (by omega)
  rw [show chiefF (fun j => G 6 (23 * g + 9 + j)) 3 1 (nI 0) = G 6 (23 * g + 4) from hch.symm] at s1
  obtain ⟨bk, v8, v9, s2, b1, b2, b3⟩ := fi53 (E := E) (ch := G 6 (23 * g + 4)) hP w h hg rfl (n + 1) 0 0 n (.retAddr 0) (.retAddr 0) (.retAddr 0) (by omega) (Nat.le_refl _) (fit_last h.ho) (fun j hj => by omega)
  rw [h.ho.2.2.1.2.2.2.2] at s2
  rw [Nat.zero_add] at s2
  obtain ⟨w8, w9, s3⟩ := fi153 (E := E) (x2 := G 6 (23 * g + 4)) (x3 := G 6 (23 * g)) (x5 := G 4 (5 * bk + 4)) hP w h hg (cN (fitB (G 4) (G 6) g) (n + 1) 0) 0 100000 v8 v9 (by omega) (.inl ⟨rfl, rfl⟩)
  have tp : topF (G 4) (G 6) n g = bk := topF_eq h.ho ⟨b1, b2, fun j j1 j2 => by
    rcases Nat.lt_or_ge (rkC (G 4) bk) (rkC (G 4) j) with s | s
    · have := (rk_lt h.ho b1 j1).mp s
      have := b3 j j1 j2
      omega
    · exact s⟩
  have c0 : cntF (fitB (G 4) (G 6) g) (rkC (G 4)) bk (n + 1) 0 = 0 := cntF_zero (n + 1) 0 (fun o _ ho hF s => by
    have := (rk_lt h.ho b1 (show o ≤ n by omega)).mp s
    have := b3 o (by omega) hF
    omega)
  have a0 : atI (fitB (G 4) (G 6) g) (rkC (G 4)) n 0 (nI bk) := .inr ⟨bk, b1, rfl, b2, c0⟩
  have e0 : rv 81 (nI g) 0 = G 4 (5 * bk + 4) := by
    obtain ⟨k, ⟨k1, k2, k3⟩, e⟩ := fit_at (p := 0) hP w h hg (by omega)
    have : nI k = nI bk := atI_uniq h.ho (.inr ⟨k, k1, rfl, k2, k3⟩) a0
    have := (nI_eq (by omega) (by omega)).mp this
    rw [← this]
    exact e
  have e4 : rv 78 (nI g) 4 = G 6 (23 * g + 4) := v78 (k := 4) hP w h hg (by decide)
  have e6 : rv 78 (nI g) 6 = G 4 (5 * bk + 4) := (v78 (k := 6) hP w h hg (by decide)).trans (by show G 4 (5 * topF (G 4) (G 6) n g + 4) = _; rw [tp])
  have e82 : rv 82 (nI g) 0 = G 4 (5 * bk + 4) := (v82 hP w h hg).trans (by rw [tp])
  obtain ⟨r0, r1, a0', a1', e83⟩ := v83 hP w h hg
  have er0 : r0 = nI bk := atI_uniq h.ho a0' a0
  -- the end
  have fin : ∀ (y7 y8 y9 : Int32), rv 83 (nI g) 0 = y9 → zden 127 319 [.ref 0, .int (nI g), .int (G 6 (23 * g + 4)), .int (G 6 (23 * g)), .int (nI (cN (fitB (G 4) (G 6) g) (n + 1) 0)), .int (G 4 (5 * bk + 4)), .int 0, .int y7, .int y8, .int y8, .retAddr 0] [.int y9] (zSH ++ E, G) = some (some (.int 1), (zSH ++ E, G)) → True := fun _ _ _ _ _ => trivial
  have fin2 : ∀ (y7 y8 y10 y9 : Int32), rv 83 (nI g) 0 = y9 → zden 127 319 [.ref 0, .int (nI g), .int (G 6 (23 * g + 4)), .int (G 6 (23 * g)), .int (nI (cN (fitB (G 4) (G 6) g) (n + 1) 0)), .int (G 4 (5 * bk + 4)), .int 0, .int y7, .int y8, .int y10, .retAddr 0] [.int y9] (zSH ++ E, G) = some (some (.int 1), (zSH ++ E, G)) := by
    intro y7 y8 y10 y9 hy
    rw [B_L_fits_319 hP, if_neg (fun q => q rfl), if_neg (fun q => q (fit_no hP w h hg (Nat.le_refl _) (by omega))), if_neg (fun q => q e0), if_neg (fun q => q e82), if_neg (fun q => q e6), if_neg (fun q => q e4), if_neg (fun q => q hy)]
  rw [B_L_fits_0]
  refine s1.trans (s2.trans (s3.trans ?_))
  generalize hM : cN (fitB (G 4) (G 6) g) (n + 1) 0 = m at *
  by_cases m1 : m = 1
  · subst m1
    have er1 : r1 = -1 := by
      rcases a1' with ⟨z, _⟩ | ⟨k, k1, _, k3, k4⟩
      · exact z
      · have := cnt_cN (K := rkC (G 4)) k3 (n + 1) 0
        rw [if_pos (by omega), hM] at this
        omega
    rw [er1, if_neg (by decide)] at e83
    rw [B_L_fits_153 hP, if_pos (Int32.le_refl _), if_pos (by decide), B_L_fits_241, B_L_fits_242 hP, if_pos (by decide), B_L_fits_276, B_L_fits_277, if_neg (fun q => q (by decide))]
    exact fin2 _ _ _ _ e83
  · have n1 : ¬ nI m ≤ 1 := by rw [nIlit_1]; exact nI_ge (by omega) (by omega)
    have n2 : ¬ nI m = 1 := by rw [nIlit_1, nI_eq (by omega) (by omega)]; exact m1
    obtain ⟨k1, ⟨k11, k12, k13⟩, e1⟩ := fit_at (p := 1) hP w h hg (by rw [hM]; omega)
    have e1 : rv 81 (nI g) 1 = G 4 (5 * k1 + 4) := e1
    have er1 : r1 = nI k1 := atI_uniq h.ho a1' (.inr ⟨k1, k11, rfl, k12, k13⟩)
    have lt : rkC (G 4) k1 < rkC (G 4) bk := by
      rcases Nat.lt_or_ge (rkC (G 4) k1) (rkC (G 4) bk) with s | s
      · exact s
      · have := cntF_mono (F := fitB (G 4) (G 6) g) (K := rkC (G 4)) s (n + 1) 0
        omega
    rw [er0, er1, if_pos (nI_pos' (by omega)), nI_clamp (by omega), nI_clamp (by omega), ← why_eq h.ho b1 k11 lt] at e83
    have q153 : ∀ (v8 v9 : Value), zden 127 153 [.ref 0, .int (nI g), .int (G 6 (23 * g + 4)), .int (G 6 (23 * g)), .int (nI m), .int (G 4 (5 * bk + 4)), .int 0, .int (nI m), v8, v9, .retAddr 0] [] (zSH ++ E, G) =
        zden 127 242 [.ref 0, .int (nI g), .int (G 6 (23 * g + 4)), .int (G 6 (23 * g)), .int (nI m), .int (G 4 (5 * bk + 4)), .int 0, .int (G 4 (5 * k1 + 4)), v8, v9, .retAddr 0] [.int (if 4 ≤ G 4 (5 * bk) then (0 : Int32) else if ¬ G 4 (5 * k1) = 4 then 0 else 1)] (zSH ++ E, G) := by
      intro v8 v9
      rw [B_L_fits_153 hP, if_pos (Int32.le_refl _), if_neg n1, e1, rv_f hP w h b1, rv_f hP w h k11]
      by_cases a : (4 : Int32) ≤ G 4 (5 * bk)
      · rw [if_pos a, if_pos a, B_L_fits_241]
      · rw [if_neg a, if_neg a]
        by_cases b : ¬ G 4 (5 * k1) = 4
        · rw [if_pos b, if_pos b, B_L_fits_241]
        · rw [if_neg b, if_neg b]
    have q242 : ∀ (s : Int32) (v8 v9 : Value), zden 127 242 [.ref 0, .int (nI g), .int (G 6 (23 * g + 4)), .int (G 6 (23 * g)), .int (nI m), .int (G 4 (5 * bk + 4)), .int 0, .int (G 4 (5 * k1 + 4)), v8, v9, .retAddr 0] [.int s] (zSH ++ E, G) =
        zden 127 277 [.ref 0, .int (nI g), .int (G 6 (23 * g + 4)), .int (G 6 (23 * g)), .int (nI m), .int (G 4 (5 * bk + 4)), .int 0, .int (G 4 (5 * k1 + 4)), .int s, v9, .retAddr 0] [.int (if 3 ≤ G 4 (5 * bk + 1) then (0 : Int32) else if ¬ G 4 (5 * k1 + 1) = 3 then 0 else 1)] (zSH ++ E, G) := by
      intro s v8 v9
      rw [B_L_fits_242 hP, if_neg n1, rv_o hP w h b1, rv_o hP w h k11]
      by_cases a : (3 : Int32) ≤ G 4 (5 * bk + 1)
      · rw [if_pos a, if_pos a, B_L_fits_276]
      · rw [if_neg a, if_neg a]
        by_cases b : ¬ G 4 (5 * k1 + 1) = 3
        · rw [if_pos b, if_pos b, B_L_fits_276]
        · rw [if_neg b, if_neg b]
    have q277 : ∀ (s t : Int32) (v9 : Value), zden 127 277 [.ref 0, .int (nI g), .int (G 6 (23 * g + 4)), .int (G 6 (23 * g)), .int (nI m), .int (G 4 (5 * bk + 4)), .int 0, .int (G 4 (5 * k1 + 4)), .int s, v9, .retAddr 0] [.int t] (zSH ++ E, G) =
        zden 127 319 [.ref 0, .int (nI g), .int (G 6 (23 * g + 4)), .int (G 6 (23 * g)), .int (nI m), .int (G 4 (5 * bk + 4)), .int 0, .int (G 4 (5 * k1 + 4)), .int s, .int t, .retAddr 0] [.int (if s = 0 then if t = 0 then if ¬ G 4 (5 * k1 + 4) = 99 then (3 : Int32) else 4 else 2 else 1)] (zSH ++ E, G) := by
      intro s t v9
      rw [B_L_fits_277, if_pos n2]
      by_cases a : s = 0
      · rw [if_pos a, if_pos a]
        by_cases b : t = 0
        · rw [if_pos b, if_pos b]
          by_cases c : ¬ G 4 (5 * k1 + 4) = 99
          · rw [if_pos c, if_pos c]
          · rw [if_neg c, if_neg c]
        · rw [if_neg b, if_neg b]
      · rw [if_neg a, if_neg a]
    rw [q153, q242, q277]
    exact fin2 _ _ _ _ e83
end ZHd
