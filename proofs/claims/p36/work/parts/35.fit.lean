-- 35: does a heading fit, how far ahead is it; the one that is first (much of it turned from whole by wip/p36/gen35.py)
def fitB (A B : Nat → Int32) (g i : Nat) : Bool := (A (5 * i) == 4 || A (5 * i) == B (23 * g + 4)) && (A (5 * i + 1) == 3 || A (5 * i + 1) == B (23 * g))
/-- how far ahead, in the class and in the model -/
def rkC (A : Nat → Int32) (i : Nat) : Nat := (if A (5 * i + 4) = 99 then 0 else (A (5 * i + 4)).toNatClampNeg) + (if A (5 * i + 1) = 3 then 0 else 100) + (if A (5 * i) = 4 then 0 else 200)
def rkM (A : Nat → Int32) (i : Nat) : Nat := (if A (5 * i) = 4 then 0 else 1000) + (if A (5 * i + 1) = 3 then 0 else 500) + (if A (5 * i + 4) = 99 then 0 else (A (5 * i + 4)).toNatClampNeg)
def bB (b : Bool) : Int32 := if b = true then 1 else 0
theorem sc_isFitting {G : Nat → Nat → Int32} {i g : Nat} (w : zWT G) (hi : i < 11) (hg : g < 12) :
    zden 25 0 [.ref 2, .int (nI i), .int (nI g), .retAddr 0, .retAddr 0] [] (zSH, G) = some (some (.int (bB (fitB (G 4) (G 6) g i))), (zSH, G)) := by
  have t0 : tget G 3 4 55 (nI i) 0 = G 4 (5 * i) := hd_get (j := 0) w rfl (by decide) hi (by decide)
  have t1 : tget G 3 4 55 (nI i) 1 = G 4 (5 * i + 1) := hd_get (j := 1) w rfl (by decide) hi (by decide)
  have g4 : tget G 5 6 276 (nI g) 4 = G 6 (23 * g + 4) := gd_get (j := 4) w rfl (by decide) hg (by decide)
  have g0 : tget G 5 6 276 (nI g) 0 = G 6 (23 * g) := gd_get (j := 0) w rfl (by decide) hg (by decide)
  have two : ∀ a, zden 25 39 [.ref 2, .int (nI i), .int (nI g), .int a, .int (G 4 (5 * i + 1))] [] (zSH, G) = some (some (.int (bB (G 4 (5 * i + 1) == 3 || G 4 (5 * i + 1) == G 6 (23 * g)))), (zSH, G)) := by
    intro a
    rw [B_Ho_isFitting_39, g0]
    by_cases h : G 4 (5 * i + 1) = 3
    · rw [if_pos h, B_Ho_isFitting_59, show (G 4 (5 * i + 1) == 3) = true from beq_iff_eq.mpr h]; rfl
    · rw [if_neg h, show (G 4 (5 * i + 1) == 3) = false from beq_eq_false_iff_ne.mpr h]
      by_cases h2 : G 4 (5 * i + 1) = G 6 (23 * g)
      · rw [if_neg (fun q => q h2), B_Ho_isFitting_59, show (G 4 (5 * i + 1) == G 6 (23 * g)) = true from beq_iff_eq.mpr h2]; rfl
      · rw [if_pos h2, show (G 4 (5 * i + 1) == G 6 (23 * g)) = false from beq_eq_false_iff_ne.mpr h2]; rfl
  rw [B_Ho_isFitting_0, t0, t1, g4, two]
  unfold fitB
  by_cases h : G 4 (5 * i) = 4
  · rw [if_pos h, show (G 4 (5 * i) == 4) = true from beq_iff_eq.mpr h, Bool.true_or, Bool.true_and]
  · rw [if_neg h, show (G 4 (5 * i) == 4) = false from beq_eq_false_iff_ne.mpr h, Bool.false_or]
    by_cases h2 : G 4 (5 * i) = G 6 (23 * g + 4)
    · rw [if_neg (fun q => q h2), show (G 4 (5 * i) == G 6 (23 * g + 4)) = true from beq_iff_eq.mpr h2, Bool.true_and]
    · rw [if_pos h2, show (G 4 (5 * i) == G 6 (23 * g + 4)) = false from beq_eq_false_iff_ne.mpr h2, Bool.false_and]; rfl
theorem sc_rankOf {G : Nat → Nat → Int32} {n i : Nat} (w : zWT G) (ho : hOK n (G 4)) (hi : i ≤ n) :
    zden 26 0 [.ref 2, .int (nI i), .retAddr 0, .retAddr 0] [] (zSH, G) = some (some (.int (nI (rkC (G 4) i))), (zSH, G)) := by
  have hn := ho.1
  have t0 : tget G 3 4 55 (nI i) 0 = G 4 (5 * i) := hd_get (j := 0) w rfl (by decide) (by omega) (by decide)
  have t1 : tget G 3 4 55 (nI i) 1 = G 4 (5 * i + 1) := hd_get (j := 1) w rfl (by decide) (by omega) (by decide)
  have t4 : tget G 3 4 55 (nI i) 4 = G 4 (5 * i + 4) := hd_get (j := 4) w rfl (by decide) (by omega) (by decide)
  obtain ⟨c, f, o, r, k, hc, hf, hoo, _, _, c1, c2, _⟩ := ho.row hi
  have three : ∀ (a : Int32) (s : Nat), zden 26 38 [.ref 2, .int (nI i), .int a, .int (nI s)] [] (zSH, G) = some (some (.int (nI (s + if G 4 (5 * i) = 4 then 0 else 200))), (zSH, G)) := by
    intro a s
    rw [B_Ho_rankOf_38, t0]
    by_cases h : G 4 (5 * i) = 4
    · rw [if_pos h, if_pos h, Nat.add_zero]
    · rw [if_neg h, if_neg h, show (200 : Int32) = nI 200 by decide, nI_add]
  have two : ∀ (a : Int32) (s : Nat), zden 26 21 [.ref 2, .int (nI i), .int a, .retAddr 0] [.int (nI s)] (zSH, G) = some (some (.int (nI (s + (if G 4 (5 * i + 1) = 3 then 0 else 100) + if G 4 (5 * i) = 4 then 0 else 200))), (zSH, G)) := by
    intro a s
    rw [B_Ho_rankOf_21, t1]
    by_cases h : G 4 (5 * i + 1) = 3
    · rw [if_pos h, if_pos h, Nat.add_zero, three]
    · rw [if_neg h, if_neg h, nIlit_100, nI_add, three]
  rw [B_Ho_rankOf_0, t4]
  unfold rkC
  by_cases h : G 4 (5 * i + 4) = 99
  · rw [if_neg (fun q => q h), if_pos h]
    exact two _ 0
  · rw [if_pos h, if_neg h, hc, nI_clamp (by omega)]
    exact two _ c
theorem rk_eq {n i : Nat} {A : Nat → Int32} (ho : hOK n A) (hi : i ≤ n) : ∃ x p q : Nat, x < 99 ∧ p ≤ 1 ∧ q ≤ 1 ∧ rkC A i = x + 100 * p + 200 * q ∧ rkM A i = 1000 * q + 500 * p + x ∧ (i = n → x = 0) ∧ (i < n → 1 ≤ x ∧ A (5 * i + 4) = nI x) := by
  obtain ⟨c, f, o, r, k, hc, hf, hoo, _, _, c1, c2, f2, o2, _, _, hcn⟩ := ho.row hi
  have ex : ∃ x : Nat, x < 99 ∧ (if A (5 * i + 4) = 99 then 0 else (A (5 * i + 4)).toNatClampNeg) = x ∧ (i = n → x = 0) ∧ (i < n → 1 ≤ x ∧ A (5 * i + 4) = nI x) := by
    by_cases h : c = 99
    · refine ⟨0, by omega, by rw [if_pos (by rw [hc, h]; decide)], fun _ => rfl, fun q => ?_⟩
      have := hcn.mp h
      omega
    · refine ⟨c, by omega, ?_, fun q => absurd (hcn.mpr q) h, fun _ => ⟨c1, hc⟩⟩
      rw [if_neg (by rw [hc, show (99 : Int32) = nI 99 by decide, nI_eq (by omega) (by decide)]; exact h), hc, nI_clamp (by omega)]
  obtain ⟨x, x1, x2, x3, x4⟩ := ex
  unfold rkC rkM
  rw [x2]
  by_cases h1 : A (5 * i + 1) = 3
  · by_cases h2 : A (5 * i) = 4
    · exact ⟨x, 0, 0, x1, by omega, by omega, by rw [if_pos h1, if_pos h2], by rw [if_pos h1, if_pos h2], x3, x4⟩
    · exact ⟨x, 0, 1, x1, by omega, by omega, by rw [if_pos h1, if_neg h2], by rw [if_pos h1, if_neg h2], x3, x4⟩
  · by_cases h2 : A (5 * i) = 4
    · exact ⟨x, 1, 0, x1, by omega, by omega, by rw [if_neg h1, if_pos h2], by rw [if_neg h1, if_pos h2], x3, x4⟩
    · exact ⟨x, 1, 1, x1, by omega, by omega, by rw [if_neg h1, if_neg h2], by rw [if_neg h1, if_neg h2], x3, x4⟩
theorem rk_lt {n i j : Nat} {A : Nat → Int32} (ho : hOK n A) (hi : i ≤ n) (hj : j ≤ n) : rkC A i < rkC A j ↔ rkM A i < rkM A j := by
  obtain ⟨x, p, q, x1, p1, q1, e1, e2, _⟩ := rk_eq ho hi
  obtain ⟨y, r, s, y1, r1, s1, e3, e4, _⟩ := rk_eq ho hj
  rw [e1, e2, e3, e4]
  rcases (show p = 0 ∨ p = 1 by omega) with rfl | rfl <;> rcases (show q = 0 ∨ q = 1 by omega) with rfl | rfl <;> rcases (show r = 0 ∨ r = 1 by omega) with rfl | rfl <;> rcases (show s = 0 ∨ s = 1 by omega) with rfl | rfl <;> omega
theorem rk_le {n i : Nat} {A : Nat → Int32} (ho : hOK n A) (hi : i ≤ n) : rkC A i ≤ 398 ∧ rkM A i ≤ 1598 := by
  obtain ⟨x, p, q, x1, p1, q1, e1, e2, _⟩ := rk_eq ho hi
  omega
theorem codes_up {n : Nat} {A : Nat → Int32} (hs : ∀ h, h + 1 < n → A (5 * h + 4) < A (5 * (h + 1) + 4)) : ∀ (d i : Nat), i + d + 1 < n → A (5 * i + 4) < A (5 * (i + d + 1) + 4) := by
  intro d
  induction d with
  | zero => intro i h; exact hs i h
  | succ d ih => intro i h; exact Int32.lt_trans (ih i (by omega)) (hs (i + d + 1) h)
theorem rk_inj {n i j : Nat} {A : Nat → Int32} (ho : hOK n A) (hs : ∀ h, h + 1 < n → A (5 * h + 4) < A (5 * (h + 1) + 4)) (hi : i ≤ n) (hj : j ≤ n) (he : rkC A i = rkC A j) : i = j := by
  obtain ⟨x, p, q, x1, p1, q1, e1, e2, x3, x4⟩ := rk_eq ho hi
  obtain ⟨y, r, s, y1, r1, s1, e3, e4, y3, y4⟩ := rk_eq ho hj
  have hxy : x = y := by
    rw [e1, e3] at he
    omega
  subst hxy
  by_cases h1 : i = n
  · have := x3 h1
    by_cases h2 : j = n
    · omega
    · have := (y4 (by omega)).1
      omega
  · have a := x4 (by omega)
    by_cases h2 : j = n
    · have := y3 h2
      omega
    · have b := y4 (by omega)
      rcases Nat.lt_trichotomy i j with h | h | h
      · have := codes_up hs (j - i - 1) i (by omega)
        rw [show i + (j - i - 1) + 1 = j by omega, a.2, b.2] at this
        exact absurd this Int32.lt_irrefl
      · exact h
      · have := codes_up hs (i - j - 1) j (by omega)
        rw [show j + (i - j - 1) + 1 = i by omega, a.2, b.2] at this
        exact absurd this Int32.lt_irrefl
/-- r is the row furthest ahead of those below b -/
def selI (F : Nat → Bool) (K : Nat → Nat) (b : Nat) (i : Nat) (r x : Int32) : Prop :=
  (r = -1 ∧ x = -1 ∧ ∀ j, j < i → F j = true → ¬ K j < b) ∨ (∃ h, h < i ∧ r = nI h ∧ x = nI (K h) ∧ F h = true ∧ K h < b ∧ ∀ j, j < i → F j = true → K j < b → K j ≤ K h)
theorem sc_fit_loop {G : Nat → Nat → Int32} {n g b : Nat} (w : zWT G) (ho : hOK n (G 4)) (i3 : G 2 3 = nI (n + 1)) (hg : g < 12) (hb : b ≤ 1000) : ∀ (d i : Nat) (x3 x4 : Int32) (v6 : Value), i + d = n + 1 → selI (fitB (G 4) (G 6) g) (rkC (G 4)) b i x3 x4 →
    ∃ r x : Int32, zden 24 8 [.ref 2, .int (nI g), .int (nI b), .int x3, .int x4, .int (nI i), v6] [] (zSH, G) = some (some (.int r), (zSH, G)) ∧ selI (fitB (G 4) (G 6) g) (rkC (G 4)) b (n + 1) r x := by
  have hn := ho.1
  intro d
  induction d with
  | zero =>
    intro i x3 x4 v6 h hs
    have h : i = n + 1 := by omega
    subst h
    exact ⟨x3, x4, by rw [B_Ho_fittingRow_8, if_pos (by rw [i3]; exact Int32.le_refl _)], hs⟩
  | succ d ih =>
    intro i x3 x4 v6 h hs
    have hc : zden 24 8 [.ref 2, .int (nI g), .int (nI b), .int x3, .int x4, .int (nI i), v6] [] (zSH, G) = _ := B_Ho_fittingRow_8
    rw [if_neg (by rw [i3]; exact nI_ge (by omega) (by omega)), sc_isFitting w (by omega) hg, zaft_same] at hc
    have hc := hc.trans B_Ho_fittingRow_24
    have low : ∀ m : Nat, m < 2 ^ 31 → (-1 : Int32) ≤ nI m := fun m hm => Int32.le_trans (by decide) (nI_pos' hm)
    have skip : ∀ s0 : Int32, (s0 ≤ x4 ∨ nI b ≤ s0) → zden 24 37 [.ref 2, .int (nI g), .int (nI b), .int x3, .int x4, .int (nI i), v6] [.int s0] (zSH, G) = zden 24 8 [.ref 2, .int (nI g), .int (nI b), .int x3, .int x4, .int (nI (i + 1)), .int s0] [] (zSH, G) := by
      intro s0 hq
      rw [B_Ho_fittingRow_37, B_Ho_fittingRow_59, nI_1]
      by_cases h1 : nI b ≤ s0
      · rw [if_pos h1]
      · rw [if_neg h1]
        rcases hq with hq | hq
        · rw [if_pos hq]
        · exact absurd hq h1
    by_cases hF : fitB (G 4) (G 6) g i = true
    · have hK := rk_le ho (i := i) (by omega)
      rw [hF, if_neg (by decide), sc_rankOf w ho (by omega), zaft_same] at hc
      have hc := hc.trans B_Ho_fittingRow_33
      by_cases h1 : rkC (G 4) i < b
      · by_cases h2 : nI (rkC (G 4) i) ≤ x4
        · obtain ⟨r, x, q1, q2⟩ := ih (i + 1) x3 x4 (.int (nI (rkC (G 4) i))) (by omega) (by
            rcases hs with ⟨s1, s2, s3⟩ | ⟨k, k1, k2, k3, k4, k5, k6⟩
            · rw [s2] at h2
              exact absurd (Int32.le_trans (nI_pos' (by omega)) h2) (by decide)
            · refine .inr ⟨k, by omega, k2, k3, k4, k5, fun j j1 j2 j3 => ?_⟩
              by_cases e : j = i
              · subst e
                have := rk_le ho (i := k) (by omega)
                rw [k3, nI_leI (by omega) (by omega)] at h2
                exact h2
              · exact k6 j (by omega) j2 j3)
          exact ⟨r, x, hc.trans ((skip _ (.inl h2)).trans q1), q2⟩
        · obtain ⟨r, x, q1, q2⟩ := ih (i + 1) (nI i) (nI (rkC (G 4) i)) (.int (nI (rkC (G 4) i))) (by omega) (by
            refine .inr ⟨i, by omega, rfl, rfl, hF, h1, fun j j1 j2 j3 => ?_⟩
            by_cases e : j = i
            · subst e; exact Nat.le_refl _
            · rcases hs with ⟨s1, s2, s3⟩ | ⟨k, k1, k2, k3, k4, k5, k6⟩
              · exact absurd j3 (s3 j (by omega) j2)
              · have := rk_le ho (i := k) (by omega)
                rw [k3, nI_leI (by omega) (by omega)] at h2
                have := k6 j (by omega) j2 j3
                omega)
          refine ⟨r, x, hc.trans (Eq.trans ?_ q1), q2⟩
          show zden 24 37 _ [.int (nI (rkC (G 4) i))] _ = _
          rw [B_Ho_fittingRow_37, if_neg (nI_ge h1 (by omega)), if_neg h2, B_Ho_fittingRow_59, nI_1]
      · obtain ⟨r, x, q1, q2⟩ := ih (i + 1) x3 x4 (.int (nI (rkC (G 4) i))) (by omega) (by
          rcases hs with ⟨s1, s2, s3⟩ | ⟨k, k1, k2, k3, k4, k5, k6⟩
          · refine .inl ⟨s1, s2, fun j j1 j2 => ?_⟩
            by_cases e : j = i
            · subst e; exact h1
            · exact s3 j (by omega) j2
          · refine .inr ⟨k, by omega, k2, k3, k4, k5, fun j j1 j2 j3 => ?_⟩
            by_cases e : j = i
            · subst e; exact absurd j3 h1
            · exact k6 j (by omega) j2 j3)
        exact ⟨r, x, hc.trans ((skip _ (.inr (nI_le (by omega) (by omega)))).trans q1), q2⟩
    · have hF' : fitB (G 4) (G 6) g i = false := by simpa using hF
      rw [hF', if_pos (by decide)] at hc
      obtain ⟨r, x, q1, q2⟩ := ih (i + 1) x3 x4 (.int (-1)) (by omega) (by
        rcases hs with ⟨s1, s2, s3⟩ | ⟨k, k1, k2, k3, k4, k5, k6⟩
        · refine .inl ⟨s1, s2, fun j j1 j2 => ?_⟩
          by_cases e : j = i
          · subst e; exact absurd j2 hF
          · exact s3 j (by omega) j2
        · refine .inr ⟨k, by omega, k2, k3, k4, k5, fun j j1 j2 j3 => ?_⟩
          by_cases e : j = i
          · subst e; exact absurd j2 hF
          · exact k6 j (by omega) j2 j3)
      have hx4 : (-1 : Int32) ≤ x4 := by
        rcases hs with ⟨s1, s2, s3⟩ | ⟨k, k1, k2, k3, k4, k5, k6⟩
        · rw [s2]; exact Int32.le_refl _
        · rw [k3]; exact low _ (by have := rk_le ho (i := k) (by omega); omega)
      exact ⟨r, x, hc.trans ((skip _ (.inl hx4)).trans q1), q2⟩
theorem sc_fittingRow {G : Nat → Nat → Int32} {n g b : Nat} (w : zWT G) (ho : hOK n (G 4)) (i3 : G 2 3 = nI (n + 1)) (hg : g < 12) (hb : b ≤ 1000) :
    ∃ r x : Int32, zden 24 0 [.ref 2, .int (nI g), .int (nI b), .retAddr 0, .retAddr 0, .retAddr 0, .retAddr 0] [] (zSH, G) = some (some (.int r), (zSH, G)) ∧ selI (fitB (G 4) (G 6) g) (rkC (G 4)) b (n + 1) r x := by
  obtain ⟨r, x, q1, q2⟩ := sc_fit_loop w ho i3 hg hb (n + 1) 0 (-1) (-1) (.retAddr 0) (by omega) (.inl ⟨rfl, rfl, fun j hj => by omega⟩)
  exact ⟨r, x, by rw [B_Ho_fittingRow_0]; exact q1, q2⟩
/-- how many of those that fit are ahead of h -/
def cntF (F : Nat → Bool) (K : Nat → Nat) (h : Nat) : Nat → Nat → Nat
  | 0, _ => 0
  | d + 1, i => (if F i = true ∧ K h < K i then 1 else 0) + cntF F K h d (i + 1)
theorem cntF_succ {F : Nat → Bool} {K : Nat → Nat} {h d i : Nat} : cntF F K h (d + 1) i = (if F i = true ∧ K h < K i then 1 else 0) + cntF F K h d (i + 1) := rfl
theorem cntF_congr {F : Nat → Bool} {K K' : Nat → Nat} {h : Nat} : ∀ (d i : Nat), (∀ o, i ≤ o → o < i + d → (K h < K o ↔ K' h < K' o)) → cntF F K h d i = cntF F K' h d i := by
  intro d
  induction d with
  | zero => intro i _; rfl
  | succ d ih =>
    intro i hq
    rw [cntF_succ, cntF_succ, ih (i + 1) (fun o h1 h2 => hq o (by omega) (by omega))]
    have e := hq i (by omega) (by omega)
    by_cases h1 : F i = true ∧ K h < K i
    · rw [if_pos h1, if_pos ⟨h1.1, e.mp h1.2⟩]
    · rw [if_neg h1, if_neg (fun z => h1 ⟨z.1, e.mpr z.2⟩)]
theorem cntF_zero {F : Nat → Bool} {K : Nat → Nat} {h : Nat} : ∀ (d i : Nat), (∀ o, i ≤ o → o < i + d → F o = true → ¬ K h < K o) → cntF F K h d i = 0 := by
  intro d
  induction d with
  | zero => intro i _; rfl
  | succ d ih =>
    intro i hq
    rw [cntF_succ, ih (i + 1) (fun o h1 h2 => hq o (by omega) (by omega)), if_neg (fun z => hq i (by omega) (by omega) z.1 z.2)]
theorem cntF_up {F : Nat → Bool} {K : Nat → Nat} {h h' : Nat} (hk : K h < K h') (hF : F h' = true) : ∀ (d i : Nat), cntF F K h' d i + (if i ≤ h' ∧ h' < i + d then 1 else 0) ≤ cntF F K h d i := by
  intro d
  induction d with
  | zero => intro i; rw [if_neg (by omega)]; exact Nat.le_refl _
  | succ d ih =>
    intro i
    have := ih (i + 1)
    rw [cntF_succ, cntF_succ]
    by_cases e : i = h'
    · subst e
      have a1 : (if F i = true ∧ K i < K i then 1 else 0) = 0 := if_neg (fun z => Nat.lt_irrefl _ z.2)
      have a2 : (if F i = true ∧ K h < K i then 1 else 0) = 1 := if_pos ⟨hF, hk⟩
      have a3 : (if i ≤ i ∧ i < i + (d + 1) then 1 else 0) = 1 := if_pos (by omega)
      have a4 : (if i + 1 ≤ i ∧ i < i + 1 + d then 1 else 0) = 0 := if_neg (by omega)
      rw [a4] at this
      rw [a1, a2, a3]
      omega
    · have e2 : (if i ≤ h' ∧ h' < i + (d + 1) then 1 else 0) = (if i + 1 ≤ h' ∧ h' < i + 1 + d then 1 else 0) := by
        by_cases q : i ≤ h' ∧ h' < i + (d + 1)
        · rw [if_pos q, if_pos (by omega)]
        · rw [if_neg q, if_neg (by omega)]
      rw [e2]
      by_cases h1 : F i = true ∧ K h' < K i
      · have a1 : (if F i = true ∧ K h' < K i then 1 else 0) = 1 := if_pos h1
        have a2 : (if F i = true ∧ K h < K i then 1 else 0) = 1 := if_pos ⟨h1.1, by omega⟩
        rw [a1, a2]; omega
      · have a1 : (if F i = true ∧ K h' < K i then 1 else 0) = 0 := if_neg h1
        rw [a1]; omega
theorem cntF_mono {F : Nat → Bool} {K : Nat → Nat} {h h' : Nat} (hk : K h ≤ K h') : ∀ (d i : Nat), cntF F K h' d i ≤ cntF F K h d i := by
  intro d
  induction d with
  | zero => intro i; exact Nat.le_refl _
  | succ d ih =>
    intro i
    have := ih (i + 1)
    rw [cntF_succ, cntF_succ]
    by_cases h1 : F i = true ∧ K h' < K i
    · have a1 : (if F i = true ∧ K h' < K i then 1 else 0) = 1 := if_pos h1
      have a2 : (if F i = true ∧ K h < K i then 1 else 0) = 1 := if_pos ⟨h1.1, by omega⟩
      rw [a1, a2]; omega
    · have a1 : (if F i = true ∧ K h' < K i then 1 else 0) = 0 := if_neg h1
      rw [a1]; omega
theorem cntF_step {F : Nat → Bool} {K : Nat → Nat} {h h' : Nat} (hF : F h = true) : ∀ (d i : Nat), (∀ o, i ≤ o → o < i + d → F o = true → (K h' < K o ↔ (K h < K o ∨ o = h))) → cntF F K h' d i = cntF F K h d i + (if i ≤ h ∧ h < i + d then 1 else 0) := by
  intro d
  induction d with
  | zero => intro i _; rw [if_neg (by omega)]; rfl
  | succ d ih =>
    intro i hq
    have := ih (i + 1) (fun o h1 h2 => hq o (by omega) (by omega))
    rw [cntF_succ, cntF_succ, this]
    by_cases e : i = h
    · subst e
      have a1 : (if F i = true ∧ K h' < K i then 1 else 0) = 1 := if_pos ⟨hF, (hq i (by omega) (by omega) hF).mpr (.inr rfl)⟩
      have a2 : (if F i = true ∧ K i < K i then 1 else 0) = 0 := if_neg (fun z => Nat.lt_irrefl _ z.2)
      have a3 : (if i ≤ i ∧ i < i + (d + 1) then 1 else 0) = 1 := if_pos (by omega)
      have a4 : (if i + 1 ≤ i ∧ i < i + 1 + d then 1 else 0) = 0 := if_neg (by omega)
      rw [a1, a2, a3, a4]
      omega
    · have e2 : (if i ≤ h ∧ h < i + (d + 1) then 1 else 0) = (if i + 1 ≤ h ∧ h < i + 1 + d then 1 else 0) := by
        by_cases q : i ≤ h ∧ h < i + (d + 1)
        · rw [if_pos q, if_pos (by omega)]
        · rw [if_neg q, if_neg (by omega)]
      rw [e2]
      by_cases h1 : F i = true ∧ K h' < K i
      · rcases (hq i (by omega) (by omega) h1.1).mp h1.2 with z | z
        · have a1 : (if F i = true ∧ K h' < K i then 1 else 0) = 1 := if_pos h1
          have a2 : (if F i = true ∧ K h < K i then 1 else 0) = 1 := if_pos ⟨h1.1, z⟩
          rw [a1, a2]; omega
        · exact absurd z e
      · have a1 : (if F i = true ∧ K h' < K i then 1 else 0) = 0 := if_neg h1
        have a2 : (if F i = true ∧ K h < K i then 1 else 0) = 0 := if_neg (fun z => h1 ⟨z.1, (hq i (by omega) (by omega) z.1).mpr (.inl z.2)⟩)
        rw [a1, a2]; omega
theorem cntF_bd {F : Nat → Bool} {K : Nat → Nat} {h : Nat} : ∀ (d i : Nat), cntF F K h d i + (if i ≤ h ∧ h < i + d then 1 else 0) ≤ d := by
  intro d
  induction d with
  | zero => intro i; rw [if_neg (by omega)]; exact Nat.le_refl _
  | succ d ih =>
    intro i
    have := ih (i + 1)
    rw [cntF_succ]
    by_cases e : i = h
    · subst e
      have a1 : (if F i = true ∧ K i < K i then 1 else 0) = 0 := if_neg (fun z => Nat.lt_irrefl _ z.2)
      have a3 : (if i ≤ i ∧ i < i + (d + 1) then 1 else 0) = 1 := if_pos (by omega)
      have a4 : (if i + 1 ≤ i ∧ i < i + 1 + d then 1 else 0) = 0 := if_neg (by omega)
      rw [a4] at this
      rw [a1, a3]
      omega
    · have e2 : (if i ≤ h ∧ h < i + (d + 1) then 1 else 0) = (if i + 1 ≤ h ∧ h < i + 1 + d then 1 else 0) := by
        by_cases q : i ≤ h ∧ h < i + (d + 1)
        · rw [if_pos q, if_pos (by omega)]
        · rw [if_neg q, if_neg (by omega)]
      rw [e2]
      have a1 : (if F i = true ∧ K h < K i then 1 else 0) ≤ 1 := by
        by_cases q : F i = true ∧ K h < K i
        · rw [if_pos q]; exact Nat.le_refl _
        · rw [if_neg q]; exact Nat.zero_le _
      omega
theorem cntF_le {F : Nat → Bool} {K : Nat → Nat} {h n : Nat} (hh : h ≤ n) : cntF F K h (n + 1) 0 ≤ n := by
  have := cntF_bd (F := F) (K := K) (h := h) (n + 1) 0
  rw [if_pos (by omega)] at this
  omega
/-- r is the row with s of those that fit ahead of it -/
def atI (F : Nat → Bool) (K : Nat → Nat) (n s : Nat) (r : Int32) : Prop :=
  (r = -1 ∧ ∀ h, h ≤ n → F h = true → cntF F K h (n + 1) 0 < s) ∨ (∃ h, h ≤ n ∧ r = nI h ∧ F h = true ∧ cntF F K h (n + 1) 0 = s)
theorem atI_zero {F : Nat → Bool} {K : Nat → Nat} {n b : Nat} {r x : Int32} (hb : ∀ j, j ≤ n → K j < b) (h : selI F K b (n + 1) r x) : atI F K n 0 r := by
  rcases h with ⟨h1, _, h3⟩ | ⟨k, k1, k2, k3, k4, k5, k6⟩
  · exact .inl ⟨h1, fun j hj hF => absurd (hb j hj) (h3 j (by omega) hF)⟩
  · refine .inr ⟨k, by omega, k2, k4, cntF_zero _ _ (fun o _ h2 hF => ?_)⟩
    have := k6 o (by omega) hF (hb o (by omega))
    omega
theorem atI_step {F : Nat → Bool} {K : Nat → Nat} {n s h : Nat} {r x : Int32} (hi : ∀ i j, i ≤ n → j ≤ n → K i = K j → i = j) (hh : h ≤ n) (hF : F h = true) (hc : cntF F K h (n + 1) 0 = s) (hs : selI F K (K h) (n + 1) r x) : atI F K n (s + 1) r := by
  rcases hs with ⟨h1, _, h3⟩ | ⟨k, k1, k2, k3, k4, k5, k6⟩
  · refine .inl ⟨h1, fun j hj hFj => ?_⟩
    have := h3 j (by omega) hFj
    have := cntF_mono (F := F) (K := K) (h := h) (h' := j) (by omega) (n + 1) 0
    omega
  · refine .inr ⟨k, by omega, k2, k4, ?_⟩
    have := cntF_step (F := F) (K := K) (h := h) (h' := k) hF (n + 1) 0 (fun o _ h2 hFo => by
      constructor
      · intro q
        by_cases e : K o < K h
        · have := k6 o (by omega) hFo e
          omega
        · by_cases e2 : K h < K o
          · exact .inl e2
          · exact .inr (hi o h (by omega) hh (by omega))
      · rintro (q | rfl)
        · omega
        · exact k5)
    rw [this, if_pos (by omega), hc]
theorem sc_fra_loop {G : Nat → Nat → Int32} {n g p : Nat} (w : zWT G) (ho : hOK n (G 4)) (hs : ∀ h, h + 1 < n → G 4 (5 * h + 4) < G 4 (5 * (h + 1) + 4)) (i3 : G 2 3 = nI (n + 1)) (hg : g < 12) (hp : p ≤ 10) : ∀ (d s : Nat) (r : Int32), s + d = p → atI (fitB (G 4) (G 6) g) (rkC (G 4)) n s r →
    ∃ r' : Int32, zden 30 12 [.ref 2, .int (nI g), .int (nI p), .int r, .int (nI s)] [] (zSH, G) = some (some (.int r'), (zSH, G)) ∧ atI (fitB (G 4) (G 6) g) (rkC (G 4)) n p r' := by
  have hn := ho.1
  intro d
  induction d with
  | zero =>
    intro s r h ha
    have h : s = p := by omega
    subst h
    exact ⟨r, by rw [B_Ho_fittingRowAt_12, if_pos (Int32.le_refl _)], ha⟩
  | succ d ih =>
    intro s r h ha
    have hc : zden 30 12 [.ref 2, .int (nI g), .int (nI p), .int r, .int (nI s)] [] (zSH, G) = _ := B_Ho_fittingRowAt_12
    rw [if_neg (nI_ge (by omega) (by omega))] at hc
    rcases ha with ⟨a1, a2⟩ | ⟨k, k1, k2, k3, k4⟩
    · subst a1
      exact ⟨-1, hc.trans (if_pos (by decide)), .inl ⟨rfl, fun h hh hF => by have := a2 h hh hF; omega⟩⟩
    · subst k2
      have hK := rk_le ho k1
      obtain ⟨r2, x2, q1, q2⟩ := sc_fittingRow (b := rkC (G 4) k) w ho i3 hg (by omega)
      obtain ⟨r', e1, e2⟩ := ih (s + 1) r2 (by omega) (atI_step (fun i j hi hj h => rk_inj ho hs hi hj h) k1 k3 k4 q2)
      refine ⟨r', ?_, e2⟩
      rw [hc, if_neg (nI_pos (by omega)), sc_rankOf w ho k1, zaft_same]
      refine Eq.trans B_Ho_fittingRowAt_29 ?_
      rw [q1, zaft_same]
      refine Eq.trans B_Ho_fittingRowAt_32 ?_
      rw [nI_1]
      exact e1
theorem sc_fittingRowAt {G : Nat → Nat → Int32} {n g p : Nat} (w : zWT G) (ho : hOK n (G 4)) (hs : ∀ h, h + 1 < n → G 4 (5 * h + 4) < G 4 (5 * (h + 1) + 4)) (i3 : G 2 3 = nI (n + 1)) (hg : g < 12) (hp : p ≤ 10) :
    ∃ r : Int32, zden 30 0 [.ref 2, .int (nI g), .int (nI p), .retAddr 0, .retAddr 0] [] (zSH, G) = some (some (.int r), (zSH, G)) ∧ atI (fitB (G 4) (G 6) g) (rkC (G 4)) n p r := by
  obtain ⟨r, x, q1, q2⟩ := sc_fittingRow (b := 1000) w ho i3 hg (by omega)
  obtain ⟨r', e1, e2⟩ := sc_fra_loop w ho hs i3 hg hp p 0 r (by omega) (atI_zero (fun j hj => by have := rk_le ho hj; omega) q2)
  refine ⟨r', ?_, e2⟩
  rw [B_Ho_fittingRowAt_0, show (1000 : Int32) = nI 1000 by decide, q1, zaft_same]
  exact Eq.trans B_Ho_fittingRowAt_8 e1
def hdF (A : Nat → Int32) (i : Nat) : Int32 := if A (5 * i) = 4 then 0 else 1
def hdO (A : Nat → Int32) (i : Nat) : Int32 := if A (5 * i + 1) = 3 then 0 else 1
def leadV (A : Nat → Int32) (i j : Nat) : Int32 := if hdF A i = hdF A j then if hdO A i = hdO A j then if A (5 * j + 4) = 99 then 4 else 3 else 2 else 1
theorem ite_z {p : Prop} [Decidable p] {k pc : Nat} {lst st : List Value} {h : zH} : (if p then zden k pc lst (.int 0 :: st) h else zden k pc lst (.int 1 :: st) h) = zden k pc lst (.int (if p then 0 else 1) :: st) h := by
  by_cases q : p
  · rw [if_pos q, if_pos q]
  · rw [if_neg q, if_neg q]
theorem sc_lead2 {G : Nat → Nat → Int32} {x : Int32} {i j : Nat} (w : zWT G) (hi : i < 11) (hj : j < 11) :
    zden 33 13 [.ref 2, .int x, .int (nI i), .retAddr 0, .retAddr 0, .retAddr 0] [.int (nI j)] (zSH, G) = some (some (.int (leadV (G 4) i j)), (zSH, G)) := by
  have i0 : tget G 3 4 55 (nI i) 0 = G 4 (5 * i) := hd_get (j := 0) w rfl (by decide) hi (by decide)
  have i1 : tget G 3 4 55 (nI i) 1 = G 4 (5 * i + 1) := hd_get (j := 1) w rfl (by decide) hi (by decide)
  have j0 : tget G 3 4 55 (nI j) 0 = G 4 (5 * j) := hd_get (j := 0) w rfl (by decide) hj (by decide)
  have j1 : tget G 3 4 55 (nI j) 1 = G 4 (5 * j + 1) := hd_get (j := 1) w rfl (by decide) hj (by decide)
  have j4 : tget G 3 4 55 (nI j) 4 = G 4 (5 * j + 4) := hd_get (j := 4) w rfl (by decide) hj (by decide)
  rw [B_Ho_lead_13, if_pos (nI_pos' (by omega)), i0, ite_z]
  refine Eq.trans B_Ho_lead_38 ?_
  rw [i1, ite_z]
  refine Eq.trans B_Ho_lead_58 ?_
  rw [j0, ite_z]
  refine Eq.trans B_Ho_lead_80 ?_
  rw [j1, ite_z]
  unfold leadV
  show (if hdF (G 4) i = hdF (G 4) j then zden 33 105 _ [.int (hdO (G 4) j), .int (hdO (G 4) i)] _ else _) = _
  by_cases c1 : hdF (G 4) i = hdF (G 4) j
  · rw [if_pos c1, if_pos c1]
    refine Eq.trans B_Ho_lead_105 ?_
    rw [j4]
    by_cases c2 : hdO (G 4) i = hdO (G 4) j
    · rw [if_pos c2, if_pos c2]
      by_cases c3 : G 4 (5 * j + 4) = 99
      · rw [if_neg (fun z => z c3), if_pos c3]
      · rw [if_pos c3, if_neg c3]
    · rw [if_neg c2, if_neg c2]
  · rw [if_neg c1, if_neg c1]
theorem rkC_hd {A : Nat → Int32} {i : Nat} : rkC A i = (if A (5 * i + 4) = 99 then 0 else (A (5 * i + 4)).toNatClampNeg) + (if hdO A i = 0 then 0 else 100) + (if hdF A i = 0 then 0 else 200) := by
  unfold rkC hdO hdF
  by_cases h1 : A (5 * i + 1) = 3
  · by_cases h2 : A (5 * i) = 4
    · rw [if_pos h1, if_pos h2, if_pos h1, if_pos h2]; rfl
    · rw [if_pos h1, if_neg h2, if_pos h1, if_neg h2]; rfl
  · by_cases h2 : A (5 * i) = 4
    · rw [if_neg h1, if_pos h2, if_neg h1, if_pos h2]; rfl
    · rw [if_neg h1, if_neg h2, if_neg h1, if_neg h2]; rfl
theorem hdF_or {A : Nat → Int32} {i : Nat} : hdF A i = 0 ∨ hdF A i = 1 := by
  unfold hdF
  by_cases h : A (5 * i) = 4
  · rw [if_pos h]; exact .inl rfl
  · rw [if_neg h]; exact .inr rfl
theorem hdO_or {A : Nat → Int32} {i : Nat} : hdO A i = 0 ∨ hdO A i = 1 := by
  unfold hdO
  by_cases h : A (5 * i + 1) = 3
  · rw [if_pos h]; exact .inl rfl
  · rw [if_neg h]; exact .inr rfl
theorem zb_01 {x : Int32} (h : x = 0 ∨ x = 1) : znr .boolean x = true := by
  rcases h with rfl | rfl
  · exact znr_b0
  · exact znr_b1
/-- what isAhead answers, as it goes -/
def ahV (A : Nat → Int32) (i j : Nat) : Int32 := if hdF A i = hdF A j then if hdO A i = hdO A j then (if A (5 * i + 4) = 99 then 0 else if A (5 * j + 4) = 99 then 1 else if A (5 * i + 4) ≤ A (5 * j + 4) then 0 else 1) else hdO A i else hdF A i
theorem ahV_eq {n i j : Nat} {A : Nat → Int32} (ho : hOK n A) (hi : i ≤ n) (hj : j ≤ n) : ahV A i j = bB (decide (rkC A j < rkC A i)) := by
  obtain ⟨c, _, _, _, _, hc, _, _, _, _, c1, c2, _⟩ := ho.row hi
  obtain ⟨d, _, _, _, _, hd, _, _, _, _, d1, d2, _⟩ := ho.row hj
  have l99 : (99 : Int32) = nI 99 := by decide
  have ex : ∀ {t : Nat}, t ≤ 99 → ∃ x : Nat, x < 99 ∧ (if nI t = 99 then 0 else (nI t).toNatClampNeg) = x ∧ (t = 99 → x = 0) ∧ (t ≠ 99 → x = t) := by
    intro t ht
    by_cases q : t = 99
    · subst q; exact ⟨0, by omega, rfl, fun _ => rfl, fun z => absurd rfl z⟩
    · exact ⟨t, by omega, by rw [if_neg (by rw [l99, nI_eq (by omega) (by decide)]; exact q), nI_clamp (by omega)], fun z => absurd z q, fun _ => rfl⟩
  obtain ⟨x, x1, x2, x3, x4⟩ := ex c2
  obtain ⟨y, y1, y2, y3, y4⟩ := ex d2
  have no : ¬ ((1 : Int32) = 0) := by decide
  have no2 : ¬ ((0 : Int32) = 1) := by decide
  unfold ahV
  rw [rkC_hd (i := i), rkC_hd (i := j), hc, hd, x2, y2]
  rcases hdF_or (A := A) (i := i) with f1 | f1 <;> rcases hdF_or (A := A) (i := j) with f2 | f2 <;> rcases hdO_or (A := A) (i := i) with o1 | o1 <;> rcases hdO_or (A := A) (i := j) with o2 | o2 <;> rw [f1, f2, o1, o2] <;>
    simp only [if_true, if_neg no, if_neg no2, bB, decide_eq_true_eq]
  all_goals first
    | (rw [if_pos (by omega)]; done)
    | (rw [if_neg (by omega)]; done)
    | (by_cases q1 : nI c = 99
       · rw [if_pos q1]
         have := x3 ((nI_eq (by omega) (by decide)).mp (q1.trans l99))
         rw [if_neg (by omega)]
       · rw [if_neg q1]
         have hcx := x4 (fun z => q1 (by rw [z]; decide))
         by_cases q2 : nI d = 99
         · rw [if_pos q2]
           have := y3 ((nI_eq (by omega) (by decide)).mp (q2.trans l99))
           rw [if_pos (by omega)]
         · rw [if_neg q2]
           have hdy := y4 (fun z => q2 (by rw [z]; decide))
           by_cases q3 : nI c ≤ nI d
           · rw [if_pos q3]
             have := (nI_leI (by omega) (by omega)).mp q3
             rw [if_neg (by omega)]
           · rw [if_neg q3]
             have : ¬ c ≤ d := fun z => q3 (nI_le z (by omega))
             rw [if_pos (by omega)])
theorem sc_isAhead {G : Nat → Nat → Int32} {n i j : Nat} (w : zWT G) (ho : hOK n (G 4)) (hi : i ≤ n) (hj : j ≤ n) :
    zden 32 0 [.ref 2, .int (nI i), .int (nI j), .retAddr 0, .retAddr 0, .retAddr 0, .retAddr 0] [] (zSH, G) = some (some (.int (bB (decide (rkC (G 4) j < rkC (G 4) i)))), (zSH, G)) := by
  have hn := ho.1
  have i0 : tget G 3 4 55 (nI i) 0 = G 4 (5 * i) := hd_get (j := 0) w rfl (by decide) (by omega) (by decide)
  have i1 : tget G 3 4 55 (nI i) 1 = G 4 (5 * i + 1) := hd_get (j := 1) w rfl (by decide) (by omega) (by decide)
  have i4 : tget G 3 4 55 (nI i) 4 = G 4 (5 * i + 4) := hd_get (j := 4) w rfl (by decide) (by omega) (by decide)
  have j0 : tget G 3 4 55 (nI j) 0 = G 4 (5 * j) := hd_get (j := 0) w rfl (by decide) (by omega) (by decide)
  have j1 : tget G 3 4 55 (nI j) 1 = G 4 (5 * j + 1) := hd_get (j := 1) w rfl (by decide) (by omega) (by decide)
  have j4 : tget G 3 4 55 (nI j) 4 = G 4 (5 * j + 4) := hd_get (j := 4) w rfl (by decide) (by omega) (by decide)
  rw [← ahV_eq ho hi hj, B_Ho_isAhead_0, i0, ite_z]
  refine Eq.trans B_Ho_isAhead_18 ?_
  rw [i1, ite_z]
  refine Eq.trans B_Ho_isAhead_37 ?_
  rw [j0, ite_z]
  refine Eq.trans (B_Ho_isAhead_58 (zb_01 hdF_or)) ?_
  rw [j1, ite_z]
  unfold ahV
  show (if hdF (G 4) i = hdF (G 4) j then zden 32 83 _ [.int (hdO (G 4) j), .int (hdO (G 4) i)] _ else _) = _
  by_cases c1 : hdF (G 4) i = hdF (G 4) j
  · rw [if_pos c1, if_pos c1]
    refine Eq.trans (B_Ho_isAhead_83 (zb_01 hdO_or)) ?_
    rw [i4, j4]
    by_cases c2 : hdO (G 4) i = hdO (G 4) j
    · rw [if_pos c2, if_pos c2]
      by_cases c3 : G 4 (5 * i + 4) = 99
      · rw [if_pos c3, if_pos c3]
        refine Eq.trans B_Ho_isAhead_125 ?_
        by_cases c4 : G 4 (5 * j + 4) = 99
        · rw [if_neg (fun z => z c4), if_pos c3]
        · rw [if_pos c4]
      · rw [if_neg c3, if_neg c3]
        by_cases c4 : G 4 (5 * j + 4) = 99
        · rw [if_neg (fun z => z c4), if_pos c4]
          exact B_Ho_isAhead_125.trans ((if_neg (fun z => z c4)).trans (if_neg c3))
        · rw [if_pos c4, if_neg c4]
          by_cases c5 : G 4 (5 * i + 4) ≤ G 4 (5 * j + 4)
          · rw [if_pos c5, if_pos c5]
          · rw [if_neg c5, if_neg c5]
    · rw [if_neg c2, if_neg c2]
      rfl
  · rw [if_neg c1, if_neg c1]
    rfl
/-- r is the row furthest ahead of those before i -/
def selK (F : Nat → Bool) (K : Nat → Nat) (i : Nat) (r : Int32) : Prop :=
  (r = -1 ∧ ∀ j, j < i → F j = true → False) ∨ (∃ h, h < i ∧ r = nI h ∧ F h = true ∧ ∀ j, j < i → F j = true → K j ≤ K h)
theorem sc_kept_loop {G : Nat → Nat → Int32} {n g : Nat} (w : zWT G) (ho : hOK n (G 4)) (i3 : G 2 3 = nI (n + 1)) (hg : g < 12) : ∀ (d i : Nat) (x : Int32), i + d = n + 1 → selK (fitB (G 4) (G 6) g) (rkC (G 4)) i x →
    ∃ r : Int32, zden 31 4 [.ref 2, .int (nI g), .int x, .int (nI i)] [] (zSH, G) = some (some (.int r), (zSH, G)) ∧ selK (fitB (G 4) (G 6) g) (rkC (G 4)) (n + 1) r := by
  have hn := ho.1
  intro d
  induction d with
  | zero =>
    intro i x h hs
    have h : i = n + 1 := by omega
    subst h
    exact ⟨x, by rw [B_Ho_keptRow_4, if_pos (by rw [i3]; exact Int32.le_refl _)], hs⟩
  | succ d ih =>
    intro i x h hs
    have hc : zden 31 4 [.ref 2, .int (nI g), .int x, .int (nI i)] [] (zSH, G) = _ := B_Ho_keptRow_4
    rw [if_neg (by rw [i3]; exact nI_ge (by omega) (by omega)), sc_isFitting w (by omega) hg, zaft_same] at hc
    have hc := hc.trans B_Ho_keptRow_18
    have skip : ∀ y : Int32, zden 31 36 [.ref 2, .int (nI g), .int y, .int (nI i)] [] (zSH, G) = zden 31 4 [.ref 2, .int (nI g), .int y, .int (nI (i + 1))] [] (zSH, G) := fun y => by rw [B_Ho_keptRow_36, nI_1]
    have take : zden 31 34 [.ref 2, .int (nI g), .int x, .int (nI i)] [] (zSH, G) = zden 31 4 [.ref 2, .int (nI g), .int (nI i), .int (nI (i + 1))] [] (zSH, G) := by rw [B_Ho_keptRow_34, skip]
    by_cases hF : fitB (G 4) (G 6) g i = true
    · rw [hF, if_neg (by decide)] at hc
      rcases hs with ⟨s1, s2⟩ | ⟨k, k1, k2, k3, k4⟩
      · subst s1
        rw [if_pos (by decide)] at hc
        obtain ⟨r, q1, q2⟩ := ih (i + 1) (nI i) (by omega) (.inr ⟨i, by omega, rfl, hF, fun j j1 j2 => by
          by_cases e : j = i
          · subst e; exact Nat.le_refl _
          · exact (s2 j (by omega) j2).elim⟩)
        exact ⟨r, hc.trans (take.trans q1), q2⟩
      · subst k2
        rw [if_neg (nI_pos (by omega)), sc_isAhead w ho (by omega) (by omega), zaft_same] at hc
        have hc := hc.trans B_Ho_keptRow_31
        by_cases hl : rkC (G 4) i < rkC (G 4) k
        · rw [if_pos (by rw [decide_eq_true hl]; decide)] at hc
          obtain ⟨r, q1, q2⟩ := ih (i + 1) (nI k) (by omega) (.inr ⟨k, by omega, rfl, k3, fun j j1 j2 => by
            by_cases e : j = i
            · subst e; omega
            · exact k4 j (by omega) j2⟩)
          exact ⟨r, hc.trans ((skip _).trans q1), q2⟩
        · rw [if_neg (by rw [decide_eq_false hl]; decide)] at hc
          obtain ⟨r, q1, q2⟩ := ih (i + 1) (nI i) (by omega) (.inr ⟨i, by omega, rfl, hF, fun j j1 j2 => by
            by_cases e : j = i
            · subst e; exact Nat.le_refl _
            · have := k4 j (by omega) j2
              omega⟩)
          exact ⟨r, hc.trans (take.trans q1), q2⟩
    · have hF' : fitB (G 4) (G 6) g i = false := by simpa using hF
      rw [hF', if_pos (by decide)] at hc
      obtain ⟨r, q1, q2⟩ := ih (i + 1) x (by omega) (by
        rcases hs with ⟨s1, s2⟩ | ⟨k, k1, k2, k3, k4⟩
        · refine .inl ⟨s1, fun j j1 j2 => ?_⟩
          by_cases e : j = i
          · subst e; exact hF j2
          · exact s2 j (by omega) j2
        · refine .inr ⟨k, by omega, k2, k3, fun j j1 j2 => ?_⟩
          by_cases e : j = i
          · subst e; exact absurd j2 hF
          · exact k4 j (by omega) j2)
      exact ⟨r, hc.trans ((skip _).trans q1), q2⟩
theorem fit_last {n g : Nat} {A B : Nat → Int32} (ho : hOK n A) : fitB A B g n = true := by
  obtain ⟨_, _, ⟨h4, h5, _⟩, _⟩ := ho
  unfold fitB
  rw [h4, h5]
  rfl
/-- the first of the headings that fit a good -/
def isTop (A B : Nat → Int32) (n g h : Nat) : Prop := h ≤ n ∧ fitB A B g h = true ∧ ∀ j, j ≤ n → fitB A B g j = true → rkC A j ≤ rkC A h
noncomputable def topF (A B : Nat → Int32) (n g : Nat) : Nat := Classical.epsilon (isTop A B n g)
theorem isTop_inj {A B : Nat → Int32} {n g h h' : Nat} (ho : hOK n A) (a : isTop A B n g h) (b : isTop A B n g h') : h = h' := by
  have e1 := a.2.2 h' b.1 b.2.1
  have e2 := b.2.2 h a.1 a.2.1
  exact rk_inj ho ho.2.2.2 a.1 b.1 (by omega)
theorem topF_eq {A B : Nat → Int32} {n g h : Nat} (ho : hOK n A) (a : isTop A B n g h) : topF A B n g = h := isTop_inj ho (Classical.epsilon_spec ⟨h, a⟩) a
theorem sc_top0 {G : Nat → Nat → Int32} {n g : Nat} (w : zWT G) (ho : hOK n (G 4)) (i3 : G 2 3 = nI (n + 1)) (hg : g < 12) :
    ∃ h, isTop (G 4) (G 6) n g h ∧ zden 24 0 [.ref 2, .int (nI g), .int 1000, .retAddr 0, .retAddr 0, .retAddr 0, .retAddr 0] [] (zSH, G) = some (some (.int (nI h)), (zSH, G)) := by
  obtain ⟨r, x, q1, q2⟩ := sc_fittingRow (b := 1000) w ho i3 hg (by omega)
  have hl := fit_last (B := G 6) (g := g) ho
  rcases q2 with ⟨_, _, z⟩ | ⟨h, h1, h2, h3, h4, h5, h6⟩
  · exact absurd (by have := rk_le ho (Nat.le_refl n); omega) (z n (by omega) hl)
  · subst h2
    exact ⟨h, ⟨by omega, h4, fun j j1 j2 => h6 j (by omega) j2 (by have := rk_le ho j1; omega)⟩, by rw [show (1000 : Int32) = nI 1000 by decide]; exact q1⟩
theorem topF_is {G : Nat → Nat → Int32} {n g : Nat} (w : zWT G) (ho : hOK n (G 4)) (i3 : G 2 3 = nI (n + 1)) (hg : g < 12) : isTop (G 4) (G 6) n g (topF (G 4) (G 6) n g) := by
  obtain ⟨h, a, _⟩ := sc_top0 w ho i3 hg
  rw [topF_eq ho a]
  exact a
theorem sc_top {G : Nat → Nat → Int32} {n g : Nat} (w : zWT G) (ho : hOK n (G 4)) (i3 : G 2 3 = nI (n + 1)) (hg : g < 12) :
    zden 24 0 [.ref 2, .int (nI g), .int 1000, .retAddr 0, .retAddr 0, .retAddr 0, .retAddr 0] [] (zSH, G) = some (some (.int (nI (topF (G 4) (G 6) n g))), (zSH, G)) := by
  obtain ⟨h, a, q⟩ := sc_top0 w ho i3 hg
  rw [topF_eq ho a]
  exact q
/-- the second way -/
theorem sc_kept {G : Nat → Nat → Int32} {n g : Nat} (w : zWT G) (ho : hOK n (G 4)) (i3 : G 2 3 = nI (n + 1)) (hg : g < 12) :
    zden 31 0 [.ref 2, .int (nI g), .retAddr 0, .retAddr 0] [] (zSH, G) = some (some (.int (nI (topF (G 4) (G 6) n g))), (zSH, G)) := by
  obtain ⟨t, t1, t2⟩ := sc_kept_loop w ho i3 hg (n + 1) 0 (-1) (by omega) (.inl ⟨rfl, fun j hj => by omega⟩)
  have hl := fit_last (B := G 6) (g := g) ho
  rcases t2 with ⟨_, z⟩ | ⟨k, k1, k2, k3, k4⟩
  · exact (z n (by omega) hl).elim
  · subst k2
    rw [topF_eq ho (h := k) ⟨by omega, k3, fun j j1 j2 => k4 j (by omega) j2⟩, B_Ho_keptRow_0]
    exact t1
/-- the origin of a good, as it is found -/
def orgL (P L : Nat → Int32) : Nat → Nat → Int32 → Int32 → Int32 → Int32
  | 0, _, o, _, _ => o
  | d + 1, c, o, m, l => if m < P c then orgL P L d (c + 1) (nI c) (P c) (L c) else if ¬ P c = m then orgL P L d (c + 1) o m l else if L c ≤ l then orgL P L d (c + 1) o m l else orgL P L d (c + 1) (nI c) (P c) (L c)
def orgF (B : Nat → Int32) (g : Nat) : Int32 := orgL (fun c => B (23 * g + 13 + c)) (fun c => B (23 * g + 18 + c)) 5 0 (-15) 0 0
theorem sc_org_loop {G : Nat → Nat → Int32} {g : Nat} (w : zWT G) (hg : g < 12) : ∀ (d c : Nat) (o m l : Int32) (v6 v7 : Value), c + d = 5 →
    zden 28 11 [.ref 2, .int (nI g), .int o, .int m, .int l, .int (nI c), v6, v7] [] (zSH, G) = some (some (.int (orgL (fun c => G 6 (23 * g + 13 + c)) (fun c => G 6 (23 * g + 18 + c)) d c o m l)), (zSH, G)) := by
  intro d
  induction d with
  | zero =>
    intro c o m l v6 v7 h
    have h : c = 5 := by omega
    subst h
    rw [B_Ho_originOf_11, if_pos (by decide)]
    rfl
  | succ d ih =>
    intro c o m l v6 v7 h
    have k13 : (13 : Int32) + nI c = nI (13 + c) := by rw [nIlit_13, nI_add]
    have k18 : (18 : Int32) + nI c = nI (18 + c) := by rw [show (18 : Int32) = nI 18 by decide, nI_add]
    have t1 : tget G 5 6 276 (nI g) (13 + nI c) = G 6 (23 * g + 13 + c) := by rw [gd_get w rfl k13 hg (by omega), ← Nat.add_assoc]
    have t2 : tget G 5 6 276 (nI g) (18 + nI c) = G 6 (23 * g + 18 + c) := by rw [gd_get w rfl k18 hg (by omega), ← Nat.add_assoc]
    rw [B_Ho_originOf_11, if_neg (by rw [nIlit_5]; exact nI_ge (by omega) (by decide)), t1, t2]
    unfold orgL
    by_cases h1 : m < G 6 (23 * g + 13 + c)
    · rw [if_pos h1, if_pos h1, B_Ho_originOf_66, B_Ho_originOf_76, nI_1]
      exact ih (c + 1) _ _ _ _ _ (by omega)
    · rw [if_neg h1, if_neg h1]
      by_cases h2 : G 6 (23 * g + 13 + c) = m
      · have nh2 : ¬ ¬ G 6 (23 * g + 13 + c) = m := fun q => q h2
        simp only [if_neg nh2]
        by_cases h3 : G 6 (23 * g + 18 + c) ≤ l
        · simp only [if_pos h3]
          rw [B_Ho_originOf_76, nI_1]
          exact ih (c + 1) _ _ _ _ _ (by omega)
        · simp only [if_neg h3]
          rw [B_Ho_originOf_66, B_Ho_originOf_76, nI_1]
          exact ih (c + 1) _ _ _ _ _ (by omega)
      · simp only [if_pos h2]
        rw [B_Ho_originOf_76, nI_1]
        exact ih (c + 1) _ _ _ _ _ (by omega)
theorem sc_org {G : Nat → Nat → Int32} {g : Nat} (w : zWT G) (hg : g < 12) : zden 28 0 [.ref 2, .int (nI g), .retAddr 0, .retAddr 0, .retAddr 0, .retAddr 0, .retAddr 0, .retAddr 0] [] (zSH, G) = some (some (.int (orgF (G 6) g)), (zSH, G)) := by
  rw [B_Ho_originOf_0]
  exact sc_org_loop w hg 5 0 (-15) 0 0 (.retAddr 0) (.retAddr 0) rfl
/-- what is known of it -/
theorem orgL_ok {P L : Nat → Nat} : ∀ (d c b m l : Nat) (o : Int32), c + d = 5 → (∀ j, j < 5 → P j ≤ 594 ∧ L j ≤ 6) → (m = 0 ∧ l = 0 ∧ o = -15 ∧ (∀ j, j < c → P j = 0 ∧ L j = 0)) ∨ (o = nI b ∧ b < c ∧ m = P b ∧ l = L b ∧ (0 < P b ∨ 0 < L b) ∧ ∀ j, j < c → P j ≤ P b) →
    (orgL (fun j => nI (P j)) (fun j => nI (L j)) d c o (nI m) (nI l) = -15 ∧ ∀ j, j < 5 → P j = 0 ∧ L j = 0) ∨ ∃ b', b' < 5 ∧ orgL (fun j => nI (P j)) (fun j => nI (L j)) d c o (nI m) (nI l) = nI b' ∧ (0 < P b' ∨ 0 < L b') ∧ ∀ j, j < 5 → P j ≤ P b' := by
  intro d
  induction d with
  | zero =>
    intro c b m l o h hb hi
    have h : c = 5 := by omega
    subst h
    rcases hi with ⟨_, _, i3, i4⟩ | ⟨i1, i2, _, _, i5, i6⟩
    · exact .inl ⟨i3, i4⟩
    · exact .inr ⟨b, i2, i1, i5, i6⟩
  | succ d ih =>
    intro c b m l o h hb hi
    have bc := hb c (by omega)
    have bm : m ≤ 594 ∧ l ≤ 6 := by
      rcases hi with ⟨i1, i2, _⟩ | ⟨_, i2, i3, i4, _⟩
      · omega
      · have := hb b (by omega); omega
    unfold orgL
    by_cases h1 : m < P c
    · rw [if_pos (nI_lt h1 (by omega))]
      refine ih (c + 1) c (P c) (L c) (nI c) (by omega) hb (.inr ⟨rfl, by omega, rfl, rfl, by omega, fun j hj => ?_⟩)
      by_cases e : j = c
      · subst e; exact Nat.le_refl _
      · rcases hi with ⟨_, _, _, i4⟩ | ⟨_, _, i3, _, _, i6⟩
        · have := i4 j (by omega); omega
        · have := i6 j (by omega); omega
    · rw [if_neg (nI_nlt (by omega) (by omega))]
      by_cases h2 : P c = m
      · rw [if_neg (fun q => q (by rw [h2]))]
        by_cases h3 : L c ≤ l
        · rw [if_pos (nI_le h3 (by omega))]
          refine ih (c + 1) b m l o (by omega) hb ?_
          rcases hi with ⟨i1, i2, i3, i4⟩ | ⟨i1, i2, i3, i4, i5, i6⟩
          · refine .inl ⟨i1, i2, i3, fun j hj => ?_⟩
            by_cases e : j = c
            · subst e; omega
            · exact i4 j (by omega)
          · refine .inr ⟨i1, by omega, i3, i4, i5, fun j hj => ?_⟩
            by_cases e : j = c
            · subst e; omega
            · exact i6 j (by omega)
        · rw [if_neg (nI_ge (by omega) (by omega))]
          refine ih (c + 1) c (P c) (L c) (nI c) (by omega) hb (.inr ⟨rfl, by omega, rfl, rfl, by omega, fun j hj => ?_⟩)
          by_cases e : j = c
          · subst e; exact Nat.le_refl _
          · rcases hi with ⟨_, _, _, i4⟩ | ⟨_, _, i3, _, _, i6⟩
            · have := i4 j (by omega); omega
            · have := i6 j (by omega); omega
      · rw [if_pos (by rw [nI_eq (by omega) (by omega)]; exact h2)]
        refine ih (c + 1) b m l o (by omega) hb ?_
        rcases hi with ⟨i1, i2, i3, i4⟩ | ⟨i1, i2, i3, i4, i5, i6⟩
        · exact absurd (show P c = m by omega) h2
        · refine .inr ⟨i1, by omega, i3, i4, i5, fun j hj => ?_⟩
          by_cases e : j = c
          · subst e; omega
          · exact i6 j (by omega)
/-- points of a good: with no origin none, else the origin has the most, and some -/
theorem orgF_ok {B : Nat → Int32} {g : Nat} (h : HRg B g) : ∃ P : Nat → Nat, (∀ c, c < 5 → B (23 * g + 13 + c) = nI (P c) ∧ P c ≤ 594) ∧ ((orgF B g = -15 ∧ ∀ c, c < 5 → P c = 0) ∨ ∃ b, b < 5 ∧ orgF B g = nI b ∧ 0 < P b ∧ ∀ c, c < 5 → P c ≤ P b) := by
  obtain ⟨_, _, _, _, _, _, _, _, _, _, _, _, wn, w1, w2, w3, w4⟩ := h
  have ex : ∀ c, ∃ q : Nat × Nat, c < 5 → q.1 ≤ 99 * wn ∧ q.2 ≤ 6 ∧ B (23 * g + 13 + c) = nI q.1 ∧ B (23 * g + 18 + c) = nI q.2 ∧ (wn = 0 → q.2 = 0) := fun c => by
    by_cases hc : c < 5
    · obtain ⟨p, l, q⟩ := w3 c hc
      exact ⟨(p, l), fun _ => q⟩
    · exact ⟨(0, 0), fun q => absurd q hc⟩
  obtain ⟨Q, hQ⟩ := Classical.axiomOfChoice ex
  have e : orgF B g = orgL (fun j => nI (Q j).1) (fun j => nI (Q j).2) 5 0 (-15) (nI 0) (nI 0) := by
    have cg : ∀ (P L P' L' : Nat → Int32), (∀ j, j < 5 → P j = P' j ∧ L j = L' j) → ∀ (d c : Nat) (o m l : Int32), c + d = 5 → orgL P L d c o m l = orgL P' L' d c o m l := by
      intro P L P' L' hh d
      induction d with
      | zero => intro c o m l _; rfl
      | succ d ih =>
        intro c o m l hc
        unfold orgL
        rw [(hh c (by omega)).1, (hh c (by omega)).2, ih (c + 1) _ _ _ (by omega), ih (c + 1) _ _ _ (by omega)]
    exact cg _ _ _ _ (fun j hj => ⟨(hQ j hj).2.2.1, (hQ j hj).2.2.2.1⟩) 5 0 _ _ _ rfl
  refine ⟨fun c => (Q c).1, fun c hc => ⟨(hQ c hc).2.2.1, by show (Q c).1 ≤ 594; have := (hQ c hc).1; omega⟩, ?_⟩
  have r := orgL_ok (P := fun c => (Q c).1) (L := fun c => (Q c).2) 5 0 0 0 0 (-15) rfl (fun j hj => ⟨by have := (hQ j hj).1; omega, (hQ j hj).2.1⟩) (.inl ⟨rfl, rfl, rfl, fun j hj => by omega⟩)
  rw [← e] at r
  rcases r with ⟨r1, r2⟩ | ⟨b, b1, b2, b3, b4⟩
  · exact .inl ⟨r1, fun c hc => (r2 c hc).1⟩
  · refine .inr ⟨b, b1, b2, ?_, b4⟩
    rcases b3 with b3 | b3
    · exact b3
    · have hw : 0 < wn := by
        rcases Nat.eq_zero_or_pos wn with z | z
        · have := (hQ b b1).2.2.2.2 z; omega
        · exact z
      obtain ⟨c, hc, hn⟩ := w4 hw
      have h0 : (Q c).1 ≠ 0 := fun z => hn (by rw [(hQ c hc).2.2.1, z]; rfl)
      have := b4 c hc
      show 0 < (Q b).1
      omega
/-- the duty of a good without favours; with them -/
noncomputable def tBase (A B : Nat → Int32) (n g : Nat) : Int32 := if B (23 * g + 2) * A (5 * topF A B n g + 2) / 100 < B (23 * g + 1) * A (5 * topF A B n g + 3) then B (23 * g + 1) * A (5 * topF A B n g + 3) else B (23 * g + 2) * A (5 * topF A B n g + 2) / 100
noncomputable def dutV (A B : Nat → Int32) (n g : Nat) (fav : Int32) : Int32 := tBase A B n g - tBase A B n g * fav / 100
theorem tBase_ok {A B : Nat → Int32} {n g : Nat} (ho : hOK n A) (hh : topF A B n g ≤ n) (hq : HRg B g) : ∃ b : Nat, b ≤ 1980 ∧ tBase A B n g = nI b := by
  obtain ⟨cc, f, o, r, k, hcc, hf, hoo, hrr, hkk, c1, c2, f2, o2, r2, k2, _⟩ := ho.row hh
  obtain ⟨_, ⟨ki, ki1, ki2, ki3⟩, ⟨wo, wo1, wo2, wo3⟩, _⟩ := hq
  have b1 : wo * r ≤ 999 * 60 := Nat.mul_le_mul wo2 r2
  have b2 : ki * k ≤ 99 * 20 := Nat.mul_le_mul ki2 k2
  have e1 : nI wo * nI r / 100 = nI (wo * r / 100) := by rw [pk_mul, nIlit_100, pk_div (by omega) (by decide) (by decide)]
  have c3 : wo * r / 100 ≤ 999 * 60 / 100 := Nat.div_le_div_right b1
  unfold tBase
  rw [hrr, hkk, ki3, wo3, e1, pk_mul]
  by_cases q : nI (wo * r / 100) < nI (ki * k)
  · rw [if_pos q]; exact ⟨ki * k, by omega, rfl⟩
  · rw [if_neg q]; exact ⟨wo * r / 100, by omega, rfl⟩
theorem dutV_ok {A B : Nat → Int32} {n g : Nat} {b f : Nat} (hb : b ≤ 1980) (he : tBase A B n g = nI b) (hf : f ≤ 100) : dutV A B n g (nI f) = nI (b - b * f / 100) := by
  have a : b * f ≤ 1980 * 100 := Nat.mul_le_mul hb hf
  have c : b * f / 100 ≤ b := by
    have : b * f ≤ b * 100 := Nat.mul_le_mul (Nat.le_refl _) hf
    omega
  unfold dutV
  rw [he, pk_mul, nIlit_100, pk_div (by omega) (by decide) (by decide), pk_sub c]
theorem sc_dut {G : Nat → Nat → Int32} {n g : Nat} {o fav : Int32} (w : zWT G) (ho : hOK n (G 4)) (i3 : G 2 3 = nI (n + 1)) (hg : g < 12) (hf : tget G 7 8 5 0 o = fav) :
    zden 29 0 [.ref 2, .int (nI g), .int o, .retAddr 0, .retAddr 0, .retAddr 0, .retAddr 0] [] (zSH, G) = some (some (.int (dutV (G 4) (G 6) n g fav)), (zSH, G)) := by
  have hn := ho.1
  have ht := (topF_is w ho i3 hg).1
  have tr : tget G 3 4 55 (nI (topF (G 4) (G 6) n g)) 2 = G 4 (5 * topF (G 4) (G 6) n g + 2) := hd_get (j := 2) w rfl (by decide) (by omega) (by decide)
  have tk : tget G 3 4 55 (nI (topF (G 4) (G 6) n g)) 3 = G 4 (5 * topF (G 4) (G 6) n g + 3) := hd_get (j := 3) w rfl (by decide) (by omega) (by decide)
  have gw : tget G 5 6 276 (nI g) 2 = G 6 (23 * g + 2) := gd_get (j := 2) w rfl (by decide) hg (by decide)
  have gk : tget G 5 6 276 (nI g) 1 = G 6 (23 * g + 1) := gd_get (j := 1) w rfl (by decide) hg (by decide)
  rw [B_Ho_dutyFrom_0, sc_top w ho i3 hg, zaft_same]
  refine Eq.trans B_Ho_dutyFrom_8 ?_
  rw [tr, tk, gw, gk, hf]
  unfold dutV tBase
  rfl
/-- the favour of an origin -/
def favO (C : Nat → Int32) (o : Int32) : Int32 := if o = -15 then 0 else C o.toNatClampNeg
theorem favO_get {G : Nat → Nat → Int32} {o : Int32} (w : zWT G) (ho : o = -15 ∨ ∃ b : Nat, b < 5 ∧ o = nI b) : tget G 7 8 5 0 o = favO (G 8) o := by
  unfold favO
  rcases ho with rfl | ⟨b, hb, rfl⟩
  · rw [if_pos rfl]
    exact tget_neg (by decide)
  · rw [fv_get w rfl hb, if_neg (fun q => by
      have := nI_pos (n := b) (by omega)
      rw [q] at this
      exact this (by decide)), nI_clamp (by omega)]
