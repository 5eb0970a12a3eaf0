-- 44: the heading that fits, both ways of finding it
/-- r is the row furthest ahead of those below b -/
def selI (F : Nat → Bool) (K : Nat → Nat) (b : Nat) (i : Nat) (r x : Int32) : Prop :=
  (r = -1 ∧ x = -1 ∧ ∀ j, j < i → F j = true → ¬ K j < b) ∨ (∃ h, h < i ∧ r = nI h ∧ x = nI (K h) ∧ F h = true ∧ K h < b ∧ ∀ j, j < i → F j = true → K j < b → K j ≤ K h)
theorem sc_fit_loop {G : Nat → Nat → Int32} {v : Nat → Int32} {n g b : Nat} (w : zWT G) (ho : hOK n (G 4) v) (i3 : G 2 3 = nI (n + 1)) (hg : g < 12) (hb : b ≤ 1000) : ∀ (d i : Nat) (x3 x4 : Int32) (v6 : Value), i + d = n + 1 → selI (fitB (G 4) (G 6) g) (rkC (G 4)) b i x3 x4 →
    ∃ r x : Int32, zden 24 8 [.ref 2, .int (nI g), .int (nI b), .int x3, .int x4, .int (nI i), v6] [] (zSH, G) = some (some (.int r), (zSH, G)) ∧ selI (fitB (G 4) (G 6) g) (rkC (G 4)) b (n + 1) r x := by
  have hn := ho.1
  intro d
  induction d with
  | zero =>
    intro i x3 x4 v6 h hs
    have h : i = n + 1 := by omega
    subst h
    exact ⟨x3, x4, by rw [B_Ho_fittingRow_8, if_pos (by rw [i3]; exact Int32.le_refl _)], hs⟩
  | succ d ih =>
    intro i x3 x4 v6 h hs
    have hc : zden 24 8 [.ref 2, .int (nI g), .int (nI b), .int x3, .int x4, .int (nI i), v6] [] (zSH, G) = _ := B_Ho_fittingRow_8
    rw [if_neg (by rw [i3]; exact nI_ge (by omega) (by omega)), sc_isFitting w (by omega) hg, zaft_same] at hc
    have hc := hc.trans B_Ho_fittingRow_24
    have low : ∀ m : Nat, m < 2 ^ 31 → (-1 : Int32) ≤ nI m := fun m hm => Int32.le_trans (by decide) (nI_pos' hm)
    have skip : ∀ s0 : Int32, (s0 ≤ x4 ∨ nI b ≤ s0) → zden 24 37 [.ref 2, .int (nI g), .int (nI b), .int x3, .int x4, .int (nI i), v6] [.int s0] (zSH, G) = zden 24 8 [.ref 2, .int (nI g), .int (nI b), .int x3, .int x4, .int (nI (i + 1)), .int s0] [] (zSH, G) := by
      intro s0 hq
      rw [B_Ho_fittingRow_37, B_Ho_fittingRow_59, nI_1]
      by_cases h1 : nI b ≤ s0
      · rw [if_pos h1]
      · rw [if_neg h1]
        rcases hq with hq | hq
        · rw [if_pos hq]
        · exact absurd hq h1
    by_cases hF : fitB (G 4) (G 6) g i = true
    · have hK := rk_le ho (i := i) (by omega)
      rw [hF, if_neg (by decide), sc_rankOf w ho (by omega), zaft_same] at hc
      have hc := hc.trans B_Ho_fittingRow_33
      by_cases h1 : rkC (G 4) i < b
      · by_cases h2 : nI (rkC (G 4) i) ≤ x4
        · obtain ⟨r, x, q1, q2⟩ := ih (i + 1) x3 x4 (.int (nI (rkC (G 4) i))) (by omega) (by
            rcases hs with ⟨s1, s2, s3⟩ | ⟨k, k1, k2, k3, k4, k5, k6⟩
            · rw [s2] at h2
              exact absurd (Int32.le_trans (nI_pos' (by omega)) h2) (by decide)
            · refine .inr ⟨k, by omega, k2, k3, k4, k5, fun j j1 j2 j3 => ?_⟩
              by_cases e : j = i
              · subst e
                have := rk_le ho (i := k) (by omega)
                rw [k3, nI_leI (by omega) (by omega)] at h2
                exact h2
              · exact k6 j (by omega) j2 j3)
          exact ⟨r, x, hc.trans ((skip _ (.inl h2)).trans q1), q2⟩
        · obtain ⟨r, x, q1, q2⟩ := ih (i + 1) (nI i) (nI (rkC (G 4) i)) (.int (nI (rkC (G 4) i))) (by omega) (by
            refine .inr ⟨i, by omega, rfl, rfl, hF, h1, fun j j1 j2 j3 => ?_⟩
            by_cases e : j = i
            · subst e; exact Nat.le_refl _
            · rcases hs with ⟨s1, s2, s3⟩ | ⟨k, k1, k2, k3, k4, k5, k6⟩
              · exact absurd j3 (s3 j (by omega) j2)
              · have := rk_le ho (i := k) (by omega)
                rw [k3, nI_leI (by omega) (by omega)] at h2
                have := k6 j (by omega) j2 j3
                omega)
          refine ⟨r, x, hc.trans (Eq.trans ?_ q1), q2⟩
          show zden 24 37 _ [.int (nI (rkC (G 4) i))] _ = _
          rw [B_Ho_fittingRow_37, if_neg (nI_ge h1 (by omega)), if_neg h2, B_Ho_fittingRow_59, nI_1]
      · obtain ⟨r, x, q1, q2⟩ := ih (i + 1) x3 x4 (.int (nI (rkC (G 4) i))) (by omega) (by
          rcases hs with ⟨s1, s2, s3⟩ | ⟨k, k1, k2, k3, k4, k5, k6⟩
          · refine .inl ⟨s1, s2, fun j j1 j2 => ?_⟩
            by_cases e : j = i
            · subst e; exact h1
            · exact s3 j (by omega) j2
          · refine .inr ⟨k, by omega, k2, k3, k4, k5, fun j j1 j2 j3 => ?_⟩
            by_cases e : j = i
            · subst e; exact absurd j3 h1
            · exact k6 j (by omega) j2 j3)
        exact ⟨r, x, hc.trans ((skip _ (.inr (nI_le (by omega) (by omega)))).trans q1), q2⟩
    · have hF' : fitB (G 4) (G 6) g i = false := by simpa using hF
      rw [hF', if_pos (by decide)] at hc
      obtain ⟨r, x, q1, q2⟩ := ih (i + 1) x3 x4 (.int (-1)) (by omega) (by
        rcases hs with ⟨s1, s2, s3⟩ | ⟨k, k1, k2, k3, k4, k5, k6⟩
        · refine .inl ⟨s1, s2, fun j j1 j2 => ?_⟩
          by_cases e : j = i
          · subst e; exact absurd j2 hF
          · exact s3 j (by omega) j2
        · refine .inr ⟨k, by omega, k2, k3, k4, k5, fun j j1 j2 j3 => ?_⟩
          by_cases e : j = i
          · subst e; exact absurd j2 hF
          · exact k6 j (by omega) j2 j3)
      have hx4 : (-1 : Int32) ≤ x4 := by
        rcases hs with ⟨s1, s2, s3⟩ | ⟨k, k1, k2, k3, k4, k5, k6⟩
        · rw [s2]; exact Int32.le_refl _
        · rw [k3]; exact low _ (by have := rk_le ho (i := k) (by omega); omega)
      exact ⟨r, x, hc.trans ((skip _ (.inl hx4)).trans q1), q2⟩
theorem sc_fittingRow {G : Nat → Nat → Int32} {v : Nat → Int32} {n g b : Nat} (w : zWT G) (ho : hOK n (G 4) v) (i3 : G 2 3 = nI (n + 1)) (hg : g < 12) (hb : b ≤ 1000) :
    ∃ r x : Int32, zden 24 0 [.ref 2, .int (nI g), .int (nI b), .retAddr 0, .retAddr 0, .retAddr 0, .retAddr 0] [] (zSH, G) = some (some (.int r), (zSH, G)) ∧ selI (fitB (G 4) (G 6) g) (rkC (G 4)) b (n + 1) r x := by
  obtain ⟨r, x, q1, q2⟩ := sc_fit_loop w ho i3 hg hb (n + 1) 0 (-1) (-1) (.retAddr 0) (by omega) (.inl ⟨rfl, rfl, fun j hj => by omega⟩)
  exact ⟨r, x, by rw [B_Ho_fittingRow_0]; exact q1, q2⟩
/-- how many of those that fit are ahead of h -/
def cntF (F : Nat → Bool) (K : Nat → Nat) (h : Nat) : Nat → Nat → Nat
  | 0, _ => 0
  | d + 1, i => (if F i = true ∧ K h < K i then 1 else 0) + cntF F K h d (i + 1)
theorem cntF_succ {F : Nat → Bool} {K : Nat → Nat} {h d i : Nat} : cntF F K h (d + 1) i = (if F i = true ∧ K h < K i then 1 else 0) + cntF F K h d (i + 1) := rfl
theorem sm_cnt_loop {H : Nat → Nat → Int32} {A B : Nat → Int32} {n g h : Nat} {pl : Int32} (ho : hOK n A (H 91)) (hg : g < 12) (hr : HRg B (H 91) g) (hh : h ≤ n) : ∀ (d i m : Nat), i + d = n + 1 →
    ∃ v4 v5 : Value, zden 120 30 [.ref 90, .int (nI g), .int pl, .int (nI h), .int (nI m), .int (nI i)] [] (zSH, H) = if ¬ nI (m + cntF (fitB A B g) (rkM A) h d i) = pl then zden 120 89 [.ref 90, .int (nI g), .int pl, .int (nI h), v4, v5] [] (zSH, H) else some (some (.int (nI h)), (zSH, H)) := by
  have hn := ho.1
  have hv : H 91 1 = nI n := ho.2.1
  intro d
  induction d with
  | zero =>
    intro i m hi
    have hi : i = n + 1 := by omega
    subst hi
    exact ⟨_, _, by rw [B_M_fitting_30, if_pos (by rw [hv]; exact nI_lt (by omega) (by omega))]; rfl⟩
  | succ d ih =>
    intro i m hi
    have hc : zden 120 30 [.ref 90, .int (nI g), .int pl, .int (nI h), .int (nI m), .int (nI i)] [] (zSH, H) = _ := B_M_fitting_30
    rw [if_neg (by rw [hv]; exact nI_nlt (by omega) (by omega)), sm_fits ho (by omega) hg hr, zaft_same] at hc
    have hc := hc.trans B_M_fitting_50
    have add : ∀ k : Nat, zden 120 72 [.ref 90, .int (nI g), .int pl, .int (nI h), .int (nI m), .int (nI i)] [.int (nI k), .int (nI m)] (zSH, H) = zden 120 30 [.ref 90, .int (nI g), .int pl, .int (nI h), .int (nI (m + k)), .int (nI (i + 1))] [] (zSH, H) := fun k => by
      rw [B_M_fitting_72, nI_add, nI_1]
    by_cases hF : fitB A B g i = true
    · rw [hF, if_neg (by decide), sm_rank ho (by omega), zaft_same] at hc
      have hc := hc.trans B_M_fitting_59
      rw [sm_rank ho hh, zaft_same] at hc
      have hc := hc.trans B_M_fitting_64
      have k1 := rk_le ho (i := i) (by omega)
      have k2 := rk_le ho hh
      by_cases hl : rkM A h < rkM A i
      · rw [if_neg (nI_ge hl (by omega))] at hc
        obtain ⟨v4, v5, q⟩ := ih (i + 1) (m + 1) (by omega)
        refine ⟨v4, v5, hc.trans ((add 1).trans (q.trans ?_))⟩
        have e : cntF (fitB A B g) (rkM A) h (d + 1) i = 1 + cntF (fitB A B g) (rkM A) h d (i + 1) := by rw [cntF_succ, if_pos ⟨hF, hl⟩]
        rw [e, Nat.add_assoc]
      · rw [if_pos (nI_le (by omega) (by omega))] at hc
        obtain ⟨v4, v5, q⟩ := ih (i + 1) m (by omega)
        refine ⟨v4, v5, hc.trans (B_M_fitting_71.trans ((add 0).trans (q.trans ?_)))⟩
        have e : cntF (fitB A B g) (rkM A) h (d + 1) i = cntF (fitB A B g) (rkM A) h d (i + 1) := by rw [cntF_succ, if_neg (fun z => hl z.2), Nat.zero_add]
        rw [e]
    · have hF' : fitB A B g i = false := by simpa using hF
      rw [hF', if_pos (by decide)] at hc
      obtain ⟨v4, v5, q⟩ := ih (i + 1) m (by omega)
      refine ⟨v4, v5, hc.trans (B_M_fitting_71.trans ((add 0).trans (q.trans ?_)))⟩
      have e : cntF (fitB A B g) (rkM A) h (d + 1) i = cntF (fitB A B g) (rkM A) h d (i + 1) := by rw [cntF_succ, if_neg (fun z => hF z.1), Nat.zero_add]
      rw [e]
/-- the first of those that fit with just so many ahead -/
def selM (F : Nat → Bool) (K : Nat → Nat) (n : Nat) (pl : Int32) (i : Nat) (r : Int32) : Prop :=
  (r = -1 ∧ ∀ j, i ≤ j → j ≤ n → F j = true → nI (cntF F K j (n + 1) 0) ≠ pl) ∨ (∃ h, h ≤ n ∧ r = nI h ∧ F h = true ∧ nI (cntF F K h (n + 1) 0) = pl)
theorem sm_fit_loop {H : Nat → Nat → Int32} {A B : Nat → Int32} {n g : Nat} {pl : Int32} (ho : hOK n A (H 91)) (hg : g < 12) (hr : HRg B (H 91) g) : ∀ (d i : Nat) (v4 v5 : Value), i + d = n + 1 →
    ∃ r : Int32, zden 120 2 [.ref 90, .int (nI g), .int pl, .int (nI i), v4, v5] [] (zSH, H) = some (some (.int r), (zSH, H)) ∧ selM (fitB A B g) (rkM A) n pl i r := by
  have hn := ho.1
  have hv : H 91 1 = nI n := ho.2.1
  intro d
  induction d with
  | zero =>
    intro i v4 v5 hi
    have hi : i = n + 1 := by omega
    subst hi
    exact ⟨-1, by rw [B_M_fitting_2, if_pos (by rw [hv]; exact nI_lt (by omega) (by omega))], .inl ⟨rfl, fun j h1 h2 => by omega⟩⟩
  | succ d ih =>
    intro i v4 v5 hi
    have hc : zden 120 2 [.ref 90, .int (nI g), .int pl, .int (nI i), v4, v5] [] (zSH, H) = _ := B_M_fitting_2
    rw [if_neg (by rw [hv]; exact nI_nlt (by omega) (by omega)), sm_fits ho (by omega) hg hr, zaft_same] at hc
    have hc := hc.trans B_M_fitting_18
    have next : ∀ v4 v5 : Value, zden 120 89 [.ref 90, .int (nI g), .int pl, .int (nI i), v4, v5] [] (zSH, H) = zden 120 2 [.ref 90, .int (nI g), .int pl, .int (nI (i + 1)), v4, v5] [] (zSH, H) := fun v4 v5 => by rw [B_M_fitting_89, nI_1]
    have more : ∀ r, (fitB A B g i = true → nI (cntF (fitB A B g) (rkM A) i (n + 1) 0) ≠ pl) → selM (fitB A B g) (rkM A) n pl (i + 1) r → selM (fitB A B g) (rkM A) n pl i r := by
      intro r hq hs
      rcases hs with ⟨s1, s2⟩ | s
      · refine .inl ⟨s1, fun j j1 j2 j3 => ?_⟩
        by_cases e : j = i
        · subst e; exact hq j3
        · exact s2 j (by omega) j2 j3
      · exact .inr s
    by_cases hF : fitB A B g i = true
    · rw [hF, if_pos (by decide)] at hc
      obtain ⟨w4, w5, q⟩ := sm_cnt_loop (pl := pl) ho hg hr (h := i) (by omega) (n + 1) 0 0 (by omega)
      rw [Nat.zero_add] at q
      have hc := Eq.trans hc q
      by_cases he : nI (cntF (fitB A B g) (rkM A) i (n + 1) 0) = pl
      · rw [if_neg (fun z => z he)] at hc
        exact ⟨nI i, hc, .inr ⟨i, by omega, rfl, hF, he⟩⟩
      · rw [if_pos he, next] at hc
        obtain ⟨r, r1, r2⟩ := ih (i + 1) w4 w5 (by omega)
        exact ⟨r, hc.trans r1, more r (fun _ => he) r2⟩
    · have hF' : fitB A B g i = false := by simpa using hF
      rw [hF', if_neg (fun z => z (by decide)), next] at hc
      obtain ⟨r, r1, r2⟩ := ih (i + 1) v4 v5 (by omega)
      exact ⟨r, hc.trans r1, more r (fun z => absurd z hF) r2⟩
theorem sm_fitting {H : Nat → Nat → Int32} {A B : Nat → Int32} {n g : Nat} {pl : Int32} (ho : hOK n A (H 91)) (hg : g < 12) (hr : HRg B (H 91) g) :
    ∃ r : Int32, zden 120 0 [.ref 90, .int (nI g), .int pl, .retAddr 0, .retAddr 0, .retAddr 0] [] (zSH, H) = some (some (.int r), (zSH, H)) ∧ selM (fitB A B g) (rkM A) n pl 0 r := by
  obtain ⟨r, r1, r2⟩ := sm_fit_loop (pl := pl) ho hg hr (n + 1) 0 (.retAddr 0) (.retAddr 0) (by omega)
  exact ⟨r, by rw [B_M_fitting_0]; exact r1, r2⟩
