-- 77: the model reads words
theorem wd_let : ∀ v, v < 9 → ∀ t, t < wl v → (zTB (3 + v)).getD t 0 = nI ((zTB (3 + v)).getD t 0).toNatClampNeg ∧ ((zTB (3 + v)).getD t 0).toNatClampNeg < 200 ∧ 0 < ((zTB (3 + v)).getD t 0).toNatClampNeg := by decide +kernel
theorem wd_two : ∀ v, v < 9 → ∀ i, i < 9 → v ≠ i → (zTB (3 + v)).getD 0 0 = (zTB (3 + i)).getD 0 0 → (zTB (3 + v)).getD 1 0 ≠ (zTB (3 + i)).getD 1 0 := by decide +kernel
theorem wd_nx {m q v t : Nat} {s : Nat → Nat} (h : sTx m s) (hv : v < 9) (ht : t < wl v) : (zTB (3 + v)).getD t 0 = nx m s q ↔ (zTB (3 + v)).getD t 0 = nI (s q) := by
  obtain ⟨l3, l4, l5⟩ := wd_let v hv t ht
  have hsq := h.le q
  have := nx_eq (p := q) h l5 (show ((zTB (3 + v)).getD t 0).toNatClampNeg < 2 ^ 31 by omega)
  rw [← l3] at this
  constructor
  · intro z
    rw [l3, nI_eq (by omega) (by omega)]
    exact (this.mp z.symm).symm
  · intro z
    rw [l3, nI_eq (by omega) (by omega)] at z
    exact (this.mpr z.symm).symm
/-- the word found so far, among those before w -/
def wJ (x y : Int32) (w : Nat) (a : Int32) : Prop := (a = -1 ∧ ∀ v, v < w → (zTB (3 + v)).getD 0 0 ≠ x) ∨ (∃ i, i < w ∧ a = nI i ∧ (zTB (3 + i)).getD 0 0 = x ∧ ∀ v, v < w → v ≠ i → (zTB (3 + v)).getD 0 0 = x → (zTB (3 + v)).getD 1 0 ≠ y)
theorem sm_scan {x y : Int32} {H : Nat → Nat → Int32} (hc : zMc H) : ∀ (d w : Nat) (a : Int32), w + d = 9 → wJ x y w a →
    ∃ a' : Int32, zden 158 39 [.ref 90, .int x, .int y, .int a, .int (nI w)] [] (zSH, H) = (if 0 ≤ a' then zden 158 107 [.ref 90, .int x, .int y, .int a', .int (nI 9)] [.int 0, .ref 90] (zSH, H) else zden 158 107 [.ref 90, .int x, .int y, .int a', .int (nI 9)] [.int 1, .ref 90] (zSH, H)) ∧ wJ x y 9 a' := by
  obtain ⟨_, _, c3, c4⟩ := hc
  intro d
  induction d with
  | zero =>
    intro w a hw hj
    have hw : w = 9 := by omega
    subst hw
    have hb : (9 : Int32) ≤ nI 9 := by decide
    exact ⟨a, by rw [B_M_word_39 (fun z => absurd hb z) (fun z => absurd hb z) (fun z => absurd hb z) (fun z => absurd hb z), if_pos hb], hj⟩
  | succ d ih =>
    intro w a hw hj
    have hl := wl_bd w (by omega)
    have hA := wA_ok w (by omega)
    have e1 : H 101 (nI w).toNatClampNeg = nI (wA w) := by rw [nI_clamp (by omega)]; exact c4 w (by omega)
    have f0 : H 100 (H 101 (nI w).toNatClampNeg).toNatClampNeg = (zTB (3 + w)).getD 0 0 := by
      rw [e1, nI_clamp (by omega)]
      exact c3 w (by omega) 0 (by omega)
    have f1 : H 100 ((H 101 (nI w).toNatClampNeg) + 1).toNatClampNeg = (zTB (3 + w)).getD 1 0 := by
      rw [e1, nI_1, nI_clamp (by omega)]
      exact c3 w (by omega) 1 (by omega)
    have z1 : zin (nI w) 10 = true := zin_nI (by omega) (by decide)
    have z2 : zin (H 101 (nI w).toNatClampNeg) 52 = true := by rw [e1]; exact zin_nI (by omega) (by decide)
    have z3 : zin ((H 101 (nI w).toNatClampNeg) + 1) 52 = true := by rw [e1, nI_1]; exact zin_nI (by omega) (by decide)
    have hcc : zden 158 39 [.ref 90, .int x, .int y, .int a, .int (nI w)] [] (zSH, H) = _ := B_M_word_39 (fun _ => z1) (fun _ => z2) (fun _ _ _ => z1) (fun _ _ _ => z3)
    rw [if_neg (by rw [nIlit_9]; exact nI_ge (by omega) (by decide)), f0, f1] at hcc
    have keep : wJ x y (w + 1) a → ∃ a' : Int32, zden 158 89 [.ref 90, .int x, .int y, .int a, .int (nI w)] [] (zSH, H) = (if 0 ≤ a' then zden 158 107 [.ref 90, .int x, .int y, .int a', .int (nI 9)] [.int 0, .ref 90] (zSH, H) else zden 158 107 [.ref 90, .int x, .int y, .int a', .int (nI 9)] [.int 1, .ref 90] (zSH, H)) ∧ wJ x y 9 a' := fun hj' => by
      obtain ⟨a', q1, q2⟩ := ih (w + 1) a (by omega) hj'
      exact ⟨a', by rw [B_M_word_89, B_M_word_90, nI_1]; exact q1, q2⟩
    have take : wJ x y (w + 1) (nI w) → ∃ a' : Int32, zden 158 84 [.ref 90, .int x, .int y, .int a, .int (nI w)] [] (zSH, H) = (if 0 ≤ a' then zden 158 107 [.ref 90, .int x, .int y, .int a', .int (nI 9)] [.int 0, .ref 90] (zSH, H) else zden 158 107 [.ref 90, .int x, .int y, .int a', .int (nI 9)] [.int 1, .ref 90] (zSH, H)) ∧ wJ x y 9 a' := fun hj' => by
      obtain ⟨a', q1, q2⟩ := ih (w + 1) (nI w) (by omega) hj'
      exact ⟨a', by rw [B_M_word_84, B_M_word_90, nI_1]; exact q1, q2⟩
    by_cases b : (zTB (3 + w)).getD 0 0 = x
    · rw [if_neg (fun z => z b)] at hcc
      rcases hj with ⟨j1, j2⟩ | ⟨i, j1, j2, j3, j4⟩
      · rw [if_pos (by rw [j1]; decide)] at hcc
        rw [hcc]
        refine take (.inr ⟨w, by omega, rfl, b, fun v h1 h2 h3 => ?_⟩)
        exact absurd h3 (j2 v (by omega))
      · rw [if_neg (by rw [j2]; exact nI_pos (by omega))] at hcc
        by_cases e : (zTB (3 + w)).getD 1 0 = y
        · rw [if_neg (fun z => z e)] at hcc
          rw [hcc]
          refine take (.inr ⟨w, by omega, rfl, b, fun v h1 h2 h3 => ?_⟩)
          by_cases vi : v = i
          · subst vi
            rw [← e]
            exact wd_two v (by omega) w (by omega) h2 (h3.trans b.symm)
          · exact j4 v (by omega) vi h3
        · rw [if_pos e] at hcc
          rw [hcc]
          refine keep (.inr ⟨i, by omega, j2, j3, fun v h1 h2 h3 => ?_⟩)
          by_cases vw : v = w
          · subst vw; exact e
          · exact j4 v (by omega) h2 h3
    · rw [if_pos b] at hcc
      rw [hcc]
      refine keep ?_
      rcases hj with ⟨j1, j2⟩ | ⟨i, j1, j2, j3, j4⟩
      · refine .inl ⟨j1, fun v hv => ?_⟩
        by_cases vw : v = w
        · subst vw; exact b
        · exact j2 v (by omega)
      · refine .inr ⟨i, by omega, j2, j3, fun v h1 h2 h3 => ?_⟩
        by_cases vw : v = w
        · subst vw; exact absurd h3 b
        · exact j4 v (by omega) h2 h3
theorem rdWF_i {s : Nat → Nat} {p i : Nat} (hi : i < 9) (ho : ∀ w, w < 9 → w ≠ i → al s p w < wl w ∧ al s p w ≤ al s p i) : ∀ (d k f : Nat), k + d = 9 → f ≤ al s p i → (i < k → f = al s p i ∧ al s p i ≠ wl i) → rdWF s p d k f = if al s p i = wl i then (i, p + wl i, false) else (0, p + al s p i, true) := by
  intro d
  induction d with
  | zero =>
    intro k f hk hf hik
    obtain ⟨e1, e2⟩ := hik (by omega)
    rw [if_neg e2, ← e1]
    rfl
  | succ d ih =>
    intro k f hk hf hik
    rw [rdWF_succ]
    by_cases c : k = i
    · subst c
      by_cases e : al s p k = wl k
      · rw [if_pos e, if_pos e, e]
      · rw [if_neg e]
        refine ih (k + 1) _ (by omega) (by split <;> omega) (fun _ => ⟨by split <;> omega, e⟩)
    · obtain ⟨o1, o2⟩ := ho k (by omega) c
      rw [if_neg (by omega)]
      refine ih (k + 1) _ (by omega) (by split <;> omega) (fun z => ?_)
      obtain ⟨e1, e2⟩ := hik (by omega)
      exact ⟨by split <;> omega, e2⟩
/-- the word's signs are marked -/
theorem sm_marks {m p i : Nat} {x y : Int32} {s : Nat → Nat} (hi : i < 9) : ∀ (d t : Nat) (H : Nat → Nat → Int32), t + d = wl i → zMc H → mSt m s (p + t, false) H →
    ∃ H' : Nat → Nat → Int32, zden 158 129 [.ref 90, .int x, .int y, .int (nI i), .int (nI (wA i + t))] [] (zSH, H) = some (some (.int (nI i)), (zSH, H')) ∧ mSt m s (if alk (3 + i) s p d t = wl i then (p + wl i, false) else (p + alk (3 + i) s p d t, true)) H' ∧ mFr H H' ∧ H' 97 = H 97 := by
  have hA := wA_ok i hi
  have hl := wl_bd i hi
  intro d
  induction d with
  | zero =>
    intro t H ht hc h
    have ht : t = wl i := by omega
    subst ht
    have h5 : ¬ ¬ H 90 20 = 0 := fun z => z (by rw [h.2.2.2.2.1]; rfl)
    have e1 : H 101 (nI i + 1).toNatClampNeg = nI (wA i + wl i) := by rw [nI_1, nI_clamp (by omega), ← hA.1]; exact hc.2.2.2 (i + 1) (by omega)
    have hb : H 101 (nI i + 1).toNatClampNeg ≤ nI (wA i + wl i) := by rw [e1]; exact Int32.le_refl _
    refine ⟨H, ?_, ?_, mFr.rfl', rfl⟩
    · rw [B_M_word_129 (fun _ => by rw [nI_1]; exact zin_nI (by omega) (by decide)) (fun _ z => absurd hb z), if_neg h5, if_pos hb]
    · rw [if_pos (show alk (3 + i) s p 0 (wl i) = wl i from rfl)]; exact h
  | succ d ih =>
    intro t H ht hc h
    have h5 : ¬ ¬ H 90 20 = 0 := fun z => z (by rw [h.2.2.2.2.1]; rfl)
    have e1 : H 101 (nI i + 1).toNatClampNeg = nI (wA i + wl i) := by rw [nI_1, nI_clamp (by omega), ← hA.1]; exact hc.2.2.2 (i + 1) (by omega)
    have hb : ¬ H 101 (nI i + 1).toNatClampNeg ≤ nI (wA i + t) := by rw [e1]; exact nI_ge (by omega) (by omega)
    obtain ⟨l1, l2, l3⟩ := wd_let i hi t (by omega)
    have e2 : H 100 (nI (wA i + t)).toNatClampNeg = nI ((zTB (3 + i)).getD t 0).toNatClampNeg := by rw [nI_clamp (by omega), hc.2.2.1 i hi t (by omega), ← l1]
    have hs := h.1.le (p + t)
    obtain ⟨H1, g1, g2, g3, g4⟩ := sm_mark h l3 (show ((zTB (3 + i)).getD t 0).toNatClampNeg < 2 ^ 31 by omega)
    have hcc : zden 158 129 [.ref 90, .int x, .int y, .int (nI i), .int (nI (wA i + t))] [] (zSH, H) = zden 158 129 [.ref 90, .int x, .int y, .int (nI i), .int (nI (wA i + (t + 1)))] [] (zSH, H1) := by
      rw [B_M_word_129 (fun _ => by rw [nI_1]; exact zin_nI (by omega) (by decide)) (fun _ _ => zin_nI (by omega) (by decide)), if_neg h5, if_neg hb, e2, g1, zaft_same]
      refine Eq.trans B_M_word_160 ?_
      rw [nI_1, Nat.add_assoc]
    rw [alk_succ]
    have es : stS s ((zTB (3 + i)).getD t 0).toNatClampNeg (p + t, false) = ((rdS s ((zTB (3 + i)).getD t 0).toNatClampNeg (p + t)).2.1, (rdS s ((zTB (3 + i)).getD t 0).toNatClampNeg (p + t)).2.2) := rfl
    rw [es] at g2
    unfold rdS at g2
    by_cases c : (zTB (3 + i)).getD t 0 = nI (s (p + t))
    · rw [if_pos c]
      have c2 : s (p + t) = ((zTB (3 + i)).getD t 0).toNatClampNeg := by rw [c, nI_clamp (by omega)]
      rw [if_pos c2] at g2
      obtain ⟨H', k1, k2, k3, k4⟩ := ih (t + 1) H1 (by omega) (hc.fr g3) g2
      exact ⟨H', hcc.trans k1, k2, g3.trans k3, k4.trans g4⟩
    · rw [if_neg c, if_neg (by omega)]
      have c2 : ¬ s (p + t) = ((zTB (3 + i)).getD t 0).toNatClampNeg := fun z => c (by rw [z]; exact l1)
      rw [if_neg c2] at g2
      have h6 : ¬ H1 90 20 = 0 := by rw [g2.2.2.2.2.1]; exact bB_t
      refine ⟨H1, ?_, g2, g3, g4⟩
      rw [hcc, B_M_word_129 (fun z => absurd h6 z) (fun z => absurd h6 z), if_pos h6]
theorem sm_word {m p : Nat} {s : Nat → Nat} {H : Nat → Nat → Int32} (hc : zMc H) (h : mSt m s (p, false) H) :
    ∃ (v : Int32) (H' : Nat → Nat → Int32), zden 158 0 [.ref 90, .retAddr 0, .retAddr 0, .retAddr 0, .retAddr 0] [] (zSH, H) = some (some (.int v), (zSH, H')) ∧ mSt m s ((rdW s p).2.1, (rdW s p).2.2) H' ∧ mFr H H' ∧ H' 97 = H 97 ∧ ((rdW s p).2.2 = false → v = nI (rdW s p).1) := by
  have h1 := h.1
  have hm := h1.1
  have hp : p ≤ m := h.2.1
  have h3 : H 90 19 = nI m := h.2.2.1
  have h4 : H 90 18 = nI p := h.2.2.2.1
  have e0 : zden 158 0 [.ref 90, .retAddr 0, .retAddr 0, .retAddr 0, .retAddr 0] [] (zSH, H) = zden 158 39 [.ref 90, .int (nx m s p), .int (nx m s (p + 1)), .int (-1), .int (nI 0)] [] (zSH, H) := by
    rw [B_M_word_0, sm_next h, zaft_same]
    have z : (¬ ((H 90 19) ≤ ((H 90 18) + 1))) → zin ((H 90 18) + 1) 60 = true := fun q => by
      rw [h3, h4, nI_1, nI_leI (by omega) (by omega)] at q
      rw [h4, nI_1]
      exact zin_nI (by omega) (by decide)
    refine Eq.trans (B_M_word_4 z) ?_
    by_cases c : p + 1 < m
    · rw [if_neg (by rw [h3, h4, nI_1]; exact nI_ge c (by omega)), h4, nI_1, nI_clamp (by omega), B_M_word_33, show nx m s (p + 1) = nI (s (p + 1)) by unfold nx; rw [if_pos c], h.2.2.2.2.2 _ c]
      rfl
    · rw [if_pos (by rw [h3, h4, nI_1]; exact nI_le (by omega) (by omega)), B_M_word_33, show nx m s (p + 1) = -1 by unfold nx; rw [if_neg c]]
      rfl
  obtain ⟨a, q1, q2⟩ := sm_scan (x := nx m s p) (y := nx m s (p + 1)) hc 9 0 (-1) (by omega) (.inl ⟨rfl, fun v hv => by omega⟩)
  rw [q1] at e0
  -- how many signs of a word stand there
  have al0 : ∀ v, v < 9 → (zTB (3 + v)).getD 0 0 ≠ nx m s p → al s p v = 0 := fun v hv hn => by
    have hl := wl_bd v hv
    unfold al
    rw [show (zTB (3 + v)).length = (wl v - 1) + 1 by unfold wl at hl ⊢; omega, alk_succ, Nat.add_zero, if_neg (fun z => hn ((wd_nx h1 hv (by omega)).mpr z))]
  have al1 : ∀ v, v < 9 → (zTB (3 + v)).getD 0 0 = nx m s p → 1 ≤ al s p v := fun v hv hn => by
    have hl := wl_bd v hv
    unfold al
    rw [show (zTB (3 + v)).length = (wl v - 1) + 1 by unfold wl at hl ⊢; omega, alk_succ, Nat.add_zero, if_pos ((wd_nx h1 hv (by omega)).mp hn)]
    exact (alk_bd _ _).1
  have al2 : ∀ v, v < 9 → (zTB (3 + v)).getD 0 0 = nx m s p → (zTB (3 + v)).getD 1 0 ≠ nx m s (p + 1) → al s p v = 1 := fun v hv hn h2 => by
    have hl := wl_bd v hv
    unfold al
    rw [show (zTB (3 + v)).length = ((wl v - 2) + 1) + 1 by unfold wl at hl ⊢; omega, alk_succ, Nat.add_zero, if_pos ((wd_nx h1 hv (by omega)).mp hn), Nat.zero_add, alk_succ, if_neg (fun z => h2 ((wd_nx h1 hv (by omega)).mpr z))]
  rcases q2 with ⟨j1, j2⟩ | ⟨i, j1, j2, j3, j4⟩
  · subst j1
    rw [if_neg nlow] at e0
    have ew : rdW s p = (0, p, true) := by
      have z0 := al0 0 (by omega) (j2 0 (by omega))
      have := rdWF_i (s := s) (p := p) (i := 0) (by omega) (fun w hw _ => by have hl := wl_bd w hw; have := al0 w hw (j2 w hw); omega) 9 0 0 (by omega) (by omega) (fun z => by omega)
      rw [z0, if_neg (by have hl := wl_bd 0 (by omega); omega)] at this
      exact this
    rw [ew]
    have hst : mSt m s (p, true) (zup H 90 20 1) := by
      obtain ⟨r1, r2, r3, r4, _, r6⟩ := h
      exact ⟨r1, r2, by rw [zup_rk (by decide)]; exact r3, by rw [zup_rk (by decide)]; exact r4, zup_rr, fun j hj => by rw [zup_ro (by decide)]; exact r6 j hj⟩
    have h6 : ¬ (zup H 90 20 1) 90 20 = 0 := by rw [zup_rr]; decide
    refine ⟨-1, zup H 90 20 1, ?_, hst, ⟨fun i a _ => zup_ro a, fun j _ b => zup_rk b⟩, zup_ro (by decide), fun z => Bool.noConfusion (show true = false from z)⟩
    rw [e0, B_M_word_107 (by decide) (fun z => absurd z h6), if_neg h6, B_M_word_127, B_M_word_129 (fun z => absurd h6 z) (fun z => absurd h6 z), if_pos h6]
  · subst j2
    rw [if_pos (nI_pos' (by omega))] at e0
    have hA := wA_ok i j1
    have ew : rdW s p = if al s p i = wl i then (i, p + wl i, false) else (0, p + al s p i, true) := by
      refine rdWF_i j1 (fun w hw hwi => ?_) 9 0 0 (by omega) (by omega) (fun z => by omega)
      have hl := wl_bd w hw
      have a1 := al1 i j1 j3
      by_cases c : (zTB (3 + w)).getD 0 0 = nx m s p
      · have := al2 w hw c (j4 w hw hwi c)
        omega
      · have := al0 w hw c
        omega
    have hst : mSt m s (p + 0, false) (zup H 90 20 0) := by
      obtain ⟨r1, r2, r3, r4, _, r6⟩ := h
      exact ⟨r1, r2, by rw [zup_rk (by decide)]; exact r3, by rw [zup_rk (by decide)]; exact r4, zup_rr, fun j hj => by rw [zup_ro (by decide)]; exact r6 j hj⟩
    have f0 : mFr H (zup H 90 20 0) := ⟨fun i a _ => zup_ro a, fun j _ b => zup_rk b⟩
    obtain ⟨H', k1, k2, k3, k4⟩ := sm_marks (x := nx m s p) (y := nx m s (p + 1)) j1 (wl i) 0 _ (by omega) (hc.fr f0) hst
    refine ⟨nI i, H', ?_, ?_, f0.trans k3, k4.trans (zup_ro (by decide)), ?_⟩
    · have e1 : (zup H 90 20 0) 101 (nI i).toNatClampNeg = nI (wA i + 0) := by rw [zup_ro (by decide), nI_clamp (by omega)]; exact hc.2.2.2 i (by omega)
      rw [e0, B_M_word_107 (by decide) (fun _ => zin_nI (by omega) (by decide)), zup_rr, if_pos rfl, e1, B_M_word_127]
      exact k1
    · have ea : alk (3 + i) s p (wl i) 0 = al s p i := rfl
      rw [ea] at k2
      rw [ew]
      by_cases c : al s p i = wl i
      · rw [if_pos c] at k2 ⊢; exact k2
      · rw [if_neg c] at k2 ⊢; exact k2
    · rw [ew]
      by_cases c : al s p i = wl i
      · rw [if_pos c]; exact fun _ => rfl
      · rw [if_neg c]; exact fun z => Bool.noConfusion (show true = false from z)
