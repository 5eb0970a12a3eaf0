-- 45: both ways find the same
theorem cntF_congr {F : Nat → Bool} {K K' : Nat → Nat} {h : Nat} : ∀ (d i : Nat), (∀ o, i ≤ o → o < i + d → (K h < K o ↔ K' h < K' o)) → cntF F K h d i = cntF F K' h d i := by
  intro d
  induction d with
  | zero => intro i _; rfl
  | succ d ih =>
    intro i hq
    rw [cntF_succ, cntF_succ, ih (i + 1) (fun o h1 h2 => hq o (by omega) (by omega))]
    have e := hq i (by omega) (by omega)
    by_cases h1 : F i = true ∧ K h < K i
    · rw [if_pos h1, if_pos ⟨h1.1, e.mp h1.2⟩]
    · rw [if_neg h1, if_neg (fun z => h1 ⟨z.1, e.mpr z.2⟩)]
theorem cntF_zero {F : Nat → Bool} {K : Nat → Nat} {h : Nat} : ∀ (d i : Nat), (∀ o, i ≤ o → o < i + d → F o = true → ¬ K h < K o) → cntF F K h d i = 0 := by
  intro d
  induction d with
  | zero => intro i _; rfl
  | succ d ih =>
    intro i hq
    rw [cntF_succ, ih (i + 1) (fun o h1 h2 => hq o (by omega) (by omega)), if_neg (fun z => hq i (by omega) (by omega) z.1 z.2)]
theorem cntF_up {F : Nat → Bool} {K : Nat → Nat} {h h' : Nat} (hk : K h < K h') (hF : F h' = true) : ∀ (d i : Nat), cntF F K h' d i + (if i ≤ h' ∧ h' < i + d then 1 else 0) ≤ cntF F K h d i := by
  intro d
  induction d with
  | zero => intro i; rw [if_neg (by omega)]; exact Nat.le_refl _
  | succ d ih =>
    intro i
    have := ih (i + 1)
    rw [cntF_succ, cntF_succ]
    by_cases e : i = h'
    · subst e
      have a1 : (if F i = true ∧ K i < K i then 1 else 0) = 0 := if_neg (fun z => Nat.lt_irrefl _ z.2)
      have a2 : (if F i = true ∧ K h < K i then 1 else 0) = 1 := if_pos ⟨hF, hk⟩
      have a3 : (if i ≤ i ∧ i < i + (d + 1) then 1 else 0) = 1 := if_pos (by omega)
      have a4 : (if i + 1 ≤ i ∧ i < i + 1 + d then 1 else 0) = 0 := if_neg (by omega)
      rw [a4] at this
      rw [a1, a2, a3]
      omega
    · have e2 : (if i ≤ h' ∧ h' < i + (d + 1) then 1 else 0) = (if i + 1 ≤ h' ∧ h' < i + 1 + d then 1 else 0) := by
        by_cases q : i ≤ h' ∧ h' < i + (d + 1)
        · rw [if_pos q, if_pos (by omega)]
        · rw [if_neg q, if_neg (by omega)]
      rw [e2]
      by_cases h1 : F i = true ∧ K h' < K i
      · have a1 : (if F i = true ∧ K h' < K i then 1 else 0) = 1 := if_pos h1
        have a2 : (if F i = true ∧ K h < K i then 1 else 0) = 1 := if_pos ⟨h1.1, by omega⟩
        rw [a1, a2]; omega
      · have a1 : (if F i = true ∧ K h' < K i then 1 else 0) = 0 := if_neg h1
        rw [a1]; omega
theorem cntF_mono {F : Nat → Bool} {K : Nat → Nat} {h h' : Nat} (hk : K h ≤ K h') : ∀ (d i : Nat), cntF F K h' d i ≤ cntF F K h d i := by
  intro d
  induction d with
  | zero => intro i; exact Nat.le_refl _
  | succ d ih =>
    intro i
    have := ih (i + 1)
    rw [cntF_succ, cntF_succ]
    by_cases h1 : F i = true ∧ K h' < K i
    · have a1 : (if F i = true ∧ K h' < K i then 1 else 0) = 1 := if_pos h1
      have a2 : (if F i = true ∧ K h < K i then 1 else 0) = 1 := if_pos ⟨h1.1, by omega⟩
      rw [a1, a2]; omega
    · have a1 : (if F i = true ∧ K h' < K i then 1 else 0) = 0 := if_neg h1
      rw [a1]; omega
theorem cntF_step {F : Nat → Bool} {K : Nat → Nat} {h h' : Nat} (hF : F h = true) : ∀ (d i : Nat), (∀ o, i ≤ o → o < i + d → F o = true → (K h' < K o ↔ (K h < K o ∨ o = h))) → cntF F K h' d i = cntF F K h d i + (if i ≤ h ∧ h < i + d then 1 else 0) := by
  intro d
  induction d with
  | zero => intro i _; rw [if_neg (by omega)]; rfl
  | succ d ih =>
    intro i hq
    have := ih (i + 1) (fun o h1 h2 => hq o (by omega) (by omega))
    rw [cntF_succ, cntF_succ, this]
    by_cases e : i = h
    · subst e
      have a1 : (if F i = true ∧ K h' < K i then 1 else 0) = 1 := if_pos ⟨hF, (hq i (by omega) (by omega) hF).mpr (.inr rfl)⟩
      have a2 : (if F i = true ∧ K i < K i then 1 else 0) = 0 := if_neg (fun z => Nat.lt_irrefl _ z.2)
      have a3 : (if i ≤ i ∧ i < i + (d + 1) then 1 else 0) = 1 := if_pos (by omega)
      have a4 : (if i + 1 ≤ i ∧ i < i + 1 + d then 1 else 0) = 0 := if_neg (by omega)
      rw [a1, a2, a3, a4]
      omega
    · have e2 : (if i ≤ h ∧ h < i + (d + 1) then 1 else 0) = (if i + 1 ≤ h ∧ h < i + 1 + d then 1 else 0) := by
        by_cases q : i ≤ h ∧ h < i + (d + 1)
        · rw [if_pos q, if_pos (by omega)]
        · rw [if_neg q, if_neg (by omega)]
      rw [e2]
      by_cases h1 : F i = true ∧ K h' < K i
      · rcases (hq i (by omega) (by omega) h1.1).mp h1.2 with z | z
        · have a1 : (if F i = true ∧ K h' < K i then 1 else 0) = 1 := if_pos h1
          have a2 : (if F i = true ∧ K h < K i then 1 else 0) = 1 := if_pos ⟨h1.1, z⟩
          rw [a1, a2]; omega
        · exact absurd z e
      · have a1 : (if F i = true ∧ K h' < K i then 1 else 0) = 0 := if_neg h1
        have a2 : (if F i = true ∧ K h < K i then 1 else 0) = 0 := if_neg (fun z => h1 ⟨z.1, (hq i (by omega) (by omega) z.1).mpr (.inl z.2)⟩)
        rw [a1, a2]; omega
/-- r is the row with s of those that fit ahead of it -/
def atI (F : Nat → Bool) (K : Nat → Nat) (n s : Nat) (r : Int32) : Prop :=
  (r = -1 ∧ ∀ h, h ≤ n → F h = true → cntF F K h (n + 1) 0 < s) ∨ (∃ h, h ≤ n ∧ r = nI h ∧ F h = true ∧ cntF F K h (n + 1) 0 = s)
theorem atI_zero {F : Nat → Bool} {K : Nat → Nat} {n b : Nat} {r x : Int32} (hb : ∀ j, j ≤ n → K j < b) (h : selI F K b (n + 1) r x) : atI F K n 0 r := by
  rcases h with ⟨h1, _, h3⟩ | ⟨k, k1, k2, k3, k4, k5, k6⟩
  · exact .inl ⟨h1, fun j hj hF => absurd (hb j hj) (h3 j (by omega) hF)⟩
  · refine .inr ⟨k, by omega, k2, k4, cntF_zero _ _ (fun o _ h2 hF => ?_)⟩
    have := k6 o (by omega) hF (hb o (by omega))
    omega
theorem atI_step {F : Nat → Bool} {K : Nat → Nat} {n s h : Nat} {r x : Int32} (hi : ∀ i j, i ≤ n → j ≤ n → K i = K j → i = j) (hh : h ≤ n) (hF : F h = true) (hc : cntF F K h (n + 1) 0 = s) (hs : selI F K (K h) (n + 1) r x) : atI F K n (s + 1) r := by
  rcases hs with ⟨h1, _, h3⟩ | ⟨k, k1, k2, k3, k4, k5, k6⟩
  · refine .inl ⟨h1, fun j hj hFj => ?_⟩
    have := h3 j (by omega) hFj
    have := cntF_mono (F := F) (K := K) (h := h) (h' := j) (by omega) (n + 1) 0
    omega
  · refine .inr ⟨k, by omega, k2, k4, ?_⟩
    have := cntF_step (F := F) (K := K) (h := h) (h' := k) hF (n + 1) 0 (fun o _ h2 hFo => by
      constructor
      · intro q
        by_cases e : K o < K h
        · have := k6 o (by omega) hFo e
          omega
        · by_cases e2 : K h < K o
          · exact .inl e2
          · exact .inr (hi o h (by omega) hh (by omega))
      · rintro (q | rfl)
        · omega
        · exact k5)
    rw [this, if_pos (by omega), hc]
theorem atI_selM {F : Nat → Bool} {K K' : Nat → Nat} {n s : Nat} {r r' : Int32} (hs : s < 2 ^ 31) (hn : n ≤ 10) (hi : ∀ i j, i ≤ n → j ≤ n → K i = K j → i = j) (hk : ∀ i j, i ≤ n → j ≤ n → (K i < K j ↔ K' i < K' j)) (h : atI F K n s r) (h' : selM F K' n (nI s) 0 r') : r = r' := by
  have ec : ∀ j, j ≤ n → cntF F K' j (n + 1) 0 = cntF F K j (n + 1) 0 := fun j hj => (cntF_congr _ _ (fun o _ h2 => hk j o hj (by omega))).symm
  have le : ∀ j d i, cntF F K j d i ≤ d := by
    intro j d
    induction d with
    | zero => intro i; exact Nat.le_refl _
    | succ d ih =>
      intro i
      have := ih (i + 1)
      rw [cntF_succ]
      by_cases q : F i = true ∧ K j < K i
      · rw [if_pos q]; omega
      · rw [if_neg q]; omega
  rcases h with ⟨h1, h2⟩ | ⟨k, k1, k2, k3, k4⟩
  · rcases h' with ⟨g1, _⟩ | ⟨j, j1, j2, j3, j4⟩
    · exact h1.trans g1.symm
    · rw [ec j j1, nI_eq (by have := le j (n + 1) 0; omega) hs] at j4
      have := h2 j j1 j3
      omega
  · rcases h' with ⟨_, g2⟩ | ⟨j, j1, j2, j3, j4⟩
    · exact absurd (by rw [ec k k1, k4]) (g2 k (by omega) k1 k3)
    · rw [ec j j1, nI_eq (by have := le j (n + 1) 0; omega) hs] at j4
      rw [k2, j2]
      rcases Nat.lt_trichotomy (K k) (K j) with q | q | q
      · have := cntF_up (F := F) q j3 (n + 1) 0
        rw [if_pos (by omega)] at this
        omega
      · rw [hi k j k1 j1 q]
      · have := cntF_up (F := F) q k3 (n + 1) 0
        rw [if_pos (by omega)] at this
        omega
