-- 50: the whole object and the whole model
/-- the history: the free place f, u changes to undo, and the houses before them -/
def zHist (D : Nat) (G H : Nat → Nat → Int32) (f u : Nat) : Prop :=
  f < 9 ∧ u ≤ 8 ∧ G 9 3 = nI f ∧ G 9 4 = nI u ∧ H 90 1 = nI u ∧ ∀ t, t < u → HRat D G (kb ((f + 8 - t) % 9)) (fun j => H 94 (327 * (u - 1 - t) + j))
def zWhy (G H : Nat → Nat → Int32) : Prop := (H 90 2 = 0 ∧ G 1 1 = -15 ∧ G 1 2 = -15) ∨ (H 90 2 ≠ 0 ∧ G 1 1 = H 90 2 ∧ G 1 2 = H 90 3)
theorem kb_apart {a b : Nat} (h : a ≠ b) : zApart (kb a) (kb b) := by unfold zApart kb; omega
theorem kb_apart2 {a : Nat} : zApart (kb a) 2 := by unfold zApart kb; omega
theorem HRat.mono {D D' : Nat} {G : Nat → Nat → Int32} {a : Nat} {v : Nat → Int32} (h : HRat D G a v) (hd : D ≤ D') : HRat D' G a v := HR.mono h hd
/-- a kept house stays while others are laid -/
theorem HRat_keep {D : Nat} {G : Nat → Nat → Int32} {a b c : Nat} {v : Nat → Int32} (h : HRat D G c v) (hac : zApart a c) : HRat D (hcopy G a b) c v := by
  have e : ∀ k, k ≤ 6 → hcopy G a b (c + k) = G (c + k) := fun k hk => by
    unfold zApart at hac
    exact hcopy_o (by omega) (by omega) (by omega) (by omega)
  exact HRat_same h (e 0 (by omega)) (e 2 (by omega)) (e 4 (by omega)) (e 6 (by omega)) (fun _ _ => rfl)
/-- what a change leaves alone -/
def chFr (G G' H H' : Nat → Nat → Int32) : Prop := (∀ i, i = 0 ∨ i = 3 ∨ i = 5 ∨ i = 7 ∨ (10 ≤ i ∧ i < 18) ∨ 81 ≤ i → G' i = G i) ∧ (∀ i, i ≠ 90 → i ≠ 91 → i ≠ 92 → i ≠ 94 → H' i = H i) ∧ (∀ j, 4 ≤ j → H' 90 j = H 90 j) ∧ G' 9 2 = G 9 2
/-- begin, change, settle: the class -/
theorem sc_change {tc : Nat} {ac : List Value} {tm : Nat} {am : List Value} (ok : OpOK tc ac tm am) {D f u : Nat} {G H : Nat → Nat → Int32} (hD : D ≤ 6000) (w : zWT G) (hr : HRat D G 2 (H 91)) (hh : zHist D G H f u) (hw : zWhy G H) :
    ∃ (r : Int32) (G1 G2 G3 H1 H2 H3 : Nat → Nat → Int32) (f' u' : Nat), zden 14 0 [.ref 9, .ref 2, .retAddr 0] [] (zSH, G) = some (none, (zSH, G1)) ∧ zden tc 0 ac [] (zSH, G1) = some (some (.int r), (zSH, G2)) ∧ zden 15 0 [.ref 9, .int r] [] (zSH, G2) = some (some (.int r), (zSH, G3)) ∧
      zden 107 0 [.ref 90] [] (zSH, H) = some (none, (zSH, H1)) ∧ zden tm 0 am [] (zSH, H1) = some (some (.int r), (zSH, H2)) ∧ zden 115 0 [.ref 90, .int r, .retAddr 0] [] (zSH, H2) = some (some (.int r), (zSH, H3)) ∧
      HRat (D + 1) G3 2 (H3 91) ∧ zHist (D + 1) G3 H3 f' u' ∧ zWhy G3 H3 ∧ chFr G G3 H H3 := by
  obtain ⟨hf, hu, f3, u4, c1, hk⟩ := hh
  have k1 := sc_keep f3 hf
  obtain ⟨H1, b1, b2, b3, b4, b5⟩ := sm_begins H
  have hr1 : HRat D (hcopy G (kb f) 2) 2 (H1 91) := by
    rw [b5 91 (by decide) (by decide)]
    exact HRat_keep hr kb_apart2
  have o : ∀ r, r < 18 → hcopy G (kb f) 2 r = G r := fun r hr => hcopy_o (by unfold kb; omega) (by unfold kb; omega) (by unfold kb; omega) (by unfold kb; omega)
  have w1 : zWT (hcopy G (kb f) 2) := by unfold zWT; rw [o 3 (by decide), o 5 (by decide), o 7 (by decide)]; exact w
  obtain ⟨r, G2, H2, p1, p2, ⟨p3, p4, p5⟩, p6⟩ := ok D (hcopy G (kb f) 2) H1 hD w1 hr1 b2
  have o2 : ∀ i, i = 0 ∨ i = 3 ∨ i = 5 ∨ i = 7 ∨ (10 ≤ i ∧ i < 18) ∨ 81 ≤ i → G2 i = G i := fun i hi => by
    rw [p3 i (by omega) (by omega) (by omega) (by omega) (by omega)]
    exact hcopy_o (by unfold kb; omega) (by unfold kb; omega) (by unfold kb; omega) (by unfold kb; omega)
  have g9 : G2 9 = G 9 := by rw [p3 9 (by decide) (by decide) (by decide) (by decide) (by decide), o 9 (by decide)]
  have kept : ∀ (c : Nat) (v : Nat → Int32) (E : Nat), 18 ≤ c → HRat E (hcopy G (kb f) 2) c v → HRat E G2 c v := fun c v E hc h =>
    HRat_same h (p3 c (by omega) (by omega) (by omega) (by omega) (by omega)) (p3 _ (by omega) (by omega) (by omega) (by omega) (by omega)) (p3 _ (by omega) (by omega) (by omega) (by omega) (by omega)) (p3 _ (by omega) (by omega) (by omega) (by omega) (by omega)) (fun _ _ => rfl)
  rcases p6 with ⟨r0, q1, q2, q3⟩ | ⟨r0, q1, q2, q3⟩
  · obtain ⟨G3, s1, s2, s3, s4, s5⟩ := sc_settle (G := G2) (x := r) (Int32.not_lt.mpr r0) (by rw [g9]; exact f3) hf (by rw [g9]; exact u4) hu
    have c0 : H2 90 0 = 0 := by rw [q3]; exact b2
    have c1' : H2 90 1 = nI u := by rw [q3, b3 1 (by decide)]; exact c1
    obtain ⟨H3, m, t1, t2, t3, t4, t5, t6, t7, t8⟩ := sm_ends_ok (x := r) c0 hu c1'
    refine ⟨r, _, G2, G3, H1, H2, H3, (f + 1) % 9, m + 1, k1, p1, s1, b1, p2, t1, ?_, ⟨by omega, by omega, s2, ?_, t4, fun t ht => ?_⟩, ?_, fun i hi => by rw [s5 i (by omega)]; exact o2 i hi, fun i i1 i2 i3 i4 => by rw [t8 i i1 i4, p4 i i1 i2, b5 i i1 i3], fun j hj => by rw [t5 j (by omega), p5 j (by omega) (by omega) (by omega), b3 j (by omega)], by rw [s4 2 (by decide) (by decide), g9]⟩
    · rw [t8 91 (by decide) (by decide)]
      exact HRat_same q1 (s5 2 (by decide)) (s5 _ (by decide)) (s5 _ (by decide)) (s5 _ (by decide)) (fun _ _ => rfl)
    · rw [s3, t3]
      by_cases h8 : u = 8
      · rw [if_pos h8, if_pos h8]
      · rw [if_neg h8, if_neg h8]
    · have hm : m = if u = 8 then 7 else u := t3
      have st : ∀ (c : Nat) (v : Nat → Int32) (E : Nat), 18 ≤ c → HRat E G2 c v → HRat E G3 c v := fun c v E hc h => HRat_same h (s5 c (by omega)) (s5 _ (by omega)) (s5 _ (by omega)) (s5 _ (by omega)) (fun _ _ => rfl)
      rcases Nat.eq_zero_or_pos t with h0 | h0
      · subst h0
        have e : ((f + 1) % 9 + 8 - 0) % 9 = f := by omega
        rw [e]
        refine st _ _ _ (by unfold kb; omega) (kept _ _ _ (by unfold kb; omega) ?_)
        refine HRat_copy (kb_apart2) (hr.mono (by omega)) (fun j hj => ?_)
        show H3 94 (327 * (m + 1 - 1 - 0) + j) = H 91 j
        rw [show 327 * (m + 1 - 1 - 0) + j = 327 * m + j by omega, t7 j hj, p4 92 (by decide) (by decide)]
        exact b4 j hj
      · have ht' : t - 1 < u := by
          by_cases h8 : u = 8
          · rw [if_pos h8] at hm; omega
          · rw [if_neg h8] at hm; omega
        have e : ((f + 1) % 9 + 8 - t) % 9 = (f + 8 - (t - 1)) % 9 := by omega
        rw [e]
        refine st _ _ _ (by unfold kb; omega) (kept _ _ _ (by unfold kb; omega) (HRat_keep ?_ (kb_apart (by omega))))
        refine HR.congr ((hk (t - 1) ht').mono (Nat.le_succ D)) (fun _ _ _ => rfl) (fun _ _ => rfl) (fun _ _ => rfl) (fun _ _ => rfl) (fun j hj => ?_)
        show H3 94 (327 * (m + 1 - 1 - t) + j) = H 94 (327 * (u - 1 - (t - 1)) + j)
        rw [t6 _ j (by omega) hj, p4 94 (by decide) (by decide), b5 94 (by decide) (by decide)]
        refine congrArg (H 94) ?_
        by_cases h8 : u = 8
        · rw [if_pos h8] at hm; omega
        · rw [if_neg h8] at hm; omega
    · unfold zWhy
      rw [t5 2 (by decide), t5 3 (by decide), s5 1 (by decide), q2, q3, b3 2 (by decide), b3 3 (by decide), o 1 (by decide)]
      exact hw
  · have n0 : H2 90 0 ≠ 0 := by
      rw [q2]
      intro z
      rw [z] at r0
      exact absurd r0 (by decide)
    obtain ⟨H3, t1, t2, t3⟩ := sm_ends_fail (x := r) n0
    rw [q2] at t1
    have h90 : H3 90 = H2 90 := t3 90 (by decide)
    refine ⟨r, _, G2, G2, H1, H2, H3, f, u, k1, p1, sc_settle_neg r0, b1, p2, t1, ?_, ⟨hf, hu, by rw [g9]; exact f3, by rw [g9]; exact u4, ?_, fun t ht => ?_⟩, ?_, o2, fun i i1 i2 i3 i4 => by rw [t3 i i2, p4 i i1 i2, b5 i i1 i3], fun j hj => by rw [h90, p5 j (by omega) (by omega) (by omega), b3 j (by omega)], by rw [g9]⟩
    · refine HR.congr (q1.mono (Nat.le_succ D)) (fun _ _ _ => rfl) (fun _ _ => rfl) (fun _ _ => rfl) (fun _ _ => rfl) (fun j hj => ?_)
      rw [t2 j hj, p4 92 (by decide) (by decide), b4 j hj, b5 91 (by decide) (by decide)]
    · rw [h90, p5 1 (by decide) (by decide) (by decide), b3 1 (by decide)]
      exact c1
    · refine kept _ _ _ (by unfold kb; omega) (HRat_keep ?_ (kb_apart (by omega)))
      refine HR.congr ((hk t ht).mono (Nat.le_succ D)) (fun _ _ _ => rfl) (fun _ _ => rfl) (fun _ _ => rfl) (fun _ _ => rfl) (fun j hj => ?_)
      show H3 94 _ = H 94 _
      rw [t3 94 (by decide), p4 94 (by decide) (by decide), b5 94 (by decide) (by decide)]
    · unfold zWhy
      rw [h90]
      rcases q3 with ⟨e1, e2, e3, e4⟩ | ⟨e1, e2, e3⟩
      · rw [e1, e2, e3, e4, b3 2 (by decide), b3 3 (by decide), o 1 (by decide)]
        exact hw
      · exact .inr ⟨e3, e1, e2⟩
