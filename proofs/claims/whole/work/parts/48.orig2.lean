-- 48: the origin is the same
theorem origin_same {G H : Nat → Nat → Int32} {g : Nat} (w : zWT G) (hg : g < 12) (hq : HRg (G 6) (H 91) g) :
    (zden 28 0 [.ref 2, .int (nI g), .retAddr 0, .retAddr 0, .retAddr 0, .retAddr 0, .retAddr 0, .retAddr 0] [] (zSH, G) = some (some (.int (-15)), (zSH, G)) ∧ zden 133 0 [.ref 90, .int (nI g), .retAddr 0, .retAddr 0, .retAddr 0] [] (zSH, H) = some (some (.int (-1)), (zSH, H)) ∧ H 91 (74 + 22 * g) = 0) ∨
    (∃ b, b < 5 ∧ zden 28 0 [.ref 2, .int (nI g), .retAddr 0, .retAddr 0, .retAddr 0, .retAddr 0, .retAddr 0, .retAddr 0] [] (zSH, G) = some (some (.int (nI b)), (zSH, G)) ∧ zden 133 0 [.ref 90, .int (nI g), .retAddr 0, .retAddr 0, .retAddr 0] [] (zSH, H) = some (some (.int (nI b)), (zSH, H)) ∧ ¬ H 91 (74 + 22 * g) = 0) := by
  obtain ⟨a1, a2, a3, a4, a5, a6, a7, a8, a9, a10, a11, a12, a13, a14, a15, a16, a17, wn, w1, w2, w3, w4, w5⟩ := hq
  have f1 : ∀ c, c < 5 → G 6 (23 * g + 13 + c) = nI ((G 6 (23 * g + 13 + c)).toNatClampNeg) ∧ (G 6 (23 * g + 13 + c)).toNatClampNeg ≤ 594 := fun c hc => by
    obtain ⟨_, _, ⟨k, k1, k2, k3⟩, _⟩ := a11 c hc
    rw [k3, nI_clamp (by omega)]; exact ⟨rfl, k2⟩
  have f2 : ∀ c, c < 5 → G 6 (23 * g + 18 + c) = nI ((G 6 (23 * g + 18 + c)).toNatClampNeg) ∧ (G 6 (23 * g + 18 + c)).toNatClampNeg ≤ 6 := fun c hc => by
    obtain ⟨_, _, _, ⟨k, k1, k2, k3⟩⟩ := a11 c hc
    rw [k3, nI_clamp (by omega)]; exact ⟨rfl, k2⟩
  have ex : ∃ P L : Nat → Nat, ∀ c, c < 5 → G 6 (23 * g + 13 + c) = nI (P c) ∧ G 6 (23 * g + 18 + c) = nI (L c) ∧ P c ≤ 594 ∧ L c ≤ 6 :=
    ⟨fun c => (G 6 (23 * g + 13 + c)).toNatClampNeg, fun c => (G 6 (23 * g + 18 + c)).toNatClampNeg, fun c hc => ⟨(f1 c hc).1, (f2 c hc).1, (f1 c hc).2, (f2 c hc).2⟩⟩
  obtain ⟨P, L, hp⟩ := ex
  have h1 : ∀ c, c < 5 → H 91 (75 + 22 * g + c) = nI (P c) ∧ H 91 (80 + 22 * g + c) = nI (L c) ∧ P c ≤ 594 ∧ L c ≤ 6 := fun c hc => by
    obtain ⟨q1, q2, q3, q4⟩ := hp c hc
    obtain ⟨b1, b2, _⟩ := a11 c hc
    exact ⟨b1.symm.trans q1, b2.symm.trans q2, q3, q4⟩
  have fin : ∃ (r : Int32) (b' : Nat) (v4' : Value), zden 28 0 [.ref 2, .int (nI g), .retAddr 0, .retAddr 0, .retAddr 0, .retAddr 0, .retAddr 0, .retAddr 0] [] (zSH, G) = some (some (.int r), (zSH, G)) ∧
      zden 133 0 [.ref 90, .int (nI g), .retAddr 0, .retAddr 0, .retAddr 0] [] (zSH, H) = zden 133 4 [.ref 90, .int (nI g), .int (nI b'), .int (nI 5), v4'] [] (zSH, H) ∧ b' < 5 ∧ ((r = -15 ∧ ∀ j, j < 5 → P j = 0) ∨ (r = nI b' ∧ (0 < P b' ∨ 0 < L b'))) := by
    obtain ⟨w6, w7, s1⟩ := sc_org_step (c := 0) (m := 0) (l := 0) (o := -15) (v6 := .retAddr 0) (v7 := .retAddr 0) w hg hp (by decide) (by decide) (by decide)
    by_cases q : 0 < P 0 ∨ (0 = P 0 ∧ 0 < L 0)
    · rw [if_pos q] at s1
      obtain ⟨r, b', v', r1, r2, r3, r4⟩ := org_loop w hg hp h1 4 1 0 (P 0) (L 0) (nI 0) (.retAddr 0) w6 w7 rfl (by decide) rfl rfl (.inr ⟨rfl, by omega⟩)
      refine ⟨r, b', v', ?_, ?_, r3, r4⟩
      · rw [B_Ho_originOf_0]; exact s1.trans r1
      · rw [B_M_origin_0]; exact r2
    · rw [if_neg q] at s1
      obtain ⟨r, b', v', r1, r2, r3, r4⟩ := org_loop w hg hp h1 4 1 0 0 0 (-15) (.retAddr 0) w6 w7 rfl (by decide) (by omega) (by omega) (.inl ⟨rfl, by omega, by omega, fun j hj => by
        have e : j = 0 := by omega
        subst e; omega⟩)
      refine ⟨r, b', v', ?_, ?_, r3, r4⟩
      · rw [B_Ho_originOf_0]; exact s1.trans r1
      · rw [B_M_origin_0]; exact r2
  obtain ⟨r, b', v', r1, r2, r3, r4⟩ := fin
  have h74 : H 91 (74 + 22 * g) = nI wn := a9.symm.trans w2
  have h5 : (5 : Int32) ≤ nI 5 := by decide
  have me : zden 133 4 [.ref 90, .int (nI g), .int (nI b'), .int (nI 5), v'] [] (zSH, H) = if ¬ nI wn = 0 then some (some (.int (nI b')), (zSH, H)) else some (some (.int (-1)), (zSH, H)) := by
    rw [B_M_origin_4 (fun _ => mzin (K := 11) (by decide) hg (by decide)) (fun q => absurd h5 q) (fun q => absurd h5 q) (fun q => absurd h5 q) (fun q => absurd h5 q), if_pos h5, mcl2 (N := 74 + 22 * g) (K := 11) (by decide) hg (by decide) (by omega), h74]
  rcases Nat.eq_zero_or_pos wn with h0 | h0
  · subst h0
    have hP : ∀ c, c < 5 → P c = 0 := fun c hc => by
      obtain ⟨k, k1, k2⟩ := w3 c hc
      have e := (hp c hc).1.symm.trans k2
      have := (nI_eq (by have := (hp c hc).2.2.1; omega) (by omega)).mp e
      omega
    have hL : ∀ c, c < 5 → L c = 0 := fun c hc => by
      have e : nI (L c) = nI 0 := (hp c hc).2.1.symm.trans (w4 rfl c hc)
      exact (nI_eq (by have := (hp c hc).2.2.2; omega) (by omega)).mp e
    rcases r4 with ⟨q1, _⟩ | ⟨_, q2⟩
    · subst q1
      refine .inl ⟨r1, ?_, h74⟩
      rw [r2, me, if_neg (fun z => z rfl)]
    · have := hP b' r3
      have := hL b' r3
      omega
  · obtain ⟨c, hc, hn⟩ := w5 h0
    have hn' : P c ≠ 0 := fun q => hn (by rw [(hp c hc).1, q]; rfl)
    have nz : ¬ nI wn = 0 := nI_ne0 h0 (by omega)
    rcases r4 with ⟨_, q⟩ | ⟨q1, _⟩
    · exact absurd (q c hc) hn'
    · subst q1
      refine .inr ⟨b', r3, r1, ?_, by rw [h74]; exact nz⟩
      rw [r2, me, if_pos nz]
