-- 42: does a heading fit, and how far ahead is it
theorem hOK.row {n i : Nat} {A v : Nat → Int32} (h : hOK n A v) (hi : i ≤ n) : ∃ c f o r k : Nat, A (5 * i + 4) = nI c ∧ A (5 * i) = nI f ∧ A (5 * i + 1) = nI o ∧ A (5 * i + 2) = nI r ∧ A (5 * i + 3) = nI k ∧ 1 ≤ c ∧ c ≤ 99 ∧ f ≤ 4 ∧ o ≤ 3 ∧ r ≤ 60 ∧ k ≤ 20 ∧ (c = 99 ↔ i = n) := by
  obtain ⟨h1, h2, h3, h4, h5, h6, h7, h8⟩ := h
  by_cases e : i = n
  · subst e
    exact ⟨99, 4, 3, 30, 0, h8.trans (by decide), h4.trans (by decide), h5.trans (by decide), h6.trans (by decide), h7.trans (by decide), by omega, by omega, by omega, by omega, by omega, by omega, by omega⟩
  · obtain ⟨_, _, _, _, _, ⟨c, c1, c2, c3⟩, ⟨f, f1, f2, f3⟩, ⟨o, o1, o2, o3⟩, ⟨r, r1, r2, r3⟩, ⟨k, k1, k2, k3⟩⟩ := h3 i (by omega)
    exact ⟨c, f, o, r, k, c3, f3, o3, r3, k3, by omega, by omega, by omega, by omega, by omega, by omega, by omega⟩
def fitB (A B : Nat → Int32) (g i : Nat) : Bool := (A (5 * i) == 4 || A (5 * i) == B (23 * g + 4)) && (A (5 * i + 1) == 3 || A (5 * i + 1) == B (23 * g))
/-- how far ahead, in the class and in the model -/
def rkC (A : Nat → Int32) (i : Nat) : Nat := (if A (5 * i + 4) = 99 then 0 else (A (5 * i + 4)).toNatClampNeg) + (if A (5 * i + 1) = 3 then 0 else 100) + (if A (5 * i) = 4 then 0 else 200)
def rkM (A : Nat → Int32) (i : Nat) : Nat := (if A (5 * i) = 4 then 0 else 1000) + (if A (5 * i + 1) = 3 then 0 else 500) + (if A (5 * i + 4) = 99 then 0 else (A (5 * i + 4)).toNatClampNeg)
def bB (b : Bool) : Int32 := if b = true then 1 else 0
theorem sc_isFitting {G : Nat → Nat → Int32} {i g : Nat} (w : zWT G) (hi : i < 11) (hg : g < 12) :
    zden 25 0 [.ref 2, .int (nI i), .int (nI g), .retAddr 0, .retAddr 0] [] (zSH, G) = some (some (.int (bB (fitB (G 4) (G 6) g i))), (zSH, G)) := by
  have t0 : tget G 3 4 55 (nI i) 0 = G 4 (5 * i) := hd_get (j := 0) w rfl (by decide) hi (by decide)
  have t1 : tget G 3 4 55 (nI i) 1 = G 4 (5 * i + 1) := hd_get (j := 1) w rfl (by decide) hi (by decide)
  have g4 : tget G 5 6 276 (nI g) 4 = G 6 (23 * g + 4) := gd_get (j := 4) w rfl (by decide) hg (by decide)
  have g0 : tget G 5 6 276 (nI g) 0 = G 6 (23 * g) := gd_get (j := 0) w rfl (by decide) hg (by decide)
  have two : ∀ a, zden 25 39 [.ref 2, .int (nI i), .int (nI g), .int a, .int (G 4 (5 * i + 1))] [] (zSH, G) = some (some (.int (bB (G 4 (5 * i + 1) == 3 || G 4 (5 * i + 1) == G 6 (23 * g)))), (zSH, G)) := by
    intro a
    rw [B_Ho_isFitting_39, g0]
    by_cases h : G 4 (5 * i + 1) = 3
    · rw [if_pos h, B_Ho_isFitting_59, show (G 4 (5 * i + 1) == 3) = true from beq_iff_eq.mpr h]; rfl
    · rw [if_neg h, show (G 4 (5 * i + 1) == 3) = false from beq_eq_false_iff_ne.mpr h]
      by_cases h2 : G 4 (5 * i + 1) = G 6 (23 * g)
      · rw [if_neg (fun q => q h2), B_Ho_isFitting_59, show (G 4 (5 * i + 1) == G 6 (23 * g)) = true from beq_iff_eq.mpr h2]; rfl
      · rw [if_pos h2, show (G 4 (5 * i + 1) == G 6 (23 * g)) = false from beq_eq_false_iff_ne.mpr h2]; rfl
  rw [B_Ho_isFitting_0, t0, t1, g4, two]
  unfold fitB
  by_cases h : G 4 (5 * i) = 4
  · rw [if_pos h, show (G 4 (5 * i) == 4) = true from beq_iff_eq.mpr h, Bool.true_or, Bool.true_and]
  · rw [if_neg h, show (G 4 (5 * i) == 4) = false from beq_eq_false_iff_ne.mpr h, Bool.false_or]
    by_cases h2 : G 4 (5 * i) = G 6 (23 * g + 4)
    · rw [if_neg (fun q => q h2), show (G 4 (5 * i) == G 6 (23 * g + 4)) = true from beq_iff_eq.mpr h2, Bool.true_and]
    · rw [if_pos h2, show (G 4 (5 * i) == G 6 (23 * g + 4)) = false from beq_eq_false_iff_ne.mpr h2, Bool.false_and]; rfl
theorem sc_rankOf {G : Nat → Nat → Int32} {v : Nat → Int32} {n i : Nat} (w : zWT G) (ho : hOK n (G 4) v) (hi : i ≤ n) :
    zden 26 0 [.ref 2, .int (nI i), .retAddr 0, .retAddr 0] [] (zSH, G) = some (some (.int (nI (rkC (G 4) i))), (zSH, G)) := by
  have hn := ho.1
  have t0 : tget G 3 4 55 (nI i) 0 = G 4 (5 * i) := hd_get (j := 0) w rfl (by decide) (by omega) (by decide)
  have t1 : tget G 3 4 55 (nI i) 1 = G 4 (5 * i + 1) := hd_get (j := 1) w rfl (by decide) (by omega) (by decide)
  have t4 : tget G 3 4 55 (nI i) 4 = G 4 (5 * i + 4) := hd_get (j := 4) w rfl (by decide) (by omega) (by decide)
  obtain ⟨c, f, o, r, k, hc, hf, hoo, _, _, c1, c2, _⟩ := ho.row hi
  have three : ∀ (a : Int32) (s : Nat), zden 26 38 [.ref 2, .int (nI i), .int a, .int (nI s)] [] (zSH, G) = some (some (.int (nI (s + if G 4 (5 * i) = 4 then 0 else 200))), (zSH, G)) := by
    intro a s
    rw [B_Ho_rankOf_38, t0]
    by_cases h : G 4 (5 * i) = 4
    · rw [if_pos h, if_pos h, Nat.add_zero]
    · rw [if_neg h, if_neg h, show (200 : Int32) = nI 200 by decide, nI_add]
  have two : ∀ (a : Int32) (s : Nat), zden 26 21 [.ref 2, .int (nI i), .int a, .retAddr 0] [.int (nI s)] (zSH, G) = some (some (.int (nI (s + (if G 4 (5 * i + 1) = 3 then 0 else 100) + if G 4 (5 * i) = 4 then 0 else 200))), (zSH, G)) := by
    intro a s
    rw [B_Ho_rankOf_21, t1]
    by_cases h : G 4 (5 * i + 1) = 3
    · rw [if_pos h, if_pos h, Nat.add_zero, three]
    · rw [if_neg h, if_neg h, nIlit_100, nI_add, three]
  rw [B_Ho_rankOf_0, t4]
  unfold rkC
  by_cases h : G 4 (5 * i + 4) = 99
  · rw [if_neg (fun q => q h), if_pos h]
    exact two _ 0
  · rw [if_pos h, if_neg h, hc, nI_clamp (by omega)]
    exact two _ c
theorem ge4 {f : Nat} (hf : f ≤ 4) : (4 : Int32) ≤ nI f ↔ nI f = 4 := by
  rw [nIlit_4, nI_leI (by decide) (by omega), nI_eq (by omega) (by decide)]; omega
theorem nIlit_3 : (3 : Int32) = nI 3 := by decide
theorem ge3 {f : Nat} (hf : f ≤ 3) : (3 : Int32) ≤ nI f ↔ nI f = 3 := by
  rw [nIlit_3, nI_leI (by decide) (by omega), nI_eq (by omega) (by decide)]; omega
theorem sm_rank {H : Nat → Nat → Int32} {A : Nat → Int32} {n i : Nat} (ho : hOK n A (H 91)) (hi : i ≤ n) :
    zden 124 0 [.ref 90, .int (nI i), .retAddr 0] [] (zSH, H) = some (some (.int (nI (rkM A i))), (zSH, H)) := by
  obtain ⟨⟨m0, m1, m2, _⟩, k0, k1, k2, _⟩ := ho.head hi
  obtain ⟨c, f, o, r, k, hc, hf, hoo, _, _, c1, c2, f2, o2, _⟩ := ho.row hi
  have three : ∀ (s t : Nat), zden 124 41 [.ref 90, .int (nI i), .int (A (5 * i + 4))] [.int (nI s), .int (nI t)] (zSH, H) = some (some (.int (nI (t + s + if A (5 * i + 4) = 99 then 0 else (A (5 * i + 4)).toNatClampNeg))), (zSH, H)) := by
    intro s t
    rw [B_M_rank_41]
    by_cases h : A (5 * i + 4) = 99
    · rw [if_neg (fun q => q h), if_pos h, B_M_rank_53, nI_add, show (0 : Int32) = nI 0 from rfl, nI_add]
    · rw [if_pos h, if_neg h, B_M_rank_53, nI_add, hc, nI_clamp (by omega), nI_add]
  have two : ∀ (s : Nat), zden 124 24 [.ref 90, .int (nI i), .int (A (5 * i + 4))] [.int (nI s)] (zSH, H) = some (some (.int (nI (s + (if A (5 * i + 1) = 3 then 0 else 500) + if A (5 * i + 4) = 99 then 0 else (A (5 * i + 4)).toNatClampNeg))), (zSH, H)) := by
    intro s
    rw [B_M_rank_24 k2, m2]
    by_cases h : A (5 * i + 1) = 3
    · rw [if_pos (by rw [hoo, ge3 o2, ← hoo]; exact h), if_pos h]
      exact three 0 s
    · rw [if_neg (by rw [hoo, ge3 o2, ← hoo]; exact h), if_neg h, show (500 : Int32) = nI 500 by decide]
      exact three 500 s
  rw [B_M_rank_0 k0 k1, m0, m1]
  unfold rkM
  by_cases h : A (5 * i) = 4
  · rw [if_pos (by rw [hf, ge4 f2, ← hf]; exact h), if_pos h]
    exact two 0
  · rw [if_neg (by rw [hf, ge4 f2, ← hf]; exact h), if_neg h, show (1000 : Int32) = nI 1000 by decide]
    exact two 1000
