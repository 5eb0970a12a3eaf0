-- 32: houses laid over one another; a change begun and settled; tables (turned from whole by wip/p36/gen32.py)
theorem zin_nI {i n : Nat} (h : i < n) (hn : n < 2 ^ 31) : zin (nI i) n = true := zin_of hn (nI_pos (by omega)) (nI_ge h hn)
theorem nIlit_8 : (8 : Int32) = nI 8 := by decide
theorem nIlit_1 : (1 : Int32) = nI 1 := by decide
theorem cpy_in {f g : Nat → Int32} {n j : Nat} (h : j < n) : va_cpy f g 0 0 n j = f j := by
  rw [pk_cpy_in (Nat.zero_le _) (by omega)]
  exact congrArg f (by omega)
/-- two houses that lie apart -/
def zApart (a b : Nat) : Prop := a + 6 < b ∨ b + 6 < a
theorem hcopy_I {G : Nat → Nat → Int32} {a b j : Nat} (hab : zApart a b) (h1 : 3 ≤ j) (h2 : j ≤ 10) : hcopy G a b a j = G b j := by
  have n1 : b ≠ a := by unfold zApart at hab; omega
  have n2 : b ≠ a + 2 := by unfold zApart at hab; omega
  have n4 : b ≠ a + 4 := by unfold zApart at hab; omega
  have n6 : b ≠ a + 6 := by unfold zApart at hab; omega
  unfold hcopy
  rcases (show j = 3 ∨ j = 4 ∨ j = 5 ∨ j = 6 ∨ j = 7 ∨ j = 8 ∨ j = 9 ∨ j = 10 by omega) with rfl | rfl | rfl | rfl | rfl | rfl | rfl | rfl <;>
    simp [zup, zrow, upd, n1, n2, n4, n6]
theorem hcopy_A {G : Nat → Nat → Int32} {a b j : Nat} (hab : zApart a b) (h : j < 55) : hcopy G a b (a + 2) j = G (b + 2) j := by
  unfold hcopy
  simp [zup, zrow, upd, cpy_in h]
theorem hcopy_B {G : Nat → Nat → Int32} {a b j : Nat} (hab : zApart a b) (h : j < 276) : hcopy G a b (a + 4) j = G (b + 4) j := by
  have n2 : b + 4 ≠ a + 2 := by unfold zApart at hab; omega
  have n3 : ¬ (b + 4 = a + 2) := n2
  unfold hcopy
  simp [zup, zrow, upd, cpy_in h, n3]
theorem hcopy_C {G : Nat → Nat → Int32} {a b j : Nat} (hab : zApart a b) (h : j < 5) : hcopy G a b (a + 6) j = G (b + 6) j := by
  have n2 : ¬ (b + 6 = a + 2) := by unfold zApart at hab; omega
  have n4 : ¬ (b + 6 = a + 4) := by unfold zApart at hab; omega
  unfold hcopy
  simp [zup, zrow, upd, cpy_in h, n2, n4]
theorem hcopy_o {G : Nat → Nat → Int32} {a b r : Nat} (h0 : r ≠ a) (h2 : r ≠ a + 2) (h4 : r ≠ a + 4) (h6 : r ≠ a + 6) : hcopy G a b r = G r := by
  unfold hcopy
  rw [zup_ro h0, zup_ro h0, zup_ro h0, zup_ro h0, zup_ro h0, zup_ro h0, zup_ro h0, zup_ro h0, zrow_ro h6, zrow_ro h4, zrow_ro h2]
/-- the kept house at the place f of the ring -/
def kb (f : Nat) : Nat := 18 + 7 * f
theorem sc_keep {G : Nat → Nat → Int32} {f : Nat} (hfree : G 9 3 = nI f) (hf : f < 9) : zden 14 0 [.ref 9, .ref 2, .retAddr 0] [] (zSH, G) = some (none, (zSH, hcopy G (kb f) 2)) :=
  (B_Hi_keep_0 hfree hf).trans (B_Hi_keep_32 hfree hf)
theorem sc_takeBack {G : Nat → Nat → Int32} {f : Nat} (hfree : G 9 3 = nI f) (hf : f < 9) : zden 16 0 [.ref 9, .ref 2, .retAddr 0] [] (zSH, G) = some (none, (zSH, hcopy G 2 (kb f))) :=
  (B_Hi_takeBack_0 hfree hf).trans (B_Hi_takeBack_32 hfree hf)
theorem nIlit_9 : (9 : Int32) = nI 9 := by decide
theorem nI_rem9 {k : Nat} (hk : k < 2 ^ 31) : nI k - nI k / 9 * 9 = nI (k % 9) := by rw [nIlit_9]; exact pk_rem hk (by decide) (by decide)
theorem sc_settle {G : Nat → Nat → Int32} {x : Int32} {f u : Nat} (hx : ¬ x < 0) (hfree : G 9 3 = nI f) (hf : f < 9) (hu : G 9 4 = nI u) (hu8 : u ≤ 8) :
    ∃ G' : Nat → Nat → Int32, zden 15 0 [.ref 9, .int x] [] (zSH, G) = some (some (.int x), (zSH, G')) ∧ G' 9 3 = nI ((f + 1) % 9) ∧ G' 9 4 = nI (if u = 8 then 8 else u + 1) ∧ (∀ j, j ≠ 3 → j ≠ 4 → G' 9 j = G 9 j) ∧ ∀ r, r ≠ 9 → G' r = G r := by
  refine ⟨_, (B_Hi_settle_0).trans (if_neg hx), ?_, ?_, fun j h3 h4 => by rw [zup_rk h4, zup_rk h3], fun r hr => by rw [zup_ro hr, zup_ro hr]⟩
  · rw [zup_rk (by decide), zup_rr, hfree, nI_1, nI_rem9 (by omega)]
  · rw [zup_rr, zup_rk (by decide), hu, nI_1]
    by_cases h8 : u = 8
    · subst h8
      rw [if_pos (by decide), if_pos rfl]; decide
    · rw [if_neg h8, if_neg (by rw [nIlit_8]; exact nI_nlt (by omega) (by decide))]
theorem sc_settle_neg {G : Nat → Nat → Int32} {x : Int32} (hx : x < 0) : zden 15 0 [.ref 9, .int x] [] (zSH, G) = some (some (.int x), (zSH, G)) := (B_Hi_settle_0).trans (if_pos hx)

def zWT (G : Nat → Nat → Int32) : Prop := G 3 0 = nI 11 ∧ G 3 1 = nI 5 ∧ G 5 0 = nI 12 ∧ G 5 1 = nI 23 ∧ G 7 0 = nI 1 ∧ G 7 1 = nI 5
theorem zWT.zup {G : Nat → Nat → Int32} (h : zWT G) {r k : Nat} {x : Int32} (h3 : r ≠ 3) (h5 : r ≠ 5) (h7 : r ≠ 7) : zWT (zup G r k x) := by
  unfold zWT
  rw [zup_ro (Ne.symm h3), zup_ro (Ne.symm h5), zup_ro (Ne.symm h7)]
  exact h
theorem hd_get {G : Nat → Nat → Int32} (w : zWT G) {x y : Int32} {i j : Nat} (hx : x = nI i) (hy : y = nI j) (hi : i < 11) (hj : j < 5) : tget G 3 4 55 x y = G 4 (5 * i + j) := by
  rw [hx, hy, tget_in w.1 w.2.1 hi hj (by decide) (by decide), Nat.mul_comm]
theorem hd_set {G : Nat → Nat → Int32} (w : zWT G) {x y z : Int32} {i j : Nat} (hx : x = nI i) (hy : y = nI j) (hi : i < 11) (hj : j < 5) : tset G 3 4 55 x y z = zup G 4 (5 * i + j) z := by
  rw [hx, hy, tset_in w.1 w.2.1 hi hj (by decide) (by decide), Nat.mul_comm]
theorem gd_get {G : Nat → Nat → Int32} (w : zWT G) {x y : Int32} {i j : Nat} (hx : x = nI i) (hy : y = nI j) (hi : i < 12) (hj : j < 23) : tget G 5 6 276 x y = G 6 (23 * i + j) := by
  rw [hx, hy, tget_in w.2.2.1 w.2.2.2.1 hi hj (by decide) (by decide), Nat.mul_comm]
theorem gd_set {G : Nat → Nat → Int32} (w : zWT G) {x y z : Int32} {i j : Nat} (hx : x = nI i) (hy : y = nI j) (hi : i < 12) (hj : j < 23) : tset G 5 6 276 x y z = zup G 6 (23 * i + j) z := by
  rw [hx, hy, tset_in w.2.2.1 w.2.2.2.1 hi hj (by decide) (by decide), Nat.mul_comm]
theorem fv_get {G : Nat → Nat → Int32} (w : zWT G) {y : Int32} {j : Nat} (hy : y = nI j) (hj : j < 5) : tget G 7 8 5 0 y = G 8 j := by
  rw [hy, show (0 : Int32) = nI 0 from rfl, tget_in w.2.2.2.2.1 w.2.2.2.2.2 (by decide) hj (by decide) (by decide), Nat.zero_mul, Nat.zero_add]
theorem fv_set {G : Nat → Nat → Int32} (w : zWT G) {y z : Int32} {j : Nat} (hy : y = nI j) (hj : j < 5) : tset G 7 8 5 0 y z = zup G 8 j z := by
  rw [hy, show (0 : Int32) = nI 0 from rfl, tset_in w.2.2.2.2.1 w.2.2.2.2.2 (by decide) hj (by decide) (by decide), Nat.zero_mul, Nat.zero_add]
theorem bIn {p : Prop} [Decidable p] : ¬ bI p = 0 ↔ p := by
  unfold bI
  by_cases h : p
  · rw [if_pos h]; exact ⟨fun _ => h, fun _ => by decide⟩
  · rw [if_neg h]; exact ⟨fun q => absurd rfl q, fun q => absurd q h⟩
theorem bIz {p : Prop} [Decidable p] : bI p = 0 ↔ ¬ p := by
  unfold bI
  by_cases h : p
  · rw [if_pos h]; exact ⟨fun q => absurd q (by decide), fun q => absurd h q⟩
  · rw [if_neg h]; exact ⟨fun _ => h, fun _ => rfl⟩
/-- a number between two is a natural number -/
theorem nI_btw {x a b : Int32} {A B : Nat} (ha : a = nI A) (hb : b = nI B) (hB : B < 2 ^ 31) (hA : A < 2 ^ 31) (h : a ≤ x ∧ x ≤ b) : ∃ k : Nat, A ≤ k ∧ k ≤ B ∧ x = nI k := by
  subst ha hb
  have hn : ¬ x < 0 := by
    intro q
    have h1 := Int32.le_iff_toInt_le.mp h.1
    have h2 := Int32.lt_iff_toInt_lt.mp q
    rw [nI_toInt hA] at h1
    have : (0 : Int32).toInt = 0 := rfl
    omega
  obtain ⟨k, hk, rfl⟩ := nI_of2 (nI_toInt hB) hn h.2
  refine ⟨k, ?_, hk, rfl⟩
  exact (nI_leI hA (by omega)).mp h.1
theorem zup_up {G : Nat → Nat → Int32} {r k : Nat} {x y : Int32} : zup (zup G r k x) r k y = zup G r k y := by
  funext i j
  by_cases hi : i = r
  · subst hi
    by_cases hj : j = k
    · subst hj; rw [zup_rr, zup_rr]
    · rw [zup_rk hj, zup_rk hj, zup_rk hj]
  · rw [zup_ro hi, zup_ro hi, zup_ro hi]
/-- is it a good -/
theorem good_iff {x : Int32} {gn : Nat} (h : gn ≤ 12) : (0 ≤ x ∧ x < nI gn) ↔ ∃ g : Nat, g < gn ∧ x = nI g := by
  constructor
  · intro q
    rcases pk_ix x (n := gn) (by omega) with h1 | h1 | h1
    · exact absurd q.1 (by rw [Int32.not_le]; exact h1)
    · exact absurd q.2 (by rw [Int32.not_lt]; exact h1)
    · exact h1
  · rintro ⟨g, hg, rfl⟩
    exact ⟨nI_pos' (by omega), nI_lt hg (by omega)⟩
theorem good_iff2 {x : Int32} {gn : Nat} (h : gn ≤ 12) : (0 ≤ x ∧ x ≤ nI gn - 1) ↔ ∃ g : Nat, g < gn ∧ x = nI g := by
  rw [← good_iff h]
  rcases Nat.eq_zero_or_pos gn with h0 | h0
  · subst h0
    constructor
    · intro q
      exact absurd (Int32.le_trans q.1 q.2) (by decide)
    · intro q
      exact absurd q.1 (by rw [Int32.not_le]; exact q.2)
  · obtain ⟨m, rfl⟩ : ∃ m, gn = m + 1 := ⟨gn - 1, by omega⟩
    rw [nI_pred]
    constructor
    · rintro ⟨q1, q2⟩
      refine ⟨q1, ?_⟩
      obtain ⟨k, k1, k2, rfl⟩ := nI_btw (A := 0) (B := m) rfl rfl (by omega) (by omega) ⟨q1, q2⟩
      exact nI_lt (by omega) (by omega)
    · rintro ⟨q1, q2⟩
      refine ⟨q1, ?_⟩
      obtain ⟨k, k1, rfl⟩ := (good_iff h).mp ⟨q1, q2⟩
      exact nI_le (by omega) (by omega)
theorem nIlit_100 : (100 : Int32) = nI 100 := by decide
theorem nIlit_4 : (4 : Int32) = nI 4 := by decide
theorem znr_b0 : znr .boolean 0 = true := by decide
theorem znr_b1 : znr .boolean 1 = true := by decide
theorem nIlit_5 : (5 : Int32) = nI 5 := by decide
theorem nIlit_13 : (13 : Int32) = nI 13 := by decide
theorem nIlit_10 : (10 : Int32) = nI 10 := by decide
theorem nIlit_3 : (3 : Int32) = nI 3 := by decide
theorem nlow : ¬ (0 : Int32) ≤ -1 := by decide
theorem zint_inj {a b : Int32} {h h' : zH} (q : (some (some (Value.int a), h) : Option (Option Value × zH)) = some (some (.int b), h')) : a = b := Value.int.inj (Option.some.inj (Prod.mk.inj (Option.some.inj q)).1)
