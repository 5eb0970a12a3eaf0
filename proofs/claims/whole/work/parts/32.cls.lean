-- 32: the class's houses laid over one another; a change begun and settled
theorem cpy_in {f g : Nat → Int32} {n j : Nat} (h : j < n) : va_cpy f g 0 0 n j = f j := by
  rw [pk_cpy_in (Nat.zero_le _) (by omega)]
  exact congrArg f (by omega)
/-- two houses that lie apart -/
def zApart (a b : Nat) : Prop := a + 6 < b ∨ b + 6 < a
theorem hcopy_I {G : Nat → Nat → Int32} {a b j : Nat} (hab : zApart a b) (h1 : 3 ≤ j) (h2 : j ≤ 10) : hcopy G a b a j = G b j := by
  have n1 : b ≠ a := by unfold zApart at hab; omega
  have n2 : b ≠ a + 2 := by unfold zApart at hab; omega
  have n4 : b ≠ a + 4 := by unfold zApart at hab; omega
  have n6 : b ≠ a + 6 := by unfold zApart at hab; omega
  unfold hcopy
  rcases (show j = 3 ∨ j = 4 ∨ j = 5 ∨ j = 6 ∨ j = 7 ∨ j = 8 ∨ j = 9 ∨ j = 10 by omega) with rfl | rfl | rfl | rfl | rfl | rfl | rfl | rfl <;>
    simp [zup, zrow, upd, n1, n2, n4, n6]
theorem hcopy_A {G : Nat → Nat → Int32} {a b j : Nat} (hab : zApart a b) (h : j < 55) : hcopy G a b (a + 2) j = G (b + 2) j := by
  unfold hcopy
  simp [zup, zrow, upd, cpy_in h]
theorem hcopy_B {G : Nat → Nat → Int32} {a b j : Nat} (hab : zApart a b) (h : j < 276) : hcopy G a b (a + 4) j = G (b + 4) j := by
  have n2 : b + 4 ≠ a + 2 := by unfold zApart at hab; omega
  have n3 : ¬ (b + 4 = a + 2) := n2
  unfold hcopy
  simp [zup, zrow, upd, cpy_in h, n3]
theorem hcopy_C {G : Nat → Nat → Int32} {a b j : Nat} (hab : zApart a b) (h : j < 5) : hcopy G a b (a + 6) j = G (b + 6) j := by
  have n2 : ¬ (b + 6 = a + 2) := by unfold zApart at hab; omega
  have n4 : ¬ (b + 6 = a + 4) := by unfold zApart at hab; omega
  unfold hcopy
  simp [zup, zrow, upd, cpy_in h, n2, n4]
theorem hcopy_o {G : Nat → Nat → Int32} {a b r : Nat} (h0 : r ≠ a) (h2 : r ≠ a + 2) (h4 : r ≠ a + 4) (h6 : r ≠ a + 6) : hcopy G a b r = G r := by
  unfold hcopy
  rw [zup_ro h0, zup_ro h0, zup_ro h0, zup_ro h0, zup_ro h0, zup_ro h0, zup_ro h0, zup_ro h0, zrow_ro h6, zrow_ro h4, zrow_ro h2]
/-- the house at a, as a house -/
def HRat (D : Nat) (G : Nat → Nat → Int32) (a : Nat) (v : Nat → Int32) : Prop := HR D (G a) (G (a + 2)) (G (a + 4)) (G (a + 6)) v
theorem HRat_copy {D : Nat} {G : Nat → Nat → Int32} {a b : Nat} {v v' : Nat → Int32} (hab : zApart a b) (h : HRat D G b v) (hv : ∀ j, j < 327 → v' j = v j) : HRat D (hcopy G a b) a v' :=
  HR.congr h (fun j h1 h2 => hcopy_I hab h1 h2) (fun j hj => hcopy_A hab hj) (fun j hj => hcopy_B hab hj) (fun j hj => hcopy_C hab hj) hv
theorem HRat_same {D : Nat} {G G' : Nat → Nat → Int32} {a : Nat} {v v' : Nat → Int32} (h : HRat D G a v) (h0 : G' a = G a) (h2 : G' (a + 2) = G (a + 2)) (h4 : G' (a + 4) = G (a + 4)) (h6 : G' (a + 6) = G (a + 6)) (hv : ∀ j, j < 327 → v' j = v j) : HRat D G' a v' := by
  unfold HRat
  rw [h0, h2, h4, h6]
  exact HR.congr h (fun _ _ _ => rfl) (fun _ _ => rfl) (fun _ _ => rfl) (fun _ _ => rfl) hv
/-- the kept house at the place f of the ring -/
def kb (f : Nat) : Nat := 18 + 7 * f
theorem sc_keep {G : Nat → Nat → Int32} {f : Nat} (hfree : G 9 3 = nI f) (hf : f < 9) : zden 14 0 [.ref 9, .ref 2, .retAddr 0] [] (zSH, G) = some (none, (zSH, hcopy G (kb f) 2)) :=
  (B_Hi_keep_0 hfree hf).trans (B_Hi_keep_32 hfree hf)
theorem sc_takeBack {G : Nat → Nat → Int32} {f : Nat} (hfree : G 9 3 = nI f) (hf : f < 9) : zden 16 0 [.ref 9, .ref 2, .retAddr 0] [] (zSH, G) = some (none, (zSH, hcopy G 2 (kb f))) :=
  (B_Hi_takeBack_0 hfree hf).trans (B_Hi_takeBack_32 hfree hf)
theorem nIlit_9 : (9 : Int32) = nI 9 := by decide
theorem nI_rem9 {k : Nat} (hk : k < 2 ^ 31) : nI k - nI k / 9 * 9 = nI (k % 9) := by rw [nIlit_9]; exact pk_rem hk (by decide) (by decide)
theorem sc_settle {G : Nat → Nat → Int32} {x : Int32} {f u : Nat} (hx : ¬ x < 0) (hfree : G 9 3 = nI f) (hf : f < 9) (hu : G 9 4 = nI u) (hu8 : u ≤ 8) :
    ∃ G' : Nat → Nat → Int32, zden 15 0 [.ref 9, .int x] [] (zSH, G) = some (some (.int x), (zSH, G')) ∧ G' 9 3 = nI ((f + 1) % 9) ∧ G' 9 4 = nI (if u = 8 then 8 else u + 1) ∧ (∀ j, j ≠ 3 → j ≠ 4 → G' 9 j = G 9 j) ∧ ∀ r, r ≠ 9 → G' r = G r := by
  refine ⟨_, (B_Hi_settle_0).trans (if_neg hx), ?_, ?_, fun j h3 h4 => by rw [zup_rk h4, zup_rk h3], fun r hr => by rw [zup_ro hr, zup_ro hr]⟩
  · rw [zup_rk (by decide), zup_rr, hfree, nI_1, nI_rem9 (by omega)]
  · rw [zup_rr, zup_rk (by decide), hu, nI_1]
    by_cases h8 : u = 8
    · subst h8
      rw [if_pos (by decide), if_pos rfl]; decide
    · rw [if_neg h8, if_neg (by rw [nIlit_8]; exact nI_nlt (by omega) (by decide))]
theorem sc_settle_neg {G : Nat → Nat → Int32} {x : Int32} (hx : x < 0) : zden 15 0 [.ref 9, .int x] [] (zSH, G) = some (some (.int x), (zSH, G)) := (B_Hi_settle_0).trans (if_pos hx)
