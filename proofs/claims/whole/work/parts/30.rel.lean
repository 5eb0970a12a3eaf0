-- 30: when a house of the class and a row of the model are the same house
theorem zup_rr {G : Nat → Nat → Int32} {r k : Nat} {x : Int32} : zup G r k x r k = x := by unfold zup; rw [if_pos rfl]; exact pk_us
theorem zup_rk {G : Nat → Nat → Int32} {r k j : Nat} {x : Int32} (h : j ≠ k) : zup G r k x r j = G r j := by unfold zup; rw [if_pos rfl]; exact pk_un h
theorem zup_ro {G : Nat → Nat → Int32} {r k i : Nat} {x : Int32} (h : i ≠ r) : zup G r k x i = G i := if_neg h
theorem zrow_ro {G : Nat → Nat → Int32} {r i : Nat} {f : Nat → Int32} (h : i ≠ r) : zrow G r f i = G i := if_neg h
/-- the chief fibre of the parts p 0 .. p 3 -/
def chiefF (p : Nat → Int32) : Nat → Nat → Int32 → Int32
  | 0, _, c => c
  | d + 1, f, c => chiefF p d (f + 1) (if p c.toNatClampNeg ≤ p f then nI f else c)
def zR5 (lo hi : Nat) (x : Int32) : Prop := ∃ k : Nat, lo ≤ k ∧ k ≤ hi ∧ x = nI k
/-- a heading -/
def HRh (A v : Nat → Int32) (h : Nat) : Prop :=
  A (5 * h + 4) = v (13 + 5 * h) ∧ A (5 * h) = v (14 + 5 * h) ∧ A (5 * h + 1) = v (15 + 5 * h) ∧ A (5 * h + 2) = v (16 + 5 * h) ∧ A (5 * h + 3) = v (17 + 5 * h) ∧
  zR5 1 98 (A (5 * h + 4)) ∧ zR5 0 4 (A (5 * h)) ∧ zR5 0 3 (A (5 * h + 1)) ∧ zR5 0 60 (A (5 * h + 2)) ∧ zR5 0 20 (A (5 * h + 3))
/-- a good -/
def HRg (B v : Nat → Int32) (g : Nat) : Prop :=
  B (23 * g) = v (63 + 22 * g) ∧ B (23 * g + 1) = v (64 + 22 * g) ∧ B (23 * g + 2) = v (65 + 22 * g) ∧ B (23 * g + 3) = v (70 + 22 * g) ∧
  B (23 * g + 4) = chiefF (fun f => B (23 * g + 9 + f)) 3 1 0 ∧ B (23 * g + 5) = v (71 + 22 * g) ∧ B (23 * g + 6) = v (72 + 22 * g) ∧
  ((B (23 * g + 7) = -15 ∧ v (73 + 22 * g) = -1) ∨ (0 ≤ B (23 * g + 7) ∧ B (23 * g + 7) = v (73 + 22 * g))) ∧ B (23 * g + 8) = v (74 + 22 * g) ∧
  (∀ f, f < 4 → B (23 * g + 9 + f) = v (66 + 22 * g + f) ∧ zR5 0 100 (B (23 * g + 9 + f))) ∧
  (∀ c, c < 5 → B (23 * g + 13 + c) = v (75 + 22 * g + c) ∧ B (23 * g + 18 + c) = v (80 + 22 * g + c) ∧ zR5 0 594 (B (23 * g + 13 + c)) ∧ zR5 0 6 (B (23 * g + 18 + c))) ∧
  zR5 0 2 (B (23 * g)) ∧ zR5 1 99 (B (23 * g + 1)) ∧ zR5 1 999 (B (23 * g + 2)) ∧ zR5 0 2 (B (23 * g + 3)) ∧ zR5 0 1980 (B (23 * g + 5)) ∧ (B (23 * g + 3) = 1 → 0 ≤ B (23 * g + 7)) ∧
  (∃ w : Nat, w ≤ 6 ∧ B (23 * g + 8) = nI w ∧ (∀ c, c < 5 → ∃ k : Nat, k ≤ 99 * w ∧ B (23 * g + 13 + c) = nI k) ∧ (w = 0 → ∀ c, c < 5 → B (23 * g + 18 + c) = 0) ∧ (0 < w → ∃ c, c < 5 ∧ B (23 * g + 13 + c) ≠ 0))
/-- the house (numbers I, headings A, goods B, favours C) is the model's row v, no later than day D -/
def HR (D : Nat) (I A B C v : Nat → Int32) : Prop := ∃ n gn : Nat, n ≤ 10 ∧ gn ≤ 12 ∧
  I 3 = nI (n + 1) ∧ v 1 = nI n ∧ I 4 = nI gn ∧ v 2 = nI gn ∧
  I 5 = v 0 ∧ I 6 = v 3 ∧ I 7 = v 4 ∧ I 8 = v 5 ∧ I 9 = v 6 ∧ I 10 = v 7 ∧ zR5 0 (99 * D) (I 5) ∧ zR5 0 (9999 * D) (I 6) ∧
  (∀ c, c < 5 → C c = v (8 + c) ∧ zR5 0 100 (C c)) ∧
  (∀ h, h < n → HRh A v h) ∧ (∀ h, h + 1 < n → A (5 * h + 4) < A (5 * (h + 1) + 4)) ∧
  (A (5 * n) = 4 ∧ A (5 * n + 1) = 3 ∧ A (5 * n + 2) = 30 ∧ A (5 * n + 3) = 0 ∧ A (5 * n + 4) = 99) ∧
  (∀ g, g < gn → HRg B v g) ∧ (∀ g, gn ≤ g → g < 12 → ∀ j, j < 23 → B (23 * g + j) = 0)
theorem HR.mono {D D' : Nat} {I A B C v : Nat → Int32} (h : HR D I A B C v) (hd : D ≤ D') : HR D' I A B C v := by
  obtain ⟨n, gn, h1, h2, h3, h4, h5, h6, h7, h8, h9, h10, h11, h12, ⟨k, k1, k2, k3⟩, ⟨m, m1, m2, m3⟩, h14⟩ := h
  exact ⟨n, gn, h1, h2, h3, h4, h5, h6, h7, h8, h9, h10, h11, h12, ⟨k, k1, by omega, k3⟩, ⟨m, m1, by omega, m3⟩, h14⟩
theorem HRh.congr {A A' v v' : Nat → Int32} {h : Nat} (hh : HRh A v h) (hl : h < 10) (hA : ∀ j, j < 55 → A' j = A j) (hv : ∀ j, 13 ≤ j → j < 63 → v' j = v j) : HRh A' v' h := by
  unfold HRh at hh ⊢
  rw [hA (5 * h + 4) (by omega), hA (5 * h) (by omega), hA (5 * h + 1) (by omega), hA (5 * h + 2) (by omega), hA (5 * h + 3) (by omega), hv (13 + 5 * h) (by omega) (by omega), hv (14 + 5 * h) (by omega) (by omega), hv (15 + 5 * h) (by omega) (by omega), hv (16 + 5 * h) (by omega) (by omega), hv (17 + 5 * h) (by omega) (by omega)]
  exact hh
theorem chiefF_congr {p q : Nat → Int32} : ∀ {d f : Nat} {c : Int32}, f + d ≤ 4 → zR5 0 3 c → (∀ j, j < 4 → p j = q j) → chiefF p d f c = chiefF q d f c := by
  intro d
  induction d with
  | zero => intro f c _ _ _; rfl
  | succ d ih =>
    intro f c h1 h2 h3
    unfold chiefF
    obtain ⟨k, k1, k2, rfl⟩ := h2
    rw [nI_clamp (by omega), h3 k (by omega), h3 f (by omega)]
    refine ih (by omega) ?_ h3
    by_cases hq : q k ≤ q f
    · rw [if_pos hq]; exact ⟨f, by omega, by omega, rfl⟩
    · rw [if_neg hq]; exact ⟨k, k1, k2, rfl⟩
theorem HRg.congr {B B' v v' : Nat → Int32} {g : Nat} (hh : HRg B v g) (hB : ∀ j, 23 * g ≤ j → j < 23 * g + 23 → B' j = B j) (hv : ∀ j, 63 + 22 * g ≤ j → j < 85 + 22 * g → v' j = v j) : HRg B' v' g := by
  have hb : ∀ j, j < 23 → B' (23 * g + j) = B (23 * g + j) := fun j hj => hB _ (by omega) (by omega)
  have hb0 : B' (23 * g) = B (23 * g) := hB _ (by omega) (by omega)
  have e9 : ∀ f, f < 4 → B' (23 * g + 9 + f) = B (23 * g + 9 + f) := fun f hf => hB _ (by omega) (by omega)
  have e13 : ∀ f, f < 5 → B' (23 * g + 13 + f) = B (23 * g + 13 + f) := fun f hf => hB _ (by omega) (by omega)
  have e18 : ∀ f, f < 5 → B' (23 * g + 18 + f) = B (23 * g + 18 + f) := fun f hf => hB _ (by omega) (by omega)
  obtain ⟨a1, a2, a3, a4, a5, a6, a7, a8, a9, a10, a11, a12, a13, a14, a15, a16, a17, w, w1, w2, w3, w4, w5⟩ := hh
  refine ⟨?_, ?_, ?_, ?_, ?_, ?_, ?_, ?_, ?_, ?_, ?_, ?_, ?_, ?_, ?_, ?_, ?_, w, w1, ?_, ?_, ?_, ?_⟩
  · rw [hb0, hv _ (by omega) (by omega)]; exact a1
  · rw [hb _ (by omega), hv _ (by omega) (by omega)]; exact a2
  · rw [hb _ (by omega), hv _ (by omega) (by omega)]; exact a3
  · rw [hb _ (by omega), hv _ (by omega) (by omega)]; exact a4
  · rw [hb _ (by omega), a5]
    exact chiefF_congr (by omega) ⟨0, by omega, by omega, rfl⟩ (fun j hj => (e9 j hj).symm)
  · rw [hb _ (by omega), hv _ (by omega) (by omega)]; exact a6
  · rw [hb _ (by omega), hv _ (by omega) (by omega)]; exact a7
  · rw [hb _ (by omega), hv _ (by omega) (by omega)]; exact a8
  · rw [hb _ (by omega), hv _ (by omega) (by omega)]; exact a9
  · intro f hf; rw [e9 f hf, hv _ (by omega) (by omega)]; exact a10 f hf
  · intro f hf; rw [e13 f hf, e18 f hf, hv _ (by omega) (by omega), hv _ (by omega) (by omega)]; exact a11 f hf
  · rw [hb0]; exact a12
  · rw [hb _ (by omega)]; exact a13
  · rw [hb _ (by omega)]; exact a14
  · rw [hb _ (by omega)]; exact a15
  · rw [hb _ (by omega)]; exact a16
  · rw [hb _ (by omega), hb _ (by omega)]; exact a17
  · rw [hb _ (by omega)]; exact w2
  · intro c hc; rw [e13 c hc]; exact w3 c hc
  · intro hw c hc; rw [e18 c hc]; exact w4 hw c hc
  · intro hw
    obtain ⟨c, hc, hne⟩ := w5 hw
    exact ⟨c, hc, by rw [e13 c hc]; exact hne⟩
/-- it speaks of the numbers that are there alone -/
theorem HR.congr {D : Nat} {I A B C v I' A' B' C' v' : Nat → Int32} (h : HR D I A B C v) (hI : ∀ j, 3 ≤ j → j ≤ 10 → I' j = I j) (hA : ∀ j, j < 55 → A' j = A j) (hB : ∀ j, j < 276 → B' j = B j) (hC : ∀ j, j < 5 → C' j = C j) (hv : ∀ j, j < 327 → v' j = v j) : HR D I' A' B' C' v' := by
  obtain ⟨n, gn, h1, h2, h3, h4, h5, h6, h7, h8, h9, h10, h11, h12, h13, h13b, h14, h15, h16, h17, h18, h19⟩ := h
  refine ⟨n, gn, h1, h2, ?_, ?_, ?_, ?_, ?_, ?_, ?_, ?_, ?_, ?_, ?_, ?_, ?_, ?_, ?_, ?_, ?_, ?_⟩
  · rw [hI _ (by omega) (by omega)]; exact h3
  · rw [hv _ (by omega)]; exact h4
  · rw [hI _ (by omega) (by omega)]; exact h5
  · rw [hv _ (by omega)]; exact h6
  · rw [hI _ (by omega) (by omega), hv _ (by omega)]; exact h7
  · rw [hI _ (by omega) (by omega), hv _ (by omega)]; exact h8
  · rw [hI _ (by omega) (by omega), hv _ (by omega)]; exact h9
  · rw [hI _ (by omega) (by omega), hv _ (by omega)]; exact h10
  · rw [hI _ (by omega) (by omega), hv _ (by omega)]; exact h11
  · rw [hI _ (by omega) (by omega), hv _ (by omega)]; exact h12
  · rw [hI _ (by omega) (by omega)]; exact h13
  · rw [hI _ (by omega) (by omega)]; exact h13b
  · intro c hc; rw [hC c hc, hv _ (by omega)]; exact h14 c hc
  · exact fun h hh => (h15 h hh).congr (by omega) hA (fun j _ q => hv j (by omega))
  · intro h hh; rw [hA _ (by omega), hA _ (by omega)]; exact h16 h hh
  · rw [hA _ (by omega), hA _ (by omega), hA _ (by omega), hA _ (by omega), hA _ (by omega)]; exact h17
  · exact fun g hg => (h18 g hg).congr (fun j _ _ => hB j (by omega)) (fun j _ _ => hv j (by omega))
  · intro g g1 g2 j hj; rw [hB _ (by omega)]; exact h19 g g1 g2 j hj
