-- 30: what a house of the class holds
theorem zup_rr {G : Nat → Nat → Int32} {r k : Nat} {x : Int32} : zup G r k x r k = x := by unfold zup; rw [if_pos rfl]; exact pk_us
theorem zup_rk {G : Nat → Nat → Int32} {r k j : Nat} {x : Int32} (h : j ≠ k) : zup G r k x r j = G r j := by unfold zup; rw [if_pos rfl]; exact pk_un h
theorem zup_ro {G : Nat → Nat → Int32} {r k i : Nat} {x : Int32} (h : i ≠ r) : zup G r k x i = G i := if_neg h
theorem zrow_ro {G : Nat → Nat → Int32} {r i : Nat} {f : Nat → Int32} (h : i ≠ r) : zrow G r f i = G i := if_neg h
/-- the chief fibre of the parts p 0 .. p 3 -/
def chiefF (p : Nat → Int32) : Nat → Nat → Int32 → Int32
  | 0, _, c => c
  | d + 1, f, c => chiefF p d (f + 1) (if p c.toNatClampNeg ≤ p f then nI f else c)
def zR5 (lo hi : Nat) (x : Int32) : Prop := ∃ k : Nat, lo ≤ k ∧ k ≤ hi ∧ x = nI k
theorem zR5.mono {a b b' : Nat} {x : Int32} (h : zR5 a b x) (hb : b ≤ b') : zR5 a b' x := by
  obtain ⟨k, k1, k2, k3⟩ := h
  exact ⟨k, k1, by omega, k3⟩
/-- a heading -/
def HRh (A : Nat → Int32) (h : Nat) : Prop := zR5 1 98 (A (5 * h + 4)) ∧ zR5 0 4 (A (5 * h)) ∧ zR5 0 3 (A (5 * h + 1)) ∧ zR5 0 60 (A (5 * h + 2)) ∧ zR5 0 20 (A (5 * h + 3))
/-- the rows of headings: the codes go up, the last is 99 -/
def hOK (n : Nat) (A : Nat → Int32) : Prop := n ≤ 10 ∧ (∀ h, h < n → HRh A h) ∧ (A (5 * n) = 4 ∧ A (5 * n + 1) = 3 ∧ A (5 * n + 2) = 30 ∧ A (5 * n + 3) = 0 ∧ A (5 * n + 4) = 99) ∧ ∀ h, h + 1 < n → A (5 * h + 4) < A (5 * (h + 1) + 4)
/-- a good -/
def HRg (B : Nat → Int32) (g : Nat) : Prop :=
  zR5 0 2 (B (23 * g)) ∧ zR5 1 99 (B (23 * g + 1)) ∧ zR5 1 999 (B (23 * g + 2)) ∧ zR5 0 2 (B (23 * g + 3)) ∧ B (23 * g + 4) = chiefF (fun f => B (23 * g + 9 + f)) 3 1 0 ∧
  (∃ p b : Nat, b ≤ p ∧ p ≤ 1980 ∧ B (23 * g + 5) = nI p ∧ B (23 * g + 6) = nI b) ∧
  (B (23 * g + 7) = -15 ∨ 0 ≤ B (23 * g + 7)) ∧ (B (23 * g + 3) = 0 → B (23 * g + 7) = -15 ∧ B (23 * g + 5) = 0) ∧ (B (23 * g + 3) = 1 → 0 ≤ B (23 * g + 7)) ∧ (B (23 * g + 3) ≠ 2 → B (23 * g + 6) = 0) ∧
  (∀ f, f < 4 → zR5 0 100 (B (23 * g + 9 + f))) ∧ B (23 * g + 9) + B (23 * g + 10) + B (23 * g + 11) + B (23 * g + 12) = 100 ∧
  (∃ w : Nat, w ≤ 6 ∧ B (23 * g + 8) = nI w ∧ (∀ c, c < 5 → ∃ p l : Nat, p ≤ 99 * w ∧ l ≤ 6 ∧ B (23 * g + 13 + c) = nI p ∧ B (23 * g + 18 + c) = nI l ∧ (w = 0 → l = 0)) ∧ (0 < w → ∃ c, c < 5 ∧ B (23 * g + 13 + c) ≠ 0))
def sumI (f : Nat → Int32) : Nat → Nat → Int32 → Int32
  | 0, _, c => c
  | d + 1, i, c => sumI f d (i + 1) (c + f i)
def sumB (B : Nat → Int32) (k gn : Nat) : Int32 := sumI (fun g => B (23 * g + k)) gn 0 0
/-- the house of n headings and gn goods: numbers I, headings A, goods B, favours C; no later than day D -/
def HI (D n gn : Nat) (I A B C : Nat → Int32) : Prop :=
  hOK n A ∧ gn ≤ 12 ∧ I 3 = nI (n + 1) ∧ I 4 = nI gn ∧ zR5 0 (99 * D) (I 5) ∧ zR5 0 (9999 * D) (I 6) ∧ (∀ c, c < 5 → zR5 0 100 (C c)) ∧ (∀ g, g < gn → HRg B g) ∧
  (∀ g, gn ≤ g → g < 12 → ∀ j, j < 23 → B (23 * g + j) = 0) ∧ I 8 = sumB B 5 gn ∧ I 9 = sumB B 6 gn ∧ I 6 = I 7 + I 9 - I 8
theorem HI.mono {D D' n gn : Nat} {I A B C : Nat → Int32} (h : HI D n gn I A B C) (hd : D ≤ D') : HI D' n gn I A B C := by
  obtain ⟨h1, h2, h3, h4, h5, h6, h7⟩ := h
  exact ⟨h1, h2, h3, h4, h5.mono (by omega), h6.mono (by omega), h7⟩
theorem HRh.congr {A A' : Nat → Int32} {h : Nat} (hh : HRh A h) (hl : h < 10) (hA : ∀ j, j < 55 → A' j = A j) : HRh A' h := by
  unfold HRh at hh ⊢
  rw [hA (5 * h + 4) (by omega), hA (5 * h) (by omega), hA (5 * h + 1) (by omega), hA (5 * h + 2) (by omega), hA (5 * h + 3) (by omega)]
  exact hh
theorem hOK.congr {A A' : Nat → Int32} {n : Nat} (hh : hOK n A) (hA : ∀ j, j < 55 → A' j = A j) : hOK n A' := by
  obtain ⟨h1, h2, h3, h4⟩ := hh
  refine ⟨h1, fun h q => (h2 h q).congr (by omega) hA, ?_, fun h q => ?_⟩
  · rw [hA _ (by omega), hA _ (by omega), hA _ (by omega), hA _ (by omega), hA _ (by omega)]; exact h3
  · rw [hA _ (by omega), hA _ (by omega)]; exact h4 h q
theorem chiefF_congr {p q : Nat → Int32} : ∀ {d f : Nat} {c : Int32}, f + d ≤ 4 → zR5 0 3 c → (∀ j, j < 4 → p j = q j) → chiefF p d f c = chiefF q d f c := by
  intro d
  induction d with
  | zero => intro f c _ _ _; rfl
  | succ d ih =>
    intro f c h1 h2 h3
    unfold chiefF
    obtain ⟨k, k1, k2, rfl⟩ := h2
    rw [nI_clamp (by omega), h3 k (by omega), h3 f (by omega)]
    refine ih (by omega) ?_ h3
    by_cases hq : q k ≤ q f
    · rw [if_pos hq]; exact ⟨f, by omega, by omega, rfl⟩
    · rw [if_neg hq]; exact ⟨k, k1, k2, rfl⟩
/-- a good whose other numbers stay -/
theorem HRg.congr {B B' : Nat → Int32} {g : Nat} (hh : HRg B g) (hB : ∀ j, 23 * g ≤ j → j < 23 * g + 23 → B' j = B j) : HRg B' g := by
  have b0 : B' (23 * g) = B (23 * g) := hB _ (by omega) (by omega)
  have b : ∀ j, j < 23 → B' (23 * g + j) = B (23 * g + j) := fun j hj => hB _ (by omega) (by omega)
  have e9 : ∀ f, f < 4 → B' (23 * g + 9 + f) = B (23 * g + 9 + f) := fun f hf => hB _ (by omega) (by omega)
  have e13 : ∀ f, f < 5 → B' (23 * g + 13 + f) = B (23 * g + 13 + f) := fun f hf => hB _ (by omega) (by omega)
  have e18 : ∀ f, f < 5 → B' (23 * g + 18 + f) = B (23 * g + 18 + f) := fun f hf => hB _ (by omega) (by omega)
  obtain ⟨a0, a1, a2, a3, a4, ⟨p, q, a5, a6, a7, a8⟩, a9, a10, a11, a12, a13, a14, w, w1, w2, w3, w4⟩ := hh
  refine ⟨by rw [b0]; exact a0, by rw [b 1 (by omega)]; exact a1, by rw [b 2 (by omega)]; exact a2, by rw [b 3 (by omega)]; exact a3, ?_, ⟨p, q, a5, a6, by rw [b 5 (by omega)]; exact a7, by rw [b 6 (by omega)]; exact a8⟩,
    by rw [b 7 (by omega)]; exact a9, by rw [b 3 (by omega), b 7 (by omega), b 5 (by omega)]; exact a10, by rw [b 3 (by omega), b 7 (by omega)]; exact a11, by rw [b 3 (by omega), b 6 (by omega)]; exact a12, fun f hf => by rw [e9 f hf]; exact a13 f hf,
    by rw [b 9 (by omega), b 10 (by omega), b 11 (by omega), b 12 (by omega)]; exact a14, w, w1, by rw [b 8 (by omega)]; exact w2, fun c hc => ?_, fun q => ?_⟩
  · rw [b 4 (by omega), a4]
    exact chiefF_congr (by omega) ⟨0, by omega, by omega, rfl⟩ (fun j hj => (e9 j hj).symm)
  · rw [e13 c hc, e18 c hc]; exact w3 c hc
  · obtain ⟨c, hc, hne⟩ := w4 q
    exact ⟨c, hc, by rw [e13 c hc]; exact hne⟩
theorem sumI_congr {f f' : Nat → Int32} : ∀ {d i : Nat} {c : Int32}, (∀ j, i ≤ j → j < i + d → f' j = f j) → sumI f' d i c = sumI f d i c := by
  intro d
  induction d with
  | zero => intro i c _; rfl
  | succ d ih =>
    intro i c h
    show sumI f' d (i + 1) (c + f' i) = sumI f d (i + 1) (c + f i)
    rw [h i (Nat.le_refl _) (by omega)]
    exact ih (fun j h1 h2 => h j (by omega) (by omega))
theorem sumI_add {f : Nat → Int32} : ∀ {d i : Nat} {c x : Int32}, sumI f d i (c + x) = sumI f d i c + x := by
  intro d
  induction d with
  | zero => intro i c x; rfl
  | succ d ih =>
    intro i c x
    show sumI f d (i + 1) (c + x + f i) = sumI f d (i + 1) (c + f i) + x
    rw [Int32.add_assoc, Int32.add_comm x, ← Int32.add_assoc]
    exact ih
/-- one more at one place -/
theorem sumI_chg {f f' : Nat → Int32} {g : Nat} {x : Int32} (hg : f' g = f g + x) : ∀ {d i : Nat} {c : Int32}, i ≤ g → g < i + d → (∀ j, i ≤ j → j < i + d → j ≠ g → f' j = f j) → sumI f' d i c = sumI f d i c + x := by
  intro d
  induction d with
  | zero => intro i c h1 h2 _; omega
  | succ d ih =>
    intro i c h1 h2 h3
    show sumI f' d (i + 1) (c + f' i) = sumI f d (i + 1) (c + f i) + x
    by_cases e : i = g
    · subst e
      rw [hg, ← Int32.add_assoc, sumI_add]
      exact congrArg (· + x) (sumI_congr (fun j q1 q2 => h3 j (by omega) (by omega) (by omega)))
    · rw [h3 i (Nat.le_refl _) (by omega) e]
      exact ih (by omega) (by omega) (fun j q1 q2 q3 => h3 j (by omega) (by omega) q3)
theorem sumI_last {f : Nat → Int32} : ∀ {d i : Nat} {c : Int32}, sumI f (d + 1) i c = sumI f d i c + f (i + d) := by
  intro d
  induction d with
  | zero => intro i c; rfl
  | succ d ih =>
    intro i c
    show sumI f (d + 1) (i + 1) (c + f i) = sumI f d (i + 1) (c + f i) + f (i + (d + 1))
    rw [ih]
    exact congrArg (fun k => sumI f d (i + 1) (c + f i) + f k) (by omega)
theorem sumB_congr {B B' : Nat → Int32} {k gn : Nat} (h : ∀ g, g < gn → B' (23 * g + k) = B (23 * g + k)) : sumB B' k gn = sumB B k gn := sumI_congr (fun j _ q => h j (by omega))
theorem sumB_chg {B B' : Nat → Int32} {k gn g : Nat} {x : Int32} (hg : g < gn) (hx : B' (23 * g + k) = B (23 * g + k) + x) (h : ∀ j, j < gn → j ≠ g → B' (23 * j + k) = B (23 * j + k)) : sumB B' k gn = sumB B k gn + x :=
  sumI_chg (f := fun j => B (23 * j + k)) (f' := fun j => B' (23 * j + k)) hx (Nat.zero_le _) (by omega) (fun j _ q => h j (by omega))
theorem sumB_new {B B' : Nat → Int32} {k gn : Nat} (hx : B' (23 * gn + k) = 0) (h : ∀ j, j < gn → B' (23 * j + k) = B (23 * j + k)) : sumB B' k (gn + 1) = sumB B k gn := by
  unfold sumB
  rw [sumI_last, Nat.zero_add, hx, Int32.add_zero]
  exact sumI_congr (fun j _ q => h j (by omega))
/-- it speaks of the numbers that are there alone -/
theorem HI.congr {D n gn : Nat} {I A B C I' A' B' C' : Nat → Int32} (h : HI D n gn I A B C) (hI : ∀ j, 3 ≤ j → j ≤ 10 → I' j = I j) (hA : ∀ j, j < 55 → A' j = A j) (hB : ∀ j, j < 276 → B' j = B j) (hC : ∀ j, j < 5 → C' j = C j) : HI D n gn I' A' B' C' := by
  obtain ⟨h1, h2, h3, h4, h5, h6, h7, h8, h9, h10, h11, h12⟩ := h
  refine ⟨h1.congr hA, h2, ?_, ?_, ?_, ?_, ?_, ?_, ?_, ?_, ?_, ?_⟩
  · rw [hI _ (by omega) (by omega)]; exact h3
  · rw [hI _ (by omega) (by omega)]; exact h4
  · rw [hI _ (by omega) (by omega)]; exact h5
  · rw [hI _ (by omega) (by omega)]; exact h6
  · intro c hc; rw [hC c hc]; exact h7 c hc
  · exact fun g hg => (h8 g hg).congr (fun j _ _ => hB j (by omega))
  · intro g g1 g2 j hj; rw [hB _ (by omega)]; exact h9 g g1 g2 j hj
  · rw [hI _ (by omega) (by omega), h10]; exact (sumB_congr (fun g hg => hB _ (by omega))).symm
  · rw [hI _ (by omega) (by omega), h11]; exact (sumB_congr (fun g hg => hB _ (by omega))).symm
  · rw [hI _ (by omega) (by omega), hI _ (by omega) (by omega), hI _ (by omega) (by omega), hI _ (by omega) (by omega)]; exact h12
