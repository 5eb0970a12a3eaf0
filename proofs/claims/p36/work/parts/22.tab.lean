-- 22: what Table's methods do
theorem zin_of {i : Int32} {n : Nat} (hn : n < 2 ^ 31) (h1 : ¬ i < 0) (h2 : ¬ Int32.ofNat n ≤ i) : zin i n = true := by
  unfold zin
  simp only [Bool.not_eq_true', Bool.or_eq_false_iff, decide_eq_false_iff_not]
  refine ⟨h1, fun h3 => h2 ?_⟩
  obtain ⟨j, hj, rfl⟩ := nI_of h1
  rw [nI_clamp hj] at h3
  exact nI_le h3 hj
def tget (G : Nat → Nat → Int32) (r q n : Nat) (row col : Int32) : Int32 :=
  if row < 0 then 0 else if G r 0 ≤ row then 0 else if col < 0 then 0 else if col < G r 1 then (if row * G r 1 + col < 0 then 0 else if Int32.ofNat n ≤ row * G r 1 + col then 0 else G q (row * G r 1 + col).toNatClampNeg) else 0
def tset (G : Nat → Nat → Int32) (r q n : Nat) (row col x : Int32) : Nat → Nat → Int32 :=
  if row < 0 then G else if G r 0 ≤ row then G else if col < 0 then G else if col < G r 1 then (if row * G r 1 + col < 0 then G else if Int32.ofNat n ≤ row * G r 1 + col then G else zup G q (row * G r 1 + col).toNatClampNeg x) else G
section ZTab
variable {G : Nat → Nat → Int32} {r q n : Nat}
theorem sp_get {row col : Int32} (hs : zSH[r]? = some (.inl (5, [none, none, some q]))) (hq : zSH[q]? = some (.inr (.int, n, []))) (hql : Nat.blt q 1000000 = true) (hn : n < 2 ^ 31) :
    zden 53 0 [.ref r, .int row, .int col, .retAddr 0] [] (zSH, G) = some (some (.int (tget G r q n row col)), (zSH, G)) := by
  rw [B_Ta_get_0 hs hq hql]
  unfold tget
  by_cases h1 : row < 0
  · simp only [if_pos h1]
  by_cases h2 : G r 0 ≤ row
  · simp only [if_neg h1, if_pos h2]
  by_cases h3 : col < 0
  · simp only [if_neg h1, if_neg h2, if_pos h3]
  by_cases h4 : col < G r 1
  · by_cases h5 : row * G r 1 + col < 0
    · simp only [if_neg h1, if_neg h2, if_neg h3, if_pos h4, if_pos h5]
    · by_cases h6 : Int32.ofNat n ≤ row * G r 1 + col
      · simp only [if_neg h1, if_neg h2, if_neg h3, if_pos h4, if_neg h5, if_pos h6]
      · simp only [if_neg h1, if_neg h2, if_neg h3, if_pos h4, if_neg h5, if_neg h6, if_pos (zin_of hn h5 h6)]
  · simp only [if_neg h1, if_neg h2, if_neg h3, if_neg h4]
theorem sp_set {row col x : Int32} (hs : zSH[r]? = some (.inl (5, [none, none, some q]))) (hq : zSH[q]? = some (.inr (.int, n, []))) (hql : Nat.blt q 1000000 = true) (hn : n < 2 ^ 31) :
    zden 51 0 [.ref r, .int row, .int col, .int x, .retAddr 0] [] (zSH, G) = some (none, (zSH, tset G r q n row col x)) := by
  rw [B_Ta_set_0 hs hq hql]
  unfold tset
  by_cases h1 : row < 0
  · simp only [if_pos h1]
  by_cases h2 : G r 0 ≤ row
  · simp only [if_neg h1, if_pos h2]
  by_cases h3 : col < 0
  · simp only [if_neg h1, if_neg h2, if_pos h3]
  by_cases h4 : col < G r 1
  · by_cases h5 : row * G r 1 + col < 0
    · simp only [if_neg h1, if_neg h2, if_neg h3, if_pos h4, if_pos h5]
    · by_cases h6 : Int32.ofNat n ≤ row * G r 1 + col
      · simp only [if_neg h1, if_neg h2, if_neg h3, if_pos h4, if_neg h5, if_pos h6]
      · simp only [if_neg h1, if_neg h2, if_neg h3, if_pos h4, if_neg h5, if_neg h6, if_pos (zin_of hn h5 h6)]
  · simp only [if_neg h1, if_neg h2, if_neg h3, if_neg h4]
end ZTab
/-- a place of a table that is there -/
theorem tget_in {G : Nat → Nat → Int32} {r q n R W i j : Nat} (h0 : G r 0 = nI R) (h1 : G r 1 = nI W) (hi : i < R) (hj : j < W) (hn : R * W ≤ n) (hm : n < 2 ^ 31) : tget G r q n (nI i) (nI j) = G q (i * W + j) := by
  have hlt : i * W + j < n := by
    have a : (i + 1) * W ≤ R * W := Nat.mul_le_mul_right _ hi
    rw [Nat.add_mul, Nat.one_mul] at a
    omega
  have hW : W ≤ R * W := Nat.le_mul_of_pos_left _ (by omega)
  have hR : R ≤ R * W := Nat.le_mul_of_pos_right _ (by omega)
  unfold tget
  rw [if_neg (nI_pos (by omega)), h0, if_neg (nI_ge hi (by omega)), if_neg (nI_pos (by omega)), h1, if_pos (nI_lt hj (by omega)), pk_mul, nI_add, if_neg (nI_pos (by omega))]
  rw [if_neg (show ¬ Int32.ofNat n ≤ nI (i * W + j) from nI_ge hlt hm), nI_clamp (by omega)]
theorem tset_in {G : Nat → Nat → Int32} {r q n R W i j : Nat} {x : Int32} (h0 : G r 0 = nI R) (h1 : G r 1 = nI W) (hi : i < R) (hj : j < W) (hn : R * W ≤ n) (hm : n < 2 ^ 31) : tset G r q n (nI i) (nI j) x = zup G q (i * W + j) x := by
  have hlt : i * W + j < n := by
    have a : (i + 1) * W ≤ R * W := Nat.mul_le_mul_right _ hi
    rw [Nat.add_mul, Nat.one_mul] at a
    omega
  have hW : W ≤ R * W := Nat.le_mul_of_pos_left _ (by omega)
  have hR : R ≤ R * W := Nat.le_mul_of_pos_right _ (by omega)
  unfold tset
  rw [if_neg (nI_pos (by omega)), h0, if_neg (nI_ge hi (by omega)), if_neg (nI_pos (by omega)), h1, if_pos (nI_lt hj (by omega)), pk_mul, nI_add, if_neg (nI_pos (by omega))]
  rw [if_neg (show ¬ Int32.ofNat n ≤ nI (i * W + j) from nI_ge hlt hm), nI_clamp (by omega)]
/-- a column that isn't there reads as 0 -/
theorem tget_neg {G : Nat → Nat → Int32} {r q n : Nat} {row col : Int32} (h : col < 0) : tget G r q n row col = 0 := by
  unfold tget
  by_cases h1 : row < 0
  · rw [if_pos h1]
  · rw [if_neg h1]
    by_cases h2 : G r 0 ≤ row
    · rw [if_pos h2]
    · rw [if_neg h2, if_pos h]
def bI (b : Prop) [Decidable b] : Int32 := if b then 1 else 0
theorem sp_isWithin {G : Nat → Nat → Int32} {x a b : Int32} : zden 71 0 [.int x, .int a, .int b] [] (zSH, G) = some (some (.int (bI (a ≤ x ∧ x ≤ b))), (zSH, G)) := by
  rw [B_T_isWithin_0]
  unfold bI
  by_cases h1 : x < a
  · rw [if_pos h1, if_neg (fun (q : a ≤ x ∧ x ≤ b) => Int32.not_le.mpr h1 q.1)]
  · rw [if_neg h1]
    by_cases h2 : b < x
    · rw [if_pos h2, if_neg (fun (q : a ≤ x ∧ x ≤ b) => Int32.not_le.mpr h2 q.2)]
    · rw [if_neg h2, if_pos ⟨Int32.not_lt.mp h1, Int32.not_lt.mp h2⟩]
