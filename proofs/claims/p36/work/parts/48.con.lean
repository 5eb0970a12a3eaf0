-- 48: contracts of next, cell, some, someCode, told
theorem u16_nI (x : Int32) : ∃ k : Nat, k < 65536 ∧ (Int32.toUInt32 x >>> (Int32.toUInt32 16 &&& Int32.toUInt32 31)).toInt32 = nI k := by
  have e : Int32.toUInt32 16 &&& Int32.toUInt32 31 = 16 := by decide
  rw [e]
  refine ⟨(x.toUInt32 >>> 16).toNat, ?_, ?_⟩
  · have h1 : (x.toUInt32 >>> 16).toNat = x.toUInt32.toNat / 65536 := by
      rw [UInt32.toNat_shiftRight]
      show x.toUInt32.toNat >>> 16 = _
      rw [Nat.shiftRight_eq_div_pow]
    have := x.toUInt32.toNat_lt
    omega
  · generalize x.toUInt32 >>> 16 = u
    unfold nI
    apply Int32.toBitVec.inj
    show u.toBitVec = BitVec.ofNat 32 u.toBitVec.toNat
    rw [BitVec.ofNat_toNat, BitVec.setWidth_eq]
section ZNx
variable {E : List zS} {G : Nat → Nat → Int32} {b : Nat}
theorem x_next {x : Int32} {m : Nat} (hb : (zSH ++ E)[b]? = some (.inl (8, [none]))) (hb9 : 90 ≤ b ∧ b < 1000000) (hx : x = nI m) (m0 : 0 < m) (m31 : m < 2 ^ 31) :
    ∃ (v : Nat) (G1 : Nat → Nat → Int32), zden 106 0 [.ref b, .int x] [] (zSH ++ E, G) = some (some (.int (nI v)), (zSH ++ E, G1)) ∧ v < m ∧ ∀ i, i ≠ b → G1 i = G i := by
  obtain ⟨k, k1, k2⟩ := u16_nI (zup G b 0 (G b 0 * 1103515245 + 12345) b 0)
  refine ⟨k % m, zup G b 0 (G b 0 * 1103515245 + 12345), ?_, Nat.mod_lt _ m0, fun i hi => ?_⟩
  · rw [B_B_next_0 hb hb9 (by rw [hx]; exact nI_ne0 m0 m31), k2, hx, pk_rem (by omega) (by omega) (by omega)]
  · exact zup_ro hi
theorem x_cell {L : Nat} {i : Nat} (hL : G 2000001 0 = nI L) (L31 : L < 2 ^ 20) (hi : i < 2 ^ 20) : ∃ v : Int32, zden 119 0 [.ref 2000000, .int (nI i)] [] (zSH ++ E, G) = some (some (.int v), (zSH ++ E, G)) := by
  by_cases h : L = 0
  · subst h
    have z : G 2000001 0 = 0 := hL
    exact ⟨_, (B_L_cell_0 (fun q => absurd z q) (fun q => absurd z q)).trans (if_neg (fun q => q z))⟩
  · have z : ¬ G 2000001 0 = 0 := by rw [hL]; exact nI_ne0 (by omega) (by omega)
    refine ⟨_, (B_L_cell_0 (fun q => q) (fun _ => ?_)).trans (if_pos z)⟩
    rw [hL, pk_rem (by omega) (by omega) (by omega)]
    have := Nat.mod_lt i (show 0 < L by omega)
    exact ⟨nI_pos' (by omega), nI_lt this (by omega)⟩
theorem x_some {D n gn : Nat} {rv : Nat → Int32 → Int32 → Int32} (hb : (zSH ++ E)[b]? = some (.inl (8, [none]))) (hb9 : 90 ≤ b ∧ b < 1000000) (hP : RDs G rv) (w : zWT G) (h : HIat D n gn G) :
    ∃ (v : Int32) (G1 : Nat → Nat → Int32), zden 122 0 [.ref 0, .ref b] [] (zSH ++ E, G) = some (some (.int v), (zSH ++ E, G1)) ∧ ∀ i, i ≠ b → G1 i = G i := by
  obtain ⟨v1, G1, q1, q2, q3⟩ := x_next (G := G) (x := 20) (m := 20) hb hb9 (by decide) (by decide) (by decide)
  have s1 : sameR G G1 := fun i h1 h2 => q3 i (by omega)
  have gl := h.gl
  have e2 : rv 98 2 0 = nI gn := (v98 (k := 2) hP w h (by decide)).trans h.i4
  rw [B_L_some_0 hb hb9, q1, zaft_same]
  have e := B_L_some_6 (E := E) (s0 := nI v1) hb hb9 (hP.up s1)
  by_cases z : ¬ nI v1 = 0
  · rw [if_pos z] at e
    have hm : ∃ m : Nat, 0 < m ∧ m ≤ 12 ∧ (if 1 < rv 98 2 0 then rv 98 2 0 else 1) = nI m := by
      rw [e2]
      by_cases q : 1 < gn
      · exact ⟨gn, by omega, gl, if_pos (by rw [nIlit_1]; exact nI_lt q (by omega))⟩
      · exact ⟨1, by omega, by omega, (if_neg (by rw [nIlit_1]; exact nI_nlt (by omega) (by omega))).trans (by decide)⟩
    obtain ⟨m, m0, m1, m2⟩ := hm
    obtain ⟨v2, G2, p1, p2, p3⟩ := x_next (G := G1) hb hb9 m2 m0 (by omega)
    rw [p1, zaft_same] at e
    exact ⟨_, G2, e.trans (B_L_some_30 hb hb9), fun i hi => (p3 i hi).trans (q3 i hi)⟩
  · rw [if_neg z] at e
    exact ⟨_, G1, e, q3⟩
theorem x_someCode {D n gn : Nat} {rv : Nat → Int32 → Int32 → Int32} (hb : (zSH ++ E)[b]? = some (.inl (8, [none]))) (hb9 : 90 ≤ b ∧ b < 1000000) (hP : RDs G rv) (w : zWT G) (h : HIat D n gn G) :
    ∃ (v : Int32) (G1 : Nat → Nat → Int32), zden 121 0 [.ref 0, .ref b] [] (zSH ++ E, G) = some (some (.int v), (zSH ++ E, G1)) ∧ ∀ i, i ≠ b → G1 i = G i := by
  obtain ⟨v1, G1, q1, q2, q3⟩ := x_next (G := G) (x := 3) (m := 3) hb hb9 (by decide) (by decide) (by decide)
  have s1 : sameR G G1 := fun i h1 h2 => q3 i (by omega)
  have hn := h.ho.1
  have e1 : rv 98 1 0 = nI n := (v98 (k := 1) hP w h (by decide)).trans (by show G 2 3 - 1 = _; rw [show G 2 3 = nI (n + 1) from h.i3, nI_pred])
  rw [B_L_someCode_0 hb hb9, q1, zaft_same]
  have e := B_L_someCode_5 (E := E) (s0 := nI v1) hb hb9 (hP.up s1)
  by_cases z : ¬ nI v1 = 0
  · rw [if_pos z] at e
    obtain ⟨v2, G2, p1, p2, p3⟩ := x_next (G := G1) (x := rv 98 1 0 + 1) (m := n + 1) hb hb9 (by rw [e1, nI_1]) (by omega) (by omega)
    rw [p1, zaft_same] at e
    exact ⟨_, G2, e.trans (B_L_someCode_29 hb hb9 (hP.up (sr_tr s1 (fun i h1 h2 => p3 i (by omega))))), fun i hi => (p3 i hi).trans (q3 i hi)⟩
  · rw [if_neg z] at e
    obtain ⟨v2, G2, p1, p2, p3⟩ := x_next (G := G1) (x := 101) (m := 101) hb hb9 (by decide) (by omega) (by omega)
    rw [p1, zaft_same] at e
    exact ⟨_, G2, e.trans (B_L_someCode_14 hb hb9), fun i hi => (p3 i hi).trans (q3 i hi)⟩
end ZNx
theorem zne_lt {m r : Nat} (h : r < m) : zne m (.ref r) = true := by
  show (!Nat.beq r m) = true
  cases hq : Nat.beq r m with
  | false => rfl
  | true =>
    have := Nat.eq_of_beq_eq_true hq
    omega
-- told
def preV (V : Nat → Int32) (m : Nat) : Nat → Int32 := fun j => if j < m then V j else 0
theorem preV_step {G : Nat → Nat → Int32} {r m : Nat} {V : Nat → Int32} {x : Int32} (h : G r = preV V m) (hx : x = V m) : zup G r m x r = preV V (m + 1) := by
  funext j
  by_cases hj : j = m
  · subst hj
    rw [zup_rr, hx]
    unfold preV
    rw [if_pos (by omega)]
  · rw [zup_rk hj, h]
    unfold preV
    by_cases q : j < m
    · rw [if_pos q, if_pos (by omega)]
    · rw [if_neg q, if_neg (by omega)]
def tolV (rv : Nat → Int32 → Int32 → Int32) (j : Nat) : Int32 := if j < 12 then rv 98 (nI j) 0 else if j < 78 then (if (j - 12) % 6 = 0 then rv 74 (nI ((j - 12) / 6)) 0 else rv 73 (rv 74 (nI ((j - 12) / 6)) 0) (nI ((j - 12) % 6 - 1))) else
  if (j - 78) % 25 < 11 then rv 78 (nI ((j - 78) / 25)) (nI ((j - 78) % 25)) else if (j - 78) % 25 < 21 then (if ((j - 78) % 25 - 11) % 2 = 0 then rv 80 (nI ((j - 78) / 25)) (nI (((j - 78) % 25 - 11) / 2)) else rv 89 (nI ((j - 78) / 25)) (nI (((j - 78) % 25 - 11) / 2))) else rv 79 (nI ((j - 78) / 25)) (nI ((j - 78) % 25 - 21))
section ZTl
variable {rv : Nat → Int32 → Int32 → Int32}
theorem tolV_acc {j : Nat} (h : j < 12) : tolV rv j = rv 98 (nI j) 0 := if_pos h
theorem tolV_code {p : Nat} (h : p < 11) : tolV rv (12 + 6 * p) = rv 74 (nI p) 0 := by
  unfold tolV
  rw [if_neg (by omega), if_pos (by omega), if_pos (by omega), show (12 + 6 * p - 12) / 6 = p by omega]
theorem tolV_hd {p k : Nat} (h : p < 11) (hk : k < 5) : tolV rv (13 + 6 * p + k) = rv 73 (rv 74 (nI p) 0) (nI k) := by
  unfold tolV
  rw [if_neg (by omega), if_pos (by omega), if_neg (by omega), show (13 + 6 * p + k - 12) / 6 = p by omega, show (13 + 6 * p + k - 12) % 6 - 1 = k by omega]
theorem tolV_good {g k : Nat} (hk : k < 11) : tolV rv (78 + 25 * g + k) = rv 78 (nI g) (nI k) := by
  unfold tolV
  rw [if_neg (by omega), if_neg (by omega), if_pos (by omega), show (78 + 25 * g + k - 78) / 25 = g by omega, show (78 + 25 * g + k - 78) % 25 = k by omega]
theorem tolV_pts {g c : Nat} (hc : c < 5) : tolV rv (89 + 25 * g + 2 * c) = rv 80 (nI g) (nI c) := by
  rcases (show c = 0 ∨ c = 1 ∨ c = 2 ∨ c = 3 ∨ c = 4 by omega) with rfl | rfl | rfl | rfl | rfl
  · unfold tolV
    rw [if_neg (by omega), if_neg (by omega), if_neg (by omega), if_pos (by omega), if_pos (by omega), show (89 + 25 * g + 2 * 0 - 78) / 25 = g by omega, show ((89 + 25 * g + 2 * 0 - 78) % 25 - 11) / 2 = 0 by omega]
  · unfold tolV
    rw [if_neg (by omega), if_neg (by omega), if_neg (by omega), if_pos (by omega), if_pos (by omega), show (89 + 25 * g + 2 * 1 - 78) / 25 = g by omega, show ((89 + 25 * g + 2 * 1 - 78) % 25 - 11) / 2 = 1 by omega]
  · unfold tolV
    rw [if_neg (by omega), if_neg (by omega), if_neg (by omega), if_pos (by omega), if_pos (by omega), show (89 + 25 * g + 2 * 2 - 78) / 25 = g by omega, show ((89 + 25 * g + 2 * 2 - 78) % 25 - 11) / 2 = 2 by omega]
  · unfold tolV
    rw [if_neg (by omega), if_neg (by omega), if_neg (by omega), if_pos (by omega), if_pos (by omega), show (89 + 25 * g + 2 * 3 - 78) / 25 = g by omega, show ((89 + 25 * g + 2 * 3 - 78) % 25 - 11) / 2 = 3 by omega]
  · unfold tolV
    rw [if_neg (by omega), if_neg (by omega), if_neg (by omega), if_pos (by omega), if_pos (by omega), show (89 + 25 * g + 2 * 4 - 78) / 25 = g by omega, show ((89 + 25 * g + 2 * 4 - 78) % 25 - 11) / 2 = 4 by omega]
theorem tolV_would {g c : Nat} (hc : c < 5) : tolV rv (90 + 25 * g + 2 * c) = rv 89 (nI g) (nI c) := by
  rcases (show c = 0 ∨ c = 1 ∨ c = 2 ∨ c = 3 ∨ c = 4 by omega) with rfl | rfl | rfl | rfl | rfl
  · unfold tolV
    rw [if_neg (by omega), if_neg (by omega), if_neg (by omega), if_pos (by omega), if_neg (by omega), show (90 + 25 * g + 2 * 0 - 78) / 25 = g by omega, show ((90 + 25 * g + 2 * 0 - 78) % 25 - 11) / 2 = 0 by omega]
  · unfold tolV
    rw [if_neg (by omega), if_neg (by omega), if_neg (by omega), if_pos (by omega), if_neg (by omega), show (90 + 25 * g + 2 * 1 - 78) / 25 = g by omega, show ((90 + 25 * g + 2 * 1 - 78) % 25 - 11) / 2 = 1 by omega]
  · unfold tolV
    rw [if_neg (by omega), if_neg (by omega), if_neg (by omega), if_pos (by omega), if_neg (by omega), show (90 + 25 * g + 2 * 2 - 78) / 25 = g by omega, show ((90 + 25 * g + 2 * 2 - 78) % 25 - 11) / 2 = 2 by omega]
  · unfold tolV
    rw [if_neg (by omega), if_neg (by omega), if_neg (by omega), if_pos (by omega), if_neg (by omega), show (90 + 25 * g + 2 * 3 - 78) / 25 = g by omega, show ((90 + 25 * g + 2 * 3 - 78) % 25 - 11) / 2 = 3 by omega]
  · unfold tolV
    rw [if_neg (by omega), if_neg (by omega), if_neg (by omega), if_pos (by omega), if_neg (by omega), show (90 + 25 * g + 2 * 4 - 78) / 25 = g by omega, show ((90 + 25 * g + 2 * 4 - 78) % 25 - 11) / 2 = 4 by omega]
theorem tolV_part {g f : Nat} (hf : f < 4) : tolV rv (99 + 25 * g + f) = rv 79 (nI g) (nI f) := by
  unfold tolV
  rw [if_neg (by omega), if_neg (by omega), if_neg (by omega), if_neg (by omega), show (99 + 25 * g + f - 78) / 25 = g by omega, show (99 + 25 * g + f - 78) % 25 - 21 = f by omega]
variable {E : List zS} {r : Nat}
theorem sr_of {G X : Nat → Nat → Int32} (h9 : 90 ≤ r ∧ r < 1000000) (h : ∀ i, i ≠ r → X i = G i) : sameR G X := fun i h1 _ => h i (by omega)
theorem to10 (hr : (zSH ++ E)[r]? = some (.inr (.int, 420, []))) (hr9 : 90 ≤ r ∧ r < 1000000) : ∀ (d i : Nat) (G : Nat → Nat → Int32), i + d = 12 → RDs G rv → G r = preV (tolV rv) i →
    ∃ G' : Nat → Nat → Int32, zden 123 10 [.ref 0, .ref r, .int (nI i), .int (nI i), .retAddr 0, .retAddr 0] [] (zSH ++ E, G) = zden 123 35 [.ref 0, .ref r, .int (nI 12), .int 0, .retAddr 0, .retAddr 0] [] (zSH ++ E, G') ∧ G' r = preV (tolV rv) 12 ∧ ∀ k, k ≠ r → G' k = G k := by
  intro d
  induction d with
  | zero =>
    intro i G h hP hG
    have h : i = 12 := by omega
    subst h
    exact ⟨G, (B_L_told_10 hr hr9 hP (fun q => absurd (by decide) q)).trans (if_pos (by decide)), hG, fun _ _ => rfl⟩
  | succ d ih =>
    intro i G h hP hG
    have hn : ¬ (12 : Int32) ≤ nI i := by rw [show (12 : Int32) = nI 12 by decide]; exact nI_ge (by omega) (by decide)
    obtain ⟨G', q1, q2, q3⟩ := ih (i + 1) (zup G r i (rv 98 (nI i) 0)) (by omega) (hP.up (sr_up hr9 sr_rf)) (preV_step hG (tolV_acc (by omega)).symm)
    refine ⟨G', ?_, q2, fun k hk => (q3 k hk).trans (zup_ro hk)⟩
    rw [B_L_told_10 hr hr9 hP (fun _ => zin_nI (by omega) (by decide)), if_neg hn, nI_clamp (by omega), nI_1]
    exact q1
theorem to59 {p : Nat} (hp : p < 11) (hr : (zSH ++ E)[r]? = some (.inr (.int, 420, []))) (hr9 : 90 ≤ r ∧ r < 1000000) : ∀ (d k : Nat) (G : Nat → Nat → Int32), k + d = 5 → RDs G rv → G r = preV (tolV rv) (13 + 6 * p + k) →
    ∃ G' : Nat → Nat → Int32, zden 123 59 [.ref 0, .ref r, .int (nI (13 + 6 * p + k)), .int (nI p), .int (rv 74 (nI p) 0), .int (nI k)] [] (zSH ++ E, G) = zden 123 35 [.ref 0, .ref r, .int (nI (12 + 6 * (p + 1))), .int (nI (p + 1)), .int (rv 74 (nI p) 0), .int (nI 5)] [] (zSH ++ E, G') ∧ G' r = preV (tolV rv) (12 + 6 * (p + 1)) ∧ ∀ k, k ≠ r → G' k = G k := by
  intro d
  induction d with
  | zero =>
    intro k G h hP hG
    have h : k = 5 := by omega
    subst h
    rw [show 13 + 6 * p + 5 = 12 + 6 * (p + 1) by omega] at *
    refine ⟨G, ?_, hG, fun _ _ => rfl⟩
    rw [B_L_told_59 hr hr9 hP (fun q => absurd (by decide) q), if_pos (by decide), nI_1]
  | succ d ih =>
    intro k G h hP hG
    have hn : ¬ (5 : Int32) ≤ nI k := by rw [nIlit_5]; exact nI_ge (by omega) (by decide)
    obtain ⟨G', q1, q2, q3⟩ := ih (k + 1) (zup G r (13 + 6 * p + k) (rv 73 (rv 74 (nI p) 0) (nI k))) (by omega) (hP.up (sr_up hr9 sr_rf)) (preV_step hG (tolV_hd hp (by omega)).symm)
    refine ⟨G', ?_, q2, fun k hk => (q3 k hk).trans (zup_ro hk)⟩
    rw [B_L_told_59 hr hr9 hP (fun _ => zin_nI (by omega) (by decide)), if_neg hn, nI_clamp (by omega), nI_1, nI_1]
    exact q1
theorem to35 (hr : (zSH ++ E)[r]? = some (.inr (.int, 420, []))) (hr9 : 90 ≤ r ∧ r < 1000000) : ∀ (d p : Nat) (v4 v5 : Value) (G : Nat → Nat → Int32), p + d = 11 → zp2 [v4] 1 = true → zp2 [.int 0] 1 = true → RDs G rv → G r = preV (tolV rv) (12 + 6 * p) →
    ∃ (w4 w5 : Value) (G' : Nat → Nat → Int32), zp2 [w4] 1 = true ∧ zden 123 35 [.ref 0, .ref r, .int (nI (12 + 6 * p)), .int (nI p), v4, v5] [] (zSH ++ E, G) = zden 123 93 [.ref 0, .ref r, .int (nI 78), .int 0, w4, w5] [] (zSH ++ E, G') ∧ G' r = preV (tolV rv) 78 ∧ ∀ k, k ≠ r → G' k = G k := by
  intro d
  induction d with
  | zero =>
    intro p v4 v5 G h c4 c0 hP hG
    have h : p = 11 := by omega
    subst h
    exact ⟨v4, v5, G, c4, (B_L_told_35 hr hr9 hP (fun q => absurd (by decide) q)).trans (if_pos (by decide)), hG, fun _ _ => rfl⟩
  | succ d ih =>
    intro p v4 v5 G h c4 c0 hP hG
    have hn : ¬ (11 : Int32) ≤ nI p := by rw [show (11 : Int32) = nI 11 by decide]; exact nI_ge (by omega) (by decide)
    have hP1 : RDs (zup G r (12 + 6 * p) (rv 74 (nI p) 0)) rv := hP.up (sr_up hr9 sr_rf)
    obtain ⟨G1, p1, p2, p3⟩ := to59 (p := p) (by omega) hr hr9 5 0 (zup G r (12 + 6 * p) (rv 74 (nI p) 0)) rfl hP1 (by rw [show 13 + 6 * p + 0 = 12 + 6 * p + 1 by omega]; exact preV_step hG (tolV_code (by omega)).symm)
    obtain ⟨w4, w5, G', a, q1, q2, q3⟩ := ih (p + 1) (.int (rv 74 (nI p) 0)) (.int (nI 5)) G1 (by omega) rfl rfl (hP1.up (sr_of hr9 p3)) p2
    refine ⟨w4, w5, G', a, ?_, q2, fun k hk => (q3 k hk).trans ((p3 k hk).trans (zup_ro hk))⟩
    rw [B_L_told_35 hr hr9 hP (fun _ => zin_nI (by omega) (by decide)), if_neg hn, nI_clamp (by omega), nI_1, show 12 + 6 * p + 1 = 13 + 6 * p by omega]
    exact p1.trans q1
theorem to102 {g : Nat} (hg : g < 12) {v5 : Value} (hr : (zSH ++ E)[r]? = some (.inr (.int, 420, []))) (hr9 : 90 ≤ r ∧ r < 1000000) : ∀ (d k : Nat) (G : Nat → Nat → Int32), k + d = 11 → RDs G rv → G r = preV (tolV rv) (78 + 25 * g + k) →
    ∃ G' : Nat → Nat → Int32, zden 123 102 [.ref 0, .ref r, .int (nI (78 + 25 * g + k)), .int (nI g), .int (nI k), v5] [] (zSH ++ E, G) = zden 123 131 [.ref 0, .ref r, .int (nI (89 + 25 * g)), .int (nI g), .int 0, v5] [] (zSH ++ E, G') ∧ G' r = preV (tolV rv) (89 + 25 * g) ∧ ∀ k, k ≠ r → G' k = G k := by
  intro d
  induction d with
  | zero =>
    intro k G h hP hG
    have h : k = 11 := by omega
    subst h
    rw [show 78 + 25 * g + 11 = 89 + 25 * g by omega] at *
    exact ⟨G, (B_L_told_102 hr hr9 hP (fun q => absurd (by decide) q)).trans (if_pos (by decide)), hG, fun _ _ => rfl⟩
  | succ d ih =>
    intro k G h hP hG
    have hn : ¬ (11 : Int32) ≤ nI k := by rw [show (11 : Int32) = nI 11 by decide]; exact nI_ge (by omega) (by decide)
    obtain ⟨G', q1, q2, q3⟩ := ih (k + 1) (zup G r (78 + 25 * g + k) (rv 78 (nI g) (nI k))) (by omega) (hP.up (sr_up hr9 sr_rf)) (preV_step hG (tolV_good (by omega)).symm)
    refine ⟨G', ?_, q2, fun k hk => (q3 k hk).trans (zup_ro hk)⟩
    rw [B_L_told_102 hr hr9 hP (fun _ => zin_nI (by omega) (by decide)), if_neg hn, nI_clamp (by omega), nI_1, nI_1]
    exact q1
theorem to131 {g : Nat} (hg : g < 12) {v5 : Value} (hr : (zSH ++ E)[r]? = some (.inr (.int, 420, []))) (hr9 : 90 ≤ r ∧ r < 1000000) : ∀ (d k : Nat) (G : Nat → Nat → Int32), k + d = 5 → RDs G rv → G r = preV (tolV rv) (89 + 25 * g + 2 * k) →
    ∃ G' : Nat → Nat → Int32, zden 123 131 [.ref 0, .ref r, .int (nI (89 + 25 * g + 2 * k)), .int (nI g), .int (nI k), v5] [] (zSH ++ E, G) = zden 123 172 [.ref 0, .ref r, .int (nI (99 + 25 * g)), .int (nI g), .int 0, v5] [] (zSH ++ E, G') ∧ G' r = preV (tolV rv) (99 + 25 * g) ∧ ∀ k, k ≠ r → G' k = G k := by
  intro d
  induction d with
  | zero =>
    intro k G h hP hG
    have h : k = 5 := by omega
    subst h
    rw [show 89 + 25 * g + 2 * 5 = 99 + 25 * g by omega] at *
    exact ⟨G, (B_L_told_131 hr hr9 hP (fun q => absurd (by decide) q) (fun q => absurd (by decide) q)).trans (if_pos (by decide)), hG, fun _ _ => rfl⟩
  | succ d ih =>
    intro k G h hP hG
    have hn : ¬ (5 : Int32) ≤ nI k := by rw [nIlit_5]; exact nI_ge (by omega) (by decide)
    have g1 := preV_step (x := rv 80 (nI g) (nI k)) hG (tolV_pts (by omega)).symm
    have g2 := preV_step (x := rv 89 (nI g) (nI k)) g1 (by rw [show 89 + 25 * g + 2 * k + 1 = 90 + 25 * g + 2 * k by omega]; exact (tolV_would (by omega)).symm)
    obtain ⟨G', q1, q2, q3⟩ := ih (k + 1) _ (by omega) (hP.up (sr_up hr9 (sr_up hr9 sr_rf))) g2
    refine ⟨G', ?_, q2, fun k hk => (q3 k hk).trans ((zup_ro hk).trans (zup_ro hk))⟩
    rw [B_L_told_131 hr hr9 hP (fun _ => zin_nI (by omega) (by decide)) (fun _ => by rw [nI_1]; exact zin_nI (by omega) (by decide)), if_neg hn, nI_1, nI_1, nI_1, nI_clamp (by omega), nI_clamp (by omega)]
    exact q1
theorem to172 {g : Nat} (hg : g < 12) {v5 : Value} (hr : (zSH ++ E)[r]? = some (.inr (.int, 420, []))) (hr9 : 90 ≤ r ∧ r < 1000000) : ∀ (d k : Nat) (G : Nat → Nat → Int32), k + d = 4 → RDs G rv → G r = preV (tolV rv) (99 + 25 * g + k) →
    ∃ G' : Nat → Nat → Int32, zden 123 172 [.ref 0, .ref r, .int (nI (99 + 25 * g + k)), .int (nI g), .int (nI k), v5] [] (zSH ++ E, G) = zden 123 93 [.ref 0, .ref r, .int (nI (78 + 25 * (g + 1))), .int (nI (g + 1)), .int 4, v5] [] (zSH ++ E, G') ∧ G' r = preV (tolV rv) (78 + 25 * (g + 1)) ∧ ∀ k, k ≠ r → G' k = G k := by
  intro d
  induction d with
  | zero =>
    intro k G h hP hG
    have h : k = 4 := by omega
    subst h
    rw [show 99 + 25 * g + 4 = 78 + 25 * (g + 1) by omega] at *
    refine ⟨G, ?_, hG, fun _ _ => rfl⟩
    rw [B_L_told_172 hr hr9 hP (fun q => absurd (by decide) q), if_pos (by decide), nI_1]
    rfl
  | succ d ih =>
    intro k G h hP hG
    have hn : ¬ (4 : Int32) ≤ nI k := by rw [nIlit_4]; exact nI_ge (by omega) (by decide)
    obtain ⟨G', q1, q2, q3⟩ := ih (k + 1) (zup G r (99 + 25 * g + k) (rv 79 (nI g) (nI k))) (by omega) (hP.up (sr_up hr9 sr_rf)) (preV_step hG (tolV_part (by omega)).symm)
    refine ⟨G', ?_, q2, fun k hk => (q3 k hk).trans (zup_ro hk)⟩
    rw [B_L_told_172 hr hr9 hP (fun _ => zin_nI (by omega) (by decide)), if_neg hn, nI_clamp (by omega), nI_1, nI_1]
    exact q1
theorem to93 (hr : (zSH ++ E)[r]? = some (.inr (.int, 420, []))) (hr9 : 90 ≤ r ∧ r < 1000000) : ∀ (d g : Nat) (v4 v5 : Value) (G : Nat → Nat → Int32), g + d = 12 → zp2 [v4] 1 = true → RDs G rv → G r = preV (tolV rv) (78 + 25 * g) →
    ∃ G' : Nat → Nat → Int32, zden 123 93 [.ref 0, .ref r, .int (nI (78 + 25 * g)), .int (nI g), v4, v5] [] (zSH ++ E, G) = some (some (.ref r), (zSH ++ E, G')) ∧ G' r = preV (tolV rv) 378 ∧ ∀ k, k ≠ r → G' k = G k := by
  intro d
  induction d with
  | zero =>
    intro g v4 v5 G h c4 hP hG
    have h : g = 12 := by omega
    subst h
    exact ⟨G, (B_L_told_93 hr hr9).trans (if_pos (by decide)), hG, fun _ _ => rfl⟩
  | succ d ih =>
    intro g v4 v5 G h c4 hP hG
    have hn : ¬ (12 : Int32) ≤ nI g := by rw [show (12 : Int32) = nI 12 by decide]; exact nI_ge (by omega) (by decide)
    obtain ⟨G1, a1, a2, a3⟩ := to102 (g := g) (v5 := v5) (by omega) hr hr9 11 0 G rfl hP hG
    have hP1 := hP.up (sr_of hr9 a3)
    obtain ⟨G2, b1, b2, b3⟩ := to131 (g := g) (v5 := v5) (by omega) hr hr9 5 0 G1 rfl hP1 a2
    have hP2 := hP1.up (sr_of hr9 b3)
    obtain ⟨G3, c1, c2, c3⟩ := to172 (g := g) (v5 := v5) (by omega) hr hr9 4 0 G2 rfl hP2 b2
    have hP3 := hP2.up (sr_of hr9 c3)
    obtain ⟨G', q1, q2, q3⟩ := ih (g + 1) (.int 4) v5 G3 (by omega) rfl hP3 c2
    refine ⟨G', ?_, q2, fun k hk => (q3 k hk).trans ((c3 k hk).trans ((b3 k hk).trans (a3 k hk)))⟩
    rw [B_L_told_93 hr hr9, if_neg hn]
    exact a1.trans (b1.trans (c1.trans q1))
theorem x_told {G : Nat → Nat → Int32} (hok : eOK E) (hP : RDs G rv) :
    ∃ G' : Nat → Nat → Int32, zden 123 0 [.ref 0, .retAddr 0, .retAddr 0, .retAddr 0, .retAddr 0, .retAddr 0] [] (zSH ++ E, G) = some (some (.ref (90 + E.length)), (zSH ++ (E ++ [.inr (.int, 420, [])]), G')) ∧ G' (90 + E.length) = preV (tolV rv) 378 ∧ ∀ k, k ≠ 90 + E.length → G' k = G k := by
  have e9 := hok.2
  have hr : (zSH ++ (E ++ [.inr (.int, 420, [])]))[90 + E.length]? = some (.inr (.int, 420, [])) := by
    rw [List.getElem?_append_right (by show 90 ≤ _; omega), show 90 + E.length - zSH.length = E.length by show 90 + E.length - 90 = _; omega, List.getElem?_append_right (Nat.le_refl _), Nat.sub_self]
    rfl
  have hr9 : 90 ≤ 90 + E.length ∧ 90 + E.length < 1000000 := by omega
  have hz : zne (90 + E.length) (.ref 0) = true := zne_lt (by omega)
  have s0 : sameR G (zrow G (90 + E.length) (fun _ => 0)) := fun i h1 _ => if_neg (by omega)
  have hP0 := hP.up s0
  obtain ⟨G1, a1, a2, a3⟩ := to10 hr hr9 12 0 (zrow G (90 + E.length) (fun _ => 0)) rfl hP0 (by
    funext j
    show (if 90 + E.length = 90 + E.length then (fun _ => (0 : Int32)) else _) j = _
    rw [if_pos rfl]
    rfl)
  have hP1 := hP0.up (sr_of hr9 a3)
  obtain ⟨v4, v5, G2, c4, b1, b2, b3⟩ := to35 hr hr9 11 0 (.retAddr 0) (.retAddr 0) G1 rfl rfl rfl hP1 a2
  have hP2 := hP1.up (sr_of hr9 b3)
  obtain ⟨G3, q1, q2, q3⟩ := to93 hr hr9 12 0 v4 v5 G2 rfl c4 hP2 b2
  refine ⟨G3, ?_, q2, fun k hk => (q3 k hk).trans ((b3 k hk).trans ((a3 k hk).trans (if_neg hk)))⟩
  rw [B_L_told_0 hok (by rw [List.all_cons, hz]; rfl) rfl]
  refine (B_L_told_5 hr hr9).trans ?_
  exact a1.trans (b1.trans q1)
end ZTl
