-- 47: the origin of a good
theorem sub_pos {a b : Nat} (ha : a < 2 ^ 30) (hb : b < 2 ^ 30) : 0 < nI a - nI b ↔ b < a := by
  rw [Int32.lt_iff_toInt_lt, pk_sub_toInt ha hb, show (0 : Int32).toInt = 0 from by decide]
  omega
theorem sub_zero {a b : Nat} (ha : a < 2 ^ 30) (hb : b < 2 ^ 30) : nI a - nI b = 0 ↔ a = b := by
  rw [← Int32.toInt_inj, pk_sub_toInt ha hb, show (0 : Int32).toInt = 0 from by decide]
  omega
/-- what is known of the points and workings of a good -/
def orgI (B : Nat → Int32) (g : Nat) (P L : Nat → Nat) : Prop := ∀ c, c < 5 → B (23 * g + 13 + c) = nI (P c) ∧ B (23 * g + 18 + c) = nI (L c) ∧ P c ≤ 594 ∧ L c ≤ 6
theorem sc_org_step {G : Nat → Nat → Int32} {g c m l : Nat} {P L : Nat → Nat} {o : Int32} {v6 v7 : Value} (w : zWT G) (hg : g < 12) (hp : orgI (G 6) g P L) (hc : c < 5) (hm : m ≤ 594) (hl : l ≤ 6) :
    ∃ v6' v7' : Value, zden 28 11 [.ref 2, .int (nI g), .int o, .int (nI m), .int (nI l), .int (nI c), v6, v7] [] (zSH, G) =
      if m < P c ∨ (m = P c ∧ l < L c) then zden 28 11 [.ref 2, .int (nI g), .int (nI c), .int (nI (P c)), .int (nI (L c)), .int (nI (c + 1)), v6', v7'] [] (zSH, G) else zden 28 11 [.ref 2, .int (nI g), .int o, .int (nI m), .int (nI l), .int (nI (c + 1)), v6', v7'] [] (zSH, G) := by
  obtain ⟨p1, p2, p3, p4⟩ := hp c hc
  have k13 : (13 : Int32) + nI c = nI (13 + c) := by rw [nIlit_13, nI_add]
  have k18 : (18 : Int32) + nI c = nI (18 + c) := by rw [show (18 : Int32) = nI 18 by decide, nI_add]
  have t1 : tget G 5 6 276 (nI g) (13 + nI c) = nI (P c) := by rw [gd_get w rfl k13 hg (by omega), ← Nat.add_assoc]; exact p1
  have t2 : tget G 5 6 276 (nI g) (18 + nI c) = nI (L c) := by rw [gd_get w rfl k18 hg (by omega), ← Nat.add_assoc]; exact p2
  refine ⟨.int (nI (P c)), .int (nI (L c)), ?_⟩
  rw [B_Ho_originOf_11, if_neg (by rw [nIlit_5]; exact nI_ge hc (by decide)), t1, t2]
  by_cases h1 : m < P c
  · rw [if_pos (nI_lt h1 (by omega)), if_pos (.inl h1), B_Ho_originOf_66, B_Ho_originOf_76, nI_1]
  · rw [if_neg (nI_nlt (by omega) (by omega))]
    by_cases h2 : P c = m
    · rw [if_neg (fun q => q (by rw [h2]))]
      by_cases h3 : l < L c
      · rw [if_neg (nI_ge h3 (by omega)), if_pos (.inr ⟨h2.symm, h3⟩), B_Ho_originOf_66, B_Ho_originOf_76, nI_1]
      · rw [if_pos (nI_le (by omega) (by omega)), if_neg (by omega), B_Ho_originOf_76, nI_1]
    · rw [if_pos (by rw [nI_eq (by omega) (by omega)]; exact h2), if_neg (by omega), B_Ho_originOf_76, nI_1]
theorem sm_org_step {H : Nat → Nat → Int32} {g c b : Nat} {P L : Nat → Nat} {v4 : Value} (hg : g < 12) (h1 : ∀ c, c < 5 → H 91 (75 + 22 * g + c) = nI (P c) ∧ H 91 (80 + 22 * g + c) = nI (L c) ∧ P c ≤ 594 ∧ L c ≤ 6) (hc : c < 5) (hb : b < 5) :
    ∃ v4' : Value, zden 133 4 [.ref 90, .int (nI g), .int (nI b), .int (nI c), v4] [] (zSH, H) =
      if P b < P c ∨ (P b = P c ∧ L b < L c) then zden 133 4 [.ref 90, .int (nI g), .int (nI c), .int (nI (c + 1)), v4'] [] (zSH, H) else zden 133 4 [.ref 90, .int (nI g), .int (nI b), .int (nI (c + 1)), v4'] [] (zSH, H) := by
  obtain ⟨p1, p2, p3, p4⟩ := h1 c hc
  obtain ⟨q1, q2, q3, q4⟩ := h1 b hb
  have k12 : ∀ x, (12 : Int32) + nI x = nI (12 + x) := fun x => by rw [show (12 : Int32) = nI 12 by decide, nI_add]
  have k17 : ∀ x, (17 : Int32) + nI x = nI (17 + x) := fun x => by rw [show (17 : Int32) = nI 17 by decide, nI_add]
  have hn : ¬ (5 : Int32) ≤ nI c := by rw [nIlit_5]; exact nI_ge hc (by decide)
  refine ⟨.int (nI (P c) - nI (P b)), ?_⟩
  rw [B_M_origin_4 (fun q => absurd q hn) (fun _ => mzin (k12 c) hg (by omega)) (fun _ => mzin (k12 b) hg (by omega)) (fun _ _ _ => mzin (k17 c) hg (by omega)) (fun _ _ _ => mzin (k17 b) hg (by omega)), if_neg hn,
    mcl2 (N := 75 + 22 * g + c) (k12 c) hg (by omega) (by omega), mcl2 (N := 75 + 22 * g + b) (k12 b) hg (by omega) (by omega), mcl2 (N := 80 + 22 * g + c) (k17 c) hg (by omega) (by omega), mcl2 (N := 80 + 22 * g + b) (k17 b) hg (by omega) (by omega), p1, p2, q1, q2]
  by_cases e1 : P b < P c
  · rw [if_pos ((sub_pos (by omega) (by omega)).mpr e1), if_pos (.inl e1), B_M_origin_77, B_M_origin_82, nI_1]
  · rw [if_neg (fun z => e1 ((sub_pos (by omega) (by omega)).mp z))]
    by_cases e2 : P c = P b
    · rw [if_neg (fun q => q ((sub_zero (by omega) (by omega)).mpr e2))]
      by_cases e3 : L b < L c
      · rw [if_neg (nI_ge e3 (by omega)), if_pos (.inr ⟨e2.symm, e3⟩), B_M_origin_77, B_M_origin_82, nI_1]
      · rw [if_pos (nI_le (by omega) (by omega)), if_neg (by omega), B_M_origin_81, B_M_origin_82, nI_1]
    · rw [if_pos (fun z => e2 ((sub_zero (by omega) (by omega)).mp z)), if_neg (by omega), B_M_origin_81, B_M_origin_82, nI_1]
/-- both loops from the same place -/
theorem org_loop {G H : Nat → Nat → Int32} {g : Nat} {P L : Nat → Nat} (w : zWT G) (hg : g < 12) (hp : orgI (G 6) g P L) (h1 : ∀ c, c < 5 → H 91 (75 + 22 * g + c) = nI (P c) ∧ H 91 (80 + 22 * g + c) = nI (L c) ∧ P c ≤ 594 ∧ L c ≤ 6) :
    ∀ (d c b m l : Nat) (o : Int32) (v4 v6 v7 : Value), c + d = 5 → b < 5 → m = P b → l = L b → ((o = -15 ∧ P b = 0 ∧ L b = 0 ∧ ∀ j, j < c → P j = 0) ∨ (o = nI b ∧ (0 < P b ∨ 0 < L b))) →
    ∃ (r : Int32) (b' : Nat) (v4' : Value), zden 28 11 [.ref 2, .int (nI g), .int o, .int (nI m), .int (nI l), .int (nI c), v6, v7] [] (zSH, G) = some (some (.int r), (zSH, G)) ∧
      zden 133 4 [.ref 90, .int (nI g), .int (nI b), .int (nI c), v4] [] (zSH, H) = zden 133 4 [.ref 90, .int (nI g), .int (nI b'), .int (nI 5), v4'] [] (zSH, H) ∧ b' < 5 ∧ ((r = -15 ∧ ∀ j, j < 5 → P j = 0) ∨ (r = nI b' ∧ (0 < P b' ∨ 0 < L b'))) := by
  intro d
  induction d with
  | zero =>
    intro c b m l o v4 v6 v7 h hb hm hl hi
    have h : c = 5 := by omega
    subst h
    refine ⟨o, b, v4, by rw [B_Ho_originOf_11, if_pos (by decide)], rfl, hb, ?_⟩
    rcases hi with ⟨i1, i2, i3, i4⟩ | i
    · exact .inl ⟨i1, i4⟩
    · exact .inr i
  | succ d ih =>
    intro c b m l o v4 v6 v7 h hb hm hl hi
    subst hm hl
    have hP := h1 b hb
    obtain ⟨w6, w7, s1⟩ := sc_org_step (o := o) (v6 := v6) (v7 := v7) w hg hp (show c < 5 by omega) hP.2.2.1 hP.2.2.2
    obtain ⟨w4, s2⟩ := sm_org_step (v4 := v4) hg h1 (show c < 5 by omega) hb
    by_cases q : P b < P c ∨ (P b = P c ∧ L b < L c)
    · rw [if_pos q] at s1 s2
      obtain ⟨r, b', v', r1, r2, r3, r4⟩ := ih (c + 1) c (P c) (L c) (nI c) w4 w6 w7 (by omega) (by omega) rfl rfl (.inr ⟨rfl, by omega⟩)
      exact ⟨r, b', v', s1.trans r1, s2.trans r2, r3, r4⟩
    · rw [if_neg q] at s1 s2
      obtain ⟨r, b', v', r1, r2, r3, r4⟩ := ih (c + 1) b (P b) (L b) o w4 w6 w7 (by omega) hb rfl rfl (by
        rcases hi with ⟨i1, i2, i3, i4⟩ | i
        · refine .inl ⟨i1, i2, i3, fun j hj => ?_⟩
          by_cases e : j = c
          · subst e; omega
          · exact i4 j (by omega)
        · exact .inr i)
      exact ⟨r, b', v', s1.trans r1, s2.trans r2, r3, r4⟩
