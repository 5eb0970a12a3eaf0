-- 83: meanDuty, backShare (what is known of quotients: zFP, shown in the last part)
def zFP : Prop := (∀ x y : Int32, ¬ y = 0 → FP.ddiv (FP.i2d x) (FP.i2d y) &&& 0x7fffffffffffffff ≤ 0x7ff0000000000000 ∧ FP.dcmp (FP.ddiv (FP.i2d x) (FP.i2d y)) (FP.ddiv (FP.i2d x) (FP.i2d y)) = some .eq) ∧
  (∀ x y : Int32, ¬ y = 0 → FP.fdiv (FP.i2f x) (FP.i2f y) &&& 0x7fffffff ≤ 0x7f800000 ∧ FP.f2d (FP.fdiv (FP.i2f x) (FP.i2f y)) &&& 0x7fffffffffffffff ≤ 0x7ff0000000000000 ∧ FP.dcmp (FP.f2d (FP.fdiv (FP.i2f x) (FP.i2f y))) (FP.f2d (FP.fdiv (FP.i2f x) (FP.i2f y))) = some .eq) ∧
  FP.dcmp 0 0 = some .eq ∧ FP.f2d 0 &&& 0x7fffffffffffffff ≤ 0x7ff0000000000000 ∧ FP.dcmp (FP.f2d 0) (FP.f2d 0) = some .eq
theorem mean_loop {D : Nat} {G H : Nat → Nat → Int32} {gn : Nat} (hF : zFP) (w : zWT G) (hr : HRat D G 2 (H 91)) (i4 : G 2 4 = nI gn) (v2 : H 91 2 = nI gn) (gl : gn ≤ 12) (g0 : 0 < gn) (hg : ∀ g, g < gn → HRg (G 6) (H 91) g) : ∀ (d i : Nat) (c : Int32), i + d = gn →
    ∃ r : Int32, zden 100 18 [.ref 0, .int (nI gn), .int c, .int (nI i)] [] (zSH, G) = some (some (.double (FP.ddiv (FP.i2d r) (FP.i2d (nI gn)))), (zSH, G)) ∧ zden 178 4 [.ref 90, .int c, .int (nI i)] [] (zSH, H) = some (some (.double (FP.ddiv (FP.i2d r) (FP.i2d (nI gn)))), (zSH, H)) := by
  have ne : ¬ nI gn = 0 := nI_ne0 g0 (by omega)
  intro d
  induction d with
  | zero =>
    intro i c h
    have h : i = gn := by omega
    subst h
    have hb : H 91 2 ≤ nI i := by rw [v2]; exact Int32.le_refl _
    refine ⟨c, ?_, ?_⟩
    · rw [B_T_meanDuty_18 (fun _ => (hF.1 c (nI i) ne).1), if_pos (Int32.le_refl _)]
    · rw [B_M_meanDuty_4 (fun _ _ => by rw [v2]; exact (hF.1 c (nI i) ne).1), if_pos hb, v2, if_pos ne]
  | succ d ih =>
    intro i c h
    obtain ⟨e, o, o', _, q1, q2, q3, q4, _⟩ := duty_own w hr i4 gl (show i < gn by omega) (hg i (by omega))
    have h1 : ¬ nI gn ≤ nI i := nI_ge (by omega) (by omega)
    have h2 : ¬ H 91 2 ≤ nI i := by rw [v2]; exact h1
    obtain ⟨r, r1, r2⟩ := ih (i + 1) (c + nI e) (by omega)
    refine ⟨r, ?_, ?_⟩
    · rw [B_T_meanDuty_18 (fun z => absurd z h1), if_neg h1, q1, zaft_same]
      refine Eq.trans B_T_meanDuty_37 ?_
      rw [q3, zaft_same]
      refine Eq.trans B_T_meanDuty_40 ?_
      rw [nI_1]
      exact r1
    · rw [B_M_meanDuty_4 (fun z => absurd z h2), if_neg h2, q2, zaft_same]
      refine Eq.trans B_M_meanDuty_22 ?_
      rw [q4, zaft_same]
      refine Eq.trans B_M_meanDuty_25 ?_
      rw [nI_1]
      exact r2
theorem call_mean {D f u a b : Nat} {G H : Nat → Nat → Int32} (hF : zFP) (hR : zRel D f u a b G H) :
    ∃ p : UInt64, zden 100 0 [.ref 0, .retAddr 0, .retAddr 0, .retAddr 0] [] (zSH, G) = some (some (.double p), (zSH, G)) ∧ zden 178 0 [.ref 90, .retAddr 0, .retAddr 0] [] (zSH, H) = some (some (.double p), (zSH, H)) ∧ FP.dcmp p p = some .eq := by
  obtain ⟨⟨w, _⟩, hr, _⟩ := hR
  obtain ⟨gn, gl, i4, v2, hg⟩ := hr.goods
  have i4' : G 2 4 = nI gn := i4
  rcases Nat.eq_zero_or_pos gn with g0 | g0
  · subst g0
    refine ⟨0, ?_, ?_, hF.2.2.1⟩
    · rw [B_T_meanDuty_0, if_neg (by rw [i4']; decide)]
    · have hb : H 91 2 ≤ 0 := by rw [v2]; decide
      rw [B_M_meanDuty_0, B_M_meanDuty_4 (fun _ z => absurd v2 z), if_pos hb, if_neg (fun z => z v2)]
  · obtain ⟨r, r1, r2⟩ := mean_loop hF w hr i4 v2 gl g0 hg gn 0 0 (by omega)
    refine ⟨_, ?_, ?_, (hF.1 r (nI gn) (nI_ne0 g0 (by omega))).2⟩
    · rw [B_T_meanDuty_0, if_pos (by rw [i4']; exact nI_lt (a := 0) g0 (by omega)), i4']
      exact r1
    · rw [B_M_meanDuty_0]
      exact r2
theorem call_back {D f u a b : Nat} {G H : Nat → Nat → Int32} (hF : zFP) (hR : zRel D f u a b G H) :
    ∃ p : UInt32, zden 101 0 [.ref 0] [] (zSH, G) = some (some (.float p), (zSH, G)) ∧ zden 179 0 [.ref 90] [] (zSH, H) = some (some (.float p), (zSH, H)) ∧ FP.f2d p &&& 0x7fffffffffffffff ≤ 0x7ff0000000000000 ∧ FP.dcmp (FP.f2d p) (FP.f2d p) = some .eq := by
  obtain ⟨_, hr, _⟩ := hR
  obtain ⟨_, _, _, e8, e9, _⟩ := hr.e
  have e8 : G 2 8 = H 91 5 := e8
  have e9 : G 2 9 = H 91 6 := e9
  by_cases c : H 91 5 = 0
  · refine ⟨0, ?_, ?_, hF.2.2.2.1, hF.2.2.2.2⟩
    · rw [B_T_backShare_0 (fun z => absurd (e8.trans c) z), if_neg (fun z => z (e8.trans c))]
    · rw [B_M_backShare_0 (fun z => absurd c z), if_neg (fun z => z c)]
  · obtain ⟨f1, f2, f3⟩ := hF.2.1 (H 91 6) (H 91 5) c
    refine ⟨_, ?_, ?_, f2, f3⟩
    · rw [B_T_backShare_0 (fun _ => by rw [e8, e9]; exact f1), e8, e9, if_pos c]
    · rw [B_M_backShare_0 (fun _ => f1), if_pos c]
/-- it speaks of the class's rows in G, the model's in H -/
theorem zRel.toH {D f u a b : Nat} {G H H' : Nat → Nat → Int32} (h : zRel D f u a b G H) (e : ∀ i, 90 ≤ i → H' i = H i) : zRel D f u a b G H' := by
  obtain ⟨h1, h2, h3, h4, h5, h6, h7⟩ := h
  refine ⟨h1.same (fun _ _ => rfl) rfl rfl (fun i q _ => e i (by omega)), by rw [e 91 (by decide)]; exact h2, zHist_same h3 rfl rfl (fun _ _ _ => rfl) (by rw [e 90 (by decide)]) (e 94 (by decide)), h4.same rfl (by rw [e 90 (by decide)]) (by rw [e 90 (by decide)]), zSaved_same h5 rfl (fun _ _ _ => rfl) (by rw [e 90 (by decide)]) (e 93 (by decide)), h6.same rfl rfl (by rw [e 90 (by decide)]) (e 95 (by decide)), h7.same rfl rfl (by rw [e 90 (by decide)]) (e 96 (by decide))⟩
theorem zRel.toG {D f u a b : Nat} {G G' H : Nat → Nat → Int32} (h : zRel D f u a b G H) (e : ∀ i, i < 90 → G' i = G i) : zRel D f u a b G' H := by
  obtain ⟨h1, h2, h3, h4, h5, h6, h7⟩ := h
  refine ⟨h1.same (fun i _ => e i (by omega)) (e 82 (by decide)) (e 85 (by decide)) (fun _ _ _ => rfl), HRat_same h2 (e _ (by decide)) (e _ (by decide)) (e _ (by decide)) (e _ (by decide)) (fun _ _ => rfl), zHist_same h3 (by rw [e 9 (by decide)]) (by rw [e 9 (by decide)]) (fun i _ _ => e i (by omega)) rfl rfl, h4.same (e 1 (by decide)) rfl rfl, zSaved_same h5 (by rw [e 9 (by decide)]) (fun i _ _ => e i (by omega)) rfl rfl, h6.same (by rw [e 84 (by decide)]) (e 87 (by decide)) rfl rfl, h7.same (e 88 (by decide)) (e 89 (by decide)) rfl rfl⟩
/-- a call of the law, both behind one another on one heap -/
theorem law_call {tc tm : Nat} {ac am : List Value} (h : CallR tc ac tm am) {D f u a b : Nat} {X : Nat → Nat → Int32} (hD : D ≤ 5900) (hR : zRel D f u a b X X) :
    ∃ (r : Int32) (X1 X2 : Nat → Nat → Int32) (f' u' a' b' : Nat), zden tc 0 ac [] (zSH, X) = some (some (.int r), (zSH, X1)) ∧ zden tm 0 am [] (zSH, X1) = some (some (.int r), (zSH, X2)) ∧ zRel (D + 11) f' u' a' b' X2 X2 ∧ ∀ i, 102 ≤ i → X1 i = X i ∧ X2 i = X i := by
  obtain ⟨r, X1, Y, _, _, _, _, r1, _, _, fr⟩ := h D f u a b X X hD hR
  obtain ⟨r', Z, X2, f', u', a', b', q1, q2, q3, q4⟩ := h D f u a b X X1 hD (hR.toH fr.1)
  have e := q1.symm.trans r1
  have e1 : r' = r := zint_inj e
  have e2 : Z = X1 := (Prod.mk.inj (Prod.mk.inj (Option.some.inj e)).2).2
  subst e1
  subst e2
  refine ⟨r', Z, X2, f', u', a', b', r1, q2, q3.toG (fun i hi => q4.2 i (by omega)), fun i hi => ⟨fr.1 i (by omega), ?_⟩⟩
  rw [q4.2 i (by omega)]
  exact fr.1 i (by omega)
