-- 60: why
def hdF (A : Nat → Int32) (i : Nat) : Int32 := if A (5 * i) = 4 then 0 else 1
def hdO (A : Nat → Int32) (i : Nat) : Int32 := if A (5 * i + 1) = 3 then 0 else 1
def leadV (A : Nat → Int32) (i j : Nat) : Int32 := if hdF A i = hdF A j then if hdO A i = hdO A j then if A (5 * j + 4) = 99 then 4 else 3 else 2 else 1
theorem ite_z {p : Prop} [Decidable p] {k pc : Nat} {lst st : List Value} {h : zH} : (if p then zden k pc lst (.int 0 :: st) h else zden k pc lst (.int 1 :: st) h) = zden k pc lst (.int (if p then 0 else 1) :: st) h := by
  by_cases q : p
  · rw [if_pos q, if_pos q]
  · rw [if_neg q, if_neg q]
theorem ite_z4 {f : Nat} {x : Int32} {k pc : Nat} {lst st : List Value} {h : zH} (hf : f ≤ 4) (hx : x = nI f) : (if 4 ≤ x then zden k pc lst (.int 0 :: st) h else zden k pc lst (.int 1 :: st) h) = zden k pc lst (.int (if x = 4 then 0 else 1) :: st) h := by
  subst hx
  by_cases q : nI f = 4
  · rw [if_pos ((ge4 hf).mpr q), if_pos q]
  · rw [if_neg (fun z => q ((ge4 hf).mp z)), if_neg q]
theorem ite_z3 {f : Nat} {x : Int32} {k pc : Nat} {lst st : List Value} {h : zH} (hf : f ≤ 3) (hx : x = nI f) : (if 3 ≤ x then zden k pc lst (.int 0 :: st) h else zden k pc lst (.int 1 :: st) h) = zden k pc lst (.int (if x = 3 then 0 else 1) :: st) h := by
  subst hx
  by_cases q : nI f = 3
  · rw [if_pos ((ge3 hf).mpr q), if_pos q]
  · rw [if_neg (fun z => q ((ge3 hf).mp z)), if_neg q]
theorem sc_lead2 {G : Nat → Nat → Int32} {x : Int32} {i j : Nat} (w : zWT G) (hi : i < 11) (hj : j < 11) :
    zden 33 13 [.ref 2, .int x, .int (nI i), .retAddr 0, .retAddr 0, .retAddr 0] [.int (nI j)] (zSH, G) = some (some (.int (leadV (G 4) i j)), (zSH, G)) := by
  have i0 : tget G 3 4 55 (nI i) 0 = G 4 (5 * i) := hd_get (j := 0) w rfl (by decide) hi (by decide)
  have i1 : tget G 3 4 55 (nI i) 1 = G 4 (5 * i + 1) := hd_get (j := 1) w rfl (by decide) hi (by decide)
  have j0 : tget G 3 4 55 (nI j) 0 = G 4 (5 * j) := hd_get (j := 0) w rfl (by decide) hj (by decide)
  have j1 : tget G 3 4 55 (nI j) 1 = G 4 (5 * j + 1) := hd_get (j := 1) w rfl (by decide) hj (by decide)
  have j4 : tget G 3 4 55 (nI j) 4 = G 4 (5 * j + 4) := hd_get (j := 4) w rfl (by decide) hj (by decide)
  rw [B_Ho_lead_13, if_pos (nI_pos' (by omega)), i0, ite_z]
  refine Eq.trans B_Ho_lead_38 ?_
  rw [i1, ite_z]
  refine Eq.trans B_Ho_lead_58 ?_
  rw [j0, ite_z]
  refine Eq.trans B_Ho_lead_80 ?_
  rw [j1, ite_z]
  unfold leadV
  show (if hdF (G 4) i = hdF (G 4) j then zden 33 105 _ [.int (hdO (G 4) j), .int (hdO (G 4) i)] _ else _) = _
  by_cases c1 : hdF (G 4) i = hdF (G 4) j
  · rw [if_pos c1, if_pos c1]
    refine Eq.trans B_Ho_lead_105 ?_
    rw [j4]
    by_cases c2 : hdO (G 4) i = hdO (G 4) j
    · rw [if_pos c2, if_pos c2]
      by_cases c3 : G 4 (5 * j + 4) = 99
      · rw [if_neg (fun z => z c3), if_pos c3]
      · rw [if_pos c3, if_neg c3]
    · rw [if_neg c2, if_neg c2]
  · rw [if_neg c1, if_neg c1]
theorem sm_why2 {H : Nat → Nat → Int32} {A : Nat → Int32} {x : Int32} {n i j : Nat} (ho : hOK n A (H 91)) (hi : i ≤ n) (hj : j ≤ n) :
    zden 139 24 [.ref 90, .int x, .int (nI i), .retAddr 0] [.int (nI j)] (zSH, H) = some (some (.int (leadV A i j)), (zSH, H)) := by
  have hn := ho.1
  obtain ⟨⟨_, a1, a2, _⟩, _, ka1, ka2, _⟩ := ho.head hi
  obtain ⟨⟨b0, b1, b2, _⟩, kb0, kb1, kb2, _⟩ := ho.head hj
  obtain ⟨_, fi, oi, _, _, _, hfi, hoi, _, _, _, _, f4, o3, _⟩ := ho.row hi
  obtain ⟨_, fj, oj, _, _, _, hfj, hoj, _, _, _, _, g4, p3, _⟩ := ho.row hj
  rw [B_M_why_24 (fun _ => ka1), if_pos (nI_pos' (by omega)), a1, ite_z4 f4 hfi]
  refine Eq.trans (B_M_why_46 kb1) ?_
  rw [b1, ite_z4 g4 hfj]
  refine Eq.trans (B_M_why_61 (fun _ => ka2)) ?_
  rw [a2, ite_z3 o3 hoi]
  unfold leadV
  show (if hdF A i = hdF A j then zden 139 81 _ [.int (hdO A i)] _ else _) = _
  by_cases c1 : hdF A i = hdF A j
  · rw [if_pos c1, if_pos c1]
    refine Eq.trans (B_M_why_81 kb2) ?_
    rw [b2, ite_z3 p3 hoj]
    refine Eq.trans (B_M_why_96 (fun _ => kb0)) ?_
    rw [b0]
    show (if hdO A i = hdO A j then _ else _) = _
    by_cases c2 : hdO A i = hdO A j
    · rw [if_pos c2, if_pos c2]
      by_cases c3 : A (5 * j + 4) = 99
      · rw [if_neg (fun z => z c3), if_pos c3]
      · rw [if_pos c3, if_neg c3]
    · rw [if_neg c2, if_neg c2]
  · rw [if_neg c1, if_neg c1]
theorem read_why {x : Int32} : ReadOK 83 [.ref 0, .int x] 139 [.ref 90, .int x, .retAddr 0, .retAddr 0] := by
  intro D G H w hr hw
  obtain ⟨gn, gl, i4, v2, hg⟩ := hr.goods
  obtain ⟨n, ho, i3, hs⟩ := hr.rows
  have ho' : hOK n (G 4) (H 91) := ho
  have i3' : G 2 3 = nI (n + 1) := i3
  have hn := ho.1
  by_cases hx : ∃ g : Nat, g < gn ∧ x = nI g
  · obtain ⟨g, g1, rfl⟩ := hx
    have n1 : ¬ bI (0 ≤ nI g ∧ nI g < G 2 4) = 0 := bIn.mpr (by rw [i4]; exact (good_iff gl).mpr ⟨g, g1, rfl⟩)
    have n2 : ¬ bI (0 ≤ nI g ∧ nI g ≤ H 91 2 - 1) = 0 := bIn.mpr (by rw [v2]; exact (good_iff2 gl).mpr ⟨g, g1, rfl⟩)
    obtain ⟨n', h, ho2, i32, hh, _, p0⟩ := fit_one w hr i4 gl g1 (hg g g1)
    obtain ⟨r0, q0, p0', _⟩ := fit_at (p := 0) w ho' hs i3' (show g < 12 by omega) (hg g g1) (by omega)
    have e0 : r0 = nI h := by
      have := p0'.symm.trans p0
      exact Value.int.inj (Option.some.inj (Prod.mk.inj (Option.some.inj this)).1)
    subst e0
    have hn' : n' = n := by
      have := i32.symm.trans i3'
      have := (nI_eq (by have := ho2.1; omega) (by omega)).mp this
      omega
    subst hn'
    obtain ⟨r1, q1, p1, c1⟩ := fit_at (p := 1) w ho' hs i3' (show g < 12 by omega) (hg g g1) (by omega)
    have hc : zden 83 0 [.ref 0, .int (nI g)] [] (zSH, G) = zaft 83 19 [.ref 0, .int (nI g)] [] (zSH, G) (zden 33 13 [.ref 2, .int (nI g), .int (nI h), .retAddr 0, .retAddr 0, .retAddr 0] [.int r1] (zSH, G)) := by
      rw [B_T_why_0, if_neg n1, B_Ho_lead_0, show (0 : Int32) = nI 0 from rfl, q0, zaft_same]
      rw [show zden 33 6 [.ref 2, .int (nI g), .retAddr 0, .retAddr 0, .retAddr 0, .retAddr 0] ((some (Value.int (nI h))).toList ++ []) (zSH, G) = _ from B_Ho_lead_6, show (1 : Int32) = nI 1 from rfl, q1, zaft_same]
      rfl
    have hm : zden 139 0 [.ref 90, .int (nI g), .retAddr 0, .retAddr 0] [] (zSH, H) = zden 139 24 [.ref 90, .int (nI g), .int (nI h), .retAddr 0] [.int r1] (zSH, H) := by
      rw [B_M_why_0, if_pos n2, show (0 : Int32) = nI 0 from rfl, p0', zaft_same]
      refine Eq.trans B_M_why_17 ?_
      rw [show (1 : Int32) = nI 1 from rfl, p1, zaft_same]
      rfl
    rcases c1 with rfl | ⟨j, j1, rfl⟩
    · refine ⟨0, ?_, ?_⟩
      · rw [hc, B_Ho_lead_13, if_neg nlow, zaft_same]
        exact B_T_why_19
      · rw [hm, B_M_why_24 (fun q => absurd q nlow), if_neg nlow]
    · refine ⟨leadV (G 4) h j, ?_, ?_⟩
      · rw [hc, sc_lead2 w (by omega) (by omega), zaft_same]
        exact B_T_why_19
      · rw [hm, sm_why2 ho' hh j1]
  · have n1 : ¬ (0 ≤ x ∧ x < G 2 4) := by rw [i4, good_iff gl]; exact hx
    have n2 : ¬ (0 ≤ x ∧ x ≤ H 91 2 - 1) := by rw [v2, good_iff2 gl]; exact hx
    refine ⟨-11, ?_, ?_⟩
    · rw [B_T_why_0, if_pos (bIz.mpr n1)]
    · rw [B_M_why_0, if_neg (fun q => q (bIz.mpr n2))]
