-- 38: a change from its beginning to its end; undo, save, restore (with wip/p36/gen38.py)
def zRk (G : Nat → Nat → Int32) : Prop := G 82 0 = nI 12 ∧ G 82 1 = nI 2
/-- the whole object before and behind each call of the law -/
def LI (D n gn f u : Nat) (G : Nat → Nat → Int32) : Prop := zWT G ∧ zRk G ∧ HIat D n gn G ∧ f < 9 ∧ u ≤ 8 ∧ G 9 3 = nI f ∧ G 9 4 = nI u ∧ G 84 1 = 0 ∧ zinv (zSH, G)
theorem LI.w {D n gn f u : Nat} {G : Nat → Nat → Int32} (h : LI D n gn f u G) : zWT G := h.1
theorem LI.k {D n gn f u : Nat} {G : Nat → Nat → Int32} (h : LI D n gn f u G) : zRk G := h.2.1
theorem LI.h {D n gn f u : Nat} {G : Nat → Nat → Int32} (h : LI D n gn f u G) : HIat D n gn G := h.2.2.1
theorem LI.fl {D n gn f u : Nat} {G : Nat → Nat → Int32} (h : LI D n gn f u G) : f < 9 := h.2.2.2.1
theorem LI.ul {D n gn f u : Nat} {G : Nat → Nat → Int32} (h : LI D n gn f u G) : u ≤ 8 := h.2.2.2.2.1
theorem LI.f3 {D n gn f u : Nat} {G : Nat → Nat → Int32} (h : LI D n gn f u G) : G 9 3 = nI f := h.2.2.2.2.2.1
theorem LI.u4 {D n gn f u : Nat} {G : Nat → Nat → Int32} (h : LI D n gn f u G) : G 9 4 = nI u := h.2.2.2.2.2.2.1
theorem LI.tx {D n gn f u : Nat} {G : Nat → Nat → Int32} (h : LI D n gn f u G) : G 84 1 = 0 := h.2.2.2.2.2.2.2.1
theorem LI.iv {D n gn f u : Nat} {G : Nat → Nat → Int32} (h : LI D n gn f u G) : zinv (zSH, G) := h.2.2.2.2.2.2.2.2
def hEq (G G' : Nat → Nat → Int32) : Prop := (∀ j, 3 ≤ j → j ≤ 10 → G' 2 j = G 2 j) ∧ G' 4 = G 4 ∧ G' 6 = G 6 ∧ G' 8 = G 8
/-- the house of G lies kept at b in G' -/
def keptAt (b : Nat) (G G' : Nat → Nat → Int32) : Prop := (∀ j, 3 ≤ j → j ≤ 10 → G' b j = G 2 j) ∧ G' (b + 2) = G 4 ∧ G' (b + 4) = G 6 ∧ G' (b + 6) = G 8
def rwF (G G' : Nat → Nat → Int32) : Prop := (∀ i, i = 0 ∨ i = 3 ∨ i = 5 ∨ i = 7 ∨ (10 ≤ i ∧ i ≤ 17) ∨ 81 ≤ i → G' i = G i) ∧ G' 9 2 = G 9 2
def chEnd (D n gn f u : Nat) (r : Int32) (G G' : Nat → Nat → Int32) : Prop := (r < 0 ∧ -14 ≤ r ∧ hEq G G' ∧ LI D n gn f u G') ∨ (zR5 0 100000000 r ∧ ∃ n' gn' : Nat, gn ≤ gn' ∧ LI (D + 1) n' gn' ((f + 1) % 9) (if u = 8 then 8 else u + 1) G' ∧ keptAt (kb f) G G')
def ChOK (tc : Nat) (ac : List Value) : Prop := ∀ (D n gn f u : Nat) (G : Nat → Nat → Int32), D ≤ 6000 → LI D n gn f u G → ∃ (r : Int32) (G' : Nat → Nat → Int32), zden tc 0 ac [] (zSH, G) = some (some (.int r), (zSH, G')) ∧ rwF G G' ∧ chEnd D n gn f u r G G'
theorem hEq.rf {G : Nat → Nat → Int32} : hEq G G := ⟨fun _ _ _ => rfl, rfl, rfl, rfl⟩
theorem hEq.tr {G G' G'' : Nat → Nat → Int32} (a : hEq G G') (b : hEq G' G'') : hEq G G'' := ⟨fun j h1 h2 => (b.1 j h1 h2).trans (a.1 j h1 h2), b.2.1.trans a.2.1, b.2.2.1.trans a.2.2.1, b.2.2.2.trans a.2.2.2⟩
theorem hEq.sy {G G' : Nat → Nat → Int32} (a : hEq G G') : hEq G' G := ⟨fun j h1 h2 => (a.1 j h1 h2).symm, a.2.1.symm, a.2.2.1.symm, a.2.2.2.symm⟩
theorem HIat.eq {D n gn : Nat} {G G' : Nat → Nat → Int32} (h : HIat D n gn G) (e : hEq G G') : HIat D n gn G' := HI.congr h e.1 (fun j _ => by rw [e.2.1]) (fun j _ => by rw [e.2.2.1]) (fun j _ => by rw [e.2.2.2])
theorem rwF.rf {G : Nat → Nat → Int32} : rwF G G := ⟨fun _ _ => rfl, rfl⟩
theorem rwF.tr {G G' G'' : Nat → Nat → Int32} (a : rwF G G') (b : rwF G' G'') : rwF G G'' := ⟨fun i hi => (b.1 i hi).trans (a.1 i hi), b.2.trans a.2⟩
/-- rows of one length, the same up to it -/
theorem row_eq {G G' : Nat → Nat → Int32} {r s L : Nat} (hi : zinv (zSH, G)) (hi' : zinv (zSH, G')) (h1 : (zSH[r]?).map zsl1 = some L) (h2 : (zSH[s]?).map zsl1 = some L) (h : ∀ j, j < L → G' r j = G s j) : G' r = G s := by
  funext j
  by_cases hj : j < L
  · exact h j hj
  · obtain ⟨a, a1, a2⟩ := Option.map_eq_some_iff.mp h1
    obtain ⟨b, b1, b2⟩ := Option.map_eq_some_iff.mp h2
    have e1 : G' r j = 0 := hi' r a a1 j (by omega)
    have e2 : G s j = 0 := hi s b b1 j (by omega)
    rw [e1, e2]
theorem ln_kb : ∀ f, f < 9 → (zSH[kb f + 2]?).map zsl1 = some 55 ∧ (zSH[kb f + 4]?).map zsl1 = some 276 ∧ (zSH[kb f + 6]?).map zsl1 = some 5 := by decide +kernel
theorem ln_2 : (zSH[4]?).map zsl1 = some 55 ∧ (zSH[6]?).map zsl1 = some 276 ∧ (zSH[8]?).map zsl1 = some 5 := by decide +kernel
theorem ln_11 : (zSH[13]?).map zsl1 = some 55 ∧ (zSH[15]?).map zsl1 = some 276 ∧ (zSH[17]?).map zsl1 = some 5 := by decide +kernel
theorem sc_begin {D n gn f u : Nat} {G : Nat → Nat → Int32} (h : LI D n gn f u G) :
    zden 14 0 [.ref 9, .ref 2, .retAddr 0] [] (zSH, G) = some (none, (zSH, hcopy G (kb f) 2)) ∧ zWT (hcopy G (kb f) 2) ∧ HIat D n gn (hcopy G (kb f) 2) ∧ (∀ i, i < 18 ∨ 81 ≤ i → hcopy G (kb f) 2 i = G i) ∧ zinv (zSH, hcopy G (kb f) 2) ∧ keptAt (kb f) G (hcopy G (kb f) 2) := by
  have k1 := sc_keep h.f3 h.fl
  have fl := h.fl
  have co : ∀ i, i < 18 ∨ 81 ≤ i → hcopy G (kb f) 2 i = G i := fun i hi => hcopy_o (by unfold kb; omega) (by unfold kb; omega) (by unfold kb; omega) (by unfold kb; omega)
  have iv := zden_inv h.iv k1
  have ap : zApart (kb f) 2 := by unfold zApart kb; omega
  obtain ⟨l1, l2, l3⟩ := ln_kb f fl
  refine ⟨k1, ?_, ?_, co, iv, fun j h1 h2 => hcopy_I ap h1 h2, row_eq h.iv iv l1 ln_2.1 (fun j hj => hcopy_A ap hj), row_eq h.iv iv l2 ln_2.2.1 (fun j hj => hcopy_B ap hj), row_eq h.iv iv l3 ln_2.2.2 (fun j hj => hcopy_C ap hj)⟩
  · unfold zWT
    rw [co 3 (by decide), co 5 (by decide), co 7 (by decide)]
    exact h.w
  · unfold HIat
    rw [co 2 (by decide), co 4 (by decide), co 6 (by decide), co 8 (by decide)]
    exact h.h
/-- a change that is done -/
theorem sc_end {tc : Nat} {ac : List Value} {D n gn f u n' gn' : Nat} {r : Int32} {G G2 : Nat → Nat → Int32} (h : LI D n gn f u G) (hz : zden tc 0 ac [] (zSH, hcopy G (kb f) 2) = some (some (.int r), (zSH, G2))) (fr : opFr (hcopy G (kb f) 2) G2) (hr : ¬ r < 0) (h2 : HIat (D + 1) n' gn' G2) :
    ∃ G3 : Nat → Nat → Int32, zden 15 0 [.ref 9, .int r] [] (zSH, G2) = some (some (.int r), (zSH, G3)) ∧ LI (D + 1) n' gn' ((f + 1) % 9) (if u = 8 then 8 else u + 1) G3 ∧ keptAt (kb f) G G3 ∧ rwF G G3 ∧ (∀ i, i ≠ 9 → G3 i = G2 i) := by
  obtain ⟨k1, w1, h1, co, iv1, kp⟩ := sc_begin h
  have iv2 := zden_inv iv1 hz
  have c9 : G2 9 = G 9 := (fr 9 (by decide) (by decide) (by decide) (by decide) (by decide)).trans (co 9 (by decide))
  obtain ⟨G3, q1, q2, q3, q4, q5⟩ := sc_settle (G := G2) hr (by rw [c9]; exact h.f3) h.fl (by rw [c9]; exact h.u4) h.ul
  have iv3 := zden_inv iv2 q1
  have fl := h.fl
  have ul := h.ul
  have all : ∀ i, i ≠ 1 → i ≠ 2 → i ≠ 4 → i ≠ 6 → i ≠ 8 → i ≠ 9 → (i < 18 ∨ 81 ≤ i) → G3 i = G i := fun i a b c d e g hi => (q5 i g).trans ((fr i a b c d e).trans (co i hi))
  have hib : kb f = 18 + 7 * f := rfl
  have kk : ∀ i, 18 ≤ i → G3 i = hcopy G (kb f) 2 i := fun i hi => (q5 i (by omega)).trans (fr i (by omega) (by omega) (by omega) (by omega) (by omega))
  refine ⟨G3, q1, ⟨?_, ?_, ?_, by omega, ?_, q2, q3, ?_, iv3⟩, ?_, ⟨fun i hi => all i (by omega) (by omega) (by omega) (by omega) (by omega) (by omega) (by omega), ?_⟩, q5⟩
  · unfold zWT
    rw [all 3 (by decide) (by decide) (by decide) (by decide) (by decide) (by decide) (by decide), all 5 (by decide) (by decide) (by decide) (by decide) (by decide) (by decide) (by decide), all 7 (by decide) (by decide) (by decide) (by decide) (by decide) (by decide) (by decide)]
    exact h.w
  · unfold zRk
    rw [all 82 (by decide) (by decide) (by decide) (by decide) (by decide) (by decide) (by decide)]
    exact h.k
  · unfold HIat
    rw [q5 2 (by decide), q5 4 (by decide), q5 6 (by decide), q5 8 (by decide)]
    exact h2
  · by_cases e : u = 8
    · rw [if_pos e]; omega
    · rw [if_neg e]; omega
  · rw [all 84 (by decide) (by decide) (by decide) (by decide) (by decide) (by decide) (by decide)]
    exact h.tx
  · unfold keptAt
    rw [kk (kb f) (by omega), kk (kb f + 2) (by omega), kk (kb f + 4) (by omega), kk (kb f + 6) (by omega)]
    exact kp
  · rw [q4 2 (by decide) (by decide), c9]
/-- a change that is refused -/
theorem sc_no {tc : Nat} {ac : List Value} {D n gn f u : Nat} {r : Int32} {G G2 : Nat → Nat → Int32} (h : LI D n gn f u G) (hz : zden tc 0 ac [] (zSH, hcopy G (kb f) 2) = some (some (.int r), (zSH, G2))) (fr : opFr (hcopy G (kb f) 2) G2) (hr : r < 0) (h2 : hsame (hcopy G (kb f) 2) G2) :
    zden 15 0 [.ref 9, .int r] [] (zSH, G2) = some (some (.int r), (zSH, G2)) ∧ hEq G G2 ∧ LI D n gn f u G2 ∧ rwF G G2 := by
  obtain ⟨k1, w1, h1, co, iv1, kp⟩ := sc_begin h
  have iv2 := zden_inv iv1 hz
  obtain ⟨s2, s4, s6, s8⟩ := h2
  have e2 : G2 2 = G 2 := s2.trans (co 2 (by decide))
  have e : hEq G G2 := ⟨fun j _ _ => by rw [e2], s4.trans (co 4 (by decide)), s6.trans (co 6 (by decide)), s8.trans (co 8 (by decide))⟩
  have all : ∀ i, i ≠ 1 → i ≠ 2 → i ≠ 4 → i ≠ 6 → i ≠ 8 → (i < 18 ∨ 81 ≤ i) → G2 i = G i := fun i a b c d e hi => (fr i a b c d e).trans (co i hi)
  refine ⟨sc_settle_neg hr, e, ⟨?_, ?_, h.h.eq e, h.fl, h.ul, ?_, ?_, ?_, iv2⟩, fun i hi => all i (by omega) (by omega) (by omega) (by omega) (by omega) (by omega), ?_⟩
  · unfold zWT
    rw [all 3 (by decide) (by decide) (by decide) (by decide) (by decide) (by decide), all 5 (by decide) (by decide) (by decide) (by decide) (by decide) (by decide), all 7 (by decide) (by decide) (by decide) (by decide) (by decide) (by decide)]
    exact h.w
  · unfold zRk
    rw [all 82 (by decide) (by decide) (by decide) (by decide) (by decide) (by decide)]
    exact h.k
  · rw [all 9 (by decide) (by decide) (by decide) (by decide) (by decide) (by decide)]; exact h.f3
  · rw [all 9 (by decide) (by decide) (by decide) (by decide) (by decide) (by decide)]; exact h.u4
  · rw [all 84 (by decide) (by decide) (by decide) (by decide) (by decide) (by decide)]; exact h.tx
  · rw [all 9 (by decide) (by decide) (by decide) (by decide) (by decide) (by decide)]
theorem sc_change {tc : Nat} {ac : List Value} (ok : OpOK tc ac) {D n gn f u : Nat} {G : Nat → Nat → Int32} (hD : D ≤ 6000) (h : LI D n gn f u G) :
    ∃ (r : Int32) (G1 G2 G3 : Nat → Nat → Int32), zden 14 0 [.ref 9, .ref 2, .retAddr 0] [] (zSH, G) = some (none, (zSH, G1)) ∧ zden tc 0 ac [] (zSH, G1) = some (some (.int r), (zSH, G2)) ∧ zden 15 0 [.ref 9, .int r] [] (zSH, G2) = some (some (.int r), (zSH, G3)) ∧ rwF G G3 ∧ chEnd D n gn f u r G G3 := by
  obtain ⟨k1, w1, h1, co, iv1, kp⟩ := sc_begin h
  obtain ⟨r, G2, z, fr, en⟩ := ok D n gn _ hD w1 h1
  rcases en with ⟨e1, e2, e3⟩ | ⟨e1, n', gn', e2, e3⟩
  · obtain ⟨a, b, c, d⟩ := sc_no h z fr e1 e3
    exact ⟨r, _, G2, G2, k1, z, a, d, .inl ⟨e1, e2, b, c⟩⟩
  · have nr : ¬ r < 0 := by
      obtain ⟨m, _, m2, rfl⟩ := e1
      exact nI_pos (by omega)
    obtain ⟨G3, a, b, c, d, _⟩ := sc_end h z fr nr e3
    exact ⟨r, _, G2, G3, k1, z, a, d, .inr ⟨e1, n', gn', e2, b, c⟩⟩

theorem pub_heading {x1 x2 x3 x4 x5 r : Int32} {G G1 G2 G3 : Nat → Nat → Int32} (k1 : zden 14 0 [.ref 9, .ref 2, .retAddr 0] [] (zSH, G) = some (none, (zSH, G1))) (k2 : zden 1 0 [.ref 1, .int x1, .int x2, .int x3, .int x4, .int x5, .retAddr 0] [] (zSH, G1) = some (some (.int r), (zSH, G2))) (k3 : zden 15 0 [.ref 9, .int r] [] (zSH, G2) = some (some (.int r), (zSH, G3))) :
    zden 70 0 [.ref 0, .int x1, .int x2, .int x3, .int x4, .int x5] [] (zSH, G) = some (some (.int r), (zSH, G3)) := by
  rw [B_T_heading_0, k1, zaft_same]
  refine Eq.trans B_T_heading_11 ?_
  rw [k2, zaft_same]
  refine Eq.trans B_T_heading_29 ?_
  rw [k3, zaft_same]
  exact B_T_heading_32
theorem ch_heading {x1 x2 x3 x4 x5 : Int32} : ChOK 70 [.ref 0, .int x1, .int x2, .int x3, .int x4, .int x5] := by
  intro D n gn f u G hD h
  obtain ⟨r, G1, G2, G3, k1, k2, k3, rest⟩ := sc_change (ok_heading (x1 := x1) (x2 := x2) (x3 := x3) (x4 := x4) (x5 := x5)) hD h
  exact ⟨r, G3, pub_heading k1 k2 k3, rest⟩
theorem pub_strike {x1 r : Int32} {G G1 G2 G3 : Nat → Nat → Int32} (k1 : zden 14 0 [.ref 9, .ref 2, .retAddr 0] [] (zSH, G) = some (none, (zSH, G1))) (k2 : zden 3 0 [.ref 1, .int x1, .retAddr 0, .retAddr 0] [] (zSH, G1) = some (some (.int r), (zSH, G2))) (k3 : zden 15 0 [.ref 9, .int r] [] (zSH, G2) = some (some (.int r), (zSH, G3))) :
    zden 72 0 [.ref 0, .int x1] [] (zSH, G) = some (some (.int r), (zSH, G3)) := by
  rw [B_T_strike_0, k1, zaft_same]
  refine Eq.trans B_T_strike_11 ?_
  rw [k2, zaft_same]
  refine Eq.trans B_T_strike_23 ?_
  rw [k3, zaft_same]
  exact B_T_strike_26
theorem ch_strike {x1 : Int32} : ChOK 72 [.ref 0, .int x1] := by
  intro D n gn f u G hD h
  obtain ⟨r, G1, G2, G3, k1, k2, k3, rest⟩ := sc_change (ok_strike (x := x1)) hD h
  exact ⟨r, G3, pub_strike k1 k2 k3, rest⟩
theorem pub_good {x1 x2 x3 x4 x5 x6 r : Int32} {G G1 G2 G3 : Nat → Nat → Int32} (k1 : zden 14 0 [.ref 9, .ref 2, .retAddr 0] [] (zSH, G) = some (none, (zSH, G1))) (k2 : zden 4 0 [.ref 1, .int x1, .int x2, .int x3, .int x4, .int x5, .int x6, .retAddr 0, .retAddr 0] [] (zSH, G1) = some (some (.int r), (zSH, G2))) (k3 : zden 15 0 [.ref 9, .int r] [] (zSH, G2) = some (some (.int r), (zSH, G3))) :
    zden 75 0 [.ref 0, .int x1, .int x2, .int x3, .int x4, .int x5, .int x6] [] (zSH, G) = some (some (.int r), (zSH, G3)) := by
  rw [B_T_good_0, k1, zaft_same]
  refine Eq.trans B_T_good_11 ?_
  rw [k2, zaft_same]
  refine Eq.trans B_T_good_31 ?_
  rw [k3, zaft_same]
  exact B_T_good_34
theorem ch_good {x1 x2 x3 x4 x5 x6 : Int32} : ChOK 75 [.ref 0, .int x1, .int x2, .int x3, .int x4, .int x5, .int x6] := by
  intro D n gn f u G hD h
  obtain ⟨r, G1, G2, G3, k1, k2, k3, rest⟩ := sc_change (ok_good (x1 := x1) (x2 := x2) (x3 := x3) (x4 := x4) (x5 := x5) (x6 := x6)) hD h
  exact ⟨r, G3, pub_good k1 k2 k3, rest⟩
theorem pub_work {x1 x2 x3 r : Int32} {G G1 G2 G3 : Nat → Nat → Int32} (k1 : zden 14 0 [.ref 9, .ref 2, .retAddr 0] [] (zSH, G) = some (none, (zSH, G1))) (k2 : zden 6 0 [.ref 1, .int x1, .int x2, .int x3, .retAddr 0, .retAddr 0, .retAddr 0, .retAddr 0] [] (zSH, G1) = some (some (.int r), (zSH, G2))) (k3 : zden 15 0 [.ref 9, .int r] [] (zSH, G2) = some (some (.int r), (zSH, G3))) :
    zden 76 0 [.ref 0, .int x1, .int x2, .int x3] [] (zSH, G) = some (some (.int r), (zSH, G3)) := by
  rw [B_T_work_0, k1, zaft_same]
  refine Eq.trans B_T_work_11 ?_
  rw [k2, zaft_same]
  refine Eq.trans B_T_work_25 ?_
  rw [k3, zaft_same]
  exact B_T_work_28
theorem ch_work {x1 x2 x3 : Int32} : ChOK 76 [.ref 0, .int x1, .int x2, .int x3] := by
  intro D n gn f u G hD h
  obtain ⟨r, G1, G2, G3, k1, k2, k3, rest⟩ := sc_change (ok_work (x := x1) (y := x2) (z := x3)) hD h
  exact ⟨r, G3, pub_work k1 k2 k3, rest⟩
theorem pub_favour {x1 x2 r : Int32} {G G1 G2 G3 : Nat → Nat → Int32} (k1 : zden 14 0 [.ref 9, .ref 2, .retAddr 0] [] (zSH, G) = some (none, (zSH, G1))) (k2 : zden 7 0 [.ref 1, .int x1, .int x2, .retAddr 0] [] (zSH, G1) = some (some (.int r), (zSH, G2))) (k3 : zden 15 0 [.ref 9, .int r] [] (zSH, G2) = some (some (.int r), (zSH, G3))) :
    zden 84 0 [.ref 0, .int x1, .int x2] [] (zSH, G) = some (some (.int r), (zSH, G3)) := by
  rw [B_T_favour_0, k1, zaft_same]
  refine Eq.trans B_T_favour_11 ?_
  rw [k2, zaft_same]
  refine Eq.trans B_T_favour_24 ?_
  rw [k3, zaft_same]
  exact B_T_favour_27
theorem ch_favour {x1 x2 : Int32} : ChOK 84 [.ref 0, .int x1, .int x2] := by
  intro D n gn f u G hD h
  obtain ⟨r, G1, G2, G3, k1, k2, k3, rest⟩ := sc_change (ok_favour (x := x1) (y := x2)) hD h
  exact ⟨r, G3, pub_favour k1 k2 k3, rest⟩
theorem pub_coins {x1 r : Int32} {G G1 G2 G3 : Nat → Nat → Int32} (k1 : zden 14 0 [.ref 9, .ref 2, .retAddr 0] [] (zSH, G) = some (none, (zSH, G1))) (k2 : zden 8 0 [.ref 1, .int x1] [] (zSH, G1) = some (some (.int r), (zSH, G2))) (k3 : zden 15 0 [.ref 9, .int r] [] (zSH, G2) = some (some (.int r), (zSH, G3))) :
    zden 85 0 [.ref 0, .int x1] [] (zSH, G) = some (some (.int r), (zSH, G3)) := by
  rw [B_T_coins_0, k1, zaft_same]
  refine Eq.trans B_T_coins_11 ?_
  rw [k2, zaft_same]
  refine Eq.trans B_T_coins_23 ?_
  rw [k3, zaft_same]
  exact B_T_coins_26
theorem ch_coins {x1 : Int32} : ChOK 85 [.ref 0, .int x1] := by
  intro D n gn f u G hD h
  obtain ⟨r, G1, G2, G3, k1, k2, k3, rest⟩ := sc_change (ok_give (x := x1)) hD h
  exact ⟨r, G3, pub_coins k1 k2 k3, rest⟩
theorem pub_enter {x1 r : Int32} {G G1 G2 G3 : Nat → Nat → Int32} (k1 : zden 14 0 [.ref 9, .ref 2, .retAddr 0] [] (zSH, G) = some (none, (zSH, G1))) (k2 : zden 9 0 [.ref 1, .int x1, .retAddr 0, .retAddr 0, .retAddr 0] [] (zSH, G1) = some (some (.int r), (zSH, G2))) (k3 : zden 15 0 [.ref 9, .int r] [] (zSH, G2) = some (some (.int r), (zSH, G3))) :
    zden 86 0 [.ref 0, .int x1] [] (zSH, G) = some (some (.int r), (zSH, G3)) := by
  rw [B_T_enter_0, k1, zaft_same]
  refine Eq.trans B_T_enter_11 ?_
  rw [k2, zaft_same]
  refine Eq.trans B_T_enter_23 ?_
  rw [k3, zaft_same]
  exact B_T_enter_26
theorem ch_enter {x1 : Int32} : ChOK 86 [.ref 0, .int x1] := by
  intro D n gn f u G hD h
  obtain ⟨r, G1, G2, G3, k1, k2, k3, rest⟩ := sc_change (ok_enter (x := x1)) hD h
  exact ⟨r, G3, pub_enter k1 k2 k3, rest⟩
theorem pub_export {x1 r : Int32} {G G1 G2 G3 : Nat → Nat → Int32} (k1 : zden 14 0 [.ref 9, .ref 2, .retAddr 0] [] (zSH, G) = some (none, (zSH, G1))) (k2 : zden 10 0 [.ref 1, .int x1, .retAddr 0, .retAddr 0] [] (zSH, G1) = some (some (.int r), (zSH, G2))) (k3 : zden 15 0 [.ref 9, .int r] [] (zSH, G2) = some (some (.int r), (zSH, G3))) :
    zden 87 0 [.ref 0, .int x1] [] (zSH, G) = some (some (.int r), (zSH, G3)) := by
  rw [B_T_export_0, k1, zaft_same]
  refine Eq.trans B_T_export_11 ?_
  rw [k2, zaft_same]
  refine Eq.trans B_T_export_23 ?_
  rw [k3, zaft_same]
  exact B_T_export_26
theorem ch_export {x1 : Int32} : ChOK 87 [.ref 0, .int x1] := by
  intro D n gn f u G hD h
  obtain ⟨r, G1, G2, G3, k1, k2, k3, rest⟩ := sc_change (ok_export (x := x1)) hD h
  exact ⟨r, G3, pub_export k1 k2 k3, rest⟩
theorem pub_days {x1 r : Int32} {G G1 G2 G3 : Nat → Nat → Int32} (k1 : zden 14 0 [.ref 9, .ref 2, .retAddr 0] [] (zSH, G) = some (none, (zSH, G1))) (k2 : zden 11 0 [.ref 1, .int x1] [] (zSH, G1) = some (some (.int r), (zSH, G2))) (k3 : zden 15 0 [.ref 9, .int r] [] (zSH, G2) = some (some (.int r), (zSH, G3))) :
    zden 88 0 [.ref 0, .int x1] [] (zSH, G) = some (some (.int r), (zSH, G3)) := by
  rw [B_T_days_0, k1, zaft_same]
  refine Eq.trans B_T_days_11 ?_
  rw [k2, zaft_same]
  refine Eq.trans B_T_days_23 ?_
  rw [k3, zaft_same]
  exact B_T_days_26
theorem ch_days {x1 : Int32} : ChOK 88 [.ref 0, .int x1] := by
  intro D n gn f u G hD h
  obtain ⟨r, G1, G2, G3, k1, k2, k3, rest⟩ := sc_change (ok_goBy (x := x1)) hD h
  exact ⟨r, G3, pub_days k1 k2 k3, rest⟩
/-- the house is laid over from a kept one -/
theorem hc_eq {b L : Nat} {G0 G X : Nat → Nat → Int32} (hb : zApart 2 b) (kp : keptAt b G0 X) (iv0 : zinv (zSH, G0)) (iv : zinv (zSH, G)) (hG : ∀ i, i = 2 ∨ i = 4 ∨ i = 6 ∨ i = 8 → G i = hcopy X 2 b i) : hEq G0 G := by
  refine ⟨fun j h1 h2 => ?_, row_eq iv0 iv ln_2.1 ln_2.1 (fun j hj => ?_), row_eq iv0 iv ln_2.2.1 ln_2.2.1 (fun j hj => ?_), row_eq iv0 iv ln_2.2.2 ln_2.2.2 (fun j hj => ?_)⟩
  · rw [hG 2 (by decide), hcopy_I hb h1 h2]; exact kp.1 j h1 h2
  · rw [hG 4 (by decide), ← kp.2.1]; exact hcopy_A hb hj
  · rw [hG 6 (by decide), ← kp.2.2.1]; exact hcopy_B hb hj
  · rw [hG 8 (by decide), ← kp.2.2.2]; exact hcopy_C hb hj
/-- undo right behind a change -/
theorem ch_undo {D n gn D0 n0 gn0 f v : Nat} {G0 G : Nat → Nat → Int32} (h : LI D n gn f (v + 1) G) (h0 : HIat D0 n0 gn0 G0) (iv0 : zinv (zSH, G0)) (kp : keptAt (kb ((f + 8) % 9)) G0 G) :
    ∃ G' : Nat → Nat → Int32, zden 102 0 [.ref 0] [] (zSH, G) = some (some (.int (nI v)), (zSH, G')) ∧ hEq G0 G' ∧ LI D0 n0 gn0 ((f + 8) % 9) v G' ∧ rwF G G' := by
  have fl := h.fl
  have ul := h.ul
  have f3 := h.f3
  have u4 := h.u4
  have e3 : G 9 3 + 8 - (G 9 3 + 8) / 9 * 9 = nI ((f + 8) % 9) := by rw [f3, nIlit_8, nI_add, nI_rem9 (by omega)]
  have e4 : zup G 9 3 (nI ((f + 8) % 9)) 9 4 - 1 = nI v := by rw [zup_rk (by decide), u4, nI_pred]
  have hX := sc_takeBack (G := zup (zup G 9 3 (nI ((f + 8) % 9))) 9 4 (nI v)) (f := (f + 8) % 9) (by rw [zup_rk (by decide), zup_rr]) (by omega)
  generalize hXe : zup (zup G 9 3 (nI ((f + 8) % 9))) 9 4 (nI v) = X at hX
  have xo : ∀ i, i ≠ 9 → X i = G i := fun i hi => by rw [← hXe, zup_ro hi, zup_ro hi]
  have x93 : X 9 3 = nI ((f + 8) % 9) := by rw [← hXe, zup_rk (by decide), zup_rr]
  have x94 : X 9 4 = nI v := by rw [← hXe, zup_rr]
  have co : ∀ i, i ≠ 2 → i ≠ 4 → i ≠ 6 → i ≠ 8 → hcopy X 2 (kb ((f + 8) % 9)) i = X i := fun i a b c d => hcopy_o a b c d
  have all : ∀ i, i ≠ 2 → i ≠ 4 → i ≠ 6 → i ≠ 8 → i ≠ 9 → hcopy X 2 (kb ((f + 8) % 9)) i = G i := fun i a b c d e => (co i a b c d).trans (xo i e)
  have run : zden 102 0 [.ref 0] [] (zSH, G) = some (some (.int (nI v)), (zSH, hcopy X 2 (kb ((f + 8) % 9)))) := by
    rw [B_T_undo_0, B_Hi_stepBack_0, if_pos (by rw [u4]; exact show nI 0 < nI (v + 1) from nI_lt (by omega) (by omega)), e3, e4, hXe, hX, zaft_same]
    rw [show zden 17 39 [.ref 9, .ref 2] ((none : Option Value).toList ++ []) (zSH, hcopy X 2 (kb ((f + 8) % 9))) = _ from B_Hi_stepBack_39, zaft_same, co 9 (by decide) (by decide) (by decide) (by decide), x94]
    exact B_T_undo_11
  have iv := zden_inv h.iv run
  have hk : kb ((f + 8) % 9) = 18 + 7 * ((f + 8) % 9) := rfl
  have kp' : keptAt (kb ((f + 8) % 9)) G0 X := by
    unfold keptAt
    rw [xo _ (by omega), xo _ (by omega), xo _ (by omega), xo _ (by omega)]
    exact kp
  have he : hEq G0 (hcopy X 2 (kb ((f + 8) % 9))) := hc_eq (L := 0) (by unfold zApart; omega) kp' iv0 iv (fun _ _ => rfl)
  refine ⟨_, run, he, ⟨?_, ?_, h0.eq he, by omega, by omega, by rw [co 9 (by decide) (by decide) (by decide) (by decide)]; exact x93, by rw [co 9 (by decide) (by decide) (by decide) (by decide)]; exact x94, ?_, iv⟩, fun i hi => all i (by omega) (by omega) (by omega) (by omega) (by omega), ?_⟩
  · unfold zWT
    rw [all 3 (by decide) (by decide) (by decide) (by decide) (by decide), all 5 (by decide) (by decide) (by decide) (by decide) (by decide), all 7 (by decide) (by decide) (by decide) (by decide) (by decide)]
    exact h.w
  · unfold zRk
    rw [all 82 (by decide) (by decide) (by decide) (by decide) (by decide)]
    exact h.k
  · rw [all 84 (by decide) (by decide) (by decide) (by decide) (by decide)]; exact h.tx
  · rw [co 9 (by decide) (by decide) (by decide) (by decide), ← hXe, zup_rk (by decide), zup_rk (by decide)]
/-- save: the house lies kept at 11 -/
theorem ch_save {D n gn f u : Nat} {G : Nat → Nat → Int32} (h : LI D n gn f u G) :
    ∃ G' : Nat → Nat → Int32, zden 103 0 [.ref 0] [] (zSH, G) = some (some (.int (G 2 5)), (zSH, G')) ∧ hEq G G' ∧ LI D n gn f u G' ∧ keptAt 11 G G' ∧ G' 9 2 = 1 ∧ ∀ i, 81 ≤ i → G' i = G i := by
  have co : ∀ i, i ≠ 11 → i ≠ 13 → i ≠ 15 → i ≠ 17 → hcopy G 11 2 i = G i := fun i a b c d => hcopy_o a b c d
  have al : ∀ i, i ≠ 11 → i ≠ 13 → i ≠ 15 → i ≠ 17 → i ≠ 9 → zup (hcopy G 11 2) 9 2 1 i = G i := fun i a b c d e => by rw [zup_ro e, co i a b c d]
  have c9 : hcopy G 11 2 9 = G 9 := co 9 (by decide) (by decide) (by decide) (by decide)
  have run : zden 103 0 [.ref 0] [] (zSH, G) = some (some (.int (G 2 5)), (zSH, zup (hcopy G 11 2) 9 2 1)) := by
    rw [B_T_save_0, C_Hi_saveFrom_0, zaft_same]
    refine Eq.trans B_T_save_11 ?_
    rw [al 2 (by decide) (by decide) (by decide) (by decide) (by decide)]
  have iv := zden_inv h.iv run
  have ap : zApart 11 2 := by unfold zApart; omega
  have e : hEq G (zup (hcopy G 11 2) 9 2 1) := ⟨fun j _ _ => by rw [al 2 (by decide) (by decide) (by decide) (by decide) (by decide)], al 4 (by decide) (by decide) (by decide) (by decide) (by decide), al 6 (by decide) (by decide) (by decide) (by decide) (by decide), al 8 (by decide) (by decide) (by decide) (by decide) (by decide)⟩
  refine ⟨_, run, e, ⟨?_, ?_, h.h.eq e, h.fl, h.ul, ?_, ?_, ?_, iv⟩, ⟨fun j h1 h2 => ?_, row_eq h.iv iv ln_11.1 ln_2.1 (fun j hj => ?_), row_eq h.iv iv ln_11.2.1 ln_2.2.1 (fun j hj => ?_), row_eq h.iv iv ln_11.2.2 ln_2.2.2 (fun j hj => ?_)⟩, zup_rr, fun i hi => al i (by omega) (by omega) (by omega) (by omega) (by omega)⟩
  · unfold zWT
    rw [al 3 (by decide) (by decide) (by decide) (by decide) (by decide), al 5 (by decide) (by decide) (by decide) (by decide) (by decide), al 7 (by decide) (by decide) (by decide) (by decide) (by decide)]
    exact h.w
  · unfold zRk
    rw [al 82 (by decide) (by decide) (by decide) (by decide) (by decide)]
    exact h.k
  · rw [zup_rk (by decide), c9]; exact h.f3
  · rw [zup_rk (by decide), c9]; exact h.u4
  · rw [al 84 (by decide) (by decide) (by decide) (by decide) (by decide)]; exact h.tx
  · rw [zup_ro (by decide)]; exact hcopy_I ap h1 h2
  · rw [zup_ro (by decide)]; exact hcopy_A ap hj
  · rw [zup_ro (by decide)]; exact hcopy_B ap hj
  · rw [zup_ro (by decide)]; exact hcopy_C ap hj
/-- restore: the house is as it was -/
theorem ch_restore {D n gn D0 n0 gn0 f u : Nat} {G0 G : Nat → Nat → Int32} (h : LI D n gn f u G) (h0 : HIat D0 n0 gn0 G0) (iv0 : zinv (zSH, G0)) (kp : keptAt 11 G0 G) (hs : G 9 2 = 1) :
    ∃ G' : Nat → Nat → Int32, zden 104 0 [.ref 0] [] (zSH, G) = some (some (.int (G0 2 5)), (zSH, G')) ∧ hEq G0 G' ∧ LI D0 n0 gn0 f 0 G' ∧ rwF G G' := by
  have co : ∀ i, i ≠ 2 → i ≠ 4 → i ≠ 6 → i ≠ 8 → hcopy G 2 11 i = G i := fun i a b c d => hcopy_o a b c d
  have al : ∀ i, i ≠ 2 → i ≠ 4 → i ≠ 6 → i ≠ 8 → i ≠ 9 → zup (hcopy G 2 11) 9 4 0 i = G i := fun i a b c d e => by rw [zup_ro e, co i a b c d]
  have c9 : hcopy G 2 11 9 = G 9 := co 9 (by decide) (by decide) (by decide) (by decide)
  have f2 : zup (hcopy G 2 11) 9 4 0 9 2 = 1 := by rw [zup_rk (by decide), c9]; exact hs
  have ap : zApart 2 11 := by unfold zApart; omega
  have run : zden 104 0 [.ref 0] [] (zSH, G) = some (some (.int (G0 2 5)), (zSH, zup (hcopy G 2 11) 9 4 0)) := by
    rw [B_T_restore_0, C_Hi_restoreTo_0, if_neg (by rw [hs]; decide), C_Hi_restoreTo_20 (by rw [f2]; exact znr_b1), zaft_same, f2]
    refine B_T_restore_11.trans ((if_neg (by decide)).trans ?_)
    rw [zup_ro (by decide), hcopy_I ap (by decide) (by decide), kp.1 5 (by decide) (by decide)]
  have iv := zden_inv h.iv run
  have e : hEq G0 (zup (hcopy G 2 11) 9 4 0) := hc_eq (L := 0) ap kp iv0 iv (fun i hi => zup_ro (by omega))
  refine ⟨_, run, e, ⟨?_, ?_, h0.eq e, h.fl, by omega, ?_, zup_rr, ?_, iv⟩, fun i hi => al i (by omega) (by omega) (by omega) (by omega) (by omega), f2.trans hs.symm⟩
  · unfold zWT
    rw [al 3 (by decide) (by decide) (by decide) (by decide) (by decide), al 5 (by decide) (by decide) (by decide) (by decide) (by decide), al 7 (by decide) (by decide) (by decide) (by decide) (by decide)]
    exact h.w
  · unfold zRk
    rw [al 82 (by decide) (by decide) (by decide) (by decide) (by decide)]
    exact h.k
  · rw [zup_rk (by decide), c9]; exact h.f3
  · rw [al 84 (by decide) (by decide) (by decide) (by decide) (by decide)]; exact h.tx
-- the changes that the law foretells
theorem x_coins {D n gn f u k d : Nat} {G : Nat → Nat → Int32} (hD : D ≤ 6000) (h : LI D n gn f u G) (k1 : 1 ≤ k) (k2 : k ≤ 9999) (hd : G 2 6 = nI d) :
    ∃ G' : Nat → Nat → Int32, zden 85 0 [.ref 0, .int (nI k)] [] (zSH, G) = some (some (.int (nI (d + k))), (zSH, G')) ∧ LI (D + 1) n gn ((f + 1) % 9) (if u = 8 then 8 else u + 1) G' ∧ rwF G G' ∧ G' 2 6 = nI (d + k) ∧ G' 2 5 = G 2 5 ∧ G' 4 = G 4 ∧ G' 6 = G 6 ∧ G' 8 = G 8 := by
  obtain ⟨b1, w1, h1, co, iv1, kp⟩ := sc_begin h
  have hd1 : hcopy G (kb f) 2 2 6 = nI d := by rw [co 2 (by decide)]; exact hd
  have z := ex_give k1 k2 hd1
  obtain ⟨r, G2, z', fr, en⟩ := ok_give (x := nI k) D n gn _ hD w1 h1
  have e := z.symm.trans z'
  obtain ⟨e1, e2⟩ := Prod.mk.inj (Option.some.inj e)
  have e1 : nI (d + k) = r := Value.int.inj (Option.some.inj e1)
  have e2 := (Prod.mk.inj e2).2
  subst e1
  rcases en with ⟨q, _⟩ | ⟨q, n', gn', q1, q2⟩
  · obtain ⟨dd, _, dd2, dd3⟩ := h1.purse
    obtain ⟨d9, _, d92, d93⟩ := h.h.purse
    have : nI d = nI d9 := hd.symm.trans d93
    rw [← nI_add, this, nI_add] at q
    exact absurd q (nI_pos (by omega))
  · have i3 : G2 2 3 = G 2 3 := by rw [← e2, zup_rk (by decide), zup_rk (by decide), co 2 (by decide)]
    have i4 : G2 2 4 = G 2 4 := by rw [← e2, zup_rk (by decide), zup_rk (by decide), co 2 (by decide)]
    have en : n' = n := by
      have a : nI (n' + 1) = nI (n + 1) := q2.i3.symm.trans (i3.trans h.h.i3)
      have := q2.ho.1
      have := h.h.ho.1
      have := (nI_eq (by omega) (by omega)).mp a
      omega
    have eg : gn' = gn := by
      have a : nI gn' = nI gn := q2.i4.symm.trans (i4.trans h.h.i4)
      have := q2.gl
      have := h.h.gl
      exact (nI_eq (by omega) (by omega)).mp a
    subst en eg
    have nr : ¬ nI (d + k) < 0 := by
      obtain ⟨m, _, m2, m3⟩ := q
      rw [m3]
      exact nI_pos (by omega)
    obtain ⟨G3, a, b, c, dd, g⟩ := sc_end h z' fr nr q2
    refine ⟨G3, pub_coins b1 z' a, b, dd, ?_, ?_, ?_, ?_, ?_⟩
    · rw [g 2 (by decide), ← e2, zup_rr]
    · rw [g 2 (by decide), ← e2, zup_rk (by decide), zup_rk (by decide), co 2 (by decide)]
    · rw [g 4 (by decide), ← e2, zup_ro (by decide), zup_ro (by decide), co 4 (by decide)]
    · rw [g 6 (by decide), ← e2, zup_ro (by decide), zup_ro (by decide), co 6 (by decide)]
    · rw [g 8 (by decide), ← e2, zup_ro (by decide), zup_ro (by decide), co 8 (by decide)]
theorem x_enter {D n gn f u g b d m : Nat} {G : Nat → Nat → Int32} (hD : D ≤ 6000) (h : LI D n gn f u G) (g1 : g < gn) (hs : G 6 (23 * g + 3) = 0) (hb : b < 5) (ho : orgF (G 6) g = nI b) (hd : dutC (G 4) (G 6) (G 8) n g (nI b) = nI d) (d1 : d ≤ 1980) (hm : G 2 6 = nI m) (dm : d ≤ m) (mD : m ≤ 9999 * D) :
    ∃ G' : Nat → Nat → Int32, zden 86 0 [.ref 0, .int (nI g)] [] (zSH, G) = some (some (.int (nI d)), (zSH, G')) ∧ LI (D + 1) n gn ((f + 1) % 9) (if u = 8 then 8 else u + 1) G' ∧ rwF G G' ∧ G' 2 = entF G g d m 2 ∧ G' 4 = G 4 ∧ G' 6 = entF G g d m 6 ∧ G' 8 = G 8 := by
  obtain ⟨b1, w1, h1, co, iv1, kp⟩ := sc_begin h
  have z := ex_enter (b := b) (d := d) (m := m) w1 h1 g1 (by rw [co 6 (by decide)]; exact hs) hb (by rw [co 6 (by decide)]; exact ho) (by rw [co 4 (by decide), co 6 (by decide), co 8 (by decide)]; exact hd) (by rw [co 2 (by decide)]; exact hm) dm (by omega)
  have q2 := ent_ok (d := d) (m := m) h1 g1 (by rw [co 6 (by decide)]; exact hs) d1 (by rw [co 2 (by decide)]; exact hm) dm mD hD
  obtain ⟨G3, a, b, c, dd, gg⟩ := sc_end h z opFr_ent (nI_pos (by omega)) q2
  refine ⟨G3, pub_enter b1 z a, b, dd, ?_, ?_, ?_, ?_⟩
  · rw [gg 2 (by decide)]; unfold entF; simp only [zup, upd, co 2 (by decide)]; simp
  · rw [gg 4 (by decide)]; unfold entF; simp only [zup_ro (show (4 : Nat) ≠ 6 by decide), zup_ro (show (4 : Nat) ≠ 2 by decide)]; exact co 4 (by decide)
  · rw [gg 6 (by decide)]; unfold entF; simp only [zup, upd, co 6 (by decide), co 2 (by decide)]; try simp
  · rw [gg 8 (by decide)]; unfold entF; simp only [zup_ro (show (8 : Nat) ≠ 6 by decide), zup_ro (show (8 : Nat) ≠ 2 by decide)]; exact co 8 (by decide)
theorem x_days {D n gn f u k d : Nat} {G : Nat → Nat → Int32} (hD : D ≤ 6000) (h : LI D n gn f u G) (k1 : 1 ≤ k) (k2 : k ≤ 99) (hd : G 2 5 = nI d) (d1 : d ≤ 99 * D) :
    ∃ G' : Nat → Nat → Int32, zden 88 0 [.ref 0, .int (nI k)] [] (zSH, G) = some (some (.int (nI (d + k))), (zSH, G')) ∧ LI (D + 1) n gn ((f + 1) % 9) (if u = 8 then 8 else u + 1) G' ∧ rwF G G' ∧ (∀ j, j ≠ 5 → G' 2 j = G 2 j) ∧ G' 2 5 = nI (d + k) ∧ G' 4 = G 4 ∧ G' 6 = G 6 ∧ G' 8 = G 8 := by
  obtain ⟨b1, w1, h1, co, iv1, kp⟩ := sc_begin h
  have z := ex_goBy (d := d) k1 k2 (show hcopy G (kb f) 2 2 5 = nI d by rw [co 2 (by decide)]; exact hd)
  have q2 : HIat (D + 1) n gn (zup (hcopy G (kb f) 2) 2 5 (nI (d + k))) := by
    unfold HIat
    rw [zup_ro (show 4 ≠ 2 by decide), zup_ro (show 6 ≠ 2 by decide), zup_ro (show 8 ≠ 2 by decide)]
    refine HI.upd h1 (zup_rk (by decide)) (zup_rk (by decide)) ⟨d + k, by omega, by omega, zup_rr⟩ ?_ h1.fav (fun g _ h => h) (fun _ _ _ _ _ => rfl) ?_ ?_ ?_
    · rw [zup_rk (by decide)]; exact h1.purse.mono (by omega)
    · rw [zup_rk (by decide)]; exact h1.s8
    · rw [zup_rk (by decide)]; exact h1.s9
    · rw [zup_rk (by decide), zup_rk (by decide), zup_rk (by decide), zup_rk (by decide)]; exact h1.s6
  obtain ⟨G3, a, b, c, dd, gg⟩ := sc_end h z (fun i a b c d e => zup_ro b) (nI_pos (by omega)) q2
  refine ⟨G3, pub_days b1 z a, b, dd, fun j hj => ?_, ?_, ?_, ?_, ?_⟩
  · rw [gg 2 (by decide), zup_rk hj, co 2 (by decide)]
  · rw [gg 2 (by decide), zup_rr]
  · rw [gg 4 (by decide), zup_ro (by decide), co 4 (by decide)]
  · rw [gg 6 (by decide), zup_ro (by decide), co 6 (by decide)]
  · rw [gg 8 (by decide), zup_ro (by decide), co 8 (by decide)]
theorem x_export {D n gn f u g p d : Nat} {G : Nat → Nat → Int32} (hD : D ≤ 6000) (h : LI D n gn f u G) (g1 : g < gn) (hs : G 6 (23 * g + 3) ≠ 2) (hp : G 6 (23 * g + 5) = nI p) (p1 : p ≤ 1980) (hd : G 2 6 = nI d) (d1 : d ≤ 9999 * D) :
    ∃ G' : Nat → Nat → Int32, zden 87 0 [.ref 0, .int (nI g)] [] (zSH, G) = some (some (.int (nI (bkF G g p))), (zSH, G')) ∧ LI (D + 1) n gn ((f + 1) % 9) (if u = 8 then 8 else u + 1) G' ∧ rwF G G' ∧ G' 2 = expF G g d (bkF G g p) 2 ∧ G' 4 = G 4 ∧ G' 6 = expF G g d (bkF G g p) 6 ∧ G' 8 = G 8 := by
  obtain ⟨b1, w1, h1, co, iv1, kp⟩ := sc_begin h
  have eb : bkF (hcopy G (kb f) 2) g p = bkF G g p := by unfold bkF; rw [co 6 (by decide), co 2 (by decide)]
  have z := ex_export (p := p) (d := d) w1 h1 g1 (by rw [co 6 (by decide)]; exact hs) (by rw [co 6 (by decide)]; exact hp) p1 (by rw [co 2 (by decide)]; exact hd)
  have q2 := exp_ok (p := p) (d := d) (b := bkF G g p) h1 g1 (by rw [co 6 (by decide)]; exact hs) (by rw [co 6 (by decide)]; exact hp) p1 (by rw [co 2 (by decide)]; exact hd) d1 bkF_le
  rw [eb] at z
  have bl := @bkF_le G g p
  obtain ⟨G3, a, b, c, dd, gg⟩ := sc_end h z opFr_exp (nI_pos (by omega)) q2
  refine ⟨G3, pub_export b1 z a, b, dd, ?_, ?_, ?_, ?_⟩
  · rw [gg 2 (by decide)]; unfold expF; simp only [zup, upd, co 2 (by decide)]; simp
  · rw [gg 4 (by decide)]; unfold expF; simp only [zup_ro (show (4 : Nat) ≠ 6 by decide), zup_ro (show (4 : Nat) ≠ 2 by decide)]; exact co 4 (by decide)
  · rw [gg 6 (by decide)]; unfold expF; simp only [zup, upd, co 6 (by decide), co 2 (by decide)]; try simp
  · rw [gg 8 (by decide)]; unfold expF; simp only [zup_ro (show (8 : Nat) ≠ 6 by decide), zup_ro (show (8 : Nat) ≠ 2 by decide)]; exact co 8 (by decide)
/-- a refusal, with its reason -/
theorem x_no {tc : Nat} {ac : List Value} {a b : Int32} {D n gn f u : Nat} {G : Nat → Nat → Int32} (h : LI D n gn f u G) (hz : zden tc 0 ac [] (zSH, hcopy G (kb f) 2) = some (some (.int (-14)), (zSH, zup (zup (hcopy G (kb f) 2) 1 1 a) 1 2 b))) :
    ∃ G' : Nat → Nat → Int32, zden 14 0 [.ref 9, .ref 2, .retAddr 0] [] (zSH, G) = some (none, (zSH, hcopy G (kb f) 2)) ∧ zden tc 0 ac [] (zSH, hcopy G (kb f) 2) = some (some (.int (-14)), (zSH, G')) ∧ zden 15 0 [.ref 9, .int (-14)] [] (zSH, G') = some (some (.int (-14)), (zSH, G')) ∧ hEq G G' ∧ LI D n gn f u G' ∧ rwF G G' ∧ G' 1 1 = a ∧ G' 1 2 = b := by
  obtain ⟨b1, w1, h1, co, iv1, kp⟩ := sc_begin h
  obtain ⟨p, q, r, s⟩ := sc_no h hz opFr_ref (by decide) ⟨by rw [zup_ro (by decide), zup_ro (by decide)], by rw [zup_ro (by decide), zup_ro (by decide)], by rw [zup_ro (by decide), zup_ro (by decide)], by rw [zup_ro (by decide), zup_ro (by decide)]⟩
  exact ⟨_, b1, hz, p, q, r, s, by rw [zup_rk (by decide), zup_rr], zup_rr⟩
theorem x_enter_no {D n gn f u g : Nat} {G : Nat → Nat → Int32} (h : LI D n gn f u G) (g1 : g < gn) (hs : G 6 (23 * g + 3) ≠ 0) :
    ∃ G' : Nat → Nat → Int32, zden 86 0 [.ref 0, .int (nI g)] [] (zSH, G) = some (some (.int (-14)), (zSH, G')) ∧ hEq G G' ∧ LI D n gn f u G' ∧ rwF G G' ∧ G' 1 1 = 3 ∧ G' 1 2 = G 6 (23 * g + 3) := by
  obtain ⟨b1, w1, h1, co, iv1, kp⟩ := sc_begin h
  obtain ⟨G', a, b, c, d⟩ := x_no h (no_enter w1 h1 g1 (by rw [co 6 (by decide)]; exact hs))
  rw [co 6 (by decide)] at d
  exact ⟨G', pub_enter a b c, d⟩
theorem x_enter_no4 {D n gn f u g : Nat} {G : Nat → Nat → Int32} (h : LI D n gn f u G) (g1 : g < gn) (hs : G 6 (23 * g + 3) = 0) (ho : orgF (G 6) g = -15) :
    ∃ G' : Nat → Nat → Int32, zden 86 0 [.ref 0, .int (nI g)] [] (zSH, G) = some (some (.int (-14)), (zSH, G')) ∧ hEq G G' ∧ LI D n gn f u G' ∧ rwF G G' ∧ G' 1 1 = 4 ∧ G' 1 2 = nI g := by
  obtain ⟨b1, w1, h1, co, iv1, kp⟩ := sc_begin h
  obtain ⟨G', a, b, c, d⟩ := x_no h (no_origin w1 h1 g1 (by rw [co 6 (by decide)]; exact hs) (by rw [co 6 (by decide)]; exact ho))
  exact ⟨G', pub_enter a b c, d⟩
theorem x_export_no {D n gn f u g : Nat} {G : Nat → Nat → Int32} (h : LI D n gn f u G) (g1 : g < gn) (hs : G 6 (23 * g + 3) = 2) :
    ∃ G' : Nat → Nat → Int32, zden 87 0 [.ref 0, .int (nI g)] [] (zSH, G) = some (some (.int (-14)), (zSH, G')) ∧ hEq G G' ∧ LI D n gn f u G' ∧ rwF G G' ∧ G' 1 1 = 3 ∧ G' 1 2 = 2 := by
  obtain ⟨b1, w1, h1, co, iv1, kp⟩ := sc_begin h
  obtain ⟨G', a, b, c, d⟩ := x_no h (no_export w1 h1 g1 (by rw [co 6 (by decide)]; exact hs))
  exact ⟨G', pub_export a b c, d⟩
theorem x_work_no {D n gn f u g : Nat} {G : Nat → Nat → Int32} (h : LI D n gn f u G) (g1 : g < gn) (hs : G 6 (23 * g + 3) ≠ 0) :
    ∃ G' : Nat → Nat → Int32, zden 76 0 [.ref 0, .int (nI g), .int 0, .int 1] [] (zSH, G) = some (some (.int (-14)), (zSH, G')) ∧ hEq G G' ∧ LI D n gn f u G' ∧ rwF G G' ∧ G' 1 1 = 3 ∧ G' 1 2 = G 6 (23 * g + 3) := by
  obtain ⟨b1, w1, h1, co, iv1, kp⟩ := sc_begin h
  obtain ⟨G', a, b, c, d⟩ := x_no h (no_work w1 h1 g1 (by rw [co 6 (by decide)]; exact hs))
  rw [co 6 (by decide)] at d
  exact ⟨G', pub_work a b c, d⟩
