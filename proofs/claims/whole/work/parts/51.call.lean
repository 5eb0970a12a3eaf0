-- 51: the nine changes, as they are called
def CallOK (tc : Nat) (ac : List Value) (tm : Nat) (am : List Value) : Prop := ∀ (D f u : Nat) (G H : Nat → Nat → Int32), D ≤ 6000 → zWT G → HRat D G 2 (H 91) → zHist D G H f u → zWhy G H →
  ∃ (r : Int32) (G' H' : Nat → Nat → Int32) (f' u' : Nat), zden tc 0 ac [] (zSH, G) = some (some (.int r), (zSH, G')) ∧ zden tm 0 am [] (zSH, H) = some (some (.int r), (zSH, H')) ∧ HRat (D + 1) G' 2 (H' 91) ∧ zHist (D + 1) G' H' f' u' ∧ zWhy G' H' ∧ chFr G G' H H'
theorem call_heading {x1 x2 x3 x4 x5 : Int32} : CallOK 70 [.ref 0, .int x1, .int x2, .int x3, .int x4, .int x5] 106 [.ref 90, .int x1, .int x2, .int x3, .int x4, .int x5] := by
  intro D f u G H hD w hr hh hw
  obtain ⟨r, G1, G2, G3, H1, H2, H3, f', u', k1, k2, k3, m1, m2, m3, rest⟩ := sc_change (ok_heading (x1 := x1) (x2 := x2) (x3 := x3) (x4 := x4) (x5 := x5)) hD w hr hh hw
  refine ⟨r, G3, H3, f', u', ?_, ?_, rest⟩
  · rw [B_T_heading_0, k1, zaft_same]
    refine Eq.trans B_T_heading_11 ?_
    rw [k2, zaft_same]
    refine Eq.trans B_T_heading_29 ?_
    rw [k3, zaft_same]
    exact B_T_heading_32
  · rw [B_M_heading_0, m1, zaft_same]
    refine Eq.trans B_M_heading_4 ?_
    rw [m2, zaft_same]
    refine Eq.trans B_M_heading_16 ?_
    rw [m3, zaft_same]
    exact B_M_heading_19
theorem call_strike {x1 : Int32} : CallOK 72 [.ref 0, .int x1] 116 [.ref 90, .int x1] := by
  intro D f u G H hD w hr hh hw
  obtain ⟨r, G1, G2, G3, H1, H2, H3, f', u', k1, k2, k3, m1, m2, m3, rest⟩ := sc_change (ok_strike (x := x1)) hD w hr hh hw
  refine ⟨r, G3, H3, f', u', ?_, ?_, rest⟩
  · rw [B_T_strike_0, k1, zaft_same]
    refine Eq.trans B_T_strike_11 ?_
    rw [k2, zaft_same]
    refine Eq.trans B_T_strike_23 ?_
    rw [k3, zaft_same]
    exact B_T_strike_26
  · rw [B_M_strike_0, m1, zaft_same]
    refine Eq.trans B_M_strike_4 ?_
    rw [m2, zaft_same]
    refine Eq.trans B_M_strike_10 ?_
    rw [m3, zaft_same]
    exact B_M_strike_13
theorem call_good {x1 x2 x3 x4 x5 x6 : Int32} : CallOK 75 [.ref 0, .int x1, .int x2, .int x3, .int x4, .int x5, .int x6] 126 [.ref 90, .int x1, .int x2, .int x3, .int x4, .int x5, .int x6] := by
  intro D f u G H hD w hr hh hw
  obtain ⟨r, G1, G2, G3, H1, H2, H3, f', u', k1, k2, k3, m1, m2, m3, rest⟩ := sc_change (ok_good (x1 := x1) (x2 := x2) (x3 := x3) (x4 := x4) (x5 := x5) (x6 := x6)) hD w hr hh hw
  refine ⟨r, G3, H3, f', u', ?_, ?_, rest⟩
  · rw [B_T_good_0, k1, zaft_same]
    refine Eq.trans B_T_good_11 ?_
    rw [k2, zaft_same]
    refine Eq.trans B_T_good_31 ?_
    rw [k3, zaft_same]
    exact B_T_good_34
  · rw [B_M_good_0, m1, zaft_same]
    refine Eq.trans B_M_good_4 ?_
    rw [m2, zaft_same]
    refine Eq.trans B_M_good_18 ?_
    rw [m3, zaft_same]
    exact B_M_good_21
theorem call_work {x1 x2 x3 : Int32} : CallOK 76 [.ref 0, .int x1, .int x2, .int x3] 128 [.ref 90, .int x1, .int x2, .int x3] := by
  intro D f u G H hD w hr hh hw
  obtain ⟨r, G1, G2, G3, H1, H2, H3, f', u', k1, k2, k3, m1, m2, m3, rest⟩ := sc_change (ok_work (x := x1) (y := x2) (z := x3)) hD w hr hh hw
  refine ⟨r, G3, H3, f', u', ?_, ?_, rest⟩
  · rw [B_T_work_0, k1, zaft_same]
    refine Eq.trans B_T_work_11 ?_
    rw [k2, zaft_same]
    refine Eq.trans B_T_work_25 ?_
    rw [k3, zaft_same]
    exact B_T_work_28
  · rw [B_M_work_0, m1, zaft_same]
    refine Eq.trans B_M_work_4 ?_
    rw [m2, zaft_same]
    refine Eq.trans B_M_work_12 ?_
    rw [m3, zaft_same]
    exact B_M_work_15
theorem call_favour {x1 x2 : Int32} : CallOK 84 [.ref 0, .int x1, .int x2] 140 [.ref 90, .int x1, .int x2] := by
  intro D f u G H hD w hr hh hw
  obtain ⟨r, G1, G2, G3, H1, H2, H3, f', u', k1, k2, k3, m1, m2, m3, rest⟩ := sc_change (ok_favour (x := x1) (y := x2)) hD w hr hh hw
  refine ⟨r, G3, H3, f', u', ?_, ?_, rest⟩
  · rw [B_T_favour_0, k1, zaft_same]
    refine Eq.trans B_T_favour_11 ?_
    rw [k2, zaft_same]
    refine Eq.trans B_T_favour_24 ?_
    rw [k3, zaft_same]
    exact B_T_favour_27
  · rw [B_M_favour_0, m1, zaft_same]
    refine Eq.trans B_M_favour_4 ?_
    rw [m2, zaft_same]
    refine Eq.trans B_M_favour_11 ?_
    rw [m3, zaft_same]
    exact B_M_favour_14
theorem call_coins {x1 : Int32} : CallOK 85 [.ref 0, .int x1] 142 [.ref 90, .int x1] := by
  intro D f u G H hD w hr hh hw
  obtain ⟨r, G1, G2, G3, H1, H2, H3, f', u', k1, k2, k3, m1, m2, m3, rest⟩ := sc_change (ok_give (x := x1)) hD w hr hh hw
  refine ⟨r, G3, H3, f', u', ?_, ?_, rest⟩
  · rw [B_T_coins_0, k1, zaft_same]
    refine Eq.trans B_T_coins_11 ?_
    rw [k2, zaft_same]
    refine Eq.trans B_T_coins_23 ?_
    rw [k3, zaft_same]
    exact B_T_coins_26
  · rw [B_M_coins_0, m1, zaft_same]
    refine Eq.trans B_M_coins_4 ?_
    rw [m2, zaft_same]
    refine Eq.trans B_M_coins_10 ?_
    rw [m3, zaft_same]
    exact B_M_coins_13
theorem call_enter {x1 : Int32} : CallOK 86 [.ref 0, .int x1] 144 [.ref 90, .int x1] := by
  intro D f u G H hD w hr hh hw
  obtain ⟨r, G1, G2, G3, H1, H2, H3, f', u', k1, k2, k3, m1, m2, m3, rest⟩ := sc_change (ok_enter (x := x1)) hD w hr hh hw
  refine ⟨r, G3, H3, f', u', ?_, ?_, rest⟩
  · rw [B_T_enter_0, k1, zaft_same]
    refine Eq.trans B_T_enter_11 ?_
    rw [k2, zaft_same]
    refine Eq.trans B_T_enter_23 ?_
    rw [k3, zaft_same]
    exact B_T_enter_26
  · rw [B_M_enter_0, m1, zaft_same]
    refine Eq.trans B_M_enter_4 ?_
    rw [m2, zaft_same]
    refine Eq.trans B_M_enter_10 ?_
    rw [m3, zaft_same]
    exact B_M_enter_13
theorem call_export {x1 : Int32} : CallOK 87 [.ref 0, .int x1] 146 [.ref 90, .int x1] := by
  intro D f u G H hD w hr hh hw
  obtain ⟨r, G1, G2, G3, H1, H2, H3, f', u', k1, k2, k3, m1, m2, m3, rest⟩ := sc_change (ok_export (x := x1)) hD w hr hh hw
  refine ⟨r, G3, H3, f', u', ?_, ?_, rest⟩
  · rw [B_T_export_0, k1, zaft_same]
    refine Eq.trans B_T_export_11 ?_
    rw [k2, zaft_same]
    refine Eq.trans B_T_export_23 ?_
    rw [k3, zaft_same]
    exact B_T_export_26
  · rw [B_M_export_0, m1, zaft_same]
    refine Eq.trans B_M_export_4 ?_
    rw [m2, zaft_same]
    refine Eq.trans B_M_export_10 ?_
    rw [m3, zaft_same]
    exact B_M_export_13
theorem call_days {x1 : Int32} : CallOK 88 [.ref 0, .int x1] 148 [.ref 90, .int x1] := by
  intro D f u G H hD w hr hh hw
  obtain ⟨r, G1, G2, G3, H1, H2, H3, f', u', k1, k2, k3, m1, m2, m3, rest⟩ := sc_change (ok_goBy (x := x1)) hD w hr hh hw
  refine ⟨r, G3, H3, f', u', ?_, ?_, rest⟩
  · rw [B_T_days_0, k1, zaft_same]
    refine Eq.trans B_T_days_11 ?_
    rw [k2, zaft_same]
    refine Eq.trans B_T_days_23 ?_
    rw [k3, zaft_same]
    exact B_T_days_26
  · rw [B_M_days_0, m1, zaft_same]
    refine Eq.trans B_M_days_4 ?_
    rw [m2, zaft_same]
    refine Eq.trans B_M_days_10 ?_
    rw [m3, zaft_same]
    exact B_M_days_13
