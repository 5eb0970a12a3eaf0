-- 52: undo
theorem sm_undo_loop {v : Nat} (hv : v < 8) : ∀ (d i : Nat) (H : Nat → Nat → Int32), i + d = 327 → H 90 1 = nI v →
    ∃ H' : Nat → Nat → Int32, zden 180 22 [.ref 90, .int (nI i)] [] (zSH, H) = some (some (.int (nI v)), (zSH, H')) ∧ (∀ j, H' 91 j = if i ≤ j ∧ j < 327 then H 94 (327 * v + j) else H 91 j) ∧ ∀ r, r ≠ 91 → H' r = H r := by
  intro d
  induction d with
  | zero =>
    intro i H h h1
    have h : i = 327 := by omega
    subst h
    have hb : (327 : Int32) ≤ nI 327 := by rw [nIlit_327]; exact Int32.le_refl _
    refine ⟨H, ?_, fun j => by rw [if_neg (by omega)], fun _ _ => rfl⟩
    rw [B_M_undo_22 (fun q => absurd hb q) (fun q => absurd hb q), if_pos hb, h1]
  | succ d ih =>
    intro i H h h1
    have hb : ¬ (327 : Int32) ≤ nI i := by rw [nIlit_327]; exact nI_ge (by omega) (by decide)
    have e1 : H 90 1 * 327 + nI i = nI (327 * v + i) := by rw [h1, nIlit_327, pk_mul, nI_add, Nat.mul_comm]
    obtain ⟨H', q1, q2, q3⟩ := ih (i + 1) (zup H 91 i (H 94 (327 * v + i))) (by omega) (by rw [zup_ro (by decide)]; exact h1)
    refine ⟨H', ?_, fun j => ?_, fun r hr => by rw [q3 r hr, zup_ro hr]⟩
    · rw [B_M_undo_22 (fun _ => by rw [e1]; exact zin_nI (by omega) (by decide)) (fun _ => zin_nI (by omega) (by decide)), if_neg hb, e1, nI_clamp (by omega), nI_clamp (by omega), nI_1]
      exact q1
    · rw [q2 j]
      by_cases a : i + 1 ≤ j ∧ j < 327
      · rw [if_pos a, if_pos (by omega), zup_ro (by decide)]
      · rw [if_neg a]
        by_cases b : j = i
        · subst b
          rw [if_pos (by omega), zup_rr]
        · rw [if_neg (by omega), zup_rk b]
theorem call_undo {D f u : Nat} {G H : Nat → Nat → Int32} (hr : HRat D G 2 (H 91)) (hh : zHist D G H f u) (hw : zWhy G H) :
    ∃ (r : Int32) (G' H' : Nat → Nat → Int32) (f' u' : Nat), zden 102 0 [.ref 0] [] (zSH, G) = some (some (.int r), (zSH, G')) ∧ zden 180 0 [.ref 90, .retAddr 0] [] (zSH, H) = some (some (.int r), (zSH, H')) ∧ HRat D G' 2 (H' 91) ∧ zHist D G' H' f' u' ∧ zWhy G' H' ∧ chFr G G' H H' := by
  have hh' := hh
  obtain ⟨hf, hu, f3, u4, c1, hk⟩ := hh'
  rcases Nat.eq_zero_or_pos u with h0 | h0
  · subst h0
    refine ⟨-15, G, H, f, 0, ?_, ?_, hr, hh, hw, fun _ _ => rfl, fun _ _ _ _ _ => rfl, fun _ _ => rfl, rfl⟩
    · rw [B_T_undo_0, B_Hi_stepBack_0, if_neg (by rw [u4]; decide), zaft_same]
      exact B_T_undo_11
    · rw [B_M_undo_0, if_neg (by rw [c1]; exact fun q => q (by decide))]
  · obtain ⟨v, rfl⟩ : ∃ v, u = v + 1 := ⟨u - 1, by omega⟩
    have e3 : G 9 3 + 8 - (G 9 3 + 8) / 9 * 9 = nI ((f + 8) % 9) := by rw [f3, nIlit_8, nI_add, nI_rem9 (by omega)]
    have e4 : zup G 9 3 (nI ((f + 8) % 9)) 9 4 - 1 = nI v := by rw [zup_rk (by decide), u4, nI_pred]
    have hX := sc_takeBack (G := zup (zup G 9 3 (nI ((f + 8) % 9))) 9 4 (nI v)) (f := (f + 8) % 9) (by rw [zup_rk (by decide), zup_rr]) (by omega)
    generalize hXe : zup (zup G 9 3 (nI ((f + 8) % 9))) 9 4 (nI v) = X at hX
    have xo : ∀ i, i ≠ 9 → X i = G i := fun i hi => by rw [← hXe, zup_ro hi, zup_ro hi]
    have x93 : X 9 3 = nI ((f + 8) % 9) := by rw [← hXe, zup_rk (by decide), zup_rr]
    have x94 : X 9 4 = nI v := by rw [← hXe, zup_rr]
    have co : ∀ i, i ≠ 2 → i ≠ 4 → i ≠ 6 → i ≠ 8 → hcopy X 2 (kb ((f + 8) % 9)) i = X i := fun i a b c d => hcopy_o a b c d
    have me : H 90 1 - 1 = nI v := by rw [c1, nI_pred]
    obtain ⟨H', q1, q2, q3⟩ := sm_undo_loop (v := v) (by omega) 327 0 (zup H 90 1 (nI v)) rfl zup_rr
    refine ⟨nI v, hcopy X 2 (kb ((f + 8) % 9)), H', (f + 8) % 9, v, ?_, ?_, ?_, ⟨by omega, by omega, by rw [co 9 (by decide) (by decide) (by decide) (by decide)]; exact x93, by rw [co 9 (by decide) (by decide) (by decide) (by decide)]; exact x94, by rw [q3 90 (by decide), zup_rr], fun t ht => ?_⟩, ?_, fun i hi => by rw [co i (by omega) (by omega) (by omega) (by omega), xo i (by omega)], fun i i1 i2 i3 i4 => by rw [q3 i i2, zup_ro i1], fun j hj => by rw [q3 90 (by decide), zup_rk (by omega)], by rw [co 9 (by decide) (by decide) (by decide) (by decide), ← hXe, zup_rk (by decide), zup_rk (by decide)]⟩
    · rw [B_T_undo_0, B_Hi_stepBack_0, if_pos (by rw [u4]; exact nI_lt (by omega) (by omega)), e3, e4, hXe, hX, zaft_same]
      rw [show zden 17 39 [.ref 9, .ref 2] ((none : Option Value).toList ++ []) (zSH, hcopy X 2 (kb ((f + 8) % 9))) = _ from B_Hi_stepBack_39, zaft_same, co 9 (by decide) (by decide) (by decide) (by decide), x94]
      exact B_T_undo_11
    · rw [B_M_undo_0, if_pos (by rw [c1]; exact nI_ne0 (by omega) (by omega)), me]
      exact q1
    · have h := hk 0 (by omega)
      have h' : HRat D X (kb ((f + 8) % 9)) (fun j => H 94 (327 * (v + 1 - 1 - 0) + j)) := HRat_same h (xo _ (by unfold kb; omega)) (xo _ (by unfold kb; omega)) (xo _ (by unfold kb; omega)) (xo _ (by unfold kb; omega)) (fun _ _ => rfl)
      refine HRat_copy (by unfold zApart kb; omega) h' (fun j hj => ?_)
      rw [q2 j, if_pos (by omega), zup_ro (by decide)]
      rfl
    · have h := hk (t + 1) (by omega)
      have e : ((f + 8) % 9 + 8 - t) % 9 = (f + 8 - (t + 1)) % 9 := by omega
      rw [e]
      have h' : HRat D X (kb ((f + 8 - (t + 1)) % 9)) (fun j => H 94 (327 * (v + 1 - 1 - (t + 1)) + j)) := HRat_same h (xo _ (by unfold kb; omega)) (xo _ (by unfold kb; omega)) (xo _ (by unfold kb; omega)) (xo _ (by unfold kb; omega)) (fun _ _ => rfl)
      refine HR.congr (HRat_keep h' (by unfold zApart kb; omega)) (fun _ _ _ => rfl) (fun _ _ => rfl) (fun _ _ => rfl) (fun _ _ => rfl) (fun j hj => ?_)
      show H' 94 (327 * (v - 1 - t) + j) = H 94 (327 * (v + 1 - 1 - (t + 1)) + j)
      rw [q3 94 (by decide), zup_ro (by decide)]
      exact congrArg (H 94) (by omega)
    · unfold zWhy
      rw [q3 90 (by decide), zup_rk (by decide), zup_rk (by decide), co 1 (by decide) (by decide) (by decide) (by decide), xo 1 (by decide)]
      exact hw
