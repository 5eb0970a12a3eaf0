-- 56: code, would
theorem read_code {x : Int32} : ReadOK 74 [.ref 0, .int x] 125 [.ref 90, .int x] := by
  intro D G H w hr hw
  obtain ⟨n, ho, i3, hs⟩ := hr.rows
  have hn := ho.1
  have i3' : G 2 3 = nI (n + 1) := i3
  have hv := ho.2.1
  have e : G 2 3 - 1 = nI n := by rw [i3', nI_pred]
  by_cases hx : (0 : Int32) ≤ x ∧ x ≤ nI n
  · obtain ⟨i, _, i2, rfl⟩ := nI_btw (A := 0) (B := n) rfl rfl (by omega) (by omega) hx
    obtain ⟨⟨m0, _⟩, k0, _⟩ := ho.head i2
    refine ⟨G 4 (5 * i + 4), ?_, ?_⟩
    · rw [B_T_code_0, e, if_neg (bIn.mpr hx), hd_get w rfl nIlit_4 (by omega) (by decide)]
    · rw [B_M_code_0 (fun _ => k0), hv, if_neg (bIn.mpr hx), m0]
  · refine ⟨-11, ?_, ?_⟩
    · rw [B_T_code_0, e, if_pos (bIz.mpr hx)]
    · rw [B_M_code_0 (fun q => absurd (by rw [← hv]; exact bIn.mp q) hx), hv, if_pos (bIz.mpr hx)]
