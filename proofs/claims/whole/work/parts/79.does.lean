-- 79: an order is carried out (written by a program)
theorem rdF_len_ok {s : Nat → Nat} : ∀ (cs : List Nat) (p : Nat), (rdF s cs p).2.2 = false → (rdF s cs p).1.length = nv cs := by
  intro cs
  induction cs with
  | nil => intro p _; rfl
  | cons c cs ih =>
    intro p
    rw [rdF_cons]
    have hn : nv (c :: cs) = (if isSg c = true then 0 else 1) + nv cs := rfl
    rw [hn]
    by_cases a : (rdI s c p).2.2 = true
    · rw [if_pos a]; exact fun z => Bool.noConfusion (show true = false from z)
    · rw [if_neg a]
      intro z
      have := ih (rdI s c p).2.1 z
      by_cases b : isSg c = true
      · rw [if_pos b, if_pos b]
        show (rdF s cs (rdI s c p).2.1).1.length = 0 + nv cs
        omega
      · rw [if_neg b, if_neg b]
        show (rdF s cs (rdI s c p).2.1).1.length + 1 = 1 + nv cs
        omega
/-- the kind's change, as the class and as the model carry it out -/
def zDo (k : Nat) (vs : List Nat) : Prop := ∃ (tc : Nat) (ac : List Value) (tm : Nat) (am : List Value), OpOK tc ac tm am ∧
  (∀ (o : Nat) (G : Nat → Nat → Int32), o < 11 → zOT G → G 86 (7 * o) = nI k → (∀ t, t < vs.length → G 86 (7 * o + 1 + t) = nI (vs.getD t 0)) → ∀ (r : Int32) (G' : Nat → Nat → Int32), zden tc 0 ac [] (zSH, G) = some (some (.int r), (zSH, G')) → zden 12 0 [.ref 1, .ref 85, .int (nI o), .retAddr 0, .retAddr 0, .retAddr 0, .retAddr 0, .retAddr 0] [] (zSH, G) = some (some (.int r), (zSH, G'))) ∧
  (∀ (H : Nat → Nat → Int32), (∀ t, t < vs.length → H 97 t = nI (vs.getD t 0)) → ∀ (r : Int32) (H' : Nat → Nat → Int32), zden tm 0 am [] (zSH, H) = some (some (.int r), (zSH, H')) → zden 166 0 [.ref 90, .int (nI k)] [] (zSH, H) = some (some (.int r), (zSH, H')))
theorem do_0 {vs : List Nat} (h : vs.length = 5) : zDo 0 vs := by
  refine ⟨1, [.ref 1, .int (nI (vs.getD 0 0)), .int (nI (vs.getD 1 0)), .int (nI (vs.getD 2 0)), .int (nI (vs.getD 3 0)), .int (nI (vs.getD 4 0)), .retAddr 0], 109, [.ref 90, .int (nI (vs.getD 0 0)), .int (nI (vs.getD 1 0)), .int (nI (vs.getD 2 0)), .int (nI (vs.getD 3 0)), .int (nI (vs.getD 4 0)), .retAddr 0, .retAddr 0], ok_heading, fun o G ho w h0 hv r G' hr => ?_, fun H hv r H' hr => ?_⟩
  · have t0 : tget G 85 86 77 (nI o) 0 = nI 0 := (ot_get (j := 0) w (by decide) ho (by omega)).trans h0
    have t1 : tget G 85 86 77 (nI o) 1 = nI (vs.getD 0 0) := (ot_get (j := 1) w (by decide) ho (by omega)).trans (hv 0 (by omega))
    have t2 : tget G 85 86 77 (nI o) 2 = nI (vs.getD 1 0) := (ot_get (j := 2) w (by decide) ho (by omega)).trans (hv 1 (by omega))
    have t3 : tget G 85 86 77 (nI o) 3 = nI (vs.getD 2 0) := (ot_get (j := 3) w (by decide) ho (by omega)).trans (hv 2 (by omega))
    have t4 : tget G 85 86 77 (nI o) 4 = nI (vs.getD 3 0) := (ot_get (j := 4) w (by decide) ho (by omega)).trans (hv 3 (by omega))
    have t5 : tget G 85 86 77 (nI o) 5 = nI (vs.getD 4 0) := (ot_get (j := 5) w (by decide) ho (by omega)).trans (hv 4 (by omega))
    rw [B_Cl_carryOut_0, t0, if_pos (by decide), t1, t2, t3, t4, t5]
    refine Eq.trans B_Cl_carryOut_92 ?_
    rw [hr, zaft_same]
    exact B_Cl_carryOut_105
  · rw [B_M_does_0, if_pos (by decide)]
    refine Eq.trans B_M_does_48 ?_
    rw [hv 0 (by omega), hv 1 (by omega), hv 2 (by omega), hv 3 (by omega), hv 4 (by omega), hr, zaft_same]
    exact B_M_does_82
theorem do_1 {vs : List Nat} (h : vs.length = 1) : zDo 1 vs := by
  refine ⟨3, [.ref 1, .int (nI (vs.getD 0 0)), .retAddr 0, .retAddr 0], 117, [.ref 90, .int (nI (vs.getD 0 0)), .retAddr 0, .retAddr 0], ok_strike, fun o G ho w h0 hv r G' hr => ?_, fun H hv r H' hr => ?_⟩
  · have t0 : tget G 85 86 77 (nI o) 0 = nI 1 := (ot_get (j := 0) w (by decide) ho (by omega)).trans h0
    have t1 : tget G 85 86 77 (nI o) 1 = nI (vs.getD 0 0) := (ot_get (j := 1) w (by decide) ho (by omega)).trans (hv 0 (by omega))
    rw [B_Cl_carryOut_0, t0, if_neg (by decide), if_pos (by decide), t1]
    refine Eq.trans B_Cl_carryOut_106 ?_
    rw [hr, zaft_same]
    exact B_Cl_carryOut_111
  · rw [B_M_does_0, if_neg (by decide), if_pos (by decide)]
    refine Eq.trans B_M_does_83 ?_
    rw [hv 0 (by omega), hr, zaft_same]
    exact B_M_does_93
theorem do_2 {vs : List Nat} (h : vs.length = 6) : zDo 2 vs := by
  refine ⟨4, [.ref 1, .int (nI (vs.getD 0 0)), .int (nI (vs.getD 1 0)), .int (nI (vs.getD 2 0)), .int (nI (vs.getD 3 0)), .int (nI (vs.getD 4 0)), .int (nI (vs.getD 5 0)), .retAddr 0, .retAddr 0], 127, [.ref 90, .int (nI (vs.getD 0 0)), .int (nI (vs.getD 1 0)), .int (nI (vs.getD 2 0)), .int (nI (vs.getD 3 0)), .int (nI (vs.getD 4 0)), .int (nI (vs.getD 5 0)), .retAddr 0, .retAddr 0], ok_good, fun o G ho w h0 hv r G' hr => ?_, fun H hv r H' hr => ?_⟩
  · have t0 : tget G 85 86 77 (nI o) 0 = nI 2 := (ot_get (j := 0) w (by decide) ho (by omega)).trans h0
    have t1 : tget G 85 86 77 (nI o) 1 = nI (vs.getD 0 0) := (ot_get (j := 1) w (by decide) ho (by omega)).trans (hv 0 (by omega))
    have t2 : tget G 85 86 77 (nI o) 2 = nI (vs.getD 1 0) := (ot_get (j := 2) w (by decide) ho (by omega)).trans (hv 1 (by omega))
    have t3 : tget G 85 86 77 (nI o) 3 = nI (vs.getD 2 0) := (ot_get (j := 3) w (by decide) ho (by omega)).trans (hv 2 (by omega))
    have t4 : tget G 85 86 77 (nI o) 4 = nI (vs.getD 3 0) := (ot_get (j := 4) w (by decide) ho (by omega)).trans (hv 3 (by omega))
    have t5 : tget G 85 86 77 (nI o) 5 = nI (vs.getD 4 0) := (ot_get (j := 5) w (by decide) ho (by omega)).trans (hv 4 (by omega))
    have t6 : tget G 85 86 77 (nI o) 6 = nI (vs.getD 5 0) := (ot_get (j := 6) w (by decide) ho (by omega)).trans (hv 5 (by omega))
    rw [B_Cl_carryOut_0, t0, if_neg (by decide), if_neg (by decide), if_pos (by decide), t1, t2, t3, t4, t5]
    refine Eq.trans B_Cl_carryOut_112 ?_
    rw [t6, hr, zaft_same]
    exact B_Cl_carryOut_132
  · rw [B_M_does_0, if_neg (by decide), if_neg (by decide), if_pos (by decide)]
    refine Eq.trans B_M_does_94 ?_
    rw [hv 0 (by omega), hv 1 (by omega), hv 2 (by omega), hv 3 (by omega), hv 4 (by omega), hv 5 (by omega), hr, zaft_same]
    exact B_M_does_134
theorem do_3 {vs : List Nat} (h : vs.length = 3) : zDo 3 vs := by
  refine ⟨6, [.ref 1, .int (nI (vs.getD 0 0)), .int (nI (vs.getD 1 0)), .int (nI (vs.getD 2 0)), .retAddr 0, .retAddr 0, .retAddr 0, .retAddr 0], 129, [.ref 90, .int (nI (vs.getD 0 0)), .int (nI (vs.getD 1 0)), .int (nI (vs.getD 2 0))], ok_work, fun o G ho w h0 hv r G' hr => ?_, fun H hv r H' hr => ?_⟩
  · have t0 : tget G 85 86 77 (nI o) 0 = nI 3 := (ot_get (j := 0) w (by decide) ho (by omega)).trans h0
    have t1 : tget G 85 86 77 (nI o) 1 = nI (vs.getD 0 0) := (ot_get (j := 1) w (by decide) ho (by omega)).trans (hv 0 (by omega))
    have t2 : tget G 85 86 77 (nI o) 2 = nI (vs.getD 1 0) := (ot_get (j := 2) w (by decide) ho (by omega)).trans (hv 1 (by omega))
    have t3 : tget G 85 86 77 (nI o) 3 = nI (vs.getD 2 0) := (ot_get (j := 3) w (by decide) ho (by omega)).trans (hv 2 (by omega))
    rw [B_Cl_carryOut_0, t0, if_neg (by decide), if_neg (by decide), if_neg (by decide), if_pos (by decide), t1, t2, t3]
    refine Eq.trans B_Cl_carryOut_133 ?_
    rw [hr, zaft_same]
    exact B_Cl_carryOut_142
  · rw [B_M_does_0, if_neg (by decide), if_neg (by decide), if_neg (by decide), if_pos (by decide)]
    refine Eq.trans B_M_does_135 ?_
    rw [hv 0 (by omega), hv 1 (by omega), hv 2 (by omega), hr, zaft_same]
    exact B_M_does_157
theorem do_4 {vs : List Nat} (h : vs.length = 2) : zDo 4 vs := by
  refine ⟨7, [.ref 1, .int (nI (vs.getD 0 0)), .int (nI (vs.getD 1 0)), .retAddr 0], 141, [.ref 90, .int (nI (vs.getD 0 0)), .int (nI (vs.getD 1 0)), .retAddr 0], ok_favour, fun o G ho w h0 hv r G' hr => ?_, fun H hv r H' hr => ?_⟩
  · have t0 : tget G 85 86 77 (nI o) 0 = nI 4 := (ot_get (j := 0) w (by decide) ho (by omega)).trans h0
    have t1 : tget G 85 86 77 (nI o) 1 = nI (vs.getD 0 0) := (ot_get (j := 1) w (by decide) ho (by omega)).trans (hv 0 (by omega))
    have t2 : tget G 85 86 77 (nI o) 2 = nI (vs.getD 1 0) := (ot_get (j := 2) w (by decide) ho (by omega)).trans (hv 1 (by omega))
    rw [B_Cl_carryOut_0, t0, if_neg (by decide), if_neg (by decide), if_neg (by decide), if_neg (by decide), if_pos (by decide), t1, t2]
    refine Eq.trans B_Cl_carryOut_143 ?_
    rw [hr, zaft_same]
    exact B_Cl_carryOut_150
  · rw [B_M_does_0, if_neg (by decide), if_neg (by decide), if_neg (by decide), if_neg (by decide), if_pos (by decide)]
    refine Eq.trans B_M_does_158 ?_
    rw [hv 0 (by omega), hv 1 (by omega), hr, zaft_same]
    exact B_M_does_174
theorem do_5 {vs : List Nat} (h : vs.length = 1) : zDo 5 vs := by
  refine ⟨8, [.ref 1, .int (nI (vs.getD 0 0))], 143, [.ref 90, .int (nI (vs.getD 0 0))], ok_give, fun o G ho w h0 hv r G' hr => ?_, fun H hv r H' hr => ?_⟩
  · have t0 : tget G 85 86 77 (nI o) 0 = nI 5 := (ot_get (j := 0) w (by decide) ho (by omega)).trans h0
    have t1 : tget G 85 86 77 (nI o) 1 = nI (vs.getD 0 0) := (ot_get (j := 1) w (by decide) ho (by omega)).trans (hv 0 (by omega))
    rw [B_Cl_carryOut_0, t0, if_neg (by decide), if_neg (by decide), if_neg (by decide), if_neg (by decide), if_neg (by decide), if_pos (by decide), t1]
    refine Eq.trans B_Cl_carryOut_151 ?_
    rw [hr, zaft_same]
    exact B_Cl_carryOut_156
  · rw [B_M_does_0, if_neg (by decide), if_neg (by decide), if_neg (by decide), if_neg (by decide), if_neg (by decide), if_pos (by decide)]
    refine Eq.trans B_M_does_175 ?_
    rw [hv 0 (by omega), hr, zaft_same]
    exact B_M_does_185
theorem do_6 {vs : List Nat} (h : vs.length = 1) : zDo 6 vs := by
  refine ⟨9, [.ref 1, .int (nI (vs.getD 0 0)), .retAddr 0, .retAddr 0, .retAddr 0], 145, [.ref 90, .int (nI (vs.getD 0 0)), .retAddr 0], ok_enter, fun o G ho w h0 hv r G' hr => ?_, fun H hv r H' hr => ?_⟩
  · have t0 : tget G 85 86 77 (nI o) 0 = nI 6 := (ot_get (j := 0) w (by decide) ho (by omega)).trans h0
    have t1 : tget G 85 86 77 (nI o) 1 = nI (vs.getD 0 0) := (ot_get (j := 1) w (by decide) ho (by omega)).trans (hv 0 (by omega))
    rw [B_Cl_carryOut_0, t0, if_neg (by decide), if_neg (by decide), if_neg (by decide), if_neg (by decide), if_neg (by decide), if_neg (by decide), if_pos (by decide), t1]
    refine Eq.trans B_Cl_carryOut_157 ?_
    rw [hr, zaft_same]
    exact B_Cl_carryOut_162
  · rw [B_M_does_0, if_neg (by decide), if_neg (by decide), if_neg (by decide), if_neg (by decide), if_neg (by decide), if_neg (by decide), if_pos (by decide)]
    refine Eq.trans B_M_does_186 ?_
    rw [hv 0 (by omega), hr, zaft_same]
    exact B_M_does_196
theorem do_7 {vs : List Nat} (h : vs.length = 1) : zDo 7 vs := by
  refine ⟨10, [.ref 1, .int (nI (vs.getD 0 0)), .retAddr 0, .retAddr 0], 147, [.ref 90, .int (nI (vs.getD 0 0)), .retAddr 0], ok_export, fun o G ho w h0 hv r G' hr => ?_, fun H hv r H' hr => ?_⟩
  · have t0 : tget G 85 86 77 (nI o) 0 = nI 7 := (ot_get (j := 0) w (by decide) ho (by omega)).trans h0
    have t1 : tget G 85 86 77 (nI o) 1 = nI (vs.getD 0 0) := (ot_get (j := 1) w (by decide) ho (by omega)).trans (hv 0 (by omega))
    rw [B_Cl_carryOut_0, t0, if_neg (by decide), if_neg (by decide), if_neg (by decide), if_neg (by decide), if_neg (by decide), if_neg (by decide), if_neg (by decide), if_pos (by decide), t1]
    refine Eq.trans B_Cl_carryOut_163 ?_
    rw [hr, zaft_same]
    exact B_Cl_carryOut_168
  · rw [B_M_does_0, if_neg (by decide), if_neg (by decide), if_neg (by decide), if_neg (by decide), if_neg (by decide), if_neg (by decide), if_neg (by decide), if_pos (by decide)]
    refine Eq.trans B_M_does_197 ?_
    rw [hv 0 (by omega), hr, zaft_same]
    exact B_M_does_207
theorem do_8 {vs : List Nat} (h : vs.length = 1) : zDo 8 vs := by
  refine ⟨11, [.ref 1, .int (nI (vs.getD 0 0))], 149, [.ref 90, .int (nI (vs.getD 0 0))], ok_goBy, fun o G ho w h0 hv r G' hr => ?_, fun H hv r H' hr => ?_⟩
  · have t0 : tget G 85 86 77 (nI o) 0 = nI 8 := (ot_get (j := 0) w (by decide) ho (by omega)).trans h0
    have t1 : tget G 85 86 77 (nI o) 1 = nI (vs.getD 0 0) := (ot_get (j := 1) w (by decide) ho (by omega)).trans (hv 0 (by omega))
    rw [B_Cl_carryOut_0, t0, if_neg (by decide), if_neg (by decide), if_neg (by decide), if_neg (by decide), if_neg (by decide), if_neg (by decide), if_neg (by decide), if_neg (by decide), t1]
    refine Eq.trans B_Cl_carryOut_169 ?_
    rw [hr, zaft_same]
    exact B_Cl_carryOut_174
  · rw [B_M_does_0, if_neg (by decide), if_neg (by decide), if_neg (by decide), if_neg (by decide), if_neg (by decide), if_neg (by decide), if_neg (by decide), if_neg (by decide)]
    refine Eq.trans B_M_does_208 ?_
    rw [hv 0 (by omega), hr, zaft_same]
    exact B_M_does_218
theorem nv_eq : nv (fL 0) = 5 ∧ nv (fL 1) = 1 ∧ nv (fL 2) = 6 ∧ nv (fL 3) = 3 ∧ nv (fL 4) = 2 ∧ nv (fL 5) = 1 ∧ nv (fL 6) = 1 ∧ nv (fL 7) = 1 ∧ nv (fL 8) = 1 := by decide +kernel
theorem do_ok {k : Nat} {vs : List Nat} (hk : k < 9) (h : vs.length = nv (fL k)) : zDo k vs := by
  obtain ⟨n0, n1, n2, n3, n4, n5, n6, n7, n8⟩ := nv_eq
  rcases (show k = 0 ∨ k = 1 ∨ k = 2 ∨ k = 3 ∨ k = 4 ∨ k = 5 ∨ k = 6 ∨ k = 7 ∨ k = 8 by omega) with rfl | rfl | rfl | rfl | rfl | rfl | rfl | rfl | rfl
  · exact do_0 (h.trans n0)
  · exact do_1 (h.trans n1)
  · exact do_2 (h.trans n2)
  · exact do_3 (h.trans n3)
  · exact do_4 (h.trans n4)
  · exact do_5 (h.trans n5)
  · exact do_6 (h.trans n6)
  · exact do_7 (h.trans n7)
  · exact do_8 (h.trans n8)
theorem rdO_do {s : Nat → Nat} {p : Nat} (h : (rdO s p).2.2.2 = false) : zDo (rdO s p).1 (rdO s p).2.1 := by
  obtain ⟨_, e, w1, _⟩ := rdO_ok h
  rw [e] at h ⊢
  exact do_ok w1 (rdF_len_ok _ _ h)
theorem dgR_k {s : Nat → Nat} : ∀ (d k n p : Nat), (dgR s d k n p).2.1 + k = p + (dgR s d k n p).2.2 := by
  intro d
  induction d with
  | zero => intro k n p; rfl
  | succ d ih =>
    intro k n p
    rw [dgR_succ]
    by_cases c : 48 ≤ s p ∧ s p ≤ 57
    · rw [if_pos c]
      have := ih (k + 1) (n * 10 + (s p - 48)) (p + 1)
      omega
    · rw [if_neg c]
theorem rdI_adv {s : Nat → Nat} {c p : Nat} (h : (rdI s c p).2.2 = false) : p + 1 ≤ (rdI s c p).2.1 := by
  unfold rdI at h ⊢
  have rl : ∀ j, (rdL s j p).2.2 = false → p + 1 ≤ (rdL s j p).2.1 := fun j hj => by
    unfold rdL at hj ⊢
    by_cases b : ixN j (s p) (zTB j).length 0 < 9
    · rw [if_pos b]; exact Nat.le_refl _
    · rw [if_neg b] at hj; exact Bool.noConfusion (show true = false from hj)
  by_cases a : isSg c = true
  · rw [if_pos a] at h ⊢
    unfold rdS at h ⊢
    by_cases b : s p = c
    · rw [if_pos b]; exact Nat.le_refl _
    · rw [if_neg b] at h; exact Bool.noConfusion (show true = false from h)
  · rw [if_neg a] at h ⊢
    by_cases b1 : c = 97
    · rw [if_pos b1] at h ⊢; exact rl 1 h
    · rw [if_neg b1] at h ⊢
      by_cases b2 : c = 102
      · rw [if_pos b2] at h ⊢; exact rl 0 h
      · rw [if_neg b2] at h ⊢
        by_cases b3 : c = 103
        · rw [if_pos b3] at h ⊢; exact rl 2 h
        · rw [if_neg b3] at h ⊢
          have h : decide ((dgR s (c - 48) 0 0 p).2.2 = 0) = false := h
          have h := of_decide_eq_false h
          have := dgR_k (s := s) (c - 48) 0 0 p
          show p + 1 ≤ (dgR s (c - 48) 0 0 p).2.1
          omega
theorem rdF_mono {s : Nat → Nat} : ∀ (cs : List Nat) (p : Nat), (rdF s cs p).2.2 = false → p ≤ (rdF s cs p).2.1 ∧ (1 ≤ cs.length → p + 1 ≤ (rdF s cs p).2.1) := by
  intro cs
  induction cs with
  | nil => intro p _; exact ⟨Nat.le_refl _, fun z => absurd z (by decide)⟩
  | cons c cs ih =>
    intro p
    rw [rdF_cons]
    cases hw : (rdI s c p).2.2 with
    | true => rw [if_pos rfl]; exact fun z => Bool.noConfusion (show true = false from z)
    | false =>
      rw [if_neg ff_t]
      intro z
      have h1 := rdI_adv hw
      have h2 := (ih (rdI s c p).2.1 z).1
      show p ≤ (rdF s cs (rdI s c p).2.1).2.1 ∧ (_ → p + 1 ≤ (rdF s cs (rdI s c p).2.1).2.1)
      exact ⟨by omega, fun _ => by omega⟩
theorem rdO_adv {s : Nat → Nat} {p : Nat} (h : (rdO s p).2.2.2 = false) : p + 5 ≤ (rdO s p).2.2.1 := by
  obtain ⟨_, e, w1, w2⟩ := rdO_ok h
  rw [e] at h ⊢
  have hl := wl_bd _ w1
  have := (rdF_mono (s := s) (fL (rdW s p).1) (rdW s p).2.1 h).2 (form_ok _ w1).2.2.2.2
  show p + 5 ≤ (rdF s (fL (rdW s p).1) (rdW s p).2.1).2.1
  omega
