-- 76: the model reads signs, digits, letters
def wA (i : Nat) : Nat := ([0, 5, 12, 17, 22, 29, 35, 41, 48, 52] : List Nat).getD i 0
def zMc (H : Nat → Nat → Int32) : Prop := (∀ j, j < 5 → H 98 j = (zTB 0).getD j 0) ∧ (∀ j, j < 4 → H 99 j = (zTB 1).getD j 0) ∧ (∀ i, i < 9 → ∀ t, t < wl i → H 100 (wA i + t) = (zTB (3 + i)).getD t 0) ∧ ∀ i, i < 10 → H 101 i = nI (wA i)
theorem wA_ok : ∀ i, i < 9 → wA (i + 1) = wA i + wl i ∧ wA i + wl i ≤ 52 := by decide +kernel
theorem wA_tab : ∀ i, i < 9 → ∀ t, t < wl i → ([104, 101, 97, 100, 32, 115, 116, 114, 105, 107, 101, 32, 103, 111, 111, 100, 32, 119, 111, 114, 107, 32, 102, 97, 118, 111, 117, 114, 32, 99, 111, 105, 110, 115, 32, 101, 110, 116, 101, 114, 32, 101, 120, 112, 111, 114, 116, 32, 100, 97, 121, 32] : List Int32).getD (wA i + t) 0 = (zTB (3 + i)).getD t 0 := by decide +kernel
theorem wA_nI : ∀ i, i < 10 → ([0, 5, 12, 17, 22, 29, 35, 41, 48, 52] : List Int32).getD i 0 = nI (wA i) := by decide +kernel
theorem let_0 : ∀ j, j < 5 → ([115, 119, 99, 108, 42] : List Int32).getD j 0 = (zTB 0).getD j 0 := by decide +kernel
theorem let_1 : ∀ j, j < 4 → ([116, 99, 103, 42] : List Int32).getD j 0 = (zTB 1).getD j 0 := by decide +kernel
theorem zCst.mc {G H : Nat → Nat → Int32} (c : zCst G H) : zMc H := by
  obtain ⟨_, _, _, c1, c2, c3, c4⟩ := c
  refine ⟨fun j hj => (c1 j hj).trans (let_0 j hj), fun j hj => (c2 j hj).trans (let_1 j hj), fun i hi t ht => ?_, fun i hi => (c4 i hi).trans (wA_nI i hi)⟩
  have := wA_ok i hi
  exact (c3 (wA i + t) (by omega)).trans (wA_tab i hi t ht)
def mFr (H H' : Nat → Nat → Int32) : Prop := (∀ i, i ≠ 90 → i ≠ 97 → H' i = H i) ∧ ∀ j, j ≠ 18 → j ≠ 20 → H' 90 j = H 90 j
theorem mFr.rfl' {H : Nat → Nat → Int32} : mFr H H := ⟨fun _ _ _ => rfl, fun _ _ _ => rfl⟩
theorem mFr.trans {H H1 H2 : Nat → Nat → Int32} (h : mFr H H1) (h2 : mFr H1 H2) : mFr H H2 := ⟨fun i a b => (h2.1 i a b).trans (h.1 i a b), fun j a b => (h2.2 j a b).trans (h.2 j a b)⟩
theorem zMc.fr {H H' : Nat → Nat → Int32} (h : zMc H) (f : mFr H H') : zMc H' := by
  unfold zMc at h ⊢
  rw [f.1 98 (by decide) (by decide), f.1 99 (by decide) (by decide), f.1 100 (by decide) (by decide), f.1 101 (by decide) (by decide)]
  exact h
/-- the model's text: where it reads, is it wrong -/
def mSt (m : Nat) (s : Nat → Nat) (st : Nat × Bool) (H : Nat → Nat → Int32) : Prop := sTx m s ∧ st.1 ≤ m ∧ H 90 19 = nI m ∧ H 90 18 = nI st.1 ∧ H 90 20 = bB st.2 ∧ ∀ j, j < m → H 95 j = nI (s j)
theorem mSt.up {m : Nat} {s : Nat → Nat} {st : Nat × Bool} {H : Nat → Nat → Int32} (h : mSt m s st H) {p : Nat} {w : Bool} (hp : p ≤ m) : mSt m s (p, w) (zup (zup H 90 20 (bB w)) 90 18 (nI p)) := by
  obtain ⟨h1, h2, h3, h4, h5, h6⟩ := h
  exact ⟨h1, hp, by rw [zup_rk (by decide), zup_rk (by decide)]; exact h3, zup_rr, by rw [zup_rk (by decide), zup_rr], fun j hj => by rw [zup_ro (by decide), zup_ro (by decide)]; exact h6 j hj⟩
theorem mFr.up {H : Nat → Nat → Int32} {x y : Int32} : mFr H (zup (zup H 90 20 x) 90 18 y) := ⟨fun i a _ => by rw [zup_ro a, zup_ro a], fun j a b => by rw [zup_rk a, zup_rk b]⟩
theorem mSt.set {m : Nat} {s : Nat → Nat} {st : Nat × Bool} {H : Nat → Nat → Int32} (h : mSt m s st H) {k : Nat} {x : Int32} : mSt m s st (zup H 97 k x) := by
  obtain ⟨h1, h2, h3, h4, h5, h6⟩ := h
  exact ⟨h1, h2, by rw [zup_ro (by decide)]; exact h3, by rw [zup_ro (by decide)]; exact h4, by rw [zup_ro (by decide)]; exact h5, fun j hj => by rw [zup_ro (by decide)]; exact h6 j hj⟩
theorem mFr.set {H : Nat → Nat → Int32} {k : Nat} {x : Int32} : mFr H (zup H 97 k x) := ⟨fun i _ b => zup_ro b, fun j _ _ => by rw [zup_ro (by decide)]⟩
/-- the next sign for the model -/
def nx (m : Nat) (s : Nat → Nat) (p : Nat) : Int32 := if p < m then nI (s p) else -1
theorem neg1_ne {c : Nat} (hc : c < 2 ^ 31) : ¬ (-1 : Int32) = nI c := fun z => nlow (by rw [z]; exact nI_pos' hc)
theorem nx_eq {m p c : Nat} {s : Nat → Nat} (h : sTx m s) (h0 : 0 < c) (hc : c < 2 ^ 31) : nx m s p = nI c ↔ s p = c := by
  unfold nx
  have := h.le p
  by_cases q : p < m
  · rw [if_pos q]; exact nI_eq (by omega) hc
  · rw [if_neg q, h.2.2 p (by omega)]
    exact ⟨fun z => absurd z (neg1_ne hc), fun z => by omega⟩
theorem sm_next {m : Nat} {s : Nat → Nat} {st : Nat × Bool} {H : Nat → Nat → Int32} (h : mSt m s st H) : zden 159 0 [.ref 90] [] (zSH, H) = some (some (.int (nx m s st.1)), (zSH, H)) := by
  obtain ⟨h1, h2, h3, h4, h5, h6⟩ := h
  have hm := h1.1
  unfold nx
  by_cases c : st.1 < m
  · rw [B_M_next_0 (fun _ => by rw [h4]; exact zin_nI (by omega) (by decide)), if_neg (by rw [h3, h4]; exact nI_ge c (by omega)), if_pos c, h4, nI_clamp (by omega), h6 _ c]
  · have hb : H 90 19 ≤ H 90 18 := by rw [h3, h4]; exact nI_le (by omega) (by omega)
    rw [B_M_next_0 (fun z => absurd hb z), if_pos hb, if_neg c]
def stS (s : Nat → Nat) (c : Nat) (st : Nat × Bool) : Nat × Bool := if st.2 = true then st else ((rdS s c st.1).2.1, (rdS s c st.1).2.2)
def stI (s : Nat → Nat) (c : Nat) (st : Nat × Bool) : Nat × Bool := if st.2 = true then st else ((rdI s c st.1).2.1, (rdI s c st.1).2.2)
theorem stI_sg {s : Nat → Nat} {c : Nat} {st : Nat × Bool} (h : isSg c = true) : stI s c st = stS s c st := by
  unfold stI stS rdI
  rw [if_pos h]
theorem stI_t {s : Nat → Nat} {c p : Nat} : stI s c (p, true) = (p, true) := rfl
theorem stI_f {s : Nat → Nat} {c p : Nat} : stI s c (p, false) = ((rdI s c p).2.1, (rdI s c p).2.2) := rfl
theorem bB_t : ¬ bB true = 0 := by decide
theorem ff_t : ¬ (false = true) := by decide
theorem zfit_bB {b : Bool} : zfit .boolean (bB b) = true := by cases b <;> decide
theorem sm_mark {m c : Nat} {s : Nat → Nat} {st : Nat × Bool} {H : Nat → Nat → Int32} (h : mSt m s st H) (h0 : 0 < c) (hc : c < 2 ^ 31) :
    ∃ H' : Nat → Nat → Int32, zden 160 0 [.ref 90, .int (nI c)] [] (zSH, H) = some (none, (zSH, H')) ∧ mSt m s (stS s c st) H' ∧ mFr H H' ∧ H' 97 = H 97 := by
  have hh := h
  obtain ⟨h1, h2, h3, h4, h5, h6⟩ := h
  have hm := h1.1
  obtain ⟨p, w⟩ := st
  cases w with
  | true => exact ⟨H, by rw [B_M_mark_0, if_neg (by rw [h5]; exact bB_t)], hh, mFr.rfl', rfl⟩
  | false =>
    have e : zden 160 0 [.ref 90, .int (nI c)] [] (zSH, H) = zden 160 13 [.ref 90, .int (nI c)] [.int (nx m s p), .ref 90] (zSH, H) := by
      rw [B_M_mark_0, if_pos (by rw [h5]; rfl), sm_next hh, zaft_same]; rfl
    have h4 : H 90 18 = nI p := h4
    unfold stS rdS
    rw [if_neg ff_t]
    by_cases q : s p = c
    · rw [if_pos q]
      have hp : p < m := by
        by_cases z : p < m
        · exact z
        · have := h1.2.2 p (by omega); omega
      refine ⟨zup (zup H 90 20 (bB false)) 90 18 (nI (p + 1)), ?_, hh.up (show p + 1 ≤ m by omega), mFr.up, by rw [zup_ro (by decide), zup_ro (by decide)]⟩
      rw [e, B_M_mark_13, if_pos ((nx_eq h1 h0 hc).mpr q), B_M_mark_22 (by decide), zup_rr, if_pos rfl, B_M_mark_42, zup_rk (by decide), h4, nI_1]
      rfl
    · rw [if_neg q]
      refine ⟨zup (zup H 90 20 (bB true)) 90 18 (nI p), ?_, hh.up h2, mFr.up, by rw [zup_ro (by decide), zup_ro (by decide)]⟩
      rw [e, B_M_mark_13, if_neg (fun z => q ((nx_eq h1 h0 hc).mp z)), B_M_mark_22 (by decide), zup_rr, if_neg (by decide), B_M_mark_42, zup_rk (by decide), h4, Int32.add_zero]
      rfl
theorem dgR_in {m : Nat} {s : Nat → Nat} (h : sTx m s) : ∀ (d k n p : Nat), p ≤ m → (dgR s d k n p).2.1 ≤ m := by
  intro d
  induction d with
  | zero => intro k n p hp; exact hp
  | succ d ih =>
    intro k n p hp
    rw [dgR_succ]
    by_cases c : 48 ≤ s p ∧ s p ≤ 57
    · rw [if_pos c]
      refine ih _ _ _ ?_
      by_cases z : p < m
      · exact z
      · have := h.2.2 p (by omega); omega
    · rw [if_neg c]; exact hp
theorem sm_digits_loop {m most : Nat} {s : Nat → Nat} (hmo : most ≤ 4) (h0 : 0 < most) : ∀ (d k n p : Nat) (H : Nat → Nat → Int32), k + d = most → n + 1 ≤ 10 ^ k → mSt m s (p, false) H →
    ∃ H' : Nat → Nat → Int32, zden 162 4 [.ref 90, .int (nI most), .int (nI n), .int (nI k)] [] (zSH, H) = some (some (.int (nI (dgR s d k n p).1)), (zSH, H')) ∧ mSt m s ((dgR s d k n p).2.1, decide ((dgR s d k n p).2.2 = 0)) H' ∧ mFr H H' ∧ H' 97 = H 97 := by
  have fin : ∀ (k n p : Nat) (H : Nat → Nat → Int32), k ≤ 4 → mSt m s (p, false) H → ∃ H' : Nat → Nat → Int32, zden 162 59 [.ref 90, .int (nI most), .int (nI n), .int (nI k)] [] (zSH, H) = some (some (.int (nI n)), (zSH, H')) ∧ mSt m s (p, decide (k = 0)) H' ∧ mFr H H' ∧ H' 97 = H 97 := by
    intro k n p H hk h
    have h5 : H 90 20 = 0 := h.2.2.2.2.1
    refine ⟨zup H 90 20 (bB (decide (k = 0))), ?_, ?_, ⟨fun i a _ => zup_ro a, fun j _ b => zup_rk b⟩, zup_ro (by decide)⟩
    · by_cases a : k = 0
      · subst a
        rw [B_M_digits_59, if_neg (fun z => z rfl), h5, B_M_digits_73 (by decide)]; rfl
      · rw [B_M_digits_59, if_pos (nI_ne0 (by omega) (by omega)), h5, B_M_digits_73 (by decide), decide_eq_false a]; rfl
    · obtain ⟨h1, h2, h3, h4, _, h6⟩ := h
      exact ⟨h1, h2, by rw [zup_rk (by decide)]; exact h3, by rw [zup_rk (by decide)]; exact h4, zup_rr, fun j hj => by rw [zup_ro (by decide)]; exact h6 j hj⟩
  intro d
  induction d with
  | zero =>
    intro k n p H hk hn h
    have hk : k = most := by omega
    subst hk
    obtain ⟨H', g1, g2⟩ := fin k n p H hmo h
    refine ⟨H', ?_, g2⟩
    rw [B_M_digits_4, if_neg (by rw [h.2.2.2.2.1]; exact fun z => z rfl), if_pos (Int32.le_refl _)]
    exact g1
  | succ d ih =>
    intro k n p H hk hn h
    have h1 := h.1
    have hm := h1.1
    have hp : p ≤ m := h.2.1
    have hs := h1.le p
    have h4 : H 90 18 = nI p := h.2.2.2.1
    have hn4 : n + 1 ≤ 10 ^ 3 := Nat.le_trans hn (Nat.pow_le_pow_right (by decide) (by omega))
    have e : zden 162 4 [.ref 90, .int (nI most), .int (nI n), .int (nI k)] [] (zSH, H) = zden 162 20 [.ref 90, .int (nI most), .int (nI n), .int (nI k)] [.int (nx m s p)] (zSH, H) := by
      rw [B_M_digits_4, if_neg (by rw [h.2.2.2.2.1]; exact fun z => z rfl), if_neg (nI_ge (by omega) (by omega)), sm_next h, zaft_same]; rfl
    rw [dgR_succ]
    by_cases c : 48 ≤ s p ∧ s p ≤ 57
    · rw [if_pos c]
      have hlt : p < m := by
        by_cases z : p < m
        · exact z
        · have := h1.2.2 p (by omega); omega
      have en : nx m s p = nI (s p) := by unfold nx; rw [if_pos hlt]
      have hb : (48 : Int32) ≤ nI (s p) ∧ nI (s p) ≤ 57 := ⟨by rw [nIlit_48]; exact nI_le c.1 (by omega), by rw [show (57 : Int32) = nI 57 by decide]; exact nI_le c.2 (by decide)⟩
      have hn' : n * 10 + (s p - 48) + 1 ≤ 10 ^ (k + 1) := by rw [Nat.pow_succ]; omega
      have hst : mSt m s (p + 1, false) (zup H 90 18 (nI (p + 1))) := by
        obtain ⟨q1, q2, q3, q4, q5, q6⟩ := h
        exact ⟨q1, hlt, by rw [zup_rk (by decide)]; exact q3, zup_rr, by rw [zup_rk (by decide)]; exact q5, fun j hj => by rw [zup_ro (by decide)]; exact q6 j hj⟩
      obtain ⟨H', g1, g2, g3, g4⟩ := ih (k + 1) (n * 10 + (s p - 48)) (p + 1) _ (by omega) hn' hst
      refine ⟨H', ?_, g2, mFr.trans ⟨fun i a _ => zup_ro a, fun j a _ => zup_rk a⟩ g3, g4.trans (zup_ro (by decide))⟩
      have ev : (10 * nI n + nI (s p)) - 48 = nI (n * 10 + (s p - 48)) := by
        rw [nIlit_10, nIlit_48, pk_mul, nI_add, pk_sub (by omega)]
        exact congrArg nI (by omega)
      rw [e, en, B_M_digits_20, if_neg (bIn.mpr hb), sm_next h, zaft_same]
      refine Eq.trans B_M_digits_38 ?_
      rw [show nx m s (p, false).1 = nI (s p) from en, ev, h4, nI_1, nI_1]
      exact g1
    · rw [if_neg c]
      have hb : ¬ ((48 : Int32) ≤ nx m s p ∧ nx m s p ≤ 57) := by
        unfold nx
        by_cases z : p < m
        · rw [if_pos z, nIlit_48, show (57 : Int32) = nI 57 by decide, nI_leI (by decide) (by omega), nI_leI (by omega) (by decide)]
          exact c
        · rw [if_neg z]; exact fun q => absurd q.1 (by decide)
      obtain ⟨H', g1, g2⟩ := fin k n p H (by omega) h
      refine ⟨H', ?_, g2⟩
      rw [e, B_M_digits_20, if_pos (bIz.mpr hb)]
      exact g1
/-- digits, of either state -/
theorem sm_digits {m d : Nat} {s : Nat → Nat} {st : Nat × Bool} {H : Nat → Nat → Int32} (hd : d ≤ 4) (h0 : 0 < d) (h : mSt m s st H) :
    ∃ (v : Int32) (H' : Nat → Nat → Int32), zden 162 0 [.ref 90, .int (nI d), .retAddr 0, .retAddr 0] [] (zSH, H) = some (some (.int v), (zSH, H')) ∧ mSt m s (stI s (48 + d) st) H' ∧ mFr H H' ∧ H' 97 = H 97 ∧ ((stI s (48 + d) st).2 = false → v = nI (rdI s (48 + d) st.1).1) := by
  obtain ⟨p, w⟩ := st
  have ei : rdI s (48 + d) p = rdD s d p := by
    unfold rdI isSg
    rw [if_neg (by simp only [Bool.or_eq_true, beq_iff_eq]; omega), if_neg (by omega), if_neg (by omega), if_neg (by omega), Nat.add_sub_cancel_left]
  cases w with
  | true =>
    have h5 : H 90 20 = 1 := h.2.2.2.2.1
    refine ⟨0, zup H 90 20 1, ?_, ?_, ⟨fun i a _ => zup_ro a, fun j _ b => zup_rk b⟩, zup_ro (by decide), fun z => Bool.noConfusion (show true = false from z)⟩
    · rw [B_M_digits_0, B_M_digits_4, if_pos (by rw [h5]; decide), B_M_digits_59, if_neg (fun z => z rfl), h5, B_M_digits_73 (by decide)]
      rfl
    · obtain ⟨h1, h2, h3, h4, _, h6⟩ := h
      exact ⟨h1, h2, by rw [zup_rk (by decide)]; exact h3, by rw [zup_rk (by decide)]; exact h4, zup_rr, fun j hj => by rw [zup_ro (by decide)]; exact h6 j hj⟩
  | false =>
    obtain ⟨H', g1, g2, g3, g4⟩ := sm_digits_loop hd h0 d 0 0 p H (by omega) (by decide) h
    refine ⟨_, H', by rw [B_M_digits_0]; exact g1, ?_, g3, g4, fun _ => ?_⟩
    · rw [stI_f, ei]; exact g2
    · show _ = nI (rdI s (48 + d) p).1
      rw [ei]
      rfl
/-- a sign and digits behind it -/
theorem sm_behind {m c d : Nat} {s : Nat → Nat} {st : Nat × Bool} {H : Nat → Nat → Int32} (hc : isSg c = true) (hd : d ≤ 4) (h0 : 0 < d) (h : mSt m s st H) :
    ∃ (v : Int32) (H' : Nat → Nat → Int32), zden 164 0 [.ref 90, .int (nI c), .int (nI d)] [] (zSH, H) = some (some (.int v), (zSH, H')) ∧ mSt m s (stI s (48 + d) (stI s c st)) H' ∧ mFr H H' ∧ H' 97 = H 97 ∧ ((stI s (48 + d) (stI s c st)).2 = false → v = nI (rdI s (48 + d) (stI s c st).1).1) := by
  have hcb : 0 < c ∧ c < 100 := by
    unfold isSg at hc
    simp only [Bool.or_eq_true, beq_iff_eq] at hc
    omega
  obtain ⟨H1, g1, g2, g3, g4⟩ := sm_mark (c := c) h hcb.1 (by omega)
  rw [← stI_sg hc] at g2
  have e : zden 164 0 [.ref 90, .int (nI c), .int (nI d)] [] (zSH, H) = zden 164 5 [.ref 90, .int (nI c), .int (nI d)] [] (zSH, H1) := by
    rw [B_M_behind_0, g1, zaft_same]; rfl
  generalize hst : stI s c st = st1 at g2
  obtain ⟨p1, w1⟩ := st1
  cases w1 with
  | true =>
    refine ⟨0, H1, ?_, g2, g3, g4, fun z => Bool.noConfusion (show true = false from z)⟩
    rw [e, B_M_behind_5, if_neg (by rw [g2.2.2.2.2.1]; exact bB_t)]
  | false =>
    obtain ⟨v, H', k1, k2, k3, k4, k5⟩ := sm_digits hd h0 g2
    refine ⟨v, H', ?_, k2, g3.trans k3, k4.trans g4, k5⟩
    rw [e, B_M_behind_5, if_pos (by rw [g2.2.2.2.2.1]; rfl), k1, zaft_same]
    exact B_M_behind_21
theorem let_ne : ∀ j, j < 3 → ∀ a, a < (zTB j).length → (∀ b, b < (zTB j).length → (zTB j).getD a 0 = (zTB j).getD b 0 → a = b) ∧ (zTB j).getD a 0 ≠ 0 ∧ (zTB j).getD a 0 = nI ((zTB j).getD a 0).toNatClampNeg ∧ ((zTB j).getD a 0).toNatClampNeg < 200 ∧ 0 < ((zTB j).getD a 0).toNatClampNeg := by decide +kernel
theorem ixN_sp {j x : Nat} : ∀ (d i : Nat), i + d ≤ 5 → (ixN j x d i = 9 ∧ ∀ t, i ≤ t → t < i + d → (zTB j).getD t 0 ≠ nI x) ∨ (i ≤ ixN j x d i ∧ ixN j x d i < i + d ∧ (zTB j).getD (ixN j x d i) 0 = nI x) := by
  intro d
  induction d with
  | zero => intro i _; exact .inl ⟨rfl, fun t h1 h2 => by omega⟩
  | succ d ih =>
    intro i h
    rw [ixN_succ]
    by_cases c : (zTB j).getD i 0 = nI x
    · rw [if_pos c]; exact .inr ⟨Nat.le_refl _, by omega, c⟩
    · rw [if_neg c]
      rcases ih (i + 1) (by omega) with ⟨a, b⟩ | ⟨a, b, e⟩
      · refine .inl ⟨a, fun t h1 h2 => ?_⟩
        by_cases q : t = i
        · subst q; exact c
        · exact b t (by omega) (by omega)
      · exact .inr ⟨by omega, by omega, e⟩
theorem sm_letter {m am mm j : Nat} {s : Nat → Nat} {st : Nat × Bool} {H : Nat → Nat → Int32} (hs : zSH[am]? = some (.inr (.int, mm, []))) (hj : j < 3) (hmm : (zTB j).length ≤ mm) (hmm2 : mm ≤ 5) (hA : ∀ i, i < (zTB j).length → H am i = (zTB j).getD i 0) (h : mSt m s st H) :
    ∃ (v : Int32) (H' : Nat → Nat → Int32), zden 161 0 [.ref 90, .ref am, .int (nI (zTB j).length), .retAddr 0, .retAddr 0] [] (zSH, H) = some (some (.int v), (zSH, H')) ∧
      mSt m s (if st.2 = true then st else ((rdL s j st.1).2.1, (rdL s j st.1).2.2)) H' ∧ mFr H H' ∧ H' 97 = H 97 ∧ ((if st.2 = true then st else ((rdL s j st.1).2.1, (rdL s j st.1).2.2)).2 = false → v = nI (rdL s j st.1).1) := by
  have hsl := zlt_cell hs
  obtain ⟨p, w⟩ := st
  cases w with
  | true =>
    refine ⟨0, H, ?_, h, mFr.rfl', rfl, fun z => Bool.noConfusion (show true = false from z)⟩
    rw [B_M_letter_0 hs hsl, if_neg (by rw [h.2.2.2.2.1]; exact bB_t)]
  | false =>
    rw [if_neg ff_t]
    have h1 := h.1
    have hm := h1.1
    have hp : p ≤ m := h.2.1
    have h4 : H 90 18 = nI p := h.2.2.2.1
    have hsp := h1.le p
    -- a letter is the next sign
    have eqn : ∀ i, i < (zTB j).length → ((zTB j).getD i 0 = nx m s p ↔ (zTB j).getD i 0 = nI (s p)) := fun i hi => by
      obtain ⟨_, _, l3, l4, l5⟩ := let_ne j hj i hi
      have := nx_eq (p := p) h1 l5 (show ((zTB j).getD i 0).toNatClampNeg < 2 ^ 31 by omega)
      rw [← l3] at this
      constructor
      · intro z
        rw [l3, nI_eq (by omega) (by omega)]
        exact (this.mp z.symm).symm
      · intro z
        rw [l3, nI_eq (by omega) (by omega)] at z
        exact (this.mpr z.symm).symm
    have loop : ∀ (d i : Nat) (a : Int32), i + d = (zTB j).length → ((a = -1 ∧ ∀ t, t < i → (zTB j).getD t 0 ≠ nI (s p)) ∨ (∃ t, t < i ∧ a = nI t ∧ (zTB j).getD t 0 = nI (s p))) →
        ∃ a' : Int32, zden 161 14 [.ref 90, .ref am, .int (nI (zTB j).length), .int a, .int (nI i)] [] (zSH, H) = (if 0 ≤ a' then zden 161 54 [.ref 90, .ref am, .int (nI (zTB j).length), .int a', .int (nI (zTB j).length)] [.int 0, .ref 90] (zSH, H) else zden 161 54 [.ref 90, .ref am, .int (nI (zTB j).length), .int a', .int (nI (zTB j).length)] [.int 1, .ref 90] (zSH, H)) ∧
          ((a' = -1 ∧ ∀ t, t < (zTB j).length → (zTB j).getD t 0 ≠ nI (s p)) ∨ (∃ t, t < (zTB j).length ∧ a' = nI t ∧ (zTB j).getD t 0 = nI (s p))) := by
      intro d
      induction d with
      | zero =>
        intro i a hi ha
        have hi : i = (zTB j).length := by omega
        subst hi
        have hb : nI (zTB j).length ≤ nI (zTB j).length := Int32.le_refl _
        exact ⟨a, by rw [B_M_letter_14 hs hsl (fun z => absurd hb z), if_pos hb], ha⟩
      | succ d ih =>
        intro i a hi ha
        have hc : zden 161 14 [.ref 90, .ref am, .int (nI (zTB j).length), .int a, .int (nI i)] [] (zSH, H) = zden 161 28 [.ref 90, .ref am, .int (nI (zTB j).length), .int a, .int (nI i)] [.int (nx m s p), .int ((zTB j).getD i 0)] (zSH, H) := by
          rw [B_M_letter_14 hs hsl (fun _ => zin_nI (by omega) (by omega)), if_neg (nI_ge (by omega) (by omega)), nI_clamp (by omega), hA i (by omega), sm_next h, zaft_same]
          rfl
        by_cases c : (zTB j).getD i 0 = nI (s p)
        · obtain ⟨a', q1, q2⟩ := ih (i + 1) (nI i) (by omega) (.inr ⟨i, by omega, rfl, c⟩)
          refine ⟨a', ?_, q2⟩
          rw [hc, B_M_letter_28 hs hsl, if_neg (fun z => z ((eqn i (by omega)).mpr c)), B_M_letter_37 hs hsl, nI_1]
          exact q1
        · obtain ⟨a', q1, q2⟩ := ih (i + 1) a (by omega) (by
            rcases ha with ⟨b1, b2⟩ | ⟨t, b1, b2, b3⟩
            · refine .inl ⟨b1, fun t ht => ?_⟩
              by_cases e : t = i
              · subst e; exact c
              · exact b2 t (by omega)
            · exact .inr ⟨t, by omega, b2, b3⟩)
          refine ⟨a', ?_, q2⟩
          rw [hc, B_M_letter_28 hs hsl, if_pos (fun z => c ((eqn i (by omega)).mp z)), B_M_letter_37 hs hsl, nI_1]
          exact q1
    obtain ⟨a', q1, q2⟩ := loop (zTB j).length 0 (-1) (by omega) (.inl ⟨rfl, fun t ht => by omega⟩)
    have e : zden 161 0 [.ref 90, .ref am, .int (nI (zTB j).length), .retAddr 0, .retAddr 0] [] (zSH, H) = zden 161 14 [.ref 90, .ref am, .int (nI (zTB j).length), .int (-1), .int (nI 0)] [] (zSH, H) := by
      rw [B_M_letter_0 hs hsl, if_pos (by rw [h.2.2.2.2.1]; rfl)]
      rfl
    rw [q1] at e
    unfold rdL
    rcases q2 with ⟨b1, b2⟩ | ⟨t, b1, b2, b3⟩
    · subst b1
      have n9 : ¬ ixN j (s p) (zTB j).length 0 < 9 := by
        rcases ixN_sp (j := j) (x := s p) (zTB j).length 0 (by omega) with ⟨z, _⟩ | ⟨z1, z2, z3⟩
        · omega
        · exact absurd z3 (b2 _ (by omega))
      rw [if_neg n9]
      refine ⟨-1, zup (zup H 90 20 (bB true)) 90 18 (nI p), ?_, h.up hp, mFr.up, by rw [zup_ro (by decide), zup_ro (by decide)], fun z => Bool.noConfusion (show true = false from z)⟩
      rw [e, if_neg nlow, B_M_letter_54 hs hsl (by decide), zup_rr, if_neg (by decide), B_M_letter_74 hs hsl, zup_rk (by decide), h4, Int32.add_zero]
      rfl
    · subst b2
      have e9 : ixN j (s p) (zTB j).length 0 = t := by
        rcases ixN_sp (j := j) (x := s p) (zTB j).length 0 (by omega) with ⟨_, z⟩ | ⟨z1, z2, z3⟩
        · exact absurd b3 (z t (by omega) (by omega))
        · exact (let_ne j hj _ (by omega)).1 t b1 (z3.trans b3.symm)
      rw [e9, if_pos (by omega)]
      have hlt : p < m := by
        by_cases z : p < m
        · exact z
        · have := h1.2.2 p (by omega)
          rw [this] at b3
          exact absurd b3 (let_ne j hj t b1).2.1
      refine ⟨nI t, zup (zup H 90 20 (bB false)) 90 18 (nI (p + 1)), ?_, h.up (show p + 1 ≤ m by omega), mFr.up, by rw [zup_ro (by decide), zup_ro (by decide)], fun _ => rfl⟩
      rw [e, if_pos (nI_pos' (by omega)), B_M_letter_54 hs hsl (by decide), zup_rr, if_pos rfl, B_M_letter_74 hs hsl, zup_rk (by decide), h4, nI_1]
      rfl
