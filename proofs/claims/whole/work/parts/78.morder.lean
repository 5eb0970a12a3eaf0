-- 78: the model reads an order
def stL (s : Nat → Nat) : List Nat → Nat × Bool → Nat × Bool
  | [], st => st
  | c :: cs, st => stL s cs (stI s c st)
def vF (s : Nat → Nat) : List Nat → Nat × Bool → List Nat
  | [], _ => []
  | c :: cs, st => if isSg c = true then vF s cs (stI s c st) else (rdI s c st.1).1 :: vF s cs (stI s c st)
theorem stL_cons {s : Nat → Nat} {c : Nat} {cs : List Nat} {st : Nat × Bool} : stL s (c :: cs) st = stL s cs (stI s c st) := rfl
theorem vF_sg {s : Nat → Nat} {c : Nat} {cs : List Nat} {st : Nat × Bool} (h : isSg c = true) : vF s (c :: cs) st = vF s cs (stI s c st) := if_pos h
theorem vF_nsg {s : Nat → Nat} {c : Nat} {cs : List Nat} {st : Nat × Bool} (h : isSg c = false) : vF s (c :: cs) st = (rdI s c st.1).1 :: vF s cs (stI s c st) := if_neg (by rw [h]; exact ff_t)
theorem stL_t {s : Nat → Nat} : ∀ (cs : List Nat) (p : Nat), stL s cs (p, true) = (p, true) := by
  intro cs
  induction cs with
  | nil => intro p; rfl
  | cons c cs ih => intro p; rw [stL_cons, stI_t]; exact ih p
theorem rdF_st {s : Nat → Nat} : ∀ (cs : List Nat) (p : Nat), (rdF s cs p).2 = stL s cs (p, false) ∧ ((rdF s cs p).2.2 = false → (rdF s cs p).1 = vF s cs (p, false)) := by
  intro cs
  induction cs with
  | nil => intro p; exact ⟨rfl, fun _ => rfl⟩
  | cons c cs ih =>
    intro p
    rw [rdF_cons, stL_cons, stI_f]
    cases hw : (rdI s c p).2.2 with
    | true =>
      rw [if_pos rfl, stL_t]
      exact ⟨rfl, fun z => Bool.noConfusion (show true = false from z)⟩
    | false =>
      rw [if_neg ff_t]
      obtain ⟨i1, i2⟩ := ih (rdI s c p).2.1
      refine ⟨i1, fun z => ?_⟩
      have i2 := i2 z
      by_cases sg : isSg c = true
      · rw [vF_sg sg, stI_f, hw]
        show (if isSg c = true then (rdF s cs (rdI s c p).2.1).1 else (rdI s c p).1 :: (rdF s cs (rdI s c p).2.1).1) = _
        rw [if_pos sg]; exact i2
      · have sg' : isSg c = false := by simpa using sg
        rw [vF_nsg sg', stI_f, hw]
        show (if isSg c = true then (rdF s cs (rdI s c p).2.1).1 else (rdI s c p).1 :: (rdF s cs (rdI s c p).2.1).1) = _
        rw [if_neg sg, i2]
theorem stI_ff {s : Nat → Nat} {c : Nat} {st : Nat × Bool} (h : (stI s c st).2 = false) : st.2 = false := by
  obtain ⟨p, w⟩ := st
  cases w with
  | false => rfl
  | true => exact h
/-- told so far: vs -/
def TS (m : Nat) (s : Nat → Nat) (vs : List Nat) (st : Nat × Bool) (H : Nat → Nat → Int32) : Prop := mSt m s st H ∧ zMc H ∧ (st.2 = false → ∀ t, t < vs.length → H 97 t = nI (vs.getD t 0))
theorem TS.val {m x : Nat} {s : Nat → Nat} {vs : List Nat} {st st' : Nat × Bool} {v : Int32} {H H1 : Nat → Nat → Int32} (h : TS m s vs st H) (h1 : mSt m s st' H1) (f : mFr H H1) (h97 : H1 97 = H 97) (hv : st'.2 = false → v = nI x ∧ st.2 = false) : TS m s (vs ++ [x]) st' (zup H1 97 vs.length v) := by
  refine ⟨h1.set, (h.2.1.fr f).fr mFr.set, fun z t ht => ?_⟩
  obtain ⟨hv1, hv2⟩ := hv z
  rw [List.length_append] at ht
  have ht : t < vs.length + 1 := ht
  by_cases c : t = vs.length
  · subst c
    rw [zup_rr, hv1, List.getD_eq_getElem?_getD, List.getElem?_append_right (Nat.le_refl _), Nat.sub_self]
    rfl
  · rw [zup_rk c, h97, h.2.2 hv2 t (by omega), List.getD_eq_getElem?_getD, List.getD_eq_getElem?_getD, List.getElem?_append_left (by omega)]
theorem TS.sg {m : Nat} {s : Nat → Nat} {vs : List Nat} {st st' : Nat × Bool} {H H1 : Nat → Nat → Int32} (h : TS m s vs st H) (h1 : mSt m s st' H1) (f : mFr H H1) (h97 : H1 97 = H 97) (hv : st'.2 = false → st.2 = false) : TS m s vs st' H1 :=
  ⟨h1, h.2.1.fr f, fun z t ht => by rw [h97]; exact h.2.2 (hv z) t ht⟩
theorem clN : (0 : Int32).toNatClampNeg = 0 ∧ (1 : Int32).toNatClampNeg = 1 ∧ (2 : Int32).toNatClampNeg = 2 ∧ (3 : Int32).toNatClampNeg = 3 ∧ (4 : Int32).toNatClampNeg = 4 ∧ (5 : Int32).toNatClampNeg = 5 := by decide
/-- digits are told -/
theorem ts_digits {m d : Nat} {s : Nat → Nat} {vs : List Nat} {st : Nat × Bool} {H : Nat → Nat → Int32} (hd : d ≤ 4) (h0 : 0 < d) (h : TS m s vs st H) :
    ∃ (v : Int32) (H1 : Nat → Nat → Int32), zden 162 0 [.ref 90, .int (nI d), .retAddr 0, .retAddr 0] [] (zSH, H) = some (some (.int v), (zSH, H1)) ∧ mFr H (zup H1 97 vs.length v) ∧ TS m s (vs ++ [(rdI s (48 + d) st.1).1]) (stI s (48 + d) st) (zup H1 97 vs.length v) := by
  obtain ⟨v, H1, g1, g2, g3, g4, g5⟩ := sm_digits hd h0 h.1
  exact ⟨v, H1, g1, g3.trans mFr.set, h.val g2 g3 g4 (fun z => ⟨g5 z, stI_ff z⟩)⟩
theorem ts_behind {m c d : Nat} {s : Nat → Nat} {vs : List Nat} {st : Nat × Bool} {H : Nat → Nat → Int32} (hc : isSg c = true) (hd : d ≤ 4) (h0 : 0 < d) (h : TS m s vs st H) :
    ∃ (v : Int32) (H1 : Nat → Nat → Int32), zden 164 0 [.ref 90, .int (nI c), .int (nI d)] [] (zSH, H) = some (some (.int v), (zSH, H1)) ∧ mFr H (zup H1 97 vs.length v) ∧ TS m s (vs ++ [(rdI s (48 + d) (stI s c st).1).1]) (stI s (48 + d) (stI s c st)) (zup H1 97 vs.length v) := by
  obtain ⟨v, H1, g1, g2, g3, g4, g5⟩ := sm_behind hc hd h0 h.1
  exact ⟨v, H1, g1, g3.trans mFr.set, h.val g2 g3 g4 (fun z => ⟨g5 z, stI_ff (stI_ff z)⟩)⟩
theorem ts_letter {m am mm j c : Nat} {s : Nat → Nat} {vs : List Nat} {st : Nat × Bool} {H : Nat → Nat → Int32} (hs : zSH[am]? = some (.inr (.int, mm, []))) (hj : j < 3) (hmm : (zTB j).length ≤ mm) (hmm2 : mm ≤ 5) (hA : ∀ i, i < (zTB j).length → H am i = (zTB j).getD i 0) (hc : ∀ p, rdI s c p = rdL s j p) (h : TS m s vs st H) :
    ∃ (v : Int32) (H1 : Nat → Nat → Int32), zden 161 0 [.ref 90, .ref am, .int (nI (zTB j).length), .retAddr 0, .retAddr 0] [] (zSH, H) = some (some (.int v), (zSH, H1)) ∧ mFr H (zup H1 97 vs.length v) ∧ TS m s (vs ++ [(rdI s c st.1).1]) (stI s c st) (zup H1 97 vs.length v) := by
  obtain ⟨v, H1, g1, g2, g3, g4, g5⟩ := sm_letter hs hj hmm hmm2 hA h.1
  have e : stI s c st = if st.2 = true then st else ((rdL s j st.1).2.1, (rdL s j st.1).2.2) := by unfold stI; rw [hc]
  refine ⟨v, H1, g1, g3.trans mFr.set, h.val (by rw [e]; exact g2) g3 g4 (fun z => ⟨?_, stI_ff z⟩)⟩
  rw [e] at z
  rw [hc]
  exact g5 z
theorem ts_mark {m c : Nat} {s : Nat → Nat} {vs : List Nat} {st : Nat × Bool} {H : Nat → Nat → Int32} (hc : isSg c = true) (hc2 : 0 < c ∧ c < 100) (h : TS m s vs st H) :
    ∃ H1 : Nat → Nat → Int32, zden 160 0 [.ref 90, .int (nI c)] [] (zSH, H) = some (none, (zSH, H1)) ∧ mFr H H1 ∧ TS m s vs (stI s c st) H1 := by
  obtain ⟨H1, g1, g2, g3, g4⟩ := sm_mark (c := c) h.1 hc2.1 (by omega)
  rw [← stI_sg hc] at g2
  exact ⟨H1, g1, g3, h.sg g2 g3 g4 stI_ff⟩
theorem let_2 : ∀ j, j < (zTB 2).length → (zTB 2).getD j 0 = (zTB 1).getD j 0 := by decide +kernel
theorem lens : (zTB 0).length = 5 ∧ (zTB 1).length = 4 ∧ (zTB 2).length = 3 := by decide +kernel
theorem rdI_f {s : Nat → Nat} (p : Nat) : rdI s 102 p = rdL s 0 p := by unfold rdI; rw [if_neg (by decide), if_neg (by decide), if_pos (by decide)]
theorem rdI_a {s : Nat → Nat} (p : Nat) : rdI s 97 p = rdL s 1 p := by unfold rdI; rw [if_neg (by decide), if_pos (by decide)]
theorem rdI_g {s : Nat → Nat} (p : Nat) : rdI s 103 p = rdL s 2 p := by unfold rdI; rw [if_neg (by decide), if_neg (by decide), if_neg (by decide), if_pos (by decide)]
theorem ts_fib {m : Nat} {s : Nat → Nat} {vs : List Nat} {st : Nat × Bool} {H : Nat → Nat → Int32} (h : TS m s vs st H) :
    ∃ (v : Int32) (H1 : Nat → Nat → Int32), zden 161 0 [.ref 90, .ref 98, .int 5, .retAddr 0, .retAddr 0] [] (zSH, H) = some (some (.int v), (zSH, H1)) ∧ mFr H (zup H1 97 vs.length v) ∧ TS m s (vs ++ [(rdI s 102 st.1).1]) (stI s 102 st) (zup H1 97 vs.length v) := by
  have := ts_letter (j := 0) sh_98 (by omega) (by rw [lens.1]; omega) (by omega) (fun i hi => h.2.1.1 i (by rw [lens.1] at hi; exact hi)) rdI_f h
  rw [lens.1] at this
  exact this
theorem ts_for {m : Nat} {s : Nat → Nat} {vs : List Nat} {st : Nat × Bool} {H : Nat → Nat → Int32} (h : TS m s vs st H) :
    ∃ (v : Int32) (H1 : Nat → Nat → Int32), zden 161 0 [.ref 90, .ref 99, .int 4, .retAddr 0, .retAddr 0] [] (zSH, H) = some (some (.int v), (zSH, H1)) ∧ mFr H (zup H1 97 vs.length v) ∧ TS m s (vs ++ [(rdI s 97 st.1).1]) (stI s 97 st) (zup H1 97 vs.length v) := by
  have := ts_letter (j := 1) sh_99 (by omega) (by rw [lens.2.1]; omega) (by omega) (fun i hi => h.2.1.2.1 i (by rw [lens.2.1] at hi; exact hi)) rdI_a h
  rw [lens.2.1] at this
  exact this
theorem ts_for3 {m : Nat} {s : Nat → Nat} {vs : List Nat} {st : Nat × Bool} {H : Nat → Nat → Int32} (h : TS m s vs st H) :
    ∃ (v : Int32) (H1 : Nat → Nat → Int32), zden 161 0 [.ref 90, .ref 99, .int 3, .retAddr 0, .retAddr 0] [] (zSH, H) = some (some (.int v), (zSH, H1)) ∧ mFr H (zup H1 97 vs.length v) ∧ TS m s (vs ++ [(rdI s 103 st.1).1]) (stI s 103 st) (zup H1 97 vs.length v) := by
  have := ts_letter (j := 2) sh_99 (by omega) (by rw [lens.2.2]; omega) (by omega) (fun i hi => by rw [lens.2.2] at hi; rw [h.2.1.2.1 i (by omega), let_2 i (by rw [lens.2.2]; omega)]) rdI_g h
  rw [lens.2.2] at this
  exact this
theorem fL_eq : fL 0 = [50, 32, 102, 97, 32, 50, 32, 50] ∧ fL 1 = [50] ∧ fL 2 = [103, 32, 50, 32, 51, 32, 51, 47, 51, 47, 51] ∧ fL 3 = [50, 32, 49, 32, 50] ∧ fL 4 = [49, 61, 51] ∧ fL 5 = [52] ∧ fL 6 = [50] ∧ fL 7 = [50] ∧ fL 8 = [50] := by decide +kernel
theorem sm_tail {k : Nat} {H : Nat → Nat → Int32} (hk : k < 9) (h2 : k ≠ 2) (h3 : k ≠ 3) (h4 : k ≠ 4) : zden 157 67 [.ref 90, .int (nI k), .retAddr 0] [] (zSH, H) = zden 157 125 [.ref 90, .int (nI k), .retAddr 0] [] (zSH, H) := by
  have ne : ∀ (x : Nat) (y : Int32), y = nI x → x < 9 → k ≠ x → ¬ nI k = y := fun x y hy hx hn => by rw [hy, nI_eq (by omega) (by omega)]; exact hn
  rw [B_M_order_67, if_pos (ne 2 2 (by decide) (by omega) h2), B_M_order_76, if_pos (ne 3 3 (by decide) (by omega) h3), B_M_order_107, if_pos (ne 4 4 (by decide) (by omega) h4)]
theorem d_bd {k : Nat} : (if k = 4 then 1 else if k = 5 then 4 else 2) ≤ 4 ∧ 0 < (if k = 4 then 1 else if k = 5 then 4 else 2) := by
  by_cases a : k = 4
  · rw [if_pos a]; omega
  · rw [if_neg a]
    by_cases b : k = 5
    · rw [if_pos b]; omega
    · rw [if_neg b]; omega
/-- the first number of an order that begins with digits -/
theorem sm_first {m k d p : Nat} {s : Nat → Nat} {H : Nat → Nat → Int32} (hk : k < 9) (h2 : k ≠ 2) (hd : d = if k = 4 then 1 else if k = 5 then 4 else 2) (h : TS m s [] (p, false) H) :
    ∃ (v : Int32) (H1 : Nat → Nat → Int32), zden 157 4 [.ref 90, .retAddr 0, .retAddr 0] [.int (nI k)] (zSH, H) = zden 157 58 [.ref 90, .int (nI k), .retAddr 0] [.int v, .int 0, .ref 97] (zSH, H1) ∧ mFr H (zup H1 97 0 v) ∧ TS m s [(rdI s (48 + d) p).1] (stI s (48 + d) (p, false)) (zup H1 97 0 v) := by
  have ne : ∀ (x : Nat) (y : Int32), y = nI x → x < 9 → k ≠ x → ¬ nI k = y := fun x y hy hx hn => by rw [hy, nI_eq (by omega) (by omega)]; exact hn
  have hd4 : d ≤ 4 ∧ 0 < d := by rw [hd]; exact d_bd
  obtain ⟨v, H1, g1, g2, g3⟩ := ts_digits hd4.1 hd4.2 h
  refine ⟨v, H1, ?_, g2, g3⟩
  have fin : zden 157 55 [.ref 90, .int (nI k), .retAddr 0] [.int (nI d), .ref 90, .int 0, .ref 97] (zSH, H) = zden 157 58 [.ref 90, .int (nI k), .retAddr 0] [.int v, .int 0, .ref 97] (zSH, H1) := by
    rw [B_M_order_55, g1, zaft_same]; rfl
  rw [B_M_order_4, if_pos (by rw [h.1.2.2.2.2.1]; rfl), if_pos (ne 2 2 (by decide) (by omega) h2)]
  by_cases c4 : k = 4
  · rw [if_pos c4] at hd
    rw [if_neg (fun z => z (by rw [c4]; decide))]
    rw [hd] at fin
    exact fin
  · rw [if_neg c4] at hd
    rw [if_pos (ne 4 4 (by decide) (by omega) c4)]
    by_cases c5 : k = 5
    · rw [if_pos c5] at hd
      rw [if_neg (fun z => z (by rw [c5]; decide))]
      rw [hd] at fin
      exact fin
    · rw [if_neg c5] at hd
      rw [if_pos (ne 5 5 (by decide) (by omega) c5)]
      rw [hd] at fin
      exact fin
theorem sm_told {m k p : Nat} {s : Nat → Nat} {H : Nat → Nat → Int32} (hk : k < 9) (h : TS m s [] (p, false) H) :
    ∃ H' : Nat → Nat → Int32, zden 157 4 [.ref 90, .retAddr 0, .retAddr 0] [.int (nI k)] (zSH, H) = zden 157 125 [.ref 90, .int (nI k), .retAddr 0] [] (zSH, H') ∧ mFr H H' ∧ TS m s (vF s (fL k) (p, false)) (stL s (fL k) (p, false)) H' := by
  obtain ⟨F0, F1, F2, F3, F4, F5, F6, F7, F8⟩ := fL_eq
  have ne : ∀ (x : Nat) (y : Int32), y = nI x → x < 9 → k ≠ x → ¬ nI k = y := fun x y hy hx hn => by rw [hy, nI_eq (by omega) (by omega)]; exact hn
  obtain ⟨cl0, cl1, cl2, cl3, cl4, cl5⟩ := clN
  have z0 : zin (0 : Int32) 6 = true := by decide
  -- orders of one number
  have one : ∀ d, d = (if k = 4 then 1 else if k = 5 then 4 else 2) → k ≠ 0 → k ≠ 2 → k ≠ 3 → k ≠ 4 → fL k = [48 + d] → ∃ H' : Nat → Nat → Int32, zden 157 4 [.ref 90, .retAddr 0, .retAddr 0] [.int (nI k)] (zSH, H) = zden 157 125 [.ref 90, .int (nI k), .retAddr 0] [] (zSH, H') ∧ mFr H H' ∧ TS m s (vF s (fL k) (p, false)) (stL s (fL k) (p, false)) H' := by
    intro d hd k0 k2 k3 k4 hf
    obtain ⟨v, H1, g1, g2, g3⟩ := sm_first hk k2 hd h
    have hn : isSg (48 + d) = false := by
      have hd4 : d ≤ 4 ∧ 0 < d := by rw [hd]; exact d_bd
      unfold isSg
      simp only [Bool.or_eq_false_iff, beq_eq_false_iff_ne]
      exact ⟨⟨by omega, by omega⟩, by omega⟩
    refine ⟨zup H1 97 0 v, ?_, g2, ?_⟩
    · rw [g1, B_M_order_58 z0, if_pos (ne 0 0 (by decide) (by omega) k0), cl0]
      exact sm_tail hk k2 k3 k4
    · rw [hf, vF_nsg hn]; exact g3
  rcases (show k = 0 ∨ k = 1 ∨ k = 2 ∨ k = 3 ∨ k = 4 ∨ k = 5 ∨ k = 6 ∨ k = 7 ∨ k = 8 by omega) with rfl | rfl | rfl | rfl | rfl | rfl | rfl | rfl | rfl
  · -- head
    obtain ⟨v, H1, g1, g2, g3⟩ := sm_first (k := 0) (d := 2) hk (by omega) (by decide) h
    obtain ⟨H2, a1, a2, a3⟩ := ts_mark (c := 32) (by decide) (by omega) g3
    obtain ⟨v1, H3, b1, b2, b3⟩ := ts_fib a3
    obtain ⟨v2, H4, c1, c2, c3⟩ := ts_for b3
    obtain ⟨v3, H5, d1, d2, d3⟩ := ts_behind (c := 32) (d := 2) (by decide) (by omega) (by omega) c3
    obtain ⟨v4, H6, e1, e2, e3⟩ := ts_behind (c := 32) (d := 2) (by decide) (by omega) (by omega) d3
    refine ⟨_, ?_, g2.trans (a2.trans (b2.trans (c2.trans (d2.trans e2)))), ?_⟩
    · rw [g1, B_M_order_58 z0, if_neg (fun z => z (by decide)), cl0, B_M_headTold_0]
      rw [show zden 160 0 [.ref 90, .int 32] [] (zSH, zup H1 97 0 v) = _ from a1, zaft_same]
      rw [show zden 163 6 [.ref 90] ((none : Option Value).toList ++ []) (zSH, H2) = _ from B_M_headTold_6, b1, zaft_same]
      rw [show zden 163 20 [.ref 90] ((some (Value.int v1)).toList ++ [.int 1, .ref 97]) (zSH, H3) = _ from B_M_headTold_20 (by decide), cl1]
      rw [show zden 161 0 [.ref 90, .ref 99, .int 4, .retAddr 0, .retAddr 0] [] (zSH, zup H3 97 1 v1) = _ from c1, zaft_same]
      rw [show zden 163 35 [.ref 90] ((some (Value.int v2)).toList ++ [.int 2, .ref 97]) (zSH, H4) = _ from B_M_headTold_35 (by decide), cl2]
      rw [show zden 164 0 [.ref 90, .int 32, .int 2] [] (zSH, zup H4 97 2 v2) = _ from d1, zaft_same]
      rw [show zden 163 48 [.ref 90] ((some (Value.int v3)).toList ++ [.int 3, .ref 97]) (zSH, H5) = _ from B_M_headTold_48 (by decide), cl3]
      rw [show zden 164 0 [.ref 90, .int 32, .int 2] [] (zSH, zup H5 97 3 v3) = _ from e1, zaft_same]
      rw [show zden 163 61 [.ref 90] ((some (Value.int v4)).toList ++ [.int 4, .ref 97]) (zSH, H6) = _ from B_M_headTold_61 (by decide), cl4, zaft_same]
      exact sm_tail hk (by omega) (by omega) (by omega)
    · rw [F0]; exact e3
  · exact one 2 (by decide) (by omega) (by omega) (by omega) (by omega) F1
  · -- good
    obtain ⟨v, H1, g1, g2, g3⟩ := ts_for3 h
    obtain ⟨v1, H2, a1, a2, a3⟩ := ts_behind (c := 32) (d := 2) (by decide) (by omega) (by omega) g3
    obtain ⟨v2, H3, b1, b2, b3⟩ := ts_behind (c := 32) (d := 3) (by decide) (by omega) (by omega) a3
    obtain ⟨v3, H4, c1, c2, c3⟩ := ts_behind (c := 32) (d := 3) (by decide) (by omega) (by omega) b3
    obtain ⟨v4, H5, d1, d2, d3⟩ := ts_behind (c := 47) (d := 3) (by decide) (by omega) (by omega) c3
    obtain ⟨v5, H6, e1, e2, e3⟩ := ts_behind (c := 47) (d := 3) (by decide) (by omega) (by omega) d3
    refine ⟨_, ?_, g2.trans (a2.trans (b2.trans (c2.trans (d2.trans e2)))), ?_⟩
    · rw [B_M_order_4, if_pos (by rw [h.1.2.2.2.2.1]; rfl), if_neg (fun z => z (by decide)), g1, zaft_same]
      rw [show zden 157 32 [.ref 90, .int (nI 2), .retAddr 0] ((some (Value.int v)).toList ++ [.int 0, .ref 97]) (zSH, H1) = _ from B_M_order_32, B_M_order_58 z0, if_pos (by decide), cl0, B_M_order_67, if_neg (fun z => z (by decide)), B_M_goodTold_0]
      rw [show zden 164 0 [.ref 90, .int 32, .int 2] [] (zSH, zup H1 97 0 v) = _ from a1, zaft_same]
      rw [show zden 165 12 [.ref 90] ((some (Value.int v1)).toList ++ [.int 1, .ref 97]) (zSH, H2) = _ from B_M_goodTold_12 (by decide), cl1]
      rw [show zden 164 0 [.ref 90, .int 32, .int 3] [] (zSH, zup H2 97 1 v1) = _ from b1, zaft_same]
      rw [show zden 165 25 [.ref 90] ((some (Value.int v2)).toList ++ [.int 2, .ref 97]) (zSH, H3) = _ from B_M_goodTold_25 (by decide), cl2]
      rw [show zden 164 0 [.ref 90, .int 32, .int 3] [] (zSH, zup H3 97 2 v2) = _ from c1, zaft_same]
      rw [show zden 165 38 [.ref 90] ((some (Value.int v3)).toList ++ [.int 3, .ref 97]) (zSH, H4) = _ from B_M_goodTold_38 (by decide), cl3]
      rw [show zden 164 0 [.ref 90, .int 47, .int 3] [] (zSH, zup H4 97 3 v3) = _ from d1, zaft_same]
      rw [show zden 165 51 [.ref 90] ((some (Value.int v4)).toList ++ [.int 4, .ref 97]) (zSH, H5) = _ from B_M_goodTold_51 (by decide), cl4]
      rw [show zden 164 0 [.ref 90, .int 47, .int 3] [] (zSH, zup H5 97 4 v4) = _ from e1, zaft_same]
      rw [show zden 165 64 [.ref 90] ((some (Value.int v5)).toList ++ [.int 5, .ref 97]) (zSH, H6) = _ from B_M_goodTold_64 (by decide), cl5, zaft_same]
      rw [show zden 157 76 [.ref 90, .int (nI 2), .retAddr 0] ((none : Option Value).toList ++ []) (zSH, zup H6 97 5 v5) = _ from B_M_order_76, if_pos (by decide), B_M_order_107, if_pos (by decide)]
      rfl
    · rw [F2]; exact e3
  · -- work
    obtain ⟨v, H1, g1, g2, g3⟩ := sm_first (k := 3) (d := 2) hk (by omega) (by decide) h
    obtain ⟨v1, H2, a1, a2, a3⟩ := ts_behind (c := 32) (d := 1) (by decide) (by omega) (by omega) g3
    obtain ⟨v2, H3, b1, b2, b3⟩ := ts_behind (c := 32) (d := 2) (by decide) (by omega) (by omega) a3
    refine ⟨_, ?_, g2.trans (a2.trans b2), ?_⟩
    · rw [g1, B_M_order_58 z0, if_pos (by decide), cl0, B_M_order_67, if_pos (by decide), B_M_order_76, if_neg (fun z => z (by decide))]
      rw [show zden 164 0 [.ref 90, .int 32, .int 1] [] (zSH, zup H1 97 0 v) = _ from a1, zaft_same]
      rw [show zden 157 93 [.ref 90, .int (nI 3), .retAddr 0] ((some (Value.int v1)).toList ++ [.int 1, .ref 97]) (zSH, H2) = _ from B_M_order_93 (by decide), cl1]
      rw [show zden 164 0 [.ref 90, .int 32, .int 2] [] (zSH, zup H2 97 1 v1) = _ from b1, zaft_same]
      rw [show zden 157 106 [.ref 90, .int (nI 3), .retAddr 0] ((some (Value.int v2)).toList ++ [.int 2, .ref 97]) (zSH, H3) = _ from B_M_order_106 (by decide), cl2, B_M_order_107, if_pos (by decide)]
      rfl
    · rw [F3]; exact b3
  · -- favour
    obtain ⟨v, H1, g1, g2, g3⟩ := sm_first (k := 4) (d := 1) hk (by omega) (by decide) h
    obtain ⟨v1, H2, a1, a2, a3⟩ := ts_behind (c := 61) (d := 3) (by decide) (by omega) (by omega) g3
    refine ⟨_, ?_, g2.trans a2, ?_⟩
    · rw [g1, B_M_order_58 z0, if_pos (by decide), cl0, B_M_order_67, if_pos (by decide), B_M_order_76, if_pos (by decide), B_M_order_107, if_neg (fun z => z (by decide))]
      rw [show zden 164 0 [.ref 90, .int 61, .int 3] [] (zSH, zup H1 97 0 v) = _ from a1, zaft_same]
      rw [show zden 157 124 [.ref 90, .int (nI 4), .retAddr 0] ((some (Value.int v1)).toList ++ [.int 1, .ref 97]) (zSH, H2) = _ from B_M_order_124 (by decide), cl1]
      rfl
    · rw [F4]; exact a3
  · exact one 4 (by decide) (by omega) (by omega) (by omega) (by omega) F5
  · exact one 2 (by decide) (by omega) (by omega) (by omega) (by omega) F6
  · exact one 2 (by decide) (by omega) (by omega) (by omega) (by omega) F7
  · exact one 2 (by decide) (by omega) (by omega) (by omega) (by omega) F8
/-- an order is read, up to its doing -/
theorem sm_order {m p : Nat} {s : Nat → Nat} {H : Nat → Nat → Int32} (hc : zMc H) (h : mSt m s (p, false) H) :
    ∃ H' : Nat → Nat → Int32, mFr H H' ∧ mSt m s ((rdO s p).2.2.1, (rdO s p).2.2.2) H' ∧ ((rdO s p).2.2.2 = true → zden 157 0 [.ref 90, .retAddr 0, .retAddr 0] [] (zSH, H) = some (none, (zSH, H'))) ∧
      ((rdO s p).2.2.2 = false → zden 157 0 [.ref 90, .retAddr 0, .retAddr 0] [] (zSH, H) = zden 157 125 [.ref 90, .int (nI (rdO s p).1), .retAddr 0] [] (zSH, H') ∧ ∀ t, t < (rdO s p).2.1.length → H' 97 t = nI ((rdO s p).2.1.getD t 0)) := by
  obtain ⟨v, H1, g1, g2, g3, g4, g5⟩ := sm_word hc h
  have e : zden 157 0 [.ref 90, .retAddr 0, .retAddr 0] [] (zSH, H) = zden 157 4 [.ref 90, .retAddr 0, .retAddr 0] [.int v] (zSH, H1) := by
    rw [B_M_order_0, g1, zaft_same]; rfl
  unfold rdO
  cases hw : (rdW s p).2.2 with
  | true =>
    rw [if_pos rfl]
    rw [hw] at g2
    refine ⟨H1, g3, g2, fun _ => ?_, fun z => Bool.noConfusion (show true = false from z)⟩
    rw [e, B_M_order_4, if_neg (by rw [g2.2.2.2.2.1]; exact bB_t)]
  | false =>
    rw [if_neg ff_t]
    rw [hw] at g2
    have ev := g5 hw
    subst ev
    obtain ⟨w1, w2⟩ := rdWF_lt 9 0 0 (by omega) (show (rdWF s p 9 0 0).2.2 = false from hw)
    have w1 : (rdW s p).1 < 9 := w1
    obtain ⟨H2, k1, k2, k3⟩ := sm_told (k := (rdW s p).1) w1 ⟨g2, hc.fr g3, fun _ t ht => absurd ht (Nat.not_lt_zero t)⟩
    obtain ⟨r1, r2⟩ := rdF_st (s := s) (fL (rdW s p).1) (rdW s p).2.1
    have k3' : mSt m s (rdF s (fL (rdW s p).1) (rdW s p).2.1).2 H2 := by rw [r1]; exact k3.1
    refine ⟨H2, g3.trans k2, k3', fun z => ?_, fun z => ⟨e.trans k1, fun t ht => ?_⟩⟩
    · rw [e, k1, B_M_order_125, if_pos (by
        rw [k3'.2.2.2.2.1]
        show ¬ bB (rdF s (fL (rdW s p).1) (rdW s p).2.1).2.2 = 0
        rw [show (rdF s (fL (rdW s p).1) (rdW s p).2.1).2.2 = true from z]
        exact bB_t)]
    · have z' : (rdF s (fL (rdW s p).1) (rdW s p).2.1).2.2 = false := z
      have ht' : t < (rdF s (fL (rdW s p).1) (rdW s p).2.1).1.length := ht
      show H2 97 t = nI ((rdF s (fL (rdW s p).1) (rdW s p).2.1).1.getD t 0)
      rw [r2 z'] at ht' ⊢
      refine k3.2.2 ?_ t ht'
      rw [← r1]; exact z'
