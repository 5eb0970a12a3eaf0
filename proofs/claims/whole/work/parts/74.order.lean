-- 74: the class reads orders
def okI (c : Nat) : Bool := isSg c || c == 97 || c == 102 || c == 103 || c == 49 || c == 50 || c == 51 || c == 52
def nv : List Nat → Nat
  | [] => 0
  | c :: cs => (if isSg c = true then 0 else 1) + nv cs
theorem form_ok : ∀ k, k < 9 → (fL k).all okI = true ∧ nv (fL k) ≤ 6 ∧ (fL k).length ≤ 11 ∧ isSg ((fL k).getD 0 0) = false ∧ 1 ≤ (fL k).length := by decide +kernel
theorem zTB_nI : ∀ j, j < 18 → ∀ i, i < (zTB j).length → (zTB j).getD i 0 = nI ((zTB j).getD i 0).toNatClampNeg ∧ ((zTB j).getD i 0).toNatClampNeg < 128 := by decide +kernel
theorem fL_len {k : Nat} : (fL k).length = (zTB (fmN (nI k))).length := List.length_map _
theorem fL_drop {k i : Nat} (hi : i < (fL k).length) : (fL k).drop i = ((zTB (fmN (nI k))).getD i 0).toNatClampNeg :: (fL k).drop (i + 1) := by
  have h2 : i < (zTB (fmN (nI k))).length := by rw [← fL_len]; exact hi
  have h3 : i < (List.map (fun (x : Int32) => x.toNatClampNeg) (zTB (fmN (nI k)))).length := hi
  show (List.map (fun (x : Int32) => x.toNatClampNeg) (zTB (fmN (nI k)))).drop i = _ :: (List.map (fun (x : Int32) => x.toNatClampNeg) (zTB (fmN (nI k)))).drop (i + 1)
  rw [List.drop_eq_getElem_cons h3, List.getElem_map, List.getD_eq_getElem?_getD, List.getElem?_eq_getElem h2]
  rfl
theorem all_drop {k i c : Nat} {cs : List Nat} (h : (fL k).all okI = true) (hd : (fL k).drop i = c :: cs) : okI c = true := by
  have : c ∈ (fL k).drop i := by rw [hd]; exact List.mem_cons_self
  exact List.all_eq_true.mp h c (List.mem_of_mem_drop this)
/-- an item that is no sign -/
theorem sc_item {m p c : Nat} {s : Nat → Nat} {G : Nat → Nat → Int32} (hc : okI c = true) (hn : isSg c = false) (hp : p + 5 ≤ 200) (h : cSt m s p false G) :
    ∃ (r : Int32) (G' : Nat → Nat → Int32), zden 65 0 [.ref 84, .int (nI c)] [] (zSH, G) = some (some (.int r), (zSH, G')) ∧ cSt m s (rdI s c p).2.1 (rdI s c p).2.2 G' ∧ cFr G G' ∧ G' 86 = G 86 ∧ ((rdI s c p).2.2 = false → r = nI (rdI s c p).1) := by
  have num : ∀ d, 0 < d → d ≤ 4 → c = 48 + d → ∃ (r : Int32) (G' : Nat → Nat → Int32), zden 65 0 [.ref 84, .int (nI c)] [] (zSH, G) = some (some (.int r), (zSH, G')) ∧ cSt m s (rdI s c p).2.1 (rdI s c p).2.2 G' ∧ cFr G G' ∧ G' 86 = G 86 ∧ ((rdI s c p).2.2 = false → r = nI (rdI s c p).1) := by
    intro d d0 d4 e
    have ei : rdI s c p = rdD s d p := by
      unfold rdI
      rw [if_neg (by rw [hn]; decide), if_neg (by omega), if_neg (by omega), if_neg (by omega), e, Nat.add_sub_cancel_left]
    rw [ei]
    obtain ⟨G', g1, g2, g3, g4⟩ := sc_readDigits d4 d0 (show p + 4 ≤ 200 by omega) h
    refine ⟨_, G', ?_, g2, g3, g4, fun _ => rfl⟩
    have ne : ∀ (x : Nat) (y : Int32), y = nI x → x ≠ c → x < 200 → ¬ nI c = y := fun x y hy hx hl => by rw [hy, nI_eq (by omega) (by omega)]; omega
    rw [B_Te_readNumber_0, if_neg (ne 97 97 (by decide) (by omega) (by omega)), if_neg (ne 102 102 (by decide) (by omega) (by omega)), if_neg (ne 103 103 (by decide) (by omega) (by omega)), B_Te_readNumber_57, nIlit_48, pk_sub (by omega), show c - 48 = d by omega, g1, zaft_same]
    exact B_Te_readNumber_65
  have hc2 : c = 97 ∨ c = 102 ∨ c = 103 ∨ c = 49 ∨ c = 50 ∨ c = 51 ∨ c = 52 := by
    unfold okI at hc
    rw [hn] at hc
    simp only [Bool.or_eq_true, beq_iff_eq, Bool.false_or] at hc
    omega
  rcases hc2 with rfl | rfl | rfl | e | e | e | e
  · obtain ⟨r, G', g1, g2, g3, g4, g5⟩ := sc_readLetter (j := 1) (by omega) (show p + 1 ≤ 200 by omega) h
    refine ⟨r, G', ?_, g2, g3, g4, g5⟩
    rw [B_Te_readNumber_0, if_pos (by decide), B_Te_readNumber_43, g1, zaft_same]
    exact B_Te_readNumber_49
  · obtain ⟨r, G', g1, g2, g3, g4, g5⟩ := sc_readLetter (j := 0) (by omega) (show p + 1 ≤ 200 by omega) h
    refine ⟨r, G', ?_, g2, g3, g4, g5⟩
    rw [B_Te_readNumber_0, if_neg (by decide), if_pos (by decide), B_Te_readNumber_36, g1, zaft_same]
    exact B_Te_readNumber_42
  · obtain ⟨r, G', g1, g2, g3, g4, g5⟩ := sc_readLetter (j := 2) (by omega) (show p + 1 ≤ 200 by omega) h
    refine ⟨r, G', ?_, g2, g3, g4, g5⟩
    rw [B_Te_readNumber_0, if_neg (by decide), if_neg (by decide), if_pos (by decide), B_Te_readNumber_50, g1, zaft_same]
    exact B_Te_readNumber_56
  · exact num 1 (by omega) (by omega) (by omega)
  · exact num 2 (by omega) (by omega) (by omega)
  · exact num 3 (by omega) (by omega) (by omega)
  · exact num 4 (by omega) (by omega) (by omega)
theorem rdI_mono {s : Nat → Nat} {c p : Nat} (hc : okI c = true) : p ≤ (rdI s c p).2.1 ∧ (rdI s c p).2.1 ≤ p + 4 := by
  unfold rdI
  by_cases a : isSg c = true
  · rw [if_pos a]
    unfold rdS
    by_cases b : s p = c
    · rw [if_pos b]; show p ≤ p + 1 ∧ p + 1 ≤ p + 4; omega
    · rw [if_neg b]; show p ≤ p ∧ p ≤ p + 4; omega
  · rw [if_neg a]
    have rl : ∀ j, p ≤ (rdL s j p).2.1 ∧ (rdL s j p).2.1 ≤ p + 4 := fun j => by
      unfold rdL
      by_cases b : ixN j (s p) (zTB j).length 0 < 9
      · rw [if_pos b]; show p ≤ p + 1 ∧ p + 1 ≤ p + 4; omega
      · rw [if_neg b]; show p ≤ p ∧ p ≤ p + 4; omega
    by_cases b1 : c = 97
    · rw [if_pos b1]; exact rl 1
    · rw [if_neg b1]
      by_cases b2 : c = 102
      · rw [if_pos b2]; exact rl 0
      · rw [if_neg b2]
        by_cases b3 : c = 103
        · rw [if_pos b3]; exact rl 2
        · rw [if_neg b3]
          have := dgR_bd (s := s) (c - 48) 0 0 p
          have h4 : c - 48 ≤ 4 := by
            unfold okI at hc
            have a' : isSg c = false := by simpa using a
            rw [a'] at hc
            simp only [Bool.or_eq_true, beq_iff_eq, Bool.false_or] at hc
            omega
          show p ≤ (dgR s (c - 48) 0 0 p).2.1 ∧ (dgR s (c - 48) 0 0 p).2.1 ≤ p + 4
          omega
def zOT (G : Nat → Nat → Int32) : Prop := G 85 0 = nI 11 ∧ G 85 1 = nI 7
theorem ot_get {G : Nat → Nat → Int32} (w : zOT G) {y : Int32} {i j : Nat} (hy : y = nI j) (hi : i < 11) (hj : j < 7) : tget G 85 86 77 (nI i) y = G 86 (7 * i + j) := by
  rw [hy, tget_in w.1 w.2 hi hj (by decide) (by decide), Nat.mul_comm]
theorem ot_set {G : Nat → Nat → Int32} (w : zOT G) {y z : Int32} {i j : Nat} (hy : y = nI j) (hi : i < 11) (hj : j < 7) : tset G 85 86 77 (nI i) y z = zup G 86 (7 * i + j) z := by
  rw [hy, tset_in w.1 w.2 hi hj (by decide) (by decide), Nat.mul_comm]
theorem zOT.fr {G G' : Nat → Nat → Int32} (w : zOT G) (h : cFr G G') : zOT G' := by
  unfold zOT
  rw [h.1 85 (by decide) (by decide)]
  exact w
theorem sc_form_wrong {m p : Nat} {s : Nat → Nat} {x1 x2 x4 x5 : Int32} {v6 : Value} {G : Nat → Nat → Int32} (h : cSt m s p true G) : zden 58 26 [.ref 84, .int x1, .int x2, .ref (1000000 + (fmN x2)), .int x4, .int x5, v6] [] (zSH, G) = some (none, (zSH, G)) := by
  have h5 : ¬ G 84 4 = 0 := by rw [h.2.2.2.2.1]; decide
  rw [B_Te_readOrder_26 (fun _ z => absurd h5 z)]
  by_cases c : (nI (zTB (fmN x2)).length) ≤ x5
  · rw [if_pos c]
  · rw [if_neg c, if_pos h5]
theorem sc_form_loop {m k o : Nat} {s : Nat → Nat} (hk : k < 9) (ho : o < 11) : ∀ (d i p col : Nat) (G : Nat → Nat → Int32) (v6 : Value), i + d = (fL k).length → p + 5 * d ≤ 195 → col + nv ((fL k).drop i) ≤ 7 → cSt m s p false G → zOT G →
    ∃ G' : Nat → Nat → Int32, zden 58 26 [.ref 84, .int (nI o), .int (nI k), .ref (1000000 + (fmN (nI k))), .int (nI col), .int (nI i), v6] [] (zSH, G) = some (none, (zSH, G')) ∧
      cSt m s (rdF s ((fL k).drop i) p).2.1 (rdF s ((fL k).drop i) p).2.2 G' ∧ cFr G G' ∧ (∀ t, t < 7 * o + col → G' 86 t = G 86 t) ∧
      ((rdF s ((fL k).drop i) p).2.2 = false → ∀ t, t < (rdF s ((fL k).drop i) p).1.length → G' 86 (7 * o + col + t) = nI ((rdF s ((fL k).drop i) p).1.getD t 0)) := by
  obtain ⟨f1, f2, f3, f4, f5⟩ := form_ok k hk
  have hjl := fmN_lt (nI k)
  intro d
  induction d with
  | zero =>
    intro i p col G v6 hi hp hcol h ho2
    have hi : i = (fL k).length := by omega
    have hd : (fL k).drop i = [] := by rw [hi]; exact List.drop_length
    have hb : (nI (zTB (fmN (nI k))).length) ≤ nI i := by rw [hi, fL_len]; exact Int32.le_refl _
    rw [hd]
    refine ⟨G, ?_, h, cFr.rfl', fun _ _ => rfl, fun _ t ht => absurd ht (Nat.not_lt_zero t)⟩
    rw [B_Te_readOrder_26 (fun z => absurd hb z), if_pos hb]
  | succ d ih =>
    intro i p col G v6 hi hp hcol h ho2
    have hil : i < (fL k).length := by omega
    have hil2 : i < (zTB (fmN (nI k))).length := by rw [← fL_len]; exact hil
    have hd := fL_drop hil
    obtain ⟨z1, z2⟩ := zTB_nI _ hjl i hil2
    generalize hcc : ((zTB (fmN (nI k))).getD i 0).toNatClampNeg = c at hd z1 z2
    have hok := all_drop f1 hd
    have hz : zch (fmN (nI k)) (nI i) = nI c := by rw [zch_nI (by omega)]; exact z1
    have h5 : G 84 4 = 0 := by rw [h.2.2.2.2.1]; rfl
    have hnb : ¬ (nI (zTB (fmN (nI k))).length) ≤ nI i := by rw [← fL_len]; exact nI_ge hil (by omega)
    have zin' : zin (nI i) (zTB (fmN (nI k))).length = true := zin_nI hil2 (by rw [← fL_len]; omega)
    have hmono := rdI_mono (s := s) (p := p) hok
    have eq1 : ∀ (x : Nat) (y : Int32), y = nI x → x < 200 → (nI c = y ↔ c = x) := fun x y hy hx => by rw [hy]; exact nI_eq (by omega) (by omega)
    have hc : zden 58 26 [.ref 84, .int (nI o), .int (nI k), .ref (1000000 + (fmN (nI k))), .int (nI col), .int (nI i), v6] [] (zSH, G) = _ := B_Te_readOrder_26 (fun _ _ => zin')
    rw [if_neg hnb, if_neg (fun z => z h5), hz] at hc
    rw [hd] at hcol ⊢
    rw [rdF_cons]
    by_cases sg : isSg c = true
    · -- a sign
      have hc2 : zden 58 26 [.ref 84, .int (nI o), .int (nI k), .ref (1000000 + (fmN (nI k))), .int (nI col), .int (nI i), v6] [] (zSH, G) = zden 58 71 [.ref 84, .int (nI o), .int (nI k), .ref (1000000 + (fmN (nI k))), .int (nI col), .int (nI i), .int (nI c)] [] (zSH, G) := by
        rw [hc]
        have sg2 : c = 32 ∨ c = 47 ∨ c = 61 := by
          unfold isSg at sg
          simp only [Bool.or_eq_true, beq_iff_eq] at sg
          omega
        rcases sg2 with rfl | rfl | rfl
        · rw [if_pos (by decide)]
        · rw [if_neg (by decide), if_pos (by decide)]
        · rw [if_neg (by decide), if_neg (by decide), if_neg (fun z => z (by decide))]
      have er : rdI s c p = rdS s c p := by unfold rdI; rw [if_pos sg]
      obtain ⟨G1, g1, g2, g3, g4⟩ := sc_readSign h (show c < 2 ^ 31 by omega) (show p + 1 ≤ 200 by omega)
      have hc3 : zden 58 26 [.ref 84, .int (nI o), .int (nI k), .ref (1000000 + (fmN (nI k))), .int (nI col), .int (nI i), v6] [] (zSH, G) = zden 58 26 [.ref 84, .int (nI o), .int (nI k), .ref (1000000 + (fmN (nI k))), .int (nI col), .int (nI (i + 1)), .int (nI c)] [] (zSH, G1) := by
        rw [hc2, B_Te_readOrder_71, g1, zaft_same]
        refine Eq.trans B_Te_readOrder_77 ?_
        rw [B_Te_readOrder_99, nI_1]
      rw [er] at hmono ⊢
      cases hw : (rdS s c p).2.2 with
      | true =>
        rw [hw] at g2
        rw [if_pos rfl]
        exact ⟨G1, hc3.trans (sc_form_wrong g2), g2, g3, fun t _ => by rw [g4], fun z => Bool.noConfusion (show true = false from z)⟩
      | false =>
        rw [hw] at g2
        rw [if_neg (by decide), if_pos sg]
        obtain ⟨G', k1, k2, k3, k4, k5⟩ := ih (i + 1) (rdS s c p).2.1 col G1 (.int (nI c)) (by omega) (by omega) (by
          have : nv (c :: (fL k).drop (i + 1)) = (if isSg c = true then 0 else 1) + nv ((fL k).drop (i + 1)) := rfl
          omega) g2 (ho2.fr g3)
        exact ⟨G', hc3.trans k1, k2, g3.trans k3, fun t ht => (k4 t ht).trans (by rw [g4]), k5⟩
    · have sg' : isSg c = false := by simpa using sg
      have hc2 : zden 58 26 [.ref 84, .int (nI o), .int (nI k), .ref (1000000 + (fmN (nI k))), .int (nI col), .int (nI i), v6] [] (zSH, G) = zaft 58 93 [.ref 84, .int (nI o), .int (nI k), .ref (1000000 + (fmN (nI k))), .int (nI col), .int (nI i), .int (nI c)] [.int (nI col), .int (nI o), .ref 85] (zSH, G) (zden 65 0 [.ref 84, .int (nI c)] [] (zSH, G)) := by
        have sg2 : c ≠ 32 ∧ c ≠ 47 ∧ c ≠ 61 := by
          unfold isSg at sg'
          simp only [Bool.or_eq_false_iff, beq_eq_false_iff_ne] at sg'
          exact ⟨sg'.1.1, sg'.1.2, sg'.2⟩
        rw [hc, if_neg (fun z => sg2.1 ((eq1 32 32 (by decide) (by omega)).mp z)), if_neg (fun z => sg2.2.1 ((eq1 47 47 (by decide) (by omega)).mp z)), if_pos (fun z => sg2.2.2 ((eq1 61 61 (by decide) (by omega)).mp z))]
      obtain ⟨r, G1, g1, g2, g3, g4, g5⟩ := sc_item hok sg' (show p + 5 ≤ 200 by omega) h
      have hnv : nv (c :: (fL k).drop (i + 1)) = 1 + nv ((fL k).drop (i + 1)) := by
        show (if isSg c = true then 0 else 1) + nv ((fL k).drop (i + 1)) = _
        rw [if_neg sg]
      have hc3 : zden 58 26 [.ref 84, .int (nI o), .int (nI k), .ref (1000000 + (fmN (nI k))), .int (nI col), .int (nI i), v6] [] (zSH, G) = zden 58 26 [.ref 84, .int (nI o), .int (nI k), .ref (1000000 + (fmN (nI k))), .int (nI (col + 1)), .int (nI (i + 1)), .int (nI c)] [] (zSH, zup G1 86 (7 * o + col) r) := by
        rw [hc2, g1, zaft_same]
        refine Eq.trans B_Te_readOrder_93 ?_
        rw [B_Te_readOrder_99, nI_1, nI_1, ot_set (ho2.fr g3) rfl ho (by omega)]
      have g2' := g2.set (k := 7 * o + col) (x := r)
      cases hw : (rdI s c p).2.2 with
      | true =>
        rw [hw] at g2'
        rw [if_pos rfl]
        refine ⟨zup G1 86 (7 * o + col) r, hc3.trans (sc_form_wrong g2'), g2', g3.trans cFr.up86, fun t ht => by rw [zup_rk (by omega), g4], fun z => Bool.noConfusion (show true = false from z)⟩
      | false =>
        rw [hw] at g2'
        rw [if_neg (by decide), if_neg sg]
        obtain ⟨G', k1, k2, k3, k4, k5⟩ := ih (i + 1) (rdI s c p).2.1 (col + 1) (zup G1 86 (7 * o + col) r) (.int (nI c)) (by omega) (by omega) (by omega) g2' ((ho2.fr g3).fr cFr.up86)
        refine ⟨G', hc3.trans k1, k2, (g3.trans cFr.up86).trans k3, fun t ht => ?_, fun z t ht => ?_⟩
        · rw [k4 t (by omega), zup_rk (by omega), g4]
        · cases t with
          | zero =>
            rw [Nat.add_zero, k4 (7 * o + col) (by omega), zup_rr, g5 hw]
            rfl
          | succ t =>
            have := k5 z t (Nat.lt_of_succ_lt_succ ht)
            rw [show 7 * o + col + (t + 1) = 7 * o + (col + 1) + t by omega, this]
            rfl
theorem rdWF_lt {s : Nat → Nat} {p : Nat} : ∀ (d k f : Nat), k + d = 9 → (rdWF s p d k f).2.2 = false → (rdWF s p d k f).1 < 9 ∧ (rdWF s p d k f).2.1 = p + wl (rdWF s p d k f).1 := by
  intro d
  induction d with
  | zero => intro k f _ z; exact Bool.noConfusion (show true = false from z)
  | succ d ih =>
    intro k f h
    rw [rdWF_succ]
    by_cases c : al s p k = wl k
    · rw [if_pos c]
      intro _
      exact ⟨(show k < 9 by omega), (show p + al s p k = p + wl k by rw [c])⟩
    · rw [if_neg c]
      exact ih (k + 1) _ (by omega)
theorem wl_bd : ∀ k, k < 9 → 4 ≤ wl k ∧ wl k ≤ 7 := by decide +kernel
theorem sc_readOrder {m p o : Nat} {s : Nat → Nat} {G : Nat → Nat → Int32} (ho : o < 11) (hp : p ≤ 60) (h : cSt m s p false G) (hot : zOT G) :
    ∃ G' : Nat → Nat → Int32, zden 58 0 [.ref 84, .int (nI o), .retAddr 0, .retAddr 0, .retAddr 0, .retAddr 0, .retAddr 0] [] (zSH, G) = some (none, (zSH, G')) ∧ cSt m s (rdO s p).2.2.1 (rdO s p).2.2.2 G' ∧ cFr G G' ∧ (∀ t, t < 7 * o → G' 86 t = G 86 t) ∧
      ((rdO s p).2.2.2 = false → G' 86 (7 * o) = nI (rdO s p).1 ∧ ∀ t, t < (rdO s p).2.1.length → G' 86 (7 * o + 1 + t) = nI ((rdO s p).2.1.getD t 0)) := by
  obtain ⟨r, G1, g1, g2, g3, g4, g5, g6⟩ := sc_readWord (show p + 11 ≤ 200 by omega) h
  have hc : zden 58 0 [.ref 84, .int (nI o), .retAddr 0, .retAddr 0, .retAddr 0, .retAddr 0, .retAddr 0] [] (zSH, G) = zden 58 26 [.ref 84, .int (nI o), .int r, .ref (1000000 + (fmN r)), .int 1, .int 0, .retAddr 0] [] (zSH, zup G1 86 (7 * o + 0) r) := by
    rw [B_Te_readOrder_0, g1, zaft_same]
    refine Eq.trans B_Te_readOrder_4 ?_
    rw [ot_set (j := 0) (hot.fr g3) (by decide) ho (by omega)]
  have g2' := g2.set (k := 7 * o + 0) (x := r)
  unfold rdO
  cases hw : (rdW s p).2.2 with
  | true =>
    rw [hw] at g2'
    rw [if_pos rfl]
    exact ⟨_, hc.trans (sc_form_wrong g2'), g2', g3.trans cFr.up86, fun t ht => by rw [zup_rk (by omega), g4], fun z => Bool.noConfusion (show true = false from z)⟩
  | false =>
    rw [hw] at g2'
    rw [if_neg (by decide)]
    obtain ⟨w1, w2⟩ := rdWF_lt 9 0 0 (by omega) (show (rdWF s p 9 0 0).2.2 = false from hw)
    have w1 : (rdW s p).1 < 9 := w1
    have w2 : (rdW s p).2.1 = p + wl (rdW s p).1 := w2
    have wb := wl_bd _ w1
    obtain ⟨f1, f2, f3, f4, f5⟩ := form_ok _ w1
    have er := g5 hw
    subst er
    obtain ⟨G', k1, k2, k3, k4, k5⟩ := sc_form_loop (o := o) w1 ho (fL (rdW s p).1).length 0 (rdW s p).2.1 1 _ (.retAddr 0) (by omega) (by omega) (by rw [List.drop_zero]; omega) g2' ((hot.fr g3).fr cFr.up86)
    rw [List.drop_zero] at k2 k5
    refine ⟨G', hc.trans k1, k2, (g3.trans cFr.up86).trans k3, fun t ht => ?_, fun z => ⟨?_, k5 z⟩⟩
    · rw [k4 t (by omega), zup_rk (by omega), g4]
    · rw [k4 (7 * o) (by omega)]
      exact zup_rr
/-- all orders from p on: f more at most -/
def rdA (s : Nat → Nat) (m : Nat) : Nat → Nat → List (Nat × List Nat) × Nat × Bool
  | 0, p => ([], p, true)
  | f + 1, p => if (rdO s p).2.2.2 = true then ([], (rdO s p).2.2.1, true) else if m ≤ (rdO s p).2.2.1 then ([((rdO s p).1, (rdO s p).2.1)], (rdO s p).2.2.1, false) else if s (rdO s p).2.2.1 = 59 then (((rdO s p).1, (rdO s p).2.1) :: (rdA s m f ((rdO s p).2.2.1 + 1)).1, (rdA s m f ((rdO s p).2.2.1 + 1)).2) else ([], (rdO s p).2.2.1, true)
theorem rdA_succ {s : Nat → Nat} {m f p : Nat} : rdA s m (f + 1) p = if (rdO s p).2.2.2 = true then ([], (rdO s p).2.2.1, true) else if m ≤ (rdO s p).2.2.1 then ([((rdO s p).1, (rdO s p).2.1)], (rdO s p).2.2.1, false) else if s (rdO s p).2.2.1 = 59 then (((rdO s p).1, (rdO s p).2.1) :: (rdA s m f ((rdO s p).2.2.1 + 1)).1, (rdA s m f ((rdO s p).2.2.1 + 1)).2) else ([], (rdO s p).2.2.1, true) := rfl
/-- the orders L stand in the rows from o on -/
def zOrd (G : Nat → Nat → Int32) : Nat → List (Nat × List Nat) → Prop
  | _, [] => True
  | o, (k, vs) :: L => (G 86 (7 * o) = nI k ∧ ∀ t, t < vs.length → G 86 (7 * o + 1 + t) = nI (vs.getD t 0)) ∧ vs.length ≤ 6 ∧ zOrd G (o + 1) L
