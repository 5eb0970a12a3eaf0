-- 73: reading, as numbers; the class's letters, digits, words
def sTx (m : Nat) (s : Nat → Nat) : Prop := m ≤ 60 ∧ (∀ p, p < m → 32 ≤ s p ∧ s p ≤ 126) ∧ ∀ p, m ≤ p → s p = 0
theorem sTx.le {m : Nat} {s : Nat → Nat} (h : sTx m s) (p : Nat) : s p ≤ 126 := by
  by_cases c : p < m
  · exact (h.2.1 p c).2
  · rw [h.2.2 p (by omega)]; omega
/-- the place of a letter among those of text j; 9 for none -/
def ixN (j x : Nat) : Nat → Nat → Nat
  | 0, _ => 9
  | d + 1, i => if (zTB j).getD i 0 = nI x then i else ixN j x d (i + 1)
theorem ixN_succ {j x d i : Nat} : ixN j x (d + 1) i = if (zTB j).getD i 0 = nI x then i else ixN j x d (i + 1) := rfl
theorem ixN_or {j x : Nat} : ∀ (d i : Nat), i + d ≤ 5 → ixN j x d i = 9 ∨ (ixN j x d i < i + d) := by
  intro d
  induction d with
  | zero => intro i _; exact .inl rfl
  | succ d ih =>
    intro i h
    rw [ixN_succ]
    by_cases c : (zTB j).getD i 0 = nI x
    · rw [if_pos c]; exact .inr (by omega)
    · rw [if_neg c]
      rcases ih (i + 1) (by omega) with a | a
      · exact .inl a
      · exact .inr (by omega)
/-- d more digits at p: the number, the place behind, how many -/
def dgR (s : Nat → Nat) : Nat → Nat → Nat → Nat → Nat × Nat × Nat
  | 0, k, n, p => (n, p, k)
  | d + 1, k, n, p => if 48 ≤ s p ∧ s p ≤ 57 then dgR s d (k + 1) (n * 10 + (s p - 48)) (p + 1) else (n, p, k)
theorem dgR_succ {s : Nat → Nat} {d k n p : Nat} : dgR s (d + 1) k n p = if 48 ≤ s p ∧ s p ≤ 57 then dgR s d (k + 1) (n * 10 + (s p - 48)) (p + 1) else (n, p, k) := rfl
def rdL (s : Nat → Nat) (j p : Nat) : Nat × Nat × Bool := if ixN j (s p) (zTB j).length 0 < 9 then (ixN j (s p) (zTB j).length 0, p + 1, false) else (0, p, true)
def rdD (s : Nat → Nat) (d p : Nat) : Nat × Nat × Bool := ((dgR s d 0 0 p).1, (dgR s d 0 0 p).2.1, decide ((dgR s d 0 0 p).2.2 = 0))
def rdS (s : Nat → Nat) (c p : Nat) : Nat × Nat × Bool := if s p = c then (0, p + 1, false) else (0, p, true)
def isSg (c : Nat) : Bool := c == 32 || c == 47 || c == 61
/-- an item of a form -/
def rdI (s : Nat → Nat) (c p : Nat) : Nat × Nat × Bool := if isSg c = true then rdS s c p else if c = 97 then rdL s 1 p else if c = 102 then rdL s 0 p else if c = 103 then rdL s 2 p else rdD s (c - 48) p
def rdF (s : Nat → Nat) : List Nat → Nat → List Nat × Nat × Bool
  | [], p => ([], p, false)
  | c :: cs, p => if (rdI s c p).2.2 = true then ([], (rdI s c p).2.1, true) else ((if isSg c = true then (rdF s cs (rdI s c p).2.1).1 else (rdI s c p).1 :: (rdF s cs (rdI s c p).2.1).1), (rdF s cs (rdI s c p).2.1).2)
theorem rdF_cons {s : Nat → Nat} {c p : Nat} {cs : List Nat} : rdF s (c :: cs) p = if (rdI s c p).2.2 = true then ([], (rdI s c p).2.1, true) else ((if isSg c = true then (rdF s cs (rdI s c p).2.1).1 else (rdI s c p).1 :: (rdF s cs (rdI s c p).2.1).1), (rdF s cs (rdI s c p).2.1).2) := rfl
/-- how many signs of text j stand at p -/
def alk (j : Nat) (s : Nat → Nat) (p : Nat) : Nat → Nat → Nat
  | 0, i => i
  | d + 1, i => if (zTB j).getD i 0 = nI (s (p + i)) then alk j s p d (i + 1) else i
theorem alk_succ {j p d i : Nat} {s : Nat → Nat} : alk j s p (d + 1) i = if (zTB j).getD i 0 = nI (s (p + i)) then alk j s p d (i + 1) else i := rfl
theorem alk_bd {j p : Nat} {s : Nat → Nat} : ∀ (d i : Nat), i ≤ alk j s p d i ∧ alk j s p d i ≤ i + d := by
  intro d
  induction d with
  | zero => intro i; exact ⟨Nat.le_refl _, Nat.le_refl _⟩
  | succ d ih =>
    intro i
    rw [alk_succ]
    by_cases c : (zTB j).getD i 0 = nI (s (p + i))
    · rw [if_pos c]
      have := ih (i + 1)
      omega
    · rw [if_neg c]; omega
def al (s : Nat → Nat) (p w : Nat) : Nat := alk (3 + w) s p (zTB (3 + w)).length 0
def wl (w : Nat) : Nat := (zTB (3 + w)).length
def rdWF (s : Nat → Nat) (p : Nat) : Nat → Nat → Nat → Nat × Nat × Bool
  | 0, _, f => (0, p + f, true)
  | d + 1, k, f => if al s p k = wl k then (k, p + al s p k, false) else rdWF s p d (k + 1) (if f < al s p k then al s p k else f)
theorem rdWF_succ {s : Nat → Nat} {p d k f : Nat} : rdWF s p (d + 1) k f = if al s p k = wl k then (k, p + al s p k, false) else rdWF s p d (k + 1) (if f < al s p k then al s p k else f) := rfl
def rdW (s : Nat → Nat) (p : Nat) : Nat × Nat × Bool := rdWF s p 9 0 0
def fL (k : Nat) : List Nat := (zTB (fmN (nI k))).map (fun x => x.toNatClampNeg)
/-- an order: its kind, its numbers, the place behind, is it wrong -/
def rdO (s : Nat → Nat) (p : Nat) : Nat × List Nat × Nat × Bool := if (rdW s p).2.2 = true then ((rdW s p).1, [], (rdW s p).2.1, true) else ((rdW s p).1, rdF s (fL (rdW s p).1) (rdW s p).2.1)
/-- the class's text: where it reads, is it wrong -/
def cSt (m : Nat) (s : Nat → Nat) (p : Nat) (w : Bool) (G : Nat → Nat → Int32) : Prop := sTx m s ∧ p ≤ 200 ∧ G 84 1 = nI m ∧ G 84 3 = nI p ∧ G 84 4 = bB w ∧ ∀ j, j < m → G 87 j = nI (s j)
def cFr (G G' : Nat → Nat → Int32) : Prop := (∀ i, i ≠ 84 → i ≠ 86 → G' i = G i) ∧ ∀ j, j ≠ 3 → j ≠ 4 → G' 84 j = G 84 j
theorem cFr.trans {G G1 G2 : Nat → Nat → Int32} (h : cFr G G1) (h2 : cFr G1 G2) : cFr G G2 := ⟨fun i a b => (h2.1 i a b).trans (h.1 i a b), fun j a b => (h2.2 j a b).trans (h.2 j a b)⟩
theorem cFr.rfl' {G : Nat → Nat → Int32} : cFr G G := ⟨fun _ _ _ => rfl, fun _ _ _ => rfl⟩
theorem cSt.p {m p q : Nat} {s : Nat → Nat} {w : Bool} {G : Nat → Nat → Int32} (h : cSt m s p w G) (hq : q ≤ 200) : cSt m s q w (zup G 84 3 (nI q)) := by
  obtain ⟨h1, h2, h3, h4, h5, h6⟩ := h
  exact ⟨h1, hq, by rw [zup_rk (by decide)]; exact h3, zup_rr, by rw [zup_rk (by decide)]; exact h5, fun j hj => by rw [zup_ro (by decide)]; exact h6 j hj⟩
theorem cSt.w {m p : Nat} {s : Nat → Nat} {w w' : Bool} {G : Nat → Nat → Int32} (h : cSt m s p w G) : cSt m s p w' (zup G 84 4 (bB w')) := by
  obtain ⟨h1, h2, h3, h4, h5, h6⟩ := h
  exact ⟨h1, h2, by rw [zup_rk (by decide)]; exact h3, by rw [zup_rk (by decide)]; exact h4, zup_rr, fun j hj => by rw [zup_ro (by decide)]; exact h6 j hj⟩
theorem cFr.up3 {G : Nat → Nat → Int32} {x : Int32} : cFr G (zup G 84 3 x) := ⟨fun i a _ => zup_ro a, fun j a _ => zup_rk a⟩
theorem cFr.up4 {G : Nat → Nat → Int32} {x : Int32} : cFr G (zup G 84 4 x) := ⟨fun i a _ => zup_ro a, fun j _ a => zup_rk a⟩
theorem cSt.set {m p k : Nat} {s : Nat → Nat} {w : Bool} {x : Int32} {G : Nat → Nat → Int32} (h : cSt m s p w G) : cSt m s p w (zup G 86 k x) := by
  obtain ⟨h1, h2, h3, h4, h5, h6⟩ := h
  exact ⟨h1, h2, by rw [zup_ro (by decide)]; exact h3, by rw [zup_ro (by decide)]; exact h4, by rw [zup_ro (by decide)]; exact h5, fun j hj => by rw [zup_ro (by decide)]; exact h6 j hj⟩
theorem cFr.up86 {G : Nat → Nat → Int32} {k : Nat} {x : Int32} : cFr G (zup G 86 k x) := ⟨fun i _ b => zup_ro b, fun j _ _ => by rw [zup_ro (by decide)]⟩
theorem znr_ch {k : Nat} (h : k < 65536) : znr .char (nI k) = true := decide_eq_true (pk_charN h).1
theorem sc_signAt {m p q : Nat} {s : Nat → Nat} {w : Bool} {G : Nat → Nat → Int32} (h : cSt m s p w G) (hq : q < 2 ^ 31) : zden 62 0 [.ref 84, .int (nI q)] [] (zSH, G) = some (some (.int (nI (s q))), (zSH, G)) := by
  obtain ⟨h1, h2, h3, h4, h5, h6⟩ := h
  have hm := h1.1
  by_cases c : q < m
  · have e := h6 q c
    have hs := h1.2.1 q c
    rw [C_Te_signAt_0 (fun _ _ _ => zin_nI (by omega) (by decide)) (fun _ _ _ => by rw [nI_clamp hq, e]; exact znr_ch (by omega)), if_neg (nI_pos hq), if_neg (by rw [h3]; exact nI_ge c (by omega)), if_neg (by rw [show (60 : Int32) = nI 60 by decide]; exact nI_ge (by omega) (by decide)), nI_clamp hq, e]
  · have hb : G 84 1 ≤ nI q := by rw [h3]; exact nI_le (by omega) hq
    rw [C_Te_signAt_0 (fun _ z => absurd hb z) (fun _ z => absurd hb z), if_neg (nI_pos hq), if_pos hb, h1.2.2 q (by omega)]
    rfl
/-- a sign is read -/
theorem sc_readSign {m p c : Nat} {s : Nat → Nat} {G : Nat → Nat → Int32} (h : cSt m s p false G) (hc : c < 2 ^ 31) (hp : p + 1 ≤ 200) :
    ∃ G' : Nat → Nat → Int32, zden 64 0 [.ref 84, .int (nI c)] [] (zSH, G) = some (none, (zSH, G')) ∧ cSt m s (rdS s c p).2.1 (rdS s c p).2.2 G' ∧ cFr G G' ∧ G' 86 = G 86 := by
  have hh := h
  obtain ⟨h1, h2, h3, h4, h5, h6⟩ := h
  have hs := h1.le p
  have e : zden 64 0 [.ref 84, .int (nI c)] [] (zSH, G) = zden 64 16 [.ref 84, .int (nI c)] [.int (nI (s p))] (zSH, G) := by
    rw [B_Te_readSign_0, if_pos (by rw [h5]; rfl), h4, sc_signAt hh (by omega), zaft_same]; rfl
  by_cases q : s p = c
  · refine ⟨zup G 84 3 (nI (p + 1)), ?_, ?_, cFr.up3, zup_ro (by decide)⟩
    · rw [e, B_Te_readSign_16, if_neg (fun z => z (by rw [q])), h4, nI_1]
    · unfold rdS
      rw [if_pos q]
      exact hh.p hp
  · refine ⟨zup G 84 4 (bB true), ?_, ?_, cFr.up4, zup_ro (by decide)⟩
    · rw [e, B_Te_readSign_16, if_pos (by rw [nI_eq (by omega) hc]; exact q)]; rfl
    · unfold rdS
      rw [if_neg q]
      exact hh.w
theorem dgR_bd {s : Nat → Nat} : ∀ (d k n p : Nat), p ≤ (dgR s d k n p).2.1 ∧ (dgR s d k n p).2.1 ≤ p + d ∧ k ≤ (dgR s d k n p).2.2 ∧ (dgR s d k n p).1 + 1 ≤ (n + 1) * 10 ^ d := by
  intro d
  induction d with
  | zero => intro k n p; exact ⟨Nat.le_refl _, Nat.le_refl _, Nat.le_refl _, by show n + 1 ≤ (n + 1) * 10 ^ 0; omega⟩
  | succ d ih =>
    intro k n p
    rw [dgR_succ]
    have e10 : (n + 1) * 10 ^ (d + 1) = ((n + 1) * 10) * 10 ^ d := by rw [Nat.pow_succ, Nat.mul_assoc, Nat.mul_comm (10 ^ d) 10]
    by_cases c : 48 ≤ s p ∧ s p ≤ 57
    · rw [if_pos c]
      have := ih (k + 1) (n * 10 + (s p - 48)) (p + 1)
      have l : (n * 10 + (s p - 48) + 1) * 10 ^ d ≤ ((n + 1) * 10) * 10 ^ d := Nat.mul_le_mul_right _ (by omega)
      rw [e10]
      omega
    · rw [if_neg c, e10]
      have l : (n + 1) * 1 ≤ ((n + 1) * 10) * 10 ^ d := Nat.mul_le_mul (by omega) (Nat.pos_of_ne_zero (by have := Nat.pow_pos (n := d) (show 0 < 10 by decide); omega))
      show p ≤ p ∧ p ≤ p + (d + 1) ∧ k ≤ k ∧ n + 1 ≤ _
      omega
theorem sc_digits_loop {m most : Nat} {s : Nat → Nat} (hmo : most ≤ 4) (h0 : 0 < most) : ∀ (d k n p : Nat) (G : Nat → Nat → Int32) (v4 : Value), k + d = most → p + d ≤ 200 → n + 1 ≤ 10 ^ k → cSt m s p false G →
    ∃ G' : Nat → Nat → Int32, zden 67 4 [.ref 84, .int (nI most), .int (nI n), .int (nI k), v4] [] (zSH, G) = some (some (.int (nI (dgR s d k n p).1)), (zSH, G')) ∧ cSt m s (dgR s d k n p).2.1 (decide ((dgR s d k n p).2.2 = 0)) G' ∧ cFr G G' ∧ G' 86 = G 86 := by
  intro d
  induction d with
  | zero =>
    intro k n p G v4 h hp hn hc
    have h : k = most := by omega
    subst h
    refine ⟨G, by rw [B_Te_readDigits_4, if_pos (Int32.le_refl _)]; rfl, ?_, cFr.rfl', rfl⟩
    have e : decide ((dgR s 0 k n p).2.2 = 0) = false := decide_eq_false (by show ¬ k = 0; omega)
    rw [e]
    exact hc
  | succ d ih =>
    intro k n p G v4 h hp hn hc
    have hs := hc.1.le p
    have h4 := hc.2.2.2.1
    have hn4 : n + 1 ≤ 10 ^ 3 := Nat.le_trans hn (Nat.pow_le_pow_right (by decide) (by omega))
    have e : zden 67 4 [.ref 84, .int (nI most), .int (nI n), .int (nI k), v4] [] (zSH, G) = zden 67 17 [.ref 84, .int (nI most), .int (nI n), .int (nI k), v4] [.int (nI (s p))] (zSH, G) := by
      rw [B_Te_readDigits_4, if_neg (nI_ge (by omega) (by omega)), h4, sc_signAt hc (by omega), zaft_same]; rfl
    have l57 : (57 : Int32) = nI 57 := by decide
    rw [dgR_succ]
    by_cases c : 48 ≤ s p ∧ s p ≤ 57
    · rw [if_pos c]
      have hn' : n * 10 + (s p - 48) + 1 ≤ 10 ^ (k + 1) := by rw [Nat.pow_succ]; omega
      obtain ⟨G', g1, g2, g3, g4⟩ := ih (k + 1) (n * 10 + (s p - 48)) (p + 1) (zup G 84 3 (nI (p + 1))) (.int (nI (s p))) (by omega) (by omega) hn' (hc.p (by omega))
      refine ⟨G', ?_, g2, cFr.up3.trans g3, g4.trans (zup_ro (by decide))⟩
      rw [e, B_Te_readDigits_17, if_neg (by rw [nIlit_48]; exact nI_nlt c.1 (by omega)), if_pos (by rw [l57]; exact nI_le c.2 (by decide)), h4, nI_1, nI_1, nIlit_10, pk_mul, nIlit_48, pk_sub c.1, nI_add]
      exact g1
    · rw [if_neg c]
      have e2 : zden 67 17 [.ref 84, .int (nI most), .int (nI n), .int (nI k), v4] [.int (nI (s p))] (zSH, G) = zden 67 33 [.ref 84, .int (nI most), .int (nI n), .int (nI k), .int (nI (s p))] [] (zSH, G) := by
        rw [B_Te_readDigits_17]
        by_cases a : s p < 48
        · rw [if_pos (by rw [nIlit_48]; exact nI_lt a (by decide))]
        · rw [if_neg (by rw [nIlit_48]; exact nI_nlt (by omega) (by omega)), if_neg (by rw [l57]; exact nI_ge (by omega) (by omega))]
      refine ⟨zup G 84 4 (bB (decide (k = 0))), ?_, hc.w, cFr.up4, zup_ro (by decide)⟩
      rw [e, e2, B_Te_readDigits_33]
      by_cases a : k = 0
      · rw [if_neg (fun z => z (by rw [a]; rfl)), B_Te_readDigits_43 (by decide), decide_eq_true a]; rfl
      · rw [if_pos (nI_ne0 (by omega) (by omega)), B_Te_readDigits_43 (by decide), decide_eq_false a]; rfl
theorem sc_readDigits {m p most : Nat} {s : Nat → Nat} {G : Nat → Nat → Int32} (hmo : most ≤ 4) (h0 : 0 < most) (hp : p + 4 ≤ 200) (h : cSt m s p false G) :
    ∃ G' : Nat → Nat → Int32, zden 67 0 [.ref 84, .int (nI most), .retAddr 0, .retAddr 0, .retAddr 0] [] (zSH, G) = some (some (.int (nI (rdD s most p).1)), (zSH, G')) ∧ cSt m s (rdD s most p).2.1 (rdD s most p).2.2 G' ∧ cFr G G' ∧ G' 86 = G 86 := by
  obtain ⟨G', g1, g2, g3, g4⟩ := sc_digits_loop hmo h0 most 0 0 p G (.retAddr 0) (by omega) (by omega) (by decide) h
  exact ⟨G', by rw [B_Te_readDigits_0]; exact g1, g2, g3, g4⟩
theorem i8_ok : ∀ x, x < 128 → (nI x).toInt8.toInt32 = nI x := by decide +kernel
theorem zcan_ok {x : Nat} (h : x < 128) : ¬ zcan (nI x) = 0 := by
  unfold zcan
  rw [if_neg (nI_pos (by omega)), if_neg (by rw [show (255 : Int32) = nI 255 by decide]; exact nI_nlt (by omega) (by decide))]
  decide
theorem ss_ixc {G : Nat → Nat → Int32} {j x : Nat} {v : Int32} (hj : j < 18) (hx : x < 128) (hl : (zTB j).length ≤ 5) : ∀ (d i : Nat), i + d = (zTB j).length →
    zden 193 7 [.ref (1001000 + j), .int v, .int 0, .int (nI (zTB j).length), .int (nI x), .int (nI i)] [] (zSH, G) = some (some (.int (if ixN j x d i < 9 then nI (ixN j x d i) else -1)), (zSH, G)) := by
  intro d
  induction d with
  | zero =>
    intro i h
    have h : i = (zTB j).length := by omega
    subst h
    have hb : nI (zTB j).length ≤ nI (zTB j).length := Int32.le_refl _
    rw [B_S1_indexOfChar_7 hj (fun z => absurd hb z), if_pos hb]
    rfl
  | succ d ih =>
    intro i h
    rw [B_S1_indexOfChar_7 hj (fun _ => zin_nI (by omega) (by omega)), if_neg (nI_ge (by omega) (by omega)), zch_nI (by omega), ixN_succ]
    by_cases c : (zTB j).getD i 0 = nI x
    · rw [if_neg (fun z => z c), if_pos c, if_pos (by omega)]
    · rw [if_pos c, if_neg c, nI_1]
      exact ih (i + 1) (by omega)
theorem ss_indexOf {G : Nat → Nat → Int32} {j x : Nat} (hj : j < 18) (hx : x < 128) (hl : (zTB j).length ≤ 5) : zden 188 0 [.ref (1000000 + j), .int (nI x)] [] (zSH, G) = some (some (.int (if ixN j x (zTB j).length 0 < 9 then nI (ixN j x (zTB j).length 0) else -1)), (zSH, G)) := by
  have h0 := zTB_len j hj
  have m0 : (if (0 : Int32) < 0 then 0 else 0) = (0 : Int32) := rfl
  have m1 : (if nI (zTB j).length < nI (zTB j).length then nI (zTB j).length else nI (zTB j).length) = nI (zTB j).length := if_neg Int32.lt_irrefl
  rw [B_St_indexOf_0 hj, B_St_indexOf2_0 hj, B_S1_indexOf_0 hj, if_pos (zcan_ok hx), m0, m1, if_pos (show (0 : Int32) < nI (zTB j).length from nI_lt (a := 0) (by omega) (by omega)), B_S1_indexOfChar_0 hj, i8_ok x hx]
  rw [show zden 193 7 [.ref (1001000 + j), .int (nI x), .int 0, .int (nI (zTB j).length), .int (nI x), .int 0] [] (zSH, G) = _ from ss_ixc hj hx hl (zTB j).length 0 (by omega), zaft_same]
  rw [show zden 191 36 [.ref (1001000 + j), .int (nI x), .int 0, .int (nI (zTB j).length)] ((some (Value.int (if ixN j x (zTB j).length 0 < 9 then nI (ixN j x (zTB j).length 0) else -1))).toList ++ []) (zSH, G) = _ from B_S1_indexOf_36 hj, zaft_same]
  rw [show zden 189 20 [.ref (1000000 + j), .int (nI x), .int 0] ((some (Value.int (if ixN j x (zTB j).length 0 < 9 then nI (ixN j x (zTB j).length 0) else -1))).toList ++ []) (zSH, G) = _ from B_St_indexOf2_20 hj, zaft_same]
  exact B_St_indexOf_6 hj
theorem sc_readLetter {m p j : Nat} {s : Nat → Nat} {G : Nat → Nat → Int32} (hj : j < 3) (hp : p + 1 ≤ 200) (h : cSt m s p false G) :
    ∃ (r : Int32) (G' : Nat → Nat → Int32), zden 66 0 [.ref 84, .ref (1000000 + j), .retAddr 0] [] (zSH, G) = some (some (.int r), (zSH, G')) ∧ cSt m s (rdL s j p).2.1 (rdL s j p).2.2 G' ∧ cFr G G' ∧ G' 86 = G 86 ∧ ((rdL s j p).2.2 = false → r = nI (rdL s j p).1) := by
  have hl : (zTB j).length ≤ 5 := by
    rcases (show j = 0 ∨ j = 1 ∨ j = 2 by omega) with rfl | rfl | rfl <;> decide
  have hs := h.1.le p
  have h4 := h.2.2.2.1
  have e : zden 66 0 [.ref 84, .ref (1000000 + j), .retAddr 0] [] (zSH, G) = zden 66 12 [.ref 84, .ref (1000000 + j), .retAddr 0] [.int (if ixN j (s p) (zTB j).length 0 < 9 then nI (ixN j (s p) (zTB j).length 0) else -1)] (zSH, G) := by
    rw [B_Te_readLetter_0 (by omega), h4, sc_signAt h (by omega), zaft_same]
    refine Eq.trans (B_Te_readLetter_9 (by omega)) ?_
    rw [ss_indexOf (by omega) (by omega) hl, zaft_same]
    rfl
  unfold rdL
  by_cases c : ixN j (s p) (zTB j).length 0 < 9
  · rw [if_pos c]
    rw [if_pos c] at e
    refine ⟨nI (ixN j (s p) (zTB j).length 0), zup G 84 3 (nI (p + 1)), ?_, h.p hp, cFr.up3, zup_ro (by decide), fun _ => rfl⟩
    rw [e, B_Te_readLetter_12 (by omega), if_pos (nI_pos' (by omega)), h4, nI_1]
  · rw [if_neg c]
    rw [if_neg c] at e
    refine ⟨-1, zup G 84 4 (bB true), ?_, h.w, cFr.up4, zup_ro (by decide), fun z => by cases z⟩
    rw [e, B_Te_readLetter_12 (by omega), if_neg nlow]
    rfl
theorem sc_alike_loop {m p j : Nat} {s : Nat → Nat} {G : Nat → Nat → Int32} (hj : j < 18) (hp : p + 11 ≤ 200) (h : cSt m s p false G) : ∀ (d i : Nat), i + d = (zTB j).length →
    zden 61 2 [.ref 84, .ref (1000000 + j), .int (nI i)] [] (zSH, G) = some (some (.int (nI (alk j s p d i))), (zSH, G)) := by
  have hl := zTB_len j hj
  have h4 := h.2.2.2.1
  intro d
  induction d with
  | zero =>
    intro i hi
    have hi : i = (zTB j).length := by omega
    subst hi
    have hb : nI (zTB j).length ≤ nI (zTB j).length := Int32.le_refl _
    rw [B_Te_countAlike_2 hj (fun z => absurd hb z), if_pos hb]
    rfl
  | succ d ih =>
    intro i hi
    have hs := h.1.le (p + i)
    rw [B_Te_countAlike_2 hj (fun _ => zin_nI (by omega) (by omega)), if_neg (nI_ge (by omega) (by omega)), h4, nI_add, sc_signAt h (by omega), zaft_same]
    refine Eq.trans (B_Te_countAlike_25 hj) ?_
    rw [zch_nI (by omega), alk_succ]
    by_cases c : (zTB j).getD i 0 = nI (s (p + i))
    · rw [if_neg (fun z => z c), if_pos c, nI_1]
      exact ih (i + 1) (by omega)
    · rw [if_pos c, if_neg c]
theorem wd_ok {w : Nat} (h : w < 9) : wdN (nI w) = 3 + w := by
  rcases (show w = 0 ∨ w = 1 ∨ w = 2 ∨ w = 3 ∨ w = 4 ∨ w = 5 ∨ w = 6 ∨ w = 7 ∨ w = 8 by omega) with rfl | rfl | rfl | rfl | rfl | rfl | rfl | rfl | rfl <;> rfl
theorem sc_word_loop {m p : Nat} {s : Nat → Nat} {G : Nat → Nat → Int32} (hp : p + 11 ≤ 200) (h : cSt m s p false G) : ∀ (d k f : Nat) (v3 v4 : Value), k + d = 9 → f ≤ 11 →
    ∃ (r : Int32) (G' : Nat → Nat → Int32), zden 59 4 [.ref 84, .int (nI f), .int (nI k), v3, v4] [] (zSH, G) = some (some (.int r), (zSH, G')) ∧ cSt m s (rdWF s p d k f).2.1 (rdWF s p d k f).2.2 G' ∧ cFr G G' ∧ G' 86 = G 86 ∧ ((rdWF s p d k f).2.2 = false → r = nI (rdWF s p d k f).1) ∧ ((rdWF s p d k f).2.2 = true → r = -1) := by
  have h4 := h.2.2.2.1
  intro d
  induction d with
  | zero =>
    intro k f v3 v4 hk hf
    have hk : k = 9 := by omega
    subst hk
    refine ⟨-1, zup (zup G 84 3 (nI (p + f))) 84 4 (bB true), ?_, (h.p (show p + f ≤ 200 by omega)).w, cFr.up3.trans cFr.up4, by rw [zup_ro (by decide), zup_ro (by decide)], fun z => Bool.noConfusion (show true = false from z), fun _ => rfl⟩
    rw [B_Te_readWord_4, if_pos (by decide), h4, nI_add]
    rfl
  | succ d ih =>
    intro k f v3 v4 hk hf
    have hb := alk_bd (j := 3 + k) (p := p) (s := s) (zTB (3 + k)).length 0
    have hl := zTB_len (3 + k) (by omega)
    have e : zden 59 4 [.ref 84, .int (nI f), .int (nI k), v3, v4] [] (zSH, G) = zden 59 20 [.ref 84, .int (nI f), .int (nI k), .ref (1000000 + (wdN (nI k))), v4] [.int (nI (al s p k))] (zSH, G) := by
      rw [B_Te_readWord_4, if_neg (by rw [nIlit_9]; exact nI_ge (by omega) (by decide)), B_Te_countAlike_0 (wdN_lt _), wd_ok (by omega)]
      rw [show zden 61 2 [.ref 84, .ref (1000000 + (3 + k)), .int 0] [] (zSH, G) = _ from sc_alike_loop (by omega) hp h (zTB (3 + k)).length 0 (by omega), zaft_same]
      rfl
    rw [rdWF_succ]
    have hal : al s p k ≤ 11 := by unfold al; omega
    by_cases c : al s p k = wl k
    · rw [if_pos c]
      refine ⟨nI k, zup G 84 3 (nI (p + al s p k)), ?_, h.p (show p + al s p k ≤ 200 by omega), cFr.up3, zup_ro (by decide), fun _ => rfl, fun z => Bool.noConfusion (show false = true from z)⟩
      rw [e, B_Te_readWord_20, wd_ok (by omega), if_neg (fun z => z (by rw [c]; rfl)), h4, nI_add]
    · rw [if_neg c]
      obtain ⟨r, G', g1, g2⟩ := ih (k + 1) (if f < al s p k then al s p k else f) (.ref (1000000 + (wdN (nI k)))) (.int (nI (al s p k))) (by omega) (by split <;> omega)
      refine ⟨r, G', ?_, g2⟩
      have hne : ¬ nI (al s p k) = nI (zTB (wdN (nI k))).length := by
        rw [wd_ok (by omega), nI_eq (by omega) (by omega)]
        exact c
      have em : (if nI f < nI (al s p k) then nI (al s p k) else nI f) = nI (if f < al s p k then al s p k else f) := by
        by_cases q : f < al s p k
        · rw [if_pos (nI_lt q (by omega)), if_pos q]
        · rw [if_neg (nI_nlt (by omega) (by omega)), if_neg q]
      rw [e, B_Te_readWord_20, if_pos hne, em, nI_1]
      exact g1
theorem sc_readWord {m p : Nat} {s : Nat → Nat} {G : Nat → Nat → Int32} (hp : p + 11 ≤ 200) (h : cSt m s p false G) :
    ∃ (r : Int32) (G' : Nat → Nat → Int32), zden 59 0 [.ref 84, .retAddr 0, .retAddr 0, .retAddr 0, .retAddr 0] [] (zSH, G) = some (some (.int r), (zSH, G')) ∧ cSt m s (rdW s p).2.1 (rdW s p).2.2 G' ∧ cFr G G' ∧ G' 86 = G 86 ∧ ((rdW s p).2.2 = false → r = nI (rdW s p).1) ∧ ((rdW s p).2.2 = true → r = -1) := by
  obtain ⟨r, G', g1, g2⟩ := sc_word_loop hp h 9 0 0 (.retAddr 0) (.retAddr 0) (by omega) (by omega)
  exact ⟨r, G', by rw [B_Te_readWord_0]; exact g1, g2⟩
