-- 75: the class reads the text
theorem rdF_len {s : Nat → Nat} : ∀ (cs : List Nat) (p : Nat), (rdF s cs p).1.length ≤ nv cs := by
  intro cs
  induction cs with
  | nil => intro p; exact Nat.le_refl _
  | cons c cs ih =>
    intro p
    rw [rdF_cons]
    have hn : nv (c :: cs) = (if isSg c = true then 0 else 1) + nv cs := rfl
    rw [hn]
    have := ih (rdI s c p).2.1
    by_cases a : (rdI s c p).2.2 = true
    · rw [if_pos a]; exact Nat.zero_le _
    · rw [if_neg a]
      by_cases b : isSg c = true
      · rw [if_pos b, if_pos b]
        show (rdF s cs (rdI s c p).2.1).1.length ≤ 0 + nv cs
        omega
      · rw [if_neg b, if_neg b]
        show (rdF s cs (rdI s c p).2.1).1.length + 1 ≤ 1 + nv cs
        omega
theorem rdO_ok {s : Nat → Nat} {p : Nat} (h : (rdO s p).2.2.2 = false) : (rdW s p).2.2 = false ∧ rdO s p = ((rdW s p).1, rdF s (fL (rdW s p).1) (rdW s p).2.1) ∧ (rdW s p).1 < 9 ∧ (rdW s p).2.1 = p + wl (rdW s p).1 := by
  unfold rdO at h ⊢
  cases hw : (rdW s p).2.2 with
  | true =>
    rw [hw, if_pos rfl] at h
    exact Bool.noConfusion (show true = false from h)
  | false =>
    rw [if_neg (by decide)]
    obtain ⟨w1, w2⟩ := rdWF_lt 9 0 0 (by omega) (show (rdWF s p 9 0 0).2.2 = false from hw)
    exact ⟨rfl, rfl, w1, w2⟩
theorem rdO_len {s : Nat → Nat} {p : Nat} (h : (rdO s p).2.2.2 = false) : (rdO s p).2.1.length ≤ 6 ∧ (rdO s p).1 < 9 := by
  obtain ⟨_, e, w1, _⟩ := rdO_ok h
  rw [e]
  exact ⟨Nat.le_trans (rdF_len (s := s) (fL (rdW s p).1) (rdW s p).2.1) (form_ok _ w1).2.1, w1⟩
theorem sc_readSign_w {m p : Nat} {x : Int32} {s : Nat → Nat} {G : Nat → Nat → Int32} (h : cSt m s p true G) : zden 64 0 [.ref 84, .int x] [] (zSH, G) = some (none, (zSH, G)) := by
  rw [B_Te_readSign_0, if_neg (by rw [h.2.2.2.2.1]; decide)]
theorem sc_read_loop {m : Nat} {s : Nat → Nat} : ∀ (f o p : Nat) (G : Nat → Nat → Int32), o + f = 11 → p ≤ m → cSt m s p false G → zOT G →
    ∃ (r : Int32) (G' : Nat → Nat → Int32), zden 57 12 [.ref 84, .int (nI o)] [] (zSH, G) = some (some (.int r), (zSH, G')) ∧ cFr G G' ∧ (∀ t, t < 7 * o → G' 86 t = G 86 t) ∧
      ((rdA s m f p).2.2 = true → r = -1000 - nI (rdA s m f p).2.1) ∧ ((rdA s m f p).2.2 = false → r = nI (o + (rdA s m f p).1.length) ∧ zOrd G' o (rdA s m f p).1) := by
  intro f
  induction f with
  | zero =>
    intro o p G h hp hs hot
    have h : o = 11 := by omega
    subst h
    refine ⟨-1000 - nI p, G, ?_, cFr.rfl', fun _ _ => rfl, fun _ => rfl, fun z => Bool.noConfusion (show true = false from z)⟩
    rw [B_Te_read_12, if_pos (by decide), hs.2.2.2.1]
  | succ f ih =>
    intro o p G h hp hs hot
    have hm := hs.1.1
    obtain ⟨G1, g1, g2, g3, g4, g5⟩ := sc_readOrder (o := o) (by omega) (by omega) hs hot
    have hc : zden 57 12 [.ref 84, .int (nI o)] [] (zSH, G) = zden 57 23 [.ref 84, .int (nI o)] [] (zSH, G1) := by
      rw [B_Te_read_12, if_neg (by rw [show (11 : Int32) = nI 11 by decide]; exact nI_ge (by omega) (by decide)), g1, zaft_same]
      rfl
    rw [rdA_succ]
    generalize hq : (rdO s p).2.2.1 = q at g2
    cases hw : (rdO s p).2.2.2 with
    | true =>
      rw [hw] at g2
      rw [if_pos rfl]
      have h4 : ¬ G1 84 4 = 0 := by rw [g2.2.2.2.2.1]; decide
      refine ⟨-1000 - nI q, G1, ?_, g3, g4, fun _ => rfl, fun z => Bool.noConfusion (show true = false from z)⟩
      rw [hc, B_Te_read_23, if_pos h4, B_Te_read_45, sc_readSign_w g2, zaft_same]
      refine Eq.trans B_Te_read_51 ?_
      rw [if_neg h4, g2.2.2.2.1]
    | false =>
      rw [hw] at g2
      rw [if_neg (by decide)]
      obtain ⟨l1, l2⟩ := rdO_len hw
      obtain ⟨a1, a2⟩ := g5 hw
      have h4 : ¬ ¬ G1 84 4 = 0 := fun z => z (by rw [g2.2.2.2.2.1]; rfl)
      have q200 := g2.2.1
      have h1 := g2.2.2.1
      have h3 := g2.2.2.2.1
      by_cases c : m ≤ q
      · rw [if_pos c]
        refine ⟨nI (o + 1), G1, ?_, g3, g4, fun z => Bool.noConfusion (show false = true from z), fun _ => ⟨rfl, ⟨a1, a2⟩, l1, trivial⟩⟩
        rw [hc, B_Te_read_23, if_neg h4, if_neg (by rw [h1, h3]; exact nI_nlt c (by omega)), nI_1]
      · rw [if_neg c]
        obtain ⟨G2, k1, k2, k3, k4⟩ := sc_readSign (c := 59) g2 (by decide) (show q + 1 ≤ 200 by omega)
        have hc2 : zden 57 12 [.ref 84, .int (nI o)] [] (zSH, G) = zden 57 51 [.ref 84, .int (nI o)] [] (zSH, G2) := by
          rw [hc, B_Te_read_23, if_neg h4, if_pos (by rw [h1, h3]; exact nI_lt (by omega) (by omega)), B_Te_read_45]
          rw [show zden 64 0 [.ref 84, .int 59] [] (zSH, G1) = _ from k1, zaft_same]
          rfl
        by_cases e : s q = 59
        · rw [if_pos e]
          have er : rdS s 59 q = (0, q + 1, false) := by unfold rdS; rw [if_pos e]
          rw [er] at k2
          obtain ⟨r, G', j1, j2, j3, j4, j5⟩ := ih (o + 1) (q + 1) G2 (by omega) (by omega) k2 ((hot.fr g3).fr k3)
          refine ⟨r, G', ?_, (g3.trans k3).trans j2, fun t ht => by rw [j3 t (by omega), k4, g4 t ht], j4, fun z => ?_⟩
          · rw [hc2, B_Te_read_51, if_pos (by rw [k2.2.2.2.2.1]; rfl), nI_1]
            exact j1
          · obtain ⟨j6, j7⟩ := j5 z
            refine ⟨?_, ⟨?_, fun t ht => ?_⟩, l1, j7⟩
            · rw [j6]
              show nI (o + 1 + (rdA s m f (q + 1)).1.length) = nI (o + ((rdA s m f (q + 1)).1.length + 1))
              rw [show o + 1 + (rdA s m f (q + 1)).1.length = o + ((rdA s m f (q + 1)).1.length + 1) by omega]
            · rw [j3 (7 * o) (by omega), k4]; exact a1
            · rw [j3 (7 * o + 1 + t) (by omega), k4]; exact a2 t ht
        · rw [if_neg e]
          have er : rdS s 59 q = (0, q, true) := by unfold rdS; rw [if_neg e]
          rw [er] at k2
          refine ⟨-1000 - nI q, G2, ?_, g3.trans k3, fun t ht => by rw [k4, g4 t ht], fun _ => rfl, fun z => Bool.noConfusion (show true = false from z)⟩
          rw [hc2, B_Te_read_51, if_neg (by rw [k2.2.2.2.2.1]; exact (by decide : ¬ bB true = 0)), k2.2.2.2.1]
theorem sc_read {m : Nat} {s : Nat → Nat} {G : Nat → Nat → Int32} (hs : sTx m s) (h1 : G 84 1 = nI m) (hj : ∀ j, j < m → G 87 j = nI (s j)) (hot : zOT G) :
    ∃ (r : Int32) (G' : Nat → Nat → Int32), zden 57 0 [.ref 84, .retAddr 0] [] (zSH, G) = some (some (.int r), (zSH, G')) ∧ cFr G G' ∧
      ((rdA s m 11 0).2.2 = true → r = -1000 - nI (rdA s m 11 0).2.1) ∧ ((rdA s m 11 0).2.2 = false → r = nI (rdA s m 11 0).1.length ∧ zOrd G' 0 (rdA s m 11 0).1) := by
  have hc : cSt m s 0 false (zup (zup G 84 3 0) 84 4 0) := ⟨hs, by omega, by rw [zup_rk (by decide), zup_rk (by decide)]; exact h1, by rw [zup_rk (by decide), zup_rr]; rfl, by rw [zup_rr]; rfl, fun j jm => by rw [zup_ro (by decide), zup_ro (by decide)]; exact hj j jm⟩
  obtain ⟨r, G', g1, g2, _, g4, g5⟩ := sc_read_loop 11 0 0 _ (by omega) (by omega) hc (by unfold zOT; rw [zup_ro (by decide), zup_ro (by decide)]; exact hot)
  refine ⟨r, G', ?_, (cFr.up3.trans cFr.up4).trans g2, g4, fun z => ?_⟩
  · rw [B_Te_read_0]; exact g1
  · have := g5 z
    rw [Nat.zero_add] at this
    exact this
