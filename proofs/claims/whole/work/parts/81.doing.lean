-- 81: the orders carried out, in both
/-- what a run of orders leaves alone -/
def ruFr (G G' H H' : Nat → Nat → Int32) : Prop := (∀ i, i ≠ 1 → i ≠ 2 → i ≠ 4 → i ≠ 6 → i ≠ 8 → G' i = G i) ∧ (∀ i, i ≠ 90 → i ≠ 91 → i ≠ 97 → H' i = H i) ∧ ∀ j, j ≠ 0 → j ≠ 2 → j ≠ 3 → j ≠ 18 → j ≠ 20 → H' 90 j = H 90 j
theorem ruFr.trans {G G1 G2 H H1 H2 : Nat → Nat → Int32} (h : ruFr G G1 H H1) (h2 : ruFr G1 G2 H1 H2) : ruFr G G2 H H2 :=
  ⟨fun i a b c d e => (h2.1 i a b c d e).trans (h.1 i a b c d e), fun i a b c => (h2.2.1 i a b c).trans (h.2.1 i a b c), fun j a b c d e => (h2.2.2 j a b c d e).trans (h.2.2 j a b c d e)⟩
theorem ruFr.m {G H H' : Nat → Nat → Int32} (h : mFr H H') : ruFr G G H H' := ⟨fun _ _ _ _ _ _ => rfl, fun i a _ c => h.1 i a c, fun j _ _ _ d e => h.2 j d e⟩
theorem ruFr.o {G G' H H' : Nat → Nat → Int32} (h : opFr G G' H H') : ruFr G G' H H' := ⟨h.1, fun i a b _ => h.2.1 i a b, fun j a b c _ _ => h.2.2 j a b c⟩
theorem zWT.ru {G G' H H' : Nat → Nat → Int32} (w : zWT G) (h : ruFr G G' H H') : zWT G' := by
  unfold zWT at w ⊢
  rw [h.1 3 (by decide) (by decide) (by decide) (by decide) (by decide), h.1 5 (by decide) (by decide) (by decide) (by decide) (by decide), h.1 7 (by decide) (by decide) (by decide) (by decide) (by decide)]
  exact w
theorem zOT.ru {G G' H H' : Nat → Nat → Int32} (w : zOT G) (h : ruFr G G' H H') : zOT G' := by
  unfold zOT at w ⊢
  rw [h.1 85 (by decide) (by decide) (by decide) (by decide) (by decide)]
  exact w
theorem zMc.ru {G G' H H' : Nat → Nat → Int32} (w : zMc H) (h : ruFr G G' H H') : zMc H' := by
  unfold zMc at w ⊢
  rw [h.2.1 98 (by decide) (by decide) (by decide), h.2.1 99 (by decide) (by decide) (by decide), h.2.1 100 (by decide) (by decide) (by decide), h.2.1 101 (by decide) (by decide) (by decide)]
  exact w
theorem zOrd.same {G G' : Nat → Nat → Int32} (h : G' 86 = G 86) : ∀ (L : List (Nat × List Nat)) (o : Nat), zOrd G o L → zOrd G' o L := by
  intro L
  induction L with
  | nil => intro o _; trivial
  | cons x L ih =>
    intro o hz
    obtain ⟨k, vs⟩ := x
    obtain ⟨h1, h2, h3⟩ := hz
    exact ⟨by rw [h]; exact h1, h2, ih (o + 1) h3⟩
/-- how the orders end -/
def ruEnd (D cnt o : Nat) (n : Nat) (G G' H H' : Nat → Nat → Int32) : Prop :=
  (n = cnt ∧ H' 90 0 = 0 ∧ HRat (D + (cnt - o)) G' 2 (H' 91) ∧ G' 1 = G 1 ∧ H' 90 2 = H 90 2 ∧ H' 90 3 = H 90 3 ∧
    zden 93 34 [.ref 0, .int (nI cnt), .int (nI o)] [] (zSH, G) = zaft 93 93 [.ref 0, .int (nI cnt), .int (nI cnt)] [] (zSH, G') (zden 15 0 [.ref 9, .int (nI cnt)] [] (zSH, G'))) ∨
  (∃ j, o ≤ j ∧ j < cnt ∧ n = j + 1 ∧ H' 90 0 ≠ 0 ∧ zden 93 34 [.ref 0, .int (nI cnt), .int (nI o)] [] (zSH, G) = zaft 93 68 [.ref 0, .int (nI cnt), .int (nI j)] [] (zSH, G') (zden 16 0 [.ref 9, .ref 2, .retAddr 0] [] (zSH, G')))
theorem run_do {m cnt : Nat} {s : Nat → Nat} : ∀ (f o p D : Nat) (G H : Nat → Nat → Int32), o + f = 11 → p ≤ m → (rdA s m f p).2.2 = false → o + (rdA s m f p).1.length = cnt → D + cnt - o ≤ 5950 → zWT G → zOT G → zOrd G o (rdA s m f p).1 → HRat D G 2 (H 91) → zMc H → mSt m s (p, false) H → H 90 21 = 1 → H 90 0 = 0 →
    ∃ (n : Nat) (G' H1 H' : Nat → Nat → Int32), zden 157 0 [.ref 90, .retAddr 0, .retAddr 0] [] (zSH, H) = some (none, (zSH, H1)) ∧ zden 156 16 [.ref 90, .int (nI (o + 1))] [] (zSH, H1) = some (some (.int (nI n)), (zSH, H')) ∧ ruFr G G' H H' ∧ ruEnd D cnt o n G G' H H' := by
  intro f
  induction f with
  | zero => intro o p D G H _ _ z; exact Bool.noConfusion (show true = false from z)
  | succ f ih =>
    intro o p D G H h hp hok hcnt hD w hot hord hr hc hs h21 h0
    have hm := hs.1.1
    rw [rdA_succ] at hok hcnt hord
    cases hw : (rdO s p).2.2.2 with
    | true => rw [hw, if_pos rfl] at hok; exact Bool.noConfusion (show true = false from hok)
    | false =>
    rw [hw, if_neg ff_t] at hok hcnt hord
    obtain ⟨H1, g1, g2, g3, g4⟩ := sm_order hc hs
    rw [hw] at g2
    obtain ⟨g5, g6⟩ := g4 hw
    obtain ⟨tc, ac, tm, am, op, dc, dm⟩ := rdO_do hw
    generalize hq : (rdO s p).2.2.1 = q at g2 hok hcnt hord
    generalize hk : (rdO s p).1 = k at g5 dc dm hcnt hord
    generalize hvs : (rdO s p).2.1 = vs at g6 dc dm hcnt hord
    have hqm : q ≤ m := g2.2.1
    -- the order in the class's row
    have hrow : (G 86 (7 * o) = nI k ∧ ∀ t, t < vs.length → G 86 (7 * o + 1 + t) = nI (vs.getD t 0)) ∧ o < cnt := by
      by_cases c : m ≤ q
      · rw [if_pos c] at hcnt hord
        exact ⟨hord.1, by have : o + 1 = cnt := hcnt; omega⟩
      · rw [if_neg c] at hok hcnt hord
        by_cases e : s q = 59
        · rw [if_pos e] at hcnt hord
          exact ⟨hord.1, by have : o + ((rdA s m f (q + 1)).1.length + 1) = cnt := hcnt; omega⟩
        · rw [if_neg e] at hok
          exact Bool.noConfusion (show true = false from hok)
    have e91 : H1 91 = H 91 := g1.1 91 (by decide) (by decide)
    obtain ⟨r, G1, H2, p1, p2, p3, p4⟩ := op D G H1 (by omega) w (by rw [e91]; exact hr) (by rw [g1.2 0 (by decide) (by decide)]; exact h0)
    have hcl := dc o G (by omega) hot hrow.1.1 hrow.1.2 r G1 p1
    have hmo := dm H1 g6 r H2 p2
    have f1 : ruFr G G1 H H2 := (ruFr.m g1).trans (ruFr.o p3)
    -- the order in the model
    have hmd : zden 157 0 [.ref 90, .retAddr 0, .retAddr 0] [] (zSH, H) = some (none, (zSH, H2)) := by
      rw [g5, B_M_order_125, if_neg (fun z => z (by rw [g2.2.2.2.2.1]; rfl)), if_pos (by rw [g1.2 21 (by decide) (by decide), h21]; decide), hmo, zaft_same]
      exact B_M_order_145
    have hcd : zden 93 34 [.ref 0, .int (nI cnt), .int (nI o)] [] (zSH, G) = zden 93 54 [.ref 0, .int (nI cnt), .int (nI o)] [.int r] (zSH, G1) := by
      rw [B_T_run_34, if_neg (nI_ge hrow.2 (by omega)), hcl, zaft_same]; rfl
    have h20 : H2 90 20 = 0 := by rw [p3.2.2 20 (by decide) (by decide) (by decide), g2.2.2.2.2.1]; rfl
    rcases p4 with ⟨r0, q1, q2, q3⟩ | ⟨r0, q1, q2, q3⟩
    · have h00 : H2 90 0 = 0 := by rw [q3, g1.2 0 (by decide) (by decide)]; exact h0
      have e19 : H2 90 19 = nI m := by rw [q3]; exact g2.2.2.1
      have e18 : H2 90 18 = nI q := by rw [q3]; exact g2.2.2.2.1
      have hcd2 : zden 93 34 [.ref 0, .int (nI cnt), .int (nI o)] [] (zSH, G) = zden 93 34 [.ref 0, .int (nI cnt), .int (nI (o + 1))] [] (zSH, G1) := by
        rw [hcd, B_T_run_54, if_pos r0, nI_1]
      have hc16 : zden 156 16 [.ref 90, .int (nI (o + 1))] [] (zSH, H2) = if (H2 90 19) ≤ (H2 90 18) then some (some (.int (nI (o + 1))), (zSH, H2)) else zaft 156 47 [.ref 90, .int (nI (o + 1))] [] (zSH, H2) (zden 160 0 [.ref 90, .int 59] [] (zSH, H2)) := by
        rw [B_M_orders_16, if_neg (fun z => z h20), if_neg (fun z => z h00)]
      by_cases c : m ≤ q
      · rw [if_pos c] at hcnt
        have hcnt : o + 1 = cnt := hcnt
        refine ⟨o + 1, G1, H2, H2, hmd, ?_, f1, .inl ⟨hcnt, h00, ?_, q2, ?_, ?_, ?_⟩⟩
        · rw [hc16, if_pos (by rw [e19, e18]; exact nI_le c (by omega))]
        · rw [show cnt - o = 1 by omega]; exact q1
        · rw [q3, g1.2 2 (by decide) (by decide)]
        · rw [q3, g1.2 3 (by decide) (by decide)]
        · rw [hcd2, ← hcnt, B_T_run_34, if_pos (Int32.le_refl _)]
      · rw [if_neg c] at hok hcnt hord
        by_cases e : s q = 59
        · rw [if_pos e] at hok hcnt hord
          have hcnt : o + ((rdA s m f (q + 1)).1.length + 1) = cnt := hcnt
          have st2 : mSt m s (q, false) H2 := ⟨hs.1, hqm, e19, e18, h20, fun j hj => by rw [p3.2.1 95 (by decide) (by decide)]; exact g2.2.2.2.2.2 j hj⟩
          obtain ⟨H3, k1, k2, k3, k4⟩ := sm_mark (c := 59) st2 (by decide) (by decide)
          have es : stS s 59 (q, false) = ((rdS s 59 q).2.1, (rdS s 59 q).2.2) := rfl
          rw [es] at k2
          unfold rdS at k2
          rw [if_pos e] at k2
          have f2 : ruFr G G1 H H3 := f1.trans (ruFr.m k3)
          have e91' : H3 91 = H2 91 := k3.1 91 (by decide) (by decide)
          obtain ⟨n, G', H4, H', j1, j2, j3, j4⟩ := ih (o + 1) (q + 1) (D + 1) G1 H3 (by omega) (by omega) hok (by omega) (by omega) (w.ru f1) (hot.ru f1)
            (zOrd.same (f1.1 86 (by decide) (by decide) (by decide) (by decide) (by decide)) _ _ hord.2.2) (by rw [e91']; exact q1) (hc.ru f2) k2
            (by rw [k3.2 21 (by decide) (by decide), q3, g1.2 21 (by decide) (by decide)]; exact h21) (by rw [k3.2 0 (by decide) (by decide)]; exact h00)
          refine ⟨n, G', H2, H', hmd, ?_, f2.trans j3, ?_⟩
          · rw [hc16, if_neg (by rw [e19, e18]; exact nI_ge (by omega) (by omega)), show zden 160 0 [.ref 90, .int 59] [] (zSH, H2) = _ from k1, zaft_same]
            refine Eq.trans B_M_orders_47 ?_
            rw [if_neg (fun z => z (by rw [k2.2.2.2.2.1]; rfl)), j1, zaft_same]
            refine Eq.trans B_M_orders_58 ?_
            rw [nI_1]
            exact j2
          · rcases j4 with ⟨a1, a2, a3, a4, a5, a6, a7⟩ | ⟨j, a1, a2, a3, a4, a5⟩
            · refine .inl ⟨a1, a2, ?_, a4.trans q2, ?_, ?_, hcd2.trans a7⟩
              · rw [show D + (cnt - o) = D + 1 + (cnt - (o + 1)) by omega]; exact a3
              · rw [a5, k3.2 2 (by decide) (by decide), q3, g1.2 2 (by decide) (by decide)]
              · rw [a6, k3.2 3 (by decide) (by decide), q3, g1.2 3 (by decide) (by decide)]
            · exact .inr ⟨j, by omega, a2, a3, a4, hcd2.trans a5⟩
        · rw [if_neg e] at hok
          exact Bool.noConfusion (show true = false from hok)
    · have n0 : H2 90 0 ≠ 0 := by
        rw [q2]
        intro z
        rw [z] at r0
        exact absurd r0 (by decide)
      refine ⟨o + 1, G1, H2, H2, hmd, ?_, f1, .inr ⟨o, Nat.le_refl _, hrow.2, rfl, n0, ?_⟩⟩
      · rw [B_M_orders_16, if_neg (fun z => z h20), if_pos n0]
      · rw [hcd, B_T_run_54, if_neg (Int32.not_le.mpr r0)]
