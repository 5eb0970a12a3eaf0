-- 80: the model reads the text, doing nothing
theorem sm_order_dry {m p : Nat} {s : Nat → Nat} {H : Nat → Nat → Int32} (hc : zMc H) (h : mSt m s (p, false) H) (h21 : H 90 21 = 0) :
    ∃ H' : Nat → Nat → Int32, zden 157 0 [.ref 90, .retAddr 0, .retAddr 0] [] (zSH, H) = some (none, (zSH, H')) ∧ mFr H H' ∧ mSt m s ((rdO s p).2.2.1, (rdO s p).2.2.2) H' := by
  obtain ⟨H1, g1, g2, g3, g4⟩ := sm_order hc h
  cases hw : (rdO s p).2.2.2 with
  | true => rw [hw] at g2; exact ⟨H1, g3 hw, g1, g2⟩
  | false =>
    rw [hw] at g2
    refine ⟨H1, ?_, g1, g2⟩
    rw [(g4 hw).1, B_M_order_125, if_neg (fun z => z (by rw [g2.2.2.2.2.1]; rfl)), if_neg (fun z => z (by rw [g1.2 21 (by decide) (by decide)]; exact h21))]
theorem sm_dry {m : Nat} {s : Nat → Nat} : ∀ (f o p : Nat) (n : Int32) (H : Nat → Nat → Int32), o + f = 11 → 6 * o ≤ p → p ≤ m → zMc H → mSt m s (p, false) H → H 90 21 = 0 → H 90 0 = 0 →
    ∃ (r : Int32) (H1 H' : Nat → Nat → Int32), zden 157 0 [.ref 90, .retAddr 0, .retAddr 0] [] (zSH, H) = some (none, (zSH, H1)) ∧ zden 156 16 [.ref 90, .int n] [] (zSH, H1) = some (some (.int r), (zSH, H')) ∧ mFr H H' ∧ mSt m s ((rdA s m f p).2.1, (rdA s m f p).2.2) H' := by
  intro f
  induction f with
  | zero =>
    intro o p n H h hp hp2 hc hs _ _
    have := hs.1.1
    omega
  | succ f ih =>
    intro o p n H h hp hp2 hc hs h21 h0
    have hm := hs.1.1
    obtain ⟨H1, g1, g2, g3⟩ := sm_order_dry hc hs h21
    rw [rdA_succ]
    cases hw : (rdO s p).2.2.2 with
    | true =>
      rw [hw] at g3
      rw [if_pos rfl]
      refine ⟨n, H1, H1, g1, ?_, g2, g3⟩
      rw [B_M_orders_16, if_pos (by rw [g3.2.2.2.2.1]; exact bB_t)]
    | false =>
      rw [hw] at g3
      rw [if_neg ff_t]
      have hadv := rdO_adv hw
      generalize hq : (rdO s p).2.2.1 = q at g3 hadv
      have e1 : H1 90 19 = nI m := g3.2.2.1
      have e2 : H1 90 18 = nI q := g3.2.2.2.1
      have hqm : q ≤ m := g3.2.1
      have hc16 : ∀ x : Int32, zden 156 16 [.ref 90, .int x] [] (zSH, H1) = if (H1 90 19) ≤ (H1 90 18) then some (some (.int x), (zSH, H1)) else zaft 156 47 [.ref 90, .int x] [] (zSH, H1) (zden 160 0 [.ref 90, .int 59] [] (zSH, H1)) := fun x => by
        rw [B_M_orders_16, if_neg (fun z => z (by rw [g3.2.2.2.2.1]; rfl)), if_neg (fun z => z (by rw [g2.2 0 (by decide) (by decide)]; exact h0))]
      by_cases c : m ≤ q
      · rw [if_pos c]
        refine ⟨n, H1, H1, g1, ?_, g2, g3⟩
        rw [hc16, if_pos (by rw [e1, e2]; exact nI_le c (by omega))]
      · rw [if_neg c]
        obtain ⟨H2, k1, k2, k3, k4⟩ := sm_mark (c := 59) g3 (by decide) (by decide)
        have hc47 : zden 156 16 [.ref 90, .int n] [] (zSH, H1) = zden 156 47 [.ref 90, .int n] [] (zSH, H2) := by
          rw [hc16, if_neg (by rw [e1, e2]; exact nI_ge (by omega) (by omega)), show zden 160 0 [.ref 90, .int 59] [] (zSH, H1) = _ from k1, zaft_same]
          rfl
        have es : stS s 59 (q, false) = ((rdS s 59 q).2.1, (rdS s 59 q).2.2) := rfl
        rw [es] at k2
        unfold rdS at k2
        by_cases e : s q = 59
        · rw [if_pos e]
          rw [if_pos e] at k2
          obtain ⟨r, H3, H', j1, j2, j3, j4⟩ := ih (o + 1) (q + 1) (n + 1) H2 (by omega) (by omega) (by omega) ((hc.fr g2).fr k3) k2 (by rw [k3.2 21 (by decide) (by decide), g2.2 21 (by decide) (by decide)]; exact h21) (by rw [k3.2 0 (by decide) (by decide), g2.2 0 (by decide) (by decide)]; exact h0)
          refine ⟨r, H1, H', g1, ?_, (g2.trans k3).trans j3, j4⟩
          rw [hc47, B_M_orders_47, if_neg (fun z => z (by rw [k2.2.2.2.2.1]; rfl)), j1, zaft_same]
          refine Eq.trans B_M_orders_58 ?_
          exact j2
        · rw [if_neg e]
          rw [if_neg e] at k2
          have h6 : ¬ H2 90 20 = 0 := by rw [k2.2.2.2.2.1]; exact bB_t
          refine ⟨n + 1, H1, H2, g1, ?_, g2.trans k3, k2⟩
          rw [hc47, B_M_orders_47, if_pos h6, B_M_orders_58, B_M_orders_16, if_pos h6]
/-- the text's reading as a method -/
theorem sm_orders_dry {m : Nat} {s : Nat → Nat} {H : Nat → Nat → Int32} (hs : sTx m s) (hc : zMc H) (h19 : H 90 19 = nI m) (hj : ∀ j, j < m → H 95 j = nI (s j)) (h21 : H 90 21 = 0) (h0 : H 90 0 = 0) :
    ∃ (r : Int32) (H' : Nat → Nat → Int32), zden 156 0 [.ref 90, .retAddr 0] [] (zSH, H) = some (some (.int r), (zSH, H')) ∧ mFr H H' ∧ mSt m s ((rdA s m 11 0).2.1, (rdA s m 11 0).2.2) H' := by
  have f0 : mFr H (zup (zup H 90 18 0) 90 20 0) := ⟨fun i a _ => by rw [zup_ro a, zup_ro a], fun j a b => by rw [zup_rk b, zup_rk a]⟩
  have st : mSt m s (0, false) (zup (zup H 90 18 0) 90 20 0) := ⟨hs, Nat.zero_le _, by rw [zup_rk (by decide), zup_rk (by decide)]; exact h19, by rw [zup_rk (by decide), zup_rr]; rfl, by rw [zup_rr]; rfl, fun j jm => by rw [zup_ro (by decide), zup_ro (by decide)]; exact hj j jm⟩
  obtain ⟨r, H1, H', g1, g2, g3, g4⟩ := sm_dry 11 0 0 1 _ (by omega) (by omega) (Nat.zero_le _) (hc.fr f0) st (by rw [f0.2 21 (by decide) (by decide)]; exact h21) (by rw [f0.2 0 (by decide) (by decide)]; exact h0)
  refine ⟨r, H', ?_, f0.trans g3, g4⟩
  rw [B_M_orders_0, g1, zaft_same]
  exact g2
