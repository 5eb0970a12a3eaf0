-- 36: a good enters, a good is exported
noncomputable def dutC (A B C : Nat → Int32) (n g : Nat) (o : Int32) : Int32 := dutV A B n g (favO C o)
theorem favO_ok {C : Nat → Int32} {o : Int32} (hC : ∀ c, c < 5 → zR5 0 100 (C c)) (ho : o = -15 ∨ ∃ b : Nat, b < 5 ∧ o = nI b) : ∃ f : Nat, f ≤ 100 ∧ favO C o = nI f ∧ (o = -15 → f = 0) ∧ ∀ b : Nat, b < 5 → o = nI b → C b = nI f := by
  unfold favO
  rcases ho with rfl | ⟨b, hb, rfl⟩
  · exact ⟨0, by omega, if_pos rfl, fun _ => rfl, fun b hb e => by
      have := nI_pos (n := b) (by omega)
      rw [← e] at this
      exact absurd (by decide) this⟩
  · obtain ⟨f, _, f2, f3⟩ := hC b hb
    have hne : ¬ nI b = -15 := fun q => by
      have := nI_pos (n := b) (by omega)
      rw [q] at this
      exact this (by decide)
    refine ⟨f, f2, by rw [if_neg hne, nI_clamp (by omega)]; exact f3, fun q => absurd q hne, fun c hc e => ?_⟩
    have := (nI_eq (by omega) (by omega)).mp e
    subst this
    exact f3
theorem dutC_ok {D n gn g : Nat} {G : Nat → Nat → Int32} {o : Int32} (w : zWT G) (h : HIat D n gn G) (g1 : g < gn) (ho : o = -15 ∨ ∃ b : Nat, b < 5 ∧ o = nI b) :
    ∃ t f : Nat, t ≤ 1980 ∧ f ≤ 100 ∧ tBase (G 4) (G 6) n g = nI t ∧ favO (G 8) o = nI f ∧ dutC (G 4) (G 6) (G 8) n g o = nI (t - t * f / 100) ∧ (o = -15 → f = 0) ∧ (∀ b : Nat, b < 5 → o = nI b → G 8 b = nI f) ∧
      zden 29 0 [.ref 2, .int (nI g), .int o, .retAddr 0, .retAddr 0, .retAddr 0, .retAddr 0] [] (zSH, G) = some (some (.int (nI (t - t * f / 100))), (zSH, G)) := by
  have gl := h.gl
  have hg : g < 12 := by omega
  obtain ⟨t, t1, t2⟩ := tBase_ok h.ho (topF_is w h.ho h.i3 hg).1 (h.good g g1)
  obtain ⟨f, f1, f2, f3, f4⟩ := favO_ok h.fav ho
  have e : dutC (G 4) (G 6) (G 8) n g o = nI (t - t * f / 100) := by
    unfold dutC
    rw [f2]
    exact dutV_ok t1 t2 f1
  refine ⟨t, f, t1, f1, t2, f2, e, f3, f4, ?_⟩
  rw [← e]
  exact sc_dut w h.ho h.i3 hg (favO_get w ho)
def entF (G : Nat → Nat → Int32) (g d m : Nat) : Nat → Nat → Int32 := zup (zup (zup (zup (zup G 2 6 (nI (m - d))) 2 8 (G 2 8 + nI d)) 6 (23 * g + 3) 1) 6 (23 * g + 5) (nI d)) 6 (23 * g + 7) (G 2 5)
theorem ex_enter {D n gn g b d m : Nat} {G : Nat → Nat → Int32} (w : zWT G) (h : HIat D n gn G) (g1 : g < gn) (hs : G 6 (23 * g + 3) = 0) (hb : b < 5) (ho : orgF (G 6) g = nI b) (hd : dutC (G 4) (G 6) (G 8) n g (nI b) = nI d) (hm : G 2 6 = nI m) (dm : d ≤ m) (m31 : m < 2 ^ 31) :
    zden 9 0 [.ref 1, .int (nI g), .retAddr 0, .retAddr 0, .retAddr 0] [] (zSH, G) = some (some (.int (nI d)), (zSH, entF G g d m)) := by
  have gl := h.gl
  have gl' : g < 12 := by omega
  have i4 : G 2 4 = nI gn := h.i4
  have hx1 : 0 ≤ nI g ∧ nI g < G 2 4 := by rw [i4]; exact (good_iff gl).mpr ⟨g, g1, rfl⟩
  have n1 : ¬ bI (0 ≤ nI g ∧ nI g < G 2 4) = 0 := bIn.mpr hx1
  have t3 : tget G 5 6 276 (nI g) 3 = G 6 (23 * g + 3) := gd_get (j := 3) w rfl (by decide) gl' (by omega)
  have ck : zden 9 0 [.ref 1, .int (nI g), .retAddr 0, .retAddr 0, .retAddr 0] [] (zSH, G) = _ := B_Cl_letIn_0
  rw [if_pos n1, t3, if_pos hs, sc_org w gl', ho, zaft_same] at ck
  have ck := ck.trans B_Cl_letIn_46
  obtain ⟨t, f, _, _, _, _, e, _, _, u⟩ := dutC_ok w h g1 (.inr ⟨b, hb, rfl⟩)
  rw [if_pos (nI_pos' (by omega)), u, ← e, hd, zaft_same] at ck
  have ck := ck.trans B_Cl_letIn_67
  have wa : zWT (zup (zup G 2 6 (nI (m - d))) 2 8 (zup G 2 6 (nI (m - d)) 2 8 + nI d)) := (w.zup (by decide) (by decide) (by decide)).zup (by decide) (by decide) (by decide)
  have s : ∀ (X : Nat → Nat → Int32) (col : Int32) (j : Nat) (x : Int32), zWT X → col = nI j → j < 23 → tset X 5 6 276 (nI g) col x = zup X 6 (23 * g + j) x := fun X col j x hX hc hj => gd_set hX rfl hc gl' hj
  have wz : ∀ (X : Nat → Nat → Int32) (k : Nat) (x : Int32), zWT X → zWT (zup X 6 k x) := fun X k x hX => hX.zup (by decide) (by decide) (by decide)
  rw [hm, if_pos (nI_le dm m31), pk_sub dm] at ck
  rw [s _ 3 3 _ wa (by decide) (by decide), s _ 5 5 _ (wz _ _ _ wa) (by decide) (by decide), s _ 7 7 _ (wz _ _ _ (wz _ _ _ wa)) (by decide) (by decide)] at ck
  simp (disch := omega) only [zup_rk, zup_ro] at ck
  exact ck
theorem ent_ok {D n gn g d m : Nat} {G : Nat → Nat → Int32} (h : HIat D n gn G) (g1 : g < gn) (hs : G 6 (23 * g + 3) = 0) (d1 : d ≤ 1980) (hm : G 2 6 = nI m) (dm : d ≤ m) (mD : m ≤ 9999 * D) (hD : D ≤ 6000) : HIat (D + 1) n gn (entF G g d m) := by
  have qc := h.good g g1
  have qq := qc
  obtain ⟨a0, a1, a2, a3, a4, a5, a9, a10, a11, a12, a13, a14, a15⟩ := qq
  have gl := h.gl
  have pz := (a10 hs).2
  have bz : G 6 (23 * g + 6) = 0 := a12 (by rw [hs]; decide)
  have day := h.day
  unfold HIat entF
  simp (disch := omega) only [zup_ro]
  refine HI.upd h ?_ ?_ ?_ ?_ h.fav (fun o ol og => ?_) (fun o o1 o2 j hj => ?_) ?_ ?_ ?_
  · simp (disch := omega) only [zup_rk, zup_ro]
  · simp (disch := omega) only [zup_rk, zup_ro]
  · simp (disch := omega) only [zup_rk, zup_ro]; exact day.mono (by omega)
  · simp (disch := omega) only [zup_rk, zup_rr, zup_ro]
    exact ⟨m - d, by omega, by omega, rfl⟩
  · by_cases hog : o = g
    · subst hog
      refine HRg.chg qc (fun j hj => ?_) ?_ ⟨d, 0, by omega, d1, ?_, ?_⟩ ?_ ?_ ?_ ?_ ?_
      · simp (disch := omega) only [zup_rk, zup_ro]
      · simp (disch := omega) only [zup_rk, zup_rr, zup_ro]; exact ⟨1, by omega, by omega, by decide⟩
      · simp (disch := omega) only [zup_rk, zup_rr, zup_ro]
      · simp (disch := omega) only [zup_rk, zup_rr, zup_ro]; exact bz
      · refine .inr ?_
        obtain ⟨dd, _, _, dd3⟩ := day
        simp (disch := omega) only [zup_rr]
        rw [dd3]
        exact nI_pos' (by omega)
      · simp (disch := omega) only [zup_rk, zup_rr, zup_ro]; exact fun q => absurd q (by decide)
      · obtain ⟨dd, _, _, dd3⟩ := day
        simp (disch := omega) only [zup_rr]
        rw [dd3]
        exact fun _ => nI_pos' (by omega)
      · simp (disch := omega) only [zup_rk, zup_rr, zup_ro]; exact fun _ => bz
      · obtain ⟨wn, w1, w2, w3, w4⟩ := a15
        refine ⟨wn, w1, ?_, fun c hc => ?_, fun q => ?_⟩
        · simp (disch := omega) only [zup_rk, zup_ro]; exact w2
        · simp (disch := omega) only [zup_rk, zup_ro]; exact w3 c hc
        · obtain ⟨c, hc, hn⟩ := w4 q
          exact ⟨c, hc, by simp (disch := omega) only [zup_rk, zup_ro]; exact hn⟩
    · exact og.congr (fun j h1 h2 => by simp (disch := omega) only [zup_rk, zup_ro])
  · simp (disch := omega) only [zup_rk, zup_ro]
  · simp (disch := omega) only [zup_rk, zup_rr, zup_ro]
    rw [h.s8]
    exact (sumB_chg (g := g) g1 (by simp (disch := omega) only [zup_rk, zup_rr, zup_ro]; rw [pz, Int32.zero_add]) (fun j _ hj => by simp (disch := omega) only [zup_rk, zup_rr, zup_ro])).symm
  · simp (disch := omega) only [zup_rk, zup_ro]; rw [h.s9]; exact (sumB_congr (fun o _ => by simp (disch := omega) only [zup_rk, zup_ro])).symm
  · simp (disch := omega) only [zup_rk, zup_rr, zup_ro]
    rw [← pk_sub dm, ← hm, h.s6]
    simp only [Int32.sub_eq_add_neg, Int32.neg_add]
    ac_rfl
theorem no_enter {D n gn g : Nat} {G : Nat → Nat → Int32} (w : zWT G) (h : HIat D n gn G) (g1 : g < gn) (hs : G 6 (23 * g + 3) ≠ 0) :
    zden 9 0 [.ref 1, .int (nI g), .retAddr 0, .retAddr 0, .retAddr 0] [] (zSH, G) = some (some (.int (-14)), (zSH, zup (zup G 1 1 3) 1 2 (G 6 (23 * g + 3)))) := by
  have gl := h.gl
  have gl' : g < 12 := by omega
  have i4 : G 2 4 = nI gn := h.i4
  have hx1 : 0 ≤ nI g ∧ nI g < G 2 4 := by rw [i4]; exact (good_iff gl).mpr ⟨g, g1, rfl⟩
  have n1 : ¬ bI (0 ≤ nI g ∧ nI g < G 2 4) = 0 := bIn.mpr hx1
  have t3 : tget G 5 6 276 (nI g) 3 = G 6 (23 * g + 3) := gd_get (j := 3) w rfl (by decide) gl' (by omega)
  have ck : zden 9 0 [.ref 1, .int (nI g), .retAddr 0, .retAddr 0, .retAddr 0] [] (zSH, G) = _ := B_Cl_letIn_0
  rw [if_pos n1, t3, if_neg hs, B_Cl_refuse_0, zaft_same] at ck
  exact ck.trans B_Cl_letIn_37
theorem no_origin {D n gn g : Nat} {G : Nat → Nat → Int32} (w : zWT G) (h : HIat D n gn G) (g1 : g < gn) (hs : G 6 (23 * g + 3) = 0) (ho : orgF (G 6) g = -15) :
    zden 9 0 [.ref 1, .int (nI g), .retAddr 0, .retAddr 0, .retAddr 0] [] (zSH, G) = some (some (.int (-14)), (zSH, zup (zup G 1 1 4) 1 2 (nI g))) := by
  have gl := h.gl
  have gl' : g < 12 := by omega
  have i4 : G 2 4 = nI gn := h.i4
  have hx1 : 0 ≤ nI g ∧ nI g < G 2 4 := by rw [i4]; exact (good_iff gl).mpr ⟨g, g1, rfl⟩
  have n1 : ¬ bI (0 ≤ nI g ∧ nI g < G 2 4) = 0 := bIn.mpr hx1
  have t3 : tget G 5 6 276 (nI g) 3 = G 6 (23 * g + 3) := gd_get (j := 3) w rfl (by decide) gl' (by omega)
  have ck : zden 9 0 [.ref 1, .int (nI g), .retAddr 0, .retAddr 0, .retAddr 0] [] (zSH, G) = _ := B_Cl_letIn_0
  rw [if_pos n1, t3, if_pos hs, sc_org w gl', ho, zaft_same] at ck
  have ck := ck.trans B_Cl_letIn_46
  rw [if_neg (by decide), B_Cl_refuse_0, zaft_same] at ck
  exact ck.trans B_Cl_letIn_57
theorem orgF_two {B : Nat → Int32} {g : Nat} (h : HRg B g) : orgF B g = -15 ∨ ∃ b : Nat, b < 5 ∧ orgF B g = nI b := by
  obtain ⟨P, _, q⟩ := orgF_ok h
  rcases q with ⟨q, _⟩ | ⟨b, b1, b2, _⟩
  · exact .inl q
  · exact .inr ⟨b, b1, b2⟩
theorem opFr_ent {G : Nat → Nat → Int32} {g d m : Nat} : opFr G (entF G g d m) := fun i a b c d e => by unfold entF; simp only [zup_ro b, zup_ro d]
theorem ok_enter {x : Int32} : OpOK 9 [.ref 1, .int x, .retAddr 0, .retAddr 0, .retAddr 0] := by
  intro D n gn G hD w hr
  have gl := hr.gl
  have i4 : G 2 4 = nI gn := hr.i4
  by_cases hx : ∃ g : Nat, g < gn ∧ x = nI g
  · obtain ⟨g, g1, rfl⟩ := hx
    have gl' : g < 12 := by omega
    by_cases hs : G 6 (23 * g + 3) = 0
    rotate_left
    · exact ⟨-14, _, no_enter w hr g1 hs, opFr_ref, opEnd_ref⟩
    rcases orgF_two (hr.good g g1) with ho | ⟨b, hb, ho⟩
    · exact ⟨-14, _, no_origin w hr g1 hs ho, opFr_ref, opEnd_ref⟩
    obtain ⟨t, f, t1, f1, _, _, e, _, _, u⟩ := dutC_ok w hr g1 (.inr ⟨b, hb, rfl⟩)
    obtain ⟨m, _, m2, m3⟩ := hr.purse
    have m3 : G 2 6 = nI m := m3
    by_cases hdm : t - t * f / 100 ≤ m
    · exact ⟨nI (t - t * f / 100), _, ex_enter w hr g1 hs hb ho e m3 hdm (by omega), opFr_ent, .inr ⟨⟨_, by omega, by omega, rfl⟩, n, gn, Nat.le_refl _, ent_ok hr g1 hs (by omega) m3 hdm m2 hD⟩⟩
    · have hx1 : 0 ≤ nI g ∧ nI g < G 2 4 := by rw [i4]; exact (good_iff gl).mpr ⟨g, g1, rfl⟩
      have n1 : ¬ bI (0 ≤ nI g ∧ nI g < G 2 4) = 0 := bIn.mpr hx1
      have t3 : tget G 5 6 276 (nI g) 3 = G 6 (23 * g + 3) := gd_get (j := 3) w rfl (by decide) gl' (by omega)
      have ck : zden 9 0 [.ref 1, .int (nI g), .retAddr 0, .retAddr 0, .retAddr 0] [] (zSH, G) = _ := B_Cl_letIn_0
      rw [if_pos n1, t3, if_pos hs, sc_org w gl', ho, zaft_same] at ck
      have ck := ck.trans B_Cl_letIn_46
      rw [if_pos (nI_pos' (by omega)), u, zaft_same] at ck
      have ck := ck.trans B_Cl_letIn_67
      rw [m3, if_neg (nI_ge (by omega) (by omega)), B_Cl_refuse_0, zaft_same] at ck
      exact ⟨-14, _, ck.trans B_Cl_letIn_96, opFr_ref, opEnd_ref⟩
  · have n1 : ¬ (0 ≤ x ∧ x < G 2 4) := by rw [i4, good_iff gl]; exact hx
    exact ⟨-11, G, by rw [B_Cl_letIn_0, if_neg (fun q => n1 (bIn.mp q))], opFr_rf, opEnd_no (by decide) (by decide)⟩
-- export
def expF (G : Nat → Nat → Int32) (g d b : Nat) : Nat → Nat → Int32 := zup (zup (zup (zup G 2 6 (nI (d + b))) 2 9 (G 2 9 + nI b)) 6 (23 * g + 3) 2) 6 (23 * g + 6) (nI b)
def bkF (G : Nat → Nat → Int32) (g p : Nat) : Nat := if G 6 (23 * g + 3) = 1 then if 30 < G 2 5 - G 6 (23 * g + 7) then 0 else p * 9 / 10 else 0
theorem bkF_le {G : Nat → Nat → Int32} {g p : Nat} : bkF G g p ≤ p := by
  unfold bkF
  by_cases h : G 6 (23 * g + 3) = 1
  · rw [if_pos h]
    by_cases h2 : 30 < G 2 5 - G 6 (23 * g + 7)
    · rw [if_pos h2]; omega
    · rw [if_neg h2]; omega
  · rw [if_neg h]; omega
theorem ex_export {D n gn g p d : Nat} {G : Nat → Nat → Int32} (w : zWT G) (h : HIat D n gn G) (g1 : g < gn) (hs : G 6 (23 * g + 3) ≠ 2) (hp : G 6 (23 * g + 5) = nI p) (p1 : p ≤ 1980) (hd : G 2 6 = nI d) :
    zden 10 0 [.ref 1, .int (nI g), .retAddr 0, .retAddr 0] [] (zSH, G) = some (some (.int (nI (bkF G g p))), (zSH, expF G g d (bkF G g p))) := by
  have gl := h.gl
  have gl' : g < 12 := by omega
  have i4 : G 2 4 = nI gn := h.i4
  have hx1 : 0 ≤ nI g ∧ nI g < G 2 4 := by rw [i4]; exact (good_iff gl).mpr ⟨g, g1, rfl⟩
  have n1 : ¬ bI (0 ≤ nI g ∧ nI g < G 2 4) = 0 := bIn.mpr hx1
  have t3 : tget G 5 6 276 (nI g) 3 = G 6 (23 * g + 3) := gd_get (j := 3) w rfl (by decide) gl' (by omega)
  have t5 : tget G 5 6 276 (nI g) 5 = G 6 (23 * g + 5) := gd_get (j := 5) w rfl (by decide) gl' (by omega)
  have t7 : tget G 5 6 276 (nI g) 7 = G 6 (23 * g + 7) := gd_get (j := 7) w rfl (by decide) gl' (by omega)
  have core : ∀ (b : Nat) (s : Int32), zden 10 91 [.ref 1, .int (nI g), .int s, .int (nI b)] [] (zSH, G) = some (some (.int (nI b)), (zSH, expF G g d b)) := by
    intro b s
    have wa : zWT (zup (zup G 2 6 (nI (d + b))) 2 9 (G 2 9 + nI b)) := (w.zup (by decide) (by decide) (by decide)).zup (by decide) (by decide) (by decide)
    have f1 : zup G 2 6 (nI (d + b)) 2 9 = G 2 9 := zup_rk (by decide)
    have f2 : ∀ X : Nat → Nat → Int32, zWT X → tset X 5 6 276 (nI g) 3 2 = zup X 6 (23 * g + 3) 2 := fun X hX => gd_set (j := 3) hX rfl (by decide) gl' (by omega)
    have f3 : ∀ X : Nat → Nat → Int32, zWT X → tset X 5 6 276 (nI g) 6 (nI b) = zup X 6 (23 * g + 6) (nI b) := fun X hX => gd_set (j := 6) hX rfl (by decide) gl' (by omega)
    rw [B_Cl_letOut_91, hd, nI_add, f1, f2 _ wa, f3 _ (wa.zup (by decide) (by decide) (by decide))]
    rfl
  have ck : zden 10 0 [.ref 1, .int (nI g), .retAddr 0, .retAddr 0] [] (zSH, G) = _ := B_Cl_letOut_0
  rw [if_pos n1, t3, t5, t7, if_pos hs] at ck
  unfold bkF
  by_cases hs1 : G 6 (23 * g + 3) = 1
  · rw [if_neg (fun q => q hs1)] at ck
    rw [if_pos hs1]
    by_cases h30 : 30 < G 2 5 - G 6 (23 * g + 7)
    · rw [if_pos h30] at ck
      rw [if_pos h30]
      exact ck.trans (core 0 _)
    · rw [if_neg h30] at ck
      rw [if_neg h30]
      have eb : G 6 (23 * g + 5) * 9 / 10 = nI (p * 9 / 10) := by rw [hp, nIlit_9, pk_mul, show (10 : Int32) = nI 10 by decide, pk_div (by omega) (by decide) (by decide)]
      rw [eb] at ck
      exact ck.trans (core _ _)
  · rw [if_pos hs1] at ck
    rw [if_neg hs1]
    exact ck.trans (core 0 _)
theorem exp_ok {D n gn g p d b : Nat} {G : Nat → Nat → Int32} (h : HIat D n gn G) (g1 : g < gn) (hs : G 6 (23 * g + 3) ≠ 2) (hp : G 6 (23 * g + 5) = nI p) (p1 : p ≤ 1980) (hd : G 2 6 = nI d) (d2 : d ≤ 9999 * D) (hb : b ≤ p) : HIat (D + 1) n gn (expF G g d b) := by
  have qc := h.good g g1
  have qq := qc
  obtain ⟨a0, a1, a2, a3, a4, a5, a9, a10, a11, a12, a13, a14, a15⟩ := qq
  have gl := h.gl
  have bz : G 6 (23 * g + 6) = 0 := a12 hs
  unfold HIat expF
  simp (disch := omega) only [zup_ro]
  refine HI.upd h ?_ ?_ ?_ ?_ h.fav (fun o ol og => ?_) (fun o o1 o2 j hj => ?_) ?_ ?_ ?_
  · simp (disch := omega) only [zup_rk, zup_ro]
  · simp (disch := omega) only [zup_rk, zup_ro]
  · simp (disch := omega) only [zup_rk, zup_ro]; exact h.day.mono (by omega)
  · simp (disch := omega) only [zup_rk, zup_rr, zup_ro]
    exact ⟨d + b, by omega, by omega, rfl⟩
  · by_cases hog : o = g
    · subst hog
      refine HRg.chg qc (fun j hj => ?_) ?_ ⟨p, b, hb, p1, ?_, ?_⟩ ?_ ?_ ?_ ?_ ?_
      · simp (disch := omega) only [zup_rk, zup_ro]
      · simp (disch := omega) only [zup_rk, zup_rr, zup_ro]; exact ⟨2, by omega, by omega, by decide⟩
      · simp (disch := omega) only [zup_rk, zup_rr, zup_ro]; exact hp
      · simp (disch := omega) only [zup_rk, zup_rr, zup_ro]
      · simp (disch := omega) only [zup_rk, zup_rr, zup_ro]; exact a9
      · simp (disch := omega) only [zup_rk, zup_rr, zup_ro]; exact fun q => absurd q (by decide)
      · simp (disch := omega) only [zup_rk, zup_rr, zup_ro]; exact fun q => absurd q (by decide)
      · simp (disch := omega) only [zup_rk, zup_rr, zup_ro]; exact fun q => absurd rfl q
      · obtain ⟨wn, w1, w2, w3, w4⟩ := a15
        refine ⟨wn, w1, ?_, fun c hc => ?_, fun q => ?_⟩
        · simp (disch := omega) only [zup_rk, zup_ro]; exact w2
        · simp (disch := omega) only [zup_rk, zup_ro]; exact w3 c hc
        · obtain ⟨c, hc, hn⟩ := w4 q
          exact ⟨c, hc, by simp (disch := omega) only [zup_rk, zup_ro]; exact hn⟩
    · exact og.congr (fun j h1 h2 => by simp (disch := omega) only [zup_rk, zup_ro])
  · simp (disch := omega) only [zup_rk, zup_ro]
  · simp (disch := omega) only [zup_rk, zup_ro]; rw [h.s8]; exact (sumB_congr (fun o _ => by simp (disch := omega) only [zup_rk, zup_ro])).symm
  · simp (disch := omega) only [zup_rk, zup_rr, zup_ro]
    rw [h.s9]
    exact (sumB_chg (g := g) g1 (by simp (disch := omega) only [zup_rk, zup_rr, zup_ro]; rw [bz, Int32.zero_add]) (fun j _ hj => by simp (disch := omega) only [zup_rk, zup_rr, zup_ro])).symm
  · simp (disch := omega) only [zup_rk, zup_rr, zup_ro]
    rw [← nI_add, ← hd, h.s6]
    simp only [Int32.sub_eq_add_neg]
    ac_rfl
theorem no_export {D n gn g : Nat} {G : Nat → Nat → Int32} (w : zWT G) (h : HIat D n gn G) (g1 : g < gn) (hs : G 6 (23 * g + 3) = 2) :
    zden 10 0 [.ref 1, .int (nI g), .retAddr 0, .retAddr 0] [] (zSH, G) = some (some (.int (-14)), (zSH, zup (zup G 1 1 3) 1 2 2)) := by
  have gl := h.gl
  have gl' : g < 12 := by omega
  have i4 : G 2 4 = nI gn := h.i4
  have hx1 : 0 ≤ nI g ∧ nI g < G 2 4 := by rw [i4]; exact (good_iff gl).mpr ⟨g, g1, rfl⟩
  have n1 : ¬ bI (0 ≤ nI g ∧ nI g < G 2 4) = 0 := bIn.mpr hx1
  have t3 : tget G 5 6 276 (nI g) 3 = G 6 (23 * g + 3) := gd_get (j := 3) w rfl (by decide) gl' (by omega)
  have ck : zden 10 0 [.ref 1, .int (nI g), .retAddr 0, .retAddr 0] [] (zSH, G) = _ := B_Cl_letOut_0
  rw [if_pos n1, t3, if_neg (fun q => q hs), hs, B_Cl_refuse_0, zaft_same] at ck
  exact ck.trans B_Cl_letOut_38
theorem opFr_exp {G : Nat → Nat → Int32} {g d b : Nat} : opFr G (expF G g d b) := fun i a b c d e => by unfold expF; simp only [zup_ro b, zup_ro d]
theorem ok_export {x : Int32} : OpOK 10 [.ref 1, .int x, .retAddr 0, .retAddr 0] := by
  intro D n gn G hD w hr
  have gl := hr.gl
  have i4 : G 2 4 = nI gn := hr.i4
  by_cases hx : ∃ g : Nat, g < gn ∧ x = nI g
  · obtain ⟨g, g1, rfl⟩ := hx
    by_cases hs : G 6 (23 * g + 3) = 2
    · exact ⟨-14, _, no_export w hr g1 hs, opFr_ref, opEnd_ref⟩
    obtain ⟨p, b, _, p1, p2, _⟩ := (hr.good g g1).2.2.2.2.2.1
    obtain ⟨m, _, m2, m3⟩ := hr.purse
    have m3 : G 2 6 = nI m := m3
    exact ⟨nI (bkF G g p), _, ex_export w hr g1 hs p2 p1 m3, opFr_exp, .inr ⟨⟨_, by omega, by have := @bkF_le G g p; omega, rfl⟩, n, gn, Nat.le_refl _, exp_ok hr g1 hs p2 p1 m3 m2 bkF_le⟩⟩
  · have n1 : ¬ (0 ≤ x ∧ x < G 2 4) := by rw [i4, good_iff gl]; exact hx
    exact ⟨-11, G, by rw [B_Cl_letOut_0, if_neg (fun q => n1 (bIn.mp q))], opFr_rf, opEnd_no (by decide) (by decide)⟩
theorem no_work {D n gn g : Nat} {G : Nat → Nat → Int32} (w : zWT G) (h : HIat D n gn G) (g1 : g < gn) (hs : G 6 (23 * g + 3) ≠ 0) :
    zden 6 0 [.ref 1, .int (nI g), .int 0, .int 1, .retAddr 0, .retAddr 0, .retAddr 0, .retAddr 0] [] (zSH, G) = some (some (.int (-14)), (zSH, zup (zup G 1 1 3) 1 2 (G 6 (23 * g + 3)))) := by
  have gl := h.gl
  have gl' : g < 12 := by omega
  have i4 : G 2 4 = nI gn := h.i4
  have hx1 : 0 ≤ nI g ∧ nI g < G 2 4 := by rw [i4]; exact (good_iff gl).mpr ⟨g, g1, rfl⟩
  have n1 : ¬ bI (0 ≤ nI g ∧ nI g < G 2 4) = 0 := bIn.mpr hx1
  have t3 : tget G 5 6 276 (nI g) 3 = G 6 (23 * g + 3) := gd_get (j := 3) w rfl (by decide) gl' (by omega)
  rw [B_Cl_workOn_0, if_neg n1, if_pos (bIn.mpr ⟨by decide, by decide⟩), if_pos (bIn.mpr ⟨by decide, by decide⟩), t3, if_neg hs, B_Cl_refuse_0, zaft_same]
  exact B_Cl_workOn_64
