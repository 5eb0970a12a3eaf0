-- 58: a round of the law
section ZOi
variable {k pc : Nat} {lst st : List Value} {h : zH} {M : zMt}
theorem zd_oini {r idx : Nat} (hc : zAt k pc M (.invokespecial idx) 3) (h1 : zcall M (.invokespecial idx) = none) (hq : (zlk zLL (M.1 * 65536 + idx)).map (fun q => q.1) = some 8) (hd : (Nat.ble 1 M.2.2.2.2.2.1 && Nat.ble (zwd st) 8) = true) : zden k pc lst (.ref r :: st) h = zden k (pc + 3) lst st h := by
  refine zd_go (o := (pc + 3, lst, st, h)) hc h1 rfl ?_
  simp only [Bool.and_eq_true] at hd
  have d1 := Nat.le_of_ble_eq_true hd.1
  have d2 := Nat.le_of_ble_eq_true hd.2
  show zlibk M pc lst _ h idx = _
  unfold zlibk
  cases hz : zlk zLL (M.1 * 65536 + idx) with
  | none => rw [hz] at hq; cases hq
  | some q =>
    rw [hz] at hq
    have hq : q.1 = 8 := Option.some.inj hq
    unfold zlib
    simp only [if_pos d1, hq, if_pos d2]
end ZOi
theorem hm_B_new' : zms[k_B_new]? = some m_B_new := rfl
theorem x_bits {E : List zS} {G : Nat → Nat → Int32} {b : Nat} {x : Int32} (hb : (zSH ++ E)[b]? = some (.inl (8, [none]))) : zden 105 0 [.ref b, .int x] [] (zSH ++ E, G) = some (none, (zSH ++ E, zup G b 0 x)) := by
  have a0 : zAt 105 0 m_B_new (.aload_n 0) 1 := ⟨hm_B_new', by decide +kernel⟩
  have a1 : zAt 105 1 m_B_new (.invokespecial 1) 3 := ⟨hm_B_new', by decide +kernel⟩
  have a4 : zAt 105 4 m_B_new (.aload_n 0) 1 := ⟨hm_B_new', by decide +kernel⟩
  have a5 : zAt 105 5 m_B_new (.iload_n 1) 1 := ⟨hm_B_new', by decide +kernel⟩
  have a6 : zAt 105 6 m_B_new (.putfield 7) 3 := ⟨hm_B_new', by decide +kernel⟩
  have a9 : zAt 105 9 m_B_new .return_ 1 := ⟨hm_B_new', by decide +kernel⟩
  exact (zd_aload_n a0 rfl).trans ((zd_oini a1 (by decide +kernel) (by decide +kernel) rfl).trans ((zd_aload_n a4 rfl).trans ((zd_iload_n a5 rfl).trans ((zd_putI (h := (zSH ++ E, G)) (ci := 8) (fi := 0) a6 (by decide +kernel) hb rfl rfl).trans (zd_vret a9 rfl)))))
-- cells that come behind
theorem at_ext {E X : List zS} {b : Nat} {s : zS} (h : (zSH ++ E)[b]? = some s) : (zSH ++ (E ++ X))[b]? = some s := by
  rw [← List.append_assoc]
  exact zx_at h
theorem at_new {E : List zS} {s : zS} : (zSH ++ (E ++ [s]))[90 + E.length]? = some s := by
  rw [List.getElem?_append_right (by show 90 ≤ _; omega), show 90 + E.length - zSH.length = E.length by show 90 + E.length - 90 = _; omega, List.getElem?_append_right (Nat.le_refl _), Nat.sub_self]
  rfl
theorem at_lt {E : List zS} {b : Nat} {s : zS} (h : (zSH ++ E)[b]? = some s) : b < 90 + E.length := by
  have := (List.getElem?_eq_some_iff.mp h).1
  rw [List.length_append] at this
  exact this
theorem eOK_ext {E : List zS} {s : zS} (h : eOK E) (hs : eB s = true) (hl : E.length < 800000) : eOK (E ++ [s]) := by
  refine ⟨?_, by rw [List.length_append]; show E.length + 1 ≤ 800000; omega⟩
  rw [List.all_append, h.1]
  show (true && (eB s && true)) = true
  rw [hs]
  rfl
theorem len_ext {E : List zS} {s : zS} : (E ++ [s]).length = E.length + 1 := List.length_append
theorem zsl_ext {E : List zS} {s : zS} : zsl (E ++ [s]) = zsl E + zsl1 s := by
  unfold zsl
  rw [List.map_append, List.sum_append]
  show _ + (zsl1 s + 0) = _
  omega
theorem zf_lt {n n2 r : Nat} (h : r < n) : zfr n n2 (.ref r) = true := by
  show (Nat.blt r n || Nat.ble n2 r) = true
  rw [Nat.blt_eq.mpr h]
  rfl
theorem zf_ge {n n2 r : Nat} (h : n2 ≤ r) : zfr n n2 (.ref r) = true := by
  show (Nat.blt r n || Nat.ble n2 r) = true
  rw [Nat.ble_eq.mpr h, Bool.or_true]
theorem zne_gt {m r : Nat} (h : m < r) : zne m (.ref r) = true := by
  show (!Nat.beq r m) = true
  cases hq : Nat.beq r m with
  | false => rfl
  | true =>
    have := Nat.eq_of_beq_eq_true hq
    omega
theorem all_c {α : Type} {f : α → Bool} {a : α} {l : List α} (h : f a = true) (hl : l.all f = true) : (a :: l).all f = true := by
  rw [List.all_cons, h, hl]
  rfl
/-- a value that may lie in a local while cells come behind m -/
def vL (m : Nat) (v : Value) : Prop := ∀ n, m ≤ n → zne n v = true ∧ ∀ n2, zfr n n2 v = true
theorem vL_int {m : Nat} {x : Int32} : vL m (.int x) := fun _ _ => ⟨rfl, fun _ => rfl⟩
theorem vL_ret {m a : Nat} : vL m (.retAddr a) := fun _ _ => ⟨rfl, fun _ => rfl⟩
theorem vL_ref {m r : Nat} (h : r < m) : vL m (.ref r) := fun n hn => ⟨zne_lt (by omega), fun _ => zf_lt (by omega)⟩
theorem vL.mono {m m' : Nat} {v : Value} (h : vL m v) (hm : m ≤ m') : vL m' v := fun n hn => h n (by omega)
theorem zgrd_new {E : List zS} {s : zS} {G G' : Nat → Nat → Int32} {lst rest : List Value} (hl : lst.all (zfr (90 + E.length) (90 + E.length + 1)) = true) (hr : rest.all (zfr (90 + E.length) (90 + E.length + 1)) = true) : zgrd (zSH ++ E, G) (zSH ++ (E ++ [s]), G') lst rest = true := by
  have e1 : (zSH ++ E).length = 90 + E.length := by rw [List.length_append]; rfl
  have e2 : (zSH ++ (E ++ [s])).length = 90 + E.length + 1 := by rw [List.length_append, len_ext]; rfl
  unfold zgrd
  show (decide (zSH ++ E = zSH ++ (E ++ [s])) || (lst.all (zfr (zSH ++ E).length (zSH ++ (E ++ [s])).length) && rest.all (zfr (zSH ++ E).length (zSH ++ (E ++ [s])).length))) = true
  rw [e1, e2, hl, hr, Bool.and_self, Bool.or_true]
-- what is told of houses that are the same
theorem told_same {D D' n gn : Nat} {G G' : Nat → Nat → Int32} {rv rv' : Nat → Int32 → Int32 → Int32} (hP : RDs G rv) (hP' : RDs G' rv') (w : zWT G) (w' : zWT G') (h : HIat D n gn G) (h' : HIat D' n gn G') (e : hEq G G') : ∀ j, j < 378 → tolV rv j = tolV rv' j := by
  intro j hj
  have hn := h.ho.1
  have gl := h.gl
  have ecode : ∀ p, p < 11 → rv 74 (nI p) 0 = rv' 74 (nI p) 0 := fun p hp => by rw [v74 hP w h (by omega), v74 hP' w' h' (by omega), e.2.1]
  unfold tolV
  by_cases a : j < 12
  · rw [if_pos a, if_pos a, v98 hP w h a, v98 hP' w' h' a, e.2.2.1, e.2.2.2]
    have ei := e.1
    rcases (show j = 0 ∨ j = 1 ∨ j = 2 ∨ j = 3 ∨ j = 4 ∨ j = 5 ∨ j = 6 ∨ j = 7 ∨ j = 8 ∨ j = 9 ∨ j = 10 ∨ j = 11 by omega) with rfl | rfl | rfl | rfl | rfl | rfl | rfl | rfl | rfl | rfl | rfl | rfl
    · exact (ei 5 (by decide) (by decide)).symm
    · exact congrArg (· - 1) (ei 3 (by decide) (by decide)).symm
    · exact (ei 4 (by decide) (by decide)).symm
    · rfl
    · rfl
    · rfl
    · exact (ei 6 (by decide) (by decide)).symm
    · exact (ei 7 (by decide) (by decide)).symm
    · exact (ei 8 (by decide) (by decide)).symm
    · exact (ei 9 (by decide) (by decide)).symm
    · exact (ei 10 (by decide) (by decide)).symm
    · rfl
  rw [if_neg a, if_neg a]
  by_cases b : j < 78
  · rw [if_pos b, if_pos b]
    have hp : (j - 12) / 6 < 11 := by omega
    by_cases c : (j - 12) % 6 = 0
    · rw [if_pos c, if_pos c]
      exact ecode _ hp
    · rw [if_neg c, if_neg c, ← ecode _ hp]
      by_cases q : (j - 12) / 6 ≤ n
      · have e1 := v73 (i := (j - 12) / 6) (k := (j - 12) % 6 - 1) hP w h q (by omega)
        have e2 := v73 (i := (j - 12) / 6) (k := (j - 12) % 6 - 1) hP' w' h' q (by omega)
        rw [e.2.1, e.2.2.1] at e2
        rw [rv_code hP w h q, e1, e2]
      · have z : rv 74 (nI ((j - 12) / 6)) 0 = -11 := (v74 hP w h (by omega)).trans (if_neg q)
        rw [z, v73n hP w h, v73n hP' w' h']
  rw [if_neg b, if_neg b]
  have hg : (j - 78) / 25 < 12 := by omega
  by_cases c : (j - 78) % 25 < 11
  · rw [if_pos c, if_pos c]
    by_cases q : (j - 78) / 25 < gn
    · rw [v78 hP w h q c, v78 hP' w' h' q c, e.2.1, e.2.2.1, e.2.2.2]
    · rw [v78n hP h (by omega) (by omega), v78n hP' h' (by omega) (by omega)]
  rw [if_neg c, if_neg c]
  by_cases d : (j - 78) % 25 < 21
  · rw [if_pos d, if_pos d]
    have hc : ((j - 78) % 25 - 11) / 2 < 5 := by omega
    by_cases q : (j - 78) / 25 < gn
    · by_cases p : ((j - 78) % 25 - 11) % 2 = 0
      · rw [if_pos p, if_pos p, v80 hP w h q hc, v80 hP' w' h' q hc, e.2.2.1]
      · rw [if_neg p, if_neg p, v89 hP w h q hc, v89 hP' w' h' q hc, e.2.1, e.2.2.1, e.2.2.2]
    · by_cases p : ((j - 78) % 25 - 11) % 2 = 0
      · rw [if_pos p, if_pos p, v80n hP h (by omega) (by omega), v80n hP' h' (by omega) (by omega)]
      · rw [if_neg p, if_neg p, v89n hP h (by omega) (by omega), v89n hP' h' (by omega) (by omega)]
  · rw [if_neg d, if_neg d]
    by_cases q : (j - 78) / 25 < gn
    · rw [v79 hP w h q (by omega), v79 hP' w' h' q (by omega), e.2.2.1]
    · rw [v79n hP h (by omega) (by omega), v79n hP' h' (by omega) (by omega)]
theorem eqr_same {E : List zS} {G : Nat → Nat → Int32} {a b : Nat} {V V' : Nat → Int32} (ha : (zSH ++ E)[a]? = some (.inr (.int, 420, []))) (hb : (zSH ++ E)[b]? = some (.inr (.int, 420, []))) (ea : G a = preV V 378) (eb : G b = preV V' 378) (e : ∀ j, j < 378 → V j = V' j) : zeqr (zSH ++ E, G) a b = true := by
  unfold zeqr
  simp only [ha, hb]
  have : ∀ j, G a j = G b j := fun j => by
    rw [ea, eb]
    unfold preV
    by_cases q : j < 378
    · rw [if_pos q, if_pos q]; exact e j q
    · rw [if_neg q, if_neg q]
  rw [show Nat.beq 420 420 = true from rfl, Bool.true_and, Bool.true_and, List.all_eq_true]
  intro j _
  exact beq_iff_eq.mpr (this j)
section ZLaw
variable {D n gn f u : Nat} {E : List zS} {G : Nat → Nat → Int32}
/-- told, as the law calls it -/
theorem l_told {rv : Nat → Int32 → Int32 → Int32} {pc : Nat} {lst st : List Value} (hok : eOK E) (hP : RDs G rv) (hl : lst.all (zfr (90 + E.length) (90 + E.length + 1)) = true) (hs : st.all (zfr (90 + E.length) (90 + E.length + 1)) = true) :
    ∃ G' : Nat → Nat → Int32, zaft 130 pc lst st (zSH ++ E, G) (zden 123 0 [.ref 0, .retAddr 0, .retAddr 0, .retAddr 0, .retAddr 0, .retAddr 0] [] (zSH ++ E, G)) = zden 130 pc lst (.ref (90 + E.length) :: st) (zSH ++ (E ++ [.inr (.int, 420, [])]), G') ∧ G' (90 + E.length) = preV (tolV rv) 378 ∧ ∀ k, k ≠ 90 + E.length → G' k = G k := by
  obtain ⟨G', a, b, c⟩ := x_told hok hP
  refine ⟨G', ?_, b, c⟩
  rw [a, zaft_grd (zgrd_new hl hs)]
  rfl
/-- the checks behind a change -/
theorem l_312 {x2 x3 x5 x9 : Int32} {i b w : Nat} (hF : zFP) (hL : LI D n gn f u G) (g3 : 3 ≤ gn) (hD : D ≤ 5900) (hok : eOK E) (hlen : E.length ≤ 700000) (hi : i < 26) (hb : (zSH ++ E)[b]? = some (.inl (8, [none]))) (hb9 : 90 ≤ b ∧ b < 1000000) (hw : (zSH ++ E)[w]? = some (.inr (.int, 420, []))) (hw9 : 90 ≤ w ∧ w < 1000000) :
    ∃ (E' : List zS) (G' : Nat → Nat → Int32) (f' u' : Nat) (y7 : Int32) (v8 : Value), zden 130 312 [.ref 2000000, .ref 0, .int x2, .int x3, .int (nI i), .int x5, .ref b, .int (nI u), .ref w, .int x9] [] (zSH ++ E, G) =
      zden 130 171 [.ref 2000000, .ref 0, .int x2, .int x3, .int (nI (i + 1)), .int x5, .ref b, .int y7, v8, .int x9] [] (zSH ++ E', G') ∧ LI D n gn f' u' G' ∧ eOK E' ∧ E.length ≤ E'.length ∧ E'.length ≤ E.length + 3 ∧ zsl E' ≤ zsl E + 843 ∧ (∀ k, 1000000 ≤ k → G' k = G k) ∧ vL (90 + E'.length) v8 ∧ b < 90 + E'.length := by
  have gl := hL.h.gl
  have lb := at_lt hb
  have lw := at_lt hw
  obtain ⟨rv, hP⟩ := rd_ex hL.w hL.h
  rw [B_L_law_312 hb hb9 hw hw9 hP, if_neg (fun q => q ((v98u hP).trans hL.u4)), if_neg (fun q => q ((v98t hP).trans hL.tx)), x_headings (E := E) hP hL.w hL.h, zaft_same]
  obtain ⟨G1, a1, iv1, o1⟩ := x_goods hL.iv hF hok hP hL.w hL.h hL.k (show 0 < gn by omega)
  have L1 : LI D n gn f u G1 := by
    have o : ∀ k, k < 90 → k ≠ 83 → G1 k = G k := fun k h1 h2 => o1 k h2 (by omega)
    obtain ⟨c1, c2, c3, c4, c5, c6, c7, c8, _⟩ := hL
    refine ⟨sr_w c1 o, ?_, sr_h c3 o, c4, c5, ?_, ?_, ?_, iv1⟩
    · unfold zRk; rw [o 82 (by decide) (by decide)]; exact c2
    · rw [o 9 (by decide) (by decide)]; exact c6
    · rw [o 9 (by decide) (by decide)]; exact c7
    · rw [o 84 (by decide) (by decide)]; exact c8
  have hok1 := eOK_ext (s := .inr (.int, 3, [])) hok rfl (by omega)
  have hb1 : (zSH ++ (E ++ [.inr (.int, 3, [])]))[b]? = _ := at_ext hb
  have hw1 : (zSH ++ (E ++ [.inr (.int, 3, [])]))[w]? = _ := at_ext hw
  have step : zden 130 336 [.ref 2000000, .ref 0, .int x2, .int x3, .int (nI i), .int x5, .ref b, .int (nI u), .ref w, .int x9] [.int 1] (zSH ++ E, G) = zden 130 343 [.ref 2000000, .ref 0, .int x2, .int x3, .int (nI i), .int x5, .ref b, .int (nI u), .ref w, .int x9] [.int 1] (zSH ++ (E ++ [.inr (.int, 3, [])]), G1) := by
    rw [B_L_law_336 hb hb9 hw hw9, if_neg (by decide), a1, zaft_grd (zgrd_new (all_c (zf_ge (by omega)) (all_c (zf_lt (by omega)) (all_c rfl (all_c rfl (all_c rfl (all_c rfl (all_c (zf_lt lb) (all_c rfl (all_c (zf_lt lw) (all_c rfl rfl)))))))))) rfl)]
    rfl
  have len1 : (E ++ [.inr (.int, 3, [])] : List zS).length = E.length + 1 := len_ext
  have sl1 : zsl (E ++ [.inr (.int, 3, [])] : List zS) = zsl E + 3 := zsl_ext
  have e343 : zden 130 343 [.ref 2000000, .ref 0, .int x2, .int x3, .int (nI i), .int x5, .ref b, .int (nI u), .ref w, .int x9] [.int 1] (zSH ++ (E ++ [.inr (.int, 3, [])]), G1) = _ := B_L_law_343 hb1 hb9 hw1 hw9
  rw [if_pos (by decide)] at e343
  refine Exists.imp (fun E' => Exists.imp (fun G' => Exists.imp (fun f' => Exists.imp (fun u' => Exists.imp (fun y7 => Exists.imp (fun v8 => And.imp_left (fun z => step.trans (e343.trans z)))))))) ?_
  by_cases m3 : ¬ nI i - nI i / 4 * 4 = 3
  · rw [if_pos m3]
    refine ⟨_, G1, f, u, nI u, .ref w, ?_, L1, hok1, by omega, by omega, by omega, fun k hk => o1 k (by omega) (by omega), vL_ref (by omega), by omega⟩
    rw [B_L_law_394 hb1 hb9, nI_1]
  · rw [if_neg m3]
    generalize hE1 : (E ++ [.inr (.int, 3, [])] : List zS) = E1 at *
    obtain ⟨rv1, hP1⟩ := rd_ex L1.w L1.h
    obtain ⟨G2, a2, b2, o2⟩ := l_told (E := E1) (pc := 360) (lst := [.ref 2000000, .ref 0, .int x2, .int x3, .int (nI i), .int x5, .ref b, .int (nI u), .ref w, .int x9]) (st := []) hok1 hP1 (all_c (zf_ge (by omega)) (all_c (zf_lt (by omega)) (all_c rfl (all_c rfl (all_c rfl (all_c rfl (all_c (zf_lt (by omega)) (all_c rfl (all_c (zf_lt (by omega)) (all_c rfl rfl)))))))))) rfl
    have hok2 := eOK_ext (s := .inr (.int, 420, [])) hok1 rfl (by omega)
    have hb2 : (zSH ++ (E1 ++ [.inr (.int, 420, [])]))[b]? = _ := at_ext hb1
    have hw2 : (zSH ++ (E1 ++ [.inr (.int, 420, [])]))[w]? = _ := at_ext hw1
    have hq2 : (zSH ++ (E1 ++ [.inr (.int, 420, [])]))[90 + E1.length]? = some (.inr (.int, 420, [])) := at_new
    have len2 : (E1 ++ [.inr (.int, 420, [])] : List zS).length = E1.length + 1 := len_ext
    have sl2 : zsl (E1 ++ [.inr (.int, 420, [])] : List zS) = zsl E1 + 420 := zsl_ext
    have L2 := LI_same L1 (X := G2) (fun i hi => o2 i (by omega))
    generalize hE2 : (E1 ++ [.inr (.int, 420, [])] : List zS) = E2 at *
    have hq9 : 90 ≤ 90 + E1.length ∧ 90 + E1.length < 1000000 := by omega
    obtain ⟨G3, a3, he3, ⟨f3, L3⟩, o3⟩ := x_foretold (E := E2) hb2 hb9 hD L2 (by omega)
    have e360 : zden 130 360 [.ref 2000000, .ref 0, .int x2, .int x3, .int (nI i), .int x5, .ref b, .int (nI u), .ref w, .int x9] [.ref (90 + E1.length)] (zSH ++ E2, G2) = _ := B_L_law_360 hb2 hb9 hq2 hq9 hw2 hw9
    rw [a3, zaft_same] at e360
    have e368 := e360.trans (B_L_law_368 (s0 := 1) hb2 hb9 hq2 hq9)
    rw [if_neg (by decide)] at e368
    obtain ⟨rv3, hP3⟩ := rd_ex L3.w L3.h
    obtain ⟨G4, a4, b4, o4⟩ := l_told (E := E2) (pc := 377) (lst := [.ref 2000000, .ref 0, .int x2, .int x3, .int (nI i), .int x5, .ref b, .int (nI u), .ref (90 + E1.length), .int x9]) (st := [.ref (90 + E1.length)]) hok2 hP3 (all_c (zf_ge (by omega)) (all_c (zf_lt (by omega)) (all_c rfl (all_c rfl (all_c rfl (all_c rfl (all_c (zf_lt (by omega)) (all_c rfl (all_c (zf_lt (by omega)) (all_c rfl rfl)))))))))) (all_c (zf_lt (by omega)) rfl)
    have hok3 := eOK_ext (s := .inr (.int, 420, [])) hok2 rfl (by omega)
    have hb3 : (zSH ++ (E2 ++ [.inr (.int, 420, [])]))[b]? = _ := at_ext hb2
    have hq3 : (zSH ++ (E2 ++ [.inr (.int, 420, [])]))[90 + E1.length]? = _ := at_ext hq2
    have ht3 : (zSH ++ (E2 ++ [.inr (.int, 420, [])]))[90 + E2.length]? = some (.inr (.int, 420, [])) := at_new
    have len3 : (E2 ++ [.inr (.int, 420, [])] : List zS).length = E2.length + 1 := len_ext
    have sl3 : zsl (E2 ++ [.inr (.int, 420, [])] : List zS) = zsl E2 + 420 := zsl_ext
    have L4 := LI_same L3 (X := G4) (fun i hi => o4 i (by omega))
    have ht9 : 90 ≤ 90 + E2.length ∧ 90 + E2.length < 1000000 := by omega
    have eq4 : zeqr (zSH ++ (E2 ++ [.inr (.int, 420, [])]), G4) (90 + E1.length) (90 + E2.length) = true :=
      eqr_same hq3 ht3 ((o4 _ (by omega)).trans ((o3 _ (by omega) (by omega)).trans b2)) b4 (told_same hP1 hP3 L1.w L3.w L1.h L3.h ((show hEq G1 G2 from ⟨fun j _ _ => by rw [o2 2 (by omega)], o2 4 (by omega), o2 6 (by omega), o2 8 (by omega)⟩).tr he3))
    obtain ⟨rv4, hP4⟩ := rd_ex L4.w L4.h
    refine ⟨_, G4, f3, 0, nI u, .ref (90 + E1.length), ?_, L4, hok3, by omega, by omega, by omega, fun k hk => (o4 k (by omega)).trans ((o3 k (by omega) (by omega)).trans ((o2 k (by omega)).trans (o1 k (by omega) (by omega)))), vL_ref (by omega), by omega⟩
    rw [a2]
    refine e368.trans ?_
    rw [a4]
    refine (B_L_law_377 hb3 hb9 hq3 hq9 ht3 ht9 hP4 eq4).trans ?_
    rw [if_pos (show rv4 98 13 0 = 0 from (v98u hP4).trans L4.u4), B_L_law_394 hb3 hb9, nI_1]
/-- from the beginning of a round to its checks -/
theorem l_171 {L i : Nat} {x3 : Int32} {v5 v6 v7 v8 v9 : Value} (hL : LI D n gn f u G) (g3 : 3 ≤ gn) (hD : D ≤ 5900) (hok : eOK E) (hlen : E.length ≤ 700000) (hi : i < 26) (hx : G 2000001 0 = nI L) (hL2 : L ≤ 260) (q6 : vL (90 + E.length) v6) (q7 : vL (90 + E.length) v7) (q8 : vL (90 + E.length) v8) (q9 : vL (90 + E.length) v9) :
    ∃ (E' : List zS) (G' : Nat → Nat → Int32) (D' n' gn' f' u' b w : Nat) (x5 x9 : Int32), zden 130 171 [.ref 2000000, .ref 0, .int (nI (2 * i)), .int x3, .int (nI i), v5, v6, v7, v8, v9] [] (zSH ++ E, G) =
      zden 130 312 [.ref 2000000, .ref 0, .int (nI (2 * (i + 1))), .int x3, .int (nI i), .int x5, .ref b, .int (nI u'), .ref w, .int x9] [] (zSH ++ E', G') ∧ LI D' n' gn' f' u' G' ∧ gn ≤ gn' ∧ D' ≤ D + 1 ∧ eOK E' ∧ E.length ≤ E'.length ∧ E'.length ≤ E.length + 3 ∧ zsl E' ≤ zsl E + 841 ∧ (∀ k, 1000000 ≤ k → G' k = G k) ∧
      (zSH ++ E')[b]? = some (.inl (8, [none])) ∧ (90 ≤ b ∧ b < 1000000) ∧ (zSH ++ E')[w]? = some (.inr (.int, 420, [])) ∧ (90 ≤ w ∧ w < 1000000) := by
  obtain ⟨y, ey⟩ := x_cell (E := E) (G := G) (i := 2 * i) hx (by omega) (by omega)
  have hn : ¬ (26 : Int32) ≤ nI i := by rw [show (26 : Int32) = nI 26 by decide]; exact nI_ge hi (by decide)
  -- the bits
  have hb : (zSH ++ (E ++ [.inl (8, [none])]))[90 + E.length]? = some (.inl (8, [none])) := at_new
  have hb9 : 90 ≤ 90 + E.length ∧ 90 + E.length < 1000000 := by omega
  have hok1 := eOK_ext (s := .inl (8, [none])) hok rfl (by omega)
  have len1 : (E ++ [.inl (8, [none])] : List zS).length = E.length + 1 := len_ext
  have sl1 : zsl (E ++ [.inl (8, [none])] : List zS) = zsl E + 1 := zsl_ext
  have o1 : ∀ k, k ≠ 90 + E.length → zrow G (90 + E.length) (fun _ => 0) k = G k := fun k hk => if_neg hk
  generalize hG1 : zrow G (90 + E.length) (fun _ => 0) = G1 at *
  have e171 : zden 130 171 [.ref 2000000, .ref 0, .int (nI (2 * i)), .int x3, .int (nI i), v5, v6, v7, v8, v9] [] (zSH ++ E, G) = zden 130 192 [.ref 2000000, .ref 0, .int (nI (2 * i)), .int x3, .int (nI i), .int (y &&& 255), v6, v7, v8, v9] (.ref (90 + E.length) :: []) (zSH ++ (E ++ [.inl (8, [none])]), G1) := by
    rw [B_L_law_171, if_neg hn, ey, zaft_same]
    refine (B_L_law_183 hok (all_c (zne_gt (by omega)) (all_c (zne_lt (by omega)) (all_c rfl (all_c rfl (all_c rfl (all_c rfl (all_c (q6 _ (Nat.le_refl _)).1 (all_c (q7 _ (Nat.le_refl _)).1 (all_c (q8 _ (Nat.le_refl _)).1 (all_c (q9 _ (Nat.le_refl _)).1 rfl)))))))))) rfl).trans ?_
    rw [hG1]
  generalize hE1 : (E ++ [.inl (8, [none])] : List zS) = E1 at *
  generalize hbb : 90 + E.length = b at *
  obtain ⟨y2, ey2⟩ := x_cell (E := E1) (G := G1) (i := 2 * i + 1) (by rw [o1 2000001 (by omega)]; exact hx) (by omega) (by omega)
  have e200 : zden 130 192 [.ref 2000000, .ref 0, .int (nI (2 * i)), .int x3, .int (nI i), .int (y &&& 255), v6, v7, v8, v9] (.ref b :: []) (zSH ++ E1, G1) = zden 130 203 [.ref 2000000, .ref 0, .int (nI (2 * i)), .int x3, .int (nI i), .int (y &&& 255), v6, v7, v8, v9] [.ref b] (zSH ++ E1, zup G1 b 0 y2) := by
    refine (B_L_law_192 hb hb9).trans ?_
    rw [nI_1, ey2, zaft_same]
    refine (B_L_law_200 hb hb9).trans ?_
    rw [x_bits hb, zaft_same]
    rfl
  have o2 : ∀ k, k ≠ b → zup G1 b 0 y2 k = G k := fun k hk => (zup_ro hk).trans (o1 k hk)
  generalize hG2 : zup G1 b 0 y2 = G2 at *
  have L2 := LI_same hL (X := G2) (fun k hk => o2 k (by omega))
  -- what is told before
  obtain ⟨rv, hP⟩ := rd_ex L2.w L2.h
  obtain ⟨G3, a3, b3, o3⟩ := l_told (E := E1) (pc := 220) (lst := [.ref 2000000, .ref 0, .int (nI (2 * i) + 2), .int x3, .int (nI i), .int (y &&& 255), .ref b, .int (rv 98 13 0), v8, v9]) (st := []) hok1 hP (all_c (zf_ge (by omega)) (all_c (zf_lt (by omega)) (all_c rfl (all_c rfl (all_c rfl (all_c rfl (all_c (zf_lt (by omega)) (all_c rfl (all_c ((q8 _ (by omega)).2 _) (all_c ((q9 _ (by omega)).2 _) rfl)))))))))) rfl
  have hb2 : (zSH ++ (E1 ++ [.inr (.int, 420, [])]))[b]? = _ := at_ext hb
  have hw2 : (zSH ++ (E1 ++ [.inr (.int, 420, [])]))[90 + E1.length]? = some (.inr (.int, 420, [])) := at_new
  have hw9 : 90 ≤ 90 + E1.length ∧ 90 + E1.length < 1000000 := by omega
  have hok2 := eOK_ext (s := .inr (.int, 420, [])) hok1 rfl (by omega)
  have len2 : (E1 ++ [.inr (.int, 420, [])] : List zS).length = E1.length + 1 := len_ext
  have sl2 : zsl (E1 ++ [.inr (.int, 420, [])] : List zS) = zsl E1 + 420 := zsl_ext
  have L3 := LI_same L2 (X := G3) (fun k hk => o3 k (by omega))
  have he23 : hEq G2 G3 := ⟨fun j _ _ => by rw [o3 2 (by omega)], o3 4 (by omega), o3 6 (by omega), o3 8 (by omega)⟩
  generalize hww : 90 + E1.length = w at *
  generalize hE2 : (E1 ++ [.inr (.int, 420, [])] : List zS) = E2 at *
  have e203 : zden 130 203 [.ref 2000000, .ref 0, .int (nI (2 * i)), .int x3, .int (nI i), .int (y &&& 255), v6, v7, v8, v9] [.ref b] (zSH ++ E1, G2) = zden 130 220 [.ref 2000000, .ref 0, .int (nI (2 * i) + 2), .int x3, .int (nI i), .int (y &&& 255), .ref b, .int (rv 98 13 0), v8, v9] [.ref w] (zSH ++ E2, G3) := (B_L_law_203 hb hb9 hP).trans a3
  have eat : nI (2 * i) + 2 = nI (2 * (i + 1)) := by rw [show (2 : Int32) = nI 2 by decide, nI_add]; exact congrArg nI (by omega)
  rw [eat, show rv 98 13 0 = nI u from (v98u hP).trans L2.u4] at e203
  -- something is done
  have hctx : ACtx D n gn f u b E2 G3 := ⟨by omega, L3, hb2, hb9⟩
  obtain ⟨r, G4, a4, en, o4⟩ := A_0 (x1 := y &&& 255) (G := G3) hctx (fun _ _ => rfl)
  have e220 : zden 130 220 [.ref 2000000, .ref 0, .int (nI (2 * (i + 1))), .int x3, .int (nI i), .int (y &&& 255), .ref b, .int (nI u), v8, v9] [.ref w] (zSH ++ E2, G3) = zden 130 230 [.ref 2000000, .ref 0, .int (nI (2 * (i + 1))), .int x3, .int (nI i), .int (y &&& 255), .ref b, .int (nI u), .ref w, v9] [.int r] (zSH ++ E2, G4) := by
    refine (B_L_law_220 hb2 hb9 hw2 hw9).trans ?_
    rw [a4, zaft_same]
    rfl
  have pre := e171.trans (e200.trans (e203.trans e220))
  have fr4 : ∀ k, 1000000 ≤ k → G4 k = G k := fun k hk => (o4 k (by omega) (by omega)).trans ((o3 k (by omega)).trans (o2 k (by omega)))
  have w4 : G4 w = preV (tolV rv) 378 := (o4 w (by omega) (by omega)).trans b3
  rcases en with ⟨rn, _, he, L4⟩ | ⟨rp, n', gn', hg, L4, kp⟩
  · -- it was not done
    have r0 : ¬ (0 : Int32) ≤ r := by rw [Int32.not_le]; exact rn
    obtain ⟨rv4, hP4⟩ := rd_ex L4.w L4.h
    obtain ⟨G5, a5, b5, o5⟩ := l_told (E := E2) (pc := 243) (lst := [.ref 2000000, .ref 0, .int (nI (2 * (i + 1))), .int x3, .int (nI i), .int (y &&& 255), .ref b, .int (nI u), .ref w, .int r]) (st := [.ref w]) hok2 hP4 (all_c (zf_ge (by omega)) (all_c (zf_lt (by omega)) (all_c rfl (all_c rfl (all_c rfl (all_c rfl (all_c (zf_lt (by omega)) (all_c rfl (all_c (zf_lt (by omega)) (all_c rfl rfl)))))))))) (all_c (zf_lt (by omega)) rfl)
    have hb3 : (zSH ++ (E2 ++ [.inr (.int, 420, [])]))[b]? = _ := at_ext hb2
    have hw3 : (zSH ++ (E2 ++ [.inr (.int, 420, [])]))[w]? = _ := at_ext hw2
    have ht3 : (zSH ++ (E2 ++ [.inr (.int, 420, [])]))[90 + E2.length]? = some (.inr (.int, 420, [])) := at_new
    have ht9 : 90 ≤ 90 + E2.length ∧ 90 + E2.length < 1000000 := by omega
    have hok3 := eOK_ext (s := .inr (.int, 420, [])) hok2 rfl (by omega)
    have len3 : (E2 ++ [.inr (.int, 420, [])] : List zS).length = E2.length + 1 := len_ext
    have sl3 : zsl (E2 ++ [.inr (.int, 420, [])] : List zS) = zsl E2 + 420 := zsl_ext
    have L5 := LI_same L4 (X := G5) (fun k hk => o5 k (by omega))
    have eq5 : zeqr (zSH ++ (E2 ++ [.inr (.int, 420, [])]), G5) w (90 + E2.length) = true :=
      eqr_same hw3 ht3 ((o5 w (by omega)).trans w4) b5 (told_same hP hP4 L2.w L4.w L2.h L4.h (he23.tr he))
    refine ⟨_, G5, D, n, gn, f, u, b, w, y &&& 255, r, ?_, L5, Nat.le_refl _, by omega, hok3, by omega, by omega, by omega, fun k hk => (o5 k (by omega)).trans (fr4 k hk), hb3, hb9, hw3, hw9⟩
    refine pre.trans ((B_L_law_230 hb2 hb9 hw2 hw9).trans ?_)
    rw [if_neg r0, a5]
    refine (B_L_law_243 hb3 hb9 ht3 ht9 hw3 hw9 eq5).trans ?_
    rw [B_L_law_251 hb3 hb9 hw3 hw9, if_neg r0, B_L_law_270 hb3 hb9 hw3 hw9, if_pos rn]
  · -- it was done
    have ul := hL.ul
    have fl := hL.fl
    have r0 : (0 : Int32) ≤ r := by
      obtain ⟨m, _, m2, rfl⟩ := rp
      exact nI_pos' (by omega)
    have rn : ¬ r < 0 := by rw [Int32.not_lt]; exact r0
    obtain ⟨v, hv⟩ : ∃ v, (if u = 8 then 8 else u + 1) = v + 1 := by
      by_cases z : u = 8
      · exact ⟨7, by rw [if_pos z]⟩
      · exact ⟨u, by rw [if_neg z]⟩
    have v8' : v ≤ 7 := by
      by_cases z : u = 8
      · rw [if_pos z] at hv; omega
      · rw [if_neg z] at hv; omega
    have emin : (if nI u + 1 < 8 then nI u + 1 else 8) = nI (v + 1) := by
      rw [nI_1, nIlit_8]
      by_cases z : u = 8
      · rw [if_pos z] at hv
        rw [z, if_neg (by decide)]
        exact congrArg nI hv
      · rw [if_neg z] at hv
        by_cases z2 : u + 1 < 8
        · rw [if_pos (nI_lt z2 (by decide)), hv]
        · rw [if_neg (nI_nlt (by omega) (by omega))]
          exact congrArg nI (by omega)
    rw [hv] at L4
    obtain ⟨y4, G5, a5, y5, o5⟩ := x_next (G := G4) (x := 4) (m := 4) hb2 hb9 (by decide) (by decide) (by decide)
    have L5 := LI_same L4 (X := G5) (fun k hk => o5 k (by omega))
    have e230 : zden 130 230 [.ref 2000000, .ref 0, .int (nI (2 * (i + 1))), .int x3, .int (nI i), .int (y &&& 255), .ref b, .int (nI u), .ref w, v9] [.int r] (zSH ++ E2, G4) = zden 130 283 [.ref 2000000, .ref 0, .int (nI (2 * (i + 1))), .int x3, .int (nI i), .int (y &&& 255), .ref b, .int (nI (v + 1)), .ref w, .int r] [.int (nI y4)] (zSH ++ E2, G5) := by
      refine (B_L_law_230 hb2 hb9 hw2 hw9).trans ?_
      rw [if_pos r0, B_L_law_251 hb2 hb9 hw2 hw9, if_pos r0, emin, B_L_law_270 hb2 hb9 hw2 hw9, if_neg rn, a5, zaft_same]
      rfl
    by_cases z4 : nI y4 = 0
    · -- it is undone
      have kp5 : keptAt (kb (((f + 1) % 9 + 8) % 9)) G3 G5 := by
        rw [show ((f + 1) % 9 + 8) % 9 = f by omega]
        have hk : kb f = 18 + 7 * f := rfl
        unfold keptAt at kp ⊢
        rw [o5 (kb f) (by omega), o5 (kb f + 2) (by omega), o5 (kb f + 4) (by omega), o5 (kb f + 6) (by omega)]
        exact kp
      obtain ⟨G6, a6, he6, L6, s6⟩ := ch_undo L5 L3.h L3.iv kp5
      obtain ⟨rv6, hP6⟩ := rd_ex L6.w L6.h
      obtain ⟨G7, a7, b7, o7⟩ := l_told (E := E2) (pc := 304) (lst := [.ref 2000000, .ref 0, .int (nI (2 * (i + 1))), .int x3, .int (nI i), .int (y &&& 255), .ref b, .int (nI v), .ref w, .int r]) (st := [.ref w]) hok2 hP6 (all_c (zf_ge (by omega)) (all_c (zf_lt (by omega)) (all_c rfl (all_c rfl (all_c rfl (all_c rfl (all_c (zf_lt (by omega)) (all_c rfl (all_c (zf_lt (by omega)) (all_c rfl rfl)))))))))) (all_c (zf_lt (by omega)) rfl)
      have hb3 : (zSH ++ (E2 ++ [.inr (.int, 420, [])]))[b]? = _ := at_ext hb2
      have hw3 : (zSH ++ (E2 ++ [.inr (.int, 420, [])]))[w]? = _ := at_ext hw2
      have ht3 : (zSH ++ (E2 ++ [.inr (.int, 420, [])]))[90 + E2.length]? = some (.inr (.int, 420, [])) := at_new
      have ht9 : 90 ≤ 90 + E2.length ∧ 90 + E2.length < 1000000 := by omega
      have hok3 := eOK_ext (s := .inr (.int, 420, [])) hok2 rfl (by omega)
      have len3 : (E2 ++ [.inr (.int, 420, [])] : List zS).length = E2.length + 1 := len_ext
      have sl3 : zsl (E2 ++ [.inr (.int, 420, [])] : List zS) = zsl E2 + 420 := zsl_ext
      have L7 := LI_same L6 (X := G7) (fun k hk => o7 k (by omega))
      have w6 : G6 w = preV (tolV rv) 378 := (s6.1 w (by omega)).trans ((o5 w (by omega)).trans w4)
      have eq7 : zeqr (zSH ++ (E2 ++ [.inr (.int, 420, [])]), G7) w (90 + E2.length) = true :=
        eqr_same hw3 ht3 ((o7 w (by omega)).trans w6) b7 (told_same hP hP6 L2.w L6.w L2.h L6.h (he23.tr he6))
      refine ⟨_, G7, D, n, gn, _, v, b, w, y &&& 255, r, ?_, L7, Nat.le_refl _, by omega, hok3, by omega, by omega, by omega, fun k hk => (o7 k (by omega)).trans ((s6.1 k (by omega)).trans ((o5 k (by omega)).trans (fr4 k hk))), hb3, hb9, hw3, hw9⟩
      refine pre.trans (e230.trans ((B_L_law_283 hb2 hb9 hw2 hw9).trans ?_))
      rw [if_neg (fun q => q z4), pk_m1, zden_x E2 a6, zaft_same]
      refine (B_L_law_293 hb2 hb9 hw2 hw9).trans ?_
      rw [if_neg (fun q => q rfl), a7]
      exact B_L_law_304 hb3 hb9 ht3 ht9 hw3 hw9 eq7
    · refine ⟨E2, G5, D + 1, n', gn', _, v + 1, b, w, y &&& 255, r, ?_, L5, hg, by omega, hok2, by omega, by omega, by omega, fun k hk => (o5 k (by omega)).trans (fr4 k hk), hb2, hb9, hw2, hw9⟩
      refine pre.trans (e230.trans ((B_L_law_283 hb2 hb9 hw2 hw9).trans ?_))
      rw [if_pos z4]
/-- the rounds -/
theorem l_loop {L : Nat} {x3 : Int32} (hF : zFP) (hx3 : ¬ x3 ≤ 0) (hL2 : L ≤ 260) : ∀ (d i D n gn f u : Nat) (E : List zS) (G : Nat → Nat → Int32) (v5 v6 v7 v8 v9 : Value), i + d = 26 → LI D n gn f u G → 3 ≤ gn → D ≤ 100 + i → eOK E → E.length ≤ 10 * i → zsl E ≤ 2000 * i → G 2000001 0 = nI L → vL (90 + E.length) v6 → vL (90 + E.length) v7 → vL (90 + E.length) v8 → vL (90 + E.length) v9 →
    ∃ (E' : List zS) (G' : Nat → Nat → Int32), zden 130 171 [.ref 2000000, .ref 0, .int (nI (2 * i)), .int x3, .int (nI i), v5, v6, v7, v8, v9] [] (zSH ++ E, G) = some (some (.int 1), (zSH ++ E', G')) ∧ E'.length ≤ 260 ∧ zsl E' ≤ 52000 := by
  intro d
  induction d with
  | zero =>
    intro i D n gn f u E G v5 v6 v7 v8 v9 h hL g3 hD hok hlen hsl hx q6 q7 q8 q9
    have h : i = 26 := by omega
    subst h
    refine ⟨E, G, ?_, by omega, by omega⟩
    rw [B_L_law_171, if_pos (by decide), if_neg hx3]
  | succ d ih =>
    intro i D n gn f u E G v5 v6 v7 v8 v9 h hL g3 hD hok hlen hsl hx q6 q7 q8 q9
    obtain ⟨E1, G1, D1, n1, gn1, f1, u1, b, w, x5, x9, a1, L1, g1, d1, hok1, le1, le1', sl1, fr1, hb, hb9, hw, hw9⟩ := l_171 (x3 := x3) (v5 := v5) (v6 := v6) (v7 := v7) (v8 := v8) (v9 := v9) hL g3 (by omega) hok (by omega) (show i < 26 by omega) hx hL2 q6 q7 q8 q9
    obtain ⟨E2, G2, f2, u2, y7, v8', a2, L2, hok2, le2, le2', sl2, fr2, qv8, qb⟩ := l_312 (x2 := nI (2 * (i + 1))) (x3 := x3) (x5 := x5) (x9 := x9) hF L1 (by omega) (by omega) hok1 (by omega) (show i < 26 by omega) hb hb9 hw hw9
    obtain ⟨E', G', a3, l3, s3⟩ := ih (i + 1) D1 n1 gn1 f2 u2 E2 G2 (.int x5) (.ref b) (.int y7) v8' (.int x9) (by omega) L2 (by omega) (by omega) hok2 (by omega) (by omega) (by rw [fr2 2000001 (by decide), fr1 2000001 (by decide)]; exact hx) (vL_ref qb) vL_int qv8 vL_int
    exact ⟨E', G', a1.trans (a2.trans a3), l3, s3⟩
/-- the first checks -/
theorem l_10 {L : Nat} (hF : zFP) (hL2 : L ≤ 260) (hc : zck18 G = true) (iv : zinv (zSH, G)) (hx : G 2000001 0 = nI L) :
    ∃ (E' : List zS) (G' : Nat → Nat → Int32), zden 130 10 [.ref 2000000, .ref 0, .int 0, .retAddr 0, .retAddr 0, .retAddr 0, .retAddr 0, .retAddr 0, .retAddr 0, .retAddr 0] [] (zSH, G) = some (some (.int 1), (zSH ++ E', G')) ∧ E'.length ≤ 260 ∧ zsl E' ≤ 52000 := by
  have L0 := LI_init hc iv
  have e0 : (zSH : List zS) = zSH ++ [] := (List.append_nil _).symm
  have undo : zden 102 0 [.ref 0] [] (zSH, G) = some (some (.int (-15)), (zSH, G)) := by
    rw [B_T_undo_0, B_Hi_stepBack_0, if_neg (by rw [L0.u4]; decide), zaft_same]
    exact B_T_undo_11
  have s1 : G 9 2 = 0 := cv hc 9 2 (by decide +kernel)
  have rest : zden 104 0 [.ref 0] [] (zSH, G) = some (some (.int (-15)), (zSH, G)) := by
    rw [B_T_restore_0, C_Hi_restoreTo_0, if_pos s1, C_Hi_restoreTo_20 (by rw [s1]; exact znr_b0), zaft_same, s1]
    exact B_T_restore_11.trans (if_pos rfl)
  have reas0 : zden 97 0 [.ref 0, .int 0] [] (zSH, G) = some (some (.int (-15)), (zSH, G)) := by
    rw [rd_reason, if_pos rfl, show G 1 1 = -15 from cv hc 1 1 (by decide +kernel)]
  obtain ⟨G1, a1, o1, t1⟩ := run0 L0.tx (cv hc 87 0 (by decide +kernel))
  have iv1 := zden_inv iv a1
  have L1 : LI 0 0 0 0 0 G1 := by
    obtain ⟨c1, c2, c3, c4, c5, c6, c7, c8, _⟩ := L0
    refine ⟨?_, ?_, ?_, c4, c5, ?_, ?_, t1, iv1⟩
    · unfold zWT; rw [o1 3 (by decide) (by decide), o1 5 (by decide) (by decide), o1 7 (by decide) (by decide)]; exact c1
    · unfold zRk; rw [o1 82 (by decide) (by decide)]; exact c2
    · unfold HIat; rw [o1 2 (by decide) (by decide), o1 4 (by decide) (by decide), o1 6 (by decide) (by decide), o1 8 (by decide) (by decide)]; exact c3
    · rw [o1 9 (by decide) (by decide)]; exact c6
    · rw [o1 9 (by decide) (by decide)]; exact c7
  have char0 : zden 96 0 [.ref 0, .int 0] [] (zSH, G1) = some (some (.int (-11)), (zSH, G1)) := by
    have z : G1 88 1 ≤ 0 := by rw [o1 88 (by decide) (by decide), show G 88 1 = 0 from cv hc 88 1 (by decide +kernel)]; decide
    rw [B_T_character_0, B_Li_signAt_0 (fun _ q => absurd z q), if_neg (by decide), if_pos z, zaft_same]
    exact B_T_character_8
  obtain ⟨G2, a2, L2, o2⟩ := n_strike99 L1
  obtain ⟨rv2, hP2⟩ := rd_ex L2.w L2.h
  have code0 : rv2 74 0 0 = 99 := (v74 (p := 0) hP2 L2.w L2.h (by decide)).trans ((if_pos (Nat.le_refl 0)).trans L2.h.ho.2.2.1.2.2.2.2)
  obtain ⟨G3, a3, L3, o3⟩ := n_heading99 L2
  obtain ⟨G4, a4, L4, o4⟩ := n_good L3
  obtain ⟨G5, a5, L5, o5⟩ := n_enter0 L4
  obtain ⟨G6, a6, L6, o6⟩ := n_favour5 L5
  obtain ⟨rv6, hP6⟩ := rd_ex L6.w L6.h
  have acc14 : rv6 98 14 0 = -12 := zint_inj (((hP6 G6 sr_rf).1 14).symm.trans rd_acc14)
  have bal := rd_bal L6.w L6.h
  have rank := rd_ranked_no (p := 0) L6.h (Nat.le_refl _) (by decide)
  obtain ⟨r, G7, a7, r0, ⟨n', gn', f', u', g3, L7⟩, o7⟩ := x_stock (E := []) L6
  obtain ⟨E', G', a8, l8, s8⟩ := l_loop (L := L) (x3 := r) hF r0 hL2 26 0 14 n' gn' f' u' [] G7 (.retAddr 0) (.retAddr 0) (.retAddr 0) (.retAddr 0) (.retAddr 0) rfl L7 g3 (by omega) ⟨rfl, by decide⟩ (by decide) (by decide)
    (by rw [o7 2000001 (by decide), o6 2000001 (by decide), o5 2000001 (by decide), o4 2000001 (by decide), o3 2000001 (by decide), o2 2000001 (by decide), o1 2000001 (by decide) (by decide)]; exact hx) vL_ret vL_ret vL_ret vL_ret
  refine ⟨E', G', ?_, l8, s8⟩
  rw [e0, B_L_law_10, zden_x [] undo, zaft_same]
  refine B_L_law_14.trans ?_
  rw [if_neg (fun q => q rfl), zden_x [] rest, zaft_same]
  refine B_L_law_23.trans ?_
  rw [if_neg (fun q => q rfl), zden_x [] reas0, zaft_same]
  refine B_L_law_33.trans ?_
  rw [if_neg (fun q => q rfl), zden_x [] a1, zaft_same]
  refine B_L_law_42.trans ?_
  rw [if_neg (fun q => q rfl), zden_x [] char0, zaft_same]
  refine B_L_law_53.trans ?_
  rw [if_neg (fun q => q rfl), zden_x [] a2, zaft_same]
  refine (B_L_law_64 hP2).trans ?_
  rw [if_neg (fun q => q rfl), if_neg (fun q => q code0), zden_x [] a3, zaft_same]
  refine B_L_law_89.trans ?_
  rw [if_neg (fun q => q rfl), zden_x [] a4, zaft_same]
  refine B_L_law_106.trans ?_
  rw [if_neg (fun q => q rfl), zden_x [] a5, zaft_same]
  refine B_L_law_116.trans ?_
  rw [if_neg (fun q => q rfl), zden_x [] a6, zaft_same]
  refine (B_L_law_127 hP6).trans ?_
  rw [if_neg (fun q => q rfl), if_neg (fun q => q acc14), zden_x [] bal, zaft_same]
  refine B_L_law_147.trans ?_
  rw [if_neg (fun q => q rfl), show zden 91 0 [.ref 0, .int 0] [] (zSH ++ [], G6) = _ from zden_x [] rank, zaft_same]
  refine B_L_law_156.trans ?_
  rw [if_pos rfl, a7, zaft_same]
  refine B_L_law_167.trans ?_
  exact a8
end ZLaw
theorem law_run (hF : zFP) (G : Nat → Nat → Int32) {L : Nat} (hL : L ≤ 260) (g1 : G 2000001 0 = nI L) :
    ∃ n h', zrun n k_L_law 0 (zpad 10 [.ref 2000000]) [] ([], G) = some (some (.int 1), h') ∧ h'.1.length ≤ 600000 ∧ zsl h'.1 ≤ 7302250 := by
  obtain ⟨G', e, c, iv, r⟩ := zlaw0 G
  obtain ⟨E', X', x, l, s⟩ := l_10 hF hL c iv (by rw [r 2000001 (by decide)]; exact g1)
  have hd : zden k_L_law 0 (zpad 10 [.ref 2000000]) [] ([], G) = some (some (.int 1), (zSH ++ E', X')) := e.trans x
  obtain ⟨n, hn⟩ := zden_iff.mp hd
  refine ⟨n, (zSH ++ E', X'), hn, ?_, ?_⟩
  · show (zSH ++ E').length ≤ 600000
    rw [List.length_append]
    have : zSH.length = 90 := rfl
    omega
  · show zsl (zSH ++ E') ≤ 7302250
    have h1 : zsl (zSH ++ E') = zsl zSH + zsl E' := by
      unfold zsl
      rw [List.map_append, List.sum_append]
    have h2 : zsl zSH ≤ 100000 := by decide +kernel
    omega
