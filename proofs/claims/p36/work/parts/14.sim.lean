-- 14: every run
theorem zMet_of {n tg : Nat} {T : zMt} {as : List Value} {h h1 : zH} {v : Option Value} {l : Launch} {dC : Nat → ClassId} {dI : Nat → Nat → Nat} (hF : zFr n) (hr : zrun n tg 0 (zpad T.2.2.2.1 as) [] h = some (v, h1)) (hT : zms[tg]? = some T) (h9 : T.2.1.name ≠ "law")
    (hc : as.all zcat1 = true) (hn : as.length ≤ T.2.2.2.1) : zMet l dC dI T as h v h1 := by
  intro ad cA sz
  obtain ⟨y1, y2, y3, y4, y5⟩ := zcy_get (List.mem_of_getElem? hT) h9
  have hle := zrun_le hr
  refine Met.ofW (cc := T.2.2.1) (maxL := T.2.2.2.1) (ret := T.2.2.2.2.1) (ws' := zTs) y3 rfl ?_
  intro p e s m args below meth c s₁ B hml hv
  obtain ⟨rfl, hsz, hP, hK, hD0, hRo, hSc, hlen⟩ := hv
  have hx := B.exec
  have hb := B.bytes
  have hr0 := B.returns
  have hts0 := atoms_spec (ws := zws T) B.pre
  have hts : ∀ w ∈ zTs, w.before (as.map (zv ad)).toArray s = true := fun w hw => hts0 w (List.mem_cons_of_mem _ hw)
  have hown : s.vm.findClass T.2.1.cls = some m.cls := findClass_of_methodNamed B.named
  rw [y2] at hown
  have hlocks := B.notSynchronized
  have hin : meth.name = T.2.1.name := (name_of_methodNamed B.named B.method).1
  subst hsz
  have hD := hD0.self (sz := s.heap.size)
  have C : zCtx p (headSpec (zws T) (zrm T h h1)).room s m (as.map (zv ad)).toArray meth c (va_A (zW ad cA h) s.heap.size) T :=
    ⟨hx, hb, hml, hown, hts, fun q h => Or.inr h, fun w => hin.trans w, Nat.le_refl _, Nat.le_refl _⟩
  rw [lg_entry_eq]
  have hLe := zL_entry (ad := ad) (n := T.2.2.2.1) hc hn
  have O : zOk dC dI s (va_A (zW ad cA h) s.heap.size) T ad cA h s.heap [] _ (zpad T.2.2.2.1 as) := ⟨hP, hK, hD, va_S.rf, hLe, hRo, hSc, hlen⟩
  refine hF hr hT C O (cells := 0) (slots := 0) (CT := h1.1.length - h.1.length) (ST := zsl h1.1 - zsl h.1) (by have := hle.1; simp only at this; omega) (by have := hle.2.1; simp only at this; omega) (Nat.le_refl _) (Nat.le_refl _) ?_
  intro ad' cA' H' locs' ls' lst' st' pc' i len hag O' hd hlen2 hz
  obtain ⟨hP', hK', hD', hS', hL', hRo', hSc', hlen'⟩ := O'
  have fin : ∀ (w : Option Value) (t : State), w = v.map (zv ad') → t.heap = H' → s.WarmedH t.vm → zQa dC dI ad cA h h1 v s.heap.size s (.returned w) t := fun w t hw ht hW =>
    ⟨⟨ad', cA', by rw [hw], hag, by rw [ht]; exact hP', va_K.moved hW.alike hK', hD', hlen'⟩, hS'.F ht⟩
  rcases zret_ok hz with ⟨rfl, g1, rfl, rfl⟩ | ⟨ty, x, rfl, g1, rfl, g2, rfl⟩ | ⟨x, rfl, g1, rfl, rfl⟩ | ⟨x, rfl, g1, rfl, rfl⟩ | ⟨nm, x, rfl, g1, g5, rfl, rfl⟩
  · have := eq_of_beq hlen2; subst this
    exact W.vret (Qc := fun _ => zQa dC dI ad cA h h1 none s.heap.size) hx hb (hr0.trans g1) (fun t ht hW => fin none t rfl ht hW) hS'.2.2 hd hlocks
  · have := eq_of_beq hlen2; subst this
    exact W.zret (Qc := fun _ => zQa dC dI ad cA h h1 (some (.int x)) s.heap.size) (v := x) hx hb (hr0.trans g1) g2 (fun t ht hW => fin _ t rfl ht hW) hS'.2.2 hd hlocks
  · have := eq_of_beq hlen2; subst this
    exact W.fret (Qc := fun _ => zQa dC dI ad cA h h1 (some (.float x)) s.heap.size) (v := x) hx hb (hr0.trans g1) (fun t ht hW => fin _ t rfl ht hW) hS'.2.2 hd hlocks
  · have := eq_of_beq hlen2; subst this
    exact W.dret (Qc := fun _ => zQa dC dI ad cA h h1 (some (.double x)) s.heap.size) (v := x) hx hb (hr0.trans g1) (fun t ht hW => fin _ t rfl ht hW) hS'.2.2 hd hlocks
  · have := eq_of_beq hlen2; subst this
    exact W.aret (Qc := fun _ => zQa dC dI ad cA h h1 (some (.ref x)) s.heap.size) (v := .ref (ad' x)) hx hb (hr0.trans g1) g5 (Or.inr ⟨_, rfl⟩) (fun t ht hW => fin _ t rfl ht hW) hS'.2.2 hd hlocks
theorem zcall_ne {M T : zMt} {i : Instr} {kd tg : Nat} (hcall : zcall M i = some (kd, tg)) (hT : zms[tg]? = some T) : T.2.1.name ≠ "law" := by
  obtain ⟨idx, q, hq, hk, ht, -⟩ := zcall_inv hcall
  have h := zlaw9 _ (zlk_mem hq)
  have hTm : zmt q.2.1 = T := by unfold zmt; rw [ht, hT]; rfl
  simp only [hTm] at h
  exact h
theorem zFr_all : ∀ n, zFr n := by
  intro n
  induction n with
  | zero =>
    intro p l e R s m args below meth c H locs Q dC dI A k pc lst st h h' v M ad cA ls cells slots CT ST hr
    cases hr
  | succ n ih =>
    intro p l e R s m args below meth c H locs Q dC dI A k pc lst st h h' v M ad cA ls cells slots CT ST hr hM C O hc1 hs1 hc2 hs2 hret
    have hMm := List.mem_of_getElem? hM
    have hle0 := zrun_le hr
    unfold zrun at hr
    rw [hM] at hr
    simp only at hr
    split at hr
    case h_1 => cases hr
    case h_2 i len hcd =>
    obtain ⟨hd, hlen⟩ := zcode_ok hMm hcd
    split at hr
    case h_1 kd tg hcall =>
      split at hr
      case h_1 => cases hr
      case h_2 T hT =>
      split at hr
      case isFalse => cases hr
      case isTrue hmay =>
      split at hr
      case h_1 => cases hr
      case h_2 v1 h1 hr1 =>
      split at hr
      case isFalse => cases hr
      case isTrue hg =>
      have hmay2 := hmay
      unfold zmay at hmay2
      simp only [Bool.and_eq_true, Nat.blt_eq, Nat.ble_eq] at hmay2
      obtain ⟨⟨⟨⟨⟨m1, m2⟩, m3⟩, m4⟩, m5⟩, m6⟩ := hmay2
      have hle1 := zrun_le hr1
      have hle2 := zrun_le hr
      have hkp := (hle1.2.2 O.2.2.2.2.2.2.2).2
      simp only [zle] at hle0 hle1 hle2 hkp
      have hMet : zMet l dC dI T _ h v1 h1 := zMet_of ih hr1 hT (zcall_ne hcall hT) m4 m3
      have hrun := zrunc (lst := lst) (st := st) (p := p) (e := e) (R := R) (below := below) (cells := cells) (slots := slots) hMm hcd hT (zcall_ne hcall hT) C O hcall hmay hMet (by rw [List.reverse_reverse, List.take_append_drop]) (by omega) (by omega)
      have hgr : lst.all (zfr h.1.length h1.1.length) = true ∧ (st.drop T.2.2.2.2.2.2.1).all (zfr h.1.length h1.1.length) = true := by
        unfold zgrd at hg
        simp only [Bool.or_eq_true, decide_eq_true_eq, Bool.and_eq_true] at hg
        rcases hg with hg | hg
        · rw [hg]
          have : ∀ (v : Value), zfr h1.1.length h1.1.length v = true := by
            intro v
            cases v with
            | ref r =>
              unfold zfr
              simp only [Bool.or_eq_true, Nat.blt_eq, Nat.ble_eq]
              exact Nat.lt_or_ge r _
            | _ => rfl
          exact ⟨List.all_eq_true.mpr (fun v _ => this v), List.all_eq_true.mpr (fun v _ => this v)⟩
        · exact hg
      refine zcallz (B := A) hrun O.2.2.2.1 (zA_sub C O) (zA_sub C O) (fun ad' cA' st1 t H1 locs1 h0 hag hP hK hD hl1 hS => ?_)
      have O1 := zOk_call C O h0 hag hP hK hD hkp hl1 hS hgr.1
      have e1 : (v1.map (zv ad')).toList ++ (st.drop T.2.2.2.2.2.2.1).map (zv ad) = (v1.toList ++ st.drop T.2.2.2.2.2.2.1).map (zv ad') := by
        rw [List.map_append, zmapv_ad hgr.2 (fun j hj => (hag j hj).symm)]
        cases v1 <;> rfl
      rw [e1]
      refine ih hr hM C O1 (CT := CT) (ST := ST) (by omega) (by omega) hc2 hs2 ?_
      intro ad2 cA2 H2 locs2 ls2 lst2 st2 pc2 i2 len2 hag2 O2 hd2 hl2 hz2
      exact hret ad2 cA2 H2 locs2 ls2 lst2 st2 pc2 i2 len2 (fun j hj => by rw [hag2 j (by omega), hag j (by omega)]) O2 hd2 hl2 hz2
    case h_2 =>
      split at hr
      case h_1 v0 hz =>
        cases hr
        have e1 : cells = CT := by omega
        have e2 : slots = ST := by omega
        subst e1; subst e2
        exact hret ad cA H locs ls lst st pc i len (fun _ _ => rfl) O hd hlen hz
      case h_2 hz =>
        split at hr
        case h_1 => cases hr
        case h_2 pc' lst' st' h1 hs =>
        have hle1 := zst_le hs
        have hle2 := zrun_le hr
        simp only [zle] at hle0 hle1 hle2
        refine zst_sim hMm hcd C O hs (by simp only; omega) (by simp only; omega) hle1.1 hle1.2.1 ?_
        intro ad' cA' H' locs' ls' hag O'
        simp only at hag O' ⊢
        refine ih hr hM C O' (CT := CT) (ST := ST) (by omega) (by omega) hc2 hs2 ?_
        intro ad2 cA2 H2 locs2 ls2 lst2 st2 pc2 i2 len2 hag2 O2 hd2 hl2 hz2
        exact hret ad2 cA2 H2 locs2 ls2 lst2 st2 pc2 i2 len2 (fun j hj => by rw [hag2 j (by omega), hag j (by omega)]) O2 hd2 hl2 hz2
