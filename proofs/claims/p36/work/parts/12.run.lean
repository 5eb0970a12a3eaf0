-- 12: a run of the small machine is a run of the real one
def zws (M : zMt) : List Jvm.Cond := .code M.2.1 M.2.2.1 M.2.2.2.1 M.2.2.2.2.1 :: zTs
def zrm (M : zMt) (h h1 : zH) : Room := { frames := M.2.2.2.2.2.1, cells := h1.1.length - h.1.length, slots := zsl h1.1 - zsl h.1, locals := 40 * M.2.2.2.2.2.1 }
def zB (dC : Nat → ClassId) (dI : Nat → Nat → Nat) (ad : Nat → Nat) (cA : Nat → ClassId) (h : zH) (sz : Nat) (U : State) : Prop :=
  U.heap.size = sz ∧ va_P (dC, dI) zcl (zW ad cA h) U.heap ∧ va_K (dC, dI) zcl (zTys cA 0 h.1) U ∧ va_D (fun _ => True) (zW ad cA h) ∧ zRo ad (va_A (zW ad cA h) sz) U U.heap ∧ zSc ad (va_A (zW ad cA h) sz) U U.heap h.2 ∧ h.1.length ≤ 900000
def zQa (dC : Nat → ClassId) (dI : Nat → Nat → Nat) (ad : Nat → Nat) (cA : Nat → ClassId) (h h1 : zH) (v : Option Value) (sz : Nat) (st : State) (oc : Outcome) (t : State) : Prop :=
  (∃ (ad' : Nat → Nat) (cA' : Nat → ClassId), oc = .returned (v.map (zv ad')) ∧ (∀ j, (j < h.1.length ∨ h1.1.length ≤ j) → ad' j = ad j) ∧ va_P (dC, dI) zcl (zW ad' cA' h1) t.heap ∧ va_K (dC, dI) zcl (zTys cA' 0 h1.1) t ∧ va_D (va_A (zW ad cA h) sz) (zW ad' cA' h1) ∧ h1.1.length ≤ 900000) ∧ va_F (va_A (zW ad cA h) sz) st t
def zMet (l : Launch) (dC : Nat → ClassId) (dI : Nat → Nat → Nat) (M : zMt) (as : List Value) (h : zH) (v : Option Value) (h1 : zH) : Prop :=
  ∀ (ad : Nat → Nat) (cA : Nat → ClassId) (sz : Nat), Met l M.2.1 (zws M) (zrm M h h1) (va_Pc (as.map (zv ad)) (zB dC dI ad cA h sz)) (fun _ => zQa dC dI ad cA h h1 v sz) (h1.1.length - h.1.length) (zsl h1.1 - zsl h.1) (va_A (zW ad cA h) sz)
theorem zgood {w : Jvm.Cond} (h : w ∈ zTs) : w ∈ zTs ∧ ((w.onTables && w.keeps) = true ∨ ∃ ty, w = .arrayClass ty) :=
  ⟨h, good_of_word (List.mem_filter.mp h).2⟩
theorem zws_in {M : zMt} (h : .code M.2.1 M.2.2.1 M.2.2.2.1 M.2.2.2.2.1 ∈ zTs) : GoodIn zTs (zws M) := fun w hw => by
  rcases List.mem_cons.mp hw with rfl | hw
  · exact zgood h
  · exact zgood hw
theorem zRo_same {ad : Nat → Nat} {A : Nat → Prop} {u U : State} {H : Heap} (hv : U.vm = u.vm) (h : zRo ad A u H) : zRo ad A U H := by
  have ha : u.vm.Alike U.vm := by rw [hv]; exact Vm.Alike.refl _
  obtain ⟨h1, h2, h3, h5, h6, h7⟩ := h
  exact ⟨h1.moved ha, fun q hq => (h2 q hq).same hv, h3.moved ha, fun q hq h3 => va_Nw.same rfl hv.symm (h5 q hq h3), h6.moved ha, h7.moved ha⟩
theorem zSc_same {ad : Nat → Nat} {A : Nat → Prop} {u U : State} {H : Heap} {G : Nat → Nat → Int32} (hv : U.vm = u.vm) (h : zSc ad A u H G) : zSc ad A U H G := by
  have ha : u.vm.Alike U.vm := by rw [hv]; exact Vm.Alike.refl _
  obtain ⟨⟨L, h1, h2, h3, h4, h5⟩, h6⟩ := h
  exact ⟨⟨L, h1, h2, h3.moved ha, h4, h5⟩, h6.elim (fun q => Or.inl ⟨q.1, q.2.moved ha⟩) (fun q => Or.inr ⟨q.1, q.2.moved ha⟩)⟩
theorem zB_blind {dC : Nat → ClassId} {dI : Nat → Nat → Nat} {ad : Nat → Nat} {cA : Nat → ClassId} {h : zH} {sz : Nat} {as : List Value} : FrameBlind (va_Pc as (zB dC dI ad cA h sz)) := by
  intro a U g mk q
  obtain ⟨q0, q1, qP, qK, qD, qR, qS, qL⟩ := q
  exact ⟨q0, q1, qP, va_K.moved (u := U) (U := U.calling g mk a) (Vm.Alike.refl U.vm) qK, qD, zRo_same (u := U) (U := U.calling g mk a) rfl qR, zSc_same (u := U) (U := U.calling g mk a) rfl qS, qL⟩
theorem zargs_at : ∀ {vs : List Value} {i : Nat} {k : Nat} {v : Value}, (∀ w ∈ vs, w.category = 1) → vs[i]? = some v → (k + i, v) ∈ lv_args k vs := by
  intro vs
  induction vs with
  | nil => intro i k v _ h; simp at h
  | cons a t ih =>
    intro i k v hc h
    have h1 : a.category = 1 := hc a List.mem_cons_self
    unfold lv_args
    rw [if_neg (by omega)]
    cases i with
    | zero => simp at h; subst h; exact List.mem_cons_self
    | succ i =>
      simp at h
      have := ih (k := k + 1) (fun w hw => hc w (List.mem_cons_of_mem _ hw)) h
      rw [show k + 1 + i = k + (i + 1) by omega] at this
      exact List.mem_cons_of_mem _ this
theorem zsl_cat : ∀ {vs : List Value}, (∀ w ∈ vs, w.category = 1) → (lg_sl vs).length = vs.length := by
  intro vs
  induction vs with
  | nil => intro _; rfl
  | cons a t ih =>
    intro hc
    have h1 : a.category = 1 := hc a List.mem_cons_self
    have h2 := ih (fun w hw => hc w (List.mem_cons_of_mem _ hw))
    unfold lg_sl at h2 ⊢
    rw [List.flatMap_cons, if_neg (by omega)]
    simp [h2]
theorem zL_entry {ad : Nat → Nat} {as : List Value} {n : Nat} (hc : as.all zcat1 = true) (hn : as.length ≤ n) :
    zL ad ((lg_sl (as.map (zv ad)) ++ List.replicate (n - (lg_sl (as.map (zv ad))).length) Slot.unset).toArray) n (zpad n as) := by
  have hc1 : ∀ w ∈ as.map (zv ad), w.category = 1 := by
    intro w hw
    obtain ⟨v, hv, rfl⟩ := List.mem_map.mp hw
    rw [zv_cat]
    have := List.all_eq_true.mp hc v hv
    exact Nat.eq_of_beq_eq_true this
  have hl : (lg_sl (as.map (zv ad))).length ≤ n := by rw [zsl_cat hc1, List.length_map]; exact hn
  have h := lv_entry (as.map (zv ad)) hl
  refine ⟨h.1, by simp [zpad]; omega, h.2.1, fun i v hv hr => ?_⟩
  by_cases hi : i < as.length
  · have hv : as[i]? = some v := by
      rw [← hv]
      unfold zpad
      rw [List.getElem?_append_left hi]
    have := h.2.2 _ (zargs_at (k := 0) hc1 (i := i) (v := zv ad v) (by rw [List.getElem?_map, hv]; rfl))
    simpa using this
  · exfalso
    unfold zpad at hv
    rw [List.getElem?_append_right (by omega), List.getElem?_replicate] at hv
    split at hv
    · cases hv; exact hr 0 rfl
    · cases hv
section ZR
variable {p : Program} {l : Launch} {e : Env} {R : Room} {s : State} {m : MethodId} {args : Array Value} {below : List Frame} {meth : Method} {c : Code} {H : Heap} {locs : List Loc} {cells slots : Nat} {Q : State → Prop}
variable {dC : Nat → ClassId} {dI : Nat → Nat → Nat} {A : Nat → Prop} {M T : zMt} {ad : Nat → Nat} {cA : Nat → ClassId} {h h1 : zH} {ls : Array Slot} {lst st : List Value} {pc len : Nat}
/-- behind a call -/
theorem zcallz {mc ms : Nat} {st0 rest : List Value} {v : Option Value} {free : Addr → Prop} {B : Nat → Prop} (hr : va_Run p l e R s m args below meth c H locs cells slots mc ms (F0 m pc ls st0) rest (fun st oc t => zQa dC dI ad cA h h1 v H.size st oc t) free) (hS : va_S A s.heap H locs)
    (hA : ∀ q, va_A (zW ad cA h) H.size q → A q) (hf : ∀ q, free q → A q)
    (kk : ∀ (ad' : Nat → Nat) (cA' : Nat → ClassId) (st1 t : State) (H1 : Heap) (locs1 : List Loc), st1.heap = H → (∀ j, (j < h.1.length ∨ h1.1.length ≤ j) → ad' j = ad j) → va_P (dC, dI) zcl (zW ad' cA' h1) H1 → va_K (dC, dI) zcl (zTys cA' 0 h1.1) s → va_D A (zW ad' cA' h1) → h1.1.length ≤ 900000 → va_S A s.heap H1 locs1 →
      W p l e R s m args below meth c H1 locs1 (cells + mc) (slots + ms) Q (F0 m (pc + 3) ls ((v.map (zv ad')).toList ++ rest))) : W p l e R s m args below meth c H locs cells slots Q (F0 m pc ls st0) := by
  intro T hT X
  obtain ⟨v', st₀, t, T', L, h0, X', hL, e1, e2, ⟨⟨ad', cA', hv, hag, hP, hK, hD, hlen⟩, hz, hk⟩, st⟩ := hr T hT X
  cases hv
  rw [h0] at hz hk
  have hal : s.vm.Alike t.vm := by rw [← e2]; exact X'.warmed.alike
  obtain ⟨t2, a1, b1⟩ := kk ad' cA' st₀ t T'.heap (locs ++ L) h0 hag (by rw [e1]; exact hP) (va_K.moved hal.symm hK) (hD.weaken (fun _ _ _ hq => hA _ hq)) hlen
    ⟨Nat.le_trans hS.1 (by rw [e1]; exact hz), fun q g1 g2 => by rw [e1, hk q (Nat.lt_of_lt_of_le g1 hS.1) (fun z => g2 (hA q z))]; exact hS.2.1 q g1 g2, fun q hq => by
      rcases List.mem_append.mp hq with g | g
      · exact hS.2.2 q g
      · exact hf _ (hL q g)⟩ T' rfl X'
  exact ⟨t2, st t2 a1, b1⟩
theorem zA_sub (C : zCtx p R s m args meth c A M) (O : zOk dC dI s A M ad cA h H locs ls lst) : ∀ q, va_A (zW ad cA h) H.size q → A q := by
  intro q hq
  rcases hq with ⟨k, e, hk⟩ | hq
  · exact O.2.2.1.2 k (q, e) hk
  · exact C.2.2.2.2.2.1 q (Nat.le_trans O.2.2.2.1.1 hq)
theorem zB_of (C : zCtx p R s m args meth c A M) (O : zOk dC dI s A M ad cA h H locs ls lst) {U : State} (hU : U.heap = H) (hW : s.WarmedH U.vm) : zB dC dI ad cA h H.size U := by
  have hAB := zA_sub C O
  obtain ⟨hP, hK, hD, hS, hL, hRo, hSc, hlen⟩ := O
  exact ⟨by rw [hU], by rw [hU]; exact hP, va_K.moved hW.alike hK, hD.weaken (fun _ _ _ _ => trivial), zRo_call hRo hS hU hW hAB, zSc_call hSc hS hU hW hAB, hlen⟩
/-- the frame behind a call -/
theorem zOk_call (C : zCtx p R s m args meth c A M) (O : zOk dC dI s A M ad cA h H locs ls lst) {ad' : Nat → Nat} {cA' : Nat → ClassId} {st1 : State} {H1 : Heap} {locs1 : List Loc} (h0 : st1.heap = H) (hag : ∀ j, (j < h.1.length ∨ h1.1.length ≤ j) → ad' j = ad j)
    (hP : va_P (dC, dI) zcl (zW ad' cA' h1) H1) (hK : va_K (dC, dI) zcl (zTys cA' 0 h1.1) s) (hD : va_D A (zW ad' cA' h1)) (hkp : ∀ r, 1000000 ≤ r → h1.2 r = h.2 r) (hlen : h1.1.length ≤ 900000) (hS : va_S A s.heap H1 locs1)
    (hfr : lst.all (zfr h.1.length h1.1.length) = true) : zOk dC dI s A M ad' cA' h1 H1 locs1 ls lst := by
  obtain ⟨-, -, -, hS0, hL, hRo, hSc0, -⟩ := O
  exact ⟨hP, hK, hD, hS, zL_ad hL hfr (fun j hj => (hag j hj).symm), zRo_ad hRo (fun j hj => (hag j (Or.inr (by omega))).symm), zSc_to hSc0 (fun j hj => (hag j (Or.inr (by omega))).symm) hkp, hlen⟩
theorem zcy_get (hT : T ∈ zms) (h9 : T.2.1.name ≠ "law") : .code T.2.1 T.2.2.1 T.2.2.2.1 T.2.2.2.2.1 ∈ zTs ∧ T.2.1.cls = zR T.1 ∧ plainName T.2.1.cls = true ∧ (T.2.1.cls ≠ "java/lang/invoke/MethodHandle" ∧ T.2.1.cls ≠ "java/lang/invoke/VarHandle") ∧ T.2.2.2.1 ≤ 20 := by
  obtain ⟨i, hi⟩ := zcy T hT h9
  unfold zckY at hi
  simp only [Bool.and_eq_true, decide_eq_true_eq, Nat.ble_eq] at hi
  obtain ⟨⟨⟨⟨g1, g2⟩, g3⟩, g4⟩, g5⟩ := hi
  exact ⟨zat_in g1, g2, g3, g4, g5⟩
theorem zroomc (C : zCtx p R s m args meth c A M) (hd : T.2.2.2.2.2.1 < M.2.2.2.2.2.1) (hm : T.2.2.2.1 ≤ 20) : (zrm T h h1).frames + 1 ≤ R.frames ∧ 8 + (T.2.2.2.1 + 11) + (zrm T h h1).locals ≤ R.locals := by
  obtain ⟨-, -, -, -, -, -, -, hRl, hRf⟩ := C
  refine ⟨Nat.le_trans hd hRf, ?_⟩
  show 8 + (T.2.2.2.1 + 11) + 40 * T.2.2.2.2.2.1 ≤ R.locals
  omega
end ZR
