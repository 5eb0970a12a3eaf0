-- 13: calls, and whole runs
theorem zcall_inv {M : zMt} {i : Instr} {kd tg : Nat} (h : zcall M i = some (kd, tg)) : ∃ (idx : Nat) (q : Nat × Nat × Nat × Nat × Nat × Nat), zlk zCL (M.1 * 65536 + idx) = some q ∧ q.1 = kd ∧ q.2.1 = tg ∧
    ((kd = 0 ∧ i = .invokevirtual idx) ∨ (kd = 1 ∧ i = .invokestatic idx) ∨ (kd = 3 ∧ i = .invokestatic idx) ∨ (kd = 2 ∧ i = .invokespecial idx)) := by
  unfold zcall at h
  split at h
  · rename_i idx
    split at h
    · rename_i q hq
      split at h
      · rename_i h0; cases h; exact ⟨idx, q, hq, h0, rfl, Or.inl ⟨rfl, rfl⟩⟩
      · cases h
    · cases h
  · rename_i idx
    split at h
    · rename_i q hq
      split at h
      · rename_i h0
        cases h
        rcases h0 with h0 | h0
        · exact ⟨idx, q, hq, rfl, rfl, Or.inr (Or.inl ⟨h0, rfl⟩)⟩
        · exact ⟨idx, q, hq, rfl, rfl, Or.inr (Or.inr (Or.inl ⟨h0, rfl⟩))⟩
      · cases h
    · cases h
  · rename_i idx
    split at h
    · rename_i q hq
      split at h
      · rename_i h0; cases h; exact ⟨idx, q, hq, h0, rfl, Or.inr (Or.inr (Or.inr ⟨rfl, rfl⟩))⟩
      · cases h
    · cases h
  · cases h
section ZQ
variable {p : Program} {l : Launch} {e : Env} {R : Room} {s : State} {m : MethodId} {args : Array Value} {below : List Frame} {meth : Method} {c : Code} {H : Heap} {locs : List Loc} {cells slots : Nat} {Q : State → Prop}
variable {dC : Nat → ClassId} {dI : Nat → Nat → Nat} {A : Nat → Prop} {M T : zMt} {ad : Nat → Nat} {cA : Nat → ClassId} {h h1 : zH} {ls : Array Slot} {lst st : List Value} {pc len : Nat}
theorem zrunc {i : Instr} {kd tg : Nat} {as rest : List Value} {v : Option Value} (hM : M ∈ zms) (hc : zlk M.2.2.2.2.2.2.2 pc = some (i, len)) (hT : zms[tg]? = some T) (h9 : T.2.1.name ≠ "law") (C : zCtx p R s m args meth c A M) (O : zOk dC dI s A M ad cA h H locs ls lst)
    (hcall : zcall M i = some (kd, tg)) (hmay : zmay M T kd as rest h = true) (hMet : zMet l dC dI T as h v h1) (hst : st = as.reverse ++ rest) (hcl : cells + (h1.1.length - h.1.length) ≤ R.cells) (hsl : slots + (zsl h1.1 - zsl h.1) ≤ R.slots) :
    va_Run p l e R s m args below meth c H locs cells slots (h1.1.length - h.1.length) (zsl h1.1 - zsl h.1) (F0 m pc ls (st.map (zv ad))) (rest.map (zv ad)) (fun st oc t => zQa dC dI ad cA h h1 v H.size st oc t) (va_A (zW ad cA h) H.size) := by
  obtain ⟨hd, hlen⟩ := zcode_ok hM hc
  have hI := List.all_eq_true.mp (zidx_le M hM) _ (zlk_mem hc)
  obtain ⟨idx, q, hq, hk, ht, hkind⟩ := zcall_inv hcall
  have hw := List.all_eq_true.mp zCL_ok _ (zlk_mem hq)
  have hTm : zmt q.2.1 = T := by unfold zmt; rw [ht, hT]; rfl
  obtain ⟨y1, y2, y3, y4, y5⟩ := zcy_get (List.mem_of_getElem? hT) h9
  unfold zmay at hmay
  simp only [Bool.and_eq_true, Nat.blt_eq, Nat.ble_eq] at hmay
  obtain ⟨⟨⟨⟨⟨m1, m2⟩, m3⟩, m4⟩, m5⟩, m6⟩ := hmay
  have m2 := Nat.eq_of_beq_eq_true m2
  have hroom := zroomc (h := h) (h1 := h1) C m1 y5
  have hB := fun (U : State) (hU : U.heap = H) (hW : s.WarmedH U.vm) => zB_of C O hU hW
  have hfix : CallFix p m c M.2.2.1 M.2.2.2.1 s args zTs (zR M.1) := ⟨C.1, C.2.1, C.2.2.1, C.2.2.2.1, C.2.2.2.2.1⟩
  have hts := C.2.2.2.2.1
  have hsz : (F0 m pc ls (st.map (zv ad))).locals.size = M.2.2.2.1 := O.2.2.2.2.1.1
  have hmon : 2 * (F0 m pc ls (st.map (zv ad))).monitorRoom + ((rest.map (zv ad)).map fun v => v.category).sum ≤ 8 := lv_room (by rw [zwd_map]; exact m5)
  have hm := hMet ad cA H.size
  have idxle : ∀ (_ : i = .invokevirtual idx ∨ i = .invokestatic idx ∨ i = .invokespecial idx), idx < 65536 := by
    intro w
    rcases w with rfl | rfl | rfl <;> exact Nat.blt_eq.mp hI
  have hidx : idx < 65536 := by
    rcases hkind with ⟨-, w⟩ | ⟨-, w⟩ | ⟨-, w⟩ | ⟨-, w⟩
    · exact idxle (Or.inl w)
    · exact idxle (Or.inr (Or.inl w))
    · exact idxle (Or.inr (Or.inl w))
    · exact idxle (Or.inr (Or.inr w))
  unfold zckL at hw
  simp only [zkey1 hidx, zkey2 hidx, hTm, hk, Bool.and_eq_true, decide_eq_true_eq] at hw
  obtain ⟨⟨⟨w1, w2⟩, w3⟩, w4⟩ := hw
  have wini := zat_in w2
  rcases hkind with ⟨rfl, rfl⟩ | ⟨rfl, rfl⟩ | ⟨rfl, rfl⟩ | ⟨rfl, rfl⟩
  · -- virtual
    have := eq_of_beq hlen; subst this
    simp only [Bool.and_eq_true, decide_eq_true_eq] at w4
    obtain ⟨⟨⟨a1, a2⟩, a3⟩, a4⟩ := w4
    cases hp : parseMethodDescriptor T.2.1.desc with
    | none => rw [hp] at a4; cases a4
    | some sig =>
    rw [hp] at a4
    have a4 : sig.parameters.length + 1 = T.2.2.2.2.2.2.1 := Option.some.inj a4
    cases as with
    | nil => cases m6
    | cons a0 As =>
    cases a0 with
    | ref b =>
      refine va_runV (C := T.2.1.cls) (b := ad b) (As := As.map (zv ad)) (rest := rest.map (zv ad)) (n := sig.parameters.length) (Pc := va_Pc (((Value.ref b) :: As).map (zv ad)) (zB dC dI ad cA h H.size)) (Qc := fun _ => zQa dC dI ad cA h h1 v H.size) hfix hm (cwV (ws' := zTs) _ hts ?_ rfl rfl rfl ⟨rfl, y4.1, y4.2, by rw [hp]; rfl⟩ hroom) ⟨zB_blind, ?_, fun U hU hW => ⟨rfl, hB U hU hW⟩⟩ rfl ?_ hsz ?_ hmon hd ⟨hcl, hsl⟩
      · intro w hw
        unfold wsV at hw
        rcases List.mem_append.mp hw with hw | hw
        · simp only [List.mem_cons, List.not_mem_nil, or_false] at hw
          rcases hw with rfl | rfl | rfl | rfl
          · exact zgood (zat_in a1)
          · exact zgood (zat_in a2)
          · exact zgood (zat_in a3)
          · exact zgood wini
        · exact zws_in y1 w hw
      · -- the receiver
        simp only [zrcv] at m6
        split at m6
        · rename_i h10
          simp only [Bool.and_eq_true, Nat.ble_eq, Nat.blt_eq] at m6
          obtain ⟨j, rfl⟩ : ∃ j : Nat, b = 1000000 + j := ⟨b - 1000000, (Nat.add_sub_of_le m6.1).symm⟩
          rw [y2, h10]
          exact vk_recv (i := j) O.2.2.2.2.2.1.1 (Nat.lt_of_add_lt_add_left m6.2) O.2.2.2.1
        · split at m6
          · rename_i c0 refs hr
            simp only [Bool.and_eq_true, Nat.blt_eq] at m6
            have e1 := Nat.eq_of_beq_eq_true m6.1
            subst e1
            rw [y2]
            exact va_recv O.2.1 O.1 (zcl_ok _ m6.2) (zW_at (ad := ad) (cA := cA) hr)
          · cases m6
      · rw [List.length_map]
        simp only [List.length_cons] at m2
        omega
      · show st.map (zv ad) = _
        rw [hst]
        simp [zv]
    | _ => cases m6
  · -- static
    have := eq_of_beq hlen; subst this
    simp only [Bool.and_eq_true, decide_eq_true_eq] at w4
    obtain ⟨⟨a1, a2⟩, a4⟩ := w4
    refine va_runS (As := as.map (zv ad)) (rest := rest.map (zv ad)) (n := T.2.2.2.2.2.2.1) (Pc := va_Pc (as.map (zv ad)) (zB dC dI ad cA h H.size)) (Qc := fun _ => zQa dC dI ad cA h h1 v H.size) hfix hm ⟨callB_of (ws' := zTs) _ hts (zws_in y1) rfl rfl rfl (hts _ wini) (hts _ (zat_in a1)) ⟨y4.1, y4.2, a4⟩ hroom, hts _ (zat_in a2)⟩ ⟨zB_blind, fun U hU hW => ⟨rfl, hB U hU hW⟩⟩ rfl (by rw [List.length_map]; exact m2) hsz ?_ hmon hd ⟨hcl, hsl⟩
    show st.map (zv ad) = _
    rw [hst]
    simp
  · -- static, of the nest
    have := eq_of_beq hlen; subst this
    simp only [Bool.and_eq_true, decide_eq_true_eq] at w4
    obtain ⟨⟨a1, a2⟩, a4⟩ := w4
    have hN := O.2.2.2.2.2.1.2.2.2.1 _ (zlk_mem hq) hk
    simp only [zkey1 hidx, zkey2 hidx, hTm] at hN
    refine va_runSN (As := as.map (zv ad)) (rest := rest.map (zv ad)) (n := T.2.2.2.2.2.2.1) (Pc := va_Pc (as.map (zv ad)) (zB dC dI ad cA h H.size)) (Qc := fun _ => zQa dC dI ad cA h h1 v H.size) hfix hm ⟨va_cnB (ws' := zTs) _ hts (zws_in y1) rfl rfl rfl hN (hts _ wini) ⟨y4.1, y4.2, a4⟩ hroom, hts _ (zat_in a2), trivial⟩ ⟨zB_blind, fun U hU hW => ⟨rfl, hB U hU hW⟩⟩ rfl (by rw [List.length_map]; exact m2) hsz ?_ hmon hd ⟨hcl, hsl⟩
    show st.map (zv ad) = _
    rw [hst]
    simp
  · -- of a constructor
    have := eq_of_beq hlen; subst this
    simp only [Bool.and_eq_true, decide_eq_true_eq] at w4
    obtain ⟨⟨⟨⟨a1, a2⟩, a3⟩, a5⟩, a4⟩ := w4
    cases hp : parseMethodDescriptor T.2.1.desc with
    | none => rw [hp] at a4; cases a4
    | some sig =>
    rw [hp] at a4
    have a4 : sig.parameters.length + 1 = T.2.2.2.2.2.2.1 := Option.some.inj a4
    cases as with
    | nil => cases m6
    | cons a0 As =>
    cases a0 with
    | ref b =>
      have hwn : zws T = Cond.code T.2.1 T.2.2.1 T.2.2.2.1 none :: zTs := by unfold zws; rw [a5]
      refine va_runI (b := ad b) (As := As.map (zv ad)) (rest := rest.map (zv ad)) (n := sig.parameters.length) (Pc := va_Pc (((Value.ref b) :: As).map (zv ad)) (zB dC dI ad cA h H.size)) (Qc := fun _ => zQa dC dI ad cA h h1 v H.size) hfix hm (cwI (ws' := zTs) _ hts (zws_in y1) hwn rfl rfl (hts _ wini) (hts _ (zat_in a1)) (hts _ (zat_in a2)) a3 ⟨y4.1, y4.2, by rw [hp]; rfl⟩ hroom) ⟨zB_blind, fun U hU hW => ⟨rfl, hB U hU hW⟩⟩ rfl ?_ hsz ?_ hmon hd ⟨hcl, hsl⟩
      · rw [List.length_map]
        simp only [List.length_cons] at m2
        omega
      · show st.map (zv ad) = _
        rw [hst]
        simp [zv]
    | _ => cases m6
end ZQ
theorem zret_ok {M : zMt} {i : Instr} {st : List Value} {v : Option Value} (hz : zret i M.2.2.2.2.1 st = some v) :
    (i = .return_ ∧ M.2.2.2.2.1 = none ∧ st = [] ∧ v = none) ∨ (∃ ty x, i = .ireturn ∧ M.2.2.2.2.1 = some ty ∧ st = [.int x] ∧ narrow ty (.int x) = .int x ∧ v = some (.int x)) ∨ (∃ x, i = .freturn ∧ M.2.2.2.2.1 = some .float ∧ st = [.float x] ∧ v = some (.float x)) ∨
    (∃ x, i = .dreturn ∧ M.2.2.2.2.1 = some .double ∧ st = [.double x] ∧ v = some (.double x)) ∨ ∃ ty x, i = .areturn ∧ M.2.2.2.2.1 = some ty ∧ ((∃ n, ty = .object n) ∨ ∃ t, ty = .array t) ∧ st = [.ref x] ∧ v = some (.ref x) := by
  unfold zret at hz
  split at hz
  · rename_i hr; cases hz; exact Or.inl ⟨rfl, hr, rfl, rfl⟩
  · rename_i ty x hr
    split at hz
    · rename_i hn
      cases hz
      exact Or.inr (Or.inl ⟨ty, x, rfl, hr, rfl, of_decide_eq_true hn, rfl⟩)
    · cases hz
  · rename_i x hr; cases hz; exact Or.inr (Or.inr (Or.inl ⟨x, rfl, hr, rfl, rfl⟩))
  · rename_i x hr; cases hz; exact Or.inr (Or.inr (Or.inr (Or.inl ⟨x, rfl, hr, rfl, rfl⟩)))
  · rename_i n x hr; cases hz; exact Or.inr (Or.inr (Or.inr (Or.inr ⟨_, x, rfl, hr, Or.inl ⟨n, rfl⟩, rfl, rfl⟩)))
  · rename_i n x hr; cases hz; exact Or.inr (Or.inr (Or.inr (Or.inr ⟨_, x, rfl, hr, Or.inr ⟨n, rfl⟩, rfl, rfl⟩)))
  · cases hz
/-- nobody calls the law -/
theorem zlaw9 : ∀ q ∈ zCL, (zmt q.2.2.1).2.1.name ≠ "law" := by decide +kernel
section ZP
variable {p : Program} {l : Launch} {e : Env} {R : Room} {s : State} {m : MethodId} {args : Array Value} {below : List Frame} {meth : Method} {c : Code} {H : Heap} {locs : List Loc} {Q : State → Prop}
variable {dC : Nat → ClassId} {dI : Nat → Nat → Nat} {A : Nat → Prop}
/-- what a run owes from a point on: the rest of the frame -/
def zFr (n : Nat) : Prop := ∀ {p : Program} {l : Launch} {e : Env} {R : Room} {s : State} {m : MethodId} {args : Array Value} {below : List Frame} {meth : Method} {c : Code} {H : Heap} {locs : List Loc} {Q : State → Prop} {dC : Nat → ClassId} {dI : Nat → Nat → Nat} {A : Nat → Prop}
  {k pc : Nat} {lst st : List Value} {h h' : zH} {v : Option Value} {M : zMt} {ad : Nat → Nat} {cA : Nat → ClassId} {ls : Array Slot} {cells slots CT ST : Nat},
  zrun n k pc lst st h = some (v, h') → zms[k]? = some M → zCtx p R s m args meth c A M → zOk dC dI s A M ad cA h H locs ls lst →
  cells + h'.1.length = CT + h.1.length → slots + zsl h'.1 = ST + zsl h.1 → CT ≤ R.cells → ST ≤ R.slots →
  (∀ (ad' : Nat → Nat) (cA' : Nat → ClassId) (H' : Heap) (locs' : List Loc) (ls' : Array Slot) (lst' st' : List Value) (pc' : Nat) (i : Instr) (len : Nat), (∀ j, (j < h.1.length ∨ h'.1.length ≤ j) → ad' j = ad j) → zOk dC dI s A M ad' cA' h' H' locs' ls' lst' → decode M.2.2.1 pc' = .ok (i, len) → zlenOk i len = true → zret i M.2.2.2.2.1 st' = some v →
    W p l e R s m args below meth c H' locs' CT ST Q (F0 m pc' ls' (st'.map (zv ad')))) →
  W p l e R s m args below meth c H locs cells slots Q (F0 m pc ls (st.map (zv ad)))
end ZP
