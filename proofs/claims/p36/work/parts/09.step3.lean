-- 09: every instruction that is no call and no return
theorem zck8 : ∀ M ∈ zms, (M.2.2.2.2.2.2.2.all (fun q => match q.2.1 with
  | .invokestatic k => (match zlk zLL (M.1 * 65536 + k) with | some r => !Nat.beq r.1 8 | none => true)
  | .invokespecial k => (match zlk zLL (M.1 * 65536 + k) with | some r => Nat.beq r.1 8 | none => true)
  | _ => true)) = true := by decide +kernel
section ZV
variable {p : Program} {l : Launch} {e : Env} {R : Room} {s : State} {m : MethodId} {args : Array Value} {below : List Frame} {meth : Method} {c : Code} {H : Heap} {locs : List Loc} {cells slots : Nat} {Q : State → Prop}
variable {dC : Nat → ClassId} {dI : Nat → Nat → Nat} {A : Nat → Prop} {M : zMt} {ad : Nat → Nat} {cA : Nat → ClassId} {h : zH} {ls : Array Slot} {lst st : List Value} {pc len : Nat}
theorem zis_sim {r n : Nat} {refs : List (Option Nat)} {i x : Int32} {rest : List Value} (C : zCtx p R s m args meth c A M) (O : zOk dC dI s A M ad cA h H locs ls lst) (hr : h.1[r]? = some (.inr (.int, n, refs))) (hi : zin i n = true) (hd : decode M.2.2.1 pc = .ok (.iastore, 1))
    (k : zGo p l e R s m args below meth c cells slots Q dC dI A M ad h (pc + 1, lst, rest, (h.1, zup h.2 r i.toNatClampNeg x))) : W p l e R s m args below meth c H locs cells slots Q (F0 m pc ls (.int x :: .int i :: .ref (ad r) :: rest.map (zv ad))) := by
  obtain ⟨t0, ht⟩ := zTys_at (cA := cA) (n := 0) hr
  rw [Nat.zero_add] at ht
  exact va_iast C.1 C.2.1 O.2.1 O.1 O.2.2.1 O.2.2.2.1 r t0 (zW_at (ad := ad) (cA := cA) hr) ht (zin_vp hi) hd (fun H1 locs1 hP1 hD1 hS1 => k.same rfl rfl (zOk_num O hr hP1 hD1 hS1))
theorem zcs_sim {r n : Nat} {refs : List (Option Nat)} {i x : Int32} {rest : List Value} (C : zCtx p R s m args meth c A M) (O : zOk dC dI s A M ad cA h H locs ls lst) (hr : h.1[r]? = some (.inr (.char, n, refs))) (hi : zin i n = true) (hd : decode M.2.2.1 pc = .ok (.castore, 1))
    (k : zGo p l e R s m args below meth c cells slots Q dC dI A M ad h (pc + 1, lst, rest, (h.1, zup h.2 r i.toNatClampNeg (vp_nar .char x)))) : W p l e R s m args below meth c H locs cells slots Q (F0 m pc ls (.int x :: .int i :: .ref (ad r) :: rest.map (zv ad))) := by
  obtain ⟨t0, ht⟩ := zTys_at (cA := cA) (n := 0) hr
  rw [Nat.zero_add] at ht
  exact va_cast C.1 C.2.1 O.2.1 O.1 O.2.2.1 O.2.2.2.1 r t0 (zW_at (ad := ad) (cA := cA) hr) ht (zin_vp hi) hd (fun H1 locs1 hP1 hD1 hS1 => k.same rfl rfl (zOk_num O hr hP1 hD1 hS1))
theorem zas_sim {r n v ci : Nat} {cn : String} {refs vr : List (Option Nat)} {i : Int32} {rest : List Value} (C : zCtx p R s m args meth c A M) (O : zOk dC dI s A M ad cA h H locs ls lst) (hr : h.1[r]? = some (.inr (.object cn, n, refs))) (hv : h.1[v]? = some (.inl (ci, vr))) (hi : zin i n = true) (hn : refs.length = n) (h9 : ci < 9) (hcn : cn = zR ci) (hd : decode M.2.2.1 pc = .ok (.aastore, 1))
    (k : zGo p l e R s m args below meth c cells slots Q dC dI A M ad h (pc + 1, lst, rest, (h.1.set r (.inr (.object cn, n, refs.set i.toNatClampNeg (some v))), h.2))) : W p l e R s m args below meth c H locs cells slots Q (F0 m pc ls (.ref (ad v) :: .int i :: .ref (ad r) :: rest.map (zv ad))) := by
  obtain ⟨t0, ht⟩ := zTys_at (cA := cA) (n := 0) hr
  rw [Nat.zero_add] at ht
  subst hcn
  have hlt : i.toNatClampNeg < refs.length := by
    have := zin_vp hi
    rw [hn]
    exact Nat.not_le.mp fun q => this (Or.inr q)
  refine va_astq (r := (zR ci, zT ci, zNf ci)) C.1 C.2.1 O.2.1 O.1 O.2.2.1 O.2.2.2.1 r t0 v ci (zW_at (ad := ad) (cA := cA) hr) ht (zW_at (ad := ad) (cA := cA) hv) (zcl_ok ci h9) (zin_vp hi) hd (fun H1 locs1 hP1 hD1 hS1 => ?_)
  rw [← zrefs_set hlt] at hP1 hD1
  exact k.same (List.length_set ..) (zsl_set hr rfl) (zOk_ref O hr (zTys_setA hr) hP1 hD1 hS1)
theorem znw_len {lst st : List Value} {sh : zS} {h' : zH} (hz : znw h lst st sh = some h') : h' = (h.1 ++ [sh], zrow h.2 h.1.length (fun _ => 0)) := by
  unfold znw at hz
  split at hz
  · cases hz; rfl
  · cases hz
theorem znew_go {sh : zS} {q t : Nat} {ca : ClassId} {lst2 st2 : List Value} {h' : zH} (O : zOk dC dI s A M ad cA h H locs ls lst) (hz : znw h lst st2 sh = some h') (hsh : zneS h.1.length sh = true)
    {H1 : Heap} {locs1 : List Loc} (hK : va_K (dC, dI) zcl (zTys (fun j => if j = h.1.length then ca else cA j) 0 (h.1 ++ [sh])) s)
    (hP : va_P (dC, dI) zcl (zW ad cA h ++ [(q, zcell ad (fun _ => ca) h.1.length sh (fun _ => 0))]) H1) (hD : va_D A (zW ad cA h ++ [(q, zcell ad (fun _ => ca) h.1.length sh (fun _ => 0))])) (hS : va_S A s.heap H1 locs1)
    (k : zGo p l e R s m args below meth c cells slots Q dC dI A M ad h (t, lst, .ref h.1.length :: st2, h')) : W p l e R s m args below meth c H1 locs1 (cells + 1) (slots + zsl1 sh) Q (F0 m t ls (.ref q :: st2.map (zv ad))) := by
  obtain ⟨e1, O1, e2⟩ := zOk_new (st := st2) (lst2 := []) (st2 := []) O hz hsh hK hP hD hS
  have := k _ _ H1 locs1 ls (fun j hj => by
    rw [e1] at hj
    have : ¬ j = h.1.length := by
      rcases hj with z | z
      · omega
      · intro w
        have z : (h.1 ++ [sh]).length ≤ j := z
        simp at z
        omega
    exact if_neg this) O1
  rw [e1] at this
  have n1 : (h.1 ++ [sh]).length - h.1.length = 1 := by simp
  have n2 : zsl (h.1 ++ [sh]) - zsl h.1 = zsl1 sh := by rw [zsl_app]; omega
  simp only at this
  rw [n1, n2] at this
  have e3 : (Value.ref h.1.length :: st2).map (zv (fun j => if j = h.1.length then q else ad j)) = .ref q :: st2.map (zv ad) := by
    rw [List.map_cons, e2]
    show Value.ref (if h.1.length = h.1.length then q else _) :: _ = _
    rw [if_pos rfl]
  rw [e3] at this
  exact this
theorem zTys_newO {ca : ClassId} {a : Nat × List (Option Nat)} : zTys (fun j => if j = h.1.length then ca else cA j) 0 (h.1 ++ [.inl a]) = zTys cA 0 h.1 := by
  rw [zTys_app]
  show _ ++ [] = _
  rw [List.append_nil]
  exact zTys_congr (fun i hi => if_neg (by omega))
theorem zTys_newA {ca : ClassId} {ty : FieldType} {n : Nat} {a : List (Option Nat)} : zTys (fun j => if j = h.1.length then ca else cA j) 0 (h.1 ++ [.inr (ty, n, a)]) = zTys cA 0 h.1 ++ [(ca, ty)] := by
  rw [zTys_app]
  show _ ++ [((fun j => if j = h.1.length then ca else cA j) (0 + h.1.length), ty)] = _
  rw [zTys_congr (cA2 := cA) (fun i hi => if_neg (by omega))]
  simp
theorem zrep_all {n k : Nat} : (List.replicate n (none : Option Nat)).all (zneO k) = true := by
  refine List.all_eq_true.mpr (fun x hx => ?_)
  rw [List.eq_of_mem_replicate hx]
  rfl
theorem znewO_sim {idx : Nat} {q : Nat × Nat × Nat × Nat} {h' : zH} (C : zCtx p R s m args meth c A M) (O : zOk dC dI s A M ad cA h H locs ls lst) (hidx : idx < 65536) (hq : zlk zCC (M.1 * 65536 + idx) = some q) (hd : decode M.2.2.1 pc = .ok (.new idx, 3))
    (hz : znw h lst st (.inl (q.1, List.replicate (zNf q.1) none)) = some h') (hcl : cells + 1 ≤ R.cells) (hsl : slots + zNf q.1 ≤ R.slots)
    (k : zGo p l e R s m args below meth c cells slots Q dC dI A M ad h (pc + 3, lst, .ref h.1.length :: st, h')) : W p l e R s m args below meth c H locs cells slots Q (F0 m pc ls (st.map (zv ad))) := by
  have hw := List.all_eq_true.mp zCC_ok _ (zlk_mem hq)
  unfold zckC at hw
  simp only [zkey1 hidx, zkey2 hidx, Bool.and_eq_true, decide_eq_true_eq] at hw
  obtain ⟨⟨⟨w1, w2⟩, w3⟩, h9⟩ := hw
  obtain ⟨hx, hb, hml, hown, hts, hA, hin, hRl, hRf⟩ := C
  have efs : (List.range (zNf q.1)).map (zfld ad q.1 (List.replicate (zNf q.1) none) (fun _ => 0)) = (List.range (zNf q.1)).map (fun j => if zIr q.1 j = true then Value.null else .int 0) := by
    refine List.map_congr_left (fun j hj => ?_)
    have hj : j < zNf q.1 := List.mem_range.mp hj
    unfold zfld
    by_cases hI : zIr q.1 j = true
    · rw [if_pos hI, if_pos hI, List.getD_eq_getElem?_getD, List.getElem?_replicate, if_pos hj]
      rfl
    · rw [if_neg hI, if_neg hI]
  refine va_new (ci := q.1) (C := zR q.1) (T := zT q.1) (N := zNf q.1) (fs := (List.range (zNf q.1)).map (fun j => if zIr q.1 j = true then Value.null else .int 0)) hx hb hts (zws_ok _ h9) (zTy q.1) (zty_ok _ h9) hown (zfl_word hts w1) (zfl_word hts w2) (zfl_word hts w3) O.2.1 O.1 O.2.2.1 O.2.2.2.1 hA (zcl_ok _ h9) (fun j hj => ?_) hcl hsl hd (fun a H1 hP1 hD1 hS1 => ?_)
  · rw [zdef_ok _ h9 j hj]
    unfold vp_V
    rw [List.getD_eq_getElem?_getD, List.getElem?_map, List.getElem?_range hj]
    rfl
  · rw [← efs] at hP1 hD1
    exact znew_go (ca := 0) (lst2 := []) (sh := .inl (q.1, List.replicate (zNf q.1) none)) O hz zrep_all (by rw [zTys_newO]; exact O.2.1) hP1 hD1 hS1 k
theorem znewA_sim {ty : ArrayType} {n : Int32} {rest : List Value} {h' : zH} (C : zCtx p R s m args meth c A M) (O : zOk dC dI s A M ad cA h H locs ls lst) (hd : decode M.2.2.1 pc = .ok (.newarray ty, 2)) (hn : ¬ n < 0) (hb9 : n.toNatClampNeg ≤ 100000) (hty : ty = .int ∨ ty = .char)
    (hz : znw h lst rest (.inr (newarray.typeOf ty, n.toNatClampNeg, [])) = some h') (hcl : cells + 1 ≤ R.cells) (hsl : slots + n.toNatClampNeg ≤ R.slots)
    (k : zGo p l e R s m args below meth c cells slots Q dC dI A M ad h (pc + 2, lst, .ref h.1.length :: rest, h')) : W p l e R s m args below meth c H locs cells slots Q (F0 m pc ls (.int n :: rest.map (zv ad))) := by
  obtain ⟨hx, hb, hml, hown, hts, hA, hin, hRl, hRf⟩ := C
  rcases hty with rfl | rfl
  · refine va_newa (atype := .int) (a0 := (n.toNatClampNeg, .inl (fun _ => 0))) hx hb (hts _ zarr_i) rfl O.2.1 O.1 O.2.2.1 O.2.2.2.1 hA (fun _ => rfl) hn rfl (by show n.toNatClampNeg * 4 ≤ _; omega) hcl hsl hd (fun a ca H1 hK1 hP1 hD1 hS1 => ?_)
    exact znew_go (ca := ca) (lst2 := []) (sh := .inr (.int, n.toNatClampNeg, [])) O hz rfl (by rw [zTys_newA]; exact hK1) hP1 hD1 hS1 k
  · refine va_newa (atype := .char) (a0 := (n.toNatClampNeg, .inl (fun _ => 0))) hx hb (hts _ zarr_c) rfl O.2.1 O.1 O.2.2.1 O.2.2.2.1 hA (fun _ => rfl) hn rfl (by show n.toNatClampNeg * 2 ≤ _; omega) hcl hsl hd (fun a ca H1 hK1 hP1 hD1 hS1 => ?_)
    exact znew_go (ca := ca) (lst2 := []) (sh := .inr (.char, n.toNatClampNeg, [])) O hz rfl (by rw [zTys_newA]; exact hK1) hP1 hD1 hS1 k
theorem znewQ_sim {idx : Nat} {q : Nat × Nat × Nat × Nat} {n : Int32} {rest : List Value} {h' : zH} (C : zCtx p R s m args meth c A M) (O : zOk dC dI s A M ad cA h H locs ls lst) (hidx : idx < 65536) (hq : zlk zCC (M.1 * 65536 + idx) = some q) (hd : decode M.2.2.1 pc = .ok (.anewarray idx, 3)) (hn : ¬ n < 0) (hb9 : n.toNatClampNeg ≤ 100000) (hq2 : q.1 = 2)
    (hz : znw h lst rest (.inr (.object (zR q.1), n.toNatClampNeg, List.replicate n.toNatClampNeg none)) = some h') (hcl : cells + 1 ≤ R.cells) (hsl : slots + n.toNatClampNeg ≤ R.slots)
    (k : zGo p l e R s m args below meth c cells slots Q dC dI A M ad h (pc + 3, lst, .ref h.1.length :: rest, h')) : W p l e R s m args below meth c H locs cells slots Q (F0 m pc ls (.int n :: rest.map (zv ad))) := by
  have hw := List.all_eq_true.mp zCC_ok _ (zlk_mem hq)
  unfold zckC at hw
  simp only [zkey1 hidx, zkey2 hidx, Bool.and_eq_true, decide_eq_true_eq] at hw
  obtain ⟨⟨⟨w1, w2⟩, w3⟩, h9⟩ := hw
  obtain ⟨hx, hb, hml, hown, hts, hA, hin, hRl, hRf⟩ := C
  rw [hq2] at hz w1
  have hover : va_AO "SilkTariff$House" s := O.2.2.2.2.2.1.2.2.2.2.1
  refine va_newq hx hb hown (zfl_word hts w1) hover O.2.1 O.1 O.2.2.1 O.2.2.2.1 hA hn rfl (by omega) hcl hsl hd (fun a ca H1 hK1 hP1 hD1 hS1 => ?_)
  have e : (fun j => ((List.replicate n.toNatClampNeg (none : Option Nat)).getD j none).map ad) = (fun _ => none) := by
    funext j
    rw [List.getD_eq_getElem?_getD, List.getElem?_replicate]
    by_cases hj : j < n.toNatClampNeg
    · rw [if_pos hj]; rfl
    · rw [if_neg hj]; rfl
  have ec : zcell ad (fun _ => ca) h.1.length (.inr (.object (zR 2), n.toNatClampNeg, List.replicate n.toNatClampNeg none)) (fun _ => 0) = Sum.inl (ca, n.toNatClampNeg, Sum.inr (Sum.inr (Sum.inr (Sum.inr (fun _ => none))))) := by
    show Sum.inl (ca, n.toNatClampNeg, Sum.inr (Sum.inr (Sum.inr (Sum.inr (fun j => ((List.replicate n.toNatClampNeg (none : Option Nat)).getD j none).map ad))))) = _
    rw [e]
  exact znew_go (ca := ca) (lst2 := []) (sh := .inr (.object (zR 2), n.toNatClampNeg, List.replicate n.toNatClampNeg none)) O hz zrep_all (by rw [zTys_newA]; exact hK1) (by rw [ec]; exact hP1) (by rw [ec]; exact hD1) hS1 k
end ZV
