-- 08: the writing instructions, and every instruction
section ZU
variable {p : Program} {l : Launch} {e : Env} {R : Room} {s : State} {m : MethodId} {args : Array Value} {below : List Frame} {meth : Method} {c : Code} {H : Heap} {locs : List Loc} {cells slots : Nat} {Q : State → Prop}
variable {dC : Nat → ClassId} {dI : Nat → Nat → Nat} {A : Nat → Prop} {M : zMt} {ad : Nat → Nat} {cA : Nat → ClassId} {h : zH} {ls : Array Slot} {lst st : List Value} {pc len : Nat}
theorem zpf_sim {idx r : Nat} {q : Nat × Nat × Nat} {v : Value} {h' : zH} {t : Nat} {rest : List Value} (C : zCtx p R s m args meth c A M) (O : zOk dC dI s A M ad cA h H locs ls lst) (hidx : idx < 65536) (hq : zlk zFL (M.1 * 65536 + idx) = some q) (hv : zpf M h r q.1 q.2.1 v = some h')
    (hd : decode M.2.2.1 pc = .ok (.putfield idx, 3)) (k : zGo p l e R s m args below meth c cells slots Q dC dI A M ad h (pc + 3, lst, rest, h')) :
    W p l e R s m args below meth c H locs cells slots Q (F0 m pc ls (zv ad v :: .ref (ad r) :: rest.map (zv ad))) := by
  obtain ⟨hx, hb, hml, hown, hts, hA, hin, hRl, hRf⟩ := C
  have hP := O.1
  have hK := O.2.1
  have hD := O.2.2.1
  have hS := O.2.2.2.1
  have hw := List.all_eq_true.mp zFL_ok _ (zlk_mem hq)
  unfold zckF at hw
  simp only [zkey1 hidx, zkey2 hidx] at hw
  have hlink := zfl_word hts hw
  unfold zpf at hv
  split at hv
  case h_2 => cases hv
  case h_1 c0 refs hr =>
  split at hv
  case isFalse => cases hv
  case isTrue hc =>
  obtain ⟨hc0, hk, hfin⟩ := hc
  rw [hc0] at hv hr
  obtain ⟨ci, hci⟩ : ∃ ci, ci = q.1 := ⟨_, rfl⟩
  rw [← hci] at hr hk hv hlink hfin
  have h9 : ci < 9 := by
    rcases Nat.lt_or_ge ci 9 with z | z
    · exact z
    · exfalso
      have : zNf ci = 0 := by
        match ci, z with
        | n + 9, _ => rfl
      omega
  have he := zW_at (ad := ad) (cA := cA) hr
  have hrl : r < h.1.length := (List.getElem?_eq_some_iff.mp hr).1
  have hdt := zty_ok ci h9 q.2.1 hk
  -- one row for both kinds of fields
  have row : ∀ (w : Value), narrow (zTy ci q.2.1) w = w → fits (zTy ci q.2.1) w = true → (∀ (H1 : Heap) (locs1 : List Loc), va_P (dC, dI) zcl ((zW ad cA h).set r (ad r, .inr (ci, ((List.range (zNf ci)).map (zfld ad ci refs (h.2 r))).set q.2.1 w))) H1 → va_D A ((zW ad cA h).set r (ad r, .inr (ci, ((List.range (zNf ci)).map (zfld ad ci refs (h.2 r))).set q.2.1 w))) → va_S A s.heap H1 locs1 → W p l e R s m args below meth c H1 locs1 cells slots Q (F0 m (pc + 3) ls (rest.map (zv ad)))) → W p l e R s m args below meth c H locs cells slots Q (F0 m pc ls (w :: .ref (ad r) :: rest.map (zv ad))) := by
    intro w hn hf kk
    cases hF : (zT ci q.2.1).2.2.2 with
    | true =>
      obtain ⟨f1, f2⟩ := hfin hF
      exact va_putF (D := (dC, dI)) (ci := ci) (C := zR ci) (T := zT ci) (N := zNf ci) (v := w) (ty := zTy ci q.2.1) hx hb hts (zws_ok ci h9) (zTy ci) (zty_ok ci h9) (znm_ok ci h9) hown hK hP hD hS r he (zcl_ok ci h9) q.2.1 hk hlink (fun _ h9 => h9) hF (hin f1) (by rw [zown_ok ci h9 q.2.1 hk, f2]) hdt hn hf (by simpa using hk) hd kk
    | false =>
      exact va_put (D := (dC, dI)) (ci := ci) (C := zR ci) (T := zT ci) (N := zNf ci) (v := w) (ty := zTy ci q.2.1) hx hb hts (zws_ok ci h9) (zTy ci) (zty_ok ci h9) (znm_ok ci h9) hown hK hP hD hS r he (zcl_ok ci h9) q.2.1 hk hlink (fun _ h9 => h9) hF hdt hn hf (by simpa using hk) hd kk
  split at hv
  · rename_i x
    split at hv
    case isFalse => cases hv
    case isTrue hI =>
    cases hv
    obtain ⟨f1, f2⟩ := zty_fit hI.2
    refine row (.int x) f1 f2 (fun H1 locs1 hP1 hD1 hS1 => ?_)
    rw [zfs_setI hI.1] at hP1 hD1
    exact k.same rfl rfl (zOk_num O hr hP1 hD1 hS1)
  · rename_i a
    split at hv
    case isFalse => cases hv
    case isTrue hI =>
    cases hv
    have f : narrow (zTy ci q.2.1) (.ref (ad a)) = .ref (ad a) ∧ fits (zTy ci q.2.1) (.ref (ad a)) = true := by
      rcases zty_ref hI.1 with ⟨n, hn⟩ | ⟨n, hn⟩ <;> rw [hn] <;> exact ⟨rfl, rfl⟩
    refine row (.ref (ad a)) f.1 f.2 (fun H1 locs1 hP1 hD1 hS1 => ?_)
    rw [zfs_setR hI.1 hI.2] at hP1 hD1
    exact k.same (List.length_set ..) (zsl_set hr rfl) (zOk_ref O hr (zTys_setO hr) hP1 hD1 hS1)
  · cases hv
theorem zal_sim {r : Nat} {x : Int32} {rest : List Value} (C : zCtx p R s m args meth c A M) (O : zOk dC dI s A M ad cA h H locs ls lst) (hv : zal M h r = some x) (hd : decode M.2.2.1 pc = .ok (.arraylength, 1))
    (k : W p l e R s m args below meth c H locs cells slots Q (F0 m (pc + 1) ls (.int x :: rest))) : W p l e R s m args below meth c H locs cells slots Q (F0 m pc ls (.ref (ad r) :: rest)) := by
  obtain ⟨hx, hb, hml, hown, hts, hA, hin, hRl, hRf⟩ := C
  obtain ⟨hP, hK, hD, hS, hL, hRo, hSc, hlen⟩ := O
  unfold zal at hv
  split at hv
  · rename_i hr
    subst hr
    split at hv
    case isFalse => cases hv
    cases hv
    obtain ⟨⟨L, g1, g2, g3, g4, g5⟩, -⟩ := hSc
    rw [g2] at k
    exact va_slen hx hb g3 g4 g5 hS hd k
  · split at hv
    · rename_i hr
      obtain ⟨i, rfl⟩ : ∃ i, r = 1001000 + i := ⟨r - 1001000, by omega⟩
      have hi : i < zSb.length := by omega
      obtain ⟨-, -, -, hT⟩ := hRo.1.1 i hi
      have e : 1001000 + i - 1001000 = i := by omega
      rw [e] at hv
      have hv := Option.some.inj hv
      rw [← hv] at k
      refine va_tlen hx hb hT hS ?_ hd k
      rw [List.getD_eq_getElem?_getD, List.getElem?_map, List.getD_eq_getElem?_getD, List.getElem?_eq_getElem hi]
      rfl
    · split at hv
      case h_2 => cases hv
      case h_1 ty n refs hr =>
      cases hv
      obtain ⟨t0, ht⟩ := zTys_at (cA := cA) (n := 0) hr
      rw [Nat.zero_add] at ht
      have he := zW_at (ad := ad) (cA := cA) hr
      cases ty <;> exact va_alen hx hb hK hP r t0 he ht rfl hd k
theorem zia_sim {r : Nat} {i : Int32} {v : Value} {rest : List Value} (C : zCtx p R s m args meth c A M) (O : zOk dC dI s A M ad cA h H locs ls lst) (hv : zia M h r i = some v) (hd : decode M.2.2.1 pc = .ok (.iaload, 1))
    (k : W p l e R s m args below meth c H locs cells slots Q (F0 m (pc + 1) ls (zv ad v :: rest))) : W p l e R s m args below meth c H locs cells slots Q (F0 m pc ls (.int i :: .ref (ad r) :: rest)) := by
  obtain ⟨hx, hb, hml, hown, hts, hA, hin, hRl, hRf⟩ := C
  obtain ⟨hP, hK, hD, hS, hL, hRo, hSc, hlen⟩ := O
  unfold zia at hv
  split at hv
  · rename_i hr
    subst hr
    obtain ⟨⟨L, g1, g2, g3, g4, g5⟩, -⟩ := hSc
    split at hv
    case isFalse => cases hv
    case isTrue hi =>
    have hi := hi.2
    cases hv
    refine va_sld hx hb g3 g4 g5 hS ?_ hd k
    rw [g2] at hi
    have h1 : (0 : Int32).toInt ≤ i.toInt := Int32.le_iff_toInt_le.mp hi.1
    have h2 := Int32.lt_iff_toInt_lt.mp hi.2
    rw [nI_toInt g1] at h2
    exact vp_in_iff.mpr ⟨h1, h2⟩
  · split at hv
    case h_2 => cases hv
    case h_1 n refs hr =>
    split at hv
    case isFalse => cases hv
    case isTrue hi =>
    cases hv
    obtain ⟨t0, ht⟩ := zTys_at (cA := cA) (n := 0) hr
    rw [Nat.zero_add] at ht
    exact va_iald hx hb hK hP r t0 (zW_at (ad := ad) (cA := cA) hr) ht (zin_vp hi) hd k
theorem zca_sim {r : Nat} {i : Int32} {v : Value} {rest : List Value} (C : zCtx p R s m args meth c A M) (O : zOk dC dI s A M ad cA h H locs ls lst) (hv : zca h r i = some v) (hd : decode M.2.2.1 pc = .ok (.caload, 1))
    (k : W p l e R s m args below meth c H locs cells slots Q (F0 m (pc + 1) ls (zv ad v :: rest))) : W p l e R s m args below meth c H locs cells slots Q (F0 m pc ls (.int i :: .ref (ad r) :: rest)) := by
  obtain ⟨hx, hb, hml, hown, hts, hA, hin, hRl, hRf⟩ := C
  obtain ⟨hP, hK, hD, hS, hL, hRo, hSc, hlen⟩ := O
  unfold zca at hv
  split at hv
  case h_2 => cases hv
  case h_1 n refs hr =>
  split at hv
  case isFalse => cases hv
  case isTrue hi =>
  cases hv
  obtain ⟨t0, ht⟩ := zTys_at (cA := cA) (n := 0) hr
  rw [Nat.zero_add] at ht
  exact va_cald hx hb hK hP r t0 (zW_at (ad := ad) (cA := cA) hr) ht (zin_vp hi) hd k
theorem zba_sim {r : Nat} {i : Int32} {v : Value} {rest : List Value} (C : zCtx p R s m args meth c A M) (O : zOk dC dI s A M ad cA h H locs ls lst) (hv : zba r i = some v) (hd : decode M.2.2.1 pc = .ok (.baload, 1))
    (k : W p l e R s m args below meth c H locs cells slots Q (F0 m (pc + 1) ls (zv ad v :: rest))) : W p l e R s m args below meth c H locs cells slots Q (F0 m pc ls (.int i :: .ref (ad r) :: rest)) := by
  obtain ⟨hx, hb, hml, hown, hts, hA, hin, hRl, hRf⟩ := C
  obtain ⟨hP, hK, hD, hS, hL, hRo, hSc, hlen⟩ := O
  unfold zba at hv
  split at hv
  case isFalse => cases hv
  case isTrue hr =>
  obtain ⟨j, rfl⟩ : ∃ j, r = 1001000 + j := ⟨r - 1001000, by omega⟩
  have hj : j < zSb.length := by omega
  have e : 1001000 + j - 1001000 = j := by omega
  rw [e] at hr hv
  have hv := Option.some.inj hv
  rw [← hv] at k
  obtain ⟨-, -, -, hT⟩ := hRo.1.1 j hj
  have e2 : (zSb.map List.length).getD j 0 = (zSb.getD j []).length := by
    rw [List.getD_eq_getElem?_getD, List.getElem?_map, List.getD_eq_getElem?_getD, List.getElem?_eq_getElem hj]
    rfl
  rw [e2] at hT
  exact va_tb hx hb hT hS (zin_vp hr.2.2) rfl hd k
theorem zaa_sim {r : Nat} {i : Int32} {v : Value} {rest : List Value} (C : zCtx p R s m args meth c A M) (O : zOk dC dI s A M ad cA h H locs ls lst) (hv : zaa h r i = some v) (hd : decode M.2.2.1 pc = .ok (.aaload, 1))
    (k : W p l e R s m args below meth c H locs cells slots Q (F0 m (pc + 1) ls (zv ad v :: rest))) : W p l e R s m args below meth c H locs cells slots Q (F0 m pc ls (.int i :: .ref (ad r) :: rest)) := by
  obtain ⟨hx, hb, hml, hown, hts, hA, hin, hRl, hRf⟩ := C
  obtain ⟨hP, hK, hD, hS, hL, hRo, hSc, hlen⟩ := O
  unfold zaa at hv
  split at hv
  case h_2 => cases hv
  case h_1 cn n refs hr =>
  split at hv
  case isFalse => cases hv
  case isTrue hi =>
  cases hv
  obtain ⟨t0, ht⟩ := zTys_at (cA := cA) (n := 0) hr
  rw [Nat.zero_add] at ht
  rw [zv_zrf] at k
  exact va_aldq hx hb hK hP r t0 (zW_at (ad := ad) (cA := cA) hr) ht (zin_vp hi) hd k
theorem zroom (C : zCtx p R s m args meth c A M) (h1 : 1 ≤ M.2.2.2.2.2.1) : 1 ≤ R.frames ∧ 40 ≤ R.locals := by
  obtain ⟨-, -, -, -, -, -, -, hRl, hRf⟩ := C
  exact ⟨Nat.le_trans h1 hRf, by omega⟩
theorem zlib_sim {o : zC} {idx : Nat} {i : Instr} (C : zCtx p R s m args meth c A M) (O : zOk dC dI s A M ad cA h H locs ls lst) (hidx : idx < 65536) (hi : i = .invokestatic idx ∨ i = .invokespecial idx) (hd : decode M.2.2.1 pc = .ok (i, 3)) (hz : zlibk M pc lst st h idx = some o)
    (hs2 : i = .invokespecial idx → ∀ q, zlk zLL (M.1 * 65536 + idx) = some q → q.1 = 8) (hs1 : i = .invokestatic idx → ∀ q, zlk zLL (M.1 * 65536 + idx) = some q → q.1 ≠ 8)
    (hcl : cells ≤ R.cells) (hsl : slots ≤ R.slots) (k : zGo p l e R s m args below meth c cells slots Q dC dI A M ad h o) :
    W p l e R s m args below meth c H locs cells slots Q (F0 m pc ls (st.map (zv ad))) := by
  unfold zlibk at hz
  split at hz
  case h_2 => cases hz
  case h_1 q hq =>
  have hs1 := fun w => hs1 w q hq
  have hs2 := fun w => hs2 w q hq
  have hw := List.all_eq_true.mp zLL_ok _ (zlk_mem hq)
  unfold zckB at hw
  simp only [zkey1 hidx, zkey2 hidx] at hw
  unfold zlib at hz
  split at hz
  case isFalse => cases hz
  case isTrue hdp =>
  obtain ⟨f1, f2⟩ := zroom C hdp
  obtain ⟨hx, hb, hml, hown, hts, hA, hin, hRl, hRf⟩ := C
  have hL := O.2.2.2.2.1
  have hmls : c.maxLocals = ls.size := hml.trans hL.1.symm
  have hst : i = .invokestatic idx → decode M.2.2.1 pc = .ok (.invokestatic idx, 3) := fun w => by rw [← w]; exact hd
  have hsp : i = .invokespecial idx → decode M.2.2.1 pc = .ok (.invokespecial idx, 3) := fun w => by rw [← w]; exact hd
  split at hz
  · rename_i hk
    split at hz
    case isFalse => cases hz
    case isTrue hr =>
    cases hz
    rw [hk] at hw hs2
    simp only [Bool.and_eq_true] at hw
    have hi1 : i = .invokestatic idx := hi.elim id (fun w => absurd (hs2 w) (by decide))
    exact va_mmax hx hb hmls hown (zfl_word hts hw.1.1.1) (zfl_word hts hw.1.1.2) (zfl_word hts hw.1.2) (zfl_word hts hw.2) f1 (by rw [zwd_map]; omega) hcl hsl (hst hi1) (k.same rfl rfl O)
  · rename_i hk
    split at hz
    case isFalse => cases hz
    case isTrue hr =>
    cases hz
    rw [hk] at hw hs2
    simp only [Bool.and_eq_true] at hw
    have hi1 : i = .invokestatic idx := hi.elim id (fun w => absurd (hs2 w) (by decide))
    exact va_mmin hx hb hmls hown (zfl_word hts hw.1.1.1) (zfl_word hts hw.1.1.2) (zfl_word hts hw.1.2) (zfl_word hts hw.2) f1 (by rw [zwd_map]; omega) hcl hsl (hst hi1) (k.same rfl rfl O)
  · rename_i hk
    split at hz
    case isFalse => cases hz
    case isTrue hr =>
    obtain ⟨h', hh, rfl⟩ := zhset_inv hz
    rw [hk] at hw hs2
    simp only [Bool.and_eq_true] at hw
    have hi1 : i = .invokestatic idx := hi.elim id (fun w => absurd (hs2 w) (by decide))
    unfold zcpy at hh
    split at hh
    case h_2 => cases hh
    case h_1 n0 r0 n1 r1 ha0 ha1 =>
    split at hh
    case isFalse => cases hh
    case isTrue hc =>
    obtain ⟨c1, c2, c3, c4, c5⟩ := hc
    cases hh
    obtain ⟨t0, ht0⟩ := zTys_at (cA := cA) (n := 0) ha0
    obtain ⟨t1, ht1⟩ := zTys_at (cA := cA) (n := 0) ha1
    rw [Nat.zero_add] at ht0 ht1
    have e0 := zW_at (ad := ad) (cA := cA) ha0
    have e1 := zW_at (ad := ad) (cA := cA) ha1
    refine va_copyi hx hb hmls hown (zfl_word hts hw.1.1.1) (zfl_word hts hw.1.1.2) (zfl_word hts hw.1.2) (zfl_word hts hw.2) O.2.1 O.1 O.2.2.1 O.2.2.2.1 _ _ t0 t1 e0 e1 ht0 ht1 rfl c1 c2 c3 c4 c5 (fun _ _ => rfl) f1 (by rw [zwd_map, show nativeFrameWords "java/lang/System" "arraycopy" 5 = 7 from by decide]; omega) (hst hi1) (fun H1 locs1 hP1 hD1 hS1 => ?_)
    exact k.same rfl rfl (zOk_row O ha1 hP1 hD1 hS1)
  · rename_i hk
    split at hz
    case isFalse => cases hz
    case isTrue hr =>
    cases hz
    rw [hk] at hw hs1
    simp only [Bool.and_eq_true] at hw
    have hi1 : i = .invokespecial idx := hi.elim (fun w => absurd rfl (hs1 w)) id
    refine W.objInit hx hb hown (zfl_word hts hw.1.1) (zfl_word hts hw.1.2) (zfl_word hts hw.2) rfl (hmls.symm) rfl (hsp hi1) f1 ?_ (k.same rfl rfl O)
    show 2 * (F0 m pc ls _).monitorRoom + _ + 12 ≤ R.locals
    rw [zwd_map, show (F0 m pc ls (List.map (zv ad) (Value.ref _ :: _))).monitorRoom = 0 from rfl]
    omega
  · rename_i hk
    split at hz
    case isFalse => cases hz
    case isTrue hr =>
    cases hz
    rw [hk] at hw hs2
    simp only [Bool.and_eq_true] at hw
    have hi1 : i = .invokestatic idx := hi.elim id (fun w => absurd (hs2 w) (by decide))
    exact zeqr_sim ⟨hx, hb, hml, hown, hts, hA, hin, hRl, hRf⟩ O (zat_in hw.1.1.1) (zat_in hw.1.1.2) (zat_in hw.1.2) (zat_in hw.2) hr.1 hr.2.1 hr.2.2 hcl hsl (hst hi1) (k.same rfl rfl O)
  · cases hz
end ZU
