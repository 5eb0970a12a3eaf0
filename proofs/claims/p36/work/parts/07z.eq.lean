-- 07z: Arrays.equals of two rows that are the same
section ZEQ
variable {p : Program} {l : Launch} {e : Env} {R : Room} {s : State} {m : MethodId} {args : Array Value} {below : List Frame} {meth : Method} {c : Code} {H : Heap} {locs : List Loc} {cells slots : Nat} {Q : State → Prop}
variable {dC : Nat → ClassId} {dI : Nat → Nat → Nat} {A : Nat → Prop} {M : zMt} {ad : Nat → Nat} {cA : Nat → ClassId} {h : zH} {ls : Array Slot} {lst st : List Value} {pc len : Nat}
theorem zeqr_inv {a b : Nat} (he : zeqr h a b = true) : (∃ r1, h.1[a]? = some (.inr (.int, 420, r1))) ∧ (∃ r2, h.1[b]? = some (.inr (.int, 420, r2))) ∧ ∀ j, j < 420 → h.2 a j = h.2 b j := by
  unfold zeqr at he
  split at he
  case h_2 => cases he
  case h_1 n r1 k r2 e1 e2 =>
    simp only [Bool.and_eq_true] at he
    obtain ⟨⟨g1, g2⟩, g3⟩ := he
    have g1 := Nat.eq_of_beq_eq_true g1
    have g2 := Nat.eq_of_beq_eq_true g2
    subst g1; subst g2
    exact ⟨⟨r1, e1⟩, ⟨r2, e2⟩, fun j hj => eq_of_beq (List.all_eq_true.mp g3 j (List.mem_range.mpr hj))⟩
theorem va_Z.free {C n d : String} {v : Value} {A : Nat → Prop} {U : State} {H : Heap} (h : va_Z C n d v A U H) : va_Z C n d v (fun _ => False) U H := h.narrow (fun _ q => q.elim)
theorem va_O.free {C : String} {u : Nat} {A : Nat → Prop} {U : State} {H : Heap} (h : va_O C u A U H) : va_O C u (fun _ => False) U H := h.narrow (fun _ q => q.elim)
theorem zeqr_sim {a b idx : Nat} {r : List Value} (C : zCtx p R s m args meth c A M) (O : zOk dC dI s A M ad cA h H locs ls lst) (w0 : Cond.methodLink (zR M.1) idx eqName ∈ zTs) (w1 : Cond.static eqName ∈ zTs) (w2 : Cond.initialized "java/util/Arrays" ∈ zTs) (w3 : Cond.code eqName prog_21_method_83_code 3 (some .boolean) ∈ zTs)
    (hr : zwd r ≤ 8) (h6 : 6 ≤ M.2.2.2.2.2.1) (he : zeqr h a b = true) (hcl : cells ≤ R.cells) (hsl : slots ≤ R.slots) (hd : decode M.2.2.1 pc = .ok (.invokestatic idx, 3))
    (k : W p l e R s m args below meth c H locs cells slots Q (F0 m (pc + 3) ls (.int 1 :: r.map (zv ad)))) :
    W p l e R s m args below meth c H locs cells slots Q (F0 m pc ls (.ref (ad b) :: .ref (ad a) :: r.map (zv ad))) := by
  obtain ⟨⟨r1, e1⟩, ⟨r2, e2⟩, hfg⟩ := zeqr_inv he
  obtain ⟨hP, hK, hD, hS, hL, hRo, hSc, hlen⟩ := O
  obtain ⟨hx, hb, hml, hown, hts, hA, hin, hRl, hRf⟩ := C
  have hUn := (hRo.2.2.2.2.2).kept hS.2.1
  obtain ⟨z16, z2, z3, u, zU, zO⟩ := hUn
  obtain ⟨t1, k1⟩ := zTys_at (cA := cA) (n := 0) e1
  obtain ⟨t2, k2⟩ := zTys_at (cA := cA) (n := 0) e2
  rw [Nat.zero_add] at k1 k2
  have hA1 : H[ad a]? = some (arrV (cA a) 420 (fun j => .int (h.2 a j))) := hP a _ (zW_at (ad := ad) (cA := cA) e1)
  have hA2 : H[ad b]? = some (arrV (cA b) 420 (fun j => .int (h.2 b j))) := hP b _ (zW_at (ad := ad) (cA := cA) e2)
  have hV : ∀ U : State, U.heap = H → s.WarmedH U.vm → zV u (ad a) (ad b) (cA a) (cA b) 420 (h.2 a) (h.2 b) U := fun U hU hW => by
    have al := hW.alike
    refine ⟨⟨by rw [hU]; exact (zO.moved al).free, by rw [hU]; exact hA1, arrOfT_moved al (hK.2 t1 _ k1).1⟩, ⟨by rw [hU]; exact (zO.moved al).free, by rw [hU]; exact hA2, arrOfT_moved al (hK.2 t2 _ k2).1⟩, ?_, ?_, ?_, ?_⟩
    · rw [hU]; exact (z3.moved al).free
    · rw [hU]; exact (zU.moved al).free
    · rw [hU]; exact (z2.moved al).free
    · rw [hU]; exact (z16.moved al).free
  have hfix : CallFix p m c M.2.2.1 M.2.2.2.1 s args zTs (zR M.1) := ⟨hx, hb, hml, hown, hts⟩
  have good : GoodIn zTs zeW := fun w hw => by
    rcases List.mem_cons.mp hw with rfl | hw
    · exact zgoodW w3
    · exact zgoodW hw
  have hmon : 2 * (F0 m pc ls (.ref (ad b) :: .ref (ad a) :: r.map (zv ad))).monitorRoom + ((r.map (zv ad)).map fun v => v.category).sum ≤ 8 := lv_room (by rw [zwd_map]; exact hr)
  refine vp_callSi (va_runS (As := [.ref (ad a), .ref (ad b)]) (rest := r.map (zv ad)) (n := 2) (Pc := va_Pc [.ref (ad a), .ref (ad b)] (zV u (ad a) (ad b) (cA a) (cA b) 420 (h.2 a) (h.2 b))) (Qc := vp_Si (fun r => r = 1)) hfix (zMetE (l := l) (u := u) hfg)
    ⟨callB_of (ws' := zTs) _ hts good rfl rfl rfl (hts _ w2) (hts _ w0) ⟨by decide, by decide, by decide +kernel⟩ ⟨show zeR.frames + 1 ≤ R.frames from Nat.le_trans (show 5 ≤ 6 by omega) (Nat.le_trans h6 hRf), show 8 + (3 + 11) + zeR.locals ≤ R.locals from Nat.le_trans (show 182 ≤ 40 * 6 by omega) (Nat.le_trans (Nat.mul_le_mul_left 40 h6) hRl)⟩, hts _ w1⟩
    ⟨zV_blind, fun U hU hW => ⟨rfl, hV U hU hW⟩⟩ rfl rfl hL.1 rfl hmon hd ⟨hcl, hsl⟩).run (fun r hr => ?_)
  rw [hr]
  exact k
end ZEQ
