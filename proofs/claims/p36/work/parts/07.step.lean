-- 07: one instruction
section ZT
variable {p : Program} {l : Launch} {e : Env} {R : Room} {s : State} {m : MethodId} {args : Array Value} {below : List Frame} {meth : Method} {c : Code} {H : Heap} {locs : List Loc} {cells slots : Nat} {Q : State → Prop}
variable {dC : Nat → ClassId} {dI : Nat → Nat → Nat} {A : Nat → Prop} {M : zMt} {ad : Nat → Nat} {cA : Nat → ClassId} {h : zH} {ls : Array Slot} {lst st : List Value} {pc len : Nat}
/-- what an instruction owes: from the state behind it, the rest -/
def zGo (p : Program) (l : Launch) (e : Env) (R : Room) (s : State) (m : MethodId) (args : Array Value) (below : List Frame) (meth : Method) (c : Code) (cells slots : Nat) (Q : State → Prop) (dC : Nat → ClassId) (dI : Nat → Nat → Nat) (A : Nat → Prop) (M : zMt) (ad : Nat → Nat) (h : zH) (o : zC) : Prop :=
  ∀ (ad' : Nat → Nat) (cA' : Nat → ClassId) (H' : Heap) (locs' : List Loc) (ls' : Array Slot), (∀ j, (j < h.1.length ∨ o.2.2.2.1.length ≤ j) → ad' j = ad j) → zOk dC dI s A M ad' cA' o.2.2.2 H' locs' ls' o.2.1 →
    W p l e R s m args below meth c H' locs' (cells + (o.2.2.2.1.length - h.1.length)) (slots + (zsl o.2.2.2.1 - zsl h.1)) Q (F0 m o.1 ls' (o.2.2.1.map (zv ad')))
theorem zGo.same {o : zC} (k : zGo p l e R s m args below meth c cells slots Q dC dI A M ad h o) (h1 : o.2.2.2.1.length = h.1.length) (h2 : zsl o.2.2.2.1 = zsl h.1)
    {H' : Heap} {locs' : List Loc} {ls' : Array Slot} (O : zOk dC dI s A M ad cA o.2.2.2 H' locs' ls' o.2.1) : W p l e R s m args below meth c H' locs' cells slots Q (F0 m o.1 ls' (o.2.2.1.map (zv ad))) := by
  have := k ad cA H' locs' ls' (fun _ _ => rfl) O
  rw [h1, h2, Nat.sub_self, Nat.sub_self] at this
  exact this
theorem zOk.loc (O : zOk dC dI s A M ad cA h H locs ls lst) {n : Nat} {v : Value} (hv : lst[n]? = some v) (hn : ∀ q, v ≠ .retAddr q) : ls[n]? = some (.val (zv ad v)) := O.2.2.2.2.1.2.2.2 n v hv hn
theorem zOk.locs' (O : zOk dC dI s A M ad cA h H locs ls lst) {ls' : Array Slot} {lst' : List Value} (hl : zL ad ls' M.2.2.2.1 lst') : zOk dC dI s A M ad cA h H locs ls' lst' := ⟨O.1, O.2.1, O.2.2.1, O.2.2.2.1, hl, O.2.2.2.2.2⟩
theorem znum_len {i : Instr} {st' : List Value} (hz : znum i st = some st') (hl : zlenOk i len = true) : len = 1 := by
  unfold znum at hz
  split at hz <;> first | (exact eq_of_beq hl) | (cases hz; done)
theorem zst_num {i : Instr} {o : zC} (C : zCtx p R s m args meth c A M) (hd : decode M.2.2.1 pc = .ok (i, len)) (hlen : zlenOk i len = true) (hz : znumk i pc lst st h = some o) (O : zOk dC dI s A M ad cA h H locs ls lst)
    (k : zGo p l e R s m args below meth c cells slots Q dC dI A M ad h o) : W p l e R s m args below meth c H locs cells slots Q (F0 m pc ls (st.map (zv ad))) := by
  unfold znumk at hz
  split at hz
  case h_2 => cases hz
  case h_1 r hr =>
  cases hz
  have := znum_len hr hlen
  subst this
  exact znum_sim C.1 C.2.1 hd hr (k.same rfl rfl O)
theorem zst_ldi {n : Nat} {o : zC} (O : zOk dC dI s A M ad cA h H locs ls lst) (hz : zldi pc len lst st h n = some o) (k : zGo p l e R s m args below meth c cells slots Q dC dI A M ad h o)
    (kk : ∀ x : Int32, ls[n]? = some (.val (.int x)) → W p l e R s m args below meth c H locs cells slots Q (F0 m (pc + len) ls (.int x :: st.map (zv ad))) → W p l e R s m args below meth c H locs cells slots Q (F0 m pc ls (st.map (zv ad)))) :
    W p l e R s m args below meth c H locs cells slots Q (F0 m pc ls (st.map (zv ad))) := by
  unfold zldi at hz
  split at hz
  case h_2 => cases hz
  case h_1 x hx =>
  cases hz
  exact kk x (O.loc hx (fun _ q => by cases q)) (k.same rfl rfl O)
theorem zst_ldd {n : Nat} {o : zC} (O : zOk dC dI s A M ad cA h H locs ls lst) (hz : zldd pc len lst st h n = some o) (k : zGo p l e R s m args below meth c cells slots Q dC dI A M ad h o)
    (kk : ∀ x : UInt64, ls[n]? = some (.val (.double x)) → W p l e R s m args below meth c H locs cells slots Q (F0 m (pc + len) ls (.double x :: st.map (zv ad))) → W p l e R s m args below meth c H locs cells slots Q (F0 m pc ls (st.map (zv ad)))) :
    W p l e R s m args below meth c H locs cells slots Q (F0 m pc ls (st.map (zv ad))) := by
  unfold zldd at hz
  split at hz
  case h_2 => cases hz
  case h_1 x hx =>
  cases hz
  exact kk x (O.loc hx (fun _ q => by cases q)) (k.same rfl rfl O)
theorem zst_lda {n : Nat} {o : zC} (O : zOk dC dI s A M ad cA h H locs ls lst) (hz : zlda pc len lst st h n = some o) (k : zGo p l e R s m args below meth c cells slots Q dC dI A M ad h o)
    (kk : ∀ x : Nat, ls[n]? = some (.val (.ref x)) → W p l e R s m args below meth c H locs cells slots Q (F0 m (pc + len) ls (.ref x :: st.map (zv ad))) → W p l e R s m args below meth c H locs cells slots Q (F0 m pc ls (st.map (zv ad))))
    (kn : ls[n]? = some (.val .null) → W p l e R s m args below meth c H locs cells slots Q (F0 m (pc + len) ls (.null :: st.map (zv ad))) → W p l e R s m args below meth c H locs cells slots Q (F0 m pc ls (st.map (zv ad)))) :
    W p l e R s m args below meth c H locs cells slots Q (F0 m pc ls (st.map (zv ad))) := by
  unfold zlda at hz
  split at hz
  case h_3 => cases hz
  case h_1 x hx =>
    cases hz
    exact kk _ (O.loc hx (fun _ q => by cases q)) (k.same rfl rfl O)
  case h_2 hx =>
    cases hz
    exact kn (O.loc hx (fun _ q => by cases q)) (k.same rfl rfl O)
theorem zsto_sim {n : Nat} {r : List Value} {v : Value} {o : zC} (O : zOk dC dI s A M ad cA h H locs ls lst) (hz : zsto pc len lst r h n v = some o) (k : zGo p l e R s m args below meth c cells slots Q dC dI A M ad h o) :
    n < M.2.2.2.1 ∧ ∀ ls' : Array Slot, lv_has ls' M.2.2.2.1 ((n, zv ad v) :: (zlv ad lst).filter (fun q => !(q.1 == n) && !(q.1 + 1 == n && q.2.category == 2))) → W p l e R s m args below meth c H locs cells slots Q (F0 m (pc + len) ls' (r.map (zv ad))) := by
  unfold zsto at hz
  split at hz
  case isFalse => cases hz
  case isTrue hc =>
  cases hz
  have hll := O.2.2.2.2.1.2.1
  exact ⟨by omega, fun ls' hl' => k.same rfl rfl (O.locs' (zL_set1 hll hc.2 hl'))⟩
theorem zstoD_sim {n : Nat} {r : List Value} {v : Value} {o : zC} (O : zOk dC dI s A M ad cA h H locs ls lst) (hz : zstoD pc len lst r h n v = some o) (k : zGo p l e R s m args below meth c cells slots Q dC dI A M ad h o) :
    n + 1 < M.2.2.2.1 ∧ ∀ ls' : Array Slot, lv_has ls' M.2.2.2.1 ((n, zv ad v) :: (zlv ad lst).filter (fun q => !(q.1 == n) && (!(q.1 == n + 1) && !(q.1 + 1 == n && q.2.category == 2)))) → W p l e R s m args below meth c H locs cells slots Q (F0 m (pc + len) ls' (r.map (zv ad))) := by
  unfold zstoD at hz
  split at hz
  case isFalse => cases hz
  case isTrue hc =>
  cases hz
  have hll := O.2.2.2.2.1.2.1
  exact ⟨by omega, fun ls' hl' => k.same rfl rfl (O.locs' (zL_set2 hll hc.2 hl'))⟩
theorem zsti_inv {n : Nat} {o : zC} (hz : zsti pc len lst st h n = some o) : ∃ x r, st = .int x :: r ∧ zsto pc len lst r h n (.int x) = some o := by
  unfold zsti at hz
  split at hz
  · exact ⟨_, _, rfl, hz⟩
  · cases hz
theorem zstd_inv {n : Nat} {o : zC} (hz : zstd pc len lst st h n = some o) : ∃ x r, st = .double x :: r ∧ zstoD pc len lst r h n (.double x) = some o := by
  unfold zstd at hz
  split at hz
  · exact ⟨_, _, rfl, hz⟩
  · cases hz
theorem zsta_inv {n : Nat} {o : zC} (hz : zsta pc len lst st h n = some o) : (∃ x r, st = .ref x :: r ∧ zsto pc len lst r h n (.ref x) = some o) ∨ ∃ r, st = .null :: r ∧ zsto pc len lst r h n .null = some o := by
  unfold zsta at hz
  split at hz
  · exact Or.inl ⟨_, _, rfl, hz⟩
  · exact Or.inr ⟨_, rfl, hz⟩
  · cases hz
theorem zpush_inv {r : List Value} {x : Option Value} {o : zC} {t : Nat} (hz : zpush t lst r h x = some o) : ∃ v, x = some v ∧ o = (t, lst, v :: r, h) := by
  unfold zpush at hz
  split at hz
  · cases hz; exact ⟨_, rfl, rfl⟩
  · cases hz
theorem zhset_inv {r : List Value} {x : Option zH} {o : zC} {t : Nat} (hz : zhset t lst r x = some o) : ∃ v, x = some v ∧ o = (t, lst, r, v) := by
  unfold zhset at hz
  split at hz
  · cases hz; exact ⟨_, rfl, rfl⟩
  · cases hz
theorem zsw_inv {r : List Value} {o : zC} {off : Int} (hz : zsw pc lst r h off = some o) : ∃ t : Nat, (pc : Int) + off = (t : Int) ∧ o = (t, lst, r, h) := by
  unfold zsw at hz
  split at hz
  · rename_i t ht; cases hz; exact ⟨_, zbr_ok ht, rfl⟩
  · cases hz
/-- a read of the heap: the same value -/
theorem zgf_sim {idx r : Nat} {q : Nat × Nat × Nat} {v : Value} (C : zCtx p R s m args meth c A M) (O : zOk dC dI s A M ad cA h H locs ls lst) (hidx : idx < 65536) (hq : zlk zFL (M.1 * 65536 + idx) = some q) (hv : zgf h r q.1 q.2.1 = some v)
    (hd : decode M.2.2.1 pc = .ok (.getfield idx, 3)) {rest : List Value} (k : W p l e R s m args below meth c H locs cells slots Q (F0 m (pc + 3) ls (zv ad v :: rest))) :
    W p l e R s m args below meth c H locs cells slots Q (F0 m pc ls (.ref (ad r) :: rest)) := by
  obtain ⟨hx, hb, hml, hown, hts, hA, hin, hRl, hRf⟩ := C
  obtain ⟨hP, hK, hD, hS, hL, hRo, hSc, hlen⟩ := O
  have hw := List.all_eq_true.mp zFL_ok _ (zlk_mem hq)
  unfold zckF at hw
  simp only [zkey1 hidx, zkey2 hidx] at hw
  have hlink := zfl_word hts hw
  unfold zgf at hv
  split at hv
  · rename_i hci
    have hci := Nat.eq_of_beq_eq_true hci
    split at hv
    case isFalse => cases hv
    case isTrue hr =>
    obtain ⟨i, rfl⟩ : ∃ i, r = 1000000 + i := ⟨r - 1000000, by omega⟩
    have hi : i < zSb.length := by omega
    obtain ⟨-, hco, hva, -⟩ := hRo.1.1 i hi
    rw [hci] at hlink
    split at hv
    · rename_i hk0
      cases hv
      rw [hk0] at hlink
      have e : (1000000 + i + 1000 : Nat) = 1001000 + i := by omega
      rw [e] at k
      exact vk_getf hx hb hva hS hown hlink (fun _ h9 => h9) hd k
    · rename_i hk0
      cases hv
      have e : zT 10 q.2.1 = zT 10 1 := by
        cases hk : q.2.1 with
        | zero => exact absurd hk hk0
        | succ n => rfl
      rw [e] at hlink
      exact vk_getf hx hb hco hS hown hlink (fun _ h9 => h9) hd k
  · split at hv
    case h_2 => cases hv
    case h_1 c0 refs hr =>
    split at hv
    case isFalse => cases hv
    case isTrue hc =>
    obtain ⟨hc0, hk⟩ := hc
    obtain ⟨ci, hci⟩ : ∃ ci, ci = q.1 := ⟨_, rfl⟩
    rw [hc0] at hr
    rw [← hci] at hr hk hv hlink
    have h9 : ci < 9 := by
      rcases Nat.lt_or_ge ci 9 with z | z
      · exact z
      · exfalso
        have : zNf ci = 0 := by
          match ci, z with
          | n + 9, _ => rfl
        omega
    have he := zW_at (ad := ad) (cA := cA) hr
    refine va_get (D := (dC, dI)) (ci := ci) (C := zR ci) (T := zT ci) (N := zNf ci) (v := zv ad v) hx hb hts (zws_ok ci h9) hown hK hP r he (zcl_ok ci h9) q.2.1 hk hlink (fun _ h9 => h9) ?_ hd k
    rw [zfs_at hk]
    unfold zfld
    split at hv
    · rename_i hI
      cases hv
      rw [if_pos hI, zv_zrf]
    · rename_i hI
      cases hv
      rw [if_neg hI]
      rfl
theorem zty_ref {ci k : Nat} (h : zIr ci k = true) : (∃ n, zTy ci k = .object n) ∨ ∃ t, zTy ci k = .array t := by
  unfold zIr at h
  split at h
  · rename_i n hn; exact Or.inl ⟨n, hn⟩
  · rename_i n hn; exact Or.inr ⟨n, hn⟩
  · cases h
theorem zty_fit {ty : FieldType} {x : Int32} (h : zfit ty x = true) : narrow ty (.int x) = .int x ∧ fits ty (.int x) = true := by
  cases ty <;> first
    | (cases h; done)
    | exact ⟨rfl, rfl⟩
    | (unfold zfit at h
       simp only [Bool.or_eq_true, beq_iff_eq] at h
       rcases h with rfl | rfl <;> exact ⟨by decide, by decide⟩)
end ZT
