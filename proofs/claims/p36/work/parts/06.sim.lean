-- 06: an instruction of the small machine is one of the real one
section ZN
variable {p : Program} {l : Launch} {e : Env} {R : Room} {s : State} {m : MethodId} {args : Array Value} {below : List Frame} {meth : Method} {c : Code} {H : Heap} {locs : List Loc} {cells slots : Nat} {Q : State → Prop}
variable {cc : ByteArray} {pc : Nat} {ls : Array Slot} {ad : Nat → Nat}
theorem znum_sim (hx : p.tables.exec = Jvm.exec) (hb : c.code = cc) {i : Instr} {st st' : List Value} (hd : decode cc pc = .ok (i, 1)) (hz : znum i st = some st')
    (k : W p l e R s m args below meth c H locs cells slots Q (F0 m (pc + 1) ls (st'.map (zv ad)))) : W p l e R s m args below meth c H locs cells slots Q (F0 m pc ls (st.map (zv ad))) := by
  unfold znum at hz
  split at hz
  · cases hz; exact lv_null hx hb hd k
  · cases hz; exact lv_iconst hx hb hd rfl k
  · cases hz; exact lv_iadd hx hb hd k
  · cases hz; exact lv_isub hx hb hd k
  · cases hz; exact lv_imul hx hb hd k
  · cases hz; exact lv_iand hx hb hd k
  · cases hz; exact lv_ior hx hb hd k
  · cases hz; exact lv_ishl hx hb hd k
  · cases hz; exact lv_ishr hx hb hd k
  · split at hz
    · rename_i hne; cases hz; exact lv_idiv hx hb hd hne k
    · cases hz
  · cases hz; exact lv_iushr hx hb hd rfl k
  · cases hz; exact lv_fcmp hx hb hd k
  · split at hz
    · rename_i hne; cases hz; exact lv_irem hx hb hd hne k
    · cases hz
  · cases hz; exact lv_i2b hx hb hd rfl k
  · cases hz; exact lv_i2c hx hb hd rfl k
  · cases hz; exact lv_i2d hx hb hd k
  · cases hz; exact lv_i2f hx hb hd k
  · split at hz
    · rename_i hne; cases hz; exact lv_f2d hx hb hd hne k
    · cases hz
  · split at hz
    · rename_i hne; cases hz; exact lv_fdiv hx hb hd hne k
    · cases hz
  · split at hz
    · rename_i hne; cases hz; exact lv_ddiv hx hb hd hne k
    · cases hz
  · cases hz; exact lv_dcmp hx hb hd k
  · split at hz
    · rename_i n hn
      cases hz
      have : n = 0 := Fin.ext hn
      subst this
      exact lv_dconst0 hx hb hd k
    · cases hz
  · split at hz
    · rename_i n hn
      cases hz
      have : n = 0 := Fin.ext hn
      subst this
      exact lv_fconst0 hx hb hd k
    · cases hz
  · split at hz
    · rename_i hne; cases hz; exact lv_dup hx hb hd (by rw [zv_cat]; exact hne) k
    · cases hz
  · split at hz
    · rename_i hne; cases hz; exact lv_dup2_11 hx hb hd (by rw [zv_cat]; exact hne.1) (by rw [zv_cat]; exact hne.2) k
    · cases hz
  · split at hz
    · rename_i hne; cases hz; exact lv_pop hx hb hd (by rw [zv_cat]; exact hne) k
    · cases hz
  · cases hz
theorem zbr_ok {off : Int} {t : Nat} (h : zbr pc off = some t) : (pc : Int) + off = (t : Int) := by
  unfold zbr at h
  split at h
  · cases h; omega
  · cases h
theorem zif_sim {b : Prop} [Decidable b] {off : Int} {lst r : List Value} {h : zH} {o : zC} (hz : zif pc lst r h off b = some o) :
    o.2.1 = lst ∧ o.2.2.1 = r ∧ o.2.2.2 = h ∧ ∃ t : Nat, (pc : Int) + off = (t : Int) ∧ (b → o.1 = t) ∧ (¬ b → o.1 = pc + 3) := by
  unfold zif at hz
  split at hz
  · cases hz
  · rename_i t ht
    split at hz
    · rename_i hb
      cases hz
      exact ⟨rfl, rfl, rfl, t, zbr_ok ht, fun _ => rfl, fun q => absurd hb q⟩
    · rename_i hb
      cases hz
      exact ⟨rfl, rfl, rfl, t, zbr_ok ht, fun q => absurd q hb, fun _ => rfl⟩
theorem zicmp_sim (hx : p.tables.exec = Jvm.exec) (hb : c.code = cc) {cd : Jvm.ClassFile.Cond} {off : Int} {lst r : List Value} {h : zH} {o : zC} {x y : Int32} (hd : decode cc pc = .ok (.if_icmp cd off, 3)) (hz : zicmp cd pc lst r h off x y = some o) :
    o.2.1 = lst ∧ o.2.2.1 = r ∧ o.2.2.2 = h ∧ (W p l e R s m args below meth c H locs cells slots Q (F0 m o.1 ls (r.map (zv ad))) → W p l e R s m args below meth c H locs cells slots Q (F0 m pc ls ((Value.int y :: Value.int x :: r).map (zv ad)))) := by
  cases cd with
  | eq =>
    obtain ⟨h1, h2, h3, t, ht, hT, hF⟩ := zif_sim (show zif pc lst r h off (x = y) = some o from hz)
    refine ⟨h1, h2, h3, fun k => ?_⟩
    exact lv_icmp_eq hx hb hd ht (fun q => by have e := hT q; rw [e] at k; exact k) (fun q => by have e := hF q; rw [e] at k; exact k)
  | ne =>
    obtain ⟨h1, h2, h3, t, ht, hT, hF⟩ := zif_sim (show zif pc lst r h off (¬ x = y) = some o from hz)
    refine ⟨h1, h2, h3, fun k => ?_⟩
    exact lv_icmp_ne hx hb hd ht (fun q => by have e := hT q; rw [e] at k; exact k) (fun q => by have e := hF (fun z => z q); rw [e] at k; exact k)
  | lt =>
    obtain ⟨h1, h2, h3, t, ht, hT, hF⟩ := zif_sim (show zif pc lst r h off (x < y) = some o from hz)
    refine ⟨h1, h2, h3, fun k => ?_⟩
    exact lv_icmp_lt hx hb hd ht (fun q => by have e := hT q; rw [e] at k; exact k) (fun q => by have e := hF q; rw [e] at k; exact k)
  | ge =>
    obtain ⟨h1, h2, h3, t, ht, hT, hF⟩ := zif_sim (show zif pc lst r h off (y ≤ x) = some o from hz)
    refine ⟨h1, h2, h3, fun k => ?_⟩
    exact lv_icmp_ge hx hb hd ht (fun q => by have e := hT q; rw [e] at k; exact k) (fun q => by have e := hF q; rw [e] at k; exact k)
  | gt =>
    obtain ⟨h1, h2, h3, t, ht, hT, hF⟩ := zif_sim (show zif pc lst r h off (y < x) = some o from hz)
    refine ⟨h1, h2, h3, fun k => ?_⟩
    exact lv_icmp_gt hx hb hd ht (fun q => by have e := hT q; rw [e] at k; exact k) (fun q => by have e := hF q; rw [e] at k; exact k)
  | le =>
    obtain ⟨h1, h2, h3, t, ht, hT, hF⟩ := zif_sim (show zif pc lst r h off (x ≤ y) = some o from hz)
    refine ⟨h1, h2, h3, fun k => ?_⟩
    exact lv_icmp_le hx hb hd ht (fun q => by have e := hT q; rw [e] at k; exact k) (fun q => by have e := hF q; rw [e] at k; exact k)
theorem zifc_sim (hx : p.tables.exec = Jvm.exec) (hb : c.code = cc) {cd : Jvm.ClassFile.Cond} {off : Int} {lst r : List Value} {h : zH} {o : zC} {x : Int32} (hd : decode cc pc = .ok (.ifCond cd off, 3)) (hz : zicmp cd pc lst r h off x 0 = some o) :
    o.2.1 = lst ∧ o.2.2.1 = r ∧ o.2.2.2 = h ∧ (W p l e R s m args below meth c H locs cells slots Q (F0 m o.1 ls (r.map (zv ad))) → W p l e R s m args below meth c H locs cells slots Q (F0 m pc ls ((Value.int x :: r).map (zv ad)))) := by
  cases cd with
  | eq =>
    obtain ⟨h1, h2, h3, t, ht, hT, hF⟩ := zif_sim (show zif pc lst r h off (x = 0) = some o from hz)
    refine ⟨h1, h2, h3, fun k => ?_⟩
    exact lv_if_eq hx hb hd ht (fun q => by have e := hT q; rw [e] at k; exact k) (fun q => by have e := hF q; rw [e] at k; exact k)
  | ne =>
    obtain ⟨h1, h2, h3, t, ht, hT, hF⟩ := zif_sim (show zif pc lst r h off (¬ x = 0) = some o from hz)
    refine ⟨h1, h2, h3, fun k => ?_⟩
    exact lv_if_ne hx hb hd ht (fun q => by have e := hT q; rw [e] at k; exact k) (fun q => by have e := hF (fun z => z q); rw [e] at k; exact k)
  | lt =>
    obtain ⟨h1, h2, h3, t, ht, hT, hF⟩ := zif_sim (show zif pc lst r h off (x < 0) = some o from hz)
    refine ⟨h1, h2, h3, fun k => ?_⟩
    exact lv_if_lt hx hb hd ht (fun q => by have e := hT q; rw [e] at k; exact k) (fun q => by have e := hF q; rw [e] at k; exact k)
  | ge =>
    obtain ⟨h1, h2, h3, t, ht, hT, hF⟩ := zif_sim (show zif pc lst r h off (0 ≤ x) = some o from hz)
    refine ⟨h1, h2, h3, fun k => ?_⟩
    exact lv_if_ge hx hb hd ht (fun q => by have e := hT q; rw [e] at k; exact k) (fun q => by have e := hF q; rw [e] at k; exact k)
  | gt =>
    obtain ⟨h1, h2, h3, t, ht, hT, hF⟩ := zif_sim (show zif pc lst r h off (0 < x) = some o from hz)
    refine ⟨h1, h2, h3, fun k => ?_⟩
    exact lv_if_gt hx hb hd ht (fun q => by have e := hT q; rw [e] at k; exact k) (fun q => by have e := hF q; rw [e] at k; exact k)
  | le =>
    obtain ⟨h1, h2, h3, t, ht, hT, hF⟩ := zif_sim (show zif pc lst r h off (x ≤ 0) = some o from hz)
    refine ⟨h1, h2, h3, fun k => ?_⟩
    exact lv_if_le hx hb hd ht (fun q => by have e := hT q; rw [e] at k; exact k) (fun q => by have e := hF q; rw [e] at k; exact k)
end ZN
/-- what stays over a method -/
def zCtx (p : Program) (R : Room) (s : State) (m : MethodId) (args : Array Value) (meth : Method) (c : Code) (A : Nat → Prop) (M : zMt) : Prop :=
  p.tables.exec = Jvm.exec ∧ c.code = M.2.2.1 ∧ c.maxLocals = M.2.2.2.1 ∧ s.vm.findClass (zR M.1) = some m.cls ∧ (∀ w ∈ zTs, w.before args s = true) ∧ (∀ q : Nat, s.heap.size ≤ q → A q) ∧ (M.2.1.name = "<init>" → meth.name = "<init>") ∧ 40 * M.2.2.2.2.2.1 ≤ R.locals ∧ M.2.2.2.2.2.1 ≤ R.frames
/-- Unsafe and what rows of ints are compared by -/
def zUn (A : Nat → Prop) (s : State) (H : Heap) : Prop :=
  va_Z "jdk/internal/misc/Unsafe" "ARRAY_INT_BASE_OFFSET" "I" (.int 16) A s H ∧ va_Z "jdk/internal/util/ArraysSupport" "LOG2_ARRAY_INT_INDEX_SCALE" "I" (.int 2) A s H ∧ va_Z "jdk/internal/util/ArraysSupport" "LOG2_ARRAY_LONG_INDEX_SCALE" "I" (.int 3) A s H ∧
  ∃ u : Nat, va_Z "jdk/internal/util/ArraysSupport" "U" "Ljdk/internal/misc/Unsafe;" (.ref u) A s H ∧ va_O "jdk/internal/misc/Unsafe" u A s H
theorem zUn.moved {A : Nat → Prop} {u U : State} {H : Heap} (hvm : u.vm.Alike U.vm) (h : zUn A u H) : zUn A U H := by
  obtain ⟨h1, h2, h3, q, h4, h5⟩ := h
  exact ⟨h1.moved hvm, h2.moved hvm, h3.moved hvm, q, h4.moved hvm, h5.moved hvm⟩
theorem zUn.kept {A : Nat → Prop} {U : State} {H H1 : Heap} (h : zUn A U H) (hq : ∀ a : Nat, a < H.size → ¬ A a → H1[a]? = H[a]?) : zUn A U H1 := by
  obtain ⟨h1, h2, h3, q, h4, h5⟩ := h
  exact ⟨h1.kept hq, h2.kept hq, h3.kept hq, q, h4.kept hq, h5.kept hq⟩
theorem zUn.narrow {A B : Nat → Prop} {U : State} {H : Heap} (h : zUn A U H) (hAB : ∀ q, B q → A q) : zUn B U H := by
  obtain ⟨h1, h2, h3, q, h4, h5⟩ := h
  exact ⟨h1.narrow hAB, h2.narrow hAB, h3.narrow hAB, q, h4.narrow hAB, h5.narrow hAB⟩
/-- texts, statics, links of the nest: what is only read -/
def zRo (ad : Nat → Nat) (A : Nat → Prop) (s : State) (H : Heap) : Prop :=
  vk_S zSb.length (zSb.map List.length) zSb (fun i => ad (1000000 + i)) (fun i => ad (1001000 + i)) A s H ∧
  (∀ q ∈ zSL, vk_R (zR (q.1 / 65536)) (q.1 % 65536) (zSt.getD q.2 "") (ad (1000000 + q.2)) s) ∧
  va_Z "java/lang/String" "COMPACT_STRINGS" "Z" (.int 1) A s H ∧
  (∀ q ∈ zCL, q.2.1 = 3 → va_Nw (.methodLinkNest (zR (q.1 / 65536)) (q.1 % 65536) (zmt q.2.2.1).2.1 "SilkTariff") s) ∧
  va_AO "SilkTariff$House" s ∧ zUn A s H
def zSc (ad : Nat → Nat) (A : Nat → Prop) (s : State) (H : Heap) (G : Nat → Nat → Int32) : Prop :=
  (∃ L : Nat, L < 2 ^ 31 ∧ G 2000001 0 = nI L ∧ va_X (ad 2000000) L (G 2000000) s H ∧ ad 2000000 < H.size ∧ ¬ A (ad 2000000)) ∧
  ((G 2000002 0 = 0 ∧ va_Z "jdk/internal/util/Preconditions" "SIOOBE_FORMATTER" "Ljava/util/function/BiFunction;" .null A s H) ∨ (¬ G 2000002 0 = 0 ∧ va_Z "jdk/internal/util/Preconditions" "SIOOBE_FORMATTER" "Ljava/util/function/BiFunction;" (.ref (ad 1002000)) A s H))
/-- it speaks of what is read alone -/
theorem zSc_to {ad ad2 : Nat → Nat} {A : Nat → Prop} {s : State} {H : Heap} {G G2 : Nat → Nat → Int32} (h : zSc ad A s H G) (ha : ∀ j, 1000000 ≤ j → ad j = ad2 j) (hG : ∀ r, 1000000 ≤ r → G2 r = G r) : zSc ad2 A s H G2 := by
  obtain ⟨⟨L, h1, h2, h3, h4, h5⟩, h6⟩ := h
  refine ⟨⟨L, h1, ?_, ?_, ?_, ?_⟩, ?_⟩
  · rw [hG _ (by omega)]; exact h2
  · rw [hG _ (by omega), ← ha _ (by omega)]; exact h3
  · rw [← ha _ (by omega)]; exact h4
  · rw [← ha _ (by omega)]; exact h5
  · rw [hG _ (by omega), ← ha _ (by omega)]; exact h6
theorem zRo_ad {ad ad2 : Nat → Nat} {A : Nat → Prop} {s : State} {H : Heap} (h : zRo ad A s H) (ha : ∀ j, 1000000 ≤ j → ad j = ad2 j) : zRo ad2 A s H := by
  obtain ⟨h1, h2, h3, h5⟩ := h
  have e1 : (fun i => ad (1000000 + i)) = (fun i => ad2 (1000000 + i)) := funext fun i => ha _ (by omega)
  have e2 : (fun i => ad (1001000 + i)) = (fun i => ad2 (1001000 + i)) := funext fun i => ha _ (by omega)
  rw [e1, e2] at h1
  refine ⟨h1, fun q hq => ?_, h3, h5⟩
  rw [← ha _ (by omega)]; exact h2 q hq
/-- for a callee -/
theorem zRo_call {ad : Nat → Nat} {A B : Nat → Prop} {s U : State} {H : Heap} {locs : List Loc} (h : zRo ad A s s.heap) (hS : va_S A s.heap H locs) (hU : U.heap = H) (hW : s.WarmedH U.vm) (hAB : ∀ q, B q → A q) : zRo ad B U U.heap := by
  obtain ⟨h1, h2, h3, h5, h6, h7⟩ := h
  rw [hU]
  refine ⟨((h1.moved hW.alike).kept hS.2.1).narrow hAB, fun q hq => (h2 q hq).warm hW, ((h3.moved hW.alike).kept hS.2.1).narrow hAB, fun q hq h3 => (h5 q hq h3).warmM hW, h6.moved hW.alike, ((h7.moved hW.alike).kept hS.2.1).narrow hAB⟩
theorem zSc_call {ad : Nat → Nat} {A B : Nat → Prop} {s U : State} {H : Heap} {locs : List Loc} {G : Nat → Nat → Int32} (h : zSc ad A s s.heap G) (hS : va_S A s.heap H locs) (hU : U.heap = H) (hW : s.WarmedH U.vm) (hAB : ∀ q, B q → A q) : zSc ad B U U.heap G := by
  obtain ⟨⟨L, h1, h2, h3, h4, h5⟩, h6⟩ := h
  rw [hU]
  refine ⟨⟨L, h1, h2, (h3.moved hW.alike).kept (hS.2.1 _ h4 h5), Nat.lt_of_lt_of_le h4 hS.1, fun q => h5 (hAB _ q)⟩, ?_⟩
  rcases h6 with ⟨a, b⟩ | ⟨a, b⟩
  · exact Or.inl ⟨a, ((b.moved hW.alike).kept hS.2.1).narrow hAB⟩
  · exact Or.inr ⟨a, ((b.moved hW.alike).kept hS.2.1).narrow hAB⟩
/-- the state of a frame: the small heap is in the real one -/
def zOk (dC : Nat → ClassId) (dI : Nat → Nat → Nat) (s : State) (A : Nat → Prop) (M : zMt) (ad : Nat → Nat) (cA : Nat → ClassId) (h : zH) (H : Heap) (locs : List Loc) (ls : Array Slot) (lst : List Value) : Prop :=
  va_P (dC, dI) zcl (zW ad cA h) H ∧ va_K (dC, dI) zcl (zTys cA 0 h.1) s ∧ va_D A (zW ad cA h) ∧ va_S A s.heap H locs ∧ zL ad ls M.2.2.2.1 lst ∧ zRo ad A s s.heap ∧ zSc ad A s s.heap h.2 ∧ h.1.length ≤ 900000
theorem zidx_le : ∀ M ∈ zms, (M.2.2.2.2.2.2.2.all (fun q => match q.2.1 with
  | .getfield k => Nat.blt k 65536 | .putfield k => Nat.blt k 65536 | .getstatic k => Nat.blt k 65536 | .ldc k => Nat.blt k 65536 | .new k => Nat.blt k 65536 | .anewarray k => Nat.blt k 65536
  | .invokevirtual k => Nat.blt k 65536 | .invokestatic k => Nat.blt k 65536 | .invokespecial k => Nat.blt k 65536 | _ => true)) = true := by decide +kernel
def zidx : Instr → Nat
  | .getfield k => k | .putfield k => k | .getstatic k => k | .ldc k => k | .new k => k | .anewarray k => k
  | .invokevirtual k => k | .invokestatic k => k | .invokespecial k => k | _ => 0
theorem zdef_ok : ∀ ci, ci < 9 → ∀ j, j < zNf ci → defaultValue (zTy ci j) = if zIr ci j = true then Value.null else .int 0 := by decide +kernel
theorem zkey1 {a b : Nat} (h : b < 65536) : (a * 65536 + b) / 65536 = a := by omega
theorem zkey2 {a b : Nat} (h : b < 65536) : (a * 65536 + b) % 65536 = b := by omega
theorem zin_vp {i : Int32} {n : Nat} (h : zin i n = true) : vp_in i n := by
  unfold zin at h
  simp only [Bool.not_eq_true', Bool.or_eq_false_iff, decide_eq_false_iff_not] at h
  exact fun q => q.elim h.1 h.2
theorem zv_zrf {ad : Nat → Nat} (o : Option Nat) : zv ad (zrf o) = va_rf (o.map ad) := by cases o <;> rfl
theorem zup_same {G : Nat → Nat → Int32} {r k : Nat} {x : Int32} : zup G r k x r = upd (G r) k x := if_pos rfl
theorem zup_other {G : Nat → Nat → Int32} {r k i : Nat} {x : Int32} (h : i ≠ r) : zup G r k x i = G i := if_neg h
theorem zrow_same {G : Nat → Nat → Int32} {r : Nat} {f : Nat → Int32} : zrow G r f r = f := if_pos rfl
theorem zrow_other {G : Nat → Nat → Int32} {r i : Nat} {f : Nat → Int32} (h : i ≠ r) : zrow G r f i = G i := if_neg h
theorem zfs_at {ad : Nat → Nat} {ci k : Nat} {refs : List (Option Nat)} {g : Nat → Int32} (hk : k < zNf ci) : ((List.range (zNf ci)).map (zfld ad ci refs g))[k]? = some (zfld ad ci refs g k) := by
  rw [List.getElem?_map, List.getElem?_range hk]; rfl
theorem zfs_setI {ad : Nat → Nat} {ci k : Nat} {refs : List (Option Nat)} {g : Nat → Int32} {x : Int32} (hI : zIr ci k = false) :
    ((List.range (zNf ci)).map (zfld ad ci refs g)).set k (.int x) = (List.range (zNf ci)).map (zfld ad ci refs (upd g k x)) := by
  apply List.ext_getElem?
  intro j
  by_cases hj : j < zNf ci
  · rw [zfs_at hj]
    by_cases e : k = j
    · subst e
      rw [List.getElem?_set_self (by simpa using hj)]
      simp [zfld, hI, upd]
    · rw [List.getElem?_set_ne e, zfs_at hj]
      simp [zfld, upd, Ne.symm e]
  · rw [List.getElem?_eq_none (by simp; omega), List.getElem?_eq_none (by simp; omega)]
theorem zfs_setR {ad : Nat → Nat} {ci k q : Nat} {refs : List (Option Nat)} {g : Nat → Int32} (hI : zIr ci k = true) (hl : k < refs.length) :
    ((List.range (zNf ci)).map (zfld ad ci refs g)).set k (.ref (ad q)) = (List.range (zNf ci)).map (zfld ad ci (refs.set k (some q)) g) := by
  apply List.ext_getElem?
  intro j
  by_cases hj : j < zNf ci
  · rw [zfs_at hj]
    by_cases e : k = j
    · subst e
      rw [List.getElem?_set_self (by simpa using hj)]
      simp [zfld, hI, List.getD_eq_getElem?_getD, List.getElem?_set_self hl, va_rf]
    · rw [List.getElem?_set_ne e, zfs_at hj]
      simp [zfld, List.getD_eq_getElem?_getD, List.getElem?_set_ne e]
  · rw [List.getElem?_eq_none (by simp; omega), List.getElem?_eq_none (by simp; omega)]
theorem zrefs_set {ad : Nat → Nat} {refs : List (Option Nat)} {i v : Nat} (hl : i < refs.length) : (fun j => ((refs.set i (some v)).getD j none).map ad) = va_up (fun j => (refs.getD j none).map ad) i (some (ad v)) := by
  funext j
  unfold va_up
  by_cases e : j = i
  · subst e
    simp [List.getD_eq_getElem?_getD, List.getElem?_set_self hl]
  · simp [List.getD_eq_getElem?_getD, List.getElem?_set_ne (fun q => e q.symm), e]
theorem zsl_set {l : List zS} : ∀ {r : Nat} {a b : zS}, l[r]? = some a → zsl1 a = zsl1 b → zsl (l.set r b) = zsl l := by
  induction l with
  | nil => intro r a b h; simp at h
  | cons x t ih =>
    intro r a b h hs
    cases r with
    | zero => simp at h; subst h; simp [zsl, hs]
    | succ r => simp at h; have := ih h hs; simp [zsl] at this ⊢; exact this
theorem zsl_app {l : List zS} {a : zS} : zsl (l ++ [a]) = zsl l + zsl1 a := by simp [zsl]
section ZS
variable {p : Program} {l : Launch} {e : Env} {R : Room} {s : State} {m : MethodId} {args : Array Value} {below : List Frame} {meth : Method} {c : Code} {H : Heap} {locs : List Loc} {cells slots : Nat} {Q : State → Prop}
variable {dC : Nat → ClassId} {dI : Nat → Nat → Nat} {A : Nat → Prop} {M : zMt} {ad : Nat → Nat} {cA : Nat → ClassId} {h : zH} {ls : Array Slot} {lst st : List Value} {pc len : Nat}
theorem zfl_word {w : Jvm.Cond} {i : Nat} (hts : ∀ w ∈ zTs, w.before args s = true) (h : zat w i = true) : w.before args s = true := hts _ (zat_in h)
/-- writing a number into an object or an array -/
theorem zOk_num {r : Nat} {sh : zS} {k : Nat} {x : Int32} (O : zOk dC dI s A M ad cA h H locs ls lst) (hr : h.1[r]? = some sh) {H1 : Heap} {locs1 : List Loc}
    (hP : va_P (dC, dI) zcl ((zW ad cA h).set r (ad r, zcell ad cA r sh (upd (h.2 r) k x))) H1) (hD : va_D A ((zW ad cA h).set r (ad r, zcell ad cA r sh (upd (h.2 r) k x)))) (hS : va_S A s.heap H1 locs1) :
    zOk dC dI s A M ad cA (h.1, zup h.2 r k x) H1 locs1 ls lst := by
  obtain ⟨-, hK, -, -, hL, hRo, hSc, hlen⟩ := O
  have hrl : r < h.1.length := (List.getElem?_eq_some_iff.mp hr).1
  have e := zW_set (ad := ad) (cA := cA) (h := h) (h2 := (h.1, zup h.2 r k x)) (r := r) (s2 := sh) hr rfl (fun _ _ => rfl) (fun i hi => zup_other hi)
  rw [show (h.1, zup h.2 r k x).2 r = upd (h.2 r) k x from zup_same] at e
  rw [e] at hP hD
  exact ⟨hP, hK, hD, hS, hL, hRo, zSc_to hSc (fun _ _ => rfl) (fun i hi => zup_other (by omega)), hlen⟩
theorem zOk_row {r : Nat} {sh : zS} {f : Nat → Int32} (O : zOk dC dI s A M ad cA h H locs ls lst) (hr : h.1[r]? = some sh) {H1 : Heap} {locs1 : List Loc}
    (hP : va_P (dC, dI) zcl ((zW ad cA h).set r (ad r, zcell ad cA r sh f)) H1) (hD : va_D A ((zW ad cA h).set r (ad r, zcell ad cA r sh f))) (hS : va_S A s.heap H1 locs1) :
    zOk dC dI s A M ad cA (h.1, zrow h.2 r f) H1 locs1 ls lst := by
  obtain ⟨-, hK, -, -, hL, hRo, hSc, hlen⟩ := O
  have hrl : r < h.1.length := (List.getElem?_eq_some_iff.mp hr).1
  have e := zW_set (ad := ad) (cA := cA) (h := h) (h2 := (h.1, zrow h.2 r f)) (r := r) (s2 := sh) hr rfl (fun _ _ => rfl) (fun i hi => zrow_other hi)
  rw [show (h.1, zrow h.2 r f).2 r = f from zrow_same] at e
  rw [e] at hP hD
  exact ⟨hP, hK, hD, hS, hL, hRo, zSc_to hSc (fun _ _ => rfl) (fun i hi => zrow_other (by omega)), hlen⟩
/-- writing a reference -/
theorem zOk_ref {r : Nat} {sh sh2 : zS} (O : zOk dC dI s A M ad cA h H locs ls lst) (hr : h.1[r]? = some sh) (hT : zTys cA 0 (h.1.set r sh2) = zTys cA 0 h.1) {H1 : Heap} {locs1 : List Loc}
    (hP : va_P (dC, dI) zcl ((zW ad cA h).set r (ad r, zcell ad cA r sh2 (h.2 r))) H1) (hD : va_D A ((zW ad cA h).set r (ad r, zcell ad cA r sh2 (h.2 r)))) (hS : va_S A s.heap H1 locs1) :
    zOk dC dI s A M ad cA (h.1.set r sh2, h.2) H1 locs1 ls lst := by
  obtain ⟨-, hK, -, -, hL, hRo, hSc, hlen⟩ := O
  have hrl : r < h.1.length := (List.getElem?_eq_some_iff.mp hr).1
  have e := zW_set (ad := ad) (cA := cA) (h := h) (h2 := (h.1.set r sh2, h.2)) (r := r) (s2 := sh2) (List.getElem?_set_self hrl) (List.length_set ..) (fun i hi => List.getElem?_set_ne (fun q => hi q.symm)) (fun _ _ => rfl)
  rw [show (h.1.set r sh2, h.2).2 r = h.2 r from rfl] at e
  rw [e] at hP hD
  exact ⟨hP, by rw [hT]; exact hK, hD, hS, hL, hRo, hSc, by rw [List.length_set]; exact hlen⟩
/-- a new cell -/
theorem zOk_new {sh : zS} {q : Nat} {ca : ClassId} (O : zOk dC dI s A M ad cA h H locs ls lst) {lst2 st2 : List Value} {h' : zH} (hz : znw h lst st sh = some h') (hsh : zneS h.1.length sh = true)
    {H1 : Heap} {locs1 : List Loc} (hK : va_K (dC, dI) zcl (zTys (fun j => if j = h.1.length then ca else cA j) 0 (h.1 ++ [sh])) s)
    (hP : va_P (dC, dI) zcl (zW ad cA h ++ [(q, zcell ad (fun _ => ca) h.1.length sh (fun _ => 0))]) H1) (hD : va_D A (zW ad cA h ++ [(q, zcell ad (fun _ => ca) h.1.length sh (fun _ => 0))])) (hS : va_S A s.heap H1 locs1) :
    h' = (h.1 ++ [sh], zrow h.2 h.1.length (fun _ => 0)) ∧ zOk dC dI s A M (fun j => if j = h.1.length then q else ad j) (fun j => if j = h.1.length then ca else cA j) h' H1 locs1 ls lst ∧
    st.map (zv (fun j => if j = h.1.length then q else ad j)) = st.map (zv ad) := by
  unfold znw at hz
  split at hz
  case isFalse => cases hz
  case isTrue hc =>
  obtain ⟨h1, h2, h3, h4⟩ := hc
  cases hz
  obtain ⟨-, -, -, -, hL, hRo, hSc, hlen⟩ := O
  have e := zW_app (ad := ad) (cA := cA) (q := q) (c := ca) (g := fun _ => 0) h4 hsh
  rw [← e] at hP hD
  have fr : ∀ (v : Value), zne h.1.length v = true → zv (fun j => if j = h.1.length then q else ad j) v = zv ad v := by
    intro v hv
    cases v with
    | ref r =>
      unfold zne at hv
      show Value.ref (if r = h.1.length then q else ad r) = _
      rw [if_neg (fun e => by subst e; simp at hv)]
      rfl
    | _ => rfl
  have hbig : ∀ j : Nat, 1000000 ≤ j → ad j = (if j = h.1.length then q else ad j) := fun j hj => by rw [if_neg (by omega)]
  refine ⟨rfl, ⟨hP, hK, hD, hS, ⟨hL.1, hL.2.1, hL.2.2.1, fun i v hv hn => ?_⟩, zRo_ad hRo hbig, ?_, by simp; omega⟩, List.map_congr_left (fun v hv => fr v (List.all_eq_true.mp h3 v hv))⟩
  · rw [fr v (List.all_eq_true.mp h2 v (List.mem_of_getElem? hv))]
    exact hL.2.2.2 i v hv hn
  · exact zSc_to hSc hbig (fun i hi => zrow_other (by omega))
end ZS
