-- 07y: words of the tables, and the contract of getLongUnaligned
def misN : MethodName := ⟨"jdk/internal/util/ArraysSupport", "mismatch", "([I[II)I"⟩
def vecN : MethodName := ⟨"jdk/internal/util/ArraysSupport", "vectorizedMismatch", "(Ljava/lang/Object;JLjava/lang/Object;JII)I"⟩
def gluN : MethodName := ⟨"jdk/internal/misc/Unsafe", "getLongUnaligned", "(Ljava/lang/Object;J)J"⟩
set_option maxRecDepth 100000 in
theorem zw_iAS : (Cond.initialized "jdk/internal/util/ArraysSupport" : Jvm.Cond) ∈ zTs := List.mem_filter.mpr ⟨List.mem_of_getElem? (i := 31) rfl, rfl⟩
set_option maxRecDepth 100000 in
theorem zw_iU : (Cond.initialized "jdk/internal/misc/Unsafe" : Jvm.Cond) ∈ zTs := List.mem_filter.mpr ⟨List.mem_of_getElem? (i := 32) rfl, rfl⟩
set_option maxRecDepth 100000 in
theorem zw_mlM : (Cond.methodLink "java/util/Arrays" 254 misN : Jvm.Cond) ∈ zTs := List.mem_filter.mpr ⟨List.mem_of_getElem? (i := 804) rfl, rfl⟩
set_option maxRecDepth 100000 in
theorem zw_stM : (Cond.static misN : Jvm.Cond) ∈ zTs := List.mem_filter.mpr ⟨List.mem_of_getElem? (i := 805) rfl, rfl⟩
set_option maxRecDepth 100000 in
theorem zw_cdM : (Cond.code misN prog_24_method_19_code 4 (some .int) : Jvm.Cond) ∈ zTs := List.mem_filter.mpr ⟨List.mem_of_getElem? (i := 806) rfl, rfl⟩
set_option maxRecDepth 100000 in
theorem zw_fl144 : (Cond.fieldLink "jdk/internal/util/ArraysSupport" 144 "jdk/internal/misc/Unsafe" "ARRAY_INT_BASE_OFFSET" "I" : Jvm.Cond) ∈ zTs := List.mem_filter.mpr ⟨List.mem_of_getElem? (i := 807) rfl, rfl⟩
set_option maxRecDepth 100000 in
theorem zw_fl51 : (Cond.fieldLink "jdk/internal/util/ArraysSupport" 51 "jdk/internal/util/ArraysSupport" "LOG2_ARRAY_INT_INDEX_SCALE" "I" : Jvm.Cond) ∈ zTs := List.mem_filter.mpr ⟨List.mem_of_getElem? (i := 809) rfl, rfl⟩
set_option maxRecDepth 100000 in
theorem zw_mlV : (Cond.methodLink "jdk/internal/util/ArraysSupport" 122 vecN : Jvm.Cond) ∈ zTs := List.mem_filter.mpr ⟨List.mem_of_getElem? (i := 811) rfl, rfl⟩
set_option maxRecDepth 100000 in
theorem zw_stV : (Cond.static vecN : Jvm.Cond) ∈ zTs := List.mem_filter.mpr ⟨List.mem_of_getElem? (i := 812) rfl, rfl⟩
set_option maxRecDepth 100000 in
theorem zw_cdV : (Cond.code vecN prog_24_method_3_code 19 (some .int) : Jvm.Cond) ∈ zTs := List.mem_filter.mpr ⟨List.mem_of_getElem? (i := 813) rfl, rfl⟩
set_option maxRecDepth 100000 in
theorem zw_fl20 : (Cond.fieldLink "jdk/internal/util/ArraysSupport" 20 "jdk/internal/util/ArraysSupport" "LOG2_ARRAY_LONG_INDEX_SCALE" "I" : Jvm.Cond) ∈ zTs := List.mem_filter.mpr ⟨List.mem_of_getElem? (i := 814) rfl, rfl⟩
set_option maxRecDepth 100000 in
theorem zw_fl26 : (Cond.fieldLink "jdk/internal/util/ArraysSupport" 26 "jdk/internal/util/ArraysSupport" "U" "Ljdk/internal/misc/Unsafe;" : Jvm.Cond) ∈ zTs := List.mem_filter.mpr ⟨List.mem_of_getElem? (i := 816) rfl, rfl⟩
set_option maxRecDepth 100000 in
theorem zw_mlG : (Cond.methodLink "jdk/internal/util/ArraysSupport" 30 gluN : Jvm.Cond) ∈ zTs := List.mem_filter.mpr ⟨List.mem_of_getElem? (i := 818) rfl, rfl⟩
set_option maxRecDepth 100000 in
theorem zw_inG : (Cond.instanceMethod gluN : Jvm.Cond) ∈ zTs := List.mem_filter.mpr ⟨List.mem_of_getElem? (i := 819) rfl, rfl⟩
set_option maxRecDepth 100000 in
theorem zw_seG : (Cond.selects "jdk/internal/misc/Unsafe" gluN gluN : Jvm.Cond) ∈ zTs := List.mem_filter.mpr ⟨List.mem_of_getElem? (i := 820) rfl, rfl⟩
set_option maxRecDepth 100000 in
theorem zw_cdG : (Cond.code gluN prog_22_method_334_code 4 (some .long) : Jvm.Cond) ∈ zTs := List.mem_filter.mpr ⟨List.mem_of_getElem? (i := 821) rfl, rfl⟩
set_option maxRecDepth 100000 in
theorem zw_cl7 : (Cond.constantLong "jdk/internal/misc/Unsafe" 696 7 : Jvm.Cond) ∈ zTs := List.mem_filter.mpr ⟨List.mem_of_getElem? (i := 822) rfl, rfl⟩
set_option maxRecDepth 100000 in
theorem zw_mlN : (Cond.methodLink "jdk/internal/misc/Unsafe" 27 glN : Jvm.Cond) ∈ zTs := List.mem_filter.mpr ⟨List.mem_of_getElem? (i := 823) rfl, rfl⟩
set_option maxRecDepth 100000 in
theorem zw_inN : (Cond.instanceMethod glN : Jvm.Cond) ∈ zTs := List.mem_filter.mpr ⟨List.mem_of_getElem? (i := 824) rfl, rfl⟩
set_option maxRecDepth 100000 in
theorem zw_seN : (Cond.selects "jdk/internal/misc/Unsafe" glN glN : Jvm.Cond) ∈ zTs := List.mem_filter.mpr ⟨List.mem_of_getElem? (i := 825) rfl, rfl⟩
set_option maxRecDepth 100000 in
theorem zw_naN : (Cond.native glN : Jvm.Cond) ∈ zTs := List.mem_filter.mpr ⟨List.mem_of_getElem? (i := 826) rfl, rfl⟩
section ZLC
variable {p : Program} {l : Launch} {e : Env} {R : Room} {s : State} {m : MethodId} {args : Array Value} {below : List Frame} {meth : Method} {c : Code} {H : Heap} {locs : List Loc} {cells slots : Nat} {Q : State → Prop}
variable {cc : ByteArray} {pc : Nat} {ls : Array Slot} {rest : List Value}
theorem zlcmpE (hexec : p.tables.exec = Jvm.exec) (hb : c.code = cc) {x : Int64} (hdg : decode cc pc = .ok (.lcmp, 1))
    (k : W p l e R s m args below meth c H locs cells slots Q (F0 m (pc + 1) ls (.int 0 :: rest))) : W p l e R s m args below meth c H locs cells slots Q (F0 m pc ls (.long x :: .long x :: rest)) := by
  intro T hT X
  obtain ⟨t, a, b⟩ := k T hT X
  refine ⟨t, ?_, b⟩
  have hgt : ¬ x > x := Int64.lt_irrefl
  jvm_step X.here [X.here.top, hexec, hb, hdg, hgt]
  exact a
end ZLC
/-- a contract of a method whose name has no row among the natives -/
theorem zofWF {l : Launch} {y : MethodName} {ws ws' : List Jvm.Cond} {rm : Room} {Pc : Array Value → State → Prop} {Qc : Array Value → State → Outcome → State → Prop} {mc ms : Nat} {free : Addr → Prop} {cc : ByteArray} {maxL : Nat} {ret : Option FieldType}
    (hy : plainFor y = true) (hw : ws = Cond.code y cc maxL ret :: ws')
    (body : ∀ p e s m args below meth c s₁, BodyLoose p l y (headSpec ws rm) cc maxL ret e s m args below meth c s₁ → c.maxLocals = maxL → Pc args s →
      W p l e (headSpec ws rm).room s m args below meth c s.heap [] 0 0 (MQ below Qc args s mc ms free) (entryFrame m args maxL)) : Met l y ws rm Pc Qc mc ms free := by
  refine MetFree.of_bodySF (code := cc) (maxLocals := maxL) (ret := ret) hy (fun args s m h hn => ?_) (fun p e s m args below meth c s₁ B hml hP _ => ?_)
  · obtain ⟨meth, c, h1, h2, h3, h4, h5, h6, -, -⟩ := Cond.code_spec hn (atoms_spec (ws := ws) h _ (by rw [hw]; exact List.mem_cons_self))
    exact ⟨meth, c, h1, h2, h3, h4, h5, h6⟩
  · obtain ⟨t, a1, o, b1, b2, b3⟩ := body p e s m args below meth c s₁ B hml hP s₁ (by rw [B.state]; rfl) (Stand.of_body B)
    exact ⟨t, o, a1, b1, b2, ⟨b3.1, b3.2⟩⟩
theorem zpfG : plainFor gluN = true := by decide +kernel
theorem zpfV : plainFor vecN = true := by decide +kernel
theorem zpfM : plainFor misN = true := by decide +kernel
theorem zpfE : plainFor eqName = true := by decide +kernel
/-- what a read of a row needs -/
def zG (u o : Nat) (cI : ClassId) (n : Nat) (f : Nat → Int32) (U : State) : Prop :=
  va_O "jdk/internal/misc/Unsafe" u (fun _ => False) U U.heap ∧ U.heap[o]? = some (arrV cI n (fun j => .int (f j))) ∧ ArrOfT U cI .int
theorem zG_blind {u o : Nat} {cI : ClassId} {n : Nat} {f : Nat → Int32} {as : List Value} : FrameBlind (va_Pc as (zG u o cI n f)) := by
  intro a U g mk q
  obtain ⟨q0, q1, q2, q3⟩ := q
  exact ⟨q0, va_O.moved (u := U) (U := U.calling g mk a) (Vm.Alike.refl U.vm) q1, q2, arrOfT_moved (u := U) (E := U.calling g mk a) (Vm.Alike.refl U.vm) q3⟩
def zgW : List Jvm.Cond := .code gluN prog_22_method_334_code 4 (some .long) :: zTs
def zgR : Room := { frames := 1, cells := 0, slots := 0, locals := 40 }
theorem zMetG {l : Launch} {u o : Nat} {cI : ClassId} {n i : Nat} {f : Nat → Int32} {off : Int64} (hneg : ¬ off < 0) (hoff : off.toNatClampNeg = 16 + 8 * i) (hi : 2 * i + 1 < n) (h7 : off &&& 7 = 0) :
    Met l gluN zgW zgR (va_Pc [.ref u, .ref o, .long off] (zG u o cI n f)) (vp_Sl (fun r => r = zlng (f (2 * i)) (f (2 * i + 1)))) 0 0 (fun _ => False) := by
  refine zofWF (cc := prog_22_method_334_code) (maxL := 4) (ret := some .long) (ws' := zTs) zpfG rfl ?_
  intro p e s m args below meth c s₁ B hml hv
  obtain ⟨rfl, ⟨cellU, hu1, hu2, hu3, -⟩, hA, hT⟩ := hv
  have hx := B.exec
  have hb := B.bytes
  have hr0 := B.returns
  have hts0 := atoms_spec (ws := zgW) B.pre
  have hts : ∀ w ∈ zTs, w.before ([.ref u, .ref o, .long off] : List Value).toArray s = true := fun w hw => hts0 w (List.mem_cons_of_mem _ hw)
  have hown : s.vm.findClass "jdk/internal/misc/Unsafe" = some m.cls := findClass_of_methodNamed B.named
  have hlocks := B.notSynchronized
  rw [lg_entry_eq]
  have hL := lv_entry [.ref u, .ref o, .long off] (n := 4) (Nat.le_refl 4)
  have hml2 := hml.trans hL.1.symm
  refine lv_lload_n hx hb (k := 2) (i := 2) (x := off) (by decide +kernel) rfl (lv_at hL 2 rfl) ?_
  refine lv_ldc2 hx hb (v := 7) hown (hts _ zw_cl7) (by decide +kernel) ?_
  refine lv_land hx hb (by decide +kernel) ?_
  rw [h7]
  refine lv_lconst hx hb (n := 0) (v := 0) (by decide +kernel) rfl ?_
  refine zlcmpE hx hb (by decide +kernel) ?_
  refine lv_if_ne hx hb (off := 10) (tgt := 17) (by decide +kernel) rfl (fun q => absurd rfl q) (fun _ => ?_)
  refine lv_aload_n hx hb (k := 0) (i := 0) (x := u) (by decide +kernel) rfl (lv_at hL 0 rfl) ?_
  refine lv_aload_n hx hb (k := 1) (i := 1) (x := o) (by decide +kernel) rfl (lv_at hL 1 rfl) ?_
  refine lv_lload_n hx hb (k := 2) (i := 2) (x := off) (by decide +kernel) rfl (lv_at hL 2 rfl) ?_
  refine zglW hx hb hml2 hown (hts _ zw_mlN) (hts _ zw_seN) (hts _ zw_inN) (hts _ zw_naN) hu1 hu2 hu3 hA hT hneg hoff hi (Nat.le_refl 1) (by show 0 + 17 ≤ 40; omega) (by decide +kernel) ?_
  exact W.lret (Qc := vp_Sl (fun r => r = zlng (f (2 * i)) (f (2 * i + 1)))) hx hb hr0 (fun t ht hW => ⟨_, rfl, rfl, ht⟩) (fun q hq => by cases hq) (by decide +kernel) hlocks
