-- 07yw: the contracts of mismatch and of equals
def zmW : List Jvm.Cond := .code misN prog_24_method_19_code 4 (some .int) :: zTs
def zmR : Room := { frames := 3, cells := 0, slots := 0, locals := 120 }
def zeW : List Jvm.Cond := .code eqName prog_21_method_83_code 3 (some .boolean) :: zTs
def zeR : Room := { frames := 4, cells := 0, slots := 0, locals := 160 }
theorem zn6 : (420 : Int32) - ((-1 : Int32) ^^^ (-1)) = 420 ∧ ¬ ((420 : Int32) ≤ 1) ∧ (-1 : Int32) < 0 ∧ (16 : Int32).toInt64 = 16 ∧ Int32.ofNat 420 = 420 ∧ ¬ ((0 : Int32) ≤ -1) := by decide +kernel
section ZWE
variable {p : Program} {l : Launch} {e : Env} {R : Room} {s : State} {m : MethodId} {args : Array Value} {below : List Frame} {meth : Method} {c : Code} {Q : State → Prop}
variable {pc : Nat} {ls : Array Slot}
/-- an element of a row -/
theorem ziald {u o : Nat} {cI : ClassId} {f : Nat → Int32} {cc : ByteArray} {rest : List Value} (hx : p.tables.exec = Jvm.exec) (hb : c.code = cc) (hG : zG u o cI 420 f s) (hd : decode cc pc = .ok (.iaload, 1))
    (k : W p l e R s m args below meth c s.heap [] 0 0 Q (F0 m (pc + 1) ls (.int (f 0) :: rest))) : W p l e R s m args below meth c s.heap [] 0 0 Q (F0 m pc ls (.int 0 :: .ref o :: rest)) := by
  obtain ⟨-, hA, hT⟩ := hG
  refine W.iald (v := .int (f 0)) hx hb hA (hT 420 (fun j => .int (f j))) (fun q => by cases q) ?_ ?_ rfl rfl hd k
  · show ¬ ((0 : Int32) < 0 ∨ (arrV _ _ _).slots.size ≤ _)
    rw [arrV_size]
    decide
  · show (arrV _ _ _).slots[_]? = _
    exact arrV_read cI (fun j => .int (f j)) (j := 0) (by omega)
theorem zialen {u o : Nat} {cI : ClassId} {f : Nat → Int32} {cc : ByteArray} {rest : List Value} (hx : p.tables.exec = Jvm.exec) (hb : c.code = cc) (hG : zG u o cI 420 f s) (hd : decode cc pc = .ok (.arraylength, 1))
    (k : W p l e R s m args below meth c s.heap [] 0 0 Q (F0 m (pc + 1) ls (.int 420 :: rest))) : W p l e R s m args below meth c s.heap [] 0 0 Q (F0 m pc ls (.ref o :: rest)) := by
  obtain ⟨-, hA, hT⟩ := hG
  exact W.alen (n := 420) hx hb hA (hT 420 (fun j => .int (f j))) (by rw [arrV_size] <;> rfl) rfl rfl hd k
theorem zcallV {u x y : Nat} {cx cy : ClassId} {f g : Nat → Int32} (hx : p.tables.exec = Jvm.exec) (hb : c.code = prog_24_method_19_code) (hml : c.maxLocals = 4) (hown : s.vm.findClass "jdk/internal/util/ArraysSupport" = some m.cls) (hts : ∀ w ∈ zTs, w.before args s = true) (hR : 3 ≤ R.frames ∧ 120 ≤ R.locals) (hV : zV u x y cx cy 420 f g s) (hfg : ∀ i, i < 420 → f i = g i)
    (hsz : ls.size = 4) (hd : decode prog_24_method_19_code pc = .ok (.invokestatic 122, 3))
    (k : W p l e R s m args below meth c s.heap [] 0 0 Q (F0 m (pc + 3) ls [.int (-1)])) : W p l e R s m args below meth c s.heap [] 0 0 Q (F0 m pc ls [.int 2, .int 420, .long 16, .ref y, .long 16, .ref x]) := by
  have hfix : CallFix p m c prog_24_method_19_code 4 s args zTs "jdk/internal/util/ArraysSupport" := ⟨hx, hb, hml, hown, hts⟩
  have good : GoodIn zTs zvW := fun w hw => by
    rcases List.mem_cons.mp hw with rfl | hw
    · exact zgoodW zw_cdV
    · exact zgoodW hw
  have r := va_runS (e := e) (below := below) (meth := meth) (locs := []) (cells := 0) (slots := 0) (As := [.ref x, .long 16, .ref y, .long 16, .int 420, .int 2]) (rest := []) (n := 6) (g := F0 m pc ls [.int 2, .int 420, .long 16, .ref y, .long 16, .ref x]) hfix (zMetV (l := l) (u := u) (x := x) (y := y) (cx := cx) (cy := cy) hfg)
    ⟨callB_of (ws' := zTs) _ hts good rfl rfl rfl (hts _ zw_iAS) (hts _ zw_mlV) ⟨by decide, by decide, by decide +kernel⟩ ⟨hR.1, by show 8 + (19 + 11) + 80 ≤ R.locals; omega⟩, hts _ zw_stV⟩ ⟨zV_blind, fun U hU hW => ⟨rfl, zV_moved hU hW.alike hV⟩⟩ rfl rfl hsz rfl (Nat.zero_le 8) hd ⟨Nat.zero_le _, Nat.zero_le _⟩
  exact vp_callSi r.run (fun r hr => by rw [hr]; exact k)
end ZWE
theorem zMetM {l : Launch} {u x y : Nat} {cx cy : ClassId} {f g : Nat → Int32} (hfg : ∀ i, i < 420 → f i = g i) :
    Met l misN zmW zmR (va_Pc [.ref x, .ref y, .int 420] (zV u x y cx cy 420 f g)) (vp_Si (fun r => r = -1)) 0 0 (fun _ => False) := by
  refine zofWF (cc := prog_24_method_19_code) (maxL := 4) (ret := some .int) (ws' := zTs) zpfM rfl ?_
  intro p e s m args below meth c s₁ B hml hv
  obtain ⟨rfl, hV⟩ := hv
  have hx := B.exec
  have hb := B.bytes
  have hr0 := B.returns
  have hts0 := atoms_spec (ws := zmW) B.pre
  have hts : ∀ w ∈ zTs, w.before ([.ref x, .ref y, .int 420] : List Value).toArray s = true := fun w hw => hts0 w (List.mem_cons_of_mem _ hw)
  have hown : s.vm.findClass "jdk/internal/util/ArraysSupport" = some m.cls := findClass_of_methodNamed B.named
  have hlocks := B.notSynchronized
  rw [lg_entry_eq]
  have hL := lv_entry [.ref x, .ref y, .int 420] (n := 4) (show 3 ≤ 4 by omega)
  obtain ⟨n1, n2, n3, n4, n5, n6⟩ := zn6
  obtain ⟨hGx, hGy, z3, zU, z2, z16⟩ := id hV
  refine lv_iconst hx hb (n := 0) (v := 0) (by decide +kernel) (by decide) ?_
  refine lv_istore_n hx hb (k := 3) (i := 3) (lv' := [(3, .int 0), (0, .ref x), (1, .ref y), (2, .int 420)]) (by decide +kernel) rfl hL (by omega) rfl (fun l1 h1 => ?_)
  refine lv_iload_n hx hb (k := 2) (i := 2) (x := 420) (by decide +kernel) rfl (lv_at h1 3 rfl) ?_
  refine lv_iconst hx hb (n := 1) (v := 1) (by decide +kernel) (by decide) ?_
  refine lv_icmp_le hx hb (off := 44) (tgt := 48) (by decide +kernel) rfl (fun q => absurd q n2) (fun _ => ?_)
  refine lv_aload_n hx hb (k := 0) (i := 0) (x := x) (by decide +kernel) rfl (lv_at h1 1 rfl) ?_
  refine lv_iconst hx hb (n := 0) (v := 0) (by decide +kernel) (by decide) ?_
  refine ziald hx hb hGx (by decide +kernel) ?_
  refine lv_aload_n hx hb (k := 1) (i := 1) (x := y) (by decide +kernel) rfl (lv_at h1 2 rfl) ?_
  refine lv_iconst hx hb (n := 0) (v := 0) (by decide +kernel) (by decide) ?_
  refine ziald hx hb hGy (by decide +kernel) ?_
  refine lv_icmp_eq hx hb (off := 5) (tgt := 18) (by decide +kernel) rfl (fun _ => ?_) (fun q => absurd (hfg 0 (by omega)) q)
  refine lv_aload_n hx hb (k := 0) (i := 0) (x := x) (by decide +kernel) rfl (lv_at h1 1 rfl) ?_
  refine va_gets hx hb z16 va_S.rf hown (hts _ zw_fl144) (fun _ h => h) (by decide +kernel) ?_
  refine lv_i2l hx hb (by decide +kernel) n4 ?_
  refine lv_aload_n hx hb (k := 1) (i := 1) (x := y) (by decide +kernel) rfl (lv_at h1 2 rfl) ?_
  refine va_gets hx hb z16 va_S.rf hown (hts _ zw_fl144) (fun _ h => h) (by decide +kernel) ?_
  refine lv_i2l hx hb (by decide +kernel) n4 ?_
  refine lv_iload_n hx hb (k := 2) (i := 2) (x := 420) (by decide +kernel) rfl (lv_at h1 3 rfl) ?_
  refine va_gets hx hb z2 va_S.rf hown (hts _ zw_fl51) (fun _ h => h) (by decide +kernel) ?_
  refine zcallV hx hb hml hown hts ⟨Nat.le_refl 3, Nat.le_refl 120⟩ hV hfg h1.1 (by decide +kernel) ?_
  refine lv_istore_n hx hb (k := 3) (i := 3) (lv' := [(3, .int (-1)), (0, .ref x), (1, .ref y), (2, .int 420)]) (by decide +kernel) rfl h1 (by omega) rfl (fun l2 h2 => ?_)
  refine lv_iload_n hx hb (k := 3) (i := 3) (x := -1) (by decide +kernel) rfl (lv_at h2 0 rfl) ?_
  refine lv_if_lt hx hb (off := 5) (tgt := 42) (by decide +kernel) rfl (fun _ => ?_) (fun q => absurd n3 q)
  refine lv_iload_n hx hb (k := 2) (i := 2) (x := 420) (by decide +kernel) rfl (lv_at h2 3 rfl) ?_
  refine lv_iload_n hx hb (k := 3) (i := 3) (x := -1) (by decide +kernel) rfl (lv_at h2 0 rfl) ?_
  refine lv_iconst hx hb (n := -1) (v := -1) (by decide +kernel) (by decide) ?_
  refine lv_ixor hx hb (by decide +kernel) ?_
  refine lv_isub hx hb (by decide +kernel) ?_
  rw [n1]
  refine lv_istore_n hx hb (k := 3) (i := 3) (lv' := [(3, .int 420), (0, .ref x), (1, .ref y), (2, .int 420)]) (by decide +kernel) rfl h2 (by omega) rfl (fun l3 h3 => ?_)
  refine lv_iload_n hx hb (k := 3) (i := 3) (x := 420) (by decide +kernel) rfl (lv_at h3 0 rfl) ?_
  refine lv_iload_n hx hb (k := 2) (i := 2) (x := 420) (by decide +kernel) rfl (lv_at h3 3 rfl) ?_
  refine lv_icmp_ge hx hb (off := 20) (tgt := 70) (by decide +kernel) rfl (fun _ => ?_) (fun q => absurd (by decide) q)
  refine lv_iconst hx hb (n := -1) (v := -1) (by decide +kernel) (by decide) ?_
  exact W.iret (Qc := vp_Si (fun r => r = -1)) hx hb hr0 (fun t ht hW => ⟨_, rfl, rfl, ht⟩) (fun q hq => by cases hq) (by decide +kernel) hlocks
section ZWF
variable {p : Program} {l : Launch} {e : Env} {R : Room} {s : State} {m : MethodId} {args : Array Value} {below : List Frame} {meth : Method} {c : Code} {Q : State → Prop}
variable {pc : Nat} {ls : Array Slot}
theorem zcallM {u x y : Nat} {cx cy : ClassId} {f g : Nat → Int32} (hx : p.tables.exec = Jvm.exec) (hb : c.code = prog_21_method_83_code) (hml : c.maxLocals = 3) (hown : s.vm.findClass "java/util/Arrays" = some m.cls) (hts : ∀ w ∈ zTs, w.before args s = true) (hR : 4 ≤ R.frames ∧ 160 ≤ R.locals) (hV : zV u x y cx cy 420 f g s) (hfg : ∀ i, i < 420 → f i = g i)
    (hsz : ls.size = 3) (hd : decode prog_21_method_83_code pc = .ok (.invokestatic 254, 3))
    (k : W p l e R s m args below meth c s.heap [] 0 0 Q (F0 m (pc + 3) ls [.int (-1)])) : W p l e R s m args below meth c s.heap [] 0 0 Q (F0 m pc ls [.int 420, .ref y, .ref x]) := by
  have hfix : CallFix p m c prog_21_method_83_code 3 s args zTs "java/util/Arrays" := ⟨hx, hb, hml, hown, hts⟩
  have good : GoodIn zTs zmW := fun w hw => by
    rcases List.mem_cons.mp hw with rfl | hw
    · exact zgoodW zw_cdM
    · exact zgoodW hw
  have r := va_runS (e := e) (below := below) (meth := meth) (locs := []) (cells := 0) (slots := 0) (As := [.ref x, .ref y, .int 420]) (rest := []) (n := 3) (g := F0 m pc ls [.int 420, .ref y, .ref x]) hfix (zMetM (l := l) (u := u) (x := x) (y := y) (cx := cx) (cy := cy) hfg)
    ⟨callB_of (ws' := zTs) _ hts good rfl rfl rfl (hts _ zw_iAS) (hts _ zw_mlM) ⟨by decide, by decide, by decide +kernel⟩ ⟨hR.1, by show 8 + (4 + 11) + 120 ≤ R.locals; omega⟩, hts _ zw_stM⟩ ⟨zV_blind, fun U hU hW => ⟨rfl, zV_moved hU hW.alike hV⟩⟩ rfl rfl hsz rfl (Nat.zero_le 8) hd ⟨Nat.zero_le _, Nat.zero_le _⟩
  exact vp_callSi r.run (fun r hr => by rw [hr]; exact k)
end ZWF
theorem zMetE {l : Launch} {u x y : Nat} {cx cy : ClassId} {f g : Nat → Int32} (hfg : ∀ i, i < 420 → f i = g i) :
    Met l eqName zeW zeR (va_Pc [.ref x, .ref y] (zV u x y cx cy 420 f g)) (vp_Si (fun r => r = 1)) 0 0 (fun _ => False) := by
  refine zofWF (cc := prog_21_method_83_code) (maxL := 3) (ret := some .boolean) (ws' := zTs) zpfE rfl ?_
  intro p e s m args below meth c s₁ B hml hv
  obtain ⟨rfl, hV⟩ := hv
  have hx := B.exec
  have hb := B.bytes
  have hr0 := B.returns
  have hts0 := atoms_spec (ws := zeW) B.pre
  have hts : ∀ w ∈ zTs, w.before ([.ref x, .ref y] : List Value).toArray s = true := fun w hw => hts0 w (List.mem_cons_of_mem _ hw)
  have hown : s.vm.findClass "java/util/Arrays" = some m.cls := findClass_of_methodNamed B.named
  have hlocks := B.notSynchronized
  rw [lg_entry_eq]
  have hL := lv_entry [.ref x, .ref y] (n := 3) (show 2 ≤ 3 by omega)
  obtain ⟨n1, n2, n3, n4, n5, n6⟩ := zn6
  obtain ⟨hGx, hGy, z3, zU, z2, z16⟩ := id hV
  have fin : ∀ (l9 : Array Slot) (pc : Nat), decode prog_21_method_83_code pc = .ok (.ireturn, 1) → W p l e (headSpec zeW zeR).room s m ([.ref x, .ref y] : List Value).toArray below meth c s.heap [] 0 0 (MQ below (vp_Si (fun r => r = 1)) ([.ref x, .ref y] : List Value).toArray s 0 0 (fun _ => False)) (F0 m pc l9 [.int 1]) := fun l9 pc hd =>
    W.zret (Qc := vp_Si (fun r => r = 1)) (v := 1) hx hb hr0 rfl (fun t ht hW => ⟨_, rfl, rfl, ht⟩) (fun q hq => by cases hq) hd hlocks
  refine lv_aload_n hx hb (k := 0) (i := 0) (x := x) (by decide +kernel) rfl (lv_at hL 0 rfl) ?_
  refine lv_aload_n hx hb (k := 1) (i := 1) (x := y) (by decide +kernel) rfl (lv_at hL 1 rfl) ?_
  refine lv_acmp_ne hx hb (rx := some x) (ry := some y) (off := 5) (tgt := 7) (by decide +kernel) rfl (fun _ => ?_) (fun _ => ?_)
  case _ =>
    refine lv_aload_n hx hb (k := 0) (i := 0) (x := x) (by decide +kernel) rfl (lv_at hL 0 rfl) ?_
    refine lv_ifnull hx hb (off := 7) (by decide +kernel) ?_
    refine lv_aload_n hx hb (k := 1) (i := 1) (x := y) (by decide +kernel) rfl (lv_at hL 1 rfl) ?_
    refine lv_ifnonnull hx hb (off := 5) (tgt := 17) (by decide +kernel) rfl ?_
    refine lv_aload_n hx hb (k := 0) (i := 0) (x := x) (by decide +kernel) rfl (lv_at hL 0 rfl) ?_
    refine zialen hx hb hGx (by decide +kernel) ?_
    refine lv_istore_n hx hb (k := 2) (i := 2) (lv' := [(2, .int 420), (0, .ref x), (1, .ref y)]) (by decide +kernel) rfl hL (by omega) rfl (fun l1 h1 => ?_)
    refine lv_aload_n hx hb (k := 1) (i := 1) (x := y) (by decide +kernel) rfl (lv_at h1 2 rfl) ?_
    refine zialen hx hb hGy (by decide +kernel) ?_
    refine lv_iload_n hx hb (k := 2) (i := 2) (x := 420) (by decide +kernel) rfl (lv_at h1 0 rfl) ?_
    refine lv_icmp_eq hx hb (off := 5) (tgt := 28) (by decide +kernel) rfl (fun _ => ?_) (fun q => absurd rfl q)
    refine lv_aload_n hx hb (k := 0) (i := 0) (x := x) (by decide +kernel) rfl (lv_at h1 1 rfl) ?_
    refine lv_aload_n hx hb (k := 1) (i := 1) (x := y) (by decide +kernel) rfl (lv_at h1 2 rfl) ?_
    refine lv_iload_n hx hb (k := 2) (i := 2) (x := 420) (by decide +kernel) rfl (lv_at h1 0 rfl) ?_
    refine zcallM hx hb hml hown hts ⟨Nat.le_refl 4, Nat.le_refl 160⟩ hV hfg h1.1 (by decide +kernel) ?_
    refine lv_if_ge hx hb (off := 7) (tgt := 41) (by decide +kernel) rfl (fun q => absurd q n6) (fun _ => ?_)
    refine lv_iconst hx hb (n := 1) (v := 1) (by decide +kernel) (by decide) ?_
    refine lv_goto hx hb (off := 4) (tgt := 42) (by decide +kernel) rfl ?_
    exact fin _ _ (by decide +kernel)
  case _ =>
    refine lv_iconst hx hb (n := 1) (v := 1) (by decide +kernel) (by decide) ?_
    exact fin _ _ (by decide +kernel)
