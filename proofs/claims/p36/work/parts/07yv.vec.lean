-- 07yv: the contract of vectorizedMismatch
theorem zgoodW {w : Jvm.Cond} (h : w ∈ zTs) : w ∈ zTs ∧ ((w.onTables && w.keeps) = true ∨ ∃ ty, w = .arrayClass ty) := ⟨h, good_of_word (List.mem_filter.mp h).2⟩
/-- what comparing two rows needs -/
def zV (u x y : Nat) (cx cy : ClassId) (n : Nat) (f g : Nat → Int32) (U : State) : Prop :=
  zG u x cx n f U ∧ zG u y cy n g U ∧ va_Z "jdk/internal/util/ArraysSupport" "LOG2_ARRAY_LONG_INDEX_SCALE" "I" (.int 3) (fun _ => False) U U.heap ∧ va_Z "jdk/internal/util/ArraysSupport" "U" "Ljdk/internal/misc/Unsafe;" (.ref u) (fun _ => False) U U.heap ∧
  va_Z "jdk/internal/util/ArraysSupport" "LOG2_ARRAY_INT_INDEX_SCALE" "I" (.int 2) (fun _ => False) U U.heap ∧ va_Z "jdk/internal/misc/Unsafe" "ARRAY_INT_BASE_OFFSET" "I" (.int 16) (fun _ => False) U U.heap
theorem zG_moved {u o : Nat} {cI : ClassId} {n : Nat} {f : Nat → Int32} {s U : State} (hH : U.heap = s.heap) (hvm : s.vm.Alike U.vm) (h : zG u o cI n f s) : zG u o cI n f U := by
  obtain ⟨h1, h2, h3⟩ := h
  exact ⟨by rw [hH]; exact h1.moved hvm, by rw [hH]; exact h2, arrOfT_moved hvm h3⟩
theorem zV_moved {u x y : Nat} {cx cy : ClassId} {n : Nat} {f g : Nat → Int32} {s U : State} (hH : U.heap = s.heap) (hvm : s.vm.Alike U.vm) (h : zV u x y cx cy n f g s) : zV u x y cx cy n f g U := by
  obtain ⟨h1, h2, h3, h4, h5, h6⟩ := h
  exact ⟨zG_moved hH hvm h1, zG_moved hH hvm h2, by rw [hH]; exact h3.moved hvm, by rw [hH]; exact h4.moved hvm, by rw [hH]; exact h5.moved hvm, by rw [hH]; exact h6.moved hvm⟩
theorem zV_blind {u x y : Nat} {cx cy : ClassId} {n : Nat} {f g : Nat → Int32} {as : List Value} : FrameBlind (va_Pc as (zV u x y cx cy n f g)) := by
  intro a U j mk q
  exact ⟨q.1, zV_moved (s := U) (U := U.calling j mk a) rfl (Vm.Alike.refl U.vm) q.2⟩
theorem zn1 : ∀ j, j < 210 → (nI j).toInt64 <<< ((3 : Int32).toInt64 &&& 63) = Int64.ofNat (8 * j) := by decide +kernel
theorem zn2 : ∀ j, j < 210 → ¬ (16 + Int64.ofNat (8 * j)) < 0 ∧ (16 + Int64.ofNat (8 * j)).toNatClampNeg = 16 + 8 * j ∧ (16 + Int64.ofNat (8 * j)) &&& 7 = 0 := by decide +kernel
theorem zn3 : ∀ j, j < 210 → ¬ (nI 210 ≤ nI j) ∧ nI j + Int32.ofInt 1 = nI (j + 1) := by decide +kernel
theorem zn4 : (420 : Int32) >>> ((1 : Int32) &&& 31) = nI 210 := by decide +kernel
theorem zn5 : (420 : Int32) - (nI 210 <<< ((1 : Int32) &&& 31)) = 0 ∧ (0 : Int32) ^^^ (-1) = -1 ∧ (3 : Int32) - 2 = 1 := by decide +kernel
def zvL (x y : Nat) (w : Int32) : List (Nat × Value) := [(0, .ref x), (1, .long 16), (3, .ref y), (4, .long 16), (6, .int 420), (7, .int 2), (8, .int 1), (9, .int w)]
section ZVE
variable {p : Program} {l : Launch} {e : Env} {R : Room} {s : State} {m : MethodId} {args : Array Value} {below : List Frame} {meth : Method} {c : Code} {Q : State → Prop}
variable {pc : Nat} {ls : Array Slot}
theorem zcallG {u o : Nat} {cI : ClassId} {f : Nat → Int32} {j : Nat} (hx : p.tables.exec = Jvm.exec) (hb : c.code = prog_24_method_3_code) (hml : c.maxLocals = 19) (hown : s.vm.findClass "jdk/internal/util/ArraysSupport" = some m.cls) (hts : ∀ w ∈ zTs, w.before args s = true) (hR : 2 ≤ R.frames ∧ 80 ≤ R.locals) (hG : zG u o cI 420 f s) (hj : j < 210)
    (hsz : ls.size = 19) (hd : decode prog_24_method_3_code pc = .ok (.invokevirtual 30, 3))
    (k : W p l e R s m args below meth c s.heap [] 0 0 Q (F0 m (pc + 3) ls [.long (zlng (f (2 * j)) (f (2 * j + 1)))])) : W p l e R s m args below meth c s.heap [] 0 0 Q (F0 m pc ls [.long (16 + Int64.ofNat (8 * j)), .ref o, .ref u]) := by
  have hfix : CallFix p m c prog_24_method_3_code 19 s args zTs "jdk/internal/util/ArraysSupport" := ⟨hx, hb, hml, hown, hts⟩
  obtain ⟨n1, n2, n3⟩ := zn2 j hj
  obtain ⟨⟨cellU, u1, u2, u3, -⟩, -, -⟩ := id hG
  have good : GoodIn zTs (wsV "jdk/internal/util/ArraysSupport" 30 "jdk/internal/misc/Unsafe" gluN zgW) := by
    intro w hw
    unfold wsV at hw
    rcases List.mem_append.mp hw with hw | hw
    · simp only [List.mem_cons, List.not_mem_nil, or_false] at hw
      rcases hw with rfl | rfl | rfl | rfl
      · exact zgoodW zw_mlG
      · exact zgoodW zw_inG
      · exact zgoodW zw_seG
      · exact zgoodW zw_iU
    · rcases List.mem_cons.mp hw with rfl | hw
      · exact zgoodW zw_cdG
      · exact zgoodW hw
  have r := va_runV (e := e) (below := below) (meth := meth) (locs := []) (cells := 0) (slots := 0) (C := "jdk/internal/misc/Unsafe") (b := u) (As := [.ref o, .long (16 + Int64.ofNat (8 * j))]) (rest := []) (n := 2) (g := F0 m pc ls [.long (16 + Int64.ofNat (8 * j)), .ref o, .ref u]) hfix (zMetG (l := l) (u := u) (o := o) (cI := cI) (n := 420) (f := f) n1 n2 (by omega) n3)
    (cwV (ws' := zTs) _ hts good rfl rfl rfl ⟨rfl, by decide, by decide, by decide +kernel⟩ ⟨hR.1, by show 8 + (4 + 11) + 40 ≤ R.locals; omega⟩) ⟨zG_blind, ⟨cellU, u1, u2, u3⟩, fun U hU hW => ⟨rfl, zG_moved hU hW.alike hG⟩⟩ rfl rfl hsz rfl (Nat.zero_le 8) hd ⟨Nat.zero_le _, Nat.zero_le _⟩
  exact vp_callSl r.run (fun r hr => by rw [hr]; exact k)
theorem zvecS {u x y : Nat} {cx cy : ClassId} {f g : Nat → Int32} {j : Nat} (hx : p.tables.exec = Jvm.exec) (hb : c.code = prog_24_method_3_code) (hml : c.maxLocals = 19) (hown : s.vm.findClass "jdk/internal/util/ArraysSupport" = some m.cls) (hts : ∀ w ∈ zTs, w.before args s = true) (hR : 2 ≤ R.frames ∧ 80 ≤ R.locals) (hV : zV u x y cx cy 420 f g s) (hfg : ∀ i, i < 420 → f i = g i) (hj : j < 210)
    (hL : lv_has ls 19 (zvL x y (nI j))) (k : ∀ ls', lv_has ls' 19 (zvL x y (nI (j + 1))) → W p l e R s m args below meth c s.heap [] 0 0 Q (F0 m 11 ls' [])) : W p l e R s m args below meth c s.heap [] 0 0 Q (F0 m 11 ls []) := by
  obtain ⟨hGx, hGy, z3, zU, z2, z16⟩ := hV
  obtain ⟨n1, n2⟩ := zn3 j hj
  refine lv_iload hx hb (i := 9) (x := nI j) (by decide +kernel) (lv_at hL 7 rfl) ?_
  refine lv_iload hx hb (i := 6) (x := 420) (by decide +kernel) (lv_at hL 4 rfl) ?_
  refine lv_iload hx hb (i := 8) (x := 1) (by decide +kernel) (lv_at hL 6 rfl) ?_
  refine lv_ishr hx hb (by decide +kernel) ?_
  rw [zn4]
  refine lv_icmp_ge hx hb (off := 104) (tgt := 122) (by decide +kernel) rfl (fun q => absurd q n1) (fun _ => ?_)
  refine lv_iload hx hb (i := 9) (x := nI j) (by decide +kernel) (lv_at hL 7 rfl) ?_
  refine lv_i2l hx hb (by decide +kernel) rfl ?_
  refine va_gets hx hb z3 va_S.rf hown (hts _ zw_fl20) (fun _ h => h) (by decide +kernel) ?_
  refine lv_lshl hx hb (by decide +kernel) (zn1 j hj) ?_
  refine lv_lstore hx hb (i := 10) (lv' := (10, .long (Int64.ofNat (8 * j))) :: zvL x y (nI j)) (by decide +kernel) hL (by omega) rfl (fun l1 h1 => ?_)
  refine va_gets hx hb zU va_S.rf hown (hts _ zw_fl26) (fun _ h => h) (by decide +kernel) ?_
  refine lv_aload_n hx hb (k := 0) (i := 0) (x := x) (by decide +kernel) rfl (lv_at h1 1 rfl) ?_
  refine lv_lload_n hx hb (k := 1) (i := 1) (x := 16) (by decide +kernel) rfl (lv_at h1 2 rfl) ?_
  refine lv_lload hx hb (i := 10) (x := Int64.ofNat (8 * j)) (by decide +kernel) (lv_at h1 0 rfl) ?_
  refine lv_ladd hx hb (by decide +kernel) ?_
  refine zcallG hx hb hml hown hts hR hGx hj h1.1 (by decide +kernel) ?_
  refine lv_lstore hx hb (i := 12) (lv' := (12, .long (zlng (f (2 * j)) (f (2 * j + 1)))) :: (10, .long (Int64.ofNat (8 * j))) :: zvL x y (nI j)) (by decide +kernel) h1 (by omega) rfl (fun l2 h2 => ?_)
  refine va_gets hx hb zU va_S.rf hown (hts _ zw_fl26) (fun _ h => h) (by decide +kernel) ?_
  refine lv_aload_n hx hb (k := 3) (i := 3) (x := y) (by decide +kernel) rfl (lv_at h2 4 rfl) ?_
  refine lv_lload hx hb (i := 4) (x := 16) (by decide +kernel) (lv_at h2 5 rfl) ?_
  refine lv_lload hx hb (i := 10) (x := Int64.ofNat (8 * j)) (by decide +kernel) (lv_at h2 1 rfl) ?_
  refine lv_ladd hx hb (by decide +kernel) ?_
  refine zcallG hx hb hml hown hts hR hGy hj h2.1 (by decide +kernel) ?_
  rw [← hfg (2 * j) (by omega), ← hfg (2 * j + 1) (by omega)]
  refine lv_lstore hx hb (i := 14) (lv' := (14, .long (zlng (f (2 * j)) (f (2 * j + 1)))) :: (12, .long (zlng (f (2 * j)) (f (2 * j + 1)))) :: (10, .long (Int64.ofNat (8 * j))) :: zvL x y (nI j)) (by decide +kernel) h2 (by omega) rfl (fun l3 h3 => ?_)
  refine lv_lload hx hb (i := 12) (x := zlng (f (2 * j)) (f (2 * j + 1))) (by decide +kernel) (lv_at h3 1 rfl) ?_
  refine lv_lload hx hb (i := 14) (x := zlng (f (2 * j)) (f (2 * j + 1))) (by decide +kernel) (lv_at h3 0 rfl) ?_
  refine zlcmpE hx hb (by decide +kernel) ?_
  refine lv_if_eq hx hb (off := 54) (tgt := 116) (by decide +kernel) rfl (fun _ => ?_) (fun q => absurd rfl q)
  refine lv_iinc hx hb (i := 9) (k := 10) (n := 1) (x := nI j) (lv' := (9, .int (nI (j + 1))) :: (14, .long (zlng (f (2 * j)) (f (2 * j + 1)))) :: (12, .long (zlng (f (2 * j)) (f (2 * j + 1)))) :: (10, .long (Int64.ofNat (8 * j))) :: [(0, .ref x), (1, .long 16), (3, .ref y), (4, .long 16), (6, .int 420), (7, .int 2), (8, .int 1)]) (by decide +kernel) h3 rfl n2 (by omega) rfl (fun l4 h4 => ?_)
  refine lv_goto hx hb (off := -108) (tgt := 11) (by decide +kernel) rfl ?_
  exact k l4 (lv_sub h4 [4, 5, 6, 7, 8, 9, 10, 0] rfl)
theorem zvecR {u x y : Nat} {cx cy : ClassId} {f g : Nat → Int32} (hx : p.tables.exec = Jvm.exec) (hb : c.code = prog_24_method_3_code) (hml : c.maxLocals = 19) (hown : s.vm.findClass "jdk/internal/util/ArraysSupport" = some m.cls) (hts : ∀ w ∈ zTs, w.before args s = true) (hR : 2 ≤ R.frames ∧ 80 ≤ R.locals) (hV : zV u x y cx cy 420 f g s) (hfg : ∀ i, i < 420 → f i = g i)
    (k : ∀ ls', lv_has ls' 19 (zvL x y (nI 210)) → W p l e R s m args below meth c s.heap [] 0 0 Q (F0 m 11 ls' [])) : ∀ (n j : Nat), j + n = 210 → ∀ ls, lv_has ls 19 (zvL x y (nI j)) → W p l e R s m args below meth c s.heap [] 0 0 Q (F0 m 11 ls []) := by
  intro n
  induction n with
  | zero =>
    intro j hj ls hL
    have : j = 210 := by omega
    subst this
    exact k ls hL
  | succ n ih =>
    intro j hj ls hL
    exact zvecS hx hb hml hown hts hR hV hfg (by omega) hL (fun l1 h1 => ih (j + 1) (by omega) l1 h1)
end ZVE
def zvW : List Jvm.Cond := .code vecN prog_24_method_3_code 19 (some .int) :: zTs
def zvR : Room := { frames := 2, cells := 0, slots := 0, locals := 80 }
theorem zMetV {l : Launch} {u x y : Nat} {cx cy : ClassId} {f g : Nat → Int32} (hfg : ∀ i, i < 420 → f i = g i) :
    Met l vecN zvW zvR (va_Pc [.ref x, .long 16, .ref y, .long 16, .int 420, .int 2] (zV u x y cx cy 420 f g)) (vp_Si (fun r => r = -1)) 0 0 (fun _ => False) := by
  refine zofWF (cc := prog_24_method_3_code) (maxL := 19) (ret := some .int) (ws' := zTs) zpfV rfl ?_
  intro p e s m args below meth c s₁ B hml hv
  obtain ⟨rfl, hV⟩ := hv
  have hx := B.exec
  have hb := B.bytes
  have hr0 := B.returns
  have hts0 := atoms_spec (ws := zvW) B.pre
  have hts : ∀ w ∈ zTs, w.before ([.ref x, .long 16, .ref y, .long 16, .int 420, .int 2] : List Value).toArray s = true := fun w hw => hts0 w (List.mem_cons_of_mem _ hw)
  have hown : s.vm.findClass "jdk/internal/util/ArraysSupport" = some m.cls := findClass_of_methodNamed B.named
  have hlocks := B.notSynchronized
  rw [lg_entry_eq]
  have hL := lv_entry [.ref x, .long 16, .ref y, .long 16, .int 420, .int 2] (n := 19) (show 8 ≤ 19 by omega)
  obtain ⟨n1, n2, n3⟩ := zn5
  obtain ⟨hGx, hGy, z3, zU, z2, z16⟩ := id hV
  refine va_gets hx hb z3 va_S.rf hown (hts _ zw_fl20) (fun _ h => h) (by decide +kernel) ?_
  refine lv_iload hx hb (i := 7) (x := 2) (by decide +kernel) (lv_at hL 5 rfl) ?_
  refine lv_isub hx hb (by decide +kernel) ?_
  rw [n3]
  refine lv_istore hx hb (i := 8) (lv' := [(8, .int 1), (0, .ref x), (1, .long 16), (3, .ref y), (4, .long 16), (6, .int 420), (7, .int 2)]) (by decide +kernel) hL (by omega) rfl (fun l1 h1 => ?_)
  refine lv_iconst hx hb (n := 0) (v := nI 0) (by decide +kernel) (by decide) ?_
  refine lv_istore hx hb (i := 9) (lv' := [(9, .int (nI 0)), (8, .int 1), (0, .ref x), (1, .long 16), (3, .ref y), (4, .long 16), (6, .int 420), (7, .int 2)]) (by decide +kernel) h1 (by omega) rfl (fun l2 h2 => ?_)
  refine zvecR hx hb hml hown hts ⟨Nat.le_refl 2, Nat.le_refl 80⟩ hV hfg (fun l3 h3 => ?_) 210 0 rfl l2 (lv_sub h2 [2, 3, 4, 5, 6, 7, 1, 0] rfl)
  refine lv_iload hx hb (i := 9) (x := nI 210) (by decide +kernel) (lv_at h3 7 rfl) ?_
  refine lv_iload hx hb (i := 6) (x := 420) (by decide +kernel) (lv_at h3 4 rfl) ?_
  refine lv_iload hx hb (i := 8) (x := 1) (by decide +kernel) (lv_at h3 6 rfl) ?_
  refine lv_ishr hx hb (by decide +kernel) ?_
  rw [zn4]
  refine lv_icmp_ge hx hb (off := 104) (tgt := 122) (by decide +kernel) rfl (fun _ => ?_) (fun q => absurd (by decide) q)
  refine lv_iload hx hb (i := 6) (x := 420) (by decide +kernel) (lv_at h3 4 rfl) ?_
  refine lv_iload hx hb (i := 9) (x := nI 210) (by decide +kernel) (lv_at h3 7 rfl) ?_
  refine lv_iload hx hb (i := 8) (x := 1) (by decide +kernel) (lv_at h3 6 rfl) ?_
  refine lv_ishl hx hb (by decide +kernel) ?_
  refine lv_isub hx hb (by decide +kernel) ?_
  rw [n1]
  refine lv_istore hx hb (i := 10) (lv' := (10, .int 0) :: zvL x y (nI 210)) (by decide +kernel) h3 (by omega) rfl (fun l4 h4 => ?_)
  refine lv_iload hx hb (i := 7) (x := 2) (by decide +kernel) (lv_at h4 6 rfl) ?_
  refine va_gets hx hb z2 va_S.rf hown (hts _ zw_fl51) (fun _ h => h) (by decide +kernel) ?_
  refine lv_icmp_ge hx hb (off := 126) (tgt := 263) (by decide +kernel) rfl (fun _ => ?_) (fun q => absurd (by decide) q)
  refine lv_iload hx hb (i := 10) (x := 0) (by decide +kernel) (lv_at h4 0 rfl) ?_
  refine lv_iconst hx hb (n := -1) (v := -1) (by decide +kernel) (by decide) ?_
  refine lv_ixor hx hb (by decide +kernel) ?_
  rw [n2]
  exact W.iret (Qc := vp_Si (fun r => r = -1)) hx hb hr0 (fun t ht hW => ⟨_, rfl, rfl, ht⟩) (fun q hq => by cases hq) (by decide +kernel) hlocks
