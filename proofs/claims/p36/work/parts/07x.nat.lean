-- 07x: a native read of eight bytes out of a row of ints
def zub (x : Int32) (j : Nat) : Nat := x.toUInt32.toNat % 2 ^ 32 / 2 ^ (8 * j) % 256
def zlng (x y : Int32) : Int64 := ((([zub x 0, zub x 1, zub x 2, zub x 3, zub y 0, zub y 1, zub y 2, zub y 3] : List Nat).zipIdx.map fun (b, k) => b * 2 ^ (8 * k)).sum).toUInt64.toInt64
section ZNA
variable {E : CtlPost} {e : Env} {d : Bool} {acts : List Action} {s : State}
theorem zlocI {a : Addr} {B : Cell} {k : Class} {comp : ClassId} {q : Nat} {off : Int64} {Q : UnsafeMem.Target → Pre} (hA : s.heap[a]? = some B) (hvm : B.vm = .none) (hk : s.vm.classes[B.cls]? = some k) (hkind : k.kind = .array comp .int) (hneg : ¬ off < 0) (hoff : off.toNatClampNeg = 16 + q) :
    wp (UnsafeMem.locate (.ref a) off .long) Q E e d acts s ↔ Q (UnsafeMem.Target.bytes a .int q) d acts s := by
  simp [UnsafeMem.locate, hneg, hoff, hA, Cell.info, hvm, hk, hkind, UnsafeMem.arrayBase, UnsafeMem.scaleOf, UnsafeMem.isRefType]
theorem zrdI {a : Addr} {B : Cell} {i j : Nat} {x : Int32} {q : Nat} {Q : Nat → Pre} (hj : j < 4) (hq : q = 4 * i + j) (hA : s.heap[a]? = some B) (hvm : B.vm = .none) (h : B.slots[i]? = some (.int x)) :
    wp (UnsafeMem.readByte a .int q .plain) Q E e d acts s ↔ Q (zub x j) d (readActs ⟨a, i⟩ .plain (.int x) acts) s := by
  subst hq
  have e1 : (4 * i + j) / 4 = i := by omega
  have e2 : (4 * i + j) % 4 = j := by omega
  simp [UnsafeMem.readByte, UnsafeMem.scaleOf, UnsafeMem.bitsOf, e1, e2, hA, hvm, h, zub]
theorem zgetI {a : Addr} {B : Cell} {k : Class} {comp : ClassId} {i : Nat} {off : Int64} {x y : Int32} {Q : Value → Pre} (hA : s.heap[a]? = some B) (hvm : B.vm = .none) (hk : s.vm.classes[B.cls]? = some k) (hkind : k.kind = .array comp .int) (hneg : ¬ off < 0) (hoff : off.toNatClampNeg = 16 + 8 * i)
    (h0 : B.slots[2 * i]? = some (.int x)) (h1 : B.slots[2 * i + 1]? = some (.int y)) (hQ : ∀ d' acts', Q (.long (zlng x y)) d' acts' s) : wp (UnsafeMem.get .long (.ref a) off .plain) Q E e d acts s := by
  have hr : List.range (UnsafeMem.scaleOf .long) = [0, 1, 2, 3, 4, 5, 6, 7] := rfl
  simp only [UnsafeMem.get, wp_bind', zlocI hA hvm hk hkind hneg hoff, hr, List.mapM, List.mapM.loop,
    zrdI (i := 2 * i) (j := 0) (q := 8 * i + 0) (by omega) (by omega) hA hvm h0, zrdI (i := 2 * i) (j := 1) (q := 8 * i + 1) (by omega) (by omega) hA hvm h0, zrdI (i := 2 * i) (j := 2) (q := 8 * i + 2) (by omega) (by omega) hA hvm h0, zrdI (i := 2 * i) (j := 3) (q := 8 * i + 3) (by omega) (by omega) hA hvm h0,
    zrdI (i := 2 * i + 1) (j := 0) (q := 8 * i + 4) (by omega) (by omega) hA hvm h1, zrdI (i := 2 * i + 1) (j := 1) (q := 8 * i + 5) (by omega) (by omega) hA hvm h1, zrdI (i := 2 * i + 1) (j := 2) (q := 8 * i + 6) (by omega) (by omega) hA hvm h1, zrdI (i := 2 * i + 1) (j := 3) (q := 8 * i + 7) (by omega) (by omega) hA hvm h1, wp_pure']
  exact hQ _ _
end ZNA
def glN : MethodName := ⟨"jdk/internal/misc/Unsafe", "getLong", "(Ljava/lang/Object;J)J"⟩
theorem glN_desc : parseMethodDescriptor glN.desc = some { parameters := [.object "java/lang/Object", .long], returnType := some .long } := by decide +kernel
def zglR : NativeRow := Native.jdk_internal_misc_Unsafe.memory.getRow "Long" "J" .long "" .plain
set_option maxRecDepth 100000 in
theorem zgl_row (p : Program) : NativeRow.find? p.tables.natives "jdk/internal/misc/Unsafe" "getLong" "(Ljava/lang/Object;J)J" = some zglR := by
  cases p <;> rfl
section ZNB
variable {e : Env} {below : List Frame} {s target : State} {g : JFrame} {c : Code} {m : MethodId} {meth : Method} {k : Class} {ig : Instr} {len : Nat}
theorem zglS (p : Program) (h : At s g.method c below) (acts : List Action) (N : NativeOf s.vm m k meth "jdk/internal/misc/Unsafe" "getLong" "(Ljava/lang/Object;J)J" false [.object "java/lang/Object", .long]) {b a : Addr} {off : Int64} {B : Cell} {kB : Class} {comp : ClassId} {i : Nat} {x y : Int32}
    (hroom : e.platform.stackFull (((s.setTop g).threads[(s.setTop g).cur]?).getD { frames := [] }) (s.setTop g).frames (nativeFrameWords "jdk/internal/misc/Unsafe" "getLong" 4) = false)
    (hA : s.heap[a]? = some B) (hvm : B.vm = .none) (hk : s.vm.classes[B.cls]? = some kB) (hkind : kB.kind = .array comp .int) (hneg : ¬ off < 0) (hoff : off.toNatClampNeg = 16 + 8 * i)
    (h0 : B.slots[2 * i]? = some (.int x)) (h1 : B.slots[2 * i + 1]? = some (.int y)) (hdg : decode c.code g.pc = .ok (ig, len))
    (hrest : Steps p.tables e below (s.setTop { g with pc := g.pc + len, stack := .long (zlng x y) :: g.stack }) target) :
    Steps p.tables e below (doInvoke e (s.setTop g) acts m #[.ref b, .ref a, .long off]).1 target := by
  have hseen : seenByNative meth #[.ref b, .ref a, .long off] = #[.ref b, .ref a, .long off] := by
    simp [seenByNative, N.static, N.sig]
    exact ⟨rfl, rfl⟩
  refine Steps.nativeEnds (row := zglR) (v := some (.long (zlng x y))) (T := id) h acts N.cls N.meth N.boot N.native N.noCode N.noLock
    (by rw [N.className, N.name, N.desc]; exact zgl_row p) (by rw [N.className, N.name]; exact hroom) (fun _ => rfl) rfl (fun _ => h.code) ?_ hdg hrest
  intro Q hq
  rw [hseen] at hq ⊢
  rw [show zglR.sem #[.ref b, .ref a, .long off] = (do let v ← UnsafeMem.get .long (.ref a) off .plain; mark "nat.jdk_internal_misc_Unsafe.get"; Pure.pure (some v)) from rfl]
  simp only [wp_bind', W.mark, wp_pure']
  exact zgetI (B := B) (k := kB) (comp := comp) (i := i) hA hvm hk hkind hneg hoff h0 h1 (fun _ _ => hq _ _)
end ZNB
section ZNC
variable {p : Program} {l : Launch} {e : Env} {R : Room} {s : State} {m : MethodId} {args : Array Value} {below : List Frame} {meth : Method} {c : Code} {T : State} {H : Heap} {locs : List Loc} {cells slots : Nat} {Q : State → Prop}
theorem zgl0 (X : Stand p l e R s m args below meth c T locs cells slots) (hexec : p.tables.exec = Jvm.exec) {own : String} {index : Nat} (hown : s.vm.findClass own = some m.cls) (hlink : (Cond.methodLink own index glN).before args s = true)
    (hsel : (Cond.selects "jdk/internal/misc/Unsafe" glN glN).before args s = true) (hinst : (Cond.instanceMethod glN).before args s = true) (hnat : (Cond.native glN).before args s = true)
    {b a : Addr} {cellB B : Cell} (hcB : T.heap[b]? = some cellB) (hoB : cellB.vm.isStatics = false) (hclB : s.vm.findClass "jdk/internal/misc/Unsafe" = some cellB.cls)
    (hA : T.heap[a]? = some B) (hvm : B.vm = .none) {kB : Class} {comp : ClassId} (hk : s.vm.classes[B.cls]? = some kB) (hkind : kB.kind = .array comp .int) {off : Int64} {i : Nat} {x y : Int32} (hneg : ¬ off < 0) (hoff : off.toNatClampNeg = 16 + 8 * i)
    (h0 : B.slots[2 * i]? = some (.int x)) (h1 : B.slots[2 * i + 1]? = some (.int y))
    {g : JFrame} (hg : g.method = m) (hsize : g.locals.size = c.maxLocals) {rest : List Value} (hstack : g.stack = .long off :: .ref a :: .ref b :: rest) (hdg : decode c.code g.pc = .ok (.invokevirtual index, 3))
    (hframes : 1 ≤ R.frames) (hlocals : 2 * g.monitorRoom + (rest.map fun v => v.category).sum + (nativeFrameWords "jdk/internal/misc/Unsafe" "getLong" 4 + 11) ≤ R.locals) :
    ∃ vm₁, Stand p l e R s m args below meth c (T.setVm vm₁) locs cells slots ∧
      ∀ target, Steps p.tables e below ((T.setVm vm₁).setTop { g with pc := g.pc + 3, stack := .long (zlng x y) :: rest }) target → Steps p.tables e below (T.setTop g) target := by
  obtain ⟨mk, methM, hnamed, hmethM, hstR, habM⟩ := Cond.instanceMethod_spec hinst
  obtain ⟨c2, r2, m2, q1, q2, q3, q4, kP, hkP, hkPi⟩ := Cond.selects_spec hsel
  cases hclB.symm.trans q1
  cases (State.methodFound?_of_named hnamed (by decide)).symm.trans q2
  cases hnamed.symm.trans q3
  have hselP : selectMethod e.platform s.vm cellB.cls mk = .method mk := by rw [Launch.admits_selectMethod X.admits]; exact q4
  obtain ⟨mN, kN, methN, hnamedN, hmethN, hkN, N⟩ := NativeOf.of_instance hnat hinst glN_desc
  cases hnamed.symm.trans hnamedN
  cases hmethM.symm.trans hmethN
  obtain ⟨vm₁, X₁, hstep₁⟩ := X.invokevirtual hexec hown hlink hnamed hmethM N.static hkP hkPi (by decide) (a := b) (cell := cellB) hcB
    (fun z h => by rw [h] at hoB; cases hoB) hselP hmethM habM hkP hkPi (g := g) hg (argsL := [.ref a, .long off]) (rest := rest) (by rw [N.sig]; rfl) hstack hdg
  have hal : s.vm.Alike vm₁ := X₁.warmed.alike
  obtain ⟨kN₁, N₁⟩ := N.alike hal
  obtain ⟨kB₁, hkB₁, ekB⟩ := hal.2.2 _ _ hk
  have hAt : At (T.setVm vm₁) ({ g with stack := rest } : JFrame).method c below := by rw [show ({ g with stack := rest } : JFrame).method = m from hg]; exact X₁.here
  have hroom := X₁.notFull (g := { g with stack := rest }) hsize (vars := nativeFrameWords "jdk/internal/misc/Unsafe" "getLong" 4) hframes hlocals
  refine ⟨vm₁, X₁, fun target hrest => hstep₁ target fun acts => ?_⟩
  exact zglS p hAt acts N₁ hroom (show (T.setVm vm₁).heap[a]? = some B from hA) hvm hkB₁ (by rw [ekB]; exact hkind) hneg hoff h0 h1 hdg hrest
/-- the native read of two ints of a row as one long -/
theorem zglW {cc : ByteArray} {pc : Nat} {ls : Array Slot} {rest : List Value} (hexec : p.tables.exec = Jvm.exec) (hb : c.code = cc) (hml : c.maxLocals = ls.size) {own : String} {index : Nat} (hown : s.vm.findClass own = some m.cls) (hlink : (Cond.methodLink own index glN).before args s = true)
    (hsel : (Cond.selects "jdk/internal/misc/Unsafe" glN glN).before args s = true) (hinst : (Cond.instanceMethod glN).before args s = true) (hnat : (Cond.native glN).before args s = true)
    {b a : Addr} {cellB : Cell} (hcB : H[b]? = some cellB) (hoB : cellB.vm.isStatics = false) (hclB : s.vm.findClass "jdk/internal/misc/Unsafe" = some cellB.cls) {cI : ClassId} {n : Nat} {f : Nat → Int32}
    (hA : H[a]? = some (arrV cI n (fun j => .int (f j)))) (hT : ArrOfT s cI .int) {off : Int64} {i : Nat} (hneg : ¬ off < 0) (hoff : off.toNatClampNeg = 16 + 8 * i) (hi : 2 * i + 1 < n)
    (hframes : 1 ≤ R.frames) (hlocals : (rest.map fun v => v.category).sum + 17 ≤ R.locals) (hdg : decode cc pc = .ok (.invokevirtual index, 3))
    (k : W p l e R s m args below meth c H locs cells slots Q (F0 m (pc + 3) ls (.long (zlng (f (2 * i)) (f (2 * i + 1))) :: rest))) : W p l e R s m args below meth c H locs cells slots Q (F0 m pc ls (.long off :: .ref a :: .ref b :: rest)) := by
  intro T hTh X
  obtain ⟨-, kB, hkB, comp, hkind⟩ := hT n (fun j => .int (f j))
  obtain ⟨vm', X', st⟩ := zgl0 X hexec hown hlink hsel hinst hnat (b := b) (a := a) (cellB := cellB) (by rw [hTh]; exact hcB) hoB hclB (by rw [hTh]; exact hA) rfl hkB hkind hneg hoff
    (arrV_read cI (fun j => .int (f j)) (by omega)) (arrV_read cI (fun j => .int (f j)) hi) (g := F0 m pc ls (.long off :: .ref a :: .ref b :: rest)) rfl (by rw [hml]) rfl (by rw [hb]; exact hdg) hframes
    (by show 2 * 0 + _ + _ ≤ _; have hw : nativeFrameWords "jdk/internal/misc/Unsafe" "getLong" 4 = 6 := (by decide); omega)
  obtain ⟨t, a1, b1⟩ := k (T.setVm vm') hTh X'
  exact ⟨t, st t a1, b1⟩
end ZNC
