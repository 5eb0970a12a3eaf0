/-! THE CLAIM OUT OF ONE WALK OF THE LAW'S BODY. Your part is whole_start (and what it stands on); all else here is the same for every law, but numbers. -/
def R_law : String := "SilkTariffLaw"
def lw_P (b : Addr) (xs : List Int32) (args : Array Value) (s : State) : Prop := args = #[.ref b] ∧ s.IntsAt b xs ∧ xs.length ≤ 260 ∧ (Jvm.Cond.and given_1 narrow_1).before args s = true
/-- what a walk over the start with the record d0 says of its end, said of the start itself -/
theorem lw_closed {s t : State} {o : Outcome} {d0 : Drawn} {L : List Loc} {k n : Nat} (hd0 : s.drawn.sameBut d0 lw_cs) (hv : ∃ v, o = .returned v) (hW : (s.setDrawn d0).WarmedH t.vm) (hs : (s.setDrawn d0).sameButNew ({ t with vm := s.vm } : State) L k n) : State.butDraws s t lw_cs (fun t1 => Framed s o t1 L k n) := by
  have h2 : t.drawn = d0 := congrArg State.drawn hs.1
  refine ⟨⟨hv, hW, State.sameButNew.setDrawn hs s.drawn⟩, ?_, by decide⟩
  rw [h2]
  exact hd0
def lw_Q (_ : Array Value) (s : State) (o : Outcome) (t : State) : Prop := o = .returned (some (.int 1)) ∧ State.butDraws s t lw_cs (fun t1 => Framed s o t1 [] 600000 7302250)
def lw_Z (below : List Frame) (a : Array Value) (s : State) : State → Prop := fun t => ∃ o, t.status = .running ∧ Ended t below o ∧ lw_Q a s o t
/-- the law's own end, with 1 on the stack, nothing written that was there before, its room as the claim has it; d0: the record of draws at this point (at the entry s.drawn: begin with 'refine W.base ?_' and 'have hd0 := Drawn.sameBut.refl s.drawn lw_cs') -/
theorem lw_ret {p : Program} {l : Launch} {e : Env} {s : State} {m : MethodId} {below : List Frame} {meth : Method} {c : Code} {b : Nat} {d0 : Drawn} (hd0 : s.drawn.sameBut d0 lw_cs) (hx : p.tables.exec = Jvm.exec) (hb : c.code = code) (hr : meth.sig.returnType = ret) (hlocks : meth.locks = false) {pc : Nat} {H : Heap} {ls : Array Slot} (hdg : decode code pc = .ok (.ireturn, 1)) : W p l e room_1 (s.setDrawn d0) m #[Value.ref b] below meth c H [] 600000 7302250 (lw_Z below #[Value.ref b] s) (F0 m pc ls [.int 1]) := by
  intro T hT X
  obtain ⟨fs, hret, hrun, hended, hW, hframe⟩ := X.leave (v := some (.int 1)) (hlocks := hlocks) (fun h => by rw [hr] at h; cases h)
  have hmeth' : T.vm.method? m = some meth := X.method'
  refine ⟨T.setFrames fs, ?_, .returned (some (.int 1)), hrun, hended, rfl, lw_closed hd0 ⟨_, rfl⟩ hW hframe⟩
  jvm_step X.here [X.here.top, hx, hb, hdg, hmeth', hr, ret, narrow_b1]
  (try refine ⟨rfl, ?_⟩); (try refine ⟨rfl, ?_⟩)
  first | (intro acts; rw [hret _ acts rfl rfl rfl]) | rw [hret _ _ rfl rfl rfl]
  exact Steps.refl _
/-- what holds at the law's entry: the machine, the code, the tables' words (any of lw_tbl by 'hts w (by decide +kernel)'), the script of L ints xs at the cell b, what the Statement gives of the start (any of its parts by flat_of_before) -/
def lw_At (p : Program) (s : State) (m : MethodId) (meth : Method) (c : Code) (b L : Nat) (xs : Nat → Int32) : Prop :=
  p.tables.exec = Jvm.exec ∧ c.code = code ∧ meth.sig.returnType = ret ∧ c.maxLocals = 10 ∧ s.vm.findClass R_law = some m.cls ∧ (∀ w ∈ lw_tbl, w.before #[Value.ref b] s = true) ∧ va_X b L xs s s.heap ∧ b < s.heap.size ∧ meth.locks = false ∧ (Jvm.Cond.and given_1 narrow_1).before #[Value.ref b] s = true
-- 15: the law's start, out of a run of the small machine
theorem zinst : ∀ ci, ci < 9 → Cond.instantiable (zR ci) (zNf ci) ∈ lw_tbl := by decide +kernel
def ztm (i : Nat) : Term := .string (zR ((zSL.getD i (0, 0)).1 / 65536)) ((zSL.getD i (0, 0)).1 % 65536)
def zfl : List Jvm.Cond := flatC (Jvm.Cond.and given_1 narrow_1)
theorem zx1 : ∀ i, i < 18 → Cond.exactly (ztm i) "java/lang/String" ∈ zfl ∧ Cond.eq (.field (ztm i) "java/lang/String" "coder" "B") (.int 0) ∈ zfl ∧ Cond.arrayOf (.field (ztm i) "java/lang/String" "value" "[B") .byte ∈ zfl ∧ Cond.eq (.length (.field (ztm i) "java/lang/String" "value" "[B")) (.int (Int32.ofNat ((zSb.map List.length).getD i 0))) ∈ zfl := by decide +kernel
theorem zx2 : ∀ i, i < 18 → ∀ j, j < (zSb.map List.length).getD i 0 → Cond.eq (.elem (.field (ztm i) "java/lang/String" "value" "[B") (.int (Int32.ofNat j))) (.int ((zSb.getD i []).getD j 0)) ∈ zfl := by decide +kernel
def zNE : List (Nat × Nat × Nat) := [(3, 4, 36), (3, 5, 46), (4, 5, 47), (3, 6, 57), (4, 6, 58), (5, 6, 59), (3, 7, 71), (4, 7, 72), (5, 7, 73), (6, 7, 74), (3, 8, 85), (4, 8, 86), (5, 8, 87), (6, 8, 88), (7, 8, 89), (3, 9, 100), (4, 9, 101), (5, 9, 102), (6, 9, 103), (7, 9, 104), (8, 9, 105), (3, 10, 117), (4, 10, 118), (5, 10, 119), (6, 10, 120), (7, 10, 121), (8, 10, 122), (9, 10, 123), (3, 11, 132), (4, 11, 133), (5, 11, 134), (6, 11, 135), (7, 11, 136), (8, 11, 137), (9, 11, 138), (10, 11, 139), (3, 12, 152), (4, 12, 153), (5, 12, 154), (6, 12, 155), (7, 12, 156), (8, 12, 157), (9, 12, 158), (10, 12, 159), (11, 12, 160), (3, 13, 176), (4, 13, 177), (5, 13, 178), (6, 13, 179), (7, 13, 180), (8, 13, 181), (9, 13, 182), (10, 13, 183), (11, 13, 184), (12, 13, 185), (3, 14, 195), (4, 14, 196), (5, 14, 197), (6, 14, 198), (7, 14, 199), (8, 14, 200), (9, 14, 201), (10, 14, 202), (11, 14, 203), (12, 14, 204), (13, 14, 205), (3, 15, 213), (4, 15, 214), (5, 15, 215), (6, 15, 216), (7, 15, 217), (8, 15, 218), (9, 15, 219), (10, 15, 220), (11, 15, 221), (12, 15, 222), (13, 15, 223), (14, 15, 224), (3, 16, 230), (4, 16, 231), (5, 16, 232), (6, 16, 233), (7, 16, 234), (8, 16, 235), (9, 16, 236), (10, 16, 237), (11, 16, 238), (12, 16, 239), (13, 16, 240), (14, 16, 241), (15, 16, 242), (3, 17, 248), (4, 17, 249), (5, 17, 250), (6, 17, 251), (7, 17, 252), (8, 17, 253), (9, 17, 254), (10, 17, 255), (11, 17, 256), (12, 17, 257), (13, 17, 258), (14, 17, 259), (15, 17, 260), (16, 17, 261), (3, 0, 271), (4, 0, 272), (5, 0, 273), (6, 0, 274), (7, 0, 275), (8, 0, 276), (9, 0, 277), (10, 0, 278), (11, 0, 279), (12, 0, 280), (13, 0, 281), (14, 0, 282), (15, 0, 283), (16, 0, 284), (17, 0, 285), (3, 1, 294), (4, 1, 295), (5, 1, 296), (6, 1, 297), (7, 1, 298), (8, 1, 299), (9, 1, 300), (10, 1, 301), (11, 1, 302), (12, 1, 303), (13, 1, 304), (14, 1, 305), (15, 1, 306), (16, 1, 307), (17, 1, 308), (0, 1, 309), (3, 2, 317), (4, 2, 318), (5, 2, 319), (6, 2, 320), (7, 2, 321), (8, 2, 322), (9, 2, 323), (10, 2, 324), (11, 2, 325), (12, 2, 326), (13, 2, 327), (14, 2, 328), (15, 2, 329), (16, 2, 330), (17, 2, 331), (0, 2, 332), (1, 2, 333)]
theorem zx3a : zNE.all (fun q => decide (zfl[q.2.2]? = some (Cond.not (Cond.eq (ztm q.1) (ztm q.2.1))))) = true := by decide +kernel
theorem zx3b : ∀ i, i < 18 → ∀ j, j < 18 → i ≠ j → zNE.any (fun q => (Nat.beq q.1 i && Nat.beq q.2.1 j) || (Nat.beq q.1 j && Nat.beq q.2.1 i)) = true := by decide +kernel
theorem zx3 : ∀ i, i < 18 → ∀ j, j < 18 → i ≠ j → Cond.not (Cond.eq (ztm i) (ztm j)) ∈ zfl ∨ Cond.not (Cond.eq (ztm j) (ztm i)) ∈ zfl := by
  intro i hi j hj hne
  obtain ⟨q, hq, h⟩ := List.any_eq_true.mp (zx3b i hi j hj hne)
  have h1 := List.all_eq_true.mp zx3a q hq
  simp only [decide_eq_true_eq] at h1
  have h2 := List.mem_of_getElem? h1
  simp only [Bool.or_eq_true, Bool.and_eq_true] at h
  rcases h with ⟨a, b⟩ | ⟨a, b⟩
  · rw [Nat.eq_of_beq_eq_true a, Nat.eq_of_beq_eq_true b] at h2
    exact Or.inl h2
  · rw [Nat.eq_of_beq_eq_true a, Nat.eq_of_beq_eq_true b] at h2
    exact Or.inr h2
theorem zx4 : ∀ i, i < 18 → (zSb.map List.length).getD i 0 < 2 ^ 31 := by decide +kernel
theorem zx5 : zSL.all (fun q => decide (Cond.stringRef (zR (q.1 / 65536)) (q.1 % 65536) (zSt.getD q.2 "") ∈ lw_tbl) && decide (q.2 < 18) && decide (zSL.getD q.2 (0, 0) = q)) = true := by decide +kernel
theorem zx6 : Cond.laysStatic "java/lang/String" "COMPACT_STRINGS" "Z" ∈ lw_tbl ∧ Cond.initialized "java/lang/String" ∈ lw_tbl ∧ Cond.eq (.static "java/lang/String" "COMPACT_STRINGS" "Z") (.int 1) ∈ zfl := by decide +kernel
theorem zx7 : Cond.laysStatic "jdk/internal/util/Preconditions" "SIOOBE_FORMATTER" "Ljava/util/function/BiFunction;" ∈ lw_tbl ∧ Cond.initialized "jdk/internal/util/Preconditions" ∈ lw_tbl ∧ Cond.isRef (.static "jdk/internal/util/Preconditions" "SIOOBE_FORMATTER" "Ljava/util/function/BiFunction;") ∈ zfl := by decide +kernel
theorem zx8 : zCL.all (fun q => !Nat.beq q.2.1 3 || decide (Cond.methodLinkNest (zR (q.1 / 65536)) (q.1 % 65536) (zmt q.2.2.1).2.1 "SilkTariff" ∈ lw_tbl)) = true := by decide +kernel
theorem zx9 : Cond.laysStatic "jdk/internal/misc/Unsafe" "ARRAY_INT_BASE_OFFSET" "I" ∈ lw_tbl ∧ Cond.initialized "jdk/internal/misc/Unsafe" ∈ lw_tbl ∧ Cond.eq (.static "jdk/internal/misc/Unsafe" "ARRAY_INT_BASE_OFFSET" "I") (.int 16) ∈ zfl ∧
  Cond.laysStatic "jdk/internal/util/ArraysSupport" "LOG2_ARRAY_INT_INDEX_SCALE" "I" ∈ lw_tbl ∧ Cond.initialized "jdk/internal/util/ArraysSupport" ∈ lw_tbl ∧ Cond.eq (.static "jdk/internal/util/ArraysSupport" "LOG2_ARRAY_INT_INDEX_SCALE" "I") (.int 2) ∈ zfl ∧
  Cond.laysStatic "jdk/internal/util/ArraysSupport" "LOG2_ARRAY_LONG_INDEX_SCALE" "I" ∈ lw_tbl ∧ Cond.eq (.static "jdk/internal/util/ArraysSupport" "LOG2_ARRAY_LONG_INDEX_SCALE" "I") (.int 3) ∈ zfl ∧
  Cond.laysStatic "jdk/internal/util/ArraysSupport" "U" "Ljdk/internal/misc/Unsafe;" ∈ lw_tbl ∧ Cond.exactly (.static "jdk/internal/util/ArraysSupport" "U" "Ljdk/internal/misc/Unsafe;") "jdk/internal/misc/Unsafe" ∈ zfl := by decide +kernel
theorem vk_S_congr {N : Nat} {len : List Nat} {byt : List (List Int32)} {adK adV adK2 adV2 : Nat → Nat} {A : Nat → Prop} {U : State} {H : Heap} (h : vk_S N len byt adK adV A U H) (h1 : ∀ i, i < N → adK2 i = adK i) (h2 : ∀ i, i < N → adV2 i = adV i) : vk_S N len byt adK2 adV2 A U H := by
  refine ⟨fun i hi => ?_, fun i j hi hj e => h.2 i j hi hj (by rw [← h1 i hi, ← h1 j hj]; exact e)⟩
  rw [h1 i hi, h2 i hi]
  exact h.1 i hi
theorem zstart {p : Program} {e : Env} {s : State} {m : MethodId} {below : List Frame} {meth : Method} {c : Code} (l : Launch) {b L : Nat} {xs : Nat → Int32} (hL : L ≤ 260) (C0 : lw_At p s m meth c b L xs)
    (hrun : ∀ G : Nat → Nat → Int32, G 2000001 0 = nI L → G 2000000 = xs → ∃ n h', zrun n k_L_law 0 (zpad 10 [.ref 2000000]) [] ([], G) = some (some (.int 1), h') ∧ h'.1.length ≤ 600000 ∧ zsl h'.1 ≤ 7302250) :
    W p l e room_1 s m #[Value.ref b] below meth c s.heap [] 0 0 (lw_Z below #[Value.ref b] s) (entryFrame m ([Value.ref b] : List Value).toArray 10) := by
  obtain ⟨hx, hb, hr, hml, hown, hts, hX, hbl, hlocks, hgv⟩ := id C0
  have hs := flat_of_before _ hgv
  have hA0 : ∀ a : Nat, a < s.heap.size → ¬ (fun q : Nat => s.heap.size ≤ q) a := fun a h => Nat.not_le.mpr h
  -- the classes
  have hk : ∀ ci, ∃ q : ClassId × (Nat → Nat), ci < 9 → u_Kn s (zR ci) (zT ci) (zNf ci) q.1 q.2 := by
    intro ci
    by_cases h9 : ci < 9
    · obtain ⟨cC, iS, hK⟩ := u_known (C := zR ci) (T := zT ci) (N := zNf ci) (n := zNf ci) (ws := lw_tbl) hts (fun w hw => (List.mem_filter.mp (zws_ok ci h9 w hw)).1) (hts _ (zinst ci h9))
      exact ⟨(cC, iS), fun _ => hK⟩
    · exact ⟨(0, fun _ => 0), fun h => absurd h h9⟩
  obtain ⟨dq, hdq⟩ := Classical.axiomOfChoice hk
  have hK : va_K (fun i => (dq i).1, fun i => (dq i).2) zcl [] s := by
    refine ⟨fun ci q hq => ?_, fun k q h => by simp at h⟩
    have h9 : ci < 9 := by
      have := (List.getElem?_eq_some_iff.mp hq).1
      simpa [zcl] using this
    rw [zcl_ok ci h9] at hq
    cases hq
    exact hdq ci h9
  -- the texts
  obtain ⟨adK, adV, hvk, hev⟩ := vk_Sof (args := #[Value.ref b]) (s := s) (N := 18) (tm := ztm) (len := zSb.map List.length) (byt := zSb) (A := fun q : Nat => s.heap.size ≤ q) zx4 (fun i hi => hs _ (zx1 i hi).1) (fun i hi => hs _ (zx1 i hi).2.1) (fun i hi => hs _ (zx1 i hi).2.2.1) (fun i hi => hs _ (zx1 i hi).2.2.2)
    (fun i hi j hj => hs _ (zx2 i hi j hj)) (fun i j hi hj hne => (zx3 i hi j hj hne).elim (fun q => Or.inl (hs _ q)) (fun q => Or.inr (hs _ q))) hA0
  have hCS : va_Z "java/lang/String" "COMPACT_STRINGS" "Z" (.int 1) (fun q : Nat => s.heap.size ≤ q) s s.heap := va_Zof (hts _ zx6.1) (hts _ zx6.2.1) (va_eqt (hs _ zx6.2.2)) hA0
  have hSF := va_Zqof (hts _ zx7.1) (hts _ zx7.2.1) (hs _ zx7.2.2) hA0
  obtain ⟨t, z, hz⟩ : ∃ (t : Nat) (z : Int32), (z = 0 ∧ va_Z "jdk/internal/util/Preconditions" "SIOOBE_FORMATTER" "Ljava/util/function/BiFunction;" .null (fun q : Nat => s.heap.size ≤ q) s s.heap) ∨ (¬ z = 0 ∧ va_Z "jdk/internal/util/Preconditions" "SIOOBE_FORMATTER" "Ljava/util/function/BiFunction;" (.ref t) (fun q : Nat => s.heap.size ≤ q) s s.heap) := by
    rcases hSF with q | ⟨t, q⟩
    · exact ⟨0, 0, Or.inl ⟨rfl, q⟩⟩
    · exact ⟨t, 1, Or.inr ⟨by decide, q⟩⟩
  obtain ⟨ad, ad1, ad2, ad3, ad4⟩ : ∃ ad : Nat → Nat, ad 2000000 = b ∧ (∀ i, i < 18 → ad (1000000 + i) = adK i) ∧ (∀ i, i < 18 → ad (1001000 + i) = adV i) ∧ ad 1002000 = t := by
    refine ⟨fun j => if j = 2000000 then b else if j < 1001000 then adK (j - 1000000) else if j < 1002000 then adV (j - 1001000) else t, if_pos rfl, fun i hi => ?_, fun i hi => ?_, ?_⟩
    · show (if 1000000 + i = 2000000 then b else _) = _
      rw [if_neg (by omega), if_pos (by omega), show 1000000 + i - 1000000 = i by omega]
    · show (if 1001000 + i = 2000000 then b else _) = _
      rw [if_neg (by omega), if_neg (by omega), if_pos (by omega), show 1001000 + i - 1001000 = i by omega]
    · show (if 1002000 = 2000000 then b else _) = _
      rw [if_neg (by omega), if_neg (by omega), if_neg (by omega)]
  obtain ⟨G, g1, g2, g3⟩ : ∃ G : Nat → Nat → Int32, G 2000001 0 = nI L ∧ G 2000000 = xs ∧ G 2000002 0 = z := by
    refine ⟨fun a => if a = 2000000 then xs else if a = 2000001 then (fun _ => nI L) else (fun _ => z), ?_, if_pos rfl, ?_⟩
    · show (if 2000001 = 2000000 then xs else _) 0 = _
      rw [if_neg (by omega), if_pos rfl]
    · show (if 2000002 = 2000000 then xs else _) 0 = _
      rw [if_neg (by omega), if_neg (by omega)]
  obtain ⟨n, h', hrn, hc1, hc2⟩ := hrun G g1 g2
  have hUn : zUn (fun q : Nat => s.heap.size ≤ q) s s.heap := by
    obtain ⟨u, cu, cellu, ku, q1, -⟩ := Cond.exactly_spec (hs _ zx9.2.2.2.2.2.2.2.2.2)
    exact ⟨va_Zof (hts _ zx9.1) (hts _ zx9.2.1) (va_eqt (hs _ zx9.2.2.1)) hA0, va_Zof (hts _ zx9.2.2.2.1) (hts _ zx9.2.2.2.2.1) (va_eqt (hs _ zx9.2.2.2.2.2.1)) hA0, va_Zof (hts _ zx9.2.2.2.2.2.2.1) (hts _ zx9.2.2.2.2.1) (va_eqt (hs _ zx9.2.2.2.2.2.2.2.1)) hA0,
      u, va_Zof (hts _ zx9.2.2.2.2.2.2.2.2.1) (hts _ zx9.2.2.2.2.1) q1 hA0, va_Oof (hs _ zx9.2.2.2.2.2.2.2.2.2) q1 hA0⟩
  have hRo : zRo ad (fun q : Nat => s.heap.size ≤ q) s s.heap := by
    refine ⟨vk_S_congr hvk ad2 ad3, fun q hq => ?_, hCS, fun q hq h3 => ?_, va_AO.of (hts _ zover), hUn⟩
    · have h5 := List.all_eq_true.mp zx5 q hq
      simp only [Bool.and_eq_true, decide_eq_true_eq] at h5
      have h6 := hev q.2 h5.1.2
      unfold ztm at h6
      rw [h5.2, ← ad2 q.2 h5.1.2] at h6
      exact vk_R.of (hts _ h5.1.1) h6
    · have h8 := List.all_eq_true.mp zx8 q hq
      simp only [Bool.or_eq_true, Bool.not_eq_true', decide_eq_true_eq] at h8
      rcases h8 with h8 | h8
      · rw [h3] at h8; cases h8
      · exact va_Nw.of rfl (hts _ h8)
  have hSc : zSc ad (fun q : Nat => s.heap.size ≤ q) s s.heap G := by
    refine ⟨⟨L, by omega, g1, ?_, ?_, ?_⟩, ?_⟩
    · rw [ad1, g2]; exact hX
    · rw [ad1]; exact hbl
    · rw [ad1]; exact Nat.not_le.mpr hbl
    · rw [g3, ad4]; exact hz
  have e1 : ([Value.ref b] : List Value) = ([Value.ref 2000000] : List Value).map (zv ad) := by
    show _ = [Value.ref (ad 2000000)]
    rw [ad1]
  have hLe := zL_entry (ad := ad) (as := [.ref 2000000]) (n := 10) rfl (by decide)
  rw [← e1] at hLe
  rw [lg_entry_eq]
  have C : zCtx p room_1 s m #[Value.ref b] meth c (fun q : Nat => s.heap.size ≤ q) m_L_law :=
    ⟨hx, hb, hml, hown, fun w hw => hts w (List.mem_filter.mp hw).1, fun q h => h, fun w => absurd w (by decide), by decide, by decide⟩
  have hM : zms[k_L_law]? = some m_L_law := rfl
  have O : zOk (fun i => (dq i).1) (fun i => (dq i).2) s (fun q : Nat => s.heap.size ≤ q) m_L_law ad (fun _ => 0) ([], G) s.heap [] _ (zpad 10 [.ref 2000000]) :=
    ⟨fun k q h => by simp [zW] at h, hK, ⟨fun i j p q h => by simp [zW] at h, fun k q h => by simp [zW] at h⟩, va_S.rf, hLe, hRo, hSc, by simp⟩
  refine zFr_all n hrn hM C O (cells := 0) (slots := 0) (CT := h'.1.length) (ST := zsl h'.1) (by simp) (by simp [zsl]) hc1 hc2 ?_
  intro ad' cA' H' locs' ls' lst' st' pc' i len hag O' hd hlen2 hz2
  refine va_forget (fun q hq => O'.2.2.2.1.2.2 q hq) ?_
  refine W.widen (k := 600000) (n := 7302250) hc1 hc2 ?_
  rcases zret_ok hz2 with ⟨rfl, w1, rfl, w2⟩ | ⟨ty, x, rfl, w1, rfl, w2, w3⟩ | ⟨x, rfl, w1, rfl, w3⟩ | ⟨x, rfl, w1, rfl, w3⟩ | ⟨nm, x, rfl, w1, w5, rfl, w3⟩
  · cases w2
  · cases w3
    have := eq_of_beq hlen2; subst this
    exact lw_ret (d0 := s.drawn) (Drawn.sameBut.refl s.drawn lw_cs) hx hb hr hlocks hd
  · cases w3
  · cases w3
  · cases w3
