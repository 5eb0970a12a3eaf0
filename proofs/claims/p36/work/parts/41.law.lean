-- 41: blocks of the law (written by wip/p36/gen41.py)
def eB : zS → Bool
  | .inl (8, [none]) => true
  | .inr (.int, _, []) => true
  | _ => false
/-- the cells that the law makes -/
def eOK (E : List zS) : Prop := E.all eB = true ∧ E.length ≤ 800000
theorem znA : ∀ s, s ∈ zSH → ∀ m, 90 ≤ m → zneS m s = true := by
  have h : zSH.all (fun s => match s with | .inl (_, l) => l.all (fun x => match x with | some r => Nat.blt r 90 | none => true) | .inr (_, _, l) => l.all (fun x => match x with | some r => Nat.blt r 90 | none => true)) = true := by decide +kernel
  intro s hs m hm
  have h := List.all_eq_true.mp h s hs
  have one : ∀ l : List (Option Nat), l.all (fun x => match x with | some r => Nat.blt r 90 | none => true) = true → l.all (zneO m) = true := by
    intro l hl
    rw [List.all_eq_true] at hl ⊢
    intro x hx
    have := hl x hx
    cases x with
    | none => rfl
    | some r =>
      have h1 : r < 90 := Nat.blt_eq.mp this
      show (!Nat.beq r m) = true
      cases hq : Nat.beq r m with
      | false => rfl
      | true =>
        have := Nat.eq_of_beq_eq_true hq
        omega
  cases s with
  | inl p => exact one _ h
  | inr p => exact one _ h
theorem znE {E : List zS} (h : E.all eB = true) : ∀ s, s ∈ E → ∀ m, zneS m s = true := by
  intro s hs m
  have := List.all_eq_true.mp h s hs
  unfold eB at this
  split at this
  · rfl
  · rfl
  · cases this
theorem znw_E {E : List zS} {G : Nat → Nat → Int32} {lst st : List Value} {s : zS} (hok : eOK E) (hl : lst.all (zne (90 + E.length)) = true) (hs : st.all (zne (90 + E.length)) = true) : znw (zSH ++ E, G) lst st s = some (zSH ++ (E ++ [s]), zrow G (90 + E.length) (fun _ => 0)) := by
  have e : (zSH ++ E).length = 90 + E.length := by rw [List.length_append]; rfl
  have e2 := hok.2
  unfold znw
  rw [if_pos]
  · show some ((zSH ++ E) ++ [s], zrow G (zSH ++ E).length (fun _ => 0)) = _
    rw [e, List.append_assoc]
  · show (zSH ++ E).length < 900000 ∧ lst.all (zne (zSH ++ E).length) = true ∧ st.all (zne (zSH ++ E).length) = true ∧ (zSH ++ E).all (zneS (zSH ++ E).length) = true
    rw [e]
    refine ⟨by omega, hl, hs, ?_⟩
    rw [List.all_eq_true]
    intro x hx
    rcases List.mem_append.mp hx with q | q
    · exact znA x q _ (by omega)
    · exact znE hok.1 x q _
theorem zmay_objh {M T : zMt} {r ci : Nat} {as rest : List Value} {refs : List (Option Nat)} {h : zH} (hs : h.1[r]? = some (.inl (ci, refs))) (hk : (Nat.blt T.2.2.2.2.2.1 M.2.2.2.2.2.1 && Nat.beq (as.length + 1) T.2.2.2.2.2.2.1 && Nat.ble (as.length + 1) T.2.2.2.1 && as.all zcat1 && Nat.ble (zwd rest) 8 && Nat.beq T.1 ci && Nat.blt ci 9) = true) : zmay M T 0 (.ref r :: as) rest h = true := by
  simp only [Bool.and_eq_true] at hk
  obtain ⟨⟨⟨⟨⟨⟨h1, h2⟩, h3⟩, h4⟩, h5⟩, h6⟩, h7⟩ := hk
  have h6 := Nat.eq_of_beq_eq_true h6
  have h8 : ¬ ci = 10 := by have := Nat.blt_eq.mp h7; omega
  have hz : zrcv h T.1 (.ref r :: as) = true := by
    unfold zrcv
    simp only [h6, if_neg h8, hs, h7]
    simp
  unfold zmay
  simp only [List.length_cons, List.all_cons, h1, h2, h3, h4, h5, hz]
  rfl
section ZLr
variable {k pc : Nat} {lst st : List Value} {h : zH} {M : zMt}
theorem zd_newb {idx : Nat} {E : List zS} {G : Nat → Nat → Int32} (hc : zAt k pc M (.new idx) 3) (hq : (zlk zCC (M.1 * 65536 + idx)).map (fun q => q.1) = some 8) (hok : eOK E) (hl : lst.all (zne (90 + E.length)) = true) (hs : st.all (zne (90 + E.length)) = true) :
    zden k pc lst st (zSH ++ E, G) = zden k (pc + 3) lst (.ref (90 + E.length) :: st) (zSH ++ (E ++ [.inl (8, [none])]), zrow G (90 + E.length) (fun _ => 0)) := by
  have e : (zSH ++ E).length = 90 + E.length := by rw [List.length_append]; rfl
  have := zst_new (pc := pc) hq (znw_E (G := G) (s := .inl (8, List.replicate (zNf 8) none)) hok hl hs)
  rw [show (zSH ++ E, G).1.length = 90 + E.length from e] at this
  exact zd_go hc rfl rfl this
theorem zd_newa {n : Nat} {x : Int32} {E : List zS} {G : Nat → Nat → Int32} (hc : zAt k pc M (.newarray .int) 2) (hx : x = Int32.ofNat n) (hn : n ≤ 100000) (hok : eOK E) (hl : lst.all (zne (90 + E.length)) = true) (hs : st.all (zne (90 + E.length)) = true) :
    zden k pc lst (.int x :: st) (zSH ++ E, G) = zden k (pc + 2) lst (.ref (90 + E.length) :: st) (zSH ++ (E ++ [.inr (.int, n, [])]), zrow G (90 + E.length) (fun _ => 0)) := by
  have e : (zSH ++ E).length = 90 + E.length := by rw [List.length_append]; rfl
  have hx' : x = nI n := hx
  have en : x.toNatClampNeg = n := by rw [hx', nI_clamp (by omega)]
  refine zd_go (o := (pc + 2, lst, .ref (90 + E.length) :: st, (zSH ++ (E ++ [.inr (.int, n, [])]), zrow G (90 + E.length) (fun _ => 0)))) hc rfl rfl ?_
  unfold zst
  simp only [en]
  rw [if_pos ⟨by rw [hx']; exact nI_pos (by omega), hn, .inl trivial⟩]
  have := znw_E (G := G) (lst := lst) (st := st) (s := .inr (newarray.typeOf .int, n, [])) hok hl hs
  rw [this]
  show some (pc + 2, lst, .ref (zSH ++ E).length :: st, _) = _
  rw [e]
  rfl
theorem zd_aretA {x : Nat} {ty : FieldType} (hc : zAt k pc M .areturn 1) (ht : M.2.2.2.2.1 = some (.array ty)) : zden k pc lst [.ref x] h = some (some (.ref x), h) :=
  zd_ret hc.1 hc.2 rfl (by unfold zret; simp only [ht])
theorem zd_eqr {a b idx : Nat} (hc : zAt k pc M (.invokestatic idx) 3) (h1 : zcall M (.invokestatic idx) = none) (hq : (zlk zLL (M.1 * 65536 + idx)).map (fun q => q.1) = some 9) (he : zeqr h a b = true) (hd : (Nat.ble 6 M.2.2.2.2.2.1 && Nat.ble (zwd st) 8) = true) : zden k pc lst (.ref b :: .ref a :: st) h = zden k (pc + 3) lst (.int 1 :: st) h := by
  refine zd_go (o := (pc + 3, lst, .int 1 :: st, h)) hc h1 rfl ?_
  simp only [Bool.and_eq_true] at hd
  have d1 := Nat.le_of_ble_eq_true hd.1
  have d2 := Nat.le_of_ble_eq_true hd.2
  show zlibk M pc lst _ h idx = _
  unfold zlibk
  cases hz : zlk zLL (M.1 * 65536 + idx) with
  | none => rw [hz] at hq; cases hq
  | some q =>
    rw [hz] at hq
    have hq : q.1 = 9 := Option.some.inj hq
    unfold zlib
    simp only [if_pos (show 1 ≤ M.2.2.2.2.2.1 by omega), hq, if_pos (show zwd st ≤ 8 ∧ 6 ≤ M.2.2.2.2.2.1 ∧ zeqr h a b = true from ⟨d2, d1, he⟩)]
end ZLr
-- reading
def sameR (G X : Nat → Nat → Int32) : Prop := ∀ i, i < 90 → i ≠ 83 → X i = G i
theorem sr_rf {G : Nat → Nat → Int32} : sameR G G := fun _ _ _ => rfl
theorem sr_up {G X : Nat → Nat → Int32} {r k : Nat} {x : Int32} (h : 90 ≤ r ∧ r < 1000000) (s : sameR G X) : sameR G (zup X r k x) := fun i h1 h2 => by rw [zup_ro (by omega)]; exact s i h1 h2
theorem sr_tr {G X Y : Nat → Nat → Int32} (a : sameR G X) (b : sameR X Y) : sameR G Y := fun i h1 h2 => (b i h1 h2).trans (a i h1 h2)
def rd1 (k p : Nat) (rv : Nat → Int32 → Int32 → Int32) (X : Nat → Nat → Int32) : Prop := ∀ x : Int32, zden k 0 (.ref 0 :: .int x :: List.replicate p (.retAddr 0)) [] (zSH, X) = some (some (.int (rv k x 0)), (zSH, X))
def rd2 (k p : Nat) (rv : Nat → Int32 → Int32 → Int32) (X : Nat → Nat → Int32) : Prop := ∀ x y : Int32, zden k 0 (.ref 0 :: .int x :: .int y :: List.replicate p (.retAddr 0)) [] (zSH, X) = some (some (.int (rv k x y)), (zSH, X))
def RD (X : Nat → Nat → Int32) (rv : Nat → Int32 → Int32 → Int32) : Prop := rd1 98 0 rv X ∧ rd1 74 0 rv X ∧ rd2 73 1 rv X ∧ rd2 78 0 rv X ∧ rd2 79 0 rv X ∧ rd2 80 0 rv X ∧ rd2 89 0 rv X ∧ rd2 81 1 rv X ∧ rd1 82 0 rv X ∧ rd1 83 0 rv X ∧ rd1 90 4 rv X
/-- what is read, whatever lies in the law's own cells -/
def RDs (G : Nat → Nat → Int32) (rv : Nat → Int32 → Int32 → Int32) : Prop := ∀ X, sameR G X → RD X rv
section ZRd
variable {E : List zS} {G X : Nat → Nat → Int32} {rv : Nat → Int32 → Int32 → Int32} {x y : Int32}
theorem RDs.up (hP : RDs G rv) (s : sameR G X) : RDs X rv := fun _ q => hP _ (sr_tr s q)
theorem r98 (hP : RDs G rv) (s : sameR G X) : zden 98 0 [.ref 0, .int x] [] (zSH ++ E, X) = some (some (.int (rv 98 x 0)), (zSH ++ E, X)) := zden_x E ((hP X s).1 x)
theorem r74 (hP : RDs G rv) (s : sameR G X) : zden 74 0 [.ref 0, .int x] [] (zSH ++ E, X) = some (some (.int (rv 74 x 0)), (zSH ++ E, X)) := zden_x E ((hP X s).2.1 x)
theorem r73 (hP : RDs G rv) (s : sameR G X) : zden 73 0 [.ref 0, .int x, .int y, .retAddr 0] [] (zSH ++ E, X) = some (some (.int (rv 73 x y)), (zSH ++ E, X)) := zden_x E ((hP X s).2.2.1 x y)
theorem r78 (hP : RDs G rv) (s : sameR G X) : zden 78 0 [.ref 0, .int x, .int y] [] (zSH ++ E, X) = some (some (.int (rv 78 x y)), (zSH ++ E, X)) := zden_x E ((hP X s).2.2.2.1 x y)
theorem r79 (hP : RDs G rv) (s : sameR G X) : zden 79 0 [.ref 0, .int x, .int y] [] (zSH ++ E, X) = some (some (.int (rv 79 x y)), (zSH ++ E, X)) := zden_x E ((hP X s).2.2.2.2.1 x y)
theorem r80 (hP : RDs G rv) (s : sameR G X) : zden 80 0 [.ref 0, .int x, .int y] [] (zSH ++ E, X) = some (some (.int (rv 80 x y)), (zSH ++ E, X)) := zden_x E ((hP X s).2.2.2.2.2.1 x y)
theorem r89 (hP : RDs G rv) (s : sameR G X) : zden 89 0 [.ref 0, .int x, .int y] [] (zSH ++ E, X) = some (some (.int (rv 89 x y)), (zSH ++ E, X)) := zden_x E ((hP X s).2.2.2.2.2.2.1 x y)
theorem r81 (hP : RDs G rv) (s : sameR G X) : zden 81 0 [.ref 0, .int x, .int y, .retAddr 0] [] (zSH ++ E, X) = some (some (.int (rv 81 x y)), (zSH ++ E, X)) := zden_x E ((hP X s).2.2.2.2.2.2.2.1 x y)
theorem r82 (hP : RDs G rv) (s : sameR G X) : zden 82 0 [.ref 0, .int x] [] (zSH ++ E, X) = some (some (.int (rv 82 x 0)), (zSH ++ E, X)) := zden_x E ((hP X s).2.2.2.2.2.2.2.2.1 x)
theorem r83 (hP : RDs G rv) (s : sameR G X) : zden 83 0 [.ref 0, .int x] [] (zSH ++ E, X) = some (some (.int (rv 83 x 0)), (zSH ++ E, X)) := zden_x E ((hP X s).2.2.2.2.2.2.2.2.2.1 x)
theorem r90 (hP : RDs G rv) (s : sameR G X) : zden 90 0 [.ref 0, .int x, .retAddr 0, .retAddr 0, .retAddr 0, .retAddr 0] [] (zSH ++ E, X) = some (some (.int (rv 90 x 0)), (zSH ++ E, X)) := zden_x E ((hP X s).2.2.2.2.2.2.2.2.2.2 x)
end ZRd
