-- 05: what the small heap is in the real one
def zv (ad : Nat → Nat) : Value → Value
  | .ref r => .ref (ad r)
  | v => v
def zfld (ad : Nat → Nat) (ci : Nat) (refs : List (Option Nat)) (g : Nat → Int32) (k : Nat) : Value :=
  if zIr ci k = true then va_rf ((refs.getD k none).map ad) else .int (g k)
def zcell (ad : Nat → Nat) (cA : Nat → ClassId) (i : Nat) (s : zS) (g : Nat → Int32) : va_E := match s with
  | .inl (ci, refs) => .inr (ci, (List.range (zNf ci)).map (zfld ad ci refs g))
  | .inr (.object _, n, refs) => .inl (cA i, n, .inr (.inr (.inr (.inr (fun j => (refs.getD j none).map ad)))))
  | .inr (_, n, _) => .inl (cA i, n, .inl g)
def zW (ad : Nat → Nat) (cA : Nat → ClassId) (h : zH) : va_W := h.1.mapIdx (fun i s => (ad i, zcell ad cA i s (h.2 i)))
def zTys (cA : Nat → ClassId) : Nat → List zS → List (ClassId × FieldType)
  | _, [] => []
  | n, .inl _ :: t => zTys cA (n + 1) t
  | n, .inr (ty, _, _) :: t => (cA n, ty) :: zTys cA (n + 1) t
theorem zW_at {ad : Nat → Nat} {cA : Nat → ClassId} {h : zH} {r : Nat} {s : zS} (hs : h.1[r]? = some s) : (zW ad cA h)[r]? = some (ad r, zcell ad cA r s (h.2 r)) := by
  simp [zW, List.getElem?_mapIdx, hs]
theorem zW_len {ad : Nat → Nat} {cA : Nat → ClassId} {h : zH} : (zW ad cA h).length = h.1.length := by simp [zW]
theorem zW_set {ad : Nat → Nat} {cA : Nat → ClassId} {h h2 : zH} {r : Nat} {s2 : zS} (hr : h2.1[r]? = some s2) (hl : h2.1.length = h.1.length) (ho : ∀ i, i ≠ r → h2.1[i]? = h.1[i]?) (hg : ∀ i, i ≠ r → h2.2 i = h.2 i) :
    (zW ad cA h).set r (ad r, zcell ad cA r s2 (h2.2 r)) = zW ad cA h2 := by
  apply List.ext_getElem?
  intro i
  by_cases hi : i = r
  · subst hi
    rw [zW_at hr, List.getElem?_set_self]
    rw [zW_len, ← hl]
    exact (List.getElem?_eq_some_iff.mp hr).1
  · rw [List.getElem?_set_ne (fun q => hi q.symm)]
    simp only [zW, List.getElem?_mapIdx]
    rw [ho i hi, hg i hi]
theorem zTys_at {cA : Nat → ClassId} : ∀ {l : List zS} {n r : Nat} {ty : FieldType} {m : Nat} {q : List (Option Nat)}, l[r]? = some (.inr (ty, m, q)) → ∃ t0 : Nat, (zTys cA n l)[t0]? = some (cA (n + r), ty) := by
  intro l
  induction l with
  | nil => intro n r ty m q h; simp at h
  | cons a t ih =>
    intro n r ty m q h
    cases r with
    | zero =>
      simp at h
      subst h
      exact ⟨0, rfl⟩
    | succ r =>
      simp at h
      obtain ⟨t0, h0⟩ := ih (n := n + 1) h
      have e : n + 1 + r = n + (r + 1) := by omega
      rw [e] at h0
      cases a with
      | inl _ => exact ⟨t0, h0⟩
      | inr b =>
        obtain ⟨b1, b2, b3⟩ := b
        exact ⟨t0 + 1, h0⟩
theorem zTys_congr {cA cA2 : Nat → ClassId} : ∀ {l : List zS} {n : Nat}, (∀ i, i < n + l.length → cA i = cA2 i) → zTys cA n l = zTys cA2 n l := by
  intro l
  induction l with
  | nil => intro n h; rfl
  | cons a t ih =>
    intro n h
    have h1 : zTys cA (n + 1) t = zTys cA2 (n + 1) t := ih (fun i hi => h i (by simp; omega))
    cases a with
    | inl _ => exact h1
    | inr b =>
      obtain ⟨b1, b2, b3⟩ := b
      show (cA n, b1) :: _ = (cA2 n, b1) :: _
      rw [h1, h n (by simp)]
theorem zTys_app {cA : Nat → ClassId} : ∀ {l m : List zS} {n : Nat}, zTys cA n (l ++ m) = zTys cA n l ++ zTys cA (n + l.length) m := by
  intro l
  induction l with
  | nil => intro m n; simp [zTys]
  | cons a t ih =>
    intro m n
    have e : n + 1 + t.length = n + (t.length + 1) := by omega
    cases a with
    | inl _ => simp only [List.cons_append, zTys, List.length_cons]; rw [ih, e]
    | inr b =>
      obtain ⟨b1, b2, b3⟩ := b
      simp only [List.cons_append, zTys, List.length_cons]
      rw [ih, e]
theorem zTys_setO {cA : Nat → ClassId} : ∀ {l : List zS} {n r : Nat} {a b : Nat × List (Option Nat)}, l[r]? = some (.inl a) → zTys cA n (l.set r (.inl b)) = zTys cA n l := by
  intro l
  induction l with
  | nil => intro n r a b h; simp at h
  | cons x t ih =>
    intro n r a b h
    cases r with
    | zero => simp at h; subst h; rfl
    | succ r =>
      simp at h
      cases x with
      | inl _ => exact ih h
      | inr c =>
        obtain ⟨c1, c2, c3⟩ := c
        show (cA n, c1) :: zTys cA (n + 1) (t.set r (.inl b)) = (cA n, c1) :: zTys cA (n + 1) t
        rw [ih h]
theorem zTys_setA {cA : Nat → ClassId} : ∀ {l : List zS} {n r : Nat} {ty : FieldType} {m m2 : Nat} {q q2 : List (Option Nat)}, l[r]? = some (.inr (ty, m, q)) → zTys cA n (l.set r (.inr (ty, m2, q2))) = zTys cA n l := by
  intro l
  induction l with
  | nil => intro n r ty m m2 q q2 h; simp at h
  | cons x t ih =>
    intro n r ty m m2 q q2 h
    cases r with
    | zero => simp at h; subst h; rfl
    | succ r =>
      simp at h
      cases x with
      | inl _ => exact ih h
      | inr c =>
        obtain ⟨c1, c2, c3⟩ := c
        show (cA n, c1) :: zTys cA (n + 1) (t.set r (.inr (ty, m2, q2))) = (cA n, c1) :: zTys cA (n + 1) t
        rw [ih h]
theorem zmap_congr {ad ad2 : Nat → Nat} {o : Option Nat} (h : ∀ r, o = some r → ad r = ad2 r) : o.map ad = o.map ad2 := by
  cases o with
  | none => rfl
  | some r => exact congrArg some (h r rfl)
theorem zgetD_all {l : List (Option Nat)} {P : Option Nat → Bool} (h : l.all P = true) (hn : P none = true) (k : Nat) : P (l.getD k none) = true := by
  by_cases hk : k < l.length
  · rw [List.getD_eq_getElem?_getD, List.getElem?_eq_getElem hk]
    exact List.all_eq_true.mp h _ (List.getElem_mem hk)
  · rw [List.getD_eq_getElem?_getD, List.getElem?_eq_none (by omega)]
    exact hn
theorem zcell_congr {ad ad2 : Nat → Nat} {cA cA2 : Nat → ClassId} {i : Nat} {s : zS} {g : Nat → Int32} {P : Option Nat → Bool} (hc : cA i = cA2 i)
    (hs : (match s with | .inl (_, l) => l.all P | .inr (_, _, l) => l.all P) = true) (hn : P none = true) (hP : ∀ r, P (some r) = true → ad r = ad2 r) : zcell ad cA i s g = zcell ad2 cA2 i s g := by
  have key : ∀ (l : List (Option Nat)) (k : Nat), l.all P = true → (l.getD k none).map ad = (l.getD k none).map ad2 := fun l k hl =>
    zmap_congr (fun r hr => hP r (by rw [← hr]; exact zgetD_all hl hn k))
  cases s with
  | inl a =>
    obtain ⟨ci, refs⟩ := a
    show Sum.inr (ci, (List.range (zNf ci)).map (zfld ad ci refs g)) = Sum.inr (ci, (List.range (zNf ci)).map (zfld ad2 ci refs g))
    have e : zfld ad ci refs g = zfld ad2 ci refs g := by
      funext k
      unfold zfld
      rw [key refs k hs]
    rw [e]
  | inr a =>
    obtain ⟨ty, n, refs⟩ := a
    cases ty <;> first
      | (show Sum.inl (cA i, n, _) = Sum.inl (cA2 i, n, _); rw [hc]; done)
      | (show Sum.inl (cA i, n, Sum.inr (Sum.inr (Sum.inr (Sum.inr (fun j => (refs.getD j none).map ad))))) = Sum.inl (cA2 i, n, Sum.inr (Sum.inr (Sum.inr (Sum.inr (fun j => (refs.getD j none).map ad2)))))
         rw [hc, show (fun j => (refs.getD j none).map ad) = (fun j => (refs.getD j none).map ad2) from funext (fun j => key refs j hs)])
/-- a new cell: ids below stay what they are -/
theorem zW_app {ad : Nat → Nat} {cA : Nat → ClassId} {h : zH} {s : zS} {q : Nat} {c : ClassId} {g : Nat → Int32} (hs : h.1.all (zneS h.1.length) = true) (hz : zneS h.1.length s = true) :
    zW (fun j => if j = h.1.length then q else ad j) (fun j => if j = h.1.length then c else cA j) (h.1 ++ [s], zrow h.2 h.1.length g) = zW ad cA h ++ [(q, zcell ad (fun _ => c) h.1.length s g)] := by
  have key : ∀ (i : Nat) (x : zS) (f : Nat → Int32) (cB cB2 : Nat → ClassId), cB i = cB2 i → zneS h.1.length x = true → zcell (fun j => if j = h.1.length then q else ad j) cB i x f = zcell ad cB2 i x f := by
    intro i x f cB cB2 hc hx
    refine zcell_congr (P := zneO h.1.length) hc (by cases x <;> exact hx) rfl (fun r hr => ?_)
    unfold zneO at hr
    have hne : ¬ r = h.1.length := by
      intro e
      rw [e] at hr
      simp at hr
    exact if_neg hne
  apply List.ext_getElem?
  intro i
  by_cases hi : i < h.1.length
  · have e1 : h.1[i]? = some h.1[i] := List.getElem?_eq_getElem hi
    rw [List.getElem?_append_left (by rw [zW_len]; exact hi), zW_at e1]
    rw [zW_at (h := (h.1 ++ [s], zrow h.2 h.1.length g)) (s := h.1[i]) (by show (h.1 ++ [s])[i]? = _; rw [List.getElem?_append_left hi, e1])]
    have n1 : ¬ i = h.1.length := by omega
    simp only [if_neg n1]
    rw [key i h.1[i] _ _ cA (if_neg n1) (List.all_eq_true.mp hs _ (List.getElem_mem hi))]
    show some (ad i, zcell ad cA i h.1[i] (zrow h.2 h.1.length g i)) = _
    rw [show zrow h.2 h.1.length g i = h.2 i from if_neg n1]
  · by_cases he : i = h.1.length
    · subst he
      rw [zW_at (h := (h.1 ++ [s], zrow h.2 h.1.length g)) (s := s) (by show (h.1 ++ [s])[h.1.length]? = _; simp)]
      rw [List.getElem?_append_right (by rw [zW_len]; exact Nat.le_refl _), zW_len]
      simp only [Nat.sub_self, List.getElem?_cons_zero, if_pos]
      rw [key h.1.length s _ (fun j => if j = h.1.length then c else cA j) (fun _ => c) (if_pos rfl) hz]
      show some (q, zcell ad (fun _ => c) h.1.length s (zrow h.2 h.1.length g h.1.length)) = _
      rw [show zrow h.2 h.1.length g h.1.length = g from if_pos rfl]
    · rw [List.getElem?_eq_none (by rw [zW_len]; show (h.1 ++ [s]).length ≤ i; simp; omega), List.getElem?_eq_none (by rw [List.length_append, zW_len]; simp; omega)]
/-- the locals -/
def zL (ad : Nat → Nat) (ls : Array Slot) (nL : Nat) (lst : List Value) : Prop :=
  ls.size = nL ∧ lst.length = nL ∧ lv_wf ls ∧ ∀ (i : Nat) (v : Value), lst[i]? = some v → (∀ q, v ≠ .retAddr q) → ls[i]? = some (.val (zv ad v))
def zlv1 (ad : Nat → Nat) (i : Nat) : Value → Option (Nat × Value)
  | .retAddr _ => none
  | v => some (i, zv ad v)
def zlv (ad : Nat → Nat) (lst : List Value) : List (Nat × Value) := (List.range lst.length).filterMap (fun i => (lst[i]?).bind (zlv1 ad i))
theorem zlv_mem {ad : Nat → Nat} {lst : List Value} {i : Nat} {v : Value} (h : lst[i]? = some v) (hn : ∀ q, v ≠ .retAddr q) : (i, zv ad v) ∈ zlv ad lst := by
  refine List.mem_filterMap.mpr ⟨i, List.mem_range.mpr (List.getElem?_eq_some_iff.mp h).1, ?_⟩
  rw [h]
  show zlv1 ad i v = _
  cases v with
  | retAddr q => exact absurd rfl (hn q)
  | _ => rfl
theorem zL_lv {ad : Nat → Nat} {ls : Array Slot} {nL : Nat} {lst : List Value} (h : zL ad ls nL lst) : lv_has ls nL (zlv ad lst) := by
  refine ⟨h.1, h.2.2.1, fun q hq => ?_⟩
  obtain ⟨i, hi, he⟩ := List.mem_filterMap.mp hq
  cases hv : lst[i]? with
  | none => rw [hv] at he; cases he
  | some v =>
    rw [hv] at he
    have he : zlv1 ad i v = some q := he
    have hn : ∀ q, v ≠ .retAddr q := by
      intro z e
      subst e
      cases he
    have e2 : zlv1 ad i v = some (i, zv ad v) := by
      cases v with
      | retAddr q => exact absurd rfl (hn q)
      | _ => rfl
    rw [e2] at he
    cases he
    exact h.2.2.2 i v hv hn
theorem zv_cat {ad : Nat → Nat} (v : Value) : (zv ad v).category = v.category := by cases v <;> rfl
theorem zL_set1 {ad : Nat → Nat} {ls : Array Slot} {nL i : Nat} {lst : List Value} {v : Value} (hl : lst.length = nL) (hp : zp2 lst i = true)
    (h : lv_has ls nL ((i, zv ad v) :: (zlv ad lst).filter (fun q => !(q.1 == i) && !(q.1 + 1 == i && q.2.category == 2)))) : zL ad ls nL (lst.set i v) := by
  refine ⟨h.1, by rw [List.length_set]; exact hl, h.2.1, fun j w hj hn => ?_⟩
  by_cases e : i = j
  · subst e
    have : w = v := by
      rw [List.getElem?_set_self'] at hj
      cases hx : lst[i]? with
      | none => rw [hx] at hj; cases hj
      | some x => rw [hx] at hj; exact (Option.some.inj hj).symm
    subst this
    exact h.2.2 _ List.mem_cons_self
  · rw [List.getElem?_set_ne e] at hj
    refine h.2.2 (j, zv ad w) (List.mem_cons_of_mem _ (List.mem_filter.mpr ⟨zlv_mem hj hn, ?_⟩))
    simp only [Bool.and_eq_true, Bool.not_eq_true', beq_eq_false_iff_ne, ne_eq, Bool.and_eq_false_iff]
    refine ⟨fun q => e q.symm, ?_⟩
    by_cases e2 : j + 1 = i
    · right
      subst e2
      rw [zv_cat]
      cases w <;> first | (simp [zp2, hj] at hp; done) | (intro q; cases q)
    · exact Or.inl e2
theorem zL_set2 {ad : Nat → Nat} {ls : Array Slot} {nL i : Nat} {lst : List Value} {v : Value} (hl : lst.length = nL) (hp : zp2 lst i = true)
    (h : lv_has ls nL ((i, zv ad v) :: (zlv ad lst).filter (fun q => !(q.1 == i) && (!(q.1 == i + 1) && !(q.1 + 1 == i && q.2.category == 2))))) : zL ad ls nL ((lst.set i v).set (i + 1) (.retAddr 0)) := by
  refine ⟨h.1, by rw [List.length_set, List.length_set]; exact hl, h.2.1, fun j w hj hn => ?_⟩
  by_cases e1 : i + 1 = j
  · subst e1
    rw [List.getElem?_set_self'] at hj
    cases hx : (lst.set i v)[i + 1]? with
    | none => rw [hx] at hj; cases hj
    | some x => rw [hx] at hj; exact absurd (Option.some.inj hj).symm (hn 0)
  · rw [List.getElem?_set_ne e1] at hj
    by_cases e : i = j
    · subst e
      have : w = v := by
        rw [List.getElem?_set_self'] at hj
        cases hx : lst[i]? with
        | none => rw [hx] at hj; cases hj
        | some x => rw [hx] at hj; exact (Option.some.inj hj).symm
      subst this
      exact h.2.2 _ List.mem_cons_self
    · rw [List.getElem?_set_ne e] at hj
      refine h.2.2 (j, zv ad w) (List.mem_cons_of_mem _ (List.mem_filter.mpr ⟨zlv_mem hj hn, ?_⟩))
      simp only [Bool.and_eq_true, Bool.not_eq_true', beq_eq_false_iff_ne, ne_eq, Bool.and_eq_false_iff]
      refine ⟨fun q => e q.symm, fun q => e1 q.symm, ?_⟩
      by_cases e2 : j + 1 = i
      · right
        subst e2
        rw [zv_cat]
        cases w <;> first | (simp [zp2, hj] at hp; done) | (intro q; cases q)
      · exact Or.inl e2
theorem zL_ad {ad ad2 : Nat → Nat} {ls : Array Slot} {nL : Nat} {lst : List Value} {n n2 : Nat} (h : zL ad ls nL lst) (hf : lst.all (zfr n n2) = true) (ha : ∀ j, j < n ∨ n2 ≤ j → ad j = ad2 j) : zL ad2 ls nL lst := by
  refine ⟨h.1, h.2.1, h.2.2.1, fun i v hv hn => ?_⟩
  rw [h.2.2.2 i v hv hn]
  have h1 := List.all_eq_true.mp hf v (List.mem_of_getElem? hv)
  cases v with
  | ref r =>
    unfold zfr at h1
    simp only [Bool.or_eq_true, Nat.blt_eq, Nat.ble_eq] at h1
    show some (Slot.val (.ref (ad r))) = some (Slot.val (.ref (ad2 r)))
    rw [ha r h1]
  | _ => rfl
theorem zmapv_ad {ad ad2 : Nat → Nat} {st : List Value} {n n2 : Nat} (hf : st.all (zfr n n2) = true) (ha : ∀ j, j < n ∨ n2 ≤ j → ad j = ad2 j) : st.map (zv ad) = st.map (zv ad2) := by
  refine List.map_congr_left (fun v hv => ?_)
  have h1 := List.all_eq_true.mp hf v hv
  cases v with
  | ref r =>
    unfold zfr at h1
    simp only [Bool.or_eq_true, Nat.blt_eq, Nat.ble_eq] at h1
    show Value.ref (ad r) = Value.ref (ad2 r)
    rw [ha r h1]
  | _ => rfl
theorem zwd_map {ad : Nat → Nat} (l : List Value) : ((l.map (zv ad)).map fun v => v.category).sum = zwd l := by
  unfold zwd
  rw [List.map_map]
  congr 1
  exact List.map_congr_left (fun v _ => zv_cat v)
