-- 17y: behind the end of a cell there is nothing
def zinv (h : zH) : Prop := ∀ (r : Nat) (s : zS), h.1[r]? = some s → ∀ j, zsl1 s ≤ j → h.2 r j = 0
section ZI
variable {M : zMt} {pc len : Nat} {lst st : List Value} {h : zH} {o : zC}
theorem zinv.to (hi : zinv h) (e : o.2.2.2 = h) : zinv o.2.2.2 := by rw [e]; exact hi
theorem zinv.up {r k : Nat} {x : Int32} {s : zS} (hi : zinv h) (hr : h.1[r]? = some s) (hk : k < zsl1 s) : zinv (h.1, zup h.2 r k x) := by
  intro q t hq j hj
  show zup h.2 r k x q j = 0
  by_cases e : q = r
  · subst e
    have hq' : h.1[q]? = some t := hq
    rw [hr] at hq'
    have hq' := Option.some.inj hq'
    subst hq'
    rw [zup_same]
    show (if j = k then x else h.2 q j) = 0
    rw [if_neg (by omega)]
    exact hi q s hr j hj
  · rw [zup_other e]
    exact hi q t hq j hj
theorem zinv.set {r : Nat} {a b : zS} (hi : zinv h) (hr : h.1[r]? = some a) (hs : zsl1 a = zsl1 b) : zinv (h.1.set r b, h.2) := by
  intro q t hq j hj
  have hq' : (h.1.set r b)[q]? = some t := hq
  show h.2 q j = 0
  by_cases e : r = q
  · subst e
    rw [List.getElem?_set_self (List.getElem?_eq_some_iff.mp hr).1] at hq'
    have hq' := Option.some.inj hq'
    subst hq'
    exact hi r a hr j (by omega)
  · rw [List.getElem?_set_ne e] at hq'
    exact hi q t hq' j hj
theorem zinv.row {r : Nat} {f : Nat → Int32} {s : zS} (hi : zinv h) (hr : h.1[r]? = some s) (hf : ∀ j, zsl1 s ≤ j → f j = 0) : zinv (h.1, zrow h.2 r f) := by
  intro q t hq j hj
  show zrow h.2 r f q j = 0
  by_cases e : q = r
  · subst e
    have hq' : h.1[q]? = some t := hq
    rw [hr] at hq'
    have hq' := Option.some.inj hq'
    subst hq'
    rw [zrow_same]
    exact hf j hj
  · rw [zrow_other e]
    exact hi q t hq j hj
theorem zinv.new {s : zS} {h' : zH} {l1 l2 : List Value} (hi : zinv h) (hz : znw h l1 l2 s = some h') : zinv h' := by
  rw [znw_len hz]
  intro q t hq j hj
  have hq' : (h.1 ++ [s])[q]? = some t := hq
  show zrow h.2 h.1.length (fun _ => 0) q j = 0
  by_cases e : q = h.1.length
  · rw [e, zrow_same]
  · rw [zrow_other e]
    have : q < h.1.length := by
      have := (List.getElem?_eq_some_iff.mp hq').1
      simp at this
      omega
    rw [List.getElem?_append_left this] at hq'
    exact hi q t hq' j hj
theorem zin_lt {i : Int32} {n : Nat} (h : zin i n = true) : i.toNatClampNeg < n := by
  unfold zin at h
  simp only [Bool.not_eq_true', Bool.or_eq_false_iff, decide_eq_false_iff_not] at h
  omega
theorem zpf_inv {r ci k : Nat} {v : Value} {h' : zH} (hi : zinv h) (hv : zpf M h r ci k v = some h') : zinv h' := by
  unfold zpf at hv
  split at hv
  case h_2 => cases hv
  case h_1 c refs hr =>
  split at hv
  case isFalse => cases hv
  case isTrue hc =>
  split at hv
  · split at hv <;> cases hv
    exact hi.up hr (by show k < zNf c; rw [hc.1]; exact hc.2.1)
  · split at hv <;> cases hv
    exact hi.set hr rfl
  · cases hv
theorem zlibk_inv {idx : Nat} (hi : zinv h) (hz : zlibk M pc lst st h idx = some o) : zinv o.2.2.2 := by
  unfold zlibk at hz
  split at hz
  case h_2 => cases hz
  unfold zlib at hz
  split at hz
  case isFalse => cases hz
  split at hz
  · split at hz <;> cases hz; exact hi
  · split at hz <;> cases hz; exact hi
  · split at hz
    case isFalse => cases hz
    obtain ⟨h', hh, rfl⟩ := zhset_inv hz
    unfold zcpy at hh
    split at hh
    case h_2 => cases hh
    case h_1 n0 r0 n1 r1 ha0 ha1 =>
    split at hh
    case isFalse => cases hh
    case isTrue hc =>
    cases hh
    refine hi.row ha1 (fun j hj => ?_)
    have hj : n1 ≤ j := hj
    rw [pk_cpy_out (by omega)]
    exact hi _ _ ha1 j hj
  · split at hz <;> cases hz; exact hi
  · split at hz <;> cases hz; exact hi
  · cases hz
theorem zst_inv {i : Instr} (hi : zinv h) (hz : zst M i len pc lst st h = some o) : zinv o.2.2.2 := by
  unfold zst at hz
  split at hz
  · cases hz; exact hi
  · cases hz; exact hi
  · split at hz
    · cases hz; exact hi
    · split at hz <;> cases hz; exact hi
  · exact hi.to (zldi_h hz)
  · exact hi.to (zldi_h hz)
  · exact hi.to (zldd_h hz)
  · exact hi.to (zldd_h hz)
  · exact hi.to (zlda_h hz)
  · exact hi.to (zlda_h hz)
  · exact hi.to (zsti_h hz)
  · exact hi.to (zsti_h hz)
  · exact hi.to (zsta_h hz)
  · exact hi.to (zsta_h hz)
  · exact hi.to (zstd_h hz)
  · exact hi.to (zstd_h hz)
  · split at hz
    · exact hi.to (zsto_h hz)
    · cases hz
  · exact hi.to (zsw_h hz)
  · split at hz
    · exact hi.to (zicmp_h hz)
    · cases hz
  · split at hz
    · exact hi.to (zicmp_h hz)
    · cases hz
  · split at hz
    · cases hz; exact hi
    · exact hi.to (zsw_h hz)
    · cases hz
  · split at hz
    · split at hz
      · exact hi.to (zsw_h hz)
      · split at hz
        · exact hi.to (zsw_h hz)
        · cases hz
    · cases hz
  · split at hz
    · exact hi.to (zsw_h hz)
    · cases hz
  · split at hz
    · split at hz <;> cases hz <;> exact hi
    · cases hz
  · split at hz
    · split at hz
      · exact hi.to (zpush_h hz)
      · cases hz
    · cases hz
  · split at hz
    · split at hz
      · obtain ⟨h', hv, rfl⟩ := zhset_inv hz
        exact zpf_inv hi hv
      · cases hz
    · cases hz
  · split at hz
    · split at hz <;> cases hz; exact hi
    · cases hz
  · split at hz
    · exact hi.to (zpush_h hz)
    · cases hz
  · split at hz
    · exact hi.to (zpush_h hz)
    · cases hz
  · split at hz
    · exact hi.to (zpush_h hz)
    · cases hz
  · split at hz
    · exact hi.to (zpush_h hz)
    · cases hz
  · split at hz
    · split at hz
      · rename_i hr
        split at hz
        case isFalse => cases hz
        case isTrue hq => cases hz; exact hi.up hr (zin_lt hq)
      · cases hz
    · cases hz
  · split at hz
    · split at hz
      · rename_i hr
        split at hz
        case isFalse => cases hz
        case isTrue hq => cases hz; exact hi.up hr (zin_lt hq)
      · cases hz
    · cases hz
  · split at hz
    · split at hz
      case h_2 => cases hz
      case h_1 cn n refs ci vr hr hv =>
      split at hz <;> cases hz
      exact hi.set hr rfl
    · cases hz
  · split at hz
    · split at hz
      · rename_i hn; cases hz; exact hi.new hn
      · cases hz
    · cases hz
  · split at hz
    · split at hz
      · split at hz
        · rename_i hn; cases hz; exact hi.new hn
        · cases hz
      · cases hz
    · cases hz
  · split at hz
    · split at hz
      · split at hz
        · split at hz
          · rename_i hn; cases hz; exact hi.new hn
          · cases hz
        · cases hz
      · cases hz
    · cases hz
  · exact zlibk_inv hi hz
  · exact zlibk_inv hi hz
  · exact hi.to (znumk_h hz)
theorem zrun_inv : ∀ {n k pc : Nat} {lst st : List Value} {h : zH} {o : Option Value × zH}, zinv h → zrun n k pc lst st h = some o → zinv o.2 := by
  intro n
  induction n with
  | zero => intro k pc lst st h o _ hz; cases hz
  | succ n ih =>
    intro k pc lst st h o hi hz
    unfold zrun at hz
    split at hz
    case h_1 => cases hz
    case h_2 M hM =>
    split at hz
    case h_1 => cases hz
    case h_2 i len hc =>
    split at hz
    case h_1 kd tg hcall =>
      split at hz
      case h_1 => cases hz
      case h_2 T hT =>
      split at hz
      case isFalse => cases hz
      split at hz
      case h_1 => cases hz
      case h_2 v h' hr =>
      split at hz
      case isFalse => cases hz
      exact ih (ih hi hr) hz
    case h_2 =>
      split at hz
      case h_1 => cases hz; exact hi
      case h_2 =>
      split at hz
      case h_1 => cases hz
      case h_2 pc' lst' st' h' hs =>
      exact ih (zst_inv hi hs) hz
theorem zden_inv {k : Nat} {v : Option Value} {h' : zH} (hi : zinv h) (hz : zden k pc lst st h = some (v, h')) : zinv h' := by
  obtain ⟨n, hn⟩ := zden_iff.mp hz
  exact zrun_inv hi hn
end ZI
