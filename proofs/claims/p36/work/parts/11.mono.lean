-- 11: cells only come
section ZMo
variable {M : zMt} {h : zH} {lst st : List Value} {pc len : Nat}
def zle (h h' : zH) : Prop := h.1.length ≤ h'.1.length ∧ zsl h.1 ≤ zsl h'.1 ∧ (h.1.length ≤ 900000 → h'.1.length ≤ 900000 ∧ ∀ r, 1000000 ≤ r → h'.2 r = h.2 r)
theorem zle.rf {h : zH} : zle h h := ⟨Nat.le_refl _, Nat.le_refl _, fun q => ⟨q, fun _ _ => rfl⟩⟩
theorem zle.tr {a b c : zH} (x : zle a b) (y : zle b c) : zle a c := ⟨Nat.le_trans x.1 y.1, Nat.le_trans x.2.1 y.2.1, fun q => ⟨(y.2.2 (x.2.2 q).1).1, fun r hr => ((y.2.2 (x.2.2 q).1).2 r hr).trans ((x.2.2 q).2 r hr)⟩⟩
theorem zle.to {h : zH} {o : zC} (e : o.2.2.2 = h) : zle h o.2.2.2 := by rw [e]; exact zle.rf
theorem zsto_h {n : Nat} {v : Value} {o : zC} (hz : zsto pc len lst st h n v = some o) : o.2.2.2 = h := by
  unfold zsto at hz; split at hz <;> cases hz; rfl
theorem zstoD_h {n : Nat} {v : Value} {o : zC} (hz : zstoD pc len lst st h n v = some o) : o.2.2.2 = h := by
  unfold zstoD at hz; split at hz <;> cases hz; rfl
theorem zldi_h {n : Nat} {o : zC} (hz : zldi pc len lst st h n = some o) : o.2.2.2 = h := by
  unfold zldi at hz; split at hz <;> cases hz; rfl
theorem zldd_h {n : Nat} {o : zC} (hz : zldd pc len lst st h n = some o) : o.2.2.2 = h := by
  unfold zldd at hz; split at hz <;> cases hz; rfl
theorem zlda_h {n : Nat} {o : zC} (hz : zlda pc len lst st h n = some o) : o.2.2.2 = h := by
  unfold zlda at hz; split at hz <;> cases hz <;> rfl
theorem zsti_h {n : Nat} {o : zC} (hz : zsti pc len lst st h n = some o) : o.2.2.2 = h := by
  obtain ⟨x, r, rfl, hz⟩ := zsti_inv hz; exact zsto_h hz
theorem zstd_h {n : Nat} {o : zC} (hz : zstd pc len lst st h n = some o) : o.2.2.2 = h := by
  obtain ⟨x, r, rfl, hz⟩ := zstd_inv hz; exact zstoD_h hz
theorem zsta_h {n : Nat} {o : zC} (hz : zsta pc len lst st h n = some o) : o.2.2.2 = h := by
  rcases zsta_inv hz with ⟨x, r, rfl, hz⟩ | ⟨r, rfl, hz⟩ <;> exact zsto_h hz
theorem zsw_h {off : Int} {o : zC} (hz : zsw pc lst st h off = some o) : o.2.2.2 = h := by
  obtain ⟨t, -, rfl⟩ := zsw_inv hz; rfl
theorem zicmp_h {cd : Jvm.ClassFile.Cond} {off : Int} {x y : Int32} {o : zC} (hz : zicmp cd pc lst st h off x y = some o) : o.2.2.2 = h := by
  cases cd <;> exact (zif_sim hz).2.2.1
theorem zpush_h {x : Option Value} {o : zC} (hz : zpush pc lst st h x = some o) : o.2.2.2 = h := by
  obtain ⟨v, -, rfl⟩ := zpush_inv hz; rfl
theorem znumk_h {i : Instr} {o : zC} (hz : znumk i pc lst st h = some o) : o.2.2.2 = h := by
  unfold znumk at hz; split at hz <;> cases hz; rfl
theorem zset_le {r : Nat} {a b : zS} (hr : h.1[r]? = some a) (hs : zsl1 a = zsl1 b) : zle h (h.1.set r b, h.2) :=
  ⟨Nat.le_of_eq (List.length_set ..).symm, Nat.le_of_eq (zsl_set hr hs).symm, fun q => ⟨by show (h.1.set r b).length ≤ _; rw [List.length_set]; exact q, fun _ _ => rfl⟩⟩
theorem zup_le {r k : Nat} {x : Int32} {a : zS} (hr : h.1[r]? = some a) : zle h (h.1, zup h.2 r k x) :=
  ⟨Nat.le_refl _, Nat.le_refl _, fun q => ⟨q, fun i hi => zup_other (by have := (List.getElem?_eq_some_iff.mp hr).1; omega)⟩⟩
theorem zrow_le {r : Nat} {f : Nat → Int32} {a : zS} (hr : h.1[r]? = some a) : zle h (h.1, zrow h.2 r f) :=
  ⟨Nat.le_refl _, Nat.le_refl _, fun q => ⟨q, fun i hi => zrow_other (by have := (List.getElem?_eq_some_iff.mp hr).1; omega)⟩⟩
theorem zpf_le {r ci k : Nat} {v : Value} {h' : zH} (hv : zpf M h r ci k v = some h') : zle h h' := by
  unfold zpf at hv
  split at hv
  case h_2 => cases hv
  case h_1 c refs hr =>
  split at hv
  case isFalse => cases hv
  split at hv
  · split at hv <;> cases hv; exact zup_le hr
  · split at hv <;> cases hv; exact zset_le hr rfl
  · cases hv
theorem zlibk_le {idx : Nat} {o : zC} (hz : zlibk M pc lst st h idx = some o) : zle h o.2.2.2 := by
  unfold zlibk at hz
  split at hz
  case h_2 => cases hz
  unfold zlib at hz
  split at hz
  case isFalse => cases hz
  split at hz
  · split at hz <;> cases hz; exact zle.rf
  · split at hz <;> cases hz; exact zle.rf
  · split at hz
    case isFalse => cases hz
    obtain ⟨h', hh, rfl⟩ := zhset_inv hz
    unfold zcpy at hh
    split at hh
    case h_2 => cases hh
    case h_1 n0 r0 n1 r1 ha0 ha1 =>
    split at hh <;> cases hh; exact zrow_le ha1
  · split at hz <;> cases hz; exact zle.rf
  · split at hz <;> cases hz; exact zle.rf
  · cases hz
theorem znw_le {s : zS} {h' : zH} (hz : znw h lst st s = some h') : zle h h' := by
  have hlt : h.1.length < 900000 := by
    unfold znw at hz
    split at hz
    · rename_i hc; exact hc.1
    · cases hz
  rw [znw_len hz]
  exact ⟨by simp, by rw [zsl_app]; omega, fun _ => ⟨by simp; omega, fun i hi => zrow_other (by omega)⟩⟩
theorem zst_le {i : Instr} {o : zC} (hz : zst M i len pc lst st h = some o) : zle h o.2.2.2 := by
  unfold zst at hz
  split at hz
  · cases hz; exact zle.rf
  · cases hz; exact zle.rf
  · split at hz
    · cases hz; exact zle.rf
    · split at hz <;> cases hz; exact zle.rf
  · exact zle.to (zldi_h hz)
  · exact zle.to (zldi_h hz)
  · exact zle.to (zldd_h hz)
  · exact zle.to (zldd_h hz)
  · exact zle.to (zlda_h hz)
  · exact zle.to (zlda_h hz)
  · exact zle.to (zsti_h hz)
  · exact zle.to (zsti_h hz)
  · exact zle.to (zsta_h hz)
  · exact zle.to (zsta_h hz)
  · exact zle.to (zstd_h hz)
  · exact zle.to (zstd_h hz)
  · split at hz
    · exact zle.to (zsto_h hz)
    · cases hz
  · exact zle.to (zsw_h hz)
  · split at hz
    · exact zle.to (zicmp_h hz)
    · cases hz
  · split at hz
    · exact zle.to (zicmp_h hz)
    · cases hz
  · split at hz
    · cases hz; exact zle.rf
    · exact zle.to (zsw_h hz)
    · cases hz
  · split at hz
    · split at hz
      · exact zle.to (zsw_h hz)
      · split at hz
        · exact zle.to (zsw_h hz)
        · cases hz
    · cases hz
  · split at hz
    · exact zle.to (zsw_h hz)
    · cases hz
  · split at hz
    · split at hz <;> cases hz <;> exact zle.rf
    · cases hz
  · split at hz
    · split at hz
      · exact zle.to (zpush_h hz)
      · cases hz
    · cases hz
  · split at hz
    · split at hz
      · obtain ⟨h', hv, rfl⟩ := zhset_inv hz
        exact zpf_le hv
      · cases hz
    · cases hz
  · split at hz
    · split at hz <;> cases hz; exact zle.rf
    · cases hz
  · split at hz
    · exact zle.to (zpush_h hz)
    · cases hz
  · split at hz
    · exact zle.to (zpush_h hz)
    · cases hz
  · split at hz
    · exact zle.to (zpush_h hz)
    · cases hz
  · split at hz
    · exact zle.to (zpush_h hz)
    · cases hz
  · split at hz
    · split at hz
      · rename_i hr
        split at hz <;> cases hz; exact zup_le hr
      · cases hz
    · cases hz
  · split at hz
    · split at hz
      · rename_i hr
        split at hz <;> cases hz; exact zup_le hr
      · cases hz
    · cases hz
  · split at hz
    · split at hz
      case h_2 => cases hz
      case h_1 cn n refs ci vr hr hv =>
      split at hz <;> cases hz
      exact zset_le hr rfl
    · cases hz
  · split at hz
    · split at hz
      · rename_i hn; cases hz; exact znw_le hn
      · cases hz
    · cases hz
  · split at hz
    · split at hz
      · split at hz
        · rename_i hn; cases hz; exact znw_le hn
        · cases hz
      · cases hz
    · cases hz
  · split at hz
    · split at hz
      · split at hz
        · split at hz
          · rename_i hn; cases hz; exact znw_le hn
          · cases hz
        · cases hz
      · cases hz
    · cases hz
  · exact zlibk_le hz
  · exact zlibk_le hz
  · exact zle.to (znumk_h hz)
theorem zrun_le : ∀ {n k pc : Nat} {lst st : List Value} {h : zH} {o : Option Value × zH}, zrun n k pc lst st h = some o → zle h o.2 := by
  intro n
  induction n with
  | zero => intro k pc lst st h o hz; cases hz
  | succ n ih =>
    intro k pc lst st h o hz
    unfold zrun at hz
    split at hz
    case h_1 => cases hz
    case h_2 M hM =>
    split at hz
    case h_1 => cases hz
    case h_2 i len hc =>
    split at hz
    case h_1 kd tg hcall =>
      split at hz
      case h_1 => cases hz
      case h_2 T hT =>
      split at hz
      case isFalse => cases hz
      split at hz
      case h_1 => cases hz
      case h_2 v h' hr =>
      split at hz
      case isFalse => cases hz
      exact (ih hr).tr (ih hz)
    case h_2 =>
      split at hz
      case h_1 => cases hz; exact zle.rf
      case h_2 =>
      split at hz
      case h_1 => cases hz
      case h_2 pc' lst' st' h' hs =>
      exact (zst_le hs).tr (ih hz)
end ZMo
