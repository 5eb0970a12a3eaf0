-- 17x: a run that makes nothing new goes the same way when more cells lie behind
theorem zx_at {sh E : List zS} {r : Nat} {s : zS} (h : sh[r]? = some s) : (sh ++ E)[r]? = some s := by
  rw [List.getElem?_append_left (zlt_of h)]; exact h
theorem zx_set {sh E : List zS} {r : Nat} {s t : zS} (h : sh[r]? = some s) : (sh ++ E).set r t = sh.set r t ++ E := by
  rw [List.set_append_left _ _ (zlt_of h)]
section ZX2
variable {M : zMt} {pc len : Nat} {lst st : List Value} {sh E : List zS} {G : Nat → Nat → Int32} {h h2 : zH} {o : zC}
theorem zgf_x {r ci k : Nat} {v : Value} (hz : zgf (sh, G) r ci k = some v) : zgf (sh ++ E, G) r ci k = some v := by
  unfold zgf at hz ⊢
  split at hz
  · exact hz
  · simp only at hz ⊢
    cases hr : sh[r]? with
    | none => rw [hr] at hz; cases hz
    | some s => rw [hr] at hz; rw [zx_at hr]; exact hz
theorem zpf_x {r ci k : Nat} {v : Value} {h' : zH} (hz : zpf M (sh, G) r ci k v = some h') : zpf M (sh ++ E, G) r ci k v = some (h'.1 ++ E, h'.2) := by
  unfold zpf at hz
  split at hz
  case h_2 => cases hz
  case h_1 c refs hr =>
  have hr' : sh[r]? = some (.inl (c, refs)) := hr
  split at hz
  case isFalse => cases hz
  case isTrue hc =>
  split at hz
  · rename_i x
    split at hz
    case isFalse => cases hz
    case isTrue hd =>
    cases hz
    unfold zpf
    simp only [zx_at hr']
    rw [if_pos hc, if_pos hd]
  · rename_i q
    split at hz
    case isFalse => cases hz
    case isTrue hd =>
    cases hz
    unfold zpf
    simp only [zx_at hr']
    rw [if_pos hc, if_pos hd, zx_set hr']
  · cases hz
theorem zal_x {r : Nat} {x : Int32} (hz : zal M (sh, G) r = some x) : zal M (sh ++ E, G) r = some x := by
  unfold zal at hz ⊢
  split at hz
  · rename_i hr
    rw [if_pos hr]; exact hz
  · rename_i hr
    rw [if_neg hr]
    split at hz
    · rename_i h1; rw [if_pos h1]; exact hz
    · rename_i h1
      rw [if_neg h1]
      simp only at hz ⊢
      cases hs : sh[r]? with
      | none => rw [hs] at hz; cases hz
      | some s => rw [hs] at hz; rw [zx_at hs]; exact hz
theorem zia_x {r : Nat} {i : Int32} {v : Value} (hz : zia M (sh, G) r i = some v) : zia M (sh ++ E, G) r i = some v := by
  unfold zia at hz ⊢
  split at hz
  · rename_i hr
    rw [if_pos hr]; exact hz
  · rename_i hr
    rw [if_neg hr]
    simp only at hz ⊢
    cases hs : sh[r]? with
    | none => rw [hs] at hz; cases hz
    | some s => rw [hs] at hz; rw [zx_at hs]; exact hz
theorem zca_x {r : Nat} {i : Int32} {v : Value} (hz : zca (sh, G) r i = some v) : zca (sh ++ E, G) r i = some v := by
  unfold zca at hz ⊢
  simp only at hz ⊢
  cases hs : sh[r]? with
  | none => rw [hs] at hz; cases hz
  | some s => rw [hs] at hz; rw [zx_at hs]; exact hz
theorem zaa_x {r : Nat} {i : Int32} {v : Value} (hz : zaa (sh, G) r i = some v) : zaa (sh ++ E, G) r i = some v := by
  unfold zaa at hz ⊢
  simp only at hz ⊢
  cases hs : sh[r]? with
  | none => rw [hs] at hz; cases hz
  | some s => rw [hs] at hz; rw [zx_at hs]; exact hz
theorem zcpy_x {a0 a1 : Nat} {sp dp n : Int32} {h' : zH} (hz : zcpy M (sh, G) a0 sp a1 dp n = some h') : zcpy M (sh ++ E, G) a0 sp a1 dp n = some (h'.1 ++ E, h'.2) := by
  unfold zcpy at hz
  split at hz
  case h_2 => cases hz
  case h_1 n0 r0 n1 r1 e0 e1 =>
  have e0' : sh[a0]? = some (.inr (.int, n0, r0)) := e0
  have e1' : sh[a1]? = some (.inr (.int, n1, r1)) := e1
  split at hz
  case isFalse => cases hz
  case isTrue hc =>
  cases hz
  unfold zcpy
  simp only [zx_at e0', zx_at e1']
  rw [if_pos hc]
theorem zeqr_x {a b : Nat} (hz : zeqr (sh, G) a b = true) : zeqr (sh ++ E, G) a b = true := by
  unfold zeqr at hz ⊢
  split at hz
  · rename_i e1 e2
    have e1' : sh[a]? = some _ := e1
    have e2' : sh[b]? = some _ := e2
    simp only [zx_at (E := E) e1', zx_at (E := E) e2']
    exact hz
  · cases hz
theorem zlibk_x {idx : Nat} (hz : zlibk M pc lst st (sh, G) idx = some o) : zlibk M pc lst st (sh ++ E, G) idx = some (zwith o (o.2.2.2.1 ++ E, o.2.2.2.2)) := by
  unfold zlibk at hz
  split at hz
  case h_2 => cases hz
  case h_1 q hq =>
  unfold zlib at hz
  split at hz
  case isFalse => cases hz
  case isTrue hd =>
  have key : zlibk M pc lst st (sh ++ E, G) idx = zlib M pc lst st (sh ++ E, G) q.1 := by unfold zlibk; rw [hq]
  rw [key]
  unfold zlib
  rw [if_pos hd]
  split at hz
  · split at hz <;> cases hz
    rename_i hr
    simp only [if_pos hr]; rfl
  · split at hz <;> cases hz
    rename_i hr
    simp only [if_pos hr]; rfl
  · split at hz
    case isFalse => cases hz
    case isTrue hr =>
    obtain ⟨h', hh, rfl⟩ := zhset_inv hz
    simp only [if_pos hr]
    rw [zcpy_x hh]; rfl
  · split at hz <;> cases hz
    rename_i hr
    simp only [if_pos hr]; rfl
  · split at hz <;> cases hz
    rename_i hr
    simp only [if_pos (show zwd _ ≤ 8 ∧ 6 ≤ M.2.2.2.2.2.1 ∧ zeqr (sh ++ E, G) _ _ = true from ⟨hr.1, hr.2.1, zeqr_x hr.2.2⟩)]; rfl
  · cases hz
theorem zst_x {i : Instr} (hz : zst M i len pc lst st (sh, G) = some o) (hl : o.2.2.2.1.length = sh.length) : zst M i len pc lst st (sh ++ E, G) = some (zwith o (o.2.2.2.1 ++ E, o.2.2.2.2)) := by
  have pass : ∀ {x : Option zC}, o.2.2.2 = (sh, G) → x = some (zwith o (sh ++ E, G)) → x = some (zwith o (o.2.2.2.1 ++ E, o.2.2.2.2)) := by
    intro x e hx
    rw [e]
    exact hx
  have nonew : ∀ {s : zS} {h' : zH} {l1 l2 : List Value}, znw (sh, G) l1 l2 s = some h' → h'.1.length = sh.length → False := by
    intro s h' l1 l2 hn he
    rw [znw_len hn] at he
    simp at he
  unfold zst at hz
  split at hz
  · cases hz; exact pass rfl rfl
  · cases hz; exact pass rfl rfl
  · split at hz
    · rename_i hj; cases hz; exact pass rfl (by unfold zst; simp only [hj]; rfl)
    · rename_i hj
      split at hz
      · rename_i hq; cases hz; exact pass rfl (by unfold zst; simp only [hj, hq]; rfl)
      · cases hz
  · exact pass (zldi_h hz) (zldi_w hz)
  · exact pass (zldi_h hz) (zldi_w hz)
  · exact pass (zldd_h hz) (zldd_w hz)
  · exact pass (zldd_h hz) (zldd_w hz)
  · exact pass (zlda_h hz) (zlda_w hz)
  · exact pass (zlda_h hz) (zlda_w hz)
  · exact pass (zsti_h hz) (zsti_w hz)
  · exact pass (zsti_h hz) (zsti_w hz)
  · exact pass (zsta_h hz) (zsta_w hz)
  · exact pass (zsta_h hz) (zsta_w hz)
  · exact pass (zstd_h hz) (zstd_w hz)
  · exact pass (zstd_h hz) (zstd_w hz)
  · split at hz
    · rename_i hx; exact pass (zsto_h hz) (by unfold zst; simp only [hx]; exact zsto_w hz)
    · cases hz
  · exact pass (zsw_h hz) (zsw_w hz)
  · split at hz
    · exact pass (zicmp_h hz) (zicmp_w hz)
    · cases hz
  · split at hz
    · exact pass (zicmp_h hz) (zicmp_w hz)
    · cases hz
  · split at hz
    · cases hz; exact pass rfl rfl
    · exact pass (zsw_h hz) (zsw_w hz)
    · cases hz
  · split at hz
    · split at hz
      · rename_i hx; exact pass (zsw_h hz) (by unfold zst; simp only [if_pos hx]; exact zsw_w hz)
      · rename_i hx
        split at hz
        · rename_i ho; exact pass (zsw_h hz) (by unfold zst; simp only [if_neg hx, ho]; exact zsw_w hz)
        · cases hz
    · cases hz
  · split at hz
    · exact pass (zsw_h hz) (zsw_w hz)
    · cases hz
  · split at hz
    · rename_i hq
      split at hz
      · rename_i h0; cases hz; exact pass rfl (by unfold zst; simp only [hq, if_pos h0]; rfl)
      · rename_i h0; cases hz; exact pass rfl (by unfold zst; simp only [hq, if_neg h0]; rfl)
    · cases hz
  · split at hz
    · split at hz
      · rename_i hq
        obtain ⟨v, hv, rfl⟩ := zpush_inv hz
        exact pass rfl (by unfold zst; simp only [hq]; rw [zgf_x hv]; rfl)
      · cases hz
    · cases hz
  · split at hz
    · split at hz
      · rename_i hq
        obtain ⟨h', hv, rfl⟩ := zhset_inv hz
        unfold zst; simp only [hq]; rw [zpf_x hv]; rfl
      · cases hz
    · cases hz
  · split at hz
    · split at hz
      · rename_i hv; cases hz; exact pass rfl (by unfold zst; simp only [zal_x (E := E) hv]; rfl)
      · cases hz
    · cases hz
  · split at hz
    · obtain ⟨v, hv, rfl⟩ := zpush_inv hz
      exact pass rfl (by unfold zst; simp only [zia_x (E := E) hv]; rfl)
    · cases hz
  · split at hz
    · obtain ⟨v, hv, rfl⟩ := zpush_inv hz
      exact pass rfl (by unfold zst; simp only [zca_x (E := E) hv]; rfl)
    · cases hz
  · split at hz
    · exact pass (zpush_h hz) (zpush_w hz)
    · cases hz
  · split at hz
    · obtain ⟨v, hv, rfl⟩ := zpush_inv hz
      exact pass rfl (by unfold zst; simp only [zaa_x (E := E) hv]; rfl)
    · cases hz
  · split at hz
    · split at hz
      · rename_i hr
        split at hz
        · rename_i hi
          cases hz
          have hr' : sh[_]? = some _ := hr
          unfold zst; simp only [zx_at (E := E) hr', if_pos hi]; rfl
        · cases hz
      · cases hz
    · cases hz
  · split at hz
    · split at hz
      · rename_i hr
        split at hz
        · rename_i hi
          cases hz
          have hr' : sh[_]? = some _ := hr
          unfold zst; simp only [zx_at (E := E) hr', if_pos hi]; rfl
        · cases hz
      · cases hz
    · cases hz
  · split at hz
    · split at hz
      case h_2 => cases hz
      case h_1 cn n refs ci vr hr hv =>
      split at hz
      · rename_i hi
        cases hz
        have hr' : sh[_]? = some _ := hr
        have hv' : sh[_]? = some _ := hv
        unfold zst; simp only [zx_at (E := E) hr', zx_at (E := E) hv', if_pos hi, zx_set hr']; rfl
      · cases hz
    · cases hz
  · split at hz
    · split at hz
      · rename_i hn
        cases hz
        exact absurd hl (fun q => nonew hn q)
      · cases hz
    · cases hz
  · split at hz
    · split at hz
      · split at hz
        · rename_i hn
          cases hz
          exact absurd hl (fun q => nonew hn q)
        · cases hz
      · cases hz
    · cases hz
  · split at hz
    · split at hz
      · split at hz
        · split at hz
          · rename_i hn
            cases hz
            exact absurd hl (fun q => nonew hn q)
          · cases hz
        · cases hz
      · cases hz
    · cases hz
  · exact zlibk_x hz
  · exact zlibk_x hz
  · exact pass (znumk_h hz) (by
      have e : zst M i len pc lst st (sh ++ E, G) = znumk i pc lst st (sh ++ E, G) := by
        unfold zst
        split <;> first | rfl | (exfalso; simp_all; done) | (exfalso; simp [znumk, znum] at hz; done)
      rw [e]; exact znumk_w hz)
theorem zrcv_x {ci : Nat} {as : List Value} (hz : zrcv (sh, G) ci as = true) : zrcv (sh ++ E, G) ci as = true := by
  unfold zrcv at hz ⊢
  split at hz
  · split at hz
    · rename_i h10; simp only [if_pos h10]; exact hz
    · rename_i b _ h10
      simp only [if_neg h10] at hz ⊢
      cases hb : sh[b]? with
      | none => rw [hb] at hz; cases hz
      | some s => rw [hb] at hz; rw [zx_at hb]; exact hz
  · cases hz
theorem zmay_x {T : zMt} {kd : Nat} {as rest : List Value} (hz : zmay M T kd as rest (sh, G) = true) : zmay M T kd as rest (sh ++ E, G) = true := by
  unfold zmay at hz ⊢
  simp only [Bool.and_eq_true] at hz ⊢
  refine ⟨hz.1, ?_⟩
  have h6 := hz.2
  split at h6
  · exact zrcv_x h6
  · exact h6
  · exact h6
theorem zgrd_len {h h' : zH} {lst rest : List Value} (hl : h.1.length = h'.1.length) : zgrd h h' lst rest = true := by
  unfold zgrd
  rw [hl, Bool.or_eq_true]
  have : ∀ (v : Value), zfr h'.1.length h'.1.length v = true := by
    intro v
    cases v with
    | ref r =>
      unfold zfr
      simp only [Bool.or_eq_true, Nat.blt_eq, Nat.ble_eq]
      exact Nat.lt_or_ge r _
    | _ => rfl
  refine Or.inr ?_
  rw [Bool.and_eq_true]
  exact ⟨List.all_eq_true.mpr (fun v _ => this v), List.all_eq_true.mpr (fun v _ => this v)⟩
theorem zrun_x : ∀ {n k pc : Nat} {lst st : List Value} {sh sh' : List zS} {G G' : Nat → Nat → Int32} {v : Option Value}, zrun n k pc lst st (sh, G) = some (v, (sh', G')) → sh'.length = sh.length → zrun n k pc lst st (sh ++ E, G) = some (v, (sh' ++ E, G')) := by
  intro n
  induction n with
  | zero => intro k pc lst st sh sh' G G' v hz; cases hz
  | succ n ih =>
    intro k pc lst st sh sh' G G' v hz hl
    unfold zrun at hz
    rw [zrun]
    cases hM : zms[k]? with
    | none => rw [hM] at hz; cases hz
    | some M =>
    rw [hM] at hz
    simp only at hz ⊢
    cases hc : zlk M.2.2.2.2.2.2.2 pc with
    | none => rw [hc] at hz; cases hz
    | some q =>
    obtain ⟨i, len⟩ := q
    rw [hc] at hz
    simp only at hz ⊢
    cases hk : zcall M i with
    | some q =>
      obtain ⟨kd, tg⟩ := q
      rw [hk] at hz
      simp only at hz ⊢
      cases hT : zms[tg]? with
      | none => rw [hT] at hz; cases hz
      | some T =>
      rw [hT] at hz
      simp only at hz ⊢
      split at hz
      case isFalse => cases hz
      case isTrue hm =>
      rw [if_pos (zmay_x hm)]
      cases hr : zrun n tg 0 (zpad T.2.2.2.1 (st.take T.2.2.2.2.2.2.1).reverse) [] (sh, G) with
      | none => rw [hr] at hz; cases hz
      | some w =>
      obtain ⟨v1, sh1, G1⟩ := w
      rw [hr] at hz
      have l1 := (zrun_le hr).1
      simp only at l1 hz
      split at hz
      case isFalse => cases hz
      case isTrue hg =>
      have l2 := (zrun_le hz).1
      simp only at l2
      have e1 : sh1.length = sh.length := by omega
      rw [ih hr e1]
      simp only
      rw [if_pos (zgrd_len (by simp only [List.length_append]; omega))]
      exact ih hz (by omega)
    | none =>
      rw [hk] at hz
      simp only at hz ⊢
      cases hr : zret i M.2.2.2.2.1 st with
      | some v =>
        rw [hr] at hz
        cases hz
        rfl
      | none =>
        rw [hr] at hz
        simp only at hz ⊢
        cases hs : zst M i len pc lst st (sh, G) with
        | none => rw [hs] at hz; cases hz
        | some o1 =>
          obtain ⟨pc1, lst1, st1, sh1, G1⟩ := o1
          rw [hs] at hz
          have l1 := (zst_le hs).1
          simp only at l1 hz
          have l2 := (zrun_le hz).1
          simp only at l2
          have e1 : sh1.length = sh.length := by omega
          rw [zst_x hs e1]
          have r := ih hz (show sh'.length = sh1.length by omega)
          exact r
/-- the same run over more cells -/
theorem zden_x {k pc : Nat} {lst st : List Value} {sh : List zS} {G G' : Nat → Nat → Int32} {v : Option Value} (E : List zS) (hz : zden k pc lst st (sh, G) = some (v, (sh, G'))) : zden k pc lst st (sh ++ E, G) = some (v, (sh ++ E, G')) := by
  obtain ⟨n, hn⟩ := zden_iff.mp hz
  exact zden_iff.mpr ⟨n, zrun_x hn rfl⟩
end ZX2
