-- 17: what reads only its own cells runs alike over any other numbers behind them
def zag (sh : List zS) (G G0 : Nat → Nat → Int32) : Prop := ∀ r, r < sh.length → G r = G0 r
section ZG
variable {M : zMt} {pc len : Nat} {lst st : List Value} {sh sh' : List zS} {G G0 G0' : Nat → Nat → Int32} {pc' : Nat} {lst' st' : List Value} {h h2 : zH} {o : zC}
def zwith (o : zC) (h : zH) : zC := (o.1, o.2.1, o.2.2.1, h)
theorem zsto_w {n : Nat} {v : Value} (hz : zsto pc len lst st h n v = some o) : zsto pc len lst st h2 n v = some (zwith o h2) := by
  unfold zsto at hz ⊢; split at hz <;> cases hz; rename_i hc; rw [if_pos hc]; rfl
theorem zstoD_w {n : Nat} {v : Value} (hz : zstoD pc len lst st h n v = some o) : zstoD pc len lst st h2 n v = some (zwith o h2) := by
  unfold zstoD at hz ⊢; split at hz <;> cases hz; rename_i hc; rw [if_pos hc]; rfl
theorem zldi_w {n : Nat} (hz : zldi pc len lst st h n = some o) : zldi pc len lst st h2 n = some (zwith o h2) := by
  unfold zldi at hz ⊢; split at hz <;> cases hz; first | rfl | (rename_i hc; rw [hc]; rfl)
theorem zldd_w {n : Nat} (hz : zldd pc len lst st h n = some o) : zldd pc len lst st h2 n = some (zwith o h2) := by
  unfold zldd at hz ⊢; split at hz <;> cases hz; first | rfl | (rename_i hc; rw [hc]; rfl)
theorem zlda_w {n : Nat} (hz : zlda pc len lst st h n = some o) : zlda pc len lst st h2 n = some (zwith o h2) := by
  unfold zlda at hz ⊢; split at hz <;> cases hz <;> first | rfl | (rename_i hc; rw [hc]; rfl)
theorem zsti_w {n : Nat} (hz : zsti pc len lst st h n = some o) : zsti pc len lst st h2 n = some (zwith o h2) := by
  obtain ⟨x, r, rfl, hz⟩ := zsti_inv hz; exact zsto_w hz
theorem zstd_w {n : Nat} (hz : zstd pc len lst st h n = some o) : zstd pc len lst st h2 n = some (zwith o h2) := by
  obtain ⟨x, r, rfl, hz⟩ := zstd_inv hz; exact zstoD_w hz
theorem zsta_w {n : Nat} (hz : zsta pc len lst st h n = some o) : zsta pc len lst st h2 n = some (zwith o h2) := by
  rcases zsta_inv hz with ⟨x, r, rfl, hz⟩ | ⟨r, rfl, hz⟩ <;> exact zsto_w hz
theorem zsw_w {off : Int} (hz : zsw pc lst st h off = some o) : zsw pc lst st h2 off = some (zwith o h2) := by
  unfold zsw at hz ⊢; split at hz <;> cases hz; first | rfl | (rename_i hc; rw [hc]; rfl)
theorem zif_w {off : Int} {b : Prop} [Decidable b] (hz : zif pc lst st h off b = some o) : zif pc lst st h2 off b = some (zwith o h2) := by
  unfold zif at hz ⊢
  split at hz
  · cases hz
  · rename_i hc
    (try rw [hc])
    split at hz <;> cases hz <;> rename_i hb
    · simp only [if_pos hb]; rfl
    · simp only [if_neg hb]; rfl
theorem zicmp_w {cd : Jvm.ClassFile.Cond} {off : Int} {x y : Int32} (hz : zicmp cd pc lst st h off x y = some o) : zicmp cd pc lst st h2 off x y = some (zwith o h2) := by
  cases cd <;> exact zif_w hz
theorem znumk_w {i : Instr} (hz : znumk i pc lst st h = some o) : znumk i pc lst st h2 = some (zwith o h2) := by
  unfold znumk at hz ⊢; split at hz <;> cases hz; first | rfl | (rename_i hc; rw [hc]; rfl)
theorem zpush_w {x : Option Value} (hz : zpush pc lst st h x = some o) : zpush pc lst st h2 x = some (zwith o h2) := by
  obtain ⟨v, rfl, rfl⟩ := zpush_inv hz; rfl
theorem zlt_of {r : Nat} {s : zS} (hr : sh[r]? = some s) : r < sh.length := (List.getElem?_eq_some_iff.mp hr).1
theorem zag_up {r k : Nat} {x : Int32} {s : zS} (ha : zag sh G G0) (hr : sh[r]? = some s) : zag sh (zup G r k x) (zup G0 r k x) := by
  intro a hl
  unfold zup
  by_cases e : a = r
  · rw [if_pos e, if_pos e, ha r (zlt_of hr)]
  · rw [if_neg e, if_neg e, ha a hl]
theorem zgf_g {r ci k : Nat} {v : Value} (ha : zag sh G G0) (hz : zgf (sh, G0) r ci k = some v) : zgf (sh, G) r ci k = some v := by
  unfold zgf at hz ⊢
  split at hz
  · exact hz
  · simp only at hz ⊢
    cases hr : sh[r]? with
    | none => rw [hr] at hz; cases hz
    | some s =>
      rw [hr] at hz
      rw [ha r (zlt_of hr)]
      exact hz
theorem zpf_g {r ci k : Nat} {v : Value} {h' : zH} (ha : zag sh G G0) (hz : zpf M (sh, G0) r ci k v = some h') : ∃ G', zpf M (sh, G) r ci k v = some (h'.1, G') ∧ zag h'.1 G' h'.2 := by
  unfold zpf at hz
  split at hz
  case h_2 => cases hz
  case h_1 c refs hr =>
  have hr' : sh[r]? = some (.inl (c, refs)) := hr
  split at hz
  case isFalse => cases hz
  case isTrue hc =>
  split at hz
  · rename_i x
    split at hz
    case isFalse => cases hz
    case isTrue hd =>
    cases hz
    refine ⟨zup G r k x, ?_, zag_up ha hr'⟩
    unfold zpf
    simp only [hr']
    rw [if_pos hc, if_pos hd]
  · rename_i q
    split at hz
    case isFalse => cases hz
    case isTrue hd =>
    cases hz
    refine ⟨G, ?_, ?_⟩
    · unfold zpf
      simp only [hr']
      rw [if_pos hc, if_pos hd]
    · intro a hl
      exact ha a (by simpa using hl)
  · cases hz
theorem zal_g {r : Nat} {x : Int32} (h8 : M.1 ≤ 8) (hz : zal M (sh, G0) r = some x) : zal M (sh, G) r = some x := by
  unfold zal at hz ⊢
  split at hz
  · rename_i hr
    rw [if_neg (by omega)] at hz
    cases hz
  · rename_i hr
    rw [if_neg hr]
    exact hz
theorem zia_g {r : Nat} {i : Int32} {v : Value} (h8 : M.1 ≤ 8) (ha : zag sh G G0) (hz : zia M (sh, G0) r i = some v) : zia M (sh, G) r i = some v := by
  unfold zia at hz ⊢
  split at hz
  · rename_i hr
    rw [if_neg (by omega)] at hz
    cases hz
  · rename_i hr
    rw [if_neg hr]
    simp only at hz ⊢
    cases hs : sh[r]? with
    | none => rw [hs] at hz; cases hz
    | some s =>
      rw [hs] at hz
      rw [ha r (zlt_of hs)]
      exact hz
theorem zca_g {r : Nat} {i : Int32} {v : Value} (ha : zag sh G G0) (hz : zca (sh, G0) r i = some v) : zca (sh, G) r i = some v := by
  unfold zca at hz ⊢
  simp only at hz ⊢
  cases hs : sh[r]? with
  | none => rw [hs] at hz; cases hz
  | some s =>
    rw [hs] at hz
    rw [ha r (zlt_of hs)]
    exact hz
theorem znw_g {s : zS} {h' : zH} (ha : zag sh G G0) (hz : znw (sh, G0) lst st s = some h') : ∃ G', znw (sh, G) lst st s = some (h'.1, G') ∧ zag h'.1 G' h'.2 := by
  have e := znw_len hz
  unfold znw at hz
  split at hz
  case isFalse => cases hz
  case isTrue hc =>
  subst e
  refine ⟨zrow G sh.length (fun _ => 0), ?_, ?_⟩
  · unfold znw
    rw [if_pos hc]
  · intro a hl
    have hl : a < (sh ++ [s]).length := hl
    show zrow G sh.length (fun _ => 0) a = zrow G0 sh.length (fun _ => 0) a
    unfold zrow
    by_cases e : a = sh.length
    · rw [if_pos e, if_pos e]
    · rw [if_neg e, if_neg e]
      exact ha a (by simp at hl; omega)
theorem zcpy_g {a0 a1 : Nat} {sp dp n : Int32} {h' : zH} (ha : zag sh G G0) (hz : zcpy M (sh, G0) a0 sp a1 dp n = some h') : ∃ G', zcpy M (sh, G) a0 sp a1 dp n = some (h'.1, G') ∧ zag h'.1 G' h'.2 := by
  unfold zcpy at hz
  split at hz
  case h_2 => cases hz
  case h_1 n0 r0 n1 r1 e0 e1 =>
  have e0' : sh[a0]? = some (.inr (.int, n0, r0)) := e0
  have e1' : sh[a1]? = some (.inr (.int, n1, r1)) := e1
  split at hz
  case isFalse => cases hz
  case isTrue hc =>
  cases hz
  refine ⟨zrow G a1 (va_cpy (G a0) (G a1) sp.toNatClampNeg dp.toNatClampNeg n.toNatClampNeg), ?_, ?_⟩
  · unfold zcpy
    simp only [e0', e1']
    rw [if_pos hc]
  · intro a hl
    have hl : a < sh.length := hl
    show zrow G a1 (va_cpy (G a0) (G a1) sp.toNatClampNeg dp.toNatClampNeg n.toNatClampNeg) a = zrow G0 a1 (va_cpy (G0 a0) (G0 a1) sp.toNatClampNeg dp.toNatClampNeg n.toNatClampNeg) a
    unfold zrow
    by_cases e : a = a1
    · rw [if_pos e, if_pos e, ha a0 (zlt_of e0'), ha a1 (zlt_of e1')]
    · rw [if_neg e, if_neg e]; exact ha a hl
theorem zeqr_g {a b : Nat} (ha : zag sh G G0) (hz : zeqr (sh, G0) a b = true) : zeqr (sh, G) a b = true := by
  unfold zeqr at hz ⊢
  split at hz
  · rename_i e1 e2
    have e1' : sh[a]? = some _ := e1
    have e2' : sh[b]? = some _ := e2
    simp only [e1', e2']
    rw [ha a (zlt_of e1'), ha b (zlt_of e2')]
    exact hz
  · cases hz
theorem zlibk_g {idx : Nat} (ha : zag sh G G0) (hz : zlibk M pc lst st (sh, G0) idx = some o) : ∃ G', zlibk M pc lst st (sh, G) idx = some (zwith o (o.2.2.2.1, G')) ∧ zag o.2.2.2.1 G' o.2.2.2.2 := by
  unfold zlibk at hz
  split at hz
  case h_2 => cases hz
  case h_1 q hq =>
  unfold zlib at hz
  split at hz
  case isFalse => cases hz
  case isTrue hd =>
  have key : zlibk M pc lst st (sh, G) idx = zlib M pc lst st (sh, G) q.1 := by unfold zlibk; rw [hq]
  rw [key]
  unfold zlib
  rw [if_pos hd]
  split at hz
  · rename_i hk
    split at hz <;> cases hz
    rename_i hr
    exact ⟨G, by simp only [if_pos hr]; rfl, ha⟩
  · rename_i hk
    split at hz <;> cases hz
    rename_i hr
    exact ⟨G, by simp only [if_pos hr]; rfl, ha⟩
  · rename_i hk
    split at hz
    case isFalse => cases hz
    case isTrue hr =>
    obtain ⟨h', hh, rfl⟩ := zhset_inv hz
    obtain ⟨G', g1, g2⟩ := zcpy_g ha hh
    exact ⟨G', by simp only [if_pos hr]; rw [g1]; rfl, g2⟩
  · rename_i hk
    split at hz <;> cases hz
    rename_i hr
    exact ⟨G, by simp only [if_pos hr]; rfl, ha⟩
  · rename_i hk
    split at hz <;> cases hz
    rename_i hr
    exact ⟨G, by simp only [if_pos (show zwd _ ≤ 8 ∧ 6 ≤ M.2.2.2.2.2.1 ∧ zeqr (sh, G) _ _ = true from ⟨hr.1, hr.2.1, zeqr_g ha hr.2.2⟩)]; rfl, ha⟩
  · cases hz
theorem zst_g {i : Instr} (h8 : M.1 ≤ 8) (hng : ∀ k, i ≠ .getstatic k) (ha : zag sh G G0) (hz : zst M i len pc lst st (sh, G0) = some o) : ∃ G', zst M i len pc lst st (sh, G) = some (zwith o (o.2.2.2.1, G')) ∧ zag o.2.2.2.1 G' o.2.2.2.2 := by
  have pass : ∀ {x : Option zC}, o.2.2.2 = (sh, G0) → x = some (zwith o (sh, G)) → ∃ G', x = some (zwith o (o.2.2.2.1, G')) ∧ zag o.2.2.2.1 G' o.2.2.2.2 := by
    intro x e hx
    rw [e]
    exact ⟨G, hx, ha⟩
  unfold zst at hz
  split at hz
  · cases hz; exact pass rfl rfl
  · cases hz; exact pass rfl rfl
  · split at hz
    · rename_i hj; cases hz; exact pass rfl (by unfold zst; simp only [hj]; rfl)
    · rename_i hj
      split at hz
      · rename_i hq; cases hz; exact pass rfl (by unfold zst; simp only [hj, hq]; rfl)
      · cases hz
  · exact pass (zldi_h hz) (zldi_w hz)
  · exact pass (zldi_h hz) (zldi_w hz)
  · exact pass (zldd_h hz) (zldd_w hz)
  · exact pass (zldd_h hz) (zldd_w hz)
  · exact pass (zlda_h hz) (zlda_w hz)
  · exact pass (zlda_h hz) (zlda_w hz)
  · exact pass (zsti_h hz) (zsti_w hz)
  · exact pass (zsti_h hz) (zsti_w hz)
  · exact pass (zsta_h hz) (zsta_w hz)
  · exact pass (zsta_h hz) (zsta_w hz)
  · exact pass (zstd_h hz) (zstd_w hz)
  · exact pass (zstd_h hz) (zstd_w hz)
  · split at hz
    · rename_i hx; exact pass (zsto_h hz) (by unfold zst; simp only [hx]; exact zsto_w hz)
    · cases hz
  · exact pass (zsw_h hz) (zsw_w hz)
  · split at hz
    · exact pass (zicmp_h hz) (zicmp_w hz)
    · cases hz
  · split at hz
    · exact pass (zicmp_h hz) (zicmp_w hz)
    · cases hz
  · split at hz
    · cases hz; exact pass rfl rfl
    · exact pass (zsw_h hz) (zsw_w hz)
    · cases hz
  · split at hz
    · split at hz
      · rename_i hx; exact pass (zsw_h hz) (by unfold zst; simp only [if_pos hx]; exact zsw_w hz)
      · rename_i hx
        split at hz
        · rename_i ho; exact pass (zsw_h hz) (by unfold zst; simp only [if_neg hx, ho]; exact zsw_w hz)
        · cases hz
    · cases hz
  · split at hz
    · exact pass (zsw_h hz) (zsw_w hz)
    · cases hz
  · exact absurd rfl (hng _)
  · split at hz
    · split at hz
      · rename_i hq
        obtain ⟨v, hv, rfl⟩ := zpush_inv hz
        exact pass rfl (by unfold zst; simp only [hq]; rw [zgf_g ha hv]; rfl)
      · cases hz
    · cases hz
  · split at hz
    · split at hz
      · rename_i hq
        obtain ⟨h', hv, rfl⟩ := zhset_inv hz
        obtain ⟨G', g1, g2⟩ := zpf_g ha hv
        exact ⟨G', by unfold zst; simp only [hq]; rw [g1]; rfl, g2⟩
      · cases hz
    · cases hz
  · split at hz
    · split at hz
      · rename_i hv; cases hz; exact pass rfl (by unfold zst; simp only [zal_g (G := G) h8 hv]; rfl)
      · cases hz
    · cases hz
  · split at hz
    · obtain ⟨v, hv, rfl⟩ := zpush_inv hz
      exact pass rfl (by unfold zst; simp only [zia_g h8 ha hv]; rfl)
    · cases hz
  · split at hz
    · obtain ⟨v, hv, rfl⟩ := zpush_inv hz
      exact pass rfl (by unfold zst; simp only [zca_g ha hv]; rfl)
    · cases hz
  · split at hz
    · exact pass (zpush_h hz) (zpush_w hz)
    · cases hz
  · split at hz
    · obtain ⟨v, hv, rfl⟩ := zpush_inv hz
      exact pass rfl (by unfold zst; simp only [show zaa (sh, G) _ _ = some v from hv]; rfl)
    · cases hz
  · split at hz
    · split at hz
      · rename_i hr
        split at hz
        · rename_i hi
          cases hz
          have hr' : sh[_]? = some _ := hr
          exact ⟨_, by unfold zst; simp only [hr', if_pos hi]; rfl, zag_up ha hr'⟩
        · cases hz
      · cases hz
    · cases hz
  · split at hz
    · split at hz
      · rename_i hr
        split at hz
        · rename_i hi
          cases hz
          have hr' : sh[_]? = some _ := hr
          exact ⟨_, by unfold zst; simp only [hr', if_pos hi]; rfl, zag_up ha hr'⟩
        · cases hz
      · cases hz
    · cases hz
  · split at hz
    · split at hz
      case h_2 => cases hz
      case h_1 cn n refs ci vr hr hv =>
      split at hz
      · rename_i hi
        cases hz
        have hr' : sh[_]? = some _ := hr
        have hv' : sh[_]? = some _ := hv
        exact ⟨G, by unfold zst; simp only [hr', hv', if_pos hi]; rfl, fun a hl => ha a (by simpa using hl)⟩
      · cases hz
    · cases hz
  · split at hz
    · rename_i hq
      split at hz
      · rename_i hn
        cases hz
        obtain ⟨G', g1, g2⟩ := znw_g ha hn
        exact ⟨G', by unfold zst; simp only [hq, g1]; rfl, g2⟩
      · cases hz
    · cases hz
  · split at hz
    · split at hz
      · rename_i hc
        split at hz
        · rename_i hn
          cases hz
          obtain ⟨G', g1, g2⟩ := znw_g ha hn
          exact ⟨G', by unfold zst; simp only [if_pos hc, g1]; rfl, g2⟩
        · cases hz
      · cases hz
    · cases hz
  · split at hz
    · split at hz
      · rename_i hq
        split at hz
        · rename_i hc
          split at hz
          · rename_i hn
            cases hz
            obtain ⟨G', g1, g2⟩ := znw_g ha hn
            exact ⟨G', by unfold zst; simp only [hq, if_pos hc, g1]; rfl, g2⟩
          · cases hz
        · cases hz
      · cases hz
    · cases hz
  · exact zlibk_g ha hz
  · exact zlibk_g ha hz
  · exact pass (znumk_h hz) (by
      have e : zst M i len pc lst st (sh, G) = znumk i pc lst st (sh, G) := by
        unfold zst
        split <;> first | rfl | (exfalso; simp_all; done) | (exfalso; simp [znumk, znum] at hz; done)
      rw [e]; exact znumk_w hz)
/-- the machine without the law, the texts and the script -/
def zrunC : Nat → Nat → Nat → List Value → List Value → zH → Option (Option Value × zH)
  | 0, _, _, _, _, _ => none
  | n + 1, k, pc, lst, st, h => match zms[k]? with
    | none => none
    | some M => match Nat.ble M.1 8 with
      | false => none
      | true => match zlk M.2.2.2.2.2.2.2 pc with
      | none => none
      | some (i, len) => match zcall M i with
        | some (kd, tg) => (match zms[tg]? with
          | none => none
          | some T => if zmay M T kd (st.take T.2.2.2.2.2.2.1).reverse (st.drop T.2.2.2.2.2.2.1) h = true then
              (match zrunC n tg 0 (zpad T.2.2.2.1 (st.take T.2.2.2.2.2.2.1).reverse) [] h with
                | none => none
                | some (v, h') => if zgrd h h' lst (st.drop T.2.2.2.2.2.2.1) = true then zrunC n k (pc + 3) lst (v.toList ++ st.drop T.2.2.2.2.2.2.1) h' else none)
            else none)
        | none => match zret i M.2.2.2.2.1 st with
          | some v => some (v, h)
          | none => match i with
            | .getstatic _ => none
            | i => match zst M i len pc lst st h with
              | none => none
              | some (pc', lst', st', h') => zrunC n k pc' lst' st' h'
theorem zmay_g {T : zMt} {kd : Nat} {as rest : List Value} : zmay M T kd as rest (sh, G) = zmay M T kd as rest (sh, G0) := rfl
theorem zrunC_g : ∀ {n k pc : Nat} {lst st : List Value} {sh sh' : List zS} {G G0 G0' : Nat → Nat → Int32} {v : Option Value}, zrunC n k pc lst st (sh, G0) = some (v, (sh', G0')) → zag sh G G0 → ∃ G', zrun n k pc lst st (sh, G) = some (v, (sh', G')) ∧ zag sh' G' G0' := by
  intro n
  induction n with
  | zero => intro k pc lst st sh sh' G G0 G0' v hz; cases hz
  | succ n ih =>
    intro k pc lst st sh sh' G G0 G0' v hz ha
    unfold zrunC at hz
    rw [zrun]
    cases hM : zms[k]? with
    | none => rw [hM] at hz; cases hz
    | some M =>
    rw [hM] at hz
    simp only at hz ⊢
    cases h8 : Nat.ble M.1 8 with
    | false => rw [h8] at hz; cases hz
    | true =>
    rw [h8] at hz
    have h8 : M.1 ≤ 8 := Nat.ble_eq.mp h8
    simp only at hz ⊢
    cases hc : zlk M.2.2.2.2.2.2.2 pc with
    | none => rw [hc] at hz; cases hz
    | some q =>
    obtain ⟨i, len⟩ := q
    rw [hc] at hz
    simp only at hz ⊢
    cases hk : zcall M i with
    | some q =>
      obtain ⟨kd, tg⟩ := q
      rw [hk] at hz
      simp only at hz ⊢
      cases hT : zms[tg]? with
      | none => rw [hT] at hz; cases hz
      | some T =>
      rw [hT] at hz
      simp only at hz ⊢
      split at hz
      case isFalse => cases hz
      case isTrue hm =>
      rw [zmay_g (G0 := G0), if_pos hm]
      cases hr : zrunC n tg 0 (zpad T.2.2.2.1 (st.take T.2.2.2.2.2.2.1).reverse) [] (sh, G0) with
      | none => rw [hr] at hz; cases hz
      | some w =>
      obtain ⟨v1, sh1, G1⟩ := w
      rw [hr] at hz
      obtain ⟨G2, g1, g2⟩ := ih hr ha
      rw [g1]
      simp only at hz ⊢
      split at hz
      case isFalse => cases hz
      case isTrue hg =>
      rw [if_pos (show zgrd (sh, G) (sh1, G2) lst _ = true from hg)]
      exact ih hz g2
    | none =>
      rw [hk] at hz
      simp only at hz ⊢
      cases hr : zret i M.2.2.2.2.1 st with
      | some v =>
        rw [hr] at hz
        cases hz
        exact ⟨G, rfl, ha⟩
      | none =>
        rw [hr] at hz
        simp only at hz ⊢
        have hng : ∀ k, i ≠ .getstatic k := by
          intro k e
          subst e
          cases hz
        have hz : (match zst M i len pc lst st (sh, G0) with
              | none => none
              | some (pc', lst', st', h') => zrunC n k pc' lst' st' h') = some (v, (sh', G0')) := by
          split at hz
          · exact absurd rfl (hng _)
          · exact hz
        cases hs : zst M i len pc lst st (sh, G0) with
        | none => rw [hs] at hz; cases hz
        | some o1 =>
          obtain ⟨pc1, lst1, st1, sh1, G1⟩ := o1
          rw [hs] at hz
          obtain ⟨G2, g1, g2⟩ := zst_g h8 hng ha hs
          rw [g1]
          exact ih hz g2
end ZG
