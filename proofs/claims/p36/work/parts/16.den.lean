-- 16: what a run answers, without fuel
theorem zrun_mono : ∀ {n k pc : Nat} {lst st : List Value} {h : zH} {o : Option Value × zH}, zrun n k pc lst st h = some o → zrun (n + 1) k pc lst st h = some o := by
  intro n
  induction n with
  | zero => intro k pc lst st h o hz; cases hz
  | succ n ih =>
    intro k pc lst st h o hz
    unfold zrun at hz
    rw [zrun]
    cases hM : zms[k]? with
    | none => rw [hM] at hz; cases hz
    | some M =>
    rw [hM] at hz
    simp only at hz ⊢
    cases hc : zlk M.2.2.2.2.2.2.2 pc with
    | none => rw [hc] at hz; cases hz
    | some q =>
    obtain ⟨i, len⟩ := q
    rw [hc] at hz
    simp only at hz ⊢
    cases hk : zcall M i with
    | some q =>
      obtain ⟨kd, tg⟩ := q
      rw [hk] at hz
      simp only at hz ⊢
      cases hT : zms[tg]? with
      | none => rw [hT] at hz; cases hz
      | some T =>
      rw [hT] at hz
      simp only at hz ⊢
      split at hz
      case isFalse => cases hz
      case isTrue hm =>
      rw [if_pos hm]
      cases hr : zrun n tg 0 (zpad T.2.2.2.1 (st.take T.2.2.2.2.2.2.1).reverse) [] h with
      | none => rw [hr] at hz; cases hz
      | some v =>
      obtain ⟨v, h'⟩ := v
      rw [hr] at hz
      rw [ih hr]
      simp only at hz ⊢
      split at hz
      case isFalse => cases hz
      case isTrue hg =>
      rw [if_pos hg]
      exact ih hz
    | none =>
      rw [hk] at hz
      simp only at hz ⊢
      cases hr : zret i M.2.2.2.2.1 st with
      | some v => rw [hr] at hz; exact hz
      | none =>
        rw [hr] at hz
        simp only at hz ⊢
        cases hs : zst M i len pc lst st h with
        | none => rw [hs] at hz; cases hz
        | some o1 =>
          rw [hs] at hz
          exact ih hz
theorem zrun_le_n {n m k pc : Nat} {lst st : List Value} {h : zH} {o : Option Value × zH} (hz : zrun n k pc lst st h = some o) (hm : n ≤ m) : zrun m k pc lst st h = some o := by
  induction hm with
  | refl => exact hz
  | step _ ih => exact zrun_mono ih
theorem zrun_det {n m k pc : Nat} {lst st : List Value} {h : zH} {o o' : Option Value × zH} (h1 : zrun n k pc lst st h = some o) (h2 : zrun m k pc lst st h = some o') : o = o' := by
  rcases Nat.le_total n m with q | q
  · exact Option.some.inj ((zrun_le_n h1 q).symm.trans h2)
  · exact Option.some.inj (h1.symm.trans (zrun_le_n h2 q))
def zEv (k pc : Nat) (lst st : List Value) (h : zH) (o : Option Value × zH) : Prop := ∃ n, zrun n k pc lst st h = some o
noncomputable def zden (k pc : Nat) (lst st : List Value) (h : zH) : Option (Option Value × zH) :=
  @dite _ (∃ o, zEv k pc lst st h o) (Classical.propDecidable _) (fun x => some (Classical.choose x)) (fun _ => none)
theorem zden_iff {k pc : Nat} {lst st : List Value} {h : zH} {o : Option Value × zH} : zden k pc lst st h = some o ↔ zEv k pc lst st h o := by
  unfold zden
  constructor
  · intro q
    split at q
    · rename_i x
      cases q
      exact Classical.choose_spec x
    · cases q
  · intro q
    have x : ∃ o, zEv k pc lst st h o := ⟨o, q⟩
    rw [dif_pos x]
    obtain ⟨n, hn⟩ := q
    obtain ⟨m, hm⟩ := Classical.choose_spec x
    exact congrArg some (zrun_det hm hn)
theorem zden_none {k pc : Nat} {lst st : List Value} {h : zH} (hn : ∀ o, ¬ zEv k pc lst st h o) : zden k pc lst st h = none := by
  cases hd : zden k pc lst st h with
  | none => rfl
  | some o => exact absurd (zden_iff.mp hd) (hn o)
theorem zden_ext {k pc k2 pc2 : Nat} {lst st lst2 st2 : List Value} {h h2 : zH} (hq : ∀ o, zEv k pc lst st h o ↔ zEv k2 pc2 lst2 st2 h2 o) : zden k pc lst st h = zden k2 pc2 lst2 st2 h2 := by
  cases hd : zden k2 pc2 lst2 st2 h2 with
  | none => exact zden_none (fun o ho => by rw [zden_iff.mpr ((hq o).mp ho)] at hd; cases hd)
  | some o => exact zden_iff.mpr ((hq o).mpr (zden_iff.mp hd))
def zcont (k : Nat) : Option zC → Option (Option Value × zH)
  | none => none
  | some o => none
/-- behind an instruction -/
noncomputable def zgo (k : Nat) (o : Option zC) : Option (Option Value × zH) := match o with
  | none => none
  | some c => zden k c.1 c.2.1 c.2.2.1 c.2.2.2
/-- behind a call -/
noncomputable def zaft (k pc : Nat) (lst rest : List Value) (h : zH) (o : Option (Option Value × zH)) : Option (Option Value × zH) := match o with
  | none => none
  | some (v, h') => if zgrd h h' lst rest = true then zden k pc lst (v.toList ++ rest) h' else none
section ZD
variable {k pc len : Nat} {lst st : List Value} {h : zH} {M : zMt} {i : Instr}
theorem zEv_unf (hM : zms[k]? = some M) (hc : zlk M.2.2.2.2.2.2.2 pc = some (i, len)) {o : Option Value × zH} : zEv k pc lst st h o ↔ ∃ n, (match zcall M i with
        | some (kd, tg) => (match zms[tg]? with
          | none => none
          | some T => if zmay M T kd (st.take T.2.2.2.2.2.2.1).reverse (st.drop T.2.2.2.2.2.2.1) h = true then
              (match zrun n tg 0 (zpad T.2.2.2.1 (st.take T.2.2.2.2.2.2.1).reverse) [] h with
                | none => none
                | some (v, h') => if zgrd h h' lst (st.drop T.2.2.2.2.2.2.1) = true then zrun n k (pc + 3) lst (v.toList ++ st.drop T.2.2.2.2.2.2.1) h' else none)
            else none)
        | none => match zret i M.2.2.2.2.1 st with
          | some v => some (v, h)
          | none => match zst M i len pc lst st h with
            | none => none
            | some (pc', lst', st', h') => zrun n k pc' lst' st' h') = some o := by
  constructor
  · rintro ⟨n, hn⟩
    cases n with
    | zero => cases hn
    | succ n =>
      refine ⟨n, ?_⟩
      rw [zrun, hM] at hn
      simp only [hc] at hn
      exact hn
  · rintro ⟨n, hn⟩
    refine ⟨n + 1, ?_⟩
    rw [zrun, hM]
    simp only [hc]
    exact hn
theorem zd_ret (hM : zms[k]? = some M) (hc : zlk M.2.2.2.2.2.2.2 pc = some (i, len)) (hk : zcall M i = none) {v : Option Value} (hr : zret i M.2.2.2.2.1 st = some v) : zden k pc lst st h = some (v, h) :=
  zden_iff.mpr ((zEv_unf hM hc).mpr ⟨0, by simp only [hk, hr]⟩)
theorem zd_st (hM : zms[k]? = some M) (hc : zlk M.2.2.2.2.2.2.2 pc = some (i, len)) (hk : zcall M i = none) (hr : zret i M.2.2.2.2.1 st = none) : zden k pc lst st h = zgo k (zst M i len pc lst st h) := by
  cases hs : zst M i len pc lst st h with
  | none =>
    refine zden_none (fun o ho => ?_)
    obtain ⟨n, hn⟩ := (zEv_unf hM hc).mp ho
    simp only [hk, hr, hs] at hn
    cases hn
  | some c =>
    refine zden_ext (fun o => ?_)
    constructor
    · intro ho
      obtain ⟨n, hn⟩ := (zEv_unf hM hc).mp ho
      simp only [hk, hr, hs] at hn
      exact ⟨n, hn⟩
    · rintro ⟨n, hn⟩
      refine (zEv_unf hM hc).mpr ⟨n, ?_⟩
      simp only [hk, hr, hs]
      exact hn
theorem zd_call {kd tg : Nat} {T : zMt} (hM : zms[k]? = some M) (hc : zlk M.2.2.2.2.2.2.2 pc = some (i, len)) (hk : zcall M i = some (kd, tg)) (hT : zms[tg]? = some T)
    {as rest : List Value} (ha : (st.take T.2.2.2.2.2.2.1).reverse = as) (hrest : st.drop T.2.2.2.2.2.2.1 = rest) (hm : zmay M T kd as rest h = true) : zden k pc lst st h = zaft k (pc + 3) lst rest h (zden tg 0 (zpad T.2.2.2.1 as) [] h) := by
  subst ha; subst hrest
  cases hd : zden tg 0 (zpad T.2.2.2.1 (st.take T.2.2.2.2.2.2.1).reverse) [] h with
  | none =>
    refine zden_none (fun o ho => ?_)
    obtain ⟨n, hn⟩ := (zEv_unf hM hc).mp ho
    simp only [hk, hT, hm, if_true] at hn
    cases hr : zrun n tg 0 (zpad T.2.2.2.1 (st.take T.2.2.2.2.2.2.1).reverse) [] h with
    | none => rw [hr] at hn; cases hn
    | some w => rw [zden_iff.mpr ⟨n, hr⟩] at hd; cases hd
  | some w =>
    obtain ⟨v, h'⟩ := w
    obtain ⟨n0, hn0⟩ := zden_iff.mp hd
    show _ = if zgrd h h' lst _ = true then _ else none
    by_cases hg : zgrd h h' lst (st.drop T.2.2.2.2.2.2.1) = true
    · rw [if_pos hg]
      refine zden_ext (fun o => ?_)
      constructor
      · intro ho
        obtain ⟨n, hn⟩ := (zEv_unf hM hc).mp ho
        simp only [hk, hT, hm, if_true] at hn
        cases hr : zrun n tg 0 (zpad T.2.2.2.1 (st.take T.2.2.2.2.2.2.1).reverse) [] h with
        | none => rw [hr] at hn; cases hn
        | some w =>
          have := zrun_det hr hn0
          subst this
          rw [hr] at hn
          simp only [hg, if_true] at hn
          exact ⟨n, hn⟩
      · rintro ⟨n, hn⟩
        refine (zEv_unf hM hc).mpr ⟨max n n0, ?_⟩
        simp only [hk, hT, hm, if_true]
        rw [zrun_le_n hn0 (Nat.le_max_right n n0)]
        simp only [hg, if_true]
        exact zrun_le_n hn (Nat.le_max_left n n0)
    · rw [if_neg hg]
      refine zden_none (fun o ho => ?_)
      obtain ⟨n, hn⟩ := (zEv_unf hM hc).mp ho
      simp only [hk, hT, hm, if_true] at hn
      cases hr : zrun n tg 0 (zpad T.2.2.2.1 (st.take T.2.2.2.2.2.2.1).reverse) [] h with
      | none => rw [hr] at hn; cases hn
      | some w =>
        have := zrun_det hr hn0
        subst this
        rw [hr] at hn
        simp only [hg] at hn
        cases hn
theorem zaft_same {sh : List zS} {G G' : Nat → Nat → Int32} {rest : List Value} {v : Option Value} : zaft k pc lst rest (sh, G) (some (v, (sh, G'))) = zden k pc lst (v.toList ++ rest) (sh, G') := by
  show (if zgrd (sh, G) (sh, G') lst rest = true then _ else none) = _
  rw [if_pos]
  unfold zgrd
  simp
end ZD
