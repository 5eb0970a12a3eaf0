-- 25: switches; doubles
noncomputable def zselD (k : Nat) (lst st : List Value) (h : zH) (x : Int32) (td : Nat) : List (Int32 × Nat) → Option (Option Value × zH)
  | [] => zden k td lst st h
  | (a, t) :: l => if x = a then zden k t lst st h else zselD k lst st h x td l
def zswL (pc : Nat) : Int → List Int → List (Int32 × Nat) → Bool
  | _, [], [] => true
  | lo, o :: os, (a, t) :: l => decide (a.toInt = lo) && decide (zbr pc o = some t) && zswL pc (lo + 1) os l
  | _, _, _ => false
section ZSw
variable {k pc : Nat} {lst st : List Value} {h : zH} {M : zMt}
theorem zselD_eq {x : Int32} {td : Nat} : ∀ {l : List (Int32 × Nat)} {os : List Int} {lo : Int}, zswL pc lo os l = true → zselD k lst st h x td l =
    if x.toInt < lo ∨ lo + l.length ≤ x.toInt then zden k td lst st h else (match os[(x.toInt - lo).toNat]? with
      | some off => zgo k (zsw pc lst st h off)
      | none => none) := by
  intro l
  induction l with
  | nil =>
    intro os lo hc
    cases os with
    | cons o os => cases hc
    | nil =>
      rw [if_pos (by simp only [List.length_nil]; omega)]
      rfl
  | cons q l ih =>
    intro os lo hc
    obtain ⟨a, t⟩ := q
    cases os with
    | nil => cases hc
    | cons o os =>
      simp only [zswL, Bool.and_eq_true, decide_eq_true_eq] at hc
      obtain ⟨⟨h1, h2⟩, h3⟩ := hc
      show (if x = a then zden k t lst st h else zselD k lst st h x td l) = _
      by_cases hx : x = a
      · rw [if_pos hx, if_neg (by rw [hx, h1]; simp only [List.length_cons]; omega)]
        rw [hx, h1, Int.sub_self]
        show _ = zgo k (zsw pc lst st h o)
        unfold zsw
        rw [h2]
        rfl
      · rw [if_neg hx, ih h3]
        have hne : x.toInt ≠ lo := fun q => hx (Int32.toInt_inj.mp (by rw [h1]; exact q))
        by_cases hb : x.toInt < lo
        · rw [if_pos (Or.inl (by omega)), if_pos (Or.inl hb)]
        · by_cases hb2 : lo + 1 + l.length ≤ x.toInt
          · rw [if_pos (Or.inr hb2), if_pos (Or.inr (by simp only [List.length_cons]; omega))]
          · rw [if_neg (by omega), if_neg (by simp only [List.length_cons]; omega)]
            have e : (x.toInt - lo).toNat = (x.toInt - (lo + 1)).toNat + 1 := by omega
            rw [e, List.getElem?_cons_succ]
theorem zd_tsw {d lo hi : Int} {offs : Array Int} {len td : Nat} {L : List (Int32 × Nat)} {x : Int32} (hc : zAt k pc M (.tableswitch d lo hi offs) len) (hd : zbr pc d = some td) (hL : zswL pc lo offs.toList L = true) (hh : lo + (L.length : Int) = hi + 1) :
    zden k pc lst (.int x :: st) h = zselD k lst st h x td L := by
  rw [zd_st hc.1 hc.2 rfl rfl, zselD_eq hL]
  unfold zst
  simp only
  by_cases hb : x.toInt < lo ∨ hi < x.toInt
  · rw [if_pos hb, if_pos (by omega)]
    unfold zsw
    rw [hd]
    rfl
  · rw [if_neg hb, if_neg (by omega)]
    rw [Array.getElem?_toList]
    cases offs[(x.toInt - lo).toNat]? with
    | none => rfl
    | some off => rfl
end ZSw
theorem zitc {α : Sort _} {b : Prop} [Decidable b] {x x' y y' : α} (h1 : b → x = x') (h2 : ¬ b → y = y') : (if b then x else y) = if b then x' else y' := by
  by_cases h : b
  · rw [if_pos h, if_pos h, h1 h]
  · rw [if_neg h, if_neg h, h2 h]
theorem bI_b (p : Prop) [Decidable p] : znr .boolean (bI p) = true := by
  unfold bI
  by_cases h : p
  · rw [if_pos h]; decide
  · rw [if_neg h]; decide
