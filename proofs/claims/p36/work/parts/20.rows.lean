-- 20: rows of the small machine, an instruction each: what is to come is the same
section ZE
variable {k pc : Nat} {lst st : List Value} {h : zH} {M : zMt} {G : Nat → Nat → Int32}
abbrev zAt (k pc : Nat) (M : zMt) (i : Instr) (len : Nat) : Prop := zms[k]? = some M ∧ zlk M.2.2.2.2.2.2.2 pc = some (i, len)
theorem zd_go {i : Instr} {len : Nat} {o : zC} (hc : zAt k pc M i len) (h1 : zcall M i = none) (h2 : zret i M.2.2.2.2.1 st = none) (hs : zst M i len pc lst st h = some o) : zden k pc lst st h = zden k o.1 o.2.1 o.2.2.1 o.2.2.2 := by
  rw [zd_st hc.1 hc.2 h1 h2, hs]
  rfl
theorem zd_iconst {n : Int} {v : Int32} (hc : zAt k pc M (.iconst n) 1) (hv : Int32.ofInt n = v) : zden k pc lst st h = zden k (pc + 1) lst (.int v :: st) h := by
  subst hv
  exact zd_go hc rfl rfl rfl
theorem zd_bipush {n : Int} {v : Int32} (hc : zAt k pc M (.bipush n) 2) (hv : (Int8.ofInt n).toInt32 = v) : zden k pc lst st h = zden k (pc + 2) lst (.int v :: st) h := by
  subst hv
  exact zd_go hc rfl rfl rfl
theorem zd_sipush {n : Int} {v : Int32} (hc : zAt k pc M (.sipush n) 3) (hv : (Int16.ofInt n).toInt32 = v) : zden k pc lst st h = zden k (pc + 3) lst (.int v :: st) h := by
  subst hv
  exact zd_go hc rfl rfl rfl
theorem zd_iload_n {n : Fin 4} {x : Int32} (hc : zAt k pc M (.iload_n n) 1) (hl : lst[(n : Nat)]? = some (.int x)) : zden k pc lst st h = zden k (pc + 1) lst (.int x :: st) h :=
  zd_go hc rfl rfl (by show zldi pc 1 lst st h n = _; unfold zldi; rw [hl])
theorem zd_iload {n : Nat} {x : Int32} (hc : zAt k pc M (.iload n) 2) (hl : lst[n]? = some (.int x)) : zden k pc lst st h = zden k (pc + 2) lst (.int x :: st) h :=
  zd_go hc rfl rfl (by show zldi pc 2 lst st h n = _; unfold zldi; rw [hl])
theorem zd_aload_n {n : Fin 4} {x : Nat} (hc : zAt k pc M (.aload_n n) 1) (hl : lst[(n : Nat)]? = some (.ref x)) : zden k pc lst st h = zden k (pc + 1) lst (.ref x :: st) h :=
  zd_go hc rfl rfl (by show zlda pc 1 lst st h n = _; unfold zlda; rw [hl])
theorem zd_aload {n : Nat} {x : Nat} (hc : zAt k pc M (.aload n) 2) (hl : lst[n]? = some (.ref x)) : zden k pc lst st h = zden k (pc + 2) lst (.ref x :: st) h :=
  zd_go hc rfl rfl (by show zlda pc 2 lst st h n = _; unfold zlda; rw [hl])
theorem zd_dload {n : Nat} {x : UInt64} (hc : zAt k pc M (.dload n) 2) (hl : lst[n]? = some (.double x)) : zden k pc lst st h = zden k (pc + 2) lst (.double x :: st) h :=
  zd_go hc rfl rfl (by show zldd pc 2 lst st h n = _; unfold zldd; rw [hl])
theorem zsto_eq {len n : Nat} {v : Value} (h1 : Nat.blt n lst.length = true) (h2 : zp2 lst n = true) : zsto pc len lst st h n v = some (pc + len, lst.set n v, st, h) := by
  unfold zsto
  rw [if_pos ⟨Nat.blt_eq.mp h1, h2⟩]
theorem zd_istore_n {n : Fin 4} {x : Int32} {lst' : List Value} (hc : zAt k pc M (.istore_n n) 1) (h1 : Nat.blt n lst.length = true) (h2 : zp2 lst n = true) (hl : lst.set n (.int x) = lst') : zden k pc lst (.int x :: st) h = zden k (pc + 1) lst' st h := by
  subst hl
  exact zd_go (o := (pc + 1, lst.set n (.int x), st, h)) hc rfl rfl (zsto_eq h1 h2)
theorem zd_istore {n : Nat} {x : Int32} {lst' : List Value} (hc : zAt k pc M (.istore n) 2) (h1 : Nat.blt n lst.length = true) (h2 : zp2 lst n = true) (hl : lst.set n (.int x) = lst') : zden k pc lst (.int x :: st) h = zden k (pc + 2) lst' st h := by
  subst hl
  exact zd_go (o := (pc + 2, lst.set n (.int x), st, h)) hc rfl rfl (zsto_eq h1 h2)
theorem zd_astore_n {n : Fin 4} {x : Nat} {lst' : List Value} (hc : zAt k pc M (.astore_n n) 1) (h1 : Nat.blt n lst.length = true) (h2 : zp2 lst n = true) (hl : lst.set n (.ref x) = lst') : zden k pc lst (.ref x :: st) h = zden k (pc + 1) lst' st h := by
  subst hl
  exact zd_go (o := (pc + 1, lst.set n (.ref x), st, h)) hc rfl rfl (zsto_eq h1 h2)
theorem zd_astore {n : Nat} {x : Nat} {lst' : List Value} (hc : zAt k pc M (.astore n) 2) (h1 : Nat.blt n lst.length = true) (h2 : zp2 lst n = true) (hl : lst.set n (.ref x) = lst') : zden k pc lst (.ref x :: st) h = zden k (pc + 2) lst' st h := by
  subst hl
  exact zd_go (o := (pc + 2, lst.set n (.ref x), st, h)) hc rfl rfl (zsto_eq h1 h2)
theorem zd_dstore {n : Nat} {x : UInt64} {lst' : List Value} (hc : zAt k pc M (.dstore n) 2) (h1 : Nat.blt (n + 1) lst.length = true) (h2 : zp2 lst n = true) (hl : (lst.set n (.double x)).set (n + 1) (.retAddr 0) = lst') : zden k pc lst (.double x :: st) h = zden k (pc + 2) lst' st h := by
  subst hl
  refine zd_go (o := (pc + 2, (lst.set n (.double x)).set (n + 1) (.retAddr 0), st, h)) hc rfl rfl ?_
  show zstoD pc 2 lst st h n (.double x) = _
  unfold zstoD
  rw [if_pos ⟨Nat.blt_eq.mp h1, h2⟩]
theorem zd_iinc {n len : Nat} {c : Int} {x v : Int32} {lst' : List Value} (hc : zAt k pc M (.iinc n c) len) (hx : lst[n]? = some (.int x)) (hv : Int32.ofInt c = v) (h1 : Nat.blt n lst.length = true) (h2 : zp2 lst n = true) (hl : lst.set n (.int (x + v)) = lst') : zden k pc lst st h = zden k (pc + len) lst' st h := by
  subst hl; subst hv
  refine zd_go (o := (pc + len, lst.set n (.int (x + Int32.ofInt c)), st, h)) hc rfl rfl ?_
  unfold zst
  simp only [hx]
  exact zsto_eq h1 h2
theorem zd_goto {off : Int} {t : Nat} (hc : zAt k pc M (.goto off) 3) (ht : zbr pc off = some t) : zden k pc lst st h = zden k t lst st h :=
  zd_go (o := (t, lst, st, h)) hc rfl rfl (by show zsw pc lst st h off = _; unfold zsw; rw [ht])
theorem zd_br {i : Instr} {len t : Nat} {off : Int} {b : Prop} [Decidable b] {st' : List Value} (hc : zAt k pc M i len) (h1 : zcall M i = none) (h2 : zret i M.2.2.2.2.1 st' = none) (hs : zst M i len pc lst st' h = zif pc lst st h off b) (ht : zbr pc off = some t) :
    zden k pc lst st' h = if b then zden k t lst st h else zden k (pc + 3) lst st h := by
  rw [zd_st hc.1 hc.2 h1 h2, hs]
  unfold zif
  rw [ht]
  by_cases hb : b
  · simp only [if_pos hb]; rfl
  · simp only [if_neg hb]; rfl
theorem zd_if_eq {off : Int} {t : Nat} {x : Int32} (hc : zAt k pc M (.ifCond .eq off) 3) (ht : zbr pc off = some t) : zden k pc lst (.int x :: st) h = if x = 0 then zden k t lst st h else zden k (pc + 3) lst st h := zd_br hc rfl rfl rfl ht
theorem zd_if_ne {off : Int} {t : Nat} {x : Int32} (hc : zAt k pc M (.ifCond .ne off) 3) (ht : zbr pc off = some t) : zden k pc lst (.int x :: st) h = if ¬ x = 0 then zden k t lst st h else zden k (pc + 3) lst st h := zd_br hc rfl rfl rfl ht
theorem zd_if_lt {off : Int} {t : Nat} {x : Int32} (hc : zAt k pc M (.ifCond .lt off) 3) (ht : zbr pc off = some t) : zden k pc lst (.int x :: st) h = if x < 0 then zden k t lst st h else zden k (pc + 3) lst st h := zd_br hc rfl rfl rfl ht
theorem zd_if_ge {off : Int} {t : Nat} {x : Int32} (hc : zAt k pc M (.ifCond .ge off) 3) (ht : zbr pc off = some t) : zden k pc lst (.int x :: st) h = if 0 ≤ x then zden k t lst st h else zden k (pc + 3) lst st h := zd_br hc rfl rfl rfl ht
theorem zd_if_gt {off : Int} {t : Nat} {x : Int32} (hc : zAt k pc M (.ifCond .gt off) 3) (ht : zbr pc off = some t) : zden k pc lst (.int x :: st) h = if 0 < x then zden k t lst st h else zden k (pc + 3) lst st h := zd_br hc rfl rfl rfl ht
theorem zd_if_le {off : Int} {t : Nat} {x : Int32} (hc : zAt k pc M (.ifCond .le off) 3) (ht : zbr pc off = some t) : zden k pc lst (.int x :: st) h = if x ≤ 0 then zden k t lst st h else zden k (pc + 3) lst st h := zd_br hc rfl rfl rfl ht
theorem zd_icmp_eq {off : Int} {t : Nat} {x y : Int32} (hc : zAt k pc M (.if_icmp .eq off) 3) (ht : zbr pc off = some t) : zden k pc lst (.int y :: .int x :: st) h = if x = y then zden k t lst st h else zden k (pc + 3) lst st h := zd_br hc rfl rfl rfl ht
theorem zd_icmp_ne {off : Int} {t : Nat} {x y : Int32} (hc : zAt k pc M (.if_icmp .ne off) 3) (ht : zbr pc off = some t) : zden k pc lst (.int y :: .int x :: st) h = if ¬ x = y then zden k t lst st h else zden k (pc + 3) lst st h := zd_br hc rfl rfl rfl ht
theorem zd_icmp_lt {off : Int} {t : Nat} {x y : Int32} (hc : zAt k pc M (.if_icmp .lt off) 3) (ht : zbr pc off = some t) : zden k pc lst (.int y :: .int x :: st) h = if x < y then zden k t lst st h else zden k (pc + 3) lst st h := zd_br hc rfl rfl rfl ht
theorem zd_icmp_ge {off : Int} {t : Nat} {x y : Int32} (hc : zAt k pc M (.if_icmp .ge off) 3) (ht : zbr pc off = some t) : zden k pc lst (.int y :: .int x :: st) h = if y ≤ x then zden k t lst st h else zden k (pc + 3) lst st h := zd_br hc rfl rfl rfl ht
theorem zd_icmp_gt {off : Int} {t : Nat} {x y : Int32} (hc : zAt k pc M (.if_icmp .gt off) 3) (ht : zbr pc off = some t) : zden k pc lst (.int y :: .int x :: st) h = if y < x then zden k t lst st h else zden k (pc + 3) lst st h := zd_br hc rfl rfl rfl ht
theorem zd_icmp_le {off : Int} {t : Nat} {x y : Int32} (hc : zAt k pc M (.if_icmp .le off) 3) (ht : zbr pc off = some t) : zden k pc lst (.int y :: .int x :: st) h = if x ≤ y then zden k t lst st h else zden k (pc + 3) lst st h := zd_br hc rfl rfl rfl ht
theorem zd_ifnullN {off : Int} {t : Nat} (hc : zAt k pc M (.ifnull off) 3) (ht : zbr pc off = some t) : zden k pc lst (.null :: st) h = zden k t lst st h :=
  zd_go (o := (t, lst, st, h)) hc rfl rfl (by show zsw pc lst st h off = _; unfold zsw; rw [ht])
theorem zd_ifnull {off : Int} {r : Nat} (hc : zAt k pc M (.ifnull off) 3) : zden k pc lst (.ref r :: st) h = zden k (pc + 3) lst st h := zd_go (o := (pc + 3, lst, st, h)) hc rfl rfl rfl
theorem zd_getI {r ci fi idx : Nat} {refs : List (Option Nat)} (hc : zAt k pc M (.getfield idx) 3) (hq : (zlk zFL (M.1 * 65536 + idx)).map (fun q => (q.1, q.2.1)) = some (ci, fi)) (hs : h.1[r]? = some (.inl (ci, refs))) (hk : (!Nat.beq ci 10 && Nat.blt fi (zNf ci) && !zIr ci fi) = true) :
    zden k pc lst (.ref r :: st) h = zden k (pc + 3) lst (.int (h.2 r fi) :: st) h := by
  refine zd_go (o := (pc + 3, lst, .int (h.2 r fi) :: st, h)) hc rfl rfl ?_
  cases hz : zlk zFL (M.1 * 65536 + idx) with
  | none => rw [hz] at hq; cases hq
  | some q =>
    rw [hz] at hq
    have hq := Option.some.inj hq
    obtain ⟨a, b, c⟩ := q
    cases hq
    simp only [Bool.and_eq_true, Bool.not_eq_true', Nat.blt_eq] at hk
    unfold zst
    simp only [hz]
    unfold zgf
    simp only [hk.1.1, hs]
    rw [if_pos ⟨trivial, hk.1.2⟩, if_neg (by rw [hk.2]; decide)]
    rfl
theorem zd_getR {r ci fi idx a : Nat} {refs : List (Option Nat)} (hc : zAt k pc M (.getfield idx) 3) (hq : (zlk zFL (M.1 * 65536 + idx)).map (fun q => (q.1, q.2.1)) = some (ci, fi)) (hs : h.1[r]? = some (.inl (ci, refs))) (hk : (!Nat.beq ci 10 && Nat.blt fi (zNf ci) && zIr ci fi) = true) (ha : refs.getD fi none = some a) :
    zden k pc lst (.ref r :: st) h = zden k (pc + 3) lst (.ref a :: st) h := by
  refine zd_go (o := (pc + 3, lst, .ref a :: st, h)) hc rfl rfl ?_
  cases hz : zlk zFL (M.1 * 65536 + idx) with
  | none => rw [hz] at hq; cases hq
  | some q =>
    rw [hz] at hq
    have hq := Option.some.inj hq
    obtain ⟨a1, b, c⟩ := q
    cases hq
    simp only [Bool.and_eq_true, Bool.not_eq_true', Nat.blt_eq] at hk
    unfold zst
    simp only [hz]
    unfold zgf
    simp only [hk.1.1, hs]
    rw [if_pos ⟨trivial, hk.1.2⟩, if_pos hk.2, ha]
    rfl
theorem zd_putI {r ci fi idx : Nat} {x : Int32} {refs : List (Option Nat)} (hc : zAt k pc M (.putfield idx) 3) (hq : (zlk zFL (M.1 * 65536 + idx)).map (fun q => (q.1, q.2.1)) = some (ci, fi)) (hs : h.1[r]? = some (.inl (ci, refs))) (hk : (Nat.blt fi (zNf ci) && !zIr ci fi && !(zT ci fi).2.2.2) = true) (hf : zfit (zTy ci fi) x = true) :
    zden k pc lst (.int x :: .ref r :: st) h = zden k (pc + 3) lst st (h.1, zup h.2 r fi x) := by
  refine zd_go (o := (pc + 3, lst, st, (h.1, zup h.2 r fi x))) hc rfl rfl ?_
  cases hz : zlk zFL (M.1 * 65536 + idx) with
  | none => rw [hz] at hq; cases hq
  | some q =>
    rw [hz] at hq
    have hq := Option.some.inj hq
    obtain ⟨a1, b, c⟩ := q
    cases hq
    simp only [Bool.and_eq_true, Bool.not_eq_true', Nat.blt_eq] at hk
    unfold zst
    simp only [hz]
    unfold zpf
    simp only [hs]
    rw [if_pos ⟨trivial, hk.1.1, fun w => by rw [hk.2] at w; cases w⟩, if_pos ⟨hk.1.2, hf⟩]
    rfl
theorem zd_alen {r n : Nat} {v : Int32} {ty : FieldType} {refs : List (Option Nat)} (hc : zAt k pc M .arraylength 1) (hs : h.1[r]? = some (.inr (ty, n, refs))) (hr : Nat.blt r 1000000 = true) (hv : Int32.ofNat n = v) : zden k pc lst (.ref r :: st) h = zden k (pc + 1) lst (.int v :: st) h := by
  have hr := Nat.blt_eq.mp hr
  refine zd_go (o := (pc + 1, lst, .int v :: st, h)) hc rfl rfl ?_
  unfold zst zal
  simp only [if_neg (show ¬ r = 2000000 by omega), if_neg (show ¬ (1001000 ≤ r ∧ r < 1001000 + zSb.length) by omega), hs, hv]
theorem zd_iald {r n : Nat} {i : Int32} {refs : List (Option Nat)} (hc : zAt k pc M .iaload 1) (hs : h.1[r]? = some (.inr (.int, n, refs))) (hr : Nat.blt r 1000000 = true) : zden k pc lst (.int i :: .ref r :: st) h = if zin i n = true then zden k (pc + 1) lst (.int (h.2 r i.toNatClampNeg) :: st) h else none := by
  have hr := Nat.blt_eq.mp hr
  rw [zd_st hc.1 hc.2 rfl rfl]
  unfold zst zia
  simp only [if_neg (show ¬ r = 2000000 by omega), hs]
  by_cases hi : zin i n = true
  · rw [if_pos hi, if_pos hi]; rfl
  · rw [if_neg hi, if_neg hi]; rfl
theorem zd_cald {r n : Nat} {i : Int32} {refs : List (Option Nat)} (hc : zAt k pc M .caload 1) (hs : h.1[r]? = some (.inr (.char, n, refs))) : zden k pc lst (.int i :: .ref r :: st) h = if zin i n = true then zden k (pc + 1) lst (.int (h.2 r i.toNatClampNeg) :: st) h else none := by
  rw [zd_st hc.1 hc.2 rfl rfl]
  unfold zst zca
  simp only [hs]
  by_cases hi : zin i n = true
  · rw [if_pos hi, if_pos hi]; rfl
  · rw [if_neg hi, if_neg hi]; rfl
theorem zd_iast {r n : Nat} {i x : Int32} {refs : List (Option Nat)} (hc : zAt k pc M .iastore 1) (hs : h.1[r]? = some (.inr (.int, n, refs))) : zden k pc lst (.int x :: .int i :: .ref r :: st) h = if zin i n = true then zden k (pc + 1) lst st (h.1, zup h.2 r i.toNatClampNeg x) else none := by
  rw [zd_st hc.1 hc.2 rfl rfl]
  unfold zst
  simp only [hs]
  by_cases hi : zin i n = true
  · rw [if_pos hi, if_pos hi]; rfl
  · rw [if_neg hi, if_neg hi]; rfl
theorem zd_cast {r n : Nat} {i x : Int32} {refs : List (Option Nat)} (hc : zAt k pc M .castore 1) (hs : h.1[r]? = some (.inr (.char, n, refs))) : zden k pc lst (.int x :: .int i :: .ref r :: st) h = if zin i n = true then zden k (pc + 1) lst st (h.1, zup h.2 r i.toNatClampNeg (vp_nar .char x)) else none := by
  rw [zd_st hc.1 hc.2 rfl rfl]
  unfold zst
  simp only [hs]
  by_cases hi : zin i n = true
  · rw [if_pos hi, if_pos hi]; rfl
  · rw [if_neg hi, if_neg hi]; rfl
theorem zd_num {i : Instr} {st' st2 : List Value} (hc : zAt k pc M i 1) (h1 : zcall M i = none) (h2 : zret i M.2.2.2.2.1 st' = none) (hs : zst M i 1 pc lst st' h = znumk i pc lst st' h) (hn : znum i st' = some st2) : zden k pc lst st' h = zden k (pc + 1) lst st2 h :=
  zd_go (o := (pc + 1, lst, st2, h)) hc h1 h2 (by rw [hs]; unfold znumk; rw [hn])
theorem zd_idiv {x y : Int32} (hc : zAt k pc M .idiv 1) (hy : ¬ y = 0) : zden k pc lst (.int y :: .int x :: st) h = zden k (pc + 1) lst (.int (x / y) :: st) h := zd_num hc rfl rfl rfl (by show (if _ then _ else _) = _; rw [if_pos hy])
theorem zd_irem {x y : Int32} (hc : zAt k pc M .irem 1) (hy : ¬ y = 0) : zden k pc lst (.int y :: .int x :: st) h = zden k (pc + 1) lst (.int (x - x / y * y) :: st) h := zd_num hc rfl rfl rfl (by show (if _ then _ else _) = _; rw [if_pos hy])
theorem zd_max {x y : Int32} {idx : Nat} (hc : zAt k pc M (.invokestatic idx) 3) (h1 : zcall M (.invokestatic idx) = none) (hq : (zlk zLL (M.1 * 65536 + idx)).map (fun q => q.1) = some 5) (hd : (Nat.ble 1 M.2.2.2.2.2.1 && Nat.ble (zwd st) 8) = true) : zden k pc lst (.int y :: .int x :: st) h = zden k (pc + 3) lst (.int (if x < y then y else x) :: st) h := by
  refine zd_go (o := (pc + 3, lst, .int (if x < y then y else x) :: st, h)) hc h1 rfl ?_
  simp only [Bool.and_eq_true, Nat.ble_eq] at hd
  show zlibk M pc lst _ h idx = _
  unfold zlibk
  cases hz : zlk zLL (M.1 * 65536 + idx) with
  | none => rw [hz] at hq; cases hq
  | some q =>
    rw [hz] at hq
    have hq := Option.some.inj hq
    simp only at hq
    unfold zlib
    simp only [if_pos hd.1, hq, if_pos hd.2]
theorem zd_min {x y : Int32} {idx : Nat} (hc : zAt k pc M (.invokestatic idx) 3) (h1 : zcall M (.invokestatic idx) = none) (hq : (zlk zLL (M.1 * 65536 + idx)).map (fun q => q.1) = some 6) (hd : (Nat.ble 1 M.2.2.2.2.2.1 && Nat.ble (zwd st) 8) = true) : zden k pc lst (.int y :: .int x :: st) h = zden k (pc + 3) lst (.int (if y < x then y else x) :: st) h := by
  refine zd_go (o := (pc + 3, lst, .int (if y < x then y else x) :: st, h)) hc h1 rfl ?_
  simp only [Bool.and_eq_true, Nat.ble_eq] at hd
  show zlibk M pc lst _ h idx = _
  unfold zlibk
  cases hz : zlk zLL (M.1 * 65536 + idx) with
  | none => rw [hz] at hq; cases hq
  | some q =>
    rw [hz] at hq
    have hq := Option.some.inj hq
    simp only at hq
    unfold zlib
    simp only [if_pos hd.1, hq, if_pos hd.2]
theorem zd_iret {x : Int32} {ty : FieldType} (hc : zAt k pc M .ireturn 1) (ht : M.2.2.2.2.1 = some ty) (hn : znr ty x = true) : zden k pc lst [.int x] h = some (some (.int x), h) :=
  zd_ret hc.1 hc.2 rfl (by unfold zret; simp only [ht, hn, if_true])
theorem zd_vret (hc : zAt k pc M .return_ 1) (ht : M.2.2.2.2.1 = none) : zden k pc lst [] h = some (none, h) :=
  zd_ret hc.1 hc.2 rfl (by unfold zret; simp only [ht])
theorem zd_aret {x : Nat} {n : String} (hc : zAt k pc M .areturn 1) (ht : M.2.2.2.2.1 = some (.object n)) : zden k pc lst [.ref x] h = some (some (.ref x), h) :=
  zd_ret hc.1 hc.2 rfl (by unfold zret; simp only [ht])
theorem zd_ldc {idx j : Nat} (hc : zAt k pc M (.ldc idx) 2) (hj : zlk zSL (M.1 * 65536 + idx) = some j) : zden k pc lst st h = zden k (pc + 2) lst (.ref (1000000 + j) :: st) h :=
  zd_go (o := (pc + 2, lst, .ref (1000000 + j) :: st, h)) hc rfl rfl (by unfold zst; simp only [hj])
theorem zd_ldcI {idx : Nat} {v : Int32} (hc : zAt k pc M (.ldc idx) 2) (h0 : zlk zSL (M.1 * 65536 + idx) = none) (hj : (zlk zIL (M.1 * 65536 + idx)).map (fun q => q.1) = some v) : zden k pc lst st h = zden k (pc + 2) lst (.int v :: st) h := by
  cases hz : zlk zIL (M.1 * 65536 + idx) with
  | none => rw [hz] at hj; cases hj
  | some q =>
    rw [hz] at hj
    have hq : q.1 = v := Option.some.inj hj
    subst hq
    exact zd_go (o := (pc + 2, lst, .int q.1 :: st, h)) hc rfl rfl (by unfold zst; simp only [h0, hz])
/-- a call: T's number, kind, arguments as they lie -/
theorem zd_cal {i : Instr} {kd tg : Nat} {T : zMt} {as rest pd : List Value} (hc : zAt k pc M i 3) (hk : zcall M i = some (kd, tg)) (hT : zms[tg]? = some T) (ha : (st.take T.2.2.2.2.2.2.1).reverse = as) (hrest : st.drop T.2.2.2.2.2.2.1 = rest) (hm : zmay M T kd as rest h = true) (hp : zpad T.2.2.2.1 as = pd) :
    zden k pc lst st h = zaft k (pc + 3) lst rest h (zden tg 0 pd [] h) := by
  subst hp
  exact zd_call hc.1 hc.2 hk hT ha hrest hm
end ZE
theorem zite {α : Sort _} {b : Prop} [Decidable b] {x x' y y' : α} (h1 : x = x') (h2 : y = y') : (if b then x else y) = if b then x' else y' := by rw [h1, h2]
