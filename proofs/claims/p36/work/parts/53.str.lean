-- 71: blocks of the texts: String and the reader (written by wip/p36/gen71.py)
theorem hm_Pr_checkIndex : zms[k_Pr_checkIndex]? = some m_Pr_checkIndex := rfl
theorem hm_S1_canEncode : zms[k_S1_canEncode]? = some m_S1_canEncode := rfl
theorem hm_S1_indexOf : zms[k_S1_indexOf]? = some m_S1_indexOf := rfl
theorem hm_S1_indexOfChar : zms[k_S1_indexOfChar]? = some m_S1_indexOfChar := rfl
theorem hm_St_coder : zms[k_St_coder]? = some m_St_coder := rfl
theorem hm_St_isLatin1 : zms[k_St_isLatin1]? = some m_St_isLatin1 := rfl
theorem hm_St_length : zms[k_St_length]? = some m_St_length := rfl
/-- the bytes of the text j -/
def zTB (j : Nat) : List Int32 := zSb.getD j []
def zch (j : Nat) (x : Int32) : Int32 := (zTB j).getD x.toNatClampNeg 0
def zfm (G : Nat → Nat → Int32) : Value := if G 2000002 0 = 0 then Value.null else .ref 1002000
theorem zSb_len : zSb.length = 18 := by decide +kernel
theorem zTB_len : ∀ j, j < 18 → 1 ≤ (zTB j).length ∧ (zTB j).length ≤ 11 := by decide +kernel
theorem zshr0 {x : Int32} : x >>> (0 : Int32) = x := by
  apply Int32.toBitVec_inj.mp
  simp
section ZStr
variable {k pc : Nat} {lst st : List Value} {h : zH} {M : zMt}
theorem zd_getSV {j idx : Nat} (hc : zAt k pc M (.getfield idx) 3) (hq : (zlk zFL (M.1 * 65536 + idx)).map (fun q => (q.1, q.2.1)) = some (10, 0)) (hj : j < 18) : zden k pc lst (.ref (1000000 + j) :: st) h = zden k (pc + 3) lst (.ref (1001000 + j) :: st) h := by
  refine zd_go (o := (pc + 3, lst, .ref (1001000 + j) :: st, h)) hc rfl rfl ?_
  cases hz : zlk zFL (M.1 * 65536 + idx) with
  | none => rw [hz] at hq; cases hq
  | some q =>
    rw [hz] at hq
    have hq := Option.some.inj hq
    obtain ⟨a, b, c⟩ := q
    cases hq
    unfold zst
    simp only [hz]
    show zpush (pc + 3) lst st h (if 1000000 ≤ 1000000 + j ∧ 1000000 + j < 1000000 + zSb.length then (if (0 : Nat) = 0 then some (Value.ref (1000000 + j + 1000)) else some (.int 0)) else none) = _
    rw [if_pos ⟨by omega, by rw [zSb_len]; omega⟩, if_pos rfl, show 1000000 + j + 1000 = 1001000 + j by omega]
    rfl
theorem zd_getSC {j idx : Nat} (hc : zAt k pc M (.getfield idx) 3) (hq : (zlk zFL (M.1 * 65536 + idx)).map (fun q => (q.1, q.2.1)) = some (10, 1)) (hj : j < 18) : zden k pc lst (.ref (1000000 + j) :: st) h = zden k (pc + 3) lst (.int 0 :: st) h := by
  refine zd_go (o := (pc + 3, lst, .int 0 :: st, h)) hc rfl rfl ?_
  cases hz : zlk zFL (M.1 * 65536 + idx) with
  | none => rw [hz] at hq; cases hq
  | some q =>
    rw [hz] at hq
    have hq := Option.some.inj hq
    obtain ⟨a, b, c⟩ := q
    cases hq
    unfold zst
    simp only [hz]
    show zpush (pc + 3) lst st h (if 1000000 ≤ 1000000 + j ∧ 1000000 + j < 1000000 + zSb.length then (if (1 : Nat) = 0 then some (Value.ref (1000000 + j + 1000)) else some (.int 0)) else none) = _
    rw [if_pos ⟨by omega, by rw [zSb_len]; omega⟩, if_neg (by omega)]
    rfl
theorem zd_gst0 {idx : Nat} (hc : zAt k pc M (.getstatic idx) 3) (hq : (zlk zGS (M.1 * 65536 + idx)).map (fun q => q.1) = some 0) : zden k pc lst st h = zden k (pc + 3) lst (.int 1 :: st) h := by
  refine zd_go (o := (pc + 3, lst, .int 1 :: st, h)) hc rfl rfl ?_
  cases hz : zlk zGS (M.1 * 65536 + idx) with
  | none => rw [hz] at hq; cases hq
  | some q =>
    rw [hz] at hq
    have hq : q.1 = 0 := Option.some.inj hq
    unfold zst
    simp only [hz, hq, if_true]
theorem zd_gst1 {idx : Nat} {G : Nat → Nat → Int32} {sh : List zS} (hc : zAt k pc M (.getstatic idx) 3) (hq : (zlk zGS (M.1 * 65536 + idx)).map (fun q => q.1) = some 1) : zden k pc lst st (sh, G) = zden k (pc + 3) lst (zfm G :: st) (sh, G) := by
  refine zd_go (o := (pc + 3, lst, zfm G :: st, (sh, G))) hc rfl rfl ?_
  cases hz : zlk zGS (M.1 * 65536 + idx) with
  | none => rw [hz] at hq; cases hq
  | some q =>
    rw [hz] at hq
    have hq : q.1 = 1 := Option.some.inj hq
    unfold zst
    simp only [hz, hq]
    rfl
theorem zd_blen {j : Nat} (hc : zAt k pc M .arraylength 1) (hj : j < 18) : zden k pc lst (.ref (1001000 + j) :: st) h = zden k (pc + 1) lst (.int (nI (zTB j).length) :: st) h := by
  refine zd_go (o := (pc + 1, lst, .int (nI (zTB j).length) :: st, h)) hc rfl rfl ?_
  unfold zst zal
  have e1 : ¬ 1001000 + j = 2000000 := by omega
  have e2 : 1001000 ≤ 1001000 + j ∧ 1001000 + j < 1001000 + zSb.length := ⟨by omega, by rw [zSb_len]; omega⟩
  simp only [if_neg e1, if_pos e2, Nat.add_sub_cancel_left]
  rfl
theorem zd_bald {j : Nat} {x : Int32} (hc : zAt k pc M .baload 1) (hj : j < 18) (hx : zin x (zTB j).length = true) : zden k pc lst (.int x :: .ref (1001000 + j) :: st) h = zden k (pc + 1) lst (.int (zch j x) :: st) h := by
  refine zd_go (o := (pc + 1, lst, .int (zch j x) :: st, h)) hc rfl rfl ?_
  unfold zst zba
  have e2 : 1001000 ≤ 1001000 + j ∧ 1001000 + j < 1001000 + zSb.length ∧ zin x (zSb.getD (1001000 + j - 1001000) []).length = true := ⟨by omega, by rw [zSb_len]; omega, by rw [Nat.add_sub_cancel_left]; exact hx⟩
  simp only [if_pos e2]
  rw [Nat.add_sub_cancel_left]
  rfl
theorem zmay_str {M T : zMt} {j : Nat} {as rest : List Value} {h : zH} (hj : j < 18) (hk : (Nat.blt T.2.2.2.2.2.1 M.2.2.2.2.2.1 && Nat.beq (as.length + 1) T.2.2.2.2.2.2.1 && Nat.ble (as.length + 1) T.2.2.2.1 && as.all zcat1 && Nat.ble (zwd rest) 8 && Nat.beq T.1 10) = true) : zmay M T 0 (.ref (1000000 + j) :: as) rest h = true := by
  simp only [Bool.and_eq_true] at hk
  obtain ⟨⟨⟨⟨⟨h1, h2⟩, h3⟩, h4⟩, h5⟩, h6⟩ := hk
  have h6 := Nat.eq_of_beq_eq_true h6
  have hz : zrcv h T.1 (.ref (1000000 + j) :: as) = true := by
    unfold zrcv
    simp only [h6, if_true, zSb_len, Bool.and_eq_true]
    exact ⟨Nat.ble_eq.mpr (by omega), Nat.blt_eq.mpr (by omega)⟩
  unfold zmay
  simp only [List.length_cons, List.all_cons, h1, h2, h3, h4, h5, hz]
  rfl
def zlswL (pc : Nat) : List (Int × Int) → List (Int32 × Nat) → Bool
  | [], [] => true
  | (v, o) :: os, (a, t) :: l => decide (a.toInt = v) && decide (zbr pc o = some t) && zlswL pc os l
  | _, _ => false
theorem zlsw_eq {x : Int32} {d : Int} {td : Nat} (hd : zbr pc d = some td) : ∀ {ps : List (Int × Int)} {l : List (Int32 × Nat)}, zlswL pc ps l = true → zgo k (zsw pc lst st h (Op.lookupswitch.offset ps d x.toInt)) = zselD k lst st h x td l := by
  intro ps
  induction ps with
  | nil =>
    intro l hl
    cases l with
    | cons a l => cases hl
    | nil =>
      show zgo k (zsw pc lst st h d) = _
      unfold zsw
      rw [hd]
      rfl
  | cons p ps ih =>
    intro l hl
    cases l with
    | nil => cases hl
    | cons a l =>
      obtain ⟨v, o⟩ := p
      obtain ⟨b, t⟩ := a
      simp only [zlswL, Bool.and_eq_true, decide_eq_true_eq] at hl
      obtain ⟨⟨h1, h2⟩, h3⟩ := hl
      rw [Op.lookupswitch.offset_cons]
      show _ = if x = b then zden k t lst st h else zselD k lst st h x td l
      by_cases e : x = b
      · rw [if_pos e, if_pos (by rw [e, h1])]
        unfold zsw
        rw [h2]
        rfl
      · rw [if_neg e, if_neg (fun q => e (Int32.toInt_inj.mp (q.symm.trans h1.symm))), ih h3]
theorem zd_lsw {d : Int} {ps : Array (Int × Int)} {len td : Nat} {L : List (Int32 × Nat)} {x : Int32} (hc : zAt k pc M (.lookupswitch d ps) len) (hd : zbr pc d = some td) (hL : zlswL pc ps.toList L = true) :
    zden k pc lst (.int x :: st) h = zselD k lst st h x td L := by
  rw [zd_st hc.1 hc.2 rfl rfl]
  exact zlsw_eq hd hL
end ZStr

theorem a_St_isLatin1_0 : zAt 110 0 m_St_isLatin1 (.getstatic 38) 3 := ⟨hm_St_isLatin1, by decide +kernel⟩
theorem a_St_isLatin1_3 : zAt 110 3 m_St_isLatin1 (.ifCond .eq 14) 3 := ⟨hm_St_isLatin1, by decide +kernel⟩
theorem a_St_isLatin1_6 : zAt 110 6 m_St_isLatin1 (.aload_n 0) 1 := ⟨hm_St_isLatin1, by decide +kernel⟩
theorem a_St_isLatin1_7 : zAt 110 7 m_St_isLatin1 (.getfield 15) 3 := ⟨hm_St_isLatin1, by decide +kernel⟩
theorem a_St_isLatin1_10 : zAt 110 10 m_St_isLatin1 (.ifCond .ne 7) 3 := ⟨hm_St_isLatin1, by decide +kernel⟩
theorem a_St_isLatin1_13 : zAt 110 13 m_St_isLatin1 (.iconst 1) 1 := ⟨hm_St_isLatin1, by decide +kernel⟩
theorem a_St_isLatin1_14 : zAt 110 14 m_St_isLatin1 (.goto 4) 3 := ⟨hm_St_isLatin1, by decide +kernel⟩
theorem a_St_isLatin1_18 : zAt 110 18 m_St_isLatin1 (.ireturn) 1 := ⟨hm_St_isLatin1, by decide +kernel⟩
theorem B_St_isLatin1_0 {G : Nat → Nat → Int32} {j : Nat} (hj : j < 18) : zden 110 0 [.ref (1000000 + j)] [] (zSH, G) = some (some (.int 1), (zSH, G)) :=
  (zd_gst0 a_St_isLatin1_0 (by decide +kernel)).trans ((zd_if_eq a_St_isLatin1_3 rfl).trans ((if_neg (by decide)).trans ((zd_aload_n a_St_isLatin1_6 rfl).trans ((zd_getSC (j := j) a_St_isLatin1_7 (by decide +kernel) hj).trans ((zd_if_ne a_St_isLatin1_10 rfl).trans ((if_neg (fun z => z rfl)).trans ((zd_iconst (v := 1) a_St_isLatin1_13 (by decide)).trans ((zd_goto a_St_isLatin1_14 rfl).trans (zd_iret a_St_isLatin1_18 rfl (by decide))))))))))
theorem a_St_coder_0 : zAt 108 0 m_St_coder (.getstatic 38) 3 := ⟨hm_St_coder, by decide +kernel⟩
theorem a_St_coder_3 : zAt 108 3 m_St_coder (.ifCond .eq 10) 3 := ⟨hm_St_coder, by decide +kernel⟩
theorem a_St_coder_6 : zAt 108 6 m_St_coder (.aload_n 0) 1 := ⟨hm_St_coder, by decide +kernel⟩
theorem a_St_coder_7 : zAt 108 7 m_St_coder (.getfield 15) 3 := ⟨hm_St_coder, by decide +kernel⟩
theorem a_St_coder_10 : zAt 108 10 m_St_coder (.goto 4) 3 := ⟨hm_St_coder, by decide +kernel⟩
theorem a_St_coder_14 : zAt 108 14 m_St_coder (.ireturn) 1 := ⟨hm_St_coder, by decide +kernel⟩
theorem B_St_coder_0 {G : Nat → Nat → Int32} {j : Nat} (hj : j < 18) : zden 108 0 [.ref (1000000 + j)] [] (zSH, G) = some (some (.int 0), (zSH, G)) :=
  (zd_gst0 a_St_coder_0 (by decide +kernel)).trans ((zd_if_eq a_St_coder_3 rfl).trans ((if_neg (by decide)).trans ((zd_aload_n a_St_coder_6 rfl).trans ((zd_getSC (j := j) a_St_coder_7 (by decide +kernel) hj).trans ((zd_goto a_St_coder_10 rfl).trans (zd_iret a_St_coder_14 rfl (by decide)))))))
theorem a_St_length_0 : zAt 107 0 m_St_length (.aload_n 0) 1 := ⟨hm_St_length, by decide +kernel⟩
theorem a_St_length_1 : zAt 107 1 m_St_length (.getfield 9) 3 := ⟨hm_St_length, by decide +kernel⟩
theorem a_St_length_4 : zAt 107 4 m_St_length (.arraylength) 1 := ⟨hm_St_length, by decide +kernel⟩
theorem a_St_length_5 : zAt 107 5 m_St_length (.aload_n 0) 1 := ⟨hm_St_length, by decide +kernel⟩
theorem a_St_length_6 : zAt 107 6 m_St_length (.invokevirtual 335) 3 := ⟨hm_St_length, by decide +kernel⟩
theorem a_St_length_9 : zAt 107 9 m_St_length (.ishr) 1 := ⟨hm_St_length, by decide +kernel⟩
theorem a_St_length_10 : zAt 107 10 m_St_length (.ireturn) 1 := ⟨hm_St_length, by decide +kernel⟩
theorem B_St_length_0 {G : Nat → Nat → Int32} {j : Nat} (hj : j < 18) : zden 107 0 [.ref (1000000 + j)] [] (zSH, G) = some (some (.int ((nI (zTB j).length) >>> (0 &&& 31))), (zSH, G)) :=
  (zd_aload_n a_St_length_0 rfl).trans ((zd_getSV (j := j) a_St_length_1 (by decide +kernel) hj).trans ((zd_blen (j := j) a_St_length_4 hj).trans ((zd_aload_n a_St_length_5 rfl).trans ((zd_cal (kd := 0) (tg := 108) (T := m_St_coder) a_St_length_6 (by decide +kernel) hm_St_coder rfl rfl (zmay_str (j := j) hj rfl) rfl).trans (((congrArg (zaft 107 9 [.ref (1000000 + j)] [.int (nI (zTB j).length)] (zSH, G)) (B_St_coder_0 hj)).trans zaft_same).trans ((zd_num (st2 := [.int ((nI (zTB j).length) >>> (0 &&& 31))]) a_St_length_9 rfl rfl rfl rfl).trans (zd_iret a_St_length_10 rfl (znr_int _))))))))
theorem ss_length {G : Nat → Nat → Int32} {j : Nat} (hj : j < 18) : zden 107 0 [.ref (1000000 + j)] [] (zSH, G) = some (some (.int (nI (zTB j).length)), (zSH, G)) := by
  rw [B_St_length_0 hj, show ((0 : Int32) &&& 31) = 0 from by decide, zshr0]
theorem a_Pr_checkIndex_0 : zAt 118 0 m_Pr_checkIndex (.iload_n 0) 1 := ⟨hm_Pr_checkIndex, by decide +kernel⟩
theorem a_Pr_checkIndex_1 : zAt 118 1 m_Pr_checkIndex (.ifCond .lt 8) 3 := ⟨hm_Pr_checkIndex, by decide +kernel⟩
theorem a_Pr_checkIndex_4 : zAt 118 4 m_Pr_checkIndex (.iload_n 0) 1 := ⟨hm_Pr_checkIndex, by decide +kernel⟩
theorem a_Pr_checkIndex_5 : zAt 118 5 m_Pr_checkIndex (.iload_n 1) 1 := ⟨hm_Pr_checkIndex, by decide +kernel⟩
theorem a_Pr_checkIndex_6 : zAt 118 6 m_Pr_checkIndex (.if_icmp .lt 10) 3 := ⟨hm_Pr_checkIndex, by decide +kernel⟩
theorem a_Pr_checkIndex_16 : zAt 118 16 m_Pr_checkIndex (.iload_n 0) 1 := ⟨hm_Pr_checkIndex, by decide +kernel⟩
theorem a_Pr_checkIndex_17 : zAt 118 17 m_Pr_checkIndex (.ireturn) 1 := ⟨hm_Pr_checkIndex, by decide +kernel⟩
theorem B_Pr_checkIndex_0 {G : Nat → Nat → Int32} {x0 x1 : Int32} {v2 : Value} (h0 : ¬ x0 < 0) (h1 : x0 < x1) : zden 118 0 [.int x0, .int x1, v2] [] (zSH, G) = some (some (.int x0), (zSH, G)) :=
  (zd_iload_n a_Pr_checkIndex_0 rfl).trans ((zd_if_lt a_Pr_checkIndex_1 rfl).trans ((if_neg h0).trans ((zd_iload_n a_Pr_checkIndex_4 rfl).trans ((zd_iload_n a_Pr_checkIndex_5 rfl).trans ((zd_icmp_lt a_Pr_checkIndex_6 rfl).trans ((if_pos h1).trans ((zd_iload_n a_Pr_checkIndex_16 rfl).trans (zd_iret a_Pr_checkIndex_17 rfl (znr_int _)))))))))
theorem a_S1_canEncode_0 : zAt 116 0 m_S1_canEncode (.iload_n 0) 1 := ⟨hm_S1_canEncode, by decide +kernel⟩
theorem a_S1_canEncode_1 : zAt 116 1 m_S1_canEncode (.ifCond .lt 14) 3 := ⟨hm_S1_canEncode, by decide +kernel⟩
theorem a_S1_canEncode_4 : zAt 116 4 m_S1_canEncode (.iload_n 0) 1 := ⟨hm_S1_canEncode, by decide +kernel⟩
theorem a_S1_canEncode_5 : zAt 116 5 m_S1_canEncode (.sipush 255) 3 := ⟨hm_S1_canEncode, by decide +kernel⟩
theorem a_S1_canEncode_8 : zAt 116 8 m_S1_canEncode (.if_icmp .gt 7) 3 := ⟨hm_S1_canEncode, by decide +kernel⟩
theorem a_S1_canEncode_11 : zAt 116 11 m_S1_canEncode (.iconst 1) 1 := ⟨hm_S1_canEncode, by decide +kernel⟩
theorem a_S1_canEncode_12 : zAt 116 12 m_S1_canEncode (.goto 4) 3 := ⟨hm_S1_canEncode, by decide +kernel⟩
theorem a_S1_canEncode_15 : zAt 116 15 m_S1_canEncode (.iconst 0) 1 := ⟨hm_S1_canEncode, by decide +kernel⟩
theorem a_S1_canEncode_16 : zAt 116 16 m_S1_canEncode (.ireturn) 1 := ⟨hm_S1_canEncode, by decide +kernel⟩
theorem B_S1_canEncode_0 {G : Nat → Nat → Int32} {x0 : Int32} : zden 116 0 [.int x0] [] (zSH, G) = if x0 < 0 then some (some (.int 0), (zSH, G)) else if 255 < x0 then some (some (.int 0), (zSH, G)) else some (some (.int 1), (zSH, G)) :=
  (zd_iload_n a_S1_canEncode_0 rfl).trans ((zd_if_lt a_S1_canEncode_1 rfl).trans (zitc (fun p3 => (zd_iconst (v := 0) a_S1_canEncode_15 (by decide)).trans (zd_iret a_S1_canEncode_16 rfl (by decide))) (fun p3 => (zd_iload_n a_S1_canEncode_4 rfl).trans ((zd_sipush (v := 255) a_S1_canEncode_5 (by decide)).trans ((zd_icmp_gt a_S1_canEncode_8 rfl).trans (zitc (fun p4 => (zd_iconst (v := 0) a_S1_canEncode_15 (by decide)).trans (zd_iret a_S1_canEncode_16 rfl (by decide))) (fun p4 => (zd_iconst (v := 1) a_S1_canEncode_11 (by decide)).trans ((zd_goto a_S1_canEncode_12 rfl).trans (zd_iret a_S1_canEncode_16 rfl (by decide))))))))))
theorem a_S1_indexOfChar_0 : zAt 117 0 m_S1_indexOfChar (.iload_n 1) 1 := ⟨hm_S1_indexOfChar, by decide +kernel⟩
theorem a_S1_indexOfChar_1 : zAt 117 1 m_S1_indexOfChar (.i2b) 1 := ⟨hm_S1_indexOfChar, by decide +kernel⟩
theorem a_S1_indexOfChar_2 : zAt 117 2 m_S1_indexOfChar (.istore 4) 2 := ⟨hm_S1_indexOfChar, by decide +kernel⟩
theorem a_S1_indexOfChar_4 : zAt 117 4 m_S1_indexOfChar (.iload_n 2) 1 := ⟨hm_S1_indexOfChar, by decide +kernel⟩
theorem a_S1_indexOfChar_5 : zAt 117 5 m_S1_indexOfChar (.istore 5) 2 := ⟨hm_S1_indexOfChar, by decide +kernel⟩
theorem a_S1_indexOfChar_7 : zAt 117 7 m_S1_indexOfChar (.iload 5) 2 := ⟨hm_S1_indexOfChar, by decide +kernel⟩
theorem a_S1_indexOfChar_9 : zAt 117 9 m_S1_indexOfChar (.iload_n 3) 1 := ⟨hm_S1_indexOfChar, by decide +kernel⟩
theorem a_S1_indexOfChar_10 : zAt 117 10 m_S1_indexOfChar (.if_icmp .ge 21) 3 := ⟨hm_S1_indexOfChar, by decide +kernel⟩
theorem a_S1_indexOfChar_13 : zAt 117 13 m_S1_indexOfChar (.aload_n 0) 1 := ⟨hm_S1_indexOfChar, by decide +kernel⟩
theorem a_S1_indexOfChar_14 : zAt 117 14 m_S1_indexOfChar (.iload 5) 2 := ⟨hm_S1_indexOfChar, by decide +kernel⟩
theorem a_S1_indexOfChar_16 : zAt 117 16 m_S1_indexOfChar (.baload) 1 := ⟨hm_S1_indexOfChar, by decide +kernel⟩
theorem a_S1_indexOfChar_17 : zAt 117 17 m_S1_indexOfChar (.iload 4) 2 := ⟨hm_S1_indexOfChar, by decide +kernel⟩
theorem a_S1_indexOfChar_19 : zAt 117 19 m_S1_indexOfChar (.if_icmp .ne 6) 3 := ⟨hm_S1_indexOfChar, by decide +kernel⟩
theorem a_S1_indexOfChar_22 : zAt 117 22 m_S1_indexOfChar (.iload 5) 2 := ⟨hm_S1_indexOfChar, by decide +kernel⟩
theorem a_S1_indexOfChar_24 : zAt 117 24 m_S1_indexOfChar (.ireturn) 1 := ⟨hm_S1_indexOfChar, by decide +kernel⟩
theorem a_S1_indexOfChar_25 : zAt 117 25 m_S1_indexOfChar (.iinc 5 1) 3 := ⟨hm_S1_indexOfChar, by decide +kernel⟩
theorem a_S1_indexOfChar_28 : zAt 117 28 m_S1_indexOfChar (.goto (-21)) 3 := ⟨hm_S1_indexOfChar, by decide +kernel⟩
theorem a_S1_indexOfChar_31 : zAt 117 31 m_S1_indexOfChar (.iconst (-1)) 1 := ⟨hm_S1_indexOfChar, by decide +kernel⟩
theorem a_S1_indexOfChar_32 : zAt 117 32 m_S1_indexOfChar (.ireturn) 1 := ⟨hm_S1_indexOfChar, by decide +kernel⟩
theorem B_S1_indexOfChar_0 {G : Nat → Nat → Int32} {j : Nat} {x1 x2 x3 : Int32} (hj : j < 18) : zden 117 0 [.ref (1001000 + j), .int x1, .int x2, .int x3, .retAddr 0, .retAddr 0] [] (zSH, G) = zden 117 7 [.ref (1001000 + j), .int x1, .int x2, .int x3, .int x1.toInt8.toInt32, .int x2] [] (zSH, G) :=
  (zd_iload_n a_S1_indexOfChar_0 rfl).trans ((zd_num (st2 := [.int x1.toInt8.toInt32]) a_S1_indexOfChar_1 rfl rfl rfl rfl).trans ((zd_istore a_S1_indexOfChar_2 rfl rfl rfl).trans ((zd_iload_n a_S1_indexOfChar_4 rfl).trans ((zd_istore a_S1_indexOfChar_5 rfl rfl rfl)))))
theorem B_S1_indexOfChar_7 {G : Nat → Nat → Int32} {j : Nat} {x1 x2 x3 x4 x5 : Int32} (hj : j < 18) (z16_0 : (¬ (x3 ≤ x5)) → zin x5 (zTB j).length = true) : zden 117 7 [.ref (1001000 + j), .int x1, .int x2, .int x3, .int x4, .int x5] [] (zSH, G) = if x3 ≤ x5 then some (some (.int (-1)), (zSH, G)) else if ¬ (zch j x5) = x4 then zden 117 7 [.ref (1001000 + j), .int x1, .int x2, .int x3, .int x4, .int (x5 + 1)] [] (zSH, G) else some (some (.int x5), (zSH, G)) :=
  (zd_iload a_S1_indexOfChar_7 rfl).trans ((zd_iload_n a_S1_indexOfChar_9 rfl).trans ((zd_icmp_ge a_S1_indexOfChar_10 rfl).trans (zitc (fun p3 => (zd_iconst (v := (-1)) a_S1_indexOfChar_31 (by decide)).trans (zd_iret a_S1_indexOfChar_32 rfl (znr_int _))) (fun p3 => (zd_aload_n a_S1_indexOfChar_13 rfl).trans ((zd_iload a_S1_indexOfChar_14 rfl).trans ((zd_bald (j := j) a_S1_indexOfChar_16 hj (z16_0 p3)).trans ((zd_iload a_S1_indexOfChar_17 rfl).trans ((zd_icmp_ne a_S1_indexOfChar_19 rfl).trans (zitc (fun p4 => (zd_iinc (v := 1) a_S1_indexOfChar_25 rfl (by decide) rfl rfl rfl).trans ((zd_goto a_S1_indexOfChar_28 rfl))) (fun p4 => (zd_iload a_S1_indexOfChar_22 rfl).trans (zd_iret a_S1_indexOfChar_24 rfl (znr_int _))))))))))))
def zcan (x : Int32) : Int32 := if x < 0 then 0 else if 255 < x then 0 else 1
theorem ss_can {G : Nat → Nat → Int32} {x : Int32} : zden 116 0 [.int x] [] (zSH, G) = some (some (.int (zcan x)), (zSH, G)) := by
  rw [B_S1_canEncode_0]
  unfold zcan
  by_cases h : x < 0
  · rw [if_pos h, if_pos h]
  · rw [if_neg h, if_neg h]
    by_cases h2 : 255 < x
    · rw [if_pos h2, if_pos h2]
    · rw [if_neg h2, if_neg h2]
theorem a_S1_indexOf_0 : zAt 115 0 m_S1_indexOf (.iload_n 1) 1 := ⟨hm_S1_indexOf, by decide +kernel⟩
theorem a_S1_indexOf_1 : zAt 115 1 m_S1_indexOf (.invokestatic 88) 3 := ⟨hm_S1_indexOf, by decide +kernel⟩
theorem a_S1_indexOf_4 : zAt 115 4 m_S1_indexOf (.ifCond .ne 5) 3 := ⟨hm_S1_indexOf, by decide +kernel⟩
theorem a_S1_indexOf_7 : zAt 115 7 m_S1_indexOf (.iconst (-1)) 1 := ⟨hm_S1_indexOf, by decide +kernel⟩
theorem a_S1_indexOf_8 : zAt 115 8 m_S1_indexOf (.ireturn) 1 := ⟨hm_S1_indexOf, by decide +kernel⟩
theorem a_S1_indexOf_9 : zAt 115 9 m_S1_indexOf (.iload_n 2) 1 := ⟨hm_S1_indexOf, by decide +kernel⟩
theorem a_S1_indexOf_10 : zAt 115 10 m_S1_indexOf (.iconst 0) 1 := ⟨hm_S1_indexOf, by decide +kernel⟩
theorem a_S1_indexOf_11 : zAt 115 11 m_S1_indexOf (.invokestatic 92) 3 := ⟨hm_S1_indexOf, by decide +kernel⟩
theorem a_S1_indexOf_14 : zAt 115 14 m_S1_indexOf (.istore_n 2) 1 := ⟨hm_S1_indexOf, by decide +kernel⟩
theorem a_S1_indexOf_15 : zAt 115 15 m_S1_indexOf (.iload_n 3) 1 := ⟨hm_S1_indexOf, by decide +kernel⟩
theorem a_S1_indexOf_16 : zAt 115 16 m_S1_indexOf (.aload_n 0) 1 := ⟨hm_S1_indexOf, by decide +kernel⟩
theorem a_S1_indexOf_17 : zAt 115 17 m_S1_indexOf (.arraylength) 1 := ⟨hm_S1_indexOf, by decide +kernel⟩
theorem a_S1_indexOf_18 : zAt 115 18 m_S1_indexOf (.invokestatic 38) 3 := ⟨hm_S1_indexOf, by decide +kernel⟩
theorem a_S1_indexOf_21 : zAt 115 21 m_S1_indexOf (.istore_n 3) 1 := ⟨hm_S1_indexOf, by decide +kernel⟩
theorem a_S1_indexOf_22 : zAt 115 22 m_S1_indexOf (.iload_n 2) 1 := ⟨hm_S1_indexOf, by decide +kernel⟩
theorem a_S1_indexOf_23 : zAt 115 23 m_S1_indexOf (.iload_n 3) 1 := ⟨hm_S1_indexOf, by decide +kernel⟩
theorem a_S1_indexOf_24 : zAt 115 24 m_S1_indexOf (.if_icmp .lt 5) 3 := ⟨hm_S1_indexOf, by decide +kernel⟩
theorem a_S1_indexOf_27 : zAt 115 27 m_S1_indexOf (.iconst (-1)) 1 := ⟨hm_S1_indexOf, by decide +kernel⟩
theorem a_S1_indexOf_28 : zAt 115 28 m_S1_indexOf (.ireturn) 1 := ⟨hm_S1_indexOf, by decide +kernel⟩
theorem a_S1_indexOf_29 : zAt 115 29 m_S1_indexOf (.aload_n 0) 1 := ⟨hm_S1_indexOf, by decide +kernel⟩
theorem a_S1_indexOf_30 : zAt 115 30 m_S1_indexOf (.iload_n 1) 1 := ⟨hm_S1_indexOf, by decide +kernel⟩
theorem a_S1_indexOf_31 : zAt 115 31 m_S1_indexOf (.iload_n 2) 1 := ⟨hm_S1_indexOf, by decide +kernel⟩
theorem a_S1_indexOf_32 : zAt 115 32 m_S1_indexOf (.iload_n 3) 1 := ⟨hm_S1_indexOf, by decide +kernel⟩
theorem a_S1_indexOf_33 : zAt 115 33 m_S1_indexOf (.invokestatic 95) 3 := ⟨hm_S1_indexOf, by decide +kernel⟩
theorem a_S1_indexOf_36 : zAt 115 36 m_S1_indexOf (.ireturn) 1 := ⟨hm_S1_indexOf, by decide +kernel⟩
theorem B_S1_indexOf_0 {G : Nat → Nat → Int32} {j : Nat} {x1 x2 x3 : Int32} (hj : j < 18) : zden 115 0 [.ref (1001000 + j), .int x1, .int x2, .int x3] [] (zSH, G) = if ¬ (zcan x1) = 0 then if (if x2 < 0 then 0 else x2) < (if (nI (zTB j).length) < x3 then nI (zTB j).length else x3) then zaft 115 36 [.ref (1001000 + j), .int x1, .int (if x2 < 0 then 0 else x2), .int (if (nI (zTB j).length) < x3 then nI (zTB j).length else x3)] [] (zSH, G) (zden 117 0 [.ref (1001000 + j), .int x1, .int (if x2 < 0 then 0 else x2), .int (if (nI (zTB j).length) < x3 then nI (zTB j).length else x3), .retAddr 0, .retAddr 0] [] (zSH, G)) else some (some (.int (-1)), (zSH, G)) else some (some (.int (-1)), (zSH, G)) :=
  (zd_iload_n a_S1_indexOf_0 rfl).trans ((zd_cal (kd := 1) (tg := 116) (T := m_S1_canEncode) a_S1_indexOf_1 (by decide +kernel) hm_S1_canEncode rfl rfl rfl rfl).trans (((congrArg (zaft 115 4 [.ref (1001000 + j), .int x1, .int x2, .int x3] [] (zSH, G)) (ss_can)).trans zaft_same).trans ((zd_if_ne a_S1_indexOf_4 rfl).trans (zitc (fun p5 => (zd_iload_n a_S1_indexOf_9 rfl).trans ((zd_iconst (v := 0) a_S1_indexOf_10 (by decide)).trans ((zd_max a_S1_indexOf_11 (by decide +kernel) (by decide +kernel) rfl).trans ((zd_istore_n a_S1_indexOf_14 rfl rfl rfl).trans ((zd_iload_n a_S1_indexOf_15 rfl).trans ((zd_aload_n a_S1_indexOf_16 rfl).trans ((zd_blen (j := j) a_S1_indexOf_17 hj).trans ((zd_min a_S1_indexOf_18 (by decide +kernel) (by decide +kernel) rfl).trans ((zd_istore_n a_S1_indexOf_21 rfl rfl rfl).trans ((zd_iload_n a_S1_indexOf_22 rfl).trans ((zd_iload_n a_S1_indexOf_23 rfl).trans ((zd_icmp_lt a_S1_indexOf_24 rfl).trans (zitc (fun p6 => (zd_aload_n a_S1_indexOf_29 rfl).trans ((zd_iload_n a_S1_indexOf_30 rfl).trans ((zd_iload_n a_S1_indexOf_31 rfl).trans ((zd_iload_n a_S1_indexOf_32 rfl).trans ((zd_cal (kd := 1) (tg := 117) (T := m_S1_indexOfChar) a_S1_indexOf_33 (by decide +kernel) hm_S1_indexOfChar rfl rfl rfl rfl)))))) (fun p6 => (zd_iconst (v := (-1)) a_S1_indexOf_27 (by decide)).trans (zd_iret a_S1_indexOf_28 rfl (znr_int _)))))))))))))))) (fun p5 => (zd_iconst (v := (-1)) a_S1_indexOf_7 (by decide)).trans (zd_iret a_S1_indexOf_8 rfl (znr_int _)))))))
theorem B_S1_indexOf_36 {G : Nat → Nat → Int32} {j : Nat} {x1 x2 x3 s0 : Int32} (hj : j < 18) : zden 115 36 [.ref (1001000 + j), .int x1, .int x2, .int x3] [.int s0] (zSH, G) = some (some (.int s0), (zSH, G)) :=
  zd_iret a_S1_indexOf_36 rfl (znr_int _)
