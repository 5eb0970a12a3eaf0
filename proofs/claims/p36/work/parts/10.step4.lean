-- 10: one instruction, whichever it is
section ZX
variable {p : Program} {l : Launch} {e : Env} {R : Room} {s : State} {m : MethodId} {args : Array Value} {below : List Frame} {meth : Method} {c : Code} {H : Heap} {locs : List Loc} {cells slots : Nat} {Q : State → Prop}
variable {dC : Nat → ClassId} {dI : Nat → Nat → Nat} {A : Nat → Prop} {M : zMt} {ad : Nat → Nat} {cA : Nat → ClassId} {h : zH} {ls : Array Slot} {lst st : List Value} {pc len : Nat}
theorem zcode_ok {i : Instr} (hM : M ∈ zms) (hc : zlk M.2.2.2.2.2.2.2 pc = some (i, len)) : decode M.2.2.1 pc = .ok (i, len) ∧ zlenOk i len = true := by
  have h1 := zck M hM
  unfold zckM at h1
  have h2 := List.all_eq_true.mp h1 _ (zlk_mem hc)
  simp only [Bool.and_eq_true, decide_eq_true_eq] at h2
  exact h2
theorem zst_sim {i : Instr} {o : zC} (hM : M ∈ zms) (hc : zlk M.2.2.2.2.2.2.2 pc = some (i, len)) (C : zCtx p R s m args meth c A M) (O : zOk dC dI s A M ad cA h H locs ls lst) (hz : zst M i len pc lst st h = some o)
    (hcl : cells + o.2.2.2.1.length ≤ R.cells + h.1.length) (hsl : slots + zsl o.2.2.2.1 ≤ R.slots + zsl h.1) (hm1 : h.1.length ≤ o.2.2.2.1.length) (hm2 : zsl h.1 ≤ zsl o.2.2.2.1)
    (k : zGo p l e R s m args below meth c cells slots Q dC dI A M ad h o) : W p l e R s m args below meth c H locs cells slots Q (F0 m pc ls (st.map (zv ad))) := by
  obtain ⟨hd, hlen⟩ := zcode_ok hM hc
  have hI := List.all_eq_true.mp (zidx_le M hM) _ (zlk_mem hc)
  have h8 := List.all_eq_true.mp (zck8 M hM) _ (zlk_mem hc)
  have hx := C.1
  have hb := C.2.1
  have hown := C.2.2.2.1
  have hts := C.2.2.2.2.1
  have hS := O.2.2.2.1
  unfold zst at hz
  split at hz
  · have := eq_of_beq hlen; subst this
    cases hz
    exact lv_bipush hx hb hd rfl (k.same rfl rfl O)
  · have := eq_of_beq hlen; subst this
    cases hz
    exact lv_sipush hx hb hd rfl (k.same rfl rfl O)
  · have := eq_of_beq hlen; subst this
    rename_i idx
    have hidx : idx < 65536 := Nat.blt_eq.mp hI
    split at hz
    case h_2 =>
      split at hz
      case h_2 => cases hz
      case h_1 q hq =>
      cases hz
      have hw := List.all_eq_true.mp zIL_ok _ (zlk_mem hq)
      unfold zckI at hw
      simp only [zkey1 hidx, zkey2 hidx] at hw
      exact lv_ldc hx hb hown (zfl_word hts hw) hd (k.same rfl rfl O)
    case h_1 j hj =>
    cases hz
    have hR := O.2.2.2.2.2.1.2.1 _ (zlk_mem hj)
    simp only [zkey1 hidx, zkey2 hidx] at hR
    exact va_ldcS hx hb hown hR hd (k.same rfl rfl O)
  · have := eq_of_beq hlen; subst this
    exact zst_ldi O hz k (fun x hl kk => lv_iload_n hx hb hd rfl hl kk)
  · have := eq_of_beq hlen; subst this
    exact zst_ldi O hz k (fun x hl kk => lv_iload hx hb hd hl kk)
  · have := eq_of_beq hlen; subst this
    exact zst_ldd O hz k (fun x hl kk => lv_dload_n hx hb hd rfl hl kk)
  · have := eq_of_beq hlen; subst this
    exact zst_ldd O hz k (fun x hl kk => lv_dload hx hb hd hl kk)
  · have := eq_of_beq hlen; subst this
    exact zst_lda O hz k (fun x hl kk => lv_aload_n hx hb hd rfl hl kk) (fun hl kk => lv_aload_nN hx hb hd rfl hl kk)
  · have := eq_of_beq hlen; subst this
    exact zst_lda O hz k (fun x hl kk => lv_aload hx hb hd hl kk) (fun hl kk => lv_aloadN hx hb hd hl kk)
  · have := eq_of_beq hlen; subst this
    obtain ⟨x, r, rfl, hz⟩ := zsti_inv hz
    obtain ⟨h1, h2⟩ := zsto_sim O hz k
    exact lv_istore_n hx hb hd rfl (zL_lv O.2.2.2.2.1) h1 rfl h2
  · have := eq_of_beq hlen; subst this
    obtain ⟨x, r, rfl, hz⟩ := zsti_inv hz
    obtain ⟨h1, h2⟩ := zsto_sim O hz k
    exact lv_istore hx hb hd (zL_lv O.2.2.2.2.1) h1 rfl h2
  · have := eq_of_beq hlen; subst this
    rcases zsta_inv hz with ⟨x, r, rfl, hz⟩ | ⟨r, rfl, hz⟩
    · obtain ⟨h1, h2⟩ := zsto_sim O hz k
      exact lv_astore_n hx hb hd rfl (zL_lv O.2.2.2.2.1) h1 rfl h2
    · obtain ⟨h1, h2⟩ := zsto_sim O hz k
      exact lv_astore_nN hx hb hd rfl (zL_lv O.2.2.2.2.1) h1 rfl h2
  · have := eq_of_beq hlen; subst this
    rcases zsta_inv hz with ⟨x, r, rfl, hz⟩ | ⟨r, rfl, hz⟩
    · obtain ⟨h1, h2⟩ := zsto_sim O hz k
      exact lv_astore hx hb hd (zL_lv O.2.2.2.2.1) h1 rfl h2
    · obtain ⟨h1, h2⟩ := zsto_sim O hz k
      exact lv_astoreN hx hb hd (zL_lv O.2.2.2.2.1) h1 rfl h2
  · have := eq_of_beq hlen; subst this
    obtain ⟨x, r, rfl, hz⟩ := zstd_inv hz
    obtain ⟨h1, h2⟩ := zstoD_sim O hz k
    exact lv_dstore_n hx hb hd rfl (zL_lv O.2.2.2.2.1) h1 rfl h2
  · have := eq_of_beq hlen; subst this
    obtain ⟨x, r, rfl, hz⟩ := zstd_inv hz
    obtain ⟨h1, h2⟩ := zstoD_sim O hz k
    exact lv_dstore hx hb hd (zL_lv O.2.2.2.2.1) h1 rfl h2
  · rename_i n kk
    split at hz
    case h_2 => cases hz
    case h_1 x hx1 =>
    obtain ⟨h1, h2⟩ := zsto_sim O hz k
    obtain ⟨j, hj⟩ := List.getElem?_of_mem (zlv_mem (ad := ad) hx1 (fun _ q => by cases q))
    have hl2 : len = 3 ∨ len = 6 := by
      have : (len == 3 || len == 6) = true := hlen
      simpa using this
    rcases hl2 with rfl | rfl
    · exact lv_iinc hx hb hd (zL_lv O.2.2.2.2.1) hj rfl h1 rfl h2
    · exact lv_iincW hx hb hd (zL_lv O.2.2.2.2.1) hj rfl h1 rfl h2
  · have := eq_of_beq hlen; subst this
    obtain ⟨t, ht, rfl⟩ := zsw_inv hz
    exact lv_goto hx hb hd ht (k.same rfl rfl O)
  · have := eq_of_beq hlen; subst this
    split at hz
    case h_2 => cases hz
    case h_1 x r =>
    obtain ⟨h1, h2, h3, kk⟩ := zifc_sim (ad := ad) hx hb hd hz
    exact kk (by
      have O' : zOk dC dI s A M ad cA o.2.2.2 H locs ls o.2.1 := by rw [h1, h3]; exact O
      have := k.same (by rw [h3]) (by rw [h3]) O'
      rw [h2] at this
      exact this)
  · have := eq_of_beq hlen; subst this
    split at hz
    case h_2 => cases hz
    case h_1 y x r =>
    obtain ⟨h1, h2, h3, kk⟩ := zicmp_sim (ad := ad) hx hb hd hz
    exact kk (by
      have O' : zOk dC dI s A M ad cA o.2.2.2 H locs ls o.2.1 := by rw [h1, h3]; exact O
      have := k.same (by rw [h3]) (by rw [h3]) O'
      rw [h2] at this
      exact this)
  · have := eq_of_beq hlen; subst this
    split at hz
    · cases hz
      exact lv_ifnull hx hb hd (k.same rfl rfl O)
    · obtain ⟨t, ht, rfl⟩ := zsw_inv hz
      exact lv_ifnullN hx hb hd ht (k.same rfl rfl O)
    · cases hz
  · split at hz
    case h_2 => cases hz
    case h_1 x r =>
    split at hz
    · rename_i hout
      obtain ⟨t, ht, rfl⟩ := zsw_inv hz
      exact lv_tableOut hx hb hd hout ht (k.same rfl rfl O)
    · rename_i hout
      split at hz
      case h_2 => cases hz
      case h_1 off hoff =>
      obtain ⟨t, ht, rfl⟩ := zsw_inv hz
      exact lv_tableIn hx hb hd (fun q => hout (Or.inl q)) (fun q => hout (Or.inr q)) hoff ht (k.same rfl rfl O)
  · split at hz
    case h_2 => cases hz
    case h_1 x r =>
    obtain ⟨t, ht, rfl⟩ := zsw_inv hz
    exact lv_lookup hx hb hd hlen rfl ht (k.same rfl rfl O)
  · have := eq_of_beq hlen; subst this
    rename_i idx
    split at hz
    case h_2 => cases hz
    case h_1 q hq =>
    have hidx : idx < 65536 := Nat.blt_eq.mp hI
    have hw := List.all_eq_true.mp zGS_ok _ (zlk_mem hq)
    unfold zckG at hw
    simp only [zkey1 hidx, zkey2 hidx] at hw
    have hRo := O.2.2.2.2.2.1
    split at hz
    · rename_i h0
      cases hz
      rw [h0] at hw
      exact va_gets hx hb hRo.2.2.1 hS hown (zfl_word hts hw) (fun _ h9 => h9) hd (k.same rfl rfl O)
    · rename_i h0
      cases hz
      have h1 : q.1 = 1 := by
        rcases q with ⟨a, b⟩
        match a, hw with
        | 0, _ => exact absurd rfl h0
        | 1, _ => rfl
        | n + 2, hw => cases hw
      rw [h1] at hw
      rcases O.2.2.2.2.2.2.1.2 with ⟨z1, z2⟩ | ⟨z1, z2⟩
      · rw [if_pos z1] at k
        exact va_gets hx hb z2 hS hown (zfl_word hts hw) (fun _ h9 => h9) hd (k.same rfl rfl O)
      · rw [if_neg z1] at k
        exact va_gets hx hb z2 hS hown (zfl_word hts hw) (fun _ h9 => h9) hd (k.same rfl rfl O)
  · have := eq_of_beq hlen; subst this
    rename_i idx
    split at hz
    case h_2 => cases hz
    case h_1 r rest =>
    split at hz
    case h_2 => cases hz
    case h_1 q hq =>
    obtain ⟨v, hv, rfl⟩ := zpush_inv hz
    exact zgf_sim C O (Nat.blt_eq.mp hI) hq hv hd (k.same rfl rfl O)
  · have := eq_of_beq hlen; subst this
    rename_i idx
    split at hz
    case h_2 => cases hz
    case h_1 v r rest =>
    split at hz
    case h_2 => cases hz
    case h_1 q hq =>
    obtain ⟨h', hv, rfl⟩ := zhset_inv hz
    exact zpf_sim (t := 0) C O (Nat.blt_eq.mp hI) hq hv hd k
  · have := eq_of_beq hlen; subst this
    split at hz
    case h_2 => cases hz
    case h_1 r rest =>
    split at hz
    case h_2 => cases hz
    case h_1 x hv =>
    cases hz
    exact zal_sim C O hv hd (k.same rfl rfl O)
  · have := eq_of_beq hlen; subst this
    split at hz
    case h_2 => cases hz
    case h_1 i r rest =>
    obtain ⟨v, hv, rfl⟩ := zpush_inv hz
    exact zia_sim C O hv hd (k.same rfl rfl O)
  · have := eq_of_beq hlen; subst this
    split at hz
    case h_2 => cases hz
    case h_1 i r rest =>
    obtain ⟨v, hv, rfl⟩ := zpush_inv hz
    exact zca_sim C O hv hd (k.same rfl rfl O)
  · have := eq_of_beq hlen; subst this
    split at hz
    case h_2 => cases hz
    case h_1 i r rest =>
    obtain ⟨v, hv, rfl⟩ := zpush_inv hz
    exact zba_sim C O hv hd (k.same rfl rfl O)
  · have := eq_of_beq hlen; subst this
    split at hz
    case h_2 => cases hz
    case h_1 i r rest =>
    obtain ⟨v, hv, rfl⟩ := zpush_inv hz
    exact zaa_sim C O hv hd (k.same rfl rfl O)
  · have := eq_of_beq hlen; subst this
    split at hz
    case h_2 => cases hz
    case h_1 x i r rest =>
    split at hz
    case h_2 => cases hz
    case h_1 n refs hr =>
    split at hz
    case isFalse => cases hz
    case isTrue hi =>
    cases hz
    exact zis_sim C O hr hi hd k
  · have := eq_of_beq hlen; subst this
    split at hz
    case h_2 => cases hz
    case h_1 x i r rest =>
    split at hz
    case h_2 => cases hz
    case h_1 n refs hr =>
    split at hz
    case isFalse => cases hz
    case isTrue hi =>
    cases hz
    exact zcs_sim C O hr hi hd k
  · have := eq_of_beq hlen; subst this
    split at hz
    case h_2 => cases hz
    case h_1 v i r rest =>
    split at hz
    case h_2 => cases hz
    case h_1 cn n refs ci vr hr hv =>
    split at hz
    case isFalse => cases hz
    case isTrue hi =>
    cases hz
    exact zas_sim C O hr hv hi.1 hi.2.1 hi.2.2.1 hi.2.2.2 hd k
  · have := eq_of_beq hlen; subst this
    rename_i idx
    split at hz
    case h_2 => cases hz
    case h_1 q hq =>
    split at hz
    case h_2 => cases hz
    case h_1 h' hn =>
    cases hz
    have e1 := znw_len hn
    subst e1
    have hcl : cells + (h.1 ++ [_]).length ≤ R.cells + h.1.length := hcl
    have hsl : slots + zsl (h.1 ++ [_]) ≤ R.slots + zsl h.1 := hsl
    rw [zsl_app] at hsl
    simp only [List.length_append, List.length_cons, List.length_nil] at hcl
    exact znewO_sim C O (Nat.blt_eq.mp hI) hq hd hn (by omega) (by simp only [zsl1] at hsl; omega) k
  · have := eq_of_beq hlen; subst this
    split at hz
    case h_2 => cases hz
    case h_1 n rest =>
    split at hz
    case isFalse => cases hz
    case isTrue hg =>
    split at hz
    case h_2 => cases hz
    case h_1 h' hn =>
    cases hz
    have e1 := znw_len hn
    subst e1
    have hcl : cells + (h.1 ++ [_]).length ≤ R.cells + h.1.length := hcl
    have hsl : slots + zsl (h.1 ++ [_]) ≤ R.slots + zsl h.1 := hsl
    rw [zsl_app] at hsl
    simp only [List.length_append, List.length_cons, List.length_nil] at hcl
    exact znewA_sim C O hd hg.1 hg.2.1 hg.2.2 hn (by omega) (by simp only [zsl1] at hsl; omega) k
  · have := eq_of_beq hlen; subst this
    rename_i idx
    split at hz
    case h_2 => cases hz
    case h_1 n rest =>
    split at hz
    case h_2 => cases hz
    case h_1 q hq =>
    split at hz
    case isFalse => cases hz
    case isTrue hg =>
    split at hz
    case h_2 => cases hz
    case h_1 h' hn =>
    cases hz
    have e1 := znw_len hn
    subst e1
    have hcl : cells + (h.1 ++ [_]).length ≤ R.cells + h.1.length := hcl
    have hsl : slots + zsl (h.1 ++ [_]) ≤ R.slots + zsl h.1 := hsl
    rw [zsl_app] at hsl
    simp only [List.length_append, List.length_cons, List.length_nil] at hcl
    exact znewQ_sim C O (Nat.blt_eq.mp hI) hq hd hg.1 hg.2.1 hg.2.2 hn (by omega) (by simp only [zsl1] at hsl; omega) k
  · have := eq_of_beq hlen; subst this
    rename_i idx
    refine zlib_sim C O (Nat.blt_eq.mp hI) (Or.inl rfl) hd hz (fun w => by cases w) (fun _ q hq => ?_) (by omega) (by omega) k
    intro h9
    simp only [hq, h9] at h8
    cases h8
  · have := eq_of_beq hlen; subst this
    rename_i idx
    refine zlib_sim C O (Nat.blt_eq.mp hI) (Or.inr rfl) hd hz (fun _ q hq => ?_) (fun w => by cases w) (by omega) (by omega) k
    simp only [hq] at h8
    exact Nat.eq_of_beq_eq_true h8
  · exact zst_num C hd hlen hz O k
end ZX
