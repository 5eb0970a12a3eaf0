-- 68: account
theorem call_account {x : Int32} : CallR 98 [.ref 0, .int x] 173 [.ref 90, .int x] := by
  refine CallR.of_same (fun D f u a b G H hR => ?_)
  obtain ⟨⟨w, _⟩, hr, ⟨_, _, _, hu, hu', _⟩, _, _, ⟨_, ht, ht', _⟩, _⟩ := hR
  obtain ⟨gn, gl, i4, v2, hg⟩ := hr.goods
  obtain ⟨n, ho, i3, hs⟩ := hr.rows
  have hn := ho.1
  have hv := ho.2.1
  have i3' : G 2 3 = nI (n + 1) := i3
  have i4' : G 2 4 = nI gn := i4
  obtain ⟨e5, e6, e7, e8, e9, e10⟩ := hr.e
  have e5 : G 2 5 = H 91 0 := e5
  have e6 : G 2 6 = H 91 3 := e6
  have e7 : G 2 7 = H 91 4 := e7
  have e8 : G 2 8 = H 91 5 := e8
  have e9 : G 2 9 = H 91 6 := e9
  have e10 : G 2 10 = H 91 7 := e10
  have hc : zden 98 0 [.ref 0, .int x] [] (zSH, G) = _ := B_T_account_0
  have hm : zden 173 0 [.ref 90, .int x] [] (zSH, H) = _ := B_M_account_0
  by_cases h0 : x = 0
  · subst h0
    rw [if_pos rfl] at hc hm
    exact ⟨H 91 0, hc.trans (B_T_account_72.trans (by rw [e5])), hm.trans (B_M_account_72 (by decide))⟩
  rw [if_neg h0] at hc hm
  by_cases h1 : x = 1
  · subst h1
    rw [if_pos rfl] at hc hm
    exact ⟨H 91 1, hc.trans (B_T_account_80.trans (by rw [i3', nI_pred, hv])), hm.trans (B_M_account_72 (by decide))⟩
  rw [if_neg h1] at hc hm
  by_cases h2 : x = 2
  · subst h2
    rw [if_pos rfl] at hc hm
    exact ⟨H 91 2, hc.trans (B_T_account_90.trans (by rw [i4', v2])), hm.trans (B_M_account_72 (by decide))⟩
  rw [if_neg h2] at hc hm
  by_cases h3 : x = 3
  · subst h3
    rw [if_pos rfl] at hc hm
    obtain ⟨r, r1, r2⟩ := cnt_are (x := 0) w i4 v2 gl hg gn 0 0 (by omega)
    refine ⟨r, hc.trans (B_T_account_98.trans ?_), hm.trans (B_M_account_79.trans ?_)⟩
    · rw [B_Ho_countGoodsThatAre_0, show zden 34 4 [.ref 2, .int 0, .int 0, .int 0] [] (zSH, G) = _ from r1, zaft_same]
      exact B_T_account_106
    · rw [show (3 : Int32) - 3 = 0 from rfl, B_M_thatAre_0, show zden 174 4 [.ref 90, .int 0, .int 0, .int 0] [] (zSH, H) = _ from r2, zaft_same]
      exact B_M_account_86
  rw [if_neg h3] at hc hm
  by_cases h4 : x = 4
  · subst h4
    rw [if_pos rfl] at hc hm
    obtain ⟨r, r1, r2⟩ := cnt_are (x := 1) w i4 v2 gl hg gn 0 0 (by omega)
    refine ⟨r, hc.trans (B_T_account_107.trans ?_), hm.trans (B_M_account_79.trans ?_)⟩
    · rw [B_Ho_countGoodsThatAre_0, show zden 34 4 [.ref 2, .int 1, .int 0, .int 0] [] (zSH, G) = _ from r1, zaft_same]
      exact B_T_account_115
    · rw [show (4 : Int32) - 3 = 1 from rfl, B_M_thatAre_0, show zden 174 4 [.ref 90, .int 1, .int 0, .int 0] [] (zSH, H) = _ from r2, zaft_same]
      exact B_M_account_86
  rw [if_neg h4] at hc hm
  by_cases h5 : x = 5
  · subst h5
    rw [if_pos rfl] at hc hm
    obtain ⟨r, r1, r2⟩ := cnt_are (x := 2) w i4 v2 gl hg gn 0 0 (by omega)
    refine ⟨r, hc.trans (B_T_account_116.trans ?_), hm.trans (B_M_account_79.trans ?_)⟩
    · rw [B_Ho_countGoodsThatAre_0, show zden 34 4 [.ref 2, .int 2, .int 0, .int 0] [] (zSH, G) = _ from r1, zaft_same]
      exact B_T_account_124
    · rw [show (5 : Int32) - 3 = 2 from rfl, B_M_thatAre_0, show zden 174 4 [.ref 90, .int 2, .int 0, .int 0] [] (zSH, H) = _ from r2, zaft_same]
      exact B_M_account_86
  rw [if_neg h5] at hc hm
  by_cases h6 : x = 6
  · subst h6
    rw [if_pos rfl] at hc hm
    exact ⟨H 91 3, hc.trans (B_T_account_125.trans (by rw [e6])), hm.trans (B_M_account_87 (by decide))⟩
  rw [if_neg h6] at hc hm
  by_cases h7 : x = 7
  · subst h7
    rw [if_pos rfl] at hc hm
    exact ⟨H 91 4, hc.trans (B_T_account_133.trans (by rw [e7])), hm.trans (B_M_account_87 (by decide))⟩
  rw [if_neg h7] at hc hm
  by_cases h8 : x = 8
  · subst h8
    rw [if_pos rfl] at hc hm
    exact ⟨H 91 5, hc.trans (B_T_account_141.trans (by rw [e8])), hm.trans (B_M_account_87 (by decide))⟩
  rw [if_neg h8] at hc hm
  by_cases h9 : x = 9
  · subst h9
    rw [if_pos rfl] at hc hm
    exact ⟨H 91 6, hc.trans (B_T_account_149.trans (by rw [e9])), hm.trans (B_M_account_87 (by decide))⟩
  rw [if_neg h9] at hc hm
  by_cases h10 : x = 10
  · subst h10
    rw [if_pos rfl] at hc hm
    exact ⟨H 91 7, hc.trans (B_T_account_157.trans (by rw [e10])), hm.trans (B_M_account_87 (by decide))⟩
  rw [if_neg h10] at hc hm
  by_cases h11 : x = 11
  · subst h11
    rw [if_pos rfl] at hc hm
    obtain ⟨r, r1, r2⟩ := fav_set w hr 5 0 0 (by omega)
    refine ⟨r, hc.trans (B_T_account_165.trans ?_), hm.trans (B_M_account_99.trans ?_)⟩
    · rw [B_Ho_favouredSet_0, show zden 35 4 [.ref 2, .int 0, .int 0] [] (zSH, G) = _ from r1, zaft_same]
      exact B_T_account_172
    · rw [B_M_favoured_0, show zden 175 4 [.ref 90, .int 0, .int 0] [] (zSH, H) = _ from r2, zaft_same]
      exact B_M_account_103
  rw [if_neg h11] at hc hm
  by_cases h12 : x = 12
  · subst h12
    rw [if_pos rfl] at hc hm
    exact ⟨nI a, hc.trans (B_T_account_173.trans (by rw [ht])), hm.trans (B_M_account_104.trans (by rw [ht']))⟩
  rw [if_neg h12] at hc hm
  by_cases h13 : x = 13
  · subst h13
    rw [if_pos rfl] at hc hm
    exact ⟨nI u, hc.trans (B_T_account_181.trans (by rw [hu])), hm.trans (B_M_account_109.trans (by rw [hu']))⟩
  rw [if_neg h13] at hc hm
  exact ⟨-12, hc, hm⟩
