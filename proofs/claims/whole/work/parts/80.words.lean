/-! every word that the methods take is one of the tables' -/
theorem tb_s {i : Nat} {w : Cond} (h : (k2_sels lw_privs)[i]? = some w) : w ∈ lw_tbl := List.mem_append_left _ (List.mem_of_getElem? h)
theorem tb_1 {i : Nat} {w : Cond} (h : tables_1_1[i]? = some w) : w ∈ lw_tbl := List.mem_append_right _ (List.mem_append_left _ (List.mem_of_getElem? h))
theorem tb_2 {i : Nat} {w : Cond} (h : tables_1_2[i]? = some w) : w ∈ lw_tbl := List.mem_append_right _ (List.mem_append_right _ (List.mem_append_left _ (List.mem_of_getElem? h)))
theorem tb_3 {i : Nat} {w : Cond} (h : tables_1_3[i]? = some w) : w ∈ lw_tbl := List.mem_append_right _ (List.mem_append_right _ (List.mem_append_right _ (List.mem_append_left _ (List.mem_of_getElem? h))))
theorem tb_4 {i : Nat} {w : Cond} (h : tables_1_4[i]? = some w) : w ∈ lw_tbl := List.mem_append_right _ (List.mem_append_right _ (List.mem_append_right _ (List.mem_append_right _ (List.mem_of_getElem? h))))
set_option maxRecDepth 20000 in
theorem wk_1 : ∀ w ∈ wsL_law_r1, w ∈ lw_tbl := by
  unfold wsL_law_r1
  refine List.forall_mem_cons.mpr ⟨tb_1 (i := 9) rfl, ?_⟩
  refine List.forall_mem_cons.mpr ⟨tb_1 (i := 10) rfl, ?_⟩
  refine List.forall_mem_cons.mpr ⟨tb_1 (i := 1) rfl, ?_⟩
  refine List.forall_mem_cons.mpr ⟨tb_3 (i := 23) rfl, ?_⟩
  refine List.forall_mem_cons.mpr ⟨tb_3 (i := 24) rfl, ?_⟩
  refine List.forall_mem_cons.mpr ⟨tb_1 (i := 7) rfl, ?_⟩
  refine List.forall_mem_cons.mpr ⟨tb_4 (i := 136) rfl, ?_⟩
  refine List.forall_mem_cons.mpr ⟨tb_1 (i := 11) rfl, ?_⟩
  refine List.forall_mem_cons.mpr ⟨tb_1 (i := 12) rfl, ?_⟩
  refine List.forall_mem_cons.mpr ⟨tb_1 (i := 13) rfl, ?_⟩
  refine List.forall_mem_cons.mpr ⟨tb_1 (i := 14) rfl, ?_⟩
  refine List.forall_mem_cons.mpr ⟨tb_1 (i := 15) rfl, ?_⟩
  refine List.forall_mem_cons.mpr ⟨tb_1 (i := 16) rfl, ?_⟩
  refine List.forall_mem_cons.mpr ⟨tb_1 (i := 17) rfl, ?_⟩
  refine List.forall_mem_cons.mpr ⟨tb_1 (i := 18) rfl, ?_⟩
  refine List.forall_mem_cons.mpr ⟨tb_1 (i := 2) rfl, ?_⟩
  refine List.forall_mem_cons.mpr ⟨tb_1 (i := 129) rfl, ?_⟩
  refine List.forall_mem_cons.mpr ⟨tb_1 (i := 44) rfl, ?_⟩
  refine List.forall_mem_cons.mpr ⟨tb_1 (i := 45) rfl, ?_⟩
  refine List.forall_mem_cons.mpr ⟨tb_1 (i := 4) rfl, ?_⟩
  refine List.forall_mem_cons.mpr ⟨tb_1 (i := 130) rfl, ?_⟩
  refine List.forall_mem_cons.mpr ⟨tb_1 (i := 131) rfl, ?_⟩
  refine List.forall_mem_cons.mpr ⟨tb_1 (i := 132) rfl, ?_⟩
  refine List.forall_mem_cons.mpr ⟨tb_1 (i := 133) rfl, ?_⟩
  exact fun _ h => absurd h List.not_mem_nil
set_option maxRecDepth 20000 in
theorem wk_2 : ∀ w ∈ wsL_law_r2, w ∈ lw_tbl := by
  unfold wsL_law_r2
  refine List.forall_mem_cons.mpr ⟨tb_1 (i := 134) rfl, ?_⟩
  refine List.forall_mem_cons.mpr ⟨tb_1 (i := 135) rfl, ?_⟩
  refine List.forall_mem_cons.mpr ⟨tb_1 (i := 76) rfl, ?_⟩
  refine List.forall_mem_cons.mpr ⟨tb_1 (i := 77) rfl, ?_⟩
  refine List.forall_mem_cons.mpr ⟨tb_1 (i := 5) rfl, ?_⟩
  refine List.forall_mem_cons.mpr ⟨tb_1 (i := 136) rfl, ?_⟩
  refine List.forall_mem_cons.mpr ⟨tb_1 (i := 43) rfl, ?_⟩
  refine List.forall_mem_cons.mpr ⟨tb_1 (i := 137) rfl, ?_⟩
  refine List.forall_mem_cons.mpr ⟨tb_1 (i := 19) rfl, ?_⟩
  refine List.forall_mem_cons.mpr ⟨tb_1 (i := 20) rfl, ?_⟩
  refine List.forall_mem_cons.mpr ⟨tb_1 (i := 21) rfl, ?_⟩
  refine List.forall_mem_cons.mpr ⟨tb_1 (i := 22) rfl, ?_⟩
  refine List.forall_mem_cons.mpr ⟨tb_1 (i := 23) rfl, ?_⟩
  refine List.forall_mem_cons.mpr ⟨tb_1 (i := 24) rfl, ?_⟩
  refine List.forall_mem_cons.mpr ⟨tb_1 (i := 3) rfl, ?_⟩
  refine List.forall_mem_cons.mpr ⟨tb_1 (i := 25) rfl, ?_⟩
  refine List.forall_mem_cons.mpr ⟨tb_1 (i := 26) rfl, ?_⟩
  refine List.forall_mem_cons.mpr ⟨tb_1 (i := 27) rfl, ?_⟩
  refine List.forall_mem_cons.mpr ⟨tb_1 (i := 29) rfl, ?_⟩
  refine List.forall_mem_cons.mpr ⟨tb_1 (i := 46) rfl, ?_⟩
  refine List.forall_mem_cons.mpr ⟨tb_1 (i := 47) rfl, ?_⟩
  refine List.forall_mem_cons.mpr ⟨tb_1 (i := 48) rfl, ?_⟩
  refine List.forall_mem_cons.mpr ⟨tb_1 (i := 49) rfl, ?_⟩
  refine List.forall_mem_cons.mpr ⟨tb_1 (i := 50) rfl, ?_⟩
  exact fun _ h => absurd h List.not_mem_nil
set_option maxRecDepth 20000 in
theorem wk_3 : ∀ w ∈ wsL_law_r3, w ∈ lw_tbl := by
  unfold wsL_law_r3
  refine List.forall_mem_cons.mpr ⟨tb_1 (i := 53) rfl, ?_⟩
  refine List.forall_mem_cons.mpr ⟨tb_1 (i := 55) rfl, ?_⟩
  refine List.forall_mem_cons.mpr ⟨tb_1 (i := 52) rfl, ?_⟩
  refine List.forall_mem_cons.mpr ⟨tb_1 (i := 51) rfl, ?_⟩
  refine List.forall_mem_cons.mpr ⟨tb_1 (i := 79) rfl, ?_⟩
  refine List.forall_mem_cons.mpr ⟨tb_1 (i := 80) rfl, ?_⟩
  refine List.forall_mem_cons.mpr ⟨tb_1 (i := 81) rfl, ?_⟩
  refine List.forall_mem_cons.mpr ⟨tb_1 (i := 110) rfl, ?_⟩
  refine List.forall_mem_cons.mpr ⟨tb_1 (i := 84) rfl, ?_⟩
  refine List.forall_mem_cons.mpr ⟨tb_1 (i := 82) rfl, ?_⟩
  refine List.forall_mem_cons.mpr ⟨tb_1 (i := 87) rfl, ?_⟩
  refine List.forall_mem_cons.mpr ⟨tb_1 (i := 89) rfl, ?_⟩
  refine List.forall_mem_cons.mpr ⟨tb_1 (i := 91) rfl, ?_⟩
  refine List.forall_mem_cons.mpr ⟨tb_1 (i := 83) rfl, ?_⟩
  refine List.forall_mem_cons.mpr ⟨tb_1 (i := 111) rfl, ?_⟩
  refine List.forall_mem_cons.mpr ⟨tb_1 (i := 112) rfl, ?_⟩
  refine List.forall_mem_cons.mpr ⟨tb_1 (i := 113) rfl, ?_⟩
  refine List.forall_mem_cons.mpr ⟨tb_1 (i := 114) rfl, ?_⟩
  refine List.forall_mem_cons.mpr ⟨tb_1 (i := 30) rfl, ?_⟩
  refine List.forall_mem_cons.mpr ⟨tb_1 (i := 115) rfl, ?_⟩
  refine List.forall_mem_cons.mpr ⟨tb_1 (i := 116) rfl, ?_⟩
  refine List.forall_mem_cons.mpr ⟨tb_1 (i := 117) rfl, ?_⟩
  refine List.forall_mem_cons.mpr ⟨tb_1 (i := 118) rfl, ?_⟩
  refine List.forall_mem_cons.mpr ⟨tb_1 (i := 119) rfl, ?_⟩
  exact fun _ h => absurd h List.not_mem_nil
set_option maxRecDepth 20000 in
theorem wk_4 : ∀ w ∈ wsL_law_r4, w ∈ lw_tbl := by
  unfold wsL_law_r4
  refine List.forall_mem_cons.mpr ⟨tb_1 (i := 121) rfl, ?_⟩
  refine List.forall_mem_cons.mpr ⟨tb_1 (i := 120) rfl, ?_⟩
  refine List.forall_mem_cons.mpr ⟨tb_1 (i := 6) rfl, ?_⟩
  refine List.forall_mem_cons.mpr ⟨tb_1 (i := 122) rfl, ?_⟩
  refine List.forall_mem_cons.mpr ⟨tb_1 (i := 123) rfl, ?_⟩
  refine List.forall_mem_cons.mpr ⟨tb_1 (i := 124) rfl, ?_⟩
  refine List.forall_mem_cons.mpr ⟨tb_1 (i := 125) rfl, ?_⟩
  refine List.forall_mem_cons.mpr ⟨tb_1 (i := 127) rfl, ?_⟩
  refine List.forall_mem_cons.mpr ⟨tb_1 (i := 128) rfl, ?_⟩
  refine List.forall_mem_cons.mpr ⟨tb_3 (i := 25) rfl, ?_⟩
  refine List.forall_mem_cons.mpr ⟨tb_3 (i := 26) rfl, ?_⟩
  refine List.forall_mem_cons.mpr ⟨tb_3 (i := 27) rfl, ?_⟩
  refine List.forall_mem_cons.mpr ⟨tb_3 (i := 28) rfl, ?_⟩
  refine List.forall_mem_cons.mpr ⟨tb_3 (i := 29) rfl, ?_⟩
  refine List.forall_mem_cons.mpr ⟨tb_3 (i := 32) rfl, ?_⟩
  refine List.forall_mem_cons.mpr ⟨tb_3 (i := 33) rfl, ?_⟩
  refine List.forall_mem_cons.mpr ⟨tb_3 (i := 34) rfl, ?_⟩
  refine List.forall_mem_cons.mpr ⟨tb_3 (i := 35) rfl, ?_⟩
  refine List.forall_mem_cons.mpr ⟨tb_3 (i := 38) rfl, ?_⟩
  refine List.forall_mem_cons.mpr ⟨tb_3 (i := 93) rfl, ?_⟩
  refine List.forall_mem_cons.mpr ⟨tb_3 (i := 39) rfl, ?_⟩
  refine List.forall_mem_cons.mpr ⟨tb_3 (i := 40) rfl, ?_⟩
  refine List.forall_mem_cons.mpr ⟨tb_3 (i := 43) rfl, ?_⟩
  refine List.forall_mem_cons.mpr ⟨tb_3 (i := 46) rfl, ?_⟩
  exact fun _ h => absurd h List.not_mem_nil
set_option maxRecDepth 20000 in
theorem wk_5 : ∀ w ∈ wsL_law_r5, w ∈ lw_tbl := by
  unfold wsL_law_r5
  refine List.forall_mem_cons.mpr ⟨tb_3 (i := 47) rfl, ?_⟩
  refine List.forall_mem_cons.mpr ⟨tb_3 (i := 31) rfl, ?_⟩
  refine List.forall_mem_cons.mpr ⟨tb_1 (i := 163) rfl, ?_⟩
  refine List.forall_mem_cons.mpr ⟨tb_1 (i := 164) rfl, ?_⟩
  refine List.forall_mem_cons.mpr ⟨tb_1 (i := 165) rfl, ?_⟩
  refine List.forall_mem_cons.mpr ⟨tb_1 (i := 166) rfl, ?_⟩
  refine List.forall_mem_cons.mpr ⟨tb_1 (i := 86) rfl, ?_⟩
  refine List.forall_mem_cons.mpr ⟨tb_1 (i := 167) rfl, ?_⟩
  refine List.forall_mem_cons.mpr ⟨tb_1 (i := 168) rfl, ?_⟩
  refine List.forall_mem_cons.mpr ⟨tb_1 (i := 169) rfl, ?_⟩
  refine List.forall_mem_cons.mpr ⟨tb_1 (i := 170) rfl, ?_⟩
  refine List.forall_mem_cons.mpr ⟨tb_1 (i := 85) rfl, ?_⟩
  refine List.forall_mem_cons.mpr ⟨tb_3 (i := 94) rfl, ?_⟩
  refine List.forall_mem_cons.mpr ⟨tb_3 (i := 95) rfl, ?_⟩
  refine List.forall_mem_cons.mpr ⟨tb_3 (i := 96) rfl, ?_⟩
  refine List.forall_mem_cons.mpr ⟨tb_3 (i := 97) rfl, ?_⟩
  refine List.forall_mem_cons.mpr ⟨tb_3 (i := 98) rfl, ?_⟩
  refine List.forall_mem_cons.mpr ⟨tb_3 (i := 30) rfl, ?_⟩
  refine List.forall_mem_cons.mpr ⟨tb_3 (i := 99) rfl, ?_⟩
  refine List.forall_mem_cons.mpr ⟨tb_3 (i := 100) rfl, ?_⟩
  refine List.forall_mem_cons.mpr ⟨tb_3 (i := 101) rfl, ?_⟩
  refine List.forall_mem_cons.mpr ⟨tb_1 (i := 171) rfl, ?_⟩
  refine List.forall_mem_cons.mpr ⟨tb_1 (i := 172) rfl, ?_⟩
  refine List.forall_mem_cons.mpr ⟨tb_1 (i := 173) rfl, ?_⟩
  exact fun _ h => absurd h List.not_mem_nil
set_option maxRecDepth 20000 in
theorem wk_6 : ∀ w ∈ wsL_law_r6, w ∈ lw_tbl := by
  unfold wsL_law_r6
  refine List.forall_mem_cons.mpr ⟨tb_1 (i := 174) rfl, ?_⟩
  refine List.forall_mem_cons.mpr ⟨tb_3 (i := 102) rfl, ?_⟩
  refine List.forall_mem_cons.mpr ⟨tb_3 (i := 103) rfl, ?_⟩
  refine List.forall_mem_cons.mpr ⟨tb_3 (i := 104) rfl, ?_⟩
  refine List.forall_mem_cons.mpr ⟨tb_3 (i := 105) rfl, ?_⟩
  refine List.forall_mem_cons.mpr ⟨tb_1 (i := 175) rfl, ?_⟩
  refine List.forall_mem_cons.mpr ⟨tb_1 (i := 176) rfl, ?_⟩
  refine List.forall_mem_cons.mpr ⟨tb_1 (i := 177) rfl, ?_⟩
  refine List.forall_mem_cons.mpr ⟨tb_1 (i := 178) rfl, ?_⟩
  refine List.forall_mem_cons.mpr ⟨tb_1 (i := 179) rfl, ?_⟩
  refine List.forall_mem_cons.mpr ⟨tb_1 (i := 180) rfl, ?_⟩
  refine List.forall_mem_cons.mpr ⟨tb_1 (i := 181) rfl, ?_⟩
  refine List.forall_mem_cons.mpr ⟨tb_1 (i := 182) rfl, ?_⟩
  refine List.forall_mem_cons.mpr ⟨tb_1 (i := 31) rfl, ?_⟩
  refine List.forall_mem_cons.mpr ⟨tb_1 (i := 94) rfl, ?_⟩
  refine List.forall_mem_cons.mpr ⟨tb_1 (i := 93) rfl, ?_⟩
  refine List.forall_mem_cons.mpr ⟨tb_1 (i := 183) rfl, ?_⟩
  refine List.forall_mem_cons.mpr ⟨tb_1 (i := 184) rfl, ?_⟩
  refine List.forall_mem_cons.mpr ⟨tb_1 (i := 185) rfl, ?_⟩
  refine List.forall_mem_cons.mpr ⟨tb_1 (i := 186) rfl, ?_⟩
  refine List.forall_mem_cons.mpr ⟨tb_1 (i := 187) rfl, ?_⟩
  refine List.forall_mem_cons.mpr ⟨tb_1 (i := 188) rfl, ?_⟩
  refine List.forall_mem_cons.mpr ⟨tb_1 (i := 189) rfl, ?_⟩
  refine List.forall_mem_cons.mpr ⟨tb_1 (i := 190) rfl, ?_⟩
  exact fun _ h => absurd h List.not_mem_nil
set_option maxRecDepth 20000 in
theorem wk_7 : ∀ w ∈ wsL_law_r7, w ∈ lw_tbl := by
  unfold wsL_law_r7
  refine List.forall_mem_cons.mpr ⟨tb_1 (i := 191) rfl, ?_⟩
  refine List.forall_mem_cons.mpr ⟨tb_1 (i := 192) rfl, ?_⟩
  refine List.forall_mem_cons.mpr ⟨tb_1 (i := 193) rfl, ?_⟩
  refine List.forall_mem_cons.mpr ⟨tb_1 (i := 194) rfl, ?_⟩
  refine List.forall_mem_cons.mpr ⟨tb_1 (i := 195) rfl, ?_⟩
  refine List.forall_mem_cons.mpr ⟨tb_1 (i := 196) rfl, ?_⟩
  refine List.forall_mem_cons.mpr ⟨tb_1 (i := 197) rfl, ?_⟩
  refine List.forall_mem_cons.mpr ⟨tb_1 (i := 198) rfl, ?_⟩
  refine List.forall_mem_cons.mpr ⟨tb_1 (i := 199) rfl, ?_⟩
  refine List.forall_mem_cons.mpr ⟨tb_1 (i := 200) rfl, ?_⟩
  refine List.forall_mem_cons.mpr ⟨tb_1 (i := 201) rfl, ?_⟩
  refine List.forall_mem_cons.mpr ⟨tb_1 (i := 202) rfl, ?_⟩
  refine List.forall_mem_cons.mpr ⟨tb_1 (i := 203) rfl, ?_⟩
  refine List.forall_mem_cons.mpr ⟨tb_1 (i := 204) rfl, ?_⟩
  refine List.forall_mem_cons.mpr ⟨tb_1 (i := 205) rfl, ?_⟩
  refine List.forall_mem_cons.mpr ⟨tb_1 (i := 206) rfl, ?_⟩
  refine List.forall_mem_cons.mpr ⟨tb_1 (i := 207) rfl, ?_⟩
  refine List.forall_mem_cons.mpr ⟨tb_1 (i := 209) rfl, ?_⟩
  refine List.forall_mem_cons.mpr ⟨tb_1 (i := 210) rfl, ?_⟩
  refine List.forall_mem_cons.mpr ⟨tb_1 (i := 211) rfl, ?_⟩
  refine List.forall_mem_cons.mpr ⟨tb_1 (i := 212) rfl, ?_⟩
  refine List.forall_mem_cons.mpr ⟨tb_1 (i := 213) rfl, ?_⟩
  refine List.forall_mem_cons.mpr ⟨tb_1 (i := 214) rfl, ?_⟩
  refine List.forall_mem_cons.mpr ⟨tb_1 (i := 215) rfl, ?_⟩
  exact fun _ h => absurd h List.not_mem_nil
set_option maxRecDepth 20000 in
theorem wk_8 : ∀ w ∈ wsL_law_r8, w ∈ lw_tbl := by
  unfold wsL_law_r8
  refine List.forall_mem_cons.mpr ⟨tb_1 (i := 216) rfl, ?_⟩
  refine List.forall_mem_cons.mpr ⟨tb_1 (i := 217) rfl, ?_⟩
  refine List.forall_mem_cons.mpr ⟨tb_1 (i := 218) rfl, ?_⟩
  refine List.forall_mem_cons.mpr ⟨tb_1 (i := 219) rfl, ?_⟩
  refine List.forall_mem_cons.mpr ⟨tb_1 (i := 220) rfl, ?_⟩
  refine List.forall_mem_cons.mpr ⟨tb_1 (i := 221) rfl, ?_⟩
  refine List.forall_mem_cons.mpr ⟨tb_1 (i := 222) rfl, ?_⟩
  refine List.forall_mem_cons.mpr ⟨tb_3 (i := 106) rfl, ?_⟩
  refine List.forall_mem_cons.mpr ⟨tb_3 (i := 107) rfl, ?_⟩
  refine List.forall_mem_cons.mpr ⟨tb_3 (i := 108) rfl, ?_⟩
  refine List.forall_mem_cons.mpr ⟨tb_3 (i := 109) rfl, ?_⟩
  refine List.forall_mem_cons.mpr ⟨tb_3 (i := 110) rfl, ?_⟩
  refine List.forall_mem_cons.mpr ⟨tb_3 (i := 112) rfl, ?_⟩
  refine List.forall_mem_cons.mpr ⟨tb_s (i := 7) rfl, ?_⟩
  refine List.forall_mem_cons.mpr ⟨tb_3 (i := 113) rfl, ?_⟩
  refine List.forall_mem_cons.mpr ⟨tb_3 (i := 45) rfl, ?_⟩
  refine List.forall_mem_cons.mpr ⟨tb_3 (i := 44) rfl, ?_⟩
  refine List.forall_mem_cons.mpr ⟨tb_3 (i := 114) rfl, ?_⟩
  refine List.forall_mem_cons.mpr ⟨tb_3 (i := 116) rfl, ?_⟩
  refine List.forall_mem_cons.mpr ⟨tb_s (i := 8) rfl, ?_⟩
  refine List.forall_mem_cons.mpr ⟨tb_3 (i := 117) rfl, ?_⟩
  refine List.forall_mem_cons.mpr ⟨tb_3 (i := 118) rfl, ?_⟩
  refine List.forall_mem_cons.mpr ⟨tb_3 (i := 120) rfl, ?_⟩
  refine List.forall_mem_cons.mpr ⟨tb_s (i := 9) rfl, ?_⟩
  exact fun _ h => absurd h List.not_mem_nil
set_option maxRecDepth 20000 in
theorem wk_9 : ∀ w ∈ wsL_law_r9, w ∈ lw_tbl := by
  unfold wsL_law_r9
  refine List.forall_mem_cons.mpr ⟨tb_3 (i := 121) rfl, ?_⟩
  refine List.forall_mem_cons.mpr ⟨tb_3 (i := 48) rfl, ?_⟩
  refine List.forall_mem_cons.mpr ⟨tb_3 (i := 49) rfl, ?_⟩
  refine List.forall_mem_cons.mpr ⟨tb_3 (i := 122) rfl, ?_⟩
  refine List.forall_mem_cons.mpr ⟨tb_3 (i := 124) rfl, ?_⟩
  refine List.forall_mem_cons.mpr ⟨tb_s (i := 10) rfl, ?_⟩
  refine List.forall_mem_cons.mpr ⟨tb_3 (i := 125) rfl, ?_⟩
  refine List.forall_mem_cons.mpr ⟨tb_3 (i := 126) rfl, ?_⟩
  refine List.forall_mem_cons.mpr ⟨tb_3 (i := 128) rfl, ?_⟩
  refine List.forall_mem_cons.mpr ⟨tb_s (i := 11) rfl, ?_⟩
  refine List.forall_mem_cons.mpr ⟨tb_3 (i := 129) rfl, ?_⟩
  refine List.forall_mem_cons.mpr ⟨tb_3 (i := 130) rfl, ?_⟩
  refine List.forall_mem_cons.mpr ⟨tb_3 (i := 131) rfl, ?_⟩
  refine List.forall_mem_cons.mpr ⟨tb_3 (i := 132) rfl, ?_⟩
  refine List.forall_mem_cons.mpr ⟨tb_3 (i := 133) rfl, ?_⟩
  refine List.forall_mem_cons.mpr ⟨tb_3 (i := 134) rfl, ?_⟩
  refine List.forall_mem_cons.mpr ⟨tb_3 (i := 135) rfl, ?_⟩
  refine List.forall_mem_cons.mpr ⟨tb_3 (i := 136) rfl, ?_⟩
  refine List.forall_mem_cons.mpr ⟨tb_3 (i := 137) rfl, ?_⟩
  refine List.forall_mem_cons.mpr ⟨tb_3 (i := 138) rfl, ?_⟩
  refine List.forall_mem_cons.mpr ⟨tb_3 (i := 140) rfl, ?_⟩
  refine List.forall_mem_cons.mpr ⟨tb_s (i := 12) rfl, ?_⟩
  refine List.forall_mem_cons.mpr ⟨tb_3 (i := 141) rfl, ?_⟩
  refine List.forall_mem_cons.mpr ⟨tb_3 (i := 142) rfl, ?_⟩
  exact fun _ h => absurd h List.not_mem_nil
set_option maxRecDepth 20000 in
theorem wk_10 : ∀ w ∈ wsL_law_r10, w ∈ lw_tbl := by
  unfold wsL_law_r10
  refine List.forall_mem_cons.mpr ⟨tb_3 (i := 143) rfl, ?_⟩
  refine List.forall_mem_cons.mpr ⟨tb_3 (i := 144) rfl, ?_⟩
  refine List.forall_mem_cons.mpr ⟨tb_3 (i := 145) rfl, ?_⟩
  refine List.forall_mem_cons.mpr ⟨tb_3 (i := 147) rfl, ?_⟩
  refine List.forall_mem_cons.mpr ⟨tb_s (i := 13) rfl, ?_⟩
  refine List.forall_mem_cons.mpr ⟨tb_3 (i := 148) rfl, ?_⟩
  refine List.forall_mem_cons.mpr ⟨tb_3 (i := 149) rfl, ?_⟩
  refine List.forall_mem_cons.mpr ⟨tb_3 (i := 150) rfl, ?_⟩
  refine List.forall_mem_cons.mpr ⟨tb_3 (i := 151) rfl, ?_⟩
  refine List.forall_mem_cons.mpr ⟨tb_1 (i := 223) rfl, ?_⟩
  refine List.forall_mem_cons.mpr ⟨tb_1 (i := 224) rfl, ?_⟩
  refine List.forall_mem_cons.mpr ⟨tb_1 (i := 225) rfl, ?_⟩
  refine List.forall_mem_cons.mpr ⟨tb_1 (i := 226) rfl, ?_⟩
  refine List.forall_mem_cons.mpr ⟨tb_1 (i := 88) rfl, ?_⟩
  refine List.forall_mem_cons.mpr ⟨tb_1 (i := 90) rfl, ?_⟩
  refine List.forall_mem_cons.mpr ⟨tb_1 (i := 92) rfl, ?_⟩
  refine List.forall_mem_cons.mpr ⟨tb_1 (i := 33) rfl, ?_⟩
  refine List.forall_mem_cons.mpr ⟨tb_1 (i := 138) rfl, ?_⟩
  refine List.forall_mem_cons.mpr ⟨tb_1 (i := 227) rfl, ?_⟩
  refine List.forall_mem_cons.mpr ⟨tb_1 (i := 228) rfl, ?_⟩
  refine List.forall_mem_cons.mpr ⟨tb_1 (i := 229) rfl, ?_⟩
  refine List.forall_mem_cons.mpr ⟨tb_1 (i := 230) rfl, ?_⟩
  refine List.forall_mem_cons.mpr ⟨tb_1 (i := 231) rfl, ?_⟩
  refine List.forall_mem_cons.mpr ⟨tb_1 (i := 232) rfl, ?_⟩
  exact fun _ h => absurd h List.not_mem_nil
set_option maxRecDepth 20000 in
theorem wk_11 : ∀ w ∈ wsL_law_r11, w ∈ lw_tbl := by
  unfold wsL_law_r11
  refine List.forall_mem_cons.mpr ⟨tb_1 (i := 233) rfl, ?_⟩
  refine List.forall_mem_cons.mpr ⟨tb_1 (i := 234) rfl, ?_⟩
  refine List.forall_mem_cons.mpr ⟨tb_1 (i := 57) rfl, ?_⟩
  refine List.forall_mem_cons.mpr ⟨tb_1 (i := 59) rfl, ?_⟩
  refine List.forall_mem_cons.mpr ⟨tb_1 (i := 61) rfl, ?_⟩
  refine List.forall_mem_cons.mpr ⟨tb_1 (i := 235) rfl, ?_⟩
  refine List.forall_mem_cons.mpr ⟨tb_3 (i := 152) rfl, ?_⟩
  refine List.forall_mem_cons.mpr ⟨tb_3 (i := 153) rfl, ?_⟩
  refine List.forall_mem_cons.mpr ⟨tb_3 (i := 154) rfl, ?_⟩
  refine List.forall_mem_cons.mpr ⟨tb_3 (i := 155) rfl, ?_⟩
  refine List.forall_mem_cons.mpr ⟨tb_3 (i := 36) rfl, ?_⟩
  refine List.forall_mem_cons.mpr ⟨tb_3 (i := 156) rfl, ?_⟩
  refine List.forall_mem_cons.mpr ⟨tb_3 (i := 157) rfl, ?_⟩
  refine List.forall_mem_cons.mpr ⟨tb_3 (i := 158) rfl, ?_⟩
  refine List.forall_mem_cons.mpr ⟨tb_1 (i := 236) rfl, ?_⟩
  refine List.forall_mem_cons.mpr ⟨tb_1 (i := 237) rfl, ?_⟩
  refine List.forall_mem_cons.mpr ⟨tb_1 (i := 238) rfl, ?_⟩
  refine List.forall_mem_cons.mpr ⟨tb_1 (i := 239) rfl, ?_⟩
  refine List.forall_mem_cons.mpr ⟨tb_1 (i := 54) rfl, ?_⟩
  refine List.forall_mem_cons.mpr ⟨tb_1 (i := 56) rfl, ?_⟩
  refine List.forall_mem_cons.mpr ⟨tb_1 (i := 62) rfl, ?_⟩
  refine List.forall_mem_cons.mpr ⟨tb_1 (i := 58) rfl, ?_⟩
  refine List.forall_mem_cons.mpr ⟨tb_1 (i := 60) rfl, ?_⟩
  refine List.forall_mem_cons.mpr ⟨tb_2 (i := 0) rfl, ?_⟩
  exact fun _ h => absurd h List.not_mem_nil
set_option maxRecDepth 20000 in
theorem wk_12 : ∀ w ∈ wsL_law_r12, w ∈ lw_tbl := by
  unfold wsL_law_r12
  refine List.forall_mem_cons.mpr ⟨tb_2 (i := 1) rfl, ?_⟩
  refine List.forall_mem_cons.mpr ⟨tb_2 (i := 2) rfl, ?_⟩
  refine List.forall_mem_cons.mpr ⟨tb_2 (i := 3) rfl, ?_⟩
  refine List.forall_mem_cons.mpr ⟨tb_1 (i := 32) rfl, ?_⟩
  refine List.forall_mem_cons.mpr ⟨tb_2 (i := 4) rfl, ?_⟩
  refine List.forall_mem_cons.mpr ⟨tb_2 (i := 5) rfl, ?_⟩
  refine List.forall_mem_cons.mpr ⟨tb_2 (i := 6) rfl, ?_⟩
  refine List.forall_mem_cons.mpr ⟨tb_2 (i := 7) rfl, ?_⟩
  refine List.forall_mem_cons.mpr ⟨tb_2 (i := 9) rfl, ?_⟩
  refine List.forall_mem_cons.mpr ⟨tb_2 (i := 10) rfl, ?_⟩
  refine List.forall_mem_cons.mpr ⟨tb_2 (i := 12) rfl, ?_⟩
  refine List.forall_mem_cons.mpr ⟨tb_2 (i := 13) rfl, ?_⟩
  refine List.forall_mem_cons.mpr ⟨tb_2 (i := 14) rfl, ?_⟩
  refine List.forall_mem_cons.mpr ⟨tb_2 (i := 15) rfl, ?_⟩
  refine List.forall_mem_cons.mpr ⟨tb_2 (i := 16) rfl, ?_⟩
  refine List.forall_mem_cons.mpr ⟨tb_2 (i := 17) rfl, ?_⟩
  refine List.forall_mem_cons.mpr ⟨tb_2 (i := 18) rfl, ?_⟩
  refine List.forall_mem_cons.mpr ⟨tb_2 (i := 19) rfl, ?_⟩
  refine List.forall_mem_cons.mpr ⟨tb_2 (i := 20) rfl, ?_⟩
  refine List.forall_mem_cons.mpr ⟨tb_2 (i := 21) rfl, ?_⟩
  refine List.forall_mem_cons.mpr ⟨tb_2 (i := 22) rfl, ?_⟩
  refine List.forall_mem_cons.mpr ⟨tb_2 (i := 23) rfl, ?_⟩
  refine List.forall_mem_cons.mpr ⟨tb_2 (i := 24) rfl, ?_⟩
  refine List.forall_mem_cons.mpr ⟨tb_2 (i := 25) rfl, ?_⟩
  exact fun _ h => absurd h List.not_mem_nil
set_option maxRecDepth 20000 in
theorem wk_13 : ∀ w ∈ wsL_law_r13, w ∈ lw_tbl := by
  unfold wsL_law_r13
  refine List.forall_mem_cons.mpr ⟨tb_2 (i := 26) rfl, ?_⟩
  refine List.forall_mem_cons.mpr ⟨tb_2 (i := 27) rfl, ?_⟩
  refine List.forall_mem_cons.mpr ⟨tb_2 (i := 28) rfl, ?_⟩
  refine List.forall_mem_cons.mpr ⟨tb_2 (i := 29) rfl, ?_⟩
  refine List.forall_mem_cons.mpr ⟨tb_2 (i := 30) rfl, ?_⟩
  refine List.forall_mem_cons.mpr ⟨tb_2 (i := 31) rfl, ?_⟩
  refine List.forall_mem_cons.mpr ⟨tb_2 (i := 32) rfl, ?_⟩
  refine List.forall_mem_cons.mpr ⟨tb_2 (i := 33) rfl, ?_⟩
  refine List.forall_mem_cons.mpr ⟨tb_2 (i := 34) rfl, ?_⟩
  refine List.forall_mem_cons.mpr ⟨tb_2 (i := 35) rfl, ?_⟩
  refine List.forall_mem_cons.mpr ⟨tb_2 (i := 36) rfl, ?_⟩
  refine List.forall_mem_cons.mpr ⟨tb_2 (i := 37) rfl, ?_⟩
  refine List.forall_mem_cons.mpr ⟨tb_1 (i := 8) rfl, ?_⟩
  refine List.forall_mem_cons.mpr ⟨tb_2 (i := 38) rfl, ?_⟩
  refine List.forall_mem_cons.mpr ⟨tb_2 (i := 39) rfl, ?_⟩
  refine List.forall_mem_cons.mpr ⟨tb_2 (i := 40) rfl, ?_⟩
  refine List.forall_mem_cons.mpr ⟨tb_2 (i := 41) rfl, ?_⟩
  refine List.forall_mem_cons.mpr ⟨tb_3 (i := 159) rfl, ?_⟩
  refine List.forall_mem_cons.mpr ⟨tb_3 (i := 160) rfl, ?_⟩
  refine List.forall_mem_cons.mpr ⟨tb_3 (i := 161) rfl, ?_⟩
  refine List.forall_mem_cons.mpr ⟨tb_3 (i := 162) rfl, ?_⟩
  refine List.forall_mem_cons.mpr ⟨tb_3 (i := 41) rfl, ?_⟩
  refine List.forall_mem_cons.mpr ⟨tb_3 (i := 163) rfl, ?_⟩
  refine List.forall_mem_cons.mpr ⟨tb_3 (i := 165) rfl, ?_⟩
  exact fun _ h => absurd h List.not_mem_nil
set_option maxRecDepth 20000 in
theorem wk_14 : ∀ w ∈ wsL_law_r14, w ∈ lw_tbl := by
  unfold wsL_law_r14
  refine List.forall_mem_cons.mpr ⟨tb_s (i := 14) rfl, ?_⟩
  refine List.forall_mem_cons.mpr ⟨tb_3 (i := 166) rfl, ?_⟩
  refine List.forall_mem_cons.mpr ⟨tb_3 (i := 167) rfl, ?_⟩
  refine List.forall_mem_cons.mpr ⟨tb_3 (i := 169) rfl, ?_⟩
  refine List.forall_mem_cons.mpr ⟨tb_s (i := 15) rfl, ?_⟩
  refine List.forall_mem_cons.mpr ⟨tb_3 (i := 170) rfl, ?_⟩
  refine List.forall_mem_cons.mpr ⟨tb_3 (i := 171) rfl, ?_⟩
  refine List.forall_mem_cons.mpr ⟨tb_3 (i := 172) rfl, ?_⟩
  refine List.forall_mem_cons.mpr ⟨tb_3 (i := 173) rfl, ?_⟩
  refine List.forall_mem_cons.mpr ⟨tb_3 (i := 174) rfl, ?_⟩
  refine List.forall_mem_cons.mpr ⟨tb_3 (i := 175) rfl, ?_⟩
  refine List.forall_mem_cons.mpr ⟨tb_3 (i := 176) rfl, ?_⟩
  refine List.forall_mem_cons.mpr ⟨tb_3 (i := 177) rfl, ?_⟩
  refine List.forall_mem_cons.mpr ⟨tb_3 (i := 179) rfl, ?_⟩
  refine List.forall_mem_cons.mpr ⟨tb_s (i := 16) rfl, ?_⟩
  refine List.forall_mem_cons.mpr ⟨tb_3 (i := 180) rfl, ?_⟩
  refine List.forall_mem_cons.mpr ⟨tb_3 (i := 181) rfl, ?_⟩
  refine List.forall_mem_cons.mpr ⟨tb_3 (i := 183) rfl, ?_⟩
  refine List.forall_mem_cons.mpr ⟨tb_s (i := 17) rfl, ?_⟩
  refine List.forall_mem_cons.mpr ⟨tb_3 (i := 184) rfl, ?_⟩
  refine List.forall_mem_cons.mpr ⟨tb_3 (i := 185) rfl, ?_⟩
  refine List.forall_mem_cons.mpr ⟨tb_3 (i := 187) rfl, ?_⟩
  refine List.forall_mem_cons.mpr ⟨tb_s (i := 18) rfl, ?_⟩
  refine List.forall_mem_cons.mpr ⟨tb_3 (i := 188) rfl, ?_⟩
  exact fun _ h => absurd h List.not_mem_nil
set_option maxRecDepth 20000 in
theorem wk_15 : ∀ w ∈ wsL_law_r15, w ∈ lw_tbl := by
  unfold wsL_law_r15
  refine List.forall_mem_cons.mpr ⟨tb_3 (i := 189) rfl, ?_⟩
  refine List.forall_mem_cons.mpr ⟨tb_3 (i := 191) rfl, ?_⟩
  refine List.forall_mem_cons.mpr ⟨tb_s (i := 19) rfl, ?_⟩
  refine List.forall_mem_cons.mpr ⟨tb_3 (i := 192) rfl, ?_⟩
  refine List.forall_mem_cons.mpr ⟨tb_3 (i := 193) rfl, ?_⟩
  refine List.forall_mem_cons.mpr ⟨tb_3 (i := 195) rfl, ?_⟩
  refine List.forall_mem_cons.mpr ⟨tb_s (i := 20) rfl, ?_⟩
  refine List.forall_mem_cons.mpr ⟨tb_3 (i := 196) rfl, ?_⟩
  refine List.forall_mem_cons.mpr ⟨tb_3 (i := 197) rfl, ?_⟩
  refine List.forall_mem_cons.mpr ⟨tb_3 (i := 199) rfl, ?_⟩
  refine List.forall_mem_cons.mpr ⟨tb_s (i := 21) rfl, ?_⟩
  refine List.forall_mem_cons.mpr ⟨tb_3 (i := 200) rfl, ?_⟩
  refine List.forall_mem_cons.mpr ⟨tb_2 (i := 42) rfl, ?_⟩
  refine List.forall_mem_cons.mpr ⟨tb_2 (i := 43) rfl, ?_⟩
  refine List.forall_mem_cons.mpr ⟨tb_2 (i := 44) rfl, ?_⟩
  refine List.forall_mem_cons.mpr ⟨tb_2 (i := 45) rfl, ?_⟩
  refine List.forall_mem_cons.mpr ⟨tb_2 (i := 46) rfl, ?_⟩
  refine List.forall_mem_cons.mpr ⟨tb_2 (i := 47) rfl, ?_⟩
  refine List.forall_mem_cons.mpr ⟨tb_2 (i := 48) rfl, ?_⟩
  refine List.forall_mem_cons.mpr ⟨tb_2 (i := 49) rfl, ?_⟩
  refine List.forall_mem_cons.mpr ⟨tb_2 (i := 50) rfl, ?_⟩
  refine List.forall_mem_cons.mpr ⟨tb_2 (i := 51) rfl, ?_⟩
  refine List.forall_mem_cons.mpr ⟨tb_3 (i := 201) rfl, ?_⟩
  refine List.forall_mem_cons.mpr ⟨tb_3 (i := 202) rfl, ?_⟩
  exact fun _ h => absurd h List.not_mem_nil
set_option maxRecDepth 20000 in
theorem wk_16 : ∀ w ∈ wsL_law_r16, w ∈ lw_tbl := by
  unfold wsL_law_r16
  refine List.forall_mem_cons.mpr ⟨tb_3 (i := 203) rfl, ?_⟩
  refine List.forall_mem_cons.mpr ⟨tb_3 (i := 204) rfl, ?_⟩
  refine List.forall_mem_cons.mpr ⟨tb_3 (i := 205) rfl, ?_⟩
  refine List.forall_mem_cons.mpr ⟨tb_3 (i := 207) rfl, ?_⟩
  refine List.forall_mem_cons.mpr ⟨tb_s (i := 22) rfl, ?_⟩
  refine List.forall_mem_cons.mpr ⟨tb_3 (i := 208) rfl, ?_⟩
  refine List.forall_mem_cons.mpr ⟨tb_2 (i := 52) rfl, ?_⟩
  refine List.forall_mem_cons.mpr ⟨tb_2 (i := 53) rfl, ?_⟩
  refine List.forall_mem_cons.mpr ⟨tb_2 (i := 54) rfl, ?_⟩
  refine List.forall_mem_cons.mpr ⟨tb_2 (i := 55) rfl, ?_⟩
  refine List.forall_mem_cons.mpr ⟨tb_3 (i := 209) rfl, ?_⟩
  refine List.forall_mem_cons.mpr ⟨tb_3 (i := 210) rfl, ?_⟩
  refine List.forall_mem_cons.mpr ⟨tb_3 (i := 211) rfl, ?_⟩
  refine List.forall_mem_cons.mpr ⟨tb_3 (i := 212) rfl, ?_⟩
  refine List.forall_mem_cons.mpr ⟨tb_3 (i := 217) rfl, ?_⟩
  refine List.forall_mem_cons.mpr ⟨tb_3 (i := 213) rfl, ?_⟩
  refine List.forall_mem_cons.mpr ⟨tb_3 (i := 215) rfl, ?_⟩
  refine List.forall_mem_cons.mpr ⟨tb_s (i := 23) rfl, ?_⟩
  refine List.forall_mem_cons.mpr ⟨tb_3 (i := 216) rfl, ?_⟩
  refine List.forall_mem_cons.mpr ⟨tb_2 (i := 56) rfl, ?_⟩
  refine List.forall_mem_cons.mpr ⟨tb_2 (i := 57) rfl, ?_⟩
  refine List.forall_mem_cons.mpr ⟨tb_2 (i := 58) rfl, ?_⟩
  refine List.forall_mem_cons.mpr ⟨tb_2 (i := 59) rfl, ?_⟩
  refine List.forall_mem_cons.mpr ⟨tb_2 (i := 60) rfl, ?_⟩
  exact fun _ h => absurd h List.not_mem_nil
set_option maxRecDepth 20000 in
theorem wk_17 : ∀ w ∈ wsL_law_r17, w ∈ lw_tbl := by
  unfold wsL_law_r17
  refine List.forall_mem_cons.mpr ⟨tb_2 (i := 61) rfl, ?_⟩
  refine List.forall_mem_cons.mpr ⟨tb_2 (i := 62) rfl, ?_⟩
  refine List.forall_mem_cons.mpr ⟨tb_2 (i := 63) rfl, ?_⟩
  refine List.forall_mem_cons.mpr ⟨tb_2 (i := 64) rfl, ?_⟩
  refine List.forall_mem_cons.mpr ⟨tb_3 (i := 218) rfl, ?_⟩
  refine List.forall_mem_cons.mpr ⟨tb_3 (i := 219) rfl, ?_⟩
  refine List.forall_mem_cons.mpr ⟨tb_3 (i := 220) rfl, ?_⟩
  refine List.forall_mem_cons.mpr ⟨tb_3 (i := 221) rfl, ?_⟩
  refine List.forall_mem_cons.mpr ⟨tb_3 (i := 230) rfl, ?_⟩
  refine List.forall_mem_cons.mpr ⟨tb_3 (i := 222) rfl, ?_⟩
  refine List.forall_mem_cons.mpr ⟨tb_3 (i := 224) rfl, ?_⟩
  refine List.forall_mem_cons.mpr ⟨tb_s (i := 24) rfl, ?_⟩
  refine List.forall_mem_cons.mpr ⟨tb_3 (i := 225) rfl, ?_⟩
  refine List.forall_mem_cons.mpr ⟨tb_3 (i := 226) rfl, ?_⟩
  refine List.forall_mem_cons.mpr ⟨tb_3 (i := 228) rfl, ?_⟩
  refine List.forall_mem_cons.mpr ⟨tb_s (i := 25) rfl, ?_⟩
  refine List.forall_mem_cons.mpr ⟨tb_3 (i := 229) rfl, ?_⟩
  refine List.forall_mem_cons.mpr ⟨tb_2 (i := 65) rfl, ?_⟩
  refine List.forall_mem_cons.mpr ⟨tb_2 (i := 66) rfl, ?_⟩
  refine List.forall_mem_cons.mpr ⟨tb_2 (i := 67) rfl, ?_⟩
  refine List.forall_mem_cons.mpr ⟨tb_2 (i := 68) rfl, ?_⟩
  refine List.forall_mem_cons.mpr ⟨tb_2 (i := 69) rfl, ?_⟩
  refine List.forall_mem_cons.mpr ⟨tb_2 (i := 70) rfl, ?_⟩
  refine List.forall_mem_cons.mpr ⟨tb_2 (i := 71) rfl, ?_⟩
  exact fun _ h => absurd h List.not_mem_nil
set_option maxRecDepth 20000 in
theorem wk_18 : ∀ w ∈ wsL_law_r18, w ∈ lw_tbl := by
  unfold wsL_law_r18
  refine List.forall_mem_cons.mpr ⟨tb_2 (i := 72) rfl, ?_⟩
  refine List.forall_mem_cons.mpr ⟨tb_2 (i := 73) rfl, ?_⟩
  refine List.forall_mem_cons.mpr ⟨tb_2 (i := 74) rfl, ?_⟩
  refine List.forall_mem_cons.mpr ⟨tb_2 (i := 75) rfl, ?_⟩
  refine List.forall_mem_cons.mpr ⟨tb_2 (i := 76) rfl, ?_⟩
  refine List.forall_mem_cons.mpr ⟨tb_2 (i := 77) rfl, ?_⟩
  refine List.forall_mem_cons.mpr ⟨tb_2 (i := 78) rfl, ?_⟩
  refine List.forall_mem_cons.mpr ⟨tb_2 (i := 79) rfl, ?_⟩
  refine List.forall_mem_cons.mpr ⟨tb_2 (i := 81) rfl, ?_⟩
  refine List.forall_mem_cons.mpr ⟨tb_s (i := 0) rfl, ?_⟩
  refine List.forall_mem_cons.mpr ⟨tb_2 (i := 82) rfl, ?_⟩
  refine List.forall_mem_cons.mpr ⟨tb_2 (i := 83) rfl, ?_⟩
  refine List.forall_mem_cons.mpr ⟨tb_2 (i := 84) rfl, ?_⟩
  refine List.forall_mem_cons.mpr ⟨tb_2 (i := 85) rfl, ?_⟩
  refine List.forall_mem_cons.mpr ⟨tb_2 (i := 86) rfl, ?_⟩
  refine List.forall_mem_cons.mpr ⟨tb_2 (i := 87) rfl, ?_⟩
  refine List.forall_mem_cons.mpr ⟨tb_2 (i := 88) rfl, ?_⟩
  refine List.forall_mem_cons.mpr ⟨tb_3 (i := 231) rfl, ?_⟩
  refine List.forall_mem_cons.mpr ⟨tb_3 (i := 232) rfl, ?_⟩
  refine List.forall_mem_cons.mpr ⟨tb_3 (i := 233) rfl, ?_⟩
  refine List.forall_mem_cons.mpr ⟨tb_3 (i := 234) rfl, ?_⟩
  refine List.forall_mem_cons.mpr ⟨tb_3 (i := 235) rfl, ?_⟩
  refine List.forall_mem_cons.mpr ⟨tb_3 (i := 236) rfl, ?_⟩
  refine List.forall_mem_cons.mpr ⟨tb_3 (i := 237) rfl, ?_⟩
  exact fun _ h => absurd h List.not_mem_nil
set_option maxRecDepth 20000 in
theorem wk_19 : ∀ w ∈ wsL_law_r19, w ∈ lw_tbl := by
  unfold wsL_law_r19
  refine List.forall_mem_cons.mpr ⟨tb_3 (i := 238) rfl, ?_⟩
  refine List.forall_mem_cons.mpr ⟨tb_4 (i := 0) rfl, ?_⟩
  refine List.forall_mem_cons.mpr ⟨tb_s (i := 26) rfl, ?_⟩
  refine List.forall_mem_cons.mpr ⟨tb_4 (i := 1) rfl, ?_⟩
  refine List.forall_mem_cons.mpr ⟨tb_3 (i := 37) rfl, ?_⟩
  refine List.forall_mem_cons.mpr ⟨tb_2 (i := 89) rfl, ?_⟩
  refine List.forall_mem_cons.mpr ⟨tb_2 (i := 90) rfl, ?_⟩
  refine List.forall_mem_cons.mpr ⟨tb_2 (i := 91) rfl, ?_⟩
  refine List.forall_mem_cons.mpr ⟨tb_2 (i := 92) rfl, ?_⟩
  refine List.forall_mem_cons.mpr ⟨tb_2 (i := 93) rfl, ?_⟩
  refine List.forall_mem_cons.mpr ⟨tb_2 (i := 95) rfl, ?_⟩
  refine List.forall_mem_cons.mpr ⟨tb_s (i := 1) rfl, ?_⟩
  refine List.forall_mem_cons.mpr ⟨tb_2 (i := 96) rfl, ?_⟩
  refine List.forall_mem_cons.mpr ⟨tb_1 (i := 28) rfl, ?_⟩
  refine List.forall_mem_cons.mpr ⟨tb_4 (i := 2) rfl, ?_⟩
  refine List.forall_mem_cons.mpr ⟨tb_4 (i := 3) rfl, ?_⟩
  refine List.forall_mem_cons.mpr ⟨tb_4 (i := 4) rfl, ?_⟩
  refine List.forall_mem_cons.mpr ⟨tb_4 (i := 5) rfl, ?_⟩
  refine List.forall_mem_cons.mpr ⟨tb_4 (i := 6) rfl, ?_⟩
  refine List.forall_mem_cons.mpr ⟨tb_4 (i := 7) rfl, ?_⟩
  refine List.forall_mem_cons.mpr ⟨tb_4 (i := 8) rfl, ?_⟩
  refine List.forall_mem_cons.mpr ⟨tb_2 (i := 97) rfl, ?_⟩
  refine List.forall_mem_cons.mpr ⟨tb_2 (i := 98) rfl, ?_⟩
  refine List.forall_mem_cons.mpr ⟨tb_2 (i := 99) rfl, ?_⟩
  exact fun _ h => absurd h List.not_mem_nil
set_option maxRecDepth 20000 in
theorem wk_20 : ∀ w ∈ wsL_law_r20, w ∈ lw_tbl := by
  unfold wsL_law_r20
  refine List.forall_mem_cons.mpr ⟨tb_2 (i := 100) rfl, ?_⟩
  refine List.forall_mem_cons.mpr ⟨tb_4 (i := 9) rfl, ?_⟩
  refine List.forall_mem_cons.mpr ⟨tb_4 (i := 10) rfl, ?_⟩
  refine List.forall_mem_cons.mpr ⟨tb_4 (i := 11) rfl, ?_⟩
  refine List.forall_mem_cons.mpr ⟨tb_4 (i := 12) rfl, ?_⟩
  refine List.forall_mem_cons.mpr ⟨tb_2 (i := 101) rfl, ?_⟩
  refine List.forall_mem_cons.mpr ⟨tb_2 (i := 102) rfl, ?_⟩
  refine List.forall_mem_cons.mpr ⟨tb_2 (i := 103) rfl, ?_⟩
  refine List.forall_mem_cons.mpr ⟨tb_2 (i := 104) rfl, ?_⟩
  refine List.forall_mem_cons.mpr ⟨tb_4 (i := 13) rfl, ?_⟩
  refine List.forall_mem_cons.mpr ⟨tb_4 (i := 14) rfl, ?_⟩
  refine List.forall_mem_cons.mpr ⟨tb_4 (i := 15) rfl, ?_⟩
  refine List.forall_mem_cons.mpr ⟨tb_4 (i := 16) rfl, ?_⟩
  refine List.forall_mem_cons.mpr ⟨tb_4 (i := 17) rfl, ?_⟩
  refine List.forall_mem_cons.mpr ⟨tb_4 (i := 18) rfl, ?_⟩
  refine List.forall_mem_cons.mpr ⟨tb_4 (i := 19) rfl, ?_⟩
  refine List.forall_mem_cons.mpr ⟨tb_2 (i := 105) rfl, ?_⟩
  refine List.forall_mem_cons.mpr ⟨tb_2 (i := 106) rfl, ?_⟩
  refine List.forall_mem_cons.mpr ⟨tb_2 (i := 107) rfl, ?_⟩
  refine List.forall_mem_cons.mpr ⟨tb_2 (i := 108) rfl, ?_⟩
  refine List.forall_mem_cons.mpr ⟨tb_4 (i := 20) rfl, ?_⟩
  refine List.forall_mem_cons.mpr ⟨tb_4 (i := 21) rfl, ?_⟩
  refine List.forall_mem_cons.mpr ⟨tb_4 (i := 22) rfl, ?_⟩
  refine List.forall_mem_cons.mpr ⟨tb_4 (i := 23) rfl, ?_⟩
  exact fun _ h => absurd h List.not_mem_nil
set_option maxRecDepth 20000 in
theorem wk_21 : ∀ w ∈ wsL_law_r21, w ∈ lw_tbl := by
  unfold wsL_law_r21
  refine List.forall_mem_cons.mpr ⟨tb_2 (i := 109) rfl, ?_⟩
  refine List.forall_mem_cons.mpr ⟨tb_2 (i := 110) rfl, ?_⟩
  refine List.forall_mem_cons.mpr ⟨tb_2 (i := 111) rfl, ?_⟩
  refine List.forall_mem_cons.mpr ⟨tb_2 (i := 112) rfl, ?_⟩
  refine List.forall_mem_cons.mpr ⟨tb_4 (i := 24) rfl, ?_⟩
  refine List.forall_mem_cons.mpr ⟨tb_4 (i := 25) rfl, ?_⟩
  refine List.forall_mem_cons.mpr ⟨tb_4 (i := 26) rfl, ?_⟩
  refine List.forall_mem_cons.mpr ⟨tb_4 (i := 27) rfl, ?_⟩
  refine List.forall_mem_cons.mpr ⟨tb_2 (i := 113) rfl, ?_⟩
  refine List.forall_mem_cons.mpr ⟨tb_2 (i := 114) rfl, ?_⟩
  refine List.forall_mem_cons.mpr ⟨tb_2 (i := 115) rfl, ?_⟩
  refine List.forall_mem_cons.mpr ⟨tb_2 (i := 116) rfl, ?_⟩
  refine List.forall_mem_cons.mpr ⟨tb_4 (i := 28) rfl, ?_⟩
  refine List.forall_mem_cons.mpr ⟨tb_4 (i := 29) rfl, ?_⟩
  refine List.forall_mem_cons.mpr ⟨tb_4 (i := 30) rfl, ?_⟩
  refine List.forall_mem_cons.mpr ⟨tb_4 (i := 31) rfl, ?_⟩
  refine List.forall_mem_cons.mpr ⟨tb_2 (i := 117) rfl, ?_⟩
  refine List.forall_mem_cons.mpr ⟨tb_2 (i := 118) rfl, ?_⟩
  refine List.forall_mem_cons.mpr ⟨tb_2 (i := 119) rfl, ?_⟩
  refine List.forall_mem_cons.mpr ⟨tb_2 (i := 120) rfl, ?_⟩
  refine List.forall_mem_cons.mpr ⟨tb_2 (i := 121) rfl, ?_⟩
  refine List.forall_mem_cons.mpr ⟨tb_2 (i := 123) rfl, ?_⟩
  refine List.forall_mem_cons.mpr ⟨tb_s (i := 2) rfl, ?_⟩
  refine List.forall_mem_cons.mpr ⟨tb_2 (i := 124) rfl, ?_⟩
  exact fun _ h => absurd h List.not_mem_nil
set_option maxRecDepth 20000 in
theorem wk_22 : ∀ w ∈ wsL_law_r22, w ∈ lw_tbl := by
  unfold wsL_law_r22
  refine List.forall_mem_cons.mpr ⟨tb_2 (i := 125) rfl, ?_⟩
  refine List.forall_mem_cons.mpr ⟨tb_2 (i := 127) rfl, ?_⟩
  refine List.forall_mem_cons.mpr ⟨tb_s (i := 3) rfl, ?_⟩
  refine List.forall_mem_cons.mpr ⟨tb_2 (i := 128) rfl, ?_⟩
  refine List.forall_mem_cons.mpr ⟨tb_4 (i := 32) rfl, ?_⟩
  refine List.forall_mem_cons.mpr ⟨tb_4 (i := 33) rfl, ?_⟩
  refine List.forall_mem_cons.mpr ⟨tb_4 (i := 34) rfl, ?_⟩
  refine List.forall_mem_cons.mpr ⟨tb_4 (i := 35) rfl, ?_⟩
  refine List.forall_mem_cons.mpr ⟨tb_2 (i := 129) rfl, ?_⟩
  refine List.forall_mem_cons.mpr ⟨tb_2 (i := 130) rfl, ?_⟩
  refine List.forall_mem_cons.mpr ⟨tb_2 (i := 131) rfl, ?_⟩
  refine List.forall_mem_cons.mpr ⟨tb_2 (i := 132) rfl, ?_⟩
  refine List.forall_mem_cons.mpr ⟨tb_2 (i := 133) rfl, ?_⟩
  refine List.forall_mem_cons.mpr ⟨tb_4 (i := 36) rfl, ?_⟩
  refine List.forall_mem_cons.mpr ⟨tb_4 (i := 37) rfl, ?_⟩
  refine List.forall_mem_cons.mpr ⟨tb_4 (i := 38) rfl, ?_⟩
  refine List.forall_mem_cons.mpr ⟨tb_4 (i := 39) rfl, ?_⟩
  refine List.forall_mem_cons.mpr ⟨tb_2 (i := 134) rfl, ?_⟩
  refine List.forall_mem_cons.mpr ⟨tb_2 (i := 135) rfl, ?_⟩
  refine List.forall_mem_cons.mpr ⟨tb_2 (i := 136) rfl, ?_⟩
  refine List.forall_mem_cons.mpr ⟨tb_2 (i := 137) rfl, ?_⟩
  refine List.forall_mem_cons.mpr ⟨tb_2 (i := 138) rfl, ?_⟩
  refine List.forall_mem_cons.mpr ⟨tb_2 (i := 139) rfl, ?_⟩
  refine List.forall_mem_cons.mpr ⟨tb_2 (i := 140) rfl, ?_⟩
  exact fun _ h => absurd h List.not_mem_nil
set_option maxRecDepth 20000 in
theorem wk_23 : ∀ w ∈ wsL_law_r23, w ∈ lw_tbl := by
  unfold wsL_law_r23
  refine List.forall_mem_cons.mpr ⟨tb_2 (i := 141) rfl, ?_⟩
  refine List.forall_mem_cons.mpr ⟨tb_2 (i := 142) rfl, ?_⟩
  refine List.forall_mem_cons.mpr ⟨tb_2 (i := 143) rfl, ?_⟩
  refine List.forall_mem_cons.mpr ⟨tb_2 (i := 144) rfl, ?_⟩
  refine List.forall_mem_cons.mpr ⟨tb_2 (i := 145) rfl, ?_⟩
  refine List.forall_mem_cons.mpr ⟨tb_2 (i := 146) rfl, ?_⟩
  refine List.forall_mem_cons.mpr ⟨tb_2 (i := 147) rfl, ?_⟩
  refine List.forall_mem_cons.mpr ⟨tb_2 (i := 148) rfl, ?_⟩
  refine List.forall_mem_cons.mpr ⟨tb_2 (i := 149) rfl, ?_⟩
  refine List.forall_mem_cons.mpr ⟨tb_2 (i := 150) rfl, ?_⟩
  refine List.forall_mem_cons.mpr ⟨tb_2 (i := 151) rfl, ?_⟩
  refine List.forall_mem_cons.mpr ⟨tb_2 (i := 152) rfl, ?_⟩
  refine List.forall_mem_cons.mpr ⟨tb_2 (i := 153) rfl, ?_⟩
  refine List.forall_mem_cons.mpr ⟨tb_4 (i := 40) rfl, ?_⟩
  refine List.forall_mem_cons.mpr ⟨tb_4 (i := 41) rfl, ?_⟩
  refine List.forall_mem_cons.mpr ⟨tb_4 (i := 42) rfl, ?_⟩
  refine List.forall_mem_cons.mpr ⟨tb_4 (i := 43) rfl, ?_⟩
  refine List.forall_mem_cons.mpr ⟨tb_4 (i := 44) rfl, ?_⟩
  refine List.forall_mem_cons.mpr ⟨tb_4 (i := 45) rfl, ?_⟩
  refine List.forall_mem_cons.mpr ⟨tb_4 (i := 46) rfl, ?_⟩
  refine List.forall_mem_cons.mpr ⟨tb_4 (i := 47) rfl, ?_⟩
  refine List.forall_mem_cons.mpr ⟨tb_4 (i := 48) rfl, ?_⟩
  refine List.forall_mem_cons.mpr ⟨tb_4 (i := 50) rfl, ?_⟩
  refine List.forall_mem_cons.mpr ⟨tb_s (i := 27) rfl, ?_⟩
  exact fun _ h => absurd h List.not_mem_nil
set_option maxRecDepth 20000 in
theorem wk_24 : ∀ w ∈ wsL_law_r24, w ∈ lw_tbl := by
  unfold wsL_law_r24
  refine List.forall_mem_cons.mpr ⟨tb_4 (i := 51) rfl, ?_⟩
  refine List.forall_mem_cons.mpr ⟨tb_4 (i := 52) rfl, ?_⟩
  refine List.forall_mem_cons.mpr ⟨tb_4 (i := 54) rfl, ?_⟩
  refine List.forall_mem_cons.mpr ⟨tb_s (i := 28) rfl, ?_⟩
  refine List.forall_mem_cons.mpr ⟨tb_4 (i := 55) rfl, ?_⟩
  refine List.forall_mem_cons.mpr ⟨tb_4 (i := 56) rfl, ?_⟩
  refine List.forall_mem_cons.mpr ⟨tb_4 (i := 57) rfl, ?_⟩
  refine List.forall_mem_cons.mpr ⟨tb_4 (i := 58) rfl, ?_⟩
  refine List.forall_mem_cons.mpr ⟨tb_2 (i := 154) rfl, ?_⟩
  refine List.forall_mem_cons.mpr ⟨tb_2 (i := 155) rfl, ?_⟩
  refine List.forall_mem_cons.mpr ⟨tb_2 (i := 156) rfl, ?_⟩
  refine List.forall_mem_cons.mpr ⟨tb_2 (i := 157) rfl, ?_⟩
  refine List.forall_mem_cons.mpr ⟨tb_2 (i := 158) rfl, ?_⟩
  refine List.forall_mem_cons.mpr ⟨tb_2 (i := 159) rfl, ?_⟩
  refine List.forall_mem_cons.mpr ⟨tb_2 (i := 160) rfl, ?_⟩
  refine List.forall_mem_cons.mpr ⟨tb_2 (i := 161) rfl, ?_⟩
  refine List.forall_mem_cons.mpr ⟨tb_4 (i := 59) rfl, ?_⟩
  refine List.forall_mem_cons.mpr ⟨tb_4 (i := 60) rfl, ?_⟩
  refine List.forall_mem_cons.mpr ⟨tb_4 (i := 61) rfl, ?_⟩
  refine List.forall_mem_cons.mpr ⟨tb_4 (i := 62) rfl, ?_⟩
  refine List.forall_mem_cons.mpr ⟨tb_2 (i := 162) rfl, ?_⟩
  refine List.forall_mem_cons.mpr ⟨tb_2 (i := 163) rfl, ?_⟩
  refine List.forall_mem_cons.mpr ⟨tb_2 (i := 164) rfl, ?_⟩
  refine List.forall_mem_cons.mpr ⟨tb_2 (i := 165) rfl, ?_⟩
  exact fun _ h => absurd h List.not_mem_nil
set_option maxRecDepth 20000 in
theorem wk_25 : ∀ w ∈ wsL_law_r25, w ∈ lw_tbl := by
  unfold wsL_law_r25
  refine List.forall_mem_cons.mpr ⟨tb_2 (i := 166) rfl, ?_⟩
  refine List.forall_mem_cons.mpr ⟨tb_4 (i := 63) rfl, ?_⟩
  refine List.forall_mem_cons.mpr ⟨tb_4 (i := 64) rfl, ?_⟩
  refine List.forall_mem_cons.mpr ⟨tb_4 (i := 65) rfl, ?_⟩
  refine List.forall_mem_cons.mpr ⟨tb_4 (i := 66) rfl, ?_⟩
  refine List.forall_mem_cons.mpr ⟨tb_2 (i := 167) rfl, ?_⟩
  refine List.forall_mem_cons.mpr ⟨tb_2 (i := 168) rfl, ?_⟩
  refine List.forall_mem_cons.mpr ⟨tb_2 (i := 169) rfl, ?_⟩
  refine List.forall_mem_cons.mpr ⟨tb_2 (i := 170) rfl, ?_⟩
  refine List.forall_mem_cons.mpr ⟨tb_2 (i := 171) rfl, ?_⟩
  refine List.forall_mem_cons.mpr ⟨tb_2 (i := 173) rfl, ?_⟩
  refine List.forall_mem_cons.mpr ⟨tb_s (i := 4) rfl, ?_⟩
  refine List.forall_mem_cons.mpr ⟨tb_2 (i := 174) rfl, ?_⟩
  refine List.forall_mem_cons.mpr ⟨tb_2 (i := 175) rfl, ?_⟩
  refine List.forall_mem_cons.mpr ⟨tb_2 (i := 176) rfl, ?_⟩
  refine List.forall_mem_cons.mpr ⟨tb_2 (i := 177) rfl, ?_⟩
  refine List.forall_mem_cons.mpr ⟨tb_2 (i := 178) rfl, ?_⟩
  refine List.forall_mem_cons.mpr ⟨tb_2 (i := 179) rfl, ?_⟩
  refine List.forall_mem_cons.mpr ⟨tb_2 (i := 180) rfl, ?_⟩
  refine List.forall_mem_cons.mpr ⟨tb_2 (i := 181) rfl, ?_⟩
  refine List.forall_mem_cons.mpr ⟨tb_2 (i := 182) rfl, ?_⟩
  refine List.forall_mem_cons.mpr ⟨tb_2 (i := 183) rfl, ?_⟩
  refine List.forall_mem_cons.mpr ⟨tb_2 (i := 184) rfl, ?_⟩
  refine List.forall_mem_cons.mpr ⟨tb_2 (i := 185) rfl, ?_⟩
  exact fun _ h => absurd h List.not_mem_nil
set_option maxRecDepth 20000 in
theorem wk_26 : ∀ w ∈ wsL_law_r26, w ∈ lw_tbl := by
  unfold wsL_law_r26
  refine List.forall_mem_cons.mpr ⟨tb_2 (i := 186) rfl, ?_⟩
  refine List.forall_mem_cons.mpr ⟨tb_2 (i := 187) rfl, ?_⟩
  refine List.forall_mem_cons.mpr ⟨tb_2 (i := 188) rfl, ?_⟩
  refine List.forall_mem_cons.mpr ⟨tb_2 (i := 189) rfl, ?_⟩
  refine List.forall_mem_cons.mpr ⟨tb_2 (i := 190) rfl, ?_⟩
  refine List.forall_mem_cons.mpr ⟨tb_2 (i := 191) rfl, ?_⟩
  refine List.forall_mem_cons.mpr ⟨tb_2 (i := 192) rfl, ?_⟩
  refine List.forall_mem_cons.mpr ⟨tb_2 (i := 193) rfl, ?_⟩
  refine List.forall_mem_cons.mpr ⟨tb_2 (i := 194) rfl, ?_⟩
  refine List.forall_mem_cons.mpr ⟨tb_2 (i := 195) rfl, ?_⟩
  refine List.forall_mem_cons.mpr ⟨tb_2 (i := 199) rfl, ?_⟩
  refine List.forall_mem_cons.mpr ⟨tb_2 (i := 200) rfl, ?_⟩
  refine List.forall_mem_cons.mpr ⟨tb_2 (i := 201) rfl, ?_⟩
  refine List.forall_mem_cons.mpr ⟨tb_2 (i := 202) rfl, ?_⟩
  refine List.forall_mem_cons.mpr ⟨tb_2 (i := 203) rfl, ?_⟩
  refine List.forall_mem_cons.mpr ⟨tb_2 (i := 204) rfl, ?_⟩
  refine List.forall_mem_cons.mpr ⟨tb_4 (i := 67) rfl, ?_⟩
  refine List.forall_mem_cons.mpr ⟨tb_4 (i := 68) rfl, ?_⟩
  refine List.forall_mem_cons.mpr ⟨tb_4 (i := 69) rfl, ?_⟩
  refine List.forall_mem_cons.mpr ⟨tb_4 (i := 70) rfl, ?_⟩
  refine List.forall_mem_cons.mpr ⟨tb_4 (i := 74) rfl, ?_⟩
  refine List.forall_mem_cons.mpr ⟨tb_4 (i := 71) rfl, ?_⟩
  refine List.forall_mem_cons.mpr ⟨tb_4 (i := 72) rfl, ?_⟩
  refine List.forall_mem_cons.mpr ⟨tb_4 (i := 73) rfl, ?_⟩
  exact fun _ h => absurd h List.not_mem_nil
set_option maxRecDepth 20000 in
theorem wk_27 : ∀ w ∈ wsL_law_r27, w ∈ lw_tbl := by
  unfold wsL_law_r27
  refine List.forall_mem_cons.mpr ⟨tb_4 (i := 75) rfl, ?_⟩
  refine List.forall_mem_cons.mpr ⟨tb_4 (i := 77) rfl, ?_⟩
  refine List.forall_mem_cons.mpr ⟨tb_s (i := 29) rfl, ?_⟩
  refine List.forall_mem_cons.mpr ⟨tb_4 (i := 78) rfl, ?_⟩
  refine List.forall_mem_cons.mpr ⟨tb_2 (i := 205) rfl, ?_⟩
  refine List.forall_mem_cons.mpr ⟨tb_2 (i := 206) rfl, ?_⟩
  refine List.forall_mem_cons.mpr ⟨tb_2 (i := 207) rfl, ?_⟩
  refine List.forall_mem_cons.mpr ⟨tb_2 (i := 208) rfl, ?_⟩
  refine List.forall_mem_cons.mpr ⟨tb_4 (i := 79) rfl, ?_⟩
  refine List.forall_mem_cons.mpr ⟨tb_4 (i := 80) rfl, ?_⟩
  refine List.forall_mem_cons.mpr ⟨tb_4 (i := 81) rfl, ?_⟩
  refine List.forall_mem_cons.mpr ⟨tb_4 (i := 82) rfl, ?_⟩
  refine List.forall_mem_cons.mpr ⟨tb_2 (i := 209) rfl, ?_⟩
  refine List.forall_mem_cons.mpr ⟨tb_2 (i := 210) rfl, ?_⟩
  refine List.forall_mem_cons.mpr ⟨tb_2 (i := 211) rfl, ?_⟩
  refine List.forall_mem_cons.mpr ⟨tb_2 (i := 212) rfl, ?_⟩
  refine List.forall_mem_cons.mpr ⟨tb_4 (i := 83) rfl, ?_⟩
  refine List.forall_mem_cons.mpr ⟨tb_4 (i := 84) rfl, ?_⟩
  refine List.forall_mem_cons.mpr ⟨tb_4 (i := 85) rfl, ?_⟩
  refine List.forall_mem_cons.mpr ⟨tb_4 (i := 86) rfl, ?_⟩
  refine List.forall_mem_cons.mpr ⟨tb_2 (i := 213) rfl, ?_⟩
  refine List.forall_mem_cons.mpr ⟨tb_2 (i := 214) rfl, ?_⟩
  refine List.forall_mem_cons.mpr ⟨tb_2 (i := 215) rfl, ?_⟩
  refine List.forall_mem_cons.mpr ⟨tb_2 (i := 216) rfl, ?_⟩
  exact fun _ h => absurd h List.not_mem_nil
set_option maxRecDepth 20000 in
theorem wk_28 : ∀ w ∈ wsL_law_r28, w ∈ lw_tbl := by
  unfold wsL_law_r28
  refine List.forall_mem_cons.mpr ⟨tb_2 (i := 217) rfl, ?_⟩
  refine List.forall_mem_cons.mpr ⟨tb_2 (i := 218) rfl, ?_⟩
  refine List.forall_mem_cons.mpr ⟨tb_2 (i := 219) rfl, ?_⟩
  refine List.forall_mem_cons.mpr ⟨tb_2 (i := 220) rfl, ?_⟩
  refine List.forall_mem_cons.mpr ⟨tb_4 (i := 87) rfl, ?_⟩
  refine List.forall_mem_cons.mpr ⟨tb_4 (i := 88) rfl, ?_⟩
  refine List.forall_mem_cons.mpr ⟨tb_4 (i := 89) rfl, ?_⟩
  refine List.forall_mem_cons.mpr ⟨tb_4 (i := 90) rfl, ?_⟩
  refine List.forall_mem_cons.mpr ⟨tb_2 (i := 221) rfl, ?_⟩
  refine List.forall_mem_cons.mpr ⟨tb_2 (i := 222) rfl, ?_⟩
  refine List.forall_mem_cons.mpr ⟨tb_2 (i := 223) rfl, ?_⟩
  refine List.forall_mem_cons.mpr ⟨tb_2 (i := 224) rfl, ?_⟩
  refine List.forall_mem_cons.mpr ⟨tb_2 (i := 225) rfl, ?_⟩
  refine List.forall_mem_cons.mpr ⟨tb_2 (i := 226) rfl, ?_⟩
  refine List.forall_mem_cons.mpr ⟨tb_2 (i := 227) rfl, ?_⟩
  refine List.forall_mem_cons.mpr ⟨tb_2 (i := 228) rfl, ?_⟩
  refine List.forall_mem_cons.mpr ⟨tb_2 (i := 229) rfl, ?_⟩
  refine List.forall_mem_cons.mpr ⟨tb_2 (i := 230) rfl, ?_⟩
  refine List.forall_mem_cons.mpr ⟨tb_2 (i := 231) rfl, ?_⟩
  refine List.forall_mem_cons.mpr ⟨tb_2 (i := 232) rfl, ?_⟩
  refine List.forall_mem_cons.mpr ⟨tb_4 (i := 91) rfl, ?_⟩
  refine List.forall_mem_cons.mpr ⟨tb_4 (i := 92) rfl, ?_⟩
  refine List.forall_mem_cons.mpr ⟨tb_4 (i := 93) rfl, ?_⟩
  refine List.forall_mem_cons.mpr ⟨tb_4 (i := 94) rfl, ?_⟩
  exact fun _ h => absurd h List.not_mem_nil
set_option maxRecDepth 20000 in
theorem wk_29 : ∀ w ∈ wsL_law_r29, w ∈ lw_tbl := by
  unfold wsL_law_r29
  refine List.forall_mem_cons.mpr ⟨tb_4 (i := 95) rfl, ?_⟩
  refine List.forall_mem_cons.mpr ⟨tb_4 (i := 97) rfl, ?_⟩
  refine List.forall_mem_cons.mpr ⟨tb_s (i := 30) rfl, ?_⟩
  refine List.forall_mem_cons.mpr ⟨tb_4 (i := 98) rfl, ?_⟩
  refine List.forall_mem_cons.mpr ⟨tb_4 (i := 99) rfl, ?_⟩
  refine List.forall_mem_cons.mpr ⟨tb_4 (i := 100) rfl, ?_⟩
  refine List.forall_mem_cons.mpr ⟨tb_4 (i := 101) rfl, ?_⟩
  refine List.forall_mem_cons.mpr ⟨tb_4 (i := 102) rfl, ?_⟩
  refine List.forall_mem_cons.mpr ⟨tb_4 (i := 103) rfl, ?_⟩
  refine List.forall_mem_cons.mpr ⟨tb_4 (i := 104) rfl, ?_⟩
  refine List.forall_mem_cons.mpr ⟨tb_4 (i := 105) rfl, ?_⟩
  refine List.forall_mem_cons.mpr ⟨tb_4 (i := 106) rfl, ?_⟩
  refine List.forall_mem_cons.mpr ⟨tb_4 (i := 107) rfl, ?_⟩
  refine List.forall_mem_cons.mpr ⟨tb_2 (i := 233) rfl, ?_⟩
  refine List.forall_mem_cons.mpr ⟨tb_2 (i := 234) rfl, ?_⟩
  refine List.forall_mem_cons.mpr ⟨tb_2 (i := 235) rfl, ?_⟩
  refine List.forall_mem_cons.mpr ⟨tb_2 (i := 236) rfl, ?_⟩
  refine List.forall_mem_cons.mpr ⟨tb_2 (i := 237) rfl, ?_⟩
  refine List.forall_mem_cons.mpr ⟨tb_2 (i := 239) rfl, ?_⟩
  refine List.forall_mem_cons.mpr ⟨tb_s (i := 5) rfl, ?_⟩
  refine List.forall_mem_cons.mpr ⟨tb_3 (i := 0) rfl, ?_⟩
  refine List.forall_mem_cons.mpr ⟨tb_4 (i := 108) rfl, ?_⟩
  refine List.forall_mem_cons.mpr ⟨tb_4 (i := 109) rfl, ?_⟩
  refine List.forall_mem_cons.mpr ⟨tb_4 (i := 110) rfl, ?_⟩
  exact fun _ h => absurd h List.not_mem_nil
set_option maxRecDepth 20000 in
theorem wk_30 : ∀ w ∈ wsL_law_r30, w ∈ lw_tbl := by
  unfold wsL_law_r30
  refine List.forall_mem_cons.mpr ⟨tb_4 (i := 111) rfl, ?_⟩
  refine List.forall_mem_cons.mpr ⟨tb_4 (i := 112) rfl, ?_⟩
  refine List.forall_mem_cons.mpr ⟨tb_4 (i := 113) rfl, ?_⟩
  refine List.forall_mem_cons.mpr ⟨tb_4 (i := 114) rfl, ?_⟩
  refine List.forall_mem_cons.mpr ⟨tb_4 (i := 115) rfl, ?_⟩
  refine List.forall_mem_cons.mpr ⟨tb_4 (i := 116) rfl, ?_⟩
  refine List.forall_mem_cons.mpr ⟨tb_3 (i := 1) rfl, ?_⟩
  refine List.forall_mem_cons.mpr ⟨tb_3 (i := 2) rfl, ?_⟩
  refine List.forall_mem_cons.mpr ⟨tb_3 (i := 3) rfl, ?_⟩
  refine List.forall_mem_cons.mpr ⟨tb_3 (i := 4) rfl, ?_⟩
  refine List.forall_mem_cons.mpr ⟨tb_1 (i := 139) rfl, ?_⟩
  refine List.forall_mem_cons.mpr ⟨tb_4 (i := 117) rfl, ?_⟩
  refine List.forall_mem_cons.mpr ⟨tb_4 (i := 118) rfl, ?_⟩
  refine List.forall_mem_cons.mpr ⟨tb_4 (i := 119) rfl, ?_⟩
  refine List.forall_mem_cons.mpr ⟨tb_4 (i := 120) rfl, ?_⟩
  refine List.forall_mem_cons.mpr ⟨tb_3 (i := 42) rfl, ?_⟩
  refine List.forall_mem_cons.mpr ⟨tb_3 (i := 5) rfl, ?_⟩
  refine List.forall_mem_cons.mpr ⟨tb_3 (i := 6) rfl, ?_⟩
  refine List.forall_mem_cons.mpr ⟨tb_3 (i := 7) rfl, ?_⟩
  refine List.forall_mem_cons.mpr ⟨tb_3 (i := 8) rfl, ?_⟩
  refine List.forall_mem_cons.mpr ⟨tb_3 (i := 9) rfl, ?_⟩
  refine List.forall_mem_cons.mpr ⟨tb_3 (i := 10) rfl, ?_⟩
  refine List.forall_mem_cons.mpr ⟨tb_4 (i := 121) rfl, ?_⟩
  refine List.forall_mem_cons.mpr ⟨tb_4 (i := 122) rfl, ?_⟩
  exact fun _ h => absurd h List.not_mem_nil
set_option maxRecDepth 20000 in
theorem wk_31 : ∀ w ∈ wsL_law_r31, w ∈ lw_tbl := by
  unfold wsL_law_r31
  refine List.forall_mem_cons.mpr ⟨tb_4 (i := 123) rfl, ?_⟩
  refine List.forall_mem_cons.mpr ⟨tb_4 (i := 124) rfl, ?_⟩
  refine List.forall_mem_cons.mpr ⟨tb_4 (i := 125) rfl, ?_⟩
  refine List.forall_mem_cons.mpr ⟨tb_4 (i := 126) rfl, ?_⟩
  refine List.forall_mem_cons.mpr ⟨tb_4 (i := 127) rfl, ?_⟩
  refine List.forall_mem_cons.mpr ⟨tb_3 (i := 11) rfl, ?_⟩
  refine List.forall_mem_cons.mpr ⟨tb_3 (i := 12) rfl, ?_⟩
  refine List.forall_mem_cons.mpr ⟨tb_3 (i := 13) rfl, ?_⟩
  refine List.forall_mem_cons.mpr ⟨tb_3 (i := 14) rfl, ?_⟩
  refine List.forall_mem_cons.mpr ⟨tb_3 (i := 15) rfl, ?_⟩
  refine List.forall_mem_cons.mpr ⟨tb_3 (i := 17) rfl, ?_⟩
  refine List.forall_mem_cons.mpr ⟨tb_s (i := 6) rfl, ?_⟩
  refine List.forall_mem_cons.mpr ⟨tb_3 (i := 18) rfl, ?_⟩
  refine List.forall_mem_cons.mpr ⟨tb_4 (i := 128) rfl, ?_⟩
  refine List.forall_mem_cons.mpr ⟨tb_4 (i := 129) rfl, ?_⟩
  refine List.forall_mem_cons.mpr ⟨tb_4 (i := 130) rfl, ?_⟩
  refine List.forall_mem_cons.mpr ⟨tb_4 (i := 131) rfl, ?_⟩
  refine List.forall_mem_cons.mpr ⟨tb_3 (i := 19) rfl, ?_⟩
  refine List.forall_mem_cons.mpr ⟨tb_3 (i := 20) rfl, ?_⟩
  refine List.forall_mem_cons.mpr ⟨tb_3 (i := 21) rfl, ?_⟩
  refine List.forall_mem_cons.mpr ⟨tb_3 (i := 22) rfl, ?_⟩
  refine List.forall_mem_cons.mpr ⟨tb_4 (i := 132) rfl, ?_⟩
  refine List.forall_mem_cons.mpr ⟨tb_4 (i := 133) rfl, ?_⟩
  refine List.forall_mem_cons.mpr ⟨tb_4 (i := 134) rfl, ?_⟩
  exact fun _ h => absurd h List.not_mem_nil
set_option maxRecDepth 20000 in
theorem wk_32 : ∀ w ∈ wsL_law_r32, w ∈ lw_tbl := by
  unfold wsL_law_r32
  refine List.forall_mem_cons.mpr ⟨tb_4 (i := 135) rfl, ?_⟩
  exact fun _ h => absurd h List.not_mem_nil
set_option maxRecDepth 20000 in
theorem wk_X0 : ∀ w ∈ wsX00, w ∈ lw_tbl := by
  intro w h
  obtain ⟨k, hk, rfl⟩ := List.mem_map.mp h
  have hk := List.mem_range.mp hk
  match k, hk with
  | 0, _ => exact tb_1 (i := 63) rfl
  | 1, _ => exact tb_1 (i := 65) rfl
  | 2, _ => exact tb_1 (i := 67) rfl
  | 3, _ => exact tb_1 (i := 69) rfl
  | 4, _ => exact tb_1 (i := 71) rfl
  | 5, _ => exact tb_1 (i := 73) rfl
  | k + 6, hk => exact absurd hk (by omega)
set_option maxRecDepth 20000 in
theorem wk_X1 : ∀ w ∈ wsX10, w ∈ lw_tbl := by
  intro w h
  obtain ⟨k, hk, rfl⟩ := List.mem_map.mp h
  have hk := List.mem_range.mp hk
  match k, hk with
  | 0, _ => exact tb_1 (i := 34) rfl
  | 1, _ => exact tb_1 (i := 36) rfl
  | 2, _ => exact tb_1 (i := 38) rfl
  | 3, _ => exact tb_1 (i := 40) rfl
  | k + 4, hk => exact absurd hk (by omega)
set_option maxRecDepth 20000 in
theorem wk_X2 : ∀ w ∈ wsX20, w ∈ lw_tbl := by
  intro w h
  obtain ⟨k, hk, rfl⟩ := List.mem_map.mp h
  have hk := List.mem_range.mp hk
  match k, hk with
  | 0, _ => exact tb_1 (i := 95) rfl
  | 1, _ => exact tb_1 (i := 97) rfl
  | 2, _ => exact tb_1 (i := 99) rfl
  | 3, _ => exact tb_1 (i := 101) rfl
  | 4, _ => exact tb_1 (i := 103) rfl
  | 5, _ => exact tb_1 (i := 105) rfl
  | 6, _ => exact tb_1 (i := 107) rfl
  | k + 7, hk => exact absurd hk (by omega)
set_option maxRecDepth 20000 in
theorem wk_X3 : ∀ w ∈ wsX30, w ∈ lw_tbl := by
  intro w h
  obtain ⟨k, hk, rfl⟩ := List.mem_map.mp h
  have hk := List.mem_range.mp hk
  match k, hk with
  | 0, _ => exact tb_1 (i := 140) rfl
  | 1, _ => exact tb_1 (i := 142) rfl
  | 2, _ => exact tb_1 (i := 144) rfl
  | 3, _ => exact tb_1 (i := 146) rfl
  | 4, _ => exact tb_1 (i := 148) rfl
  | 5, _ => exact tb_1 (i := 150) rfl
  | 6, _ => exact tb_1 (i := 152) rfl
  | 7, _ => exact tb_1 (i := 154) rfl
  | 8, _ => exact tb_1 (i := 156) rfl
  | 9, _ => exact tb_1 (i := 158) rfl
  | 10, _ => exact tb_1 (i := 160) rfl
  | k + 11, hk => exact absurd hk (by omega)
set_option maxRecDepth 20000 in
theorem wk_X4 : ∀ w ∈ wsX40, w ∈ lw_tbl := by
  intro w h
  obtain ⟨k, hk, rfl⟩ := List.mem_map.mp h
  have hk := List.mem_range.mp hk
  match k, hk with
  | 0, _ => exact tb_3 (i := 50) rfl
  | 1, _ => exact tb_3 (i := 52) rfl
  | 2, _ => exact tb_3 (i := 54) rfl
  | 3, _ => exact tb_3 (i := 56) rfl
  | 4, _ => exact tb_3 (i := 58) rfl
  | 5, _ => exact tb_3 (i := 60) rfl
  | 6, _ => exact tb_3 (i := 62) rfl
  | 7, _ => exact tb_3 (i := 64) rfl
  | 8, _ => exact tb_3 (i := 66) rfl
  | 9, _ => exact tb_3 (i := 68) rfl
  | 10, _ => exact tb_3 (i := 70) rfl
  | 11, _ => exact tb_3 (i := 72) rfl
  | 12, _ => exact tb_3 (i := 74) rfl
  | 13, _ => exact tb_3 (i := 76) rfl
  | 14, _ => exact tb_3 (i := 78) rfl
  | 15, _ => exact tb_3 (i := 80) rfl
  | 16, _ => exact tb_3 (i := 82) rfl
  | 17, _ => exact tb_3 (i := 84) rfl
  | 18, _ => exact tb_3 (i := 86) rfl
  | 19, _ => exact tb_3 (i := 88) rfl
  | 20, _ => exact tb_3 (i := 90) rfl
  | k + 21, hk => exact absurd hk (by omega)
theorem wsL_law_in : ∀ w ∈ wsL_law, w ∈ lw_tbl := by
  unfold wsL_law
  exact List.forall_mem_append.mpr ⟨List.forall_mem_append.mpr ⟨List.forall_mem_append.mpr ⟨List.forall_mem_append.mpr ⟨List.forall_mem_append.mpr ⟨List.forall_mem_append.mpr ⟨List.forall_mem_append.mpr ⟨wk_1, List.forall_mem_append.mpr ⟨wk_2, List.forall_mem_append.mpr ⟨wk_3, List.forall_mem_append.mpr ⟨wk_4, List.forall_mem_append.mpr ⟨wk_5, List.forall_mem_append.mpr ⟨wk_6, List.forall_mem_append.mpr ⟨wk_7, List.forall_mem_append.mpr ⟨wk_8, List.forall_mem_append.mpr ⟨wk_9, List.forall_mem_append.mpr ⟨wk_10, List.forall_mem_append.mpr ⟨wk_11, List.forall_mem_append.mpr ⟨wk_12, List.forall_mem_append.mpr ⟨wk_13, List.forall_mem_append.mpr ⟨wk_14, List.forall_mem_append.mpr ⟨wk_15, List.forall_mem_append.mpr ⟨wk_16, List.forall_mem_append.mpr ⟨wk_17, List.forall_mem_append.mpr ⟨wk_18, List.forall_mem_append.mpr ⟨wk_19, List.forall_mem_append.mpr ⟨wk_20, List.forall_mem_append.mpr ⟨wk_21, List.forall_mem_append.mpr ⟨wk_22, List.forall_mem_append.mpr ⟨wk_23, List.forall_mem_append.mpr ⟨wk_24, List.forall_mem_append.mpr ⟨wk_25, List.forall_mem_append.mpr ⟨wk_26, List.forall_mem_append.mpr ⟨wk_27, List.forall_mem_append.mpr ⟨wk_28, List.forall_mem_append.mpr ⟨wk_29, List.forall_mem_append.mpr ⟨wk_30, List.forall_mem_append.mpr ⟨wk_31, wk_32⟩⟩⟩⟩⟩⟩⟩⟩⟩⟩⟩⟩⟩⟩⟩⟩⟩⟩⟩⟩⟩⟩⟩⟩⟩⟩⟩⟩⟩⟩⟩, wk_X3⟩, wk_X4⟩, wk_X1⟩, wk_X0⟩, wk_X2⟩, fun _ h => absurd h List.not_mem_nil⟩
theorem nws_at {args : Array Value} {s : State} (h : ∀ w ∈ lw_tbl, w.before args s = true) : NWs s :=
  ⟨va_Nw.of rfl (h (.methodLinkNest RX3 44 yX2_init RX3) (tb_1 (i := 78) rfl)), va_Nw.of rfl (h (.methodLinkNest RX1 39 yX3_coverOf RX3) (tb_1 (i := 126) rfl)), va_Nw.of rfl (h (.methodLinkNest RX2 78 yX3_leftBySize RX3) (tb_1 (i := 208) rfl)), va_Nw.of rfl (h (.methodLinkNest RX0 47 yX3_bit RX3) (tb_2 (i := 8) rfl)), va_Nw.of rfl (h (.methodLinkNest RX0 50 yX3_isWithin RX3) (tb_2 (i := 11) rfl)), va_Nw.of rfl (h (.methodLinkNest RX0 109 yX3_isOrigin RX3) (tb_2 (i := 196) rfl)), va_Nw.of rfl (h (.methodLinkNest RX0 97 yX3_isLaw RX3) (tb_2 (i := 197) rfl)), va_Nw.of rfl (h (.methodLinkNest RX0 100 yX3_isPlace RX3) (tb_2 (i := 198) rfl))⟩
