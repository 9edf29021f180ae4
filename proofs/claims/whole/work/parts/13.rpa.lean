noncomputable def mX3_about (s_t_papers : Int32 × Int32 × Int32) (s_t_now : Int32 × Int32 × Int32) (s_t_now_grants : Int32 × Int32 × Int32) (s_t_now_routes : Int32 × Int32 × Int32) (s_t_papers_cells : Ar) (s_t_now_grants_cells : Ar) (s_t_now_routes_cells : Ar) (s_t_acts : Int32 × Int32 × Int32) (s_t_seen : Int32 × Int32 × Int32) (s_t_text : Int32 × Int32 × Int32) (v1 : Int32) : Option (Int32) := (if v1 = (0 : Int32) then some (s_t_papers.2.2) else (if v1 = (1 : Int32) then some (s_t_now_grants.2.2) else (if v1 = (2 : Int32) then some (s_t_now_routes.2.2) else (if v1 = (3 : Int32) then some (s_t_now.2.2) else (if v1 = (4 : Int32) then some (s_t_now.1) else (if v1 = (5 : Int32) then (mX0_standing s_t_now s_t_papers s_t_papers_cells s_t_now.1).bind (fun x125 => some (x125)) else (if v1 = (6 : Int32) then some (s_t_now.2.1) else (if v1 = (7 : Int32) then (mX0_countingNow s_t_now s_t_papers s_t_papers_cells s_t_now_grants s_t_now_grants_cells).bind (fun x146 => (mX0_routesThatAre s_t_now_routes s_t_now_routes_cells s_t_now_grants s_t_now_grants_cells (2 : Int32) x146).bind (fun x149 => some (x149))) else (if v1 = (8 : Int32) then (mX0_countingNow s_t_now s_t_papers s_t_papers_cells s_t_now_grants s_t_now_grants_cells).bind (fun x162 => (mX0_routesThatAre s_t_now_routes s_t_now_routes_cells s_t_now_grants s_t_now_grants_cells (0 : Int32) x162).bind (fun x165 => some (x165))) else (if v1 = (9 : Int32) then (mX0_bare s_t_now s_t_papers s_t_papers_cells s_t_now_grants s_t_now_grants_cells).bind (fun x173 => some (x173)) else (if v1 = (10 : Int32) then some (s_t_acts.2.2) else (if v1 = (11 : Int32) then some (s_t_seen.2.2) else (if v1 = (12 : Int32) then some (s_t_text.1) else some ((-2 : Int32)))))))))))))))
set_option maxHeartbeats 4000000 in
set_option maxRecDepth 100000 in
theorem okX3_about {l : Launch} {dC : Nat → ClassId} {dI : Nat → Nat → Nat} {cI cC cZ : ClassId} (a_t a_t_papers a_t_now a_t_trial a_t_firstSlot a_t_secondSlot a_t_acts a_t_seen a_t_text a_t_doings a_t_papers_cells a_t_now_grants a_t_now_routes a_t_now_grants_cells a_t_now_routes_cells a_t_acts_cells a_t_seen_cells a_t_text_letters a_t_text_papers a_t_text_grants a_t_text_routes : Nat) (s_t : Int32 × Int64) (s_t_papers : Int32 × Int32 × Int32) (s_t_now : Int32 × Int32 × Int32) (s_t_now_grants : Int32 × Int32 × Int32) (s_t_now_routes : Int32 × Int32 × Int32) (s_t_papers_cells : Ar) (s_t_now_grants_cells : Ar) (s_t_now_routes_cells : Ar) (s_t_acts : Int32 × Int32 × Int32) (s_t_seen : Int32 × Int32 × Int32) (s_t_text : Int32 × Int32 × Int32) (v1 : Int32) (res : Int32) (hM : mX3_about s_t_papers s_t_now s_t_now_grants s_t_now_routes s_t_papers_cells s_t_now_grants_cells s_t_now_routes_cells s_t_acts s_t_seen s_t_text v1 = some res) : Rd l yX3_about cX3_about 2 (some .int) 4 89 (dC, dI) cI cC cZ [(a_t, .inr (3, [.ref a_t_papers, .ref a_t_now, .ref a_t_trial, .ref a_t_firstSlot, .ref a_t_secondSlot, .ref a_t_acts, .ref a_t_seen, .ref a_t_text, .ref a_t_doings, .int s_t.1, .long s_t.2])), (a_t_papers, .inr (1, [.int s_t_papers.1, .int s_t_papers.2.1, .ref a_t_papers_cells, .int s_t_papers.2.2])), (a_t_now, .inr (0, [.ref a_t_papers, .ref a_t_now_grants, .ref a_t_now_routes, .int s_t_now.1, .int s_t_now.2.1, .int s_t_now.2.2])), (a_t_now_grants, .inr (1, [.int s_t_now_grants.1, .int s_t_now_grants.2.1, .ref a_t_now_grants_cells, .int s_t_now_grants.2.2])), (a_t_now_routes, .inr (1, [.int s_t_now_routes.1, .int s_t_now_routes.2.1, .ref a_t_now_routes_cells, .int s_t_now_routes.2.2])), (a_t_papers_cells, .inl (cI, s_t_papers_cells.1, .inl s_t_papers_cells.2)), (a_t_now_grants_cells, .inl (cI, s_t_now_grants_cells.1, .inl s_t_now_grants_cells.2)), (a_t_now_routes_cells, .inl (cI, s_t_now_routes_cells.1, .inl s_t_now_routes_cells.2)), (a_t_acts, .inr (1, [.int s_t_acts.1, .int s_t_acts.2.1, .ref a_t_acts_cells, .int s_t_acts.2.2])), (a_t_seen, .inr (1, [.int s_t_seen.1, .int s_t_seen.2.1, .ref a_t_seen_cells, .int s_t_seen.2.2])), (a_t_text, .inr (2, [.ref a_t_text_letters, .int s_t_text.1, .ref a_t_text_papers, .ref a_t_text_grants, .ref a_t_text_routes, .int s_t_text.2.1, .int s_t_text.2.2]))] [.ref a_t, .int v1] (some (.int res)) := by
  refine Rd.ofI (by decide) (Nat.le_of_ble_eq_true rfl) [(0, .ref a_t), (1, .int v1)] rfl ?_
  intro p e s m args below meth c ls Q hx hb hml hown hU hE hP rt hl
  have hown : s.vm.findClass RX3 = some m.cls := hown
  unfold mX3_about at hM
  refine lv_iload_n hx hb dX3_about_0 rfl (lv_at hl 1 rfl) ?_
  by_cases c1_0 : v1 = (0 : Int32)
  · have hM := ite_t c1_0 hM
    refine lv_tableIn (off := 67) (tgt := 68) hx hb dX3_about_1 (by rw [c1_0]; decide) (by rw [c1_0]; decide) (by rw [c1_0]; rfl) (by decide) ?_
    refine lv_aload_n hx hb dX3_about_68 rfl (lv_at hl 0 rfl) ?_
    refine va_get (D := (dC, dI)) (ci := 3) (v := .ref a_t_papers) (C := RX3) (T := TX3) (N := 11) hx hb hU inlX3 hown hE.1 hP 0 rfl rfl 0 (by decide) (hU _ u_1_16) (fun _ h9 => h9) rfl dX3_about_69 ?_
    refine va_get (D := (dC, dI)) (ci := 1) (v := .int s_t_papers.2.2) (C := RX1) (T := TX1) (N := 4) hx hb hU inlX1 hown hE.1 hP 1 rfl rfl 3 (by decide) (hU _ u_10_16) (fun _ h9 => h9) rfl dX3_about_72 ?_
    cases hM
    exact rt _ _ _ dX3_about_75 rfl
  have hM := ite_f c1_0 hM
  by_cases c1_1 : v1 = (1 : Int32)
  · have hM := ite_t c1_1 hM
    refine lv_tableIn (off := 75) (tgt := 76) hx hb dX3_about_1 (by rw [c1_1]; decide) (by rw [c1_1]; decide) (by rw [c1_1]; rfl) (by decide) ?_
    refine lv_aload_n hx hb dX3_about_76 rfl (lv_at hl 0 rfl) ?_
    refine va_get (D := (dC, dI)) (ci := 3) (v := .ref a_t_now) (C := RX3) (T := TX3) (N := 11) hx hb hU inlX3 hown hE.1 hP 0 rfl rfl 1 (by decide) (hU _ u_1_20) (fun _ h9 => h9) rfl dX3_about_77 ?_
    refine va_get (D := (dC, dI)) (ci := 0) (v := .ref a_t_now_grants) (C := RX0) (T := TX0) (N := 6) hx hb hU inlX0 hown hE.1 hP 2 rfl rfl 1 (by decide) (hU _ u_11_18) (fun _ h9 => h9) rfl dX3_about_80 ?_
    refine va_get (D := (dC, dI)) (ci := 1) (v := .int s_t_now_grants.2.2) (C := RX1) (T := TX1) (N := 4) hx hb hU inlX1 hown hE.1 hP 3 rfl rfl 3 (by decide) (hU _ u_10_16) (fun _ h9 => h9) rfl dX3_about_83 ?_
    cases hM
    exact rt _ _ _ dX3_about_86 rfl
  have hM := ite_f c1_1 hM
  by_cases c1_2 : v1 = (2 : Int32)
  · have hM := ite_t c1_2 hM
    refine lv_tableIn (off := 86) (tgt := 87) hx hb dX3_about_1 (by rw [c1_2]; decide) (by rw [c1_2]; decide) (by rw [c1_2]; rfl) (by decide) ?_
    refine lv_aload_n hx hb dX3_about_87 rfl (lv_at hl 0 rfl) ?_
    refine va_get (D := (dC, dI)) (ci := 3) (v := .ref a_t_now) (C := RX3) (T := TX3) (N := 11) hx hb hU inlX3 hown hE.1 hP 0 rfl rfl 1 (by decide) (hU _ u_1_20) (fun _ h9 => h9) rfl dX3_about_88 ?_
    refine va_get (D := (dC, dI)) (ci := 0) (v := .ref a_t_now_routes) (C := RX0) (T := TX0) (N := 6) hx hb hU inlX0 hown hE.1 hP 2 rfl rfl 2 (by decide) (hU _ u_11_19) (fun _ h9 => h9) rfl dX3_about_91 ?_
    refine va_get (D := (dC, dI)) (ci := 1) (v := .int s_t_now_routes.2.2) (C := RX1) (T := TX1) (N := 4) hx hb hU inlX1 hown hE.1 hP 4 rfl rfl 3 (by decide) (hU _ u_10_16) (fun _ h9 => h9) rfl dX3_about_94 ?_
    cases hM
    exact rt _ _ _ dX3_about_97 rfl
  have hM := ite_f c1_2 hM
  by_cases c1_3 : v1 = (3 : Int32)
  · have hM := ite_t c1_3 hM
    refine lv_tableIn (off := 97) (tgt := 98) hx hb dX3_about_1 (by rw [c1_3]; decide) (by rw [c1_3]; decide) (by rw [c1_3]; rfl) (by decide) ?_
    refine lv_aload_n hx hb dX3_about_98 rfl (lv_at hl 0 rfl) ?_
    refine va_get (D := (dC, dI)) (ci := 3) (v := .ref a_t_now) (C := RX3) (T := TX3) (N := 11) hx hb hU inlX3 hown hE.1 hP 0 rfl rfl 1 (by decide) (hU _ u_1_20) (fun _ h9 => h9) rfl dX3_about_99 ?_
    refine va_get (D := (dC, dI)) (ci := 0) (v := .int s_t_now.2.2) (C := RX0) (T := TX0) (N := 6) hx hb hU inlX0 hown hE.1 hP 2 rfl rfl 5 (by decide) (hU _ u_11_20) (fun _ h9 => h9) rfl dX3_about_102 ?_
    cases hM
    exact rt _ _ _ dX3_about_105 rfl
  have hM := ite_f c1_3 hM
  by_cases c1_4 : v1 = (4 : Int32)
  · have hM := ite_t c1_4 hM
    refine lv_tableIn (off := 105) (tgt := 106) hx hb dX3_about_1 (by rw [c1_4]; decide) (by rw [c1_4]; decide) (by rw [c1_4]; rfl) (by decide) ?_
    refine lv_aload_n hx hb dX3_about_106 rfl (lv_at hl 0 rfl) ?_
    refine va_get (D := (dC, dI)) (ci := 3) (v := .ref a_t_now) (C := RX3) (T := TX3) (N := 11) hx hb hU inlX3 hown hE.1 hP 0 rfl rfl 1 (by decide) (hU _ u_1_20) (fun _ h9 => h9) rfl dX3_about_107 ?_
    refine va_get (D := (dC, dI)) (ci := 0) (v := .int s_t_now.1) (C := RX0) (T := TX0) (N := 6) hx hb hU inlX0 hown hE.1 hP 2 rfl rfl 3 (by decide) (hU _ u_11_21) (fun _ h9 => h9) rfl dX3_about_110 ?_
    cases hM
    exact rt _ _ _ dX3_about_113 rfl
  have hM := ite_f c1_4 hM
  by_cases c1_5 : v1 = (5 : Int32)
  · have hM := ite_t c1_5 hM
    refine lv_tableIn (off := 113) (tgt := 114) hx hb dX3_about_1 (by rw [c1_5]; decide) (by rw [c1_5]; decide) (by rw [c1_5]; rfl) (by decide) ?_
    refine lv_aload_n hx hb dX3_about_114 rfl (lv_at hl 0 rfl) ?_
    refine va_get (D := (dC, dI)) (ci := 3) (v := .ref a_t_now) (C := RX3) (T := TX3) (N := 11) hx hb hU inlX3 hown hE.1 hP 0 rfl rfl 1 (by decide) (hU _ u_1_20) (fun _ h9 => h9) rfl dX3_about_115 ?_
    refine lv_aload_n hx hb dX3_about_118 rfl (lv_at hl 0 rfl) ?_
    refine va_get (D := (dC, dI)) (ci := 3) (v := .ref a_t_now) (C := RX3) (T := TX3) (N := 11) hx hb hU inlX3 hown hE.1 hP 0 rfl rfl 1 (by decide) (hU _ u_1_20) (fun _ h9 => h9) rfl dX3_about_119 ?_
    refine va_get (D := (dC, dI)) (ci := 0) (v := .int s_t_now.1) (C := RX0) (T := TX0) (N := 6) hx hb hU inlX0 hown hE.1 hP 2 rfl rfl 3 (by decide) (hU _ u_11_21) (fun _ h9 => h9) rfl dX3_about_122 ?_
    obtain ⟨x125, h125, hM⟩ := bind_e hM
    refine rdV (As := [.int s_t_now.1]) (rest := []) (st2 := [.int x125]) ⟨hx, hb, hml, hown, hU⟩ hE (okX0_standing a_t_now a_t_papers a_t_now_grants a_t_now_routes a_t_papers_cells s_t_now s_t_papers s_t_papers_cells s_t_now.1 x125 h125) lk_X3_97 (hP.sub [2, 1, 5] rfl) rfl rfl rfl hl.1 rfl (Nat.le_of_ble_eq_true rfl) ⟨Nat.le_of_ble_eq_true rfl, Nat.le_of_ble_eq_true rfl⟩ dX3_about_125 ⟨Nat.le_refl _, Nat.le_refl _⟩ rfl ?_
    cases hM
    exact rt _ _ _ dX3_about_128 rfl
  have hM := ite_f c1_5 hM
  by_cases c1_6 : v1 = (6 : Int32)
  · have hM := ite_t c1_6 hM
    refine lv_tableIn (off := 128) (tgt := 129) hx hb dX3_about_1 (by rw [c1_6]; decide) (by rw [c1_6]; decide) (by rw [c1_6]; rfl) (by decide) ?_
    refine lv_aload_n hx hb dX3_about_129 rfl (lv_at hl 0 rfl) ?_
    refine va_get (D := (dC, dI)) (ci := 3) (v := .ref a_t_now) (C := RX3) (T := TX3) (N := 11) hx hb hU inlX3 hown hE.1 hP 0 rfl rfl 1 (by decide) (hU _ u_1_20) (fun _ h9 => h9) rfl dX3_about_130 ?_
    refine va_get (D := (dC, dI)) (ci := 0) (v := .int s_t_now.2.1) (C := RX0) (T := TX0) (N := 6) hx hb hU inlX0 hown hE.1 hP 2 rfl rfl 4 (by decide) (hU _ u_11_22) (fun _ h9 => h9) rfl dX3_about_133 ?_
    cases hM
    exact rt _ _ _ dX3_about_136 rfl
  have hM := ite_f c1_6 hM
  by_cases c1_7 : v1 = (7 : Int32)
  · have hM := ite_t c1_7 hM
    refine lv_tableIn (off := 136) (tgt := 137) hx hb dX3_about_1 (by rw [c1_7]; decide) (by rw [c1_7]; decide) (by rw [c1_7]; rfl) (by decide) ?_
    refine lv_aload_n hx hb dX3_about_137 rfl (lv_at hl 0 rfl) ?_
    refine va_get (D := (dC, dI)) (ci := 3) (v := .ref a_t_now) (C := RX3) (T := TX3) (N := 11) hx hb hU inlX3 hown hE.1 hP 0 rfl rfl 1 (by decide) (hU _ u_1_20) (fun _ h9 => h9) rfl dX3_about_138 ?_
    refine lv_iconst (v := (2 : Int32)) hx hb dX3_about_141 (by decide) ?_
    refine lv_aload_n hx hb dX3_about_142 rfl (lv_at hl 0 rfl) ?_
    refine va_get (D := (dC, dI)) (ci := 3) (v := .ref a_t_now) (C := RX3) (T := TX3) (N := 11) hx hb hU inlX3 hown hE.1 hP 0 rfl rfl 1 (by decide) (hU _ u_1_20) (fun _ h9 => h9) rfl dX3_about_143 ?_
    obtain ⟨x146, h146, hM⟩ := bind_e hM
    refine rdV (As := []) (rest := [.int (2 : Int32), .ref a_t_now]) (st2 := [.int x146, .int (2 : Int32), .ref a_t_now]) ⟨hx, hb, hml, hown, hU⟩ hE (okX0_countingNow a_t_now a_t_papers a_t_now_grants a_t_now_routes a_t_papers_cells a_t_now_grants_cells s_t_now s_t_papers s_t_papers_cells s_t_now_grants s_t_now_grants_cells x146 h146) lk_X3_104 (hP.sub [2, 1, 5, 3, 6] rfl) rfl rfl rfl hl.1 rfl (Nat.le_of_ble_eq_true rfl) ⟨Nat.le_of_ble_eq_true rfl, Nat.le_of_ble_eq_true rfl⟩ dX3_about_146 ⟨Nat.le_refl _, Nat.le_refl _⟩ rfl ?_
    obtain ⟨x149, h149, hM⟩ := bind_e hM
    refine rdV (As := [.int (2 : Int32), .int x146]) (rest := []) (st2 := [.int x149]) ⟨hx, hb, hml, hown, hU⟩ hE (okX0_routesThatAre a_t_now a_t_papers a_t_now_grants a_t_now_routes a_t_now_routes_cells a_t_now_grants_cells s_t_now s_t_now_routes s_t_now_routes_cells s_t_now_grants s_t_now_grants_cells (2 : Int32) x146 x149 h149) lk_X3_107 (hP.sub [2, 4, 7, 3, 6] rfl) rfl rfl rfl hl.1 rfl (Nat.le_of_ble_eq_true rfl) ⟨Nat.le_of_ble_eq_true rfl, Nat.le_of_ble_eq_true rfl⟩ dX3_about_149 ⟨Nat.le_refl _, Nat.le_refl _⟩ rfl ?_
    cases hM
    exact rt _ _ _ dX3_about_152 rfl
  have hM := ite_f c1_7 hM
  by_cases c1_8 : v1 = (8 : Int32)
  · have hM := ite_t c1_8 hM
    refine lv_tableIn (off := 152) (tgt := 153) hx hb dX3_about_1 (by rw [c1_8]; decide) (by rw [c1_8]; decide) (by rw [c1_8]; rfl) (by decide) ?_
    refine lv_aload_n hx hb dX3_about_153 rfl (lv_at hl 0 rfl) ?_
    refine va_get (D := (dC, dI)) (ci := 3) (v := .ref a_t_now) (C := RX3) (T := TX3) (N := 11) hx hb hU inlX3 hown hE.1 hP 0 rfl rfl 1 (by decide) (hU _ u_1_20) (fun _ h9 => h9) rfl dX3_about_154 ?_
    refine lv_iconst (v := (0 : Int32)) hx hb dX3_about_157 (by decide) ?_
    refine lv_aload_n hx hb dX3_about_158 rfl (lv_at hl 0 rfl) ?_
    refine va_get (D := (dC, dI)) (ci := 3) (v := .ref a_t_now) (C := RX3) (T := TX3) (N := 11) hx hb hU inlX3 hown hE.1 hP 0 rfl rfl 1 (by decide) (hU _ u_1_20) (fun _ h9 => h9) rfl dX3_about_159 ?_
    obtain ⟨x162, h162, hM⟩ := bind_e hM
    refine rdV (As := []) (rest := [.int (0 : Int32), .ref a_t_now]) (st2 := [.int x162, .int (0 : Int32), .ref a_t_now]) ⟨hx, hb, hml, hown, hU⟩ hE (okX0_countingNow a_t_now a_t_papers a_t_now_grants a_t_now_routes a_t_papers_cells a_t_now_grants_cells s_t_now s_t_papers s_t_papers_cells s_t_now_grants s_t_now_grants_cells x162 h162) lk_X3_104 (hP.sub [2, 1, 5, 3, 6] rfl) rfl rfl rfl hl.1 rfl (Nat.le_of_ble_eq_true rfl) ⟨Nat.le_of_ble_eq_true rfl, Nat.le_of_ble_eq_true rfl⟩ dX3_about_162 ⟨Nat.le_refl _, Nat.le_refl _⟩ rfl ?_
    obtain ⟨x165, h165, hM⟩ := bind_e hM
    refine rdV (As := [.int (0 : Int32), .int x162]) (rest := []) (st2 := [.int x165]) ⟨hx, hb, hml, hown, hU⟩ hE (okX0_routesThatAre a_t_now a_t_papers a_t_now_grants a_t_now_routes a_t_now_routes_cells a_t_now_grants_cells s_t_now s_t_now_routes s_t_now_routes_cells s_t_now_grants s_t_now_grants_cells (0 : Int32) x162 x165 h165) lk_X3_107 (hP.sub [2, 4, 7, 3, 6] rfl) rfl rfl rfl hl.1 rfl (Nat.le_of_ble_eq_true rfl) ⟨Nat.le_of_ble_eq_true rfl, Nat.le_of_ble_eq_true rfl⟩ dX3_about_165 ⟨Nat.le_refl _, Nat.le_refl _⟩ rfl ?_
    cases hM
    exact rt _ _ _ dX3_about_168 rfl
  have hM := ite_f c1_8 hM
  by_cases c1_9 : v1 = (9 : Int32)
  · have hM := ite_t c1_9 hM
    refine lv_tableIn (off := 168) (tgt := 169) hx hb dX3_about_1 (by rw [c1_9]; decide) (by rw [c1_9]; decide) (by rw [c1_9]; rfl) (by decide) ?_
    refine lv_aload_n hx hb dX3_about_169 rfl (lv_at hl 0 rfl) ?_
    refine va_get (D := (dC, dI)) (ci := 3) (v := .ref a_t_now) (C := RX3) (T := TX3) (N := 11) hx hb hU inlX3 hown hE.1 hP 0 rfl rfl 1 (by decide) (hU _ u_1_20) (fun _ h9 => h9) rfl dX3_about_170 ?_
    obtain ⟨x173, h173, hM⟩ := bind_e hM
    refine rdV (As := []) (rest := []) (st2 := [.int x173]) ⟨hx, hb, hml, hown, hU⟩ hE (okX0_bare a_t_now a_t_papers a_t_now_grants a_t_now_routes a_t_papers_cells a_t_now_grants_cells s_t_now s_t_papers s_t_papers_cells s_t_now_grants s_t_now_grants_cells x173 h173) lk_X3_111 (hP.sub [2, 1, 5, 3, 6] rfl) rfl rfl rfl hl.1 rfl (Nat.le_of_ble_eq_true rfl) ⟨Nat.le_of_ble_eq_true rfl, Nat.le_of_ble_eq_true rfl⟩ dX3_about_173 ⟨Nat.le_refl _, Nat.le_refl _⟩ rfl ?_
    cases hM
    exact rt _ _ _ dX3_about_176 rfl
  have hM := ite_f c1_9 hM
  by_cases c1_10 : v1 = (10 : Int32)
  · have hM := ite_t c1_10 hM
    refine lv_tableIn (off := 176) (tgt := 177) hx hb dX3_about_1 (by rw [c1_10]; decide) (by rw [c1_10]; decide) (by rw [c1_10]; rfl) (by decide) ?_
    refine lv_aload_n hx hb dX3_about_177 rfl (lv_at hl 0 rfl) ?_
    refine va_get (D := (dC, dI)) (ci := 3) (v := .ref a_t_acts) (C := RX3) (T := TX3) (N := 11) hx hb hU inlX3 hown hE.1 hP 0 rfl rfl 5 (by decide) (hU _ u_2_0) (fun _ h9 => h9) rfl dX3_about_178 ?_
    refine va_get (D := (dC, dI)) (ci := 1) (v := .int s_t_acts.2.2) (C := RX1) (T := TX1) (N := 4) hx hb hU inlX1 hown hE.1 hP 8 rfl rfl 3 (by decide) (hU _ u_10_16) (fun _ h9 => h9) rfl dX3_about_181 ?_
    cases hM
    exact rt _ _ _ dX3_about_184 rfl
  have hM := ite_f c1_10 hM
  by_cases c1_11 : v1 = (11 : Int32)
  · have hM := ite_t c1_11 hM
    refine lv_tableIn (off := 184) (tgt := 185) hx hb dX3_about_1 (by rw [c1_11]; decide) (by rw [c1_11]; decide) (by rw [c1_11]; rfl) (by decide) ?_
    refine lv_aload_n hx hb dX3_about_185 rfl (lv_at hl 0 rfl) ?_
    refine va_get (D := (dC, dI)) (ci := 3) (v := .ref a_t_seen) (C := RX3) (T := TX3) (N := 11) hx hb hU inlX3 hown hE.1 hP 0 rfl rfl 6 (by decide) (hU _ u_2_1) (fun _ h9 => h9) rfl dX3_about_186 ?_
    refine va_get (D := (dC, dI)) (ci := 1) (v := .int s_t_seen.2.2) (C := RX1) (T := TX1) (N := 4) hx hb hU inlX1 hown hE.1 hP 9 rfl rfl 3 (by decide) (hU _ u_10_16) (fun _ h9 => h9) rfl dX3_about_189 ?_
    cases hM
    exact rt _ _ _ dX3_about_192 rfl
  have hM := ite_f c1_11 hM
  by_cases c1_12 : v1 = (12 : Int32)
  · have hM := ite_t c1_12 hM
    refine lv_tableIn (off := 192) (tgt := 193) hx hb dX3_about_1 (by rw [c1_12]; decide) (by rw [c1_12]; decide) (by rw [c1_12]; rfl) (by decide) ?_
    refine lv_aload_n hx hb dX3_about_193 rfl (lv_at hl 0 rfl) ?_
    refine va_get (D := (dC, dI)) (ci := 3) (v := .ref a_t_text) (C := RX3) (T := TX3) (N := 11) hx hb hU inlX3 hown hE.1 hP 0 rfl rfl 7 (by decide) (hU _ u_2_5) (fun _ h9 => h9) rfl dX3_about_194 ?_
    refine va_get (D := (dC, dI)) (ci := 2) (v := .int s_t_text.1) (C := RX2) (T := TX2) (N := 7) hx hb hU inlX2 hown hE.1 hP 10 rfl rfl 1 (by decide) (hU _ u_5_6) (fun _ h9 => h9) rfl dX3_about_197 ?_
    cases hM
    exact rt _ _ _ dX3_about_200 rfl
  have hM := ite_f c1_12 hM
  refine lv_tableOut (tgt := 201) hx hb dX3_about_1 (sw_out (fun v h1 h2 h3 => by rcases (show v = 0 ∨ v = 1 ∨ v = 2 ∨ v = 3 ∨ v = 4 ∨ v = 5 ∨ v = 6 ∨ v = 7 ∨ v = 8 ∨ v = 9 ∨ v = 10 ∨ v = 11 ∨ v = 12 by omega) with rfl | rfl | rfl | rfl | rfl | rfl | rfl | rfl | rfl | rfl | rfl | rfl | rfl <;> first | exact c1_0 (Int32.toInt_inj.mp (h3.trans (by decide))) | exact c1_1 (Int32.toInt_inj.mp (h3.trans (by decide))) | exact c1_2 (Int32.toInt_inj.mp (h3.trans (by decide))) | exact c1_3 (Int32.toInt_inj.mp (h3.trans (by decide))) | exact c1_4 (Int32.toInt_inj.mp (h3.trans (by decide))) | exact c1_5 (Int32.toInt_inj.mp (h3.trans (by decide))) | exact c1_6 (Int32.toInt_inj.mp (h3.trans (by decide))) | exact c1_7 (Int32.toInt_inj.mp (h3.trans (by decide))) | exact c1_8 (Int32.toInt_inj.mp (h3.trans (by decide))) | exact c1_9 (Int32.toInt_inj.mp (h3.trans (by decide))) | exact c1_10 (Int32.toInt_inj.mp (h3.trans (by decide))) | exact c1_11 (Int32.toInt_inj.mp (h3.trans (by decide))) | exact c1_12 (Int32.toInt_inj.mp (h3.trans (by decide))))) (by decide) ?_
  refine lv_bipush (v := (-2 : Int32)) hx hb dX3_about_201 (by decide) ?_
  cases hM
  exact rt _ _ _ dX3_about_203 rfl
noncomputable def mX3_again (s_t : Int32 × Int64) (s_t_now : Int32 × Int32 × Int32) (s_t_firstSlot : Int32 × Int32 × Int32) (s_t_now_grants : Int32 × Int32 × Int32) (s_t_firstSlot_grants : Int32 × Int32 × Int32) (s_t_firstSlot_grants_cells : Ar) (s_t_now_grants_cells : Ar) (s_t_now_routes : Int32 × Int32 × Int32) (s_t_firstSlot_routes : Int32 × Int32 × Int32) (s_t_firstSlot_routes_cells : Ar) (s_t_now_routes_cells : Ar) (s_t_acts : Int32 × Int32 × Int32) (s_t_secondSlot : Int32 × Int32 × Int32) (s_t_secondSlot_grants : Int32 × Int32 × Int32) (s_t_secondSlot_grants_cells : Ar) (s_t_secondSlot_routes : Int32 × Int32 × Int32) (s_t_secondSlot_routes_cells : Ar) (v1 : Int32) : Option (Int32 × (Int32 × Int32 × Int32) × (Int32 × Int32 × Int32) × Ar × (Int32 × Int32 × Int32) × Ar × (Int32 × Int32 × Int32)) := (if v1 < 0 then some ((-1 : Int32), s_t_now, s_t_now_grants, s_t_now_grants_cells, s_t_now_routes, s_t_now_routes_cells, s_t_acts) else (if v1 < (2 : Int32) then (mX3_bit s_t.1 v1).bind (fun x16 => (if x16 = 0 then some ((-3 : Int32), s_t_now, s_t_now_grants, s_t_now_grants_cells, s_t_now_routes, s_t_now_routes_cells, s_t_acts) else (if v1 = (0 : Int32) then (mX0_copyFrom s_t_now s_t_firstSlot s_t_now_grants s_t_firstSlot_grants s_t_firstSlot_grants_cells s_t_now_grants_cells s_t_now_routes s_t_firstSlot_routes s_t_firstSlot_routes_cells s_t_now_routes_cells).bind (fun x34 => some (x34.2.2.2.1.2.2, x34.1, x34.2.1, x34.2.2.1, x34.2.2.2.1, x34.2.2.2.2, (s_t_acts.1, s_t_acts.2.1, (0 : Int32)))) else (mX0_copyFrom s_t_now s_t_secondSlot s_t_now_grants s_t_secondSlot_grants s_t_secondSlot_grants_cells s_t_now_grants_cells s_t_now_routes s_t_secondSlot_routes s_t_secondSlot_routes_cells s_t_now_routes_cells).bind (fun x34 => some (x34.2.2.2.1.2.2, x34.1, x34.2.1, x34.2.2.1, x34.2.2.2.1, x34.2.2.2.2, (s_t_acts.1, s_t_acts.2.1, (0 : Int32))))))) else some ((-1 : Int32), s_t_now, s_t_now_grants, s_t_now_grants_cells, s_t_now_routes, s_t_now_routes_cells, s_t_acts)))
set_option maxHeartbeats 4000000 in
set_option maxRecDepth 100000 in
theorem okX3_again {l : Launch} {dC : Nat → ClassId} {dI : Nat → Nat → Nat} {cI cC cZ : ClassId} (a_t a_t_papers a_t_now a_t_trial a_t_firstSlot a_t_secondSlot a_t_acts a_t_seen a_t_text a_t_doings a_t_now_grants a_t_now_routes a_t_firstSlot_grants a_t_firstSlot_routes a_t_now_grants_cells a_t_firstSlot_grants_cells a_t_now_routes_cells a_t_firstSlot_routes_cells a_t_acts_cells a_t_secondSlot_grants a_t_secondSlot_routes a_t_secondSlot_grants_cells a_t_secondSlot_routes_cells : Nat) (s_t : Int32 × Int64) (s_t_now : Int32 × Int32 × Int32) (s_t_firstSlot : Int32 × Int32 × Int32) (s_t_now_grants : Int32 × Int32 × Int32) (s_t_firstSlot_grants : Int32 × Int32 × Int32) (s_t_firstSlot_grants_cells : Ar) (s_t_now_grants_cells : Ar) (s_t_now_routes : Int32 × Int32 × Int32) (s_t_firstSlot_routes : Int32 × Int32 × Int32) (s_t_firstSlot_routes_cells : Ar) (s_t_now_routes_cells : Ar) (s_t_acts : Int32 × Int32 × Int32) (s_t_secondSlot : Int32 × Int32 × Int32) (s_t_secondSlot_grants : Int32 × Int32 × Int32) (s_t_secondSlot_grants_cells : Ar) (s_t_secondSlot_routes : Int32 × Int32 × Int32) (s_t_secondSlot_routes_cells : Ar) (v1 : Int32) (res : Int32 × (Int32 × Int32 × Int32) × (Int32 × Int32 × Int32) × Ar × (Int32 × Int32 × Int32) × Ar × (Int32 × Int32 × Int32)) (hM : mX3_again s_t s_t_now s_t_firstSlot s_t_now_grants s_t_firstSlot_grants s_t_firstSlot_grants_cells s_t_now_grants_cells s_t_now_routes s_t_firstSlot_routes s_t_firstSlot_routes_cells s_t_now_routes_cells s_t_acts s_t_secondSlot s_t_secondSlot_grants s_t_secondSlot_grants_cells s_t_secondSlot_routes s_t_secondSlot_routes_cells v1 = some res) : Mu l yX3_again cX3_again 2 (some .int) 3 82 (dC, dI) cI cC cZ [(a_t, .inr (3, [.ref a_t_papers, .ref a_t_now, .ref a_t_trial, .ref a_t_firstSlot, .ref a_t_secondSlot, .ref a_t_acts, .ref a_t_seen, .ref a_t_text, .ref a_t_doings, .int s_t.1, .long s_t.2])), (a_t_now, .inr (0, [.ref a_t_papers, .ref a_t_now_grants, .ref a_t_now_routes, .int s_t_now.1, .int s_t_now.2.1, .int s_t_now.2.2])), (a_t_firstSlot, .inr (0, [.ref a_t_papers, .ref a_t_firstSlot_grants, .ref a_t_firstSlot_routes, .int s_t_firstSlot.1, .int s_t_firstSlot.2.1, .int s_t_firstSlot.2.2])), (a_t_now_grants, .inr (1, [.int s_t_now_grants.1, .int s_t_now_grants.2.1, .ref a_t_now_grants_cells, .int s_t_now_grants.2.2])), (a_t_firstSlot_grants, .inr (1, [.int s_t_firstSlot_grants.1, .int s_t_firstSlot_grants.2.1, .ref a_t_firstSlot_grants_cells, .int s_t_firstSlot_grants.2.2])), (a_t_firstSlot_grants_cells, .inl (cI, s_t_firstSlot_grants_cells.1, .inl s_t_firstSlot_grants_cells.2)), (a_t_now_grants_cells, .inl (cI, s_t_now_grants_cells.1, .inl s_t_now_grants_cells.2)), (a_t_now_routes, .inr (1, [.int s_t_now_routes.1, .int s_t_now_routes.2.1, .ref a_t_now_routes_cells, .int s_t_now_routes.2.2])), (a_t_firstSlot_routes, .inr (1, [.int s_t_firstSlot_routes.1, .int s_t_firstSlot_routes.2.1, .ref a_t_firstSlot_routes_cells, .int s_t_firstSlot_routes.2.2])), (a_t_firstSlot_routes_cells, .inl (cI, s_t_firstSlot_routes_cells.1, .inl s_t_firstSlot_routes_cells.2)), (a_t_now_routes_cells, .inl (cI, s_t_now_routes_cells.1, .inl s_t_now_routes_cells.2)), (a_t_acts, .inr (1, [.int s_t_acts.1, .int s_t_acts.2.1, .ref a_t_acts_cells, .int s_t_acts.2.2])), (a_t_secondSlot, .inr (0, [.ref a_t_papers, .ref a_t_secondSlot_grants, .ref a_t_secondSlot_routes, .int s_t_secondSlot.1, .int s_t_secondSlot.2.1, .int s_t_secondSlot.2.2])), (a_t_secondSlot_grants, .inr (1, [.int s_t_secondSlot_grants.1, .int s_t_secondSlot_grants.2.1, .ref a_t_secondSlot_grants_cells, .int s_t_secondSlot_grants.2.2])), (a_t_secondSlot_grants_cells, .inl (cI, s_t_secondSlot_grants_cells.1, .inl s_t_secondSlot_grants_cells.2)), (a_t_secondSlot_routes, .inr (1, [.int s_t_secondSlot_routes.1, .int s_t_secondSlot_routes.2.1, .ref a_t_secondSlot_routes_cells, .int s_t_secondSlot_routes.2.2])), (a_t_secondSlot_routes_cells, .inl (cI, s_t_secondSlot_routes_cells.1, .inl s_t_secondSlot_routes_cells.2))] [(a_t, .inr (3, [.ref a_t_papers, .ref a_t_now, .ref a_t_trial, .ref a_t_firstSlot, .ref a_t_secondSlot, .ref a_t_acts, .ref a_t_seen, .ref a_t_text, .ref a_t_doings, .int s_t.1, .long s_t.2])), (a_t_now, .inr (0, [.ref a_t_papers, .ref a_t_now_grants, .ref a_t_now_routes, .int res.2.1.1, .int res.2.1.2.1, .int res.2.1.2.2])), (a_t_firstSlot, .inr (0, [.ref a_t_papers, .ref a_t_firstSlot_grants, .ref a_t_firstSlot_routes, .int s_t_firstSlot.1, .int s_t_firstSlot.2.1, .int s_t_firstSlot.2.2])), (a_t_now_grants, .inr (1, [.int res.2.2.1.1, .int res.2.2.1.2.1, .ref a_t_now_grants_cells, .int res.2.2.1.2.2])), (a_t_firstSlot_grants, .inr (1, [.int s_t_firstSlot_grants.1, .int s_t_firstSlot_grants.2.1, .ref a_t_firstSlot_grants_cells, .int s_t_firstSlot_grants.2.2])), (a_t_firstSlot_grants_cells, .inl (cI, s_t_firstSlot_grants_cells.1, .inl s_t_firstSlot_grants_cells.2)), (a_t_now_grants_cells, .inl (cI, res.2.2.2.1.1, .inl res.2.2.2.1.2)), (a_t_now_routes, .inr (1, [.int res.2.2.2.2.1.1, .int res.2.2.2.2.1.2.1, .ref a_t_now_routes_cells, .int res.2.2.2.2.1.2.2])), (a_t_firstSlot_routes, .inr (1, [.int s_t_firstSlot_routes.1, .int s_t_firstSlot_routes.2.1, .ref a_t_firstSlot_routes_cells, .int s_t_firstSlot_routes.2.2])), (a_t_firstSlot_routes_cells, .inl (cI, s_t_firstSlot_routes_cells.1, .inl s_t_firstSlot_routes_cells.2)), (a_t_now_routes_cells, .inl (cI, res.2.2.2.2.2.1.1, .inl res.2.2.2.2.2.1.2)), (a_t_acts, .inr (1, [.int res.2.2.2.2.2.2.1, .int res.2.2.2.2.2.2.2.1, .ref a_t_acts_cells, .int res.2.2.2.2.2.2.2.2])), (a_t_secondSlot, .inr (0, [.ref a_t_papers, .ref a_t_secondSlot_grants, .ref a_t_secondSlot_routes, .int s_t_secondSlot.1, .int s_t_secondSlot.2.1, .int s_t_secondSlot.2.2])), (a_t_secondSlot_grants, .inr (1, [.int s_t_secondSlot_grants.1, .int s_t_secondSlot_grants.2.1, .ref a_t_secondSlot_grants_cells, .int s_t_secondSlot_grants.2.2])), (a_t_secondSlot_grants_cells, .inl (cI, s_t_secondSlot_grants_cells.1, .inl s_t_secondSlot_grants_cells.2)), (a_t_secondSlot_routes, .inr (1, [.int s_t_secondSlot_routes.1, .int s_t_secondSlot_routes.2.1, .ref a_t_secondSlot_routes_cells, .int s_t_secondSlot_routes.2.2])), (a_t_secondSlot_routes_cells, .inl (cI, s_t_secondSlot_routes_cells.1, .inl s_t_secondSlot_routes_cells.2))] [.ref a_t, .int v1] (some (.int res.1)) := by
  refine Mu.ofI (by decide) (Nat.le_of_ble_eq_true rfl) [(0, .ref a_t), (1, .int v1)] rfl ?_
  intro p e s m args below meth c ls Q A hx hb hml hown hU hE hP hD hS hA rt hl
  have hown : s.vm.findClass RX3 = some m.cls := hown
  unfold mX3_again at hM
  refine lv_iload_n hx hb dX3_again_0 rfl (lv_at hl 1 rfl) ?_
  refine lv_if_lt (tgt := 9) hx hb dX3_again_1 (by decide) (fun c1 => ?_) (fun c1 => ?_)
  · have hM := ite_t c1 hM
    refine lv_iconst (v := (-1 : Int32)) hx hb dX3_again_9 (by decide) ?_
    cases hM
    exact rt _ _ _ _ _ hP hS dX3_again_10 rfl
  · have hM := ite_f c1 hM
    refine lv_iload_n hx hb dX3_again_4 rfl (lv_at hl 1 rfl) ?_
    refine lv_iconst (v := (2 : Int32)) hx hb dX3_again_5 (by decide) ?_
    refine lv_icmp_lt (tgt := 11) hx hb dX3_again_6 (by decide) (fun c6 => ?_) (fun c6 => ?_)
    · have hM := ite_t c6 hM
      refine lv_aload_n hx hb dX3_again_11 rfl (lv_at hl 0 rfl) ?_
      refine va_get (D := (dC, dI)) (ci := 3) (v := .int s_t.1) (C := RX3) (T := TX3) (N := 11) hx hb hU inlX3 hown hE.1 hP 0 rfl rfl 9 (by decide) (hU _ u_10_17) (fun _ h9 => h9) rfl dX3_again_12 ?_
      refine lv_iload_n hx hb dX3_again_15 rfl (lv_at hl 1 rfl) ?_
      obtain ⟨x16, h16, hM⟩ := bind_e hM
      refine rdS (As := [.int s_t.1, .int v1]) (rest := []) (st2 := [.int x16]) ⟨hx, hb, hml, hown, hU⟩ hE (okX3_bit s_t.1 v1 x16 h16) lk_X3_121 (hP.sub [] rfl) rfl hl.1 rfl (Nat.le_of_ble_eq_true rfl) ⟨Nat.le_of_ble_eq_true rfl, Nat.le_of_ble_eq_true rfl⟩ dX3_again_16 ⟨Nat.le_refl _, Nat.le_refl _⟩ rfl ?_
      refine lv_if_ne (tgt := 25) hx hb dX3_again_19 (by decide) (fun c19 => ?_) (fun c19 => ?_)
      · have hM := ite_f c19 hM
        refine lv_aload_n hx hb dX3_again_25 rfl (lv_at hl 0 rfl) ?_
        refine va_get (D := (dC, dI)) (ci := 3) (v := .ref a_t_now) (C := RX3) (T := TX3) (N := 11) hx hb hU inlX3 hown hE.1 hP 0 rfl rfl 1 (by decide) (hU _ u_1_20) (fun _ h9 => h9) rfl dX3_again_26 ?_
        refine lv_aload_n hx hb dX3_again_29 rfl (lv_at hl 0 rfl) ?_
        refine lv_iload_n hx hb dX3_again_30 rfl (lv_at hl 1 rfl) ?_
        by_cases c31 : v1 = (0 : Int32)
        · have hM := ite_t c31 hM
          refine rdV (As := [.int v1]) (rest := [.ref a_t_now]) (st2 := [.ref a_t_firstSlot, .ref a_t_now]) ⟨hx, hb, hml, hown, hU⟩ hE (okX3_slotBooks_0 a_t a_t_papers a_t_now a_t_trial a_t_firstSlot a_t_secondSlot a_t_acts a_t_seen a_t_text a_t_doings s_t v1 c31) lk_X3_210 (hP.sub [0] rfl) rfl rfl rfl hl.1 rfl (Nat.le_of_ble_eq_true rfl) ⟨Nat.le_of_ble_eq_true rfl, Nat.le_of_ble_eq_true rfl⟩ dX3_again_31 ⟨Nat.le_refl _, Nat.le_refl _⟩ rfl ?_
          obtain ⟨x34, h34, hM⟩ := bind_e hM
          refine muV (As := [.ref a_t_firstSlot]) (rest := []) (st2 := []) (nw := [(a_t, .inr (3, [.ref a_t_papers, .ref a_t_now, .ref a_t_trial, .ref a_t_firstSlot, .ref a_t_secondSlot, .ref a_t_acts, .ref a_t_seen, .ref a_t_text, .ref a_t_doings, .int s_t.1, .long s_t.2])), (a_t_now, .inr (0, [.ref a_t_papers, .ref a_t_now_grants, .ref a_t_now_routes, .int x34.1.1, .int x34.1.2.1, .int x34.1.2.2])), (a_t_firstSlot, .inr (0, [.ref a_t_papers, .ref a_t_firstSlot_grants, .ref a_t_firstSlot_routes, .int s_t_firstSlot.1, .int s_t_firstSlot.2.1, .int s_t_firstSlot.2.2])), (a_t_now_grants, .inr (1, [.int x34.2.1.1, .int x34.2.1.2.1, .ref a_t_now_grants_cells, .int x34.2.1.2.2])), (a_t_firstSlot_grants, .inr (1, [.int s_t_firstSlot_grants.1, .int s_t_firstSlot_grants.2.1, .ref a_t_firstSlot_grants_cells, .int s_t_firstSlot_grants.2.2])), (a_t_firstSlot_grants_cells, .inl (cI, s_t_firstSlot_grants_cells.1, .inl s_t_firstSlot_grants_cells.2)), (a_t_now_grants_cells, .inl (cI, x34.2.2.1.1, .inl x34.2.2.1.2)), (a_t_now_routes, .inr (1, [.int x34.2.2.2.1.1, .int x34.2.2.2.1.2.1, .ref a_t_now_routes_cells, .int x34.2.2.2.1.2.2])), (a_t_firstSlot_routes, .inr (1, [.int s_t_firstSlot_routes.1, .int s_t_firstSlot_routes.2.1, .ref a_t_firstSlot_routes_cells, .int s_t_firstSlot_routes.2.2])), (a_t_firstSlot_routes_cells, .inl (cI, s_t_firstSlot_routes_cells.1, .inl s_t_firstSlot_routes_cells.2)), (a_t_now_routes_cells, .inl (cI, x34.2.2.2.2.1, .inl x34.2.2.2.2.2)), (a_t_acts, .inr (1, [.int s_t_acts.1, .int s_t_acts.2.1, .ref a_t_acts_cells, .int s_t_acts.2.2])), (a_t_secondSlot, .inr (0, [.ref a_t_papers, .ref a_t_secondSlot_grants, .ref a_t_secondSlot_routes, .int s_t_secondSlot.1, .int s_t_secondSlot.2.1, .int s_t_secondSlot.2.2])), (a_t_secondSlot_grants, .inr (1, [.int s_t_secondSlot_grants.1, .int s_t_secondSlot_grants.2.1, .ref a_t_secondSlot_grants_cells, .int s_t_secondSlot_grants.2.2])), (a_t_secondSlot_grants_cells, .inl (cI, s_t_secondSlot_grants_cells.1, .inl s_t_secondSlot_grants_cells.2)), (a_t_secondSlot_routes, .inr (1, [.int s_t_secondSlot_routes.1, .int s_t_secondSlot_routes.2.1, .ref a_t_secondSlot_routes_cells, .int s_t_secondSlot_routes.2.2])), (a_t_secondSlot_routes_cells, .inl (cI, s_t_secondSlot_routes_cells.1, .inl s_t_secondSlot_routes_cells.2))]) ⟨hx, hb, hml, hown, hU⟩ hE (okX0_copyFrom a_t_now a_t_papers a_t_now_grants a_t_now_routes a_t_firstSlot a_t_papers a_t_firstSlot_grants a_t_firstSlot_routes a_t_now_grants_cells a_t_firstSlot_grants_cells a_t_now_routes_cells a_t_firstSlot_routes_cells s_t_now s_t_firstSlot s_t_now_grants s_t_firstSlot_grants s_t_firstSlot_grants_cells s_t_now_grants_cells s_t_now_routes s_t_firstSlot_routes s_t_firstSlot_routes_cells s_t_now_routes_cells x34 h34) lk_X3_163 hP hD hS hA [1, 2, 3, 4, 5, 6, 7, 8, 9, 10] rfl rfl rfl rfl rfl rfl hl.1 rfl (Nat.le_of_ble_eq_true rfl) ⟨Nat.le_of_ble_eq_true rfl, Nat.le_of_ble_eq_true rfl⟩ dX3_again_34 ⟨Nat.le_refl _, Nat.le_refl _⟩ rfl rfl rfl rfl (fun H locs hP hD hS => ?_)
          refine lv_aload_n hx hb dX3_again_37 rfl (lv_at hl 0 rfl) ?_
          refine va_get (D := (dC, dI)) (ci := 3) (v := .ref a_t_acts) (C := RX3) (T := TX3) (N := 11) hx hb hU inlX3 hown hE.1 hP 0 rfl rfl 5 (by decide) (hU _ u_2_0) (fun _ h9 => h9) rfl dX3_again_38 ?_
          refine lv_iconst (v := (0 : Int32)) hx hb dX3_again_41 (by decide) ?_
          refine va_put (D := (dC, dI)) (ci := 1) (v := .int (0 : Int32)) (ty := .int) (C := RX1) (T := TX1) (N := 4) hx hb hU inlX1 tyX1 tyX1_ok nmX1 hown hE.1 hP hD hS 11 rfl rfl 3 (by decide) (hU _ u_10_16) (fun _ h9 => h9) rfl (tyX1_ok 3 (by decide)) rfl rfl (Nat.le_of_ble_eq_true rfl) dX3_again_42 (fun H locs hP hD hS => ?_)
          have hP : va_P (dC, dI) vwCl [(a_t, .inr (3, [.ref a_t_papers, .ref a_t_now, .ref a_t_trial, .ref a_t_firstSlot, .ref a_t_secondSlot, .ref a_t_acts, .ref a_t_seen, .ref a_t_text, .ref a_t_doings, .int s_t.1, .long s_t.2])), (a_t_now, .inr (0, [.ref a_t_papers, .ref a_t_now_grants, .ref a_t_now_routes, .int x34.1.1, .int x34.1.2.1, .int x34.1.2.2])), (a_t_firstSlot, .inr (0, [.ref a_t_papers, .ref a_t_firstSlot_grants, .ref a_t_firstSlot_routes, .int s_t_firstSlot.1, .int s_t_firstSlot.2.1, .int s_t_firstSlot.2.2])), (a_t_now_grants, .inr (1, [.int x34.2.1.1, .int x34.2.1.2.1, .ref a_t_now_grants_cells, .int x34.2.1.2.2])), (a_t_firstSlot_grants, .inr (1, [.int s_t_firstSlot_grants.1, .int s_t_firstSlot_grants.2.1, .ref a_t_firstSlot_grants_cells, .int s_t_firstSlot_grants.2.2])), (a_t_firstSlot_grants_cells, .inl (cI, s_t_firstSlot_grants_cells.1, .inl s_t_firstSlot_grants_cells.2)), (a_t_now_grants_cells, .inl (cI, x34.2.2.1.1, .inl x34.2.2.1.2)), (a_t_now_routes, .inr (1, [.int x34.2.2.2.1.1, .int x34.2.2.2.1.2.1, .ref a_t_now_routes_cells, .int x34.2.2.2.1.2.2])), (a_t_firstSlot_routes, .inr (1, [.int s_t_firstSlot_routes.1, .int s_t_firstSlot_routes.2.1, .ref a_t_firstSlot_routes_cells, .int s_t_firstSlot_routes.2.2])), (a_t_firstSlot_routes_cells, .inl (cI, s_t_firstSlot_routes_cells.1, .inl s_t_firstSlot_routes_cells.2)), (a_t_now_routes_cells, .inl (cI, x34.2.2.2.2.1, .inl x34.2.2.2.2.2)), (a_t_acts, .inr (1, [.int s_t_acts.1, .int s_t_acts.2.1, .ref a_t_acts_cells, .int (0 : Int32)])), (a_t_secondSlot, .inr (0, [.ref a_t_papers, .ref a_t_secondSlot_grants, .ref a_t_secondSlot_routes, .int s_t_secondSlot.1, .int s_t_secondSlot.2.1, .int s_t_secondSlot.2.2])), (a_t_secondSlot_grants, .inr (1, [.int s_t_secondSlot_grants.1, .int s_t_secondSlot_grants.2.1, .ref a_t_secondSlot_grants_cells, .int s_t_secondSlot_grants.2.2])), (a_t_secondSlot_grants_cells, .inl (cI, s_t_secondSlot_grants_cells.1, .inl s_t_secondSlot_grants_cells.2)), (a_t_secondSlot_routes, .inr (1, [.int s_t_secondSlot_routes.1, .int s_t_secondSlot_routes.2.1, .ref a_t_secondSlot_routes_cells, .int s_t_secondSlot_routes.2.2])), (a_t_secondSlot_routes_cells, .inl (cI, s_t_secondSlot_routes_cells.1, .inl s_t_secondSlot_routes_cells.2))] H := hP
          have hD : va_D A [(a_t, .inr (3, [.ref a_t_papers, .ref a_t_now, .ref a_t_trial, .ref a_t_firstSlot, .ref a_t_secondSlot, .ref a_t_acts, .ref a_t_seen, .ref a_t_text, .ref a_t_doings, .int s_t.1, .long s_t.2])), (a_t_now, .inr (0, [.ref a_t_papers, .ref a_t_now_grants, .ref a_t_now_routes, .int x34.1.1, .int x34.1.2.1, .int x34.1.2.2])), (a_t_firstSlot, .inr (0, [.ref a_t_papers, .ref a_t_firstSlot_grants, .ref a_t_firstSlot_routes, .int s_t_firstSlot.1, .int s_t_firstSlot.2.1, .int s_t_firstSlot.2.2])), (a_t_now_grants, .inr (1, [.int x34.2.1.1, .int x34.2.1.2.1, .ref a_t_now_grants_cells, .int x34.2.1.2.2])), (a_t_firstSlot_grants, .inr (1, [.int s_t_firstSlot_grants.1, .int s_t_firstSlot_grants.2.1, .ref a_t_firstSlot_grants_cells, .int s_t_firstSlot_grants.2.2])), (a_t_firstSlot_grants_cells, .inl (cI, s_t_firstSlot_grants_cells.1, .inl s_t_firstSlot_grants_cells.2)), (a_t_now_grants_cells, .inl (cI, x34.2.2.1.1, .inl x34.2.2.1.2)), (a_t_now_routes, .inr (1, [.int x34.2.2.2.1.1, .int x34.2.2.2.1.2.1, .ref a_t_now_routes_cells, .int x34.2.2.2.1.2.2])), (a_t_firstSlot_routes, .inr (1, [.int s_t_firstSlot_routes.1, .int s_t_firstSlot_routes.2.1, .ref a_t_firstSlot_routes_cells, .int s_t_firstSlot_routes.2.2])), (a_t_firstSlot_routes_cells, .inl (cI, s_t_firstSlot_routes_cells.1, .inl s_t_firstSlot_routes_cells.2)), (a_t_now_routes_cells, .inl (cI, x34.2.2.2.2.1, .inl x34.2.2.2.2.2)), (a_t_acts, .inr (1, [.int s_t_acts.1, .int s_t_acts.2.1, .ref a_t_acts_cells, .int (0 : Int32)])), (a_t_secondSlot, .inr (0, [.ref a_t_papers, .ref a_t_secondSlot_grants, .ref a_t_secondSlot_routes, .int s_t_secondSlot.1, .int s_t_secondSlot.2.1, .int s_t_secondSlot.2.2])), (a_t_secondSlot_grants, .inr (1, [.int s_t_secondSlot_grants.1, .int s_t_secondSlot_grants.2.1, .ref a_t_secondSlot_grants_cells, .int s_t_secondSlot_grants.2.2])), (a_t_secondSlot_grants_cells, .inl (cI, s_t_secondSlot_grants_cells.1, .inl s_t_secondSlot_grants_cells.2)), (a_t_secondSlot_routes, .inr (1, [.int s_t_secondSlot_routes.1, .int s_t_secondSlot_routes.2.1, .ref a_t_secondSlot_routes_cells, .int s_t_secondSlot_routes.2.2])), (a_t_secondSlot_routes_cells, .inl (cI, s_t_secondSlot_routes_cells.1, .inl s_t_secondSlot_routes_cells.2))] := hD
          refine lv_aload_n hx hb dX3_again_45 rfl (lv_at hl 0 rfl) ?_
          refine va_get (D := (dC, dI)) (ci := 3) (v := .ref a_t_now) (C := RX3) (T := TX3) (N := 11) hx hb hU inlX3 hown hE.1 hP 0 rfl rfl 1 (by decide) (hU _ u_1_20) (fun _ h9 => h9) rfl dX3_again_46 ?_
          refine va_get (D := (dC, dI)) (ci := 0) (v := .ref a_t_now_routes) (C := RX0) (T := TX0) (N := 6) hx hb hU inlX0 hown hE.1 hP 1 rfl rfl 2 (by decide) (hU _ u_11_19) (fun _ h9 => h9) rfl dX3_again_49 ?_
          refine va_get (D := (dC, dI)) (ci := 1) (v := .int x34.2.2.2.1.2.2) (C := RX1) (T := TX1) (N := 4) hx hb hU inlX1 hown hE.1 hP 7 rfl rfl 3 (by decide) (hU _ u_10_16) (fun _ h9 => h9) rfl dX3_again_52 ?_
          cases hM
          exact rt _ _ _ _ _ hP hS dX3_again_55 rfl
        · have hM := ite_f c31 hM
          refine rdV (As := [.int v1]) (rest := [.ref a_t_now]) (st2 := [.ref a_t_secondSlot, .ref a_t_now]) ⟨hx, hb, hml, hown, hU⟩ hE (okX3_slotBooks_1 a_t a_t_papers a_t_now a_t_trial a_t_firstSlot a_t_secondSlot a_t_acts a_t_seen a_t_text a_t_doings s_t v1 c31) lk_X3_210 (hP.sub [0] rfl) rfl rfl rfl hl.1 rfl (Nat.le_of_ble_eq_true rfl) ⟨Nat.le_of_ble_eq_true rfl, Nat.le_of_ble_eq_true rfl⟩ dX3_again_31 ⟨Nat.le_refl _, Nat.le_refl _⟩ rfl ?_
          obtain ⟨x34, h34, hM⟩ := bind_e hM
          refine muV (As := [.ref a_t_secondSlot]) (rest := []) (st2 := []) (nw := [(a_t, .inr (3, [.ref a_t_papers, .ref a_t_now, .ref a_t_trial, .ref a_t_firstSlot, .ref a_t_secondSlot, .ref a_t_acts, .ref a_t_seen, .ref a_t_text, .ref a_t_doings, .int s_t.1, .long s_t.2])), (a_t_now, .inr (0, [.ref a_t_papers, .ref a_t_now_grants, .ref a_t_now_routes, .int x34.1.1, .int x34.1.2.1, .int x34.1.2.2])), (a_t_firstSlot, .inr (0, [.ref a_t_papers, .ref a_t_firstSlot_grants, .ref a_t_firstSlot_routes, .int s_t_firstSlot.1, .int s_t_firstSlot.2.1, .int s_t_firstSlot.2.2])), (a_t_now_grants, .inr (1, [.int x34.2.1.1, .int x34.2.1.2.1, .ref a_t_now_grants_cells, .int x34.2.1.2.2])), (a_t_firstSlot_grants, .inr (1, [.int s_t_firstSlot_grants.1, .int s_t_firstSlot_grants.2.1, .ref a_t_firstSlot_grants_cells, .int s_t_firstSlot_grants.2.2])), (a_t_firstSlot_grants_cells, .inl (cI, s_t_firstSlot_grants_cells.1, .inl s_t_firstSlot_grants_cells.2)), (a_t_now_grants_cells, .inl (cI, x34.2.2.1.1, .inl x34.2.2.1.2)), (a_t_now_routes, .inr (1, [.int x34.2.2.2.1.1, .int x34.2.2.2.1.2.1, .ref a_t_now_routes_cells, .int x34.2.2.2.1.2.2])), (a_t_firstSlot_routes, .inr (1, [.int s_t_firstSlot_routes.1, .int s_t_firstSlot_routes.2.1, .ref a_t_firstSlot_routes_cells, .int s_t_firstSlot_routes.2.2])), (a_t_firstSlot_routes_cells, .inl (cI, s_t_firstSlot_routes_cells.1, .inl s_t_firstSlot_routes_cells.2)), (a_t_now_routes_cells, .inl (cI, x34.2.2.2.2.1, .inl x34.2.2.2.2.2)), (a_t_acts, .inr (1, [.int s_t_acts.1, .int s_t_acts.2.1, .ref a_t_acts_cells, .int s_t_acts.2.2])), (a_t_secondSlot, .inr (0, [.ref a_t_papers, .ref a_t_secondSlot_grants, .ref a_t_secondSlot_routes, .int s_t_secondSlot.1, .int s_t_secondSlot.2.1, .int s_t_secondSlot.2.2])), (a_t_secondSlot_grants, .inr (1, [.int s_t_secondSlot_grants.1, .int s_t_secondSlot_grants.2.1, .ref a_t_secondSlot_grants_cells, .int s_t_secondSlot_grants.2.2])), (a_t_secondSlot_grants_cells, .inl (cI, s_t_secondSlot_grants_cells.1, .inl s_t_secondSlot_grants_cells.2)), (a_t_secondSlot_routes, .inr (1, [.int s_t_secondSlot_routes.1, .int s_t_secondSlot_routes.2.1, .ref a_t_secondSlot_routes_cells, .int s_t_secondSlot_routes.2.2])), (a_t_secondSlot_routes_cells, .inl (cI, s_t_secondSlot_routes_cells.1, .inl s_t_secondSlot_routes_cells.2))]) ⟨hx, hb, hml, hown, hU⟩ hE (okX0_copyFrom a_t_now a_t_papers a_t_now_grants a_t_now_routes a_t_secondSlot a_t_papers a_t_secondSlot_grants a_t_secondSlot_routes a_t_now_grants_cells a_t_secondSlot_grants_cells a_t_now_routes_cells a_t_secondSlot_routes_cells s_t_now s_t_secondSlot s_t_now_grants s_t_secondSlot_grants s_t_secondSlot_grants_cells s_t_now_grants_cells s_t_now_routes s_t_secondSlot_routes s_t_secondSlot_routes_cells s_t_now_routes_cells x34 h34) lk_X3_163 hP hD hS hA [1, 12, 3, 13, 14, 6, 7, 15, 16, 10] rfl rfl rfl rfl rfl rfl hl.1 rfl (Nat.le_of_ble_eq_true rfl) ⟨Nat.le_of_ble_eq_true rfl, Nat.le_of_ble_eq_true rfl⟩ dX3_again_34 ⟨Nat.le_refl _, Nat.le_refl _⟩ rfl rfl rfl rfl (fun H locs hP hD hS => ?_)
          refine lv_aload_n hx hb dX3_again_37 rfl (lv_at hl 0 rfl) ?_
          refine va_get (D := (dC, dI)) (ci := 3) (v := .ref a_t_acts) (C := RX3) (T := TX3) (N := 11) hx hb hU inlX3 hown hE.1 hP 0 rfl rfl 5 (by decide) (hU _ u_2_0) (fun _ h9 => h9) rfl dX3_again_38 ?_
          refine lv_iconst (v := (0 : Int32)) hx hb dX3_again_41 (by decide) ?_
          refine va_put (D := (dC, dI)) (ci := 1) (v := .int (0 : Int32)) (ty := .int) (C := RX1) (T := TX1) (N := 4) hx hb hU inlX1 tyX1 tyX1_ok nmX1 hown hE.1 hP hD hS 11 rfl rfl 3 (by decide) (hU _ u_10_16) (fun _ h9 => h9) rfl (tyX1_ok 3 (by decide)) rfl rfl (Nat.le_of_ble_eq_true rfl) dX3_again_42 (fun H locs hP hD hS => ?_)
          have hP : va_P (dC, dI) vwCl [(a_t, .inr (3, [.ref a_t_papers, .ref a_t_now, .ref a_t_trial, .ref a_t_firstSlot, .ref a_t_secondSlot, .ref a_t_acts, .ref a_t_seen, .ref a_t_text, .ref a_t_doings, .int s_t.1, .long s_t.2])), (a_t_now, .inr (0, [.ref a_t_papers, .ref a_t_now_grants, .ref a_t_now_routes, .int x34.1.1, .int x34.1.2.1, .int x34.1.2.2])), (a_t_firstSlot, .inr (0, [.ref a_t_papers, .ref a_t_firstSlot_grants, .ref a_t_firstSlot_routes, .int s_t_firstSlot.1, .int s_t_firstSlot.2.1, .int s_t_firstSlot.2.2])), (a_t_now_grants, .inr (1, [.int x34.2.1.1, .int x34.2.1.2.1, .ref a_t_now_grants_cells, .int x34.2.1.2.2])), (a_t_firstSlot_grants, .inr (1, [.int s_t_firstSlot_grants.1, .int s_t_firstSlot_grants.2.1, .ref a_t_firstSlot_grants_cells, .int s_t_firstSlot_grants.2.2])), (a_t_firstSlot_grants_cells, .inl (cI, s_t_firstSlot_grants_cells.1, .inl s_t_firstSlot_grants_cells.2)), (a_t_now_grants_cells, .inl (cI, x34.2.2.1.1, .inl x34.2.2.1.2)), (a_t_now_routes, .inr (1, [.int x34.2.2.2.1.1, .int x34.2.2.2.1.2.1, .ref a_t_now_routes_cells, .int x34.2.2.2.1.2.2])), (a_t_firstSlot_routes, .inr (1, [.int s_t_firstSlot_routes.1, .int s_t_firstSlot_routes.2.1, .ref a_t_firstSlot_routes_cells, .int s_t_firstSlot_routes.2.2])), (a_t_firstSlot_routes_cells, .inl (cI, s_t_firstSlot_routes_cells.1, .inl s_t_firstSlot_routes_cells.2)), (a_t_now_routes_cells, .inl (cI, x34.2.2.2.2.1, .inl x34.2.2.2.2.2)), (a_t_acts, .inr (1, [.int s_t_acts.1, .int s_t_acts.2.1, .ref a_t_acts_cells, .int (0 : Int32)])), (a_t_secondSlot, .inr (0, [.ref a_t_papers, .ref a_t_secondSlot_grants, .ref a_t_secondSlot_routes, .int s_t_secondSlot.1, .int s_t_secondSlot.2.1, .int s_t_secondSlot.2.2])), (a_t_secondSlot_grants, .inr (1, [.int s_t_secondSlot_grants.1, .int s_t_secondSlot_grants.2.1, .ref a_t_secondSlot_grants_cells, .int s_t_secondSlot_grants.2.2])), (a_t_secondSlot_grants_cells, .inl (cI, s_t_secondSlot_grants_cells.1, .inl s_t_secondSlot_grants_cells.2)), (a_t_secondSlot_routes, .inr (1, [.int s_t_secondSlot_routes.1, .int s_t_secondSlot_routes.2.1, .ref a_t_secondSlot_routes_cells, .int s_t_secondSlot_routes.2.2])), (a_t_secondSlot_routes_cells, .inl (cI, s_t_secondSlot_routes_cells.1, .inl s_t_secondSlot_routes_cells.2))] H := hP
          have hD : va_D A [(a_t, .inr (3, [.ref a_t_papers, .ref a_t_now, .ref a_t_trial, .ref a_t_firstSlot, .ref a_t_secondSlot, .ref a_t_acts, .ref a_t_seen, .ref a_t_text, .ref a_t_doings, .int s_t.1, .long s_t.2])), (a_t_now, .inr (0, [.ref a_t_papers, .ref a_t_now_grants, .ref a_t_now_routes, .int x34.1.1, .int x34.1.2.1, .int x34.1.2.2])), (a_t_firstSlot, .inr (0, [.ref a_t_papers, .ref a_t_firstSlot_grants, .ref a_t_firstSlot_routes, .int s_t_firstSlot.1, .int s_t_firstSlot.2.1, .int s_t_firstSlot.2.2])), (a_t_now_grants, .inr (1, [.int x34.2.1.1, .int x34.2.1.2.1, .ref a_t_now_grants_cells, .int x34.2.1.2.2])), (a_t_firstSlot_grants, .inr (1, [.int s_t_firstSlot_grants.1, .int s_t_firstSlot_grants.2.1, .ref a_t_firstSlot_grants_cells, .int s_t_firstSlot_grants.2.2])), (a_t_firstSlot_grants_cells, .inl (cI, s_t_firstSlot_grants_cells.1, .inl s_t_firstSlot_grants_cells.2)), (a_t_now_grants_cells, .inl (cI, x34.2.2.1.1, .inl x34.2.2.1.2)), (a_t_now_routes, .inr (1, [.int x34.2.2.2.1.1, .int x34.2.2.2.1.2.1, .ref a_t_now_routes_cells, .int x34.2.2.2.1.2.2])), (a_t_firstSlot_routes, .inr (1, [.int s_t_firstSlot_routes.1, .int s_t_firstSlot_routes.2.1, .ref a_t_firstSlot_routes_cells, .int s_t_firstSlot_routes.2.2])), (a_t_firstSlot_routes_cells, .inl (cI, s_t_firstSlot_routes_cells.1, .inl s_t_firstSlot_routes_cells.2)), (a_t_now_routes_cells, .inl (cI, x34.2.2.2.2.1, .inl x34.2.2.2.2.2)), (a_t_acts, .inr (1, [.int s_t_acts.1, .int s_t_acts.2.1, .ref a_t_acts_cells, .int (0 : Int32)])), (a_t_secondSlot, .inr (0, [.ref a_t_papers, .ref a_t_secondSlot_grants, .ref a_t_secondSlot_routes, .int s_t_secondSlot.1, .int s_t_secondSlot.2.1, .int s_t_secondSlot.2.2])), (a_t_secondSlot_grants, .inr (1, [.int s_t_secondSlot_grants.1, .int s_t_secondSlot_grants.2.1, .ref a_t_secondSlot_grants_cells, .int s_t_secondSlot_grants.2.2])), (a_t_secondSlot_grants_cells, .inl (cI, s_t_secondSlot_grants_cells.1, .inl s_t_secondSlot_grants_cells.2)), (a_t_secondSlot_routes, .inr (1, [.int s_t_secondSlot_routes.1, .int s_t_secondSlot_routes.2.1, .ref a_t_secondSlot_routes_cells, .int s_t_secondSlot_routes.2.2])), (a_t_secondSlot_routes_cells, .inl (cI, s_t_secondSlot_routes_cells.1, .inl s_t_secondSlot_routes_cells.2))] := hD
          refine lv_aload_n hx hb dX3_again_45 rfl (lv_at hl 0 rfl) ?_
          refine va_get (D := (dC, dI)) (ci := 3) (v := .ref a_t_now) (C := RX3) (T := TX3) (N := 11) hx hb hU inlX3 hown hE.1 hP 0 rfl rfl 1 (by decide) (hU _ u_1_20) (fun _ h9 => h9) rfl dX3_again_46 ?_
          refine va_get (D := (dC, dI)) (ci := 0) (v := .ref a_t_now_routes) (C := RX0) (T := TX0) (N := 6) hx hb hU inlX0 hown hE.1 hP 1 rfl rfl 2 (by decide) (hU _ u_11_19) (fun _ h9 => h9) rfl dX3_again_49 ?_
          refine va_get (D := (dC, dI)) (ci := 1) (v := .int x34.2.2.2.1.2.2) (C := RX1) (T := TX1) (N := 4) hx hb hU inlX1 hown hE.1 hP 7 rfl rfl 3 (by decide) (hU _ u_10_16) (fun _ h9 => h9) rfl dX3_again_52 ?_
          cases hM
          exact rt _ _ _ _ _ hP hS dX3_again_55 rfl
      · have hM := ite_t c19 hM
        refine lv_bipush (v := (-3 : Int32)) hx hb dX3_again_22 (by decide) ?_
        cases hM
        exact rt _ _ _ _ _ hP hS dX3_again_24 rfl
    · have hM := ite_f c6 hM
      refine lv_iconst (v := (-1 : Int32)) hx hb dX3_again_9 (by decide) ?_
      cases hM
      exact rt _ _ _ _ _ hP hS dX3_again_10 rfl
noncomputable def mX3_isRange (v0 : Int32) (v1 : Int32) : Option (Bool) := (mX3_isPlace v0).bind (fun x1 => (if x1 = true then (if v1 < 0 then some (false) else (if (5 : Int32) < v1 then some (false) else (mX3_leftBySize v0 v1).bind (fun x18 => (if x18 = 0 then some (true) else some (false))))) else some (false)))
set_option maxHeartbeats 4000000 in
set_option maxRecDepth 100000 in
theorem okX3_isRange {l : Launch} {dC : Nat → ClassId} {dI : Nat → Nat → Nat} {cI cC cZ : ClassId} (v0 : Int32) (v1 : Int32) (res : Bool) (hM : mX3_isRange v0 v1 = some res) : Rd l yX3_isRange cX3_isRange 2 (some .boolean) 1 21 (dC, dI) cI cC cZ [] [.int v0, .int v1] (some (.int (b2i res))) := by
  refine Rd.ofZ (by decide) (Nat.le_of_ble_eq_true rfl) [(0, .int v0), (1, .int v1)] rfl ?_
  intro p e s m args below meth c ls Q hx hb hml hown hU hE hP rt hl
  have hown : s.vm.findClass RX3 = some m.cls := hown
  unfold mX3_isRange at hM
  refine lv_iload_n hx hb dX3_isRange_0 rfl (lv_at hl 0 rfl) ?_
  obtain ⟨x1, h1, hM⟩ := bind_e hM
  refine rdS (As := [.int v0]) (rest := []) (st2 := [.int (b2i x1)]) ⟨hx, hb, hml, hown, hU⟩ hE (okX3_isPlace v0 x1 h1) lk_X3_154 (hP.sub [] rfl) rfl hl.1 rfl (Nat.le_of_ble_eq_true rfl) ⟨Nat.le_of_ble_eq_true rfl, Nat.le_of_ble_eq_true rfl⟩ dX3_isRange_1 ⟨Nat.le_refl _, Nat.le_refl _⟩ rfl ?_
  refine lv_if_eq (tgt := 28) hx hb dX3_isRange_4 (by decide) (fun c4 => ?_) (fun c4 => ?_)
  · have hM := ite_f (b2i_eq0 c4) hM
    refine lv_iconst (v := (0 : Int32)) hx hb dX3_isRange_28 (by decide) ?_
    cases hM
    exact rt false _ _ dX3_isRange_29 rfl
  · have hM := ite_t (b2i_ne0 c4) hM
    refine lv_iload_n hx hb dX3_isRange_7 rfl (lv_at hl 1 rfl) ?_
    refine lv_if_lt (tgt := 28) hx hb dX3_isRange_8 (by decide) (fun c8 => ?_) (fun c8 => ?_)
    · have hM := ite_t c8 hM
      refine lv_iconst (v := (0 : Int32)) hx hb dX3_isRange_28 (by decide) ?_
      cases hM
      exact rt false _ _ dX3_isRange_29 rfl
    · have hM := ite_f c8 hM
      refine lv_iload_n hx hb dX3_isRange_11 rfl (lv_at hl 1 rfl) ?_
      refine lv_iconst (v := (5 : Int32)) hx hb dX3_isRange_12 (by decide) ?_
      refine lv_icmp_gt (tgt := 28) hx hb dX3_isRange_13 (by decide) (fun c13 => ?_) (fun c13 => ?_)
      · have hM := ite_t c13 hM
        refine lv_iconst (v := (0 : Int32)) hx hb dX3_isRange_28 (by decide) ?_
        cases hM
        exact rt false _ _ dX3_isRange_29 rfl
      · have hM := ite_f c13 hM
        refine lv_iload_n hx hb dX3_isRange_16 rfl (lv_at hl 0 rfl) ?_
        refine lv_iload_n hx hb dX3_isRange_17 rfl (lv_at hl 1 rfl) ?_
        obtain ⟨x18, h18, hM⟩ := bind_e hM
        refine rdS (As := [.int v0, .int v1]) (rest := []) (st2 := [.int x18]) ⟨hx, hb, hml, hown, hU⟩ hE (okX3_leftBySize v0 v1 x18 h18) lk_X3_166 (hP.sub [] rfl) rfl hl.1 rfl (Nat.le_of_ble_eq_true rfl) ⟨Nat.le_of_ble_eq_true rfl, Nat.le_of_ble_eq_true rfl⟩ dX3_isRange_18 ⟨Nat.le_refl _, Nat.le_refl _⟩ rfl ?_
        refine lv_if_ne (tgt := 28) hx hb dX3_isRange_21 (by decide) (fun c21 => ?_) (fun c21 => ?_)
        · have hM := ite_f c21 hM
          refine lv_iconst (v := (0 : Int32)) hx hb dX3_isRange_28 (by decide) ?_
          cases hM
          exact rt false _ _ dX3_isRange_29 rfl
        · have hM := ite_t c21 hM
          refine lv_iconst (v := (1 : Int32)) hx hb dX3_isRange_24 (by decide) ?_
          refine lv_goto (tgt := 29) hx hb dX3_isRange_25 (by decide) ?_
          cases hM
          exact rt true _ _ dX3_isRange_29 rfl
noncomputable def mX3_remember_b20 (v1 : Int32) (v2 : Int32) (s_t_acts : Int32 × Int32 × Int32) (s_t_acts_cells : Ar) : Option (Int32 × (Int32 × Int32 × Int32) × Ar) := (mX1_openAt s_t_acts s_t_acts_cells s_t_acts.2.2).bind (fun x33 => (mX1_put x33.1 x33.2 s_t_acts.2.2 (0 : Int32) v1).bind (fun x43 => (mX1_put x33.1 x43 s_t_acts.2.2 (1 : Int32) v2).bind (fun x53 => some (s_t_acts.2.2, x33.1, x53))))
noncomputable def mX3_remember (s_t_acts : Int32 × Int32 × Int32) (s_t_acts_cells : Ar) (v1 : Int32) (v2 : Int32) : Option (Int32 × (Int32 × Int32 × Int32) × Ar) := (if s_t_acts.2.2 < (14 : Int32) then mX3_remember_b20 v1 v2 s_t_acts s_t_acts_cells else (mX1_closeAt s_t_acts s_t_acts_cells (0 : Int32)).bind (fun x17 => mX3_remember_b20 v1 v2 x17.1 x17.2))
set_option maxHeartbeats 4000000 in
set_option maxRecDepth 100000 in
theorem okX3_remember {l : Launch} {dC : Nat → ClassId} {dI : Nat → Nat → Nat} {cI cC cZ : ClassId} (a_t a_t_papers a_t_now a_t_trial a_t_firstSlot a_t_secondSlot a_t_acts a_t_seen a_t_text a_t_doings a_t_acts_cells : Nat) (s_t : Int32 × Int64) (s_t_acts : Int32 × Int32 × Int32) (s_t_acts_cells : Ar) (v1 : Int32) (v2 : Int32) (res : Int32 × (Int32 × Int32 × Int32) × Ar) (hM : mX3_remember s_t_acts s_t_acts_cells v1 v2 = some res) : Mu l yX3_remember cX3_remember 4 (some .int) 2 61 (dC, dI) cI cC cZ [(a_t, .inr (3, [.ref a_t_papers, .ref a_t_now, .ref a_t_trial, .ref a_t_firstSlot, .ref a_t_secondSlot, .ref a_t_acts, .ref a_t_seen, .ref a_t_text, .ref a_t_doings, .int s_t.1, .long s_t.2])), (a_t_acts, .inr (1, [.int s_t_acts.1, .int s_t_acts.2.1, .ref a_t_acts_cells, .int s_t_acts.2.2])), (a_t_acts_cells, .inl (cI, s_t_acts_cells.1, .inl s_t_acts_cells.2))] [(a_t, .inr (3, [.ref a_t_papers, .ref a_t_now, .ref a_t_trial, .ref a_t_firstSlot, .ref a_t_secondSlot, .ref a_t_acts, .ref a_t_seen, .ref a_t_text, .ref a_t_doings, .int s_t.1, .long s_t.2])), (a_t_acts, .inr (1, [.int res.2.1.1, .int res.2.1.2.1, .ref a_t_acts_cells, .int res.2.1.2.2])), (a_t_acts_cells, .inl (cI, res.2.2.1, .inl res.2.2.2))] [.ref a_t, .int v1, .int v2] (some (.int res.1)) := by
  refine Mu.ofI (by decide) (Nat.le_of_ble_eq_true rfl) [(0, .ref a_t), (1, .int v1), (2, .int v2)] rfl ?_
  intro p e s m args below meth c ls Q A hx hb hml hown hU hE hP hD hS hA rt hl
  have hown : s.vm.findClass RX3 = some m.cls := hown
  unfold mX3_remember at hM
  refine lv_aload_n hx hb dX3_remember_0 rfl (lv_at hl 0 rfl) ?_
  refine va_get (D := (dC, dI)) (ci := 3) (v := .ref a_t_acts) (C := RX3) (T := TX3) (N := 11) hx hb hU inlX3 hown hE.1 hP 0 rfl rfl 5 (by decide) (hU _ u_2_0) (fun _ h9 => h9) rfl dX3_remember_1 ?_
  refine va_get (D := (dC, dI)) (ci := 1) (v := .int s_t_acts.2.2) (C := RX1) (T := TX1) (N := 4) hx hb hU inlX1 hown hE.1 hP 1 rfl rfl 3 (by decide) (hU _ u_10_16) (fun _ h9 => h9) rfl dX3_remember_4 ?_
  refine lv_bipush (v := (14 : Int32)) hx hb dX3_remember_7 (by decide) ?_
  have w_20 : ∀ (s_t_acts_20 : Int32 × Int32 × Int32) (s_t_acts_cells_20 : Ar), mX3_remember_b20 v1 v2 s_t_acts_20 s_t_acts_cells_20 = some res → ∀ (ls : Array Slot) (H : Heap) (locs : List Loc), va_P (dC, dI) vwCl [(a_t, .inr (3, [.ref a_t_papers, .ref a_t_now, .ref a_t_trial, .ref a_t_firstSlot, .ref a_t_secondSlot, .ref a_t_acts, .ref a_t_seen, .ref a_t_text, .ref a_t_doings, .int s_t.1, .long s_t.2])), (a_t_acts, .inr (1, [.int s_t_acts_20.1, .int s_t_acts_20.2.1, .ref a_t_acts_cells, .int s_t_acts_20.2.2])), (a_t_acts_cells, .inl (cI, s_t_acts_cells_20.1, .inl s_t_acts_cells_20.2))] H → va_D A [(a_t, .inr (3, [.ref a_t_papers, .ref a_t_now, .ref a_t_trial, .ref a_t_firstSlot, .ref a_t_secondSlot, .ref a_t_acts, .ref a_t_seen, .ref a_t_text, .ref a_t_doings, .int s_t.1, .long s_t.2])), (a_t_acts, .inr (1, [.int s_t_acts_20.1, .int s_t_acts_20.2.1, .ref a_t_acts_cells, .int s_t_acts_20.2.2])), (a_t_acts_cells, .inl (cI, s_t_acts_cells_20.1, .inl s_t_acts_cells_20.2))] → va_S A s.heap H locs → lv_has ls 4 [(0, .ref a_t), (1, .int v1), (2, .int v2)] → W p l e (RM 2 61) s m args below meth c H locs 0 0 Q (F0 m 20 ls []) := by
    intro s_t_acts_20 s_t_acts_cells_20 hM ls H locs hP hD hS hl
    unfold mX3_remember_b20 at hM
    refine lv_aload_n hx hb dX3_remember_20 rfl (lv_at hl 0 rfl) ?_
    refine va_get (D := (dC, dI)) (ci := 3) (v := .ref a_t_acts) (C := RX3) (T := TX3) (N := 11) hx hb hU inlX3 hown hE.1 hP 0 rfl rfl 5 (by decide) (hU _ u_2_0) (fun _ h9 => h9) rfl dX3_remember_21 ?_
    refine va_get (D := (dC, dI)) (ci := 1) (v := .int s_t_acts_20.2.2) (C := RX1) (T := TX1) (N := 4) hx hb hU inlX1 hown hE.1 hP 1 rfl rfl 3 (by decide) (hU _ u_10_16) (fun _ h9 => h9) rfl dX3_remember_24 ?_
    refine lv_istore_n (lv' := [(3, .int s_t_acts_20.2.2), (0, .ref a_t), (1, .int v1), (2, .int v2)]) hx hb dX3_remember_27 rfl hl (by decide) rfl (fun ls hl => ?_)
    refine lv_aload_n hx hb dX3_remember_28 rfl (lv_at hl 1 rfl) ?_
    refine va_get (D := (dC, dI)) (ci := 3) (v := .ref a_t_acts) (C := RX3) (T := TX3) (N := 11) hx hb hU inlX3 hown hE.1 hP 0 rfl rfl 5 (by decide) (hU _ u_2_0) (fun _ h9 => h9) rfl dX3_remember_29 ?_
    refine lv_iload_n hx hb dX3_remember_32 rfl (lv_at hl 0 rfl) ?_
    obtain ⟨x33, h33, hM⟩ := bind_e hM
    refine muV (As := [.int s_t_acts_20.2.2]) (rest := []) (st2 := []) (nw := [(a_t, .inr (3, [.ref a_t_papers, .ref a_t_now, .ref a_t_trial, .ref a_t_firstSlot, .ref a_t_secondSlot, .ref a_t_acts, .ref a_t_seen, .ref a_t_text, .ref a_t_doings, .int s_t.1, .long s_t.2])), (a_t_acts, .inr (1, [.int x33.1.1, .int x33.1.2.1, .ref a_t_acts_cells, .int x33.1.2.2])), (a_t_acts_cells, .inl (cI, x33.2.1, .inl x33.2.2))]) ⟨hx, hb, hml, hown, hU⟩ hE (okX1_openAt a_t_acts a_t_acts_cells s_t_acts_20 s_t_acts_cells_20 s_t_acts_20.2.2 x33 h33) lk_X3_214 hP hD hS hA [1, 2] rfl rfl rfl rfl rfl rfl hl.1 rfl (Nat.le_of_ble_eq_true rfl) ⟨Nat.le_of_ble_eq_true rfl, Nat.le_of_ble_eq_true rfl⟩ dX3_remember_33 ⟨Nat.le_refl _, Nat.le_refl _⟩ rfl rfl rfl rfl (fun H locs hP hD hS => ?_)
    refine lv_aload_n hx hb dX3_remember_36 rfl (lv_at hl 1 rfl) ?_
    refine va_get (D := (dC, dI)) (ci := 3) (v := .ref a_t_acts) (C := RX3) (T := TX3) (N := 11) hx hb hU inlX3 hown hE.1 hP 0 rfl rfl 5 (by decide) (hU _ u_2_0) (fun _ h9 => h9) rfl dX3_remember_37 ?_
    refine lv_iload_n hx hb dX3_remember_40 rfl (lv_at hl 0 rfl) ?_
    refine lv_iconst (v := (0 : Int32)) hx hb dX3_remember_41 (by decide) ?_
    refine lv_iload_n hx hb dX3_remember_42 rfl (lv_at hl 2 rfl) ?_
    obtain ⟨x43, h43, hM⟩ := bind_e hM
    refine muV (As := [.int s_t_acts_20.2.2, .int (0 : Int32), .int v1]) (rest := []) (st2 := []) (nw := [(a_t, .inr (3, [.ref a_t_papers, .ref a_t_now, .ref a_t_trial, .ref a_t_firstSlot, .ref a_t_secondSlot, .ref a_t_acts, .ref a_t_seen, .ref a_t_text, .ref a_t_doings, .int s_t.1, .long s_t.2])), (a_t_acts, .inr (1, [.int x33.1.1, .int x33.1.2.1, .ref a_t_acts_cells, .int x33.1.2.2])), (a_t_acts_cells, .inl (cI, x43.1, .inl x43.2))]) ⟨hx, hb, hml, hown, hU⟩ hE (okX1_put a_t_acts a_t_acts_cells x33.1 x33.2 s_t_acts_20.2.2 (0 : Int32) v1 x43 h43) lk_X3_179 hP hD hS hA [1, 2] rfl rfl rfl rfl rfl rfl hl.1 rfl (Nat.le_of_ble_eq_true rfl) ⟨Nat.le_of_ble_eq_true rfl, Nat.le_of_ble_eq_true rfl⟩ dX3_remember_43 ⟨Nat.le_refl _, Nat.le_refl _⟩ rfl rfl rfl rfl (fun H locs hP hD hS => ?_)
    refine lv_aload_n hx hb dX3_remember_46 rfl (lv_at hl 1 rfl) ?_
    refine va_get (D := (dC, dI)) (ci := 3) (v := .ref a_t_acts) (C := RX3) (T := TX3) (N := 11) hx hb hU inlX3 hown hE.1 hP 0 rfl rfl 5 (by decide) (hU _ u_2_0) (fun _ h9 => h9) rfl dX3_remember_47 ?_
    refine lv_iload_n hx hb dX3_remember_50 rfl (lv_at hl 0 rfl) ?_
    refine lv_iconst (v := (1 : Int32)) hx hb dX3_remember_51 (by decide) ?_
    refine lv_iload_n hx hb dX3_remember_52 rfl (lv_at hl 3 rfl) ?_
    obtain ⟨x53, h53, hM⟩ := bind_e hM
    refine muV (As := [.int s_t_acts_20.2.2, .int (1 : Int32), .int v2]) (rest := []) (st2 := []) (nw := [(a_t, .inr (3, [.ref a_t_papers, .ref a_t_now, .ref a_t_trial, .ref a_t_firstSlot, .ref a_t_secondSlot, .ref a_t_acts, .ref a_t_seen, .ref a_t_text, .ref a_t_doings, .int s_t.1, .long s_t.2])), (a_t_acts, .inr (1, [.int x33.1.1, .int x33.1.2.1, .ref a_t_acts_cells, .int x33.1.2.2])), (a_t_acts_cells, .inl (cI, x53.1, .inl x53.2))]) ⟨hx, hb, hml, hown, hU⟩ hE (okX1_put a_t_acts a_t_acts_cells x33.1 x43 s_t_acts_20.2.2 (1 : Int32) v2 x53 h53) lk_X3_179 hP hD hS hA [1, 2] rfl rfl rfl rfl rfl rfl hl.1 rfl (Nat.le_of_ble_eq_true rfl) ⟨Nat.le_of_ble_eq_true rfl, Nat.le_of_ble_eq_true rfl⟩ dX3_remember_53 ⟨Nat.le_refl _, Nat.le_refl _⟩ rfl rfl rfl rfl (fun H locs hP hD hS => ?_)
    refine lv_iload_n hx hb dX3_remember_56 rfl (lv_at hl 0 rfl) ?_
    cases hM
    exact rt _ _ _ _ _ hP hS dX3_remember_57 rfl
  refine lv_icmp_lt (tgt := 20) hx hb dX3_remember_9 (by decide) (fun c9 => ?_) (fun c9 => ?_)
  · have hM := ite_t c9 hM
    exact w_20 s_t_acts s_t_acts_cells hM ls _ _ hP hD hS (lv_sub hl [0, 1, 2] rfl)
  · have hM := ite_f c9 hM
    refine lv_aload_n hx hb dX3_remember_12 rfl (lv_at hl 0 rfl) ?_
    refine va_get (D := (dC, dI)) (ci := 3) (v := .ref a_t_acts) (C := RX3) (T := TX3) (N := 11) hx hb hU inlX3 hown hE.1 hP 0 rfl rfl 5 (by decide) (hU _ u_2_0) (fun _ h9 => h9) rfl dX3_remember_13 ?_
    refine lv_iconst (v := (0 : Int32)) hx hb dX3_remember_16 (by decide) ?_
    obtain ⟨x17, h17, hM⟩ := bind_e hM
    refine muV (As := [.int (0 : Int32)]) (rest := []) (st2 := []) (nw := [(a_t, .inr (3, [.ref a_t_papers, .ref a_t_now, .ref a_t_trial, .ref a_t_firstSlot, .ref a_t_secondSlot, .ref a_t_acts, .ref a_t_seen, .ref a_t_text, .ref a_t_doings, .int s_t.1, .long s_t.2])), (a_t_acts, .inr (1, [.int x17.1.1, .int x17.1.2.1, .ref a_t_acts_cells, .int x17.1.2.2])), (a_t_acts_cells, .inl (cI, x17.2.1, .inl x17.2.2))]) ⟨hx, hb, hml, hown, hU⟩ hE (okX1_closeAt a_t_acts a_t_acts_cells s_t_acts s_t_acts_cells (0 : Int32) x17 h17) lk_X3_145 hP hD hS hA [1, 2] rfl rfl rfl rfl rfl rfl hl.1 rfl (Nat.le_of_ble_eq_true rfl) ⟨Nat.le_of_ble_eq_true rfl, Nat.le_of_ble_eq_true rfl⟩ dX3_remember_17 ⟨Nat.le_refl _, Nat.le_refl _⟩ rfl rfl rfl rfl (fun H locs hP hD hS => ?_)
    exact w_20 x17.1 x17.2 hM ls _ _ hP hD hS (lv_sub hl [0, 1, 2] rfl)
noncomputable def mX3_allow_b17 (s_t_papers : Int32 × Int32 × Int32) (s_t_now_grants : Int32 × Int32 × Int32) (s_t_now_grants_cells : Ar) (s_t_acts : Int32 × Int32 × Int32) (s_t_acts_cells : Ar) (v1 : Int32) (v2 : Int32) (v3 : Int32) (v4 : Int32) (v5 : Int32) : Option (Int32 × (Int32 × Int32 × Int32) × Ar × (Int32 × Int32 × Int32) × Ar) := (mX3_isOrigin v2).bind (fun x18 => (if x18 = true then (mX3_isRange v3 v4).bind (fun x29 => (if x29 = true then (if v5 < v4 then some ((-2 : Int32), s_t_now_grants, s_t_now_grants_cells, s_t_acts, s_t_acts_cells) else (if v5 ≤ (5 : Int32) then (if s_t_now_grants.2.2 < (8 : Int32) then (mX1_addRange s_t_now_grants s_t_now_grants_cells v3 v4 v2 v1 v5).bind (fun x83 => (mX3_remember s_t_acts s_t_acts_cells (3 : Int32) x83.1).bind (fun x92 => some (x83.1, x83.2.1, x83.2.2, x92.2.1, x92.2.2))) else some ((-4 : Int32), s_t_now_grants, s_t_now_grants_cells, s_t_acts, s_t_acts_cells)) else some ((-2 : Int32), s_t_now_grants, s_t_now_grants_cells, s_t_acts, s_t_acts_cells))) else some ((-2 : Int32), s_t_now_grants, s_t_now_grants_cells, s_t_acts, s_t_acts_cells))) else some ((-1 : Int32), s_t_now_grants, s_t_now_grants_cells, s_t_acts, s_t_acts_cells)))
noncomputable def mX3_allow (s_t_papers : Int32 × Int32 × Int32) (s_t_now_grants : Int32 × Int32 × Int32) (s_t_now_grants_cells : Ar) (s_t_acts : Int32 × Int32 × Int32) (s_t_acts_cells : Ar) (v1 : Int32) (v2 : Int32) (v3 : Int32) (v4 : Int32) (v5 : Int32) : Option (Int32 × (Int32 × Int32 × Int32) × Ar × (Int32 × Int32 × Int32) × Ar) := (mX1_has s_t_papers v1).bind (fun x5 => (if x5 = true then mX3_allow_b17 s_t_papers s_t_now_grants s_t_now_grants_cells s_t_acts s_t_acts_cells v1 v2 v3 v4 v5 else (if v1 = (9 : Int32) then mX3_allow_b17 s_t_papers s_t_now_grants s_t_now_grants_cells s_t_acts s_t_acts_cells v1 v2 v3 v4 v5 else some ((-1 : Int32), s_t_now_grants, s_t_now_grants_cells, s_t_acts, s_t_acts_cells))))
set_option maxHeartbeats 4000000 in
set_option maxRecDepth 100000 in
theorem okX3_allow {l : Launch} {dC : Nat → ClassId} {dI : Nat → Nat → Nat} {cI cC cZ : ClassId} (a_t a_t_papers a_t_now a_t_trial a_t_firstSlot a_t_secondSlot a_t_acts a_t_seen a_t_text a_t_doings a_t_papers_cells a_t_now_grants a_t_now_routes a_t_now_grants_cells a_t_acts_cells : Nat) (s_t : Int32 × Int64) (s_t_papers : Int32 × Int32 × Int32) (s_t_now : Int32 × Int32 × Int32) (s_t_now_grants : Int32 × Int32 × Int32) (s_t_now_grants_cells : Ar) (s_t_acts : Int32 × Int32 × Int32) (s_t_acts_cells : Ar) (v1 : Int32) (v2 : Int32) (v3 : Int32) (v4 : Int32) (v5 : Int32) (res : Int32 × (Int32 × Int32 × Int32) × Ar × (Int32 × Int32 × Int32) × Ar) (hM : mX3_allow s_t_papers s_t_now_grants s_t_now_grants_cells s_t_acts s_t_acts_cells v1 v2 v3 v4 v5 = some res) : Mu l yX3_allow cX3_allow 7 (some .int) 3 87 (dC, dI) cI cC cZ [(a_t, .inr (3, [.ref a_t_papers, .ref a_t_now, .ref a_t_trial, .ref a_t_firstSlot, .ref a_t_secondSlot, .ref a_t_acts, .ref a_t_seen, .ref a_t_text, .ref a_t_doings, .int s_t.1, .long s_t.2])), (a_t_papers, .inr (1, [.int s_t_papers.1, .int s_t_papers.2.1, .ref a_t_papers_cells, .int s_t_papers.2.2])), (a_t_now, .inr (0, [.ref a_t_papers, .ref a_t_now_grants, .ref a_t_now_routes, .int s_t_now.1, .int s_t_now.2.1, .int s_t_now.2.2])), (a_t_now_grants, .inr (1, [.int s_t_now_grants.1, .int s_t_now_grants.2.1, .ref a_t_now_grants_cells, .int s_t_now_grants.2.2])), (a_t_now_grants_cells, .inl (cI, s_t_now_grants_cells.1, .inl s_t_now_grants_cells.2)), (a_t_acts, .inr (1, [.int s_t_acts.1, .int s_t_acts.2.1, .ref a_t_acts_cells, .int s_t_acts.2.2])), (a_t_acts_cells, .inl (cI, s_t_acts_cells.1, .inl s_t_acts_cells.2))] [(a_t, .inr (3, [.ref a_t_papers, .ref a_t_now, .ref a_t_trial, .ref a_t_firstSlot, .ref a_t_secondSlot, .ref a_t_acts, .ref a_t_seen, .ref a_t_text, .ref a_t_doings, .int s_t.1, .long s_t.2])), (a_t_papers, .inr (1, [.int s_t_papers.1, .int s_t_papers.2.1, .ref a_t_papers_cells, .int s_t_papers.2.2])), (a_t_now, .inr (0, [.ref a_t_papers, .ref a_t_now_grants, .ref a_t_now_routes, .int s_t_now.1, .int s_t_now.2.1, .int s_t_now.2.2])), (a_t_now_grants, .inr (1, [.int res.2.1.1, .int res.2.1.2.1, .ref a_t_now_grants_cells, .int res.2.1.2.2])), (a_t_now_grants_cells, .inl (cI, res.2.2.1.1, .inl res.2.2.1.2)), (a_t_acts, .inr (1, [.int res.2.2.2.1.1, .int res.2.2.2.1.2.1, .ref a_t_acts_cells, .int res.2.2.2.1.2.2])), (a_t_acts_cells, .inl (cI, res.2.2.2.2.1, .inl res.2.2.2.2.2))] [.ref a_t, .int v1, .int v2, .int v3, .int v4, .int v5] (some (.int res.1)) := by
  refine Mu.ofI (by decide) (Nat.le_of_ble_eq_true rfl) [(0, .ref a_t), (1, .int v1), (2, .int v2), (3, .int v3), (4, .int v4), (5, .int v5)] rfl ?_
  intro p e s m args below meth c ls Q A hx hb hml hown hU hE hP hD hS hA rt hl
  have hown : s.vm.findClass RX3 = some m.cls := hown
  unfold mX3_allow at hM
  refine lv_aload_n hx hb dX3_allow_0 rfl (lv_at hl 0 rfl) ?_
  refine va_get (D := (dC, dI)) (ci := 3) (v := .ref a_t_papers) (C := RX3) (T := TX3) (N := 11) hx hb hU inlX3 hown hE.1 hP 0 rfl rfl 0 (by decide) (hU _ u_1_16) (fun _ h9 => h9) rfl dX3_allow_1 ?_
  refine lv_iload_n hx hb dX3_allow_4 rfl (lv_at hl 1 rfl) ?_
  obtain ⟨x5, h5, hM⟩ := bind_e hM
  refine rdV (As := [.int v1]) (rest := []) (st2 := [.int (b2i x5)]) ⟨hx, hb, hml, hown, hU⟩ hE (okX1_has a_t_papers a_t_papers_cells s_t_papers v1 x5 h5) lk_X3_114 (hP.sub [1] rfl) rfl rfl rfl hl.1 rfl (Nat.le_of_ble_eq_true rfl) ⟨Nat.le_of_ble_eq_true rfl, Nat.le_of_ble_eq_true rfl⟩ dX3_allow_5 ⟨Nat.le_refl _, Nat.le_refl _⟩ rfl ?_
  have w_17 : mX3_allow_b17 s_t_papers s_t_now_grants s_t_now_grants_cells s_t_acts s_t_acts_cells v1 v2 v3 v4 v5 = some res → ∀ (ls : Array Slot) (H : Heap) (locs : List Loc), va_P (dC, dI) vwCl [(a_t, .inr (3, [.ref a_t_papers, .ref a_t_now, .ref a_t_trial, .ref a_t_firstSlot, .ref a_t_secondSlot, .ref a_t_acts, .ref a_t_seen, .ref a_t_text, .ref a_t_doings, .int s_t.1, .long s_t.2])), (a_t_papers, .inr (1, [.int s_t_papers.1, .int s_t_papers.2.1, .ref a_t_papers_cells, .int s_t_papers.2.2])), (a_t_now, .inr (0, [.ref a_t_papers, .ref a_t_now_grants, .ref a_t_now_routes, .int s_t_now.1, .int s_t_now.2.1, .int s_t_now.2.2])), (a_t_now_grants, .inr (1, [.int s_t_now_grants.1, .int s_t_now_grants.2.1, .ref a_t_now_grants_cells, .int s_t_now_grants.2.2])), (a_t_now_grants_cells, .inl (cI, s_t_now_grants_cells.1, .inl s_t_now_grants_cells.2)), (a_t_acts, .inr (1, [.int s_t_acts.1, .int s_t_acts.2.1, .ref a_t_acts_cells, .int s_t_acts.2.2])), (a_t_acts_cells, .inl (cI, s_t_acts_cells.1, .inl s_t_acts_cells.2))] H → va_D A [(a_t, .inr (3, [.ref a_t_papers, .ref a_t_now, .ref a_t_trial, .ref a_t_firstSlot, .ref a_t_secondSlot, .ref a_t_acts, .ref a_t_seen, .ref a_t_text, .ref a_t_doings, .int s_t.1, .long s_t.2])), (a_t_papers, .inr (1, [.int s_t_papers.1, .int s_t_papers.2.1, .ref a_t_papers_cells, .int s_t_papers.2.2])), (a_t_now, .inr (0, [.ref a_t_papers, .ref a_t_now_grants, .ref a_t_now_routes, .int s_t_now.1, .int s_t_now.2.1, .int s_t_now.2.2])), (a_t_now_grants, .inr (1, [.int s_t_now_grants.1, .int s_t_now_grants.2.1, .ref a_t_now_grants_cells, .int s_t_now_grants.2.2])), (a_t_now_grants_cells, .inl (cI, s_t_now_grants_cells.1, .inl s_t_now_grants_cells.2)), (a_t_acts, .inr (1, [.int s_t_acts.1, .int s_t_acts.2.1, .ref a_t_acts_cells, .int s_t_acts.2.2])), (a_t_acts_cells, .inl (cI, s_t_acts_cells.1, .inl s_t_acts_cells.2))] → va_S A s.heap H locs → lv_has ls 7 [(0, .ref a_t), (1, .int v1), (2, .int v2), (3, .int v3), (4, .int v4), (5, .int v5)] → W p l e (RM 3 87) s m args below meth c H locs 0 0 Q (F0 m 17 ls []) := by
    intro  hM ls H locs hP hD hS hl
    unfold mX3_allow_b17 at hM
    refine lv_iload_n hx hb dX3_allow_17 rfl (lv_at hl 2 rfl) ?_
    obtain ⟨x18, h18, hM⟩ := bind_e hM
    refine rdS (As := [.int v2]) (rest := []) (st2 := [.int (b2i x18)]) ⟨hx, hb, hml, hown, hU⟩ hE (okX3_isOrigin v2 x18 h18) lk_X3_135 (hP.sub [] rfl) rfl hl.1 rfl (Nat.le_of_ble_eq_true rfl) ⟨Nat.le_of_ble_eq_true rfl, Nat.le_of_ble_eq_true rfl⟩ dX3_allow_18 ⟨Nat.le_refl _, Nat.le_refl _⟩ rfl ?_
    refine lv_if_ne (tgt := 26) hx hb dX3_allow_21 (by decide) (fun c21 => ?_) (fun c21 => ?_)
    · have hM := ite_t (b2i_ne0 c21) hM
      refine lv_iload_n hx hb dX3_allow_26 rfl (lv_at hl 3 rfl) ?_
      refine lv_iload hx hb dX3_allow_27 (lv_at hl 4 rfl) ?_
      obtain ⟨x29, h29, hM⟩ := bind_e hM
      refine rdS (As := [.int v3, .int v4]) (rest := []) (st2 := [.int (b2i x29)]) ⟨hx, hb, hml, hown, hU⟩ hE (okX3_isRange v3 v4 x29 h29) lk_X3_131 (hP.sub [] rfl) rfl hl.1 rfl (Nat.le_of_ble_eq_true rfl) ⟨Nat.le_of_ble_eq_true rfl, Nat.le_of_ble_eq_true rfl⟩ dX3_allow_29 ⟨Nat.le_refl _, Nat.le_refl _⟩ rfl ?_
      refine lv_if_eq (tgt := 48) hx hb dX3_allow_32 (by decide) (fun c32 => ?_) (fun c32 => ?_)
      · have hM := ite_f (b2i_eq0 c32) hM
        refine lv_bipush (v := (-2 : Int32)) hx hb dX3_allow_48 (by decide) ?_
        cases hM
        exact rt _ _ _ _ _ hP hS dX3_allow_50 rfl
      · have hM := ite_t (b2i_ne0 c32) hM
        refine lv_iload hx hb dX3_allow_35 (lv_at hl 5 rfl) ?_
        refine lv_iload hx hb dX3_allow_37 (lv_at hl 4 rfl) ?_
        refine lv_icmp_lt (tgt := 48) hx hb dX3_allow_39 (by decide) (fun c39 => ?_) (fun c39 => ?_)
        · have hM := ite_t c39 hM
          refine lv_bipush (v := (-2 : Int32)) hx hb dX3_allow_48 (by decide) ?_
          cases hM
          exact rt _ _ _ _ _ hP hS dX3_allow_50 rfl
        · have hM := ite_f c39 hM
          refine lv_iload hx hb dX3_allow_42 (lv_at hl 5 rfl) ?_
          refine lv_iconst (v := (5 : Int32)) hx hb dX3_allow_44 (by decide) ?_
          refine lv_icmp_le (tgt := 51) hx hb dX3_allow_45 (by decide) (fun c45 => ?_) (fun c45 => ?_)
          · have hM := ite_t c45 hM
            refine lv_aload_n hx hb dX3_allow_51 rfl (lv_at hl 0 rfl) ?_
            refine va_get (D := (dC, dI)) (ci := 3) (v := .ref a_t_now) (C := RX3) (T := TX3) (N := 11) hx hb hU inlX3 hown hE.1 hP 0 rfl rfl 1 (by decide) (hU _ u_1_20) (fun _ h9 => h9) rfl dX3_allow_52 ?_
            refine va_get (D := (dC, dI)) (ci := 0) (v := .ref a_t_now_grants) (C := RX0) (T := TX0) (N := 6) hx hb hU inlX0 hown hE.1 hP 2 rfl rfl 1 (by decide) (hU _ u_11_18) (fun _ h9 => h9) rfl dX3_allow_55 ?_
            refine va_get (D := (dC, dI)) (ci := 1) (v := .int s_t_now_grants.2.2) (C := RX1) (T := TX1) (N := 4) hx hb hU inlX1 hown hE.1 hP 3 rfl rfl 3 (by decide) (hU _ u_10_16) (fun _ h9 => h9) rfl dX3_allow_58 ?_
            refine lv_bipush (v := (8 : Int32)) hx hb dX3_allow_61 (by decide) ?_
            refine lv_icmp_lt (tgt := 69) hx hb dX3_allow_63 (by decide) (fun c63 => ?_) (fun c63 => ?_)
            · have hM := ite_t c63 hM
              refine lv_aload_n hx hb dX3_allow_69 rfl (lv_at hl 0 rfl) ?_
              refine va_get (D := (dC, dI)) (ci := 3) (v := .ref a_t_now) (C := RX3) (T := TX3) (N := 11) hx hb hU inlX3 hown hE.1 hP 0 rfl rfl 1 (by decide) (hU _ u_1_20) (fun _ h9 => h9) rfl dX3_allow_70 ?_
              refine va_get (D := (dC, dI)) (ci := 0) (v := .ref a_t_now_grants) (C := RX0) (T := TX0) (N := 6) hx hb hU inlX0 hown hE.1 hP 2 rfl rfl 1 (by decide) (hU _ u_11_18) (fun _ h9 => h9) rfl dX3_allow_73 ?_
              refine lv_iload_n hx hb dX3_allow_76 rfl (lv_at hl 3 rfl) ?_
              refine lv_iload hx hb dX3_allow_77 (lv_at hl 4 rfl) ?_
              refine lv_iload_n hx hb dX3_allow_79 rfl (lv_at hl 2 rfl) ?_
              refine lv_iload_n hx hb dX3_allow_80 rfl (lv_at hl 1 rfl) ?_
              refine lv_iload hx hb dX3_allow_81 (lv_at hl 5 rfl) ?_
              obtain ⟨x83, h83, hM⟩ := bind_e hM
              refine muV (As := [.int v3, .int v4, .int v2, .int v1, .int v5]) (rest := []) (st2 := [.int x83.1]) (nw := [(a_t, .inr (3, [.ref a_t_papers, .ref a_t_now, .ref a_t_trial, .ref a_t_firstSlot, .ref a_t_secondSlot, .ref a_t_acts, .ref a_t_seen, .ref a_t_text, .ref a_t_doings, .int s_t.1, .long s_t.2])), (a_t_papers, .inr (1, [.int s_t_papers.1, .int s_t_papers.2.1, .ref a_t_papers_cells, .int s_t_papers.2.2])), (a_t_now, .inr (0, [.ref a_t_papers, .ref a_t_now_grants, .ref a_t_now_routes, .int s_t_now.1, .int s_t_now.2.1, .int s_t_now.2.2])), (a_t_now_grants, .inr (1, [.int x83.2.1.1, .int x83.2.1.2.1, .ref a_t_now_grants_cells, .int x83.2.1.2.2])), (a_t_now_grants_cells, .inl (cI, x83.2.2.1, .inl x83.2.2.2)), (a_t_acts, .inr (1, [.int s_t_acts.1, .int s_t_acts.2.1, .ref a_t_acts_cells, .int s_t_acts.2.2])), (a_t_acts_cells, .inl (cI, s_t_acts_cells.1, .inl s_t_acts_cells.2))]) ⟨hx, hb, hml, hown, hU⟩ hE (okX1_addRange a_t_now_grants a_t_now_grants_cells s_t_now_grants s_t_now_grants_cells v3 v4 v2 v1 v5 x83 h83) lk_X3_53 hP hD hS hA [3, 4] rfl rfl rfl rfl rfl rfl hl.1 rfl (Nat.le_of_ble_eq_true rfl) ⟨Nat.le_of_ble_eq_true rfl, Nat.le_of_ble_eq_true rfl⟩ dX3_allow_83 ⟨Nat.le_refl _, Nat.le_refl _⟩ rfl rfl rfl rfl (fun H locs hP hD hS => ?_)
              refine lv_istore (lv' := [(6, .int x83.1), (0, .ref a_t), (1, .int v1), (2, .int v2), (3, .int v3), (4, .int v4), (5, .int v5)]) hx hb dX3_allow_86 hl (by decide) rfl (fun ls hl => ?_)
              refine lv_aload_n hx hb dX3_allow_88 rfl (lv_at hl 1 rfl) ?_
              refine lv_iconst (v := (3 : Int32)) hx hb dX3_allow_89 (by decide) ?_
              refine lv_iload hx hb dX3_allow_90 (lv_at hl 0 rfl) ?_
              obtain ⟨x92, h92, hM⟩ := bind_e hM
              refine muV (As := [.int (3 : Int32), .int x83.1]) (rest := []) (st2 := [.int x92.1]) (nw := [(a_t, .inr (3, [.ref a_t_papers, .ref a_t_now, .ref a_t_trial, .ref a_t_firstSlot, .ref a_t_secondSlot, .ref a_t_acts, .ref a_t_seen, .ref a_t_text, .ref a_t_doings, .int s_t.1, .long s_t.2])), (a_t_papers, .inr (1, [.int s_t_papers.1, .int s_t_papers.2.1, .ref a_t_papers_cells, .int s_t_papers.2.2])), (a_t_now, .inr (0, [.ref a_t_papers, .ref a_t_now_grants, .ref a_t_now_routes, .int s_t_now.1, .int s_t_now.2.1, .int s_t_now.2.2])), (a_t_now_grants, .inr (1, [.int x83.2.1.1, .int x83.2.1.2.1, .ref a_t_now_grants_cells, .int x83.2.1.2.2])), (a_t_now_grants_cells, .inl (cI, x83.2.2.1, .inl x83.2.2.2)), (a_t_acts, .inr (1, [.int x92.2.1.1, .int x92.2.1.2.1, .ref a_t_acts_cells, .int x92.2.1.2.2])), (a_t_acts_cells, .inl (cI, x92.2.2.1, .inl x92.2.2.2))]) ⟨hx, hb, hml, hown, hU⟩ hE (okX3_remember a_t a_t_papers a_t_now a_t_trial a_t_firstSlot a_t_secondSlot a_t_acts a_t_seen a_t_text a_t_doings a_t_acts_cells s_t s_t_acts s_t_acts_cells (3 : Int32) x83.1 x92 h92) lk_X3_138 hP hD hS hA [0, 5, 6] rfl rfl rfl rfl rfl rfl hl.1 rfl (Nat.le_of_ble_eq_true rfl) ⟨Nat.le_of_ble_eq_true rfl, Nat.le_of_ble_eq_true rfl⟩ dX3_allow_92 ⟨Nat.le_refl _, Nat.le_refl _⟩ rfl rfl rfl rfl (fun H locs hP hD hS => ?_)
              refine lv_pop hx hb dX3_allow_95 rfl ?_
              refine lv_iload hx hb dX3_allow_96 (lv_at hl 0 rfl) ?_
              cases hM
              exact rt _ _ _ _ _ hP hS dX3_allow_98 rfl
            · have hM := ite_f c63 hM
              refine lv_bipush (v := (-4 : Int32)) hx hb dX3_allow_66 (by decide) ?_
              cases hM
              exact rt _ _ _ _ _ hP hS dX3_allow_68 rfl
          · have hM := ite_f c45 hM
            refine lv_bipush (v := (-2 : Int32)) hx hb dX3_allow_48 (by decide) ?_
            cases hM
            exact rt _ _ _ _ _ hP hS dX3_allow_50 rfl
    · have hM := ite_f (b2i_eq0 c21) hM
      refine lv_iconst (v := (-1 : Int32)) hx hb dX3_allow_24 (by decide) ?_
      cases hM
      exact rt _ _ _ _ _ hP hS dX3_allow_25 rfl
  refine lv_if_ne (tgt := 17) hx hb dX3_allow_8 (by decide) (fun c8 => ?_) (fun c8 => ?_)
  · have hM := ite_t (b2i_ne0 c8) hM
    exact w_17  hM ls _ _ hP hD hS (lv_sub hl [0, 1, 2, 3, 4, 5] rfl)
  · have hM := ite_f (b2i_eq0 c8) hM
    refine lv_iload_n hx hb dX3_allow_11 rfl (lv_at hl 1 rfl) ?_
    refine lv_bipush (v := (9 : Int32)) hx hb dX3_allow_12 (by decide) ?_
    refine lv_icmp_ne (tgt := 24) hx hb dX3_allow_14 (by decide) (fun c14 => ?_) (fun c14 => ?_)
    · have hM := ite_f c14 hM
      refine lv_iconst (v := (-1 : Int32)) hx hb dX3_allow_24 (by decide) ?_
      cases hM
      exact rt _ _ _ _ _ hP hS dX3_allow_25 rfl
    · have hM := ite_t c14 hM
      exact w_17  hM ls _ _ hP hD hS (lv_sub hl [0, 1, 2, 3, 4, 5] rfl)
noncomputable def mX3_announce (s_t_now_routes : Int32 × Int32 × Int32) (s_t_now_routes_cells : Ar) (s_t_acts : Int32 × Int32 × Int32) (s_t_acts_cells : Ar) (v1 : Int32) (v2 : Int32) (v3 : Int32) : Option (Int32 × (Int32 × Int32 × Int32) × Ar × (Int32 × Int32 × Int32) × Ar) := (mX3_isRange v1 v2).bind (fun x2 => (if x2 = true then (mX3_isOrigin v3).bind (fun x12 => (if x12 = true then (if s_t_now_routes.2.2 < (6 : Int32) then (mX1_addRange s_t_now_routes s_t_now_routes_cells v1 v2 v3 (0 : Int32) (0 : Int32)).bind (fun x50 => (mX3_remember s_t_acts s_t_acts_cells (1 : Int32) x50.1).bind (fun x59 => some (x50.1, x50.2.1, x50.2.2, x59.2.1, x59.2.2))) else some ((-4 : Int32), s_t_now_routes, s_t_now_routes_cells, s_t_acts, s_t_acts_cells)) else some ((-1 : Int32), s_t_now_routes, s_t_now_routes_cells, s_t_acts, s_t_acts_cells))) else some ((-2 : Int32), s_t_now_routes, s_t_now_routes_cells, s_t_acts, s_t_acts_cells)))
set_option maxHeartbeats 4000000 in
set_option maxRecDepth 100000 in
theorem okX3_announce {l : Launch} {dC : Nat → ClassId} {dI : Nat → Nat → Nat} {cI cC cZ : ClassId} (a_t a_t_papers a_t_now a_t_trial a_t_firstSlot a_t_secondSlot a_t_acts a_t_seen a_t_text a_t_doings a_t_now_grants a_t_now_routes a_t_now_routes_cells a_t_acts_cells : Nat) (s_t : Int32 × Int64) (s_t_now : Int32 × Int32 × Int32) (s_t_now_routes : Int32 × Int32 × Int32) (s_t_now_routes_cells : Ar) (s_t_acts : Int32 × Int32 × Int32) (s_t_acts_cells : Ar) (v1 : Int32) (v2 : Int32) (v3 : Int32) (res : Int32 × (Int32 × Int32 × Int32) × Ar × (Int32 × Int32 × Int32) × Ar) (hM : mX3_announce s_t_now_routes s_t_now_routes_cells s_t_acts s_t_acts_cells v1 v2 v3 = some res) : Mu l yX3_announce cX3_announce 5 (some .int) 3 87 (dC, dI) cI cC cZ [(a_t, .inr (3, [.ref a_t_papers, .ref a_t_now, .ref a_t_trial, .ref a_t_firstSlot, .ref a_t_secondSlot, .ref a_t_acts, .ref a_t_seen, .ref a_t_text, .ref a_t_doings, .int s_t.1, .long s_t.2])), (a_t_now, .inr (0, [.ref a_t_papers, .ref a_t_now_grants, .ref a_t_now_routes, .int s_t_now.1, .int s_t_now.2.1, .int s_t_now.2.2])), (a_t_now_routes, .inr (1, [.int s_t_now_routes.1, .int s_t_now_routes.2.1, .ref a_t_now_routes_cells, .int s_t_now_routes.2.2])), (a_t_now_routes_cells, .inl (cI, s_t_now_routes_cells.1, .inl s_t_now_routes_cells.2)), (a_t_acts, .inr (1, [.int s_t_acts.1, .int s_t_acts.2.1, .ref a_t_acts_cells, .int s_t_acts.2.2])), (a_t_acts_cells, .inl (cI, s_t_acts_cells.1, .inl s_t_acts_cells.2))] [(a_t, .inr (3, [.ref a_t_papers, .ref a_t_now, .ref a_t_trial, .ref a_t_firstSlot, .ref a_t_secondSlot, .ref a_t_acts, .ref a_t_seen, .ref a_t_text, .ref a_t_doings, .int s_t.1, .long s_t.2])), (a_t_now, .inr (0, [.ref a_t_papers, .ref a_t_now_grants, .ref a_t_now_routes, .int s_t_now.1, .int s_t_now.2.1, .int s_t_now.2.2])), (a_t_now_routes, .inr (1, [.int res.2.1.1, .int res.2.1.2.1, .ref a_t_now_routes_cells, .int res.2.1.2.2])), (a_t_now_routes_cells, .inl (cI, res.2.2.1.1, .inl res.2.2.1.2)), (a_t_acts, .inr (1, [.int res.2.2.2.1.1, .int res.2.2.2.1.2.1, .ref a_t_acts_cells, .int res.2.2.2.1.2.2])), (a_t_acts_cells, .inl (cI, res.2.2.2.2.1, .inl res.2.2.2.2.2))] [.ref a_t, .int v1, .int v2, .int v3] (some (.int res.1)) := by
  refine Mu.ofI (by decide) (Nat.le_of_ble_eq_true rfl) [(0, .ref a_t), (1, .int v1), (2, .int v2), (3, .int v3)] rfl ?_
  intro p e s m args below meth c ls Q A hx hb hml hown hU hE hP hD hS hA rt hl
  have hown : s.vm.findClass RX3 = some m.cls := hown
  unfold mX3_announce at hM
  refine lv_iload_n hx hb dX3_announce_0 rfl (lv_at hl 1 rfl) ?_
  refine lv_iload_n hx hb dX3_announce_1 rfl (lv_at hl 2 rfl) ?_
  obtain ⟨x2, h2, hM⟩ := bind_e hM
  refine rdS (As := [.int v1, .int v2]) (rest := []) (st2 := [.int (b2i x2)]) ⟨hx, hb, hml, hown, hU⟩ hE (okX3_isRange v1 v2 x2 h2) lk_X3_131 (hP.sub [] rfl) rfl hl.1 rfl (Nat.le_of_ble_eq_true rfl) ⟨Nat.le_of_ble_eq_true rfl, Nat.le_of_ble_eq_true rfl⟩ dX3_announce_2 ⟨Nat.le_refl _, Nat.le_refl _⟩ rfl ?_
  refine lv_if_ne (tgt := 11) hx hb dX3_announce_5 (by decide) (fun c5 => ?_) (fun c5 => ?_)
  · have hM := ite_t (b2i_ne0 c5) hM
    refine lv_iload_n hx hb dX3_announce_11 rfl (lv_at hl 3 rfl) ?_
    obtain ⟨x12, h12, hM⟩ := bind_e hM
    refine rdS (As := [.int v3]) (rest := []) (st2 := [.int (b2i x12)]) ⟨hx, hb, hml, hown, hU⟩ hE (okX3_isOrigin v3 x12 h12) lk_X3_135 (hP.sub [] rfl) rfl hl.1 rfl (Nat.le_of_ble_eq_true rfl) ⟨Nat.le_of_ble_eq_true rfl, Nat.le_of_ble_eq_true rfl⟩ dX3_announce_12 ⟨Nat.le_refl _, Nat.le_refl _⟩ rfl ?_
    refine lv_if_ne (tgt := 20) hx hb dX3_announce_15 (by decide) (fun c15 => ?_) (fun c15 => ?_)
    · have hM := ite_t (b2i_ne0 c15) hM
      refine lv_aload_n hx hb dX3_announce_20 rfl (lv_at hl 0 rfl) ?_
      refine va_get (D := (dC, dI)) (ci := 3) (v := .ref a_t_now) (C := RX3) (T := TX3) (N := 11) hx hb hU inlX3 hown hE.1 hP 0 rfl rfl 1 (by decide) (hU _ u_1_20) (fun _ h9 => h9) rfl dX3_announce_21 ?_
      refine va_get (D := (dC, dI)) (ci := 0) (v := .ref a_t_now_routes) (C := RX0) (T := TX0) (N := 6) hx hb hU inlX0 hown hE.1 hP 1 rfl rfl 2 (by decide) (hU _ u_11_19) (fun _ h9 => h9) rfl dX3_announce_24 ?_
      refine va_get (D := (dC, dI)) (ci := 1) (v := .int s_t_now_routes.2.2) (C := RX1) (T := TX1) (N := 4) hx hb hU inlX1 hown hE.1 hP 2 rfl rfl 3 (by decide) (hU _ u_10_16) (fun _ h9 => h9) rfl dX3_announce_27 ?_
      refine lv_bipush (v := (6 : Int32)) hx hb dX3_announce_30 (by decide) ?_
      refine lv_icmp_lt (tgt := 38) hx hb dX3_announce_32 (by decide) (fun c32 => ?_) (fun c32 => ?_)
      · have hM := ite_t c32 hM
        refine lv_aload_n hx hb dX3_announce_38 rfl (lv_at hl 0 rfl) ?_
        refine va_get (D := (dC, dI)) (ci := 3) (v := .ref a_t_now) (C := RX3) (T := TX3) (N := 11) hx hb hU inlX3 hown hE.1 hP 0 rfl rfl 1 (by decide) (hU _ u_1_20) (fun _ h9 => h9) rfl dX3_announce_39 ?_
        refine va_get (D := (dC, dI)) (ci := 0) (v := .ref a_t_now_routes) (C := RX0) (T := TX0) (N := 6) hx hb hU inlX0 hown hE.1 hP 1 rfl rfl 2 (by decide) (hU _ u_11_19) (fun _ h9 => h9) rfl dX3_announce_42 ?_
        refine lv_iload_n hx hb dX3_announce_45 rfl (lv_at hl 1 rfl) ?_
        refine lv_iload_n hx hb dX3_announce_46 rfl (lv_at hl 2 rfl) ?_
        refine lv_iload_n hx hb dX3_announce_47 rfl (lv_at hl 3 rfl) ?_
        refine lv_iconst (v := (0 : Int32)) hx hb dX3_announce_48 (by decide) ?_
        refine lv_iconst (v := (0 : Int32)) hx hb dX3_announce_49 (by decide) ?_
        obtain ⟨x50, h50, hM⟩ := bind_e hM
        refine muV (As := [.int v1, .int v2, .int v3, .int (0 : Int32), .int (0 : Int32)]) (rest := []) (st2 := [.int x50.1]) (nw := [(a_t, .inr (3, [.ref a_t_papers, .ref a_t_now, .ref a_t_trial, .ref a_t_firstSlot, .ref a_t_secondSlot, .ref a_t_acts, .ref a_t_seen, .ref a_t_text, .ref a_t_doings, .int s_t.1, .long s_t.2])), (a_t_now, .inr (0, [.ref a_t_papers, .ref a_t_now_grants, .ref a_t_now_routes, .int s_t_now.1, .int s_t_now.2.1, .int s_t_now.2.2])), (a_t_now_routes, .inr (1, [.int x50.2.1.1, .int x50.2.1.2.1, .ref a_t_now_routes_cells, .int x50.2.1.2.2])), (a_t_now_routes_cells, .inl (cI, x50.2.2.1, .inl x50.2.2.2)), (a_t_acts, .inr (1, [.int s_t_acts.1, .int s_t_acts.2.1, .ref a_t_acts_cells, .int s_t_acts.2.2])), (a_t_acts_cells, .inl (cI, s_t_acts_cells.1, .inl s_t_acts_cells.2))]) ⟨hx, hb, hml, hown, hU⟩ hE (okX1_addRange a_t_now_routes a_t_now_routes_cells s_t_now_routes s_t_now_routes_cells v1 v2 v3 (0 : Int32) (0 : Int32) x50 h50) lk_X3_53 hP hD hS hA [2, 3] rfl rfl rfl rfl rfl rfl hl.1 rfl (Nat.le_of_ble_eq_true rfl) ⟨Nat.le_of_ble_eq_true rfl, Nat.le_of_ble_eq_true rfl⟩ dX3_announce_50 ⟨Nat.le_refl _, Nat.le_refl _⟩ rfl rfl rfl rfl (fun H locs hP hD hS => ?_)
        refine lv_istore (lv' := [(4, .int x50.1), (0, .ref a_t), (1, .int v1), (2, .int v2), (3, .int v3)]) hx hb dX3_announce_53 hl (by decide) rfl (fun ls hl => ?_)
        refine lv_aload_n hx hb dX3_announce_55 rfl (lv_at hl 1 rfl) ?_
        refine lv_iconst (v := (1 : Int32)) hx hb dX3_announce_56 (by decide) ?_
        refine lv_iload hx hb dX3_announce_57 (lv_at hl 0 rfl) ?_
        obtain ⟨x59, h59, hM⟩ := bind_e hM
        refine muV (As := [.int (1 : Int32), .int x50.1]) (rest := []) (st2 := [.int x59.1]) (nw := [(a_t, .inr (3, [.ref a_t_papers, .ref a_t_now, .ref a_t_trial, .ref a_t_firstSlot, .ref a_t_secondSlot, .ref a_t_acts, .ref a_t_seen, .ref a_t_text, .ref a_t_doings, .int s_t.1, .long s_t.2])), (a_t_now, .inr (0, [.ref a_t_papers, .ref a_t_now_grants, .ref a_t_now_routes, .int s_t_now.1, .int s_t_now.2.1, .int s_t_now.2.2])), (a_t_now_routes, .inr (1, [.int x50.2.1.1, .int x50.2.1.2.1, .ref a_t_now_routes_cells, .int x50.2.1.2.2])), (a_t_now_routes_cells, .inl (cI, x50.2.2.1, .inl x50.2.2.2)), (a_t_acts, .inr (1, [.int x59.2.1.1, .int x59.2.1.2.1, .ref a_t_acts_cells, .int x59.2.1.2.2])), (a_t_acts_cells, .inl (cI, x59.2.2.1, .inl x59.2.2.2))]) ⟨hx, hb, hml, hown, hU⟩ hE (okX3_remember a_t a_t_papers a_t_now a_t_trial a_t_firstSlot a_t_secondSlot a_t_acts a_t_seen a_t_text a_t_doings a_t_acts_cells s_t s_t_acts s_t_acts_cells (1 : Int32) x50.1 x59 h59) lk_X3_138 hP hD hS hA [0, 4, 5] rfl rfl rfl rfl rfl rfl hl.1 rfl (Nat.le_of_ble_eq_true rfl) ⟨Nat.le_of_ble_eq_true rfl, Nat.le_of_ble_eq_true rfl⟩ dX3_announce_59 ⟨Nat.le_refl _, Nat.le_refl _⟩ rfl rfl rfl rfl (fun H locs hP hD hS => ?_)
        refine lv_pop hx hb dX3_announce_62 rfl ?_
        refine lv_iload hx hb dX3_announce_63 (lv_at hl 0 rfl) ?_
        cases hM
        exact rt _ _ _ _ _ hP hS dX3_announce_65 rfl
      · have hM := ite_f c32 hM
        refine lv_bipush (v := (-4 : Int32)) hx hb dX3_announce_35 (by decide) ?_
        cases hM
        exact rt _ _ _ _ _ hP hS dX3_announce_37 rfl
    · have hM := ite_f (b2i_eq0 c15) hM
      refine lv_iconst (v := (-1 : Int32)) hx hb dX3_announce_18 (by decide) ?_
      cases hM
      exact rt _ _ _ _ _ hP hS dX3_announce_19 rfl
  · have hM := ite_f (b2i_eq0 c5) hM
    refine lv_bipush (v := (-2 : Int32)) hx hb dX3_announce_8 (by decide) ?_
    cases hM
    exact rt _ _ _ _ _ hP hS dX3_announce_10 rfl
noncomputable def mX3_fraction_b48 (v3 : Int32) (t0 : Int32) : Option (Int32) := (if v3 ≤ (1 : Int32) then some (t0) else dv t0 v3 (fun x58 => some (x58)))
noncomputable def mX3_fraction_b39 (v0 : Int32) (v1 : Int32) (v2 : Bool) (v3 : Int32) : Option (Int32) := (if v2 = true then mX3_fraction_b48 v3 v0 else mX3_fraction_b48 v3 v1)
noncomputable def mX3_fraction_b8 (v0 : Int32) (v1 : Int32) (v2 : Bool) : Nat → Int32 → Int32 → Int32 → Option (Int32)
  | 0, _, _, _ => none
  | n + 1, v3, v4, v5 => (if (64 : Int32) ≤ v5 then mX3_fraction_b39 v0 v1 v2 v3 else (if v4 = 0 then mX3_fraction_b39 v0 v1 v2 v3 else rmd v3 v4 (fun x23 => mX3_fraction_b8 v0 v1 v2 n v4 x23 (v5 + (1 : Int32)))))
noncomputable def mX3_fraction (v0 : Int32) (v1 : Int32) (v2 : Bool) : Option (Int32) := mX3_fraction_b8 v0 v1 v2 FU v1 v0 (0 : Int32)
set_option maxHeartbeats 4000000 in
set_option maxRecDepth 100000 in
theorem okX3_fraction {l : Launch} {dC : Nat → ClassId} {dI : Nat → Nat → Nat} {cI cC cZ : ClassId} (v0 : Int32) (v1 : Int32) (v2 : Bool) (res : Int32) (hM : mX3_fraction v0 v1 v2 = some res) : Rd l yX3_fraction cX3_fraction 7 (some .int) 0 0 (dC, dI) cI cC cZ [] [.int v0, .int v1, .int (b2i v2)] (some (.int res)) := by
  refine Rd.ofI (by decide) (Nat.le_of_ble_eq_true rfl) [(0, .int v0), (1, .int v1), (2, .int (b2i v2))] rfl ?_
  intro p e s m args below meth c ls Q hx hb hml hown hU hE hP rt hl
  have hown : s.vm.findClass RX3 = some m.cls := hown
  unfold mX3_fraction at hM
  refine lv_iload_n hx hb dX3_fraction_0 rfl (lv_at hl 1 rfl) ?_
  refine lv_istore_n (lv' := [(3, .int v1), (0, .int v0), (1, .int v1), (2, .int (b2i v2))]) hx hb dX3_fraction_1 rfl hl (by decide) rfl (fun ls hl => ?_)
  refine lv_iload_n hx hb dX3_fraction_2 rfl (lv_at hl 1 rfl) ?_
  refine lv_istore (lv' := [(4, .int v0), (3, .int v1), (0, .int v0), (1, .int v1), (2, .int (b2i v2))]) hx hb dX3_fraction_3 hl (by decide) rfl (fun ls hl => ?_)
  refine lv_iconst (v := (0 : Int32)) hx hb dX3_fraction_5 (by decide) ?_
  refine lv_istore (lv' := [(5, .int (0 : Int32)), (4, .int v0), (3, .int v1), (0, .int v0), (1, .int v1), (2, .int (b2i v2))]) hx hb dX3_fraction_6 hl (by decide) rfl (fun ls hl => ?_)
  have w_8 : ∀ (n : Nat) (v3_8 : Int32) (v4_8 : Int32) (v5_8 : Int32), mX3_fraction_b8 v0 v1 v2 n v3_8 v4_8 v5_8 = some res → ∀ (ls : Array Slot), lv_has ls 7 [(0, .int v0), (1, .int v1), (2, .int (b2i v2)), (3, .int v3_8), (4, .int v4_8), (5, .int v5_8)] → W p l e (RM 0 0) s m args below meth c s.heap [] 0 0 Q (F0 m 8 ls []) := by
    intro n
    induction n with
    | zero =>
      intro v3_8 v4_8 v5_8 hM
      rw [mX3_fraction_b8] at hM
      cases hM
    | succ n_8 ih_8 =>
      intro v3_8 v4_8 v5_8 hM ls hl
      rw [mX3_fraction_b8] at hM
      refine lv_iload hx hb dX3_fraction_8 (lv_at hl 5 rfl) ?_
      refine lv_bipush (v := (64 : Int32)) hx hb dX3_fraction_10 (by decide) ?_
      have w_39 : mX3_fraction_b39 v0 v1 v2 v3_8 = some res → ∀ (ls : Array Slot), lv_has ls 7 [(0, .int v0), (1, .int v1), (2, .int (b2i v2)), (3, .int v3_8)] → W p l e (RM 0 0) s m args below meth c s.heap [] 0 0 Q (F0 m 39 ls []) := by
        intro  hM ls hl
        unfold mX3_fraction_b39 at hM
        refine lv_iload_n hx hb dX3_fraction_39 rfl (lv_at hl 2 rfl) ?_
        have w_48 : ∀ (t0_48 : Int32), mX3_fraction_b48 v3_8 t0_48 = some res → ∀ (ls : Array Slot), lv_has ls 7 [(3, .int v3_8)] → W p l e (RM 0 0) s m args below meth c s.heap [] 0 0 Q (F0 m 48 ls [.int t0_48]) := by
          intro t0_48 hM ls hl
          unfold mX3_fraction_b48 at hM
          refine lv_istore (lv' := [(5, .int t0_48), (3, .int v3_8)]) hx hb dX3_fraction_48 hl (by decide) rfl (fun ls hl => ?_)
          refine lv_iload_n hx hb dX3_fraction_50 rfl (lv_at hl 1 rfl) ?_
          refine lv_iconst (v := (1 : Int32)) hx hb dX3_fraction_51 (by decide) ?_
          refine lv_icmp_le (tgt := 62) hx hb dX3_fraction_52 (by decide) (fun c52 => ?_) (fun c52 => ?_)
          · have hM := ite_t c52 hM
            refine lv_iload hx hb dX3_fraction_62 (lv_at hl 0 rfl) ?_
            cases hM
            exact rt _ _ _ dX3_fraction_64 rfl
          · have hM := ite_f c52 hM
            refine lv_iload hx hb dX3_fraction_55 (lv_at hl 0 rfl) ?_
            refine lv_iload_n hx hb dX3_fraction_57 rfl (lv_at hl 1 rfl) ?_
            obtain ⟨g58, hM⟩ := dv_e hM
            refine lv_idiv hx hb dX3_fraction_58 g58 ?_
            refine lv_goto (tgt := 64) hx hb dX3_fraction_59 (by decide) ?_
            cases hM
            exact rt _ _ _ dX3_fraction_64 rfl
        refine lv_if_eq (tgt := 47) hx hb dX3_fraction_40 (by decide) (fun c40 => ?_) (fun c40 => ?_)
        · have hM := ite_f (b2i_eq0 c40) hM
          refine lv_iload_n hx hb dX3_fraction_47 rfl (lv_at hl 1 rfl) ?_
          exact w_48 v1 hM ls (lv_sub hl [3] rfl)
        · have hM := ite_t (b2i_ne0 c40) hM
          refine lv_iload_n hx hb dX3_fraction_43 rfl (lv_at hl 0 rfl) ?_
          refine lv_goto (tgt := 48) hx hb dX3_fraction_44 (by decide) ?_
          exact w_48 v0 hM ls (lv_sub hl [3] rfl)
      refine lv_icmp_ge (tgt := 39) hx hb dX3_fraction_12 (by decide) (fun c12 => ?_) (fun c12 => ?_)
      · have hM := ite_t c12 hM
        exact w_39  hM ls (lv_sub hl [0, 1, 2, 3] rfl)
      · have hM := ite_f c12 hM
        refine lv_iload hx hb dX3_fraction_15 (lv_at hl 4 rfl) ?_
        refine lv_if_eq (tgt := 39) hx hb dX3_fraction_17 (by decide) (fun c17 => ?_) (fun c17 => ?_)
        · have hM := ite_t c17 hM
          exact w_39  hM ls (lv_sub hl [0, 1, 2, 3] rfl)
        · have hM := ite_f c17 hM
          refine lv_iload_n hx hb dX3_fraction_20 rfl (lv_at hl 3 rfl) ?_
          refine lv_iload hx hb dX3_fraction_21 (lv_at hl 4 rfl) ?_
          obtain ⟨g23, hM⟩ := rmd_e hM
          refine lv_irem hx hb dX3_fraction_23 g23 ?_
          refine lv_istore (lv' := [(6, .int (v3_8 - v3_8 / v4_8 * v4_8)), (0, .int v0), (1, .int v1), (2, .int (b2i v2)), (3, .int v3_8), (4, .int v4_8), (5, .int v5_8)]) hx hb dX3_fraction_24 hl (by decide) rfl (fun ls hl => ?_)
          refine lv_iload hx hb dX3_fraction_26 (lv_at hl 5 rfl) ?_
          refine lv_istore_n (lv' := [(3, .int v4_8), (6, .int (v3_8 - v3_8 / v4_8 * v4_8)), (0, .int v0), (1, .int v1), (2, .int (b2i v2)), (4, .int v4_8), (5, .int v5_8)]) hx hb dX3_fraction_28 rfl hl (by decide) rfl (fun ls hl => ?_)
          refine lv_iload hx hb dX3_fraction_29 (lv_at hl 1 rfl) ?_
          refine lv_istore (lv' := [(4, .int (v3_8 - v3_8 / v4_8 * v4_8)), (3, .int v4_8), (6, .int (v3_8 - v3_8 / v4_8 * v4_8)), (0, .int v0), (1, .int v1), (2, .int (b2i v2)), (5, .int v5_8)]) hx hb dX3_fraction_31 hl (by decide) rfl (fun ls hl => ?_)
          refine lv_iinc (v := (v5_8 + (1 : Int32))) (lv' := [(5, .int (v5_8 + (1 : Int32))), (4, .int (v3_8 - v3_8 / v4_8 * v4_8)), (3, .int v4_8), (6, .int (v3_8 - v3_8 / v4_8 * v4_8)), (0, .int v0), (1, .int v1), (2, .int (b2i v2))]) hx hb dX3_fraction_33 hl (k := 6) rfl rfl (by decide) rfl (fun ls hl => ?_)
          refine lv_goto (tgt := 8) hx hb dX3_fraction_36 (by decide) ?_
          exact ih_8 v4_8 (v3_8 - v3_8 / v4_8 * v4_8) (v5_8 + (1 : Int32)) hM ls (lv_sub hl [4, 5, 6, 2, 1, 0] rfl)
  exact w_8 FU v1 v0 (0 : Int32) hM ls (lv_sub hl [3, 4, 5, 2, 1, 0] rfl)
noncomputable def mX3_weightOf_b5 (s_t_papers : Int32 × Int32 × Int32) (v1 : Int32) (v2 : Int32) : Nat → Int32 → Int32 → Option (Int32)
  | 0, _, _ => none
  | n + 1, v3, v4 => (if s_t_papers.2.2 ≤ v4 then some (v3) else (mX3_bit v1 v4).bind (fun x21 => (if x21 = (1 : Int32) then mX3_weightOf_b5 s_t_papers v1 v2 n (v3 * v2) (v4 + (1 : Int32)) else mX3_weightOf_b5 s_t_papers v1 v2 n (v3 * ((10 : Int32) - v2)) (v4 + (1 : Int32)))))
noncomputable def mX3_weightOf (s_t_papers : Int32 × Int32 × Int32) (v1 : Int32) (v2 : Int32) : Option (Int32) := mX3_weightOf_b5 s_t_papers v1 v2 FU (1 : Int32) (1 : Int32)
set_option maxHeartbeats 4000000 in
set_option maxRecDepth 100000 in
theorem okX3_weightOf {l : Launch} {dC : Nat → ClassId} {dI : Nat → Nat → Nat} {cI cC cZ : ClassId} (a_t a_t_papers a_t_now a_t_trial a_t_firstSlot a_t_secondSlot a_t_acts a_t_seen a_t_text a_t_doings a_t_papers_cells : Nat) (s_t : Int32 × Int64) (s_t_papers : Int32 × Int32 × Int32) (v1 : Int32) (v2 : Int32) (res : Int32) (hM : mX3_weightOf s_t_papers v1 v2 = some res) : Rd l yX3_weightOf cX3_weightOf 5 (some .int) 1 21 (dC, dI) cI cC cZ [(a_t, .inr (3, [.ref a_t_papers, .ref a_t_now, .ref a_t_trial, .ref a_t_firstSlot, .ref a_t_secondSlot, .ref a_t_acts, .ref a_t_seen, .ref a_t_text, .ref a_t_doings, .int s_t.1, .long s_t.2])), (a_t_papers, .inr (1, [.int s_t_papers.1, .int s_t_papers.2.1, .ref a_t_papers_cells, .int s_t_papers.2.2]))] [.ref a_t, .int v1, .int v2] (some (.int res)) := by
  refine Rd.ofI (by decide) (Nat.le_of_ble_eq_true rfl) [(0, .ref a_t), (1, .int v1), (2, .int v2)] rfl ?_
  intro p e s m args below meth c ls Q hx hb hml hown hU hE hP rt hl
  have hown : s.vm.findClass RX3 = some m.cls := hown
  unfold mX3_weightOf at hM
  refine lv_iconst (v := (1 : Int32)) hx hb dX3_weightOf_0 (by decide) ?_
  refine lv_istore_n (lv' := [(3, .int (1 : Int32)), (0, .ref a_t), (1, .int v1), (2, .int v2)]) hx hb dX3_weightOf_1 rfl hl (by decide) rfl (fun ls hl => ?_)
  refine lv_iconst (v := (1 : Int32)) hx hb dX3_weightOf_2 (by decide) ?_
  refine lv_istore (lv' := [(4, .int (1 : Int32)), (3, .int (1 : Int32)), (0, .ref a_t), (1, .int v1), (2, .int v2)]) hx hb dX3_weightOf_3 hl (by decide) rfl (fun ls hl => ?_)
  have w_5 : ∀ (n : Nat) (v3_5 : Int32) (v4_5 : Int32), mX3_weightOf_b5 s_t_papers v1 v2 n v3_5 v4_5 = some res → ∀ (ls : Array Slot), lv_has ls 5 [(0, .ref a_t), (1, .int v1), (2, .int v2), (3, .int v3_5), (4, .int v4_5)] → W p l e (RM 1 21) s m args below meth c s.heap [] 0 0 Q (F0 m 5 ls []) := by
    intro n
    induction n with
    | zero =>
      intro v3_5 v4_5 hM
      rw [mX3_weightOf_b5] at hM
      cases hM
    | succ n_5 ih_5 =>
      intro v3_5 v4_5 hM ls hl
      rw [mX3_weightOf_b5] at hM
      refine lv_iload hx hb dX3_weightOf_5 (lv_at hl 4 rfl) ?_
      refine lv_aload_n hx hb dX3_weightOf_7 rfl (lv_at hl 0 rfl) ?_
      refine va_get (D := (dC, dI)) (ci := 3) (v := .ref a_t_papers) (C := RX3) (T := TX3) (N := 11) hx hb hU inlX3 hown hE.1 hP 0 rfl rfl 0 (by decide) (hU _ u_1_16) (fun _ h9 => h9) rfl dX3_weightOf_8 ?_
      refine va_get (D := (dC, dI)) (ci := 1) (v := .int s_t_papers.2.2) (C := RX1) (T := TX1) (N := 4) hx hb hU inlX1 hown hE.1 hP 1 rfl rfl 3 (by decide) (hU _ u_10_16) (fun _ h9 => h9) rfl dX3_weightOf_11 ?_
      refine lv_icmp_ge (tgt := 44) hx hb dX3_weightOf_14 (by decide) (fun c14 => ?_) (fun c14 => ?_)
      · have hM := ite_t c14 hM
        refine lv_iload_n hx hb dX3_weightOf_44 rfl (lv_at hl 3 rfl) ?_
        cases hM
        exact rt _ _ _ dX3_weightOf_45 rfl
      · have hM := ite_f c14 hM
        refine lv_iload_n hx hb dX3_weightOf_17 rfl (lv_at hl 3 rfl) ?_
        refine lv_iload_n hx hb dX3_weightOf_18 rfl (lv_at hl 1 rfl) ?_
        refine lv_iload hx hb dX3_weightOf_19 (lv_at hl 4 rfl) ?_
        obtain ⟨x21, h21, hM⟩ := bind_e hM
        refine rdS (As := [.int v1, .int v4_5]) (rest := [.int v3_5]) (st2 := [.int x21, .int v3_5]) ⟨hx, hb, hml, hown, hU⟩ hE (okX3_bit v1 v4_5 x21 h21) lk_X3_121 (hP.sub [] rfl) rfl hl.1 rfl (Nat.le_of_ble_eq_true rfl) ⟨Nat.le_of_ble_eq_true rfl, Nat.le_of_ble_eq_true rfl⟩ dX3_weightOf_21 ⟨Nat.le_refl _, Nat.le_refl _⟩ rfl ?_
        refine lv_iconst (v := (1 : Int32)) hx hb dX3_weightOf_24 (by decide) ?_
        refine lv_icmp_ne (tgt := 32) hx hb dX3_weightOf_25 (by decide) (fun c25 => ?_) (fun c25 => ?_)
        · have hM := ite_f c25 hM
          refine lv_bipush (v := (10 : Int32)) hx hb dX3_weightOf_32 (by decide) ?_
          refine lv_iload_n hx hb dX3_weightOf_34 rfl (lv_at hl 2 rfl) ?_
          refine lv_isub hx hb dX3_weightOf_35 ?_
          refine lv_imul hx hb dX3_weightOf_36 ?_
          refine lv_istore_n (lv' := [(3, .int (v3_5 * ((10 : Int32) - v2))), (0, .ref a_t), (1, .int v1), (2, .int v2), (4, .int v4_5)]) hx hb dX3_weightOf_37 rfl hl (by decide) rfl (fun ls hl => ?_)
          refine lv_iinc (v := (v4_5 + (1 : Int32))) (lv' := [(4, .int (v4_5 + (1 : Int32))), (3, .int (v3_5 * ((10 : Int32) - v2))), (0, .ref a_t), (1, .int v1), (2, .int v2)]) hx hb dX3_weightOf_38 hl (k := 4) rfl rfl (by decide) rfl (fun ls hl => ?_)
          refine lv_goto (tgt := 5) hx hb dX3_weightOf_41 (by decide) ?_
          exact ih_5 (v3_5 * ((10 : Int32) - v2)) (v4_5 + (1 : Int32)) hM ls (lv_sub hl [2, 3, 4, 1, 0] rfl)
        · have hM := ite_t c25 hM
          refine lv_iload_n hx hb dX3_weightOf_28 rfl (lv_at hl 2 rfl) ?_
          refine lv_goto (tgt := 36) hx hb dX3_weightOf_29 (by decide) ?_
          refine lv_imul hx hb dX3_weightOf_36 ?_
          refine lv_istore_n (lv' := [(3, .int (v3_5 * v2)), (0, .ref a_t), (1, .int v1), (2, .int v2), (4, .int v4_5)]) hx hb dX3_weightOf_37 rfl hl (by decide) rfl (fun ls hl => ?_)
          refine lv_iinc (v := (v4_5 + (1 : Int32))) (lv' := [(4, .int (v4_5 + (1 : Int32))), (3, .int (v3_5 * v2)), (0, .ref a_t), (1, .int v1), (2, .int v2)]) hx hb dX3_weightOf_38 hl (k := 4) rfl rfl (by decide) rfl (fun ls hl => ?_)
          refine lv_goto (tgt := 5) hx hb dX3_weightOf_41 (by decide) ?_
          exact ih_5 (v3_5 * v2) (v4_5 + (1 : Int32)) hM ls (lv_sub hl [2, 3, 4, 1, 0] rfl)
  exact w_5 FU (1 : Int32) (1 : Int32) hM ls (lv_sub hl [2, 3, 4, 1, 0] rfl)
noncomputable def mX3_chance_b32 (s_t_papers : Int32 × Int32 × Int32) (s_t_now : Int32 × Int32 × Int32) (s_t_papers_cells : Ar) (s_t_now_grants : Int32 × Int32 × Int32) (s_t_now_grants_cells : Ar) (s_t_now_routes : Int32 × Int32 × Int32) (s_t_now_routes_cells : Ar) (v1 : Int32) (v2 : Int32) (v3 : Bool) : Nat → Int32 → Int32 → Int32 → Option (Int32)
  | 0, _, _, _ => none
  | n + 1, v4, v5, v6 => (if ((1 : Int32) <<< ((s_t_papers.2.2 - (1 : Int32)) &&& 31)) ≤ v6 then (mX3_fraction v4 v5 v3).bind (fun x123 => some (x123)) else (mX3_weightOf s_t_papers (v6 <<< ((1 : Int32) &&& 31)) v2).bind (fun x58 => (mX0_standing s_t_now s_t_papers s_t_papers_cells (v6 <<< ((1 : Int32) &&& 31))).bind (fun x78 => (mX0_counting s_t_now s_t_now_grants s_t_now_grants_cells s_t_papers s_t_papers_cells x78).bind (fun x81 => (mX0_routesThatAre s_t_now_routes s_t_now_routes_cells s_t_now_grants s_t_now_grants_cells (2 : Int32) x81).bind (fun x84 => (mJ6_bitCount_0f7a4 x84).bind (fun x98 => (if x98 < v1 then mX3_chance_b32 s_t_papers s_t_now s_t_papers_cells s_t_now_grants s_t_now_grants_cells s_t_now_routes s_t_now_routes_cells v1 v2 v3 n v4 (v5 + x58) (v6 + (1 : Int32)) else mX3_chance_b32 s_t_papers s_t_now s_t_papers_cells s_t_now_grants s_t_now_grants_cells s_t_now_routes s_t_now_routes_cells v1 v2 v3 n (v4 + x58) (v5 + x58) (v6 + (1 : Int32)))))))))
noncomputable def mX3_chance (s_t_papers : Int32 × Int32 × Int32) (s_t_now : Int32 × Int32 × Int32) (s_t_papers_cells : Ar) (s_t_now_grants : Int32 × Int32 × Int32) (s_t_now_grants_cells : Ar) (s_t_now_routes : Int32 × Int32 × Int32) (s_t_now_routes_cells : Ar) (v1 : Int32) (v2 : Int32) (v3 : Bool) : Option (Int32) := (if v1 < 0 then some ((-2 : Int32)) else (if (6 : Int32) < v1 then some ((-2 : Int32)) else (if v2 < 0 then some ((-2 : Int32)) else (if v2 ≤ (10 : Int32) then mX3_chance_b32 s_t_papers s_t_now s_t_papers_cells s_t_now_grants s_t_now_grants_cells s_t_now_routes s_t_now_routes_cells v1 v2 v3 FU (0 : Int32) (0 : Int32) (0 : Int32) else some ((-2 : Int32))))))
set_option maxHeartbeats 4000000 in
set_option maxRecDepth 100000 in
theorem okX3_chance {l : Launch} {dC : Nat → ClassId} {dI : Nat → Nat → Nat} {cI cC cZ : ClassId} (a_t a_t_papers a_t_now a_t_trial a_t_firstSlot a_t_secondSlot a_t_acts a_t_seen a_t_text a_t_doings a_t_papers_cells a_t_now_grants a_t_now_routes a_t_now_grants_cells a_t_now_routes_cells : Nat) (s_t : Int32 × Int64) (s_t_papers : Int32 × Int32 × Int32) (s_t_now : Int32 × Int32 × Int32) (s_t_papers_cells : Ar) (s_t_now_grants : Int32 × Int32 × Int32) (s_t_now_grants_cells : Ar) (s_t_now_routes : Int32 × Int32 × Int32) (s_t_now_routes_cells : Ar) (v1 : Int32) (v2 : Int32) (v3 : Bool) (res : Int32) (hM : mX3_chance s_t_papers s_t_now s_t_papers_cells s_t_now_grants s_t_now_grants_cells s_t_now_routes s_t_now_routes_cells v1 v2 v3 = some res) : Rd l yX3_chance cX3_chance 10 (some .int) 3 73 (dC, dI) cI cC cZ [(a_t, .inr (3, [.ref a_t_papers, .ref a_t_now, .ref a_t_trial, .ref a_t_firstSlot, .ref a_t_secondSlot, .ref a_t_acts, .ref a_t_seen, .ref a_t_text, .ref a_t_doings, .int s_t.1, .long s_t.2])), (a_t_papers, .inr (1, [.int s_t_papers.1, .int s_t_papers.2.1, .ref a_t_papers_cells, .int s_t_papers.2.2])), (a_t_now, .inr (0, [.ref a_t_papers, .ref a_t_now_grants, .ref a_t_now_routes, .int s_t_now.1, .int s_t_now.2.1, .int s_t_now.2.2])), (a_t_papers_cells, .inl (cI, s_t_papers_cells.1, .inl s_t_papers_cells.2)), (a_t_now_grants, .inr (1, [.int s_t_now_grants.1, .int s_t_now_grants.2.1, .ref a_t_now_grants_cells, .int s_t_now_grants.2.2])), (a_t_now_grants_cells, .inl (cI, s_t_now_grants_cells.1, .inl s_t_now_grants_cells.2)), (a_t_now_routes, .inr (1, [.int s_t_now_routes.1, .int s_t_now_routes.2.1, .ref a_t_now_routes_cells, .int s_t_now_routes.2.2])), (a_t_now_routes_cells, .inl (cI, s_t_now_routes_cells.1, .inl s_t_now_routes_cells.2))] [.ref a_t, .int v1, .int v2, .int (b2i v3)] (some (.int res)) := by
  refine Rd.ofI (by decide) (Nat.le_of_ble_eq_true rfl) [(0, .ref a_t), (1, .int v1), (2, .int v2), (3, .int (b2i v3))] rfl ?_
  intro p e s m args below meth c ls Q hx hb hml hown hU hE hP rt hl
  have hown : s.vm.findClass RX3 = some m.cls := hown
  unfold mX3_chance at hM
  refine lv_iload_n hx hb dX3_chance_0 rfl (lv_at hl 1 rfl) ?_
  refine lv_if_lt (tgt := 20) hx hb dX3_chance_1 (by decide) (fun c1 => ?_) (fun c1 => ?_)
  · have hM := ite_t c1 hM
    refine lv_bipush (v := (-2 : Int32)) hx hb dX3_chance_20 (by decide) ?_
    cases hM
    exact rt _ _ _ dX3_chance_22 rfl
  · have hM := ite_f c1 hM
    refine lv_iload_n hx hb dX3_chance_4 rfl (lv_at hl 1 rfl) ?_
    refine lv_bipush (v := (6 : Int32)) hx hb dX3_chance_5 (by decide) ?_
    refine lv_icmp_gt (tgt := 20) hx hb dX3_chance_7 (by decide) (fun c7 => ?_) (fun c7 => ?_)
    · have hM := ite_t c7 hM
      refine lv_bipush (v := (-2 : Int32)) hx hb dX3_chance_20 (by decide) ?_
      cases hM
      exact rt _ _ _ dX3_chance_22 rfl
    · have hM := ite_f c7 hM
      refine lv_iload_n hx hb dX3_chance_10 rfl (lv_at hl 2 rfl) ?_
      refine lv_if_lt (tgt := 20) hx hb dX3_chance_11 (by decide) (fun c11 => ?_) (fun c11 => ?_)
      · have hM := ite_t c11 hM
        refine lv_bipush (v := (-2 : Int32)) hx hb dX3_chance_20 (by decide) ?_
        cases hM
        exact rt _ _ _ dX3_chance_22 rfl
      · have hM := ite_f c11 hM
        refine lv_iload_n hx hb dX3_chance_14 rfl (lv_at hl 2 rfl) ?_
        refine lv_bipush (v := (10 : Int32)) hx hb dX3_chance_15 (by decide) ?_
        refine lv_icmp_le (tgt := 23) hx hb dX3_chance_17 (by decide) (fun c17 => ?_) (fun c17 => ?_)
        · have hM := ite_t c17 hM
          refine lv_iconst (v := (0 : Int32)) hx hb dX3_chance_23 (by decide) ?_
          refine lv_istore (lv' := [(4, .int (0 : Int32)), (0, .ref a_t), (1, .int v1), (2, .int v2), (3, .int (b2i v3))]) hx hb dX3_chance_24 hl (by decide) rfl (fun ls hl => ?_)
          refine lv_iconst (v := (0 : Int32)) hx hb dX3_chance_26 (by decide) ?_
          refine lv_istore (lv' := [(5, .int (0 : Int32)), (4, .int (0 : Int32)), (0, .ref a_t), (1, .int v1), (2, .int v2), (3, .int (b2i v3))]) hx hb dX3_chance_27 hl (by decide) rfl (fun ls hl => ?_)
          refine lv_iconst (v := (0 : Int32)) hx hb dX3_chance_29 (by decide) ?_
          refine lv_istore (lv' := [(6, .int (0 : Int32)), (5, .int (0 : Int32)), (4, .int (0 : Int32)), (0, .ref a_t), (1, .int v1), (2, .int v2), (3, .int (b2i v3))]) hx hb dX3_chance_30 hl (by decide) rfl (fun ls hl => ?_)
          have w_32 : ∀ (n : Nat) (v4_32 : Int32) (v5_32 : Int32) (v6_32 : Int32), mX3_chance_b32 s_t_papers s_t_now s_t_papers_cells s_t_now_grants s_t_now_grants_cells s_t_now_routes s_t_now_routes_cells v1 v2 v3 n v4_32 v5_32 v6_32 = some res → ∀ (ls : Array Slot), lv_has ls 10 [(0, .ref a_t), (1, .int v1), (2, .int v2), (3, .int (b2i v3)), (4, .int v4_32), (5, .int v5_32), (6, .int v6_32)] → W p l e (RM 3 73) s m args below meth c s.heap [] 0 0 Q (F0 m 32 ls []) := by
            intro n
            induction n with
            | zero =>
              intro v4_32 v5_32 v6_32 hM
              rw [mX3_chance_b32] at hM
              cases hM
            | succ n_32 ih_32 =>
              intro v4_32 v5_32 v6_32 hM ls hl
              rw [mX3_chance_b32] at hM
              refine lv_iload hx hb dX3_chance_32 (lv_at hl 6 rfl) ?_
              refine lv_iconst (v := (1 : Int32)) hx hb dX3_chance_34 (by decide) ?_
              refine lv_aload_n hx hb dX3_chance_35 rfl (lv_at hl 0 rfl) ?_
              refine va_get (D := (dC, dI)) (ci := 3) (v := .ref a_t_papers) (C := RX3) (T := TX3) (N := 11) hx hb hU inlX3 hown hE.1 hP 0 rfl rfl 0 (by decide) (hU _ u_1_16) (fun _ h9 => h9) rfl dX3_chance_36 ?_
              refine va_get (D := (dC, dI)) (ci := 1) (v := .int s_t_papers.2.2) (C := RX1) (T := TX1) (N := 4) hx hb hU inlX1 hown hE.1 hP 1 rfl rfl 3 (by decide) (hU _ u_10_16) (fun _ h9 => h9) rfl dX3_chance_39 ?_
              refine lv_iconst (v := (1 : Int32)) hx hb dX3_chance_42 (by decide) ?_
              refine lv_isub hx hb dX3_chance_43 ?_
              refine lv_ishl hx hb dX3_chance_44 ?_
              refine lv_icmp_ge (tgt := 118) hx hb dX3_chance_45 (by decide) (fun c45 => ?_) (fun c45 => ?_)
              · have hM := ite_t c45 hM
                refine lv_iload hx hb dX3_chance_118 (lv_at hl 4 rfl) ?_
                refine lv_iload hx hb dX3_chance_120 (lv_at hl 5 rfl) ?_
                refine lv_iload_n hx hb dX3_chance_122 rfl (lv_at hl 3 rfl) ?_
                obtain ⟨x123, h123, hM⟩ := bind_e hM
                refine rdS (As := [.int v4_32, .int v5_32, .int (b2i v3)]) (rest := []) (st2 := [.int x123]) ⟨hx, hb, hml, hown, hU⟩ hE (okX3_fraction v4_32 v5_32 v3 x123 h123) lk_X3_195 (hP.sub [] rfl) rfl hl.1 rfl (Nat.le_of_ble_eq_true rfl) ⟨Nat.le_of_ble_eq_true rfl, Nat.le_of_ble_eq_true rfl⟩ dX3_chance_123 ⟨Nat.le_refl _, Nat.le_refl _⟩ rfl ?_
                cases hM
                exact rt _ _ _ dX3_chance_126 rfl
              · have hM := ite_f c45 hM
                refine lv_iload hx hb dX3_chance_48 (lv_at hl 6 rfl) ?_
                refine lv_iconst (v := (1 : Int32)) hx hb dX3_chance_50 (by decide) ?_
                refine lv_ishl hx hb dX3_chance_51 ?_
                refine lv_istore (lv' := [(7, .int (v6_32 <<< ((1 : Int32) &&& 31))), (0, .ref a_t), (1, .int v1), (2, .int v2), (3, .int (b2i v3)), (4, .int v4_32), (5, .int v5_32), (6, .int v6_32)]) hx hb dX3_chance_52 hl (by decide) rfl (fun ls hl => ?_)
                refine lv_aload_n hx hb dX3_chance_54 rfl (lv_at hl 1 rfl) ?_
                refine lv_iload hx hb dX3_chance_55 (lv_at hl 0 rfl) ?_
                refine lv_iload_n hx hb dX3_chance_57 rfl (lv_at hl 3 rfl) ?_
                obtain ⟨x58, h58, hM⟩ := bind_e hM
                refine rdV (As := [.int (v6_32 <<< ((1 : Int32) &&& 31)), .int v2]) (rest := []) (st2 := [.int x58]) ⟨hx, hb, hml, hown, hU⟩ hE (okX3_weightOf a_t a_t_papers a_t_now a_t_trial a_t_firstSlot a_t_secondSlot a_t_acts a_t_seen a_t_text a_t_doings a_t_papers_cells s_t s_t_papers (v6_32 <<< ((1 : Int32) &&& 31)) v2 x58 h58) lk_X3_199 (hP.sub [0, 1] rfl) rfl rfl rfl hl.1 rfl (Nat.le_of_ble_eq_true rfl) ⟨Nat.le_of_ble_eq_true rfl, Nat.le_of_ble_eq_true rfl⟩ dX3_chance_58 ⟨Nat.le_refl _, Nat.le_refl _⟩ rfl ?_
                refine lv_istore (lv' := [(8, .int x58), (7, .int (v6_32 <<< ((1 : Int32) &&& 31))), (0, .ref a_t), (1, .int v1), (2, .int v2), (3, .int (b2i v3)), (4, .int v4_32), (5, .int v5_32), (6, .int v6_32)]) hx hb dX3_chance_61 hl (by decide) rfl (fun ls hl => ?_)
                refine lv_aload_n hx hb dX3_chance_63 rfl (lv_at hl 2 rfl) ?_
                refine va_get (D := (dC, dI)) (ci := 3) (v := .ref a_t_now) (C := RX3) (T := TX3) (N := 11) hx hb hU inlX3 hown hE.1 hP 0 rfl rfl 1 (by decide) (hU _ u_1_20) (fun _ h9 => h9) rfl dX3_chance_64 ?_
                refine lv_iconst (v := (2 : Int32)) hx hb dX3_chance_67 (by decide) ?_
                refine lv_aload_n hx hb dX3_chance_68 rfl (lv_at hl 2 rfl) ?_
                refine va_get (D := (dC, dI)) (ci := 3) (v := .ref a_t_now) (C := RX3) (T := TX3) (N := 11) hx hb hU inlX3 hown hE.1 hP 0 rfl rfl 1 (by decide) (hU _ u_1_20) (fun _ h9 => h9) rfl dX3_chance_69 ?_
                refine lv_aload_n hx hb dX3_chance_72 rfl (lv_at hl 2 rfl) ?_
                refine va_get (D := (dC, dI)) (ci := 3) (v := .ref a_t_now) (C := RX3) (T := TX3) (N := 11) hx hb hU inlX3 hown hE.1 hP 0 rfl rfl 1 (by decide) (hU _ u_1_20) (fun _ h9 => h9) rfl dX3_chance_73 ?_
                refine lv_iload hx hb dX3_chance_76 (lv_at hl 1 rfl) ?_
                obtain ⟨x78, h78, hM⟩ := bind_e hM
                refine rdV (As := [.int (v6_32 <<< ((1 : Int32) &&& 31))]) (rest := [.ref a_t_now, .int (2 : Int32), .ref a_t_now]) (st2 := [.int x78, .ref a_t_now, .int (2 : Int32), .ref a_t_now]) ⟨hx, hb, hml, hown, hU⟩ hE (okX0_standing a_t_now a_t_papers a_t_now_grants a_t_now_routes a_t_papers_cells s_t_now s_t_papers s_t_papers_cells (v6_32 <<< ((1 : Int32) &&& 31)) x78 h78) lk_X3_97 (hP.sub [2, 1, 3] rfl) rfl rfl rfl hl.1 rfl (Nat.le_of_ble_eq_true rfl) ⟨Nat.le_of_ble_eq_true rfl, Nat.le_of_ble_eq_true rfl⟩ dX3_chance_78 ⟨Nat.le_refl _, Nat.le_refl _⟩ rfl ?_
                obtain ⟨x81, h81, hM⟩ := bind_e hM
                refine rdV (As := [.int x78]) (rest := [.int (2 : Int32), .ref a_t_now]) (st2 := [.int x81, .int (2 : Int32), .ref a_t_now]) ⟨hx, hb, hml, hown, hU⟩ hE (okX0_counting a_t_now a_t_papers a_t_now_grants a_t_now_routes a_t_now_grants_cells a_t_papers_cells s_t_now s_t_now_grants s_t_now_grants_cells s_t_papers s_t_papers_cells x78 x81 h81) lk_X3_169 (hP.sub [2, 4, 5, 1, 3] rfl) rfl rfl rfl hl.1 rfl (Nat.le_of_ble_eq_true rfl) ⟨Nat.le_of_ble_eq_true rfl, Nat.le_of_ble_eq_true rfl⟩ dX3_chance_81 ⟨Nat.le_refl _, Nat.le_refl _⟩ rfl ?_
                obtain ⟨x84, h84, hM⟩ := bind_e hM
                refine rdV (As := [.int (2 : Int32), .int x81]) (rest := []) (st2 := [.int x84]) ⟨hx, hb, hml, hown, hU⟩ hE (okX0_routesThatAre a_t_now a_t_papers a_t_now_grants a_t_now_routes a_t_now_routes_cells a_t_now_grants_cells s_t_now s_t_now_routes s_t_now_routes_cells s_t_now_grants s_t_now_grants_cells (2 : Int32) x81 x84 h84) lk_X3_107 (hP.sub [2, 6, 7, 4, 5] rfl) rfl rfl rfl hl.1 rfl (Nat.le_of_ble_eq_true rfl) ⟨Nat.le_of_ble_eq_true rfl, Nat.le_of_ble_eq_true rfl⟩ dX3_chance_84 ⟨Nat.le_refl _, Nat.le_refl _⟩ rfl ?_
                refine lv_istore (lv' := [(9, .int x84), (8, .int x58), (7, .int (v6_32 <<< ((1 : Int32) &&& 31))), (0, .ref a_t), (1, .int v1), (2, .int v2), (3, .int (b2i v3)), (4, .int v4_32), (5, .int v5_32), (6, .int v6_32)]) hx hb dX3_chance_87 hl (by decide) rfl (fun ls hl => ?_)
                refine lv_iload hx hb dX3_chance_89 (lv_at hl 8 rfl) ?_
                refine lv_iload hx hb dX3_chance_91 (lv_at hl 1 rfl) ?_
                refine lv_iadd hx hb dX3_chance_93 ?_
                refine lv_istore (lv' := [(5, .int (v5_32 + x58)), (9, .int x84), (8, .int x58), (7, .int (v6_32 <<< ((1 : Int32) &&& 31))), (0, .ref a_t), (1, .int v1), (2, .int v2), (3, .int (b2i v3)), (4, .int v4_32), (6, .int v6_32)]) hx hb dX3_chance_94 hl (by decide) rfl (fun ls hl => ?_)
                refine lv_iload hx hb dX3_chance_96 (lv_at hl 1 rfl) ?_
                obtain ⟨x98, h98, hM⟩ := bind_e hM
                refine rdS (As := [.int x84]) (rest := []) (st2 := [.int x98]) ⟨hx, hb, hml, hown, hU⟩ hE (okJ6_bitCount_0f7a4 x84 x98 h98) lk_X3_190 (hP.sub [] rfl) rfl hl.1 rfl (Nat.le_of_ble_eq_true rfl) ⟨Nat.le_of_ble_eq_true rfl, Nat.le_of_ble_eq_true rfl⟩ dX3_chance_98 ⟨Nat.le_refl _, Nat.le_refl _⟩ rfl ?_
                refine lv_iload_n hx hb dX3_chance_101 rfl (lv_at hl 5 rfl) ?_
                refine lv_icmp_lt (tgt := 112) hx hb dX3_chance_102 (by decide) (fun c102 => ?_) (fun c102 => ?_)
                · have hM := ite_t c102 hM
                  refine lv_iinc (v := (v6_32 + (1 : Int32))) (lv' := [(6, .int (v6_32 + (1 : Int32))), (5, .int (v5_32 + x58)), (9, .int x84), (8, .int x58), (7, .int (v6_32 <<< ((1 : Int32) &&& 31))), (0, .ref a_t), (1, .int v1), (2, .int v2), (3, .int (b2i v3)), (4, .int v4_32)]) hx hb dX3_chance_112 hl (k := 9) rfl rfl (by decide) rfl (fun ls hl => ?_)
                  refine lv_goto (tgt := 32) hx hb dX3_chance_115 (by decide) ?_
                  exact ih_32 v4_32 (v5_32 + x58) (v6_32 + (1 : Int32)) hM ls (lv_sub hl [5, 6, 7, 8, 9, 1, 0] rfl)
                · have hM := ite_f c102 hM
                  refine lv_iload hx hb dX3_chance_105 (lv_at hl 8 rfl) ?_
                  refine lv_iload hx hb dX3_chance_107 (lv_at hl 2 rfl) ?_
                  refine lv_iadd hx hb dX3_chance_109 ?_
                  refine lv_istore (lv' := [(4, .int (v4_32 + x58)), (5, .int (v5_32 + x58)), (9, .int x84), (8, .int x58), (7, .int (v6_32 <<< ((1 : Int32) &&& 31))), (0, .ref a_t), (1, .int v1), (2, .int v2), (3, .int (b2i v3)), (6, .int v6_32)]) hx hb dX3_chance_110 hl (by decide) rfl (fun ls hl => ?_)
                  refine lv_iinc (v := (v6_32 + (1 : Int32))) (lv' := [(6, .int (v6_32 + (1 : Int32))), (4, .int (v4_32 + x58)), (5, .int (v5_32 + x58)), (9, .int x84), (8, .int x58), (7, .int (v6_32 <<< ((1 : Int32) &&& 31))), (0, .ref a_t), (1, .int v1), (2, .int v2), (3, .int (b2i v3))]) hx hb dX3_chance_112 hl (k := 9) rfl rfl (by decide) rfl (fun ls hl => ?_)
                  refine lv_goto (tgt := 32) hx hb dX3_chance_115 (by decide) ?_
                  exact ih_32 (v4_32 + x58) (v5_32 + x58) (v6_32 + (1 : Int32)) hM ls (lv_sub hl [6, 7, 8, 9, 1, 2, 0] rfl)
          exact w_32 FU (0 : Int32) (0 : Int32) (0 : Int32) hM ls (lv_sub hl [3, 4, 5, 6, 2, 1, 0] rfl)
        · have hM := ite_f c17 hM
          refine lv_bipush (v := (-2 : Int32)) hx hb dX3_chance_20 (by decide) ?_
          cases hM
          exact rt _ _ _ dX3_chance_22 rfl
noncomputable def mX3_drawn_b27 (s_t_now : Int32 × Int32 × Int32) (s_t_papers : Int32 × Int32 × Int32) (s_t_papers_cells : Ar) (s_t_now_grants : Int32 × Int32 × Int32) (s_t_now_grants_cells : Ar) (v1 : Int32) (v2 : Int32) : Nat → Int32 → Int32 → Int32 × Int64 → Option (Int32 × (Int32 × Int64))
  | 0, _, _, _ => none
  | n + 1, v3, v4, s_t => (if v1 ≤ v4 then some (v3, s_t) else bnd ((s_t.2 * (6364136223846793005 : Int64)) + (1442695040888963407 : Int64)) (fun z46 => bnd (((z46.toUInt64 >>> ((33 : Int32).toInt64.toUInt64 &&& Int64.toUInt64 63)).toInt64).toInt32) (fun z57 => bnd ((z57 / (6 : Int32)) - (z57 / (6 : Int32)) / (32 : Int32) * (32 : Int32)) (fun z74 => (mX3_leftBySize z74 (z57 - z57 / (6 : Int32) * (6 : Int32))).bind (fun x82 => (mX3_coverOf (z74 - x82) (z57 - z57 / (6 : Int32) * (6 : Int32))).bind (fun x97 => (mX0_stateOf s_t_now_grants s_t_now_grants_cells x97 (z57 - z57 / (6 : Int32) * (6 : Int32)) ((z57 / (192 : Int32)) - (z57 / (192 : Int32)) / (6 : Int32) * (6 : Int32)) v2).bind (fun x112 => mX3_drawn_b27 s_t_now s_t_papers s_t_papers_cells s_t_now_grants s_t_now_grants_cells v1 v2 n (v3 + x112) (v4 + (1 : Int32)) (s_t.1, z46))))))))
noncomputable def mX3_drawn (s_t : Int32 × Int64) (s_t_now : Int32 × Int32 × Int32) (s_t_papers : Int32 × Int32 × Int32) (s_t_papers_cells : Ar) (s_t_now_grants : Int32 × Int32 × Int32) (s_t_now_grants_cells : Ar) (v1 : Int32) : Option (Int32 × (Int32 × Int64)) := (if v1 < (1 : Int32) then some ((-2 : Int32), s_t) else (if v1 ≤ (40 : Int32) then (mX0_countingNow s_t_now s_t_papers s_t_papers_cells s_t_now_grants s_t_now_grants_cells).bind (fun x18 => mX3_drawn_b27 s_t_now s_t_papers s_t_papers_cells s_t_now_grants s_t_now_grants_cells v1 x18 FU (0 : Int32) (0 : Int32) s_t) else some ((-2 : Int32), s_t)))
set_option maxHeartbeats 4000000 in
set_option maxRecDepth 100000 in
theorem okX3_drawn {l : Launch} {dC : Nat → ClassId} {dI : Nat → Nat → Nat} {cI cC cZ : ClassId} (a_t a_t_papers a_t_now a_t_trial a_t_firstSlot a_t_secondSlot a_t_acts a_t_seen a_t_text a_t_doings a_t_now_grants a_t_now_routes a_t_papers_cells a_t_now_grants_cells : Nat) (s_t : Int32 × Int64) (s_t_now : Int32 × Int32 × Int32) (s_t_papers : Int32 × Int32 × Int32) (s_t_papers_cells : Ar) (s_t_now_grants : Int32 × Int32 × Int32) (s_t_now_grants_cells : Ar) (v1 : Int32) (res : Int32 × (Int32 × Int64)) (hM : mX3_drawn s_t s_t_now s_t_papers s_t_papers_cells s_t_now_grants s_t_now_grants_cells v1 = some res) : Mu l yX3_drawn cX3_drawn 9 (some .int) 3 66 (dC, dI) cI cC cZ [(a_t, .inr (3, [.ref a_t_papers, .ref a_t_now, .ref a_t_trial, .ref a_t_firstSlot, .ref a_t_secondSlot, .ref a_t_acts, .ref a_t_seen, .ref a_t_text, .ref a_t_doings, .int s_t.1, .long s_t.2])), (a_t_now, .inr (0, [.ref a_t_papers, .ref a_t_now_grants, .ref a_t_now_routes, .int s_t_now.1, .int s_t_now.2.1, .int s_t_now.2.2])), (a_t_papers, .inr (1, [.int s_t_papers.1, .int s_t_papers.2.1, .ref a_t_papers_cells, .int s_t_papers.2.2])), (a_t_papers_cells, .inl (cI, s_t_papers_cells.1, .inl s_t_papers_cells.2)), (a_t_now_grants, .inr (1, [.int s_t_now_grants.1, .int s_t_now_grants.2.1, .ref a_t_now_grants_cells, .int s_t_now_grants.2.2])), (a_t_now_grants_cells, .inl (cI, s_t_now_grants_cells.1, .inl s_t_now_grants_cells.2))] [(a_t, .inr (3, [.ref a_t_papers, .ref a_t_now, .ref a_t_trial, .ref a_t_firstSlot, .ref a_t_secondSlot, .ref a_t_acts, .ref a_t_seen, .ref a_t_text, .ref a_t_doings, .int res.2.1, .long res.2.2])), (a_t_now, .inr (0, [.ref a_t_papers, .ref a_t_now_grants, .ref a_t_now_routes, .int s_t_now.1, .int s_t_now.2.1, .int s_t_now.2.2])), (a_t_papers, .inr (1, [.int s_t_papers.1, .int s_t_papers.2.1, .ref a_t_papers_cells, .int s_t_papers.2.2])), (a_t_papers_cells, .inl (cI, s_t_papers_cells.1, .inl s_t_papers_cells.2)), (a_t_now_grants, .inr (1, [.int s_t_now_grants.1, .int s_t_now_grants.2.1, .ref a_t_now_grants_cells, .int s_t_now_grants.2.2])), (a_t_now_grants_cells, .inl (cI, s_t_now_grants_cells.1, .inl s_t_now_grants_cells.2))] [.ref a_t, .int v1] (some (.int res.1)) := by
  refine Mu.ofI (by decide) (Nat.le_of_ble_eq_true rfl) [(0, .ref a_t), (1, .int v1)] rfl ?_
  intro p e s m args below meth c ls Q A hx hb hml hown hU hE hP hD hS hA rt hl
  have hown : s.vm.findClass RX3 = some m.cls := hown
  unfold mX3_drawn at hM
  refine lv_iload_n hx hb dX3_drawn_0 rfl (lv_at hl 1 rfl) ?_
  refine lv_iconst (v := (1 : Int32)) hx hb dX3_drawn_1 (by decide) ?_
  refine lv_icmp_lt (tgt := 11) hx hb dX3_drawn_2 (by decide) (fun c2 => ?_) (fun c2 => ?_)
  · have hM := ite_t c2 hM
    refine lv_bipush (v := (-2 : Int32)) hx hb dX3_drawn_11 (by decide) ?_
    cases hM
    exact rt _ _ _ _ _ hP hS dX3_drawn_13 rfl
  · have hM := ite_f c2 hM
    refine lv_iload_n hx hb dX3_drawn_5 rfl (lv_at hl 1 rfl) ?_
    refine lv_bipush (v := (40 : Int32)) hx hb dX3_drawn_6 (by decide) ?_
    refine lv_icmp_le (tgt := 14) hx hb dX3_drawn_8 (by decide) (fun c8 => ?_) (fun c8 => ?_)
    · have hM := ite_t c8 hM
      refine lv_aload_n hx hb dX3_drawn_14 rfl (lv_at hl 0 rfl) ?_
      refine va_get (D := (dC, dI)) (ci := 3) (v := .ref a_t_now) (C := RX3) (T := TX3) (N := 11) hx hb hU inlX3 hown hE.1 hP 0 rfl rfl 1 (by decide) (hU _ u_1_20) (fun _ h9 => h9) rfl dX3_drawn_15 ?_
      obtain ⟨x18, h18, hM⟩ := bind_e hM
      refine rdV (As := []) (rest := []) (st2 := [.int x18]) ⟨hx, hb, hml, hown, hU⟩ hE (okX0_countingNow a_t_now a_t_papers a_t_now_grants a_t_now_routes a_t_papers_cells a_t_now_grants_cells s_t_now s_t_papers s_t_papers_cells s_t_now_grants s_t_now_grants_cells x18 h18) lk_X3_104 (hP.sub [1, 2, 3, 4, 5] rfl) rfl rfl rfl hl.1 rfl (Nat.le_of_ble_eq_true rfl) ⟨Nat.le_of_ble_eq_true rfl, Nat.le_of_ble_eq_true rfl⟩ dX3_drawn_18 ⟨Nat.le_refl _, Nat.le_refl _⟩ rfl ?_
      refine lv_istore_n (lv' := [(2, .int x18), (0, .ref a_t), (1, .int v1)]) hx hb dX3_drawn_21 rfl hl (by decide) rfl (fun ls hl => ?_)
      refine lv_iconst (v := (0 : Int32)) hx hb dX3_drawn_22 (by decide) ?_
      refine lv_istore_n (lv' := [(3, .int (0 : Int32)), (2, .int x18), (0, .ref a_t), (1, .int v1)]) hx hb dX3_drawn_23 rfl hl (by decide) rfl (fun ls hl => ?_)
      refine lv_iconst (v := (0 : Int32)) hx hb dX3_drawn_24 (by decide) ?_
      refine lv_istore (lv' := [(4, .int (0 : Int32)), (3, .int (0 : Int32)), (2, .int x18), (0, .ref a_t), (1, .int v1)]) hx hb dX3_drawn_25 hl (by decide) rfl (fun ls hl => ?_)
      have w_27 : ∀ (n : Nat) (v3_27 : Int32) (v4_27 : Int32) (s_t_27 : Int32 × Int64), mX3_drawn_b27 s_t_now s_t_papers s_t_papers_cells s_t_now_grants s_t_now_grants_cells v1 x18 n v3_27 v4_27 s_t_27 = some res → ∀ (ls : Array Slot) (H : Heap) (locs : List Loc), va_P (dC, dI) vwCl [(a_t, .inr (3, [.ref a_t_papers, .ref a_t_now, .ref a_t_trial, .ref a_t_firstSlot, .ref a_t_secondSlot, .ref a_t_acts, .ref a_t_seen, .ref a_t_text, .ref a_t_doings, .int s_t_27.1, .long s_t_27.2])), (a_t_now, .inr (0, [.ref a_t_papers, .ref a_t_now_grants, .ref a_t_now_routes, .int s_t_now.1, .int s_t_now.2.1, .int s_t_now.2.2])), (a_t_papers, .inr (1, [.int s_t_papers.1, .int s_t_papers.2.1, .ref a_t_papers_cells, .int s_t_papers.2.2])), (a_t_papers_cells, .inl (cI, s_t_papers_cells.1, .inl s_t_papers_cells.2)), (a_t_now_grants, .inr (1, [.int s_t_now_grants.1, .int s_t_now_grants.2.1, .ref a_t_now_grants_cells, .int s_t_now_grants.2.2])), (a_t_now_grants_cells, .inl (cI, s_t_now_grants_cells.1, .inl s_t_now_grants_cells.2))] H → va_D A [(a_t, .inr (3, [.ref a_t_papers, .ref a_t_now, .ref a_t_trial, .ref a_t_firstSlot, .ref a_t_secondSlot, .ref a_t_acts, .ref a_t_seen, .ref a_t_text, .ref a_t_doings, .int s_t_27.1, .long s_t_27.2])), (a_t_now, .inr (0, [.ref a_t_papers, .ref a_t_now_grants, .ref a_t_now_routes, .int s_t_now.1, .int s_t_now.2.1, .int s_t_now.2.2])), (a_t_papers, .inr (1, [.int s_t_papers.1, .int s_t_papers.2.1, .ref a_t_papers_cells, .int s_t_papers.2.2])), (a_t_papers_cells, .inl (cI, s_t_papers_cells.1, .inl s_t_papers_cells.2)), (a_t_now_grants, .inr (1, [.int s_t_now_grants.1, .int s_t_now_grants.2.1, .ref a_t_now_grants_cells, .int s_t_now_grants.2.2])), (a_t_now_grants_cells, .inl (cI, s_t_now_grants_cells.1, .inl s_t_now_grants_cells.2))] → va_S A s.heap H locs → lv_has ls 9 [(0, .ref a_t), (1, .int v1), (2, .int x18), (3, .int v3_27), (4, .int v4_27)] → W p l e (RM 3 66) s m args below meth c H locs 0 0 Q (F0 m 27 ls []) := by
        intro n
        induction n with
        | zero =>
          intro v3_27 v4_27 s_t_27 hM
          rw [mX3_drawn_b27] at hM
          cases hM
        | succ n_27 ih_27 =>
          intro v3_27 v4_27 s_t_27 hM ls H locs hP hD hS hl
          rw [mX3_drawn_b27] at hM
          refine lv_iload hx hb dX3_drawn_27 (lv_at hl 4 rfl) ?_
          refine lv_iload_n hx hb dX3_drawn_29 rfl (lv_at hl 1 rfl) ?_
          refine lv_icmp_ge (tgt := 123) hx hb dX3_drawn_30 (by decide) (fun c30 => ?_) (fun c30 => ?_)
          · have hM := ite_t c30 hM
            refine lv_iload_n hx hb dX3_drawn_123 rfl (lv_at hl 3 rfl) ?_
            cases hM
            exact rt _ _ _ _ _ hP hS dX3_drawn_124 rfl
          · have hM := ite_f c30 hM
            refine lv_aload_n hx hb dX3_drawn_33 rfl (lv_at hl 0 rfl) ?_
            refine lv_aload_n hx hb dX3_drawn_34 rfl (lv_at hl 0 rfl) ?_
            refine va_get (D := (dC, dI)) (ci := 3) (v := .long s_t_27.2) (C := RX3) (T := TX3) (N := 11) hx hb hU inlX3 hown hE.1 hP 0 rfl rfl 10 (by decide) (hU _ u_30_10) (fun _ h9 => h9) rfl dX3_drawn_35 ?_
            refine lv_ldc2 hx hb hown (hU _ u_30_20) dX3_drawn_38 ?_
            refine lv_lmul hx hb dX3_drawn_41 ?_
            refine lv_ldc2 hx hb hown (hU _ u_30_21) dX3_drawn_42 ?_
            refine lv_ladd hx hb dX3_drawn_45 ?_
            obtain ⟨z46, ez46, hM⟩ := bnd_e hM
            rw [← ez46]
            refine va_put (D := (dC, dI)) (ci := 3) (v := .long z46) (ty := .long) (C := RX3) (T := TX3) (N := 11) hx hb hU inlX3 tyX3 tyX3_ok nmX3 hown hE.1 hP hD hS 0 rfl rfl 10 (by decide) (hU _ u_30_10) (fun _ h9 => h9) rfl (tyX3_ok 10 (by decide)) rfl rfl (Nat.le_of_ble_eq_true rfl) dX3_drawn_46 (fun H locs hP hD hS => ?_)
            have hP : va_P (dC, dI) vwCl [(a_t, .inr (3, [.ref a_t_papers, .ref a_t_now, .ref a_t_trial, .ref a_t_firstSlot, .ref a_t_secondSlot, .ref a_t_acts, .ref a_t_seen, .ref a_t_text, .ref a_t_doings, .int s_t_27.1, .long z46])), (a_t_now, .inr (0, [.ref a_t_papers, .ref a_t_now_grants, .ref a_t_now_routes, .int s_t_now.1, .int s_t_now.2.1, .int s_t_now.2.2])), (a_t_papers, .inr (1, [.int s_t_papers.1, .int s_t_papers.2.1, .ref a_t_papers_cells, .int s_t_papers.2.2])), (a_t_papers_cells, .inl (cI, s_t_papers_cells.1, .inl s_t_papers_cells.2)), (a_t_now_grants, .inr (1, [.int s_t_now_grants.1, .int s_t_now_grants.2.1, .ref a_t_now_grants_cells, .int s_t_now_grants.2.2])), (a_t_now_grants_cells, .inl (cI, s_t_now_grants_cells.1, .inl s_t_now_grants_cells.2))] H := hP
            have hD : va_D A [(a_t, .inr (3, [.ref a_t_papers, .ref a_t_now, .ref a_t_trial, .ref a_t_firstSlot, .ref a_t_secondSlot, .ref a_t_acts, .ref a_t_seen, .ref a_t_text, .ref a_t_doings, .int s_t_27.1, .long z46])), (a_t_now, .inr (0, [.ref a_t_papers, .ref a_t_now_grants, .ref a_t_now_routes, .int s_t_now.1, .int s_t_now.2.1, .int s_t_now.2.2])), (a_t_papers, .inr (1, [.int s_t_papers.1, .int s_t_papers.2.1, .ref a_t_papers_cells, .int s_t_papers.2.2])), (a_t_papers_cells, .inl (cI, s_t_papers_cells.1, .inl s_t_papers_cells.2)), (a_t_now_grants, .inr (1, [.int s_t_now_grants.1, .int s_t_now_grants.2.1, .ref a_t_now_grants_cells, .int s_t_now_grants.2.2])), (a_t_now_grants_cells, .inl (cI, s_t_now_grants_cells.1, .inl s_t_now_grants_cells.2))] := hD
            refine lv_aload_n hx hb dX3_drawn_49 rfl (lv_at hl 0 rfl) ?_
            refine va_get (D := (dC, dI)) (ci := 3) (v := .long z46) (C := RX3) (T := TX3) (N := 11) hx hb hU inlX3 hown hE.1 hP 0 rfl rfl 10 (by decide) (hU _ u_30_10) (fun _ h9 => h9) rfl dX3_drawn_50 ?_
            refine lv_bipush (v := (33 : Int32)) hx hb dX3_drawn_53 (by decide) ?_
            refine lv_lushr (v := (z46.toUInt64 >>> ((33 : Int32).toInt64.toUInt64 &&& Int64.toUInt64 63)).toInt64) hx hb dX3_drawn_55 rfl ?_
            refine lv_l2i (v := (((z46.toUInt64 >>> ((33 : Int32).toInt64.toUInt64 &&& Int64.toUInt64 63)).toInt64).toInt32)) hx hb dX3_drawn_56 rfl ?_
            obtain ⟨z57, ez57, hM⟩ := bnd_e hM
            rw [← ez57]
            refine lv_istore (lv' := [(5, .int z57), (0, .ref a_t), (1, .int v1), (2, .int x18), (3, .int v3_27), (4, .int v4_27)]) hx hb dX3_drawn_57 hl (by decide) rfl (fun ls hl => ?_)
            refine lv_iload hx hb dX3_drawn_59 (lv_at hl 0 rfl) ?_
            refine lv_bipush (v := (6 : Int32)) hx hb dX3_drawn_61 (by decide) ?_
            refine lv_irem hx hb dX3_drawn_63 (by decide) ?_
            refine lv_istore (lv' := [(6, .int (z57 - z57 / (6 : Int32) * (6 : Int32))), (5, .int z57), (0, .ref a_t), (1, .int v1), (2, .int x18), (3, .int v3_27), (4, .int v4_27)]) hx hb dX3_drawn_64 hl (by decide) rfl (fun ls hl => ?_)
            refine lv_iload hx hb dX3_drawn_66 (lv_at hl 1 rfl) ?_
            refine lv_bipush (v := (6 : Int32)) hx hb dX3_drawn_68 (by decide) ?_
            refine lv_idiv hx hb dX3_drawn_70 (by decide) ?_
            refine lv_bipush (v := (32 : Int32)) hx hb dX3_drawn_71 (by decide) ?_
            refine lv_irem hx hb dX3_drawn_73 (by decide) ?_
            obtain ⟨z74, ez74, hM⟩ := bnd_e hM
            rw [← ez74]
            refine lv_istore (lv' := [(7, .int z74), (6, .int (z57 - z57 / (6 : Int32) * (6 : Int32))), (5, .int z57), (0, .ref a_t), (1, .int v1), (2, .int x18), (3, .int v3_27), (4, .int v4_27)]) hx hb dX3_drawn_74 hl (by decide) rfl (fun ls hl => ?_)
            refine lv_iload hx hb dX3_drawn_76 (lv_at hl 0 rfl) ?_
            refine lv_iload hx hb dX3_drawn_78 (lv_at hl 0 rfl) ?_
            refine lv_iload hx hb dX3_drawn_80 (lv_at hl 1 rfl) ?_
            obtain ⟨x82, h82, hM⟩ := bind_e hM
            refine rdS (As := [.int z74, .int (z57 - z57 / (6 : Int32) * (6 : Int32))]) (rest := [.int z74]) (st2 := [.int x82, .int z74]) ⟨hx, hb, hml, hown, hU⟩ hE (okX3_leftBySize z74 (z57 - z57 / (6 : Int32) * (6 : Int32)) x82 h82) lk_X3_166 (hP.sub [] rfl) rfl hl.1 rfl (Nat.le_of_ble_eq_true rfl) ⟨Nat.le_of_ble_eq_true rfl, Nat.le_of_ble_eq_true rfl⟩ dX3_drawn_82 ⟨Nat.le_refl _, Nat.le_refl _⟩ rfl ?_
            refine lv_isub hx hb dX3_drawn_85 ?_
            refine lv_istore (lv' := [(8, .int (z74 - x82)), (7, .int z74), (6, .int (z57 - z57 / (6 : Int32) * (6 : Int32))), (5, .int z57), (0, .ref a_t), (1, .int v1), (2, .int x18), (3, .int v3_27), (4, .int v4_27)]) hx hb dX3_drawn_86 hl (by decide) rfl (fun ls hl => ?_)
            refine lv_iload_n hx hb dX3_drawn_88 rfl (lv_at hl 7 rfl) ?_
            refine lv_aload_n hx hb dX3_drawn_89 rfl (lv_at hl 4 rfl) ?_
            refine va_get (D := (dC, dI)) (ci := 3) (v := .ref a_t_now) (C := RX3) (T := TX3) (N := 11) hx hb hU inlX3 hown hE.1 hP 0 rfl rfl 1 (by decide) (hU _ u_1_20) (fun _ h9 => h9) rfl dX3_drawn_90 ?_
            refine lv_iload hx hb dX3_drawn_93 (lv_at hl 0 rfl) ?_
            refine lv_iload hx hb dX3_drawn_95 (lv_at hl 2 rfl) ?_
            obtain ⟨x97, h97, hM⟩ := bind_e hM
            refine rdS (As := [.int (z74 - x82), .int (z57 - z57 / (6 : Int32) * (6 : Int32))]) (rest := [.ref a_t_now, .int v3_27]) (st2 := [.int x97, .ref a_t_now, .int v3_27]) ⟨hx, hb, hml, hown, hU⟩ hE (okX3_coverOf (z74 - x82) (z57 - z57 / (6 : Int32) * (6 : Int32)) x97 h97) lk_X3_151 (hP.sub [] rfl) rfl hl.1 rfl (Nat.le_of_ble_eq_true rfl) ⟨Nat.le_of_ble_eq_true rfl, Nat.le_of_ble_eq_true rfl⟩ dX3_drawn_97 ⟨Nat.le_refl _, Nat.le_refl _⟩ rfl ?_
            refine lv_iload hx hb dX3_drawn_100 (lv_at hl 2 rfl) ?_
            refine lv_iload hx hb dX3_drawn_102 (lv_at hl 3 rfl) ?_
            refine lv_sipush (v := (192 : Int32)) hx hb dX3_drawn_104 (by decide) ?_
            refine lv_idiv hx hb dX3_drawn_107 (by decide) ?_
            refine lv_bipush (v := (6 : Int32)) hx hb dX3_drawn_108 (by decide) ?_
            refine lv_irem hx hb dX3_drawn_110 (by decide) ?_
            refine lv_iload_n hx hb dX3_drawn_111 rfl (lv_at hl 6 rfl) ?_
            obtain ⟨x112, h112, hM⟩ := bind_e hM
            refine rdV (As := [.int x97, .int (z57 - z57 / (6 : Int32) * (6 : Int32)), .int ((z57 / (192 : Int32)) - (z57 / (192 : Int32)) / (6 : Int32) * (6 : Int32)), .int x18]) (rest := [.int v3_27]) (st2 := [.int x112, .int v3_27]) ⟨hx, hb, hml, hown, hU⟩ hE (okX0_stateOf a_t_now a_t_papers a_t_now_grants a_t_now_routes a_t_now_grants_cells s_t_now s_t_now_grants s_t_now_grants_cells x97 (z57 - z57 / (6 : Int32) * (6 : Int32)) ((z57 / (192 : Int32)) - (z57 / (192 : Int32)) / (6 : Int32) * (6 : Int32)) x18 x112 h112) lk_X3_124 (hP.sub [1, 4, 5] rfl) rfl rfl rfl hl.1 rfl (Nat.le_of_ble_eq_true rfl) ⟨Nat.le_of_ble_eq_true rfl, Nat.le_of_ble_eq_true rfl⟩ dX3_drawn_112 ⟨Nat.le_refl _, Nat.le_refl _⟩ rfl ?_
            refine lv_iadd hx hb dX3_drawn_115 ?_
            refine lv_istore_n (lv' := [(3, .int (v3_27 + x112)), (8, .int (z74 - x82)), (7, .int z74), (6, .int (z57 - z57 / (6 : Int32) * (6 : Int32))), (5, .int z57), (0, .ref a_t), (1, .int v1), (2, .int x18), (4, .int v4_27)]) hx hb dX3_drawn_116 rfl hl (by decide) rfl (fun ls hl => ?_)
            refine lv_iinc (v := (v4_27 + (1 : Int32))) (lv' := [(4, .int (v4_27 + (1 : Int32))), (3, .int (v3_27 + x112)), (8, .int (z74 - x82)), (7, .int z74), (6, .int (z57 - z57 / (6 : Int32) * (6 : Int32))), (5, .int z57), (0, .ref a_t), (1, .int v1), (2, .int x18)]) hx hb dX3_drawn_117 hl (k := 8) rfl rfl (by decide) rfl (fun ls hl => ?_)
            refine lv_goto (tgt := 27) hx hb dX3_drawn_120 (by decide) ?_
            exact ih_27 (v3_27 + x112) (v4_27 + (1 : Int32)) (s_t_27.1, z46) hM ls _ _ hP hD hS (lv_sub hl [6, 7, 8, 1, 0] rfl)
      exact w_27 FU (0 : Int32) (0 : Int32) s_t hM ls _ _ hP hD hS (lv_sub hl [3, 4, 2, 1, 0] rfl)
    · have hM := ite_f c8 hM
      refine lv_bipush (v := (-2 : Int32)) hx hb dX3_drawn_11 (by decide) ?_
      cases hM
      exact rt _ _ _ _ _ hP hS dX3_drawn_13 rfl
noncomputable def mX3_fault (s_t_text : Int32 × Int32 × Int32) (s_t_text_papers : Int32 × Int32 × Int32) (s_t_text_papers_cells : Ar) (s_t_text_grants : Int32 × Int32 × Int32) (s_t_text_routes : Int32 × Int32 × Int32) (s_t_text_letters : Nat → Int32) (s_t_text_routes_cells : Ar) (s_t_text_grants_cells : Ar) : Option (Int32 × (Int32 × Int32 × Int32) × (Int32 × Int32 × Int32) × Ar × (Int32 × Int32 × Int32) × (Int32 × Int32 × Int32) × Ar × Ar) := (mX2_readAll s_t_text s_t_text_papers s_t_text_papers_cells s_t_text_grants s_t_text_routes s_t_text_letters s_t_text_routes_cells s_t_text_grants_cells).bind (fun x4 => some (x4.1, x4.2.1, x4.2.2.1, x4.2.2.2.1, x4.2.2.2.2.1, x4.2.2.2.2.2.1, x4.2.2.2.2.2.2.1, x4.2.2.2.2.2.2.2))
set_option maxHeartbeats 4000000 in
set_option maxRecDepth 100000 in
theorem okX3_fault {l : Launch} {dC : Nat → ClassId} {dI : Nat → Nat → Nat} {cI cC cZ : ClassId} (a_t a_t_papers a_t_now a_t_trial a_t_firstSlot a_t_secondSlot a_t_acts a_t_seen a_t_text a_t_doings a_t_text_letters a_t_text_papers a_t_text_grants a_t_text_routes a_t_text_papers_cells a_t_text_grants_cells a_t_text_routes_cells : Nat) (s_t : Int32 × Int64) (s_t_text : Int32 × Int32 × Int32) (s_t_text_papers : Int32 × Int32 × Int32) (s_t_text_papers_cells : Ar) (s_t_text_grants : Int32 × Int32 × Int32) (s_t_text_routes : Int32 × Int32 × Int32) (s_t_text_letters : Nat → Int32) (s_t_text_routes_cells : Ar) (s_t_text_grants_cells : Ar) (res : Int32 × (Int32 × Int32 × Int32) × (Int32 × Int32 × Int32) × Ar × (Int32 × Int32 × Int32) × (Int32 × Int32 × Int32) × Ar × Ar) (hM : mX3_fault s_t_text s_t_text_papers s_t_text_papers_cells s_t_text_grants s_t_text_routes s_t_text_letters s_t_text_routes_cells s_t_text_grants_cells = some res) : Mu l yX3_fault cX3_fault 1 (some .int) 6 154 (dC, dI) cI cC cZ [(a_t, .inr (3, [.ref a_t_papers, .ref a_t_now, .ref a_t_trial, .ref a_t_firstSlot, .ref a_t_secondSlot, .ref a_t_acts, .ref a_t_seen, .ref a_t_text, .ref a_t_doings, .int s_t.1, .long s_t.2])), (a_t_text, .inr (2, [.ref a_t_text_letters, .int s_t_text.1, .ref a_t_text_papers, .ref a_t_text_grants, .ref a_t_text_routes, .int s_t_text.2.1, .int s_t_text.2.2])), (a_t_text_papers, .inr (1, [.int s_t_text_papers.1, .int s_t_text_papers.2.1, .ref a_t_text_papers_cells, .int s_t_text_papers.2.2])), (a_t_text_papers_cells, .inl (cI, s_t_text_papers_cells.1, .inl s_t_text_papers_cells.2)), (a_t_text_grants, .inr (1, [.int s_t_text_grants.1, .int s_t_text_grants.2.1, .ref a_t_text_grants_cells, .int s_t_text_grants.2.2])), (a_t_text_routes, .inr (1, [.int s_t_text_routes.1, .int s_t_text_routes.2.1, .ref a_t_text_routes_cells, .int s_t_text_routes.2.2])), (a_t_text_letters, .inl (cC, 99, .inl s_t_text_letters)), (a_t_text_routes_cells, .inl (cI, s_t_text_routes_cells.1, .inl s_t_text_routes_cells.2)), (a_t_text_grants_cells, .inl (cI, s_t_text_grants_cells.1, .inl s_t_text_grants_cells.2))] [(a_t, .inr (3, [.ref a_t_papers, .ref a_t_now, .ref a_t_trial, .ref a_t_firstSlot, .ref a_t_secondSlot, .ref a_t_acts, .ref a_t_seen, .ref a_t_text, .ref a_t_doings, .int s_t.1, .long s_t.2])), (a_t_text, .inr (2, [.ref a_t_text_letters, .int res.2.1.1, .ref a_t_text_papers, .ref a_t_text_grants, .ref a_t_text_routes, .int res.2.1.2.1, .int res.2.1.2.2])), (a_t_text_papers, .inr (1, [.int res.2.2.1.1, .int res.2.2.1.2.1, .ref a_t_text_papers_cells, .int res.2.2.1.2.2])), (a_t_text_papers_cells, .inl (cI, res.2.2.2.1.1, .inl res.2.2.2.1.2)), (a_t_text_grants, .inr (1, [.int res.2.2.2.2.1.1, .int res.2.2.2.2.1.2.1, .ref a_t_text_grants_cells, .int res.2.2.2.2.1.2.2])), (a_t_text_routes, .inr (1, [.int res.2.2.2.2.2.1.1, .int res.2.2.2.2.2.1.2.1, .ref a_t_text_routes_cells, .int res.2.2.2.2.2.1.2.2])), (a_t_text_letters, .inl (cC, 99, .inl s_t_text_letters)), (a_t_text_routes_cells, .inl (cI, res.2.2.2.2.2.2.1.1, .inl res.2.2.2.2.2.2.1.2)), (a_t_text_grants_cells, .inl (cI, res.2.2.2.2.2.2.2.1, .inl res.2.2.2.2.2.2.2.2))] [.ref a_t] (some (.int res.1)) := by
  refine Mu.ofI (by decide) (Nat.le_of_ble_eq_true rfl) [(0, .ref a_t)] rfl ?_
  intro p e s m args below meth c ls Q A hx hb hml hown hU hE hP hD hS hA rt hl
  have hown : s.vm.findClass RX3 = some m.cls := hown
  unfold mX3_fault at hM
  refine lv_aload_n hx hb dX3_fault_0 rfl (lv_at hl 0 rfl) ?_
  refine va_get (D := (dC, dI)) (ci := 3) (v := .ref a_t_text) (C := RX3) (T := TX3) (N := 11) hx hb hU inlX3 hown hE.1 hP 0 rfl rfl 7 (by decide) (hU _ u_2_5) (fun _ h9 => h9) rfl dX3_fault_1 ?_
  obtain ⟨x4, h4, hM⟩ := bind_e hM
  refine muV (As := []) (rest := []) (st2 := [.int x4.1]) (nw := [(a_t, .inr (3, [.ref a_t_papers, .ref a_t_now, .ref a_t_trial, .ref a_t_firstSlot, .ref a_t_secondSlot, .ref a_t_acts, .ref a_t_seen, .ref a_t_text, .ref a_t_doings, .int s_t.1, .long s_t.2])), (a_t_text, .inr (2, [.ref a_t_text_letters, .int x4.2.1.1, .ref a_t_text_papers, .ref a_t_text_grants, .ref a_t_text_routes, .int x4.2.1.2.1, .int x4.2.1.2.2])), (a_t_text_papers, .inr (1, [.int x4.2.2.1.1, .int x4.2.2.1.2.1, .ref a_t_text_papers_cells, .int x4.2.2.1.2.2])), (a_t_text_papers_cells, .inl (cI, x4.2.2.2.1.1, .inl x4.2.2.2.1.2)), (a_t_text_grants, .inr (1, [.int x4.2.2.2.2.1.1, .int x4.2.2.2.2.1.2.1, .ref a_t_text_grants_cells, .int x4.2.2.2.2.1.2.2])), (a_t_text_routes, .inr (1, [.int x4.2.2.2.2.2.1.1, .int x4.2.2.2.2.2.1.2.1, .ref a_t_text_routes_cells, .int x4.2.2.2.2.2.1.2.2])), (a_t_text_letters, .inl (cC, 99, .inl s_t_text_letters)), (a_t_text_routes_cells, .inl (cI, x4.2.2.2.2.2.2.1.1, .inl x4.2.2.2.2.2.2.1.2)), (a_t_text_grants_cells, .inl (cI, x4.2.2.2.2.2.2.2.1, .inl x4.2.2.2.2.2.2.2.2))]) ⟨hx, hb, hml, hown, hU⟩ hE (okX2_readAll a_t_text a_t_text_letters a_t_text_papers a_t_text_grants a_t_text_routes a_t_text_papers_cells a_t_text_grants_cells a_t_text_routes_cells s_t_text s_t_text_papers s_t_text_papers_cells s_t_text_grants s_t_text_routes s_t_text_letters s_t_text_routes_cells s_t_text_grants_cells x4 h4) lk_X3_65 hP hD hS hA [1, 2, 3, 4, 5, 6, 7, 8] rfl rfl rfl rfl rfl rfl hl.1 rfl (Nat.le_of_ble_eq_true rfl) ⟨Nat.le_of_ble_eq_true rfl, Nat.le_of_ble_eq_true rfl⟩ dX3_fault_4 ⟨Nat.le_refl _, Nat.le_refl _⟩ rfl rfl rfl rfl (fun H locs hP hD hS => ?_)
  cases hM
  exact rt _ _ _ _ _ hP hS dX3_fault_7 rfl
noncomputable def mX3_goes (s_t_now : Int32 × Int32 × Int32) (s_t_papers : Int32 × Int32 × Int32) (s_t_papers_cells : Ar) (s_t_now_grants : Int32 × Int32 × Int32) (s_t_now_grants_cells : Ar) (s_t_now_routes : Int32 × Int32 × Int32) (s_t_now_routes_cells : Ar) (v1 : Int32) (v2 : Int32) : Option (Int32) := (mX3_isPlace v1).bind (fun x1 => (if x1 = true then (mX3_isLaw v2).bind (fun x10 => (if x10 = true then (mX0_routeTo s_t_now s_t_papers s_t_papers_cells s_t_now_grants s_t_now_grants_cells s_t_now_routes s_t_now_routes_cells v1 v2).bind (fun x25 => some (x25)) else some ((-2 : Int32)))) else some ((-1 : Int32))))
set_option maxHeartbeats 4000000 in
set_option maxRecDepth 100000 in
theorem okX3_goes {l : Launch} {dC : Nat → ClassId} {dI : Nat → Nat → Nat} {cI cC cZ : ClassId} (a_t a_t_papers a_t_now a_t_trial a_t_firstSlot a_t_secondSlot a_t_acts a_t_seen a_t_text a_t_doings a_t_now_grants a_t_now_routes a_t_papers_cells a_t_now_grants_cells a_t_now_routes_cells : Nat) (s_t : Int32 × Int64) (s_t_now : Int32 × Int32 × Int32) (s_t_papers : Int32 × Int32 × Int32) (s_t_papers_cells : Ar) (s_t_now_grants : Int32 × Int32 × Int32) (s_t_now_grants_cells : Ar) (s_t_now_routes : Int32 × Int32 × Int32) (s_t_now_routes_cells : Ar) (v1 : Int32) (v2 : Int32) (res : Int32) (hM : mX3_goes s_t_now s_t_papers s_t_papers_cells s_t_now_grants s_t_now_grants_cells s_t_now_routes s_t_now_routes_cells v1 v2 = some res) : Rd l yX3_goes cX3_goes 3 (some .int) 5 123 (dC, dI) cI cC cZ [(a_t, .inr (3, [.ref a_t_papers, .ref a_t_now, .ref a_t_trial, .ref a_t_firstSlot, .ref a_t_secondSlot, .ref a_t_acts, .ref a_t_seen, .ref a_t_text, .ref a_t_doings, .int s_t.1, .long s_t.2])), (a_t_now, .inr (0, [.ref a_t_papers, .ref a_t_now_grants, .ref a_t_now_routes, .int s_t_now.1, .int s_t_now.2.1, .int s_t_now.2.2])), (a_t_papers, .inr (1, [.int s_t_papers.1, .int s_t_papers.2.1, .ref a_t_papers_cells, .int s_t_papers.2.2])), (a_t_papers_cells, .inl (cI, s_t_papers_cells.1, .inl s_t_papers_cells.2)), (a_t_now_grants, .inr (1, [.int s_t_now_grants.1, .int s_t_now_grants.2.1, .ref a_t_now_grants_cells, .int s_t_now_grants.2.2])), (a_t_now_grants_cells, .inl (cI, s_t_now_grants_cells.1, .inl s_t_now_grants_cells.2)), (a_t_now_routes, .inr (1, [.int s_t_now_routes.1, .int s_t_now_routes.2.1, .ref a_t_now_routes_cells, .int s_t_now_routes.2.2])), (a_t_now_routes_cells, .inl (cI, s_t_now_routes_cells.1, .inl s_t_now_routes_cells.2))] [.ref a_t, .int v1, .int v2] (some (.int res)) := by
  refine Rd.ofI (by decide) (Nat.le_of_ble_eq_true rfl) [(0, .ref a_t), (1, .int v1), (2, .int v2)] rfl ?_
  intro p e s m args below meth c ls Q hx hb hml hown hU hE hP rt hl
  have hown : s.vm.findClass RX3 = some m.cls := hown
  unfold mX3_goes at hM
  refine lv_iload_n hx hb dX3_goes_0 rfl (lv_at hl 1 rfl) ?_
  obtain ⟨x1, h1, hM⟩ := bind_e hM
  refine rdS (As := [.int v1]) (rest := []) (st2 := [.int (b2i x1)]) ⟨hx, hb, hml, hown, hU⟩ hE (okX3_isPlace v1 x1 h1) lk_X3_154 (hP.sub [] rfl) rfl hl.1 rfl (Nat.le_of_ble_eq_true rfl) ⟨Nat.le_of_ble_eq_true rfl, Nat.le_of_ble_eq_true rfl⟩ dX3_goes_1 ⟨Nat.le_refl _, Nat.le_refl _⟩ rfl ?_
  refine lv_if_ne (tgt := 9) hx hb dX3_goes_4 (by decide) (fun c4 => ?_) (fun c4 => ?_)
  · have hM := ite_t (b2i_ne0 c4) hM
    refine lv_iload_n hx hb dX3_goes_9 rfl (lv_at hl 2 rfl) ?_
    obtain ⟨x10, h10, hM⟩ := bind_e hM
    refine rdS (As := [.int v2]) (rest := []) (st2 := [.int (b2i x10)]) ⟨hx, hb, hml, hown, hU⟩ hE (okX3_isLaw v2 x10 h10) lk_X3_157 (hP.sub [] rfl) rfl hl.1 rfl (Nat.le_of_ble_eq_true rfl) ⟨Nat.le_of_ble_eq_true rfl, Nat.le_of_ble_eq_true rfl⟩ dX3_goes_10 ⟨Nat.le_refl _, Nat.le_refl _⟩ rfl ?_
    refine lv_if_ne (tgt := 19) hx hb dX3_goes_13 (by decide) (fun c13 => ?_) (fun c13 => ?_)
    · have hM := ite_t (b2i_ne0 c13) hM
      refine lv_aload_n hx hb dX3_goes_19 rfl (lv_at hl 0 rfl) ?_
      refine va_get (D := (dC, dI)) (ci := 3) (v := .ref a_t_now) (C := RX3) (T := TX3) (N := 11) hx hb hU inlX3 hown hE.1 hP 0 rfl rfl 1 (by decide) (hU _ u_1_20) (fun _ h9 => h9) rfl dX3_goes_20 ?_
      refine lv_iload_n hx hb dX3_goes_23 rfl (lv_at hl 1 rfl) ?_
      refine lv_iload_n hx hb dX3_goes_24 rfl (lv_at hl 2 rfl) ?_
      obtain ⟨x25, h25, hM⟩ := bind_e hM
      refine rdV (As := [.int v1, .int v2]) (rest := []) (st2 := [.int x25]) ⟨hx, hb, hml, hown, hU⟩ hE (okX0_routeTo a_t_now a_t_papers a_t_now_grants a_t_now_routes a_t_papers_cells a_t_now_grants_cells a_t_now_routes_cells s_t_now s_t_papers s_t_papers_cells s_t_now_grants s_t_now_grants_cells s_t_now_routes s_t_now_routes_cells v1 v2 x25 h25) lk_X3_160 (hP.sub [1, 2, 3, 4, 5, 6, 7] rfl) rfl rfl rfl hl.1 rfl (Nat.le_of_ble_eq_true rfl) ⟨Nat.le_of_ble_eq_true rfl, Nat.le_of_ble_eq_true rfl⟩ dX3_goes_25 ⟨Nat.le_refl _, Nat.le_refl _⟩ rfl ?_
      cases hM
      exact rt _ _ _ dX3_goes_28 rfl
    · have hM := ite_f (b2i_eq0 c13) hM
      refine lv_bipush (v := (-2 : Int32)) hx hb dX3_goes_16 (by decide) ?_
      cases hM
      exact rt _ _ _ dX3_goes_18 rfl
  · have hM := ite_f (b2i_eq0 c4) hM
    refine lv_iconst (v := (-1 : Int32)) hx hb dX3_goes_7 (by decide) ?_
    cases hM
    exact rt _ _ _ dX3_goes_8 rfl
