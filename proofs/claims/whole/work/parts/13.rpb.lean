noncomputable def mX3_grant (s_t_now : Int32 × Int32 × Int32) (s_t_now_grants : Int32 × Int32 × Int32) (s_t_now_grants_cells : Ar) (s_t_papers : Int32 × Int32 × Int32) (s_t_papers_cells : Ar) (v1 : Int32) (v2 : Int32) : Option (Int32) := (mX1_has s_t_now_grants v1).bind (fun x8 => (if x8 = true then (if v2 = (0 : Int32) then (mX1_at s_t_now_grants s_t_now_grants_cells v1 (4 : Int32)).bind (fun x65 => some (x65)) else (if v2 = (1 : Int32) then (mX1_at s_t_now_grants s_t_now_grants_cells v1 (3 : Int32)).bind (fun x78 => some (x78)) else (if v2 = (2 : Int32) then (mX1_at s_t_now_grants s_t_now_grants_cells v1 (0 : Int32)).bind (fun x91 => some (x91)) else (if v2 = (3 : Int32) then (mX1_at s_t_now_grants s_t_now_grants_cells v1 (1 : Int32)).bind (fun x104 => some (x104)) else (if v2 = (4 : Int32) then (mX1_at s_t_now_grants s_t_now_grants_cells v1 (5 : Int32)).bind (fun x117 => some (x117)) else (if v2 = (5 : Int32) then (mX0_countingNow s_t_now s_t_papers s_t_papers_cells s_t_now_grants s_t_now_grants_cells).bind (fun x125 => (mX3_bit x125 v1).bind (fun x129 => some (x129))) else some ((-2 : Int32)))))))) else some ((-1 : Int32))))
set_option maxHeartbeats 4000000 in
set_option maxRecDepth 100000 in
theorem okX3_grant {l : Launch} {dC : Nat → ClassId} {dI : Nat → Nat → Nat} {cI cC cZ : ClassId} (a_t a_t_papers a_t_now a_t_trial a_t_firstSlot a_t_secondSlot a_t_acts a_t_seen a_t_text a_t_doings a_t_now_grants a_t_now_routes a_t_now_grants_cells a_t_papers_cells : Nat) (s_t : Int32 × Int64) (s_t_now : Int32 × Int32 × Int32) (s_t_now_grants : Int32 × Int32 × Int32) (s_t_now_grants_cells : Ar) (s_t_papers : Int32 × Int32 × Int32) (s_t_papers_cells : Ar) (v1 : Int32) (v2 : Int32) (res : Int32) (hM : mX3_grant s_t_now s_t_now_grants s_t_now_grants_cells s_t_papers s_t_papers_cells v1 v2 = some res) : Rd l yX3_grant cX3_grant 3 (some .int) 3 66 (dC, dI) cI cC cZ [(a_t, .inr (3, [.ref a_t_papers, .ref a_t_now, .ref a_t_trial, .ref a_t_firstSlot, .ref a_t_secondSlot, .ref a_t_acts, .ref a_t_seen, .ref a_t_text, .ref a_t_doings, .int s_t.1, .long s_t.2])), (a_t_now, .inr (0, [.ref a_t_papers, .ref a_t_now_grants, .ref a_t_now_routes, .int s_t_now.1, .int s_t_now.2.1, .int s_t_now.2.2])), (a_t_now_grants, .inr (1, [.int s_t_now_grants.1, .int s_t_now_grants.2.1, .ref a_t_now_grants_cells, .int s_t_now_grants.2.2])), (a_t_now_grants_cells, .inl (cI, s_t_now_grants_cells.1, .inl s_t_now_grants_cells.2)), (a_t_papers, .inr (1, [.int s_t_papers.1, .int s_t_papers.2.1, .ref a_t_papers_cells, .int s_t_papers.2.2])), (a_t_papers_cells, .inl (cI, s_t_papers_cells.1, .inl s_t_papers_cells.2))] [.ref a_t, .int v1, .int v2] (some (.int res)) := by
  refine Rd.ofI (by decide) (Nat.le_of_ble_eq_true rfl) [(0, .ref a_t), (1, .int v1), (2, .int v2)] rfl ?_
  intro p e s m args below meth c ls Q hx hb hml hown hU hE hP rt hl
  have hown : s.vm.findClass RX3 = some m.cls := hown
  unfold mX3_grant at hM
  refine lv_aload_n hx hb dX3_grant_0 rfl (lv_at hl 0 rfl) ?_
  refine va_get (D := (dC, dI)) (ci := 3) (v := .ref a_t_now) (C := RX3) (T := TX3) (N := 11) hx hb hU inlX3 hown hE.1 hP 0 rfl rfl 1 (by decide) (hU _ u_1_20) (fun _ h9 => h9) rfl dX3_grant_1 ?_
  refine va_get (D := (dC, dI)) (ci := 0) (v := .ref a_t_now_grants) (C := RX0) (T := TX0) (N := 6) hx hb hU inlX0 hown hE.1 hP 1 rfl rfl 1 (by decide) (hU _ u_11_18) (fun _ h9 => h9) rfl dX3_grant_4 ?_
  refine lv_iload_n hx hb dX3_grant_7 rfl (lv_at hl 1 rfl) ?_
  obtain ⟨x8, h8, hM⟩ := bind_e hM
  refine rdV (As := [.int v1]) (rest := []) (st2 := [.int (b2i x8)]) ⟨hx, hb, hml, hown, hU⟩ hE (okX1_has a_t_now_grants a_t_now_grants_cells s_t_now_grants v1 x8 h8) lk_X3_114 (hP.sub [2] rfl) rfl rfl rfl hl.1 rfl (Nat.le_of_ble_eq_true rfl) ⟨Nat.le_of_ble_eq_true rfl, Nat.le_of_ble_eq_true rfl⟩ dX3_grant_8 ⟨Nat.le_refl _, Nat.le_refl _⟩ rfl ?_
  refine lv_if_ne (tgt := 16) hx hb dX3_grant_11 (by decide) (fun c11 => ?_) (fun c11 => ?_)
  · have hM := ite_t (b2i_ne0 c11) hM
    refine lv_iload_n hx hb dX3_grant_16 rfl (lv_at hl 2 rfl) ?_
    by_cases c17_0 : v2 = (0 : Int32)
    · have hM := ite_t c17_0 hM
      refine lv_tableIn (off := 39) (tgt := 56) hx hb dX3_grant_17 (by rw [c17_0]; decide) (by rw [c17_0]; decide) (by rw [c17_0]; rfl) (by decide) ?_
      refine lv_aload_n hx hb dX3_grant_56 rfl (lv_at hl 0 rfl) ?_
      refine va_get (D := (dC, dI)) (ci := 3) (v := .ref a_t_now) (C := RX3) (T := TX3) (N := 11) hx hb hU inlX3 hown hE.1 hP 0 rfl rfl 1 (by decide) (hU _ u_1_20) (fun _ h9 => h9) rfl dX3_grant_57 ?_
      refine va_get (D := (dC, dI)) (ci := 0) (v := .ref a_t_now_grants) (C := RX0) (T := TX0) (N := 6) hx hb hU inlX0 hown hE.1 hP 1 rfl rfl 1 (by decide) (hU _ u_11_18) (fun _ h9 => h9) rfl dX3_grant_60 ?_
      refine lv_iload_n hx hb dX3_grant_63 rfl (lv_at hl 1 rfl) ?_
      refine lv_iconst (v := (4 : Int32)) hx hb dX3_grant_64 (by decide) ?_
      obtain ⟨x65, h65, hM⟩ := bind_e hM
      refine rdV (As := [.int v1, .int (4 : Int32)]) (rest := []) (st2 := [.int x65]) ⟨hx, hb, hml, hown, hU⟩ hE (okX1_at a_t_now_grants a_t_now_grants_cells s_t_now_grants s_t_now_grants_cells v1 (4 : Int32) x65 h65) lk_X3_118 (hP.sub [2, 3] rfl) rfl rfl rfl hl.1 rfl (Nat.le_of_ble_eq_true rfl) ⟨Nat.le_of_ble_eq_true rfl, Nat.le_of_ble_eq_true rfl⟩ dX3_grant_65 ⟨Nat.le_refl _, Nat.le_refl _⟩ rfl ?_
      cases hM
      exact rt _ _ _ dX3_grant_68 rfl
    have hM := ite_f c17_0 hM
    by_cases c17_1 : v2 = (1 : Int32)
    · have hM := ite_t c17_1 hM
      refine lv_tableIn (off := 52) (tgt := 69) hx hb dX3_grant_17 (by rw [c17_1]; decide) (by rw [c17_1]; decide) (by rw [c17_1]; rfl) (by decide) ?_
      refine lv_aload_n hx hb dX3_grant_69 rfl (lv_at hl 0 rfl) ?_
      refine va_get (D := (dC, dI)) (ci := 3) (v := .ref a_t_now) (C := RX3) (T := TX3) (N := 11) hx hb hU inlX3 hown hE.1 hP 0 rfl rfl 1 (by decide) (hU _ u_1_20) (fun _ h9 => h9) rfl dX3_grant_70 ?_
      refine va_get (D := (dC, dI)) (ci := 0) (v := .ref a_t_now_grants) (C := RX0) (T := TX0) (N := 6) hx hb hU inlX0 hown hE.1 hP 1 rfl rfl 1 (by decide) (hU _ u_11_18) (fun _ h9 => h9) rfl dX3_grant_73 ?_
      refine lv_iload_n hx hb dX3_grant_76 rfl (lv_at hl 1 rfl) ?_
      refine lv_iconst (v := (3 : Int32)) hx hb dX3_grant_77 (by decide) ?_
      obtain ⟨x78, h78, hM⟩ := bind_e hM
      refine rdV (As := [.int v1, .int (3 : Int32)]) (rest := []) (st2 := [.int x78]) ⟨hx, hb, hml, hown, hU⟩ hE (okX1_at a_t_now_grants a_t_now_grants_cells s_t_now_grants s_t_now_grants_cells v1 (3 : Int32) x78 h78) lk_X3_118 (hP.sub [2, 3] rfl) rfl rfl rfl hl.1 rfl (Nat.le_of_ble_eq_true rfl) ⟨Nat.le_of_ble_eq_true rfl, Nat.le_of_ble_eq_true rfl⟩ dX3_grant_78 ⟨Nat.le_refl _, Nat.le_refl _⟩ rfl ?_
      cases hM
      exact rt _ _ _ dX3_grant_81 rfl
    have hM := ite_f c17_1 hM
    by_cases c17_2 : v2 = (2 : Int32)
    · have hM := ite_t c17_2 hM
      refine lv_tableIn (off := 65) (tgt := 82) hx hb dX3_grant_17 (by rw [c17_2]; decide) (by rw [c17_2]; decide) (by rw [c17_2]; rfl) (by decide) ?_
      refine lv_aload_n hx hb dX3_grant_82 rfl (lv_at hl 0 rfl) ?_
      refine va_get (D := (dC, dI)) (ci := 3) (v := .ref a_t_now) (C := RX3) (T := TX3) (N := 11) hx hb hU inlX3 hown hE.1 hP 0 rfl rfl 1 (by decide) (hU _ u_1_20) (fun _ h9 => h9) rfl dX3_grant_83 ?_
      refine va_get (D := (dC, dI)) (ci := 0) (v := .ref a_t_now_grants) (C := RX0) (T := TX0) (N := 6) hx hb hU inlX0 hown hE.1 hP 1 rfl rfl 1 (by decide) (hU _ u_11_18) (fun _ h9 => h9) rfl dX3_grant_86 ?_
      refine lv_iload_n hx hb dX3_grant_89 rfl (lv_at hl 1 rfl) ?_
      refine lv_iconst (v := (0 : Int32)) hx hb dX3_grant_90 (by decide) ?_
      obtain ⟨x91, h91, hM⟩ := bind_e hM
      refine rdV (As := [.int v1, .int (0 : Int32)]) (rest := []) (st2 := [.int x91]) ⟨hx, hb, hml, hown, hU⟩ hE (okX1_at a_t_now_grants a_t_now_grants_cells s_t_now_grants s_t_now_grants_cells v1 (0 : Int32) x91 h91) lk_X3_118 (hP.sub [2, 3] rfl) rfl rfl rfl hl.1 rfl (Nat.le_of_ble_eq_true rfl) ⟨Nat.le_of_ble_eq_true rfl, Nat.le_of_ble_eq_true rfl⟩ dX3_grant_91 ⟨Nat.le_refl _, Nat.le_refl _⟩ rfl ?_
      cases hM
      exact rt _ _ _ dX3_grant_94 rfl
    have hM := ite_f c17_2 hM
    by_cases c17_3 : v2 = (3 : Int32)
    · have hM := ite_t c17_3 hM
      refine lv_tableIn (off := 78) (tgt := 95) hx hb dX3_grant_17 (by rw [c17_3]; decide) (by rw [c17_3]; decide) (by rw [c17_3]; rfl) (by decide) ?_
      refine lv_aload_n hx hb dX3_grant_95 rfl (lv_at hl 0 rfl) ?_
      refine va_get (D := (dC, dI)) (ci := 3) (v := .ref a_t_now) (C := RX3) (T := TX3) (N := 11) hx hb hU inlX3 hown hE.1 hP 0 rfl rfl 1 (by decide) (hU _ u_1_20) (fun _ h9 => h9) rfl dX3_grant_96 ?_
      refine va_get (D := (dC, dI)) (ci := 0) (v := .ref a_t_now_grants) (C := RX0) (T := TX0) (N := 6) hx hb hU inlX0 hown hE.1 hP 1 rfl rfl 1 (by decide) (hU _ u_11_18) (fun _ h9 => h9) rfl dX3_grant_99 ?_
      refine lv_iload_n hx hb dX3_grant_102 rfl (lv_at hl 1 rfl) ?_
      refine lv_iconst (v := (1 : Int32)) hx hb dX3_grant_103 (by decide) ?_
      obtain ⟨x104, h104, hM⟩ := bind_e hM
      refine rdV (As := [.int v1, .int (1 : Int32)]) (rest := []) (st2 := [.int x104]) ⟨hx, hb, hml, hown, hU⟩ hE (okX1_at a_t_now_grants a_t_now_grants_cells s_t_now_grants s_t_now_grants_cells v1 (1 : Int32) x104 h104) lk_X3_118 (hP.sub [2, 3] rfl) rfl rfl rfl hl.1 rfl (Nat.le_of_ble_eq_true rfl) ⟨Nat.le_of_ble_eq_true rfl, Nat.le_of_ble_eq_true rfl⟩ dX3_grant_104 ⟨Nat.le_refl _, Nat.le_refl _⟩ rfl ?_
      cases hM
      exact rt _ _ _ dX3_grant_107 rfl
    have hM := ite_f c17_3 hM
    by_cases c17_4 : v2 = (4 : Int32)
    · have hM := ite_t c17_4 hM
      refine lv_tableIn (off := 91) (tgt := 108) hx hb dX3_grant_17 (by rw [c17_4]; decide) (by rw [c17_4]; decide) (by rw [c17_4]; rfl) (by decide) ?_
      refine lv_aload_n hx hb dX3_grant_108 rfl (lv_at hl 0 rfl) ?_
      refine va_get (D := (dC, dI)) (ci := 3) (v := .ref a_t_now) (C := RX3) (T := TX3) (N := 11) hx hb hU inlX3 hown hE.1 hP 0 rfl rfl 1 (by decide) (hU _ u_1_20) (fun _ h9 => h9) rfl dX3_grant_109 ?_
      refine va_get (D := (dC, dI)) (ci := 0) (v := .ref a_t_now_grants) (C := RX0) (T := TX0) (N := 6) hx hb hU inlX0 hown hE.1 hP 1 rfl rfl 1 (by decide) (hU _ u_11_18) (fun _ h9 => h9) rfl dX3_grant_112 ?_
      refine lv_iload_n hx hb dX3_grant_115 rfl (lv_at hl 1 rfl) ?_
      refine lv_iconst (v := (5 : Int32)) hx hb dX3_grant_116 (by decide) ?_
      obtain ⟨x117, h117, hM⟩ := bind_e hM
      refine rdV (As := [.int v1, .int (5 : Int32)]) (rest := []) (st2 := [.int x117]) ⟨hx, hb, hml, hown, hU⟩ hE (okX1_at a_t_now_grants a_t_now_grants_cells s_t_now_grants s_t_now_grants_cells v1 (5 : Int32) x117 h117) lk_X3_118 (hP.sub [2, 3] rfl) rfl rfl rfl hl.1 rfl (Nat.le_of_ble_eq_true rfl) ⟨Nat.le_of_ble_eq_true rfl, Nat.le_of_ble_eq_true rfl⟩ dX3_grant_117 ⟨Nat.le_refl _, Nat.le_refl _⟩ rfl ?_
      cases hM
      exact rt _ _ _ dX3_grant_120 rfl
    have hM := ite_f c17_4 hM
    by_cases c17_5 : v2 = (5 : Int32)
    · have hM := ite_t c17_5 hM
      refine lv_tableIn (off := 104) (tgt := 121) hx hb dX3_grant_17 (by rw [c17_5]; decide) (by rw [c17_5]; decide) (by rw [c17_5]; rfl) (by decide) ?_
      refine lv_aload_n hx hb dX3_grant_121 rfl (lv_at hl 0 rfl) ?_
      refine va_get (D := (dC, dI)) (ci := 3) (v := .ref a_t_now) (C := RX3) (T := TX3) (N := 11) hx hb hU inlX3 hown hE.1 hP 0 rfl rfl 1 (by decide) (hU _ u_1_20) (fun _ h9 => h9) rfl dX3_grant_122 ?_
      obtain ⟨x125, h125, hM⟩ := bind_e hM
      refine rdV (As := []) (rest := []) (st2 := [.int x125]) ⟨hx, hb, hml, hown, hU⟩ hE (okX0_countingNow a_t_now a_t_papers a_t_now_grants a_t_now_routes a_t_papers_cells a_t_now_grants_cells s_t_now s_t_papers s_t_papers_cells s_t_now_grants s_t_now_grants_cells x125 h125) lk_X3_104 (hP.sub [1, 4, 5, 2, 3] rfl) rfl rfl rfl hl.1 rfl (Nat.le_of_ble_eq_true rfl) ⟨Nat.le_of_ble_eq_true rfl, Nat.le_of_ble_eq_true rfl⟩ dX3_grant_125 ⟨Nat.le_refl _, Nat.le_refl _⟩ rfl ?_
      refine lv_iload_n hx hb dX3_grant_128 rfl (lv_at hl 1 rfl) ?_
      obtain ⟨x129, h129, hM⟩ := bind_e hM
      refine rdS (As := [.int x125, .int v1]) (rest := []) (st2 := [.int x129]) ⟨hx, hb, hml, hown, hU⟩ hE (okX3_bit x125 v1 x129 h129) lk_X3_121 (hP.sub [] rfl) rfl hl.1 rfl (Nat.le_of_ble_eq_true rfl) ⟨Nat.le_of_ble_eq_true rfl, Nat.le_of_ble_eq_true rfl⟩ dX3_grant_129 ⟨Nat.le_refl _, Nat.le_refl _⟩ rfl ?_
      cases hM
      exact rt _ _ _ dX3_grant_132 rfl
    have hM := ite_f c17_5 hM
    refine lv_tableOut (tgt := 133) hx hb dX3_grant_17 (sw_out (fun v h1 h2 h3 => by rcases (show v = 0 ∨ v = 1 ∨ v = 2 ∨ v = 3 ∨ v = 4 ∨ v = 5 by omega) with rfl | rfl | rfl | rfl | rfl | rfl <;> first | exact c17_0 (Int32.toInt_inj.mp (h3.trans (by decide))) | exact c17_1 (Int32.toInt_inj.mp (h3.trans (by decide))) | exact c17_2 (Int32.toInt_inj.mp (h3.trans (by decide))) | exact c17_3 (Int32.toInt_inj.mp (h3.trans (by decide))) | exact c17_4 (Int32.toInt_inj.mp (h3.trans (by decide))) | exact c17_5 (Int32.toInt_inj.mp (h3.trans (by decide))))) (by decide) ?_
    refine lv_bipush (v := (-2 : Int32)) hx hb dX3_grant_133 (by decide) ?_
    cases hM
    exact rt _ _ _ dX3_grant_135 rfl
  · have hM := ite_f (b2i_eq0 c11) hM
    refine lv_iconst (v := (-1 : Int32)) hx hb dX3_grant_14 (by decide) ?_
    cases hM
    exact rt _ _ _ dX3_grant_15 rfl
noncomputable def mX3_splitDoings_b12  : Nat → Int64 → Int32 → (Nat → Int32) → Option (Bool × (Nat → Int32))
  | 0, _, _, _ => none
  | n + 1, v4, v6, s_t_doings => (if v6 < 0 then (if (lg_cmp v4 (0 : Int64)) = 0 then some (true, s_t_doings) else some (false, s_t_doings)) else wr s_t_doings 4 v6 ((v4 - v4 / (10000 : Int64) * (10000 : Int64)).toInt32) (fun x30 => mX3_splitDoings_b12 n (v4 / (10000 : Int64)) (v6 + (-1 : Int32)) x30))
noncomputable def mX3_splitDoings (s_t_doings : Nat → Int32) (v1 : Int32) (v2 : Int64) : Option (Bool × (Nat → Int32)) := bnd ((if (4 : Int32) < v1 then (4 : Int32) else v1) - (1 : Int32)) (fun z10 => mX3_splitDoings_b12 FU v2 z10 s_t_doings)
set_option maxHeartbeats 4000000 in
set_option maxRecDepth 100000 in
theorem okX3_splitDoings {l : Launch} {dC : Nat → ClassId} {dI : Nat → Nat → Nat} {cI cC cZ : ClassId} (a_t a_t_papers a_t_now a_t_trial a_t_firstSlot a_t_secondSlot a_t_acts a_t_seen a_t_text a_t_doings : Nat) (s_t : Int32 × Int64) (s_t_doings : Nat → Int32) (v1 : Int32) (v2 : Int64) (res : Bool × (Nat → Int32)) (hM : mX3_splitDoings s_t_doings v1 v2 = some res) : Mu l yX3_splitDoings cX3_splitDoings 7 (some .boolean) 1 40 (dC, dI) cI cC cZ [(a_t, .inr (3, [.ref a_t_papers, .ref a_t_now, .ref a_t_trial, .ref a_t_firstSlot, .ref a_t_secondSlot, .ref a_t_acts, .ref a_t_seen, .ref a_t_text, .ref a_t_doings, .int s_t.1, .long s_t.2])), (a_t_doings, .inl (cI, 4, .inl s_t_doings))] [(a_t, .inr (3, [.ref a_t_papers, .ref a_t_now, .ref a_t_trial, .ref a_t_firstSlot, .ref a_t_secondSlot, .ref a_t_acts, .ref a_t_seen, .ref a_t_text, .ref a_t_doings, .int s_t.1, .long s_t.2])), (a_t_doings, .inl (cI, 4, .inl res.2))] [.ref a_t, .int v1, .long v2] (some (.int (b2i res.1))) := by
  refine Mu.ofZ (by decide) (Nat.le_of_ble_eq_true rfl) [(0, .ref a_t), (1, .int v1), (2, .long v2)] rfl ?_
  intro p e s m args below meth c ls Q A hx hb hml hown hU hE hP hD hS hA rt hl
  have hown : s.vm.findClass RX3 = some m.cls := hown
  unfold mX3_splitDoings at hM
  refine lv_lload_n hx hb dX3_splitDoings_0 rfl (lv_at hl 2 rfl) ?_
  refine lv_lstore (lv' := [(4, .long v2), (0, .ref a_t), (1, .int v1), (2, .long v2)]) hx hb dX3_splitDoings_1 hl (by decide) rfl (fun ls hl => ?_)
  refine lv_iload_n hx hb dX3_splitDoings_3 rfl (lv_at hl 2 rfl) ?_
  refine lv_iconst (v := (4 : Int32)) hx hb dX3_splitDoings_4 (by decide) ?_
  refine va_mmin hx hb (hml.trans hl.1.symm) hown (hU _ u_25_13) (hU _ u_25_14) (hU _ u_2_14) (hU _ u_25_15) (Nat.le_of_ble_eq_true rfl) (Nat.le_of_ble_eq_true rfl) (Nat.le_refl _) (Nat.le_refl _) dX3_splitDoings_5 ?_
  refine lv_iconst (v := (1 : Int32)) hx hb dX3_splitDoings_8 (by decide) ?_
  refine lv_isub hx hb dX3_splitDoings_9 ?_
  obtain ⟨z10, ez10, hM⟩ := bnd_e hM
  rw [← ez10]
  refine lv_istore (lv' := [(6, .int z10), (4, .long v2), (0, .ref a_t), (1, .int v1), (2, .long v2)]) hx hb dX3_splitDoings_10 hl (by decide) rfl (fun ls hl => ?_)
  have w_12 : ∀ (n : Nat) (v4_12 : Int64) (v6_12 : Int32) (s_t_doings_12 : Nat → Int32), mX3_splitDoings_b12 n v4_12 v6_12 s_t_doings_12 = some res → ∀ (ls : Array Slot) (H : Heap) (locs : List Loc), va_P (dC, dI) vwCl [(a_t, .inr (3, [.ref a_t_papers, .ref a_t_now, .ref a_t_trial, .ref a_t_firstSlot, .ref a_t_secondSlot, .ref a_t_acts, .ref a_t_seen, .ref a_t_text, .ref a_t_doings, .int s_t.1, .long s_t.2])), (a_t_doings, .inl (cI, 4, .inl s_t_doings_12))] H → va_D A [(a_t, .inr (3, [.ref a_t_papers, .ref a_t_now, .ref a_t_trial, .ref a_t_firstSlot, .ref a_t_secondSlot, .ref a_t_acts, .ref a_t_seen, .ref a_t_text, .ref a_t_doings, .int s_t.1, .long s_t.2])), (a_t_doings, .inl (cI, 4, .inl s_t_doings_12))] → va_S A s.heap H locs → lv_has ls 7 [(0, .ref a_t), (4, .long v4_12), (6, .int v6_12)] → W p l e (RM 1 40) s m args below meth c H locs 0 0 Q (F0 m 12 ls []) := by
    intro n
    induction n with
    | zero =>
      intro v4_12 v6_12 s_t_doings_12 hM
      rw [mX3_splitDoings_b12] at hM
      cases hM
    | succ n_12 ih_12 =>
      intro v4_12 v6_12 s_t_doings_12 hM ls H locs hP hD hS hl
      rw [mX3_splitDoings_b12] at hM
      refine lv_iload hx hb dX3_splitDoings_12 (lv_at hl 2 rfl) ?_
      refine lv_if_lt (tgt := 45) hx hb dX3_splitDoings_14 (by decide) (fun c14 => ?_) (fun c14 => ?_)
      · have hM := ite_t c14 hM
        refine lv_lload hx hb dX3_splitDoings_45 (lv_at hl 1 rfl) ?_
        refine lv_lconst (v := (0 : Int64)) hx hb dX3_splitDoings_47 (by decide) ?_
        refine W.lcmp hx hb dX3_splitDoings_48 ?_
        refine lv_if_ne (tgt := 56) hx hb dX3_splitDoings_49 (by decide) (fun c49 => ?_) (fun c49 => ?_)
        · have hM := ite_f c49 hM
          refine lv_iconst (v := (0 : Int32)) hx hb dX3_splitDoings_56 (by decide) ?_
          cases hM
          exact rt false _ _ _ _ hP hS dX3_splitDoings_57 rfl
        · have hM := ite_t c49 hM
          refine lv_iconst (v := (1 : Int32)) hx hb dX3_splitDoings_52 (by decide) ?_
          refine lv_goto (tgt := 57) hx hb dX3_splitDoings_53 (by decide) ?_
          cases hM
          exact rt true _ _ _ _ hP hS dX3_splitDoings_57 rfl
      · have hM := ite_f c14 hM
        refine lv_aload_n hx hb dX3_splitDoings_17 rfl (lv_at hl 0 rfl) ?_
        refine va_get (D := (dC, dI)) (ci := 3) (v := .ref a_t_doings) (C := RX3) (T := TX3) (N := 11) hx hb hU inlX3 hown hE.1 hP 0 rfl rfl 8 (by decide) (hU _ u_2_7) (fun _ h9 => h9) rfl dX3_splitDoings_18 ?_
        refine lv_iload hx hb dX3_splitDoings_21 (lv_at hl 2 rfl) ?_
        refine lv_lload hx hb dX3_splitDoings_23 (lv_at hl 1 rfl) ?_
        refine lv_ldc2 hx hb hown (hU _ u_25_16) dX3_splitDoings_25 ?_
        refine lv_lrem hx hb dX3_splitDoings_28 (by decide) ?_
        refine lv_l2i (v := ((v4_12 - v4_12 / (10000 : Int64) * (10000 : Int64)).toInt32)) hx hb dX3_splitDoings_29 rfl ?_
        obtain ⟨g30, hM⟩ := wr_e hM
        refine va_iast hx hb hE.1 hP hD hS 1 0 rfl rfl g30 dX3_splitDoings_30 (fun H locs hP hD hS => ?_)
        have hP : va_P (dC, dI) vwCl [(a_t, .inr (3, [.ref a_t_papers, .ref a_t_now, .ref a_t_trial, .ref a_t_firstSlot, .ref a_t_secondSlot, .ref a_t_acts, .ref a_t_seen, .ref a_t_text, .ref a_t_doings, .int s_t.1, .long s_t.2])), (a_t_doings, .inl (cI, 4, .inl (upd s_t_doings_12 v6_12.toNatClampNeg ((v4_12 - v4_12 / (10000 : Int64) * (10000 : Int64)).toInt32))))] H := hP
        have hD : va_D A [(a_t, .inr (3, [.ref a_t_papers, .ref a_t_now, .ref a_t_trial, .ref a_t_firstSlot, .ref a_t_secondSlot, .ref a_t_acts, .ref a_t_seen, .ref a_t_text, .ref a_t_doings, .int s_t.1, .long s_t.2])), (a_t_doings, .inl (cI, 4, .inl (upd s_t_doings_12 v6_12.toNatClampNeg ((v4_12 - v4_12 / (10000 : Int64) * (10000 : Int64)).toInt32))))] := hD
        refine lv_lload hx hb dX3_splitDoings_31 (lv_at hl 1 rfl) ?_
        refine lv_ldc2 hx hb hown (hU _ u_25_16) dX3_splitDoings_33 ?_
        refine lv_ldiv hx hb dX3_splitDoings_36 (by decide) ?_
        refine lv_lstore (lv' := [(4, .long (v4_12 / (10000 : Int64))), (0, .ref a_t), (6, .int v6_12)]) hx hb dX3_splitDoings_37 hl (by decide) rfl (fun ls hl => ?_)
        refine lv_iinc (v := (v6_12 + (-1 : Int32))) (lv' := [(6, .int (v6_12 + (-1 : Int32))), (4, .long (v4_12 / (10000 : Int64))), (0, .ref a_t)]) hx hb dX3_splitDoings_39 hl (k := 2) rfl rfl (by decide) rfl (fun ls hl => ?_)
        refine lv_goto (tgt := 12) hx hb dX3_splitDoings_42 (by decide) ?_
        exact ih_12 (v4_12 / (10000 : Int64)) (v6_12 + (-1 : Int32)) (upd s_t_doings_12 v6_12.toNatClampNeg ((v4_12 - v4_12 / (10000 : Int64) * (10000 : Int64)).toInt32)) hM ls _ _ hP hD hS (lv_sub hl [2, 1, 0] rfl)
  exact w_12 FU v2 z10 s_t_doings hM ls _ _ hP hD hS (lv_sub hl [2, 1, 0] rfl)
noncomputable def mX3_judge_b42 (s_t_doings : Nat → Int32) (s_t_now : Int32 × Int32 × Int32) (s_t_trial_grants : Int32 × Int32 × Int32) (s_t_now_grants : Int32 × Int32 × Int32) (s_t_now_grants_cells : Ar) (s_t_trial_grants_cells : Ar) (s_t_now_routes : Int32 × Int32 × Int32) (s_t_now_routes_cells : Ar) (s_t_papers : Int32 × Int32 × Int32) (s_t_papers_cells : Ar) (v1 : Int32) : Nat → Int32 → Int32 × Int32 × Int32 → Int32 × Int32 × Int32 → Ar → Option (Int32 × (Nat → Int32) × (Int32 × Int32 × Int32) × (Int32 × Int32 × Int32) × Ar × (Int32 × Int32 × Int32) × Ar)
  | 0, _, _, _, _ => none
  | n + 1, v4, s_t_trial, s_t_trial_routes, s_t_trial_routes_cells => (if v1 ≤ v4 then some ((-9 : Int32), s_t_doings, s_t_trial, s_t_trial_grants, s_t_trial_grants_cells, s_t_trial_routes, s_t_trial_routes_cells) else (if (4 : Int32) ≤ v4 then some ((-9 : Int32), s_t_doings, s_t_trial, s_t_trial_grants, s_t_trial_grants_cells, s_t_trial_routes, s_t_trial_routes_cells) else rd s_t_doings 4 v4 (fun x64 => (mX0_canBe s_t_trial s_t_papers s_t_trial_routes s_t_papers_cells s_t_trial_grants s_t_trial_grants_cells s_t_trial_routes_cells x64).bind (fun x65 => (if x65.1 = true then mX3_judge_b42 s_t_doings s_t_now s_t_trial_grants s_t_now_grants s_t_now_grants_cells s_t_trial_grants_cells s_t_now_routes s_t_now_routes_cells s_t_papers s_t_papers_cells v1 n (v4 + (1 : Int32)) x65.2.1 x65.2.2.1 x65.2.2.2 else some (v4, s_t_doings, x65.2.1, s_t_trial_grants, s_t_trial_grants_cells, x65.2.2.1, x65.2.2.2))))))
noncomputable def mX3_judge (s_t_doings : Nat → Int32) (s_t_trial : Int32 × Int32 × Int32) (s_t_now : Int32 × Int32 × Int32) (s_t_trial_grants : Int32 × Int32 × Int32) (s_t_now_grants : Int32 × Int32 × Int32) (s_t_now_grants_cells : Ar) (s_t_trial_grants_cells : Ar) (s_t_trial_routes : Int32 × Int32 × Int32) (s_t_now_routes : Int32 × Int32 × Int32) (s_t_now_routes_cells : Ar) (s_t_trial_routes_cells : Ar) (s_t_papers : Int32 × Int32 × Int32) (s_t_papers_cells : Ar) (v1 : Int32) (v2 : Int64) : Option (Int32 × (Nat → Int32) × (Int32 × Int32 × Int32) × (Int32 × Int32 × Int32) × Ar × (Int32 × Int32 × Int32) × Ar) := (if v1 < (1 : Int32) then some ((-2 : Int32), s_t_doings, s_t_trial, s_t_trial_grants, s_t_trial_grants_cells, s_t_trial_routes, s_t_trial_routes_cells) else (if (4 : Int32) < v1 then some ((-2 : Int32), s_t_doings, s_t_trial, s_t_trial_grants, s_t_trial_grants_cells, s_t_trial_routes, s_t_trial_routes_cells) else (if (lg_cmp v2 (0 : Int64)) < 0 then some ((-2 : Int32), s_t_doings, s_t_trial, s_t_trial_grants, s_t_trial_grants_cells, s_t_trial_routes, s_t_trial_routes_cells) else (mX3_splitDoings s_t_doings v1 v2).bind (fun x19 => (if x19.1 = true then (mX0_copyFrom s_t_trial s_t_now s_t_trial_grants s_t_now_grants s_t_now_grants_cells s_t_trial_grants_cells s_t_trial_routes s_t_now_routes s_t_now_routes_cells s_t_trial_routes_cells).bind (fun x36 => mX3_judge_b42 x19.2 s_t_now x36.2.1 s_t_now_grants s_t_now_grants_cells x36.2.2.1 s_t_now_routes s_t_now_routes_cells s_t_papers s_t_papers_cells v1 FU (0 : Int32) x36.1 x36.2.2.2.1 x36.2.2.2.2) else some ((-2 : Int32), x19.2, s_t_trial, s_t_trial_grants, s_t_trial_grants_cells, s_t_trial_routes, s_t_trial_routes_cells))))))
set_option maxHeartbeats 4000000 in
set_option maxRecDepth 100000 in
theorem okX3_judge {l : Launch} {dC : Nat → ClassId} {dI : Nat → Nat → Nat} {cI cC cZ : ClassId} (a_t a_t_papers a_t_now a_t_trial a_t_firstSlot a_t_secondSlot a_t_acts a_t_seen a_t_text a_t_doings a_t_trial_grants a_t_trial_routes a_t_now_grants a_t_now_routes a_t_trial_grants_cells a_t_now_grants_cells a_t_trial_routes_cells a_t_now_routes_cells a_t_papers_cells : Nat) (s_t : Int32 × Int64) (s_t_doings : Nat → Int32) (s_t_trial : Int32 × Int32 × Int32) (s_t_now : Int32 × Int32 × Int32) (s_t_trial_grants : Int32 × Int32 × Int32) (s_t_now_grants : Int32 × Int32 × Int32) (s_t_now_grants_cells : Ar) (s_t_trial_grants_cells : Ar) (s_t_trial_routes : Int32 × Int32 × Int32) (s_t_now_routes : Int32 × Int32 × Int32) (s_t_now_routes_cells : Ar) (s_t_trial_routes_cells : Ar) (s_t_papers : Int32 × Int32 × Int32) (s_t_papers_cells : Ar) (v1 : Int32) (v2 : Int64) (res : Int32 × (Nat → Int32) × (Int32 × Int32 × Int32) × (Int32 × Int32 × Int32) × Ar × (Int32 × Int32 × Int32) × Ar) (hM : mX3_judge s_t_doings s_t_trial s_t_now s_t_trial_grants s_t_now_grants s_t_now_grants_cells s_t_trial_grants_cells s_t_trial_routes s_t_now_routes s_t_now_routes_cells s_t_trial_routes_cells s_t_papers s_t_papers_cells v1 v2 = some res) : Mu l yX3_judge cX3_judge 5 (some .int) 6 147 (dC, dI) cI cC cZ [(a_t, .inr (3, [.ref a_t_papers, .ref a_t_now, .ref a_t_trial, .ref a_t_firstSlot, .ref a_t_secondSlot, .ref a_t_acts, .ref a_t_seen, .ref a_t_text, .ref a_t_doings, .int s_t.1, .long s_t.2])), (a_t_doings, .inl (cI, 4, .inl s_t_doings)), (a_t_trial, .inr (0, [.ref a_t_papers, .ref a_t_trial_grants, .ref a_t_trial_routes, .int s_t_trial.1, .int s_t_trial.2.1, .int s_t_trial.2.2])), (a_t_now, .inr (0, [.ref a_t_papers, .ref a_t_now_grants, .ref a_t_now_routes, .int s_t_now.1, .int s_t_now.2.1, .int s_t_now.2.2])), (a_t_trial_grants, .inr (1, [.int s_t_trial_grants.1, .int s_t_trial_grants.2.1, .ref a_t_trial_grants_cells, .int s_t_trial_grants.2.2])), (a_t_now_grants, .inr (1, [.int s_t_now_grants.1, .int s_t_now_grants.2.1, .ref a_t_now_grants_cells, .int s_t_now_grants.2.2])), (a_t_now_grants_cells, .inl (cI, s_t_now_grants_cells.1, .inl s_t_now_grants_cells.2)), (a_t_trial_grants_cells, .inl (cI, s_t_trial_grants_cells.1, .inl s_t_trial_grants_cells.2)), (a_t_trial_routes, .inr (1, [.int s_t_trial_routes.1, .int s_t_trial_routes.2.1, .ref a_t_trial_routes_cells, .int s_t_trial_routes.2.2])), (a_t_now_routes, .inr (1, [.int s_t_now_routes.1, .int s_t_now_routes.2.1, .ref a_t_now_routes_cells, .int s_t_now_routes.2.2])), (a_t_now_routes_cells, .inl (cI, s_t_now_routes_cells.1, .inl s_t_now_routes_cells.2)), (a_t_trial_routes_cells, .inl (cI, s_t_trial_routes_cells.1, .inl s_t_trial_routes_cells.2)), (a_t_papers, .inr (1, [.int s_t_papers.1, .int s_t_papers.2.1, .ref a_t_papers_cells, .int s_t_papers.2.2])), (a_t_papers_cells, .inl (cI, s_t_papers_cells.1, .inl s_t_papers_cells.2))] [(a_t, .inr (3, [.ref a_t_papers, .ref a_t_now, .ref a_t_trial, .ref a_t_firstSlot, .ref a_t_secondSlot, .ref a_t_acts, .ref a_t_seen, .ref a_t_text, .ref a_t_doings, .int s_t.1, .long s_t.2])), (a_t_doings, .inl (cI, 4, .inl res.2.1)), (a_t_trial, .inr (0, [.ref a_t_papers, .ref a_t_trial_grants, .ref a_t_trial_routes, .int res.2.2.1.1, .int res.2.2.1.2.1, .int res.2.2.1.2.2])), (a_t_now, .inr (0, [.ref a_t_papers, .ref a_t_now_grants, .ref a_t_now_routes, .int s_t_now.1, .int s_t_now.2.1, .int s_t_now.2.2])), (a_t_trial_grants, .inr (1, [.int res.2.2.2.1.1, .int res.2.2.2.1.2.1, .ref a_t_trial_grants_cells, .int res.2.2.2.1.2.2])), (a_t_now_grants, .inr (1, [.int s_t_now_grants.1, .int s_t_now_grants.2.1, .ref a_t_now_grants_cells, .int s_t_now_grants.2.2])), (a_t_now_grants_cells, .inl (cI, s_t_now_grants_cells.1, .inl s_t_now_grants_cells.2)), (a_t_trial_grants_cells, .inl (cI, res.2.2.2.2.1.1, .inl res.2.2.2.2.1.2)), (a_t_trial_routes, .inr (1, [.int res.2.2.2.2.2.1.1, .int res.2.2.2.2.2.1.2.1, .ref a_t_trial_routes_cells, .int res.2.2.2.2.2.1.2.2])), (a_t_now_routes, .inr (1, [.int s_t_now_routes.1, .int s_t_now_routes.2.1, .ref a_t_now_routes_cells, .int s_t_now_routes.2.2])), (a_t_now_routes_cells, .inl (cI, s_t_now_routes_cells.1, .inl s_t_now_routes_cells.2)), (a_t_trial_routes_cells, .inl (cI, res.2.2.2.2.2.2.1, .inl res.2.2.2.2.2.2.2)), (a_t_papers, .inr (1, [.int s_t_papers.1, .int s_t_papers.2.1, .ref a_t_papers_cells, .int s_t_papers.2.2])), (a_t_papers_cells, .inl (cI, s_t_papers_cells.1, .inl s_t_papers_cells.2))] [.ref a_t, .int v1, .long v2] (some (.int res.1)) := by
  refine Mu.ofI (by decide) (Nat.le_of_ble_eq_true rfl) [(0, .ref a_t), (1, .int v1), (2, .long v2)] rfl ?_
  intro p e s m args below meth c ls Q A hx hb hml hown hU hE hP hD hS hA rt hl
  have hown : s.vm.findClass RX3 = some m.cls := hown
  unfold mX3_judge at hM
  refine lv_iload_n hx hb dX3_judge_0 rfl (lv_at hl 1 rfl) ?_
  refine lv_iconst (v := (1 : Int32)) hx hb dX3_judge_1 (by decide) ?_
  refine lv_icmp_lt (tgt := 25) hx hb dX3_judge_2 (by decide) (fun c2 => ?_) (fun c2 => ?_)
  · have hM := ite_t c2 hM
    refine lv_bipush (v := (-2 : Int32)) hx hb dX3_judge_25 (by decide) ?_
    cases hM
    exact rt _ _ _ _ _ hP hS dX3_judge_27 rfl
  · have hM := ite_f c2 hM
    refine lv_iload_n hx hb dX3_judge_5 rfl (lv_at hl 1 rfl) ?_
    refine lv_iconst (v := (4 : Int32)) hx hb dX3_judge_6 (by decide) ?_
    refine lv_icmp_gt (tgt := 25) hx hb dX3_judge_7 (by decide) (fun c7 => ?_) (fun c7 => ?_)
    · have hM := ite_t c7 hM
      refine lv_bipush (v := (-2 : Int32)) hx hb dX3_judge_25 (by decide) ?_
      cases hM
      exact rt _ _ _ _ _ hP hS dX3_judge_27 rfl
    · have hM := ite_f c7 hM
      refine lv_lload_n hx hb dX3_judge_10 rfl (lv_at hl 2 rfl) ?_
      refine lv_lconst (v := (0 : Int64)) hx hb dX3_judge_11 (by decide) ?_
      refine W.lcmp hx hb dX3_judge_12 ?_
      refine lv_if_lt (tgt := 25) hx hb dX3_judge_13 (by decide) (fun c13 => ?_) (fun c13 => ?_)
      · have hM := ite_t c13 hM
        refine lv_bipush (v := (-2 : Int32)) hx hb dX3_judge_25 (by decide) ?_
        cases hM
        exact rt _ _ _ _ _ hP hS dX3_judge_27 rfl
      · have hM := ite_f c13 hM
        refine lv_aload_n hx hb dX3_judge_16 rfl (lv_at hl 0 rfl) ?_
        refine lv_iload_n hx hb dX3_judge_17 rfl (lv_at hl 1 rfl) ?_
        refine lv_lload_n hx hb dX3_judge_18 rfl (lv_at hl 2 rfl) ?_
        obtain ⟨x19, h19, hM⟩ := bind_e hM
        refine muV (As := [.int v1, .long v2]) (rest := []) (st2 := [.int (b2i x19.1)]) (nw := [(a_t, .inr (3, [.ref a_t_papers, .ref a_t_now, .ref a_t_trial, .ref a_t_firstSlot, .ref a_t_secondSlot, .ref a_t_acts, .ref a_t_seen, .ref a_t_text, .ref a_t_doings, .int s_t.1, .long s_t.2])), (a_t_doings, .inl (cI, 4, .inl x19.2)), (a_t_trial, .inr (0, [.ref a_t_papers, .ref a_t_trial_grants, .ref a_t_trial_routes, .int s_t_trial.1, .int s_t_trial.2.1, .int s_t_trial.2.2])), (a_t_now, .inr (0, [.ref a_t_papers, .ref a_t_now_grants, .ref a_t_now_routes, .int s_t_now.1, .int s_t_now.2.1, .int s_t_now.2.2])), (a_t_trial_grants, .inr (1, [.int s_t_trial_grants.1, .int s_t_trial_grants.2.1, .ref a_t_trial_grants_cells, .int s_t_trial_grants.2.2])), (a_t_now_grants, .inr (1, [.int s_t_now_grants.1, .int s_t_now_grants.2.1, .ref a_t_now_grants_cells, .int s_t_now_grants.2.2])), (a_t_now_grants_cells, .inl (cI, s_t_now_grants_cells.1, .inl s_t_now_grants_cells.2)), (a_t_trial_grants_cells, .inl (cI, s_t_trial_grants_cells.1, .inl s_t_trial_grants_cells.2)), (a_t_trial_routes, .inr (1, [.int s_t_trial_routes.1, .int s_t_trial_routes.2.1, .ref a_t_trial_routes_cells, .int s_t_trial_routes.2.2])), (a_t_now_routes, .inr (1, [.int s_t_now_routes.1, .int s_t_now_routes.2.1, .ref a_t_now_routes_cells, .int s_t_now_routes.2.2])), (a_t_now_routes_cells, .inl (cI, s_t_now_routes_cells.1, .inl s_t_now_routes_cells.2)), (a_t_trial_routes_cells, .inl (cI, s_t_trial_routes_cells.1, .inl s_t_trial_routes_cells.2)), (a_t_papers, .inr (1, [.int s_t_papers.1, .int s_t_papers.2.1, .ref a_t_papers_cells, .int s_t_papers.2.2])), (a_t_papers_cells, .inl (cI, s_t_papers_cells.1, .inl s_t_papers_cells.2))]) ⟨hx, hb, hml, hown, hU⟩ hE (okX3_splitDoings a_t a_t_papers a_t_now a_t_trial a_t_firstSlot a_t_secondSlot a_t_acts a_t_seen a_t_text a_t_doings s_t s_t_doings v1 v2 x19 h19) lk_X3_172 hP hD hS hA [0, 1] rfl rfl rfl rfl rfl rfl hl.1 rfl (Nat.le_of_ble_eq_true rfl) ⟨Nat.le_of_ble_eq_true rfl, Nat.le_of_ble_eq_true rfl⟩ dX3_judge_19 ⟨Nat.le_refl _, Nat.le_refl _⟩ rfl rfl rfl rfl (fun H locs hP hD hS => ?_)
        refine lv_if_ne (tgt := 28) hx hb dX3_judge_22 (by decide) (fun c22 => ?_) (fun c22 => ?_)
        · have hM := ite_t (b2i_ne0 c22) hM
          refine lv_aload_n hx hb dX3_judge_28 rfl (lv_at hl 0 rfl) ?_
          refine va_get (D := (dC, dI)) (ci := 3) (v := .ref a_t_trial) (C := RX3) (T := TX3) (N := 11) hx hb hU inlX3 hown hE.1 hP 0 rfl rfl 2 (by decide) (hU _ u_1_21) (fun _ h9 => h9) rfl dX3_judge_29 ?_
          refine lv_aload_n hx hb dX3_judge_32 rfl (lv_at hl 0 rfl) ?_
          refine va_get (D := (dC, dI)) (ci := 3) (v := .ref a_t_now) (C := RX3) (T := TX3) (N := 11) hx hb hU inlX3 hown hE.1 hP 0 rfl rfl 1 (by decide) (hU _ u_1_20) (fun _ h9 => h9) rfl dX3_judge_33 ?_
          obtain ⟨x36, h36, hM⟩ := bind_e hM
          refine muV (As := [.ref a_t_now]) (rest := []) (st2 := []) (nw := [(a_t, .inr (3, [.ref a_t_papers, .ref a_t_now, .ref a_t_trial, .ref a_t_firstSlot, .ref a_t_secondSlot, .ref a_t_acts, .ref a_t_seen, .ref a_t_text, .ref a_t_doings, .int s_t.1, .long s_t.2])), (a_t_doings, .inl (cI, 4, .inl x19.2)), (a_t_trial, .inr (0, [.ref a_t_papers, .ref a_t_trial_grants, .ref a_t_trial_routes, .int x36.1.1, .int x36.1.2.1, .int x36.1.2.2])), (a_t_now, .inr (0, [.ref a_t_papers, .ref a_t_now_grants, .ref a_t_now_routes, .int s_t_now.1, .int s_t_now.2.1, .int s_t_now.2.2])), (a_t_trial_grants, .inr (1, [.int x36.2.1.1, .int x36.2.1.2.1, .ref a_t_trial_grants_cells, .int x36.2.1.2.2])), (a_t_now_grants, .inr (1, [.int s_t_now_grants.1, .int s_t_now_grants.2.1, .ref a_t_now_grants_cells, .int s_t_now_grants.2.2])), (a_t_now_grants_cells, .inl (cI, s_t_now_grants_cells.1, .inl s_t_now_grants_cells.2)), (a_t_trial_grants_cells, .inl (cI, x36.2.2.1.1, .inl x36.2.2.1.2)), (a_t_trial_routes, .inr (1, [.int x36.2.2.2.1.1, .int x36.2.2.2.1.2.1, .ref a_t_trial_routes_cells, .int x36.2.2.2.1.2.2])), (a_t_now_routes, .inr (1, [.int s_t_now_routes.1, .int s_t_now_routes.2.1, .ref a_t_now_routes_cells, .int s_t_now_routes.2.2])), (a_t_now_routes_cells, .inl (cI, s_t_now_routes_cells.1, .inl s_t_now_routes_cells.2)), (a_t_trial_routes_cells, .inl (cI, x36.2.2.2.2.1, .inl x36.2.2.2.2.2)), (a_t_papers, .inr (1, [.int s_t_papers.1, .int s_t_papers.2.1, .ref a_t_papers_cells, .int s_t_papers.2.2])), (a_t_papers_cells, .inl (cI, s_t_papers_cells.1, .inl s_t_papers_cells.2))]) ⟨hx, hb, hml, hown, hU⟩ hE (okX0_copyFrom a_t_trial a_t_papers a_t_trial_grants a_t_trial_routes a_t_now a_t_papers a_t_now_grants a_t_now_routes a_t_trial_grants_cells a_t_now_grants_cells a_t_trial_routes_cells a_t_now_routes_cells s_t_trial s_t_now s_t_trial_grants s_t_now_grants s_t_now_grants_cells s_t_trial_grants_cells s_t_trial_routes s_t_now_routes s_t_now_routes_cells s_t_trial_routes_cells x36 h36) lk_X3_163 hP hD hS hA [2, 3, 4, 5, 6, 7, 8, 9, 10, 11] rfl rfl rfl rfl rfl rfl hl.1 rfl (Nat.le_of_ble_eq_true rfl) ⟨Nat.le_of_ble_eq_true rfl, Nat.le_of_ble_eq_true rfl⟩ dX3_judge_36 ⟨Nat.le_refl _, Nat.le_refl _⟩ rfl rfl rfl rfl (fun H locs hP hD hS => ?_)
          refine lv_iconst (v := (0 : Int32)) hx hb dX3_judge_39 (by decide) ?_
          refine lv_istore (lv' := [(4, .int (0 : Int32)), (0, .ref a_t), (1, .int v1), (2, .long v2)]) hx hb dX3_judge_40 hl (by decide) rfl (fun ls hl => ?_)
          have w_42 : ∀ (n : Nat) (v4_42 : Int32) (s_t_trial_42 : Int32 × Int32 × Int32) (s_t_trial_routes_42 : Int32 × Int32 × Int32) (s_t_trial_routes_cells_42 : Ar), mX3_judge_b42 x19.2 s_t_now x36.2.1 s_t_now_grants s_t_now_grants_cells x36.2.2.1 s_t_now_routes s_t_now_routes_cells s_t_papers s_t_papers_cells v1 n v4_42 s_t_trial_42 s_t_trial_routes_42 s_t_trial_routes_cells_42 = some res → ∀ (ls : Array Slot) (H : Heap) (locs : List Loc), va_P (dC, dI) vwCl [(a_t, .inr (3, [.ref a_t_papers, .ref a_t_now, .ref a_t_trial, .ref a_t_firstSlot, .ref a_t_secondSlot, .ref a_t_acts, .ref a_t_seen, .ref a_t_text, .ref a_t_doings, .int s_t.1, .long s_t.2])), (a_t_doings, .inl (cI, 4, .inl x19.2)), (a_t_trial, .inr (0, [.ref a_t_papers, .ref a_t_trial_grants, .ref a_t_trial_routes, .int s_t_trial_42.1, .int s_t_trial_42.2.1, .int s_t_trial_42.2.2])), (a_t_now, .inr (0, [.ref a_t_papers, .ref a_t_now_grants, .ref a_t_now_routes, .int s_t_now.1, .int s_t_now.2.1, .int s_t_now.2.2])), (a_t_trial_grants, .inr (1, [.int x36.2.1.1, .int x36.2.1.2.1, .ref a_t_trial_grants_cells, .int x36.2.1.2.2])), (a_t_now_grants, .inr (1, [.int s_t_now_grants.1, .int s_t_now_grants.2.1, .ref a_t_now_grants_cells, .int s_t_now_grants.2.2])), (a_t_now_grants_cells, .inl (cI, s_t_now_grants_cells.1, .inl s_t_now_grants_cells.2)), (a_t_trial_grants_cells, .inl (cI, x36.2.2.1.1, .inl x36.2.2.1.2)), (a_t_trial_routes, .inr (1, [.int s_t_trial_routes_42.1, .int s_t_trial_routes_42.2.1, .ref a_t_trial_routes_cells, .int s_t_trial_routes_42.2.2])), (a_t_now_routes, .inr (1, [.int s_t_now_routes.1, .int s_t_now_routes.2.1, .ref a_t_now_routes_cells, .int s_t_now_routes.2.2])), (a_t_now_routes_cells, .inl (cI, s_t_now_routes_cells.1, .inl s_t_now_routes_cells.2)), (a_t_trial_routes_cells, .inl (cI, s_t_trial_routes_cells_42.1, .inl s_t_trial_routes_cells_42.2)), (a_t_papers, .inr (1, [.int s_t_papers.1, .int s_t_papers.2.1, .ref a_t_papers_cells, .int s_t_papers.2.2])), (a_t_papers_cells, .inl (cI, s_t_papers_cells.1, .inl s_t_papers_cells.2))] H → va_D A [(a_t, .inr (3, [.ref a_t_papers, .ref a_t_now, .ref a_t_trial, .ref a_t_firstSlot, .ref a_t_secondSlot, .ref a_t_acts, .ref a_t_seen, .ref a_t_text, .ref a_t_doings, .int s_t.1, .long s_t.2])), (a_t_doings, .inl (cI, 4, .inl x19.2)), (a_t_trial, .inr (0, [.ref a_t_papers, .ref a_t_trial_grants, .ref a_t_trial_routes, .int s_t_trial_42.1, .int s_t_trial_42.2.1, .int s_t_trial_42.2.2])), (a_t_now, .inr (0, [.ref a_t_papers, .ref a_t_now_grants, .ref a_t_now_routes, .int s_t_now.1, .int s_t_now.2.1, .int s_t_now.2.2])), (a_t_trial_grants, .inr (1, [.int x36.2.1.1, .int x36.2.1.2.1, .ref a_t_trial_grants_cells, .int x36.2.1.2.2])), (a_t_now_grants, .inr (1, [.int s_t_now_grants.1, .int s_t_now_grants.2.1, .ref a_t_now_grants_cells, .int s_t_now_grants.2.2])), (a_t_now_grants_cells, .inl (cI, s_t_now_grants_cells.1, .inl s_t_now_grants_cells.2)), (a_t_trial_grants_cells, .inl (cI, x36.2.2.1.1, .inl x36.2.2.1.2)), (a_t_trial_routes, .inr (1, [.int s_t_trial_routes_42.1, .int s_t_trial_routes_42.2.1, .ref a_t_trial_routes_cells, .int s_t_trial_routes_42.2.2])), (a_t_now_routes, .inr (1, [.int s_t_now_routes.1, .int s_t_now_routes.2.1, .ref a_t_now_routes_cells, .int s_t_now_routes.2.2])), (a_t_now_routes_cells, .inl (cI, s_t_now_routes_cells.1, .inl s_t_now_routes_cells.2)), (a_t_trial_routes_cells, .inl (cI, s_t_trial_routes_cells_42.1, .inl s_t_trial_routes_cells_42.2)), (a_t_papers, .inr (1, [.int s_t_papers.1, .int s_t_papers.2.1, .ref a_t_papers_cells, .int s_t_papers.2.2])), (a_t_papers_cells, .inl (cI, s_t_papers_cells.1, .inl s_t_papers_cells.2))] → va_S A s.heap H locs → lv_has ls 5 [(0, .ref a_t), (1, .int v1), (4, .int v4_42)] → W p l e (RM 6 147) s m args below meth c H locs 0 0 Q (F0 m 42 ls []) := by
            intro n
            induction n with
            | zero =>
              intro v4_42 s_t_trial_42 s_t_trial_routes_42 s_t_trial_routes_cells_42 hM
              rw [mX3_judge_b42] at hM
              cases hM
            | succ n_42 ih_42 =>
              intro v4_42 s_t_trial_42 s_t_trial_routes_42 s_t_trial_routes_cells_42 hM ls H locs hP hD hS hl
              rw [mX3_judge_b42] at hM
              refine lv_iload hx hb dX3_judge_42 (lv_at hl 2 rfl) ?_
              refine lv_iload_n hx hb dX3_judge_44 rfl (lv_at hl 1 rfl) ?_
              refine lv_icmp_ge (tgt := 80) hx hb dX3_judge_45 (by decide) (fun c45 => ?_) (fun c45 => ?_)
              · have hM := ite_t c45 hM
                refine lv_bipush (v := (-9 : Int32)) hx hb dX3_judge_80 (by decide) ?_
                cases hM
                exact rt _ _ _ _ _ hP hS dX3_judge_82 rfl
              · have hM := ite_f c45 hM
                refine lv_iload hx hb dX3_judge_48 (lv_at hl 2 rfl) ?_
                refine lv_iconst (v := (4 : Int32)) hx hb dX3_judge_50 (by decide) ?_
                refine lv_icmp_ge (tgt := 80) hx hb dX3_judge_51 (by decide) (fun c51 => ?_) (fun c51 => ?_)
                · have hM := ite_t c51 hM
                  refine lv_bipush (v := (-9 : Int32)) hx hb dX3_judge_80 (by decide) ?_
                  cases hM
                  exact rt _ _ _ _ _ hP hS dX3_judge_82 rfl
                · have hM := ite_f c51 hM
                  refine lv_aload_n hx hb dX3_judge_54 rfl (lv_at hl 0 rfl) ?_
                  refine va_get (D := (dC, dI)) (ci := 3) (v := .ref a_t_trial) (C := RX3) (T := TX3) (N := 11) hx hb hU inlX3 hown hE.1 hP 0 rfl rfl 2 (by decide) (hU _ u_1_21) (fun _ h9 => h9) rfl dX3_judge_55 ?_
                  refine lv_aload_n hx hb dX3_judge_58 rfl (lv_at hl 0 rfl) ?_
                  refine va_get (D := (dC, dI)) (ci := 3) (v := .ref a_t_doings) (C := RX3) (T := TX3) (N := 11) hx hb hU inlX3 hown hE.1 hP 0 rfl rfl 8 (by decide) (hU _ u_2_7) (fun _ h9 => h9) rfl dX3_judge_59 ?_
                  refine lv_iload hx hb dX3_judge_62 (lv_at hl 2 rfl) ?_
                  obtain ⟨g64, hM⟩ := rd_e hM
                  refine va_iald hx hb hE.1 hP 1 0 rfl rfl g64 dX3_judge_64 ?_
                  obtain ⟨x65, h65, hM⟩ := bind_e hM
                  refine muV (As := [.int (x19.2 v4_42.toNatClampNeg)]) (rest := []) (st2 := [.int (b2i x65.1)]) (nw := [(a_t, .inr (3, [.ref a_t_papers, .ref a_t_now, .ref a_t_trial, .ref a_t_firstSlot, .ref a_t_secondSlot, .ref a_t_acts, .ref a_t_seen, .ref a_t_text, .ref a_t_doings, .int s_t.1, .long s_t.2])), (a_t_doings, .inl (cI, 4, .inl x19.2)), (a_t_trial, .inr (0, [.ref a_t_papers, .ref a_t_trial_grants, .ref a_t_trial_routes, .int x65.2.1.1, .int x65.2.1.2.1, .int x65.2.1.2.2])), (a_t_now, .inr (0, [.ref a_t_papers, .ref a_t_now_grants, .ref a_t_now_routes, .int s_t_now.1, .int s_t_now.2.1, .int s_t_now.2.2])), (a_t_trial_grants, .inr (1, [.int x36.2.1.1, .int x36.2.1.2.1, .ref a_t_trial_grants_cells, .int x36.2.1.2.2])), (a_t_now_grants, .inr (1, [.int s_t_now_grants.1, .int s_t_now_grants.2.1, .ref a_t_now_grants_cells, .int s_t_now_grants.2.2])), (a_t_now_grants_cells, .inl (cI, s_t_now_grants_cells.1, .inl s_t_now_grants_cells.2)), (a_t_trial_grants_cells, .inl (cI, x36.2.2.1.1, .inl x36.2.2.1.2)), (a_t_trial_routes, .inr (1, [.int x65.2.2.1.1, .int x65.2.2.1.2.1, .ref a_t_trial_routes_cells, .int x65.2.2.1.2.2])), (a_t_now_routes, .inr (1, [.int s_t_now_routes.1, .int s_t_now_routes.2.1, .ref a_t_now_routes_cells, .int s_t_now_routes.2.2])), (a_t_now_routes_cells, .inl (cI, s_t_now_routes_cells.1, .inl s_t_now_routes_cells.2)), (a_t_trial_routes_cells, .inl (cI, x65.2.2.2.1, .inl x65.2.2.2.2)), (a_t_papers, .inr (1, [.int s_t_papers.1, .int s_t_papers.2.1, .ref a_t_papers_cells, .int s_t_papers.2.2])), (a_t_papers_cells, .inl (cI, s_t_papers_cells.1, .inl s_t_papers_cells.2))]) ⟨hx, hb, hml, hown, hU⟩ hE (okX0_canBe a_t_trial a_t_papers a_t_trial_grants a_t_trial_routes a_t_papers_cells a_t_trial_routes_cells a_t_trial_grants_cells s_t_trial_42 s_t_papers s_t_trial_routes_42 s_t_papers_cells x36.2.1 x36.2.2.1 s_t_trial_routes_cells_42 (x19.2 v4_42.toNatClampNeg) x65 h65) lk_X3_176 hP hD hS hA [2, 12, 8, 13, 4, 7, 11] rfl rfl rfl rfl rfl rfl hl.1 rfl (Nat.le_of_ble_eq_true rfl) ⟨Nat.le_of_ble_eq_true rfl, Nat.le_of_ble_eq_true rfl⟩ dX3_judge_65 ⟨Nat.le_refl _, Nat.le_refl _⟩ rfl rfl rfl rfl (fun H locs hP hD hS => ?_)
                  refine lv_if_ne (tgt := 74) hx hb dX3_judge_68 (by decide) (fun c68 => ?_) (fun c68 => ?_)
                  · have hM := ite_t (b2i_ne0 c68) hM
                    refine lv_iinc (v := (v4_42 + (1 : Int32))) (lv' := [(4, .int (v4_42 + (1 : Int32))), (0, .ref a_t), (1, .int v1)]) hx hb dX3_judge_74 hl (k := 2) rfl rfl (by decide) rfl (fun ls hl => ?_)
                    refine lv_goto (tgt := 42) hx hb dX3_judge_77 (by decide) ?_
                    exact ih_42 (v4_42 + (1 : Int32)) x65.2.1 x65.2.2.1 x65.2.2.2 hM ls _ _ hP hD hS (lv_sub hl [1, 2, 0] rfl)
                  · have hM := ite_f (b2i_eq0 c68) hM
                    refine lv_iload hx hb dX3_judge_71 (lv_at hl 2 rfl) ?_
                    cases hM
                    exact rt _ _ _ _ _ hP hS dX3_judge_73 rfl
          exact w_42 FU (0 : Int32) x36.1 x36.2.2.2.1 x36.2.2.2.2 hM ls _ _ hP hD hS (lv_sub hl [1, 2, 0] rfl)
        · have hM := ite_f (b2i_eq0 c22) hM
          refine lv_bipush (v := (-2 : Int32)) hx hb dX3_judge_25 (by decide) ?_
          cases hM
          exact rt _ _ _ _ _ hP hS dX3_judge_27 rfl
noncomputable def mX3_keep (s_t : Int32 × Int64) (s_t_firstSlot : Int32 × Int32 × Int32) (s_t_now : Int32 × Int32 × Int32) (s_t_firstSlot_grants : Int32 × Int32 × Int32) (s_t_now_grants : Int32 × Int32 × Int32) (s_t_now_grants_cells : Ar) (s_t_firstSlot_grants_cells : Ar) (s_t_firstSlot_routes : Int32 × Int32 × Int32) (s_t_now_routes : Int32 × Int32 × Int32) (s_t_now_routes_cells : Ar) (s_t_firstSlot_routes_cells : Ar) (s_t_secondSlot : Int32 × Int32 × Int32) (s_t_secondSlot_grants : Int32 × Int32 × Int32) (s_t_secondSlot_grants_cells : Ar) (s_t_secondSlot_routes : Int32 × Int32 × Int32) (s_t_secondSlot_routes_cells : Ar) (v1 : Int32) : Option (Int32 × (Int32 × Int64) × (Int32 × Int32 × Int32) × (Int32 × Int32 × Int32) × Ar × (Int32 × Int32 × Int32) × Ar × (Int32 × Int32 × Int32) × (Int32 × Int32 × Int32) × Ar × (Int32 × Int32 × Int32) × Ar) := (if v1 < 0 then some ((-1 : Int32), s_t, s_t_firstSlot, s_t_firstSlot_grants, s_t_firstSlot_grants_cells, s_t_firstSlot_routes, s_t_firstSlot_routes_cells, s_t_secondSlot, s_t_secondSlot_grants, s_t_secondSlot_grants_cells, s_t_secondSlot_routes, s_t_secondSlot_routes_cells) else (if v1 < (2 : Int32) then (if v1 = (0 : Int32) then (mX0_copyFrom s_t_firstSlot s_t_now s_t_firstSlot_grants s_t_now_grants s_t_now_grants_cells s_t_firstSlot_grants_cells s_t_firstSlot_routes s_t_now_routes s_t_now_routes_cells s_t_firstSlot_routes_cells).bind (fun x20 => some (s_t_now_routes.2.2, ((s_t.1 ||| ((1 : Int32) <<< (v1 &&& 31))), s_t.2), x20.1, x20.2.1, x20.2.2.1, x20.2.2.2.1, x20.2.2.2.2, s_t_secondSlot, s_t_secondSlot_grants, s_t_secondSlot_grants_cells, s_t_secondSlot_routes, s_t_secondSlot_routes_cells)) else (mX0_copyFrom s_t_secondSlot s_t_now s_t_secondSlot_grants s_t_now_grants s_t_now_grants_cells s_t_secondSlot_grants_cells s_t_secondSlot_routes s_t_now_routes s_t_now_routes_cells s_t_secondSlot_routes_cells).bind (fun x20 => some (s_t_now_routes.2.2, ((s_t.1 ||| ((1 : Int32) <<< (v1 &&& 31))), s_t.2), s_t_firstSlot, s_t_firstSlot_grants, s_t_firstSlot_grants_cells, s_t_firstSlot_routes, s_t_firstSlot_routes_cells, x20.1, x20.2.1, x20.2.2.1, x20.2.2.2.1, x20.2.2.2.2))) else some ((-1 : Int32), s_t, s_t_firstSlot, s_t_firstSlot_grants, s_t_firstSlot_grants_cells, s_t_firstSlot_routes, s_t_firstSlot_routes_cells, s_t_secondSlot, s_t_secondSlot_grants, s_t_secondSlot_grants_cells, s_t_secondSlot_routes, s_t_secondSlot_routes_cells)))
set_option maxHeartbeats 4000000 in
set_option maxRecDepth 100000 in
theorem okX3_keep {l : Launch} {dC : Nat → ClassId} {dI : Nat → Nat → Nat} {cI cC cZ : ClassId} (a_t a_t_papers a_t_now a_t_trial a_t_firstSlot a_t_secondSlot a_t_acts a_t_seen a_t_text a_t_doings a_t_firstSlot_grants a_t_firstSlot_routes a_t_now_grants a_t_now_routes a_t_firstSlot_grants_cells a_t_now_grants_cells a_t_firstSlot_routes_cells a_t_now_routes_cells a_t_secondSlot_grants a_t_secondSlot_routes a_t_secondSlot_grants_cells a_t_secondSlot_routes_cells : Nat) (s_t : Int32 × Int64) (s_t_firstSlot : Int32 × Int32 × Int32) (s_t_now : Int32 × Int32 × Int32) (s_t_firstSlot_grants : Int32 × Int32 × Int32) (s_t_now_grants : Int32 × Int32 × Int32) (s_t_now_grants_cells : Ar) (s_t_firstSlot_grants_cells : Ar) (s_t_firstSlot_routes : Int32 × Int32 × Int32) (s_t_now_routes : Int32 × Int32 × Int32) (s_t_now_routes_cells : Ar) (s_t_firstSlot_routes_cells : Ar) (s_t_secondSlot : Int32 × Int32 × Int32) (s_t_secondSlot_grants : Int32 × Int32 × Int32) (s_t_secondSlot_grants_cells : Ar) (s_t_secondSlot_routes : Int32 × Int32 × Int32) (s_t_secondSlot_routes_cells : Ar) (v1 : Int32) (res : Int32 × (Int32 × Int64) × (Int32 × Int32 × Int32) × (Int32 × Int32 × Int32) × Ar × (Int32 × Int32 × Int32) × Ar × (Int32 × Int32 × Int32) × (Int32 × Int32 × Int32) × Ar × (Int32 × Int32 × Int32) × Ar) (hM : mX3_keep s_t s_t_firstSlot s_t_now s_t_firstSlot_grants s_t_now_grants s_t_now_grants_cells s_t_firstSlot_grants_cells s_t_firstSlot_routes s_t_now_routes s_t_now_routes_cells s_t_firstSlot_routes_cells s_t_secondSlot s_t_secondSlot_grants s_t_secondSlot_grants_cells s_t_secondSlot_routes s_t_secondSlot_routes_cells v1 = some res) : Mu l yX3_keep cX3_keep 2 (some .int) 3 82 (dC, dI) cI cC cZ [(a_t, .inr (3, [.ref a_t_papers, .ref a_t_now, .ref a_t_trial, .ref a_t_firstSlot, .ref a_t_secondSlot, .ref a_t_acts, .ref a_t_seen, .ref a_t_text, .ref a_t_doings, .int s_t.1, .long s_t.2])), (a_t_firstSlot, .inr (0, [.ref a_t_papers, .ref a_t_firstSlot_grants, .ref a_t_firstSlot_routes, .int s_t_firstSlot.1, .int s_t_firstSlot.2.1, .int s_t_firstSlot.2.2])), (a_t_now, .inr (0, [.ref a_t_papers, .ref a_t_now_grants, .ref a_t_now_routes, .int s_t_now.1, .int s_t_now.2.1, .int s_t_now.2.2])), (a_t_firstSlot_grants, .inr (1, [.int s_t_firstSlot_grants.1, .int s_t_firstSlot_grants.2.1, .ref a_t_firstSlot_grants_cells, .int s_t_firstSlot_grants.2.2])), (a_t_now_grants, .inr (1, [.int s_t_now_grants.1, .int s_t_now_grants.2.1, .ref a_t_now_grants_cells, .int s_t_now_grants.2.2])), (a_t_now_grants_cells, .inl (cI, s_t_now_grants_cells.1, .inl s_t_now_grants_cells.2)), (a_t_firstSlot_grants_cells, .inl (cI, s_t_firstSlot_grants_cells.1, .inl s_t_firstSlot_grants_cells.2)), (a_t_firstSlot_routes, .inr (1, [.int s_t_firstSlot_routes.1, .int s_t_firstSlot_routes.2.1, .ref a_t_firstSlot_routes_cells, .int s_t_firstSlot_routes.2.2])), (a_t_now_routes, .inr (1, [.int s_t_now_routes.1, .int s_t_now_routes.2.1, .ref a_t_now_routes_cells, .int s_t_now_routes.2.2])), (a_t_now_routes_cells, .inl (cI, s_t_now_routes_cells.1, .inl s_t_now_routes_cells.2)), (a_t_firstSlot_routes_cells, .inl (cI, s_t_firstSlot_routes_cells.1, .inl s_t_firstSlot_routes_cells.2)), (a_t_secondSlot, .inr (0, [.ref a_t_papers, .ref a_t_secondSlot_grants, .ref a_t_secondSlot_routes, .int s_t_secondSlot.1, .int s_t_secondSlot.2.1, .int s_t_secondSlot.2.2])), (a_t_secondSlot_grants, .inr (1, [.int s_t_secondSlot_grants.1, .int s_t_secondSlot_grants.2.1, .ref a_t_secondSlot_grants_cells, .int s_t_secondSlot_grants.2.2])), (a_t_secondSlot_grants_cells, .inl (cI, s_t_secondSlot_grants_cells.1, .inl s_t_secondSlot_grants_cells.2)), (a_t_secondSlot_routes, .inr (1, [.int s_t_secondSlot_routes.1, .int s_t_secondSlot_routes.2.1, .ref a_t_secondSlot_routes_cells, .int s_t_secondSlot_routes.2.2])), (a_t_secondSlot_routes_cells, .inl (cI, s_t_secondSlot_routes_cells.1, .inl s_t_secondSlot_routes_cells.2))] [(a_t, .inr (3, [.ref a_t_papers, .ref a_t_now, .ref a_t_trial, .ref a_t_firstSlot, .ref a_t_secondSlot, .ref a_t_acts, .ref a_t_seen, .ref a_t_text, .ref a_t_doings, .int res.2.1.1, .long res.2.1.2])), (a_t_firstSlot, .inr (0, [.ref a_t_papers, .ref a_t_firstSlot_grants, .ref a_t_firstSlot_routes, .int res.2.2.1.1, .int res.2.2.1.2.1, .int res.2.2.1.2.2])), (a_t_now, .inr (0, [.ref a_t_papers, .ref a_t_now_grants, .ref a_t_now_routes, .int s_t_now.1, .int s_t_now.2.1, .int s_t_now.2.2])), (a_t_firstSlot_grants, .inr (1, [.int res.2.2.2.1.1, .int res.2.2.2.1.2.1, .ref a_t_firstSlot_grants_cells, .int res.2.2.2.1.2.2])), (a_t_now_grants, .inr (1, [.int s_t_now_grants.1, .int s_t_now_grants.2.1, .ref a_t_now_grants_cells, .int s_t_now_grants.2.2])), (a_t_now_grants_cells, .inl (cI, s_t_now_grants_cells.1, .inl s_t_now_grants_cells.2)), (a_t_firstSlot_grants_cells, .inl (cI, res.2.2.2.2.1.1, .inl res.2.2.2.2.1.2)), (a_t_firstSlot_routes, .inr (1, [.int res.2.2.2.2.2.1.1, .int res.2.2.2.2.2.1.2.1, .ref a_t_firstSlot_routes_cells, .int res.2.2.2.2.2.1.2.2])), (a_t_now_routes, .inr (1, [.int s_t_now_routes.1, .int s_t_now_routes.2.1, .ref a_t_now_routes_cells, .int s_t_now_routes.2.2])), (a_t_now_routes_cells, .inl (cI, s_t_now_routes_cells.1, .inl s_t_now_routes_cells.2)), (a_t_firstSlot_routes_cells, .inl (cI, res.2.2.2.2.2.2.1.1, .inl res.2.2.2.2.2.2.1.2)), (a_t_secondSlot, .inr (0, [.ref a_t_papers, .ref a_t_secondSlot_grants, .ref a_t_secondSlot_routes, .int res.2.2.2.2.2.2.2.1.1, .int res.2.2.2.2.2.2.2.1.2.1, .int res.2.2.2.2.2.2.2.1.2.2])), (a_t_secondSlot_grants, .inr (1, [.int res.2.2.2.2.2.2.2.2.1.1, .int res.2.2.2.2.2.2.2.2.1.2.1, .ref a_t_secondSlot_grants_cells, .int res.2.2.2.2.2.2.2.2.1.2.2])), (a_t_secondSlot_grants_cells, .inl (cI, res.2.2.2.2.2.2.2.2.2.1.1, .inl res.2.2.2.2.2.2.2.2.2.1.2)), (a_t_secondSlot_routes, .inr (1, [.int res.2.2.2.2.2.2.2.2.2.2.1.1, .int res.2.2.2.2.2.2.2.2.2.2.1.2.1, .ref a_t_secondSlot_routes_cells, .int res.2.2.2.2.2.2.2.2.2.2.1.2.2])), (a_t_secondSlot_routes_cells, .inl (cI, res.2.2.2.2.2.2.2.2.2.2.2.1, .inl res.2.2.2.2.2.2.2.2.2.2.2.2))] [.ref a_t, .int v1] (some (.int res.1)) := by
  refine Mu.ofI (by decide) (Nat.le_of_ble_eq_true rfl) [(0, .ref a_t), (1, .int v1)] rfl ?_
  intro p e s m args below meth c ls Q A hx hb hml hown hU hE hP hD hS hA rt hl
  have hown : s.vm.findClass RX3 = some m.cls := hown
  unfold mX3_keep at hM
  refine lv_iload_n hx hb dX3_keep_0 rfl (lv_at hl 1 rfl) ?_
  refine lv_if_lt (tgt := 9) hx hb dX3_keep_1 (by decide) (fun c1 => ?_) (fun c1 => ?_)
  · have hM := ite_t c1 hM
    refine lv_iconst (v := (-1 : Int32)) hx hb dX3_keep_9 (by decide) ?_
    cases hM
    exact rt _ _ _ _ _ hP hS dX3_keep_10 rfl
  · have hM := ite_f c1 hM
    refine lv_iload_n hx hb dX3_keep_4 rfl (lv_at hl 1 rfl) ?_
    refine lv_iconst (v := (2 : Int32)) hx hb dX3_keep_5 (by decide) ?_
    refine lv_icmp_lt (tgt := 11) hx hb dX3_keep_6 (by decide) (fun c6 => ?_) (fun c6 => ?_)
    · have hM := ite_t c6 hM
      refine lv_aload_n hx hb dX3_keep_11 rfl (lv_at hl 0 rfl) ?_
      refine lv_iload_n hx hb dX3_keep_12 rfl (lv_at hl 1 rfl) ?_
      by_cases c13 : v1 = (0 : Int32)
      · have hM := ite_t c13 hM
        refine rdV (As := [.int v1]) (rest := []) (st2 := [.ref a_t_firstSlot]) ⟨hx, hb, hml, hown, hU⟩ hE (okX3_slotBooks_0 a_t a_t_papers a_t_now a_t_trial a_t_firstSlot a_t_secondSlot a_t_acts a_t_seen a_t_text a_t_doings s_t v1 c13) lk_X3_210 (hP.sub [0] rfl) rfl rfl rfl hl.1 rfl (Nat.le_of_ble_eq_true rfl) ⟨Nat.le_of_ble_eq_true rfl, Nat.le_of_ble_eq_true rfl⟩ dX3_keep_13 ⟨Nat.le_refl _, Nat.le_refl _⟩ rfl ?_
        refine lv_aload_n hx hb dX3_keep_16 rfl (lv_at hl 0 rfl) ?_
        refine va_get (D := (dC, dI)) (ci := 3) (v := .ref a_t_now) (C := RX3) (T := TX3) (N := 11) hx hb hU inlX3 hown hE.1 hP 0 rfl rfl 1 (by decide) (hU _ u_1_20) (fun _ h9 => h9) rfl dX3_keep_17 ?_
        obtain ⟨x20, h20, hM⟩ := bind_e hM
        refine muV (As := [.ref a_t_now]) (rest := []) (st2 := []) (nw := [(a_t, .inr (3, [.ref a_t_papers, .ref a_t_now, .ref a_t_trial, .ref a_t_firstSlot, .ref a_t_secondSlot, .ref a_t_acts, .ref a_t_seen, .ref a_t_text, .ref a_t_doings, .int s_t.1, .long s_t.2])), (a_t_firstSlot, .inr (0, [.ref a_t_papers, .ref a_t_firstSlot_grants, .ref a_t_firstSlot_routes, .int x20.1.1, .int x20.1.2.1, .int x20.1.2.2])), (a_t_now, .inr (0, [.ref a_t_papers, .ref a_t_now_grants, .ref a_t_now_routes, .int s_t_now.1, .int s_t_now.2.1, .int s_t_now.2.2])), (a_t_firstSlot_grants, .inr (1, [.int x20.2.1.1, .int x20.2.1.2.1, .ref a_t_firstSlot_grants_cells, .int x20.2.1.2.2])), (a_t_now_grants, .inr (1, [.int s_t_now_grants.1, .int s_t_now_grants.2.1, .ref a_t_now_grants_cells, .int s_t_now_grants.2.2])), (a_t_now_grants_cells, .inl (cI, s_t_now_grants_cells.1, .inl s_t_now_grants_cells.2)), (a_t_firstSlot_grants_cells, .inl (cI, x20.2.2.1.1, .inl x20.2.2.1.2)), (a_t_firstSlot_routes, .inr (1, [.int x20.2.2.2.1.1, .int x20.2.2.2.1.2.1, .ref a_t_firstSlot_routes_cells, .int x20.2.2.2.1.2.2])), (a_t_now_routes, .inr (1, [.int s_t_now_routes.1, .int s_t_now_routes.2.1, .ref a_t_now_routes_cells, .int s_t_now_routes.2.2])), (a_t_now_routes_cells, .inl (cI, s_t_now_routes_cells.1, .inl s_t_now_routes_cells.2)), (a_t_firstSlot_routes_cells, .inl (cI, x20.2.2.2.2.1, .inl x20.2.2.2.2.2)), (a_t_secondSlot, .inr (0, [.ref a_t_papers, .ref a_t_secondSlot_grants, .ref a_t_secondSlot_routes, .int s_t_secondSlot.1, .int s_t_secondSlot.2.1, .int s_t_secondSlot.2.2])), (a_t_secondSlot_grants, .inr (1, [.int s_t_secondSlot_grants.1, .int s_t_secondSlot_grants.2.1, .ref a_t_secondSlot_grants_cells, .int s_t_secondSlot_grants.2.2])), (a_t_secondSlot_grants_cells, .inl (cI, s_t_secondSlot_grants_cells.1, .inl s_t_secondSlot_grants_cells.2)), (a_t_secondSlot_routes, .inr (1, [.int s_t_secondSlot_routes.1, .int s_t_secondSlot_routes.2.1, .ref a_t_secondSlot_routes_cells, .int s_t_secondSlot_routes.2.2])), (a_t_secondSlot_routes_cells, .inl (cI, s_t_secondSlot_routes_cells.1, .inl s_t_secondSlot_routes_cells.2))]) ⟨hx, hb, hml, hown, hU⟩ hE (okX0_copyFrom a_t_firstSlot a_t_papers a_t_firstSlot_grants a_t_firstSlot_routes a_t_now a_t_papers a_t_now_grants a_t_now_routes a_t_firstSlot_grants_cells a_t_now_grants_cells a_t_firstSlot_routes_cells a_t_now_routes_cells s_t_firstSlot s_t_now s_t_firstSlot_grants s_t_now_grants s_t_now_grants_cells s_t_firstSlot_grants_cells s_t_firstSlot_routes s_t_now_routes s_t_now_routes_cells s_t_firstSlot_routes_cells x20 h20) lk_X3_163 hP hD hS hA [1, 2, 3, 4, 5, 6, 7, 8, 9, 10] rfl rfl rfl rfl rfl rfl hl.1 rfl (Nat.le_of_ble_eq_true rfl) ⟨Nat.le_of_ble_eq_true rfl, Nat.le_of_ble_eq_true rfl⟩ dX3_keep_20 ⟨Nat.le_refl _, Nat.le_refl _⟩ rfl rfl rfl rfl (fun H locs hP hD hS => ?_)
        refine lv_aload_n hx hb dX3_keep_23 rfl (lv_at hl 0 rfl) ?_
        refine lv_dup hx hb dX3_keep_24 rfl ?_
        refine va_get (D := (dC, dI)) (ci := 3) (v := .int s_t.1) (C := RX3) (T := TX3) (N := 11) hx hb hU inlX3 hown hE.1 hP 0 rfl rfl 9 (by decide) (hU _ u_10_17) (fun _ h9 => h9) rfl dX3_keep_25 ?_
        refine lv_iconst (v := (1 : Int32)) hx hb dX3_keep_28 (by decide) ?_
        refine lv_iload_n hx hb dX3_keep_29 rfl (lv_at hl 1 rfl) ?_
        refine lv_ishl hx hb dX3_keep_30 ?_
        refine lv_ior hx hb dX3_keep_31 ?_
        refine va_put (D := (dC, dI)) (ci := 3) (v := .int (s_t.1 ||| ((1 : Int32) <<< (v1 &&& 31)))) (ty := .int) (C := RX3) (T := TX3) (N := 11) hx hb hU inlX3 tyX3 tyX3_ok nmX3 hown hE.1 hP hD hS 0 rfl rfl 9 (by decide) (hU _ u_10_17) (fun _ h9 => h9) rfl (tyX3_ok 9 (by decide)) rfl rfl (Nat.le_of_ble_eq_true rfl) dX3_keep_32 (fun H locs hP hD hS => ?_)
        have hP : va_P (dC, dI) vwCl [(a_t, .inr (3, [.ref a_t_papers, .ref a_t_now, .ref a_t_trial, .ref a_t_firstSlot, .ref a_t_secondSlot, .ref a_t_acts, .ref a_t_seen, .ref a_t_text, .ref a_t_doings, .int (s_t.1 ||| ((1 : Int32) <<< (v1 &&& 31))), .long s_t.2])), (a_t_firstSlot, .inr (0, [.ref a_t_papers, .ref a_t_firstSlot_grants, .ref a_t_firstSlot_routes, .int x20.1.1, .int x20.1.2.1, .int x20.1.2.2])), (a_t_now, .inr (0, [.ref a_t_papers, .ref a_t_now_grants, .ref a_t_now_routes, .int s_t_now.1, .int s_t_now.2.1, .int s_t_now.2.2])), (a_t_firstSlot_grants, .inr (1, [.int x20.2.1.1, .int x20.2.1.2.1, .ref a_t_firstSlot_grants_cells, .int x20.2.1.2.2])), (a_t_now_grants, .inr (1, [.int s_t_now_grants.1, .int s_t_now_grants.2.1, .ref a_t_now_grants_cells, .int s_t_now_grants.2.2])), (a_t_now_grants_cells, .inl (cI, s_t_now_grants_cells.1, .inl s_t_now_grants_cells.2)), (a_t_firstSlot_grants_cells, .inl (cI, x20.2.2.1.1, .inl x20.2.2.1.2)), (a_t_firstSlot_routes, .inr (1, [.int x20.2.2.2.1.1, .int x20.2.2.2.1.2.1, .ref a_t_firstSlot_routes_cells, .int x20.2.2.2.1.2.2])), (a_t_now_routes, .inr (1, [.int s_t_now_routes.1, .int s_t_now_routes.2.1, .ref a_t_now_routes_cells, .int s_t_now_routes.2.2])), (a_t_now_routes_cells, .inl (cI, s_t_now_routes_cells.1, .inl s_t_now_routes_cells.2)), (a_t_firstSlot_routes_cells, .inl (cI, x20.2.2.2.2.1, .inl x20.2.2.2.2.2)), (a_t_secondSlot, .inr (0, [.ref a_t_papers, .ref a_t_secondSlot_grants, .ref a_t_secondSlot_routes, .int s_t_secondSlot.1, .int s_t_secondSlot.2.1, .int s_t_secondSlot.2.2])), (a_t_secondSlot_grants, .inr (1, [.int s_t_secondSlot_grants.1, .int s_t_secondSlot_grants.2.1, .ref a_t_secondSlot_grants_cells, .int s_t_secondSlot_grants.2.2])), (a_t_secondSlot_grants_cells, .inl (cI, s_t_secondSlot_grants_cells.1, .inl s_t_secondSlot_grants_cells.2)), (a_t_secondSlot_routes, .inr (1, [.int s_t_secondSlot_routes.1, .int s_t_secondSlot_routes.2.1, .ref a_t_secondSlot_routes_cells, .int s_t_secondSlot_routes.2.2])), (a_t_secondSlot_routes_cells, .inl (cI, s_t_secondSlot_routes_cells.1, .inl s_t_secondSlot_routes_cells.2))] H := hP
        have hD : va_D A [(a_t, .inr (3, [.ref a_t_papers, .ref a_t_now, .ref a_t_trial, .ref a_t_firstSlot, .ref a_t_secondSlot, .ref a_t_acts, .ref a_t_seen, .ref a_t_text, .ref a_t_doings, .int (s_t.1 ||| ((1 : Int32) <<< (v1 &&& 31))), .long s_t.2])), (a_t_firstSlot, .inr (0, [.ref a_t_papers, .ref a_t_firstSlot_grants, .ref a_t_firstSlot_routes, .int x20.1.1, .int x20.1.2.1, .int x20.1.2.2])), (a_t_now, .inr (0, [.ref a_t_papers, .ref a_t_now_grants, .ref a_t_now_routes, .int s_t_now.1, .int s_t_now.2.1, .int s_t_now.2.2])), (a_t_firstSlot_grants, .inr (1, [.int x20.2.1.1, .int x20.2.1.2.1, .ref a_t_firstSlot_grants_cells, .int x20.2.1.2.2])), (a_t_now_grants, .inr (1, [.int s_t_now_grants.1, .int s_t_now_grants.2.1, .ref a_t_now_grants_cells, .int s_t_now_grants.2.2])), (a_t_now_grants_cells, .inl (cI, s_t_now_grants_cells.1, .inl s_t_now_grants_cells.2)), (a_t_firstSlot_grants_cells, .inl (cI, x20.2.2.1.1, .inl x20.2.2.1.2)), (a_t_firstSlot_routes, .inr (1, [.int x20.2.2.2.1.1, .int x20.2.2.2.1.2.1, .ref a_t_firstSlot_routes_cells, .int x20.2.2.2.1.2.2])), (a_t_now_routes, .inr (1, [.int s_t_now_routes.1, .int s_t_now_routes.2.1, .ref a_t_now_routes_cells, .int s_t_now_routes.2.2])), (a_t_now_routes_cells, .inl (cI, s_t_now_routes_cells.1, .inl s_t_now_routes_cells.2)), (a_t_firstSlot_routes_cells, .inl (cI, x20.2.2.2.2.1, .inl x20.2.2.2.2.2)), (a_t_secondSlot, .inr (0, [.ref a_t_papers, .ref a_t_secondSlot_grants, .ref a_t_secondSlot_routes, .int s_t_secondSlot.1, .int s_t_secondSlot.2.1, .int s_t_secondSlot.2.2])), (a_t_secondSlot_grants, .inr (1, [.int s_t_secondSlot_grants.1, .int s_t_secondSlot_grants.2.1, .ref a_t_secondSlot_grants_cells, .int s_t_secondSlot_grants.2.2])), (a_t_secondSlot_grants_cells, .inl (cI, s_t_secondSlot_grants_cells.1, .inl s_t_secondSlot_grants_cells.2)), (a_t_secondSlot_routes, .inr (1, [.int s_t_secondSlot_routes.1, .int s_t_secondSlot_routes.2.1, .ref a_t_secondSlot_routes_cells, .int s_t_secondSlot_routes.2.2])), (a_t_secondSlot_routes_cells, .inl (cI, s_t_secondSlot_routes_cells.1, .inl s_t_secondSlot_routes_cells.2))] := hD
        refine lv_aload_n hx hb dX3_keep_35 rfl (lv_at hl 0 rfl) ?_
        refine va_get (D := (dC, dI)) (ci := 3) (v := .ref a_t_now) (C := RX3) (T := TX3) (N := 11) hx hb hU inlX3 hown hE.1 hP 0 rfl rfl 1 (by decide) (hU _ u_1_20) (fun _ h9 => h9) rfl dX3_keep_36 ?_
        refine va_get (D := (dC, dI)) (ci := 0) (v := .ref a_t_now_routes) (C := RX0) (T := TX0) (N := 6) hx hb hU inlX0 hown hE.1 hP 2 rfl rfl 2 (by decide) (hU _ u_11_19) (fun _ h9 => h9) rfl dX3_keep_39 ?_
        refine va_get (D := (dC, dI)) (ci := 1) (v := .int s_t_now_routes.2.2) (C := RX1) (T := TX1) (N := 4) hx hb hU inlX1 hown hE.1 hP 8 rfl rfl 3 (by decide) (hU _ u_10_16) (fun _ h9 => h9) rfl dX3_keep_42 ?_
        cases hM
        exact rt _ _ _ _ _ hP hS dX3_keep_45 rfl
      · have hM := ite_f c13 hM
        refine rdV (As := [.int v1]) (rest := []) (st2 := [.ref a_t_secondSlot]) ⟨hx, hb, hml, hown, hU⟩ hE (okX3_slotBooks_1 a_t a_t_papers a_t_now a_t_trial a_t_firstSlot a_t_secondSlot a_t_acts a_t_seen a_t_text a_t_doings s_t v1 c13) lk_X3_210 (hP.sub [0] rfl) rfl rfl rfl hl.1 rfl (Nat.le_of_ble_eq_true rfl) ⟨Nat.le_of_ble_eq_true rfl, Nat.le_of_ble_eq_true rfl⟩ dX3_keep_13 ⟨Nat.le_refl _, Nat.le_refl _⟩ rfl ?_
        refine lv_aload_n hx hb dX3_keep_16 rfl (lv_at hl 0 rfl) ?_
        refine va_get (D := (dC, dI)) (ci := 3) (v := .ref a_t_now) (C := RX3) (T := TX3) (N := 11) hx hb hU inlX3 hown hE.1 hP 0 rfl rfl 1 (by decide) (hU _ u_1_20) (fun _ h9 => h9) rfl dX3_keep_17 ?_
        obtain ⟨x20, h20, hM⟩ := bind_e hM
        refine muV (As := [.ref a_t_now]) (rest := []) (st2 := []) (nw := [(a_t, .inr (3, [.ref a_t_papers, .ref a_t_now, .ref a_t_trial, .ref a_t_firstSlot, .ref a_t_secondSlot, .ref a_t_acts, .ref a_t_seen, .ref a_t_text, .ref a_t_doings, .int s_t.1, .long s_t.2])), (a_t_firstSlot, .inr (0, [.ref a_t_papers, .ref a_t_firstSlot_grants, .ref a_t_firstSlot_routes, .int s_t_firstSlot.1, .int s_t_firstSlot.2.1, .int s_t_firstSlot.2.2])), (a_t_now, .inr (0, [.ref a_t_papers, .ref a_t_now_grants, .ref a_t_now_routes, .int s_t_now.1, .int s_t_now.2.1, .int s_t_now.2.2])), (a_t_firstSlot_grants, .inr (1, [.int s_t_firstSlot_grants.1, .int s_t_firstSlot_grants.2.1, .ref a_t_firstSlot_grants_cells, .int s_t_firstSlot_grants.2.2])), (a_t_now_grants, .inr (1, [.int s_t_now_grants.1, .int s_t_now_grants.2.1, .ref a_t_now_grants_cells, .int s_t_now_grants.2.2])), (a_t_now_grants_cells, .inl (cI, s_t_now_grants_cells.1, .inl s_t_now_grants_cells.2)), (a_t_firstSlot_grants_cells, .inl (cI, s_t_firstSlot_grants_cells.1, .inl s_t_firstSlot_grants_cells.2)), (a_t_firstSlot_routes, .inr (1, [.int s_t_firstSlot_routes.1, .int s_t_firstSlot_routes.2.1, .ref a_t_firstSlot_routes_cells, .int s_t_firstSlot_routes.2.2])), (a_t_now_routes, .inr (1, [.int s_t_now_routes.1, .int s_t_now_routes.2.1, .ref a_t_now_routes_cells, .int s_t_now_routes.2.2])), (a_t_now_routes_cells, .inl (cI, s_t_now_routes_cells.1, .inl s_t_now_routes_cells.2)), (a_t_firstSlot_routes_cells, .inl (cI, s_t_firstSlot_routes_cells.1, .inl s_t_firstSlot_routes_cells.2)), (a_t_secondSlot, .inr (0, [.ref a_t_papers, .ref a_t_secondSlot_grants, .ref a_t_secondSlot_routes, .int x20.1.1, .int x20.1.2.1, .int x20.1.2.2])), (a_t_secondSlot_grants, .inr (1, [.int x20.2.1.1, .int x20.2.1.2.1, .ref a_t_secondSlot_grants_cells, .int x20.2.1.2.2])), (a_t_secondSlot_grants_cells, .inl (cI, x20.2.2.1.1, .inl x20.2.2.1.2)), (a_t_secondSlot_routes, .inr (1, [.int x20.2.2.2.1.1, .int x20.2.2.2.1.2.1, .ref a_t_secondSlot_routes_cells, .int x20.2.2.2.1.2.2])), (a_t_secondSlot_routes_cells, .inl (cI, x20.2.2.2.2.1, .inl x20.2.2.2.2.2))]) ⟨hx, hb, hml, hown, hU⟩ hE (okX0_copyFrom a_t_secondSlot a_t_papers a_t_secondSlot_grants a_t_secondSlot_routes a_t_now a_t_papers a_t_now_grants a_t_now_routes a_t_secondSlot_grants_cells a_t_now_grants_cells a_t_secondSlot_routes_cells a_t_now_routes_cells s_t_secondSlot s_t_now s_t_secondSlot_grants s_t_now_grants s_t_now_grants_cells s_t_secondSlot_grants_cells s_t_secondSlot_routes s_t_now_routes s_t_now_routes_cells s_t_secondSlot_routes_cells x20 h20) lk_X3_163 hP hD hS hA [11, 2, 12, 4, 5, 13, 14, 8, 9, 15] rfl rfl rfl rfl rfl rfl hl.1 rfl (Nat.le_of_ble_eq_true rfl) ⟨Nat.le_of_ble_eq_true rfl, Nat.le_of_ble_eq_true rfl⟩ dX3_keep_20 ⟨Nat.le_refl _, Nat.le_refl _⟩ rfl rfl rfl rfl (fun H locs hP hD hS => ?_)
        refine lv_aload_n hx hb dX3_keep_23 rfl (lv_at hl 0 rfl) ?_
        refine lv_dup hx hb dX3_keep_24 rfl ?_
        refine va_get (D := (dC, dI)) (ci := 3) (v := .int s_t.1) (C := RX3) (T := TX3) (N := 11) hx hb hU inlX3 hown hE.1 hP 0 rfl rfl 9 (by decide) (hU _ u_10_17) (fun _ h9 => h9) rfl dX3_keep_25 ?_
        refine lv_iconst (v := (1 : Int32)) hx hb dX3_keep_28 (by decide) ?_
        refine lv_iload_n hx hb dX3_keep_29 rfl (lv_at hl 1 rfl) ?_
        refine lv_ishl hx hb dX3_keep_30 ?_
        refine lv_ior hx hb dX3_keep_31 ?_
        refine va_put (D := (dC, dI)) (ci := 3) (v := .int (s_t.1 ||| ((1 : Int32) <<< (v1 &&& 31)))) (ty := .int) (C := RX3) (T := TX3) (N := 11) hx hb hU inlX3 tyX3 tyX3_ok nmX3 hown hE.1 hP hD hS 0 rfl rfl 9 (by decide) (hU _ u_10_17) (fun _ h9 => h9) rfl (tyX3_ok 9 (by decide)) rfl rfl (Nat.le_of_ble_eq_true rfl) dX3_keep_32 (fun H locs hP hD hS => ?_)
        have hP : va_P (dC, dI) vwCl [(a_t, .inr (3, [.ref a_t_papers, .ref a_t_now, .ref a_t_trial, .ref a_t_firstSlot, .ref a_t_secondSlot, .ref a_t_acts, .ref a_t_seen, .ref a_t_text, .ref a_t_doings, .int (s_t.1 ||| ((1 : Int32) <<< (v1 &&& 31))), .long s_t.2])), (a_t_firstSlot, .inr (0, [.ref a_t_papers, .ref a_t_firstSlot_grants, .ref a_t_firstSlot_routes, .int s_t_firstSlot.1, .int s_t_firstSlot.2.1, .int s_t_firstSlot.2.2])), (a_t_now, .inr (0, [.ref a_t_papers, .ref a_t_now_grants, .ref a_t_now_routes, .int s_t_now.1, .int s_t_now.2.1, .int s_t_now.2.2])), (a_t_firstSlot_grants, .inr (1, [.int s_t_firstSlot_grants.1, .int s_t_firstSlot_grants.2.1, .ref a_t_firstSlot_grants_cells, .int s_t_firstSlot_grants.2.2])), (a_t_now_grants, .inr (1, [.int s_t_now_grants.1, .int s_t_now_grants.2.1, .ref a_t_now_grants_cells, .int s_t_now_grants.2.2])), (a_t_now_grants_cells, .inl (cI, s_t_now_grants_cells.1, .inl s_t_now_grants_cells.2)), (a_t_firstSlot_grants_cells, .inl (cI, s_t_firstSlot_grants_cells.1, .inl s_t_firstSlot_grants_cells.2)), (a_t_firstSlot_routes, .inr (1, [.int s_t_firstSlot_routes.1, .int s_t_firstSlot_routes.2.1, .ref a_t_firstSlot_routes_cells, .int s_t_firstSlot_routes.2.2])), (a_t_now_routes, .inr (1, [.int s_t_now_routes.1, .int s_t_now_routes.2.1, .ref a_t_now_routes_cells, .int s_t_now_routes.2.2])), (a_t_now_routes_cells, .inl (cI, s_t_now_routes_cells.1, .inl s_t_now_routes_cells.2)), (a_t_firstSlot_routes_cells, .inl (cI, s_t_firstSlot_routes_cells.1, .inl s_t_firstSlot_routes_cells.2)), (a_t_secondSlot, .inr (0, [.ref a_t_papers, .ref a_t_secondSlot_grants, .ref a_t_secondSlot_routes, .int x20.1.1, .int x20.1.2.1, .int x20.1.2.2])), (a_t_secondSlot_grants, .inr (1, [.int x20.2.1.1, .int x20.2.1.2.1, .ref a_t_secondSlot_grants_cells, .int x20.2.1.2.2])), (a_t_secondSlot_grants_cells, .inl (cI, x20.2.2.1.1, .inl x20.2.2.1.2)), (a_t_secondSlot_routes, .inr (1, [.int x20.2.2.2.1.1, .int x20.2.2.2.1.2.1, .ref a_t_secondSlot_routes_cells, .int x20.2.2.2.1.2.2])), (a_t_secondSlot_routes_cells, .inl (cI, x20.2.2.2.2.1, .inl x20.2.2.2.2.2))] H := hP
        have hD : va_D A [(a_t, .inr (3, [.ref a_t_papers, .ref a_t_now, .ref a_t_trial, .ref a_t_firstSlot, .ref a_t_secondSlot, .ref a_t_acts, .ref a_t_seen, .ref a_t_text, .ref a_t_doings, .int (s_t.1 ||| ((1 : Int32) <<< (v1 &&& 31))), .long s_t.2])), (a_t_firstSlot, .inr (0, [.ref a_t_papers, .ref a_t_firstSlot_grants, .ref a_t_firstSlot_routes, .int s_t_firstSlot.1, .int s_t_firstSlot.2.1, .int s_t_firstSlot.2.2])), (a_t_now, .inr (0, [.ref a_t_papers, .ref a_t_now_grants, .ref a_t_now_routes, .int s_t_now.1, .int s_t_now.2.1, .int s_t_now.2.2])), (a_t_firstSlot_grants, .inr (1, [.int s_t_firstSlot_grants.1, .int s_t_firstSlot_grants.2.1, .ref a_t_firstSlot_grants_cells, .int s_t_firstSlot_grants.2.2])), (a_t_now_grants, .inr (1, [.int s_t_now_grants.1, .int s_t_now_grants.2.1, .ref a_t_now_grants_cells, .int s_t_now_grants.2.2])), (a_t_now_grants_cells, .inl (cI, s_t_now_grants_cells.1, .inl s_t_now_grants_cells.2)), (a_t_firstSlot_grants_cells, .inl (cI, s_t_firstSlot_grants_cells.1, .inl s_t_firstSlot_grants_cells.2)), (a_t_firstSlot_routes, .inr (1, [.int s_t_firstSlot_routes.1, .int s_t_firstSlot_routes.2.1, .ref a_t_firstSlot_routes_cells, .int s_t_firstSlot_routes.2.2])), (a_t_now_routes, .inr (1, [.int s_t_now_routes.1, .int s_t_now_routes.2.1, .ref a_t_now_routes_cells, .int s_t_now_routes.2.2])), (a_t_now_routes_cells, .inl (cI, s_t_now_routes_cells.1, .inl s_t_now_routes_cells.2)), (a_t_firstSlot_routes_cells, .inl (cI, s_t_firstSlot_routes_cells.1, .inl s_t_firstSlot_routes_cells.2)), (a_t_secondSlot, .inr (0, [.ref a_t_papers, .ref a_t_secondSlot_grants, .ref a_t_secondSlot_routes, .int x20.1.1, .int x20.1.2.1, .int x20.1.2.2])), (a_t_secondSlot_grants, .inr (1, [.int x20.2.1.1, .int x20.2.1.2.1, .ref a_t_secondSlot_grants_cells, .int x20.2.1.2.2])), (a_t_secondSlot_grants_cells, .inl (cI, x20.2.2.1.1, .inl x20.2.2.1.2)), (a_t_secondSlot_routes, .inr (1, [.int x20.2.2.2.1.1, .int x20.2.2.2.1.2.1, .ref a_t_secondSlot_routes_cells, .int x20.2.2.2.1.2.2])), (a_t_secondSlot_routes_cells, .inl (cI, x20.2.2.2.2.1, .inl x20.2.2.2.2.2))] := hD
        refine lv_aload_n hx hb dX3_keep_35 rfl (lv_at hl 0 rfl) ?_
        refine va_get (D := (dC, dI)) (ci := 3) (v := .ref a_t_now) (C := RX3) (T := TX3) (N := 11) hx hb hU inlX3 hown hE.1 hP 0 rfl rfl 1 (by decide) (hU _ u_1_20) (fun _ h9 => h9) rfl dX3_keep_36 ?_
        refine va_get (D := (dC, dI)) (ci := 0) (v := .ref a_t_now_routes) (C := RX0) (T := TX0) (N := 6) hx hb hU inlX0 hown hE.1 hP 2 rfl rfl 2 (by decide) (hU _ u_11_19) (fun _ h9 => h9) rfl dX3_keep_39 ?_
        refine va_get (D := (dC, dI)) (ci := 1) (v := .int s_t_now_routes.2.2) (C := RX1) (T := TX1) (N := 4) hx hb hU inlX1 hown hE.1 hP 8 rfl rfl 3 (by decide) (hU _ u_10_16) (fun _ h9 => h9) rfl dX3_keep_42 ?_
        cases hM
        exact rt _ _ _ _ _ hP hS dX3_keep_45 rfl
    · have hM := ite_f c6 hM
      refine lv_iconst (v := (-1 : Int32)) hx hb dX3_keep_9 (by decide) ?_
      cases hM
      exact rt _ _ _ _ _ hP hS dX3_keep_10 rfl
noncomputable def mX3_lost (s_t_papers : Int32 × Int32 × Int32) (s_t_now : Int32 × Int32 × Int32) (s_t_papers_cells : Ar) (s_t_now_grants : Int32 × Int32 × Int32) (s_t_now_grants_cells : Ar) (s_t_now_routes : Int32 × Int32 × Int32) (s_t_now_routes_cells : Ar) (v1 : Int32) : Option (Int32) := (if v1 = 0 then some ((-1 : Int32)) else (mX1_has s_t_papers v1).bind (fun x9 => (if x9 = true then (mX0_standing s_t_now s_t_papers s_t_papers_cells (s_t_now.1 ||| ((1 : Int32) <<< (v1 &&& 31)))).bind (fun x36 => (mX0_counting s_t_now s_t_now_grants s_t_now_grants_cells s_t_papers s_t_papers_cells x36).bind (fun x39 => (mX0_countingNow s_t_now s_t_papers s_t_papers_cells s_t_now_grants s_t_now_grants_cells).bind (fun x52 => (mX0_routesThatAre s_t_now_routes s_t_now_routes_cells s_t_now_grants s_t_now_grants_cells (2 : Int32) x52).bind (fun x55 => (mX0_routesThatAre s_t_now_routes s_t_now_routes_cells s_t_now_grants s_t_now_grants_cells (2 : Int32) x39).bind (fun x64 => some ((x55 &&& (x64 ^^^ (-1 : Int32))))))))) else some ((-1 : Int32)))))
set_option maxHeartbeats 4000000 in
set_option maxRecDepth 100000 in
theorem okX3_lost {l : Launch} {dC : Nat → ClassId} {dI : Nat → Nat → Nat} {cI cC cZ : ClassId} (a_t a_t_papers a_t_now a_t_trial a_t_firstSlot a_t_secondSlot a_t_acts a_t_seen a_t_text a_t_doings a_t_papers_cells a_t_now_grants a_t_now_routes a_t_now_grants_cells a_t_now_routes_cells : Nat) (s_t : Int32 × Int64) (s_t_papers : Int32 × Int32 × Int32) (s_t_now : Int32 × Int32 × Int32) (s_t_papers_cells : Ar) (s_t_now_grants : Int32 × Int32 × Int32) (s_t_now_grants_cells : Ar) (s_t_now_routes : Int32 × Int32 × Int32) (s_t_now_routes_cells : Ar) (v1 : Int32) (res : Int32) (hM : mX3_lost s_t_papers s_t_now s_t_papers_cells s_t_now_grants s_t_now_grants_cells s_t_now_routes s_t_now_routes_cells v1 = some res) : Rd l yX3_lost cX3_lost 3 (some .int) 3 73 (dC, dI) cI cC cZ [(a_t, .inr (3, [.ref a_t_papers, .ref a_t_now, .ref a_t_trial, .ref a_t_firstSlot, .ref a_t_secondSlot, .ref a_t_acts, .ref a_t_seen, .ref a_t_text, .ref a_t_doings, .int s_t.1, .long s_t.2])), (a_t_papers, .inr (1, [.int s_t_papers.1, .int s_t_papers.2.1, .ref a_t_papers_cells, .int s_t_papers.2.2])), (a_t_now, .inr (0, [.ref a_t_papers, .ref a_t_now_grants, .ref a_t_now_routes, .int s_t_now.1, .int s_t_now.2.1, .int s_t_now.2.2])), (a_t_papers_cells, .inl (cI, s_t_papers_cells.1, .inl s_t_papers_cells.2)), (a_t_now_grants, .inr (1, [.int s_t_now_grants.1, .int s_t_now_grants.2.1, .ref a_t_now_grants_cells, .int s_t_now_grants.2.2])), (a_t_now_grants_cells, .inl (cI, s_t_now_grants_cells.1, .inl s_t_now_grants_cells.2)), (a_t_now_routes, .inr (1, [.int s_t_now_routes.1, .int s_t_now_routes.2.1, .ref a_t_now_routes_cells, .int s_t_now_routes.2.2])), (a_t_now_routes_cells, .inl (cI, s_t_now_routes_cells.1, .inl s_t_now_routes_cells.2))] [.ref a_t, .int v1] (some (.int res)) := by
  refine Rd.ofI (by decide) (Nat.le_of_ble_eq_true rfl) [(0, .ref a_t), (1, .int v1)] rfl ?_
  intro p e s m args below meth c ls Q hx hb hml hown hU hE hP rt hl
  have hown : s.vm.findClass RX3 = some m.cls := hown
  unfold mX3_lost at hM
  refine lv_iload_n hx hb dX3_lost_0 rfl (lv_at hl 1 rfl) ?_
  refine lv_if_eq (tgt := 15) hx hb dX3_lost_1 (by decide) (fun c1 => ?_) (fun c1 => ?_)
  · have hM := ite_t c1 hM
    refine lv_iconst (v := (-1 : Int32)) hx hb dX3_lost_15 (by decide) ?_
    cases hM
    exact rt _ _ _ dX3_lost_16 rfl
  · have hM := ite_f c1 hM
    refine lv_aload_n hx hb dX3_lost_4 rfl (lv_at hl 0 rfl) ?_
    refine va_get (D := (dC, dI)) (ci := 3) (v := .ref a_t_papers) (C := RX3) (T := TX3) (N := 11) hx hb hU inlX3 hown hE.1 hP 0 rfl rfl 0 (by decide) (hU _ u_1_16) (fun _ h9 => h9) rfl dX3_lost_5 ?_
    refine lv_iload_n hx hb dX3_lost_8 rfl (lv_at hl 1 rfl) ?_
    obtain ⟨x9, h9, hM⟩ := bind_e hM
    refine rdV (As := [.int v1]) (rest := []) (st2 := [.int (b2i x9)]) ⟨hx, hb, hml, hown, hU⟩ hE (okX1_has a_t_papers a_t_papers_cells s_t_papers v1 x9 h9) lk_X3_114 (hP.sub [1] rfl) rfl rfl rfl hl.1 rfl (Nat.le_of_ble_eq_true rfl) ⟨Nat.le_of_ble_eq_true rfl, Nat.le_of_ble_eq_true rfl⟩ dX3_lost_9 ⟨Nat.le_refl _, Nat.le_refl _⟩ rfl ?_
    refine lv_if_ne (tgt := 17) hx hb dX3_lost_12 (by decide) (fun c12 => ?_) (fun c12 => ?_)
    · have hM := ite_t (b2i_ne0 c12) hM
      refine lv_aload_n hx hb dX3_lost_17 rfl (lv_at hl 0 rfl) ?_
      refine va_get (D := (dC, dI)) (ci := 3) (v := .ref a_t_now) (C := RX3) (T := TX3) (N := 11) hx hb hU inlX3 hown hE.1 hP 0 rfl rfl 1 (by decide) (hU _ u_1_20) (fun _ h9 => h9) rfl dX3_lost_18 ?_
      refine lv_aload_n hx hb dX3_lost_21 rfl (lv_at hl 0 rfl) ?_
      refine va_get (D := (dC, dI)) (ci := 3) (v := .ref a_t_now) (C := RX3) (T := TX3) (N := 11) hx hb hU inlX3 hown hE.1 hP 0 rfl rfl 1 (by decide) (hU _ u_1_20) (fun _ h9 => h9) rfl dX3_lost_22 ?_
      refine lv_aload_n hx hb dX3_lost_25 rfl (lv_at hl 0 rfl) ?_
      refine va_get (D := (dC, dI)) (ci := 3) (v := .ref a_t_now) (C := RX3) (T := TX3) (N := 11) hx hb hU inlX3 hown hE.1 hP 0 rfl rfl 1 (by decide) (hU _ u_1_20) (fun _ h9 => h9) rfl dX3_lost_26 ?_
      refine va_get (D := (dC, dI)) (ci := 0) (v := .int s_t_now.1) (C := RX0) (T := TX0) (N := 6) hx hb hU inlX0 hown hE.1 hP 2 rfl rfl 3 (by decide) (hU _ u_11_21) (fun _ h9 => h9) rfl dX3_lost_29 ?_
      refine lv_iconst (v := (1 : Int32)) hx hb dX3_lost_32 (by decide) ?_
      refine lv_iload_n hx hb dX3_lost_33 rfl (lv_at hl 1 rfl) ?_
      refine lv_ishl hx hb dX3_lost_34 ?_
      refine lv_ior hx hb dX3_lost_35 ?_
      obtain ⟨x36, h36, hM⟩ := bind_e hM
      refine rdV (As := [.int (s_t_now.1 ||| ((1 : Int32) <<< (v1 &&& 31)))]) (rest := [.ref a_t_now]) (st2 := [.int x36, .ref a_t_now]) ⟨hx, hb, hml, hown, hU⟩ hE (okX0_standing a_t_now a_t_papers a_t_now_grants a_t_now_routes a_t_papers_cells s_t_now s_t_papers s_t_papers_cells (s_t_now.1 ||| ((1 : Int32) <<< (v1 &&& 31))) x36 h36) lk_X3_97 (hP.sub [2, 1, 3] rfl) rfl rfl rfl hl.1 rfl (Nat.le_of_ble_eq_true rfl) ⟨Nat.le_of_ble_eq_true rfl, Nat.le_of_ble_eq_true rfl⟩ dX3_lost_36 ⟨Nat.le_refl _, Nat.le_refl _⟩ rfl ?_
      obtain ⟨x39, h39, hM⟩ := bind_e hM
      refine rdV (As := [.int x36]) (rest := []) (st2 := [.int x39]) ⟨hx, hb, hml, hown, hU⟩ hE (okX0_counting a_t_now a_t_papers a_t_now_grants a_t_now_routes a_t_now_grants_cells a_t_papers_cells s_t_now s_t_now_grants s_t_now_grants_cells s_t_papers s_t_papers_cells x36 x39 h39) lk_X3_169 (hP.sub [2, 4, 5, 1, 3] rfl) rfl rfl rfl hl.1 rfl (Nat.le_of_ble_eq_true rfl) ⟨Nat.le_of_ble_eq_true rfl, Nat.le_of_ble_eq_true rfl⟩ dX3_lost_39 ⟨Nat.le_refl _, Nat.le_refl _⟩ rfl ?_
      refine lv_istore_n (lv' := [(2, .int x39), (0, .ref a_t), (1, .int v1)]) hx hb dX3_lost_42 rfl hl (by decide) rfl (fun ls hl => ?_)
      refine lv_aload_n hx hb dX3_lost_43 rfl (lv_at hl 1 rfl) ?_
      refine va_get (D := (dC, dI)) (ci := 3) (v := .ref a_t_now) (C := RX3) (T := TX3) (N := 11) hx hb hU inlX3 hown hE.1 hP 0 rfl rfl 1 (by decide) (hU _ u_1_20) (fun _ h9 => h9) rfl dX3_lost_44 ?_
      refine lv_iconst (v := (2 : Int32)) hx hb dX3_lost_47 (by decide) ?_
      refine lv_aload_n hx hb dX3_lost_48 rfl (lv_at hl 1 rfl) ?_
      refine va_get (D := (dC, dI)) (ci := 3) (v := .ref a_t_now) (C := RX3) (T := TX3) (N := 11) hx hb hU inlX3 hown hE.1 hP 0 rfl rfl 1 (by decide) (hU _ u_1_20) (fun _ h9 => h9) rfl dX3_lost_49 ?_
      obtain ⟨x52, h52, hM⟩ := bind_e hM
      refine rdV (As := []) (rest := [.int (2 : Int32), .ref a_t_now]) (st2 := [.int x52, .int (2 : Int32), .ref a_t_now]) ⟨hx, hb, hml, hown, hU⟩ hE (okX0_countingNow a_t_now a_t_papers a_t_now_grants a_t_now_routes a_t_papers_cells a_t_now_grants_cells s_t_now s_t_papers s_t_papers_cells s_t_now_grants s_t_now_grants_cells x52 h52) lk_X3_104 (hP.sub [2, 1, 3, 4, 5] rfl) rfl rfl rfl hl.1 rfl (Nat.le_of_ble_eq_true rfl) ⟨Nat.le_of_ble_eq_true rfl, Nat.le_of_ble_eq_true rfl⟩ dX3_lost_52 ⟨Nat.le_refl _, Nat.le_refl _⟩ rfl ?_
      obtain ⟨x55, h55, hM⟩ := bind_e hM
      refine rdV (As := [.int (2 : Int32), .int x52]) (rest := []) (st2 := [.int x55]) ⟨hx, hb, hml, hown, hU⟩ hE (okX0_routesThatAre a_t_now a_t_papers a_t_now_grants a_t_now_routes a_t_now_routes_cells a_t_now_grants_cells s_t_now s_t_now_routes s_t_now_routes_cells s_t_now_grants s_t_now_grants_cells (2 : Int32) x52 x55 h55) lk_X3_107 (hP.sub [2, 6, 7, 4, 5] rfl) rfl rfl rfl hl.1 rfl (Nat.le_of_ble_eq_true rfl) ⟨Nat.le_of_ble_eq_true rfl, Nat.le_of_ble_eq_true rfl⟩ dX3_lost_55 ⟨Nat.le_refl _, Nat.le_refl _⟩ rfl ?_
      refine lv_aload_n hx hb dX3_lost_58 rfl (lv_at hl 1 rfl) ?_
      refine va_get (D := (dC, dI)) (ci := 3) (v := .ref a_t_now) (C := RX3) (T := TX3) (N := 11) hx hb hU inlX3 hown hE.1 hP 0 rfl rfl 1 (by decide) (hU _ u_1_20) (fun _ h9 => h9) rfl dX3_lost_59 ?_
      refine lv_iconst (v := (2 : Int32)) hx hb dX3_lost_62 (by decide) ?_
      refine lv_iload_n hx hb dX3_lost_63 rfl (lv_at hl 0 rfl) ?_
      obtain ⟨x64, h64, hM⟩ := bind_e hM
      refine rdV (As := [.int (2 : Int32), .int x39]) (rest := [.int x55]) (st2 := [.int x64, .int x55]) ⟨hx, hb, hml, hown, hU⟩ hE (okX0_routesThatAre a_t_now a_t_papers a_t_now_grants a_t_now_routes a_t_now_routes_cells a_t_now_grants_cells s_t_now s_t_now_routes s_t_now_routes_cells s_t_now_grants s_t_now_grants_cells (2 : Int32) x39 x64 h64) lk_X3_107 (hP.sub [2, 6, 7, 4, 5] rfl) rfl rfl rfl hl.1 rfl (Nat.le_of_ble_eq_true rfl) ⟨Nat.le_of_ble_eq_true rfl, Nat.le_of_ble_eq_true rfl⟩ dX3_lost_64 ⟨Nat.le_refl _, Nat.le_refl _⟩ rfl ?_
      refine lv_iconst (v := (-1 : Int32)) hx hb dX3_lost_67 (by decide) ?_
      refine lv_ixor hx hb dX3_lost_68 ?_
      refine lv_iand hx hb dX3_lost_69 ?_
      cases hM
      exact rt _ _ _ dX3_lost_70 rfl
    · have hM := ite_f (b2i_eq0 c12) hM
      refine lv_iconst (v := (-1 : Int32)) hx hb dX3_lost_15 (by decide) ?_
      cases hM
      exact rt _ _ _ dX3_lost_16 rfl
noncomputable def mX3_night (s_t_now : Int32 × Int32 × Int32) (s_t_acts : Int32 × Int32 × Int32) (s_t_acts_cells : Ar) : Option (Int32 × (Int32 × Int32 × Int32) × (Int32 × Int32 × Int32) × Ar) := (if s_t_now.2.2 < (9 : Int32) then (mX3_remember s_t_acts s_t_acts_cells (6 : Int32) (0 : Int32)).bind (fun x32 => some ((s_t_now.2.2 + (1 : Int32)), (s_t_now.1, s_t_now.2.1, (s_t_now.2.2 + (1 : Int32))), x32.2.1, x32.2.2)) else some ((-3 : Int32), s_t_now, s_t_acts, s_t_acts_cells))
set_option maxHeartbeats 4000000 in
set_option maxRecDepth 100000 in
theorem okX3_night {l : Launch} {dC : Nat → ClassId} {dI : Nat → Nat → Nat} {cI cC cZ : ClassId} (a_t a_t_papers a_t_now a_t_trial a_t_firstSlot a_t_secondSlot a_t_acts a_t_seen a_t_text a_t_doings a_t_now_grants a_t_now_routes a_t_acts_cells : Nat) (s_t : Int32 × Int64) (s_t_now : Int32 × Int32 × Int32) (s_t_acts : Int32 × Int32 × Int32) (s_t_acts_cells : Ar) (res : Int32 × (Int32 × Int32 × Int32) × (Int32 × Int32 × Int32) × Ar) (hM : mX3_night s_t_now s_t_acts s_t_acts_cells = some res) : Mu l yX3_night cX3_night 1 (some .int) 3 84 (dC, dI) cI cC cZ [(a_t, .inr (3, [.ref a_t_papers, .ref a_t_now, .ref a_t_trial, .ref a_t_firstSlot, .ref a_t_secondSlot, .ref a_t_acts, .ref a_t_seen, .ref a_t_text, .ref a_t_doings, .int s_t.1, .long s_t.2])), (a_t_now, .inr (0, [.ref a_t_papers, .ref a_t_now_grants, .ref a_t_now_routes, .int s_t_now.1, .int s_t_now.2.1, .int s_t_now.2.2])), (a_t_acts, .inr (1, [.int s_t_acts.1, .int s_t_acts.2.1, .ref a_t_acts_cells, .int s_t_acts.2.2])), (a_t_acts_cells, .inl (cI, s_t_acts_cells.1, .inl s_t_acts_cells.2))] [(a_t, .inr (3, [.ref a_t_papers, .ref a_t_now, .ref a_t_trial, .ref a_t_firstSlot, .ref a_t_secondSlot, .ref a_t_acts, .ref a_t_seen, .ref a_t_text, .ref a_t_doings, .int s_t.1, .long s_t.2])), (a_t_now, .inr (0, [.ref a_t_papers, .ref a_t_now_grants, .ref a_t_now_routes, .int res.2.1.1, .int res.2.1.2.1, .int res.2.1.2.2])), (a_t_acts, .inr (1, [.int res.2.2.1.1, .int res.2.2.1.2.1, .ref a_t_acts_cells, .int res.2.2.1.2.2])), (a_t_acts_cells, .inl (cI, res.2.2.2.1, .inl res.2.2.2.2))] [.ref a_t] (some (.int res.1)) := by
  refine Mu.ofI (by decide) (Nat.le_of_ble_eq_true rfl) [(0, .ref a_t)] rfl ?_
  intro p e s m args below meth c ls Q A hx hb hml hown hU hE hP hD hS hA rt hl
  have hown : s.vm.findClass RX3 = some m.cls := hown
  unfold mX3_night at hM
  refine lv_aload_n hx hb dX3_night_0 rfl (lv_at hl 0 rfl) ?_
  refine va_get (D := (dC, dI)) (ci := 3) (v := .ref a_t_now) (C := RX3) (T := TX3) (N := 11) hx hb hU inlX3 hown hE.1 hP 0 rfl rfl 1 (by decide) (hU _ u_1_20) (fun _ h9 => h9) rfl dX3_night_1 ?_
  refine va_get (D := (dC, dI)) (ci := 0) (v := .int s_t_now.2.2) (C := RX0) (T := TX0) (N := 6) hx hb hU inlX0 hown hE.1 hP 1 rfl rfl 5 (by decide) (hU _ u_11_20) (fun _ h9 => h9) rfl dX3_night_4 ?_
  refine lv_bipush (v := (9 : Int32)) hx hb dX3_night_7 (by decide) ?_
  refine lv_icmp_lt (tgt := 15) hx hb dX3_night_9 (by decide) (fun c9 => ?_) (fun c9 => ?_)
  · have hM := ite_t c9 hM
    refine lv_aload_n hx hb dX3_night_15 rfl (lv_at hl 0 rfl) ?_
    refine va_get (D := (dC, dI)) (ci := 3) (v := .ref a_t_now) (C := RX3) (T := TX3) (N := 11) hx hb hU inlX3 hown hE.1 hP 0 rfl rfl 1 (by decide) (hU _ u_1_20) (fun _ h9 => h9) rfl dX3_night_16 ?_
    refine lv_dup hx hb dX3_night_19 rfl ?_
    refine va_get (D := (dC, dI)) (ci := 0) (v := .int s_t_now.2.2) (C := RX0) (T := TX0) (N := 6) hx hb hU inlX0 hown hE.1 hP 1 rfl rfl 5 (by decide) (hU _ u_11_20) (fun _ h9 => h9) rfl dX3_night_20 ?_
    refine lv_iconst (v := (1 : Int32)) hx hb dX3_night_23 (by decide) ?_
    refine lv_iadd hx hb dX3_night_24 ?_
    refine va_put (D := (dC, dI)) (ci := 0) (v := .int (s_t_now.2.2 + (1 : Int32))) (ty := .int) (C := RX0) (T := TX0) (N := 6) hx hb hU inlX0 tyX0 tyX0_ok nmX0 hown hE.1 hP hD hS 1 rfl rfl 5 (by decide) (hU _ u_11_20) (fun _ h9 => h9) rfl (tyX0_ok 5 (by decide)) rfl rfl (Nat.le_of_ble_eq_true rfl) dX3_night_25 (fun H locs hP hD hS => ?_)
    have hP : va_P (dC, dI) vwCl [(a_t, .inr (3, [.ref a_t_papers, .ref a_t_now, .ref a_t_trial, .ref a_t_firstSlot, .ref a_t_secondSlot, .ref a_t_acts, .ref a_t_seen, .ref a_t_text, .ref a_t_doings, .int s_t.1, .long s_t.2])), (a_t_now, .inr (0, [.ref a_t_papers, .ref a_t_now_grants, .ref a_t_now_routes, .int s_t_now.1, .int s_t_now.2.1, .int (s_t_now.2.2 + (1 : Int32))])), (a_t_acts, .inr (1, [.int s_t_acts.1, .int s_t_acts.2.1, .ref a_t_acts_cells, .int s_t_acts.2.2])), (a_t_acts_cells, .inl (cI, s_t_acts_cells.1, .inl s_t_acts_cells.2))] H := hP
    have hD : va_D A [(a_t, .inr (3, [.ref a_t_papers, .ref a_t_now, .ref a_t_trial, .ref a_t_firstSlot, .ref a_t_secondSlot, .ref a_t_acts, .ref a_t_seen, .ref a_t_text, .ref a_t_doings, .int s_t.1, .long s_t.2])), (a_t_now, .inr (0, [.ref a_t_papers, .ref a_t_now_grants, .ref a_t_now_routes, .int s_t_now.1, .int s_t_now.2.1, .int (s_t_now.2.2 + (1 : Int32))])), (a_t_acts, .inr (1, [.int s_t_acts.1, .int s_t_acts.2.1, .ref a_t_acts_cells, .int s_t_acts.2.2])), (a_t_acts_cells, .inl (cI, s_t_acts_cells.1, .inl s_t_acts_cells.2))] := hD
    refine lv_aload_n hx hb dX3_night_28 rfl (lv_at hl 0 rfl) ?_
    refine lv_bipush (v := (6 : Int32)) hx hb dX3_night_29 (by decide) ?_
    refine lv_iconst (v := (0 : Int32)) hx hb dX3_night_31 (by decide) ?_
    obtain ⟨x32, h32, hM⟩ := bind_e hM
    refine muV (As := [.int (6 : Int32), .int (0 : Int32)]) (rest := []) (st2 := [.int x32.1]) (nw := [(a_t, .inr (3, [.ref a_t_papers, .ref a_t_now, .ref a_t_trial, .ref a_t_firstSlot, .ref a_t_secondSlot, .ref a_t_acts, .ref a_t_seen, .ref a_t_text, .ref a_t_doings, .int s_t.1, .long s_t.2])), (a_t_now, .inr (0, [.ref a_t_papers, .ref a_t_now_grants, .ref a_t_now_routes, .int s_t_now.1, .int s_t_now.2.1, .int (s_t_now.2.2 + (1 : Int32))])), (a_t_acts, .inr (1, [.int x32.2.1.1, .int x32.2.1.2.1, .ref a_t_acts_cells, .int x32.2.1.2.2])), (a_t_acts_cells, .inl (cI, x32.2.2.1, .inl x32.2.2.2))]) ⟨hx, hb, hml, hown, hU⟩ hE (okX3_remember a_t a_t_papers a_t_now a_t_trial a_t_firstSlot a_t_secondSlot a_t_acts a_t_seen a_t_text a_t_doings a_t_acts_cells s_t s_t_acts s_t_acts_cells (6 : Int32) (0 : Int32) x32 h32) lk_X3_138 hP hD hS hA [0, 2, 3] rfl rfl rfl rfl rfl rfl hl.1 rfl (Nat.le_of_ble_eq_true rfl) ⟨Nat.le_of_ble_eq_true rfl, Nat.le_of_ble_eq_true rfl⟩ dX3_night_32 ⟨Nat.le_refl _, Nat.le_refl _⟩ rfl rfl rfl rfl (fun H locs hP hD hS => ?_)
    refine lv_pop hx hb dX3_night_35 rfl ?_
    refine lv_aload_n hx hb dX3_night_36 rfl (lv_at hl 0 rfl) ?_
    refine va_get (D := (dC, dI)) (ci := 3) (v := .ref a_t_now) (C := RX3) (T := TX3) (N := 11) hx hb hU inlX3 hown hE.1 hP 0 rfl rfl 1 (by decide) (hU _ u_1_20) (fun _ h9 => h9) rfl dX3_night_37 ?_
    refine va_get (D := (dC, dI)) (ci := 0) (v := .int (s_t_now.2.2 + (1 : Int32))) (C := RX0) (T := TX0) (N := 6) hx hb hU inlX0 hown hE.1 hP 1 rfl rfl 5 (by decide) (hU _ u_11_20) (fun _ h9 => h9) rfl dX3_night_40 ?_
    cases hM
    exact rt _ _ _ _ _ hP hS dX3_night_43 rfl
  · have hM := ite_f c9 hM
    refine lv_bipush (v := (-3 : Int32)) hx hb dX3_night_12 (by decide) ?_
    cases hM
    exact rt _ _ _ _ _ hP hS dX3_night_14 rfl
noncomputable def mX3_paper (s_t_papers : Int32 × Int32 × Int32) (s_t_papers_cells : Ar) (s_t_now : Int32 × Int32 × Int32) (v1 : Int32) (v2 : Int32) : Option (Int32) := (mX1_has s_t_papers v1).bind (fun x5 => (if x5 = true then (if v2 = (0 : Int32) then (mX1_at s_t_papers s_t_papers_cells v1 (3 : Int32)).bind (fun x54 => some (x54)) else (if v2 = (1 : Int32) then (mX1_at s_t_papers s_t_papers_cells v1 (0 : Int32)).bind (fun x64 => some (x64)) else (if v2 = (2 : Int32) then (mX1_at s_t_papers s_t_papers_cells v1 (1 : Int32)).bind (fun x74 => some (x74)) else (if v2 = (3 : Int32) then (mX1_at s_t_papers s_t_papers_cells v1 (4 : Int32)).bind (fun x84 => some (x84)) else (if v2 = (4 : Int32) then (mX0_standing s_t_now s_t_papers s_t_papers_cells s_t_now.1).bind (fun x99 => (mX3_bit x99 v1).bind (fun x103 => some (x103))) else some ((-2 : Int32))))))) else some ((-1 : Int32))))
set_option maxHeartbeats 4000000 in
set_option maxRecDepth 100000 in
theorem okX3_paper {l : Launch} {dC : Nat → ClassId} {dI : Nat → Nat → Nat} {cI cC cZ : ClassId} (a_t a_t_papers a_t_now a_t_trial a_t_firstSlot a_t_secondSlot a_t_acts a_t_seen a_t_text a_t_doings a_t_papers_cells a_t_now_grants a_t_now_routes : Nat) (s_t : Int32 × Int64) (s_t_papers : Int32 × Int32 × Int32) (s_t_papers_cells : Ar) (s_t_now : Int32 × Int32 × Int32) (v1 : Int32) (v2 : Int32) (res : Int32) (hM : mX3_paper s_t_papers s_t_papers_cells s_t_now v1 v2 = some res) : Rd l yX3_paper cX3_paper 3 (some .int) 2 46 (dC, dI) cI cC cZ [(a_t, .inr (3, [.ref a_t_papers, .ref a_t_now, .ref a_t_trial, .ref a_t_firstSlot, .ref a_t_secondSlot, .ref a_t_acts, .ref a_t_seen, .ref a_t_text, .ref a_t_doings, .int s_t.1, .long s_t.2])), (a_t_papers, .inr (1, [.int s_t_papers.1, .int s_t_papers.2.1, .ref a_t_papers_cells, .int s_t_papers.2.2])), (a_t_papers_cells, .inl (cI, s_t_papers_cells.1, .inl s_t_papers_cells.2)), (a_t_now, .inr (0, [.ref a_t_papers, .ref a_t_now_grants, .ref a_t_now_routes, .int s_t_now.1, .int s_t_now.2.1, .int s_t_now.2.2]))] [.ref a_t, .int v1, .int v2] (some (.int res)) := by
  refine Rd.ofI (by decide) (Nat.le_of_ble_eq_true rfl) [(0, .ref a_t), (1, .int v1), (2, .int v2)] rfl ?_
  intro p e s m args below meth c ls Q hx hb hml hown hU hE hP rt hl
  have hown : s.vm.findClass RX3 = some m.cls := hown
  unfold mX3_paper at hM
  refine lv_aload_n hx hb dX3_paper_0 rfl (lv_at hl 0 rfl) ?_
  refine va_get (D := (dC, dI)) (ci := 3) (v := .ref a_t_papers) (C := RX3) (T := TX3) (N := 11) hx hb hU inlX3 hown hE.1 hP 0 rfl rfl 0 (by decide) (hU _ u_1_16) (fun _ h9 => h9) rfl dX3_paper_1 ?_
  refine lv_iload_n hx hb dX3_paper_4 rfl (lv_at hl 1 rfl) ?_
  obtain ⟨x5, h5, hM⟩ := bind_e hM
  refine rdV (As := [.int v1]) (rest := []) (st2 := [.int (b2i x5)]) ⟨hx, hb, hml, hown, hU⟩ hE (okX1_has a_t_papers a_t_papers_cells s_t_papers v1 x5 h5) lk_X3_114 (hP.sub [1] rfl) rfl rfl rfl hl.1 rfl (Nat.le_of_ble_eq_true rfl) ⟨Nat.le_of_ble_eq_true rfl, Nat.le_of_ble_eq_true rfl⟩ dX3_paper_5 ⟨Nat.le_refl _, Nat.le_refl _⟩ rfl ?_
  refine lv_if_ne (tgt := 13) hx hb dX3_paper_8 (by decide) (fun c8 => ?_) (fun c8 => ?_)
  · have hM := ite_t (b2i_ne0 c8) hM
    refine lv_iload_n hx hb dX3_paper_13 rfl (lv_at hl 2 rfl) ?_
    by_cases c14_0 : v2 = (0 : Int32)
    · have hM := ite_t c14_0 hM
      refine lv_tableIn (off := 34) (tgt := 48) hx hb dX3_paper_14 (by rw [c14_0]; decide) (by rw [c14_0]; decide) (by rw [c14_0]; rfl) (by decide) ?_
      refine lv_aload_n hx hb dX3_paper_48 rfl (lv_at hl 0 rfl) ?_
      refine va_get (D := (dC, dI)) (ci := 3) (v := .ref a_t_papers) (C := RX3) (T := TX3) (N := 11) hx hb hU inlX3 hown hE.1 hP 0 rfl rfl 0 (by decide) (hU _ u_1_16) (fun _ h9 => h9) rfl dX3_paper_49 ?_
      refine lv_iload_n hx hb dX3_paper_52 rfl (lv_at hl 1 rfl) ?_
      refine lv_iconst (v := (3 : Int32)) hx hb dX3_paper_53 (by decide) ?_
      obtain ⟨x54, h54, hM⟩ := bind_e hM
      refine rdV (As := [.int v1, .int (3 : Int32)]) (rest := []) (st2 := [.int x54]) ⟨hx, hb, hml, hown, hU⟩ hE (okX1_at a_t_papers a_t_papers_cells s_t_papers s_t_papers_cells v1 (3 : Int32) x54 h54) lk_X3_118 (hP.sub [1, 2] rfl) rfl rfl rfl hl.1 rfl (Nat.le_of_ble_eq_true rfl) ⟨Nat.le_of_ble_eq_true rfl, Nat.le_of_ble_eq_true rfl⟩ dX3_paper_54 ⟨Nat.le_refl _, Nat.le_refl _⟩ rfl ?_
      cases hM
      exact rt _ _ _ dX3_paper_57 rfl
    have hM := ite_f c14_0 hM
    by_cases c14_1 : v2 = (1 : Int32)
    · have hM := ite_t c14_1 hM
      refine lv_tableIn (off := 44) (tgt := 58) hx hb dX3_paper_14 (by rw [c14_1]; decide) (by rw [c14_1]; decide) (by rw [c14_1]; rfl) (by decide) ?_
      refine lv_aload_n hx hb dX3_paper_58 rfl (lv_at hl 0 rfl) ?_
      refine va_get (D := (dC, dI)) (ci := 3) (v := .ref a_t_papers) (C := RX3) (T := TX3) (N := 11) hx hb hU inlX3 hown hE.1 hP 0 rfl rfl 0 (by decide) (hU _ u_1_16) (fun _ h9 => h9) rfl dX3_paper_59 ?_
      refine lv_iload_n hx hb dX3_paper_62 rfl (lv_at hl 1 rfl) ?_
      refine lv_iconst (v := (0 : Int32)) hx hb dX3_paper_63 (by decide) ?_
      obtain ⟨x64, h64, hM⟩ := bind_e hM
      refine rdV (As := [.int v1, .int (0 : Int32)]) (rest := []) (st2 := [.int x64]) ⟨hx, hb, hml, hown, hU⟩ hE (okX1_at a_t_papers a_t_papers_cells s_t_papers s_t_papers_cells v1 (0 : Int32) x64 h64) lk_X3_118 (hP.sub [1, 2] rfl) rfl rfl rfl hl.1 rfl (Nat.le_of_ble_eq_true rfl) ⟨Nat.le_of_ble_eq_true rfl, Nat.le_of_ble_eq_true rfl⟩ dX3_paper_64 ⟨Nat.le_refl _, Nat.le_refl _⟩ rfl ?_
      cases hM
      exact rt _ _ _ dX3_paper_67 rfl
    have hM := ite_f c14_1 hM
    by_cases c14_2 : v2 = (2 : Int32)
    · have hM := ite_t c14_2 hM
      refine lv_tableIn (off := 54) (tgt := 68) hx hb dX3_paper_14 (by rw [c14_2]; decide) (by rw [c14_2]; decide) (by rw [c14_2]; rfl) (by decide) ?_
      refine lv_aload_n hx hb dX3_paper_68 rfl (lv_at hl 0 rfl) ?_
      refine va_get (D := (dC, dI)) (ci := 3) (v := .ref a_t_papers) (C := RX3) (T := TX3) (N := 11) hx hb hU inlX3 hown hE.1 hP 0 rfl rfl 0 (by decide) (hU _ u_1_16) (fun _ h9 => h9) rfl dX3_paper_69 ?_
      refine lv_iload_n hx hb dX3_paper_72 rfl (lv_at hl 1 rfl) ?_
      refine lv_iconst (v := (1 : Int32)) hx hb dX3_paper_73 (by decide) ?_
      obtain ⟨x74, h74, hM⟩ := bind_e hM
      refine rdV (As := [.int v1, .int (1 : Int32)]) (rest := []) (st2 := [.int x74]) ⟨hx, hb, hml, hown, hU⟩ hE (okX1_at a_t_papers a_t_papers_cells s_t_papers s_t_papers_cells v1 (1 : Int32) x74 h74) lk_X3_118 (hP.sub [1, 2] rfl) rfl rfl rfl hl.1 rfl (Nat.le_of_ble_eq_true rfl) ⟨Nat.le_of_ble_eq_true rfl, Nat.le_of_ble_eq_true rfl⟩ dX3_paper_74 ⟨Nat.le_refl _, Nat.le_refl _⟩ rfl ?_
      cases hM
      exact rt _ _ _ dX3_paper_77 rfl
    have hM := ite_f c14_2 hM
    by_cases c14_3 : v2 = (3 : Int32)
    · have hM := ite_t c14_3 hM
      refine lv_tableIn (off := 64) (tgt := 78) hx hb dX3_paper_14 (by rw [c14_3]; decide) (by rw [c14_3]; decide) (by rw [c14_3]; rfl) (by decide) ?_
      refine lv_aload_n hx hb dX3_paper_78 rfl (lv_at hl 0 rfl) ?_
      refine va_get (D := (dC, dI)) (ci := 3) (v := .ref a_t_papers) (C := RX3) (T := TX3) (N := 11) hx hb hU inlX3 hown hE.1 hP 0 rfl rfl 0 (by decide) (hU _ u_1_16) (fun _ h9 => h9) rfl dX3_paper_79 ?_
      refine lv_iload_n hx hb dX3_paper_82 rfl (lv_at hl 1 rfl) ?_
      refine lv_iconst (v := (4 : Int32)) hx hb dX3_paper_83 (by decide) ?_
      obtain ⟨x84, h84, hM⟩ := bind_e hM
      refine rdV (As := [.int v1, .int (4 : Int32)]) (rest := []) (st2 := [.int x84]) ⟨hx, hb, hml, hown, hU⟩ hE (okX1_at a_t_papers a_t_papers_cells s_t_papers s_t_papers_cells v1 (4 : Int32) x84 h84) lk_X3_118 (hP.sub [1, 2] rfl) rfl rfl rfl hl.1 rfl (Nat.le_of_ble_eq_true rfl) ⟨Nat.le_of_ble_eq_true rfl, Nat.le_of_ble_eq_true rfl⟩ dX3_paper_84 ⟨Nat.le_refl _, Nat.le_refl _⟩ rfl ?_
      cases hM
      exact rt _ _ _ dX3_paper_87 rfl
    have hM := ite_f c14_3 hM
    by_cases c14_4 : v2 = (4 : Int32)
    · have hM := ite_t c14_4 hM
      refine lv_tableIn (off := 74) (tgt := 88) hx hb dX3_paper_14 (by rw [c14_4]; decide) (by rw [c14_4]; decide) (by rw [c14_4]; rfl) (by decide) ?_
      refine lv_aload_n hx hb dX3_paper_88 rfl (lv_at hl 0 rfl) ?_
      refine va_get (D := (dC, dI)) (ci := 3) (v := .ref a_t_now) (C := RX3) (T := TX3) (N := 11) hx hb hU inlX3 hown hE.1 hP 0 rfl rfl 1 (by decide) (hU _ u_1_20) (fun _ h9 => h9) rfl dX3_paper_89 ?_
      refine lv_aload_n hx hb dX3_paper_92 rfl (lv_at hl 0 rfl) ?_
      refine va_get (D := (dC, dI)) (ci := 3) (v := .ref a_t_now) (C := RX3) (T := TX3) (N := 11) hx hb hU inlX3 hown hE.1 hP 0 rfl rfl 1 (by decide) (hU _ u_1_20) (fun _ h9 => h9) rfl dX3_paper_93 ?_
      refine va_get (D := (dC, dI)) (ci := 0) (v := .int s_t_now.1) (C := RX0) (T := TX0) (N := 6) hx hb hU inlX0 hown hE.1 hP 3 rfl rfl 3 (by decide) (hU _ u_11_21) (fun _ h9 => h9) rfl dX3_paper_96 ?_
      obtain ⟨x99, h99, hM⟩ := bind_e hM
      refine rdV (As := [.int s_t_now.1]) (rest := []) (st2 := [.int x99]) ⟨hx, hb, hml, hown, hU⟩ hE (okX0_standing a_t_now a_t_papers a_t_now_grants a_t_now_routes a_t_papers_cells s_t_now s_t_papers s_t_papers_cells s_t_now.1 x99 h99) lk_X3_97 (hP.sub [3, 1, 2] rfl) rfl rfl rfl hl.1 rfl (Nat.le_of_ble_eq_true rfl) ⟨Nat.le_of_ble_eq_true rfl, Nat.le_of_ble_eq_true rfl⟩ dX3_paper_99 ⟨Nat.le_refl _, Nat.le_refl _⟩ rfl ?_
      refine lv_iload_n hx hb dX3_paper_102 rfl (lv_at hl 1 rfl) ?_
      obtain ⟨x103, h103, hM⟩ := bind_e hM
      refine rdS (As := [.int x99, .int v1]) (rest := []) (st2 := [.int x103]) ⟨hx, hb, hml, hown, hU⟩ hE (okX3_bit x99 v1 x103 h103) lk_X3_121 (hP.sub [] rfl) rfl hl.1 rfl (Nat.le_of_ble_eq_true rfl) ⟨Nat.le_of_ble_eq_true rfl, Nat.le_of_ble_eq_true rfl⟩ dX3_paper_103 ⟨Nat.le_refl _, Nat.le_refl _⟩ rfl ?_
      cases hM
      exact rt _ _ _ dX3_paper_106 rfl
    have hM := ite_f c14_4 hM
    refine lv_tableOut (tgt := 107) hx hb dX3_paper_14 (sw_out (fun v h1 h2 h3 => by rcases (show v = 0 ∨ v = 1 ∨ v = 2 ∨ v = 3 ∨ v = 4 by omega) with rfl | rfl | rfl | rfl | rfl <;> first | exact c14_0 (Int32.toInt_inj.mp (h3.trans (by decide))) | exact c14_1 (Int32.toInt_inj.mp (h3.trans (by decide))) | exact c14_2 (Int32.toInt_inj.mp (h3.trans (by decide))) | exact c14_3 (Int32.toInt_inj.mp (h3.trans (by decide))) | exact c14_4 (Int32.toInt_inj.mp (h3.trans (by decide))))) (by decide) ?_
    refine lv_bipush (v := (-2 : Int32)) hx hb dX3_paper_107 (by decide) ?_
    cases hM
    exact rt _ _ _ dX3_paper_109 rfl
  · have hM := ite_f (b2i_eq0 c8) hM
    refine lv_iconst (v := (-1 : Int32)) hx hb dX3_paper_11 (by decide) ?_
    cases hM
    exact rt _ _ _ dX3_paper_12 rfl
noncomputable def mX3_putBack_b8 (s_q3 : Int32 × Int32 × Int32) (s_t_acts : Int32 × Int32 × Int32) (s_t_acts_cells : Ar) (v1 : Int32) (v2 : Int32) : Nat → Int32 → Ar → Option ((Int32 × Int32 × Int32) × Ar)
  | 0, _, _ => none
  | n + 1, v4, s_q3_cells => (if s_q3.2.1 ≤ v4 then some (s_q3, s_q3_cells) else (mX1_at s_t_acts s_t_acts_cells v1 ((2 : Int32) + v4)).bind (fun x30 => (mX1_put s_q3 s_q3_cells v2 v4 x30).bind (fun x33 => mX3_putBack_b8 s_q3 s_t_acts s_t_acts_cells v1 v2 n (v4 + (1 : Int32)) x33)))
noncomputable def mX3_putBack (s_q3 : Int32 × Int32 × Int32) (s_q3_cells : Ar) (s_t_acts : Int32 × Int32 × Int32) (s_t_acts_cells : Ar) (v1 : Int32) (v2 : Int32) : Option ((Int32 × Int32 × Int32) × Ar) := (mX1_openAt s_q3 s_q3_cells v2).bind (fun x2 => mX3_putBack_b8 x2.1 s_t_acts s_t_acts_cells v1 v2 FU (0 : Int32) x2.2)
set_option maxHeartbeats 4000000 in
set_option maxRecDepth 100000 in
theorem okX3_putBack {l : Launch} {dC : Nat → ClassId} {dI : Nat → Nat → Nat} {cI cC cZ : ClassId} (a_t a_t_papers a_t_now a_t_trial a_t_firstSlot a_t_secondSlot a_t_acts a_t_seen a_t_text a_t_doings a_q3 a_q3_cells a_t_acts_cells : Nat) (s_t : Int32 × Int64) (s_q3 : Int32 × Int32 × Int32) (s_q3_cells : Ar) (s_t_acts : Int32 × Int32 × Int32) (s_t_acts_cells : Ar) (v1 : Int32) (v2 : Int32) (res : (Int32 × Int32 × Int32) × Ar) (hM : mX3_putBack s_q3 s_q3_cells s_t_acts s_t_acts_cells v1 v2 = some res) : Mu l yX3_putBack cX3_putBack 5 none 2 61 (dC, dI) cI cC cZ [(a_t, .inr (3, [.ref a_t_papers, .ref a_t_now, .ref a_t_trial, .ref a_t_firstSlot, .ref a_t_secondSlot, .ref a_t_acts, .ref a_t_seen, .ref a_t_text, .ref a_t_doings, .int s_t.1, .long s_t.2])), (a_q3, .inr (1, [.int s_q3.1, .int s_q3.2.1, .ref a_q3_cells, .int s_q3.2.2])), (a_q3_cells, .inl (cI, s_q3_cells.1, .inl s_q3_cells.2)), (a_t_acts, .inr (1, [.int s_t_acts.1, .int s_t_acts.2.1, .ref a_t_acts_cells, .int s_t_acts.2.2])), (a_t_acts_cells, .inl (cI, s_t_acts_cells.1, .inl s_t_acts_cells.2))] [(a_t, .inr (3, [.ref a_t_papers, .ref a_t_now, .ref a_t_trial, .ref a_t_firstSlot, .ref a_t_secondSlot, .ref a_t_acts, .ref a_t_seen, .ref a_t_text, .ref a_t_doings, .int s_t.1, .long s_t.2])), (a_q3, .inr (1, [.int res.1.1, .int res.1.2.1, .ref a_q3_cells, .int res.1.2.2])), (a_q3_cells, .inl (cI, res.2.1, .inl res.2.2)), (a_t_acts, .inr (1, [.int s_t_acts.1, .int s_t_acts.2.1, .ref a_t_acts_cells, .int s_t_acts.2.2])), (a_t_acts_cells, .inl (cI, s_t_acts_cells.1, .inl s_t_acts_cells.2))] [.ref a_t, .int v1, .int v2, .ref a_q3] none := by
  refine Mu.ofV (by decide) (Nat.le_of_ble_eq_true rfl) [(0, .ref a_t), (1, .int v1), (2, .int v2), (3, .ref a_q3)] rfl ?_
  intro p e s m args below meth c ls Q A hx hb hml hown hU hE hP hD hS hA rt hl
  have hown : s.vm.findClass RX3 = some m.cls := hown
  unfold mX3_putBack at hM
  refine lv_aload_n hx hb dX3_putBack_0 rfl (lv_at hl 3 rfl) ?_
  refine lv_iload_n hx hb dX3_putBack_1 rfl (lv_at hl 2 rfl) ?_
  obtain ⟨x2, h2, hM⟩ := bind_e hM
  refine muV (As := [.int v2]) (rest := []) (st2 := []) (nw := [(a_t, .inr (3, [.ref a_t_papers, .ref a_t_now, .ref a_t_trial, .ref a_t_firstSlot, .ref a_t_secondSlot, .ref a_t_acts, .ref a_t_seen, .ref a_t_text, .ref a_t_doings, .int s_t.1, .long s_t.2])), (a_q3, .inr (1, [.int x2.1.1, .int x2.1.2.1, .ref a_q3_cells, .int x2.1.2.2])), (a_q3_cells, .inl (cI, x2.2.1, .inl x2.2.2)), (a_t_acts, .inr (1, [.int s_t_acts.1, .int s_t_acts.2.1, .ref a_t_acts_cells, .int s_t_acts.2.2])), (a_t_acts_cells, .inl (cI, s_t_acts_cells.1, .inl s_t_acts_cells.2))]) ⟨hx, hb, hml, hown, hU⟩ hE (okX1_openAt a_q3 a_q3_cells s_q3 s_q3_cells v2 x2 h2) lk_X3_214 hP hD hS hA [1, 2] rfl rfl rfl rfl rfl rfl hl.1 rfl (Nat.le_of_ble_eq_true rfl) ⟨Nat.le_of_ble_eq_true rfl, Nat.le_of_ble_eq_true rfl⟩ dX3_putBack_2 ⟨Nat.le_refl _, Nat.le_refl _⟩ rfl rfl rfl rfl (fun H locs hP hD hS => ?_)
  refine lv_iconst (v := (0 : Int32)) hx hb dX3_putBack_5 (by decide) ?_
  refine lv_istore (lv' := [(4, .int (0 : Int32)), (0, .ref a_t), (1, .int v1), (2, .int v2), (3, .ref a_q3)]) hx hb dX3_putBack_6 hl (by decide) rfl (fun ls hl => ?_)
  have w_8 : ∀ (n : Nat) (v4_8 : Int32) (s_q3_cells_8 : Ar), mX3_putBack_b8 x2.1 s_t_acts s_t_acts_cells v1 v2 n v4_8 s_q3_cells_8 = some res → ∀ (ls : Array Slot) (H : Heap) (locs : List Loc), va_P (dC, dI) vwCl [(a_t, .inr (3, [.ref a_t_papers, .ref a_t_now, .ref a_t_trial, .ref a_t_firstSlot, .ref a_t_secondSlot, .ref a_t_acts, .ref a_t_seen, .ref a_t_text, .ref a_t_doings, .int s_t.1, .long s_t.2])), (a_q3, .inr (1, [.int x2.1.1, .int x2.1.2.1, .ref a_q3_cells, .int x2.1.2.2])), (a_q3_cells, .inl (cI, s_q3_cells_8.1, .inl s_q3_cells_8.2)), (a_t_acts, .inr (1, [.int s_t_acts.1, .int s_t_acts.2.1, .ref a_t_acts_cells, .int s_t_acts.2.2])), (a_t_acts_cells, .inl (cI, s_t_acts_cells.1, .inl s_t_acts_cells.2))] H → va_D A [(a_t, .inr (3, [.ref a_t_papers, .ref a_t_now, .ref a_t_trial, .ref a_t_firstSlot, .ref a_t_secondSlot, .ref a_t_acts, .ref a_t_seen, .ref a_t_text, .ref a_t_doings, .int s_t.1, .long s_t.2])), (a_q3, .inr (1, [.int x2.1.1, .int x2.1.2.1, .ref a_q3_cells, .int x2.1.2.2])), (a_q3_cells, .inl (cI, s_q3_cells_8.1, .inl s_q3_cells_8.2)), (a_t_acts, .inr (1, [.int s_t_acts.1, .int s_t_acts.2.1, .ref a_t_acts_cells, .int s_t_acts.2.2])), (a_t_acts_cells, .inl (cI, s_t_acts_cells.1, .inl s_t_acts_cells.2))] → va_S A s.heap H locs → lv_has ls 5 [(0, .ref a_t), (1, .int v1), (2, .int v2), (3, .ref a_q3), (4, .int v4_8)] → W p l e (RM 2 61) s m args below meth c H locs 0 0 Q (F0 m 8 ls []) := by
    intro n
    induction n with
    | zero =>
      intro v4_8 s_q3_cells_8 hM
      rw [mX3_putBack_b8] at hM
      cases hM
    | succ n_8 ih_8 =>
      intro v4_8 s_q3_cells_8 hM ls H locs hP hD hS hl
      rw [mX3_putBack_b8] at hM
      refine lv_iload hx hb dX3_putBack_8 (lv_at hl 4 rfl) ?_
      refine lv_aload_n hx hb dX3_putBack_10 rfl (lv_at hl 3 rfl) ?_
      refine va_get (D := (dC, dI)) (ci := 1) (v := .int x2.1.2.1) (C := RX1) (T := TX1) (N := 4) hx hb hU inlX1 hown hE.1 hP 1 rfl rfl 1 (by decide) (hU _ u_19_13) (fun _ h9 => h9) rfl dX3_putBack_11 ?_
      refine lv_icmp_ge (tgt := 42) hx hb dX3_putBack_14 (by decide) (fun c14 => ?_) (fun c14 => ?_)
      · have hM := ite_t c14 hM
        cases hM
        exact rt _ _ _ _ hP hS dX3_putBack_42 rfl
      · have hM := ite_f c14 hM
        refine lv_aload_n hx hb dX3_putBack_17 rfl (lv_at hl 3 rfl) ?_
        refine lv_iload_n hx hb dX3_putBack_18 rfl (lv_at hl 2 rfl) ?_
        refine lv_iload hx hb dX3_putBack_19 (lv_at hl 4 rfl) ?_
        refine lv_aload_n hx hb dX3_putBack_21 rfl (lv_at hl 0 rfl) ?_
        refine va_get (D := (dC, dI)) (ci := 3) (v := .ref a_t_acts) (C := RX3) (T := TX3) (N := 11) hx hb hU inlX3 hown hE.1 hP 0 rfl rfl 5 (by decide) (hU _ u_2_0) (fun _ h9 => h9) rfl dX3_putBack_22 ?_
        refine lv_iload_n hx hb dX3_putBack_25 rfl (lv_at hl 1 rfl) ?_
        refine lv_iconst (v := (2 : Int32)) hx hb dX3_putBack_26 (by decide) ?_
        refine lv_iload hx hb dX3_putBack_27 (lv_at hl 4 rfl) ?_
        refine lv_iadd hx hb dX3_putBack_29 ?_
        obtain ⟨x30, h30, hM⟩ := bind_e hM
        refine rdV (As := [.int v1, .int ((2 : Int32) + v4_8)]) (rest := [.int v4_8, .int v2, .ref a_q3]) (st2 := [.int x30, .int v4_8, .int v2, .ref a_q3]) ⟨hx, hb, hml, hown, hU⟩ hE (okX1_at a_t_acts a_t_acts_cells s_t_acts s_t_acts_cells v1 ((2 : Int32) + v4_8) x30 h30) lk_X3_118 (hP.sub [3, 4] rfl) rfl rfl rfl hl.1 rfl (Nat.le_of_ble_eq_true rfl) ⟨Nat.le_of_ble_eq_true rfl, Nat.le_of_ble_eq_true rfl⟩ dX3_putBack_30 ⟨Nat.le_refl _, Nat.le_refl _⟩ rfl ?_
        obtain ⟨x33, h33, hM⟩ := bind_e hM
        refine muV (As := [.int v2, .int v4_8, .int x30]) (rest := []) (st2 := []) (nw := [(a_t, .inr (3, [.ref a_t_papers, .ref a_t_now, .ref a_t_trial, .ref a_t_firstSlot, .ref a_t_secondSlot, .ref a_t_acts, .ref a_t_seen, .ref a_t_text, .ref a_t_doings, .int s_t.1, .long s_t.2])), (a_q3, .inr (1, [.int x2.1.1, .int x2.1.2.1, .ref a_q3_cells, .int x2.1.2.2])), (a_q3_cells, .inl (cI, x33.1, .inl x33.2)), (a_t_acts, .inr (1, [.int s_t_acts.1, .int s_t_acts.2.1, .ref a_t_acts_cells, .int s_t_acts.2.2])), (a_t_acts_cells, .inl (cI, s_t_acts_cells.1, .inl s_t_acts_cells.2))]) ⟨hx, hb, hml, hown, hU⟩ hE (okX1_put a_q3 a_q3_cells x2.1 s_q3_cells_8 v2 v4_8 x30 x33 h33) lk_X3_179 hP hD hS hA [1, 2] rfl rfl rfl rfl rfl rfl hl.1 rfl (Nat.le_of_ble_eq_true rfl) ⟨Nat.le_of_ble_eq_true rfl, Nat.le_of_ble_eq_true rfl⟩ dX3_putBack_33 ⟨Nat.le_refl _, Nat.le_refl _⟩ rfl rfl rfl rfl (fun H locs hP hD hS => ?_)
        refine lv_iinc (v := (v4_8 + (1 : Int32))) (lv' := [(4, .int (v4_8 + (1 : Int32))), (0, .ref a_t), (1, .int v1), (2, .int v2), (3, .ref a_q3)]) hx hb dX3_putBack_36 hl (k := 4) rfl rfl (by decide) rfl (fun ls hl => ?_)
        refine lv_goto (tgt := 8) hx hb dX3_putBack_39 (by decide) ?_
        exact ih_8 (v4_8 + (1 : Int32)) x33 hM ls _ _ hP hD hS (lv_sub hl [1, 2, 3, 4, 0] rfl)
  exact w_8 FU (0 : Int32) x2.2 hM ls _ _ hP hD hS (lv_sub hl [1, 2, 3, 4, 0] rfl)
noncomputable def mX3_rememberRow_b11 (s_t_acts : Int32 × Int32 × Int32) (s_q3 : Int32 × Int32 × Int32) (s_q3_cells : Ar) (v2 : Int32) (v4 : Int32) : Nat → Int32 → Ar → Option ((Int32 × Int32 × Int32) × Ar)
  | 0, _, _ => none
  | n + 1, v5, s_t_acts_cells => (if s_q3.2.1 ≤ v5 then some (s_t_acts, s_t_acts_cells) else (mX1_at s_q3 s_q3_cells v2 v5).bind (fun x34 => (mX1_put s_t_acts s_t_acts_cells v4 ((2 : Int32) + v5) x34).bind (fun x37 => mX3_rememberRow_b11 s_t_acts s_q3 s_q3_cells v2 v4 n (v5 + (1 : Int32)) x37)))
noncomputable def mX3_rememberRow (s_t_acts : Int32 × Int32 × Int32) (s_t_acts_cells : Ar) (s_q3 : Int32 × Int32 × Int32) (s_q3_cells : Ar) (v1 : Int32) (v2 : Int32) : Option ((Int32 × Int32 × Int32) × Ar) := (mX3_remember s_t_acts s_t_acts_cells v1 v2).bind (fun x3 => mX3_rememberRow_b11 x3.2.1 s_q3 s_q3_cells v2 x3.1 FU (0 : Int32) x3.2.2)
set_option maxHeartbeats 4000000 in
set_option maxRecDepth 100000 in
theorem okX3_rememberRow {l : Launch} {dC : Nat → ClassId} {dI : Nat → Nat → Nat} {cI cC cZ : ClassId} (a_t a_t_papers a_t_now a_t_trial a_t_firstSlot a_t_secondSlot a_t_acts a_t_seen a_t_text a_t_doings a_t_acts_cells a_q3 a_q3_cells : Nat) (s_t : Int32 × Int64) (s_t_acts : Int32 × Int32 × Int32) (s_t_acts_cells : Ar) (s_q3 : Int32 × Int32 × Int32) (s_q3_cells : Ar) (v1 : Int32) (v2 : Int32) (res : (Int32 × Int32 × Int32) × Ar) (hM : mX3_rememberRow s_t_acts s_t_acts_cells s_q3 s_q3_cells v1 v2 = some res) : Mu l yX3_rememberRow cX3_rememberRow 6 none 3 84 (dC, dI) cI cC cZ [(a_t, .inr (3, [.ref a_t_papers, .ref a_t_now, .ref a_t_trial, .ref a_t_firstSlot, .ref a_t_secondSlot, .ref a_t_acts, .ref a_t_seen, .ref a_t_text, .ref a_t_doings, .int s_t.1, .long s_t.2])), (a_t_acts, .inr (1, [.int s_t_acts.1, .int s_t_acts.2.1, .ref a_t_acts_cells, .int s_t_acts.2.2])), (a_t_acts_cells, .inl (cI, s_t_acts_cells.1, .inl s_t_acts_cells.2)), (a_q3, .inr (1, [.int s_q3.1, .int s_q3.2.1, .ref a_q3_cells, .int s_q3.2.2])), (a_q3_cells, .inl (cI, s_q3_cells.1, .inl s_q3_cells.2))] [(a_t, .inr (3, [.ref a_t_papers, .ref a_t_now, .ref a_t_trial, .ref a_t_firstSlot, .ref a_t_secondSlot, .ref a_t_acts, .ref a_t_seen, .ref a_t_text, .ref a_t_doings, .int s_t.1, .long s_t.2])), (a_t_acts, .inr (1, [.int res.1.1, .int res.1.2.1, .ref a_t_acts_cells, .int res.1.2.2])), (a_t_acts_cells, .inl (cI, res.2.1, .inl res.2.2)), (a_q3, .inr (1, [.int s_q3.1, .int s_q3.2.1, .ref a_q3_cells, .int s_q3.2.2])), (a_q3_cells, .inl (cI, s_q3_cells.1, .inl s_q3_cells.2))] [.ref a_t, .int v1, .int v2, .ref a_q3] none := by
  refine Mu.ofV (by decide) (Nat.le_of_ble_eq_true rfl) [(0, .ref a_t), (1, .int v1), (2, .int v2), (3, .ref a_q3)] rfl ?_
  intro p e s m args below meth c ls Q A hx hb hml hown hU hE hP hD hS hA rt hl
  have hown : s.vm.findClass RX3 = some m.cls := hown
  unfold mX3_rememberRow at hM
  refine lv_aload_n hx hb dX3_rememberRow_0 rfl (lv_at hl 0 rfl) ?_
  refine lv_iload_n hx hb dX3_rememberRow_1 rfl (lv_at hl 1 rfl) ?_
  refine lv_iload_n hx hb dX3_rememberRow_2 rfl (lv_at hl 2 rfl) ?_
  obtain ⟨x3, h3, hM⟩ := bind_e hM
  refine muV (As := [.int v1, .int v2]) (rest := []) (st2 := [.int x3.1]) (nw := [(a_t, .inr (3, [.ref a_t_papers, .ref a_t_now, .ref a_t_trial, .ref a_t_firstSlot, .ref a_t_secondSlot, .ref a_t_acts, .ref a_t_seen, .ref a_t_text, .ref a_t_doings, .int s_t.1, .long s_t.2])), (a_t_acts, .inr (1, [.int x3.2.1.1, .int x3.2.1.2.1, .ref a_t_acts_cells, .int x3.2.1.2.2])), (a_t_acts_cells, .inl (cI, x3.2.2.1, .inl x3.2.2.2)), (a_q3, .inr (1, [.int s_q3.1, .int s_q3.2.1, .ref a_q3_cells, .int s_q3.2.2])), (a_q3_cells, .inl (cI, s_q3_cells.1, .inl s_q3_cells.2))]) ⟨hx, hb, hml, hown, hU⟩ hE (okX3_remember a_t a_t_papers a_t_now a_t_trial a_t_firstSlot a_t_secondSlot a_t_acts a_t_seen a_t_text a_t_doings a_t_acts_cells s_t s_t_acts s_t_acts_cells v1 v2 x3 h3) lk_X3_138 hP hD hS hA [0, 1, 2] rfl rfl rfl rfl rfl rfl hl.1 rfl (Nat.le_of_ble_eq_true rfl) ⟨Nat.le_of_ble_eq_true rfl, Nat.le_of_ble_eq_true rfl⟩ dX3_rememberRow_3 ⟨Nat.le_refl _, Nat.le_refl _⟩ rfl rfl rfl rfl (fun H locs hP hD hS => ?_)
  refine lv_istore (lv' := [(4, .int x3.1), (0, .ref a_t), (1, .int v1), (2, .int v2), (3, .ref a_q3)]) hx hb dX3_rememberRow_6 hl (by decide) rfl (fun ls hl => ?_)
  refine lv_iconst (v := (0 : Int32)) hx hb dX3_rememberRow_8 (by decide) ?_
  refine lv_istore (lv' := [(5, .int (0 : Int32)), (4, .int x3.1), (0, .ref a_t), (1, .int v1), (2, .int v2), (3, .ref a_q3)]) hx hb dX3_rememberRow_9 hl (by decide) rfl (fun ls hl => ?_)
  have w_11 : ∀ (n : Nat) (v5_11 : Int32) (s_t_acts_cells_11 : Ar), mX3_rememberRow_b11 x3.2.1 s_q3 s_q3_cells v2 x3.1 n v5_11 s_t_acts_cells_11 = some res → ∀ (ls : Array Slot) (H : Heap) (locs : List Loc), va_P (dC, dI) vwCl [(a_t, .inr (3, [.ref a_t_papers, .ref a_t_now, .ref a_t_trial, .ref a_t_firstSlot, .ref a_t_secondSlot, .ref a_t_acts, .ref a_t_seen, .ref a_t_text, .ref a_t_doings, .int s_t.1, .long s_t.2])), (a_t_acts, .inr (1, [.int x3.2.1.1, .int x3.2.1.2.1, .ref a_t_acts_cells, .int x3.2.1.2.2])), (a_t_acts_cells, .inl (cI, s_t_acts_cells_11.1, .inl s_t_acts_cells_11.2)), (a_q3, .inr (1, [.int s_q3.1, .int s_q3.2.1, .ref a_q3_cells, .int s_q3.2.2])), (a_q3_cells, .inl (cI, s_q3_cells.1, .inl s_q3_cells.2))] H → va_D A [(a_t, .inr (3, [.ref a_t_papers, .ref a_t_now, .ref a_t_trial, .ref a_t_firstSlot, .ref a_t_secondSlot, .ref a_t_acts, .ref a_t_seen, .ref a_t_text, .ref a_t_doings, .int s_t.1, .long s_t.2])), (a_t_acts, .inr (1, [.int x3.2.1.1, .int x3.2.1.2.1, .ref a_t_acts_cells, .int x3.2.1.2.2])), (a_t_acts_cells, .inl (cI, s_t_acts_cells_11.1, .inl s_t_acts_cells_11.2)), (a_q3, .inr (1, [.int s_q3.1, .int s_q3.2.1, .ref a_q3_cells, .int s_q3.2.2])), (a_q3_cells, .inl (cI, s_q3_cells.1, .inl s_q3_cells.2))] → va_S A s.heap H locs → lv_has ls 6 [(0, .ref a_t), (2, .int v2), (3, .ref a_q3), (4, .int x3.1), (5, .int v5_11)] → W p l e (RM 3 84) s m args below meth c H locs 0 0 Q (F0 m 11 ls []) := by
    intro n
    induction n with
    | zero =>
      intro v5_11 s_t_acts_cells_11 hM
      rw [mX3_rememberRow_b11] at hM
      cases hM
    | succ n_11 ih_11 =>
      intro v5_11 s_t_acts_cells_11 hM ls H locs hP hD hS hl
      rw [mX3_rememberRow_b11] at hM
      refine lv_iload hx hb dX3_rememberRow_11 (lv_at hl 4 rfl) ?_
      refine lv_aload_n hx hb dX3_rememberRow_13 rfl (lv_at hl 2 rfl) ?_
      refine va_get (D := (dC, dI)) (ci := 1) (v := .int s_q3.2.1) (C := RX1) (T := TX1) (N := 4) hx hb hU inlX1 hown hE.1 hP 3 rfl rfl 1 (by decide) (hU _ u_19_13) (fun _ h9 => h9) rfl dX3_rememberRow_14 ?_
      refine lv_icmp_ge (tgt := 46) hx hb dX3_rememberRow_17 (by decide) (fun c17 => ?_) (fun c17 => ?_)
      · have hM := ite_t c17 hM
        cases hM
        exact rt _ _ _ _ hP hS dX3_rememberRow_46 rfl
      · have hM := ite_f c17 hM
        refine lv_aload_n hx hb dX3_rememberRow_20 rfl (lv_at hl 0 rfl) ?_
        refine va_get (D := (dC, dI)) (ci := 3) (v := .ref a_t_acts) (C := RX3) (T := TX3) (N := 11) hx hb hU inlX3 hown hE.1 hP 0 rfl rfl 5 (by decide) (hU _ u_2_0) (fun _ h9 => h9) rfl dX3_rememberRow_21 ?_
        refine lv_iload hx hb dX3_rememberRow_24 (lv_at hl 3 rfl) ?_
        refine lv_iconst (v := (2 : Int32)) hx hb dX3_rememberRow_26 (by decide) ?_
        refine lv_iload hx hb dX3_rememberRow_27 (lv_at hl 4 rfl) ?_
        refine lv_iadd hx hb dX3_rememberRow_29 ?_
        refine lv_aload_n hx hb dX3_rememberRow_30 rfl (lv_at hl 2 rfl) ?_
        refine lv_iload_n hx hb dX3_rememberRow_31 rfl (lv_at hl 1 rfl) ?_
        refine lv_iload hx hb dX3_rememberRow_32 (lv_at hl 4 rfl) ?_
        obtain ⟨x34, h34, hM⟩ := bind_e hM
        refine rdV (As := [.int v2, .int v5_11]) (rest := [.int ((2 : Int32) + v5_11), .int x3.1, .ref a_t_acts]) (st2 := [.int x34, .int ((2 : Int32) + v5_11), .int x3.1, .ref a_t_acts]) ⟨hx, hb, hml, hown, hU⟩ hE (okX1_at a_q3 a_q3_cells s_q3 s_q3_cells v2 v5_11 x34 h34) lk_X3_118 (hP.sub [3, 4] rfl) rfl rfl rfl hl.1 rfl (Nat.le_of_ble_eq_true rfl) ⟨Nat.le_of_ble_eq_true rfl, Nat.le_of_ble_eq_true rfl⟩ dX3_rememberRow_34 ⟨Nat.le_refl _, Nat.le_refl _⟩ rfl ?_
        obtain ⟨x37, h37, hM⟩ := bind_e hM
        refine muV (As := [.int x3.1, .int ((2 : Int32) + v5_11), .int x34]) (rest := []) (st2 := []) (nw := [(a_t, .inr (3, [.ref a_t_papers, .ref a_t_now, .ref a_t_trial, .ref a_t_firstSlot, .ref a_t_secondSlot, .ref a_t_acts, .ref a_t_seen, .ref a_t_text, .ref a_t_doings, .int s_t.1, .long s_t.2])), (a_t_acts, .inr (1, [.int x3.2.1.1, .int x3.2.1.2.1, .ref a_t_acts_cells, .int x3.2.1.2.2])), (a_t_acts_cells, .inl (cI, x37.1, .inl x37.2)), (a_q3, .inr (1, [.int s_q3.1, .int s_q3.2.1, .ref a_q3_cells, .int s_q3.2.2])), (a_q3_cells, .inl (cI, s_q3_cells.1, .inl s_q3_cells.2))]) ⟨hx, hb, hml, hown, hU⟩ hE (okX1_put a_t_acts a_t_acts_cells x3.2.1 s_t_acts_cells_11 x3.1 ((2 : Int32) + v5_11) x34 x37 h37) lk_X3_179 hP hD hS hA [1, 2] rfl rfl rfl rfl rfl rfl hl.1 rfl (Nat.le_of_ble_eq_true rfl) ⟨Nat.le_of_ble_eq_true rfl, Nat.le_of_ble_eq_true rfl⟩ dX3_rememberRow_37 ⟨Nat.le_refl _, Nat.le_refl _⟩ rfl rfl rfl rfl (fun H locs hP hD hS => ?_)
        refine lv_iinc (v := (v5_11 + (1 : Int32))) (lv' := [(5, .int (v5_11 + (1 : Int32))), (0, .ref a_t), (2, .int v2), (3, .ref a_q3), (4, .int x3.1)]) hx hb dX3_rememberRow_40 hl (k := 4) rfl rfl (by decide) rfl (fun ls hl => ?_)
        refine lv_goto (tgt := 11) hx hb dX3_rememberRow_43 (by decide) ?_
        exact ih_11 (v5_11 + (1 : Int32)) x37 hM ls _ _ hP hD hS (lv_sub hl [1, 2, 3, 4, 0] rfl)
  exact w_11 FU (0 : Int32) x3.2.2 hM ls _ _ hP hD hS (lv_sub hl [2, 4, 5, 1, 0] rfl)
noncomputable def mX3_revoke (s_t_papers : Int32 × Int32 × Int32) (s_t_now : Int32 × Int32 × Int32) (s_t_acts : Int32 × Int32 × Int32) (s_t_acts_cells : Ar) (v1 : Int32) : Option (Int32 × (Int32 × Int32 × Int32) × (Int32 × Int32 × Int32) × Ar) := (if v1 = 0 then some ((-1 : Int32), s_t_now, s_t_acts, s_t_acts_cells) else (mX1_has s_t_papers v1).bind (fun x9 => (if x9 = true then (mX3_remember s_t_acts s_t_acts_cells (5 : Int32) v1).bind (fun x35 => (mX3_bit (s_t_now.1 ^^^ ((1 : Int32) <<< (v1 &&& 31))) v1).bind (fun x47 => some (x47, ((s_t_now.1 ^^^ ((1 : Int32) <<< (v1 &&& 31))), s_t_now.2.1, s_t_now.2.2), x35.2.1, x35.2.2))) else some ((-1 : Int32), s_t_now, s_t_acts, s_t_acts_cells))))
set_option maxHeartbeats 4000000 in
set_option maxRecDepth 100000 in
theorem okX3_revoke {l : Launch} {dC : Nat → ClassId} {dI : Nat → Nat → Nat} {cI cC cZ : ClassId} (a_t a_t_papers a_t_now a_t_trial a_t_firstSlot a_t_secondSlot a_t_acts a_t_seen a_t_text a_t_doings a_t_papers_cells a_t_now_grants a_t_now_routes a_t_acts_cells : Nat) (s_t : Int32 × Int64) (s_t_papers : Int32 × Int32 × Int32) (s_t_now : Int32 × Int32 × Int32) (s_t_acts : Int32 × Int32 × Int32) (s_t_acts_cells : Ar) (v1 : Int32) (res : Int32 × (Int32 × Int32 × Int32) × (Int32 × Int32 × Int32) × Ar) (hM : mX3_revoke s_t_papers s_t_now s_t_acts s_t_acts_cells v1 = some res) : Mu l yX3_revoke cX3_revoke 2 (some .int) 3 84 (dC, dI) cI cC cZ [(a_t, .inr (3, [.ref a_t_papers, .ref a_t_now, .ref a_t_trial, .ref a_t_firstSlot, .ref a_t_secondSlot, .ref a_t_acts, .ref a_t_seen, .ref a_t_text, .ref a_t_doings, .int s_t.1, .long s_t.2])), (a_t_papers, .inr (1, [.int s_t_papers.1, .int s_t_papers.2.1, .ref a_t_papers_cells, .int s_t_papers.2.2])), (a_t_now, .inr (0, [.ref a_t_papers, .ref a_t_now_grants, .ref a_t_now_routes, .int s_t_now.1, .int s_t_now.2.1, .int s_t_now.2.2])), (a_t_acts, .inr (1, [.int s_t_acts.1, .int s_t_acts.2.1, .ref a_t_acts_cells, .int s_t_acts.2.2])), (a_t_acts_cells, .inl (cI, s_t_acts_cells.1, .inl s_t_acts_cells.2))] [(a_t, .inr (3, [.ref a_t_papers, .ref a_t_now, .ref a_t_trial, .ref a_t_firstSlot, .ref a_t_secondSlot, .ref a_t_acts, .ref a_t_seen, .ref a_t_text, .ref a_t_doings, .int s_t.1, .long s_t.2])), (a_t_papers, .inr (1, [.int s_t_papers.1, .int s_t_papers.2.1, .ref a_t_papers_cells, .int s_t_papers.2.2])), (a_t_now, .inr (0, [.ref a_t_papers, .ref a_t_now_grants, .ref a_t_now_routes, .int res.2.1.1, .int res.2.1.2.1, .int res.2.1.2.2])), (a_t_acts, .inr (1, [.int res.2.2.1.1, .int res.2.2.1.2.1, .ref a_t_acts_cells, .int res.2.2.1.2.2])), (a_t_acts_cells, .inl (cI, res.2.2.2.1, .inl res.2.2.2.2))] [.ref a_t, .int v1] (some (.int res.1)) := by
  refine Mu.ofI (by decide) (Nat.le_of_ble_eq_true rfl) [(0, .ref a_t), (1, .int v1)] rfl ?_
  intro p e s m args below meth c ls Q A hx hb hml hown hU hE hP hD hS hA rt hl
  have hown : s.vm.findClass RX3 = some m.cls := hown
  unfold mX3_revoke at hM
  refine lv_iload_n hx hb dX3_revoke_0 rfl (lv_at hl 1 rfl) ?_
  refine lv_if_eq (tgt := 15) hx hb dX3_revoke_1 (by decide) (fun c1 => ?_) (fun c1 => ?_)
  · have hM := ite_t c1 hM
    refine lv_iconst (v := (-1 : Int32)) hx hb dX3_revoke_15 (by decide) ?_
    cases hM
    exact rt _ _ _ _ _ hP hS dX3_revoke_16 rfl
  · have hM := ite_f c1 hM
    refine lv_aload_n hx hb dX3_revoke_4 rfl (lv_at hl 0 rfl) ?_
    refine va_get (D := (dC, dI)) (ci := 3) (v := .ref a_t_papers) (C := RX3) (T := TX3) (N := 11) hx hb hU inlX3 hown hE.1 hP 0 rfl rfl 0 (by decide) (hU _ u_1_16) (fun _ h9 => h9) rfl dX3_revoke_5 ?_
    refine lv_iload_n hx hb dX3_revoke_8 rfl (lv_at hl 1 rfl) ?_
    obtain ⟨x9, h9, hM⟩ := bind_e hM
    refine rdV (As := [.int v1]) (rest := []) (st2 := [.int (b2i x9)]) ⟨hx, hb, hml, hown, hU⟩ hE (okX1_has a_t_papers a_t_papers_cells s_t_papers v1 x9 h9) lk_X3_114 (hP.sub [1] rfl) rfl rfl rfl hl.1 rfl (Nat.le_of_ble_eq_true rfl) ⟨Nat.le_of_ble_eq_true rfl, Nat.le_of_ble_eq_true rfl⟩ dX3_revoke_9 ⟨Nat.le_refl _, Nat.le_refl _⟩ rfl ?_
    refine lv_if_ne (tgt := 17) hx hb dX3_revoke_12 (by decide) (fun c12 => ?_) (fun c12 => ?_)
    · have hM := ite_t (b2i_ne0 c12) hM
      refine lv_aload_n hx hb dX3_revoke_17 rfl (lv_at hl 0 rfl) ?_
      refine va_get (D := (dC, dI)) (ci := 3) (v := .ref a_t_now) (C := RX3) (T := TX3) (N := 11) hx hb hU inlX3 hown hE.1 hP 0 rfl rfl 1 (by decide) (hU _ u_1_20) (fun _ h9 => h9) rfl dX3_revoke_18 ?_
      refine lv_dup hx hb dX3_revoke_21 rfl ?_
      refine va_get (D := (dC, dI)) (ci := 0) (v := .int s_t_now.1) (C := RX0) (T := TX0) (N := 6) hx hb hU inlX0 hown hE.1 hP 2 rfl rfl 3 (by decide) (hU _ u_11_21) (fun _ h9 => h9) rfl dX3_revoke_22 ?_
      refine lv_iconst (v := (1 : Int32)) hx hb dX3_revoke_25 (by decide) ?_
      refine lv_iload_n hx hb dX3_revoke_26 rfl (lv_at hl 1 rfl) ?_
      refine lv_ishl hx hb dX3_revoke_27 ?_
      refine lv_ixor hx hb dX3_revoke_28 ?_
      refine va_put (D := (dC, dI)) (ci := 0) (v := .int (s_t_now.1 ^^^ ((1 : Int32) <<< (v1 &&& 31)))) (ty := .int) (C := RX0) (T := TX0) (N := 6) hx hb hU inlX0 tyX0 tyX0_ok nmX0 hown hE.1 hP hD hS 2 rfl rfl 3 (by decide) (hU _ u_11_21) (fun _ h9 => h9) rfl (tyX0_ok 3 (by decide)) rfl rfl (Nat.le_of_ble_eq_true rfl) dX3_revoke_29 (fun H locs hP hD hS => ?_)
      have hP : va_P (dC, dI) vwCl [(a_t, .inr (3, [.ref a_t_papers, .ref a_t_now, .ref a_t_trial, .ref a_t_firstSlot, .ref a_t_secondSlot, .ref a_t_acts, .ref a_t_seen, .ref a_t_text, .ref a_t_doings, .int s_t.1, .long s_t.2])), (a_t_papers, .inr (1, [.int s_t_papers.1, .int s_t_papers.2.1, .ref a_t_papers_cells, .int s_t_papers.2.2])), (a_t_now, .inr (0, [.ref a_t_papers, .ref a_t_now_grants, .ref a_t_now_routes, .int (s_t_now.1 ^^^ ((1 : Int32) <<< (v1 &&& 31))), .int s_t_now.2.1, .int s_t_now.2.2])), (a_t_acts, .inr (1, [.int s_t_acts.1, .int s_t_acts.2.1, .ref a_t_acts_cells, .int s_t_acts.2.2])), (a_t_acts_cells, .inl (cI, s_t_acts_cells.1, .inl s_t_acts_cells.2))] H := hP
      have hD : va_D A [(a_t, .inr (3, [.ref a_t_papers, .ref a_t_now, .ref a_t_trial, .ref a_t_firstSlot, .ref a_t_secondSlot, .ref a_t_acts, .ref a_t_seen, .ref a_t_text, .ref a_t_doings, .int s_t.1, .long s_t.2])), (a_t_papers, .inr (1, [.int s_t_papers.1, .int s_t_papers.2.1, .ref a_t_papers_cells, .int s_t_papers.2.2])), (a_t_now, .inr (0, [.ref a_t_papers, .ref a_t_now_grants, .ref a_t_now_routes, .int (s_t_now.1 ^^^ ((1 : Int32) <<< (v1 &&& 31))), .int s_t_now.2.1, .int s_t_now.2.2])), (a_t_acts, .inr (1, [.int s_t_acts.1, .int s_t_acts.2.1, .ref a_t_acts_cells, .int s_t_acts.2.2])), (a_t_acts_cells, .inl (cI, s_t_acts_cells.1, .inl s_t_acts_cells.2))] := hD
      refine lv_aload_n hx hb dX3_revoke_32 rfl (lv_at hl 0 rfl) ?_
      refine lv_iconst (v := (5 : Int32)) hx hb dX3_revoke_33 (by decide) ?_
      refine lv_iload_n hx hb dX3_revoke_34 rfl (lv_at hl 1 rfl) ?_
      obtain ⟨x35, h35, hM⟩ := bind_e hM
      refine muV (As := [.int (5 : Int32), .int v1]) (rest := []) (st2 := [.int x35.1]) (nw := [(a_t, .inr (3, [.ref a_t_papers, .ref a_t_now, .ref a_t_trial, .ref a_t_firstSlot, .ref a_t_secondSlot, .ref a_t_acts, .ref a_t_seen, .ref a_t_text, .ref a_t_doings, .int s_t.1, .long s_t.2])), (a_t_papers, .inr (1, [.int s_t_papers.1, .int s_t_papers.2.1, .ref a_t_papers_cells, .int s_t_papers.2.2])), (a_t_now, .inr (0, [.ref a_t_papers, .ref a_t_now_grants, .ref a_t_now_routes, .int (s_t_now.1 ^^^ ((1 : Int32) <<< (v1 &&& 31))), .int s_t_now.2.1, .int s_t_now.2.2])), (a_t_acts, .inr (1, [.int x35.2.1.1, .int x35.2.1.2.1, .ref a_t_acts_cells, .int x35.2.1.2.2])), (a_t_acts_cells, .inl (cI, x35.2.2.1, .inl x35.2.2.2))]) ⟨hx, hb, hml, hown, hU⟩ hE (okX3_remember a_t a_t_papers a_t_now a_t_trial a_t_firstSlot a_t_secondSlot a_t_acts a_t_seen a_t_text a_t_doings a_t_acts_cells s_t s_t_acts s_t_acts_cells (5 : Int32) v1 x35 h35) lk_X3_138 hP hD hS hA [0, 3, 4] rfl rfl rfl rfl rfl rfl hl.1 rfl (Nat.le_of_ble_eq_true rfl) ⟨Nat.le_of_ble_eq_true rfl, Nat.le_of_ble_eq_true rfl⟩ dX3_revoke_35 ⟨Nat.le_refl _, Nat.le_refl _⟩ rfl rfl rfl rfl (fun H locs hP hD hS => ?_)
      refine lv_pop hx hb dX3_revoke_38 rfl ?_
      refine lv_aload_n hx hb dX3_revoke_39 rfl (lv_at hl 0 rfl) ?_
      refine va_get (D := (dC, dI)) (ci := 3) (v := .ref a_t_now) (C := RX3) (T := TX3) (N := 11) hx hb hU inlX3 hown hE.1 hP 0 rfl rfl 1 (by decide) (hU _ u_1_20) (fun _ h9 => h9) rfl dX3_revoke_40 ?_
      refine va_get (D := (dC, dI)) (ci := 0) (v := .int (s_t_now.1 ^^^ ((1 : Int32) <<< (v1 &&& 31)))) (C := RX0) (T := TX0) (N := 6) hx hb hU inlX0 hown hE.1 hP 2 rfl rfl 3 (by decide) (hU _ u_11_21) (fun _ h9 => h9) rfl dX3_revoke_43 ?_
      refine lv_iload_n hx hb dX3_revoke_46 rfl (lv_at hl 1 rfl) ?_
      obtain ⟨x47, h47, hM⟩ := bind_e hM
      refine rdS (As := [.int (s_t_now.1 ^^^ ((1 : Int32) <<< (v1 &&& 31))), .int v1]) (rest := []) (st2 := [.int x47]) ⟨hx, hb, hml, hown, hU⟩ hE (okX3_bit (s_t_now.1 ^^^ ((1 : Int32) <<< (v1 &&& 31))) v1 x47 h47) lk_X3_121 (hP.sub [] rfl) rfl hl.1 rfl (Nat.le_of_ble_eq_true rfl) ⟨Nat.le_of_ble_eq_true rfl, Nat.le_of_ble_eq_true rfl⟩ dX3_revoke_47 ⟨Nat.le_refl _, Nat.le_refl _⟩ rfl ?_
      cases hM
      exact rt _ _ _ _ _ hP hS dX3_revoke_50 rfl
    · have hM := ite_f (b2i_eq0 c12) hM
      refine lv_iconst (v := (-1 : Int32)) hx hb dX3_revoke_15 (by decide) ?_
      cases hM
      exact rt _ _ _ _ _ hP hS dX3_revoke_16 rfl
noncomputable def mX3_route (s_t_now : Int32 × Int32 × Int32) (s_t_now_routes : Int32 × Int32 × Int32) (s_t_now_routes_cells : Ar) (s_t_papers : Int32 × Int32 × Int32) (s_t_papers_cells : Ar) (s_t_now_grants : Int32 × Int32 × Int32) (s_t_now_grants_cells : Ar) (v1 : Int32) (v2 : Int32) : Option (Int32) := (mX1_has s_t_now_routes v1).bind (fun x8 => (if x8 = true then (if v2 = (0 : Int32) then (mX1_at s_t_now_routes s_t_now_routes_cells v1 (0 : Int32)).bind (fun x61 => some (x61)) else (if v2 = (1 : Int32) then (mX1_at s_t_now_routes s_t_now_routes_cells v1 (1 : Int32)).bind (fun x74 => some (x74)) else (if v2 = (2 : Int32) then (mX1_at s_t_now_routes s_t_now_routes_cells v1 (3 : Int32)).bind (fun x87 => some (x87)) else (if v2 = (3 : Int32) then (mX1_at s_t_now_routes s_t_now_routes_cells v1 (2 : Int32)).bind (fun x104 => (mX1_at s_t_now_routes s_t_now_routes_cells v1 (1 : Int32)).bind (fun x116 => (mX1_at s_t_now_routes s_t_now_routes_cells v1 (3 : Int32)).bind (fun x128 => (mX0_countingNow s_t_now s_t_papers s_t_papers_cells s_t_now_grants s_t_now_grants_cells).bind (fun x135 => (mX0_stateOf s_t_now_grants s_t_now_grants_cells x104 x116 x128 x135).bind (fun x138 => some (x138)))))) else (if v2 = (4 : Int32) then (mX0_makerOf s_t_now s_t_papers s_t_papers_cells s_t_now_routes s_t_now_routes_cells v1).bind (fun x147 => some (x147)) else some ((-2 : Int32))))))) else some ((-1 : Int32))))
set_option maxHeartbeats 4000000 in
set_option maxRecDepth 100000 in
theorem okX3_route {l : Launch} {dC : Nat → ClassId} {dI : Nat → Nat → Nat} {cI cC cZ : ClassId} (a_t a_t_papers a_t_now a_t_trial a_t_firstSlot a_t_secondSlot a_t_acts a_t_seen a_t_text a_t_doings a_t_now_grants a_t_now_routes a_t_now_routes_cells a_t_papers_cells a_t_now_grants_cells : Nat) (s_t : Int32 × Int64) (s_t_now : Int32 × Int32 × Int32) (s_t_now_routes : Int32 × Int32 × Int32) (s_t_now_routes_cells : Ar) (s_t_papers : Int32 × Int32 × Int32) (s_t_papers_cells : Ar) (s_t_now_grants : Int32 × Int32 × Int32) (s_t_now_grants_cells : Ar) (v1 : Int32) (v2 : Int32) (res : Int32) (hM : mX3_route s_t_now s_t_now_routes s_t_now_routes_cells s_t_papers s_t_papers_cells s_t_now_grants s_t_now_grants_cells v1 v2 = some res) : Rd l yX3_route cX3_route 3 (some .int) 3 70 (dC, dI) cI cC cZ [(a_t, .inr (3, [.ref a_t_papers, .ref a_t_now, .ref a_t_trial, .ref a_t_firstSlot, .ref a_t_secondSlot, .ref a_t_acts, .ref a_t_seen, .ref a_t_text, .ref a_t_doings, .int s_t.1, .long s_t.2])), (a_t_now, .inr (0, [.ref a_t_papers, .ref a_t_now_grants, .ref a_t_now_routes, .int s_t_now.1, .int s_t_now.2.1, .int s_t_now.2.2])), (a_t_now_routes, .inr (1, [.int s_t_now_routes.1, .int s_t_now_routes.2.1, .ref a_t_now_routes_cells, .int s_t_now_routes.2.2])), (a_t_now_routes_cells, .inl (cI, s_t_now_routes_cells.1, .inl s_t_now_routes_cells.2)), (a_t_papers, .inr (1, [.int s_t_papers.1, .int s_t_papers.2.1, .ref a_t_papers_cells, .int s_t_papers.2.2])), (a_t_papers_cells, .inl (cI, s_t_papers_cells.1, .inl s_t_papers_cells.2)), (a_t_now_grants, .inr (1, [.int s_t_now_grants.1, .int s_t_now_grants.2.1, .ref a_t_now_grants_cells, .int s_t_now_grants.2.2])), (a_t_now_grants_cells, .inl (cI, s_t_now_grants_cells.1, .inl s_t_now_grants_cells.2))] [.ref a_t, .int v1, .int v2] (some (.int res)) := by
  refine Rd.ofI (by decide) (Nat.le_of_ble_eq_true rfl) [(0, .ref a_t), (1, .int v1), (2, .int v2)] rfl ?_
  intro p e s m args below meth c ls Q hx hb hml hown hU hE hP rt hl
  have hown : s.vm.findClass RX3 = some m.cls := hown
  unfold mX3_route at hM
  refine lv_aload_n hx hb dX3_route_0 rfl (lv_at hl 0 rfl) ?_
  refine va_get (D := (dC, dI)) (ci := 3) (v := .ref a_t_now) (C := RX3) (T := TX3) (N := 11) hx hb hU inlX3 hown hE.1 hP 0 rfl rfl 1 (by decide) (hU _ u_1_20) (fun _ h9 => h9) rfl dX3_route_1 ?_
  refine va_get (D := (dC, dI)) (ci := 0) (v := .ref a_t_now_routes) (C := RX0) (T := TX0) (N := 6) hx hb hU inlX0 hown hE.1 hP 1 rfl rfl 2 (by decide) (hU _ u_11_19) (fun _ h9 => h9) rfl dX3_route_4 ?_
  refine lv_iload_n hx hb dX3_route_7 rfl (lv_at hl 1 rfl) ?_
  obtain ⟨x8, h8, hM⟩ := bind_e hM
  refine rdV (As := [.int v1]) (rest := []) (st2 := [.int (b2i x8)]) ⟨hx, hb, hml, hown, hU⟩ hE (okX1_has a_t_now_routes a_t_now_routes_cells s_t_now_routes v1 x8 h8) lk_X3_114 (hP.sub [2] rfl) rfl rfl rfl hl.1 rfl (Nat.le_of_ble_eq_true rfl) ⟨Nat.le_of_ble_eq_true rfl, Nat.le_of_ble_eq_true rfl⟩ dX3_route_8 ⟨Nat.le_refl _, Nat.le_refl _⟩ rfl ?_
  refine lv_if_ne (tgt := 16) hx hb dX3_route_11 (by decide) (fun c11 => ?_) (fun c11 => ?_)
  · have hM := ite_t (b2i_ne0 c11) hM
    refine lv_iload_n hx hb dX3_route_16 rfl (lv_at hl 2 rfl) ?_
    by_cases c17_0 : v2 = (0 : Int32)
    · have hM := ite_t c17_0 hM
      refine lv_tableIn (off := 35) (tgt := 52) hx hb dX3_route_17 (by rw [c17_0]; decide) (by rw [c17_0]; decide) (by rw [c17_0]; rfl) (by decide) ?_
      refine lv_aload_n hx hb dX3_route_52 rfl (lv_at hl 0 rfl) ?_
      refine va_get (D := (dC, dI)) (ci := 3) (v := .ref a_t_now) (C := RX3) (T := TX3) (N := 11) hx hb hU inlX3 hown hE.1 hP 0 rfl rfl 1 (by decide) (hU _ u_1_20) (fun _ h9 => h9) rfl dX3_route_53 ?_
      refine va_get (D := (dC, dI)) (ci := 0) (v := .ref a_t_now_routes) (C := RX0) (T := TX0) (N := 6) hx hb hU inlX0 hown hE.1 hP 1 rfl rfl 2 (by decide) (hU _ u_11_19) (fun _ h9 => h9) rfl dX3_route_56 ?_
      refine lv_iload_n hx hb dX3_route_59 rfl (lv_at hl 1 rfl) ?_
      refine lv_iconst (v := (0 : Int32)) hx hb dX3_route_60 (by decide) ?_
      obtain ⟨x61, h61, hM⟩ := bind_e hM
      refine rdV (As := [.int v1, .int (0 : Int32)]) (rest := []) (st2 := [.int x61]) ⟨hx, hb, hml, hown, hU⟩ hE (okX1_at a_t_now_routes a_t_now_routes_cells s_t_now_routes s_t_now_routes_cells v1 (0 : Int32) x61 h61) lk_X3_118 (hP.sub [2, 3] rfl) rfl rfl rfl hl.1 rfl (Nat.le_of_ble_eq_true rfl) ⟨Nat.le_of_ble_eq_true rfl, Nat.le_of_ble_eq_true rfl⟩ dX3_route_61 ⟨Nat.le_refl _, Nat.le_refl _⟩ rfl ?_
      cases hM
      exact rt _ _ _ dX3_route_64 rfl
    have hM := ite_f c17_0 hM
    by_cases c17_1 : v2 = (1 : Int32)
    · have hM := ite_t c17_1 hM
      refine lv_tableIn (off := 48) (tgt := 65) hx hb dX3_route_17 (by rw [c17_1]; decide) (by rw [c17_1]; decide) (by rw [c17_1]; rfl) (by decide) ?_
      refine lv_aload_n hx hb dX3_route_65 rfl (lv_at hl 0 rfl) ?_
      refine va_get (D := (dC, dI)) (ci := 3) (v := .ref a_t_now) (C := RX3) (T := TX3) (N := 11) hx hb hU inlX3 hown hE.1 hP 0 rfl rfl 1 (by decide) (hU _ u_1_20) (fun _ h9 => h9) rfl dX3_route_66 ?_
      refine va_get (D := (dC, dI)) (ci := 0) (v := .ref a_t_now_routes) (C := RX0) (T := TX0) (N := 6) hx hb hU inlX0 hown hE.1 hP 1 rfl rfl 2 (by decide) (hU _ u_11_19) (fun _ h9 => h9) rfl dX3_route_69 ?_
      refine lv_iload_n hx hb dX3_route_72 rfl (lv_at hl 1 rfl) ?_
      refine lv_iconst (v := (1 : Int32)) hx hb dX3_route_73 (by decide) ?_
      obtain ⟨x74, h74, hM⟩ := bind_e hM
      refine rdV (As := [.int v1, .int (1 : Int32)]) (rest := []) (st2 := [.int x74]) ⟨hx, hb, hml, hown, hU⟩ hE (okX1_at a_t_now_routes a_t_now_routes_cells s_t_now_routes s_t_now_routes_cells v1 (1 : Int32) x74 h74) lk_X3_118 (hP.sub [2, 3] rfl) rfl rfl rfl hl.1 rfl (Nat.le_of_ble_eq_true rfl) ⟨Nat.le_of_ble_eq_true rfl, Nat.le_of_ble_eq_true rfl⟩ dX3_route_74 ⟨Nat.le_refl _, Nat.le_refl _⟩ rfl ?_
      cases hM
      exact rt _ _ _ dX3_route_77 rfl
    have hM := ite_f c17_1 hM
    by_cases c17_2 : v2 = (2 : Int32)
    · have hM := ite_t c17_2 hM
      refine lv_tableIn (off := 61) (tgt := 78) hx hb dX3_route_17 (by rw [c17_2]; decide) (by rw [c17_2]; decide) (by rw [c17_2]; rfl) (by decide) ?_
      refine lv_aload_n hx hb dX3_route_78 rfl (lv_at hl 0 rfl) ?_
      refine va_get (D := (dC, dI)) (ci := 3) (v := .ref a_t_now) (C := RX3) (T := TX3) (N := 11) hx hb hU inlX3 hown hE.1 hP 0 rfl rfl 1 (by decide) (hU _ u_1_20) (fun _ h9 => h9) rfl dX3_route_79 ?_
      refine va_get (D := (dC, dI)) (ci := 0) (v := .ref a_t_now_routes) (C := RX0) (T := TX0) (N := 6) hx hb hU inlX0 hown hE.1 hP 1 rfl rfl 2 (by decide) (hU _ u_11_19) (fun _ h9 => h9) rfl dX3_route_82 ?_
      refine lv_iload_n hx hb dX3_route_85 rfl (lv_at hl 1 rfl) ?_
      refine lv_iconst (v := (3 : Int32)) hx hb dX3_route_86 (by decide) ?_
      obtain ⟨x87, h87, hM⟩ := bind_e hM
      refine rdV (As := [.int v1, .int (3 : Int32)]) (rest := []) (st2 := [.int x87]) ⟨hx, hb, hml, hown, hU⟩ hE (okX1_at a_t_now_routes a_t_now_routes_cells s_t_now_routes s_t_now_routes_cells v1 (3 : Int32) x87 h87) lk_X3_118 (hP.sub [2, 3] rfl) rfl rfl rfl hl.1 rfl (Nat.le_of_ble_eq_true rfl) ⟨Nat.le_of_ble_eq_true rfl, Nat.le_of_ble_eq_true rfl⟩ dX3_route_87 ⟨Nat.le_refl _, Nat.le_refl _⟩ rfl ?_
      cases hM
      exact rt _ _ _ dX3_route_90 rfl
    have hM := ite_f c17_2 hM
    by_cases c17_3 : v2 = (3 : Int32)
    · have hM := ite_t c17_3 hM
      refine lv_tableIn (off := 74) (tgt := 91) hx hb dX3_route_17 (by rw [c17_3]; decide) (by rw [c17_3]; decide) (by rw [c17_3]; rfl) (by decide) ?_
      refine lv_aload_n hx hb dX3_route_91 rfl (lv_at hl 0 rfl) ?_
      refine va_get (D := (dC, dI)) (ci := 3) (v := .ref a_t_now) (C := RX3) (T := TX3) (N := 11) hx hb hU inlX3 hown hE.1 hP 0 rfl rfl 1 (by decide) (hU _ u_1_20) (fun _ h9 => h9) rfl dX3_route_92 ?_
      refine lv_aload_n hx hb dX3_route_95 rfl (lv_at hl 0 rfl) ?_
      refine va_get (D := (dC, dI)) (ci := 3) (v := .ref a_t_now) (C := RX3) (T := TX3) (N := 11) hx hb hU inlX3 hown hE.1 hP 0 rfl rfl 1 (by decide) (hU _ u_1_20) (fun _ h9 => h9) rfl dX3_route_96 ?_
      refine va_get (D := (dC, dI)) (ci := 0) (v := .ref a_t_now_routes) (C := RX0) (T := TX0) (N := 6) hx hb hU inlX0 hown hE.1 hP 1 rfl rfl 2 (by decide) (hU _ u_11_19) (fun _ h9 => h9) rfl dX3_route_99 ?_
      refine lv_iload_n hx hb dX3_route_102 rfl (lv_at hl 1 rfl) ?_
      refine lv_iconst (v := (2 : Int32)) hx hb dX3_route_103 (by decide) ?_
      obtain ⟨x104, h104, hM⟩ := bind_e hM
      refine rdV (As := [.int v1, .int (2 : Int32)]) (rest := [.ref a_t_now]) (st2 := [.int x104, .ref a_t_now]) ⟨hx, hb, hml, hown, hU⟩ hE (okX1_at a_t_now_routes a_t_now_routes_cells s_t_now_routes s_t_now_routes_cells v1 (2 : Int32) x104 h104) lk_X3_118 (hP.sub [2, 3] rfl) rfl rfl rfl hl.1 rfl (Nat.le_of_ble_eq_true rfl) ⟨Nat.le_of_ble_eq_true rfl, Nat.le_of_ble_eq_true rfl⟩ dX3_route_104 ⟨Nat.le_refl _, Nat.le_refl _⟩ rfl ?_
      refine lv_aload_n hx hb dX3_route_107 rfl (lv_at hl 0 rfl) ?_
      refine va_get (D := (dC, dI)) (ci := 3) (v := .ref a_t_now) (C := RX3) (T := TX3) (N := 11) hx hb hU inlX3 hown hE.1 hP 0 rfl rfl 1 (by decide) (hU _ u_1_20) (fun _ h9 => h9) rfl dX3_route_108 ?_
      refine va_get (D := (dC, dI)) (ci := 0) (v := .ref a_t_now_routes) (C := RX0) (T := TX0) (N := 6) hx hb hU inlX0 hown hE.1 hP 1 rfl rfl 2 (by decide) (hU _ u_11_19) (fun _ h9 => h9) rfl dX3_route_111 ?_
      refine lv_iload_n hx hb dX3_route_114 rfl (lv_at hl 1 rfl) ?_
      refine lv_iconst (v := (1 : Int32)) hx hb dX3_route_115 (by decide) ?_
      obtain ⟨x116, h116, hM⟩ := bind_e hM
      refine rdV (As := [.int v1, .int (1 : Int32)]) (rest := [.int x104, .ref a_t_now]) (st2 := [.int x116, .int x104, .ref a_t_now]) ⟨hx, hb, hml, hown, hU⟩ hE (okX1_at a_t_now_routes a_t_now_routes_cells s_t_now_routes s_t_now_routes_cells v1 (1 : Int32) x116 h116) lk_X3_118 (hP.sub [2, 3] rfl) rfl rfl rfl hl.1 rfl (Nat.le_of_ble_eq_true rfl) ⟨Nat.le_of_ble_eq_true rfl, Nat.le_of_ble_eq_true rfl⟩ dX3_route_116 ⟨Nat.le_refl _, Nat.le_refl _⟩ rfl ?_
      refine lv_aload_n hx hb dX3_route_119 rfl (lv_at hl 0 rfl) ?_
      refine va_get (D := (dC, dI)) (ci := 3) (v := .ref a_t_now) (C := RX3) (T := TX3) (N := 11) hx hb hU inlX3 hown hE.1 hP 0 rfl rfl 1 (by decide) (hU _ u_1_20) (fun _ h9 => h9) rfl dX3_route_120 ?_
      refine va_get (D := (dC, dI)) (ci := 0) (v := .ref a_t_now_routes) (C := RX0) (T := TX0) (N := 6) hx hb hU inlX0 hown hE.1 hP 1 rfl rfl 2 (by decide) (hU _ u_11_19) (fun _ h9 => h9) rfl dX3_route_123 ?_
      refine lv_iload_n hx hb dX3_route_126 rfl (lv_at hl 1 rfl) ?_
      refine lv_iconst (v := (3 : Int32)) hx hb dX3_route_127 (by decide) ?_
      obtain ⟨x128, h128, hM⟩ := bind_e hM
      refine rdV (As := [.int v1, .int (3 : Int32)]) (rest := [.int x116, .int x104, .ref a_t_now]) (st2 := [.int x128, .int x116, .int x104, .ref a_t_now]) ⟨hx, hb, hml, hown, hU⟩ hE (okX1_at a_t_now_routes a_t_now_routes_cells s_t_now_routes s_t_now_routes_cells v1 (3 : Int32) x128 h128) lk_X3_118 (hP.sub [2, 3] rfl) rfl rfl rfl hl.1 rfl (Nat.le_of_ble_eq_true rfl) ⟨Nat.le_of_ble_eq_true rfl, Nat.le_of_ble_eq_true rfl⟩ dX3_route_128 ⟨Nat.le_refl _, Nat.le_refl _⟩ rfl ?_
      refine lv_aload_n hx hb dX3_route_131 rfl (lv_at hl 0 rfl) ?_
      refine va_get (D := (dC, dI)) (ci := 3) (v := .ref a_t_now) (C := RX3) (T := TX3) (N := 11) hx hb hU inlX3 hown hE.1 hP 0 rfl rfl 1 (by decide) (hU _ u_1_20) (fun _ h9 => h9) rfl dX3_route_132 ?_
      obtain ⟨x135, h135, hM⟩ := bind_e hM
      refine rdV (As := []) (rest := [.int x128, .int x116, .int x104, .ref a_t_now]) (st2 := [.int x135, .int x128, .int x116, .int x104, .ref a_t_now]) ⟨hx, hb, hml, hown, hU⟩ hE (okX0_countingNow a_t_now a_t_papers a_t_now_grants a_t_now_routes a_t_papers_cells a_t_now_grants_cells s_t_now s_t_papers s_t_papers_cells s_t_now_grants s_t_now_grants_cells x135 h135) lk_X3_104 (hP.sub [1, 4, 5, 6, 7] rfl) rfl rfl rfl hl.1 rfl (Nat.le_of_ble_eq_true rfl) ⟨Nat.le_of_ble_eq_true rfl, Nat.le_of_ble_eq_true rfl⟩ dX3_route_135 ⟨Nat.le_refl _, Nat.le_refl _⟩ rfl ?_
      obtain ⟨x138, h138, hM⟩ := bind_e hM
      refine rdV (As := [.int x104, .int x116, .int x128, .int x135]) (rest := []) (st2 := [.int x138]) ⟨hx, hb, hml, hown, hU⟩ hE (okX0_stateOf a_t_now a_t_papers a_t_now_grants a_t_now_routes a_t_now_grants_cells s_t_now s_t_now_grants s_t_now_grants_cells x104 x116 x128 x135 x138 h138) lk_X3_124 (hP.sub [1, 6, 7] rfl) rfl rfl rfl hl.1 rfl (Nat.le_of_ble_eq_true rfl) ⟨Nat.le_of_ble_eq_true rfl, Nat.le_of_ble_eq_true rfl⟩ dX3_route_138 ⟨Nat.le_refl _, Nat.le_refl _⟩ rfl ?_
      cases hM
      exact rt _ _ _ dX3_route_141 rfl
    have hM := ite_f c17_3 hM
    by_cases c17_4 : v2 = (4 : Int32)
    · have hM := ite_t c17_4 hM
      refine lv_tableIn (off := 125) (tgt := 142) hx hb dX3_route_17 (by rw [c17_4]; decide) (by rw [c17_4]; decide) (by rw [c17_4]; rfl) (by decide) ?_
      refine lv_aload_n hx hb dX3_route_142 rfl (lv_at hl 0 rfl) ?_
      refine va_get (D := (dC, dI)) (ci := 3) (v := .ref a_t_now) (C := RX3) (T := TX3) (N := 11) hx hb hU inlX3 hown hE.1 hP 0 rfl rfl 1 (by decide) (hU _ u_1_20) (fun _ h9 => h9) rfl dX3_route_143 ?_
      refine lv_iload_n hx hb dX3_route_146 rfl (lv_at hl 1 rfl) ?_
      obtain ⟨x147, h147, hM⟩ := bind_e hM
      refine rdV (As := [.int v1]) (rest := []) (st2 := [.int x147]) ⟨hx, hb, hml, hown, hU⟩ hE (okX0_makerOf a_t_now a_t_papers a_t_now_grants a_t_now_routes a_t_papers_cells a_t_now_routes_cells s_t_now s_t_papers s_t_papers_cells s_t_now_routes s_t_now_routes_cells v1 x147 h147) lk_X3_128 (hP.sub [1, 4, 5, 2, 3] rfl) rfl rfl rfl hl.1 rfl (Nat.le_of_ble_eq_true rfl) ⟨Nat.le_of_ble_eq_true rfl, Nat.le_of_ble_eq_true rfl⟩ dX3_route_147 ⟨Nat.le_refl _, Nat.le_refl _⟩ rfl ?_
      cases hM
      exact rt _ _ _ dX3_route_150 rfl
    have hM := ite_f c17_4 hM
    refine lv_tableOut (tgt := 151) hx hb dX3_route_17 (sw_out (fun v h1 h2 h3 => by rcases (show v = 0 ∨ v = 1 ∨ v = 2 ∨ v = 3 ∨ v = 4 by omega) with rfl | rfl | rfl | rfl | rfl <;> first | exact c17_0 (Int32.toInt_inj.mp (h3.trans (by decide))) | exact c17_1 (Int32.toInt_inj.mp (h3.trans (by decide))) | exact c17_2 (Int32.toInt_inj.mp (h3.trans (by decide))) | exact c17_3 (Int32.toInt_inj.mp (h3.trans (by decide))) | exact c17_4 (Int32.toInt_inj.mp (h3.trans (by decide))))) (by decide) ?_
    refine lv_bipush (v := (-2 : Int32)) hx hb dX3_route_151 (by decide) ?_
    cases hM
    exact rt _ _ _ dX3_route_153 rfl
  · have hM := ite_f (b2i_eq0 c11) hM
    refine lv_iconst (v := (-1 : Int32)) hx hb dX3_route_14 (by decide) ?_
    cases hM
    exact rt _ _ _ dX3_route_15 rfl
