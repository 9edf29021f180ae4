noncomputable def mX2_append (s_t : Int32 × Int32 × Int32) (s_t_letters : Nat → Int32) (v1 : Int32) : Option ((Int32 × Int32 × Int32) × (Nat → Int32)) := (if (99 : Int32) ≤ s_t.1 then some (s_t, s_t_letters) else wr s_t_letters 99 s_t.1 ((v1.toUInt32 % 65536).toInt32) (fun x19 => some (((s_t.1 + (1 : Int32)), s_t.2.1, s_t.2.2), x19)))
set_option maxHeartbeats 4000000 in
set_option maxRecDepth 100000 in
theorem okX2_append {l : Launch} {dC : Nat → ClassId} {dI : Nat → Nat → Nat} {cI cC cZ : ClassId} (a_t a_t_letters a_t_papers a_t_grants a_t_routes : Nat) (s_t : Int32 × Int32 × Int32) (s_t_letters : Nat → Int32) (v1 : Int32) (res : (Int32 × Int32 × Int32) × (Nat → Int32)) (hM : mX2_append s_t s_t_letters v1 = some res) : Mu l yX2_append cX2_append 2 none 0 0 (dC, dI) cI cC cZ [(a_t, .inr (2, [.ref a_t_letters, .int s_t.1, .ref a_t_papers, .ref a_t_grants, .ref a_t_routes, .int s_t.2.1, .int s_t.2.2])), (a_t_letters, .inl (cC, 99, .inl s_t_letters))] [(a_t, .inr (2, [.ref a_t_letters, .int res.1.1, .ref a_t_papers, .ref a_t_grants, .ref a_t_routes, .int res.1.2.1, .int res.1.2.2])), (a_t_letters, .inl (cC, 99, .inl res.2))] [.ref a_t, .int v1] none := by
  refine Mu.ofV (by decide) (Nat.le_of_ble_eq_true rfl) [(0, .ref a_t), (1, .int v1)] rfl ?_
  intro p e s m args below meth c ls Q A hx hb hml hown hU hE hP hD hS hA rt hl
  have hown : s.vm.findClass RX2 = some m.cls := hown
  unfold mX2_append at hM
  refine lv_aload_n hx hb dX2_append_0 rfl (lv_at hl 0 rfl) ?_
  refine va_get (D := (dC, dI)) (ci := 2) (v := .int s_t.1) (C := RX2) (T := TX2) (N := 7) hx hb hU inlX2 hown hE.1 hP 0 rfl rfl 1 (by decide) (hU _ u_5_11) (fun _ h9 => h9) rfl dX2_append_1 ?_
  refine lv_bipush (v := (99 : Int32)) hx hb dX2_append_4 (by decide) ?_
  refine lv_icmp_ge (tgt := 30) hx hb dX2_append_6 (by decide) (fun c6 => ?_) (fun c6 => ?_)
  · have hM := ite_t c6 hM
    cases hM
    exact rt _ _ _ _ hP hS dX2_append_30 rfl
  · have hM := ite_f c6 hM
    refine lv_aload_n hx hb dX2_append_9 rfl (lv_at hl 0 rfl) ?_
    refine va_get (D := (dC, dI)) (ci := 2) (v := .ref a_t_letters) (C := RX2) (T := TX2) (N := 7) hx hb hU inlX2 hown hE.1 hP 0 rfl rfl 0 (by decide) (hU _ u_3_8) (fun _ h9 => h9) rfl dX2_append_10 ?_
    refine lv_aload_n hx hb dX2_append_13 rfl (lv_at hl 0 rfl) ?_
    refine va_get (D := (dC, dI)) (ci := 2) (v := .int s_t.1) (C := RX2) (T := TX2) (N := 7) hx hb hU inlX2 hown hE.1 hP 0 rfl rfl 1 (by decide) (hU _ u_5_11) (fun _ h9 => h9) rfl dX2_append_14 ?_
    refine lv_iload_n hx hb dX2_append_17 rfl (lv_at hl 1 rfl) ?_
    refine lv_i2c (v := ((v1.toUInt32 % 65536).toInt32)) hx hb dX2_append_18 rfl ?_
    obtain ⟨g19, hM⟩ := wr_e hM
    refine va_cast hx hb hE.1 hP hD hS 1 1 rfl rfl g19 dX2_append_19 (fun H locs hP hD hS => ?_)
    rw [pk_vc] at hP hD
    have hP : va_P (dC, dI) vwCl [(a_t, .inr (2, [.ref a_t_letters, .int s_t.1, .ref a_t_papers, .ref a_t_grants, .ref a_t_routes, .int s_t.2.1, .int s_t.2.2])), (a_t_letters, .inl (cC, 99, .inl (upd s_t_letters s_t.1.toNatClampNeg ((v1.toUInt32 % 65536).toInt32))))] H := hP
    have hD : va_D A [(a_t, .inr (2, [.ref a_t_letters, .int s_t.1, .ref a_t_papers, .ref a_t_grants, .ref a_t_routes, .int s_t.2.1, .int s_t.2.2])), (a_t_letters, .inl (cC, 99, .inl (upd s_t_letters s_t.1.toNatClampNeg ((v1.toUInt32 % 65536).toInt32))))] := hD
    refine lv_aload_n hx hb dX2_append_20 rfl (lv_at hl 0 rfl) ?_
    refine lv_dup hx hb dX2_append_21 rfl ?_
    refine va_get (D := (dC, dI)) (ci := 2) (v := .int s_t.1) (C := RX2) (T := TX2) (N := 7) hx hb hU inlX2 hown hE.1 hP 0 rfl rfl 1 (by decide) (hU _ u_5_11) (fun _ h9 => h9) rfl dX2_append_22 ?_
    refine lv_iconst (v := (1 : Int32)) hx hb dX2_append_25 (by decide) ?_
    refine lv_iadd hx hb dX2_append_26 ?_
    refine va_put (D := (dC, dI)) (ci := 2) (v := .int (s_t.1 + (1 : Int32))) (ty := .int) (C := RX2) (T := TX2) (N := 7) hx hb hU inlX2 tyX2 tyX2_ok nmX2 hown hE.1 hP hD hS 0 rfl rfl 1 (by decide) (hU _ u_5_11) (fun _ h9 => h9) rfl (tyX2_ok 1 (by decide)) rfl rfl (Nat.le_of_ble_eq_true rfl) dX2_append_27 (fun H locs hP hD hS => ?_)
    have hP : va_P (dC, dI) vwCl [(a_t, .inr (2, [.ref a_t_letters, .int (s_t.1 + (1 : Int32)), .ref a_t_papers, .ref a_t_grants, .ref a_t_routes, .int s_t.2.1, .int s_t.2.2])), (a_t_letters, .inl (cC, 99, .inl (upd s_t_letters s_t.1.toNatClampNeg ((v1.toUInt32 % 65536).toInt32))))] H := hP
    have hD : va_D A [(a_t, .inr (2, [.ref a_t_letters, .int (s_t.1 + (1 : Int32)), .ref a_t_papers, .ref a_t_grants, .ref a_t_routes, .int s_t.2.1, .int s_t.2.2])), (a_t_letters, .inl (cC, 99, .inl (upd s_t_letters s_t.1.toNatClampNeg ((v1.toUInt32 % 65536).toInt32))))] := hD
    cases hM
    exact rt _ _ _ _ hP hS dX2_append_30 rfl
noncomputable def mX2_letterAt (s_t : Int32 × Int32 × Int32) (s_t_letters : Nat → Int32) (v1 : Int32) : Option (Int32) := (if v1 < 0 then some ((0 : Int32)) else (if s_t.1 ≤ v1 then some ((0 : Int32)) else (if (99 : Int32) ≤ v1 then some ((0 : Int32)) else rd s_t_letters 99 v1 (fun x23 => (if isC x23 = true then some x23 else none)))))
set_option maxHeartbeats 4000000 in
set_option maxRecDepth 100000 in
theorem okX2_letterAt {l : Launch} {dC : Nat → ClassId} {dI : Nat → Nat → Nat} {cI cC cZ : ClassId} (a_t a_t_letters a_t_papers a_t_grants a_t_routes : Nat) (s_t : Int32 × Int32 × Int32) (s_t_letters : Nat → Int32) (v1 : Int32) (res : Int32) (hM : mX2_letterAt s_t s_t_letters v1 = some res) : Rd l yX2_letterAt cX2_letterAt 2 (some .char) 0 0 (dC, dI) cI cC cZ [(a_t, .inr (2, [.ref a_t_letters, .int s_t.1, .ref a_t_papers, .ref a_t_grants, .ref a_t_routes, .int s_t.2.1, .int s_t.2.2])), (a_t_letters, .inl (cC, 99, .inl s_t_letters))] [.ref a_t, .int v1] (some (.int res)) := by
  refine Rd.ofC (by decide) (Nat.le_of_ble_eq_true rfl) [(0, .ref a_t), (1, .int v1)] rfl ?_
  intro p e s m args below meth c ls Q hx hb hml hown hU hE hP rt hl
  have hown : s.vm.findClass RX2 = some m.cls := hown
  unfold mX2_letterAt at hM
  refine lv_iload_n hx hb dX2_letterAt_0 rfl (lv_at hl 1 rfl) ?_
  refine lv_if_lt (tgt := 27) hx hb dX2_letterAt_1 (by decide) (fun c1 => ?_) (fun c1 => ?_)
  · have hM := ite_t c1 hM
    refine lv_iconst (v := (0 : Int32)) hx hb dX2_letterAt_27 (by decide) ?_
    cases hM
    exact rt _ _ _ rfl dX2_letterAt_28 rfl
  · have hM := ite_f c1 hM
    refine lv_iload_n hx hb dX2_letterAt_4 rfl (lv_at hl 1 rfl) ?_
    refine lv_aload_n hx hb dX2_letterAt_5 rfl (lv_at hl 0 rfl) ?_
    refine va_get (D := (dC, dI)) (ci := 2) (v := .int s_t.1) (C := RX2) (T := TX2) (N := 7) hx hb hU inlX2 hown hE.1 hP 0 rfl rfl 1 (by decide) (hU _ u_5_11) (fun _ h9 => h9) rfl dX2_letterAt_6 ?_
    refine lv_icmp_ge (tgt := 27) hx hb dX2_letterAt_9 (by decide) (fun c9 => ?_) (fun c9 => ?_)
    · have hM := ite_t c9 hM
      refine lv_iconst (v := (0 : Int32)) hx hb dX2_letterAt_27 (by decide) ?_
      cases hM
      exact rt _ _ _ rfl dX2_letterAt_28 rfl
    · have hM := ite_f c9 hM
      refine lv_iload_n hx hb dX2_letterAt_12 rfl (lv_at hl 1 rfl) ?_
      refine lv_bipush (v := (99 : Int32)) hx hb dX2_letterAt_13 (by decide) ?_
      refine lv_icmp_ge (tgt := 27) hx hb dX2_letterAt_15 (by decide) (fun c15 => ?_) (fun c15 => ?_)
      · have hM := ite_t c15 hM
        refine lv_iconst (v := (0 : Int32)) hx hb dX2_letterAt_27 (by decide) ?_
        cases hM
        exact rt _ _ _ rfl dX2_letterAt_28 rfl
      · have hM := ite_f c15 hM
        refine lv_aload_n hx hb dX2_letterAt_18 rfl (lv_at hl 0 rfl) ?_
        refine va_get (D := (dC, dI)) (ci := 2) (v := .ref a_t_letters) (C := RX2) (T := TX2) (N := 7) hx hb hU inlX2 hown hE.1 hP 0 rfl rfl 0 (by decide) (hU _ u_3_8) (fun _ h9 => h9) rfl dX2_letterAt_19 ?_
        refine lv_iload_n hx hb dX2_letterAt_22 rfl (lv_at hl 1 rfl) ?_
        obtain ⟨g23, hM⟩ := rd_e hM
        refine va_cald hx hb hE.1 hP 1 1 rfl rfl g23 dX2_letterAt_23 ?_
        refine lv_goto (tgt := 28) hx hb dX2_letterAt_24 (by decide) ?_
        obtain ⟨g28, hM⟩ := isC_e hM
        cases hM
        exact rt _ _ _ g28 dX2_letterAt_28 rfl
noncomputable def mX2_readFigure (s_t : Int32 × Int32 × Int32) (s_t_letters : Nat → Int32) (v1 : Int32) (v2 : Int32) : Option (Int32 × (Int32 × Int32 × Int32)) := (if s_t.2.2 = (-9 : Int32) then (mX2_letterAt s_t s_t_letters s_t.2.1).bind (fun x16 => (if s_t.1 ≤ s_t.2.1 then some (v1, (s_t.1, s_t.2.1, s_t.2.1)) else (if (x16 - (48 : Int32)) < v1 then some (v1, (s_t.1, s_t.2.1, s_t.2.1)) else (if (x16 - (48 : Int32)) ≤ v2 then some ((x16 - (48 : Int32)), (s_t.1, (s_t.2.1 + (1 : Int32)), s_t.2.2)) else some (v1, (s_t.1, s_t.2.1, s_t.2.1)))))) else some (v1, s_t))
set_option maxHeartbeats 4000000 in
set_option maxRecDepth 100000 in
theorem okX2_readFigure {l : Launch} {dC : Nat → ClassId} {dI : Nat → Nat → Nat} {cI cC cZ : ClassId} (a_t a_t_letters a_t_papers a_t_grants a_t_routes : Nat) (s_t : Int32 × Int32 × Int32) (s_t_letters : Nat → Int32) (v1 : Int32) (v2 : Int32) (res : Int32 × (Int32 × Int32 × Int32)) (hM : mX2_readFigure s_t s_t_letters v1 v2 = some res) : Mu l yX2_readFigure cX2_readFigure 4 (some .int) 1 21 (dC, dI) cI cC cZ [(a_t, .inr (2, [.ref a_t_letters, .int s_t.1, .ref a_t_papers, .ref a_t_grants, .ref a_t_routes, .int s_t.2.1, .int s_t.2.2])), (a_t_letters, .inl (cC, 99, .inl s_t_letters))] [(a_t, .inr (2, [.ref a_t_letters, .int res.2.1, .ref a_t_papers, .ref a_t_grants, .ref a_t_routes, .int res.2.2.1, .int res.2.2.2])), (a_t_letters, .inl (cC, 99, .inl s_t_letters))] [.ref a_t, .int v1, .int v2] (some (.int res.1)) := by
  refine Mu.ofI (by decide) (Nat.le_of_ble_eq_true rfl) [(0, .ref a_t), (1, .int v1), (2, .int v2)] rfl ?_
  intro p e s m args below meth c ls Q A hx hb hml hown hU hE hP hD hS hA rt hl
  have hown : s.vm.findClass RX2 = some m.cls := hown
  unfold mX2_readFigure at hM
  refine lv_aload_n hx hb dX2_readFigure_0 rfl (lv_at hl 0 rfl) ?_
  refine va_get (D := (dC, dI)) (ci := 2) (v := .int s_t.2.2) (C := RX2) (T := TX2) (N := 7) hx hb hU inlX2 hown hE.1 hP 0 rfl rfl 6 (by decide) (hU _ u_6_14) (fun _ h9 => h9) rfl dX2_readFigure_1 ?_
  refine lv_bipush (v := (-9 : Int32)) hx hb dX2_readFigure_4 (by decide) ?_
  refine lv_icmp_eq (tgt := 11) hx hb dX2_readFigure_6 (by decide) (fun c6 => ?_) (fun c6 => ?_)
  · have hM := ite_t c6 hM
    refine lv_aload_n hx hb dX2_readFigure_11 rfl (lv_at hl 0 rfl) ?_
    refine lv_aload_n hx hb dX2_readFigure_12 rfl (lv_at hl 0 rfl) ?_
    refine va_get (D := (dC, dI)) (ci := 2) (v := .int s_t.2.1) (C := RX2) (T := TX2) (N := 7) hx hb hU inlX2 hown hE.1 hP 0 rfl rfl 5 (by decide) (hU _ u_6_15) (fun _ h9 => h9) rfl dX2_readFigure_13 ?_
    obtain ⟨x16, h16, hM⟩ := bind_e hM
    refine rdV (As := [.int s_t.2.1]) (rest := []) (st2 := [.int x16]) ⟨hx, hb, hml, hown, hU⟩ hE (okX2_letterAt a_t a_t_letters a_t_papers a_t_grants a_t_routes s_t s_t_letters s_t.2.1 x16 h16) lk_X2_44 (hP.sub [0, 1] rfl) rfl rfl rfl hl.1 rfl (Nat.le_of_ble_eq_true rfl) ⟨Nat.le_of_ble_eq_true rfl, Nat.le_of_ble_eq_true rfl⟩ dX2_readFigure_16 ⟨Nat.le_refl _, Nat.le_refl _⟩ rfl ?_
    refine lv_bipush (v := (48 : Int32)) hx hb dX2_readFigure_19 (by decide) ?_
    refine lv_isub hx hb dX2_readFigure_21 ?_
    refine lv_istore_n (lv' := [(3, .int (x16 - (48 : Int32))), (0, .ref a_t), (1, .int v1), (2, .int v2)]) hx hb dX2_readFigure_22 rfl hl (by decide) rfl (fun ls hl => ?_)
    refine lv_aload_n hx hb dX2_readFigure_23 rfl (lv_at hl 1 rfl) ?_
    refine va_get (D := (dC, dI)) (ci := 2) (v := .int s_t.2.1) (C := RX2) (T := TX2) (N := 7) hx hb hU inlX2 hown hE.1 hP 0 rfl rfl 5 (by decide) (hU _ u_6_15) (fun _ h9 => h9) rfl dX2_readFigure_24 ?_
    refine lv_aload_n hx hb dX2_readFigure_27 rfl (lv_at hl 1 rfl) ?_
    refine va_get (D := (dC, dI)) (ci := 2) (v := .int s_t.1) (C := RX2) (T := TX2) (N := 7) hx hb hU inlX2 hown hE.1 hP 0 rfl rfl 1 (by decide) (hU _ u_5_11) (fun _ h9 => h9) rfl dX2_readFigure_28 ?_
    refine lv_icmp_ge (tgt := 44) hx hb dX2_readFigure_31 (by decide) (fun c31 => ?_) (fun c31 => ?_)
    · have hM := ite_t c31 hM
      refine lv_aload_n hx hb dX2_readFigure_44 rfl (lv_at hl 1 rfl) ?_
      refine lv_aload_n hx hb dX2_readFigure_45 rfl (lv_at hl 1 rfl) ?_
      refine va_get (D := (dC, dI)) (ci := 2) (v := .int s_t.2.1) (C := RX2) (T := TX2) (N := 7) hx hb hU inlX2 hown hE.1 hP 0 rfl rfl 5 (by decide) (hU _ u_6_15) (fun _ h9 => h9) rfl dX2_readFigure_46 ?_
      refine va_put (D := (dC, dI)) (ci := 2) (v := .int s_t.2.1) (ty := .int) (C := RX2) (T := TX2) (N := 7) hx hb hU inlX2 tyX2 tyX2_ok nmX2 hown hE.1 hP hD hS 0 rfl rfl 6 (by decide) (hU _ u_6_14) (fun _ h9 => h9) rfl (tyX2_ok 6 (by decide)) rfl rfl (Nat.le_of_ble_eq_true rfl) dX2_readFigure_49 (fun H locs hP hD hS => ?_)
      have hP : va_P (dC, dI) vwCl [(a_t, .inr (2, [.ref a_t_letters, .int s_t.1, .ref a_t_papers, .ref a_t_grants, .ref a_t_routes, .int s_t.2.1, .int s_t.2.1])), (a_t_letters, .inl (cC, 99, .inl s_t_letters))] H := hP
      have hD : va_D A [(a_t, .inr (2, [.ref a_t_letters, .int s_t.1, .ref a_t_papers, .ref a_t_grants, .ref a_t_routes, .int s_t.2.1, .int s_t.2.1])), (a_t_letters, .inl (cC, 99, .inl s_t_letters))] := hD
      refine lv_iload_n hx hb dX2_readFigure_52 rfl (lv_at hl 2 rfl) ?_
      cases hM
      exact rt _ _ _ _ _ hP hS dX2_readFigure_53 rfl
    · have hM := ite_f c31 hM
      refine lv_iload_n hx hb dX2_readFigure_34 rfl (lv_at hl 0 rfl) ?_
      refine lv_iload_n hx hb dX2_readFigure_35 rfl (lv_at hl 2 rfl) ?_
      refine lv_icmp_lt (tgt := 44) hx hb dX2_readFigure_36 (by decide) (fun c36 => ?_) (fun c36 => ?_)
      · have hM := ite_t c36 hM
        refine lv_aload_n hx hb dX2_readFigure_44 rfl (lv_at hl 1 rfl) ?_
        refine lv_aload_n hx hb dX2_readFigure_45 rfl (lv_at hl 1 rfl) ?_
        refine va_get (D := (dC, dI)) (ci := 2) (v := .int s_t.2.1) (C := RX2) (T := TX2) (N := 7) hx hb hU inlX2 hown hE.1 hP 0 rfl rfl 5 (by decide) (hU _ u_6_15) (fun _ h9 => h9) rfl dX2_readFigure_46 ?_
        refine va_put (D := (dC, dI)) (ci := 2) (v := .int s_t.2.1) (ty := .int) (C := RX2) (T := TX2) (N := 7) hx hb hU inlX2 tyX2 tyX2_ok nmX2 hown hE.1 hP hD hS 0 rfl rfl 6 (by decide) (hU _ u_6_14) (fun _ h9 => h9) rfl (tyX2_ok 6 (by decide)) rfl rfl (Nat.le_of_ble_eq_true rfl) dX2_readFigure_49 (fun H locs hP hD hS => ?_)
        have hP : va_P (dC, dI) vwCl [(a_t, .inr (2, [.ref a_t_letters, .int s_t.1, .ref a_t_papers, .ref a_t_grants, .ref a_t_routes, .int s_t.2.1, .int s_t.2.1])), (a_t_letters, .inl (cC, 99, .inl s_t_letters))] H := hP
        have hD : va_D A [(a_t, .inr (2, [.ref a_t_letters, .int s_t.1, .ref a_t_papers, .ref a_t_grants, .ref a_t_routes, .int s_t.2.1, .int s_t.2.1])), (a_t_letters, .inl (cC, 99, .inl s_t_letters))] := hD
        refine lv_iload_n hx hb dX2_readFigure_52 rfl (lv_at hl 2 rfl) ?_
        cases hM
        exact rt _ _ _ _ _ hP hS dX2_readFigure_53 rfl
      · have hM := ite_f c36 hM
        refine lv_iload_n hx hb dX2_readFigure_39 rfl (lv_at hl 0 rfl) ?_
        refine lv_iload_n hx hb dX2_readFigure_40 rfl (lv_at hl 3 rfl) ?_
        refine lv_icmp_le (tgt := 54) hx hb dX2_readFigure_41 (by decide) (fun c41 => ?_) (fun c41 => ?_)
        · have hM := ite_t c41 hM
          refine lv_aload_n hx hb dX2_readFigure_54 rfl (lv_at hl 1 rfl) ?_
          refine lv_dup hx hb dX2_readFigure_55 rfl ?_
          refine va_get (D := (dC, dI)) (ci := 2) (v := .int s_t.2.1) (C := RX2) (T := TX2) (N := 7) hx hb hU inlX2 hown hE.1 hP 0 rfl rfl 5 (by decide) (hU _ u_6_15) (fun _ h9 => h9) rfl dX2_readFigure_56 ?_
          refine lv_iconst (v := (1 : Int32)) hx hb dX2_readFigure_59 (by decide) ?_
          refine lv_iadd hx hb dX2_readFigure_60 ?_
          refine va_put (D := (dC, dI)) (ci := 2) (v := .int (s_t.2.1 + (1 : Int32))) (ty := .int) (C := RX2) (T := TX2) (N := 7) hx hb hU inlX2 tyX2 tyX2_ok nmX2 hown hE.1 hP hD hS 0 rfl rfl 5 (by decide) (hU _ u_6_15) (fun _ h9 => h9) rfl (tyX2_ok 5 (by decide)) rfl rfl (Nat.le_of_ble_eq_true rfl) dX2_readFigure_61 (fun H locs hP hD hS => ?_)
          have hP : va_P (dC, dI) vwCl [(a_t, .inr (2, [.ref a_t_letters, .int s_t.1, .ref a_t_papers, .ref a_t_grants, .ref a_t_routes, .int (s_t.2.1 + (1 : Int32)), .int s_t.2.2])), (a_t_letters, .inl (cC, 99, .inl s_t_letters))] H := hP
          have hD : va_D A [(a_t, .inr (2, [.ref a_t_letters, .int s_t.1, .ref a_t_papers, .ref a_t_grants, .ref a_t_routes, .int (s_t.2.1 + (1 : Int32)), .int s_t.2.2])), (a_t_letters, .inl (cC, 99, .inl s_t_letters))] := hD
          refine lv_iload_n hx hb dX2_readFigure_64 rfl (lv_at hl 0 rfl) ?_
          cases hM
          exact rt _ _ _ _ _ hP hS dX2_readFigure_65 rfl
        · have hM := ite_f c41 hM
          refine lv_aload_n hx hb dX2_readFigure_44 rfl (lv_at hl 1 rfl) ?_
          refine lv_aload_n hx hb dX2_readFigure_45 rfl (lv_at hl 1 rfl) ?_
          refine va_get (D := (dC, dI)) (ci := 2) (v := .int s_t.2.1) (C := RX2) (T := TX2) (N := 7) hx hb hU inlX2 hown hE.1 hP 0 rfl rfl 5 (by decide) (hU _ u_6_15) (fun _ h9 => h9) rfl dX2_readFigure_46 ?_
          refine va_put (D := (dC, dI)) (ci := 2) (v := .int s_t.2.1) (ty := .int) (C := RX2) (T := TX2) (N := 7) hx hb hU inlX2 tyX2 tyX2_ok nmX2 hown hE.1 hP hD hS 0 rfl rfl 6 (by decide) (hU _ u_6_14) (fun _ h9 => h9) rfl (tyX2_ok 6 (by decide)) rfl rfl (Nat.le_of_ble_eq_true rfl) dX2_readFigure_49 (fun H locs hP hD hS => ?_)
          have hP : va_P (dC, dI) vwCl [(a_t, .inr (2, [.ref a_t_letters, .int s_t.1, .ref a_t_papers, .ref a_t_grants, .ref a_t_routes, .int s_t.2.1, .int s_t.2.1])), (a_t_letters, .inl (cC, 99, .inl s_t_letters))] H := hP
          have hD : va_D A [(a_t, .inr (2, [.ref a_t_letters, .int s_t.1, .ref a_t_papers, .ref a_t_grants, .ref a_t_routes, .int s_t.2.1, .int s_t.2.1])), (a_t_letters, .inl (cC, 99, .inl s_t_letters))] := hD
          refine lv_iload_n hx hb dX2_readFigure_52 rfl (lv_at hl 2 rfl) ?_
          cases hM
          exact rt _ _ _ _ _ hP hS dX2_readFigure_53 rfl
  · have hM := ite_f c6 hM
    refine lv_iload_n hx hb dX2_readFigure_9 rfl (lv_at hl 1 rfl) ?_
    cases hM
    exact rt _ _ _ _ _ hP hS dX2_readFigure_10 rfl
noncomputable def mX2_readHolder_b18 (s_t : Int32 × Int32 × Int32) (s_t_letters : Nat → Int32) (s_t_papers : Int32 × Int32 × Int32) (t0 : Bool) : Option (Int32 × (Int32 × Int32 × Int32)) := (if t0 = true then (mX2_readFigure s_t s_t_letters (9 : Int32) (9 : Int32)).bind (fun x28 => some (x28.1, x28.2)) else (mX2_readFigure s_t s_t_letters (0 : Int32) (s_t_papers.2.2 - (1 : Int32))).bind (fun x45 => some (x45.1, x45.2)))
noncomputable def mX2_readHolder (s_t : Int32 × Int32 × Int32) (s_t_letters : Nat → Int32) (s_t_papers : Int32 × Int32 × Int32) : Option (Int32 × (Int32 × Int32 × Int32)) := (mX2_letterAt s_t s_t_letters s_t.2.1).bind (fun x5 => (if x5 = (57 : Int32) then mX2_readHolder_b18 s_t s_t_letters s_t_papers true else mX2_readHolder_b18 s_t s_t_letters s_t_papers false))
set_option maxHeartbeats 4000000 in
set_option maxRecDepth 100000 in
theorem okX2_readHolder {l : Launch} {dC : Nat → ClassId} {dI : Nat → Nat → Nat} {cI cC cZ : ClassId} (a_t a_t_letters a_t_papers a_t_grants a_t_routes a_t_papers_cells : Nat) (s_t : Int32 × Int32 × Int32) (s_t_letters : Nat → Int32) (s_t_papers : Int32 × Int32 × Int32) (res : Int32 × (Int32 × Int32 × Int32)) (hM : mX2_readHolder s_t s_t_letters s_t_papers = some res) : Mu l yX2_readHolder cX2_readHolder 2 (some .int) 2 44 (dC, dI) cI cC cZ [(a_t, .inr (2, [.ref a_t_letters, .int s_t.1, .ref a_t_papers, .ref a_t_grants, .ref a_t_routes, .int s_t.2.1, .int s_t.2.2])), (a_t_letters, .inl (cC, 99, .inl s_t_letters)), (a_t_papers, .inr (1, [.int s_t_papers.1, .int s_t_papers.2.1, .ref a_t_papers_cells, .int s_t_papers.2.2]))] [(a_t, .inr (2, [.ref a_t_letters, .int res.2.1, .ref a_t_papers, .ref a_t_grants, .ref a_t_routes, .int res.2.2.1, .int res.2.2.2])), (a_t_letters, .inl (cC, 99, .inl s_t_letters)), (a_t_papers, .inr (1, [.int s_t_papers.1, .int s_t_papers.2.1, .ref a_t_papers_cells, .int s_t_papers.2.2]))] [.ref a_t] (some (.int res.1)) := by
  refine Mu.ofI (by decide) (Nat.le_of_ble_eq_true rfl) [(0, .ref a_t)] rfl ?_
  intro p e s m args below meth c ls Q A hx hb hml hown hU hE hP hD hS hA rt hl
  have hown : s.vm.findClass RX2 = some m.cls := hown
  unfold mX2_readHolder at hM
  refine lv_aload_n hx hb dX2_readHolder_0 rfl (lv_at hl 0 rfl) ?_
  refine lv_aload_n hx hb dX2_readHolder_1 rfl (lv_at hl 0 rfl) ?_
  refine va_get (D := (dC, dI)) (ci := 2) (v := .int s_t.2.1) (C := RX2) (T := TX2) (N := 7) hx hb hU inlX2 hown hE.1 hP 0 rfl rfl 5 (by decide) (hU _ u_6_15) (fun _ h9 => h9) rfl dX2_readHolder_2 ?_
  obtain ⟨x5, h5, hM⟩ := bind_e hM
  refine rdV (As := [.int s_t.2.1]) (rest := []) (st2 := [.int x5]) ⟨hx, hb, hml, hown, hU⟩ hE (okX2_letterAt a_t a_t_letters a_t_papers a_t_grants a_t_routes s_t s_t_letters s_t.2.1 x5 h5) lk_X2_44 (hP.sub [0, 1] rfl) rfl rfl rfl hl.1 rfl (Nat.le_of_ble_eq_true rfl) ⟨Nat.le_of_ble_eq_true rfl, Nat.le_of_ble_eq_true rfl⟩ dX2_readHolder_5 ⟨Nat.le_refl _, Nat.le_refl _⟩ rfl ?_
  refine lv_bipush (v := (57 : Int32)) hx hb dX2_readHolder_8 (by decide) ?_
  have w_18 : ∀ (t0_18 : Bool), mX2_readHolder_b18 s_t s_t_letters s_t_papers t0_18 = some res → ∀ (ls : Array Slot) (H : Heap) (locs : List Loc), va_P (dC, dI) vwCl [(a_t, .inr (2, [.ref a_t_letters, .int s_t.1, .ref a_t_papers, .ref a_t_grants, .ref a_t_routes, .int s_t.2.1, .int s_t.2.2])), (a_t_letters, .inl (cC, 99, .inl s_t_letters)), (a_t_papers, .inr (1, [.int s_t_papers.1, .int s_t_papers.2.1, .ref a_t_papers_cells, .int s_t_papers.2.2]))] H → va_D A [(a_t, .inr (2, [.ref a_t_letters, .int s_t.1, .ref a_t_papers, .ref a_t_grants, .ref a_t_routes, .int s_t.2.1, .int s_t.2.2])), (a_t_letters, .inl (cC, 99, .inl s_t_letters)), (a_t_papers, .inr (1, [.int s_t_papers.1, .int s_t_papers.2.1, .ref a_t_papers_cells, .int s_t_papers.2.2]))] → va_S A s.heap H locs → lv_has ls 2 [(0, .ref a_t)] → W p l e (RM 2 44) s m args below meth c H locs 0 0 Q (F0 m 18 ls [.int (b2i t0_18)]) := by
    intro t0_18 hM ls H locs hP hD hS hl
    unfold mX2_readHolder_b18 at hM
    refine lv_istore_n (lv' := [(1, .int (b2i t0_18)), (0, .ref a_t)]) hx hb dX2_readHolder_18 rfl hl (by decide) rfl (fun ls hl => ?_)
    refine lv_iload_n hx hb dX2_readHolder_19 rfl (lv_at hl 0 rfl) ?_
    refine lv_if_eq (tgt := 34) hx hb dX2_readHolder_20 (by decide) (fun c20 => ?_) (fun c20 => ?_)
    · have hM := ite_f (b2i_eq0 c20) hM
      refine lv_aload_n hx hb dX2_readHolder_34 rfl (lv_at hl 1 rfl) ?_
      refine lv_iconst (v := (0 : Int32)) hx hb dX2_readHolder_35 (by decide) ?_
      refine lv_aload_n hx hb dX2_readHolder_36 rfl (lv_at hl 1 rfl) ?_
      refine va_get (D := (dC, dI)) (ci := 2) (v := .ref a_t_papers) (C := RX2) (T := TX2) (N := 7) hx hb hU inlX2 hown hE.1 hP 0 rfl rfl 2 (by decide) (hU _ u_3_10) (fun _ h9 => h9) rfl dX2_readHolder_37 ?_
      refine va_get (D := (dC, dI)) (ci := 1) (v := .int s_t_papers.2.2) (C := RX1) (T := TX1) (N := 4) hx hb hU inlX1 hown hE.1 hP 2 rfl rfl 3 (by decide) (hU _ u_6_13) (fun _ h9 => h9) rfl dX2_readHolder_40 ?_
      refine lv_iconst (v := (1 : Int32)) hx hb dX2_readHolder_43 (by decide) ?_
      refine lv_isub hx hb dX2_readHolder_44 ?_
      obtain ⟨x45, h45, hM⟩ := bind_e hM
      refine muV (As := [.int (0 : Int32), .int (s_t_papers.2.2 - (1 : Int32))]) (rest := []) (st2 := [.int x45.1]) (nw := [(a_t, .inr (2, [.ref a_t_letters, .int x45.2.1, .ref a_t_papers, .ref a_t_grants, .ref a_t_routes, .int x45.2.2.1, .int x45.2.2.2])), (a_t_letters, .inl (cC, 99, .inl s_t_letters)), (a_t_papers, .inr (1, [.int s_t_papers.1, .int s_t_papers.2.1, .ref a_t_papers_cells, .int s_t_papers.2.2]))]) ⟨hx, hb, hml, hown, hU⟩ hE (okX2_readFigure a_t a_t_letters a_t_papers a_t_grants a_t_routes s_t s_t_letters (0 : Int32) (s_t_papers.2.2 - (1 : Int32)) x45 h45) lk_X2_63 hP hD hS hA [0, 1] rfl rfl rfl rfl rfl rfl hl.1 rfl (Nat.le_of_ble_eq_true rfl) ⟨Nat.le_of_ble_eq_true rfl, Nat.le_of_ble_eq_true rfl⟩ dX2_readHolder_45 ⟨Nat.le_refl _, Nat.le_refl _⟩ rfl rfl rfl rfl (fun H locs hP hD hS => ?_)
      cases hM
      exact rt _ _ _ _ _ hP hS dX2_readHolder_48 rfl
    · have hM := ite_t (b2i_ne0 c20) hM
      refine lv_aload_n hx hb dX2_readHolder_23 rfl (lv_at hl 1 rfl) ?_
      refine lv_bipush (v := (9 : Int32)) hx hb dX2_readHolder_24 (by decide) ?_
      refine lv_bipush (v := (9 : Int32)) hx hb dX2_readHolder_26 (by decide) ?_
      obtain ⟨x28, h28, hM⟩ := bind_e hM
      refine muV (As := [.int (9 : Int32), .int (9 : Int32)]) (rest := []) (st2 := [.int x28.1]) (nw := [(a_t, .inr (2, [.ref a_t_letters, .int x28.2.1, .ref a_t_papers, .ref a_t_grants, .ref a_t_routes, .int x28.2.2.1, .int x28.2.2.2])), (a_t_letters, .inl (cC, 99, .inl s_t_letters)), (a_t_papers, .inr (1, [.int s_t_papers.1, .int s_t_papers.2.1, .ref a_t_papers_cells, .int s_t_papers.2.2]))]) ⟨hx, hb, hml, hown, hU⟩ hE (okX2_readFigure a_t a_t_letters a_t_papers a_t_grants a_t_routes s_t s_t_letters (9 : Int32) (9 : Int32) x28 h28) lk_X2_63 hP hD hS hA [0, 1] rfl rfl rfl rfl rfl rfl hl.1 rfl (Nat.le_of_ble_eq_true rfl) ⟨Nat.le_of_ble_eq_true rfl, Nat.le_of_ble_eq_true rfl⟩ dX2_readHolder_28 ⟨Nat.le_refl _, Nat.le_refl _⟩ rfl rfl rfl rfl (fun H locs hP hD hS => ?_)
      refine lv_goto (tgt := 48) hx hb dX2_readHolder_31 (by decide) ?_
      cases hM
      exact rt _ _ _ _ _ hP hS dX2_readHolder_48 rfl
  refine lv_icmp_ne (tgt := 17) hx hb dX2_readHolder_10 (by decide) (fun c10 => ?_) (fun c10 => ?_)
  · have hM := ite_f c10 hM
    refine lv_iconst (v := (0 : Int32)) hx hb dX2_readHolder_17 (by decide) ?_
    exact w_18 false hM ls _ _ hP hD hS (lv_sub hl [0] rfl)
  · have hM := ite_t c10 hM
    refine lv_iconst (v := (1 : Int32)) hx hb dX2_readHolder_13 (by decide) ?_
    refine lv_goto (tgt := 18) hx hb dX2_readHolder_14 (by decide) ?_
    exact w_18 true hM ls _ _ hP hD hS (lv_sub hl [0] rfl)
noncomputable def mX3_leftBySize (v0 : Int32) (v1 : Int32) : Option (Int32) := some ((v0 &&& (((32 : Int32) >>> (v1 &&& 31)) - (1 : Int32))))
set_option maxHeartbeats 4000000 in
set_option maxRecDepth 100000 in
theorem okX3_leftBySize {l : Launch} {dC : Nat → ClassId} {dI : Nat → Nat → Nat} {cI cC cZ : ClassId} (v0 : Int32) (v1 : Int32) (res : Int32) (hM : mX3_leftBySize v0 v1 = some res) : Rd l yX3_leftBySize cX3_leftBySize 2 (some .int) 0 0 (dC, dI) cI cC cZ [] [.int v0, .int v1] (some (.int res)) := by
  refine Rd.ofI (by decide) (Nat.le_of_ble_eq_true rfl) [(0, .int v0), (1, .int v1)] rfl ?_
  intro p e s m args below meth c ls Q hx hb hml hown hU hE hP rt hl
  have hown : s.vm.findClass RX3 = some m.cls := hown
  unfold mX3_leftBySize at hM
  refine lv_iload_n hx hb dX3_leftBySize_0 rfl (lv_at hl 0 rfl) ?_
  refine lv_bipush (v := (32 : Int32)) hx hb dX3_leftBySize_1 (by decide) ?_
  refine lv_iload_n hx hb dX3_leftBySize_3 rfl (lv_at hl 1 rfl) ?_
  refine lv_ishr hx hb dX3_leftBySize_4 ?_
  refine lv_iconst (v := (1 : Int32)) hx hb dX3_leftBySize_5 (by decide) ?_
  refine lv_isub hx hb dX3_leftBySize_6 ?_
  refine lv_iand hx hb dX3_leftBySize_7 ?_
  cases hM
  exact rt _ _ _ dX3_leftBySize_8 rfl
noncomputable def mX2_readLength_b21 (s_t : Int32 × Int32 × Int32) (s_t_letters : Nat → Int32) (v2 : Int32) : Option (Int32 × (Int32 × Int32 × Int32)) := (mX2_readFigure s_t s_t_letters v2 (5 : Int32)).bind (fun x24 => some (x24.1, x24.2))
noncomputable def mX2_readLength_b2 (s_t : Int32 × Int32 × Int32) (s_t_letters : Nat → Int32) (v1 : Int32) : Nat → Int32 → Option (Int32 × (Int32 × Int32 × Int32))
  | 0, _ => none
  | n + 1, v2 => (if (5 : Int32) ≤ v2 then mX2_readLength_b21 s_t s_t_letters v2 else (mX3_leftBySize v1 v2).bind (fun x9 => (if x9 = 0 then mX2_readLength_b21 s_t s_t_letters v2 else mX2_readLength_b2 s_t s_t_letters v1 n (v2 + (1 : Int32)))))
noncomputable def mX2_readLength (s_t : Int32 × Int32 × Int32) (s_t_letters : Nat → Int32) (v1 : Int32) : Option (Int32 × (Int32 × Int32 × Int32)) := mX2_readLength_b2 s_t s_t_letters v1 FU (0 : Int32)
set_option maxHeartbeats 4000000 in
set_option maxRecDepth 100000 in
theorem okX2_readLength {l : Launch} {dC : Nat → ClassId} {dI : Nat → Nat → Nat} {cI cC cZ : ClassId} (a_t a_t_letters a_t_papers a_t_grants a_t_routes : Nat) (s_t : Int32 × Int32 × Int32) (s_t_letters : Nat → Int32) (v1 : Int32) (res : Int32 × (Int32 × Int32 × Int32)) (hM : mX2_readLength s_t s_t_letters v1 = some res) : Mu l yX2_readLength cX2_readLength 3 (some .int) 2 44 (dC, dI) cI cC cZ [(a_t, .inr (2, [.ref a_t_letters, .int s_t.1, .ref a_t_papers, .ref a_t_grants, .ref a_t_routes, .int s_t.2.1, .int s_t.2.2])), (a_t_letters, .inl (cC, 99, .inl s_t_letters))] [(a_t, .inr (2, [.ref a_t_letters, .int res.2.1, .ref a_t_papers, .ref a_t_grants, .ref a_t_routes, .int res.2.2.1, .int res.2.2.2])), (a_t_letters, .inl (cC, 99, .inl s_t_letters))] [.ref a_t, .int v1] (some (.int res.1)) := by
  refine Mu.ofI (by decide) (Nat.le_of_ble_eq_true rfl) [(0, .ref a_t), (1, .int v1)] rfl ?_
  intro p e s m args below meth c ls Q A hx hb hml hown hU hE hP hD hS hA rt hl
  have hown : s.vm.findClass RX2 = some m.cls := hown
  unfold mX2_readLength at hM
  refine lv_iconst (v := (0 : Int32)) hx hb dX2_readLength_0 (by decide) ?_
  refine lv_istore_n (lv' := [(2, .int (0 : Int32)), (0, .ref a_t), (1, .int v1)]) hx hb dX2_readLength_1 rfl hl (by decide) rfl (fun ls hl => ?_)
  have w_2 : ∀ (n : Nat) (v2_2 : Int32), mX2_readLength_b2 s_t s_t_letters v1 n v2_2 = some res → ∀ (ls : Array Slot) (H : Heap) (locs : List Loc), va_P (dC, dI) vwCl [(a_t, .inr (2, [.ref a_t_letters, .int s_t.1, .ref a_t_papers, .ref a_t_grants, .ref a_t_routes, .int s_t.2.1, .int s_t.2.2])), (a_t_letters, .inl (cC, 99, .inl s_t_letters))] H → va_D A [(a_t, .inr (2, [.ref a_t_letters, .int s_t.1, .ref a_t_papers, .ref a_t_grants, .ref a_t_routes, .int s_t.2.1, .int s_t.2.2])), (a_t_letters, .inl (cC, 99, .inl s_t_letters))] → va_S A s.heap H locs → lv_has ls 3 [(0, .ref a_t), (1, .int v1), (2, .int v2_2)] → W p l e (RM 2 44) s m args below meth c H locs 0 0 Q (F0 m 2 ls []) := by
    intro n
    induction n with
    | zero =>
      intro v2_2 hM
      rw [mX2_readLength_b2] at hM
      cases hM
    | succ n_2 ih_2 =>
      intro v2_2 hM ls H locs hP hD hS hl
      rw [mX2_readLength_b2] at hM
      refine lv_iload_n hx hb dX2_readLength_2 rfl (lv_at hl 2 rfl) ?_
      refine lv_iconst (v := (5 : Int32)) hx hb dX2_readLength_3 (by decide) ?_
      have w_21 : mX2_readLength_b21 s_t s_t_letters v2_2 = some res → ∀ (ls : Array Slot) (H : Heap) (locs : List Loc), va_P (dC, dI) vwCl [(a_t, .inr (2, [.ref a_t_letters, .int s_t.1, .ref a_t_papers, .ref a_t_grants, .ref a_t_routes, .int s_t.2.1, .int s_t.2.2])), (a_t_letters, .inl (cC, 99, .inl s_t_letters))] H → va_D A [(a_t, .inr (2, [.ref a_t_letters, .int s_t.1, .ref a_t_papers, .ref a_t_grants, .ref a_t_routes, .int s_t.2.1, .int s_t.2.2])), (a_t_letters, .inl (cC, 99, .inl s_t_letters))] → va_S A s.heap H locs → lv_has ls 3 [(0, .ref a_t), (2, .int v2_2)] → W p l e (RM 2 44) s m args below meth c H locs 0 0 Q (F0 m 21 ls []) := by
        intro  hM ls H locs hP hD hS hl
        unfold mX2_readLength_b21 at hM
        refine lv_aload_n hx hb dX2_readLength_21 rfl (lv_at hl 0 rfl) ?_
        refine lv_iload_n hx hb dX2_readLength_22 rfl (lv_at hl 1 rfl) ?_
        refine lv_iconst (v := (5 : Int32)) hx hb dX2_readLength_23 (by decide) ?_
        obtain ⟨x24, h24, hM⟩ := bind_e hM
        refine muV (As := [.int v2_2, .int (5 : Int32)]) (rest := []) (st2 := [.int x24.1]) (nw := [(a_t, .inr (2, [.ref a_t_letters, .int x24.2.1, .ref a_t_papers, .ref a_t_grants, .ref a_t_routes, .int x24.2.2.1, .int x24.2.2.2])), (a_t_letters, .inl (cC, 99, .inl s_t_letters))]) ⟨hx, hb, hml, hown, hU⟩ hE (okX2_readFigure a_t a_t_letters a_t_papers a_t_grants a_t_routes s_t s_t_letters v2_2 (5 : Int32) x24 h24) lk_X2_63 hP hD hS hA [0, 1] rfl rfl rfl rfl rfl rfl hl.1 rfl (Nat.le_of_ble_eq_true rfl) ⟨Nat.le_of_ble_eq_true rfl, Nat.le_of_ble_eq_true rfl⟩ dX2_readLength_24 ⟨Nat.le_refl _, Nat.le_refl _⟩ rfl rfl rfl rfl (fun H locs hP hD hS => ?_)
        cases hM
        exact rt _ _ _ _ _ hP hS dX2_readLength_27 rfl
      refine lv_icmp_ge (tgt := 21) hx hb dX2_readLength_4 (by decide) (fun c4 => ?_) (fun c4 => ?_)
      · have hM := ite_t c4 hM
        exact w_21  hM ls _ _ hP hD hS (lv_sub hl [0, 2] rfl)
      · have hM := ite_f c4 hM
        refine lv_iload_n hx hb dX2_readLength_7 rfl (lv_at hl 1 rfl) ?_
        refine lv_iload_n hx hb dX2_readLength_8 rfl (lv_at hl 2 rfl) ?_
        obtain ⟨x9, h9, hM⟩ := bind_e hM
        refine rdN (As := [.int v1, .int v2_2]) (rest := []) (st2 := [.int x9]) ⟨hx, hb, hml, hown, hU⟩ hE hE.2.2.2.1 (okX3_leftBySize v1 v2_2 x9 h9) kn_X3_leftBySize (hP.sub [] rfl) rfl hl.1 rfl (Nat.le_of_ble_eq_true rfl) ⟨Nat.le_of_ble_eq_true rfl, Nat.le_of_ble_eq_true rfl⟩ dX2_readLength_9 ⟨Nat.le_refl _, Nat.le_refl _⟩ rfl ?_
        refine lv_if_eq (tgt := 21) hx hb dX2_readLength_12 (by decide) (fun c12 => ?_) (fun c12 => ?_)
        · have hM := ite_t c12 hM
          exact w_21  hM ls _ _ hP hD hS (lv_sub hl [0, 2] rfl)
        · have hM := ite_f c12 hM
          refine lv_iinc (v := (v2_2 + (1 : Int32))) (lv' := [(2, .int (v2_2 + (1 : Int32))), (0, .ref a_t), (1, .int v1)]) hx hb dX2_readLength_15 hl (k := 2) rfl rfl (by decide) rfl (fun ls hl => ?_)
          refine lv_goto (tgt := 2) hx hb dX2_readLength_18 (by decide) ?_
          exact ih_2 (v2_2 + (1 : Int32)) hM ls _ _ hP hD hS (lv_sub hl [1, 2, 0] rfl)
  exact w_2 FU (0 : Int32) hM ls _ _ hP hD hS (lv_sub hl [1, 2, 0] rfl)
noncomputable def mX2_readStart_b24 (s_t : Int32 × Int32 × Int32) (s_t_letters : Nat → Int32) (t0 : Int32) (t1 : Bool) (t3 : Int32) : Option (Int32 × (Int32 × Int32 × Int32)) := (mX2_readFigure s_t s_t_letters (b2i t1) t0).bind (fun x24 => some ((t3 + x24.1), x24.2))
noncomputable def mX2_readStart (s_t : Int32 × Int32 × Int32) (s_t_letters : Nat → Int32) : Option (Int32 × (Int32 × Int32 × Int32)) := (mX2_readFigure s_t s_t_letters (0 : Int32) (3 : Int32)).bind (fun x3 => (if x3.1 = (3 : Int32) then mX2_readStart_b24 x3.2 s_t_letters (1 : Int32) false (x3.1 * (10 : Int32)) else mX2_readStart_b24 x3.2 s_t_letters (9 : Int32) false (x3.1 * (10 : Int32))))
set_option maxHeartbeats 4000000 in
set_option maxRecDepth 100000 in
theorem okX2_readStart {l : Launch} {dC : Nat → ClassId} {dI : Nat → Nat → Nat} {cI cC cZ : ClassId} (a_t a_t_letters a_t_papers a_t_grants a_t_routes : Nat) (s_t : Int32 × Int32 × Int32) (s_t_letters : Nat → Int32) (res : Int32 × (Int32 × Int32 × Int32)) (hM : mX2_readStart s_t s_t_letters = some res) : Mu l yX2_readStart cX2_readStart 2 (some .int) 2 44 (dC, dI) cI cC cZ [(a_t, .inr (2, [.ref a_t_letters, .int s_t.1, .ref a_t_papers, .ref a_t_grants, .ref a_t_routes, .int s_t.2.1, .int s_t.2.2])), (a_t_letters, .inl (cC, 99, .inl s_t_letters))] [(a_t, .inr (2, [.ref a_t_letters, .int res.2.1, .ref a_t_papers, .ref a_t_grants, .ref a_t_routes, .int res.2.2.1, .int res.2.2.2])), (a_t_letters, .inl (cC, 99, .inl s_t_letters))] [.ref a_t] (some (.int res.1)) := by
  refine Mu.ofI (by decide) (Nat.le_of_ble_eq_true rfl) [(0, .ref a_t)] rfl ?_
  intro p e s m args below meth c ls Q A hx hb hml hown hU hE hP hD hS hA rt hl
  have hown : s.vm.findClass RX2 = some m.cls := hown
  unfold mX2_readStart at hM
  refine lv_aload_n hx hb dX2_readStart_0 rfl (lv_at hl 0 rfl) ?_
  refine lv_iconst (v := (0 : Int32)) hx hb dX2_readStart_1 (by decide) ?_
  refine lv_iconst (v := (3 : Int32)) hx hb dX2_readStart_2 (by decide) ?_
  obtain ⟨x3, h3, hM⟩ := bind_e hM
  refine muV (As := [.int (0 : Int32), .int (3 : Int32)]) (rest := []) (st2 := [.int x3.1]) (nw := [(a_t, .inr (2, [.ref a_t_letters, .int x3.2.1, .ref a_t_papers, .ref a_t_grants, .ref a_t_routes, .int x3.2.2.1, .int x3.2.2.2])), (a_t_letters, .inl (cC, 99, .inl s_t_letters))]) ⟨hx, hb, hml, hown, hU⟩ hE (okX2_readFigure a_t a_t_letters a_t_papers a_t_grants a_t_routes s_t s_t_letters (0 : Int32) (3 : Int32) x3 h3) lk_X2_63 hP hD hS hA [0, 1] rfl rfl rfl rfl rfl rfl hl.1 rfl (Nat.le_of_ble_eq_true rfl) ⟨Nat.le_of_ble_eq_true rfl, Nat.le_of_ble_eq_true rfl⟩ dX2_readStart_3 ⟨Nat.le_refl _, Nat.le_refl _⟩ rfl rfl rfl rfl (fun H locs hP hD hS => ?_)
  refine lv_istore_n (lv' := [(1, .int x3.1), (0, .ref a_t)]) hx hb dX2_readStart_6 rfl hl (by decide) rfl (fun ls hl => ?_)
  refine lv_iload_n hx hb dX2_readStart_7 rfl (lv_at hl 0 rfl) ?_
  refine lv_bipush (v := (10 : Int32)) hx hb dX2_readStart_8 (by decide) ?_
  refine lv_imul hx hb dX2_readStart_10 ?_
  refine lv_aload_n hx hb dX2_readStart_11 rfl (lv_at hl 1 rfl) ?_
  refine lv_iconst (v := (0 : Int32)) hx hb dX2_readStart_12 (by decide) ?_
  refine lv_iload_n hx hb dX2_readStart_13 rfl (lv_at hl 0 rfl) ?_
  refine lv_iconst (v := (3 : Int32)) hx hb dX2_readStart_14 (by decide) ?_
  have w_24 : ∀ (t0_24 : Int32) (t1_24 : Bool) (t3_24 : Int32), mX2_readStart_b24 x3.2 s_t_letters t0_24 t1_24 t3_24 = some res → ∀ (ls : Array Slot) (H : Heap) (locs : List Loc), va_P (dC, dI) vwCl [(a_t, .inr (2, [.ref a_t_letters, .int x3.2.1, .ref a_t_papers, .ref a_t_grants, .ref a_t_routes, .int x3.2.2.1, .int x3.2.2.2])), (a_t_letters, .inl (cC, 99, .inl s_t_letters))] H → va_D A [(a_t, .inr (2, [.ref a_t_letters, .int x3.2.1, .ref a_t_papers, .ref a_t_grants, .ref a_t_routes, .int x3.2.2.1, .int x3.2.2.2])), (a_t_letters, .inl (cC, 99, .inl s_t_letters))] → va_S A s.heap H locs → lv_has ls 2 [] → W p l e (RM 2 44) s m args below meth c H locs 0 0 Q (F0 m 24 ls [.int t0_24, .int (b2i t1_24), .ref a_t, .int t3_24]) := by
    intro t0_24 t1_24 t3_24 hM ls H locs hP hD hS hl
    unfold mX2_readStart_b24 at hM
    obtain ⟨x24, h24, hM⟩ := bind_e hM
    refine muV (As := [.int (b2i t1_24), .int t0_24]) (rest := [.int t3_24]) (st2 := [.int x24.1, .int t3_24]) (nw := [(a_t, .inr (2, [.ref a_t_letters, .int x24.2.1, .ref a_t_papers, .ref a_t_grants, .ref a_t_routes, .int x24.2.2.1, .int x24.2.2.2])), (a_t_letters, .inl (cC, 99, .inl s_t_letters))]) ⟨hx, hb, hml, hown, hU⟩ hE (okX2_readFigure a_t a_t_letters a_t_papers a_t_grants a_t_routes x3.2 s_t_letters (b2i t1_24) t0_24 x24 h24) lk_X2_63 hP hD hS hA [0, 1] rfl rfl rfl rfl rfl rfl hl.1 rfl (Nat.le_of_ble_eq_true rfl) ⟨Nat.le_of_ble_eq_true rfl, Nat.le_of_ble_eq_true rfl⟩ dX2_readStart_24 ⟨Nat.le_refl _, Nat.le_refl _⟩ rfl rfl rfl rfl (fun H locs hP hD hS => ?_)
    refine lv_iadd hx hb dX2_readStart_27 ?_
    cases hM
    exact rt _ _ _ _ _ hP hS dX2_readStart_28 rfl
  refine lv_icmp_ne (tgt := 22) hx hb dX2_readStart_15 (by decide) (fun c15 => ?_) (fun c15 => ?_)
  · have hM := ite_f c15 hM
    refine lv_bipush (v := (9 : Int32)) hx hb dX2_readStart_22 (by decide) ?_
    exact w_24 (9 : Int32) false (x3.1 * (10 : Int32)) hM ls _ _ hP hD hS (lv_sub hl [] rfl)
  · have hM := ite_t c15 hM
    refine lv_iconst (v := (1 : Int32)) hx hb dX2_readStart_18 (by decide) ?_
    refine lv_goto (tgt := 24) hx hb dX2_readStart_19 (by decide) ?_
    exact w_24 (1 : Int32) false (x3.1 * (10 : Int32)) hM ls _ _ hP hD hS (lv_sub hl [] rfl)
noncomputable def mX2_readGrant (s_t : Int32 × Int32 × Int32) (s_t_letters : Nat → Int32) (s_t_papers : Int32 × Int32 × Int32) (s_t_grants : Int32 × Int32 × Int32) (s_t_grants_cells : Ar) : Option ((Int32 × Int32 × Int32) × (Int32 × Int32 × Int32) × Ar) := (mX2_readHolder s_t s_t_letters s_t_papers).bind (fun x1 => (mX2_readFigure x1.2 s_t_letters (0 : Int32) (5 : Int32)).bind (fun x8 => (mX2_readStart x8.2 s_t_letters).bind (fun x13 => (mX2_readLength x13.2 s_t_letters x13.1).bind (fun x19 => (mX2_readFigure x19.2 s_t_letters x19.1 (5 : Int32)).bind (fun x28 => (if x28.2.2.2 = (-9 : Int32) then (mX1_addRange s_t_grants s_t_grants_cells x13.1 x19.1 x8.1 x1.1 x28.1).bind (fun x53 => some (x28.2, x53.2.1, x53.2.2)) else some (x28.2, s_t_grants, s_t_grants_cells)))))))
set_option maxHeartbeats 4000000 in
set_option maxRecDepth 100000 in
theorem okX2_readGrant {l : Launch} {dC : Nat → ClassId} {dI : Nat → Nat → Nat} {cI cC cZ : ClassId} (a_t a_t_letters a_t_papers a_t_grants a_t_routes a_t_papers_cells a_t_grants_cells : Nat) (s_t : Int32 × Int32 × Int32) (s_t_letters : Nat → Int32) (s_t_papers : Int32 × Int32 × Int32) (s_t_grants : Int32 × Int32 × Int32) (s_t_grants_cells : Ar) (res : (Int32 × Int32 × Int32) × (Int32 × Int32 × Int32) × Ar) (hM : mX2_readGrant s_t s_t_letters s_t_papers s_t_grants s_t_grants_cells = some res) : Mu l yX2_readGrant cX2_readGrant 6 none 3 87 (dC, dI) cI cC cZ [(a_t, .inr (2, [.ref a_t_letters, .int s_t.1, .ref a_t_papers, .ref a_t_grants, .ref a_t_routes, .int s_t.2.1, .int s_t.2.2])), (a_t_letters, .inl (cC, 99, .inl s_t_letters)), (a_t_papers, .inr (1, [.int s_t_papers.1, .int s_t_papers.2.1, .ref a_t_papers_cells, .int s_t_papers.2.2])), (a_t_grants, .inr (1, [.int s_t_grants.1, .int s_t_grants.2.1, .ref a_t_grants_cells, .int s_t_grants.2.2])), (a_t_grants_cells, .inl (cI, s_t_grants_cells.1, .inl s_t_grants_cells.2))] [(a_t, .inr (2, [.ref a_t_letters, .int res.1.1, .ref a_t_papers, .ref a_t_grants, .ref a_t_routes, .int res.1.2.1, .int res.1.2.2])), (a_t_letters, .inl (cC, 99, .inl s_t_letters)), (a_t_papers, .inr (1, [.int s_t_papers.1, .int s_t_papers.2.1, .ref a_t_papers_cells, .int s_t_papers.2.2])), (a_t_grants, .inr (1, [.int res.2.1.1, .int res.2.1.2.1, .ref a_t_grants_cells, .int res.2.1.2.2])), (a_t_grants_cells, .inl (cI, res.2.2.1, .inl res.2.2.2))] [.ref a_t] none := by
  refine Mu.ofV (by decide) (Nat.le_of_ble_eq_true rfl) [(0, .ref a_t)] rfl ?_
  intro p e s m args below meth c ls Q A hx hb hml hown hU hE hP hD hS hA rt hl
  have hown : s.vm.findClass RX2 = some m.cls := hown
  unfold mX2_readGrant at hM
  refine lv_aload_n hx hb dX2_readGrant_0 rfl (lv_at hl 0 rfl) ?_
  obtain ⟨x1, h1, hM⟩ := bind_e hM
  refine muV (As := []) (rest := []) (st2 := [.int x1.1]) (nw := [(a_t, .inr (2, [.ref a_t_letters, .int x1.2.1, .ref a_t_papers, .ref a_t_grants, .ref a_t_routes, .int x1.2.2.1, .int x1.2.2.2])), (a_t_letters, .inl (cC, 99, .inl s_t_letters)), (a_t_papers, .inr (1, [.int s_t_papers.1, .int s_t_papers.2.1, .ref a_t_papers_cells, .int s_t_papers.2.2])), (a_t_grants, .inr (1, [.int s_t_grants.1, .int s_t_grants.2.1, .ref a_t_grants_cells, .int s_t_grants.2.2])), (a_t_grants_cells, .inl (cI, s_t_grants_cells.1, .inl s_t_grants_cells.2))]) ⟨hx, hb, hml, hown, hU⟩ hE (okX2_readHolder a_t a_t_letters a_t_papers a_t_grants a_t_routes a_t_papers_cells s_t s_t_letters s_t_papers x1 h1) lk_X2_75 hP hD hS hA [0, 1, 2] rfl rfl rfl rfl rfl rfl hl.1 rfl (Nat.le_of_ble_eq_true rfl) ⟨Nat.le_of_ble_eq_true rfl, Nat.le_of_ble_eq_true rfl⟩ dX2_readGrant_1 ⟨Nat.le_refl _, Nat.le_refl _⟩ rfl rfl rfl rfl (fun H locs hP hD hS => ?_)
  refine lv_istore_n (lv' := [(1, .int x1.1), (0, .ref a_t)]) hx hb dX2_readGrant_4 rfl hl (by decide) rfl (fun ls hl => ?_)
  refine lv_aload_n hx hb dX2_readGrant_5 rfl (lv_at hl 1 rfl) ?_
  refine lv_iconst (v := (0 : Int32)) hx hb dX2_readGrant_6 (by decide) ?_
  refine lv_iconst (v := (5 : Int32)) hx hb dX2_readGrant_7 (by decide) ?_
  obtain ⟨x8, h8, hM⟩ := bind_e hM
  refine muV (As := [.int (0 : Int32), .int (5 : Int32)]) (rest := []) (st2 := [.int x8.1]) (nw := [(a_t, .inr (2, [.ref a_t_letters, .int x8.2.1, .ref a_t_papers, .ref a_t_grants, .ref a_t_routes, .int x8.2.2.1, .int x8.2.2.2])), (a_t_letters, .inl (cC, 99, .inl s_t_letters)), (a_t_papers, .inr (1, [.int s_t_papers.1, .int s_t_papers.2.1, .ref a_t_papers_cells, .int s_t_papers.2.2])), (a_t_grants, .inr (1, [.int s_t_grants.1, .int s_t_grants.2.1, .ref a_t_grants_cells, .int s_t_grants.2.2])), (a_t_grants_cells, .inl (cI, s_t_grants_cells.1, .inl s_t_grants_cells.2))]) ⟨hx, hb, hml, hown, hU⟩ hE (okX2_readFigure a_t a_t_letters a_t_papers a_t_grants a_t_routes x1.2 s_t_letters (0 : Int32) (5 : Int32) x8 h8) lk_X2_63 hP hD hS hA [0, 1] rfl rfl rfl rfl rfl rfl hl.1 rfl (Nat.le_of_ble_eq_true rfl) ⟨Nat.le_of_ble_eq_true rfl, Nat.le_of_ble_eq_true rfl⟩ dX2_readGrant_8 ⟨Nat.le_refl _, Nat.le_refl _⟩ rfl rfl rfl rfl (fun H locs hP hD hS => ?_)
  refine lv_istore_n (lv' := [(2, .int x8.1), (1, .int x1.1), (0, .ref a_t)]) hx hb dX2_readGrant_11 rfl hl (by decide) rfl (fun ls hl => ?_)
  refine lv_aload_n hx hb dX2_readGrant_12 rfl (lv_at hl 2 rfl) ?_
  obtain ⟨x13, h13, hM⟩ := bind_e hM
  refine muV (As := []) (rest := []) (st2 := [.int x13.1]) (nw := [(a_t, .inr (2, [.ref a_t_letters, .int x13.2.1, .ref a_t_papers, .ref a_t_grants, .ref a_t_routes, .int x13.2.2.1, .int x13.2.2.2])), (a_t_letters, .inl (cC, 99, .inl s_t_letters)), (a_t_papers, .inr (1, [.int s_t_papers.1, .int s_t_papers.2.1, .ref a_t_papers_cells, .int s_t_papers.2.2])), (a_t_grants, .inr (1, [.int s_t_grants.1, .int s_t_grants.2.1, .ref a_t_grants_cells, .int s_t_grants.2.2])), (a_t_grants_cells, .inl (cI, s_t_grants_cells.1, .inl s_t_grants_cells.2))]) ⟨hx, hb, hml, hown, hU⟩ hE (okX2_readStart a_t a_t_letters a_t_papers a_t_grants a_t_routes x8.2 s_t_letters x13 h13) lk_X2_67 hP hD hS hA [0, 1] rfl rfl rfl rfl rfl rfl hl.1 rfl (Nat.le_of_ble_eq_true rfl) ⟨Nat.le_of_ble_eq_true rfl, Nat.le_of_ble_eq_true rfl⟩ dX2_readGrant_13 ⟨Nat.le_refl _, Nat.le_refl _⟩ rfl rfl rfl rfl (fun H locs hP hD hS => ?_)
  refine lv_istore_n (lv' := [(3, .int x13.1), (2, .int x8.1), (1, .int x1.1), (0, .ref a_t)]) hx hb dX2_readGrant_16 rfl hl (by decide) rfl (fun ls hl => ?_)
  refine lv_aload_n hx hb dX2_readGrant_17 rfl (lv_at hl 3 rfl) ?_
  refine lv_iload_n hx hb dX2_readGrant_18 rfl (lv_at hl 0 rfl) ?_
  obtain ⟨x19, h19, hM⟩ := bind_e hM
  refine muV (As := [.int x13.1]) (rest := []) (st2 := [.int x19.1]) (nw := [(a_t, .inr (2, [.ref a_t_letters, .int x19.2.1, .ref a_t_papers, .ref a_t_grants, .ref a_t_routes, .int x19.2.2.1, .int x19.2.2.2])), (a_t_letters, .inl (cC, 99, .inl s_t_letters)), (a_t_papers, .inr (1, [.int s_t_papers.1, .int s_t_papers.2.1, .ref a_t_papers_cells, .int s_t_papers.2.2])), (a_t_grants, .inr (1, [.int s_t_grants.1, .int s_t_grants.2.1, .ref a_t_grants_cells, .int s_t_grants.2.2])), (a_t_grants_cells, .inl (cI, s_t_grants_cells.1, .inl s_t_grants_cells.2))]) ⟨hx, hb, hml, hown, hU⟩ hE (okX2_readLength a_t a_t_letters a_t_papers a_t_grants a_t_routes x13.2 s_t_letters x13.1 x19 h19) lk_X2_71 hP hD hS hA [0, 1] rfl rfl rfl rfl rfl rfl hl.1 rfl (Nat.le_of_ble_eq_true rfl) ⟨Nat.le_of_ble_eq_true rfl, Nat.le_of_ble_eq_true rfl⟩ dX2_readGrant_19 ⟨Nat.le_refl _, Nat.le_refl _⟩ rfl rfl rfl rfl (fun H locs hP hD hS => ?_)
  refine lv_istore (lv' := [(4, .int x19.1), (3, .int x13.1), (2, .int x8.1), (1, .int x1.1), (0, .ref a_t)]) hx hb dX2_readGrant_22 hl (by decide) rfl (fun ls hl => ?_)
  refine lv_aload_n hx hb dX2_readGrant_24 rfl (lv_at hl 4 rfl) ?_
  refine lv_iload hx hb dX2_readGrant_25 (lv_at hl 0 rfl) ?_
  refine lv_iconst (v := (5 : Int32)) hx hb dX2_readGrant_27 (by decide) ?_
  obtain ⟨x28, h28, hM⟩ := bind_e hM
  refine muV (As := [.int x19.1, .int (5 : Int32)]) (rest := []) (st2 := [.int x28.1]) (nw := [(a_t, .inr (2, [.ref a_t_letters, .int x28.2.1, .ref a_t_papers, .ref a_t_grants, .ref a_t_routes, .int x28.2.2.1, .int x28.2.2.2])), (a_t_letters, .inl (cC, 99, .inl s_t_letters)), (a_t_papers, .inr (1, [.int s_t_papers.1, .int s_t_papers.2.1, .ref a_t_papers_cells, .int s_t_papers.2.2])), (a_t_grants, .inr (1, [.int s_t_grants.1, .int s_t_grants.2.1, .ref a_t_grants_cells, .int s_t_grants.2.2])), (a_t_grants_cells, .inl (cI, s_t_grants_cells.1, .inl s_t_grants_cells.2))]) ⟨hx, hb, hml, hown, hU⟩ hE (okX2_readFigure a_t a_t_letters a_t_papers a_t_grants a_t_routes x19.2 s_t_letters x19.1 (5 : Int32) x28 h28) lk_X2_63 hP hD hS hA [0, 1] rfl rfl rfl rfl rfl rfl hl.1 rfl (Nat.le_of_ble_eq_true rfl) ⟨Nat.le_of_ble_eq_true rfl, Nat.le_of_ble_eq_true rfl⟩ dX2_readGrant_28 ⟨Nat.le_refl _, Nat.le_refl _⟩ rfl rfl rfl rfl (fun H locs hP hD hS => ?_)
  refine lv_istore (lv' := [(5, .int x28.1), (4, .int x19.1), (3, .int x13.1), (2, .int x8.1), (1, .int x1.1), (0, .ref a_t)]) hx hb dX2_readGrant_31 hl (by decide) rfl (fun ls hl => ?_)
  refine lv_aload_n hx hb dX2_readGrant_33 rfl (lv_at hl 5 rfl) ?_
  refine va_get (D := (dC, dI)) (ci := 2) (v := .int x28.2.2.2) (C := RX2) (T := TX2) (N := 7) hx hb hU inlX2 hown hE.1 hP 0 rfl rfl 6 (by decide) (hU _ u_6_14) (fun _ h9 => h9) rfl dX2_readGrant_34 ?_
  refine lv_bipush (v := (-9 : Int32)) hx hb dX2_readGrant_37 (by decide) ?_
  refine lv_icmp_ne (tgt := 57) hx hb dX2_readGrant_39 (by decide) (fun c39 => ?_) (fun c39 => ?_)
  · have hM := ite_f c39 hM
    cases hM
    exact rt _ _ _ _ hP hS dX2_readGrant_57 rfl
  · have hM := ite_t c39 hM
    refine lv_aload_n hx hb dX2_readGrant_42 rfl (lv_at hl 5 rfl) ?_
    refine va_get (D := (dC, dI)) (ci := 2) (v := .ref a_t_grants) (C := RX2) (T := TX2) (N := 7) hx hb hU inlX2 hown hE.1 hP 0 rfl rfl 3 (by decide) (hU _ u_3_11) (fun _ h9 => h9) rfl dX2_readGrant_43 ?_
    refine lv_iload_n hx hb dX2_readGrant_46 rfl (lv_at hl 2 rfl) ?_
    refine lv_iload hx hb dX2_readGrant_47 (lv_at hl 1 rfl) ?_
    refine lv_iload_n hx hb dX2_readGrant_49 rfl (lv_at hl 3 rfl) ?_
    refine lv_iload_n hx hb dX2_readGrant_50 rfl (lv_at hl 4 rfl) ?_
    refine lv_iload hx hb dX2_readGrant_51 (lv_at hl 0 rfl) ?_
    obtain ⟨x53, h53, hM⟩ := bind_e hM
    refine muV (As := [.int x13.1, .int x19.1, .int x8.1, .int x1.1, .int x28.1]) (rest := []) (st2 := [.int x53.1]) (nw := [(a_t, .inr (2, [.ref a_t_letters, .int x28.2.1, .ref a_t_papers, .ref a_t_grants, .ref a_t_routes, .int x28.2.2.1, .int x28.2.2.2])), (a_t_letters, .inl (cC, 99, .inl s_t_letters)), (a_t_papers, .inr (1, [.int s_t_papers.1, .int s_t_papers.2.1, .ref a_t_papers_cells, .int s_t_papers.2.2])), (a_t_grants, .inr (1, [.int x53.2.1.1, .int x53.2.1.2.1, .ref a_t_grants_cells, .int x53.2.1.2.2])), (a_t_grants_cells, .inl (cI, x53.2.2.1, .inl x53.2.2.2))]) ⟨hx, hb, hml, hown, hU⟩ hE (okX1_addRange a_t_grants a_t_grants_cells s_t_grants s_t_grants_cells x13.1 x19.1 x8.1 x1.1 x28.1 x53 h53) lk_X2_37 hP hD hS hA [3, 4] rfl rfl rfl rfl rfl rfl hl.1 rfl (Nat.le_of_ble_eq_true rfl) ⟨Nat.le_of_ble_eq_true rfl, Nat.le_of_ble_eq_true rfl⟩ dX2_readGrant_53 ⟨Nat.le_refl _, Nat.le_refl _⟩ rfl rfl rfl rfl (fun H locs hP hD hS => ?_)
    refine lv_pop hx hb dX2_readGrant_56 rfl ?_
    cases hM
    exact rt _ _ _ _ hP hS dX2_readGrant_57 rfl
noncomputable def mX2_readPaper (s_t : Int32 × Int32 × Int32) (s_t_papers : Int32 × Int32 × Int32) (s_t_letters : Nat → Int32) (s_t_papers_cells : Ar) : Option ((Int32 × Int32 × Int32) × (Int32 × Int32 × Int32) × Ar) := (mX2_readFigure s_t s_t_letters (0 : Int32) (s_t_papers.2.2 - (1 : Int32))).bind (fun x11 => (mX2_readStart x11.2 s_t_letters).bind (fun x16 => (mX2_readLength x16.2 s_t_letters x16.1).bind (fun x22 => (mX2_readFigure x22.2 s_t_letters (0 : Int32) (9 : Int32)).bind (fun x30 => (if x30.2.2.2 = (-9 : Int32) then (mX1_addRange s_t_papers s_t_papers_cells x16.1 x22.1 x11.1 x30.1 (0 : Int32)).bind (fun x54 => some (x30.2, x54.2.1, x54.2.2)) else some (x30.2, s_t_papers, s_t_papers_cells))))))
set_option maxHeartbeats 4000000 in
set_option maxRecDepth 100000 in
theorem okX2_readPaper {l : Launch} {dC : Nat → ClassId} {dI : Nat → Nat → Nat} {cI cC cZ : ClassId} (a_t a_t_letters a_t_papers a_t_grants a_t_routes a_t_papers_cells : Nat) (s_t : Int32 × Int32 × Int32) (s_t_papers : Int32 × Int32 × Int32) (s_t_letters : Nat → Int32) (s_t_papers_cells : Ar) (res : (Int32 × Int32 × Int32) × (Int32 × Int32 × Int32) × Ar) (hM : mX2_readPaper s_t s_t_papers s_t_letters s_t_papers_cells = some res) : Mu l yX2_readPaper cX2_readPaper 5 none 3 87 (dC, dI) cI cC cZ [(a_t, .inr (2, [.ref a_t_letters, .int s_t.1, .ref a_t_papers, .ref a_t_grants, .ref a_t_routes, .int s_t.2.1, .int s_t.2.2])), (a_t_papers, .inr (1, [.int s_t_papers.1, .int s_t_papers.2.1, .ref a_t_papers_cells, .int s_t_papers.2.2])), (a_t_letters, .inl (cC, 99, .inl s_t_letters)), (a_t_papers_cells, .inl (cI, s_t_papers_cells.1, .inl s_t_papers_cells.2))] [(a_t, .inr (2, [.ref a_t_letters, .int res.1.1, .ref a_t_papers, .ref a_t_grants, .ref a_t_routes, .int res.1.2.1, .int res.1.2.2])), (a_t_papers, .inr (1, [.int res.2.1.1, .int res.2.1.2.1, .ref a_t_papers_cells, .int res.2.1.2.2])), (a_t_letters, .inl (cC, 99, .inl s_t_letters)), (a_t_papers_cells, .inl (cI, res.2.2.1, .inl res.2.2.2))] [.ref a_t] none := by
  refine Mu.ofV (by decide) (Nat.le_of_ble_eq_true rfl) [(0, .ref a_t)] rfl ?_
  intro p e s m args below meth c ls Q A hx hb hml hown hU hE hP hD hS hA rt hl
  have hown : s.vm.findClass RX2 = some m.cls := hown
  unfold mX2_readPaper at hM
  refine lv_aload_n hx hb dX2_readPaper_0 rfl (lv_at hl 0 rfl) ?_
  refine lv_iconst (v := (0 : Int32)) hx hb dX2_readPaper_1 (by decide) ?_
  refine lv_aload_n hx hb dX2_readPaper_2 rfl (lv_at hl 0 rfl) ?_
  refine va_get (D := (dC, dI)) (ci := 2) (v := .ref a_t_papers) (C := RX2) (T := TX2) (N := 7) hx hb hU inlX2 hown hE.1 hP 0 rfl rfl 2 (by decide) (hU _ u_3_10) (fun _ h9 => h9) rfl dX2_readPaper_3 ?_
  refine va_get (D := (dC, dI)) (ci := 1) (v := .int s_t_papers.2.2) (C := RX1) (T := TX1) (N := 4) hx hb hU inlX1 hown hE.1 hP 1 rfl rfl 3 (by decide) (hU _ u_6_13) (fun _ h9 => h9) rfl dX2_readPaper_6 ?_
  refine lv_iconst (v := (1 : Int32)) hx hb dX2_readPaper_9 (by decide) ?_
  refine lv_isub hx hb dX2_readPaper_10 ?_
  obtain ⟨x11, h11, hM⟩ := bind_e hM
  refine muV (As := [.int (0 : Int32), .int (s_t_papers.2.2 - (1 : Int32))]) (rest := []) (st2 := [.int x11.1]) (nw := [(a_t, .inr (2, [.ref a_t_letters, .int x11.2.1, .ref a_t_papers, .ref a_t_grants, .ref a_t_routes, .int x11.2.2.1, .int x11.2.2.2])), (a_t_papers, .inr (1, [.int s_t_papers.1, .int s_t_papers.2.1, .ref a_t_papers_cells, .int s_t_papers.2.2])), (a_t_letters, .inl (cC, 99, .inl s_t_letters)), (a_t_papers_cells, .inl (cI, s_t_papers_cells.1, .inl s_t_papers_cells.2))]) ⟨hx, hb, hml, hown, hU⟩ hE (okX2_readFigure a_t a_t_letters a_t_papers a_t_grants a_t_routes s_t s_t_letters (0 : Int32) (s_t_papers.2.2 - (1 : Int32)) x11 h11) lk_X2_63 hP hD hS hA [0, 2] rfl rfl rfl rfl rfl rfl hl.1 rfl (Nat.le_of_ble_eq_true rfl) ⟨Nat.le_of_ble_eq_true rfl, Nat.le_of_ble_eq_true rfl⟩ dX2_readPaper_11 ⟨Nat.le_refl _, Nat.le_refl _⟩ rfl rfl rfl rfl (fun H locs hP hD hS => ?_)
  refine lv_istore_n (lv' := [(1, .int x11.1), (0, .ref a_t)]) hx hb dX2_readPaper_14 rfl hl (by decide) rfl (fun ls hl => ?_)
  refine lv_aload_n hx hb dX2_readPaper_15 rfl (lv_at hl 1 rfl) ?_
  obtain ⟨x16, h16, hM⟩ := bind_e hM
  refine muV (As := []) (rest := []) (st2 := [.int x16.1]) (nw := [(a_t, .inr (2, [.ref a_t_letters, .int x16.2.1, .ref a_t_papers, .ref a_t_grants, .ref a_t_routes, .int x16.2.2.1, .int x16.2.2.2])), (a_t_papers, .inr (1, [.int s_t_papers.1, .int s_t_papers.2.1, .ref a_t_papers_cells, .int s_t_papers.2.2])), (a_t_letters, .inl (cC, 99, .inl s_t_letters)), (a_t_papers_cells, .inl (cI, s_t_papers_cells.1, .inl s_t_papers_cells.2))]) ⟨hx, hb, hml, hown, hU⟩ hE (okX2_readStart a_t a_t_letters a_t_papers a_t_grants a_t_routes x11.2 s_t_letters x16 h16) lk_X2_67 hP hD hS hA [0, 2] rfl rfl rfl rfl rfl rfl hl.1 rfl (Nat.le_of_ble_eq_true rfl) ⟨Nat.le_of_ble_eq_true rfl, Nat.le_of_ble_eq_true rfl⟩ dX2_readPaper_16 ⟨Nat.le_refl _, Nat.le_refl _⟩ rfl rfl rfl rfl (fun H locs hP hD hS => ?_)
  refine lv_istore_n (lv' := [(2, .int x16.1), (1, .int x11.1), (0, .ref a_t)]) hx hb dX2_readPaper_19 rfl hl (by decide) rfl (fun ls hl => ?_)
  refine lv_aload_n hx hb dX2_readPaper_20 rfl (lv_at hl 2 rfl) ?_
  refine lv_iload_n hx hb dX2_readPaper_21 rfl (lv_at hl 0 rfl) ?_
  obtain ⟨x22, h22, hM⟩ := bind_e hM
  refine muV (As := [.int x16.1]) (rest := []) (st2 := [.int x22.1]) (nw := [(a_t, .inr (2, [.ref a_t_letters, .int x22.2.1, .ref a_t_papers, .ref a_t_grants, .ref a_t_routes, .int x22.2.2.1, .int x22.2.2.2])), (a_t_papers, .inr (1, [.int s_t_papers.1, .int s_t_papers.2.1, .ref a_t_papers_cells, .int s_t_papers.2.2])), (a_t_letters, .inl (cC, 99, .inl s_t_letters)), (a_t_papers_cells, .inl (cI, s_t_papers_cells.1, .inl s_t_papers_cells.2))]) ⟨hx, hb, hml, hown, hU⟩ hE (okX2_readLength a_t a_t_letters a_t_papers a_t_grants a_t_routes x16.2 s_t_letters x16.1 x22 h22) lk_X2_71 hP hD hS hA [0, 2] rfl rfl rfl rfl rfl rfl hl.1 rfl (Nat.le_of_ble_eq_true rfl) ⟨Nat.le_of_ble_eq_true rfl, Nat.le_of_ble_eq_true rfl⟩ dX2_readPaper_22 ⟨Nat.le_refl _, Nat.le_refl _⟩ rfl rfl rfl rfl (fun H locs hP hD hS => ?_)
  refine lv_istore_n (lv' := [(3, .int x22.1), (2, .int x16.1), (1, .int x11.1), (0, .ref a_t)]) hx hb dX2_readPaper_25 rfl hl (by decide) rfl (fun ls hl => ?_)
  refine lv_aload_n hx hb dX2_readPaper_26 rfl (lv_at hl 3 rfl) ?_
  refine lv_iconst (v := (0 : Int32)) hx hb dX2_readPaper_27 (by decide) ?_
  refine lv_bipush (v := (9 : Int32)) hx hb dX2_readPaper_28 (by decide) ?_
  obtain ⟨x30, h30, hM⟩ := bind_e hM
  refine muV (As := [.int (0 : Int32), .int (9 : Int32)]) (rest := []) (st2 := [.int x30.1]) (nw := [(a_t, .inr (2, [.ref a_t_letters, .int x30.2.1, .ref a_t_papers, .ref a_t_grants, .ref a_t_routes, .int x30.2.2.1, .int x30.2.2.2])), (a_t_papers, .inr (1, [.int s_t_papers.1, .int s_t_papers.2.1, .ref a_t_papers_cells, .int s_t_papers.2.2])), (a_t_letters, .inl (cC, 99, .inl s_t_letters)), (a_t_papers_cells, .inl (cI, s_t_papers_cells.1, .inl s_t_papers_cells.2))]) ⟨hx, hb, hml, hown, hU⟩ hE (okX2_readFigure a_t a_t_letters a_t_papers a_t_grants a_t_routes x22.2 s_t_letters (0 : Int32) (9 : Int32) x30 h30) lk_X2_63 hP hD hS hA [0, 2] rfl rfl rfl rfl rfl rfl hl.1 rfl (Nat.le_of_ble_eq_true rfl) ⟨Nat.le_of_ble_eq_true rfl, Nat.le_of_ble_eq_true rfl⟩ dX2_readPaper_30 ⟨Nat.le_refl _, Nat.le_refl _⟩ rfl rfl rfl rfl (fun H locs hP hD hS => ?_)
  refine lv_istore (lv' := [(4, .int x30.1), (3, .int x22.1), (2, .int x16.1), (1, .int x11.1), (0, .ref a_t)]) hx hb dX2_readPaper_33 hl (by decide) rfl (fun ls hl => ?_)
  refine lv_aload_n hx hb dX2_readPaper_35 rfl (lv_at hl 4 rfl) ?_
  refine va_get (D := (dC, dI)) (ci := 2) (v := .int x30.2.2.2) (C := RX2) (T := TX2) (N := 7) hx hb hU inlX2 hown hE.1 hP 0 rfl rfl 6 (by decide) (hU _ u_6_14) (fun _ h9 => h9) rfl dX2_readPaper_36 ?_
  refine lv_bipush (v := (-9 : Int32)) hx hb dX2_readPaper_39 (by decide) ?_
  refine lv_icmp_ne (tgt := 58) hx hb dX2_readPaper_41 (by decide) (fun c41 => ?_) (fun c41 => ?_)
  · have hM := ite_f c41 hM
    cases hM
    exact rt _ _ _ _ hP hS dX2_readPaper_58 rfl
  · have hM := ite_t c41 hM
    refine lv_aload_n hx hb dX2_readPaper_44 rfl (lv_at hl 4 rfl) ?_
    refine va_get (D := (dC, dI)) (ci := 2) (v := .ref a_t_papers) (C := RX2) (T := TX2) (N := 7) hx hb hU inlX2 hown hE.1 hP 0 rfl rfl 2 (by decide) (hU _ u_3_10) (fun _ h9 => h9) rfl dX2_readPaper_45 ?_
    refine lv_iload_n hx hb dX2_readPaper_48 rfl (lv_at hl 2 rfl) ?_
    refine lv_iload_n hx hb dX2_readPaper_49 rfl (lv_at hl 1 rfl) ?_
    refine lv_iload_n hx hb dX2_readPaper_50 rfl (lv_at hl 3 rfl) ?_
    refine lv_iload hx hb dX2_readPaper_51 (lv_at hl 0 rfl) ?_
    refine lv_iconst (v := (0 : Int32)) hx hb dX2_readPaper_53 (by decide) ?_
    obtain ⟨x54, h54, hM⟩ := bind_e hM
    refine muV (As := [.int x16.1, .int x22.1, .int x11.1, .int x30.1, .int (0 : Int32)]) (rest := []) (st2 := [.int x54.1]) (nw := [(a_t, .inr (2, [.ref a_t_letters, .int x30.2.1, .ref a_t_papers, .ref a_t_grants, .ref a_t_routes, .int x30.2.2.1, .int x30.2.2.2])), (a_t_papers, .inr (1, [.int x54.2.1.1, .int x54.2.1.2.1, .ref a_t_papers_cells, .int x54.2.1.2.2])), (a_t_letters, .inl (cC, 99, .inl s_t_letters)), (a_t_papers_cells, .inl (cI, x54.2.2.1, .inl x54.2.2.2))]) ⟨hx, hb, hml, hown, hU⟩ hE (okX1_addRange a_t_papers a_t_papers_cells s_t_papers s_t_papers_cells x16.1 x22.1 x11.1 x30.1 (0 : Int32) x54 h54) lk_X2_37 hP hD hS hA [1, 3] rfl rfl rfl rfl rfl rfl hl.1 rfl (Nat.le_of_ble_eq_true rfl) ⟨Nat.le_of_ble_eq_true rfl, Nat.le_of_ble_eq_true rfl⟩ dX2_readPaper_54 ⟨Nat.le_refl _, Nat.le_refl _⟩ rfl rfl rfl rfl (fun H locs hP hD hS => ?_)
    refine lv_pop hx hb dX2_readPaper_57 rfl ?_
    cases hM
    exact rt _ _ _ _ hP hS dX2_readPaper_58 rfl
noncomputable def mX2_readRoute (s_t : Int32 × Int32 × Int32) (s_t_letters : Nat → Int32) (s_t_routes : Int32 × Int32 × Int32) (s_t_routes_cells : Ar) : Option ((Int32 × Int32 × Int32) × (Int32 × Int32 × Int32) × Ar) := (mX2_readStart s_t s_t_letters).bind (fun x1 => (mX2_readLength x1.2 s_t_letters x1.1).bind (fun x7 => (mX2_readFigure x7.2 s_t_letters (0 : Int32) (5 : Int32)).bind (fun x14 => (if x14.2.2.2 = (-9 : Int32) then (mX1_addRange s_t_routes s_t_routes_cells x1.1 x7.1 x14.1 (0 : Int32) (0 : Int32)).bind (fun x36 => some (x14.2, x36.2.1, x36.2.2)) else some (x14.2, s_t_routes, s_t_routes_cells)))))
set_option maxHeartbeats 4000000 in
set_option maxRecDepth 100000 in
theorem okX2_readRoute {l : Launch} {dC : Nat → ClassId} {dI : Nat → Nat → Nat} {cI cC cZ : ClassId} (a_t a_t_letters a_t_papers a_t_grants a_t_routes a_t_routes_cells : Nat) (s_t : Int32 × Int32 × Int32) (s_t_letters : Nat → Int32) (s_t_routes : Int32 × Int32 × Int32) (s_t_routes_cells : Ar) (res : (Int32 × Int32 × Int32) × (Int32 × Int32 × Int32) × Ar) (hM : mX2_readRoute s_t s_t_letters s_t_routes s_t_routes_cells = some res) : Mu l yX2_readRoute cX2_readRoute 4 none 3 87 (dC, dI) cI cC cZ [(a_t, .inr (2, [.ref a_t_letters, .int s_t.1, .ref a_t_papers, .ref a_t_grants, .ref a_t_routes, .int s_t.2.1, .int s_t.2.2])), (a_t_letters, .inl (cC, 99, .inl s_t_letters)), (a_t_routes, .inr (1, [.int s_t_routes.1, .int s_t_routes.2.1, .ref a_t_routes_cells, .int s_t_routes.2.2])), (a_t_routes_cells, .inl (cI, s_t_routes_cells.1, .inl s_t_routes_cells.2))] [(a_t, .inr (2, [.ref a_t_letters, .int res.1.1, .ref a_t_papers, .ref a_t_grants, .ref a_t_routes, .int res.1.2.1, .int res.1.2.2])), (a_t_letters, .inl (cC, 99, .inl s_t_letters)), (a_t_routes, .inr (1, [.int res.2.1.1, .int res.2.1.2.1, .ref a_t_routes_cells, .int res.2.1.2.2])), (a_t_routes_cells, .inl (cI, res.2.2.1, .inl res.2.2.2))] [.ref a_t] none := by
  refine Mu.ofV (by decide) (Nat.le_of_ble_eq_true rfl) [(0, .ref a_t)] rfl ?_
  intro p e s m args below meth c ls Q A hx hb hml hown hU hE hP hD hS hA rt hl
  have hown : s.vm.findClass RX2 = some m.cls := hown
  unfold mX2_readRoute at hM
  refine lv_aload_n hx hb dX2_readRoute_0 rfl (lv_at hl 0 rfl) ?_
  obtain ⟨x1, h1, hM⟩ := bind_e hM
  refine muV (As := []) (rest := []) (st2 := [.int x1.1]) (nw := [(a_t, .inr (2, [.ref a_t_letters, .int x1.2.1, .ref a_t_papers, .ref a_t_grants, .ref a_t_routes, .int x1.2.2.1, .int x1.2.2.2])), (a_t_letters, .inl (cC, 99, .inl s_t_letters)), (a_t_routes, .inr (1, [.int s_t_routes.1, .int s_t_routes.2.1, .ref a_t_routes_cells, .int s_t_routes.2.2])), (a_t_routes_cells, .inl (cI, s_t_routes_cells.1, .inl s_t_routes_cells.2))]) ⟨hx, hb, hml, hown, hU⟩ hE (okX2_readStart a_t a_t_letters a_t_papers a_t_grants a_t_routes s_t s_t_letters x1 h1) lk_X2_67 hP hD hS hA [0, 1] rfl rfl rfl rfl rfl rfl hl.1 rfl (Nat.le_of_ble_eq_true rfl) ⟨Nat.le_of_ble_eq_true rfl, Nat.le_of_ble_eq_true rfl⟩ dX2_readRoute_1 ⟨Nat.le_refl _, Nat.le_refl _⟩ rfl rfl rfl rfl (fun H locs hP hD hS => ?_)
  refine lv_istore_n (lv' := [(1, .int x1.1), (0, .ref a_t)]) hx hb dX2_readRoute_4 rfl hl (by decide) rfl (fun ls hl => ?_)
  refine lv_aload_n hx hb dX2_readRoute_5 rfl (lv_at hl 1 rfl) ?_
  refine lv_iload_n hx hb dX2_readRoute_6 rfl (lv_at hl 0 rfl) ?_
  obtain ⟨x7, h7, hM⟩ := bind_e hM
  refine muV (As := [.int x1.1]) (rest := []) (st2 := [.int x7.1]) (nw := [(a_t, .inr (2, [.ref a_t_letters, .int x7.2.1, .ref a_t_papers, .ref a_t_grants, .ref a_t_routes, .int x7.2.2.1, .int x7.2.2.2])), (a_t_letters, .inl (cC, 99, .inl s_t_letters)), (a_t_routes, .inr (1, [.int s_t_routes.1, .int s_t_routes.2.1, .ref a_t_routes_cells, .int s_t_routes.2.2])), (a_t_routes_cells, .inl (cI, s_t_routes_cells.1, .inl s_t_routes_cells.2))]) ⟨hx, hb, hml, hown, hU⟩ hE (okX2_readLength a_t a_t_letters a_t_papers a_t_grants a_t_routes x1.2 s_t_letters x1.1 x7 h7) lk_X2_71 hP hD hS hA [0, 1] rfl rfl rfl rfl rfl rfl hl.1 rfl (Nat.le_of_ble_eq_true rfl) ⟨Nat.le_of_ble_eq_true rfl, Nat.le_of_ble_eq_true rfl⟩ dX2_readRoute_7 ⟨Nat.le_refl _, Nat.le_refl _⟩ rfl rfl rfl rfl (fun H locs hP hD hS => ?_)
  refine lv_istore_n (lv' := [(2, .int x7.1), (1, .int x1.1), (0, .ref a_t)]) hx hb dX2_readRoute_10 rfl hl (by decide) rfl (fun ls hl => ?_)
  refine lv_aload_n hx hb dX2_readRoute_11 rfl (lv_at hl 2 rfl) ?_
  refine lv_iconst (v := (0 : Int32)) hx hb dX2_readRoute_12 (by decide) ?_
  refine lv_iconst (v := (5 : Int32)) hx hb dX2_readRoute_13 (by decide) ?_
  obtain ⟨x14, h14, hM⟩ := bind_e hM
  refine muV (As := [.int (0 : Int32), .int (5 : Int32)]) (rest := []) (st2 := [.int x14.1]) (nw := [(a_t, .inr (2, [.ref a_t_letters, .int x14.2.1, .ref a_t_papers, .ref a_t_grants, .ref a_t_routes, .int x14.2.2.1, .int x14.2.2.2])), (a_t_letters, .inl (cC, 99, .inl s_t_letters)), (a_t_routes, .inr (1, [.int s_t_routes.1, .int s_t_routes.2.1, .ref a_t_routes_cells, .int s_t_routes.2.2])), (a_t_routes_cells, .inl (cI, s_t_routes_cells.1, .inl s_t_routes_cells.2))]) ⟨hx, hb, hml, hown, hU⟩ hE (okX2_readFigure a_t a_t_letters a_t_papers a_t_grants a_t_routes x7.2 s_t_letters (0 : Int32) (5 : Int32) x14 h14) lk_X2_63 hP hD hS hA [0, 1] rfl rfl rfl rfl rfl rfl hl.1 rfl (Nat.le_of_ble_eq_true rfl) ⟨Nat.le_of_ble_eq_true rfl, Nat.le_of_ble_eq_true rfl⟩ dX2_readRoute_14 ⟨Nat.le_refl _, Nat.le_refl _⟩ rfl rfl rfl rfl (fun H locs hP hD hS => ?_)
  refine lv_istore_n (lv' := [(3, .int x14.1), (2, .int x7.1), (1, .int x1.1), (0, .ref a_t)]) hx hb dX2_readRoute_17 rfl hl (by decide) rfl (fun ls hl => ?_)
  refine lv_aload_n hx hb dX2_readRoute_18 rfl (lv_at hl 3 rfl) ?_
  refine va_get (D := (dC, dI)) (ci := 2) (v := .int x14.2.2.2) (C := RX2) (T := TX2) (N := 7) hx hb hU inlX2 hown hE.1 hP 0 rfl rfl 6 (by decide) (hU _ u_6_14) (fun _ h9 => h9) rfl dX2_readRoute_19 ?_
  refine lv_bipush (v := (-9 : Int32)) hx hb dX2_readRoute_22 (by decide) ?_
  refine lv_icmp_ne (tgt := 40) hx hb dX2_readRoute_24 (by decide) (fun c24 => ?_) (fun c24 => ?_)
  · have hM := ite_f c24 hM
    cases hM
    exact rt _ _ _ _ hP hS dX2_readRoute_40 rfl
  · have hM := ite_t c24 hM
    refine lv_aload_n hx hb dX2_readRoute_27 rfl (lv_at hl 3 rfl) ?_
    refine va_get (D := (dC, dI)) (ci := 2) (v := .ref a_t_routes) (C := RX2) (T := TX2) (N := 7) hx hb hU inlX2 hown hE.1 hP 0 rfl rfl 4 (by decide) (hU _ u_3_12) (fun _ h9 => h9) rfl dX2_readRoute_28 ?_
    refine lv_iload_n hx hb dX2_readRoute_31 rfl (lv_at hl 2 rfl) ?_
    refine lv_iload_n hx hb dX2_readRoute_32 rfl (lv_at hl 1 rfl) ?_
    refine lv_iload_n hx hb dX2_readRoute_33 rfl (lv_at hl 0 rfl) ?_
    refine lv_iconst (v := (0 : Int32)) hx hb dX2_readRoute_34 (by decide) ?_
    refine lv_iconst (v := (0 : Int32)) hx hb dX2_readRoute_35 (by decide) ?_
    obtain ⟨x36, h36, hM⟩ := bind_e hM
    refine muV (As := [.int x1.1, .int x7.1, .int x14.1, .int (0 : Int32), .int (0 : Int32)]) (rest := []) (st2 := [.int x36.1]) (nw := [(a_t, .inr (2, [.ref a_t_letters, .int x14.2.1, .ref a_t_papers, .ref a_t_grants, .ref a_t_routes, .int x14.2.2.1, .int x14.2.2.2])), (a_t_letters, .inl (cC, 99, .inl s_t_letters)), (a_t_routes, .inr (1, [.int x36.2.1.1, .int x36.2.1.2.1, .ref a_t_routes_cells, .int x36.2.1.2.2])), (a_t_routes_cells, .inl (cI, x36.2.2.1, .inl x36.2.2.2))]) ⟨hx, hb, hml, hown, hU⟩ hE (okX1_addRange a_t_routes a_t_routes_cells s_t_routes s_t_routes_cells x1.1 x7.1 x14.1 (0 : Int32) (0 : Int32) x36 h36) lk_X2_37 hP hD hS hA [2, 3] rfl rfl rfl rfl rfl rfl hl.1 rfl (Nat.le_of_ble_eq_true rfl) ⟨Nat.le_of_ble_eq_true rfl, Nat.le_of_ble_eq_true rfl⟩ dX2_readRoute_36 ⟨Nat.le_refl _, Nat.le_refl _⟩ rfl rfl rfl rfl (fun H locs hP hD hS => ?_)
    refine lv_pop hx hb dX2_readRoute_39 rfl ?_
    cases hM
    exact rt _ _ _ _ hP hS dX2_readRoute_40 rfl
noncomputable def mX2_readPart_b79 (s_t : Int32 × Int32 × Int32) (s_t_letters : Nat → Int32) (s_t_routes : Int32 × Int32 × Int32) (s_t_routes_cells : Ar) (s_t_grants : Int32 × Int32 × Int32) (s_t_papers : Int32 × Int32 × Int32) (s_t_grants_cells : Ar) (s_t_papers_cells : Ar) (v1 : Int32) : Option ((Int32 × Int32 × Int32) × (Int32 × Int32 × Int32) × Ar × (Int32 × Int32 × Int32) × (Int32 × Int32 × Int32) × Ar × Ar) := (if v1 = (114 : Int32) then (if (6 : Int32) ≤ s_t_routes.2.2 then some ((s_t.1, s_t.2.1, s_t.2.1), s_t_routes, s_t_routes_cells, s_t_grants, s_t_papers, s_t_grants_cells, s_t_papers_cells) else (mX2_readRoute (s_t.1, (s_t.2.1 + (1 : Int32)), s_t.2.2) s_t_letters s_t_routes s_t_routes_cells).bind (fun x108 => some (x108.1, x108.2.1, x108.2.2, s_t_grants, s_t_papers, s_t_grants_cells, s_t_papers_cells))) else some ((s_t.1, s_t.2.1, s_t.2.1), s_t_routes, s_t_routes_cells, s_t_grants, s_t_papers, s_t_grants_cells, s_t_papers_cells))
noncomputable def mX2_readPart_b44 (s_t : Int32 × Int32 × Int32) (s_t_letters : Nat → Int32) (s_t_routes : Int32 × Int32 × Int32) (s_t_routes_cells : Ar) (s_t_grants : Int32 × Int32 × Int32) (s_t_papers : Int32 × Int32 × Int32) (s_t_grants_cells : Ar) (s_t_papers_cells : Ar) (v1 : Int32) : Option ((Int32 × Int32 × Int32) × (Int32 × Int32 × Int32) × Ar × (Int32 × Int32 × Int32) × (Int32 × Int32 × Int32) × Ar × Ar) := (if v1 = (103 : Int32) then (if (8 : Int32) ≤ s_t_grants.2.2 then mX2_readPart_b79 s_t s_t_letters s_t_routes s_t_routes_cells s_t_grants s_t_papers s_t_grants_cells s_t_papers_cells v1 else (mX2_readGrant (s_t.1, (s_t.2.1 + (1 : Int32)), s_t.2.2) s_t_letters s_t_papers s_t_grants s_t_grants_cells).bind (fun x73 => some (x73.1, s_t_routes, s_t_routes_cells, x73.2.1, s_t_papers, x73.2.2, s_t_papers_cells))) else mX2_readPart_b79 s_t s_t_letters s_t_routes s_t_routes_cells s_t_grants s_t_papers s_t_grants_cells s_t_papers_cells v1)
noncomputable def mX2_readPart (s_t : Int32 × Int32 × Int32) (s_t_letters : Nat → Int32) (s_t_routes : Int32 × Int32 × Int32) (s_t_routes_cells : Ar) (s_t_grants : Int32 × Int32 × Int32) (s_t_papers : Int32 × Int32 × Int32) (s_t_grants_cells : Ar) (s_t_papers_cells : Ar) : Option ((Int32 × Int32 × Int32) × (Int32 × Int32 × Int32) × Ar × (Int32 × Int32 × Int32) × (Int32 × Int32 × Int32) × Ar × Ar) := (mX2_letterAt s_t s_t_letters s_t.2.1).bind (fun x5 => (if x5 = (112 : Int32) then (if (6 : Int32) ≤ s_t_papers.2.2 then mX2_readPart_b44 s_t s_t_letters s_t_routes s_t_routes_cells s_t_grants s_t_papers s_t_grants_cells s_t_papers_cells x5 else (mX2_readPaper (s_t.1, (s_t.2.1 + (1 : Int32)), s_t.2.2) s_t_papers s_t_letters s_t_papers_cells).bind (fun x38 => some (x38.1, s_t_routes, s_t_routes_cells, s_t_grants, x38.2.1, s_t_grants_cells, x38.2.2))) else mX2_readPart_b44 s_t s_t_letters s_t_routes s_t_routes_cells s_t_grants s_t_papers s_t_grants_cells s_t_papers_cells x5))
set_option maxHeartbeats 4000000 in
set_option maxRecDepth 100000 in
theorem okX2_readPart {l : Launch} {dC : Nat → ClassId} {dI : Nat → Nat → Nat} {cI cC cZ : ClassId} (a_t a_t_letters a_t_papers a_t_grants a_t_routes a_t_routes_cells a_t_grants_cells a_t_papers_cells : Nat) (s_t : Int32 × Int32 × Int32) (s_t_letters : Nat → Int32) (s_t_routes : Int32 × Int32 × Int32) (s_t_routes_cells : Ar) (s_t_grants : Int32 × Int32 × Int32) (s_t_papers : Int32 × Int32 × Int32) (s_t_grants_cells : Ar) (s_t_papers_cells : Ar) (res : (Int32 × Int32 × Int32) × (Int32 × Int32 × Int32) × Ar × (Int32 × Int32 × Int32) × (Int32 × Int32 × Int32) × Ar × Ar) (hM : mX2_readPart s_t s_t_letters s_t_routes s_t_routes_cells s_t_grants s_t_papers s_t_grants_cells s_t_papers_cells = some res) : Mu l yX2_readPart cX2_readPart 2 none 4 112 (dC, dI) cI cC cZ [(a_t, .inr (2, [.ref a_t_letters, .int s_t.1, .ref a_t_papers, .ref a_t_grants, .ref a_t_routes, .int s_t.2.1, .int s_t.2.2])), (a_t_letters, .inl (cC, 99, .inl s_t_letters)), (a_t_routes, .inr (1, [.int s_t_routes.1, .int s_t_routes.2.1, .ref a_t_routes_cells, .int s_t_routes.2.2])), (a_t_routes_cells, .inl (cI, s_t_routes_cells.1, .inl s_t_routes_cells.2)), (a_t_grants, .inr (1, [.int s_t_grants.1, .int s_t_grants.2.1, .ref a_t_grants_cells, .int s_t_grants.2.2])), (a_t_papers, .inr (1, [.int s_t_papers.1, .int s_t_papers.2.1, .ref a_t_papers_cells, .int s_t_papers.2.2])), (a_t_grants_cells, .inl (cI, s_t_grants_cells.1, .inl s_t_grants_cells.2)), (a_t_papers_cells, .inl (cI, s_t_papers_cells.1, .inl s_t_papers_cells.2))] [(a_t, .inr (2, [.ref a_t_letters, .int res.1.1, .ref a_t_papers, .ref a_t_grants, .ref a_t_routes, .int res.1.2.1, .int res.1.2.2])), (a_t_letters, .inl (cC, 99, .inl s_t_letters)), (a_t_routes, .inr (1, [.int res.2.1.1, .int res.2.1.2.1, .ref a_t_routes_cells, .int res.2.1.2.2])), (a_t_routes_cells, .inl (cI, res.2.2.1.1, .inl res.2.2.1.2)), (a_t_grants, .inr (1, [.int res.2.2.2.1.1, .int res.2.2.2.1.2.1, .ref a_t_grants_cells, .int res.2.2.2.1.2.2])), (a_t_papers, .inr (1, [.int res.2.2.2.2.1.1, .int res.2.2.2.2.1.2.1, .ref a_t_papers_cells, .int res.2.2.2.2.1.2.2])), (a_t_grants_cells, .inl (cI, res.2.2.2.2.2.1.1, .inl res.2.2.2.2.2.1.2)), (a_t_papers_cells, .inl (cI, res.2.2.2.2.2.2.1, .inl res.2.2.2.2.2.2.2))] [.ref a_t] none := by
  refine Mu.ofV (by decide) (Nat.le_of_ble_eq_true rfl) [(0, .ref a_t)] rfl ?_
  intro p e s m args below meth c ls Q A hx hb hml hown hU hE hP hD hS hA rt hl
  have hown : s.vm.findClass RX2 = some m.cls := hown
  unfold mX2_readPart at hM
  refine lv_aload_n hx hb dX2_readPart_0 rfl (lv_at hl 0 rfl) ?_
  refine lv_aload_n hx hb dX2_readPart_1 rfl (lv_at hl 0 rfl) ?_
  refine va_get (D := (dC, dI)) (ci := 2) (v := .int s_t.2.1) (C := RX2) (T := TX2) (N := 7) hx hb hU inlX2 hown hE.1 hP 0 rfl rfl 5 (by decide) (hU _ u_6_15) (fun _ h9 => h9) rfl dX2_readPart_2 ?_
  obtain ⟨x5, h5, hM⟩ := bind_e hM
  refine rdV (As := [.int s_t.2.1]) (rest := []) (st2 := [.int x5]) ⟨hx, hb, hml, hown, hU⟩ hE (okX2_letterAt a_t a_t_letters a_t_papers a_t_grants a_t_routes s_t s_t_letters s_t.2.1 x5 h5) lk_X2_44 (hP.sub [0, 1] rfl) rfl rfl rfl hl.1 rfl (Nat.le_of_ble_eq_true rfl) ⟨Nat.le_of_ble_eq_true rfl, Nat.le_of_ble_eq_true rfl⟩ dX2_readPart_5 ⟨Nat.le_refl _, Nat.le_refl _⟩ rfl ?_
  refine lv_istore_n (lv' := [(1, .int x5), (0, .ref a_t)]) hx hb dX2_readPart_8 rfl hl (by decide) rfl (fun ls hl => ?_)
  refine lv_iload_n hx hb dX2_readPart_9 rfl (lv_at hl 0 rfl) ?_
  refine lv_bipush (v := (112 : Int32)) hx hb dX2_readPart_10 (by decide) ?_
  have w_44 : mX2_readPart_b44 s_t s_t_letters s_t_routes s_t_routes_cells s_t_grants s_t_papers s_t_grants_cells s_t_papers_cells x5 = some res → ∀ (ls : Array Slot) (H : Heap) (locs : List Loc), va_P (dC, dI) vwCl [(a_t, .inr (2, [.ref a_t_letters, .int s_t.1, .ref a_t_papers, .ref a_t_grants, .ref a_t_routes, .int s_t.2.1, .int s_t.2.2])), (a_t_letters, .inl (cC, 99, .inl s_t_letters)), (a_t_routes, .inr (1, [.int s_t_routes.1, .int s_t_routes.2.1, .ref a_t_routes_cells, .int s_t_routes.2.2])), (a_t_routes_cells, .inl (cI, s_t_routes_cells.1, .inl s_t_routes_cells.2)), (a_t_grants, .inr (1, [.int s_t_grants.1, .int s_t_grants.2.1, .ref a_t_grants_cells, .int s_t_grants.2.2])), (a_t_papers, .inr (1, [.int s_t_papers.1, .int s_t_papers.2.1, .ref a_t_papers_cells, .int s_t_papers.2.2])), (a_t_grants_cells, .inl (cI, s_t_grants_cells.1, .inl s_t_grants_cells.2)), (a_t_papers_cells, .inl (cI, s_t_papers_cells.1, .inl s_t_papers_cells.2))] H → va_D A [(a_t, .inr (2, [.ref a_t_letters, .int s_t.1, .ref a_t_papers, .ref a_t_grants, .ref a_t_routes, .int s_t.2.1, .int s_t.2.2])), (a_t_letters, .inl (cC, 99, .inl s_t_letters)), (a_t_routes, .inr (1, [.int s_t_routes.1, .int s_t_routes.2.1, .ref a_t_routes_cells, .int s_t_routes.2.2])), (a_t_routes_cells, .inl (cI, s_t_routes_cells.1, .inl s_t_routes_cells.2)), (a_t_grants, .inr (1, [.int s_t_grants.1, .int s_t_grants.2.1, .ref a_t_grants_cells, .int s_t_grants.2.2])), (a_t_papers, .inr (1, [.int s_t_papers.1, .int s_t_papers.2.1, .ref a_t_papers_cells, .int s_t_papers.2.2])), (a_t_grants_cells, .inl (cI, s_t_grants_cells.1, .inl s_t_grants_cells.2)), (a_t_papers_cells, .inl (cI, s_t_papers_cells.1, .inl s_t_papers_cells.2))] → va_S A s.heap H locs → lv_has ls 2 [(0, .ref a_t), (1, .int x5)] → W p l e (RM 4 112) s m args below meth c H locs 0 0 Q (F0 m 44 ls []) := by
    intro  hM ls H locs hP hD hS hl
    unfold mX2_readPart_b44 at hM
    refine lv_iload_n hx hb dX2_readPart_44 rfl (lv_at hl 1 rfl) ?_
    refine lv_bipush (v := (103 : Int32)) hx hb dX2_readPart_45 (by decide) ?_
    have w_79 : mX2_readPart_b79 s_t s_t_letters s_t_routes s_t_routes_cells s_t_grants s_t_papers s_t_grants_cells s_t_papers_cells x5 = some res → ∀ (ls : Array Slot) (H : Heap) (locs : List Loc), va_P (dC, dI) vwCl [(a_t, .inr (2, [.ref a_t_letters, .int s_t.1, .ref a_t_papers, .ref a_t_grants, .ref a_t_routes, .int s_t.2.1, .int s_t.2.2])), (a_t_letters, .inl (cC, 99, .inl s_t_letters)), (a_t_routes, .inr (1, [.int s_t_routes.1, .int s_t_routes.2.1, .ref a_t_routes_cells, .int s_t_routes.2.2])), (a_t_routes_cells, .inl (cI, s_t_routes_cells.1, .inl s_t_routes_cells.2)), (a_t_grants, .inr (1, [.int s_t_grants.1, .int s_t_grants.2.1, .ref a_t_grants_cells, .int s_t_grants.2.2])), (a_t_papers, .inr (1, [.int s_t_papers.1, .int s_t_papers.2.1, .ref a_t_papers_cells, .int s_t_papers.2.2])), (a_t_grants_cells, .inl (cI, s_t_grants_cells.1, .inl s_t_grants_cells.2)), (a_t_papers_cells, .inl (cI, s_t_papers_cells.1, .inl s_t_papers_cells.2))] H → va_D A [(a_t, .inr (2, [.ref a_t_letters, .int s_t.1, .ref a_t_papers, .ref a_t_grants, .ref a_t_routes, .int s_t.2.1, .int s_t.2.2])), (a_t_letters, .inl (cC, 99, .inl s_t_letters)), (a_t_routes, .inr (1, [.int s_t_routes.1, .int s_t_routes.2.1, .ref a_t_routes_cells, .int s_t_routes.2.2])), (a_t_routes_cells, .inl (cI, s_t_routes_cells.1, .inl s_t_routes_cells.2)), (a_t_grants, .inr (1, [.int s_t_grants.1, .int s_t_grants.2.1, .ref a_t_grants_cells, .int s_t_grants.2.2])), (a_t_papers, .inr (1, [.int s_t_papers.1, .int s_t_papers.2.1, .ref a_t_papers_cells, .int s_t_papers.2.2])), (a_t_grants_cells, .inl (cI, s_t_grants_cells.1, .inl s_t_grants_cells.2)), (a_t_papers_cells, .inl (cI, s_t_papers_cells.1, .inl s_t_papers_cells.2))] → va_S A s.heap H locs → lv_has ls 2 [(0, .ref a_t), (1, .int x5)] → W p l e (RM 4 112) s m args below meth c H locs 0 0 Q (F0 m 79 ls []) := by
      intro  hM ls H locs hP hD hS hl
      unfold mX2_readPart_b79 at hM
      refine lv_iload_n hx hb dX2_readPart_79 rfl (lv_at hl 1 rfl) ?_
      refine lv_bipush (v := (114 : Int32)) hx hb dX2_readPart_80 (by decide) ?_
      refine lv_icmp_ne (tgt := 114) hx hb dX2_readPart_82 (by decide) (fun c82 => ?_) (fun c82 => ?_)
      · have hM := ite_f c82 hM
        refine lv_aload_n hx hb dX2_readPart_114 rfl (lv_at hl 0 rfl) ?_
        refine lv_aload_n hx hb dX2_readPart_115 rfl (lv_at hl 0 rfl) ?_
        refine va_get (D := (dC, dI)) (ci := 2) (v := .int s_t.2.1) (C := RX2) (T := TX2) (N := 7) hx hb hU inlX2 hown hE.1 hP 0 rfl rfl 5 (by decide) (hU _ u_6_15) (fun _ h9 => h9) rfl dX2_readPart_116 ?_
        refine va_put (D := (dC, dI)) (ci := 2) (v := .int s_t.2.1) (ty := .int) (C := RX2) (T := TX2) (N := 7) hx hb hU inlX2 tyX2 tyX2_ok nmX2 hown hE.1 hP hD hS 0 rfl rfl 6 (by decide) (hU _ u_6_14) (fun _ h9 => h9) rfl (tyX2_ok 6 (by decide)) rfl rfl (Nat.le_of_ble_eq_true rfl) dX2_readPart_119 (fun H locs hP hD hS => ?_)
        have hP : va_P (dC, dI) vwCl [(a_t, .inr (2, [.ref a_t_letters, .int s_t.1, .ref a_t_papers, .ref a_t_grants, .ref a_t_routes, .int s_t.2.1, .int s_t.2.1])), (a_t_letters, .inl (cC, 99, .inl s_t_letters)), (a_t_routes, .inr (1, [.int s_t_routes.1, .int s_t_routes.2.1, .ref a_t_routes_cells, .int s_t_routes.2.2])), (a_t_routes_cells, .inl (cI, s_t_routes_cells.1, .inl s_t_routes_cells.2)), (a_t_grants, .inr (1, [.int s_t_grants.1, .int s_t_grants.2.1, .ref a_t_grants_cells, .int s_t_grants.2.2])), (a_t_papers, .inr (1, [.int s_t_papers.1, .int s_t_papers.2.1, .ref a_t_papers_cells, .int s_t_papers.2.2])), (a_t_grants_cells, .inl (cI, s_t_grants_cells.1, .inl s_t_grants_cells.2)), (a_t_papers_cells, .inl (cI, s_t_papers_cells.1, .inl s_t_papers_cells.2))] H := hP
        have hD : va_D A [(a_t, .inr (2, [.ref a_t_letters, .int s_t.1, .ref a_t_papers, .ref a_t_grants, .ref a_t_routes, .int s_t.2.1, .int s_t.2.1])), (a_t_letters, .inl (cC, 99, .inl s_t_letters)), (a_t_routes, .inr (1, [.int s_t_routes.1, .int s_t_routes.2.1, .ref a_t_routes_cells, .int s_t_routes.2.2])), (a_t_routes_cells, .inl (cI, s_t_routes_cells.1, .inl s_t_routes_cells.2)), (a_t_grants, .inr (1, [.int s_t_grants.1, .int s_t_grants.2.1, .ref a_t_grants_cells, .int s_t_grants.2.2])), (a_t_papers, .inr (1, [.int s_t_papers.1, .int s_t_papers.2.1, .ref a_t_papers_cells, .int s_t_papers.2.2])), (a_t_grants_cells, .inl (cI, s_t_grants_cells.1, .inl s_t_grants_cells.2)), (a_t_papers_cells, .inl (cI, s_t_papers_cells.1, .inl s_t_papers_cells.2))] := hD
        cases hM
        exact rt _ _ _ _ hP hS dX2_readPart_122 rfl
      · have hM := ite_t c82 hM
        refine lv_aload_n hx hb dX2_readPart_85 rfl (lv_at hl 0 rfl) ?_
        refine va_get (D := (dC, dI)) (ci := 2) (v := .ref a_t_routes) (C := RX2) (T := TX2) (N := 7) hx hb hU inlX2 hown hE.1 hP 0 rfl rfl 4 (by decide) (hU _ u_3_12) (fun _ h9 => h9) rfl dX2_readPart_86 ?_
        refine va_get (D := (dC, dI)) (ci := 1) (v := .int s_t_routes.2.2) (C := RX1) (T := TX1) (N := 4) hx hb hU inlX1 hown hE.1 hP 2 rfl rfl 3 (by decide) (hU _ u_6_13) (fun _ h9 => h9) rfl dX2_readPart_89 ?_
        refine lv_bipush (v := (6 : Int32)) hx hb dX2_readPart_92 (by decide) ?_
        refine lv_icmp_ge (tgt := 114) hx hb dX2_readPart_94 (by decide) (fun c94 => ?_) (fun c94 => ?_)
        · have hM := ite_t c94 hM
          refine lv_aload_n hx hb dX2_readPart_114 rfl (lv_at hl 0 rfl) ?_
          refine lv_aload_n hx hb dX2_readPart_115 rfl (lv_at hl 0 rfl) ?_
          refine va_get (D := (dC, dI)) (ci := 2) (v := .int s_t.2.1) (C := RX2) (T := TX2) (N := 7) hx hb hU inlX2 hown hE.1 hP 0 rfl rfl 5 (by decide) (hU _ u_6_15) (fun _ h9 => h9) rfl dX2_readPart_116 ?_
          refine va_put (D := (dC, dI)) (ci := 2) (v := .int s_t.2.1) (ty := .int) (C := RX2) (T := TX2) (N := 7) hx hb hU inlX2 tyX2 tyX2_ok nmX2 hown hE.1 hP hD hS 0 rfl rfl 6 (by decide) (hU _ u_6_14) (fun _ h9 => h9) rfl (tyX2_ok 6 (by decide)) rfl rfl (Nat.le_of_ble_eq_true rfl) dX2_readPart_119 (fun H locs hP hD hS => ?_)
          have hP : va_P (dC, dI) vwCl [(a_t, .inr (2, [.ref a_t_letters, .int s_t.1, .ref a_t_papers, .ref a_t_grants, .ref a_t_routes, .int s_t.2.1, .int s_t.2.1])), (a_t_letters, .inl (cC, 99, .inl s_t_letters)), (a_t_routes, .inr (1, [.int s_t_routes.1, .int s_t_routes.2.1, .ref a_t_routes_cells, .int s_t_routes.2.2])), (a_t_routes_cells, .inl (cI, s_t_routes_cells.1, .inl s_t_routes_cells.2)), (a_t_grants, .inr (1, [.int s_t_grants.1, .int s_t_grants.2.1, .ref a_t_grants_cells, .int s_t_grants.2.2])), (a_t_papers, .inr (1, [.int s_t_papers.1, .int s_t_papers.2.1, .ref a_t_papers_cells, .int s_t_papers.2.2])), (a_t_grants_cells, .inl (cI, s_t_grants_cells.1, .inl s_t_grants_cells.2)), (a_t_papers_cells, .inl (cI, s_t_papers_cells.1, .inl s_t_papers_cells.2))] H := hP
          have hD : va_D A [(a_t, .inr (2, [.ref a_t_letters, .int s_t.1, .ref a_t_papers, .ref a_t_grants, .ref a_t_routes, .int s_t.2.1, .int s_t.2.1])), (a_t_letters, .inl (cC, 99, .inl s_t_letters)), (a_t_routes, .inr (1, [.int s_t_routes.1, .int s_t_routes.2.1, .ref a_t_routes_cells, .int s_t_routes.2.2])), (a_t_routes_cells, .inl (cI, s_t_routes_cells.1, .inl s_t_routes_cells.2)), (a_t_grants, .inr (1, [.int s_t_grants.1, .int s_t_grants.2.1, .ref a_t_grants_cells, .int s_t_grants.2.2])), (a_t_papers, .inr (1, [.int s_t_papers.1, .int s_t_papers.2.1, .ref a_t_papers_cells, .int s_t_papers.2.2])), (a_t_grants_cells, .inl (cI, s_t_grants_cells.1, .inl s_t_grants_cells.2)), (a_t_papers_cells, .inl (cI, s_t_papers_cells.1, .inl s_t_papers_cells.2))] := hD
          cases hM
          exact rt _ _ _ _ hP hS dX2_readPart_122 rfl
        · have hM := ite_f c94 hM
          refine lv_aload_n hx hb dX2_readPart_97 rfl (lv_at hl 0 rfl) ?_
          refine lv_dup hx hb dX2_readPart_98 rfl ?_
          refine va_get (D := (dC, dI)) (ci := 2) (v := .int s_t.2.1) (C := RX2) (T := TX2) (N := 7) hx hb hU inlX2 hown hE.1 hP 0 rfl rfl 5 (by decide) (hU _ u_6_15) (fun _ h9 => h9) rfl dX2_readPart_99 ?_
          refine lv_iconst (v := (1 : Int32)) hx hb dX2_readPart_102 (by decide) ?_
          refine lv_iadd hx hb dX2_readPart_103 ?_
          refine va_put (D := (dC, dI)) (ci := 2) (v := .int (s_t.2.1 + (1 : Int32))) (ty := .int) (C := RX2) (T := TX2) (N := 7) hx hb hU inlX2 tyX2 tyX2_ok nmX2 hown hE.1 hP hD hS 0 rfl rfl 5 (by decide) (hU _ u_6_15) (fun _ h9 => h9) rfl (tyX2_ok 5 (by decide)) rfl rfl (Nat.le_of_ble_eq_true rfl) dX2_readPart_104 (fun H locs hP hD hS => ?_)
          have hP : va_P (dC, dI) vwCl [(a_t, .inr (2, [.ref a_t_letters, .int s_t.1, .ref a_t_papers, .ref a_t_grants, .ref a_t_routes, .int (s_t.2.1 + (1 : Int32)), .int s_t.2.2])), (a_t_letters, .inl (cC, 99, .inl s_t_letters)), (a_t_routes, .inr (1, [.int s_t_routes.1, .int s_t_routes.2.1, .ref a_t_routes_cells, .int s_t_routes.2.2])), (a_t_routes_cells, .inl (cI, s_t_routes_cells.1, .inl s_t_routes_cells.2)), (a_t_grants, .inr (1, [.int s_t_grants.1, .int s_t_grants.2.1, .ref a_t_grants_cells, .int s_t_grants.2.2])), (a_t_papers, .inr (1, [.int s_t_papers.1, .int s_t_papers.2.1, .ref a_t_papers_cells, .int s_t_papers.2.2])), (a_t_grants_cells, .inl (cI, s_t_grants_cells.1, .inl s_t_grants_cells.2)), (a_t_papers_cells, .inl (cI, s_t_papers_cells.1, .inl s_t_papers_cells.2))] H := hP
          have hD : va_D A [(a_t, .inr (2, [.ref a_t_letters, .int s_t.1, .ref a_t_papers, .ref a_t_grants, .ref a_t_routes, .int (s_t.2.1 + (1 : Int32)), .int s_t.2.2])), (a_t_letters, .inl (cC, 99, .inl s_t_letters)), (a_t_routes, .inr (1, [.int s_t_routes.1, .int s_t_routes.2.1, .ref a_t_routes_cells, .int s_t_routes.2.2])), (a_t_routes_cells, .inl (cI, s_t_routes_cells.1, .inl s_t_routes_cells.2)), (a_t_grants, .inr (1, [.int s_t_grants.1, .int s_t_grants.2.1, .ref a_t_grants_cells, .int s_t_grants.2.2])), (a_t_papers, .inr (1, [.int s_t_papers.1, .int s_t_papers.2.1, .ref a_t_papers_cells, .int s_t_papers.2.2])), (a_t_grants_cells, .inl (cI, s_t_grants_cells.1, .inl s_t_grants_cells.2)), (a_t_papers_cells, .inl (cI, s_t_papers_cells.1, .inl s_t_papers_cells.2))] := hD
          refine lv_aload_n hx hb dX2_readPart_107 rfl (lv_at hl 0 rfl) ?_
          obtain ⟨x108, h108, hM⟩ := bind_e hM
          refine muV (As := []) (rest := []) (st2 := []) (nw := [(a_t, .inr (2, [.ref a_t_letters, .int x108.1.1, .ref a_t_papers, .ref a_t_grants, .ref a_t_routes, .int x108.1.2.1, .int x108.1.2.2])), (a_t_letters, .inl (cC, 99, .inl s_t_letters)), (a_t_routes, .inr (1, [.int x108.2.1.1, .int x108.2.1.2.1, .ref a_t_routes_cells, .int x108.2.1.2.2])), (a_t_routes_cells, .inl (cI, x108.2.2.1, .inl x108.2.2.2)), (a_t_grants, .inr (1, [.int s_t_grants.1, .int s_t_grants.2.1, .ref a_t_grants_cells, .int s_t_grants.2.2])), (a_t_papers, .inr (1, [.int s_t_papers.1, .int s_t_papers.2.1, .ref a_t_papers_cells, .int s_t_papers.2.2])), (a_t_grants_cells, .inl (cI, s_t_grants_cells.1, .inl s_t_grants_cells.2)), (a_t_papers_cells, .inl (cI, s_t_papers_cells.1, .inl s_t_papers_cells.2))]) ⟨hx, hb, hml, hown, hU⟩ hE (okX2_readRoute a_t a_t_letters a_t_papers a_t_grants a_t_routes a_t_routes_cells (s_t.1, (s_t.2.1 + (1 : Int32)), s_t.2.2) s_t_letters s_t_routes s_t_routes_cells x108 h108) lk_X2_60 hP hD hS hA [0, 1, 2, 3] rfl rfl rfl rfl rfl rfl hl.1 rfl (Nat.le_of_ble_eq_true rfl) ⟨Nat.le_of_ble_eq_true rfl, Nat.le_of_ble_eq_true rfl⟩ dX2_readPart_108 ⟨Nat.le_refl _, Nat.le_refl _⟩ rfl rfl rfl rfl (fun H locs hP hD hS => ?_)
          refine lv_goto (tgt := 122) hx hb dX2_readPart_111 (by decide) ?_
          cases hM
          exact rt _ _ _ _ hP hS dX2_readPart_122 rfl
    refine lv_icmp_ne (tgt := 79) hx hb dX2_readPart_47 (by decide) (fun c47 => ?_) (fun c47 => ?_)
    · have hM := ite_f c47 hM
      exact w_79  hM ls _ _ hP hD hS (lv_sub hl [0, 1] rfl)
    · have hM := ite_t c47 hM
      refine lv_aload_n hx hb dX2_readPart_50 rfl (lv_at hl 0 rfl) ?_
      refine va_get (D := (dC, dI)) (ci := 2) (v := .ref a_t_grants) (C := RX2) (T := TX2) (N := 7) hx hb hU inlX2 hown hE.1 hP 0 rfl rfl 3 (by decide) (hU _ u_3_11) (fun _ h9 => h9) rfl dX2_readPart_51 ?_
      refine va_get (D := (dC, dI)) (ci := 1) (v := .int s_t_grants.2.2) (C := RX1) (T := TX1) (N := 4) hx hb hU inlX1 hown hE.1 hP 4 rfl rfl 3 (by decide) (hU _ u_6_13) (fun _ h9 => h9) rfl dX2_readPart_54 ?_
      refine lv_bipush (v := (8 : Int32)) hx hb dX2_readPart_57 (by decide) ?_
      refine lv_icmp_ge (tgt := 79) hx hb dX2_readPart_59 (by decide) (fun c59 => ?_) (fun c59 => ?_)
      · have hM := ite_t c59 hM
        exact w_79  hM ls _ _ hP hD hS (lv_sub hl [0, 1] rfl)
      · have hM := ite_f c59 hM
        refine lv_aload_n hx hb dX2_readPart_62 rfl (lv_at hl 0 rfl) ?_
        refine lv_dup hx hb dX2_readPart_63 rfl ?_
        refine va_get (D := (dC, dI)) (ci := 2) (v := .int s_t.2.1) (C := RX2) (T := TX2) (N := 7) hx hb hU inlX2 hown hE.1 hP 0 rfl rfl 5 (by decide) (hU _ u_6_15) (fun _ h9 => h9) rfl dX2_readPart_64 ?_
        refine lv_iconst (v := (1 : Int32)) hx hb dX2_readPart_67 (by decide) ?_
        refine lv_iadd hx hb dX2_readPart_68 ?_
        refine va_put (D := (dC, dI)) (ci := 2) (v := .int (s_t.2.1 + (1 : Int32))) (ty := .int) (C := RX2) (T := TX2) (N := 7) hx hb hU inlX2 tyX2 tyX2_ok nmX2 hown hE.1 hP hD hS 0 rfl rfl 5 (by decide) (hU _ u_6_15) (fun _ h9 => h9) rfl (tyX2_ok 5 (by decide)) rfl rfl (Nat.le_of_ble_eq_true rfl) dX2_readPart_69 (fun H locs hP hD hS => ?_)
        have hP : va_P (dC, dI) vwCl [(a_t, .inr (2, [.ref a_t_letters, .int s_t.1, .ref a_t_papers, .ref a_t_grants, .ref a_t_routes, .int (s_t.2.1 + (1 : Int32)), .int s_t.2.2])), (a_t_letters, .inl (cC, 99, .inl s_t_letters)), (a_t_routes, .inr (1, [.int s_t_routes.1, .int s_t_routes.2.1, .ref a_t_routes_cells, .int s_t_routes.2.2])), (a_t_routes_cells, .inl (cI, s_t_routes_cells.1, .inl s_t_routes_cells.2)), (a_t_grants, .inr (1, [.int s_t_grants.1, .int s_t_grants.2.1, .ref a_t_grants_cells, .int s_t_grants.2.2])), (a_t_papers, .inr (1, [.int s_t_papers.1, .int s_t_papers.2.1, .ref a_t_papers_cells, .int s_t_papers.2.2])), (a_t_grants_cells, .inl (cI, s_t_grants_cells.1, .inl s_t_grants_cells.2)), (a_t_papers_cells, .inl (cI, s_t_papers_cells.1, .inl s_t_papers_cells.2))] H := hP
        have hD : va_D A [(a_t, .inr (2, [.ref a_t_letters, .int s_t.1, .ref a_t_papers, .ref a_t_grants, .ref a_t_routes, .int (s_t.2.1 + (1 : Int32)), .int s_t.2.2])), (a_t_letters, .inl (cC, 99, .inl s_t_letters)), (a_t_routes, .inr (1, [.int s_t_routes.1, .int s_t_routes.2.1, .ref a_t_routes_cells, .int s_t_routes.2.2])), (a_t_routes_cells, .inl (cI, s_t_routes_cells.1, .inl s_t_routes_cells.2)), (a_t_grants, .inr (1, [.int s_t_grants.1, .int s_t_grants.2.1, .ref a_t_grants_cells, .int s_t_grants.2.2])), (a_t_papers, .inr (1, [.int s_t_papers.1, .int s_t_papers.2.1, .ref a_t_papers_cells, .int s_t_papers.2.2])), (a_t_grants_cells, .inl (cI, s_t_grants_cells.1, .inl s_t_grants_cells.2)), (a_t_papers_cells, .inl (cI, s_t_papers_cells.1, .inl s_t_papers_cells.2))] := hD
        refine lv_aload_n hx hb dX2_readPart_72 rfl (lv_at hl 0 rfl) ?_
        obtain ⟨x73, h73, hM⟩ := bind_e hM
        refine muV (As := []) (rest := []) (st2 := []) (nw := [(a_t, .inr (2, [.ref a_t_letters, .int x73.1.1, .ref a_t_papers, .ref a_t_grants, .ref a_t_routes, .int x73.1.2.1, .int x73.1.2.2])), (a_t_letters, .inl (cC, 99, .inl s_t_letters)), (a_t_routes, .inr (1, [.int s_t_routes.1, .int s_t_routes.2.1, .ref a_t_routes_cells, .int s_t_routes.2.2])), (a_t_routes_cells, .inl (cI, s_t_routes_cells.1, .inl s_t_routes_cells.2)), (a_t_grants, .inr (1, [.int x73.2.1.1, .int x73.2.1.2.1, .ref a_t_grants_cells, .int x73.2.1.2.2])), (a_t_papers, .inr (1, [.int s_t_papers.1, .int s_t_papers.2.1, .ref a_t_papers_cells, .int s_t_papers.2.2])), (a_t_grants_cells, .inl (cI, x73.2.2.1, .inl x73.2.2.2)), (a_t_papers_cells, .inl (cI, s_t_papers_cells.1, .inl s_t_papers_cells.2))]) ⟨hx, hb, hml, hown, hU⟩ hE (okX2_readGrant a_t a_t_letters a_t_papers a_t_grants a_t_routes a_t_papers_cells a_t_grants_cells (s_t.1, (s_t.2.1 + (1 : Int32)), s_t.2.2) s_t_letters s_t_papers s_t_grants s_t_grants_cells x73 h73) lk_X2_57 hP hD hS hA [0, 1, 5, 4, 6] rfl rfl rfl rfl rfl rfl hl.1 rfl (Nat.le_of_ble_eq_true rfl) ⟨Nat.le_of_ble_eq_true rfl, Nat.le_of_ble_eq_true rfl⟩ dX2_readPart_73 ⟨Nat.le_refl _, Nat.le_refl _⟩ rfl rfl rfl rfl (fun H locs hP hD hS => ?_)
        refine lv_goto (tgt := 122) hx hb dX2_readPart_76 (by decide) ?_
        cases hM
        exact rt _ _ _ _ hP hS dX2_readPart_122 rfl
  refine lv_icmp_ne (tgt := 44) hx hb dX2_readPart_12 (by decide) (fun c12 => ?_) (fun c12 => ?_)
  · have hM := ite_f c12 hM
    exact w_44  hM ls _ _ hP hD hS (lv_sub hl [1, 0] rfl)
  · have hM := ite_t c12 hM
    refine lv_aload_n hx hb dX2_readPart_15 rfl (lv_at hl 1 rfl) ?_
    refine va_get (D := (dC, dI)) (ci := 2) (v := .ref a_t_papers) (C := RX2) (T := TX2) (N := 7) hx hb hU inlX2 hown hE.1 hP 0 rfl rfl 2 (by decide) (hU _ u_3_10) (fun _ h9 => h9) rfl dX2_readPart_16 ?_
    refine va_get (D := (dC, dI)) (ci := 1) (v := .int s_t_papers.2.2) (C := RX1) (T := TX1) (N := 4) hx hb hU inlX1 hown hE.1 hP 5 rfl rfl 3 (by decide) (hU _ u_6_13) (fun _ h9 => h9) rfl dX2_readPart_19 ?_
    refine lv_bipush (v := (6 : Int32)) hx hb dX2_readPart_22 (by decide) ?_
    refine lv_icmp_ge (tgt := 44) hx hb dX2_readPart_24 (by decide) (fun c24 => ?_) (fun c24 => ?_)
    · have hM := ite_t c24 hM
      exact w_44  hM ls _ _ hP hD hS (lv_sub hl [1, 0] rfl)
    · have hM := ite_f c24 hM
      refine lv_aload_n hx hb dX2_readPart_27 rfl (lv_at hl 1 rfl) ?_
      refine lv_dup hx hb dX2_readPart_28 rfl ?_
      refine va_get (D := (dC, dI)) (ci := 2) (v := .int s_t.2.1) (C := RX2) (T := TX2) (N := 7) hx hb hU inlX2 hown hE.1 hP 0 rfl rfl 5 (by decide) (hU _ u_6_15) (fun _ h9 => h9) rfl dX2_readPart_29 ?_
      refine lv_iconst (v := (1 : Int32)) hx hb dX2_readPart_32 (by decide) ?_
      refine lv_iadd hx hb dX2_readPart_33 ?_
      refine va_put (D := (dC, dI)) (ci := 2) (v := .int (s_t.2.1 + (1 : Int32))) (ty := .int) (C := RX2) (T := TX2) (N := 7) hx hb hU inlX2 tyX2 tyX2_ok nmX2 hown hE.1 hP hD hS 0 rfl rfl 5 (by decide) (hU _ u_6_15) (fun _ h9 => h9) rfl (tyX2_ok 5 (by decide)) rfl rfl (Nat.le_of_ble_eq_true rfl) dX2_readPart_34 (fun H locs hP hD hS => ?_)
      have hP : va_P (dC, dI) vwCl [(a_t, .inr (2, [.ref a_t_letters, .int s_t.1, .ref a_t_papers, .ref a_t_grants, .ref a_t_routes, .int (s_t.2.1 + (1 : Int32)), .int s_t.2.2])), (a_t_letters, .inl (cC, 99, .inl s_t_letters)), (a_t_routes, .inr (1, [.int s_t_routes.1, .int s_t_routes.2.1, .ref a_t_routes_cells, .int s_t_routes.2.2])), (a_t_routes_cells, .inl (cI, s_t_routes_cells.1, .inl s_t_routes_cells.2)), (a_t_grants, .inr (1, [.int s_t_grants.1, .int s_t_grants.2.1, .ref a_t_grants_cells, .int s_t_grants.2.2])), (a_t_papers, .inr (1, [.int s_t_papers.1, .int s_t_papers.2.1, .ref a_t_papers_cells, .int s_t_papers.2.2])), (a_t_grants_cells, .inl (cI, s_t_grants_cells.1, .inl s_t_grants_cells.2)), (a_t_papers_cells, .inl (cI, s_t_papers_cells.1, .inl s_t_papers_cells.2))] H := hP
      have hD : va_D A [(a_t, .inr (2, [.ref a_t_letters, .int s_t.1, .ref a_t_papers, .ref a_t_grants, .ref a_t_routes, .int (s_t.2.1 + (1 : Int32)), .int s_t.2.2])), (a_t_letters, .inl (cC, 99, .inl s_t_letters)), (a_t_routes, .inr (1, [.int s_t_routes.1, .int s_t_routes.2.1, .ref a_t_routes_cells, .int s_t_routes.2.2])), (a_t_routes_cells, .inl (cI, s_t_routes_cells.1, .inl s_t_routes_cells.2)), (a_t_grants, .inr (1, [.int s_t_grants.1, .int s_t_grants.2.1, .ref a_t_grants_cells, .int s_t_grants.2.2])), (a_t_papers, .inr (1, [.int s_t_papers.1, .int s_t_papers.2.1, .ref a_t_papers_cells, .int s_t_papers.2.2])), (a_t_grants_cells, .inl (cI, s_t_grants_cells.1, .inl s_t_grants_cells.2)), (a_t_papers_cells, .inl (cI, s_t_papers_cells.1, .inl s_t_papers_cells.2))] := hD
      refine lv_aload_n hx hb dX2_readPart_37 rfl (lv_at hl 1 rfl) ?_
      obtain ⟨x38, h38, hM⟩ := bind_e hM
      refine muV (As := []) (rest := []) (st2 := []) (nw := [(a_t, .inr (2, [.ref a_t_letters, .int x38.1.1, .ref a_t_papers, .ref a_t_grants, .ref a_t_routes, .int x38.1.2.1, .int x38.1.2.2])), (a_t_letters, .inl (cC, 99, .inl s_t_letters)), (a_t_routes, .inr (1, [.int s_t_routes.1, .int s_t_routes.2.1, .ref a_t_routes_cells, .int s_t_routes.2.2])), (a_t_routes_cells, .inl (cI, s_t_routes_cells.1, .inl s_t_routes_cells.2)), (a_t_grants, .inr (1, [.int s_t_grants.1, .int s_t_grants.2.1, .ref a_t_grants_cells, .int s_t_grants.2.2])), (a_t_papers, .inr (1, [.int x38.2.1.1, .int x38.2.1.2.1, .ref a_t_papers_cells, .int x38.2.1.2.2])), (a_t_grants_cells, .inl (cI, s_t_grants_cells.1, .inl s_t_grants_cells.2)), (a_t_papers_cells, .inl (cI, x38.2.2.1, .inl x38.2.2.2))]) ⟨hx, hb, hml, hown, hU⟩ hE (okX2_readPaper a_t a_t_letters a_t_papers a_t_grants a_t_routes a_t_papers_cells (s_t.1, (s_t.2.1 + (1 : Int32)), s_t.2.2) s_t_papers s_t_letters s_t_papers_cells x38 h38) lk_X2_54 hP hD hS hA [0, 5, 1, 7] rfl rfl rfl rfl rfl rfl hl.1 rfl (Nat.le_of_ble_eq_true rfl) ⟨Nat.le_of_ble_eq_true rfl, Nat.le_of_ble_eq_true rfl⟩ dX2_readPart_38 ⟨Nat.le_refl _, Nat.le_refl _⟩ rfl rfl rfl rfl (fun H locs hP hD hS => ?_)
      refine lv_goto (tgt := 122) hx hb dX2_readPart_41 (by decide) ?_
      cases hM
      exact rt _ _ _ _ hP hS dX2_readPart_122 rfl
noncomputable def mX2_readAll_b64 (s_t_letters : Nat → Int32) : Nat → Int32 → Int32 × Int32 × Int32 → Int32 × Int32 × Int32 → Ar → Int32 × Int32 × Int32 → Int32 × Int32 × Int32 → Ar → Ar → Option (Int32 × (Int32 × Int32 × Int32) × (Int32 × Int32 × Int32) × Ar × (Int32 × Int32 × Int32) × (Int32 × Int32 × Int32) × Ar × Ar)
  | 0, _, _, _, _, _, _, _, _ => none
  | n + 1, v1, s_t, s_t_papers, s_t_papers_cells, s_t_grants, s_t_routes, s_t_routes_cells, s_t_grants_cells => (if (99 : Int32) ≤ v1 then some (s_t.2.2, s_t, s_t_papers, s_t_papers_cells, s_t_grants, s_t_routes, s_t_routes_cells, s_t_grants_cells) else (if s_t.1 ≤ s_t.2.1 then some (s_t.2.2, s_t, s_t_papers, s_t_papers_cells, s_t_grants, s_t_routes, s_t_routes_cells, s_t_grants_cells) else (if s_t.2.2 = (-9 : Int32) then (mX2_readPart s_t s_t_letters s_t_routes s_t_routes_cells s_t_grants s_t_papers s_t_grants_cells s_t_papers_cells).bind (fun x91 => mX2_readAll_b64 s_t_letters n (v1 + (1 : Int32)) x91.1 x91.2.2.2.2.1 x91.2.2.2.2.2.2 x91.2.2.2.1 x91.2.1 x91.2.2.1 x91.2.2.2.2.2.1) else some (s_t.2.2, s_t, s_t_papers, s_t_papers_cells, s_t_grants, s_t_routes, s_t_routes_cells, s_t_grants_cells))))
noncomputable def mX2_readAll (s_t : Int32 × Int32 × Int32) (s_t_papers : Int32 × Int32 × Int32) (s_t_papers_cells : Ar) (s_t_grants : Int32 × Int32 × Int32) (s_t_routes : Int32 × Int32 × Int32) (s_t_letters : Nat → Int32) (s_t_routes_cells : Ar) (s_t_grants_cells : Ar) : Option (Int32 × (Int32 × Int32 × Int32) × (Int32 × Int32 × Int32) × Ar × (Int32 × Int32 × Int32) × (Int32 × Int32 × Int32) × Ar × Ar) := (mX1_addRange (s_t_papers.1, s_t_papers.2.1, (0 : Int32)) s_t_papers_cells (0 : Int32) (0 : Int32) (-9 : Int32) (-9 : Int32) (0 : Int32)).bind (fun x19 => (mX2_letterAt (s_t.1, s_t.2.1, (-9 : Int32)) s_t_letters (0 : Int32)).bind (fun x47 => (if x47 = (80 : Int32) then mX2_readAll_b64 s_t_letters FU (0 : Int32) (s_t.1, (1 : Int32), (-9 : Int32)) x19.2.1 x19.2.2 (s_t_grants.1, s_t_grants.2.1, (0 : Int32)) (s_t_routes.1, s_t_routes.2.1, (0 : Int32)) s_t_routes_cells s_t_grants_cells else some ((0 : Int32), (s_t.1, s_t.2.1, (-9 : Int32)), x19.2.1, x19.2.2, (s_t_grants.1, s_t_grants.2.1, (0 : Int32)), (s_t_routes.1, s_t_routes.2.1, (0 : Int32)), s_t_routes_cells, s_t_grants_cells))))
set_option maxHeartbeats 4000000 in
set_option maxRecDepth 100000 in
theorem okX2_readAll {l : Launch} {dC : Nat → ClassId} {dI : Nat → Nat → Nat} {cI cC cZ : ClassId} (a_t a_t_letters a_t_papers a_t_grants a_t_routes a_t_papers_cells a_t_grants_cells a_t_routes_cells : Nat) (s_t : Int32 × Int32 × Int32) (s_t_papers : Int32 × Int32 × Int32) (s_t_papers_cells : Ar) (s_t_grants : Int32 × Int32 × Int32) (s_t_routes : Int32 × Int32 × Int32) (s_t_letters : Nat → Int32) (s_t_routes_cells : Ar) (s_t_grants_cells : Ar) (res : Int32 × (Int32 × Int32 × Int32) × (Int32 × Int32 × Int32) × Ar × (Int32 × Int32 × Int32) × (Int32 × Int32 × Int32) × Ar × Ar) (hM : mX2_readAll s_t s_t_papers s_t_papers_cells s_t_grants s_t_routes s_t_letters s_t_routes_cells s_t_grants_cells = some res) : Mu l yX2_readAll cX2_readAll 2 (some .int) 5 133 (dC, dI) cI cC cZ [(a_t, .inr (2, [.ref a_t_letters, .int s_t.1, .ref a_t_papers, .ref a_t_grants, .ref a_t_routes, .int s_t.2.1, .int s_t.2.2])), (a_t_papers, .inr (1, [.int s_t_papers.1, .int s_t_papers.2.1, .ref a_t_papers_cells, .int s_t_papers.2.2])), (a_t_papers_cells, .inl (cI, s_t_papers_cells.1, .inl s_t_papers_cells.2)), (a_t_grants, .inr (1, [.int s_t_grants.1, .int s_t_grants.2.1, .ref a_t_grants_cells, .int s_t_grants.2.2])), (a_t_routes, .inr (1, [.int s_t_routes.1, .int s_t_routes.2.1, .ref a_t_routes_cells, .int s_t_routes.2.2])), (a_t_letters, .inl (cC, 99, .inl s_t_letters)), (a_t_routes_cells, .inl (cI, s_t_routes_cells.1, .inl s_t_routes_cells.2)), (a_t_grants_cells, .inl (cI, s_t_grants_cells.1, .inl s_t_grants_cells.2))] [(a_t, .inr (2, [.ref a_t_letters, .int res.2.1.1, .ref a_t_papers, .ref a_t_grants, .ref a_t_routes, .int res.2.1.2.1, .int res.2.1.2.2])), (a_t_papers, .inr (1, [.int res.2.2.1.1, .int res.2.2.1.2.1, .ref a_t_papers_cells, .int res.2.2.1.2.2])), (a_t_papers_cells, .inl (cI, res.2.2.2.1.1, .inl res.2.2.2.1.2)), (a_t_grants, .inr (1, [.int res.2.2.2.2.1.1, .int res.2.2.2.2.1.2.1, .ref a_t_grants_cells, .int res.2.2.2.2.1.2.2])), (a_t_routes, .inr (1, [.int res.2.2.2.2.2.1.1, .int res.2.2.2.2.2.1.2.1, .ref a_t_routes_cells, .int res.2.2.2.2.2.1.2.2])), (a_t_letters, .inl (cC, 99, .inl s_t_letters)), (a_t_routes_cells, .inl (cI, res.2.2.2.2.2.2.1.1, .inl res.2.2.2.2.2.2.1.2)), (a_t_grants_cells, .inl (cI, res.2.2.2.2.2.2.2.1, .inl res.2.2.2.2.2.2.2.2))] [.ref a_t] (some (.int res.1)) := by
  refine Mu.ofI (by decide) (Nat.le_of_ble_eq_true rfl) [(0, .ref a_t)] rfl ?_
  intro p e s m args below meth c ls Q A hx hb hml hown hU hE hP hD hS hA rt hl
  have hown : s.vm.findClass RX2 = some m.cls := hown
  unfold mX2_readAll at hM
  refine lv_aload_n hx hb dX2_readAll_0 rfl (lv_at hl 0 rfl) ?_
  refine va_get (D := (dC, dI)) (ci := 2) (v := .ref a_t_papers) (C := RX2) (T := TX2) (N := 7) hx hb hU inlX2 hown hE.1 hP 0 rfl rfl 2 (by decide) (hU _ u_3_10) (fun _ h9 => h9) rfl dX2_readAll_1 ?_
  refine lv_iconst (v := (0 : Int32)) hx hb dX2_readAll_4 (by decide) ?_
  refine va_put (D := (dC, dI)) (ci := 1) (v := .int (0 : Int32)) (ty := .int) (C := RX1) (T := TX1) (N := 4) hx hb hU inlX1 tyX1 tyX1_ok nmX1 hown hE.1 hP hD hS 1 rfl rfl 3 (by decide) (hU _ u_6_13) (fun _ h9 => h9) rfl (tyX1_ok 3 (by decide)) rfl rfl (Nat.le_of_ble_eq_true rfl) dX2_readAll_5 (fun H locs hP hD hS => ?_)
  have hP : va_P (dC, dI) vwCl [(a_t, .inr (2, [.ref a_t_letters, .int s_t.1, .ref a_t_papers, .ref a_t_grants, .ref a_t_routes, .int s_t.2.1, .int s_t.2.2])), (a_t_papers, .inr (1, [.int s_t_papers.1, .int s_t_papers.2.1, .ref a_t_papers_cells, .int (0 : Int32)])), (a_t_papers_cells, .inl (cI, s_t_papers_cells.1, .inl s_t_papers_cells.2)), (a_t_grants, .inr (1, [.int s_t_grants.1, .int s_t_grants.2.1, .ref a_t_grants_cells, .int s_t_grants.2.2])), (a_t_routes, .inr (1, [.int s_t_routes.1, .int s_t_routes.2.1, .ref a_t_routes_cells, .int s_t_routes.2.2])), (a_t_letters, .inl (cC, 99, .inl s_t_letters)), (a_t_routes_cells, .inl (cI, s_t_routes_cells.1, .inl s_t_routes_cells.2)), (a_t_grants_cells, .inl (cI, s_t_grants_cells.1, .inl s_t_grants_cells.2))] H := hP
  have hD : va_D A [(a_t, .inr (2, [.ref a_t_letters, .int s_t.1, .ref a_t_papers, .ref a_t_grants, .ref a_t_routes, .int s_t.2.1, .int s_t.2.2])), (a_t_papers, .inr (1, [.int s_t_papers.1, .int s_t_papers.2.1, .ref a_t_papers_cells, .int (0 : Int32)])), (a_t_papers_cells, .inl (cI, s_t_papers_cells.1, .inl s_t_papers_cells.2)), (a_t_grants, .inr (1, [.int s_t_grants.1, .int s_t_grants.2.1, .ref a_t_grants_cells, .int s_t_grants.2.2])), (a_t_routes, .inr (1, [.int s_t_routes.1, .int s_t_routes.2.1, .ref a_t_routes_cells, .int s_t_routes.2.2])), (a_t_letters, .inl (cC, 99, .inl s_t_letters)), (a_t_routes_cells, .inl (cI, s_t_routes_cells.1, .inl s_t_routes_cells.2)), (a_t_grants_cells, .inl (cI, s_t_grants_cells.1, .inl s_t_grants_cells.2))] := hD
  refine lv_aload_n hx hb dX2_readAll_8 rfl (lv_at hl 0 rfl) ?_
  refine va_get (D := (dC, dI)) (ci := 2) (v := .ref a_t_papers) (C := RX2) (T := TX2) (N := 7) hx hb hU inlX2 hown hE.1 hP 0 rfl rfl 2 (by decide) (hU _ u_3_10) (fun _ h9 => h9) rfl dX2_readAll_9 ?_
  refine lv_iconst (v := (0 : Int32)) hx hb dX2_readAll_12 (by decide) ?_
  refine lv_iconst (v := (0 : Int32)) hx hb dX2_readAll_13 (by decide) ?_
  refine lv_bipush (v := (-9 : Int32)) hx hb dX2_readAll_14 (by decide) ?_
  refine lv_bipush (v := (-9 : Int32)) hx hb dX2_readAll_16 (by decide) ?_
  refine lv_iconst (v := (0 : Int32)) hx hb dX2_readAll_18 (by decide) ?_
  obtain ⟨x19, h19, hM⟩ := bind_e hM
  refine muV (As := [.int (0 : Int32), .int (0 : Int32), .int (-9 : Int32), .int (-9 : Int32), .int (0 : Int32)]) (rest := []) (st2 := [.int x19.1]) (nw := [(a_t, .inr (2, [.ref a_t_letters, .int s_t.1, .ref a_t_papers, .ref a_t_grants, .ref a_t_routes, .int s_t.2.1, .int s_t.2.2])), (a_t_papers, .inr (1, [.int x19.2.1.1, .int x19.2.1.2.1, .ref a_t_papers_cells, .int x19.2.1.2.2])), (a_t_papers_cells, .inl (cI, x19.2.2.1, .inl x19.2.2.2)), (a_t_grants, .inr (1, [.int s_t_grants.1, .int s_t_grants.2.1, .ref a_t_grants_cells, .int s_t_grants.2.2])), (a_t_routes, .inr (1, [.int s_t_routes.1, .int s_t_routes.2.1, .ref a_t_routes_cells, .int s_t_routes.2.2])), (a_t_letters, .inl (cC, 99, .inl s_t_letters)), (a_t_routes_cells, .inl (cI, s_t_routes_cells.1, .inl s_t_routes_cells.2)), (a_t_grants_cells, .inl (cI, s_t_grants_cells.1, .inl s_t_grants_cells.2))]) ⟨hx, hb, hml, hown, hU⟩ hE (okX1_addRange a_t_papers a_t_papers_cells (s_t_papers.1, s_t_papers.2.1, (0 : Int32)) s_t_papers_cells (0 : Int32) (0 : Int32) (-9 : Int32) (-9 : Int32) (0 : Int32) x19 h19) lk_X2_37 hP hD hS hA [1, 2] rfl rfl rfl rfl rfl rfl hl.1 rfl (Nat.le_of_ble_eq_true rfl) ⟨Nat.le_of_ble_eq_true rfl, Nat.le_of_ble_eq_true rfl⟩ dX2_readAll_19 ⟨Nat.le_refl _, Nat.le_refl _⟩ rfl rfl rfl rfl (fun H locs hP hD hS => ?_)
  refine lv_pop hx hb dX2_readAll_22 rfl ?_
  refine lv_aload_n hx hb dX2_readAll_23 rfl (lv_at hl 0 rfl) ?_
  refine va_get (D := (dC, dI)) (ci := 2) (v := .ref a_t_grants) (C := RX2) (T := TX2) (N := 7) hx hb hU inlX2 hown hE.1 hP 0 rfl rfl 3 (by decide) (hU _ u_3_11) (fun _ h9 => h9) rfl dX2_readAll_24 ?_
  refine lv_iconst (v := (0 : Int32)) hx hb dX2_readAll_27 (by decide) ?_
  refine va_put (D := (dC, dI)) (ci := 1) (v := .int (0 : Int32)) (ty := .int) (C := RX1) (T := TX1) (N := 4) hx hb hU inlX1 tyX1 tyX1_ok nmX1 hown hE.1 hP hD hS 3 rfl rfl 3 (by decide) (hU _ u_6_13) (fun _ h9 => h9) rfl (tyX1_ok 3 (by decide)) rfl rfl (Nat.le_of_ble_eq_true rfl) dX2_readAll_28 (fun H locs hP hD hS => ?_)
  have hP : va_P (dC, dI) vwCl [(a_t, .inr (2, [.ref a_t_letters, .int s_t.1, .ref a_t_papers, .ref a_t_grants, .ref a_t_routes, .int s_t.2.1, .int s_t.2.2])), (a_t_papers, .inr (1, [.int x19.2.1.1, .int x19.2.1.2.1, .ref a_t_papers_cells, .int x19.2.1.2.2])), (a_t_papers_cells, .inl (cI, x19.2.2.1, .inl x19.2.2.2)), (a_t_grants, .inr (1, [.int s_t_grants.1, .int s_t_grants.2.1, .ref a_t_grants_cells, .int (0 : Int32)])), (a_t_routes, .inr (1, [.int s_t_routes.1, .int s_t_routes.2.1, .ref a_t_routes_cells, .int s_t_routes.2.2])), (a_t_letters, .inl (cC, 99, .inl s_t_letters)), (a_t_routes_cells, .inl (cI, s_t_routes_cells.1, .inl s_t_routes_cells.2)), (a_t_grants_cells, .inl (cI, s_t_grants_cells.1, .inl s_t_grants_cells.2))] H := hP
  have hD : va_D A [(a_t, .inr (2, [.ref a_t_letters, .int s_t.1, .ref a_t_papers, .ref a_t_grants, .ref a_t_routes, .int s_t.2.1, .int s_t.2.2])), (a_t_papers, .inr (1, [.int x19.2.1.1, .int x19.2.1.2.1, .ref a_t_papers_cells, .int x19.2.1.2.2])), (a_t_papers_cells, .inl (cI, x19.2.2.1, .inl x19.2.2.2)), (a_t_grants, .inr (1, [.int s_t_grants.1, .int s_t_grants.2.1, .ref a_t_grants_cells, .int (0 : Int32)])), (a_t_routes, .inr (1, [.int s_t_routes.1, .int s_t_routes.2.1, .ref a_t_routes_cells, .int s_t_routes.2.2])), (a_t_letters, .inl (cC, 99, .inl s_t_letters)), (a_t_routes_cells, .inl (cI, s_t_routes_cells.1, .inl s_t_routes_cells.2)), (a_t_grants_cells, .inl (cI, s_t_grants_cells.1, .inl s_t_grants_cells.2))] := hD
  refine lv_aload_n hx hb dX2_readAll_31 rfl (lv_at hl 0 rfl) ?_
  refine va_get (D := (dC, dI)) (ci := 2) (v := .ref a_t_routes) (C := RX2) (T := TX2) (N := 7) hx hb hU inlX2 hown hE.1 hP 0 rfl rfl 4 (by decide) (hU _ u_3_12) (fun _ h9 => h9) rfl dX2_readAll_32 ?_
  refine lv_iconst (v := (0 : Int32)) hx hb dX2_readAll_35 (by decide) ?_
  refine va_put (D := (dC, dI)) (ci := 1) (v := .int (0 : Int32)) (ty := .int) (C := RX1) (T := TX1) (N := 4) hx hb hU inlX1 tyX1 tyX1_ok nmX1 hown hE.1 hP hD hS 4 rfl rfl 3 (by decide) (hU _ u_6_13) (fun _ h9 => h9) rfl (tyX1_ok 3 (by decide)) rfl rfl (Nat.le_of_ble_eq_true rfl) dX2_readAll_36 (fun H locs hP hD hS => ?_)
  have hP : va_P (dC, dI) vwCl [(a_t, .inr (2, [.ref a_t_letters, .int s_t.1, .ref a_t_papers, .ref a_t_grants, .ref a_t_routes, .int s_t.2.1, .int s_t.2.2])), (a_t_papers, .inr (1, [.int x19.2.1.1, .int x19.2.1.2.1, .ref a_t_papers_cells, .int x19.2.1.2.2])), (a_t_papers_cells, .inl (cI, x19.2.2.1, .inl x19.2.2.2)), (a_t_grants, .inr (1, [.int s_t_grants.1, .int s_t_grants.2.1, .ref a_t_grants_cells, .int (0 : Int32)])), (a_t_routes, .inr (1, [.int s_t_routes.1, .int s_t_routes.2.1, .ref a_t_routes_cells, .int (0 : Int32)])), (a_t_letters, .inl (cC, 99, .inl s_t_letters)), (a_t_routes_cells, .inl (cI, s_t_routes_cells.1, .inl s_t_routes_cells.2)), (a_t_grants_cells, .inl (cI, s_t_grants_cells.1, .inl s_t_grants_cells.2))] H := hP
  have hD : va_D A [(a_t, .inr (2, [.ref a_t_letters, .int s_t.1, .ref a_t_papers, .ref a_t_grants, .ref a_t_routes, .int s_t.2.1, .int s_t.2.2])), (a_t_papers, .inr (1, [.int x19.2.1.1, .int x19.2.1.2.1, .ref a_t_papers_cells, .int x19.2.1.2.2])), (a_t_papers_cells, .inl (cI, x19.2.2.1, .inl x19.2.2.2)), (a_t_grants, .inr (1, [.int s_t_grants.1, .int s_t_grants.2.1, .ref a_t_grants_cells, .int (0 : Int32)])), (a_t_routes, .inr (1, [.int s_t_routes.1, .int s_t_routes.2.1, .ref a_t_routes_cells, .int (0 : Int32)])), (a_t_letters, .inl (cC, 99, .inl s_t_letters)), (a_t_routes_cells, .inl (cI, s_t_routes_cells.1, .inl s_t_routes_cells.2)), (a_t_grants_cells, .inl (cI, s_t_grants_cells.1, .inl s_t_grants_cells.2))] := hD
  refine lv_aload_n hx hb dX2_readAll_39 rfl (lv_at hl 0 rfl) ?_
  refine lv_bipush (v := (-9 : Int32)) hx hb dX2_readAll_40 (by decide) ?_
  refine va_put (D := (dC, dI)) (ci := 2) (v := .int (-9 : Int32)) (ty := .int) (C := RX2) (T := TX2) (N := 7) hx hb hU inlX2 tyX2 tyX2_ok nmX2 hown hE.1 hP hD hS 0 rfl rfl 6 (by decide) (hU _ u_6_14) (fun _ h9 => h9) rfl (tyX2_ok 6 (by decide)) rfl rfl (Nat.le_of_ble_eq_true rfl) dX2_readAll_42 (fun H locs hP hD hS => ?_)
  have hP : va_P (dC, dI) vwCl [(a_t, .inr (2, [.ref a_t_letters, .int s_t.1, .ref a_t_papers, .ref a_t_grants, .ref a_t_routes, .int s_t.2.1, .int (-9 : Int32)])), (a_t_papers, .inr (1, [.int x19.2.1.1, .int x19.2.1.2.1, .ref a_t_papers_cells, .int x19.2.1.2.2])), (a_t_papers_cells, .inl (cI, x19.2.2.1, .inl x19.2.2.2)), (a_t_grants, .inr (1, [.int s_t_grants.1, .int s_t_grants.2.1, .ref a_t_grants_cells, .int (0 : Int32)])), (a_t_routes, .inr (1, [.int s_t_routes.1, .int s_t_routes.2.1, .ref a_t_routes_cells, .int (0 : Int32)])), (a_t_letters, .inl (cC, 99, .inl s_t_letters)), (a_t_routes_cells, .inl (cI, s_t_routes_cells.1, .inl s_t_routes_cells.2)), (a_t_grants_cells, .inl (cI, s_t_grants_cells.1, .inl s_t_grants_cells.2))] H := hP
  have hD : va_D A [(a_t, .inr (2, [.ref a_t_letters, .int s_t.1, .ref a_t_papers, .ref a_t_grants, .ref a_t_routes, .int s_t.2.1, .int (-9 : Int32)])), (a_t_papers, .inr (1, [.int x19.2.1.1, .int x19.2.1.2.1, .ref a_t_papers_cells, .int x19.2.1.2.2])), (a_t_papers_cells, .inl (cI, x19.2.2.1, .inl x19.2.2.2)), (a_t_grants, .inr (1, [.int s_t_grants.1, .int s_t_grants.2.1, .ref a_t_grants_cells, .int (0 : Int32)])), (a_t_routes, .inr (1, [.int s_t_routes.1, .int s_t_routes.2.1, .ref a_t_routes_cells, .int (0 : Int32)])), (a_t_letters, .inl (cC, 99, .inl s_t_letters)), (a_t_routes_cells, .inl (cI, s_t_routes_cells.1, .inl s_t_routes_cells.2)), (a_t_grants_cells, .inl (cI, s_t_grants_cells.1, .inl s_t_grants_cells.2))] := hD
  refine lv_aload_n hx hb dX2_readAll_45 rfl (lv_at hl 0 rfl) ?_
  refine lv_iconst (v := (0 : Int32)) hx hb dX2_readAll_46 (by decide) ?_
  obtain ⟨x47, h47, hM⟩ := bind_e hM
  refine rdV (As := [.int (0 : Int32)]) (rest := []) (st2 := [.int x47]) ⟨hx, hb, hml, hown, hU⟩ hE (okX2_letterAt a_t a_t_letters a_t_papers a_t_grants a_t_routes (s_t.1, s_t.2.1, (-9 : Int32)) s_t_letters (0 : Int32) x47 h47) lk_X2_44 (hP.sub [0, 5] rfl) rfl rfl rfl hl.1 rfl (Nat.le_of_ble_eq_true rfl) ⟨Nat.le_of_ble_eq_true rfl, Nat.le_of_ble_eq_true rfl⟩ dX2_readAll_47 ⟨Nat.le_refl _, Nat.le_refl _⟩ rfl ?_
  refine lv_bipush (v := (80 : Int32)) hx hb dX2_readAll_50 (by decide) ?_
  refine lv_icmp_eq (tgt := 57) hx hb dX2_readAll_52 (by decide) (fun c52 => ?_) (fun c52 => ?_)
  · have hM := ite_t c52 hM
    refine lv_aload_n hx hb dX2_readAll_57 rfl (lv_at hl 0 rfl) ?_
    refine lv_iconst (v := (1 : Int32)) hx hb dX2_readAll_58 (by decide) ?_
    refine va_put (D := (dC, dI)) (ci := 2) (v := .int (1 : Int32)) (ty := .int) (C := RX2) (T := TX2) (N := 7) hx hb hU inlX2 tyX2 tyX2_ok nmX2 hown hE.1 hP hD hS 0 rfl rfl 5 (by decide) (hU _ u_6_15) (fun _ h9 => h9) rfl (tyX2_ok 5 (by decide)) rfl rfl (Nat.le_of_ble_eq_true rfl) dX2_readAll_59 (fun H locs hP hD hS => ?_)
    have hP : va_P (dC, dI) vwCl [(a_t, .inr (2, [.ref a_t_letters, .int s_t.1, .ref a_t_papers, .ref a_t_grants, .ref a_t_routes, .int (1 : Int32), .int (-9 : Int32)])), (a_t_papers, .inr (1, [.int x19.2.1.1, .int x19.2.1.2.1, .ref a_t_papers_cells, .int x19.2.1.2.2])), (a_t_papers_cells, .inl (cI, x19.2.2.1, .inl x19.2.2.2)), (a_t_grants, .inr (1, [.int s_t_grants.1, .int s_t_grants.2.1, .ref a_t_grants_cells, .int (0 : Int32)])), (a_t_routes, .inr (1, [.int s_t_routes.1, .int s_t_routes.2.1, .ref a_t_routes_cells, .int (0 : Int32)])), (a_t_letters, .inl (cC, 99, .inl s_t_letters)), (a_t_routes_cells, .inl (cI, s_t_routes_cells.1, .inl s_t_routes_cells.2)), (a_t_grants_cells, .inl (cI, s_t_grants_cells.1, .inl s_t_grants_cells.2))] H := hP
    have hD : va_D A [(a_t, .inr (2, [.ref a_t_letters, .int s_t.1, .ref a_t_papers, .ref a_t_grants, .ref a_t_routes, .int (1 : Int32), .int (-9 : Int32)])), (a_t_papers, .inr (1, [.int x19.2.1.1, .int x19.2.1.2.1, .ref a_t_papers_cells, .int x19.2.1.2.2])), (a_t_papers_cells, .inl (cI, x19.2.2.1, .inl x19.2.2.2)), (a_t_grants, .inr (1, [.int s_t_grants.1, .int s_t_grants.2.1, .ref a_t_grants_cells, .int (0 : Int32)])), (a_t_routes, .inr (1, [.int s_t_routes.1, .int s_t_routes.2.1, .ref a_t_routes_cells, .int (0 : Int32)])), (a_t_letters, .inl (cC, 99, .inl s_t_letters)), (a_t_routes_cells, .inl (cI, s_t_routes_cells.1, .inl s_t_routes_cells.2)), (a_t_grants_cells, .inl (cI, s_t_grants_cells.1, .inl s_t_grants_cells.2))] := hD
    refine lv_iconst (v := (0 : Int32)) hx hb dX2_readAll_62 (by decide) ?_
    refine lv_istore_n (lv' := [(1, .int (0 : Int32)), (0, .ref a_t)]) hx hb dX2_readAll_63 rfl hl (by decide) rfl (fun ls hl => ?_)
    have w_64 : ∀ (n : Nat) (v1_64 : Int32) (s_t_64 : Int32 × Int32 × Int32) (s_t_papers_64 : Int32 × Int32 × Int32) (s_t_papers_cells_64 : Ar) (s_t_grants_64 : Int32 × Int32 × Int32) (s_t_routes_64 : Int32 × Int32 × Int32) (s_t_routes_cells_64 : Ar) (s_t_grants_cells_64 : Ar), mX2_readAll_b64 s_t_letters n v1_64 s_t_64 s_t_papers_64 s_t_papers_cells_64 s_t_grants_64 s_t_routes_64 s_t_routes_cells_64 s_t_grants_cells_64 = some res → ∀ (ls : Array Slot) (H : Heap) (locs : List Loc), va_P (dC, dI) vwCl [(a_t, .inr (2, [.ref a_t_letters, .int s_t_64.1, .ref a_t_papers, .ref a_t_grants, .ref a_t_routes, .int s_t_64.2.1, .int s_t_64.2.2])), (a_t_papers, .inr (1, [.int s_t_papers_64.1, .int s_t_papers_64.2.1, .ref a_t_papers_cells, .int s_t_papers_64.2.2])), (a_t_papers_cells, .inl (cI, s_t_papers_cells_64.1, .inl s_t_papers_cells_64.2)), (a_t_grants, .inr (1, [.int s_t_grants_64.1, .int s_t_grants_64.2.1, .ref a_t_grants_cells, .int s_t_grants_64.2.2])), (a_t_routes, .inr (1, [.int s_t_routes_64.1, .int s_t_routes_64.2.1, .ref a_t_routes_cells, .int s_t_routes_64.2.2])), (a_t_letters, .inl (cC, 99, .inl s_t_letters)), (a_t_routes_cells, .inl (cI, s_t_routes_cells_64.1, .inl s_t_routes_cells_64.2)), (a_t_grants_cells, .inl (cI, s_t_grants_cells_64.1, .inl s_t_grants_cells_64.2))] H → va_D A [(a_t, .inr (2, [.ref a_t_letters, .int s_t_64.1, .ref a_t_papers, .ref a_t_grants, .ref a_t_routes, .int s_t_64.2.1, .int s_t_64.2.2])), (a_t_papers, .inr (1, [.int s_t_papers_64.1, .int s_t_papers_64.2.1, .ref a_t_papers_cells, .int s_t_papers_64.2.2])), (a_t_papers_cells, .inl (cI, s_t_papers_cells_64.1, .inl s_t_papers_cells_64.2)), (a_t_grants, .inr (1, [.int s_t_grants_64.1, .int s_t_grants_64.2.1, .ref a_t_grants_cells, .int s_t_grants_64.2.2])), (a_t_routes, .inr (1, [.int s_t_routes_64.1, .int s_t_routes_64.2.1, .ref a_t_routes_cells, .int s_t_routes_64.2.2])), (a_t_letters, .inl (cC, 99, .inl s_t_letters)), (a_t_routes_cells, .inl (cI, s_t_routes_cells_64.1, .inl s_t_routes_cells_64.2)), (a_t_grants_cells, .inl (cI, s_t_grants_cells_64.1, .inl s_t_grants_cells_64.2))] → va_S A s.heap H locs → lv_has ls 2 [(0, .ref a_t), (1, .int v1_64)] → W p l e (RM 5 133) s m args below meth c H locs 0 0 Q (F0 m 64 ls []) := by
      intro n
      induction n with
      | zero =>
        intro v1_64 s_t_64 s_t_papers_64 s_t_papers_cells_64 s_t_grants_64 s_t_routes_64 s_t_routes_cells_64 s_t_grants_cells_64 hM
        rw [mX2_readAll_b64] at hM
        cases hM
      | succ n_64 ih_64 =>
        intro v1_64 s_t_64 s_t_papers_64 s_t_papers_cells_64 s_t_grants_64 s_t_routes_64 s_t_routes_cells_64 s_t_grants_cells_64 hM ls H locs hP hD hS hl
        rw [mX2_readAll_b64] at hM
        refine lv_iload_n hx hb dX2_readAll_64 rfl (lv_at hl 1 rfl) ?_
        refine lv_bipush (v := (99 : Int32)) hx hb dX2_readAll_65 (by decide) ?_
        refine lv_icmp_ge (tgt := 100) hx hb dX2_readAll_67 (by decide) (fun c67 => ?_) (fun c67 => ?_)
        · have hM := ite_t c67 hM
          refine lv_aload_n hx hb dX2_readAll_100 rfl (lv_at hl 0 rfl) ?_
          refine va_get (D := (dC, dI)) (ci := 2) (v := .int s_t_64.2.2) (C := RX2) (T := TX2) (N := 7) hx hb hU inlX2 hown hE.1 hP 0 rfl rfl 6 (by decide) (hU _ u_6_14) (fun _ h9 => h9) rfl dX2_readAll_101 ?_
          cases hM
          exact rt _ _ _ _ _ hP hS dX2_readAll_104 rfl
        · have hM := ite_f c67 hM
          refine lv_aload_n hx hb dX2_readAll_70 rfl (lv_at hl 0 rfl) ?_
          refine va_get (D := (dC, dI)) (ci := 2) (v := .int s_t_64.2.1) (C := RX2) (T := TX2) (N := 7) hx hb hU inlX2 hown hE.1 hP 0 rfl rfl 5 (by decide) (hU _ u_6_15) (fun _ h9 => h9) rfl dX2_readAll_71 ?_
          refine lv_aload_n hx hb dX2_readAll_74 rfl (lv_at hl 0 rfl) ?_
          refine va_get (D := (dC, dI)) (ci := 2) (v := .int s_t_64.1) (C := RX2) (T := TX2) (N := 7) hx hb hU inlX2 hown hE.1 hP 0 rfl rfl 1 (by decide) (hU _ u_5_11) (fun _ h9 => h9) rfl dX2_readAll_75 ?_
          refine lv_icmp_ge (tgt := 100) hx hb dX2_readAll_78 (by decide) (fun c78 => ?_) (fun c78 => ?_)
          · have hM := ite_t c78 hM
            refine lv_aload_n hx hb dX2_readAll_100 rfl (lv_at hl 0 rfl) ?_
            refine va_get (D := (dC, dI)) (ci := 2) (v := .int s_t_64.2.2) (C := RX2) (T := TX2) (N := 7) hx hb hU inlX2 hown hE.1 hP 0 rfl rfl 6 (by decide) (hU _ u_6_14) (fun _ h9 => h9) rfl dX2_readAll_101 ?_
            cases hM
            exact rt _ _ _ _ _ hP hS dX2_readAll_104 rfl
          · have hM := ite_f c78 hM
            refine lv_aload_n hx hb dX2_readAll_81 rfl (lv_at hl 0 rfl) ?_
            refine va_get (D := (dC, dI)) (ci := 2) (v := .int s_t_64.2.2) (C := RX2) (T := TX2) (N := 7) hx hb hU inlX2 hown hE.1 hP 0 rfl rfl 6 (by decide) (hU _ u_6_14) (fun _ h9 => h9) rfl dX2_readAll_82 ?_
            refine lv_bipush (v := (-9 : Int32)) hx hb dX2_readAll_85 (by decide) ?_
            refine lv_icmp_ne (tgt := 100) hx hb dX2_readAll_87 (by decide) (fun c87 => ?_) (fun c87 => ?_)
            · have hM := ite_f c87 hM
              refine lv_aload_n hx hb dX2_readAll_100 rfl (lv_at hl 0 rfl) ?_
              refine va_get (D := (dC, dI)) (ci := 2) (v := .int s_t_64.2.2) (C := RX2) (T := TX2) (N := 7) hx hb hU inlX2 hown hE.1 hP 0 rfl rfl 6 (by decide) (hU _ u_6_14) (fun _ h9 => h9) rfl dX2_readAll_101 ?_
              cases hM
              exact rt _ _ _ _ _ hP hS dX2_readAll_104 rfl
            · have hM := ite_t c87 hM
              refine lv_aload_n hx hb dX2_readAll_90 rfl (lv_at hl 0 rfl) ?_
              obtain ⟨x91, h91, hM⟩ := bind_e hM
              refine muV (As := []) (rest := []) (st2 := []) (nw := [(a_t, .inr (2, [.ref a_t_letters, .int x91.1.1, .ref a_t_papers, .ref a_t_grants, .ref a_t_routes, .int x91.1.2.1, .int x91.1.2.2])), (a_t_papers, .inr (1, [.int x91.2.2.2.2.1.1, .int x91.2.2.2.2.1.2.1, .ref a_t_papers_cells, .int x91.2.2.2.2.1.2.2])), (a_t_papers_cells, .inl (cI, x91.2.2.2.2.2.2.1, .inl x91.2.2.2.2.2.2.2)), (a_t_grants, .inr (1, [.int x91.2.2.2.1.1, .int x91.2.2.2.1.2.1, .ref a_t_grants_cells, .int x91.2.2.2.1.2.2])), (a_t_routes, .inr (1, [.int x91.2.1.1, .int x91.2.1.2.1, .ref a_t_routes_cells, .int x91.2.1.2.2])), (a_t_letters, .inl (cC, 99, .inl s_t_letters)), (a_t_routes_cells, .inl (cI, x91.2.2.1.1, .inl x91.2.2.1.2)), (a_t_grants_cells, .inl (cI, x91.2.2.2.2.2.1.1, .inl x91.2.2.2.2.2.1.2))]) ⟨hx, hb, hml, hown, hU⟩ hE (okX2_readPart a_t a_t_letters a_t_papers a_t_grants a_t_routes a_t_routes_cells a_t_grants_cells a_t_papers_cells s_t_64 s_t_letters s_t_routes_64 s_t_routes_cells_64 s_t_grants_64 s_t_papers_64 s_t_grants_cells_64 s_t_papers_cells_64 x91 h91) lk_X2_51 hP hD hS hA [0, 5, 4, 6, 3, 1, 7, 2] rfl rfl rfl rfl rfl rfl hl.1 rfl (Nat.le_of_ble_eq_true rfl) ⟨Nat.le_of_ble_eq_true rfl, Nat.le_of_ble_eq_true rfl⟩ dX2_readAll_91 ⟨Nat.le_refl _, Nat.le_refl _⟩ rfl rfl rfl rfl (fun H locs hP hD hS => ?_)
              refine lv_iinc (v := (v1_64 + (1 : Int32))) (lv' := [(1, .int (v1_64 + (1 : Int32))), (0, .ref a_t)]) hx hb dX2_readAll_94 hl (k := 1) rfl rfl (by decide) rfl (fun ls hl => ?_)
              refine lv_goto (tgt := 64) hx hb dX2_readAll_97 (by decide) ?_
              exact ih_64 (v1_64 + (1 : Int32)) x91.1 x91.2.2.2.2.1 x91.2.2.2.2.2.2 x91.2.2.2.1 x91.2.1 x91.2.2.1 x91.2.2.2.2.2.1 hM ls _ _ hP hD hS (lv_sub hl [1, 0] rfl)
    exact w_64 FU (0 : Int32) (s_t.1, (1 : Int32), (-9 : Int32)) x19.2.1 x19.2.2 (s_t_grants.1, s_t_grants.2.1, (0 : Int32)) (s_t_routes.1, s_t_routes.2.1, (0 : Int32)) s_t_routes_cells s_t_grants_cells hM ls _ _ hP hD hS (lv_sub hl [1, 0] rfl)
  · have hM := ite_f c52 hM
    refine lv_iconst (v := (0 : Int32)) hx hb dX2_readAll_55 (by decide) ?_
    cases hM
    exact rt _ _ _ _ _ hP hS dX2_readAll_56 rfl
